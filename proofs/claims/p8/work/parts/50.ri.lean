-- method 233: Model.readsCar()V
set_option maxRecDepth 100000 in
set_option maxHeartbeats 100000000 in
theorem ct_233_236 {L : Nat} {xs : Nat → Int32} {d b c : Nat} {h : hp} {cr : Nat → Nat → Option Nat} {Q : hp_Q} (hcr : CR cr)  {tB : Nat → Int} {tn tp : Int} {tS : tk_S} (g : GI h)   (pp0 : h 236 4 ≤ h 236 3) (pp1 : 0 ≤ tp) (pp2 : tp ≤ tn) (pp3 : tp ≤ tk_nx tB tn tp ∧ tk_nx tB tn tp ≤ tn) (pp4 : h 236 8 = 0) (pp5 : h 239 5 ≤ 9) (pp6 : 1 ≤ h 239 5) (pp7 : h 239 7 ≤ 3) (pp8 : h 239 15 ≤ 6) (pp9 : h 239 16 ≤ 6) (pp10 : h 239 17 ≤ 6) (pp11 : h 239 18 ≤ 6) (pp12 : (h 236 4 = tk_nx tB tn tp ∧ h 236 5 = tk_st tB tn tp ∧ ((tk_kd tB tn tp = 0 ∧ h 236 6 = 0) ∨ (tk_kd tB tn tp = 1 ∧ h 236 6 = 1 ∧ h 236 12 = tk_sw tB tn tp) ∨ (tk_kd tB tn tp = 2 ∧ h 236 6 = 2 ∧ h 236 7 = tk_nb tB tn tp) ∨ (tk_kd tB tn tp = 3 ∧ h 236 6 = 3 ∧ h 236 7 = 59) ∨ (tk_kd tB tn tp = 4 ∧ h 236 6 = 3 ∧ h 236 7 = 40) ∨ (tk_kd tB tn tp = 5 ∧ h 236 6 = 3 ∧ h 236 7 = 41) ∨ (tk_kd tB tn tp = 6 ∧ h 236 6 = 4)))) (pp13 : tS 0 ≤ 5 ∧ tS 1 ≤ 4 ∧ tS 2 ≤ 12) (pp14 : h 236 9 = -1) (pp15 : tk_kd tB tn tp = 1) (xq0 : RefB tB tn h) (xq1 : CVr tS h) (k : ∀ (h2 : hp) , GI h2 → FR [(236, 236, some (4, 4)), (236, 236, some (5, 5)), (236, 236, some (6, 6)), (236, 236, some (7, 7)), (236, 236, some (8, 8)), (236, 236, some (9, 9)), (236, 236, some (12, 12)), (239, 239, some (2, 2)), (239, 239, some (19, 30)), (239, 239, some (31, 42)), (239, 239, some (43, 54))] h h2 → (h 236 4 ≤ h2 236 4) → (h2 236 4 ≤ h 236 3) → (1 ≤ h2 236 8 ∨ (h2 239 5 ≤ 9 ∧ 1 ≤ h2 239 5 ∧ h2 239 7 ≤ 3 ∧ h2 239 15 ≤ 6 ∧ h2 239 16 ≤ 6 ∧ h2 239 17 ≤ 6 ∧ h2 239 18 ≤ 6)) → (h2 236 8 ≠ 0 ∨ h2 236 9 = -1) → (tk_OR tB tn (tk_car tB tn tp tS) h2) → Q (.inl none) (hp_w h2 cr) b c) : wp (md_xa (L, xs)) (d + 5) 233 (0, [(0, .ref 236)], [], hp_w h cr, b, c) Q := by
  have F0 : FR [(236, 236, some (4, 4)), (236, 236, some (5, 5)), (236, 236, some (6, 6)), (236, 236, some (7, 7)), (236, 236, some (8, 8)), (236, 236, some (9, 9)), (236, 236, some (12, 12)), (239, 239, some (2, 2)), (239, 239, some (19, 30)), (239, 239, some (31, 42)), (239, 239, some (43, 54))] h h := FR.refl
  have tb_1 : h 236 3 = tn := xq0.2.1
  have tb_2 : 0 ≤ tn ∧ tn ≤ 800 := xq0.2.2
  obtain ⟨⟨rv_0, rv_1, rv_2, rv_3, rv_4, rv_5, rv_6, rv_7, rv_8, rv_9⟩, ⟨rf_0, rf_1, rf_2, rf_3⟩, -⟩ := id xq1
  have b1 := gi_b (lo := 0) (hi := 5) g 239 0 rfl
  have b2 := gi_b (lo := 0) (hi := 4) g 239 1 rfl
  have b3 := gi_b (lo := 0) (hi := 12) g 239 2 rfl
  have b4 := gi_b (lo := 0) (hi := 800) g 236 4 rfl
  have b5 := gi_b (lo := 0) (hi := 800) g 236 3 rfl
  have b6 := gi_b (lo := 0) (hi := 5) g 236 8 rfl
  have b7 := gi_b (lo := 0) (hi := 999) g 239 5 rfl
  have b8 := gi_b (lo := 0) (hi := 999) g 239 7 rfl
  have b9 := gi_b (lo := 0) (hi := 999) g 239 15 rfl
  have b10 := gi_b (lo := 0) (hi := 999) g 239 16 rfl
  have b11 := gi_b (lo := 0) (hi := 999) g 239 17 rfl
  have b12 := gi_b (lo := 0) (hi := 999) g 239 18 rfl
  have b13 := gi_b (lo := 0) (hi := 800) g 236 5 rfl
  have b14 := gi_b (lo := 0) (hi := 4) g 236 6 rfl
  have b15 := gi_b (lo := -9223372036854775808) (hi := 9223372036854775807) g 236 12 rfl
  have b16 := gi_b (lo := 0) (hi := 999) g 236 7 rfl
  have b17 := gi_b (lo := -2147483648) (hi := 2147483647) g 236 9 rfl
  refine wi_aload_n (i := 0) (x := 236) (nx := 1) (r1 := 0) (r2 := 0) (r3 := 0) rfl rfl ?_
  refine wr_gr (k0 := 236) (x := 239) (nx := 4) (r1 := 11) (r2 := 14) (r3 := 0) rfl rfl (by decide) rfl ⟨rfl, rfl⟩ rfl ?_
  refine wi_iconst (n := 2) (nx := 5) (r1 := 0) (r2 := 0) (r3 := 0) rfl ?_
  refine wr_ia (k0 := 239) (a := 2) (f := 2) (x := h 239 2) (nx := 6) (r1 := 0) (r2 := 0) (r3 := 0) rfl (by decide) rfl (by omega) (by omega) (by decide) rfl ?_
  refine wi_istore_n (i := 1) (e := h 239 2) (lo2 := [(1, vi (h 239 2)), (0, .ref 236)]) (nx := 7) (r1 := 0) (r2 := 0) (r3 := 0) rfl rfl ?_
  refine wi_aload_n (i := 0) (x := 236) (nx := 8) (r1 := 0) (r2 := 0) (r3 := 0) rfl rfl ?_
  refine wi_iconst (n := 2) (nx := 9) (r1 := 0) (r2 := 0) (r3 := 0) rfl ?_
  refine wi_bipush (n := 12) (nx := 11) (r1 := 0) (r2 := 0) (r3 := 0) rfl (by decide) ?_
  refine wr_V (k0 := 236) (rest := []) (as := [.ref 236, vi 2, vi 12]) (nx := 14) (r1 := 223) (r2 := 2) (r3 := 11) rfl rfl rfl (of_decide_eq_true rfl) rfl rfl (by decide) rfl rfl (of_decide_eq_true rfl) (of_decide_eq_true rfl) ?_
  refine wi_aload_n (i := 0) (x := 236) (nx := 1) (r1 := 0) (r2 := 0) (r3 := 0) rfl rfl ?_
  refine wr_gr (k0 := 236) (x := 239) (nx := 4) (r1 := 11) (r2 := 14) (r3 := 0) rfl rfl (by decide) rfl ⟨rfl, rfl⟩ rfl ?_
  refine wi_iload_n (i := 1) (e := 2) (nx := 5) (r1 := 0) (r2 := 0) (r3 := 0) rfl rfl ?_
  refine wr_ia (k0 := 239) (a := 2) (f := 2) (x := h 239 2) (nx := 6) (r1 := 0) (r2 := 0) (r3 := 0) rfl (by decide) rfl (by omega) (by omega) (by decide) rfl ?_
  refine wi_iload_n (i := 2) (e := 12) (nx := 7) (r1 := 0) (r2 := 0) (r3 := 0) rfl rfl ?_
  refine wi_icmp (cd := .ne) (nx := 10) (r1 := 15) (r2 := 0) (r3 := 0) rfl (by omega) (by omega) (fun (q18 : (h 239 2) ≠ 12) => ?_) (fun (q18 : ¬ ((h 239 2) ≠ 12)) => ?_)
  ·
    refine wi_aload_n (i := 0) (x := 236) (nx := 16) (r1 := 0) (r2 := 0) (r3 := 0) rfl rfl ?_
    refine wr_V (k0 := 236) (rest := []) (as := [.ref 236]) (nx := 19) (r1 := 219) (r2 := 0) (r3 := 11) rfl rfl rfl (of_decide_eq_true rfl) rfl rfl (by decide) rfl rfl (of_decide_eq_true rfl) (of_decide_eq_true rfl) ?_
    refine wi_aload_n (i := 0) (x := 236) (nx := 1) (r1 := 0) (r2 := 0) (r3 := 0) rfl rfl ?_
    refine wr_gi0 (k0 := 236) (x := h 236 8) (nx := 4) (r1 := 11) (r2 := 8) (r3 := 0) rfl rfl (by decide) rfl ⟨rfl, rfl⟩ rfl rfl ?_
    refine wi_if (cd := .ne) (nx := 7) (r1 := 11) (r2 := 0) (r3 := 0) rfl (by omega) (fun (q19 : (h 236 8) ≠ 0) => by exfalso; omega) (fun (q19 : ¬ ((h 236 8) ≠ 0)) => ?_)
    refine wi_iconst (n := 1) (nx := 8) (r1 := 0) (r2 := 0) (r3 := 0) rfl ?_
    refine wi_goto (nx := 11) (r1 := 12) (r2 := 0) (r3 := 0) rfl ?_
    refine wi_zreturn (nx := 13) (r1 := 0) (r2 := 0) (r3 := 0) rfl rfl (by omega) ?_
    refine wk_i ?_
    refine wi_if (cd := .eq) (nx := 22) (r1 := 26) (r2 := 0) (r3 := 0) rfl (by omega) (fun (q20 : 1 = 0) => by exfalso; omega) (fun (q20 : ¬ (1 = 0)) => ?_)
    refine wi_aload_n (i := 0) (x := 236) (nx := 23) (r1 := 0) (r2 := 0) (r3 := 0) rfl rfl ?_
    refine wr_V (k0 := 236) (rest := []) (as := [.ref 236]) (nx := 26) (r1 := 215) (r2 := 0) (r3 := 11) rfl rfl rfl (of_decide_eq_true rfl) rfl rfl (by decide) rfl rfl (of_decide_eq_true rfl) (of_decide_eq_true rfl) ?_
    refine ct_215_236 hcr  g   (show (h 236 4) ≤ (h 236 3) by omega) (show (h 236 4) = (tk_nx tB tn tp) by omega) (show 0 ≤ (tk_nx tB tn tp) by omega) (show (tk_nx tB tn tp) ≤ tn by omega) xq0 (fun h21 g21 u21 (p21_0 : (h 236 4) ≤ (h21 236 4)) (p21_1 : (h21 236 4) ≤ (h 236 3)) (p21_2 : ((h21 236 4) = tk_nx tB tn (tk_nx tB tn tp) ∧ (h21 236 5) = tk_st tB tn (tk_nx tB tn tp) ∧ ((tk_kd tB tn (tk_nx tB tn tp) = 0 ∧ (h21 236 6) = 0) ∨ (tk_kd tB tn (tk_nx tB tn tp) = 1 ∧ (h21 236 6) = 1 ∧ (h21 236 12) = tk_sw tB tn (tk_nx tB tn tp)) ∨ (tk_kd tB tn (tk_nx tB tn tp) = 2 ∧ (h21 236 6) = 2 ∧ (h21 236 7) = tk_nb tB tn (tk_nx tB tn tp)) ∨ (tk_kd tB tn (tk_nx tB tn tp) = 3 ∧ (h21 236 6) = 3 ∧ (h21 236 7) = 59) ∨ (tk_kd tB tn (tk_nx tB tn tp) = 4 ∧ (h21 236 6) = 3 ∧ (h21 236 7) = 40) ∨ (tk_kd tB tn (tk_nx tB tn tp) = 5 ∧ (h21 236 6) = 3 ∧ (h21 236 7) = 41) ∨ (tk_kd tB tn (tk_nx tB tn tp) = 6 ∧ (h21 236 6) = 4)))) (p21_3 : (tk_nx tB tn tp) ≤ tk_nx tB tn (tk_nx tB tn tp) ∧ tk_nx tB tn (tk_nx tB tn tp) ≤ tn) => ?_)
    have F22 := F0.then (by decide +kernel) u21
    have b23 := gi_b (lo := 0) (hi := 800) g21 236 4 rfl
    have b24 := gi_b (lo := 0) (hi := 800) g21 236 5 rfl
    have b25 := gi_b (lo := 0) (hi := 4) g21 236 6 rfl
    have b26 := gi_b (lo := -9223372036854775808) (hi := 9223372036854775807) g21 236 12 rfl
    have b27 := gi_b (lo := 0) (hi := 999) g21 236 7 rfl
    have tN28 := @tk_nx_b tB tn (tk_nx tB tn tp) (by omega) (by omega)
    refine wk_n ?_
    refine wi_aload_n (i := 0) (x := 236) (nx := 27) (r1 := 0) (r2 := 0) (r3 := 0) rfl rfl ?_
    refine wr_V (k0 := 236) (rest := []) (as := [.ref 236]) (nx := 30) (r1 := 219) (r2 := 0) (r3 := 11) rfl rfl rfl (of_decide_eq_true rfl) rfl rfl (by decide) rfl rfl (of_decide_eq_true rfl) (of_decide_eq_true rfl) ?_
    refine wi_aload_n (i := 0) (x := 236) (nx := 1) (r1 := 0) (r2 := 0) (r3 := 0) rfl rfl ?_
    refine wr_gi0 (k0 := 236) (x := h 236 8) (nx := 4) (r1 := 11) (r2 := 8) (r3 := 0) rfl rfl (by decide) rfl ⟨rfl, rfl⟩ rfl (u21 236 8 rfl) ?_
    refine wi_if (cd := .ne) (nx := 7) (r1 := 11) (r2 := 0) (r3 := 0) rfl (by omega) (fun (q29 : (h 236 8) ≠ 0) => by exfalso; omega) (fun (q29 : ¬ ((h 236 8) ≠ 0)) => ?_)
    refine wi_iconst (n := 1) (nx := 8) (r1 := 0) (r2 := 0) (r3 := 0) rfl ?_
    refine wi_goto (nx := 11) (r1 := 12) (r2 := 0) (r3 := 0) rfl ?_
    refine wi_zreturn (nx := 13) (r1 := 0) (r2 := 0) (r3 := 0) rfl rfl (by omega) ?_
    refine wk_i ?_
    refine wi_zreturn (nx := 31) (r1 := 0) (r2 := 0) (r3 := 0) rfl rfl (by omega) ?_
    refine wk_i ?_
    refine wi_if (cd := .ne) (nx := 17) (r1 := 18) (r2 := 0) (r3 := 0) rfl (by omega) (fun (q30 : 1 ≠ 0) => ?_) (fun (q30 : ¬ (1 ≠ 0)) => by exfalso; omega)
    refine wi_aload_n (i := 0) (x := 236) (nx := 19) (r1 := 0) (r2 := 0) (r3 := 0) rfl rfl ?_
    refine wr_V (k0 := 236) (rest := []) (as := [.ref 236]) (nx := 22) (r1 := 225) (r2 := 0) (r3 := 11) rfl rfl rfl (of_decide_eq_true rfl) rfl rfl (by decide) rfl rfl (of_decide_eq_true rfl) (of_decide_eq_true rfl) ?_
    have e32 : h21 236 8 = h 236 8 := (u21 236 8 rfl)
    have rb33 := RefB.fr u21 rfl xq0
    refine ct_225_236 hcr  g21   (show 0 ≤ (tk_nx tB tn tp) by omega) (show (tk_nx tB tn tp) ≤ tn by omega) (show (tk_nx tB tn tp) ≤ tk_nx tB tn (tk_nx tB tn tp) ∧ tk_nx tB tn (tk_nx tB tn tp) ≤ tn by omega) (show 1 ≤ (h21 236 8) ∨ ((h21 236 4) = tk_nx tB tn (tk_nx tB tn tp) ∧ (h21 236 5) = tk_st tB tn (tk_nx tB tn tp) ∧ ((tk_kd tB tn (tk_nx tB tn tp) = 0 ∧ (h21 236 6) = 0) ∨ (tk_kd tB tn (tk_nx tB tn tp) = 1 ∧ (h21 236 6) = 1 ∧ (h21 236 12) = tk_sw tB tn (tk_nx tB tn tp)) ∨ (tk_kd tB tn (tk_nx tB tn tp) = 2 ∧ (h21 236 6) = 2 ∧ (h21 236 7) = tk_nb tB tn (tk_nx tB tn tp)) ∨ (tk_kd tB tn (tk_nx tB tn tp) = 3 ∧ (h21 236 6) = 3 ∧ (h21 236 7) = 59) ∨ (tk_kd tB tn (tk_nx tB tn tp) = 4 ∧ (h21 236 6) = 3 ∧ (h21 236 7) = 40) ∨ (tk_kd tB tn (tk_nx tB tn tp) = 5 ∧ (h21 236 6) = 3 ∧ (h21 236 7) = 41) ∨ (tk_kd tB tn (tk_nx tB tn tp) = 6 ∧ (h21 236 6) = 4))) from (Or.inr (show ((h21 236 4) = tk_nx tB tn (tk_nx tB tn tp) ∧ (h21 236 5) = tk_st tB tn (tk_nx tB tn tp) ∧ ((tk_kd tB tn (tk_nx tB tn tp) = 0 ∧ (h21 236 6) = 0) ∨ (tk_kd tB tn (tk_nx tB tn tp) = 1 ∧ (h21 236 6) = 1 ∧ (h21 236 12) = tk_sw tB tn (tk_nx tB tn tp)) ∨ (tk_kd tB tn (tk_nx tB tn tp) = 2 ∧ (h21 236 6) = 2 ∧ (h21 236 7) = tk_nb tB tn (tk_nx tB tn tp)) ∨ (tk_kd tB tn (tk_nx tB tn tp) = 3 ∧ (h21 236 6) = 3 ∧ (h21 236 7) = 59) ∨ (tk_kd tB tn (tk_nx tB tn tp) = 4 ∧ (h21 236 6) = 3 ∧ (h21 236 7) = 40) ∨ (tk_kd tB tn (tk_nx tB tn tp) = 5 ∧ (h21 236 6) = 3 ∧ (h21 236 7) = 41) ∨ (tk_kd tB tn (tk_nx tB tn tp) = 6 ∧ (h21 236 6) = 4))) by first | assumption | exact tk_mv (by assumption) (by omega) (by omega) (by omega) (by omega) (by omega)))) rb33 (fun h31 g31 u31 (p31_0 : (1 ≤ (h21 236 8) ∧ (h31 236 8) = (h21 236 8) ∧ (h31 236 9) = (h21 236 9)) ∨ ((h21 236 8) = 0 ∧ tk_kd tB tn (tk_nx tB tn tp) = 1 ∧ tk_wd (tk_lw tB tn (tk_nx tB tn tp)) = 21 ∧ (h31 236 8) = (h21 236 8) ∧ (h31 236 9) = (h21 236 9)) ∨ ((h21 236 8) = 0 ∧ (tk_kd tB tn (tk_nx tB tn tp) ≠ 1 ∨ tk_wd (tk_lw tB tn (tk_nx tB tn tp)) ≠ 21) ∧ (h31 236 8) = 1 ∧ (h31 236 9) = tk_st tB tn (tk_nx tB tn tp))) (p31_1 : 1 ≤ (h31 236 8) ∨ (h21 236 8) = 0) => ?_)
    have F34 := F22.then (by decide +kernel) u31
    have e35 : h21 236 9 = h 236 9 := (u21 236 9 rfl)
    have b36 := gi_b (lo := 0) (hi := 5) g31 236 8 rfl
    have b37 := gi_b (lo := -2147483648) (hi := 2147483647) g31 236 9 rfl
    refine wk_n ?_
    rcases p31_0 with p31_0 | p31_0 | p31_0
    ·
      exfalso; omega
    ·
      refine wi_aload_n (i := 0) (x := 236) (nx := 23) (r1 := 0) (r2 := 0) (r3 := 0) rfl rfl ?_
      refine wr_V (k0 := 236) (rest := []) (as := [.ref 236]) (nx := 26) (r1 := 227) (r2 := 0) (r3 := 11) rfl rfl rfl (of_decide_eq_true rfl) rfl rfl (by decide) rfl rfl (of_decide_eq_true rfl) (of_decide_eq_true rfl) ?_
      have e39 : h31 236 12 = h21 236 12 := (u31 236 12 rfl)
      have rb41 := RefB.fr u31 rfl rb33
      have cr42 := CVr.fr u21 rfl xq1
      have cr43 := CVr.fr u31 rfl cr42
      refine ct_227_236 hcr  g31   (show 0 ≤ (tk_nx tB tn tp) by omega) (show (tk_nx tB tn tp) ≤ tn by omega) (show (tk_nx tB tn tp) ≤ tk_nx tB tn (tk_nx tB tn tp) ∧ tk_nx tB tn (tk_nx tB tn tp) ≤ tn by omega) (show tk_kd tB tn (tk_nx tB tn tp) = 1 → (h31 236 12) = tk_sw tB tn (tk_nx tB tn tp) by omega) rb41 cr43 (fun z40  (fz40 : 0 ≤ z40 ∧ z40 ≤ 5) (p38_0 : z40 ≤ (h31 239 0)) y38_0 => ?_)
      have e44 : h31 239 0 = h 239 0 := ((u31 239 0 rfl).trans (u21 239 0 rfl))
      refine wk_i ?_
      have nd45 : tk_kd tB tn (tk_nx tB tn tp) = 1 → z40 = tk_fi tS (tk_lw tB tn (tk_nx tB tn tp)) := y38_0
      refine wi_istore_n (i := 2) (e := z40) (lo2 := [(2, vi z40), (1, vi (h 239 2)), (0, .ref 236)]) (nx := 27) (r1 := 0) (r2 := 0) (r3 := 0) rfl rfl ?_
      refine wi_aload_n (i := 0) (x := 236) (nx := 28) (r1 := 0) (r2 := 0) (r3 := 0) rfl rfl ?_
      refine wr_V (k0 := 236) (rest := []) (as := [.ref 236]) (nx := 31) (r1 := 219) (r2 := 0) (r3 := 11) rfl rfl rfl (of_decide_eq_true rfl) rfl rfl (by decide) rfl rfl (of_decide_eq_true rfl) (of_decide_eq_true rfl) ?_
      refine wi_aload_n (i := 0) (x := 236) (nx := 1) (r1 := 0) (r2 := 0) (r3 := 0) rfl rfl ?_
      refine wr_gi0 (k0 := 236) (x := h31 236 8) (nx := 4) (r1 := 11) (r2 := 8) (r3 := 0) rfl rfl (by decide) rfl ⟨rfl, rfl⟩ rfl rfl ?_
      refine wi_if (cd := .ne) (nx := 7) (r1 := 11) (r2 := 0) (r3 := 0) rfl (by omega) (fun (q46 : (h31 236 8) ≠ 0) => by exfalso; omega) (fun (q46 : ¬ ((h31 236 8) ≠ 0)) => ?_)
      refine wi_iconst (n := 1) (nx := 8) (r1 := 0) (r2 := 0) (r3 := 0) rfl ?_
      refine wi_goto (nx := 11) (r1 := 12) (r2 := 0) (r3 := 0) rfl ?_
      refine wi_zreturn (nx := 13) (r1 := 0) (r2 := 0) (r3 := 0) rfl rfl (by omega) ?_
      refine wk_i ?_
      refine wi_if (cd := .eq) (nx := 34) (r1 := 49) (r2 := 0) (r3 := 0) rfl (by omega) (fun (q47 : 1 = 0) => by exfalso; omega) (fun (q47 : ¬ (1 = 0)) => ?_)
      refine wi_iload_n (i := 2) (e := z40) (nx := 35) (r1 := 0) (r2 := 0) (r3 := 0) rfl rfl ?_
      refine wi_aload_n (i := 0) (x := 236) (nx := 36) (r1 := 0) (r2 := 0) (r3 := 0) rfl rfl ?_
      refine wr_gr (k0 := 236) (x := 239) (nx := 39) (r1 := 11) (r2 := 14) (r3 := 0) rfl rfl (by decide) rfl ⟨rfl, rfl⟩ rfl ?_
      refine wi_iconst (n := 0) (nx := 40) (r1 := 0) (r2 := 0) (r3 := 0) rfl ?_
      refine wr_ia (k0 := 239) (a := 0) (f := 0) (x := h 239 0) (nx := 41) (r1 := 0) (r2 := 0) (r3 := 0) rfl (by decide) rfl (by omega) (by omega) (by decide) ((u31 239 0 rfl).trans (u21 239 0 rfl)) ?_
      refine wi_icmp (cd := .ne) (nx := 44) (r1 := 49) (r2 := 0) (r3 := 0) rfl (by omega) (by omega) (fun (q48 : z40 ≠ (h 239 0)) => ?_) (fun (q48 : ¬ (z40 ≠ (h 239 0))) => ?_)
      ·
        refine wi_aload_n (i := 0) (x := 236) (nx := 50) (r1 := 0) (r2 := 0) (r3 := 0) rfl rfl ?_
        refine wr_V (k0 := 236) (rest := []) (as := [.ref 236]) (nx := 53) (r1 := 219) (r2 := 0) (r3 := 11) rfl rfl rfl (of_decide_eq_true rfl) rfl rfl (by decide) rfl rfl (of_decide_eq_true rfl) (of_decide_eq_true rfl) ?_
        refine wi_aload_n (i := 0) (x := 236) (nx := 1) (r1 := 0) (r2 := 0) (r3 := 0) rfl rfl ?_
        refine wr_gi0 (k0 := 236) (x := h31 236 8) (nx := 4) (r1 := 11) (r2 := 8) (r3 := 0) rfl rfl (by decide) rfl ⟨rfl, rfl⟩ rfl rfl ?_
        refine wi_if (cd := .ne) (nx := 7) (r1 := 11) (r2 := 0) (r3 := 0) rfl (by omega) (fun (q49 : (h31 236 8) ≠ 0) => by exfalso; omega) (fun (q49 : ¬ ((h31 236 8) ≠ 0)) => ?_)
        refine wi_iconst (n := 1) (nx := 8) (r1 := 0) (r2 := 0) (r3 := 0) rfl ?_
        refine wi_goto (nx := 11) (r1 := 12) (r2 := 0) (r3 := 0) rfl ?_
        refine wi_zreturn (nx := 13) (r1 := 0) (r2 := 0) (r3 := 0) rfl rfl (by omega) ?_
        refine wk_i ?_
        refine wi_if (cd := .ne) (nx := 56) (r1 := 57) (r2 := 0) (r3 := 0) rfl (by omega) (fun (q50 : 1 ≠ 0) => ?_) (fun (q50 : ¬ (1 ≠ 0)) => by exfalso; omega)
        refine wi_aload_n (i := 0) (x := 236) (nx := 58) (r1 := 0) (r2 := 0) (r3 := 0) rfl rfl ?_
        refine wr_V (k0 := 236) (rest := []) (as := [.ref 236]) (nx := 61) (r1 := 215) (r2 := 0) (r3 := 11) rfl rfl rfl (of_decide_eq_true rfl) rfl rfl (by decide) rfl rfl (of_decide_eq_true rfl) (of_decide_eq_true rfl) ?_
        have e52 : h31 236 4 = h21 236 4 := (u31 236 4 rfl)
        have e53 : h31 236 3 = h 236 3 := ((u31 236 3 rfl).trans (u21 236 3 rfl))
        refine ct_215_236 hcr  g31   (show (h31 236 4) ≤ (h31 236 3) by omega) (show (h31 236 4) = (tk_nx tB tn (tk_nx tB tn tp)) by omega) (show 0 ≤ (tk_nx tB tn (tk_nx tB tn tp)) by omega) (show (tk_nx tB tn (tk_nx tB tn tp)) ≤ tn by omega) rb41 (fun h51 g51 u51 (p51_0 : (h31 236 4) ≤ (h51 236 4)) (p51_1 : (h51 236 4) ≤ (h31 236 3)) (p51_2 : ((h51 236 4) = tk_nx tB tn (tk_nx tB tn (tk_nx tB tn tp)) ∧ (h51 236 5) = tk_st tB tn (tk_nx tB tn (tk_nx tB tn tp)) ∧ ((tk_kd tB tn (tk_nx tB tn (tk_nx tB tn tp)) = 0 ∧ (h51 236 6) = 0) ∨ (tk_kd tB tn (tk_nx tB tn (tk_nx tB tn tp)) = 1 ∧ (h51 236 6) = 1 ∧ (h51 236 12) = tk_sw tB tn (tk_nx tB tn (tk_nx tB tn tp))) ∨ (tk_kd tB tn (tk_nx tB tn (tk_nx tB tn tp)) = 2 ∧ (h51 236 6) = 2 ∧ (h51 236 7) = tk_nb tB tn (tk_nx tB tn (tk_nx tB tn tp))) ∨ (tk_kd tB tn (tk_nx tB tn (tk_nx tB tn tp)) = 3 ∧ (h51 236 6) = 3 ∧ (h51 236 7) = 59) ∨ (tk_kd tB tn (tk_nx tB tn (tk_nx tB tn tp)) = 4 ∧ (h51 236 6) = 3 ∧ (h51 236 7) = 40) ∨ (tk_kd tB tn (tk_nx tB tn (tk_nx tB tn tp)) = 5 ∧ (h51 236 6) = 3 ∧ (h51 236 7) = 41) ∨ (tk_kd tB tn (tk_nx tB tn (tk_nx tB tn tp)) = 6 ∧ (h51 236 6) = 4)))) (p51_3 : (tk_nx tB tn (tk_nx tB tn tp)) ≤ tk_nx tB tn (tk_nx tB tn (tk_nx tB tn tp)) ∧ tk_nx tB tn (tk_nx tB tn (tk_nx tB tn tp)) ≤ tn) => ?_)
        have F54 := F34.then (by decide +kernel) u51
        have b55 := gi_b (lo := 0) (hi := 800) g51 236 4 rfl
        have b56 := gi_b (lo := 0) (hi := 800) g51 236 5 rfl
        have b57 := gi_b (lo := 0) (hi := 4) g51 236 6 rfl
        have b58 := gi_b (lo := -9223372036854775808) (hi := 9223372036854775807) g51 236 12 rfl
        have b59 := gi_b (lo := 0) (hi := 999) g51 236 7 rfl
        have tN60 := @tk_nx_b tB tn (tk_nx tB tn (tk_nx tB tn tp)) (by omega) (by omega)
        refine wk_n ?_
        refine wi_aload_n (i := 0) (x := 236) (nx := 62) (r1 := 0) (r2 := 0) (r3 := 0) rfl rfl ?_
        refine wr_gr (k0 := 236) (x := 239) (nx := 65) (r1 := 11) (r2 := 14) (r3 := 0) rfl rfl (by decide) rfl ⟨rfl, rfl⟩ rfl ?_
        refine wi_bipush (n := 31) (nx := 67) (r1 := 0) (r2 := 0) (r3 := 0) rfl (by decide) ?_
        refine wi_iload_n (i := 1) (e := h 239 2) (nx := 68) (r1 := 0) (r2 := 0) (r3 := 0) rfl rfl ?_
        refine wr_add (nx := 69) (r1 := 0) (r2 := 0) (r3 := 0) rfl (fun e61 (fe61 : e61 = 31 + (h 239 2)) => ?_)
        refine wi_iload_n (i := 2) (e := z40) (nx := 70) (r1 := 0) (r2 := 0) (r3 := 0) rfl rfl ?_
        obtain ⟨i62, ei62⟩ : ∃ q : Nat, e61 = (q : Int) := ⟨(e61).toNat, by omega⟩
        refine wr_is (k0 := 239) (a := e61) (f := i62) (x := z40) (bl := 0) (bh := 4) (nx := 71) (r1 := 0) (r2 := 0) (r3 := 0) rfl (by decide) rfl (by omega) (by omega) (by decide) g51 (gi_rq 31 12 (fun _ => rfl) (by decide +kernel) (by omega)) (by omega) (fun h63 g63 w63 u63 => ?_)
        have F64 := F54.then rfl (FR.idx (p := 31) (q := 42) u63 (by omega))
        refine wi_aload_n (i := 0) (x := 236) (nx := 72) (r1 := 0) (r2 := 0) (r3 := 0) rfl rfl ?_
        refine wr_gr (k0 := 236) (x := 239) (nx := 75) (r1 := 11) (r2 := 14) (r3 := 0) rfl rfl (by decide) rfl ⟨rfl, rfl⟩ rfl ?_
        refine wi_bipush (n := 19) (nx := 77) (r1 := 0) (r2 := 0) (r3 := 0) rfl (by decide) ?_
        refine wi_iload_n (i := 1) (e := h 239 2) (nx := 78) (r1 := 0) (r2 := 0) (r3 := 0) rfl rfl ?_
        refine wr_add (nx := 79) (r1 := 0) (r2 := 0) (r3 := 0) rfl (fun e65 (fe65 : e65 = 19 + (h 239 2)) => ?_)
        refine wi_aload_n (i := 0) (x := 236) (nx := 80) (r1 := 0) (r2 := 0) (r3 := 0) rfl rfl ?_
        refine wi_ldc2_w (e := 81049) (nx := 83) (r1 := 81049) (r2 := 0) (r3 := 0) rfl (by decide) ?_
        refine wi_iconst (n := 0) (nx := 84) (r1 := 0) (r2 := 0) (r3 := 0) rfl ?_
        refine wi_iconst (n := 3) (nx := 85) (r1 := 0) (r2 := 0) (r3 := 0) rfl ?_
        have wk66 : tk_kd tB tn (tk_nx tB tn (tk_nx tB tn tp)) = 1 → (tk_sw tB tn (tk_nx tB tn (tk_nx tB tn tp)) = 81049 ↔ tk_wd (tk_lw tB tn (tk_nx tB tn (tk_nx tB tn tp))) = 5) := fun e => tk_wk 4 (by decide) (by omega) (by omega) e
        refine wr_V (k0 := 236) (rest := [vi e65, .ref 239]) (as := [.ref 236, vl 81049, vi 0, vi 3]) (nx := 88) (r1 := 228) (r2 := 3) (r3 := 11) rfl rfl rfl (of_decide_eq_true rfl) rfl rfl (by decide) rfl rfl (of_decide_eq_true rfl) (of_decide_eq_true rfl) ?_
        have e68 : h63 236 4 = h51 236 4 := (u63 236 4 (fn_a (by omega) fn_0))
        have e69 : h63 236 3 = h 236 3 := ((u63 236 3 (fn_a (by omega) fn_0)).trans ((u51 236 3 rfl).trans ((u31 236 3 rfl).trans (u21 236 3 rfl))))
        have e70 : h63 236 8 = h31 236 8 := ((u63 236 8 (fn_a (by omega) fn_0)).trans (u51 236 8 rfl))
        have e71 : h63 236 5 = h51 236 5 := (u63 236 5 (fn_a (by omega) fn_0))
        have e72 : h63 236 6 = h51 236 6 := (u63 236 6 (fn_a (by omega) fn_0))
        have e73 : h63 236 12 = h51 236 12 := (u63 236 12 (fn_a (by omega) fn_0))
        have e74 : h63 236 7 = h51 236 7 := (u63 236 7 (fn_a (by omega) fn_0))
        have rb76 := RefB.fr u51 rfl rb41
        have rb77 := RefB.fr u63 rfl rb76
        refine ct_228_236 hcr  g63 81049 0 3 (by omega) (by omega) (by omega) (show (h63 236 4) ≤ (h63 236 3) by omega) (show 0 ≤ (tk_nx tB tn (tk_nx tB tn tp)) by omega) (show (tk_nx tB tn (tk_nx tB tn tp)) ≤ tn by omega) (show (tk_nx tB tn (tk_nx tB tn tp)) ≤ tk_nx tB tn (tk_nx tB tn (tk_nx tB tn tp)) ∧ tk_nx tB tn (tk_nx tB tn (tk_nx tB tn tp)) ≤ tn by omega) (show 1 ≤ (h63 236 8) ∨ ((h63 236 4) = tk_nx tB tn (tk_nx tB tn (tk_nx tB tn tp)) ∧ (h63 236 5) = tk_st tB tn (tk_nx tB tn (tk_nx tB tn tp)) ∧ ((tk_kd tB tn (tk_nx tB tn (tk_nx tB tn tp)) = 0 ∧ (h63 236 6) = 0) ∨ (tk_kd tB tn (tk_nx tB tn (tk_nx tB tn tp)) = 1 ∧ (h63 236 6) = 1 ∧ (h63 236 12) = tk_sw tB tn (tk_nx tB tn (tk_nx tB tn tp))) ∨ (tk_kd tB tn (tk_nx tB tn (tk_nx tB tn tp)) = 2 ∧ (h63 236 6) = 2 ∧ (h63 236 7) = tk_nb tB tn (tk_nx tB tn (tk_nx tB tn tp))) ∨ (tk_kd tB tn (tk_nx tB tn (tk_nx tB tn tp)) = 3 ∧ (h63 236 6) = 3 ∧ (h63 236 7) = 59) ∨ (tk_kd tB tn (tk_nx tB tn (tk_nx tB tn tp)) = 4 ∧ (h63 236 6) = 3 ∧ (h63 236 7) = 40) ∨ (tk_kd tB tn (tk_nx tB tn (tk_nx tB tn tp)) = 5 ∧ (h63 236 6) = 3 ∧ (h63 236 7) = 41) ∨ (tk_kd tB tn (tk_nx tB tn (tk_nx tB tn tp)) = 6 ∧ (h63 236 6) = 4))) from (Or.inr (show ((h63 236 4) = tk_nx tB tn (tk_nx tB tn (tk_nx tB tn tp)) ∧ (h63 236 5) = tk_st tB tn (tk_nx tB tn (tk_nx tB tn tp)) ∧ ((tk_kd tB tn (tk_nx tB tn (tk_nx tB tn tp)) = 0 ∧ (h63 236 6) = 0) ∨ (tk_kd tB tn (tk_nx tB tn (tk_nx tB tn tp)) = 1 ∧ (h63 236 6) = 1 ∧ (h63 236 12) = tk_sw tB tn (tk_nx tB tn (tk_nx tB tn tp))) ∨ (tk_kd tB tn (tk_nx tB tn (tk_nx tB tn tp)) = 2 ∧ (h63 236 6) = 2 ∧ (h63 236 7) = tk_nb tB tn (tk_nx tB tn (tk_nx tB tn tp))) ∨ (tk_kd tB tn (tk_nx tB tn (tk_nx tB tn tp)) = 3 ∧ (h63 236 6) = 3 ∧ (h63 236 7) = 59) ∨ (tk_kd tB tn (tk_nx tB tn (tk_nx tB tn tp)) = 4 ∧ (h63 236 6) = 3 ∧ (h63 236 7) = 40) ∨ (tk_kd tB tn (tk_nx tB tn (tk_nx tB tn tp)) = 5 ∧ (h63 236 6) = 3 ∧ (h63 236 7) = 41) ∨ (tk_kd tB tn (tk_nx tB tn (tk_nx tB tn tp)) = 6 ∧ (h63 236 6) = 4))) by first | assumption | exact tk_mv (by assumption) (by omega) (by omega) (by omega) (by omega) (by omega)))) rb77 (fun h67 z75 g67 u67 (fz75 : 0 ≤ z75 ∧ z75 ≤ 999) (p67_0 : (1 ≤ (h63 236 8) ∧ (h67 236 8) = (h63 236 8) ∧ (h67 236 9) = (h63 236 9)) ∨ ((h63 236 8) = 0 ∧ tk_kd tB tn (tk_nx tB tn (tk_nx tB tn tp)) = 1 ∧ tk_sw tB tn (tk_nx tB tn (tk_nx tB tn tp)) = 81049 ∧ tk_kd tB tn (tk_nx tB tn (tk_nx tB tn (tk_nx tB tn tp))) = 2 ∧ 0 ≤ tk_nb tB tn (tk_nx tB tn (tk_nx tB tn (tk_nx tB tn tp))) ∧ tk_nb tB tn (tk_nx tB tn (tk_nx tB tn (tk_nx tB tn tp))) ≤ 3 ∧ z75 = tk_nb tB tn (tk_nx tB tn (tk_nx tB tn (tk_nx tB tn tp))) ∧ (h67 236 8) = (h63 236 8) ∧ (h67 236 9) = (h63 236 9) ∧ ((h67 236 4) = tk_nx tB tn (tk_nx tB tn (tk_nx tB tn (tk_nx tB tn (tk_nx tB tn tp)))) ∧ (h67 236 5) = tk_st tB tn (tk_nx tB tn (tk_nx tB tn (tk_nx tB tn (tk_nx tB tn tp)))) ∧ ((tk_kd tB tn (tk_nx tB tn (tk_nx tB tn (tk_nx tB tn (tk_nx tB tn tp)))) = 0 ∧ (h67 236 6) = 0) ∨ (tk_kd tB tn (tk_nx tB tn (tk_nx tB tn (tk_nx tB tn (tk_nx tB tn tp)))) = 1 ∧ (h67 236 6) = 1 ∧ (h67 236 12) = tk_sw tB tn (tk_nx tB tn (tk_nx tB tn (tk_nx tB tn (tk_nx tB tn tp))))) ∨ (tk_kd tB tn (tk_nx tB tn (tk_nx tB tn (tk_nx tB tn (tk_nx tB tn tp)))) = 2 ∧ (h67 236 6) = 2 ∧ (h67 236 7) = tk_nb tB tn (tk_nx tB tn (tk_nx tB tn (tk_nx tB tn (tk_nx tB tn tp))))) ∨ (tk_kd tB tn (tk_nx tB tn (tk_nx tB tn (tk_nx tB tn (tk_nx tB tn tp)))) = 3 ∧ (h67 236 6) = 3 ∧ (h67 236 7) = 59) ∨ (tk_kd tB tn (tk_nx tB tn (tk_nx tB tn (tk_nx tB tn (tk_nx tB tn tp)))) = 4 ∧ (h67 236 6) = 3 ∧ (h67 236 7) = 40) ∨ (tk_kd tB tn (tk_nx tB tn (tk_nx tB tn (tk_nx tB tn (tk_nx tB tn tp)))) = 5 ∧ (h67 236 6) = 3 ∧ (h67 236 7) = 41) ∨ (tk_kd tB tn (tk_nx tB tn (tk_nx tB tn (tk_nx tB tn (tk_nx tB tn tp)))) = 6 ∧ (h67 236 6) = 4)))) ∨ ((h63 236 8) = 0 ∧ (tk_kd tB tn (tk_nx tB tn (tk_nx tB tn tp)) ≠ 1 ∨ tk_sw tB tn (tk_nx tB tn (tk_nx tB tn tp)) ≠ 81049) ∧ (h67 236 8) = 1 ∧ (h67 236 9) = tk_st tB tn (tk_nx tB tn (tk_nx tB tn tp))) ∨ ((h63 236 8) = 0 ∧ tk_kd tB tn (tk_nx tB tn (tk_nx tB tn tp)) = 1 ∧ tk_sw tB tn (tk_nx tB tn (tk_nx tB tn tp)) = 81049 ∧ tk_kd tB tn (tk_nx tB tn (tk_nx tB tn (tk_nx tB tn tp))) ≠ 2 ∧ (h67 236 8) = 1 ∧ (h67 236 9) = tk_st tB tn (tk_nx tB tn (tk_nx tB tn (tk_nx tB tn tp)))) ∨ ((h63 236 8) = 0 ∧ tk_kd tB tn (tk_nx tB tn (tk_nx tB tn tp)) = 1 ∧ tk_sw tB tn (tk_nx tB tn (tk_nx tB tn tp)) = 81049 ∧ tk_kd tB tn (tk_nx tB tn (tk_nx tB tn (tk_nx tB tn tp))) = 2 ∧ (tk_nb tB tn (tk_nx tB tn (tk_nx tB tn (tk_nx tB tn tp))) < 0 ∨ 3 < tk_nb tB tn (tk_nx tB tn (tk_nx tB tn (tk_nx tB tn tp)))) ∧ (h67 236 8) = 2 ∧ (h67 236 9) = tk_st tB tn (tk_nx tB tn (tk_nx tB tn (tk_nx tB tn tp))))) (p67_1 : (h63 236 4) ≤ (h67 236 4)) (p67_2 : (h67 236 4) ≤ (h63 236 3)) (p67_3 : 1 ≤ (h67 236 8) ∨ (h63 236 8) = 0) (p67_4 : 1 ≤ (h67 236 8) ∨ (0 ≤ z75 ∧ z75 ≤ 3)) => ?_)
        have F78 := F64.then (by decide +kernel) u67
        have e79 : h63 236 9 = h31 236 9 := ((u63 236 9 (fn_a (by omega) fn_0)).trans (u51 236 9 rfl))
        have b80 := gi_b (lo := 0) (hi := 5) g67 236 8 rfl
        have b81 := gi_b (lo := -2147483648) (hi := 2147483647) g67 236 9 rfl
        have b82 := gi_b (lo := 0) (hi := 800) g67 236 4 rfl
        have b83 := gi_b (lo := 0) (hi := 800) g67 236 5 rfl
        have b84 := gi_b (lo := 0) (hi := 4) g67 236 6 rfl
        have b85 := gi_b (lo := -9223372036854775808) (hi := 9223372036854775807) g67 236 12 rfl
        have b86 := gi_b (lo := 0) (hi := 999) g67 236 7 rfl
        refine wk_i ?_
        rcases p67_0 with p67_0 | p67_0 | p67_0 | p67_0 | p67_0
        ·
          exfalso; omega
        ·
          have tk87 := p67_0.2.2.2.2.2.2.2.2.2
          have tN88 := @tk_nx_b tB tn (tk_nx tB tn (tk_nx tB tn (tk_nx tB tn tp))) (by omega) (by omega)
          have tN89 := @tk_nx_b tB tn (tk_nx tB tn (tk_nx tB tn (tk_nx tB tn (tk_nx tB tn tp)))) (by omega) (by omega)
          obtain ⟨i90, ei90⟩ : ∃ q : Nat, e65 = (q : Int) := ⟨(e65).toNat, by omega⟩
          refine wr_is (k0 := 239) (a := e65) (f := i90) (x := z75) (bl := 0) (bh := 999) (nx := 89) (r1 := 0) (r2 := 0) (r3 := 0) rfl (by decide) rfl (by omega) (by omega) (by decide) g67 (gi_rq 19 12 (fun _ => rfl) (by decide +kernel) (by omega)) (by omega) (fun h91 g91 w91 u91 => ?_)
          have F92 := F78.then rfl (FR.idx (p := 19) (q := 30) u91 (by omega))
          refine wi_aload_n (i := 0) (x := 236) (nx := 90) (r1 := 0) (r2 := 0) (r3 := 0) rfl rfl ?_
          refine wr_gr (k0 := 236) (x := 239) (nx := 93) (r1 := 11) (r2 := 14) (r3 := 0) rfl rfl (by decide) rfl ⟨rfl, rfl⟩ rfl ?_
          refine wi_bipush (n := 43) (nx := 95) (r1 := 0) (r2 := 0) (r3 := 0) rfl (by decide) ?_
          refine wi_iload_n (i := 1) (e := h 239 2) (nx := 96) (r1 := 0) (r2 := 0) (r3 := 0) rfl rfl ?_
          refine wr_add (nx := 97) (r1 := 0) (r2 := 0) (r3 := 0) rfl (fun e93 (fe93 : e93 = 43 + (h 239 2)) => ?_)
          refine wi_aload_n (i := 0) (x := 236) (nx := 98) (r1 := 0) (r2 := 0) (r3 := 0) rfl rfl ?_
          refine wi_ldc2_w (e := 2084) (nx := 101) (r1 := 2084) (r2 := 0) (r3 := 0) rfl (by decide) ?_
          refine wr_V (k0 := 236) (rest := [vi e93, .ref 239]) (as := [.ref 236, vl 2084]) (nx := 104) (r1 := 230) (r2 := 1) (r3 := 11) rfl rfl rfl (of_decide_eq_true rfl) rfl rfl (by decide) rfl rfl (of_decide_eq_true rfl) (of_decide_eq_true rfl) ?_
          refine wi_aload_n (i := 0) (x := 236) (nx := 1) (r1 := 0) (r2 := 0) (r3 := 0) rfl rfl ?_
          refine wi_lload_n (i := 1) (e := 2084) (nx := 2) (r1 := 0) (r2 := 0) (r3 := 0) rfl rfl ?_
          refine wr_V (k0 := 236) (rest := []) (as := [.ref 236, vl 2084]) (nx := 5) (r1 := 221) (r2 := 1) (r3 := 11) rfl rfl rfl (of_decide_eq_true rfl) rfl rfl (by decide) rfl rfl (of_decide_eq_true rfl) (of_decide_eq_true rfl) ?_
          refine wi_aload_n (i := 0) (x := 236) (nx := 1) (r1 := 0) (r2 := 0) (r3 := 0) rfl rfl ?_
          refine wr_gi0 (k0 := 236) (x := h67 236 8) (nx := 4) (r1 := 11) (r2 := 8) (r3 := 0) rfl rfl (by decide) rfl ⟨rfl, rfl⟩ rfl (u91 236 8 (fn_a (by omega) fn_0)) ?_
          refine wi_if (cd := .ne) (nx := 7) (r1 := 28) (r2 := 0) (r3 := 0) rfl (by omega) (fun (q94 : (h67 236 8) ≠ 0) => by exfalso; omega) (fun (q94 : ¬ ((h67 236 8) ≠ 0)) => ?_)
          refine wi_aload_n (i := 0) (x := 236) (nx := 8) (r1 := 0) (r2 := 0) (r3 := 0) rfl rfl ?_
          refine wr_gi0 (k0 := 236) (x := h67 236 6) (nx := 11) (r1 := 11) (r2 := 6) (r3 := 0) rfl rfl (by decide) rfl ⟨rfl, rfl⟩ rfl (u91 236 6 (fn_a (by omega) fn_0)) ?_
          refine wi_iconst (n := 1) (nx := 12) (r1 := 0) (r2 := 0) (r3 := 0) rfl ?_
          refine wi_icmp (cd := .ne) (nx := 15) (r1 := 28) (r2 := 0) (r3 := 0) rfl (by omega) (by omega) (fun (q95 : (h67 236 6) ≠ 1) => ?_) (fun (q95 : ¬ ((h67 236 6) ≠ 1)) => ?_)
          ·
            refine wi_iconst (n := 0) (nx := 29) (r1 := 0) (r2 := 0) (r3 := 0) rfl ?_
            refine wi_zreturn (nx := 30) (r1 := 0) (r2 := 0) (r3 := 0) rfl rfl (by omega) ?_
            refine wk_i ?_
            refine wi_istore_n (i := 3) (e := 0) (lo2 := [(3, vi 0), (0, .ref 236), (1, vl 2084)]) (nx := 6) (r1 := 0) (r2 := 0) (r3 := 0) rfl rfl ?_
            refine wi_iload_n (i := 3) (e := 0) (nx := 7) (r1 := 0) (r2 := 0) (r3 := 0) rfl rfl ?_
            refine wi_if (cd := .eq) (nx := 10) (r1 := 14) (r2 := 0) (r3 := 0) rfl (by omega) (fun (q96 : 0 = 0) => ?_) (fun (q96 : ¬ (0 = 0)) => by exfalso; omega)
            refine wi_iload_n (i := 3) (e := 0) (nx := 15) (r1 := 0) (r2 := 0) (r3 := 0) rfl rfl ?_
            refine wi_zreturn (nx := 16) (r1 := 0) (r2 := 0) (r3 := 0) rfl rfl (by omega) ?_
            refine wk_i ?_
            refine wi_if (cd := .eq) (nx := 107) (r1 := 116) (r2 := 0) (r3 := 0) rfl (by omega) (fun (q97 : 0 = 0) => ?_) (fun (q97 : ¬ (0 = 0)) => by exfalso; omega)
            refine wi_iconst (n := 0) (nx := 117) (r1 := 0) (r2 := 0) (r3 := 0) rfl ?_
            obtain ⟨i98, ei98⟩ : ∃ q : Nat, e93 = (q : Int) := ⟨(e93).toNat, by omega⟩
            refine wr_is (k0 := 239) (a := e93) (f := i98) (x := 0) (bl := 0) (bh := 999) (nx := 118) (r1 := 0) (r2 := 0) (r3 := 0) rfl (by decide) rfl (by omega) (by omega) (by decide) g91 (gi_rq 43 12 (fun _ => rfl) (by decide +kernel) (by omega)) (by omega) (fun h99 g99 w99 u99 => ?_)
            have F100 := F92.then rfl (FR.idx (p := 43) (q := 54) u99 (by omega))
            refine wi_aload_n (i := 0) (x := 236) (nx := 119) (r1 := 0) (r2 := 0) (r3 := 0) rfl rfl ?_
            refine wr_V (k0 := 236) (rest := []) (as := [.ref 236]) (nx := 122) (r1 := 219) (r2 := 0) (r3 := 11) rfl rfl rfl (of_decide_eq_true rfl) rfl rfl (by decide) rfl rfl (of_decide_eq_true rfl) (of_decide_eq_true rfl) ?_
            refine wi_aload_n (i := 0) (x := 236) (nx := 1) (r1 := 0) (r2 := 0) (r3 := 0) rfl rfl ?_
            refine wr_gi0 (k0 := 236) (x := h67 236 8) (nx := 4) (r1 := 11) (r2 := 8) (r3 := 0) rfl rfl (by decide) rfl ⟨rfl, rfl⟩ rfl ((u99 236 8 (fn_a (by omega) fn_0)).trans (u91 236 8 (fn_a (by omega) fn_0))) ?_
            refine wi_if (cd := .ne) (nx := 7) (r1 := 11) (r2 := 0) (r3 := 0) rfl (by omega) (fun (q101 : (h67 236 8) ≠ 0) => by exfalso; omega) (fun (q101 : ¬ ((h67 236 8) ≠ 0)) => ?_)
            refine wi_iconst (n := 1) (nx := 8) (r1 := 0) (r2 := 0) (r3 := 0) rfl ?_
            refine wi_goto (nx := 11) (r1 := 12) (r2 := 0) (r3 := 0) rfl ?_
            refine wi_zreturn (nx := 13) (r1 := 0) (r2 := 0) (r3 := 0) rfl rfl (by omega) ?_
            refine wk_i ?_
            refine wi_if (cd := .eq) (nx := 125) (r1 := 135) (r2 := 0) (r3 := 0) rfl (by omega) (fun (q102 : 1 = 0) => by exfalso; omega) (fun (q102 : ¬ (1 = 0)) => ?_)
            refine wi_aload_n (i := 0) (x := 236) (nx := 126) (r1 := 0) (r2 := 0) (r3 := 0) rfl rfl ?_
            refine wr_gr (k0 := 236) (x := 239) (nx := 129) (r1 := 11) (r2 := 14) (r3 := 0) rfl rfl (by decide) rfl ⟨rfl, rfl⟩ rfl ?_
            refine wi_iconst (n := 2) (nx := 130) (r1 := 0) (r2 := 0) (r3 := 0) rfl ?_
            refine wi_dup2 (nx := 131) (r1 := 0) (r2 := 0) (r3 := 0) rfl rfl rfl ?_
            refine wr_ia (k0 := 239) (a := 2) (f := 2) (x := h 239 2) (nx := 132) (r1 := 0) (r2 := 0) (r3 := 0) rfl (by decide) rfl (by omega) (by omega) (by decide) ((u99 239 2 (fn_i (by omega) fn_0)).trans ((u91 239 2 (fn_i (by omega) fn_0)).trans ((u67 239 2 rfl).trans ((u63 239 2 (fn_i (by omega) fn_0)).trans ((u51 239 2 rfl).trans ((u31 239 2 rfl).trans (u21 239 2 rfl))))))) ?_
            refine wi_iconst (n := 1) (nx := 133) (r1 := 0) (r2 := 0) (r3 := 0) rfl ?_
            refine wr_add (nx := 134) (r1 := 0) (r2 := 0) (r3 := 0) rfl (fun e103 (fe103 : e103 = (h 239 2) + 1) => ?_)
            refine wr_is (k0 := 239) (a := 2) (f := 2) (x := e103) (bl := 0) (bh := 12) (nx := 135) (r1 := 0) (r2 := 0) (r3 := 0) rfl (by decide) rfl (by omega) (by omega) (by decide) g99 rfl (by omega) (fun h104 g104 w104 u104 => ?_)
            have F105 := F100.then rfl u104
            refine wi_return (nx := 136) (r1 := 0) (r2 := 0) (r3 := 0) rfl rfl ?_
            have e106 : h104 236 4 = h67 236 4 := ((u104 236 4 rfl).trans ((u99 236 4 (fn_a (by omega) fn_0)).trans (u91 236 4 (fn_a (by omega) fn_0))))
            have e107 : h104 236 8 = h67 236 8 := ((u104 236 8 rfl).trans ((u99 236 8 (fn_a (by omega) fn_0)).trans (u91 236 8 (fn_a (by omega) fn_0))))
            have e108 : h104 239 5 = h 239 5 := ((u104 239 5 rfl).trans ((u99 239 5 (fn_i (by omega) fn_0)).trans ((u91 239 5 (fn_i (by omega) fn_0)).trans ((u67 239 5 rfl).trans ((u63 239 5 (fn_i (by omega) fn_0)).trans ((u51 239 5 rfl).trans ((u31 239 5 rfl).trans (u21 239 5 rfl))))))))
            have e109 : h104 239 7 = h 239 7 := ((u104 239 7 rfl).trans ((u99 239 7 (fn_i (by omega) fn_0)).trans ((u91 239 7 (fn_i (by omega) fn_0)).trans ((u67 239 7 rfl).trans ((u63 239 7 (fn_i (by omega) fn_0)).trans ((u51 239 7 rfl).trans ((u31 239 7 rfl).trans (u21 239 7 rfl))))))))
            have e110 : h104 239 15 = h 239 15 := ((u104 239 15 rfl).trans ((u99 239 15 (fn_i (by omega) fn_0)).trans ((u91 239 15 (fn_i (by omega) fn_0)).trans ((u67 239 15 rfl).trans ((u63 239 15 (fn_i (by omega) fn_0)).trans ((u51 239 15 rfl).trans ((u31 239 15 rfl).trans (u21 239 15 rfl))))))))
            have e111 : h104 239 16 = h 239 16 := ((u104 239 16 rfl).trans ((u99 239 16 (fn_i (by omega) fn_0)).trans ((u91 239 16 (fn_i (by omega) fn_0)).trans ((u67 239 16 rfl).trans ((u63 239 16 (fn_i (by omega) fn_0)).trans ((u51 239 16 rfl).trans ((u31 239 16 rfl).trans (u21 239 16 rfl))))))))
            have e112 : h104 239 17 = h 239 17 := ((u104 239 17 rfl).trans ((u99 239 17 (fn_i (by omega) fn_0)).trans ((u91 239 17 (fn_i (by omega) fn_0)).trans ((u67 239 17 rfl).trans ((u63 239 17 (fn_i (by omega) fn_0)).trans ((u51 239 17 rfl).trans ((u31 239 17 rfl).trans (u21 239 17 rfl))))))))
            have e113 : h104 239 18 = h 239 18 := ((u104 239 18 rfl).trans ((u99 239 18 (fn_i (by omega) fn_0)).trans ((u91 239 18 (fn_i (by omega) fn_0)).trans ((u67 239 18 rfl).trans ((u63 239 18 (fn_i (by omega) fn_0)).trans ((u51 239 18 rfl).trans ((u31 239 18 rfl).trans (u21 239 18 rfl))))))))
            have e114 : h104 236 9 = h67 236 9 := ((u104 236 9 rfl).trans ((u99 236 9 (fn_a (by omega) fn_0)).trans (u91 236 9 (fn_a (by omega) fn_0))))
            have e115 : h104 239 0 = h 239 0 := ((u104 239 0 rfl).trans ((u99 239 0 (fn_i (by omega) fn_0)).trans ((u91 239 0 (fn_i (by omega) fn_0)).trans ((u67 239 0 rfl).trans ((u63 239 0 (fn_i (by omega) fn_0)).trans ((u51 239 0 rfl).trans ((u31 239 0 rfl).trans (u21 239 0 rfl))))))))
            have e116 : h104 239 1 = h 239 1 := ((u104 239 1 rfl).trans ((u99 239 1 (fn_i (by omega) fn_0)).trans ((u91 239 1 (fn_i (by omega) fn_0)).trans ((u67 239 1 rfl).trans ((u63 239 1 (fn_i (by omega) fn_0)).trans ((u51 239 1 rfl).trans ((u31 239 1 rfl).trans (u21 239 1 rfl))))))))
            have e117 : h104 239 2 = e103 := w104
            have b118 := gi_b (lo := 0) (hi := 999) g 239 3 rfl
            have e119 : h104 239 3 = h 239 3 := ((u104 239 3 rfl).trans ((u99 239 3 (fn_i (by omega) fn_0)).trans ((u91 239 3 (fn_i (by omega) fn_0)).trans ((u67 239 3 rfl).trans ((u63 239 3 (fn_i (by omega) fn_0)).trans ((u51 239 3 rfl).trans ((u31 239 3 rfl).trans (u21 239 3 rfl))))))))
            have b120 := gi_b (lo := 0) (hi := 999) g 239 4 rfl
            have e121 : h104 239 4 = h 239 4 := ((u104 239 4 rfl).trans ((u99 239 4 (fn_i (by omega) fn_0)).trans ((u91 239 4 (fn_i (by omega) fn_0)).trans ((u67 239 4 rfl).trans ((u63 239 4 (fn_i (by omega) fn_0)).trans ((u51 239 4 rfl).trans ((u31 239 4 rfl).trans (u21 239 4 rfl))))))))
            have b122 := gi_b (lo := 0) (hi := 999) g 239 6 rfl
            have e123 : h104 239 6 = h 239 6 := ((u104 239 6 rfl).trans ((u99 239 6 (fn_i (by omega) fn_0)).trans ((u91 239 6 (fn_i (by omega) fn_0)).trans ((u67 239 6 rfl).trans ((u63 239 6 (fn_i (by omega) fn_0)).trans ((u51 239 6 rfl).trans ((u31 239 6 rfl).trans (u21 239 6 rfl))))))))
            have b124 := gi_b (lo := 0) (hi := 999) g 239 8 rfl
            have e125 : h104 239 8 = h 239 8 := ((u104 239 8 rfl).trans ((u99 239 8 (fn_i (by omega) fn_0)).trans ((u91 239 8 (fn_i (by omega) fn_0)).trans ((u67 239 8 rfl).trans ((u63 239 8 (fn_i (by omega) fn_0)).trans ((u51 239 8 rfl).trans ((u31 239 8 rfl).trans (u21 239 8 rfl))))))))
            have b126 := gi_b (lo := 0) (hi := 999) g 239 9 rfl
            have e127 : h104 239 9 = h 239 9 := ((u104 239 9 rfl).trans ((u99 239 9 (fn_i (by omega) fn_0)).trans ((u91 239 9 (fn_i (by omega) fn_0)).trans ((u67 239 9 rfl).trans ((u63 239 9 (fn_i (by omega) fn_0)).trans ((u51 239 9 rfl).trans ((u31 239 9 rfl).trans (u21 239 9 rfl))))))))
            have b128 := gi_b (lo := 0) (hi := 1) g 236 23 rfl
            have e129 : h104 236 23 = h 236 23 := ((u104 236 23 rfl).trans ((u99 236 23 (fn_a (by omega) fn_0)).trans ((u91 236 23 (fn_a (by omega) fn_0)).trans ((u67 236 23 rfl).trans ((u63 236 23 (fn_a (by omega) fn_0)).trans ((u51 236 23 rfl).trans ((u31 236 23 rfl).trans (u21 236 23 rfl))))))))
            have b130 := gi_b (lo := 0) (hi := 1) g 236 24 rfl
            have e131 : h104 236 24 = h 236 24 := ((u104 236 24 rfl).trans ((u99 236 24 (fn_a (by omega) fn_0)).trans ((u91 236 24 (fn_a (by omega) fn_0)).trans ((u67 236 24 rfl).trans ((u63 236 24 (fn_a (by omega) fn_0)).trans ((u51 236 24 rfl).trans ((u31 236 24 rfl).trans (u21 236 24 rfl))))))))
            have b132 := gi_b (lo := 0) (hi := 1) g 236 25 rfl
            have e133 : h104 236 25 = h 236 25 := ((u104 236 25 rfl).trans ((u99 236 25 (fn_a (by omega) fn_0)).trans ((u91 236 25 (fn_a (by omega) fn_0)).trans ((u67 236 25 rfl).trans ((u63 236 25 (fn_a (by omega) fn_0)).trans ((u51 236 25 rfl).trans ((u31 236 25 rfl).trans (u21 236 25 rfl))))))))
            have b134 := gi_b (lo := 0) (hi := 1) g 236 26 rfl
            have e135 : h104 236 26 = h 236 26 := ((u104 236 26 rfl).trans ((u99 236 26 (fn_a (by omega) fn_0)).trans ((u91 236 26 (fn_a (by omega) fn_0)).trans ((u67 236 26 rfl).trans ((u63 236 26 (fn_a (by omega) fn_0)).trans ((u51 236 26 rfl).trans ((u31 236 26 rfl).trans (u21 236 26 rfl))))))))
            have e136 : h104 236 5 = h67 236 5 := ((u104 236 5 rfl).trans ((u99 236 5 (fn_a (by omega) fn_0)).trans (u91 236 5 (fn_a (by omega) fn_0))))
            have e137 : h104 236 6 = h67 236 6 := ((u104 236 6 rfl).trans ((u99 236 6 (fn_a (by omega) fn_0)).trans (u91 236 6 (fn_a (by omega) fn_0))))
            have e138 : h104 236 7 = h67 236 7 := ((u104 236 7 rfl).trans ((u99 236 7 (fn_a (by omega) fn_0)).trans (u91 236 7 (fn_a (by omega) fn_0))))
            have e139 : h104 236 12 = h67 236 12 := ((u104 236 12 rfl).trans ((u99 236 12 (fn_a (by omega) fn_0)).trans (u91 236 12 (fn_a (by omega) fn_0))))
            exact k h104 g104 F105 (show (h 236 4) ≤ (h104 236 4) by omega) (show (h104 236 4) ≤ (h 236 3) by omega) (show 1 ≤ (h104 236 8) ∨ ((h104 239 5) ≤ 9 ∧ 1 ≤ (h104 239 5) ∧ (h104 239 7) ≤ 3 ∧ (h104 239 15) ≤ 6 ∧ (h104 239 16) ≤ 6 ∧ (h104 239 17) ≤ 6 ∧ (h104 239 18) ≤ 6) by omega) (show (h104 236 8) ≠ 0 ∨ (h104 236 9) = -1 by omega) (by unfold tk_car tk_wrd tk_num tk_bad; (try dsimp only); (repeat (first | rw [if_pos (by omega)] | rw [if_neg (by omega)])); (repeat ((first | unfold tk_wrd | unfold tk_num | unfold tk_bad); (try dsimp only); (repeat (first | rw [if_pos (by omega)] | rw [if_neg (by omega)])))); exact tk_ORs (by omega) (by first | assumption | exact tk_mv (by assumption) (by omega) (by omega) (by omega) (by omega) (by omega)) (CVr.car (c := (h 239 2).toNat) xq1 (by omega) (by omega) (fun i _ _ _ _ => ((u104 239 i (fn_i (by omega) fn_0)).trans ((u99 239 i (fn_i (by omega) fn_0)).trans ((u91 239 i (fn_i (by omega) fn_0)).trans ((u67 239 i (fo_nk rfl)).trans ((u63 239 i (fn_i (by omega) fn_0)).trans ((u51 239 i (fo_nk rfl)).trans ((u31 239 i (fn_a (by omega) (fn_a (by omega) fn_0))).trans (u21 239 i (fo_nk rfl)))))))))) (fun i _ _ => ((u104 236 i (fn_a (by omega) fn_0)).trans ((u99 236 i (fn_a (by omega) fn_0)).trans ((u91 236 i (fn_a (by omega) fn_0)).trans ((u67 236 i (fn_i (by omega) (fn_i (by omega) (fn_i (by omega) (fn_i (by omega) (fn_i (by omega) (fn_i (by omega) (fn_i (by omega) fn_0)))))))).trans ((u63 236 i (fn_a (by omega) fn_0)).trans ((u51 236 i (fn_i (by omega) (fn_i (by omega) (fn_i (by omega) (fn_i (by omega) (fn_i (by omega) fn_0)))))).trans ((u31 236 i (fn_i (by omega) (fn_i (by omega) fn_0))).trans (u21 236 i (fn_i (by omega) (fn_i (by omega) (fn_i (by omega) (fn_i (by omega) (fn_i (by omega) fn_0)))))))))))))) (by rw [show 31 + (h 239 2).toNat = i62 by omega]; exact ((u104 239 i62 (fn_i (by omega) fn_0)).trans ((u99 239 i62 (fn_i (by omega) fn_0)).trans ((u91 239 i62 (fn_i (by omega) fn_0)).trans ((u67 239 i62 (fo_nk rfl)).trans w63)))).trans (by omega)) (by rw [show 19 + (h 239 2).toNat = i90 by omega]; exact ((u104 239 i90 (fn_i (by omega) fn_0)).trans ((u99 239 i90 (fn_i (by omega) fn_0)).trans w91)).trans (by omega)) (by rw [show 43 + (h 239 2).toNat = i98 by omega]; exact ((u104 239 i98 (fn_i (by omega) fn_0)).trans w99).trans (by omega)) (fun i => ((u104 244 i (fn_a (by omega) fn_0)).trans ((u99 244 i (fn_a (by omega) fn_0)).trans ((u91 244 i (fn_a (by omega) fn_0)).trans ((u67 244 i (fo_nk rfl)).trans ((u63 244 i (fn_a (by omega) fn_0)).trans ((u51 244 i (fo_nk rfl)).trans ((u31 244 i (fn_a (by omega) (fn_a (by omega) fn_0))).trans (u21 244 i (fo_nk rfl)))))))))) (by omega) (by omega) (by omega)))
          ·
            refine wi_aload_n (i := 0) (x := 236) (nx := 16) (r1 := 0) (r2 := 0) (r3 := 0) rfl rfl ?_
            refine wr_gi1 (k0 := 236) (x := h67 236 12) (nx := 19) (r1 := 11) (r2 := 12) (r3 := 0) rfl rfl (by decide) rfl ⟨rfl, rfl⟩ rfl (u91 236 12 (fn_a (by omega) fn_0)) ?_
            refine wi_lload_n (i := 1) (e := 2084) (nx := 20) (r1 := 0) (r2 := 0) (r3 := 0) rfl rfl ?_
            have wk96 : tk_kd tB tn (tk_nx tB tn (tk_nx tB tn (tk_nx tB tn (tk_nx tB tn tp)))) = 1 → (tk_sw tB tn (tk_nx tB tn (tk_nx tB tn (tk_nx tB tn (tk_nx tB tn tp)))) = 2084 ↔ tk_wd (tk_lw tB tn (tk_nx tB tn (tk_nx tB tn (tk_nx tB tn (tk_nx tB tn tp))))) = 6) := fun e => tk_wk 5 (by decide) (by omega) (by omega) e
            refine wi_lcmp (a := h67 236 12) (e := 2084) (nx := 21) (r1 := 0) (r2 := 0) (r3 := 0) rfl (by omega) (by omega) (fun r97 (fr97 : (r97 = -1 ∧ (h67 236 12) < 2084) ∨ (r97 = 0 ∧ (h67 236 12) = 2084) ∨ (r97 = 1 ∧ 2084 < (h67 236 12))) => ?_)
            refine wi_if (cd := .ne) (nx := 24) (r1 := 28) (r2 := 0) (r3 := 0) rfl (by omega) (fun (q98 : r97 ≠ 0) => ?_) (fun (q98 : ¬ (r97 ≠ 0)) => ?_)
            ·
              refine wi_iconst (n := 0) (nx := 29) (r1 := 0) (r2 := 0) (r3 := 0) rfl ?_
              refine wi_zreturn (nx := 30) (r1 := 0) (r2 := 0) (r3 := 0) rfl rfl (by omega) ?_
              refine wk_i ?_
              refine wi_istore_n (i := 3) (e := 0) (lo2 := [(3, vi 0), (0, .ref 236), (1, vl 2084)]) (nx := 6) (r1 := 0) (r2 := 0) (r3 := 0) rfl rfl ?_
              refine wi_iload_n (i := 3) (e := 0) (nx := 7) (r1 := 0) (r2 := 0) (r3 := 0) rfl rfl ?_
              refine wi_if (cd := .eq) (nx := 10) (r1 := 14) (r2 := 0) (r3 := 0) rfl (by omega) (fun (q99 : 0 = 0) => ?_) (fun (q99 : ¬ (0 = 0)) => by exfalso; omega)
              refine wi_iload_n (i := 3) (e := 0) (nx := 15) (r1 := 0) (r2 := 0) (r3 := 0) rfl rfl ?_
              refine wi_zreturn (nx := 16) (r1 := 0) (r2 := 0) (r3 := 0) rfl rfl (by omega) ?_
              refine wk_i ?_
              refine wi_if (cd := .eq) (nx := 107) (r1 := 116) (r2 := 0) (r3 := 0) rfl (by omega) (fun (q100 : 0 = 0) => ?_) (fun (q100 : ¬ (0 = 0)) => by exfalso; omega)
              refine wi_iconst (n := 0) (nx := 117) (r1 := 0) (r2 := 0) (r3 := 0) rfl ?_
              obtain ⟨i101, ei101⟩ : ∃ q : Nat, e93 = (q : Int) := ⟨(e93).toNat, by omega⟩
              refine wr_is (k0 := 239) (a := e93) (f := i101) (x := 0) (bl := 0) (bh := 999) (nx := 118) (r1 := 0) (r2 := 0) (r3 := 0) rfl (by decide) rfl (by omega) (by omega) (by decide) g91 (gi_rq 43 12 (fun _ => rfl) (by decide +kernel) (by omega)) (by omega) (fun h102 g102 w102 u102 => ?_)
              have F103 := F92.then rfl (FR.idx (p := 43) (q := 54) u102 (by omega))
              refine wi_aload_n (i := 0) (x := 236) (nx := 119) (r1 := 0) (r2 := 0) (r3 := 0) rfl rfl ?_
              refine wr_V (k0 := 236) (rest := []) (as := [.ref 236]) (nx := 122) (r1 := 219) (r2 := 0) (r3 := 11) rfl rfl rfl (of_decide_eq_true rfl) rfl rfl (by decide) rfl rfl (of_decide_eq_true rfl) (of_decide_eq_true rfl) ?_
              refine wi_aload_n (i := 0) (x := 236) (nx := 1) (r1 := 0) (r2 := 0) (r3 := 0) rfl rfl ?_
              refine wr_gi0 (k0 := 236) (x := h67 236 8) (nx := 4) (r1 := 11) (r2 := 8) (r3 := 0) rfl rfl (by decide) rfl ⟨rfl, rfl⟩ rfl ((u102 236 8 (fn_a (by omega) fn_0)).trans (u91 236 8 (fn_a (by omega) fn_0))) ?_
              refine wi_if (cd := .ne) (nx := 7) (r1 := 11) (r2 := 0) (r3 := 0) rfl (by omega) (fun (q104 : (h67 236 8) ≠ 0) => by exfalso; omega) (fun (q104 : ¬ ((h67 236 8) ≠ 0)) => ?_)
              refine wi_iconst (n := 1) (nx := 8) (r1 := 0) (r2 := 0) (r3 := 0) rfl ?_
              refine wi_goto (nx := 11) (r1 := 12) (r2 := 0) (r3 := 0) rfl ?_
              refine wi_zreturn (nx := 13) (r1 := 0) (r2 := 0) (r3 := 0) rfl rfl (by omega) ?_
              refine wk_i ?_
              refine wi_if (cd := .eq) (nx := 125) (r1 := 135) (r2 := 0) (r3 := 0) rfl (by omega) (fun (q105 : 1 = 0) => by exfalso; omega) (fun (q105 : ¬ (1 = 0)) => ?_)
              refine wi_aload_n (i := 0) (x := 236) (nx := 126) (r1 := 0) (r2 := 0) (r3 := 0) rfl rfl ?_
              refine wr_gr (k0 := 236) (x := 239) (nx := 129) (r1 := 11) (r2 := 14) (r3 := 0) rfl rfl (by decide) rfl ⟨rfl, rfl⟩ rfl ?_
              refine wi_iconst (n := 2) (nx := 130) (r1 := 0) (r2 := 0) (r3 := 0) rfl ?_
              refine wi_dup2 (nx := 131) (r1 := 0) (r2 := 0) (r3 := 0) rfl rfl rfl ?_
              refine wr_ia (k0 := 239) (a := 2) (f := 2) (x := h 239 2) (nx := 132) (r1 := 0) (r2 := 0) (r3 := 0) rfl (by decide) rfl (by omega) (by omega) (by decide) ((u102 239 2 (fn_i (by omega) fn_0)).trans ((u91 239 2 (fn_i (by omega) fn_0)).trans ((u67 239 2 rfl).trans ((u63 239 2 (fn_i (by omega) fn_0)).trans ((u51 239 2 rfl).trans ((u31 239 2 rfl).trans (u21 239 2 rfl))))))) ?_
              refine wi_iconst (n := 1) (nx := 133) (r1 := 0) (r2 := 0) (r3 := 0) rfl ?_
              refine wr_add (nx := 134) (r1 := 0) (r2 := 0) (r3 := 0) rfl (fun e106 (fe106 : e106 = (h 239 2) + 1) => ?_)
              refine wr_is (k0 := 239) (a := 2) (f := 2) (x := e106) (bl := 0) (bh := 12) (nx := 135) (r1 := 0) (r2 := 0) (r3 := 0) rfl (by decide) rfl (by omega) (by omega) (by decide) g102 rfl (by omega) (fun h107 g107 w107 u107 => ?_)
              have F108 := F103.then rfl u107
              refine wi_return (nx := 136) (r1 := 0) (r2 := 0) (r3 := 0) rfl rfl ?_
              have e109 : h107 236 4 = h67 236 4 := ((u107 236 4 rfl).trans ((u102 236 4 (fn_a (by omega) fn_0)).trans (u91 236 4 (fn_a (by omega) fn_0))))
              have e110 : h107 236 8 = h67 236 8 := ((u107 236 8 rfl).trans ((u102 236 8 (fn_a (by omega) fn_0)).trans (u91 236 8 (fn_a (by omega) fn_0))))
              have e111 : h107 239 5 = h 239 5 := ((u107 239 5 rfl).trans ((u102 239 5 (fn_i (by omega) fn_0)).trans ((u91 239 5 (fn_i (by omega) fn_0)).trans ((u67 239 5 rfl).trans ((u63 239 5 (fn_i (by omega) fn_0)).trans ((u51 239 5 rfl).trans ((u31 239 5 rfl).trans (u21 239 5 rfl))))))))
              have e112 : h107 239 7 = h 239 7 := ((u107 239 7 rfl).trans ((u102 239 7 (fn_i (by omega) fn_0)).trans ((u91 239 7 (fn_i (by omega) fn_0)).trans ((u67 239 7 rfl).trans ((u63 239 7 (fn_i (by omega) fn_0)).trans ((u51 239 7 rfl).trans ((u31 239 7 rfl).trans (u21 239 7 rfl))))))))
              have e113 : h107 239 15 = h 239 15 := ((u107 239 15 rfl).trans ((u102 239 15 (fn_i (by omega) fn_0)).trans ((u91 239 15 (fn_i (by omega) fn_0)).trans ((u67 239 15 rfl).trans ((u63 239 15 (fn_i (by omega) fn_0)).trans ((u51 239 15 rfl).trans ((u31 239 15 rfl).trans (u21 239 15 rfl))))))))
              have e114 : h107 239 16 = h 239 16 := ((u107 239 16 rfl).trans ((u102 239 16 (fn_i (by omega) fn_0)).trans ((u91 239 16 (fn_i (by omega) fn_0)).trans ((u67 239 16 rfl).trans ((u63 239 16 (fn_i (by omega) fn_0)).trans ((u51 239 16 rfl).trans ((u31 239 16 rfl).trans (u21 239 16 rfl))))))))
              have e115 : h107 239 17 = h 239 17 := ((u107 239 17 rfl).trans ((u102 239 17 (fn_i (by omega) fn_0)).trans ((u91 239 17 (fn_i (by omega) fn_0)).trans ((u67 239 17 rfl).trans ((u63 239 17 (fn_i (by omega) fn_0)).trans ((u51 239 17 rfl).trans ((u31 239 17 rfl).trans (u21 239 17 rfl))))))))
              have e116 : h107 239 18 = h 239 18 := ((u107 239 18 rfl).trans ((u102 239 18 (fn_i (by omega) fn_0)).trans ((u91 239 18 (fn_i (by omega) fn_0)).trans ((u67 239 18 rfl).trans ((u63 239 18 (fn_i (by omega) fn_0)).trans ((u51 239 18 rfl).trans ((u31 239 18 rfl).trans (u21 239 18 rfl))))))))
              have e117 : h107 236 9 = h67 236 9 := ((u107 236 9 rfl).trans ((u102 236 9 (fn_a (by omega) fn_0)).trans (u91 236 9 (fn_a (by omega) fn_0))))
              have e118 : h107 239 0 = h 239 0 := ((u107 239 0 rfl).trans ((u102 239 0 (fn_i (by omega) fn_0)).trans ((u91 239 0 (fn_i (by omega) fn_0)).trans ((u67 239 0 rfl).trans ((u63 239 0 (fn_i (by omega) fn_0)).trans ((u51 239 0 rfl).trans ((u31 239 0 rfl).trans (u21 239 0 rfl))))))))
              have e119 : h107 239 1 = h 239 1 := ((u107 239 1 rfl).trans ((u102 239 1 (fn_i (by omega) fn_0)).trans ((u91 239 1 (fn_i (by omega) fn_0)).trans ((u67 239 1 rfl).trans ((u63 239 1 (fn_i (by omega) fn_0)).trans ((u51 239 1 rfl).trans ((u31 239 1 rfl).trans (u21 239 1 rfl))))))))
              have e120 : h107 239 2 = e106 := w107
              have b121 := gi_b (lo := 0) (hi := 999) g 239 3 rfl
              have e122 : h107 239 3 = h 239 3 := ((u107 239 3 rfl).trans ((u102 239 3 (fn_i (by omega) fn_0)).trans ((u91 239 3 (fn_i (by omega) fn_0)).trans ((u67 239 3 rfl).trans ((u63 239 3 (fn_i (by omega) fn_0)).trans ((u51 239 3 rfl).trans ((u31 239 3 rfl).trans (u21 239 3 rfl))))))))
              have b123 := gi_b (lo := 0) (hi := 999) g 239 4 rfl
              have e124 : h107 239 4 = h 239 4 := ((u107 239 4 rfl).trans ((u102 239 4 (fn_i (by omega) fn_0)).trans ((u91 239 4 (fn_i (by omega) fn_0)).trans ((u67 239 4 rfl).trans ((u63 239 4 (fn_i (by omega) fn_0)).trans ((u51 239 4 rfl).trans ((u31 239 4 rfl).trans (u21 239 4 rfl))))))))
              have b125 := gi_b (lo := 0) (hi := 999) g 239 6 rfl
              have e126 : h107 239 6 = h 239 6 := ((u107 239 6 rfl).trans ((u102 239 6 (fn_i (by omega) fn_0)).trans ((u91 239 6 (fn_i (by omega) fn_0)).trans ((u67 239 6 rfl).trans ((u63 239 6 (fn_i (by omega) fn_0)).trans ((u51 239 6 rfl).trans ((u31 239 6 rfl).trans (u21 239 6 rfl))))))))
              have b127 := gi_b (lo := 0) (hi := 999) g 239 8 rfl
              have e128 : h107 239 8 = h 239 8 := ((u107 239 8 rfl).trans ((u102 239 8 (fn_i (by omega) fn_0)).trans ((u91 239 8 (fn_i (by omega) fn_0)).trans ((u67 239 8 rfl).trans ((u63 239 8 (fn_i (by omega) fn_0)).trans ((u51 239 8 rfl).trans ((u31 239 8 rfl).trans (u21 239 8 rfl))))))))
              have b129 := gi_b (lo := 0) (hi := 999) g 239 9 rfl
              have e130 : h107 239 9 = h 239 9 := ((u107 239 9 rfl).trans ((u102 239 9 (fn_i (by omega) fn_0)).trans ((u91 239 9 (fn_i (by omega) fn_0)).trans ((u67 239 9 rfl).trans ((u63 239 9 (fn_i (by omega) fn_0)).trans ((u51 239 9 rfl).trans ((u31 239 9 rfl).trans (u21 239 9 rfl))))))))
              have b131 := gi_b (lo := 0) (hi := 1) g 236 23 rfl
              have e132 : h107 236 23 = h 236 23 := ((u107 236 23 rfl).trans ((u102 236 23 (fn_a (by omega) fn_0)).trans ((u91 236 23 (fn_a (by omega) fn_0)).trans ((u67 236 23 rfl).trans ((u63 236 23 (fn_a (by omega) fn_0)).trans ((u51 236 23 rfl).trans ((u31 236 23 rfl).trans (u21 236 23 rfl))))))))
              have b133 := gi_b (lo := 0) (hi := 1) g 236 24 rfl
              have e134 : h107 236 24 = h 236 24 := ((u107 236 24 rfl).trans ((u102 236 24 (fn_a (by omega) fn_0)).trans ((u91 236 24 (fn_a (by omega) fn_0)).trans ((u67 236 24 rfl).trans ((u63 236 24 (fn_a (by omega) fn_0)).trans ((u51 236 24 rfl).trans ((u31 236 24 rfl).trans (u21 236 24 rfl))))))))
              have b135 := gi_b (lo := 0) (hi := 1) g 236 25 rfl
              have e136 : h107 236 25 = h 236 25 := ((u107 236 25 rfl).trans ((u102 236 25 (fn_a (by omega) fn_0)).trans ((u91 236 25 (fn_a (by omega) fn_0)).trans ((u67 236 25 rfl).trans ((u63 236 25 (fn_a (by omega) fn_0)).trans ((u51 236 25 rfl).trans ((u31 236 25 rfl).trans (u21 236 25 rfl))))))))
              have b137 := gi_b (lo := 0) (hi := 1) g 236 26 rfl
              have e138 : h107 236 26 = h 236 26 := ((u107 236 26 rfl).trans ((u102 236 26 (fn_a (by omega) fn_0)).trans ((u91 236 26 (fn_a (by omega) fn_0)).trans ((u67 236 26 rfl).trans ((u63 236 26 (fn_a (by omega) fn_0)).trans ((u51 236 26 rfl).trans ((u31 236 26 rfl).trans (u21 236 26 rfl))))))))
              have e139 : h107 236 5 = h67 236 5 := ((u107 236 5 rfl).trans ((u102 236 5 (fn_a (by omega) fn_0)).trans (u91 236 5 (fn_a (by omega) fn_0))))
              have e140 : h107 236 6 = h67 236 6 := ((u107 236 6 rfl).trans ((u102 236 6 (fn_a (by omega) fn_0)).trans (u91 236 6 (fn_a (by omega) fn_0))))
              have e141 : h107 236 7 = h67 236 7 := ((u107 236 7 rfl).trans ((u102 236 7 (fn_a (by omega) fn_0)).trans (u91 236 7 (fn_a (by omega) fn_0))))
              have e142 : h107 236 12 = h67 236 12 := ((u107 236 12 rfl).trans ((u102 236 12 (fn_a (by omega) fn_0)).trans (u91 236 12 (fn_a (by omega) fn_0))))
              exact k h107 g107 F108 (show (h 236 4) ≤ (h107 236 4) by omega) (show (h107 236 4) ≤ (h 236 3) by omega) (show 1 ≤ (h107 236 8) ∨ ((h107 239 5) ≤ 9 ∧ 1 ≤ (h107 239 5) ∧ (h107 239 7) ≤ 3 ∧ (h107 239 15) ≤ 6 ∧ (h107 239 16) ≤ 6 ∧ (h107 239 17) ≤ 6 ∧ (h107 239 18) ≤ 6) by omega) (show (h107 236 8) ≠ 0 ∨ (h107 236 9) = -1 by omega) (by unfold tk_car tk_wrd tk_num tk_bad; (try dsimp only); (repeat (first | rw [if_pos (by omega)] | rw [if_neg (by omega)])); (repeat ((first | unfold tk_wrd | unfold tk_num | unfold tk_bad); (try dsimp only); (repeat (first | rw [if_pos (by omega)] | rw [if_neg (by omega)])))); exact tk_ORs (by omega) (by first | assumption | exact tk_mv (by assumption) (by omega) (by omega) (by omega) (by omega) (by omega)) (CVr.car (c := (h 239 2).toNat) xq1 (by omega) (by omega) (fun i _ _ _ _ => ((u107 239 i (fn_i (by omega) fn_0)).trans ((u102 239 i (fn_i (by omega) fn_0)).trans ((u91 239 i (fn_i (by omega) fn_0)).trans ((u67 239 i (fo_nk rfl)).trans ((u63 239 i (fn_i (by omega) fn_0)).trans ((u51 239 i (fo_nk rfl)).trans ((u31 239 i (fn_a (by omega) (fn_a (by omega) fn_0))).trans (u21 239 i (fo_nk rfl)))))))))) (fun i _ _ => ((u107 236 i (fn_a (by omega) fn_0)).trans ((u102 236 i (fn_a (by omega) fn_0)).trans ((u91 236 i (fn_a (by omega) fn_0)).trans ((u67 236 i (fn_i (by omega) (fn_i (by omega) (fn_i (by omega) (fn_i (by omega) (fn_i (by omega) (fn_i (by omega) (fn_i (by omega) fn_0)))))))).trans ((u63 236 i (fn_a (by omega) fn_0)).trans ((u51 236 i (fn_i (by omega) (fn_i (by omega) (fn_i (by omega) (fn_i (by omega) (fn_i (by omega) fn_0)))))).trans ((u31 236 i (fn_i (by omega) (fn_i (by omega) fn_0))).trans (u21 236 i (fn_i (by omega) (fn_i (by omega) (fn_i (by omega) (fn_i (by omega) (fn_i (by omega) fn_0)))))))))))))) (by rw [show 31 + (h 239 2).toNat = i62 by omega]; exact ((u107 239 i62 (fn_i (by omega) fn_0)).trans ((u102 239 i62 (fn_i (by omega) fn_0)).trans ((u91 239 i62 (fn_i (by omega) fn_0)).trans ((u67 239 i62 (fo_nk rfl)).trans w63)))).trans (by omega)) (by rw [show 19 + (h 239 2).toNat = i90 by omega]; exact ((u107 239 i90 (fn_i (by omega) fn_0)).trans ((u102 239 i90 (fn_i (by omega) fn_0)).trans w91)).trans (by omega)) (by rw [show 43 + (h 239 2).toNat = i101 by omega]; exact ((u107 239 i101 (fn_i (by omega) fn_0)).trans w102).trans (by omega)) (fun i => ((u107 244 i (fn_a (by omega) fn_0)).trans ((u102 244 i (fn_a (by omega) fn_0)).trans ((u91 244 i (fn_a (by omega) fn_0)).trans ((u67 244 i (fo_nk rfl)).trans ((u63 244 i (fn_a (by omega) fn_0)).trans ((u51 244 i (fo_nk rfl)).trans ((u31 244 i (fn_a (by omega) (fn_a (by omega) fn_0))).trans (u21 244 i (fo_nk rfl)))))))))) (by omega) (by omega) (by omega)))
            ·
              refine wi_iconst (n := 1) (nx := 25) (r1 := 0) (r2 := 0) (r3 := 0) rfl ?_
              refine wi_goto (nx := 28) (r1 := 29) (r2 := 0) (r3 := 0) rfl ?_
              refine wi_zreturn (nx := 30) (r1 := 0) (r2 := 0) (r3 := 0) rfl rfl (by omega) ?_
              refine wk_i ?_
              refine wi_istore_n (i := 3) (e := 1) (lo2 := [(3, vi 1), (0, .ref 236), (1, vl 2084)]) (nx := 6) (r1 := 0) (r2 := 0) (r3 := 0) rfl rfl ?_
              refine wi_iload_n (i := 3) (e := 1) (nx := 7) (r1 := 0) (r2 := 0) (r3 := 0) rfl rfl ?_
              refine wi_if (cd := .eq) (nx := 10) (r1 := 14) (r2 := 0) (r3 := 0) rfl (by omega) (fun (q99 : 1 = 0) => by exfalso; omega) (fun (q99 : ¬ (1 = 0)) => ?_)
              refine wi_aload_n (i := 0) (x := 236) (nx := 11) (r1 := 0) (r2 := 0) (r3 := 0) rfl rfl ?_
              refine wr_V (k0 := 236) (rest := []) (as := [.ref 236]) (nx := 14) (r1 := 215) (r2 := 0) (r3 := 11) rfl rfl rfl (of_decide_eq_true rfl) rfl rfl (by decide) rfl rfl (of_decide_eq_true rfl) (of_decide_eq_true rfl) ?_
              have e101 : h91 236 4 = h67 236 4 := (u91 236 4 (fn_a (by omega) fn_0))
              have e102 : h91 236 3 = h 236 3 := ((u91 236 3 (fn_a (by omega) fn_0)).trans ((u67 236 3 rfl).trans ((u63 236 3 (fn_a (by omega) fn_0)).trans ((u51 236 3 rfl).trans ((u31 236 3 rfl).trans (u21 236 3 rfl))))))
              have rb103 := RefB.fr u67 rfl rb77
              have rb104 := RefB.fr u91 rfl rb103
              refine ct_215_236 hcr  g91   (show (h91 236 4) ≤ (h91 236 3) by omega) (show (h91 236 4) = (tk_nx tB tn (tk_nx tB tn (tk_nx tB tn (tk_nx tB tn (tk_nx tB tn tp))))) by omega) (show 0 ≤ (tk_nx tB tn (tk_nx tB tn (tk_nx tB tn (tk_nx tB tn (tk_nx tB tn tp))))) by omega) (show (tk_nx tB tn (tk_nx tB tn (tk_nx tB tn (tk_nx tB tn (tk_nx tB tn tp))))) ≤ tn by omega) rb104 (fun h100 g100 u100 (p100_0 : (h91 236 4) ≤ (h100 236 4)) (p100_1 : (h100 236 4) ≤ (h91 236 3)) (p100_2 : ((h100 236 4) = tk_nx tB tn (tk_nx tB tn (tk_nx tB tn (tk_nx tB tn (tk_nx tB tn (tk_nx tB tn tp))))) ∧ (h100 236 5) = tk_st tB tn (tk_nx tB tn (tk_nx tB tn (tk_nx tB tn (tk_nx tB tn (tk_nx tB tn tp))))) ∧ ((tk_kd tB tn (tk_nx tB tn (tk_nx tB tn (tk_nx tB tn (tk_nx tB tn (tk_nx tB tn tp))))) = 0 ∧ (h100 236 6) = 0) ∨ (tk_kd tB tn (tk_nx tB tn (tk_nx tB tn (tk_nx tB tn (tk_nx tB tn (tk_nx tB tn tp))))) = 1 ∧ (h100 236 6) = 1 ∧ (h100 236 12) = tk_sw tB tn (tk_nx tB tn (tk_nx tB tn (tk_nx tB tn (tk_nx tB tn (tk_nx tB tn tp)))))) ∨ (tk_kd tB tn (tk_nx tB tn (tk_nx tB tn (tk_nx tB tn (tk_nx tB tn (tk_nx tB tn tp))))) = 2 ∧ (h100 236 6) = 2 ∧ (h100 236 7) = tk_nb tB tn (tk_nx tB tn (tk_nx tB tn (tk_nx tB tn (tk_nx tB tn (tk_nx tB tn tp)))))) ∨ (tk_kd tB tn (tk_nx tB tn (tk_nx tB tn (tk_nx tB tn (tk_nx tB tn (tk_nx tB tn tp))))) = 3 ∧ (h100 236 6) = 3 ∧ (h100 236 7) = 59) ∨ (tk_kd tB tn (tk_nx tB tn (tk_nx tB tn (tk_nx tB tn (tk_nx tB tn (tk_nx tB tn tp))))) = 4 ∧ (h100 236 6) = 3 ∧ (h100 236 7) = 40) ∨ (tk_kd tB tn (tk_nx tB tn (tk_nx tB tn (tk_nx tB tn (tk_nx tB tn (tk_nx tB tn tp))))) = 5 ∧ (h100 236 6) = 3 ∧ (h100 236 7) = 41) ∨ (tk_kd tB tn (tk_nx tB tn (tk_nx tB tn (tk_nx tB tn (tk_nx tB tn (tk_nx tB tn tp))))) = 6 ∧ (h100 236 6) = 4)))) (p100_3 : (tk_nx tB tn (tk_nx tB tn (tk_nx tB tn (tk_nx tB tn (tk_nx tB tn tp))))) ≤ tk_nx tB tn (tk_nx tB tn (tk_nx tB tn (tk_nx tB tn (tk_nx tB tn (tk_nx tB tn tp))))) ∧ tk_nx tB tn (tk_nx tB tn (tk_nx tB tn (tk_nx tB tn (tk_nx tB tn (tk_nx tB tn tp))))) ≤ tn) => ?_)
              have F105 := F92.then (by decide +kernel) u100
              have b106 := gi_b (lo := 0) (hi := 800) g100 236 4 rfl
              have b107 := gi_b (lo := 0) (hi := 800) g100 236 5 rfl
              have b108 := gi_b (lo := 0) (hi := 4) g100 236 6 rfl
              have b109 := gi_b (lo := -9223372036854775808) (hi := 9223372036854775807) g100 236 12 rfl
              have b110 := gi_b (lo := 0) (hi := 999) g100 236 7 rfl
              have tN111 := @tk_nx_b tB tn (tk_nx tB tn (tk_nx tB tn (tk_nx tB tn (tk_nx tB tn (tk_nx tB tn tp))))) (by omega) (by omega)
              refine wk_n ?_
              refine wi_iload_n (i := 3) (e := 1) (nx := 15) (r1 := 0) (r2 := 0) (r3 := 0) rfl rfl ?_
              refine wi_zreturn (nx := 16) (r1 := 0) (r2 := 0) (r3 := 0) rfl rfl (by omega) ?_
              refine wk_i ?_
              refine wi_if (cd := .eq) (nx := 107) (r1 := 116) (r2 := 0) (r3 := 0) rfl (by omega) (fun (q112 : 1 = 0) => by exfalso; omega) (fun (q112 : ¬ (1 = 0)) => ?_)
              refine wi_aload_n (i := 0) (x := 236) (nx := 108) (r1 := 0) (r2 := 0) (r3 := 0) rfl rfl ?_
              refine wi_iconst (n := 0) (nx := 109) (r1 := 0) (r2 := 0) (r3 := 0) rfl ?_
              refine wi_iconst (n := 2) (nx := 110) (r1 := 0) (r2 := 0) (r3 := 0) rfl ?_
              refine wr_V (k0 := 236) (rest := [vi e93, .ref 239]) (as := [.ref 236, vi 0, vi 2]) (nx := 113) (r1 := 231) (r2 := 2) (r3 := 11) rfl rfl rfl (of_decide_eq_true rfl) rfl rfl (by decide) rfl rfl (of_decide_eq_true rfl) (of_decide_eq_true rfl) ?_
              have e114 : h100 236 3 = h 236 3 := ((u100 236 3 rfl).trans ((u91 236 3 (fn_a (by omega) fn_0)).trans ((u67 236 3 rfl).trans ((u63 236 3 (fn_a (by omega) fn_0)).trans ((u51 236 3 rfl).trans ((u31 236 3 rfl).trans (u21 236 3 rfl)))))))
              have e115 : h100 236 8 = h67 236 8 := ((u100 236 8 rfl).trans (u91 236 8 (fn_a (by omega) fn_0)))
              have rb117 := RefB.fr u100 rfl rb104
              refine ct_231_236 hcr  g100 0 2 (by omega) (by omega) (show (h100 236 4) ≤ (h100 236 3) by omega) (show 0 ≤ (tk_nx tB tn (tk_nx tB tn (tk_nx tB tn (tk_nx tB tn (tk_nx tB tn tp))))) by omega) (show (tk_nx tB tn (tk_nx tB tn (tk_nx tB tn (tk_nx tB tn (tk_nx tB tn tp))))) ≤ tn by omega) (show (tk_nx tB tn (tk_nx tB tn (tk_nx tB tn (tk_nx tB tn (tk_nx tB tn tp))))) ≤ tk_nx tB tn (tk_nx tB tn (tk_nx tB tn (tk_nx tB tn (tk_nx tB tn (tk_nx tB tn tp))))) ∧ tk_nx tB tn (tk_nx tB tn (tk_nx tB tn (tk_nx tB tn (tk_nx tB tn (tk_nx tB tn tp))))) ≤ tn by omega) (show 1 ≤ (h100 236 8) ∨ ((h100 236 4) = tk_nx tB tn (tk_nx tB tn (tk_nx tB tn (tk_nx tB tn (tk_nx tB tn (tk_nx tB tn tp))))) ∧ (h100 236 5) = tk_st tB tn (tk_nx tB tn (tk_nx tB tn (tk_nx tB tn (tk_nx tB tn (tk_nx tB tn tp))))) ∧ ((tk_kd tB tn (tk_nx tB tn (tk_nx tB tn (tk_nx tB tn (tk_nx tB tn (tk_nx tB tn tp))))) = 0 ∧ (h100 236 6) = 0) ∨ (tk_kd tB tn (tk_nx tB tn (tk_nx tB tn (tk_nx tB tn (tk_nx tB tn (tk_nx tB tn tp))))) = 1 ∧ (h100 236 6) = 1 ∧ (h100 236 12) = tk_sw tB tn (tk_nx tB tn (tk_nx tB tn (tk_nx tB tn (tk_nx tB tn (tk_nx tB tn tp)))))) ∨ (tk_kd tB tn (tk_nx tB tn (tk_nx tB tn (tk_nx tB tn (tk_nx tB tn (tk_nx tB tn tp))))) = 2 ∧ (h100 236 6) = 2 ∧ (h100 236 7) = tk_nb tB tn (tk_nx tB tn (tk_nx tB tn (tk_nx tB tn (tk_nx tB tn (tk_nx tB tn tp)))))) ∨ (tk_kd tB tn (tk_nx tB tn (tk_nx tB tn (tk_nx tB tn (tk_nx tB tn (tk_nx tB tn tp))))) = 3 ∧ (h100 236 6) = 3 ∧ (h100 236 7) = 59) ∨ (tk_kd tB tn (tk_nx tB tn (tk_nx tB tn (tk_nx tB tn (tk_nx tB tn (tk_nx tB tn tp))))) = 4 ∧ (h100 236 6) = 3 ∧ (h100 236 7) = 40) ∨ (tk_kd tB tn (tk_nx tB tn (tk_nx tB tn (tk_nx tB tn (tk_nx tB tn (tk_nx tB tn tp))))) = 5 ∧ (h100 236 6) = 3 ∧ (h100 236 7) = 41) ∨ (tk_kd tB tn (tk_nx tB tn (tk_nx tB tn (tk_nx tB tn (tk_nx tB tn (tk_nx tB tn tp))))) = 6 ∧ (h100 236 6) = 4))) from (Or.inr (show ((h100 236 4) = tk_nx tB tn (tk_nx tB tn (tk_nx tB tn (tk_nx tB tn (tk_nx tB tn (tk_nx tB tn tp))))) ∧ (h100 236 5) = tk_st tB tn (tk_nx tB tn (tk_nx tB tn (tk_nx tB tn (tk_nx tB tn (tk_nx tB tn tp))))) ∧ ((tk_kd tB tn (tk_nx tB tn (tk_nx tB tn (tk_nx tB tn (tk_nx tB tn (tk_nx tB tn tp))))) = 0 ∧ (h100 236 6) = 0) ∨ (tk_kd tB tn (tk_nx tB tn (tk_nx tB tn (tk_nx tB tn (tk_nx tB tn (tk_nx tB tn tp))))) = 1 ∧ (h100 236 6) = 1 ∧ (h100 236 12) = tk_sw tB tn (tk_nx tB tn (tk_nx tB tn (tk_nx tB tn (tk_nx tB tn (tk_nx tB tn tp)))))) ∨ (tk_kd tB tn (tk_nx tB tn (tk_nx tB tn (tk_nx tB tn (tk_nx tB tn (tk_nx tB tn tp))))) = 2 ∧ (h100 236 6) = 2 ∧ (h100 236 7) = tk_nb tB tn (tk_nx tB tn (tk_nx tB tn (tk_nx tB tn (tk_nx tB tn (tk_nx tB tn tp)))))) ∨ (tk_kd tB tn (tk_nx tB tn (tk_nx tB tn (tk_nx tB tn (tk_nx tB tn (tk_nx tB tn tp))))) = 3 ∧ (h100 236 6) = 3 ∧ (h100 236 7) = 59) ∨ (tk_kd tB tn (tk_nx tB tn (tk_nx tB tn (tk_nx tB tn (tk_nx tB tn (tk_nx tB tn tp))))) = 4 ∧ (h100 236 6) = 3 ∧ (h100 236 7) = 40) ∨ (tk_kd tB tn (tk_nx tB tn (tk_nx tB tn (tk_nx tB tn (tk_nx tB tn (tk_nx tB tn tp))))) = 5 ∧ (h100 236 6) = 3 ∧ (h100 236 7) = 41) ∨ (tk_kd tB tn (tk_nx tB tn (tk_nx tB tn (tk_nx tB tn (tk_nx tB tn (tk_nx tB tn tp))))) = 6 ∧ (h100 236 6) = 4))) by first | assumption | exact tk_mv (by assumption) (by omega) (by omega) (by omega) (by omega) (by omega)))) rb117 (fun h113 z116 g113 u113 (fz116 : 0 ≤ z116 ∧ z116 ≤ 999) (p113_0 : (1 ≤ (h100 236 8) ∧ (h113 236 8) = (h100 236 8) ∧ (h113 236 9) = (h100 236 9)) ∨ ((h100 236 8) = 0 ∧ tk_kd tB tn (tk_nx tB tn (tk_nx tB tn (tk_nx tB tn (tk_nx tB tn (tk_nx tB tn tp))))) = 2 ∧ 0 ≤ tk_nb tB tn (tk_nx tB tn (tk_nx tB tn (tk_nx tB tn (tk_nx tB tn (tk_nx tB tn tp))))) ∧ tk_nb tB tn (tk_nx tB tn (tk_nx tB tn (tk_nx tB tn (tk_nx tB tn (tk_nx tB tn tp))))) ≤ 2 ∧ z116 = tk_nb tB tn (tk_nx tB tn (tk_nx tB tn (tk_nx tB tn (tk_nx tB tn (tk_nx tB tn tp))))) ∧ (h113 236 8) = (h100 236 8) ∧ (h113 236 9) = (h100 236 9) ∧ ((h113 236 4) = tk_nx tB tn (tk_nx tB tn (tk_nx tB tn (tk_nx tB tn (tk_nx tB tn (tk_nx tB tn (tk_nx tB tn tp)))))) ∧ (h113 236 5) = tk_st tB tn (tk_nx tB tn (tk_nx tB tn (tk_nx tB tn (tk_nx tB tn (tk_nx tB tn (tk_nx tB tn tp)))))) ∧ ((tk_kd tB tn (tk_nx tB tn (tk_nx tB tn (tk_nx tB tn (tk_nx tB tn (tk_nx tB tn (tk_nx tB tn tp)))))) = 0 ∧ (h113 236 6) = 0) ∨ (tk_kd tB tn (tk_nx tB tn (tk_nx tB tn (tk_nx tB tn (tk_nx tB tn (tk_nx tB tn (tk_nx tB tn tp)))))) = 1 ∧ (h113 236 6) = 1 ∧ (h113 236 12) = tk_sw tB tn (tk_nx tB tn (tk_nx tB tn (tk_nx tB tn (tk_nx tB tn (tk_nx tB tn (tk_nx tB tn tp))))))) ∨ (tk_kd tB tn (tk_nx tB tn (tk_nx tB tn (tk_nx tB tn (tk_nx tB tn (tk_nx tB tn (tk_nx tB tn tp)))))) = 2 ∧ (h113 236 6) = 2 ∧ (h113 236 7) = tk_nb tB tn (tk_nx tB tn (tk_nx tB tn (tk_nx tB tn (tk_nx tB tn (tk_nx tB tn (tk_nx tB tn tp))))))) ∨ (tk_kd tB tn (tk_nx tB tn (tk_nx tB tn (tk_nx tB tn (tk_nx tB tn (tk_nx tB tn (tk_nx tB tn tp)))))) = 3 ∧ (h113 236 6) = 3 ∧ (h113 236 7) = 59) ∨ (tk_kd tB tn (tk_nx tB tn (tk_nx tB tn (tk_nx tB tn (tk_nx tB tn (tk_nx tB tn (tk_nx tB tn tp)))))) = 4 ∧ (h113 236 6) = 3 ∧ (h113 236 7) = 40) ∨ (tk_kd tB tn (tk_nx tB tn (tk_nx tB tn (tk_nx tB tn (tk_nx tB tn (tk_nx tB tn (tk_nx tB tn tp)))))) = 5 ∧ (h113 236 6) = 3 ∧ (h113 236 7) = 41) ∨ (tk_kd tB tn (tk_nx tB tn (tk_nx tB tn (tk_nx tB tn (tk_nx tB tn (tk_nx tB tn (tk_nx tB tn tp)))))) = 6 ∧ (h113 236 6) = 4)))) ∨ ((h100 236 8) = 0 ∧ tk_kd tB tn (tk_nx tB tn (tk_nx tB tn (tk_nx tB tn (tk_nx tB tn (tk_nx tB tn tp))))) ≠ 2 ∧ (h113 236 8) = 1 ∧ (h113 236 9) = tk_st tB tn (tk_nx tB tn (tk_nx tB tn (tk_nx tB tn (tk_nx tB tn (tk_nx tB tn tp)))))) ∨ ((h100 236 8) = 0 ∧ tk_kd tB tn (tk_nx tB tn (tk_nx tB tn (tk_nx tB tn (tk_nx tB tn (tk_nx tB tn tp))))) = 2 ∧ (tk_nb tB tn (tk_nx tB tn (tk_nx tB tn (tk_nx tB tn (tk_nx tB tn (tk_nx tB tn tp))))) < 0 ∨ 2 < tk_nb tB tn (tk_nx tB tn (tk_nx tB tn (tk_nx tB tn (tk_nx tB tn (tk_nx tB tn tp)))))) ∧ (h113 236 8) = 2 ∧ (h113 236 9) = tk_st tB tn (tk_nx tB tn (tk_nx tB tn (tk_nx tB tn (tk_nx tB tn (tk_nx tB tn tp))))))) (p113_1 : (h100 236 4) ≤ (h113 236 4)) (p113_2 : (h113 236 4) ≤ (h100 236 3)) (p113_3 : 1 ≤ (h113 236 8) ∨ (h100 236 8) = 0) (p113_4 : 1 ≤ (h113 236 8) ∨ (0 ≤ z116 ∧ z116 ≤ 2)) (p113_5 : 1 ≤ (h113 236 8) ∨ (h100 236 6) = 2) => ?_)
              have F118 := F105.then (by decide +kernel) u113
              have e119 : h100 236 9 = h67 236 9 := ((u100 236 9 rfl).trans (u91 236 9 (fn_a (by omega) fn_0)))
              have b120 := gi_b (lo := 0) (hi := 5) g113 236 8 rfl
              have b121 := gi_b (lo := -2147483648) (hi := 2147483647) g113 236 9 rfl
              have b122 := gi_b (lo := 0) (hi := 800) g113 236 4 rfl
              have b123 := gi_b (lo := 0) (hi := 800) g113 236 5 rfl
              have b124 := gi_b (lo := 0) (hi := 4) g113 236 6 rfl
              have b125 := gi_b (lo := -9223372036854775808) (hi := 9223372036854775807) g113 236 12 rfl
              have b126 := gi_b (lo := 0) (hi := 999) g113 236 7 rfl
              refine wk_i ?_
              rcases p113_0 with p113_0 | p113_0 | p113_0 | p113_0
              ·
                exfalso; omega
              ·
                have tk127 := p113_0.2.2.2.2.2.2.2
                have tN128 := @tk_nx_b tB tn (tk_nx tB tn (tk_nx tB tn (tk_nx tB tn (tk_nx tB tn (tk_nx tB tn (tk_nx tB tn tp)))))) (by omega) (by omega)
                refine wi_goto (nx := 116) (r1 := 117) (r2 := 0) (r3 := 0) rfl ?_
                obtain ⟨i129, ei129⟩ : ∃ q : Nat, e93 = (q : Int) := ⟨(e93).toNat, by omega⟩
                refine wr_is (k0 := 239) (a := e93) (f := i129) (x := z116) (bl := 0) (bh := 999) (nx := 118) (r1 := 0) (r2 := 0) (r3 := 0) rfl (by decide) rfl (by omega) (by omega) (by decide) g113 (gi_rq 43 12 (fun _ => rfl) (by decide +kernel) (by omega)) (by omega) (fun h130 g130 w130 u130 => ?_)
                have F131 := F118.then rfl (FR.idx (p := 43) (q := 54) u130 (by omega))
                refine wi_aload_n (i := 0) (x := 236) (nx := 119) (r1 := 0) (r2 := 0) (r3 := 0) rfl rfl ?_
                refine wr_V (k0 := 236) (rest := []) (as := [.ref 236]) (nx := 122) (r1 := 219) (r2 := 0) (r3 := 11) rfl rfl rfl (of_decide_eq_true rfl) rfl rfl (by decide) rfl rfl (of_decide_eq_true rfl) (of_decide_eq_true rfl) ?_
                refine wi_aload_n (i := 0) (x := 236) (nx := 1) (r1 := 0) (r2 := 0) (r3 := 0) rfl rfl ?_
                refine wr_gi0 (k0 := 236) (x := h113 236 8) (nx := 4) (r1 := 11) (r2 := 8) (r3 := 0) rfl rfl (by decide) rfl ⟨rfl, rfl⟩ rfl (u130 236 8 (fn_a (by omega) fn_0)) ?_
                refine wi_if (cd := .ne) (nx := 7) (r1 := 11) (r2 := 0) (r3 := 0) rfl (by omega) (fun (q132 : (h113 236 8) ≠ 0) => by exfalso; omega) (fun (q132 : ¬ ((h113 236 8) ≠ 0)) => ?_)
                refine wi_iconst (n := 1) (nx := 8) (r1 := 0) (r2 := 0) (r3 := 0) rfl ?_
                refine wi_goto (nx := 11) (r1 := 12) (r2 := 0) (r3 := 0) rfl ?_
                refine wi_zreturn (nx := 13) (r1 := 0) (r2 := 0) (r3 := 0) rfl rfl (by omega) ?_
                refine wk_i ?_
                refine wi_if (cd := .eq) (nx := 125) (r1 := 135) (r2 := 0) (r3 := 0) rfl (by omega) (fun (q133 : 1 = 0) => by exfalso; omega) (fun (q133 : ¬ (1 = 0)) => ?_)
                refine wi_aload_n (i := 0) (x := 236) (nx := 126) (r1 := 0) (r2 := 0) (r3 := 0) rfl rfl ?_
                refine wr_gr (k0 := 236) (x := 239) (nx := 129) (r1 := 11) (r2 := 14) (r3 := 0) rfl rfl (by decide) rfl ⟨rfl, rfl⟩ rfl ?_
                refine wi_iconst (n := 2) (nx := 130) (r1 := 0) (r2 := 0) (r3 := 0) rfl ?_
                refine wi_dup2 (nx := 131) (r1 := 0) (r2 := 0) (r3 := 0) rfl rfl rfl ?_
                refine wr_ia (k0 := 239) (a := 2) (f := 2) (x := h 239 2) (nx := 132) (r1 := 0) (r2 := 0) (r3 := 0) rfl (by decide) rfl (by omega) (by omega) (by decide) ((u130 239 2 (fn_i (by omega) fn_0)).trans ((u113 239 2 rfl).trans ((u100 239 2 rfl).trans ((u91 239 2 (fn_i (by omega) fn_0)).trans ((u67 239 2 rfl).trans ((u63 239 2 (fn_i (by omega) fn_0)).trans ((u51 239 2 rfl).trans ((u31 239 2 rfl).trans (u21 239 2 rfl))))))))) ?_
                refine wi_iconst (n := 1) (nx := 133) (r1 := 0) (r2 := 0) (r3 := 0) rfl ?_
                refine wr_add (nx := 134) (r1 := 0) (r2 := 0) (r3 := 0) rfl (fun e134 (fe134 : e134 = (h 239 2) + 1) => ?_)
                refine wr_is (k0 := 239) (a := 2) (f := 2) (x := e134) (bl := 0) (bh := 12) (nx := 135) (r1 := 0) (r2 := 0) (r3 := 0) rfl (by decide) rfl (by omega) (by omega) (by decide) g130 rfl (by omega) (fun h135 g135 w135 u135 => ?_)
                have F136 := F131.then rfl u135
                refine wi_return (nx := 136) (r1 := 0) (r2 := 0) (r3 := 0) rfl rfl ?_
                have e137 : h135 236 4 = h113 236 4 := ((u135 236 4 rfl).trans (u130 236 4 (fn_a (by omega) fn_0)))
                have e138 : h135 236 8 = h113 236 8 := ((u135 236 8 rfl).trans (u130 236 8 (fn_a (by omega) fn_0)))
                have e139 : h135 239 5 = h 239 5 := ((u135 239 5 rfl).trans ((u130 239 5 (fn_i (by omega) fn_0)).trans ((u113 239 5 rfl).trans ((u100 239 5 rfl).trans ((u91 239 5 (fn_i (by omega) fn_0)).trans ((u67 239 5 rfl).trans ((u63 239 5 (fn_i (by omega) fn_0)).trans ((u51 239 5 rfl).trans ((u31 239 5 rfl).trans (u21 239 5 rfl))))))))))
                have e140 : h135 239 7 = h 239 7 := ((u135 239 7 rfl).trans ((u130 239 7 (fn_i (by omega) fn_0)).trans ((u113 239 7 rfl).trans ((u100 239 7 rfl).trans ((u91 239 7 (fn_i (by omega) fn_0)).trans ((u67 239 7 rfl).trans ((u63 239 7 (fn_i (by omega) fn_0)).trans ((u51 239 7 rfl).trans ((u31 239 7 rfl).trans (u21 239 7 rfl))))))))))
                have e141 : h135 239 15 = h 239 15 := ((u135 239 15 rfl).trans ((u130 239 15 (fn_i (by omega) fn_0)).trans ((u113 239 15 rfl).trans ((u100 239 15 rfl).trans ((u91 239 15 (fn_i (by omega) fn_0)).trans ((u67 239 15 rfl).trans ((u63 239 15 (fn_i (by omega) fn_0)).trans ((u51 239 15 rfl).trans ((u31 239 15 rfl).trans (u21 239 15 rfl))))))))))
                have e142 : h135 239 16 = h 239 16 := ((u135 239 16 rfl).trans ((u130 239 16 (fn_i (by omega) fn_0)).trans ((u113 239 16 rfl).trans ((u100 239 16 rfl).trans ((u91 239 16 (fn_i (by omega) fn_0)).trans ((u67 239 16 rfl).trans ((u63 239 16 (fn_i (by omega) fn_0)).trans ((u51 239 16 rfl).trans ((u31 239 16 rfl).trans (u21 239 16 rfl))))))))))
                have e143 : h135 239 17 = h 239 17 := ((u135 239 17 rfl).trans ((u130 239 17 (fn_i (by omega) fn_0)).trans ((u113 239 17 rfl).trans ((u100 239 17 rfl).trans ((u91 239 17 (fn_i (by omega) fn_0)).trans ((u67 239 17 rfl).trans ((u63 239 17 (fn_i (by omega) fn_0)).trans ((u51 239 17 rfl).trans ((u31 239 17 rfl).trans (u21 239 17 rfl))))))))))
                have e144 : h135 239 18 = h 239 18 := ((u135 239 18 rfl).trans ((u130 239 18 (fn_i (by omega) fn_0)).trans ((u113 239 18 rfl).trans ((u100 239 18 rfl).trans ((u91 239 18 (fn_i (by omega) fn_0)).trans ((u67 239 18 rfl).trans ((u63 239 18 (fn_i (by omega) fn_0)).trans ((u51 239 18 rfl).trans ((u31 239 18 rfl).trans (u21 239 18 rfl))))))))))
                have e145 : h135 236 9 = h113 236 9 := ((u135 236 9 rfl).trans (u130 236 9 (fn_a (by omega) fn_0)))
                have e146 : h135 239 0 = h 239 0 := ((u135 239 0 rfl).trans ((u130 239 0 (fn_i (by omega) fn_0)).trans ((u113 239 0 rfl).trans ((u100 239 0 rfl).trans ((u91 239 0 (fn_i (by omega) fn_0)).trans ((u67 239 0 rfl).trans ((u63 239 0 (fn_i (by omega) fn_0)).trans ((u51 239 0 rfl).trans ((u31 239 0 rfl).trans (u21 239 0 rfl))))))))))
                have e147 : h135 239 1 = h 239 1 := ((u135 239 1 rfl).trans ((u130 239 1 (fn_i (by omega) fn_0)).trans ((u113 239 1 rfl).trans ((u100 239 1 rfl).trans ((u91 239 1 (fn_i (by omega) fn_0)).trans ((u67 239 1 rfl).trans ((u63 239 1 (fn_i (by omega) fn_0)).trans ((u51 239 1 rfl).trans ((u31 239 1 rfl).trans (u21 239 1 rfl))))))))))
                have e148 : h135 239 2 = e134 := w135
                have b149 := gi_b (lo := 0) (hi := 999) g 239 3 rfl
                have e150 : h135 239 3 = h 239 3 := ((u135 239 3 rfl).trans ((u130 239 3 (fn_i (by omega) fn_0)).trans ((u113 239 3 rfl).trans ((u100 239 3 rfl).trans ((u91 239 3 (fn_i (by omega) fn_0)).trans ((u67 239 3 rfl).trans ((u63 239 3 (fn_i (by omega) fn_0)).trans ((u51 239 3 rfl).trans ((u31 239 3 rfl).trans (u21 239 3 rfl))))))))))
                have b151 := gi_b (lo := 0) (hi := 999) g 239 4 rfl
                have e152 : h135 239 4 = h 239 4 := ((u135 239 4 rfl).trans ((u130 239 4 (fn_i (by omega) fn_0)).trans ((u113 239 4 rfl).trans ((u100 239 4 rfl).trans ((u91 239 4 (fn_i (by omega) fn_0)).trans ((u67 239 4 rfl).trans ((u63 239 4 (fn_i (by omega) fn_0)).trans ((u51 239 4 rfl).trans ((u31 239 4 rfl).trans (u21 239 4 rfl))))))))))
                have b153 := gi_b (lo := 0) (hi := 999) g 239 6 rfl
                have e154 : h135 239 6 = h 239 6 := ((u135 239 6 rfl).trans ((u130 239 6 (fn_i (by omega) fn_0)).trans ((u113 239 6 rfl).trans ((u100 239 6 rfl).trans ((u91 239 6 (fn_i (by omega) fn_0)).trans ((u67 239 6 rfl).trans ((u63 239 6 (fn_i (by omega) fn_0)).trans ((u51 239 6 rfl).trans ((u31 239 6 rfl).trans (u21 239 6 rfl))))))))))
                have b155 := gi_b (lo := 0) (hi := 999) g 239 8 rfl
                have e156 : h135 239 8 = h 239 8 := ((u135 239 8 rfl).trans ((u130 239 8 (fn_i (by omega) fn_0)).trans ((u113 239 8 rfl).trans ((u100 239 8 rfl).trans ((u91 239 8 (fn_i (by omega) fn_0)).trans ((u67 239 8 rfl).trans ((u63 239 8 (fn_i (by omega) fn_0)).trans ((u51 239 8 rfl).trans ((u31 239 8 rfl).trans (u21 239 8 rfl))))))))))
                have b157 := gi_b (lo := 0) (hi := 999) g 239 9 rfl
                have e158 : h135 239 9 = h 239 9 := ((u135 239 9 rfl).trans ((u130 239 9 (fn_i (by omega) fn_0)).trans ((u113 239 9 rfl).trans ((u100 239 9 rfl).trans ((u91 239 9 (fn_i (by omega) fn_0)).trans ((u67 239 9 rfl).trans ((u63 239 9 (fn_i (by omega) fn_0)).trans ((u51 239 9 rfl).trans ((u31 239 9 rfl).trans (u21 239 9 rfl))))))))))
                have b159 := gi_b (lo := 0) (hi := 1) g 236 23 rfl
                have e160 : h135 236 23 = h 236 23 := ((u135 236 23 rfl).trans ((u130 236 23 (fn_a (by omega) fn_0)).trans ((u113 236 23 rfl).trans ((u100 236 23 rfl).trans ((u91 236 23 (fn_a (by omega) fn_0)).trans ((u67 236 23 rfl).trans ((u63 236 23 (fn_a (by omega) fn_0)).trans ((u51 236 23 rfl).trans ((u31 236 23 rfl).trans (u21 236 23 rfl))))))))))
                have b161 := gi_b (lo := 0) (hi := 1) g 236 24 rfl
                have e162 : h135 236 24 = h 236 24 := ((u135 236 24 rfl).trans ((u130 236 24 (fn_a (by omega) fn_0)).trans ((u113 236 24 rfl).trans ((u100 236 24 rfl).trans ((u91 236 24 (fn_a (by omega) fn_0)).trans ((u67 236 24 rfl).trans ((u63 236 24 (fn_a (by omega) fn_0)).trans ((u51 236 24 rfl).trans ((u31 236 24 rfl).trans (u21 236 24 rfl))))))))))
                have b163 := gi_b (lo := 0) (hi := 1) g 236 25 rfl
                have e164 : h135 236 25 = h 236 25 := ((u135 236 25 rfl).trans ((u130 236 25 (fn_a (by omega) fn_0)).trans ((u113 236 25 rfl).trans ((u100 236 25 rfl).trans ((u91 236 25 (fn_a (by omega) fn_0)).trans ((u67 236 25 rfl).trans ((u63 236 25 (fn_a (by omega) fn_0)).trans ((u51 236 25 rfl).trans ((u31 236 25 rfl).trans (u21 236 25 rfl))))))))))
                have b165 := gi_b (lo := 0) (hi := 1) g 236 26 rfl
                have e166 : h135 236 26 = h 236 26 := ((u135 236 26 rfl).trans ((u130 236 26 (fn_a (by omega) fn_0)).trans ((u113 236 26 rfl).trans ((u100 236 26 rfl).trans ((u91 236 26 (fn_a (by omega) fn_0)).trans ((u67 236 26 rfl).trans ((u63 236 26 (fn_a (by omega) fn_0)).trans ((u51 236 26 rfl).trans ((u31 236 26 rfl).trans (u21 236 26 rfl))))))))))
                have e167 : h135 236 5 = h113 236 5 := ((u135 236 5 rfl).trans (u130 236 5 (fn_a (by omega) fn_0)))
                have e168 : h135 236 6 = h113 236 6 := ((u135 236 6 rfl).trans (u130 236 6 (fn_a (by omega) fn_0)))
                have e169 : h135 236 7 = h113 236 7 := ((u135 236 7 rfl).trans (u130 236 7 (fn_a (by omega) fn_0)))
                have e170 : h135 236 12 = h113 236 12 := ((u135 236 12 rfl).trans (u130 236 12 (fn_a (by omega) fn_0)))
                exact k h135 g135 F136 (show (h 236 4) ≤ (h135 236 4) by omega) (show (h135 236 4) ≤ (h 236 3) by omega) (show 1 ≤ (h135 236 8) ∨ ((h135 239 5) ≤ 9 ∧ 1 ≤ (h135 239 5) ∧ (h135 239 7) ≤ 3 ∧ (h135 239 15) ≤ 6 ∧ (h135 239 16) ≤ 6 ∧ (h135 239 17) ≤ 6 ∧ (h135 239 18) ≤ 6) by omega) (show (h135 236 8) ≠ 0 ∨ (h135 236 9) = -1 by omega) (by unfold tk_car tk_wrd tk_num tk_bad; (try dsimp only); (repeat (first | rw [if_pos (by omega)] | rw [if_neg (by omega)])); (repeat ((first | unfold tk_wrd | unfold tk_num | unfold tk_bad); (try dsimp only); (repeat (first | rw [if_pos (by omega)] | rw [if_neg (by omega)])))); exact tk_ORs (by omega) (by first | assumption | exact tk_mv (by assumption) (by omega) (by omega) (by omega) (by omega) (by omega)) (CVr.car (c := (h 239 2).toNat) xq1 (by omega) (by omega) (fun i _ _ _ _ => ((u135 239 i (fn_i (by omega) fn_0)).trans ((u130 239 i (fn_i (by omega) fn_0)).trans ((u113 239 i (fo_nk rfl)).trans ((u100 239 i (fo_nk rfl)).trans ((u91 239 i (fn_i (by omega) fn_0)).trans ((u67 239 i (fo_nk rfl)).trans ((u63 239 i (fn_i (by omega) fn_0)).trans ((u51 239 i (fo_nk rfl)).trans ((u31 239 i (fn_a (by omega) (fn_a (by omega) fn_0))).trans (u21 239 i (fo_nk rfl)))))))))))) (fun i _ _ => ((u135 236 i (fn_a (by omega) fn_0)).trans ((u130 236 i (fn_a (by omega) fn_0)).trans ((u113 236 i (fn_i (by omega) (fn_i (by omega) (fn_i (by omega) (fn_i (by omega) (fn_i (by omega) (fn_i (by omega) (fn_i (by omega) fn_0)))))))).trans ((u100 236 i (fn_i (by omega) (fn_i (by omega) (fn_i (by omega) (fn_i (by omega) (fn_i (by omega) fn_0)))))).trans ((u91 236 i (fn_a (by omega) fn_0)).trans ((u67 236 i (fn_i (by omega) (fn_i (by omega) (fn_i (by omega) (fn_i (by omega) (fn_i (by omega) (fn_i (by omega) (fn_i (by omega) fn_0)))))))).trans ((u63 236 i (fn_a (by omega) fn_0)).trans ((u51 236 i (fn_i (by omega) (fn_i (by omega) (fn_i (by omega) (fn_i (by omega) (fn_i (by omega) fn_0)))))).trans ((u31 236 i (fn_i (by omega) (fn_i (by omega) fn_0))).trans (u21 236 i (fn_i (by omega) (fn_i (by omega) (fn_i (by omega) (fn_i (by omega) (fn_i (by omega) fn_0)))))))))))))))) (by rw [show 31 + (h 239 2).toNat = i62 by omega]; exact ((u135 239 i62 (fn_i (by omega) fn_0)).trans ((u130 239 i62 (fn_i (by omega) fn_0)).trans ((u113 239 i62 (fo_nk rfl)).trans ((u100 239 i62 (fo_nk rfl)).trans ((u91 239 i62 (fn_i (by omega) fn_0)).trans ((u67 239 i62 (fo_nk rfl)).trans w63)))))).trans (by omega)) (by rw [show 19 + (h 239 2).toNat = i90 by omega]; exact ((u135 239 i90 (fn_i (by omega) fn_0)).trans ((u130 239 i90 (fn_i (by omega) fn_0)).trans ((u113 239 i90 (fo_nk rfl)).trans ((u100 239 i90 (fo_nk rfl)).trans w91)))).trans (by omega)) (by rw [show 43 + (h 239 2).toNat = i129 by omega]; exact ((u135 239 i129 (fn_i (by omega) fn_0)).trans w130).trans (by omega)) (fun i => ((u135 244 i (fn_a (by omega) fn_0)).trans ((u130 244 i (fn_a (by omega) fn_0)).trans ((u113 244 i (fo_nk rfl)).trans ((u100 244 i (fo_nk rfl)).trans ((u91 244 i (fn_a (by omega) fn_0)).trans ((u67 244 i (fo_nk rfl)).trans ((u63 244 i (fn_a (by omega) fn_0)).trans ((u51 244 i (fo_nk rfl)).trans ((u31 244 i (fn_a (by omega) (fn_a (by omega) fn_0))).trans (u21 244 i (fo_nk rfl)))))))))))) (by omega) (by omega) (by omega)))
              ·
                refine wi_goto (nx := 116) (r1 := 117) (r2 := 0) (r3 := 0) rfl ?_
                obtain ⟨i127, ei127⟩ : ∃ q : Nat, e93 = (q : Int) := ⟨(e93).toNat, by omega⟩
                refine wr_is (k0 := 239) (a := e93) (f := i127) (x := z116) (bl := 0) (bh := 999) (nx := 118) (r1 := 0) (r2 := 0) (r3 := 0) rfl (by decide) rfl (by omega) (by omega) (by decide) g113 (gi_rq 43 12 (fun _ => rfl) (by decide +kernel) (by omega)) (by omega) (fun h128 g128 w128 u128 => ?_)
                have F129 := F118.then rfl (FR.idx (p := 43) (q := 54) u128 (by omega))
                refine wi_aload_n (i := 0) (x := 236) (nx := 119) (r1 := 0) (r2 := 0) (r3 := 0) rfl rfl ?_
                refine wr_V (k0 := 236) (rest := []) (as := [.ref 236]) (nx := 122) (r1 := 219) (r2 := 0) (r3 := 11) rfl rfl rfl (of_decide_eq_true rfl) rfl rfl (by decide) rfl rfl (of_decide_eq_true rfl) (of_decide_eq_true rfl) ?_
                refine wi_aload_n (i := 0) (x := 236) (nx := 1) (r1 := 0) (r2 := 0) (r3 := 0) rfl rfl ?_
                refine wr_gi0 (k0 := 236) (x := h113 236 8) (nx := 4) (r1 := 11) (r2 := 8) (r3 := 0) rfl rfl (by decide) rfl ⟨rfl, rfl⟩ rfl (u128 236 8 (fn_a (by omega) fn_0)) ?_
                refine wi_if (cd := .ne) (nx := 7) (r1 := 11) (r2 := 0) (r3 := 0) rfl (by omega) (fun (q130 : (h113 236 8) ≠ 0) => ?_) (fun (q130 : ¬ ((h113 236 8) ≠ 0)) => by exfalso; omega)
                refine wi_iconst (n := 0) (nx := 12) (r1 := 0) (r2 := 0) (r3 := 0) rfl ?_
                refine wi_zreturn (nx := 13) (r1 := 0) (r2 := 0) (r3 := 0) rfl rfl (by omega) ?_
                refine wk_i ?_
                refine wi_if (cd := .eq) (nx := 125) (r1 := 135) (r2 := 0) (r3 := 0) rfl (by omega) (fun (q131 : 0 = 0) => ?_) (fun (q131 : ¬ (0 = 0)) => by exfalso; omega)
                refine wi_return (nx := 136) (r1 := 0) (r2 := 0) (r3 := 0) rfl rfl ?_
                have e132 : h128 236 4 = h113 236 4 := (u128 236 4 (fn_a (by omega) fn_0))
                have e133 : h128 236 8 = h113 236 8 := (u128 236 8 (fn_a (by omega) fn_0))
                have e134 : h128 239 5 = h 239 5 := ((u128 239 5 (fn_i (by omega) fn_0)).trans ((u113 239 5 rfl).trans ((u100 239 5 rfl).trans ((u91 239 5 (fn_i (by omega) fn_0)).trans ((u67 239 5 rfl).trans ((u63 239 5 (fn_i (by omega) fn_0)).trans ((u51 239 5 rfl).trans ((u31 239 5 rfl).trans (u21 239 5 rfl)))))))))
                have e135 : h128 239 7 = h 239 7 := ((u128 239 7 (fn_i (by omega) fn_0)).trans ((u113 239 7 rfl).trans ((u100 239 7 rfl).trans ((u91 239 7 (fn_i (by omega) fn_0)).trans ((u67 239 7 rfl).trans ((u63 239 7 (fn_i (by omega) fn_0)).trans ((u51 239 7 rfl).trans ((u31 239 7 rfl).trans (u21 239 7 rfl)))))))))
                have e136 : h128 239 15 = h 239 15 := ((u128 239 15 (fn_i (by omega) fn_0)).trans ((u113 239 15 rfl).trans ((u100 239 15 rfl).trans ((u91 239 15 (fn_i (by omega) fn_0)).trans ((u67 239 15 rfl).trans ((u63 239 15 (fn_i (by omega) fn_0)).trans ((u51 239 15 rfl).trans ((u31 239 15 rfl).trans (u21 239 15 rfl)))))))))
                have e137 : h128 239 16 = h 239 16 := ((u128 239 16 (fn_i (by omega) fn_0)).trans ((u113 239 16 rfl).trans ((u100 239 16 rfl).trans ((u91 239 16 (fn_i (by omega) fn_0)).trans ((u67 239 16 rfl).trans ((u63 239 16 (fn_i (by omega) fn_0)).trans ((u51 239 16 rfl).trans ((u31 239 16 rfl).trans (u21 239 16 rfl)))))))))
                have e138 : h128 239 17 = h 239 17 := ((u128 239 17 (fn_i (by omega) fn_0)).trans ((u113 239 17 rfl).trans ((u100 239 17 rfl).trans ((u91 239 17 (fn_i (by omega) fn_0)).trans ((u67 239 17 rfl).trans ((u63 239 17 (fn_i (by omega) fn_0)).trans ((u51 239 17 rfl).trans ((u31 239 17 rfl).trans (u21 239 17 rfl)))))))))
                have e139 : h128 239 18 = h 239 18 := ((u128 239 18 (fn_i (by omega) fn_0)).trans ((u113 239 18 rfl).trans ((u100 239 18 rfl).trans ((u91 239 18 (fn_i (by omega) fn_0)).trans ((u67 239 18 rfl).trans ((u63 239 18 (fn_i (by omega) fn_0)).trans ((u51 239 18 rfl).trans ((u31 239 18 rfl).trans (u21 239 18 rfl)))))))))
                have e140 : h128 236 9 = h113 236 9 := (u128 236 9 (fn_a (by omega) fn_0))
                exact k h128 g128 F129 (show (h 236 4) ≤ (h128 236 4) by omega) (show (h128 236 4) ≤ (h 236 3) by omega) (show 1 ≤ (h128 236 8) ∨ ((h128 239 5) ≤ 9 ∧ 1 ≤ (h128 239 5) ∧ (h128 239 7) ≤ 3 ∧ (h128 239 15) ≤ 6 ∧ (h128 239 16) ≤ 6 ∧ (h128 239 17) ≤ 6 ∧ (h128 239 18) ≤ 6) by omega) (show (h128 236 8) ≠ 0 ∨ (h128 236 9) = -1 by omega) (by unfold tk_car tk_wrd tk_num tk_bad; (try dsimp only); (repeat (first | rw [if_pos (by omega)] | rw [if_neg (by omega)])); (repeat ((first | unfold tk_wrd | unfold tk_num | unfold tk_bad); (try dsimp only); (repeat (first | rw [if_pos (by omega)] | rw [if_neg (by omega)])))); first | exact tk_ORe (by omega) (by omega) (by omega) | ((repeat' split) <;> (first | exact tk_ORe (by omega) (by omega) (by omega) | (exfalso; omega))))
              ·
                refine wi_goto (nx := 116) (r1 := 117) (r2 := 0) (r3 := 0) rfl ?_
                obtain ⟨i127, ei127⟩ : ∃ q : Nat, e93 = (q : Int) := ⟨(e93).toNat, by omega⟩
                refine wr_is (k0 := 239) (a := e93) (f := i127) (x := z116) (bl := 0) (bh := 999) (nx := 118) (r1 := 0) (r2 := 0) (r3 := 0) rfl (by decide) rfl (by omega) (by omega) (by decide) g113 (gi_rq 43 12 (fun _ => rfl) (by decide +kernel) (by omega)) (by omega) (fun h128 g128 w128 u128 => ?_)
                have F129 := F118.then rfl (FR.idx (p := 43) (q := 54) u128 (by omega))
                refine wi_aload_n (i := 0) (x := 236) (nx := 119) (r1 := 0) (r2 := 0) (r3 := 0) rfl rfl ?_
                refine wr_V (k0 := 236) (rest := []) (as := [.ref 236]) (nx := 122) (r1 := 219) (r2 := 0) (r3 := 11) rfl rfl rfl (of_decide_eq_true rfl) rfl rfl (by decide) rfl rfl (of_decide_eq_true rfl) (of_decide_eq_true rfl) ?_
                refine wi_aload_n (i := 0) (x := 236) (nx := 1) (r1 := 0) (r2 := 0) (r3 := 0) rfl rfl ?_
                refine wr_gi0 (k0 := 236) (x := h113 236 8) (nx := 4) (r1 := 11) (r2 := 8) (r3 := 0) rfl rfl (by decide) rfl ⟨rfl, rfl⟩ rfl (u128 236 8 (fn_a (by omega) fn_0)) ?_
                refine wi_if (cd := .ne) (nx := 7) (r1 := 11) (r2 := 0) (r3 := 0) rfl (by omega) (fun (q130 : (h113 236 8) ≠ 0) => ?_) (fun (q130 : ¬ ((h113 236 8) ≠ 0)) => by exfalso; omega)
                refine wi_iconst (n := 0) (nx := 12) (r1 := 0) (r2 := 0) (r3 := 0) rfl ?_
                refine wi_zreturn (nx := 13) (r1 := 0) (r2 := 0) (r3 := 0) rfl rfl (by omega) ?_
                refine wk_i ?_
                refine wi_if (cd := .eq) (nx := 125) (r1 := 135) (r2 := 0) (r3 := 0) rfl (by omega) (fun (q131 : 0 = 0) => ?_) (fun (q131 : ¬ (0 = 0)) => by exfalso; omega)
                refine wi_return (nx := 136) (r1 := 0) (r2 := 0) (r3 := 0) rfl rfl ?_
                have e132 : h128 236 4 = h113 236 4 := (u128 236 4 (fn_a (by omega) fn_0))
                have e133 : h128 236 8 = h113 236 8 := (u128 236 8 (fn_a (by omega) fn_0))
                have e134 : h128 239 5 = h 239 5 := ((u128 239 5 (fn_i (by omega) fn_0)).trans ((u113 239 5 rfl).trans ((u100 239 5 rfl).trans ((u91 239 5 (fn_i (by omega) fn_0)).trans ((u67 239 5 rfl).trans ((u63 239 5 (fn_i (by omega) fn_0)).trans ((u51 239 5 rfl).trans ((u31 239 5 rfl).trans (u21 239 5 rfl)))))))))
                have e135 : h128 239 7 = h 239 7 := ((u128 239 7 (fn_i (by omega) fn_0)).trans ((u113 239 7 rfl).trans ((u100 239 7 rfl).trans ((u91 239 7 (fn_i (by omega) fn_0)).trans ((u67 239 7 rfl).trans ((u63 239 7 (fn_i (by omega) fn_0)).trans ((u51 239 7 rfl).trans ((u31 239 7 rfl).trans (u21 239 7 rfl)))))))))
                have e136 : h128 239 15 = h 239 15 := ((u128 239 15 (fn_i (by omega) fn_0)).trans ((u113 239 15 rfl).trans ((u100 239 15 rfl).trans ((u91 239 15 (fn_i (by omega) fn_0)).trans ((u67 239 15 rfl).trans ((u63 239 15 (fn_i (by omega) fn_0)).trans ((u51 239 15 rfl).trans ((u31 239 15 rfl).trans (u21 239 15 rfl)))))))))
                have e137 : h128 239 16 = h 239 16 := ((u128 239 16 (fn_i (by omega) fn_0)).trans ((u113 239 16 rfl).trans ((u100 239 16 rfl).trans ((u91 239 16 (fn_i (by omega) fn_0)).trans ((u67 239 16 rfl).trans ((u63 239 16 (fn_i (by omega) fn_0)).trans ((u51 239 16 rfl).trans ((u31 239 16 rfl).trans (u21 239 16 rfl)))))))))
                have e138 : h128 239 17 = h 239 17 := ((u128 239 17 (fn_i (by omega) fn_0)).trans ((u113 239 17 rfl).trans ((u100 239 17 rfl).trans ((u91 239 17 (fn_i (by omega) fn_0)).trans ((u67 239 17 rfl).trans ((u63 239 17 (fn_i (by omega) fn_0)).trans ((u51 239 17 rfl).trans ((u31 239 17 rfl).trans (u21 239 17 rfl)))))))))
                have e139 : h128 239 18 = h 239 18 := ((u128 239 18 (fn_i (by omega) fn_0)).trans ((u113 239 18 rfl).trans ((u100 239 18 rfl).trans ((u91 239 18 (fn_i (by omega) fn_0)).trans ((u67 239 18 rfl).trans ((u63 239 18 (fn_i (by omega) fn_0)).trans ((u51 239 18 rfl).trans ((u31 239 18 rfl).trans (u21 239 18 rfl)))))))))
                have e140 : h128 236 9 = h113 236 9 := (u128 236 9 (fn_a (by omega) fn_0))
                exact k h128 g128 F129 (show (h 236 4) ≤ (h128 236 4) by omega) (show (h128 236 4) ≤ (h 236 3) by omega) (show 1 ≤ (h128 236 8) ∨ ((h128 239 5) ≤ 9 ∧ 1 ≤ (h128 239 5) ∧ (h128 239 7) ≤ 3 ∧ (h128 239 15) ≤ 6 ∧ (h128 239 16) ≤ 6 ∧ (h128 239 17) ≤ 6 ∧ (h128 239 18) ≤ 6) by omega) (show (h128 236 8) ≠ 0 ∨ (h128 236 9) = -1 by omega) (by unfold tk_car tk_wrd tk_num tk_bad; (try dsimp only); (repeat (first | rw [if_pos (by omega)] | rw [if_neg (by omega)])); (repeat ((first | unfold tk_wrd | unfold tk_num | unfold tk_bad); (try dsimp only); (repeat (first | rw [if_pos (by omega)] | rw [if_neg (by omega)])))); first | exact tk_ORe (by omega) (by omega) (by omega) | ((repeat' split) <;> (first | exact tk_ORe (by omega) (by omega) (by omega) | (exfalso; omega))))
        ·
          obtain ⟨i87, ei87⟩ : ∃ q : Nat, e65 = (q : Int) := ⟨(e65).toNat, by omega⟩
          refine wr_is (k0 := 239) (a := e65) (f := i87) (x := z75) (bl := 0) (bh := 999) (nx := 89) (r1 := 0) (r2 := 0) (r3 := 0) rfl (by decide) rfl (by omega) (by omega) (by decide) g67 (gi_rq 19 12 (fun _ => rfl) (by decide +kernel) (by omega)) (by omega) (fun h88 g88 w88 u88 => ?_)
          have F89 := F78.then rfl (FR.idx (p := 19) (q := 30) u88 (by omega))
          refine wi_aload_n (i := 0) (x := 236) (nx := 90) (r1 := 0) (r2 := 0) (r3 := 0) rfl rfl ?_
          refine wr_gr (k0 := 236) (x := 239) (nx := 93) (r1 := 11) (r2 := 14) (r3 := 0) rfl rfl (by decide) rfl ⟨rfl, rfl⟩ rfl ?_
          refine wi_bipush (n := 43) (nx := 95) (r1 := 0) (r2 := 0) (r3 := 0) rfl (by decide) ?_
          refine wi_iload_n (i := 1) (e := h 239 2) (nx := 96) (r1 := 0) (r2 := 0) (r3 := 0) rfl rfl ?_
          refine wr_add (nx := 97) (r1 := 0) (r2 := 0) (r3 := 0) rfl (fun e90 (fe90 : e90 = 43 + (h 239 2)) => ?_)
          refine wi_aload_n (i := 0) (x := 236) (nx := 98) (r1 := 0) (r2 := 0) (r3 := 0) rfl rfl ?_
          refine wi_ldc2_w (e := 2084) (nx := 101) (r1 := 2084) (r2 := 0) (r3 := 0) rfl (by decide) ?_
          refine wr_V (k0 := 236) (rest := [vi e90, .ref 239]) (as := [.ref 236, vl 2084]) (nx := 104) (r1 := 230) (r2 := 1) (r3 := 11) rfl rfl rfl (of_decide_eq_true rfl) rfl rfl (by decide) rfl rfl (of_decide_eq_true rfl) (of_decide_eq_true rfl) ?_
          refine wi_aload_n (i := 0) (x := 236) (nx := 1) (r1 := 0) (r2 := 0) (r3 := 0) rfl rfl ?_
          refine wi_lload_n (i := 1) (e := 2084) (nx := 2) (r1 := 0) (r2 := 0) (r3 := 0) rfl rfl ?_
          refine wr_V (k0 := 236) (rest := []) (as := [.ref 236, vl 2084]) (nx := 5) (r1 := 221) (r2 := 1) (r3 := 11) rfl rfl rfl (of_decide_eq_true rfl) rfl rfl (by decide) rfl rfl (of_decide_eq_true rfl) (of_decide_eq_true rfl) ?_
          refine wi_aload_n (i := 0) (x := 236) (nx := 1) (r1 := 0) (r2 := 0) (r3 := 0) rfl rfl ?_
          refine wr_gi0 (k0 := 236) (x := h67 236 8) (nx := 4) (r1 := 11) (r2 := 8) (r3 := 0) rfl rfl (by decide) rfl ⟨rfl, rfl⟩ rfl (u88 236 8 (fn_a (by omega) fn_0)) ?_
          refine wi_if (cd := .ne) (nx := 7) (r1 := 28) (r2 := 0) (r3 := 0) rfl (by omega) (fun (q91 : (h67 236 8) ≠ 0) => ?_) (fun (q91 : ¬ ((h67 236 8) ≠ 0)) => by exfalso; omega)
          refine wi_iconst (n := 0) (nx := 29) (r1 := 0) (r2 := 0) (r3 := 0) rfl ?_
          refine wi_zreturn (nx := 30) (r1 := 0) (r2 := 0) (r3 := 0) rfl rfl (by omega) ?_
          refine wk_i ?_
          refine wi_istore_n (i := 3) (e := 0) (lo2 := [(3, vi 0), (0, .ref 236), (1, vl 2084)]) (nx := 6) (r1 := 0) (r2 := 0) (r3 := 0) rfl rfl ?_
          refine wi_iload_n (i := 3) (e := 0) (nx := 7) (r1 := 0) (r2 := 0) (r3 := 0) rfl rfl ?_
          refine wi_if (cd := .eq) (nx := 10) (r1 := 14) (r2 := 0) (r3 := 0) rfl (by omega) (fun (q92 : 0 = 0) => ?_) (fun (q92 : ¬ (0 = 0)) => by exfalso; omega)
          refine wi_iload_n (i := 3) (e := 0) (nx := 15) (r1 := 0) (r2 := 0) (r3 := 0) rfl rfl ?_
          refine wi_zreturn (nx := 16) (r1 := 0) (r2 := 0) (r3 := 0) rfl rfl (by omega) ?_
          refine wk_i ?_
          refine wi_if (cd := .eq) (nx := 107) (r1 := 116) (r2 := 0) (r3 := 0) rfl (by omega) (fun (q93 : 0 = 0) => ?_) (fun (q93 : ¬ (0 = 0)) => by exfalso; omega)
          refine wi_iconst (n := 0) (nx := 117) (r1 := 0) (r2 := 0) (r3 := 0) rfl ?_
          obtain ⟨i94, ei94⟩ : ∃ q : Nat, e90 = (q : Int) := ⟨(e90).toNat, by omega⟩
          refine wr_is (k0 := 239) (a := e90) (f := i94) (x := 0) (bl := 0) (bh := 999) (nx := 118) (r1 := 0) (r2 := 0) (r3 := 0) rfl (by decide) rfl (by omega) (by omega) (by decide) g88 (gi_rq 43 12 (fun _ => rfl) (by decide +kernel) (by omega)) (by omega) (fun h95 g95 w95 u95 => ?_)
          have F96 := F89.then rfl (FR.idx (p := 43) (q := 54) u95 (by omega))
          refine wi_aload_n (i := 0) (x := 236) (nx := 119) (r1 := 0) (r2 := 0) (r3 := 0) rfl rfl ?_
          refine wr_V (k0 := 236) (rest := []) (as := [.ref 236]) (nx := 122) (r1 := 219) (r2 := 0) (r3 := 11) rfl rfl rfl (of_decide_eq_true rfl) rfl rfl (by decide) rfl rfl (of_decide_eq_true rfl) (of_decide_eq_true rfl) ?_
          refine wi_aload_n (i := 0) (x := 236) (nx := 1) (r1 := 0) (r2 := 0) (r3 := 0) rfl rfl ?_
          refine wr_gi0 (k0 := 236) (x := h67 236 8) (nx := 4) (r1 := 11) (r2 := 8) (r3 := 0) rfl rfl (by decide) rfl ⟨rfl, rfl⟩ rfl ((u95 236 8 (fn_a (by omega) fn_0)).trans (u88 236 8 (fn_a (by omega) fn_0))) ?_
          refine wi_if (cd := .ne) (nx := 7) (r1 := 11) (r2 := 0) (r3 := 0) rfl (by omega) (fun (q97 : (h67 236 8) ≠ 0) => ?_) (fun (q97 : ¬ ((h67 236 8) ≠ 0)) => by exfalso; omega)
          refine wi_iconst (n := 0) (nx := 12) (r1 := 0) (r2 := 0) (r3 := 0) rfl ?_
          refine wi_zreturn (nx := 13) (r1 := 0) (r2 := 0) (r3 := 0) rfl rfl (by omega) ?_
          refine wk_i ?_
          refine wi_if (cd := .eq) (nx := 125) (r1 := 135) (r2 := 0) (r3 := 0) rfl (by omega) (fun (q98 : 0 = 0) => ?_) (fun (q98 : ¬ (0 = 0)) => by exfalso; omega)
          refine wi_return (nx := 136) (r1 := 0) (r2 := 0) (r3 := 0) rfl rfl ?_
          have e99 : h95 236 4 = h67 236 4 := ((u95 236 4 (fn_a (by omega) fn_0)).trans (u88 236 4 (fn_a (by omega) fn_0)))
          have e100 : h95 236 8 = h67 236 8 := ((u95 236 8 (fn_a (by omega) fn_0)).trans (u88 236 8 (fn_a (by omega) fn_0)))
          have e101 : h95 239 5 = h 239 5 := ((u95 239 5 (fn_i (by omega) fn_0)).trans ((u88 239 5 (fn_i (by omega) fn_0)).trans ((u67 239 5 rfl).trans ((u63 239 5 (fn_i (by omega) fn_0)).trans ((u51 239 5 rfl).trans ((u31 239 5 rfl).trans (u21 239 5 rfl)))))))
          have e102 : h95 239 7 = h 239 7 := ((u95 239 7 (fn_i (by omega) fn_0)).trans ((u88 239 7 (fn_i (by omega) fn_0)).trans ((u67 239 7 rfl).trans ((u63 239 7 (fn_i (by omega) fn_0)).trans ((u51 239 7 rfl).trans ((u31 239 7 rfl).trans (u21 239 7 rfl)))))))
          have e103 : h95 239 15 = h 239 15 := ((u95 239 15 (fn_i (by omega) fn_0)).trans ((u88 239 15 (fn_i (by omega) fn_0)).trans ((u67 239 15 rfl).trans ((u63 239 15 (fn_i (by omega) fn_0)).trans ((u51 239 15 rfl).trans ((u31 239 15 rfl).trans (u21 239 15 rfl)))))))
          have e104 : h95 239 16 = h 239 16 := ((u95 239 16 (fn_i (by omega) fn_0)).trans ((u88 239 16 (fn_i (by omega) fn_0)).trans ((u67 239 16 rfl).trans ((u63 239 16 (fn_i (by omega) fn_0)).trans ((u51 239 16 rfl).trans ((u31 239 16 rfl).trans (u21 239 16 rfl)))))))
          have e105 : h95 239 17 = h 239 17 := ((u95 239 17 (fn_i (by omega) fn_0)).trans ((u88 239 17 (fn_i (by omega) fn_0)).trans ((u67 239 17 rfl).trans ((u63 239 17 (fn_i (by omega) fn_0)).trans ((u51 239 17 rfl).trans ((u31 239 17 rfl).trans (u21 239 17 rfl)))))))
          have e106 : h95 239 18 = h 239 18 := ((u95 239 18 (fn_i (by omega) fn_0)).trans ((u88 239 18 (fn_i (by omega) fn_0)).trans ((u67 239 18 rfl).trans ((u63 239 18 (fn_i (by omega) fn_0)).trans ((u51 239 18 rfl).trans ((u31 239 18 rfl).trans (u21 239 18 rfl)))))))
          have e107 : h95 236 9 = h67 236 9 := ((u95 236 9 (fn_a (by omega) fn_0)).trans (u88 236 9 (fn_a (by omega) fn_0)))
          exact k h95 g95 F96 (show (h 236 4) ≤ (h95 236 4) by omega) (show (h95 236 4) ≤ (h 236 3) by omega) (show 1 ≤ (h95 236 8) ∨ ((h95 239 5) ≤ 9 ∧ 1 ≤ (h95 239 5) ∧ (h95 239 7) ≤ 3 ∧ (h95 239 15) ≤ 6 ∧ (h95 239 16) ≤ 6 ∧ (h95 239 17) ≤ 6 ∧ (h95 239 18) ≤ 6) by omega) (show (h95 236 8) ≠ 0 ∨ (h95 236 9) = -1 by omega) (by unfold tk_car tk_wrd tk_num tk_bad; (try dsimp only); (repeat (first | rw [if_pos (by omega)] | rw [if_neg (by omega)])); (repeat ((first | unfold tk_wrd | unfold tk_num | unfold tk_bad); (try dsimp only); (repeat (first | rw [if_pos (by omega)] | rw [if_neg (by omega)])))); first | exact tk_ORe (by omega) (by omega) (by omega) | ((repeat' split) <;> (first | exact tk_ORe (by omega) (by omega) (by omega) | (exfalso; omega))))
        ·
          have tN87 := @tk_nx_b tB tn (tk_nx tB tn (tk_nx tB tn tp)) (by omega) (by omega)
          obtain ⟨i88, ei88⟩ : ∃ q : Nat, e65 = (q : Int) := ⟨(e65).toNat, by omega⟩
          refine wr_is (k0 := 239) (a := e65) (f := i88) (x := z75) (bl := 0) (bh := 999) (nx := 89) (r1 := 0) (r2 := 0) (r3 := 0) rfl (by decide) rfl (by omega) (by omega) (by decide) g67 (gi_rq 19 12 (fun _ => rfl) (by decide +kernel) (by omega)) (by omega) (fun h89 g89 w89 u89 => ?_)
          have F90 := F78.then rfl (FR.idx (p := 19) (q := 30) u89 (by omega))
          refine wi_aload_n (i := 0) (x := 236) (nx := 90) (r1 := 0) (r2 := 0) (r3 := 0) rfl rfl ?_
          refine wr_gr (k0 := 236) (x := 239) (nx := 93) (r1 := 11) (r2 := 14) (r3 := 0) rfl rfl (by decide) rfl ⟨rfl, rfl⟩ rfl ?_
          refine wi_bipush (n := 43) (nx := 95) (r1 := 0) (r2 := 0) (r3 := 0) rfl (by decide) ?_
          refine wi_iload_n (i := 1) (e := h 239 2) (nx := 96) (r1 := 0) (r2 := 0) (r3 := 0) rfl rfl ?_
          refine wr_add (nx := 97) (r1 := 0) (r2 := 0) (r3 := 0) rfl (fun e91 (fe91 : e91 = 43 + (h 239 2)) => ?_)
          refine wi_aload_n (i := 0) (x := 236) (nx := 98) (r1 := 0) (r2 := 0) (r3 := 0) rfl rfl ?_
          refine wi_ldc2_w (e := 2084) (nx := 101) (r1 := 2084) (r2 := 0) (r3 := 0) rfl (by decide) ?_
          refine wr_V (k0 := 236) (rest := [vi e91, .ref 239]) (as := [.ref 236, vl 2084]) (nx := 104) (r1 := 230) (r2 := 1) (r3 := 11) rfl rfl rfl (of_decide_eq_true rfl) rfl rfl (by decide) rfl rfl (of_decide_eq_true rfl) (of_decide_eq_true rfl) ?_
          refine wi_aload_n (i := 0) (x := 236) (nx := 1) (r1 := 0) (r2 := 0) (r3 := 0) rfl rfl ?_
          refine wi_lload_n (i := 1) (e := 2084) (nx := 2) (r1 := 0) (r2 := 0) (r3 := 0) rfl rfl ?_
          refine wr_V (k0 := 236) (rest := []) (as := [.ref 236, vl 2084]) (nx := 5) (r1 := 221) (r2 := 1) (r3 := 11) rfl rfl rfl (of_decide_eq_true rfl) rfl rfl (by decide) rfl rfl (of_decide_eq_true rfl) (of_decide_eq_true rfl) ?_
          refine wi_aload_n (i := 0) (x := 236) (nx := 1) (r1 := 0) (r2 := 0) (r3 := 0) rfl rfl ?_
          refine wr_gi0 (k0 := 236) (x := h67 236 8) (nx := 4) (r1 := 11) (r2 := 8) (r3 := 0) rfl rfl (by decide) rfl ⟨rfl, rfl⟩ rfl (u89 236 8 (fn_a (by omega) fn_0)) ?_
          refine wi_if (cd := .ne) (nx := 7) (r1 := 28) (r2 := 0) (r3 := 0) rfl (by omega) (fun (q92 : (h67 236 8) ≠ 0) => ?_) (fun (q92 : ¬ ((h67 236 8) ≠ 0)) => by exfalso; omega)
          refine wi_iconst (n := 0) (nx := 29) (r1 := 0) (r2 := 0) (r3 := 0) rfl ?_
          refine wi_zreturn (nx := 30) (r1 := 0) (r2 := 0) (r3 := 0) rfl rfl (by omega) ?_
          refine wk_i ?_
          refine wi_istore_n (i := 3) (e := 0) (lo2 := [(3, vi 0), (0, .ref 236), (1, vl 2084)]) (nx := 6) (r1 := 0) (r2 := 0) (r3 := 0) rfl rfl ?_
          refine wi_iload_n (i := 3) (e := 0) (nx := 7) (r1 := 0) (r2 := 0) (r3 := 0) rfl rfl ?_
          refine wi_if (cd := .eq) (nx := 10) (r1 := 14) (r2 := 0) (r3 := 0) rfl (by omega) (fun (q93 : 0 = 0) => ?_) (fun (q93 : ¬ (0 = 0)) => by exfalso; omega)
          refine wi_iload_n (i := 3) (e := 0) (nx := 15) (r1 := 0) (r2 := 0) (r3 := 0) rfl rfl ?_
          refine wi_zreturn (nx := 16) (r1 := 0) (r2 := 0) (r3 := 0) rfl rfl (by omega) ?_
          refine wk_i ?_
          refine wi_if (cd := .eq) (nx := 107) (r1 := 116) (r2 := 0) (r3 := 0) rfl (by omega) (fun (q94 : 0 = 0) => ?_) (fun (q94 : ¬ (0 = 0)) => by exfalso; omega)
          refine wi_iconst (n := 0) (nx := 117) (r1 := 0) (r2 := 0) (r3 := 0) rfl ?_
          obtain ⟨i95, ei95⟩ : ∃ q : Nat, e91 = (q : Int) := ⟨(e91).toNat, by omega⟩
          refine wr_is (k0 := 239) (a := e91) (f := i95) (x := 0) (bl := 0) (bh := 999) (nx := 118) (r1 := 0) (r2 := 0) (r3 := 0) rfl (by decide) rfl (by omega) (by omega) (by decide) g89 (gi_rq 43 12 (fun _ => rfl) (by decide +kernel) (by omega)) (by omega) (fun h96 g96 w96 u96 => ?_)
          have F97 := F90.then rfl (FR.idx (p := 43) (q := 54) u96 (by omega))
          refine wi_aload_n (i := 0) (x := 236) (nx := 119) (r1 := 0) (r2 := 0) (r3 := 0) rfl rfl ?_
          refine wr_V (k0 := 236) (rest := []) (as := [.ref 236]) (nx := 122) (r1 := 219) (r2 := 0) (r3 := 11) rfl rfl rfl (of_decide_eq_true rfl) rfl rfl (by decide) rfl rfl (of_decide_eq_true rfl) (of_decide_eq_true rfl) ?_
          refine wi_aload_n (i := 0) (x := 236) (nx := 1) (r1 := 0) (r2 := 0) (r3 := 0) rfl rfl ?_
          refine wr_gi0 (k0 := 236) (x := h67 236 8) (nx := 4) (r1 := 11) (r2 := 8) (r3 := 0) rfl rfl (by decide) rfl ⟨rfl, rfl⟩ rfl ((u96 236 8 (fn_a (by omega) fn_0)).trans (u89 236 8 (fn_a (by omega) fn_0))) ?_
          refine wi_if (cd := .ne) (nx := 7) (r1 := 11) (r2 := 0) (r3 := 0) rfl (by omega) (fun (q98 : (h67 236 8) ≠ 0) => ?_) (fun (q98 : ¬ ((h67 236 8) ≠ 0)) => by exfalso; omega)
          refine wi_iconst (n := 0) (nx := 12) (r1 := 0) (r2 := 0) (r3 := 0) rfl ?_
          refine wi_zreturn (nx := 13) (r1 := 0) (r2 := 0) (r3 := 0) rfl rfl (by omega) ?_
          refine wk_i ?_
          refine wi_if (cd := .eq) (nx := 125) (r1 := 135) (r2 := 0) (r3 := 0) rfl (by omega) (fun (q99 : 0 = 0) => ?_) (fun (q99 : ¬ (0 = 0)) => by exfalso; omega)
          refine wi_return (nx := 136) (r1 := 0) (r2 := 0) (r3 := 0) rfl rfl ?_
          have e100 : h96 236 4 = h67 236 4 := ((u96 236 4 (fn_a (by omega) fn_0)).trans (u89 236 4 (fn_a (by omega) fn_0)))
          have e101 : h96 236 8 = h67 236 8 := ((u96 236 8 (fn_a (by omega) fn_0)).trans (u89 236 8 (fn_a (by omega) fn_0)))
          have e102 : h96 239 5 = h 239 5 := ((u96 239 5 (fn_i (by omega) fn_0)).trans ((u89 239 5 (fn_i (by omega) fn_0)).trans ((u67 239 5 rfl).trans ((u63 239 5 (fn_i (by omega) fn_0)).trans ((u51 239 5 rfl).trans ((u31 239 5 rfl).trans (u21 239 5 rfl)))))))
          have e103 : h96 239 7 = h 239 7 := ((u96 239 7 (fn_i (by omega) fn_0)).trans ((u89 239 7 (fn_i (by omega) fn_0)).trans ((u67 239 7 rfl).trans ((u63 239 7 (fn_i (by omega) fn_0)).trans ((u51 239 7 rfl).trans ((u31 239 7 rfl).trans (u21 239 7 rfl)))))))
          have e104 : h96 239 15 = h 239 15 := ((u96 239 15 (fn_i (by omega) fn_0)).trans ((u89 239 15 (fn_i (by omega) fn_0)).trans ((u67 239 15 rfl).trans ((u63 239 15 (fn_i (by omega) fn_0)).trans ((u51 239 15 rfl).trans ((u31 239 15 rfl).trans (u21 239 15 rfl)))))))
          have e105 : h96 239 16 = h 239 16 := ((u96 239 16 (fn_i (by omega) fn_0)).trans ((u89 239 16 (fn_i (by omega) fn_0)).trans ((u67 239 16 rfl).trans ((u63 239 16 (fn_i (by omega) fn_0)).trans ((u51 239 16 rfl).trans ((u31 239 16 rfl).trans (u21 239 16 rfl)))))))
          have e106 : h96 239 17 = h 239 17 := ((u96 239 17 (fn_i (by omega) fn_0)).trans ((u89 239 17 (fn_i (by omega) fn_0)).trans ((u67 239 17 rfl).trans ((u63 239 17 (fn_i (by omega) fn_0)).trans ((u51 239 17 rfl).trans ((u31 239 17 rfl).trans (u21 239 17 rfl)))))))
          have e107 : h96 239 18 = h 239 18 := ((u96 239 18 (fn_i (by omega) fn_0)).trans ((u89 239 18 (fn_i (by omega) fn_0)).trans ((u67 239 18 rfl).trans ((u63 239 18 (fn_i (by omega) fn_0)).trans ((u51 239 18 rfl).trans ((u31 239 18 rfl).trans (u21 239 18 rfl)))))))
          have e108 : h96 236 9 = h67 236 9 := ((u96 236 9 (fn_a (by omega) fn_0)).trans (u89 236 9 (fn_a (by omega) fn_0)))
          exact k h96 g96 F97 (show (h 236 4) ≤ (h96 236 4) by omega) (show (h96 236 4) ≤ (h 236 3) by omega) (show 1 ≤ (h96 236 8) ∨ ((h96 239 5) ≤ 9 ∧ 1 ≤ (h96 239 5) ∧ (h96 239 7) ≤ 3 ∧ (h96 239 15) ≤ 6 ∧ (h96 239 16) ≤ 6 ∧ (h96 239 17) ≤ 6 ∧ (h96 239 18) ≤ 6) by omega) (show (h96 236 8) ≠ 0 ∨ (h96 236 9) = -1 by omega) (by unfold tk_car tk_wrd tk_num tk_bad; (try dsimp only); (repeat (first | rw [if_pos (by omega)] | rw [if_neg (by omega)])); (repeat ((first | unfold tk_wrd | unfold tk_num | unfold tk_bad); (try dsimp only); (repeat (first | rw [if_pos (by omega)] | rw [if_neg (by omega)])))); first | exact tk_ORe (by omega) (by omega) (by omega) | ((repeat' split) <;> (first | exact tk_ORe (by omega) (by omega) (by omega) | (exfalso; omega))))
        ·
          have tN87 := @tk_nx_b tB tn (tk_nx tB tn (tk_nx tB tn tp)) (by omega) (by omega)
          obtain ⟨i88, ei88⟩ : ∃ q : Nat, e65 = (q : Int) := ⟨(e65).toNat, by omega⟩
          refine wr_is (k0 := 239) (a := e65) (f := i88) (x := z75) (bl := 0) (bh := 999) (nx := 89) (r1 := 0) (r2 := 0) (r3 := 0) rfl (by decide) rfl (by omega) (by omega) (by decide) g67 (gi_rq 19 12 (fun _ => rfl) (by decide +kernel) (by omega)) (by omega) (fun h89 g89 w89 u89 => ?_)
          have F90 := F78.then rfl (FR.idx (p := 19) (q := 30) u89 (by omega))
          refine wi_aload_n (i := 0) (x := 236) (nx := 90) (r1 := 0) (r2 := 0) (r3 := 0) rfl rfl ?_
          refine wr_gr (k0 := 236) (x := 239) (nx := 93) (r1 := 11) (r2 := 14) (r3 := 0) rfl rfl (by decide) rfl ⟨rfl, rfl⟩ rfl ?_
          refine wi_bipush (n := 43) (nx := 95) (r1 := 0) (r2 := 0) (r3 := 0) rfl (by decide) ?_
          refine wi_iload_n (i := 1) (e := h 239 2) (nx := 96) (r1 := 0) (r2 := 0) (r3 := 0) rfl rfl ?_
          refine wr_add (nx := 97) (r1 := 0) (r2 := 0) (r3 := 0) rfl (fun e91 (fe91 : e91 = 43 + (h 239 2)) => ?_)
          refine wi_aload_n (i := 0) (x := 236) (nx := 98) (r1 := 0) (r2 := 0) (r3 := 0) rfl rfl ?_
          refine wi_ldc2_w (e := 2084) (nx := 101) (r1 := 2084) (r2 := 0) (r3 := 0) rfl (by decide) ?_
          refine wr_V (k0 := 236) (rest := [vi e91, .ref 239]) (as := [.ref 236, vl 2084]) (nx := 104) (r1 := 230) (r2 := 1) (r3 := 11) rfl rfl rfl (of_decide_eq_true rfl) rfl rfl (by decide) rfl rfl (of_decide_eq_true rfl) (of_decide_eq_true rfl) ?_
          refine wi_aload_n (i := 0) (x := 236) (nx := 1) (r1 := 0) (r2 := 0) (r3 := 0) rfl rfl ?_
          refine wi_lload_n (i := 1) (e := 2084) (nx := 2) (r1 := 0) (r2 := 0) (r3 := 0) rfl rfl ?_
          refine wr_V (k0 := 236) (rest := []) (as := [.ref 236, vl 2084]) (nx := 5) (r1 := 221) (r2 := 1) (r3 := 11) rfl rfl rfl (of_decide_eq_true rfl) rfl rfl (by decide) rfl rfl (of_decide_eq_true rfl) (of_decide_eq_true rfl) ?_
          refine wi_aload_n (i := 0) (x := 236) (nx := 1) (r1 := 0) (r2 := 0) (r3 := 0) rfl rfl ?_
          refine wr_gi0 (k0 := 236) (x := h67 236 8) (nx := 4) (r1 := 11) (r2 := 8) (r3 := 0) rfl rfl (by decide) rfl ⟨rfl, rfl⟩ rfl (u89 236 8 (fn_a (by omega) fn_0)) ?_
          refine wi_if (cd := .ne) (nx := 7) (r1 := 28) (r2 := 0) (r3 := 0) rfl (by omega) (fun (q92 : (h67 236 8) ≠ 0) => ?_) (fun (q92 : ¬ ((h67 236 8) ≠ 0)) => by exfalso; omega)
          refine wi_iconst (n := 0) (nx := 29) (r1 := 0) (r2 := 0) (r3 := 0) rfl ?_
          refine wi_zreturn (nx := 30) (r1 := 0) (r2 := 0) (r3 := 0) rfl rfl (by omega) ?_
          refine wk_i ?_
          refine wi_istore_n (i := 3) (e := 0) (lo2 := [(3, vi 0), (0, .ref 236), (1, vl 2084)]) (nx := 6) (r1 := 0) (r2 := 0) (r3 := 0) rfl rfl ?_
          refine wi_iload_n (i := 3) (e := 0) (nx := 7) (r1 := 0) (r2 := 0) (r3 := 0) rfl rfl ?_
          refine wi_if (cd := .eq) (nx := 10) (r1 := 14) (r2 := 0) (r3 := 0) rfl (by omega) (fun (q93 : 0 = 0) => ?_) (fun (q93 : ¬ (0 = 0)) => by exfalso; omega)
          refine wi_iload_n (i := 3) (e := 0) (nx := 15) (r1 := 0) (r2 := 0) (r3 := 0) rfl rfl ?_
          refine wi_zreturn (nx := 16) (r1 := 0) (r2 := 0) (r3 := 0) rfl rfl (by omega) ?_
          refine wk_i ?_
          refine wi_if (cd := .eq) (nx := 107) (r1 := 116) (r2 := 0) (r3 := 0) rfl (by omega) (fun (q94 : 0 = 0) => ?_) (fun (q94 : ¬ (0 = 0)) => by exfalso; omega)
          refine wi_iconst (n := 0) (nx := 117) (r1 := 0) (r2 := 0) (r3 := 0) rfl ?_
          obtain ⟨i95, ei95⟩ : ∃ q : Nat, e91 = (q : Int) := ⟨(e91).toNat, by omega⟩
          refine wr_is (k0 := 239) (a := e91) (f := i95) (x := 0) (bl := 0) (bh := 999) (nx := 118) (r1 := 0) (r2 := 0) (r3 := 0) rfl (by decide) rfl (by omega) (by omega) (by decide) g89 (gi_rq 43 12 (fun _ => rfl) (by decide +kernel) (by omega)) (by omega) (fun h96 g96 w96 u96 => ?_)
          have F97 := F90.then rfl (FR.idx (p := 43) (q := 54) u96 (by omega))
          refine wi_aload_n (i := 0) (x := 236) (nx := 119) (r1 := 0) (r2 := 0) (r3 := 0) rfl rfl ?_
          refine wr_V (k0 := 236) (rest := []) (as := [.ref 236]) (nx := 122) (r1 := 219) (r2 := 0) (r3 := 11) rfl rfl rfl (of_decide_eq_true rfl) rfl rfl (by decide) rfl rfl (of_decide_eq_true rfl) (of_decide_eq_true rfl) ?_
          refine wi_aload_n (i := 0) (x := 236) (nx := 1) (r1 := 0) (r2 := 0) (r3 := 0) rfl rfl ?_
          refine wr_gi0 (k0 := 236) (x := h67 236 8) (nx := 4) (r1 := 11) (r2 := 8) (r3 := 0) rfl rfl (by decide) rfl ⟨rfl, rfl⟩ rfl ((u96 236 8 (fn_a (by omega) fn_0)).trans (u89 236 8 (fn_a (by omega) fn_0))) ?_
          refine wi_if (cd := .ne) (nx := 7) (r1 := 11) (r2 := 0) (r3 := 0) rfl (by omega) (fun (q98 : (h67 236 8) ≠ 0) => ?_) (fun (q98 : ¬ ((h67 236 8) ≠ 0)) => by exfalso; omega)
          refine wi_iconst (n := 0) (nx := 12) (r1 := 0) (r2 := 0) (r3 := 0) rfl ?_
          refine wi_zreturn (nx := 13) (r1 := 0) (r2 := 0) (r3 := 0) rfl rfl (by omega) ?_
          refine wk_i ?_
          refine wi_if (cd := .eq) (nx := 125) (r1 := 135) (r2 := 0) (r3 := 0) rfl (by omega) (fun (q99 : 0 = 0) => ?_) (fun (q99 : ¬ (0 = 0)) => by exfalso; omega)
          refine wi_return (nx := 136) (r1 := 0) (r2 := 0) (r3 := 0) rfl rfl ?_
          have e100 : h96 236 4 = h67 236 4 := ((u96 236 4 (fn_a (by omega) fn_0)).trans (u89 236 4 (fn_a (by omega) fn_0)))
          have e101 : h96 236 8 = h67 236 8 := ((u96 236 8 (fn_a (by omega) fn_0)).trans (u89 236 8 (fn_a (by omega) fn_0)))
          have e102 : h96 239 5 = h 239 5 := ((u96 239 5 (fn_i (by omega) fn_0)).trans ((u89 239 5 (fn_i (by omega) fn_0)).trans ((u67 239 5 rfl).trans ((u63 239 5 (fn_i (by omega) fn_0)).trans ((u51 239 5 rfl).trans ((u31 239 5 rfl).trans (u21 239 5 rfl)))))))
          have e103 : h96 239 7 = h 239 7 := ((u96 239 7 (fn_i (by omega) fn_0)).trans ((u89 239 7 (fn_i (by omega) fn_0)).trans ((u67 239 7 rfl).trans ((u63 239 7 (fn_i (by omega) fn_0)).trans ((u51 239 7 rfl).trans ((u31 239 7 rfl).trans (u21 239 7 rfl)))))))
          have e104 : h96 239 15 = h 239 15 := ((u96 239 15 (fn_i (by omega) fn_0)).trans ((u89 239 15 (fn_i (by omega) fn_0)).trans ((u67 239 15 rfl).trans ((u63 239 15 (fn_i (by omega) fn_0)).trans ((u51 239 15 rfl).trans ((u31 239 15 rfl).trans (u21 239 15 rfl)))))))
          have e105 : h96 239 16 = h 239 16 := ((u96 239 16 (fn_i (by omega) fn_0)).trans ((u89 239 16 (fn_i (by omega) fn_0)).trans ((u67 239 16 rfl).trans ((u63 239 16 (fn_i (by omega) fn_0)).trans ((u51 239 16 rfl).trans ((u31 239 16 rfl).trans (u21 239 16 rfl)))))))
          have e106 : h96 239 17 = h 239 17 := ((u96 239 17 (fn_i (by omega) fn_0)).trans ((u89 239 17 (fn_i (by omega) fn_0)).trans ((u67 239 17 rfl).trans ((u63 239 17 (fn_i (by omega) fn_0)).trans ((u51 239 17 rfl).trans ((u31 239 17 rfl).trans (u21 239 17 rfl)))))))
          have e107 : h96 239 18 = h 239 18 := ((u96 239 18 (fn_i (by omega) fn_0)).trans ((u89 239 18 (fn_i (by omega) fn_0)).trans ((u67 239 18 rfl).trans ((u63 239 18 (fn_i (by omega) fn_0)).trans ((u51 239 18 rfl).trans ((u31 239 18 rfl).trans (u21 239 18 rfl)))))))
          have e108 : h96 236 9 = h67 236 9 := ((u96 236 9 (fn_a (by omega) fn_0)).trans (u89 236 9 (fn_a (by omega) fn_0)))
          exact k h96 g96 F97 (show (h 236 4) ≤ (h96 236 4) by omega) (show (h96 236 4) ≤ (h 236 3) by omega) (show 1 ≤ (h96 236 8) ∨ ((h96 239 5) ≤ 9 ∧ 1 ≤ (h96 239 5) ∧ (h96 239 7) ≤ 3 ∧ (h96 239 15) ≤ 6 ∧ (h96 239 16) ≤ 6 ∧ (h96 239 17) ≤ 6 ∧ (h96 239 18) ≤ 6) by omega) (show (h96 236 8) ≠ 0 ∨ (h96 236 9) = -1 by omega) (by unfold tk_car tk_wrd tk_num tk_bad; (try dsimp only); (repeat (first | rw [if_pos (by omega)] | rw [if_neg (by omega)])); (repeat ((first | unfold tk_wrd | unfold tk_num | unfold tk_bad); (try dsimp only); (repeat (first | rw [if_pos (by omega)] | rw [if_neg (by omega)])))); first | exact tk_ORe (by omega) (by omega) (by omega) | ((repeat' split) <;> (first | exact tk_ORe (by omega) (by omega) (by omega) | (exfalso; omega))))
      ·
        refine wi_aload_n (i := 0) (x := 236) (nx := 45) (r1 := 0) (r2 := 0) (r3 := 0) rfl rfl ?_
        refine wi_iconst (n := 4) (nx := 46) (r1 := 0) (r2 := 0) (r3 := 0) rfl ?_
        refine wr_V (k0 := 236) (rest := []) (as := [.ref 236, vi 4]) (nx := 49) (r1 := 224) (r2 := 1) (r3 := 11) rfl rfl rfl (of_decide_eq_true rfl) rfl rfl (by decide) rfl rfl (of_decide_eq_true rfl) (of_decide_eq_true rfl) ?_
        refine ct_224_236 hcr  g31 4 (by omega)  (fun h49 g49 u49 (p49_0 : 1 ≤ (h49 236 8)) (p49_1 : (1 ≤ (h31 236 8) ∧ (h49 236 8) = (h31 236 8) ∧ (h49 236 9) = (h31 236 9)) ∨ ((h31 236 8) = 0 ∧ (h49 236 9) = (h31 236 5) ∧ (((h31 236 6) = 4 ∧ (h49 236 8) = 1) ∨ ((h31 236 6) ≠ 4 ∧ (h49 236 8) = 4)))) => ?_)
        have F50 := F34.then (by decide +kernel) u49
        have b51 := gi_b (lo := 0) (hi := 5) g49 236 8 rfl
        have e52 : h31 236 5 = h21 236 5 := (u31 236 5 rfl)
        have e53 : h31 236 6 = h21 236 6 := (u31 236 6 rfl)
        have b54 := gi_b (lo := -2147483648) (hi := 2147483647) g49 236 9 rfl
        refine wk_n ?_
        refine wi_aload_n (i := 0) (x := 236) (nx := 50) (r1 := 0) (r2 := 0) (r3 := 0) rfl rfl ?_
        refine wr_V (k0 := 236) (rest := []) (as := [.ref 236]) (nx := 53) (r1 := 219) (r2 := 0) (r3 := 11) rfl rfl rfl (of_decide_eq_true rfl) rfl rfl (by decide) rfl rfl (of_decide_eq_true rfl) (of_decide_eq_true rfl) ?_
        refine wi_aload_n (i := 0) (x := 236) (nx := 1) (r1 := 0) (r2 := 0) (r3 := 0) rfl rfl ?_
        refine wr_gi0 (k0 := 236) (x := h49 236 8) (nx := 4) (r1 := 11) (r2 := 8) (r3 := 0) rfl rfl (by decide) rfl ⟨rfl, rfl⟩ rfl rfl ?_
        refine wi_if (cd := .ne) (nx := 7) (r1 := 11) (r2 := 0) (r3 := 0) rfl (by omega) (fun (q55 : (h49 236 8) ≠ 0) => ?_) (fun (q55 : ¬ ((h49 236 8) ≠ 0)) => by exfalso; omega)
        refine wi_iconst (n := 0) (nx := 12) (r1 := 0) (r2 := 0) (r3 := 0) rfl ?_
        refine wi_zreturn (nx := 13) (r1 := 0) (r2 := 0) (r3 := 0) rfl rfl (by omega) ?_
        refine wk_i ?_
        refine wi_if (cd := .ne) (nx := 56) (r1 := 57) (r2 := 0) (r3 := 0) rfl (by omega) (fun (q56 : 0 ≠ 0) => by exfalso; omega) (fun (q56 : ¬ (0 ≠ 0)) => ?_)
        refine wi_return (nx := 57) (r1 := 0) (r2 := 0) (r3 := 0) rfl rfl ?_
        have e57 : h49 236 4 = h21 236 4 := ((u49 236 4 rfl).trans (u31 236 4 rfl))
        have e58 : h49 239 5 = h 239 5 := ((u49 239 5 rfl).trans ((u31 239 5 rfl).trans (u21 239 5 rfl)))
        have e59 : h49 239 7 = h 239 7 := ((u49 239 7 rfl).trans ((u31 239 7 rfl).trans (u21 239 7 rfl)))
        have e60 : h49 239 15 = h 239 15 := ((u49 239 15 rfl).trans ((u31 239 15 rfl).trans (u21 239 15 rfl)))
        have e61 : h49 239 16 = h 239 16 := ((u49 239 16 rfl).trans ((u31 239 16 rfl).trans (u21 239 16 rfl)))
        have e62 : h49 239 17 = h 239 17 := ((u49 239 17 rfl).trans ((u31 239 17 rfl).trans (u21 239 17 rfl)))
        have e63 : h49 239 18 = h 239 18 := ((u49 239 18 rfl).trans ((u31 239 18 rfl).trans (u21 239 18 rfl)))
        exact k h49 g49 F50 (show (h 236 4) ≤ (h49 236 4) by omega) (show (h49 236 4) ≤ (h 236 3) by omega) (show 1 ≤ (h49 236 8) ∨ ((h49 239 5) ≤ 9 ∧ 1 ≤ (h49 239 5) ∧ (h49 239 7) ≤ 3 ∧ (h49 239 15) ≤ 6 ∧ (h49 239 16) ≤ 6 ∧ (h49 239 17) ≤ 6 ∧ (h49 239 18) ≤ 6) by omega) (show (h49 236 8) ≠ 0 ∨ (h49 236 9) = -1 by omega) (by unfold tk_car tk_wrd tk_num tk_bad; (try dsimp only); (repeat (first | rw [if_pos (by omega)] | rw [if_neg (by omega)])); (repeat ((first | unfold tk_wrd | unfold tk_num | unfold tk_bad); (try dsimp only); (repeat (first | rw [if_pos (by omega)] | rw [if_neg (by omega)])))); first | exact tk_ORe (by omega) (by omega) (by omega) | ((repeat' split) <;> (first | exact tk_ORe (by omega) (by omega) (by omega) | (exfalso; omega))))
    ·
      refine wi_aload_n (i := 0) (x := 236) (nx := 23) (r1 := 0) (r2 := 0) (r3 := 0) rfl rfl ?_
      refine wr_V (k0 := 236) (rest := []) (as := [.ref 236]) (nx := 26) (r1 := 227) (r2 := 0) (r3 := 11) rfl rfl rfl (of_decide_eq_true rfl) rfl rfl (by decide) rfl rfl (of_decide_eq_true rfl) (of_decide_eq_true rfl) ?_
      have e39 : h31 236 12 = h21 236 12 := (u31 236 12 rfl)
      have rb41 := RefB.fr u31 rfl rb33
      have cr42 := CVr.fr u21 rfl xq1
      have cr43 := CVr.fr u31 rfl cr42
      refine ct_227_236 hcr  g31   (show 0 ≤ (tk_nx tB tn tp) by omega) (show (tk_nx tB tn tp) ≤ tn by omega) (show (tk_nx tB tn tp) ≤ tk_nx tB tn (tk_nx tB tn tp) ∧ tk_nx tB tn (tk_nx tB tn tp) ≤ tn by omega) (show tk_kd tB tn (tk_nx tB tn tp) = 1 → (h31 236 12) = tk_sw tB tn (tk_nx tB tn tp) by omega) rb41 cr43 (fun z40  (fz40 : 0 ≤ z40 ∧ z40 ≤ 5) (p38_0 : z40 ≤ (h31 239 0)) y38_0 => ?_)
      have e44 : h31 239 0 = h 239 0 := ((u31 239 0 rfl).trans (u21 239 0 rfl))
      refine wk_i ?_
      have nd45 : tk_kd tB tn (tk_nx tB tn tp) = 1 → z40 = tk_fi tS (tk_lw tB tn (tk_nx tB tn tp)) := y38_0
      refine wi_istore_n (i := 2) (e := z40) (lo2 := [(2, vi z40), (1, vi (h 239 2)), (0, .ref 236)]) (nx := 27) (r1 := 0) (r2 := 0) (r3 := 0) rfl rfl ?_
      refine wi_aload_n (i := 0) (x := 236) (nx := 28) (r1 := 0) (r2 := 0) (r3 := 0) rfl rfl ?_
      refine wr_V (k0 := 236) (rest := []) (as := [.ref 236]) (nx := 31) (r1 := 219) (r2 := 0) (r3 := 11) rfl rfl rfl (of_decide_eq_true rfl) rfl rfl (by decide) rfl rfl (of_decide_eq_true rfl) (of_decide_eq_true rfl) ?_
      refine wi_aload_n (i := 0) (x := 236) (nx := 1) (r1 := 0) (r2 := 0) (r3 := 0) rfl rfl ?_
      refine wr_gi0 (k0 := 236) (x := h31 236 8) (nx := 4) (r1 := 11) (r2 := 8) (r3 := 0) rfl rfl (by decide) rfl ⟨rfl, rfl⟩ rfl rfl ?_
      refine wi_if (cd := .ne) (nx := 7) (r1 := 11) (r2 := 0) (r3 := 0) rfl (by omega) (fun (q46 : (h31 236 8) ≠ 0) => ?_) (fun (q46 : ¬ ((h31 236 8) ≠ 0)) => by exfalso; omega)
      refine wi_iconst (n := 0) (nx := 12) (r1 := 0) (r2 := 0) (r3 := 0) rfl ?_
      refine wi_zreturn (nx := 13) (r1 := 0) (r2 := 0) (r3 := 0) rfl rfl (by omega) ?_
      refine wk_i ?_
      refine wi_if (cd := .eq) (nx := 34) (r1 := 49) (r2 := 0) (r3 := 0) rfl (by omega) (fun (q47 : 0 = 0) => ?_) (fun (q47 : ¬ (0 = 0)) => by exfalso; omega)
      refine wi_aload_n (i := 0) (x := 236) (nx := 50) (r1 := 0) (r2 := 0) (r3 := 0) rfl rfl ?_
      refine wr_V (k0 := 236) (rest := []) (as := [.ref 236]) (nx := 53) (r1 := 219) (r2 := 0) (r3 := 11) rfl rfl rfl (of_decide_eq_true rfl) rfl rfl (by decide) rfl rfl (of_decide_eq_true rfl) (of_decide_eq_true rfl) ?_
      refine wi_aload_n (i := 0) (x := 236) (nx := 1) (r1 := 0) (r2 := 0) (r3 := 0) rfl rfl ?_
      refine wr_gi0 (k0 := 236) (x := h31 236 8) (nx := 4) (r1 := 11) (r2 := 8) (r3 := 0) rfl rfl (by decide) rfl ⟨rfl, rfl⟩ rfl rfl ?_
      refine wi_if (cd := .ne) (nx := 7) (r1 := 11) (r2 := 0) (r3 := 0) rfl (by omega) (fun (q48 : (h31 236 8) ≠ 0) => ?_) (fun (q48 : ¬ ((h31 236 8) ≠ 0)) => by exfalso; omega)
      refine wi_iconst (n := 0) (nx := 12) (r1 := 0) (r2 := 0) (r3 := 0) rfl ?_
      refine wi_zreturn (nx := 13) (r1 := 0) (r2 := 0) (r3 := 0) rfl rfl (by omega) ?_
      refine wk_i ?_
      refine wi_if (cd := .ne) (nx := 56) (r1 := 57) (r2 := 0) (r3 := 0) rfl (by omega) (fun (q49 : 0 ≠ 0) => by exfalso; omega) (fun (q49 : ¬ (0 ≠ 0)) => ?_)
      refine wi_return (nx := 57) (r1 := 0) (r2 := 0) (r3 := 0) rfl rfl ?_
      have e50 : h31 236 4 = h21 236 4 := (u31 236 4 rfl)
      have e51 : h31 239 5 = h 239 5 := ((u31 239 5 rfl).trans (u21 239 5 rfl))
      have e52 : h31 239 7 = h 239 7 := ((u31 239 7 rfl).trans (u21 239 7 rfl))
      have e53 : h31 239 15 = h 239 15 := ((u31 239 15 rfl).trans (u21 239 15 rfl))
      have e54 : h31 239 16 = h 239 16 := ((u31 239 16 rfl).trans (u21 239 16 rfl))
      have e55 : h31 239 17 = h 239 17 := ((u31 239 17 rfl).trans (u21 239 17 rfl))
      have e56 : h31 239 18 = h 239 18 := ((u31 239 18 rfl).trans (u21 239 18 rfl))
      exact k h31 g31 F34 (show (h 236 4) ≤ (h31 236 4) by omega) (show (h31 236 4) ≤ (h 236 3) by omega) (show 1 ≤ (h31 236 8) ∨ ((h31 239 5) ≤ 9 ∧ 1 ≤ (h31 239 5) ∧ (h31 239 7) ≤ 3 ∧ (h31 239 15) ≤ 6 ∧ (h31 239 16) ≤ 6 ∧ (h31 239 17) ≤ 6 ∧ (h31 239 18) ≤ 6) by omega) (show (h31 236 8) ≠ 0 ∨ (h31 236 9) = -1 by omega) (by unfold tk_car tk_wrd tk_num tk_bad; (try dsimp only); (repeat (first | rw [if_pos (by omega)] | rw [if_neg (by omega)])); (repeat ((first | unfold tk_wrd | unfold tk_num | unfold tk_bad); (try dsimp only); (repeat (first | rw [if_pos (by omega)] | rw [if_neg (by omega)])))); first | exact tk_ORe (by omega) (by omega) (by omega) | ((repeat' split) <;> (first | exact tk_ORe (by omega) (by omega) (by omega) | (exfalso; omega))))
  ·
    refine wi_aload_n (i := 0) (x := 236) (nx := 11) (r1 := 0) (r2 := 0) (r3 := 0) rfl rfl ?_
    refine wi_iconst (n := 5) (nx := 12) (r1 := 0) (r2 := 0) (r3 := 0) rfl ?_
    refine wr_V (k0 := 236) (rest := []) (as := [.ref 236, vi 5]) (nx := 15) (r1 := 224) (r2 := 1) (r3 := 11) rfl rfl rfl (of_decide_eq_true rfl) rfl rfl (by decide) rfl rfl (of_decide_eq_true rfl) (of_decide_eq_true rfl) ?_
    refine ct_224_236 hcr  g 5 (by omega)  (fun h19 g19 u19 (p19_0 : 1 ≤ (h19 236 8)) (p19_1 : (1 ≤ (h 236 8) ∧ (h19 236 8) = (h 236 8) ∧ (h19 236 9) = (h 236 9)) ∨ ((h 236 8) = 0 ∧ (h19 236 9) = (h 236 5) ∧ (((h 236 6) = 4 ∧ (h19 236 8) = 1) ∨ ((h 236 6) ≠ 4 ∧ (h19 236 8) = 5)))) => ?_)
    have F20 := F0.then (by decide +kernel) u19
    have b21 := gi_b (lo := 0) (hi := 5) g19 236 8 rfl
    have b22 := gi_b (lo := -2147483648) (hi := 2147483647) g19 236 9 rfl
    refine wk_n ?_
    refine wi_aload_n (i := 0) (x := 236) (nx := 16) (r1 := 0) (r2 := 0) (r3 := 0) rfl rfl ?_
    refine wr_V (k0 := 236) (rest := []) (as := [.ref 236]) (nx := 19) (r1 := 219) (r2 := 0) (r3 := 11) rfl rfl rfl (of_decide_eq_true rfl) rfl rfl (by decide) rfl rfl (of_decide_eq_true rfl) (of_decide_eq_true rfl) ?_
    refine wi_aload_n (i := 0) (x := 236) (nx := 1) (r1 := 0) (r2 := 0) (r3 := 0) rfl rfl ?_
    refine wr_gi0 (k0 := 236) (x := h19 236 8) (nx := 4) (r1 := 11) (r2 := 8) (r3 := 0) rfl rfl (by decide) rfl ⟨rfl, rfl⟩ rfl rfl ?_
    refine wi_if (cd := .ne) (nx := 7) (r1 := 11) (r2 := 0) (r3 := 0) rfl (by omega) (fun (q23 : (h19 236 8) ≠ 0) => ?_) (fun (q23 : ¬ ((h19 236 8) ≠ 0)) => by exfalso; omega)
    refine wi_iconst (n := 0) (nx := 12) (r1 := 0) (r2 := 0) (r3 := 0) rfl ?_
    refine wi_zreturn (nx := 13) (r1 := 0) (r2 := 0) (r3 := 0) rfl rfl (by omega) ?_
    refine wk_i ?_
    refine wi_if (cd := .eq) (nx := 22) (r1 := 26) (r2 := 0) (r3 := 0) rfl (by omega) (fun (q24 : 0 = 0) => ?_) (fun (q24 : ¬ (0 = 0)) => by exfalso; omega)
    refine wi_aload_n (i := 0) (x := 236) (nx := 27) (r1 := 0) (r2 := 0) (r3 := 0) rfl rfl ?_
    refine wr_V (k0 := 236) (rest := []) (as := [.ref 236]) (nx := 30) (r1 := 219) (r2 := 0) (r3 := 11) rfl rfl rfl (of_decide_eq_true rfl) rfl rfl (by decide) rfl rfl (of_decide_eq_true rfl) (of_decide_eq_true rfl) ?_
    refine wi_aload_n (i := 0) (x := 236) (nx := 1) (r1 := 0) (r2 := 0) (r3 := 0) rfl rfl ?_
    refine wr_gi0 (k0 := 236) (x := h19 236 8) (nx := 4) (r1 := 11) (r2 := 8) (r3 := 0) rfl rfl (by decide) rfl ⟨rfl, rfl⟩ rfl rfl ?_
    refine wi_if (cd := .ne) (nx := 7) (r1 := 11) (r2 := 0) (r3 := 0) rfl (by omega) (fun (q25 : (h19 236 8) ≠ 0) => ?_) (fun (q25 : ¬ ((h19 236 8) ≠ 0)) => by exfalso; omega)
    refine wi_iconst (n := 0) (nx := 12) (r1 := 0) (r2 := 0) (r3 := 0) rfl ?_
    refine wi_zreturn (nx := 13) (r1 := 0) (r2 := 0) (r3 := 0) rfl rfl (by omega) ?_
    refine wk_i ?_
    refine wi_zreturn (nx := 31) (r1 := 0) (r2 := 0) (r3 := 0) rfl rfl (by omega) ?_
    refine wk_i ?_
    refine wi_if (cd := .ne) (nx := 17) (r1 := 18) (r2 := 0) (r3 := 0) rfl (by omega) (fun (q26 : 0 ≠ 0) => by exfalso; omega) (fun (q26 : ¬ (0 ≠ 0)) => ?_)
    refine wi_return (nx := 18) (r1 := 0) (r2 := 0) (r3 := 0) rfl rfl ?_
    have e27 : h19 236 4 = h 236 4 := (u19 236 4 rfl)
    have e28 : h19 239 5 = h 239 5 := (u19 239 5 rfl)
    have e29 : h19 239 7 = h 239 7 := (u19 239 7 rfl)
    have e30 : h19 239 15 = h 239 15 := (u19 239 15 rfl)
    have e31 : h19 239 16 = h 239 16 := (u19 239 16 rfl)
    have e32 : h19 239 17 = h 239 17 := (u19 239 17 rfl)
    have e33 : h19 239 18 = h 239 18 := (u19 239 18 rfl)
    exact k h19 g19 F20 (show (h 236 4) ≤ (h19 236 4) by omega) (show (h19 236 4) ≤ (h 236 3) by omega) (show 1 ≤ (h19 236 8) ∨ ((h19 239 5) ≤ 9 ∧ 1 ≤ (h19 239 5) ∧ (h19 239 7) ≤ 3 ∧ (h19 239 15) ≤ 6 ∧ (h19 239 16) ≤ 6 ∧ (h19 239 17) ≤ 6 ∧ (h19 239 18) ≤ 6) by omega) (show (h19 236 8) ≠ 0 ∨ (h19 236 9) = -1 by omega) (by unfold tk_car tk_wrd tk_num tk_bad; (try dsimp only); (repeat (first | rw [if_pos (by omega)] | rw [if_neg (by omega)])); (repeat ((first | unfold tk_wrd | unfold tk_num | unfold tk_bad); (try dsimp only); (repeat (first | rw [if_pos (by omega)] | rw [if_neg (by omega)])))); first | exact tk_ORe (by omega) (by omega) (by omega) | ((repeat' split) <;> (first | exact tk_ORe (by omega) (by omega) (by omega) | (exfalso; omega))))
-- method 232: Model.readsLane()V
set_option maxRecDepth 100000 in
set_option maxHeartbeats 100000000 in
theorem ct_232_236 {L : Nat} {xs : Nat → Int32} {d b c : Nat} {h : hp} {cr : Nat → Nat → Option Nat} {Q : hp_Q} (hcr : CR cr)  {tB : Nat → Int} {tn tp : Int} {tS : tk_S} (g : GI h)   (pp0 : h 236 4 ≤ h 236 3) (pp1 : 0 ≤ tp) (pp2 : tp ≤ tn) (pp3 : tp ≤ tk_nx tB tn tp ∧ tk_nx tB tn tp ≤ tn) (pp4 : h 236 8 = 0) (pp5 : h 239 5 ≤ 9) (pp6 : 1 ≤ h 239 5) (pp7 : h 239 7 ≤ 3) (pp8 : h 239 15 ≤ 6) (pp9 : h 239 16 ≤ 6) (pp10 : h 239 17 ≤ 6) (pp11 : h 239 18 ≤ 6) (pp12 : (h 236 4 = tk_nx tB tn tp ∧ h 236 5 = tk_st tB tn tp ∧ ((tk_kd tB tn tp = 0 ∧ h 236 6 = 0) ∨ (tk_kd tB tn tp = 1 ∧ h 236 6 = 1 ∧ h 236 12 = tk_sw tB tn tp) ∨ (tk_kd tB tn tp = 2 ∧ h 236 6 = 2 ∧ h 236 7 = tk_nb tB tn tp) ∨ (tk_kd tB tn tp = 3 ∧ h 236 6 = 3 ∧ h 236 7 = 59) ∨ (tk_kd tB tn tp = 4 ∧ h 236 6 = 3 ∧ h 236 7 = 40) ∨ (tk_kd tB tn tp = 5 ∧ h 236 6 = 3 ∧ h 236 7 = 41) ∨ (tk_kd tB tn tp = 6 ∧ h 236 6 = 4)))) (pp13 : tS 0 ≤ 5 ∧ tS 1 ≤ 4 ∧ tS 2 ≤ 12) (pp14 : h 236 9 = -1) (pp15 : tk_kd tB tn tp = 1) (xq0 : RefB tB tn h) (xq1 : CVr tS h) (k : ∀ (h2 : hp) , GI h2 → FR [(236, 236, some (4, 4)), (236, 236, some (5, 5)), (236, 236, some (6, 6)), (236, 236, some (7, 7)), (236, 236, some (8, 8)), (236, 236, some (9, 9)), (236, 236, some (12, 12)), (239, 239, some (1, 1)), (239, 239, some (15, 15)), (239, 239, some (16, 16)), (239, 239, some (17, 17)), (239, 239, some (18, 18))] h h2 → (h 236 4 ≤ h2 236 4) → (h2 236 4 ≤ h 236 3) → (1 ≤ h2 236 8 ∨ (h2 239 5 ≤ 9 ∧ 1 ≤ h2 239 5 ∧ h2 239 7 ≤ 3 ∧ h2 239 15 ≤ 6 ∧ h2 239 16 ≤ 6 ∧ h2 239 17 ≤ 6 ∧ h2 239 18 ≤ 6)) → (h2 236 8 ≠ 0 ∨ h2 236 9 = -1) → (tk_OR tB tn (tk_lane tB tn tp tS) h2) → Q (.inl none) (hp_w h2 cr) b c) : wp (md_xa (L, xs)) (d + 3) 232 (0, [(0, .ref 236)], [], hp_w h cr, b, c) Q := by
  have F0 : FR [(236, 236, some (4, 4)), (236, 236, some (5, 5)), (236, 236, some (6, 6)), (236, 236, some (7, 7)), (236, 236, some (8, 8)), (236, 236, some (9, 9)), (236, 236, some (12, 12)), (239, 239, some (1, 1)), (239, 239, some (15, 15)), (239, 239, some (16, 16)), (239, 239, some (17, 17)), (239, 239, some (18, 18))] h h := FR.refl
  have tb_1 : h 236 3 = tn := xq0.2.1
  have tb_2 : 0 ≤ tn ∧ tn ≤ 800 := xq0.2.2
  obtain ⟨⟨rv_0, rv_1, rv_2, rv_3, rv_4, rv_5, rv_6, rv_7, rv_8, rv_9⟩, ⟨rf_0, rf_1, rf_2, rf_3⟩, -⟩ := id xq1
  have b1 := gi_b (lo := 0) (hi := 5) g 239 0 rfl
  have b2 := gi_b (lo := 0) (hi := 4) g 239 1 rfl
  have b3 := gi_b (lo := 0) (hi := 12) g 239 2 rfl
  have b4 := gi_b (lo := 0) (hi := 800) g 236 4 rfl
  have b5 := gi_b (lo := 0) (hi := 800) g 236 3 rfl
  have b6 := gi_b (lo := 0) (hi := 5) g 236 8 rfl
  have b7 := gi_b (lo := 0) (hi := 999) g 239 5 rfl
  have b8 := gi_b (lo := 0) (hi := 999) g 239 7 rfl
  have b9 := gi_b (lo := 0) (hi := 999) g 239 15 rfl
  have b10 := gi_b (lo := 0) (hi := 999) g 239 16 rfl
  have b11 := gi_b (lo := 0) (hi := 999) g 239 17 rfl
  have b12 := gi_b (lo := 0) (hi := 999) g 239 18 rfl
  have b13 := gi_b (lo := 0) (hi := 800) g 236 5 rfl
  have b14 := gi_b (lo := 0) (hi := 4) g 236 6 rfl
  have b15 := gi_b (lo := -9223372036854775808) (hi := 9223372036854775807) g 236 12 rfl
  have b16 := gi_b (lo := 0) (hi := 999) g 236 7 rfl
  have b17 := gi_b (lo := -2147483648) (hi := 2147483647) g 236 9 rfl
  refine wi_aload_n (i := 0) (x := 236) (nx := 1) (r1 := 0) (r2 := 0) (r3 := 0) rfl rfl ?_
  refine wr_gr (k0 := 236) (x := 239) (nx := 4) (r1 := 11) (r2 := 14) (r3 := 0) rfl rfl (by decide) rfl ⟨rfl, rfl⟩ rfl ?_
  refine wi_iconst (n := 1) (nx := 5) (r1 := 0) (r2 := 0) (r3 := 0) rfl ?_
  rcases (show (h 239 1) = 0 ∨ (h 239 1) = 1 ∨ (h 239 1) = 2 ∨ (h 239 1) = 3 ∨ (h 239 1) = 4 by omega) with q18 | q18 | q18 | q18 | q18
  ·
    refine wr_ia (k0 := 239) (a := 1) (f := 1) (x := 0) (nx := 6) (r1 := 0) (r2 := 0) (r3 := 0) rfl (by decide) rfl (by omega) (by omega) (by decide) q18 ?_
    refine wi_istore_n (i := 1) (e := 0) (lo2 := [(1, vi 0), (0, .ref 236)]) (nx := 7) (r1 := 0) (r2 := 0) (r3 := 0) rfl rfl ?_
    refine wi_aload_n (i := 0) (x := 236) (nx := 8) (r1 := 0) (r2 := 0) (r3 := 0) rfl rfl ?_
    refine wi_iconst (n := 1) (nx := 9) (r1 := 0) (r2 := 0) (r3 := 0) rfl ?_
    refine wi_iconst (n := 4) (nx := 10) (r1 := 0) (r2 := 0) (r3 := 0) rfl ?_
    refine wr_V (k0 := 236) (rest := []) (as := [.ref 236, vi 1, vi 4]) (nx := 13) (r1 := 223) (r2 := 2) (r3 := 11) rfl rfl rfl (of_decide_eq_true rfl) rfl rfl (by decide) rfl rfl (of_decide_eq_true rfl) (of_decide_eq_true rfl) ?_
    refine wi_aload_n (i := 0) (x := 236) (nx := 1) (r1 := 0) (r2 := 0) (r3 := 0) rfl rfl ?_
    refine wr_gr (k0 := 236) (x := 239) (nx := 4) (r1 := 11) (r2 := 14) (r3 := 0) rfl rfl (by decide) rfl ⟨rfl, rfl⟩ rfl ?_
    refine wi_iload_n (i := 1) (e := 1) (nx := 5) (r1 := 0) (r2 := 0) (r3 := 0) rfl rfl ?_
    refine wr_ia (k0 := 239) (a := 1) (f := 1) (x := 0) (nx := 6) (r1 := 0) (r2 := 0) (r3 := 0) rfl (by decide) rfl (by omega) (by omega) (by decide) q18 ?_
    refine wi_iload_n (i := 2) (e := 4) (nx := 7) (r1 := 0) (r2 := 0) (r3 := 0) rfl rfl ?_
    refine wi_icmp (cd := .ne) (nx := 10) (r1 := 15) (r2 := 0) (r3 := 0) rfl (by omega) (by omega) (fun (q19 : 0 ≠ 4) => ?_) (fun (q19 : ¬ (0 ≠ 4)) => by exfalso; omega)
    refine wi_aload_n (i := 0) (x := 236) (nx := 16) (r1 := 0) (r2 := 0) (r3 := 0) rfl rfl ?_
    refine wr_V (k0 := 236) (rest := []) (as := [.ref 236]) (nx := 19) (r1 := 219) (r2 := 0) (r3 := 11) rfl rfl rfl (of_decide_eq_true rfl) rfl rfl (by decide) rfl rfl (of_decide_eq_true rfl) (of_decide_eq_true rfl) ?_
    refine wi_aload_n (i := 0) (x := 236) (nx := 1) (r1 := 0) (r2 := 0) (r3 := 0) rfl rfl ?_
    refine wr_gi0 (k0 := 236) (x := h 236 8) (nx := 4) (r1 := 11) (r2 := 8) (r3 := 0) rfl rfl (by decide) rfl ⟨rfl, rfl⟩ rfl rfl ?_
    refine wi_if (cd := .ne) (nx := 7) (r1 := 11) (r2 := 0) (r3 := 0) rfl (by omega) (fun (q20 : (h 236 8) ≠ 0) => by exfalso; omega) (fun (q20 : ¬ ((h 236 8) ≠ 0)) => ?_)
    refine wi_iconst (n := 1) (nx := 8) (r1 := 0) (r2 := 0) (r3 := 0) rfl ?_
    refine wi_goto (nx := 11) (r1 := 12) (r2 := 0) (r3 := 0) rfl ?_
    refine wi_zreturn (nx := 13) (r1 := 0) (r2 := 0) (r3 := 0) rfl rfl (by omega) ?_
    refine wk_i ?_
    refine wi_if (cd := .eq) (nx := 22) (r1 := 26) (r2 := 0) (r3 := 0) rfl (by omega) (fun (q21 : 1 = 0) => by exfalso; omega) (fun (q21 : ¬ (1 = 0)) => ?_)
    refine wi_aload_n (i := 0) (x := 236) (nx := 23) (r1 := 0) (r2 := 0) (r3 := 0) rfl rfl ?_
    refine wr_V (k0 := 236) (rest := []) (as := [.ref 236]) (nx := 26) (r1 := 215) (r2 := 0) (r3 := 11) rfl rfl rfl (of_decide_eq_true rfl) rfl rfl (by decide) rfl rfl (of_decide_eq_true rfl) (of_decide_eq_true rfl) ?_
    refine ct_215_236 hcr  g   (show (h 236 4) ≤ (h 236 3) by omega) (show (h 236 4) = (tk_nx tB tn tp) by omega) (show 0 ≤ (tk_nx tB tn tp) by omega) (show (tk_nx tB tn tp) ≤ tn by omega) xq0 (fun h22 g22 u22 (p22_0 : (h 236 4) ≤ (h22 236 4)) (p22_1 : (h22 236 4) ≤ (h 236 3)) (p22_2 : ((h22 236 4) = tk_nx tB tn (tk_nx tB tn tp) ∧ (h22 236 5) = tk_st tB tn (tk_nx tB tn tp) ∧ ((tk_kd tB tn (tk_nx tB tn tp) = 0 ∧ (h22 236 6) = 0) ∨ (tk_kd tB tn (tk_nx tB tn tp) = 1 ∧ (h22 236 6) = 1 ∧ (h22 236 12) = tk_sw tB tn (tk_nx tB tn tp)) ∨ (tk_kd tB tn (tk_nx tB tn tp) = 2 ∧ (h22 236 6) = 2 ∧ (h22 236 7) = tk_nb tB tn (tk_nx tB tn tp)) ∨ (tk_kd tB tn (tk_nx tB tn tp) = 3 ∧ (h22 236 6) = 3 ∧ (h22 236 7) = 59) ∨ (tk_kd tB tn (tk_nx tB tn tp) = 4 ∧ (h22 236 6) = 3 ∧ (h22 236 7) = 40) ∨ (tk_kd tB tn (tk_nx tB tn tp) = 5 ∧ (h22 236 6) = 3 ∧ (h22 236 7) = 41) ∨ (tk_kd tB tn (tk_nx tB tn tp) = 6 ∧ (h22 236 6) = 4)))) (p22_3 : (tk_nx tB tn tp) ≤ tk_nx tB tn (tk_nx tB tn tp) ∧ tk_nx tB tn (tk_nx tB tn tp) ≤ tn) => ?_)
    have F23 := F0.then (by decide +kernel) u22
    have b24 := gi_b (lo := 0) (hi := 800) g22 236 4 rfl
    have b25 := gi_b (lo := 0) (hi := 800) g22 236 5 rfl
    have b26 := gi_b (lo := 0) (hi := 4) g22 236 6 rfl
    have b27 := gi_b (lo := -9223372036854775808) (hi := 9223372036854775807) g22 236 12 rfl
    have b28 := gi_b (lo := 0) (hi := 999) g22 236 7 rfl
    have tN29 := @tk_nx_b tB tn (tk_nx tB tn tp) (by omega) (by omega)
    refine wk_n ?_
    refine wi_aload_n (i := 0) (x := 236) (nx := 27) (r1 := 0) (r2 := 0) (r3 := 0) rfl rfl ?_
    refine wr_V (k0 := 236) (rest := []) (as := [.ref 236]) (nx := 30) (r1 := 219) (r2 := 0) (r3 := 11) rfl rfl rfl (of_decide_eq_true rfl) rfl rfl (by decide) rfl rfl (of_decide_eq_true rfl) (of_decide_eq_true rfl) ?_
    refine wi_aload_n (i := 0) (x := 236) (nx := 1) (r1 := 0) (r2 := 0) (r3 := 0) rfl rfl ?_
    refine wr_gi0 (k0 := 236) (x := h 236 8) (nx := 4) (r1 := 11) (r2 := 8) (r3 := 0) rfl rfl (by decide) rfl ⟨rfl, rfl⟩ rfl (u22 236 8 rfl) ?_
    refine wi_if (cd := .ne) (nx := 7) (r1 := 11) (r2 := 0) (r3 := 0) rfl (by omega) (fun (q30 : (h 236 8) ≠ 0) => by exfalso; omega) (fun (q30 : ¬ ((h 236 8) ≠ 0)) => ?_)
    refine wi_iconst (n := 1) (nx := 8) (r1 := 0) (r2 := 0) (r3 := 0) rfl ?_
    refine wi_goto (nx := 11) (r1 := 12) (r2 := 0) (r3 := 0) rfl ?_
    refine wi_zreturn (nx := 13) (r1 := 0) (r2 := 0) (r3 := 0) rfl rfl (by omega) ?_
    refine wk_i ?_
    refine wi_zreturn (nx := 31) (r1 := 0) (r2 := 0) (r3 := 0) rfl rfl (by omega) ?_
    refine wk_i ?_
    refine wi_if (cd := .ne) (nx := 16) (r1 := 17) (r2 := 0) (r3 := 0) rfl (by omega) (fun (q31 : 1 ≠ 0) => ?_) (fun (q31 : ¬ (1 ≠ 0)) => by exfalso; omega)
    refine wi_aload_n (i := 0) (x := 236) (nx := 18) (r1 := 0) (r2 := 0) (r3 := 0) rfl rfl ?_
    refine wr_gr (k0 := 236) (x := 239) (nx := 21) (r1 := 11) (r2 := 14) (r3 := 0) rfl rfl (by decide) rfl ⟨rfl, rfl⟩ rfl ?_
    refine wi_bipush (n := 15) (nx := 23) (r1 := 0) (r2 := 0) (r3 := 0) rfl (by decide) ?_
    refine wi_iload_n (i := 1) (e := 0) (nx := 24) (r1 := 0) (r2 := 0) (r3 := 0) rfl rfl ?_
    refine wr_addL (15) (nx := 25) (r1 := 0) (r2 := 0) (r3 := 0) rfl (by decide) ?_
    refine wi_aload_n (i := 0) (x := 236) (nx := 26) (r1 := 0) (r2 := 0) (r3 := 0) rfl rfl ?_
    refine wi_iconst (n := 1) (nx := 27) (r1 := 0) (r2 := 0) (r3 := 0) rfl ?_
    refine wi_bipush (n := 6) (nx := 29) (r1 := 0) (r2 := 0) (r3 := 0) rfl (by decide) ?_
    refine wr_V (k0 := 236) (rest := [vi 15, .ref 239]) (as := [.ref 236, vi 1, vi 6]) (nx := 32) (r1 := 231) (r2 := 2) (r3 := 11) rfl rfl rfl (of_decide_eq_true rfl) rfl rfl (by decide) rfl rfl (of_decide_eq_true rfl) (of_decide_eq_true rfl) ?_
    have e33 : h22 236 3 = h 236 3 := (u22 236 3 rfl)
    have e34 : h22 236 8 = h 236 8 := (u22 236 8 rfl)
    have rb36 := RefB.fr u22 rfl xq0
    refine ct_231_236 hcr  g22 1 6 (by omega) (by omega) (show (h22 236 4) ≤ (h22 236 3) by omega) (show 0 ≤ (tk_nx tB tn tp) by omega) (show (tk_nx tB tn tp) ≤ tn by omega) (show (tk_nx tB tn tp) ≤ tk_nx tB tn (tk_nx tB tn tp) ∧ tk_nx tB tn (tk_nx tB tn tp) ≤ tn by omega) (show 1 ≤ (h22 236 8) ∨ ((h22 236 4) = tk_nx tB tn (tk_nx tB tn tp) ∧ (h22 236 5) = tk_st tB tn (tk_nx tB tn tp) ∧ ((tk_kd tB tn (tk_nx tB tn tp) = 0 ∧ (h22 236 6) = 0) ∨ (tk_kd tB tn (tk_nx tB tn tp) = 1 ∧ (h22 236 6) = 1 ∧ (h22 236 12) = tk_sw tB tn (tk_nx tB tn tp)) ∨ (tk_kd tB tn (tk_nx tB tn tp) = 2 ∧ (h22 236 6) = 2 ∧ (h22 236 7) = tk_nb tB tn (tk_nx tB tn tp)) ∨ (tk_kd tB tn (tk_nx tB tn tp) = 3 ∧ (h22 236 6) = 3 ∧ (h22 236 7) = 59) ∨ (tk_kd tB tn (tk_nx tB tn tp) = 4 ∧ (h22 236 6) = 3 ∧ (h22 236 7) = 40) ∨ (tk_kd tB tn (tk_nx tB tn tp) = 5 ∧ (h22 236 6) = 3 ∧ (h22 236 7) = 41) ∨ (tk_kd tB tn (tk_nx tB tn tp) = 6 ∧ (h22 236 6) = 4))) from (Or.inr (show ((h22 236 4) = tk_nx tB tn (tk_nx tB tn tp) ∧ (h22 236 5) = tk_st tB tn (tk_nx tB tn tp) ∧ ((tk_kd tB tn (tk_nx tB tn tp) = 0 ∧ (h22 236 6) = 0) ∨ (tk_kd tB tn (tk_nx tB tn tp) = 1 ∧ (h22 236 6) = 1 ∧ (h22 236 12) = tk_sw tB tn (tk_nx tB tn tp)) ∨ (tk_kd tB tn (tk_nx tB tn tp) = 2 ∧ (h22 236 6) = 2 ∧ (h22 236 7) = tk_nb tB tn (tk_nx tB tn tp)) ∨ (tk_kd tB tn (tk_nx tB tn tp) = 3 ∧ (h22 236 6) = 3 ∧ (h22 236 7) = 59) ∨ (tk_kd tB tn (tk_nx tB tn tp) = 4 ∧ (h22 236 6) = 3 ∧ (h22 236 7) = 40) ∨ (tk_kd tB tn (tk_nx tB tn tp) = 5 ∧ (h22 236 6) = 3 ∧ (h22 236 7) = 41) ∨ (tk_kd tB tn (tk_nx tB tn tp) = 6 ∧ (h22 236 6) = 4))) by first | assumption | exact tk_mv (by assumption) (by omega) (by omega) (by omega) (by omega) (by omega)))) rb36 (fun h32 z35 g32 u32 (fz35 : 0 ≤ z35 ∧ z35 ≤ 999) (p32_0 : (1 ≤ (h22 236 8) ∧ (h32 236 8) = (h22 236 8) ∧ (h32 236 9) = (h22 236 9)) ∨ ((h22 236 8) = 0 ∧ tk_kd tB tn (tk_nx tB tn tp) = 2 ∧ 1 ≤ tk_nb tB tn (tk_nx tB tn tp) ∧ tk_nb tB tn (tk_nx tB tn tp) ≤ 6 ∧ z35 = tk_nb tB tn (tk_nx tB tn tp) ∧ (h32 236 8) = (h22 236 8) ∧ (h32 236 9) = (h22 236 9) ∧ ((h32 236 4) = tk_nx tB tn (tk_nx tB tn (tk_nx tB tn tp)) ∧ (h32 236 5) = tk_st tB tn (tk_nx tB tn (tk_nx tB tn tp)) ∧ ((tk_kd tB tn (tk_nx tB tn (tk_nx tB tn tp)) = 0 ∧ (h32 236 6) = 0) ∨ (tk_kd tB tn (tk_nx tB tn (tk_nx tB tn tp)) = 1 ∧ (h32 236 6) = 1 ∧ (h32 236 12) = tk_sw tB tn (tk_nx tB tn (tk_nx tB tn tp))) ∨ (tk_kd tB tn (tk_nx tB tn (tk_nx tB tn tp)) = 2 ∧ (h32 236 6) = 2 ∧ (h32 236 7) = tk_nb tB tn (tk_nx tB tn (tk_nx tB tn tp))) ∨ (tk_kd tB tn (tk_nx tB tn (tk_nx tB tn tp)) = 3 ∧ (h32 236 6) = 3 ∧ (h32 236 7) = 59) ∨ (tk_kd tB tn (tk_nx tB tn (tk_nx tB tn tp)) = 4 ∧ (h32 236 6) = 3 ∧ (h32 236 7) = 40) ∨ (tk_kd tB tn (tk_nx tB tn (tk_nx tB tn tp)) = 5 ∧ (h32 236 6) = 3 ∧ (h32 236 7) = 41) ∨ (tk_kd tB tn (tk_nx tB tn (tk_nx tB tn tp)) = 6 ∧ (h32 236 6) = 4)))) ∨ ((h22 236 8) = 0 ∧ tk_kd tB tn (tk_nx tB tn tp) ≠ 2 ∧ (h32 236 8) = 1 ∧ (h32 236 9) = tk_st tB tn (tk_nx tB tn tp)) ∨ ((h22 236 8) = 0 ∧ tk_kd tB tn (tk_nx tB tn tp) = 2 ∧ (tk_nb tB tn (tk_nx tB tn tp) < 1 ∨ 6 < tk_nb tB tn (tk_nx tB tn tp)) ∧ (h32 236 8) = 2 ∧ (h32 236 9) = tk_st tB tn (tk_nx tB tn tp))) (p32_1 : (h22 236 4) ≤ (h32 236 4)) (p32_2 : (h32 236 4) ≤ (h22 236 3)) (p32_3 : 1 ≤ (h32 236 8) ∨ (h22 236 8) = 0) (p32_4 : 1 ≤ (h32 236 8) ∨ (1 ≤ z35 ∧ z35 ≤ 6)) (p32_5 : 1 ≤ (h32 236 8) ∨ (h22 236 6) = 2) => ?_)
    have F37 := F23.then (by decide +kernel) u32
    have e38 : h22 236 9 = h 236 9 := (u22 236 9 rfl)
    have b39 := gi_b (lo := 0) (hi := 5) g32 236 8 rfl
    have b40 := gi_b (lo := -2147483648) (hi := 2147483647) g32 236 9 rfl
    have b41 := gi_b (lo := 0) (hi := 800) g32 236 4 rfl
    have b42 := gi_b (lo := 0) (hi := 800) g32 236 5 rfl
    have b43 := gi_b (lo := 0) (hi := 4) g32 236 6 rfl
    have b44 := gi_b (lo := -9223372036854775808) (hi := 9223372036854775807) g32 236 12 rfl
    have b45 := gi_b (lo := 0) (hi := 999) g32 236 7 rfl
    refine wk_i ?_
    rcases p32_0 with p32_0 | p32_0 | p32_0 | p32_0
    ·
      exfalso; omega
    ·
      have tk46 := p32_0.2.2.2.2.2.2.2
      have tN47 := @tk_nx_b tB tn (tk_nx tB tn (tk_nx tB tn tp)) (by omega) (by omega)
      refine wr_is (k0 := 239) (a := 15) (f := 15) (x := z35) (bl := 0) (bh := 999) (nx := 33) (r1 := 0) (r2 := 0) (r3 := 0) rfl (by decide) rfl (by omega) (by omega) (by decide) g32 rfl (by omega) (fun h48 g48 w48 u48 => ?_)
      have F49 := F37.then rfl u48
      refine wi_aload_n (i := 0) (x := 236) (nx := 34) (r1 := 0) (r2 := 0) (r3 := 0) rfl rfl ?_
      refine wr_V (k0 := 236) (rest := []) (as := [.ref 236]) (nx := 37) (r1 := 219) (r2 := 0) (r3 := 11) rfl rfl rfl (of_decide_eq_true rfl) rfl rfl (by decide) rfl rfl (of_decide_eq_true rfl) (of_decide_eq_true rfl) ?_
      refine wi_aload_n (i := 0) (x := 236) (nx := 1) (r1 := 0) (r2 := 0) (r3 := 0) rfl rfl ?_
      refine wr_gi0 (k0 := 236) (x := h32 236 8) (nx := 4) (r1 := 11) (r2 := 8) (r3 := 0) rfl rfl (by decide) rfl ⟨rfl, rfl⟩ rfl (u48 236 8 rfl) ?_
      refine wi_if (cd := .ne) (nx := 7) (r1 := 11) (r2 := 0) (r3 := 0) rfl (by omega) (fun (q50 : (h32 236 8) ≠ 0) => by exfalso; omega) (fun (q50 : ¬ ((h32 236 8) ≠ 0)) => ?_)
      refine wi_iconst (n := 1) (nx := 8) (r1 := 0) (r2 := 0) (r3 := 0) rfl ?_
      refine wi_goto (nx := 11) (r1 := 12) (r2 := 0) (r3 := 0) rfl ?_
      refine wi_zreturn (nx := 13) (r1 := 0) (r2 := 0) (r3 := 0) rfl rfl (by omega) ?_
      refine wk_i ?_
      refine wi_if (cd := .eq) (nx := 40) (r1 := 50) (r2 := 0) (r3 := 0) rfl (by omega) (fun (q51 : 1 = 0) => by exfalso; omega) (fun (q51 : ¬ (1 = 0)) => ?_)
      refine wi_aload_n (i := 0) (x := 236) (nx := 41) (r1 := 0) (r2 := 0) (r3 := 0) rfl rfl ?_
      refine wr_gr (k0 := 236) (x := 239) (nx := 44) (r1 := 11) (r2 := 14) (r3 := 0) rfl rfl (by decide) rfl ⟨rfl, rfl⟩ rfl ?_
      refine wi_iconst (n := 1) (nx := 45) (r1 := 0) (r2 := 0) (r3 := 0) rfl ?_
      refine wi_dup2 (nx := 46) (r1 := 0) (r2 := 0) (r3 := 0) rfl rfl rfl ?_
      refine wr_ia (k0 := 239) (a := 1) (f := 1) (x := 0) (nx := 47) (r1 := 0) (r2 := 0) (r3 := 0) rfl (by decide) rfl (by omega) (by omega) (by decide) ((u48 239 1 rfl).trans ((u32 239 1 rfl).trans ((u22 239 1 rfl).trans q18))) ?_
      refine wi_iconst (n := 1) (nx := 48) (r1 := 0) (r2 := 0) (r3 := 0) rfl ?_
      refine wr_addL (1) (nx := 49) (r1 := 0) (r2 := 0) (r3 := 0) rfl (by decide) ?_
      refine wr_is (k0 := 239) (a := 1) (f := 1) (x := 1) (bl := 0) (bh := 4) (nx := 50) (r1 := 0) (r2 := 0) (r3 := 0) rfl (by decide) rfl (by omega) (by omega) (by decide) g48 rfl (by omega) (fun h52 g52 w52 u52 => ?_)
      have F53 := F49.then rfl u52
      refine wi_return (nx := 51) (r1 := 0) (r2 := 0) (r3 := 0) rfl rfl ?_
      have e54 : h52 236 4 = h32 236 4 := ((u52 236 4 rfl).trans (u48 236 4 rfl))
      have e55 : h52 236 8 = h32 236 8 := ((u52 236 8 rfl).trans (u48 236 8 rfl))
      have e56 : h52 239 5 = h 239 5 := ((u52 239 5 rfl).trans ((u48 239 5 rfl).trans ((u32 239 5 rfl).trans (u22 239 5 rfl))))
      have e57 : h52 239 7 = h 239 7 := ((u52 239 7 rfl).trans ((u48 239 7 rfl).trans ((u32 239 7 rfl).trans (u22 239 7 rfl))))
      have e58 : h52 239 15 = z35 := ((u52 239 15 rfl).trans w48)
      have e59 : h52 239 16 = h 239 16 := ((u52 239 16 rfl).trans ((u48 239 16 rfl).trans ((u32 239 16 rfl).trans (u22 239 16 rfl))))
      have e60 : h52 239 17 = h 239 17 := ((u52 239 17 rfl).trans ((u48 239 17 rfl).trans ((u32 239 17 rfl).trans (u22 239 17 rfl))))
      have e61 : h52 239 18 = h 239 18 := ((u52 239 18 rfl).trans ((u48 239 18 rfl).trans ((u32 239 18 rfl).trans (u22 239 18 rfl))))
      have e62 : h52 236 9 = h32 236 9 := ((u52 236 9 rfl).trans (u48 236 9 rfl))
      have e63 : h52 239 0 = h 239 0 := ((u52 239 0 rfl).trans ((u48 239 0 rfl).trans ((u32 239 0 rfl).trans (u22 239 0 rfl))))
      have e64 : h52 239 1 = 1 := w52
      have e65 : h52 239 2 = h 239 2 := ((u52 239 2 rfl).trans ((u48 239 2 rfl).trans ((u32 239 2 rfl).trans (u22 239 2 rfl))))
      have b66 := gi_b (lo := 0) (hi := 999) g 239 3 rfl
      have e67 : h52 239 3 = h 239 3 := ((u52 239 3 rfl).trans ((u48 239 3 rfl).trans ((u32 239 3 rfl).trans (u22 239 3 rfl))))
      have b68 := gi_b (lo := 0) (hi := 999) g 239 4 rfl
      have e69 : h52 239 4 = h 239 4 := ((u52 239 4 rfl).trans ((u48 239 4 rfl).trans ((u32 239 4 rfl).trans (u22 239 4 rfl))))
      have b70 := gi_b (lo := 0) (hi := 999) g 239 6 rfl
      have e71 : h52 239 6 = h 239 6 := ((u52 239 6 rfl).trans ((u48 239 6 rfl).trans ((u32 239 6 rfl).trans (u22 239 6 rfl))))
      have b72 := gi_b (lo := 0) (hi := 999) g 239 8 rfl
      have e73 : h52 239 8 = h 239 8 := ((u52 239 8 rfl).trans ((u48 239 8 rfl).trans ((u32 239 8 rfl).trans (u22 239 8 rfl))))
      have b74 := gi_b (lo := 0) (hi := 999) g 239 9 rfl
      have e75 : h52 239 9 = h 239 9 := ((u52 239 9 rfl).trans ((u48 239 9 rfl).trans ((u32 239 9 rfl).trans (u22 239 9 rfl))))
      have b76 := gi_b (lo := 0) (hi := 1) g 236 23 rfl
      have e77 : h52 236 23 = h 236 23 := ((u52 236 23 rfl).trans ((u48 236 23 rfl).trans ((u32 236 23 rfl).trans (u22 236 23 rfl))))
      have b78 := gi_b (lo := 0) (hi := 1) g 236 24 rfl
      have e79 : h52 236 24 = h 236 24 := ((u52 236 24 rfl).trans ((u48 236 24 rfl).trans ((u32 236 24 rfl).trans (u22 236 24 rfl))))
      have b80 := gi_b (lo := 0) (hi := 1) g 236 25 rfl
      have e81 : h52 236 25 = h 236 25 := ((u52 236 25 rfl).trans ((u48 236 25 rfl).trans ((u32 236 25 rfl).trans (u22 236 25 rfl))))
      have b82 := gi_b (lo := 0) (hi := 1) g 236 26 rfl
      have e83 : h52 236 26 = h 236 26 := ((u52 236 26 rfl).trans ((u48 236 26 rfl).trans ((u32 236 26 rfl).trans (u22 236 26 rfl))))
      have e84 : h52 236 5 = h32 236 5 := ((u52 236 5 rfl).trans (u48 236 5 rfl))
      have e85 : h52 236 6 = h32 236 6 := ((u52 236 6 rfl).trans (u48 236 6 rfl))
      have e86 : h52 236 7 = h32 236 7 := ((u52 236 7 rfl).trans (u48 236 7 rfl))
      have e87 : h52 236 12 = h32 236 12 := ((u52 236 12 rfl).trans (u48 236 12 rfl))
      exact k h52 g52 F53 (show (h 236 4) ≤ (h52 236 4) by omega) (show (h52 236 4) ≤ (h 236 3) by omega) (show 1 ≤ (h52 236 8) ∨ ((h52 239 5) ≤ 9 ∧ 1 ≤ (h52 239 5) ∧ (h52 239 7) ≤ 3 ∧ (h52 239 15) ≤ 6 ∧ (h52 239 16) ≤ 6 ∧ (h52 239 17) ≤ 6 ∧ (h52 239 18) ≤ 6) by omega) (show (h52 236 8) ≠ 0 ∨ (h52 236 9) = -1 by omega) (by unfold tk_lane tk_num; (try dsimp only); (repeat (first | rw [if_pos (by omega)] | rw [if_neg (by omega)])); (repeat ((first | unfold tk_num); (try dsimp only); (repeat (first | rw [if_pos (by omega)] | rw [if_neg (by omega)])))); exact tk_ORs (by omega) (by first | assumption | exact tk_mv (by assumption) (by omega) (by omega) (by omega) (by omega) (by omega)) (CVr.lane (c := (h 239 1).toNat) xq1 (by omega) (by omega) (fun i _ _ => ((u52 239 i (fn_i (by omega) fn_0)).trans ((u48 239 i (fn_i (by omega) fn_0)).trans ((u32 239 i (fo_nk rfl)).trans (u22 239 i (fo_nk rfl)))))) (fun i _ _ => ((u52 236 i (fn_a (by omega) fn_0)).trans ((u48 236 i (fn_a (by omega) fn_0)).trans ((u32 236 i (fn_i (by omega) (fn_i (by omega) (fn_i (by omega) (fn_i (by omega) (fn_i (by omega) (fn_i (by omega) (fn_i (by omega) fn_0)))))))).trans (u22 236 i (fn_i (by omega) (fn_i (by omega) (fn_i (by omega) (fn_i (by omega) (fn_i (by omega) fn_0)))))))))) (by rw [show 15 + (h 239 1).toNat = 15 by omega]; exact ((u52 239 15 rfl).trans w48).trans (by omega)) (fun i => ((u52 244 i (fn_a (by omega) fn_0)).trans ((u48 244 i (fn_a (by omega) fn_0)).trans ((u32 244 i (fo_nk rfl)).trans (u22 244 i (fo_nk rfl)))))) (by omega) (by omega) (by omega)))
    ·
      refine wr_is (k0 := 239) (a := 15) (f := 15) (x := z35) (bl := 0) (bh := 999) (nx := 33) (r1 := 0) (r2 := 0) (r3 := 0) rfl (by decide) rfl (by omega) (by omega) (by decide) g32 rfl (by omega) (fun h46 g46 w46 u46 => ?_)
      have F47 := F37.then rfl u46
      refine wi_aload_n (i := 0) (x := 236) (nx := 34) (r1 := 0) (r2 := 0) (r3 := 0) rfl rfl ?_
      refine wr_V (k0 := 236) (rest := []) (as := [.ref 236]) (nx := 37) (r1 := 219) (r2 := 0) (r3 := 11) rfl rfl rfl (of_decide_eq_true rfl) rfl rfl (by decide) rfl rfl (of_decide_eq_true rfl) (of_decide_eq_true rfl) ?_
      refine wi_aload_n (i := 0) (x := 236) (nx := 1) (r1 := 0) (r2 := 0) (r3 := 0) rfl rfl ?_
      refine wr_gi0 (k0 := 236) (x := h32 236 8) (nx := 4) (r1 := 11) (r2 := 8) (r3 := 0) rfl rfl (by decide) rfl ⟨rfl, rfl⟩ rfl (u46 236 8 rfl) ?_
      refine wi_if (cd := .ne) (nx := 7) (r1 := 11) (r2 := 0) (r3 := 0) rfl (by omega) (fun (q48 : (h32 236 8) ≠ 0) => ?_) (fun (q48 : ¬ ((h32 236 8) ≠ 0)) => by exfalso; omega)
      refine wi_iconst (n := 0) (nx := 12) (r1 := 0) (r2 := 0) (r3 := 0) rfl ?_
      refine wi_zreturn (nx := 13) (r1 := 0) (r2 := 0) (r3 := 0) rfl rfl (by omega) ?_
      refine wk_i ?_
      refine wi_if (cd := .eq) (nx := 40) (r1 := 50) (r2 := 0) (r3 := 0) rfl (by omega) (fun (q49 : 0 = 0) => ?_) (fun (q49 : ¬ (0 = 0)) => by exfalso; omega)
      refine wi_return (nx := 51) (r1 := 0) (r2 := 0) (r3 := 0) rfl rfl ?_
      have e50 : h46 236 4 = h32 236 4 := (u46 236 4 rfl)
      have e51 : h46 236 8 = h32 236 8 := (u46 236 8 rfl)
      have e52 : h46 239 5 = h 239 5 := ((u46 239 5 rfl).trans ((u32 239 5 rfl).trans (u22 239 5 rfl)))
      have e53 : h46 239 7 = h 239 7 := ((u46 239 7 rfl).trans ((u32 239 7 rfl).trans (u22 239 7 rfl)))
      have e54 : h46 239 15 = z35 := w46
      have e55 : h46 239 16 = h 239 16 := ((u46 239 16 rfl).trans ((u32 239 16 rfl).trans (u22 239 16 rfl)))
      have e56 : h46 239 17 = h 239 17 := ((u46 239 17 rfl).trans ((u32 239 17 rfl).trans (u22 239 17 rfl)))
      have e57 : h46 239 18 = h 239 18 := ((u46 239 18 rfl).trans ((u32 239 18 rfl).trans (u22 239 18 rfl)))
      have e58 : h46 236 9 = h32 236 9 := (u46 236 9 rfl)
      exact k h46 g46 F47 (show (h 236 4) ≤ (h46 236 4) by omega) (show (h46 236 4) ≤ (h 236 3) by omega) (show 1 ≤ (h46 236 8) ∨ ((h46 239 5) ≤ 9 ∧ 1 ≤ (h46 239 5) ∧ (h46 239 7) ≤ 3 ∧ (h46 239 15) ≤ 6 ∧ (h46 239 16) ≤ 6 ∧ (h46 239 17) ≤ 6 ∧ (h46 239 18) ≤ 6) by omega) (show (h46 236 8) ≠ 0 ∨ (h46 236 9) = -1 by omega) (by unfold tk_lane tk_num; (try dsimp only); (repeat (first | rw [if_pos (by omega)] | rw [if_neg (by omega)])); (repeat ((first | unfold tk_num); (try dsimp only); (repeat (first | rw [if_pos (by omega)] | rw [if_neg (by omega)])))); first | exact tk_ORe (by omega) (by omega) (by omega) | ((repeat' split) <;> (first | exact tk_ORe (by omega) (by omega) (by omega) | (exfalso; omega))))
    ·
      refine wr_is (k0 := 239) (a := 15) (f := 15) (x := z35) (bl := 0) (bh := 999) (nx := 33) (r1 := 0) (r2 := 0) (r3 := 0) rfl (by decide) rfl (by omega) (by omega) (by decide) g32 rfl (by omega) (fun h46 g46 w46 u46 => ?_)
      have F47 := F37.then rfl u46
      refine wi_aload_n (i := 0) (x := 236) (nx := 34) (r1 := 0) (r2 := 0) (r3 := 0) rfl rfl ?_
      refine wr_V (k0 := 236) (rest := []) (as := [.ref 236]) (nx := 37) (r1 := 219) (r2 := 0) (r3 := 11) rfl rfl rfl (of_decide_eq_true rfl) rfl rfl (by decide) rfl rfl (of_decide_eq_true rfl) (of_decide_eq_true rfl) ?_
      refine wi_aload_n (i := 0) (x := 236) (nx := 1) (r1 := 0) (r2 := 0) (r3 := 0) rfl rfl ?_
      refine wr_gi0 (k0 := 236) (x := h32 236 8) (nx := 4) (r1 := 11) (r2 := 8) (r3 := 0) rfl rfl (by decide) rfl ⟨rfl, rfl⟩ rfl (u46 236 8 rfl) ?_
      refine wi_if (cd := .ne) (nx := 7) (r1 := 11) (r2 := 0) (r3 := 0) rfl (by omega) (fun (q48 : (h32 236 8) ≠ 0) => ?_) (fun (q48 : ¬ ((h32 236 8) ≠ 0)) => by exfalso; omega)
      refine wi_iconst (n := 0) (nx := 12) (r1 := 0) (r2 := 0) (r3 := 0) rfl ?_
      refine wi_zreturn (nx := 13) (r1 := 0) (r2 := 0) (r3 := 0) rfl rfl (by omega) ?_
      refine wk_i ?_
      refine wi_if (cd := .eq) (nx := 40) (r1 := 50) (r2 := 0) (r3 := 0) rfl (by omega) (fun (q49 : 0 = 0) => ?_) (fun (q49 : ¬ (0 = 0)) => by exfalso; omega)
      refine wi_return (nx := 51) (r1 := 0) (r2 := 0) (r3 := 0) rfl rfl ?_
      have e50 : h46 236 4 = h32 236 4 := (u46 236 4 rfl)
      have e51 : h46 236 8 = h32 236 8 := (u46 236 8 rfl)
      have e52 : h46 239 5 = h 239 5 := ((u46 239 5 rfl).trans ((u32 239 5 rfl).trans (u22 239 5 rfl)))
      have e53 : h46 239 7 = h 239 7 := ((u46 239 7 rfl).trans ((u32 239 7 rfl).trans (u22 239 7 rfl)))
      have e54 : h46 239 15 = z35 := w46
      have e55 : h46 239 16 = h 239 16 := ((u46 239 16 rfl).trans ((u32 239 16 rfl).trans (u22 239 16 rfl)))
      have e56 : h46 239 17 = h 239 17 := ((u46 239 17 rfl).trans ((u32 239 17 rfl).trans (u22 239 17 rfl)))
      have e57 : h46 239 18 = h 239 18 := ((u46 239 18 rfl).trans ((u32 239 18 rfl).trans (u22 239 18 rfl)))
      have e58 : h46 236 9 = h32 236 9 := (u46 236 9 rfl)
      exact k h46 g46 F47 (show (h 236 4) ≤ (h46 236 4) by omega) (show (h46 236 4) ≤ (h 236 3) by omega) (show 1 ≤ (h46 236 8) ∨ ((h46 239 5) ≤ 9 ∧ 1 ≤ (h46 239 5) ∧ (h46 239 7) ≤ 3 ∧ (h46 239 15) ≤ 6 ∧ (h46 239 16) ≤ 6 ∧ (h46 239 17) ≤ 6 ∧ (h46 239 18) ≤ 6) by omega) (show (h46 236 8) ≠ 0 ∨ (h46 236 9) = -1 by omega) (by unfold tk_lane tk_num; (try dsimp only); (repeat (first | rw [if_pos (by omega)] | rw [if_neg (by omega)])); (repeat ((first | unfold tk_num); (try dsimp only); (repeat (first | rw [if_pos (by omega)] | rw [if_neg (by omega)])))); first | exact tk_ORe (by omega) (by omega) (by omega) | ((repeat' split) <;> (first | exact tk_ORe (by omega) (by omega) (by omega) | (exfalso; omega))))
  ·
    refine wr_ia (k0 := 239) (a := 1) (f := 1) (x := 1) (nx := 6) (r1 := 0) (r2 := 0) (r3 := 0) rfl (by decide) rfl (by omega) (by omega) (by decide) q18 ?_
    refine wi_istore_n (i := 1) (e := 1) (lo2 := [(1, vi 1), (0, .ref 236)]) (nx := 7) (r1 := 0) (r2 := 0) (r3 := 0) rfl rfl ?_
    refine wi_aload_n (i := 0) (x := 236) (nx := 8) (r1 := 0) (r2 := 0) (r3 := 0) rfl rfl ?_
    refine wi_iconst (n := 1) (nx := 9) (r1 := 0) (r2 := 0) (r3 := 0) rfl ?_
    refine wi_iconst (n := 4) (nx := 10) (r1 := 0) (r2 := 0) (r3 := 0) rfl ?_
    refine wr_V (k0 := 236) (rest := []) (as := [.ref 236, vi 1, vi 4]) (nx := 13) (r1 := 223) (r2 := 2) (r3 := 11) rfl rfl rfl (of_decide_eq_true rfl) rfl rfl (by decide) rfl rfl (of_decide_eq_true rfl) (of_decide_eq_true rfl) ?_
    refine wi_aload_n (i := 0) (x := 236) (nx := 1) (r1 := 0) (r2 := 0) (r3 := 0) rfl rfl ?_
    refine wr_gr (k0 := 236) (x := 239) (nx := 4) (r1 := 11) (r2 := 14) (r3 := 0) rfl rfl (by decide) rfl ⟨rfl, rfl⟩ rfl ?_
    refine wi_iload_n (i := 1) (e := 1) (nx := 5) (r1 := 0) (r2 := 0) (r3 := 0) rfl rfl ?_
    refine wr_ia (k0 := 239) (a := 1) (f := 1) (x := 1) (nx := 6) (r1 := 0) (r2 := 0) (r3 := 0) rfl (by decide) rfl (by omega) (by omega) (by decide) q18 ?_
    refine wi_iload_n (i := 2) (e := 4) (nx := 7) (r1 := 0) (r2 := 0) (r3 := 0) rfl rfl ?_
    refine wi_icmp (cd := .ne) (nx := 10) (r1 := 15) (r2 := 0) (r3 := 0) rfl (by omega) (by omega) (fun (q19 : 1 ≠ 4) => ?_) (fun (q19 : ¬ (1 ≠ 4)) => by exfalso; omega)
    refine wi_aload_n (i := 0) (x := 236) (nx := 16) (r1 := 0) (r2 := 0) (r3 := 0) rfl rfl ?_
    refine wr_V (k0 := 236) (rest := []) (as := [.ref 236]) (nx := 19) (r1 := 219) (r2 := 0) (r3 := 11) rfl rfl rfl (of_decide_eq_true rfl) rfl rfl (by decide) rfl rfl (of_decide_eq_true rfl) (of_decide_eq_true rfl) ?_
    refine wi_aload_n (i := 0) (x := 236) (nx := 1) (r1 := 0) (r2 := 0) (r3 := 0) rfl rfl ?_
    refine wr_gi0 (k0 := 236) (x := h 236 8) (nx := 4) (r1 := 11) (r2 := 8) (r3 := 0) rfl rfl (by decide) rfl ⟨rfl, rfl⟩ rfl rfl ?_
    refine wi_if (cd := .ne) (nx := 7) (r1 := 11) (r2 := 0) (r3 := 0) rfl (by omega) (fun (q20 : (h 236 8) ≠ 0) => by exfalso; omega) (fun (q20 : ¬ ((h 236 8) ≠ 0)) => ?_)
    refine wi_iconst (n := 1) (nx := 8) (r1 := 0) (r2 := 0) (r3 := 0) rfl ?_
    refine wi_goto (nx := 11) (r1 := 12) (r2 := 0) (r3 := 0) rfl ?_
    refine wi_zreturn (nx := 13) (r1 := 0) (r2 := 0) (r3 := 0) rfl rfl (by omega) ?_
    refine wk_i ?_
    refine wi_if (cd := .eq) (nx := 22) (r1 := 26) (r2 := 0) (r3 := 0) rfl (by omega) (fun (q21 : 1 = 0) => by exfalso; omega) (fun (q21 : ¬ (1 = 0)) => ?_)
    refine wi_aload_n (i := 0) (x := 236) (nx := 23) (r1 := 0) (r2 := 0) (r3 := 0) rfl rfl ?_
    refine wr_V (k0 := 236) (rest := []) (as := [.ref 236]) (nx := 26) (r1 := 215) (r2 := 0) (r3 := 11) rfl rfl rfl (of_decide_eq_true rfl) rfl rfl (by decide) rfl rfl (of_decide_eq_true rfl) (of_decide_eq_true rfl) ?_
    refine ct_215_236 hcr  g   (show (h 236 4) ≤ (h 236 3) by omega) (show (h 236 4) = (tk_nx tB tn tp) by omega) (show 0 ≤ (tk_nx tB tn tp) by omega) (show (tk_nx tB tn tp) ≤ tn by omega) xq0 (fun h22 g22 u22 (p22_0 : (h 236 4) ≤ (h22 236 4)) (p22_1 : (h22 236 4) ≤ (h 236 3)) (p22_2 : ((h22 236 4) = tk_nx tB tn (tk_nx tB tn tp) ∧ (h22 236 5) = tk_st tB tn (tk_nx tB tn tp) ∧ ((tk_kd tB tn (tk_nx tB tn tp) = 0 ∧ (h22 236 6) = 0) ∨ (tk_kd tB tn (tk_nx tB tn tp) = 1 ∧ (h22 236 6) = 1 ∧ (h22 236 12) = tk_sw tB tn (tk_nx tB tn tp)) ∨ (tk_kd tB tn (tk_nx tB tn tp) = 2 ∧ (h22 236 6) = 2 ∧ (h22 236 7) = tk_nb tB tn (tk_nx tB tn tp)) ∨ (tk_kd tB tn (tk_nx tB tn tp) = 3 ∧ (h22 236 6) = 3 ∧ (h22 236 7) = 59) ∨ (tk_kd tB tn (tk_nx tB tn tp) = 4 ∧ (h22 236 6) = 3 ∧ (h22 236 7) = 40) ∨ (tk_kd tB tn (tk_nx tB tn tp) = 5 ∧ (h22 236 6) = 3 ∧ (h22 236 7) = 41) ∨ (tk_kd tB tn (tk_nx tB tn tp) = 6 ∧ (h22 236 6) = 4)))) (p22_3 : (tk_nx tB tn tp) ≤ tk_nx tB tn (tk_nx tB tn tp) ∧ tk_nx tB tn (tk_nx tB tn tp) ≤ tn) => ?_)
    have F23 := F0.then (by decide +kernel) u22
    have b24 := gi_b (lo := 0) (hi := 800) g22 236 4 rfl
    have b25 := gi_b (lo := 0) (hi := 800) g22 236 5 rfl
    have b26 := gi_b (lo := 0) (hi := 4) g22 236 6 rfl
    have b27 := gi_b (lo := -9223372036854775808) (hi := 9223372036854775807) g22 236 12 rfl
    have b28 := gi_b (lo := 0) (hi := 999) g22 236 7 rfl
    have tN29 := @tk_nx_b tB tn (tk_nx tB tn tp) (by omega) (by omega)
    refine wk_n ?_
    refine wi_aload_n (i := 0) (x := 236) (nx := 27) (r1 := 0) (r2 := 0) (r3 := 0) rfl rfl ?_
    refine wr_V (k0 := 236) (rest := []) (as := [.ref 236]) (nx := 30) (r1 := 219) (r2 := 0) (r3 := 11) rfl rfl rfl (of_decide_eq_true rfl) rfl rfl (by decide) rfl rfl (of_decide_eq_true rfl) (of_decide_eq_true rfl) ?_
    refine wi_aload_n (i := 0) (x := 236) (nx := 1) (r1 := 0) (r2 := 0) (r3 := 0) rfl rfl ?_
    refine wr_gi0 (k0 := 236) (x := h 236 8) (nx := 4) (r1 := 11) (r2 := 8) (r3 := 0) rfl rfl (by decide) rfl ⟨rfl, rfl⟩ rfl (u22 236 8 rfl) ?_
    refine wi_if (cd := .ne) (nx := 7) (r1 := 11) (r2 := 0) (r3 := 0) rfl (by omega) (fun (q30 : (h 236 8) ≠ 0) => by exfalso; omega) (fun (q30 : ¬ ((h 236 8) ≠ 0)) => ?_)
    refine wi_iconst (n := 1) (nx := 8) (r1 := 0) (r2 := 0) (r3 := 0) rfl ?_
    refine wi_goto (nx := 11) (r1 := 12) (r2 := 0) (r3 := 0) rfl ?_
    refine wi_zreturn (nx := 13) (r1 := 0) (r2 := 0) (r3 := 0) rfl rfl (by omega) ?_
    refine wk_i ?_
    refine wi_zreturn (nx := 31) (r1 := 0) (r2 := 0) (r3 := 0) rfl rfl (by omega) ?_
    refine wk_i ?_
    refine wi_if (cd := .ne) (nx := 16) (r1 := 17) (r2 := 0) (r3 := 0) rfl (by omega) (fun (q31 : 1 ≠ 0) => ?_) (fun (q31 : ¬ (1 ≠ 0)) => by exfalso; omega)
    refine wi_aload_n (i := 0) (x := 236) (nx := 18) (r1 := 0) (r2 := 0) (r3 := 0) rfl rfl ?_
    refine wr_gr (k0 := 236) (x := 239) (nx := 21) (r1 := 11) (r2 := 14) (r3 := 0) rfl rfl (by decide) rfl ⟨rfl, rfl⟩ rfl ?_
    refine wi_bipush (n := 15) (nx := 23) (r1 := 0) (r2 := 0) (r3 := 0) rfl (by decide) ?_
    refine wi_iload_n (i := 1) (e := 1) (nx := 24) (r1 := 0) (r2 := 0) (r3 := 0) rfl rfl ?_
    refine wr_addL (16) (nx := 25) (r1 := 0) (r2 := 0) (r3 := 0) rfl (by decide) ?_
    refine wi_aload_n (i := 0) (x := 236) (nx := 26) (r1 := 0) (r2 := 0) (r3 := 0) rfl rfl ?_
    refine wi_iconst (n := 1) (nx := 27) (r1 := 0) (r2 := 0) (r3 := 0) rfl ?_
    refine wi_bipush (n := 6) (nx := 29) (r1 := 0) (r2 := 0) (r3 := 0) rfl (by decide) ?_
    refine wr_V (k0 := 236) (rest := [vi 16, .ref 239]) (as := [.ref 236, vi 1, vi 6]) (nx := 32) (r1 := 231) (r2 := 2) (r3 := 11) rfl rfl rfl (of_decide_eq_true rfl) rfl rfl (by decide) rfl rfl (of_decide_eq_true rfl) (of_decide_eq_true rfl) ?_
    have e33 : h22 236 3 = h 236 3 := (u22 236 3 rfl)
    have e34 : h22 236 8 = h 236 8 := (u22 236 8 rfl)
    have rb36 := RefB.fr u22 rfl xq0
    refine ct_231_236 hcr  g22 1 6 (by omega) (by omega) (show (h22 236 4) ≤ (h22 236 3) by omega) (show 0 ≤ (tk_nx tB tn tp) by omega) (show (tk_nx tB tn tp) ≤ tn by omega) (show (tk_nx tB tn tp) ≤ tk_nx tB tn (tk_nx tB tn tp) ∧ tk_nx tB tn (tk_nx tB tn tp) ≤ tn by omega) (show 1 ≤ (h22 236 8) ∨ ((h22 236 4) = tk_nx tB tn (tk_nx tB tn tp) ∧ (h22 236 5) = tk_st tB tn (tk_nx tB tn tp) ∧ ((tk_kd tB tn (tk_nx tB tn tp) = 0 ∧ (h22 236 6) = 0) ∨ (tk_kd tB tn (tk_nx tB tn tp) = 1 ∧ (h22 236 6) = 1 ∧ (h22 236 12) = tk_sw tB tn (tk_nx tB tn tp)) ∨ (tk_kd tB tn (tk_nx tB tn tp) = 2 ∧ (h22 236 6) = 2 ∧ (h22 236 7) = tk_nb tB tn (tk_nx tB tn tp)) ∨ (tk_kd tB tn (tk_nx tB tn tp) = 3 ∧ (h22 236 6) = 3 ∧ (h22 236 7) = 59) ∨ (tk_kd tB tn (tk_nx tB tn tp) = 4 ∧ (h22 236 6) = 3 ∧ (h22 236 7) = 40) ∨ (tk_kd tB tn (tk_nx tB tn tp) = 5 ∧ (h22 236 6) = 3 ∧ (h22 236 7) = 41) ∨ (tk_kd tB tn (tk_nx tB tn tp) = 6 ∧ (h22 236 6) = 4))) from (Or.inr (show ((h22 236 4) = tk_nx tB tn (tk_nx tB tn tp) ∧ (h22 236 5) = tk_st tB tn (tk_nx tB tn tp) ∧ ((tk_kd tB tn (tk_nx tB tn tp) = 0 ∧ (h22 236 6) = 0) ∨ (tk_kd tB tn (tk_nx tB tn tp) = 1 ∧ (h22 236 6) = 1 ∧ (h22 236 12) = tk_sw tB tn (tk_nx tB tn tp)) ∨ (tk_kd tB tn (tk_nx tB tn tp) = 2 ∧ (h22 236 6) = 2 ∧ (h22 236 7) = tk_nb tB tn (tk_nx tB tn tp)) ∨ (tk_kd tB tn (tk_nx tB tn tp) = 3 ∧ (h22 236 6) = 3 ∧ (h22 236 7) = 59) ∨ (tk_kd tB tn (tk_nx tB tn tp) = 4 ∧ (h22 236 6) = 3 ∧ (h22 236 7) = 40) ∨ (tk_kd tB tn (tk_nx tB tn tp) = 5 ∧ (h22 236 6) = 3 ∧ (h22 236 7) = 41) ∨ (tk_kd tB tn (tk_nx tB tn tp) = 6 ∧ (h22 236 6) = 4))) by first | assumption | exact tk_mv (by assumption) (by omega) (by omega) (by omega) (by omega) (by omega)))) rb36 (fun h32 z35 g32 u32 (fz35 : 0 ≤ z35 ∧ z35 ≤ 999) (p32_0 : (1 ≤ (h22 236 8) ∧ (h32 236 8) = (h22 236 8) ∧ (h32 236 9) = (h22 236 9)) ∨ ((h22 236 8) = 0 ∧ tk_kd tB tn (tk_nx tB tn tp) = 2 ∧ 1 ≤ tk_nb tB tn (tk_nx tB tn tp) ∧ tk_nb tB tn (tk_nx tB tn tp) ≤ 6 ∧ z35 = tk_nb tB tn (tk_nx tB tn tp) ∧ (h32 236 8) = (h22 236 8) ∧ (h32 236 9) = (h22 236 9) ∧ ((h32 236 4) = tk_nx tB tn (tk_nx tB tn (tk_nx tB tn tp)) ∧ (h32 236 5) = tk_st tB tn (tk_nx tB tn (tk_nx tB tn tp)) ∧ ((tk_kd tB tn (tk_nx tB tn (tk_nx tB tn tp)) = 0 ∧ (h32 236 6) = 0) ∨ (tk_kd tB tn (tk_nx tB tn (tk_nx tB tn tp)) = 1 ∧ (h32 236 6) = 1 ∧ (h32 236 12) = tk_sw tB tn (tk_nx tB tn (tk_nx tB tn tp))) ∨ (tk_kd tB tn (tk_nx tB tn (tk_nx tB tn tp)) = 2 ∧ (h32 236 6) = 2 ∧ (h32 236 7) = tk_nb tB tn (tk_nx tB tn (tk_nx tB tn tp))) ∨ (tk_kd tB tn (tk_nx tB tn (tk_nx tB tn tp)) = 3 ∧ (h32 236 6) = 3 ∧ (h32 236 7) = 59) ∨ (tk_kd tB tn (tk_nx tB tn (tk_nx tB tn tp)) = 4 ∧ (h32 236 6) = 3 ∧ (h32 236 7) = 40) ∨ (tk_kd tB tn (tk_nx tB tn (tk_nx tB tn tp)) = 5 ∧ (h32 236 6) = 3 ∧ (h32 236 7) = 41) ∨ (tk_kd tB tn (tk_nx tB tn (tk_nx tB tn tp)) = 6 ∧ (h32 236 6) = 4)))) ∨ ((h22 236 8) = 0 ∧ tk_kd tB tn (tk_nx tB tn tp) ≠ 2 ∧ (h32 236 8) = 1 ∧ (h32 236 9) = tk_st tB tn (tk_nx tB tn tp)) ∨ ((h22 236 8) = 0 ∧ tk_kd tB tn (tk_nx tB tn tp) = 2 ∧ (tk_nb tB tn (tk_nx tB tn tp) < 1 ∨ 6 < tk_nb tB tn (tk_nx tB tn tp)) ∧ (h32 236 8) = 2 ∧ (h32 236 9) = tk_st tB tn (tk_nx tB tn tp))) (p32_1 : (h22 236 4) ≤ (h32 236 4)) (p32_2 : (h32 236 4) ≤ (h22 236 3)) (p32_3 : 1 ≤ (h32 236 8) ∨ (h22 236 8) = 0) (p32_4 : 1 ≤ (h32 236 8) ∨ (1 ≤ z35 ∧ z35 ≤ 6)) (p32_5 : 1 ≤ (h32 236 8) ∨ (h22 236 6) = 2) => ?_)
    have F37 := F23.then (by decide +kernel) u32
    have e38 : h22 236 9 = h 236 9 := (u22 236 9 rfl)
    have b39 := gi_b (lo := 0) (hi := 5) g32 236 8 rfl
    have b40 := gi_b (lo := -2147483648) (hi := 2147483647) g32 236 9 rfl
    have b41 := gi_b (lo := 0) (hi := 800) g32 236 4 rfl
    have b42 := gi_b (lo := 0) (hi := 800) g32 236 5 rfl
    have b43 := gi_b (lo := 0) (hi := 4) g32 236 6 rfl
    have b44 := gi_b (lo := -9223372036854775808) (hi := 9223372036854775807) g32 236 12 rfl
    have b45 := gi_b (lo := 0) (hi := 999) g32 236 7 rfl
    refine wk_i ?_
    rcases p32_0 with p32_0 | p32_0 | p32_0 | p32_0
    ·
      exfalso; omega
    ·
      have tk46 := p32_0.2.2.2.2.2.2.2
      have tN47 := @tk_nx_b tB tn (tk_nx tB tn (tk_nx tB tn tp)) (by omega) (by omega)
      refine wr_is (k0 := 239) (a := 16) (f := 16) (x := z35) (bl := 0) (bh := 999) (nx := 33) (r1 := 0) (r2 := 0) (r3 := 0) rfl (by decide) rfl (by omega) (by omega) (by decide) g32 rfl (by omega) (fun h48 g48 w48 u48 => ?_)
      have F49 := F37.then rfl u48
      refine wi_aload_n (i := 0) (x := 236) (nx := 34) (r1 := 0) (r2 := 0) (r3 := 0) rfl rfl ?_
      refine wr_V (k0 := 236) (rest := []) (as := [.ref 236]) (nx := 37) (r1 := 219) (r2 := 0) (r3 := 11) rfl rfl rfl (of_decide_eq_true rfl) rfl rfl (by decide) rfl rfl (of_decide_eq_true rfl) (of_decide_eq_true rfl) ?_
      refine wi_aload_n (i := 0) (x := 236) (nx := 1) (r1 := 0) (r2 := 0) (r3 := 0) rfl rfl ?_
      refine wr_gi0 (k0 := 236) (x := h32 236 8) (nx := 4) (r1 := 11) (r2 := 8) (r3 := 0) rfl rfl (by decide) rfl ⟨rfl, rfl⟩ rfl (u48 236 8 rfl) ?_
      refine wi_if (cd := .ne) (nx := 7) (r1 := 11) (r2 := 0) (r3 := 0) rfl (by omega) (fun (q50 : (h32 236 8) ≠ 0) => by exfalso; omega) (fun (q50 : ¬ ((h32 236 8) ≠ 0)) => ?_)
      refine wi_iconst (n := 1) (nx := 8) (r1 := 0) (r2 := 0) (r3 := 0) rfl ?_
      refine wi_goto (nx := 11) (r1 := 12) (r2 := 0) (r3 := 0) rfl ?_
      refine wi_zreturn (nx := 13) (r1 := 0) (r2 := 0) (r3 := 0) rfl rfl (by omega) ?_
      refine wk_i ?_
      refine wi_if (cd := .eq) (nx := 40) (r1 := 50) (r2 := 0) (r3 := 0) rfl (by omega) (fun (q51 : 1 = 0) => by exfalso; omega) (fun (q51 : ¬ (1 = 0)) => ?_)
      refine wi_aload_n (i := 0) (x := 236) (nx := 41) (r1 := 0) (r2 := 0) (r3 := 0) rfl rfl ?_
      refine wr_gr (k0 := 236) (x := 239) (nx := 44) (r1 := 11) (r2 := 14) (r3 := 0) rfl rfl (by decide) rfl ⟨rfl, rfl⟩ rfl ?_
      refine wi_iconst (n := 1) (nx := 45) (r1 := 0) (r2 := 0) (r3 := 0) rfl ?_
      refine wi_dup2 (nx := 46) (r1 := 0) (r2 := 0) (r3 := 0) rfl rfl rfl ?_
      refine wr_ia (k0 := 239) (a := 1) (f := 1) (x := 1) (nx := 47) (r1 := 0) (r2 := 0) (r3 := 0) rfl (by decide) rfl (by omega) (by omega) (by decide) ((u48 239 1 rfl).trans ((u32 239 1 rfl).trans ((u22 239 1 rfl).trans q18))) ?_
      refine wi_iconst (n := 1) (nx := 48) (r1 := 0) (r2 := 0) (r3 := 0) rfl ?_
      refine wr_addL (2) (nx := 49) (r1 := 0) (r2 := 0) (r3 := 0) rfl (by decide) ?_
      refine wr_is (k0 := 239) (a := 1) (f := 1) (x := 2) (bl := 0) (bh := 4) (nx := 50) (r1 := 0) (r2 := 0) (r3 := 0) rfl (by decide) rfl (by omega) (by omega) (by decide) g48 rfl (by omega) (fun h52 g52 w52 u52 => ?_)
      have F53 := F49.then rfl u52
      refine wi_return (nx := 51) (r1 := 0) (r2 := 0) (r3 := 0) rfl rfl ?_
      have e54 : h52 236 4 = h32 236 4 := ((u52 236 4 rfl).trans (u48 236 4 rfl))
      have e55 : h52 236 8 = h32 236 8 := ((u52 236 8 rfl).trans (u48 236 8 rfl))
      have e56 : h52 239 5 = h 239 5 := ((u52 239 5 rfl).trans ((u48 239 5 rfl).trans ((u32 239 5 rfl).trans (u22 239 5 rfl))))
      have e57 : h52 239 7 = h 239 7 := ((u52 239 7 rfl).trans ((u48 239 7 rfl).trans ((u32 239 7 rfl).trans (u22 239 7 rfl))))
      have e58 : h52 239 15 = h 239 15 := ((u52 239 15 rfl).trans ((u48 239 15 rfl).trans ((u32 239 15 rfl).trans (u22 239 15 rfl))))
      have e59 : h52 239 16 = z35 := ((u52 239 16 rfl).trans w48)
      have e60 : h52 239 17 = h 239 17 := ((u52 239 17 rfl).trans ((u48 239 17 rfl).trans ((u32 239 17 rfl).trans (u22 239 17 rfl))))
      have e61 : h52 239 18 = h 239 18 := ((u52 239 18 rfl).trans ((u48 239 18 rfl).trans ((u32 239 18 rfl).trans (u22 239 18 rfl))))
      have e62 : h52 236 9 = h32 236 9 := ((u52 236 9 rfl).trans (u48 236 9 rfl))
      have e63 : h52 239 0 = h 239 0 := ((u52 239 0 rfl).trans ((u48 239 0 rfl).trans ((u32 239 0 rfl).trans (u22 239 0 rfl))))
      have e64 : h52 239 1 = 2 := w52
      have e65 : h52 239 2 = h 239 2 := ((u52 239 2 rfl).trans ((u48 239 2 rfl).trans ((u32 239 2 rfl).trans (u22 239 2 rfl))))
      have b66 := gi_b (lo := 0) (hi := 999) g 239 3 rfl
      have e67 : h52 239 3 = h 239 3 := ((u52 239 3 rfl).trans ((u48 239 3 rfl).trans ((u32 239 3 rfl).trans (u22 239 3 rfl))))
      have b68 := gi_b (lo := 0) (hi := 999) g 239 4 rfl
      have e69 : h52 239 4 = h 239 4 := ((u52 239 4 rfl).trans ((u48 239 4 rfl).trans ((u32 239 4 rfl).trans (u22 239 4 rfl))))
      have b70 := gi_b (lo := 0) (hi := 999) g 239 6 rfl
      have e71 : h52 239 6 = h 239 6 := ((u52 239 6 rfl).trans ((u48 239 6 rfl).trans ((u32 239 6 rfl).trans (u22 239 6 rfl))))
      have b72 := gi_b (lo := 0) (hi := 999) g 239 8 rfl
      have e73 : h52 239 8 = h 239 8 := ((u52 239 8 rfl).trans ((u48 239 8 rfl).trans ((u32 239 8 rfl).trans (u22 239 8 rfl))))
      have b74 := gi_b (lo := 0) (hi := 999) g 239 9 rfl
      have e75 : h52 239 9 = h 239 9 := ((u52 239 9 rfl).trans ((u48 239 9 rfl).trans ((u32 239 9 rfl).trans (u22 239 9 rfl))))
      have b76 := gi_b (lo := 0) (hi := 1) g 236 23 rfl
      have e77 : h52 236 23 = h 236 23 := ((u52 236 23 rfl).trans ((u48 236 23 rfl).trans ((u32 236 23 rfl).trans (u22 236 23 rfl))))
      have b78 := gi_b (lo := 0) (hi := 1) g 236 24 rfl
      have e79 : h52 236 24 = h 236 24 := ((u52 236 24 rfl).trans ((u48 236 24 rfl).trans ((u32 236 24 rfl).trans (u22 236 24 rfl))))
      have b80 := gi_b (lo := 0) (hi := 1) g 236 25 rfl
      have e81 : h52 236 25 = h 236 25 := ((u52 236 25 rfl).trans ((u48 236 25 rfl).trans ((u32 236 25 rfl).trans (u22 236 25 rfl))))
      have b82 := gi_b (lo := 0) (hi := 1) g 236 26 rfl
      have e83 : h52 236 26 = h 236 26 := ((u52 236 26 rfl).trans ((u48 236 26 rfl).trans ((u32 236 26 rfl).trans (u22 236 26 rfl))))
      have e84 : h52 236 5 = h32 236 5 := ((u52 236 5 rfl).trans (u48 236 5 rfl))
      have e85 : h52 236 6 = h32 236 6 := ((u52 236 6 rfl).trans (u48 236 6 rfl))
      have e86 : h52 236 7 = h32 236 7 := ((u52 236 7 rfl).trans (u48 236 7 rfl))
      have e87 : h52 236 12 = h32 236 12 := ((u52 236 12 rfl).trans (u48 236 12 rfl))
      exact k h52 g52 F53 (show (h 236 4) ≤ (h52 236 4) by omega) (show (h52 236 4) ≤ (h 236 3) by omega) (show 1 ≤ (h52 236 8) ∨ ((h52 239 5) ≤ 9 ∧ 1 ≤ (h52 239 5) ∧ (h52 239 7) ≤ 3 ∧ (h52 239 15) ≤ 6 ∧ (h52 239 16) ≤ 6 ∧ (h52 239 17) ≤ 6 ∧ (h52 239 18) ≤ 6) by omega) (show (h52 236 8) ≠ 0 ∨ (h52 236 9) = -1 by omega) (by unfold tk_lane tk_num; (try dsimp only); (repeat (first | rw [if_pos (by omega)] | rw [if_neg (by omega)])); (repeat ((first | unfold tk_num); (try dsimp only); (repeat (first | rw [if_pos (by omega)] | rw [if_neg (by omega)])))); exact tk_ORs (by omega) (by first | assumption | exact tk_mv (by assumption) (by omega) (by omega) (by omega) (by omega) (by omega)) (CVr.lane (c := (h 239 1).toNat) xq1 (by omega) (by omega) (fun i _ _ => ((u52 239 i (fn_i (by omega) fn_0)).trans ((u48 239 i (fn_i (by omega) fn_0)).trans ((u32 239 i (fo_nk rfl)).trans (u22 239 i (fo_nk rfl)))))) (fun i _ _ => ((u52 236 i (fn_a (by omega) fn_0)).trans ((u48 236 i (fn_a (by omega) fn_0)).trans ((u32 236 i (fn_i (by omega) (fn_i (by omega) (fn_i (by omega) (fn_i (by omega) (fn_i (by omega) (fn_i (by omega) (fn_i (by omega) fn_0)))))))).trans (u22 236 i (fn_i (by omega) (fn_i (by omega) (fn_i (by omega) (fn_i (by omega) (fn_i (by omega) fn_0)))))))))) (by rw [show 15 + (h 239 1).toNat = 16 by omega]; exact ((u52 239 16 rfl).trans w48).trans (by omega)) (fun i => ((u52 244 i (fn_a (by omega) fn_0)).trans ((u48 244 i (fn_a (by omega) fn_0)).trans ((u32 244 i (fo_nk rfl)).trans (u22 244 i (fo_nk rfl)))))) (by omega) (by omega) (by omega)))
    ·
      refine wr_is (k0 := 239) (a := 16) (f := 16) (x := z35) (bl := 0) (bh := 999) (nx := 33) (r1 := 0) (r2 := 0) (r3 := 0) rfl (by decide) rfl (by omega) (by omega) (by decide) g32 rfl (by omega) (fun h46 g46 w46 u46 => ?_)
      have F47 := F37.then rfl u46
      refine wi_aload_n (i := 0) (x := 236) (nx := 34) (r1 := 0) (r2 := 0) (r3 := 0) rfl rfl ?_
      refine wr_V (k0 := 236) (rest := []) (as := [.ref 236]) (nx := 37) (r1 := 219) (r2 := 0) (r3 := 11) rfl rfl rfl (of_decide_eq_true rfl) rfl rfl (by decide) rfl rfl (of_decide_eq_true rfl) (of_decide_eq_true rfl) ?_
      refine wi_aload_n (i := 0) (x := 236) (nx := 1) (r1 := 0) (r2 := 0) (r3 := 0) rfl rfl ?_
      refine wr_gi0 (k0 := 236) (x := h32 236 8) (nx := 4) (r1 := 11) (r2 := 8) (r3 := 0) rfl rfl (by decide) rfl ⟨rfl, rfl⟩ rfl (u46 236 8 rfl) ?_
      refine wi_if (cd := .ne) (nx := 7) (r1 := 11) (r2 := 0) (r3 := 0) rfl (by omega) (fun (q48 : (h32 236 8) ≠ 0) => ?_) (fun (q48 : ¬ ((h32 236 8) ≠ 0)) => by exfalso; omega)
      refine wi_iconst (n := 0) (nx := 12) (r1 := 0) (r2 := 0) (r3 := 0) rfl ?_
      refine wi_zreturn (nx := 13) (r1 := 0) (r2 := 0) (r3 := 0) rfl rfl (by omega) ?_
      refine wk_i ?_
      refine wi_if (cd := .eq) (nx := 40) (r1 := 50) (r2 := 0) (r3 := 0) rfl (by omega) (fun (q49 : 0 = 0) => ?_) (fun (q49 : ¬ (0 = 0)) => by exfalso; omega)
      refine wi_return (nx := 51) (r1 := 0) (r2 := 0) (r3 := 0) rfl rfl ?_
      have e50 : h46 236 4 = h32 236 4 := (u46 236 4 rfl)
      have e51 : h46 236 8 = h32 236 8 := (u46 236 8 rfl)
      have e52 : h46 239 5 = h 239 5 := ((u46 239 5 rfl).trans ((u32 239 5 rfl).trans (u22 239 5 rfl)))
      have e53 : h46 239 7 = h 239 7 := ((u46 239 7 rfl).trans ((u32 239 7 rfl).trans (u22 239 7 rfl)))
      have e54 : h46 239 15 = h 239 15 := ((u46 239 15 rfl).trans ((u32 239 15 rfl).trans (u22 239 15 rfl)))
      have e55 : h46 239 16 = z35 := w46
      have e56 : h46 239 17 = h 239 17 := ((u46 239 17 rfl).trans ((u32 239 17 rfl).trans (u22 239 17 rfl)))
      have e57 : h46 239 18 = h 239 18 := ((u46 239 18 rfl).trans ((u32 239 18 rfl).trans (u22 239 18 rfl)))
      have e58 : h46 236 9 = h32 236 9 := (u46 236 9 rfl)
      exact k h46 g46 F47 (show (h 236 4) ≤ (h46 236 4) by omega) (show (h46 236 4) ≤ (h 236 3) by omega) (show 1 ≤ (h46 236 8) ∨ ((h46 239 5) ≤ 9 ∧ 1 ≤ (h46 239 5) ∧ (h46 239 7) ≤ 3 ∧ (h46 239 15) ≤ 6 ∧ (h46 239 16) ≤ 6 ∧ (h46 239 17) ≤ 6 ∧ (h46 239 18) ≤ 6) by omega) (show (h46 236 8) ≠ 0 ∨ (h46 236 9) = -1 by omega) (by unfold tk_lane tk_num; (try dsimp only); (repeat (first | rw [if_pos (by omega)] | rw [if_neg (by omega)])); (repeat ((first | unfold tk_num); (try dsimp only); (repeat (first | rw [if_pos (by omega)] | rw [if_neg (by omega)])))); first | exact tk_ORe (by omega) (by omega) (by omega) | ((repeat' split) <;> (first | exact tk_ORe (by omega) (by omega) (by omega) | (exfalso; omega))))
    ·
      refine wr_is (k0 := 239) (a := 16) (f := 16) (x := z35) (bl := 0) (bh := 999) (nx := 33) (r1 := 0) (r2 := 0) (r3 := 0) rfl (by decide) rfl (by omega) (by omega) (by decide) g32 rfl (by omega) (fun h46 g46 w46 u46 => ?_)
      have F47 := F37.then rfl u46
      refine wi_aload_n (i := 0) (x := 236) (nx := 34) (r1 := 0) (r2 := 0) (r3 := 0) rfl rfl ?_
      refine wr_V (k0 := 236) (rest := []) (as := [.ref 236]) (nx := 37) (r1 := 219) (r2 := 0) (r3 := 11) rfl rfl rfl (of_decide_eq_true rfl) rfl rfl (by decide) rfl rfl (of_decide_eq_true rfl) (of_decide_eq_true rfl) ?_
      refine wi_aload_n (i := 0) (x := 236) (nx := 1) (r1 := 0) (r2 := 0) (r3 := 0) rfl rfl ?_
      refine wr_gi0 (k0 := 236) (x := h32 236 8) (nx := 4) (r1 := 11) (r2 := 8) (r3 := 0) rfl rfl (by decide) rfl ⟨rfl, rfl⟩ rfl (u46 236 8 rfl) ?_
      refine wi_if (cd := .ne) (nx := 7) (r1 := 11) (r2 := 0) (r3 := 0) rfl (by omega) (fun (q48 : (h32 236 8) ≠ 0) => ?_) (fun (q48 : ¬ ((h32 236 8) ≠ 0)) => by exfalso; omega)
      refine wi_iconst (n := 0) (nx := 12) (r1 := 0) (r2 := 0) (r3 := 0) rfl ?_
      refine wi_zreturn (nx := 13) (r1 := 0) (r2 := 0) (r3 := 0) rfl rfl (by omega) ?_
      refine wk_i ?_
      refine wi_if (cd := .eq) (nx := 40) (r1 := 50) (r2 := 0) (r3 := 0) rfl (by omega) (fun (q49 : 0 = 0) => ?_) (fun (q49 : ¬ (0 = 0)) => by exfalso; omega)
      refine wi_return (nx := 51) (r1 := 0) (r2 := 0) (r3 := 0) rfl rfl ?_
      have e50 : h46 236 4 = h32 236 4 := (u46 236 4 rfl)
      have e51 : h46 236 8 = h32 236 8 := (u46 236 8 rfl)
      have e52 : h46 239 5 = h 239 5 := ((u46 239 5 rfl).trans ((u32 239 5 rfl).trans (u22 239 5 rfl)))
      have e53 : h46 239 7 = h 239 7 := ((u46 239 7 rfl).trans ((u32 239 7 rfl).trans (u22 239 7 rfl)))
      have e54 : h46 239 15 = h 239 15 := ((u46 239 15 rfl).trans ((u32 239 15 rfl).trans (u22 239 15 rfl)))
      have e55 : h46 239 16 = z35 := w46
      have e56 : h46 239 17 = h 239 17 := ((u46 239 17 rfl).trans ((u32 239 17 rfl).trans (u22 239 17 rfl)))
      have e57 : h46 239 18 = h 239 18 := ((u46 239 18 rfl).trans ((u32 239 18 rfl).trans (u22 239 18 rfl)))
      have e58 : h46 236 9 = h32 236 9 := (u46 236 9 rfl)
      exact k h46 g46 F47 (show (h 236 4) ≤ (h46 236 4) by omega) (show (h46 236 4) ≤ (h 236 3) by omega) (show 1 ≤ (h46 236 8) ∨ ((h46 239 5) ≤ 9 ∧ 1 ≤ (h46 239 5) ∧ (h46 239 7) ≤ 3 ∧ (h46 239 15) ≤ 6 ∧ (h46 239 16) ≤ 6 ∧ (h46 239 17) ≤ 6 ∧ (h46 239 18) ≤ 6) by omega) (show (h46 236 8) ≠ 0 ∨ (h46 236 9) = -1 by omega) (by unfold tk_lane tk_num; (try dsimp only); (repeat (first | rw [if_pos (by omega)] | rw [if_neg (by omega)])); (repeat ((first | unfold tk_num); (try dsimp only); (repeat (first | rw [if_pos (by omega)] | rw [if_neg (by omega)])))); first | exact tk_ORe (by omega) (by omega) (by omega) | ((repeat' split) <;> (first | exact tk_ORe (by omega) (by omega) (by omega) | (exfalso; omega))))
  ·
    refine wr_ia (k0 := 239) (a := 1) (f := 1) (x := 2) (nx := 6) (r1 := 0) (r2 := 0) (r3 := 0) rfl (by decide) rfl (by omega) (by omega) (by decide) q18 ?_
    refine wi_istore_n (i := 1) (e := 2) (lo2 := [(1, vi 2), (0, .ref 236)]) (nx := 7) (r1 := 0) (r2 := 0) (r3 := 0) rfl rfl ?_
    refine wi_aload_n (i := 0) (x := 236) (nx := 8) (r1 := 0) (r2 := 0) (r3 := 0) rfl rfl ?_
    refine wi_iconst (n := 1) (nx := 9) (r1 := 0) (r2 := 0) (r3 := 0) rfl ?_
    refine wi_iconst (n := 4) (nx := 10) (r1 := 0) (r2 := 0) (r3 := 0) rfl ?_
    refine wr_V (k0 := 236) (rest := []) (as := [.ref 236, vi 1, vi 4]) (nx := 13) (r1 := 223) (r2 := 2) (r3 := 11) rfl rfl rfl (of_decide_eq_true rfl) rfl rfl (by decide) rfl rfl (of_decide_eq_true rfl) (of_decide_eq_true rfl) ?_
    refine wi_aload_n (i := 0) (x := 236) (nx := 1) (r1 := 0) (r2 := 0) (r3 := 0) rfl rfl ?_
    refine wr_gr (k0 := 236) (x := 239) (nx := 4) (r1 := 11) (r2 := 14) (r3 := 0) rfl rfl (by decide) rfl ⟨rfl, rfl⟩ rfl ?_
    refine wi_iload_n (i := 1) (e := 1) (nx := 5) (r1 := 0) (r2 := 0) (r3 := 0) rfl rfl ?_
    refine wr_ia (k0 := 239) (a := 1) (f := 1) (x := 2) (nx := 6) (r1 := 0) (r2 := 0) (r3 := 0) rfl (by decide) rfl (by omega) (by omega) (by decide) q18 ?_
    refine wi_iload_n (i := 2) (e := 4) (nx := 7) (r1 := 0) (r2 := 0) (r3 := 0) rfl rfl ?_
    refine wi_icmp (cd := .ne) (nx := 10) (r1 := 15) (r2 := 0) (r3 := 0) rfl (by omega) (by omega) (fun (q19 : 2 ≠ 4) => ?_) (fun (q19 : ¬ (2 ≠ 4)) => by exfalso; omega)
    refine wi_aload_n (i := 0) (x := 236) (nx := 16) (r1 := 0) (r2 := 0) (r3 := 0) rfl rfl ?_
    refine wr_V (k0 := 236) (rest := []) (as := [.ref 236]) (nx := 19) (r1 := 219) (r2 := 0) (r3 := 11) rfl rfl rfl (of_decide_eq_true rfl) rfl rfl (by decide) rfl rfl (of_decide_eq_true rfl) (of_decide_eq_true rfl) ?_
    refine wi_aload_n (i := 0) (x := 236) (nx := 1) (r1 := 0) (r2 := 0) (r3 := 0) rfl rfl ?_
    refine wr_gi0 (k0 := 236) (x := h 236 8) (nx := 4) (r1 := 11) (r2 := 8) (r3 := 0) rfl rfl (by decide) rfl ⟨rfl, rfl⟩ rfl rfl ?_
    refine wi_if (cd := .ne) (nx := 7) (r1 := 11) (r2 := 0) (r3 := 0) rfl (by omega) (fun (q20 : (h 236 8) ≠ 0) => by exfalso; omega) (fun (q20 : ¬ ((h 236 8) ≠ 0)) => ?_)
    refine wi_iconst (n := 1) (nx := 8) (r1 := 0) (r2 := 0) (r3 := 0) rfl ?_
    refine wi_goto (nx := 11) (r1 := 12) (r2 := 0) (r3 := 0) rfl ?_
    refine wi_zreturn (nx := 13) (r1 := 0) (r2 := 0) (r3 := 0) rfl rfl (by omega) ?_
    refine wk_i ?_
    refine wi_if (cd := .eq) (nx := 22) (r1 := 26) (r2 := 0) (r3 := 0) rfl (by omega) (fun (q21 : 1 = 0) => by exfalso; omega) (fun (q21 : ¬ (1 = 0)) => ?_)
    refine wi_aload_n (i := 0) (x := 236) (nx := 23) (r1 := 0) (r2 := 0) (r3 := 0) rfl rfl ?_
    refine wr_V (k0 := 236) (rest := []) (as := [.ref 236]) (nx := 26) (r1 := 215) (r2 := 0) (r3 := 11) rfl rfl rfl (of_decide_eq_true rfl) rfl rfl (by decide) rfl rfl (of_decide_eq_true rfl) (of_decide_eq_true rfl) ?_
    refine ct_215_236 hcr  g   (show (h 236 4) ≤ (h 236 3) by omega) (show (h 236 4) = (tk_nx tB tn tp) by omega) (show 0 ≤ (tk_nx tB tn tp) by omega) (show (tk_nx tB tn tp) ≤ tn by omega) xq0 (fun h22 g22 u22 (p22_0 : (h 236 4) ≤ (h22 236 4)) (p22_1 : (h22 236 4) ≤ (h 236 3)) (p22_2 : ((h22 236 4) = tk_nx tB tn (tk_nx tB tn tp) ∧ (h22 236 5) = tk_st tB tn (tk_nx tB tn tp) ∧ ((tk_kd tB tn (tk_nx tB tn tp) = 0 ∧ (h22 236 6) = 0) ∨ (tk_kd tB tn (tk_nx tB tn tp) = 1 ∧ (h22 236 6) = 1 ∧ (h22 236 12) = tk_sw tB tn (tk_nx tB tn tp)) ∨ (tk_kd tB tn (tk_nx tB tn tp) = 2 ∧ (h22 236 6) = 2 ∧ (h22 236 7) = tk_nb tB tn (tk_nx tB tn tp)) ∨ (tk_kd tB tn (tk_nx tB tn tp) = 3 ∧ (h22 236 6) = 3 ∧ (h22 236 7) = 59) ∨ (tk_kd tB tn (tk_nx tB tn tp) = 4 ∧ (h22 236 6) = 3 ∧ (h22 236 7) = 40) ∨ (tk_kd tB tn (tk_nx tB tn tp) = 5 ∧ (h22 236 6) = 3 ∧ (h22 236 7) = 41) ∨ (tk_kd tB tn (tk_nx tB tn tp) = 6 ∧ (h22 236 6) = 4)))) (p22_3 : (tk_nx tB tn tp) ≤ tk_nx tB tn (tk_nx tB tn tp) ∧ tk_nx tB tn (tk_nx tB tn tp) ≤ tn) => ?_)
    have F23 := F0.then (by decide +kernel) u22
    have b24 := gi_b (lo := 0) (hi := 800) g22 236 4 rfl
    have b25 := gi_b (lo := 0) (hi := 800) g22 236 5 rfl
    have b26 := gi_b (lo := 0) (hi := 4) g22 236 6 rfl
    have b27 := gi_b (lo := -9223372036854775808) (hi := 9223372036854775807) g22 236 12 rfl
    have b28 := gi_b (lo := 0) (hi := 999) g22 236 7 rfl
    have tN29 := @tk_nx_b tB tn (tk_nx tB tn tp) (by omega) (by omega)
    refine wk_n ?_
    refine wi_aload_n (i := 0) (x := 236) (nx := 27) (r1 := 0) (r2 := 0) (r3 := 0) rfl rfl ?_
    refine wr_V (k0 := 236) (rest := []) (as := [.ref 236]) (nx := 30) (r1 := 219) (r2 := 0) (r3 := 11) rfl rfl rfl (of_decide_eq_true rfl) rfl rfl (by decide) rfl rfl (of_decide_eq_true rfl) (of_decide_eq_true rfl) ?_
    refine wi_aload_n (i := 0) (x := 236) (nx := 1) (r1 := 0) (r2 := 0) (r3 := 0) rfl rfl ?_
    refine wr_gi0 (k0 := 236) (x := h 236 8) (nx := 4) (r1 := 11) (r2 := 8) (r3 := 0) rfl rfl (by decide) rfl ⟨rfl, rfl⟩ rfl (u22 236 8 rfl) ?_
    refine wi_if (cd := .ne) (nx := 7) (r1 := 11) (r2 := 0) (r3 := 0) rfl (by omega) (fun (q30 : (h 236 8) ≠ 0) => by exfalso; omega) (fun (q30 : ¬ ((h 236 8) ≠ 0)) => ?_)
    refine wi_iconst (n := 1) (nx := 8) (r1 := 0) (r2 := 0) (r3 := 0) rfl ?_
    refine wi_goto (nx := 11) (r1 := 12) (r2 := 0) (r3 := 0) rfl ?_
    refine wi_zreturn (nx := 13) (r1 := 0) (r2 := 0) (r3 := 0) rfl rfl (by omega) ?_
    refine wk_i ?_
    refine wi_zreturn (nx := 31) (r1 := 0) (r2 := 0) (r3 := 0) rfl rfl (by omega) ?_
    refine wk_i ?_
    refine wi_if (cd := .ne) (nx := 16) (r1 := 17) (r2 := 0) (r3 := 0) rfl (by omega) (fun (q31 : 1 ≠ 0) => ?_) (fun (q31 : ¬ (1 ≠ 0)) => by exfalso; omega)
    refine wi_aload_n (i := 0) (x := 236) (nx := 18) (r1 := 0) (r2 := 0) (r3 := 0) rfl rfl ?_
    refine wr_gr (k0 := 236) (x := 239) (nx := 21) (r1 := 11) (r2 := 14) (r3 := 0) rfl rfl (by decide) rfl ⟨rfl, rfl⟩ rfl ?_
    refine wi_bipush (n := 15) (nx := 23) (r1 := 0) (r2 := 0) (r3 := 0) rfl (by decide) ?_
    refine wi_iload_n (i := 1) (e := 2) (nx := 24) (r1 := 0) (r2 := 0) (r3 := 0) rfl rfl ?_
    refine wr_addL (17) (nx := 25) (r1 := 0) (r2 := 0) (r3 := 0) rfl (by decide) ?_
    refine wi_aload_n (i := 0) (x := 236) (nx := 26) (r1 := 0) (r2 := 0) (r3 := 0) rfl rfl ?_
    refine wi_iconst (n := 1) (nx := 27) (r1 := 0) (r2 := 0) (r3 := 0) rfl ?_
    refine wi_bipush (n := 6) (nx := 29) (r1 := 0) (r2 := 0) (r3 := 0) rfl (by decide) ?_
    refine wr_V (k0 := 236) (rest := [vi 17, .ref 239]) (as := [.ref 236, vi 1, vi 6]) (nx := 32) (r1 := 231) (r2 := 2) (r3 := 11) rfl rfl rfl (of_decide_eq_true rfl) rfl rfl (by decide) rfl rfl (of_decide_eq_true rfl) (of_decide_eq_true rfl) ?_
    have e33 : h22 236 3 = h 236 3 := (u22 236 3 rfl)
    have e34 : h22 236 8 = h 236 8 := (u22 236 8 rfl)
    have rb36 := RefB.fr u22 rfl xq0
    refine ct_231_236 hcr  g22 1 6 (by omega) (by omega) (show (h22 236 4) ≤ (h22 236 3) by omega) (show 0 ≤ (tk_nx tB tn tp) by omega) (show (tk_nx tB tn tp) ≤ tn by omega) (show (tk_nx tB tn tp) ≤ tk_nx tB tn (tk_nx tB tn tp) ∧ tk_nx tB tn (tk_nx tB tn tp) ≤ tn by omega) (show 1 ≤ (h22 236 8) ∨ ((h22 236 4) = tk_nx tB tn (tk_nx tB tn tp) ∧ (h22 236 5) = tk_st tB tn (tk_nx tB tn tp) ∧ ((tk_kd tB tn (tk_nx tB tn tp) = 0 ∧ (h22 236 6) = 0) ∨ (tk_kd tB tn (tk_nx tB tn tp) = 1 ∧ (h22 236 6) = 1 ∧ (h22 236 12) = tk_sw tB tn (tk_nx tB tn tp)) ∨ (tk_kd tB tn (tk_nx tB tn tp) = 2 ∧ (h22 236 6) = 2 ∧ (h22 236 7) = tk_nb tB tn (tk_nx tB tn tp)) ∨ (tk_kd tB tn (tk_nx tB tn tp) = 3 ∧ (h22 236 6) = 3 ∧ (h22 236 7) = 59) ∨ (tk_kd tB tn (tk_nx tB tn tp) = 4 ∧ (h22 236 6) = 3 ∧ (h22 236 7) = 40) ∨ (tk_kd tB tn (tk_nx tB tn tp) = 5 ∧ (h22 236 6) = 3 ∧ (h22 236 7) = 41) ∨ (tk_kd tB tn (tk_nx tB tn tp) = 6 ∧ (h22 236 6) = 4))) from (Or.inr (show ((h22 236 4) = tk_nx tB tn (tk_nx tB tn tp) ∧ (h22 236 5) = tk_st tB tn (tk_nx tB tn tp) ∧ ((tk_kd tB tn (tk_nx tB tn tp) = 0 ∧ (h22 236 6) = 0) ∨ (tk_kd tB tn (tk_nx tB tn tp) = 1 ∧ (h22 236 6) = 1 ∧ (h22 236 12) = tk_sw tB tn (tk_nx tB tn tp)) ∨ (tk_kd tB tn (tk_nx tB tn tp) = 2 ∧ (h22 236 6) = 2 ∧ (h22 236 7) = tk_nb tB tn (tk_nx tB tn tp)) ∨ (tk_kd tB tn (tk_nx tB tn tp) = 3 ∧ (h22 236 6) = 3 ∧ (h22 236 7) = 59) ∨ (tk_kd tB tn (tk_nx tB tn tp) = 4 ∧ (h22 236 6) = 3 ∧ (h22 236 7) = 40) ∨ (tk_kd tB tn (tk_nx tB tn tp) = 5 ∧ (h22 236 6) = 3 ∧ (h22 236 7) = 41) ∨ (tk_kd tB tn (tk_nx tB tn tp) = 6 ∧ (h22 236 6) = 4))) by first | assumption | exact tk_mv (by assumption) (by omega) (by omega) (by omega) (by omega) (by omega)))) rb36 (fun h32 z35 g32 u32 (fz35 : 0 ≤ z35 ∧ z35 ≤ 999) (p32_0 : (1 ≤ (h22 236 8) ∧ (h32 236 8) = (h22 236 8) ∧ (h32 236 9) = (h22 236 9)) ∨ ((h22 236 8) = 0 ∧ tk_kd tB tn (tk_nx tB tn tp) = 2 ∧ 1 ≤ tk_nb tB tn (tk_nx tB tn tp) ∧ tk_nb tB tn (tk_nx tB tn tp) ≤ 6 ∧ z35 = tk_nb tB tn (tk_nx tB tn tp) ∧ (h32 236 8) = (h22 236 8) ∧ (h32 236 9) = (h22 236 9) ∧ ((h32 236 4) = tk_nx tB tn (tk_nx tB tn (tk_nx tB tn tp)) ∧ (h32 236 5) = tk_st tB tn (tk_nx tB tn (tk_nx tB tn tp)) ∧ ((tk_kd tB tn (tk_nx tB tn (tk_nx tB tn tp)) = 0 ∧ (h32 236 6) = 0) ∨ (tk_kd tB tn (tk_nx tB tn (tk_nx tB tn tp)) = 1 ∧ (h32 236 6) = 1 ∧ (h32 236 12) = tk_sw tB tn (tk_nx tB tn (tk_nx tB tn tp))) ∨ (tk_kd tB tn (tk_nx tB tn (tk_nx tB tn tp)) = 2 ∧ (h32 236 6) = 2 ∧ (h32 236 7) = tk_nb tB tn (tk_nx tB tn (tk_nx tB tn tp))) ∨ (tk_kd tB tn (tk_nx tB tn (tk_nx tB tn tp)) = 3 ∧ (h32 236 6) = 3 ∧ (h32 236 7) = 59) ∨ (tk_kd tB tn (tk_nx tB tn (tk_nx tB tn tp)) = 4 ∧ (h32 236 6) = 3 ∧ (h32 236 7) = 40) ∨ (tk_kd tB tn (tk_nx tB tn (tk_nx tB tn tp)) = 5 ∧ (h32 236 6) = 3 ∧ (h32 236 7) = 41) ∨ (tk_kd tB tn (tk_nx tB tn (tk_nx tB tn tp)) = 6 ∧ (h32 236 6) = 4)))) ∨ ((h22 236 8) = 0 ∧ tk_kd tB tn (tk_nx tB tn tp) ≠ 2 ∧ (h32 236 8) = 1 ∧ (h32 236 9) = tk_st tB tn (tk_nx tB tn tp)) ∨ ((h22 236 8) = 0 ∧ tk_kd tB tn (tk_nx tB tn tp) = 2 ∧ (tk_nb tB tn (tk_nx tB tn tp) < 1 ∨ 6 < tk_nb tB tn (tk_nx tB tn tp)) ∧ (h32 236 8) = 2 ∧ (h32 236 9) = tk_st tB tn (tk_nx tB tn tp))) (p32_1 : (h22 236 4) ≤ (h32 236 4)) (p32_2 : (h32 236 4) ≤ (h22 236 3)) (p32_3 : 1 ≤ (h32 236 8) ∨ (h22 236 8) = 0) (p32_4 : 1 ≤ (h32 236 8) ∨ (1 ≤ z35 ∧ z35 ≤ 6)) (p32_5 : 1 ≤ (h32 236 8) ∨ (h22 236 6) = 2) => ?_)
    have F37 := F23.then (by decide +kernel) u32
    have e38 : h22 236 9 = h 236 9 := (u22 236 9 rfl)
    have b39 := gi_b (lo := 0) (hi := 5) g32 236 8 rfl
    have b40 := gi_b (lo := -2147483648) (hi := 2147483647) g32 236 9 rfl
    have b41 := gi_b (lo := 0) (hi := 800) g32 236 4 rfl
    have b42 := gi_b (lo := 0) (hi := 800) g32 236 5 rfl
    have b43 := gi_b (lo := 0) (hi := 4) g32 236 6 rfl
    have b44 := gi_b (lo := -9223372036854775808) (hi := 9223372036854775807) g32 236 12 rfl
    have b45 := gi_b (lo := 0) (hi := 999) g32 236 7 rfl
    refine wk_i ?_
    rcases p32_0 with p32_0 | p32_0 | p32_0 | p32_0
    ·
      exfalso; omega
    ·
      have tk46 := p32_0.2.2.2.2.2.2.2
      have tN47 := @tk_nx_b tB tn (tk_nx tB tn (tk_nx tB tn tp)) (by omega) (by omega)
      refine wr_is (k0 := 239) (a := 17) (f := 17) (x := z35) (bl := 0) (bh := 999) (nx := 33) (r1 := 0) (r2 := 0) (r3 := 0) rfl (by decide) rfl (by omega) (by omega) (by decide) g32 rfl (by omega) (fun h48 g48 w48 u48 => ?_)
      have F49 := F37.then rfl u48
      refine wi_aload_n (i := 0) (x := 236) (nx := 34) (r1 := 0) (r2 := 0) (r3 := 0) rfl rfl ?_
      refine wr_V (k0 := 236) (rest := []) (as := [.ref 236]) (nx := 37) (r1 := 219) (r2 := 0) (r3 := 11) rfl rfl rfl (of_decide_eq_true rfl) rfl rfl (by decide) rfl rfl (of_decide_eq_true rfl) (of_decide_eq_true rfl) ?_
      refine wi_aload_n (i := 0) (x := 236) (nx := 1) (r1 := 0) (r2 := 0) (r3 := 0) rfl rfl ?_
      refine wr_gi0 (k0 := 236) (x := h32 236 8) (nx := 4) (r1 := 11) (r2 := 8) (r3 := 0) rfl rfl (by decide) rfl ⟨rfl, rfl⟩ rfl (u48 236 8 rfl) ?_
      refine wi_if (cd := .ne) (nx := 7) (r1 := 11) (r2 := 0) (r3 := 0) rfl (by omega) (fun (q50 : (h32 236 8) ≠ 0) => by exfalso; omega) (fun (q50 : ¬ ((h32 236 8) ≠ 0)) => ?_)
      refine wi_iconst (n := 1) (nx := 8) (r1 := 0) (r2 := 0) (r3 := 0) rfl ?_
      refine wi_goto (nx := 11) (r1 := 12) (r2 := 0) (r3 := 0) rfl ?_
      refine wi_zreturn (nx := 13) (r1 := 0) (r2 := 0) (r3 := 0) rfl rfl (by omega) ?_
      refine wk_i ?_
      refine wi_if (cd := .eq) (nx := 40) (r1 := 50) (r2 := 0) (r3 := 0) rfl (by omega) (fun (q51 : 1 = 0) => by exfalso; omega) (fun (q51 : ¬ (1 = 0)) => ?_)
      refine wi_aload_n (i := 0) (x := 236) (nx := 41) (r1 := 0) (r2 := 0) (r3 := 0) rfl rfl ?_
      refine wr_gr (k0 := 236) (x := 239) (nx := 44) (r1 := 11) (r2 := 14) (r3 := 0) rfl rfl (by decide) rfl ⟨rfl, rfl⟩ rfl ?_
      refine wi_iconst (n := 1) (nx := 45) (r1 := 0) (r2 := 0) (r3 := 0) rfl ?_
      refine wi_dup2 (nx := 46) (r1 := 0) (r2 := 0) (r3 := 0) rfl rfl rfl ?_
      refine wr_ia (k0 := 239) (a := 1) (f := 1) (x := 2) (nx := 47) (r1 := 0) (r2 := 0) (r3 := 0) rfl (by decide) rfl (by omega) (by omega) (by decide) ((u48 239 1 rfl).trans ((u32 239 1 rfl).trans ((u22 239 1 rfl).trans q18))) ?_
      refine wi_iconst (n := 1) (nx := 48) (r1 := 0) (r2 := 0) (r3 := 0) rfl ?_
      refine wr_addL (3) (nx := 49) (r1 := 0) (r2 := 0) (r3 := 0) rfl (by decide) ?_
      refine wr_is (k0 := 239) (a := 1) (f := 1) (x := 3) (bl := 0) (bh := 4) (nx := 50) (r1 := 0) (r2 := 0) (r3 := 0) rfl (by decide) rfl (by omega) (by omega) (by decide) g48 rfl (by omega) (fun h52 g52 w52 u52 => ?_)
      have F53 := F49.then rfl u52
      refine wi_return (nx := 51) (r1 := 0) (r2 := 0) (r3 := 0) rfl rfl ?_
      have e54 : h52 236 4 = h32 236 4 := ((u52 236 4 rfl).trans (u48 236 4 rfl))
      have e55 : h52 236 8 = h32 236 8 := ((u52 236 8 rfl).trans (u48 236 8 rfl))
      have e56 : h52 239 5 = h 239 5 := ((u52 239 5 rfl).trans ((u48 239 5 rfl).trans ((u32 239 5 rfl).trans (u22 239 5 rfl))))
      have e57 : h52 239 7 = h 239 7 := ((u52 239 7 rfl).trans ((u48 239 7 rfl).trans ((u32 239 7 rfl).trans (u22 239 7 rfl))))
      have e58 : h52 239 15 = h 239 15 := ((u52 239 15 rfl).trans ((u48 239 15 rfl).trans ((u32 239 15 rfl).trans (u22 239 15 rfl))))
      have e59 : h52 239 16 = h 239 16 := ((u52 239 16 rfl).trans ((u48 239 16 rfl).trans ((u32 239 16 rfl).trans (u22 239 16 rfl))))
      have e60 : h52 239 17 = z35 := ((u52 239 17 rfl).trans w48)
      have e61 : h52 239 18 = h 239 18 := ((u52 239 18 rfl).trans ((u48 239 18 rfl).trans ((u32 239 18 rfl).trans (u22 239 18 rfl))))
      have e62 : h52 236 9 = h32 236 9 := ((u52 236 9 rfl).trans (u48 236 9 rfl))
      have e63 : h52 239 0 = h 239 0 := ((u52 239 0 rfl).trans ((u48 239 0 rfl).trans ((u32 239 0 rfl).trans (u22 239 0 rfl))))
      have e64 : h52 239 1 = 3 := w52
      have e65 : h52 239 2 = h 239 2 := ((u52 239 2 rfl).trans ((u48 239 2 rfl).trans ((u32 239 2 rfl).trans (u22 239 2 rfl))))
      have b66 := gi_b (lo := 0) (hi := 999) g 239 3 rfl
      have e67 : h52 239 3 = h 239 3 := ((u52 239 3 rfl).trans ((u48 239 3 rfl).trans ((u32 239 3 rfl).trans (u22 239 3 rfl))))
      have b68 := gi_b (lo := 0) (hi := 999) g 239 4 rfl
      have e69 : h52 239 4 = h 239 4 := ((u52 239 4 rfl).trans ((u48 239 4 rfl).trans ((u32 239 4 rfl).trans (u22 239 4 rfl))))
      have b70 := gi_b (lo := 0) (hi := 999) g 239 6 rfl
      have e71 : h52 239 6 = h 239 6 := ((u52 239 6 rfl).trans ((u48 239 6 rfl).trans ((u32 239 6 rfl).trans (u22 239 6 rfl))))
      have b72 := gi_b (lo := 0) (hi := 999) g 239 8 rfl
      have e73 : h52 239 8 = h 239 8 := ((u52 239 8 rfl).trans ((u48 239 8 rfl).trans ((u32 239 8 rfl).trans (u22 239 8 rfl))))
      have b74 := gi_b (lo := 0) (hi := 999) g 239 9 rfl
      have e75 : h52 239 9 = h 239 9 := ((u52 239 9 rfl).trans ((u48 239 9 rfl).trans ((u32 239 9 rfl).trans (u22 239 9 rfl))))
      have b76 := gi_b (lo := 0) (hi := 1) g 236 23 rfl
      have e77 : h52 236 23 = h 236 23 := ((u52 236 23 rfl).trans ((u48 236 23 rfl).trans ((u32 236 23 rfl).trans (u22 236 23 rfl))))
      have b78 := gi_b (lo := 0) (hi := 1) g 236 24 rfl
      have e79 : h52 236 24 = h 236 24 := ((u52 236 24 rfl).trans ((u48 236 24 rfl).trans ((u32 236 24 rfl).trans (u22 236 24 rfl))))
      have b80 := gi_b (lo := 0) (hi := 1) g 236 25 rfl
      have e81 : h52 236 25 = h 236 25 := ((u52 236 25 rfl).trans ((u48 236 25 rfl).trans ((u32 236 25 rfl).trans (u22 236 25 rfl))))
      have b82 := gi_b (lo := 0) (hi := 1) g 236 26 rfl
      have e83 : h52 236 26 = h 236 26 := ((u52 236 26 rfl).trans ((u48 236 26 rfl).trans ((u32 236 26 rfl).trans (u22 236 26 rfl))))
      have e84 : h52 236 5 = h32 236 5 := ((u52 236 5 rfl).trans (u48 236 5 rfl))
      have e85 : h52 236 6 = h32 236 6 := ((u52 236 6 rfl).trans (u48 236 6 rfl))
      have e86 : h52 236 7 = h32 236 7 := ((u52 236 7 rfl).trans (u48 236 7 rfl))
      have e87 : h52 236 12 = h32 236 12 := ((u52 236 12 rfl).trans (u48 236 12 rfl))
      exact k h52 g52 F53 (show (h 236 4) ≤ (h52 236 4) by omega) (show (h52 236 4) ≤ (h 236 3) by omega) (show 1 ≤ (h52 236 8) ∨ ((h52 239 5) ≤ 9 ∧ 1 ≤ (h52 239 5) ∧ (h52 239 7) ≤ 3 ∧ (h52 239 15) ≤ 6 ∧ (h52 239 16) ≤ 6 ∧ (h52 239 17) ≤ 6 ∧ (h52 239 18) ≤ 6) by omega) (show (h52 236 8) ≠ 0 ∨ (h52 236 9) = -1 by omega) (by unfold tk_lane tk_num; (try dsimp only); (repeat (first | rw [if_pos (by omega)] | rw [if_neg (by omega)])); (repeat ((first | unfold tk_num); (try dsimp only); (repeat (first | rw [if_pos (by omega)] | rw [if_neg (by omega)])))); exact tk_ORs (by omega) (by first | assumption | exact tk_mv (by assumption) (by omega) (by omega) (by omega) (by omega) (by omega)) (CVr.lane (c := (h 239 1).toNat) xq1 (by omega) (by omega) (fun i _ _ => ((u52 239 i (fn_i (by omega) fn_0)).trans ((u48 239 i (fn_i (by omega) fn_0)).trans ((u32 239 i (fo_nk rfl)).trans (u22 239 i (fo_nk rfl)))))) (fun i _ _ => ((u52 236 i (fn_a (by omega) fn_0)).trans ((u48 236 i (fn_a (by omega) fn_0)).trans ((u32 236 i (fn_i (by omega) (fn_i (by omega) (fn_i (by omega) (fn_i (by omega) (fn_i (by omega) (fn_i (by omega) (fn_i (by omega) fn_0)))))))).trans (u22 236 i (fn_i (by omega) (fn_i (by omega) (fn_i (by omega) (fn_i (by omega) (fn_i (by omega) fn_0)))))))))) (by rw [show 15 + (h 239 1).toNat = 17 by omega]; exact ((u52 239 17 rfl).trans w48).trans (by omega)) (fun i => ((u52 244 i (fn_a (by omega) fn_0)).trans ((u48 244 i (fn_a (by omega) fn_0)).trans ((u32 244 i (fo_nk rfl)).trans (u22 244 i (fo_nk rfl)))))) (by omega) (by omega) (by omega)))
    ·
      refine wr_is (k0 := 239) (a := 17) (f := 17) (x := z35) (bl := 0) (bh := 999) (nx := 33) (r1 := 0) (r2 := 0) (r3 := 0) rfl (by decide) rfl (by omega) (by omega) (by decide) g32 rfl (by omega) (fun h46 g46 w46 u46 => ?_)
      have F47 := F37.then rfl u46
      refine wi_aload_n (i := 0) (x := 236) (nx := 34) (r1 := 0) (r2 := 0) (r3 := 0) rfl rfl ?_
      refine wr_V (k0 := 236) (rest := []) (as := [.ref 236]) (nx := 37) (r1 := 219) (r2 := 0) (r3 := 11) rfl rfl rfl (of_decide_eq_true rfl) rfl rfl (by decide) rfl rfl (of_decide_eq_true rfl) (of_decide_eq_true rfl) ?_
      refine wi_aload_n (i := 0) (x := 236) (nx := 1) (r1 := 0) (r2 := 0) (r3 := 0) rfl rfl ?_
      refine wr_gi0 (k0 := 236) (x := h32 236 8) (nx := 4) (r1 := 11) (r2 := 8) (r3 := 0) rfl rfl (by decide) rfl ⟨rfl, rfl⟩ rfl (u46 236 8 rfl) ?_
      refine wi_if (cd := .ne) (nx := 7) (r1 := 11) (r2 := 0) (r3 := 0) rfl (by omega) (fun (q48 : (h32 236 8) ≠ 0) => ?_) (fun (q48 : ¬ ((h32 236 8) ≠ 0)) => by exfalso; omega)
      refine wi_iconst (n := 0) (nx := 12) (r1 := 0) (r2 := 0) (r3 := 0) rfl ?_
      refine wi_zreturn (nx := 13) (r1 := 0) (r2 := 0) (r3 := 0) rfl rfl (by omega) ?_
      refine wk_i ?_
      refine wi_if (cd := .eq) (nx := 40) (r1 := 50) (r2 := 0) (r3 := 0) rfl (by omega) (fun (q49 : 0 = 0) => ?_) (fun (q49 : ¬ (0 = 0)) => by exfalso; omega)
      refine wi_return (nx := 51) (r1 := 0) (r2 := 0) (r3 := 0) rfl rfl ?_
      have e50 : h46 236 4 = h32 236 4 := (u46 236 4 rfl)
      have e51 : h46 236 8 = h32 236 8 := (u46 236 8 rfl)
      have e52 : h46 239 5 = h 239 5 := ((u46 239 5 rfl).trans ((u32 239 5 rfl).trans (u22 239 5 rfl)))
      have e53 : h46 239 7 = h 239 7 := ((u46 239 7 rfl).trans ((u32 239 7 rfl).trans (u22 239 7 rfl)))
      have e54 : h46 239 15 = h 239 15 := ((u46 239 15 rfl).trans ((u32 239 15 rfl).trans (u22 239 15 rfl)))
      have e55 : h46 239 16 = h 239 16 := ((u46 239 16 rfl).trans ((u32 239 16 rfl).trans (u22 239 16 rfl)))
      have e56 : h46 239 17 = z35 := w46
      have e57 : h46 239 18 = h 239 18 := ((u46 239 18 rfl).trans ((u32 239 18 rfl).trans (u22 239 18 rfl)))
      have e58 : h46 236 9 = h32 236 9 := (u46 236 9 rfl)
      exact k h46 g46 F47 (show (h 236 4) ≤ (h46 236 4) by omega) (show (h46 236 4) ≤ (h 236 3) by omega) (show 1 ≤ (h46 236 8) ∨ ((h46 239 5) ≤ 9 ∧ 1 ≤ (h46 239 5) ∧ (h46 239 7) ≤ 3 ∧ (h46 239 15) ≤ 6 ∧ (h46 239 16) ≤ 6 ∧ (h46 239 17) ≤ 6 ∧ (h46 239 18) ≤ 6) by omega) (show (h46 236 8) ≠ 0 ∨ (h46 236 9) = -1 by omega) (by unfold tk_lane tk_num; (try dsimp only); (repeat (first | rw [if_pos (by omega)] | rw [if_neg (by omega)])); (repeat ((first | unfold tk_num); (try dsimp only); (repeat (first | rw [if_pos (by omega)] | rw [if_neg (by omega)])))); first | exact tk_ORe (by omega) (by omega) (by omega) | ((repeat' split) <;> (first | exact tk_ORe (by omega) (by omega) (by omega) | (exfalso; omega))))
    ·
      refine wr_is (k0 := 239) (a := 17) (f := 17) (x := z35) (bl := 0) (bh := 999) (nx := 33) (r1 := 0) (r2 := 0) (r3 := 0) rfl (by decide) rfl (by omega) (by omega) (by decide) g32 rfl (by omega) (fun h46 g46 w46 u46 => ?_)
      have F47 := F37.then rfl u46
      refine wi_aload_n (i := 0) (x := 236) (nx := 34) (r1 := 0) (r2 := 0) (r3 := 0) rfl rfl ?_
      refine wr_V (k0 := 236) (rest := []) (as := [.ref 236]) (nx := 37) (r1 := 219) (r2 := 0) (r3 := 11) rfl rfl rfl (of_decide_eq_true rfl) rfl rfl (by decide) rfl rfl (of_decide_eq_true rfl) (of_decide_eq_true rfl) ?_
      refine wi_aload_n (i := 0) (x := 236) (nx := 1) (r1 := 0) (r2 := 0) (r3 := 0) rfl rfl ?_
      refine wr_gi0 (k0 := 236) (x := h32 236 8) (nx := 4) (r1 := 11) (r2 := 8) (r3 := 0) rfl rfl (by decide) rfl ⟨rfl, rfl⟩ rfl (u46 236 8 rfl) ?_
      refine wi_if (cd := .ne) (nx := 7) (r1 := 11) (r2 := 0) (r3 := 0) rfl (by omega) (fun (q48 : (h32 236 8) ≠ 0) => ?_) (fun (q48 : ¬ ((h32 236 8) ≠ 0)) => by exfalso; omega)
      refine wi_iconst (n := 0) (nx := 12) (r1 := 0) (r2 := 0) (r3 := 0) rfl ?_
      refine wi_zreturn (nx := 13) (r1 := 0) (r2 := 0) (r3 := 0) rfl rfl (by omega) ?_
      refine wk_i ?_
      refine wi_if (cd := .eq) (nx := 40) (r1 := 50) (r2 := 0) (r3 := 0) rfl (by omega) (fun (q49 : 0 = 0) => ?_) (fun (q49 : ¬ (0 = 0)) => by exfalso; omega)
      refine wi_return (nx := 51) (r1 := 0) (r2 := 0) (r3 := 0) rfl rfl ?_
      have e50 : h46 236 4 = h32 236 4 := (u46 236 4 rfl)
      have e51 : h46 236 8 = h32 236 8 := (u46 236 8 rfl)
      have e52 : h46 239 5 = h 239 5 := ((u46 239 5 rfl).trans ((u32 239 5 rfl).trans (u22 239 5 rfl)))
      have e53 : h46 239 7 = h 239 7 := ((u46 239 7 rfl).trans ((u32 239 7 rfl).trans (u22 239 7 rfl)))
      have e54 : h46 239 15 = h 239 15 := ((u46 239 15 rfl).trans ((u32 239 15 rfl).trans (u22 239 15 rfl)))
      have e55 : h46 239 16 = h 239 16 := ((u46 239 16 rfl).trans ((u32 239 16 rfl).trans (u22 239 16 rfl)))
      have e56 : h46 239 17 = z35 := w46
      have e57 : h46 239 18 = h 239 18 := ((u46 239 18 rfl).trans ((u32 239 18 rfl).trans (u22 239 18 rfl)))
      have e58 : h46 236 9 = h32 236 9 := (u46 236 9 rfl)
      exact k h46 g46 F47 (show (h 236 4) ≤ (h46 236 4) by omega) (show (h46 236 4) ≤ (h 236 3) by omega) (show 1 ≤ (h46 236 8) ∨ ((h46 239 5) ≤ 9 ∧ 1 ≤ (h46 239 5) ∧ (h46 239 7) ≤ 3 ∧ (h46 239 15) ≤ 6 ∧ (h46 239 16) ≤ 6 ∧ (h46 239 17) ≤ 6 ∧ (h46 239 18) ≤ 6) by omega) (show (h46 236 8) ≠ 0 ∨ (h46 236 9) = -1 by omega) (by unfold tk_lane tk_num; (try dsimp only); (repeat (first | rw [if_pos (by omega)] | rw [if_neg (by omega)])); (repeat ((first | unfold tk_num); (try dsimp only); (repeat (first | rw [if_pos (by omega)] | rw [if_neg (by omega)])))); first | exact tk_ORe (by omega) (by omega) (by omega) | ((repeat' split) <;> (first | exact tk_ORe (by omega) (by omega) (by omega) | (exfalso; omega))))
  ·
    refine wr_ia (k0 := 239) (a := 1) (f := 1) (x := 3) (nx := 6) (r1 := 0) (r2 := 0) (r3 := 0) rfl (by decide) rfl (by omega) (by omega) (by decide) q18 ?_
    refine wi_istore_n (i := 1) (e := 3) (lo2 := [(1, vi 3), (0, .ref 236)]) (nx := 7) (r1 := 0) (r2 := 0) (r3 := 0) rfl rfl ?_
    refine wi_aload_n (i := 0) (x := 236) (nx := 8) (r1 := 0) (r2 := 0) (r3 := 0) rfl rfl ?_
    refine wi_iconst (n := 1) (nx := 9) (r1 := 0) (r2 := 0) (r3 := 0) rfl ?_
    refine wi_iconst (n := 4) (nx := 10) (r1 := 0) (r2 := 0) (r3 := 0) rfl ?_
    refine wr_V (k0 := 236) (rest := []) (as := [.ref 236, vi 1, vi 4]) (nx := 13) (r1 := 223) (r2 := 2) (r3 := 11) rfl rfl rfl (of_decide_eq_true rfl) rfl rfl (by decide) rfl rfl (of_decide_eq_true rfl) (of_decide_eq_true rfl) ?_
    refine wi_aload_n (i := 0) (x := 236) (nx := 1) (r1 := 0) (r2 := 0) (r3 := 0) rfl rfl ?_
    refine wr_gr (k0 := 236) (x := 239) (nx := 4) (r1 := 11) (r2 := 14) (r3 := 0) rfl rfl (by decide) rfl ⟨rfl, rfl⟩ rfl ?_
    refine wi_iload_n (i := 1) (e := 1) (nx := 5) (r1 := 0) (r2 := 0) (r3 := 0) rfl rfl ?_
    refine wr_ia (k0 := 239) (a := 1) (f := 1) (x := 3) (nx := 6) (r1 := 0) (r2 := 0) (r3 := 0) rfl (by decide) rfl (by omega) (by omega) (by decide) q18 ?_
    refine wi_iload_n (i := 2) (e := 4) (nx := 7) (r1 := 0) (r2 := 0) (r3 := 0) rfl rfl ?_
    refine wi_icmp (cd := .ne) (nx := 10) (r1 := 15) (r2 := 0) (r3 := 0) rfl (by omega) (by omega) (fun (q19 : 3 ≠ 4) => ?_) (fun (q19 : ¬ (3 ≠ 4)) => by exfalso; omega)
    refine wi_aload_n (i := 0) (x := 236) (nx := 16) (r1 := 0) (r2 := 0) (r3 := 0) rfl rfl ?_
    refine wr_V (k0 := 236) (rest := []) (as := [.ref 236]) (nx := 19) (r1 := 219) (r2 := 0) (r3 := 11) rfl rfl rfl (of_decide_eq_true rfl) rfl rfl (by decide) rfl rfl (of_decide_eq_true rfl) (of_decide_eq_true rfl) ?_
    refine wi_aload_n (i := 0) (x := 236) (nx := 1) (r1 := 0) (r2 := 0) (r3 := 0) rfl rfl ?_
    refine wr_gi0 (k0 := 236) (x := h 236 8) (nx := 4) (r1 := 11) (r2 := 8) (r3 := 0) rfl rfl (by decide) rfl ⟨rfl, rfl⟩ rfl rfl ?_
    refine wi_if (cd := .ne) (nx := 7) (r1 := 11) (r2 := 0) (r3 := 0) rfl (by omega) (fun (q20 : (h 236 8) ≠ 0) => by exfalso; omega) (fun (q20 : ¬ ((h 236 8) ≠ 0)) => ?_)
    refine wi_iconst (n := 1) (nx := 8) (r1 := 0) (r2 := 0) (r3 := 0) rfl ?_
    refine wi_goto (nx := 11) (r1 := 12) (r2 := 0) (r3 := 0) rfl ?_
    refine wi_zreturn (nx := 13) (r1 := 0) (r2 := 0) (r3 := 0) rfl rfl (by omega) ?_
    refine wk_i ?_
    refine wi_if (cd := .eq) (nx := 22) (r1 := 26) (r2 := 0) (r3 := 0) rfl (by omega) (fun (q21 : 1 = 0) => by exfalso; omega) (fun (q21 : ¬ (1 = 0)) => ?_)
    refine wi_aload_n (i := 0) (x := 236) (nx := 23) (r1 := 0) (r2 := 0) (r3 := 0) rfl rfl ?_
    refine wr_V (k0 := 236) (rest := []) (as := [.ref 236]) (nx := 26) (r1 := 215) (r2 := 0) (r3 := 11) rfl rfl rfl (of_decide_eq_true rfl) rfl rfl (by decide) rfl rfl (of_decide_eq_true rfl) (of_decide_eq_true rfl) ?_
    refine ct_215_236 hcr  g   (show (h 236 4) ≤ (h 236 3) by omega) (show (h 236 4) = (tk_nx tB tn tp) by omega) (show 0 ≤ (tk_nx tB tn tp) by omega) (show (tk_nx tB tn tp) ≤ tn by omega) xq0 (fun h22 g22 u22 (p22_0 : (h 236 4) ≤ (h22 236 4)) (p22_1 : (h22 236 4) ≤ (h 236 3)) (p22_2 : ((h22 236 4) = tk_nx tB tn (tk_nx tB tn tp) ∧ (h22 236 5) = tk_st tB tn (tk_nx tB tn tp) ∧ ((tk_kd tB tn (tk_nx tB tn tp) = 0 ∧ (h22 236 6) = 0) ∨ (tk_kd tB tn (tk_nx tB tn tp) = 1 ∧ (h22 236 6) = 1 ∧ (h22 236 12) = tk_sw tB tn (tk_nx tB tn tp)) ∨ (tk_kd tB tn (tk_nx tB tn tp) = 2 ∧ (h22 236 6) = 2 ∧ (h22 236 7) = tk_nb tB tn (tk_nx tB tn tp)) ∨ (tk_kd tB tn (tk_nx tB tn tp) = 3 ∧ (h22 236 6) = 3 ∧ (h22 236 7) = 59) ∨ (tk_kd tB tn (tk_nx tB tn tp) = 4 ∧ (h22 236 6) = 3 ∧ (h22 236 7) = 40) ∨ (tk_kd tB tn (tk_nx tB tn tp) = 5 ∧ (h22 236 6) = 3 ∧ (h22 236 7) = 41) ∨ (tk_kd tB tn (tk_nx tB tn tp) = 6 ∧ (h22 236 6) = 4)))) (p22_3 : (tk_nx tB tn tp) ≤ tk_nx tB tn (tk_nx tB tn tp) ∧ tk_nx tB tn (tk_nx tB tn tp) ≤ tn) => ?_)
    have F23 := F0.then (by decide +kernel) u22
    have b24 := gi_b (lo := 0) (hi := 800) g22 236 4 rfl
    have b25 := gi_b (lo := 0) (hi := 800) g22 236 5 rfl
    have b26 := gi_b (lo := 0) (hi := 4) g22 236 6 rfl
    have b27 := gi_b (lo := -9223372036854775808) (hi := 9223372036854775807) g22 236 12 rfl
    have b28 := gi_b (lo := 0) (hi := 999) g22 236 7 rfl
    have tN29 := @tk_nx_b tB tn (tk_nx tB tn tp) (by omega) (by omega)
    refine wk_n ?_
    refine wi_aload_n (i := 0) (x := 236) (nx := 27) (r1 := 0) (r2 := 0) (r3 := 0) rfl rfl ?_
    refine wr_V (k0 := 236) (rest := []) (as := [.ref 236]) (nx := 30) (r1 := 219) (r2 := 0) (r3 := 11) rfl rfl rfl (of_decide_eq_true rfl) rfl rfl (by decide) rfl rfl (of_decide_eq_true rfl) (of_decide_eq_true rfl) ?_
    refine wi_aload_n (i := 0) (x := 236) (nx := 1) (r1 := 0) (r2 := 0) (r3 := 0) rfl rfl ?_
    refine wr_gi0 (k0 := 236) (x := h 236 8) (nx := 4) (r1 := 11) (r2 := 8) (r3 := 0) rfl rfl (by decide) rfl ⟨rfl, rfl⟩ rfl (u22 236 8 rfl) ?_
    refine wi_if (cd := .ne) (nx := 7) (r1 := 11) (r2 := 0) (r3 := 0) rfl (by omega) (fun (q30 : (h 236 8) ≠ 0) => by exfalso; omega) (fun (q30 : ¬ ((h 236 8) ≠ 0)) => ?_)
    refine wi_iconst (n := 1) (nx := 8) (r1 := 0) (r2 := 0) (r3 := 0) rfl ?_
    refine wi_goto (nx := 11) (r1 := 12) (r2 := 0) (r3 := 0) rfl ?_
    refine wi_zreturn (nx := 13) (r1 := 0) (r2 := 0) (r3 := 0) rfl rfl (by omega) ?_
    refine wk_i ?_
    refine wi_zreturn (nx := 31) (r1 := 0) (r2 := 0) (r3 := 0) rfl rfl (by omega) ?_
    refine wk_i ?_
    refine wi_if (cd := .ne) (nx := 16) (r1 := 17) (r2 := 0) (r3 := 0) rfl (by omega) (fun (q31 : 1 ≠ 0) => ?_) (fun (q31 : ¬ (1 ≠ 0)) => by exfalso; omega)
    refine wi_aload_n (i := 0) (x := 236) (nx := 18) (r1 := 0) (r2 := 0) (r3 := 0) rfl rfl ?_
    refine wr_gr (k0 := 236) (x := 239) (nx := 21) (r1 := 11) (r2 := 14) (r3 := 0) rfl rfl (by decide) rfl ⟨rfl, rfl⟩ rfl ?_
    refine wi_bipush (n := 15) (nx := 23) (r1 := 0) (r2 := 0) (r3 := 0) rfl (by decide) ?_
    refine wi_iload_n (i := 1) (e := 3) (nx := 24) (r1 := 0) (r2 := 0) (r3 := 0) rfl rfl ?_
    refine wr_addL (18) (nx := 25) (r1 := 0) (r2 := 0) (r3 := 0) rfl (by decide) ?_
    refine wi_aload_n (i := 0) (x := 236) (nx := 26) (r1 := 0) (r2 := 0) (r3 := 0) rfl rfl ?_
    refine wi_iconst (n := 1) (nx := 27) (r1 := 0) (r2 := 0) (r3 := 0) rfl ?_
    refine wi_bipush (n := 6) (nx := 29) (r1 := 0) (r2 := 0) (r3 := 0) rfl (by decide) ?_
    refine wr_V (k0 := 236) (rest := [vi 18, .ref 239]) (as := [.ref 236, vi 1, vi 6]) (nx := 32) (r1 := 231) (r2 := 2) (r3 := 11) rfl rfl rfl (of_decide_eq_true rfl) rfl rfl (by decide) rfl rfl (of_decide_eq_true rfl) (of_decide_eq_true rfl) ?_
    have e33 : h22 236 3 = h 236 3 := (u22 236 3 rfl)
    have e34 : h22 236 8 = h 236 8 := (u22 236 8 rfl)
    have rb36 := RefB.fr u22 rfl xq0
    refine ct_231_236 hcr  g22 1 6 (by omega) (by omega) (show (h22 236 4) ≤ (h22 236 3) by omega) (show 0 ≤ (tk_nx tB tn tp) by omega) (show (tk_nx tB tn tp) ≤ tn by omega) (show (tk_nx tB tn tp) ≤ tk_nx tB tn (tk_nx tB tn tp) ∧ tk_nx tB tn (tk_nx tB tn tp) ≤ tn by omega) (show 1 ≤ (h22 236 8) ∨ ((h22 236 4) = tk_nx tB tn (tk_nx tB tn tp) ∧ (h22 236 5) = tk_st tB tn (tk_nx tB tn tp) ∧ ((tk_kd tB tn (tk_nx tB tn tp) = 0 ∧ (h22 236 6) = 0) ∨ (tk_kd tB tn (tk_nx tB tn tp) = 1 ∧ (h22 236 6) = 1 ∧ (h22 236 12) = tk_sw tB tn (tk_nx tB tn tp)) ∨ (tk_kd tB tn (tk_nx tB tn tp) = 2 ∧ (h22 236 6) = 2 ∧ (h22 236 7) = tk_nb tB tn (tk_nx tB tn tp)) ∨ (tk_kd tB tn (tk_nx tB tn tp) = 3 ∧ (h22 236 6) = 3 ∧ (h22 236 7) = 59) ∨ (tk_kd tB tn (tk_nx tB tn tp) = 4 ∧ (h22 236 6) = 3 ∧ (h22 236 7) = 40) ∨ (tk_kd tB tn (tk_nx tB tn tp) = 5 ∧ (h22 236 6) = 3 ∧ (h22 236 7) = 41) ∨ (tk_kd tB tn (tk_nx tB tn tp) = 6 ∧ (h22 236 6) = 4))) from (Or.inr (show ((h22 236 4) = tk_nx tB tn (tk_nx tB tn tp) ∧ (h22 236 5) = tk_st tB tn (tk_nx tB tn tp) ∧ ((tk_kd tB tn (tk_nx tB tn tp) = 0 ∧ (h22 236 6) = 0) ∨ (tk_kd tB tn (tk_nx tB tn tp) = 1 ∧ (h22 236 6) = 1 ∧ (h22 236 12) = tk_sw tB tn (tk_nx tB tn tp)) ∨ (tk_kd tB tn (tk_nx tB tn tp) = 2 ∧ (h22 236 6) = 2 ∧ (h22 236 7) = tk_nb tB tn (tk_nx tB tn tp)) ∨ (tk_kd tB tn (tk_nx tB tn tp) = 3 ∧ (h22 236 6) = 3 ∧ (h22 236 7) = 59) ∨ (tk_kd tB tn (tk_nx tB tn tp) = 4 ∧ (h22 236 6) = 3 ∧ (h22 236 7) = 40) ∨ (tk_kd tB tn (tk_nx tB tn tp) = 5 ∧ (h22 236 6) = 3 ∧ (h22 236 7) = 41) ∨ (tk_kd tB tn (tk_nx tB tn tp) = 6 ∧ (h22 236 6) = 4))) by first | assumption | exact tk_mv (by assumption) (by omega) (by omega) (by omega) (by omega) (by omega)))) rb36 (fun h32 z35 g32 u32 (fz35 : 0 ≤ z35 ∧ z35 ≤ 999) (p32_0 : (1 ≤ (h22 236 8) ∧ (h32 236 8) = (h22 236 8) ∧ (h32 236 9) = (h22 236 9)) ∨ ((h22 236 8) = 0 ∧ tk_kd tB tn (tk_nx tB tn tp) = 2 ∧ 1 ≤ tk_nb tB tn (tk_nx tB tn tp) ∧ tk_nb tB tn (tk_nx tB tn tp) ≤ 6 ∧ z35 = tk_nb tB tn (tk_nx tB tn tp) ∧ (h32 236 8) = (h22 236 8) ∧ (h32 236 9) = (h22 236 9) ∧ ((h32 236 4) = tk_nx tB tn (tk_nx tB tn (tk_nx tB tn tp)) ∧ (h32 236 5) = tk_st tB tn (tk_nx tB tn (tk_nx tB tn tp)) ∧ ((tk_kd tB tn (tk_nx tB tn (tk_nx tB tn tp)) = 0 ∧ (h32 236 6) = 0) ∨ (tk_kd tB tn (tk_nx tB tn (tk_nx tB tn tp)) = 1 ∧ (h32 236 6) = 1 ∧ (h32 236 12) = tk_sw tB tn (tk_nx tB tn (tk_nx tB tn tp))) ∨ (tk_kd tB tn (tk_nx tB tn (tk_nx tB tn tp)) = 2 ∧ (h32 236 6) = 2 ∧ (h32 236 7) = tk_nb tB tn (tk_nx tB tn (tk_nx tB tn tp))) ∨ (tk_kd tB tn (tk_nx tB tn (tk_nx tB tn tp)) = 3 ∧ (h32 236 6) = 3 ∧ (h32 236 7) = 59) ∨ (tk_kd tB tn (tk_nx tB tn (tk_nx tB tn tp)) = 4 ∧ (h32 236 6) = 3 ∧ (h32 236 7) = 40) ∨ (tk_kd tB tn (tk_nx tB tn (tk_nx tB tn tp)) = 5 ∧ (h32 236 6) = 3 ∧ (h32 236 7) = 41) ∨ (tk_kd tB tn (tk_nx tB tn (tk_nx tB tn tp)) = 6 ∧ (h32 236 6) = 4)))) ∨ ((h22 236 8) = 0 ∧ tk_kd tB tn (tk_nx tB tn tp) ≠ 2 ∧ (h32 236 8) = 1 ∧ (h32 236 9) = tk_st tB tn (tk_nx tB tn tp)) ∨ ((h22 236 8) = 0 ∧ tk_kd tB tn (tk_nx tB tn tp) = 2 ∧ (tk_nb tB tn (tk_nx tB tn tp) < 1 ∨ 6 < tk_nb tB tn (tk_nx tB tn tp)) ∧ (h32 236 8) = 2 ∧ (h32 236 9) = tk_st tB tn (tk_nx tB tn tp))) (p32_1 : (h22 236 4) ≤ (h32 236 4)) (p32_2 : (h32 236 4) ≤ (h22 236 3)) (p32_3 : 1 ≤ (h32 236 8) ∨ (h22 236 8) = 0) (p32_4 : 1 ≤ (h32 236 8) ∨ (1 ≤ z35 ∧ z35 ≤ 6)) (p32_5 : 1 ≤ (h32 236 8) ∨ (h22 236 6) = 2) => ?_)
    have F37 := F23.then (by decide +kernel) u32
    have e38 : h22 236 9 = h 236 9 := (u22 236 9 rfl)
    have b39 := gi_b (lo := 0) (hi := 5) g32 236 8 rfl
    have b40 := gi_b (lo := -2147483648) (hi := 2147483647) g32 236 9 rfl
    have b41 := gi_b (lo := 0) (hi := 800) g32 236 4 rfl
    have b42 := gi_b (lo := 0) (hi := 800) g32 236 5 rfl
    have b43 := gi_b (lo := 0) (hi := 4) g32 236 6 rfl
    have b44 := gi_b (lo := -9223372036854775808) (hi := 9223372036854775807) g32 236 12 rfl
    have b45 := gi_b (lo := 0) (hi := 999) g32 236 7 rfl
    refine wk_i ?_
    rcases p32_0 with p32_0 | p32_0 | p32_0 | p32_0
    ·
      exfalso; omega
    ·
      have tk46 := p32_0.2.2.2.2.2.2.2
      have tN47 := @tk_nx_b tB tn (tk_nx tB tn (tk_nx tB tn tp)) (by omega) (by omega)
      refine wr_is (k0 := 239) (a := 18) (f := 18) (x := z35) (bl := 0) (bh := 999) (nx := 33) (r1 := 0) (r2 := 0) (r3 := 0) rfl (by decide) rfl (by omega) (by omega) (by decide) g32 rfl (by omega) (fun h48 g48 w48 u48 => ?_)
      have F49 := F37.then rfl u48
      refine wi_aload_n (i := 0) (x := 236) (nx := 34) (r1 := 0) (r2 := 0) (r3 := 0) rfl rfl ?_
      refine wr_V (k0 := 236) (rest := []) (as := [.ref 236]) (nx := 37) (r1 := 219) (r2 := 0) (r3 := 11) rfl rfl rfl (of_decide_eq_true rfl) rfl rfl (by decide) rfl rfl (of_decide_eq_true rfl) (of_decide_eq_true rfl) ?_
      refine wi_aload_n (i := 0) (x := 236) (nx := 1) (r1 := 0) (r2 := 0) (r3 := 0) rfl rfl ?_
      refine wr_gi0 (k0 := 236) (x := h32 236 8) (nx := 4) (r1 := 11) (r2 := 8) (r3 := 0) rfl rfl (by decide) rfl ⟨rfl, rfl⟩ rfl (u48 236 8 rfl) ?_
      refine wi_if (cd := .ne) (nx := 7) (r1 := 11) (r2 := 0) (r3 := 0) rfl (by omega) (fun (q50 : (h32 236 8) ≠ 0) => by exfalso; omega) (fun (q50 : ¬ ((h32 236 8) ≠ 0)) => ?_)
      refine wi_iconst (n := 1) (nx := 8) (r1 := 0) (r2 := 0) (r3 := 0) rfl ?_
      refine wi_goto (nx := 11) (r1 := 12) (r2 := 0) (r3 := 0) rfl ?_
      refine wi_zreturn (nx := 13) (r1 := 0) (r2 := 0) (r3 := 0) rfl rfl (by omega) ?_
      refine wk_i ?_
      refine wi_if (cd := .eq) (nx := 40) (r1 := 50) (r2 := 0) (r3 := 0) rfl (by omega) (fun (q51 : 1 = 0) => by exfalso; omega) (fun (q51 : ¬ (1 = 0)) => ?_)
      refine wi_aload_n (i := 0) (x := 236) (nx := 41) (r1 := 0) (r2 := 0) (r3 := 0) rfl rfl ?_
      refine wr_gr (k0 := 236) (x := 239) (nx := 44) (r1 := 11) (r2 := 14) (r3 := 0) rfl rfl (by decide) rfl ⟨rfl, rfl⟩ rfl ?_
      refine wi_iconst (n := 1) (nx := 45) (r1 := 0) (r2 := 0) (r3 := 0) rfl ?_
      refine wi_dup2 (nx := 46) (r1 := 0) (r2 := 0) (r3 := 0) rfl rfl rfl ?_
      refine wr_ia (k0 := 239) (a := 1) (f := 1) (x := 3) (nx := 47) (r1 := 0) (r2 := 0) (r3 := 0) rfl (by decide) rfl (by omega) (by omega) (by decide) ((u48 239 1 rfl).trans ((u32 239 1 rfl).trans ((u22 239 1 rfl).trans q18))) ?_
      refine wi_iconst (n := 1) (nx := 48) (r1 := 0) (r2 := 0) (r3 := 0) rfl ?_
      refine wr_addL (4) (nx := 49) (r1 := 0) (r2 := 0) (r3 := 0) rfl (by decide) ?_
      refine wr_is (k0 := 239) (a := 1) (f := 1) (x := 4) (bl := 0) (bh := 4) (nx := 50) (r1 := 0) (r2 := 0) (r3 := 0) rfl (by decide) rfl (by omega) (by omega) (by decide) g48 rfl (by omega) (fun h52 g52 w52 u52 => ?_)
      have F53 := F49.then rfl u52
      refine wi_return (nx := 51) (r1 := 0) (r2 := 0) (r3 := 0) rfl rfl ?_
      have e54 : h52 236 4 = h32 236 4 := ((u52 236 4 rfl).trans (u48 236 4 rfl))
      have e55 : h52 236 8 = h32 236 8 := ((u52 236 8 rfl).trans (u48 236 8 rfl))
      have e56 : h52 239 5 = h 239 5 := ((u52 239 5 rfl).trans ((u48 239 5 rfl).trans ((u32 239 5 rfl).trans (u22 239 5 rfl))))
      have e57 : h52 239 7 = h 239 7 := ((u52 239 7 rfl).trans ((u48 239 7 rfl).trans ((u32 239 7 rfl).trans (u22 239 7 rfl))))
      have e58 : h52 239 15 = h 239 15 := ((u52 239 15 rfl).trans ((u48 239 15 rfl).trans ((u32 239 15 rfl).trans (u22 239 15 rfl))))
      have e59 : h52 239 16 = h 239 16 := ((u52 239 16 rfl).trans ((u48 239 16 rfl).trans ((u32 239 16 rfl).trans (u22 239 16 rfl))))
      have e60 : h52 239 17 = h 239 17 := ((u52 239 17 rfl).trans ((u48 239 17 rfl).trans ((u32 239 17 rfl).trans (u22 239 17 rfl))))
      have e61 : h52 239 18 = z35 := ((u52 239 18 rfl).trans w48)
      have e62 : h52 236 9 = h32 236 9 := ((u52 236 9 rfl).trans (u48 236 9 rfl))
      have e63 : h52 239 0 = h 239 0 := ((u52 239 0 rfl).trans ((u48 239 0 rfl).trans ((u32 239 0 rfl).trans (u22 239 0 rfl))))
      have e64 : h52 239 1 = 4 := w52
      have e65 : h52 239 2 = h 239 2 := ((u52 239 2 rfl).trans ((u48 239 2 rfl).trans ((u32 239 2 rfl).trans (u22 239 2 rfl))))
      have b66 := gi_b (lo := 0) (hi := 999) g 239 3 rfl
      have e67 : h52 239 3 = h 239 3 := ((u52 239 3 rfl).trans ((u48 239 3 rfl).trans ((u32 239 3 rfl).trans (u22 239 3 rfl))))
      have b68 := gi_b (lo := 0) (hi := 999) g 239 4 rfl
      have e69 : h52 239 4 = h 239 4 := ((u52 239 4 rfl).trans ((u48 239 4 rfl).trans ((u32 239 4 rfl).trans (u22 239 4 rfl))))
      have b70 := gi_b (lo := 0) (hi := 999) g 239 6 rfl
      have e71 : h52 239 6 = h 239 6 := ((u52 239 6 rfl).trans ((u48 239 6 rfl).trans ((u32 239 6 rfl).trans (u22 239 6 rfl))))
      have b72 := gi_b (lo := 0) (hi := 999) g 239 8 rfl
      have e73 : h52 239 8 = h 239 8 := ((u52 239 8 rfl).trans ((u48 239 8 rfl).trans ((u32 239 8 rfl).trans (u22 239 8 rfl))))
      have b74 := gi_b (lo := 0) (hi := 999) g 239 9 rfl
      have e75 : h52 239 9 = h 239 9 := ((u52 239 9 rfl).trans ((u48 239 9 rfl).trans ((u32 239 9 rfl).trans (u22 239 9 rfl))))
      have b76 := gi_b (lo := 0) (hi := 1) g 236 23 rfl
      have e77 : h52 236 23 = h 236 23 := ((u52 236 23 rfl).trans ((u48 236 23 rfl).trans ((u32 236 23 rfl).trans (u22 236 23 rfl))))
      have b78 := gi_b (lo := 0) (hi := 1) g 236 24 rfl
      have e79 : h52 236 24 = h 236 24 := ((u52 236 24 rfl).trans ((u48 236 24 rfl).trans ((u32 236 24 rfl).trans (u22 236 24 rfl))))
      have b80 := gi_b (lo := 0) (hi := 1) g 236 25 rfl
      have e81 : h52 236 25 = h 236 25 := ((u52 236 25 rfl).trans ((u48 236 25 rfl).trans ((u32 236 25 rfl).trans (u22 236 25 rfl))))
      have b82 := gi_b (lo := 0) (hi := 1) g 236 26 rfl
      have e83 : h52 236 26 = h 236 26 := ((u52 236 26 rfl).trans ((u48 236 26 rfl).trans ((u32 236 26 rfl).trans (u22 236 26 rfl))))
      have e84 : h52 236 5 = h32 236 5 := ((u52 236 5 rfl).trans (u48 236 5 rfl))
      have e85 : h52 236 6 = h32 236 6 := ((u52 236 6 rfl).trans (u48 236 6 rfl))
      have e86 : h52 236 7 = h32 236 7 := ((u52 236 7 rfl).trans (u48 236 7 rfl))
      have e87 : h52 236 12 = h32 236 12 := ((u52 236 12 rfl).trans (u48 236 12 rfl))
      exact k h52 g52 F53 (show (h 236 4) ≤ (h52 236 4) by omega) (show (h52 236 4) ≤ (h 236 3) by omega) (show 1 ≤ (h52 236 8) ∨ ((h52 239 5) ≤ 9 ∧ 1 ≤ (h52 239 5) ∧ (h52 239 7) ≤ 3 ∧ (h52 239 15) ≤ 6 ∧ (h52 239 16) ≤ 6 ∧ (h52 239 17) ≤ 6 ∧ (h52 239 18) ≤ 6) by omega) (show (h52 236 8) ≠ 0 ∨ (h52 236 9) = -1 by omega) (by unfold tk_lane tk_num; (try dsimp only); (repeat (first | rw [if_pos (by omega)] | rw [if_neg (by omega)])); (repeat ((first | unfold tk_num); (try dsimp only); (repeat (first | rw [if_pos (by omega)] | rw [if_neg (by omega)])))); exact tk_ORs (by omega) (by first | assumption | exact tk_mv (by assumption) (by omega) (by omega) (by omega) (by omega) (by omega)) (CVr.lane (c := (h 239 1).toNat) xq1 (by omega) (by omega) (fun i _ _ => ((u52 239 i (fn_i (by omega) fn_0)).trans ((u48 239 i (fn_i (by omega) fn_0)).trans ((u32 239 i (fo_nk rfl)).trans (u22 239 i (fo_nk rfl)))))) (fun i _ _ => ((u52 236 i (fn_a (by omega) fn_0)).trans ((u48 236 i (fn_a (by omega) fn_0)).trans ((u32 236 i (fn_i (by omega) (fn_i (by omega) (fn_i (by omega) (fn_i (by omega) (fn_i (by omega) (fn_i (by omega) (fn_i (by omega) fn_0)))))))).trans (u22 236 i (fn_i (by omega) (fn_i (by omega) (fn_i (by omega) (fn_i (by omega) (fn_i (by omega) fn_0)))))))))) (by rw [show 15 + (h 239 1).toNat = 18 by omega]; exact ((u52 239 18 rfl).trans w48).trans (by omega)) (fun i => ((u52 244 i (fn_a (by omega) fn_0)).trans ((u48 244 i (fn_a (by omega) fn_0)).trans ((u32 244 i (fo_nk rfl)).trans (u22 244 i (fo_nk rfl)))))) (by omega) (by omega) (by omega)))
    ·
      refine wr_is (k0 := 239) (a := 18) (f := 18) (x := z35) (bl := 0) (bh := 999) (nx := 33) (r1 := 0) (r2 := 0) (r3 := 0) rfl (by decide) rfl (by omega) (by omega) (by decide) g32 rfl (by omega) (fun h46 g46 w46 u46 => ?_)
      have F47 := F37.then rfl u46
      refine wi_aload_n (i := 0) (x := 236) (nx := 34) (r1 := 0) (r2 := 0) (r3 := 0) rfl rfl ?_
      refine wr_V (k0 := 236) (rest := []) (as := [.ref 236]) (nx := 37) (r1 := 219) (r2 := 0) (r3 := 11) rfl rfl rfl (of_decide_eq_true rfl) rfl rfl (by decide) rfl rfl (of_decide_eq_true rfl) (of_decide_eq_true rfl) ?_
      refine wi_aload_n (i := 0) (x := 236) (nx := 1) (r1 := 0) (r2 := 0) (r3 := 0) rfl rfl ?_
      refine wr_gi0 (k0 := 236) (x := h32 236 8) (nx := 4) (r1 := 11) (r2 := 8) (r3 := 0) rfl rfl (by decide) rfl ⟨rfl, rfl⟩ rfl (u46 236 8 rfl) ?_
      refine wi_if (cd := .ne) (nx := 7) (r1 := 11) (r2 := 0) (r3 := 0) rfl (by omega) (fun (q48 : (h32 236 8) ≠ 0) => ?_) (fun (q48 : ¬ ((h32 236 8) ≠ 0)) => by exfalso; omega)
      refine wi_iconst (n := 0) (nx := 12) (r1 := 0) (r2 := 0) (r3 := 0) rfl ?_
      refine wi_zreturn (nx := 13) (r1 := 0) (r2 := 0) (r3 := 0) rfl rfl (by omega) ?_
      refine wk_i ?_
      refine wi_if (cd := .eq) (nx := 40) (r1 := 50) (r2 := 0) (r3 := 0) rfl (by omega) (fun (q49 : 0 = 0) => ?_) (fun (q49 : ¬ (0 = 0)) => by exfalso; omega)
      refine wi_return (nx := 51) (r1 := 0) (r2 := 0) (r3 := 0) rfl rfl ?_
      have e50 : h46 236 4 = h32 236 4 := (u46 236 4 rfl)
      have e51 : h46 236 8 = h32 236 8 := (u46 236 8 rfl)
      have e52 : h46 239 5 = h 239 5 := ((u46 239 5 rfl).trans ((u32 239 5 rfl).trans (u22 239 5 rfl)))
      have e53 : h46 239 7 = h 239 7 := ((u46 239 7 rfl).trans ((u32 239 7 rfl).trans (u22 239 7 rfl)))
      have e54 : h46 239 15 = h 239 15 := ((u46 239 15 rfl).trans ((u32 239 15 rfl).trans (u22 239 15 rfl)))
      have e55 : h46 239 16 = h 239 16 := ((u46 239 16 rfl).trans ((u32 239 16 rfl).trans (u22 239 16 rfl)))
      have e56 : h46 239 17 = h 239 17 := ((u46 239 17 rfl).trans ((u32 239 17 rfl).trans (u22 239 17 rfl)))
      have e57 : h46 239 18 = z35 := w46
      have e58 : h46 236 9 = h32 236 9 := (u46 236 9 rfl)
      exact k h46 g46 F47 (show (h 236 4) ≤ (h46 236 4) by omega) (show (h46 236 4) ≤ (h 236 3) by omega) (show 1 ≤ (h46 236 8) ∨ ((h46 239 5) ≤ 9 ∧ 1 ≤ (h46 239 5) ∧ (h46 239 7) ≤ 3 ∧ (h46 239 15) ≤ 6 ∧ (h46 239 16) ≤ 6 ∧ (h46 239 17) ≤ 6 ∧ (h46 239 18) ≤ 6) by omega) (show (h46 236 8) ≠ 0 ∨ (h46 236 9) = -1 by omega) (by unfold tk_lane tk_num; (try dsimp only); (repeat (first | rw [if_pos (by omega)] | rw [if_neg (by omega)])); (repeat ((first | unfold tk_num); (try dsimp only); (repeat (first | rw [if_pos (by omega)] | rw [if_neg (by omega)])))); first | exact tk_ORe (by omega) (by omega) (by omega) | ((repeat' split) <;> (first | exact tk_ORe (by omega) (by omega) (by omega) | (exfalso; omega))))
    ·
      refine wr_is (k0 := 239) (a := 18) (f := 18) (x := z35) (bl := 0) (bh := 999) (nx := 33) (r1 := 0) (r2 := 0) (r3 := 0) rfl (by decide) rfl (by omega) (by omega) (by decide) g32 rfl (by omega) (fun h46 g46 w46 u46 => ?_)
      have F47 := F37.then rfl u46
      refine wi_aload_n (i := 0) (x := 236) (nx := 34) (r1 := 0) (r2 := 0) (r3 := 0) rfl rfl ?_
      refine wr_V (k0 := 236) (rest := []) (as := [.ref 236]) (nx := 37) (r1 := 219) (r2 := 0) (r3 := 11) rfl rfl rfl (of_decide_eq_true rfl) rfl rfl (by decide) rfl rfl (of_decide_eq_true rfl) (of_decide_eq_true rfl) ?_
      refine wi_aload_n (i := 0) (x := 236) (nx := 1) (r1 := 0) (r2 := 0) (r3 := 0) rfl rfl ?_
      refine wr_gi0 (k0 := 236) (x := h32 236 8) (nx := 4) (r1 := 11) (r2 := 8) (r3 := 0) rfl rfl (by decide) rfl ⟨rfl, rfl⟩ rfl (u46 236 8 rfl) ?_
      refine wi_if (cd := .ne) (nx := 7) (r1 := 11) (r2 := 0) (r3 := 0) rfl (by omega) (fun (q48 : (h32 236 8) ≠ 0) => ?_) (fun (q48 : ¬ ((h32 236 8) ≠ 0)) => by exfalso; omega)
      refine wi_iconst (n := 0) (nx := 12) (r1 := 0) (r2 := 0) (r3 := 0) rfl ?_
      refine wi_zreturn (nx := 13) (r1 := 0) (r2 := 0) (r3 := 0) rfl rfl (by omega) ?_
      refine wk_i ?_
      refine wi_if (cd := .eq) (nx := 40) (r1 := 50) (r2 := 0) (r3 := 0) rfl (by omega) (fun (q49 : 0 = 0) => ?_) (fun (q49 : ¬ (0 = 0)) => by exfalso; omega)
      refine wi_return (nx := 51) (r1 := 0) (r2 := 0) (r3 := 0) rfl rfl ?_
      have e50 : h46 236 4 = h32 236 4 := (u46 236 4 rfl)
      have e51 : h46 236 8 = h32 236 8 := (u46 236 8 rfl)
      have e52 : h46 239 5 = h 239 5 := ((u46 239 5 rfl).trans ((u32 239 5 rfl).trans (u22 239 5 rfl)))
      have e53 : h46 239 7 = h 239 7 := ((u46 239 7 rfl).trans ((u32 239 7 rfl).trans (u22 239 7 rfl)))
      have e54 : h46 239 15 = h 239 15 := ((u46 239 15 rfl).trans ((u32 239 15 rfl).trans (u22 239 15 rfl)))
      have e55 : h46 239 16 = h 239 16 := ((u46 239 16 rfl).trans ((u32 239 16 rfl).trans (u22 239 16 rfl)))
      have e56 : h46 239 17 = h 239 17 := ((u46 239 17 rfl).trans ((u32 239 17 rfl).trans (u22 239 17 rfl)))
      have e57 : h46 239 18 = z35 := w46
      have e58 : h46 236 9 = h32 236 9 := (u46 236 9 rfl)
      exact k h46 g46 F47 (show (h 236 4) ≤ (h46 236 4) by omega) (show (h46 236 4) ≤ (h 236 3) by omega) (show 1 ≤ (h46 236 8) ∨ ((h46 239 5) ≤ 9 ∧ 1 ≤ (h46 239 5) ∧ (h46 239 7) ≤ 3 ∧ (h46 239 15) ≤ 6 ∧ (h46 239 16) ≤ 6 ∧ (h46 239 17) ≤ 6 ∧ (h46 239 18) ≤ 6) by omega) (show (h46 236 8) ≠ 0 ∨ (h46 236 9) = -1 by omega) (by unfold tk_lane tk_num; (try dsimp only); (repeat (first | rw [if_pos (by omega)] | rw [if_neg (by omega)])); (repeat ((first | unfold tk_num); (try dsimp only); (repeat (first | rw [if_pos (by omega)] | rw [if_neg (by omega)])))); first | exact tk_ORe (by omega) (by omega) (by omega) | ((repeat' split) <;> (first | exact tk_ORe (by omega) (by omega) (by omega) | (exfalso; omega))))
  ·
    refine wr_ia (k0 := 239) (a := 1) (f := 1) (x := 4) (nx := 6) (r1 := 0) (r2 := 0) (r3 := 0) rfl (by decide) rfl (by omega) (by omega) (by decide) q18 ?_
    refine wi_istore_n (i := 1) (e := 4) (lo2 := [(1, vi 4), (0, .ref 236)]) (nx := 7) (r1 := 0) (r2 := 0) (r3 := 0) rfl rfl ?_
    refine wi_aload_n (i := 0) (x := 236) (nx := 8) (r1 := 0) (r2 := 0) (r3 := 0) rfl rfl ?_
    refine wi_iconst (n := 1) (nx := 9) (r1 := 0) (r2 := 0) (r3 := 0) rfl ?_
    refine wi_iconst (n := 4) (nx := 10) (r1 := 0) (r2 := 0) (r3 := 0) rfl ?_
    refine wr_V (k0 := 236) (rest := []) (as := [.ref 236, vi 1, vi 4]) (nx := 13) (r1 := 223) (r2 := 2) (r3 := 11) rfl rfl rfl (of_decide_eq_true rfl) rfl rfl (by decide) rfl rfl (of_decide_eq_true rfl) (of_decide_eq_true rfl) ?_
    refine wi_aload_n (i := 0) (x := 236) (nx := 1) (r1 := 0) (r2 := 0) (r3 := 0) rfl rfl ?_
    refine wr_gr (k0 := 236) (x := 239) (nx := 4) (r1 := 11) (r2 := 14) (r3 := 0) rfl rfl (by decide) rfl ⟨rfl, rfl⟩ rfl ?_
    refine wi_iload_n (i := 1) (e := 1) (nx := 5) (r1 := 0) (r2 := 0) (r3 := 0) rfl rfl ?_
    refine wr_ia (k0 := 239) (a := 1) (f := 1) (x := 4) (nx := 6) (r1 := 0) (r2 := 0) (r3 := 0) rfl (by decide) rfl (by omega) (by omega) (by decide) q18 ?_
    refine wi_iload_n (i := 2) (e := 4) (nx := 7) (r1 := 0) (r2 := 0) (r3 := 0) rfl rfl ?_
    refine wi_icmp (cd := .ne) (nx := 10) (r1 := 15) (r2 := 0) (r3 := 0) rfl (by omega) (by omega) (fun (q19 : 4 ≠ 4) => by exfalso; omega) (fun (q19 : ¬ (4 ≠ 4)) => ?_)
    refine wi_aload_n (i := 0) (x := 236) (nx := 11) (r1 := 0) (r2 := 0) (r3 := 0) rfl rfl ?_
    refine wi_iconst (n := 5) (nx := 12) (r1 := 0) (r2 := 0) (r3 := 0) rfl ?_
    refine wr_V (k0 := 236) (rest := []) (as := [.ref 236, vi 5]) (nx := 15) (r1 := 224) (r2 := 1) (r3 := 11) rfl rfl rfl (of_decide_eq_true rfl) rfl rfl (by decide) rfl rfl (of_decide_eq_true rfl) (of_decide_eq_true rfl) ?_
    refine ct_224_236 hcr  g 5 (by omega)  (fun h20 g20 u20 (p20_0 : 1 ≤ (h20 236 8)) (p20_1 : (1 ≤ (h 236 8) ∧ (h20 236 8) = (h 236 8) ∧ (h20 236 9) = (h 236 9)) ∨ ((h 236 8) = 0 ∧ (h20 236 9) = (h 236 5) ∧ (((h 236 6) = 4 ∧ (h20 236 8) = 1) ∨ ((h 236 6) ≠ 4 ∧ (h20 236 8) = 5)))) => ?_)
    have F21 := F0.then (by decide +kernel) u20
    have b22 := gi_b (lo := 0) (hi := 5) g20 236 8 rfl
    have b23 := gi_b (lo := -2147483648) (hi := 2147483647) g20 236 9 rfl
    refine wk_n ?_
    refine wi_aload_n (i := 0) (x := 236) (nx := 16) (r1 := 0) (r2 := 0) (r3 := 0) rfl rfl ?_
    refine wr_V (k0 := 236) (rest := []) (as := [.ref 236]) (nx := 19) (r1 := 219) (r2 := 0) (r3 := 11) rfl rfl rfl (of_decide_eq_true rfl) rfl rfl (by decide) rfl rfl (of_decide_eq_true rfl) (of_decide_eq_true rfl) ?_
    refine wi_aload_n (i := 0) (x := 236) (nx := 1) (r1 := 0) (r2 := 0) (r3 := 0) rfl rfl ?_
    refine wr_gi0 (k0 := 236) (x := h20 236 8) (nx := 4) (r1 := 11) (r2 := 8) (r3 := 0) rfl rfl (by decide) rfl ⟨rfl, rfl⟩ rfl rfl ?_
    refine wi_if (cd := .ne) (nx := 7) (r1 := 11) (r2 := 0) (r3 := 0) rfl (by omega) (fun (q24 : (h20 236 8) ≠ 0) => ?_) (fun (q24 : ¬ ((h20 236 8) ≠ 0)) => by exfalso; omega)
    refine wi_iconst (n := 0) (nx := 12) (r1 := 0) (r2 := 0) (r3 := 0) rfl ?_
    refine wi_zreturn (nx := 13) (r1 := 0) (r2 := 0) (r3 := 0) rfl rfl (by omega) ?_
    refine wk_i ?_
    refine wi_if (cd := .eq) (nx := 22) (r1 := 26) (r2 := 0) (r3 := 0) rfl (by omega) (fun (q25 : 0 = 0) => ?_) (fun (q25 : ¬ (0 = 0)) => by exfalso; omega)
    refine wi_aload_n (i := 0) (x := 236) (nx := 27) (r1 := 0) (r2 := 0) (r3 := 0) rfl rfl ?_
    refine wr_V (k0 := 236) (rest := []) (as := [.ref 236]) (nx := 30) (r1 := 219) (r2 := 0) (r3 := 11) rfl rfl rfl (of_decide_eq_true rfl) rfl rfl (by decide) rfl rfl (of_decide_eq_true rfl) (of_decide_eq_true rfl) ?_
    refine wi_aload_n (i := 0) (x := 236) (nx := 1) (r1 := 0) (r2 := 0) (r3 := 0) rfl rfl ?_
    refine wr_gi0 (k0 := 236) (x := h20 236 8) (nx := 4) (r1 := 11) (r2 := 8) (r3 := 0) rfl rfl (by decide) rfl ⟨rfl, rfl⟩ rfl rfl ?_
    refine wi_if (cd := .ne) (nx := 7) (r1 := 11) (r2 := 0) (r3 := 0) rfl (by omega) (fun (q26 : (h20 236 8) ≠ 0) => ?_) (fun (q26 : ¬ ((h20 236 8) ≠ 0)) => by exfalso; omega)
    refine wi_iconst (n := 0) (nx := 12) (r1 := 0) (r2 := 0) (r3 := 0) rfl ?_
    refine wi_zreturn (nx := 13) (r1 := 0) (r2 := 0) (r3 := 0) rfl rfl (by omega) ?_
    refine wk_i ?_
    refine wi_zreturn (nx := 31) (r1 := 0) (r2 := 0) (r3 := 0) rfl rfl (by omega) ?_
    refine wk_i ?_
    refine wi_if (cd := .ne) (nx := 16) (r1 := 17) (r2 := 0) (r3 := 0) rfl (by omega) (fun (q27 : 0 ≠ 0) => by exfalso; omega) (fun (q27 : ¬ (0 ≠ 0)) => ?_)
    refine wi_return (nx := 17) (r1 := 0) (r2 := 0) (r3 := 0) rfl rfl ?_
    have e28 : h20 236 4 = h 236 4 := (u20 236 4 rfl)
    have e29 : h20 239 5 = h 239 5 := (u20 239 5 rfl)
    have e30 : h20 239 7 = h 239 7 := (u20 239 7 rfl)
    have e31 : h20 239 15 = h 239 15 := (u20 239 15 rfl)
    have e32 : h20 239 16 = h 239 16 := (u20 239 16 rfl)
    have e33 : h20 239 17 = h 239 17 := (u20 239 17 rfl)
    have e34 : h20 239 18 = h 239 18 := (u20 239 18 rfl)
    exact k h20 g20 F21 (show (h 236 4) ≤ (h20 236 4) by omega) (show (h20 236 4) ≤ (h 236 3) by omega) (show 1 ≤ (h20 236 8) ∨ ((h20 239 5) ≤ 9 ∧ 1 ≤ (h20 239 5) ∧ (h20 239 7) ≤ 3 ∧ (h20 239 15) ≤ 6 ∧ (h20 239 16) ≤ 6 ∧ (h20 239 17) ≤ 6 ∧ (h20 239 18) ≤ 6) by omega) (show (h20 236 8) ≠ 0 ∨ (h20 236 9) = -1 by omega) (by unfold tk_lane tk_num; (try dsimp only); (repeat (first | rw [if_pos (by omega)] | rw [if_neg (by omega)])); (repeat ((first | unfold tk_num); (try dsimp only); (repeat (first | rw [if_pos (by omega)] | rw [if_neg (by omega)])))); first | exact tk_ORe (by omega) (by omega) (by omega) | ((repeat' split) <;> (first | exact tk_ORe (by omega) (by omega) (by omega) | (exfalso; omega))))
-- method 222: Model.readsColor()V
set_option maxRecDepth 100000 in
set_option maxHeartbeats 100000000 in
theorem ct_222_236 {L : Nat} {xs : Nat → Int32} {d b c : Nat} {h : hp} {cr : Nat → Nat → Option Nat} {Q : hp_Q} (hcr : CR cr)  {tB : Nat → Int} {tn tp : Int} {tS : tk_S} (g : GI h)   (pp0 : h 236 4 ≤ h 236 3) (pp1 : 0 ≤ tp) (pp2 : tp ≤ tn) (pp3 : tp ≤ tk_nx tB tn tp ∧ tk_nx tB tn tp ≤ tn) (pp4 : h 236 8 = 0) (pp5 : h 239 5 ≤ 9) (pp6 : 1 ≤ h 239 5) (pp7 : h 239 7 ≤ 3) (pp8 : h 239 15 ≤ 6) (pp9 : h 239 16 ≤ 6) (pp10 : h 239 17 ≤ 6) (pp11 : h 239 18 ≤ 6) (pp12 : (h 236 4 = tk_nx tB tn tp ∧ h 236 5 = tk_st tB tn tp ∧ ((tk_kd tB tn tp = 0 ∧ h 236 6 = 0) ∨ (tk_kd tB tn tp = 1 ∧ h 236 6 = 1 ∧ h 236 12 = tk_sw tB tn tp) ∨ (tk_kd tB tn tp = 2 ∧ h 236 6 = 2 ∧ h 236 7 = tk_nb tB tn tp) ∨ (tk_kd tB tn tp = 3 ∧ h 236 6 = 3 ∧ h 236 7 = 59) ∨ (tk_kd tB tn tp = 4 ∧ h 236 6 = 3 ∧ h 236 7 = 40) ∨ (tk_kd tB tn tp = 5 ∧ h 236 6 = 3 ∧ h 236 7 = 41) ∨ (tk_kd tB tn tp = 6 ∧ h 236 6 = 4)))) (pp13 : tS 0 ≤ 5 ∧ tS 1 ≤ 4 ∧ tS 2 ≤ 12) (pp14 : h 236 9 = -1) (pp15 : tk_kd tB tn tp = 1) (xq0 : RefB tB tn h) (xq1 : CVr tS h) (k : ∀ (h2 : hp) , GI h2 → FR [(244, 244, none), (236, 236, some (4, 4)), (236, 236, some (5, 5)), (236, 236, some (6, 6)), (236, 236, some (7, 7)), (236, 236, some (8, 8)), (236, 236, some (9, 9)), (236, 236, some (12, 12)), (239, 239, some (0, 0)), (239, 239, some (10, 14))] h h2 → (h 236 4 ≤ h2 236 4) → (h2 236 4 ≤ h 236 3) → (1 ≤ h2 236 8 ∨ (h2 239 5 ≤ 9 ∧ 1 ≤ h2 239 5 ∧ h2 239 7 ≤ 3 ∧ h2 239 15 ≤ 6 ∧ h2 239 16 ≤ 6 ∧ h2 239 17 ≤ 6 ∧ h2 239 18 ≤ 6)) → (h2 236 8 ≠ 0 ∨ h2 236 9 = -1) → (tk_OR tB tn (tk_color tB tn tp tS) h2) → Q (.inl none) (hp_w h2 cr) b c) : wp (md_xa (L, xs)) (d + 5) 222 (0, [(0, .ref 236)], [], hp_w h cr, b, c) Q := by
  have F0 : FR [(244, 244, none), (236, 236, some (4, 4)), (236, 236, some (5, 5)), (236, 236, some (6, 6)), (236, 236, some (7, 7)), (236, 236, some (8, 8)), (236, 236, some (9, 9)), (236, 236, some (12, 12)), (239, 239, some (0, 0)), (239, 239, some (10, 14))] h h := FR.refl
  have tb_1 : h 236 3 = tn := xq0.2.1
  have tb_2 : 0 ≤ tn ∧ tn ≤ 800 := xq0.2.2
  obtain ⟨⟨rv_0, rv_1, rv_2, rv_3, rv_4, rv_5, rv_6, rv_7, rv_8, rv_9⟩, ⟨rf_0, rf_1, rf_2, rf_3⟩, -⟩ := id xq1
  have b1 := gi_b (lo := 0) (hi := 5) g 239 0 rfl
  have b2 := gi_b (lo := 0) (hi := 4) g 239 1 rfl
  have b3 := gi_b (lo := 0) (hi := 12) g 239 2 rfl
  have b4 := gi_b (lo := 0) (hi := 800) g 236 4 rfl
  have b5 := gi_b (lo := 0) (hi := 800) g 236 3 rfl
  have b6 := gi_b (lo := 0) (hi := 5) g 236 8 rfl
  have b7 := gi_b (lo := 0) (hi := 999) g 239 5 rfl
  have b8 := gi_b (lo := 0) (hi := 999) g 239 7 rfl
  have b9 := gi_b (lo := 0) (hi := 999) g 239 15 rfl
  have b10 := gi_b (lo := 0) (hi := 999) g 239 16 rfl
  have b11 := gi_b (lo := 0) (hi := 999) g 239 17 rfl
  have b12 := gi_b (lo := 0) (hi := 999) g 239 18 rfl
  have b13 := gi_b (lo := 0) (hi := 800) g 236 5 rfl
  have b14 := gi_b (lo := 0) (hi := 4) g 236 6 rfl
  have b15 := gi_b (lo := -9223372036854775808) (hi := 9223372036854775807) g 236 12 rfl
  have b16 := gi_b (lo := 0) (hi := 999) g 236 7 rfl
  have b17 := gi_b (lo := -2147483648) (hi := 2147483647) g 236 9 rfl
  refine wi_aload_n (i := 0) (x := 236) (nx := 1) (r1 := 0) (r2 := 0) (r3 := 0) rfl rfl ?_
  refine wr_gr (k0 := 236) (x := 239) (nx := 4) (r1 := 11) (r2 := 14) (r3 := 0) rfl rfl (by decide) rfl ⟨rfl, rfl⟩ rfl ?_
  refine wi_iconst (n := 0) (nx := 5) (r1 := 0) (r2 := 0) (r3 := 0) rfl ?_
  refine wr_ia (k0 := 239) (a := 0) (f := 0) (x := h 239 0) (nx := 6) (r1 := 0) (r2 := 0) (r3 := 0) rfl (by decide) rfl (by omega) (by omega) (by decide) rfl ?_
  refine wi_istore_n (i := 1) (e := h 239 0) (lo2 := [(1, vi (h 239 0)), (0, .ref 236)]) (nx := 7) (r1 := 0) (r2 := 0) (r3 := 0) rfl rfl ?_
  refine wi_aload_n (i := 0) (x := 236) (nx := 8) (r1 := 0) (r2 := 0) (r3 := 0) rfl rfl ?_
  refine wi_iconst (n := 0) (nx := 9) (r1 := 0) (r2 := 0) (r3 := 0) rfl ?_
  refine wi_iconst (n := 5) (nx := 10) (r1 := 0) (r2 := 0) (r3 := 0) rfl ?_
  refine wr_V (k0 := 236) (rest := []) (as := [.ref 236, vi 0, vi 5]) (nx := 13) (r1 := 223) (r2 := 2) (r3 := 11) rfl rfl rfl (of_decide_eq_true rfl) rfl rfl (by decide) rfl rfl (of_decide_eq_true rfl) (of_decide_eq_true rfl) ?_
  refine wi_aload_n (i := 0) (x := 236) (nx := 1) (r1 := 0) (r2 := 0) (r3 := 0) rfl rfl ?_
  refine wr_gr (k0 := 236) (x := 239) (nx := 4) (r1 := 11) (r2 := 14) (r3 := 0) rfl rfl (by decide) rfl ⟨rfl, rfl⟩ rfl ?_
  refine wi_iload_n (i := 1) (e := 0) (nx := 5) (r1 := 0) (r2 := 0) (r3 := 0) rfl rfl ?_
  refine wr_ia (k0 := 239) (a := 0) (f := 0) (x := h 239 0) (nx := 6) (r1 := 0) (r2 := 0) (r3 := 0) rfl (by decide) rfl (by omega) (by omega) (by decide) rfl ?_
  refine wi_iload_n (i := 2) (e := 5) (nx := 7) (r1 := 0) (r2 := 0) (r3 := 0) rfl rfl ?_
  refine wi_icmp (cd := .ne) (nx := 10) (r1 := 15) (r2 := 0) (r3 := 0) rfl (by omega) (by omega) (fun (q18 : (h 239 0) ≠ 5) => ?_) (fun (q18 : ¬ ((h 239 0) ≠ 5)) => ?_)
  ·
    refine wi_aload_n (i := 0) (x := 236) (nx := 16) (r1 := 0) (r2 := 0) (r3 := 0) rfl rfl ?_
    refine wr_V (k0 := 236) (rest := []) (as := [.ref 236]) (nx := 19) (r1 := 219) (r2 := 0) (r3 := 11) rfl rfl rfl (of_decide_eq_true rfl) rfl rfl (by decide) rfl rfl (of_decide_eq_true rfl) (of_decide_eq_true rfl) ?_
    refine wi_aload_n (i := 0) (x := 236) (nx := 1) (r1 := 0) (r2 := 0) (r3 := 0) rfl rfl ?_
    refine wr_gi0 (k0 := 236) (x := h 236 8) (nx := 4) (r1 := 11) (r2 := 8) (r3 := 0) rfl rfl (by decide) rfl ⟨rfl, rfl⟩ rfl rfl ?_
    refine wi_if (cd := .ne) (nx := 7) (r1 := 11) (r2 := 0) (r3 := 0) rfl (by omega) (fun (q19 : (h 236 8) ≠ 0) => by exfalso; omega) (fun (q19 : ¬ ((h 236 8) ≠ 0)) => ?_)
    refine wi_iconst (n := 1) (nx := 8) (r1 := 0) (r2 := 0) (r3 := 0) rfl ?_
    refine wi_goto (nx := 11) (r1 := 12) (r2 := 0) (r3 := 0) rfl ?_
    refine wi_zreturn (nx := 13) (r1 := 0) (r2 := 0) (r3 := 0) rfl rfl (by omega) ?_
    refine wk_i ?_
    refine wi_if (cd := .eq) (nx := 22) (r1 := 26) (r2 := 0) (r3 := 0) rfl (by omega) (fun (q20 : 1 = 0) => by exfalso; omega) (fun (q20 : ¬ (1 = 0)) => ?_)
    refine wi_aload_n (i := 0) (x := 236) (nx := 23) (r1 := 0) (r2 := 0) (r3 := 0) rfl rfl ?_
    refine wr_V (k0 := 236) (rest := []) (as := [.ref 236]) (nx := 26) (r1 := 215) (r2 := 0) (r3 := 11) rfl rfl rfl (of_decide_eq_true rfl) rfl rfl (by decide) rfl rfl (of_decide_eq_true rfl) (of_decide_eq_true rfl) ?_
    refine ct_215_236 hcr  g   (show (h 236 4) ≤ (h 236 3) by omega) (show (h 236 4) = (tk_nx tB tn tp) by omega) (show 0 ≤ (tk_nx tB tn tp) by omega) (show (tk_nx tB tn tp) ≤ tn by omega) xq0 (fun h21 g21 u21 (p21_0 : (h 236 4) ≤ (h21 236 4)) (p21_1 : (h21 236 4) ≤ (h 236 3)) (p21_2 : ((h21 236 4) = tk_nx tB tn (tk_nx tB tn tp) ∧ (h21 236 5) = tk_st tB tn (tk_nx tB tn tp) ∧ ((tk_kd tB tn (tk_nx tB tn tp) = 0 ∧ (h21 236 6) = 0) ∨ (tk_kd tB tn (tk_nx tB tn tp) = 1 ∧ (h21 236 6) = 1 ∧ (h21 236 12) = tk_sw tB tn (tk_nx tB tn tp)) ∨ (tk_kd tB tn (tk_nx tB tn tp) = 2 ∧ (h21 236 6) = 2 ∧ (h21 236 7) = tk_nb tB tn (tk_nx tB tn tp)) ∨ (tk_kd tB tn (tk_nx tB tn tp) = 3 ∧ (h21 236 6) = 3 ∧ (h21 236 7) = 59) ∨ (tk_kd tB tn (tk_nx tB tn tp) = 4 ∧ (h21 236 6) = 3 ∧ (h21 236 7) = 40) ∨ (tk_kd tB tn (tk_nx tB tn tp) = 5 ∧ (h21 236 6) = 3 ∧ (h21 236 7) = 41) ∨ (tk_kd tB tn (tk_nx tB tn tp) = 6 ∧ (h21 236 6) = 4)))) (p21_3 : (tk_nx tB tn tp) ≤ tk_nx tB tn (tk_nx tB tn tp) ∧ tk_nx tB tn (tk_nx tB tn tp) ≤ tn) => ?_)
    have F22 := F0.then (by decide +kernel) u21
    have b23 := gi_b (lo := 0) (hi := 800) g21 236 4 rfl
    have b24 := gi_b (lo := 0) (hi := 800) g21 236 5 rfl
    have b25 := gi_b (lo := 0) (hi := 4) g21 236 6 rfl
    have b26 := gi_b (lo := -9223372036854775808) (hi := 9223372036854775807) g21 236 12 rfl
    have b27 := gi_b (lo := 0) (hi := 999) g21 236 7 rfl
    have tN28 := @tk_nx_b tB tn (tk_nx tB tn tp) (by omega) (by omega)
    refine wk_n ?_
    refine wi_aload_n (i := 0) (x := 236) (nx := 27) (r1 := 0) (r2 := 0) (r3 := 0) rfl rfl ?_
    refine wr_V (k0 := 236) (rest := []) (as := [.ref 236]) (nx := 30) (r1 := 219) (r2 := 0) (r3 := 11) rfl rfl rfl (of_decide_eq_true rfl) rfl rfl (by decide) rfl rfl (of_decide_eq_true rfl) (of_decide_eq_true rfl) ?_
    refine wi_aload_n (i := 0) (x := 236) (nx := 1) (r1 := 0) (r2 := 0) (r3 := 0) rfl rfl ?_
    refine wr_gi0 (k0 := 236) (x := h 236 8) (nx := 4) (r1 := 11) (r2 := 8) (r3 := 0) rfl rfl (by decide) rfl ⟨rfl, rfl⟩ rfl (u21 236 8 rfl) ?_
    refine wi_if (cd := .ne) (nx := 7) (r1 := 11) (r2 := 0) (r3 := 0) rfl (by omega) (fun (q29 : (h 236 8) ≠ 0) => by exfalso; omega) (fun (q29 : ¬ ((h 236 8) ≠ 0)) => ?_)
    refine wi_iconst (n := 1) (nx := 8) (r1 := 0) (r2 := 0) (r3 := 0) rfl ?_
    refine wi_goto (nx := 11) (r1 := 12) (r2 := 0) (r3 := 0) rfl ?_
    refine wi_zreturn (nx := 13) (r1 := 0) (r2 := 0) (r3 := 0) rfl rfl (by omega) ?_
    refine wk_i ?_
    refine wi_zreturn (nx := 31) (r1 := 0) (r2 := 0) (r3 := 0) rfl rfl (by omega) ?_
    refine wk_i ?_
    refine wi_if (cd := .ne) (nx := 16) (r1 := 17) (r2 := 0) (r3 := 0) rfl (by omega) (fun (q30 : 1 ≠ 0) => ?_) (fun (q30 : ¬ (1 ≠ 0)) => by exfalso; omega)
    refine wi_aload_n (i := 0) (x := 236) (nx := 18) (r1 := 0) (r2 := 0) (r3 := 0) rfl rfl ?_
    refine wr_V (k0 := 236) (rest := []) (as := [.ref 236]) (nx := 21) (r1 := 225) (r2 := 0) (r3 := 11) rfl rfl rfl (of_decide_eq_true rfl) rfl rfl (by decide) rfl rfl (of_decide_eq_true rfl) (of_decide_eq_true rfl) ?_
    have e32 : h21 236 8 = h 236 8 := (u21 236 8 rfl)
    have rb33 := RefB.fr u21 rfl xq0
    refine ct_225_236 hcr  g21   (show 0 ≤ (tk_nx tB tn tp) by omega) (show (tk_nx tB tn tp) ≤ tn by omega) (show (tk_nx tB tn tp) ≤ tk_nx tB tn (tk_nx tB tn tp) ∧ tk_nx tB tn (tk_nx tB tn tp) ≤ tn by omega) (show 1 ≤ (h21 236 8) ∨ ((h21 236 4) = tk_nx tB tn (tk_nx tB tn tp) ∧ (h21 236 5) = tk_st tB tn (tk_nx tB tn tp) ∧ ((tk_kd tB tn (tk_nx tB tn tp) = 0 ∧ (h21 236 6) = 0) ∨ (tk_kd tB tn (tk_nx tB tn tp) = 1 ∧ (h21 236 6) = 1 ∧ (h21 236 12) = tk_sw tB tn (tk_nx tB tn tp)) ∨ (tk_kd tB tn (tk_nx tB tn tp) = 2 ∧ (h21 236 6) = 2 ∧ (h21 236 7) = tk_nb tB tn (tk_nx tB tn tp)) ∨ (tk_kd tB tn (tk_nx tB tn tp) = 3 ∧ (h21 236 6) = 3 ∧ (h21 236 7) = 59) ∨ (tk_kd tB tn (tk_nx tB tn tp) = 4 ∧ (h21 236 6) = 3 ∧ (h21 236 7) = 40) ∨ (tk_kd tB tn (tk_nx tB tn tp) = 5 ∧ (h21 236 6) = 3 ∧ (h21 236 7) = 41) ∨ (tk_kd tB tn (tk_nx tB tn tp) = 6 ∧ (h21 236 6) = 4))) from (Or.inr (show ((h21 236 4) = tk_nx tB tn (tk_nx tB tn tp) ∧ (h21 236 5) = tk_st tB tn (tk_nx tB tn tp) ∧ ((tk_kd tB tn (tk_nx tB tn tp) = 0 ∧ (h21 236 6) = 0) ∨ (tk_kd tB tn (tk_nx tB tn tp) = 1 ∧ (h21 236 6) = 1 ∧ (h21 236 12) = tk_sw tB tn (tk_nx tB tn tp)) ∨ (tk_kd tB tn (tk_nx tB tn tp) = 2 ∧ (h21 236 6) = 2 ∧ (h21 236 7) = tk_nb tB tn (tk_nx tB tn tp)) ∨ (tk_kd tB tn (tk_nx tB tn tp) = 3 ∧ (h21 236 6) = 3 ∧ (h21 236 7) = 59) ∨ (tk_kd tB tn (tk_nx tB tn tp) = 4 ∧ (h21 236 6) = 3 ∧ (h21 236 7) = 40) ∨ (tk_kd tB tn (tk_nx tB tn tp) = 5 ∧ (h21 236 6) = 3 ∧ (h21 236 7) = 41) ∨ (tk_kd tB tn (tk_nx tB tn tp) = 6 ∧ (h21 236 6) = 4))) by first | assumption | exact tk_mv (by assumption) (by omega) (by omega) (by omega) (by omega) (by omega)))) rb33 (fun h31 g31 u31 (p31_0 : (1 ≤ (h21 236 8) ∧ (h31 236 8) = (h21 236 8) ∧ (h31 236 9) = (h21 236 9)) ∨ ((h21 236 8) = 0 ∧ tk_kd tB tn (tk_nx tB tn tp) = 1 ∧ tk_wd (tk_lw tB tn (tk_nx tB tn tp)) = 21 ∧ (h31 236 8) = (h21 236 8) ∧ (h31 236 9) = (h21 236 9)) ∨ ((h21 236 8) = 0 ∧ (tk_kd tB tn (tk_nx tB tn tp) ≠ 1 ∨ tk_wd (tk_lw tB tn (tk_nx tB tn tp)) ≠ 21) ∧ (h31 236 8) = 1 ∧ (h31 236 9) = tk_st tB tn (tk_nx tB tn tp))) (p31_1 : 1 ≤ (h31 236 8) ∨ (h21 236 8) = 0) => ?_)
    have F34 := F22.then (by decide +kernel) u31
    have e35 : h21 236 9 = h 236 9 := (u21 236 9 rfl)
    have b36 := gi_b (lo := 0) (hi := 5) g31 236 8 rfl
    have b37 := gi_b (lo := -2147483648) (hi := 2147483647) g31 236 9 rfl
    refine wk_n ?_
    rcases p31_0 with p31_0 | p31_0 | p31_0
    ·
      exfalso; omega
    ·
      refine wi_aload_n (i := 0) (x := 236) (nx := 22) (r1 := 0) (r2 := 0) (r3 := 0) rfl rfl ?_
      refine wr_V (k0 := 236) (rest := []) (as := [.ref 236]) (nx := 25) (r1 := 219) (r2 := 0) (r3 := 11) rfl rfl rfl (of_decide_eq_true rfl) rfl rfl (by decide) rfl rfl (of_decide_eq_true rfl) (of_decide_eq_true rfl) ?_
      refine wi_aload_n (i := 0) (x := 236) (nx := 1) (r1 := 0) (r2 := 0) (r3 := 0) rfl rfl ?_
      refine wr_gi0 (k0 := 236) (x := h31 236 8) (nx := 4) (r1 := 11) (r2 := 8) (r3 := 0) rfl rfl (by decide) rfl ⟨rfl, rfl⟩ rfl rfl ?_
      refine wi_if (cd := .ne) (nx := 7) (r1 := 11) (r2 := 0) (r3 := 0) rfl (by omega) (fun (q38 : (h31 236 8) ≠ 0) => by exfalso; omega) (fun (q38 : ¬ ((h31 236 8) ≠ 0)) => ?_)
      refine wi_iconst (n := 1) (nx := 8) (r1 := 0) (r2 := 0) (r3 := 0) rfl ?_
      refine wi_goto (nx := 11) (r1 := 12) (r2 := 0) (r3 := 0) rfl ?_
      refine wi_zreturn (nx := 13) (r1 := 0) (r2 := 0) (r3 := 0) rfl rfl (by omega) ?_
      refine wk_i ?_
      refine wi_if (cd := .eq) (nx := 28) (r1 := 41) (r2 := 0) (r3 := 0) rfl (by omega) (fun (q39 : 1 = 0) => by exfalso; omega) (fun (q39 : ¬ (1 = 0)) => ?_)
      refine wi_aload_n (i := 0) (x := 236) (nx := 29) (r1 := 0) (r2 := 0) (r3 := 0) rfl rfl ?_
      refine wr_V (k0 := 236) (rest := []) (as := [.ref 236]) (nx := 32) (r1 := 227) (r2 := 0) (r3 := 11) rfl rfl rfl (of_decide_eq_true rfl) rfl rfl (by decide) rfl rfl (of_decide_eq_true rfl) (of_decide_eq_true rfl) ?_
      have e41 : h31 236 12 = h21 236 12 := (u31 236 12 rfl)
      have rb43 := RefB.fr u31 rfl rb33
      have cr44 := CVr.fr u21 rfl xq1
      have cr45 := CVr.fr u31 rfl cr44
      refine ct_227_236 hcr  g31   (show 0 ≤ (tk_nx tB tn tp) by omega) (show (tk_nx tB tn tp) ≤ tn by omega) (show (tk_nx tB tn tp) ≤ tk_nx tB tn (tk_nx tB tn tp) ∧ tk_nx tB tn (tk_nx tB tn tp) ≤ tn by omega) (show tk_kd tB tn (tk_nx tB tn tp) = 1 → (h31 236 12) = tk_sw tB tn (tk_nx tB tn tp) by omega) rb43 cr45 (fun z42  (fz42 : 0 ≤ z42 ∧ z42 ≤ 5) (p40_0 : z42 ≤ (h31 239 0)) y40_0 => ?_)
      have e46 : h31 239 0 = h 239 0 := ((u31 239 0 rfl).trans (u21 239 0 rfl))
      refine wk_i ?_
      have nd47 : tk_kd tB tn (tk_nx tB tn tp) = 1 → z42 = tk_fi tS (tk_lw tB tn (tk_nx tB tn tp)) := y40_0
      refine wi_iload_n (i := 1) (e := h 239 0) (nx := 33) (r1 := 0) (r2 := 0) (r3 := 0) rfl rfl ?_
      refine wi_icmp (cd := .ge) (nx := 36) (r1 := 41) (r2 := 0) (r3 := 0) rfl (by omega) (by omega) (fun (q48 : (h 239 0) ≤ z42) => ?_) (fun (q48 : ¬ ((h 239 0) ≤ z42)) => ?_)
      ·
        refine wi_aload_n (i := 0) (x := 236) (nx := 42) (r1 := 0) (r2 := 0) (r3 := 0) rfl rfl ?_
        refine wr_V (k0 := 236) (rest := []) (as := [.ref 236]) (nx := 45) (r1 := 219) (r2 := 0) (r3 := 11) rfl rfl rfl (of_decide_eq_true rfl) rfl rfl (by decide) rfl rfl (of_decide_eq_true rfl) (of_decide_eq_true rfl) ?_
        refine wi_aload_n (i := 0) (x := 236) (nx := 1) (r1 := 0) (r2 := 0) (r3 := 0) rfl rfl ?_
        refine wr_gi0 (k0 := 236) (x := h31 236 8) (nx := 4) (r1 := 11) (r2 := 8) (r3 := 0) rfl rfl (by decide) rfl ⟨rfl, rfl⟩ rfl rfl ?_
        refine wi_if (cd := .ne) (nx := 7) (r1 := 11) (r2 := 0) (r3 := 0) rfl (by omega) (fun (q49 : (h31 236 8) ≠ 0) => by exfalso; omega) (fun (q49 : ¬ ((h31 236 8) ≠ 0)) => ?_)
        refine wi_iconst (n := 1) (nx := 8) (r1 := 0) (r2 := 0) (r3 := 0) rfl ?_
        refine wi_goto (nx := 11) (r1 := 12) (r2 := 0) (r3 := 0) rfl ?_
        refine wi_zreturn (nx := 13) (r1 := 0) (r2 := 0) (r3 := 0) rfl rfl (by omega) ?_
        refine wk_i ?_
        refine wi_if (cd := .ne) (nx := 48) (r1 := 49) (r2 := 0) (r3 := 0) rfl (by omega) (fun (q50 : 1 ≠ 0) => ?_) (fun (q50 : ¬ (1 ≠ 0)) => by exfalso; omega)
        refine wi_aload_n (i := 0) (x := 236) (nx := 50) (r1 := 0) (r2 := 0) (r3 := 0) rfl rfl ?_
        refine wr_gr (k0 := 236) (x := 244) (nx := 53) (r1 := 11) (r2 := 19) (r3 := 0) rfl rfl (by decide) rfl ⟨rfl, rfl⟩ rfl ?_
        refine wi_iload_n (i := 1) (e := h 239 0) (nx := 54) (r1 := 0) (r2 := 0) (r3 := 0) rfl rfl ?_
        refine wi_aload_n (i := 0) (x := 236) (nx := 55) (r1 := 0) (r2 := 0) (r3 := 0) rfl rfl ?_
        refine wr_gi1 (k0 := 236) (x := h21 236 12) (nx := 58) (r1 := 11) (r2 := 12) (r3 := 0) rfl rfl (by decide) rfl ⟨rfl, rfl⟩ rfl (u31 236 12 rfl) ?_
        obtain ⟨i51, ei51⟩ : ∃ q : Nat, (h 239 0) = (q : Int) := ⟨(h 239 0).toNat, by omega⟩
        refine wr_ls (k0 := 244) (a := h 239 0) (f := i51) (x := h21 236 12) (bl := -9223372036854775808) (bh := 9223372036854775807) (nx := 59) (r1 := 0) (r2 := 0) (r3 := 0) rfl (by decide) rfl (by omega) (by omega) (by decide) g31 rfl (by omega) (fun h52 g52 w52 u52 => ?_)
        have F53 := F34.then rfl (FR.rngp (lo := 244) (hi := 244) u52 (by decide))
        refine wi_aload_n (i := 0) (x := 236) (nx := 60) (r1 := 0) (r2 := 0) (r3 := 0) rfl rfl ?_
        refine wr_V (k0 := 236) (rest := []) (as := [.ref 236]) (nx := 63) (r1 := 215) (r2 := 0) (r3 := 11) rfl rfl rfl (of_decide_eq_true rfl) rfl rfl (by decide) rfl rfl (of_decide_eq_true rfl) (of_decide_eq_true rfl) ?_
        have e55 : h52 236 4 = h21 236 4 := ((u52 236 4 (fn_a (by omega) fn_0)).trans (u31 236 4 rfl))
        have e56 : h52 236 3 = h 236 3 := ((u52 236 3 (fn_a (by omega) fn_0)).trans ((u31 236 3 rfl).trans (u21 236 3 rfl)))
        have rb57 := RefB.fr u52 rfl rb43
        refine ct_215_236 hcr  g52   (show (h52 236 4) ≤ (h52 236 3) by omega) (show (h52 236 4) = (tk_nx tB tn (tk_nx tB tn tp)) by omega) (show 0 ≤ (tk_nx tB tn (tk_nx tB tn tp)) by omega) (show (tk_nx tB tn (tk_nx tB tn tp)) ≤ tn by omega) rb57 (fun h54 g54 u54 (p54_0 : (h52 236 4) ≤ (h54 236 4)) (p54_1 : (h54 236 4) ≤ (h52 236 3)) (p54_2 : ((h54 236 4) = tk_nx tB tn (tk_nx tB tn (tk_nx tB tn tp)) ∧ (h54 236 5) = tk_st tB tn (tk_nx tB tn (tk_nx tB tn tp)) ∧ ((tk_kd tB tn (tk_nx tB tn (tk_nx tB tn tp)) = 0 ∧ (h54 236 6) = 0) ∨ (tk_kd tB tn (tk_nx tB tn (tk_nx tB tn tp)) = 1 ∧ (h54 236 6) = 1 ∧ (h54 236 12) = tk_sw tB tn (tk_nx tB tn (tk_nx tB tn tp))) ∨ (tk_kd tB tn (tk_nx tB tn (tk_nx tB tn tp)) = 2 ∧ (h54 236 6) = 2 ∧ (h54 236 7) = tk_nb tB tn (tk_nx tB tn (tk_nx tB tn tp))) ∨ (tk_kd tB tn (tk_nx tB tn (tk_nx tB tn tp)) = 3 ∧ (h54 236 6) = 3 ∧ (h54 236 7) = 59) ∨ (tk_kd tB tn (tk_nx tB tn (tk_nx tB tn tp)) = 4 ∧ (h54 236 6) = 3 ∧ (h54 236 7) = 40) ∨ (tk_kd tB tn (tk_nx tB tn (tk_nx tB tn tp)) = 5 ∧ (h54 236 6) = 3 ∧ (h54 236 7) = 41) ∨ (tk_kd tB tn (tk_nx tB tn (tk_nx tB tn tp)) = 6 ∧ (h54 236 6) = 4)))) (p54_3 : (tk_nx tB tn (tk_nx tB tn tp)) ≤ tk_nx tB tn (tk_nx tB tn (tk_nx tB tn tp)) ∧ tk_nx tB tn (tk_nx tB tn (tk_nx tB tn tp)) ≤ tn) => ?_)
        have F58 := F53.then (by decide +kernel) u54
        have b59 := gi_b (lo := 0) (hi := 800) g54 236 4 rfl
        have b60 := gi_b (lo := 0) (hi := 800) g54 236 5 rfl
        have b61 := gi_b (lo := 0) (hi := 4) g54 236 6 rfl
        have b62 := gi_b (lo := -9223372036854775808) (hi := 9223372036854775807) g54 236 12 rfl
        have b63 := gi_b (lo := 0) (hi := 999) g54 236 7 rfl
        have tN64 := @tk_nx_b tB tn (tk_nx tB tn (tk_nx tB tn tp)) (by omega) (by omega)
        refine wk_n ?_
        refine wi_aload_n (i := 0) (x := 236) (nx := 64) (r1 := 0) (r2 := 0) (r3 := 0) rfl rfl ?_
        refine wr_gr (k0 := 236) (x := 239) (nx := 67) (r1 := 11) (r2 := 14) (r3 := 0) rfl rfl (by decide) rfl ⟨rfl, rfl⟩ rfl ?_
        refine wi_bipush (n := 10) (nx := 69) (r1 := 0) (r2 := 0) (r3 := 0) rfl (by decide) ?_
        refine wi_iload_n (i := 1) (e := h 239 0) (nx := 70) (r1 := 0) (r2 := 0) (r3 := 0) rfl rfl ?_
        refine wr_add (nx := 71) (r1 := 0) (r2 := 0) (r3 := 0) rfl (fun e65 (fe65 : e65 = 10 + (h 239 0)) => ?_)
        refine wi_aload_n (i := 0) (x := 236) (nx := 72) (r1 := 0) (r2 := 0) (r3 := 0) rfl rfl ?_
        refine wi_ldc2_w (e := 109099237) (nx := 75) (r1 := 109099237) (r2 := 0) (r3 := 0) rfl (by decide) ?_
        refine wi_iconst (n := 0) (nx := 76) (r1 := 0) (r2 := 0) (r3 := 0) rfl ?_
        refine wi_bipush (n := 99) (nx := 78) (r1 := 0) (r2 := 0) (r3 := 0) rfl (by decide) ?_
        have wk66 : tk_kd tB tn (tk_nx tB tn (tk_nx tB tn tp)) = 1 → (tk_sw tB tn (tk_nx tB tn (tk_nx tB tn tp)) = 109099237 ↔ tk_wd (tk_lw tB tn (tk_nx tB tn (tk_nx tB tn tp))) = 2) := fun e => tk_wk 1 (by decide) (by omega) (by omega) e
        refine wr_V (k0 := 236) (rest := [vi e65, .ref 239]) (as := [.ref 236, vl 109099237, vi 0, vi 99]) (nx := 81) (r1 := 228) (r2 := 3) (r3 := 11) rfl rfl rfl (of_decide_eq_true rfl) rfl rfl (by decide) rfl rfl (of_decide_eq_true rfl) (of_decide_eq_true rfl) ?_
        have e68 : h54 236 3 = h 236 3 := ((u54 236 3 rfl).trans ((u52 236 3 (fn_a (by omega) fn_0)).trans ((u31 236 3 rfl).trans (u21 236 3 rfl))))
        have e69 : h54 236 8 = h31 236 8 := ((u54 236 8 rfl).trans (u52 236 8 (fn_a (by omega) fn_0)))
        have rb71 := RefB.fr u54 rfl rb57
        refine ct_228_236 hcr  g54 109099237 0 99 (by omega) (by omega) (by omega) (show (h54 236 4) ≤ (h54 236 3) by omega) (show 0 ≤ (tk_nx tB tn (tk_nx tB tn tp)) by omega) (show (tk_nx tB tn (tk_nx tB tn tp)) ≤ tn by omega) (show (tk_nx tB tn (tk_nx tB tn tp)) ≤ tk_nx tB tn (tk_nx tB tn (tk_nx tB tn tp)) ∧ tk_nx tB tn (tk_nx tB tn (tk_nx tB tn tp)) ≤ tn by omega) (show 1 ≤ (h54 236 8) ∨ ((h54 236 4) = tk_nx tB tn (tk_nx tB tn (tk_nx tB tn tp)) ∧ (h54 236 5) = tk_st tB tn (tk_nx tB tn (tk_nx tB tn tp)) ∧ ((tk_kd tB tn (tk_nx tB tn (tk_nx tB tn tp)) = 0 ∧ (h54 236 6) = 0) ∨ (tk_kd tB tn (tk_nx tB tn (tk_nx tB tn tp)) = 1 ∧ (h54 236 6) = 1 ∧ (h54 236 12) = tk_sw tB tn (tk_nx tB tn (tk_nx tB tn tp))) ∨ (tk_kd tB tn (tk_nx tB tn (tk_nx tB tn tp)) = 2 ∧ (h54 236 6) = 2 ∧ (h54 236 7) = tk_nb tB tn (tk_nx tB tn (tk_nx tB tn tp))) ∨ (tk_kd tB tn (tk_nx tB tn (tk_nx tB tn tp)) = 3 ∧ (h54 236 6) = 3 ∧ (h54 236 7) = 59) ∨ (tk_kd tB tn (tk_nx tB tn (tk_nx tB tn tp)) = 4 ∧ (h54 236 6) = 3 ∧ (h54 236 7) = 40) ∨ (tk_kd tB tn (tk_nx tB tn (tk_nx tB tn tp)) = 5 ∧ (h54 236 6) = 3 ∧ (h54 236 7) = 41) ∨ (tk_kd tB tn (tk_nx tB tn (tk_nx tB tn tp)) = 6 ∧ (h54 236 6) = 4))) from (Or.inr (show ((h54 236 4) = tk_nx tB tn (tk_nx tB tn (tk_nx tB tn tp)) ∧ (h54 236 5) = tk_st tB tn (tk_nx tB tn (tk_nx tB tn tp)) ∧ ((tk_kd tB tn (tk_nx tB tn (tk_nx tB tn tp)) = 0 ∧ (h54 236 6) = 0) ∨ (tk_kd tB tn (tk_nx tB tn (tk_nx tB tn tp)) = 1 ∧ (h54 236 6) = 1 ∧ (h54 236 12) = tk_sw tB tn (tk_nx tB tn (tk_nx tB tn tp))) ∨ (tk_kd tB tn (tk_nx tB tn (tk_nx tB tn tp)) = 2 ∧ (h54 236 6) = 2 ∧ (h54 236 7) = tk_nb tB tn (tk_nx tB tn (tk_nx tB tn tp))) ∨ (tk_kd tB tn (tk_nx tB tn (tk_nx tB tn tp)) = 3 ∧ (h54 236 6) = 3 ∧ (h54 236 7) = 59) ∨ (tk_kd tB tn (tk_nx tB tn (tk_nx tB tn tp)) = 4 ∧ (h54 236 6) = 3 ∧ (h54 236 7) = 40) ∨ (tk_kd tB tn (tk_nx tB tn (tk_nx tB tn tp)) = 5 ∧ (h54 236 6) = 3 ∧ (h54 236 7) = 41) ∨ (tk_kd tB tn (tk_nx tB tn (tk_nx tB tn tp)) = 6 ∧ (h54 236 6) = 4))) by first | assumption | exact tk_mv (by assumption) (by omega) (by omega) (by omega) (by omega) (by omega)))) rb71 (fun h67 z70 g67 u67 (fz70 : 0 ≤ z70 ∧ z70 ≤ 999) (p67_0 : (1 ≤ (h54 236 8) ∧ (h67 236 8) = (h54 236 8) ∧ (h67 236 9) = (h54 236 9)) ∨ ((h54 236 8) = 0 ∧ tk_kd tB tn (tk_nx tB tn (tk_nx tB tn tp)) = 1 ∧ tk_sw tB tn (tk_nx tB tn (tk_nx tB tn tp)) = 109099237 ∧ tk_kd tB tn (tk_nx tB tn (tk_nx tB tn (tk_nx tB tn tp))) = 2 ∧ 0 ≤ tk_nb tB tn (tk_nx tB tn (tk_nx tB tn (tk_nx tB tn tp))) ∧ tk_nb tB tn (tk_nx tB tn (tk_nx tB tn (tk_nx tB tn tp))) ≤ 99 ∧ z70 = tk_nb tB tn (tk_nx tB tn (tk_nx tB tn (tk_nx tB tn tp))) ∧ (h67 236 8) = (h54 236 8) ∧ (h67 236 9) = (h54 236 9) ∧ ((h67 236 4) = tk_nx tB tn (tk_nx tB tn (tk_nx tB tn (tk_nx tB tn (tk_nx tB tn tp)))) ∧ (h67 236 5) = tk_st tB tn (tk_nx tB tn (tk_nx tB tn (tk_nx tB tn (tk_nx tB tn tp)))) ∧ ((tk_kd tB tn (tk_nx tB tn (tk_nx tB tn (tk_nx tB tn (tk_nx tB tn tp)))) = 0 ∧ (h67 236 6) = 0) ∨ (tk_kd tB tn (tk_nx tB tn (tk_nx tB tn (tk_nx tB tn (tk_nx tB tn tp)))) = 1 ∧ (h67 236 6) = 1 ∧ (h67 236 12) = tk_sw tB tn (tk_nx tB tn (tk_nx tB tn (tk_nx tB tn (tk_nx tB tn tp))))) ∨ (tk_kd tB tn (tk_nx tB tn (tk_nx tB tn (tk_nx tB tn (tk_nx tB tn tp)))) = 2 ∧ (h67 236 6) = 2 ∧ (h67 236 7) = tk_nb tB tn (tk_nx tB tn (tk_nx tB tn (tk_nx tB tn (tk_nx tB tn tp))))) ∨ (tk_kd tB tn (tk_nx tB tn (tk_nx tB tn (tk_nx tB tn (tk_nx tB tn tp)))) = 3 ∧ (h67 236 6) = 3 ∧ (h67 236 7) = 59) ∨ (tk_kd tB tn (tk_nx tB tn (tk_nx tB tn (tk_nx tB tn (tk_nx tB tn tp)))) = 4 ∧ (h67 236 6) = 3 ∧ (h67 236 7) = 40) ∨ (tk_kd tB tn (tk_nx tB tn (tk_nx tB tn (tk_nx tB tn (tk_nx tB tn tp)))) = 5 ∧ (h67 236 6) = 3 ∧ (h67 236 7) = 41) ∨ (tk_kd tB tn (tk_nx tB tn (tk_nx tB tn (tk_nx tB tn (tk_nx tB tn tp)))) = 6 ∧ (h67 236 6) = 4)))) ∨ ((h54 236 8) = 0 ∧ (tk_kd tB tn (tk_nx tB tn (tk_nx tB tn tp)) ≠ 1 ∨ tk_sw tB tn (tk_nx tB tn (tk_nx tB tn tp)) ≠ 109099237) ∧ (h67 236 8) = 1 ∧ (h67 236 9) = tk_st tB tn (tk_nx tB tn (tk_nx tB tn tp))) ∨ ((h54 236 8) = 0 ∧ tk_kd tB tn (tk_nx tB tn (tk_nx tB tn tp)) = 1 ∧ tk_sw tB tn (tk_nx tB tn (tk_nx tB tn tp)) = 109099237 ∧ tk_kd tB tn (tk_nx tB tn (tk_nx tB tn (tk_nx tB tn tp))) ≠ 2 ∧ (h67 236 8) = 1 ∧ (h67 236 9) = tk_st tB tn (tk_nx tB tn (tk_nx tB tn (tk_nx tB tn tp)))) ∨ ((h54 236 8) = 0 ∧ tk_kd tB tn (tk_nx tB tn (tk_nx tB tn tp)) = 1 ∧ tk_sw tB tn (tk_nx tB tn (tk_nx tB tn tp)) = 109099237 ∧ tk_kd tB tn (tk_nx tB tn (tk_nx tB tn (tk_nx tB tn tp))) = 2 ∧ (tk_nb tB tn (tk_nx tB tn (tk_nx tB tn (tk_nx tB tn tp))) < 0 ∨ 99 < tk_nb tB tn (tk_nx tB tn (tk_nx tB tn (tk_nx tB tn tp)))) ∧ (h67 236 8) = 2 ∧ (h67 236 9) = tk_st tB tn (tk_nx tB tn (tk_nx tB tn (tk_nx tB tn tp))))) (p67_1 : (h54 236 4) ≤ (h67 236 4)) (p67_2 : (h67 236 4) ≤ (h54 236 3)) (p67_3 : 1 ≤ (h67 236 8) ∨ (h54 236 8) = 0) (p67_4 : 1 ≤ (h67 236 8) ∨ (0 ≤ z70 ∧ z70 ≤ 99)) => ?_)
        have F72 := F58.then (by decide +kernel) u67
        have e73 : h54 236 9 = h31 236 9 := ((u54 236 9 rfl).trans (u52 236 9 (fn_a (by omega) fn_0)))
        have b74 := gi_b (lo := 0) (hi := 5) g67 236 8 rfl
        have b75 := gi_b (lo := -2147483648) (hi := 2147483647) g67 236 9 rfl
        have b76 := gi_b (lo := 0) (hi := 800) g67 236 4 rfl
        have b77 := gi_b (lo := 0) (hi := 800) g67 236 5 rfl
        have b78 := gi_b (lo := 0) (hi := 4) g67 236 6 rfl
        have b79 := gi_b (lo := -9223372036854775808) (hi := 9223372036854775807) g67 236 12 rfl
        have b80 := gi_b (lo := 0) (hi := 999) g67 236 7 rfl
        refine wk_i ?_
        rcases p67_0 with p67_0 | p67_0 | p67_0 | p67_0 | p67_0
        ·
          exfalso; omega
        ·
          have tk81 := p67_0.2.2.2.2.2.2.2.2.2
          have tN82 := @tk_nx_b tB tn (tk_nx tB tn (tk_nx tB tn (tk_nx tB tn tp))) (by omega) (by omega)
          have tN83 := @tk_nx_b tB tn (tk_nx tB tn (tk_nx tB tn (tk_nx tB tn (tk_nx tB tn tp)))) (by omega) (by omega)
          obtain ⟨i84, ei84⟩ : ∃ q : Nat, e65 = (q : Int) := ⟨(e65).toNat, by omega⟩
          refine wr_is (k0 := 239) (a := e65) (f := i84) (x := z70) (bl := 0) (bh := 999) (nx := 82) (r1 := 0) (r2 := 0) (r3 := 0) rfl (by decide) rfl (by omega) (by omega) (by decide) g67 (gi_rq 10 5 (fun _ => rfl) (by decide +kernel) (by omega)) (by omega) (fun h85 g85 w85 u85 => ?_)
          have F86 := F72.then rfl (FR.idx (p := 10) (q := 14) u85 (by omega))
          refine wi_aload_n (i := 0) (x := 236) (nx := 83) (r1 := 0) (r2 := 0) (r3 := 0) rfl rfl ?_
          refine wr_V (k0 := 236) (rest := []) (as := [.ref 236]) (nx := 86) (r1 := 219) (r2 := 0) (r3 := 11) rfl rfl rfl (of_decide_eq_true rfl) rfl rfl (by decide) rfl rfl (of_decide_eq_true rfl) (of_decide_eq_true rfl) ?_
          refine wi_aload_n (i := 0) (x := 236) (nx := 1) (r1 := 0) (r2 := 0) (r3 := 0) rfl rfl ?_
          refine wr_gi0 (k0 := 236) (x := h67 236 8) (nx := 4) (r1 := 11) (r2 := 8) (r3 := 0) rfl rfl (by decide) rfl ⟨rfl, rfl⟩ rfl (u85 236 8 (fn_a (by omega) fn_0)) ?_
          refine wi_if (cd := .ne) (nx := 7) (r1 := 11) (r2 := 0) (r3 := 0) rfl (by omega) (fun (q87 : (h67 236 8) ≠ 0) => by exfalso; omega) (fun (q87 : ¬ ((h67 236 8) ≠ 0)) => ?_)
          refine wi_iconst (n := 1) (nx := 8) (r1 := 0) (r2 := 0) (r3 := 0) rfl ?_
          refine wi_goto (nx := 11) (r1 := 12) (r2 := 0) (r3 := 0) rfl ?_
          refine wi_zreturn (nx := 13) (r1 := 0) (r2 := 0) (r3 := 0) rfl rfl (by omega) ?_
          refine wk_i ?_
          refine wi_if (cd := .eq) (nx := 89) (r1 := 99) (r2 := 0) (r3 := 0) rfl (by omega) (fun (q88 : 1 = 0) => by exfalso; omega) (fun (q88 : ¬ (1 = 0)) => ?_)
          refine wi_aload_n (i := 0) (x := 236) (nx := 90) (r1 := 0) (r2 := 0) (r3 := 0) rfl rfl ?_
          refine wr_gr (k0 := 236) (x := 239) (nx := 93) (r1 := 11) (r2 := 14) (r3 := 0) rfl rfl (by decide) rfl ⟨rfl, rfl⟩ rfl ?_
          refine wi_iconst (n := 0) (nx := 94) (r1 := 0) (r2 := 0) (r3 := 0) rfl ?_
          refine wi_dup2 (nx := 95) (r1 := 0) (r2 := 0) (r3 := 0) rfl rfl rfl ?_
          refine wr_ia (k0 := 239) (a := 0) (f := 0) (x := h 239 0) (nx := 96) (r1 := 0) (r2 := 0) (r3 := 0) rfl (by decide) rfl (by omega) (by omega) (by decide) ((u85 239 0 (fn_i (by omega) fn_0)).trans ((u67 239 0 rfl).trans ((u54 239 0 rfl).trans ((u52 239 0 (fn_a (by omega) fn_0)).trans ((u31 239 0 rfl).trans (u21 239 0 rfl)))))) ?_
          refine wi_iconst (n := 1) (nx := 97) (r1 := 0) (r2 := 0) (r3 := 0) rfl ?_
          refine wr_add (nx := 98) (r1 := 0) (r2 := 0) (r3 := 0) rfl (fun e89 (fe89 : e89 = (h 239 0) + 1) => ?_)
          refine wr_is (k0 := 239) (a := 0) (f := 0) (x := e89) (bl := 0) (bh := 5) (nx := 99) (r1 := 0) (r2 := 0) (r3 := 0) rfl (by decide) rfl (by omega) (by omega) (by decide) g85 rfl (by omega) (fun h90 g90 w90 u90 => ?_)
          have F91 := F86.then rfl u90
          refine wi_return (nx := 100) (r1 := 0) (r2 := 0) (r3 := 0) rfl rfl ?_
          have e92 : h90 236 4 = h67 236 4 := ((u90 236 4 rfl).trans (u85 236 4 (fn_a (by omega) fn_0)))
          have e93 : h90 236 8 = h67 236 8 := ((u90 236 8 rfl).trans (u85 236 8 (fn_a (by omega) fn_0)))
          have e94 : h90 239 5 = h 239 5 := ((u90 239 5 rfl).trans ((u85 239 5 (fn_i (by omega) fn_0)).trans ((u67 239 5 rfl).trans ((u54 239 5 rfl).trans ((u52 239 5 (fn_a (by omega) fn_0)).trans ((u31 239 5 rfl).trans (u21 239 5 rfl)))))))
          have e95 : h90 239 7 = h 239 7 := ((u90 239 7 rfl).trans ((u85 239 7 (fn_i (by omega) fn_0)).trans ((u67 239 7 rfl).trans ((u54 239 7 rfl).trans ((u52 239 7 (fn_a (by omega) fn_0)).trans ((u31 239 7 rfl).trans (u21 239 7 rfl)))))))
          have e96 : h90 239 15 = h 239 15 := ((u90 239 15 rfl).trans ((u85 239 15 (fn_i (by omega) fn_0)).trans ((u67 239 15 rfl).trans ((u54 239 15 rfl).trans ((u52 239 15 (fn_a (by omega) fn_0)).trans ((u31 239 15 rfl).trans (u21 239 15 rfl)))))))
          have e97 : h90 239 16 = h 239 16 := ((u90 239 16 rfl).trans ((u85 239 16 (fn_i (by omega) fn_0)).trans ((u67 239 16 rfl).trans ((u54 239 16 rfl).trans ((u52 239 16 (fn_a (by omega) fn_0)).trans ((u31 239 16 rfl).trans (u21 239 16 rfl)))))))
          have e98 : h90 239 17 = h 239 17 := ((u90 239 17 rfl).trans ((u85 239 17 (fn_i (by omega) fn_0)).trans ((u67 239 17 rfl).trans ((u54 239 17 rfl).trans ((u52 239 17 (fn_a (by omega) fn_0)).trans ((u31 239 17 rfl).trans (u21 239 17 rfl)))))))
          have e99 : h90 239 18 = h 239 18 := ((u90 239 18 rfl).trans ((u85 239 18 (fn_i (by omega) fn_0)).trans ((u67 239 18 rfl).trans ((u54 239 18 rfl).trans ((u52 239 18 (fn_a (by omega) fn_0)).trans ((u31 239 18 rfl).trans (u21 239 18 rfl)))))))
          have e100 : h90 236 9 = h67 236 9 := ((u90 236 9 rfl).trans (u85 236 9 (fn_a (by omega) fn_0)))
          have e101 : h90 239 0 = e89 := w90
          have e102 : h90 239 1 = h 239 1 := ((u90 239 1 rfl).trans ((u85 239 1 (fn_i (by omega) fn_0)).trans ((u67 239 1 rfl).trans ((u54 239 1 rfl).trans ((u52 239 1 (fn_a (by omega) fn_0)).trans ((u31 239 1 rfl).trans (u21 239 1 rfl)))))))
          have e103 : h90 239 2 = h 239 2 := ((u90 239 2 rfl).trans ((u85 239 2 (fn_i (by omega) fn_0)).trans ((u67 239 2 rfl).trans ((u54 239 2 rfl).trans ((u52 239 2 (fn_a (by omega) fn_0)).trans ((u31 239 2 rfl).trans (u21 239 2 rfl)))))))
          have b104 := gi_b (lo := 0) (hi := 999) g 239 3 rfl
          have e105 : h90 239 3 = h 239 3 := ((u90 239 3 rfl).trans ((u85 239 3 (fn_i (by omega) fn_0)).trans ((u67 239 3 rfl).trans ((u54 239 3 rfl).trans ((u52 239 3 (fn_a (by omega) fn_0)).trans ((u31 239 3 rfl).trans (u21 239 3 rfl)))))))
          have b106 := gi_b (lo := 0) (hi := 999) g 239 4 rfl
          have e107 : h90 239 4 = h 239 4 := ((u90 239 4 rfl).trans ((u85 239 4 (fn_i (by omega) fn_0)).trans ((u67 239 4 rfl).trans ((u54 239 4 rfl).trans ((u52 239 4 (fn_a (by omega) fn_0)).trans ((u31 239 4 rfl).trans (u21 239 4 rfl)))))))
          have b108 := gi_b (lo := 0) (hi := 999) g 239 6 rfl
          have e109 : h90 239 6 = h 239 6 := ((u90 239 6 rfl).trans ((u85 239 6 (fn_i (by omega) fn_0)).trans ((u67 239 6 rfl).trans ((u54 239 6 rfl).trans ((u52 239 6 (fn_a (by omega) fn_0)).trans ((u31 239 6 rfl).trans (u21 239 6 rfl)))))))
          have b110 := gi_b (lo := 0) (hi := 999) g 239 8 rfl
          have e111 : h90 239 8 = h 239 8 := ((u90 239 8 rfl).trans ((u85 239 8 (fn_i (by omega) fn_0)).trans ((u67 239 8 rfl).trans ((u54 239 8 rfl).trans ((u52 239 8 (fn_a (by omega) fn_0)).trans ((u31 239 8 rfl).trans (u21 239 8 rfl)))))))
          have b112 := gi_b (lo := 0) (hi := 999) g 239 9 rfl
          have e113 : h90 239 9 = h 239 9 := ((u90 239 9 rfl).trans ((u85 239 9 (fn_i (by omega) fn_0)).trans ((u67 239 9 rfl).trans ((u54 239 9 rfl).trans ((u52 239 9 (fn_a (by omega) fn_0)).trans ((u31 239 9 rfl).trans (u21 239 9 rfl)))))))
          have b114 := gi_b (lo := 0) (hi := 1) g 236 23 rfl
          have e115 : h90 236 23 = h 236 23 := ((u90 236 23 rfl).trans ((u85 236 23 (fn_a (by omega) fn_0)).trans ((u67 236 23 rfl).trans ((u54 236 23 rfl).trans ((u52 236 23 (fn_a (by omega) fn_0)).trans ((u31 236 23 rfl).trans (u21 236 23 rfl)))))))
          have b116 := gi_b (lo := 0) (hi := 1) g 236 24 rfl
          have e117 : h90 236 24 = h 236 24 := ((u90 236 24 rfl).trans ((u85 236 24 (fn_a (by omega) fn_0)).trans ((u67 236 24 rfl).trans ((u54 236 24 rfl).trans ((u52 236 24 (fn_a (by omega) fn_0)).trans ((u31 236 24 rfl).trans (u21 236 24 rfl)))))))
          have b118 := gi_b (lo := 0) (hi := 1) g 236 25 rfl
          have e119 : h90 236 25 = h 236 25 := ((u90 236 25 rfl).trans ((u85 236 25 (fn_a (by omega) fn_0)).trans ((u67 236 25 rfl).trans ((u54 236 25 rfl).trans ((u52 236 25 (fn_a (by omega) fn_0)).trans ((u31 236 25 rfl).trans (u21 236 25 rfl)))))))
          have b120 := gi_b (lo := 0) (hi := 1) g 236 26 rfl
          have e121 : h90 236 26 = h 236 26 := ((u90 236 26 rfl).trans ((u85 236 26 (fn_a (by omega) fn_0)).trans ((u67 236 26 rfl).trans ((u54 236 26 rfl).trans ((u52 236 26 (fn_a (by omega) fn_0)).trans ((u31 236 26 rfl).trans (u21 236 26 rfl)))))))
          have e122 : h90 236 5 = h67 236 5 := ((u90 236 5 rfl).trans (u85 236 5 (fn_a (by omega) fn_0)))
          have e123 : h90 236 6 = h67 236 6 := ((u90 236 6 rfl).trans (u85 236 6 (fn_a (by omega) fn_0)))
          have e124 : h90 236 7 = h67 236 7 := ((u90 236 7 rfl).trans (u85 236 7 (fn_a (by omega) fn_0)))
          have e125 : h90 236 12 = h67 236 12 := ((u90 236 12 rfl).trans (u85 236 12 (fn_a (by omega) fn_0)))
          exact k h90 g90 F91 (show (h 236 4) ≤ (h90 236 4) by omega) (show (h90 236 4) ≤ (h 236 3) by omega) (show 1 ≤ (h90 236 8) ∨ ((h90 239 5) ≤ 9 ∧ 1 ≤ (h90 239 5) ∧ (h90 239 7) ≤ 3 ∧ (h90 239 15) ≤ 6 ∧ (h90 239 16) ≤ 6 ∧ (h90 239 17) ≤ 6 ∧ (h90 239 18) ≤ 6) by omega) (show (h90 236 8) ≠ 0 ∨ (h90 236 9) = -1 by omega) (by unfold tk_color tk_wrd tk_num; (try dsimp only); (repeat (first | rw [if_pos (by omega)] | rw [if_neg (by omega)])); (repeat ((first | unfold tk_wrd | unfold tk_num); (try dsimp only); (repeat (first | rw [if_pos (by omega)] | rw [if_neg (by omega)])))); exact tk_ORs (by omega) (by first | assumption | exact tk_mv (by assumption) (by omega) (by omega) (by omega) (by omega) (by omega)) (CVr.color (c := (h 239 0).toNat) xq1 (by omega) (by omega) (fun i _ _ => ((u90 239 i (fn_i (by omega) fn_0)).trans ((u85 239 i (fn_i (by omega) fn_0)).trans ((u67 239 i (fo_nk rfl)).trans ((u54 239 i (fo_nk rfl)).trans ((u52 239 i (fn_a (by omega) fn_0)).trans ((u31 239 i (fn_a (by omega) (fn_a (by omega) fn_0))).trans (u21 239 i (fo_nk rfl))))))))) (fun i _ _ => ((u90 236 i (fn_a (by omega) fn_0)).trans ((u85 236 i (fn_a (by omega) fn_0)).trans ((u67 236 i (fn_i (by omega) (fn_i (by omega) (fn_i (by omega) (fn_i (by omega) (fn_i (by omega) (fn_i (by omega) (fn_i (by omega) fn_0)))))))).trans ((u54 236 i (fn_i (by omega) (fn_i (by omega) (fn_i (by omega) (fn_i (by omega) (fn_i (by omega) fn_0)))))).trans ((u52 236 i (fn_a (by omega) fn_0)).trans ((u31 236 i (fn_i (by omega) (fn_i (by omega) fn_0))).trans (u21 236 i (fn_i (by omega) (fn_i (by omega) (fn_i (by omega) (fn_i (by omega) (fn_i (by omega) fn_0))))))))))))) (by rw [show (h 239 0).toNat = i51 by omega, ((u90 244 i51 (fn_a (by omega) fn_0)).trans ((u85 244 i51 (fn_a (by omega) fn_0)).trans ((u67 244 i51 (fo_nk rfl)).trans ((u54 244 i51 (fo_nk rfl)).trans w52)))), show h21 236 12 = tk_sw tB tn (tk_nx tB tn tp) by omega]; exact tk_sm8 (by omega) (by omega) (by omega)) (by rw [show 10 + (h 239 0).toNat = i84 by omega]; exact ((u90 239 i84 (fn_i (by omega) fn_0)).trans w85).trans (by omega)) (fun i _ => ((u90 244 i (fn_a (by omega) fn_0)).trans ((u85 244 i (fn_a (by omega) fn_0)).trans ((u67 244 i (fo_nk rfl)).trans ((u54 244 i (fo_nk rfl)).trans ((u52 244 i (fn_i (by omega) fn_0)).trans ((u31 244 i (fn_a (by omega) (fn_a (by omega) fn_0))).trans (u21 244 i (fo_nk rfl))))))))) (by omega) (by omega) (by omega)))
        ·
          obtain ⟨i81, ei81⟩ : ∃ q : Nat, e65 = (q : Int) := ⟨(e65).toNat, by omega⟩
          refine wr_is (k0 := 239) (a := e65) (f := i81) (x := z70) (bl := 0) (bh := 999) (nx := 82) (r1 := 0) (r2 := 0) (r3 := 0) rfl (by decide) rfl (by omega) (by omega) (by decide) g67 (gi_rq 10 5 (fun _ => rfl) (by decide +kernel) (by omega)) (by omega) (fun h82 g82 w82 u82 => ?_)
          have F83 := F72.then rfl (FR.idx (p := 10) (q := 14) u82 (by omega))
          refine wi_aload_n (i := 0) (x := 236) (nx := 83) (r1 := 0) (r2 := 0) (r3 := 0) rfl rfl ?_
          refine wr_V (k0 := 236) (rest := []) (as := [.ref 236]) (nx := 86) (r1 := 219) (r2 := 0) (r3 := 11) rfl rfl rfl (of_decide_eq_true rfl) rfl rfl (by decide) rfl rfl (of_decide_eq_true rfl) (of_decide_eq_true rfl) ?_
          refine wi_aload_n (i := 0) (x := 236) (nx := 1) (r1 := 0) (r2 := 0) (r3 := 0) rfl rfl ?_
          refine wr_gi0 (k0 := 236) (x := h67 236 8) (nx := 4) (r1 := 11) (r2 := 8) (r3 := 0) rfl rfl (by decide) rfl ⟨rfl, rfl⟩ rfl (u82 236 8 (fn_a (by omega) fn_0)) ?_
          refine wi_if (cd := .ne) (nx := 7) (r1 := 11) (r2 := 0) (r3 := 0) rfl (by omega) (fun (q84 : (h67 236 8) ≠ 0) => ?_) (fun (q84 : ¬ ((h67 236 8) ≠ 0)) => by exfalso; omega)
          refine wi_iconst (n := 0) (nx := 12) (r1 := 0) (r2 := 0) (r3 := 0) rfl ?_
          refine wi_zreturn (nx := 13) (r1 := 0) (r2 := 0) (r3 := 0) rfl rfl (by omega) ?_
          refine wk_i ?_
          refine wi_if (cd := .eq) (nx := 89) (r1 := 99) (r2 := 0) (r3 := 0) rfl (by omega) (fun (q85 : 0 = 0) => ?_) (fun (q85 : ¬ (0 = 0)) => by exfalso; omega)
          refine wi_return (nx := 100) (r1 := 0) (r2 := 0) (r3 := 0) rfl rfl ?_
          have e86 : h82 236 4 = h67 236 4 := (u82 236 4 (fn_a (by omega) fn_0))
          have e87 : h82 236 8 = h67 236 8 := (u82 236 8 (fn_a (by omega) fn_0))
          have e88 : h82 239 5 = h 239 5 := ((u82 239 5 (fn_i (by omega) fn_0)).trans ((u67 239 5 rfl).trans ((u54 239 5 rfl).trans ((u52 239 5 (fn_a (by omega) fn_0)).trans ((u31 239 5 rfl).trans (u21 239 5 rfl))))))
          have e89 : h82 239 7 = h 239 7 := ((u82 239 7 (fn_i (by omega) fn_0)).trans ((u67 239 7 rfl).trans ((u54 239 7 rfl).trans ((u52 239 7 (fn_a (by omega) fn_0)).trans ((u31 239 7 rfl).trans (u21 239 7 rfl))))))
          have e90 : h82 239 15 = h 239 15 := ((u82 239 15 (fn_i (by omega) fn_0)).trans ((u67 239 15 rfl).trans ((u54 239 15 rfl).trans ((u52 239 15 (fn_a (by omega) fn_0)).trans ((u31 239 15 rfl).trans (u21 239 15 rfl))))))
          have e91 : h82 239 16 = h 239 16 := ((u82 239 16 (fn_i (by omega) fn_0)).trans ((u67 239 16 rfl).trans ((u54 239 16 rfl).trans ((u52 239 16 (fn_a (by omega) fn_0)).trans ((u31 239 16 rfl).trans (u21 239 16 rfl))))))
          have e92 : h82 239 17 = h 239 17 := ((u82 239 17 (fn_i (by omega) fn_0)).trans ((u67 239 17 rfl).trans ((u54 239 17 rfl).trans ((u52 239 17 (fn_a (by omega) fn_0)).trans ((u31 239 17 rfl).trans (u21 239 17 rfl))))))
          have e93 : h82 239 18 = h 239 18 := ((u82 239 18 (fn_i (by omega) fn_0)).trans ((u67 239 18 rfl).trans ((u54 239 18 rfl).trans ((u52 239 18 (fn_a (by omega) fn_0)).trans ((u31 239 18 rfl).trans (u21 239 18 rfl))))))
          have e94 : h82 236 9 = h67 236 9 := (u82 236 9 (fn_a (by omega) fn_0))
          exact k h82 g82 F83 (show (h 236 4) ≤ (h82 236 4) by omega) (show (h82 236 4) ≤ (h 236 3) by omega) (show 1 ≤ (h82 236 8) ∨ ((h82 239 5) ≤ 9 ∧ 1 ≤ (h82 239 5) ∧ (h82 239 7) ≤ 3 ∧ (h82 239 15) ≤ 6 ∧ (h82 239 16) ≤ 6 ∧ (h82 239 17) ≤ 6 ∧ (h82 239 18) ≤ 6) by omega) (show (h82 236 8) ≠ 0 ∨ (h82 236 9) = -1 by omega) (by unfold tk_color tk_wrd tk_num; (try dsimp only); (repeat (first | rw [if_pos (by omega)] | rw [if_neg (by omega)])); (repeat ((first | unfold tk_wrd | unfold tk_num); (try dsimp only); (repeat (first | rw [if_pos (by omega)] | rw [if_neg (by omega)])))); first | exact tk_ORe (by omega) (by omega) (by omega) | ((repeat' split) <;> (first | exact tk_ORe (by omega) (by omega) (by omega) | (exfalso; omega))))
        ·
          have tN81 := @tk_nx_b tB tn (tk_nx tB tn (tk_nx tB tn tp)) (by omega) (by omega)
          obtain ⟨i82, ei82⟩ : ∃ q : Nat, e65 = (q : Int) := ⟨(e65).toNat, by omega⟩
          refine wr_is (k0 := 239) (a := e65) (f := i82) (x := z70) (bl := 0) (bh := 999) (nx := 82) (r1 := 0) (r2 := 0) (r3 := 0) rfl (by decide) rfl (by omega) (by omega) (by decide) g67 (gi_rq 10 5 (fun _ => rfl) (by decide +kernel) (by omega)) (by omega) (fun h83 g83 w83 u83 => ?_)
          have F84 := F72.then rfl (FR.idx (p := 10) (q := 14) u83 (by omega))
          refine wi_aload_n (i := 0) (x := 236) (nx := 83) (r1 := 0) (r2 := 0) (r3 := 0) rfl rfl ?_
          refine wr_V (k0 := 236) (rest := []) (as := [.ref 236]) (nx := 86) (r1 := 219) (r2 := 0) (r3 := 11) rfl rfl rfl (of_decide_eq_true rfl) rfl rfl (by decide) rfl rfl (of_decide_eq_true rfl) (of_decide_eq_true rfl) ?_
          refine wi_aload_n (i := 0) (x := 236) (nx := 1) (r1 := 0) (r2 := 0) (r3 := 0) rfl rfl ?_
          refine wr_gi0 (k0 := 236) (x := h67 236 8) (nx := 4) (r1 := 11) (r2 := 8) (r3 := 0) rfl rfl (by decide) rfl ⟨rfl, rfl⟩ rfl (u83 236 8 (fn_a (by omega) fn_0)) ?_
          refine wi_if (cd := .ne) (nx := 7) (r1 := 11) (r2 := 0) (r3 := 0) rfl (by omega) (fun (q85 : (h67 236 8) ≠ 0) => ?_) (fun (q85 : ¬ ((h67 236 8) ≠ 0)) => by exfalso; omega)
          refine wi_iconst (n := 0) (nx := 12) (r1 := 0) (r2 := 0) (r3 := 0) rfl ?_
          refine wi_zreturn (nx := 13) (r1 := 0) (r2 := 0) (r3 := 0) rfl rfl (by omega) ?_
          refine wk_i ?_
          refine wi_if (cd := .eq) (nx := 89) (r1 := 99) (r2 := 0) (r3 := 0) rfl (by omega) (fun (q86 : 0 = 0) => ?_) (fun (q86 : ¬ (0 = 0)) => by exfalso; omega)
          refine wi_return (nx := 100) (r1 := 0) (r2 := 0) (r3 := 0) rfl rfl ?_
          have e87 : h83 236 4 = h67 236 4 := (u83 236 4 (fn_a (by omega) fn_0))
          have e88 : h83 236 8 = h67 236 8 := (u83 236 8 (fn_a (by omega) fn_0))
          have e89 : h83 239 5 = h 239 5 := ((u83 239 5 (fn_i (by omega) fn_0)).trans ((u67 239 5 rfl).trans ((u54 239 5 rfl).trans ((u52 239 5 (fn_a (by omega) fn_0)).trans ((u31 239 5 rfl).trans (u21 239 5 rfl))))))
          have e90 : h83 239 7 = h 239 7 := ((u83 239 7 (fn_i (by omega) fn_0)).trans ((u67 239 7 rfl).trans ((u54 239 7 rfl).trans ((u52 239 7 (fn_a (by omega) fn_0)).trans ((u31 239 7 rfl).trans (u21 239 7 rfl))))))
          have e91 : h83 239 15 = h 239 15 := ((u83 239 15 (fn_i (by omega) fn_0)).trans ((u67 239 15 rfl).trans ((u54 239 15 rfl).trans ((u52 239 15 (fn_a (by omega) fn_0)).trans ((u31 239 15 rfl).trans (u21 239 15 rfl))))))
          have e92 : h83 239 16 = h 239 16 := ((u83 239 16 (fn_i (by omega) fn_0)).trans ((u67 239 16 rfl).trans ((u54 239 16 rfl).trans ((u52 239 16 (fn_a (by omega) fn_0)).trans ((u31 239 16 rfl).trans (u21 239 16 rfl))))))
          have e93 : h83 239 17 = h 239 17 := ((u83 239 17 (fn_i (by omega) fn_0)).trans ((u67 239 17 rfl).trans ((u54 239 17 rfl).trans ((u52 239 17 (fn_a (by omega) fn_0)).trans ((u31 239 17 rfl).trans (u21 239 17 rfl))))))
          have e94 : h83 239 18 = h 239 18 := ((u83 239 18 (fn_i (by omega) fn_0)).trans ((u67 239 18 rfl).trans ((u54 239 18 rfl).trans ((u52 239 18 (fn_a (by omega) fn_0)).trans ((u31 239 18 rfl).trans (u21 239 18 rfl))))))
          have e95 : h83 236 9 = h67 236 9 := (u83 236 9 (fn_a (by omega) fn_0))
          exact k h83 g83 F84 (show (h 236 4) ≤ (h83 236 4) by omega) (show (h83 236 4) ≤ (h 236 3) by omega) (show 1 ≤ (h83 236 8) ∨ ((h83 239 5) ≤ 9 ∧ 1 ≤ (h83 239 5) ∧ (h83 239 7) ≤ 3 ∧ (h83 239 15) ≤ 6 ∧ (h83 239 16) ≤ 6 ∧ (h83 239 17) ≤ 6 ∧ (h83 239 18) ≤ 6) by omega) (show (h83 236 8) ≠ 0 ∨ (h83 236 9) = -1 by omega) (by unfold tk_color tk_wrd tk_num; (try dsimp only); (repeat (first | rw [if_pos (by omega)] | rw [if_neg (by omega)])); (repeat ((first | unfold tk_wrd | unfold tk_num); (try dsimp only); (repeat (first | rw [if_pos (by omega)] | rw [if_neg (by omega)])))); first | exact tk_ORe (by omega) (by omega) (by omega) | ((repeat' split) <;> (first | exact tk_ORe (by omega) (by omega) (by omega) | (exfalso; omega))))
        ·
          have tN81 := @tk_nx_b tB tn (tk_nx tB tn (tk_nx tB tn tp)) (by omega) (by omega)
          obtain ⟨i82, ei82⟩ : ∃ q : Nat, e65 = (q : Int) := ⟨(e65).toNat, by omega⟩
          refine wr_is (k0 := 239) (a := e65) (f := i82) (x := z70) (bl := 0) (bh := 999) (nx := 82) (r1 := 0) (r2 := 0) (r3 := 0) rfl (by decide) rfl (by omega) (by omega) (by decide) g67 (gi_rq 10 5 (fun _ => rfl) (by decide +kernel) (by omega)) (by omega) (fun h83 g83 w83 u83 => ?_)
          have F84 := F72.then rfl (FR.idx (p := 10) (q := 14) u83 (by omega))
          refine wi_aload_n (i := 0) (x := 236) (nx := 83) (r1 := 0) (r2 := 0) (r3 := 0) rfl rfl ?_
          refine wr_V (k0 := 236) (rest := []) (as := [.ref 236]) (nx := 86) (r1 := 219) (r2 := 0) (r3 := 11) rfl rfl rfl (of_decide_eq_true rfl) rfl rfl (by decide) rfl rfl (of_decide_eq_true rfl) (of_decide_eq_true rfl) ?_
          refine wi_aload_n (i := 0) (x := 236) (nx := 1) (r1 := 0) (r2 := 0) (r3 := 0) rfl rfl ?_
          refine wr_gi0 (k0 := 236) (x := h67 236 8) (nx := 4) (r1 := 11) (r2 := 8) (r3 := 0) rfl rfl (by decide) rfl ⟨rfl, rfl⟩ rfl (u83 236 8 (fn_a (by omega) fn_0)) ?_
          refine wi_if (cd := .ne) (nx := 7) (r1 := 11) (r2 := 0) (r3 := 0) rfl (by omega) (fun (q85 : (h67 236 8) ≠ 0) => ?_) (fun (q85 : ¬ ((h67 236 8) ≠ 0)) => by exfalso; omega)
          refine wi_iconst (n := 0) (nx := 12) (r1 := 0) (r2 := 0) (r3 := 0) rfl ?_
          refine wi_zreturn (nx := 13) (r1 := 0) (r2 := 0) (r3 := 0) rfl rfl (by omega) ?_
          refine wk_i ?_
          refine wi_if (cd := .eq) (nx := 89) (r1 := 99) (r2 := 0) (r3 := 0) rfl (by omega) (fun (q86 : 0 = 0) => ?_) (fun (q86 : ¬ (0 = 0)) => by exfalso; omega)
          refine wi_return (nx := 100) (r1 := 0) (r2 := 0) (r3 := 0) rfl rfl ?_
          have e87 : h83 236 4 = h67 236 4 := (u83 236 4 (fn_a (by omega) fn_0))
          have e88 : h83 236 8 = h67 236 8 := (u83 236 8 (fn_a (by omega) fn_0))
          have e89 : h83 239 5 = h 239 5 := ((u83 239 5 (fn_i (by omega) fn_0)).trans ((u67 239 5 rfl).trans ((u54 239 5 rfl).trans ((u52 239 5 (fn_a (by omega) fn_0)).trans ((u31 239 5 rfl).trans (u21 239 5 rfl))))))
          have e90 : h83 239 7 = h 239 7 := ((u83 239 7 (fn_i (by omega) fn_0)).trans ((u67 239 7 rfl).trans ((u54 239 7 rfl).trans ((u52 239 7 (fn_a (by omega) fn_0)).trans ((u31 239 7 rfl).trans (u21 239 7 rfl))))))
          have e91 : h83 239 15 = h 239 15 := ((u83 239 15 (fn_i (by omega) fn_0)).trans ((u67 239 15 rfl).trans ((u54 239 15 rfl).trans ((u52 239 15 (fn_a (by omega) fn_0)).trans ((u31 239 15 rfl).trans (u21 239 15 rfl))))))
          have e92 : h83 239 16 = h 239 16 := ((u83 239 16 (fn_i (by omega) fn_0)).trans ((u67 239 16 rfl).trans ((u54 239 16 rfl).trans ((u52 239 16 (fn_a (by omega) fn_0)).trans ((u31 239 16 rfl).trans (u21 239 16 rfl))))))
          have e93 : h83 239 17 = h 239 17 := ((u83 239 17 (fn_i (by omega) fn_0)).trans ((u67 239 17 rfl).trans ((u54 239 17 rfl).trans ((u52 239 17 (fn_a (by omega) fn_0)).trans ((u31 239 17 rfl).trans (u21 239 17 rfl))))))
          have e94 : h83 239 18 = h 239 18 := ((u83 239 18 (fn_i (by omega) fn_0)).trans ((u67 239 18 rfl).trans ((u54 239 18 rfl).trans ((u52 239 18 (fn_a (by omega) fn_0)).trans ((u31 239 18 rfl).trans (u21 239 18 rfl))))))
          have e95 : h83 236 9 = h67 236 9 := (u83 236 9 (fn_a (by omega) fn_0))
          exact k h83 g83 F84 (show (h 236 4) ≤ (h83 236 4) by omega) (show (h83 236 4) ≤ (h 236 3) by omega) (show 1 ≤ (h83 236 8) ∨ ((h83 239 5) ≤ 9 ∧ 1 ≤ (h83 239 5) ∧ (h83 239 7) ≤ 3 ∧ (h83 239 15) ≤ 6 ∧ (h83 239 16) ≤ 6 ∧ (h83 239 17) ≤ 6 ∧ (h83 239 18) ≤ 6) by omega) (show (h83 236 8) ≠ 0 ∨ (h83 236 9) = -1 by omega) (by unfold tk_color tk_wrd tk_num; (try dsimp only); (repeat (first | rw [if_pos (by omega)] | rw [if_neg (by omega)])); (repeat ((first | unfold tk_wrd | unfold tk_num); (try dsimp only); (repeat (first | rw [if_pos (by omega)] | rw [if_neg (by omega)])))); first | exact tk_ORe (by omega) (by omega) (by omega) | ((repeat' split) <;> (first | exact tk_ORe (by omega) (by omega) (by omega) | (exfalso; omega))))
      ·
        refine wi_aload_n (i := 0) (x := 236) (nx := 37) (r1 := 0) (r2 := 0) (r3 := 0) rfl rfl ?_
        refine wi_iconst (n := 3) (nx := 38) (r1 := 0) (r2 := 0) (r3 := 0) rfl ?_
        refine wr_V (k0 := 236) (rest := []) (as := [.ref 236, vi 3]) (nx := 41) (r1 := 224) (r2 := 1) (r3 := 11) rfl rfl rfl (of_decide_eq_true rfl) rfl rfl (by decide) rfl rfl (of_decide_eq_true rfl) (of_decide_eq_true rfl) ?_
        refine ct_224_236 hcr  g31 3 (by omega)  (fun h49 g49 u49 (p49_0 : 1 ≤ (h49 236 8)) (p49_1 : (1 ≤ (h31 236 8) ∧ (h49 236 8) = (h31 236 8) ∧ (h49 236 9) = (h31 236 9)) ∨ ((h31 236 8) = 0 ∧ (h49 236 9) = (h31 236 5) ∧ (((h31 236 6) = 4 ∧ (h49 236 8) = 1) ∨ ((h31 236 6) ≠ 4 ∧ (h49 236 8) = 3)))) => ?_)
        have F50 := F34.then (by decide +kernel) u49
        have b51 := gi_b (lo := 0) (hi := 5) g49 236 8 rfl
        have e52 : h31 236 5 = h21 236 5 := (u31 236 5 rfl)
        have e53 : h31 236 6 = h21 236 6 := (u31 236 6 rfl)
        have b54 := gi_b (lo := -2147483648) (hi := 2147483647) g49 236 9 rfl
        refine wk_n ?_
        refine wi_aload_n (i := 0) (x := 236) (nx := 42) (r1 := 0) (r2 := 0) (r3 := 0) rfl rfl ?_
        refine wr_V (k0 := 236) (rest := []) (as := [.ref 236]) (nx := 45) (r1 := 219) (r2 := 0) (r3 := 11) rfl rfl rfl (of_decide_eq_true rfl) rfl rfl (by decide) rfl rfl (of_decide_eq_true rfl) (of_decide_eq_true rfl) ?_
        refine wi_aload_n (i := 0) (x := 236) (nx := 1) (r1 := 0) (r2 := 0) (r3 := 0) rfl rfl ?_
        refine wr_gi0 (k0 := 236) (x := h49 236 8) (nx := 4) (r1 := 11) (r2 := 8) (r3 := 0) rfl rfl (by decide) rfl ⟨rfl, rfl⟩ rfl rfl ?_
        refine wi_if (cd := .ne) (nx := 7) (r1 := 11) (r2 := 0) (r3 := 0) rfl (by omega) (fun (q55 : (h49 236 8) ≠ 0) => ?_) (fun (q55 : ¬ ((h49 236 8) ≠ 0)) => by exfalso; omega)
        refine wi_iconst (n := 0) (nx := 12) (r1 := 0) (r2 := 0) (r3 := 0) rfl ?_
        refine wi_zreturn (nx := 13) (r1 := 0) (r2 := 0) (r3 := 0) rfl rfl (by omega) ?_
        refine wk_i ?_
        refine wi_if (cd := .ne) (nx := 48) (r1 := 49) (r2 := 0) (r3 := 0) rfl (by omega) (fun (q56 : 0 ≠ 0) => by exfalso; omega) (fun (q56 : ¬ (0 ≠ 0)) => ?_)
        refine wi_return (nx := 49) (r1 := 0) (r2 := 0) (r3 := 0) rfl rfl ?_
        have e57 : h49 236 4 = h21 236 4 := ((u49 236 4 rfl).trans (u31 236 4 rfl))
        have e58 : h49 239 5 = h 239 5 := ((u49 239 5 rfl).trans ((u31 239 5 rfl).trans (u21 239 5 rfl)))
        have e59 : h49 239 7 = h 239 7 := ((u49 239 7 rfl).trans ((u31 239 7 rfl).trans (u21 239 7 rfl)))
        have e60 : h49 239 15 = h 239 15 := ((u49 239 15 rfl).trans ((u31 239 15 rfl).trans (u21 239 15 rfl)))
        have e61 : h49 239 16 = h 239 16 := ((u49 239 16 rfl).trans ((u31 239 16 rfl).trans (u21 239 16 rfl)))
        have e62 : h49 239 17 = h 239 17 := ((u49 239 17 rfl).trans ((u31 239 17 rfl).trans (u21 239 17 rfl)))
        have e63 : h49 239 18 = h 239 18 := ((u49 239 18 rfl).trans ((u31 239 18 rfl).trans (u21 239 18 rfl)))
        exact k h49 g49 F50 (show (h 236 4) ≤ (h49 236 4) by omega) (show (h49 236 4) ≤ (h 236 3) by omega) (show 1 ≤ (h49 236 8) ∨ ((h49 239 5) ≤ 9 ∧ 1 ≤ (h49 239 5) ∧ (h49 239 7) ≤ 3 ∧ (h49 239 15) ≤ 6 ∧ (h49 239 16) ≤ 6 ∧ (h49 239 17) ≤ 6 ∧ (h49 239 18) ≤ 6) by omega) (show (h49 236 8) ≠ 0 ∨ (h49 236 9) = -1 by omega) (by unfold tk_color tk_wrd tk_num; (try dsimp only); (repeat (first | rw [if_pos (by omega)] | rw [if_neg (by omega)])); (repeat ((first | unfold tk_wrd | unfold tk_num); (try dsimp only); (repeat (first | rw [if_pos (by omega)] | rw [if_neg (by omega)])))); first | exact tk_ORe (by omega) (by omega) (by omega) | ((repeat' split) <;> (first | exact tk_ORe (by omega) (by omega) (by omega) | (exfalso; omega))))
    ·
      refine wi_aload_n (i := 0) (x := 236) (nx := 22) (r1 := 0) (r2 := 0) (r3 := 0) rfl rfl ?_
      refine wr_V (k0 := 236) (rest := []) (as := [.ref 236]) (nx := 25) (r1 := 219) (r2 := 0) (r3 := 11) rfl rfl rfl (of_decide_eq_true rfl) rfl rfl (by decide) rfl rfl (of_decide_eq_true rfl) (of_decide_eq_true rfl) ?_
      refine wi_aload_n (i := 0) (x := 236) (nx := 1) (r1 := 0) (r2 := 0) (r3 := 0) rfl rfl ?_
      refine wr_gi0 (k0 := 236) (x := h31 236 8) (nx := 4) (r1 := 11) (r2 := 8) (r3 := 0) rfl rfl (by decide) rfl ⟨rfl, rfl⟩ rfl rfl ?_
      refine wi_if (cd := .ne) (nx := 7) (r1 := 11) (r2 := 0) (r3 := 0) rfl (by omega) (fun (q38 : (h31 236 8) ≠ 0) => ?_) (fun (q38 : ¬ ((h31 236 8) ≠ 0)) => by exfalso; omega)
      refine wi_iconst (n := 0) (nx := 12) (r1 := 0) (r2 := 0) (r3 := 0) rfl ?_
      refine wi_zreturn (nx := 13) (r1 := 0) (r2 := 0) (r3 := 0) rfl rfl (by omega) ?_
      refine wk_i ?_
      refine wi_if (cd := .eq) (nx := 28) (r1 := 41) (r2 := 0) (r3 := 0) rfl (by omega) (fun (q39 : 0 = 0) => ?_) (fun (q39 : ¬ (0 = 0)) => by exfalso; omega)
      refine wi_aload_n (i := 0) (x := 236) (nx := 42) (r1 := 0) (r2 := 0) (r3 := 0) rfl rfl ?_
      refine wr_V (k0 := 236) (rest := []) (as := [.ref 236]) (nx := 45) (r1 := 219) (r2 := 0) (r3 := 11) rfl rfl rfl (of_decide_eq_true rfl) rfl rfl (by decide) rfl rfl (of_decide_eq_true rfl) (of_decide_eq_true rfl) ?_
      refine wi_aload_n (i := 0) (x := 236) (nx := 1) (r1 := 0) (r2 := 0) (r3 := 0) rfl rfl ?_
      refine wr_gi0 (k0 := 236) (x := h31 236 8) (nx := 4) (r1 := 11) (r2 := 8) (r3 := 0) rfl rfl (by decide) rfl ⟨rfl, rfl⟩ rfl rfl ?_
      refine wi_if (cd := .ne) (nx := 7) (r1 := 11) (r2 := 0) (r3 := 0) rfl (by omega) (fun (q40 : (h31 236 8) ≠ 0) => ?_) (fun (q40 : ¬ ((h31 236 8) ≠ 0)) => by exfalso; omega)
      refine wi_iconst (n := 0) (nx := 12) (r1 := 0) (r2 := 0) (r3 := 0) rfl ?_
      refine wi_zreturn (nx := 13) (r1 := 0) (r2 := 0) (r3 := 0) rfl rfl (by omega) ?_
      refine wk_i ?_
      refine wi_if (cd := .ne) (nx := 48) (r1 := 49) (r2 := 0) (r3 := 0) rfl (by omega) (fun (q41 : 0 ≠ 0) => by exfalso; omega) (fun (q41 : ¬ (0 ≠ 0)) => ?_)
      refine wi_return (nx := 49) (r1 := 0) (r2 := 0) (r3 := 0) rfl rfl ?_
      have e42 : h31 236 4 = h21 236 4 := (u31 236 4 rfl)
      have e43 : h31 239 5 = h 239 5 := ((u31 239 5 rfl).trans (u21 239 5 rfl))
      have e44 : h31 239 7 = h 239 7 := ((u31 239 7 rfl).trans (u21 239 7 rfl))
      have e45 : h31 239 15 = h 239 15 := ((u31 239 15 rfl).trans (u21 239 15 rfl))
      have e46 : h31 239 16 = h 239 16 := ((u31 239 16 rfl).trans (u21 239 16 rfl))
      have e47 : h31 239 17 = h 239 17 := ((u31 239 17 rfl).trans (u21 239 17 rfl))
      have e48 : h31 239 18 = h 239 18 := ((u31 239 18 rfl).trans (u21 239 18 rfl))
      exact k h31 g31 F34 (show (h 236 4) ≤ (h31 236 4) by omega) (show (h31 236 4) ≤ (h 236 3) by omega) (show 1 ≤ (h31 236 8) ∨ ((h31 239 5) ≤ 9 ∧ 1 ≤ (h31 239 5) ∧ (h31 239 7) ≤ 3 ∧ (h31 239 15) ≤ 6 ∧ (h31 239 16) ≤ 6 ∧ (h31 239 17) ≤ 6 ∧ (h31 239 18) ≤ 6) by omega) (show (h31 236 8) ≠ 0 ∨ (h31 236 9) = -1 by omega) (by unfold tk_color tk_wrd tk_num; (try dsimp only); (repeat (first | rw [if_pos (by omega)] | rw [if_neg (by omega)])); (repeat ((first | unfold tk_wrd | unfold tk_num); (try dsimp only); (repeat (first | rw [if_pos (by omega)] | rw [if_neg (by omega)])))); first | exact tk_ORe (by omega) (by omega) (by omega) | ((repeat' split) <;> (first | exact tk_ORe (by omega) (by omega) (by omega) | (exfalso; omega))))
  ·
    refine wi_aload_n (i := 0) (x := 236) (nx := 11) (r1 := 0) (r2 := 0) (r3 := 0) rfl rfl ?_
    refine wi_iconst (n := 5) (nx := 12) (r1 := 0) (r2 := 0) (r3 := 0) rfl ?_
    refine wr_V (k0 := 236) (rest := []) (as := [.ref 236, vi 5]) (nx := 15) (r1 := 224) (r2 := 1) (r3 := 11) rfl rfl rfl (of_decide_eq_true rfl) rfl rfl (by decide) rfl rfl (of_decide_eq_true rfl) (of_decide_eq_true rfl) ?_
    refine ct_224_236 hcr  g 5 (by omega)  (fun h19 g19 u19 (p19_0 : 1 ≤ (h19 236 8)) (p19_1 : (1 ≤ (h 236 8) ∧ (h19 236 8) = (h 236 8) ∧ (h19 236 9) = (h 236 9)) ∨ ((h 236 8) = 0 ∧ (h19 236 9) = (h 236 5) ∧ (((h 236 6) = 4 ∧ (h19 236 8) = 1) ∨ ((h 236 6) ≠ 4 ∧ (h19 236 8) = 5)))) => ?_)
    have F20 := F0.then (by decide +kernel) u19
    have b21 := gi_b (lo := 0) (hi := 5) g19 236 8 rfl
    have b22 := gi_b (lo := -2147483648) (hi := 2147483647) g19 236 9 rfl
    refine wk_n ?_
    refine wi_aload_n (i := 0) (x := 236) (nx := 16) (r1 := 0) (r2 := 0) (r3 := 0) rfl rfl ?_
    refine wr_V (k0 := 236) (rest := []) (as := [.ref 236]) (nx := 19) (r1 := 219) (r2 := 0) (r3 := 11) rfl rfl rfl (of_decide_eq_true rfl) rfl rfl (by decide) rfl rfl (of_decide_eq_true rfl) (of_decide_eq_true rfl) ?_
    refine wi_aload_n (i := 0) (x := 236) (nx := 1) (r1 := 0) (r2 := 0) (r3 := 0) rfl rfl ?_
    refine wr_gi0 (k0 := 236) (x := h19 236 8) (nx := 4) (r1 := 11) (r2 := 8) (r3 := 0) rfl rfl (by decide) rfl ⟨rfl, rfl⟩ rfl rfl ?_
    refine wi_if (cd := .ne) (nx := 7) (r1 := 11) (r2 := 0) (r3 := 0) rfl (by omega) (fun (q23 : (h19 236 8) ≠ 0) => ?_) (fun (q23 : ¬ ((h19 236 8) ≠ 0)) => by exfalso; omega)
    refine wi_iconst (n := 0) (nx := 12) (r1 := 0) (r2 := 0) (r3 := 0) rfl ?_
    refine wi_zreturn (nx := 13) (r1 := 0) (r2 := 0) (r3 := 0) rfl rfl (by omega) ?_
    refine wk_i ?_
    refine wi_if (cd := .eq) (nx := 22) (r1 := 26) (r2 := 0) (r3 := 0) rfl (by omega) (fun (q24 : 0 = 0) => ?_) (fun (q24 : ¬ (0 = 0)) => by exfalso; omega)
    refine wi_aload_n (i := 0) (x := 236) (nx := 27) (r1 := 0) (r2 := 0) (r3 := 0) rfl rfl ?_
    refine wr_V (k0 := 236) (rest := []) (as := [.ref 236]) (nx := 30) (r1 := 219) (r2 := 0) (r3 := 11) rfl rfl rfl (of_decide_eq_true rfl) rfl rfl (by decide) rfl rfl (of_decide_eq_true rfl) (of_decide_eq_true rfl) ?_
    refine wi_aload_n (i := 0) (x := 236) (nx := 1) (r1 := 0) (r2 := 0) (r3 := 0) rfl rfl ?_
    refine wr_gi0 (k0 := 236) (x := h19 236 8) (nx := 4) (r1 := 11) (r2 := 8) (r3 := 0) rfl rfl (by decide) rfl ⟨rfl, rfl⟩ rfl rfl ?_
    refine wi_if (cd := .ne) (nx := 7) (r1 := 11) (r2 := 0) (r3 := 0) rfl (by omega) (fun (q25 : (h19 236 8) ≠ 0) => ?_) (fun (q25 : ¬ ((h19 236 8) ≠ 0)) => by exfalso; omega)
    refine wi_iconst (n := 0) (nx := 12) (r1 := 0) (r2 := 0) (r3 := 0) rfl ?_
    refine wi_zreturn (nx := 13) (r1 := 0) (r2 := 0) (r3 := 0) rfl rfl (by omega) ?_
    refine wk_i ?_
    refine wi_zreturn (nx := 31) (r1 := 0) (r2 := 0) (r3 := 0) rfl rfl (by omega) ?_
    refine wk_i ?_
    refine wi_if (cd := .ne) (nx := 16) (r1 := 17) (r2 := 0) (r3 := 0) rfl (by omega) (fun (q26 : 0 ≠ 0) => by exfalso; omega) (fun (q26 : ¬ (0 ≠ 0)) => ?_)
    refine wi_return (nx := 17) (r1 := 0) (r2 := 0) (r3 := 0) rfl rfl ?_
    have e27 : h19 236 4 = h 236 4 := (u19 236 4 rfl)
    have e28 : h19 239 5 = h 239 5 := (u19 239 5 rfl)
    have e29 : h19 239 7 = h 239 7 := (u19 239 7 rfl)
    have e30 : h19 239 15 = h 239 15 := (u19 239 15 rfl)
    have e31 : h19 239 16 = h 239 16 := (u19 239 16 rfl)
    have e32 : h19 239 17 = h 239 17 := (u19 239 17 rfl)
    have e33 : h19 239 18 = h 239 18 := (u19 239 18 rfl)
    exact k h19 g19 F20 (show (h 236 4) ≤ (h19 236 4) by omega) (show (h19 236 4) ≤ (h 236 3) by omega) (show 1 ≤ (h19 236 8) ∨ ((h19 239 5) ≤ 9 ∧ 1 ≤ (h19 239 5) ∧ (h19 239 7) ≤ 3 ∧ (h19 239 15) ≤ 6 ∧ (h19 239 16) ≤ 6 ∧ (h19 239 17) ≤ 6 ∧ (h19 239 18) ≤ 6) by omega) (show (h19 236 8) ≠ 0 ∨ (h19 236 9) = -1 by omega) (by unfold tk_color tk_wrd tk_num; (try dsimp only); (repeat (first | rw [if_pos (by omega)] | rw [if_neg (by omega)])); (repeat ((first | unfold tk_wrd | unfold tk_num); (try dsimp only); (repeat (first | rw [if_pos (by omega)] | rw [if_neg (by omega)])))); first | exact tk_ORe (by omega) (by omega) (by omega) | ((repeat' split) <;> (first | exact tk_ORe (by omega) (by omega) (by omega) | (exfalso; omega))))
