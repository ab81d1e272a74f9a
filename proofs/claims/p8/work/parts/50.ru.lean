-- method 335: Model.command()V
set_option maxRecDepth 100000 in
set_option maxHeartbeats 100000000 in
theorem ct_335_236 {L : Nat} {xs : Nat → Int32} {d b c : Nat} {h : hp} {cr : Nat → Nat → Option Nat} {Q : hp_Q} (hcr : CR cr)  {tB : Nat → Int} {tn tp : Int} (g : GI h)   (pp0 : h 236 4 ≤ h 236 3) (pp1 : h 236 8 = 0) (pp2 : h 236 6 ≠ 0) (pp3 : h 236 42 + h 236 44 ≤ 2 * h 236 43) (pp4 : 0 ≤ tp) (pp5 : tp ≤ tn) (pp6 : tp ≤ tk_nx tB tn tp ∧ tk_nx tB tn tp ≤ tn) (pp7 : (h 236 4 = tk_nx tB tn tp ∧ h 236 5 = tk_st tB tn tp ∧ ((tk_kd tB tn tp = 0 ∧ h 236 6 = 0) ∨ (tk_kd tB tn tp = 1 ∧ h 236 6 = 1 ∧ h 236 12 = tk_sw tB tn tp) ∨ (tk_kd tB tn tp = 2 ∧ h 236 6 = 2 ∧ h 236 7 = tk_nb tB tn tp) ∨ (tk_kd tB tn tp = 3 ∧ h 236 6 = 3 ∧ h 236 7 = 59) ∨ (tk_kd tB tn tp = 4 ∧ h 236 6 = 3 ∧ h 236 7 = 40) ∨ (tk_kd tB tn tp = 5 ∧ h 236 6 = 3 ∧ h 236 7 = 41) ∨ (tk_kd tB tn tp = 6 ∧ h 236 6 = 4)))) (pp8 : h 236 9 = -1) (xq0 : WP (h 253) (h 236 42) (h 236 44)) (xq1 : RefB tB tn h) (k : ∀ (h2 : hp) , GI h2 → FR [(253, 253, none), (254, 254, none), (236, 236, some (4, 4)), (236, 236, some (5, 5)), (236, 236, some (6, 6)), (236, 236, some (7, 7)), (236, 236, some (8, 8)), (236, 236, some (9, 9)), (236, 236, some (12, 12)), (236, 236, some (42, 42)), (236, 236, some (43, 43)), (236, 236, some (44, 44))] h h2 → ((1 ≤ h2 236 8) ∨ (h2 236 8 = 0 ∧ h2 236 44 = h 236 44 + 1) ∨ (h2 236 8 = 0 ∧ h2 236 44 = h 236 44)) → (h2 236 8 ≠ 0 ∨ h2 236 9 = -1) → (h 236 4 ≤ h2 236 4) → (h2 236 4 ≤ h 236 3) → (1 ≤ h2 236 8 ∨ h2 236 6 = 0 ∨ h 236 4 + 1 ≤ h2 236 4) → (1 ≤ h2 236 8 ∨ h2 236 42 + h2 236 44 ≤ 2 * h2 236 43) → (h2 236 8 = 0 → WP (h2 253) (h2 236 42) (h2 236 44)) → (sc_OM tB tn tp (h 236 44) (h 236 43) h2) → Q (.inl none) (hp_w h2 cr) b c) : wp (md_xa (L, xs)) (d + 3) 335 (0, [(0, .ref 236)], [], hp_w h cr, b, c) Q := by
  have F0 : FR [(253, 253, none), (254, 254, none), (236, 236, some (4, 4)), (236, 236, some (5, 5)), (236, 236, some (6, 6)), (236, 236, some (7, 7)), (236, 236, some (8, 8)), (236, 236, some (9, 9)), (236, 236, some (12, 12)), (236, 236, some (42, 42)), (236, 236, some (43, 43)), (236, 236, some (44, 44))] h h := FR.refl
  have tb_1 : h 236 3 = tn := xq1.2.1
  have tb_2 : 0 ≤ tn ∧ tn ≤ 800 := xq1.2.2
  have b1 := gi_b (lo := 0) (hi := 800) g 236 4 rfl
  have b2 := gi_b (lo := 0) (hi := 800) g 236 3 rfl
  have b3 := gi_b (lo := 0) (hi := 5) g 236 8 rfl
  have b4 := gi_b (lo := 0) (hi := 4) g 236 6 rfl
  have b5 := gi_b (lo := 0) (hi := 80) g 236 42 rfl
  have b6 := gi_b (lo := 0) (hi := 2) g 236 44 rfl
  have b7 := gi_b (lo := 0) (hi := 40) g 236 43 rfl
  have b8 := gi_b (lo := 0) (hi := 800) g 236 5 rfl
  have b9 := gi_b (lo := -9223372036854775808) (hi := 9223372036854775807) g 236 12 rfl
  have b10 := gi_b (lo := 0) (hi := 999) g 236 7 rfl
  have b11 := gi_b (lo := -2147483648) (hi := 2147483647) g 236 9 rfl
  refine wi_aload_n (i := 0) (x := 236) (nx := 1) (r1 := 0) (r2 := 0) (r3 := 0) rfl rfl ?_
  refine wr_V (k0 := 236) (rest := []) (as := [.ref 236]) (nx := 4) (r1 := 336) (r2 := 0) (r3 := 11) rfl rfl rfl (of_decide_eq_true rfl) rfl rfl (by decide) rfl rfl (of_decide_eq_true rfl) (of_decide_eq_true rfl) ?_
  refine ct_336_236 hcr  g   (show 0 ≤ tp by omega) (show tp ≤ tn by omega) (show tp ≤ tk_nx tB tn tp ∧ tk_nx tB tn tp ≤ tn by omega) (show (h 236 8) = 0 by omega) (show ((h 236 4) = tk_nx tB tn tp ∧ (h 236 5) = tk_st tB tn tp ∧ ((tk_kd tB tn tp = 0 ∧ (h 236 6) = 0) ∨ (tk_kd tB tn tp = 1 ∧ (h 236 6) = 1 ∧ (h 236 12) = tk_sw tB tn tp) ∨ (tk_kd tB tn tp = 2 ∧ (h 236 6) = 2 ∧ (h 236 7) = tk_nb tB tn tp) ∨ (tk_kd tB tn tp = 3 ∧ (h 236 6) = 3 ∧ (h 236 7) = 59) ∨ (tk_kd tB tn tp = 4 ∧ (h 236 6) = 3 ∧ (h 236 7) = 40) ∨ (tk_kd tB tn tp = 5 ∧ (h 236 6) = 3 ∧ (h 236 7) = 41) ∨ (tk_kd tB tn tp = 6 ∧ (h 236 6) = 4))) by first | assumption | exact tk_mv (by assumption) (by omega) (by omega) (by omega) (by omega) (by omega)) xq1 (fun z13  (fz13 : -1 ≤ z13 ∧ z13 ≤ 7) (p12_0 : (tk_kd tB tn tp = 1 ∧ 13 ≤ tk_wd (tk_lw tB tn tp) ∧ tk_wd (tk_lw tB tn tp) ≤ 20 ∧ z13 = tk_wd (tk_lw tB tn tp) - 13) ∨ ((tk_kd tB tn tp ≠ 1 ∨ tk_wd (tk_lw tB tn tp) < 13 ∨ 20 < tk_wd (tk_lw tB tn tp)) ∧ z13 = -1)) => ?_)
  refine wk_i ?_
  refine wi_istore_n (i := 1) (e := z13) (lo2 := [(1, vi z13), (0, .ref 236)]) (nx := 5) (r1 := 0) (r2 := 0) (r3 := 0) rfl rfl ?_
  refine wi_iload_n (i := 1) (e := z13) (nx := 6) (r1 := 0) (r2 := 0) (r3 := 0) rfl rfl ?_
  refine wi_iconst (n := (-1)) (nx := 7) (r1 := 0) (r2 := 0) (r3 := 0) rfl ?_
  refine wi_icmp (cd := .ne) (nx := 10) (r1 := 15) (r2 := 0) (r3 := 0) rfl (by omega) (by omega) (fun (q14 : z13 ≠ (-1)) => ?_) (fun (q14 : ¬ (z13 ≠ (-1))) => ?_)
  ·
    refine wi_iload_n (i := 1) (e := z13) (nx := 16) (r1 := 0) (r2 := 0) (r3 := 0) rfl rfl ?_
    refine wi_bipush (n := 7) (nx := 18) (r1 := 0) (r2 := 0) (r3 := 0) rfl (by decide) ?_
    refine wi_icmp (cd := .ne) (nx := 21) (r1 := 34) (r2 := 0) (r3 := 0) rfl (by omega) (by omega) (fun (q15 : z13 ≠ 7) => ?_) (fun (q15 : ¬ (z13 ≠ 7)) => ?_)
    ·
      refine wi_aload_n (i := 0) (x := 236) (nx := 35) (r1 := 0) (r2 := 0) (r3 := 0) rfl rfl ?_
      refine wr_gi0 (k0 := 236) (x := h 236 43) (nx := 38) (r1 := 11) (r2 := 43) (r3 := 0) rfl rfl (by decide) rfl ⟨rfl, rfl⟩ rfl rfl ?_
      refine wi_bipush (n := 40) (nx := 40) (r1 := 0) (r2 := 0) (r3 := 0) rfl (by decide) ?_
      refine wi_icmp (cd := .ne) (nx := 43) (r1 := 48) (r2 := 0) (r3 := 0) rfl (by omega) (by omega) (fun (q16 : (h 236 43) ≠ 40) => ?_) (fun (q16 : ¬ ((h 236 43) ≠ 40)) => ?_)
      ·
        refine wi_aload_n (i := 0) (x := 236) (nx := 49) (r1 := 0) (r2 := 0) (r3 := 0) rfl rfl ?_
        refine wr_V (k0 := 236) (rest := []) (as := [.ref 236]) (nx := 52) (r1 := 219) (r2 := 0) (r3 := 11) rfl rfl rfl (of_decide_eq_true rfl) rfl rfl (by decide) rfl rfl (of_decide_eq_true rfl) (of_decide_eq_true rfl) ?_
        refine wi_aload_n (i := 0) (x := 236) (nx := 1) (r1 := 0) (r2 := 0) (r3 := 0) rfl rfl ?_
        refine wr_gi0 (k0 := 236) (x := h 236 8) (nx := 4) (r1 := 11) (r2 := 8) (r3 := 0) rfl rfl (by decide) rfl ⟨rfl, rfl⟩ rfl rfl ?_
        refine wi_if (cd := .ne) (nx := 7) (r1 := 11) (r2 := 0) (r3 := 0) rfl (by omega) (fun (q17 : (h 236 8) ≠ 0) => by exfalso; omega) (fun (q17 : ¬ ((h 236 8) ≠ 0)) => ?_)
        refine wi_iconst (n := 1) (nx := 8) (r1 := 0) (r2 := 0) (r3 := 0) rfl ?_
        refine wi_goto (nx := 11) (r1 := 12) (r2 := 0) (r3 := 0) rfl ?_
        refine wi_zreturn (nx := 13) (r1 := 0) (r2 := 0) (r3 := 0) rfl rfl (by omega) ?_
        refine wk_i ?_
        refine wi_if (cd := .ne) (nx := 55) (r1 := 56) (r2 := 0) (r3 := 0) rfl (by omega) (fun (q18 : 1 ≠ 0) => ?_) (fun (q18 : ¬ (1 ≠ 0)) => by exfalso; omega)
        refine wi_aload_n (i := 0) (x := 236) (nx := 57) (r1 := 0) (r2 := 0) (r3 := 0) rfl rfl ?_
        refine wi_dup (nx := 58) (r1 := 0) (r2 := 0) (r3 := 0) rfl rfl ?_
        refine wr_gi0 (k0 := 236) (x := h 236 43) (nx := 61) (r1 := 11) (r2 := 43) (r3 := 0) rfl rfl (by decide) rfl ⟨rfl, rfl⟩ rfl rfl ?_
        refine wi_iconst (n := 1) (nx := 62) (r1 := 0) (r2 := 0) (r3 := 0) rfl ?_
        refine wr_add (nx := 63) (r1 := 0) (r2 := 0) (r3 := 0) rfl (fun e19 (fe19 : e19 = (h 236 43) + 1) => ?_)
        refine wr_pf0 (k0 := 236) (x := e19) (bl := 0) (bh := 40) (nx := 66) (r1 := 11) (r2 := 43) (r3 := 0) rfl (by decide) rfl ⟨rfl, rfl⟩ rfl rfl g rfl (by omega) (fun h20 g20 w20 u20 => ?_)
        have F21 := F0.then rfl u20
        refine wi_aload_n (i := 0) (x := 236) (nx := 67) (r1 := 0) (r2 := 0) (r3 := 0) rfl rfl ?_
        refine wr_V (k0 := 236) (rest := []) (as := [.ref 236]) (nx := 70) (r1 := 215) (r2 := 0) (r3 := 11) rfl rfl rfl (of_decide_eq_true rfl) rfl rfl (by decide) rfl rfl (of_decide_eq_true rfl) (of_decide_eq_true rfl) ?_
        have e23 : h20 236 4 = h 236 4 := (u20 236 4 rfl)
        have e24 : h20 236 3 = h 236 3 := (u20 236 3 rfl)
        have rb25 := RefB.fr u20 rfl xq1
        refine ct_215_236 hcr  g20   (show (h20 236 4) ≤ (h20 236 3) by omega) (show (h20 236 4) = (tk_nx tB tn tp) by omega) (show 0 ≤ (tk_nx tB tn tp) by omega) (show (tk_nx tB tn tp) ≤ tn by omega) rb25 (fun h22 g22 u22 (p22_0 : (h20 236 4) ≤ (h22 236 4)) (p22_1 : (h22 236 4) ≤ (h20 236 3)) (p22_2 : ((h22 236 4) = tk_nx tB tn (tk_nx tB tn tp) ∧ (h22 236 5) = tk_st tB tn (tk_nx tB tn tp) ∧ ((tk_kd tB tn (tk_nx tB tn tp) = 0 ∧ (h22 236 6) = 0) ∨ (tk_kd tB tn (tk_nx tB tn tp) = 1 ∧ (h22 236 6) = 1 ∧ (h22 236 12) = tk_sw tB tn (tk_nx tB tn tp)) ∨ (tk_kd tB tn (tk_nx tB tn tp) = 2 ∧ (h22 236 6) = 2 ∧ (h22 236 7) = tk_nb tB tn (tk_nx tB tn tp)) ∨ (tk_kd tB tn (tk_nx tB tn tp) = 3 ∧ (h22 236 6) = 3 ∧ (h22 236 7) = 59) ∨ (tk_kd tB tn (tk_nx tB tn tp) = 4 ∧ (h22 236 6) = 3 ∧ (h22 236 7) = 40) ∨ (tk_kd tB tn (tk_nx tB tn tp) = 5 ∧ (h22 236 6) = 3 ∧ (h22 236 7) = 41) ∨ (tk_kd tB tn (tk_nx tB tn tp) = 6 ∧ (h22 236 6) = 4)))) (p22_3 : (tk_nx tB tn tp) ≤ tk_nx tB tn (tk_nx tB tn tp) ∧ tk_nx tB tn (tk_nx tB tn tp) ≤ tn) => ?_)
        have F26 := F21.then (by decide +kernel) u22
        have b27 := gi_b (lo := 0) (hi := 800) g22 236 4 rfl
        have b28 := gi_b (lo := 0) (hi := 800) g22 236 5 rfl
        have b29 := gi_b (lo := 0) (hi := 4) g22 236 6 rfl
        have b30 := gi_b (lo := -9223372036854775808) (hi := 9223372036854775807) g22 236 12 rfl
        have b31 := gi_b (lo := 0) (hi := 999) g22 236 7 rfl
        have tN32 := @tk_nx_b tB tn (tk_nx tB tn tp) (by omega) (by omega)
        refine wk_n ?_
        refine wi_iload_n (i := 1) (e := z13) (nx := 71) (r1 := 0) (r2 := 0) (r3 := 0) rfl rfl ?_
        refine wi_iconst (n := 2) (nx := 72) (r1 := 0) (r2 := 0) (r3 := 0) rfl ?_
        refine wi_icmp (cd := .gt) (nx := 75) (r1 := 89) (r2 := 0) (r3 := 0) rfl (by omega) (by omega) (fun (q33 : 2 < z13) => ?_) (fun (q33 : ¬ (2 < z13)) => ?_)
        ·
          refine wi_iload_n (i := 1) (e := z13) (nx := 90) (r1 := 0) (r2 := 0) (r3 := 0) rfl rfl ?_
          refine wi_iconst (n := 4) (nx := 91) (r1 := 0) (r2 := 0) (r3 := 0) rfl ?_
          refine wi_icmp (cd := .gt) (nx := 94) (r1 := 109) (r2 := 0) (r3 := 0) rfl (by omega) (by omega) (fun (q34 : 4 < z13) => ?_) (fun (q34 : ¬ (4 < z13)) => ?_)
          ·
            refine wi_iload_n (i := 1) (e := z13) (nx := 110) (r1 := 0) (r2 := 0) (r3 := 0) rfl rfl ?_
            refine wi_bipush (n := 7) (nx := 112) (r1 := 0) (r2 := 0) (r3 := 0) rfl (by decide) ?_
            refine wi_icmp (cd := .ne) (nx := 115) (r1 := 146) (r2 := 0) (r3 := 0) rfl (by omega) (by omega) (fun (q35 : z13 ≠ 7) => ?_) (fun (q35 : ¬ (z13 ≠ 7)) => by exfalso; omega)
            refine wi_aload_n (i := 0) (x := 236) (nx := 147) (r1 := 0) (r2 := 0) (r3 := 0) rfl rfl ?_
            refine wi_iload_n (i := 1) (e := z13) (nx := 148) (r1 := 0) (r2 := 0) (r3 := 0) rfl rfl ?_
            refine wi_iconst (n := 0) (nx := 149) (r1 := 0) (r2 := 0) (r3 := 0) rfl ?_
            refine wr_V (k0 := 236) (rest := []) (as := [.ref 236, vi z13, vi 0]) (nx := 152) (r1 := 337) (r2 := 2) (r3 := 11) rfl rfl rfl (of_decide_eq_true rfl) rfl rfl (by decide) rfl rfl (of_decide_eq_true rfl) (of_decide_eq_true rfl) ?_
            refine wi_aload_n (i := 0) (x := 236) (nx := 1) (r1 := 0) (r2 := 0) (r3 := 0) rfl rfl ?_
            refine wr_V (k0 := 236) (rest := []) (as := [.ref 236]) (nx := 4) (r1 := 219) (r2 := 0) (r3 := 11) rfl rfl rfl (of_decide_eq_true rfl) rfl rfl (by decide) rfl rfl (of_decide_eq_true rfl) (of_decide_eq_true rfl) ?_
            refine wi_aload_n (i := 0) (x := 236) (nx := 1) (r1 := 0) (r2 := 0) (r3 := 0) rfl rfl ?_
            refine wr_gi0 (k0 := 236) (x := h 236 8) (nx := 4) (r1 := 11) (r2 := 8) (r3 := 0) rfl rfl (by decide) rfl ⟨rfl, rfl⟩ rfl ((u22 236 8 rfl).trans (u20 236 8 rfl)) ?_
            refine wi_if (cd := .ne) (nx := 7) (r1 := 11) (r2 := 0) (r3 := 0) rfl (by omega) (fun (q36 : (h 236 8) ≠ 0) => by exfalso; omega) (fun (q36 : ¬ ((h 236 8) ≠ 0)) => ?_)
            refine wi_iconst (n := 1) (nx := 8) (r1 := 0) (r2 := 0) (r3 := 0) rfl ?_
            refine wi_goto (nx := 11) (r1 := 12) (r2 := 0) (r3 := 0) rfl ?_
            refine wi_zreturn (nx := 13) (r1 := 0) (r2 := 0) (r3 := 0) rfl rfl (by omega) ?_
            refine wk_i ?_
            refine wi_if (cd := .ne) (nx := 7) (r1 := 8) (r2 := 0) (r3 := 0) rfl (by omega) (fun (q37 : 1 ≠ 0) => ?_) (fun (q37 : ¬ (1 ≠ 0)) => by exfalso; omega)
            refine wi_aload_n (i := 0) (x := 236) (nx := 9) (r1 := 0) (r2 := 0) (r3 := 0) rfl rfl ?_
            refine wr_gr (k0 := 236) (x := 253) (nx := 12) (r1 := 11) (r2 := 37) (r3 := 0) rfl rfl (by decide) rfl ⟨rfl, rfl⟩ rfl ?_
            refine wi_aload_n (i := 0) (x := 236) (nx := 13) (r1 := 0) (r2 := 0) (r3 := 0) rfl rfl ?_
            refine wr_gi0 (k0 := 236) (x := h 236 42) (nx := 16) (r1 := 11) (r2 := 42) (r3 := 0) rfl rfl (by decide) rfl ⟨rfl, rfl⟩ rfl ((u22 236 42 rfl).trans (u20 236 42 rfl)) ?_
            refine wi_iload_n (i := 1) (e := z13) (nx := 17) (r1 := 0) (r2 := 0) (r3 := 0) rfl rfl ?_
            obtain ⟨i38, ei38⟩ : ∃ q : Nat, (h 236 42) = (q : Int) := ⟨(h 236 42).toNat, by omega⟩
            refine wr_is (k0 := 253) (a := h 236 42) (f := i38) (x := z13) (bl := 0) (bh := 8) (nx := 18) (r1 := 0) (r2 := 0) (r3 := 0) rfl (by decide) rfl (by omega) (by omega) (by decide) g22 rfl (by omega) (fun h39 g39 w39 u39 => ?_)
            have F40 := F26.then rfl (FR.rngp (lo := 253) (hi := 253) u39 (by decide))
            refine wi_aload_n (i := 0) (x := 236) (nx := 19) (r1 := 0) (r2 := 0) (r3 := 0) rfl rfl ?_
            refine wr_gr (k0 := 236) (x := 254) (nx := 22) (r1 := 11) (r2 := 38) (r3 := 0) rfl rfl (by decide) rfl ⟨rfl, rfl⟩ rfl ?_
            refine wi_aload_n (i := 0) (x := 236) (nx := 23) (r1 := 0) (r2 := 0) (r3 := 0) rfl rfl ?_
            refine wr_gi0 (k0 := 236) (x := h 236 42) (nx := 26) (r1 := 11) (r2 := 42) (r3 := 0) rfl rfl (by decide) rfl ⟨rfl, rfl⟩ rfl ((u39 236 42 (fn_a (by omega) fn_0)).trans ((u22 236 42 rfl).trans (u20 236 42 rfl))) ?_
            refine wi_iload_n (i := 2) (e := 0) (nx := 27) (r1 := 0) (r2 := 0) (r3 := 0) rfl rfl ?_
            refine wr_is (k0 := 254) (a := h 236 42) (f := i38) (x := 0) (bl := 0) (bh := 999) (nx := 28) (r1 := 0) (r2 := 0) (r3 := 0) rfl (by decide) rfl (by omega) (by omega) (by decide) g39 rfl (by omega) (fun h41 g41 w41 u41 => ?_)
            have F42 := F40.then rfl (FR.rngp (lo := 254) (hi := 254) u41 (by decide))
            refine wi_aload_n (i := 0) (x := 236) (nx := 29) (r1 := 0) (r2 := 0) (r3 := 0) rfl rfl ?_
            refine wi_dup (nx := 30) (r1 := 0) (r2 := 0) (r3 := 0) rfl rfl ?_
            refine wr_gi0 (k0 := 236) (x := h 236 42) (nx := 33) (r1 := 11) (r2 := 42) (r3 := 0) rfl rfl (by decide) rfl ⟨rfl, rfl⟩ rfl ((u41 236 42 (fn_a (by omega) fn_0)).trans ((u39 236 42 (fn_a (by omega) fn_0)).trans ((u22 236 42 rfl).trans (u20 236 42 rfl)))) ?_
            refine wi_iconst (n := 1) (nx := 34) (r1 := 0) (r2 := 0) (r3 := 0) rfl ?_
            refine wr_add (nx := 35) (r1 := 0) (r2 := 0) (r3 := 0) rfl (fun e43 (fe43 : e43 = (h 236 42) + 1) => ?_)
            refine wr_pf0 (k0 := 236) (x := e43) (bl := 0) (bh := 80) (nx := 38) (r1 := 11) (r2 := 42) (r3 := 0) rfl (by decide) rfl ⟨rfl, rfl⟩ rfl rfl g41 rfl (by omega) (fun h44 g44 w44 u44 => ?_)
            have F45 := F42.then rfl u44
            refine wi_return (nx := 39) (r1 := 0) (r2 := 0) (r3 := 0) rfl rfl ?_
            refine wk_n ?_
            refine wi_return (nx := 153) (r1 := 0) (r2 := 0) (r3 := 0) rfl rfl ?_
            have e46 : h44 236 8 = h 236 8 := ((u44 236 8 rfl).trans ((u41 236 8 (fn_a (by omega) fn_0)).trans ((u39 236 8 (fn_a (by omega) fn_0)).trans ((u22 236 8 rfl).trans (u20 236 8 rfl)))))
            have e47 : h44 236 44 = h 236 44 := ((u44 236 44 rfl).trans ((u41 236 44 (fn_a (by omega) fn_0)).trans ((u39 236 44 (fn_a (by omega) fn_0)).trans ((u22 236 44 rfl).trans (u20 236 44 rfl)))))
            have e48 : h44 236 9 = h 236 9 := ((u44 236 9 rfl).trans ((u41 236 9 (fn_a (by omega) fn_0)).trans ((u39 236 9 (fn_a (by omega) fn_0)).trans ((u22 236 9 rfl).trans (u20 236 9 rfl)))))
            have e49 : h44 236 4 = h22 236 4 := ((u44 236 4 rfl).trans ((u41 236 4 (fn_a (by omega) fn_0)).trans (u39 236 4 (fn_a (by omega) fn_0))))
            have e50 : h44 236 6 = h22 236 6 := ((u44 236 6 rfl).trans ((u41 236 6 (fn_a (by omega) fn_0)).trans (u39 236 6 (fn_a (by omega) fn_0))))
            have e51 : h44 236 42 = e43 := w44
            have e52 : h44 236 43 = e19 := ((u44 236 43 rfl).trans ((u41 236 43 (fn_a (by omega) fn_0)).trans ((u39 236 43 (fn_a (by omega) fn_0)).trans ((u22 236 43 rfl).trans w20))))
            have q53 : h44 253 = h39 253 := funext (fun i => ((u44 253 i rfl).trans (u41 253 i (fn_a (by omega) fn_0))))
            have q54 : h22 253 = h 253 := funext (fun i => ((u22 253 i (fo_no_ok (by decide) i)).trans (u20 253 i rfl)))
            have e55 : h44 236 5 = h22 236 5 := ((u44 236 5 rfl).trans ((u41 236 5 (fn_a (by omega) fn_0)).trans (u39 236 5 (fn_a (by omega) fn_0))))
            have e56 : h44 236 7 = h22 236 7 := ((u44 236 7 rfl).trans ((u41 236 7 (fn_a (by omega) fn_0)).trans (u39 236 7 (fn_a (by omega) fn_0))))
            have e57 : h44 236 12 = h22 236 12 := ((u44 236 12 rfl).trans ((u41 236 12 (fn_a (by omega) fn_0)).trans (u39 236 12 (fn_a (by omega) fn_0))))
            exact k h44 g44 F45 (show (1 ≤ (h44 236 8)) ∨ ((h44 236 8) = 0 ∧ (h44 236 44) = (h 236 44) + 1) ∨ ((h44 236 8) = 0 ∧ (h44 236 44) = (h 236 44)) by omega) (show (h44 236 8) ≠ 0 ∨ (h44 236 9) = -1 by omega) (show (h 236 4) ≤ (h44 236 4) by omega) (show (h44 236 4) ≤ (h 236 3) by omega) (show 1 ≤ (h44 236 8) ∨ (h44 236 6) = 0 ∨ (h 236 4) + 1 ≤ (h44 236 4) by omega) (show 1 ≤ (h44 236 8) ∨ (h44 236 42) + (h44 236 44) ≤ 2 * (h44 236 43) by omega) (fun e => by
                rw [q53]
                refine WP.put (S := h 253) (n := h 236 42) (o := h 236 44) xq0 (by omega) (fun k hk => (u39 253 k (fn_i (by omega) fn_0)).trans (congrFun q54 k)) ?_ (by omega)
                rw [show (h 236 42).toNat = i38 by omega, w39]
                omega) (Or.inr (Or.inr ⟨by omega, by omega, by omega, (tk_nx tB tn tp), by omega, by omega, by omega, (by first | assumption | exact tk_mv (by assumption) (by omega) (by omega) (by omega) (by omega) (by omega)), (fun e => by unfold sc_cmd sc_hd sc_num sc_mk; (try dsimp only); (repeat (first | rw [if_pos (by omega)] | rw [if_neg (by omega)])); (repeat ((first | unfold sc_num | unfold sc_mk); (try dsimp only); (repeat (first | rw [if_pos (by omega)] | rw [if_neg (by omega)])))); exact sc_inr rfl (by omega) (by omega)), (fun e => by unfold sc_cmd sc_hd sc_num sc_mk; (try dsimp only); (repeat (first | rw [if_pos (by omega)] | rw [if_neg (by omega)])); (repeat ((first | unfold sc_num | unfold sc_mk); (try dsimp only); (repeat (first | rw [if_pos (by omega)] | rw [if_neg (by omega)])))); rfl)⟩))
          ·
            refine wi_aload_n (i := 0) (x := 236) (nx := 95) (r1 := 0) (r2 := 0) (r3 := 0) rfl rfl ?_
            refine wi_iload_n (i := 1) (e := z13) (nx := 96) (r1 := 0) (r2 := 0) (r3 := 0) rfl rfl ?_
            refine wi_aload_n (i := 0) (x := 236) (nx := 97) (r1 := 0) (r2 := 0) (r3 := 0) rfl rfl ?_
            refine wi_iconst (n := 1) (nx := 98) (r1 := 0) (r2 := 0) (r3 := 0) rfl ?_
            refine wi_bipush (n := 99) (nx := 100) (r1 := 0) (r2 := 0) (r3 := 0) rfl (by decide) ?_
            refine wr_V (k0 := 236) (rest := [vi z13, .ref 236]) (as := [.ref 236, vi 1, vi 99]) (nx := 103) (r1 := 231) (r2 := 2) (r3 := 11) rfl rfl rfl (of_decide_eq_true rfl) rfl rfl (by decide) rfl rfl (of_decide_eq_true rfl) (of_decide_eq_true rfl) ?_
            have e36 : h22 236 3 = h 236 3 := ((u22 236 3 rfl).trans (u20 236 3 rfl))
            have e37 : h22 236 8 = h 236 8 := ((u22 236 8 rfl).trans (u20 236 8 rfl))
            have rb39 := RefB.fr u22 rfl rb25
            refine ct_231_236 hcr  g22 1 99 (by omega) (by omega) (show (h22 236 4) ≤ (h22 236 3) by omega) (show 0 ≤ (tk_nx tB tn tp) by omega) (show (tk_nx tB tn tp) ≤ tn by omega) (show (tk_nx tB tn tp) ≤ tk_nx tB tn (tk_nx tB tn tp) ∧ tk_nx tB tn (tk_nx tB tn tp) ≤ tn by omega) (show 1 ≤ (h22 236 8) ∨ ((h22 236 4) = tk_nx tB tn (tk_nx tB tn tp) ∧ (h22 236 5) = tk_st tB tn (tk_nx tB tn tp) ∧ ((tk_kd tB tn (tk_nx tB tn tp) = 0 ∧ (h22 236 6) = 0) ∨ (tk_kd tB tn (tk_nx tB tn tp) = 1 ∧ (h22 236 6) = 1 ∧ (h22 236 12) = tk_sw tB tn (tk_nx tB tn tp)) ∨ (tk_kd tB tn (tk_nx tB tn tp) = 2 ∧ (h22 236 6) = 2 ∧ (h22 236 7) = tk_nb tB tn (tk_nx tB tn tp)) ∨ (tk_kd tB tn (tk_nx tB tn tp) = 3 ∧ (h22 236 6) = 3 ∧ (h22 236 7) = 59) ∨ (tk_kd tB tn (tk_nx tB tn tp) = 4 ∧ (h22 236 6) = 3 ∧ (h22 236 7) = 40) ∨ (tk_kd tB tn (tk_nx tB tn tp) = 5 ∧ (h22 236 6) = 3 ∧ (h22 236 7) = 41) ∨ (tk_kd tB tn (tk_nx tB tn tp) = 6 ∧ (h22 236 6) = 4))) from (Or.inr (show ((h22 236 4) = tk_nx tB tn (tk_nx tB tn tp) ∧ (h22 236 5) = tk_st tB tn (tk_nx tB tn tp) ∧ ((tk_kd tB tn (tk_nx tB tn tp) = 0 ∧ (h22 236 6) = 0) ∨ (tk_kd tB tn (tk_nx tB tn tp) = 1 ∧ (h22 236 6) = 1 ∧ (h22 236 12) = tk_sw tB tn (tk_nx tB tn tp)) ∨ (tk_kd tB tn (tk_nx tB tn tp) = 2 ∧ (h22 236 6) = 2 ∧ (h22 236 7) = tk_nb tB tn (tk_nx tB tn tp)) ∨ (tk_kd tB tn (tk_nx tB tn tp) = 3 ∧ (h22 236 6) = 3 ∧ (h22 236 7) = 59) ∨ (tk_kd tB tn (tk_nx tB tn tp) = 4 ∧ (h22 236 6) = 3 ∧ (h22 236 7) = 40) ∨ (tk_kd tB tn (tk_nx tB tn tp) = 5 ∧ (h22 236 6) = 3 ∧ (h22 236 7) = 41) ∨ (tk_kd tB tn (tk_nx tB tn tp) = 6 ∧ (h22 236 6) = 4))) by first | assumption | exact tk_mv (by assumption) (by omega) (by omega) (by omega) (by omega) (by omega)))) rb39 (fun h35 z38 g35 u35 (fz38 : 0 ≤ z38 ∧ z38 ≤ 999) (p35_0 : (1 ≤ (h22 236 8) ∧ (h35 236 8) = (h22 236 8) ∧ (h35 236 9) = (h22 236 9)) ∨ ((h22 236 8) = 0 ∧ tk_kd tB tn (tk_nx tB tn tp) = 2 ∧ 1 ≤ tk_nb tB tn (tk_nx tB tn tp) ∧ tk_nb tB tn (tk_nx tB tn tp) ≤ 99 ∧ z38 = tk_nb tB tn (tk_nx tB tn tp) ∧ (h35 236 8) = (h22 236 8) ∧ (h35 236 9) = (h22 236 9) ∧ ((h35 236 4) = tk_nx tB tn (tk_nx tB tn (tk_nx tB tn tp)) ∧ (h35 236 5) = tk_st tB tn (tk_nx tB tn (tk_nx tB tn tp)) ∧ ((tk_kd tB tn (tk_nx tB tn (tk_nx tB tn tp)) = 0 ∧ (h35 236 6) = 0) ∨ (tk_kd tB tn (tk_nx tB tn (tk_nx tB tn tp)) = 1 ∧ (h35 236 6) = 1 ∧ (h35 236 12) = tk_sw tB tn (tk_nx tB tn (tk_nx tB tn tp))) ∨ (tk_kd tB tn (tk_nx tB tn (tk_nx tB tn tp)) = 2 ∧ (h35 236 6) = 2 ∧ (h35 236 7) = tk_nb tB tn (tk_nx tB tn (tk_nx tB tn tp))) ∨ (tk_kd tB tn (tk_nx tB tn (tk_nx tB tn tp)) = 3 ∧ (h35 236 6) = 3 ∧ (h35 236 7) = 59) ∨ (tk_kd tB tn (tk_nx tB tn (tk_nx tB tn tp)) = 4 ∧ (h35 236 6) = 3 ∧ (h35 236 7) = 40) ∨ (tk_kd tB tn (tk_nx tB tn (tk_nx tB tn tp)) = 5 ∧ (h35 236 6) = 3 ∧ (h35 236 7) = 41) ∨ (tk_kd tB tn (tk_nx tB tn (tk_nx tB tn tp)) = 6 ∧ (h35 236 6) = 4)))) ∨ ((h22 236 8) = 0 ∧ tk_kd tB tn (tk_nx tB tn tp) ≠ 2 ∧ (h35 236 8) = 1 ∧ (h35 236 9) = tk_st tB tn (tk_nx tB tn tp)) ∨ ((h22 236 8) = 0 ∧ tk_kd tB tn (tk_nx tB tn tp) = 2 ∧ (tk_nb tB tn (tk_nx tB tn tp) < 1 ∨ 99 < tk_nb tB tn (tk_nx tB tn tp)) ∧ (h35 236 8) = 2 ∧ (h35 236 9) = tk_st tB tn (tk_nx tB tn tp))) (p35_1 : (h22 236 4) ≤ (h35 236 4)) (p35_2 : (h35 236 4) ≤ (h22 236 3)) (p35_3 : 1 ≤ (h35 236 8) ∨ (h22 236 8) = 0) (p35_4 : 1 ≤ (h35 236 8) ∨ (1 ≤ z38 ∧ z38 ≤ 99)) (p35_5 : 1 ≤ (h35 236 8) ∨ (h22 236 6) = 2) => ?_)
            have F40 := F26.then (by decide +kernel) u35
            have e41 : h22 236 9 = h 236 9 := ((u22 236 9 rfl).trans (u20 236 9 rfl))
            have b42 := gi_b (lo := 0) (hi := 5) g35 236 8 rfl
            have b43 := gi_b (lo := -2147483648) (hi := 2147483647) g35 236 9 rfl
            have b44 := gi_b (lo := 0) (hi := 800) g35 236 4 rfl
            have b45 := gi_b (lo := 0) (hi := 800) g35 236 5 rfl
            have b46 := gi_b (lo := 0) (hi := 4) g35 236 6 rfl
            have b47 := gi_b (lo := -9223372036854775808) (hi := 9223372036854775807) g35 236 12 rfl
            have b48 := gi_b (lo := 0) (hi := 999) g35 236 7 rfl
            refine wk_i ?_
            rcases p35_0 with p35_0 | p35_0 | p35_0 | p35_0
            ·
              exfalso; omega
            ·
              have tk49 := p35_0.2.2.2.2.2.2.2
              have tN50 := @tk_nx_b tB tn (tk_nx tB tn (tk_nx tB tn tp)) (by omega) (by omega)
              refine wr_V (k0 := 236) (rest := []) (as := [.ref 236, vi z13, vi z38]) (nx := 106) (r1 := 337) (r2 := 2) (r3 := 11) rfl rfl rfl (of_decide_eq_true rfl) rfl rfl (by decide) rfl rfl (of_decide_eq_true rfl) (of_decide_eq_true rfl) ?_
              refine wi_aload_n (i := 0) (x := 236) (nx := 1) (r1 := 0) (r2 := 0) (r3 := 0) rfl rfl ?_
              refine wr_V (k0 := 236) (rest := []) (as := [.ref 236]) (nx := 4) (r1 := 219) (r2 := 0) (r3 := 11) rfl rfl rfl (of_decide_eq_true rfl) rfl rfl (by decide) rfl rfl (of_decide_eq_true rfl) (of_decide_eq_true rfl) ?_
              refine wi_aload_n (i := 0) (x := 236) (nx := 1) (r1 := 0) (r2 := 0) (r3 := 0) rfl rfl ?_
              refine wr_gi0 (k0 := 236) (x := h35 236 8) (nx := 4) (r1 := 11) (r2 := 8) (r3 := 0) rfl rfl (by decide) rfl ⟨rfl, rfl⟩ rfl rfl ?_
              refine wi_if (cd := .ne) (nx := 7) (r1 := 11) (r2 := 0) (r3 := 0) rfl (by omega) (fun (q51 : (h35 236 8) ≠ 0) => by exfalso; omega) (fun (q51 : ¬ ((h35 236 8) ≠ 0)) => ?_)
              refine wi_iconst (n := 1) (nx := 8) (r1 := 0) (r2 := 0) (r3 := 0) rfl ?_
              refine wi_goto (nx := 11) (r1 := 12) (r2 := 0) (r3 := 0) rfl ?_
              refine wi_zreturn (nx := 13) (r1 := 0) (r2 := 0) (r3 := 0) rfl rfl (by omega) ?_
              refine wk_i ?_
              refine wi_if (cd := .ne) (nx := 7) (r1 := 8) (r2 := 0) (r3 := 0) rfl (by omega) (fun (q52 : 1 ≠ 0) => ?_) (fun (q52 : ¬ (1 ≠ 0)) => by exfalso; omega)
              refine wi_aload_n (i := 0) (x := 236) (nx := 9) (r1 := 0) (r2 := 0) (r3 := 0) rfl rfl ?_
              refine wr_gr (k0 := 236) (x := 253) (nx := 12) (r1 := 11) (r2 := 37) (r3 := 0) rfl rfl (by decide) rfl ⟨rfl, rfl⟩ rfl ?_
              refine wi_aload_n (i := 0) (x := 236) (nx := 13) (r1 := 0) (r2 := 0) (r3 := 0) rfl rfl ?_
              refine wr_gi0 (k0 := 236) (x := h 236 42) (nx := 16) (r1 := 11) (r2 := 42) (r3 := 0) rfl rfl (by decide) rfl ⟨rfl, rfl⟩ rfl ((u35 236 42 rfl).trans ((u22 236 42 rfl).trans (u20 236 42 rfl))) ?_
              refine wi_iload_n (i := 1) (e := z13) (nx := 17) (r1 := 0) (r2 := 0) (r3 := 0) rfl rfl ?_
              obtain ⟨i53, ei53⟩ : ∃ q : Nat, (h 236 42) = (q : Int) := ⟨(h 236 42).toNat, by omega⟩
              refine wr_is (k0 := 253) (a := h 236 42) (f := i53) (x := z13) (bl := 0) (bh := 8) (nx := 18) (r1 := 0) (r2 := 0) (r3 := 0) rfl (by decide) rfl (by omega) (by omega) (by decide) g35 rfl (by omega) (fun h54 g54 w54 u54 => ?_)
              have F55 := F40.then rfl (FR.rngp (lo := 253) (hi := 253) u54 (by decide))
              refine wi_aload_n (i := 0) (x := 236) (nx := 19) (r1 := 0) (r2 := 0) (r3 := 0) rfl rfl ?_
              refine wr_gr (k0 := 236) (x := 254) (nx := 22) (r1 := 11) (r2 := 38) (r3 := 0) rfl rfl (by decide) rfl ⟨rfl, rfl⟩ rfl ?_
              refine wi_aload_n (i := 0) (x := 236) (nx := 23) (r1 := 0) (r2 := 0) (r3 := 0) rfl rfl ?_
              refine wr_gi0 (k0 := 236) (x := h 236 42) (nx := 26) (r1 := 11) (r2 := 42) (r3 := 0) rfl rfl (by decide) rfl ⟨rfl, rfl⟩ rfl ((u54 236 42 (fn_a (by omega) fn_0)).trans ((u35 236 42 rfl).trans ((u22 236 42 rfl).trans (u20 236 42 rfl)))) ?_
              refine wi_iload_n (i := 2) (e := z38) (nx := 27) (r1 := 0) (r2 := 0) (r3 := 0) rfl rfl ?_
              refine wr_is (k0 := 254) (a := h 236 42) (f := i53) (x := z38) (bl := 0) (bh := 999) (nx := 28) (r1 := 0) (r2 := 0) (r3 := 0) rfl (by decide) rfl (by omega) (by omega) (by decide) g54 rfl (by omega) (fun h56 g56 w56 u56 => ?_)
              have F57 := F55.then rfl (FR.rngp (lo := 254) (hi := 254) u56 (by decide))
              refine wi_aload_n (i := 0) (x := 236) (nx := 29) (r1 := 0) (r2 := 0) (r3 := 0) rfl rfl ?_
              refine wi_dup (nx := 30) (r1 := 0) (r2 := 0) (r3 := 0) rfl rfl ?_
              refine wr_gi0 (k0 := 236) (x := h 236 42) (nx := 33) (r1 := 11) (r2 := 42) (r3 := 0) rfl rfl (by decide) rfl ⟨rfl, rfl⟩ rfl ((u56 236 42 (fn_a (by omega) fn_0)).trans ((u54 236 42 (fn_a (by omega) fn_0)).trans ((u35 236 42 rfl).trans ((u22 236 42 rfl).trans (u20 236 42 rfl))))) ?_
              refine wi_iconst (n := 1) (nx := 34) (r1 := 0) (r2 := 0) (r3 := 0) rfl ?_
              refine wr_add (nx := 35) (r1 := 0) (r2 := 0) (r3 := 0) rfl (fun e58 (fe58 : e58 = (h 236 42) + 1) => ?_)
              refine wr_pf0 (k0 := 236) (x := e58) (bl := 0) (bh := 80) (nx := 38) (r1 := 11) (r2 := 42) (r3 := 0) rfl (by decide) rfl ⟨rfl, rfl⟩ rfl rfl g56 rfl (by omega) (fun h59 g59 w59 u59 => ?_)
              have F60 := F57.then rfl u59
              refine wi_return (nx := 39) (r1 := 0) (r2 := 0) (r3 := 0) rfl rfl ?_
              refine wk_n ?_
              refine wi_goto (nx := 109) (r1 := 152) (r2 := 0) (r3 := 0) rfl ?_
              refine wi_return (nx := 153) (r1 := 0) (r2 := 0) (r3 := 0) rfl rfl ?_
              have e61 : h59 236 8 = h35 236 8 := ((u59 236 8 rfl).trans ((u56 236 8 (fn_a (by omega) fn_0)).trans (u54 236 8 (fn_a (by omega) fn_0))))
              have e62 : h59 236 44 = h 236 44 := ((u59 236 44 rfl).trans ((u56 236 44 (fn_a (by omega) fn_0)).trans ((u54 236 44 (fn_a (by omega) fn_0)).trans ((u35 236 44 rfl).trans ((u22 236 44 rfl).trans (u20 236 44 rfl))))))
              have e63 : h59 236 9 = h35 236 9 := ((u59 236 9 rfl).trans ((u56 236 9 (fn_a (by omega) fn_0)).trans (u54 236 9 (fn_a (by omega) fn_0))))
              have e64 : h59 236 4 = h35 236 4 := ((u59 236 4 rfl).trans ((u56 236 4 (fn_a (by omega) fn_0)).trans (u54 236 4 (fn_a (by omega) fn_0))))
              have e65 : h59 236 6 = h35 236 6 := ((u59 236 6 rfl).trans ((u56 236 6 (fn_a (by omega) fn_0)).trans (u54 236 6 (fn_a (by omega) fn_0))))
              have e66 : h59 236 42 = e58 := w59
              have e67 : h59 236 43 = e19 := ((u59 236 43 rfl).trans ((u56 236 43 (fn_a (by omega) fn_0)).trans ((u54 236 43 (fn_a (by omega) fn_0)).trans ((u35 236 43 rfl).trans ((u22 236 43 rfl).trans w20)))))
              have q68 : h59 253 = h54 253 := funext (fun i => ((u59 253 i rfl).trans (u56 253 i (fn_a (by omega) fn_0))))
              have q69 : h35 253 = h 253 := funext (fun i => ((u35 253 i (fo_no_ok (by decide) i)).trans ((u22 253 i (fo_no_ok (by decide) i)).trans (u20 253 i rfl))))
              have e70 : h59 236 5 = h35 236 5 := ((u59 236 5 rfl).trans ((u56 236 5 (fn_a (by omega) fn_0)).trans (u54 236 5 (fn_a (by omega) fn_0))))
              have e71 : h59 236 7 = h35 236 7 := ((u59 236 7 rfl).trans ((u56 236 7 (fn_a (by omega) fn_0)).trans (u54 236 7 (fn_a (by omega) fn_0))))
              have e72 : h59 236 12 = h35 236 12 := ((u59 236 12 rfl).trans ((u56 236 12 (fn_a (by omega) fn_0)).trans (u54 236 12 (fn_a (by omega) fn_0))))
              exact k h59 g59 F60 (show (1 ≤ (h59 236 8)) ∨ ((h59 236 8) = 0 ∧ (h59 236 44) = (h 236 44) + 1) ∨ ((h59 236 8) = 0 ∧ (h59 236 44) = (h 236 44)) by omega) (show (h59 236 8) ≠ 0 ∨ (h59 236 9) = -1 by omega) (show (h 236 4) ≤ (h59 236 4) by omega) (show (h59 236 4) ≤ (h 236 3) by omega) (show 1 ≤ (h59 236 8) ∨ (h59 236 6) = 0 ∨ (h 236 4) + 1 ≤ (h59 236 4) by omega) (show 1 ≤ (h59 236 8) ∨ (h59 236 42) + (h59 236 44) ≤ 2 * (h59 236 43) by omega) (fun e => by
                  rw [q68]
                  refine WP.put (S := h 253) (n := h 236 42) (o := h 236 44) xq0 (by omega) (fun k hk => (u54 253 k (fn_i (by omega) fn_0)).trans (congrFun q69 k)) ?_ (by omega)
                  rw [show (h 236 42).toNat = i53 by omega, w54]
                  omega) (Or.inr (Or.inr ⟨by omega, by omega, by omega, (tk_nx tB tn (tk_nx tB tn tp)), by omega, by omega, by omega, (by first | assumption | exact tk_mv (by assumption) (by omega) (by omega) (by omega) (by omega) (by omega)), (fun e => by unfold sc_cmd sc_hd sc_num sc_mk; (try dsimp only); (repeat (first | rw [if_pos (by omega)] | rw [if_neg (by omega)])); (repeat ((first | unfold sc_num | unfold sc_mk); (try dsimp only); (repeat (first | rw [if_pos (by omega)] | rw [if_neg (by omega)])))); exact sc_inr rfl (by omega) (by omega)), (fun e => by unfold sc_cmd sc_hd sc_num sc_mk; (try dsimp only); (repeat (first | rw [if_pos (by omega)] | rw [if_neg (by omega)])); (repeat ((first | unfold sc_num | unfold sc_mk); (try dsimp only); (repeat (first | rw [if_pos (by omega)] | rw [if_neg (by omega)])))); rfl)⟩))
            ·
              refine wr_V (k0 := 236) (rest := []) (as := [.ref 236, vi z13, vi z38]) (nx := 106) (r1 := 337) (r2 := 2) (r3 := 11) rfl rfl rfl (of_decide_eq_true rfl) rfl rfl (by decide) rfl rfl (of_decide_eq_true rfl) (of_decide_eq_true rfl) ?_
              refine wi_aload_n (i := 0) (x := 236) (nx := 1) (r1 := 0) (r2 := 0) (r3 := 0) rfl rfl ?_
              refine wr_V (k0 := 236) (rest := []) (as := [.ref 236]) (nx := 4) (r1 := 219) (r2 := 0) (r3 := 11) rfl rfl rfl (of_decide_eq_true rfl) rfl rfl (by decide) rfl rfl (of_decide_eq_true rfl) (of_decide_eq_true rfl) ?_
              refine wi_aload_n (i := 0) (x := 236) (nx := 1) (r1 := 0) (r2 := 0) (r3 := 0) rfl rfl ?_
              refine wr_gi0 (k0 := 236) (x := h35 236 8) (nx := 4) (r1 := 11) (r2 := 8) (r3 := 0) rfl rfl (by decide) rfl ⟨rfl, rfl⟩ rfl rfl ?_
              refine wi_if (cd := .ne) (nx := 7) (r1 := 11) (r2 := 0) (r3 := 0) rfl (by omega) (fun (q49 : (h35 236 8) ≠ 0) => ?_) (fun (q49 : ¬ ((h35 236 8) ≠ 0)) => by exfalso; omega)
              refine wi_iconst (n := 0) (nx := 12) (r1 := 0) (r2 := 0) (r3 := 0) rfl ?_
              refine wi_zreturn (nx := 13) (r1 := 0) (r2 := 0) (r3 := 0) rfl rfl (by omega) ?_
              refine wk_i ?_
              refine wi_if (cd := .ne) (nx := 7) (r1 := 8) (r2 := 0) (r3 := 0) rfl (by omega) (fun (q50 : 0 ≠ 0) => by exfalso; omega) (fun (q50 : ¬ (0 ≠ 0)) => ?_)
              refine wi_return (nx := 8) (r1 := 0) (r2 := 0) (r3 := 0) rfl rfl ?_
              refine wk_n ?_
              refine wi_goto (nx := 109) (r1 := 152) (r2 := 0) (r3 := 0) rfl ?_
              refine wi_return (nx := 153) (r1 := 0) (r2 := 0) (r3 := 0) rfl rfl ?_
              have e51 : h35 236 44 = h 236 44 := ((u35 236 44 rfl).trans ((u22 236 44 rfl).trans (u20 236 44 rfl)))
              have e52 : h35 236 42 = h 236 42 := ((u35 236 42 rfl).trans ((u22 236 42 rfl).trans (u20 236 42 rfl)))
              have e53 : h35 236 43 = e19 := ((u35 236 43 rfl).trans ((u22 236 43 rfl).trans w20))
              exact k h35 g35 F40 (show (1 ≤ (h35 236 8)) ∨ ((h35 236 8) = 0 ∧ (h35 236 44) = (h 236 44) + 1) ∨ ((h35 236 8) = 0 ∧ (h35 236 44) = (h 236 44)) by omega) (show (h35 236 8) ≠ 0 ∨ (h35 236 9) = -1 by omega) (show (h 236 4) ≤ (h35 236 4) by omega) (show (h35 236 4) ≤ (h 236 3) by omega) (show 1 ≤ (h35 236 8) ∨ (h35 236 6) = 0 ∨ (h 236 4) + 1 ≤ (h35 236 4) by omega) (show 1 ≤ (h35 236 8) ∨ (h35 236 42) + (h35 236 44) ≤ 2 * (h35 236 43) by omega) (fun e => absurd e (by omega)) (Or.inl ⟨by omega, by unfold sc_cmd sc_hd sc_num sc_mk; (try dsimp only); (repeat (first | rw [if_pos (by omega)] | rw [if_neg (by omega)])); (repeat ((first | unfold sc_num | unfold sc_mk); (try dsimp only); (repeat (first | rw [if_pos (by omega)] | rw [if_neg (by omega)])))); exact sc_inl (by omega) (by omega)⟩)
            ·
              refine wr_V (k0 := 236) (rest := []) (as := [.ref 236, vi z13, vi z38]) (nx := 106) (r1 := 337) (r2 := 2) (r3 := 11) rfl rfl rfl (of_decide_eq_true rfl) rfl rfl (by decide) rfl rfl (of_decide_eq_true rfl) (of_decide_eq_true rfl) ?_
              refine wi_aload_n (i := 0) (x := 236) (nx := 1) (r1 := 0) (r2 := 0) (r3 := 0) rfl rfl ?_
              refine wr_V (k0 := 236) (rest := []) (as := [.ref 236]) (nx := 4) (r1 := 219) (r2 := 0) (r3 := 11) rfl rfl rfl (of_decide_eq_true rfl) rfl rfl (by decide) rfl rfl (of_decide_eq_true rfl) (of_decide_eq_true rfl) ?_
              refine wi_aload_n (i := 0) (x := 236) (nx := 1) (r1 := 0) (r2 := 0) (r3 := 0) rfl rfl ?_
              refine wr_gi0 (k0 := 236) (x := h35 236 8) (nx := 4) (r1 := 11) (r2 := 8) (r3 := 0) rfl rfl (by decide) rfl ⟨rfl, rfl⟩ rfl rfl ?_
              refine wi_if (cd := .ne) (nx := 7) (r1 := 11) (r2 := 0) (r3 := 0) rfl (by omega) (fun (q49 : (h35 236 8) ≠ 0) => ?_) (fun (q49 : ¬ ((h35 236 8) ≠ 0)) => by exfalso; omega)
              refine wi_iconst (n := 0) (nx := 12) (r1 := 0) (r2 := 0) (r3 := 0) rfl ?_
              refine wi_zreturn (nx := 13) (r1 := 0) (r2 := 0) (r3 := 0) rfl rfl (by omega) ?_
              refine wk_i ?_
              refine wi_if (cd := .ne) (nx := 7) (r1 := 8) (r2 := 0) (r3 := 0) rfl (by omega) (fun (q50 : 0 ≠ 0) => by exfalso; omega) (fun (q50 : ¬ (0 ≠ 0)) => ?_)
              refine wi_return (nx := 8) (r1 := 0) (r2 := 0) (r3 := 0) rfl rfl ?_
              refine wk_n ?_
              refine wi_goto (nx := 109) (r1 := 152) (r2 := 0) (r3 := 0) rfl ?_
              refine wi_return (nx := 153) (r1 := 0) (r2 := 0) (r3 := 0) rfl rfl ?_
              have e51 : h35 236 44 = h 236 44 := ((u35 236 44 rfl).trans ((u22 236 44 rfl).trans (u20 236 44 rfl)))
              have e52 : h35 236 42 = h 236 42 := ((u35 236 42 rfl).trans ((u22 236 42 rfl).trans (u20 236 42 rfl)))
              have e53 : h35 236 43 = e19 := ((u35 236 43 rfl).trans ((u22 236 43 rfl).trans w20))
              exact k h35 g35 F40 (show (1 ≤ (h35 236 8)) ∨ ((h35 236 8) = 0 ∧ (h35 236 44) = (h 236 44) + 1) ∨ ((h35 236 8) = 0 ∧ (h35 236 44) = (h 236 44)) by omega) (show (h35 236 8) ≠ 0 ∨ (h35 236 9) = -1 by omega) (show (h 236 4) ≤ (h35 236 4) by omega) (show (h35 236 4) ≤ (h 236 3) by omega) (show 1 ≤ (h35 236 8) ∨ (h35 236 6) = 0 ∨ (h 236 4) + 1 ≤ (h35 236 4) by omega) (show 1 ≤ (h35 236 8) ∨ (h35 236 42) + (h35 236 44) ≤ 2 * (h35 236 43) by omega) (fun e => absurd e (by omega)) (Or.inl ⟨by omega, by unfold sc_cmd sc_hd sc_num sc_mk; (try dsimp only); (repeat (first | rw [if_pos (by omega)] | rw [if_neg (by omega)])); (repeat ((first | unfold sc_num | unfold sc_mk); (try dsimp only); (repeat (first | rw [if_pos (by omega)] | rw [if_neg (by omega)])))); exact sc_inl (by omega) (by omega)⟩)
        ·
          refine wi_aload_n (i := 0) (x := 236) (nx := 76) (r1 := 0) (r2 := 0) (r3 := 0) rfl rfl ?_
          refine wi_iload_n (i := 1) (e := z13) (nx := 77) (r1 := 0) (r2 := 0) (r3 := 0) rfl rfl ?_
          refine wi_aload_n (i := 0) (x := 236) (nx := 78) (r1 := 0) (r2 := 0) (r3 := 0) rfl rfl ?_
          refine wi_iconst (n := 0) (nx := 79) (r1 := 0) (r2 := 0) (r3 := 0) rfl ?_
          refine wi_iconst (n := 3) (nx := 80) (r1 := 0) (r2 := 0) (r3 := 0) rfl ?_
          refine wr_V (k0 := 236) (rest := [vi z13, .ref 236]) (as := [.ref 236, vi 0, vi 3]) (nx := 83) (r1 := 231) (r2 := 2) (r3 := 11) rfl rfl rfl (of_decide_eq_true rfl) rfl rfl (by decide) rfl rfl (of_decide_eq_true rfl) (of_decide_eq_true rfl) ?_
          have e35 : h22 236 3 = h 236 3 := ((u22 236 3 rfl).trans (u20 236 3 rfl))
          have e36 : h22 236 8 = h 236 8 := ((u22 236 8 rfl).trans (u20 236 8 rfl))
          have rb38 := RefB.fr u22 rfl rb25
          refine ct_231_236 hcr  g22 0 3 (by omega) (by omega) (show (h22 236 4) ≤ (h22 236 3) by omega) (show 0 ≤ (tk_nx tB tn tp) by omega) (show (tk_nx tB tn tp) ≤ tn by omega) (show (tk_nx tB tn tp) ≤ tk_nx tB tn (tk_nx tB tn tp) ∧ tk_nx tB tn (tk_nx tB tn tp) ≤ tn by omega) (show 1 ≤ (h22 236 8) ∨ ((h22 236 4) = tk_nx tB tn (tk_nx tB tn tp) ∧ (h22 236 5) = tk_st tB tn (tk_nx tB tn tp) ∧ ((tk_kd tB tn (tk_nx tB tn tp) = 0 ∧ (h22 236 6) = 0) ∨ (tk_kd tB tn (tk_nx tB tn tp) = 1 ∧ (h22 236 6) = 1 ∧ (h22 236 12) = tk_sw tB tn (tk_nx tB tn tp)) ∨ (tk_kd tB tn (tk_nx tB tn tp) = 2 ∧ (h22 236 6) = 2 ∧ (h22 236 7) = tk_nb tB tn (tk_nx tB tn tp)) ∨ (tk_kd tB tn (tk_nx tB tn tp) = 3 ∧ (h22 236 6) = 3 ∧ (h22 236 7) = 59) ∨ (tk_kd tB tn (tk_nx tB tn tp) = 4 ∧ (h22 236 6) = 3 ∧ (h22 236 7) = 40) ∨ (tk_kd tB tn (tk_nx tB tn tp) = 5 ∧ (h22 236 6) = 3 ∧ (h22 236 7) = 41) ∨ (tk_kd tB tn (tk_nx tB tn tp) = 6 ∧ (h22 236 6) = 4))) from (Or.inr (show ((h22 236 4) = tk_nx tB tn (tk_nx tB tn tp) ∧ (h22 236 5) = tk_st tB tn (tk_nx tB tn tp) ∧ ((tk_kd tB tn (tk_nx tB tn tp) = 0 ∧ (h22 236 6) = 0) ∨ (tk_kd tB tn (tk_nx tB tn tp) = 1 ∧ (h22 236 6) = 1 ∧ (h22 236 12) = tk_sw tB tn (tk_nx tB tn tp)) ∨ (tk_kd tB tn (tk_nx tB tn tp) = 2 ∧ (h22 236 6) = 2 ∧ (h22 236 7) = tk_nb tB tn (tk_nx tB tn tp)) ∨ (tk_kd tB tn (tk_nx tB tn tp) = 3 ∧ (h22 236 6) = 3 ∧ (h22 236 7) = 59) ∨ (tk_kd tB tn (tk_nx tB tn tp) = 4 ∧ (h22 236 6) = 3 ∧ (h22 236 7) = 40) ∨ (tk_kd tB tn (tk_nx tB tn tp) = 5 ∧ (h22 236 6) = 3 ∧ (h22 236 7) = 41) ∨ (tk_kd tB tn (tk_nx tB tn tp) = 6 ∧ (h22 236 6) = 4))) by first | assumption | exact tk_mv (by assumption) (by omega) (by omega) (by omega) (by omega) (by omega)))) rb38 (fun h34 z37 g34 u34 (fz37 : 0 ≤ z37 ∧ z37 ≤ 999) (p34_0 : (1 ≤ (h22 236 8) ∧ (h34 236 8) = (h22 236 8) ∧ (h34 236 9) = (h22 236 9)) ∨ ((h22 236 8) = 0 ∧ tk_kd tB tn (tk_nx tB tn tp) = 2 ∧ 0 ≤ tk_nb tB tn (tk_nx tB tn tp) ∧ tk_nb tB tn (tk_nx tB tn tp) ≤ 3 ∧ z37 = tk_nb tB tn (tk_nx tB tn tp) ∧ (h34 236 8) = (h22 236 8) ∧ (h34 236 9) = (h22 236 9) ∧ ((h34 236 4) = tk_nx tB tn (tk_nx tB tn (tk_nx tB tn tp)) ∧ (h34 236 5) = tk_st tB tn (tk_nx tB tn (tk_nx tB tn tp)) ∧ ((tk_kd tB tn (tk_nx tB tn (tk_nx tB tn tp)) = 0 ∧ (h34 236 6) = 0) ∨ (tk_kd tB tn (tk_nx tB tn (tk_nx tB tn tp)) = 1 ∧ (h34 236 6) = 1 ∧ (h34 236 12) = tk_sw tB tn (tk_nx tB tn (tk_nx tB tn tp))) ∨ (tk_kd tB tn (tk_nx tB tn (tk_nx tB tn tp)) = 2 ∧ (h34 236 6) = 2 ∧ (h34 236 7) = tk_nb tB tn (tk_nx tB tn (tk_nx tB tn tp))) ∨ (tk_kd tB tn (tk_nx tB tn (tk_nx tB tn tp)) = 3 ∧ (h34 236 6) = 3 ∧ (h34 236 7) = 59) ∨ (tk_kd tB tn (tk_nx tB tn (tk_nx tB tn tp)) = 4 ∧ (h34 236 6) = 3 ∧ (h34 236 7) = 40) ∨ (tk_kd tB tn (tk_nx tB tn (tk_nx tB tn tp)) = 5 ∧ (h34 236 6) = 3 ∧ (h34 236 7) = 41) ∨ (tk_kd tB tn (tk_nx tB tn (tk_nx tB tn tp)) = 6 ∧ (h34 236 6) = 4)))) ∨ ((h22 236 8) = 0 ∧ tk_kd tB tn (tk_nx tB tn tp) ≠ 2 ∧ (h34 236 8) = 1 ∧ (h34 236 9) = tk_st tB tn (tk_nx tB tn tp)) ∨ ((h22 236 8) = 0 ∧ tk_kd tB tn (tk_nx tB tn tp) = 2 ∧ (tk_nb tB tn (tk_nx tB tn tp) < 0 ∨ 3 < tk_nb tB tn (tk_nx tB tn tp)) ∧ (h34 236 8) = 2 ∧ (h34 236 9) = tk_st tB tn (tk_nx tB tn tp))) (p34_1 : (h22 236 4) ≤ (h34 236 4)) (p34_2 : (h34 236 4) ≤ (h22 236 3)) (p34_3 : 1 ≤ (h34 236 8) ∨ (h22 236 8) = 0) (p34_4 : 1 ≤ (h34 236 8) ∨ (0 ≤ z37 ∧ z37 ≤ 3)) (p34_5 : 1 ≤ (h34 236 8) ∨ (h22 236 6) = 2) => ?_)
          have F39 := F26.then (by decide +kernel) u34
          have e40 : h22 236 9 = h 236 9 := ((u22 236 9 rfl).trans (u20 236 9 rfl))
          have b41 := gi_b (lo := 0) (hi := 5) g34 236 8 rfl
          have b42 := gi_b (lo := -2147483648) (hi := 2147483647) g34 236 9 rfl
          have b43 := gi_b (lo := 0) (hi := 800) g34 236 4 rfl
          have b44 := gi_b (lo := 0) (hi := 800) g34 236 5 rfl
          have b45 := gi_b (lo := 0) (hi := 4) g34 236 6 rfl
          have b46 := gi_b (lo := -9223372036854775808) (hi := 9223372036854775807) g34 236 12 rfl
          have b47 := gi_b (lo := 0) (hi := 999) g34 236 7 rfl
          refine wk_i ?_
          rcases p34_0 with p34_0 | p34_0 | p34_0 | p34_0
          ·
            exfalso; omega
          ·
            have tk48 := p34_0.2.2.2.2.2.2.2
            have tN49 := @tk_nx_b tB tn (tk_nx tB tn (tk_nx tB tn tp)) (by omega) (by omega)
            refine wr_V (k0 := 236) (rest := []) (as := [.ref 236, vi z13, vi z37]) (nx := 86) (r1 := 337) (r2 := 2) (r3 := 11) rfl rfl rfl (of_decide_eq_true rfl) rfl rfl (by decide) rfl rfl (of_decide_eq_true rfl) (of_decide_eq_true rfl) ?_
            refine wi_aload_n (i := 0) (x := 236) (nx := 1) (r1 := 0) (r2 := 0) (r3 := 0) rfl rfl ?_
            refine wr_V (k0 := 236) (rest := []) (as := [.ref 236]) (nx := 4) (r1 := 219) (r2 := 0) (r3 := 11) rfl rfl rfl (of_decide_eq_true rfl) rfl rfl (by decide) rfl rfl (of_decide_eq_true rfl) (of_decide_eq_true rfl) ?_
            refine wi_aload_n (i := 0) (x := 236) (nx := 1) (r1 := 0) (r2 := 0) (r3 := 0) rfl rfl ?_
            refine wr_gi0 (k0 := 236) (x := h34 236 8) (nx := 4) (r1 := 11) (r2 := 8) (r3 := 0) rfl rfl (by decide) rfl ⟨rfl, rfl⟩ rfl rfl ?_
            refine wi_if (cd := .ne) (nx := 7) (r1 := 11) (r2 := 0) (r3 := 0) rfl (by omega) (fun (q50 : (h34 236 8) ≠ 0) => by exfalso; omega) (fun (q50 : ¬ ((h34 236 8) ≠ 0)) => ?_)
            refine wi_iconst (n := 1) (nx := 8) (r1 := 0) (r2 := 0) (r3 := 0) rfl ?_
            refine wi_goto (nx := 11) (r1 := 12) (r2 := 0) (r3 := 0) rfl ?_
            refine wi_zreturn (nx := 13) (r1 := 0) (r2 := 0) (r3 := 0) rfl rfl (by omega) ?_
            refine wk_i ?_
            refine wi_if (cd := .ne) (nx := 7) (r1 := 8) (r2 := 0) (r3 := 0) rfl (by omega) (fun (q51 : 1 ≠ 0) => ?_) (fun (q51 : ¬ (1 ≠ 0)) => by exfalso; omega)
            refine wi_aload_n (i := 0) (x := 236) (nx := 9) (r1 := 0) (r2 := 0) (r3 := 0) rfl rfl ?_
            refine wr_gr (k0 := 236) (x := 253) (nx := 12) (r1 := 11) (r2 := 37) (r3 := 0) rfl rfl (by decide) rfl ⟨rfl, rfl⟩ rfl ?_
            refine wi_aload_n (i := 0) (x := 236) (nx := 13) (r1 := 0) (r2 := 0) (r3 := 0) rfl rfl ?_
            refine wr_gi0 (k0 := 236) (x := h 236 42) (nx := 16) (r1 := 11) (r2 := 42) (r3 := 0) rfl rfl (by decide) rfl ⟨rfl, rfl⟩ rfl ((u34 236 42 rfl).trans ((u22 236 42 rfl).trans (u20 236 42 rfl))) ?_
            refine wi_iload_n (i := 1) (e := z13) (nx := 17) (r1 := 0) (r2 := 0) (r3 := 0) rfl rfl ?_
            obtain ⟨i52, ei52⟩ : ∃ q : Nat, (h 236 42) = (q : Int) := ⟨(h 236 42).toNat, by omega⟩
            refine wr_is (k0 := 253) (a := h 236 42) (f := i52) (x := z13) (bl := 0) (bh := 8) (nx := 18) (r1 := 0) (r2 := 0) (r3 := 0) rfl (by decide) rfl (by omega) (by omega) (by decide) g34 rfl (by omega) (fun h53 g53 w53 u53 => ?_)
            have F54 := F39.then rfl (FR.rngp (lo := 253) (hi := 253) u53 (by decide))
            refine wi_aload_n (i := 0) (x := 236) (nx := 19) (r1 := 0) (r2 := 0) (r3 := 0) rfl rfl ?_
            refine wr_gr (k0 := 236) (x := 254) (nx := 22) (r1 := 11) (r2 := 38) (r3 := 0) rfl rfl (by decide) rfl ⟨rfl, rfl⟩ rfl ?_
            refine wi_aload_n (i := 0) (x := 236) (nx := 23) (r1 := 0) (r2 := 0) (r3 := 0) rfl rfl ?_
            refine wr_gi0 (k0 := 236) (x := h 236 42) (nx := 26) (r1 := 11) (r2 := 42) (r3 := 0) rfl rfl (by decide) rfl ⟨rfl, rfl⟩ rfl ((u53 236 42 (fn_a (by omega) fn_0)).trans ((u34 236 42 rfl).trans ((u22 236 42 rfl).trans (u20 236 42 rfl)))) ?_
            refine wi_iload_n (i := 2) (e := z37) (nx := 27) (r1 := 0) (r2 := 0) (r3 := 0) rfl rfl ?_
            refine wr_is (k0 := 254) (a := h 236 42) (f := i52) (x := z37) (bl := 0) (bh := 999) (nx := 28) (r1 := 0) (r2 := 0) (r3 := 0) rfl (by decide) rfl (by omega) (by omega) (by decide) g53 rfl (by omega) (fun h55 g55 w55 u55 => ?_)
            have F56 := F54.then rfl (FR.rngp (lo := 254) (hi := 254) u55 (by decide))
            refine wi_aload_n (i := 0) (x := 236) (nx := 29) (r1 := 0) (r2 := 0) (r3 := 0) rfl rfl ?_
            refine wi_dup (nx := 30) (r1 := 0) (r2 := 0) (r3 := 0) rfl rfl ?_
            refine wr_gi0 (k0 := 236) (x := h 236 42) (nx := 33) (r1 := 11) (r2 := 42) (r3 := 0) rfl rfl (by decide) rfl ⟨rfl, rfl⟩ rfl ((u55 236 42 (fn_a (by omega) fn_0)).trans ((u53 236 42 (fn_a (by omega) fn_0)).trans ((u34 236 42 rfl).trans ((u22 236 42 rfl).trans (u20 236 42 rfl))))) ?_
            refine wi_iconst (n := 1) (nx := 34) (r1 := 0) (r2 := 0) (r3 := 0) rfl ?_
            refine wr_add (nx := 35) (r1 := 0) (r2 := 0) (r3 := 0) rfl (fun e57 (fe57 : e57 = (h 236 42) + 1) => ?_)
            refine wr_pf0 (k0 := 236) (x := e57) (bl := 0) (bh := 80) (nx := 38) (r1 := 11) (r2 := 42) (r3 := 0) rfl (by decide) rfl ⟨rfl, rfl⟩ rfl rfl g55 rfl (by omega) (fun h58 g58 w58 u58 => ?_)
            have F59 := F56.then rfl u58
            refine wi_return (nx := 39) (r1 := 0) (r2 := 0) (r3 := 0) rfl rfl ?_
            refine wk_n ?_
            refine wi_goto (nx := 89) (r1 := 152) (r2 := 0) (r3 := 0) rfl ?_
            refine wi_return (nx := 153) (r1 := 0) (r2 := 0) (r3 := 0) rfl rfl ?_
            have e60 : h58 236 8 = h34 236 8 := ((u58 236 8 rfl).trans ((u55 236 8 (fn_a (by omega) fn_0)).trans (u53 236 8 (fn_a (by omega) fn_0))))
            have e61 : h58 236 44 = h 236 44 := ((u58 236 44 rfl).trans ((u55 236 44 (fn_a (by omega) fn_0)).trans ((u53 236 44 (fn_a (by omega) fn_0)).trans ((u34 236 44 rfl).trans ((u22 236 44 rfl).trans (u20 236 44 rfl))))))
            have e62 : h58 236 9 = h34 236 9 := ((u58 236 9 rfl).trans ((u55 236 9 (fn_a (by omega) fn_0)).trans (u53 236 9 (fn_a (by omega) fn_0))))
            have e63 : h58 236 4 = h34 236 4 := ((u58 236 4 rfl).trans ((u55 236 4 (fn_a (by omega) fn_0)).trans (u53 236 4 (fn_a (by omega) fn_0))))
            have e64 : h58 236 6 = h34 236 6 := ((u58 236 6 rfl).trans ((u55 236 6 (fn_a (by omega) fn_0)).trans (u53 236 6 (fn_a (by omega) fn_0))))
            have e65 : h58 236 42 = e57 := w58
            have e66 : h58 236 43 = e19 := ((u58 236 43 rfl).trans ((u55 236 43 (fn_a (by omega) fn_0)).trans ((u53 236 43 (fn_a (by omega) fn_0)).trans ((u34 236 43 rfl).trans ((u22 236 43 rfl).trans w20)))))
            have q67 : h58 253 = h53 253 := funext (fun i => ((u58 253 i rfl).trans (u55 253 i (fn_a (by omega) fn_0))))
            have q68 : h34 253 = h 253 := funext (fun i => ((u34 253 i (fo_no_ok (by decide) i)).trans ((u22 253 i (fo_no_ok (by decide) i)).trans (u20 253 i rfl))))
            have e69 : h58 236 5 = h34 236 5 := ((u58 236 5 rfl).trans ((u55 236 5 (fn_a (by omega) fn_0)).trans (u53 236 5 (fn_a (by omega) fn_0))))
            have e70 : h58 236 7 = h34 236 7 := ((u58 236 7 rfl).trans ((u55 236 7 (fn_a (by omega) fn_0)).trans (u53 236 7 (fn_a (by omega) fn_0))))
            have e71 : h58 236 12 = h34 236 12 := ((u58 236 12 rfl).trans ((u55 236 12 (fn_a (by omega) fn_0)).trans (u53 236 12 (fn_a (by omega) fn_0))))
            exact k h58 g58 F59 (show (1 ≤ (h58 236 8)) ∨ ((h58 236 8) = 0 ∧ (h58 236 44) = (h 236 44) + 1) ∨ ((h58 236 8) = 0 ∧ (h58 236 44) = (h 236 44)) by omega) (show (h58 236 8) ≠ 0 ∨ (h58 236 9) = -1 by omega) (show (h 236 4) ≤ (h58 236 4) by omega) (show (h58 236 4) ≤ (h 236 3) by omega) (show 1 ≤ (h58 236 8) ∨ (h58 236 6) = 0 ∨ (h 236 4) + 1 ≤ (h58 236 4) by omega) (show 1 ≤ (h58 236 8) ∨ (h58 236 42) + (h58 236 44) ≤ 2 * (h58 236 43) by omega) (fun e => by
                rw [q67]
                refine WP.put (S := h 253) (n := h 236 42) (o := h 236 44) xq0 (by omega) (fun k hk => (u53 253 k (fn_i (by omega) fn_0)).trans (congrFun q68 k)) ?_ (by omega)
                rw [show (h 236 42).toNat = i52 by omega, w53]
                omega) (Or.inr (Or.inr ⟨by omega, by omega, by omega, (tk_nx tB tn (tk_nx tB tn tp)), by omega, by omega, by omega, (by first | assumption | exact tk_mv (by assumption) (by omega) (by omega) (by omega) (by omega) (by omega)), (fun e => by unfold sc_cmd sc_hd sc_num sc_mk; (try dsimp only); (repeat (first | rw [if_pos (by omega)] | rw [if_neg (by omega)])); (repeat ((first | unfold sc_num | unfold sc_mk); (try dsimp only); (repeat (first | rw [if_pos (by omega)] | rw [if_neg (by omega)])))); exact sc_inr rfl (by omega) (by omega)), (fun e => by unfold sc_cmd sc_hd sc_num sc_mk; (try dsimp only); (repeat (first | rw [if_pos (by omega)] | rw [if_neg (by omega)])); (repeat ((first | unfold sc_num | unfold sc_mk); (try dsimp only); (repeat (first | rw [if_pos (by omega)] | rw [if_neg (by omega)])))); rfl)⟩))
          ·
            refine wr_V (k0 := 236) (rest := []) (as := [.ref 236, vi z13, vi z37]) (nx := 86) (r1 := 337) (r2 := 2) (r3 := 11) rfl rfl rfl (of_decide_eq_true rfl) rfl rfl (by decide) rfl rfl (of_decide_eq_true rfl) (of_decide_eq_true rfl) ?_
            refine wi_aload_n (i := 0) (x := 236) (nx := 1) (r1 := 0) (r2 := 0) (r3 := 0) rfl rfl ?_
            refine wr_V (k0 := 236) (rest := []) (as := [.ref 236]) (nx := 4) (r1 := 219) (r2 := 0) (r3 := 11) rfl rfl rfl (of_decide_eq_true rfl) rfl rfl (by decide) rfl rfl (of_decide_eq_true rfl) (of_decide_eq_true rfl) ?_
            refine wi_aload_n (i := 0) (x := 236) (nx := 1) (r1 := 0) (r2 := 0) (r3 := 0) rfl rfl ?_
            refine wr_gi0 (k0 := 236) (x := h34 236 8) (nx := 4) (r1 := 11) (r2 := 8) (r3 := 0) rfl rfl (by decide) rfl ⟨rfl, rfl⟩ rfl rfl ?_
            refine wi_if (cd := .ne) (nx := 7) (r1 := 11) (r2 := 0) (r3 := 0) rfl (by omega) (fun (q48 : (h34 236 8) ≠ 0) => ?_) (fun (q48 : ¬ ((h34 236 8) ≠ 0)) => by exfalso; omega)
            refine wi_iconst (n := 0) (nx := 12) (r1 := 0) (r2 := 0) (r3 := 0) rfl ?_
            refine wi_zreturn (nx := 13) (r1 := 0) (r2 := 0) (r3 := 0) rfl rfl (by omega) ?_
            refine wk_i ?_
            refine wi_if (cd := .ne) (nx := 7) (r1 := 8) (r2 := 0) (r3 := 0) rfl (by omega) (fun (q49 : 0 ≠ 0) => by exfalso; omega) (fun (q49 : ¬ (0 ≠ 0)) => ?_)
            refine wi_return (nx := 8) (r1 := 0) (r2 := 0) (r3 := 0) rfl rfl ?_
            refine wk_n ?_
            refine wi_goto (nx := 89) (r1 := 152) (r2 := 0) (r3 := 0) rfl ?_
            refine wi_return (nx := 153) (r1 := 0) (r2 := 0) (r3 := 0) rfl rfl ?_
            have e50 : h34 236 44 = h 236 44 := ((u34 236 44 rfl).trans ((u22 236 44 rfl).trans (u20 236 44 rfl)))
            have e51 : h34 236 42 = h 236 42 := ((u34 236 42 rfl).trans ((u22 236 42 rfl).trans (u20 236 42 rfl)))
            have e52 : h34 236 43 = e19 := ((u34 236 43 rfl).trans ((u22 236 43 rfl).trans w20))
            exact k h34 g34 F39 (show (1 ≤ (h34 236 8)) ∨ ((h34 236 8) = 0 ∧ (h34 236 44) = (h 236 44) + 1) ∨ ((h34 236 8) = 0 ∧ (h34 236 44) = (h 236 44)) by omega) (show (h34 236 8) ≠ 0 ∨ (h34 236 9) = -1 by omega) (show (h 236 4) ≤ (h34 236 4) by omega) (show (h34 236 4) ≤ (h 236 3) by omega) (show 1 ≤ (h34 236 8) ∨ (h34 236 6) = 0 ∨ (h 236 4) + 1 ≤ (h34 236 4) by omega) (show 1 ≤ (h34 236 8) ∨ (h34 236 42) + (h34 236 44) ≤ 2 * (h34 236 43) by omega) (fun e => absurd e (by omega)) (Or.inl ⟨by omega, by unfold sc_cmd sc_hd sc_num sc_mk; (try dsimp only); (repeat (first | rw [if_pos (by omega)] | rw [if_neg (by omega)])); (repeat ((first | unfold sc_num | unfold sc_mk); (try dsimp only); (repeat (first | rw [if_pos (by omega)] | rw [if_neg (by omega)])))); exact sc_inl (by omega) (by omega)⟩)
          ·
            refine wr_V (k0 := 236) (rest := []) (as := [.ref 236, vi z13, vi z37]) (nx := 86) (r1 := 337) (r2 := 2) (r3 := 11) rfl rfl rfl (of_decide_eq_true rfl) rfl rfl (by decide) rfl rfl (of_decide_eq_true rfl) (of_decide_eq_true rfl) ?_
            refine wi_aload_n (i := 0) (x := 236) (nx := 1) (r1 := 0) (r2 := 0) (r3 := 0) rfl rfl ?_
            refine wr_V (k0 := 236) (rest := []) (as := [.ref 236]) (nx := 4) (r1 := 219) (r2 := 0) (r3 := 11) rfl rfl rfl (of_decide_eq_true rfl) rfl rfl (by decide) rfl rfl (of_decide_eq_true rfl) (of_decide_eq_true rfl) ?_
            refine wi_aload_n (i := 0) (x := 236) (nx := 1) (r1 := 0) (r2 := 0) (r3 := 0) rfl rfl ?_
            refine wr_gi0 (k0 := 236) (x := h34 236 8) (nx := 4) (r1 := 11) (r2 := 8) (r3 := 0) rfl rfl (by decide) rfl ⟨rfl, rfl⟩ rfl rfl ?_
            refine wi_if (cd := .ne) (nx := 7) (r1 := 11) (r2 := 0) (r3 := 0) rfl (by omega) (fun (q48 : (h34 236 8) ≠ 0) => ?_) (fun (q48 : ¬ ((h34 236 8) ≠ 0)) => by exfalso; omega)
            refine wi_iconst (n := 0) (nx := 12) (r1 := 0) (r2 := 0) (r3 := 0) rfl ?_
            refine wi_zreturn (nx := 13) (r1 := 0) (r2 := 0) (r3 := 0) rfl rfl (by omega) ?_
            refine wk_i ?_
            refine wi_if (cd := .ne) (nx := 7) (r1 := 8) (r2 := 0) (r3 := 0) rfl (by omega) (fun (q49 : 0 ≠ 0) => by exfalso; omega) (fun (q49 : ¬ (0 ≠ 0)) => ?_)
            refine wi_return (nx := 8) (r1 := 0) (r2 := 0) (r3 := 0) rfl rfl ?_
            refine wk_n ?_
            refine wi_goto (nx := 89) (r1 := 152) (r2 := 0) (r3 := 0) rfl ?_
            refine wi_return (nx := 153) (r1 := 0) (r2 := 0) (r3 := 0) rfl rfl ?_
            have e50 : h34 236 44 = h 236 44 := ((u34 236 44 rfl).trans ((u22 236 44 rfl).trans (u20 236 44 rfl)))
            have e51 : h34 236 42 = h 236 42 := ((u34 236 42 rfl).trans ((u22 236 42 rfl).trans (u20 236 42 rfl)))
            have e52 : h34 236 43 = e19 := ((u34 236 43 rfl).trans ((u22 236 43 rfl).trans w20))
            exact k h34 g34 F39 (show (1 ≤ (h34 236 8)) ∨ ((h34 236 8) = 0 ∧ (h34 236 44) = (h 236 44) + 1) ∨ ((h34 236 8) = 0 ∧ (h34 236 44) = (h 236 44)) by omega) (show (h34 236 8) ≠ 0 ∨ (h34 236 9) = -1 by omega) (show (h 236 4) ≤ (h34 236 4) by omega) (show (h34 236 4) ≤ (h 236 3) by omega) (show 1 ≤ (h34 236 8) ∨ (h34 236 6) = 0 ∨ (h 236 4) + 1 ≤ (h34 236 4) by omega) (show 1 ≤ (h34 236 8) ∨ (h34 236 42) + (h34 236 44) ≤ 2 * (h34 236 43) by omega) (fun e => absurd e (by omega)) (Or.inl ⟨by omega, by unfold sc_cmd sc_hd sc_num sc_mk; (try dsimp only); (repeat (first | rw [if_pos (by omega)] | rw [if_neg (by omega)])); (repeat ((first | unfold sc_num | unfold sc_mk); (try dsimp only); (repeat (first | rw [if_pos (by omega)] | rw [if_neg (by omega)])))); exact sc_inl (by omega) (by omega)⟩)
      ·
        refine wi_aload_n (i := 0) (x := 236) (nx := 44) (r1 := 0) (r2 := 0) (r3 := 0) rfl rfl ?_
        refine wi_iconst (n := 5) (nx := 45) (r1 := 0) (r2 := 0) (r3 := 0) rfl ?_
        refine wr_V (k0 := 236) (rest := []) (as := [.ref 236, vi 5]) (nx := 48) (r1 := 224) (r2 := 1) (r3 := 11) rfl rfl rfl (of_decide_eq_true rfl) rfl rfl (by decide) rfl rfl (of_decide_eq_true rfl) (of_decide_eq_true rfl) ?_
        refine ct_224_236 hcr  g 5 (by omega)  (fun h17 g17 u17 (p17_0 : 1 ≤ (h17 236 8)) (p17_1 : (1 ≤ (h 236 8) ∧ (h17 236 8) = (h 236 8) ∧ (h17 236 9) = (h 236 9)) ∨ ((h 236 8) = 0 ∧ (h17 236 9) = (h 236 5) ∧ (((h 236 6) = 4 ∧ (h17 236 8) = 1) ∨ ((h 236 6) ≠ 4 ∧ (h17 236 8) = 5)))) => ?_)
        have F18 := F0.then (by decide +kernel) u17
        have b19 := gi_b (lo := 0) (hi := 5) g17 236 8 rfl
        have b20 := gi_b (lo := -2147483648) (hi := 2147483647) g17 236 9 rfl
        refine wk_n ?_
        refine wi_aload_n (i := 0) (x := 236) (nx := 49) (r1 := 0) (r2 := 0) (r3 := 0) rfl rfl ?_
        refine wr_V (k0 := 236) (rest := []) (as := [.ref 236]) (nx := 52) (r1 := 219) (r2 := 0) (r3 := 11) rfl rfl rfl (of_decide_eq_true rfl) rfl rfl (by decide) rfl rfl (of_decide_eq_true rfl) (of_decide_eq_true rfl) ?_
        refine wi_aload_n (i := 0) (x := 236) (nx := 1) (r1 := 0) (r2 := 0) (r3 := 0) rfl rfl ?_
        refine wr_gi0 (k0 := 236) (x := h17 236 8) (nx := 4) (r1 := 11) (r2 := 8) (r3 := 0) rfl rfl (by decide) rfl ⟨rfl, rfl⟩ rfl rfl ?_
        refine wi_if (cd := .ne) (nx := 7) (r1 := 11) (r2 := 0) (r3 := 0) rfl (by omega) (fun (q21 : (h17 236 8) ≠ 0) => ?_) (fun (q21 : ¬ ((h17 236 8) ≠ 0)) => by exfalso; omega)
        refine wi_iconst (n := 0) (nx := 12) (r1 := 0) (r2 := 0) (r3 := 0) rfl ?_
        refine wi_zreturn (nx := 13) (r1 := 0) (r2 := 0) (r3 := 0) rfl rfl (by omega) ?_
        refine wk_i ?_
        refine wi_if (cd := .ne) (nx := 55) (r1 := 56) (r2 := 0) (r3 := 0) rfl (by omega) (fun (q22 : 0 ≠ 0) => by exfalso; omega) (fun (q22 : ¬ (0 ≠ 0)) => ?_)
        refine wi_return (nx := 56) (r1 := 0) (r2 := 0) (r3 := 0) rfl rfl ?_
        have e23 : h17 236 44 = h 236 44 := (u17 236 44 rfl)
        have e24 : h17 236 4 = h 236 4 := (u17 236 4 rfl)
        have e25 : h17 236 6 = h 236 6 := (u17 236 6 rfl)
        have e26 : h17 236 42 = h 236 42 := (u17 236 42 rfl)
        have e27 : h17 236 43 = h 236 43 := (u17 236 43 rfl)
        exact k h17 g17 F18 (show (1 ≤ (h17 236 8)) ∨ ((h17 236 8) = 0 ∧ (h17 236 44) = (h 236 44) + 1) ∨ ((h17 236 8) = 0 ∧ (h17 236 44) = (h 236 44)) by omega) (show (h17 236 8) ≠ 0 ∨ (h17 236 9) = -1 by omega) (show (h 236 4) ≤ (h17 236 4) by omega) (show (h17 236 4) ≤ (h 236 3) by omega) (show 1 ≤ (h17 236 8) ∨ (h17 236 6) = 0 ∨ (h 236 4) + 1 ≤ (h17 236 4) by omega) (show 1 ≤ (h17 236 8) ∨ (h17 236 42) + (h17 236 44) ≤ 2 * (h17 236 43) by omega) (fun e => absurd e (by omega)) (Or.inl ⟨by omega, by unfold sc_cmd sc_hd sc_num sc_mk; (try dsimp only); (repeat (first | rw [if_pos (by omega)] | rw [if_neg (by omega)])); (repeat ((first | unfold sc_num | unfold sc_mk); (try dsimp only); (repeat (first | rw [if_pos (by omega)] | rw [if_neg (by omega)])))); exact sc_inl (by omega) (by omega)⟩)
    ·
      refine wi_aload_n (i := 0) (x := 236) (nx := 22) (r1 := 0) (r2 := 0) (r3 := 0) rfl rfl ?_
      refine wr_gi0 (k0 := 236) (x := h 236 44) (nx := 25) (r1 := 11) (r2 := 44) (r3 := 0) rfl rfl (by decide) rfl ⟨rfl, rfl⟩ rfl rfl ?_
      refine wi_iconst (n := 2) (nx := 26) (r1 := 0) (r2 := 0) (r3 := 0) rfl ?_
      refine wi_icmp (cd := .ne) (nx := 29) (r1 := 34) (r2 := 0) (r3 := 0) rfl (by omega) (by omega) (fun (q16 : (h 236 44) ≠ 2) => ?_) (fun (q16 : ¬ ((h 236 44) ≠ 2)) => ?_)
      ·
        refine wi_aload_n (i := 0) (x := 236) (nx := 35) (r1 := 0) (r2 := 0) (r3 := 0) rfl rfl ?_
        refine wr_gi0 (k0 := 236) (x := h 236 43) (nx := 38) (r1 := 11) (r2 := 43) (r3 := 0) rfl rfl (by decide) rfl ⟨rfl, rfl⟩ rfl rfl ?_
        refine wi_bipush (n := 40) (nx := 40) (r1 := 0) (r2 := 0) (r3 := 0) rfl (by decide) ?_
        refine wi_icmp (cd := .ne) (nx := 43) (r1 := 48) (r2 := 0) (r3 := 0) rfl (by omega) (by omega) (fun (q17 : (h 236 43) ≠ 40) => ?_) (fun (q17 : ¬ ((h 236 43) ≠ 40)) => ?_)
        ·
          refine wi_aload_n (i := 0) (x := 236) (nx := 49) (r1 := 0) (r2 := 0) (r3 := 0) rfl rfl ?_
          refine wr_V (k0 := 236) (rest := []) (as := [.ref 236]) (nx := 52) (r1 := 219) (r2 := 0) (r3 := 11) rfl rfl rfl (of_decide_eq_true rfl) rfl rfl (by decide) rfl rfl (of_decide_eq_true rfl) (of_decide_eq_true rfl) ?_
          refine wi_aload_n (i := 0) (x := 236) (nx := 1) (r1 := 0) (r2 := 0) (r3 := 0) rfl rfl ?_
          refine wr_gi0 (k0 := 236) (x := h 236 8) (nx := 4) (r1 := 11) (r2 := 8) (r3 := 0) rfl rfl (by decide) rfl ⟨rfl, rfl⟩ rfl rfl ?_
          refine wi_if (cd := .ne) (nx := 7) (r1 := 11) (r2 := 0) (r3 := 0) rfl (by omega) (fun (q18 : (h 236 8) ≠ 0) => by exfalso; omega) (fun (q18 : ¬ ((h 236 8) ≠ 0)) => ?_)
          refine wi_iconst (n := 1) (nx := 8) (r1 := 0) (r2 := 0) (r3 := 0) rfl ?_
          refine wi_goto (nx := 11) (r1 := 12) (r2 := 0) (r3 := 0) rfl ?_
          refine wi_zreturn (nx := 13) (r1 := 0) (r2 := 0) (r3 := 0) rfl rfl (by omega) ?_
          refine wk_i ?_
          refine wi_if (cd := .ne) (nx := 55) (r1 := 56) (r2 := 0) (r3 := 0) rfl (by omega) (fun (q19 : 1 ≠ 0) => ?_) (fun (q19 : ¬ (1 ≠ 0)) => by exfalso; omega)
          refine wi_aload_n (i := 0) (x := 236) (nx := 57) (r1 := 0) (r2 := 0) (r3 := 0) rfl rfl ?_
          refine wi_dup (nx := 58) (r1 := 0) (r2 := 0) (r3 := 0) rfl rfl ?_
          refine wr_gi0 (k0 := 236) (x := h 236 43) (nx := 61) (r1 := 11) (r2 := 43) (r3 := 0) rfl rfl (by decide) rfl ⟨rfl, rfl⟩ rfl rfl ?_
          refine wi_iconst (n := 1) (nx := 62) (r1 := 0) (r2 := 0) (r3 := 0) rfl ?_
          refine wr_add (nx := 63) (r1 := 0) (r2 := 0) (r3 := 0) rfl (fun e20 (fe20 : e20 = (h 236 43) + 1) => ?_)
          refine wr_pf0 (k0 := 236) (x := e20) (bl := 0) (bh := 40) (nx := 66) (r1 := 11) (r2 := 43) (r3 := 0) rfl (by decide) rfl ⟨rfl, rfl⟩ rfl rfl g rfl (by omega) (fun h21 g21 w21 u21 => ?_)
          have F22 := F0.then rfl u21
          refine wi_aload_n (i := 0) (x := 236) (nx := 67) (r1 := 0) (r2 := 0) (r3 := 0) rfl rfl ?_
          refine wr_V (k0 := 236) (rest := []) (as := [.ref 236]) (nx := 70) (r1 := 215) (r2 := 0) (r3 := 11) rfl rfl rfl (of_decide_eq_true rfl) rfl rfl (by decide) rfl rfl (of_decide_eq_true rfl) (of_decide_eq_true rfl) ?_
          have e24 : h21 236 4 = h 236 4 := (u21 236 4 rfl)
          have e25 : h21 236 3 = h 236 3 := (u21 236 3 rfl)
          have rb26 := RefB.fr u21 rfl xq1
          refine ct_215_236 hcr  g21   (show (h21 236 4) ≤ (h21 236 3) by omega) (show (h21 236 4) = (tk_nx tB tn tp) by omega) (show 0 ≤ (tk_nx tB tn tp) by omega) (show (tk_nx tB tn tp) ≤ tn by omega) rb26 (fun h23 g23 u23 (p23_0 : (h21 236 4) ≤ (h23 236 4)) (p23_1 : (h23 236 4) ≤ (h21 236 3)) (p23_2 : ((h23 236 4) = tk_nx tB tn (tk_nx tB tn tp) ∧ (h23 236 5) = tk_st tB tn (tk_nx tB tn tp) ∧ ((tk_kd tB tn (tk_nx tB tn tp) = 0 ∧ (h23 236 6) = 0) ∨ (tk_kd tB tn (tk_nx tB tn tp) = 1 ∧ (h23 236 6) = 1 ∧ (h23 236 12) = tk_sw tB tn (tk_nx tB tn tp)) ∨ (tk_kd tB tn (tk_nx tB tn tp) = 2 ∧ (h23 236 6) = 2 ∧ (h23 236 7) = tk_nb tB tn (tk_nx tB tn tp)) ∨ (tk_kd tB tn (tk_nx tB tn tp) = 3 ∧ (h23 236 6) = 3 ∧ (h23 236 7) = 59) ∨ (tk_kd tB tn (tk_nx tB tn tp) = 4 ∧ (h23 236 6) = 3 ∧ (h23 236 7) = 40) ∨ (tk_kd tB tn (tk_nx tB tn tp) = 5 ∧ (h23 236 6) = 3 ∧ (h23 236 7) = 41) ∨ (tk_kd tB tn (tk_nx tB tn tp) = 6 ∧ (h23 236 6) = 4)))) (p23_3 : (tk_nx tB tn tp) ≤ tk_nx tB tn (tk_nx tB tn tp) ∧ tk_nx tB tn (tk_nx tB tn tp) ≤ tn) => ?_)
          have F27 := F22.then (by decide +kernel) u23
          have b28 := gi_b (lo := 0) (hi := 800) g23 236 4 rfl
          have b29 := gi_b (lo := 0) (hi := 800) g23 236 5 rfl
          have b30 := gi_b (lo := 0) (hi := 4) g23 236 6 rfl
          have b31 := gi_b (lo := -9223372036854775808) (hi := 9223372036854775807) g23 236 12 rfl
          have b32 := gi_b (lo := 0) (hi := 999) g23 236 7 rfl
          have tN33 := @tk_nx_b tB tn (tk_nx tB tn tp) (by omega) (by omega)
          refine wk_n ?_
          refine wi_iload_n (i := 1) (e := z13) (nx := 71) (r1 := 0) (r2 := 0) (r3 := 0) rfl rfl ?_
          refine wi_iconst (n := 2) (nx := 72) (r1 := 0) (r2 := 0) (r3 := 0) rfl ?_
          refine wi_icmp (cd := .gt) (nx := 75) (r1 := 89) (r2 := 0) (r3 := 0) rfl (by omega) (by omega) (fun (q34 : 2 < z13) => ?_) (fun (q34 : ¬ (2 < z13)) => by exfalso; omega)
          refine wi_iload_n (i := 1) (e := z13) (nx := 90) (r1 := 0) (r2 := 0) (r3 := 0) rfl rfl ?_
          refine wi_iconst (n := 4) (nx := 91) (r1 := 0) (r2 := 0) (r3 := 0) rfl ?_
          refine wi_icmp (cd := .gt) (nx := 94) (r1 := 109) (r2 := 0) (r3 := 0) rfl (by omega) (by omega) (fun (q35 : 4 < z13) => ?_) (fun (q35 : ¬ (4 < z13)) => by exfalso; omega)
          refine wi_iload_n (i := 1) (e := z13) (nx := 110) (r1 := 0) (r2 := 0) (r3 := 0) rfl rfl ?_
          refine wi_bipush (n := 7) (nx := 112) (r1 := 0) (r2 := 0) (r3 := 0) rfl (by decide) ?_
          refine wi_icmp (cd := .ne) (nx := 115) (r1 := 146) (r2 := 0) (r3 := 0) rfl (by omega) (by omega) (fun (q36 : z13 ≠ 7) => by exfalso; omega) (fun (q36 : ¬ (z13 ≠ 7)) => ?_)
          refine wi_aload_n (i := 0) (x := 236) (nx := 116) (r1 := 0) (r2 := 0) (r3 := 0) rfl rfl ?_
          refine wi_iload_n (i := 1) (e := z13) (nx := 117) (r1 := 0) (r2 := 0) (r3 := 0) rfl rfl ?_
          refine wi_aload_n (i := 0) (x := 236) (nx := 118) (r1 := 0) (r2 := 0) (r3 := 0) rfl rfl ?_
          refine wi_iconst (n := 1) (nx := 119) (r1 := 0) (r2 := 0) (r3 := 0) rfl ?_
          refine wi_bipush (n := 20) (nx := 121) (r1 := 0) (r2 := 0) (r3 := 0) rfl (by decide) ?_
          refine wr_V (k0 := 236) (rest := [vi z13, .ref 236]) (as := [.ref 236, vi 1, vi 20]) (nx := 124) (r1 := 231) (r2 := 2) (r3 := 11) rfl rfl rfl (of_decide_eq_true rfl) rfl rfl (by decide) rfl rfl (of_decide_eq_true rfl) (of_decide_eq_true rfl) ?_
          have e38 : h23 236 3 = h 236 3 := ((u23 236 3 rfl).trans (u21 236 3 rfl))
          have e39 : h23 236 8 = h 236 8 := ((u23 236 8 rfl).trans (u21 236 8 rfl))
          have rb41 := RefB.fr u23 rfl rb26
          refine ct_231_236 hcr  g23 1 20 (by omega) (by omega) (show (h23 236 4) ≤ (h23 236 3) by omega) (show 0 ≤ (tk_nx tB tn tp) by omega) (show (tk_nx tB tn tp) ≤ tn by omega) (show (tk_nx tB tn tp) ≤ tk_nx tB tn (tk_nx tB tn tp) ∧ tk_nx tB tn (tk_nx tB tn tp) ≤ tn by omega) (show 1 ≤ (h23 236 8) ∨ ((h23 236 4) = tk_nx tB tn (tk_nx tB tn tp) ∧ (h23 236 5) = tk_st tB tn (tk_nx tB tn tp) ∧ ((tk_kd tB tn (tk_nx tB tn tp) = 0 ∧ (h23 236 6) = 0) ∨ (tk_kd tB tn (tk_nx tB tn tp) = 1 ∧ (h23 236 6) = 1 ∧ (h23 236 12) = tk_sw tB tn (tk_nx tB tn tp)) ∨ (tk_kd tB tn (tk_nx tB tn tp) = 2 ∧ (h23 236 6) = 2 ∧ (h23 236 7) = tk_nb tB tn (tk_nx tB tn tp)) ∨ (tk_kd tB tn (tk_nx tB tn tp) = 3 ∧ (h23 236 6) = 3 ∧ (h23 236 7) = 59) ∨ (tk_kd tB tn (tk_nx tB tn tp) = 4 ∧ (h23 236 6) = 3 ∧ (h23 236 7) = 40) ∨ (tk_kd tB tn (tk_nx tB tn tp) = 5 ∧ (h23 236 6) = 3 ∧ (h23 236 7) = 41) ∨ (tk_kd tB tn (tk_nx tB tn tp) = 6 ∧ (h23 236 6) = 4))) from (Or.inr (show ((h23 236 4) = tk_nx tB tn (tk_nx tB tn tp) ∧ (h23 236 5) = tk_st tB tn (tk_nx tB tn tp) ∧ ((tk_kd tB tn (tk_nx tB tn tp) = 0 ∧ (h23 236 6) = 0) ∨ (tk_kd tB tn (tk_nx tB tn tp) = 1 ∧ (h23 236 6) = 1 ∧ (h23 236 12) = tk_sw tB tn (tk_nx tB tn tp)) ∨ (tk_kd tB tn (tk_nx tB tn tp) = 2 ∧ (h23 236 6) = 2 ∧ (h23 236 7) = tk_nb tB tn (tk_nx tB tn tp)) ∨ (tk_kd tB tn (tk_nx tB tn tp) = 3 ∧ (h23 236 6) = 3 ∧ (h23 236 7) = 59) ∨ (tk_kd tB tn (tk_nx tB tn tp) = 4 ∧ (h23 236 6) = 3 ∧ (h23 236 7) = 40) ∨ (tk_kd tB tn (tk_nx tB tn tp) = 5 ∧ (h23 236 6) = 3 ∧ (h23 236 7) = 41) ∨ (tk_kd tB tn (tk_nx tB tn tp) = 6 ∧ (h23 236 6) = 4))) by first | assumption | exact tk_mv (by assumption) (by omega) (by omega) (by omega) (by omega) (by omega)))) rb41 (fun h37 z40 g37 u37 (fz40 : 0 ≤ z40 ∧ z40 ≤ 999) (p37_0 : (1 ≤ (h23 236 8) ∧ (h37 236 8) = (h23 236 8) ∧ (h37 236 9) = (h23 236 9)) ∨ ((h23 236 8) = 0 ∧ tk_kd tB tn (tk_nx tB tn tp) = 2 ∧ 1 ≤ tk_nb tB tn (tk_nx tB tn tp) ∧ tk_nb tB tn (tk_nx tB tn tp) ≤ 20 ∧ z40 = tk_nb tB tn (tk_nx tB tn tp) ∧ (h37 236 8) = (h23 236 8) ∧ (h37 236 9) = (h23 236 9) ∧ ((h37 236 4) = tk_nx tB tn (tk_nx tB tn (tk_nx tB tn tp)) ∧ (h37 236 5) = tk_st tB tn (tk_nx tB tn (tk_nx tB tn tp)) ∧ ((tk_kd tB tn (tk_nx tB tn (tk_nx tB tn tp)) = 0 ∧ (h37 236 6) = 0) ∨ (tk_kd tB tn (tk_nx tB tn (tk_nx tB tn tp)) = 1 ∧ (h37 236 6) = 1 ∧ (h37 236 12) = tk_sw tB tn (tk_nx tB tn (tk_nx tB tn tp))) ∨ (tk_kd tB tn (tk_nx tB tn (tk_nx tB tn tp)) = 2 ∧ (h37 236 6) = 2 ∧ (h37 236 7) = tk_nb tB tn (tk_nx tB tn (tk_nx tB tn tp))) ∨ (tk_kd tB tn (tk_nx tB tn (tk_nx tB tn tp)) = 3 ∧ (h37 236 6) = 3 ∧ (h37 236 7) = 59) ∨ (tk_kd tB tn (tk_nx tB tn (tk_nx tB tn tp)) = 4 ∧ (h37 236 6) = 3 ∧ (h37 236 7) = 40) ∨ (tk_kd tB tn (tk_nx tB tn (tk_nx tB tn tp)) = 5 ∧ (h37 236 6) = 3 ∧ (h37 236 7) = 41) ∨ (tk_kd tB tn (tk_nx tB tn (tk_nx tB tn tp)) = 6 ∧ (h37 236 6) = 4)))) ∨ ((h23 236 8) = 0 ∧ tk_kd tB tn (tk_nx tB tn tp) ≠ 2 ∧ (h37 236 8) = 1 ∧ (h37 236 9) = tk_st tB tn (tk_nx tB tn tp)) ∨ ((h23 236 8) = 0 ∧ tk_kd tB tn (tk_nx tB tn tp) = 2 ∧ (tk_nb tB tn (tk_nx tB tn tp) < 1 ∨ 20 < tk_nb tB tn (tk_nx tB tn tp)) ∧ (h37 236 8) = 2 ∧ (h37 236 9) = tk_st tB tn (tk_nx tB tn tp))) (p37_1 : (h23 236 4) ≤ (h37 236 4)) (p37_2 : (h37 236 4) ≤ (h23 236 3)) (p37_3 : 1 ≤ (h37 236 8) ∨ (h23 236 8) = 0) (p37_4 : 1 ≤ (h37 236 8) ∨ (1 ≤ z40 ∧ z40 ≤ 20)) (p37_5 : 1 ≤ (h37 236 8) ∨ (h23 236 6) = 2) => ?_)
          have F42 := F27.then (by decide +kernel) u37
          have e43 : h23 236 9 = h 236 9 := ((u23 236 9 rfl).trans (u21 236 9 rfl))
          have b44 := gi_b (lo := 0) (hi := 5) g37 236 8 rfl
          have b45 := gi_b (lo := -2147483648) (hi := 2147483647) g37 236 9 rfl
          have b46 := gi_b (lo := 0) (hi := 800) g37 236 4 rfl
          have b47 := gi_b (lo := 0) (hi := 800) g37 236 5 rfl
          have b48 := gi_b (lo := 0) (hi := 4) g37 236 6 rfl
          have b49 := gi_b (lo := -9223372036854775808) (hi := 9223372036854775807) g37 236 12 rfl
          have b50 := gi_b (lo := 0) (hi := 999) g37 236 7 rfl
          refine wk_i ?_
          rcases p37_0 with p37_0 | p37_0 | p37_0 | p37_0
          ·
            exfalso; omega
          ·
            have tk51 := p37_0.2.2.2.2.2.2.2
            have tN52 := @tk_nx_b tB tn (tk_nx tB tn (tk_nx tB tn tp)) (by omega) (by omega)
            refine wr_V (k0 := 236) (rest := []) (as := [.ref 236, vi z13, vi z40]) (nx := 127) (r1 := 337) (r2 := 2) (r3 := 11) rfl rfl rfl (of_decide_eq_true rfl) rfl rfl (by decide) rfl rfl (of_decide_eq_true rfl) (of_decide_eq_true rfl) ?_
            refine wi_aload_n (i := 0) (x := 236) (nx := 1) (r1 := 0) (r2 := 0) (r3 := 0) rfl rfl ?_
            refine wr_V (k0 := 236) (rest := []) (as := [.ref 236]) (nx := 4) (r1 := 219) (r2 := 0) (r3 := 11) rfl rfl rfl (of_decide_eq_true rfl) rfl rfl (by decide) rfl rfl (of_decide_eq_true rfl) (of_decide_eq_true rfl) ?_
            refine wi_aload_n (i := 0) (x := 236) (nx := 1) (r1 := 0) (r2 := 0) (r3 := 0) rfl rfl ?_
            refine wr_gi0 (k0 := 236) (x := h37 236 8) (nx := 4) (r1 := 11) (r2 := 8) (r3 := 0) rfl rfl (by decide) rfl ⟨rfl, rfl⟩ rfl rfl ?_
            refine wi_if (cd := .ne) (nx := 7) (r1 := 11) (r2 := 0) (r3 := 0) rfl (by omega) (fun (q53 : (h37 236 8) ≠ 0) => by exfalso; omega) (fun (q53 : ¬ ((h37 236 8) ≠ 0)) => ?_)
            refine wi_iconst (n := 1) (nx := 8) (r1 := 0) (r2 := 0) (r3 := 0) rfl ?_
            refine wi_goto (nx := 11) (r1 := 12) (r2 := 0) (r3 := 0) rfl ?_
            refine wi_zreturn (nx := 13) (r1 := 0) (r2 := 0) (r3 := 0) rfl rfl (by omega) ?_
            refine wk_i ?_
            refine wi_if (cd := .ne) (nx := 7) (r1 := 8) (r2 := 0) (r3 := 0) rfl (by omega) (fun (q54 : 1 ≠ 0) => ?_) (fun (q54 : ¬ (1 ≠ 0)) => by exfalso; omega)
            refine wi_aload_n (i := 0) (x := 236) (nx := 9) (r1 := 0) (r2 := 0) (r3 := 0) rfl rfl ?_
            refine wr_gr (k0 := 236) (x := 253) (nx := 12) (r1 := 11) (r2 := 37) (r3 := 0) rfl rfl (by decide) rfl ⟨rfl, rfl⟩ rfl ?_
            refine wi_aload_n (i := 0) (x := 236) (nx := 13) (r1 := 0) (r2 := 0) (r3 := 0) rfl rfl ?_
            refine wr_gi0 (k0 := 236) (x := h 236 42) (nx := 16) (r1 := 11) (r2 := 42) (r3 := 0) rfl rfl (by decide) rfl ⟨rfl, rfl⟩ rfl ((u37 236 42 rfl).trans ((u23 236 42 rfl).trans (u21 236 42 rfl))) ?_
            refine wi_iload_n (i := 1) (e := z13) (nx := 17) (r1 := 0) (r2 := 0) (r3 := 0) rfl rfl ?_
            obtain ⟨i55, ei55⟩ : ∃ q : Nat, (h 236 42) = (q : Int) := ⟨(h 236 42).toNat, by omega⟩
            refine wr_is (k0 := 253) (a := h 236 42) (f := i55) (x := z13) (bl := 0) (bh := 8) (nx := 18) (r1 := 0) (r2 := 0) (r3 := 0) rfl (by decide) rfl (by omega) (by omega) (by decide) g37 rfl (by omega) (fun h56 g56 w56 u56 => ?_)
            have F57 := F42.then rfl (FR.rngp (lo := 253) (hi := 253) u56 (by decide))
            refine wi_aload_n (i := 0) (x := 236) (nx := 19) (r1 := 0) (r2 := 0) (r3 := 0) rfl rfl ?_
            refine wr_gr (k0 := 236) (x := 254) (nx := 22) (r1 := 11) (r2 := 38) (r3 := 0) rfl rfl (by decide) rfl ⟨rfl, rfl⟩ rfl ?_
            refine wi_aload_n (i := 0) (x := 236) (nx := 23) (r1 := 0) (r2 := 0) (r3 := 0) rfl rfl ?_
            refine wr_gi0 (k0 := 236) (x := h 236 42) (nx := 26) (r1 := 11) (r2 := 42) (r3 := 0) rfl rfl (by decide) rfl ⟨rfl, rfl⟩ rfl ((u56 236 42 (fn_a (by omega) fn_0)).trans ((u37 236 42 rfl).trans ((u23 236 42 rfl).trans (u21 236 42 rfl)))) ?_
            refine wi_iload_n (i := 2) (e := z40) (nx := 27) (r1 := 0) (r2 := 0) (r3 := 0) rfl rfl ?_
            refine wr_is (k0 := 254) (a := h 236 42) (f := i55) (x := z40) (bl := 0) (bh := 999) (nx := 28) (r1 := 0) (r2 := 0) (r3 := 0) rfl (by decide) rfl (by omega) (by omega) (by decide) g56 rfl (by omega) (fun h58 g58 w58 u58 => ?_)
            have F59 := F57.then rfl (FR.rngp (lo := 254) (hi := 254) u58 (by decide))
            refine wi_aload_n (i := 0) (x := 236) (nx := 29) (r1 := 0) (r2 := 0) (r3 := 0) rfl rfl ?_
            refine wi_dup (nx := 30) (r1 := 0) (r2 := 0) (r3 := 0) rfl rfl ?_
            refine wr_gi0 (k0 := 236) (x := h 236 42) (nx := 33) (r1 := 11) (r2 := 42) (r3 := 0) rfl rfl (by decide) rfl ⟨rfl, rfl⟩ rfl ((u58 236 42 (fn_a (by omega) fn_0)).trans ((u56 236 42 (fn_a (by omega) fn_0)).trans ((u37 236 42 rfl).trans ((u23 236 42 rfl).trans (u21 236 42 rfl))))) ?_
            refine wi_iconst (n := 1) (nx := 34) (r1 := 0) (r2 := 0) (r3 := 0) rfl ?_
            refine wr_add (nx := 35) (r1 := 0) (r2 := 0) (r3 := 0) rfl (fun e60 (fe60 : e60 = (h 236 42) + 1) => ?_)
            refine wr_pf0 (k0 := 236) (x := e60) (bl := 0) (bh := 80) (nx := 38) (r1 := 11) (r2 := 42) (r3 := 0) rfl (by decide) rfl ⟨rfl, rfl⟩ rfl rfl g58 rfl (by omega) (fun h61 g61 w61 u61 => ?_)
            have F62 := F59.then rfl u61
            refine wi_return (nx := 39) (r1 := 0) (r2 := 0) (r3 := 0) rfl rfl ?_
            refine wk_n ?_
            refine wi_aload_n (i := 0) (x := 236) (nx := 128) (r1 := 0) (r2 := 0) (r3 := 0) rfl rfl ?_
            refine wi_bipush (n := 40) (nx := 130) (r1 := 0) (r2 := 0) (r3 := 0) rfl (by decide) ?_
            refine wr_V (k0 := 236) (rest := []) (as := [.ref 236, vi 40]) (nx := 133) (r1 := 235) (r2 := 1) (r3 := 11) rfl rfl rfl (of_decide_eq_true rfl) rfl rfl (by decide) rfl rfl (of_decide_eq_true rfl) (of_decide_eq_true rfl) ?_
            have e64 : h61 236 4 = h37 236 4 := ((u61 236 4 rfl).trans ((u58 236 4 (fn_a (by omega) fn_0)).trans (u56 236 4 (fn_a (by omega) fn_0))))
            have e65 : h61 236 3 = h 236 3 := ((u61 236 3 rfl).trans ((u58 236 3 (fn_a (by omega) fn_0)).trans ((u56 236 3 (fn_a (by omega) fn_0)).trans ((u37 236 3 rfl).trans ((u23 236 3 rfl).trans (u21 236 3 rfl))))))
            have e66 : h61 236 8 = h37 236 8 := ((u61 236 8 rfl).trans ((u58 236 8 (fn_a (by omega) fn_0)).trans (u56 236 8 (fn_a (by omega) fn_0))))
            have e67 : h61 236 5 = h37 236 5 := ((u61 236 5 rfl).trans ((u58 236 5 (fn_a (by omega) fn_0)).trans (u56 236 5 (fn_a (by omega) fn_0))))
            have e68 : h61 236 6 = h37 236 6 := ((u61 236 6 rfl).trans ((u58 236 6 (fn_a (by omega) fn_0)).trans (u56 236 6 (fn_a (by omega) fn_0))))
            have e69 : h61 236 12 = h37 236 12 := ((u61 236 12 rfl).trans ((u58 236 12 (fn_a (by omega) fn_0)).trans (u56 236 12 (fn_a (by omega) fn_0))))
            have e70 : h61 236 7 = h37 236 7 := ((u61 236 7 rfl).trans ((u58 236 7 (fn_a (by omega) fn_0)).trans (u56 236 7 (fn_a (by omega) fn_0))))
            have rb71 := RefB.fr u37 rfl rb41
            have rb72 := RefB.fr u56 rfl rb71
            have rb73 := RefB.fr u58 rfl rb72
            have rb74 := RefB.fr u61 rfl rb73
            refine ct_235_236_L40 hcr  g61   (show (h61 236 4) ≤ (h61 236 3) by omega) (show 0 ≤ (tk_nx tB tn (tk_nx tB tn tp)) by omega) (show (tk_nx tB tn (tk_nx tB tn tp)) ≤ tn by omega) (show (tk_nx tB tn (tk_nx tB tn tp)) ≤ tk_nx tB tn (tk_nx tB tn (tk_nx tB tn tp)) ∧ tk_nx tB tn (tk_nx tB tn (tk_nx tB tn tp)) ≤ tn by omega) (show 1 ≤ (h61 236 8) ∨ ((h61 236 4) = tk_nx tB tn (tk_nx tB tn (tk_nx tB tn tp)) ∧ (h61 236 5) = tk_st tB tn (tk_nx tB tn (tk_nx tB tn tp)) ∧ ((tk_kd tB tn (tk_nx tB tn (tk_nx tB tn tp)) = 0 ∧ (h61 236 6) = 0) ∨ (tk_kd tB tn (tk_nx tB tn (tk_nx tB tn tp)) = 1 ∧ (h61 236 6) = 1 ∧ (h61 236 12) = tk_sw tB tn (tk_nx tB tn (tk_nx tB tn tp))) ∨ (tk_kd tB tn (tk_nx tB tn (tk_nx tB tn tp)) = 2 ∧ (h61 236 6) = 2 ∧ (h61 236 7) = tk_nb tB tn (tk_nx tB tn (tk_nx tB tn tp))) ∨ (tk_kd tB tn (tk_nx tB tn (tk_nx tB tn tp)) = 3 ∧ (h61 236 6) = 3 ∧ (h61 236 7) = 59) ∨ (tk_kd tB tn (tk_nx tB tn (tk_nx tB tn tp)) = 4 ∧ (h61 236 6) = 3 ∧ (h61 236 7) = 40) ∨ (tk_kd tB tn (tk_nx tB tn (tk_nx tB tn tp)) = 5 ∧ (h61 236 6) = 3 ∧ (h61 236 7) = 41) ∨ (tk_kd tB tn (tk_nx tB tn (tk_nx tB tn tp)) = 6 ∧ (h61 236 6) = 4))) from (Or.inr (show ((h61 236 4) = tk_nx tB tn (tk_nx tB tn (tk_nx tB tn tp)) ∧ (h61 236 5) = tk_st tB tn (tk_nx tB tn (tk_nx tB tn tp)) ∧ ((tk_kd tB tn (tk_nx tB tn (tk_nx tB tn tp)) = 0 ∧ (h61 236 6) = 0) ∨ (tk_kd tB tn (tk_nx tB tn (tk_nx tB tn tp)) = 1 ∧ (h61 236 6) = 1 ∧ (h61 236 12) = tk_sw tB tn (tk_nx tB tn (tk_nx tB tn tp))) ∨ (tk_kd tB tn (tk_nx tB tn (tk_nx tB tn tp)) = 2 ∧ (h61 236 6) = 2 ∧ (h61 236 7) = tk_nb tB tn (tk_nx tB tn (tk_nx tB tn tp))) ∨ (tk_kd tB tn (tk_nx tB tn (tk_nx tB tn tp)) = 3 ∧ (h61 236 6) = 3 ∧ (h61 236 7) = 59) ∨ (tk_kd tB tn (tk_nx tB tn (tk_nx tB tn tp)) = 4 ∧ (h61 236 6) = 3 ∧ (h61 236 7) = 40) ∨ (tk_kd tB tn (tk_nx tB tn (tk_nx tB tn tp)) = 5 ∧ (h61 236 6) = 3 ∧ (h61 236 7) = 41) ∨ (tk_kd tB tn (tk_nx tB tn (tk_nx tB tn tp)) = 6 ∧ (h61 236 6) = 4))) by first | assumption | exact tk_mv (by assumption) (by omega) (by omega) (by omega) (by omega) (by omega)))) rb74 (fun h63 g63 u63 (p63_0 : (1 ≤ (h61 236 8) ∧ (h63 236 8) = (h61 236 8) ∧ (h63 236 9) = (h61 236 9)) ∨ ((h61 236 8) = 0 ∧ tk_kd tB tn (tk_nx tB tn (tk_nx tB tn tp)) = 4 ∧ (h63 236 8) = (h61 236 8) ∧ (h63 236 9) = (h61 236 9) ∧ ((h63 236 4) = tk_nx tB tn (tk_nx tB tn (tk_nx tB tn (tk_nx tB tn tp))) ∧ (h63 236 5) = tk_st tB tn (tk_nx tB tn (tk_nx tB tn (tk_nx tB tn tp))) ∧ ((tk_kd tB tn (tk_nx tB tn (tk_nx tB tn (tk_nx tB tn tp))) = 0 ∧ (h63 236 6) = 0) ∨ (tk_kd tB tn (tk_nx tB tn (tk_nx tB tn (tk_nx tB tn tp))) = 1 ∧ (h63 236 6) = 1 ∧ (h63 236 12) = tk_sw tB tn (tk_nx tB tn (tk_nx tB tn (tk_nx tB tn tp)))) ∨ (tk_kd tB tn (tk_nx tB tn (tk_nx tB tn (tk_nx tB tn tp))) = 2 ∧ (h63 236 6) = 2 ∧ (h63 236 7) = tk_nb tB tn (tk_nx tB tn (tk_nx tB tn (tk_nx tB tn tp)))) ∨ (tk_kd tB tn (tk_nx tB tn (tk_nx tB tn (tk_nx tB tn tp))) = 3 ∧ (h63 236 6) = 3 ∧ (h63 236 7) = 59) ∨ (tk_kd tB tn (tk_nx tB tn (tk_nx tB tn (tk_nx tB tn tp))) = 4 ∧ (h63 236 6) = 3 ∧ (h63 236 7) = 40) ∨ (tk_kd tB tn (tk_nx tB tn (tk_nx tB tn (tk_nx tB tn tp))) = 5 ∧ (h63 236 6) = 3 ∧ (h63 236 7) = 41) ∨ (tk_kd tB tn (tk_nx tB tn (tk_nx tB tn (tk_nx tB tn tp))) = 6 ∧ (h63 236 6) = 4)))) ∨ ((h61 236 8) = 0 ∧ tk_kd tB tn (tk_nx tB tn (tk_nx tB tn tp)) ≠ 4 ∧ (h63 236 8) = 1 ∧ (h63 236 9) = tk_st tB tn (tk_nx tB tn (tk_nx tB tn tp)))) (p63_1 : (h61 236 4) ≤ (h63 236 4)) (p63_2 : (h63 236 4) ≤ (h61 236 3)) (p63_3 : 1 ≤ (h63 236 8) ∨ (h61 236 8) = 0) (p63_4 : 1 ≤ (h63 236 8) ∨ (h63 236 6) = 0 ∨ (h61 236 4) + 1 ≤ (h63 236 4)) => ?_)
            have F75 := F62.then (by decide +kernel) u63
            have e76 : h61 236 9 = h37 236 9 := ((u61 236 9 rfl).trans ((u58 236 9 (fn_a (by omega) fn_0)).trans (u56 236 9 (fn_a (by omega) fn_0))))
            have b77 := gi_b (lo := 0) (hi := 5) g63 236 8 rfl
            have b78 := gi_b (lo := -2147483648) (hi := 2147483647) g63 236 9 rfl
            have b79 := gi_b (lo := 0) (hi := 800) g63 236 4 rfl
            have b80 := gi_b (lo := 0) (hi := 800) g63 236 5 rfl
            have b81 := gi_b (lo := 0) (hi := 4) g63 236 6 rfl
            have b82 := gi_b (lo := -9223372036854775808) (hi := 9223372036854775807) g63 236 12 rfl
            have b83 := gi_b (lo := 0) (hi := 999) g63 236 7 rfl
            refine wk_n ?_
            rcases p63_0 with p63_0 | p63_0 | p63_0
            ·
              exfalso; omega
            ·
              have tk84 := p63_0.2.2.2.2
              have tN85 := @tk_nx_b tB tn (tk_nx tB tn (tk_nx tB tn (tk_nx tB tn tp))) (by omega) (by omega)
              refine wi_aload_n (i := 0) (x := 236) (nx := 134) (r1 := 0) (r2 := 0) (r3 := 0) rfl rfl ?_
              refine wi_dup (nx := 135) (r1 := 0) (r2 := 0) (r3 := 0) rfl rfl ?_
              refine wr_gi0 (k0 := 236) (x := h 236 44) (nx := 138) (r1 := 11) (r2 := 44) (r3 := 0) rfl rfl (by decide) rfl ⟨rfl, rfl⟩ rfl ((u63 236 44 rfl).trans ((u61 236 44 rfl).trans ((u58 236 44 (fn_a (by omega) fn_0)).trans ((u56 236 44 (fn_a (by omega) fn_0)).trans ((u37 236 44 rfl).trans ((u23 236 44 rfl).trans (u21 236 44 rfl))))))) ?_
              refine wi_iconst (n := 1) (nx := 139) (r1 := 0) (r2 := 0) (r3 := 0) rfl ?_
              refine wr_add (nx := 140) (r1 := 0) (r2 := 0) (r3 := 0) rfl (fun e86 (fe86 : e86 = (h 236 44) + 1) => ?_)
              refine wr_pf0 (k0 := 236) (x := e86) (bl := 0) (bh := 2) (nx := 143) (r1 := 11) (r2 := 44) (r3 := 0) rfl (by decide) rfl ⟨rfl, rfl⟩ rfl rfl g63 rfl (by omega) (fun h87 g87 w87 u87 => ?_)
              have F88 := F75.then rfl u87
              refine wi_goto (nx := 146) (r1 := 152) (r2 := 0) (r3 := 0) rfl ?_
              refine wi_return (nx := 153) (r1 := 0) (r2 := 0) (r3 := 0) rfl rfl ?_
              have e89 : h87 236 8 = h63 236 8 := (u87 236 8 rfl)
              have e90 : h87 236 44 = e86 := w87
              have e91 : h87 236 9 = h63 236 9 := (u87 236 9 rfl)
              have e92 : h87 236 4 = h63 236 4 := (u87 236 4 rfl)
              have e93 : h87 236 6 = h63 236 6 := (u87 236 6 rfl)
              have e94 : h87 236 42 = e60 := ((u87 236 42 rfl).trans ((u63 236 42 rfl).trans w61))
              have e95 : h87 236 43 = e20 := ((u87 236 43 rfl).trans ((u63 236 43 rfl).trans ((u61 236 43 rfl).trans ((u58 236 43 (fn_a (by omega) fn_0)).trans ((u56 236 43 (fn_a (by omega) fn_0)).trans ((u37 236 43 rfl).trans ((u23 236 43 rfl).trans w21)))))))
              have q96 : h87 253 = h56 253 := funext (fun i => ((u87 253 i rfl).trans ((u63 253 i (fo_no_ok (by decide) i)).trans ((u61 253 i rfl).trans (u58 253 i (fn_a (by omega) fn_0))))))
              have q97 : h37 253 = h 253 := funext (fun i => ((u37 253 i (fo_no_ok (by decide) i)).trans ((u23 253 i (fo_no_ok (by decide) i)).trans (u21 253 i rfl))))
              have e98 : h87 236 5 = h63 236 5 := (u87 236 5 rfl)
              have e99 : h87 236 7 = h63 236 7 := (u87 236 7 rfl)
              have e100 : h87 236 12 = h63 236 12 := (u87 236 12 rfl)
              exact k h87 g87 F88 (show (1 ≤ (h87 236 8)) ∨ ((h87 236 8) = 0 ∧ (h87 236 44) = (h 236 44) + 1) ∨ ((h87 236 8) = 0 ∧ (h87 236 44) = (h 236 44)) by omega) (show (h87 236 8) ≠ 0 ∨ (h87 236 9) = -1 by omega) (show (h 236 4) ≤ (h87 236 4) by omega) (show (h87 236 4) ≤ (h 236 3) by omega) (show 1 ≤ (h87 236 8) ∨ (h87 236 6) = 0 ∨ (h 236 4) + 1 ≤ (h87 236 4) by omega) (show 1 ≤ (h87 236 8) ∨ (h87 236 42) + (h87 236 44) ≤ 2 * (h87 236 43) by omega) (fun e => by
                  rw [q96]
                  refine WP.put (S := h 253) (n := h 236 42) (o := h 236 44) xq0 (by omega) (fun k hk => (u56 253 k (fn_i (by omega) fn_0)).trans (congrFun q97 k)) ?_ (by omega)
                  rw [show (h 236 42).toNat = i55 by omega, w56]
                  omega) (Or.inr (Or.inl ⟨by omega, by omega, by omega, (tk_nx tB tn (tk_nx tB tn (tk_nx tB tn tp))), by omega, by omega, by omega, (by first | assumption | exact tk_mv (by assumption) (by omega) (by omega) (by omega) (by omega) (by omega)), by unfold sc_cmd sc_hd sc_num sc_mk; (try dsimp only); (repeat (first | rw [if_pos (by omega)] | rw [if_neg (by omega)])); (repeat ((first | unfold sc_num | unfold sc_mk); (try dsimp only); (repeat (first | rw [if_pos (by omega)] | rw [if_neg (by omega)])))); exact sc_inr rfl (by omega) (by omega)⟩))
            ·
              refine wi_aload_n (i := 0) (x := 236) (nx := 134) (r1 := 0) (r2 := 0) (r3 := 0) rfl rfl ?_
              refine wi_dup (nx := 135) (r1 := 0) (r2 := 0) (r3 := 0) rfl rfl ?_
              refine wr_gi0 (k0 := 236) (x := h 236 44) (nx := 138) (r1 := 11) (r2 := 44) (r3 := 0) rfl rfl (by decide) rfl ⟨rfl, rfl⟩ rfl ((u63 236 44 rfl).trans ((u61 236 44 rfl).trans ((u58 236 44 (fn_a (by omega) fn_0)).trans ((u56 236 44 (fn_a (by omega) fn_0)).trans ((u37 236 44 rfl).trans ((u23 236 44 rfl).trans (u21 236 44 rfl))))))) ?_
              refine wi_iconst (n := 1) (nx := 139) (r1 := 0) (r2 := 0) (r3 := 0) rfl ?_
              refine wr_add (nx := 140) (r1 := 0) (r2 := 0) (r3 := 0) rfl (fun e84 (fe84 : e84 = (h 236 44) + 1) => ?_)
              refine wr_pf0 (k0 := 236) (x := e84) (bl := 0) (bh := 2) (nx := 143) (r1 := 11) (r2 := 44) (r3 := 0) rfl (by decide) rfl ⟨rfl, rfl⟩ rfl rfl g63 rfl (by omega) (fun h85 g85 w85 u85 => ?_)
              have F86 := F75.then rfl u85
              refine wi_goto (nx := 146) (r1 := 152) (r2 := 0) (r3 := 0) rfl ?_
              refine wi_return (nx := 153) (r1 := 0) (r2 := 0) (r3 := 0) rfl rfl ?_
              have e87 : h85 236 8 = h63 236 8 := (u85 236 8 rfl)
              have e88 : h85 236 44 = e84 := w85
              have e89 : h85 236 9 = h63 236 9 := (u85 236 9 rfl)
              have e90 : h85 236 4 = h63 236 4 := (u85 236 4 rfl)
              have e91 : h85 236 6 = h63 236 6 := (u85 236 6 rfl)
              have e92 : h85 236 42 = e60 := ((u85 236 42 rfl).trans ((u63 236 42 rfl).trans w61))
              have e93 : h85 236 43 = e20 := ((u85 236 43 rfl).trans ((u63 236 43 rfl).trans ((u61 236 43 rfl).trans ((u58 236 43 (fn_a (by omega) fn_0)).trans ((u56 236 43 (fn_a (by omega) fn_0)).trans ((u37 236 43 rfl).trans ((u23 236 43 rfl).trans w21)))))))
              have q94 : h85 253 = h56 253 := funext (fun i => ((u85 253 i rfl).trans ((u63 253 i (fo_no_ok (by decide) i)).trans ((u61 253 i rfl).trans (u58 253 i (fn_a (by omega) fn_0))))))
              have q95 : h37 253 = h 253 := funext (fun i => ((u37 253 i (fo_no_ok (by decide) i)).trans ((u23 253 i (fo_no_ok (by decide) i)).trans (u21 253 i rfl))))
              exact k h85 g85 F86 (show (1 ≤ (h85 236 8)) ∨ ((h85 236 8) = 0 ∧ (h85 236 44) = (h 236 44) + 1) ∨ ((h85 236 8) = 0 ∧ (h85 236 44) = (h 236 44)) by omega) (show (h85 236 8) ≠ 0 ∨ (h85 236 9) = -1 by omega) (show (h 236 4) ≤ (h85 236 4) by omega) (show (h85 236 4) ≤ (h 236 3) by omega) (show 1 ≤ (h85 236 8) ∨ (h85 236 6) = 0 ∨ (h 236 4) + 1 ≤ (h85 236 4) by omega) (show 1 ≤ (h85 236 8) ∨ (h85 236 42) + (h85 236 44) ≤ 2 * (h85 236 43) by omega) (fun e => by
                  rw [q94]
                  refine WP.put (S := h 253) (n := h 236 42) (o := h 236 44) xq0 (by omega) (fun k hk => (u56 253 k (fn_i (by omega) fn_0)).trans (congrFun q95 k)) ?_ (by omega)
                  rw [show (h 236 42).toNat = i55 by omega, w56]
                  omega) (Or.inl ⟨by omega, by unfold sc_cmd sc_hd sc_num sc_mk; (try dsimp only); (repeat (first | rw [if_pos (by omega)] | rw [if_neg (by omega)])); (repeat ((first | unfold sc_num | unfold sc_mk); (try dsimp only); (repeat (first | rw [if_pos (by omega)] | rw [if_neg (by omega)])))); exact sc_inl (by omega) (by omega)⟩)
          ·
            refine wr_V (k0 := 236) (rest := []) (as := [.ref 236, vi z13, vi z40]) (nx := 127) (r1 := 337) (r2 := 2) (r3 := 11) rfl rfl rfl (of_decide_eq_true rfl) rfl rfl (by decide) rfl rfl (of_decide_eq_true rfl) (of_decide_eq_true rfl) ?_
            refine wi_aload_n (i := 0) (x := 236) (nx := 1) (r1 := 0) (r2 := 0) (r3 := 0) rfl rfl ?_
            refine wr_V (k0 := 236) (rest := []) (as := [.ref 236]) (nx := 4) (r1 := 219) (r2 := 0) (r3 := 11) rfl rfl rfl (of_decide_eq_true rfl) rfl rfl (by decide) rfl rfl (of_decide_eq_true rfl) (of_decide_eq_true rfl) ?_
            refine wi_aload_n (i := 0) (x := 236) (nx := 1) (r1 := 0) (r2 := 0) (r3 := 0) rfl rfl ?_
            refine wr_gi0 (k0 := 236) (x := h37 236 8) (nx := 4) (r1 := 11) (r2 := 8) (r3 := 0) rfl rfl (by decide) rfl ⟨rfl, rfl⟩ rfl rfl ?_
            refine wi_if (cd := .ne) (nx := 7) (r1 := 11) (r2 := 0) (r3 := 0) rfl (by omega) (fun (q51 : (h37 236 8) ≠ 0) => ?_) (fun (q51 : ¬ ((h37 236 8) ≠ 0)) => by exfalso; omega)
            refine wi_iconst (n := 0) (nx := 12) (r1 := 0) (r2 := 0) (r3 := 0) rfl ?_
            refine wi_zreturn (nx := 13) (r1 := 0) (r2 := 0) (r3 := 0) rfl rfl (by omega) ?_
            refine wk_i ?_
            refine wi_if (cd := .ne) (nx := 7) (r1 := 8) (r2 := 0) (r3 := 0) rfl (by omega) (fun (q52 : 0 ≠ 0) => by exfalso; omega) (fun (q52 : ¬ (0 ≠ 0)) => ?_)
            refine wi_return (nx := 8) (r1 := 0) (r2 := 0) (r3 := 0) rfl rfl ?_
            refine wk_n ?_
            refine wi_aload_n (i := 0) (x := 236) (nx := 128) (r1 := 0) (r2 := 0) (r3 := 0) rfl rfl ?_
            refine wi_bipush (n := 40) (nx := 130) (r1 := 0) (r2 := 0) (r3 := 0) rfl (by decide) ?_
            refine wr_V (k0 := 236) (rest := []) (as := [.ref 236, vi 40]) (nx := 133) (r1 := 235) (r2 := 1) (r3 := 11) rfl rfl rfl (of_decide_eq_true rfl) rfl rfl (by decide) rfl rfl (of_decide_eq_true rfl) (of_decide_eq_true rfl) ?_
            have e54 : h37 236 3 = h 236 3 := ((u37 236 3 rfl).trans ((u23 236 3 rfl).trans (u21 236 3 rfl)))
            have rb55 := RefB.fr u37 rfl rb41
            refine ct_235_236_L40 hcr  g37   (show (h37 236 4) ≤ (h37 236 3) by omega) (show 0 ≤ (tk_nx tB tn tp) by omega) (show (tk_nx tB tn tp) ≤ tn by omega) (show (tk_nx tB tn tp) ≤ tk_nx tB tn (tk_nx tB tn tp) ∧ tk_nx tB tn (tk_nx tB tn tp) ≤ tn by omega) (show 1 ≤ (h37 236 8) ∨ ((h37 236 4) = tk_nx tB tn (tk_nx tB tn tp) ∧ (h37 236 5) = tk_st tB tn (tk_nx tB tn tp) ∧ ((tk_kd tB tn (tk_nx tB tn tp) = 0 ∧ (h37 236 6) = 0) ∨ (tk_kd tB tn (tk_nx tB tn tp) = 1 ∧ (h37 236 6) = 1 ∧ (h37 236 12) = tk_sw tB tn (tk_nx tB tn tp)) ∨ (tk_kd tB tn (tk_nx tB tn tp) = 2 ∧ (h37 236 6) = 2 ∧ (h37 236 7) = tk_nb tB tn (tk_nx tB tn tp)) ∨ (tk_kd tB tn (tk_nx tB tn tp) = 3 ∧ (h37 236 6) = 3 ∧ (h37 236 7) = 59) ∨ (tk_kd tB tn (tk_nx tB tn tp) = 4 ∧ (h37 236 6) = 3 ∧ (h37 236 7) = 40) ∨ (tk_kd tB tn (tk_nx tB tn tp) = 5 ∧ (h37 236 6) = 3 ∧ (h37 236 7) = 41) ∨ (tk_kd tB tn (tk_nx tB tn tp) = 6 ∧ (h37 236 6) = 4))) from (Or.inl (by omega))) rb55 (fun h53 g53 u53 (p53_0 : (1 ≤ (h37 236 8) ∧ (h53 236 8) = (h37 236 8) ∧ (h53 236 9) = (h37 236 9)) ∨ ((h37 236 8) = 0 ∧ tk_kd tB tn (tk_nx tB tn tp) = 4 ∧ (h53 236 8) = (h37 236 8) ∧ (h53 236 9) = (h37 236 9) ∧ ((h53 236 4) = tk_nx tB tn (tk_nx tB tn (tk_nx tB tn tp)) ∧ (h53 236 5) = tk_st tB tn (tk_nx tB tn (tk_nx tB tn tp)) ∧ ((tk_kd tB tn (tk_nx tB tn (tk_nx tB tn tp)) = 0 ∧ (h53 236 6) = 0) ∨ (tk_kd tB tn (tk_nx tB tn (tk_nx tB tn tp)) = 1 ∧ (h53 236 6) = 1 ∧ (h53 236 12) = tk_sw tB tn (tk_nx tB tn (tk_nx tB tn tp))) ∨ (tk_kd tB tn (tk_nx tB tn (tk_nx tB tn tp)) = 2 ∧ (h53 236 6) = 2 ∧ (h53 236 7) = tk_nb tB tn (tk_nx tB tn (tk_nx tB tn tp))) ∨ (tk_kd tB tn (tk_nx tB tn (tk_nx tB tn tp)) = 3 ∧ (h53 236 6) = 3 ∧ (h53 236 7) = 59) ∨ (tk_kd tB tn (tk_nx tB tn (tk_nx tB tn tp)) = 4 ∧ (h53 236 6) = 3 ∧ (h53 236 7) = 40) ∨ (tk_kd tB tn (tk_nx tB tn (tk_nx tB tn tp)) = 5 ∧ (h53 236 6) = 3 ∧ (h53 236 7) = 41) ∨ (tk_kd tB tn (tk_nx tB tn (tk_nx tB tn tp)) = 6 ∧ (h53 236 6) = 4)))) ∨ ((h37 236 8) = 0 ∧ tk_kd tB tn (tk_nx tB tn tp) ≠ 4 ∧ (h53 236 8) = 1 ∧ (h53 236 9) = tk_st tB tn (tk_nx tB tn tp))) (p53_1 : (h37 236 4) ≤ (h53 236 4)) (p53_2 : (h53 236 4) ≤ (h37 236 3)) (p53_3 : 1 ≤ (h53 236 8) ∨ (h37 236 8) = 0) (p53_4 : 1 ≤ (h53 236 8) ∨ (h53 236 6) = 0 ∨ (h37 236 4) + 1 ≤ (h53 236 4)) => ?_)
            have F56 := F42.then (by decide +kernel) u53
            have b57 := gi_b (lo := 0) (hi := 5) g53 236 8 rfl
            have b58 := gi_b (lo := -2147483648) (hi := 2147483647) g53 236 9 rfl
            have b59 := gi_b (lo := 0) (hi := 800) g53 236 4 rfl
            have b60 := gi_b (lo := 0) (hi := 800) g53 236 5 rfl
            have b61 := gi_b (lo := 0) (hi := 4) g53 236 6 rfl
            have b62 := gi_b (lo := -9223372036854775808) (hi := 9223372036854775807) g53 236 12 rfl
            have b63 := gi_b (lo := 0) (hi := 999) g53 236 7 rfl
            refine wk_n ?_
            rcases p53_0 with p53_0 | p53_0 | p53_0
            ·
              refine wi_aload_n (i := 0) (x := 236) (nx := 134) (r1 := 0) (r2 := 0) (r3 := 0) rfl rfl ?_
              refine wi_dup (nx := 135) (r1 := 0) (r2 := 0) (r3 := 0) rfl rfl ?_
              refine wr_gi0 (k0 := 236) (x := h 236 44) (nx := 138) (r1 := 11) (r2 := 44) (r3 := 0) rfl rfl (by decide) rfl ⟨rfl, rfl⟩ rfl ((u53 236 44 rfl).trans ((u37 236 44 rfl).trans ((u23 236 44 rfl).trans (u21 236 44 rfl)))) ?_
              refine wi_iconst (n := 1) (nx := 139) (r1 := 0) (r2 := 0) (r3 := 0) rfl ?_
              refine wr_add (nx := 140) (r1 := 0) (r2 := 0) (r3 := 0) rfl (fun e64 (fe64 : e64 = (h 236 44) + 1) => ?_)
              refine wr_pf0 (k0 := 236) (x := e64) (bl := 0) (bh := 2) (nx := 143) (r1 := 11) (r2 := 44) (r3 := 0) rfl (by decide) rfl ⟨rfl, rfl⟩ rfl rfl g53 rfl (by omega) (fun h65 g65 w65 u65 => ?_)
              have F66 := F56.then rfl u65
              refine wi_goto (nx := 146) (r1 := 152) (r2 := 0) (r3 := 0) rfl ?_
              refine wi_return (nx := 153) (r1 := 0) (r2 := 0) (r3 := 0) rfl rfl ?_
              have e67 : h65 236 8 = h53 236 8 := (u65 236 8 rfl)
              have e68 : h65 236 44 = e64 := w65
              have e69 : h65 236 9 = h53 236 9 := (u65 236 9 rfl)
              have e70 : h65 236 4 = h53 236 4 := (u65 236 4 rfl)
              have e71 : h65 236 6 = h53 236 6 := (u65 236 6 rfl)
              have e72 : h65 236 42 = h 236 42 := ((u65 236 42 rfl).trans ((u53 236 42 rfl).trans ((u37 236 42 rfl).trans ((u23 236 42 rfl).trans (u21 236 42 rfl)))))
              have e73 : h65 236 43 = e20 := ((u65 236 43 rfl).trans ((u53 236 43 rfl).trans ((u37 236 43 rfl).trans ((u23 236 43 rfl).trans w21))))
              exact k h65 g65 F66 (show (1 ≤ (h65 236 8)) ∨ ((h65 236 8) = 0 ∧ (h65 236 44) = (h 236 44) + 1) ∨ ((h65 236 8) = 0 ∧ (h65 236 44) = (h 236 44)) by omega) (show (h65 236 8) ≠ 0 ∨ (h65 236 9) = -1 by omega) (show (h 236 4) ≤ (h65 236 4) by omega) (show (h65 236 4) ≤ (h 236 3) by omega) (show 1 ≤ (h65 236 8) ∨ (h65 236 6) = 0 ∨ (h 236 4) + 1 ≤ (h65 236 4) by omega) (show 1 ≤ (h65 236 8) ∨ (h65 236 42) + (h65 236 44) ≤ 2 * (h65 236 43) by omega) (fun e => absurd e (by omega)) (Or.inl ⟨by omega, by unfold sc_cmd sc_hd sc_num sc_mk; (try dsimp only); (repeat (first | rw [if_pos (by omega)] | rw [if_neg (by omega)])); (repeat ((first | unfold sc_num | unfold sc_mk); (try dsimp only); (repeat (first | rw [if_pos (by omega)] | rw [if_neg (by omega)])))); exact sc_inl (by omega) (by omega)⟩)
            ·
              have tk64 := p53_0.2.2.2.2
              have tN65 := @tk_nx_b tB tn (tk_nx tB tn (tk_nx tB tn tp)) (by omega) (by omega)
              exfalso; omega
            ·
              exfalso; omega
          ·
            refine wr_V (k0 := 236) (rest := []) (as := [.ref 236, vi z13, vi z40]) (nx := 127) (r1 := 337) (r2 := 2) (r3 := 11) rfl rfl rfl (of_decide_eq_true rfl) rfl rfl (by decide) rfl rfl (of_decide_eq_true rfl) (of_decide_eq_true rfl) ?_
            refine wi_aload_n (i := 0) (x := 236) (nx := 1) (r1 := 0) (r2 := 0) (r3 := 0) rfl rfl ?_
            refine wr_V (k0 := 236) (rest := []) (as := [.ref 236]) (nx := 4) (r1 := 219) (r2 := 0) (r3 := 11) rfl rfl rfl (of_decide_eq_true rfl) rfl rfl (by decide) rfl rfl (of_decide_eq_true rfl) (of_decide_eq_true rfl) ?_
            refine wi_aload_n (i := 0) (x := 236) (nx := 1) (r1 := 0) (r2 := 0) (r3 := 0) rfl rfl ?_
            refine wr_gi0 (k0 := 236) (x := h37 236 8) (nx := 4) (r1 := 11) (r2 := 8) (r3 := 0) rfl rfl (by decide) rfl ⟨rfl, rfl⟩ rfl rfl ?_
            refine wi_if (cd := .ne) (nx := 7) (r1 := 11) (r2 := 0) (r3 := 0) rfl (by omega) (fun (q51 : (h37 236 8) ≠ 0) => ?_) (fun (q51 : ¬ ((h37 236 8) ≠ 0)) => by exfalso; omega)
            refine wi_iconst (n := 0) (nx := 12) (r1 := 0) (r2 := 0) (r3 := 0) rfl ?_
            refine wi_zreturn (nx := 13) (r1 := 0) (r2 := 0) (r3 := 0) rfl rfl (by omega) ?_
            refine wk_i ?_
            refine wi_if (cd := .ne) (nx := 7) (r1 := 8) (r2 := 0) (r3 := 0) rfl (by omega) (fun (q52 : 0 ≠ 0) => by exfalso; omega) (fun (q52 : ¬ (0 ≠ 0)) => ?_)
            refine wi_return (nx := 8) (r1 := 0) (r2 := 0) (r3 := 0) rfl rfl ?_
            refine wk_n ?_
            refine wi_aload_n (i := 0) (x := 236) (nx := 128) (r1 := 0) (r2 := 0) (r3 := 0) rfl rfl ?_
            refine wi_bipush (n := 40) (nx := 130) (r1 := 0) (r2 := 0) (r3 := 0) rfl (by decide) ?_
            refine wr_V (k0 := 236) (rest := []) (as := [.ref 236, vi 40]) (nx := 133) (r1 := 235) (r2 := 1) (r3 := 11) rfl rfl rfl (of_decide_eq_true rfl) rfl rfl (by decide) rfl rfl (of_decide_eq_true rfl) (of_decide_eq_true rfl) ?_
            have e54 : h37 236 3 = h 236 3 := ((u37 236 3 rfl).trans ((u23 236 3 rfl).trans (u21 236 3 rfl)))
            have rb55 := RefB.fr u37 rfl rb41
            refine ct_235_236_L40 hcr  g37   (show (h37 236 4) ≤ (h37 236 3) by omega) (show 0 ≤ (tk_nx tB tn tp) by omega) (show (tk_nx tB tn tp) ≤ tn by omega) (show (tk_nx tB tn tp) ≤ tk_nx tB tn (tk_nx tB tn tp) ∧ tk_nx tB tn (tk_nx tB tn tp) ≤ tn by omega) (show 1 ≤ (h37 236 8) ∨ ((h37 236 4) = tk_nx tB tn (tk_nx tB tn tp) ∧ (h37 236 5) = tk_st tB tn (tk_nx tB tn tp) ∧ ((tk_kd tB tn (tk_nx tB tn tp) = 0 ∧ (h37 236 6) = 0) ∨ (tk_kd tB tn (tk_nx tB tn tp) = 1 ∧ (h37 236 6) = 1 ∧ (h37 236 12) = tk_sw tB tn (tk_nx tB tn tp)) ∨ (tk_kd tB tn (tk_nx tB tn tp) = 2 ∧ (h37 236 6) = 2 ∧ (h37 236 7) = tk_nb tB tn (tk_nx tB tn tp)) ∨ (tk_kd tB tn (tk_nx tB tn tp) = 3 ∧ (h37 236 6) = 3 ∧ (h37 236 7) = 59) ∨ (tk_kd tB tn (tk_nx tB tn tp) = 4 ∧ (h37 236 6) = 3 ∧ (h37 236 7) = 40) ∨ (tk_kd tB tn (tk_nx tB tn tp) = 5 ∧ (h37 236 6) = 3 ∧ (h37 236 7) = 41) ∨ (tk_kd tB tn (tk_nx tB tn tp) = 6 ∧ (h37 236 6) = 4))) from (Or.inl (by omega))) rb55 (fun h53 g53 u53 (p53_0 : (1 ≤ (h37 236 8) ∧ (h53 236 8) = (h37 236 8) ∧ (h53 236 9) = (h37 236 9)) ∨ ((h37 236 8) = 0 ∧ tk_kd tB tn (tk_nx tB tn tp) = 4 ∧ (h53 236 8) = (h37 236 8) ∧ (h53 236 9) = (h37 236 9) ∧ ((h53 236 4) = tk_nx tB tn (tk_nx tB tn (tk_nx tB tn tp)) ∧ (h53 236 5) = tk_st tB tn (tk_nx tB tn (tk_nx tB tn tp)) ∧ ((tk_kd tB tn (tk_nx tB tn (tk_nx tB tn tp)) = 0 ∧ (h53 236 6) = 0) ∨ (tk_kd tB tn (tk_nx tB tn (tk_nx tB tn tp)) = 1 ∧ (h53 236 6) = 1 ∧ (h53 236 12) = tk_sw tB tn (tk_nx tB tn (tk_nx tB tn tp))) ∨ (tk_kd tB tn (tk_nx tB tn (tk_nx tB tn tp)) = 2 ∧ (h53 236 6) = 2 ∧ (h53 236 7) = tk_nb tB tn (tk_nx tB tn (tk_nx tB tn tp))) ∨ (tk_kd tB tn (tk_nx tB tn (tk_nx tB tn tp)) = 3 ∧ (h53 236 6) = 3 ∧ (h53 236 7) = 59) ∨ (tk_kd tB tn (tk_nx tB tn (tk_nx tB tn tp)) = 4 ∧ (h53 236 6) = 3 ∧ (h53 236 7) = 40) ∨ (tk_kd tB tn (tk_nx tB tn (tk_nx tB tn tp)) = 5 ∧ (h53 236 6) = 3 ∧ (h53 236 7) = 41) ∨ (tk_kd tB tn (tk_nx tB tn (tk_nx tB tn tp)) = 6 ∧ (h53 236 6) = 4)))) ∨ ((h37 236 8) = 0 ∧ tk_kd tB tn (tk_nx tB tn tp) ≠ 4 ∧ (h53 236 8) = 1 ∧ (h53 236 9) = tk_st tB tn (tk_nx tB tn tp))) (p53_1 : (h37 236 4) ≤ (h53 236 4)) (p53_2 : (h53 236 4) ≤ (h37 236 3)) (p53_3 : 1 ≤ (h53 236 8) ∨ (h37 236 8) = 0) (p53_4 : 1 ≤ (h53 236 8) ∨ (h53 236 6) = 0 ∨ (h37 236 4) + 1 ≤ (h53 236 4)) => ?_)
            have F56 := F42.then (by decide +kernel) u53
            have b57 := gi_b (lo := 0) (hi := 5) g53 236 8 rfl
            have b58 := gi_b (lo := -2147483648) (hi := 2147483647) g53 236 9 rfl
            have b59 := gi_b (lo := 0) (hi := 800) g53 236 4 rfl
            have b60 := gi_b (lo := 0) (hi := 800) g53 236 5 rfl
            have b61 := gi_b (lo := 0) (hi := 4) g53 236 6 rfl
            have b62 := gi_b (lo := -9223372036854775808) (hi := 9223372036854775807) g53 236 12 rfl
            have b63 := gi_b (lo := 0) (hi := 999) g53 236 7 rfl
            refine wk_n ?_
            rcases p53_0 with p53_0 | p53_0 | p53_0
            ·
              refine wi_aload_n (i := 0) (x := 236) (nx := 134) (r1 := 0) (r2 := 0) (r3 := 0) rfl rfl ?_
              refine wi_dup (nx := 135) (r1 := 0) (r2 := 0) (r3 := 0) rfl rfl ?_
              refine wr_gi0 (k0 := 236) (x := h 236 44) (nx := 138) (r1 := 11) (r2 := 44) (r3 := 0) rfl rfl (by decide) rfl ⟨rfl, rfl⟩ rfl ((u53 236 44 rfl).trans ((u37 236 44 rfl).trans ((u23 236 44 rfl).trans (u21 236 44 rfl)))) ?_
              refine wi_iconst (n := 1) (nx := 139) (r1 := 0) (r2 := 0) (r3 := 0) rfl ?_
              refine wr_add (nx := 140) (r1 := 0) (r2 := 0) (r3 := 0) rfl (fun e64 (fe64 : e64 = (h 236 44) + 1) => ?_)
              refine wr_pf0 (k0 := 236) (x := e64) (bl := 0) (bh := 2) (nx := 143) (r1 := 11) (r2 := 44) (r3 := 0) rfl (by decide) rfl ⟨rfl, rfl⟩ rfl rfl g53 rfl (by omega) (fun h65 g65 w65 u65 => ?_)
              have F66 := F56.then rfl u65
              refine wi_goto (nx := 146) (r1 := 152) (r2 := 0) (r3 := 0) rfl ?_
              refine wi_return (nx := 153) (r1 := 0) (r2 := 0) (r3 := 0) rfl rfl ?_
              have e67 : h65 236 8 = h53 236 8 := (u65 236 8 rfl)
              have e68 : h65 236 44 = e64 := w65
              have e69 : h65 236 9 = h53 236 9 := (u65 236 9 rfl)
              have e70 : h65 236 4 = h53 236 4 := (u65 236 4 rfl)
              have e71 : h65 236 6 = h53 236 6 := (u65 236 6 rfl)
              have e72 : h65 236 42 = h 236 42 := ((u65 236 42 rfl).trans ((u53 236 42 rfl).trans ((u37 236 42 rfl).trans ((u23 236 42 rfl).trans (u21 236 42 rfl)))))
              have e73 : h65 236 43 = e20 := ((u65 236 43 rfl).trans ((u53 236 43 rfl).trans ((u37 236 43 rfl).trans ((u23 236 43 rfl).trans w21))))
              exact k h65 g65 F66 (show (1 ≤ (h65 236 8)) ∨ ((h65 236 8) = 0 ∧ (h65 236 44) = (h 236 44) + 1) ∨ ((h65 236 8) = 0 ∧ (h65 236 44) = (h 236 44)) by omega) (show (h65 236 8) ≠ 0 ∨ (h65 236 9) = -1 by omega) (show (h 236 4) ≤ (h65 236 4) by omega) (show (h65 236 4) ≤ (h 236 3) by omega) (show 1 ≤ (h65 236 8) ∨ (h65 236 6) = 0 ∨ (h 236 4) + 1 ≤ (h65 236 4) by omega) (show 1 ≤ (h65 236 8) ∨ (h65 236 42) + (h65 236 44) ≤ 2 * (h65 236 43) by omega) (fun e => absurd e (by omega)) (Or.inl ⟨by omega, by unfold sc_cmd sc_hd sc_num sc_mk; (try dsimp only); (repeat (first | rw [if_pos (by omega)] | rw [if_neg (by omega)])); (repeat ((first | unfold sc_num | unfold sc_mk); (try dsimp only); (repeat (first | rw [if_pos (by omega)] | rw [if_neg (by omega)])))); exact sc_inl (by omega) (by omega)⟩)
            ·
              have tk64 := p53_0.2.2.2.2
              have tN65 := @tk_nx_b tB tn (tk_nx tB tn (tk_nx tB tn tp)) (by omega) (by omega)
              exfalso; omega
            ·
              exfalso; omega
        ·
          refine wi_aload_n (i := 0) (x := 236) (nx := 44) (r1 := 0) (r2 := 0) (r3 := 0) rfl rfl ?_
          refine wi_iconst (n := 5) (nx := 45) (r1 := 0) (r2 := 0) (r3 := 0) rfl ?_
          refine wr_V (k0 := 236) (rest := []) (as := [.ref 236, vi 5]) (nx := 48) (r1 := 224) (r2 := 1) (r3 := 11) rfl rfl rfl (of_decide_eq_true rfl) rfl rfl (by decide) rfl rfl (of_decide_eq_true rfl) (of_decide_eq_true rfl) ?_
          refine ct_224_236 hcr  g 5 (by omega)  (fun h18 g18 u18 (p18_0 : 1 ≤ (h18 236 8)) (p18_1 : (1 ≤ (h 236 8) ∧ (h18 236 8) = (h 236 8) ∧ (h18 236 9) = (h 236 9)) ∨ ((h 236 8) = 0 ∧ (h18 236 9) = (h 236 5) ∧ (((h 236 6) = 4 ∧ (h18 236 8) = 1) ∨ ((h 236 6) ≠ 4 ∧ (h18 236 8) = 5)))) => ?_)
          have F19 := F0.then (by decide +kernel) u18
          have b20 := gi_b (lo := 0) (hi := 5) g18 236 8 rfl
          have b21 := gi_b (lo := -2147483648) (hi := 2147483647) g18 236 9 rfl
          refine wk_n ?_
          refine wi_aload_n (i := 0) (x := 236) (nx := 49) (r1 := 0) (r2 := 0) (r3 := 0) rfl rfl ?_
          refine wr_V (k0 := 236) (rest := []) (as := [.ref 236]) (nx := 52) (r1 := 219) (r2 := 0) (r3 := 11) rfl rfl rfl (of_decide_eq_true rfl) rfl rfl (by decide) rfl rfl (of_decide_eq_true rfl) (of_decide_eq_true rfl) ?_
          refine wi_aload_n (i := 0) (x := 236) (nx := 1) (r1 := 0) (r2 := 0) (r3 := 0) rfl rfl ?_
          refine wr_gi0 (k0 := 236) (x := h18 236 8) (nx := 4) (r1 := 11) (r2 := 8) (r3 := 0) rfl rfl (by decide) rfl ⟨rfl, rfl⟩ rfl rfl ?_
          refine wi_if (cd := .ne) (nx := 7) (r1 := 11) (r2 := 0) (r3 := 0) rfl (by omega) (fun (q22 : (h18 236 8) ≠ 0) => ?_) (fun (q22 : ¬ ((h18 236 8) ≠ 0)) => by exfalso; omega)
          refine wi_iconst (n := 0) (nx := 12) (r1 := 0) (r2 := 0) (r3 := 0) rfl ?_
          refine wi_zreturn (nx := 13) (r1 := 0) (r2 := 0) (r3 := 0) rfl rfl (by omega) ?_
          refine wk_i ?_
          refine wi_if (cd := .ne) (nx := 55) (r1 := 56) (r2 := 0) (r3 := 0) rfl (by omega) (fun (q23 : 0 ≠ 0) => by exfalso; omega) (fun (q23 : ¬ (0 ≠ 0)) => ?_)
          refine wi_return (nx := 56) (r1 := 0) (r2 := 0) (r3 := 0) rfl rfl ?_
          have e24 : h18 236 44 = h 236 44 := (u18 236 44 rfl)
          have e25 : h18 236 4 = h 236 4 := (u18 236 4 rfl)
          have e26 : h18 236 6 = h 236 6 := (u18 236 6 rfl)
          have e27 : h18 236 42 = h 236 42 := (u18 236 42 rfl)
          have e28 : h18 236 43 = h 236 43 := (u18 236 43 rfl)
          exact k h18 g18 F19 (show (1 ≤ (h18 236 8)) ∨ ((h18 236 8) = 0 ∧ (h18 236 44) = (h 236 44) + 1) ∨ ((h18 236 8) = 0 ∧ (h18 236 44) = (h 236 44)) by omega) (show (h18 236 8) ≠ 0 ∨ (h18 236 9) = -1 by omega) (show (h 236 4) ≤ (h18 236 4) by omega) (show (h18 236 4) ≤ (h 236 3) by omega) (show 1 ≤ (h18 236 8) ∨ (h18 236 6) = 0 ∨ (h 236 4) + 1 ≤ (h18 236 4) by omega) (show 1 ≤ (h18 236 8) ∨ (h18 236 42) + (h18 236 44) ≤ 2 * (h18 236 43) by omega) (fun e => absurd e (by omega)) (Or.inl ⟨by omega, by unfold sc_cmd sc_hd sc_num sc_mk; (try dsimp only); (repeat (first | rw [if_pos (by omega)] | rw [if_neg (by omega)])); (repeat ((first | unfold sc_num | unfold sc_mk); (try dsimp only); (repeat (first | rw [if_pos (by omega)] | rw [if_neg (by omega)])))); exact sc_inl (by omega) (by omega)⟩)
      ·
        refine wi_aload_n (i := 0) (x := 236) (nx := 30) (r1 := 0) (r2 := 0) (r3 := 0) rfl rfl ?_
        refine wi_iconst (n := 3) (nx := 31) (r1 := 0) (r2 := 0) (r3 := 0) rfl ?_
        refine wr_V (k0 := 236) (rest := []) (as := [.ref 236, vi 3]) (nx := 34) (r1 := 224) (r2 := 1) (r3 := 11) rfl rfl rfl (of_decide_eq_true rfl) rfl rfl (by decide) rfl rfl (of_decide_eq_true rfl) (of_decide_eq_true rfl) ?_
        refine ct_224_236 hcr  g 3 (by omega)  (fun h17 g17 u17 (p17_0 : 1 ≤ (h17 236 8)) (p17_1 : (1 ≤ (h 236 8) ∧ (h17 236 8) = (h 236 8) ∧ (h17 236 9) = (h 236 9)) ∨ ((h 236 8) = 0 ∧ (h17 236 9) = (h 236 5) ∧ (((h 236 6) = 4 ∧ (h17 236 8) = 1) ∨ ((h 236 6) ≠ 4 ∧ (h17 236 8) = 3)))) => ?_)
        have F18 := F0.then (by decide +kernel) u17
        have b19 := gi_b (lo := 0) (hi := 5) g17 236 8 rfl
        have b20 := gi_b (lo := -2147483648) (hi := 2147483647) g17 236 9 rfl
        refine wk_n ?_
        refine wi_aload_n (i := 0) (x := 236) (nx := 35) (r1 := 0) (r2 := 0) (r3 := 0) rfl rfl ?_
        refine wr_gi0 (k0 := 236) (x := h 236 43) (nx := 38) (r1 := 11) (r2 := 43) (r3 := 0) rfl rfl (by decide) rfl ⟨rfl, rfl⟩ rfl (u17 236 43 rfl) ?_
        refine wi_bipush (n := 40) (nx := 40) (r1 := 0) (r2 := 0) (r3 := 0) rfl (by decide) ?_
        refine wi_icmp (cd := .ne) (nx := 43) (r1 := 48) (r2 := 0) (r3 := 0) rfl (by omega) (by omega) (fun (q21 : (h 236 43) ≠ 40) => ?_) (fun (q21 : ¬ ((h 236 43) ≠ 40)) => ?_)
        ·
          refine wi_aload_n (i := 0) (x := 236) (nx := 49) (r1 := 0) (r2 := 0) (r3 := 0) rfl rfl ?_
          refine wr_V (k0 := 236) (rest := []) (as := [.ref 236]) (nx := 52) (r1 := 219) (r2 := 0) (r3 := 11) rfl rfl rfl (of_decide_eq_true rfl) rfl rfl (by decide) rfl rfl (of_decide_eq_true rfl) (of_decide_eq_true rfl) ?_
          refine wi_aload_n (i := 0) (x := 236) (nx := 1) (r1 := 0) (r2 := 0) (r3 := 0) rfl rfl ?_
          refine wr_gi0 (k0 := 236) (x := h17 236 8) (nx := 4) (r1 := 11) (r2 := 8) (r3 := 0) rfl rfl (by decide) rfl ⟨rfl, rfl⟩ rfl rfl ?_
          refine wi_if (cd := .ne) (nx := 7) (r1 := 11) (r2 := 0) (r3 := 0) rfl (by omega) (fun (q22 : (h17 236 8) ≠ 0) => ?_) (fun (q22 : ¬ ((h17 236 8) ≠ 0)) => by exfalso; omega)
          refine wi_iconst (n := 0) (nx := 12) (r1 := 0) (r2 := 0) (r3 := 0) rfl ?_
          refine wi_zreturn (nx := 13) (r1 := 0) (r2 := 0) (r3 := 0) rfl rfl (by omega) ?_
          refine wk_i ?_
          refine wi_if (cd := .ne) (nx := 55) (r1 := 56) (r2 := 0) (r3 := 0) rfl (by omega) (fun (q23 : 0 ≠ 0) => by exfalso; omega) (fun (q23 : ¬ (0 ≠ 0)) => ?_)
          refine wi_return (nx := 56) (r1 := 0) (r2 := 0) (r3 := 0) rfl rfl ?_
          have e24 : h17 236 44 = h 236 44 := (u17 236 44 rfl)
          have e25 : h17 236 4 = h 236 4 := (u17 236 4 rfl)
          have e26 : h17 236 6 = h 236 6 := (u17 236 6 rfl)
          have e27 : h17 236 42 = h 236 42 := (u17 236 42 rfl)
          have e28 : h17 236 43 = h 236 43 := (u17 236 43 rfl)
          exact k h17 g17 F18 (show (1 ≤ (h17 236 8)) ∨ ((h17 236 8) = 0 ∧ (h17 236 44) = (h 236 44) + 1) ∨ ((h17 236 8) = 0 ∧ (h17 236 44) = (h 236 44)) by omega) (show (h17 236 8) ≠ 0 ∨ (h17 236 9) = -1 by omega) (show (h 236 4) ≤ (h17 236 4) by omega) (show (h17 236 4) ≤ (h 236 3) by omega) (show 1 ≤ (h17 236 8) ∨ (h17 236 6) = 0 ∨ (h 236 4) + 1 ≤ (h17 236 4) by omega) (show 1 ≤ (h17 236 8) ∨ (h17 236 42) + (h17 236 44) ≤ 2 * (h17 236 43) by omega) (fun e => absurd e (by omega)) (Or.inl ⟨by omega, by unfold sc_cmd sc_hd sc_num sc_mk; (try dsimp only); (repeat (first | rw [if_pos (by omega)] | rw [if_neg (by omega)])); (repeat ((first | unfold sc_num | unfold sc_mk); (try dsimp only); (repeat (first | rw [if_pos (by omega)] | rw [if_neg (by omega)])))); exact sc_inl (by omega) (by omega)⟩)
        ·
          refine wi_aload_n (i := 0) (x := 236) (nx := 44) (r1 := 0) (r2 := 0) (r3 := 0) rfl rfl ?_
          refine wi_iconst (n := 5) (nx := 45) (r1 := 0) (r2 := 0) (r3 := 0) rfl ?_
          refine wr_V (k0 := 236) (rest := []) (as := [.ref 236, vi 5]) (nx := 48) (r1 := 224) (r2 := 1) (r3 := 11) rfl rfl rfl (of_decide_eq_true rfl) rfl rfl (by decide) rfl rfl (of_decide_eq_true rfl) (of_decide_eq_true rfl) ?_
          refine ct_224_236 hcr  g17 5 (by omega)  (fun h22 g22 u22 (p22_0 : 1 ≤ (h22 236 8)) (p22_1 : (1 ≤ (h17 236 8) ∧ (h22 236 8) = (h17 236 8) ∧ (h22 236 9) = (h17 236 9)) ∨ ((h17 236 8) = 0 ∧ (h22 236 9) = (h17 236 5) ∧ (((h17 236 6) = 4 ∧ (h22 236 8) = 1) ∨ ((h17 236 6) ≠ 4 ∧ (h22 236 8) = 5)))) => ?_)
          have F23 := F18.then (by decide +kernel) u22
          have b24 := gi_b (lo := 0) (hi := 5) g22 236 8 rfl
          have e25 : h17 236 5 = h 236 5 := (u17 236 5 rfl)
          have e26 : h17 236 6 = h 236 6 := (u17 236 6 rfl)
          have b27 := gi_b (lo := -2147483648) (hi := 2147483647) g22 236 9 rfl
          refine wk_n ?_
          refine wi_aload_n (i := 0) (x := 236) (nx := 49) (r1 := 0) (r2 := 0) (r3 := 0) rfl rfl ?_
          refine wr_V (k0 := 236) (rest := []) (as := [.ref 236]) (nx := 52) (r1 := 219) (r2 := 0) (r3 := 11) rfl rfl rfl (of_decide_eq_true rfl) rfl rfl (by decide) rfl rfl (of_decide_eq_true rfl) (of_decide_eq_true rfl) ?_
          refine wi_aload_n (i := 0) (x := 236) (nx := 1) (r1 := 0) (r2 := 0) (r3 := 0) rfl rfl ?_
          refine wr_gi0 (k0 := 236) (x := h22 236 8) (nx := 4) (r1 := 11) (r2 := 8) (r3 := 0) rfl rfl (by decide) rfl ⟨rfl, rfl⟩ rfl rfl ?_
          refine wi_if (cd := .ne) (nx := 7) (r1 := 11) (r2 := 0) (r3 := 0) rfl (by omega) (fun (q28 : (h22 236 8) ≠ 0) => ?_) (fun (q28 : ¬ ((h22 236 8) ≠ 0)) => by exfalso; omega)
          refine wi_iconst (n := 0) (nx := 12) (r1 := 0) (r2 := 0) (r3 := 0) rfl ?_
          refine wi_zreturn (nx := 13) (r1 := 0) (r2 := 0) (r3 := 0) rfl rfl (by omega) ?_
          refine wk_i ?_
          refine wi_if (cd := .ne) (nx := 55) (r1 := 56) (r2 := 0) (r3 := 0) rfl (by omega) (fun (q29 : 0 ≠ 0) => by exfalso; omega) (fun (q29 : ¬ (0 ≠ 0)) => ?_)
          refine wi_return (nx := 56) (r1 := 0) (r2 := 0) (r3 := 0) rfl rfl ?_
          have e30 : h22 236 44 = h 236 44 := ((u22 236 44 rfl).trans (u17 236 44 rfl))
          have e31 : h22 236 4 = h 236 4 := ((u22 236 4 rfl).trans (u17 236 4 rfl))
          have e32 : h22 236 6 = h 236 6 := ((u22 236 6 rfl).trans (u17 236 6 rfl))
          have e33 : h22 236 42 = h 236 42 := ((u22 236 42 rfl).trans (u17 236 42 rfl))
          have e34 : h22 236 43 = h 236 43 := ((u22 236 43 rfl).trans (u17 236 43 rfl))
          exact k h22 g22 F23 (show (1 ≤ (h22 236 8)) ∨ ((h22 236 8) = 0 ∧ (h22 236 44) = (h 236 44) + 1) ∨ ((h22 236 8) = 0 ∧ (h22 236 44) = (h 236 44)) by omega) (show (h22 236 8) ≠ 0 ∨ (h22 236 9) = -1 by omega) (show (h 236 4) ≤ (h22 236 4) by omega) (show (h22 236 4) ≤ (h 236 3) by omega) (show 1 ≤ (h22 236 8) ∨ (h22 236 6) = 0 ∨ (h 236 4) + 1 ≤ (h22 236 4) by omega) (show 1 ≤ (h22 236 8) ∨ (h22 236 42) + (h22 236 44) ≤ 2 * (h22 236 43) by omega) (fun e => absurd e (by omega)) (Or.inl ⟨by omega, by unfold sc_cmd sc_hd sc_num sc_mk; (try dsimp only); (repeat (first | rw [if_pos (by omega)] | rw [if_neg (by omega)])); (repeat ((first | unfold sc_num | unfold sc_mk); (try dsimp only); (repeat (first | rw [if_pos (by omega)] | rw [if_neg (by omega)])))); exact sc_inl (by omega) (by omega)⟩)
  ·
    refine wi_aload_n (i := 0) (x := 236) (nx := 11) (r1 := 0) (r2 := 0) (r3 := 0) rfl rfl ?_
    refine wi_iconst (n := 1) (nx := 12) (r1 := 0) (r2 := 0) (r3 := 0) rfl ?_
    refine wr_V (k0 := 236) (rest := []) (as := [.ref 236, vi 1]) (nx := 15) (r1 := 224) (r2 := 1) (r3 := 11) rfl rfl rfl (of_decide_eq_true rfl) rfl rfl (by decide) rfl rfl (of_decide_eq_true rfl) (of_decide_eq_true rfl) ?_
    refine ct_224_236 hcr  g 1 (by omega)  (fun h15 g15 u15 (p15_0 : 1 ≤ (h15 236 8)) (p15_1 : (1 ≤ (h 236 8) ∧ (h15 236 8) = (h 236 8) ∧ (h15 236 9) = (h 236 9)) ∨ ((h 236 8) = 0 ∧ (h15 236 9) = (h 236 5) ∧ (((h 236 6) = 4 ∧ (h15 236 8) = 1) ∨ ((h 236 6) ≠ 4 ∧ (h15 236 8) = 1)))) => ?_)
    have F16 := F0.then (by decide +kernel) u15
    have b17 := gi_b (lo := 0) (hi := 5) g15 236 8 rfl
    have b18 := gi_b (lo := -2147483648) (hi := 2147483647) g15 236 9 rfl
    refine wk_n ?_
    refine wi_iload_n (i := 1) (e := z13) (nx := 16) (r1 := 0) (r2 := 0) (r3 := 0) rfl rfl ?_
    refine wi_bipush (n := 7) (nx := 18) (r1 := 0) (r2 := 0) (r3 := 0) rfl (by decide) ?_
    refine wi_icmp (cd := .ne) (nx := 21) (r1 := 34) (r2 := 0) (r3 := 0) rfl (by omega) (by omega) (fun (q19 : z13 ≠ 7) => ?_) (fun (q19 : ¬ (z13 ≠ 7)) => by exfalso; omega)
    refine wi_aload_n (i := 0) (x := 236) (nx := 35) (r1 := 0) (r2 := 0) (r3 := 0) rfl rfl ?_
    refine wr_gi0 (k0 := 236) (x := h 236 43) (nx := 38) (r1 := 11) (r2 := 43) (r3 := 0) rfl rfl (by decide) rfl ⟨rfl, rfl⟩ rfl (u15 236 43 rfl) ?_
    refine wi_bipush (n := 40) (nx := 40) (r1 := 0) (r2 := 0) (r3 := 0) rfl (by decide) ?_
    refine wi_icmp (cd := .ne) (nx := 43) (r1 := 48) (r2 := 0) (r3 := 0) rfl (by omega) (by omega) (fun (q20 : (h 236 43) ≠ 40) => ?_) (fun (q20 : ¬ ((h 236 43) ≠ 40)) => ?_)
    ·
      refine wi_aload_n (i := 0) (x := 236) (nx := 49) (r1 := 0) (r2 := 0) (r3 := 0) rfl rfl ?_
      refine wr_V (k0 := 236) (rest := []) (as := [.ref 236]) (nx := 52) (r1 := 219) (r2 := 0) (r3 := 11) rfl rfl rfl (of_decide_eq_true rfl) rfl rfl (by decide) rfl rfl (of_decide_eq_true rfl) (of_decide_eq_true rfl) ?_
      refine wi_aload_n (i := 0) (x := 236) (nx := 1) (r1 := 0) (r2 := 0) (r3 := 0) rfl rfl ?_
      refine wr_gi0 (k0 := 236) (x := h15 236 8) (nx := 4) (r1 := 11) (r2 := 8) (r3 := 0) rfl rfl (by decide) rfl ⟨rfl, rfl⟩ rfl rfl ?_
      refine wi_if (cd := .ne) (nx := 7) (r1 := 11) (r2 := 0) (r3 := 0) rfl (by omega) (fun (q21 : (h15 236 8) ≠ 0) => ?_) (fun (q21 : ¬ ((h15 236 8) ≠ 0)) => by exfalso; omega)
      refine wi_iconst (n := 0) (nx := 12) (r1 := 0) (r2 := 0) (r3 := 0) rfl ?_
      refine wi_zreturn (nx := 13) (r1 := 0) (r2 := 0) (r3 := 0) rfl rfl (by omega) ?_
      refine wk_i ?_
      refine wi_if (cd := .ne) (nx := 55) (r1 := 56) (r2 := 0) (r3 := 0) rfl (by omega) (fun (q22 : 0 ≠ 0) => by exfalso; omega) (fun (q22 : ¬ (0 ≠ 0)) => ?_)
      refine wi_return (nx := 56) (r1 := 0) (r2 := 0) (r3 := 0) rfl rfl ?_
      have e23 : h15 236 44 = h 236 44 := (u15 236 44 rfl)
      have e24 : h15 236 4 = h 236 4 := (u15 236 4 rfl)
      have e25 : h15 236 6 = h 236 6 := (u15 236 6 rfl)
      have e26 : h15 236 42 = h 236 42 := (u15 236 42 rfl)
      have e27 : h15 236 43 = h 236 43 := (u15 236 43 rfl)
      exact k h15 g15 F16 (show (1 ≤ (h15 236 8)) ∨ ((h15 236 8) = 0 ∧ (h15 236 44) = (h 236 44) + 1) ∨ ((h15 236 8) = 0 ∧ (h15 236 44) = (h 236 44)) by omega) (show (h15 236 8) ≠ 0 ∨ (h15 236 9) = -1 by omega) (show (h 236 4) ≤ (h15 236 4) by omega) (show (h15 236 4) ≤ (h 236 3) by omega) (show 1 ≤ (h15 236 8) ∨ (h15 236 6) = 0 ∨ (h 236 4) + 1 ≤ (h15 236 4) by omega) (show 1 ≤ (h15 236 8) ∨ (h15 236 42) + (h15 236 44) ≤ 2 * (h15 236 43) by omega) (fun e => absurd e (by omega)) (Or.inl ⟨by omega, by unfold sc_cmd sc_hd sc_num sc_mk; (try dsimp only); (repeat (first | rw [if_pos (by omega)] | rw [if_neg (by omega)])); (repeat ((first | unfold sc_num | unfold sc_mk); (try dsimp only); (repeat (first | rw [if_pos (by omega)] | rw [if_neg (by omega)])))); exact sc_inl (by omega) (by omega)⟩)
    ·
      refine wi_aload_n (i := 0) (x := 236) (nx := 44) (r1 := 0) (r2 := 0) (r3 := 0) rfl rfl ?_
      refine wi_iconst (n := 5) (nx := 45) (r1 := 0) (r2 := 0) (r3 := 0) rfl ?_
      refine wr_V (k0 := 236) (rest := []) (as := [.ref 236, vi 5]) (nx := 48) (r1 := 224) (r2 := 1) (r3 := 11) rfl rfl rfl (of_decide_eq_true rfl) rfl rfl (by decide) rfl rfl (of_decide_eq_true rfl) (of_decide_eq_true rfl) ?_
      refine ct_224_236 hcr  g15 5 (by omega)  (fun h21 g21 u21 (p21_0 : 1 ≤ (h21 236 8)) (p21_1 : (1 ≤ (h15 236 8) ∧ (h21 236 8) = (h15 236 8) ∧ (h21 236 9) = (h15 236 9)) ∨ ((h15 236 8) = 0 ∧ (h21 236 9) = (h15 236 5) ∧ (((h15 236 6) = 4 ∧ (h21 236 8) = 1) ∨ ((h15 236 6) ≠ 4 ∧ (h21 236 8) = 5)))) => ?_)
      have F22 := F16.then (by decide +kernel) u21
      have b23 := gi_b (lo := 0) (hi := 5) g21 236 8 rfl
      have e24 : h15 236 5 = h 236 5 := (u15 236 5 rfl)
      have e25 : h15 236 6 = h 236 6 := (u15 236 6 rfl)
      have b26 := gi_b (lo := -2147483648) (hi := 2147483647) g21 236 9 rfl
      refine wk_n ?_
      refine wi_aload_n (i := 0) (x := 236) (nx := 49) (r1 := 0) (r2 := 0) (r3 := 0) rfl rfl ?_
      refine wr_V (k0 := 236) (rest := []) (as := [.ref 236]) (nx := 52) (r1 := 219) (r2 := 0) (r3 := 11) rfl rfl rfl (of_decide_eq_true rfl) rfl rfl (by decide) rfl rfl (of_decide_eq_true rfl) (of_decide_eq_true rfl) ?_
      refine wi_aload_n (i := 0) (x := 236) (nx := 1) (r1 := 0) (r2 := 0) (r3 := 0) rfl rfl ?_
      refine wr_gi0 (k0 := 236) (x := h21 236 8) (nx := 4) (r1 := 11) (r2 := 8) (r3 := 0) rfl rfl (by decide) rfl ⟨rfl, rfl⟩ rfl rfl ?_
      refine wi_if (cd := .ne) (nx := 7) (r1 := 11) (r2 := 0) (r3 := 0) rfl (by omega) (fun (q27 : (h21 236 8) ≠ 0) => ?_) (fun (q27 : ¬ ((h21 236 8) ≠ 0)) => by exfalso; omega)
      refine wi_iconst (n := 0) (nx := 12) (r1 := 0) (r2 := 0) (r3 := 0) rfl ?_
      refine wi_zreturn (nx := 13) (r1 := 0) (r2 := 0) (r3 := 0) rfl rfl (by omega) ?_
      refine wk_i ?_
      refine wi_if (cd := .ne) (nx := 55) (r1 := 56) (r2 := 0) (r3 := 0) rfl (by omega) (fun (q28 : 0 ≠ 0) => by exfalso; omega) (fun (q28 : ¬ (0 ≠ 0)) => ?_)
      refine wi_return (nx := 56) (r1 := 0) (r2 := 0) (r3 := 0) rfl rfl ?_
      have e29 : h21 236 44 = h 236 44 := ((u21 236 44 rfl).trans (u15 236 44 rfl))
      have e30 : h21 236 4 = h 236 4 := ((u21 236 4 rfl).trans (u15 236 4 rfl))
      have e31 : h21 236 6 = h 236 6 := ((u21 236 6 rfl).trans (u15 236 6 rfl))
      have e32 : h21 236 42 = h 236 42 := ((u21 236 42 rfl).trans (u15 236 42 rfl))
      have e33 : h21 236 43 = h 236 43 := ((u21 236 43 rfl).trans (u15 236 43 rfl))
      exact k h21 g21 F22 (show (1 ≤ (h21 236 8)) ∨ ((h21 236 8) = 0 ∧ (h21 236 44) = (h 236 44) + 1) ∨ ((h21 236 8) = 0 ∧ (h21 236 44) = (h 236 44)) by omega) (show (h21 236 8) ≠ 0 ∨ (h21 236 9) = -1 by omega) (show (h 236 4) ≤ (h21 236 4) by omega) (show (h21 236 4) ≤ (h 236 3) by omega) (show 1 ≤ (h21 236 8) ∨ (h21 236 6) = 0 ∨ (h 236 4) + 1 ≤ (h21 236 4) by omega) (show 1 ≤ (h21 236 8) ∨ (h21 236 42) + (h21 236 44) ≤ 2 * (h21 236 43) by omega) (fun e => absurd e (by omega)) (Or.inl ⟨by omega, by unfold sc_cmd sc_hd sc_num sc_mk; (try dsimp only); (repeat (first | rw [if_pos (by omega)] | rw [if_neg (by omega)])); (repeat ((first | unfold sc_num | unfold sc_mk); (try dsimp only); (repeat (first | rw [if_pos (by omega)] | rw [if_neg (by omega)])))); exact sc_inl (by omega) (by omega)⟩)
-- method 338: Model.closes()V
set_option maxRecDepth 100000 in
set_option maxHeartbeats 100000000 in
theorem ct_338_236 {L : Nat} {xs : Nat → Int32} {d b c : Nat} {h : hp} {cr : Nat → Nat → Option Nat} {Q : hp_Q} (hcr : CR cr)  {tB : Nat → Int} {tn  : Int} (g : GI h)   (pp0 : h 236 4 ≤ h 236 3) (pp1 : 1 ≤ h 236 8 ∨ h 236 42 + h 236 44 ≤ 2 * h 236 43) (xq0 : h 236 8 = 0 → WP (h 253) (h 236 42) (h 236 44)) (xq1 : RefB tB tn h) (xq2 : SCI tB tn h) (k : ∀ (h2 : hp) , GI h2 → FR [(253, 253, none), (254, 254, none), (236, 236, some (4, 4)), (236, 236, some (5, 5)), (236, 236, some (6, 6)), (236, 236, some (7, 7)), (236, 236, some (8, 8)), (236, 236, some (9, 9)), (236, 236, some (12, 12)), (236, 236, some (42, 42)), (236, 236, some (44, 44))] h h2 → (h 236 4 ≤ h2 236 4) → (h2 236 4 ≤ h 236 3) → (1 ≤ h2 236 8 ∨ h 236 8 = 0) → (h 236 6 ≠ 0 ∨ h2 236 6 = 0) → (1 ≤ h2 236 8 ∨ h2 236 42 + h2 236 44 ≤ 2 * h2 236 43) → (h2 236 8 = 0 → WP (h2 253) (h2 236 42) (h2 236 44)) → (SCI tB tn h2) → Q (.inl none) (hp_w h2 cr) b c) : wp (md_xa (L, xs)) (d + 3) 338 (0, [(0, .ref 236)], [], hp_w h cr, b, c) Q := by
  have F0 : FR [(253, 253, none), (254, 254, none), (236, 236, some (4, 4)), (236, 236, some (5, 5)), (236, 236, some (6, 6)), (236, 236, some (7, 7)), (236, 236, some (8, 8)), (236, 236, some (9, 9)), (236, 236, some (12, 12)), (236, 236, some (42, 42)), (236, 236, some (44, 44))] h h := FR.refl
  have tb_1 : h 236 3 = tn := xq1.2.1
  have tb_2 : 0 ≤ tn ∧ tn ≤ 800 := xq1.2.2
  have b1 := gi_b (lo := 0) (hi := 800) g 236 4 rfl
  have b2 := gi_b (lo := 0) (hi := 800) g 236 3 rfl
  have b3 := gi_b (lo := 0) (hi := 5) g 236 8 rfl
  have b4 := gi_b (lo := 0) (hi := 80) g 236 42 rfl
  have b5 := gi_b (lo := 0) (hi := 2) g 236 44 rfl
  have b6 := gi_b (lo := 0) (hi := 40) g 236 43 rfl
  have b8 := gi_b (lo := 0) (hi := 4) g 236 6 rfl
  refine wl_0 (fun h7 => GI h7 ∧ FR [(253, 253, none), (254, 254, none), (236, 236, some (4, 4)), (236, 236, some (5, 5)), (236, 236, some (6, 6)), (236, 236, some (7, 7)), (236, 236, some (8, 8)), (236, 236, some (9, 9)), (236, 236, some (12, 12)), (236, 236, some (42, 42)), (236, 236, some (44, 44))] h h7 ∧ FR [(253, 253, none), (254, 254, none), (236, 236, some (4, 4)), (236, 236, some (5, 5)), (236, 236, some (6, 6)), (236, 236, some (7, 7)), (236, 236, some (8, 8)), (236, 236, some (9, 9)), (236, 236, some (12, 12)), (236, 236, some (42, 42)), (236, 236, some (44, 44))] h h7 ∧ (((h7 236 4) ≤ (h7 236 3)) ∧ ((h 236 8) = 0 ∨ 1 ≤ (h7 236 8)) ∧ ((h 236 6) ≠ 0 ∨ (h7 236 6) = 0) ∧ ((h 236 4) ≤ (h7 236 4)) ∧ (1 ≤ (h7 236 8) ∨ (h7 236 42) + (h7 236 44) ≤ 2 * (h7 236 43))) ∧ (h7 236 8 = 0 → WP (h7 253) (h7 236 42) (h7 236 44)) ∧ SCI tB tn h7) (fun h7 => ((h7 236 44)).toNat) (fun h7 => (0, [(0, .ref 236)], [], hp_w h7 cr, b, c)) ?_ h ⟨g, F0, FR.refl, (show ((h 236 4) ≤ (h 236 3)) ∧ ((h 236 8) = 0 ∨ 1 ≤ (h 236 8)) ∧ ((h 236 6) ≠ 0 ∨ (h 236 6) = 0) ∧ ((h 236 4) ≤ (h 236 4)) ∧ (1 ≤ (h 236 8) ∨ (h 236 42) + (h 236 44) ≤ 2 * (h 236 43)) by omega), xq0, xq2⟩
  intro h7 ⟨g7, F9, u7, f7, X7_0, X7_1⟩ I7
  have b10 := gi_b (lo := 0) (hi := 2) g7 236 44 rfl
  have b11 := gi_b (lo := 0) (hi := 800) g7 236 4 rfl
  have e12 : h7 236 3 = h 236 3 := (u7 236 3 rfl)
  have b13 := gi_b (lo := 0) (hi := 5) g7 236 8 rfl
  have b14 := gi_b (lo := 0) (hi := 4) g7 236 6 rfl
  have b15 := gi_b (lo := 0) (hi := 80) g7 236 42 rfl
  have e16 : h7 236 43 = h 236 43 := (u7 236 43 rfl)
  refine wi_aload_n (i := 0) (x := 236) (nx := 1) (r1 := 0) (r2 := 0) (r3 := 0) rfl rfl ?_
  refine wr_gi0 (k0 := 236) (x := h7 236 44) (nx := 4) (r1 := 11) (r2 := 44) (r3 := 0) rfl rfl (by decide) rfl ⟨rfl, rfl⟩ rfl rfl ?_
  refine wi_if (cd := .le) (nx := 7) (r1 := 46) (r2 := 0) (r3 := 0) rfl (by omega) (fun (q17 : (h7 236 44) ≤ 0) => ?_) (fun (q17 : ¬ ((h7 236 44) ≤ 0)) => ?_)
  ·
    refine wi_return (nx := 47) (r1 := 0) (r2 := 0) (r3 := 0) rfl rfl ?_
    have q18 : h7 253 = h7 253 := funext (fun i => rfl)
    exact k h7 g7 F9 (show (h 236 4) ≤ (h7 236 4) by omega) (show (h7 236 4) ≤ (h 236 3) by omega) (show 1 ≤ (h7 236 8) ∨ (h 236 8) = 0 by omega) (show (h 236 6) ≠ 0 ∨ (h7 236 6) = 0 by omega) (show 1 ≤ (h7 236 8) ∨ (h7 236 42) + (h7 236 44) ≤ 2 * (h7 236 43) by omega) (fun e => by rw [q18, show h7 236 42 = h7 236 42 by omega, show h7 236 44 = h7 236 44 by omega]; exact X7_0 (by omega)) X7_1
  ·
    refine wi_aload_n (i := 0) (x := 236) (nx := 8) (r1 := 0) (r2 := 0) (r3 := 0) rfl rfl ?_
    refine wi_bipush (n := 41) (nx := 10) (r1 := 0) (r2 := 0) (r3 := 0) rfl (by decide) ?_
    refine wr_V (k0 := 236) (rest := []) (as := [.ref 236, vi 41]) (nx := 13) (r1 := 236) (r2 := 1) (r3 := 11) rfl rfl rfl (of_decide_eq_true rfl) rfl rfl (by decide) rfl rfl (of_decide_eq_true rfl) (of_decide_eq_true rfl) ?_
    refine wi_aload_n (i := 0) (x := 236) (nx := 1) (r1 := 0) (r2 := 0) (r3 := 0) rfl rfl ?_
    refine wr_gi0 (k0 := 236) (x := h7 236 8) (nx := 4) (r1 := 11) (r2 := 8) (r3 := 0) rfl rfl (by decide) rfl ⟨rfl, rfl⟩ rfl rfl ?_
    refine wi_if (cd := .ne) (nx := 7) (r1 := 27) (r2 := 0) (r3 := 0) rfl (by omega) (fun (q18 : (h7 236 8) ≠ 0) => ?_) (fun (q18 : ¬ ((h7 236 8) ≠ 0)) => ?_)
    ·
      refine wi_iconst (n := 0) (nx := 28) (r1 := 0) (r2 := 0) (r3 := 0) rfl ?_
      refine wi_zreturn (nx := 29) (r1 := 0) (r2 := 0) (r3 := 0) rfl rfl (by omega) ?_
      refine wk_i ?_
      refine wi_if (cd := .eq) (nx := 16) (r1 := 46) (r2 := 0) (r3 := 0) rfl (by omega) (fun (q19 : 0 = 0) => ?_) (fun (q19 : ¬ (0 = 0)) => by exfalso; omega)
      refine wi_return (nx := 47) (r1 := 0) (r2 := 0) (r3 := 0) rfl rfl ?_
      have q20 : h7 253 = h7 253 := funext (fun i => rfl)
      exact k h7 g7 F9 (show (h 236 4) ≤ (h7 236 4) by omega) (show (h7 236 4) ≤ (h 236 3) by omega) (show 1 ≤ (h7 236 8) ∨ (h 236 8) = 0 by omega) (show (h 236 6) ≠ 0 ∨ (h7 236 6) = 0 by omega) (show 1 ≤ (h7 236 8) ∨ (h7 236 42) + (h7 236 44) ≤ 2 * (h7 236 43) by omega) (fun e => by rw [q20, show h7 236 42 = h7 236 42 by omega, show h7 236 44 = h7 236 44 by omega]; exact X7_0 (by omega)) X7_1
    ·
      refine wi_aload_n (i := 0) (x := 236) (nx := 8) (r1 := 0) (r2 := 0) (r3 := 0) rfl rfl ?_
      refine wr_gi0 (k0 := 236) (x := h7 236 6) (nx := 11) (r1 := 11) (r2 := 6) (r3 := 0) rfl rfl (by decide) rfl ⟨rfl, rfl⟩ rfl rfl ?_
      refine wi_iconst (n := 3) (nx := 12) (r1 := 0) (r2 := 0) (r3 := 0) rfl ?_
      refine wi_icmp (cd := .ne) (nx := 15) (r1 := 27) (r2 := 0) (r3 := 0) rfl (by omega) (by omega) (fun (q19 : (h7 236 6) ≠ 3) => ?_) (fun (q19 : ¬ ((h7 236 6) ≠ 3)) => ?_)
      ·
        refine wi_iconst (n := 0) (nx := 28) (r1 := 0) (r2 := 0) (r3 := 0) rfl ?_
        refine wi_zreturn (nx := 29) (r1 := 0) (r2 := 0) (r3 := 0) rfl rfl (by omega) ?_
        refine wk_i ?_
        refine wi_if (cd := .eq) (nx := 16) (r1 := 46) (r2 := 0) (r3 := 0) rfl (by omega) (fun (q20 : 0 = 0) => ?_) (fun (q20 : ¬ (0 = 0)) => by exfalso; omega)
        refine wi_return (nx := 47) (r1 := 0) (r2 := 0) (r3 := 0) rfl rfl ?_
        have q21 : h7 253 = h7 253 := funext (fun i => rfl)
        exact k h7 g7 F9 (show (h 236 4) ≤ (h7 236 4) by omega) (show (h7 236 4) ≤ (h 236 3) by omega) (show 1 ≤ (h7 236 8) ∨ (h 236 8) = 0 by omega) (show (h 236 6) ≠ 0 ∨ (h7 236 6) = 0 by omega) (show 1 ≤ (h7 236 8) ∨ (h7 236 42) + (h7 236 44) ≤ 2 * (h7 236 43) by omega) (fun e => by rw [q21, show h7 236 42 = h7 236 42 by omega, show h7 236 44 = h7 236 44 by omega]; exact X7_0 (by omega)) X7_1
      ·
        refine wi_aload_n (i := 0) (x := 236) (nx := 16) (r1 := 0) (r2 := 0) (r3 := 0) rfl rfl ?_
        have b20 := gi_b (lo := 0) (hi := 999) g7 236 7 rfl
        refine wr_gi0 (k0 := 236) (x := h7 236 7) (nx := 19) (r1 := 11) (r2 := 7) (r3 := 0) rfl rfl (by decide) rfl ⟨rfl, rfl⟩ rfl rfl ?_
        refine wi_iload_n (i := 1) (e := 41) (nx := 20) (r1 := 0) (r2 := 0) (r3 := 0) rfl rfl ?_
        refine wi_icmp (cd := .ne) (nx := 23) (r1 := 27) (r2 := 0) (r3 := 0) rfl (by omega) (by omega) (fun (q21 : (h7 236 7) ≠ 41) => ?_) (fun (q21 : ¬ ((h7 236 7) ≠ 41)) => ?_)
        ·
          refine wi_iconst (n := 0) (nx := 28) (r1 := 0) (r2 := 0) (r3 := 0) rfl ?_
          refine wi_zreturn (nx := 29) (r1 := 0) (r2 := 0) (r3 := 0) rfl rfl (by omega) ?_
          refine wk_i ?_
          refine wi_if (cd := .eq) (nx := 16) (r1 := 46) (r2 := 0) (r3 := 0) rfl (by omega) (fun (q22 : 0 = 0) => ?_) (fun (q22 : ¬ (0 = 0)) => by exfalso; omega)
          refine wi_return (nx := 47) (r1 := 0) (r2 := 0) (r3 := 0) rfl rfl ?_
          have q23 : h7 253 = h7 253 := funext (fun i => rfl)
          exact k h7 g7 F9 (show (h 236 4) ≤ (h7 236 4) by omega) (show (h7 236 4) ≤ (h 236 3) by omega) (show 1 ≤ (h7 236 8) ∨ (h 236 8) = 0 by omega) (show (h 236 6) ≠ 0 ∨ (h7 236 6) = 0 by omega) (show 1 ≤ (h7 236 8) ∨ (h7 236 42) + (h7 236 44) ≤ 2 * (h7 236 43) by omega) (fun e => by rw [q23, show h7 236 42 = h7 236 42 by omega, show h7 236 44 = h7 236 44 by omega]; exact X7_0 (by omega)) X7_1
        ·
          refine wi_iconst (n := 1) (nx := 24) (r1 := 0) (r2 := 0) (r3 := 0) rfl ?_
          refine wi_goto (nx := 27) (r1 := 28) (r2 := 0) (r3 := 0) rfl ?_
          refine wi_zreturn (nx := 29) (r1 := 0) (r2 := 0) (r3 := 0) rfl rfl (by omega) ?_
          refine wk_i ?_
          refine wi_if (cd := .eq) (nx := 16) (r1 := 46) (r2 := 0) (r3 := 0) rfl (by omega) (fun (q22 : 1 = 0) => by exfalso; omega) (fun (q22 : ¬ (1 = 0)) => ?_)
          have b23 := gi_b (lo := 0) (hi := 800) g7 236 5 rfl
          have b24 := gi_b (lo := -9223372036854775808) (hi := 9223372036854775807) g7 236 12 rfl
          have b25 := gi_b (lo := -2147483648) (hi := 2147483647) g7 236 9 rfl
          obtain ⟨e9s26, ks26, ps26, pas26, pbs26, pcs26, tks26, frs26⟩ := SCI.go X7_1 (by omega) (by omega)
          obtain ⟨tas26, tbs26, tcs26⟩ := id tks26
          have tN27 := @tk_nx_b tB tn ps26 (by omega) (by omega)
          refine wi_aload_n (i := 0) (x := 236) (nx := 17) (r1 := 0) (r2 := 0) (r3 := 0) rfl rfl ?_
          refine wi_dup (nx := 18) (r1 := 0) (r2 := 0) (r3 := 0) rfl rfl ?_
          refine wr_gi0 (k0 := 236) (x := h7 236 44) (nx := 21) (r1 := 11) (r2 := 44) (r3 := 0) rfl rfl (by decide) rfl ⟨rfl, rfl⟩ rfl rfl ?_
          refine wi_iconst (n := 1) (nx := 22) (r1 := 0) (r2 := 0) (r3 := 0) rfl ?_
          refine wr_sub (nx := 23) (r1 := 0) (r2 := 0) (r3 := 0) rfl (fun e28 (fe28 : e28 = (h7 236 44) - 1) => ?_)
          refine wr_pf0 (k0 := 236) (x := e28) (bl := 0) (bh := 2) (nx := 26) (r1 := 11) (r2 := 44) (r3 := 0) rfl (by decide) rfl ⟨rfl, rfl⟩ rfl rfl g7 rfl (by omega) (fun h29 g29 w29 u29 => ?_)
          have F30 := F9.then rfl u29
          have F31 := u7.then rfl u29
          refine wi_aload_n (i := 0) (x := 236) (nx := 27) (r1 := 0) (r2 := 0) (r3 := 0) rfl rfl ?_
          refine wi_bipush (n := 8) (nx := 29) (r1 := 0) (r2 := 0) (r3 := 0) rfl (by decide) ?_
          refine wi_iconst (n := 0) (nx := 30) (r1 := 0) (r2 := 0) (r3 := 0) rfl ?_
          refine wr_V (k0 := 236) (rest := []) (as := [.ref 236, vi 8, vi 0]) (nx := 33) (r1 := 337) (r2 := 2) (r3 := 11) rfl rfl rfl (of_decide_eq_true rfl) rfl rfl (by decide) rfl rfl (of_decide_eq_true rfl) (of_decide_eq_true rfl) ?_
          refine wi_aload_n (i := 0) (x := 236) (nx := 1) (r1 := 0) (r2 := 0) (r3 := 0) rfl rfl ?_
          refine wr_V (k0 := 236) (rest := []) (as := [.ref 236]) (nx := 4) (r1 := 219) (r2 := 0) (r3 := 11) rfl rfl rfl (of_decide_eq_true rfl) rfl rfl (by decide) rfl rfl (of_decide_eq_true rfl) (of_decide_eq_true rfl) ?_
          refine wi_aload_n (i := 0) (x := 236) (nx := 1) (r1 := 0) (r2 := 0) (r3 := 0) rfl rfl ?_
          refine wr_gi0 (k0 := 236) (x := h7 236 8) (nx := 4) (r1 := 11) (r2 := 8) (r3 := 0) rfl rfl (by decide) rfl ⟨rfl, rfl⟩ rfl (u29 236 8 rfl) ?_
          refine wi_if (cd := .ne) (nx := 7) (r1 := 11) (r2 := 0) (r3 := 0) rfl (by omega) (fun (q32 : (h7 236 8) ≠ 0) => by exfalso; omega) (fun (q32 : ¬ ((h7 236 8) ≠ 0)) => ?_)
          refine wi_iconst (n := 1) (nx := 8) (r1 := 0) (r2 := 0) (r3 := 0) rfl ?_
          refine wi_goto (nx := 11) (r1 := 12) (r2 := 0) (r3 := 0) rfl ?_
          refine wi_zreturn (nx := 13) (r1 := 0) (r2 := 0) (r3 := 0) rfl rfl (by omega) ?_
          refine wk_i ?_
          refine wi_if (cd := .ne) (nx := 7) (r1 := 8) (r2 := 0) (r3 := 0) rfl (by omega) (fun (q33 : 1 ≠ 0) => ?_) (fun (q33 : ¬ (1 ≠ 0)) => by exfalso; omega)
          refine wi_aload_n (i := 0) (x := 236) (nx := 9) (r1 := 0) (r2 := 0) (r3 := 0) rfl rfl ?_
          refine wr_gr (k0 := 236) (x := 253) (nx := 12) (r1 := 11) (r2 := 37) (r3 := 0) rfl rfl (by decide) rfl ⟨rfl, rfl⟩ rfl ?_
          refine wi_aload_n (i := 0) (x := 236) (nx := 13) (r1 := 0) (r2 := 0) (r3 := 0) rfl rfl ?_
          refine wr_gi0 (k0 := 236) (x := h7 236 42) (nx := 16) (r1 := 11) (r2 := 42) (r3 := 0) rfl rfl (by decide) rfl ⟨rfl, rfl⟩ rfl (u29 236 42 rfl) ?_
          refine wi_iload_n (i := 1) (e := 8) (nx := 17) (r1 := 0) (r2 := 0) (r3 := 0) rfl rfl ?_
          obtain ⟨i34, ei34⟩ : ∃ q : Nat, (h7 236 42) = (q : Int) := ⟨(h7 236 42).toNat, by omega⟩
          refine wr_is (k0 := 253) (a := h7 236 42) (f := i34) (x := 8) (bl := 0) (bh := 8) (nx := 18) (r1 := 0) (r2 := 0) (r3 := 0) rfl (by decide) rfl (by omega) (by omega) (by decide) g29 rfl (by omega) (fun h35 g35 w35 u35 => ?_)
          have F36 := F30.then rfl (FR.rngp (lo := 253) (hi := 253) u35 (by decide))
          have F37 := F31.then rfl (FR.rngp (lo := 253) (hi := 253) u35 (by decide))
          refine wi_aload_n (i := 0) (x := 236) (nx := 19) (r1 := 0) (r2 := 0) (r3 := 0) rfl rfl ?_
          refine wr_gr (k0 := 236) (x := 254) (nx := 22) (r1 := 11) (r2 := 38) (r3 := 0) rfl rfl (by decide) rfl ⟨rfl, rfl⟩ rfl ?_
          refine wi_aload_n (i := 0) (x := 236) (nx := 23) (r1 := 0) (r2 := 0) (r3 := 0) rfl rfl ?_
          refine wr_gi0 (k0 := 236) (x := h7 236 42) (nx := 26) (r1 := 11) (r2 := 42) (r3 := 0) rfl rfl (by decide) rfl ⟨rfl, rfl⟩ rfl ((u35 236 42 (fn_a (by omega) fn_0)).trans (u29 236 42 rfl)) ?_
          refine wi_iload_n (i := 2) (e := 0) (nx := 27) (r1 := 0) (r2 := 0) (r3 := 0) rfl rfl ?_
          refine wr_is (k0 := 254) (a := h7 236 42) (f := i34) (x := 0) (bl := 0) (bh := 999) (nx := 28) (r1 := 0) (r2 := 0) (r3 := 0) rfl (by decide) rfl (by omega) (by omega) (by decide) g35 rfl (by omega) (fun h38 g38 w38 u38 => ?_)
          have F39 := F36.then rfl (FR.rngp (lo := 254) (hi := 254) u38 (by decide))
          have F40 := F37.then rfl (FR.rngp (lo := 254) (hi := 254) u38 (by decide))
          refine wi_aload_n (i := 0) (x := 236) (nx := 29) (r1 := 0) (r2 := 0) (r3 := 0) rfl rfl ?_
          refine wi_dup (nx := 30) (r1 := 0) (r2 := 0) (r3 := 0) rfl rfl ?_
          refine wr_gi0 (k0 := 236) (x := h7 236 42) (nx := 33) (r1 := 11) (r2 := 42) (r3 := 0) rfl rfl (by decide) rfl ⟨rfl, rfl⟩ rfl ((u38 236 42 (fn_a (by omega) fn_0)).trans ((u35 236 42 (fn_a (by omega) fn_0)).trans (u29 236 42 rfl))) ?_
          refine wi_iconst (n := 1) (nx := 34) (r1 := 0) (r2 := 0) (r3 := 0) rfl ?_
          refine wr_add (nx := 35) (r1 := 0) (r2 := 0) (r3 := 0) rfl (fun e41 (fe41 : e41 = (h7 236 42) + 1) => ?_)
          refine wr_pf0 (k0 := 236) (x := e41) (bl := 0) (bh := 80) (nx := 38) (r1 := 11) (r2 := 42) (r3 := 0) rfl (by decide) rfl ⟨rfl, rfl⟩ rfl rfl g38 rfl (by omega) (fun h42 g42 w42 u42 => ?_)
          have F43 := F39.then rfl u42
          have F44 := F40.then rfl u42
          refine wi_return (nx := 39) (r1 := 0) (r2 := 0) (r3 := 0) rfl rfl ?_
          refine wk_n ?_
          refine wi_aload_n (i := 0) (x := 236) (nx := 34) (r1 := 0) (r2 := 0) (r3 := 0) rfl rfl ?_
          refine wr_V (k0 := 236) (rest := []) (as := [.ref 236]) (nx := 37) (r1 := 215) (r2 := 0) (r3 := 11) rfl rfl rfl (of_decide_eq_true rfl) rfl rfl (by decide) rfl rfl (of_decide_eq_true rfl) (of_decide_eq_true rfl) ?_
          have e46 : h42 236 4 = h7 236 4 := ((u42 236 4 rfl).trans ((u38 236 4 (fn_a (by omega) fn_0)).trans ((u35 236 4 (fn_a (by omega) fn_0)).trans (u29 236 4 rfl))))
          have e47 : h42 236 3 = h 236 3 := ((u42 236 3 rfl).trans ((u38 236 3 (fn_a (by omega) fn_0)).trans ((u35 236 3 (fn_a (by omega) fn_0)).trans ((u29 236 3 rfl).trans (u7 236 3 rfl)))))
          have rb48 := RefB.fr u7 rfl xq1
          have rb49 := RefB.fr u29 rfl rb48
          have rb50 := RefB.fr u35 rfl rb49
          have rb51 := RefB.fr u38 rfl rb50
          have rb52 := RefB.fr u42 rfl rb51
          refine ct_215_236 hcr  g42   (show (h42 236 4) ≤ (h42 236 3) by omega) (show (h42 236 4) = (tk_nx tB tn ps26) by omega) (show 0 ≤ (tk_nx tB tn ps26) by omega) (show (tk_nx tB tn ps26) ≤ tn by omega) rb52 (fun h45 g45 u45 (p45_0 : (h42 236 4) ≤ (h45 236 4)) (p45_1 : (h45 236 4) ≤ (h42 236 3)) (p45_2 : ((h45 236 4) = tk_nx tB tn (tk_nx tB tn ps26) ∧ (h45 236 5) = tk_st tB tn (tk_nx tB tn ps26) ∧ ((tk_kd tB tn (tk_nx tB tn ps26) = 0 ∧ (h45 236 6) = 0) ∨ (tk_kd tB tn (tk_nx tB tn ps26) = 1 ∧ (h45 236 6) = 1 ∧ (h45 236 12) = tk_sw tB tn (tk_nx tB tn ps26)) ∨ (tk_kd tB tn (tk_nx tB tn ps26) = 2 ∧ (h45 236 6) = 2 ∧ (h45 236 7) = tk_nb tB tn (tk_nx tB tn ps26)) ∨ (tk_kd tB tn (tk_nx tB tn ps26) = 3 ∧ (h45 236 6) = 3 ∧ (h45 236 7) = 59) ∨ (tk_kd tB tn (tk_nx tB tn ps26) = 4 ∧ (h45 236 6) = 3 ∧ (h45 236 7) = 40) ∨ (tk_kd tB tn (tk_nx tB tn ps26) = 5 ∧ (h45 236 6) = 3 ∧ (h45 236 7) = 41) ∨ (tk_kd tB tn (tk_nx tB tn ps26) = 6 ∧ (h45 236 6) = 4)))) (p45_3 : (tk_nx tB tn ps26) ≤ tk_nx tB tn (tk_nx tB tn ps26) ∧ tk_nx tB tn (tk_nx tB tn ps26) ≤ tn) => ?_)
          have F53 := F43.then (by decide +kernel) u45
          have F54 := F44.then (by decide +kernel) u45
          have b55 := gi_b (lo := 0) (hi := 800) g45 236 4 rfl
          have b56 := gi_b (lo := 0) (hi := 800) g45 236 5 rfl
          have b57 := gi_b (lo := 0) (hi := 4) g45 236 6 rfl
          have b58 := gi_b (lo := -9223372036854775808) (hi := 9223372036854775807) g45 236 12 rfl
          have b59 := gi_b (lo := 0) (hi := 999) g45 236 7 rfl
          have tN60 := @tk_nx_b tB tn (tk_nx tB tn ps26) (by omega) (by omega)
          refine wk_n ?_
          refine wi_aload_n (i := 0) (x := 236) (nx := 38) (r1 := 0) (r2 := 0) (r3 := 0) rfl rfl ?_
          refine wi_bipush (n := 59) (nx := 40) (r1 := 0) (r2 := 0) (r3 := 0) rfl (by decide) ?_
          refine wr_V (k0 := 236) (rest := []) (as := [.ref 236, vi 59]) (nx := 43) (r1 := 235) (r2 := 1) (r3 := 11) rfl rfl rfl (of_decide_eq_true rfl) rfl rfl (by decide) rfl rfl (of_decide_eq_true rfl) (of_decide_eq_true rfl) ?_
          have e62 : h45 236 3 = h 236 3 := ((u45 236 3 rfl).trans ((u42 236 3 rfl).trans ((u38 236 3 (fn_a (by omega) fn_0)).trans ((u35 236 3 (fn_a (by omega) fn_0)).trans ((u29 236 3 rfl).trans (u7 236 3 rfl))))))
          have e63 : h45 236 8 = h7 236 8 := ((u45 236 8 rfl).trans ((u42 236 8 rfl).trans ((u38 236 8 (fn_a (by omega) fn_0)).trans ((u35 236 8 (fn_a (by omega) fn_0)).trans (u29 236 8 rfl)))))
          have rb64 := RefB.fr u45 rfl rb52
          refine ct_235_236_L59 hcr  g45   (show (h45 236 4) ≤ (h45 236 3) by omega) (show 0 ≤ (tk_nx tB tn ps26) by omega) (show (tk_nx tB tn ps26) ≤ tn by omega) (show (tk_nx tB tn ps26) ≤ tk_nx tB tn (tk_nx tB tn ps26) ∧ tk_nx tB tn (tk_nx tB tn ps26) ≤ tn by omega) (show 1 ≤ (h45 236 8) ∨ ((h45 236 4) = tk_nx tB tn (tk_nx tB tn ps26) ∧ (h45 236 5) = tk_st tB tn (tk_nx tB tn ps26) ∧ ((tk_kd tB tn (tk_nx tB tn ps26) = 0 ∧ (h45 236 6) = 0) ∨ (tk_kd tB tn (tk_nx tB tn ps26) = 1 ∧ (h45 236 6) = 1 ∧ (h45 236 12) = tk_sw tB tn (tk_nx tB tn ps26)) ∨ (tk_kd tB tn (tk_nx tB tn ps26) = 2 ∧ (h45 236 6) = 2 ∧ (h45 236 7) = tk_nb tB tn (tk_nx tB tn ps26)) ∨ (tk_kd tB tn (tk_nx tB tn ps26) = 3 ∧ (h45 236 6) = 3 ∧ (h45 236 7) = 59) ∨ (tk_kd tB tn (tk_nx tB tn ps26) = 4 ∧ (h45 236 6) = 3 ∧ (h45 236 7) = 40) ∨ (tk_kd tB tn (tk_nx tB tn ps26) = 5 ∧ (h45 236 6) = 3 ∧ (h45 236 7) = 41) ∨ (tk_kd tB tn (tk_nx tB tn ps26) = 6 ∧ (h45 236 6) = 4))) from (Or.inr (show ((h45 236 4) = tk_nx tB tn (tk_nx tB tn ps26) ∧ (h45 236 5) = tk_st tB tn (tk_nx tB tn ps26) ∧ ((tk_kd tB tn (tk_nx tB tn ps26) = 0 ∧ (h45 236 6) = 0) ∨ (tk_kd tB tn (tk_nx tB tn ps26) = 1 ∧ (h45 236 6) = 1 ∧ (h45 236 12) = tk_sw tB tn (tk_nx tB tn ps26)) ∨ (tk_kd tB tn (tk_nx tB tn ps26) = 2 ∧ (h45 236 6) = 2 ∧ (h45 236 7) = tk_nb tB tn (tk_nx tB tn ps26)) ∨ (tk_kd tB tn (tk_nx tB tn ps26) = 3 ∧ (h45 236 6) = 3 ∧ (h45 236 7) = 59) ∨ (tk_kd tB tn (tk_nx tB tn ps26) = 4 ∧ (h45 236 6) = 3 ∧ (h45 236 7) = 40) ∨ (tk_kd tB tn (tk_nx tB tn ps26) = 5 ∧ (h45 236 6) = 3 ∧ (h45 236 7) = 41) ∨ (tk_kd tB tn (tk_nx tB tn ps26) = 6 ∧ (h45 236 6) = 4))) by first | assumption | exact tk_mv (by assumption) (by omega) (by omega) (by omega) (by omega) (by omega)))) rb64 (fun h61 g61 u61 (p61_0 : (1 ≤ (h45 236 8) ∧ (h61 236 8) = (h45 236 8) ∧ (h61 236 9) = (h45 236 9)) ∨ ((h45 236 8) = 0 ∧ tk_kd tB tn (tk_nx tB tn ps26) = 3 ∧ (h61 236 8) = (h45 236 8) ∧ (h61 236 9) = (h45 236 9) ∧ ((h61 236 4) = tk_nx tB tn (tk_nx tB tn (tk_nx tB tn ps26)) ∧ (h61 236 5) = tk_st tB tn (tk_nx tB tn (tk_nx tB tn ps26)) ∧ ((tk_kd tB tn (tk_nx tB tn (tk_nx tB tn ps26)) = 0 ∧ (h61 236 6) = 0) ∨ (tk_kd tB tn (tk_nx tB tn (tk_nx tB tn ps26)) = 1 ∧ (h61 236 6) = 1 ∧ (h61 236 12) = tk_sw tB tn (tk_nx tB tn (tk_nx tB tn ps26))) ∨ (tk_kd tB tn (tk_nx tB tn (tk_nx tB tn ps26)) = 2 ∧ (h61 236 6) = 2 ∧ (h61 236 7) = tk_nb tB tn (tk_nx tB tn (tk_nx tB tn ps26))) ∨ (tk_kd tB tn (tk_nx tB tn (tk_nx tB tn ps26)) = 3 ∧ (h61 236 6) = 3 ∧ (h61 236 7) = 59) ∨ (tk_kd tB tn (tk_nx tB tn (tk_nx tB tn ps26)) = 4 ∧ (h61 236 6) = 3 ∧ (h61 236 7) = 40) ∨ (tk_kd tB tn (tk_nx tB tn (tk_nx tB tn ps26)) = 5 ∧ (h61 236 6) = 3 ∧ (h61 236 7) = 41) ∨ (tk_kd tB tn (tk_nx tB tn (tk_nx tB tn ps26)) = 6 ∧ (h61 236 6) = 4)))) ∨ ((h45 236 8) = 0 ∧ tk_kd tB tn (tk_nx tB tn ps26) ≠ 3 ∧ (h61 236 8) = 1 ∧ (h61 236 9) = tk_st tB tn (tk_nx tB tn ps26))) (p61_1 : (h45 236 4) ≤ (h61 236 4)) (p61_2 : (h61 236 4) ≤ (h45 236 3)) (p61_3 : 1 ≤ (h61 236 8) ∨ (h45 236 8) = 0) (p61_4 : 1 ≤ (h61 236 8) ∨ (h61 236 6) = 0 ∨ (h45 236 4) + 1 ≤ (h61 236 4)) => ?_)
          have F65 := F53.then (by decide +kernel) u61
          have F66 := F54.then (by decide +kernel) u61
          have e67 : h45 236 9 = h7 236 9 := ((u45 236 9 rfl).trans ((u42 236 9 rfl).trans ((u38 236 9 (fn_a (by omega) fn_0)).trans ((u35 236 9 (fn_a (by omega) fn_0)).trans (u29 236 9 rfl)))))
          have b68 := gi_b (lo := 0) (hi := 5) g61 236 8 rfl
          have b69 := gi_b (lo := -2147483648) (hi := 2147483647) g61 236 9 rfl
          have b70 := gi_b (lo := 0) (hi := 800) g61 236 4 rfl
          have b71 := gi_b (lo := 0) (hi := 800) g61 236 5 rfl
          have b72 := gi_b (lo := 0) (hi := 4) g61 236 6 rfl
          have b73 := gi_b (lo := -9223372036854775808) (hi := 9223372036854775807) g61 236 12 rfl
          have b74 := gi_b (lo := 0) (hi := 999) g61 236 7 rfl
          refine wk_n ?_
          rcases p61_0 with p61_0 | p61_0 | p61_0
          ·
            exfalso; omega
          ·
            have tk75 := p61_0.2.2.2.2
            have tN76 := @tk_nx_b tB tn (tk_nx tB tn (tk_nx tB tn ps26)) (by omega) (by omega)
            refine wi_goto (nx := 46) (r1 := 0) (r2 := 0) (r3 := 0) rfl ?_
            have e77 : h61 236 3 = h 236 3 := ((u61 236 3 rfl).trans ((u45 236 3 rfl).trans ((u42 236 3 rfl).trans ((u38 236 3 (fn_a (by omega) fn_0)).trans ((u35 236 3 (fn_a (by omega) fn_0)).trans ((u29 236 3 rfl).trans (u7 236 3 rfl)))))))
            have e78 : h61 236 42 = e41 := ((u61 236 42 rfl).trans ((u45 236 42 rfl).trans w42))
            have e79 : h61 236 44 = e28 := ((u61 236 44 rfl).trans ((u45 236 44 rfl).trans ((u42 236 44 rfl).trans ((u38 236 44 (fn_a (by omega) fn_0)).trans ((u35 236 44 (fn_a (by omega) fn_0)).trans w29)))))
            have e80 : h61 236 43 = h 236 43 := ((u61 236 43 rfl).trans ((u45 236 43 rfl).trans ((u42 236 43 rfl).trans ((u38 236 43 (fn_a (by omega) fn_0)).trans ((u35 236 43 (fn_a (by omega) fn_0)).trans ((u29 236 43 rfl).trans (u7 236 43 rfl)))))))
            have q81 : h61 253 = h35 253 := funext (fun i => ((u61 253 i (fo_no_ok (by decide) i)).trans ((u45 253 i (fo_no_ok (by decide) i)).trans ((u42 253 i rfl).trans (u38 253 i (fn_a (by omega) fn_0))))))
            have q82 : h29 253 = h7 253 := funext (fun i => (u29 253 i rfl))
            exact I7 h61 ⟨g61, F65, F66, (show ((h61 236 4) ≤ (h61 236 3)) ∧ ((h 236 8) = 0 ∨ 1 ≤ (h61 236 8)) ∧ ((h 236 6) ≠ 0 ∨ (h61 236 6) = 0) ∧ ((h 236 4) ≤ (h61 236 4)) ∧ (1 ≤ (h61 236 8) ∨ (h61 236 42) + (h61 236 44) ≤ 2 * (h61 236 43)) by omega), (fun e => by
                rw [q81]
                refine WP.put (S := h7 253) (n := h7 236 42) (o := h7 236 44) (X7_0 (by omega)) (by omega) (fun k hk => (u35 253 k (fn_i (by omega) fn_0)).trans (congrFun q82 k)) ?_ (by omega)
                rw [show (h7 236 42).toNat = i34 by omega, w35]
                omega), (SCI.mk ks26 (tk_nx tB tn (tk_nx tB tn ps26)) (by omega) (by omega) (by omega) (by omega) (by omega) (by first | assumption | exact tk_mv (by assumption) (by omega) (by omega) (by omega) (by omega) (by omega)) (by rw [show h61 236 44 = h7 236 44 - 1 by omega, show h61 236 43 = h7 236 43 by omega]; exact (sc_c1 (by omega) (by omega) (by omega)).symm.trans frs26))⟩ (show ((h61 236 44)).toNat < ((h7 236 44)).toNat by omega)
          ·
            refine wi_goto (nx := 46) (r1 := 0) (r2 := 0) (r3 := 0) rfl ?_
            have e75 : h61 236 3 = h 236 3 := ((u61 236 3 rfl).trans ((u45 236 3 rfl).trans ((u42 236 3 rfl).trans ((u38 236 3 (fn_a (by omega) fn_0)).trans ((u35 236 3 (fn_a (by omega) fn_0)).trans ((u29 236 3 rfl).trans (u7 236 3 rfl)))))))
            have e76 : h61 236 42 = e41 := ((u61 236 42 rfl).trans ((u45 236 42 rfl).trans w42))
            have e77 : h61 236 44 = e28 := ((u61 236 44 rfl).trans ((u45 236 44 rfl).trans ((u42 236 44 rfl).trans ((u38 236 44 (fn_a (by omega) fn_0)).trans ((u35 236 44 (fn_a (by omega) fn_0)).trans w29)))))
            have e78 : h61 236 43 = h 236 43 := ((u61 236 43 rfl).trans ((u45 236 43 rfl).trans ((u42 236 43 rfl).trans ((u38 236 43 (fn_a (by omega) fn_0)).trans ((u35 236 43 (fn_a (by omega) fn_0)).trans ((u29 236 43 rfl).trans (u7 236 43 rfl)))))))
            have q79 : h61 253 = h35 253 := funext (fun i => ((u61 253 i (fo_no_ok (by decide) i)).trans ((u45 253 i (fo_no_ok (by decide) i)).trans ((u42 253 i rfl).trans (u38 253 i (fn_a (by omega) fn_0))))))
            have q80 : h29 253 = h7 253 := funext (fun i => (u29 253 i rfl))
            exact I7 h61 ⟨g61, F65, F66, (show ((h61 236 4) ≤ (h61 236 3)) ∧ ((h 236 8) = 0 ∨ 1 ≤ (h61 236 8)) ∧ ((h 236 6) ≠ 0 ∨ (h61 236 6) = 0) ∧ ((h 236 4) ≤ (h61 236 4)) ∧ (1 ≤ (h61 236 8) ∨ (h61 236 42) + (h61 236 44) ≤ 2 * (h61 236 43)) by omega), (fun e => by
                rw [q79]
                refine WP.put (S := h7 253) (n := h7 236 42) (o := h7 236 44) (X7_0 (by omega)) (by omega) (fun k hk => (u35 253 k (fn_i (by omega) fn_0)).trans (congrFun q80 k)) ?_ (by omega)
                rw [show (h7 236 42).toNat = i34 by omega, w35]
                omega), (SCI.er (c := 1) (by omega) (by omega) (by omega) (frs26.symm.trans (sc_clx (by omega) (by omega) (by omega))))⟩ (show ((h61 236 44)).toNat < ((h7 236 44)).toNat by omega)
