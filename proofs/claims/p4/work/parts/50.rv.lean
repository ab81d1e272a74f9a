-- method 335: Model.command()V
set_option maxRecDepth 100000 in
set_option maxHeartbeats 100000000 in
theorem ct_335_236 {L : Nat} {xs : Nat → Int32} {d b c : Nat} {h : hp} {cr : Nat → Nat → Option Nat} {Q : hp_Q} (hcr : CR cr)  {tB : Nat → Int} {tn tp : Int} (g : GI h)   (pp0 : h 236 4 ≤ h 236 3) (pp1 : h 236 8 = 0) (pp2 : h 236 6 ≠ 0) (pp3 : h 236 42 + h 236 44 ≤ 2 * h 236 43) (pp4 : 0 ≤ tp) (pp5 : tp ≤ tn) (pp6 : tp ≤ tk_nx tB tn tp ∧ tk_nx tB tn tp ≤ tn) (pp7 : (h 236 4 = tk_nx tB tn tp ∧ h 236 5 = tk_st tB tn tp ∧ TKk tB tn tp (h 236 6) (h 236 7) (h 236 12))) (pp8 : h 236 9 = -1) (xq0 : WP (h 253) (h 236 42) (h 236 44)) (xq1 : RefB tB tn h) (k : ∀ (h2 : hp) , GI h2 → FR [(253, 253, none), (254, 254, none), (236, 236, some (4, 4)), (236, 236, some (5, 5)), (236, 236, some (6, 6)), (236, 236, some (7, 7)), (236, 236, some (8, 8)), (236, 236, some (9, 9)), (236, 236, some (12, 12)), (236, 236, some (42, 42)), (236, 236, some (43, 43)), (236, 236, some (44, 44))] h h2 → ((1 ≤ h2 236 8) ∨ (h2 236 8 = 0 ∧ h2 236 44 = h 236 44 + 1) ∨ (h2 236 8 = 0 ∧ h2 236 44 = h 236 44)) → (h2 236 8 ≠ 0 ∨ h2 236 9 = -1) → (h 236 4 ≤ h2 236 4) → (h2 236 4 ≤ h 236 3) → (1 ≤ h2 236 8 ∨ h2 236 6 = 0 ∨ h 236 4 + 1 ≤ h2 236 4) → (1 ≤ h2 236 8 ∨ h2 236 42 + h2 236 44 ≤ 2 * h2 236 43) → (h2 236 8 = 0 → WP (h2 253) (h2 236 42) (h2 236 44)) → (sc_OM tB tn tp (h 236 44) (h 236 43) h2) → Q (.inl none) (hp_w h2 cr) b c) : wp (md_xa (L, xs)) (d + 3) 335 (0, [(0, .ref 236)], [], hp_w h cr, b, c) Q := by
  have F0 : FR [(253, 253, none), (254, 254, none), (236, 236, some (4, 4)), (236, 236, some (5, 5)), (236, 236, some (6, 6)), (236, 236, some (7, 7)), (236, 236, some (8, 8)), (236, 236, some (9, 9)), (236, 236, some (12, 12)), (236, 236, some (42, 42)), (236, 236, some (43, 43)), (236, 236, some (44, 44))] h h := FR.refl
  have tb_1 : h 236 3 = tn := xq1.2.1
  have tb_2 : 0 ≤ tn ∧ tn ≤ 800 := xq1.2.2
  have tkk0_ := pp7.2.2
  have b1 := gi_b (lo := 0) (hi := 800) g 236 4 rfl
  have b2 := gi_b (lo := 0) (hi := 800) g 236 3 rfl
  have b3 := gi_b (lo := 0) (hi := 5) g 236 8 rfl
  have b4 := gi_b (lo := 0) (hi := 4) g 236 6 rfl
  have b5 := gi_b (lo := 0) (hi := 80) g 236 42 rfl
  have b6 := gi_b (lo := 0) (hi := 2) g 236 44 rfl
  have b7 := gi_b (lo := 0) (hi := 40) g 236 43 rfl
  have b8 := gi_b (lo := 0) (hi := 800) g 236 5 rfl
  have b9 := gi_b (lo := 0) (hi := 999) g 236 7 rfl
  have b10 := gi_b (lo := -9223372036854775808) (hi := 9223372036854775807) g 236 12 rfl
  have b11 := gi_b (lo := -2147483648) (hi := 2147483647) g 236 9 rfl
  refine wi_aload_n (i := 0) (x := 236) (nx := 1) (r1 := 0) (r2 := 0) (r3 := 0) rfl rfl ?_
  refine wr_V (k0 := 236) (rest := []) (as := [.ref 236]) (nx := 4) (r1 := 336) (r2 := 0) (r3 := 11) rfl rfl rfl (of_decide_eq_true rfl) rfl rfl (by decide) rfl rfl (of_decide_eq_true rfl) (of_decide_eq_true rfl) ?_
  refine ct_336_236 hcr  g   (show 0 ≤ tp by omega) (show tp ≤ tn by omega) (show tp ≤ tk_nx tB tn tp ∧ tk_nx tB tn tp ≤ tn from ⟨by omega, by omega⟩) (show (h 236 8) = 0 by omega) (show ((h 236 4) = tk_nx tB tn tp ∧ (h 236 5) = tk_st tB tn tp ∧ TKk tB tn tp ((h 236 6)) ((h 236 7)) ((h 236 12))) by first | assumption | exact ⟨by omega, by omega, TKk.mv (by assumption) (by omega) (by omega) (by omega)⟩) xq1 (fun z13  (fz13 : -1 ≤ z13 ∧ z13 ≤ 7) (p12_0 : (tk_kd tB tn tp = 1 ∧ 13 ≤ tk_wd (tk_lw tB tn tp) ∧ tk_wd (tk_lw tB tn tp) ≤ 20 ∧ z13 = tk_wd (tk_lw tB tn tp) - 13 ∧ 0 ≤ z13) ∨ ((tk_kd tB tn tp ≠ 1 ∨ tk_wd (tk_lw tB tn tp) < 13 ∨ 20 < tk_wd (tk_lw tB tn tp)) ∧ z13 = -1)) => ?_)
  refine wk_i ?_
  rcases p12_0 with p12_0 | p12_0
  ·
    have dw14 : tk_kd tB tn tp = 1 ∧ 13 ≤ tk_wd (tk_lw tB tn tp) ∧ tk_wd (tk_lw tB tn tp) ≤ 20 := ⟨p12_0.1, p12_0.2.1, p12_0.2.2.1⟩
    refine wi_istore_n (i := 1) (e := z13) (lo2 := [(1, vi z13), (0, .ref 236)]) (nx := 5) (r1 := 0) (r2 := 0) (r3 := 0) rfl rfl ?_
    refine wi_iload_n (i := 1) (e := z13) (nx := 6) (r1 := 0) (r2 := 0) (r3 := 0) rfl rfl ?_
    refine wi_iconst (n := (-1)) (nx := 7) (r1 := 0) (r2 := 0) (r3 := 0) rfl ?_
    refine wi_icmp (cd := .ne) (nx := 10) (r1 := 15) (r2 := 0) (r3 := 0) rfl (by omega) (by omega) (fun (q15 : z13 ≠ (-1)) => ?_) (fun (q15 : ¬ (z13 ≠ (-1))) => by exfalso; omega)
    refine wi_iload_n (i := 1) (e := z13) (nx := 16) (r1 := 0) (r2 := 0) (r3 := 0) rfl rfl ?_
    refine wi_bipush (n := 7) (nx := 18) (r1 := 0) (r2 := 0) (r3 := 0) rfl (by decide) ?_
    refine wi_icmp (cd := .ne) (nx := 21) (r1 := 34) (r2 := 0) (r3 := 0) rfl (by omega) (by omega) (fun (q16 : z13 ≠ 7) => ?_) (fun (q16 : ¬ (z13 ≠ 7)) => ?_)
    ·
      replace q16 : z13 + 1 ≤ 7 := by omega
      refine wi_aload_n (i := 0) (x := 236) (nx := 35) (r1 := 0) (r2 := 0) (r3 := 0) rfl rfl ?_
      refine wr_gi0 (k0 := 236) (x := h 236 43) (nx := 38) (r1 := 11) (r2 := 43) (r3 := 0) rfl rfl (by decide) rfl ⟨rfl, rfl⟩ rfl rfl ?_
      refine wi_bipush (n := 40) (nx := 40) (r1 := 0) (r2 := 0) (r3 := 0) rfl (by decide) ?_
      refine wi_icmp (cd := .ne) (nx := 43) (r1 := 48) (r2 := 0) (r3 := 0) rfl (by omega) (by omega) (fun (q17 : (h 236 43) ≠ 40) => ?_) (fun (q17 : ¬ ((h 236 43) ≠ 40)) => ?_)
      ·
        replace q17 : (h 236 43) + 1 ≤ 40 := by omega
        refine wi_aload_n (i := 0) (x := 236) (nx := 49) (r1 := 0) (r2 := 0) (r3 := 0) rfl rfl ?_
        refine wr_V (k0 := 236) (rest := []) (as := [.ref 236]) (nx := 52) (r1 := 219) (r2 := 0) (r3 := 11) rfl rfl rfl (of_decide_eq_true rfl) rfl rfl (by decide) rfl rfl (of_decide_eq_true rfl) (of_decide_eq_true rfl) ?_
        refine wi_aload_n (i := 0) (x := 236) (nx := 1) (r1 := 0) (r2 := 0) (r3 := 0) rfl rfl ?_
        refine wr_gi0 (k0 := 236) (x := h 236 8) (nx := 4) (r1 := 11) (r2 := 8) (r3 := 0) rfl rfl (by decide) rfl ⟨rfl, rfl⟩ rfl rfl ?_
        refine wi_if (cd := .ne) (nx := 7) (r1 := 11) (r2 := 0) (r3 := 0) rfl (by omega) (fun (q18 : (h 236 8) ≠ 0) => by exfalso; omega) (fun (q18 : ¬ ((h 236 8) ≠ 0)) => ?_)
        refine wi_iconst (n := 1) (nx := 8) (r1 := 0) (r2 := 0) (r3 := 0) rfl ?_
        refine wi_goto (nx := 11) (r1 := 12) (r2 := 0) (r3 := 0) rfl ?_
        refine wi_zreturn (nx := 13) (r1 := 0) (r2 := 0) (r3 := 0) rfl rfl (by omega) ?_
        refine wk_i ?_
        refine wi_if (cd := .ne) (nx := 55) (r1 := 56) (r2 := 0) (r3 := 0) rfl (by omega) (fun (q19 : 1 ≠ 0) => ?_) (fun (q19 : ¬ (1 ≠ 0)) => by exfalso; omega)
        refine wi_aload_n (i := 0) (x := 236) (nx := 57) (r1 := 0) (r2 := 0) (r3 := 0) rfl rfl ?_
        refine wi_dup (nx := 58) (r1 := 0) (r2 := 0) (r3 := 0) rfl rfl ?_
        refine wr_gi0 (k0 := 236) (x := h 236 43) (nx := 61) (r1 := 11) (r2 := 43) (r3 := 0) rfl rfl (by decide) rfl ⟨rfl, rfl⟩ rfl rfl ?_
        refine wi_iconst (n := 1) (nx := 62) (r1 := 0) (r2 := 0) (r3 := 0) rfl ?_
        refine wr_add (nx := 63) (r1 := 0) (r2 := 0) (r3 := 0) rfl (fun e20 (fe20 : e20 = (h 236 43) + 1) => ?_)
        refine wr_pf0 (k0 := 236) (x := e20) (bl := 0) (bh := 40) (nx := 66) (r1 := 11) (r2 := 43) (r3 := 0) rfl (by decide) rfl ⟨rfl, rfl⟩ rfl rfl g rfl (by omega) (fun h21 g21 w21 u21 => ?_)
        have F22 := F0.then rfl u21
        refine wi_aload_n (i := 0) (x := 236) (nx := 67) (r1 := 0) (r2 := 0) (r3 := 0) rfl rfl ?_
        refine wr_V (k0 := 236) (rest := []) (as := [.ref 236]) (nx := 70) (r1 := 215) (r2 := 0) (r3 := 11) rfl rfl rfl (of_decide_eq_true rfl) rfl rfl (by decide) rfl rfl (of_decide_eq_true rfl) (of_decide_eq_true rfl) ?_
        have e24 : h21 236 4 = h 236 4 := (u21 236 4 rfl)
        have e25 : h21 236 3 = h 236 3 := (u21 236 3 rfl)
        have rb26 := RefB.fr u21 rfl xq1
        refine ct_215_236 hcr  g21   (show (h21 236 4) ≤ (h21 236 3) by omega) (show (h21 236 4) = (tk_nx tB tn tp) by omega) (show 0 ≤ (tk_nx tB tn tp) by omega) (show (tk_nx tB tn tp) ≤ tn by omega) rb26 (fun h23 g23 u23 (p23_0 : (h21 236 4) ≤ (h23 236 4)) (p23_1 : (h23 236 4) ≤ (h21 236 3)) (p23_2 : ((h23 236 4) = tk_nx tB tn (tk_nx tB tn tp) ∧ (h23 236 5) = tk_st tB tn (tk_nx tB tn tp) ∧ TKk tB tn (tk_nx tB tn tp) ((h23 236 6)) ((h23 236 7)) ((h23 236 12)))) (p23_3 : (tk_nx tB tn tp) ≤ tk_nx tB tn (tk_nx tB tn tp) ∧ tk_nx tB tn (tk_nx tB tn tp) ≤ tn) => ?_)
        have F27 := F22.then (by decide +kernel) u23
        have b28 := gi_b (lo := 0) (hi := 800) g23 236 4 rfl
        have b29 := gi_b (lo := 0) (hi := 800) g23 236 5 rfl
        have b30 := gi_b (lo := 0) (hi := 4) g23 236 6 rfl
        have b31 := gi_b (lo := 0) (hi := 999) g23 236 7 rfl
        have b32 := gi_b (lo := -9223372036854775808) (hi := 9223372036854775807) g23 236 12 rfl
        have tkk33 := p23_2.2.2
        have tN34 := @tk_nx_b tB tn (tk_nx tB tn tp) (by omega) (by omega)
        have kz23 : h23 236 6 ≠ 0 → tk_kd tB tn (tk_nx tB tn tp) ≠ 0 := TKk.n0 p23_2.2.2
        refine wk_n ?_
        refine wi_iload_n (i := 1) (e := z13) (nx := 71) (r1 := 0) (r2 := 0) (r3 := 0) rfl rfl ?_
        refine wi_iconst (n := 2) (nx := 72) (r1 := 0) (r2 := 0) (r3 := 0) rfl ?_
        refine wi_icmp (cd := .gt) (nx := 75) (r1 := 89) (r2 := 0) (r3 := 0) rfl (by omega) (by omega) (fun (q35 : 2 < z13) => ?_) (fun (q35 : ¬ (2 < z13)) => ?_)
        ·
          refine wi_iload_n (i := 1) (e := z13) (nx := 90) (r1 := 0) (r2 := 0) (r3 := 0) rfl rfl ?_
          refine wi_iconst (n := 4) (nx := 91) (r1 := 0) (r2 := 0) (r3 := 0) rfl ?_
          refine wi_icmp (cd := .gt) (nx := 94) (r1 := 109) (r2 := 0) (r3 := 0) rfl (by omega) (by omega) (fun (q36 : 4 < z13) => ?_) (fun (q36 : ¬ (4 < z13)) => ?_)
          ·
            refine wi_iload_n (i := 1) (e := z13) (nx := 110) (r1 := 0) (r2 := 0) (r3 := 0) rfl rfl ?_
            refine wi_bipush (n := 7) (nx := 112) (r1 := 0) (r2 := 0) (r3 := 0) rfl (by decide) ?_
            refine wi_icmp (cd := .ne) (nx := 115) (r1 := 146) (r2 := 0) (r3 := 0) rfl (by omega) (by omega) (fun (q37 : z13 ≠ 7) => ?_) (fun (q37 : ¬ (z13 ≠ 7)) => by exfalso; omega)
            refine wi_aload_n (i := 0) (x := 236) (nx := 147) (r1 := 0) (r2 := 0) (r3 := 0) rfl rfl ?_
            refine wi_iload_n (i := 1) (e := z13) (nx := 148) (r1 := 0) (r2 := 0) (r3 := 0) rfl rfl ?_
            refine wi_iconst (n := 0) (nx := 149) (r1 := 0) (r2 := 0) (r3 := 0) rfl ?_
            refine wr_V (k0 := 236) (rest := []) (as := [.ref 236, vi z13, vi 0]) (nx := 152) (r1 := 337) (r2 := 2) (r3 := 11) rfl rfl rfl (of_decide_eq_true rfl) rfl rfl (by decide) rfl rfl (of_decide_eq_true rfl) (of_decide_eq_true rfl) ?_
            refine wi_aload_n (i := 0) (x := 236) (nx := 1) (r1 := 0) (r2 := 0) (r3 := 0) rfl rfl ?_
            refine wr_V (k0 := 236) (rest := []) (as := [.ref 236]) (nx := 4) (r1 := 219) (r2 := 0) (r3 := 11) rfl rfl rfl (of_decide_eq_true rfl) rfl rfl (by decide) rfl rfl (of_decide_eq_true rfl) (of_decide_eq_true rfl) ?_
            refine wi_aload_n (i := 0) (x := 236) (nx := 1) (r1 := 0) (r2 := 0) (r3 := 0) rfl rfl ?_
            refine wr_gi0 (k0 := 236) (x := h 236 8) (nx := 4) (r1 := 11) (r2 := 8) (r3 := 0) rfl rfl (by decide) rfl ⟨rfl, rfl⟩ rfl ((u23 236 8 rfl).trans (u21 236 8 rfl)) ?_
            refine wi_if (cd := .ne) (nx := 7) (r1 := 11) (r2 := 0) (r3 := 0) rfl (by omega) (fun (q38 : (h 236 8) ≠ 0) => by exfalso; omega) (fun (q38 : ¬ ((h 236 8) ≠ 0)) => ?_)
            refine wi_iconst (n := 1) (nx := 8) (r1 := 0) (r2 := 0) (r3 := 0) rfl ?_
            refine wi_goto (nx := 11) (r1 := 12) (r2 := 0) (r3 := 0) rfl ?_
            refine wi_zreturn (nx := 13) (r1 := 0) (r2 := 0) (r3 := 0) rfl rfl (by omega) ?_
            refine wk_i ?_
            refine wi_if (cd := .ne) (nx := 7) (r1 := 8) (r2 := 0) (r3 := 0) rfl (by omega) (fun (q39 : 1 ≠ 0) => ?_) (fun (q39 : ¬ (1 ≠ 0)) => by exfalso; omega)
            refine wi_aload_n (i := 0) (x := 236) (nx := 9) (r1 := 0) (r2 := 0) (r3 := 0) rfl rfl ?_
            refine wr_gr (k0 := 236) (x := 253) (nx := 12) (r1 := 11) (r2 := 37) (r3 := 0) rfl rfl (by decide) rfl ⟨rfl, rfl⟩ rfl ?_
            refine wi_aload_n (i := 0) (x := 236) (nx := 13) (r1 := 0) (r2 := 0) (r3 := 0) rfl rfl ?_
            refine wr_gi0 (k0 := 236) (x := h 236 42) (nx := 16) (r1 := 11) (r2 := 42) (r3 := 0) rfl rfl (by decide) rfl ⟨rfl, rfl⟩ rfl ((u23 236 42 rfl).trans (u21 236 42 rfl)) ?_
            refine wi_iload_n (i := 1) (e := z13) (nx := 17) (r1 := 0) (r2 := 0) (r3 := 0) rfl rfl ?_
            obtain ⟨i40, ei40⟩ : ∃ q : Nat, (h 236 42) = (q : Int) := ⟨(h 236 42).toNat, by omega⟩
            refine wr_is (k0 := 253) (a := h 236 42) (f := i40) (x := z13) (bl := 0) (bh := 8) (nx := 18) (r1 := 0) (r2 := 0) (r3 := 0) rfl (by decide) rfl (by omega) (by omega) (by decide) g23 rfl (by omega) (fun h41 g41 w41 u41 => ?_)
            have F42 := F27.then rfl (FR.rngp (lo := 253) (hi := 253) u41 (by decide))
            refine wi_aload_n (i := 0) (x := 236) (nx := 19) (r1 := 0) (r2 := 0) (r3 := 0) rfl rfl ?_
            refine wr_gr (k0 := 236) (x := 254) (nx := 22) (r1 := 11) (r2 := 38) (r3 := 0) rfl rfl (by decide) rfl ⟨rfl, rfl⟩ rfl ?_
            refine wi_aload_n (i := 0) (x := 236) (nx := 23) (r1 := 0) (r2 := 0) (r3 := 0) rfl rfl ?_
            refine wr_gi0 (k0 := 236) (x := h 236 42) (nx := 26) (r1 := 11) (r2 := 42) (r3 := 0) rfl rfl (by decide) rfl ⟨rfl, rfl⟩ rfl ((u41 236 42 (fn_a (by omega) fn_0)).trans ((u23 236 42 rfl).trans (u21 236 42 rfl))) ?_
            refine wi_iload_n (i := 2) (e := 0) (nx := 27) (r1 := 0) (r2 := 0) (r3 := 0) rfl rfl ?_
            refine wr_is (k0 := 254) (a := h 236 42) (f := i40) (x := 0) (bl := 0) (bh := 999) (nx := 28) (r1 := 0) (r2 := 0) (r3 := 0) rfl (by decide) rfl (by omega) (by omega) (by decide) g41 rfl (by omega) (fun h43 g43 w43 u43 => ?_)
            have F44 := F42.then rfl (FR.rngp (lo := 254) (hi := 254) u43 (by decide))
            refine wi_aload_n (i := 0) (x := 236) (nx := 29) (r1 := 0) (r2 := 0) (r3 := 0) rfl rfl ?_
            refine wi_dup (nx := 30) (r1 := 0) (r2 := 0) (r3 := 0) rfl rfl ?_
            refine wr_gi0 (k0 := 236) (x := h 236 42) (nx := 33) (r1 := 11) (r2 := 42) (r3 := 0) rfl rfl (by decide) rfl ⟨rfl, rfl⟩ rfl ((u43 236 42 (fn_a (by omega) fn_0)).trans ((u41 236 42 (fn_a (by omega) fn_0)).trans ((u23 236 42 rfl).trans (u21 236 42 rfl)))) ?_
            refine wi_iconst (n := 1) (nx := 34) (r1 := 0) (r2 := 0) (r3 := 0) rfl ?_
            refine wr_add (nx := 35) (r1 := 0) (r2 := 0) (r3 := 0) rfl (fun e45 (fe45 : e45 = (h 236 42) + 1) => ?_)
            refine wr_pf0 (k0 := 236) (x := e45) (bl := 0) (bh := 80) (nx := 38) (r1 := 11) (r2 := 42) (r3 := 0) rfl (by decide) rfl ⟨rfl, rfl⟩ rfl rfl g43 rfl (by omega) (fun h46 g46 w46 u46 => ?_)
            have F47 := F44.then rfl u46
            refine wi_return (nx := 39) (r1 := 0) (r2 := 0) (r3 := 0) rfl rfl ?_
            refine wk_n ?_
            refine wi_return (nx := 153) (r1 := 0) (r2 := 0) (r3 := 0) rfl rfl ?_
            have e48 : h46 236 8 = h 236 8 := ((u46 236 8 rfl).trans ((u43 236 8 (fn_a (by omega) fn_0)).trans ((u41 236 8 (fn_a (by omega) fn_0)).trans ((u23 236 8 rfl).trans (u21 236 8 rfl)))))
            have e49 : h46 236 44 = h 236 44 := ((u46 236 44 rfl).trans ((u43 236 44 (fn_a (by omega) fn_0)).trans ((u41 236 44 (fn_a (by omega) fn_0)).trans ((u23 236 44 rfl).trans (u21 236 44 rfl)))))
            have e50 : h46 236 9 = h 236 9 := ((u46 236 9 rfl).trans ((u43 236 9 (fn_a (by omega) fn_0)).trans ((u41 236 9 (fn_a (by omega) fn_0)).trans ((u23 236 9 rfl).trans (u21 236 9 rfl)))))
            have e51 : h46 236 4 = h23 236 4 := ((u46 236 4 rfl).trans ((u43 236 4 (fn_a (by omega) fn_0)).trans (u41 236 4 (fn_a (by omega) fn_0))))
            have e52 : h46 236 6 = h23 236 6 := ((u46 236 6 rfl).trans ((u43 236 6 (fn_a (by omega) fn_0)).trans (u41 236 6 (fn_a (by omega) fn_0))))
            have e53 : h46 236 42 = e45 := w46
            have e54 : h46 236 43 = e20 := ((u46 236 43 rfl).trans ((u43 236 43 (fn_a (by omega) fn_0)).trans ((u41 236 43 (fn_a (by omega) fn_0)).trans ((u23 236 43 rfl).trans w21))))
            have q55 : h46 253 = h41 253 := funext (fun i => ((u46 253 i rfl).trans (u43 253 i (fn_a (by omega) fn_0))))
            have q56 : h23 253 = h 253 := funext (fun i => ((u23 253 i (fo_no_ok (by decide) i)).trans (u21 253 i rfl)))
            have e57 : h46 236 5 = h23 236 5 := ((u46 236 5 rfl).trans ((u43 236 5 (fn_a (by omega) fn_0)).trans (u41 236 5 (fn_a (by omega) fn_0))))
            have e58 : h46 236 7 = h23 236 7 := ((u46 236 7 rfl).trans ((u43 236 7 (fn_a (by omega) fn_0)).trans (u41 236 7 (fn_a (by omega) fn_0))))
            have e59 : h46 236 12 = h23 236 12 := ((u46 236 12 rfl).trans ((u43 236 12 (fn_a (by omega) fn_0)).trans (u41 236 12 (fn_a (by omega) fn_0))))
            exact k h46 g46 F47 (show (1 ≤ (h46 236 8)) ∨ ((h46 236 8) = 0 ∧ (h46 236 44) = (h 236 44) + 1) ∨ ((h46 236 8) = 0 ∧ (h46 236 44) = (h 236 44)) from (Or.inr (Or.inr (⟨by omega, by omega⟩)))) (show (h46 236 8) ≠ 0 ∨ (h46 236 9) = -1 from (Or.inr (by omega))) (show (h 236 4) ≤ (h46 236 4) by omega) (show (h46 236 4) ≤ (h 236 3) by omega) (show 1 ≤ (h46 236 8) ∨ (h46 236 6) = 0 ∨ (h 236 4) + 1 ≤ (h46 236 4) by omega) (show 1 ≤ (h46 236 8) ∨ (h46 236 42) + (h46 236 44) ≤ 2 * (h46 236 43) from (Or.inr (by omega))) (fun e => by
                rw [q55]
                refine WP.put (S := h 253) (n := h 236 42) (o := h 236 44) xq0 (by omega) (fun k hk => (u41 253 k (fn_i (by omega) fn_0)).trans (congrFun q56 k)) ?_ (by omega)
                rw [show (h 236 42).toNat = i40 by omega, w41]
                omega) (Or.inr (Or.inr ⟨by omega, by omega, by omega, (tk_nx tB tn tp), by omega, by omega, by omega, (by first | assumption | exact ⟨by omega, by omega, TKk.mv (by assumption) (by omega) (by omega) (by omega)⟩), (fun e => by unfold sc_cmd; (repeat (first | unfold sc_hd | unfold sc_num | unfold sc_mk)); (try dsimp only); rw [if_pos dw14]; (repeat (first | unfold sc_hd | unfold sc_num | unfold sc_mk)); (try dsimp only); rw [if_neg (show ¬ (tk_wd (tk_lw tB tn tp) = 20 ∧ 2 ≤ h 236 44) from fun e => absurd e.1 (by omega))]; (repeat (first | unfold sc_hd | unfold sc_num | unfold sc_mk)); (try dsimp only); rw [if_neg (by omega)]; (repeat (first | unfold sc_hd | unfold sc_num | unfold sc_mk)); (try dsimp only); rw [if_neg (by omega)]; (repeat (first | unfold sc_hd | unfold sc_num | unfold sc_mk)); (try dsimp only); rw [if_neg (by omega)]; (repeat (first | unfold sc_hd | unfold sc_num | unfold sc_mk)); (try dsimp only); rw [if_neg (by omega)]; (repeat (first | unfold sc_hd | unfold sc_num | unfold sc_mk)); (try dsimp only); rw [if_neg (show ¬ (tk_wd (tk_lw tB tn tp) = 20) by omega)]; (repeat (first | unfold sc_hd | unfold sc_num | unfold sc_mk)); (try dsimp only); rw [if_pos e]; first | done | exact sc_inr rfl (by omega) (by omega)), (fun e => by unfold sc_cmd; (repeat (first | unfold sc_hd | unfold sc_num | unfold sc_mk)); (try dsimp only); rw [if_pos dw14]; (repeat (first | unfold sc_hd | unfold sc_num | unfold sc_mk)); (try dsimp only); rw [if_neg (show ¬ (tk_wd (tk_lw tB tn tp) = 20 ∧ 2 ≤ h 236 44) from fun e => absurd e.1 (by omega))]; (repeat (first | unfold sc_hd | unfold sc_num | unfold sc_mk)); (try dsimp only); rw [if_neg (by omega)]; (repeat (first | unfold sc_hd | unfold sc_num | unfold sc_mk)); (try dsimp only); rw [if_neg (by omega)]; (repeat (first | unfold sc_hd | unfold sc_num | unfold sc_mk)); (try dsimp only); rw [if_neg (by omega)]; (repeat (first | unfold sc_hd | unfold sc_num | unfold sc_mk)); (try dsimp only); rw [if_neg (by omega)]; (repeat (first | unfold sc_hd | unfold sc_num | unfold sc_mk)); (try dsimp only); rw [if_neg (show ¬ (tk_wd (tk_lw tB tn tp) = 20) by omega)]; (repeat (first | unfold sc_hd | unfold sc_num | unfold sc_mk)); (try dsimp only); rw [if_neg e]; first | done | rfl)⟩))
          ·
            refine wi_aload_n (i := 0) (x := 236) (nx := 95) (r1 := 0) (r2 := 0) (r3 := 0) rfl rfl ?_
            refine wi_iload_n (i := 1) (e := z13) (nx := 96) (r1 := 0) (r2 := 0) (r3 := 0) rfl rfl ?_
            refine wi_aload_n (i := 0) (x := 236) (nx := 97) (r1 := 0) (r2 := 0) (r3 := 0) rfl rfl ?_
            refine wi_iconst (n := 1) (nx := 98) (r1 := 0) (r2 := 0) (r3 := 0) rfl ?_
            refine wi_bipush (n := 99) (nx := 100) (r1 := 0) (r2 := 0) (r3 := 0) rfl (by decide) ?_
            refine wr_V (k0 := 236) (rest := [vi z13, .ref 236]) (as := [.ref 236, vi 1, vi 99]) (nx := 103) (r1 := 231) (r2 := 2) (r3 := 11) rfl rfl rfl (of_decide_eq_true rfl) rfl rfl (by decide) rfl rfl (of_decide_eq_true rfl) (of_decide_eq_true rfl) ?_
            have e38 : h23 236 3 = h 236 3 := ((u23 236 3 rfl).trans (u21 236 3 rfl))
            have e39 : h23 236 8 = h 236 8 := ((u23 236 8 rfl).trans (u21 236 8 rfl))
            have rb41 := RefB.fr u23 rfl rb26
            refine ct_231_236 hcr  g23 1 99 (by omega) (by omega) (show (h23 236 4) ≤ (h23 236 3) by omega) (show 0 ≤ (tk_nx tB tn tp) by omega) (show (tk_nx tB tn tp) ≤ tn by omega) (show (tk_nx tB tn tp) ≤ tk_nx tB tn (tk_nx tB tn tp) ∧ tk_nx tB tn (tk_nx tB tn tp) ≤ tn from ⟨by omega, by omega⟩) (show 1 ≤ (h23 236 8) ∨ ((h23 236 4) = tk_nx tB tn (tk_nx tB tn tp) ∧ (h23 236 5) = tk_st tB tn (tk_nx tB tn tp) ∧ TKk tB tn (tk_nx tB tn tp) ((h23 236 6)) ((h23 236 7)) ((h23 236 12))) from (Or.inr (show ((h23 236 4) = tk_nx tB tn (tk_nx tB tn tp) ∧ (h23 236 5) = tk_st tB tn (tk_nx tB tn tp) ∧ TKk tB tn (tk_nx tB tn tp) ((h23 236 6)) ((h23 236 7)) ((h23 236 12))) by first | assumption | exact ⟨by omega, by omega, TKk.mv (by assumption) (by omega) (by omega) (by omega)⟩))) rb41 (fun h37 z40 g37 u37 (fz40 : 0 ≤ z40 ∧ z40 ≤ 999) (p37_0 : (1 ≤ (h23 236 8) ∧ (h37 236 8) = (h23 236 8) ∧ (h37 236 9) = (h23 236 9)) ∨ ((h23 236 8) = 0 ∧ tk_kd tB tn (tk_nx tB tn tp) = 2 ∧ 1 ≤ tk_nb tB tn (tk_nx tB tn tp) ∧ tk_nb tB tn (tk_nx tB tn tp) ≤ 99 ∧ z40 = tk_nb tB tn (tk_nx tB tn tp) ∧ (h37 236 8) = (h23 236 8) ∧ (h37 236 9) = (h23 236 9) ∧ ((h37 236 4) = tk_nx tB tn (tk_nx tB tn (tk_nx tB tn tp)) ∧ (h37 236 5) = tk_st tB tn (tk_nx tB tn (tk_nx tB tn tp)) ∧ TKk tB tn (tk_nx tB tn (tk_nx tB tn tp)) ((h37 236 6)) ((h37 236 7)) ((h37 236 12)))) ∨ ((h23 236 8) = 0 ∧ tk_kd tB tn (tk_nx tB tn tp) ≠ 2 ∧ (h37 236 8) = 1 ∧ (h37 236 9) = tk_st tB tn (tk_nx tB tn tp)) ∨ ((h23 236 8) = 0 ∧ tk_kd tB tn (tk_nx tB tn tp) = 2 ∧ (tk_nb tB tn (tk_nx tB tn tp) < 1 ∨ 99 < tk_nb tB tn (tk_nx tB tn tp)) ∧ (h37 236 8) = 2 ∧ (h37 236 9) = tk_st tB tn (tk_nx tB tn tp))) (p37_1 : (h23 236 4) ≤ (h37 236 4)) (p37_2 : (h37 236 4) ≤ (h23 236 3)) (p37_3 : 1 ≤ (h37 236 8) ∨ (h23 236 8) = 0) (p37_4 : 1 ≤ (h37 236 8) ∨ (1 ≤ z40 ∧ z40 ≤ 99)) (p37_5 : 1 ≤ (h37 236 8) ∨ (h23 236 6) = 2) => ?_)
            have F42 := F27.then (by decide +kernel) u37
            have e43 : h23 236 9 = h 236 9 := ((u23 236 9 rfl).trans (u21 236 9 rfl))
            have b44 := gi_b (lo := 0) (hi := 5) g37 236 8 rfl
            have b45 := gi_b (lo := -2147483648) (hi := 2147483647) g37 236 9 rfl
            have b46 := gi_b (lo := 0) (hi := 800) g37 236 4 rfl
            have b47 := gi_b (lo := 0) (hi := 800) g37 236 5 rfl
            have b48 := gi_b (lo := 0) (hi := 4) g37 236 6 rfl
            have b49 := gi_b (lo := 0) (hi := 999) g37 236 7 rfl
            have b50 := gi_b (lo := -9223372036854775808) (hi := 9223372036854775807) g37 236 12 rfl
            refine wk_i ?_
            rcases p37_0 with p37_0 | p37_0 | p37_0 | p37_0
            ·
              exfalso; omega
            ·
              replace p37_3 := p37_3.resolve_left (by omega)
              replace p37_4 := p37_4.resolve_left (by omega)
              replace p37_5 := p37_5.resolve_left (by omega)
              have tkk51 := (p37_0.2.2.2.2.2.2.2).2.2
              have dk52 : tk_kd tB tn (tk_nx tB tn tp) = 2 := p37_0.2.1
              have dr53 : 1 ≤ tk_nb tB tn (tk_nx tB tn tp) ∧ tk_nb tB tn (tk_nx tB tn tp) ≤ 99 := ⟨p37_0.2.2.1, p37_0.2.2.2.1⟩
              have tN54 := @tk_nx_b tB tn (tk_nx tB tn (tk_nx tB tn tp)) (by omega) (by omega)
              refine wr_V (k0 := 236) (rest := []) (as := [.ref 236, vi z13, vi z40]) (nx := 106) (r1 := 337) (r2 := 2) (r3 := 11) rfl rfl rfl (of_decide_eq_true rfl) rfl rfl (by decide) rfl rfl (of_decide_eq_true rfl) (of_decide_eq_true rfl) ?_
              refine wi_aload_n (i := 0) (x := 236) (nx := 1) (r1 := 0) (r2 := 0) (r3 := 0) rfl rfl ?_
              refine wr_V (k0 := 236) (rest := []) (as := [.ref 236]) (nx := 4) (r1 := 219) (r2 := 0) (r3 := 11) rfl rfl rfl (of_decide_eq_true rfl) rfl rfl (by decide) rfl rfl (of_decide_eq_true rfl) (of_decide_eq_true rfl) ?_
              refine wi_aload_n (i := 0) (x := 236) (nx := 1) (r1 := 0) (r2 := 0) (r3 := 0) rfl rfl ?_
              refine wr_gi0 (k0 := 236) (x := h37 236 8) (nx := 4) (r1 := 11) (r2 := 8) (r3 := 0) rfl rfl (by decide) rfl ⟨rfl, rfl⟩ rfl rfl ?_
              refine wi_if (cd := .ne) (nx := 7) (r1 := 11) (r2 := 0) (r3 := 0) rfl (by omega) (fun (q55 : (h37 236 8) ≠ 0) => by exfalso; omega) (fun (q55 : ¬ ((h37 236 8) ≠ 0)) => ?_)
              refine wi_iconst (n := 1) (nx := 8) (r1 := 0) (r2 := 0) (r3 := 0) rfl ?_
              refine wi_goto (nx := 11) (r1 := 12) (r2 := 0) (r3 := 0) rfl ?_
              refine wi_zreturn (nx := 13) (r1 := 0) (r2 := 0) (r3 := 0) rfl rfl (by omega) ?_
              refine wk_i ?_
              refine wi_if (cd := .ne) (nx := 7) (r1 := 8) (r2 := 0) (r3 := 0) rfl (by omega) (fun (q56 : 1 ≠ 0) => ?_) (fun (q56 : ¬ (1 ≠ 0)) => by exfalso; omega)
              refine wi_aload_n (i := 0) (x := 236) (nx := 9) (r1 := 0) (r2 := 0) (r3 := 0) rfl rfl ?_
              refine wr_gr (k0 := 236) (x := 253) (nx := 12) (r1 := 11) (r2 := 37) (r3 := 0) rfl rfl (by decide) rfl ⟨rfl, rfl⟩ rfl ?_
              refine wi_aload_n (i := 0) (x := 236) (nx := 13) (r1 := 0) (r2 := 0) (r3 := 0) rfl rfl ?_
              refine wr_gi0 (k0 := 236) (x := h 236 42) (nx := 16) (r1 := 11) (r2 := 42) (r3 := 0) rfl rfl (by decide) rfl ⟨rfl, rfl⟩ rfl ((u37 236 42 rfl).trans ((u23 236 42 rfl).trans (u21 236 42 rfl))) ?_
              refine wi_iload_n (i := 1) (e := z13) (nx := 17) (r1 := 0) (r2 := 0) (r3 := 0) rfl rfl ?_
              obtain ⟨i57, ei57⟩ : ∃ q : Nat, (h 236 42) = (q : Int) := ⟨(h 236 42).toNat, by omega⟩
              refine wr_is (k0 := 253) (a := h 236 42) (f := i57) (x := z13) (bl := 0) (bh := 8) (nx := 18) (r1 := 0) (r2 := 0) (r3 := 0) rfl (by decide) rfl (by omega) (by omega) (by decide) g37 rfl (by omega) (fun h58 g58 w58 u58 => ?_)
              have F59 := F42.then rfl (FR.rngp (lo := 253) (hi := 253) u58 (by decide))
              refine wi_aload_n (i := 0) (x := 236) (nx := 19) (r1 := 0) (r2 := 0) (r3 := 0) rfl rfl ?_
              refine wr_gr (k0 := 236) (x := 254) (nx := 22) (r1 := 11) (r2 := 38) (r3 := 0) rfl rfl (by decide) rfl ⟨rfl, rfl⟩ rfl ?_
              refine wi_aload_n (i := 0) (x := 236) (nx := 23) (r1 := 0) (r2 := 0) (r3 := 0) rfl rfl ?_
              refine wr_gi0 (k0 := 236) (x := h 236 42) (nx := 26) (r1 := 11) (r2 := 42) (r3 := 0) rfl rfl (by decide) rfl ⟨rfl, rfl⟩ rfl ((u58 236 42 (fn_a (by omega) fn_0)).trans ((u37 236 42 rfl).trans ((u23 236 42 rfl).trans (u21 236 42 rfl)))) ?_
              refine wi_iload_n (i := 2) (e := z40) (nx := 27) (r1 := 0) (r2 := 0) (r3 := 0) rfl rfl ?_
              refine wr_is (k0 := 254) (a := h 236 42) (f := i57) (x := z40) (bl := 0) (bh := 999) (nx := 28) (r1 := 0) (r2 := 0) (r3 := 0) rfl (by decide) rfl (by omega) (by omega) (by decide) g58 rfl (by omega) (fun h60 g60 w60 u60 => ?_)
              have F61 := F59.then rfl (FR.rngp (lo := 254) (hi := 254) u60 (by decide))
              refine wi_aload_n (i := 0) (x := 236) (nx := 29) (r1 := 0) (r2 := 0) (r3 := 0) rfl rfl ?_
              refine wi_dup (nx := 30) (r1 := 0) (r2 := 0) (r3 := 0) rfl rfl ?_
              refine wr_gi0 (k0 := 236) (x := h 236 42) (nx := 33) (r1 := 11) (r2 := 42) (r3 := 0) rfl rfl (by decide) rfl ⟨rfl, rfl⟩ rfl ((u60 236 42 (fn_a (by omega) fn_0)).trans ((u58 236 42 (fn_a (by omega) fn_0)).trans ((u37 236 42 rfl).trans ((u23 236 42 rfl).trans (u21 236 42 rfl))))) ?_
              refine wi_iconst (n := 1) (nx := 34) (r1 := 0) (r2 := 0) (r3 := 0) rfl ?_
              refine wr_add (nx := 35) (r1 := 0) (r2 := 0) (r3 := 0) rfl (fun e62 (fe62 : e62 = (h 236 42) + 1) => ?_)
              refine wr_pf0 (k0 := 236) (x := e62) (bl := 0) (bh := 80) (nx := 38) (r1 := 11) (r2 := 42) (r3 := 0) rfl (by decide) rfl ⟨rfl, rfl⟩ rfl rfl g60 rfl (by omega) (fun h63 g63 w63 u63 => ?_)
              have F64 := F61.then rfl u63
              refine wi_return (nx := 39) (r1 := 0) (r2 := 0) (r3 := 0) rfl rfl ?_
              refine wk_n ?_
              refine wi_goto (nx := 109) (r1 := 152) (r2 := 0) (r3 := 0) rfl ?_
              refine wi_return (nx := 153) (r1 := 0) (r2 := 0) (r3 := 0) rfl rfl ?_
              have e65 : h63 236 8 = h37 236 8 := ((u63 236 8 rfl).trans ((u60 236 8 (fn_a (by omega) fn_0)).trans (u58 236 8 (fn_a (by omega) fn_0))))
              have e66 : h63 236 44 = h 236 44 := ((u63 236 44 rfl).trans ((u60 236 44 (fn_a (by omega) fn_0)).trans ((u58 236 44 (fn_a (by omega) fn_0)).trans ((u37 236 44 rfl).trans ((u23 236 44 rfl).trans (u21 236 44 rfl))))))
              have e67 : h63 236 9 = h37 236 9 := ((u63 236 9 rfl).trans ((u60 236 9 (fn_a (by omega) fn_0)).trans (u58 236 9 (fn_a (by omega) fn_0))))
              have e68 : h63 236 4 = h37 236 4 := ((u63 236 4 rfl).trans ((u60 236 4 (fn_a (by omega) fn_0)).trans (u58 236 4 (fn_a (by omega) fn_0))))
              have e69 : h63 236 6 = h37 236 6 := ((u63 236 6 rfl).trans ((u60 236 6 (fn_a (by omega) fn_0)).trans (u58 236 6 (fn_a (by omega) fn_0))))
              have e70 : h63 236 42 = e62 := w63
              have e71 : h63 236 43 = e20 := ((u63 236 43 rfl).trans ((u60 236 43 (fn_a (by omega) fn_0)).trans ((u58 236 43 (fn_a (by omega) fn_0)).trans ((u37 236 43 rfl).trans ((u23 236 43 rfl).trans w21)))))
              have q72 : h63 253 = h58 253 := funext (fun i => ((u63 253 i rfl).trans (u60 253 i (fn_a (by omega) fn_0))))
              have q73 : h37 253 = h 253 := funext (fun i => ((u37 253 i (fo_no_ok (by decide) i)).trans ((u23 253 i (fo_no_ok (by decide) i)).trans (u21 253 i rfl))))
              have e74 : h63 236 5 = h37 236 5 := ((u63 236 5 rfl).trans ((u60 236 5 (fn_a (by omega) fn_0)).trans (u58 236 5 (fn_a (by omega) fn_0))))
              have e75 : h63 236 7 = h37 236 7 := ((u63 236 7 rfl).trans ((u60 236 7 (fn_a (by omega) fn_0)).trans (u58 236 7 (fn_a (by omega) fn_0))))
              have e76 : h63 236 12 = h37 236 12 := ((u63 236 12 rfl).trans ((u60 236 12 (fn_a (by omega) fn_0)).trans (u58 236 12 (fn_a (by omega) fn_0))))
              exact k h63 g63 F64 (show (1 ≤ (h63 236 8)) ∨ ((h63 236 8) = 0 ∧ (h63 236 44) = (h 236 44) + 1) ∨ ((h63 236 8) = 0 ∧ (h63 236 44) = (h 236 44)) from (Or.inr (Or.inr (⟨by omega, by omega⟩)))) (show (h63 236 8) ≠ 0 ∨ (h63 236 9) = -1 from (Or.inr (by omega))) (show (h 236 4) ≤ (h63 236 4) by omega) (show (h63 236 4) ≤ (h 236 3) by omega) (show 1 ≤ (h63 236 8) ∨ (h63 236 6) = 0 ∨ (h 236 4) + 1 ≤ (h63 236 4) by omega) (show 1 ≤ (h63 236 8) ∨ (h63 236 42) + (h63 236 44) ≤ 2 * (h63 236 43) from (Or.inr (by omega))) (fun e => by
                  rw [q72]
                  refine WP.put (S := h 253) (n := h 236 42) (o := h 236 44) xq0 (by omega) (fun k hk => (u58 253 k (fn_i (by omega) fn_0)).trans (congrFun q73 k)) ?_ (by omega)
                  rw [show (h 236 42).toNat = i57 by omega, w58]
                  omega) (Or.inr (Or.inr ⟨by omega, by omega, by omega, (tk_nx tB tn (tk_nx tB tn tp)), by omega, by omega, by omega, (by first | assumption | exact ⟨by omega, by omega, TKk.mv (by assumption) (by omega) (by omega) (by omega)⟩), (fun e => by unfold sc_cmd; (repeat (first | unfold sc_hd | unfold sc_num | unfold sc_mk)); (try dsimp only); rw [if_pos dw14]; (repeat (first | unfold sc_hd | unfold sc_num | unfold sc_mk)); (try dsimp only); rw [if_neg (show ¬ (tk_wd (tk_lw tB tn tp) = 20 ∧ 2 ≤ h 236 44) from fun e => absurd e.1 (by omega))]; (repeat (first | unfold sc_hd | unfold sc_num | unfold sc_mk)); (try dsimp only); rw [if_neg (by omega)]; (repeat (first | unfold sc_hd | unfold sc_num | unfold sc_mk)); (try dsimp only); rw [if_neg (by omega)]; (repeat (first | unfold sc_hd | unfold sc_num | unfold sc_mk)); (try dsimp only); rw [if_pos (by omega)]; (repeat (first | unfold sc_hd | unfold sc_num | unfold sc_mk)); (try dsimp only); rw [if_pos dk52]; (repeat (first | unfold sc_hd | unfold sc_num | unfold sc_mk)); (try dsimp only); rw [if_pos dr53]; (repeat (first | unfold sc_hd | unfold sc_num | unfold sc_mk)); (try dsimp only); rw [if_neg (show ¬ (tk_wd (tk_lw tB tn tp) = 20) by omega)]; (repeat (first | unfold sc_hd | unfold sc_num | unfold sc_mk)); (try dsimp only); rw [if_pos e]; first | done | exact sc_inr rfl (by omega) (by omega)), (fun e => by unfold sc_cmd; (repeat (first | unfold sc_hd | unfold sc_num | unfold sc_mk)); (try dsimp only); rw [if_pos dw14]; (repeat (first | unfold sc_hd | unfold sc_num | unfold sc_mk)); (try dsimp only); rw [if_neg (show ¬ (tk_wd (tk_lw tB tn tp) = 20 ∧ 2 ≤ h 236 44) from fun e => absurd e.1 (by omega))]; (repeat (first | unfold sc_hd | unfold sc_num | unfold sc_mk)); (try dsimp only); rw [if_neg (by omega)]; (repeat (first | unfold sc_hd | unfold sc_num | unfold sc_mk)); (try dsimp only); rw [if_neg (by omega)]; (repeat (first | unfold sc_hd | unfold sc_num | unfold sc_mk)); (try dsimp only); rw [if_pos (by omega)]; (repeat (first | unfold sc_hd | unfold sc_num | unfold sc_mk)); (try dsimp only); rw [if_pos dk52]; (repeat (first | unfold sc_hd | unfold sc_num | unfold sc_mk)); (try dsimp only); rw [if_pos dr53]; (repeat (first | unfold sc_hd | unfold sc_num | unfold sc_mk)); (try dsimp only); rw [if_neg (show ¬ (tk_wd (tk_lw tB tn tp) = 20) by omega)]; (repeat (first | unfold sc_hd | unfold sc_num | unfold sc_mk)); (try dsimp only); rw [if_neg e]; first | done | rfl)⟩))
            ·
              clear p37_3
              clear p37_4
              clear p37_5
              have dn51 : TKn (tk_kd tB tn (tk_nx tB tn tp) = 2) := p37_0.2.1
              replace p37_0 : _ := And.intro (p37_0.1) (And.intro (p37_0.2.2.1) (p37_0.2.2.2))
              refine wr_V (k0 := 236) (rest := []) (as := [.ref 236, vi z13, vi z40]) (nx := 106) (r1 := 337) (r2 := 2) (r3 := 11) rfl rfl rfl (of_decide_eq_true rfl) rfl rfl (by decide) rfl rfl (of_decide_eq_true rfl) (of_decide_eq_true rfl) ?_
              refine wi_aload_n (i := 0) (x := 236) (nx := 1) (r1 := 0) (r2 := 0) (r3 := 0) rfl rfl ?_
              refine wr_V (k0 := 236) (rest := []) (as := [.ref 236]) (nx := 4) (r1 := 219) (r2 := 0) (r3 := 11) rfl rfl rfl (of_decide_eq_true rfl) rfl rfl (by decide) rfl rfl (of_decide_eq_true rfl) (of_decide_eq_true rfl) ?_
              refine wi_aload_n (i := 0) (x := 236) (nx := 1) (r1 := 0) (r2 := 0) (r3 := 0) rfl rfl ?_
              refine wr_gi0 (k0 := 236) (x := h37 236 8) (nx := 4) (r1 := 11) (r2 := 8) (r3 := 0) rfl rfl (by decide) rfl ⟨rfl, rfl⟩ rfl rfl ?_
              refine wi_if (cd := .ne) (nx := 7) (r1 := 11) (r2 := 0) (r3 := 0) rfl (by omega) (fun (q52 : (h37 236 8) ≠ 0) => ?_) (fun (q52 : ¬ ((h37 236 8) ≠ 0)) => by exfalso; omega)
              refine wi_iconst (n := 0) (nx := 12) (r1 := 0) (r2 := 0) (r3 := 0) rfl ?_
              refine wi_zreturn (nx := 13) (r1 := 0) (r2 := 0) (r3 := 0) rfl rfl (by omega) ?_
              refine wk_i ?_
              refine wi_if (cd := .ne) (nx := 7) (r1 := 8) (r2 := 0) (r3 := 0) rfl (by omega) (fun (q53 : 0 ≠ 0) => by exfalso; omega) (fun (q53 : ¬ (0 ≠ 0)) => ?_)
              refine wi_return (nx := 8) (r1 := 0) (r2 := 0) (r3 := 0) rfl rfl ?_
              refine wk_n ?_
              refine wi_goto (nx := 109) (r1 := 152) (r2 := 0) (r3 := 0) rfl ?_
              refine wi_return (nx := 153) (r1 := 0) (r2 := 0) (r3 := 0) rfl rfl ?_
              have e54 : h37 236 44 = h 236 44 := ((u37 236 44 rfl).trans ((u23 236 44 rfl).trans (u21 236 44 rfl)))
              have e55 : h37 236 42 = h 236 42 := ((u37 236 42 rfl).trans ((u23 236 42 rfl).trans (u21 236 42 rfl)))
              have e56 : h37 236 43 = e20 := ((u37 236 43 rfl).trans ((u23 236 43 rfl).trans w21))
              exact k h37 g37 F42 (show (1 ≤ (h37 236 8)) ∨ ((h37 236 8) = 0 ∧ (h37 236 44) = (h 236 44) + 1) ∨ ((h37 236 8) = 0 ∧ (h37 236 44) = (h 236 44)) from (Or.inl (by omega))) (show (h37 236 8) ≠ 0 ∨ (h37 236 9) = -1 from (Or.inl (by omega))) (show (h 236 4) ≤ (h37 236 4) by omega) (show (h37 236 4) ≤ (h 236 3) by omega) (show 1 ≤ (h37 236 8) ∨ (h37 236 6) = 0 ∨ (h 236 4) + 1 ≤ (h37 236 4) from (Or.inl (by omega))) (show 1 ≤ (h37 236 8) ∨ (h37 236 42) + (h37 236 44) ≤ 2 * (h37 236 43) from (Or.inl (by omega))) (fun e => absurd e (by omega)) (Or.inl ⟨by omega, by unfold sc_cmd; (repeat (first | unfold sc_hd | unfold sc_num | unfold sc_mk)); (try dsimp only); rw [if_pos dw14]; (repeat (first | unfold sc_hd | unfold sc_num | unfold sc_mk)); (try dsimp only); rw [if_neg (show ¬ (tk_wd (tk_lw tB tn tp) = 20 ∧ 2 ≤ h 236 44) from fun e => absurd e.1 (by omega))]; (repeat (first | unfold sc_hd | unfold sc_num | unfold sc_mk)); (try dsimp only); rw [if_neg (by omega)]; (repeat (first | unfold sc_hd | unfold sc_num | unfold sc_mk)); (try dsimp only); rw [if_neg (by omega)]; (repeat (first | unfold sc_hd | unfold sc_num | unfold sc_mk)); (try dsimp only); rw [if_pos (by omega)]; (repeat (first | unfold sc_hd | unfold sc_num | unfold sc_mk)); (try dsimp only); rw [if_neg dn51.no]; (repeat (first | unfold sc_hd | unfold sc_num | unfold sc_mk)); (try dsimp only); first | done | exact sc_inl (by omega) (by omega)⟩)
            ·
              clear p37_3
              clear p37_4
              clear p37_5
              have dk51 : tk_kd tB tn (tk_nx tB tn tp) = 2 := p37_0.2.1
              have dr52 : TKn (1 ≤ tk_nb tB tn (tk_nx tB tn tp) ∧ tk_nb tB tn (tk_nx tB tn tp) ≤ 99) := tkn_r p37_0.2.2.1
              replace p37_0 : _ := And.intro (p37_0.1) (And.intro (p37_0.2.1) (And.intro (p37_0.2.2.2.1) (p37_0.2.2.2.2)))
              refine wr_V (k0 := 236) (rest := []) (as := [.ref 236, vi z13, vi z40]) (nx := 106) (r1 := 337) (r2 := 2) (r3 := 11) rfl rfl rfl (of_decide_eq_true rfl) rfl rfl (by decide) rfl rfl (of_decide_eq_true rfl) (of_decide_eq_true rfl) ?_
              refine wi_aload_n (i := 0) (x := 236) (nx := 1) (r1 := 0) (r2 := 0) (r3 := 0) rfl rfl ?_
              refine wr_V (k0 := 236) (rest := []) (as := [.ref 236]) (nx := 4) (r1 := 219) (r2 := 0) (r3 := 11) rfl rfl rfl (of_decide_eq_true rfl) rfl rfl (by decide) rfl rfl (of_decide_eq_true rfl) (of_decide_eq_true rfl) ?_
              refine wi_aload_n (i := 0) (x := 236) (nx := 1) (r1 := 0) (r2 := 0) (r3 := 0) rfl rfl ?_
              refine wr_gi0 (k0 := 236) (x := h37 236 8) (nx := 4) (r1 := 11) (r2 := 8) (r3 := 0) rfl rfl (by decide) rfl ⟨rfl, rfl⟩ rfl rfl ?_
              refine wi_if (cd := .ne) (nx := 7) (r1 := 11) (r2 := 0) (r3 := 0) rfl (by omega) (fun (q53 : (h37 236 8) ≠ 0) => ?_) (fun (q53 : ¬ ((h37 236 8) ≠ 0)) => by exfalso; omega)
              refine wi_iconst (n := 0) (nx := 12) (r1 := 0) (r2 := 0) (r3 := 0) rfl ?_
              refine wi_zreturn (nx := 13) (r1 := 0) (r2 := 0) (r3 := 0) rfl rfl (by omega) ?_
              refine wk_i ?_
              refine wi_if (cd := .ne) (nx := 7) (r1 := 8) (r2 := 0) (r3 := 0) rfl (by omega) (fun (q54 : 0 ≠ 0) => by exfalso; omega) (fun (q54 : ¬ (0 ≠ 0)) => ?_)
              refine wi_return (nx := 8) (r1 := 0) (r2 := 0) (r3 := 0) rfl rfl ?_
              refine wk_n ?_
              refine wi_goto (nx := 109) (r1 := 152) (r2 := 0) (r3 := 0) rfl ?_
              refine wi_return (nx := 153) (r1 := 0) (r2 := 0) (r3 := 0) rfl rfl ?_
              have e55 : h37 236 44 = h 236 44 := ((u37 236 44 rfl).trans ((u23 236 44 rfl).trans (u21 236 44 rfl)))
              have e56 : h37 236 42 = h 236 42 := ((u37 236 42 rfl).trans ((u23 236 42 rfl).trans (u21 236 42 rfl)))
              have e57 : h37 236 43 = e20 := ((u37 236 43 rfl).trans ((u23 236 43 rfl).trans w21))
              exact k h37 g37 F42 (show (1 ≤ (h37 236 8)) ∨ ((h37 236 8) = 0 ∧ (h37 236 44) = (h 236 44) + 1) ∨ ((h37 236 8) = 0 ∧ (h37 236 44) = (h 236 44)) from (Or.inl (by omega))) (show (h37 236 8) ≠ 0 ∨ (h37 236 9) = -1 from (Or.inl (by omega))) (show (h 236 4) ≤ (h37 236 4) by omega) (show (h37 236 4) ≤ (h 236 3) by omega) (show 1 ≤ (h37 236 8) ∨ (h37 236 6) = 0 ∨ (h 236 4) + 1 ≤ (h37 236 4) from (Or.inl (by omega))) (show 1 ≤ (h37 236 8) ∨ (h37 236 42) + (h37 236 44) ≤ 2 * (h37 236 43) from (Or.inl (by omega))) (fun e => absurd e (by omega)) (Or.inl ⟨by omega, by unfold sc_cmd; (repeat (first | unfold sc_hd | unfold sc_num | unfold sc_mk)); (try dsimp only); rw [if_pos dw14]; (repeat (first | unfold sc_hd | unfold sc_num | unfold sc_mk)); (try dsimp only); rw [if_neg (show ¬ (tk_wd (tk_lw tB tn tp) = 20 ∧ 2 ≤ h 236 44) from fun e => absurd e.1 (by omega))]; (repeat (first | unfold sc_hd | unfold sc_num | unfold sc_mk)); (try dsimp only); rw [if_neg (by omega)]; (repeat (first | unfold sc_hd | unfold sc_num | unfold sc_mk)); (try dsimp only); rw [if_neg (by omega)]; (repeat (first | unfold sc_hd | unfold sc_num | unfold sc_mk)); (try dsimp only); rw [if_pos (by omega)]; (repeat (first | unfold sc_hd | unfold sc_num | unfold sc_mk)); (try dsimp only); rw [if_pos dk51]; (repeat (first | unfold sc_hd | unfold sc_num | unfold sc_mk)); (try dsimp only); rw [if_neg dr52.no]; (repeat (first | unfold sc_hd | unfold sc_num | unfold sc_mk)); (try dsimp only); first | done | exact sc_inl (by omega) (by omega)⟩)
        ·
          refine wi_aload_n (i := 0) (x := 236) (nx := 76) (r1 := 0) (r2 := 0) (r3 := 0) rfl rfl ?_
          refine wi_iload_n (i := 1) (e := z13) (nx := 77) (r1 := 0) (r2 := 0) (r3 := 0) rfl rfl ?_
          refine wi_aload_n (i := 0) (x := 236) (nx := 78) (r1 := 0) (r2 := 0) (r3 := 0) rfl rfl ?_
          refine wi_iconst (n := 0) (nx := 79) (r1 := 0) (r2 := 0) (r3 := 0) rfl ?_
          refine wi_iconst (n := 3) (nx := 80) (r1 := 0) (r2 := 0) (r3 := 0) rfl ?_
          refine wr_V (k0 := 236) (rest := [vi z13, .ref 236]) (as := [.ref 236, vi 0, vi 3]) (nx := 83) (r1 := 231) (r2 := 2) (r3 := 11) rfl rfl rfl (of_decide_eq_true rfl) rfl rfl (by decide) rfl rfl (of_decide_eq_true rfl) (of_decide_eq_true rfl) ?_
          have e37 : h23 236 3 = h 236 3 := ((u23 236 3 rfl).trans (u21 236 3 rfl))
          have e38 : h23 236 8 = h 236 8 := ((u23 236 8 rfl).trans (u21 236 8 rfl))
          have rb40 := RefB.fr u23 rfl rb26
          refine ct_231_236 hcr  g23 0 3 (by omega) (by omega) (show (h23 236 4) ≤ (h23 236 3) by omega) (show 0 ≤ (tk_nx tB tn tp) by omega) (show (tk_nx tB tn tp) ≤ tn by omega) (show (tk_nx tB tn tp) ≤ tk_nx tB tn (tk_nx tB tn tp) ∧ tk_nx tB tn (tk_nx tB tn tp) ≤ tn from ⟨by omega, by omega⟩) (show 1 ≤ (h23 236 8) ∨ ((h23 236 4) = tk_nx tB tn (tk_nx tB tn tp) ∧ (h23 236 5) = tk_st tB tn (tk_nx tB tn tp) ∧ TKk tB tn (tk_nx tB tn tp) ((h23 236 6)) ((h23 236 7)) ((h23 236 12))) from (Or.inr (show ((h23 236 4) = tk_nx tB tn (tk_nx tB tn tp) ∧ (h23 236 5) = tk_st tB tn (tk_nx tB tn tp) ∧ TKk tB tn (tk_nx tB tn tp) ((h23 236 6)) ((h23 236 7)) ((h23 236 12))) by first | assumption | exact ⟨by omega, by omega, TKk.mv (by assumption) (by omega) (by omega) (by omega)⟩))) rb40 (fun h36 z39 g36 u36 (fz39 : 0 ≤ z39 ∧ z39 ≤ 999) (p36_0 : (1 ≤ (h23 236 8) ∧ (h36 236 8) = (h23 236 8) ∧ (h36 236 9) = (h23 236 9)) ∨ ((h23 236 8) = 0 ∧ tk_kd tB tn (tk_nx tB tn tp) = 2 ∧ 0 ≤ tk_nb tB tn (tk_nx tB tn tp) ∧ tk_nb tB tn (tk_nx tB tn tp) ≤ 3 ∧ z39 = tk_nb tB tn (tk_nx tB tn tp) ∧ (h36 236 8) = (h23 236 8) ∧ (h36 236 9) = (h23 236 9) ∧ ((h36 236 4) = tk_nx tB tn (tk_nx tB tn (tk_nx tB tn tp)) ∧ (h36 236 5) = tk_st tB tn (tk_nx tB tn (tk_nx tB tn tp)) ∧ TKk tB tn (tk_nx tB tn (tk_nx tB tn tp)) ((h36 236 6)) ((h36 236 7)) ((h36 236 12)))) ∨ ((h23 236 8) = 0 ∧ tk_kd tB tn (tk_nx tB tn tp) ≠ 2 ∧ (h36 236 8) = 1 ∧ (h36 236 9) = tk_st tB tn (tk_nx tB tn tp)) ∨ ((h23 236 8) = 0 ∧ tk_kd tB tn (tk_nx tB tn tp) = 2 ∧ (tk_nb tB tn (tk_nx tB tn tp) < 0 ∨ 3 < tk_nb tB tn (tk_nx tB tn tp)) ∧ (h36 236 8) = 2 ∧ (h36 236 9) = tk_st tB tn (tk_nx tB tn tp))) (p36_1 : (h23 236 4) ≤ (h36 236 4)) (p36_2 : (h36 236 4) ≤ (h23 236 3)) (p36_3 : 1 ≤ (h36 236 8) ∨ (h23 236 8) = 0) (p36_4 : 1 ≤ (h36 236 8) ∨ (0 ≤ z39 ∧ z39 ≤ 3)) (p36_5 : 1 ≤ (h36 236 8) ∨ (h23 236 6) = 2) => ?_)
          have F41 := F27.then (by decide +kernel) u36
          have e42 : h23 236 9 = h 236 9 := ((u23 236 9 rfl).trans (u21 236 9 rfl))
          have b43 := gi_b (lo := 0) (hi := 5) g36 236 8 rfl
          have b44 := gi_b (lo := -2147483648) (hi := 2147483647) g36 236 9 rfl
          have b45 := gi_b (lo := 0) (hi := 800) g36 236 4 rfl
          have b46 := gi_b (lo := 0) (hi := 800) g36 236 5 rfl
          have b47 := gi_b (lo := 0) (hi := 4) g36 236 6 rfl
          have b48 := gi_b (lo := 0) (hi := 999) g36 236 7 rfl
          have b49 := gi_b (lo := -9223372036854775808) (hi := 9223372036854775807) g36 236 12 rfl
          refine wk_i ?_
          rcases p36_0 with p36_0 | p36_0 | p36_0 | p36_0
          ·
            exfalso; omega
          ·
            replace p36_3 := p36_3.resolve_left (by omega)
            replace p36_4 := p36_4.resolve_left (by omega)
            replace p36_5 := p36_5.resolve_left (by omega)
            have tkk50 := (p36_0.2.2.2.2.2.2.2).2.2
            have dk51 : tk_kd tB tn (tk_nx tB tn tp) = 2 := p36_0.2.1
            have dr52 : 0 ≤ tk_nb tB tn (tk_nx tB tn tp) ∧ tk_nb tB tn (tk_nx tB tn tp) ≤ 3 := ⟨p36_0.2.2.1, p36_0.2.2.2.1⟩
            have tN53 := @tk_nx_b tB tn (tk_nx tB tn (tk_nx tB tn tp)) (by omega) (by omega)
            refine wr_V (k0 := 236) (rest := []) (as := [.ref 236, vi z13, vi z39]) (nx := 86) (r1 := 337) (r2 := 2) (r3 := 11) rfl rfl rfl (of_decide_eq_true rfl) rfl rfl (by decide) rfl rfl (of_decide_eq_true rfl) (of_decide_eq_true rfl) ?_
            refine wi_aload_n (i := 0) (x := 236) (nx := 1) (r1 := 0) (r2 := 0) (r3 := 0) rfl rfl ?_
            refine wr_V (k0 := 236) (rest := []) (as := [.ref 236]) (nx := 4) (r1 := 219) (r2 := 0) (r3 := 11) rfl rfl rfl (of_decide_eq_true rfl) rfl rfl (by decide) rfl rfl (of_decide_eq_true rfl) (of_decide_eq_true rfl) ?_
            refine wi_aload_n (i := 0) (x := 236) (nx := 1) (r1 := 0) (r2 := 0) (r3 := 0) rfl rfl ?_
            refine wr_gi0 (k0 := 236) (x := h36 236 8) (nx := 4) (r1 := 11) (r2 := 8) (r3 := 0) rfl rfl (by decide) rfl ⟨rfl, rfl⟩ rfl rfl ?_
            refine wi_if (cd := .ne) (nx := 7) (r1 := 11) (r2 := 0) (r3 := 0) rfl (by omega) (fun (q54 : (h36 236 8) ≠ 0) => by exfalso; omega) (fun (q54 : ¬ ((h36 236 8) ≠ 0)) => ?_)
            refine wi_iconst (n := 1) (nx := 8) (r1 := 0) (r2 := 0) (r3 := 0) rfl ?_
            refine wi_goto (nx := 11) (r1 := 12) (r2 := 0) (r3 := 0) rfl ?_
            refine wi_zreturn (nx := 13) (r1 := 0) (r2 := 0) (r3 := 0) rfl rfl (by omega) ?_
            refine wk_i ?_
            refine wi_if (cd := .ne) (nx := 7) (r1 := 8) (r2 := 0) (r3 := 0) rfl (by omega) (fun (q55 : 1 ≠ 0) => ?_) (fun (q55 : ¬ (1 ≠ 0)) => by exfalso; omega)
            refine wi_aload_n (i := 0) (x := 236) (nx := 9) (r1 := 0) (r2 := 0) (r3 := 0) rfl rfl ?_
            refine wr_gr (k0 := 236) (x := 253) (nx := 12) (r1 := 11) (r2 := 37) (r3 := 0) rfl rfl (by decide) rfl ⟨rfl, rfl⟩ rfl ?_
            refine wi_aload_n (i := 0) (x := 236) (nx := 13) (r1 := 0) (r2 := 0) (r3 := 0) rfl rfl ?_
            refine wr_gi0 (k0 := 236) (x := h 236 42) (nx := 16) (r1 := 11) (r2 := 42) (r3 := 0) rfl rfl (by decide) rfl ⟨rfl, rfl⟩ rfl ((u36 236 42 rfl).trans ((u23 236 42 rfl).trans (u21 236 42 rfl))) ?_
            refine wi_iload_n (i := 1) (e := z13) (nx := 17) (r1 := 0) (r2 := 0) (r3 := 0) rfl rfl ?_
            obtain ⟨i56, ei56⟩ : ∃ q : Nat, (h 236 42) = (q : Int) := ⟨(h 236 42).toNat, by omega⟩
            refine wr_is (k0 := 253) (a := h 236 42) (f := i56) (x := z13) (bl := 0) (bh := 8) (nx := 18) (r1 := 0) (r2 := 0) (r3 := 0) rfl (by decide) rfl (by omega) (by omega) (by decide) g36 rfl (by omega) (fun h57 g57 w57 u57 => ?_)
            have F58 := F41.then rfl (FR.rngp (lo := 253) (hi := 253) u57 (by decide))
            refine wi_aload_n (i := 0) (x := 236) (nx := 19) (r1 := 0) (r2 := 0) (r3 := 0) rfl rfl ?_
            refine wr_gr (k0 := 236) (x := 254) (nx := 22) (r1 := 11) (r2 := 38) (r3 := 0) rfl rfl (by decide) rfl ⟨rfl, rfl⟩ rfl ?_
            refine wi_aload_n (i := 0) (x := 236) (nx := 23) (r1 := 0) (r2 := 0) (r3 := 0) rfl rfl ?_
            refine wr_gi0 (k0 := 236) (x := h 236 42) (nx := 26) (r1 := 11) (r2 := 42) (r3 := 0) rfl rfl (by decide) rfl ⟨rfl, rfl⟩ rfl ((u57 236 42 (fn_a (by omega) fn_0)).trans ((u36 236 42 rfl).trans ((u23 236 42 rfl).trans (u21 236 42 rfl)))) ?_
            refine wi_iload_n (i := 2) (e := z39) (nx := 27) (r1 := 0) (r2 := 0) (r3 := 0) rfl rfl ?_
            refine wr_is (k0 := 254) (a := h 236 42) (f := i56) (x := z39) (bl := 0) (bh := 999) (nx := 28) (r1 := 0) (r2 := 0) (r3 := 0) rfl (by decide) rfl (by omega) (by omega) (by decide) g57 rfl (by omega) (fun h59 g59 w59 u59 => ?_)
            have F60 := F58.then rfl (FR.rngp (lo := 254) (hi := 254) u59 (by decide))
            refine wi_aload_n (i := 0) (x := 236) (nx := 29) (r1 := 0) (r2 := 0) (r3 := 0) rfl rfl ?_
            refine wi_dup (nx := 30) (r1 := 0) (r2 := 0) (r3 := 0) rfl rfl ?_
            refine wr_gi0 (k0 := 236) (x := h 236 42) (nx := 33) (r1 := 11) (r2 := 42) (r3 := 0) rfl rfl (by decide) rfl ⟨rfl, rfl⟩ rfl ((u59 236 42 (fn_a (by omega) fn_0)).trans ((u57 236 42 (fn_a (by omega) fn_0)).trans ((u36 236 42 rfl).trans ((u23 236 42 rfl).trans (u21 236 42 rfl))))) ?_
            refine wi_iconst (n := 1) (nx := 34) (r1 := 0) (r2 := 0) (r3 := 0) rfl ?_
            refine wr_add (nx := 35) (r1 := 0) (r2 := 0) (r3 := 0) rfl (fun e61 (fe61 : e61 = (h 236 42) + 1) => ?_)
            refine wr_pf0 (k0 := 236) (x := e61) (bl := 0) (bh := 80) (nx := 38) (r1 := 11) (r2 := 42) (r3 := 0) rfl (by decide) rfl ⟨rfl, rfl⟩ rfl rfl g59 rfl (by omega) (fun h62 g62 w62 u62 => ?_)
            have F63 := F60.then rfl u62
            refine wi_return (nx := 39) (r1 := 0) (r2 := 0) (r3 := 0) rfl rfl ?_
            refine wk_n ?_
            refine wi_goto (nx := 89) (r1 := 152) (r2 := 0) (r3 := 0) rfl ?_
            refine wi_return (nx := 153) (r1 := 0) (r2 := 0) (r3 := 0) rfl rfl ?_
            have e64 : h62 236 8 = h36 236 8 := ((u62 236 8 rfl).trans ((u59 236 8 (fn_a (by omega) fn_0)).trans (u57 236 8 (fn_a (by omega) fn_0))))
            have e65 : h62 236 44 = h 236 44 := ((u62 236 44 rfl).trans ((u59 236 44 (fn_a (by omega) fn_0)).trans ((u57 236 44 (fn_a (by omega) fn_0)).trans ((u36 236 44 rfl).trans ((u23 236 44 rfl).trans (u21 236 44 rfl))))))
            have e66 : h62 236 9 = h36 236 9 := ((u62 236 9 rfl).trans ((u59 236 9 (fn_a (by omega) fn_0)).trans (u57 236 9 (fn_a (by omega) fn_0))))
            have e67 : h62 236 4 = h36 236 4 := ((u62 236 4 rfl).trans ((u59 236 4 (fn_a (by omega) fn_0)).trans (u57 236 4 (fn_a (by omega) fn_0))))
            have e68 : h62 236 6 = h36 236 6 := ((u62 236 6 rfl).trans ((u59 236 6 (fn_a (by omega) fn_0)).trans (u57 236 6 (fn_a (by omega) fn_0))))
            have e69 : h62 236 42 = e61 := w62
            have e70 : h62 236 43 = e20 := ((u62 236 43 rfl).trans ((u59 236 43 (fn_a (by omega) fn_0)).trans ((u57 236 43 (fn_a (by omega) fn_0)).trans ((u36 236 43 rfl).trans ((u23 236 43 rfl).trans w21)))))
            have q71 : h62 253 = h57 253 := funext (fun i => ((u62 253 i rfl).trans (u59 253 i (fn_a (by omega) fn_0))))
            have q72 : h36 253 = h 253 := funext (fun i => ((u36 253 i (fo_no_ok (by decide) i)).trans ((u23 253 i (fo_no_ok (by decide) i)).trans (u21 253 i rfl))))
            have e73 : h62 236 5 = h36 236 5 := ((u62 236 5 rfl).trans ((u59 236 5 (fn_a (by omega) fn_0)).trans (u57 236 5 (fn_a (by omega) fn_0))))
            have e74 : h62 236 7 = h36 236 7 := ((u62 236 7 rfl).trans ((u59 236 7 (fn_a (by omega) fn_0)).trans (u57 236 7 (fn_a (by omega) fn_0))))
            have e75 : h62 236 12 = h36 236 12 := ((u62 236 12 rfl).trans ((u59 236 12 (fn_a (by omega) fn_0)).trans (u57 236 12 (fn_a (by omega) fn_0))))
            exact k h62 g62 F63 (show (1 ≤ (h62 236 8)) ∨ ((h62 236 8) = 0 ∧ (h62 236 44) = (h 236 44) + 1) ∨ ((h62 236 8) = 0 ∧ (h62 236 44) = (h 236 44)) from (Or.inr (Or.inr (⟨by omega, by omega⟩)))) (show (h62 236 8) ≠ 0 ∨ (h62 236 9) = -1 from (Or.inr (by omega))) (show (h 236 4) ≤ (h62 236 4) by omega) (show (h62 236 4) ≤ (h 236 3) by omega) (show 1 ≤ (h62 236 8) ∨ (h62 236 6) = 0 ∨ (h 236 4) + 1 ≤ (h62 236 4) by omega) (show 1 ≤ (h62 236 8) ∨ (h62 236 42) + (h62 236 44) ≤ 2 * (h62 236 43) from (Or.inr (by omega))) (fun e => by
                rw [q71]
                refine WP.put (S := h 253) (n := h 236 42) (o := h 236 44) xq0 (by omega) (fun k hk => (u57 253 k (fn_i (by omega) fn_0)).trans (congrFun q72 k)) ?_ (by omega)
                rw [show (h 236 42).toNat = i56 by omega, w57]
                omega) (Or.inr (Or.inr ⟨by omega, by omega, by omega, (tk_nx tB tn (tk_nx tB tn tp)), by omega, by omega, by omega, (by first | assumption | exact ⟨by omega, by omega, TKk.mv (by assumption) (by omega) (by omega) (by omega)⟩), (fun e => by unfold sc_cmd; (repeat (first | unfold sc_hd | unfold sc_num | unfold sc_mk)); (try dsimp only); rw [if_pos dw14]; (repeat (first | unfold sc_hd | unfold sc_num | unfold sc_mk)); (try dsimp only); rw [if_neg (show ¬ (tk_wd (tk_lw tB tn tp) = 20 ∧ 2 ≤ h 236 44) from fun e => absurd e.1 (by omega))]; (repeat (first | unfold sc_hd | unfold sc_num | unfold sc_mk)); (try dsimp only); rw [if_neg (by omega)]; (repeat (first | unfold sc_hd | unfold sc_num | unfold sc_mk)); (try dsimp only); rw [if_pos (by omega)]; (repeat (first | unfold sc_hd | unfold sc_num | unfold sc_mk)); (try dsimp only); rw [if_pos dk51]; (repeat (first | unfold sc_hd | unfold sc_num | unfold sc_mk)); (try dsimp only); rw [if_pos dr52]; (repeat (first | unfold sc_hd | unfold sc_num | unfold sc_mk)); (try dsimp only); rw [if_neg (show ¬ (tk_wd (tk_lw tB tn tp) = 20) by omega)]; (repeat (first | unfold sc_hd | unfold sc_num | unfold sc_mk)); (try dsimp only); rw [if_pos e]; first | done | exact sc_inr rfl (by omega) (by omega)), (fun e => by unfold sc_cmd; (repeat (first | unfold sc_hd | unfold sc_num | unfold sc_mk)); (try dsimp only); rw [if_pos dw14]; (repeat (first | unfold sc_hd | unfold sc_num | unfold sc_mk)); (try dsimp only); rw [if_neg (show ¬ (tk_wd (tk_lw tB tn tp) = 20 ∧ 2 ≤ h 236 44) from fun e => absurd e.1 (by omega))]; (repeat (first | unfold sc_hd | unfold sc_num | unfold sc_mk)); (try dsimp only); rw [if_neg (by omega)]; (repeat (first | unfold sc_hd | unfold sc_num | unfold sc_mk)); (try dsimp only); rw [if_pos (by omega)]; (repeat (first | unfold sc_hd | unfold sc_num | unfold sc_mk)); (try dsimp only); rw [if_pos dk51]; (repeat (first | unfold sc_hd | unfold sc_num | unfold sc_mk)); (try dsimp only); rw [if_pos dr52]; (repeat (first | unfold sc_hd | unfold sc_num | unfold sc_mk)); (try dsimp only); rw [if_neg (show ¬ (tk_wd (tk_lw tB tn tp) = 20) by omega)]; (repeat (first | unfold sc_hd | unfold sc_num | unfold sc_mk)); (try dsimp only); rw [if_neg e]; first | done | rfl)⟩))
          ·
            clear p36_3
            clear p36_4
            clear p36_5
            have dn50 : TKn (tk_kd tB tn (tk_nx tB tn tp) = 2) := p36_0.2.1
            replace p36_0 : _ := And.intro (p36_0.1) (And.intro (p36_0.2.2.1) (p36_0.2.2.2))
            refine wr_V (k0 := 236) (rest := []) (as := [.ref 236, vi z13, vi z39]) (nx := 86) (r1 := 337) (r2 := 2) (r3 := 11) rfl rfl rfl (of_decide_eq_true rfl) rfl rfl (by decide) rfl rfl (of_decide_eq_true rfl) (of_decide_eq_true rfl) ?_
            refine wi_aload_n (i := 0) (x := 236) (nx := 1) (r1 := 0) (r2 := 0) (r3 := 0) rfl rfl ?_
            refine wr_V (k0 := 236) (rest := []) (as := [.ref 236]) (nx := 4) (r1 := 219) (r2 := 0) (r3 := 11) rfl rfl rfl (of_decide_eq_true rfl) rfl rfl (by decide) rfl rfl (of_decide_eq_true rfl) (of_decide_eq_true rfl) ?_
            refine wi_aload_n (i := 0) (x := 236) (nx := 1) (r1 := 0) (r2 := 0) (r3 := 0) rfl rfl ?_
            refine wr_gi0 (k0 := 236) (x := h36 236 8) (nx := 4) (r1 := 11) (r2 := 8) (r3 := 0) rfl rfl (by decide) rfl ⟨rfl, rfl⟩ rfl rfl ?_
            refine wi_if (cd := .ne) (nx := 7) (r1 := 11) (r2 := 0) (r3 := 0) rfl (by omega) (fun (q51 : (h36 236 8) ≠ 0) => ?_) (fun (q51 : ¬ ((h36 236 8) ≠ 0)) => by exfalso; omega)
            refine wi_iconst (n := 0) (nx := 12) (r1 := 0) (r2 := 0) (r3 := 0) rfl ?_
            refine wi_zreturn (nx := 13) (r1 := 0) (r2 := 0) (r3 := 0) rfl rfl (by omega) ?_
            refine wk_i ?_
            refine wi_if (cd := .ne) (nx := 7) (r1 := 8) (r2 := 0) (r3 := 0) rfl (by omega) (fun (q52 : 0 ≠ 0) => by exfalso; omega) (fun (q52 : ¬ (0 ≠ 0)) => ?_)
            refine wi_return (nx := 8) (r1 := 0) (r2 := 0) (r3 := 0) rfl rfl ?_
            refine wk_n ?_
            refine wi_goto (nx := 89) (r1 := 152) (r2 := 0) (r3 := 0) rfl ?_
            refine wi_return (nx := 153) (r1 := 0) (r2 := 0) (r3 := 0) rfl rfl ?_
            have e53 : h36 236 44 = h 236 44 := ((u36 236 44 rfl).trans ((u23 236 44 rfl).trans (u21 236 44 rfl)))
            have e54 : h36 236 42 = h 236 42 := ((u36 236 42 rfl).trans ((u23 236 42 rfl).trans (u21 236 42 rfl)))
            have e55 : h36 236 43 = e20 := ((u36 236 43 rfl).trans ((u23 236 43 rfl).trans w21))
            exact k h36 g36 F41 (show (1 ≤ (h36 236 8)) ∨ ((h36 236 8) = 0 ∧ (h36 236 44) = (h 236 44) + 1) ∨ ((h36 236 8) = 0 ∧ (h36 236 44) = (h 236 44)) from (Or.inl (by omega))) (show (h36 236 8) ≠ 0 ∨ (h36 236 9) = -1 from (Or.inl (by omega))) (show (h 236 4) ≤ (h36 236 4) by omega) (show (h36 236 4) ≤ (h 236 3) by omega) (show 1 ≤ (h36 236 8) ∨ (h36 236 6) = 0 ∨ (h 236 4) + 1 ≤ (h36 236 4) from (Or.inl (by omega))) (show 1 ≤ (h36 236 8) ∨ (h36 236 42) + (h36 236 44) ≤ 2 * (h36 236 43) from (Or.inl (by omega))) (fun e => absurd e (by omega)) (Or.inl ⟨by omega, by unfold sc_cmd; (repeat (first | unfold sc_hd | unfold sc_num | unfold sc_mk)); (try dsimp only); rw [if_pos dw14]; (repeat (first | unfold sc_hd | unfold sc_num | unfold sc_mk)); (try dsimp only); rw [if_neg (show ¬ (tk_wd (tk_lw tB tn tp) = 20 ∧ 2 ≤ h 236 44) from fun e => absurd e.1 (by omega))]; (repeat (first | unfold sc_hd | unfold sc_num | unfold sc_mk)); (try dsimp only); rw [if_neg (by omega)]; (repeat (first | unfold sc_hd | unfold sc_num | unfold sc_mk)); (try dsimp only); rw [if_pos (by omega)]; (repeat (first | unfold sc_hd | unfold sc_num | unfold sc_mk)); (try dsimp only); rw [if_neg dn50.no]; (repeat (first | unfold sc_hd | unfold sc_num | unfold sc_mk)); (try dsimp only); first | done | exact sc_inl (by omega) (by omega)⟩)
          ·
            clear p36_3
            clear p36_4
            clear p36_5
            have dk50 : tk_kd tB tn (tk_nx tB tn tp) = 2 := p36_0.2.1
            have dr51 : TKn (0 ≤ tk_nb tB tn (tk_nx tB tn tp) ∧ tk_nb tB tn (tk_nx tB tn tp) ≤ 3) := tkn_r p36_0.2.2.1
            replace p36_0 : _ := And.intro (p36_0.1) (And.intro (p36_0.2.1) (And.intro (p36_0.2.2.2.1) (p36_0.2.2.2.2)))
            refine wr_V (k0 := 236) (rest := []) (as := [.ref 236, vi z13, vi z39]) (nx := 86) (r1 := 337) (r2 := 2) (r3 := 11) rfl rfl rfl (of_decide_eq_true rfl) rfl rfl (by decide) rfl rfl (of_decide_eq_true rfl) (of_decide_eq_true rfl) ?_
            refine wi_aload_n (i := 0) (x := 236) (nx := 1) (r1 := 0) (r2 := 0) (r3 := 0) rfl rfl ?_
            refine wr_V (k0 := 236) (rest := []) (as := [.ref 236]) (nx := 4) (r1 := 219) (r2 := 0) (r3 := 11) rfl rfl rfl (of_decide_eq_true rfl) rfl rfl (by decide) rfl rfl (of_decide_eq_true rfl) (of_decide_eq_true rfl) ?_
            refine wi_aload_n (i := 0) (x := 236) (nx := 1) (r1 := 0) (r2 := 0) (r3 := 0) rfl rfl ?_
            refine wr_gi0 (k0 := 236) (x := h36 236 8) (nx := 4) (r1 := 11) (r2 := 8) (r3 := 0) rfl rfl (by decide) rfl ⟨rfl, rfl⟩ rfl rfl ?_
            refine wi_if (cd := .ne) (nx := 7) (r1 := 11) (r2 := 0) (r3 := 0) rfl (by omega) (fun (q52 : (h36 236 8) ≠ 0) => ?_) (fun (q52 : ¬ ((h36 236 8) ≠ 0)) => by exfalso; omega)
            refine wi_iconst (n := 0) (nx := 12) (r1 := 0) (r2 := 0) (r3 := 0) rfl ?_
            refine wi_zreturn (nx := 13) (r1 := 0) (r2 := 0) (r3 := 0) rfl rfl (by omega) ?_
            refine wk_i ?_
            refine wi_if (cd := .ne) (nx := 7) (r1 := 8) (r2 := 0) (r3 := 0) rfl (by omega) (fun (q53 : 0 ≠ 0) => by exfalso; omega) (fun (q53 : ¬ (0 ≠ 0)) => ?_)
            refine wi_return (nx := 8) (r1 := 0) (r2 := 0) (r3 := 0) rfl rfl ?_
            refine wk_n ?_
            refine wi_goto (nx := 89) (r1 := 152) (r2 := 0) (r3 := 0) rfl ?_
            refine wi_return (nx := 153) (r1 := 0) (r2 := 0) (r3 := 0) rfl rfl ?_
            have e54 : h36 236 44 = h 236 44 := ((u36 236 44 rfl).trans ((u23 236 44 rfl).trans (u21 236 44 rfl)))
            have e55 : h36 236 42 = h 236 42 := ((u36 236 42 rfl).trans ((u23 236 42 rfl).trans (u21 236 42 rfl)))
            have e56 : h36 236 43 = e20 := ((u36 236 43 rfl).trans ((u23 236 43 rfl).trans w21))
            exact k h36 g36 F41 (show (1 ≤ (h36 236 8)) ∨ ((h36 236 8) = 0 ∧ (h36 236 44) = (h 236 44) + 1) ∨ ((h36 236 8) = 0 ∧ (h36 236 44) = (h 236 44)) from (Or.inl (by omega))) (show (h36 236 8) ≠ 0 ∨ (h36 236 9) = -1 from (Or.inl (by omega))) (show (h 236 4) ≤ (h36 236 4) by omega) (show (h36 236 4) ≤ (h 236 3) by omega) (show 1 ≤ (h36 236 8) ∨ (h36 236 6) = 0 ∨ (h 236 4) + 1 ≤ (h36 236 4) from (Or.inl (by omega))) (show 1 ≤ (h36 236 8) ∨ (h36 236 42) + (h36 236 44) ≤ 2 * (h36 236 43) from (Or.inl (by omega))) (fun e => absurd e (by omega)) (Or.inl ⟨by omega, by unfold sc_cmd; (repeat (first | unfold sc_hd | unfold sc_num | unfold sc_mk)); (try dsimp only); rw [if_pos dw14]; (repeat (first | unfold sc_hd | unfold sc_num | unfold sc_mk)); (try dsimp only); rw [if_neg (show ¬ (tk_wd (tk_lw tB tn tp) = 20 ∧ 2 ≤ h 236 44) from fun e => absurd e.1 (by omega))]; (repeat (first | unfold sc_hd | unfold sc_num | unfold sc_mk)); (try dsimp only); rw [if_neg (by omega)]; (repeat (first | unfold sc_hd | unfold sc_num | unfold sc_mk)); (try dsimp only); rw [if_pos (by omega)]; (repeat (first | unfold sc_hd | unfold sc_num | unfold sc_mk)); (try dsimp only); rw [if_pos dk50]; (repeat (first | unfold sc_hd | unfold sc_num | unfold sc_mk)); (try dsimp only); rw [if_neg dr51.no]; (repeat (first | unfold sc_hd | unfold sc_num | unfold sc_mk)); (try dsimp only); first | done | exact sc_inl (by omega) (by omega)⟩)
      ·
        refine wi_aload_n (i := 0) (x := 236) (nx := 44) (r1 := 0) (r2 := 0) (r3 := 0) rfl rfl ?_
        refine wi_iconst (n := 5) (nx := 45) (r1 := 0) (r2 := 0) (r3 := 0) rfl ?_
        refine wr_V (k0 := 236) (rest := []) (as := [.ref 236, vi 5]) (nx := 48) (r1 := 224) (r2 := 1) (r3 := 11) rfl rfl rfl (of_decide_eq_true rfl) rfl rfl (by decide) rfl rfl (of_decide_eq_true rfl) (of_decide_eq_true rfl) ?_
        refine ct_224_236 hcr  g 5 (by omega)  (fun h18 g18 u18 (p18_0 : 1 ≤ (h18 236 8)) (p18_1 : (1 ≤ (h 236 8) ∧ (h18 236 8) = (h 236 8) ∧ (h18 236 9) = (h 236 9)) ∨ ((h 236 8) = 0 ∧ (h18 236 9) = (h 236 5) ∧ (((h 236 6) = 4 ∧ (h18 236 8) = 1) ∨ ((h 236 6) ≠ 4 ∧ (h18 236 8) = 5)))) => ?_)
        have F19 := F0.then (by decide +kernel) u18
        have b20 := gi_b (lo := 0) (hi := 5) g18 236 8 rfl
        have b21 := gi_b (lo := -2147483648) (hi := 2147483647) g18 236 9 rfl
        replace p18_1 := p18_1.resolve_left (by omega)
        have ws22 : h 236 6 ≠ 4 := fun e => absurd (TKk.e4 (B := tB) (n := tn) (p := tp) (a6 := h 236 6) (by assumption) (e)) (show tk_kd tB tn tp ≠ 6 by omega)
        replace p18_1 := And.intro p18_1.2.1 (p18_1.2.2.resolve_left (fun x => ws22 x.1)).2
        clear ws22
        refine wk_n ?_
        refine wi_aload_n (i := 0) (x := 236) (nx := 49) (r1 := 0) (r2 := 0) (r3 := 0) rfl rfl ?_
        refine wr_V (k0 := 236) (rest := []) (as := [.ref 236]) (nx := 52) (r1 := 219) (r2 := 0) (r3 := 11) rfl rfl rfl (of_decide_eq_true rfl) rfl rfl (by decide) rfl rfl (of_decide_eq_true rfl) (of_decide_eq_true rfl) ?_
        refine wi_aload_n (i := 0) (x := 236) (nx := 1) (r1 := 0) (r2 := 0) (r3 := 0) rfl rfl ?_
        refine wr_gi0 (k0 := 236) (x := h18 236 8) (nx := 4) (r1 := 11) (r2 := 8) (r3 := 0) rfl rfl (by decide) rfl ⟨rfl, rfl⟩ rfl rfl ?_
        refine wi_if (cd := .ne) (nx := 7) (r1 := 11) (r2 := 0) (r3 := 0) rfl (by omega) (fun (q23 : (h18 236 8) ≠ 0) => ?_) (fun (q23 : ¬ ((h18 236 8) ≠ 0)) => by exfalso; omega)
        refine wi_iconst (n := 0) (nx := 12) (r1 := 0) (r2 := 0) (r3 := 0) rfl ?_
        refine wi_zreturn (nx := 13) (r1 := 0) (r2 := 0) (r3 := 0) rfl rfl (by omega) ?_
        refine wk_i ?_
        refine wi_if (cd := .ne) (nx := 55) (r1 := 56) (r2 := 0) (r3 := 0) rfl (by omega) (fun (q24 : 0 ≠ 0) => by exfalso; omega) (fun (q24 : ¬ (0 ≠ 0)) => ?_)
        refine wi_return (nx := 56) (r1 := 0) (r2 := 0) (r3 := 0) rfl rfl ?_
        have e25 : h18 236 44 = h 236 44 := (u18 236 44 rfl)
        have e26 : h18 236 4 = h 236 4 := (u18 236 4 rfl)
        have e27 : h18 236 6 = h 236 6 := (u18 236 6 rfl)
        have e28 : h18 236 42 = h 236 42 := (u18 236 42 rfl)
        have e29 : h18 236 43 = h 236 43 := (u18 236 43 rfl)
        exact k h18 g18 F19 (show (1 ≤ (h18 236 8)) ∨ ((h18 236 8) = 0 ∧ (h18 236 44) = (h 236 44) + 1) ∨ ((h18 236 8) = 0 ∧ (h18 236 44) = (h 236 44)) from (Or.inl (by omega))) (show (h18 236 8) ≠ 0 ∨ (h18 236 9) = -1 from (Or.inl (by omega))) (show (h 236 4) ≤ (h18 236 4) by omega) (show (h18 236 4) ≤ (h 236 3) by omega) (show 1 ≤ (h18 236 8) ∨ (h18 236 6) = 0 ∨ (h 236 4) + 1 ≤ (h18 236 4) from (Or.inl (by omega))) (show 1 ≤ (h18 236 8) ∨ (h18 236 42) + (h18 236 44) ≤ 2 * (h18 236 43) from (Or.inl (by omega))) (fun e => absurd e (by omega)) (Or.inl ⟨by omega, by unfold sc_cmd; (repeat (first | unfold sc_hd | unfold sc_num | unfold sc_mk)); (try dsimp only); rw [if_pos dw14]; (repeat (first | unfold sc_hd | unfold sc_num | unfold sc_mk)); (try dsimp only); rw [if_neg (show ¬ (tk_wd (tk_lw tB tn tp) = 20 ∧ 2 ≤ h 236 44) from fun e => absurd e.1 (by omega))]; (repeat (first | unfold sc_hd | unfold sc_num | unfold sc_mk)); (try dsimp only); rw [if_pos (by omega)]; (repeat (first | unfold sc_hd | unfold sc_num | unfold sc_mk)); (try dsimp only); first | done | exact sc_inl (by omega) (by omega)⟩)
    ·
      refine wi_aload_n (i := 0) (x := 236) (nx := 22) (r1 := 0) (r2 := 0) (r3 := 0) rfl rfl ?_
      refine wr_gi0 (k0 := 236) (x := h 236 44) (nx := 25) (r1 := 11) (r2 := 44) (r3 := 0) rfl rfl (by decide) rfl ⟨rfl, rfl⟩ rfl rfl ?_
      refine wi_iconst (n := 2) (nx := 26) (r1 := 0) (r2 := 0) (r3 := 0) rfl ?_
      refine wi_icmp (cd := .ne) (nx := 29) (r1 := 34) (r2 := 0) (r3 := 0) rfl (by omega) (by omega) (fun (q17 : (h 236 44) ≠ 2) => ?_) (fun (q17 : ¬ ((h 236 44) ≠ 2)) => ?_)
      ·
        replace q17 : (h 236 44) + 1 ≤ 2 := by omega
        refine wi_aload_n (i := 0) (x := 236) (nx := 35) (r1 := 0) (r2 := 0) (r3 := 0) rfl rfl ?_
        refine wr_gi0 (k0 := 236) (x := h 236 43) (nx := 38) (r1 := 11) (r2 := 43) (r3 := 0) rfl rfl (by decide) rfl ⟨rfl, rfl⟩ rfl rfl ?_
        refine wi_bipush (n := 40) (nx := 40) (r1 := 0) (r2 := 0) (r3 := 0) rfl (by decide) ?_
        refine wi_icmp (cd := .ne) (nx := 43) (r1 := 48) (r2 := 0) (r3 := 0) rfl (by omega) (by omega) (fun (q18 : (h 236 43) ≠ 40) => ?_) (fun (q18 : ¬ ((h 236 43) ≠ 40)) => ?_)
        ·
          replace q18 : (h 236 43) + 1 ≤ 40 := by omega
          refine wi_aload_n (i := 0) (x := 236) (nx := 49) (r1 := 0) (r2 := 0) (r3 := 0) rfl rfl ?_
          refine wr_V (k0 := 236) (rest := []) (as := [.ref 236]) (nx := 52) (r1 := 219) (r2 := 0) (r3 := 11) rfl rfl rfl (of_decide_eq_true rfl) rfl rfl (by decide) rfl rfl (of_decide_eq_true rfl) (of_decide_eq_true rfl) ?_
          refine wi_aload_n (i := 0) (x := 236) (nx := 1) (r1 := 0) (r2 := 0) (r3 := 0) rfl rfl ?_
          refine wr_gi0 (k0 := 236) (x := h 236 8) (nx := 4) (r1 := 11) (r2 := 8) (r3 := 0) rfl rfl (by decide) rfl ⟨rfl, rfl⟩ rfl rfl ?_
          refine wi_if (cd := .ne) (nx := 7) (r1 := 11) (r2 := 0) (r3 := 0) rfl (by omega) (fun (q19 : (h 236 8) ≠ 0) => by exfalso; omega) (fun (q19 : ¬ ((h 236 8) ≠ 0)) => ?_)
          refine wi_iconst (n := 1) (nx := 8) (r1 := 0) (r2 := 0) (r3 := 0) rfl ?_
          refine wi_goto (nx := 11) (r1 := 12) (r2 := 0) (r3 := 0) rfl ?_
          refine wi_zreturn (nx := 13) (r1 := 0) (r2 := 0) (r3 := 0) rfl rfl (by omega) ?_
          refine wk_i ?_
          refine wi_if (cd := .ne) (nx := 55) (r1 := 56) (r2 := 0) (r3 := 0) rfl (by omega) (fun (q20 : 1 ≠ 0) => ?_) (fun (q20 : ¬ (1 ≠ 0)) => by exfalso; omega)
          refine wi_aload_n (i := 0) (x := 236) (nx := 57) (r1 := 0) (r2 := 0) (r3 := 0) rfl rfl ?_
          refine wi_dup (nx := 58) (r1 := 0) (r2 := 0) (r3 := 0) rfl rfl ?_
          refine wr_gi0 (k0 := 236) (x := h 236 43) (nx := 61) (r1 := 11) (r2 := 43) (r3 := 0) rfl rfl (by decide) rfl ⟨rfl, rfl⟩ rfl rfl ?_
          refine wi_iconst (n := 1) (nx := 62) (r1 := 0) (r2 := 0) (r3 := 0) rfl ?_
          refine wr_add (nx := 63) (r1 := 0) (r2 := 0) (r3 := 0) rfl (fun e21 (fe21 : e21 = (h 236 43) + 1) => ?_)
          refine wr_pf0 (k0 := 236) (x := e21) (bl := 0) (bh := 40) (nx := 66) (r1 := 11) (r2 := 43) (r3 := 0) rfl (by decide) rfl ⟨rfl, rfl⟩ rfl rfl g rfl (by omega) (fun h22 g22 w22 u22 => ?_)
          have F23 := F0.then rfl u22
          refine wi_aload_n (i := 0) (x := 236) (nx := 67) (r1 := 0) (r2 := 0) (r3 := 0) rfl rfl ?_
          refine wr_V (k0 := 236) (rest := []) (as := [.ref 236]) (nx := 70) (r1 := 215) (r2 := 0) (r3 := 11) rfl rfl rfl (of_decide_eq_true rfl) rfl rfl (by decide) rfl rfl (of_decide_eq_true rfl) (of_decide_eq_true rfl) ?_
          have e25 : h22 236 4 = h 236 4 := (u22 236 4 rfl)
          have e26 : h22 236 3 = h 236 3 := (u22 236 3 rfl)
          have rb27 := RefB.fr u22 rfl xq1
          refine ct_215_236 hcr  g22   (show (h22 236 4) ≤ (h22 236 3) by omega) (show (h22 236 4) = (tk_nx tB tn tp) by omega) (show 0 ≤ (tk_nx tB tn tp) by omega) (show (tk_nx tB tn tp) ≤ tn by omega) rb27 (fun h24 g24 u24 (p24_0 : (h22 236 4) ≤ (h24 236 4)) (p24_1 : (h24 236 4) ≤ (h22 236 3)) (p24_2 : ((h24 236 4) = tk_nx tB tn (tk_nx tB tn tp) ∧ (h24 236 5) = tk_st tB tn (tk_nx tB tn tp) ∧ TKk tB tn (tk_nx tB tn tp) ((h24 236 6)) ((h24 236 7)) ((h24 236 12)))) (p24_3 : (tk_nx tB tn tp) ≤ tk_nx tB tn (tk_nx tB tn tp) ∧ tk_nx tB tn (tk_nx tB tn tp) ≤ tn) => ?_)
          have F28 := F23.then (by decide +kernel) u24
          have b29 := gi_b (lo := 0) (hi := 800) g24 236 4 rfl
          have b30 := gi_b (lo := 0) (hi := 800) g24 236 5 rfl
          have b31 := gi_b (lo := 0) (hi := 4) g24 236 6 rfl
          have b32 := gi_b (lo := 0) (hi := 999) g24 236 7 rfl
          have b33 := gi_b (lo := -9223372036854775808) (hi := 9223372036854775807) g24 236 12 rfl
          have tkk34 := p24_2.2.2
          have tN35 := @tk_nx_b tB tn (tk_nx tB tn tp) (by omega) (by omega)
          have kz24 : h24 236 6 ≠ 0 → tk_kd tB tn (tk_nx tB tn tp) ≠ 0 := TKk.n0 p24_2.2.2
          refine wk_n ?_
          refine wi_iload_n (i := 1) (e := z13) (nx := 71) (r1 := 0) (r2 := 0) (r3 := 0) rfl rfl ?_
          refine wi_iconst (n := 2) (nx := 72) (r1 := 0) (r2 := 0) (r3 := 0) rfl ?_
          refine wi_icmp (cd := .gt) (nx := 75) (r1 := 89) (r2 := 0) (r3 := 0) rfl (by omega) (by omega) (fun (q36 : 2 < z13) => ?_) (fun (q36 : ¬ (2 < z13)) => by exfalso; omega)
          refine wi_iload_n (i := 1) (e := z13) (nx := 90) (r1 := 0) (r2 := 0) (r3 := 0) rfl rfl ?_
          refine wi_iconst (n := 4) (nx := 91) (r1 := 0) (r2 := 0) (r3 := 0) rfl ?_
          refine wi_icmp (cd := .gt) (nx := 94) (r1 := 109) (r2 := 0) (r3 := 0) rfl (by omega) (by omega) (fun (q37 : 4 < z13) => ?_) (fun (q37 : ¬ (4 < z13)) => by exfalso; omega)
          refine wi_iload_n (i := 1) (e := z13) (nx := 110) (r1 := 0) (r2 := 0) (r3 := 0) rfl rfl ?_
          refine wi_bipush (n := 7) (nx := 112) (r1 := 0) (r2 := 0) (r3 := 0) rfl (by decide) ?_
          refine wi_icmp (cd := .ne) (nx := 115) (r1 := 146) (r2 := 0) (r3 := 0) rfl (by omega) (by omega) (fun (q38 : z13 ≠ 7) => by exfalso; omega) (fun (q38 : ¬ (z13 ≠ 7)) => ?_)
          refine wi_aload_n (i := 0) (x := 236) (nx := 116) (r1 := 0) (r2 := 0) (r3 := 0) rfl rfl ?_
          refine wi_iload_n (i := 1) (e := z13) (nx := 117) (r1 := 0) (r2 := 0) (r3 := 0) rfl rfl ?_
          refine wi_aload_n (i := 0) (x := 236) (nx := 118) (r1 := 0) (r2 := 0) (r3 := 0) rfl rfl ?_
          refine wi_iconst (n := 1) (nx := 119) (r1 := 0) (r2 := 0) (r3 := 0) rfl ?_
          refine wi_bipush (n := 20) (nx := 121) (r1 := 0) (r2 := 0) (r3 := 0) rfl (by decide) ?_
          refine wr_V (k0 := 236) (rest := [vi z13, .ref 236]) (as := [.ref 236, vi 1, vi 20]) (nx := 124) (r1 := 231) (r2 := 2) (r3 := 11) rfl rfl rfl (of_decide_eq_true rfl) rfl rfl (by decide) rfl rfl (of_decide_eq_true rfl) (of_decide_eq_true rfl) ?_
          have e40 : h24 236 3 = h 236 3 := ((u24 236 3 rfl).trans (u22 236 3 rfl))
          have e41 : h24 236 8 = h 236 8 := ((u24 236 8 rfl).trans (u22 236 8 rfl))
          have rb43 := RefB.fr u24 rfl rb27
          refine ct_231_236 hcr  g24 1 20 (by omega) (by omega) (show (h24 236 4) ≤ (h24 236 3) by omega) (show 0 ≤ (tk_nx tB tn tp) by omega) (show (tk_nx tB tn tp) ≤ tn by omega) (show (tk_nx tB tn tp) ≤ tk_nx tB tn (tk_nx tB tn tp) ∧ tk_nx tB tn (tk_nx tB tn tp) ≤ tn from ⟨by omega, by omega⟩) (show 1 ≤ (h24 236 8) ∨ ((h24 236 4) = tk_nx tB tn (tk_nx tB tn tp) ∧ (h24 236 5) = tk_st tB tn (tk_nx tB tn tp) ∧ TKk tB tn (tk_nx tB tn tp) ((h24 236 6)) ((h24 236 7)) ((h24 236 12))) from (Or.inr (show ((h24 236 4) = tk_nx tB tn (tk_nx tB tn tp) ∧ (h24 236 5) = tk_st tB tn (tk_nx tB tn tp) ∧ TKk tB tn (tk_nx tB tn tp) ((h24 236 6)) ((h24 236 7)) ((h24 236 12))) by first | assumption | exact ⟨by omega, by omega, TKk.mv (by assumption) (by omega) (by omega) (by omega)⟩))) rb43 (fun h39 z42 g39 u39 (fz42 : 0 ≤ z42 ∧ z42 ≤ 999) (p39_0 : (1 ≤ (h24 236 8) ∧ (h39 236 8) = (h24 236 8) ∧ (h39 236 9) = (h24 236 9)) ∨ ((h24 236 8) = 0 ∧ tk_kd tB tn (tk_nx tB tn tp) = 2 ∧ 1 ≤ tk_nb tB tn (tk_nx tB tn tp) ∧ tk_nb tB tn (tk_nx tB tn tp) ≤ 20 ∧ z42 = tk_nb tB tn (tk_nx tB tn tp) ∧ (h39 236 8) = (h24 236 8) ∧ (h39 236 9) = (h24 236 9) ∧ ((h39 236 4) = tk_nx tB tn (tk_nx tB tn (tk_nx tB tn tp)) ∧ (h39 236 5) = tk_st tB tn (tk_nx tB tn (tk_nx tB tn tp)) ∧ TKk tB tn (tk_nx tB tn (tk_nx tB tn tp)) ((h39 236 6)) ((h39 236 7)) ((h39 236 12)))) ∨ ((h24 236 8) = 0 ∧ tk_kd tB tn (tk_nx tB tn tp) ≠ 2 ∧ (h39 236 8) = 1 ∧ (h39 236 9) = tk_st tB tn (tk_nx tB tn tp)) ∨ ((h24 236 8) = 0 ∧ tk_kd tB tn (tk_nx tB tn tp) = 2 ∧ (tk_nb tB tn (tk_nx tB tn tp) < 1 ∨ 20 < tk_nb tB tn (tk_nx tB tn tp)) ∧ (h39 236 8) = 2 ∧ (h39 236 9) = tk_st tB tn (tk_nx tB tn tp))) (p39_1 : (h24 236 4) ≤ (h39 236 4)) (p39_2 : (h39 236 4) ≤ (h24 236 3)) (p39_3 : 1 ≤ (h39 236 8) ∨ (h24 236 8) = 0) (p39_4 : 1 ≤ (h39 236 8) ∨ (1 ≤ z42 ∧ z42 ≤ 20)) (p39_5 : 1 ≤ (h39 236 8) ∨ (h24 236 6) = 2) => ?_)
          have F44 := F28.then (by decide +kernel) u39
          have e45 : h24 236 9 = h 236 9 := ((u24 236 9 rfl).trans (u22 236 9 rfl))
          have b46 := gi_b (lo := 0) (hi := 5) g39 236 8 rfl
          have b47 := gi_b (lo := -2147483648) (hi := 2147483647) g39 236 9 rfl
          have b48 := gi_b (lo := 0) (hi := 800) g39 236 4 rfl
          have b49 := gi_b (lo := 0) (hi := 800) g39 236 5 rfl
          have b50 := gi_b (lo := 0) (hi := 4) g39 236 6 rfl
          have b51 := gi_b (lo := 0) (hi := 999) g39 236 7 rfl
          have b52 := gi_b (lo := -9223372036854775808) (hi := 9223372036854775807) g39 236 12 rfl
          refine wk_i ?_
          rcases p39_0 with p39_0 | p39_0 | p39_0 | p39_0
          ·
            exfalso; omega
          ·
            replace p39_3 := p39_3.resolve_left (by omega)
            replace p39_4 := p39_4.resolve_left (by omega)
            replace p39_5 := p39_5.resolve_left (by omega)
            have tkk53 := (p39_0.2.2.2.2.2.2.2).2.2
            have dk54 : tk_kd tB tn (tk_nx tB tn tp) = 2 := p39_0.2.1
            have dr55 : 1 ≤ tk_nb tB tn (tk_nx tB tn tp) ∧ tk_nb tB tn (tk_nx tB tn tp) ≤ 20 := ⟨p39_0.2.2.1, p39_0.2.2.2.1⟩
            have tN56 := @tk_nx_b tB tn (tk_nx tB tn (tk_nx tB tn tp)) (by omega) (by omega)
            refine wr_V (k0 := 236) (rest := []) (as := [.ref 236, vi z13, vi z42]) (nx := 127) (r1 := 337) (r2 := 2) (r3 := 11) rfl rfl rfl (of_decide_eq_true rfl) rfl rfl (by decide) rfl rfl (of_decide_eq_true rfl) (of_decide_eq_true rfl) ?_
            refine wi_aload_n (i := 0) (x := 236) (nx := 1) (r1 := 0) (r2 := 0) (r3 := 0) rfl rfl ?_
            refine wr_V (k0 := 236) (rest := []) (as := [.ref 236]) (nx := 4) (r1 := 219) (r2 := 0) (r3 := 11) rfl rfl rfl (of_decide_eq_true rfl) rfl rfl (by decide) rfl rfl (of_decide_eq_true rfl) (of_decide_eq_true rfl) ?_
            refine wi_aload_n (i := 0) (x := 236) (nx := 1) (r1 := 0) (r2 := 0) (r3 := 0) rfl rfl ?_
            refine wr_gi0 (k0 := 236) (x := h39 236 8) (nx := 4) (r1 := 11) (r2 := 8) (r3 := 0) rfl rfl (by decide) rfl ⟨rfl, rfl⟩ rfl rfl ?_
            refine wi_if (cd := .ne) (nx := 7) (r1 := 11) (r2 := 0) (r3 := 0) rfl (by omega) (fun (q57 : (h39 236 8) ≠ 0) => by exfalso; omega) (fun (q57 : ¬ ((h39 236 8) ≠ 0)) => ?_)
            refine wi_iconst (n := 1) (nx := 8) (r1 := 0) (r2 := 0) (r3 := 0) rfl ?_
            refine wi_goto (nx := 11) (r1 := 12) (r2 := 0) (r3 := 0) rfl ?_
            refine wi_zreturn (nx := 13) (r1 := 0) (r2 := 0) (r3 := 0) rfl rfl (by omega) ?_
            refine wk_i ?_
            refine wi_if (cd := .ne) (nx := 7) (r1 := 8) (r2 := 0) (r3 := 0) rfl (by omega) (fun (q58 : 1 ≠ 0) => ?_) (fun (q58 : ¬ (1 ≠ 0)) => by exfalso; omega)
            refine wi_aload_n (i := 0) (x := 236) (nx := 9) (r1 := 0) (r2 := 0) (r3 := 0) rfl rfl ?_
            refine wr_gr (k0 := 236) (x := 253) (nx := 12) (r1 := 11) (r2 := 37) (r3 := 0) rfl rfl (by decide) rfl ⟨rfl, rfl⟩ rfl ?_
            refine wi_aload_n (i := 0) (x := 236) (nx := 13) (r1 := 0) (r2 := 0) (r3 := 0) rfl rfl ?_
            refine wr_gi0 (k0 := 236) (x := h 236 42) (nx := 16) (r1 := 11) (r2 := 42) (r3 := 0) rfl rfl (by decide) rfl ⟨rfl, rfl⟩ rfl ((u39 236 42 rfl).trans ((u24 236 42 rfl).trans (u22 236 42 rfl))) ?_
            refine wi_iload_n (i := 1) (e := z13) (nx := 17) (r1 := 0) (r2 := 0) (r3 := 0) rfl rfl ?_
            obtain ⟨i59, ei59⟩ : ∃ q : Nat, (h 236 42) = (q : Int) := ⟨(h 236 42).toNat, by omega⟩
            refine wr_is (k0 := 253) (a := h 236 42) (f := i59) (x := z13) (bl := 0) (bh := 8) (nx := 18) (r1 := 0) (r2 := 0) (r3 := 0) rfl (by decide) rfl (by omega) (by omega) (by decide) g39 rfl (by omega) (fun h60 g60 w60 u60 => ?_)
            have F61 := F44.then rfl (FR.rngp (lo := 253) (hi := 253) u60 (by decide))
            refine wi_aload_n (i := 0) (x := 236) (nx := 19) (r1 := 0) (r2 := 0) (r3 := 0) rfl rfl ?_
            refine wr_gr (k0 := 236) (x := 254) (nx := 22) (r1 := 11) (r2 := 38) (r3 := 0) rfl rfl (by decide) rfl ⟨rfl, rfl⟩ rfl ?_
            refine wi_aload_n (i := 0) (x := 236) (nx := 23) (r1 := 0) (r2 := 0) (r3 := 0) rfl rfl ?_
            refine wr_gi0 (k0 := 236) (x := h 236 42) (nx := 26) (r1 := 11) (r2 := 42) (r3 := 0) rfl rfl (by decide) rfl ⟨rfl, rfl⟩ rfl ((u60 236 42 (fn_a (by omega) fn_0)).trans ((u39 236 42 rfl).trans ((u24 236 42 rfl).trans (u22 236 42 rfl)))) ?_
            refine wi_iload_n (i := 2) (e := z42) (nx := 27) (r1 := 0) (r2 := 0) (r3 := 0) rfl rfl ?_
            refine wr_is (k0 := 254) (a := h 236 42) (f := i59) (x := z42) (bl := 0) (bh := 999) (nx := 28) (r1 := 0) (r2 := 0) (r3 := 0) rfl (by decide) rfl (by omega) (by omega) (by decide) g60 rfl (by omega) (fun h62 g62 w62 u62 => ?_)
            have F63 := F61.then rfl (FR.rngp (lo := 254) (hi := 254) u62 (by decide))
            refine wi_aload_n (i := 0) (x := 236) (nx := 29) (r1 := 0) (r2 := 0) (r3 := 0) rfl rfl ?_
            refine wi_dup (nx := 30) (r1 := 0) (r2 := 0) (r3 := 0) rfl rfl ?_
            refine wr_gi0 (k0 := 236) (x := h 236 42) (nx := 33) (r1 := 11) (r2 := 42) (r3 := 0) rfl rfl (by decide) rfl ⟨rfl, rfl⟩ rfl ((u62 236 42 (fn_a (by omega) fn_0)).trans ((u60 236 42 (fn_a (by omega) fn_0)).trans ((u39 236 42 rfl).trans ((u24 236 42 rfl).trans (u22 236 42 rfl))))) ?_
            refine wi_iconst (n := 1) (nx := 34) (r1 := 0) (r2 := 0) (r3 := 0) rfl ?_
            refine wr_add (nx := 35) (r1 := 0) (r2 := 0) (r3 := 0) rfl (fun e64 (fe64 : e64 = (h 236 42) + 1) => ?_)
            refine wr_pf0 (k0 := 236) (x := e64) (bl := 0) (bh := 80) (nx := 38) (r1 := 11) (r2 := 42) (r3 := 0) rfl (by decide) rfl ⟨rfl, rfl⟩ rfl rfl g62 rfl (by omega) (fun h65 g65 w65 u65 => ?_)
            have F66 := F63.then rfl u65
            refine wi_return (nx := 39) (r1 := 0) (r2 := 0) (r3 := 0) rfl rfl ?_
            refine wk_n ?_
            refine wi_aload_n (i := 0) (x := 236) (nx := 128) (r1 := 0) (r2 := 0) (r3 := 0) rfl rfl ?_
            refine wi_bipush (n := 40) (nx := 130) (r1 := 0) (r2 := 0) (r3 := 0) rfl (by decide) ?_
            refine wr_V (k0 := 236) (rest := []) (as := [.ref 236, vi 40]) (nx := 133) (r1 := 235) (r2 := 1) (r3 := 11) rfl rfl rfl (of_decide_eq_true rfl) rfl rfl (by decide) rfl rfl (of_decide_eq_true rfl) (of_decide_eq_true rfl) ?_
            have e68 : h65 236 4 = h39 236 4 := ((u65 236 4 rfl).trans ((u62 236 4 (fn_a (by omega) fn_0)).trans (u60 236 4 (fn_a (by omega) fn_0))))
            have e69 : h65 236 3 = h 236 3 := ((u65 236 3 rfl).trans ((u62 236 3 (fn_a (by omega) fn_0)).trans ((u60 236 3 (fn_a (by omega) fn_0)).trans ((u39 236 3 rfl).trans ((u24 236 3 rfl).trans (u22 236 3 rfl))))))
            have e70 : h65 236 8 = h39 236 8 := ((u65 236 8 rfl).trans ((u62 236 8 (fn_a (by omega) fn_0)).trans (u60 236 8 (fn_a (by omega) fn_0))))
            have e71 : h65 236 5 = h39 236 5 := ((u65 236 5 rfl).trans ((u62 236 5 (fn_a (by omega) fn_0)).trans (u60 236 5 (fn_a (by omega) fn_0))))
            have e72 : h65 236 6 = h39 236 6 := ((u65 236 6 rfl).trans ((u62 236 6 (fn_a (by omega) fn_0)).trans (u60 236 6 (fn_a (by omega) fn_0))))
            have e73 : h65 236 7 = h39 236 7 := ((u65 236 7 rfl).trans ((u62 236 7 (fn_a (by omega) fn_0)).trans (u60 236 7 (fn_a (by omega) fn_0))))
            have e74 : h65 236 12 = h39 236 12 := ((u65 236 12 rfl).trans ((u62 236 12 (fn_a (by omega) fn_0)).trans (u60 236 12 (fn_a (by omega) fn_0))))
            have rb75 := RefB.fr u39 rfl rb43
            have rb76 := RefB.fr u60 rfl rb75
            have rb77 := RefB.fr u62 rfl rb76
            have rb78 := RefB.fr u65 rfl rb77
            refine ct_235_236_L40 hcr  g65   (show (h65 236 4) ≤ (h65 236 3) by omega) (show 0 ≤ (tk_nx tB tn (tk_nx tB tn tp)) by omega) (show (tk_nx tB tn (tk_nx tB tn tp)) ≤ tn by omega) (show (tk_nx tB tn (tk_nx tB tn tp)) ≤ tk_nx tB tn (tk_nx tB tn (tk_nx tB tn tp)) ∧ tk_nx tB tn (tk_nx tB tn (tk_nx tB tn tp)) ≤ tn from ⟨by omega, by omega⟩) (show 1 ≤ (h65 236 8) ∨ ((h65 236 4) = tk_nx tB tn (tk_nx tB tn (tk_nx tB tn tp)) ∧ (h65 236 5) = tk_st tB tn (tk_nx tB tn (tk_nx tB tn tp)) ∧ TKk tB tn (tk_nx tB tn (tk_nx tB tn tp)) ((h65 236 6)) ((h65 236 7)) ((h65 236 12))) from (Or.inr (show ((h65 236 4) = tk_nx tB tn (tk_nx tB tn (tk_nx tB tn tp)) ∧ (h65 236 5) = tk_st tB tn (tk_nx tB tn (tk_nx tB tn tp)) ∧ TKk tB tn (tk_nx tB tn (tk_nx tB tn tp)) ((h65 236 6)) ((h65 236 7)) ((h65 236 12))) by first | assumption | exact ⟨by omega, by omega, TKk.mv (by assumption) (by omega) (by omega) (by omega)⟩))) rb78 (fun h67 g67 u67 (p67_0 : (1 ≤ (h65 236 8) ∧ (h67 236 8) = (h65 236 8) ∧ (h67 236 9) = (h65 236 9)) ∨ ((h65 236 8) = 0 ∧ tk_kd tB tn (tk_nx tB tn (tk_nx tB tn tp)) = 4 ∧ (h67 236 8) = (h65 236 8) ∧ (h67 236 9) = (h65 236 9) ∧ ((h67 236 4) = tk_nx tB tn (tk_nx tB tn (tk_nx tB tn (tk_nx tB tn tp))) ∧ (h67 236 5) = tk_st tB tn (tk_nx tB tn (tk_nx tB tn (tk_nx tB tn tp))) ∧ TKk tB tn (tk_nx tB tn (tk_nx tB tn (tk_nx tB tn tp))) ((h67 236 6)) ((h67 236 7)) ((h67 236 12)))) ∨ ((h65 236 8) = 0 ∧ tk_kd tB tn (tk_nx tB tn (tk_nx tB tn tp)) ≠ 4 ∧ (h67 236 8) = 1 ∧ (h67 236 9) = tk_st tB tn (tk_nx tB tn (tk_nx tB tn tp)))) (p67_1 : (h65 236 4) ≤ (h67 236 4)) (p67_2 : (h67 236 4) ≤ (h65 236 3)) (p67_3 : 1 ≤ (h67 236 8) ∨ (h65 236 8) = 0) (p67_4 : 1 ≤ (h67 236 8) ∨ (h67 236 6) = 0 ∨ (h65 236 4) + 1 ≤ (h67 236 4)) => ?_)
            have F79 := F66.then (by decide +kernel) u67
            have e80 : h65 236 9 = h39 236 9 := ((u65 236 9 rfl).trans ((u62 236 9 (fn_a (by omega) fn_0)).trans (u60 236 9 (fn_a (by omega) fn_0))))
            have b81 := gi_b (lo := 0) (hi := 5) g67 236 8 rfl
            have b82 := gi_b (lo := -2147483648) (hi := 2147483647) g67 236 9 rfl
            have b83 := gi_b (lo := 0) (hi := 800) g67 236 4 rfl
            have b84 := gi_b (lo := 0) (hi := 800) g67 236 5 rfl
            have b85 := gi_b (lo := 0) (hi := 4) g67 236 6 rfl
            have b86 := gi_b (lo := 0) (hi := 999) g67 236 7 rfl
            have b87 := gi_b (lo := -9223372036854775808) (hi := 9223372036854775807) g67 236 12 rfl
            refine wk_n ?_
            rcases p67_0 with p67_0 | p67_0 | p67_0
            ·
              exfalso; omega
            ·
              replace p67_3 := p67_3.resolve_left (by omega)
              have tkk88 := (p67_0.2.2.2.2).2.2
              have dk89 : tk_kd tB tn (tk_nx tB tn (tk_nx tB tn tp)) = 4 := p67_0.2.1
              have tN90 := @tk_nx_b tB tn (tk_nx tB tn (tk_nx tB tn (tk_nx tB tn tp))) (by omega) (by omega)
              refine wi_aload_n (i := 0) (x := 236) (nx := 134) (r1 := 0) (r2 := 0) (r3 := 0) rfl rfl ?_
              refine wi_dup (nx := 135) (r1 := 0) (r2 := 0) (r3 := 0) rfl rfl ?_
              refine wr_gi0 (k0 := 236) (x := h 236 44) (nx := 138) (r1 := 11) (r2 := 44) (r3 := 0) rfl rfl (by decide) rfl ⟨rfl, rfl⟩ rfl ((u67 236 44 rfl).trans ((u65 236 44 rfl).trans ((u62 236 44 (fn_a (by omega) fn_0)).trans ((u60 236 44 (fn_a (by omega) fn_0)).trans ((u39 236 44 rfl).trans ((u24 236 44 rfl).trans (u22 236 44 rfl))))))) ?_
              refine wi_iconst (n := 1) (nx := 139) (r1 := 0) (r2 := 0) (r3 := 0) rfl ?_
              refine wr_add (nx := 140) (r1 := 0) (r2 := 0) (r3 := 0) rfl (fun e91 (fe91 : e91 = (h 236 44) + 1) => ?_)
              refine wr_pf0 (k0 := 236) (x := e91) (bl := 0) (bh := 2) (nx := 143) (r1 := 11) (r2 := 44) (r3 := 0) rfl (by decide) rfl ⟨rfl, rfl⟩ rfl rfl g67 rfl (by omega) (fun h92 g92 w92 u92 => ?_)
              have F93 := F79.then rfl u92
              refine wi_goto (nx := 146) (r1 := 152) (r2 := 0) (r3 := 0) rfl ?_
              refine wi_return (nx := 153) (r1 := 0) (r2 := 0) (r3 := 0) rfl rfl ?_
              have e94 : h92 236 8 = h67 236 8 := (u92 236 8 rfl)
              have e95 : h92 236 44 = e91 := w92
              have e96 : h92 236 9 = h67 236 9 := (u92 236 9 rfl)
              have e97 : h92 236 4 = h67 236 4 := (u92 236 4 rfl)
              have e98 : h92 236 6 = h67 236 6 := (u92 236 6 rfl)
              have e99 : h92 236 42 = e64 := ((u92 236 42 rfl).trans ((u67 236 42 rfl).trans w65))
              have e100 : h92 236 43 = e21 := ((u92 236 43 rfl).trans ((u67 236 43 rfl).trans ((u65 236 43 rfl).trans ((u62 236 43 (fn_a (by omega) fn_0)).trans ((u60 236 43 (fn_a (by omega) fn_0)).trans ((u39 236 43 rfl).trans ((u24 236 43 rfl).trans w22)))))))
              have q101 : h92 253 = h60 253 := funext (fun i => ((u92 253 i rfl).trans ((u67 253 i (fo_no_ok (by decide) i)).trans ((u65 253 i rfl).trans (u62 253 i (fn_a (by omega) fn_0))))))
              have q102 : h39 253 = h 253 := funext (fun i => ((u39 253 i (fo_no_ok (by decide) i)).trans ((u24 253 i (fo_no_ok (by decide) i)).trans (u22 253 i rfl))))
              have e103 : h92 236 5 = h67 236 5 := (u92 236 5 rfl)
              have e104 : h92 236 7 = h67 236 7 := (u92 236 7 rfl)
              have e105 : h92 236 12 = h67 236 12 := (u92 236 12 rfl)
              exact k h92 g92 F93 (show (1 ≤ (h92 236 8)) ∨ ((h92 236 8) = 0 ∧ (h92 236 44) = (h 236 44) + 1) ∨ ((h92 236 8) = 0 ∧ (h92 236 44) = (h 236 44)) from (Or.inr (Or.inl (⟨by omega, by omega⟩)))) (show (h92 236 8) ≠ 0 ∨ (h92 236 9) = -1 from (Or.inr (by omega))) (show (h 236 4) ≤ (h92 236 4) by omega) (show (h92 236 4) ≤ (h 236 3) by omega) (show 1 ≤ (h92 236 8) ∨ (h92 236 6) = 0 ∨ (h 236 4) + 1 ≤ (h92 236 4) by omega) (show 1 ≤ (h92 236 8) ∨ (h92 236 42) + (h92 236 44) ≤ 2 * (h92 236 43) from (Or.inr (by omega))) (fun e => by
                  rw [q101]
                  refine WP.put (S := h 253) (n := h 236 42) (o := h 236 44) xq0 (by omega) (fun k hk => (u60 253 k (fn_i (by omega) fn_0)).trans (congrFun q102 k)) ?_ (by omega)
                  rw [show (h 236 42).toNat = i59 by omega, w60]
                  omega) (Or.inr (Or.inl ⟨by omega, by omega, by omega, (tk_nx tB tn (tk_nx tB tn (tk_nx tB tn tp))), by omega, by omega, by omega, (by first | assumption | exact ⟨by omega, by omega, TKk.mv (by assumption) (by omega) (by omega) (by omega)⟩), by unfold sc_cmd; (repeat (first | unfold sc_hd | unfold sc_num | unfold sc_mk)); (try dsimp only); rw [if_pos dw14]; (repeat (first | unfold sc_hd | unfold sc_num | unfold sc_mk)); (try dsimp only); rw [if_neg (show ¬ (tk_wd (tk_lw tB tn tp) = 20 ∧ 2 ≤ h 236 44) from fun e => absurd e.2 (by omega))]; (repeat (first | unfold sc_hd | unfold sc_num | unfold sc_mk)); (try dsimp only); rw [if_neg (by omega)]; (repeat (first | unfold sc_hd | unfold sc_num | unfold sc_mk)); (try dsimp only); rw [if_neg (by omega)]; (repeat (first | unfold sc_hd | unfold sc_num | unfold sc_mk)); (try dsimp only); rw [if_neg (by omega)]; (repeat (first | unfold sc_hd | unfold sc_num | unfold sc_mk)); (try dsimp only); rw [if_pos (by omega)]; (repeat (first | unfold sc_hd | unfold sc_num | unfold sc_mk)); (try dsimp only); rw [if_pos dk54]; (repeat (first | unfold sc_hd | unfold sc_num | unfold sc_mk)); (try dsimp only); rw [if_pos dr55]; (repeat (first | unfold sc_hd | unfold sc_num | unfold sc_mk)); (try dsimp only); rw [if_pos (show (tk_wd (tk_lw tB tn tp) = 20) by omega)]; (repeat (first | unfold sc_hd | unfold sc_num | unfold sc_mk)); (try dsimp only); rw [if_pos dk89]; (repeat (first | unfold sc_hd | unfold sc_num | unfold sc_mk)); (try dsimp only); first | done | exact sc_inr rfl (by omega) (by omega)⟩))
            ·
              clear p67_3
              clear p67_4
              have dk88 : TKn (tk_kd tB tn (tk_nx tB tn (tk_nx tB tn tp)) = 4) := p67_0.2.1
              refine wi_aload_n (i := 0) (x := 236) (nx := 134) (r1 := 0) (r2 := 0) (r3 := 0) rfl rfl ?_
              refine wi_dup (nx := 135) (r1 := 0) (r2 := 0) (r3 := 0) rfl rfl ?_
              refine wr_gi0 (k0 := 236) (x := h 236 44) (nx := 138) (r1 := 11) (r2 := 44) (r3 := 0) rfl rfl (by decide) rfl ⟨rfl, rfl⟩ rfl ((u67 236 44 rfl).trans ((u65 236 44 rfl).trans ((u62 236 44 (fn_a (by omega) fn_0)).trans ((u60 236 44 (fn_a (by omega) fn_0)).trans ((u39 236 44 rfl).trans ((u24 236 44 rfl).trans (u22 236 44 rfl))))))) ?_
              refine wi_iconst (n := 1) (nx := 139) (r1 := 0) (r2 := 0) (r3 := 0) rfl ?_
              refine wr_add (nx := 140) (r1 := 0) (r2 := 0) (r3 := 0) rfl (fun e89 (fe89 : e89 = (h 236 44) + 1) => ?_)
              refine wr_pf0 (k0 := 236) (x := e89) (bl := 0) (bh := 2) (nx := 143) (r1 := 11) (r2 := 44) (r3 := 0) rfl (by decide) rfl ⟨rfl, rfl⟩ rfl rfl g67 rfl (by omega) (fun h90 g90 w90 u90 => ?_)
              have F91 := F79.then rfl u90
              refine wi_goto (nx := 146) (r1 := 152) (r2 := 0) (r3 := 0) rfl ?_
              refine wi_return (nx := 153) (r1 := 0) (r2 := 0) (r3 := 0) rfl rfl ?_
              have e92 : h90 236 8 = h67 236 8 := (u90 236 8 rfl)
              have e93 : h90 236 44 = e89 := w90
              have e94 : h90 236 9 = h67 236 9 := (u90 236 9 rfl)
              have e95 : h90 236 4 = h67 236 4 := (u90 236 4 rfl)
              have e96 : h90 236 6 = h67 236 6 := (u90 236 6 rfl)
              have e97 : h90 236 42 = e64 := ((u90 236 42 rfl).trans ((u67 236 42 rfl).trans w65))
              have e98 : h90 236 43 = e21 := ((u90 236 43 rfl).trans ((u67 236 43 rfl).trans ((u65 236 43 rfl).trans ((u62 236 43 (fn_a (by omega) fn_0)).trans ((u60 236 43 (fn_a (by omega) fn_0)).trans ((u39 236 43 rfl).trans ((u24 236 43 rfl).trans w22)))))))
              have q99 : h90 253 = h60 253 := funext (fun i => ((u90 253 i rfl).trans ((u67 253 i (fo_no_ok (by decide) i)).trans ((u65 253 i rfl).trans (u62 253 i (fn_a (by omega) fn_0))))))
              have q100 : h39 253 = h 253 := funext (fun i => ((u39 253 i (fo_no_ok (by decide) i)).trans ((u24 253 i (fo_no_ok (by decide) i)).trans (u22 253 i rfl))))
              exact k h90 g90 F91 (show (1 ≤ (h90 236 8)) ∨ ((h90 236 8) = 0 ∧ (h90 236 44) = (h 236 44) + 1) ∨ ((h90 236 8) = 0 ∧ (h90 236 44) = (h 236 44)) from (Or.inl (by omega))) (show (h90 236 8) ≠ 0 ∨ (h90 236 9) = -1 from (Or.inl (by omega))) (show (h 236 4) ≤ (h90 236 4) by omega) (show (h90 236 4) ≤ (h 236 3) by omega) (show 1 ≤ (h90 236 8) ∨ (h90 236 6) = 0 ∨ (h 236 4) + 1 ≤ (h90 236 4) from (Or.inl (by omega))) (show 1 ≤ (h90 236 8) ∨ (h90 236 42) + (h90 236 44) ≤ 2 * (h90 236 43) from (Or.inl (by omega))) (fun e => by
                  rw [q99]
                  refine WP.put (S := h 253) (n := h 236 42) (o := h 236 44) xq0 (by omega) (fun k hk => (u60 253 k (fn_i (by omega) fn_0)).trans (congrFun q100 k)) ?_ (by omega)
                  rw [show (h 236 42).toNat = i59 by omega, w60]
                  omega) (Or.inl ⟨by omega, by unfold sc_cmd; (repeat (first | unfold sc_hd | unfold sc_num | unfold sc_mk)); (try dsimp only); rw [if_pos dw14]; (repeat (first | unfold sc_hd | unfold sc_num | unfold sc_mk)); (try dsimp only); rw [if_neg (show ¬ (tk_wd (tk_lw tB tn tp) = 20 ∧ 2 ≤ h 236 44) from fun e => absurd e.2 (by omega))]; (repeat (first | unfold sc_hd | unfold sc_num | unfold sc_mk)); (try dsimp only); rw [if_neg (by omega)]; (repeat (first | unfold sc_hd | unfold sc_num | unfold sc_mk)); (try dsimp only); rw [if_neg (by omega)]; (repeat (first | unfold sc_hd | unfold sc_num | unfold sc_mk)); (try dsimp only); rw [if_neg (by omega)]; (repeat (first | unfold sc_hd | unfold sc_num | unfold sc_mk)); (try dsimp only); rw [if_pos (by omega)]; (repeat (first | unfold sc_hd | unfold sc_num | unfold sc_mk)); (try dsimp only); rw [if_pos dk54]; (repeat (first | unfold sc_hd | unfold sc_num | unfold sc_mk)); (try dsimp only); rw [if_pos dr55]; (repeat (first | unfold sc_hd | unfold sc_num | unfold sc_mk)); (try dsimp only); rw [if_pos (show (tk_wd (tk_lw tB tn tp) = 20) by omega)]; (repeat (first | unfold sc_hd | unfold sc_num | unfold sc_mk)); (try dsimp only); rw [if_neg dk88.no]; (repeat (first | unfold sc_hd | unfold sc_num | unfold sc_mk)); (try dsimp only); first | done | exact sc_inl (by omega) (by omega)⟩)
          ·
            clear p39_3
            clear p39_4
            clear p39_5
            have dn53 : TKn (tk_kd tB tn (tk_nx tB tn tp) = 2) := p39_0.2.1
            replace p39_0 : _ := And.intro (p39_0.1) (And.intro (p39_0.2.2.1) (p39_0.2.2.2))
            refine wr_V (k0 := 236) (rest := []) (as := [.ref 236, vi z13, vi z42]) (nx := 127) (r1 := 337) (r2 := 2) (r3 := 11) rfl rfl rfl (of_decide_eq_true rfl) rfl rfl (by decide) rfl rfl (of_decide_eq_true rfl) (of_decide_eq_true rfl) ?_
            refine wi_aload_n (i := 0) (x := 236) (nx := 1) (r1 := 0) (r2 := 0) (r3 := 0) rfl rfl ?_
            refine wr_V (k0 := 236) (rest := []) (as := [.ref 236]) (nx := 4) (r1 := 219) (r2 := 0) (r3 := 11) rfl rfl rfl (of_decide_eq_true rfl) rfl rfl (by decide) rfl rfl (of_decide_eq_true rfl) (of_decide_eq_true rfl) ?_
            refine wi_aload_n (i := 0) (x := 236) (nx := 1) (r1 := 0) (r2 := 0) (r3 := 0) rfl rfl ?_
            refine wr_gi0 (k0 := 236) (x := h39 236 8) (nx := 4) (r1 := 11) (r2 := 8) (r3 := 0) rfl rfl (by decide) rfl ⟨rfl, rfl⟩ rfl rfl ?_
            refine wi_if (cd := .ne) (nx := 7) (r1 := 11) (r2 := 0) (r3 := 0) rfl (by omega) (fun (q54 : (h39 236 8) ≠ 0) => ?_) (fun (q54 : ¬ ((h39 236 8) ≠ 0)) => by exfalso; omega)
            refine wi_iconst (n := 0) (nx := 12) (r1 := 0) (r2 := 0) (r3 := 0) rfl ?_
            refine wi_zreturn (nx := 13) (r1 := 0) (r2 := 0) (r3 := 0) rfl rfl (by omega) ?_
            refine wk_i ?_
            refine wi_if (cd := .ne) (nx := 7) (r1 := 8) (r2 := 0) (r3 := 0) rfl (by omega) (fun (q55 : 0 ≠ 0) => by exfalso; omega) (fun (q55 : ¬ (0 ≠ 0)) => ?_)
            refine wi_return (nx := 8) (r1 := 0) (r2 := 0) (r3 := 0) rfl rfl ?_
            refine wk_n ?_
            refine wi_aload_n (i := 0) (x := 236) (nx := 128) (r1 := 0) (r2 := 0) (r3 := 0) rfl rfl ?_
            refine wi_bipush (n := 40) (nx := 130) (r1 := 0) (r2 := 0) (r3 := 0) rfl (by decide) ?_
            refine wr_V (k0 := 236) (rest := []) (as := [.ref 236, vi 40]) (nx := 133) (r1 := 235) (r2 := 1) (r3 := 11) rfl rfl rfl (of_decide_eq_true rfl) rfl rfl (by decide) rfl rfl (of_decide_eq_true rfl) (of_decide_eq_true rfl) ?_
            have e57 : h39 236 3 = h 236 3 := ((u39 236 3 rfl).trans ((u24 236 3 rfl).trans (u22 236 3 rfl)))
            have rb58 := RefB.fr u39 rfl rb43
            refine ct_235_236_L40 hcr  g39   (show (h39 236 4) ≤ (h39 236 3) by omega) (show 0 ≤ (tk_nx tB tn tp) by omega) (show (tk_nx tB tn tp) ≤ tn by omega) (show (tk_nx tB tn tp) ≤ tk_nx tB tn (tk_nx tB tn tp) ∧ tk_nx tB tn (tk_nx tB tn tp) ≤ tn from ⟨by omega, by omega⟩) (show 1 ≤ (h39 236 8) ∨ ((h39 236 4) = tk_nx tB tn (tk_nx tB tn tp) ∧ (h39 236 5) = tk_st tB tn (tk_nx tB tn tp) ∧ TKk tB tn (tk_nx tB tn tp) ((h39 236 6)) ((h39 236 7)) ((h39 236 12))) from (Or.inl (by omega))) rb58 (fun h56 g56 u56 (p56_0 : (1 ≤ (h39 236 8) ∧ (h56 236 8) = (h39 236 8) ∧ (h56 236 9) = (h39 236 9)) ∨ ((h39 236 8) = 0 ∧ tk_kd tB tn (tk_nx tB tn tp) = 4 ∧ (h56 236 8) = (h39 236 8) ∧ (h56 236 9) = (h39 236 9) ∧ ((h56 236 4) = tk_nx tB tn (tk_nx tB tn (tk_nx tB tn tp)) ∧ (h56 236 5) = tk_st tB tn (tk_nx tB tn (tk_nx tB tn tp)) ∧ TKk tB tn (tk_nx tB tn (tk_nx tB tn tp)) ((h56 236 6)) ((h56 236 7)) ((h56 236 12)))) ∨ ((h39 236 8) = 0 ∧ tk_kd tB tn (tk_nx tB tn tp) ≠ 4 ∧ (h56 236 8) = 1 ∧ (h56 236 9) = tk_st tB tn (tk_nx tB tn tp))) (p56_1 : (h39 236 4) ≤ (h56 236 4)) (p56_2 : (h56 236 4) ≤ (h39 236 3)) (p56_3 : 1 ≤ (h56 236 8) ∨ (h39 236 8) = 0) (p56_4 : 1 ≤ (h56 236 8) ∨ (h56 236 6) = 0 ∨ (h39 236 4) + 1 ≤ (h56 236 4)) => ?_)
            have F59 := F44.then (by decide +kernel) u56
            have b60 := gi_b (lo := 0) (hi := 5) g56 236 8 rfl
            have b61 := gi_b (lo := -2147483648) (hi := 2147483647) g56 236 9 rfl
            have b62 := gi_b (lo := 0) (hi := 800) g56 236 4 rfl
            have b63 := gi_b (lo := 0) (hi := 800) g56 236 5 rfl
            have b64 := gi_b (lo := 0) (hi := 4) g56 236 6 rfl
            have b65 := gi_b (lo := 0) (hi := 999) g56 236 7 rfl
            have b66 := gi_b (lo := -9223372036854775808) (hi := 9223372036854775807) g56 236 12 rfl
            refine wk_n ?_
            rcases p56_0 with p56_0 | p56_0 | p56_0
            ·
              replace p56_3 := p56_3.resolve_right (by omega)
              clear p56_4
              refine wi_aload_n (i := 0) (x := 236) (nx := 134) (r1 := 0) (r2 := 0) (r3 := 0) rfl rfl ?_
              refine wi_dup (nx := 135) (r1 := 0) (r2 := 0) (r3 := 0) rfl rfl ?_
              refine wr_gi0 (k0 := 236) (x := h 236 44) (nx := 138) (r1 := 11) (r2 := 44) (r3 := 0) rfl rfl (by decide) rfl ⟨rfl, rfl⟩ rfl ((u56 236 44 rfl).trans ((u39 236 44 rfl).trans ((u24 236 44 rfl).trans (u22 236 44 rfl)))) ?_
              refine wi_iconst (n := 1) (nx := 139) (r1 := 0) (r2 := 0) (r3 := 0) rfl ?_
              refine wr_add (nx := 140) (r1 := 0) (r2 := 0) (r3 := 0) rfl (fun e67 (fe67 : e67 = (h 236 44) + 1) => ?_)
              refine wr_pf0 (k0 := 236) (x := e67) (bl := 0) (bh := 2) (nx := 143) (r1 := 11) (r2 := 44) (r3 := 0) rfl (by decide) rfl ⟨rfl, rfl⟩ rfl rfl g56 rfl (by omega) (fun h68 g68 w68 u68 => ?_)
              have F69 := F59.then rfl u68
              refine wi_goto (nx := 146) (r1 := 152) (r2 := 0) (r3 := 0) rfl ?_
              refine wi_return (nx := 153) (r1 := 0) (r2 := 0) (r3 := 0) rfl rfl ?_
              have e70 : h68 236 8 = h56 236 8 := (u68 236 8 rfl)
              have e71 : h68 236 44 = e67 := w68
              have e72 : h68 236 9 = h56 236 9 := (u68 236 9 rfl)
              have e73 : h68 236 4 = h56 236 4 := (u68 236 4 rfl)
              have e74 : h68 236 6 = h56 236 6 := (u68 236 6 rfl)
              have e75 : h68 236 42 = h 236 42 := ((u68 236 42 rfl).trans ((u56 236 42 rfl).trans ((u39 236 42 rfl).trans ((u24 236 42 rfl).trans (u22 236 42 rfl)))))
              have e76 : h68 236 43 = e21 := ((u68 236 43 rfl).trans ((u56 236 43 rfl).trans ((u39 236 43 rfl).trans ((u24 236 43 rfl).trans w22))))
              exact k h68 g68 F69 (show (1 ≤ (h68 236 8)) ∨ ((h68 236 8) = 0 ∧ (h68 236 44) = (h 236 44) + 1) ∨ ((h68 236 8) = 0 ∧ (h68 236 44) = (h 236 44)) from (Or.inl (by omega))) (show (h68 236 8) ≠ 0 ∨ (h68 236 9) = -1 from (Or.inl (by omega))) (show (h 236 4) ≤ (h68 236 4) by omega) (show (h68 236 4) ≤ (h 236 3) by omega) (show 1 ≤ (h68 236 8) ∨ (h68 236 6) = 0 ∨ (h 236 4) + 1 ≤ (h68 236 4) from (Or.inl (by omega))) (show 1 ≤ (h68 236 8) ∨ (h68 236 42) + (h68 236 44) ≤ 2 * (h68 236 43) from (Or.inl (by omega))) (fun e => absurd e (by omega)) (Or.inl ⟨by omega, by unfold sc_cmd; (repeat (first | unfold sc_hd | unfold sc_num | unfold sc_mk)); (try dsimp only); rw [if_pos dw14]; (repeat (first | unfold sc_hd | unfold sc_num | unfold sc_mk)); (try dsimp only); rw [if_neg (show ¬ (tk_wd (tk_lw tB tn tp) = 20 ∧ 2 ≤ h 236 44) from fun e => absurd e.2 (by omega))]; (repeat (first | unfold sc_hd | unfold sc_num | unfold sc_mk)); (try dsimp only); rw [if_neg (by omega)]; (repeat (first | unfold sc_hd | unfold sc_num | unfold sc_mk)); (try dsimp only); rw [if_neg (by omega)]; (repeat (first | unfold sc_hd | unfold sc_num | unfold sc_mk)); (try dsimp only); rw [if_neg (by omega)]; (repeat (first | unfold sc_hd | unfold sc_num | unfold sc_mk)); (try dsimp only); rw [if_pos (by omega)]; (repeat (first | unfold sc_hd | unfold sc_num | unfold sc_mk)); (try dsimp only); rw [if_neg dn53.no]; (repeat (first | unfold sc_hd | unfold sc_num | unfold sc_mk)); (try dsimp only); first | done | exact sc_inl (by omega) (by omega)⟩)
            ·
              have tkk67 := (p56_0.2.2.2.2).2.2
              have tN68 := @tk_nx_b tB tn (tk_nx tB tn (tk_nx tB tn tp)) (by omega) (by omega)
              exfalso; omega
            ·
              exfalso; omega
          ·
            clear p39_3
            clear p39_4
            clear p39_5
            have dk53 : tk_kd tB tn (tk_nx tB tn tp) = 2 := p39_0.2.1
            have dr54 : TKn (1 ≤ tk_nb tB tn (tk_nx tB tn tp) ∧ tk_nb tB tn (tk_nx tB tn tp) ≤ 20) := tkn_r p39_0.2.2.1
            replace p39_0 : _ := And.intro (p39_0.1) (And.intro (p39_0.2.1) (And.intro (p39_0.2.2.2.1) (p39_0.2.2.2.2)))
            refine wr_V (k0 := 236) (rest := []) (as := [.ref 236, vi z13, vi z42]) (nx := 127) (r1 := 337) (r2 := 2) (r3 := 11) rfl rfl rfl (of_decide_eq_true rfl) rfl rfl (by decide) rfl rfl (of_decide_eq_true rfl) (of_decide_eq_true rfl) ?_
            refine wi_aload_n (i := 0) (x := 236) (nx := 1) (r1 := 0) (r2 := 0) (r3 := 0) rfl rfl ?_
            refine wr_V (k0 := 236) (rest := []) (as := [.ref 236]) (nx := 4) (r1 := 219) (r2 := 0) (r3 := 11) rfl rfl rfl (of_decide_eq_true rfl) rfl rfl (by decide) rfl rfl (of_decide_eq_true rfl) (of_decide_eq_true rfl) ?_
            refine wi_aload_n (i := 0) (x := 236) (nx := 1) (r1 := 0) (r2 := 0) (r3 := 0) rfl rfl ?_
            refine wr_gi0 (k0 := 236) (x := h39 236 8) (nx := 4) (r1 := 11) (r2 := 8) (r3 := 0) rfl rfl (by decide) rfl ⟨rfl, rfl⟩ rfl rfl ?_
            refine wi_if (cd := .ne) (nx := 7) (r1 := 11) (r2 := 0) (r3 := 0) rfl (by omega) (fun (q55 : (h39 236 8) ≠ 0) => ?_) (fun (q55 : ¬ ((h39 236 8) ≠ 0)) => by exfalso; omega)
            refine wi_iconst (n := 0) (nx := 12) (r1 := 0) (r2 := 0) (r3 := 0) rfl ?_
            refine wi_zreturn (nx := 13) (r1 := 0) (r2 := 0) (r3 := 0) rfl rfl (by omega) ?_
            refine wk_i ?_
            refine wi_if (cd := .ne) (nx := 7) (r1 := 8) (r2 := 0) (r3 := 0) rfl (by omega) (fun (q56 : 0 ≠ 0) => by exfalso; omega) (fun (q56 : ¬ (0 ≠ 0)) => ?_)
            refine wi_return (nx := 8) (r1 := 0) (r2 := 0) (r3 := 0) rfl rfl ?_
            refine wk_n ?_
            refine wi_aload_n (i := 0) (x := 236) (nx := 128) (r1 := 0) (r2 := 0) (r3 := 0) rfl rfl ?_
            refine wi_bipush (n := 40) (nx := 130) (r1 := 0) (r2 := 0) (r3 := 0) rfl (by decide) ?_
            refine wr_V (k0 := 236) (rest := []) (as := [.ref 236, vi 40]) (nx := 133) (r1 := 235) (r2 := 1) (r3 := 11) rfl rfl rfl (of_decide_eq_true rfl) rfl rfl (by decide) rfl rfl (of_decide_eq_true rfl) (of_decide_eq_true rfl) ?_
            have e58 : h39 236 3 = h 236 3 := ((u39 236 3 rfl).trans ((u24 236 3 rfl).trans (u22 236 3 rfl)))
            have rb59 := RefB.fr u39 rfl rb43
            refine ct_235_236_L40 hcr  g39   (show (h39 236 4) ≤ (h39 236 3) by omega) (show 0 ≤ (tk_nx tB tn tp) by omega) (show (tk_nx tB tn tp) ≤ tn by omega) (show (tk_nx tB tn tp) ≤ tk_nx tB tn (tk_nx tB tn tp) ∧ tk_nx tB tn (tk_nx tB tn tp) ≤ tn from ⟨by omega, by omega⟩) (show 1 ≤ (h39 236 8) ∨ ((h39 236 4) = tk_nx tB tn (tk_nx tB tn tp) ∧ (h39 236 5) = tk_st tB tn (tk_nx tB tn tp) ∧ TKk tB tn (tk_nx tB tn tp) ((h39 236 6)) ((h39 236 7)) ((h39 236 12))) from (Or.inl (by omega))) rb59 (fun h57 g57 u57 (p57_0 : (1 ≤ (h39 236 8) ∧ (h57 236 8) = (h39 236 8) ∧ (h57 236 9) = (h39 236 9)) ∨ ((h39 236 8) = 0 ∧ tk_kd tB tn (tk_nx tB tn tp) = 4 ∧ (h57 236 8) = (h39 236 8) ∧ (h57 236 9) = (h39 236 9) ∧ ((h57 236 4) = tk_nx tB tn (tk_nx tB tn (tk_nx tB tn tp)) ∧ (h57 236 5) = tk_st tB tn (tk_nx tB tn (tk_nx tB tn tp)) ∧ TKk tB tn (tk_nx tB tn (tk_nx tB tn tp)) ((h57 236 6)) ((h57 236 7)) ((h57 236 12)))) ∨ ((h39 236 8) = 0 ∧ tk_kd tB tn (tk_nx tB tn tp) ≠ 4 ∧ (h57 236 8) = 1 ∧ (h57 236 9) = tk_st tB tn (tk_nx tB tn tp))) (p57_1 : (h39 236 4) ≤ (h57 236 4)) (p57_2 : (h57 236 4) ≤ (h39 236 3)) (p57_3 : 1 ≤ (h57 236 8) ∨ (h39 236 8) = 0) (p57_4 : 1 ≤ (h57 236 8) ∨ (h57 236 6) = 0 ∨ (h39 236 4) + 1 ≤ (h57 236 4)) => ?_)
            have F60 := F44.then (by decide +kernel) u57
            have b61 := gi_b (lo := 0) (hi := 5) g57 236 8 rfl
            have b62 := gi_b (lo := -2147483648) (hi := 2147483647) g57 236 9 rfl
            have b63 := gi_b (lo := 0) (hi := 800) g57 236 4 rfl
            have b64 := gi_b (lo := 0) (hi := 800) g57 236 5 rfl
            have b65 := gi_b (lo := 0) (hi := 4) g57 236 6 rfl
            have b66 := gi_b (lo := 0) (hi := 999) g57 236 7 rfl
            have b67 := gi_b (lo := -9223372036854775808) (hi := 9223372036854775807) g57 236 12 rfl
            refine wk_n ?_
            rcases p57_0 with p57_0 | p57_0 | p57_0
            ·
              replace p57_3 := p57_3.resolve_right (by omega)
              clear p57_4
              refine wi_aload_n (i := 0) (x := 236) (nx := 134) (r1 := 0) (r2 := 0) (r3 := 0) rfl rfl ?_
              refine wi_dup (nx := 135) (r1 := 0) (r2 := 0) (r3 := 0) rfl rfl ?_
              refine wr_gi0 (k0 := 236) (x := h 236 44) (nx := 138) (r1 := 11) (r2 := 44) (r3 := 0) rfl rfl (by decide) rfl ⟨rfl, rfl⟩ rfl ((u57 236 44 rfl).trans ((u39 236 44 rfl).trans ((u24 236 44 rfl).trans (u22 236 44 rfl)))) ?_
              refine wi_iconst (n := 1) (nx := 139) (r1 := 0) (r2 := 0) (r3 := 0) rfl ?_
              refine wr_add (nx := 140) (r1 := 0) (r2 := 0) (r3 := 0) rfl (fun e68 (fe68 : e68 = (h 236 44) + 1) => ?_)
              refine wr_pf0 (k0 := 236) (x := e68) (bl := 0) (bh := 2) (nx := 143) (r1 := 11) (r2 := 44) (r3 := 0) rfl (by decide) rfl ⟨rfl, rfl⟩ rfl rfl g57 rfl (by omega) (fun h69 g69 w69 u69 => ?_)
              have F70 := F60.then rfl u69
              refine wi_goto (nx := 146) (r1 := 152) (r2 := 0) (r3 := 0) rfl ?_
              refine wi_return (nx := 153) (r1 := 0) (r2 := 0) (r3 := 0) rfl rfl ?_
              have e71 : h69 236 8 = h57 236 8 := (u69 236 8 rfl)
              have e72 : h69 236 44 = e68 := w69
              have e73 : h69 236 9 = h57 236 9 := (u69 236 9 rfl)
              have e74 : h69 236 4 = h57 236 4 := (u69 236 4 rfl)
              have e75 : h69 236 6 = h57 236 6 := (u69 236 6 rfl)
              have e76 : h69 236 42 = h 236 42 := ((u69 236 42 rfl).trans ((u57 236 42 rfl).trans ((u39 236 42 rfl).trans ((u24 236 42 rfl).trans (u22 236 42 rfl)))))
              have e77 : h69 236 43 = e21 := ((u69 236 43 rfl).trans ((u57 236 43 rfl).trans ((u39 236 43 rfl).trans ((u24 236 43 rfl).trans w22))))
              exact k h69 g69 F70 (show (1 ≤ (h69 236 8)) ∨ ((h69 236 8) = 0 ∧ (h69 236 44) = (h 236 44) + 1) ∨ ((h69 236 8) = 0 ∧ (h69 236 44) = (h 236 44)) from (Or.inl (by omega))) (show (h69 236 8) ≠ 0 ∨ (h69 236 9) = -1 from (Or.inl (by omega))) (show (h 236 4) ≤ (h69 236 4) by omega) (show (h69 236 4) ≤ (h 236 3) by omega) (show 1 ≤ (h69 236 8) ∨ (h69 236 6) = 0 ∨ (h 236 4) + 1 ≤ (h69 236 4) from (Or.inl (by omega))) (show 1 ≤ (h69 236 8) ∨ (h69 236 42) + (h69 236 44) ≤ 2 * (h69 236 43) from (Or.inl (by omega))) (fun e => absurd e (by omega)) (Or.inl ⟨by omega, by unfold sc_cmd; (repeat (first | unfold sc_hd | unfold sc_num | unfold sc_mk)); (try dsimp only); rw [if_pos dw14]; (repeat (first | unfold sc_hd | unfold sc_num | unfold sc_mk)); (try dsimp only); rw [if_neg (show ¬ (tk_wd (tk_lw tB tn tp) = 20 ∧ 2 ≤ h 236 44) from fun e => absurd e.2 (by omega))]; (repeat (first | unfold sc_hd | unfold sc_num | unfold sc_mk)); (try dsimp only); rw [if_neg (by omega)]; (repeat (first | unfold sc_hd | unfold sc_num | unfold sc_mk)); (try dsimp only); rw [if_neg (by omega)]; (repeat (first | unfold sc_hd | unfold sc_num | unfold sc_mk)); (try dsimp only); rw [if_neg (by omega)]; (repeat (first | unfold sc_hd | unfold sc_num | unfold sc_mk)); (try dsimp only); rw [if_pos (by omega)]; (repeat (first | unfold sc_hd | unfold sc_num | unfold sc_mk)); (try dsimp only); rw [if_pos dk53]; (repeat (first | unfold sc_hd | unfold sc_num | unfold sc_mk)); (try dsimp only); rw [if_neg dr54.no]; (repeat (first | unfold sc_hd | unfold sc_num | unfold sc_mk)); (try dsimp only); first | done | exact sc_inl (by omega) (by omega)⟩)
            ·
              have tkk68 := (p57_0.2.2.2.2).2.2
              have tN69 := @tk_nx_b tB tn (tk_nx tB tn (tk_nx tB tn tp)) (by omega) (by omega)
              exfalso; omega
            ·
              exfalso; omega
        ·
          refine wi_aload_n (i := 0) (x := 236) (nx := 44) (r1 := 0) (r2 := 0) (r3 := 0) rfl rfl ?_
          refine wi_iconst (n := 5) (nx := 45) (r1 := 0) (r2 := 0) (r3 := 0) rfl ?_
          refine wr_V (k0 := 236) (rest := []) (as := [.ref 236, vi 5]) (nx := 48) (r1 := 224) (r2 := 1) (r3 := 11) rfl rfl rfl (of_decide_eq_true rfl) rfl rfl (by decide) rfl rfl (of_decide_eq_true rfl) (of_decide_eq_true rfl) ?_
          refine ct_224_236 hcr  g 5 (by omega)  (fun h19 g19 u19 (p19_0 : 1 ≤ (h19 236 8)) (p19_1 : (1 ≤ (h 236 8) ∧ (h19 236 8) = (h 236 8) ∧ (h19 236 9) = (h 236 9)) ∨ ((h 236 8) = 0 ∧ (h19 236 9) = (h 236 5) ∧ (((h 236 6) = 4 ∧ (h19 236 8) = 1) ∨ ((h 236 6) ≠ 4 ∧ (h19 236 8) = 5)))) => ?_)
          have F20 := F0.then (by decide +kernel) u19
          have b21 := gi_b (lo := 0) (hi := 5) g19 236 8 rfl
          have b22 := gi_b (lo := -2147483648) (hi := 2147483647) g19 236 9 rfl
          replace p19_1 := p19_1.resolve_left (by omega)
          have ws23 : h 236 6 ≠ 4 := fun e => absurd (TKk.e4 (B := tB) (n := tn) (p := tp) (a6 := h 236 6) (by assumption) (e)) (show tk_kd tB tn tp ≠ 6 by omega)
          replace p19_1 := And.intro p19_1.2.1 (p19_1.2.2.resolve_left (fun x => ws23 x.1)).2
          clear ws23
          refine wk_n ?_
          refine wi_aload_n (i := 0) (x := 236) (nx := 49) (r1 := 0) (r2 := 0) (r3 := 0) rfl rfl ?_
          refine wr_V (k0 := 236) (rest := []) (as := [.ref 236]) (nx := 52) (r1 := 219) (r2 := 0) (r3 := 11) rfl rfl rfl (of_decide_eq_true rfl) rfl rfl (by decide) rfl rfl (of_decide_eq_true rfl) (of_decide_eq_true rfl) ?_
          refine wi_aload_n (i := 0) (x := 236) (nx := 1) (r1 := 0) (r2 := 0) (r3 := 0) rfl rfl ?_
          refine wr_gi0 (k0 := 236) (x := h19 236 8) (nx := 4) (r1 := 11) (r2 := 8) (r3 := 0) rfl rfl (by decide) rfl ⟨rfl, rfl⟩ rfl rfl ?_
          refine wi_if (cd := .ne) (nx := 7) (r1 := 11) (r2 := 0) (r3 := 0) rfl (by omega) (fun (q24 : (h19 236 8) ≠ 0) => ?_) (fun (q24 : ¬ ((h19 236 8) ≠ 0)) => by exfalso; omega)
          refine wi_iconst (n := 0) (nx := 12) (r1 := 0) (r2 := 0) (r3 := 0) rfl ?_
          refine wi_zreturn (nx := 13) (r1 := 0) (r2 := 0) (r3 := 0) rfl rfl (by omega) ?_
          refine wk_i ?_
          refine wi_if (cd := .ne) (nx := 55) (r1 := 56) (r2 := 0) (r3 := 0) rfl (by omega) (fun (q25 : 0 ≠ 0) => by exfalso; omega) (fun (q25 : ¬ (0 ≠ 0)) => ?_)
          refine wi_return (nx := 56) (r1 := 0) (r2 := 0) (r3 := 0) rfl rfl ?_
          have e26 : h19 236 44 = h 236 44 := (u19 236 44 rfl)
          have e27 : h19 236 4 = h 236 4 := (u19 236 4 rfl)
          have e28 : h19 236 6 = h 236 6 := (u19 236 6 rfl)
          have e29 : h19 236 42 = h 236 42 := (u19 236 42 rfl)
          have e30 : h19 236 43 = h 236 43 := (u19 236 43 rfl)
          exact k h19 g19 F20 (show (1 ≤ (h19 236 8)) ∨ ((h19 236 8) = 0 ∧ (h19 236 44) = (h 236 44) + 1) ∨ ((h19 236 8) = 0 ∧ (h19 236 44) = (h 236 44)) from (Or.inl (by omega))) (show (h19 236 8) ≠ 0 ∨ (h19 236 9) = -1 from (Or.inl (by omega))) (show (h 236 4) ≤ (h19 236 4) by omega) (show (h19 236 4) ≤ (h 236 3) by omega) (show 1 ≤ (h19 236 8) ∨ (h19 236 6) = 0 ∨ (h 236 4) + 1 ≤ (h19 236 4) from (Or.inl (by omega))) (show 1 ≤ (h19 236 8) ∨ (h19 236 42) + (h19 236 44) ≤ 2 * (h19 236 43) from (Or.inl (by omega))) (fun e => absurd e (by omega)) (Or.inl ⟨by omega, by unfold sc_cmd; (repeat (first | unfold sc_hd | unfold sc_num | unfold sc_mk)); (try dsimp only); rw [if_pos dw14]; (repeat (first | unfold sc_hd | unfold sc_num | unfold sc_mk)); (try dsimp only); rw [if_neg (show ¬ (tk_wd (tk_lw tB tn tp) = 20 ∧ 2 ≤ h 236 44) from fun e => absurd e.2 (by omega))]; (repeat (first | unfold sc_hd | unfold sc_num | unfold sc_mk)); (try dsimp only); rw [if_pos (by omega)]; (repeat (first | unfold sc_hd | unfold sc_num | unfold sc_mk)); (try dsimp only); first | done | exact sc_inl (by omega) (by omega)⟩)
      ·
        refine wi_aload_n (i := 0) (x := 236) (nx := 30) (r1 := 0) (r2 := 0) (r3 := 0) rfl rfl ?_
        refine wi_iconst (n := 3) (nx := 31) (r1 := 0) (r2 := 0) (r3 := 0) rfl ?_
        refine wr_V (k0 := 236) (rest := []) (as := [.ref 236, vi 3]) (nx := 34) (r1 := 224) (r2 := 1) (r3 := 11) rfl rfl rfl (of_decide_eq_true rfl) rfl rfl (by decide) rfl rfl (of_decide_eq_true rfl) (of_decide_eq_true rfl) ?_
        refine ct_224_236 hcr  g 3 (by omega)  (fun h18 g18 u18 (p18_0 : 1 ≤ (h18 236 8)) (p18_1 : (1 ≤ (h 236 8) ∧ (h18 236 8) = (h 236 8) ∧ (h18 236 9) = (h 236 9)) ∨ ((h 236 8) = 0 ∧ (h18 236 9) = (h 236 5) ∧ (((h 236 6) = 4 ∧ (h18 236 8) = 1) ∨ ((h 236 6) ≠ 4 ∧ (h18 236 8) = 3)))) => ?_)
        have F19 := F0.then (by decide +kernel) u18
        have b20 := gi_b (lo := 0) (hi := 5) g18 236 8 rfl
        have b21 := gi_b (lo := -2147483648) (hi := 2147483647) g18 236 9 rfl
        replace p18_1 := p18_1.resolve_left (by omega)
        have ws22 : h 236 6 ≠ 4 := fun e => absurd (TKk.e4 (B := tB) (n := tn) (p := tp) (a6 := h 236 6) (by assumption) (e)) (show tk_kd tB tn tp ≠ 6 by omega)
        replace p18_1 := And.intro p18_1.2.1 (p18_1.2.2.resolve_left (fun x => ws22 x.1)).2
        clear ws22
        refine wk_n ?_
        refine wi_aload_n (i := 0) (x := 236) (nx := 35) (r1 := 0) (r2 := 0) (r3 := 0) rfl rfl ?_
        refine wr_gi0 (k0 := 236) (x := h 236 43) (nx := 38) (r1 := 11) (r2 := 43) (r3 := 0) rfl rfl (by decide) rfl ⟨rfl, rfl⟩ rfl (u18 236 43 rfl) ?_
        refine wi_bipush (n := 40) (nx := 40) (r1 := 0) (r2 := 0) (r3 := 0) rfl (by decide) ?_
        refine wi_icmp (cd := .ne) (nx := 43) (r1 := 48) (r2 := 0) (r3 := 0) rfl (by omega) (by omega) (fun (q23 : (h 236 43) ≠ 40) => ?_) (fun (q23 : ¬ ((h 236 43) ≠ 40)) => ?_)
        ·
          replace q23 : (h 236 43) + 1 ≤ 40 := by omega
          refine wi_aload_n (i := 0) (x := 236) (nx := 49) (r1 := 0) (r2 := 0) (r3 := 0) rfl rfl ?_
          refine wr_V (k0 := 236) (rest := []) (as := [.ref 236]) (nx := 52) (r1 := 219) (r2 := 0) (r3 := 11) rfl rfl rfl (of_decide_eq_true rfl) rfl rfl (by decide) rfl rfl (of_decide_eq_true rfl) (of_decide_eq_true rfl) ?_
          refine wi_aload_n (i := 0) (x := 236) (nx := 1) (r1 := 0) (r2 := 0) (r3 := 0) rfl rfl ?_
          refine wr_gi0 (k0 := 236) (x := h18 236 8) (nx := 4) (r1 := 11) (r2 := 8) (r3 := 0) rfl rfl (by decide) rfl ⟨rfl, rfl⟩ rfl rfl ?_
          refine wi_if (cd := .ne) (nx := 7) (r1 := 11) (r2 := 0) (r3 := 0) rfl (by omega) (fun (q24 : (h18 236 8) ≠ 0) => ?_) (fun (q24 : ¬ ((h18 236 8) ≠ 0)) => by exfalso; omega)
          refine wi_iconst (n := 0) (nx := 12) (r1 := 0) (r2 := 0) (r3 := 0) rfl ?_
          refine wi_zreturn (nx := 13) (r1 := 0) (r2 := 0) (r3 := 0) rfl rfl (by omega) ?_
          refine wk_i ?_
          refine wi_if (cd := .ne) (nx := 55) (r1 := 56) (r2 := 0) (r3 := 0) rfl (by omega) (fun (q25 : 0 ≠ 0) => by exfalso; omega) (fun (q25 : ¬ (0 ≠ 0)) => ?_)
          refine wi_return (nx := 56) (r1 := 0) (r2 := 0) (r3 := 0) rfl rfl ?_
          have e26 : h18 236 44 = h 236 44 := (u18 236 44 rfl)
          have e27 : h18 236 4 = h 236 4 := (u18 236 4 rfl)
          have e28 : h18 236 6 = h 236 6 := (u18 236 6 rfl)
          have e29 : h18 236 42 = h 236 42 := (u18 236 42 rfl)
          have e30 : h18 236 43 = h 236 43 := (u18 236 43 rfl)
          exact k h18 g18 F19 (show (1 ≤ (h18 236 8)) ∨ ((h18 236 8) = 0 ∧ (h18 236 44) = (h 236 44) + 1) ∨ ((h18 236 8) = 0 ∧ (h18 236 44) = (h 236 44)) from (Or.inl (by omega))) (show (h18 236 8) ≠ 0 ∨ (h18 236 9) = -1 from (Or.inl (by omega))) (show (h 236 4) ≤ (h18 236 4) by omega) (show (h18 236 4) ≤ (h 236 3) by omega) (show 1 ≤ (h18 236 8) ∨ (h18 236 6) = 0 ∨ (h 236 4) + 1 ≤ (h18 236 4) from (Or.inl (by omega))) (show 1 ≤ (h18 236 8) ∨ (h18 236 42) + (h18 236 44) ≤ 2 * (h18 236 43) from (Or.inl (by omega))) (fun e => absurd e (by omega)) (Or.inl ⟨by omega, by unfold sc_cmd; (repeat (first | unfold sc_hd | unfold sc_num | unfold sc_mk)); (try dsimp only); rw [if_pos dw14]; (repeat (first | unfold sc_hd | unfold sc_num | unfold sc_mk)); (try dsimp only); rw [if_pos (show tk_wd (tk_lw tB tn tp) = 20 ∧ 2 ≤ h 236 44 from ⟨by omega, by omega⟩)]; (repeat (first | unfold sc_hd | unfold sc_num | unfold sc_mk)); (try dsimp only); first | done | exact sc_inl (by omega) (by omega)⟩)
        ·
          refine wi_aload_n (i := 0) (x := 236) (nx := 44) (r1 := 0) (r2 := 0) (r3 := 0) rfl rfl ?_
          refine wi_iconst (n := 5) (nx := 45) (r1 := 0) (r2 := 0) (r3 := 0) rfl ?_
          refine wr_V (k0 := 236) (rest := []) (as := [.ref 236, vi 5]) (nx := 48) (r1 := 224) (r2 := 1) (r3 := 11) rfl rfl rfl (of_decide_eq_true rfl) rfl rfl (by decide) rfl rfl (of_decide_eq_true rfl) (of_decide_eq_true rfl) ?_
          refine ct_224_236 hcr  g18 5 (by omega)  (fun h24 g24 u24 (p24_0 : 1 ≤ (h24 236 8)) (p24_1 : (1 ≤ (h18 236 8) ∧ (h24 236 8) = (h18 236 8) ∧ (h24 236 9) = (h18 236 9)) ∨ ((h18 236 8) = 0 ∧ (h24 236 9) = (h18 236 5) ∧ (((h18 236 6) = 4 ∧ (h24 236 8) = 1) ∨ ((h18 236 6) ≠ 4 ∧ (h24 236 8) = 5)))) => ?_)
          have F25 := F19.then (by decide +kernel) u24
          have b26 := gi_b (lo := 0) (hi := 5) g24 236 8 rfl
          have e27 : h18 236 5 = h 236 5 := (u18 236 5 rfl)
          have e28 : h18 236 6 = h 236 6 := (u18 236 6 rfl)
          have b29 := gi_b (lo := -2147483648) (hi := 2147483647) g24 236 9 rfl
          replace p24_1 := p24_1.resolve_right (fun x => absurd x.1 (by omega))
          refine wk_n ?_
          refine wi_aload_n (i := 0) (x := 236) (nx := 49) (r1 := 0) (r2 := 0) (r3 := 0) rfl rfl ?_
          refine wr_V (k0 := 236) (rest := []) (as := [.ref 236]) (nx := 52) (r1 := 219) (r2 := 0) (r3 := 11) rfl rfl rfl (of_decide_eq_true rfl) rfl rfl (by decide) rfl rfl (of_decide_eq_true rfl) (of_decide_eq_true rfl) ?_
          refine wi_aload_n (i := 0) (x := 236) (nx := 1) (r1 := 0) (r2 := 0) (r3 := 0) rfl rfl ?_
          refine wr_gi0 (k0 := 236) (x := h24 236 8) (nx := 4) (r1 := 11) (r2 := 8) (r3 := 0) rfl rfl (by decide) rfl ⟨rfl, rfl⟩ rfl rfl ?_
          refine wi_if (cd := .ne) (nx := 7) (r1 := 11) (r2 := 0) (r3 := 0) rfl (by omega) (fun (q30 : (h24 236 8) ≠ 0) => ?_) (fun (q30 : ¬ ((h24 236 8) ≠ 0)) => by exfalso; omega)
          refine wi_iconst (n := 0) (nx := 12) (r1 := 0) (r2 := 0) (r3 := 0) rfl ?_
          refine wi_zreturn (nx := 13) (r1 := 0) (r2 := 0) (r3 := 0) rfl rfl (by omega) ?_
          refine wk_i ?_
          refine wi_if (cd := .ne) (nx := 55) (r1 := 56) (r2 := 0) (r3 := 0) rfl (by omega) (fun (q31 : 0 ≠ 0) => by exfalso; omega) (fun (q31 : ¬ (0 ≠ 0)) => ?_)
          refine wi_return (nx := 56) (r1 := 0) (r2 := 0) (r3 := 0) rfl rfl ?_
          have e32 : h24 236 44 = h 236 44 := ((u24 236 44 rfl).trans (u18 236 44 rfl))
          have e33 : h24 236 4 = h 236 4 := ((u24 236 4 rfl).trans (u18 236 4 rfl))
          have e34 : h24 236 6 = h 236 6 := ((u24 236 6 rfl).trans (u18 236 6 rfl))
          have e35 : h24 236 42 = h 236 42 := ((u24 236 42 rfl).trans (u18 236 42 rfl))
          have e36 : h24 236 43 = h 236 43 := ((u24 236 43 rfl).trans (u18 236 43 rfl))
          exact k h24 g24 F25 (show (1 ≤ (h24 236 8)) ∨ ((h24 236 8) = 0 ∧ (h24 236 44) = (h 236 44) + 1) ∨ ((h24 236 8) = 0 ∧ (h24 236 44) = (h 236 44)) from (Or.inl (by omega))) (show (h24 236 8) ≠ 0 ∨ (h24 236 9) = -1 from (Or.inl (by omega))) (show (h 236 4) ≤ (h24 236 4) by omega) (show (h24 236 4) ≤ (h 236 3) by omega) (show 1 ≤ (h24 236 8) ∨ (h24 236 6) = 0 ∨ (h 236 4) + 1 ≤ (h24 236 4) from (Or.inl (by omega))) (show 1 ≤ (h24 236 8) ∨ (h24 236 42) + (h24 236 44) ≤ 2 * (h24 236 43) from (Or.inl (by omega))) (fun e => absurd e (by omega)) (Or.inl ⟨by omega, by unfold sc_cmd; (repeat (first | unfold sc_hd | unfold sc_num | unfold sc_mk)); (try dsimp only); rw [if_pos dw14]; (repeat (first | unfold sc_hd | unfold sc_num | unfold sc_mk)); (try dsimp only); rw [if_pos (show tk_wd (tk_lw tB tn tp) = 20 ∧ 2 ≤ h 236 44 from ⟨by omega, by omega⟩)]; (repeat (first | unfold sc_hd | unfold sc_num | unfold sc_mk)); (try dsimp only); first | done | exact sc_inl (by omega) (by omega)⟩)
  ·
    have dw14 : TKn (tk_kd tB tn tp = 1 ∧ 13 ≤ tk_wd (tk_lw tB tn tp) ∧ tk_wd (tk_lw tB tn tp) ≤ 20) := tkn_c p12_0.1
    replace p12_0 := p12_0.2
    refine wi_istore_n (i := 1) (e := z13) (lo2 := [(1, vi z13), (0, .ref 236)]) (nx := 5) (r1 := 0) (r2 := 0) (r3 := 0) rfl rfl ?_
    refine wi_iload_n (i := 1) (e := z13) (nx := 6) (r1 := 0) (r2 := 0) (r3 := 0) rfl rfl ?_
    refine wi_iconst (n := (-1)) (nx := 7) (r1 := 0) (r2 := 0) (r3 := 0) rfl ?_
    refine wi_icmp (cd := .ne) (nx := 10) (r1 := 15) (r2 := 0) (r3 := 0) rfl (by omega) (by omega) (fun (q15 : z13 ≠ (-1)) => by exfalso; omega) (fun (q15 : ¬ (z13 ≠ (-1))) => ?_)
    refine wi_aload_n (i := 0) (x := 236) (nx := 11) (r1 := 0) (r2 := 0) (r3 := 0) rfl rfl ?_
    refine wi_iconst (n := 1) (nx := 12) (r1 := 0) (r2 := 0) (r3 := 0) rfl ?_
    refine wr_V (k0 := 236) (rest := []) (as := [.ref 236, vi 1]) (nx := 15) (r1 := 224) (r2 := 1) (r3 := 11) rfl rfl rfl (of_decide_eq_true rfl) rfl rfl (by decide) rfl rfl (of_decide_eq_true rfl) (of_decide_eq_true rfl) ?_
    refine ct_224_236 hcr  g 1 (by omega)  (fun h16 g16 u16 (p16_0 : 1 ≤ (h16 236 8)) (p16_1 : (1 ≤ (h 236 8) ∧ (h16 236 8) = (h 236 8) ∧ (h16 236 9) = (h 236 9)) ∨ ((h 236 8) = 0 ∧ (h16 236 9) = (h 236 5) ∧ (((h 236 6) = 4 ∧ (h16 236 8) = 1) ∨ ((h 236 6) ≠ 4 ∧ (h16 236 8) = 1)))) => ?_)
    have F17 := F0.then (by decide +kernel) u16
    have b18 := gi_b (lo := 0) (hi := 5) g16 236 8 rfl
    have b19 := gi_b (lo := -2147483648) (hi := 2147483647) g16 236 9 rfl
    replace p16_1 := p16_1.resolve_left (by omega)
    replace p16_1 := And.intro p16_1.2.1 (p16_1.2.2.elim (fun x => x.2) (fun x => x.2))
    refine wk_n ?_
    refine wi_iload_n (i := 1) (e := z13) (nx := 16) (r1 := 0) (r2 := 0) (r3 := 0) rfl rfl ?_
    refine wi_bipush (n := 7) (nx := 18) (r1 := 0) (r2 := 0) (r3 := 0) rfl (by decide) ?_
    refine wi_icmp (cd := .ne) (nx := 21) (r1 := 34) (r2 := 0) (r3 := 0) rfl (by omega) (by omega) (fun (q20 : z13 ≠ 7) => ?_) (fun (q20 : ¬ (z13 ≠ 7)) => by exfalso; omega)
    refine wi_aload_n (i := 0) (x := 236) (nx := 35) (r1 := 0) (r2 := 0) (r3 := 0) rfl rfl ?_
    refine wr_gi0 (k0 := 236) (x := h 236 43) (nx := 38) (r1 := 11) (r2 := 43) (r3 := 0) rfl rfl (by decide) rfl ⟨rfl, rfl⟩ rfl (u16 236 43 rfl) ?_
    refine wi_bipush (n := 40) (nx := 40) (r1 := 0) (r2 := 0) (r3 := 0) rfl (by decide) ?_
    refine wi_icmp (cd := .ne) (nx := 43) (r1 := 48) (r2 := 0) (r3 := 0) rfl (by omega) (by omega) (fun (q21 : (h 236 43) ≠ 40) => ?_) (fun (q21 : ¬ ((h 236 43) ≠ 40)) => ?_)
    ·
      replace q21 : (h 236 43) + 1 ≤ 40 := by omega
      refine wi_aload_n (i := 0) (x := 236) (nx := 49) (r1 := 0) (r2 := 0) (r3 := 0) rfl rfl ?_
      refine wr_V (k0 := 236) (rest := []) (as := [.ref 236]) (nx := 52) (r1 := 219) (r2 := 0) (r3 := 11) rfl rfl rfl (of_decide_eq_true rfl) rfl rfl (by decide) rfl rfl (of_decide_eq_true rfl) (of_decide_eq_true rfl) ?_
      refine wi_aload_n (i := 0) (x := 236) (nx := 1) (r1 := 0) (r2 := 0) (r3 := 0) rfl rfl ?_
      refine wr_gi0 (k0 := 236) (x := h16 236 8) (nx := 4) (r1 := 11) (r2 := 8) (r3 := 0) rfl rfl (by decide) rfl ⟨rfl, rfl⟩ rfl rfl ?_
      refine wi_if (cd := .ne) (nx := 7) (r1 := 11) (r2 := 0) (r3 := 0) rfl (by omega) (fun (q22 : (h16 236 8) ≠ 0) => ?_) (fun (q22 : ¬ ((h16 236 8) ≠ 0)) => by exfalso; omega)
      refine wi_iconst (n := 0) (nx := 12) (r1 := 0) (r2 := 0) (r3 := 0) rfl ?_
      refine wi_zreturn (nx := 13) (r1 := 0) (r2 := 0) (r3 := 0) rfl rfl (by omega) ?_
      refine wk_i ?_
      refine wi_if (cd := .ne) (nx := 55) (r1 := 56) (r2 := 0) (r3 := 0) rfl (by omega) (fun (q23 : 0 ≠ 0) => by exfalso; omega) (fun (q23 : ¬ (0 ≠ 0)) => ?_)
      refine wi_return (nx := 56) (r1 := 0) (r2 := 0) (r3 := 0) rfl rfl ?_
      have e24 : h16 236 44 = h 236 44 := (u16 236 44 rfl)
      have e25 : h16 236 4 = h 236 4 := (u16 236 4 rfl)
      have e26 : h16 236 6 = h 236 6 := (u16 236 6 rfl)
      have e27 : h16 236 42 = h 236 42 := (u16 236 42 rfl)
      have e28 : h16 236 43 = h 236 43 := (u16 236 43 rfl)
      exact k h16 g16 F17 (show (1 ≤ (h16 236 8)) ∨ ((h16 236 8) = 0 ∧ (h16 236 44) = (h 236 44) + 1) ∨ ((h16 236 8) = 0 ∧ (h16 236 44) = (h 236 44)) from (Or.inl (by omega))) (show (h16 236 8) ≠ 0 ∨ (h16 236 9) = -1 from (Or.inl (by omega))) (show (h 236 4) ≤ (h16 236 4) by omega) (show (h16 236 4) ≤ (h 236 3) by omega) (show 1 ≤ (h16 236 8) ∨ (h16 236 6) = 0 ∨ (h 236 4) + 1 ≤ (h16 236 4) from (Or.inl (by omega))) (show 1 ≤ (h16 236 8) ∨ (h16 236 42) + (h16 236 44) ≤ 2 * (h16 236 43) from (Or.inl (by omega))) (fun e => absurd e (by omega)) (Or.inl ⟨by omega, by unfold sc_cmd; (repeat (first | unfold sc_hd | unfold sc_num | unfold sc_mk)); (try dsimp only); rw [if_neg dw14.no]; (repeat (first | unfold sc_hd | unfold sc_num | unfold sc_mk)); (try dsimp only); first | done | exact sc_inl (by omega) (by omega)⟩)
    ·
      refine wi_aload_n (i := 0) (x := 236) (nx := 44) (r1 := 0) (r2 := 0) (r3 := 0) rfl rfl ?_
      refine wi_iconst (n := 5) (nx := 45) (r1 := 0) (r2 := 0) (r3 := 0) rfl ?_
      refine wr_V (k0 := 236) (rest := []) (as := [.ref 236, vi 5]) (nx := 48) (r1 := 224) (r2 := 1) (r3 := 11) rfl rfl rfl (of_decide_eq_true rfl) rfl rfl (by decide) rfl rfl (of_decide_eq_true rfl) (of_decide_eq_true rfl) ?_
      refine ct_224_236 hcr  g16 5 (by omega)  (fun h22 g22 u22 (p22_0 : 1 ≤ (h22 236 8)) (p22_1 : (1 ≤ (h16 236 8) ∧ (h22 236 8) = (h16 236 8) ∧ (h22 236 9) = (h16 236 9)) ∨ ((h16 236 8) = 0 ∧ (h22 236 9) = (h16 236 5) ∧ (((h16 236 6) = 4 ∧ (h22 236 8) = 1) ∨ ((h16 236 6) ≠ 4 ∧ (h22 236 8) = 5)))) => ?_)
      have F23 := F17.then (by decide +kernel) u22
      have b24 := gi_b (lo := 0) (hi := 5) g22 236 8 rfl
      have e25 : h16 236 5 = h 236 5 := (u16 236 5 rfl)
      have e26 : h16 236 6 = h 236 6 := (u16 236 6 rfl)
      have b27 := gi_b (lo := -2147483648) (hi := 2147483647) g22 236 9 rfl
      replace p22_1 := p22_1.resolve_right (fun x => absurd x.1 (by omega))
      refine wk_n ?_
      refine wi_aload_n (i := 0) (x := 236) (nx := 49) (r1 := 0) (r2 := 0) (r3 := 0) rfl rfl ?_
      refine wr_V (k0 := 236) (rest := []) (as := [.ref 236]) (nx := 52) (r1 := 219) (r2 := 0) (r3 := 11) rfl rfl rfl (of_decide_eq_true rfl) rfl rfl (by decide) rfl rfl (of_decide_eq_true rfl) (of_decide_eq_true rfl) ?_
      refine wi_aload_n (i := 0) (x := 236) (nx := 1) (r1 := 0) (r2 := 0) (r3 := 0) rfl rfl ?_
      refine wr_gi0 (k0 := 236) (x := h22 236 8) (nx := 4) (r1 := 11) (r2 := 8) (r3 := 0) rfl rfl (by decide) rfl ⟨rfl, rfl⟩ rfl rfl ?_
      refine wi_if (cd := .ne) (nx := 7) (r1 := 11) (r2 := 0) (r3 := 0) rfl (by omega) (fun (q28 : (h22 236 8) ≠ 0) => ?_) (fun (q28 : ¬ ((h22 236 8) ≠ 0)) => by exfalso; omega)
      refine wi_iconst (n := 0) (nx := 12) (r1 := 0) (r2 := 0) (r3 := 0) rfl ?_
      refine wi_zreturn (nx := 13) (r1 := 0) (r2 := 0) (r3 := 0) rfl rfl (by omega) ?_
      refine wk_i ?_
      refine wi_if (cd := .ne) (nx := 55) (r1 := 56) (r2 := 0) (r3 := 0) rfl (by omega) (fun (q29 : 0 ≠ 0) => by exfalso; omega) (fun (q29 : ¬ (0 ≠ 0)) => ?_)
      refine wi_return (nx := 56) (r1 := 0) (r2 := 0) (r3 := 0) rfl rfl ?_
      have e30 : h22 236 44 = h 236 44 := ((u22 236 44 rfl).trans (u16 236 44 rfl))
      have e31 : h22 236 4 = h 236 4 := ((u22 236 4 rfl).trans (u16 236 4 rfl))
      have e32 : h22 236 6 = h 236 6 := ((u22 236 6 rfl).trans (u16 236 6 rfl))
      have e33 : h22 236 42 = h 236 42 := ((u22 236 42 rfl).trans (u16 236 42 rfl))
      have e34 : h22 236 43 = h 236 43 := ((u22 236 43 rfl).trans (u16 236 43 rfl))
      exact k h22 g22 F23 (show (1 ≤ (h22 236 8)) ∨ ((h22 236 8) = 0 ∧ (h22 236 44) = (h 236 44) + 1) ∨ ((h22 236 8) = 0 ∧ (h22 236 44) = (h 236 44)) from (Or.inl (by omega))) (show (h22 236 8) ≠ 0 ∨ (h22 236 9) = -1 from (Or.inl (by omega))) (show (h 236 4) ≤ (h22 236 4) by omega) (show (h22 236 4) ≤ (h 236 3) by omega) (show 1 ≤ (h22 236 8) ∨ (h22 236 6) = 0 ∨ (h 236 4) + 1 ≤ (h22 236 4) from (Or.inl (by omega))) (show 1 ≤ (h22 236 8) ∨ (h22 236 42) + (h22 236 44) ≤ 2 * (h22 236 43) from (Or.inl (by omega))) (fun e => absurd e (by omega)) (Or.inl ⟨by omega, by unfold sc_cmd; (repeat (first | unfold sc_hd | unfold sc_num | unfold sc_mk)); (try dsimp only); rw [if_neg dw14.no]; (repeat (first | unfold sc_hd | unfold sc_num | unfold sc_mk)); (try dsimp only); first | done | exact sc_inl (by omega) (by omega)⟩)
-- method 338: Model.closes()V
set_option maxRecDepth 100000 in
set_option maxHeartbeats 100000000 in
theorem ct_338_236 {L : Nat} {xs : Nat → Int32} {d b c : Nat} {h : hp} {cr : Nat → Nat → Option Nat} {Q : hp_Q} (hcr : CR cr)  {tB : Nat → Int} {tn  : Int} (g : GI h)   (pp0 : h 236 4 ≤ h 236 3) (pp1 : 1 ≤ h 236 8 ∨ h 236 42 + h 236 44 ≤ 2 * h 236 43) (xq0 : h 236 8 = 0 → WP (h 253) (h 236 42) (h 236 44)) (xq1 : RefB tB tn h) (xq2 : SCI tB tn h) (k : ∀ (h2 : hp) , GI h2 → FR [(253, 253, none), (254, 254, none), (236, 236, some (4, 4)), (236, 236, some (5, 5)), (236, 236, some (6, 6)), (236, 236, some (7, 7)), (236, 236, some (8, 8)), (236, 236, some (9, 9)), (236, 236, some (12, 12)), (236, 236, some (42, 42)), (236, 236, some (44, 44))] h h2 → (h 236 4 ≤ h2 236 4) → (h2 236 4 ≤ h 236 3) → (1 ≤ h2 236 8 ∨ h 236 8 = 0) → (h 236 6 ≠ 0 ∨ h2 236 6 = 0) → (1 ≤ h2 236 8 ∨ h2 236 42 + h2 236 44 ≤ 2 * h2 236 43) → (h2 236 8 = 0 → WP (h2 253) (h2 236 42) (h2 236 44)) → (SCI tB tn h2) → (1 ≤ h2 236 8 ∨ h2 236 44 ≤ 0 ∨ h2 236 6 ≠ 3 ∨ h2 236 7 ≠ 41) → Q (.inl none) (hp_w h2 cr) b c) : wp (md_xa (L, xs)) (d + 3) 338 (0, [(0, .ref 236)], [], hp_w h cr, b, c) Q := by
  have F0 : FR [(253, 253, none), (254, 254, none), (236, 236, some (4, 4)), (236, 236, some (5, 5)), (236, 236, some (6, 6)), (236, 236, some (7, 7)), (236, 236, some (8, 8)), (236, 236, some (9, 9)), (236, 236, some (12, 12)), (236, 236, some (42, 42)), (236, 236, some (44, 44))] h h := FR.refl
  have tb_1 : h 236 3 = tn := xq1.2.1
  have tb_2 : 0 ≤ tn ∧ tn ≤ 800 := xq1.2.2
  have b1 := gi_b (lo := 0) (hi := 800) g 236 4 rfl
  have b2 := gi_b (lo := 0) (hi := 800) g 236 3 rfl
  have b3 := gi_b (lo := 0) (hi := 5) g 236 8 rfl
  have b4 := gi_b (lo := 0) (hi := 80) g 236 42 rfl
  have b5 := gi_b (lo := 0) (hi := 2) g 236 44 rfl
  have b6 := gi_b (lo := 0) (hi := 40) g 236 43 rfl
  have b8 := gi_b (lo := 0) (hi := 4) g 236 6 rfl
  refine wl_0 (fun h7 => GI h7 ∧ FR [(253, 253, none), (254, 254, none), (236, 236, some (4, 4)), (236, 236, some (5, 5)), (236, 236, some (6, 6)), (236, 236, some (7, 7)), (236, 236, some (8, 8)), (236, 236, some (9, 9)), (236, 236, some (12, 12)), (236, 236, some (42, 42)), (236, 236, some (44, 44))] h h7 ∧ FR [(253, 253, none), (254, 254, none), (236, 236, some (4, 4)), (236, 236, some (5, 5)), (236, 236, some (6, 6)), (236, 236, some (7, 7)), (236, 236, some (8, 8)), (236, 236, some (9, 9)), (236, 236, some (12, 12)), (236, 236, some (42, 42)), (236, 236, some (44, 44))] h h7 ∧ (((h7 236 4) ≤ (h7 236 3)) ∧ ((h 236 8) = 0 ∨ 1 ≤ (h7 236 8)) ∧ ((h 236 6) ≠ 0 ∨ (h7 236 6) = 0) ∧ ((h 236 4) ≤ (h7 236 4)) ∧ (1 ≤ (h7 236 8) ∨ (h7 236 42) + (h7 236 44) ≤ 2 * (h7 236 43))) ∧ (h7 236 8 = 0 → WP (h7 253) (h7 236 42) (h7 236 44)) ∧ SCI tB tn h7) (fun h7 => ((h7 236 44)).toNat) (fun h7 => (0, [(0, .ref 236)], [], hp_w h7 cr, b, c)) ?_ h ⟨g, F0, FR.refl, (show ((h 236 4) ≤ (h 236 3)) ∧ ((h 236 8) = 0 ∨ 1 ≤ (h 236 8)) ∧ ((h 236 6) ≠ 0 ∨ (h 236 6) = 0) ∧ ((h 236 4) ≤ (h 236 4)) ∧ (1 ≤ (h 236 8) ∨ (h 236 42) + (h 236 44) ≤ 2 * (h 236 43)) by omega), xq0, xq2⟩
  intro h7 ⟨g7, F9, u7, f7, X7_0, X7_1⟩ I7
  have b10 := gi_b (lo := 0) (hi := 2) g7 236 44 rfl
  have b11 := gi_b (lo := 0) (hi := 800) g7 236 4 rfl
  have e12 : h7 236 3 = h 236 3 := (u7 236 3 rfl)
  have b13 := gi_b (lo := 0) (hi := 5) g7 236 8 rfl
  have b14 := gi_b (lo := 0) (hi := 4) g7 236 6 rfl
  have b15 := gi_b (lo := 0) (hi := 80) g7 236 42 rfl
  have e16 : h7 236 43 = h 236 43 := (u7 236 43 rfl)
  refine wi_aload_n (i := 0) (x := 236) (nx := 1) (r1 := 0) (r2 := 0) (r3 := 0) rfl rfl ?_
  refine wr_gi0 (k0 := 236) (x := h7 236 44) (nx := 4) (r1 := 11) (r2 := 44) (r3 := 0) rfl rfl (by decide) rfl ⟨rfl, rfl⟩ rfl rfl ?_
  refine wi_if (cd := .le) (nx := 7) (r1 := 46) (r2 := 0) (r3 := 0) rfl (by omega) (fun (q17 : (h7 236 44) ≤ 0) => ?_) (fun (q17 : ¬ ((h7 236 44) ≤ 0)) => ?_)
  ·
    refine wi_return (nx := 47) (r1 := 0) (r2 := 0) (r3 := 0) rfl rfl ?_
    have q18 : h7 253 = h7 253 := funext (fun i => rfl)
    have b19 := gi_b (lo := 0) (hi := 999) g7 236 7 rfl
    exact k h7 g7 F9 (show (h 236 4) ≤ (h7 236 4) by omega) (show (h7 236 4) ≤ (h 236 3) by omega) (show 1 ≤ (h7 236 8) ∨ (h 236 8) = 0 by omega) (show (h 236 6) ≠ 0 ∨ (h7 236 6) = 0 by omega) (show 1 ≤ (h7 236 8) ∨ (h7 236 42) + (h7 236 44) ≤ 2 * (h7 236 43) by omega) (fun e => by rw [q18, show h7 236 42 = h7 236 42 by omega, show h7 236 44 = h7 236 44 by omega]; exact X7_0 (by omega)) X7_1 (Or.inr (Or.inl (by omega)))
  ·
    refine wi_aload_n (i := 0) (x := 236) (nx := 8) (r1 := 0) (r2 := 0) (r3 := 0) rfl rfl ?_
    refine wi_bipush (n := 41) (nx := 10) (r1 := 0) (r2 := 0) (r3 := 0) rfl (by decide) ?_
    refine wr_V (k0 := 236) (rest := []) (as := [.ref 236, vi 41]) (nx := 13) (r1 := 236) (r2 := 1) (r3 := 11) rfl rfl rfl (of_decide_eq_true rfl) rfl rfl (by decide) rfl rfl (of_decide_eq_true rfl) (of_decide_eq_true rfl) ?_
    refine wi_aload_n (i := 0) (x := 236) (nx := 1) (r1 := 0) (r2 := 0) (r3 := 0) rfl rfl ?_
    refine wr_gi0 (k0 := 236) (x := h7 236 8) (nx := 4) (r1 := 11) (r2 := 8) (r3 := 0) rfl rfl (by decide) rfl ⟨rfl, rfl⟩ rfl rfl ?_
    refine wi_if (cd := .ne) (nx := 7) (r1 := 27) (r2 := 0) (r3 := 0) rfl (by omega) (fun (q18 : (h7 236 8) ≠ 0) => ?_) (fun (q18 : ¬ ((h7 236 8) ≠ 0)) => ?_)
    ·
      replace q18 : 0 + 1 ≤ (h7 236 8) := by omega
      refine wi_iconst (n := 0) (nx := 28) (r1 := 0) (r2 := 0) (r3 := 0) rfl ?_
      refine wi_zreturn (nx := 29) (r1 := 0) (r2 := 0) (r3 := 0) rfl rfl (by omega) ?_
      refine wk_i ?_
      refine wi_if (cd := .eq) (nx := 16) (r1 := 46) (r2 := 0) (r3 := 0) rfl (by omega) (fun (q20 : 0 = 0) => ?_) (fun (q20 : ¬ (0 = 0)) => by exfalso; omega)
      refine wi_return (nx := 47) (r1 := 0) (r2 := 0) (r3 := 0) rfl rfl ?_
      have q21 : h7 253 = h7 253 := funext (fun i => rfl)
      have b22 := gi_b (lo := 0) (hi := 999) g7 236 7 rfl
      exact k h7 g7 F9 (show (h 236 4) ≤ (h7 236 4) by omega) (show (h7 236 4) ≤ (h 236 3) by omega) (show 1 ≤ (h7 236 8) ∨ (h 236 8) = 0 from (Or.inl (by omega))) (show (h 236 6) ≠ 0 ∨ (h7 236 6) = 0 by omega) (show 1 ≤ (h7 236 8) ∨ (h7 236 42) + (h7 236 44) ≤ 2 * (h7 236 43) from (Or.inl (by omega))) (fun e => by rw [q21, show h7 236 42 = h7 236 42 by omega, show h7 236 44 = h7 236 44 by omega]; exact X7_0 (by omega)) X7_1 (Or.inl (by omega))
    ·
      refine wi_aload_n (i := 0) (x := 236) (nx := 8) (r1 := 0) (r2 := 0) (r3 := 0) rfl rfl ?_
      refine wr_gi0 (k0 := 236) (x := h7 236 6) (nx := 11) (r1 := 11) (r2 := 6) (r3 := 0) rfl rfl (by decide) rfl ⟨rfl, rfl⟩ rfl rfl ?_
      refine wi_iconst (n := 3) (nx := 12) (r1 := 0) (r2 := 0) (r3 := 0) rfl ?_
      refine wi_icmp (cd := .ne) (nx := 15) (r1 := 27) (r2 := 0) (r3 := 0) rfl (by omega) (by omega) (fun (q20 : (h7 236 6) ≠ 3) => ?_) (fun (q20 : ¬ ((h7 236 6) ≠ 3)) => ?_)
      ·
        try have kf21 := TKk.n3 (B := tB) (n := tn) (p := 0) (a6 := h7 236 6) (by assumption) (by omega)
        refine wi_iconst (n := 0) (nx := 28) (r1 := 0) (r2 := 0) (r3 := 0) rfl ?_
        refine wi_zreturn (nx := 29) (r1 := 0) (r2 := 0) (r3 := 0) rfl rfl (by omega) ?_
        refine wk_i ?_
        refine wi_if (cd := .eq) (nx := 16) (r1 := 46) (r2 := 0) (r3 := 0) rfl (by omega) (fun (q22 : 0 = 0) => ?_) (fun (q22 : ¬ (0 = 0)) => by exfalso; omega)
        refine wi_return (nx := 47) (r1 := 0) (r2 := 0) (r3 := 0) rfl rfl ?_
        have q23 : h7 253 = h7 253 := funext (fun i => rfl)
        have b24 := gi_b (lo := 0) (hi := 999) g7 236 7 rfl
        exact k h7 g7 F9 (show (h 236 4) ≤ (h7 236 4) by omega) (show (h7 236 4) ≤ (h 236 3) by omega) (show 1 ≤ (h7 236 8) ∨ (h 236 8) = 0 from (Or.inr (by omega))) (show (h 236 6) ≠ 0 ∨ (h7 236 6) = 0 by omega) (show 1 ≤ (h7 236 8) ∨ (h7 236 42) + (h7 236 44) ≤ 2 * (h7 236 43) from (Or.inr (by omega))) (fun e => by rw [q23, show h7 236 42 = h7 236 42 by omega, show h7 236 44 = h7 236 44 by omega]; exact X7_0 (by omega)) X7_1 (Or.inr (Or.inr (Or.inl (by omega))))
      ·
        refine wi_aload_n (i := 0) (x := 236) (nx := 16) (r1 := 0) (r2 := 0) (r3 := 0) rfl rfl ?_
        have b22 := gi_b (lo := 0) (hi := 999) g7 236 7 rfl
        refine wr_gi0 (k0 := 236) (x := h7 236 7) (nx := 19) (r1 := 11) (r2 := 7) (r3 := 0) rfl rfl (by decide) rfl ⟨rfl, rfl⟩ rfl rfl ?_
        refine wi_iload_n (i := 1) (e := 41) (nx := 20) (r1 := 0) (r2 := 0) (r3 := 0) rfl rfl ?_
        refine wi_icmp (cd := .ne) (nx := 23) (r1 := 27) (r2 := 0) (r3 := 0) rfl (by omega) (by omega) (fun (q23 : (h7 236 7) ≠ 41) => ?_) (fun (q23 : ¬ ((h7 236 7) ≠ 41)) => ?_)
        ·
          try have kf24 := TKk.t5 (B := tB) (n := tn) (p := 0) (a7 := h7 236 7) (by assumption) (by omega)
          refine wi_iconst (n := 0) (nx := 28) (r1 := 0) (r2 := 0) (r3 := 0) rfl ?_
          refine wi_zreturn (nx := 29) (r1 := 0) (r2 := 0) (r3 := 0) rfl rfl (by omega) ?_
          refine wk_i ?_
          refine wi_if (cd := .eq) (nx := 16) (r1 := 46) (r2 := 0) (r3 := 0) rfl (by omega) (fun (q25 : 0 = 0) => ?_) (fun (q25 : ¬ (0 = 0)) => by exfalso; omega)
          refine wi_return (nx := 47) (r1 := 0) (r2 := 0) (r3 := 0) rfl rfl ?_
          have q26 : h7 253 = h7 253 := funext (fun i => rfl)
          exact k h7 g7 F9 (show (h 236 4) ≤ (h7 236 4) by omega) (show (h7 236 4) ≤ (h 236 3) by omega) (show 1 ≤ (h7 236 8) ∨ (h 236 8) = 0 from (Or.inr (by omega))) (show (h 236 6) ≠ 0 ∨ (h7 236 6) = 0 from (Or.inl (by omega))) (show 1 ≤ (h7 236 8) ∨ (h7 236 42) + (h7 236 44) ≤ 2 * (h7 236 43) from (Or.inr (by omega))) (fun e => by rw [q26, show h7 236 42 = h7 236 42 by omega, show h7 236 44 = h7 236 44 by omega]; exact X7_0 (by omega)) X7_1 (Or.inr (Or.inr (Or.inr (by omega))))
        ·
          try have kf24 := TKk.s5 (B := tB) (n := tn) (p := 0) (a7 := h7 236 7) (by assumption) (by omega) (by omega)
          refine wi_iconst (n := 1) (nx := 24) (r1 := 0) (r2 := 0) (r3 := 0) rfl ?_
          refine wi_goto (nx := 27) (r1 := 28) (r2 := 0) (r3 := 0) rfl ?_
          refine wi_zreturn (nx := 29) (r1 := 0) (r2 := 0) (r3 := 0) rfl rfl (by omega) ?_
          refine wk_i ?_
          refine wi_if (cd := .eq) (nx := 16) (r1 := 46) (r2 := 0) (r3 := 0) rfl (by omega) (fun (q25 : 1 = 0) => by exfalso; omega) (fun (q25 : ¬ (1 = 0)) => ?_)
          have b26 := gi_b (lo := 0) (hi := 800) g7 236 5 rfl
          have b27 := gi_b (lo := -9223372036854775808) (hi := 9223372036854775807) g7 236 12 rfl
          have b28 := gi_b (lo := -2147483648) (hi := 2147483647) g7 236 9 rfl
          obtain ⟨e9s29, ks29, ps29, pas29, pbs29, pcs29, tks29, frs29⟩ := SCI.go X7_1 (by omega) (by omega)
          obtain ⟨tas29, tbs29, tcs29⟩ : _ ∧ _ ∧ TKk tB tn ps29 (h7 236 6) (h7 236 7) (h7 236 12) := id tks29
          have tN30 := @tk_nx_b tB tn ps29 (by omega) (by omega)
          have kcs29 : tk_kd tB tn ps29 = 5 := TKk.s5 tcs29 (by omega) (by omega)
          refine wi_aload_n (i := 0) (x := 236) (nx := 17) (r1 := 0) (r2 := 0) (r3 := 0) rfl rfl ?_
          refine wi_dup (nx := 18) (r1 := 0) (r2 := 0) (r3 := 0) rfl rfl ?_
          refine wr_gi0 (k0 := 236) (x := h7 236 44) (nx := 21) (r1 := 11) (r2 := 44) (r3 := 0) rfl rfl (by decide) rfl ⟨rfl, rfl⟩ rfl rfl ?_
          refine wi_iconst (n := 1) (nx := 22) (r1 := 0) (r2 := 0) (r3 := 0) rfl ?_
          refine wr_sub (nx := 23) (r1 := 0) (r2 := 0) (r3 := 0) rfl (fun e31 (fe31 : e31 = (h7 236 44) - 1) => ?_)
          refine wr_pf0 (k0 := 236) (x := e31) (bl := 0) (bh := 2) (nx := 26) (r1 := 11) (r2 := 44) (r3 := 0) rfl (by decide) rfl ⟨rfl, rfl⟩ rfl rfl g7 rfl (by omega) (fun h32 g32 w32 u32 => ?_)
          have F33 := F9.then rfl u32
          have F34 := u7.then rfl u32
          refine wi_aload_n (i := 0) (x := 236) (nx := 27) (r1 := 0) (r2 := 0) (r3 := 0) rfl rfl ?_
          refine wi_bipush (n := 8) (nx := 29) (r1 := 0) (r2 := 0) (r3 := 0) rfl (by decide) ?_
          refine wi_iconst (n := 0) (nx := 30) (r1 := 0) (r2 := 0) (r3 := 0) rfl ?_
          refine wr_V (k0 := 236) (rest := []) (as := [.ref 236, vi 8, vi 0]) (nx := 33) (r1 := 337) (r2 := 2) (r3 := 11) rfl rfl rfl (of_decide_eq_true rfl) rfl rfl (by decide) rfl rfl (of_decide_eq_true rfl) (of_decide_eq_true rfl) ?_
          refine wi_aload_n (i := 0) (x := 236) (nx := 1) (r1 := 0) (r2 := 0) (r3 := 0) rfl rfl ?_
          refine wr_V (k0 := 236) (rest := []) (as := [.ref 236]) (nx := 4) (r1 := 219) (r2 := 0) (r3 := 11) rfl rfl rfl (of_decide_eq_true rfl) rfl rfl (by decide) rfl rfl (of_decide_eq_true rfl) (of_decide_eq_true rfl) ?_
          refine wi_aload_n (i := 0) (x := 236) (nx := 1) (r1 := 0) (r2 := 0) (r3 := 0) rfl rfl ?_
          refine wr_gi0 (k0 := 236) (x := h7 236 8) (nx := 4) (r1 := 11) (r2 := 8) (r3 := 0) rfl rfl (by decide) rfl ⟨rfl, rfl⟩ rfl (u32 236 8 rfl) ?_
          refine wi_if (cd := .ne) (nx := 7) (r1 := 11) (r2 := 0) (r3 := 0) rfl (by omega) (fun (q35 : (h7 236 8) ≠ 0) => by exfalso; omega) (fun (q35 : ¬ ((h7 236 8) ≠ 0)) => ?_)
          refine wi_iconst (n := 1) (nx := 8) (r1 := 0) (r2 := 0) (r3 := 0) rfl ?_
          refine wi_goto (nx := 11) (r1 := 12) (r2 := 0) (r3 := 0) rfl ?_
          refine wi_zreturn (nx := 13) (r1 := 0) (r2 := 0) (r3 := 0) rfl rfl (by omega) ?_
          refine wk_i ?_
          refine wi_if (cd := .ne) (nx := 7) (r1 := 8) (r2 := 0) (r3 := 0) rfl (by omega) (fun (q37 : 1 ≠ 0) => ?_) (fun (q37 : ¬ (1 ≠ 0)) => by exfalso; omega)
          refine wi_aload_n (i := 0) (x := 236) (nx := 9) (r1 := 0) (r2 := 0) (r3 := 0) rfl rfl ?_
          refine wr_gr (k0 := 236) (x := 253) (nx := 12) (r1 := 11) (r2 := 37) (r3 := 0) rfl rfl (by decide) rfl ⟨rfl, rfl⟩ rfl ?_
          refine wi_aload_n (i := 0) (x := 236) (nx := 13) (r1 := 0) (r2 := 0) (r3 := 0) rfl rfl ?_
          refine wr_gi0 (k0 := 236) (x := h7 236 42) (nx := 16) (r1 := 11) (r2 := 42) (r3 := 0) rfl rfl (by decide) rfl ⟨rfl, rfl⟩ rfl (u32 236 42 rfl) ?_
          refine wi_iload_n (i := 1) (e := 8) (nx := 17) (r1 := 0) (r2 := 0) (r3 := 0) rfl rfl ?_
          obtain ⟨i38, ei38⟩ : ∃ q : Nat, (h7 236 42) = (q : Int) := ⟨(h7 236 42).toNat, by omega⟩
          refine wr_is (k0 := 253) (a := h7 236 42) (f := i38) (x := 8) (bl := 0) (bh := 8) (nx := 18) (r1 := 0) (r2 := 0) (r3 := 0) rfl (by decide) rfl (by omega) (by omega) (by decide) g32 rfl (by omega) (fun h39 g39 w39 u39 => ?_)
          have F40 := F33.then rfl (FR.rngp (lo := 253) (hi := 253) u39 (by decide))
          have F41 := F34.then rfl (FR.rngp (lo := 253) (hi := 253) u39 (by decide))
          refine wi_aload_n (i := 0) (x := 236) (nx := 19) (r1 := 0) (r2 := 0) (r3 := 0) rfl rfl ?_
          refine wr_gr (k0 := 236) (x := 254) (nx := 22) (r1 := 11) (r2 := 38) (r3 := 0) rfl rfl (by decide) rfl ⟨rfl, rfl⟩ rfl ?_
          refine wi_aload_n (i := 0) (x := 236) (nx := 23) (r1 := 0) (r2 := 0) (r3 := 0) rfl rfl ?_
          refine wr_gi0 (k0 := 236) (x := h7 236 42) (nx := 26) (r1 := 11) (r2 := 42) (r3 := 0) rfl rfl (by decide) rfl ⟨rfl, rfl⟩ rfl ((u39 236 42 (fn_a (by omega) fn_0)).trans (u32 236 42 rfl)) ?_
          refine wi_iload_n (i := 2) (e := 0) (nx := 27) (r1 := 0) (r2 := 0) (r3 := 0) rfl rfl ?_
          refine wr_is (k0 := 254) (a := h7 236 42) (f := i38) (x := 0) (bl := 0) (bh := 999) (nx := 28) (r1 := 0) (r2 := 0) (r3 := 0) rfl (by decide) rfl (by omega) (by omega) (by decide) g39 rfl (by omega) (fun h42 g42 w42 u42 => ?_)
          have F43 := F40.then rfl (FR.rngp (lo := 254) (hi := 254) u42 (by decide))
          have F44 := F41.then rfl (FR.rngp (lo := 254) (hi := 254) u42 (by decide))
          refine wi_aload_n (i := 0) (x := 236) (nx := 29) (r1 := 0) (r2 := 0) (r3 := 0) rfl rfl ?_
          refine wi_dup (nx := 30) (r1 := 0) (r2 := 0) (r3 := 0) rfl rfl ?_
          refine wr_gi0 (k0 := 236) (x := h7 236 42) (nx := 33) (r1 := 11) (r2 := 42) (r3 := 0) rfl rfl (by decide) rfl ⟨rfl, rfl⟩ rfl ((u42 236 42 (fn_a (by omega) fn_0)).trans ((u39 236 42 (fn_a (by omega) fn_0)).trans (u32 236 42 rfl))) ?_
          refine wi_iconst (n := 1) (nx := 34) (r1 := 0) (r2 := 0) (r3 := 0) rfl ?_
          refine wr_add (nx := 35) (r1 := 0) (r2 := 0) (r3 := 0) rfl (fun e45 (fe45 : e45 = (h7 236 42) + 1) => ?_)
          refine wr_pf0 (k0 := 236) (x := e45) (bl := 0) (bh := 80) (nx := 38) (r1 := 11) (r2 := 42) (r3 := 0) rfl (by decide) rfl ⟨rfl, rfl⟩ rfl rfl g42 rfl (by omega) (fun h46 g46 w46 u46 => ?_)
          have F47 := F43.then rfl u46
          have F48 := F44.then rfl u46
          refine wi_return (nx := 39) (r1 := 0) (r2 := 0) (r3 := 0) rfl rfl ?_
          refine wk_n ?_
          refine wi_aload_n (i := 0) (x := 236) (nx := 34) (r1 := 0) (r2 := 0) (r3 := 0) rfl rfl ?_
          refine wr_V (k0 := 236) (rest := []) (as := [.ref 236]) (nx := 37) (r1 := 215) (r2 := 0) (r3 := 11) rfl rfl rfl (of_decide_eq_true rfl) rfl rfl (by decide) rfl rfl (of_decide_eq_true rfl) (of_decide_eq_true rfl) ?_
          have e50 : h46 236 4 = h7 236 4 := ((u46 236 4 rfl).trans ((u42 236 4 (fn_a (by omega) fn_0)).trans ((u39 236 4 (fn_a (by omega) fn_0)).trans (u32 236 4 rfl))))
          have e51 : h46 236 3 = h 236 3 := ((u46 236 3 rfl).trans ((u42 236 3 (fn_a (by omega) fn_0)).trans ((u39 236 3 (fn_a (by omega) fn_0)).trans ((u32 236 3 rfl).trans (u7 236 3 rfl)))))
          have rb52 := RefB.fr u7 rfl xq1
          have rb53 := RefB.fr u32 rfl rb52
          have rb54 := RefB.fr u39 rfl rb53
          have rb55 := RefB.fr u42 rfl rb54
          have rb56 := RefB.fr u46 rfl rb55
          refine ct_215_236 hcr  g46   (show (h46 236 4) ≤ (h46 236 3) by omega) (show (h46 236 4) = (tk_nx tB tn ps29) by omega) (show 0 ≤ (tk_nx tB tn ps29) by omega) (show (tk_nx tB tn ps29) ≤ tn by omega) rb56 (fun h49 g49 u49 (p49_0 : (h46 236 4) ≤ (h49 236 4)) (p49_1 : (h49 236 4) ≤ (h46 236 3)) (p49_2 : ((h49 236 4) = tk_nx tB tn (tk_nx tB tn ps29) ∧ (h49 236 5) = tk_st tB tn (tk_nx tB tn ps29) ∧ TKk tB tn (tk_nx tB tn ps29) ((h49 236 6)) ((h49 236 7)) ((h49 236 12)))) (p49_3 : (tk_nx tB tn ps29) ≤ tk_nx tB tn (tk_nx tB tn ps29) ∧ tk_nx tB tn (tk_nx tB tn ps29) ≤ tn) => ?_)
          have F57 := F47.then (by decide +kernel) u49
          have F58 := F48.then (by decide +kernel) u49
          have b59 := gi_b (lo := 0) (hi := 800) g49 236 4 rfl
          have b60 := gi_b (lo := 0) (hi := 800) g49 236 5 rfl
          have b61 := gi_b (lo := 0) (hi := 4) g49 236 6 rfl
          have b62 := gi_b (lo := 0) (hi := 999) g49 236 7 rfl
          have b63 := gi_b (lo := -9223372036854775808) (hi := 9223372036854775807) g49 236 12 rfl
          have tkk64 := p49_2.2.2
          have tN65 := @tk_nx_b tB tn (tk_nx tB tn ps29) (by omega) (by omega)
          refine wk_n ?_
          refine wi_aload_n (i := 0) (x := 236) (nx := 38) (r1 := 0) (r2 := 0) (r3 := 0) rfl rfl ?_
          refine wi_bipush (n := 59) (nx := 40) (r1 := 0) (r2 := 0) (r3 := 0) rfl (by decide) ?_
          refine wr_V (k0 := 236) (rest := []) (as := [.ref 236, vi 59]) (nx := 43) (r1 := 235) (r2 := 1) (r3 := 11) rfl rfl rfl (of_decide_eq_true rfl) rfl rfl (by decide) rfl rfl (of_decide_eq_true rfl) (of_decide_eq_true rfl) ?_
          have e67 : h49 236 3 = h 236 3 := ((u49 236 3 rfl).trans ((u46 236 3 rfl).trans ((u42 236 3 (fn_a (by omega) fn_0)).trans ((u39 236 3 (fn_a (by omega) fn_0)).trans ((u32 236 3 rfl).trans (u7 236 3 rfl))))))
          have e68 : h49 236 8 = h7 236 8 := ((u49 236 8 rfl).trans ((u46 236 8 rfl).trans ((u42 236 8 (fn_a (by omega) fn_0)).trans ((u39 236 8 (fn_a (by omega) fn_0)).trans (u32 236 8 rfl)))))
          have rb69 := RefB.fr u49 rfl rb56
          refine ct_235_236_L59 hcr  g49   (show (h49 236 4) ≤ (h49 236 3) by omega) (show 0 ≤ (tk_nx tB tn ps29) by omega) (show (tk_nx tB tn ps29) ≤ tn by omega) (show (tk_nx tB tn ps29) ≤ tk_nx tB tn (tk_nx tB tn ps29) ∧ tk_nx tB tn (tk_nx tB tn ps29) ≤ tn from ⟨by omega, by omega⟩) (show 1 ≤ (h49 236 8) ∨ ((h49 236 4) = tk_nx tB tn (tk_nx tB tn ps29) ∧ (h49 236 5) = tk_st tB tn (tk_nx tB tn ps29) ∧ TKk tB tn (tk_nx tB tn ps29) ((h49 236 6)) ((h49 236 7)) ((h49 236 12))) from (Or.inr (show ((h49 236 4) = tk_nx tB tn (tk_nx tB tn ps29) ∧ (h49 236 5) = tk_st tB tn (tk_nx tB tn ps29) ∧ TKk tB tn (tk_nx tB tn ps29) ((h49 236 6)) ((h49 236 7)) ((h49 236 12))) by first | assumption | exact ⟨by omega, by omega, TKk.mv (by assumption) (by omega) (by omega) (by omega)⟩))) rb69 (fun h66 g66 u66 (p66_0 : (1 ≤ (h49 236 8) ∧ (h66 236 8) = (h49 236 8) ∧ (h66 236 9) = (h49 236 9)) ∨ ((h49 236 8) = 0 ∧ tk_kd tB tn (tk_nx tB tn ps29) = 3 ∧ (h66 236 8) = (h49 236 8) ∧ (h66 236 9) = (h49 236 9) ∧ ((h66 236 4) = tk_nx tB tn (tk_nx tB tn (tk_nx tB tn ps29)) ∧ (h66 236 5) = tk_st tB tn (tk_nx tB tn (tk_nx tB tn ps29)) ∧ TKk tB tn (tk_nx tB tn (tk_nx tB tn ps29)) ((h66 236 6)) ((h66 236 7)) ((h66 236 12)))) ∨ ((h49 236 8) = 0 ∧ tk_kd tB tn (tk_nx tB tn ps29) ≠ 3 ∧ (h66 236 8) = 1 ∧ (h66 236 9) = tk_st tB tn (tk_nx tB tn ps29))) (p66_1 : (h49 236 4) ≤ (h66 236 4)) (p66_2 : (h66 236 4) ≤ (h49 236 3)) (p66_3 : 1 ≤ (h66 236 8) ∨ (h49 236 8) = 0) (p66_4 : 1 ≤ (h66 236 8) ∨ (h66 236 6) = 0 ∨ (h49 236 4) + 1 ≤ (h66 236 4)) => ?_)
          have F70 := F57.then (by decide +kernel) u66
          have F71 := F58.then (by decide +kernel) u66
          have e72 : h49 236 9 = h7 236 9 := ((u49 236 9 rfl).trans ((u46 236 9 rfl).trans ((u42 236 9 (fn_a (by omega) fn_0)).trans ((u39 236 9 (fn_a (by omega) fn_0)).trans (u32 236 9 rfl)))))
          have b73 := gi_b (lo := 0) (hi := 5) g66 236 8 rfl
          have b74 := gi_b (lo := -2147483648) (hi := 2147483647) g66 236 9 rfl
          have b75 := gi_b (lo := 0) (hi := 800) g66 236 4 rfl
          have b76 := gi_b (lo := 0) (hi := 800) g66 236 5 rfl
          have b77 := gi_b (lo := 0) (hi := 4) g66 236 6 rfl
          have b78 := gi_b (lo := 0) (hi := 999) g66 236 7 rfl
          have b79 := gi_b (lo := -9223372036854775808) (hi := 9223372036854775807) g66 236 12 rfl
          refine wk_n ?_
          rcases p66_0 with p66_0 | p66_0 | p66_0
          ·
            exfalso; omega
          ·
            replace p66_3 := p66_3.resolve_left (by omega)
            have tkk80 := (p66_0.2.2.2.2).2.2
            have tN81 := @tk_nx_b tB tn (tk_nx tB tn (tk_nx tB tn ps29)) (by omega) (by omega)
            refine wi_goto (nx := 46) (r1 := 0) (r2 := 0) (r3 := 0) rfl ?_
            have e82 : h66 236 3 = h 236 3 := ((u66 236 3 rfl).trans ((u49 236 3 rfl).trans ((u46 236 3 rfl).trans ((u42 236 3 (fn_a (by omega) fn_0)).trans ((u39 236 3 (fn_a (by omega) fn_0)).trans ((u32 236 3 rfl).trans (u7 236 3 rfl)))))))
            have e83 : h66 236 42 = e45 := ((u66 236 42 rfl).trans ((u49 236 42 rfl).trans w46))
            have e84 : h66 236 44 = e31 := ((u66 236 44 rfl).trans ((u49 236 44 rfl).trans ((u46 236 44 rfl).trans ((u42 236 44 (fn_a (by omega) fn_0)).trans ((u39 236 44 (fn_a (by omega) fn_0)).trans w32)))))
            have e85 : h66 236 43 = h 236 43 := ((u66 236 43 rfl).trans ((u49 236 43 rfl).trans ((u46 236 43 rfl).trans ((u42 236 43 (fn_a (by omega) fn_0)).trans ((u39 236 43 (fn_a (by omega) fn_0)).trans ((u32 236 43 rfl).trans (u7 236 43 rfl)))))))
            have q86 : h66 253 = h39 253 := funext (fun i => ((u66 253 i (fo_no_ok (by decide) i)).trans ((u49 253 i (fo_no_ok (by decide) i)).trans ((u46 253 i rfl).trans (u42 253 i (fn_a (by omega) fn_0))))))
            have q87 : h32 253 = h7 253 := funext (fun i => (u32 253 i rfl))
            exact I7 h66 ⟨g66, F70, F71, (show ((h66 236 4) ≤ (h66 236 3)) ∧ ((h 236 8) = 0 ∨ 1 ≤ (h66 236 8)) ∧ ((h 236 6) ≠ 0 ∨ (h66 236 6) = 0) ∧ ((h 236 4) ≤ (h66 236 4)) ∧ (1 ≤ (h66 236 8) ∨ (h66 236 42) + (h66 236 44) ≤ 2 * (h66 236 43)) by omega), (fun e => by
                rw [q86]
                refine WP.put (S := h7 253) (n := h7 236 42) (o := h7 236 44) (X7_0 (by omega)) (by omega) (fun k hk => (u39 253 k (fn_i (by omega) fn_0)).trans (congrFun q87 k)) ?_ (by omega)
                rw [show (h7 236 42).toNat = i38 by omega, w39]
                omega), (SCI.mk ks29 (tk_nx tB tn (tk_nx tB tn ps29)) (by omega) (by omega) (by omega) (by omega) (by omega) (by first | assumption | exact ⟨by omega, by omega, TKk.mv (by assumption) (by omega) (by omega) (by omega)⟩) (by rw [show h66 236 44 = h7 236 44 - 1 by omega, show h66 236 43 = h7 236 43 by omega]; exact (sc_c1 (by omega) (by omega) (by omega)).symm.trans frs29))⟩ (show ((h66 236 44)).toNat < ((h7 236 44)).toNat by omega)
          ·
            clear p66_3
            clear p66_4
            refine wi_goto (nx := 46) (r1 := 0) (r2 := 0) (r3 := 0) rfl ?_
            have e80 : h66 236 3 = h 236 3 := ((u66 236 3 rfl).trans ((u49 236 3 rfl).trans ((u46 236 3 rfl).trans ((u42 236 3 (fn_a (by omega) fn_0)).trans ((u39 236 3 (fn_a (by omega) fn_0)).trans ((u32 236 3 rfl).trans (u7 236 3 rfl)))))))
            have e81 : h66 236 42 = e45 := ((u66 236 42 rfl).trans ((u49 236 42 rfl).trans w46))
            have e82 : h66 236 44 = e31 := ((u66 236 44 rfl).trans ((u49 236 44 rfl).trans ((u46 236 44 rfl).trans ((u42 236 44 (fn_a (by omega) fn_0)).trans ((u39 236 44 (fn_a (by omega) fn_0)).trans w32)))))
            have e83 : h66 236 43 = h 236 43 := ((u66 236 43 rfl).trans ((u49 236 43 rfl).trans ((u46 236 43 rfl).trans ((u42 236 43 (fn_a (by omega) fn_0)).trans ((u39 236 43 (fn_a (by omega) fn_0)).trans ((u32 236 43 rfl).trans (u7 236 43 rfl)))))))
            have q84 : h66 253 = h39 253 := funext (fun i => ((u66 253 i (fo_no_ok (by decide) i)).trans ((u49 253 i (fo_no_ok (by decide) i)).trans ((u46 253 i rfl).trans (u42 253 i (fn_a (by omega) fn_0))))))
            have q85 : h32 253 = h7 253 := funext (fun i => (u32 253 i rfl))
            exact I7 h66 ⟨g66, F70, F71, (show ((h66 236 4) ≤ (h66 236 3)) ∧ ((h 236 8) = 0 ∨ 1 ≤ (h66 236 8)) ∧ ((h 236 6) ≠ 0 ∨ (h66 236 6) = 0) ∧ ((h 236 4) ≤ (h66 236 4)) ∧ (1 ≤ (h66 236 8) ∨ (h66 236 42) + (h66 236 44) ≤ 2 * (h66 236 43)) by omega), (fun e => by
                rw [q84]
                refine WP.put (S := h7 253) (n := h7 236 42) (o := h7 236 44) (X7_0 (by omega)) (by omega) (fun k hk => (u39 253 k (fn_i (by omega) fn_0)).trans (congrFun q85 k)) ?_ (by omega)
                rw [show (h7 236 42).toNat = i38 by omega, w39]
                omega), (SCI.er (c := 1) (by omega) (by omega) (by omega) (frs29.symm.trans (sc_clx (by omega) (by omega) (by omega))))⟩ (show ((h66 236 44)).toNat < ((h7 236 44)).toNat by omega)
