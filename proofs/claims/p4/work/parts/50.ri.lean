-- method 233: Model.readsCar()V
set_option maxRecDepth 100000 in
set_option maxHeartbeats 100000000 in
theorem ct_233_236 {L : Nat} {xs : Nat → Int32} {d b c : Nat} {h : hp} {cr : Nat → Nat → Option Nat} {Q : hp_Q} (hcr : CR cr)  {tB : Nat → Int} {tn tp : Int} {tS : tk_S} (g : GI h)   (pp0 : h 236 4 ≤ h 236 3) (pp1 : 0 ≤ tp) (pp2 : tp ≤ tn) (pp3 : tp ≤ tk_nx tB tn tp ∧ tk_nx tB tn tp ≤ tn) (pp4 : h 236 8 = 0) (pp5 : h 239 5 ≤ 9) (pp6 : 1 ≤ h 239 5) (pp7 : h 239 7 ≤ 3) (pp8 : h 239 15 ≤ 6) (pp9 : h 239 16 ≤ 6) (pp10 : h 239 17 ≤ 6) (pp11 : h 239 18 ≤ 6) (pp12 : (h 236 4 = tk_nx tB tn tp ∧ h 236 5 = tk_st tB tn tp ∧ TKk tB tn tp (h 236 6) (h 236 7) (h 236 12))) (pp13 : tS 0 ≤ 5 ∧ tS 1 ≤ 4 ∧ tS 2 ≤ 12) (pp14 : h 236 9 = -1) (pp15 : tk_kd tB tn tp = 1) (xq0 : RefB tB tn h) (xq1 : CVr tS h) (k : ∀ (h2 : hp) , GI h2 → FR [(236, 236, some (4, 4)), (236, 236, some (5, 5)), (236, 236, some (6, 6)), (236, 236, some (7, 7)), (236, 236, some (8, 8)), (236, 236, some (9, 9)), (236, 236, some (12, 12)), (239, 239, some (2, 2)), (239, 239, some (19, 30)), (239, 239, some (31, 42)), (239, 239, some (43, 54))] h h2 → (h 236 4 ≤ h2 236 4) → (h2 236 4 ≤ h 236 3) → (1 ≤ h2 236 8 ∨ (h2 239 5 ≤ 9 ∧ 1 ≤ h2 239 5 ∧ h2 239 7 ≤ 3 ∧ h2 239 15 ≤ 6 ∧ h2 239 16 ≤ 6 ∧ h2 239 17 ≤ 6 ∧ h2 239 18 ≤ 6)) → (h2 236 8 ≠ 0 ∨ h2 236 9 = -1) → (tk_OR tB tn (tk_car tB tn tp tS) h2) → Q (.inl none) (hp_w h2 cr) b c) : wp (md_xa (L, xs)) (d + 5) 233 (0, [(0, .ref 236)], [], hp_w h cr, b, c) Q := by
  have F0 : FR [(236, 236, some (4, 4)), (236, 236, some (5, 5)), (236, 236, some (6, 6)), (236, 236, some (7, 7)), (236, 236, some (8, 8)), (236, 236, some (9, 9)), (236, 236, some (12, 12)), (239, 239, some (2, 2)), (239, 239, some (19, 30)), (239, 239, some (31, 42)), (239, 239, some (43, 54))] h h := FR.refl
  have tb_1 : h 236 3 = tn := xq0.2.1
  have tb_2 : 0 ≤ tn ∧ tn ≤ 800 := xq0.2.2
  obtain ⟨⟨rv_0, rv_1, rv_2, rv_3, rv_4, rv_5, rv_6, rv_7, rv_8, rv_9⟩, ⟨rf_0, rf_1, rf_2, rf_3⟩, -⟩ := id xq1
  have b1 := gi_b (lo := 0) (hi := 5) g 239 0 rfl
  have b2 := gi_b (lo := 0) (hi := 4) g 239 1 rfl
  have b3 := gi_b (lo := 0) (hi := 12) g 239 2 rfl
  have tkk0_ := pp12.2.2
  have b4 := gi_b (lo := 0) (hi := 800) g 236 4 rfl
  have b5 := gi_b (lo := 0) (hi := 800) g 236 3 rfl
  have b6 := gi_b (lo := 0) (hi := 5) g 236 8 rfl
  have b7 := gi_b (lo := 0) (hi := 999) g 239 5 rfl
  have b8 := gi_b (lo := 0) (hi := 999) g 239 7 rfl
  have b9 := gi_b (lo := 0) (hi := 999) g 239 15 rfl
  have b10 := gi_b (lo := 0) (hi := 999) g 239 16 rfl
  have b11 := gi_b (lo := 0) (hi := 999) g 239 17 rfl
  have b12 := gi_b (lo := 0) (hi := 999) g 239 18 rfl
  have b13 := gi_b (lo := 0) (hi := 800) g 236 5 rfl
  have b14 := gi_b (lo := 0) (hi := 4) g 236 6 rfl
  have b15 := gi_b (lo := 0) (hi := 999) g 236 7 rfl
  have b16 := gi_b (lo := -9223372036854775808) (hi := 9223372036854775807) g 236 12 rfl
  have b17 := gi_b (lo := -2147483648) (hi := 2147483647) g 236 9 rfl
  refine wi_aload_n (i := 0) (x := 236) (nx := 1) (r1 := 0) (r2 := 0) (r3 := 0) rfl rfl ?_
  refine wr_gr (k0 := 236) (x := 239) (nx := 4) (r1 := 11) (r2 := 14) (r3 := 0) rfl rfl (by decide) rfl ⟨rfl, rfl⟩ rfl ?_
  refine wi_iconst (n := 2) (nx := 5) (r1 := 0) (r2 := 0) (r3 := 0) rfl ?_
  refine wr_ia (k0 := 239) (a := 2) (f := 2) (x := h 239 2) (nx := 6) (r1 := 0) (r2 := 0) (r3 := 0) rfl (by decide) rfl (by omega) (by omega) (by decide) rfl ?_
  refine wi_istore_n (i := 1) (e := h 239 2) (lo2 := [(1, vi (h 239 2)), (0, .ref 236)]) (nx := 7) (r1 := 0) (r2 := 0) (r3 := 0) rfl rfl ?_
  refine wi_aload_n (i := 0) (x := 236) (nx := 8) (r1 := 0) (r2 := 0) (r3 := 0) rfl rfl ?_
  refine wi_iconst (n := 2) (nx := 9) (r1 := 0) (r2 := 0) (r3 := 0) rfl ?_
  refine wi_bipush (n := 12) (nx := 11) (r1 := 0) (r2 := 0) (r3 := 0) rfl (by decide) ?_
  refine wr_V (k0 := 236) (rest := []) (as := [.ref 236, vi 2, vi 12]) (nx := 14) (r1 := 223) (r2 := 2) (r3 := 11) rfl rfl rfl (of_decide_eq_true rfl) rfl rfl (by decide) rfl rfl (of_decide_eq_true rfl) (of_decide_eq_true rfl) ?_
  refine wi_aload_n (i := 0) (x := 236) (nx := 1) (r1 := 0) (r2 := 0) (r3 := 0) rfl rfl ?_
  refine wr_gr (k0 := 236) (x := 239) (nx := 4) (r1 := 11) (r2 := 14) (r3 := 0) rfl rfl (by decide) rfl ⟨rfl, rfl⟩ rfl ?_
  refine wi_iload_n (i := 1) (e := 2) (nx := 5) (r1 := 0) (r2 := 0) (r3 := 0) rfl rfl ?_
  refine wr_ia (k0 := 239) (a := 2) (f := 2) (x := h 239 2) (nx := 6) (r1 := 0) (r2 := 0) (r3 := 0) rfl (by decide) rfl (by omega) (by omega) (by decide) rfl ?_
  refine wi_iload_n (i := 2) (e := 12) (nx := 7) (r1 := 0) (r2 := 0) (r3 := 0) rfl rfl ?_
  refine wi_icmp (cd := .ne) (nx := 10) (r1 := 15) (r2 := 0) (r3 := 0) rfl (by omega) (by omega) (fun (q18 : (h 239 2) ≠ 12) => ?_) (fun (q18 : ¬ ((h 239 2) ≠ 12)) => ?_)
  ·
    replace q18 : (h 239 2) + 1 ≤ 12 := by omega
    refine wi_aload_n (i := 0) (x := 236) (nx := 16) (r1 := 0) (r2 := 0) (r3 := 0) rfl rfl ?_
    refine wr_V (k0 := 236) (rest := []) (as := [.ref 236]) (nx := 19) (r1 := 219) (r2 := 0) (r3 := 11) rfl rfl rfl (of_decide_eq_true rfl) rfl rfl (by decide) rfl rfl (of_decide_eq_true rfl) (of_decide_eq_true rfl) ?_
    refine wi_aload_n (i := 0) (x := 236) (nx := 1) (r1 := 0) (r2 := 0) (r3 := 0) rfl rfl ?_
    refine wr_gi0 (k0 := 236) (x := h 236 8) (nx := 4) (r1 := 11) (r2 := 8) (r3 := 0) rfl rfl (by decide) rfl ⟨rfl, rfl⟩ rfl rfl ?_
    refine wi_if (cd := .ne) (nx := 7) (r1 := 11) (r2 := 0) (r3 := 0) rfl (by omega) (fun (q19 : (h 236 8) ≠ 0) => by exfalso; omega) (fun (q19 : ¬ ((h 236 8) ≠ 0)) => ?_)
    refine wi_iconst (n := 1) (nx := 8) (r1 := 0) (r2 := 0) (r3 := 0) rfl ?_
    refine wi_goto (nx := 11) (r1 := 12) (r2 := 0) (r3 := 0) rfl ?_
    refine wi_zreturn (nx := 13) (r1 := 0) (r2 := 0) (r3 := 0) rfl rfl (by omega) ?_
    refine wk_i ?_
    refine wi_if (cd := .eq) (nx := 22) (r1 := 26) (r2 := 0) (r3 := 0) rfl (by omega) (fun (q20 : 1 = 0) => by exfalso; omega) (fun (q20 : ¬ (1 = 0)) => ?_)
    refine wi_aload_n (i := 0) (x := 236) (nx := 23) (r1 := 0) (r2 := 0) (r3 := 0) rfl rfl ?_
    refine wr_V (k0 := 236) (rest := []) (as := [.ref 236]) (nx := 26) (r1 := 215) (r2 := 0) (r3 := 11) rfl rfl rfl (of_decide_eq_true rfl) rfl rfl (by decide) rfl rfl (of_decide_eq_true rfl) (of_decide_eq_true rfl) ?_
    refine ct_215_236 hcr  g   (show (h 236 4) ≤ (h 236 3) by omega) (show (h 236 4) = (tk_nx tB tn tp) by omega) (show 0 ≤ (tk_nx tB tn tp) by omega) (show (tk_nx tB tn tp) ≤ tn by omega) xq0 (fun h21 g21 u21 (p21_0 : (h 236 4) ≤ (h21 236 4)) (p21_1 : (h21 236 4) ≤ (h 236 3)) (p21_2 : ((h21 236 4) = tk_nx tB tn (tk_nx tB tn tp) ∧ (h21 236 5) = tk_st tB tn (tk_nx tB tn tp) ∧ TKk tB tn (tk_nx tB tn tp) ((h21 236 6)) ((h21 236 7)) ((h21 236 12)))) (p21_3 : (tk_nx tB tn tp) ≤ tk_nx tB tn (tk_nx tB tn tp) ∧ tk_nx tB tn (tk_nx tB tn tp) ≤ tn) => ?_)
    have F22 := F0.then (by decide +kernel) u21
    have b23 := gi_b (lo := 0) (hi := 800) g21 236 4 rfl
    have b24 := gi_b (lo := 0) (hi := 800) g21 236 5 rfl
    have b25 := gi_b (lo := 0) (hi := 4) g21 236 6 rfl
    have b26 := gi_b (lo := 0) (hi := 999) g21 236 7 rfl
    have b27 := gi_b (lo := -9223372036854775808) (hi := 9223372036854775807) g21 236 12 rfl
    have tkk28 := p21_2.2.2
    have tN29 := @tk_nx_b tB tn (tk_nx tB tn tp) (by omega) (by omega)
    refine wk_n ?_
    refine wi_aload_n (i := 0) (x := 236) (nx := 27) (r1 := 0) (r2 := 0) (r3 := 0) rfl rfl ?_
    refine wr_V (k0 := 236) (rest := []) (as := [.ref 236]) (nx := 30) (r1 := 219) (r2 := 0) (r3 := 11) rfl rfl rfl (of_decide_eq_true rfl) rfl rfl (by decide) rfl rfl (of_decide_eq_true rfl) (of_decide_eq_true rfl) ?_
    refine wi_aload_n (i := 0) (x := 236) (nx := 1) (r1 := 0) (r2 := 0) (r3 := 0) rfl rfl ?_
    refine wr_gi0 (k0 := 236) (x := h 236 8) (nx := 4) (r1 := 11) (r2 := 8) (r3 := 0) rfl rfl (by decide) rfl ⟨rfl, rfl⟩ rfl (u21 236 8 rfl) ?_
    refine wi_if (cd := .ne) (nx := 7) (r1 := 11) (r2 := 0) (r3 := 0) rfl (by omega) (fun (q30 : (h 236 8) ≠ 0) => by exfalso; omega) (fun (q30 : ¬ ((h 236 8) ≠ 0)) => ?_)
    refine wi_iconst (n := 1) (nx := 8) (r1 := 0) (r2 := 0) (r3 := 0) rfl ?_
    refine wi_goto (nx := 11) (r1 := 12) (r2 := 0) (r3 := 0) rfl ?_
    refine wi_zreturn (nx := 13) (r1 := 0) (r2 := 0) (r3 := 0) rfl rfl (by omega) ?_
    refine wk_i ?_
    refine wi_zreturn (nx := 31) (r1 := 0) (r2 := 0) (r3 := 0) rfl rfl (by omega) ?_
    refine wk_i ?_
    refine wi_if (cd := .ne) (nx := 17) (r1 := 18) (r2 := 0) (r3 := 0) rfl (by omega) (fun (q31 : 1 ≠ 0) => ?_) (fun (q31 : ¬ (1 ≠ 0)) => by exfalso; omega)
    refine wi_aload_n (i := 0) (x := 236) (nx := 19) (r1 := 0) (r2 := 0) (r3 := 0) rfl rfl ?_
    refine wr_V (k0 := 236) (rest := []) (as := [.ref 236]) (nx := 22) (r1 := 225) (r2 := 0) (r3 := 11) rfl rfl rfl (of_decide_eq_true rfl) rfl rfl (by decide) rfl rfl (of_decide_eq_true rfl) (of_decide_eq_true rfl) ?_
    have e33 : h21 236 8 = h 236 8 := (u21 236 8 rfl)
    have rb34 := RefB.fr u21 rfl xq0
    refine ct_225_236 hcr  g21   (show 0 ≤ (tk_nx tB tn tp) by omega) (show (tk_nx tB tn tp) ≤ tn by omega) (show (tk_nx tB tn tp) ≤ tk_nx tB tn (tk_nx tB tn tp) ∧ tk_nx tB tn (tk_nx tB tn tp) ≤ tn from ⟨by omega, by omega⟩) (show 1 ≤ (h21 236 8) ∨ ((h21 236 4) = tk_nx tB tn (tk_nx tB tn tp) ∧ (h21 236 5) = tk_st tB tn (tk_nx tB tn tp) ∧ TKk tB tn (tk_nx tB tn tp) ((h21 236 6)) ((h21 236 7)) ((h21 236 12))) from (Or.inr (show ((h21 236 4) = tk_nx tB tn (tk_nx tB tn tp) ∧ (h21 236 5) = tk_st tB tn (tk_nx tB tn tp) ∧ TKk tB tn (tk_nx tB tn tp) ((h21 236 6)) ((h21 236 7)) ((h21 236 12))) by first | assumption | exact ⟨by omega, by omega, TKk.mv (by assumption) (by omega) (by omega) (by omega)⟩))) rb34 (fun h32 g32 u32 (p32_0 : (1 ≤ (h21 236 8) ∧ (h32 236 8) = (h21 236 8) ∧ (h32 236 9) = (h21 236 9)) ∨ ((h21 236 8) = 0 ∧ tk_kd tB tn (tk_nx tB tn tp) = 1 ∧ tk_wd (tk_lw tB tn (tk_nx tB tn tp)) = 21 ∧ (h32 236 8) = (h21 236 8) ∧ (h32 236 9) = (h21 236 9)) ∨ ((h21 236 8) = 0 ∧ (tk_kd tB tn (tk_nx tB tn tp) ≠ 1 ∨ tk_wd (tk_lw tB tn (tk_nx tB tn tp)) ≠ 21) ∧ (h32 236 8) = 1 ∧ (h32 236 9) = tk_st tB tn (tk_nx tB tn tp))) (p32_1 : 1 ≤ (h32 236 8) ∨ (h21 236 8) = 0) => ?_)
    have F35 := F22.then (by decide +kernel) u32
    have e36 : h21 236 9 = h 236 9 := (u21 236 9 rfl)
    have b37 := gi_b (lo := 0) (hi := 5) g32 236 8 rfl
    have b38 := gi_b (lo := -2147483648) (hi := 2147483647) g32 236 9 rfl
    refine wk_n ?_
    rcases p32_0 with p32_0 | p32_0 | p32_0
    ·
      exfalso; omega
    ·
      replace p32_1 := p32_1.resolve_left (by omega)
      have dw39 : tk_kd tB tn (tk_nx tB tn tp) = 1 ∧ tk_wd (tk_lw tB tn (tk_nx tB tn tp)) = 21 := ⟨p32_0.2.1, p32_0.2.2.1⟩
      refine wi_aload_n (i := 0) (x := 236) (nx := 23) (r1 := 0) (r2 := 0) (r3 := 0) rfl rfl ?_
      refine wr_V (k0 := 236) (rest := []) (as := [.ref 236]) (nx := 26) (r1 := 227) (r2 := 0) (r3 := 11) rfl rfl rfl (of_decide_eq_true rfl) rfl rfl (by decide) rfl rfl (of_decide_eq_true rfl) (of_decide_eq_true rfl) ?_
      have e41 : h32 236 12 = h21 236 12 := (u32 236 12 rfl)
      have rb43 := RefB.fr u32 rfl rb34
      have cr44 := CVr.fr u21 rfl xq1
      have cr45 := CVr.fr u32 rfl cr44
      refine ct_227_236 hcr  g32   (show 0 ≤ (tk_nx tB tn tp) by omega) (show (tk_nx tB tn tp) ≤ tn by omega) (show (tk_nx tB tn tp) ≤ tk_nx tB tn (tk_nx tB tn tp) ∧ tk_nx tB tn (tk_nx tB tn tp) ≤ tn from ⟨by omega, by omega⟩) (show tk_kd tB tn (tk_nx tB tn tp) = 1 → (h32 236 12) = tk_sw tB tn (tk_nx tB tn tp) by intro e; have kq := TKk.w (B := tB) (n := tn) (p := (tk_nx tB tn tp)) (by assumption) e; omega) rb43 cr45 (fun z42  (fz42 : 0 ≤ z42 ∧ z42 ≤ 5) (p40_0 : z42 ≤ (h32 239 0)) y40_0 => ?_)
      have e46 : h32 239 0 = h 239 0 := ((u32 239 0 rfl).trans (u21 239 0 rfl))
      refine wk_i ?_
      have nd47 : z42 = tk_fi tS (tk_lw tB tn (tk_nx tB tn tp)) := y40_0 (by omega)
      clear y40_0
      refine wi_istore_n (i := 2) (e := z42) (lo2 := [(2, vi z42), (1, vi (h 239 2)), (0, .ref 236)]) (nx := 27) (r1 := 0) (r2 := 0) (r3 := 0) rfl rfl ?_
      refine wi_aload_n (i := 0) (x := 236) (nx := 28) (r1 := 0) (r2 := 0) (r3 := 0) rfl rfl ?_
      refine wr_V (k0 := 236) (rest := []) (as := [.ref 236]) (nx := 31) (r1 := 219) (r2 := 0) (r3 := 11) rfl rfl rfl (of_decide_eq_true rfl) rfl rfl (by decide) rfl rfl (of_decide_eq_true rfl) (of_decide_eq_true rfl) ?_
      refine wi_aload_n (i := 0) (x := 236) (nx := 1) (r1 := 0) (r2 := 0) (r3 := 0) rfl rfl ?_
      refine wr_gi0 (k0 := 236) (x := h32 236 8) (nx := 4) (r1 := 11) (r2 := 8) (r3 := 0) rfl rfl (by decide) rfl ⟨rfl, rfl⟩ rfl rfl ?_
      refine wi_if (cd := .ne) (nx := 7) (r1 := 11) (r2 := 0) (r3 := 0) rfl (by omega) (fun (q48 : (h32 236 8) ≠ 0) => by exfalso; omega) (fun (q48 : ¬ ((h32 236 8) ≠ 0)) => ?_)
      refine wi_iconst (n := 1) (nx := 8) (r1 := 0) (r2 := 0) (r3 := 0) rfl ?_
      refine wi_goto (nx := 11) (r1 := 12) (r2 := 0) (r3 := 0) rfl ?_
      refine wi_zreturn (nx := 13) (r1 := 0) (r2 := 0) (r3 := 0) rfl rfl (by omega) ?_
      refine wk_i ?_
      refine wi_if (cd := .eq) (nx := 34) (r1 := 49) (r2 := 0) (r3 := 0) rfl (by omega) (fun (q49 : 1 = 0) => by exfalso; omega) (fun (q49 : ¬ (1 = 0)) => ?_)
      refine wi_iload_n (i := 2) (e := z42) (nx := 35) (r1 := 0) (r2 := 0) (r3 := 0) rfl rfl ?_
      refine wi_aload_n (i := 0) (x := 236) (nx := 36) (r1 := 0) (r2 := 0) (r3 := 0) rfl rfl ?_
      refine wr_gr (k0 := 236) (x := 239) (nx := 39) (r1 := 11) (r2 := 14) (r3 := 0) rfl rfl (by decide) rfl ⟨rfl, rfl⟩ rfl ?_
      refine wi_iconst (n := 0) (nx := 40) (r1 := 0) (r2 := 0) (r3 := 0) rfl ?_
      refine wr_ia (k0 := 239) (a := 0) (f := 0) (x := h 239 0) (nx := 41) (r1 := 0) (r2 := 0) (r3 := 0) rfl (by decide) rfl (by omega) (by omega) (by decide) ((u32 239 0 rfl).trans (u21 239 0 rfl)) ?_
      refine wi_icmp (cd := .ne) (nx := 44) (r1 := 49) (r2 := 0) (r3 := 0) rfl (by omega) (by omega) (fun (q50 : z42 ≠ (h 239 0)) => ?_) (fun (q50 : ¬ (z42 ≠ (h 239 0))) => ?_)
      ·
        replace q50 : z42 + 1 ≤ (h 239 0) := by omega
        refine wi_aload_n (i := 0) (x := 236) (nx := 50) (r1 := 0) (r2 := 0) (r3 := 0) rfl rfl ?_
        refine wr_V (k0 := 236) (rest := []) (as := [.ref 236]) (nx := 53) (r1 := 219) (r2 := 0) (r3 := 11) rfl rfl rfl (of_decide_eq_true rfl) rfl rfl (by decide) rfl rfl (of_decide_eq_true rfl) (of_decide_eq_true rfl) ?_
        refine wi_aload_n (i := 0) (x := 236) (nx := 1) (r1 := 0) (r2 := 0) (r3 := 0) rfl rfl ?_
        refine wr_gi0 (k0 := 236) (x := h32 236 8) (nx := 4) (r1 := 11) (r2 := 8) (r3 := 0) rfl rfl (by decide) rfl ⟨rfl, rfl⟩ rfl rfl ?_
        refine wi_if (cd := .ne) (nx := 7) (r1 := 11) (r2 := 0) (r3 := 0) rfl (by omega) (fun (q51 : (h32 236 8) ≠ 0) => by exfalso; omega) (fun (q51 : ¬ ((h32 236 8) ≠ 0)) => ?_)
        refine wi_iconst (n := 1) (nx := 8) (r1 := 0) (r2 := 0) (r3 := 0) rfl ?_
        refine wi_goto (nx := 11) (r1 := 12) (r2 := 0) (r3 := 0) rfl ?_
        refine wi_zreturn (nx := 13) (r1 := 0) (r2 := 0) (r3 := 0) rfl rfl (by omega) ?_
        refine wk_i ?_
        refine wi_if (cd := .ne) (nx := 56) (r1 := 57) (r2 := 0) (r3 := 0) rfl (by omega) (fun (q52 : 1 ≠ 0) => ?_) (fun (q52 : ¬ (1 ≠ 0)) => by exfalso; omega)
        refine wi_aload_n (i := 0) (x := 236) (nx := 58) (r1 := 0) (r2 := 0) (r3 := 0) rfl rfl ?_
        refine wr_V (k0 := 236) (rest := []) (as := [.ref 236]) (nx := 61) (r1 := 215) (r2 := 0) (r3 := 11) rfl rfl rfl (of_decide_eq_true rfl) rfl rfl (by decide) rfl rfl (of_decide_eq_true rfl) (of_decide_eq_true rfl) ?_
        have e54 : h32 236 4 = h21 236 4 := (u32 236 4 rfl)
        have e55 : h32 236 3 = h 236 3 := ((u32 236 3 rfl).trans (u21 236 3 rfl))
        refine ct_215_236 hcr  g32   (show (h32 236 4) ≤ (h32 236 3) by omega) (show (h32 236 4) = (tk_nx tB tn (tk_nx tB tn tp)) by omega) (show 0 ≤ (tk_nx tB tn (tk_nx tB tn tp)) by omega) (show (tk_nx tB tn (tk_nx tB tn tp)) ≤ tn by omega) rb43 (fun h53 g53 u53 (p53_0 : (h32 236 4) ≤ (h53 236 4)) (p53_1 : (h53 236 4) ≤ (h32 236 3)) (p53_2 : ((h53 236 4) = tk_nx tB tn (tk_nx tB tn (tk_nx tB tn tp)) ∧ (h53 236 5) = tk_st tB tn (tk_nx tB tn (tk_nx tB tn tp)) ∧ TKk tB tn (tk_nx tB tn (tk_nx tB tn tp)) ((h53 236 6)) ((h53 236 7)) ((h53 236 12)))) (p53_3 : (tk_nx tB tn (tk_nx tB tn tp)) ≤ tk_nx tB tn (tk_nx tB tn (tk_nx tB tn tp)) ∧ tk_nx tB tn (tk_nx tB tn (tk_nx tB tn tp)) ≤ tn) => ?_)
        have F56 := F35.then (by decide +kernel) u53
        have b57 := gi_b (lo := 0) (hi := 800) g53 236 4 rfl
        have b58 := gi_b (lo := 0) (hi := 800) g53 236 5 rfl
        have b59 := gi_b (lo := 0) (hi := 4) g53 236 6 rfl
        have b60 := gi_b (lo := 0) (hi := 999) g53 236 7 rfl
        have b61 := gi_b (lo := -9223372036854775808) (hi := 9223372036854775807) g53 236 12 rfl
        have tkk62 := p53_2.2.2
        have tN63 := @tk_nx_b tB tn (tk_nx tB tn (tk_nx tB tn tp)) (by omega) (by omega)
        refine wk_n ?_
        refine wi_aload_n (i := 0) (x := 236) (nx := 62) (r1 := 0) (r2 := 0) (r3 := 0) rfl rfl ?_
        refine wr_gr (k0 := 236) (x := 239) (nx := 65) (r1 := 11) (r2 := 14) (r3 := 0) rfl rfl (by decide) rfl ⟨rfl, rfl⟩ rfl ?_
        refine wi_bipush (n := 31) (nx := 67) (r1 := 0) (r2 := 0) (r3 := 0) rfl (by decide) ?_
        refine wi_iload_n (i := 1) (e := h 239 2) (nx := 68) (r1 := 0) (r2 := 0) (r3 := 0) rfl rfl ?_
        refine wr_add (nx := 69) (r1 := 0) (r2 := 0) (r3 := 0) rfl (fun e64 (fe64 : e64 = 31 + (h 239 2)) => ?_)
        refine wi_iload_n (i := 2) (e := z42) (nx := 70) (r1 := 0) (r2 := 0) (r3 := 0) rfl rfl ?_
        obtain ⟨i65, ei65⟩ : ∃ q : Nat, e64 = (q : Int) := ⟨(e64).toNat, by omega⟩
        refine wr_is (k0 := 239) (a := e64) (f := i65) (x := z42) (bl := 0) (bh := 4) (nx := 71) (r1 := 0) (r2 := 0) (r3 := 0) rfl (by decide) rfl (by omega) (by omega) (by decide) g53 (gi_rq 31 12 (fun _ => rfl) (by decide +kernel) (by omega)) (by omega) (fun h66 g66 w66 u66 => ?_)
        have F67 := F56.then rfl (FR.idx (p := 31) (q := 42) u66 (by omega))
        refine wi_aload_n (i := 0) (x := 236) (nx := 72) (r1 := 0) (r2 := 0) (r3 := 0) rfl rfl ?_
        refine wr_gr (k0 := 236) (x := 239) (nx := 75) (r1 := 11) (r2 := 14) (r3 := 0) rfl rfl (by decide) rfl ⟨rfl, rfl⟩ rfl ?_
        refine wi_bipush (n := 19) (nx := 77) (r1 := 0) (r2 := 0) (r3 := 0) rfl (by decide) ?_
        refine wi_iload_n (i := 1) (e := h 239 2) (nx := 78) (r1 := 0) (r2 := 0) (r3 := 0) rfl rfl ?_
        refine wr_add (nx := 79) (r1 := 0) (r2 := 0) (r3 := 0) rfl (fun e68 (fe68 : e68 = 19 + (h 239 2)) => ?_)
        refine wi_aload_n (i := 0) (x := 236) (nx := 80) (r1 := 0) (r2 := 0) (r3 := 0) rfl rfl ?_
        refine wi_ldc2_w (e := 81049) (nx := 83) (r1 := 81049) (r2 := 0) (r3 := 0) rfl (by decide) ?_
        refine wi_iconst (n := 0) (nx := 84) (r1 := 0) (r2 := 0) (r3 := 0) rfl ?_
        refine wi_iconst (n := 3) (nx := 85) (r1 := 0) (r2 := 0) (r3 := 0) rfl ?_
        refine wr_V (k0 := 236) (rest := [vi e68, .ref 239]) (as := [.ref 236, vl 81049, vi 0, vi 3]) (nx := 88) (r1 := 228) (r2 := 3) (r3 := 11) rfl rfl rfl (of_decide_eq_true rfl) rfl rfl (by decide) rfl rfl (of_decide_eq_true rfl) (of_decide_eq_true rfl) ?_
        have e70 : h66 236 4 = h53 236 4 := (u66 236 4 (fn_a (by omega) fn_0))
        have e71 : h66 236 3 = h 236 3 := ((u66 236 3 (fn_a (by omega) fn_0)).trans ((u53 236 3 rfl).trans ((u32 236 3 rfl).trans (u21 236 3 rfl))))
        have e72 : h66 236 8 = h32 236 8 := ((u66 236 8 (fn_a (by omega) fn_0)).trans (u53 236 8 rfl))
        have e73 : h66 236 5 = h53 236 5 := (u66 236 5 (fn_a (by omega) fn_0))
        have e74 : h66 236 6 = h53 236 6 := (u66 236 6 (fn_a (by omega) fn_0))
        have e75 : h66 236 7 = h53 236 7 := (u66 236 7 (fn_a (by omega) fn_0))
        have e76 : h66 236 12 = h53 236 12 := (u66 236 12 (fn_a (by omega) fn_0))
        have rb78 := RefB.fr u53 rfl rb43
        have rb79 := RefB.fr u66 rfl rb78
        refine ct_228_236 hcr  g66 81049 0 3 (by omega) (by omega) (by omega) (show (h66 236 4) ≤ (h66 236 3) by omega) (show 0 ≤ (tk_nx tB tn (tk_nx tB tn tp)) by omega) (show (tk_nx tB tn (tk_nx tB tn tp)) ≤ tn by omega) (show (tk_nx tB tn (tk_nx tB tn tp)) ≤ tk_nx tB tn (tk_nx tB tn (tk_nx tB tn tp)) ∧ tk_nx tB tn (tk_nx tB tn (tk_nx tB tn tp)) ≤ tn from ⟨by omega, by omega⟩) (show 1 ≤ (h66 236 8) ∨ ((h66 236 4) = tk_nx tB tn (tk_nx tB tn (tk_nx tB tn tp)) ∧ (h66 236 5) = tk_st tB tn (tk_nx tB tn (tk_nx tB tn tp)) ∧ TKk tB tn (tk_nx tB tn (tk_nx tB tn tp)) ((h66 236 6)) ((h66 236 7)) ((h66 236 12))) from (Or.inr (show ((h66 236 4) = tk_nx tB tn (tk_nx tB tn (tk_nx tB tn tp)) ∧ (h66 236 5) = tk_st tB tn (tk_nx tB tn (tk_nx tB tn tp)) ∧ TKk tB tn (tk_nx tB tn (tk_nx tB tn tp)) ((h66 236 6)) ((h66 236 7)) ((h66 236 12))) by first | assumption | exact ⟨by omega, by omega, TKk.mv (by assumption) (by omega) (by omega) (by omega)⟩))) rb79 (fun h69 z77 g69 u69 (fz77 : 0 ≤ z77 ∧ z77 ≤ 999) (p69_0 : (1 ≤ (h66 236 8) ∧ (h69 236 8) = (h66 236 8) ∧ (h69 236 9) = (h66 236 9)) ∨ ((h66 236 8) = 0 ∧ tk_kd tB tn (tk_nx tB tn (tk_nx tB tn tp)) = 1 ∧ tk_sw tB tn (tk_nx tB tn (tk_nx tB tn tp)) = 81049 ∧ tk_kd tB tn (tk_nx tB tn (tk_nx tB tn (tk_nx tB tn tp))) = 2 ∧ 0 ≤ tk_nb tB tn (tk_nx tB tn (tk_nx tB tn (tk_nx tB tn tp))) ∧ tk_nb tB tn (tk_nx tB tn (tk_nx tB tn (tk_nx tB tn tp))) ≤ 3 ∧ z77 = tk_nb tB tn (tk_nx tB tn (tk_nx tB tn (tk_nx tB tn tp))) ∧ (h69 236 8) = (h66 236 8) ∧ (h69 236 9) = (h66 236 9) ∧ ((h69 236 4) = tk_nx tB tn (tk_nx tB tn (tk_nx tB tn (tk_nx tB tn (tk_nx tB tn tp)))) ∧ (h69 236 5) = tk_st tB tn (tk_nx tB tn (tk_nx tB tn (tk_nx tB tn (tk_nx tB tn tp)))) ∧ TKk tB tn (tk_nx tB tn (tk_nx tB tn (tk_nx tB tn (tk_nx tB tn tp)))) ((h69 236 6)) ((h69 236 7)) ((h69 236 12)))) ∨ ((h66 236 8) = 0 ∧ (tk_kd tB tn (tk_nx tB tn (tk_nx tB tn tp)) ≠ 1 ∨ tk_sw tB tn (tk_nx tB tn (tk_nx tB tn tp)) ≠ 81049) ∧ (h69 236 8) = 1 ∧ (h69 236 9) = tk_st tB tn (tk_nx tB tn (tk_nx tB tn tp))) ∨ ((h66 236 8) = 0 ∧ tk_kd tB tn (tk_nx tB tn (tk_nx tB tn tp)) = 1 ∧ tk_sw tB tn (tk_nx tB tn (tk_nx tB tn tp)) = 81049 ∧ tk_kd tB tn (tk_nx tB tn (tk_nx tB tn (tk_nx tB tn tp))) ≠ 2 ∧ (h69 236 8) = 1 ∧ (h69 236 9) = tk_st tB tn (tk_nx tB tn (tk_nx tB tn (tk_nx tB tn tp)))) ∨ ((h66 236 8) = 0 ∧ tk_kd tB tn (tk_nx tB tn (tk_nx tB tn tp)) = 1 ∧ tk_sw tB tn (tk_nx tB tn (tk_nx tB tn tp)) = 81049 ∧ tk_kd tB tn (tk_nx tB tn (tk_nx tB tn (tk_nx tB tn tp))) = 2 ∧ (tk_nb tB tn (tk_nx tB tn (tk_nx tB tn (tk_nx tB tn tp))) < 0 ∨ 3 < tk_nb tB tn (tk_nx tB tn (tk_nx tB tn (tk_nx tB tn tp)))) ∧ (h69 236 8) = 2 ∧ (h69 236 9) = tk_st tB tn (tk_nx tB tn (tk_nx tB tn (tk_nx tB tn tp))))) (p69_1 : (h66 236 4) ≤ (h69 236 4)) (p69_2 : (h69 236 4) ≤ (h66 236 3)) (p69_3 : 1 ≤ (h69 236 8) ∨ (h66 236 8) = 0) (p69_4 : 1 ≤ (h69 236 8) ∨ (0 ≤ z77 ∧ z77 ≤ 3)) => ?_)
        have F80 := F67.then (by decide +kernel) u69
        have e81 : h66 236 9 = h32 236 9 := ((u66 236 9 (fn_a (by omega) fn_0)).trans (u53 236 9 rfl))
        have b82 := gi_b (lo := 0) (hi := 5) g69 236 8 rfl
        have b83 := gi_b (lo := -2147483648) (hi := 2147483647) g69 236 9 rfl
        have b84 := gi_b (lo := 0) (hi := 800) g69 236 4 rfl
        have b85 := gi_b (lo := 0) (hi := 800) g69 236 5 rfl
        have b86 := gi_b (lo := 0) (hi := 4) g69 236 6 rfl
        have b87 := gi_b (lo := 0) (hi := 999) g69 236 7 rfl
        have b88 := gi_b (lo := -9223372036854775808) (hi := 9223372036854775807) g69 236 12 rfl
        refine wk_i ?_
        rcases p69_0 with p69_0 | p69_0 | p69_0 | p69_0 | p69_0
        ·
          exfalso; omega
        ·
          replace p69_3 := p69_3.resolve_left (by omega)
          replace p69_4 := p69_4.resolve_left (by omega)
          have tkk89 := (p69_0.2.2.2.2.2.2.2.2.2).2.2
          have dw90 : tk_kd tB tn (tk_nx tB tn (tk_nx tB tn tp)) = 1 ∧ tk_wd (tk_lw tB tn (tk_nx tB tn (tk_nx tB tn tp))) = 5 := tk_wcp 4 (K := 81049) (by decide) rfl rfl (by omega) (by omega) p69_0.2.1 p69_0.2.2.1
          have dk91 : tk_kd tB tn (tk_nx tB tn (tk_nx tB tn (tk_nx tB tn tp))) = 2 := p69_0.2.2.2.1
          have dr92 : 0 ≤ tk_nb tB tn (tk_nx tB tn (tk_nx tB tn (tk_nx tB tn tp))) ∧ tk_nb tB tn (tk_nx tB tn (tk_nx tB tn (tk_nx tB tn tp))) ≤ 3 := ⟨p69_0.2.2.2.2.1, p69_0.2.2.2.2.2.1⟩
          have tN93 := @tk_nx_b tB tn (tk_nx tB tn (tk_nx tB tn (tk_nx tB tn tp))) (by omega) (by omega)
          have tN94 := @tk_nx_b tB tn (tk_nx tB tn (tk_nx tB tn (tk_nx tB tn (tk_nx tB tn tp)))) (by omega) (by omega)
          obtain ⟨i95, ei95⟩ : ∃ q : Nat, e68 = (q : Int) := ⟨(e68).toNat, by omega⟩
          refine wr_is (k0 := 239) (a := e68) (f := i95) (x := z77) (bl := 0) (bh := 999) (nx := 89) (r1 := 0) (r2 := 0) (r3 := 0) rfl (by decide) rfl (by omega) (by omega) (by decide) g69 (gi_rq 19 12 (fun _ => rfl) (by decide +kernel) (by omega)) (by omega) (fun h96 g96 w96 u96 => ?_)
          have F97 := F80.then rfl (FR.idx (p := 19) (q := 30) u96 (by omega))
          refine wi_aload_n (i := 0) (x := 236) (nx := 90) (r1 := 0) (r2 := 0) (r3 := 0) rfl rfl ?_
          refine wr_gr (k0 := 236) (x := 239) (nx := 93) (r1 := 11) (r2 := 14) (r3 := 0) rfl rfl (by decide) rfl ⟨rfl, rfl⟩ rfl ?_
          refine wi_bipush (n := 43) (nx := 95) (r1 := 0) (r2 := 0) (r3 := 0) rfl (by decide) ?_
          refine wi_iload_n (i := 1) (e := h 239 2) (nx := 96) (r1 := 0) (r2 := 0) (r3 := 0) rfl rfl ?_
          refine wr_add (nx := 97) (r1 := 0) (r2 := 0) (r3 := 0) rfl (fun e98 (fe98 : e98 = 43 + (h 239 2)) => ?_)
          refine wi_aload_n (i := 0) (x := 236) (nx := 98) (r1 := 0) (r2 := 0) (r3 := 0) rfl rfl ?_
          refine wi_ldc2_w (e := 2084) (nx := 101) (r1 := 2084) (r2 := 0) (r3 := 0) rfl (by decide) ?_
          refine wr_V (k0 := 236) (rest := [vi e98, .ref 239]) (as := [.ref 236, vl 2084]) (nx := 104) (r1 := 230) (r2 := 1) (r3 := 11) rfl rfl rfl (of_decide_eq_true rfl) rfl rfl (by decide) rfl rfl (of_decide_eq_true rfl) (of_decide_eq_true rfl) ?_
          refine wi_aload_n (i := 0) (x := 236) (nx := 1) (r1 := 0) (r2 := 0) (r3 := 0) rfl rfl ?_
          refine wi_lload_n (i := 1) (e := 2084) (nx := 2) (r1 := 0) (r2 := 0) (r3 := 0) rfl rfl ?_
          refine wr_V (k0 := 236) (rest := []) (as := [.ref 236, vl 2084]) (nx := 5) (r1 := 221) (r2 := 1) (r3 := 11) rfl rfl rfl (of_decide_eq_true rfl) rfl rfl (by decide) rfl rfl (of_decide_eq_true rfl) (of_decide_eq_true rfl) ?_
          refine wi_aload_n (i := 0) (x := 236) (nx := 1) (r1 := 0) (r2 := 0) (r3 := 0) rfl rfl ?_
          refine wr_gi0 (k0 := 236) (x := h69 236 8) (nx := 4) (r1 := 11) (r2 := 8) (r3 := 0) rfl rfl (by decide) rfl ⟨rfl, rfl⟩ rfl (u96 236 8 (fn_a (by omega) fn_0)) ?_
          refine wi_if (cd := .ne) (nx := 7) (r1 := 28) (r2 := 0) (r3 := 0) rfl (by omega) (fun (q99 : (h69 236 8) ≠ 0) => by exfalso; omega) (fun (q99 : ¬ ((h69 236 8) ≠ 0)) => ?_)
          refine wi_aload_n (i := 0) (x := 236) (nx := 8) (r1 := 0) (r2 := 0) (r3 := 0) rfl rfl ?_
          refine wr_gi0 (k0 := 236) (x := h69 236 6) (nx := 11) (r1 := 11) (r2 := 6) (r3 := 0) rfl rfl (by decide) rfl ⟨rfl, rfl⟩ rfl (u96 236 6 (fn_a (by omega) fn_0)) ?_
          refine wi_iconst (n := 1) (nx := 12) (r1 := 0) (r2 := 0) (r3 := 0) rfl ?_
          refine wi_icmp (cd := .ne) (nx := 15) (r1 := 28) (r2 := 0) (r3 := 0) rfl (by omega) (by omega) (fun (q100 : (h69 236 6) ≠ 1) => ?_) (fun (q100 : ¬ ((h69 236 6) ≠ 1)) => ?_)
          ·
            have kf101 := TKk.n1 (B := tB) (n := tn) (p := (tk_nx tB tn (tk_nx tB tn (tk_nx tB tn (tk_nx tB tn tp))))) (a6 := h69 236 6) (by assumption) (by omega)
            replace kf101 : TKn (tk_kd tB tn (tk_nx tB tn (tk_nx tB tn (tk_nx tB tn (tk_nx tB tn tp)))) = 1) := kf101
            refine wi_iconst (n := 0) (nx := 29) (r1 := 0) (r2 := 0) (r3 := 0) rfl ?_
            refine wi_zreturn (nx := 30) (r1 := 0) (r2 := 0) (r3 := 0) rfl rfl (by omega) ?_
            refine wk_i ?_
            refine wi_istore_n (i := 3) (e := 0) (lo2 := [(3, vi 0), (0, .ref 236), (1, vl 2084)]) (nx := 6) (r1 := 0) (r2 := 0) (r3 := 0) rfl rfl ?_
            refine wi_iload_n (i := 3) (e := 0) (nx := 7) (r1 := 0) (r2 := 0) (r3 := 0) rfl rfl ?_
            refine wi_if (cd := .eq) (nx := 10) (r1 := 14) (r2 := 0) (r3 := 0) rfl (by omega) (fun (q102 : 0 = 0) => ?_) (fun (q102 : ¬ (0 = 0)) => by exfalso; omega)
            refine wi_iload_n (i := 3) (e := 0) (nx := 15) (r1 := 0) (r2 := 0) (r3 := 0) rfl rfl ?_
            refine wi_zreturn (nx := 16) (r1 := 0) (r2 := 0) (r3 := 0) rfl rfl (by omega) ?_
            refine wk_i ?_
            refine wi_if (cd := .eq) (nx := 107) (r1 := 116) (r2 := 0) (r3 := 0) rfl (by omega) (fun (q103 : 0 = 0) => ?_) (fun (q103 : ¬ (0 = 0)) => by exfalso; omega)
            have dw104 : TKn (tk_kd tB tn (tk_nx tB tn (tk_nx tB tn (tk_nx tB tn (tk_nx tB tn tp)))) = 1 ∧ tk_wd (tk_lw tB tn (tk_nx tB tn (tk_nx tB tn (tk_nx tB tn (tk_nx tB tn tp))))) = 6) := fun e => kf101.no e.1
            refine wi_iconst (n := 0) (nx := 117) (r1 := 0) (r2 := 0) (r3 := 0) rfl ?_
            obtain ⟨i105, ei105⟩ : ∃ q : Nat, e98 = (q : Int) := ⟨(e98).toNat, by omega⟩
            refine wr_is (k0 := 239) (a := e98) (f := i105) (x := 0) (bl := 0) (bh := 999) (nx := 118) (r1 := 0) (r2 := 0) (r3 := 0) rfl (by decide) rfl (by omega) (by omega) (by decide) g96 (gi_rq 43 12 (fun _ => rfl) (by decide +kernel) (by omega)) (by omega) (fun h106 g106 w106 u106 => ?_)
            have F107 := F97.then rfl (FR.idx (p := 43) (q := 54) u106 (by omega))
            refine wi_aload_n (i := 0) (x := 236) (nx := 119) (r1 := 0) (r2 := 0) (r3 := 0) rfl rfl ?_
            refine wr_V (k0 := 236) (rest := []) (as := [.ref 236]) (nx := 122) (r1 := 219) (r2 := 0) (r3 := 11) rfl rfl rfl (of_decide_eq_true rfl) rfl rfl (by decide) rfl rfl (of_decide_eq_true rfl) (of_decide_eq_true rfl) ?_
            refine wi_aload_n (i := 0) (x := 236) (nx := 1) (r1 := 0) (r2 := 0) (r3 := 0) rfl rfl ?_
            refine wr_gi0 (k0 := 236) (x := h69 236 8) (nx := 4) (r1 := 11) (r2 := 8) (r3 := 0) rfl rfl (by decide) rfl ⟨rfl, rfl⟩ rfl ((u106 236 8 (fn_a (by omega) fn_0)).trans (u96 236 8 (fn_a (by omega) fn_0))) ?_
            refine wi_if (cd := .ne) (nx := 7) (r1 := 11) (r2 := 0) (r3 := 0) rfl (by omega) (fun (q108 : (h69 236 8) ≠ 0) => by exfalso; omega) (fun (q108 : ¬ ((h69 236 8) ≠ 0)) => ?_)
            refine wi_iconst (n := 1) (nx := 8) (r1 := 0) (r2 := 0) (r3 := 0) rfl ?_
            refine wi_goto (nx := 11) (r1 := 12) (r2 := 0) (r3 := 0) rfl ?_
            refine wi_zreturn (nx := 13) (r1 := 0) (r2 := 0) (r3 := 0) rfl rfl (by omega) ?_
            refine wk_i ?_
            refine wi_if (cd := .eq) (nx := 125) (r1 := 135) (r2 := 0) (r3 := 0) rfl (by omega) (fun (q109 : 1 = 0) => by exfalso; omega) (fun (q109 : ¬ (1 = 0)) => ?_)
            refine wi_aload_n (i := 0) (x := 236) (nx := 126) (r1 := 0) (r2 := 0) (r3 := 0) rfl rfl ?_
            refine wr_gr (k0 := 236) (x := 239) (nx := 129) (r1 := 11) (r2 := 14) (r3 := 0) rfl rfl (by decide) rfl ⟨rfl, rfl⟩ rfl ?_
            refine wi_iconst (n := 2) (nx := 130) (r1 := 0) (r2 := 0) (r3 := 0) rfl ?_
            refine wi_dup2 (nx := 131) (r1 := 0) (r2 := 0) (r3 := 0) rfl rfl rfl ?_
            refine wr_ia (k0 := 239) (a := 2) (f := 2) (x := h 239 2) (nx := 132) (r1 := 0) (r2 := 0) (r3 := 0) rfl (by decide) rfl (by omega) (by omega) (by decide) ((u106 239 2 (fn_i (by omega) fn_0)).trans ((u96 239 2 (fn_i (by omega) fn_0)).trans ((u69 239 2 rfl).trans ((u66 239 2 (fn_i (by omega) fn_0)).trans ((u53 239 2 rfl).trans ((u32 239 2 rfl).trans (u21 239 2 rfl))))))) ?_
            refine wi_iconst (n := 1) (nx := 133) (r1 := 0) (r2 := 0) (r3 := 0) rfl ?_
            refine wr_add (nx := 134) (r1 := 0) (r2 := 0) (r3 := 0) rfl (fun e110 (fe110 : e110 = (h 239 2) + 1) => ?_)
            refine wr_is (k0 := 239) (a := 2) (f := 2) (x := e110) (bl := 0) (bh := 12) (nx := 135) (r1 := 0) (r2 := 0) (r3 := 0) rfl (by decide) rfl (by omega) (by omega) (by decide) g106 rfl (by omega) (fun h111 g111 w111 u111 => ?_)
            have F112 := F107.then rfl u111
            refine wi_return (nx := 136) (r1 := 0) (r2 := 0) (r3 := 0) rfl rfl ?_
            have e113 : h111 236 4 = h69 236 4 := ((u111 236 4 rfl).trans ((u106 236 4 (fn_a (by omega) fn_0)).trans (u96 236 4 (fn_a (by omega) fn_0))))
            have e114 : h111 236 8 = h69 236 8 := ((u111 236 8 rfl).trans ((u106 236 8 (fn_a (by omega) fn_0)).trans (u96 236 8 (fn_a (by omega) fn_0))))
            have e115 : h111 239 5 = h 239 5 := ((u111 239 5 rfl).trans ((u106 239 5 (fn_i (by omega) fn_0)).trans ((u96 239 5 (fn_i (by omega) fn_0)).trans ((u69 239 5 rfl).trans ((u66 239 5 (fn_i (by omega) fn_0)).trans ((u53 239 5 rfl).trans ((u32 239 5 rfl).trans (u21 239 5 rfl))))))))
            have e116 : h111 239 7 = h 239 7 := ((u111 239 7 rfl).trans ((u106 239 7 (fn_i (by omega) fn_0)).trans ((u96 239 7 (fn_i (by omega) fn_0)).trans ((u69 239 7 rfl).trans ((u66 239 7 (fn_i (by omega) fn_0)).trans ((u53 239 7 rfl).trans ((u32 239 7 rfl).trans (u21 239 7 rfl))))))))
            have e117 : h111 239 15 = h 239 15 := ((u111 239 15 rfl).trans ((u106 239 15 (fn_i (by omega) fn_0)).trans ((u96 239 15 (fn_i (by omega) fn_0)).trans ((u69 239 15 rfl).trans ((u66 239 15 (fn_i (by omega) fn_0)).trans ((u53 239 15 rfl).trans ((u32 239 15 rfl).trans (u21 239 15 rfl))))))))
            have e118 : h111 239 16 = h 239 16 := ((u111 239 16 rfl).trans ((u106 239 16 (fn_i (by omega) fn_0)).trans ((u96 239 16 (fn_i (by omega) fn_0)).trans ((u69 239 16 rfl).trans ((u66 239 16 (fn_i (by omega) fn_0)).trans ((u53 239 16 rfl).trans ((u32 239 16 rfl).trans (u21 239 16 rfl))))))))
            have e119 : h111 239 17 = h 239 17 := ((u111 239 17 rfl).trans ((u106 239 17 (fn_i (by omega) fn_0)).trans ((u96 239 17 (fn_i (by omega) fn_0)).trans ((u69 239 17 rfl).trans ((u66 239 17 (fn_i (by omega) fn_0)).trans ((u53 239 17 rfl).trans ((u32 239 17 rfl).trans (u21 239 17 rfl))))))))
            have e120 : h111 239 18 = h 239 18 := ((u111 239 18 rfl).trans ((u106 239 18 (fn_i (by omega) fn_0)).trans ((u96 239 18 (fn_i (by omega) fn_0)).trans ((u69 239 18 rfl).trans ((u66 239 18 (fn_i (by omega) fn_0)).trans ((u53 239 18 rfl).trans ((u32 239 18 rfl).trans (u21 239 18 rfl))))))))
            have e121 : h111 236 9 = h69 236 9 := ((u111 236 9 rfl).trans ((u106 236 9 (fn_a (by omega) fn_0)).trans (u96 236 9 (fn_a (by omega) fn_0))))
            have e122 : h111 239 0 = h 239 0 := ((u111 239 0 rfl).trans ((u106 239 0 (fn_i (by omega) fn_0)).trans ((u96 239 0 (fn_i (by omega) fn_0)).trans ((u69 239 0 rfl).trans ((u66 239 0 (fn_i (by omega) fn_0)).trans ((u53 239 0 rfl).trans ((u32 239 0 rfl).trans (u21 239 0 rfl))))))))
            have e123 : h111 239 1 = h 239 1 := ((u111 239 1 rfl).trans ((u106 239 1 (fn_i (by omega) fn_0)).trans ((u96 239 1 (fn_i (by omega) fn_0)).trans ((u69 239 1 rfl).trans ((u66 239 1 (fn_i (by omega) fn_0)).trans ((u53 239 1 rfl).trans ((u32 239 1 rfl).trans (u21 239 1 rfl))))))))
            have e124 : h111 239 2 = e110 := w111
            have b125 := gi_b (lo := 0) (hi := 999) g 239 3 rfl
            have e126 : h111 239 3 = h 239 3 := ((u111 239 3 rfl).trans ((u106 239 3 (fn_i (by omega) fn_0)).trans ((u96 239 3 (fn_i (by omega) fn_0)).trans ((u69 239 3 rfl).trans ((u66 239 3 (fn_i (by omega) fn_0)).trans ((u53 239 3 rfl).trans ((u32 239 3 rfl).trans (u21 239 3 rfl))))))))
            have b127 := gi_b (lo := 0) (hi := 999) g 239 4 rfl
            have e128 : h111 239 4 = h 239 4 := ((u111 239 4 rfl).trans ((u106 239 4 (fn_i (by omega) fn_0)).trans ((u96 239 4 (fn_i (by omega) fn_0)).trans ((u69 239 4 rfl).trans ((u66 239 4 (fn_i (by omega) fn_0)).trans ((u53 239 4 rfl).trans ((u32 239 4 rfl).trans (u21 239 4 rfl))))))))
            have b129 := gi_b (lo := 0) (hi := 999) g 239 6 rfl
            have e130 : h111 239 6 = h 239 6 := ((u111 239 6 rfl).trans ((u106 239 6 (fn_i (by omega) fn_0)).trans ((u96 239 6 (fn_i (by omega) fn_0)).trans ((u69 239 6 rfl).trans ((u66 239 6 (fn_i (by omega) fn_0)).trans ((u53 239 6 rfl).trans ((u32 239 6 rfl).trans (u21 239 6 rfl))))))))
            have b131 := gi_b (lo := 0) (hi := 999) g 239 8 rfl
            have e132 : h111 239 8 = h 239 8 := ((u111 239 8 rfl).trans ((u106 239 8 (fn_i (by omega) fn_0)).trans ((u96 239 8 (fn_i (by omega) fn_0)).trans ((u69 239 8 rfl).trans ((u66 239 8 (fn_i (by omega) fn_0)).trans ((u53 239 8 rfl).trans ((u32 239 8 rfl).trans (u21 239 8 rfl))))))))
            have b133 := gi_b (lo := 0) (hi := 999) g 239 9 rfl
            have e134 : h111 239 9 = h 239 9 := ((u111 239 9 rfl).trans ((u106 239 9 (fn_i (by omega) fn_0)).trans ((u96 239 9 (fn_i (by omega) fn_0)).trans ((u69 239 9 rfl).trans ((u66 239 9 (fn_i (by omega) fn_0)).trans ((u53 239 9 rfl).trans ((u32 239 9 rfl).trans (u21 239 9 rfl))))))))
            have b135 := gi_b (lo := 0) (hi := 1) g 236 23 rfl
            have e136 : h111 236 23 = h 236 23 := ((u111 236 23 rfl).trans ((u106 236 23 (fn_a (by omega) fn_0)).trans ((u96 236 23 (fn_a (by omega) fn_0)).trans ((u69 236 23 rfl).trans ((u66 236 23 (fn_a (by omega) fn_0)).trans ((u53 236 23 rfl).trans ((u32 236 23 rfl).trans (u21 236 23 rfl))))))))
            have b137 := gi_b (lo := 0) (hi := 1) g 236 24 rfl
            have e138 : h111 236 24 = h 236 24 := ((u111 236 24 rfl).trans ((u106 236 24 (fn_a (by omega) fn_0)).trans ((u96 236 24 (fn_a (by omega) fn_0)).trans ((u69 236 24 rfl).trans ((u66 236 24 (fn_a (by omega) fn_0)).trans ((u53 236 24 rfl).trans ((u32 236 24 rfl).trans (u21 236 24 rfl))))))))
            have b139 := gi_b (lo := 0) (hi := 1) g 236 25 rfl
            have e140 : h111 236 25 = h 236 25 := ((u111 236 25 rfl).trans ((u106 236 25 (fn_a (by omega) fn_0)).trans ((u96 236 25 (fn_a (by omega) fn_0)).trans ((u69 236 25 rfl).trans ((u66 236 25 (fn_a (by omega) fn_0)).trans ((u53 236 25 rfl).trans ((u32 236 25 rfl).trans (u21 236 25 rfl))))))))
            have b141 := gi_b (lo := 0) (hi := 1) g 236 26 rfl
            have e142 : h111 236 26 = h 236 26 := ((u111 236 26 rfl).trans ((u106 236 26 (fn_a (by omega) fn_0)).trans ((u96 236 26 (fn_a (by omega) fn_0)).trans ((u69 236 26 rfl).trans ((u66 236 26 (fn_a (by omega) fn_0)).trans ((u53 236 26 rfl).trans ((u32 236 26 rfl).trans (u21 236 26 rfl))))))))
            have e143 : h111 236 5 = h69 236 5 := ((u111 236 5 rfl).trans ((u106 236 5 (fn_a (by omega) fn_0)).trans (u96 236 5 (fn_a (by omega) fn_0))))
            have e144 : h111 236 6 = h69 236 6 := ((u111 236 6 rfl).trans ((u106 236 6 (fn_a (by omega) fn_0)).trans (u96 236 6 (fn_a (by omega) fn_0))))
            have e145 : h111 236 7 = h69 236 7 := ((u111 236 7 rfl).trans ((u106 236 7 (fn_a (by omega) fn_0)).trans (u96 236 7 (fn_a (by omega) fn_0))))
            have e146 : h111 236 12 = h69 236 12 := ((u111 236 12 rfl).trans ((u106 236 12 (fn_a (by omega) fn_0)).trans (u96 236 12 (fn_a (by omega) fn_0))))
            exact k h111 g111 F112 (show (h 236 4) ≤ (h111 236 4) by omega) (show (h111 236 4) ≤ (h 236 3) by omega) (show 1 ≤ (h111 236 8) ∨ ((h111 239 5) ≤ 9 ∧ 1 ≤ (h111 239 5) ∧ (h111 239 7) ≤ 3 ∧ (h111 239 15) ≤ 6 ∧ (h111 239 16) ≤ 6 ∧ (h111 239 17) ≤ 6 ∧ (h111 239 18) ≤ 6) from (Or.inr (⟨by omega, by omega, by omega, by omega, by omega, by omega, by omega⟩))) (show (h111 236 8) ≠ 0 ∨ (h111 236 9) = -1 from (Or.inr (by omega))) (by unfold tk_car; (repeat (first | unfold tk_wrd | unfold tk_num | unfold tk_bad | unfold tk_car)); (try dsimp only); rw [if_neg (by omega)]; (repeat (first | unfold tk_wrd | unfold tk_num | unfold tk_bad | unfold tk_car)); (try dsimp only); rw [if_pos dw39]; (repeat (first | unfold tk_wrd | unfold tk_num | unfold tk_bad | unfold tk_car)); (try dsimp only); rw [if_neg (by omega)]; (repeat (first | unfold tk_wrd | unfold tk_num | unfold tk_bad | unfold tk_car)); (try dsimp only); rw [if_pos dw90]; (repeat (first | unfold tk_wrd | unfold tk_num | unfold tk_bad | unfold tk_car)); (try dsimp only); rw [if_pos dk91]; (repeat (first | unfold tk_wrd | unfold tk_num | unfold tk_bad | unfold tk_car)); (try dsimp only); rw [if_pos dr92]; (repeat (first | unfold tk_wrd | unfold tk_num | unfold tk_bad | unfold tk_car)); (try dsimp only); rw [if_neg dw104.no]; (repeat (first | unfold tk_wrd | unfold tk_num | unfold tk_bad | unfold tk_car)); (try dsimp only); exact tk_ORs (by omega) (by first | assumption | exact ⟨by omega, by omega, TKk.mv (by assumption) (by omega) (by omega) (by omega)⟩) (CVr.car (c := (h 239 2).toNat) xq1 (by omega) (by omega) (fun i _ _ _ _ => ((u111 239 i (fn_i (by omega) fn_0)).trans ((u106 239 i (fn_i (by omega) fn_0)).trans ((u96 239 i (fn_i (by omega) fn_0)).trans ((u69 239 i (fo_nk rfl)).trans ((u66 239 i (fn_i (by omega) fn_0)).trans ((u53 239 i (fo_nk rfl)).trans ((u32 239 i (fn_a (by decide) (fn_a (by decide) fn_0))).trans (u21 239 i (fo_nk rfl)))))))))) (fun i _ _ => ((u111 236 i (fn_a (by omega) fn_0)).trans ((u106 236 i (fn_a (by omega) fn_0)).trans ((u96 236 i (fn_a (by omega) fn_0)).trans ((u69 236 i (fo_gk (m := 12) (by omega) rfl)).trans ((u66 236 i (fn_a (by omega) fn_0)).trans ((u53 236 i (fo_gk (m := 12) (by omega) rfl)).trans ((u32 236 i (fn_i (by omega) (fn_i (by omega) fn_0))).trans (u21 236 i (fo_gk (m := 12) (by omega) rfl)))))))))) (by rw [show 31 + (h 239 2).toNat = i65 by omega]; exact ((u111 239 i65 (fn_i (by omega) fn_0)).trans ((u106 239 i65 (fn_i (by omega) fn_0)).trans ((u96 239 i65 (fn_i (by omega) fn_0)).trans ((u69 239 i65 (fo_nk rfl)).trans w66)))).trans (by omega)) (by rw [show 19 + (h 239 2).toNat = i95 by omega]; exact ((u111 239 i95 (fn_i (by omega) fn_0)).trans ((u106 239 i95 (fn_i (by omega) fn_0)).trans w96)).trans (by omega)) (by rw [show 43 + (h 239 2).toNat = i105 by omega]; exact ((u111 239 i105 (fn_i (by omega) fn_0)).trans w106).trans (by omega)) (fun i => ((u111 244 i (fn_a (by omega) fn_0)).trans ((u106 244 i (fn_a (by omega) fn_0)).trans ((u96 244 i (fn_a (by omega) fn_0)).trans ((u69 244 i (fo_nk rfl)).trans ((u66 244 i (fn_a (by omega) fn_0)).trans ((u53 244 i (fo_nk rfl)).trans ((u32 244 i (fn_a (by decide) (fn_a (by decide) fn_0))).trans (u21 244 i (fo_nk rfl)))))))))) (by omega) (by omega) (by omega)))
          ·
            have kf101 := TKk.e1 (B := tB) (n := tn) (p := (tk_nx tB tn (tk_nx tB tn (tk_nx tB tn (tk_nx tB tn tp))))) (a6 := h69 236 6) (by assumption) (by omega)
            refine wi_aload_n (i := 0) (x := 236) (nx := 16) (r1 := 0) (r2 := 0) (r3 := 0) rfl rfl ?_
            refine wr_gi1 (k0 := 236) (x := h69 236 12) (nx := 19) (r1 := 11) (r2 := 12) (r3 := 0) rfl rfl (by decide) rfl ⟨rfl, rfl⟩ rfl (u96 236 12 (fn_a (by omega) fn_0)) ?_
            refine wi_lload_n (i := 1) (e := 2084) (nx := 20) (r1 := 0) (r2 := 0) (r3 := 0) rfl rfl ?_
            refine wi_lcmp (a := h69 236 12) (e := 2084) (nx := 21) (r1 := 0) (r2 := 0) (r3 := 0) rfl (by omega) (by omega) (fun r102 (fr102 : (r102 = -1 ∧ (h69 236 12) < 2084) ∨ (r102 = 0 ∧ (h69 236 12) = 2084) ∨ (r102 = 1 ∧ 2084 < (h69 236 12))) => ?_)
            refine wi_if (cd := .ne) (nx := 24) (r1 := 28) (r2 := 0) (r3 := 0) rfl (by omega) (fun (q103 : r102 ≠ 0) => ?_) (fun (q103 : ¬ (r102 ≠ 0)) => ?_)
            ·
              have wk104 : TKn (tk_wd (tk_lw tB tn (tk_nx tB tn (tk_nx tB tn (tk_nx tB tn (tk_nx tB tn tp))))) = 6) := tk_wcm 5 (K := 2084) (by decide) rfl rfl (by omega) (by omega) (show tk_kd tB tn (tk_nx tB tn (tk_nx tB tn (tk_nx tB tn (tk_nx tB tn tp)))) = 1 by omega) (show tk_sw tB tn (tk_nx tB tn (tk_nx tB tn (tk_nx tB tn (tk_nx tB tn tp)))) ≠ 2084 by omega)
              clear q103 fr102
              refine wi_iconst (n := 0) (nx := 29) (r1 := 0) (r2 := 0) (r3 := 0) rfl ?_
              refine wi_zreturn (nx := 30) (r1 := 0) (r2 := 0) (r3 := 0) rfl rfl (by omega) ?_
              refine wk_i ?_
              refine wi_istore_n (i := 3) (e := 0) (lo2 := [(3, vi 0), (0, .ref 236), (1, vl 2084)]) (nx := 6) (r1 := 0) (r2 := 0) (r3 := 0) rfl rfl ?_
              refine wi_iload_n (i := 3) (e := 0) (nx := 7) (r1 := 0) (r2 := 0) (r3 := 0) rfl rfl ?_
              refine wi_if (cd := .eq) (nx := 10) (r1 := 14) (r2 := 0) (r3 := 0) rfl (by omega) (fun (q105 : 0 = 0) => ?_) (fun (q105 : ¬ (0 = 0)) => by exfalso; omega)
              refine wi_iload_n (i := 3) (e := 0) (nx := 15) (r1 := 0) (r2 := 0) (r3 := 0) rfl rfl ?_
              refine wi_zreturn (nx := 16) (r1 := 0) (r2 := 0) (r3 := 0) rfl rfl (by omega) ?_
              refine wk_i ?_
              refine wi_if (cd := .eq) (nx := 107) (r1 := 116) (r2 := 0) (r3 := 0) rfl (by omega) (fun (q106 : 0 = 0) => ?_) (fun (q106 : ¬ (0 = 0)) => by exfalso; omega)
              have dw107 : TKn (tk_kd tB tn (tk_nx tB tn (tk_nx tB tn (tk_nx tB tn (tk_nx tB tn tp)))) = 1 ∧ tk_wd (tk_lw tB tn (tk_nx tB tn (tk_nx tB tn (tk_nx tB tn (tk_nx tB tn tp))))) = 6) := fun e => wk104.no e.2
              refine wi_iconst (n := 0) (nx := 117) (r1 := 0) (r2 := 0) (r3 := 0) rfl ?_
              obtain ⟨i108, ei108⟩ : ∃ q : Nat, e98 = (q : Int) := ⟨(e98).toNat, by omega⟩
              refine wr_is (k0 := 239) (a := e98) (f := i108) (x := 0) (bl := 0) (bh := 999) (nx := 118) (r1 := 0) (r2 := 0) (r3 := 0) rfl (by decide) rfl (by omega) (by omega) (by decide) g96 (gi_rq 43 12 (fun _ => rfl) (by decide +kernel) (by omega)) (by omega) (fun h109 g109 w109 u109 => ?_)
              have F110 := F97.then rfl (FR.idx (p := 43) (q := 54) u109 (by omega))
              refine wi_aload_n (i := 0) (x := 236) (nx := 119) (r1 := 0) (r2 := 0) (r3 := 0) rfl rfl ?_
              refine wr_V (k0 := 236) (rest := []) (as := [.ref 236]) (nx := 122) (r1 := 219) (r2 := 0) (r3 := 11) rfl rfl rfl (of_decide_eq_true rfl) rfl rfl (by decide) rfl rfl (of_decide_eq_true rfl) (of_decide_eq_true rfl) ?_
              refine wi_aload_n (i := 0) (x := 236) (nx := 1) (r1 := 0) (r2 := 0) (r3 := 0) rfl rfl ?_
              refine wr_gi0 (k0 := 236) (x := h69 236 8) (nx := 4) (r1 := 11) (r2 := 8) (r3 := 0) rfl rfl (by decide) rfl ⟨rfl, rfl⟩ rfl ((u109 236 8 (fn_a (by omega) fn_0)).trans (u96 236 8 (fn_a (by omega) fn_0))) ?_
              refine wi_if (cd := .ne) (nx := 7) (r1 := 11) (r2 := 0) (r3 := 0) rfl (by omega) (fun (q111 : (h69 236 8) ≠ 0) => by exfalso; omega) (fun (q111 : ¬ ((h69 236 8) ≠ 0)) => ?_)
              refine wi_iconst (n := 1) (nx := 8) (r1 := 0) (r2 := 0) (r3 := 0) rfl ?_
              refine wi_goto (nx := 11) (r1 := 12) (r2 := 0) (r3 := 0) rfl ?_
              refine wi_zreturn (nx := 13) (r1 := 0) (r2 := 0) (r3 := 0) rfl rfl (by omega) ?_
              refine wk_i ?_
              refine wi_if (cd := .eq) (nx := 125) (r1 := 135) (r2 := 0) (r3 := 0) rfl (by omega) (fun (q112 : 1 = 0) => by exfalso; omega) (fun (q112 : ¬ (1 = 0)) => ?_)
              refine wi_aload_n (i := 0) (x := 236) (nx := 126) (r1 := 0) (r2 := 0) (r3 := 0) rfl rfl ?_
              refine wr_gr (k0 := 236) (x := 239) (nx := 129) (r1 := 11) (r2 := 14) (r3 := 0) rfl rfl (by decide) rfl ⟨rfl, rfl⟩ rfl ?_
              refine wi_iconst (n := 2) (nx := 130) (r1 := 0) (r2 := 0) (r3 := 0) rfl ?_
              refine wi_dup2 (nx := 131) (r1 := 0) (r2 := 0) (r3 := 0) rfl rfl rfl ?_
              refine wr_ia (k0 := 239) (a := 2) (f := 2) (x := h 239 2) (nx := 132) (r1 := 0) (r2 := 0) (r3 := 0) rfl (by decide) rfl (by omega) (by omega) (by decide) ((u109 239 2 (fn_i (by omega) fn_0)).trans ((u96 239 2 (fn_i (by omega) fn_0)).trans ((u69 239 2 rfl).trans ((u66 239 2 (fn_i (by omega) fn_0)).trans ((u53 239 2 rfl).trans ((u32 239 2 rfl).trans (u21 239 2 rfl))))))) ?_
              refine wi_iconst (n := 1) (nx := 133) (r1 := 0) (r2 := 0) (r3 := 0) rfl ?_
              refine wr_add (nx := 134) (r1 := 0) (r2 := 0) (r3 := 0) rfl (fun e113 (fe113 : e113 = (h 239 2) + 1) => ?_)
              refine wr_is (k0 := 239) (a := 2) (f := 2) (x := e113) (bl := 0) (bh := 12) (nx := 135) (r1 := 0) (r2 := 0) (r3 := 0) rfl (by decide) rfl (by omega) (by omega) (by decide) g109 rfl (by omega) (fun h114 g114 w114 u114 => ?_)
              have F115 := F110.then rfl u114
              refine wi_return (nx := 136) (r1 := 0) (r2 := 0) (r3 := 0) rfl rfl ?_
              have e116 : h114 236 4 = h69 236 4 := ((u114 236 4 rfl).trans ((u109 236 4 (fn_a (by omega) fn_0)).trans (u96 236 4 (fn_a (by omega) fn_0))))
              have e117 : h114 236 8 = h69 236 8 := ((u114 236 8 rfl).trans ((u109 236 8 (fn_a (by omega) fn_0)).trans (u96 236 8 (fn_a (by omega) fn_0))))
              have e118 : h114 239 5 = h 239 5 := ((u114 239 5 rfl).trans ((u109 239 5 (fn_i (by omega) fn_0)).trans ((u96 239 5 (fn_i (by omega) fn_0)).trans ((u69 239 5 rfl).trans ((u66 239 5 (fn_i (by omega) fn_0)).trans ((u53 239 5 rfl).trans ((u32 239 5 rfl).trans (u21 239 5 rfl))))))))
              have e119 : h114 239 7 = h 239 7 := ((u114 239 7 rfl).trans ((u109 239 7 (fn_i (by omega) fn_0)).trans ((u96 239 7 (fn_i (by omega) fn_0)).trans ((u69 239 7 rfl).trans ((u66 239 7 (fn_i (by omega) fn_0)).trans ((u53 239 7 rfl).trans ((u32 239 7 rfl).trans (u21 239 7 rfl))))))))
              have e120 : h114 239 15 = h 239 15 := ((u114 239 15 rfl).trans ((u109 239 15 (fn_i (by omega) fn_0)).trans ((u96 239 15 (fn_i (by omega) fn_0)).trans ((u69 239 15 rfl).trans ((u66 239 15 (fn_i (by omega) fn_0)).trans ((u53 239 15 rfl).trans ((u32 239 15 rfl).trans (u21 239 15 rfl))))))))
              have e121 : h114 239 16 = h 239 16 := ((u114 239 16 rfl).trans ((u109 239 16 (fn_i (by omega) fn_0)).trans ((u96 239 16 (fn_i (by omega) fn_0)).trans ((u69 239 16 rfl).trans ((u66 239 16 (fn_i (by omega) fn_0)).trans ((u53 239 16 rfl).trans ((u32 239 16 rfl).trans (u21 239 16 rfl))))))))
              have e122 : h114 239 17 = h 239 17 := ((u114 239 17 rfl).trans ((u109 239 17 (fn_i (by omega) fn_0)).trans ((u96 239 17 (fn_i (by omega) fn_0)).trans ((u69 239 17 rfl).trans ((u66 239 17 (fn_i (by omega) fn_0)).trans ((u53 239 17 rfl).trans ((u32 239 17 rfl).trans (u21 239 17 rfl))))))))
              have e123 : h114 239 18 = h 239 18 := ((u114 239 18 rfl).trans ((u109 239 18 (fn_i (by omega) fn_0)).trans ((u96 239 18 (fn_i (by omega) fn_0)).trans ((u69 239 18 rfl).trans ((u66 239 18 (fn_i (by omega) fn_0)).trans ((u53 239 18 rfl).trans ((u32 239 18 rfl).trans (u21 239 18 rfl))))))))
              have e124 : h114 236 9 = h69 236 9 := ((u114 236 9 rfl).trans ((u109 236 9 (fn_a (by omega) fn_0)).trans (u96 236 9 (fn_a (by omega) fn_0))))
              have e125 : h114 239 0 = h 239 0 := ((u114 239 0 rfl).trans ((u109 239 0 (fn_i (by omega) fn_0)).trans ((u96 239 0 (fn_i (by omega) fn_0)).trans ((u69 239 0 rfl).trans ((u66 239 0 (fn_i (by omega) fn_0)).trans ((u53 239 0 rfl).trans ((u32 239 0 rfl).trans (u21 239 0 rfl))))))))
              have e126 : h114 239 1 = h 239 1 := ((u114 239 1 rfl).trans ((u109 239 1 (fn_i (by omega) fn_0)).trans ((u96 239 1 (fn_i (by omega) fn_0)).trans ((u69 239 1 rfl).trans ((u66 239 1 (fn_i (by omega) fn_0)).trans ((u53 239 1 rfl).trans ((u32 239 1 rfl).trans (u21 239 1 rfl))))))))
              have e127 : h114 239 2 = e113 := w114
              have b128 := gi_b (lo := 0) (hi := 999) g 239 3 rfl
              have e129 : h114 239 3 = h 239 3 := ((u114 239 3 rfl).trans ((u109 239 3 (fn_i (by omega) fn_0)).trans ((u96 239 3 (fn_i (by omega) fn_0)).trans ((u69 239 3 rfl).trans ((u66 239 3 (fn_i (by omega) fn_0)).trans ((u53 239 3 rfl).trans ((u32 239 3 rfl).trans (u21 239 3 rfl))))))))
              have b130 := gi_b (lo := 0) (hi := 999) g 239 4 rfl
              have e131 : h114 239 4 = h 239 4 := ((u114 239 4 rfl).trans ((u109 239 4 (fn_i (by omega) fn_0)).trans ((u96 239 4 (fn_i (by omega) fn_0)).trans ((u69 239 4 rfl).trans ((u66 239 4 (fn_i (by omega) fn_0)).trans ((u53 239 4 rfl).trans ((u32 239 4 rfl).trans (u21 239 4 rfl))))))))
              have b132 := gi_b (lo := 0) (hi := 999) g 239 6 rfl
              have e133 : h114 239 6 = h 239 6 := ((u114 239 6 rfl).trans ((u109 239 6 (fn_i (by omega) fn_0)).trans ((u96 239 6 (fn_i (by omega) fn_0)).trans ((u69 239 6 rfl).trans ((u66 239 6 (fn_i (by omega) fn_0)).trans ((u53 239 6 rfl).trans ((u32 239 6 rfl).trans (u21 239 6 rfl))))))))
              have b134 := gi_b (lo := 0) (hi := 999) g 239 8 rfl
              have e135 : h114 239 8 = h 239 8 := ((u114 239 8 rfl).trans ((u109 239 8 (fn_i (by omega) fn_0)).trans ((u96 239 8 (fn_i (by omega) fn_0)).trans ((u69 239 8 rfl).trans ((u66 239 8 (fn_i (by omega) fn_0)).trans ((u53 239 8 rfl).trans ((u32 239 8 rfl).trans (u21 239 8 rfl))))))))
              have b136 := gi_b (lo := 0) (hi := 999) g 239 9 rfl
              have e137 : h114 239 9 = h 239 9 := ((u114 239 9 rfl).trans ((u109 239 9 (fn_i (by omega) fn_0)).trans ((u96 239 9 (fn_i (by omega) fn_0)).trans ((u69 239 9 rfl).trans ((u66 239 9 (fn_i (by omega) fn_0)).trans ((u53 239 9 rfl).trans ((u32 239 9 rfl).trans (u21 239 9 rfl))))))))
              have b138 := gi_b (lo := 0) (hi := 1) g 236 23 rfl
              have e139 : h114 236 23 = h 236 23 := ((u114 236 23 rfl).trans ((u109 236 23 (fn_a (by omega) fn_0)).trans ((u96 236 23 (fn_a (by omega) fn_0)).trans ((u69 236 23 rfl).trans ((u66 236 23 (fn_a (by omega) fn_0)).trans ((u53 236 23 rfl).trans ((u32 236 23 rfl).trans (u21 236 23 rfl))))))))
              have b140 := gi_b (lo := 0) (hi := 1) g 236 24 rfl
              have e141 : h114 236 24 = h 236 24 := ((u114 236 24 rfl).trans ((u109 236 24 (fn_a (by omega) fn_0)).trans ((u96 236 24 (fn_a (by omega) fn_0)).trans ((u69 236 24 rfl).trans ((u66 236 24 (fn_a (by omega) fn_0)).trans ((u53 236 24 rfl).trans ((u32 236 24 rfl).trans (u21 236 24 rfl))))))))
              have b142 := gi_b (lo := 0) (hi := 1) g 236 25 rfl
              have e143 : h114 236 25 = h 236 25 := ((u114 236 25 rfl).trans ((u109 236 25 (fn_a (by omega) fn_0)).trans ((u96 236 25 (fn_a (by omega) fn_0)).trans ((u69 236 25 rfl).trans ((u66 236 25 (fn_a (by omega) fn_0)).trans ((u53 236 25 rfl).trans ((u32 236 25 rfl).trans (u21 236 25 rfl))))))))
              have b144 := gi_b (lo := 0) (hi := 1) g 236 26 rfl
              have e145 : h114 236 26 = h 236 26 := ((u114 236 26 rfl).trans ((u109 236 26 (fn_a (by omega) fn_0)).trans ((u96 236 26 (fn_a (by omega) fn_0)).trans ((u69 236 26 rfl).trans ((u66 236 26 (fn_a (by omega) fn_0)).trans ((u53 236 26 rfl).trans ((u32 236 26 rfl).trans (u21 236 26 rfl))))))))
              have e146 : h114 236 5 = h69 236 5 := ((u114 236 5 rfl).trans ((u109 236 5 (fn_a (by omega) fn_0)).trans (u96 236 5 (fn_a (by omega) fn_0))))
              have e147 : h114 236 6 = h69 236 6 := ((u114 236 6 rfl).trans ((u109 236 6 (fn_a (by omega) fn_0)).trans (u96 236 6 (fn_a (by omega) fn_0))))
              have e148 : h114 236 7 = h69 236 7 := ((u114 236 7 rfl).trans ((u109 236 7 (fn_a (by omega) fn_0)).trans (u96 236 7 (fn_a (by omega) fn_0))))
              have e149 : h114 236 12 = h69 236 12 := ((u114 236 12 rfl).trans ((u109 236 12 (fn_a (by omega) fn_0)).trans (u96 236 12 (fn_a (by omega) fn_0))))
              exact k h114 g114 F115 (show (h 236 4) ≤ (h114 236 4) by omega) (show (h114 236 4) ≤ (h 236 3) by omega) (show 1 ≤ (h114 236 8) ∨ ((h114 239 5) ≤ 9 ∧ 1 ≤ (h114 239 5) ∧ (h114 239 7) ≤ 3 ∧ (h114 239 15) ≤ 6 ∧ (h114 239 16) ≤ 6 ∧ (h114 239 17) ≤ 6 ∧ (h114 239 18) ≤ 6) from (Or.inr (⟨by omega, by omega, by omega, by omega, by omega, by omega, by omega⟩))) (show (h114 236 8) ≠ 0 ∨ (h114 236 9) = -1 from (Or.inr (by omega))) (by unfold tk_car; (repeat (first | unfold tk_wrd | unfold tk_num | unfold tk_bad | unfold tk_car)); (try dsimp only); rw [if_neg (by omega)]; (repeat (first | unfold tk_wrd | unfold tk_num | unfold tk_bad | unfold tk_car)); (try dsimp only); rw [if_pos dw39]; (repeat (first | unfold tk_wrd | unfold tk_num | unfold tk_bad | unfold tk_car)); (try dsimp only); rw [if_neg (by omega)]; (repeat (first | unfold tk_wrd | unfold tk_num | unfold tk_bad | unfold tk_car)); (try dsimp only); rw [if_pos dw90]; (repeat (first | unfold tk_wrd | unfold tk_num | unfold tk_bad | unfold tk_car)); (try dsimp only); rw [if_pos dk91]; (repeat (first | unfold tk_wrd | unfold tk_num | unfold tk_bad | unfold tk_car)); (try dsimp only); rw [if_pos dr92]; (repeat (first | unfold tk_wrd | unfold tk_num | unfold tk_bad | unfold tk_car)); (try dsimp only); rw [if_neg dw107.no]; (repeat (first | unfold tk_wrd | unfold tk_num | unfold tk_bad | unfold tk_car)); (try dsimp only); exact tk_ORs (by omega) (by first | assumption | exact ⟨by omega, by omega, TKk.mv (by assumption) (by omega) (by omega) (by omega)⟩) (CVr.car (c := (h 239 2).toNat) xq1 (by omega) (by omega) (fun i _ _ _ _ => ((u114 239 i (fn_i (by omega) fn_0)).trans ((u109 239 i (fn_i (by omega) fn_0)).trans ((u96 239 i (fn_i (by omega) fn_0)).trans ((u69 239 i (fo_nk rfl)).trans ((u66 239 i (fn_i (by omega) fn_0)).trans ((u53 239 i (fo_nk rfl)).trans ((u32 239 i (fn_a (by decide) (fn_a (by decide) fn_0))).trans (u21 239 i (fo_nk rfl)))))))))) (fun i _ _ => ((u114 236 i (fn_a (by omega) fn_0)).trans ((u109 236 i (fn_a (by omega) fn_0)).trans ((u96 236 i (fn_a (by omega) fn_0)).trans ((u69 236 i (fo_gk (m := 12) (by omega) rfl)).trans ((u66 236 i (fn_a (by omega) fn_0)).trans ((u53 236 i (fo_gk (m := 12) (by omega) rfl)).trans ((u32 236 i (fn_i (by omega) (fn_i (by omega) fn_0))).trans (u21 236 i (fo_gk (m := 12) (by omega) rfl)))))))))) (by rw [show 31 + (h 239 2).toNat = i65 by omega]; exact ((u114 239 i65 (fn_i (by omega) fn_0)).trans ((u109 239 i65 (fn_i (by omega) fn_0)).trans ((u96 239 i65 (fn_i (by omega) fn_0)).trans ((u69 239 i65 (fo_nk rfl)).trans w66)))).trans (by omega)) (by rw [show 19 + (h 239 2).toNat = i95 by omega]; exact ((u114 239 i95 (fn_i (by omega) fn_0)).trans ((u109 239 i95 (fn_i (by omega) fn_0)).trans w96)).trans (by omega)) (by rw [show 43 + (h 239 2).toNat = i108 by omega]; exact ((u114 239 i108 (fn_i (by omega) fn_0)).trans w109).trans (by omega)) (fun i => ((u114 244 i (fn_a (by omega) fn_0)).trans ((u109 244 i (fn_a (by omega) fn_0)).trans ((u96 244 i (fn_a (by omega) fn_0)).trans ((u69 244 i (fo_nk rfl)).trans ((u66 244 i (fn_a (by omega) fn_0)).trans ((u53 244 i (fo_nk rfl)).trans ((u32 244 i (fn_a (by decide) (fn_a (by decide) fn_0))).trans (u21 244 i (fo_nk rfl)))))))))) (by omega) (by omega) (by omega)))
            ·
              have wk104 : tk_wd (tk_lw tB tn (tk_nx tB tn (tk_nx tB tn (tk_nx tB tn (tk_nx tB tn tp))))) = 6 := (tk_wcp 5 (K := 2084) (by decide) rfl rfl (by omega) (by omega) (show tk_kd tB tn (tk_nx tB tn (tk_nx tB tn (tk_nx tB tn (tk_nx tB tn tp)))) = 1 by omega) (show tk_sw tB tn (tk_nx tB tn (tk_nx tB tn (tk_nx tB tn (tk_nx tB tn tp)))) = 2084 by omega)).2
              clear q103 fr102
              refine wi_iconst (n := 1) (nx := 25) (r1 := 0) (r2 := 0) (r3 := 0) rfl ?_
              refine wi_goto (nx := 28) (r1 := 29) (r2 := 0) (r3 := 0) rfl ?_
              refine wi_zreturn (nx := 30) (r1 := 0) (r2 := 0) (r3 := 0) rfl rfl (by omega) ?_
              refine wk_i ?_
              refine wi_istore_n (i := 3) (e := 1) (lo2 := [(3, vi 1), (0, .ref 236), (1, vl 2084)]) (nx := 6) (r1 := 0) (r2 := 0) (r3 := 0) rfl rfl ?_
              refine wi_iload_n (i := 3) (e := 1) (nx := 7) (r1 := 0) (r2 := 0) (r3 := 0) rfl rfl ?_
              refine wi_if (cd := .eq) (nx := 10) (r1 := 14) (r2 := 0) (r3 := 0) rfl (by omega) (fun (q105 : 1 = 0) => by exfalso; omega) (fun (q105 : ¬ (1 = 0)) => ?_)
              refine wi_aload_n (i := 0) (x := 236) (nx := 11) (r1 := 0) (r2 := 0) (r3 := 0) rfl rfl ?_
              refine wr_V (k0 := 236) (rest := []) (as := [.ref 236]) (nx := 14) (r1 := 215) (r2 := 0) (r3 := 11) rfl rfl rfl (of_decide_eq_true rfl) rfl rfl (by decide) rfl rfl (of_decide_eq_true rfl) (of_decide_eq_true rfl) ?_
              have e107 : h96 236 4 = h69 236 4 := (u96 236 4 (fn_a (by omega) fn_0))
              have e108 : h96 236 3 = h 236 3 := ((u96 236 3 (fn_a (by omega) fn_0)).trans ((u69 236 3 rfl).trans ((u66 236 3 (fn_a (by omega) fn_0)).trans ((u53 236 3 rfl).trans ((u32 236 3 rfl).trans (u21 236 3 rfl))))))
              have rb109 := RefB.fr u69 rfl rb79
              have rb110 := RefB.fr u96 rfl rb109
              refine ct_215_236 hcr  g96   (show (h96 236 4) ≤ (h96 236 3) by omega) (show (h96 236 4) = (tk_nx tB tn (tk_nx tB tn (tk_nx tB tn (tk_nx tB tn (tk_nx tB tn tp))))) by omega) (show 0 ≤ (tk_nx tB tn (tk_nx tB tn (tk_nx tB tn (tk_nx tB tn (tk_nx tB tn tp))))) by omega) (show (tk_nx tB tn (tk_nx tB tn (tk_nx tB tn (tk_nx tB tn (tk_nx tB tn tp))))) ≤ tn by omega) rb110 (fun h106 g106 u106 (p106_0 : (h96 236 4) ≤ (h106 236 4)) (p106_1 : (h106 236 4) ≤ (h96 236 3)) (p106_2 : ((h106 236 4) = tk_nx tB tn (tk_nx tB tn (tk_nx tB tn (tk_nx tB tn (tk_nx tB tn (tk_nx tB tn tp))))) ∧ (h106 236 5) = tk_st tB tn (tk_nx tB tn (tk_nx tB tn (tk_nx tB tn (tk_nx tB tn (tk_nx tB tn tp))))) ∧ TKk tB tn (tk_nx tB tn (tk_nx tB tn (tk_nx tB tn (tk_nx tB tn (tk_nx tB tn tp))))) ((h106 236 6)) ((h106 236 7)) ((h106 236 12)))) (p106_3 : (tk_nx tB tn (tk_nx tB tn (tk_nx tB tn (tk_nx tB tn (tk_nx tB tn tp))))) ≤ tk_nx tB tn (tk_nx tB tn (tk_nx tB tn (tk_nx tB tn (tk_nx tB tn (tk_nx tB tn tp))))) ∧ tk_nx tB tn (tk_nx tB tn (tk_nx tB tn (tk_nx tB tn (tk_nx tB tn (tk_nx tB tn tp))))) ≤ tn) => ?_)
              have F111 := F97.then (by decide +kernel) u106
              have b112 := gi_b (lo := 0) (hi := 800) g106 236 4 rfl
              have b113 := gi_b (lo := 0) (hi := 800) g106 236 5 rfl
              have b114 := gi_b (lo := 0) (hi := 4) g106 236 6 rfl
              have b115 := gi_b (lo := 0) (hi := 999) g106 236 7 rfl
              have b116 := gi_b (lo := -9223372036854775808) (hi := 9223372036854775807) g106 236 12 rfl
              have tkk117 := p106_2.2.2
              have tN118 := @tk_nx_b tB tn (tk_nx tB tn (tk_nx tB tn (tk_nx tB tn (tk_nx tB tn (tk_nx tB tn tp))))) (by omega) (by omega)
              refine wk_n ?_
              refine wi_iload_n (i := 3) (e := 1) (nx := 15) (r1 := 0) (r2 := 0) (r3 := 0) rfl rfl ?_
              refine wi_zreturn (nx := 16) (r1 := 0) (r2 := 0) (r3 := 0) rfl rfl (by omega) ?_
              refine wk_i ?_
              refine wi_if (cd := .eq) (nx := 107) (r1 := 116) (r2 := 0) (r3 := 0) rfl (by omega) (fun (q119 : 1 = 0) => by exfalso; omega) (fun (q119 : ¬ (1 = 0)) => ?_)
              have dw120 : tk_kd tB tn (tk_nx tB tn (tk_nx tB tn (tk_nx tB tn (tk_nx tB tn tp)))) = 1 ∧ tk_wd (tk_lw tB tn (tk_nx tB tn (tk_nx tB tn (tk_nx tB tn (tk_nx tB tn tp))))) = 6 := ⟨by omega, wk104⟩
              refine wi_aload_n (i := 0) (x := 236) (nx := 108) (r1 := 0) (r2 := 0) (r3 := 0) rfl rfl ?_
              refine wi_iconst (n := 0) (nx := 109) (r1 := 0) (r2 := 0) (r3 := 0) rfl ?_
              refine wi_iconst (n := 2) (nx := 110) (r1 := 0) (r2 := 0) (r3 := 0) rfl ?_
              refine wr_V (k0 := 236) (rest := [vi e98, .ref 239]) (as := [.ref 236, vi 0, vi 2]) (nx := 113) (r1 := 231) (r2 := 2) (r3 := 11) rfl rfl rfl (of_decide_eq_true rfl) rfl rfl (by decide) rfl rfl (of_decide_eq_true rfl) (of_decide_eq_true rfl) ?_
              have e122 : h106 236 3 = h 236 3 := ((u106 236 3 rfl).trans ((u96 236 3 (fn_a (by omega) fn_0)).trans ((u69 236 3 rfl).trans ((u66 236 3 (fn_a (by omega) fn_0)).trans ((u53 236 3 rfl).trans ((u32 236 3 rfl).trans (u21 236 3 rfl)))))))
              have e123 : h106 236 8 = h69 236 8 := ((u106 236 8 rfl).trans (u96 236 8 (fn_a (by omega) fn_0)))
              have rb125 := RefB.fr u106 rfl rb110
              refine ct_231_236 hcr  g106 0 2 (by omega) (by omega) (show (h106 236 4) ≤ (h106 236 3) by omega) (show 0 ≤ (tk_nx tB tn (tk_nx tB tn (tk_nx tB tn (tk_nx tB tn (tk_nx tB tn tp))))) by omega) (show (tk_nx tB tn (tk_nx tB tn (tk_nx tB tn (tk_nx tB tn (tk_nx tB tn tp))))) ≤ tn by omega) (show (tk_nx tB tn (tk_nx tB tn (tk_nx tB tn (tk_nx tB tn (tk_nx tB tn tp))))) ≤ tk_nx tB tn (tk_nx tB tn (tk_nx tB tn (tk_nx tB tn (tk_nx tB tn (tk_nx tB tn tp))))) ∧ tk_nx tB tn (tk_nx tB tn (tk_nx tB tn (tk_nx tB tn (tk_nx tB tn (tk_nx tB tn tp))))) ≤ tn from ⟨by omega, by omega⟩) (show 1 ≤ (h106 236 8) ∨ ((h106 236 4) = tk_nx tB tn (tk_nx tB tn (tk_nx tB tn (tk_nx tB tn (tk_nx tB tn (tk_nx tB tn tp))))) ∧ (h106 236 5) = tk_st tB tn (tk_nx tB tn (tk_nx tB tn (tk_nx tB tn (tk_nx tB tn (tk_nx tB tn tp))))) ∧ TKk tB tn (tk_nx tB tn (tk_nx tB tn (tk_nx tB tn (tk_nx tB tn (tk_nx tB tn tp))))) ((h106 236 6)) ((h106 236 7)) ((h106 236 12))) from (Or.inr (show ((h106 236 4) = tk_nx tB tn (tk_nx tB tn (tk_nx tB tn (tk_nx tB tn (tk_nx tB tn (tk_nx tB tn tp))))) ∧ (h106 236 5) = tk_st tB tn (tk_nx tB tn (tk_nx tB tn (tk_nx tB tn (tk_nx tB tn (tk_nx tB tn tp))))) ∧ TKk tB tn (tk_nx tB tn (tk_nx tB tn (tk_nx tB tn (tk_nx tB tn (tk_nx tB tn tp))))) ((h106 236 6)) ((h106 236 7)) ((h106 236 12))) by first | assumption | exact ⟨by omega, by omega, TKk.mv (by assumption) (by omega) (by omega) (by omega)⟩))) rb125 (fun h121 z124 g121 u121 (fz124 : 0 ≤ z124 ∧ z124 ≤ 999) (p121_0 : (1 ≤ (h106 236 8) ∧ (h121 236 8) = (h106 236 8) ∧ (h121 236 9) = (h106 236 9)) ∨ ((h106 236 8) = 0 ∧ tk_kd tB tn (tk_nx tB tn (tk_nx tB tn (tk_nx tB tn (tk_nx tB tn (tk_nx tB tn tp))))) = 2 ∧ 0 ≤ tk_nb tB tn (tk_nx tB tn (tk_nx tB tn (tk_nx tB tn (tk_nx tB tn (tk_nx tB tn tp))))) ∧ tk_nb tB tn (tk_nx tB tn (tk_nx tB tn (tk_nx tB tn (tk_nx tB tn (tk_nx tB tn tp))))) ≤ 2 ∧ z124 = tk_nb tB tn (tk_nx tB tn (tk_nx tB tn (tk_nx tB tn (tk_nx tB tn (tk_nx tB tn tp))))) ∧ (h121 236 8) = (h106 236 8) ∧ (h121 236 9) = (h106 236 9) ∧ ((h121 236 4) = tk_nx tB tn (tk_nx tB tn (tk_nx tB tn (tk_nx tB tn (tk_nx tB tn (tk_nx tB tn (tk_nx tB tn tp)))))) ∧ (h121 236 5) = tk_st tB tn (tk_nx tB tn (tk_nx tB tn (tk_nx tB tn (tk_nx tB tn (tk_nx tB tn (tk_nx tB tn tp)))))) ∧ TKk tB tn (tk_nx tB tn (tk_nx tB tn (tk_nx tB tn (tk_nx tB tn (tk_nx tB tn (tk_nx tB tn tp)))))) ((h121 236 6)) ((h121 236 7)) ((h121 236 12)))) ∨ ((h106 236 8) = 0 ∧ tk_kd tB tn (tk_nx tB tn (tk_nx tB tn (tk_nx tB tn (tk_nx tB tn (tk_nx tB tn tp))))) ≠ 2 ∧ (h121 236 8) = 1 ∧ (h121 236 9) = tk_st tB tn (tk_nx tB tn (tk_nx tB tn (tk_nx tB tn (tk_nx tB tn (tk_nx tB tn tp)))))) ∨ ((h106 236 8) = 0 ∧ tk_kd tB tn (tk_nx tB tn (tk_nx tB tn (tk_nx tB tn (tk_nx tB tn (tk_nx tB tn tp))))) = 2 ∧ (tk_nb tB tn (tk_nx tB tn (tk_nx tB tn (tk_nx tB tn (tk_nx tB tn (tk_nx tB tn tp))))) < 0 ∨ 2 < tk_nb tB tn (tk_nx tB tn (tk_nx tB tn (tk_nx tB tn (tk_nx tB tn (tk_nx tB tn tp)))))) ∧ (h121 236 8) = 2 ∧ (h121 236 9) = tk_st tB tn (tk_nx tB tn (tk_nx tB tn (tk_nx tB tn (tk_nx tB tn (tk_nx tB tn tp))))))) (p121_1 : (h106 236 4) ≤ (h121 236 4)) (p121_2 : (h121 236 4) ≤ (h106 236 3)) (p121_3 : 1 ≤ (h121 236 8) ∨ (h106 236 8) = 0) (p121_4 : 1 ≤ (h121 236 8) ∨ (0 ≤ z124 ∧ z124 ≤ 2)) (p121_5 : 1 ≤ (h121 236 8) ∨ (h106 236 6) = 2) => ?_)
              have F126 := F111.then (by decide +kernel) u121
              have e127 : h106 236 9 = h69 236 9 := ((u106 236 9 rfl).trans (u96 236 9 (fn_a (by omega) fn_0)))
              have b128 := gi_b (lo := 0) (hi := 5) g121 236 8 rfl
              have b129 := gi_b (lo := -2147483648) (hi := 2147483647) g121 236 9 rfl
              have b130 := gi_b (lo := 0) (hi := 800) g121 236 4 rfl
              have b131 := gi_b (lo := 0) (hi := 800) g121 236 5 rfl
              have b132 := gi_b (lo := 0) (hi := 4) g121 236 6 rfl
              have b133 := gi_b (lo := 0) (hi := 999) g121 236 7 rfl
              have b134 := gi_b (lo := -9223372036854775808) (hi := 9223372036854775807) g121 236 12 rfl
              refine wk_i ?_
              rcases p121_0 with p121_0 | p121_0 | p121_0 | p121_0
              ·
                exfalso; omega
              ·
                replace p121_3 := p121_3.resolve_left (by omega)
                replace p121_4 := p121_4.resolve_left (by omega)
                replace p121_5 := p121_5.resolve_left (by omega)
                have tkk135 := (p121_0.2.2.2.2.2.2.2).2.2
                have dk136 : tk_kd tB tn (tk_nx tB tn (tk_nx tB tn (tk_nx tB tn (tk_nx tB tn (tk_nx tB tn tp))))) = 2 := p121_0.2.1
                have dr137 : 0 ≤ tk_nb tB tn (tk_nx tB tn (tk_nx tB tn (tk_nx tB tn (tk_nx tB tn (tk_nx tB tn tp))))) ∧ tk_nb tB tn (tk_nx tB tn (tk_nx tB tn (tk_nx tB tn (tk_nx tB tn (tk_nx tB tn tp))))) ≤ 2 := ⟨p121_0.2.2.1, p121_0.2.2.2.1⟩
                have tN138 := @tk_nx_b tB tn (tk_nx tB tn (tk_nx tB tn (tk_nx tB tn (tk_nx tB tn (tk_nx tB tn (tk_nx tB tn tp)))))) (by omega) (by omega)
                refine wi_goto (nx := 116) (r1 := 117) (r2 := 0) (r3 := 0) rfl ?_
                obtain ⟨i139, ei139⟩ : ∃ q : Nat, e98 = (q : Int) := ⟨(e98).toNat, by omega⟩
                refine wr_is (k0 := 239) (a := e98) (f := i139) (x := z124) (bl := 0) (bh := 999) (nx := 118) (r1 := 0) (r2 := 0) (r3 := 0) rfl (by decide) rfl (by omega) (by omega) (by decide) g121 (gi_rq 43 12 (fun _ => rfl) (by decide +kernel) (by omega)) (by omega) (fun h140 g140 w140 u140 => ?_)
                have F141 := F126.then rfl (FR.idx (p := 43) (q := 54) u140 (by omega))
                refine wi_aload_n (i := 0) (x := 236) (nx := 119) (r1 := 0) (r2 := 0) (r3 := 0) rfl rfl ?_
                refine wr_V (k0 := 236) (rest := []) (as := [.ref 236]) (nx := 122) (r1 := 219) (r2 := 0) (r3 := 11) rfl rfl rfl (of_decide_eq_true rfl) rfl rfl (by decide) rfl rfl (of_decide_eq_true rfl) (of_decide_eq_true rfl) ?_
                refine wi_aload_n (i := 0) (x := 236) (nx := 1) (r1 := 0) (r2 := 0) (r3 := 0) rfl rfl ?_
                refine wr_gi0 (k0 := 236) (x := h121 236 8) (nx := 4) (r1 := 11) (r2 := 8) (r3 := 0) rfl rfl (by decide) rfl ⟨rfl, rfl⟩ rfl (u140 236 8 (fn_a (by omega) fn_0)) ?_
                refine wi_if (cd := .ne) (nx := 7) (r1 := 11) (r2 := 0) (r3 := 0) rfl (by omega) (fun (q142 : (h121 236 8) ≠ 0) => by exfalso; omega) (fun (q142 : ¬ ((h121 236 8) ≠ 0)) => ?_)
                refine wi_iconst (n := 1) (nx := 8) (r1 := 0) (r2 := 0) (r3 := 0) rfl ?_
                refine wi_goto (nx := 11) (r1 := 12) (r2 := 0) (r3 := 0) rfl ?_
                refine wi_zreturn (nx := 13) (r1 := 0) (r2 := 0) (r3 := 0) rfl rfl (by omega) ?_
                refine wk_i ?_
                refine wi_if (cd := .eq) (nx := 125) (r1 := 135) (r2 := 0) (r3 := 0) rfl (by omega) (fun (q143 : 1 = 0) => by exfalso; omega) (fun (q143 : ¬ (1 = 0)) => ?_)
                refine wi_aload_n (i := 0) (x := 236) (nx := 126) (r1 := 0) (r2 := 0) (r3 := 0) rfl rfl ?_
                refine wr_gr (k0 := 236) (x := 239) (nx := 129) (r1 := 11) (r2 := 14) (r3 := 0) rfl rfl (by decide) rfl ⟨rfl, rfl⟩ rfl ?_
                refine wi_iconst (n := 2) (nx := 130) (r1 := 0) (r2 := 0) (r3 := 0) rfl ?_
                refine wi_dup2 (nx := 131) (r1 := 0) (r2 := 0) (r3 := 0) rfl rfl rfl ?_
                refine wr_ia (k0 := 239) (a := 2) (f := 2) (x := h 239 2) (nx := 132) (r1 := 0) (r2 := 0) (r3 := 0) rfl (by decide) rfl (by omega) (by omega) (by decide) ((u140 239 2 (fn_i (by omega) fn_0)).trans ((u121 239 2 rfl).trans ((u106 239 2 rfl).trans ((u96 239 2 (fn_i (by omega) fn_0)).trans ((u69 239 2 rfl).trans ((u66 239 2 (fn_i (by omega) fn_0)).trans ((u53 239 2 rfl).trans ((u32 239 2 rfl).trans (u21 239 2 rfl))))))))) ?_
                refine wi_iconst (n := 1) (nx := 133) (r1 := 0) (r2 := 0) (r3 := 0) rfl ?_
                refine wr_add (nx := 134) (r1 := 0) (r2 := 0) (r3 := 0) rfl (fun e144 (fe144 : e144 = (h 239 2) + 1) => ?_)
                refine wr_is (k0 := 239) (a := 2) (f := 2) (x := e144) (bl := 0) (bh := 12) (nx := 135) (r1 := 0) (r2 := 0) (r3 := 0) rfl (by decide) rfl (by omega) (by omega) (by decide) g140 rfl (by omega) (fun h145 g145 w145 u145 => ?_)
                have F146 := F141.then rfl u145
                refine wi_return (nx := 136) (r1 := 0) (r2 := 0) (r3 := 0) rfl rfl ?_
                have e147 : h145 236 4 = h121 236 4 := ((u145 236 4 rfl).trans (u140 236 4 (fn_a (by omega) fn_0)))
                have e148 : h145 236 8 = h121 236 8 := ((u145 236 8 rfl).trans (u140 236 8 (fn_a (by omega) fn_0)))
                have e149 : h145 239 5 = h 239 5 := ((u145 239 5 rfl).trans ((u140 239 5 (fn_i (by omega) fn_0)).trans ((u121 239 5 rfl).trans ((u106 239 5 rfl).trans ((u96 239 5 (fn_i (by omega) fn_0)).trans ((u69 239 5 rfl).trans ((u66 239 5 (fn_i (by omega) fn_0)).trans ((u53 239 5 rfl).trans ((u32 239 5 rfl).trans (u21 239 5 rfl))))))))))
                have e150 : h145 239 7 = h 239 7 := ((u145 239 7 rfl).trans ((u140 239 7 (fn_i (by omega) fn_0)).trans ((u121 239 7 rfl).trans ((u106 239 7 rfl).trans ((u96 239 7 (fn_i (by omega) fn_0)).trans ((u69 239 7 rfl).trans ((u66 239 7 (fn_i (by omega) fn_0)).trans ((u53 239 7 rfl).trans ((u32 239 7 rfl).trans (u21 239 7 rfl))))))))))
                have e151 : h145 239 15 = h 239 15 := ((u145 239 15 rfl).trans ((u140 239 15 (fn_i (by omega) fn_0)).trans ((u121 239 15 rfl).trans ((u106 239 15 rfl).trans ((u96 239 15 (fn_i (by omega) fn_0)).trans ((u69 239 15 rfl).trans ((u66 239 15 (fn_i (by omega) fn_0)).trans ((u53 239 15 rfl).trans ((u32 239 15 rfl).trans (u21 239 15 rfl))))))))))
                have e152 : h145 239 16 = h 239 16 := ((u145 239 16 rfl).trans ((u140 239 16 (fn_i (by omega) fn_0)).trans ((u121 239 16 rfl).trans ((u106 239 16 rfl).trans ((u96 239 16 (fn_i (by omega) fn_0)).trans ((u69 239 16 rfl).trans ((u66 239 16 (fn_i (by omega) fn_0)).trans ((u53 239 16 rfl).trans ((u32 239 16 rfl).trans (u21 239 16 rfl))))))))))
                have e153 : h145 239 17 = h 239 17 := ((u145 239 17 rfl).trans ((u140 239 17 (fn_i (by omega) fn_0)).trans ((u121 239 17 rfl).trans ((u106 239 17 rfl).trans ((u96 239 17 (fn_i (by omega) fn_0)).trans ((u69 239 17 rfl).trans ((u66 239 17 (fn_i (by omega) fn_0)).trans ((u53 239 17 rfl).trans ((u32 239 17 rfl).trans (u21 239 17 rfl))))))))))
                have e154 : h145 239 18 = h 239 18 := ((u145 239 18 rfl).trans ((u140 239 18 (fn_i (by omega) fn_0)).trans ((u121 239 18 rfl).trans ((u106 239 18 rfl).trans ((u96 239 18 (fn_i (by omega) fn_0)).trans ((u69 239 18 rfl).trans ((u66 239 18 (fn_i (by omega) fn_0)).trans ((u53 239 18 rfl).trans ((u32 239 18 rfl).trans (u21 239 18 rfl))))))))))
                have e155 : h145 236 9 = h121 236 9 := ((u145 236 9 rfl).trans (u140 236 9 (fn_a (by omega) fn_0)))
                have e156 : h145 239 0 = h 239 0 := ((u145 239 0 rfl).trans ((u140 239 0 (fn_i (by omega) fn_0)).trans ((u121 239 0 rfl).trans ((u106 239 0 rfl).trans ((u96 239 0 (fn_i (by omega) fn_0)).trans ((u69 239 0 rfl).trans ((u66 239 0 (fn_i (by omega) fn_0)).trans ((u53 239 0 rfl).trans ((u32 239 0 rfl).trans (u21 239 0 rfl))))))))))
                have e157 : h145 239 1 = h 239 1 := ((u145 239 1 rfl).trans ((u140 239 1 (fn_i (by omega) fn_0)).trans ((u121 239 1 rfl).trans ((u106 239 1 rfl).trans ((u96 239 1 (fn_i (by omega) fn_0)).trans ((u69 239 1 rfl).trans ((u66 239 1 (fn_i (by omega) fn_0)).trans ((u53 239 1 rfl).trans ((u32 239 1 rfl).trans (u21 239 1 rfl))))))))))
                have e158 : h145 239 2 = e144 := w145
                have b159 := gi_b (lo := 0) (hi := 999) g 239 3 rfl
                have e160 : h145 239 3 = h 239 3 := ((u145 239 3 rfl).trans ((u140 239 3 (fn_i (by omega) fn_0)).trans ((u121 239 3 rfl).trans ((u106 239 3 rfl).trans ((u96 239 3 (fn_i (by omega) fn_0)).trans ((u69 239 3 rfl).trans ((u66 239 3 (fn_i (by omega) fn_0)).trans ((u53 239 3 rfl).trans ((u32 239 3 rfl).trans (u21 239 3 rfl))))))))))
                have b161 := gi_b (lo := 0) (hi := 999) g 239 4 rfl
                have e162 : h145 239 4 = h 239 4 := ((u145 239 4 rfl).trans ((u140 239 4 (fn_i (by omega) fn_0)).trans ((u121 239 4 rfl).trans ((u106 239 4 rfl).trans ((u96 239 4 (fn_i (by omega) fn_0)).trans ((u69 239 4 rfl).trans ((u66 239 4 (fn_i (by omega) fn_0)).trans ((u53 239 4 rfl).trans ((u32 239 4 rfl).trans (u21 239 4 rfl))))))))))
                have b163 := gi_b (lo := 0) (hi := 999) g 239 6 rfl
                have e164 : h145 239 6 = h 239 6 := ((u145 239 6 rfl).trans ((u140 239 6 (fn_i (by omega) fn_0)).trans ((u121 239 6 rfl).trans ((u106 239 6 rfl).trans ((u96 239 6 (fn_i (by omega) fn_0)).trans ((u69 239 6 rfl).trans ((u66 239 6 (fn_i (by omega) fn_0)).trans ((u53 239 6 rfl).trans ((u32 239 6 rfl).trans (u21 239 6 rfl))))))))))
                have b165 := gi_b (lo := 0) (hi := 999) g 239 8 rfl
                have e166 : h145 239 8 = h 239 8 := ((u145 239 8 rfl).trans ((u140 239 8 (fn_i (by omega) fn_0)).trans ((u121 239 8 rfl).trans ((u106 239 8 rfl).trans ((u96 239 8 (fn_i (by omega) fn_0)).trans ((u69 239 8 rfl).trans ((u66 239 8 (fn_i (by omega) fn_0)).trans ((u53 239 8 rfl).trans ((u32 239 8 rfl).trans (u21 239 8 rfl))))))))))
                have b167 := gi_b (lo := 0) (hi := 999) g 239 9 rfl
                have e168 : h145 239 9 = h 239 9 := ((u145 239 9 rfl).trans ((u140 239 9 (fn_i (by omega) fn_0)).trans ((u121 239 9 rfl).trans ((u106 239 9 rfl).trans ((u96 239 9 (fn_i (by omega) fn_0)).trans ((u69 239 9 rfl).trans ((u66 239 9 (fn_i (by omega) fn_0)).trans ((u53 239 9 rfl).trans ((u32 239 9 rfl).trans (u21 239 9 rfl))))))))))
                have b169 := gi_b (lo := 0) (hi := 1) g 236 23 rfl
                have e170 : h145 236 23 = h 236 23 := ((u145 236 23 rfl).trans ((u140 236 23 (fn_a (by omega) fn_0)).trans ((u121 236 23 rfl).trans ((u106 236 23 rfl).trans ((u96 236 23 (fn_a (by omega) fn_0)).trans ((u69 236 23 rfl).trans ((u66 236 23 (fn_a (by omega) fn_0)).trans ((u53 236 23 rfl).trans ((u32 236 23 rfl).trans (u21 236 23 rfl))))))))))
                have b171 := gi_b (lo := 0) (hi := 1) g 236 24 rfl
                have e172 : h145 236 24 = h 236 24 := ((u145 236 24 rfl).trans ((u140 236 24 (fn_a (by omega) fn_0)).trans ((u121 236 24 rfl).trans ((u106 236 24 rfl).trans ((u96 236 24 (fn_a (by omega) fn_0)).trans ((u69 236 24 rfl).trans ((u66 236 24 (fn_a (by omega) fn_0)).trans ((u53 236 24 rfl).trans ((u32 236 24 rfl).trans (u21 236 24 rfl))))))))))
                have b173 := gi_b (lo := 0) (hi := 1) g 236 25 rfl
                have e174 : h145 236 25 = h 236 25 := ((u145 236 25 rfl).trans ((u140 236 25 (fn_a (by omega) fn_0)).trans ((u121 236 25 rfl).trans ((u106 236 25 rfl).trans ((u96 236 25 (fn_a (by omega) fn_0)).trans ((u69 236 25 rfl).trans ((u66 236 25 (fn_a (by omega) fn_0)).trans ((u53 236 25 rfl).trans ((u32 236 25 rfl).trans (u21 236 25 rfl))))))))))
                have b175 := gi_b (lo := 0) (hi := 1) g 236 26 rfl
                have e176 : h145 236 26 = h 236 26 := ((u145 236 26 rfl).trans ((u140 236 26 (fn_a (by omega) fn_0)).trans ((u121 236 26 rfl).trans ((u106 236 26 rfl).trans ((u96 236 26 (fn_a (by omega) fn_0)).trans ((u69 236 26 rfl).trans ((u66 236 26 (fn_a (by omega) fn_0)).trans ((u53 236 26 rfl).trans ((u32 236 26 rfl).trans (u21 236 26 rfl))))))))))
                have e177 : h145 236 5 = h121 236 5 := ((u145 236 5 rfl).trans (u140 236 5 (fn_a (by omega) fn_0)))
                have e178 : h145 236 6 = h121 236 6 := ((u145 236 6 rfl).trans (u140 236 6 (fn_a (by omega) fn_0)))
                have e179 : h145 236 7 = h121 236 7 := ((u145 236 7 rfl).trans (u140 236 7 (fn_a (by omega) fn_0)))
                have e180 : h145 236 12 = h121 236 12 := ((u145 236 12 rfl).trans (u140 236 12 (fn_a (by omega) fn_0)))
                exact k h145 g145 F146 (show (h 236 4) ≤ (h145 236 4) by omega) (show (h145 236 4) ≤ (h 236 3) by omega) (show 1 ≤ (h145 236 8) ∨ ((h145 239 5) ≤ 9 ∧ 1 ≤ (h145 239 5) ∧ (h145 239 7) ≤ 3 ∧ (h145 239 15) ≤ 6 ∧ (h145 239 16) ≤ 6 ∧ (h145 239 17) ≤ 6 ∧ (h145 239 18) ≤ 6) from (Or.inr (⟨by omega, by omega, by omega, by omega, by omega, by omega, by omega⟩))) (show (h145 236 8) ≠ 0 ∨ (h145 236 9) = -1 from (Or.inr (by omega))) (by unfold tk_car; (repeat (first | unfold tk_wrd | unfold tk_num | unfold tk_bad | unfold tk_car)); (try dsimp only); rw [if_neg (by omega)]; (repeat (first | unfold tk_wrd | unfold tk_num | unfold tk_bad | unfold tk_car)); (try dsimp only); rw [if_pos dw39]; (repeat (first | unfold tk_wrd | unfold tk_num | unfold tk_bad | unfold tk_car)); (try dsimp only); rw [if_neg (by omega)]; (repeat (first | unfold tk_wrd | unfold tk_num | unfold tk_bad | unfold tk_car)); (try dsimp only); rw [if_pos dw90]; (repeat (first | unfold tk_wrd | unfold tk_num | unfold tk_bad | unfold tk_car)); (try dsimp only); rw [if_pos dk91]; (repeat (first | unfold tk_wrd | unfold tk_num | unfold tk_bad | unfold tk_car)); (try dsimp only); rw [if_pos dr92]; (repeat (first | unfold tk_wrd | unfold tk_num | unfold tk_bad | unfold tk_car)); (try dsimp only); rw [if_pos dw120]; (repeat (first | unfold tk_wrd | unfold tk_num | unfold tk_bad | unfold tk_car)); (try dsimp only); rw [if_pos dk136]; (repeat (first | unfold tk_wrd | unfold tk_num | unfold tk_bad | unfold tk_car)); (try dsimp only); rw [if_pos dr137]; (repeat (first | unfold tk_wrd | unfold tk_num | unfold tk_bad | unfold tk_car)); (try dsimp only); exact tk_ORs (by omega) (by first | assumption | exact ⟨by omega, by omega, TKk.mv (by assumption) (by omega) (by omega) (by omega)⟩) (CVr.car (c := (h 239 2).toNat) xq1 (by omega) (by omega) (fun i _ _ _ _ => ((u145 239 i (fn_i (by omega) fn_0)).trans ((u140 239 i (fn_i (by omega) fn_0)).trans ((u121 239 i (fo_nk rfl)).trans ((u106 239 i (fo_nk rfl)).trans ((u96 239 i (fn_i (by omega) fn_0)).trans ((u69 239 i (fo_nk rfl)).trans ((u66 239 i (fn_i (by omega) fn_0)).trans ((u53 239 i (fo_nk rfl)).trans ((u32 239 i (fn_a (by decide) (fn_a (by decide) fn_0))).trans (u21 239 i (fo_nk rfl)))))))))))) (fun i _ _ => ((u145 236 i (fn_a (by omega) fn_0)).trans ((u140 236 i (fn_a (by omega) fn_0)).trans ((u121 236 i (fo_gk (m := 12) (by omega) rfl)).trans ((u106 236 i (fo_gk (m := 12) (by omega) rfl)).trans ((u96 236 i (fn_a (by omega) fn_0)).trans ((u69 236 i (fo_gk (m := 12) (by omega) rfl)).trans ((u66 236 i (fn_a (by omega) fn_0)).trans ((u53 236 i (fo_gk (m := 12) (by omega) rfl)).trans ((u32 236 i (fn_i (by omega) (fn_i (by omega) fn_0))).trans (u21 236 i (fo_gk (m := 12) (by omega) rfl)))))))))))) (by rw [show 31 + (h 239 2).toNat = i65 by omega]; exact ((u145 239 i65 (fn_i (by omega) fn_0)).trans ((u140 239 i65 (fn_i (by omega) fn_0)).trans ((u121 239 i65 (fo_nk rfl)).trans ((u106 239 i65 (fo_nk rfl)).trans ((u96 239 i65 (fn_i (by omega) fn_0)).trans ((u69 239 i65 (fo_nk rfl)).trans w66)))))).trans (by omega)) (by rw [show 19 + (h 239 2).toNat = i95 by omega]; exact ((u145 239 i95 (fn_i (by omega) fn_0)).trans ((u140 239 i95 (fn_i (by omega) fn_0)).trans ((u121 239 i95 (fo_nk rfl)).trans ((u106 239 i95 (fo_nk rfl)).trans w96)))).trans (by omega)) (by rw [show 43 + (h 239 2).toNat = i139 by omega]; exact ((u145 239 i139 (fn_i (by omega) fn_0)).trans w140).trans (by omega)) (fun i => ((u145 244 i (fn_a (by omega) fn_0)).trans ((u140 244 i (fn_a (by omega) fn_0)).trans ((u121 244 i (fo_nk rfl)).trans ((u106 244 i (fo_nk rfl)).trans ((u96 244 i (fn_a (by omega) fn_0)).trans ((u69 244 i (fo_nk rfl)).trans ((u66 244 i (fn_a (by omega) fn_0)).trans ((u53 244 i (fo_nk rfl)).trans ((u32 244 i (fn_a (by decide) (fn_a (by decide) fn_0))).trans (u21 244 i (fo_nk rfl)))))))))))) (by omega) (by omega) (by omega)))
              ·
                clear p121_3
                clear p121_4
                clear p121_5
                have dn135 : TKn (tk_kd tB tn (tk_nx tB tn (tk_nx tB tn (tk_nx tB tn (tk_nx tB tn (tk_nx tB tn tp))))) = 2) := p121_0.2.1
                replace p121_0 : _ := And.intro (p121_0.1) (And.intro (p121_0.2.2.1) (p121_0.2.2.2))
                refine wi_goto (nx := 116) (r1 := 117) (r2 := 0) (r3 := 0) rfl ?_
                obtain ⟨i136, ei136⟩ : ∃ q : Nat, e98 = (q : Int) := ⟨(e98).toNat, by omega⟩
                refine wr_is (k0 := 239) (a := e98) (f := i136) (x := z124) (bl := 0) (bh := 999) (nx := 118) (r1 := 0) (r2 := 0) (r3 := 0) rfl (by decide) rfl (by omega) (by omega) (by decide) g121 (gi_rq 43 12 (fun _ => rfl) (by decide +kernel) (by omega)) (by omega) (fun h137 g137 w137 u137 => ?_)
                have F138 := F126.then rfl (FR.idx (p := 43) (q := 54) u137 (by omega))
                refine wi_aload_n (i := 0) (x := 236) (nx := 119) (r1 := 0) (r2 := 0) (r3 := 0) rfl rfl ?_
                refine wr_V (k0 := 236) (rest := []) (as := [.ref 236]) (nx := 122) (r1 := 219) (r2 := 0) (r3 := 11) rfl rfl rfl (of_decide_eq_true rfl) rfl rfl (by decide) rfl rfl (of_decide_eq_true rfl) (of_decide_eq_true rfl) ?_
                refine wi_aload_n (i := 0) (x := 236) (nx := 1) (r1 := 0) (r2 := 0) (r3 := 0) rfl rfl ?_
                refine wr_gi0 (k0 := 236) (x := h121 236 8) (nx := 4) (r1 := 11) (r2 := 8) (r3 := 0) rfl rfl (by decide) rfl ⟨rfl, rfl⟩ rfl (u137 236 8 (fn_a (by omega) fn_0)) ?_
                refine wi_if (cd := .ne) (nx := 7) (r1 := 11) (r2 := 0) (r3 := 0) rfl (by omega) (fun (q139 : (h121 236 8) ≠ 0) => ?_) (fun (q139 : ¬ ((h121 236 8) ≠ 0)) => by exfalso; omega)
                refine wi_iconst (n := 0) (nx := 12) (r1 := 0) (r2 := 0) (r3 := 0) rfl ?_
                refine wi_zreturn (nx := 13) (r1 := 0) (r2 := 0) (r3 := 0) rfl rfl (by omega) ?_
                refine wk_i ?_
                refine wi_if (cd := .eq) (nx := 125) (r1 := 135) (r2 := 0) (r3 := 0) rfl (by omega) (fun (q140 : 0 = 0) => ?_) (fun (q140 : ¬ (0 = 0)) => by exfalso; omega)
                refine wi_return (nx := 136) (r1 := 0) (r2 := 0) (r3 := 0) rfl rfl ?_
                have e141 : h137 236 4 = h121 236 4 := (u137 236 4 (fn_a (by omega) fn_0))
                have e142 : h137 236 8 = h121 236 8 := (u137 236 8 (fn_a (by omega) fn_0))
                have e143 : h137 239 5 = h 239 5 := ((u137 239 5 (fn_i (by omega) fn_0)).trans ((u121 239 5 rfl).trans ((u106 239 5 rfl).trans ((u96 239 5 (fn_i (by omega) fn_0)).trans ((u69 239 5 rfl).trans ((u66 239 5 (fn_i (by omega) fn_0)).trans ((u53 239 5 rfl).trans ((u32 239 5 rfl).trans (u21 239 5 rfl)))))))))
                have e144 : h137 239 7 = h 239 7 := ((u137 239 7 (fn_i (by omega) fn_0)).trans ((u121 239 7 rfl).trans ((u106 239 7 rfl).trans ((u96 239 7 (fn_i (by omega) fn_0)).trans ((u69 239 7 rfl).trans ((u66 239 7 (fn_i (by omega) fn_0)).trans ((u53 239 7 rfl).trans ((u32 239 7 rfl).trans (u21 239 7 rfl)))))))))
                have e145 : h137 239 15 = h 239 15 := ((u137 239 15 (fn_i (by omega) fn_0)).trans ((u121 239 15 rfl).trans ((u106 239 15 rfl).trans ((u96 239 15 (fn_i (by omega) fn_0)).trans ((u69 239 15 rfl).trans ((u66 239 15 (fn_i (by omega) fn_0)).trans ((u53 239 15 rfl).trans ((u32 239 15 rfl).trans (u21 239 15 rfl)))))))))
                have e146 : h137 239 16 = h 239 16 := ((u137 239 16 (fn_i (by omega) fn_0)).trans ((u121 239 16 rfl).trans ((u106 239 16 rfl).trans ((u96 239 16 (fn_i (by omega) fn_0)).trans ((u69 239 16 rfl).trans ((u66 239 16 (fn_i (by omega) fn_0)).trans ((u53 239 16 rfl).trans ((u32 239 16 rfl).trans (u21 239 16 rfl)))))))))
                have e147 : h137 239 17 = h 239 17 := ((u137 239 17 (fn_i (by omega) fn_0)).trans ((u121 239 17 rfl).trans ((u106 239 17 rfl).trans ((u96 239 17 (fn_i (by omega) fn_0)).trans ((u69 239 17 rfl).trans ((u66 239 17 (fn_i (by omega) fn_0)).trans ((u53 239 17 rfl).trans ((u32 239 17 rfl).trans (u21 239 17 rfl)))))))))
                have e148 : h137 239 18 = h 239 18 := ((u137 239 18 (fn_i (by omega) fn_0)).trans ((u121 239 18 rfl).trans ((u106 239 18 rfl).trans ((u96 239 18 (fn_i (by omega) fn_0)).trans ((u69 239 18 rfl).trans ((u66 239 18 (fn_i (by omega) fn_0)).trans ((u53 239 18 rfl).trans ((u32 239 18 rfl).trans (u21 239 18 rfl)))))))))
                have e149 : h137 236 9 = h121 236 9 := (u137 236 9 (fn_a (by omega) fn_0))
                exact k h137 g137 F138 (show (h 236 4) ≤ (h137 236 4) by omega) (show (h137 236 4) ≤ (h 236 3) by omega) (show 1 ≤ (h137 236 8) ∨ ((h137 239 5) ≤ 9 ∧ 1 ≤ (h137 239 5) ∧ (h137 239 7) ≤ 3 ∧ (h137 239 15) ≤ 6 ∧ (h137 239 16) ≤ 6 ∧ (h137 239 17) ≤ 6 ∧ (h137 239 18) ≤ 6) from (Or.inl (by omega))) (show (h137 236 8) ≠ 0 ∨ (h137 236 9) = -1 from (Or.inl (by omega))) (by unfold tk_car; (repeat (first | unfold tk_wrd | unfold tk_num | unfold tk_bad | unfold tk_car)); (try dsimp only); rw [if_neg (by omega)]; (repeat (first | unfold tk_wrd | unfold tk_num | unfold tk_bad | unfold tk_car)); (try dsimp only); rw [if_pos dw39]; (repeat (first | unfold tk_wrd | unfold tk_num | unfold tk_bad | unfold tk_car)); (try dsimp only); rw [if_neg (by omega)]; (repeat (first | unfold tk_wrd | unfold tk_num | unfold tk_bad | unfold tk_car)); (try dsimp only); rw [if_pos dw90]; (repeat (first | unfold tk_wrd | unfold tk_num | unfold tk_bad | unfold tk_car)); (try dsimp only); rw [if_pos dk91]; (repeat (first | unfold tk_wrd | unfold tk_num | unfold tk_bad | unfold tk_car)); (try dsimp only); rw [if_pos dr92]; (repeat (first | unfold tk_wrd | unfold tk_num | unfold tk_bad | unfold tk_car)); (try dsimp only); rw [if_pos dw120]; (repeat (first | unfold tk_wrd | unfold tk_num | unfold tk_bad | unfold tk_car)); (try dsimp only); rw [if_neg dn135.no]; (repeat (first | unfold tk_wrd | unfold tk_num | unfold tk_bad | unfold tk_car)); (try dsimp only); exact tk_ORe (by omega) (by omega) (by omega))
              ·
                clear p121_3
                clear p121_4
                clear p121_5
                have dk135 : tk_kd tB tn (tk_nx tB tn (tk_nx tB tn (tk_nx tB tn (tk_nx tB tn (tk_nx tB tn tp))))) = 2 := p121_0.2.1
                have dr136 : TKn (0 ≤ tk_nb tB tn (tk_nx tB tn (tk_nx tB tn (tk_nx tB tn (tk_nx tB tn (tk_nx tB tn tp))))) ∧ tk_nb tB tn (tk_nx tB tn (tk_nx tB tn (tk_nx tB tn (tk_nx tB tn (tk_nx tB tn tp))))) ≤ 2) := tkn_r p121_0.2.2.1
                replace p121_0 : _ := And.intro (p121_0.1) (And.intro (p121_0.2.1) (And.intro (p121_0.2.2.2.1) (p121_0.2.2.2.2)))
                refine wi_goto (nx := 116) (r1 := 117) (r2 := 0) (r3 := 0) rfl ?_
                obtain ⟨i137, ei137⟩ : ∃ q : Nat, e98 = (q : Int) := ⟨(e98).toNat, by omega⟩
                refine wr_is (k0 := 239) (a := e98) (f := i137) (x := z124) (bl := 0) (bh := 999) (nx := 118) (r1 := 0) (r2 := 0) (r3 := 0) rfl (by decide) rfl (by omega) (by omega) (by decide) g121 (gi_rq 43 12 (fun _ => rfl) (by decide +kernel) (by omega)) (by omega) (fun h138 g138 w138 u138 => ?_)
                have F139 := F126.then rfl (FR.idx (p := 43) (q := 54) u138 (by omega))
                refine wi_aload_n (i := 0) (x := 236) (nx := 119) (r1 := 0) (r2 := 0) (r3 := 0) rfl rfl ?_
                refine wr_V (k0 := 236) (rest := []) (as := [.ref 236]) (nx := 122) (r1 := 219) (r2 := 0) (r3 := 11) rfl rfl rfl (of_decide_eq_true rfl) rfl rfl (by decide) rfl rfl (of_decide_eq_true rfl) (of_decide_eq_true rfl) ?_
                refine wi_aload_n (i := 0) (x := 236) (nx := 1) (r1 := 0) (r2 := 0) (r3 := 0) rfl rfl ?_
                refine wr_gi0 (k0 := 236) (x := h121 236 8) (nx := 4) (r1 := 11) (r2 := 8) (r3 := 0) rfl rfl (by decide) rfl ⟨rfl, rfl⟩ rfl (u138 236 8 (fn_a (by omega) fn_0)) ?_
                refine wi_if (cd := .ne) (nx := 7) (r1 := 11) (r2 := 0) (r3 := 0) rfl (by omega) (fun (q140 : (h121 236 8) ≠ 0) => ?_) (fun (q140 : ¬ ((h121 236 8) ≠ 0)) => by exfalso; omega)
                refine wi_iconst (n := 0) (nx := 12) (r1 := 0) (r2 := 0) (r3 := 0) rfl ?_
                refine wi_zreturn (nx := 13) (r1 := 0) (r2 := 0) (r3 := 0) rfl rfl (by omega) ?_
                refine wk_i ?_
                refine wi_if (cd := .eq) (nx := 125) (r1 := 135) (r2 := 0) (r3 := 0) rfl (by omega) (fun (q141 : 0 = 0) => ?_) (fun (q141 : ¬ (0 = 0)) => by exfalso; omega)
                refine wi_return (nx := 136) (r1 := 0) (r2 := 0) (r3 := 0) rfl rfl ?_
                have e142 : h138 236 4 = h121 236 4 := (u138 236 4 (fn_a (by omega) fn_0))
                have e143 : h138 236 8 = h121 236 8 := (u138 236 8 (fn_a (by omega) fn_0))
                have e144 : h138 239 5 = h 239 5 := ((u138 239 5 (fn_i (by omega) fn_0)).trans ((u121 239 5 rfl).trans ((u106 239 5 rfl).trans ((u96 239 5 (fn_i (by omega) fn_0)).trans ((u69 239 5 rfl).trans ((u66 239 5 (fn_i (by omega) fn_0)).trans ((u53 239 5 rfl).trans ((u32 239 5 rfl).trans (u21 239 5 rfl)))))))))
                have e145 : h138 239 7 = h 239 7 := ((u138 239 7 (fn_i (by omega) fn_0)).trans ((u121 239 7 rfl).trans ((u106 239 7 rfl).trans ((u96 239 7 (fn_i (by omega) fn_0)).trans ((u69 239 7 rfl).trans ((u66 239 7 (fn_i (by omega) fn_0)).trans ((u53 239 7 rfl).trans ((u32 239 7 rfl).trans (u21 239 7 rfl)))))))))
                have e146 : h138 239 15 = h 239 15 := ((u138 239 15 (fn_i (by omega) fn_0)).trans ((u121 239 15 rfl).trans ((u106 239 15 rfl).trans ((u96 239 15 (fn_i (by omega) fn_0)).trans ((u69 239 15 rfl).trans ((u66 239 15 (fn_i (by omega) fn_0)).trans ((u53 239 15 rfl).trans ((u32 239 15 rfl).trans (u21 239 15 rfl)))))))))
                have e147 : h138 239 16 = h 239 16 := ((u138 239 16 (fn_i (by omega) fn_0)).trans ((u121 239 16 rfl).trans ((u106 239 16 rfl).trans ((u96 239 16 (fn_i (by omega) fn_0)).trans ((u69 239 16 rfl).trans ((u66 239 16 (fn_i (by omega) fn_0)).trans ((u53 239 16 rfl).trans ((u32 239 16 rfl).trans (u21 239 16 rfl)))))))))
                have e148 : h138 239 17 = h 239 17 := ((u138 239 17 (fn_i (by omega) fn_0)).trans ((u121 239 17 rfl).trans ((u106 239 17 rfl).trans ((u96 239 17 (fn_i (by omega) fn_0)).trans ((u69 239 17 rfl).trans ((u66 239 17 (fn_i (by omega) fn_0)).trans ((u53 239 17 rfl).trans ((u32 239 17 rfl).trans (u21 239 17 rfl)))))))))
                have e149 : h138 239 18 = h 239 18 := ((u138 239 18 (fn_i (by omega) fn_0)).trans ((u121 239 18 rfl).trans ((u106 239 18 rfl).trans ((u96 239 18 (fn_i (by omega) fn_0)).trans ((u69 239 18 rfl).trans ((u66 239 18 (fn_i (by omega) fn_0)).trans ((u53 239 18 rfl).trans ((u32 239 18 rfl).trans (u21 239 18 rfl)))))))))
                have e150 : h138 236 9 = h121 236 9 := (u138 236 9 (fn_a (by omega) fn_0))
                exact k h138 g138 F139 (show (h 236 4) ≤ (h138 236 4) by omega) (show (h138 236 4) ≤ (h 236 3) by omega) (show 1 ≤ (h138 236 8) ∨ ((h138 239 5) ≤ 9 ∧ 1 ≤ (h138 239 5) ∧ (h138 239 7) ≤ 3 ∧ (h138 239 15) ≤ 6 ∧ (h138 239 16) ≤ 6 ∧ (h138 239 17) ≤ 6 ∧ (h138 239 18) ≤ 6) from (Or.inl (by omega))) (show (h138 236 8) ≠ 0 ∨ (h138 236 9) = -1 from (Or.inl (by omega))) (by unfold tk_car; (repeat (first | unfold tk_wrd | unfold tk_num | unfold tk_bad | unfold tk_car)); (try dsimp only); rw [if_neg (by omega)]; (repeat (first | unfold tk_wrd | unfold tk_num | unfold tk_bad | unfold tk_car)); (try dsimp only); rw [if_pos dw39]; (repeat (first | unfold tk_wrd | unfold tk_num | unfold tk_bad | unfold tk_car)); (try dsimp only); rw [if_neg (by omega)]; (repeat (first | unfold tk_wrd | unfold tk_num | unfold tk_bad | unfold tk_car)); (try dsimp only); rw [if_pos dw90]; (repeat (first | unfold tk_wrd | unfold tk_num | unfold tk_bad | unfold tk_car)); (try dsimp only); rw [if_pos dk91]; (repeat (first | unfold tk_wrd | unfold tk_num | unfold tk_bad | unfold tk_car)); (try dsimp only); rw [if_pos dr92]; (repeat (first | unfold tk_wrd | unfold tk_num | unfold tk_bad | unfold tk_car)); (try dsimp only); rw [if_pos dw120]; (repeat (first | unfold tk_wrd | unfold tk_num | unfold tk_bad | unfold tk_car)); (try dsimp only); rw [if_pos dk135]; (repeat (first | unfold tk_wrd | unfold tk_num | unfold tk_bad | unfold tk_car)); (try dsimp only); rw [if_neg dr136.no]; (repeat (first | unfold tk_wrd | unfold tk_num | unfold tk_bad | unfold tk_car)); (try dsimp only); exact tk_ORe (by omega) (by omega) (by omega))
        ·
          clear p69_3
          clear p69_4
          have dw89 : TKn (tk_kd tB tn (tk_nx tB tn (tk_nx tB tn tp)) = 1 ∧ tk_wd (tk_lw tB tn (tk_nx tB tn (tk_nx tB tn tp))) = 5) := tk_wcn 4 (K := 81049) (by decide) rfl rfl (by omega) (by omega) p69_0.2.1
          replace p69_0 : _ := And.intro (p69_0.1) (And.intro (p69_0.2.2.1) (p69_0.2.2.2))
          obtain ⟨i90, ei90⟩ : ∃ q : Nat, e68 = (q : Int) := ⟨(e68).toNat, by omega⟩
          refine wr_is (k0 := 239) (a := e68) (f := i90) (x := z77) (bl := 0) (bh := 999) (nx := 89) (r1 := 0) (r2 := 0) (r3 := 0) rfl (by decide) rfl (by omega) (by omega) (by decide) g69 (gi_rq 19 12 (fun _ => rfl) (by decide +kernel) (by omega)) (by omega) (fun h91 g91 w91 u91 => ?_)
          have F92 := F80.then rfl (FR.idx (p := 19) (q := 30) u91 (by omega))
          refine wi_aload_n (i := 0) (x := 236) (nx := 90) (r1 := 0) (r2 := 0) (r3 := 0) rfl rfl ?_
          refine wr_gr (k0 := 236) (x := 239) (nx := 93) (r1 := 11) (r2 := 14) (r3 := 0) rfl rfl (by decide) rfl ⟨rfl, rfl⟩ rfl ?_
          refine wi_bipush (n := 43) (nx := 95) (r1 := 0) (r2 := 0) (r3 := 0) rfl (by decide) ?_
          refine wi_iload_n (i := 1) (e := h 239 2) (nx := 96) (r1 := 0) (r2 := 0) (r3 := 0) rfl rfl ?_
          refine wr_add (nx := 97) (r1 := 0) (r2 := 0) (r3 := 0) rfl (fun e93 (fe93 : e93 = 43 + (h 239 2)) => ?_)
          refine wi_aload_n (i := 0) (x := 236) (nx := 98) (r1 := 0) (r2 := 0) (r3 := 0) rfl rfl ?_
          refine wi_ldc2_w (e := 2084) (nx := 101) (r1 := 2084) (r2 := 0) (r3 := 0) rfl (by decide) ?_
          refine wr_V (k0 := 236) (rest := [vi e93, .ref 239]) (as := [.ref 236, vl 2084]) (nx := 104) (r1 := 230) (r2 := 1) (r3 := 11) rfl rfl rfl (of_decide_eq_true rfl) rfl rfl (by decide) rfl rfl (of_decide_eq_true rfl) (of_decide_eq_true rfl) ?_
          refine wi_aload_n (i := 0) (x := 236) (nx := 1) (r1 := 0) (r2 := 0) (r3 := 0) rfl rfl ?_
          refine wi_lload_n (i := 1) (e := 2084) (nx := 2) (r1 := 0) (r2 := 0) (r3 := 0) rfl rfl ?_
          refine wr_V (k0 := 236) (rest := []) (as := [.ref 236, vl 2084]) (nx := 5) (r1 := 221) (r2 := 1) (r3 := 11) rfl rfl rfl (of_decide_eq_true rfl) rfl rfl (by decide) rfl rfl (of_decide_eq_true rfl) (of_decide_eq_true rfl) ?_
          refine wi_aload_n (i := 0) (x := 236) (nx := 1) (r1 := 0) (r2 := 0) (r3 := 0) rfl rfl ?_
          refine wr_gi0 (k0 := 236) (x := h69 236 8) (nx := 4) (r1 := 11) (r2 := 8) (r3 := 0) rfl rfl (by decide) rfl ⟨rfl, rfl⟩ rfl (u91 236 8 (fn_a (by omega) fn_0)) ?_
          refine wi_if (cd := .ne) (nx := 7) (r1 := 28) (r2 := 0) (r3 := 0) rfl (by omega) (fun (q94 : (h69 236 8) ≠ 0) => ?_) (fun (q94 : ¬ ((h69 236 8) ≠ 0)) => by exfalso; omega)
          refine wi_iconst (n := 0) (nx := 29) (r1 := 0) (r2 := 0) (r3 := 0) rfl ?_
          refine wi_zreturn (nx := 30) (r1 := 0) (r2 := 0) (r3 := 0) rfl rfl (by omega) ?_
          refine wk_i ?_
          refine wi_istore_n (i := 3) (e := 0) (lo2 := [(3, vi 0), (0, .ref 236), (1, vl 2084)]) (nx := 6) (r1 := 0) (r2 := 0) (r3 := 0) rfl rfl ?_
          refine wi_iload_n (i := 3) (e := 0) (nx := 7) (r1 := 0) (r2 := 0) (r3 := 0) rfl rfl ?_
          refine wi_if (cd := .eq) (nx := 10) (r1 := 14) (r2 := 0) (r3 := 0) rfl (by omega) (fun (q95 : 0 = 0) => ?_) (fun (q95 : ¬ (0 = 0)) => by exfalso; omega)
          refine wi_iload_n (i := 3) (e := 0) (nx := 15) (r1 := 0) (r2 := 0) (r3 := 0) rfl rfl ?_
          refine wi_zreturn (nx := 16) (r1 := 0) (r2 := 0) (r3 := 0) rfl rfl (by omega) ?_
          refine wk_i ?_
          refine wi_if (cd := .eq) (nx := 107) (r1 := 116) (r2 := 0) (r3 := 0) rfl (by omega) (fun (q96 : 0 = 0) => ?_) (fun (q96 : ¬ (0 = 0)) => by exfalso; omega)
          refine wi_iconst (n := 0) (nx := 117) (r1 := 0) (r2 := 0) (r3 := 0) rfl ?_
          obtain ⟨i97, ei97⟩ : ∃ q : Nat, e93 = (q : Int) := ⟨(e93).toNat, by omega⟩
          refine wr_is (k0 := 239) (a := e93) (f := i97) (x := 0) (bl := 0) (bh := 999) (nx := 118) (r1 := 0) (r2 := 0) (r3 := 0) rfl (by decide) rfl (by omega) (by omega) (by decide) g91 (gi_rq 43 12 (fun _ => rfl) (by decide +kernel) (by omega)) (by omega) (fun h98 g98 w98 u98 => ?_)
          have F99 := F92.then rfl (FR.idx (p := 43) (q := 54) u98 (by omega))
          refine wi_aload_n (i := 0) (x := 236) (nx := 119) (r1 := 0) (r2 := 0) (r3 := 0) rfl rfl ?_
          refine wr_V (k0 := 236) (rest := []) (as := [.ref 236]) (nx := 122) (r1 := 219) (r2 := 0) (r3 := 11) rfl rfl rfl (of_decide_eq_true rfl) rfl rfl (by decide) rfl rfl (of_decide_eq_true rfl) (of_decide_eq_true rfl) ?_
          refine wi_aload_n (i := 0) (x := 236) (nx := 1) (r1 := 0) (r2 := 0) (r3 := 0) rfl rfl ?_
          refine wr_gi0 (k0 := 236) (x := h69 236 8) (nx := 4) (r1 := 11) (r2 := 8) (r3 := 0) rfl rfl (by decide) rfl ⟨rfl, rfl⟩ rfl ((u98 236 8 (fn_a (by omega) fn_0)).trans (u91 236 8 (fn_a (by omega) fn_0))) ?_
          refine wi_if (cd := .ne) (nx := 7) (r1 := 11) (r2 := 0) (r3 := 0) rfl (by omega) (fun (q100 : (h69 236 8) ≠ 0) => ?_) (fun (q100 : ¬ ((h69 236 8) ≠ 0)) => by exfalso; omega)
          refine wi_iconst (n := 0) (nx := 12) (r1 := 0) (r2 := 0) (r3 := 0) rfl ?_
          refine wi_zreturn (nx := 13) (r1 := 0) (r2 := 0) (r3 := 0) rfl rfl (by omega) ?_
          refine wk_i ?_
          refine wi_if (cd := .eq) (nx := 125) (r1 := 135) (r2 := 0) (r3 := 0) rfl (by omega) (fun (q101 : 0 = 0) => ?_) (fun (q101 : ¬ (0 = 0)) => by exfalso; omega)
          refine wi_return (nx := 136) (r1 := 0) (r2 := 0) (r3 := 0) rfl rfl ?_
          have e102 : h98 236 4 = h69 236 4 := ((u98 236 4 (fn_a (by omega) fn_0)).trans (u91 236 4 (fn_a (by omega) fn_0)))
          have e103 : h98 236 8 = h69 236 8 := ((u98 236 8 (fn_a (by omega) fn_0)).trans (u91 236 8 (fn_a (by omega) fn_0)))
          have e104 : h98 239 5 = h 239 5 := ((u98 239 5 (fn_i (by omega) fn_0)).trans ((u91 239 5 (fn_i (by omega) fn_0)).trans ((u69 239 5 rfl).trans ((u66 239 5 (fn_i (by omega) fn_0)).trans ((u53 239 5 rfl).trans ((u32 239 5 rfl).trans (u21 239 5 rfl)))))))
          have e105 : h98 239 7 = h 239 7 := ((u98 239 7 (fn_i (by omega) fn_0)).trans ((u91 239 7 (fn_i (by omega) fn_0)).trans ((u69 239 7 rfl).trans ((u66 239 7 (fn_i (by omega) fn_0)).trans ((u53 239 7 rfl).trans ((u32 239 7 rfl).trans (u21 239 7 rfl)))))))
          have e106 : h98 239 15 = h 239 15 := ((u98 239 15 (fn_i (by omega) fn_0)).trans ((u91 239 15 (fn_i (by omega) fn_0)).trans ((u69 239 15 rfl).trans ((u66 239 15 (fn_i (by omega) fn_0)).trans ((u53 239 15 rfl).trans ((u32 239 15 rfl).trans (u21 239 15 rfl)))))))
          have e107 : h98 239 16 = h 239 16 := ((u98 239 16 (fn_i (by omega) fn_0)).trans ((u91 239 16 (fn_i (by omega) fn_0)).trans ((u69 239 16 rfl).trans ((u66 239 16 (fn_i (by omega) fn_0)).trans ((u53 239 16 rfl).trans ((u32 239 16 rfl).trans (u21 239 16 rfl)))))))
          have e108 : h98 239 17 = h 239 17 := ((u98 239 17 (fn_i (by omega) fn_0)).trans ((u91 239 17 (fn_i (by omega) fn_0)).trans ((u69 239 17 rfl).trans ((u66 239 17 (fn_i (by omega) fn_0)).trans ((u53 239 17 rfl).trans ((u32 239 17 rfl).trans (u21 239 17 rfl)))))))
          have e109 : h98 239 18 = h 239 18 := ((u98 239 18 (fn_i (by omega) fn_0)).trans ((u91 239 18 (fn_i (by omega) fn_0)).trans ((u69 239 18 rfl).trans ((u66 239 18 (fn_i (by omega) fn_0)).trans ((u53 239 18 rfl).trans ((u32 239 18 rfl).trans (u21 239 18 rfl)))))))
          have e110 : h98 236 9 = h69 236 9 := ((u98 236 9 (fn_a (by omega) fn_0)).trans (u91 236 9 (fn_a (by omega) fn_0)))
          exact k h98 g98 F99 (show (h 236 4) ≤ (h98 236 4) by omega) (show (h98 236 4) ≤ (h 236 3) by omega) (show 1 ≤ (h98 236 8) ∨ ((h98 239 5) ≤ 9 ∧ 1 ≤ (h98 239 5) ∧ (h98 239 7) ≤ 3 ∧ (h98 239 15) ≤ 6 ∧ (h98 239 16) ≤ 6 ∧ (h98 239 17) ≤ 6 ∧ (h98 239 18) ≤ 6) from (Or.inl (by omega))) (show (h98 236 8) ≠ 0 ∨ (h98 236 9) = -1 from (Or.inl (by omega))) (by unfold tk_car; (repeat (first | unfold tk_wrd | unfold tk_num | unfold tk_bad | unfold tk_car)); (try dsimp only); rw [if_neg (by omega)]; (repeat (first | unfold tk_wrd | unfold tk_num | unfold tk_bad | unfold tk_car)); (try dsimp only); rw [if_pos dw39]; (repeat (first | unfold tk_wrd | unfold tk_num | unfold tk_bad | unfold tk_car)); (try dsimp only); rw [if_neg (by omega)]; (repeat (first | unfold tk_wrd | unfold tk_num | unfold tk_bad | unfold tk_car)); (try dsimp only); rw [if_neg dw89.no]; (repeat (first | unfold tk_wrd | unfold tk_num | unfold tk_bad | unfold tk_car)); (try dsimp only); exact tk_ORe (by omega) (by omega) (by omega))
        ·
          clear p69_3
          clear p69_4
          have dw89 : tk_kd tB tn (tk_nx tB tn (tk_nx tB tn tp)) = 1 ∧ tk_wd (tk_lw tB tn (tk_nx tB tn (tk_nx tB tn tp))) = 5 := tk_wcp 4 (K := 81049) (by decide) rfl rfl (by omega) (by omega) p69_0.2.1 p69_0.2.2.1
          have dn90 : TKn (tk_kd tB tn (tk_nx tB tn (tk_nx tB tn (tk_nx tB tn tp))) = 2) := p69_0.2.2.2.1
          replace p69_0 : _ := And.intro (p69_0.1) (And.intro (p69_0.2.1) (And.intro (p69_0.2.2.1) (And.intro (p69_0.2.2.2.2.1) (p69_0.2.2.2.2.2))))
          have tN91 := @tk_nx_b tB tn (tk_nx tB tn (tk_nx tB tn tp)) (by omega) (by omega)
          obtain ⟨i92, ei92⟩ : ∃ q : Nat, e68 = (q : Int) := ⟨(e68).toNat, by omega⟩
          refine wr_is (k0 := 239) (a := e68) (f := i92) (x := z77) (bl := 0) (bh := 999) (nx := 89) (r1 := 0) (r2 := 0) (r3 := 0) rfl (by decide) rfl (by omega) (by omega) (by decide) g69 (gi_rq 19 12 (fun _ => rfl) (by decide +kernel) (by omega)) (by omega) (fun h93 g93 w93 u93 => ?_)
          have F94 := F80.then rfl (FR.idx (p := 19) (q := 30) u93 (by omega))
          refine wi_aload_n (i := 0) (x := 236) (nx := 90) (r1 := 0) (r2 := 0) (r3 := 0) rfl rfl ?_
          refine wr_gr (k0 := 236) (x := 239) (nx := 93) (r1 := 11) (r2 := 14) (r3 := 0) rfl rfl (by decide) rfl ⟨rfl, rfl⟩ rfl ?_
          refine wi_bipush (n := 43) (nx := 95) (r1 := 0) (r2 := 0) (r3 := 0) rfl (by decide) ?_
          refine wi_iload_n (i := 1) (e := h 239 2) (nx := 96) (r1 := 0) (r2 := 0) (r3 := 0) rfl rfl ?_
          refine wr_add (nx := 97) (r1 := 0) (r2 := 0) (r3 := 0) rfl (fun e95 (fe95 : e95 = 43 + (h 239 2)) => ?_)
          refine wi_aload_n (i := 0) (x := 236) (nx := 98) (r1 := 0) (r2 := 0) (r3 := 0) rfl rfl ?_
          refine wi_ldc2_w (e := 2084) (nx := 101) (r1 := 2084) (r2 := 0) (r3 := 0) rfl (by decide) ?_
          refine wr_V (k0 := 236) (rest := [vi e95, .ref 239]) (as := [.ref 236, vl 2084]) (nx := 104) (r1 := 230) (r2 := 1) (r3 := 11) rfl rfl rfl (of_decide_eq_true rfl) rfl rfl (by decide) rfl rfl (of_decide_eq_true rfl) (of_decide_eq_true rfl) ?_
          refine wi_aload_n (i := 0) (x := 236) (nx := 1) (r1 := 0) (r2 := 0) (r3 := 0) rfl rfl ?_
          refine wi_lload_n (i := 1) (e := 2084) (nx := 2) (r1 := 0) (r2 := 0) (r3 := 0) rfl rfl ?_
          refine wr_V (k0 := 236) (rest := []) (as := [.ref 236, vl 2084]) (nx := 5) (r1 := 221) (r2 := 1) (r3 := 11) rfl rfl rfl (of_decide_eq_true rfl) rfl rfl (by decide) rfl rfl (of_decide_eq_true rfl) (of_decide_eq_true rfl) ?_
          refine wi_aload_n (i := 0) (x := 236) (nx := 1) (r1 := 0) (r2 := 0) (r3 := 0) rfl rfl ?_
          refine wr_gi0 (k0 := 236) (x := h69 236 8) (nx := 4) (r1 := 11) (r2 := 8) (r3 := 0) rfl rfl (by decide) rfl ⟨rfl, rfl⟩ rfl (u93 236 8 (fn_a (by omega) fn_0)) ?_
          refine wi_if (cd := .ne) (nx := 7) (r1 := 28) (r2 := 0) (r3 := 0) rfl (by omega) (fun (q96 : (h69 236 8) ≠ 0) => ?_) (fun (q96 : ¬ ((h69 236 8) ≠ 0)) => by exfalso; omega)
          refine wi_iconst (n := 0) (nx := 29) (r1 := 0) (r2 := 0) (r3 := 0) rfl ?_
          refine wi_zreturn (nx := 30) (r1 := 0) (r2 := 0) (r3 := 0) rfl rfl (by omega) ?_
          refine wk_i ?_
          refine wi_istore_n (i := 3) (e := 0) (lo2 := [(3, vi 0), (0, .ref 236), (1, vl 2084)]) (nx := 6) (r1 := 0) (r2 := 0) (r3 := 0) rfl rfl ?_
          refine wi_iload_n (i := 3) (e := 0) (nx := 7) (r1 := 0) (r2 := 0) (r3 := 0) rfl rfl ?_
          refine wi_if (cd := .eq) (nx := 10) (r1 := 14) (r2 := 0) (r3 := 0) rfl (by omega) (fun (q97 : 0 = 0) => ?_) (fun (q97 : ¬ (0 = 0)) => by exfalso; omega)
          refine wi_iload_n (i := 3) (e := 0) (nx := 15) (r1 := 0) (r2 := 0) (r3 := 0) rfl rfl ?_
          refine wi_zreturn (nx := 16) (r1 := 0) (r2 := 0) (r3 := 0) rfl rfl (by omega) ?_
          refine wk_i ?_
          refine wi_if (cd := .eq) (nx := 107) (r1 := 116) (r2 := 0) (r3 := 0) rfl (by omega) (fun (q98 : 0 = 0) => ?_) (fun (q98 : ¬ (0 = 0)) => by exfalso; omega)
          refine wi_iconst (n := 0) (nx := 117) (r1 := 0) (r2 := 0) (r3 := 0) rfl ?_
          obtain ⟨i99, ei99⟩ : ∃ q : Nat, e95 = (q : Int) := ⟨(e95).toNat, by omega⟩
          refine wr_is (k0 := 239) (a := e95) (f := i99) (x := 0) (bl := 0) (bh := 999) (nx := 118) (r1 := 0) (r2 := 0) (r3 := 0) rfl (by decide) rfl (by omega) (by omega) (by decide) g93 (gi_rq 43 12 (fun _ => rfl) (by decide +kernel) (by omega)) (by omega) (fun h100 g100 w100 u100 => ?_)
          have F101 := F94.then rfl (FR.idx (p := 43) (q := 54) u100 (by omega))
          refine wi_aload_n (i := 0) (x := 236) (nx := 119) (r1 := 0) (r2 := 0) (r3 := 0) rfl rfl ?_
          refine wr_V (k0 := 236) (rest := []) (as := [.ref 236]) (nx := 122) (r1 := 219) (r2 := 0) (r3 := 11) rfl rfl rfl (of_decide_eq_true rfl) rfl rfl (by decide) rfl rfl (of_decide_eq_true rfl) (of_decide_eq_true rfl) ?_
          refine wi_aload_n (i := 0) (x := 236) (nx := 1) (r1 := 0) (r2 := 0) (r3 := 0) rfl rfl ?_
          refine wr_gi0 (k0 := 236) (x := h69 236 8) (nx := 4) (r1 := 11) (r2 := 8) (r3 := 0) rfl rfl (by decide) rfl ⟨rfl, rfl⟩ rfl ((u100 236 8 (fn_a (by omega) fn_0)).trans (u93 236 8 (fn_a (by omega) fn_0))) ?_
          refine wi_if (cd := .ne) (nx := 7) (r1 := 11) (r2 := 0) (r3 := 0) rfl (by omega) (fun (q102 : (h69 236 8) ≠ 0) => ?_) (fun (q102 : ¬ ((h69 236 8) ≠ 0)) => by exfalso; omega)
          refine wi_iconst (n := 0) (nx := 12) (r1 := 0) (r2 := 0) (r3 := 0) rfl ?_
          refine wi_zreturn (nx := 13) (r1 := 0) (r2 := 0) (r3 := 0) rfl rfl (by omega) ?_
          refine wk_i ?_
          refine wi_if (cd := .eq) (nx := 125) (r1 := 135) (r2 := 0) (r3 := 0) rfl (by omega) (fun (q103 : 0 = 0) => ?_) (fun (q103 : ¬ (0 = 0)) => by exfalso; omega)
          refine wi_return (nx := 136) (r1 := 0) (r2 := 0) (r3 := 0) rfl rfl ?_
          have e104 : h100 236 4 = h69 236 4 := ((u100 236 4 (fn_a (by omega) fn_0)).trans (u93 236 4 (fn_a (by omega) fn_0)))
          have e105 : h100 236 8 = h69 236 8 := ((u100 236 8 (fn_a (by omega) fn_0)).trans (u93 236 8 (fn_a (by omega) fn_0)))
          have e106 : h100 239 5 = h 239 5 := ((u100 239 5 (fn_i (by omega) fn_0)).trans ((u93 239 5 (fn_i (by omega) fn_0)).trans ((u69 239 5 rfl).trans ((u66 239 5 (fn_i (by omega) fn_0)).trans ((u53 239 5 rfl).trans ((u32 239 5 rfl).trans (u21 239 5 rfl)))))))
          have e107 : h100 239 7 = h 239 7 := ((u100 239 7 (fn_i (by omega) fn_0)).trans ((u93 239 7 (fn_i (by omega) fn_0)).trans ((u69 239 7 rfl).trans ((u66 239 7 (fn_i (by omega) fn_0)).trans ((u53 239 7 rfl).trans ((u32 239 7 rfl).trans (u21 239 7 rfl)))))))
          have e108 : h100 239 15 = h 239 15 := ((u100 239 15 (fn_i (by omega) fn_0)).trans ((u93 239 15 (fn_i (by omega) fn_0)).trans ((u69 239 15 rfl).trans ((u66 239 15 (fn_i (by omega) fn_0)).trans ((u53 239 15 rfl).trans ((u32 239 15 rfl).trans (u21 239 15 rfl)))))))
          have e109 : h100 239 16 = h 239 16 := ((u100 239 16 (fn_i (by omega) fn_0)).trans ((u93 239 16 (fn_i (by omega) fn_0)).trans ((u69 239 16 rfl).trans ((u66 239 16 (fn_i (by omega) fn_0)).trans ((u53 239 16 rfl).trans ((u32 239 16 rfl).trans (u21 239 16 rfl)))))))
          have e110 : h100 239 17 = h 239 17 := ((u100 239 17 (fn_i (by omega) fn_0)).trans ((u93 239 17 (fn_i (by omega) fn_0)).trans ((u69 239 17 rfl).trans ((u66 239 17 (fn_i (by omega) fn_0)).trans ((u53 239 17 rfl).trans ((u32 239 17 rfl).trans (u21 239 17 rfl)))))))
          have e111 : h100 239 18 = h 239 18 := ((u100 239 18 (fn_i (by omega) fn_0)).trans ((u93 239 18 (fn_i (by omega) fn_0)).trans ((u69 239 18 rfl).trans ((u66 239 18 (fn_i (by omega) fn_0)).trans ((u53 239 18 rfl).trans ((u32 239 18 rfl).trans (u21 239 18 rfl)))))))
          have e112 : h100 236 9 = h69 236 9 := ((u100 236 9 (fn_a (by omega) fn_0)).trans (u93 236 9 (fn_a (by omega) fn_0)))
          exact k h100 g100 F101 (show (h 236 4) ≤ (h100 236 4) by omega) (show (h100 236 4) ≤ (h 236 3) by omega) (show 1 ≤ (h100 236 8) ∨ ((h100 239 5) ≤ 9 ∧ 1 ≤ (h100 239 5) ∧ (h100 239 7) ≤ 3 ∧ (h100 239 15) ≤ 6 ∧ (h100 239 16) ≤ 6 ∧ (h100 239 17) ≤ 6 ∧ (h100 239 18) ≤ 6) from (Or.inl (by omega))) (show (h100 236 8) ≠ 0 ∨ (h100 236 9) = -1 from (Or.inl (by omega))) (by unfold tk_car; (repeat (first | unfold tk_wrd | unfold tk_num | unfold tk_bad | unfold tk_car)); (try dsimp only); rw [if_neg (by omega)]; (repeat (first | unfold tk_wrd | unfold tk_num | unfold tk_bad | unfold tk_car)); (try dsimp only); rw [if_pos dw39]; (repeat (first | unfold tk_wrd | unfold tk_num | unfold tk_bad | unfold tk_car)); (try dsimp only); rw [if_neg (by omega)]; (repeat (first | unfold tk_wrd | unfold tk_num | unfold tk_bad | unfold tk_car)); (try dsimp only); rw [if_pos dw89]; (repeat (first | unfold tk_wrd | unfold tk_num | unfold tk_bad | unfold tk_car)); (try dsimp only); rw [if_neg dn90.no]; (repeat (first | unfold tk_wrd | unfold tk_num | unfold tk_bad | unfold tk_car)); (try dsimp only); exact tk_ORe (by omega) (by omega) (by omega))
        ·
          clear p69_3
          clear p69_4
          have dw89 : tk_kd tB tn (tk_nx tB tn (tk_nx tB tn tp)) = 1 ∧ tk_wd (tk_lw tB tn (tk_nx tB tn (tk_nx tB tn tp))) = 5 := tk_wcp 4 (K := 81049) (by decide) rfl rfl (by omega) (by omega) p69_0.2.1 p69_0.2.2.1
          have dk90 : tk_kd tB tn (tk_nx tB tn (tk_nx tB tn (tk_nx tB tn tp))) = 2 := p69_0.2.2.2.1
          have dr91 : TKn (0 ≤ tk_nb tB tn (tk_nx tB tn (tk_nx tB tn (tk_nx tB tn tp))) ∧ tk_nb tB tn (tk_nx tB tn (tk_nx tB tn (tk_nx tB tn tp))) ≤ 3) := tkn_r p69_0.2.2.2.2.1
          replace p69_0 : _ := And.intro (p69_0.1) (And.intro (p69_0.2.1) (And.intro (p69_0.2.2.1) (And.intro (p69_0.2.2.2.1) (And.intro (p69_0.2.2.2.2.2.1) (p69_0.2.2.2.2.2.2)))))
          have tN92 := @tk_nx_b tB tn (tk_nx tB tn (tk_nx tB tn tp)) (by omega) (by omega)
          obtain ⟨i93, ei93⟩ : ∃ q : Nat, e68 = (q : Int) := ⟨(e68).toNat, by omega⟩
          refine wr_is (k0 := 239) (a := e68) (f := i93) (x := z77) (bl := 0) (bh := 999) (nx := 89) (r1 := 0) (r2 := 0) (r3 := 0) rfl (by decide) rfl (by omega) (by omega) (by decide) g69 (gi_rq 19 12 (fun _ => rfl) (by decide +kernel) (by omega)) (by omega) (fun h94 g94 w94 u94 => ?_)
          have F95 := F80.then rfl (FR.idx (p := 19) (q := 30) u94 (by omega))
          refine wi_aload_n (i := 0) (x := 236) (nx := 90) (r1 := 0) (r2 := 0) (r3 := 0) rfl rfl ?_
          refine wr_gr (k0 := 236) (x := 239) (nx := 93) (r1 := 11) (r2 := 14) (r3 := 0) rfl rfl (by decide) rfl ⟨rfl, rfl⟩ rfl ?_
          refine wi_bipush (n := 43) (nx := 95) (r1 := 0) (r2 := 0) (r3 := 0) rfl (by decide) ?_
          refine wi_iload_n (i := 1) (e := h 239 2) (nx := 96) (r1 := 0) (r2 := 0) (r3 := 0) rfl rfl ?_
          refine wr_add (nx := 97) (r1 := 0) (r2 := 0) (r3 := 0) rfl (fun e96 (fe96 : e96 = 43 + (h 239 2)) => ?_)
          refine wi_aload_n (i := 0) (x := 236) (nx := 98) (r1 := 0) (r2 := 0) (r3 := 0) rfl rfl ?_
          refine wi_ldc2_w (e := 2084) (nx := 101) (r1 := 2084) (r2 := 0) (r3 := 0) rfl (by decide) ?_
          refine wr_V (k0 := 236) (rest := [vi e96, .ref 239]) (as := [.ref 236, vl 2084]) (nx := 104) (r1 := 230) (r2 := 1) (r3 := 11) rfl rfl rfl (of_decide_eq_true rfl) rfl rfl (by decide) rfl rfl (of_decide_eq_true rfl) (of_decide_eq_true rfl) ?_
          refine wi_aload_n (i := 0) (x := 236) (nx := 1) (r1 := 0) (r2 := 0) (r3 := 0) rfl rfl ?_
          refine wi_lload_n (i := 1) (e := 2084) (nx := 2) (r1 := 0) (r2 := 0) (r3 := 0) rfl rfl ?_
          refine wr_V (k0 := 236) (rest := []) (as := [.ref 236, vl 2084]) (nx := 5) (r1 := 221) (r2 := 1) (r3 := 11) rfl rfl rfl (of_decide_eq_true rfl) rfl rfl (by decide) rfl rfl (of_decide_eq_true rfl) (of_decide_eq_true rfl) ?_
          refine wi_aload_n (i := 0) (x := 236) (nx := 1) (r1 := 0) (r2 := 0) (r3 := 0) rfl rfl ?_
          refine wr_gi0 (k0 := 236) (x := h69 236 8) (nx := 4) (r1 := 11) (r2 := 8) (r3 := 0) rfl rfl (by decide) rfl ⟨rfl, rfl⟩ rfl (u94 236 8 (fn_a (by omega) fn_0)) ?_
          refine wi_if (cd := .ne) (nx := 7) (r1 := 28) (r2 := 0) (r3 := 0) rfl (by omega) (fun (q97 : (h69 236 8) ≠ 0) => ?_) (fun (q97 : ¬ ((h69 236 8) ≠ 0)) => by exfalso; omega)
          refine wi_iconst (n := 0) (nx := 29) (r1 := 0) (r2 := 0) (r3 := 0) rfl ?_
          refine wi_zreturn (nx := 30) (r1 := 0) (r2 := 0) (r3 := 0) rfl rfl (by omega) ?_
          refine wk_i ?_
          refine wi_istore_n (i := 3) (e := 0) (lo2 := [(3, vi 0), (0, .ref 236), (1, vl 2084)]) (nx := 6) (r1 := 0) (r2 := 0) (r3 := 0) rfl rfl ?_
          refine wi_iload_n (i := 3) (e := 0) (nx := 7) (r1 := 0) (r2 := 0) (r3 := 0) rfl rfl ?_
          refine wi_if (cd := .eq) (nx := 10) (r1 := 14) (r2 := 0) (r3 := 0) rfl (by omega) (fun (q98 : 0 = 0) => ?_) (fun (q98 : ¬ (0 = 0)) => by exfalso; omega)
          refine wi_iload_n (i := 3) (e := 0) (nx := 15) (r1 := 0) (r2 := 0) (r3 := 0) rfl rfl ?_
          refine wi_zreturn (nx := 16) (r1 := 0) (r2 := 0) (r3 := 0) rfl rfl (by omega) ?_
          refine wk_i ?_
          refine wi_if (cd := .eq) (nx := 107) (r1 := 116) (r2 := 0) (r3 := 0) rfl (by omega) (fun (q99 : 0 = 0) => ?_) (fun (q99 : ¬ (0 = 0)) => by exfalso; omega)
          refine wi_iconst (n := 0) (nx := 117) (r1 := 0) (r2 := 0) (r3 := 0) rfl ?_
          obtain ⟨i100, ei100⟩ : ∃ q : Nat, e96 = (q : Int) := ⟨(e96).toNat, by omega⟩
          refine wr_is (k0 := 239) (a := e96) (f := i100) (x := 0) (bl := 0) (bh := 999) (nx := 118) (r1 := 0) (r2 := 0) (r3 := 0) rfl (by decide) rfl (by omega) (by omega) (by decide) g94 (gi_rq 43 12 (fun _ => rfl) (by decide +kernel) (by omega)) (by omega) (fun h101 g101 w101 u101 => ?_)
          have F102 := F95.then rfl (FR.idx (p := 43) (q := 54) u101 (by omega))
          refine wi_aload_n (i := 0) (x := 236) (nx := 119) (r1 := 0) (r2 := 0) (r3 := 0) rfl rfl ?_
          refine wr_V (k0 := 236) (rest := []) (as := [.ref 236]) (nx := 122) (r1 := 219) (r2 := 0) (r3 := 11) rfl rfl rfl (of_decide_eq_true rfl) rfl rfl (by decide) rfl rfl (of_decide_eq_true rfl) (of_decide_eq_true rfl) ?_
          refine wi_aload_n (i := 0) (x := 236) (nx := 1) (r1 := 0) (r2 := 0) (r3 := 0) rfl rfl ?_
          refine wr_gi0 (k0 := 236) (x := h69 236 8) (nx := 4) (r1 := 11) (r2 := 8) (r3 := 0) rfl rfl (by decide) rfl ⟨rfl, rfl⟩ rfl ((u101 236 8 (fn_a (by omega) fn_0)).trans (u94 236 8 (fn_a (by omega) fn_0))) ?_
          refine wi_if (cd := .ne) (nx := 7) (r1 := 11) (r2 := 0) (r3 := 0) rfl (by omega) (fun (q103 : (h69 236 8) ≠ 0) => ?_) (fun (q103 : ¬ ((h69 236 8) ≠ 0)) => by exfalso; omega)
          refine wi_iconst (n := 0) (nx := 12) (r1 := 0) (r2 := 0) (r3 := 0) rfl ?_
          refine wi_zreturn (nx := 13) (r1 := 0) (r2 := 0) (r3 := 0) rfl rfl (by omega) ?_
          refine wk_i ?_
          refine wi_if (cd := .eq) (nx := 125) (r1 := 135) (r2 := 0) (r3 := 0) rfl (by omega) (fun (q104 : 0 = 0) => ?_) (fun (q104 : ¬ (0 = 0)) => by exfalso; omega)
          refine wi_return (nx := 136) (r1 := 0) (r2 := 0) (r3 := 0) rfl rfl ?_
          have e105 : h101 236 4 = h69 236 4 := ((u101 236 4 (fn_a (by omega) fn_0)).trans (u94 236 4 (fn_a (by omega) fn_0)))
          have e106 : h101 236 8 = h69 236 8 := ((u101 236 8 (fn_a (by omega) fn_0)).trans (u94 236 8 (fn_a (by omega) fn_0)))
          have e107 : h101 239 5 = h 239 5 := ((u101 239 5 (fn_i (by omega) fn_0)).trans ((u94 239 5 (fn_i (by omega) fn_0)).trans ((u69 239 5 rfl).trans ((u66 239 5 (fn_i (by omega) fn_0)).trans ((u53 239 5 rfl).trans ((u32 239 5 rfl).trans (u21 239 5 rfl)))))))
          have e108 : h101 239 7 = h 239 7 := ((u101 239 7 (fn_i (by omega) fn_0)).trans ((u94 239 7 (fn_i (by omega) fn_0)).trans ((u69 239 7 rfl).trans ((u66 239 7 (fn_i (by omega) fn_0)).trans ((u53 239 7 rfl).trans ((u32 239 7 rfl).trans (u21 239 7 rfl)))))))
          have e109 : h101 239 15 = h 239 15 := ((u101 239 15 (fn_i (by omega) fn_0)).trans ((u94 239 15 (fn_i (by omega) fn_0)).trans ((u69 239 15 rfl).trans ((u66 239 15 (fn_i (by omega) fn_0)).trans ((u53 239 15 rfl).trans ((u32 239 15 rfl).trans (u21 239 15 rfl)))))))
          have e110 : h101 239 16 = h 239 16 := ((u101 239 16 (fn_i (by omega) fn_0)).trans ((u94 239 16 (fn_i (by omega) fn_0)).trans ((u69 239 16 rfl).trans ((u66 239 16 (fn_i (by omega) fn_0)).trans ((u53 239 16 rfl).trans ((u32 239 16 rfl).trans (u21 239 16 rfl)))))))
          have e111 : h101 239 17 = h 239 17 := ((u101 239 17 (fn_i (by omega) fn_0)).trans ((u94 239 17 (fn_i (by omega) fn_0)).trans ((u69 239 17 rfl).trans ((u66 239 17 (fn_i (by omega) fn_0)).trans ((u53 239 17 rfl).trans ((u32 239 17 rfl).trans (u21 239 17 rfl)))))))
          have e112 : h101 239 18 = h 239 18 := ((u101 239 18 (fn_i (by omega) fn_0)).trans ((u94 239 18 (fn_i (by omega) fn_0)).trans ((u69 239 18 rfl).trans ((u66 239 18 (fn_i (by omega) fn_0)).trans ((u53 239 18 rfl).trans ((u32 239 18 rfl).trans (u21 239 18 rfl)))))))
          have e113 : h101 236 9 = h69 236 9 := ((u101 236 9 (fn_a (by omega) fn_0)).trans (u94 236 9 (fn_a (by omega) fn_0)))
          exact k h101 g101 F102 (show (h 236 4) ≤ (h101 236 4) by omega) (show (h101 236 4) ≤ (h 236 3) by omega) (show 1 ≤ (h101 236 8) ∨ ((h101 239 5) ≤ 9 ∧ 1 ≤ (h101 239 5) ∧ (h101 239 7) ≤ 3 ∧ (h101 239 15) ≤ 6 ∧ (h101 239 16) ≤ 6 ∧ (h101 239 17) ≤ 6 ∧ (h101 239 18) ≤ 6) from (Or.inl (by omega))) (show (h101 236 8) ≠ 0 ∨ (h101 236 9) = -1 from (Or.inl (by omega))) (by unfold tk_car; (repeat (first | unfold tk_wrd | unfold tk_num | unfold tk_bad | unfold tk_car)); (try dsimp only); rw [if_neg (by omega)]; (repeat (first | unfold tk_wrd | unfold tk_num | unfold tk_bad | unfold tk_car)); (try dsimp only); rw [if_pos dw39]; (repeat (first | unfold tk_wrd | unfold tk_num | unfold tk_bad | unfold tk_car)); (try dsimp only); rw [if_neg (by omega)]; (repeat (first | unfold tk_wrd | unfold tk_num | unfold tk_bad | unfold tk_car)); (try dsimp only); rw [if_pos dw89]; (repeat (first | unfold tk_wrd | unfold tk_num | unfold tk_bad | unfold tk_car)); (try dsimp only); rw [if_pos dk90]; (repeat (first | unfold tk_wrd | unfold tk_num | unfold tk_bad | unfold tk_car)); (try dsimp only); rw [if_neg dr91.no]; (repeat (first | unfold tk_wrd | unfold tk_num | unfold tk_bad | unfold tk_car)); (try dsimp only); exact tk_ORe (by omega) (by omega) (by omega))
      ·
        refine wi_aload_n (i := 0) (x := 236) (nx := 45) (r1 := 0) (r2 := 0) (r3 := 0) rfl rfl ?_
        refine wi_iconst (n := 4) (nx := 46) (r1 := 0) (r2 := 0) (r3 := 0) rfl ?_
        refine wr_V (k0 := 236) (rest := []) (as := [.ref 236, vi 4]) (nx := 49) (r1 := 224) (r2 := 1) (r3 := 11) rfl rfl rfl (of_decide_eq_true rfl) rfl rfl (by decide) rfl rfl (of_decide_eq_true rfl) (of_decide_eq_true rfl) ?_
        refine ct_224_236 hcr  g32 4 (by omega)  (fun h51 g51 u51 (p51_0 : 1 ≤ (h51 236 8)) (p51_1 : (1 ≤ (h32 236 8) ∧ (h51 236 8) = (h32 236 8) ∧ (h51 236 9) = (h32 236 9)) ∨ ((h32 236 8) = 0 ∧ (h51 236 9) = (h32 236 5) ∧ (((h32 236 6) = 4 ∧ (h51 236 8) = 1) ∨ ((h32 236 6) ≠ 4 ∧ (h51 236 8) = 4)))) => ?_)
        have F52 := F35.then (by decide +kernel) u51
        have b53 := gi_b (lo := 0) (hi := 5) g51 236 8 rfl
        have e54 : h32 236 5 = h21 236 5 := (u32 236 5 rfl)
        have e55 : h32 236 6 = h21 236 6 := (u32 236 6 rfl)
        have b56 := gi_b (lo := -2147483648) (hi := 2147483647) g51 236 9 rfl
        replace p51_1 := p51_1.resolve_left (by omega)
        have ws57 : h32 236 6 ≠ 4 := fun e => absurd (TKk.e4 (B := tB) (n := tn) (p := (tk_nx tB tn tp)) (a6 := h21 236 6) (by assumption) ((u32 236 6 rfl).symm.trans e)) (show tk_kd tB tn (tk_nx tB tn tp) ≠ 6 by omega)
        replace p51_1 := And.intro p51_1.2.1 (p51_1.2.2.resolve_left (fun x => ws57 x.1)).2
        clear ws57
        refine wk_n ?_
        refine wi_aload_n (i := 0) (x := 236) (nx := 50) (r1 := 0) (r2 := 0) (r3 := 0) rfl rfl ?_
        refine wr_V (k0 := 236) (rest := []) (as := [.ref 236]) (nx := 53) (r1 := 219) (r2 := 0) (r3 := 11) rfl rfl rfl (of_decide_eq_true rfl) rfl rfl (by decide) rfl rfl (of_decide_eq_true rfl) (of_decide_eq_true rfl) ?_
        refine wi_aload_n (i := 0) (x := 236) (nx := 1) (r1 := 0) (r2 := 0) (r3 := 0) rfl rfl ?_
        refine wr_gi0 (k0 := 236) (x := h51 236 8) (nx := 4) (r1 := 11) (r2 := 8) (r3 := 0) rfl rfl (by decide) rfl ⟨rfl, rfl⟩ rfl rfl ?_
        refine wi_if (cd := .ne) (nx := 7) (r1 := 11) (r2 := 0) (r3 := 0) rfl (by omega) (fun (q58 : (h51 236 8) ≠ 0) => ?_) (fun (q58 : ¬ ((h51 236 8) ≠ 0)) => by exfalso; omega)
        refine wi_iconst (n := 0) (nx := 12) (r1 := 0) (r2 := 0) (r3 := 0) rfl ?_
        refine wi_zreturn (nx := 13) (r1 := 0) (r2 := 0) (r3 := 0) rfl rfl (by omega) ?_
        refine wk_i ?_
        refine wi_if (cd := .ne) (nx := 56) (r1 := 57) (r2 := 0) (r3 := 0) rfl (by omega) (fun (q59 : 0 ≠ 0) => by exfalso; omega) (fun (q59 : ¬ (0 ≠ 0)) => ?_)
        refine wi_return (nx := 57) (r1 := 0) (r2 := 0) (r3 := 0) rfl rfl ?_
        have e60 : h51 236 4 = h21 236 4 := ((u51 236 4 rfl).trans (u32 236 4 rfl))
        have e61 : h51 239 5 = h 239 5 := ((u51 239 5 rfl).trans ((u32 239 5 rfl).trans (u21 239 5 rfl)))
        have e62 : h51 239 7 = h 239 7 := ((u51 239 7 rfl).trans ((u32 239 7 rfl).trans (u21 239 7 rfl)))
        have e63 : h51 239 15 = h 239 15 := ((u51 239 15 rfl).trans ((u32 239 15 rfl).trans (u21 239 15 rfl)))
        have e64 : h51 239 16 = h 239 16 := ((u51 239 16 rfl).trans ((u32 239 16 rfl).trans (u21 239 16 rfl)))
        have e65 : h51 239 17 = h 239 17 := ((u51 239 17 rfl).trans ((u32 239 17 rfl).trans (u21 239 17 rfl)))
        have e66 : h51 239 18 = h 239 18 := ((u51 239 18 rfl).trans ((u32 239 18 rfl).trans (u21 239 18 rfl)))
        exact k h51 g51 F52 (show (h 236 4) ≤ (h51 236 4) by omega) (show (h51 236 4) ≤ (h 236 3) by omega) (show 1 ≤ (h51 236 8) ∨ ((h51 239 5) ≤ 9 ∧ 1 ≤ (h51 239 5) ∧ (h51 239 7) ≤ 3 ∧ (h51 239 15) ≤ 6 ∧ (h51 239 16) ≤ 6 ∧ (h51 239 17) ≤ 6 ∧ (h51 239 18) ≤ 6) from (Or.inl (by omega))) (show (h51 236 8) ≠ 0 ∨ (h51 236 9) = -1 from (Or.inl (by omega))) (by unfold tk_car; (repeat (first | unfold tk_wrd | unfold tk_num | unfold tk_bad | unfold tk_car)); (try dsimp only); rw [if_neg (by omega)]; (repeat (first | unfold tk_wrd | unfold tk_num | unfold tk_bad | unfold tk_car)); (try dsimp only); rw [if_pos dw39]; (repeat (first | unfold tk_wrd | unfold tk_num | unfold tk_bad | unfold tk_car)); (try dsimp only); rw [if_pos (by omega)]; (repeat (first | unfold tk_wrd | unfold tk_num | unfold tk_bad | unfold tk_car)); (try dsimp only); exact tk_ORe (by omega) (by omega) (by omega))
    ·
      clear p32_1
      have dw39 : TKn (tk_kd tB tn (tk_nx tB tn tp) = 1 ∧ tk_wd (tk_lw tB tn (tk_nx tB tn tp)) = 21) := tkn_o p32_0.2.1
      replace p32_0 : _ := And.intro (p32_0.1) (And.intro (p32_0.2.2.1) (p32_0.2.2.2))
      refine wi_aload_n (i := 0) (x := 236) (nx := 23) (r1 := 0) (r2 := 0) (r3 := 0) rfl rfl ?_
      refine wr_V (k0 := 236) (rest := []) (as := [.ref 236]) (nx := 26) (r1 := 227) (r2 := 0) (r3 := 11) rfl rfl rfl (of_decide_eq_true rfl) rfl rfl (by decide) rfl rfl (of_decide_eq_true rfl) (of_decide_eq_true rfl) ?_
      have e41 : h32 236 12 = h21 236 12 := (u32 236 12 rfl)
      have rb43 := RefB.fr u32 rfl rb34
      have cr44 := CVr.fr u21 rfl xq1
      have cr45 := CVr.fr u32 rfl cr44
      refine ct_227_236 hcr  g32   (show 0 ≤ (tk_nx tB tn tp) by omega) (show (tk_nx tB tn tp) ≤ tn by omega) (show (tk_nx tB tn tp) ≤ tk_nx tB tn (tk_nx tB tn tp) ∧ tk_nx tB tn (tk_nx tB tn tp) ≤ tn from ⟨by omega, by omega⟩) (show tk_kd tB tn (tk_nx tB tn tp) = 1 → (h32 236 12) = tk_sw tB tn (tk_nx tB tn tp) by intro e; have kq := TKk.w (B := tB) (n := tn) (p := (tk_nx tB tn tp)) (by assumption) e; omega) rb43 cr45 (fun z42  (fz42 : 0 ≤ z42 ∧ z42 ≤ 5) (p40_0 : z42 ≤ (h32 239 0)) y40_0 => ?_)
      have e46 : h32 239 0 = h 239 0 := ((u32 239 0 rfl).trans (u21 239 0 rfl))
      refine wk_i ?_
      clear y40_0
      refine wi_istore_n (i := 2) (e := z42) (lo2 := [(2, vi z42), (1, vi (h 239 2)), (0, .ref 236)]) (nx := 27) (r1 := 0) (r2 := 0) (r3 := 0) rfl rfl ?_
      refine wi_aload_n (i := 0) (x := 236) (nx := 28) (r1 := 0) (r2 := 0) (r3 := 0) rfl rfl ?_
      refine wr_V (k0 := 236) (rest := []) (as := [.ref 236]) (nx := 31) (r1 := 219) (r2 := 0) (r3 := 11) rfl rfl rfl (of_decide_eq_true rfl) rfl rfl (by decide) rfl rfl (of_decide_eq_true rfl) (of_decide_eq_true rfl) ?_
      refine wi_aload_n (i := 0) (x := 236) (nx := 1) (r1 := 0) (r2 := 0) (r3 := 0) rfl rfl ?_
      refine wr_gi0 (k0 := 236) (x := h32 236 8) (nx := 4) (r1 := 11) (r2 := 8) (r3 := 0) rfl rfl (by decide) rfl ⟨rfl, rfl⟩ rfl rfl ?_
      refine wi_if (cd := .ne) (nx := 7) (r1 := 11) (r2 := 0) (r3 := 0) rfl (by omega) (fun (q47 : (h32 236 8) ≠ 0) => ?_) (fun (q47 : ¬ ((h32 236 8) ≠ 0)) => by exfalso; omega)
      refine wi_iconst (n := 0) (nx := 12) (r1 := 0) (r2 := 0) (r3 := 0) rfl ?_
      refine wi_zreturn (nx := 13) (r1 := 0) (r2 := 0) (r3 := 0) rfl rfl (by omega) ?_
      refine wk_i ?_
      refine wi_if (cd := .eq) (nx := 34) (r1 := 49) (r2 := 0) (r3 := 0) rfl (by omega) (fun (q48 : 0 = 0) => ?_) (fun (q48 : ¬ (0 = 0)) => by exfalso; omega)
      refine wi_aload_n (i := 0) (x := 236) (nx := 50) (r1 := 0) (r2 := 0) (r3 := 0) rfl rfl ?_
      refine wr_V (k0 := 236) (rest := []) (as := [.ref 236]) (nx := 53) (r1 := 219) (r2 := 0) (r3 := 11) rfl rfl rfl (of_decide_eq_true rfl) rfl rfl (by decide) rfl rfl (of_decide_eq_true rfl) (of_decide_eq_true rfl) ?_
      refine wi_aload_n (i := 0) (x := 236) (nx := 1) (r1 := 0) (r2 := 0) (r3 := 0) rfl rfl ?_
      refine wr_gi0 (k0 := 236) (x := h32 236 8) (nx := 4) (r1 := 11) (r2 := 8) (r3 := 0) rfl rfl (by decide) rfl ⟨rfl, rfl⟩ rfl rfl ?_
      refine wi_if (cd := .ne) (nx := 7) (r1 := 11) (r2 := 0) (r3 := 0) rfl (by omega) (fun (q49 : (h32 236 8) ≠ 0) => ?_) (fun (q49 : ¬ ((h32 236 8) ≠ 0)) => by exfalso; omega)
      refine wi_iconst (n := 0) (nx := 12) (r1 := 0) (r2 := 0) (r3 := 0) rfl ?_
      refine wi_zreturn (nx := 13) (r1 := 0) (r2 := 0) (r3 := 0) rfl rfl (by omega) ?_
      refine wk_i ?_
      refine wi_if (cd := .ne) (nx := 56) (r1 := 57) (r2 := 0) (r3 := 0) rfl (by omega) (fun (q50 : 0 ≠ 0) => by exfalso; omega) (fun (q50 : ¬ (0 ≠ 0)) => ?_)
      refine wi_return (nx := 57) (r1 := 0) (r2 := 0) (r3 := 0) rfl rfl ?_
      have e51 : h32 236 4 = h21 236 4 := (u32 236 4 rfl)
      have e52 : h32 239 5 = h 239 5 := ((u32 239 5 rfl).trans (u21 239 5 rfl))
      have e53 : h32 239 7 = h 239 7 := ((u32 239 7 rfl).trans (u21 239 7 rfl))
      have e54 : h32 239 15 = h 239 15 := ((u32 239 15 rfl).trans (u21 239 15 rfl))
      have e55 : h32 239 16 = h 239 16 := ((u32 239 16 rfl).trans (u21 239 16 rfl))
      have e56 : h32 239 17 = h 239 17 := ((u32 239 17 rfl).trans (u21 239 17 rfl))
      have e57 : h32 239 18 = h 239 18 := ((u32 239 18 rfl).trans (u21 239 18 rfl))
      exact k h32 g32 F35 (show (h 236 4) ≤ (h32 236 4) by omega) (show (h32 236 4) ≤ (h 236 3) by omega) (show 1 ≤ (h32 236 8) ∨ ((h32 239 5) ≤ 9 ∧ 1 ≤ (h32 239 5) ∧ (h32 239 7) ≤ 3 ∧ (h32 239 15) ≤ 6 ∧ (h32 239 16) ≤ 6 ∧ (h32 239 17) ≤ 6 ∧ (h32 239 18) ≤ 6) from (Or.inl (by omega))) (show (h32 236 8) ≠ 0 ∨ (h32 236 9) = -1 from (Or.inl (by omega))) (by unfold tk_car; (repeat (first | unfold tk_wrd | unfold tk_num | unfold tk_bad | unfold tk_car)); (try dsimp only); rw [if_neg (by omega)]; (repeat (first | unfold tk_wrd | unfold tk_num | unfold tk_bad | unfold tk_car)); (try dsimp only); rw [if_neg dw39.no]; (repeat (first | unfold tk_wrd | unfold tk_num | unfold tk_bad | unfold tk_car)); (try dsimp only); exact tk_ORe (by omega) (by omega) (by omega))
  ·
    refine wi_aload_n (i := 0) (x := 236) (nx := 11) (r1 := 0) (r2 := 0) (r3 := 0) rfl rfl ?_
    refine wi_iconst (n := 5) (nx := 12) (r1 := 0) (r2 := 0) (r3 := 0) rfl ?_
    refine wr_V (k0 := 236) (rest := []) (as := [.ref 236, vi 5]) (nx := 15) (r1 := 224) (r2 := 1) (r3 := 11) rfl rfl rfl (of_decide_eq_true rfl) rfl rfl (by decide) rfl rfl (of_decide_eq_true rfl) (of_decide_eq_true rfl) ?_
    refine ct_224_236 hcr  g 5 (by omega)  (fun h19 g19 u19 (p19_0 : 1 ≤ (h19 236 8)) (p19_1 : (1 ≤ (h 236 8) ∧ (h19 236 8) = (h 236 8) ∧ (h19 236 9) = (h 236 9)) ∨ ((h 236 8) = 0 ∧ (h19 236 9) = (h 236 5) ∧ (((h 236 6) = 4 ∧ (h19 236 8) = 1) ∨ ((h 236 6) ≠ 4 ∧ (h19 236 8) = 5)))) => ?_)
    have F20 := F0.then (by decide +kernel) u19
    have b21 := gi_b (lo := 0) (hi := 5) g19 236 8 rfl
    have b22 := gi_b (lo := -2147483648) (hi := 2147483647) g19 236 9 rfl
    replace p19_1 := p19_1.resolve_left (by omega)
    have ws23 : h 236 6 ≠ 4 := fun e => absurd (TKk.e4 (B := tB) (n := tn) (p := tp) (a6 := h 236 6) (by assumption) (e)) (show tk_kd tB tn tp ≠ 6 by omega)
    replace p19_1 := And.intro p19_1.2.1 (p19_1.2.2.resolve_left (fun x => ws23 x.1)).2
    clear ws23
    refine wk_n ?_
    refine wi_aload_n (i := 0) (x := 236) (nx := 16) (r1 := 0) (r2 := 0) (r3 := 0) rfl rfl ?_
    refine wr_V (k0 := 236) (rest := []) (as := [.ref 236]) (nx := 19) (r1 := 219) (r2 := 0) (r3 := 11) rfl rfl rfl (of_decide_eq_true rfl) rfl rfl (by decide) rfl rfl (of_decide_eq_true rfl) (of_decide_eq_true rfl) ?_
    refine wi_aload_n (i := 0) (x := 236) (nx := 1) (r1 := 0) (r2 := 0) (r3 := 0) rfl rfl ?_
    refine wr_gi0 (k0 := 236) (x := h19 236 8) (nx := 4) (r1 := 11) (r2 := 8) (r3 := 0) rfl rfl (by decide) rfl ⟨rfl, rfl⟩ rfl rfl ?_
    refine wi_if (cd := .ne) (nx := 7) (r1 := 11) (r2 := 0) (r3 := 0) rfl (by omega) (fun (q24 : (h19 236 8) ≠ 0) => ?_) (fun (q24 : ¬ ((h19 236 8) ≠ 0)) => by exfalso; omega)
    refine wi_iconst (n := 0) (nx := 12) (r1 := 0) (r2 := 0) (r3 := 0) rfl ?_
    refine wi_zreturn (nx := 13) (r1 := 0) (r2 := 0) (r3 := 0) rfl rfl (by omega) ?_
    refine wk_i ?_
    refine wi_if (cd := .eq) (nx := 22) (r1 := 26) (r2 := 0) (r3 := 0) rfl (by omega) (fun (q25 : 0 = 0) => ?_) (fun (q25 : ¬ (0 = 0)) => by exfalso; omega)
    refine wi_aload_n (i := 0) (x := 236) (nx := 27) (r1 := 0) (r2 := 0) (r3 := 0) rfl rfl ?_
    refine wr_V (k0 := 236) (rest := []) (as := [.ref 236]) (nx := 30) (r1 := 219) (r2 := 0) (r3 := 11) rfl rfl rfl (of_decide_eq_true rfl) rfl rfl (by decide) rfl rfl (of_decide_eq_true rfl) (of_decide_eq_true rfl) ?_
    refine wi_aload_n (i := 0) (x := 236) (nx := 1) (r1 := 0) (r2 := 0) (r3 := 0) rfl rfl ?_
    refine wr_gi0 (k0 := 236) (x := h19 236 8) (nx := 4) (r1 := 11) (r2 := 8) (r3 := 0) rfl rfl (by decide) rfl ⟨rfl, rfl⟩ rfl rfl ?_
    refine wi_if (cd := .ne) (nx := 7) (r1 := 11) (r2 := 0) (r3 := 0) rfl (by omega) (fun (q26 : (h19 236 8) ≠ 0) => ?_) (fun (q26 : ¬ ((h19 236 8) ≠ 0)) => by exfalso; omega)
    refine wi_iconst (n := 0) (nx := 12) (r1 := 0) (r2 := 0) (r3 := 0) rfl ?_
    refine wi_zreturn (nx := 13) (r1 := 0) (r2 := 0) (r3 := 0) rfl rfl (by omega) ?_
    refine wk_i ?_
    refine wi_zreturn (nx := 31) (r1 := 0) (r2 := 0) (r3 := 0) rfl rfl (by omega) ?_
    refine wk_i ?_
    refine wi_if (cd := .ne) (nx := 17) (r1 := 18) (r2 := 0) (r3 := 0) rfl (by omega) (fun (q27 : 0 ≠ 0) => by exfalso; omega) (fun (q27 : ¬ (0 ≠ 0)) => ?_)
    refine wi_return (nx := 18) (r1 := 0) (r2 := 0) (r3 := 0) rfl rfl ?_
    have e28 : h19 236 4 = h 236 4 := (u19 236 4 rfl)
    have e29 : h19 239 5 = h 239 5 := (u19 239 5 rfl)
    have e30 : h19 239 7 = h 239 7 := (u19 239 7 rfl)
    have e31 : h19 239 15 = h 239 15 := (u19 239 15 rfl)
    have e32 : h19 239 16 = h 239 16 := (u19 239 16 rfl)
    have e33 : h19 239 17 = h 239 17 := (u19 239 17 rfl)
    have e34 : h19 239 18 = h 239 18 := (u19 239 18 rfl)
    exact k h19 g19 F20 (show (h 236 4) ≤ (h19 236 4) by omega) (show (h19 236 4) ≤ (h 236 3) by omega) (show 1 ≤ (h19 236 8) ∨ ((h19 239 5) ≤ 9 ∧ 1 ≤ (h19 239 5) ∧ (h19 239 7) ≤ 3 ∧ (h19 239 15) ≤ 6 ∧ (h19 239 16) ≤ 6 ∧ (h19 239 17) ≤ 6 ∧ (h19 239 18) ≤ 6) from (Or.inl (by omega))) (show (h19 236 8) ≠ 0 ∨ (h19 236 9) = -1 from (Or.inl (by omega))) (by unfold tk_car; (repeat (first | unfold tk_wrd | unfold tk_num | unfold tk_bad | unfold tk_car)); (try dsimp only); rw [if_pos (by omega)]; (repeat (first | unfold tk_wrd | unfold tk_num | unfold tk_bad | unfold tk_car)); (try dsimp only); exact tk_ORe (by omega) (by omega) (by omega))
-- method 232: Model.readsLane()V
set_option maxRecDepth 100000 in
set_option maxHeartbeats 100000000 in
theorem ct_232_236 {L : Nat} {xs : Nat → Int32} {d b c : Nat} {h : hp} {cr : Nat → Nat → Option Nat} {Q : hp_Q} (hcr : CR cr)  {tB : Nat → Int} {tn tp : Int} {tS : tk_S} (g : GI h)   (pp0 : h 236 4 ≤ h 236 3) (pp1 : 0 ≤ tp) (pp2 : tp ≤ tn) (pp3 : tp ≤ tk_nx tB tn tp ∧ tk_nx tB tn tp ≤ tn) (pp4 : h 236 8 = 0) (pp5 : h 239 5 ≤ 9) (pp6 : 1 ≤ h 239 5) (pp7 : h 239 7 ≤ 3) (pp8 : h 239 15 ≤ 6) (pp9 : h 239 16 ≤ 6) (pp10 : h 239 17 ≤ 6) (pp11 : h 239 18 ≤ 6) (pp12 : (h 236 4 = tk_nx tB tn tp ∧ h 236 5 = tk_st tB tn tp ∧ TKk tB tn tp (h 236 6) (h 236 7) (h 236 12))) (pp13 : tS 0 ≤ 5 ∧ tS 1 ≤ 4 ∧ tS 2 ≤ 12) (pp14 : h 236 9 = -1) (pp15 : tk_kd tB tn tp = 1) (xq0 : RefB tB tn h) (xq1 : CVr tS h) (k : ∀ (h2 : hp) , GI h2 → FR [(236, 236, some (4, 4)), (236, 236, some (5, 5)), (236, 236, some (6, 6)), (236, 236, some (7, 7)), (236, 236, some (8, 8)), (236, 236, some (9, 9)), (236, 236, some (12, 12)), (239, 239, some (1, 1)), (239, 239, some (15, 15)), (239, 239, some (16, 16)), (239, 239, some (17, 17)), (239, 239, some (18, 18))] h h2 → (h 236 4 ≤ h2 236 4) → (h2 236 4 ≤ h 236 3) → (1 ≤ h2 236 8 ∨ (h2 239 5 ≤ 9 ∧ 1 ≤ h2 239 5 ∧ h2 239 7 ≤ 3 ∧ h2 239 15 ≤ 6 ∧ h2 239 16 ≤ 6 ∧ h2 239 17 ≤ 6 ∧ h2 239 18 ≤ 6)) → (h2 236 8 ≠ 0 ∨ h2 236 9 = -1) → (tk_OR tB tn (tk_lane tB tn tp tS) h2) → Q (.inl none) (hp_w h2 cr) b c) : wp (md_xa (L, xs)) (d + 3) 232 (0, [(0, .ref 236)], [], hp_w h cr, b, c) Q := by
  have F0 : FR [(236, 236, some (4, 4)), (236, 236, some (5, 5)), (236, 236, some (6, 6)), (236, 236, some (7, 7)), (236, 236, some (8, 8)), (236, 236, some (9, 9)), (236, 236, some (12, 12)), (239, 239, some (1, 1)), (239, 239, some (15, 15)), (239, 239, some (16, 16)), (239, 239, some (17, 17)), (239, 239, some (18, 18))] h h := FR.refl
  have tb_1 : h 236 3 = tn := xq0.2.1
  have tb_2 : 0 ≤ tn ∧ tn ≤ 800 := xq0.2.2
  obtain ⟨⟨rv_0, rv_1, rv_2, rv_3, rv_4, rv_5, rv_6, rv_7, rv_8, rv_9⟩, ⟨rf_0, rf_1, rf_2, rf_3⟩, -⟩ := id xq1
  have b1 := gi_b (lo := 0) (hi := 5) g 239 0 rfl
  have b2 := gi_b (lo := 0) (hi := 4) g 239 1 rfl
  have b3 := gi_b (lo := 0) (hi := 12) g 239 2 rfl
  have tkk0_ := pp12.2.2
  have b4 := gi_b (lo := 0) (hi := 800) g 236 4 rfl
  have b5 := gi_b (lo := 0) (hi := 800) g 236 3 rfl
  have b6 := gi_b (lo := 0) (hi := 5) g 236 8 rfl
  have b7 := gi_b (lo := 0) (hi := 999) g 239 5 rfl
  have b8 := gi_b (lo := 0) (hi := 999) g 239 7 rfl
  have b9 := gi_b (lo := 0) (hi := 999) g 239 15 rfl
  have b10 := gi_b (lo := 0) (hi := 999) g 239 16 rfl
  have b11 := gi_b (lo := 0) (hi := 999) g 239 17 rfl
  have b12 := gi_b (lo := 0) (hi := 999) g 239 18 rfl
  have b13 := gi_b (lo := 0) (hi := 800) g 236 5 rfl
  have b14 := gi_b (lo := 0) (hi := 4) g 236 6 rfl
  have b15 := gi_b (lo := 0) (hi := 999) g 236 7 rfl
  have b16 := gi_b (lo := -9223372036854775808) (hi := 9223372036854775807) g 236 12 rfl
  have b17 := gi_b (lo := -2147483648) (hi := 2147483647) g 236 9 rfl
  refine wi_aload_n (i := 0) (x := 236) (nx := 1) (r1 := 0) (r2 := 0) (r3 := 0) rfl rfl ?_
  refine wr_gr (k0 := 236) (x := 239) (nx := 4) (r1 := 11) (r2 := 14) (r3 := 0) rfl rfl (by decide) rfl ⟨rfl, rfl⟩ rfl ?_
  refine wi_iconst (n := 1) (nx := 5) (r1 := 0) (r2 := 0) (r3 := 0) rfl ?_
  rcases (show (h 239 1) = 0 ∨ (h 239 1) = 1 ∨ (h 239 1) = 2 ∨ (h 239 1) = 3 ∨ (h 239 1) = 4 by omega) with q18 | q18 | q18 | q18 | q18
  ·
    refine wr_ia (k0 := 239) (a := 1) (f := 1) (x := 0) (nx := 6) (r1 := 0) (r2 := 0) (r3 := 0) rfl (by decide) rfl (by omega) (by omega) (by decide) q18 ?_
    refine wi_istore_n (i := 1) (e := 0) (lo2 := [(1, vi 0), (0, .ref 236)]) (nx := 7) (r1 := 0) (r2 := 0) (r3 := 0) rfl rfl ?_
    refine wi_aload_n (i := 0) (x := 236) (nx := 8) (r1 := 0) (r2 := 0) (r3 := 0) rfl rfl ?_
    refine wi_iconst (n := 1) (nx := 9) (r1 := 0) (r2 := 0) (r3 := 0) rfl ?_
    refine wi_iconst (n := 4) (nx := 10) (r1 := 0) (r2 := 0) (r3 := 0) rfl ?_
    refine wr_V (k0 := 236) (rest := []) (as := [.ref 236, vi 1, vi 4]) (nx := 13) (r1 := 223) (r2 := 2) (r3 := 11) rfl rfl rfl (of_decide_eq_true rfl) rfl rfl (by decide) rfl rfl (of_decide_eq_true rfl) (of_decide_eq_true rfl) ?_
    refine wi_aload_n (i := 0) (x := 236) (nx := 1) (r1 := 0) (r2 := 0) (r3 := 0) rfl rfl ?_
    refine wr_gr (k0 := 236) (x := 239) (nx := 4) (r1 := 11) (r2 := 14) (r3 := 0) rfl rfl (by decide) rfl ⟨rfl, rfl⟩ rfl ?_
    refine wi_iload_n (i := 1) (e := 1) (nx := 5) (r1 := 0) (r2 := 0) (r3 := 0) rfl rfl ?_
    refine wr_ia (k0 := 239) (a := 1) (f := 1) (x := 0) (nx := 6) (r1 := 0) (r2 := 0) (r3 := 0) rfl (by decide) rfl (by omega) (by omega) (by decide) q18 ?_
    refine wi_iload_n (i := 2) (e := 4) (nx := 7) (r1 := 0) (r2 := 0) (r3 := 0) rfl rfl ?_
    refine wi_icmp (cd := .ne) (nx := 10) (r1 := 15) (r2 := 0) (r3 := 0) rfl (by omega) (by omega) (fun (q19 : 0 ≠ 4) => ?_) (fun (q19 : ¬ (0 ≠ 4)) => by exfalso; omega)
    refine wi_aload_n (i := 0) (x := 236) (nx := 16) (r1 := 0) (r2 := 0) (r3 := 0) rfl rfl ?_
    refine wr_V (k0 := 236) (rest := []) (as := [.ref 236]) (nx := 19) (r1 := 219) (r2 := 0) (r3 := 11) rfl rfl rfl (of_decide_eq_true rfl) rfl rfl (by decide) rfl rfl (of_decide_eq_true rfl) (of_decide_eq_true rfl) ?_
    refine wi_aload_n (i := 0) (x := 236) (nx := 1) (r1 := 0) (r2 := 0) (r3 := 0) rfl rfl ?_
    refine wr_gi0 (k0 := 236) (x := h 236 8) (nx := 4) (r1 := 11) (r2 := 8) (r3 := 0) rfl rfl (by decide) rfl ⟨rfl, rfl⟩ rfl rfl ?_
    refine wi_if (cd := .ne) (nx := 7) (r1 := 11) (r2 := 0) (r3 := 0) rfl (by omega) (fun (q20 : (h 236 8) ≠ 0) => by exfalso; omega) (fun (q20 : ¬ ((h 236 8) ≠ 0)) => ?_)
    refine wi_iconst (n := 1) (nx := 8) (r1 := 0) (r2 := 0) (r3 := 0) rfl ?_
    refine wi_goto (nx := 11) (r1 := 12) (r2 := 0) (r3 := 0) rfl ?_
    refine wi_zreturn (nx := 13) (r1 := 0) (r2 := 0) (r3 := 0) rfl rfl (by omega) ?_
    refine wk_i ?_
    refine wi_if (cd := .eq) (nx := 22) (r1 := 26) (r2 := 0) (r3 := 0) rfl (by omega) (fun (q21 : 1 = 0) => by exfalso; omega) (fun (q21 : ¬ (1 = 0)) => ?_)
    refine wi_aload_n (i := 0) (x := 236) (nx := 23) (r1 := 0) (r2 := 0) (r3 := 0) rfl rfl ?_
    refine wr_V (k0 := 236) (rest := []) (as := [.ref 236]) (nx := 26) (r1 := 215) (r2 := 0) (r3 := 11) rfl rfl rfl (of_decide_eq_true rfl) rfl rfl (by decide) rfl rfl (of_decide_eq_true rfl) (of_decide_eq_true rfl) ?_
    refine ct_215_236 hcr  g   (show (h 236 4) ≤ (h 236 3) by omega) (show (h 236 4) = (tk_nx tB tn tp) by omega) (show 0 ≤ (tk_nx tB tn tp) by omega) (show (tk_nx tB tn tp) ≤ tn by omega) xq0 (fun h22 g22 u22 (p22_0 : (h 236 4) ≤ (h22 236 4)) (p22_1 : (h22 236 4) ≤ (h 236 3)) (p22_2 : ((h22 236 4) = tk_nx tB tn (tk_nx tB tn tp) ∧ (h22 236 5) = tk_st tB tn (tk_nx tB tn tp) ∧ TKk tB tn (tk_nx tB tn tp) ((h22 236 6)) ((h22 236 7)) ((h22 236 12)))) (p22_3 : (tk_nx tB tn tp) ≤ tk_nx tB tn (tk_nx tB tn tp) ∧ tk_nx tB tn (tk_nx tB tn tp) ≤ tn) => ?_)
    have F23 := F0.then (by decide +kernel) u22
    have b24 := gi_b (lo := 0) (hi := 800) g22 236 4 rfl
    have b25 := gi_b (lo := 0) (hi := 800) g22 236 5 rfl
    have b26 := gi_b (lo := 0) (hi := 4) g22 236 6 rfl
    have b27 := gi_b (lo := 0) (hi := 999) g22 236 7 rfl
    have b28 := gi_b (lo := -9223372036854775808) (hi := 9223372036854775807) g22 236 12 rfl
    have tkk29 := p22_2.2.2
    have tN30 := @tk_nx_b tB tn (tk_nx tB tn tp) (by omega) (by omega)
    refine wk_n ?_
    refine wi_aload_n (i := 0) (x := 236) (nx := 27) (r1 := 0) (r2 := 0) (r3 := 0) rfl rfl ?_
    refine wr_V (k0 := 236) (rest := []) (as := [.ref 236]) (nx := 30) (r1 := 219) (r2 := 0) (r3 := 11) rfl rfl rfl (of_decide_eq_true rfl) rfl rfl (by decide) rfl rfl (of_decide_eq_true rfl) (of_decide_eq_true rfl) ?_
    refine wi_aload_n (i := 0) (x := 236) (nx := 1) (r1 := 0) (r2 := 0) (r3 := 0) rfl rfl ?_
    refine wr_gi0 (k0 := 236) (x := h 236 8) (nx := 4) (r1 := 11) (r2 := 8) (r3 := 0) rfl rfl (by decide) rfl ⟨rfl, rfl⟩ rfl (u22 236 8 rfl) ?_
    refine wi_if (cd := .ne) (nx := 7) (r1 := 11) (r2 := 0) (r3 := 0) rfl (by omega) (fun (q31 : (h 236 8) ≠ 0) => by exfalso; omega) (fun (q31 : ¬ ((h 236 8) ≠ 0)) => ?_)
    refine wi_iconst (n := 1) (nx := 8) (r1 := 0) (r2 := 0) (r3 := 0) rfl ?_
    refine wi_goto (nx := 11) (r1 := 12) (r2 := 0) (r3 := 0) rfl ?_
    refine wi_zreturn (nx := 13) (r1 := 0) (r2 := 0) (r3 := 0) rfl rfl (by omega) ?_
    refine wk_i ?_
    refine wi_zreturn (nx := 31) (r1 := 0) (r2 := 0) (r3 := 0) rfl rfl (by omega) ?_
    refine wk_i ?_
    refine wi_if (cd := .ne) (nx := 16) (r1 := 17) (r2 := 0) (r3 := 0) rfl (by omega) (fun (q32 : 1 ≠ 0) => ?_) (fun (q32 : ¬ (1 ≠ 0)) => by exfalso; omega)
    refine wi_aload_n (i := 0) (x := 236) (nx := 18) (r1 := 0) (r2 := 0) (r3 := 0) rfl rfl ?_
    refine wr_gr (k0 := 236) (x := 239) (nx := 21) (r1 := 11) (r2 := 14) (r3 := 0) rfl rfl (by decide) rfl ⟨rfl, rfl⟩ rfl ?_
    refine wi_bipush (n := 15) (nx := 23) (r1 := 0) (r2 := 0) (r3 := 0) rfl (by decide) ?_
    refine wi_iload_n (i := 1) (e := 0) (nx := 24) (r1 := 0) (r2 := 0) (r3 := 0) rfl rfl ?_
    refine wr_addL (15) (nx := 25) (r1 := 0) (r2 := 0) (r3 := 0) rfl (by decide) ?_
    refine wi_aload_n (i := 0) (x := 236) (nx := 26) (r1 := 0) (r2 := 0) (r3 := 0) rfl rfl ?_
    refine wi_iconst (n := 1) (nx := 27) (r1 := 0) (r2 := 0) (r3 := 0) rfl ?_
    refine wi_bipush (n := 6) (nx := 29) (r1 := 0) (r2 := 0) (r3 := 0) rfl (by decide) ?_
    refine wr_V (k0 := 236) (rest := [vi 15, .ref 239]) (as := [.ref 236, vi 1, vi 6]) (nx := 32) (r1 := 231) (r2 := 2) (r3 := 11) rfl rfl rfl (of_decide_eq_true rfl) rfl rfl (by decide) rfl rfl (of_decide_eq_true rfl) (of_decide_eq_true rfl) ?_
    have e34 : h22 236 3 = h 236 3 := (u22 236 3 rfl)
    have e35 : h22 236 8 = h 236 8 := (u22 236 8 rfl)
    have rb37 := RefB.fr u22 rfl xq0
    refine ct_231_236 hcr  g22 1 6 (by omega) (by omega) (show (h22 236 4) ≤ (h22 236 3) by omega) (show 0 ≤ (tk_nx tB tn tp) by omega) (show (tk_nx tB tn tp) ≤ tn by omega) (show (tk_nx tB tn tp) ≤ tk_nx tB tn (tk_nx tB tn tp) ∧ tk_nx tB tn (tk_nx tB tn tp) ≤ tn from ⟨by omega, by omega⟩) (show 1 ≤ (h22 236 8) ∨ ((h22 236 4) = tk_nx tB tn (tk_nx tB tn tp) ∧ (h22 236 5) = tk_st tB tn (tk_nx tB tn tp) ∧ TKk tB tn (tk_nx tB tn tp) ((h22 236 6)) ((h22 236 7)) ((h22 236 12))) from (Or.inr (show ((h22 236 4) = tk_nx tB tn (tk_nx tB tn tp) ∧ (h22 236 5) = tk_st tB tn (tk_nx tB tn tp) ∧ TKk tB tn (tk_nx tB tn tp) ((h22 236 6)) ((h22 236 7)) ((h22 236 12))) by first | assumption | exact ⟨by omega, by omega, TKk.mv (by assumption) (by omega) (by omega) (by omega)⟩))) rb37 (fun h33 z36 g33 u33 (fz36 : 0 ≤ z36 ∧ z36 ≤ 999) (p33_0 : (1 ≤ (h22 236 8) ∧ (h33 236 8) = (h22 236 8) ∧ (h33 236 9) = (h22 236 9)) ∨ ((h22 236 8) = 0 ∧ tk_kd tB tn (tk_nx tB tn tp) = 2 ∧ 1 ≤ tk_nb tB tn (tk_nx tB tn tp) ∧ tk_nb tB tn (tk_nx tB tn tp) ≤ 6 ∧ z36 = tk_nb tB tn (tk_nx tB tn tp) ∧ (h33 236 8) = (h22 236 8) ∧ (h33 236 9) = (h22 236 9) ∧ ((h33 236 4) = tk_nx tB tn (tk_nx tB tn (tk_nx tB tn tp)) ∧ (h33 236 5) = tk_st tB tn (tk_nx tB tn (tk_nx tB tn tp)) ∧ TKk tB tn (tk_nx tB tn (tk_nx tB tn tp)) ((h33 236 6)) ((h33 236 7)) ((h33 236 12)))) ∨ ((h22 236 8) = 0 ∧ tk_kd tB tn (tk_nx tB tn tp) ≠ 2 ∧ (h33 236 8) = 1 ∧ (h33 236 9) = tk_st tB tn (tk_nx tB tn tp)) ∨ ((h22 236 8) = 0 ∧ tk_kd tB tn (tk_nx tB tn tp) = 2 ∧ (tk_nb tB tn (tk_nx tB tn tp) < 1 ∨ 6 < tk_nb tB tn (tk_nx tB tn tp)) ∧ (h33 236 8) = 2 ∧ (h33 236 9) = tk_st tB tn (tk_nx tB tn tp))) (p33_1 : (h22 236 4) ≤ (h33 236 4)) (p33_2 : (h33 236 4) ≤ (h22 236 3)) (p33_3 : 1 ≤ (h33 236 8) ∨ (h22 236 8) = 0) (p33_4 : 1 ≤ (h33 236 8) ∨ (1 ≤ z36 ∧ z36 ≤ 6)) (p33_5 : 1 ≤ (h33 236 8) ∨ (h22 236 6) = 2) => ?_)
    have F38 := F23.then (by decide +kernel) u33
    have e39 : h22 236 9 = h 236 9 := (u22 236 9 rfl)
    have b40 := gi_b (lo := 0) (hi := 5) g33 236 8 rfl
    have b41 := gi_b (lo := -2147483648) (hi := 2147483647) g33 236 9 rfl
    have b42 := gi_b (lo := 0) (hi := 800) g33 236 4 rfl
    have b43 := gi_b (lo := 0) (hi := 800) g33 236 5 rfl
    have b44 := gi_b (lo := 0) (hi := 4) g33 236 6 rfl
    have b45 := gi_b (lo := 0) (hi := 999) g33 236 7 rfl
    have b46 := gi_b (lo := -9223372036854775808) (hi := 9223372036854775807) g33 236 12 rfl
    refine wk_i ?_
    rcases p33_0 with p33_0 | p33_0 | p33_0 | p33_0
    ·
      exfalso; omega
    ·
      replace p33_3 := p33_3.resolve_left (by omega)
      replace p33_4 := p33_4.resolve_left (by omega)
      replace p33_5 := p33_5.resolve_left (by omega)
      have tkk47 := (p33_0.2.2.2.2.2.2.2).2.2
      have dk48 : tk_kd tB tn (tk_nx tB tn tp) = 2 := p33_0.2.1
      have dr49 : 1 ≤ tk_nb tB tn (tk_nx tB tn tp) ∧ tk_nb tB tn (tk_nx tB tn tp) ≤ 6 := ⟨p33_0.2.2.1, p33_0.2.2.2.1⟩
      have tN50 := @tk_nx_b tB tn (tk_nx tB tn (tk_nx tB tn tp)) (by omega) (by omega)
      refine wr_is (k0 := 239) (a := 15) (f := 15) (x := z36) (bl := 0) (bh := 999) (nx := 33) (r1 := 0) (r2 := 0) (r3 := 0) rfl (by decide) rfl (by omega) (by omega) (by decide) g33 rfl (by omega) (fun h51 g51 w51 u51 => ?_)
      have F52 := F38.then rfl u51
      refine wi_aload_n (i := 0) (x := 236) (nx := 34) (r1 := 0) (r2 := 0) (r3 := 0) rfl rfl ?_
      refine wr_V (k0 := 236) (rest := []) (as := [.ref 236]) (nx := 37) (r1 := 219) (r2 := 0) (r3 := 11) rfl rfl rfl (of_decide_eq_true rfl) rfl rfl (by decide) rfl rfl (of_decide_eq_true rfl) (of_decide_eq_true rfl) ?_
      refine wi_aload_n (i := 0) (x := 236) (nx := 1) (r1 := 0) (r2 := 0) (r3 := 0) rfl rfl ?_
      refine wr_gi0 (k0 := 236) (x := h33 236 8) (nx := 4) (r1 := 11) (r2 := 8) (r3 := 0) rfl rfl (by decide) rfl ⟨rfl, rfl⟩ rfl (u51 236 8 rfl) ?_
      refine wi_if (cd := .ne) (nx := 7) (r1 := 11) (r2 := 0) (r3 := 0) rfl (by omega) (fun (q53 : (h33 236 8) ≠ 0) => by exfalso; omega) (fun (q53 : ¬ ((h33 236 8) ≠ 0)) => ?_)
      refine wi_iconst (n := 1) (nx := 8) (r1 := 0) (r2 := 0) (r3 := 0) rfl ?_
      refine wi_goto (nx := 11) (r1 := 12) (r2 := 0) (r3 := 0) rfl ?_
      refine wi_zreturn (nx := 13) (r1 := 0) (r2 := 0) (r3 := 0) rfl rfl (by omega) ?_
      refine wk_i ?_
      refine wi_if (cd := .eq) (nx := 40) (r1 := 50) (r2 := 0) (r3 := 0) rfl (by omega) (fun (q54 : 1 = 0) => by exfalso; omega) (fun (q54 : ¬ (1 = 0)) => ?_)
      refine wi_aload_n (i := 0) (x := 236) (nx := 41) (r1 := 0) (r2 := 0) (r3 := 0) rfl rfl ?_
      refine wr_gr (k0 := 236) (x := 239) (nx := 44) (r1 := 11) (r2 := 14) (r3 := 0) rfl rfl (by decide) rfl ⟨rfl, rfl⟩ rfl ?_
      refine wi_iconst (n := 1) (nx := 45) (r1 := 0) (r2 := 0) (r3 := 0) rfl ?_
      refine wi_dup2 (nx := 46) (r1 := 0) (r2 := 0) (r3 := 0) rfl rfl rfl ?_
      refine wr_ia (k0 := 239) (a := 1) (f := 1) (x := 0) (nx := 47) (r1 := 0) (r2 := 0) (r3 := 0) rfl (by decide) rfl (by omega) (by omega) (by decide) ((u51 239 1 rfl).trans ((u33 239 1 rfl).trans ((u22 239 1 rfl).trans q18))) ?_
      refine wi_iconst (n := 1) (nx := 48) (r1 := 0) (r2 := 0) (r3 := 0) rfl ?_
      refine wr_addL (1) (nx := 49) (r1 := 0) (r2 := 0) (r3 := 0) rfl (by decide) ?_
      refine wr_is (k0 := 239) (a := 1) (f := 1) (x := 1) (bl := 0) (bh := 4) (nx := 50) (r1 := 0) (r2 := 0) (r3 := 0) rfl (by decide) rfl (by omega) (by omega) (by decide) g51 rfl (by omega) (fun h55 g55 w55 u55 => ?_)
      have F56 := F52.then rfl u55
      refine wi_return (nx := 51) (r1 := 0) (r2 := 0) (r3 := 0) rfl rfl ?_
      have e57 : h55 236 4 = h33 236 4 := ((u55 236 4 rfl).trans (u51 236 4 rfl))
      have e58 : h55 236 8 = h33 236 8 := ((u55 236 8 rfl).trans (u51 236 8 rfl))
      have e59 : h55 239 5 = h 239 5 := ((u55 239 5 rfl).trans ((u51 239 5 rfl).trans ((u33 239 5 rfl).trans (u22 239 5 rfl))))
      have e60 : h55 239 7 = h 239 7 := ((u55 239 7 rfl).trans ((u51 239 7 rfl).trans ((u33 239 7 rfl).trans (u22 239 7 rfl))))
      have e61 : h55 239 15 = z36 := ((u55 239 15 rfl).trans w51)
      have e62 : h55 239 16 = h 239 16 := ((u55 239 16 rfl).trans ((u51 239 16 rfl).trans ((u33 239 16 rfl).trans (u22 239 16 rfl))))
      have e63 : h55 239 17 = h 239 17 := ((u55 239 17 rfl).trans ((u51 239 17 rfl).trans ((u33 239 17 rfl).trans (u22 239 17 rfl))))
      have e64 : h55 239 18 = h 239 18 := ((u55 239 18 rfl).trans ((u51 239 18 rfl).trans ((u33 239 18 rfl).trans (u22 239 18 rfl))))
      have e65 : h55 236 9 = h33 236 9 := ((u55 236 9 rfl).trans (u51 236 9 rfl))
      have e66 : h55 239 0 = h 239 0 := ((u55 239 0 rfl).trans ((u51 239 0 rfl).trans ((u33 239 0 rfl).trans (u22 239 0 rfl))))
      have e67 : h55 239 1 = 1 := w55
      have e68 : h55 239 2 = h 239 2 := ((u55 239 2 rfl).trans ((u51 239 2 rfl).trans ((u33 239 2 rfl).trans (u22 239 2 rfl))))
      have b69 := gi_b (lo := 0) (hi := 999) g 239 3 rfl
      have e70 : h55 239 3 = h 239 3 := ((u55 239 3 rfl).trans ((u51 239 3 rfl).trans ((u33 239 3 rfl).trans (u22 239 3 rfl))))
      have b71 := gi_b (lo := 0) (hi := 999) g 239 4 rfl
      have e72 : h55 239 4 = h 239 4 := ((u55 239 4 rfl).trans ((u51 239 4 rfl).trans ((u33 239 4 rfl).trans (u22 239 4 rfl))))
      have b73 := gi_b (lo := 0) (hi := 999) g 239 6 rfl
      have e74 : h55 239 6 = h 239 6 := ((u55 239 6 rfl).trans ((u51 239 6 rfl).trans ((u33 239 6 rfl).trans (u22 239 6 rfl))))
      have b75 := gi_b (lo := 0) (hi := 999) g 239 8 rfl
      have e76 : h55 239 8 = h 239 8 := ((u55 239 8 rfl).trans ((u51 239 8 rfl).trans ((u33 239 8 rfl).trans (u22 239 8 rfl))))
      have b77 := gi_b (lo := 0) (hi := 999) g 239 9 rfl
      have e78 : h55 239 9 = h 239 9 := ((u55 239 9 rfl).trans ((u51 239 9 rfl).trans ((u33 239 9 rfl).trans (u22 239 9 rfl))))
      have b79 := gi_b (lo := 0) (hi := 1) g 236 23 rfl
      have e80 : h55 236 23 = h 236 23 := ((u55 236 23 rfl).trans ((u51 236 23 rfl).trans ((u33 236 23 rfl).trans (u22 236 23 rfl))))
      have b81 := gi_b (lo := 0) (hi := 1) g 236 24 rfl
      have e82 : h55 236 24 = h 236 24 := ((u55 236 24 rfl).trans ((u51 236 24 rfl).trans ((u33 236 24 rfl).trans (u22 236 24 rfl))))
      have b83 := gi_b (lo := 0) (hi := 1) g 236 25 rfl
      have e84 : h55 236 25 = h 236 25 := ((u55 236 25 rfl).trans ((u51 236 25 rfl).trans ((u33 236 25 rfl).trans (u22 236 25 rfl))))
      have b85 := gi_b (lo := 0) (hi := 1) g 236 26 rfl
      have e86 : h55 236 26 = h 236 26 := ((u55 236 26 rfl).trans ((u51 236 26 rfl).trans ((u33 236 26 rfl).trans (u22 236 26 rfl))))
      have e87 : h55 236 5 = h33 236 5 := ((u55 236 5 rfl).trans (u51 236 5 rfl))
      have e88 : h55 236 6 = h33 236 6 := ((u55 236 6 rfl).trans (u51 236 6 rfl))
      have e89 : h55 236 7 = h33 236 7 := ((u55 236 7 rfl).trans (u51 236 7 rfl))
      have e90 : h55 236 12 = h33 236 12 := ((u55 236 12 rfl).trans (u51 236 12 rfl))
      exact k h55 g55 F56 (show (h 236 4) ≤ (h55 236 4) by omega) (show (h55 236 4) ≤ (h 236 3) by omega) (show 1 ≤ (h55 236 8) ∨ ((h55 239 5) ≤ 9 ∧ 1 ≤ (h55 239 5) ∧ (h55 239 7) ≤ 3 ∧ (h55 239 15) ≤ 6 ∧ (h55 239 16) ≤ 6 ∧ (h55 239 17) ≤ 6 ∧ (h55 239 18) ≤ 6) from (Or.inr (⟨by omega, by omega, by omega, by omega, by omega, by omega, by omega⟩))) (show (h55 236 8) ≠ 0 ∨ (h55 236 9) = -1 from (Or.inr (by omega))) (by unfold tk_lane; (repeat (first | unfold tk_num | unfold tk_lane)); (try dsimp only); rw [if_neg (by omega)]; (repeat (first | unfold tk_num | unfold tk_lane)); (try dsimp only); rw [if_pos dk48]; (repeat (first | unfold tk_num | unfold tk_lane)); (try dsimp only); rw [if_pos dr49]; (repeat (first | unfold tk_num | unfold tk_lane)); (try dsimp only); exact tk_ORs (by omega) (by first | assumption | exact ⟨by omega, by omega, TKk.mv (by assumption) (by omega) (by omega) (by omega)⟩) (CVr.lane (c := (h 239 1).toNat) xq1 (by omega) (by omega) (fun i _ _ => ((u55 239 i (fn_i (by omega) fn_0)).trans ((u51 239 i (fn_i (by omega) fn_0)).trans ((u33 239 i (fo_nk rfl)).trans (u22 239 i (fo_nk rfl)))))) (fun i _ _ => ((u55 236 i (fn_a (by omega) fn_0)).trans ((u51 236 i (fn_a (by omega) fn_0)).trans ((u33 236 i (fo_gk (m := 12) (by omega) rfl)).trans (u22 236 i (fo_gk (m := 12) (by omega) rfl)))))) (by rw [show 15 + (h 239 1).toNat = 15 by omega]; exact ((u55 239 15 rfl).trans w51).trans (by omega)) (fun i => ((u55 244 i (fn_a (by omega) fn_0)).trans ((u51 244 i (fn_a (by omega) fn_0)).trans ((u33 244 i (fo_nk rfl)).trans (u22 244 i (fo_nk rfl)))))) (by omega) (by omega) (by omega)))
    ·
      clear p33_3
      clear p33_4
      clear p33_5
      have dn47 : TKn (tk_kd tB tn (tk_nx tB tn tp) = 2) := p33_0.2.1
      replace p33_0 : _ := And.intro (p33_0.1) (And.intro (p33_0.2.2.1) (p33_0.2.2.2))
      refine wr_is (k0 := 239) (a := 15) (f := 15) (x := z36) (bl := 0) (bh := 999) (nx := 33) (r1 := 0) (r2 := 0) (r3 := 0) rfl (by decide) rfl (by omega) (by omega) (by decide) g33 rfl (by omega) (fun h48 g48 w48 u48 => ?_)
      have F49 := F38.then rfl u48
      refine wi_aload_n (i := 0) (x := 236) (nx := 34) (r1 := 0) (r2 := 0) (r3 := 0) rfl rfl ?_
      refine wr_V (k0 := 236) (rest := []) (as := [.ref 236]) (nx := 37) (r1 := 219) (r2 := 0) (r3 := 11) rfl rfl rfl (of_decide_eq_true rfl) rfl rfl (by decide) rfl rfl (of_decide_eq_true rfl) (of_decide_eq_true rfl) ?_
      refine wi_aload_n (i := 0) (x := 236) (nx := 1) (r1 := 0) (r2 := 0) (r3 := 0) rfl rfl ?_
      refine wr_gi0 (k0 := 236) (x := h33 236 8) (nx := 4) (r1 := 11) (r2 := 8) (r3 := 0) rfl rfl (by decide) rfl ⟨rfl, rfl⟩ rfl (u48 236 8 rfl) ?_
      refine wi_if (cd := .ne) (nx := 7) (r1 := 11) (r2 := 0) (r3 := 0) rfl (by omega) (fun (q50 : (h33 236 8) ≠ 0) => ?_) (fun (q50 : ¬ ((h33 236 8) ≠ 0)) => by exfalso; omega)
      refine wi_iconst (n := 0) (nx := 12) (r1 := 0) (r2 := 0) (r3 := 0) rfl ?_
      refine wi_zreturn (nx := 13) (r1 := 0) (r2 := 0) (r3 := 0) rfl rfl (by omega) ?_
      refine wk_i ?_
      refine wi_if (cd := .eq) (nx := 40) (r1 := 50) (r2 := 0) (r3 := 0) rfl (by omega) (fun (q51 : 0 = 0) => ?_) (fun (q51 : ¬ (0 = 0)) => by exfalso; omega)
      refine wi_return (nx := 51) (r1 := 0) (r2 := 0) (r3 := 0) rfl rfl ?_
      have e52 : h48 236 4 = h33 236 4 := (u48 236 4 rfl)
      have e53 : h48 236 8 = h33 236 8 := (u48 236 8 rfl)
      have e54 : h48 239 5 = h 239 5 := ((u48 239 5 rfl).trans ((u33 239 5 rfl).trans (u22 239 5 rfl)))
      have e55 : h48 239 7 = h 239 7 := ((u48 239 7 rfl).trans ((u33 239 7 rfl).trans (u22 239 7 rfl)))
      have e56 : h48 239 15 = z36 := w48
      have e57 : h48 239 16 = h 239 16 := ((u48 239 16 rfl).trans ((u33 239 16 rfl).trans (u22 239 16 rfl)))
      have e58 : h48 239 17 = h 239 17 := ((u48 239 17 rfl).trans ((u33 239 17 rfl).trans (u22 239 17 rfl)))
      have e59 : h48 239 18 = h 239 18 := ((u48 239 18 rfl).trans ((u33 239 18 rfl).trans (u22 239 18 rfl)))
      have e60 : h48 236 9 = h33 236 9 := (u48 236 9 rfl)
      exact k h48 g48 F49 (show (h 236 4) ≤ (h48 236 4) by omega) (show (h48 236 4) ≤ (h 236 3) by omega) (show 1 ≤ (h48 236 8) ∨ ((h48 239 5) ≤ 9 ∧ 1 ≤ (h48 239 5) ∧ (h48 239 7) ≤ 3 ∧ (h48 239 15) ≤ 6 ∧ (h48 239 16) ≤ 6 ∧ (h48 239 17) ≤ 6 ∧ (h48 239 18) ≤ 6) from (Or.inl (by omega))) (show (h48 236 8) ≠ 0 ∨ (h48 236 9) = -1 from (Or.inl (by omega))) (by unfold tk_lane; (repeat (first | unfold tk_num | unfold tk_lane)); (try dsimp only); rw [if_neg (by omega)]; (repeat (first | unfold tk_num | unfold tk_lane)); (try dsimp only); rw [if_neg dn47.no]; (repeat (first | unfold tk_num | unfold tk_lane)); (try dsimp only); exact tk_ORe (by omega) (by omega) (by omega))
    ·
      clear p33_3
      clear p33_4
      clear p33_5
      have dk47 : tk_kd tB tn (tk_nx tB tn tp) = 2 := p33_0.2.1
      have dr48 : TKn (1 ≤ tk_nb tB tn (tk_nx tB tn tp) ∧ tk_nb tB tn (tk_nx tB tn tp) ≤ 6) := tkn_r p33_0.2.2.1
      replace p33_0 : _ := And.intro (p33_0.1) (And.intro (p33_0.2.1) (And.intro (p33_0.2.2.2.1) (p33_0.2.2.2.2)))
      refine wr_is (k0 := 239) (a := 15) (f := 15) (x := z36) (bl := 0) (bh := 999) (nx := 33) (r1 := 0) (r2 := 0) (r3 := 0) rfl (by decide) rfl (by omega) (by omega) (by decide) g33 rfl (by omega) (fun h49 g49 w49 u49 => ?_)
      have F50 := F38.then rfl u49
      refine wi_aload_n (i := 0) (x := 236) (nx := 34) (r1 := 0) (r2 := 0) (r3 := 0) rfl rfl ?_
      refine wr_V (k0 := 236) (rest := []) (as := [.ref 236]) (nx := 37) (r1 := 219) (r2 := 0) (r3 := 11) rfl rfl rfl (of_decide_eq_true rfl) rfl rfl (by decide) rfl rfl (of_decide_eq_true rfl) (of_decide_eq_true rfl) ?_
      refine wi_aload_n (i := 0) (x := 236) (nx := 1) (r1 := 0) (r2 := 0) (r3 := 0) rfl rfl ?_
      refine wr_gi0 (k0 := 236) (x := h33 236 8) (nx := 4) (r1 := 11) (r2 := 8) (r3 := 0) rfl rfl (by decide) rfl ⟨rfl, rfl⟩ rfl (u49 236 8 rfl) ?_
      refine wi_if (cd := .ne) (nx := 7) (r1 := 11) (r2 := 0) (r3 := 0) rfl (by omega) (fun (q51 : (h33 236 8) ≠ 0) => ?_) (fun (q51 : ¬ ((h33 236 8) ≠ 0)) => by exfalso; omega)
      refine wi_iconst (n := 0) (nx := 12) (r1 := 0) (r2 := 0) (r3 := 0) rfl ?_
      refine wi_zreturn (nx := 13) (r1 := 0) (r2 := 0) (r3 := 0) rfl rfl (by omega) ?_
      refine wk_i ?_
      refine wi_if (cd := .eq) (nx := 40) (r1 := 50) (r2 := 0) (r3 := 0) rfl (by omega) (fun (q52 : 0 = 0) => ?_) (fun (q52 : ¬ (0 = 0)) => by exfalso; omega)
      refine wi_return (nx := 51) (r1 := 0) (r2 := 0) (r3 := 0) rfl rfl ?_
      have e53 : h49 236 4 = h33 236 4 := (u49 236 4 rfl)
      have e54 : h49 236 8 = h33 236 8 := (u49 236 8 rfl)
      have e55 : h49 239 5 = h 239 5 := ((u49 239 5 rfl).trans ((u33 239 5 rfl).trans (u22 239 5 rfl)))
      have e56 : h49 239 7 = h 239 7 := ((u49 239 7 rfl).trans ((u33 239 7 rfl).trans (u22 239 7 rfl)))
      have e57 : h49 239 15 = z36 := w49
      have e58 : h49 239 16 = h 239 16 := ((u49 239 16 rfl).trans ((u33 239 16 rfl).trans (u22 239 16 rfl)))
      have e59 : h49 239 17 = h 239 17 := ((u49 239 17 rfl).trans ((u33 239 17 rfl).trans (u22 239 17 rfl)))
      have e60 : h49 239 18 = h 239 18 := ((u49 239 18 rfl).trans ((u33 239 18 rfl).trans (u22 239 18 rfl)))
      have e61 : h49 236 9 = h33 236 9 := (u49 236 9 rfl)
      exact k h49 g49 F50 (show (h 236 4) ≤ (h49 236 4) by omega) (show (h49 236 4) ≤ (h 236 3) by omega) (show 1 ≤ (h49 236 8) ∨ ((h49 239 5) ≤ 9 ∧ 1 ≤ (h49 239 5) ∧ (h49 239 7) ≤ 3 ∧ (h49 239 15) ≤ 6 ∧ (h49 239 16) ≤ 6 ∧ (h49 239 17) ≤ 6 ∧ (h49 239 18) ≤ 6) from (Or.inl (by omega))) (show (h49 236 8) ≠ 0 ∨ (h49 236 9) = -1 from (Or.inl (by omega))) (by unfold tk_lane; (repeat (first | unfold tk_num | unfold tk_lane)); (try dsimp only); rw [if_neg (by omega)]; (repeat (first | unfold tk_num | unfold tk_lane)); (try dsimp only); rw [if_pos dk47]; (repeat (first | unfold tk_num | unfold tk_lane)); (try dsimp only); rw [if_neg dr48.no]; (repeat (first | unfold tk_num | unfold tk_lane)); (try dsimp only); exact tk_ORe (by omega) (by omega) (by omega))
  ·
    refine wr_ia (k0 := 239) (a := 1) (f := 1) (x := 1) (nx := 6) (r1 := 0) (r2 := 0) (r3 := 0) rfl (by decide) rfl (by omega) (by omega) (by decide) q18 ?_
    refine wi_istore_n (i := 1) (e := 1) (lo2 := [(1, vi 1), (0, .ref 236)]) (nx := 7) (r1 := 0) (r2 := 0) (r3 := 0) rfl rfl ?_
    refine wi_aload_n (i := 0) (x := 236) (nx := 8) (r1 := 0) (r2 := 0) (r3 := 0) rfl rfl ?_
    refine wi_iconst (n := 1) (nx := 9) (r1 := 0) (r2 := 0) (r3 := 0) rfl ?_
    refine wi_iconst (n := 4) (nx := 10) (r1 := 0) (r2 := 0) (r3 := 0) rfl ?_
    refine wr_V (k0 := 236) (rest := []) (as := [.ref 236, vi 1, vi 4]) (nx := 13) (r1 := 223) (r2 := 2) (r3 := 11) rfl rfl rfl (of_decide_eq_true rfl) rfl rfl (by decide) rfl rfl (of_decide_eq_true rfl) (of_decide_eq_true rfl) ?_
    refine wi_aload_n (i := 0) (x := 236) (nx := 1) (r1 := 0) (r2 := 0) (r3 := 0) rfl rfl ?_
    refine wr_gr (k0 := 236) (x := 239) (nx := 4) (r1 := 11) (r2 := 14) (r3 := 0) rfl rfl (by decide) rfl ⟨rfl, rfl⟩ rfl ?_
    refine wi_iload_n (i := 1) (e := 1) (nx := 5) (r1 := 0) (r2 := 0) (r3 := 0) rfl rfl ?_
    refine wr_ia (k0 := 239) (a := 1) (f := 1) (x := 1) (nx := 6) (r1 := 0) (r2 := 0) (r3 := 0) rfl (by decide) rfl (by omega) (by omega) (by decide) q18 ?_
    refine wi_iload_n (i := 2) (e := 4) (nx := 7) (r1 := 0) (r2 := 0) (r3 := 0) rfl rfl ?_
    refine wi_icmp (cd := .ne) (nx := 10) (r1 := 15) (r2 := 0) (r3 := 0) rfl (by omega) (by omega) (fun (q19 : 1 ≠ 4) => ?_) (fun (q19 : ¬ (1 ≠ 4)) => by exfalso; omega)
    refine wi_aload_n (i := 0) (x := 236) (nx := 16) (r1 := 0) (r2 := 0) (r3 := 0) rfl rfl ?_
    refine wr_V (k0 := 236) (rest := []) (as := [.ref 236]) (nx := 19) (r1 := 219) (r2 := 0) (r3 := 11) rfl rfl rfl (of_decide_eq_true rfl) rfl rfl (by decide) rfl rfl (of_decide_eq_true rfl) (of_decide_eq_true rfl) ?_
    refine wi_aload_n (i := 0) (x := 236) (nx := 1) (r1 := 0) (r2 := 0) (r3 := 0) rfl rfl ?_
    refine wr_gi0 (k0 := 236) (x := h 236 8) (nx := 4) (r1 := 11) (r2 := 8) (r3 := 0) rfl rfl (by decide) rfl ⟨rfl, rfl⟩ rfl rfl ?_
    refine wi_if (cd := .ne) (nx := 7) (r1 := 11) (r2 := 0) (r3 := 0) rfl (by omega) (fun (q20 : (h 236 8) ≠ 0) => by exfalso; omega) (fun (q20 : ¬ ((h 236 8) ≠ 0)) => ?_)
    refine wi_iconst (n := 1) (nx := 8) (r1 := 0) (r2 := 0) (r3 := 0) rfl ?_
    refine wi_goto (nx := 11) (r1 := 12) (r2 := 0) (r3 := 0) rfl ?_
    refine wi_zreturn (nx := 13) (r1 := 0) (r2 := 0) (r3 := 0) rfl rfl (by omega) ?_
    refine wk_i ?_
    refine wi_if (cd := .eq) (nx := 22) (r1 := 26) (r2 := 0) (r3 := 0) rfl (by omega) (fun (q21 : 1 = 0) => by exfalso; omega) (fun (q21 : ¬ (1 = 0)) => ?_)
    refine wi_aload_n (i := 0) (x := 236) (nx := 23) (r1 := 0) (r2 := 0) (r3 := 0) rfl rfl ?_
    refine wr_V (k0 := 236) (rest := []) (as := [.ref 236]) (nx := 26) (r1 := 215) (r2 := 0) (r3 := 11) rfl rfl rfl (of_decide_eq_true rfl) rfl rfl (by decide) rfl rfl (of_decide_eq_true rfl) (of_decide_eq_true rfl) ?_
    refine ct_215_236 hcr  g   (show (h 236 4) ≤ (h 236 3) by omega) (show (h 236 4) = (tk_nx tB tn tp) by omega) (show 0 ≤ (tk_nx tB tn tp) by omega) (show (tk_nx tB tn tp) ≤ tn by omega) xq0 (fun h22 g22 u22 (p22_0 : (h 236 4) ≤ (h22 236 4)) (p22_1 : (h22 236 4) ≤ (h 236 3)) (p22_2 : ((h22 236 4) = tk_nx tB tn (tk_nx tB tn tp) ∧ (h22 236 5) = tk_st tB tn (tk_nx tB tn tp) ∧ TKk tB tn (tk_nx tB tn tp) ((h22 236 6)) ((h22 236 7)) ((h22 236 12)))) (p22_3 : (tk_nx tB tn tp) ≤ tk_nx tB tn (tk_nx tB tn tp) ∧ tk_nx tB tn (tk_nx tB tn tp) ≤ tn) => ?_)
    have F23 := F0.then (by decide +kernel) u22
    have b24 := gi_b (lo := 0) (hi := 800) g22 236 4 rfl
    have b25 := gi_b (lo := 0) (hi := 800) g22 236 5 rfl
    have b26 := gi_b (lo := 0) (hi := 4) g22 236 6 rfl
    have b27 := gi_b (lo := 0) (hi := 999) g22 236 7 rfl
    have b28 := gi_b (lo := -9223372036854775808) (hi := 9223372036854775807) g22 236 12 rfl
    have tkk29 := p22_2.2.2
    have tN30 := @tk_nx_b tB tn (tk_nx tB tn tp) (by omega) (by omega)
    refine wk_n ?_
    refine wi_aload_n (i := 0) (x := 236) (nx := 27) (r1 := 0) (r2 := 0) (r3 := 0) rfl rfl ?_
    refine wr_V (k0 := 236) (rest := []) (as := [.ref 236]) (nx := 30) (r1 := 219) (r2 := 0) (r3 := 11) rfl rfl rfl (of_decide_eq_true rfl) rfl rfl (by decide) rfl rfl (of_decide_eq_true rfl) (of_decide_eq_true rfl) ?_
    refine wi_aload_n (i := 0) (x := 236) (nx := 1) (r1 := 0) (r2 := 0) (r3 := 0) rfl rfl ?_
    refine wr_gi0 (k0 := 236) (x := h 236 8) (nx := 4) (r1 := 11) (r2 := 8) (r3 := 0) rfl rfl (by decide) rfl ⟨rfl, rfl⟩ rfl (u22 236 8 rfl) ?_
    refine wi_if (cd := .ne) (nx := 7) (r1 := 11) (r2 := 0) (r3 := 0) rfl (by omega) (fun (q31 : (h 236 8) ≠ 0) => by exfalso; omega) (fun (q31 : ¬ ((h 236 8) ≠ 0)) => ?_)
    refine wi_iconst (n := 1) (nx := 8) (r1 := 0) (r2 := 0) (r3 := 0) rfl ?_
    refine wi_goto (nx := 11) (r1 := 12) (r2 := 0) (r3 := 0) rfl ?_
    refine wi_zreturn (nx := 13) (r1 := 0) (r2 := 0) (r3 := 0) rfl rfl (by omega) ?_
    refine wk_i ?_
    refine wi_zreturn (nx := 31) (r1 := 0) (r2 := 0) (r3 := 0) rfl rfl (by omega) ?_
    refine wk_i ?_
    refine wi_if (cd := .ne) (nx := 16) (r1 := 17) (r2 := 0) (r3 := 0) rfl (by omega) (fun (q32 : 1 ≠ 0) => ?_) (fun (q32 : ¬ (1 ≠ 0)) => by exfalso; omega)
    refine wi_aload_n (i := 0) (x := 236) (nx := 18) (r1 := 0) (r2 := 0) (r3 := 0) rfl rfl ?_
    refine wr_gr (k0 := 236) (x := 239) (nx := 21) (r1 := 11) (r2 := 14) (r3 := 0) rfl rfl (by decide) rfl ⟨rfl, rfl⟩ rfl ?_
    refine wi_bipush (n := 15) (nx := 23) (r1 := 0) (r2 := 0) (r3 := 0) rfl (by decide) ?_
    refine wi_iload_n (i := 1) (e := 1) (nx := 24) (r1 := 0) (r2 := 0) (r3 := 0) rfl rfl ?_
    refine wr_addL (16) (nx := 25) (r1 := 0) (r2 := 0) (r3 := 0) rfl (by decide) ?_
    refine wi_aload_n (i := 0) (x := 236) (nx := 26) (r1 := 0) (r2 := 0) (r3 := 0) rfl rfl ?_
    refine wi_iconst (n := 1) (nx := 27) (r1 := 0) (r2 := 0) (r3 := 0) rfl ?_
    refine wi_bipush (n := 6) (nx := 29) (r1 := 0) (r2 := 0) (r3 := 0) rfl (by decide) ?_
    refine wr_V (k0 := 236) (rest := [vi 16, .ref 239]) (as := [.ref 236, vi 1, vi 6]) (nx := 32) (r1 := 231) (r2 := 2) (r3 := 11) rfl rfl rfl (of_decide_eq_true rfl) rfl rfl (by decide) rfl rfl (of_decide_eq_true rfl) (of_decide_eq_true rfl) ?_
    have e34 : h22 236 3 = h 236 3 := (u22 236 3 rfl)
    have e35 : h22 236 8 = h 236 8 := (u22 236 8 rfl)
    have rb37 := RefB.fr u22 rfl xq0
    refine ct_231_236 hcr  g22 1 6 (by omega) (by omega) (show (h22 236 4) ≤ (h22 236 3) by omega) (show 0 ≤ (tk_nx tB tn tp) by omega) (show (tk_nx tB tn tp) ≤ tn by omega) (show (tk_nx tB tn tp) ≤ tk_nx tB tn (tk_nx tB tn tp) ∧ tk_nx tB tn (tk_nx tB tn tp) ≤ tn from ⟨by omega, by omega⟩) (show 1 ≤ (h22 236 8) ∨ ((h22 236 4) = tk_nx tB tn (tk_nx tB tn tp) ∧ (h22 236 5) = tk_st tB tn (tk_nx tB tn tp) ∧ TKk tB tn (tk_nx tB tn tp) ((h22 236 6)) ((h22 236 7)) ((h22 236 12))) from (Or.inr (show ((h22 236 4) = tk_nx tB tn (tk_nx tB tn tp) ∧ (h22 236 5) = tk_st tB tn (tk_nx tB tn tp) ∧ TKk tB tn (tk_nx tB tn tp) ((h22 236 6)) ((h22 236 7)) ((h22 236 12))) by first | assumption | exact ⟨by omega, by omega, TKk.mv (by assumption) (by omega) (by omega) (by omega)⟩))) rb37 (fun h33 z36 g33 u33 (fz36 : 0 ≤ z36 ∧ z36 ≤ 999) (p33_0 : (1 ≤ (h22 236 8) ∧ (h33 236 8) = (h22 236 8) ∧ (h33 236 9) = (h22 236 9)) ∨ ((h22 236 8) = 0 ∧ tk_kd tB tn (tk_nx tB tn tp) = 2 ∧ 1 ≤ tk_nb tB tn (tk_nx tB tn tp) ∧ tk_nb tB tn (tk_nx tB tn tp) ≤ 6 ∧ z36 = tk_nb tB tn (tk_nx tB tn tp) ∧ (h33 236 8) = (h22 236 8) ∧ (h33 236 9) = (h22 236 9) ∧ ((h33 236 4) = tk_nx tB tn (tk_nx tB tn (tk_nx tB tn tp)) ∧ (h33 236 5) = tk_st tB tn (tk_nx tB tn (tk_nx tB tn tp)) ∧ TKk tB tn (tk_nx tB tn (tk_nx tB tn tp)) ((h33 236 6)) ((h33 236 7)) ((h33 236 12)))) ∨ ((h22 236 8) = 0 ∧ tk_kd tB tn (tk_nx tB tn tp) ≠ 2 ∧ (h33 236 8) = 1 ∧ (h33 236 9) = tk_st tB tn (tk_nx tB tn tp)) ∨ ((h22 236 8) = 0 ∧ tk_kd tB tn (tk_nx tB tn tp) = 2 ∧ (tk_nb tB tn (tk_nx tB tn tp) < 1 ∨ 6 < tk_nb tB tn (tk_nx tB tn tp)) ∧ (h33 236 8) = 2 ∧ (h33 236 9) = tk_st tB tn (tk_nx tB tn tp))) (p33_1 : (h22 236 4) ≤ (h33 236 4)) (p33_2 : (h33 236 4) ≤ (h22 236 3)) (p33_3 : 1 ≤ (h33 236 8) ∨ (h22 236 8) = 0) (p33_4 : 1 ≤ (h33 236 8) ∨ (1 ≤ z36 ∧ z36 ≤ 6)) (p33_5 : 1 ≤ (h33 236 8) ∨ (h22 236 6) = 2) => ?_)
    have F38 := F23.then (by decide +kernel) u33
    have e39 : h22 236 9 = h 236 9 := (u22 236 9 rfl)
    have b40 := gi_b (lo := 0) (hi := 5) g33 236 8 rfl
    have b41 := gi_b (lo := -2147483648) (hi := 2147483647) g33 236 9 rfl
    have b42 := gi_b (lo := 0) (hi := 800) g33 236 4 rfl
    have b43 := gi_b (lo := 0) (hi := 800) g33 236 5 rfl
    have b44 := gi_b (lo := 0) (hi := 4) g33 236 6 rfl
    have b45 := gi_b (lo := 0) (hi := 999) g33 236 7 rfl
    have b46 := gi_b (lo := -9223372036854775808) (hi := 9223372036854775807) g33 236 12 rfl
    refine wk_i ?_
    rcases p33_0 with p33_0 | p33_0 | p33_0 | p33_0
    ·
      exfalso; omega
    ·
      replace p33_3 := p33_3.resolve_left (by omega)
      replace p33_4 := p33_4.resolve_left (by omega)
      replace p33_5 := p33_5.resolve_left (by omega)
      have tkk47 := (p33_0.2.2.2.2.2.2.2).2.2
      have dk48 : tk_kd tB tn (tk_nx tB tn tp) = 2 := p33_0.2.1
      have dr49 : 1 ≤ tk_nb tB tn (tk_nx tB tn tp) ∧ tk_nb tB tn (tk_nx tB tn tp) ≤ 6 := ⟨p33_0.2.2.1, p33_0.2.2.2.1⟩
      have tN50 := @tk_nx_b tB tn (tk_nx tB tn (tk_nx tB tn tp)) (by omega) (by omega)
      refine wr_is (k0 := 239) (a := 16) (f := 16) (x := z36) (bl := 0) (bh := 999) (nx := 33) (r1 := 0) (r2 := 0) (r3 := 0) rfl (by decide) rfl (by omega) (by omega) (by decide) g33 rfl (by omega) (fun h51 g51 w51 u51 => ?_)
      have F52 := F38.then rfl u51
      refine wi_aload_n (i := 0) (x := 236) (nx := 34) (r1 := 0) (r2 := 0) (r3 := 0) rfl rfl ?_
      refine wr_V (k0 := 236) (rest := []) (as := [.ref 236]) (nx := 37) (r1 := 219) (r2 := 0) (r3 := 11) rfl rfl rfl (of_decide_eq_true rfl) rfl rfl (by decide) rfl rfl (of_decide_eq_true rfl) (of_decide_eq_true rfl) ?_
      refine wi_aload_n (i := 0) (x := 236) (nx := 1) (r1 := 0) (r2 := 0) (r3 := 0) rfl rfl ?_
      refine wr_gi0 (k0 := 236) (x := h33 236 8) (nx := 4) (r1 := 11) (r2 := 8) (r3 := 0) rfl rfl (by decide) rfl ⟨rfl, rfl⟩ rfl (u51 236 8 rfl) ?_
      refine wi_if (cd := .ne) (nx := 7) (r1 := 11) (r2 := 0) (r3 := 0) rfl (by omega) (fun (q53 : (h33 236 8) ≠ 0) => by exfalso; omega) (fun (q53 : ¬ ((h33 236 8) ≠ 0)) => ?_)
      refine wi_iconst (n := 1) (nx := 8) (r1 := 0) (r2 := 0) (r3 := 0) rfl ?_
      refine wi_goto (nx := 11) (r1 := 12) (r2 := 0) (r3 := 0) rfl ?_
      refine wi_zreturn (nx := 13) (r1 := 0) (r2 := 0) (r3 := 0) rfl rfl (by omega) ?_
      refine wk_i ?_
      refine wi_if (cd := .eq) (nx := 40) (r1 := 50) (r2 := 0) (r3 := 0) rfl (by omega) (fun (q54 : 1 = 0) => by exfalso; omega) (fun (q54 : ¬ (1 = 0)) => ?_)
      refine wi_aload_n (i := 0) (x := 236) (nx := 41) (r1 := 0) (r2 := 0) (r3 := 0) rfl rfl ?_
      refine wr_gr (k0 := 236) (x := 239) (nx := 44) (r1 := 11) (r2 := 14) (r3 := 0) rfl rfl (by decide) rfl ⟨rfl, rfl⟩ rfl ?_
      refine wi_iconst (n := 1) (nx := 45) (r1 := 0) (r2 := 0) (r3 := 0) rfl ?_
      refine wi_dup2 (nx := 46) (r1 := 0) (r2 := 0) (r3 := 0) rfl rfl rfl ?_
      refine wr_ia (k0 := 239) (a := 1) (f := 1) (x := 1) (nx := 47) (r1 := 0) (r2 := 0) (r3 := 0) rfl (by decide) rfl (by omega) (by omega) (by decide) ((u51 239 1 rfl).trans ((u33 239 1 rfl).trans ((u22 239 1 rfl).trans q18))) ?_
      refine wi_iconst (n := 1) (nx := 48) (r1 := 0) (r2 := 0) (r3 := 0) rfl ?_
      refine wr_addL (2) (nx := 49) (r1 := 0) (r2 := 0) (r3 := 0) rfl (by decide) ?_
      refine wr_is (k0 := 239) (a := 1) (f := 1) (x := 2) (bl := 0) (bh := 4) (nx := 50) (r1 := 0) (r2 := 0) (r3 := 0) rfl (by decide) rfl (by omega) (by omega) (by decide) g51 rfl (by omega) (fun h55 g55 w55 u55 => ?_)
      have F56 := F52.then rfl u55
      refine wi_return (nx := 51) (r1 := 0) (r2 := 0) (r3 := 0) rfl rfl ?_
      have e57 : h55 236 4 = h33 236 4 := ((u55 236 4 rfl).trans (u51 236 4 rfl))
      have e58 : h55 236 8 = h33 236 8 := ((u55 236 8 rfl).trans (u51 236 8 rfl))
      have e59 : h55 239 5 = h 239 5 := ((u55 239 5 rfl).trans ((u51 239 5 rfl).trans ((u33 239 5 rfl).trans (u22 239 5 rfl))))
      have e60 : h55 239 7 = h 239 7 := ((u55 239 7 rfl).trans ((u51 239 7 rfl).trans ((u33 239 7 rfl).trans (u22 239 7 rfl))))
      have e61 : h55 239 15 = h 239 15 := ((u55 239 15 rfl).trans ((u51 239 15 rfl).trans ((u33 239 15 rfl).trans (u22 239 15 rfl))))
      have e62 : h55 239 16 = z36 := ((u55 239 16 rfl).trans w51)
      have e63 : h55 239 17 = h 239 17 := ((u55 239 17 rfl).trans ((u51 239 17 rfl).trans ((u33 239 17 rfl).trans (u22 239 17 rfl))))
      have e64 : h55 239 18 = h 239 18 := ((u55 239 18 rfl).trans ((u51 239 18 rfl).trans ((u33 239 18 rfl).trans (u22 239 18 rfl))))
      have e65 : h55 236 9 = h33 236 9 := ((u55 236 9 rfl).trans (u51 236 9 rfl))
      have e66 : h55 239 0 = h 239 0 := ((u55 239 0 rfl).trans ((u51 239 0 rfl).trans ((u33 239 0 rfl).trans (u22 239 0 rfl))))
      have e67 : h55 239 1 = 2 := w55
      have e68 : h55 239 2 = h 239 2 := ((u55 239 2 rfl).trans ((u51 239 2 rfl).trans ((u33 239 2 rfl).trans (u22 239 2 rfl))))
      have b69 := gi_b (lo := 0) (hi := 999) g 239 3 rfl
      have e70 : h55 239 3 = h 239 3 := ((u55 239 3 rfl).trans ((u51 239 3 rfl).trans ((u33 239 3 rfl).trans (u22 239 3 rfl))))
      have b71 := gi_b (lo := 0) (hi := 999) g 239 4 rfl
      have e72 : h55 239 4 = h 239 4 := ((u55 239 4 rfl).trans ((u51 239 4 rfl).trans ((u33 239 4 rfl).trans (u22 239 4 rfl))))
      have b73 := gi_b (lo := 0) (hi := 999) g 239 6 rfl
      have e74 : h55 239 6 = h 239 6 := ((u55 239 6 rfl).trans ((u51 239 6 rfl).trans ((u33 239 6 rfl).trans (u22 239 6 rfl))))
      have b75 := gi_b (lo := 0) (hi := 999) g 239 8 rfl
      have e76 : h55 239 8 = h 239 8 := ((u55 239 8 rfl).trans ((u51 239 8 rfl).trans ((u33 239 8 rfl).trans (u22 239 8 rfl))))
      have b77 := gi_b (lo := 0) (hi := 999) g 239 9 rfl
      have e78 : h55 239 9 = h 239 9 := ((u55 239 9 rfl).trans ((u51 239 9 rfl).trans ((u33 239 9 rfl).trans (u22 239 9 rfl))))
      have b79 := gi_b (lo := 0) (hi := 1) g 236 23 rfl
      have e80 : h55 236 23 = h 236 23 := ((u55 236 23 rfl).trans ((u51 236 23 rfl).trans ((u33 236 23 rfl).trans (u22 236 23 rfl))))
      have b81 := gi_b (lo := 0) (hi := 1) g 236 24 rfl
      have e82 : h55 236 24 = h 236 24 := ((u55 236 24 rfl).trans ((u51 236 24 rfl).trans ((u33 236 24 rfl).trans (u22 236 24 rfl))))
      have b83 := gi_b (lo := 0) (hi := 1) g 236 25 rfl
      have e84 : h55 236 25 = h 236 25 := ((u55 236 25 rfl).trans ((u51 236 25 rfl).trans ((u33 236 25 rfl).trans (u22 236 25 rfl))))
      have b85 := gi_b (lo := 0) (hi := 1) g 236 26 rfl
      have e86 : h55 236 26 = h 236 26 := ((u55 236 26 rfl).trans ((u51 236 26 rfl).trans ((u33 236 26 rfl).trans (u22 236 26 rfl))))
      have e87 : h55 236 5 = h33 236 5 := ((u55 236 5 rfl).trans (u51 236 5 rfl))
      have e88 : h55 236 6 = h33 236 6 := ((u55 236 6 rfl).trans (u51 236 6 rfl))
      have e89 : h55 236 7 = h33 236 7 := ((u55 236 7 rfl).trans (u51 236 7 rfl))
      have e90 : h55 236 12 = h33 236 12 := ((u55 236 12 rfl).trans (u51 236 12 rfl))
      exact k h55 g55 F56 (show (h 236 4) ≤ (h55 236 4) by omega) (show (h55 236 4) ≤ (h 236 3) by omega) (show 1 ≤ (h55 236 8) ∨ ((h55 239 5) ≤ 9 ∧ 1 ≤ (h55 239 5) ∧ (h55 239 7) ≤ 3 ∧ (h55 239 15) ≤ 6 ∧ (h55 239 16) ≤ 6 ∧ (h55 239 17) ≤ 6 ∧ (h55 239 18) ≤ 6) from (Or.inr (⟨by omega, by omega, by omega, by omega, by omega, by omega, by omega⟩))) (show (h55 236 8) ≠ 0 ∨ (h55 236 9) = -1 from (Or.inr (by omega))) (by unfold tk_lane; (repeat (first | unfold tk_num | unfold tk_lane)); (try dsimp only); rw [if_neg (by omega)]; (repeat (first | unfold tk_num | unfold tk_lane)); (try dsimp only); rw [if_pos dk48]; (repeat (first | unfold tk_num | unfold tk_lane)); (try dsimp only); rw [if_pos dr49]; (repeat (first | unfold tk_num | unfold tk_lane)); (try dsimp only); exact tk_ORs (by omega) (by first | assumption | exact ⟨by omega, by omega, TKk.mv (by assumption) (by omega) (by omega) (by omega)⟩) (CVr.lane (c := (h 239 1).toNat) xq1 (by omega) (by omega) (fun i _ _ => ((u55 239 i (fn_i (by omega) fn_0)).trans ((u51 239 i (fn_i (by omega) fn_0)).trans ((u33 239 i (fo_nk rfl)).trans (u22 239 i (fo_nk rfl)))))) (fun i _ _ => ((u55 236 i (fn_a (by omega) fn_0)).trans ((u51 236 i (fn_a (by omega) fn_0)).trans ((u33 236 i (fo_gk (m := 12) (by omega) rfl)).trans (u22 236 i (fo_gk (m := 12) (by omega) rfl)))))) (by rw [show 15 + (h 239 1).toNat = 16 by omega]; exact ((u55 239 16 rfl).trans w51).trans (by omega)) (fun i => ((u55 244 i (fn_a (by omega) fn_0)).trans ((u51 244 i (fn_a (by omega) fn_0)).trans ((u33 244 i (fo_nk rfl)).trans (u22 244 i (fo_nk rfl)))))) (by omega) (by omega) (by omega)))
    ·
      clear p33_3
      clear p33_4
      clear p33_5
      have dn47 : TKn (tk_kd tB tn (tk_nx tB tn tp) = 2) := p33_0.2.1
      replace p33_0 : _ := And.intro (p33_0.1) (And.intro (p33_0.2.2.1) (p33_0.2.2.2))
      refine wr_is (k0 := 239) (a := 16) (f := 16) (x := z36) (bl := 0) (bh := 999) (nx := 33) (r1 := 0) (r2 := 0) (r3 := 0) rfl (by decide) rfl (by omega) (by omega) (by decide) g33 rfl (by omega) (fun h48 g48 w48 u48 => ?_)
      have F49 := F38.then rfl u48
      refine wi_aload_n (i := 0) (x := 236) (nx := 34) (r1 := 0) (r2 := 0) (r3 := 0) rfl rfl ?_
      refine wr_V (k0 := 236) (rest := []) (as := [.ref 236]) (nx := 37) (r1 := 219) (r2 := 0) (r3 := 11) rfl rfl rfl (of_decide_eq_true rfl) rfl rfl (by decide) rfl rfl (of_decide_eq_true rfl) (of_decide_eq_true rfl) ?_
      refine wi_aload_n (i := 0) (x := 236) (nx := 1) (r1 := 0) (r2 := 0) (r3 := 0) rfl rfl ?_
      refine wr_gi0 (k0 := 236) (x := h33 236 8) (nx := 4) (r1 := 11) (r2 := 8) (r3 := 0) rfl rfl (by decide) rfl ⟨rfl, rfl⟩ rfl (u48 236 8 rfl) ?_
      refine wi_if (cd := .ne) (nx := 7) (r1 := 11) (r2 := 0) (r3 := 0) rfl (by omega) (fun (q50 : (h33 236 8) ≠ 0) => ?_) (fun (q50 : ¬ ((h33 236 8) ≠ 0)) => by exfalso; omega)
      refine wi_iconst (n := 0) (nx := 12) (r1 := 0) (r2 := 0) (r3 := 0) rfl ?_
      refine wi_zreturn (nx := 13) (r1 := 0) (r2 := 0) (r3 := 0) rfl rfl (by omega) ?_
      refine wk_i ?_
      refine wi_if (cd := .eq) (nx := 40) (r1 := 50) (r2 := 0) (r3 := 0) rfl (by omega) (fun (q51 : 0 = 0) => ?_) (fun (q51 : ¬ (0 = 0)) => by exfalso; omega)
      refine wi_return (nx := 51) (r1 := 0) (r2 := 0) (r3 := 0) rfl rfl ?_
      have e52 : h48 236 4 = h33 236 4 := (u48 236 4 rfl)
      have e53 : h48 236 8 = h33 236 8 := (u48 236 8 rfl)
      have e54 : h48 239 5 = h 239 5 := ((u48 239 5 rfl).trans ((u33 239 5 rfl).trans (u22 239 5 rfl)))
      have e55 : h48 239 7 = h 239 7 := ((u48 239 7 rfl).trans ((u33 239 7 rfl).trans (u22 239 7 rfl)))
      have e56 : h48 239 15 = h 239 15 := ((u48 239 15 rfl).trans ((u33 239 15 rfl).trans (u22 239 15 rfl)))
      have e57 : h48 239 16 = z36 := w48
      have e58 : h48 239 17 = h 239 17 := ((u48 239 17 rfl).trans ((u33 239 17 rfl).trans (u22 239 17 rfl)))
      have e59 : h48 239 18 = h 239 18 := ((u48 239 18 rfl).trans ((u33 239 18 rfl).trans (u22 239 18 rfl)))
      have e60 : h48 236 9 = h33 236 9 := (u48 236 9 rfl)
      exact k h48 g48 F49 (show (h 236 4) ≤ (h48 236 4) by omega) (show (h48 236 4) ≤ (h 236 3) by omega) (show 1 ≤ (h48 236 8) ∨ ((h48 239 5) ≤ 9 ∧ 1 ≤ (h48 239 5) ∧ (h48 239 7) ≤ 3 ∧ (h48 239 15) ≤ 6 ∧ (h48 239 16) ≤ 6 ∧ (h48 239 17) ≤ 6 ∧ (h48 239 18) ≤ 6) from (Or.inl (by omega))) (show (h48 236 8) ≠ 0 ∨ (h48 236 9) = -1 from (Or.inl (by omega))) (by unfold tk_lane; (repeat (first | unfold tk_num | unfold tk_lane)); (try dsimp only); rw [if_neg (by omega)]; (repeat (first | unfold tk_num | unfold tk_lane)); (try dsimp only); rw [if_neg dn47.no]; (repeat (first | unfold tk_num | unfold tk_lane)); (try dsimp only); exact tk_ORe (by omega) (by omega) (by omega))
    ·
      clear p33_3
      clear p33_4
      clear p33_5
      have dk47 : tk_kd tB tn (tk_nx tB tn tp) = 2 := p33_0.2.1
      have dr48 : TKn (1 ≤ tk_nb tB tn (tk_nx tB tn tp) ∧ tk_nb tB tn (tk_nx tB tn tp) ≤ 6) := tkn_r p33_0.2.2.1
      replace p33_0 : _ := And.intro (p33_0.1) (And.intro (p33_0.2.1) (And.intro (p33_0.2.2.2.1) (p33_0.2.2.2.2)))
      refine wr_is (k0 := 239) (a := 16) (f := 16) (x := z36) (bl := 0) (bh := 999) (nx := 33) (r1 := 0) (r2 := 0) (r3 := 0) rfl (by decide) rfl (by omega) (by omega) (by decide) g33 rfl (by omega) (fun h49 g49 w49 u49 => ?_)
      have F50 := F38.then rfl u49
      refine wi_aload_n (i := 0) (x := 236) (nx := 34) (r1 := 0) (r2 := 0) (r3 := 0) rfl rfl ?_
      refine wr_V (k0 := 236) (rest := []) (as := [.ref 236]) (nx := 37) (r1 := 219) (r2 := 0) (r3 := 11) rfl rfl rfl (of_decide_eq_true rfl) rfl rfl (by decide) rfl rfl (of_decide_eq_true rfl) (of_decide_eq_true rfl) ?_
      refine wi_aload_n (i := 0) (x := 236) (nx := 1) (r1 := 0) (r2 := 0) (r3 := 0) rfl rfl ?_
      refine wr_gi0 (k0 := 236) (x := h33 236 8) (nx := 4) (r1 := 11) (r2 := 8) (r3 := 0) rfl rfl (by decide) rfl ⟨rfl, rfl⟩ rfl (u49 236 8 rfl) ?_
      refine wi_if (cd := .ne) (nx := 7) (r1 := 11) (r2 := 0) (r3 := 0) rfl (by omega) (fun (q51 : (h33 236 8) ≠ 0) => ?_) (fun (q51 : ¬ ((h33 236 8) ≠ 0)) => by exfalso; omega)
      refine wi_iconst (n := 0) (nx := 12) (r1 := 0) (r2 := 0) (r3 := 0) rfl ?_
      refine wi_zreturn (nx := 13) (r1 := 0) (r2 := 0) (r3 := 0) rfl rfl (by omega) ?_
      refine wk_i ?_
      refine wi_if (cd := .eq) (nx := 40) (r1 := 50) (r2 := 0) (r3 := 0) rfl (by omega) (fun (q52 : 0 = 0) => ?_) (fun (q52 : ¬ (0 = 0)) => by exfalso; omega)
      refine wi_return (nx := 51) (r1 := 0) (r2 := 0) (r3 := 0) rfl rfl ?_
      have e53 : h49 236 4 = h33 236 4 := (u49 236 4 rfl)
      have e54 : h49 236 8 = h33 236 8 := (u49 236 8 rfl)
      have e55 : h49 239 5 = h 239 5 := ((u49 239 5 rfl).trans ((u33 239 5 rfl).trans (u22 239 5 rfl)))
      have e56 : h49 239 7 = h 239 7 := ((u49 239 7 rfl).trans ((u33 239 7 rfl).trans (u22 239 7 rfl)))
      have e57 : h49 239 15 = h 239 15 := ((u49 239 15 rfl).trans ((u33 239 15 rfl).trans (u22 239 15 rfl)))
      have e58 : h49 239 16 = z36 := w49
      have e59 : h49 239 17 = h 239 17 := ((u49 239 17 rfl).trans ((u33 239 17 rfl).trans (u22 239 17 rfl)))
      have e60 : h49 239 18 = h 239 18 := ((u49 239 18 rfl).trans ((u33 239 18 rfl).trans (u22 239 18 rfl)))
      have e61 : h49 236 9 = h33 236 9 := (u49 236 9 rfl)
      exact k h49 g49 F50 (show (h 236 4) ≤ (h49 236 4) by omega) (show (h49 236 4) ≤ (h 236 3) by omega) (show 1 ≤ (h49 236 8) ∨ ((h49 239 5) ≤ 9 ∧ 1 ≤ (h49 239 5) ∧ (h49 239 7) ≤ 3 ∧ (h49 239 15) ≤ 6 ∧ (h49 239 16) ≤ 6 ∧ (h49 239 17) ≤ 6 ∧ (h49 239 18) ≤ 6) from (Or.inl (by omega))) (show (h49 236 8) ≠ 0 ∨ (h49 236 9) = -1 from (Or.inl (by omega))) (by unfold tk_lane; (repeat (first | unfold tk_num | unfold tk_lane)); (try dsimp only); rw [if_neg (by omega)]; (repeat (first | unfold tk_num | unfold tk_lane)); (try dsimp only); rw [if_pos dk47]; (repeat (first | unfold tk_num | unfold tk_lane)); (try dsimp only); rw [if_neg dr48.no]; (repeat (first | unfold tk_num | unfold tk_lane)); (try dsimp only); exact tk_ORe (by omega) (by omega) (by omega))
  ·
    refine wr_ia (k0 := 239) (a := 1) (f := 1) (x := 2) (nx := 6) (r1 := 0) (r2 := 0) (r3 := 0) rfl (by decide) rfl (by omega) (by omega) (by decide) q18 ?_
    refine wi_istore_n (i := 1) (e := 2) (lo2 := [(1, vi 2), (0, .ref 236)]) (nx := 7) (r1 := 0) (r2 := 0) (r3 := 0) rfl rfl ?_
    refine wi_aload_n (i := 0) (x := 236) (nx := 8) (r1 := 0) (r2 := 0) (r3 := 0) rfl rfl ?_
    refine wi_iconst (n := 1) (nx := 9) (r1 := 0) (r2 := 0) (r3 := 0) rfl ?_
    refine wi_iconst (n := 4) (nx := 10) (r1 := 0) (r2 := 0) (r3 := 0) rfl ?_
    refine wr_V (k0 := 236) (rest := []) (as := [.ref 236, vi 1, vi 4]) (nx := 13) (r1 := 223) (r2 := 2) (r3 := 11) rfl rfl rfl (of_decide_eq_true rfl) rfl rfl (by decide) rfl rfl (of_decide_eq_true rfl) (of_decide_eq_true rfl) ?_
    refine wi_aload_n (i := 0) (x := 236) (nx := 1) (r1 := 0) (r2 := 0) (r3 := 0) rfl rfl ?_
    refine wr_gr (k0 := 236) (x := 239) (nx := 4) (r1 := 11) (r2 := 14) (r3 := 0) rfl rfl (by decide) rfl ⟨rfl, rfl⟩ rfl ?_
    refine wi_iload_n (i := 1) (e := 1) (nx := 5) (r1 := 0) (r2 := 0) (r3 := 0) rfl rfl ?_
    refine wr_ia (k0 := 239) (a := 1) (f := 1) (x := 2) (nx := 6) (r1 := 0) (r2 := 0) (r3 := 0) rfl (by decide) rfl (by omega) (by omega) (by decide) q18 ?_
    refine wi_iload_n (i := 2) (e := 4) (nx := 7) (r1 := 0) (r2 := 0) (r3 := 0) rfl rfl ?_
    refine wi_icmp (cd := .ne) (nx := 10) (r1 := 15) (r2 := 0) (r3 := 0) rfl (by omega) (by omega) (fun (q19 : 2 ≠ 4) => ?_) (fun (q19 : ¬ (2 ≠ 4)) => by exfalso; omega)
    refine wi_aload_n (i := 0) (x := 236) (nx := 16) (r1 := 0) (r2 := 0) (r3 := 0) rfl rfl ?_
    refine wr_V (k0 := 236) (rest := []) (as := [.ref 236]) (nx := 19) (r1 := 219) (r2 := 0) (r3 := 11) rfl rfl rfl (of_decide_eq_true rfl) rfl rfl (by decide) rfl rfl (of_decide_eq_true rfl) (of_decide_eq_true rfl) ?_
    refine wi_aload_n (i := 0) (x := 236) (nx := 1) (r1 := 0) (r2 := 0) (r3 := 0) rfl rfl ?_
    refine wr_gi0 (k0 := 236) (x := h 236 8) (nx := 4) (r1 := 11) (r2 := 8) (r3 := 0) rfl rfl (by decide) rfl ⟨rfl, rfl⟩ rfl rfl ?_
    refine wi_if (cd := .ne) (nx := 7) (r1 := 11) (r2 := 0) (r3 := 0) rfl (by omega) (fun (q20 : (h 236 8) ≠ 0) => by exfalso; omega) (fun (q20 : ¬ ((h 236 8) ≠ 0)) => ?_)
    refine wi_iconst (n := 1) (nx := 8) (r1 := 0) (r2 := 0) (r3 := 0) rfl ?_
    refine wi_goto (nx := 11) (r1 := 12) (r2 := 0) (r3 := 0) rfl ?_
    refine wi_zreturn (nx := 13) (r1 := 0) (r2 := 0) (r3 := 0) rfl rfl (by omega) ?_
    refine wk_i ?_
    refine wi_if (cd := .eq) (nx := 22) (r1 := 26) (r2 := 0) (r3 := 0) rfl (by omega) (fun (q21 : 1 = 0) => by exfalso; omega) (fun (q21 : ¬ (1 = 0)) => ?_)
    refine wi_aload_n (i := 0) (x := 236) (nx := 23) (r1 := 0) (r2 := 0) (r3 := 0) rfl rfl ?_
    refine wr_V (k0 := 236) (rest := []) (as := [.ref 236]) (nx := 26) (r1 := 215) (r2 := 0) (r3 := 11) rfl rfl rfl (of_decide_eq_true rfl) rfl rfl (by decide) rfl rfl (of_decide_eq_true rfl) (of_decide_eq_true rfl) ?_
    refine ct_215_236 hcr  g   (show (h 236 4) ≤ (h 236 3) by omega) (show (h 236 4) = (tk_nx tB tn tp) by omega) (show 0 ≤ (tk_nx tB tn tp) by omega) (show (tk_nx tB tn tp) ≤ tn by omega) xq0 (fun h22 g22 u22 (p22_0 : (h 236 4) ≤ (h22 236 4)) (p22_1 : (h22 236 4) ≤ (h 236 3)) (p22_2 : ((h22 236 4) = tk_nx tB tn (tk_nx tB tn tp) ∧ (h22 236 5) = tk_st tB tn (tk_nx tB tn tp) ∧ TKk tB tn (tk_nx tB tn tp) ((h22 236 6)) ((h22 236 7)) ((h22 236 12)))) (p22_3 : (tk_nx tB tn tp) ≤ tk_nx tB tn (tk_nx tB tn tp) ∧ tk_nx tB tn (tk_nx tB tn tp) ≤ tn) => ?_)
    have F23 := F0.then (by decide +kernel) u22
    have b24 := gi_b (lo := 0) (hi := 800) g22 236 4 rfl
    have b25 := gi_b (lo := 0) (hi := 800) g22 236 5 rfl
    have b26 := gi_b (lo := 0) (hi := 4) g22 236 6 rfl
    have b27 := gi_b (lo := 0) (hi := 999) g22 236 7 rfl
    have b28 := gi_b (lo := -9223372036854775808) (hi := 9223372036854775807) g22 236 12 rfl
    have tkk29 := p22_2.2.2
    have tN30 := @tk_nx_b tB tn (tk_nx tB tn tp) (by omega) (by omega)
    refine wk_n ?_
    refine wi_aload_n (i := 0) (x := 236) (nx := 27) (r1 := 0) (r2 := 0) (r3 := 0) rfl rfl ?_
    refine wr_V (k0 := 236) (rest := []) (as := [.ref 236]) (nx := 30) (r1 := 219) (r2 := 0) (r3 := 11) rfl rfl rfl (of_decide_eq_true rfl) rfl rfl (by decide) rfl rfl (of_decide_eq_true rfl) (of_decide_eq_true rfl) ?_
    refine wi_aload_n (i := 0) (x := 236) (nx := 1) (r1 := 0) (r2 := 0) (r3 := 0) rfl rfl ?_
    refine wr_gi0 (k0 := 236) (x := h 236 8) (nx := 4) (r1 := 11) (r2 := 8) (r3 := 0) rfl rfl (by decide) rfl ⟨rfl, rfl⟩ rfl (u22 236 8 rfl) ?_
    refine wi_if (cd := .ne) (nx := 7) (r1 := 11) (r2 := 0) (r3 := 0) rfl (by omega) (fun (q31 : (h 236 8) ≠ 0) => by exfalso; omega) (fun (q31 : ¬ ((h 236 8) ≠ 0)) => ?_)
    refine wi_iconst (n := 1) (nx := 8) (r1 := 0) (r2 := 0) (r3 := 0) rfl ?_
    refine wi_goto (nx := 11) (r1 := 12) (r2 := 0) (r3 := 0) rfl ?_
    refine wi_zreturn (nx := 13) (r1 := 0) (r2 := 0) (r3 := 0) rfl rfl (by omega) ?_
    refine wk_i ?_
    refine wi_zreturn (nx := 31) (r1 := 0) (r2 := 0) (r3 := 0) rfl rfl (by omega) ?_
    refine wk_i ?_
    refine wi_if (cd := .ne) (nx := 16) (r1 := 17) (r2 := 0) (r3 := 0) rfl (by omega) (fun (q32 : 1 ≠ 0) => ?_) (fun (q32 : ¬ (1 ≠ 0)) => by exfalso; omega)
    refine wi_aload_n (i := 0) (x := 236) (nx := 18) (r1 := 0) (r2 := 0) (r3 := 0) rfl rfl ?_
    refine wr_gr (k0 := 236) (x := 239) (nx := 21) (r1 := 11) (r2 := 14) (r3 := 0) rfl rfl (by decide) rfl ⟨rfl, rfl⟩ rfl ?_
    refine wi_bipush (n := 15) (nx := 23) (r1 := 0) (r2 := 0) (r3 := 0) rfl (by decide) ?_
    refine wi_iload_n (i := 1) (e := 2) (nx := 24) (r1 := 0) (r2 := 0) (r3 := 0) rfl rfl ?_
    refine wr_addL (17) (nx := 25) (r1 := 0) (r2 := 0) (r3 := 0) rfl (by decide) ?_
    refine wi_aload_n (i := 0) (x := 236) (nx := 26) (r1 := 0) (r2 := 0) (r3 := 0) rfl rfl ?_
    refine wi_iconst (n := 1) (nx := 27) (r1 := 0) (r2 := 0) (r3 := 0) rfl ?_
    refine wi_bipush (n := 6) (nx := 29) (r1 := 0) (r2 := 0) (r3 := 0) rfl (by decide) ?_
    refine wr_V (k0 := 236) (rest := [vi 17, .ref 239]) (as := [.ref 236, vi 1, vi 6]) (nx := 32) (r1 := 231) (r2 := 2) (r3 := 11) rfl rfl rfl (of_decide_eq_true rfl) rfl rfl (by decide) rfl rfl (of_decide_eq_true rfl) (of_decide_eq_true rfl) ?_
    have e34 : h22 236 3 = h 236 3 := (u22 236 3 rfl)
    have e35 : h22 236 8 = h 236 8 := (u22 236 8 rfl)
    have rb37 := RefB.fr u22 rfl xq0
    refine ct_231_236 hcr  g22 1 6 (by omega) (by omega) (show (h22 236 4) ≤ (h22 236 3) by omega) (show 0 ≤ (tk_nx tB tn tp) by omega) (show (tk_nx tB tn tp) ≤ tn by omega) (show (tk_nx tB tn tp) ≤ tk_nx tB tn (tk_nx tB tn tp) ∧ tk_nx tB tn (tk_nx tB tn tp) ≤ tn from ⟨by omega, by omega⟩) (show 1 ≤ (h22 236 8) ∨ ((h22 236 4) = tk_nx tB tn (tk_nx tB tn tp) ∧ (h22 236 5) = tk_st tB tn (tk_nx tB tn tp) ∧ TKk tB tn (tk_nx tB tn tp) ((h22 236 6)) ((h22 236 7)) ((h22 236 12))) from (Or.inr (show ((h22 236 4) = tk_nx tB tn (tk_nx tB tn tp) ∧ (h22 236 5) = tk_st tB tn (tk_nx tB tn tp) ∧ TKk tB tn (tk_nx tB tn tp) ((h22 236 6)) ((h22 236 7)) ((h22 236 12))) by first | assumption | exact ⟨by omega, by omega, TKk.mv (by assumption) (by omega) (by omega) (by omega)⟩))) rb37 (fun h33 z36 g33 u33 (fz36 : 0 ≤ z36 ∧ z36 ≤ 999) (p33_0 : (1 ≤ (h22 236 8) ∧ (h33 236 8) = (h22 236 8) ∧ (h33 236 9) = (h22 236 9)) ∨ ((h22 236 8) = 0 ∧ tk_kd tB tn (tk_nx tB tn tp) = 2 ∧ 1 ≤ tk_nb tB tn (tk_nx tB tn tp) ∧ tk_nb tB tn (tk_nx tB tn tp) ≤ 6 ∧ z36 = tk_nb tB tn (tk_nx tB tn tp) ∧ (h33 236 8) = (h22 236 8) ∧ (h33 236 9) = (h22 236 9) ∧ ((h33 236 4) = tk_nx tB tn (tk_nx tB tn (tk_nx tB tn tp)) ∧ (h33 236 5) = tk_st tB tn (tk_nx tB tn (tk_nx tB tn tp)) ∧ TKk tB tn (tk_nx tB tn (tk_nx tB tn tp)) ((h33 236 6)) ((h33 236 7)) ((h33 236 12)))) ∨ ((h22 236 8) = 0 ∧ tk_kd tB tn (tk_nx tB tn tp) ≠ 2 ∧ (h33 236 8) = 1 ∧ (h33 236 9) = tk_st tB tn (tk_nx tB tn tp)) ∨ ((h22 236 8) = 0 ∧ tk_kd tB tn (tk_nx tB tn tp) = 2 ∧ (tk_nb tB tn (tk_nx tB tn tp) < 1 ∨ 6 < tk_nb tB tn (tk_nx tB tn tp)) ∧ (h33 236 8) = 2 ∧ (h33 236 9) = tk_st tB tn (tk_nx tB tn tp))) (p33_1 : (h22 236 4) ≤ (h33 236 4)) (p33_2 : (h33 236 4) ≤ (h22 236 3)) (p33_3 : 1 ≤ (h33 236 8) ∨ (h22 236 8) = 0) (p33_4 : 1 ≤ (h33 236 8) ∨ (1 ≤ z36 ∧ z36 ≤ 6)) (p33_5 : 1 ≤ (h33 236 8) ∨ (h22 236 6) = 2) => ?_)
    have F38 := F23.then (by decide +kernel) u33
    have e39 : h22 236 9 = h 236 9 := (u22 236 9 rfl)
    have b40 := gi_b (lo := 0) (hi := 5) g33 236 8 rfl
    have b41 := gi_b (lo := -2147483648) (hi := 2147483647) g33 236 9 rfl
    have b42 := gi_b (lo := 0) (hi := 800) g33 236 4 rfl
    have b43 := gi_b (lo := 0) (hi := 800) g33 236 5 rfl
    have b44 := gi_b (lo := 0) (hi := 4) g33 236 6 rfl
    have b45 := gi_b (lo := 0) (hi := 999) g33 236 7 rfl
    have b46 := gi_b (lo := -9223372036854775808) (hi := 9223372036854775807) g33 236 12 rfl
    refine wk_i ?_
    rcases p33_0 with p33_0 | p33_0 | p33_0 | p33_0
    ·
      exfalso; omega
    ·
      replace p33_3 := p33_3.resolve_left (by omega)
      replace p33_4 := p33_4.resolve_left (by omega)
      replace p33_5 := p33_5.resolve_left (by omega)
      have tkk47 := (p33_0.2.2.2.2.2.2.2).2.2
      have dk48 : tk_kd tB tn (tk_nx tB tn tp) = 2 := p33_0.2.1
      have dr49 : 1 ≤ tk_nb tB tn (tk_nx tB tn tp) ∧ tk_nb tB tn (tk_nx tB tn tp) ≤ 6 := ⟨p33_0.2.2.1, p33_0.2.2.2.1⟩
      have tN50 := @tk_nx_b tB tn (tk_nx tB tn (tk_nx tB tn tp)) (by omega) (by omega)
      refine wr_is (k0 := 239) (a := 17) (f := 17) (x := z36) (bl := 0) (bh := 999) (nx := 33) (r1 := 0) (r2 := 0) (r3 := 0) rfl (by decide) rfl (by omega) (by omega) (by decide) g33 rfl (by omega) (fun h51 g51 w51 u51 => ?_)
      have F52 := F38.then rfl u51
      refine wi_aload_n (i := 0) (x := 236) (nx := 34) (r1 := 0) (r2 := 0) (r3 := 0) rfl rfl ?_
      refine wr_V (k0 := 236) (rest := []) (as := [.ref 236]) (nx := 37) (r1 := 219) (r2 := 0) (r3 := 11) rfl rfl rfl (of_decide_eq_true rfl) rfl rfl (by decide) rfl rfl (of_decide_eq_true rfl) (of_decide_eq_true rfl) ?_
      refine wi_aload_n (i := 0) (x := 236) (nx := 1) (r1 := 0) (r2 := 0) (r3 := 0) rfl rfl ?_
      refine wr_gi0 (k0 := 236) (x := h33 236 8) (nx := 4) (r1 := 11) (r2 := 8) (r3 := 0) rfl rfl (by decide) rfl ⟨rfl, rfl⟩ rfl (u51 236 8 rfl) ?_
      refine wi_if (cd := .ne) (nx := 7) (r1 := 11) (r2 := 0) (r3 := 0) rfl (by omega) (fun (q53 : (h33 236 8) ≠ 0) => by exfalso; omega) (fun (q53 : ¬ ((h33 236 8) ≠ 0)) => ?_)
      refine wi_iconst (n := 1) (nx := 8) (r1 := 0) (r2 := 0) (r3 := 0) rfl ?_
      refine wi_goto (nx := 11) (r1 := 12) (r2 := 0) (r3 := 0) rfl ?_
      refine wi_zreturn (nx := 13) (r1 := 0) (r2 := 0) (r3 := 0) rfl rfl (by omega) ?_
      refine wk_i ?_
      refine wi_if (cd := .eq) (nx := 40) (r1 := 50) (r2 := 0) (r3 := 0) rfl (by omega) (fun (q54 : 1 = 0) => by exfalso; omega) (fun (q54 : ¬ (1 = 0)) => ?_)
      refine wi_aload_n (i := 0) (x := 236) (nx := 41) (r1 := 0) (r2 := 0) (r3 := 0) rfl rfl ?_
      refine wr_gr (k0 := 236) (x := 239) (nx := 44) (r1 := 11) (r2 := 14) (r3 := 0) rfl rfl (by decide) rfl ⟨rfl, rfl⟩ rfl ?_
      refine wi_iconst (n := 1) (nx := 45) (r1 := 0) (r2 := 0) (r3 := 0) rfl ?_
      refine wi_dup2 (nx := 46) (r1 := 0) (r2 := 0) (r3 := 0) rfl rfl rfl ?_
      refine wr_ia (k0 := 239) (a := 1) (f := 1) (x := 2) (nx := 47) (r1 := 0) (r2 := 0) (r3 := 0) rfl (by decide) rfl (by omega) (by omega) (by decide) ((u51 239 1 rfl).trans ((u33 239 1 rfl).trans ((u22 239 1 rfl).trans q18))) ?_
      refine wi_iconst (n := 1) (nx := 48) (r1 := 0) (r2 := 0) (r3 := 0) rfl ?_
      refine wr_addL (3) (nx := 49) (r1 := 0) (r2 := 0) (r3 := 0) rfl (by decide) ?_
      refine wr_is (k0 := 239) (a := 1) (f := 1) (x := 3) (bl := 0) (bh := 4) (nx := 50) (r1 := 0) (r2 := 0) (r3 := 0) rfl (by decide) rfl (by omega) (by omega) (by decide) g51 rfl (by omega) (fun h55 g55 w55 u55 => ?_)
      have F56 := F52.then rfl u55
      refine wi_return (nx := 51) (r1 := 0) (r2 := 0) (r3 := 0) rfl rfl ?_
      have e57 : h55 236 4 = h33 236 4 := ((u55 236 4 rfl).trans (u51 236 4 rfl))
      have e58 : h55 236 8 = h33 236 8 := ((u55 236 8 rfl).trans (u51 236 8 rfl))
      have e59 : h55 239 5 = h 239 5 := ((u55 239 5 rfl).trans ((u51 239 5 rfl).trans ((u33 239 5 rfl).trans (u22 239 5 rfl))))
      have e60 : h55 239 7 = h 239 7 := ((u55 239 7 rfl).trans ((u51 239 7 rfl).trans ((u33 239 7 rfl).trans (u22 239 7 rfl))))
      have e61 : h55 239 15 = h 239 15 := ((u55 239 15 rfl).trans ((u51 239 15 rfl).trans ((u33 239 15 rfl).trans (u22 239 15 rfl))))
      have e62 : h55 239 16 = h 239 16 := ((u55 239 16 rfl).trans ((u51 239 16 rfl).trans ((u33 239 16 rfl).trans (u22 239 16 rfl))))
      have e63 : h55 239 17 = z36 := ((u55 239 17 rfl).trans w51)
      have e64 : h55 239 18 = h 239 18 := ((u55 239 18 rfl).trans ((u51 239 18 rfl).trans ((u33 239 18 rfl).trans (u22 239 18 rfl))))
      have e65 : h55 236 9 = h33 236 9 := ((u55 236 9 rfl).trans (u51 236 9 rfl))
      have e66 : h55 239 0 = h 239 0 := ((u55 239 0 rfl).trans ((u51 239 0 rfl).trans ((u33 239 0 rfl).trans (u22 239 0 rfl))))
      have e67 : h55 239 1 = 3 := w55
      have e68 : h55 239 2 = h 239 2 := ((u55 239 2 rfl).trans ((u51 239 2 rfl).trans ((u33 239 2 rfl).trans (u22 239 2 rfl))))
      have b69 := gi_b (lo := 0) (hi := 999) g 239 3 rfl
      have e70 : h55 239 3 = h 239 3 := ((u55 239 3 rfl).trans ((u51 239 3 rfl).trans ((u33 239 3 rfl).trans (u22 239 3 rfl))))
      have b71 := gi_b (lo := 0) (hi := 999) g 239 4 rfl
      have e72 : h55 239 4 = h 239 4 := ((u55 239 4 rfl).trans ((u51 239 4 rfl).trans ((u33 239 4 rfl).trans (u22 239 4 rfl))))
      have b73 := gi_b (lo := 0) (hi := 999) g 239 6 rfl
      have e74 : h55 239 6 = h 239 6 := ((u55 239 6 rfl).trans ((u51 239 6 rfl).trans ((u33 239 6 rfl).trans (u22 239 6 rfl))))
      have b75 := gi_b (lo := 0) (hi := 999) g 239 8 rfl
      have e76 : h55 239 8 = h 239 8 := ((u55 239 8 rfl).trans ((u51 239 8 rfl).trans ((u33 239 8 rfl).trans (u22 239 8 rfl))))
      have b77 := gi_b (lo := 0) (hi := 999) g 239 9 rfl
      have e78 : h55 239 9 = h 239 9 := ((u55 239 9 rfl).trans ((u51 239 9 rfl).trans ((u33 239 9 rfl).trans (u22 239 9 rfl))))
      have b79 := gi_b (lo := 0) (hi := 1) g 236 23 rfl
      have e80 : h55 236 23 = h 236 23 := ((u55 236 23 rfl).trans ((u51 236 23 rfl).trans ((u33 236 23 rfl).trans (u22 236 23 rfl))))
      have b81 := gi_b (lo := 0) (hi := 1) g 236 24 rfl
      have e82 : h55 236 24 = h 236 24 := ((u55 236 24 rfl).trans ((u51 236 24 rfl).trans ((u33 236 24 rfl).trans (u22 236 24 rfl))))
      have b83 := gi_b (lo := 0) (hi := 1) g 236 25 rfl
      have e84 : h55 236 25 = h 236 25 := ((u55 236 25 rfl).trans ((u51 236 25 rfl).trans ((u33 236 25 rfl).trans (u22 236 25 rfl))))
      have b85 := gi_b (lo := 0) (hi := 1) g 236 26 rfl
      have e86 : h55 236 26 = h 236 26 := ((u55 236 26 rfl).trans ((u51 236 26 rfl).trans ((u33 236 26 rfl).trans (u22 236 26 rfl))))
      have e87 : h55 236 5 = h33 236 5 := ((u55 236 5 rfl).trans (u51 236 5 rfl))
      have e88 : h55 236 6 = h33 236 6 := ((u55 236 6 rfl).trans (u51 236 6 rfl))
      have e89 : h55 236 7 = h33 236 7 := ((u55 236 7 rfl).trans (u51 236 7 rfl))
      have e90 : h55 236 12 = h33 236 12 := ((u55 236 12 rfl).trans (u51 236 12 rfl))
      exact k h55 g55 F56 (show (h 236 4) ≤ (h55 236 4) by omega) (show (h55 236 4) ≤ (h 236 3) by omega) (show 1 ≤ (h55 236 8) ∨ ((h55 239 5) ≤ 9 ∧ 1 ≤ (h55 239 5) ∧ (h55 239 7) ≤ 3 ∧ (h55 239 15) ≤ 6 ∧ (h55 239 16) ≤ 6 ∧ (h55 239 17) ≤ 6 ∧ (h55 239 18) ≤ 6) from (Or.inr (⟨by omega, by omega, by omega, by omega, by omega, by omega, by omega⟩))) (show (h55 236 8) ≠ 0 ∨ (h55 236 9) = -1 from (Or.inr (by omega))) (by unfold tk_lane; (repeat (first | unfold tk_num | unfold tk_lane)); (try dsimp only); rw [if_neg (by omega)]; (repeat (first | unfold tk_num | unfold tk_lane)); (try dsimp only); rw [if_pos dk48]; (repeat (first | unfold tk_num | unfold tk_lane)); (try dsimp only); rw [if_pos dr49]; (repeat (first | unfold tk_num | unfold tk_lane)); (try dsimp only); exact tk_ORs (by omega) (by first | assumption | exact ⟨by omega, by omega, TKk.mv (by assumption) (by omega) (by omega) (by omega)⟩) (CVr.lane (c := (h 239 1).toNat) xq1 (by omega) (by omega) (fun i _ _ => ((u55 239 i (fn_i (by omega) fn_0)).trans ((u51 239 i (fn_i (by omega) fn_0)).trans ((u33 239 i (fo_nk rfl)).trans (u22 239 i (fo_nk rfl)))))) (fun i _ _ => ((u55 236 i (fn_a (by omega) fn_0)).trans ((u51 236 i (fn_a (by omega) fn_0)).trans ((u33 236 i (fo_gk (m := 12) (by omega) rfl)).trans (u22 236 i (fo_gk (m := 12) (by omega) rfl)))))) (by rw [show 15 + (h 239 1).toNat = 17 by omega]; exact ((u55 239 17 rfl).trans w51).trans (by omega)) (fun i => ((u55 244 i (fn_a (by omega) fn_0)).trans ((u51 244 i (fn_a (by omega) fn_0)).trans ((u33 244 i (fo_nk rfl)).trans (u22 244 i (fo_nk rfl)))))) (by omega) (by omega) (by omega)))
    ·
      clear p33_3
      clear p33_4
      clear p33_5
      have dn47 : TKn (tk_kd tB tn (tk_nx tB tn tp) = 2) := p33_0.2.1
      replace p33_0 : _ := And.intro (p33_0.1) (And.intro (p33_0.2.2.1) (p33_0.2.2.2))
      refine wr_is (k0 := 239) (a := 17) (f := 17) (x := z36) (bl := 0) (bh := 999) (nx := 33) (r1 := 0) (r2 := 0) (r3 := 0) rfl (by decide) rfl (by omega) (by omega) (by decide) g33 rfl (by omega) (fun h48 g48 w48 u48 => ?_)
      have F49 := F38.then rfl u48
      refine wi_aload_n (i := 0) (x := 236) (nx := 34) (r1 := 0) (r2 := 0) (r3 := 0) rfl rfl ?_
      refine wr_V (k0 := 236) (rest := []) (as := [.ref 236]) (nx := 37) (r1 := 219) (r2 := 0) (r3 := 11) rfl rfl rfl (of_decide_eq_true rfl) rfl rfl (by decide) rfl rfl (of_decide_eq_true rfl) (of_decide_eq_true rfl) ?_
      refine wi_aload_n (i := 0) (x := 236) (nx := 1) (r1 := 0) (r2 := 0) (r3 := 0) rfl rfl ?_
      refine wr_gi0 (k0 := 236) (x := h33 236 8) (nx := 4) (r1 := 11) (r2 := 8) (r3 := 0) rfl rfl (by decide) rfl ⟨rfl, rfl⟩ rfl (u48 236 8 rfl) ?_
      refine wi_if (cd := .ne) (nx := 7) (r1 := 11) (r2 := 0) (r3 := 0) rfl (by omega) (fun (q50 : (h33 236 8) ≠ 0) => ?_) (fun (q50 : ¬ ((h33 236 8) ≠ 0)) => by exfalso; omega)
      refine wi_iconst (n := 0) (nx := 12) (r1 := 0) (r2 := 0) (r3 := 0) rfl ?_
      refine wi_zreturn (nx := 13) (r1 := 0) (r2 := 0) (r3 := 0) rfl rfl (by omega) ?_
      refine wk_i ?_
      refine wi_if (cd := .eq) (nx := 40) (r1 := 50) (r2 := 0) (r3 := 0) rfl (by omega) (fun (q51 : 0 = 0) => ?_) (fun (q51 : ¬ (0 = 0)) => by exfalso; omega)
      refine wi_return (nx := 51) (r1 := 0) (r2 := 0) (r3 := 0) rfl rfl ?_
      have e52 : h48 236 4 = h33 236 4 := (u48 236 4 rfl)
      have e53 : h48 236 8 = h33 236 8 := (u48 236 8 rfl)
      have e54 : h48 239 5 = h 239 5 := ((u48 239 5 rfl).trans ((u33 239 5 rfl).trans (u22 239 5 rfl)))
      have e55 : h48 239 7 = h 239 7 := ((u48 239 7 rfl).trans ((u33 239 7 rfl).trans (u22 239 7 rfl)))
      have e56 : h48 239 15 = h 239 15 := ((u48 239 15 rfl).trans ((u33 239 15 rfl).trans (u22 239 15 rfl)))
      have e57 : h48 239 16 = h 239 16 := ((u48 239 16 rfl).trans ((u33 239 16 rfl).trans (u22 239 16 rfl)))
      have e58 : h48 239 17 = z36 := w48
      have e59 : h48 239 18 = h 239 18 := ((u48 239 18 rfl).trans ((u33 239 18 rfl).trans (u22 239 18 rfl)))
      have e60 : h48 236 9 = h33 236 9 := (u48 236 9 rfl)
      exact k h48 g48 F49 (show (h 236 4) ≤ (h48 236 4) by omega) (show (h48 236 4) ≤ (h 236 3) by omega) (show 1 ≤ (h48 236 8) ∨ ((h48 239 5) ≤ 9 ∧ 1 ≤ (h48 239 5) ∧ (h48 239 7) ≤ 3 ∧ (h48 239 15) ≤ 6 ∧ (h48 239 16) ≤ 6 ∧ (h48 239 17) ≤ 6 ∧ (h48 239 18) ≤ 6) from (Or.inl (by omega))) (show (h48 236 8) ≠ 0 ∨ (h48 236 9) = -1 from (Or.inl (by omega))) (by unfold tk_lane; (repeat (first | unfold tk_num | unfold tk_lane)); (try dsimp only); rw [if_neg (by omega)]; (repeat (first | unfold tk_num | unfold tk_lane)); (try dsimp only); rw [if_neg dn47.no]; (repeat (first | unfold tk_num | unfold tk_lane)); (try dsimp only); exact tk_ORe (by omega) (by omega) (by omega))
    ·
      clear p33_3
      clear p33_4
      clear p33_5
      have dk47 : tk_kd tB tn (tk_nx tB tn tp) = 2 := p33_0.2.1
      have dr48 : TKn (1 ≤ tk_nb tB tn (tk_nx tB tn tp) ∧ tk_nb tB tn (tk_nx tB tn tp) ≤ 6) := tkn_r p33_0.2.2.1
      replace p33_0 : _ := And.intro (p33_0.1) (And.intro (p33_0.2.1) (And.intro (p33_0.2.2.2.1) (p33_0.2.2.2.2)))
      refine wr_is (k0 := 239) (a := 17) (f := 17) (x := z36) (bl := 0) (bh := 999) (nx := 33) (r1 := 0) (r2 := 0) (r3 := 0) rfl (by decide) rfl (by omega) (by omega) (by decide) g33 rfl (by omega) (fun h49 g49 w49 u49 => ?_)
      have F50 := F38.then rfl u49
      refine wi_aload_n (i := 0) (x := 236) (nx := 34) (r1 := 0) (r2 := 0) (r3 := 0) rfl rfl ?_
      refine wr_V (k0 := 236) (rest := []) (as := [.ref 236]) (nx := 37) (r1 := 219) (r2 := 0) (r3 := 11) rfl rfl rfl (of_decide_eq_true rfl) rfl rfl (by decide) rfl rfl (of_decide_eq_true rfl) (of_decide_eq_true rfl) ?_
      refine wi_aload_n (i := 0) (x := 236) (nx := 1) (r1 := 0) (r2 := 0) (r3 := 0) rfl rfl ?_
      refine wr_gi0 (k0 := 236) (x := h33 236 8) (nx := 4) (r1 := 11) (r2 := 8) (r3 := 0) rfl rfl (by decide) rfl ⟨rfl, rfl⟩ rfl (u49 236 8 rfl) ?_
      refine wi_if (cd := .ne) (nx := 7) (r1 := 11) (r2 := 0) (r3 := 0) rfl (by omega) (fun (q51 : (h33 236 8) ≠ 0) => ?_) (fun (q51 : ¬ ((h33 236 8) ≠ 0)) => by exfalso; omega)
      refine wi_iconst (n := 0) (nx := 12) (r1 := 0) (r2 := 0) (r3 := 0) rfl ?_
      refine wi_zreturn (nx := 13) (r1 := 0) (r2 := 0) (r3 := 0) rfl rfl (by omega) ?_
      refine wk_i ?_
      refine wi_if (cd := .eq) (nx := 40) (r1 := 50) (r2 := 0) (r3 := 0) rfl (by omega) (fun (q52 : 0 = 0) => ?_) (fun (q52 : ¬ (0 = 0)) => by exfalso; omega)
      refine wi_return (nx := 51) (r1 := 0) (r2 := 0) (r3 := 0) rfl rfl ?_
      have e53 : h49 236 4 = h33 236 4 := (u49 236 4 rfl)
      have e54 : h49 236 8 = h33 236 8 := (u49 236 8 rfl)
      have e55 : h49 239 5 = h 239 5 := ((u49 239 5 rfl).trans ((u33 239 5 rfl).trans (u22 239 5 rfl)))
      have e56 : h49 239 7 = h 239 7 := ((u49 239 7 rfl).trans ((u33 239 7 rfl).trans (u22 239 7 rfl)))
      have e57 : h49 239 15 = h 239 15 := ((u49 239 15 rfl).trans ((u33 239 15 rfl).trans (u22 239 15 rfl)))
      have e58 : h49 239 16 = h 239 16 := ((u49 239 16 rfl).trans ((u33 239 16 rfl).trans (u22 239 16 rfl)))
      have e59 : h49 239 17 = z36 := w49
      have e60 : h49 239 18 = h 239 18 := ((u49 239 18 rfl).trans ((u33 239 18 rfl).trans (u22 239 18 rfl)))
      have e61 : h49 236 9 = h33 236 9 := (u49 236 9 rfl)
      exact k h49 g49 F50 (show (h 236 4) ≤ (h49 236 4) by omega) (show (h49 236 4) ≤ (h 236 3) by omega) (show 1 ≤ (h49 236 8) ∨ ((h49 239 5) ≤ 9 ∧ 1 ≤ (h49 239 5) ∧ (h49 239 7) ≤ 3 ∧ (h49 239 15) ≤ 6 ∧ (h49 239 16) ≤ 6 ∧ (h49 239 17) ≤ 6 ∧ (h49 239 18) ≤ 6) from (Or.inl (by omega))) (show (h49 236 8) ≠ 0 ∨ (h49 236 9) = -1 from (Or.inl (by omega))) (by unfold tk_lane; (repeat (first | unfold tk_num | unfold tk_lane)); (try dsimp only); rw [if_neg (by omega)]; (repeat (first | unfold tk_num | unfold tk_lane)); (try dsimp only); rw [if_pos dk47]; (repeat (first | unfold tk_num | unfold tk_lane)); (try dsimp only); rw [if_neg dr48.no]; (repeat (first | unfold tk_num | unfold tk_lane)); (try dsimp only); exact tk_ORe (by omega) (by omega) (by omega))
  ·
    refine wr_ia (k0 := 239) (a := 1) (f := 1) (x := 3) (nx := 6) (r1 := 0) (r2 := 0) (r3 := 0) rfl (by decide) rfl (by omega) (by omega) (by decide) q18 ?_
    refine wi_istore_n (i := 1) (e := 3) (lo2 := [(1, vi 3), (0, .ref 236)]) (nx := 7) (r1 := 0) (r2 := 0) (r3 := 0) rfl rfl ?_
    refine wi_aload_n (i := 0) (x := 236) (nx := 8) (r1 := 0) (r2 := 0) (r3 := 0) rfl rfl ?_
    refine wi_iconst (n := 1) (nx := 9) (r1 := 0) (r2 := 0) (r3 := 0) rfl ?_
    refine wi_iconst (n := 4) (nx := 10) (r1 := 0) (r2 := 0) (r3 := 0) rfl ?_
    refine wr_V (k0 := 236) (rest := []) (as := [.ref 236, vi 1, vi 4]) (nx := 13) (r1 := 223) (r2 := 2) (r3 := 11) rfl rfl rfl (of_decide_eq_true rfl) rfl rfl (by decide) rfl rfl (of_decide_eq_true rfl) (of_decide_eq_true rfl) ?_
    refine wi_aload_n (i := 0) (x := 236) (nx := 1) (r1 := 0) (r2 := 0) (r3 := 0) rfl rfl ?_
    refine wr_gr (k0 := 236) (x := 239) (nx := 4) (r1 := 11) (r2 := 14) (r3 := 0) rfl rfl (by decide) rfl ⟨rfl, rfl⟩ rfl ?_
    refine wi_iload_n (i := 1) (e := 1) (nx := 5) (r1 := 0) (r2 := 0) (r3 := 0) rfl rfl ?_
    refine wr_ia (k0 := 239) (a := 1) (f := 1) (x := 3) (nx := 6) (r1 := 0) (r2 := 0) (r3 := 0) rfl (by decide) rfl (by omega) (by omega) (by decide) q18 ?_
    refine wi_iload_n (i := 2) (e := 4) (nx := 7) (r1 := 0) (r2 := 0) (r3 := 0) rfl rfl ?_
    refine wi_icmp (cd := .ne) (nx := 10) (r1 := 15) (r2 := 0) (r3 := 0) rfl (by omega) (by omega) (fun (q19 : 3 ≠ 4) => ?_) (fun (q19 : ¬ (3 ≠ 4)) => by exfalso; omega)
    refine wi_aload_n (i := 0) (x := 236) (nx := 16) (r1 := 0) (r2 := 0) (r3 := 0) rfl rfl ?_
    refine wr_V (k0 := 236) (rest := []) (as := [.ref 236]) (nx := 19) (r1 := 219) (r2 := 0) (r3 := 11) rfl rfl rfl (of_decide_eq_true rfl) rfl rfl (by decide) rfl rfl (of_decide_eq_true rfl) (of_decide_eq_true rfl) ?_
    refine wi_aload_n (i := 0) (x := 236) (nx := 1) (r1 := 0) (r2 := 0) (r3 := 0) rfl rfl ?_
    refine wr_gi0 (k0 := 236) (x := h 236 8) (nx := 4) (r1 := 11) (r2 := 8) (r3 := 0) rfl rfl (by decide) rfl ⟨rfl, rfl⟩ rfl rfl ?_
    refine wi_if (cd := .ne) (nx := 7) (r1 := 11) (r2 := 0) (r3 := 0) rfl (by omega) (fun (q20 : (h 236 8) ≠ 0) => by exfalso; omega) (fun (q20 : ¬ ((h 236 8) ≠ 0)) => ?_)
    refine wi_iconst (n := 1) (nx := 8) (r1 := 0) (r2 := 0) (r3 := 0) rfl ?_
    refine wi_goto (nx := 11) (r1 := 12) (r2 := 0) (r3 := 0) rfl ?_
    refine wi_zreturn (nx := 13) (r1 := 0) (r2 := 0) (r3 := 0) rfl rfl (by omega) ?_
    refine wk_i ?_
    refine wi_if (cd := .eq) (nx := 22) (r1 := 26) (r2 := 0) (r3 := 0) rfl (by omega) (fun (q21 : 1 = 0) => by exfalso; omega) (fun (q21 : ¬ (1 = 0)) => ?_)
    refine wi_aload_n (i := 0) (x := 236) (nx := 23) (r1 := 0) (r2 := 0) (r3 := 0) rfl rfl ?_
    refine wr_V (k0 := 236) (rest := []) (as := [.ref 236]) (nx := 26) (r1 := 215) (r2 := 0) (r3 := 11) rfl rfl rfl (of_decide_eq_true rfl) rfl rfl (by decide) rfl rfl (of_decide_eq_true rfl) (of_decide_eq_true rfl) ?_
    refine ct_215_236 hcr  g   (show (h 236 4) ≤ (h 236 3) by omega) (show (h 236 4) = (tk_nx tB tn tp) by omega) (show 0 ≤ (tk_nx tB tn tp) by omega) (show (tk_nx tB tn tp) ≤ tn by omega) xq0 (fun h22 g22 u22 (p22_0 : (h 236 4) ≤ (h22 236 4)) (p22_1 : (h22 236 4) ≤ (h 236 3)) (p22_2 : ((h22 236 4) = tk_nx tB tn (tk_nx tB tn tp) ∧ (h22 236 5) = tk_st tB tn (tk_nx tB tn tp) ∧ TKk tB tn (tk_nx tB tn tp) ((h22 236 6)) ((h22 236 7)) ((h22 236 12)))) (p22_3 : (tk_nx tB tn tp) ≤ tk_nx tB tn (tk_nx tB tn tp) ∧ tk_nx tB tn (tk_nx tB tn tp) ≤ tn) => ?_)
    have F23 := F0.then (by decide +kernel) u22
    have b24 := gi_b (lo := 0) (hi := 800) g22 236 4 rfl
    have b25 := gi_b (lo := 0) (hi := 800) g22 236 5 rfl
    have b26 := gi_b (lo := 0) (hi := 4) g22 236 6 rfl
    have b27 := gi_b (lo := 0) (hi := 999) g22 236 7 rfl
    have b28 := gi_b (lo := -9223372036854775808) (hi := 9223372036854775807) g22 236 12 rfl
    have tkk29 := p22_2.2.2
    have tN30 := @tk_nx_b tB tn (tk_nx tB tn tp) (by omega) (by omega)
    refine wk_n ?_
    refine wi_aload_n (i := 0) (x := 236) (nx := 27) (r1 := 0) (r2 := 0) (r3 := 0) rfl rfl ?_
    refine wr_V (k0 := 236) (rest := []) (as := [.ref 236]) (nx := 30) (r1 := 219) (r2 := 0) (r3 := 11) rfl rfl rfl (of_decide_eq_true rfl) rfl rfl (by decide) rfl rfl (of_decide_eq_true rfl) (of_decide_eq_true rfl) ?_
    refine wi_aload_n (i := 0) (x := 236) (nx := 1) (r1 := 0) (r2 := 0) (r3 := 0) rfl rfl ?_
    refine wr_gi0 (k0 := 236) (x := h 236 8) (nx := 4) (r1 := 11) (r2 := 8) (r3 := 0) rfl rfl (by decide) rfl ⟨rfl, rfl⟩ rfl (u22 236 8 rfl) ?_
    refine wi_if (cd := .ne) (nx := 7) (r1 := 11) (r2 := 0) (r3 := 0) rfl (by omega) (fun (q31 : (h 236 8) ≠ 0) => by exfalso; omega) (fun (q31 : ¬ ((h 236 8) ≠ 0)) => ?_)
    refine wi_iconst (n := 1) (nx := 8) (r1 := 0) (r2 := 0) (r3 := 0) rfl ?_
    refine wi_goto (nx := 11) (r1 := 12) (r2 := 0) (r3 := 0) rfl ?_
    refine wi_zreturn (nx := 13) (r1 := 0) (r2 := 0) (r3 := 0) rfl rfl (by omega) ?_
    refine wk_i ?_
    refine wi_zreturn (nx := 31) (r1 := 0) (r2 := 0) (r3 := 0) rfl rfl (by omega) ?_
    refine wk_i ?_
    refine wi_if (cd := .ne) (nx := 16) (r1 := 17) (r2 := 0) (r3 := 0) rfl (by omega) (fun (q32 : 1 ≠ 0) => ?_) (fun (q32 : ¬ (1 ≠ 0)) => by exfalso; omega)
    refine wi_aload_n (i := 0) (x := 236) (nx := 18) (r1 := 0) (r2 := 0) (r3 := 0) rfl rfl ?_
    refine wr_gr (k0 := 236) (x := 239) (nx := 21) (r1 := 11) (r2 := 14) (r3 := 0) rfl rfl (by decide) rfl ⟨rfl, rfl⟩ rfl ?_
    refine wi_bipush (n := 15) (nx := 23) (r1 := 0) (r2 := 0) (r3 := 0) rfl (by decide) ?_
    refine wi_iload_n (i := 1) (e := 3) (nx := 24) (r1 := 0) (r2 := 0) (r3 := 0) rfl rfl ?_
    refine wr_addL (18) (nx := 25) (r1 := 0) (r2 := 0) (r3 := 0) rfl (by decide) ?_
    refine wi_aload_n (i := 0) (x := 236) (nx := 26) (r1 := 0) (r2 := 0) (r3 := 0) rfl rfl ?_
    refine wi_iconst (n := 1) (nx := 27) (r1 := 0) (r2 := 0) (r3 := 0) rfl ?_
    refine wi_bipush (n := 6) (nx := 29) (r1 := 0) (r2 := 0) (r3 := 0) rfl (by decide) ?_
    refine wr_V (k0 := 236) (rest := [vi 18, .ref 239]) (as := [.ref 236, vi 1, vi 6]) (nx := 32) (r1 := 231) (r2 := 2) (r3 := 11) rfl rfl rfl (of_decide_eq_true rfl) rfl rfl (by decide) rfl rfl (of_decide_eq_true rfl) (of_decide_eq_true rfl) ?_
    have e34 : h22 236 3 = h 236 3 := (u22 236 3 rfl)
    have e35 : h22 236 8 = h 236 8 := (u22 236 8 rfl)
    have rb37 := RefB.fr u22 rfl xq0
    refine ct_231_236 hcr  g22 1 6 (by omega) (by omega) (show (h22 236 4) ≤ (h22 236 3) by omega) (show 0 ≤ (tk_nx tB tn tp) by omega) (show (tk_nx tB tn tp) ≤ tn by omega) (show (tk_nx tB tn tp) ≤ tk_nx tB tn (tk_nx tB tn tp) ∧ tk_nx tB tn (tk_nx tB tn tp) ≤ tn from ⟨by omega, by omega⟩) (show 1 ≤ (h22 236 8) ∨ ((h22 236 4) = tk_nx tB tn (tk_nx tB tn tp) ∧ (h22 236 5) = tk_st tB tn (tk_nx tB tn tp) ∧ TKk tB tn (tk_nx tB tn tp) ((h22 236 6)) ((h22 236 7)) ((h22 236 12))) from (Or.inr (show ((h22 236 4) = tk_nx tB tn (tk_nx tB tn tp) ∧ (h22 236 5) = tk_st tB tn (tk_nx tB tn tp) ∧ TKk tB tn (tk_nx tB tn tp) ((h22 236 6)) ((h22 236 7)) ((h22 236 12))) by first | assumption | exact ⟨by omega, by omega, TKk.mv (by assumption) (by omega) (by omega) (by omega)⟩))) rb37 (fun h33 z36 g33 u33 (fz36 : 0 ≤ z36 ∧ z36 ≤ 999) (p33_0 : (1 ≤ (h22 236 8) ∧ (h33 236 8) = (h22 236 8) ∧ (h33 236 9) = (h22 236 9)) ∨ ((h22 236 8) = 0 ∧ tk_kd tB tn (tk_nx tB tn tp) = 2 ∧ 1 ≤ tk_nb tB tn (tk_nx tB tn tp) ∧ tk_nb tB tn (tk_nx tB tn tp) ≤ 6 ∧ z36 = tk_nb tB tn (tk_nx tB tn tp) ∧ (h33 236 8) = (h22 236 8) ∧ (h33 236 9) = (h22 236 9) ∧ ((h33 236 4) = tk_nx tB tn (tk_nx tB tn (tk_nx tB tn tp)) ∧ (h33 236 5) = tk_st tB tn (tk_nx tB tn (tk_nx tB tn tp)) ∧ TKk tB tn (tk_nx tB tn (tk_nx tB tn tp)) ((h33 236 6)) ((h33 236 7)) ((h33 236 12)))) ∨ ((h22 236 8) = 0 ∧ tk_kd tB tn (tk_nx tB tn tp) ≠ 2 ∧ (h33 236 8) = 1 ∧ (h33 236 9) = tk_st tB tn (tk_nx tB tn tp)) ∨ ((h22 236 8) = 0 ∧ tk_kd tB tn (tk_nx tB tn tp) = 2 ∧ (tk_nb tB tn (tk_nx tB tn tp) < 1 ∨ 6 < tk_nb tB tn (tk_nx tB tn tp)) ∧ (h33 236 8) = 2 ∧ (h33 236 9) = tk_st tB tn (tk_nx tB tn tp))) (p33_1 : (h22 236 4) ≤ (h33 236 4)) (p33_2 : (h33 236 4) ≤ (h22 236 3)) (p33_3 : 1 ≤ (h33 236 8) ∨ (h22 236 8) = 0) (p33_4 : 1 ≤ (h33 236 8) ∨ (1 ≤ z36 ∧ z36 ≤ 6)) (p33_5 : 1 ≤ (h33 236 8) ∨ (h22 236 6) = 2) => ?_)
    have F38 := F23.then (by decide +kernel) u33
    have e39 : h22 236 9 = h 236 9 := (u22 236 9 rfl)
    have b40 := gi_b (lo := 0) (hi := 5) g33 236 8 rfl
    have b41 := gi_b (lo := -2147483648) (hi := 2147483647) g33 236 9 rfl
    have b42 := gi_b (lo := 0) (hi := 800) g33 236 4 rfl
    have b43 := gi_b (lo := 0) (hi := 800) g33 236 5 rfl
    have b44 := gi_b (lo := 0) (hi := 4) g33 236 6 rfl
    have b45 := gi_b (lo := 0) (hi := 999) g33 236 7 rfl
    have b46 := gi_b (lo := -9223372036854775808) (hi := 9223372036854775807) g33 236 12 rfl
    refine wk_i ?_
    rcases p33_0 with p33_0 | p33_0 | p33_0 | p33_0
    ·
      exfalso; omega
    ·
      replace p33_3 := p33_3.resolve_left (by omega)
      replace p33_4 := p33_4.resolve_left (by omega)
      replace p33_5 := p33_5.resolve_left (by omega)
      have tkk47 := (p33_0.2.2.2.2.2.2.2).2.2
      have dk48 : tk_kd tB tn (tk_nx tB tn tp) = 2 := p33_0.2.1
      have dr49 : 1 ≤ tk_nb tB tn (tk_nx tB tn tp) ∧ tk_nb tB tn (tk_nx tB tn tp) ≤ 6 := ⟨p33_0.2.2.1, p33_0.2.2.2.1⟩
      have tN50 := @tk_nx_b tB tn (tk_nx tB tn (tk_nx tB tn tp)) (by omega) (by omega)
      refine wr_is (k0 := 239) (a := 18) (f := 18) (x := z36) (bl := 0) (bh := 999) (nx := 33) (r1 := 0) (r2 := 0) (r3 := 0) rfl (by decide) rfl (by omega) (by omega) (by decide) g33 rfl (by omega) (fun h51 g51 w51 u51 => ?_)
      have F52 := F38.then rfl u51
      refine wi_aload_n (i := 0) (x := 236) (nx := 34) (r1 := 0) (r2 := 0) (r3 := 0) rfl rfl ?_
      refine wr_V (k0 := 236) (rest := []) (as := [.ref 236]) (nx := 37) (r1 := 219) (r2 := 0) (r3 := 11) rfl rfl rfl (of_decide_eq_true rfl) rfl rfl (by decide) rfl rfl (of_decide_eq_true rfl) (of_decide_eq_true rfl) ?_
      refine wi_aload_n (i := 0) (x := 236) (nx := 1) (r1 := 0) (r2 := 0) (r3 := 0) rfl rfl ?_
      refine wr_gi0 (k0 := 236) (x := h33 236 8) (nx := 4) (r1 := 11) (r2 := 8) (r3 := 0) rfl rfl (by decide) rfl ⟨rfl, rfl⟩ rfl (u51 236 8 rfl) ?_
      refine wi_if (cd := .ne) (nx := 7) (r1 := 11) (r2 := 0) (r3 := 0) rfl (by omega) (fun (q53 : (h33 236 8) ≠ 0) => by exfalso; omega) (fun (q53 : ¬ ((h33 236 8) ≠ 0)) => ?_)
      refine wi_iconst (n := 1) (nx := 8) (r1 := 0) (r2 := 0) (r3 := 0) rfl ?_
      refine wi_goto (nx := 11) (r1 := 12) (r2 := 0) (r3 := 0) rfl ?_
      refine wi_zreturn (nx := 13) (r1 := 0) (r2 := 0) (r3 := 0) rfl rfl (by omega) ?_
      refine wk_i ?_
      refine wi_if (cd := .eq) (nx := 40) (r1 := 50) (r2 := 0) (r3 := 0) rfl (by omega) (fun (q54 : 1 = 0) => by exfalso; omega) (fun (q54 : ¬ (1 = 0)) => ?_)
      refine wi_aload_n (i := 0) (x := 236) (nx := 41) (r1 := 0) (r2 := 0) (r3 := 0) rfl rfl ?_
      refine wr_gr (k0 := 236) (x := 239) (nx := 44) (r1 := 11) (r2 := 14) (r3 := 0) rfl rfl (by decide) rfl ⟨rfl, rfl⟩ rfl ?_
      refine wi_iconst (n := 1) (nx := 45) (r1 := 0) (r2 := 0) (r3 := 0) rfl ?_
      refine wi_dup2 (nx := 46) (r1 := 0) (r2 := 0) (r3 := 0) rfl rfl rfl ?_
      refine wr_ia (k0 := 239) (a := 1) (f := 1) (x := 3) (nx := 47) (r1 := 0) (r2 := 0) (r3 := 0) rfl (by decide) rfl (by omega) (by omega) (by decide) ((u51 239 1 rfl).trans ((u33 239 1 rfl).trans ((u22 239 1 rfl).trans q18))) ?_
      refine wi_iconst (n := 1) (nx := 48) (r1 := 0) (r2 := 0) (r3 := 0) rfl ?_
      refine wr_addL (4) (nx := 49) (r1 := 0) (r2 := 0) (r3 := 0) rfl (by decide) ?_
      refine wr_is (k0 := 239) (a := 1) (f := 1) (x := 4) (bl := 0) (bh := 4) (nx := 50) (r1 := 0) (r2 := 0) (r3 := 0) rfl (by decide) rfl (by omega) (by omega) (by decide) g51 rfl (by omega) (fun h55 g55 w55 u55 => ?_)
      have F56 := F52.then rfl u55
      refine wi_return (nx := 51) (r1 := 0) (r2 := 0) (r3 := 0) rfl rfl ?_
      have e57 : h55 236 4 = h33 236 4 := ((u55 236 4 rfl).trans (u51 236 4 rfl))
      have e58 : h55 236 8 = h33 236 8 := ((u55 236 8 rfl).trans (u51 236 8 rfl))
      have e59 : h55 239 5 = h 239 5 := ((u55 239 5 rfl).trans ((u51 239 5 rfl).trans ((u33 239 5 rfl).trans (u22 239 5 rfl))))
      have e60 : h55 239 7 = h 239 7 := ((u55 239 7 rfl).trans ((u51 239 7 rfl).trans ((u33 239 7 rfl).trans (u22 239 7 rfl))))
      have e61 : h55 239 15 = h 239 15 := ((u55 239 15 rfl).trans ((u51 239 15 rfl).trans ((u33 239 15 rfl).trans (u22 239 15 rfl))))
      have e62 : h55 239 16 = h 239 16 := ((u55 239 16 rfl).trans ((u51 239 16 rfl).trans ((u33 239 16 rfl).trans (u22 239 16 rfl))))
      have e63 : h55 239 17 = h 239 17 := ((u55 239 17 rfl).trans ((u51 239 17 rfl).trans ((u33 239 17 rfl).trans (u22 239 17 rfl))))
      have e64 : h55 239 18 = z36 := ((u55 239 18 rfl).trans w51)
      have e65 : h55 236 9 = h33 236 9 := ((u55 236 9 rfl).trans (u51 236 9 rfl))
      have e66 : h55 239 0 = h 239 0 := ((u55 239 0 rfl).trans ((u51 239 0 rfl).trans ((u33 239 0 rfl).trans (u22 239 0 rfl))))
      have e67 : h55 239 1 = 4 := w55
      have e68 : h55 239 2 = h 239 2 := ((u55 239 2 rfl).trans ((u51 239 2 rfl).trans ((u33 239 2 rfl).trans (u22 239 2 rfl))))
      have b69 := gi_b (lo := 0) (hi := 999) g 239 3 rfl
      have e70 : h55 239 3 = h 239 3 := ((u55 239 3 rfl).trans ((u51 239 3 rfl).trans ((u33 239 3 rfl).trans (u22 239 3 rfl))))
      have b71 := gi_b (lo := 0) (hi := 999) g 239 4 rfl
      have e72 : h55 239 4 = h 239 4 := ((u55 239 4 rfl).trans ((u51 239 4 rfl).trans ((u33 239 4 rfl).trans (u22 239 4 rfl))))
      have b73 := gi_b (lo := 0) (hi := 999) g 239 6 rfl
      have e74 : h55 239 6 = h 239 6 := ((u55 239 6 rfl).trans ((u51 239 6 rfl).trans ((u33 239 6 rfl).trans (u22 239 6 rfl))))
      have b75 := gi_b (lo := 0) (hi := 999) g 239 8 rfl
      have e76 : h55 239 8 = h 239 8 := ((u55 239 8 rfl).trans ((u51 239 8 rfl).trans ((u33 239 8 rfl).trans (u22 239 8 rfl))))
      have b77 := gi_b (lo := 0) (hi := 999) g 239 9 rfl
      have e78 : h55 239 9 = h 239 9 := ((u55 239 9 rfl).trans ((u51 239 9 rfl).trans ((u33 239 9 rfl).trans (u22 239 9 rfl))))
      have b79 := gi_b (lo := 0) (hi := 1) g 236 23 rfl
      have e80 : h55 236 23 = h 236 23 := ((u55 236 23 rfl).trans ((u51 236 23 rfl).trans ((u33 236 23 rfl).trans (u22 236 23 rfl))))
      have b81 := gi_b (lo := 0) (hi := 1) g 236 24 rfl
      have e82 : h55 236 24 = h 236 24 := ((u55 236 24 rfl).trans ((u51 236 24 rfl).trans ((u33 236 24 rfl).trans (u22 236 24 rfl))))
      have b83 := gi_b (lo := 0) (hi := 1) g 236 25 rfl
      have e84 : h55 236 25 = h 236 25 := ((u55 236 25 rfl).trans ((u51 236 25 rfl).trans ((u33 236 25 rfl).trans (u22 236 25 rfl))))
      have b85 := gi_b (lo := 0) (hi := 1) g 236 26 rfl
      have e86 : h55 236 26 = h 236 26 := ((u55 236 26 rfl).trans ((u51 236 26 rfl).trans ((u33 236 26 rfl).trans (u22 236 26 rfl))))
      have e87 : h55 236 5 = h33 236 5 := ((u55 236 5 rfl).trans (u51 236 5 rfl))
      have e88 : h55 236 6 = h33 236 6 := ((u55 236 6 rfl).trans (u51 236 6 rfl))
      have e89 : h55 236 7 = h33 236 7 := ((u55 236 7 rfl).trans (u51 236 7 rfl))
      have e90 : h55 236 12 = h33 236 12 := ((u55 236 12 rfl).trans (u51 236 12 rfl))
      exact k h55 g55 F56 (show (h 236 4) ≤ (h55 236 4) by omega) (show (h55 236 4) ≤ (h 236 3) by omega) (show 1 ≤ (h55 236 8) ∨ ((h55 239 5) ≤ 9 ∧ 1 ≤ (h55 239 5) ∧ (h55 239 7) ≤ 3 ∧ (h55 239 15) ≤ 6 ∧ (h55 239 16) ≤ 6 ∧ (h55 239 17) ≤ 6 ∧ (h55 239 18) ≤ 6) from (Or.inr (⟨by omega, by omega, by omega, by omega, by omega, by omega, by omega⟩))) (show (h55 236 8) ≠ 0 ∨ (h55 236 9) = -1 from (Or.inr (by omega))) (by unfold tk_lane; (repeat (first | unfold tk_num | unfold tk_lane)); (try dsimp only); rw [if_neg (by omega)]; (repeat (first | unfold tk_num | unfold tk_lane)); (try dsimp only); rw [if_pos dk48]; (repeat (first | unfold tk_num | unfold tk_lane)); (try dsimp only); rw [if_pos dr49]; (repeat (first | unfold tk_num | unfold tk_lane)); (try dsimp only); exact tk_ORs (by omega) (by first | assumption | exact ⟨by omega, by omega, TKk.mv (by assumption) (by omega) (by omega) (by omega)⟩) (CVr.lane (c := (h 239 1).toNat) xq1 (by omega) (by omega) (fun i _ _ => ((u55 239 i (fn_i (by omega) fn_0)).trans ((u51 239 i (fn_i (by omega) fn_0)).trans ((u33 239 i (fo_nk rfl)).trans (u22 239 i (fo_nk rfl)))))) (fun i _ _ => ((u55 236 i (fn_a (by omega) fn_0)).trans ((u51 236 i (fn_a (by omega) fn_0)).trans ((u33 236 i (fo_gk (m := 12) (by omega) rfl)).trans (u22 236 i (fo_gk (m := 12) (by omega) rfl)))))) (by rw [show 15 + (h 239 1).toNat = 18 by omega]; exact ((u55 239 18 rfl).trans w51).trans (by omega)) (fun i => ((u55 244 i (fn_a (by omega) fn_0)).trans ((u51 244 i (fn_a (by omega) fn_0)).trans ((u33 244 i (fo_nk rfl)).trans (u22 244 i (fo_nk rfl)))))) (by omega) (by omega) (by omega)))
    ·
      clear p33_3
      clear p33_4
      clear p33_5
      have dn47 : TKn (tk_kd tB tn (tk_nx tB tn tp) = 2) := p33_0.2.1
      replace p33_0 : _ := And.intro (p33_0.1) (And.intro (p33_0.2.2.1) (p33_0.2.2.2))
      refine wr_is (k0 := 239) (a := 18) (f := 18) (x := z36) (bl := 0) (bh := 999) (nx := 33) (r1 := 0) (r2 := 0) (r3 := 0) rfl (by decide) rfl (by omega) (by omega) (by decide) g33 rfl (by omega) (fun h48 g48 w48 u48 => ?_)
      have F49 := F38.then rfl u48
      refine wi_aload_n (i := 0) (x := 236) (nx := 34) (r1 := 0) (r2 := 0) (r3 := 0) rfl rfl ?_
      refine wr_V (k0 := 236) (rest := []) (as := [.ref 236]) (nx := 37) (r1 := 219) (r2 := 0) (r3 := 11) rfl rfl rfl (of_decide_eq_true rfl) rfl rfl (by decide) rfl rfl (of_decide_eq_true rfl) (of_decide_eq_true rfl) ?_
      refine wi_aload_n (i := 0) (x := 236) (nx := 1) (r1 := 0) (r2 := 0) (r3 := 0) rfl rfl ?_
      refine wr_gi0 (k0 := 236) (x := h33 236 8) (nx := 4) (r1 := 11) (r2 := 8) (r3 := 0) rfl rfl (by decide) rfl ⟨rfl, rfl⟩ rfl (u48 236 8 rfl) ?_
      refine wi_if (cd := .ne) (nx := 7) (r1 := 11) (r2 := 0) (r3 := 0) rfl (by omega) (fun (q50 : (h33 236 8) ≠ 0) => ?_) (fun (q50 : ¬ ((h33 236 8) ≠ 0)) => by exfalso; omega)
      refine wi_iconst (n := 0) (nx := 12) (r1 := 0) (r2 := 0) (r3 := 0) rfl ?_
      refine wi_zreturn (nx := 13) (r1 := 0) (r2 := 0) (r3 := 0) rfl rfl (by omega) ?_
      refine wk_i ?_
      refine wi_if (cd := .eq) (nx := 40) (r1 := 50) (r2 := 0) (r3 := 0) rfl (by omega) (fun (q51 : 0 = 0) => ?_) (fun (q51 : ¬ (0 = 0)) => by exfalso; omega)
      refine wi_return (nx := 51) (r1 := 0) (r2 := 0) (r3 := 0) rfl rfl ?_
      have e52 : h48 236 4 = h33 236 4 := (u48 236 4 rfl)
      have e53 : h48 236 8 = h33 236 8 := (u48 236 8 rfl)
      have e54 : h48 239 5 = h 239 5 := ((u48 239 5 rfl).trans ((u33 239 5 rfl).trans (u22 239 5 rfl)))
      have e55 : h48 239 7 = h 239 7 := ((u48 239 7 rfl).trans ((u33 239 7 rfl).trans (u22 239 7 rfl)))
      have e56 : h48 239 15 = h 239 15 := ((u48 239 15 rfl).trans ((u33 239 15 rfl).trans (u22 239 15 rfl)))
      have e57 : h48 239 16 = h 239 16 := ((u48 239 16 rfl).trans ((u33 239 16 rfl).trans (u22 239 16 rfl)))
      have e58 : h48 239 17 = h 239 17 := ((u48 239 17 rfl).trans ((u33 239 17 rfl).trans (u22 239 17 rfl)))
      have e59 : h48 239 18 = z36 := w48
      have e60 : h48 236 9 = h33 236 9 := (u48 236 9 rfl)
      exact k h48 g48 F49 (show (h 236 4) ≤ (h48 236 4) by omega) (show (h48 236 4) ≤ (h 236 3) by omega) (show 1 ≤ (h48 236 8) ∨ ((h48 239 5) ≤ 9 ∧ 1 ≤ (h48 239 5) ∧ (h48 239 7) ≤ 3 ∧ (h48 239 15) ≤ 6 ∧ (h48 239 16) ≤ 6 ∧ (h48 239 17) ≤ 6 ∧ (h48 239 18) ≤ 6) from (Or.inl (by omega))) (show (h48 236 8) ≠ 0 ∨ (h48 236 9) = -1 from (Or.inl (by omega))) (by unfold tk_lane; (repeat (first | unfold tk_num | unfold tk_lane)); (try dsimp only); rw [if_neg (by omega)]; (repeat (first | unfold tk_num | unfold tk_lane)); (try dsimp only); rw [if_neg dn47.no]; (repeat (first | unfold tk_num | unfold tk_lane)); (try dsimp only); exact tk_ORe (by omega) (by omega) (by omega))
    ·
      clear p33_3
      clear p33_4
      clear p33_5
      have dk47 : tk_kd tB tn (tk_nx tB tn tp) = 2 := p33_0.2.1
      have dr48 : TKn (1 ≤ tk_nb tB tn (tk_nx tB tn tp) ∧ tk_nb tB tn (tk_nx tB tn tp) ≤ 6) := tkn_r p33_0.2.2.1
      replace p33_0 : _ := And.intro (p33_0.1) (And.intro (p33_0.2.1) (And.intro (p33_0.2.2.2.1) (p33_0.2.2.2.2)))
      refine wr_is (k0 := 239) (a := 18) (f := 18) (x := z36) (bl := 0) (bh := 999) (nx := 33) (r1 := 0) (r2 := 0) (r3 := 0) rfl (by decide) rfl (by omega) (by omega) (by decide) g33 rfl (by omega) (fun h49 g49 w49 u49 => ?_)
      have F50 := F38.then rfl u49
      refine wi_aload_n (i := 0) (x := 236) (nx := 34) (r1 := 0) (r2 := 0) (r3 := 0) rfl rfl ?_
      refine wr_V (k0 := 236) (rest := []) (as := [.ref 236]) (nx := 37) (r1 := 219) (r2 := 0) (r3 := 11) rfl rfl rfl (of_decide_eq_true rfl) rfl rfl (by decide) rfl rfl (of_decide_eq_true rfl) (of_decide_eq_true rfl) ?_
      refine wi_aload_n (i := 0) (x := 236) (nx := 1) (r1 := 0) (r2 := 0) (r3 := 0) rfl rfl ?_
      refine wr_gi0 (k0 := 236) (x := h33 236 8) (nx := 4) (r1 := 11) (r2 := 8) (r3 := 0) rfl rfl (by decide) rfl ⟨rfl, rfl⟩ rfl (u49 236 8 rfl) ?_
      refine wi_if (cd := .ne) (nx := 7) (r1 := 11) (r2 := 0) (r3 := 0) rfl (by omega) (fun (q51 : (h33 236 8) ≠ 0) => ?_) (fun (q51 : ¬ ((h33 236 8) ≠ 0)) => by exfalso; omega)
      refine wi_iconst (n := 0) (nx := 12) (r1 := 0) (r2 := 0) (r3 := 0) rfl ?_
      refine wi_zreturn (nx := 13) (r1 := 0) (r2 := 0) (r3 := 0) rfl rfl (by omega) ?_
      refine wk_i ?_
      refine wi_if (cd := .eq) (nx := 40) (r1 := 50) (r2 := 0) (r3 := 0) rfl (by omega) (fun (q52 : 0 = 0) => ?_) (fun (q52 : ¬ (0 = 0)) => by exfalso; omega)
      refine wi_return (nx := 51) (r1 := 0) (r2 := 0) (r3 := 0) rfl rfl ?_
      have e53 : h49 236 4 = h33 236 4 := (u49 236 4 rfl)
      have e54 : h49 236 8 = h33 236 8 := (u49 236 8 rfl)
      have e55 : h49 239 5 = h 239 5 := ((u49 239 5 rfl).trans ((u33 239 5 rfl).trans (u22 239 5 rfl)))
      have e56 : h49 239 7 = h 239 7 := ((u49 239 7 rfl).trans ((u33 239 7 rfl).trans (u22 239 7 rfl)))
      have e57 : h49 239 15 = h 239 15 := ((u49 239 15 rfl).trans ((u33 239 15 rfl).trans (u22 239 15 rfl)))
      have e58 : h49 239 16 = h 239 16 := ((u49 239 16 rfl).trans ((u33 239 16 rfl).trans (u22 239 16 rfl)))
      have e59 : h49 239 17 = h 239 17 := ((u49 239 17 rfl).trans ((u33 239 17 rfl).trans (u22 239 17 rfl)))
      have e60 : h49 239 18 = z36 := w49
      have e61 : h49 236 9 = h33 236 9 := (u49 236 9 rfl)
      exact k h49 g49 F50 (show (h 236 4) ≤ (h49 236 4) by omega) (show (h49 236 4) ≤ (h 236 3) by omega) (show 1 ≤ (h49 236 8) ∨ ((h49 239 5) ≤ 9 ∧ 1 ≤ (h49 239 5) ∧ (h49 239 7) ≤ 3 ∧ (h49 239 15) ≤ 6 ∧ (h49 239 16) ≤ 6 ∧ (h49 239 17) ≤ 6 ∧ (h49 239 18) ≤ 6) from (Or.inl (by omega))) (show (h49 236 8) ≠ 0 ∨ (h49 236 9) = -1 from (Or.inl (by omega))) (by unfold tk_lane; (repeat (first | unfold tk_num | unfold tk_lane)); (try dsimp only); rw [if_neg (by omega)]; (repeat (first | unfold tk_num | unfold tk_lane)); (try dsimp only); rw [if_pos dk47]; (repeat (first | unfold tk_num | unfold tk_lane)); (try dsimp only); rw [if_neg dr48.no]; (repeat (first | unfold tk_num | unfold tk_lane)); (try dsimp only); exact tk_ORe (by omega) (by omega) (by omega))
  ·
    refine wr_ia (k0 := 239) (a := 1) (f := 1) (x := 4) (nx := 6) (r1 := 0) (r2 := 0) (r3 := 0) rfl (by decide) rfl (by omega) (by omega) (by decide) q18 ?_
    refine wi_istore_n (i := 1) (e := 4) (lo2 := [(1, vi 4), (0, .ref 236)]) (nx := 7) (r1 := 0) (r2 := 0) (r3 := 0) rfl rfl ?_
    refine wi_aload_n (i := 0) (x := 236) (nx := 8) (r1 := 0) (r2 := 0) (r3 := 0) rfl rfl ?_
    refine wi_iconst (n := 1) (nx := 9) (r1 := 0) (r2 := 0) (r3 := 0) rfl ?_
    refine wi_iconst (n := 4) (nx := 10) (r1 := 0) (r2 := 0) (r3 := 0) rfl ?_
    refine wr_V (k0 := 236) (rest := []) (as := [.ref 236, vi 1, vi 4]) (nx := 13) (r1 := 223) (r2 := 2) (r3 := 11) rfl rfl rfl (of_decide_eq_true rfl) rfl rfl (by decide) rfl rfl (of_decide_eq_true rfl) (of_decide_eq_true rfl) ?_
    refine wi_aload_n (i := 0) (x := 236) (nx := 1) (r1 := 0) (r2 := 0) (r3 := 0) rfl rfl ?_
    refine wr_gr (k0 := 236) (x := 239) (nx := 4) (r1 := 11) (r2 := 14) (r3 := 0) rfl rfl (by decide) rfl ⟨rfl, rfl⟩ rfl ?_
    refine wi_iload_n (i := 1) (e := 1) (nx := 5) (r1 := 0) (r2 := 0) (r3 := 0) rfl rfl ?_
    refine wr_ia (k0 := 239) (a := 1) (f := 1) (x := 4) (nx := 6) (r1 := 0) (r2 := 0) (r3 := 0) rfl (by decide) rfl (by omega) (by omega) (by decide) q18 ?_
    refine wi_iload_n (i := 2) (e := 4) (nx := 7) (r1 := 0) (r2 := 0) (r3 := 0) rfl rfl ?_
    refine wi_icmp (cd := .ne) (nx := 10) (r1 := 15) (r2 := 0) (r3 := 0) rfl (by omega) (by omega) (fun (q19 : 4 ≠ 4) => by exfalso; omega) (fun (q19 : ¬ (4 ≠ 4)) => ?_)
    refine wi_aload_n (i := 0) (x := 236) (nx := 11) (r1 := 0) (r2 := 0) (r3 := 0) rfl rfl ?_
    refine wi_iconst (n := 5) (nx := 12) (r1 := 0) (r2 := 0) (r3 := 0) rfl ?_
    refine wr_V (k0 := 236) (rest := []) (as := [.ref 236, vi 5]) (nx := 15) (r1 := 224) (r2 := 1) (r3 := 11) rfl rfl rfl (of_decide_eq_true rfl) rfl rfl (by decide) rfl rfl (of_decide_eq_true rfl) (of_decide_eq_true rfl) ?_
    refine ct_224_236 hcr  g 5 (by omega)  (fun h20 g20 u20 (p20_0 : 1 ≤ (h20 236 8)) (p20_1 : (1 ≤ (h 236 8) ∧ (h20 236 8) = (h 236 8) ∧ (h20 236 9) = (h 236 9)) ∨ ((h 236 8) = 0 ∧ (h20 236 9) = (h 236 5) ∧ (((h 236 6) = 4 ∧ (h20 236 8) = 1) ∨ ((h 236 6) ≠ 4 ∧ (h20 236 8) = 5)))) => ?_)
    have F21 := F0.then (by decide +kernel) u20
    have b22 := gi_b (lo := 0) (hi := 5) g20 236 8 rfl
    have b23 := gi_b (lo := -2147483648) (hi := 2147483647) g20 236 9 rfl
    replace p20_1 := p20_1.resolve_left (by omega)
    have ws24 : h 236 6 ≠ 4 := fun e => absurd (TKk.e4 (B := tB) (n := tn) (p := tp) (a6 := h 236 6) (by assumption) (e)) (show tk_kd tB tn tp ≠ 6 by omega)
    replace p20_1 := And.intro p20_1.2.1 (p20_1.2.2.resolve_left (fun x => ws24 x.1)).2
    clear ws24
    refine wk_n ?_
    refine wi_aload_n (i := 0) (x := 236) (nx := 16) (r1 := 0) (r2 := 0) (r3 := 0) rfl rfl ?_
    refine wr_V (k0 := 236) (rest := []) (as := [.ref 236]) (nx := 19) (r1 := 219) (r2 := 0) (r3 := 11) rfl rfl rfl (of_decide_eq_true rfl) rfl rfl (by decide) rfl rfl (of_decide_eq_true rfl) (of_decide_eq_true rfl) ?_
    refine wi_aload_n (i := 0) (x := 236) (nx := 1) (r1 := 0) (r2 := 0) (r3 := 0) rfl rfl ?_
    refine wr_gi0 (k0 := 236) (x := h20 236 8) (nx := 4) (r1 := 11) (r2 := 8) (r3 := 0) rfl rfl (by decide) rfl ⟨rfl, rfl⟩ rfl rfl ?_
    refine wi_if (cd := .ne) (nx := 7) (r1 := 11) (r2 := 0) (r3 := 0) rfl (by omega) (fun (q25 : (h20 236 8) ≠ 0) => ?_) (fun (q25 : ¬ ((h20 236 8) ≠ 0)) => by exfalso; omega)
    refine wi_iconst (n := 0) (nx := 12) (r1 := 0) (r2 := 0) (r3 := 0) rfl ?_
    refine wi_zreturn (nx := 13) (r1 := 0) (r2 := 0) (r3 := 0) rfl rfl (by omega) ?_
    refine wk_i ?_
    refine wi_if (cd := .eq) (nx := 22) (r1 := 26) (r2 := 0) (r3 := 0) rfl (by omega) (fun (q26 : 0 = 0) => ?_) (fun (q26 : ¬ (0 = 0)) => by exfalso; omega)
    refine wi_aload_n (i := 0) (x := 236) (nx := 27) (r1 := 0) (r2 := 0) (r3 := 0) rfl rfl ?_
    refine wr_V (k0 := 236) (rest := []) (as := [.ref 236]) (nx := 30) (r1 := 219) (r2 := 0) (r3 := 11) rfl rfl rfl (of_decide_eq_true rfl) rfl rfl (by decide) rfl rfl (of_decide_eq_true rfl) (of_decide_eq_true rfl) ?_
    refine wi_aload_n (i := 0) (x := 236) (nx := 1) (r1 := 0) (r2 := 0) (r3 := 0) rfl rfl ?_
    refine wr_gi0 (k0 := 236) (x := h20 236 8) (nx := 4) (r1 := 11) (r2 := 8) (r3 := 0) rfl rfl (by decide) rfl ⟨rfl, rfl⟩ rfl rfl ?_
    refine wi_if (cd := .ne) (nx := 7) (r1 := 11) (r2 := 0) (r3 := 0) rfl (by omega) (fun (q27 : (h20 236 8) ≠ 0) => ?_) (fun (q27 : ¬ ((h20 236 8) ≠ 0)) => by exfalso; omega)
    refine wi_iconst (n := 0) (nx := 12) (r1 := 0) (r2 := 0) (r3 := 0) rfl ?_
    refine wi_zreturn (nx := 13) (r1 := 0) (r2 := 0) (r3 := 0) rfl rfl (by omega) ?_
    refine wk_i ?_
    refine wi_zreturn (nx := 31) (r1 := 0) (r2 := 0) (r3 := 0) rfl rfl (by omega) ?_
    refine wk_i ?_
    refine wi_if (cd := .ne) (nx := 16) (r1 := 17) (r2 := 0) (r3 := 0) rfl (by omega) (fun (q28 : 0 ≠ 0) => by exfalso; omega) (fun (q28 : ¬ (0 ≠ 0)) => ?_)
    refine wi_return (nx := 17) (r1 := 0) (r2 := 0) (r3 := 0) rfl rfl ?_
    have e29 : h20 236 4 = h 236 4 := (u20 236 4 rfl)
    have e30 : h20 239 5 = h 239 5 := (u20 239 5 rfl)
    have e31 : h20 239 7 = h 239 7 := (u20 239 7 rfl)
    have e32 : h20 239 15 = h 239 15 := (u20 239 15 rfl)
    have e33 : h20 239 16 = h 239 16 := (u20 239 16 rfl)
    have e34 : h20 239 17 = h 239 17 := (u20 239 17 rfl)
    have e35 : h20 239 18 = h 239 18 := (u20 239 18 rfl)
    exact k h20 g20 F21 (show (h 236 4) ≤ (h20 236 4) by omega) (show (h20 236 4) ≤ (h 236 3) by omega) (show 1 ≤ (h20 236 8) ∨ ((h20 239 5) ≤ 9 ∧ 1 ≤ (h20 239 5) ∧ (h20 239 7) ≤ 3 ∧ (h20 239 15) ≤ 6 ∧ (h20 239 16) ≤ 6 ∧ (h20 239 17) ≤ 6 ∧ (h20 239 18) ≤ 6) from (Or.inl (by omega))) (show (h20 236 8) ≠ 0 ∨ (h20 236 9) = -1 from (Or.inl (by omega))) (by unfold tk_lane; (repeat (first | unfold tk_num | unfold tk_lane)); (try dsimp only); rw [if_pos (by omega)]; (repeat (first | unfold tk_num | unfold tk_lane)); (try dsimp only); exact tk_ORe (by omega) (by omega) (by omega))
