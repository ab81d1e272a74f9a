-- method 222: Model.readsColor()V
set_option maxRecDepth 100000 in
set_option maxHeartbeats 100000000 in
theorem ct_222_236 {L : Nat} {xs : Nat → Int32} {d b c : Nat} {h : hp} {cr : Nat → Nat → Option Nat} {Q : hp_Q} (hcr : CR cr)  {tB : Nat → Int} {tn tp : Int} {tS : tk_S} (g : GI h)   (pp0 : h 236 4 ≤ h 236 3) (pp1 : 0 ≤ tp) (pp2 : tp ≤ tn) (pp3 : tp ≤ tk_nx tB tn tp ∧ tk_nx tB tn tp ≤ tn) (pp4 : h 236 8 = 0) (pp5 : h 239 5 ≤ 9) (pp6 : 1 ≤ h 239 5) (pp7 : h 239 7 ≤ 3) (pp8 : h 239 15 ≤ 6) (pp9 : h 239 16 ≤ 6) (pp10 : h 239 17 ≤ 6) (pp11 : h 239 18 ≤ 6) (pp12 : (h 236 4 = tk_nx tB tn tp ∧ h 236 5 = tk_st tB tn tp ∧ TKk tB tn tp (h 236 6) (h 236 7) (h 236 12))) (pp13 : tS 0 ≤ 5 ∧ tS 1 ≤ 4 ∧ tS 2 ≤ 12) (pp14 : h 236 9 = -1) (pp15 : tk_kd tB tn tp = 1) (xq0 : RefB tB tn h) (xq1 : CVr tS h) (k : ∀ (h2 : hp) , GI h2 → FR [(244, 244, none), (236, 236, some (4, 4)), (236, 236, some (5, 5)), (236, 236, some (6, 6)), (236, 236, some (7, 7)), (236, 236, some (8, 8)), (236, 236, some (9, 9)), (236, 236, some (12, 12)), (239, 239, some (0, 0)), (239, 239, some (10, 14))] h h2 → (h 236 4 ≤ h2 236 4) → (h2 236 4 ≤ h 236 3) → (1 ≤ h2 236 8 ∨ (h2 239 5 ≤ 9 ∧ 1 ≤ h2 239 5 ∧ h2 239 7 ≤ 3 ∧ h2 239 15 ≤ 6 ∧ h2 239 16 ≤ 6 ∧ h2 239 17 ≤ 6 ∧ h2 239 18 ≤ 6)) → (h2 236 8 ≠ 0 ∨ h2 236 9 = -1) → (tk_OR tB tn (tk_color tB tn tp tS) h2) → Q (.inl none) (hp_w h2 cr) b c) : wp (md_xa (L, xs)) (d + 5) 222 (0, [(0, .ref 236)], [], hp_w h cr, b, c) Q := by
  have F0 : FR [(244, 244, none), (236, 236, some (4, 4)), (236, 236, some (5, 5)), (236, 236, some (6, 6)), (236, 236, some (7, 7)), (236, 236, some (8, 8)), (236, 236, some (9, 9)), (236, 236, some (12, 12)), (239, 239, some (0, 0)), (239, 239, some (10, 14))] h h := FR.refl
  have tb_1 : h 236 3 = tn := xq0.2.1
  have tb_2 : 0 ≤ tn ∧ tn ≤ 800 := xq0.2.2
  obtain ⟨⟨rv_0, rv_1, rv_2, rv_3, rv_4, rv_5, rv_6, rv_7, rv_8, rv_9⟩, ⟨rf_0, rf_1, rf_2, rf_3⟩, -⟩ := id xq1
  have b1 := gi_b (lo := 0) (hi := 5) g 239 0 rfl
  have b2 := gi_b (lo := 0) (hi := 4) g 239 1 rfl
  have b3 := gi_b (lo := 0) (hi := 12) g 239 2 rfl
  have tkk0_ := pp12.2.2
  have b4 := gi_b (lo := 0) (hi := 800) g 236 4 rfl
  have b5 := gi_b (lo := 0) (hi := 800) g 236 3 rfl
  have b6 := gi_b (lo := 0) (hi := 5) g 236 8 rfl
  have b7 := gi_b (lo := 0) (hi := 999) g 239 5 rfl
  have b8 := gi_b (lo := 0) (hi := 999) g 239 7 rfl
  have b9 := gi_b (lo := 0) (hi := 999) g 239 15 rfl
  have b10 := gi_b (lo := 0) (hi := 999) g 239 16 rfl
  have b11 := gi_b (lo := 0) (hi := 999) g 239 17 rfl
  have b12 := gi_b (lo := 0) (hi := 999) g 239 18 rfl
  have b13 := gi_b (lo := 0) (hi := 800) g 236 5 rfl
  have b14 := gi_b (lo := 0) (hi := 4) g 236 6 rfl
  have b15 := gi_b (lo := 0) (hi := 999) g 236 7 rfl
  have b16 := gi_b (lo := -9223372036854775808) (hi := 9223372036854775807) g 236 12 rfl
  have b17 := gi_b (lo := -2147483648) (hi := 2147483647) g 236 9 rfl
  refine wi_aload_n (i := 0) (x := 236) (nx := 1) (r1 := 0) (r2 := 0) (r3 := 0) rfl rfl ?_
  refine wr_gr (k0 := 236) (x := 239) (nx := 4) (r1 := 11) (r2 := 14) (r3 := 0) rfl rfl (by decide) rfl ⟨rfl, rfl⟩ rfl ?_
  refine wi_iconst (n := 0) (nx := 5) (r1 := 0) (r2 := 0) (r3 := 0) rfl ?_
  refine wr_ia (k0 := 239) (a := 0) (f := 0) (x := h 239 0) (nx := 6) (r1 := 0) (r2 := 0) (r3 := 0) rfl (by decide) rfl (by omega) (by omega) (by decide) rfl ?_
  refine wi_istore_n (i := 1) (e := h 239 0) (lo2 := [(1, vi (h 239 0)), (0, .ref 236)]) (nx := 7) (r1 := 0) (r2 := 0) (r3 := 0) rfl rfl ?_
  refine wi_aload_n (i := 0) (x := 236) (nx := 8) (r1 := 0) (r2 := 0) (r3 := 0) rfl rfl ?_
  refine wi_iconst (n := 0) (nx := 9) (r1 := 0) (r2 := 0) (r3 := 0) rfl ?_
  refine wi_iconst (n := 5) (nx := 10) (r1 := 0) (r2 := 0) (r3 := 0) rfl ?_
  refine wr_V (k0 := 236) (rest := []) (as := [.ref 236, vi 0, vi 5]) (nx := 13) (r1 := 223) (r2 := 2) (r3 := 11) rfl rfl rfl (of_decide_eq_true rfl) rfl rfl (by decide) rfl rfl (of_decide_eq_true rfl) (of_decide_eq_true rfl) ?_
  refine wi_aload_n (i := 0) (x := 236) (nx := 1) (r1 := 0) (r2 := 0) (r3 := 0) rfl rfl ?_
  refine wr_gr (k0 := 236) (x := 239) (nx := 4) (r1 := 11) (r2 := 14) (r3 := 0) rfl rfl (by decide) rfl ⟨rfl, rfl⟩ rfl ?_
  refine wi_iload_n (i := 1) (e := 0) (nx := 5) (r1 := 0) (r2 := 0) (r3 := 0) rfl rfl ?_
  refine wr_ia (k0 := 239) (a := 0) (f := 0) (x := h 239 0) (nx := 6) (r1 := 0) (r2 := 0) (r3 := 0) rfl (by decide) rfl (by omega) (by omega) (by decide) rfl ?_
  refine wi_iload_n (i := 2) (e := 5) (nx := 7) (r1 := 0) (r2 := 0) (r3 := 0) rfl rfl ?_
  refine wi_icmp (cd := .ne) (nx := 10) (r1 := 15) (r2 := 0) (r3 := 0) rfl (by omega) (by omega) (fun (q18 : (h 239 0) ≠ 5) => ?_) (fun (q18 : ¬ ((h 239 0) ≠ 5)) => ?_)
  ·
    replace q18 : (h 239 0) + 1 ≤ 5 := by omega
    refine wi_aload_n (i := 0) (x := 236) (nx := 16) (r1 := 0) (r2 := 0) (r3 := 0) rfl rfl ?_
    refine wr_V (k0 := 236) (rest := []) (as := [.ref 236]) (nx := 19) (r1 := 219) (r2 := 0) (r3 := 11) rfl rfl rfl (of_decide_eq_true rfl) rfl rfl (by decide) rfl rfl (of_decide_eq_true rfl) (of_decide_eq_true rfl) ?_
    refine wi_aload_n (i := 0) (x := 236) (nx := 1) (r1 := 0) (r2 := 0) (r3 := 0) rfl rfl ?_
    refine wr_gi0 (k0 := 236) (x := h 236 8) (nx := 4) (r1 := 11) (r2 := 8) (r3 := 0) rfl rfl (by decide) rfl ⟨rfl, rfl⟩ rfl rfl ?_
    refine wi_if (cd := .ne) (nx := 7) (r1 := 11) (r2 := 0) (r3 := 0) rfl (by omega) (fun (q19 : (h 236 8) ≠ 0) => by exfalso; omega) (fun (q19 : ¬ ((h 236 8) ≠ 0)) => ?_)
    refine wi_iconst (n := 1) (nx := 8) (r1 := 0) (r2 := 0) (r3 := 0) rfl ?_
    refine wi_goto (nx := 11) (r1 := 12) (r2 := 0) (r3 := 0) rfl ?_
    refine wi_zreturn (nx := 13) (r1 := 0) (r2 := 0) (r3 := 0) rfl rfl (by omega) ?_
    refine wk_i ?_
    refine wi_if (cd := .eq) (nx := 22) (r1 := 26) (r2 := 0) (r3 := 0) rfl (by omega) (fun (q20 : 1 = 0) => by exfalso; omega) (fun (q20 : ¬ (1 = 0)) => ?_)
    refine wi_aload_n (i := 0) (x := 236) (nx := 23) (r1 := 0) (r2 := 0) (r3 := 0) rfl rfl ?_
    refine wr_V (k0 := 236) (rest := []) (as := [.ref 236]) (nx := 26) (r1 := 215) (r2 := 0) (r3 := 11) rfl rfl rfl (of_decide_eq_true rfl) rfl rfl (by decide) rfl rfl (of_decide_eq_true rfl) (of_decide_eq_true rfl) ?_
    refine ct_215_236 hcr  g   (show (h 236 4) ≤ (h 236 3) by omega) (show (h 236 4) = (tk_nx tB tn tp) by omega) (show 0 ≤ (tk_nx tB tn tp) by omega) (show (tk_nx tB tn tp) ≤ tn by omega) xq0 (fun h21 g21 u21 (p21_0 : (h 236 4) ≤ (h21 236 4)) (p21_1 : (h21 236 4) ≤ (h 236 3)) (p21_2 : ((h21 236 4) = tk_nx tB tn (tk_nx tB tn tp) ∧ (h21 236 5) = tk_st tB tn (tk_nx tB tn tp) ∧ TKk tB tn (tk_nx tB tn tp) ((h21 236 6)) ((h21 236 7)) ((h21 236 12)))) (p21_3 : (tk_nx tB tn tp) ≤ tk_nx tB tn (tk_nx tB tn tp) ∧ tk_nx tB tn (tk_nx tB tn tp) ≤ tn) => ?_)
    have F22 := F0.then (by decide +kernel) u21
    have b23 := gi_b (lo := 0) (hi := 800) g21 236 4 rfl
    have b24 := gi_b (lo := 0) (hi := 800) g21 236 5 rfl
    have b25 := gi_b (lo := 0) (hi := 4) g21 236 6 rfl
    have b26 := gi_b (lo := 0) (hi := 999) g21 236 7 rfl
    have b27 := gi_b (lo := -9223372036854775808) (hi := 9223372036854775807) g21 236 12 rfl
    have tkk28 := p21_2.2.2
    have tN29 := @tk_nx_b tB tn (tk_nx tB tn tp) (by omega) (by omega)
    refine wk_n ?_
    refine wi_aload_n (i := 0) (x := 236) (nx := 27) (r1 := 0) (r2 := 0) (r3 := 0) rfl rfl ?_
    refine wr_V (k0 := 236) (rest := []) (as := [.ref 236]) (nx := 30) (r1 := 219) (r2 := 0) (r3 := 11) rfl rfl rfl (of_decide_eq_true rfl) rfl rfl (by decide) rfl rfl (of_decide_eq_true rfl) (of_decide_eq_true rfl) ?_
    refine wi_aload_n (i := 0) (x := 236) (nx := 1) (r1 := 0) (r2 := 0) (r3 := 0) rfl rfl ?_
    refine wr_gi0 (k0 := 236) (x := h 236 8) (nx := 4) (r1 := 11) (r2 := 8) (r3 := 0) rfl rfl (by decide) rfl ⟨rfl, rfl⟩ rfl (u21 236 8 rfl) ?_
    refine wi_if (cd := .ne) (nx := 7) (r1 := 11) (r2 := 0) (r3 := 0) rfl (by omega) (fun (q30 : (h 236 8) ≠ 0) => by exfalso; omega) (fun (q30 : ¬ ((h 236 8) ≠ 0)) => ?_)
    refine wi_iconst (n := 1) (nx := 8) (r1 := 0) (r2 := 0) (r3 := 0) rfl ?_
    refine wi_goto (nx := 11) (r1 := 12) (r2 := 0) (r3 := 0) rfl ?_
    refine wi_zreturn (nx := 13) (r1 := 0) (r2 := 0) (r3 := 0) rfl rfl (by omega) ?_
    refine wk_i ?_
    refine wi_zreturn (nx := 31) (r1 := 0) (r2 := 0) (r3 := 0) rfl rfl (by omega) ?_
    refine wk_i ?_
    refine wi_if (cd := .ne) (nx := 16) (r1 := 17) (r2 := 0) (r3 := 0) rfl (by omega) (fun (q31 : 1 ≠ 0) => ?_) (fun (q31 : ¬ (1 ≠ 0)) => by exfalso; omega)
    refine wi_aload_n (i := 0) (x := 236) (nx := 18) (r1 := 0) (r2 := 0) (r3 := 0) rfl rfl ?_
    refine wr_V (k0 := 236) (rest := []) (as := [.ref 236]) (nx := 21) (r1 := 225) (r2 := 0) (r3 := 11) rfl rfl rfl (of_decide_eq_true rfl) rfl rfl (by decide) rfl rfl (of_decide_eq_true rfl) (of_decide_eq_true rfl) ?_
    have e33 : h21 236 8 = h 236 8 := (u21 236 8 rfl)
    have rb34 := RefB.fr u21 rfl xq0
    refine ct_225_236 hcr  g21   (show 0 ≤ (tk_nx tB tn tp) by omega) (show (tk_nx tB tn tp) ≤ tn by omega) (show (tk_nx tB tn tp) ≤ tk_nx tB tn (tk_nx tB tn tp) ∧ tk_nx tB tn (tk_nx tB tn tp) ≤ tn from ⟨by omega, by omega⟩) (show 1 ≤ (h21 236 8) ∨ ((h21 236 4) = tk_nx tB tn (tk_nx tB tn tp) ∧ (h21 236 5) = tk_st tB tn (tk_nx tB tn tp) ∧ TKk tB tn (tk_nx tB tn tp) ((h21 236 6)) ((h21 236 7)) ((h21 236 12))) from (Or.inr (show ((h21 236 4) = tk_nx tB tn (tk_nx tB tn tp) ∧ (h21 236 5) = tk_st tB tn (tk_nx tB tn tp) ∧ TKk tB tn (tk_nx tB tn tp) ((h21 236 6)) ((h21 236 7)) ((h21 236 12))) by first | assumption | exact ⟨by omega, by omega, TKk.mv (by assumption) (by omega) (by omega) (by omega)⟩))) rb34 (fun h32 g32 u32 (p32_0 : (1 ≤ (h21 236 8) ∧ (h32 236 8) = (h21 236 8) ∧ (h32 236 9) = (h21 236 9)) ∨ ((h21 236 8) = 0 ∧ tk_kd tB tn (tk_nx tB tn tp) = 1 ∧ tk_wd (tk_lw tB tn (tk_nx tB tn tp)) = 21 ∧ (h32 236 8) = (h21 236 8) ∧ (h32 236 9) = (h21 236 9)) ∨ ((h21 236 8) = 0 ∧ (tk_kd tB tn (tk_nx tB tn tp) ≠ 1 ∨ tk_wd (tk_lw tB tn (tk_nx tB tn tp)) ≠ 21) ∧ (h32 236 8) = 1 ∧ (h32 236 9) = tk_st tB tn (tk_nx tB tn tp))) (p32_1 : 1 ≤ (h32 236 8) ∨ (h21 236 8) = 0) => ?_)
    have F35 := F22.then (by decide +kernel) u32
    have e36 : h21 236 9 = h 236 9 := (u21 236 9 rfl)
    have b37 := gi_b (lo := 0) (hi := 5) g32 236 8 rfl
    have b38 := gi_b (lo := -2147483648) (hi := 2147483647) g32 236 9 rfl
    refine wk_n ?_
    rcases p32_0 with p32_0 | p32_0 | p32_0
    ·
      exfalso; omega
    ·
      replace p32_1 := p32_1.resolve_left (by omega)
      have dw39 : tk_kd tB tn (tk_nx tB tn tp) = 1 ∧ tk_wd (tk_lw tB tn (tk_nx tB tn tp)) = 21 := ⟨p32_0.2.1, p32_0.2.2.1⟩
      refine wi_aload_n (i := 0) (x := 236) (nx := 22) (r1 := 0) (r2 := 0) (r3 := 0) rfl rfl ?_
      refine wr_V (k0 := 236) (rest := []) (as := [.ref 236]) (nx := 25) (r1 := 219) (r2 := 0) (r3 := 11) rfl rfl rfl (of_decide_eq_true rfl) rfl rfl (by decide) rfl rfl (of_decide_eq_true rfl) (of_decide_eq_true rfl) ?_
      refine wi_aload_n (i := 0) (x := 236) (nx := 1) (r1 := 0) (r2 := 0) (r3 := 0) rfl rfl ?_
      refine wr_gi0 (k0 := 236) (x := h32 236 8) (nx := 4) (r1 := 11) (r2 := 8) (r3 := 0) rfl rfl (by decide) rfl ⟨rfl, rfl⟩ rfl rfl ?_
      refine wi_if (cd := .ne) (nx := 7) (r1 := 11) (r2 := 0) (r3 := 0) rfl (by omega) (fun (q40 : (h32 236 8) ≠ 0) => by exfalso; omega) (fun (q40 : ¬ ((h32 236 8) ≠ 0)) => ?_)
      refine wi_iconst (n := 1) (nx := 8) (r1 := 0) (r2 := 0) (r3 := 0) rfl ?_
      refine wi_goto (nx := 11) (r1 := 12) (r2 := 0) (r3 := 0) rfl ?_
      refine wi_zreturn (nx := 13) (r1 := 0) (r2 := 0) (r3 := 0) rfl rfl (by omega) ?_
      refine wk_i ?_
      refine wi_if (cd := .eq) (nx := 28) (r1 := 41) (r2 := 0) (r3 := 0) rfl (by omega) (fun (q41 : 1 = 0) => by exfalso; omega) (fun (q41 : ¬ (1 = 0)) => ?_)
      refine wi_aload_n (i := 0) (x := 236) (nx := 29) (r1 := 0) (r2 := 0) (r3 := 0) rfl rfl ?_
      refine wr_V (k0 := 236) (rest := []) (as := [.ref 236]) (nx := 32) (r1 := 227) (r2 := 0) (r3 := 11) rfl rfl rfl (of_decide_eq_true rfl) rfl rfl (by decide) rfl rfl (of_decide_eq_true rfl) (of_decide_eq_true rfl) ?_
      have e43 : h32 236 12 = h21 236 12 := (u32 236 12 rfl)
      have rb45 := RefB.fr u32 rfl rb34
      have cr46 := CVr.fr u21 rfl xq1
      have cr47 := CVr.fr u32 rfl cr46
      refine ct_227_236 hcr  g32   (show 0 ≤ (tk_nx tB tn tp) by omega) (show (tk_nx tB tn tp) ≤ tn by omega) (show (tk_nx tB tn tp) ≤ tk_nx tB tn (tk_nx tB tn tp) ∧ tk_nx tB tn (tk_nx tB tn tp) ≤ tn from ⟨by omega, by omega⟩) (show tk_kd tB tn (tk_nx tB tn tp) = 1 → (h32 236 12) = tk_sw tB tn (tk_nx tB tn tp) by intro e; have kq := TKk.w (B := tB) (n := tn) (p := (tk_nx tB tn tp)) (by assumption) e; omega) rb45 cr47 (fun z44  (fz44 : 0 ≤ z44 ∧ z44 ≤ 5) (p42_0 : z44 ≤ (h32 239 0)) y42_0 => ?_)
      have e48 : h32 239 0 = h 239 0 := ((u32 239 0 rfl).trans (u21 239 0 rfl))
      refine wk_i ?_
      have nd49 : z44 = tk_fi tS (tk_lw tB tn (tk_nx tB tn tp)) := y42_0 (by omega)
      clear y42_0
      refine wi_iload_n (i := 1) (e := h 239 0) (nx := 33) (r1 := 0) (r2 := 0) (r3 := 0) rfl rfl ?_
      refine wi_icmp (cd := .ge) (nx := 36) (r1 := 41) (r2 := 0) (r3 := 0) rfl (by omega) (by omega) (fun (q50 : (h 239 0) ≤ z44) => ?_) (fun (q50 : ¬ ((h 239 0) ≤ z44)) => ?_)
      ·
        refine wi_aload_n (i := 0) (x := 236) (nx := 42) (r1 := 0) (r2 := 0) (r3 := 0) rfl rfl ?_
        refine wr_V (k0 := 236) (rest := []) (as := [.ref 236]) (nx := 45) (r1 := 219) (r2 := 0) (r3 := 11) rfl rfl rfl (of_decide_eq_true rfl) rfl rfl (by decide) rfl rfl (of_decide_eq_true rfl) (of_decide_eq_true rfl) ?_
        refine wi_aload_n (i := 0) (x := 236) (nx := 1) (r1 := 0) (r2 := 0) (r3 := 0) rfl rfl ?_
        refine wr_gi0 (k0 := 236) (x := h32 236 8) (nx := 4) (r1 := 11) (r2 := 8) (r3 := 0) rfl rfl (by decide) rfl ⟨rfl, rfl⟩ rfl rfl ?_
        refine wi_if (cd := .ne) (nx := 7) (r1 := 11) (r2 := 0) (r3 := 0) rfl (by omega) (fun (q51 : (h32 236 8) ≠ 0) => by exfalso; omega) (fun (q51 : ¬ ((h32 236 8) ≠ 0)) => ?_)
        refine wi_iconst (n := 1) (nx := 8) (r1 := 0) (r2 := 0) (r3 := 0) rfl ?_
        refine wi_goto (nx := 11) (r1 := 12) (r2 := 0) (r3 := 0) rfl ?_
        refine wi_zreturn (nx := 13) (r1 := 0) (r2 := 0) (r3 := 0) rfl rfl (by omega) ?_
        refine wk_i ?_
        refine wi_if (cd := .ne) (nx := 48) (r1 := 49) (r2 := 0) (r3 := 0) rfl (by omega) (fun (q52 : 1 ≠ 0) => ?_) (fun (q52 : ¬ (1 ≠ 0)) => by exfalso; omega)
        refine wi_aload_n (i := 0) (x := 236) (nx := 50) (r1 := 0) (r2 := 0) (r3 := 0) rfl rfl ?_
        refine wr_gr (k0 := 236) (x := 244) (nx := 53) (r1 := 11) (r2 := 19) (r3 := 0) rfl rfl (by decide) rfl ⟨rfl, rfl⟩ rfl ?_
        refine wi_iload_n (i := 1) (e := h 239 0) (nx := 54) (r1 := 0) (r2 := 0) (r3 := 0) rfl rfl ?_
        refine wi_aload_n (i := 0) (x := 236) (nx := 55) (r1 := 0) (r2 := 0) (r3 := 0) rfl rfl ?_
        refine wr_gi1 (k0 := 236) (x := h21 236 12) (nx := 58) (r1 := 11) (r2 := 12) (r3 := 0) rfl rfl (by decide) rfl ⟨rfl, rfl⟩ rfl (u32 236 12 rfl) ?_
        obtain ⟨i53, ei53⟩ : ∃ q : Nat, (h 239 0) = (q : Int) := ⟨(h 239 0).toNat, by omega⟩
        refine wr_ls (k0 := 244) (a := h 239 0) (f := i53) (x := h21 236 12) (bl := -9223372036854775808) (bh := 9223372036854775807) (nx := 59) (r1 := 0) (r2 := 0) (r3 := 0) rfl (by decide) rfl (by omega) (by omega) (by decide) g32 rfl (by omega) (fun h54 g54 w54 u54 => ?_)
        have F55 := F35.then rfl (FR.rngp (lo := 244) (hi := 244) u54 (by decide))
        refine wi_aload_n (i := 0) (x := 236) (nx := 60) (r1 := 0) (r2 := 0) (r3 := 0) rfl rfl ?_
        refine wr_V (k0 := 236) (rest := []) (as := [.ref 236]) (nx := 63) (r1 := 215) (r2 := 0) (r3 := 11) rfl rfl rfl (of_decide_eq_true rfl) rfl rfl (by decide) rfl rfl (of_decide_eq_true rfl) (of_decide_eq_true rfl) ?_
        have e57 : h54 236 4 = h21 236 4 := ((u54 236 4 (fn_a (by omega) fn_0)).trans (u32 236 4 rfl))
        have e58 : h54 236 3 = h 236 3 := ((u54 236 3 (fn_a (by omega) fn_0)).trans ((u32 236 3 rfl).trans (u21 236 3 rfl)))
        have rb59 := RefB.fr u54 rfl rb45
        refine ct_215_236 hcr  g54   (show (h54 236 4) ≤ (h54 236 3) by omega) (show (h54 236 4) = (tk_nx tB tn (tk_nx tB tn tp)) by omega) (show 0 ≤ (tk_nx tB tn (tk_nx tB tn tp)) by omega) (show (tk_nx tB tn (tk_nx tB tn tp)) ≤ tn by omega) rb59 (fun h56 g56 u56 (p56_0 : (h54 236 4) ≤ (h56 236 4)) (p56_1 : (h56 236 4) ≤ (h54 236 3)) (p56_2 : ((h56 236 4) = tk_nx tB tn (tk_nx tB tn (tk_nx tB tn tp)) ∧ (h56 236 5) = tk_st tB tn (tk_nx tB tn (tk_nx tB tn tp)) ∧ TKk tB tn (tk_nx tB tn (tk_nx tB tn tp)) ((h56 236 6)) ((h56 236 7)) ((h56 236 12)))) (p56_3 : (tk_nx tB tn (tk_nx tB tn tp)) ≤ tk_nx tB tn (tk_nx tB tn (tk_nx tB tn tp)) ∧ tk_nx tB tn (tk_nx tB tn (tk_nx tB tn tp)) ≤ tn) => ?_)
        have F60 := F55.then (by decide +kernel) u56
        have b61 := gi_b (lo := 0) (hi := 800) g56 236 4 rfl
        have b62 := gi_b (lo := 0) (hi := 800) g56 236 5 rfl
        have b63 := gi_b (lo := 0) (hi := 4) g56 236 6 rfl
        have b64 := gi_b (lo := 0) (hi := 999) g56 236 7 rfl
        have b65 := gi_b (lo := -9223372036854775808) (hi := 9223372036854775807) g56 236 12 rfl
        have tkk66 := p56_2.2.2
        have tN67 := @tk_nx_b tB tn (tk_nx tB tn (tk_nx tB tn tp)) (by omega) (by omega)
        refine wk_n ?_
        refine wi_aload_n (i := 0) (x := 236) (nx := 64) (r1 := 0) (r2 := 0) (r3 := 0) rfl rfl ?_
        refine wr_gr (k0 := 236) (x := 239) (nx := 67) (r1 := 11) (r2 := 14) (r3 := 0) rfl rfl (by decide) rfl ⟨rfl, rfl⟩ rfl ?_
        refine wi_bipush (n := 10) (nx := 69) (r1 := 0) (r2 := 0) (r3 := 0) rfl (by decide) ?_
        refine wi_iload_n (i := 1) (e := h 239 0) (nx := 70) (r1 := 0) (r2 := 0) (r3 := 0) rfl rfl ?_
        refine wr_add (nx := 71) (r1 := 0) (r2 := 0) (r3 := 0) rfl (fun e68 (fe68 : e68 = 10 + (h 239 0)) => ?_)
        refine wi_aload_n (i := 0) (x := 236) (nx := 72) (r1 := 0) (r2 := 0) (r3 := 0) rfl rfl ?_
        refine wi_ldc2_w (e := 109099237) (nx := 75) (r1 := 109099237) (r2 := 0) (r3 := 0) rfl (by decide) ?_
        refine wi_iconst (n := 0) (nx := 76) (r1 := 0) (r2 := 0) (r3 := 0) rfl ?_
        refine wi_bipush (n := 99) (nx := 78) (r1 := 0) (r2 := 0) (r3 := 0) rfl (by decide) ?_
        refine wr_V (k0 := 236) (rest := [vi e68, .ref 239]) (as := [.ref 236, vl 109099237, vi 0, vi 99]) (nx := 81) (r1 := 228) (r2 := 3) (r3 := 11) rfl rfl rfl (of_decide_eq_true rfl) rfl rfl (by decide) rfl rfl (of_decide_eq_true rfl) (of_decide_eq_true rfl) ?_
        have e70 : h56 236 3 = h 236 3 := ((u56 236 3 rfl).trans ((u54 236 3 (fn_a (by omega) fn_0)).trans ((u32 236 3 rfl).trans (u21 236 3 rfl))))
        have e71 : h56 236 8 = h32 236 8 := ((u56 236 8 rfl).trans (u54 236 8 (fn_a (by omega) fn_0)))
        have rb73 := RefB.fr u56 rfl rb59
        refine ct_228_236 hcr  g56 109099237 0 99 (by omega) (by omega) (by omega) (show (h56 236 4) ≤ (h56 236 3) by omega) (show 0 ≤ (tk_nx tB tn (tk_nx tB tn tp)) by omega) (show (tk_nx tB tn (tk_nx tB tn tp)) ≤ tn by omega) (show (tk_nx tB tn (tk_nx tB tn tp)) ≤ tk_nx tB tn (tk_nx tB tn (tk_nx tB tn tp)) ∧ tk_nx tB tn (tk_nx tB tn (tk_nx tB tn tp)) ≤ tn from ⟨by omega, by omega⟩) (show 1 ≤ (h56 236 8) ∨ ((h56 236 4) = tk_nx tB tn (tk_nx tB tn (tk_nx tB tn tp)) ∧ (h56 236 5) = tk_st tB tn (tk_nx tB tn (tk_nx tB tn tp)) ∧ TKk tB tn (tk_nx tB tn (tk_nx tB tn tp)) ((h56 236 6)) ((h56 236 7)) ((h56 236 12))) from (Or.inr (show ((h56 236 4) = tk_nx tB tn (tk_nx tB tn (tk_nx tB tn tp)) ∧ (h56 236 5) = tk_st tB tn (tk_nx tB tn (tk_nx tB tn tp)) ∧ TKk tB tn (tk_nx tB tn (tk_nx tB tn tp)) ((h56 236 6)) ((h56 236 7)) ((h56 236 12))) by first | assumption | exact ⟨by omega, by omega, TKk.mv (by assumption) (by omega) (by omega) (by omega)⟩))) rb73 (fun h69 z72 g69 u69 (fz72 : 0 ≤ z72 ∧ z72 ≤ 999) (p69_0 : (1 ≤ (h56 236 8) ∧ (h69 236 8) = (h56 236 8) ∧ (h69 236 9) = (h56 236 9)) ∨ ((h56 236 8) = 0 ∧ tk_kd tB tn (tk_nx tB tn (tk_nx tB tn tp)) = 1 ∧ tk_sw tB tn (tk_nx tB tn (tk_nx tB tn tp)) = 109099237 ∧ tk_kd tB tn (tk_nx tB tn (tk_nx tB tn (tk_nx tB tn tp))) = 2 ∧ 0 ≤ tk_nb tB tn (tk_nx tB tn (tk_nx tB tn (tk_nx tB tn tp))) ∧ tk_nb tB tn (tk_nx tB tn (tk_nx tB tn (tk_nx tB tn tp))) ≤ 99 ∧ z72 = tk_nb tB tn (tk_nx tB tn (tk_nx tB tn (tk_nx tB tn tp))) ∧ (h69 236 8) = (h56 236 8) ∧ (h69 236 9) = (h56 236 9) ∧ ((h69 236 4) = tk_nx tB tn (tk_nx tB tn (tk_nx tB tn (tk_nx tB tn (tk_nx tB tn tp)))) ∧ (h69 236 5) = tk_st tB tn (tk_nx tB tn (tk_nx tB tn (tk_nx tB tn (tk_nx tB tn tp)))) ∧ TKk tB tn (tk_nx tB tn (tk_nx tB tn (tk_nx tB tn (tk_nx tB tn tp)))) ((h69 236 6)) ((h69 236 7)) ((h69 236 12)))) ∨ ((h56 236 8) = 0 ∧ (tk_kd tB tn (tk_nx tB tn (tk_nx tB tn tp)) ≠ 1 ∨ tk_sw tB tn (tk_nx tB tn (tk_nx tB tn tp)) ≠ 109099237) ∧ (h69 236 8) = 1 ∧ (h69 236 9) = tk_st tB tn (tk_nx tB tn (tk_nx tB tn tp))) ∨ ((h56 236 8) = 0 ∧ tk_kd tB tn (tk_nx tB tn (tk_nx tB tn tp)) = 1 ∧ tk_sw tB tn (tk_nx tB tn (tk_nx tB tn tp)) = 109099237 ∧ tk_kd tB tn (tk_nx tB tn (tk_nx tB tn (tk_nx tB tn tp))) ≠ 2 ∧ (h69 236 8) = 1 ∧ (h69 236 9) = tk_st tB tn (tk_nx tB tn (tk_nx tB tn (tk_nx tB tn tp)))) ∨ ((h56 236 8) = 0 ∧ tk_kd tB tn (tk_nx tB tn (tk_nx tB tn tp)) = 1 ∧ tk_sw tB tn (tk_nx tB tn (tk_nx tB tn tp)) = 109099237 ∧ tk_kd tB tn (tk_nx tB tn (tk_nx tB tn (tk_nx tB tn tp))) = 2 ∧ (tk_nb tB tn (tk_nx tB tn (tk_nx tB tn (tk_nx tB tn tp))) < 0 ∨ 99 < tk_nb tB tn (tk_nx tB tn (tk_nx tB tn (tk_nx tB tn tp)))) ∧ (h69 236 8) = 2 ∧ (h69 236 9) = tk_st tB tn (tk_nx tB tn (tk_nx tB tn (tk_nx tB tn tp))))) (p69_1 : (h56 236 4) ≤ (h69 236 4)) (p69_2 : (h69 236 4) ≤ (h56 236 3)) (p69_3 : 1 ≤ (h69 236 8) ∨ (h56 236 8) = 0) (p69_4 : 1 ≤ (h69 236 8) ∨ (0 ≤ z72 ∧ z72 ≤ 99)) => ?_)
        have F74 := F60.then (by decide +kernel) u69
        have e75 : h56 236 9 = h32 236 9 := ((u56 236 9 rfl).trans (u54 236 9 (fn_a (by omega) fn_0)))
        have b76 := gi_b (lo := 0) (hi := 5) g69 236 8 rfl
        have b77 := gi_b (lo := -2147483648) (hi := 2147483647) g69 236 9 rfl
        have b78 := gi_b (lo := 0) (hi := 800) g69 236 4 rfl
        have b79 := gi_b (lo := 0) (hi := 800) g69 236 5 rfl
        have b80 := gi_b (lo := 0) (hi := 4) g69 236 6 rfl
        have b81 := gi_b (lo := 0) (hi := 999) g69 236 7 rfl
        have b82 := gi_b (lo := -9223372036854775808) (hi := 9223372036854775807) g69 236 12 rfl
        refine wk_i ?_
        rcases p69_0 with p69_0 | p69_0 | p69_0 | p69_0 | p69_0
        ·
          exfalso; omega
        ·
          replace p69_3 := p69_3.resolve_left (by omega)
          replace p69_4 := p69_4.resolve_left (by omega)
          have tkk83 := (p69_0.2.2.2.2.2.2.2.2.2).2.2
          have dw84 : tk_kd tB tn (tk_nx tB tn (tk_nx tB tn tp)) = 1 ∧ tk_wd (tk_lw tB tn (tk_nx tB tn (tk_nx tB tn tp))) = 2 := tk_wcp 1 (K := 109099237) (by decide) rfl rfl (by omega) (by omega) p69_0.2.1 p69_0.2.2.1
          have dk85 : tk_kd tB tn (tk_nx tB tn (tk_nx tB tn (tk_nx tB tn tp))) = 2 := p69_0.2.2.2.1
          have dr86 : 0 ≤ tk_nb tB tn (tk_nx tB tn (tk_nx tB tn (tk_nx tB tn tp))) ∧ tk_nb tB tn (tk_nx tB tn (tk_nx tB tn (tk_nx tB tn tp))) ≤ 99 := ⟨p69_0.2.2.2.2.1, p69_0.2.2.2.2.2.1⟩
          have tN87 := @tk_nx_b tB tn (tk_nx tB tn (tk_nx tB tn (tk_nx tB tn tp))) (by omega) (by omega)
          have tN88 := @tk_nx_b tB tn (tk_nx tB tn (tk_nx tB tn (tk_nx tB tn (tk_nx tB tn tp)))) (by omega) (by omega)
          obtain ⟨i89, ei89⟩ : ∃ q : Nat, e68 = (q : Int) := ⟨(e68).toNat, by omega⟩
          refine wr_is (k0 := 239) (a := e68) (f := i89) (x := z72) (bl := 0) (bh := 999) (nx := 82) (r1 := 0) (r2 := 0) (r3 := 0) rfl (by decide) rfl (by omega) (by omega) (by decide) g69 (gi_rq 10 5 (fun _ => rfl) (by decide +kernel) (by omega)) (by omega) (fun h90 g90 w90 u90 => ?_)
          have F91 := F74.then rfl (FR.idx (p := 10) (q := 14) u90 (by omega))
          refine wi_aload_n (i := 0) (x := 236) (nx := 83) (r1 := 0) (r2 := 0) (r3 := 0) rfl rfl ?_
          refine wr_V (k0 := 236) (rest := []) (as := [.ref 236]) (nx := 86) (r1 := 219) (r2 := 0) (r3 := 11) rfl rfl rfl (of_decide_eq_true rfl) rfl rfl (by decide) rfl rfl (of_decide_eq_true rfl) (of_decide_eq_true rfl) ?_
          refine wi_aload_n (i := 0) (x := 236) (nx := 1) (r1 := 0) (r2 := 0) (r3 := 0) rfl rfl ?_
          refine wr_gi0 (k0 := 236) (x := h69 236 8) (nx := 4) (r1 := 11) (r2 := 8) (r3 := 0) rfl rfl (by decide) rfl ⟨rfl, rfl⟩ rfl (u90 236 8 (fn_a (by omega) fn_0)) ?_
          refine wi_if (cd := .ne) (nx := 7) (r1 := 11) (r2 := 0) (r3 := 0) rfl (by omega) (fun (q92 : (h69 236 8) ≠ 0) => by exfalso; omega) (fun (q92 : ¬ ((h69 236 8) ≠ 0)) => ?_)
          refine wi_iconst (n := 1) (nx := 8) (r1 := 0) (r2 := 0) (r3 := 0) rfl ?_
          refine wi_goto (nx := 11) (r1 := 12) (r2 := 0) (r3 := 0) rfl ?_
          refine wi_zreturn (nx := 13) (r1 := 0) (r2 := 0) (r3 := 0) rfl rfl (by omega) ?_
          refine wk_i ?_
          refine wi_if (cd := .eq) (nx := 89) (r1 := 99) (r2 := 0) (r3 := 0) rfl (by omega) (fun (q93 : 1 = 0) => by exfalso; omega) (fun (q93 : ¬ (1 = 0)) => ?_)
          refine wi_aload_n (i := 0) (x := 236) (nx := 90) (r1 := 0) (r2 := 0) (r3 := 0) rfl rfl ?_
          refine wr_gr (k0 := 236) (x := 239) (nx := 93) (r1 := 11) (r2 := 14) (r3 := 0) rfl rfl (by decide) rfl ⟨rfl, rfl⟩ rfl ?_
          refine wi_iconst (n := 0) (nx := 94) (r1 := 0) (r2 := 0) (r3 := 0) rfl ?_
          refine wi_dup2 (nx := 95) (r1 := 0) (r2 := 0) (r3 := 0) rfl rfl rfl ?_
          refine wr_ia (k0 := 239) (a := 0) (f := 0) (x := h 239 0) (nx := 96) (r1 := 0) (r2 := 0) (r3 := 0) rfl (by decide) rfl (by omega) (by omega) (by decide) ((u90 239 0 (fn_i (by omega) fn_0)).trans ((u69 239 0 rfl).trans ((u56 239 0 rfl).trans ((u54 239 0 (fn_a (by omega) fn_0)).trans ((u32 239 0 rfl).trans (u21 239 0 rfl)))))) ?_
          refine wi_iconst (n := 1) (nx := 97) (r1 := 0) (r2 := 0) (r3 := 0) rfl ?_
          refine wr_add (nx := 98) (r1 := 0) (r2 := 0) (r3 := 0) rfl (fun e94 (fe94 : e94 = (h 239 0) + 1) => ?_)
          refine wr_is (k0 := 239) (a := 0) (f := 0) (x := e94) (bl := 0) (bh := 5) (nx := 99) (r1 := 0) (r2 := 0) (r3 := 0) rfl (by decide) rfl (by omega) (by omega) (by decide) g90 rfl (by omega) (fun h95 g95 w95 u95 => ?_)
          have F96 := F91.then rfl u95
          refine wi_return (nx := 100) (r1 := 0) (r2 := 0) (r3 := 0) rfl rfl ?_
          have e97 : h95 236 4 = h69 236 4 := ((u95 236 4 rfl).trans (u90 236 4 (fn_a (by omega) fn_0)))
          have e98 : h95 236 8 = h69 236 8 := ((u95 236 8 rfl).trans (u90 236 8 (fn_a (by omega) fn_0)))
          have e99 : h95 239 5 = h 239 5 := ((u95 239 5 rfl).trans ((u90 239 5 (fn_i (by omega) fn_0)).trans ((u69 239 5 rfl).trans ((u56 239 5 rfl).trans ((u54 239 5 (fn_a (by omega) fn_0)).trans ((u32 239 5 rfl).trans (u21 239 5 rfl)))))))
          have e100 : h95 239 7 = h 239 7 := ((u95 239 7 rfl).trans ((u90 239 7 (fn_i (by omega) fn_0)).trans ((u69 239 7 rfl).trans ((u56 239 7 rfl).trans ((u54 239 7 (fn_a (by omega) fn_0)).trans ((u32 239 7 rfl).trans (u21 239 7 rfl)))))))
          have e101 : h95 239 15 = h 239 15 := ((u95 239 15 rfl).trans ((u90 239 15 (fn_i (by omega) fn_0)).trans ((u69 239 15 rfl).trans ((u56 239 15 rfl).trans ((u54 239 15 (fn_a (by omega) fn_0)).trans ((u32 239 15 rfl).trans (u21 239 15 rfl)))))))
          have e102 : h95 239 16 = h 239 16 := ((u95 239 16 rfl).trans ((u90 239 16 (fn_i (by omega) fn_0)).trans ((u69 239 16 rfl).trans ((u56 239 16 rfl).trans ((u54 239 16 (fn_a (by omega) fn_0)).trans ((u32 239 16 rfl).trans (u21 239 16 rfl)))))))
          have e103 : h95 239 17 = h 239 17 := ((u95 239 17 rfl).trans ((u90 239 17 (fn_i (by omega) fn_0)).trans ((u69 239 17 rfl).trans ((u56 239 17 rfl).trans ((u54 239 17 (fn_a (by omega) fn_0)).trans ((u32 239 17 rfl).trans (u21 239 17 rfl)))))))
          have e104 : h95 239 18 = h 239 18 := ((u95 239 18 rfl).trans ((u90 239 18 (fn_i (by omega) fn_0)).trans ((u69 239 18 rfl).trans ((u56 239 18 rfl).trans ((u54 239 18 (fn_a (by omega) fn_0)).trans ((u32 239 18 rfl).trans (u21 239 18 rfl)))))))
          have e105 : h95 236 9 = h69 236 9 := ((u95 236 9 rfl).trans (u90 236 9 (fn_a (by omega) fn_0)))
          have e106 : h95 239 0 = e94 := w95
          have e107 : h95 239 1 = h 239 1 := ((u95 239 1 rfl).trans ((u90 239 1 (fn_i (by omega) fn_0)).trans ((u69 239 1 rfl).trans ((u56 239 1 rfl).trans ((u54 239 1 (fn_a (by omega) fn_0)).trans ((u32 239 1 rfl).trans (u21 239 1 rfl)))))))
          have e108 : h95 239 2 = h 239 2 := ((u95 239 2 rfl).trans ((u90 239 2 (fn_i (by omega) fn_0)).trans ((u69 239 2 rfl).trans ((u56 239 2 rfl).trans ((u54 239 2 (fn_a (by omega) fn_0)).trans ((u32 239 2 rfl).trans (u21 239 2 rfl)))))))
          have b109 := gi_b (lo := 0) (hi := 999) g 239 3 rfl
          have e110 : h95 239 3 = h 239 3 := ((u95 239 3 rfl).trans ((u90 239 3 (fn_i (by omega) fn_0)).trans ((u69 239 3 rfl).trans ((u56 239 3 rfl).trans ((u54 239 3 (fn_a (by omega) fn_0)).trans ((u32 239 3 rfl).trans (u21 239 3 rfl)))))))
          have b111 := gi_b (lo := 0) (hi := 999) g 239 4 rfl
          have e112 : h95 239 4 = h 239 4 := ((u95 239 4 rfl).trans ((u90 239 4 (fn_i (by omega) fn_0)).trans ((u69 239 4 rfl).trans ((u56 239 4 rfl).trans ((u54 239 4 (fn_a (by omega) fn_0)).trans ((u32 239 4 rfl).trans (u21 239 4 rfl)))))))
          have b113 := gi_b (lo := 0) (hi := 999) g 239 6 rfl
          have e114 : h95 239 6 = h 239 6 := ((u95 239 6 rfl).trans ((u90 239 6 (fn_i (by omega) fn_0)).trans ((u69 239 6 rfl).trans ((u56 239 6 rfl).trans ((u54 239 6 (fn_a (by omega) fn_0)).trans ((u32 239 6 rfl).trans (u21 239 6 rfl)))))))
          have b115 := gi_b (lo := 0) (hi := 999) g 239 8 rfl
          have e116 : h95 239 8 = h 239 8 := ((u95 239 8 rfl).trans ((u90 239 8 (fn_i (by omega) fn_0)).trans ((u69 239 8 rfl).trans ((u56 239 8 rfl).trans ((u54 239 8 (fn_a (by omega) fn_0)).trans ((u32 239 8 rfl).trans (u21 239 8 rfl)))))))
          have b117 := gi_b (lo := 0) (hi := 999) g 239 9 rfl
          have e118 : h95 239 9 = h 239 9 := ((u95 239 9 rfl).trans ((u90 239 9 (fn_i (by omega) fn_0)).trans ((u69 239 9 rfl).trans ((u56 239 9 rfl).trans ((u54 239 9 (fn_a (by omega) fn_0)).trans ((u32 239 9 rfl).trans (u21 239 9 rfl)))))))
          have b119 := gi_b (lo := 0) (hi := 1) g 236 23 rfl
          have e120 : h95 236 23 = h 236 23 := ((u95 236 23 rfl).trans ((u90 236 23 (fn_a (by omega) fn_0)).trans ((u69 236 23 rfl).trans ((u56 236 23 rfl).trans ((u54 236 23 (fn_a (by omega) fn_0)).trans ((u32 236 23 rfl).trans (u21 236 23 rfl)))))))
          have b121 := gi_b (lo := 0) (hi := 1) g 236 24 rfl
          have e122 : h95 236 24 = h 236 24 := ((u95 236 24 rfl).trans ((u90 236 24 (fn_a (by omega) fn_0)).trans ((u69 236 24 rfl).trans ((u56 236 24 rfl).trans ((u54 236 24 (fn_a (by omega) fn_0)).trans ((u32 236 24 rfl).trans (u21 236 24 rfl)))))))
          have b123 := gi_b (lo := 0) (hi := 1) g 236 25 rfl
          have e124 : h95 236 25 = h 236 25 := ((u95 236 25 rfl).trans ((u90 236 25 (fn_a (by omega) fn_0)).trans ((u69 236 25 rfl).trans ((u56 236 25 rfl).trans ((u54 236 25 (fn_a (by omega) fn_0)).trans ((u32 236 25 rfl).trans (u21 236 25 rfl)))))))
          have b125 := gi_b (lo := 0) (hi := 1) g 236 26 rfl
          have e126 : h95 236 26 = h 236 26 := ((u95 236 26 rfl).trans ((u90 236 26 (fn_a (by omega) fn_0)).trans ((u69 236 26 rfl).trans ((u56 236 26 rfl).trans ((u54 236 26 (fn_a (by omega) fn_0)).trans ((u32 236 26 rfl).trans (u21 236 26 rfl)))))))
          have e127 : h95 236 5 = h69 236 5 := ((u95 236 5 rfl).trans (u90 236 5 (fn_a (by omega) fn_0)))
          have e128 : h95 236 6 = h69 236 6 := ((u95 236 6 rfl).trans (u90 236 6 (fn_a (by omega) fn_0)))
          have e129 : h95 236 7 = h69 236 7 := ((u95 236 7 rfl).trans (u90 236 7 (fn_a (by omega) fn_0)))
          have e130 : h95 236 12 = h69 236 12 := ((u95 236 12 rfl).trans (u90 236 12 (fn_a (by omega) fn_0)))
          exact k h95 g95 F96 (show (h 236 4) ≤ (h95 236 4) by omega) (show (h95 236 4) ≤ (h 236 3) by omega) (show 1 ≤ (h95 236 8) ∨ ((h95 239 5) ≤ 9 ∧ 1 ≤ (h95 239 5) ∧ (h95 239 7) ≤ 3 ∧ (h95 239 15) ≤ 6 ∧ (h95 239 16) ≤ 6 ∧ (h95 239 17) ≤ 6 ∧ (h95 239 18) ≤ 6) from (Or.inr (⟨by omega, by omega, by omega, by omega, by omega, by omega, by omega⟩))) (show (h95 236 8) ≠ 0 ∨ (h95 236 9) = -1 from (Or.inr (by omega))) (by unfold tk_color; (repeat (first | unfold tk_wrd | unfold tk_num | unfold tk_color)); (try dsimp only); rw [if_neg (by omega)]; (repeat (first | unfold tk_wrd | unfold tk_num | unfold tk_color)); (try dsimp only); rw [if_pos dw39]; (repeat (first | unfold tk_wrd | unfold tk_num | unfold tk_color)); (try dsimp only); rw [if_neg (by omega)]; (repeat (first | unfold tk_wrd | unfold tk_num | unfold tk_color)); (try dsimp only); rw [if_pos dw84]; (repeat (first | unfold tk_wrd | unfold tk_num | unfold tk_color)); (try dsimp only); rw [if_pos dk85]; (repeat (first | unfold tk_wrd | unfold tk_num | unfold tk_color)); (try dsimp only); rw [if_pos dr86]; (repeat (first | unfold tk_wrd | unfold tk_num | unfold tk_color)); (try dsimp only); exact tk_ORs (by omega) (by first | assumption | exact ⟨by omega, by omega, TKk.mv (by assumption) (by omega) (by omega) (by omega)⟩) (CVr.color (c := (h 239 0).toNat) xq1 (by omega) (by omega) (fun i _ _ => ((u95 239 i (fn_i (by omega) fn_0)).trans ((u90 239 i (fn_i (by omega) fn_0)).trans ((u69 239 i (fo_nk rfl)).trans ((u56 239 i (fo_nk rfl)).trans ((u54 239 i (fn_a (by omega) fn_0)).trans ((u32 239 i (fn_a (by decide) (fn_a (by decide) fn_0))).trans (u21 239 i (fo_nk rfl))))))))) (fun i _ _ => ((u95 236 i (fn_a (by omega) fn_0)).trans ((u90 236 i (fn_a (by omega) fn_0)).trans ((u69 236 i (fo_gk (m := 12) (by omega) rfl)).trans ((u56 236 i (fo_gk (m := 12) (by omega) rfl)).trans ((u54 236 i (fn_a (by omega) fn_0)).trans ((u32 236 i (fn_i (by omega) (fn_i (by omega) fn_0))).trans (u21 236 i (fo_gk (m := 12) (by omega) rfl))))))))) (by rw [show (h 239 0).toNat = i53 by omega, ((u95 244 i53 (fn_a (by omega) fn_0)).trans ((u90 244 i53 (fn_a (by omega) fn_0)).trans ((u69 244 i53 (fo_nk rfl)).trans ((u56 244 i53 (fo_nk rfl)).trans w54)))), show h21 236 12 = tk_sw tB tn (tk_nx tB tn tp) from (by have kq := TKk.w (B := tB) (n := tn) (p := (tk_nx tB tn tp)) (by assumption) (by omega); omega)]; exact tk_sm8 (by omega) (by omega) (by omega)) (by rw [show 10 + (h 239 0).toNat = i89 by omega]; exact ((u95 239 i89 (fn_i (by omega) fn_0)).trans w90).trans (by omega)) (fun i _ => ((u95 244 i (fn_a (by omega) fn_0)).trans ((u90 244 i (fn_a (by omega) fn_0)).trans ((u69 244 i (fo_nk rfl)).trans ((u56 244 i (fo_nk rfl)).trans ((u54 244 i (fn_i (by omega) fn_0)).trans ((u32 244 i (fn_a (by decide) (fn_a (by decide) fn_0))).trans (u21 244 i (fo_nk rfl))))))))) (by omega) (by omega) (by omega)))
        ·
          clear p69_3
          clear p69_4
          have dw83 : TKn (tk_kd tB tn (tk_nx tB tn (tk_nx tB tn tp)) = 1 ∧ tk_wd (tk_lw tB tn (tk_nx tB tn (tk_nx tB tn tp))) = 2) := tk_wcn 1 (K := 109099237) (by decide) rfl rfl (by omega) (by omega) p69_0.2.1
          replace p69_0 : _ := And.intro (p69_0.1) (And.intro (p69_0.2.2.1) (p69_0.2.2.2))
          obtain ⟨i84, ei84⟩ : ∃ q : Nat, e68 = (q : Int) := ⟨(e68).toNat, by omega⟩
          refine wr_is (k0 := 239) (a := e68) (f := i84) (x := z72) (bl := 0) (bh := 999) (nx := 82) (r1 := 0) (r2 := 0) (r3 := 0) rfl (by decide) rfl (by omega) (by omega) (by decide) g69 (gi_rq 10 5 (fun _ => rfl) (by decide +kernel) (by omega)) (by omega) (fun h85 g85 w85 u85 => ?_)
          have F86 := F74.then rfl (FR.idx (p := 10) (q := 14) u85 (by omega))
          refine wi_aload_n (i := 0) (x := 236) (nx := 83) (r1 := 0) (r2 := 0) (r3 := 0) rfl rfl ?_
          refine wr_V (k0 := 236) (rest := []) (as := [.ref 236]) (nx := 86) (r1 := 219) (r2 := 0) (r3 := 11) rfl rfl rfl (of_decide_eq_true rfl) rfl rfl (by decide) rfl rfl (of_decide_eq_true rfl) (of_decide_eq_true rfl) ?_
          refine wi_aload_n (i := 0) (x := 236) (nx := 1) (r1 := 0) (r2 := 0) (r3 := 0) rfl rfl ?_
          refine wr_gi0 (k0 := 236) (x := h69 236 8) (nx := 4) (r1 := 11) (r2 := 8) (r3 := 0) rfl rfl (by decide) rfl ⟨rfl, rfl⟩ rfl (u85 236 8 (fn_a (by omega) fn_0)) ?_
          refine wi_if (cd := .ne) (nx := 7) (r1 := 11) (r2 := 0) (r3 := 0) rfl (by omega) (fun (q87 : (h69 236 8) ≠ 0) => ?_) (fun (q87 : ¬ ((h69 236 8) ≠ 0)) => by exfalso; omega)
          refine wi_iconst (n := 0) (nx := 12) (r1 := 0) (r2 := 0) (r3 := 0) rfl ?_
          refine wi_zreturn (nx := 13) (r1 := 0) (r2 := 0) (r3 := 0) rfl rfl (by omega) ?_
          refine wk_i ?_
          refine wi_if (cd := .eq) (nx := 89) (r1 := 99) (r2 := 0) (r3 := 0) rfl (by omega) (fun (q88 : 0 = 0) => ?_) (fun (q88 : ¬ (0 = 0)) => by exfalso; omega)
          refine wi_return (nx := 100) (r1 := 0) (r2 := 0) (r3 := 0) rfl rfl ?_
          have e89 : h85 236 4 = h69 236 4 := (u85 236 4 (fn_a (by omega) fn_0))
          have e90 : h85 236 8 = h69 236 8 := (u85 236 8 (fn_a (by omega) fn_0))
          have e91 : h85 239 5 = h 239 5 := ((u85 239 5 (fn_i (by omega) fn_0)).trans ((u69 239 5 rfl).trans ((u56 239 5 rfl).trans ((u54 239 5 (fn_a (by omega) fn_0)).trans ((u32 239 5 rfl).trans (u21 239 5 rfl))))))
          have e92 : h85 239 7 = h 239 7 := ((u85 239 7 (fn_i (by omega) fn_0)).trans ((u69 239 7 rfl).trans ((u56 239 7 rfl).trans ((u54 239 7 (fn_a (by omega) fn_0)).trans ((u32 239 7 rfl).trans (u21 239 7 rfl))))))
          have e93 : h85 239 15 = h 239 15 := ((u85 239 15 (fn_i (by omega) fn_0)).trans ((u69 239 15 rfl).trans ((u56 239 15 rfl).trans ((u54 239 15 (fn_a (by omega) fn_0)).trans ((u32 239 15 rfl).trans (u21 239 15 rfl))))))
          have e94 : h85 239 16 = h 239 16 := ((u85 239 16 (fn_i (by omega) fn_0)).trans ((u69 239 16 rfl).trans ((u56 239 16 rfl).trans ((u54 239 16 (fn_a (by omega) fn_0)).trans ((u32 239 16 rfl).trans (u21 239 16 rfl))))))
          have e95 : h85 239 17 = h 239 17 := ((u85 239 17 (fn_i (by omega) fn_0)).trans ((u69 239 17 rfl).trans ((u56 239 17 rfl).trans ((u54 239 17 (fn_a (by omega) fn_0)).trans ((u32 239 17 rfl).trans (u21 239 17 rfl))))))
          have e96 : h85 239 18 = h 239 18 := ((u85 239 18 (fn_i (by omega) fn_0)).trans ((u69 239 18 rfl).trans ((u56 239 18 rfl).trans ((u54 239 18 (fn_a (by omega) fn_0)).trans ((u32 239 18 rfl).trans (u21 239 18 rfl))))))
          have e97 : h85 236 9 = h69 236 9 := (u85 236 9 (fn_a (by omega) fn_0))
          exact k h85 g85 F86 (show (h 236 4) ≤ (h85 236 4) by omega) (show (h85 236 4) ≤ (h 236 3) by omega) (show 1 ≤ (h85 236 8) ∨ ((h85 239 5) ≤ 9 ∧ 1 ≤ (h85 239 5) ∧ (h85 239 7) ≤ 3 ∧ (h85 239 15) ≤ 6 ∧ (h85 239 16) ≤ 6 ∧ (h85 239 17) ≤ 6 ∧ (h85 239 18) ≤ 6) from (Or.inl (by omega))) (show (h85 236 8) ≠ 0 ∨ (h85 236 9) = -1 from (Or.inl (by omega))) (by unfold tk_color; (repeat (first | unfold tk_wrd | unfold tk_num | unfold tk_color)); (try dsimp only); rw [if_neg (by omega)]; (repeat (first | unfold tk_wrd | unfold tk_num | unfold tk_color)); (try dsimp only); rw [if_pos dw39]; (repeat (first | unfold tk_wrd | unfold tk_num | unfold tk_color)); (try dsimp only); rw [if_neg (by omega)]; (repeat (first | unfold tk_wrd | unfold tk_num | unfold tk_color)); (try dsimp only); rw [if_neg dw83.no]; (repeat (first | unfold tk_wrd | unfold tk_num | unfold tk_color)); (try dsimp only); exact tk_ORe (by omega) (by omega) (by omega))
        ·
          clear p69_3
          clear p69_4
          have dw83 : tk_kd tB tn (tk_nx tB tn (tk_nx tB tn tp)) = 1 ∧ tk_wd (tk_lw tB tn (tk_nx tB tn (tk_nx tB tn tp))) = 2 := tk_wcp 1 (K := 109099237) (by decide) rfl rfl (by omega) (by omega) p69_0.2.1 p69_0.2.2.1
          have dn84 : TKn (tk_kd tB tn (tk_nx tB tn (tk_nx tB tn (tk_nx tB tn tp))) = 2) := p69_0.2.2.2.1
          replace p69_0 : _ := And.intro (p69_0.1) (And.intro (p69_0.2.1) (And.intro (p69_0.2.2.1) (And.intro (p69_0.2.2.2.2.1) (p69_0.2.2.2.2.2))))
          have tN85 := @tk_nx_b tB tn (tk_nx tB tn (tk_nx tB tn tp)) (by omega) (by omega)
          obtain ⟨i86, ei86⟩ : ∃ q : Nat, e68 = (q : Int) := ⟨(e68).toNat, by omega⟩
          refine wr_is (k0 := 239) (a := e68) (f := i86) (x := z72) (bl := 0) (bh := 999) (nx := 82) (r1 := 0) (r2 := 0) (r3 := 0) rfl (by decide) rfl (by omega) (by omega) (by decide) g69 (gi_rq 10 5 (fun _ => rfl) (by decide +kernel) (by omega)) (by omega) (fun h87 g87 w87 u87 => ?_)
          have F88 := F74.then rfl (FR.idx (p := 10) (q := 14) u87 (by omega))
          refine wi_aload_n (i := 0) (x := 236) (nx := 83) (r1 := 0) (r2 := 0) (r3 := 0) rfl rfl ?_
          refine wr_V (k0 := 236) (rest := []) (as := [.ref 236]) (nx := 86) (r1 := 219) (r2 := 0) (r3 := 11) rfl rfl rfl (of_decide_eq_true rfl) rfl rfl (by decide) rfl rfl (of_decide_eq_true rfl) (of_decide_eq_true rfl) ?_
          refine wi_aload_n (i := 0) (x := 236) (nx := 1) (r1 := 0) (r2 := 0) (r3 := 0) rfl rfl ?_
          refine wr_gi0 (k0 := 236) (x := h69 236 8) (nx := 4) (r1 := 11) (r2 := 8) (r3 := 0) rfl rfl (by decide) rfl ⟨rfl, rfl⟩ rfl (u87 236 8 (fn_a (by omega) fn_0)) ?_
          refine wi_if (cd := .ne) (nx := 7) (r1 := 11) (r2 := 0) (r3 := 0) rfl (by omega) (fun (q89 : (h69 236 8) ≠ 0) => ?_) (fun (q89 : ¬ ((h69 236 8) ≠ 0)) => by exfalso; omega)
          refine wi_iconst (n := 0) (nx := 12) (r1 := 0) (r2 := 0) (r3 := 0) rfl ?_
          refine wi_zreturn (nx := 13) (r1 := 0) (r2 := 0) (r3 := 0) rfl rfl (by omega) ?_
          refine wk_i ?_
          refine wi_if (cd := .eq) (nx := 89) (r1 := 99) (r2 := 0) (r3 := 0) rfl (by omega) (fun (q90 : 0 = 0) => ?_) (fun (q90 : ¬ (0 = 0)) => by exfalso; omega)
          refine wi_return (nx := 100) (r1 := 0) (r2 := 0) (r3 := 0) rfl rfl ?_
          have e91 : h87 236 4 = h69 236 4 := (u87 236 4 (fn_a (by omega) fn_0))
          have e92 : h87 236 8 = h69 236 8 := (u87 236 8 (fn_a (by omega) fn_0))
          have e93 : h87 239 5 = h 239 5 := ((u87 239 5 (fn_i (by omega) fn_0)).trans ((u69 239 5 rfl).trans ((u56 239 5 rfl).trans ((u54 239 5 (fn_a (by omega) fn_0)).trans ((u32 239 5 rfl).trans (u21 239 5 rfl))))))
          have e94 : h87 239 7 = h 239 7 := ((u87 239 7 (fn_i (by omega) fn_0)).trans ((u69 239 7 rfl).trans ((u56 239 7 rfl).trans ((u54 239 7 (fn_a (by omega) fn_0)).trans ((u32 239 7 rfl).trans (u21 239 7 rfl))))))
          have e95 : h87 239 15 = h 239 15 := ((u87 239 15 (fn_i (by omega) fn_0)).trans ((u69 239 15 rfl).trans ((u56 239 15 rfl).trans ((u54 239 15 (fn_a (by omega) fn_0)).trans ((u32 239 15 rfl).trans (u21 239 15 rfl))))))
          have e96 : h87 239 16 = h 239 16 := ((u87 239 16 (fn_i (by omega) fn_0)).trans ((u69 239 16 rfl).trans ((u56 239 16 rfl).trans ((u54 239 16 (fn_a (by omega) fn_0)).trans ((u32 239 16 rfl).trans (u21 239 16 rfl))))))
          have e97 : h87 239 17 = h 239 17 := ((u87 239 17 (fn_i (by omega) fn_0)).trans ((u69 239 17 rfl).trans ((u56 239 17 rfl).trans ((u54 239 17 (fn_a (by omega) fn_0)).trans ((u32 239 17 rfl).trans (u21 239 17 rfl))))))
          have e98 : h87 239 18 = h 239 18 := ((u87 239 18 (fn_i (by omega) fn_0)).trans ((u69 239 18 rfl).trans ((u56 239 18 rfl).trans ((u54 239 18 (fn_a (by omega) fn_0)).trans ((u32 239 18 rfl).trans (u21 239 18 rfl))))))
          have e99 : h87 236 9 = h69 236 9 := (u87 236 9 (fn_a (by omega) fn_0))
          exact k h87 g87 F88 (show (h 236 4) ≤ (h87 236 4) by omega) (show (h87 236 4) ≤ (h 236 3) by omega) (show 1 ≤ (h87 236 8) ∨ ((h87 239 5) ≤ 9 ∧ 1 ≤ (h87 239 5) ∧ (h87 239 7) ≤ 3 ∧ (h87 239 15) ≤ 6 ∧ (h87 239 16) ≤ 6 ∧ (h87 239 17) ≤ 6 ∧ (h87 239 18) ≤ 6) from (Or.inl (by omega))) (show (h87 236 8) ≠ 0 ∨ (h87 236 9) = -1 from (Or.inl (by omega))) (by unfold tk_color; (repeat (first | unfold tk_wrd | unfold tk_num | unfold tk_color)); (try dsimp only); rw [if_neg (by omega)]; (repeat (first | unfold tk_wrd | unfold tk_num | unfold tk_color)); (try dsimp only); rw [if_pos dw39]; (repeat (first | unfold tk_wrd | unfold tk_num | unfold tk_color)); (try dsimp only); rw [if_neg (by omega)]; (repeat (first | unfold tk_wrd | unfold tk_num | unfold tk_color)); (try dsimp only); rw [if_pos dw83]; (repeat (first | unfold tk_wrd | unfold tk_num | unfold tk_color)); (try dsimp only); rw [if_neg dn84.no]; (repeat (first | unfold tk_wrd | unfold tk_num | unfold tk_color)); (try dsimp only); exact tk_ORe (by omega) (by omega) (by omega))
        ·
          clear p69_3
          clear p69_4
          have dw83 : tk_kd tB tn (tk_nx tB tn (tk_nx tB tn tp)) = 1 ∧ tk_wd (tk_lw tB tn (tk_nx tB tn (tk_nx tB tn tp))) = 2 := tk_wcp 1 (K := 109099237) (by decide) rfl rfl (by omega) (by omega) p69_0.2.1 p69_0.2.2.1
          have dk84 : tk_kd tB tn (tk_nx tB tn (tk_nx tB tn (tk_nx tB tn tp))) = 2 := p69_0.2.2.2.1
          have dr85 : TKn (0 ≤ tk_nb tB tn (tk_nx tB tn (tk_nx tB tn (tk_nx tB tn tp))) ∧ tk_nb tB tn (tk_nx tB tn (tk_nx tB tn (tk_nx tB tn tp))) ≤ 99) := tkn_r p69_0.2.2.2.2.1
          replace p69_0 : _ := And.intro (p69_0.1) (And.intro (p69_0.2.1) (And.intro (p69_0.2.2.1) (And.intro (p69_0.2.2.2.1) (And.intro (p69_0.2.2.2.2.2.1) (p69_0.2.2.2.2.2.2)))))
          have tN86 := @tk_nx_b tB tn (tk_nx tB tn (tk_nx tB tn tp)) (by omega) (by omega)
          obtain ⟨i87, ei87⟩ : ∃ q : Nat, e68 = (q : Int) := ⟨(e68).toNat, by omega⟩
          refine wr_is (k0 := 239) (a := e68) (f := i87) (x := z72) (bl := 0) (bh := 999) (nx := 82) (r1 := 0) (r2 := 0) (r3 := 0) rfl (by decide) rfl (by omega) (by omega) (by decide) g69 (gi_rq 10 5 (fun _ => rfl) (by decide +kernel) (by omega)) (by omega) (fun h88 g88 w88 u88 => ?_)
          have F89 := F74.then rfl (FR.idx (p := 10) (q := 14) u88 (by omega))
          refine wi_aload_n (i := 0) (x := 236) (nx := 83) (r1 := 0) (r2 := 0) (r3 := 0) rfl rfl ?_
          refine wr_V (k0 := 236) (rest := []) (as := [.ref 236]) (nx := 86) (r1 := 219) (r2 := 0) (r3 := 11) rfl rfl rfl (of_decide_eq_true rfl) rfl rfl (by decide) rfl rfl (of_decide_eq_true rfl) (of_decide_eq_true rfl) ?_
          refine wi_aload_n (i := 0) (x := 236) (nx := 1) (r1 := 0) (r2 := 0) (r3 := 0) rfl rfl ?_
          refine wr_gi0 (k0 := 236) (x := h69 236 8) (nx := 4) (r1 := 11) (r2 := 8) (r3 := 0) rfl rfl (by decide) rfl ⟨rfl, rfl⟩ rfl (u88 236 8 (fn_a (by omega) fn_0)) ?_
          refine wi_if (cd := .ne) (nx := 7) (r1 := 11) (r2 := 0) (r3 := 0) rfl (by omega) (fun (q90 : (h69 236 8) ≠ 0) => ?_) (fun (q90 : ¬ ((h69 236 8) ≠ 0)) => by exfalso; omega)
          refine wi_iconst (n := 0) (nx := 12) (r1 := 0) (r2 := 0) (r3 := 0) rfl ?_
          refine wi_zreturn (nx := 13) (r1 := 0) (r2 := 0) (r3 := 0) rfl rfl (by omega) ?_
          refine wk_i ?_
          refine wi_if (cd := .eq) (nx := 89) (r1 := 99) (r2 := 0) (r3 := 0) rfl (by omega) (fun (q91 : 0 = 0) => ?_) (fun (q91 : ¬ (0 = 0)) => by exfalso; omega)
          refine wi_return (nx := 100) (r1 := 0) (r2 := 0) (r3 := 0) rfl rfl ?_
          have e92 : h88 236 4 = h69 236 4 := (u88 236 4 (fn_a (by omega) fn_0))
          have e93 : h88 236 8 = h69 236 8 := (u88 236 8 (fn_a (by omega) fn_0))
          have e94 : h88 239 5 = h 239 5 := ((u88 239 5 (fn_i (by omega) fn_0)).trans ((u69 239 5 rfl).trans ((u56 239 5 rfl).trans ((u54 239 5 (fn_a (by omega) fn_0)).trans ((u32 239 5 rfl).trans (u21 239 5 rfl))))))
          have e95 : h88 239 7 = h 239 7 := ((u88 239 7 (fn_i (by omega) fn_0)).trans ((u69 239 7 rfl).trans ((u56 239 7 rfl).trans ((u54 239 7 (fn_a (by omega) fn_0)).trans ((u32 239 7 rfl).trans (u21 239 7 rfl))))))
          have e96 : h88 239 15 = h 239 15 := ((u88 239 15 (fn_i (by omega) fn_0)).trans ((u69 239 15 rfl).trans ((u56 239 15 rfl).trans ((u54 239 15 (fn_a (by omega) fn_0)).trans ((u32 239 15 rfl).trans (u21 239 15 rfl))))))
          have e97 : h88 239 16 = h 239 16 := ((u88 239 16 (fn_i (by omega) fn_0)).trans ((u69 239 16 rfl).trans ((u56 239 16 rfl).trans ((u54 239 16 (fn_a (by omega) fn_0)).trans ((u32 239 16 rfl).trans (u21 239 16 rfl))))))
          have e98 : h88 239 17 = h 239 17 := ((u88 239 17 (fn_i (by omega) fn_0)).trans ((u69 239 17 rfl).trans ((u56 239 17 rfl).trans ((u54 239 17 (fn_a (by omega) fn_0)).trans ((u32 239 17 rfl).trans (u21 239 17 rfl))))))
          have e99 : h88 239 18 = h 239 18 := ((u88 239 18 (fn_i (by omega) fn_0)).trans ((u69 239 18 rfl).trans ((u56 239 18 rfl).trans ((u54 239 18 (fn_a (by omega) fn_0)).trans ((u32 239 18 rfl).trans (u21 239 18 rfl))))))
          have e100 : h88 236 9 = h69 236 9 := (u88 236 9 (fn_a (by omega) fn_0))
          exact k h88 g88 F89 (show (h 236 4) ≤ (h88 236 4) by omega) (show (h88 236 4) ≤ (h 236 3) by omega) (show 1 ≤ (h88 236 8) ∨ ((h88 239 5) ≤ 9 ∧ 1 ≤ (h88 239 5) ∧ (h88 239 7) ≤ 3 ∧ (h88 239 15) ≤ 6 ∧ (h88 239 16) ≤ 6 ∧ (h88 239 17) ≤ 6 ∧ (h88 239 18) ≤ 6) from (Or.inl (by omega))) (show (h88 236 8) ≠ 0 ∨ (h88 236 9) = -1 from (Or.inl (by omega))) (by unfold tk_color; (repeat (first | unfold tk_wrd | unfold tk_num | unfold tk_color)); (try dsimp only); rw [if_neg (by omega)]; (repeat (first | unfold tk_wrd | unfold tk_num | unfold tk_color)); (try dsimp only); rw [if_pos dw39]; (repeat (first | unfold tk_wrd | unfold tk_num | unfold tk_color)); (try dsimp only); rw [if_neg (by omega)]; (repeat (first | unfold tk_wrd | unfold tk_num | unfold tk_color)); (try dsimp only); rw [if_pos dw83]; (repeat (first | unfold tk_wrd | unfold tk_num | unfold tk_color)); (try dsimp only); rw [if_pos dk84]; (repeat (first | unfold tk_wrd | unfold tk_num | unfold tk_color)); (try dsimp only); rw [if_neg dr85.no]; (repeat (first | unfold tk_wrd | unfold tk_num | unfold tk_color)); (try dsimp only); exact tk_ORe (by omega) (by omega) (by omega))
      ·
        refine wi_aload_n (i := 0) (x := 236) (nx := 37) (r1 := 0) (r2 := 0) (r3 := 0) rfl rfl ?_
        refine wi_iconst (n := 3) (nx := 38) (r1 := 0) (r2 := 0) (r3 := 0) rfl ?_
        refine wr_V (k0 := 236) (rest := []) (as := [.ref 236, vi 3]) (nx := 41) (r1 := 224) (r2 := 1) (r3 := 11) rfl rfl rfl (of_decide_eq_true rfl) rfl rfl (by decide) rfl rfl (of_decide_eq_true rfl) (of_decide_eq_true rfl) ?_
        refine ct_224_236 hcr  g32 3 (by omega)  (fun h51 g51 u51 (p51_0 : 1 ≤ (h51 236 8)) (p51_1 : (1 ≤ (h32 236 8) ∧ (h51 236 8) = (h32 236 8) ∧ (h51 236 9) = (h32 236 9)) ∨ ((h32 236 8) = 0 ∧ (h51 236 9) = (h32 236 5) ∧ (((h32 236 6) = 4 ∧ (h51 236 8) = 1) ∨ ((h32 236 6) ≠ 4 ∧ (h51 236 8) = 3)))) => ?_)
        have F52 := F35.then (by decide +kernel) u51
        have b53 := gi_b (lo := 0) (hi := 5) g51 236 8 rfl
        have e54 : h32 236 5 = h21 236 5 := (u32 236 5 rfl)
        have e55 : h32 236 6 = h21 236 6 := (u32 236 6 rfl)
        have b56 := gi_b (lo := -2147483648) (hi := 2147483647) g51 236 9 rfl
        replace p51_1 := p51_1.resolve_left (by omega)
        have ws57 : h32 236 6 ≠ 4 := fun e => absurd (TKk.e4 (B := tB) (n := tn) (p := (tk_nx tB tn tp)) (a6 := h21 236 6) (by assumption) ((u32 236 6 rfl).symm.trans e)) (show tk_kd tB tn (tk_nx tB tn tp) ≠ 6 by omega)
        replace p51_1 := And.intro p51_1.2.1 (p51_1.2.2.resolve_left (fun x => ws57 x.1)).2
        clear ws57
        refine wk_n ?_
        refine wi_aload_n (i := 0) (x := 236) (nx := 42) (r1 := 0) (r2 := 0) (r3 := 0) rfl rfl ?_
        refine wr_V (k0 := 236) (rest := []) (as := [.ref 236]) (nx := 45) (r1 := 219) (r2 := 0) (r3 := 11) rfl rfl rfl (of_decide_eq_true rfl) rfl rfl (by decide) rfl rfl (of_decide_eq_true rfl) (of_decide_eq_true rfl) ?_
        refine wi_aload_n (i := 0) (x := 236) (nx := 1) (r1 := 0) (r2 := 0) (r3 := 0) rfl rfl ?_
        refine wr_gi0 (k0 := 236) (x := h51 236 8) (nx := 4) (r1 := 11) (r2 := 8) (r3 := 0) rfl rfl (by decide) rfl ⟨rfl, rfl⟩ rfl rfl ?_
        refine wi_if (cd := .ne) (nx := 7) (r1 := 11) (r2 := 0) (r3 := 0) rfl (by omega) (fun (q58 : (h51 236 8) ≠ 0) => ?_) (fun (q58 : ¬ ((h51 236 8) ≠ 0)) => by exfalso; omega)
        refine wi_iconst (n := 0) (nx := 12) (r1 := 0) (r2 := 0) (r3 := 0) rfl ?_
        refine wi_zreturn (nx := 13) (r1 := 0) (r2 := 0) (r3 := 0) rfl rfl (by omega) ?_
        refine wk_i ?_
        refine wi_if (cd := .ne) (nx := 48) (r1 := 49) (r2 := 0) (r3 := 0) rfl (by omega) (fun (q59 : 0 ≠ 0) => by exfalso; omega) (fun (q59 : ¬ (0 ≠ 0)) => ?_)
        refine wi_return (nx := 49) (r1 := 0) (r2 := 0) (r3 := 0) rfl rfl ?_
        have e60 : h51 236 4 = h21 236 4 := ((u51 236 4 rfl).trans (u32 236 4 rfl))
        have e61 : h51 239 5 = h 239 5 := ((u51 239 5 rfl).trans ((u32 239 5 rfl).trans (u21 239 5 rfl)))
        have e62 : h51 239 7 = h 239 7 := ((u51 239 7 rfl).trans ((u32 239 7 rfl).trans (u21 239 7 rfl)))
        have e63 : h51 239 15 = h 239 15 := ((u51 239 15 rfl).trans ((u32 239 15 rfl).trans (u21 239 15 rfl)))
        have e64 : h51 239 16 = h 239 16 := ((u51 239 16 rfl).trans ((u32 239 16 rfl).trans (u21 239 16 rfl)))
        have e65 : h51 239 17 = h 239 17 := ((u51 239 17 rfl).trans ((u32 239 17 rfl).trans (u21 239 17 rfl)))
        have e66 : h51 239 18 = h 239 18 := ((u51 239 18 rfl).trans ((u32 239 18 rfl).trans (u21 239 18 rfl)))
        exact k h51 g51 F52 (show (h 236 4) ≤ (h51 236 4) by omega) (show (h51 236 4) ≤ (h 236 3) by omega) (show 1 ≤ (h51 236 8) ∨ ((h51 239 5) ≤ 9 ∧ 1 ≤ (h51 239 5) ∧ (h51 239 7) ≤ 3 ∧ (h51 239 15) ≤ 6 ∧ (h51 239 16) ≤ 6 ∧ (h51 239 17) ≤ 6 ∧ (h51 239 18) ≤ 6) from (Or.inl (by omega))) (show (h51 236 8) ≠ 0 ∨ (h51 236 9) = -1 from (Or.inl (by omega))) (by unfold tk_color; (repeat (first | unfold tk_wrd | unfold tk_num | unfold tk_color)); (try dsimp only); rw [if_neg (by omega)]; (repeat (first | unfold tk_wrd | unfold tk_num | unfold tk_color)); (try dsimp only); rw [if_pos dw39]; (repeat (first | unfold tk_wrd | unfold tk_num | unfold tk_color)); (try dsimp only); rw [if_pos (by omega)]; (repeat (first | unfold tk_wrd | unfold tk_num | unfold tk_color)); (try dsimp only); exact tk_ORe (by omega) (by omega) (by omega))
    ·
      clear p32_1
      have dw39 : TKn (tk_kd tB tn (tk_nx tB tn tp) = 1 ∧ tk_wd (tk_lw tB tn (tk_nx tB tn tp)) = 21) := tkn_o p32_0.2.1
      replace p32_0 : _ := And.intro (p32_0.1) (And.intro (p32_0.2.2.1) (p32_0.2.2.2))
      refine wi_aload_n (i := 0) (x := 236) (nx := 22) (r1 := 0) (r2 := 0) (r3 := 0) rfl rfl ?_
      refine wr_V (k0 := 236) (rest := []) (as := [.ref 236]) (nx := 25) (r1 := 219) (r2 := 0) (r3 := 11) rfl rfl rfl (of_decide_eq_true rfl) rfl rfl (by decide) rfl rfl (of_decide_eq_true rfl) (of_decide_eq_true rfl) ?_
      refine wi_aload_n (i := 0) (x := 236) (nx := 1) (r1 := 0) (r2 := 0) (r3 := 0) rfl rfl ?_
      refine wr_gi0 (k0 := 236) (x := h32 236 8) (nx := 4) (r1 := 11) (r2 := 8) (r3 := 0) rfl rfl (by decide) rfl ⟨rfl, rfl⟩ rfl rfl ?_
      refine wi_if (cd := .ne) (nx := 7) (r1 := 11) (r2 := 0) (r3 := 0) rfl (by omega) (fun (q40 : (h32 236 8) ≠ 0) => ?_) (fun (q40 : ¬ ((h32 236 8) ≠ 0)) => by exfalso; omega)
      refine wi_iconst (n := 0) (nx := 12) (r1 := 0) (r2 := 0) (r3 := 0) rfl ?_
      refine wi_zreturn (nx := 13) (r1 := 0) (r2 := 0) (r3 := 0) rfl rfl (by omega) ?_
      refine wk_i ?_
      refine wi_if (cd := .eq) (nx := 28) (r1 := 41) (r2 := 0) (r3 := 0) rfl (by omega) (fun (q41 : 0 = 0) => ?_) (fun (q41 : ¬ (0 = 0)) => by exfalso; omega)
      refine wi_aload_n (i := 0) (x := 236) (nx := 42) (r1 := 0) (r2 := 0) (r3 := 0) rfl rfl ?_
      refine wr_V (k0 := 236) (rest := []) (as := [.ref 236]) (nx := 45) (r1 := 219) (r2 := 0) (r3 := 11) rfl rfl rfl (of_decide_eq_true rfl) rfl rfl (by decide) rfl rfl (of_decide_eq_true rfl) (of_decide_eq_true rfl) ?_
      refine wi_aload_n (i := 0) (x := 236) (nx := 1) (r1 := 0) (r2 := 0) (r3 := 0) rfl rfl ?_
      refine wr_gi0 (k0 := 236) (x := h32 236 8) (nx := 4) (r1 := 11) (r2 := 8) (r3 := 0) rfl rfl (by decide) rfl ⟨rfl, rfl⟩ rfl rfl ?_
      refine wi_if (cd := .ne) (nx := 7) (r1 := 11) (r2 := 0) (r3 := 0) rfl (by omega) (fun (q42 : (h32 236 8) ≠ 0) => ?_) (fun (q42 : ¬ ((h32 236 8) ≠ 0)) => by exfalso; omega)
      refine wi_iconst (n := 0) (nx := 12) (r1 := 0) (r2 := 0) (r3 := 0) rfl ?_
      refine wi_zreturn (nx := 13) (r1 := 0) (r2 := 0) (r3 := 0) rfl rfl (by omega) ?_
      refine wk_i ?_
      refine wi_if (cd := .ne) (nx := 48) (r1 := 49) (r2 := 0) (r3 := 0) rfl (by omega) (fun (q43 : 0 ≠ 0) => by exfalso; omega) (fun (q43 : ¬ (0 ≠ 0)) => ?_)
      refine wi_return (nx := 49) (r1 := 0) (r2 := 0) (r3 := 0) rfl rfl ?_
      have e44 : h32 236 4 = h21 236 4 := (u32 236 4 rfl)
      have e45 : h32 239 5 = h 239 5 := ((u32 239 5 rfl).trans (u21 239 5 rfl))
      have e46 : h32 239 7 = h 239 7 := ((u32 239 7 rfl).trans (u21 239 7 rfl))
      have e47 : h32 239 15 = h 239 15 := ((u32 239 15 rfl).trans (u21 239 15 rfl))
      have e48 : h32 239 16 = h 239 16 := ((u32 239 16 rfl).trans (u21 239 16 rfl))
      have e49 : h32 239 17 = h 239 17 := ((u32 239 17 rfl).trans (u21 239 17 rfl))
      have e50 : h32 239 18 = h 239 18 := ((u32 239 18 rfl).trans (u21 239 18 rfl))
      exact k h32 g32 F35 (show (h 236 4) ≤ (h32 236 4) by omega) (show (h32 236 4) ≤ (h 236 3) by omega) (show 1 ≤ (h32 236 8) ∨ ((h32 239 5) ≤ 9 ∧ 1 ≤ (h32 239 5) ∧ (h32 239 7) ≤ 3 ∧ (h32 239 15) ≤ 6 ∧ (h32 239 16) ≤ 6 ∧ (h32 239 17) ≤ 6 ∧ (h32 239 18) ≤ 6) from (Or.inl (by omega))) (show (h32 236 8) ≠ 0 ∨ (h32 236 9) = -1 from (Or.inl (by omega))) (by unfold tk_color; (repeat (first | unfold tk_wrd | unfold tk_num | unfold tk_color)); (try dsimp only); rw [if_neg (by omega)]; (repeat (first | unfold tk_wrd | unfold tk_num | unfold tk_color)); (try dsimp only); rw [if_neg dw39.no]; (repeat (first | unfold tk_wrd | unfold tk_num | unfold tk_color)); (try dsimp only); exact tk_ORe (by omega) (by omega) (by omega))
  ·
    refine wi_aload_n (i := 0) (x := 236) (nx := 11) (r1 := 0) (r2 := 0) (r3 := 0) rfl rfl ?_
    refine wi_iconst (n := 5) (nx := 12) (r1 := 0) (r2 := 0) (r3 := 0) rfl ?_
    refine wr_V (k0 := 236) (rest := []) (as := [.ref 236, vi 5]) (nx := 15) (r1 := 224) (r2 := 1) (r3 := 11) rfl rfl rfl (of_decide_eq_true rfl) rfl rfl (by decide) rfl rfl (of_decide_eq_true rfl) (of_decide_eq_true rfl) ?_
    refine ct_224_236 hcr  g 5 (by omega)  (fun h19 g19 u19 (p19_0 : 1 ≤ (h19 236 8)) (p19_1 : (1 ≤ (h 236 8) ∧ (h19 236 8) = (h 236 8) ∧ (h19 236 9) = (h 236 9)) ∨ ((h 236 8) = 0 ∧ (h19 236 9) = (h 236 5) ∧ (((h 236 6) = 4 ∧ (h19 236 8) = 1) ∨ ((h 236 6) ≠ 4 ∧ (h19 236 8) = 5)))) => ?_)
    have F20 := F0.then (by decide +kernel) u19
    have b21 := gi_b (lo := 0) (hi := 5) g19 236 8 rfl
    have b22 := gi_b (lo := -2147483648) (hi := 2147483647) g19 236 9 rfl
    replace p19_1 := p19_1.resolve_left (by omega)
    have ws23 : h 236 6 ≠ 4 := fun e => absurd (TKk.e4 (B := tB) (n := tn) (p := tp) (a6 := h 236 6) (by assumption) (e)) (show tk_kd tB tn tp ≠ 6 by omega)
    replace p19_1 := And.intro p19_1.2.1 (p19_1.2.2.resolve_left (fun x => ws23 x.1)).2
    clear ws23
    refine wk_n ?_
    refine wi_aload_n (i := 0) (x := 236) (nx := 16) (r1 := 0) (r2 := 0) (r3 := 0) rfl rfl ?_
    refine wr_V (k0 := 236) (rest := []) (as := [.ref 236]) (nx := 19) (r1 := 219) (r2 := 0) (r3 := 11) rfl rfl rfl (of_decide_eq_true rfl) rfl rfl (by decide) rfl rfl (of_decide_eq_true rfl) (of_decide_eq_true rfl) ?_
    refine wi_aload_n (i := 0) (x := 236) (nx := 1) (r1 := 0) (r2 := 0) (r3 := 0) rfl rfl ?_
    refine wr_gi0 (k0 := 236) (x := h19 236 8) (nx := 4) (r1 := 11) (r2 := 8) (r3 := 0) rfl rfl (by decide) rfl ⟨rfl, rfl⟩ rfl rfl ?_
    refine wi_if (cd := .ne) (nx := 7) (r1 := 11) (r2 := 0) (r3 := 0) rfl (by omega) (fun (q24 : (h19 236 8) ≠ 0) => ?_) (fun (q24 : ¬ ((h19 236 8) ≠ 0)) => by exfalso; omega)
    refine wi_iconst (n := 0) (nx := 12) (r1 := 0) (r2 := 0) (r3 := 0) rfl ?_
    refine wi_zreturn (nx := 13) (r1 := 0) (r2 := 0) (r3 := 0) rfl rfl (by omega) ?_
    refine wk_i ?_
    refine wi_if (cd := .eq) (nx := 22) (r1 := 26) (r2 := 0) (r3 := 0) rfl (by omega) (fun (q25 : 0 = 0) => ?_) (fun (q25 : ¬ (0 = 0)) => by exfalso; omega)
    refine wi_aload_n (i := 0) (x := 236) (nx := 27) (r1 := 0) (r2 := 0) (r3 := 0) rfl rfl ?_
    refine wr_V (k0 := 236) (rest := []) (as := [.ref 236]) (nx := 30) (r1 := 219) (r2 := 0) (r3 := 11) rfl rfl rfl (of_decide_eq_true rfl) rfl rfl (by decide) rfl rfl (of_decide_eq_true rfl) (of_decide_eq_true rfl) ?_
    refine wi_aload_n (i := 0) (x := 236) (nx := 1) (r1 := 0) (r2 := 0) (r3 := 0) rfl rfl ?_
    refine wr_gi0 (k0 := 236) (x := h19 236 8) (nx := 4) (r1 := 11) (r2 := 8) (r3 := 0) rfl rfl (by decide) rfl ⟨rfl, rfl⟩ rfl rfl ?_
    refine wi_if (cd := .ne) (nx := 7) (r1 := 11) (r2 := 0) (r3 := 0) rfl (by omega) (fun (q26 : (h19 236 8) ≠ 0) => ?_) (fun (q26 : ¬ ((h19 236 8) ≠ 0)) => by exfalso; omega)
    refine wi_iconst (n := 0) (nx := 12) (r1 := 0) (r2 := 0) (r3 := 0) rfl ?_
    refine wi_zreturn (nx := 13) (r1 := 0) (r2 := 0) (r3 := 0) rfl rfl (by omega) ?_
    refine wk_i ?_
    refine wi_zreturn (nx := 31) (r1 := 0) (r2 := 0) (r3 := 0) rfl rfl (by omega) ?_
    refine wk_i ?_
    refine wi_if (cd := .ne) (nx := 16) (r1 := 17) (r2 := 0) (r3 := 0) rfl (by omega) (fun (q27 : 0 ≠ 0) => by exfalso; omega) (fun (q27 : ¬ (0 ≠ 0)) => ?_)
    refine wi_return (nx := 17) (r1 := 0) (r2 := 0) (r3 := 0) rfl rfl ?_
    have e28 : h19 236 4 = h 236 4 := (u19 236 4 rfl)
    have e29 : h19 239 5 = h 239 5 := (u19 239 5 rfl)
    have e30 : h19 239 7 = h 239 7 := (u19 239 7 rfl)
    have e31 : h19 239 15 = h 239 15 := (u19 239 15 rfl)
    have e32 : h19 239 16 = h 239 16 := (u19 239 16 rfl)
    have e33 : h19 239 17 = h 239 17 := (u19 239 17 rfl)
    have e34 : h19 239 18 = h 239 18 := (u19 239 18 rfl)
    exact k h19 g19 F20 (show (h 236 4) ≤ (h19 236 4) by omega) (show (h19 236 4) ≤ (h 236 3) by omega) (show 1 ≤ (h19 236 8) ∨ ((h19 239 5) ≤ 9 ∧ 1 ≤ (h19 239 5) ∧ (h19 239 7) ≤ 3 ∧ (h19 239 15) ≤ 6 ∧ (h19 239 16) ≤ 6 ∧ (h19 239 17) ≤ 6 ∧ (h19 239 18) ≤ 6) from (Or.inl (by omega))) (show (h19 236 8) ≠ 0 ∨ (h19 236 9) = -1 from (Or.inl (by omega))) (by unfold tk_color; (repeat (first | unfold tk_wrd | unfold tk_num | unfold tk_color)); (try dsimp only); rw [if_pos (by omega)]; (repeat (first | unfold tk_wrd | unfold tk_num | unfold tk_color)); (try dsimp only); exact tk_ORe (by omega) (by omega) (by omega))
