-- method 233: Model.readsCar()V
set_option maxHeartbeats 100000000 in
theorem ct_233_236 {L : Nat} {xs : Nat → Int32} {d b c : Nat} {h : hp} {cr : Nat → Nat → Option Nat} {Q : hp_Q} (hcr : CR cr)  (g : GI h)   (pp0 : h 236 4 ≤ h 236 3) (pp1 : h 236 8 = 0) (pp2 : h 239 5 ≤ 9) (pp3 : 1 ≤ h 239 5) (pp4 : h 239 7 ≤ 3) (pp5 : h 239 15 ≤ 6) (pp6 : h 239 16 ≤ 6) (pp7 : h 239 17 ≤ 6) (pp8 : h 239 18 ≤ 6) (k : ∀ (h2 : hp) , GI h2 → FR [(236, 236, some (4, 4)), (236, 236, some (5, 5)), (236, 236, some (6, 6)), (236, 236, some (7, 7)), (236, 236, some (8, 8)), (236, 236, some (9, 9)), (236, 236, some (12, 12)), (239, 239, some (2, 2)), (239, 239, some (19, 30)), (239, 239, some (31, 42)), (239, 239, some (43, 54))] h h2 → (h 236 4 ≤ h2 236 4) → (h2 236 4 ≤ h 236 3) → (1 ≤ h2 236 8 ∨ (h2 239 5 ≤ 9 ∧ 1 ≤ h2 239 5 ∧ h2 239 7 ≤ 3 ∧ h2 239 15 ≤ 6 ∧ h2 239 16 ≤ 6 ∧ h2 239 17 ≤ 6 ∧ h2 239 18 ≤ 6)) → Q (.inl none) (hp_w h2 cr) b c) : wp (md_xa (L, xs)) (d + 5) 233 (0, [(0, .ref 236)], [], hp_w h cr, b, c) Q := by
  have F0 : FR [(236, 236, some (4, 4)), (236, 236, some (5, 5)), (236, 236, some (6, 6)), (236, 236, some (7, 7)), (236, 236, some (8, 8)), (236, 236, some (9, 9)), (236, 236, some (12, 12)), (239, 239, some (2, 2)), (239, 239, some (19, 30)), (239, 239, some (31, 42)), (239, 239, some (43, 54))] h h := FR.refl
  have b1 := gi_b (lo := 0) (hi := 800) g 236 4 rfl
  have b2 := gi_b (lo := 0) (hi := 800) g 236 3 rfl
  have b3 := gi_b (lo := 0) (hi := 5) g 236 8 rfl
  have b4 := gi_b (lo := 0) (hi := 999) g 239 5 rfl
  have b5 := gi_b (lo := 0) (hi := 999) g 239 7 rfl
  have b6 := gi_b (lo := 0) (hi := 999) g 239 15 rfl
  have b7 := gi_b (lo := 0) (hi := 999) g 239 16 rfl
  have b8 := gi_b (lo := 0) (hi := 999) g 239 17 rfl
  have b9 := gi_b (lo := 0) (hi := 999) g 239 18 rfl
  refine wi_aload_n (i := 0) (x := 236) (nx := 1) (r1 := 0) (r2 := 0) (r3 := 0) rfl rfl ?_
  refine wr_gr (k0 := 236) (x := 239) (nx := 4) (r1 := 11) (r2 := 14) (r3 := 0) rfl rfl (by decide) rfl ⟨rfl, rfl⟩ rfl ?_
  refine wi_iconst (n := 2) (nx := 5) (r1 := 0) (r2 := 0) (r3 := 0) rfl ?_
  have b10 := gi_b (lo := 0) (hi := 12) g 239 2 rfl
  refine wr_ia (k0 := 239) (a := 2) (f := 2) (x := h 239 2) (nx := 6) (r1 := 0) (r2 := 0) (r3 := 0) rfl (by decide) rfl (by omega) (by omega) (by decide) rfl ?_
  refine wi_istore_n (i := 1) (e := h 239 2) (lo2 := [(1, vi (h 239 2)), (0, .ref 236)]) (nx := 7) (r1 := 0) (r2 := 0) (r3 := 0) rfl rfl ?_
  refine wi_aload_n (i := 0) (x := 236) (nx := 8) (r1 := 0) (r2 := 0) (r3 := 0) rfl rfl ?_
  refine wi_iconst (n := 2) (nx := 9) (r1 := 0) (r2 := 0) (r3 := 0) rfl ?_
  refine wi_bipush (n := 12) (nx := 11) (r1 := 0) (r2 := 0) (r3 := 0) rfl (by decide) ?_
  refine wr_V (k0 := 236) (rest := []) (as := [.ref 236, vi 2, vi 12]) (nx := 14) (r1 := 223) (r2 := 2) (r3 := 11) rfl rfl rfl (of_decide_eq_true rfl) rfl rfl (by decide) rfl rfl (of_decide_eq_true rfl) (of_decide_eq_true rfl) ?_
  refine wi_aload_n (i := 0) (x := 236) (nx := 1) (r1 := 0) (r2 := 0) (r3 := 0) rfl rfl ?_
  refine wr_gr (k0 := 236) (x := 239) (nx := 4) (r1 := 11) (r2 := 14) (r3 := 0) rfl rfl (by decide) rfl ⟨rfl, rfl⟩ rfl ?_
  refine wi_iload_n (i := 1) (e := 2) (nx := 5) (r1 := 0) (r2 := 0) (r3 := 0) rfl rfl ?_
  refine wr_ia (k0 := 239) (a := 2) (f := 2) (x := h 239 2) (nx := 6) (r1 := 0) (r2 := 0) (r3 := 0) rfl (by decide) rfl (by omega) (by omega) (by decide) rfl ?_
  refine wi_iload_n (i := 2) (e := 12) (nx := 7) (r1 := 0) (r2 := 0) (r3 := 0) rfl rfl ?_
  refine wi_icmp (cd := .ne) (nx := 10) (r1 := 15) (r2 := 0) (r3 := 0) rfl (by omega) (by omega) (fun (q11 : (h 239 2) ≠ 12) => ?_) (fun (q11 : ¬ ((h 239 2) ≠ 12)) => ?_)
  ·
    refine wi_aload_n (i := 0) (x := 236) (nx := 16) (r1 := 0) (r2 := 0) (r3 := 0) rfl rfl ?_
    refine wr_V (k0 := 236) (rest := []) (as := [.ref 236]) (nx := 19) (r1 := 219) (r2 := 0) (r3 := 11) rfl rfl rfl (of_decide_eq_true rfl) rfl rfl (by decide) rfl rfl (of_decide_eq_true rfl) (of_decide_eq_true rfl) ?_
    refine wi_aload_n (i := 0) (x := 236) (nx := 1) (r1 := 0) (r2 := 0) (r3 := 0) rfl rfl ?_
    refine wr_gi0 (k0 := 236) (x := h 236 8) (nx := 4) (r1 := 11) (r2 := 8) (r3 := 0) rfl rfl (by decide) rfl ⟨rfl, rfl⟩ rfl rfl ?_
    refine wi_if (cd := .ne) (nx := 7) (r1 := 11) (r2 := 0) (r3 := 0) rfl (by omega) (fun (q12 : (h 236 8) ≠ 0) => by exfalso; omega) (fun (q12 : ¬ ((h 236 8) ≠ 0)) => ?_)
    refine wi_iconst (n := 1) (nx := 8) (r1 := 0) (r2 := 0) (r3 := 0) rfl ?_
    refine wi_goto (nx := 11) (r1 := 12) (r2 := 0) (r3 := 0) rfl ?_
    refine wi_zreturn (nx := 13) (r1 := 0) (r2 := 0) (r3 := 0) rfl rfl (by omega) ?_
    refine wk_i ?_
    refine wi_if (cd := .eq) (nx := 22) (r1 := 26) (r2 := 0) (r3 := 0) rfl (by omega) (fun (q13 : 1 = 0) => by exfalso; omega) (fun (q13 : ¬ (1 = 0)) => ?_)
    refine wi_aload_n (i := 0) (x := 236) (nx := 23) (r1 := 0) (r2 := 0) (r3 := 0) rfl rfl ?_
    refine wr_V (k0 := 236) (rest := []) (as := [.ref 236]) (nx := 26) (r1 := 215) (r2 := 0) (r3 := 11) rfl rfl rfl (of_decide_eq_true rfl) rfl rfl (by decide) rfl rfl (of_decide_eq_true rfl) (of_decide_eq_true rfl) ?_
    refine ct_215_236 hcr  g   (show (h 236 4) ≤ (h 236 3) by omega) (fun h14 g14 u14 (p14_0 : (h 236 4) ≤ (h14 236 4)) (p14_1 : (h14 236 4) ≤ (h 236 3)) (p14_2 : (h14 236 6) = 0 ∨ (h 236 4) + 1 ≤ (h14 236 4)) => ?_)
    have F15 := F0.then (by decide +kernel) u14
    have b16 := gi_b (lo := 0) (hi := 800) g14 236 4 rfl
    have b17 := gi_b (lo := 0) (hi := 4) g14 236 6 rfl
    refine wk_n ?_
    refine wi_aload_n (i := 0) (x := 236) (nx := 27) (r1 := 0) (r2 := 0) (r3 := 0) rfl rfl ?_
    refine wr_V (k0 := 236) (rest := []) (as := [.ref 236]) (nx := 30) (r1 := 219) (r2 := 0) (r3 := 11) rfl rfl rfl (of_decide_eq_true rfl) rfl rfl (by decide) rfl rfl (of_decide_eq_true rfl) (of_decide_eq_true rfl) ?_
    refine wi_aload_n (i := 0) (x := 236) (nx := 1) (r1 := 0) (r2 := 0) (r3 := 0) rfl rfl ?_
    refine wr_gi0 (k0 := 236) (x := h 236 8) (nx := 4) (r1 := 11) (r2 := 8) (r3 := 0) rfl rfl (by decide) rfl ⟨rfl, rfl⟩ rfl (u14 236 8 rfl) ?_
    refine wi_if (cd := .ne) (nx := 7) (r1 := 11) (r2 := 0) (r3 := 0) rfl (by omega) (fun (q18 : (h 236 8) ≠ 0) => by exfalso; omega) (fun (q18 : ¬ ((h 236 8) ≠ 0)) => ?_)
    refine wi_iconst (n := 1) (nx := 8) (r1 := 0) (r2 := 0) (r3 := 0) rfl ?_
    refine wi_goto (nx := 11) (r1 := 12) (r2 := 0) (r3 := 0) rfl ?_
    refine wi_zreturn (nx := 13) (r1 := 0) (r2 := 0) (r3 := 0) rfl rfl (by omega) ?_
    refine wk_i ?_
    refine wi_zreturn (nx := 31) (r1 := 0) (r2 := 0) (r3 := 0) rfl rfl (by omega) ?_
    refine wk_i ?_
    refine wi_if (cd := .ne) (nx := 17) (r1 := 18) (r2 := 0) (r3 := 0) rfl (by omega) (fun (q19 : 1 ≠ 0) => ?_) (fun (q19 : ¬ (1 ≠ 0)) => by exfalso; omega)
    refine wi_aload_n (i := 0) (x := 236) (nx := 19) (r1 := 0) (r2 := 0) (r3 := 0) rfl rfl ?_
    refine wr_V (k0 := 236) (rest := []) (as := [.ref 236]) (nx := 22) (r1 := 225) (r2 := 0) (r3 := 11) rfl rfl rfl (of_decide_eq_true rfl) rfl rfl (by decide) rfl rfl (of_decide_eq_true rfl) (of_decide_eq_true rfl) ?_
    refine ct_225_236 hcr  g14    (fun h20 g20 u20 (p20_0 : 1 ≤ (h20 236 8) ∨ (h14 236 8) = 0) => ?_)
    have F21 := F15.then (by decide +kernel) u20
    have e22 : h14 236 8 = h 236 8 := (u14 236 8 rfl)
    have b23 := gi_b (lo := 0) (hi := 5) g20 236 8 rfl
    refine wk_n ?_
    refine wi_aload_n (i := 0) (x := 236) (nx := 23) (r1 := 0) (r2 := 0) (r3 := 0) rfl rfl ?_
    refine wr_V (k0 := 236) (rest := []) (as := [.ref 236]) (nx := 26) (r1 := 227) (r2 := 0) (r3 := 11) rfl rfl rfl (of_decide_eq_true rfl) rfl rfl (by decide) rfl rfl (of_decide_eq_true rfl) (of_decide_eq_true rfl) ?_
    refine ct_227_236 hcr  g20    (fun z25  (fz25 : 0 ≤ z25 ∧ z25 ≤ 5) (p24_0 : z25 ≤ (h20 239 0)) => ?_)
    have b26 := gi_b (lo := 0) (hi := 5) g 239 0 rfl
    have e27 : h20 239 0 = h 239 0 := ((u20 239 0 rfl).trans (u14 239 0 rfl))
    refine wk_i ?_
    refine wi_istore_n (i := 2) (e := z25) (lo2 := [(2, vi z25), (1, vi (h 239 2)), (0, .ref 236)]) (nx := 27) (r1 := 0) (r2 := 0) (r3 := 0) rfl rfl ?_
    refine wi_aload_n (i := 0) (x := 236) (nx := 28) (r1 := 0) (r2 := 0) (r3 := 0) rfl rfl ?_
    refine wr_V (k0 := 236) (rest := []) (as := [.ref 236]) (nx := 31) (r1 := 219) (r2 := 0) (r3 := 11) rfl rfl rfl (of_decide_eq_true rfl) rfl rfl (by decide) rfl rfl (of_decide_eq_true rfl) (of_decide_eq_true rfl) ?_
    refine wi_aload_n (i := 0) (x := 236) (nx := 1) (r1 := 0) (r2 := 0) (r3 := 0) rfl rfl ?_
    refine wr_gi0 (k0 := 236) (x := h20 236 8) (nx := 4) (r1 := 11) (r2 := 8) (r3 := 0) rfl rfl (by decide) rfl ⟨rfl, rfl⟩ rfl rfl ?_
    refine wi_if (cd := .ne) (nx := 7) (r1 := 11) (r2 := 0) (r3 := 0) rfl (by omega) (fun (q28 : (h20 236 8) ≠ 0) => ?_) (fun (q28 : ¬ ((h20 236 8) ≠ 0)) => ?_)
    ·
      refine wi_iconst (n := 0) (nx := 12) (r1 := 0) (r2 := 0) (r3 := 0) rfl ?_
      refine wi_zreturn (nx := 13) (r1 := 0) (r2 := 0) (r3 := 0) rfl rfl (by omega) ?_
      refine wk_i ?_
      refine wi_if (cd := .eq) (nx := 34) (r1 := 49) (r2 := 0) (r3 := 0) rfl (by omega) (fun (q29 : 0 = 0) => ?_) (fun (q29 : ¬ (0 = 0)) => by exfalso; omega)
      refine wi_aload_n (i := 0) (x := 236) (nx := 50) (r1 := 0) (r2 := 0) (r3 := 0) rfl rfl ?_
      refine wr_V (k0 := 236) (rest := []) (as := [.ref 236]) (nx := 53) (r1 := 219) (r2 := 0) (r3 := 11) rfl rfl rfl (of_decide_eq_true rfl) rfl rfl (by decide) rfl rfl (of_decide_eq_true rfl) (of_decide_eq_true rfl) ?_
      refine wi_aload_n (i := 0) (x := 236) (nx := 1) (r1 := 0) (r2 := 0) (r3 := 0) rfl rfl ?_
      refine wr_gi0 (k0 := 236) (x := h20 236 8) (nx := 4) (r1 := 11) (r2 := 8) (r3 := 0) rfl rfl (by decide) rfl ⟨rfl, rfl⟩ rfl rfl ?_
      refine wi_if (cd := .ne) (nx := 7) (r1 := 11) (r2 := 0) (r3 := 0) rfl (by omega) (fun (q30 : (h20 236 8) ≠ 0) => ?_) (fun (q30 : ¬ ((h20 236 8) ≠ 0)) => by exfalso; omega)
      refine wi_iconst (n := 0) (nx := 12) (r1 := 0) (r2 := 0) (r3 := 0) rfl ?_
      refine wi_zreturn (nx := 13) (r1 := 0) (r2 := 0) (r3 := 0) rfl rfl (by omega) ?_
      refine wk_i ?_
      refine wi_if (cd := .ne) (nx := 56) (r1 := 57) (r2 := 0) (r3 := 0) rfl (by omega) (fun (q31 : 0 ≠ 0) => by exfalso; omega) (fun (q31 : ¬ (0 ≠ 0)) => ?_)
      refine wi_return (nx := 57) (r1 := 0) (r2 := 0) (r3 := 0) rfl rfl ?_
      have e32 : h20 236 4 = h14 236 4 := (u20 236 4 rfl)
      have e33 : h20 239 5 = h 239 5 := ((u20 239 5 rfl).trans (u14 239 5 rfl))
      have e34 : h20 239 7 = h 239 7 := ((u20 239 7 rfl).trans (u14 239 7 rfl))
      have e35 : h20 239 15 = h 239 15 := ((u20 239 15 rfl).trans (u14 239 15 rfl))
      have e36 : h20 239 16 = h 239 16 := ((u20 239 16 rfl).trans (u14 239 16 rfl))
      have e37 : h20 239 17 = h 239 17 := ((u20 239 17 rfl).trans (u14 239 17 rfl))
      have e38 : h20 239 18 = h 239 18 := ((u20 239 18 rfl).trans (u14 239 18 rfl))
      exact k h20 g20 F21 (show (h 236 4) ≤ (h20 236 4) by omega) (show (h20 236 4) ≤ (h 236 3) by omega) (show 1 ≤ (h20 236 8) ∨ ((h20 239 5) ≤ 9 ∧ 1 ≤ (h20 239 5) ∧ (h20 239 7) ≤ 3 ∧ (h20 239 15) ≤ 6 ∧ (h20 239 16) ≤ 6 ∧ (h20 239 17) ≤ 6 ∧ (h20 239 18) ≤ 6) by omega)
    ·
      refine wi_iconst (n := 1) (nx := 8) (r1 := 0) (r2 := 0) (r3 := 0) rfl ?_
      refine wi_goto (nx := 11) (r1 := 12) (r2 := 0) (r3 := 0) rfl ?_
      refine wi_zreturn (nx := 13) (r1 := 0) (r2 := 0) (r3 := 0) rfl rfl (by omega) ?_
      refine wk_i ?_
      refine wi_if (cd := .eq) (nx := 34) (r1 := 49) (r2 := 0) (r3 := 0) rfl (by omega) (fun (q29 : 1 = 0) => by exfalso; omega) (fun (q29 : ¬ (1 = 0)) => ?_)
      refine wi_iload_n (i := 2) (e := z25) (nx := 35) (r1 := 0) (r2 := 0) (r3 := 0) rfl rfl ?_
      refine wi_aload_n (i := 0) (x := 236) (nx := 36) (r1 := 0) (r2 := 0) (r3 := 0) rfl rfl ?_
      refine wr_gr (k0 := 236) (x := 239) (nx := 39) (r1 := 11) (r2 := 14) (r3 := 0) rfl rfl (by decide) rfl ⟨rfl, rfl⟩ rfl ?_
      refine wi_iconst (n := 0) (nx := 40) (r1 := 0) (r2 := 0) (r3 := 0) rfl ?_
      refine wr_ia (k0 := 239) (a := 0) (f := 0) (x := h 239 0) (nx := 41) (r1 := 0) (r2 := 0) (r3 := 0) rfl (by decide) rfl (by omega) (by omega) (by decide) ((u20 239 0 rfl).trans (u14 239 0 rfl)) ?_
      refine wi_icmp (cd := .ne) (nx := 44) (r1 := 49) (r2 := 0) (r3 := 0) rfl (by omega) (by omega) (fun (q30 : z25 ≠ (h 239 0)) => ?_) (fun (q30 : ¬ (z25 ≠ (h 239 0))) => ?_)
      ·
        refine wi_aload_n (i := 0) (x := 236) (nx := 50) (r1 := 0) (r2 := 0) (r3 := 0) rfl rfl ?_
        refine wr_V (k0 := 236) (rest := []) (as := [.ref 236]) (nx := 53) (r1 := 219) (r2 := 0) (r3 := 11) rfl rfl rfl (of_decide_eq_true rfl) rfl rfl (by decide) rfl rfl (of_decide_eq_true rfl) (of_decide_eq_true rfl) ?_
        refine wi_aload_n (i := 0) (x := 236) (nx := 1) (r1 := 0) (r2 := 0) (r3 := 0) rfl rfl ?_
        refine wr_gi0 (k0 := 236) (x := h20 236 8) (nx := 4) (r1 := 11) (r2 := 8) (r3 := 0) rfl rfl (by decide) rfl ⟨rfl, rfl⟩ rfl rfl ?_
        refine wi_if (cd := .ne) (nx := 7) (r1 := 11) (r2 := 0) (r3 := 0) rfl (by omega) (fun (q31 : (h20 236 8) ≠ 0) => by exfalso; omega) (fun (q31 : ¬ ((h20 236 8) ≠ 0)) => ?_)
        refine wi_iconst (n := 1) (nx := 8) (r1 := 0) (r2 := 0) (r3 := 0) rfl ?_
        refine wi_goto (nx := 11) (r1 := 12) (r2 := 0) (r3 := 0) rfl ?_
        refine wi_zreturn (nx := 13) (r1 := 0) (r2 := 0) (r3 := 0) rfl rfl (by omega) ?_
        refine wk_i ?_
        refine wi_if (cd := .ne) (nx := 56) (r1 := 57) (r2 := 0) (r3 := 0) rfl (by omega) (fun (q32 : 1 ≠ 0) => ?_) (fun (q32 : ¬ (1 ≠ 0)) => by exfalso; omega)
        refine wi_aload_n (i := 0) (x := 236) (nx := 58) (r1 := 0) (r2 := 0) (r3 := 0) rfl rfl ?_
        refine wr_V (k0 := 236) (rest := []) (as := [.ref 236]) (nx := 61) (r1 := 215) (r2 := 0) (r3 := 11) rfl rfl rfl (of_decide_eq_true rfl) rfl rfl (by decide) rfl rfl (of_decide_eq_true rfl) (of_decide_eq_true rfl) ?_
        have e34 : h20 236 4 = h14 236 4 := (u20 236 4 rfl)
        have e35 : h20 236 3 = h 236 3 := ((u20 236 3 rfl).trans (u14 236 3 rfl))
        refine ct_215_236 hcr  g20   (show (h20 236 4) ≤ (h20 236 3) by omega) (fun h33 g33 u33 (p33_0 : (h20 236 4) ≤ (h33 236 4)) (p33_1 : (h33 236 4) ≤ (h20 236 3)) (p33_2 : (h33 236 6) = 0 ∨ (h20 236 4) + 1 ≤ (h33 236 4)) => ?_)
        have F36 := F21.then (by decide +kernel) u33
        have b37 := gi_b (lo := 0) (hi := 800) g33 236 4 rfl
        have b38 := gi_b (lo := 0) (hi := 4) g33 236 6 rfl
        refine wk_n ?_
        refine wi_aload_n (i := 0) (x := 236) (nx := 62) (r1 := 0) (r2 := 0) (r3 := 0) rfl rfl ?_
        refine wr_gr (k0 := 236) (x := 239) (nx := 65) (r1 := 11) (r2 := 14) (r3 := 0) rfl rfl (by decide) rfl ⟨rfl, rfl⟩ rfl ?_
        refine wi_bipush (n := 31) (nx := 67) (r1 := 0) (r2 := 0) (r3 := 0) rfl (by decide) ?_
        refine wi_iload_n (i := 1) (e := h 239 2) (nx := 68) (r1 := 0) (r2 := 0) (r3 := 0) rfl rfl ?_
        refine wr_add (nx := 69) (r1 := 0) (r2 := 0) (r3 := 0) rfl (fun e39 (fe39 : e39 = 31 + (h 239 2)) => ?_)
        refine wi_iload_n (i := 2) (e := z25) (nx := 70) (r1 := 0) (r2 := 0) (r3 := 0) rfl rfl ?_
        obtain ⟨i40, ei40⟩ : ∃ q : Nat, e39 = (q : Int) := ⟨(e39).toNat, by omega⟩
        refine wr_is (k0 := 239) (a := e39) (f := i40) (x := z25) (bl := 0) (bh := 4) (nx := 71) (r1 := 0) (r2 := 0) (r3 := 0) rfl (by decide) rfl (by omega) (by omega) (by decide) g33 (gi_rq 31 12 (fun _ => rfl) (by decide +kernel) (by omega)) (by omega) (fun h41 g41 w41 u41 => ?_)
        have F42 := F36.then rfl (FR.idx (p := 31) (q := 42) u41 (by omega))
        refine wi_aload_n (i := 0) (x := 236) (nx := 72) (r1 := 0) (r2 := 0) (r3 := 0) rfl rfl ?_
        refine wr_gr (k0 := 236) (x := 239) (nx := 75) (r1 := 11) (r2 := 14) (r3 := 0) rfl rfl (by decide) rfl ⟨rfl, rfl⟩ rfl ?_
        refine wi_bipush (n := 19) (nx := 77) (r1 := 0) (r2 := 0) (r3 := 0) rfl (by decide) ?_
        refine wi_iload_n (i := 1) (e := h 239 2) (nx := 78) (r1 := 0) (r2 := 0) (r3 := 0) rfl rfl ?_
        refine wr_add (nx := 79) (r1 := 0) (r2 := 0) (r3 := 0) rfl (fun e43 (fe43 : e43 = 19 + (h 239 2)) => ?_)
        refine wi_aload_n (i := 0) (x := 236) (nx := 80) (r1 := 0) (r2 := 0) (r3 := 0) rfl rfl ?_
        refine wi_ldc2_w (e := 81049) (nx := 83) (r1 := 81049) (r2 := 0) (r3 := 0) rfl (by decide) ?_
        refine wi_iconst (n := 0) (nx := 84) (r1 := 0) (r2 := 0) (r3 := 0) rfl ?_
        refine wi_iconst (n := 3) (nx := 85) (r1 := 0) (r2 := 0) (r3 := 0) rfl ?_
        refine wr_V (k0 := 236) (rest := [vi e43, .ref 239]) (as := [.ref 236, vl 81049, vi 0, vi 3]) (nx := 88) (r1 := 228) (r2 := 3) (r3 := 11) rfl rfl rfl (of_decide_eq_true rfl) rfl rfl (by decide) rfl rfl (of_decide_eq_true rfl) (of_decide_eq_true rfl) ?_
        have e45 : h41 236 4 = h33 236 4 := (u41 236 4 (fn_a (by omega) fn_0))
        have e46 : h41 236 3 = h 236 3 := ((u41 236 3 (fn_a (by omega) fn_0)).trans ((u33 236 3 rfl).trans ((u20 236 3 rfl).trans (u14 236 3 rfl))))
        refine ct_228_236 hcr  g41 81049 0 3 (by omega) (by omega) (by omega) (show (h41 236 4) ≤ (h41 236 3) by omega) (fun h44 z47 g44 u44 (fz47 : 0 ≤ z47 ∧ z47 ≤ 999) (p44_0 : (h41 236 4) ≤ (h44 236 4)) (p44_1 : (h44 236 4) ≤ (h41 236 3)) (p44_2 : 1 ≤ (h44 236 8) ∨ (h41 236 8) = 0) (p44_3 : 1 ≤ (h44 236 8) ∨ (0 ≤ z47 ∧ z47 ≤ 3)) => ?_)
        have F48 := F42.then (by decide +kernel) u44
        have b49 := gi_b (lo := 0) (hi := 800) g44 236 4 rfl
        have e50 : h41 236 8 = h20 236 8 := ((u41 236 8 (fn_a (by omega) fn_0)).trans (u33 236 8 rfl))
        have b51 := gi_b (lo := 0) (hi := 5) g44 236 8 rfl
        refine wk_i ?_
        obtain ⟨i52, ei52⟩ : ∃ q : Nat, e43 = (q : Int) := ⟨(e43).toNat, by omega⟩
        refine wr_is (k0 := 239) (a := e43) (f := i52) (x := z47) (bl := 0) (bh := 999) (nx := 89) (r1 := 0) (r2 := 0) (r3 := 0) rfl (by decide) rfl (by omega) (by omega) (by decide) g44 (gi_rq 19 12 (fun _ => rfl) (by decide +kernel) (by omega)) (by omega) (fun h53 g53 w53 u53 => ?_)
        have F54 := F48.then rfl (FR.idx (p := 19) (q := 30) u53 (by omega))
        refine wi_aload_n (i := 0) (x := 236) (nx := 90) (r1 := 0) (r2 := 0) (r3 := 0) rfl rfl ?_
        refine wr_gr (k0 := 236) (x := 239) (nx := 93) (r1 := 11) (r2 := 14) (r3 := 0) rfl rfl (by decide) rfl ⟨rfl, rfl⟩ rfl ?_
        refine wi_bipush (n := 43) (nx := 95) (r1 := 0) (r2 := 0) (r3 := 0) rfl (by decide) ?_
        refine wi_iload_n (i := 1) (e := h 239 2) (nx := 96) (r1 := 0) (r2 := 0) (r3 := 0) rfl rfl ?_
        refine wr_add (nx := 97) (r1 := 0) (r2 := 0) (r3 := 0) rfl (fun e55 (fe55 : e55 = 43 + (h 239 2)) => ?_)
        refine wi_aload_n (i := 0) (x := 236) (nx := 98) (r1 := 0) (r2 := 0) (r3 := 0) rfl rfl ?_
        refine wi_ldc2_w (e := 2084) (nx := 101) (r1 := 2084) (r2 := 0) (r3 := 0) rfl (by decide) ?_
        refine wr_V (k0 := 236) (rest := [vi e55, .ref 239]) (as := [.ref 236, vl 2084]) (nx := 104) (r1 := 230) (r2 := 1) (r3 := 11) rfl rfl rfl (of_decide_eq_true rfl) rfl rfl (by decide) rfl rfl (of_decide_eq_true rfl) (of_decide_eq_true rfl) ?_
        refine wi_aload_n (i := 0) (x := 236) (nx := 1) (r1 := 0) (r2 := 0) (r3 := 0) rfl rfl ?_
        refine wi_lload_n (i := 1) (e := 2084) (nx := 2) (r1 := 0) (r2 := 0) (r3 := 0) rfl rfl ?_
        refine wr_V (k0 := 236) (rest := []) (as := [.ref 236, vl 2084]) (nx := 5) (r1 := 221) (r2 := 1) (r3 := 11) rfl rfl rfl (of_decide_eq_true rfl) rfl rfl (by decide) rfl rfl (of_decide_eq_true rfl) (of_decide_eq_true rfl) ?_
        refine wi_aload_n (i := 0) (x := 236) (nx := 1) (r1 := 0) (r2 := 0) (r3 := 0) rfl rfl ?_
        refine wr_gi0 (k0 := 236) (x := h44 236 8) (nx := 4) (r1 := 11) (r2 := 8) (r3 := 0) rfl rfl (by decide) rfl ⟨rfl, rfl⟩ rfl (u53 236 8 (fn_a (by omega) fn_0)) ?_
        refine wi_if (cd := .ne) (nx := 7) (r1 := 28) (r2 := 0) (r3 := 0) rfl (by omega) (fun (q56 : (h44 236 8) ≠ 0) => ?_) (fun (q56 : ¬ ((h44 236 8) ≠ 0)) => ?_)
        ·
          refine wi_iconst (n := 0) (nx := 29) (r1 := 0) (r2 := 0) (r3 := 0) rfl ?_
          refine wi_zreturn (nx := 30) (r1 := 0) (r2 := 0) (r3 := 0) rfl rfl (by omega) ?_
          refine wk_i ?_
          refine wi_istore_n (i := 3) (e := 0) (lo2 := [(3, vi 0), (0, .ref 236), (1, vl 2084)]) (nx := 6) (r1 := 0) (r2 := 0) (r3 := 0) rfl rfl ?_
          refine wi_iload_n (i := 3) (e := 0) (nx := 7) (r1 := 0) (r2 := 0) (r3 := 0) rfl rfl ?_
          refine wi_if (cd := .eq) (nx := 10) (r1 := 14) (r2 := 0) (r3 := 0) rfl (by omega) (fun (q57 : 0 = 0) => ?_) (fun (q57 : ¬ (0 = 0)) => by exfalso; omega)
          refine wi_iload_n (i := 3) (e := 0) (nx := 15) (r1 := 0) (r2 := 0) (r3 := 0) rfl rfl ?_
          refine wi_zreturn (nx := 16) (r1 := 0) (r2 := 0) (r3 := 0) rfl rfl (by omega) ?_
          refine wk_i ?_
          refine wi_if (cd := .eq) (nx := 107) (r1 := 116) (r2 := 0) (r3 := 0) rfl (by omega) (fun (q58 : 0 = 0) => ?_) (fun (q58 : ¬ (0 = 0)) => by exfalso; omega)
          refine wi_iconst (n := 0) (nx := 117) (r1 := 0) (r2 := 0) (r3 := 0) rfl ?_
          obtain ⟨i59, ei59⟩ : ∃ q : Nat, e55 = (q : Int) := ⟨(e55).toNat, by omega⟩
          refine wr_is (k0 := 239) (a := e55) (f := i59) (x := 0) (bl := 0) (bh := 999) (nx := 118) (r1 := 0) (r2 := 0) (r3 := 0) rfl (by decide) rfl (by omega) (by omega) (by decide) g53 (gi_rq 43 12 (fun _ => rfl) (by decide +kernel) (by omega)) (by omega) (fun h60 g60 w60 u60 => ?_)
          have F61 := F54.then rfl (FR.idx (p := 43) (q := 54) u60 (by omega))
          refine wi_aload_n (i := 0) (x := 236) (nx := 119) (r1 := 0) (r2 := 0) (r3 := 0) rfl rfl ?_
          refine wr_V (k0 := 236) (rest := []) (as := [.ref 236]) (nx := 122) (r1 := 219) (r2 := 0) (r3 := 11) rfl rfl rfl (of_decide_eq_true rfl) rfl rfl (by decide) rfl rfl (of_decide_eq_true rfl) (of_decide_eq_true rfl) ?_
          refine wi_aload_n (i := 0) (x := 236) (nx := 1) (r1 := 0) (r2 := 0) (r3 := 0) rfl rfl ?_
          refine wr_gi0 (k0 := 236) (x := h44 236 8) (nx := 4) (r1 := 11) (r2 := 8) (r3 := 0) rfl rfl (by decide) rfl ⟨rfl, rfl⟩ rfl ((u60 236 8 (fn_a (by omega) fn_0)).trans (u53 236 8 (fn_a (by omega) fn_0))) ?_
          refine wi_if (cd := .ne) (nx := 7) (r1 := 11) (r2 := 0) (r3 := 0) rfl (by omega) (fun (q62 : (h44 236 8) ≠ 0) => ?_) (fun (q62 : ¬ ((h44 236 8) ≠ 0)) => by exfalso; omega)
          refine wi_iconst (n := 0) (nx := 12) (r1 := 0) (r2 := 0) (r3 := 0) rfl ?_
          refine wi_zreturn (nx := 13) (r1 := 0) (r2 := 0) (r3 := 0) rfl rfl (by omega) ?_
          refine wk_i ?_
          refine wi_if (cd := .eq) (nx := 125) (r1 := 135) (r2 := 0) (r3 := 0) rfl (by omega) (fun (q63 : 0 = 0) => ?_) (fun (q63 : ¬ (0 = 0)) => by exfalso; omega)
          refine wi_return (nx := 136) (r1 := 0) (r2 := 0) (r3 := 0) rfl rfl ?_
          have e64 : h60 236 4 = h44 236 4 := ((u60 236 4 (fn_a (by omega) fn_0)).trans (u53 236 4 (fn_a (by omega) fn_0)))
          have e65 : h60 236 8 = h44 236 8 := ((u60 236 8 (fn_a (by omega) fn_0)).trans (u53 236 8 (fn_a (by omega) fn_0)))
          have e66 : h60 239 5 = h 239 5 := ((u60 239 5 (fn_i (by omega) fn_0)).trans ((u53 239 5 (fn_i (by omega) fn_0)).trans ((u44 239 5 rfl).trans ((u41 239 5 (fn_i (by omega) fn_0)).trans ((u33 239 5 rfl).trans ((u20 239 5 rfl).trans (u14 239 5 rfl)))))))
          have e67 : h60 239 7 = h 239 7 := ((u60 239 7 (fn_i (by omega) fn_0)).trans ((u53 239 7 (fn_i (by omega) fn_0)).trans ((u44 239 7 rfl).trans ((u41 239 7 (fn_i (by omega) fn_0)).trans ((u33 239 7 rfl).trans ((u20 239 7 rfl).trans (u14 239 7 rfl)))))))
          have e68 : h60 239 15 = h 239 15 := ((u60 239 15 (fn_i (by omega) fn_0)).trans ((u53 239 15 (fn_i (by omega) fn_0)).trans ((u44 239 15 rfl).trans ((u41 239 15 (fn_i (by omega) fn_0)).trans ((u33 239 15 rfl).trans ((u20 239 15 rfl).trans (u14 239 15 rfl)))))))
          have e69 : h60 239 16 = h 239 16 := ((u60 239 16 (fn_i (by omega) fn_0)).trans ((u53 239 16 (fn_i (by omega) fn_0)).trans ((u44 239 16 rfl).trans ((u41 239 16 (fn_i (by omega) fn_0)).trans ((u33 239 16 rfl).trans ((u20 239 16 rfl).trans (u14 239 16 rfl)))))))
          have e70 : h60 239 17 = h 239 17 := ((u60 239 17 (fn_i (by omega) fn_0)).trans ((u53 239 17 (fn_i (by omega) fn_0)).trans ((u44 239 17 rfl).trans ((u41 239 17 (fn_i (by omega) fn_0)).trans ((u33 239 17 rfl).trans ((u20 239 17 rfl).trans (u14 239 17 rfl)))))))
          have e71 : h60 239 18 = h 239 18 := ((u60 239 18 (fn_i (by omega) fn_0)).trans ((u53 239 18 (fn_i (by omega) fn_0)).trans ((u44 239 18 rfl).trans ((u41 239 18 (fn_i (by omega) fn_0)).trans ((u33 239 18 rfl).trans ((u20 239 18 rfl).trans (u14 239 18 rfl)))))))
          exact k h60 g60 F61 (show (h 236 4) ≤ (h60 236 4) by omega) (show (h60 236 4) ≤ (h 236 3) by omega) (show 1 ≤ (h60 236 8) ∨ ((h60 239 5) ≤ 9 ∧ 1 ≤ (h60 239 5) ∧ (h60 239 7) ≤ 3 ∧ (h60 239 15) ≤ 6 ∧ (h60 239 16) ≤ 6 ∧ (h60 239 17) ≤ 6 ∧ (h60 239 18) ≤ 6) by omega)
        ·
          refine wi_aload_n (i := 0) (x := 236) (nx := 8) (r1 := 0) (r2 := 0) (r3 := 0) rfl rfl ?_
          have b57 := gi_b (lo := 0) (hi := 4) g44 236 6 rfl
          refine wr_gi0 (k0 := 236) (x := h44 236 6) (nx := 11) (r1 := 11) (r2 := 6) (r3 := 0) rfl rfl (by decide) rfl ⟨rfl, rfl⟩ rfl (u53 236 6 (fn_a (by omega) fn_0)) ?_
          refine wi_iconst (n := 1) (nx := 12) (r1 := 0) (r2 := 0) (r3 := 0) rfl ?_
          refine wi_icmp (cd := .ne) (nx := 15) (r1 := 28) (r2 := 0) (r3 := 0) rfl (by omega) (by omega) (fun (q58 : (h44 236 6) ≠ 1) => ?_) (fun (q58 : ¬ ((h44 236 6) ≠ 1)) => ?_)
          ·
            refine wi_iconst (n := 0) (nx := 29) (r1 := 0) (r2 := 0) (r3 := 0) rfl ?_
            refine wi_zreturn (nx := 30) (r1 := 0) (r2 := 0) (r3 := 0) rfl rfl (by omega) ?_
            refine wk_i ?_
            refine wi_istore_n (i := 3) (e := 0) (lo2 := [(3, vi 0), (0, .ref 236), (1, vl 2084)]) (nx := 6) (r1 := 0) (r2 := 0) (r3 := 0) rfl rfl ?_
            refine wi_iload_n (i := 3) (e := 0) (nx := 7) (r1 := 0) (r2 := 0) (r3 := 0) rfl rfl ?_
            refine wi_if (cd := .eq) (nx := 10) (r1 := 14) (r2 := 0) (r3 := 0) rfl (by omega) (fun (q59 : 0 = 0) => ?_) (fun (q59 : ¬ (0 = 0)) => by exfalso; omega)
            refine wi_iload_n (i := 3) (e := 0) (nx := 15) (r1 := 0) (r2 := 0) (r3 := 0) rfl rfl ?_
            refine wi_zreturn (nx := 16) (r1 := 0) (r2 := 0) (r3 := 0) rfl rfl (by omega) ?_
            refine wk_i ?_
            refine wi_if (cd := .eq) (nx := 107) (r1 := 116) (r2 := 0) (r3 := 0) rfl (by omega) (fun (q60 : 0 = 0) => ?_) (fun (q60 : ¬ (0 = 0)) => by exfalso; omega)
            refine wi_iconst (n := 0) (nx := 117) (r1 := 0) (r2 := 0) (r3 := 0) rfl ?_
            obtain ⟨i61, ei61⟩ : ∃ q : Nat, e55 = (q : Int) := ⟨(e55).toNat, by omega⟩
            refine wr_is (k0 := 239) (a := e55) (f := i61) (x := 0) (bl := 0) (bh := 999) (nx := 118) (r1 := 0) (r2 := 0) (r3 := 0) rfl (by decide) rfl (by omega) (by omega) (by decide) g53 (gi_rq 43 12 (fun _ => rfl) (by decide +kernel) (by omega)) (by omega) (fun h62 g62 w62 u62 => ?_)
            have F63 := F54.then rfl (FR.idx (p := 43) (q := 54) u62 (by omega))
            refine wi_aload_n (i := 0) (x := 236) (nx := 119) (r1 := 0) (r2 := 0) (r3 := 0) rfl rfl ?_
            refine wr_V (k0 := 236) (rest := []) (as := [.ref 236]) (nx := 122) (r1 := 219) (r2 := 0) (r3 := 11) rfl rfl rfl (of_decide_eq_true rfl) rfl rfl (by decide) rfl rfl (of_decide_eq_true rfl) (of_decide_eq_true rfl) ?_
            refine wi_aload_n (i := 0) (x := 236) (nx := 1) (r1 := 0) (r2 := 0) (r3 := 0) rfl rfl ?_
            refine wr_gi0 (k0 := 236) (x := h44 236 8) (nx := 4) (r1 := 11) (r2 := 8) (r3 := 0) rfl rfl (by decide) rfl ⟨rfl, rfl⟩ rfl ((u62 236 8 (fn_a (by omega) fn_0)).trans (u53 236 8 (fn_a (by omega) fn_0))) ?_
            refine wi_if (cd := .ne) (nx := 7) (r1 := 11) (r2 := 0) (r3 := 0) rfl (by omega) (fun (q64 : (h44 236 8) ≠ 0) => by exfalso; omega) (fun (q64 : ¬ ((h44 236 8) ≠ 0)) => ?_)
            refine wi_iconst (n := 1) (nx := 8) (r1 := 0) (r2 := 0) (r3 := 0) rfl ?_
            refine wi_goto (nx := 11) (r1 := 12) (r2 := 0) (r3 := 0) rfl ?_
            refine wi_zreturn (nx := 13) (r1 := 0) (r2 := 0) (r3 := 0) rfl rfl (by omega) ?_
            refine wk_i ?_
            refine wi_if (cd := .eq) (nx := 125) (r1 := 135) (r2 := 0) (r3 := 0) rfl (by omega) (fun (q65 : 1 = 0) => by exfalso; omega) (fun (q65 : ¬ (1 = 0)) => ?_)
            refine wi_aload_n (i := 0) (x := 236) (nx := 126) (r1 := 0) (r2 := 0) (r3 := 0) rfl rfl ?_
            refine wr_gr (k0 := 236) (x := 239) (nx := 129) (r1 := 11) (r2 := 14) (r3 := 0) rfl rfl (by decide) rfl ⟨rfl, rfl⟩ rfl ?_
            refine wi_iconst (n := 2) (nx := 130) (r1 := 0) (r2 := 0) (r3 := 0) rfl ?_
            refine wi_dup2 (nx := 131) (r1 := 0) (r2 := 0) (r3 := 0) rfl rfl rfl ?_
            refine wr_ia (k0 := 239) (a := 2) (f := 2) (x := h 239 2) (nx := 132) (r1 := 0) (r2 := 0) (r3 := 0) rfl (by decide) rfl (by omega) (by omega) (by decide) ((u62 239 2 (fn_i (by omega) fn_0)).trans ((u53 239 2 (fn_i (by omega) fn_0)).trans ((u44 239 2 rfl).trans ((u41 239 2 (fn_i (by omega) fn_0)).trans ((u33 239 2 rfl).trans ((u20 239 2 rfl).trans (u14 239 2 rfl))))))) ?_
            refine wi_iconst (n := 1) (nx := 133) (r1 := 0) (r2 := 0) (r3 := 0) rfl ?_
            refine wr_add (nx := 134) (r1 := 0) (r2 := 0) (r3 := 0) rfl (fun e66 (fe66 : e66 = (h 239 2) + 1) => ?_)
            refine wr_is (k0 := 239) (a := 2) (f := 2) (x := e66) (bl := 0) (bh := 12) (nx := 135) (r1 := 0) (r2 := 0) (r3 := 0) rfl (by decide) rfl (by omega) (by omega) (by decide) g62 rfl (by omega) (fun h67 g67 w67 u67 => ?_)
            have F68 := F63.then rfl u67
            refine wi_return (nx := 136) (r1 := 0) (r2 := 0) (r3 := 0) rfl rfl ?_
            have e69 : h67 236 4 = h44 236 4 := ((u67 236 4 rfl).trans ((u62 236 4 (fn_a (by omega) fn_0)).trans (u53 236 4 (fn_a (by omega) fn_0))))
            have e70 : h67 236 8 = h44 236 8 := ((u67 236 8 rfl).trans ((u62 236 8 (fn_a (by omega) fn_0)).trans (u53 236 8 (fn_a (by omega) fn_0))))
            have e71 : h67 239 5 = h 239 5 := ((u67 239 5 rfl).trans ((u62 239 5 (fn_i (by omega) fn_0)).trans ((u53 239 5 (fn_i (by omega) fn_0)).trans ((u44 239 5 rfl).trans ((u41 239 5 (fn_i (by omega) fn_0)).trans ((u33 239 5 rfl).trans ((u20 239 5 rfl).trans (u14 239 5 rfl))))))))
            have e72 : h67 239 7 = h 239 7 := ((u67 239 7 rfl).trans ((u62 239 7 (fn_i (by omega) fn_0)).trans ((u53 239 7 (fn_i (by omega) fn_0)).trans ((u44 239 7 rfl).trans ((u41 239 7 (fn_i (by omega) fn_0)).trans ((u33 239 7 rfl).trans ((u20 239 7 rfl).trans (u14 239 7 rfl))))))))
            have e73 : h67 239 15 = h 239 15 := ((u67 239 15 rfl).trans ((u62 239 15 (fn_i (by omega) fn_0)).trans ((u53 239 15 (fn_i (by omega) fn_0)).trans ((u44 239 15 rfl).trans ((u41 239 15 (fn_i (by omega) fn_0)).trans ((u33 239 15 rfl).trans ((u20 239 15 rfl).trans (u14 239 15 rfl))))))))
            have e74 : h67 239 16 = h 239 16 := ((u67 239 16 rfl).trans ((u62 239 16 (fn_i (by omega) fn_0)).trans ((u53 239 16 (fn_i (by omega) fn_0)).trans ((u44 239 16 rfl).trans ((u41 239 16 (fn_i (by omega) fn_0)).trans ((u33 239 16 rfl).trans ((u20 239 16 rfl).trans (u14 239 16 rfl))))))))
            have e75 : h67 239 17 = h 239 17 := ((u67 239 17 rfl).trans ((u62 239 17 (fn_i (by omega) fn_0)).trans ((u53 239 17 (fn_i (by omega) fn_0)).trans ((u44 239 17 rfl).trans ((u41 239 17 (fn_i (by omega) fn_0)).trans ((u33 239 17 rfl).trans ((u20 239 17 rfl).trans (u14 239 17 rfl))))))))
            have e76 : h67 239 18 = h 239 18 := ((u67 239 18 rfl).trans ((u62 239 18 (fn_i (by omega) fn_0)).trans ((u53 239 18 (fn_i (by omega) fn_0)).trans ((u44 239 18 rfl).trans ((u41 239 18 (fn_i (by omega) fn_0)).trans ((u33 239 18 rfl).trans ((u20 239 18 rfl).trans (u14 239 18 rfl))))))))
            exact k h67 g67 F68 (show (h 236 4) ≤ (h67 236 4) by omega) (show (h67 236 4) ≤ (h 236 3) by omega) (show 1 ≤ (h67 236 8) ∨ ((h67 239 5) ≤ 9 ∧ 1 ≤ (h67 239 5) ∧ (h67 239 7) ≤ 3 ∧ (h67 239 15) ≤ 6 ∧ (h67 239 16) ≤ 6 ∧ (h67 239 17) ≤ 6 ∧ (h67 239 18) ≤ 6) by omega)
          ·
            refine wi_aload_n (i := 0) (x := 236) (nx := 16) (r1 := 0) (r2 := 0) (r3 := 0) rfl rfl ?_
            have b59 := gi_b (lo := -9223372036854775808) (hi := 9223372036854775807) g44 236 12 rfl
            refine wr_gi1 (k0 := 236) (x := h44 236 12) (nx := 19) (r1 := 11) (r2 := 12) (r3 := 0) rfl rfl (by decide) rfl ⟨rfl, rfl⟩ rfl (u53 236 12 (fn_a (by omega) fn_0)) ?_
            refine wi_lload_n (i := 1) (e := 2084) (nx := 20) (r1 := 0) (r2 := 0) (r3 := 0) rfl rfl ?_
            refine wi_lcmp (a := h44 236 12) (e := 2084) (nx := 21) (r1 := 0) (r2 := 0) (r3 := 0) rfl (by omega) (by omega) (fun r60 (fr60 : (r60 = -1 ∧ (h44 236 12) < 2084) ∨ (r60 = 0 ∧ (h44 236 12) = 2084) ∨ (r60 = 1 ∧ 2084 < (h44 236 12))) => ?_)
            refine wi_if (cd := .ne) (nx := 24) (r1 := 28) (r2 := 0) (r3 := 0) rfl (by omega) (fun (q61 : r60 ≠ 0) => ?_) (fun (q61 : ¬ (r60 ≠ 0)) => ?_)
            ·
              refine wi_iconst (n := 0) (nx := 29) (r1 := 0) (r2 := 0) (r3 := 0) rfl ?_
              refine wi_zreturn (nx := 30) (r1 := 0) (r2 := 0) (r3 := 0) rfl rfl (by omega) ?_
              refine wk_i ?_
              refine wi_istore_n (i := 3) (e := 0) (lo2 := [(3, vi 0), (0, .ref 236), (1, vl 2084)]) (nx := 6) (r1 := 0) (r2 := 0) (r3 := 0) rfl rfl ?_
              refine wi_iload_n (i := 3) (e := 0) (nx := 7) (r1 := 0) (r2 := 0) (r3 := 0) rfl rfl ?_
              refine wi_if (cd := .eq) (nx := 10) (r1 := 14) (r2 := 0) (r3 := 0) rfl (by omega) (fun (q62 : 0 = 0) => ?_) (fun (q62 : ¬ (0 = 0)) => by exfalso; omega)
              refine wi_iload_n (i := 3) (e := 0) (nx := 15) (r1 := 0) (r2 := 0) (r3 := 0) rfl rfl ?_
              refine wi_zreturn (nx := 16) (r1 := 0) (r2 := 0) (r3 := 0) rfl rfl (by omega) ?_
              refine wk_i ?_
              refine wi_if (cd := .eq) (nx := 107) (r1 := 116) (r2 := 0) (r3 := 0) rfl (by omega) (fun (q63 : 0 = 0) => ?_) (fun (q63 : ¬ (0 = 0)) => by exfalso; omega)
              refine wi_iconst (n := 0) (nx := 117) (r1 := 0) (r2 := 0) (r3 := 0) rfl ?_
              obtain ⟨i64, ei64⟩ : ∃ q : Nat, e55 = (q : Int) := ⟨(e55).toNat, by omega⟩
              refine wr_is (k0 := 239) (a := e55) (f := i64) (x := 0) (bl := 0) (bh := 999) (nx := 118) (r1 := 0) (r2 := 0) (r3 := 0) rfl (by decide) rfl (by omega) (by omega) (by decide) g53 (gi_rq 43 12 (fun _ => rfl) (by decide +kernel) (by omega)) (by omega) (fun h65 g65 w65 u65 => ?_)
              have F66 := F54.then rfl (FR.idx (p := 43) (q := 54) u65 (by omega))
              refine wi_aload_n (i := 0) (x := 236) (nx := 119) (r1 := 0) (r2 := 0) (r3 := 0) rfl rfl ?_
              refine wr_V (k0 := 236) (rest := []) (as := [.ref 236]) (nx := 122) (r1 := 219) (r2 := 0) (r3 := 11) rfl rfl rfl (of_decide_eq_true rfl) rfl rfl (by decide) rfl rfl (of_decide_eq_true rfl) (of_decide_eq_true rfl) ?_
              refine wi_aload_n (i := 0) (x := 236) (nx := 1) (r1 := 0) (r2 := 0) (r3 := 0) rfl rfl ?_
              refine wr_gi0 (k0 := 236) (x := h44 236 8) (nx := 4) (r1 := 11) (r2 := 8) (r3 := 0) rfl rfl (by decide) rfl ⟨rfl, rfl⟩ rfl ((u65 236 8 (fn_a (by omega) fn_0)).trans (u53 236 8 (fn_a (by omega) fn_0))) ?_
              refine wi_if (cd := .ne) (nx := 7) (r1 := 11) (r2 := 0) (r3 := 0) rfl (by omega) (fun (q67 : (h44 236 8) ≠ 0) => by exfalso; omega) (fun (q67 : ¬ ((h44 236 8) ≠ 0)) => ?_)
              refine wi_iconst (n := 1) (nx := 8) (r1 := 0) (r2 := 0) (r3 := 0) rfl ?_
              refine wi_goto (nx := 11) (r1 := 12) (r2 := 0) (r3 := 0) rfl ?_
              refine wi_zreturn (nx := 13) (r1 := 0) (r2 := 0) (r3 := 0) rfl rfl (by omega) ?_
              refine wk_i ?_
              refine wi_if (cd := .eq) (nx := 125) (r1 := 135) (r2 := 0) (r3 := 0) rfl (by omega) (fun (q68 : 1 = 0) => by exfalso; omega) (fun (q68 : ¬ (1 = 0)) => ?_)
              refine wi_aload_n (i := 0) (x := 236) (nx := 126) (r1 := 0) (r2 := 0) (r3 := 0) rfl rfl ?_
              refine wr_gr (k0 := 236) (x := 239) (nx := 129) (r1 := 11) (r2 := 14) (r3 := 0) rfl rfl (by decide) rfl ⟨rfl, rfl⟩ rfl ?_
              refine wi_iconst (n := 2) (nx := 130) (r1 := 0) (r2 := 0) (r3 := 0) rfl ?_
              refine wi_dup2 (nx := 131) (r1 := 0) (r2 := 0) (r3 := 0) rfl rfl rfl ?_
              refine wr_ia (k0 := 239) (a := 2) (f := 2) (x := h 239 2) (nx := 132) (r1 := 0) (r2 := 0) (r3 := 0) rfl (by decide) rfl (by omega) (by omega) (by decide) ((u65 239 2 (fn_i (by omega) fn_0)).trans ((u53 239 2 (fn_i (by omega) fn_0)).trans ((u44 239 2 rfl).trans ((u41 239 2 (fn_i (by omega) fn_0)).trans ((u33 239 2 rfl).trans ((u20 239 2 rfl).trans (u14 239 2 rfl))))))) ?_
              refine wi_iconst (n := 1) (nx := 133) (r1 := 0) (r2 := 0) (r3 := 0) rfl ?_
              refine wr_add (nx := 134) (r1 := 0) (r2 := 0) (r3 := 0) rfl (fun e69 (fe69 : e69 = (h 239 2) + 1) => ?_)
              refine wr_is (k0 := 239) (a := 2) (f := 2) (x := e69) (bl := 0) (bh := 12) (nx := 135) (r1 := 0) (r2 := 0) (r3 := 0) rfl (by decide) rfl (by omega) (by omega) (by decide) g65 rfl (by omega) (fun h70 g70 w70 u70 => ?_)
              have F71 := F66.then rfl u70
              refine wi_return (nx := 136) (r1 := 0) (r2 := 0) (r3 := 0) rfl rfl ?_
              have e72 : h70 236 4 = h44 236 4 := ((u70 236 4 rfl).trans ((u65 236 4 (fn_a (by omega) fn_0)).trans (u53 236 4 (fn_a (by omega) fn_0))))
              have e73 : h70 236 8 = h44 236 8 := ((u70 236 8 rfl).trans ((u65 236 8 (fn_a (by omega) fn_0)).trans (u53 236 8 (fn_a (by omega) fn_0))))
              have e74 : h70 239 5 = h 239 5 := ((u70 239 5 rfl).trans ((u65 239 5 (fn_i (by omega) fn_0)).trans ((u53 239 5 (fn_i (by omega) fn_0)).trans ((u44 239 5 rfl).trans ((u41 239 5 (fn_i (by omega) fn_0)).trans ((u33 239 5 rfl).trans ((u20 239 5 rfl).trans (u14 239 5 rfl))))))))
              have e75 : h70 239 7 = h 239 7 := ((u70 239 7 rfl).trans ((u65 239 7 (fn_i (by omega) fn_0)).trans ((u53 239 7 (fn_i (by omega) fn_0)).trans ((u44 239 7 rfl).trans ((u41 239 7 (fn_i (by omega) fn_0)).trans ((u33 239 7 rfl).trans ((u20 239 7 rfl).trans (u14 239 7 rfl))))))))
              have e76 : h70 239 15 = h 239 15 := ((u70 239 15 rfl).trans ((u65 239 15 (fn_i (by omega) fn_0)).trans ((u53 239 15 (fn_i (by omega) fn_0)).trans ((u44 239 15 rfl).trans ((u41 239 15 (fn_i (by omega) fn_0)).trans ((u33 239 15 rfl).trans ((u20 239 15 rfl).trans (u14 239 15 rfl))))))))
              have e77 : h70 239 16 = h 239 16 := ((u70 239 16 rfl).trans ((u65 239 16 (fn_i (by omega) fn_0)).trans ((u53 239 16 (fn_i (by omega) fn_0)).trans ((u44 239 16 rfl).trans ((u41 239 16 (fn_i (by omega) fn_0)).trans ((u33 239 16 rfl).trans ((u20 239 16 rfl).trans (u14 239 16 rfl))))))))
              have e78 : h70 239 17 = h 239 17 := ((u70 239 17 rfl).trans ((u65 239 17 (fn_i (by omega) fn_0)).trans ((u53 239 17 (fn_i (by omega) fn_0)).trans ((u44 239 17 rfl).trans ((u41 239 17 (fn_i (by omega) fn_0)).trans ((u33 239 17 rfl).trans ((u20 239 17 rfl).trans (u14 239 17 rfl))))))))
              have e79 : h70 239 18 = h 239 18 := ((u70 239 18 rfl).trans ((u65 239 18 (fn_i (by omega) fn_0)).trans ((u53 239 18 (fn_i (by omega) fn_0)).trans ((u44 239 18 rfl).trans ((u41 239 18 (fn_i (by omega) fn_0)).trans ((u33 239 18 rfl).trans ((u20 239 18 rfl).trans (u14 239 18 rfl))))))))
              exact k h70 g70 F71 (show (h 236 4) ≤ (h70 236 4) by omega) (show (h70 236 4) ≤ (h 236 3) by omega) (show 1 ≤ (h70 236 8) ∨ ((h70 239 5) ≤ 9 ∧ 1 ≤ (h70 239 5) ∧ (h70 239 7) ≤ 3 ∧ (h70 239 15) ≤ 6 ∧ (h70 239 16) ≤ 6 ∧ (h70 239 17) ≤ 6 ∧ (h70 239 18) ≤ 6) by omega)
            ·
              refine wi_iconst (n := 1) (nx := 25) (r1 := 0) (r2 := 0) (r3 := 0) rfl ?_
              refine wi_goto (nx := 28) (r1 := 29) (r2 := 0) (r3 := 0) rfl ?_
              refine wi_zreturn (nx := 30) (r1 := 0) (r2 := 0) (r3 := 0) rfl rfl (by omega) ?_
              refine wk_i ?_
              refine wi_istore_n (i := 3) (e := 1) (lo2 := [(3, vi 1), (0, .ref 236), (1, vl 2084)]) (nx := 6) (r1 := 0) (r2 := 0) (r3 := 0) rfl rfl ?_
              refine wi_iload_n (i := 3) (e := 1) (nx := 7) (r1 := 0) (r2 := 0) (r3 := 0) rfl rfl ?_
              refine wi_if (cd := .eq) (nx := 10) (r1 := 14) (r2 := 0) (r3 := 0) rfl (by omega) (fun (q62 : 1 = 0) => by exfalso; omega) (fun (q62 : ¬ (1 = 0)) => ?_)
              refine wi_aload_n (i := 0) (x := 236) (nx := 11) (r1 := 0) (r2 := 0) (r3 := 0) rfl rfl ?_
              refine wr_V (k0 := 236) (rest := []) (as := [.ref 236]) (nx := 14) (r1 := 215) (r2 := 0) (r3 := 11) rfl rfl rfl (of_decide_eq_true rfl) rfl rfl (by decide) rfl rfl (of_decide_eq_true rfl) (of_decide_eq_true rfl) ?_
              have e64 : h53 236 4 = h44 236 4 := (u53 236 4 (fn_a (by omega) fn_0))
              have e65 : h53 236 3 = h 236 3 := ((u53 236 3 (fn_a (by omega) fn_0)).trans ((u44 236 3 rfl).trans ((u41 236 3 (fn_a (by omega) fn_0)).trans ((u33 236 3 rfl).trans ((u20 236 3 rfl).trans (u14 236 3 rfl))))))
              refine ct_215_236 hcr  g53   (show (h53 236 4) ≤ (h53 236 3) by omega) (fun h63 g63 u63 (p63_0 : (h53 236 4) ≤ (h63 236 4)) (p63_1 : (h63 236 4) ≤ (h53 236 3)) (p63_2 : (h63 236 6) = 0 ∨ (h53 236 4) + 1 ≤ (h63 236 4)) => ?_)
              have F66 := F54.then (by decide +kernel) u63
              have b67 := gi_b (lo := 0) (hi := 800) g63 236 4 rfl
              have b68 := gi_b (lo := 0) (hi := 4) g63 236 6 rfl
              refine wk_n ?_
              refine wi_iload_n (i := 3) (e := 1) (nx := 15) (r1 := 0) (r2 := 0) (r3 := 0) rfl rfl ?_
              refine wi_zreturn (nx := 16) (r1 := 0) (r2 := 0) (r3 := 0) rfl rfl (by omega) ?_
              refine wk_i ?_
              refine wi_if (cd := .eq) (nx := 107) (r1 := 116) (r2 := 0) (r3 := 0) rfl (by omega) (fun (q69 : 1 = 0) => by exfalso; omega) (fun (q69 : ¬ (1 = 0)) => ?_)
              refine wi_aload_n (i := 0) (x := 236) (nx := 108) (r1 := 0) (r2 := 0) (r3 := 0) rfl rfl ?_
              refine wi_iconst (n := 0) (nx := 109) (r1 := 0) (r2 := 0) (r3 := 0) rfl ?_
              refine wi_iconst (n := 2) (nx := 110) (r1 := 0) (r2 := 0) (r3 := 0) rfl ?_
              refine wr_V (k0 := 236) (rest := [vi e55, .ref 239]) (as := [.ref 236, vi 0, vi 2]) (nx := 113) (r1 := 231) (r2 := 2) (r3 := 11) rfl rfl rfl (of_decide_eq_true rfl) rfl rfl (by decide) rfl rfl (of_decide_eq_true rfl) (of_decide_eq_true rfl) ?_
              have e71 : h63 236 3 = h 236 3 := ((u63 236 3 rfl).trans ((u53 236 3 (fn_a (by omega) fn_0)).trans ((u44 236 3 rfl).trans ((u41 236 3 (fn_a (by omega) fn_0)).trans ((u33 236 3 rfl).trans ((u20 236 3 rfl).trans (u14 236 3 rfl)))))))
              refine ct_231_236 hcr  g63 0 2 (by omega) (by omega) (show (h63 236 4) ≤ (h63 236 3) by omega) (fun h70 z72 g70 u70 (fz72 : 0 ≤ z72 ∧ z72 ≤ 999) (p70_0 : (h63 236 4) ≤ (h70 236 4)) (p70_1 : (h70 236 4) ≤ (h63 236 3)) (p70_2 : 1 ≤ (h70 236 8) ∨ (h63 236 8) = 0) (p70_3 : 1 ≤ (h70 236 8) ∨ (0 ≤ z72 ∧ z72 ≤ 2)) => ?_)
              have F73 := F66.then (by decide +kernel) u70
              have b74 := gi_b (lo := 0) (hi := 800) g70 236 4 rfl
              have e75 : h63 236 8 = h44 236 8 := ((u63 236 8 rfl).trans (u53 236 8 (fn_a (by omega) fn_0)))
              have b76 := gi_b (lo := 0) (hi := 5) g70 236 8 rfl
              refine wk_i ?_
              refine wi_goto (nx := 116) (r1 := 117) (r2 := 0) (r3 := 0) rfl ?_
              obtain ⟨i77, ei77⟩ : ∃ q : Nat, e55 = (q : Int) := ⟨(e55).toNat, by omega⟩
              refine wr_is (k0 := 239) (a := e55) (f := i77) (x := z72) (bl := 0) (bh := 999) (nx := 118) (r1 := 0) (r2 := 0) (r3 := 0) rfl (by decide) rfl (by omega) (by omega) (by decide) g70 (gi_rq 43 12 (fun _ => rfl) (by decide +kernel) (by omega)) (by omega) (fun h78 g78 w78 u78 => ?_)
              have F79 := F73.then rfl (FR.idx (p := 43) (q := 54) u78 (by omega))
              refine wi_aload_n (i := 0) (x := 236) (nx := 119) (r1 := 0) (r2 := 0) (r3 := 0) rfl rfl ?_
              refine wr_V (k0 := 236) (rest := []) (as := [.ref 236]) (nx := 122) (r1 := 219) (r2 := 0) (r3 := 11) rfl rfl rfl (of_decide_eq_true rfl) rfl rfl (by decide) rfl rfl (of_decide_eq_true rfl) (of_decide_eq_true rfl) ?_
              refine wi_aload_n (i := 0) (x := 236) (nx := 1) (r1 := 0) (r2 := 0) (r3 := 0) rfl rfl ?_
              refine wr_gi0 (k0 := 236) (x := h70 236 8) (nx := 4) (r1 := 11) (r2 := 8) (r3 := 0) rfl rfl (by decide) rfl ⟨rfl, rfl⟩ rfl (u78 236 8 (fn_a (by omega) fn_0)) ?_
              refine wi_if (cd := .ne) (nx := 7) (r1 := 11) (r2 := 0) (r3 := 0) rfl (by omega) (fun (q80 : (h70 236 8) ≠ 0) => ?_) (fun (q80 : ¬ ((h70 236 8) ≠ 0)) => ?_)
              ·
                refine wi_iconst (n := 0) (nx := 12) (r1 := 0) (r2 := 0) (r3 := 0) rfl ?_
                refine wi_zreturn (nx := 13) (r1 := 0) (r2 := 0) (r3 := 0) rfl rfl (by omega) ?_
                refine wk_i ?_
                refine wi_if (cd := .eq) (nx := 125) (r1 := 135) (r2 := 0) (r3 := 0) rfl (by omega) (fun (q81 : 0 = 0) => ?_) (fun (q81 : ¬ (0 = 0)) => by exfalso; omega)
                refine wi_return (nx := 136) (r1 := 0) (r2 := 0) (r3 := 0) rfl rfl ?_
                have e82 : h78 236 4 = h70 236 4 := (u78 236 4 (fn_a (by omega) fn_0))
                have e83 : h78 236 8 = h70 236 8 := (u78 236 8 (fn_a (by omega) fn_0))
                have e84 : h78 239 5 = h 239 5 := ((u78 239 5 (fn_i (by omega) fn_0)).trans ((u70 239 5 rfl).trans ((u63 239 5 rfl).trans ((u53 239 5 (fn_i (by omega) fn_0)).trans ((u44 239 5 rfl).trans ((u41 239 5 (fn_i (by omega) fn_0)).trans ((u33 239 5 rfl).trans ((u20 239 5 rfl).trans (u14 239 5 rfl)))))))))
                have e85 : h78 239 7 = h 239 7 := ((u78 239 7 (fn_i (by omega) fn_0)).trans ((u70 239 7 rfl).trans ((u63 239 7 rfl).trans ((u53 239 7 (fn_i (by omega) fn_0)).trans ((u44 239 7 rfl).trans ((u41 239 7 (fn_i (by omega) fn_0)).trans ((u33 239 7 rfl).trans ((u20 239 7 rfl).trans (u14 239 7 rfl)))))))))
                have e86 : h78 239 15 = h 239 15 := ((u78 239 15 (fn_i (by omega) fn_0)).trans ((u70 239 15 rfl).trans ((u63 239 15 rfl).trans ((u53 239 15 (fn_i (by omega) fn_0)).trans ((u44 239 15 rfl).trans ((u41 239 15 (fn_i (by omega) fn_0)).trans ((u33 239 15 rfl).trans ((u20 239 15 rfl).trans (u14 239 15 rfl)))))))))
                have e87 : h78 239 16 = h 239 16 := ((u78 239 16 (fn_i (by omega) fn_0)).trans ((u70 239 16 rfl).trans ((u63 239 16 rfl).trans ((u53 239 16 (fn_i (by omega) fn_0)).trans ((u44 239 16 rfl).trans ((u41 239 16 (fn_i (by omega) fn_0)).trans ((u33 239 16 rfl).trans ((u20 239 16 rfl).trans (u14 239 16 rfl)))))))))
                have e88 : h78 239 17 = h 239 17 := ((u78 239 17 (fn_i (by omega) fn_0)).trans ((u70 239 17 rfl).trans ((u63 239 17 rfl).trans ((u53 239 17 (fn_i (by omega) fn_0)).trans ((u44 239 17 rfl).trans ((u41 239 17 (fn_i (by omega) fn_0)).trans ((u33 239 17 rfl).trans ((u20 239 17 rfl).trans (u14 239 17 rfl)))))))))
                have e89 : h78 239 18 = h 239 18 := ((u78 239 18 (fn_i (by omega) fn_0)).trans ((u70 239 18 rfl).trans ((u63 239 18 rfl).trans ((u53 239 18 (fn_i (by omega) fn_0)).trans ((u44 239 18 rfl).trans ((u41 239 18 (fn_i (by omega) fn_0)).trans ((u33 239 18 rfl).trans ((u20 239 18 rfl).trans (u14 239 18 rfl)))))))))
                exact k h78 g78 F79 (show (h 236 4) ≤ (h78 236 4) by omega) (show (h78 236 4) ≤ (h 236 3) by omega) (show 1 ≤ (h78 236 8) ∨ ((h78 239 5) ≤ 9 ∧ 1 ≤ (h78 239 5) ∧ (h78 239 7) ≤ 3 ∧ (h78 239 15) ≤ 6 ∧ (h78 239 16) ≤ 6 ∧ (h78 239 17) ≤ 6 ∧ (h78 239 18) ≤ 6) by omega)
              ·
                refine wi_iconst (n := 1) (nx := 8) (r1 := 0) (r2 := 0) (r3 := 0) rfl ?_
                refine wi_goto (nx := 11) (r1 := 12) (r2 := 0) (r3 := 0) rfl ?_
                refine wi_zreturn (nx := 13) (r1 := 0) (r2 := 0) (r3 := 0) rfl rfl (by omega) ?_
                refine wk_i ?_
                refine wi_if (cd := .eq) (nx := 125) (r1 := 135) (r2 := 0) (r3 := 0) rfl (by omega) (fun (q81 : 1 = 0) => by exfalso; omega) (fun (q81 : ¬ (1 = 0)) => ?_)
                refine wi_aload_n (i := 0) (x := 236) (nx := 126) (r1 := 0) (r2 := 0) (r3 := 0) rfl rfl ?_
                refine wr_gr (k0 := 236) (x := 239) (nx := 129) (r1 := 11) (r2 := 14) (r3 := 0) rfl rfl (by decide) rfl ⟨rfl, rfl⟩ rfl ?_
                refine wi_iconst (n := 2) (nx := 130) (r1 := 0) (r2 := 0) (r3 := 0) rfl ?_
                refine wi_dup2 (nx := 131) (r1 := 0) (r2 := 0) (r3 := 0) rfl rfl rfl ?_
                refine wr_ia (k0 := 239) (a := 2) (f := 2) (x := h 239 2) (nx := 132) (r1 := 0) (r2 := 0) (r3 := 0) rfl (by decide) rfl (by omega) (by omega) (by decide) ((u78 239 2 (fn_i (by omega) fn_0)).trans ((u70 239 2 rfl).trans ((u63 239 2 rfl).trans ((u53 239 2 (fn_i (by omega) fn_0)).trans ((u44 239 2 rfl).trans ((u41 239 2 (fn_i (by omega) fn_0)).trans ((u33 239 2 rfl).trans ((u20 239 2 rfl).trans (u14 239 2 rfl))))))))) ?_
                refine wi_iconst (n := 1) (nx := 133) (r1 := 0) (r2 := 0) (r3 := 0) rfl ?_
                refine wr_add (nx := 134) (r1 := 0) (r2 := 0) (r3 := 0) rfl (fun e82 (fe82 : e82 = (h 239 2) + 1) => ?_)
                refine wr_is (k0 := 239) (a := 2) (f := 2) (x := e82) (bl := 0) (bh := 12) (nx := 135) (r1 := 0) (r2 := 0) (r3 := 0) rfl (by decide) rfl (by omega) (by omega) (by decide) g78 rfl (by omega) (fun h83 g83 w83 u83 => ?_)
                have F84 := F79.then rfl u83
                refine wi_return (nx := 136) (r1 := 0) (r2 := 0) (r3 := 0) rfl rfl ?_
                have e85 : h83 236 4 = h70 236 4 := ((u83 236 4 rfl).trans (u78 236 4 (fn_a (by omega) fn_0)))
                have e86 : h83 236 8 = h70 236 8 := ((u83 236 8 rfl).trans (u78 236 8 (fn_a (by omega) fn_0)))
                have e87 : h83 239 5 = h 239 5 := ((u83 239 5 rfl).trans ((u78 239 5 (fn_i (by omega) fn_0)).trans ((u70 239 5 rfl).trans ((u63 239 5 rfl).trans ((u53 239 5 (fn_i (by omega) fn_0)).trans ((u44 239 5 rfl).trans ((u41 239 5 (fn_i (by omega) fn_0)).trans ((u33 239 5 rfl).trans ((u20 239 5 rfl).trans (u14 239 5 rfl))))))))))
                have e88 : h83 239 7 = h 239 7 := ((u83 239 7 rfl).trans ((u78 239 7 (fn_i (by omega) fn_0)).trans ((u70 239 7 rfl).trans ((u63 239 7 rfl).trans ((u53 239 7 (fn_i (by omega) fn_0)).trans ((u44 239 7 rfl).trans ((u41 239 7 (fn_i (by omega) fn_0)).trans ((u33 239 7 rfl).trans ((u20 239 7 rfl).trans (u14 239 7 rfl))))))))))
                have e89 : h83 239 15 = h 239 15 := ((u83 239 15 rfl).trans ((u78 239 15 (fn_i (by omega) fn_0)).trans ((u70 239 15 rfl).trans ((u63 239 15 rfl).trans ((u53 239 15 (fn_i (by omega) fn_0)).trans ((u44 239 15 rfl).trans ((u41 239 15 (fn_i (by omega) fn_0)).trans ((u33 239 15 rfl).trans ((u20 239 15 rfl).trans (u14 239 15 rfl))))))))))
                have e90 : h83 239 16 = h 239 16 := ((u83 239 16 rfl).trans ((u78 239 16 (fn_i (by omega) fn_0)).trans ((u70 239 16 rfl).trans ((u63 239 16 rfl).trans ((u53 239 16 (fn_i (by omega) fn_0)).trans ((u44 239 16 rfl).trans ((u41 239 16 (fn_i (by omega) fn_0)).trans ((u33 239 16 rfl).trans ((u20 239 16 rfl).trans (u14 239 16 rfl))))))))))
                have e91 : h83 239 17 = h 239 17 := ((u83 239 17 rfl).trans ((u78 239 17 (fn_i (by omega) fn_0)).trans ((u70 239 17 rfl).trans ((u63 239 17 rfl).trans ((u53 239 17 (fn_i (by omega) fn_0)).trans ((u44 239 17 rfl).trans ((u41 239 17 (fn_i (by omega) fn_0)).trans ((u33 239 17 rfl).trans ((u20 239 17 rfl).trans (u14 239 17 rfl))))))))))
                have e92 : h83 239 18 = h 239 18 := ((u83 239 18 rfl).trans ((u78 239 18 (fn_i (by omega) fn_0)).trans ((u70 239 18 rfl).trans ((u63 239 18 rfl).trans ((u53 239 18 (fn_i (by omega) fn_0)).trans ((u44 239 18 rfl).trans ((u41 239 18 (fn_i (by omega) fn_0)).trans ((u33 239 18 rfl).trans ((u20 239 18 rfl).trans (u14 239 18 rfl))))))))))
                exact k h83 g83 F84 (show (h 236 4) ≤ (h83 236 4) by omega) (show (h83 236 4) ≤ (h 236 3) by omega) (show 1 ≤ (h83 236 8) ∨ ((h83 239 5) ≤ 9 ∧ 1 ≤ (h83 239 5) ∧ (h83 239 7) ≤ 3 ∧ (h83 239 15) ≤ 6 ∧ (h83 239 16) ≤ 6 ∧ (h83 239 17) ≤ 6 ∧ (h83 239 18) ≤ 6) by omega)
      ·
        refine wi_aload_n (i := 0) (x := 236) (nx := 45) (r1 := 0) (r2 := 0) (r3 := 0) rfl rfl ?_
        refine wi_iconst (n := 4) (nx := 46) (r1 := 0) (r2 := 0) (r3 := 0) rfl ?_
        refine wr_V (k0 := 236) (rest := []) (as := [.ref 236, vi 4]) (nx := 49) (r1 := 224) (r2 := 1) (r3 := 11) rfl rfl rfl (of_decide_eq_true rfl) rfl rfl (by decide) rfl rfl (of_decide_eq_true rfl) (of_decide_eq_true rfl) ?_
        refine ct_224_236 hcr  g20 4 (by omega)  (fun h31 g31 u31 (p31_0 : 1 ≤ (h31 236 8)) => ?_)
        have F32 := F21.then (by decide +kernel) u31
        have b33 := gi_b (lo := 0) (hi := 5) g31 236 8 rfl
        refine wk_n ?_
        refine wi_aload_n (i := 0) (x := 236) (nx := 50) (r1 := 0) (r2 := 0) (r3 := 0) rfl rfl ?_
        refine wr_V (k0 := 236) (rest := []) (as := [.ref 236]) (nx := 53) (r1 := 219) (r2 := 0) (r3 := 11) rfl rfl rfl (of_decide_eq_true rfl) rfl rfl (by decide) rfl rfl (of_decide_eq_true rfl) (of_decide_eq_true rfl) ?_
        refine wi_aload_n (i := 0) (x := 236) (nx := 1) (r1 := 0) (r2 := 0) (r3 := 0) rfl rfl ?_
        refine wr_gi0 (k0 := 236) (x := h31 236 8) (nx := 4) (r1 := 11) (r2 := 8) (r3 := 0) rfl rfl (by decide) rfl ⟨rfl, rfl⟩ rfl rfl ?_
        refine wi_if (cd := .ne) (nx := 7) (r1 := 11) (r2 := 0) (r3 := 0) rfl (by omega) (fun (q34 : (h31 236 8) ≠ 0) => ?_) (fun (q34 : ¬ ((h31 236 8) ≠ 0)) => by exfalso; omega)
        refine wi_iconst (n := 0) (nx := 12) (r1 := 0) (r2 := 0) (r3 := 0) rfl ?_
        refine wi_zreturn (nx := 13) (r1 := 0) (r2 := 0) (r3 := 0) rfl rfl (by omega) ?_
        refine wk_i ?_
        refine wi_if (cd := .ne) (nx := 56) (r1 := 57) (r2 := 0) (r3 := 0) rfl (by omega) (fun (q35 : 0 ≠ 0) => by exfalso; omega) (fun (q35 : ¬ (0 ≠ 0)) => ?_)
        refine wi_return (nx := 57) (r1 := 0) (r2 := 0) (r3 := 0) rfl rfl ?_
        have e36 : h31 236 4 = h14 236 4 := ((u31 236 4 rfl).trans (u20 236 4 rfl))
        have e37 : h31 239 5 = h 239 5 := ((u31 239 5 rfl).trans ((u20 239 5 rfl).trans (u14 239 5 rfl)))
        have e38 : h31 239 7 = h 239 7 := ((u31 239 7 rfl).trans ((u20 239 7 rfl).trans (u14 239 7 rfl)))
        have e39 : h31 239 15 = h 239 15 := ((u31 239 15 rfl).trans ((u20 239 15 rfl).trans (u14 239 15 rfl)))
        have e40 : h31 239 16 = h 239 16 := ((u31 239 16 rfl).trans ((u20 239 16 rfl).trans (u14 239 16 rfl)))
        have e41 : h31 239 17 = h 239 17 := ((u31 239 17 rfl).trans ((u20 239 17 rfl).trans (u14 239 17 rfl)))
        have e42 : h31 239 18 = h 239 18 := ((u31 239 18 rfl).trans ((u20 239 18 rfl).trans (u14 239 18 rfl)))
        exact k h31 g31 F32 (show (h 236 4) ≤ (h31 236 4) by omega) (show (h31 236 4) ≤ (h 236 3) by omega) (show 1 ≤ (h31 236 8) ∨ ((h31 239 5) ≤ 9 ∧ 1 ≤ (h31 239 5) ∧ (h31 239 7) ≤ 3 ∧ (h31 239 15) ≤ 6 ∧ (h31 239 16) ≤ 6 ∧ (h31 239 17) ≤ 6 ∧ (h31 239 18) ≤ 6) by omega)
  ·
    refine wi_aload_n (i := 0) (x := 236) (nx := 11) (r1 := 0) (r2 := 0) (r3 := 0) rfl rfl ?_
    refine wi_iconst (n := 5) (nx := 12) (r1 := 0) (r2 := 0) (r3 := 0) rfl ?_
    refine wr_V (k0 := 236) (rest := []) (as := [.ref 236, vi 5]) (nx := 15) (r1 := 224) (r2 := 1) (r3 := 11) rfl rfl rfl (of_decide_eq_true rfl) rfl rfl (by decide) rfl rfl (of_decide_eq_true rfl) (of_decide_eq_true rfl) ?_
    refine ct_224_236 hcr  g 5 (by omega)  (fun h12 g12 u12 (p12_0 : 1 ≤ (h12 236 8)) => ?_)
    have F13 := F0.then (by decide +kernel) u12
    have b14 := gi_b (lo := 0) (hi := 5) g12 236 8 rfl
    refine wk_n ?_
    refine wi_aload_n (i := 0) (x := 236) (nx := 16) (r1 := 0) (r2 := 0) (r3 := 0) rfl rfl ?_
    refine wr_V (k0 := 236) (rest := []) (as := [.ref 236]) (nx := 19) (r1 := 219) (r2 := 0) (r3 := 11) rfl rfl rfl (of_decide_eq_true rfl) rfl rfl (by decide) rfl rfl (of_decide_eq_true rfl) (of_decide_eq_true rfl) ?_
    refine wi_aload_n (i := 0) (x := 236) (nx := 1) (r1 := 0) (r2 := 0) (r3 := 0) rfl rfl ?_
    refine wr_gi0 (k0 := 236) (x := h12 236 8) (nx := 4) (r1 := 11) (r2 := 8) (r3 := 0) rfl rfl (by decide) rfl ⟨rfl, rfl⟩ rfl rfl ?_
    refine wi_if (cd := .ne) (nx := 7) (r1 := 11) (r2 := 0) (r3 := 0) rfl (by omega) (fun (q15 : (h12 236 8) ≠ 0) => ?_) (fun (q15 : ¬ ((h12 236 8) ≠ 0)) => by exfalso; omega)
    refine wi_iconst (n := 0) (nx := 12) (r1 := 0) (r2 := 0) (r3 := 0) rfl ?_
    refine wi_zreturn (nx := 13) (r1 := 0) (r2 := 0) (r3 := 0) rfl rfl (by omega) ?_
    refine wk_i ?_
    refine wi_if (cd := .eq) (nx := 22) (r1 := 26) (r2 := 0) (r3 := 0) rfl (by omega) (fun (q16 : 0 = 0) => ?_) (fun (q16 : ¬ (0 = 0)) => by exfalso; omega)
    refine wi_aload_n (i := 0) (x := 236) (nx := 27) (r1 := 0) (r2 := 0) (r3 := 0) rfl rfl ?_
    refine wr_V (k0 := 236) (rest := []) (as := [.ref 236]) (nx := 30) (r1 := 219) (r2 := 0) (r3 := 11) rfl rfl rfl (of_decide_eq_true rfl) rfl rfl (by decide) rfl rfl (of_decide_eq_true rfl) (of_decide_eq_true rfl) ?_
    refine wi_aload_n (i := 0) (x := 236) (nx := 1) (r1 := 0) (r2 := 0) (r3 := 0) rfl rfl ?_
    refine wr_gi0 (k0 := 236) (x := h12 236 8) (nx := 4) (r1 := 11) (r2 := 8) (r3 := 0) rfl rfl (by decide) rfl ⟨rfl, rfl⟩ rfl rfl ?_
    refine wi_if (cd := .ne) (nx := 7) (r1 := 11) (r2 := 0) (r3 := 0) rfl (by omega) (fun (q17 : (h12 236 8) ≠ 0) => ?_) (fun (q17 : ¬ ((h12 236 8) ≠ 0)) => by exfalso; omega)
    refine wi_iconst (n := 0) (nx := 12) (r1 := 0) (r2 := 0) (r3 := 0) rfl ?_
    refine wi_zreturn (nx := 13) (r1 := 0) (r2 := 0) (r3 := 0) rfl rfl (by omega) ?_
    refine wk_i ?_
    refine wi_zreturn (nx := 31) (r1 := 0) (r2 := 0) (r3 := 0) rfl rfl (by omega) ?_
    refine wk_i ?_
    refine wi_if (cd := .ne) (nx := 17) (r1 := 18) (r2 := 0) (r3 := 0) rfl (by omega) (fun (q18 : 0 ≠ 0) => by exfalso; omega) (fun (q18 : ¬ (0 ≠ 0)) => ?_)
    refine wi_return (nx := 18) (r1 := 0) (r2 := 0) (r3 := 0) rfl rfl ?_
    have e19 : h12 236 4 = h 236 4 := (u12 236 4 rfl)
    have e20 : h12 239 5 = h 239 5 := (u12 239 5 rfl)
    have e21 : h12 239 7 = h 239 7 := (u12 239 7 rfl)
    have e22 : h12 239 15 = h 239 15 := (u12 239 15 rfl)
    have e23 : h12 239 16 = h 239 16 := (u12 239 16 rfl)
    have e24 : h12 239 17 = h 239 17 := (u12 239 17 rfl)
    have e25 : h12 239 18 = h 239 18 := (u12 239 18 rfl)
    exact k h12 g12 F13 (show (h 236 4) ≤ (h12 236 4) by omega) (show (h12 236 4) ≤ (h 236 3) by omega) (show 1 ≤ (h12 236 8) ∨ ((h12 239 5) ≤ 9 ∧ 1 ≤ (h12 239 5) ∧ (h12 239 7) ≤ 3 ∧ (h12 239 15) ≤ 6 ∧ (h12 239 16) ≤ 6 ∧ (h12 239 17) ≤ 6 ∧ (h12 239 18) ≤ 6) by omega)
-- method 232: Model.readsLane()V
set_option maxHeartbeats 100000000 in
theorem ct_232_236 {L : Nat} {xs : Nat → Int32} {d b c : Nat} {h : hp} {cr : Nat → Nat → Option Nat} {Q : hp_Q} (hcr : CR cr)  (g : GI h)   (pp0 : h 236 4 ≤ h 236 3) (pp1 : h 236 8 = 0) (pp2 : h 239 5 ≤ 9) (pp3 : 1 ≤ h 239 5) (pp4 : h 239 7 ≤ 3) (pp5 : h 239 15 ≤ 6) (pp6 : h 239 16 ≤ 6) (pp7 : h 239 17 ≤ 6) (pp8 : h 239 18 ≤ 6) (k : ∀ (h2 : hp) , GI h2 → FR [(236, 236, some (4, 4)), (236, 236, some (5, 5)), (236, 236, some (6, 6)), (236, 236, some (7, 7)), (236, 236, some (8, 8)), (236, 236, some (9, 9)), (236, 236, some (12, 12)), (239, 239, some (1, 1)), (239, 239, some (15, 15)), (239, 239, some (16, 16)), (239, 239, some (17, 17)), (239, 239, some (18, 18))] h h2 → (h 236 4 ≤ h2 236 4) → (h2 236 4 ≤ h 236 3) → (1 ≤ h2 236 8 ∨ (h2 239 5 ≤ 9 ∧ 1 ≤ h2 239 5 ∧ h2 239 7 ≤ 3 ∧ h2 239 15 ≤ 6 ∧ h2 239 16 ≤ 6 ∧ h2 239 17 ≤ 6 ∧ h2 239 18 ≤ 6)) → Q (.inl none) (hp_w h2 cr) b c) : wp (md_xa (L, xs)) (d + 3) 232 (0, [(0, .ref 236)], [], hp_w h cr, b, c) Q := by
  have F0 : FR [(236, 236, some (4, 4)), (236, 236, some (5, 5)), (236, 236, some (6, 6)), (236, 236, some (7, 7)), (236, 236, some (8, 8)), (236, 236, some (9, 9)), (236, 236, some (12, 12)), (239, 239, some (1, 1)), (239, 239, some (15, 15)), (239, 239, some (16, 16)), (239, 239, some (17, 17)), (239, 239, some (18, 18))] h h := FR.refl
  have b1 := gi_b (lo := 0) (hi := 800) g 236 4 rfl
  have b2 := gi_b (lo := 0) (hi := 800) g 236 3 rfl
  have b3 := gi_b (lo := 0) (hi := 5) g 236 8 rfl
  have b4 := gi_b (lo := 0) (hi := 999) g 239 5 rfl
  have b5 := gi_b (lo := 0) (hi := 999) g 239 7 rfl
  have b6 := gi_b (lo := 0) (hi := 999) g 239 15 rfl
  have b7 := gi_b (lo := 0) (hi := 999) g 239 16 rfl
  have b8 := gi_b (lo := 0) (hi := 999) g 239 17 rfl
  have b9 := gi_b (lo := 0) (hi := 999) g 239 18 rfl
  refine wi_aload_n (i := 0) (x := 236) (nx := 1) (r1 := 0) (r2 := 0) (r3 := 0) rfl rfl ?_
  refine wr_gr (k0 := 236) (x := 239) (nx := 4) (r1 := 11) (r2 := 14) (r3 := 0) rfl rfl (by decide) rfl ⟨rfl, rfl⟩ rfl ?_
  refine wi_iconst (n := 1) (nx := 5) (r1 := 0) (r2 := 0) (r3 := 0) rfl ?_
  have b10 := gi_b (lo := 0) (hi := 4) g 239 1 rfl
  rcases (show (h 239 1) = 0 ∨ (h 239 1) = 1 ∨ (h 239 1) = 2 ∨ (h 239 1) = 3 ∨ (h 239 1) = 4 by omega) with q11 | q11 | q11 | q11 | q11
  ·
    refine wr_ia (k0 := 239) (a := 1) (f := 1) (x := 0) (nx := 6) (r1 := 0) (r2 := 0) (r3 := 0) rfl (by decide) rfl (by omega) (by omega) (by decide) q11 ?_
    refine wi_istore_n (i := 1) (e := 0) (lo2 := [(1, vi 0), (0, .ref 236)]) (nx := 7) (r1 := 0) (r2 := 0) (r3 := 0) rfl rfl ?_
    refine wi_aload_n (i := 0) (x := 236) (nx := 8) (r1 := 0) (r2 := 0) (r3 := 0) rfl rfl ?_
    refine wi_iconst (n := 1) (nx := 9) (r1 := 0) (r2 := 0) (r3 := 0) rfl ?_
    refine wi_iconst (n := 4) (nx := 10) (r1 := 0) (r2 := 0) (r3 := 0) rfl ?_
    refine wr_V (k0 := 236) (rest := []) (as := [.ref 236, vi 1, vi 4]) (nx := 13) (r1 := 223) (r2 := 2) (r3 := 11) rfl rfl rfl (of_decide_eq_true rfl) rfl rfl (by decide) rfl rfl (of_decide_eq_true rfl) (of_decide_eq_true rfl) ?_
    refine wi_aload_n (i := 0) (x := 236) (nx := 1) (r1 := 0) (r2 := 0) (r3 := 0) rfl rfl ?_
    refine wr_gr (k0 := 236) (x := 239) (nx := 4) (r1 := 11) (r2 := 14) (r3 := 0) rfl rfl (by decide) rfl ⟨rfl, rfl⟩ rfl ?_
    refine wi_iload_n (i := 1) (e := 1) (nx := 5) (r1 := 0) (r2 := 0) (r3 := 0) rfl rfl ?_
    refine wr_ia (k0 := 239) (a := 1) (f := 1) (x := 0) (nx := 6) (r1 := 0) (r2 := 0) (r3 := 0) rfl (by decide) rfl (by omega) (by omega) (by decide) q11 ?_
    refine wi_iload_n (i := 2) (e := 4) (nx := 7) (r1 := 0) (r2 := 0) (r3 := 0) rfl rfl ?_
    refine wi_icmp (cd := .ne) (nx := 10) (r1 := 15) (r2 := 0) (r3 := 0) rfl (by omega) (by omega) (fun (q12 : 0 ≠ 4) => ?_) (fun (q12 : ¬ (0 ≠ 4)) => by exfalso; omega)
    refine wi_aload_n (i := 0) (x := 236) (nx := 16) (r1 := 0) (r2 := 0) (r3 := 0) rfl rfl ?_
    refine wr_V (k0 := 236) (rest := []) (as := [.ref 236]) (nx := 19) (r1 := 219) (r2 := 0) (r3 := 11) rfl rfl rfl (of_decide_eq_true rfl) rfl rfl (by decide) rfl rfl (of_decide_eq_true rfl) (of_decide_eq_true rfl) ?_
    refine wi_aload_n (i := 0) (x := 236) (nx := 1) (r1 := 0) (r2 := 0) (r3 := 0) rfl rfl ?_
    refine wr_gi0 (k0 := 236) (x := h 236 8) (nx := 4) (r1 := 11) (r2 := 8) (r3 := 0) rfl rfl (by decide) rfl ⟨rfl, rfl⟩ rfl rfl ?_
    refine wi_if (cd := .ne) (nx := 7) (r1 := 11) (r2 := 0) (r3 := 0) rfl (by omega) (fun (q13 : (h 236 8) ≠ 0) => by exfalso; omega) (fun (q13 : ¬ ((h 236 8) ≠ 0)) => ?_)
    refine wi_iconst (n := 1) (nx := 8) (r1 := 0) (r2 := 0) (r3 := 0) rfl ?_
    refine wi_goto (nx := 11) (r1 := 12) (r2 := 0) (r3 := 0) rfl ?_
    refine wi_zreturn (nx := 13) (r1 := 0) (r2 := 0) (r3 := 0) rfl rfl (by omega) ?_
    refine wk_i ?_
    refine wi_if (cd := .eq) (nx := 22) (r1 := 26) (r2 := 0) (r3 := 0) rfl (by omega) (fun (q14 : 1 = 0) => by exfalso; omega) (fun (q14 : ¬ (1 = 0)) => ?_)
    refine wi_aload_n (i := 0) (x := 236) (nx := 23) (r1 := 0) (r2 := 0) (r3 := 0) rfl rfl ?_
    refine wr_V (k0 := 236) (rest := []) (as := [.ref 236]) (nx := 26) (r1 := 215) (r2 := 0) (r3 := 11) rfl rfl rfl (of_decide_eq_true rfl) rfl rfl (by decide) rfl rfl (of_decide_eq_true rfl) (of_decide_eq_true rfl) ?_
    refine ct_215_236 hcr  g   (show (h 236 4) ≤ (h 236 3) by omega) (fun h15 g15 u15 (p15_0 : (h 236 4) ≤ (h15 236 4)) (p15_1 : (h15 236 4) ≤ (h 236 3)) (p15_2 : (h15 236 6) = 0 ∨ (h 236 4) + 1 ≤ (h15 236 4)) => ?_)
    have F16 := F0.then (by decide +kernel) u15
    have b17 := gi_b (lo := 0) (hi := 800) g15 236 4 rfl
    have b18 := gi_b (lo := 0) (hi := 4) g15 236 6 rfl
    refine wk_n ?_
    refine wi_aload_n (i := 0) (x := 236) (nx := 27) (r1 := 0) (r2 := 0) (r3 := 0) rfl rfl ?_
    refine wr_V (k0 := 236) (rest := []) (as := [.ref 236]) (nx := 30) (r1 := 219) (r2 := 0) (r3 := 11) rfl rfl rfl (of_decide_eq_true rfl) rfl rfl (by decide) rfl rfl (of_decide_eq_true rfl) (of_decide_eq_true rfl) ?_
    refine wi_aload_n (i := 0) (x := 236) (nx := 1) (r1 := 0) (r2 := 0) (r3 := 0) rfl rfl ?_
    refine wr_gi0 (k0 := 236) (x := h 236 8) (nx := 4) (r1 := 11) (r2 := 8) (r3 := 0) rfl rfl (by decide) rfl ⟨rfl, rfl⟩ rfl (u15 236 8 rfl) ?_
    refine wi_if (cd := .ne) (nx := 7) (r1 := 11) (r2 := 0) (r3 := 0) rfl (by omega) (fun (q19 : (h 236 8) ≠ 0) => by exfalso; omega) (fun (q19 : ¬ ((h 236 8) ≠ 0)) => ?_)
    refine wi_iconst (n := 1) (nx := 8) (r1 := 0) (r2 := 0) (r3 := 0) rfl ?_
    refine wi_goto (nx := 11) (r1 := 12) (r2 := 0) (r3 := 0) rfl ?_
    refine wi_zreturn (nx := 13) (r1 := 0) (r2 := 0) (r3 := 0) rfl rfl (by omega) ?_
    refine wk_i ?_
    refine wi_zreturn (nx := 31) (r1 := 0) (r2 := 0) (r3 := 0) rfl rfl (by omega) ?_
    refine wk_i ?_
    refine wi_if (cd := .ne) (nx := 16) (r1 := 17) (r2 := 0) (r3 := 0) rfl (by omega) (fun (q20 : 1 ≠ 0) => ?_) (fun (q20 : ¬ (1 ≠ 0)) => by exfalso; omega)
    refine wi_aload_n (i := 0) (x := 236) (nx := 18) (r1 := 0) (r2 := 0) (r3 := 0) rfl rfl ?_
    refine wr_gr (k0 := 236) (x := 239) (nx := 21) (r1 := 11) (r2 := 14) (r3 := 0) rfl rfl (by decide) rfl ⟨rfl, rfl⟩ rfl ?_
    refine wi_bipush (n := 15) (nx := 23) (r1 := 0) (r2 := 0) (r3 := 0) rfl (by decide) ?_
    refine wi_iload_n (i := 1) (e := 0) (nx := 24) (r1 := 0) (r2 := 0) (r3 := 0) rfl rfl ?_
    refine wr_addL (15) (nx := 25) (r1 := 0) (r2 := 0) (r3 := 0) rfl (by decide) ?_
    refine wi_aload_n (i := 0) (x := 236) (nx := 26) (r1 := 0) (r2 := 0) (r3 := 0) rfl rfl ?_
    refine wi_iconst (n := 1) (nx := 27) (r1 := 0) (r2 := 0) (r3 := 0) rfl ?_
    refine wi_bipush (n := 6) (nx := 29) (r1 := 0) (r2 := 0) (r3 := 0) rfl (by decide) ?_
    refine wr_V (k0 := 236) (rest := [vi 15, .ref 239]) (as := [.ref 236, vi 1, vi 6]) (nx := 32) (r1 := 231) (r2 := 2) (r3 := 11) rfl rfl rfl (of_decide_eq_true rfl) rfl rfl (by decide) rfl rfl (of_decide_eq_true rfl) (of_decide_eq_true rfl) ?_
    have e22 : h15 236 3 = h 236 3 := (u15 236 3 rfl)
    refine ct_231_236 hcr  g15 1 6 (by omega) (by omega) (show (h15 236 4) ≤ (h15 236 3) by omega) (fun h21 z23 g21 u21 (fz23 : 0 ≤ z23 ∧ z23 ≤ 999) (p21_0 : (h15 236 4) ≤ (h21 236 4)) (p21_1 : (h21 236 4) ≤ (h15 236 3)) (p21_2 : 1 ≤ (h21 236 8) ∨ (h15 236 8) = 0) (p21_3 : 1 ≤ (h21 236 8) ∨ (1 ≤ z23 ∧ z23 ≤ 6)) => ?_)
    have F24 := F16.then (by decide +kernel) u21
    have b25 := gi_b (lo := 0) (hi := 800) g21 236 4 rfl
    have e26 : h15 236 8 = h 236 8 := (u15 236 8 rfl)
    have b27 := gi_b (lo := 0) (hi := 5) g21 236 8 rfl
    refine wk_i ?_
    refine wr_is (k0 := 239) (a := 15) (f := 15) (x := z23) (bl := 0) (bh := 999) (nx := 33) (r1 := 0) (r2 := 0) (r3 := 0) rfl (by decide) rfl (by omega) (by omega) (by decide) g21 rfl (by omega) (fun h28 g28 w28 u28 => ?_)
    have F29 := F24.then rfl u28
    refine wi_aload_n (i := 0) (x := 236) (nx := 34) (r1 := 0) (r2 := 0) (r3 := 0) rfl rfl ?_
    refine wr_V (k0 := 236) (rest := []) (as := [.ref 236]) (nx := 37) (r1 := 219) (r2 := 0) (r3 := 11) rfl rfl rfl (of_decide_eq_true rfl) rfl rfl (by decide) rfl rfl (of_decide_eq_true rfl) (of_decide_eq_true rfl) ?_
    refine wi_aload_n (i := 0) (x := 236) (nx := 1) (r1 := 0) (r2 := 0) (r3 := 0) rfl rfl ?_
    refine wr_gi0 (k0 := 236) (x := h21 236 8) (nx := 4) (r1 := 11) (r2 := 8) (r3 := 0) rfl rfl (by decide) rfl ⟨rfl, rfl⟩ rfl (u28 236 8 rfl) ?_
    refine wi_if (cd := .ne) (nx := 7) (r1 := 11) (r2 := 0) (r3 := 0) rfl (by omega) (fun (q30 : (h21 236 8) ≠ 0) => ?_) (fun (q30 : ¬ ((h21 236 8) ≠ 0)) => ?_)
    ·
      refine wi_iconst (n := 0) (nx := 12) (r1 := 0) (r2 := 0) (r3 := 0) rfl ?_
      refine wi_zreturn (nx := 13) (r1 := 0) (r2 := 0) (r3 := 0) rfl rfl (by omega) ?_
      refine wk_i ?_
      refine wi_if (cd := .eq) (nx := 40) (r1 := 50) (r2 := 0) (r3 := 0) rfl (by omega) (fun (q31 : 0 = 0) => ?_) (fun (q31 : ¬ (0 = 0)) => by exfalso; omega)
      refine wi_return (nx := 51) (r1 := 0) (r2 := 0) (r3 := 0) rfl rfl ?_
      have e32 : h28 236 4 = h21 236 4 := (u28 236 4 rfl)
      have e33 : h28 236 8 = h21 236 8 := (u28 236 8 rfl)
      have e34 : h28 239 5 = h 239 5 := ((u28 239 5 rfl).trans ((u21 239 5 rfl).trans (u15 239 5 rfl)))
      have e35 : h28 239 7 = h 239 7 := ((u28 239 7 rfl).trans ((u21 239 7 rfl).trans (u15 239 7 rfl)))
      have e36 : h28 239 15 = z23 := w28
      have e37 : h28 239 16 = h 239 16 := ((u28 239 16 rfl).trans ((u21 239 16 rfl).trans (u15 239 16 rfl)))
      have e38 : h28 239 17 = h 239 17 := ((u28 239 17 rfl).trans ((u21 239 17 rfl).trans (u15 239 17 rfl)))
      have e39 : h28 239 18 = h 239 18 := ((u28 239 18 rfl).trans ((u21 239 18 rfl).trans (u15 239 18 rfl)))
      exact k h28 g28 F29 (show (h 236 4) ≤ (h28 236 4) by omega) (show (h28 236 4) ≤ (h 236 3) by omega) (show 1 ≤ (h28 236 8) ∨ ((h28 239 5) ≤ 9 ∧ 1 ≤ (h28 239 5) ∧ (h28 239 7) ≤ 3 ∧ (h28 239 15) ≤ 6 ∧ (h28 239 16) ≤ 6 ∧ (h28 239 17) ≤ 6 ∧ (h28 239 18) ≤ 6) by omega)
    ·
      refine wi_iconst (n := 1) (nx := 8) (r1 := 0) (r2 := 0) (r3 := 0) rfl ?_
      refine wi_goto (nx := 11) (r1 := 12) (r2 := 0) (r3 := 0) rfl ?_
      refine wi_zreturn (nx := 13) (r1 := 0) (r2 := 0) (r3 := 0) rfl rfl (by omega) ?_
      refine wk_i ?_
      refine wi_if (cd := .eq) (nx := 40) (r1 := 50) (r2 := 0) (r3 := 0) rfl (by omega) (fun (q31 : 1 = 0) => by exfalso; omega) (fun (q31 : ¬ (1 = 0)) => ?_)
      refine wi_aload_n (i := 0) (x := 236) (nx := 41) (r1 := 0) (r2 := 0) (r3 := 0) rfl rfl ?_
      refine wr_gr (k0 := 236) (x := 239) (nx := 44) (r1 := 11) (r2 := 14) (r3 := 0) rfl rfl (by decide) rfl ⟨rfl, rfl⟩ rfl ?_
      refine wi_iconst (n := 1) (nx := 45) (r1 := 0) (r2 := 0) (r3 := 0) rfl ?_
      refine wi_dup2 (nx := 46) (r1 := 0) (r2 := 0) (r3 := 0) rfl rfl rfl ?_
      refine wr_ia (k0 := 239) (a := 1) (f := 1) (x := 0) (nx := 47) (r1 := 0) (r2 := 0) (r3 := 0) rfl (by decide) rfl (by omega) (by omega) (by decide) ((u28 239 1 rfl).trans ((u21 239 1 rfl).trans ((u15 239 1 rfl).trans q11))) ?_
      refine wi_iconst (n := 1) (nx := 48) (r1 := 0) (r2 := 0) (r3 := 0) rfl ?_
      refine wr_addL (1) (nx := 49) (r1 := 0) (r2 := 0) (r3 := 0) rfl (by decide) ?_
      refine wr_is (k0 := 239) (a := 1) (f := 1) (x := 1) (bl := 0) (bh := 4) (nx := 50) (r1 := 0) (r2 := 0) (r3 := 0) rfl (by decide) rfl (by omega) (by omega) (by decide) g28 rfl (by omega) (fun h32 g32 w32 u32 => ?_)
      have F33 := F29.then rfl u32
      refine wi_return (nx := 51) (r1 := 0) (r2 := 0) (r3 := 0) rfl rfl ?_
      have e34 : h32 236 4 = h21 236 4 := ((u32 236 4 rfl).trans (u28 236 4 rfl))
      have e35 : h32 236 8 = h21 236 8 := ((u32 236 8 rfl).trans (u28 236 8 rfl))
      have e36 : h32 239 5 = h 239 5 := ((u32 239 5 rfl).trans ((u28 239 5 rfl).trans ((u21 239 5 rfl).trans (u15 239 5 rfl))))
      have e37 : h32 239 7 = h 239 7 := ((u32 239 7 rfl).trans ((u28 239 7 rfl).trans ((u21 239 7 rfl).trans (u15 239 7 rfl))))
      have e38 : h32 239 15 = z23 := ((u32 239 15 rfl).trans w28)
      have e39 : h32 239 16 = h 239 16 := ((u32 239 16 rfl).trans ((u28 239 16 rfl).trans ((u21 239 16 rfl).trans (u15 239 16 rfl))))
      have e40 : h32 239 17 = h 239 17 := ((u32 239 17 rfl).trans ((u28 239 17 rfl).trans ((u21 239 17 rfl).trans (u15 239 17 rfl))))
      have e41 : h32 239 18 = h 239 18 := ((u32 239 18 rfl).trans ((u28 239 18 rfl).trans ((u21 239 18 rfl).trans (u15 239 18 rfl))))
      exact k h32 g32 F33 (show (h 236 4) ≤ (h32 236 4) by omega) (show (h32 236 4) ≤ (h 236 3) by omega) (show 1 ≤ (h32 236 8) ∨ ((h32 239 5) ≤ 9 ∧ 1 ≤ (h32 239 5) ∧ (h32 239 7) ≤ 3 ∧ (h32 239 15) ≤ 6 ∧ (h32 239 16) ≤ 6 ∧ (h32 239 17) ≤ 6 ∧ (h32 239 18) ≤ 6) by omega)
  ·
    refine wr_ia (k0 := 239) (a := 1) (f := 1) (x := 1) (nx := 6) (r1 := 0) (r2 := 0) (r3 := 0) rfl (by decide) rfl (by omega) (by omega) (by decide) q11 ?_
    refine wi_istore_n (i := 1) (e := 1) (lo2 := [(1, vi 1), (0, .ref 236)]) (nx := 7) (r1 := 0) (r2 := 0) (r3 := 0) rfl rfl ?_
    refine wi_aload_n (i := 0) (x := 236) (nx := 8) (r1 := 0) (r2 := 0) (r3 := 0) rfl rfl ?_
    refine wi_iconst (n := 1) (nx := 9) (r1 := 0) (r2 := 0) (r3 := 0) rfl ?_
    refine wi_iconst (n := 4) (nx := 10) (r1 := 0) (r2 := 0) (r3 := 0) rfl ?_
    refine wr_V (k0 := 236) (rest := []) (as := [.ref 236, vi 1, vi 4]) (nx := 13) (r1 := 223) (r2 := 2) (r3 := 11) rfl rfl rfl (of_decide_eq_true rfl) rfl rfl (by decide) rfl rfl (of_decide_eq_true rfl) (of_decide_eq_true rfl) ?_
    refine wi_aload_n (i := 0) (x := 236) (nx := 1) (r1 := 0) (r2 := 0) (r3 := 0) rfl rfl ?_
    refine wr_gr (k0 := 236) (x := 239) (nx := 4) (r1 := 11) (r2 := 14) (r3 := 0) rfl rfl (by decide) rfl ⟨rfl, rfl⟩ rfl ?_
    refine wi_iload_n (i := 1) (e := 1) (nx := 5) (r1 := 0) (r2 := 0) (r3 := 0) rfl rfl ?_
    refine wr_ia (k0 := 239) (a := 1) (f := 1) (x := 1) (nx := 6) (r1 := 0) (r2 := 0) (r3 := 0) rfl (by decide) rfl (by omega) (by omega) (by decide) q11 ?_
    refine wi_iload_n (i := 2) (e := 4) (nx := 7) (r1 := 0) (r2 := 0) (r3 := 0) rfl rfl ?_
    refine wi_icmp (cd := .ne) (nx := 10) (r1 := 15) (r2 := 0) (r3 := 0) rfl (by omega) (by omega) (fun (q12 : 1 ≠ 4) => ?_) (fun (q12 : ¬ (1 ≠ 4)) => by exfalso; omega)
    refine wi_aload_n (i := 0) (x := 236) (nx := 16) (r1 := 0) (r2 := 0) (r3 := 0) rfl rfl ?_
    refine wr_V (k0 := 236) (rest := []) (as := [.ref 236]) (nx := 19) (r1 := 219) (r2 := 0) (r3 := 11) rfl rfl rfl (of_decide_eq_true rfl) rfl rfl (by decide) rfl rfl (of_decide_eq_true rfl) (of_decide_eq_true rfl) ?_
    refine wi_aload_n (i := 0) (x := 236) (nx := 1) (r1 := 0) (r2 := 0) (r3 := 0) rfl rfl ?_
    refine wr_gi0 (k0 := 236) (x := h 236 8) (nx := 4) (r1 := 11) (r2 := 8) (r3 := 0) rfl rfl (by decide) rfl ⟨rfl, rfl⟩ rfl rfl ?_
    refine wi_if (cd := .ne) (nx := 7) (r1 := 11) (r2 := 0) (r3 := 0) rfl (by omega) (fun (q13 : (h 236 8) ≠ 0) => by exfalso; omega) (fun (q13 : ¬ ((h 236 8) ≠ 0)) => ?_)
    refine wi_iconst (n := 1) (nx := 8) (r1 := 0) (r2 := 0) (r3 := 0) rfl ?_
    refine wi_goto (nx := 11) (r1 := 12) (r2 := 0) (r3 := 0) rfl ?_
    refine wi_zreturn (nx := 13) (r1 := 0) (r2 := 0) (r3 := 0) rfl rfl (by omega) ?_
    refine wk_i ?_
    refine wi_if (cd := .eq) (nx := 22) (r1 := 26) (r2 := 0) (r3 := 0) rfl (by omega) (fun (q14 : 1 = 0) => by exfalso; omega) (fun (q14 : ¬ (1 = 0)) => ?_)
    refine wi_aload_n (i := 0) (x := 236) (nx := 23) (r1 := 0) (r2 := 0) (r3 := 0) rfl rfl ?_
    refine wr_V (k0 := 236) (rest := []) (as := [.ref 236]) (nx := 26) (r1 := 215) (r2 := 0) (r3 := 11) rfl rfl rfl (of_decide_eq_true rfl) rfl rfl (by decide) rfl rfl (of_decide_eq_true rfl) (of_decide_eq_true rfl) ?_
    refine ct_215_236 hcr  g   (show (h 236 4) ≤ (h 236 3) by omega) (fun h15 g15 u15 (p15_0 : (h 236 4) ≤ (h15 236 4)) (p15_1 : (h15 236 4) ≤ (h 236 3)) (p15_2 : (h15 236 6) = 0 ∨ (h 236 4) + 1 ≤ (h15 236 4)) => ?_)
    have F16 := F0.then (by decide +kernel) u15
    have b17 := gi_b (lo := 0) (hi := 800) g15 236 4 rfl
    have b18 := gi_b (lo := 0) (hi := 4) g15 236 6 rfl
    refine wk_n ?_
    refine wi_aload_n (i := 0) (x := 236) (nx := 27) (r1 := 0) (r2 := 0) (r3 := 0) rfl rfl ?_
    refine wr_V (k0 := 236) (rest := []) (as := [.ref 236]) (nx := 30) (r1 := 219) (r2 := 0) (r3 := 11) rfl rfl rfl (of_decide_eq_true rfl) rfl rfl (by decide) rfl rfl (of_decide_eq_true rfl) (of_decide_eq_true rfl) ?_
    refine wi_aload_n (i := 0) (x := 236) (nx := 1) (r1 := 0) (r2 := 0) (r3 := 0) rfl rfl ?_
    refine wr_gi0 (k0 := 236) (x := h 236 8) (nx := 4) (r1 := 11) (r2 := 8) (r3 := 0) rfl rfl (by decide) rfl ⟨rfl, rfl⟩ rfl (u15 236 8 rfl) ?_
    refine wi_if (cd := .ne) (nx := 7) (r1 := 11) (r2 := 0) (r3 := 0) rfl (by omega) (fun (q19 : (h 236 8) ≠ 0) => by exfalso; omega) (fun (q19 : ¬ ((h 236 8) ≠ 0)) => ?_)
    refine wi_iconst (n := 1) (nx := 8) (r1 := 0) (r2 := 0) (r3 := 0) rfl ?_
    refine wi_goto (nx := 11) (r1 := 12) (r2 := 0) (r3 := 0) rfl ?_
    refine wi_zreturn (nx := 13) (r1 := 0) (r2 := 0) (r3 := 0) rfl rfl (by omega) ?_
    refine wk_i ?_
    refine wi_zreturn (nx := 31) (r1 := 0) (r2 := 0) (r3 := 0) rfl rfl (by omega) ?_
    refine wk_i ?_
    refine wi_if (cd := .ne) (nx := 16) (r1 := 17) (r2 := 0) (r3 := 0) rfl (by omega) (fun (q20 : 1 ≠ 0) => ?_) (fun (q20 : ¬ (1 ≠ 0)) => by exfalso; omega)
    refine wi_aload_n (i := 0) (x := 236) (nx := 18) (r1 := 0) (r2 := 0) (r3 := 0) rfl rfl ?_
    refine wr_gr (k0 := 236) (x := 239) (nx := 21) (r1 := 11) (r2 := 14) (r3 := 0) rfl rfl (by decide) rfl ⟨rfl, rfl⟩ rfl ?_
    refine wi_bipush (n := 15) (nx := 23) (r1 := 0) (r2 := 0) (r3 := 0) rfl (by decide) ?_
    refine wi_iload_n (i := 1) (e := 1) (nx := 24) (r1 := 0) (r2 := 0) (r3 := 0) rfl rfl ?_
    refine wr_addL (16) (nx := 25) (r1 := 0) (r2 := 0) (r3 := 0) rfl (by decide) ?_
    refine wi_aload_n (i := 0) (x := 236) (nx := 26) (r1 := 0) (r2 := 0) (r3 := 0) rfl rfl ?_
    refine wi_iconst (n := 1) (nx := 27) (r1 := 0) (r2 := 0) (r3 := 0) rfl ?_
    refine wi_bipush (n := 6) (nx := 29) (r1 := 0) (r2 := 0) (r3 := 0) rfl (by decide) ?_
    refine wr_V (k0 := 236) (rest := [vi 16, .ref 239]) (as := [.ref 236, vi 1, vi 6]) (nx := 32) (r1 := 231) (r2 := 2) (r3 := 11) rfl rfl rfl (of_decide_eq_true rfl) rfl rfl (by decide) rfl rfl (of_decide_eq_true rfl) (of_decide_eq_true rfl) ?_
    have e22 : h15 236 3 = h 236 3 := (u15 236 3 rfl)
    refine ct_231_236 hcr  g15 1 6 (by omega) (by omega) (show (h15 236 4) ≤ (h15 236 3) by omega) (fun h21 z23 g21 u21 (fz23 : 0 ≤ z23 ∧ z23 ≤ 999) (p21_0 : (h15 236 4) ≤ (h21 236 4)) (p21_1 : (h21 236 4) ≤ (h15 236 3)) (p21_2 : 1 ≤ (h21 236 8) ∨ (h15 236 8) = 0) (p21_3 : 1 ≤ (h21 236 8) ∨ (1 ≤ z23 ∧ z23 ≤ 6)) => ?_)
    have F24 := F16.then (by decide +kernel) u21
    have b25 := gi_b (lo := 0) (hi := 800) g21 236 4 rfl
    have e26 : h15 236 8 = h 236 8 := (u15 236 8 rfl)
    have b27 := gi_b (lo := 0) (hi := 5) g21 236 8 rfl
    refine wk_i ?_
    refine wr_is (k0 := 239) (a := 16) (f := 16) (x := z23) (bl := 0) (bh := 999) (nx := 33) (r1 := 0) (r2 := 0) (r3 := 0) rfl (by decide) rfl (by omega) (by omega) (by decide) g21 rfl (by omega) (fun h28 g28 w28 u28 => ?_)
    have F29 := F24.then rfl u28
    refine wi_aload_n (i := 0) (x := 236) (nx := 34) (r1 := 0) (r2 := 0) (r3 := 0) rfl rfl ?_
    refine wr_V (k0 := 236) (rest := []) (as := [.ref 236]) (nx := 37) (r1 := 219) (r2 := 0) (r3 := 11) rfl rfl rfl (of_decide_eq_true rfl) rfl rfl (by decide) rfl rfl (of_decide_eq_true rfl) (of_decide_eq_true rfl) ?_
    refine wi_aload_n (i := 0) (x := 236) (nx := 1) (r1 := 0) (r2 := 0) (r3 := 0) rfl rfl ?_
    refine wr_gi0 (k0 := 236) (x := h21 236 8) (nx := 4) (r1 := 11) (r2 := 8) (r3 := 0) rfl rfl (by decide) rfl ⟨rfl, rfl⟩ rfl (u28 236 8 rfl) ?_
    refine wi_if (cd := .ne) (nx := 7) (r1 := 11) (r2 := 0) (r3 := 0) rfl (by omega) (fun (q30 : (h21 236 8) ≠ 0) => ?_) (fun (q30 : ¬ ((h21 236 8) ≠ 0)) => ?_)
    ·
      refine wi_iconst (n := 0) (nx := 12) (r1 := 0) (r2 := 0) (r3 := 0) rfl ?_
      refine wi_zreturn (nx := 13) (r1 := 0) (r2 := 0) (r3 := 0) rfl rfl (by omega) ?_
      refine wk_i ?_
      refine wi_if (cd := .eq) (nx := 40) (r1 := 50) (r2 := 0) (r3 := 0) rfl (by omega) (fun (q31 : 0 = 0) => ?_) (fun (q31 : ¬ (0 = 0)) => by exfalso; omega)
      refine wi_return (nx := 51) (r1 := 0) (r2 := 0) (r3 := 0) rfl rfl ?_
      have e32 : h28 236 4 = h21 236 4 := (u28 236 4 rfl)
      have e33 : h28 236 8 = h21 236 8 := (u28 236 8 rfl)
      have e34 : h28 239 5 = h 239 5 := ((u28 239 5 rfl).trans ((u21 239 5 rfl).trans (u15 239 5 rfl)))
      have e35 : h28 239 7 = h 239 7 := ((u28 239 7 rfl).trans ((u21 239 7 rfl).trans (u15 239 7 rfl)))
      have e36 : h28 239 15 = h 239 15 := ((u28 239 15 rfl).trans ((u21 239 15 rfl).trans (u15 239 15 rfl)))
      have e37 : h28 239 16 = z23 := w28
      have e38 : h28 239 17 = h 239 17 := ((u28 239 17 rfl).trans ((u21 239 17 rfl).trans (u15 239 17 rfl)))
      have e39 : h28 239 18 = h 239 18 := ((u28 239 18 rfl).trans ((u21 239 18 rfl).trans (u15 239 18 rfl)))
      exact k h28 g28 F29 (show (h 236 4) ≤ (h28 236 4) by omega) (show (h28 236 4) ≤ (h 236 3) by omega) (show 1 ≤ (h28 236 8) ∨ ((h28 239 5) ≤ 9 ∧ 1 ≤ (h28 239 5) ∧ (h28 239 7) ≤ 3 ∧ (h28 239 15) ≤ 6 ∧ (h28 239 16) ≤ 6 ∧ (h28 239 17) ≤ 6 ∧ (h28 239 18) ≤ 6) by omega)
    ·
      refine wi_iconst (n := 1) (nx := 8) (r1 := 0) (r2 := 0) (r3 := 0) rfl ?_
      refine wi_goto (nx := 11) (r1 := 12) (r2 := 0) (r3 := 0) rfl ?_
      refine wi_zreturn (nx := 13) (r1 := 0) (r2 := 0) (r3 := 0) rfl rfl (by omega) ?_
      refine wk_i ?_
      refine wi_if (cd := .eq) (nx := 40) (r1 := 50) (r2 := 0) (r3 := 0) rfl (by omega) (fun (q31 : 1 = 0) => by exfalso; omega) (fun (q31 : ¬ (1 = 0)) => ?_)
      refine wi_aload_n (i := 0) (x := 236) (nx := 41) (r1 := 0) (r2 := 0) (r3 := 0) rfl rfl ?_
      refine wr_gr (k0 := 236) (x := 239) (nx := 44) (r1 := 11) (r2 := 14) (r3 := 0) rfl rfl (by decide) rfl ⟨rfl, rfl⟩ rfl ?_
      refine wi_iconst (n := 1) (nx := 45) (r1 := 0) (r2 := 0) (r3 := 0) rfl ?_
      refine wi_dup2 (nx := 46) (r1 := 0) (r2 := 0) (r3 := 0) rfl rfl rfl ?_
      refine wr_ia (k0 := 239) (a := 1) (f := 1) (x := 1) (nx := 47) (r1 := 0) (r2 := 0) (r3 := 0) rfl (by decide) rfl (by omega) (by omega) (by decide) ((u28 239 1 rfl).trans ((u21 239 1 rfl).trans ((u15 239 1 rfl).trans q11))) ?_
      refine wi_iconst (n := 1) (nx := 48) (r1 := 0) (r2 := 0) (r3 := 0) rfl ?_
      refine wr_addL (2) (nx := 49) (r1 := 0) (r2 := 0) (r3 := 0) rfl (by decide) ?_
      refine wr_is (k0 := 239) (a := 1) (f := 1) (x := 2) (bl := 0) (bh := 4) (nx := 50) (r1 := 0) (r2 := 0) (r3 := 0) rfl (by decide) rfl (by omega) (by omega) (by decide) g28 rfl (by omega) (fun h32 g32 w32 u32 => ?_)
      have F33 := F29.then rfl u32
      refine wi_return (nx := 51) (r1 := 0) (r2 := 0) (r3 := 0) rfl rfl ?_
      have e34 : h32 236 4 = h21 236 4 := ((u32 236 4 rfl).trans (u28 236 4 rfl))
      have e35 : h32 236 8 = h21 236 8 := ((u32 236 8 rfl).trans (u28 236 8 rfl))
      have e36 : h32 239 5 = h 239 5 := ((u32 239 5 rfl).trans ((u28 239 5 rfl).trans ((u21 239 5 rfl).trans (u15 239 5 rfl))))
      have e37 : h32 239 7 = h 239 7 := ((u32 239 7 rfl).trans ((u28 239 7 rfl).trans ((u21 239 7 rfl).trans (u15 239 7 rfl))))
      have e38 : h32 239 15 = h 239 15 := ((u32 239 15 rfl).trans ((u28 239 15 rfl).trans ((u21 239 15 rfl).trans (u15 239 15 rfl))))
      have e39 : h32 239 16 = z23 := ((u32 239 16 rfl).trans w28)
      have e40 : h32 239 17 = h 239 17 := ((u32 239 17 rfl).trans ((u28 239 17 rfl).trans ((u21 239 17 rfl).trans (u15 239 17 rfl))))
      have e41 : h32 239 18 = h 239 18 := ((u32 239 18 rfl).trans ((u28 239 18 rfl).trans ((u21 239 18 rfl).trans (u15 239 18 rfl))))
      exact k h32 g32 F33 (show (h 236 4) ≤ (h32 236 4) by omega) (show (h32 236 4) ≤ (h 236 3) by omega) (show 1 ≤ (h32 236 8) ∨ ((h32 239 5) ≤ 9 ∧ 1 ≤ (h32 239 5) ∧ (h32 239 7) ≤ 3 ∧ (h32 239 15) ≤ 6 ∧ (h32 239 16) ≤ 6 ∧ (h32 239 17) ≤ 6 ∧ (h32 239 18) ≤ 6) by omega)
  ·
    refine wr_ia (k0 := 239) (a := 1) (f := 1) (x := 2) (nx := 6) (r1 := 0) (r2 := 0) (r3 := 0) rfl (by decide) rfl (by omega) (by omega) (by decide) q11 ?_
    refine wi_istore_n (i := 1) (e := 2) (lo2 := [(1, vi 2), (0, .ref 236)]) (nx := 7) (r1 := 0) (r2 := 0) (r3 := 0) rfl rfl ?_
    refine wi_aload_n (i := 0) (x := 236) (nx := 8) (r1 := 0) (r2 := 0) (r3 := 0) rfl rfl ?_
    refine wi_iconst (n := 1) (nx := 9) (r1 := 0) (r2 := 0) (r3 := 0) rfl ?_
    refine wi_iconst (n := 4) (nx := 10) (r1 := 0) (r2 := 0) (r3 := 0) rfl ?_
    refine wr_V (k0 := 236) (rest := []) (as := [.ref 236, vi 1, vi 4]) (nx := 13) (r1 := 223) (r2 := 2) (r3 := 11) rfl rfl rfl (of_decide_eq_true rfl) rfl rfl (by decide) rfl rfl (of_decide_eq_true rfl) (of_decide_eq_true rfl) ?_
    refine wi_aload_n (i := 0) (x := 236) (nx := 1) (r1 := 0) (r2 := 0) (r3 := 0) rfl rfl ?_
    refine wr_gr (k0 := 236) (x := 239) (nx := 4) (r1 := 11) (r2 := 14) (r3 := 0) rfl rfl (by decide) rfl ⟨rfl, rfl⟩ rfl ?_
    refine wi_iload_n (i := 1) (e := 1) (nx := 5) (r1 := 0) (r2 := 0) (r3 := 0) rfl rfl ?_
    refine wr_ia (k0 := 239) (a := 1) (f := 1) (x := 2) (nx := 6) (r1 := 0) (r2 := 0) (r3 := 0) rfl (by decide) rfl (by omega) (by omega) (by decide) q11 ?_
    refine wi_iload_n (i := 2) (e := 4) (nx := 7) (r1 := 0) (r2 := 0) (r3 := 0) rfl rfl ?_
    refine wi_icmp (cd := .ne) (nx := 10) (r1 := 15) (r2 := 0) (r3 := 0) rfl (by omega) (by omega) (fun (q12 : 2 ≠ 4) => ?_) (fun (q12 : ¬ (2 ≠ 4)) => by exfalso; omega)
    refine wi_aload_n (i := 0) (x := 236) (nx := 16) (r1 := 0) (r2 := 0) (r3 := 0) rfl rfl ?_
    refine wr_V (k0 := 236) (rest := []) (as := [.ref 236]) (nx := 19) (r1 := 219) (r2 := 0) (r3 := 11) rfl rfl rfl (of_decide_eq_true rfl) rfl rfl (by decide) rfl rfl (of_decide_eq_true rfl) (of_decide_eq_true rfl) ?_
    refine wi_aload_n (i := 0) (x := 236) (nx := 1) (r1 := 0) (r2 := 0) (r3 := 0) rfl rfl ?_
    refine wr_gi0 (k0 := 236) (x := h 236 8) (nx := 4) (r1 := 11) (r2 := 8) (r3 := 0) rfl rfl (by decide) rfl ⟨rfl, rfl⟩ rfl rfl ?_
    refine wi_if (cd := .ne) (nx := 7) (r1 := 11) (r2 := 0) (r3 := 0) rfl (by omega) (fun (q13 : (h 236 8) ≠ 0) => by exfalso; omega) (fun (q13 : ¬ ((h 236 8) ≠ 0)) => ?_)
    refine wi_iconst (n := 1) (nx := 8) (r1 := 0) (r2 := 0) (r3 := 0) rfl ?_
    refine wi_goto (nx := 11) (r1 := 12) (r2 := 0) (r3 := 0) rfl ?_
    refine wi_zreturn (nx := 13) (r1 := 0) (r2 := 0) (r3 := 0) rfl rfl (by omega) ?_
    refine wk_i ?_
    refine wi_if (cd := .eq) (nx := 22) (r1 := 26) (r2 := 0) (r3 := 0) rfl (by omega) (fun (q14 : 1 = 0) => by exfalso; omega) (fun (q14 : ¬ (1 = 0)) => ?_)
    refine wi_aload_n (i := 0) (x := 236) (nx := 23) (r1 := 0) (r2 := 0) (r3 := 0) rfl rfl ?_
    refine wr_V (k0 := 236) (rest := []) (as := [.ref 236]) (nx := 26) (r1 := 215) (r2 := 0) (r3 := 11) rfl rfl rfl (of_decide_eq_true rfl) rfl rfl (by decide) rfl rfl (of_decide_eq_true rfl) (of_decide_eq_true rfl) ?_
    refine ct_215_236 hcr  g   (show (h 236 4) ≤ (h 236 3) by omega) (fun h15 g15 u15 (p15_0 : (h 236 4) ≤ (h15 236 4)) (p15_1 : (h15 236 4) ≤ (h 236 3)) (p15_2 : (h15 236 6) = 0 ∨ (h 236 4) + 1 ≤ (h15 236 4)) => ?_)
    have F16 := F0.then (by decide +kernel) u15
    have b17 := gi_b (lo := 0) (hi := 800) g15 236 4 rfl
    have b18 := gi_b (lo := 0) (hi := 4) g15 236 6 rfl
    refine wk_n ?_
    refine wi_aload_n (i := 0) (x := 236) (nx := 27) (r1 := 0) (r2 := 0) (r3 := 0) rfl rfl ?_
    refine wr_V (k0 := 236) (rest := []) (as := [.ref 236]) (nx := 30) (r1 := 219) (r2 := 0) (r3 := 11) rfl rfl rfl (of_decide_eq_true rfl) rfl rfl (by decide) rfl rfl (of_decide_eq_true rfl) (of_decide_eq_true rfl) ?_
    refine wi_aload_n (i := 0) (x := 236) (nx := 1) (r1 := 0) (r2 := 0) (r3 := 0) rfl rfl ?_
    refine wr_gi0 (k0 := 236) (x := h 236 8) (nx := 4) (r1 := 11) (r2 := 8) (r3 := 0) rfl rfl (by decide) rfl ⟨rfl, rfl⟩ rfl (u15 236 8 rfl) ?_
    refine wi_if (cd := .ne) (nx := 7) (r1 := 11) (r2 := 0) (r3 := 0) rfl (by omega) (fun (q19 : (h 236 8) ≠ 0) => by exfalso; omega) (fun (q19 : ¬ ((h 236 8) ≠ 0)) => ?_)
    refine wi_iconst (n := 1) (nx := 8) (r1 := 0) (r2 := 0) (r3 := 0) rfl ?_
    refine wi_goto (nx := 11) (r1 := 12) (r2 := 0) (r3 := 0) rfl ?_
    refine wi_zreturn (nx := 13) (r1 := 0) (r2 := 0) (r3 := 0) rfl rfl (by omega) ?_
    refine wk_i ?_
    refine wi_zreturn (nx := 31) (r1 := 0) (r2 := 0) (r3 := 0) rfl rfl (by omega) ?_
    refine wk_i ?_
    refine wi_if (cd := .ne) (nx := 16) (r1 := 17) (r2 := 0) (r3 := 0) rfl (by omega) (fun (q20 : 1 ≠ 0) => ?_) (fun (q20 : ¬ (1 ≠ 0)) => by exfalso; omega)
    refine wi_aload_n (i := 0) (x := 236) (nx := 18) (r1 := 0) (r2 := 0) (r3 := 0) rfl rfl ?_
    refine wr_gr (k0 := 236) (x := 239) (nx := 21) (r1 := 11) (r2 := 14) (r3 := 0) rfl rfl (by decide) rfl ⟨rfl, rfl⟩ rfl ?_
    refine wi_bipush (n := 15) (nx := 23) (r1 := 0) (r2 := 0) (r3 := 0) rfl (by decide) ?_
    refine wi_iload_n (i := 1) (e := 2) (nx := 24) (r1 := 0) (r2 := 0) (r3 := 0) rfl rfl ?_
    refine wr_addL (17) (nx := 25) (r1 := 0) (r2 := 0) (r3 := 0) rfl (by decide) ?_
    refine wi_aload_n (i := 0) (x := 236) (nx := 26) (r1 := 0) (r2 := 0) (r3 := 0) rfl rfl ?_
    refine wi_iconst (n := 1) (nx := 27) (r1 := 0) (r2 := 0) (r3 := 0) rfl ?_
    refine wi_bipush (n := 6) (nx := 29) (r1 := 0) (r2 := 0) (r3 := 0) rfl (by decide) ?_
    refine wr_V (k0 := 236) (rest := [vi 17, .ref 239]) (as := [.ref 236, vi 1, vi 6]) (nx := 32) (r1 := 231) (r2 := 2) (r3 := 11) rfl rfl rfl (of_decide_eq_true rfl) rfl rfl (by decide) rfl rfl (of_decide_eq_true rfl) (of_decide_eq_true rfl) ?_
    have e22 : h15 236 3 = h 236 3 := (u15 236 3 rfl)
    refine ct_231_236 hcr  g15 1 6 (by omega) (by omega) (show (h15 236 4) ≤ (h15 236 3) by omega) (fun h21 z23 g21 u21 (fz23 : 0 ≤ z23 ∧ z23 ≤ 999) (p21_0 : (h15 236 4) ≤ (h21 236 4)) (p21_1 : (h21 236 4) ≤ (h15 236 3)) (p21_2 : 1 ≤ (h21 236 8) ∨ (h15 236 8) = 0) (p21_3 : 1 ≤ (h21 236 8) ∨ (1 ≤ z23 ∧ z23 ≤ 6)) => ?_)
    have F24 := F16.then (by decide +kernel) u21
    have b25 := gi_b (lo := 0) (hi := 800) g21 236 4 rfl
    have e26 : h15 236 8 = h 236 8 := (u15 236 8 rfl)
    have b27 := gi_b (lo := 0) (hi := 5) g21 236 8 rfl
    refine wk_i ?_
    refine wr_is (k0 := 239) (a := 17) (f := 17) (x := z23) (bl := 0) (bh := 999) (nx := 33) (r1 := 0) (r2 := 0) (r3 := 0) rfl (by decide) rfl (by omega) (by omega) (by decide) g21 rfl (by omega) (fun h28 g28 w28 u28 => ?_)
    have F29 := F24.then rfl u28
    refine wi_aload_n (i := 0) (x := 236) (nx := 34) (r1 := 0) (r2 := 0) (r3 := 0) rfl rfl ?_
    refine wr_V (k0 := 236) (rest := []) (as := [.ref 236]) (nx := 37) (r1 := 219) (r2 := 0) (r3 := 11) rfl rfl rfl (of_decide_eq_true rfl) rfl rfl (by decide) rfl rfl (of_decide_eq_true rfl) (of_decide_eq_true rfl) ?_
    refine wi_aload_n (i := 0) (x := 236) (nx := 1) (r1 := 0) (r2 := 0) (r3 := 0) rfl rfl ?_
    refine wr_gi0 (k0 := 236) (x := h21 236 8) (nx := 4) (r1 := 11) (r2 := 8) (r3 := 0) rfl rfl (by decide) rfl ⟨rfl, rfl⟩ rfl (u28 236 8 rfl) ?_
    refine wi_if (cd := .ne) (nx := 7) (r1 := 11) (r2 := 0) (r3 := 0) rfl (by omega) (fun (q30 : (h21 236 8) ≠ 0) => ?_) (fun (q30 : ¬ ((h21 236 8) ≠ 0)) => ?_)
    ·
      refine wi_iconst (n := 0) (nx := 12) (r1 := 0) (r2 := 0) (r3 := 0) rfl ?_
      refine wi_zreturn (nx := 13) (r1 := 0) (r2 := 0) (r3 := 0) rfl rfl (by omega) ?_
      refine wk_i ?_
      refine wi_if (cd := .eq) (nx := 40) (r1 := 50) (r2 := 0) (r3 := 0) rfl (by omega) (fun (q31 : 0 = 0) => ?_) (fun (q31 : ¬ (0 = 0)) => by exfalso; omega)
      refine wi_return (nx := 51) (r1 := 0) (r2 := 0) (r3 := 0) rfl rfl ?_
      have e32 : h28 236 4 = h21 236 4 := (u28 236 4 rfl)
      have e33 : h28 236 8 = h21 236 8 := (u28 236 8 rfl)
      have e34 : h28 239 5 = h 239 5 := ((u28 239 5 rfl).trans ((u21 239 5 rfl).trans (u15 239 5 rfl)))
      have e35 : h28 239 7 = h 239 7 := ((u28 239 7 rfl).trans ((u21 239 7 rfl).trans (u15 239 7 rfl)))
      have e36 : h28 239 15 = h 239 15 := ((u28 239 15 rfl).trans ((u21 239 15 rfl).trans (u15 239 15 rfl)))
      have e37 : h28 239 16 = h 239 16 := ((u28 239 16 rfl).trans ((u21 239 16 rfl).trans (u15 239 16 rfl)))
      have e38 : h28 239 17 = z23 := w28
      have e39 : h28 239 18 = h 239 18 := ((u28 239 18 rfl).trans ((u21 239 18 rfl).trans (u15 239 18 rfl)))
      exact k h28 g28 F29 (show (h 236 4) ≤ (h28 236 4) by omega) (show (h28 236 4) ≤ (h 236 3) by omega) (show 1 ≤ (h28 236 8) ∨ ((h28 239 5) ≤ 9 ∧ 1 ≤ (h28 239 5) ∧ (h28 239 7) ≤ 3 ∧ (h28 239 15) ≤ 6 ∧ (h28 239 16) ≤ 6 ∧ (h28 239 17) ≤ 6 ∧ (h28 239 18) ≤ 6) by omega)
    ·
      refine wi_iconst (n := 1) (nx := 8) (r1 := 0) (r2 := 0) (r3 := 0) rfl ?_
      refine wi_goto (nx := 11) (r1 := 12) (r2 := 0) (r3 := 0) rfl ?_
      refine wi_zreturn (nx := 13) (r1 := 0) (r2 := 0) (r3 := 0) rfl rfl (by omega) ?_
      refine wk_i ?_
      refine wi_if (cd := .eq) (nx := 40) (r1 := 50) (r2 := 0) (r3 := 0) rfl (by omega) (fun (q31 : 1 = 0) => by exfalso; omega) (fun (q31 : ¬ (1 = 0)) => ?_)
      refine wi_aload_n (i := 0) (x := 236) (nx := 41) (r1 := 0) (r2 := 0) (r3 := 0) rfl rfl ?_
      refine wr_gr (k0 := 236) (x := 239) (nx := 44) (r1 := 11) (r2 := 14) (r3 := 0) rfl rfl (by decide) rfl ⟨rfl, rfl⟩ rfl ?_
      refine wi_iconst (n := 1) (nx := 45) (r1 := 0) (r2 := 0) (r3 := 0) rfl ?_
      refine wi_dup2 (nx := 46) (r1 := 0) (r2 := 0) (r3 := 0) rfl rfl rfl ?_
      refine wr_ia (k0 := 239) (a := 1) (f := 1) (x := 2) (nx := 47) (r1 := 0) (r2 := 0) (r3 := 0) rfl (by decide) rfl (by omega) (by omega) (by decide) ((u28 239 1 rfl).trans ((u21 239 1 rfl).trans ((u15 239 1 rfl).trans q11))) ?_
      refine wi_iconst (n := 1) (nx := 48) (r1 := 0) (r2 := 0) (r3 := 0) rfl ?_
      refine wr_addL (3) (nx := 49) (r1 := 0) (r2 := 0) (r3 := 0) rfl (by decide) ?_
      refine wr_is (k0 := 239) (a := 1) (f := 1) (x := 3) (bl := 0) (bh := 4) (nx := 50) (r1 := 0) (r2 := 0) (r3 := 0) rfl (by decide) rfl (by omega) (by omega) (by decide) g28 rfl (by omega) (fun h32 g32 w32 u32 => ?_)
      have F33 := F29.then rfl u32
      refine wi_return (nx := 51) (r1 := 0) (r2 := 0) (r3 := 0) rfl rfl ?_
      have e34 : h32 236 4 = h21 236 4 := ((u32 236 4 rfl).trans (u28 236 4 rfl))
      have e35 : h32 236 8 = h21 236 8 := ((u32 236 8 rfl).trans (u28 236 8 rfl))
      have e36 : h32 239 5 = h 239 5 := ((u32 239 5 rfl).trans ((u28 239 5 rfl).trans ((u21 239 5 rfl).trans (u15 239 5 rfl))))
      have e37 : h32 239 7 = h 239 7 := ((u32 239 7 rfl).trans ((u28 239 7 rfl).trans ((u21 239 7 rfl).trans (u15 239 7 rfl))))
      have e38 : h32 239 15 = h 239 15 := ((u32 239 15 rfl).trans ((u28 239 15 rfl).trans ((u21 239 15 rfl).trans (u15 239 15 rfl))))
      have e39 : h32 239 16 = h 239 16 := ((u32 239 16 rfl).trans ((u28 239 16 rfl).trans ((u21 239 16 rfl).trans (u15 239 16 rfl))))
      have e40 : h32 239 17 = z23 := ((u32 239 17 rfl).trans w28)
      have e41 : h32 239 18 = h 239 18 := ((u32 239 18 rfl).trans ((u28 239 18 rfl).trans ((u21 239 18 rfl).trans (u15 239 18 rfl))))
      exact k h32 g32 F33 (show (h 236 4) ≤ (h32 236 4) by omega) (show (h32 236 4) ≤ (h 236 3) by omega) (show 1 ≤ (h32 236 8) ∨ ((h32 239 5) ≤ 9 ∧ 1 ≤ (h32 239 5) ∧ (h32 239 7) ≤ 3 ∧ (h32 239 15) ≤ 6 ∧ (h32 239 16) ≤ 6 ∧ (h32 239 17) ≤ 6 ∧ (h32 239 18) ≤ 6) by omega)
  ·
    refine wr_ia (k0 := 239) (a := 1) (f := 1) (x := 3) (nx := 6) (r1 := 0) (r2 := 0) (r3 := 0) rfl (by decide) rfl (by omega) (by omega) (by decide) q11 ?_
    refine wi_istore_n (i := 1) (e := 3) (lo2 := [(1, vi 3), (0, .ref 236)]) (nx := 7) (r1 := 0) (r2 := 0) (r3 := 0) rfl rfl ?_
    refine wi_aload_n (i := 0) (x := 236) (nx := 8) (r1 := 0) (r2 := 0) (r3 := 0) rfl rfl ?_
    refine wi_iconst (n := 1) (nx := 9) (r1 := 0) (r2 := 0) (r3 := 0) rfl ?_
    refine wi_iconst (n := 4) (nx := 10) (r1 := 0) (r2 := 0) (r3 := 0) rfl ?_
    refine wr_V (k0 := 236) (rest := []) (as := [.ref 236, vi 1, vi 4]) (nx := 13) (r1 := 223) (r2 := 2) (r3 := 11) rfl rfl rfl (of_decide_eq_true rfl) rfl rfl (by decide) rfl rfl (of_decide_eq_true rfl) (of_decide_eq_true rfl) ?_
    refine wi_aload_n (i := 0) (x := 236) (nx := 1) (r1 := 0) (r2 := 0) (r3 := 0) rfl rfl ?_
    refine wr_gr (k0 := 236) (x := 239) (nx := 4) (r1 := 11) (r2 := 14) (r3 := 0) rfl rfl (by decide) rfl ⟨rfl, rfl⟩ rfl ?_
    refine wi_iload_n (i := 1) (e := 1) (nx := 5) (r1 := 0) (r2 := 0) (r3 := 0) rfl rfl ?_
    refine wr_ia (k0 := 239) (a := 1) (f := 1) (x := 3) (nx := 6) (r1 := 0) (r2 := 0) (r3 := 0) rfl (by decide) rfl (by omega) (by omega) (by decide) q11 ?_
    refine wi_iload_n (i := 2) (e := 4) (nx := 7) (r1 := 0) (r2 := 0) (r3 := 0) rfl rfl ?_
    refine wi_icmp (cd := .ne) (nx := 10) (r1 := 15) (r2 := 0) (r3 := 0) rfl (by omega) (by omega) (fun (q12 : 3 ≠ 4) => ?_) (fun (q12 : ¬ (3 ≠ 4)) => by exfalso; omega)
    refine wi_aload_n (i := 0) (x := 236) (nx := 16) (r1 := 0) (r2 := 0) (r3 := 0) rfl rfl ?_
    refine wr_V (k0 := 236) (rest := []) (as := [.ref 236]) (nx := 19) (r1 := 219) (r2 := 0) (r3 := 11) rfl rfl rfl (of_decide_eq_true rfl) rfl rfl (by decide) rfl rfl (of_decide_eq_true rfl) (of_decide_eq_true rfl) ?_
    refine wi_aload_n (i := 0) (x := 236) (nx := 1) (r1 := 0) (r2 := 0) (r3 := 0) rfl rfl ?_
    refine wr_gi0 (k0 := 236) (x := h 236 8) (nx := 4) (r1 := 11) (r2 := 8) (r3 := 0) rfl rfl (by decide) rfl ⟨rfl, rfl⟩ rfl rfl ?_
    refine wi_if (cd := .ne) (nx := 7) (r1 := 11) (r2 := 0) (r3 := 0) rfl (by omega) (fun (q13 : (h 236 8) ≠ 0) => by exfalso; omega) (fun (q13 : ¬ ((h 236 8) ≠ 0)) => ?_)
    refine wi_iconst (n := 1) (nx := 8) (r1 := 0) (r2 := 0) (r3 := 0) rfl ?_
    refine wi_goto (nx := 11) (r1 := 12) (r2 := 0) (r3 := 0) rfl ?_
    refine wi_zreturn (nx := 13) (r1 := 0) (r2 := 0) (r3 := 0) rfl rfl (by omega) ?_
    refine wk_i ?_
    refine wi_if (cd := .eq) (nx := 22) (r1 := 26) (r2 := 0) (r3 := 0) rfl (by omega) (fun (q14 : 1 = 0) => by exfalso; omega) (fun (q14 : ¬ (1 = 0)) => ?_)
    refine wi_aload_n (i := 0) (x := 236) (nx := 23) (r1 := 0) (r2 := 0) (r3 := 0) rfl rfl ?_
    refine wr_V (k0 := 236) (rest := []) (as := [.ref 236]) (nx := 26) (r1 := 215) (r2 := 0) (r3 := 11) rfl rfl rfl (of_decide_eq_true rfl) rfl rfl (by decide) rfl rfl (of_decide_eq_true rfl) (of_decide_eq_true rfl) ?_
    refine ct_215_236 hcr  g   (show (h 236 4) ≤ (h 236 3) by omega) (fun h15 g15 u15 (p15_0 : (h 236 4) ≤ (h15 236 4)) (p15_1 : (h15 236 4) ≤ (h 236 3)) (p15_2 : (h15 236 6) = 0 ∨ (h 236 4) + 1 ≤ (h15 236 4)) => ?_)
    have F16 := F0.then (by decide +kernel) u15
    have b17 := gi_b (lo := 0) (hi := 800) g15 236 4 rfl
    have b18 := gi_b (lo := 0) (hi := 4) g15 236 6 rfl
    refine wk_n ?_
    refine wi_aload_n (i := 0) (x := 236) (nx := 27) (r1 := 0) (r2 := 0) (r3 := 0) rfl rfl ?_
    refine wr_V (k0 := 236) (rest := []) (as := [.ref 236]) (nx := 30) (r1 := 219) (r2 := 0) (r3 := 11) rfl rfl rfl (of_decide_eq_true rfl) rfl rfl (by decide) rfl rfl (of_decide_eq_true rfl) (of_decide_eq_true rfl) ?_
    refine wi_aload_n (i := 0) (x := 236) (nx := 1) (r1 := 0) (r2 := 0) (r3 := 0) rfl rfl ?_
    refine wr_gi0 (k0 := 236) (x := h 236 8) (nx := 4) (r1 := 11) (r2 := 8) (r3 := 0) rfl rfl (by decide) rfl ⟨rfl, rfl⟩ rfl (u15 236 8 rfl) ?_
    refine wi_if (cd := .ne) (nx := 7) (r1 := 11) (r2 := 0) (r3 := 0) rfl (by omega) (fun (q19 : (h 236 8) ≠ 0) => by exfalso; omega) (fun (q19 : ¬ ((h 236 8) ≠ 0)) => ?_)
    refine wi_iconst (n := 1) (nx := 8) (r1 := 0) (r2 := 0) (r3 := 0) rfl ?_
    refine wi_goto (nx := 11) (r1 := 12) (r2 := 0) (r3 := 0) rfl ?_
    refine wi_zreturn (nx := 13) (r1 := 0) (r2 := 0) (r3 := 0) rfl rfl (by omega) ?_
    refine wk_i ?_
    refine wi_zreturn (nx := 31) (r1 := 0) (r2 := 0) (r3 := 0) rfl rfl (by omega) ?_
    refine wk_i ?_
    refine wi_if (cd := .ne) (nx := 16) (r1 := 17) (r2 := 0) (r3 := 0) rfl (by omega) (fun (q20 : 1 ≠ 0) => ?_) (fun (q20 : ¬ (1 ≠ 0)) => by exfalso; omega)
    refine wi_aload_n (i := 0) (x := 236) (nx := 18) (r1 := 0) (r2 := 0) (r3 := 0) rfl rfl ?_
    refine wr_gr (k0 := 236) (x := 239) (nx := 21) (r1 := 11) (r2 := 14) (r3 := 0) rfl rfl (by decide) rfl ⟨rfl, rfl⟩ rfl ?_
    refine wi_bipush (n := 15) (nx := 23) (r1 := 0) (r2 := 0) (r3 := 0) rfl (by decide) ?_
    refine wi_iload_n (i := 1) (e := 3) (nx := 24) (r1 := 0) (r2 := 0) (r3 := 0) rfl rfl ?_
    refine wr_addL (18) (nx := 25) (r1 := 0) (r2 := 0) (r3 := 0) rfl (by decide) ?_
    refine wi_aload_n (i := 0) (x := 236) (nx := 26) (r1 := 0) (r2 := 0) (r3 := 0) rfl rfl ?_
    refine wi_iconst (n := 1) (nx := 27) (r1 := 0) (r2 := 0) (r3 := 0) rfl ?_
    refine wi_bipush (n := 6) (nx := 29) (r1 := 0) (r2 := 0) (r3 := 0) rfl (by decide) ?_
    refine wr_V (k0 := 236) (rest := [vi 18, .ref 239]) (as := [.ref 236, vi 1, vi 6]) (nx := 32) (r1 := 231) (r2 := 2) (r3 := 11) rfl rfl rfl (of_decide_eq_true rfl) rfl rfl (by decide) rfl rfl (of_decide_eq_true rfl) (of_decide_eq_true rfl) ?_
    have e22 : h15 236 3 = h 236 3 := (u15 236 3 rfl)
    refine ct_231_236 hcr  g15 1 6 (by omega) (by omega) (show (h15 236 4) ≤ (h15 236 3) by omega) (fun h21 z23 g21 u21 (fz23 : 0 ≤ z23 ∧ z23 ≤ 999) (p21_0 : (h15 236 4) ≤ (h21 236 4)) (p21_1 : (h21 236 4) ≤ (h15 236 3)) (p21_2 : 1 ≤ (h21 236 8) ∨ (h15 236 8) = 0) (p21_3 : 1 ≤ (h21 236 8) ∨ (1 ≤ z23 ∧ z23 ≤ 6)) => ?_)
    have F24 := F16.then (by decide +kernel) u21
    have b25 := gi_b (lo := 0) (hi := 800) g21 236 4 rfl
    have e26 : h15 236 8 = h 236 8 := (u15 236 8 rfl)
    have b27 := gi_b (lo := 0) (hi := 5) g21 236 8 rfl
    refine wk_i ?_
    refine wr_is (k0 := 239) (a := 18) (f := 18) (x := z23) (bl := 0) (bh := 999) (nx := 33) (r1 := 0) (r2 := 0) (r3 := 0) rfl (by decide) rfl (by omega) (by omega) (by decide) g21 rfl (by omega) (fun h28 g28 w28 u28 => ?_)
    have F29 := F24.then rfl u28
    refine wi_aload_n (i := 0) (x := 236) (nx := 34) (r1 := 0) (r2 := 0) (r3 := 0) rfl rfl ?_
    refine wr_V (k0 := 236) (rest := []) (as := [.ref 236]) (nx := 37) (r1 := 219) (r2 := 0) (r3 := 11) rfl rfl rfl (of_decide_eq_true rfl) rfl rfl (by decide) rfl rfl (of_decide_eq_true rfl) (of_decide_eq_true rfl) ?_
    refine wi_aload_n (i := 0) (x := 236) (nx := 1) (r1 := 0) (r2 := 0) (r3 := 0) rfl rfl ?_
    refine wr_gi0 (k0 := 236) (x := h21 236 8) (nx := 4) (r1 := 11) (r2 := 8) (r3 := 0) rfl rfl (by decide) rfl ⟨rfl, rfl⟩ rfl (u28 236 8 rfl) ?_
    refine wi_if (cd := .ne) (nx := 7) (r1 := 11) (r2 := 0) (r3 := 0) rfl (by omega) (fun (q30 : (h21 236 8) ≠ 0) => ?_) (fun (q30 : ¬ ((h21 236 8) ≠ 0)) => ?_)
    ·
      refine wi_iconst (n := 0) (nx := 12) (r1 := 0) (r2 := 0) (r3 := 0) rfl ?_
      refine wi_zreturn (nx := 13) (r1 := 0) (r2 := 0) (r3 := 0) rfl rfl (by omega) ?_
      refine wk_i ?_
      refine wi_if (cd := .eq) (nx := 40) (r1 := 50) (r2 := 0) (r3 := 0) rfl (by omega) (fun (q31 : 0 = 0) => ?_) (fun (q31 : ¬ (0 = 0)) => by exfalso; omega)
      refine wi_return (nx := 51) (r1 := 0) (r2 := 0) (r3 := 0) rfl rfl ?_
      have e32 : h28 236 4 = h21 236 4 := (u28 236 4 rfl)
      have e33 : h28 236 8 = h21 236 8 := (u28 236 8 rfl)
      have e34 : h28 239 5 = h 239 5 := ((u28 239 5 rfl).trans ((u21 239 5 rfl).trans (u15 239 5 rfl)))
      have e35 : h28 239 7 = h 239 7 := ((u28 239 7 rfl).trans ((u21 239 7 rfl).trans (u15 239 7 rfl)))
      have e36 : h28 239 15 = h 239 15 := ((u28 239 15 rfl).trans ((u21 239 15 rfl).trans (u15 239 15 rfl)))
      have e37 : h28 239 16 = h 239 16 := ((u28 239 16 rfl).trans ((u21 239 16 rfl).trans (u15 239 16 rfl)))
      have e38 : h28 239 17 = h 239 17 := ((u28 239 17 rfl).trans ((u21 239 17 rfl).trans (u15 239 17 rfl)))
      have e39 : h28 239 18 = z23 := w28
      exact k h28 g28 F29 (show (h 236 4) ≤ (h28 236 4) by omega) (show (h28 236 4) ≤ (h 236 3) by omega) (show 1 ≤ (h28 236 8) ∨ ((h28 239 5) ≤ 9 ∧ 1 ≤ (h28 239 5) ∧ (h28 239 7) ≤ 3 ∧ (h28 239 15) ≤ 6 ∧ (h28 239 16) ≤ 6 ∧ (h28 239 17) ≤ 6 ∧ (h28 239 18) ≤ 6) by omega)
    ·
      refine wi_iconst (n := 1) (nx := 8) (r1 := 0) (r2 := 0) (r3 := 0) rfl ?_
      refine wi_goto (nx := 11) (r1 := 12) (r2 := 0) (r3 := 0) rfl ?_
      refine wi_zreturn (nx := 13) (r1 := 0) (r2 := 0) (r3 := 0) rfl rfl (by omega) ?_
      refine wk_i ?_
      refine wi_if (cd := .eq) (nx := 40) (r1 := 50) (r2 := 0) (r3 := 0) rfl (by omega) (fun (q31 : 1 = 0) => by exfalso; omega) (fun (q31 : ¬ (1 = 0)) => ?_)
      refine wi_aload_n (i := 0) (x := 236) (nx := 41) (r1 := 0) (r2 := 0) (r3 := 0) rfl rfl ?_
      refine wr_gr (k0 := 236) (x := 239) (nx := 44) (r1 := 11) (r2 := 14) (r3 := 0) rfl rfl (by decide) rfl ⟨rfl, rfl⟩ rfl ?_
      refine wi_iconst (n := 1) (nx := 45) (r1 := 0) (r2 := 0) (r3 := 0) rfl ?_
      refine wi_dup2 (nx := 46) (r1 := 0) (r2 := 0) (r3 := 0) rfl rfl rfl ?_
      refine wr_ia (k0 := 239) (a := 1) (f := 1) (x := 3) (nx := 47) (r1 := 0) (r2 := 0) (r3 := 0) rfl (by decide) rfl (by omega) (by omega) (by decide) ((u28 239 1 rfl).trans ((u21 239 1 rfl).trans ((u15 239 1 rfl).trans q11))) ?_
      refine wi_iconst (n := 1) (nx := 48) (r1 := 0) (r2 := 0) (r3 := 0) rfl ?_
      refine wr_addL (4) (nx := 49) (r1 := 0) (r2 := 0) (r3 := 0) rfl (by decide) ?_
      refine wr_is (k0 := 239) (a := 1) (f := 1) (x := 4) (bl := 0) (bh := 4) (nx := 50) (r1 := 0) (r2 := 0) (r3 := 0) rfl (by decide) rfl (by omega) (by omega) (by decide) g28 rfl (by omega) (fun h32 g32 w32 u32 => ?_)
      have F33 := F29.then rfl u32
      refine wi_return (nx := 51) (r1 := 0) (r2 := 0) (r3 := 0) rfl rfl ?_
      have e34 : h32 236 4 = h21 236 4 := ((u32 236 4 rfl).trans (u28 236 4 rfl))
      have e35 : h32 236 8 = h21 236 8 := ((u32 236 8 rfl).trans (u28 236 8 rfl))
      have e36 : h32 239 5 = h 239 5 := ((u32 239 5 rfl).trans ((u28 239 5 rfl).trans ((u21 239 5 rfl).trans (u15 239 5 rfl))))
      have e37 : h32 239 7 = h 239 7 := ((u32 239 7 rfl).trans ((u28 239 7 rfl).trans ((u21 239 7 rfl).trans (u15 239 7 rfl))))
      have e38 : h32 239 15 = h 239 15 := ((u32 239 15 rfl).trans ((u28 239 15 rfl).trans ((u21 239 15 rfl).trans (u15 239 15 rfl))))
      have e39 : h32 239 16 = h 239 16 := ((u32 239 16 rfl).trans ((u28 239 16 rfl).trans ((u21 239 16 rfl).trans (u15 239 16 rfl))))
      have e40 : h32 239 17 = h 239 17 := ((u32 239 17 rfl).trans ((u28 239 17 rfl).trans ((u21 239 17 rfl).trans (u15 239 17 rfl))))
      have e41 : h32 239 18 = z23 := ((u32 239 18 rfl).trans w28)
      exact k h32 g32 F33 (show (h 236 4) ≤ (h32 236 4) by omega) (show (h32 236 4) ≤ (h 236 3) by omega) (show 1 ≤ (h32 236 8) ∨ ((h32 239 5) ≤ 9 ∧ 1 ≤ (h32 239 5) ∧ (h32 239 7) ≤ 3 ∧ (h32 239 15) ≤ 6 ∧ (h32 239 16) ≤ 6 ∧ (h32 239 17) ≤ 6 ∧ (h32 239 18) ≤ 6) by omega)
  ·
    refine wr_ia (k0 := 239) (a := 1) (f := 1) (x := 4) (nx := 6) (r1 := 0) (r2 := 0) (r3 := 0) rfl (by decide) rfl (by omega) (by omega) (by decide) q11 ?_
    refine wi_istore_n (i := 1) (e := 4) (lo2 := [(1, vi 4), (0, .ref 236)]) (nx := 7) (r1 := 0) (r2 := 0) (r3 := 0) rfl rfl ?_
    refine wi_aload_n (i := 0) (x := 236) (nx := 8) (r1 := 0) (r2 := 0) (r3 := 0) rfl rfl ?_
    refine wi_iconst (n := 1) (nx := 9) (r1 := 0) (r2 := 0) (r3 := 0) rfl ?_
    refine wi_iconst (n := 4) (nx := 10) (r1 := 0) (r2 := 0) (r3 := 0) rfl ?_
    refine wr_V (k0 := 236) (rest := []) (as := [.ref 236, vi 1, vi 4]) (nx := 13) (r1 := 223) (r2 := 2) (r3 := 11) rfl rfl rfl (of_decide_eq_true rfl) rfl rfl (by decide) rfl rfl (of_decide_eq_true rfl) (of_decide_eq_true rfl) ?_
    refine wi_aload_n (i := 0) (x := 236) (nx := 1) (r1 := 0) (r2 := 0) (r3 := 0) rfl rfl ?_
    refine wr_gr (k0 := 236) (x := 239) (nx := 4) (r1 := 11) (r2 := 14) (r3 := 0) rfl rfl (by decide) rfl ⟨rfl, rfl⟩ rfl ?_
    refine wi_iload_n (i := 1) (e := 1) (nx := 5) (r1 := 0) (r2 := 0) (r3 := 0) rfl rfl ?_
    refine wr_ia (k0 := 239) (a := 1) (f := 1) (x := 4) (nx := 6) (r1 := 0) (r2 := 0) (r3 := 0) rfl (by decide) rfl (by omega) (by omega) (by decide) q11 ?_
    refine wi_iload_n (i := 2) (e := 4) (nx := 7) (r1 := 0) (r2 := 0) (r3 := 0) rfl rfl ?_
    refine wi_icmp (cd := .ne) (nx := 10) (r1 := 15) (r2 := 0) (r3 := 0) rfl (by omega) (by omega) (fun (q12 : 4 ≠ 4) => by exfalso; omega) (fun (q12 : ¬ (4 ≠ 4)) => ?_)
    refine wi_aload_n (i := 0) (x := 236) (nx := 11) (r1 := 0) (r2 := 0) (r3 := 0) rfl rfl ?_
    refine wi_iconst (n := 5) (nx := 12) (r1 := 0) (r2 := 0) (r3 := 0) rfl ?_
    refine wr_V (k0 := 236) (rest := []) (as := [.ref 236, vi 5]) (nx := 15) (r1 := 224) (r2 := 1) (r3 := 11) rfl rfl rfl (of_decide_eq_true rfl) rfl rfl (by decide) rfl rfl (of_decide_eq_true rfl) (of_decide_eq_true rfl) ?_
    refine ct_224_236 hcr  g 5 (by omega)  (fun h13 g13 u13 (p13_0 : 1 ≤ (h13 236 8)) => ?_)
    have F14 := F0.then (by decide +kernel) u13
    have b15 := gi_b (lo := 0) (hi := 5) g13 236 8 rfl
    refine wk_n ?_
    refine wi_aload_n (i := 0) (x := 236) (nx := 16) (r1 := 0) (r2 := 0) (r3 := 0) rfl rfl ?_
    refine wr_V (k0 := 236) (rest := []) (as := [.ref 236]) (nx := 19) (r1 := 219) (r2 := 0) (r3 := 11) rfl rfl rfl (of_decide_eq_true rfl) rfl rfl (by decide) rfl rfl (of_decide_eq_true rfl) (of_decide_eq_true rfl) ?_
    refine wi_aload_n (i := 0) (x := 236) (nx := 1) (r1 := 0) (r2 := 0) (r3 := 0) rfl rfl ?_
    refine wr_gi0 (k0 := 236) (x := h13 236 8) (nx := 4) (r1 := 11) (r2 := 8) (r3 := 0) rfl rfl (by decide) rfl ⟨rfl, rfl⟩ rfl rfl ?_
    refine wi_if (cd := .ne) (nx := 7) (r1 := 11) (r2 := 0) (r3 := 0) rfl (by omega) (fun (q16 : (h13 236 8) ≠ 0) => ?_) (fun (q16 : ¬ ((h13 236 8) ≠ 0)) => by exfalso; omega)
    refine wi_iconst (n := 0) (nx := 12) (r1 := 0) (r2 := 0) (r3 := 0) rfl ?_
    refine wi_zreturn (nx := 13) (r1 := 0) (r2 := 0) (r3 := 0) rfl rfl (by omega) ?_
    refine wk_i ?_
    refine wi_if (cd := .eq) (nx := 22) (r1 := 26) (r2 := 0) (r3 := 0) rfl (by omega) (fun (q17 : 0 = 0) => ?_) (fun (q17 : ¬ (0 = 0)) => by exfalso; omega)
    refine wi_aload_n (i := 0) (x := 236) (nx := 27) (r1 := 0) (r2 := 0) (r3 := 0) rfl rfl ?_
    refine wr_V (k0 := 236) (rest := []) (as := [.ref 236]) (nx := 30) (r1 := 219) (r2 := 0) (r3 := 11) rfl rfl rfl (of_decide_eq_true rfl) rfl rfl (by decide) rfl rfl (of_decide_eq_true rfl) (of_decide_eq_true rfl) ?_
    refine wi_aload_n (i := 0) (x := 236) (nx := 1) (r1 := 0) (r2 := 0) (r3 := 0) rfl rfl ?_
    refine wr_gi0 (k0 := 236) (x := h13 236 8) (nx := 4) (r1 := 11) (r2 := 8) (r3 := 0) rfl rfl (by decide) rfl ⟨rfl, rfl⟩ rfl rfl ?_
    refine wi_if (cd := .ne) (nx := 7) (r1 := 11) (r2 := 0) (r3 := 0) rfl (by omega) (fun (q18 : (h13 236 8) ≠ 0) => ?_) (fun (q18 : ¬ ((h13 236 8) ≠ 0)) => by exfalso; omega)
    refine wi_iconst (n := 0) (nx := 12) (r1 := 0) (r2 := 0) (r3 := 0) rfl ?_
    refine wi_zreturn (nx := 13) (r1 := 0) (r2 := 0) (r3 := 0) rfl rfl (by omega) ?_
    refine wk_i ?_
    refine wi_zreturn (nx := 31) (r1 := 0) (r2 := 0) (r3 := 0) rfl rfl (by omega) ?_
    refine wk_i ?_
    refine wi_if (cd := .ne) (nx := 16) (r1 := 17) (r2 := 0) (r3 := 0) rfl (by omega) (fun (q19 : 0 ≠ 0) => by exfalso; omega) (fun (q19 : ¬ (0 ≠ 0)) => ?_)
    refine wi_return (nx := 17) (r1 := 0) (r2 := 0) (r3 := 0) rfl rfl ?_
    have e20 : h13 236 4 = h 236 4 := (u13 236 4 rfl)
    have e21 : h13 239 5 = h 239 5 := (u13 239 5 rfl)
    have e22 : h13 239 7 = h 239 7 := (u13 239 7 rfl)
    have e23 : h13 239 15 = h 239 15 := (u13 239 15 rfl)
    have e24 : h13 239 16 = h 239 16 := (u13 239 16 rfl)
    have e25 : h13 239 17 = h 239 17 := (u13 239 17 rfl)
    have e26 : h13 239 18 = h 239 18 := (u13 239 18 rfl)
    exact k h13 g13 F14 (show (h 236 4) ≤ (h13 236 4) by omega) (show (h13 236 4) ≤ (h 236 3) by omega) (show 1 ≤ (h13 236 8) ∨ ((h13 239 5) ≤ 9 ∧ 1 ≤ (h13 239 5) ∧ (h13 239 7) ≤ 3 ∧ (h13 239 15) ≤ 6 ∧ (h13 239 16) ≤ 6 ∧ (h13 239 17) ≤ 6 ∧ (h13 239 18) ≤ 6) by omega)
-- method 222: Model.readsColor()V
set_option maxHeartbeats 100000000 in
theorem ct_222_236 {L : Nat} {xs : Nat → Int32} {d b c : Nat} {h : hp} {cr : Nat → Nat → Option Nat} {Q : hp_Q} (hcr : CR cr)  (g : GI h)   (pp0 : h 236 4 ≤ h 236 3) (pp1 : h 236 8 = 0) (pp2 : h 239 5 ≤ 9) (pp3 : 1 ≤ h 239 5) (pp4 : h 239 7 ≤ 3) (pp5 : h 239 15 ≤ 6) (pp6 : h 239 16 ≤ 6) (pp7 : h 239 17 ≤ 6) (pp8 : h 239 18 ≤ 6) (k : ∀ (h2 : hp) , GI h2 → FR [(244, 244, none), (236, 236, some (4, 4)), (236, 236, some (5, 5)), (236, 236, some (6, 6)), (236, 236, some (7, 7)), (236, 236, some (8, 8)), (236, 236, some (9, 9)), (236, 236, some (12, 12)), (239, 239, some (0, 0)), (239, 239, some (10, 14))] h h2 → (h 236 4 ≤ h2 236 4) → (h2 236 4 ≤ h 236 3) → (1 ≤ h2 236 8 ∨ (h2 239 5 ≤ 9 ∧ 1 ≤ h2 239 5 ∧ h2 239 7 ≤ 3 ∧ h2 239 15 ≤ 6 ∧ h2 239 16 ≤ 6 ∧ h2 239 17 ≤ 6 ∧ h2 239 18 ≤ 6)) → Q (.inl none) (hp_w h2 cr) b c) : wp (md_xa (L, xs)) (d + 5) 222 (0, [(0, .ref 236)], [], hp_w h cr, b, c) Q := by
  have F0 : FR [(244, 244, none), (236, 236, some (4, 4)), (236, 236, some (5, 5)), (236, 236, some (6, 6)), (236, 236, some (7, 7)), (236, 236, some (8, 8)), (236, 236, some (9, 9)), (236, 236, some (12, 12)), (239, 239, some (0, 0)), (239, 239, some (10, 14))] h h := FR.refl
  have b1 := gi_b (lo := 0) (hi := 800) g 236 4 rfl
  have b2 := gi_b (lo := 0) (hi := 800) g 236 3 rfl
  have b3 := gi_b (lo := 0) (hi := 5) g 236 8 rfl
  have b4 := gi_b (lo := 0) (hi := 999) g 239 5 rfl
  have b5 := gi_b (lo := 0) (hi := 999) g 239 7 rfl
  have b6 := gi_b (lo := 0) (hi := 999) g 239 15 rfl
  have b7 := gi_b (lo := 0) (hi := 999) g 239 16 rfl
  have b8 := gi_b (lo := 0) (hi := 999) g 239 17 rfl
  have b9 := gi_b (lo := 0) (hi := 999) g 239 18 rfl
  refine wi_aload_n (i := 0) (x := 236) (nx := 1) (r1 := 0) (r2 := 0) (r3 := 0) rfl rfl ?_
  refine wr_gr (k0 := 236) (x := 239) (nx := 4) (r1 := 11) (r2 := 14) (r3 := 0) rfl rfl (by decide) rfl ⟨rfl, rfl⟩ rfl ?_
  refine wi_iconst (n := 0) (nx := 5) (r1 := 0) (r2 := 0) (r3 := 0) rfl ?_
  have b10 := gi_b (lo := 0) (hi := 5) g 239 0 rfl
  refine wr_ia (k0 := 239) (a := 0) (f := 0) (x := h 239 0) (nx := 6) (r1 := 0) (r2 := 0) (r3 := 0) rfl (by decide) rfl (by omega) (by omega) (by decide) rfl ?_
  refine wi_istore_n (i := 1) (e := h 239 0) (lo2 := [(1, vi (h 239 0)), (0, .ref 236)]) (nx := 7) (r1 := 0) (r2 := 0) (r3 := 0) rfl rfl ?_
  refine wi_aload_n (i := 0) (x := 236) (nx := 8) (r1 := 0) (r2 := 0) (r3 := 0) rfl rfl ?_
  refine wi_iconst (n := 0) (nx := 9) (r1 := 0) (r2 := 0) (r3 := 0) rfl ?_
  refine wi_iconst (n := 5) (nx := 10) (r1 := 0) (r2 := 0) (r3 := 0) rfl ?_
  refine wr_V (k0 := 236) (rest := []) (as := [.ref 236, vi 0, vi 5]) (nx := 13) (r1 := 223) (r2 := 2) (r3 := 11) rfl rfl rfl (of_decide_eq_true rfl) rfl rfl (by decide) rfl rfl (of_decide_eq_true rfl) (of_decide_eq_true rfl) ?_
  refine wi_aload_n (i := 0) (x := 236) (nx := 1) (r1 := 0) (r2 := 0) (r3 := 0) rfl rfl ?_
  refine wr_gr (k0 := 236) (x := 239) (nx := 4) (r1 := 11) (r2 := 14) (r3 := 0) rfl rfl (by decide) rfl ⟨rfl, rfl⟩ rfl ?_
  refine wi_iload_n (i := 1) (e := 0) (nx := 5) (r1 := 0) (r2 := 0) (r3 := 0) rfl rfl ?_
  refine wr_ia (k0 := 239) (a := 0) (f := 0) (x := h 239 0) (nx := 6) (r1 := 0) (r2 := 0) (r3 := 0) rfl (by decide) rfl (by omega) (by omega) (by decide) rfl ?_
  refine wi_iload_n (i := 2) (e := 5) (nx := 7) (r1 := 0) (r2 := 0) (r3 := 0) rfl rfl ?_
  refine wi_icmp (cd := .ne) (nx := 10) (r1 := 15) (r2 := 0) (r3 := 0) rfl (by omega) (by omega) (fun (q11 : (h 239 0) ≠ 5) => ?_) (fun (q11 : ¬ ((h 239 0) ≠ 5)) => ?_)
  ·
    refine wi_aload_n (i := 0) (x := 236) (nx := 16) (r1 := 0) (r2 := 0) (r3 := 0) rfl rfl ?_
    refine wr_V (k0 := 236) (rest := []) (as := [.ref 236]) (nx := 19) (r1 := 219) (r2 := 0) (r3 := 11) rfl rfl rfl (of_decide_eq_true rfl) rfl rfl (by decide) rfl rfl (of_decide_eq_true rfl) (of_decide_eq_true rfl) ?_
    refine wi_aload_n (i := 0) (x := 236) (nx := 1) (r1 := 0) (r2 := 0) (r3 := 0) rfl rfl ?_
    refine wr_gi0 (k0 := 236) (x := h 236 8) (nx := 4) (r1 := 11) (r2 := 8) (r3 := 0) rfl rfl (by decide) rfl ⟨rfl, rfl⟩ rfl rfl ?_
    refine wi_if (cd := .ne) (nx := 7) (r1 := 11) (r2 := 0) (r3 := 0) rfl (by omega) (fun (q12 : (h 236 8) ≠ 0) => by exfalso; omega) (fun (q12 : ¬ ((h 236 8) ≠ 0)) => ?_)
    refine wi_iconst (n := 1) (nx := 8) (r1 := 0) (r2 := 0) (r3 := 0) rfl ?_
    refine wi_goto (nx := 11) (r1 := 12) (r2 := 0) (r3 := 0) rfl ?_
    refine wi_zreturn (nx := 13) (r1 := 0) (r2 := 0) (r3 := 0) rfl rfl (by omega) ?_
    refine wk_i ?_
    refine wi_if (cd := .eq) (nx := 22) (r1 := 26) (r2 := 0) (r3 := 0) rfl (by omega) (fun (q13 : 1 = 0) => by exfalso; omega) (fun (q13 : ¬ (1 = 0)) => ?_)
    refine wi_aload_n (i := 0) (x := 236) (nx := 23) (r1 := 0) (r2 := 0) (r3 := 0) rfl rfl ?_
    refine wr_V (k0 := 236) (rest := []) (as := [.ref 236]) (nx := 26) (r1 := 215) (r2 := 0) (r3 := 11) rfl rfl rfl (of_decide_eq_true rfl) rfl rfl (by decide) rfl rfl (of_decide_eq_true rfl) (of_decide_eq_true rfl) ?_
    refine ct_215_236 hcr  g   (show (h 236 4) ≤ (h 236 3) by omega) (fun h14 g14 u14 (p14_0 : (h 236 4) ≤ (h14 236 4)) (p14_1 : (h14 236 4) ≤ (h 236 3)) (p14_2 : (h14 236 6) = 0 ∨ (h 236 4) + 1 ≤ (h14 236 4)) => ?_)
    have F15 := F0.then (by decide +kernel) u14
    have b16 := gi_b (lo := 0) (hi := 800) g14 236 4 rfl
    have b17 := gi_b (lo := 0) (hi := 4) g14 236 6 rfl
    refine wk_n ?_
    refine wi_aload_n (i := 0) (x := 236) (nx := 27) (r1 := 0) (r2 := 0) (r3 := 0) rfl rfl ?_
    refine wr_V (k0 := 236) (rest := []) (as := [.ref 236]) (nx := 30) (r1 := 219) (r2 := 0) (r3 := 11) rfl rfl rfl (of_decide_eq_true rfl) rfl rfl (by decide) rfl rfl (of_decide_eq_true rfl) (of_decide_eq_true rfl) ?_
    refine wi_aload_n (i := 0) (x := 236) (nx := 1) (r1 := 0) (r2 := 0) (r3 := 0) rfl rfl ?_
    refine wr_gi0 (k0 := 236) (x := h 236 8) (nx := 4) (r1 := 11) (r2 := 8) (r3 := 0) rfl rfl (by decide) rfl ⟨rfl, rfl⟩ rfl (u14 236 8 rfl) ?_
    refine wi_if (cd := .ne) (nx := 7) (r1 := 11) (r2 := 0) (r3 := 0) rfl (by omega) (fun (q18 : (h 236 8) ≠ 0) => by exfalso; omega) (fun (q18 : ¬ ((h 236 8) ≠ 0)) => ?_)
    refine wi_iconst (n := 1) (nx := 8) (r1 := 0) (r2 := 0) (r3 := 0) rfl ?_
    refine wi_goto (nx := 11) (r1 := 12) (r2 := 0) (r3 := 0) rfl ?_
    refine wi_zreturn (nx := 13) (r1 := 0) (r2 := 0) (r3 := 0) rfl rfl (by omega) ?_
    refine wk_i ?_
    refine wi_zreturn (nx := 31) (r1 := 0) (r2 := 0) (r3 := 0) rfl rfl (by omega) ?_
    refine wk_i ?_
    refine wi_if (cd := .ne) (nx := 16) (r1 := 17) (r2 := 0) (r3 := 0) rfl (by omega) (fun (q19 : 1 ≠ 0) => ?_) (fun (q19 : ¬ (1 ≠ 0)) => by exfalso; omega)
    refine wi_aload_n (i := 0) (x := 236) (nx := 18) (r1 := 0) (r2 := 0) (r3 := 0) rfl rfl ?_
    refine wr_V (k0 := 236) (rest := []) (as := [.ref 236]) (nx := 21) (r1 := 225) (r2 := 0) (r3 := 11) rfl rfl rfl (of_decide_eq_true rfl) rfl rfl (by decide) rfl rfl (of_decide_eq_true rfl) (of_decide_eq_true rfl) ?_
    refine ct_225_236 hcr  g14    (fun h20 g20 u20 (p20_0 : 1 ≤ (h20 236 8) ∨ (h14 236 8) = 0) => ?_)
    have F21 := F15.then (by decide +kernel) u20
    have e22 : h14 236 8 = h 236 8 := (u14 236 8 rfl)
    have b23 := gi_b (lo := 0) (hi := 5) g20 236 8 rfl
    refine wk_n ?_
    refine wi_aload_n (i := 0) (x := 236) (nx := 22) (r1 := 0) (r2 := 0) (r3 := 0) rfl rfl ?_
    refine wr_V (k0 := 236) (rest := []) (as := [.ref 236]) (nx := 25) (r1 := 219) (r2 := 0) (r3 := 11) rfl rfl rfl (of_decide_eq_true rfl) rfl rfl (by decide) rfl rfl (of_decide_eq_true rfl) (of_decide_eq_true rfl) ?_
    refine wi_aload_n (i := 0) (x := 236) (nx := 1) (r1 := 0) (r2 := 0) (r3 := 0) rfl rfl ?_
    refine wr_gi0 (k0 := 236) (x := h20 236 8) (nx := 4) (r1 := 11) (r2 := 8) (r3 := 0) rfl rfl (by decide) rfl ⟨rfl, rfl⟩ rfl rfl ?_
    refine wi_if (cd := .ne) (nx := 7) (r1 := 11) (r2 := 0) (r3 := 0) rfl (by omega) (fun (q24 : (h20 236 8) ≠ 0) => ?_) (fun (q24 : ¬ ((h20 236 8) ≠ 0)) => ?_)
    ·
      refine wi_iconst (n := 0) (nx := 12) (r1 := 0) (r2 := 0) (r3 := 0) rfl ?_
      refine wi_zreturn (nx := 13) (r1 := 0) (r2 := 0) (r3 := 0) rfl rfl (by omega) ?_
      refine wk_i ?_
      refine wi_if (cd := .eq) (nx := 28) (r1 := 41) (r2 := 0) (r3 := 0) rfl (by omega) (fun (q25 : 0 = 0) => ?_) (fun (q25 : ¬ (0 = 0)) => by exfalso; omega)
      refine wi_aload_n (i := 0) (x := 236) (nx := 42) (r1 := 0) (r2 := 0) (r3 := 0) rfl rfl ?_
      refine wr_V (k0 := 236) (rest := []) (as := [.ref 236]) (nx := 45) (r1 := 219) (r2 := 0) (r3 := 11) rfl rfl rfl (of_decide_eq_true rfl) rfl rfl (by decide) rfl rfl (of_decide_eq_true rfl) (of_decide_eq_true rfl) ?_
      refine wi_aload_n (i := 0) (x := 236) (nx := 1) (r1 := 0) (r2 := 0) (r3 := 0) rfl rfl ?_
      refine wr_gi0 (k0 := 236) (x := h20 236 8) (nx := 4) (r1 := 11) (r2 := 8) (r3 := 0) rfl rfl (by decide) rfl ⟨rfl, rfl⟩ rfl rfl ?_
      refine wi_if (cd := .ne) (nx := 7) (r1 := 11) (r2 := 0) (r3 := 0) rfl (by omega) (fun (q26 : (h20 236 8) ≠ 0) => ?_) (fun (q26 : ¬ ((h20 236 8) ≠ 0)) => by exfalso; omega)
      refine wi_iconst (n := 0) (nx := 12) (r1 := 0) (r2 := 0) (r3 := 0) rfl ?_
      refine wi_zreturn (nx := 13) (r1 := 0) (r2 := 0) (r3 := 0) rfl rfl (by omega) ?_
      refine wk_i ?_
      refine wi_if (cd := .ne) (nx := 48) (r1 := 49) (r2 := 0) (r3 := 0) rfl (by omega) (fun (q27 : 0 ≠ 0) => by exfalso; omega) (fun (q27 : ¬ (0 ≠ 0)) => ?_)
      refine wi_return (nx := 49) (r1 := 0) (r2 := 0) (r3 := 0) rfl rfl ?_
      have e28 : h20 236 4 = h14 236 4 := (u20 236 4 rfl)
      have e29 : h20 239 5 = h 239 5 := ((u20 239 5 rfl).trans (u14 239 5 rfl))
      have e30 : h20 239 7 = h 239 7 := ((u20 239 7 rfl).trans (u14 239 7 rfl))
      have e31 : h20 239 15 = h 239 15 := ((u20 239 15 rfl).trans (u14 239 15 rfl))
      have e32 : h20 239 16 = h 239 16 := ((u20 239 16 rfl).trans (u14 239 16 rfl))
      have e33 : h20 239 17 = h 239 17 := ((u20 239 17 rfl).trans (u14 239 17 rfl))
      have e34 : h20 239 18 = h 239 18 := ((u20 239 18 rfl).trans (u14 239 18 rfl))
      exact k h20 g20 F21 (show (h 236 4) ≤ (h20 236 4) by omega) (show (h20 236 4) ≤ (h 236 3) by omega) (show 1 ≤ (h20 236 8) ∨ ((h20 239 5) ≤ 9 ∧ 1 ≤ (h20 239 5) ∧ (h20 239 7) ≤ 3 ∧ (h20 239 15) ≤ 6 ∧ (h20 239 16) ≤ 6 ∧ (h20 239 17) ≤ 6 ∧ (h20 239 18) ≤ 6) by omega)
    ·
      refine wi_iconst (n := 1) (nx := 8) (r1 := 0) (r2 := 0) (r3 := 0) rfl ?_
      refine wi_goto (nx := 11) (r1 := 12) (r2 := 0) (r3 := 0) rfl ?_
      refine wi_zreturn (nx := 13) (r1 := 0) (r2 := 0) (r3 := 0) rfl rfl (by omega) ?_
      refine wk_i ?_
      refine wi_if (cd := .eq) (nx := 28) (r1 := 41) (r2 := 0) (r3 := 0) rfl (by omega) (fun (q25 : 1 = 0) => by exfalso; omega) (fun (q25 : ¬ (1 = 0)) => ?_)
      refine wi_aload_n (i := 0) (x := 236) (nx := 29) (r1 := 0) (r2 := 0) (r3 := 0) rfl rfl ?_
      refine wr_V (k0 := 236) (rest := []) (as := [.ref 236]) (nx := 32) (r1 := 227) (r2 := 0) (r3 := 11) rfl rfl rfl (of_decide_eq_true rfl) rfl rfl (by decide) rfl rfl (of_decide_eq_true rfl) (of_decide_eq_true rfl) ?_
      refine ct_227_236 hcr  g20    (fun z27  (fz27 : 0 ≤ z27 ∧ z27 ≤ 5) (p26_0 : z27 ≤ (h20 239 0)) => ?_)
      have e28 : h20 239 0 = h 239 0 := ((u20 239 0 rfl).trans (u14 239 0 rfl))
      refine wk_i ?_
      refine wi_iload_n (i := 1) (e := h 239 0) (nx := 33) (r1 := 0) (r2 := 0) (r3 := 0) rfl rfl ?_
      refine wi_icmp (cd := .ge) (nx := 36) (r1 := 41) (r2 := 0) (r3 := 0) rfl (by omega) (by omega) (fun (q29 : (h 239 0) ≤ z27) => ?_) (fun (q29 : ¬ ((h 239 0) ≤ z27)) => ?_)
      ·
        refine wi_aload_n (i := 0) (x := 236) (nx := 42) (r1 := 0) (r2 := 0) (r3 := 0) rfl rfl ?_
        refine wr_V (k0 := 236) (rest := []) (as := [.ref 236]) (nx := 45) (r1 := 219) (r2 := 0) (r3 := 11) rfl rfl rfl (of_decide_eq_true rfl) rfl rfl (by decide) rfl rfl (of_decide_eq_true rfl) (of_decide_eq_true rfl) ?_
        refine wi_aload_n (i := 0) (x := 236) (nx := 1) (r1 := 0) (r2 := 0) (r3 := 0) rfl rfl ?_
        refine wr_gi0 (k0 := 236) (x := h20 236 8) (nx := 4) (r1 := 11) (r2 := 8) (r3 := 0) rfl rfl (by decide) rfl ⟨rfl, rfl⟩ rfl rfl ?_
        refine wi_if (cd := .ne) (nx := 7) (r1 := 11) (r2 := 0) (r3 := 0) rfl (by omega) (fun (q30 : (h20 236 8) ≠ 0) => by exfalso; omega) (fun (q30 : ¬ ((h20 236 8) ≠ 0)) => ?_)
        refine wi_iconst (n := 1) (nx := 8) (r1 := 0) (r2 := 0) (r3 := 0) rfl ?_
        refine wi_goto (nx := 11) (r1 := 12) (r2 := 0) (r3 := 0) rfl ?_
        refine wi_zreturn (nx := 13) (r1 := 0) (r2 := 0) (r3 := 0) rfl rfl (by omega) ?_
        refine wk_i ?_
        refine wi_if (cd := .ne) (nx := 48) (r1 := 49) (r2 := 0) (r3 := 0) rfl (by omega) (fun (q31 : 1 ≠ 0) => ?_) (fun (q31 : ¬ (1 ≠ 0)) => by exfalso; omega)
        refine wi_aload_n (i := 0) (x := 236) (nx := 50) (r1 := 0) (r2 := 0) (r3 := 0) rfl rfl ?_
        refine wr_gr (k0 := 236) (x := 244) (nx := 53) (r1 := 11) (r2 := 19) (r3 := 0) rfl rfl (by decide) rfl ⟨rfl, rfl⟩ rfl ?_
        refine wi_iload_n (i := 1) (e := h 239 0) (nx := 54) (r1 := 0) (r2 := 0) (r3 := 0) rfl rfl ?_
        refine wi_aload_n (i := 0) (x := 236) (nx := 55) (r1 := 0) (r2 := 0) (r3 := 0) rfl rfl ?_
        have b32 := gi_b (lo := -9223372036854775808) (hi := 9223372036854775807) g14 236 12 rfl
        refine wr_gi1 (k0 := 236) (x := h14 236 12) (nx := 58) (r1 := 11) (r2 := 12) (r3 := 0) rfl rfl (by decide) rfl ⟨rfl, rfl⟩ rfl (u20 236 12 rfl) ?_
        obtain ⟨i33, ei33⟩ : ∃ q : Nat, (h 239 0) = (q : Int) := ⟨(h 239 0).toNat, by omega⟩
        refine wr_ls (k0 := 244) (a := h 239 0) (f := i33) (x := h14 236 12) (bl := -9223372036854775808) (bh := 9223372036854775807) (nx := 59) (r1 := 0) (r2 := 0) (r3 := 0) rfl (by decide) rfl (by omega) (by omega) (by decide) g20 rfl (by omega) (fun h34 g34 w34 u34 => ?_)
        have F35 := F21.then rfl (FR.rngp (lo := 244) (hi := 244) u34 (by decide))
        refine wi_aload_n (i := 0) (x := 236) (nx := 60) (r1 := 0) (r2 := 0) (r3 := 0) rfl rfl ?_
        refine wr_V (k0 := 236) (rest := []) (as := [.ref 236]) (nx := 63) (r1 := 215) (r2 := 0) (r3 := 11) rfl rfl rfl (of_decide_eq_true rfl) rfl rfl (by decide) rfl rfl (of_decide_eq_true rfl) (of_decide_eq_true rfl) ?_
        have e37 : h34 236 4 = h14 236 4 := ((u34 236 4 (fn_a (by omega) fn_0)).trans (u20 236 4 rfl))
        have e38 : h34 236 3 = h 236 3 := ((u34 236 3 (fn_a (by omega) fn_0)).trans ((u20 236 3 rfl).trans (u14 236 3 rfl)))
        refine ct_215_236 hcr  g34   (show (h34 236 4) ≤ (h34 236 3) by omega) (fun h36 g36 u36 (p36_0 : (h34 236 4) ≤ (h36 236 4)) (p36_1 : (h36 236 4) ≤ (h34 236 3)) (p36_2 : (h36 236 6) = 0 ∨ (h34 236 4) + 1 ≤ (h36 236 4)) => ?_)
        have F39 := F35.then (by decide +kernel) u36
        have b40 := gi_b (lo := 0) (hi := 800) g36 236 4 rfl
        have b41 := gi_b (lo := 0) (hi := 4) g36 236 6 rfl
        refine wk_n ?_
        refine wi_aload_n (i := 0) (x := 236) (nx := 64) (r1 := 0) (r2 := 0) (r3 := 0) rfl rfl ?_
        refine wr_gr (k0 := 236) (x := 239) (nx := 67) (r1 := 11) (r2 := 14) (r3 := 0) rfl rfl (by decide) rfl ⟨rfl, rfl⟩ rfl ?_
        refine wi_bipush (n := 10) (nx := 69) (r1 := 0) (r2 := 0) (r3 := 0) rfl (by decide) ?_
        refine wi_iload_n (i := 1) (e := h 239 0) (nx := 70) (r1 := 0) (r2 := 0) (r3 := 0) rfl rfl ?_
        refine wr_add (nx := 71) (r1 := 0) (r2 := 0) (r3 := 0) rfl (fun e42 (fe42 : e42 = 10 + (h 239 0)) => ?_)
        refine wi_aload_n (i := 0) (x := 236) (nx := 72) (r1 := 0) (r2 := 0) (r3 := 0) rfl rfl ?_
        refine wi_ldc2_w (e := 109099237) (nx := 75) (r1 := 109099237) (r2 := 0) (r3 := 0) rfl (by decide) ?_
        refine wi_iconst (n := 0) (nx := 76) (r1 := 0) (r2 := 0) (r3 := 0) rfl ?_
        refine wi_bipush (n := 99) (nx := 78) (r1 := 0) (r2 := 0) (r3 := 0) rfl (by decide) ?_
        refine wr_V (k0 := 236) (rest := [vi e42, .ref 239]) (as := [.ref 236, vl 109099237, vi 0, vi 99]) (nx := 81) (r1 := 228) (r2 := 3) (r3 := 11) rfl rfl rfl (of_decide_eq_true rfl) rfl rfl (by decide) rfl rfl (of_decide_eq_true rfl) (of_decide_eq_true rfl) ?_
        have e44 : h36 236 3 = h 236 3 := ((u36 236 3 rfl).trans ((u34 236 3 (fn_a (by omega) fn_0)).trans ((u20 236 3 rfl).trans (u14 236 3 rfl))))
        refine ct_228_236 hcr  g36 109099237 0 99 (by omega) (by omega) (by omega) (show (h36 236 4) ≤ (h36 236 3) by omega) (fun h43 z45 g43 u43 (fz45 : 0 ≤ z45 ∧ z45 ≤ 999) (p43_0 : (h36 236 4) ≤ (h43 236 4)) (p43_1 : (h43 236 4) ≤ (h36 236 3)) (p43_2 : 1 ≤ (h43 236 8) ∨ (h36 236 8) = 0) (p43_3 : 1 ≤ (h43 236 8) ∨ (0 ≤ z45 ∧ z45 ≤ 99)) => ?_)
        have F46 := F39.then (by decide +kernel) u43
        have b47 := gi_b (lo := 0) (hi := 800) g43 236 4 rfl
        have e48 : h36 236 8 = h20 236 8 := ((u36 236 8 rfl).trans (u34 236 8 (fn_a (by omega) fn_0)))
        have b49 := gi_b (lo := 0) (hi := 5) g43 236 8 rfl
        refine wk_i ?_
        obtain ⟨i50, ei50⟩ : ∃ q : Nat, e42 = (q : Int) := ⟨(e42).toNat, by omega⟩
        refine wr_is (k0 := 239) (a := e42) (f := i50) (x := z45) (bl := 0) (bh := 999) (nx := 82) (r1 := 0) (r2 := 0) (r3 := 0) rfl (by decide) rfl (by omega) (by omega) (by decide) g43 (gi_rq 10 5 (fun _ => rfl) (by decide +kernel) (by omega)) (by omega) (fun h51 g51 w51 u51 => ?_)
        have F52 := F46.then rfl (FR.idx (p := 10) (q := 14) u51 (by omega))
        refine wi_aload_n (i := 0) (x := 236) (nx := 83) (r1 := 0) (r2 := 0) (r3 := 0) rfl rfl ?_
        refine wr_V (k0 := 236) (rest := []) (as := [.ref 236]) (nx := 86) (r1 := 219) (r2 := 0) (r3 := 11) rfl rfl rfl (of_decide_eq_true rfl) rfl rfl (by decide) rfl rfl (of_decide_eq_true rfl) (of_decide_eq_true rfl) ?_
        refine wi_aload_n (i := 0) (x := 236) (nx := 1) (r1 := 0) (r2 := 0) (r3 := 0) rfl rfl ?_
        refine wr_gi0 (k0 := 236) (x := h43 236 8) (nx := 4) (r1 := 11) (r2 := 8) (r3 := 0) rfl rfl (by decide) rfl ⟨rfl, rfl⟩ rfl (u51 236 8 (fn_a (by omega) fn_0)) ?_
        refine wi_if (cd := .ne) (nx := 7) (r1 := 11) (r2 := 0) (r3 := 0) rfl (by omega) (fun (q53 : (h43 236 8) ≠ 0) => ?_) (fun (q53 : ¬ ((h43 236 8) ≠ 0)) => ?_)
        ·
          refine wi_iconst (n := 0) (nx := 12) (r1 := 0) (r2 := 0) (r3 := 0) rfl ?_
          refine wi_zreturn (nx := 13) (r1 := 0) (r2 := 0) (r3 := 0) rfl rfl (by omega) ?_
          refine wk_i ?_
          refine wi_if (cd := .eq) (nx := 89) (r1 := 99) (r2 := 0) (r3 := 0) rfl (by omega) (fun (q54 : 0 = 0) => ?_) (fun (q54 : ¬ (0 = 0)) => by exfalso; omega)
          refine wi_return (nx := 100) (r1 := 0) (r2 := 0) (r3 := 0) rfl rfl ?_
          have e55 : h51 236 4 = h43 236 4 := (u51 236 4 (fn_a (by omega) fn_0))
          have e56 : h51 236 8 = h43 236 8 := (u51 236 8 (fn_a (by omega) fn_0))
          have e57 : h51 239 5 = h 239 5 := ((u51 239 5 (fn_i (by omega) fn_0)).trans ((u43 239 5 rfl).trans ((u36 239 5 rfl).trans ((u34 239 5 (fn_a (by omega) fn_0)).trans ((u20 239 5 rfl).trans (u14 239 5 rfl))))))
          have e58 : h51 239 7 = h 239 7 := ((u51 239 7 (fn_i (by omega) fn_0)).trans ((u43 239 7 rfl).trans ((u36 239 7 rfl).trans ((u34 239 7 (fn_a (by omega) fn_0)).trans ((u20 239 7 rfl).trans (u14 239 7 rfl))))))
          have e59 : h51 239 15 = h 239 15 := ((u51 239 15 (fn_i (by omega) fn_0)).trans ((u43 239 15 rfl).trans ((u36 239 15 rfl).trans ((u34 239 15 (fn_a (by omega) fn_0)).trans ((u20 239 15 rfl).trans (u14 239 15 rfl))))))
          have e60 : h51 239 16 = h 239 16 := ((u51 239 16 (fn_i (by omega) fn_0)).trans ((u43 239 16 rfl).trans ((u36 239 16 rfl).trans ((u34 239 16 (fn_a (by omega) fn_0)).trans ((u20 239 16 rfl).trans (u14 239 16 rfl))))))
          have e61 : h51 239 17 = h 239 17 := ((u51 239 17 (fn_i (by omega) fn_0)).trans ((u43 239 17 rfl).trans ((u36 239 17 rfl).trans ((u34 239 17 (fn_a (by omega) fn_0)).trans ((u20 239 17 rfl).trans (u14 239 17 rfl))))))
          have e62 : h51 239 18 = h 239 18 := ((u51 239 18 (fn_i (by omega) fn_0)).trans ((u43 239 18 rfl).trans ((u36 239 18 rfl).trans ((u34 239 18 (fn_a (by omega) fn_0)).trans ((u20 239 18 rfl).trans (u14 239 18 rfl))))))
          exact k h51 g51 F52 (show (h 236 4) ≤ (h51 236 4) by omega) (show (h51 236 4) ≤ (h 236 3) by omega) (show 1 ≤ (h51 236 8) ∨ ((h51 239 5) ≤ 9 ∧ 1 ≤ (h51 239 5) ∧ (h51 239 7) ≤ 3 ∧ (h51 239 15) ≤ 6 ∧ (h51 239 16) ≤ 6 ∧ (h51 239 17) ≤ 6 ∧ (h51 239 18) ≤ 6) by omega)
        ·
          refine wi_iconst (n := 1) (nx := 8) (r1 := 0) (r2 := 0) (r3 := 0) rfl ?_
          refine wi_goto (nx := 11) (r1 := 12) (r2 := 0) (r3 := 0) rfl ?_
          refine wi_zreturn (nx := 13) (r1 := 0) (r2 := 0) (r3 := 0) rfl rfl (by omega) ?_
          refine wk_i ?_
          refine wi_if (cd := .eq) (nx := 89) (r1 := 99) (r2 := 0) (r3 := 0) rfl (by omega) (fun (q54 : 1 = 0) => by exfalso; omega) (fun (q54 : ¬ (1 = 0)) => ?_)
          refine wi_aload_n (i := 0) (x := 236) (nx := 90) (r1 := 0) (r2 := 0) (r3 := 0) rfl rfl ?_
          refine wr_gr (k0 := 236) (x := 239) (nx := 93) (r1 := 11) (r2 := 14) (r3 := 0) rfl rfl (by decide) rfl ⟨rfl, rfl⟩ rfl ?_
          refine wi_iconst (n := 0) (nx := 94) (r1 := 0) (r2 := 0) (r3 := 0) rfl ?_
          refine wi_dup2 (nx := 95) (r1 := 0) (r2 := 0) (r3 := 0) rfl rfl rfl ?_
          refine wr_ia (k0 := 239) (a := 0) (f := 0) (x := h 239 0) (nx := 96) (r1 := 0) (r2 := 0) (r3 := 0) rfl (by decide) rfl (by omega) (by omega) (by decide) ((u51 239 0 (fn_i (by omega) fn_0)).trans ((u43 239 0 rfl).trans ((u36 239 0 rfl).trans ((u34 239 0 (fn_a (by omega) fn_0)).trans ((u20 239 0 rfl).trans (u14 239 0 rfl)))))) ?_
          refine wi_iconst (n := 1) (nx := 97) (r1 := 0) (r2 := 0) (r3 := 0) rfl ?_
          refine wr_add (nx := 98) (r1 := 0) (r2 := 0) (r3 := 0) rfl (fun e55 (fe55 : e55 = (h 239 0) + 1) => ?_)
          refine wr_is (k0 := 239) (a := 0) (f := 0) (x := e55) (bl := 0) (bh := 5) (nx := 99) (r1 := 0) (r2 := 0) (r3 := 0) rfl (by decide) rfl (by omega) (by omega) (by decide) g51 rfl (by omega) (fun h56 g56 w56 u56 => ?_)
          have F57 := F52.then rfl u56
          refine wi_return (nx := 100) (r1 := 0) (r2 := 0) (r3 := 0) rfl rfl ?_
          have e58 : h56 236 4 = h43 236 4 := ((u56 236 4 rfl).trans (u51 236 4 (fn_a (by omega) fn_0)))
          have e59 : h56 236 8 = h43 236 8 := ((u56 236 8 rfl).trans (u51 236 8 (fn_a (by omega) fn_0)))
          have e60 : h56 239 5 = h 239 5 := ((u56 239 5 rfl).trans ((u51 239 5 (fn_i (by omega) fn_0)).trans ((u43 239 5 rfl).trans ((u36 239 5 rfl).trans ((u34 239 5 (fn_a (by omega) fn_0)).trans ((u20 239 5 rfl).trans (u14 239 5 rfl)))))))
          have e61 : h56 239 7 = h 239 7 := ((u56 239 7 rfl).trans ((u51 239 7 (fn_i (by omega) fn_0)).trans ((u43 239 7 rfl).trans ((u36 239 7 rfl).trans ((u34 239 7 (fn_a (by omega) fn_0)).trans ((u20 239 7 rfl).trans (u14 239 7 rfl)))))))
          have e62 : h56 239 15 = h 239 15 := ((u56 239 15 rfl).trans ((u51 239 15 (fn_i (by omega) fn_0)).trans ((u43 239 15 rfl).trans ((u36 239 15 rfl).trans ((u34 239 15 (fn_a (by omega) fn_0)).trans ((u20 239 15 rfl).trans (u14 239 15 rfl)))))))
          have e63 : h56 239 16 = h 239 16 := ((u56 239 16 rfl).trans ((u51 239 16 (fn_i (by omega) fn_0)).trans ((u43 239 16 rfl).trans ((u36 239 16 rfl).trans ((u34 239 16 (fn_a (by omega) fn_0)).trans ((u20 239 16 rfl).trans (u14 239 16 rfl)))))))
          have e64 : h56 239 17 = h 239 17 := ((u56 239 17 rfl).trans ((u51 239 17 (fn_i (by omega) fn_0)).trans ((u43 239 17 rfl).trans ((u36 239 17 rfl).trans ((u34 239 17 (fn_a (by omega) fn_0)).trans ((u20 239 17 rfl).trans (u14 239 17 rfl)))))))
          have e65 : h56 239 18 = h 239 18 := ((u56 239 18 rfl).trans ((u51 239 18 (fn_i (by omega) fn_0)).trans ((u43 239 18 rfl).trans ((u36 239 18 rfl).trans ((u34 239 18 (fn_a (by omega) fn_0)).trans ((u20 239 18 rfl).trans (u14 239 18 rfl)))))))
          exact k h56 g56 F57 (show (h 236 4) ≤ (h56 236 4) by omega) (show (h56 236 4) ≤ (h 236 3) by omega) (show 1 ≤ (h56 236 8) ∨ ((h56 239 5) ≤ 9 ∧ 1 ≤ (h56 239 5) ∧ (h56 239 7) ≤ 3 ∧ (h56 239 15) ≤ 6 ∧ (h56 239 16) ≤ 6 ∧ (h56 239 17) ≤ 6 ∧ (h56 239 18) ≤ 6) by omega)
      ·
        refine wi_aload_n (i := 0) (x := 236) (nx := 37) (r1 := 0) (r2 := 0) (r3 := 0) rfl rfl ?_
        refine wi_iconst (n := 3) (nx := 38) (r1 := 0) (r2 := 0) (r3 := 0) rfl ?_
        refine wr_V (k0 := 236) (rest := []) (as := [.ref 236, vi 3]) (nx := 41) (r1 := 224) (r2 := 1) (r3 := 11) rfl rfl rfl (of_decide_eq_true rfl) rfl rfl (by decide) rfl rfl (of_decide_eq_true rfl) (of_decide_eq_true rfl) ?_
        refine ct_224_236 hcr  g20 3 (by omega)  (fun h30 g30 u30 (p30_0 : 1 ≤ (h30 236 8)) => ?_)
        have F31 := F21.then (by decide +kernel) u30
        have b32 := gi_b (lo := 0) (hi := 5) g30 236 8 rfl
        refine wk_n ?_
        refine wi_aload_n (i := 0) (x := 236) (nx := 42) (r1 := 0) (r2 := 0) (r3 := 0) rfl rfl ?_
        refine wr_V (k0 := 236) (rest := []) (as := [.ref 236]) (nx := 45) (r1 := 219) (r2 := 0) (r3 := 11) rfl rfl rfl (of_decide_eq_true rfl) rfl rfl (by decide) rfl rfl (of_decide_eq_true rfl) (of_decide_eq_true rfl) ?_
        refine wi_aload_n (i := 0) (x := 236) (nx := 1) (r1 := 0) (r2 := 0) (r3 := 0) rfl rfl ?_
        refine wr_gi0 (k0 := 236) (x := h30 236 8) (nx := 4) (r1 := 11) (r2 := 8) (r3 := 0) rfl rfl (by decide) rfl ⟨rfl, rfl⟩ rfl rfl ?_
        refine wi_if (cd := .ne) (nx := 7) (r1 := 11) (r2 := 0) (r3 := 0) rfl (by omega) (fun (q33 : (h30 236 8) ≠ 0) => ?_) (fun (q33 : ¬ ((h30 236 8) ≠ 0)) => by exfalso; omega)
        refine wi_iconst (n := 0) (nx := 12) (r1 := 0) (r2 := 0) (r3 := 0) rfl ?_
        refine wi_zreturn (nx := 13) (r1 := 0) (r2 := 0) (r3 := 0) rfl rfl (by omega) ?_
        refine wk_i ?_
        refine wi_if (cd := .ne) (nx := 48) (r1 := 49) (r2 := 0) (r3 := 0) rfl (by omega) (fun (q34 : 0 ≠ 0) => by exfalso; omega) (fun (q34 : ¬ (0 ≠ 0)) => ?_)
        refine wi_return (nx := 49) (r1 := 0) (r2 := 0) (r3 := 0) rfl rfl ?_
        have e35 : h30 236 4 = h14 236 4 := ((u30 236 4 rfl).trans (u20 236 4 rfl))
        have e36 : h30 239 5 = h 239 5 := ((u30 239 5 rfl).trans ((u20 239 5 rfl).trans (u14 239 5 rfl)))
        have e37 : h30 239 7 = h 239 7 := ((u30 239 7 rfl).trans ((u20 239 7 rfl).trans (u14 239 7 rfl)))
        have e38 : h30 239 15 = h 239 15 := ((u30 239 15 rfl).trans ((u20 239 15 rfl).trans (u14 239 15 rfl)))
        have e39 : h30 239 16 = h 239 16 := ((u30 239 16 rfl).trans ((u20 239 16 rfl).trans (u14 239 16 rfl)))
        have e40 : h30 239 17 = h 239 17 := ((u30 239 17 rfl).trans ((u20 239 17 rfl).trans (u14 239 17 rfl)))
        have e41 : h30 239 18 = h 239 18 := ((u30 239 18 rfl).trans ((u20 239 18 rfl).trans (u14 239 18 rfl)))
        exact k h30 g30 F31 (show (h 236 4) ≤ (h30 236 4) by omega) (show (h30 236 4) ≤ (h 236 3) by omega) (show 1 ≤ (h30 236 8) ∨ ((h30 239 5) ≤ 9 ∧ 1 ≤ (h30 239 5) ∧ (h30 239 7) ≤ 3 ∧ (h30 239 15) ≤ 6 ∧ (h30 239 16) ≤ 6 ∧ (h30 239 17) ≤ 6 ∧ (h30 239 18) ≤ 6) by omega)
  ·
    refine wi_aload_n (i := 0) (x := 236) (nx := 11) (r1 := 0) (r2 := 0) (r3 := 0) rfl rfl ?_
    refine wi_iconst (n := 5) (nx := 12) (r1 := 0) (r2 := 0) (r3 := 0) rfl ?_
    refine wr_V (k0 := 236) (rest := []) (as := [.ref 236, vi 5]) (nx := 15) (r1 := 224) (r2 := 1) (r3 := 11) rfl rfl rfl (of_decide_eq_true rfl) rfl rfl (by decide) rfl rfl (of_decide_eq_true rfl) (of_decide_eq_true rfl) ?_
    refine ct_224_236 hcr  g 5 (by omega)  (fun h12 g12 u12 (p12_0 : 1 ≤ (h12 236 8)) => ?_)
    have F13 := F0.then (by decide +kernel) u12
    have b14 := gi_b (lo := 0) (hi := 5) g12 236 8 rfl
    refine wk_n ?_
    refine wi_aload_n (i := 0) (x := 236) (nx := 16) (r1 := 0) (r2 := 0) (r3 := 0) rfl rfl ?_
    refine wr_V (k0 := 236) (rest := []) (as := [.ref 236]) (nx := 19) (r1 := 219) (r2 := 0) (r3 := 11) rfl rfl rfl (of_decide_eq_true rfl) rfl rfl (by decide) rfl rfl (of_decide_eq_true rfl) (of_decide_eq_true rfl) ?_
    refine wi_aload_n (i := 0) (x := 236) (nx := 1) (r1 := 0) (r2 := 0) (r3 := 0) rfl rfl ?_
    refine wr_gi0 (k0 := 236) (x := h12 236 8) (nx := 4) (r1 := 11) (r2 := 8) (r3 := 0) rfl rfl (by decide) rfl ⟨rfl, rfl⟩ rfl rfl ?_
    refine wi_if (cd := .ne) (nx := 7) (r1 := 11) (r2 := 0) (r3 := 0) rfl (by omega) (fun (q15 : (h12 236 8) ≠ 0) => ?_) (fun (q15 : ¬ ((h12 236 8) ≠ 0)) => by exfalso; omega)
    refine wi_iconst (n := 0) (nx := 12) (r1 := 0) (r2 := 0) (r3 := 0) rfl ?_
    refine wi_zreturn (nx := 13) (r1 := 0) (r2 := 0) (r3 := 0) rfl rfl (by omega) ?_
    refine wk_i ?_
    refine wi_if (cd := .eq) (nx := 22) (r1 := 26) (r2 := 0) (r3 := 0) rfl (by omega) (fun (q16 : 0 = 0) => ?_) (fun (q16 : ¬ (0 = 0)) => by exfalso; omega)
    refine wi_aload_n (i := 0) (x := 236) (nx := 27) (r1 := 0) (r2 := 0) (r3 := 0) rfl rfl ?_
    refine wr_V (k0 := 236) (rest := []) (as := [.ref 236]) (nx := 30) (r1 := 219) (r2 := 0) (r3 := 11) rfl rfl rfl (of_decide_eq_true rfl) rfl rfl (by decide) rfl rfl (of_decide_eq_true rfl) (of_decide_eq_true rfl) ?_
    refine wi_aload_n (i := 0) (x := 236) (nx := 1) (r1 := 0) (r2 := 0) (r3 := 0) rfl rfl ?_
    refine wr_gi0 (k0 := 236) (x := h12 236 8) (nx := 4) (r1 := 11) (r2 := 8) (r3 := 0) rfl rfl (by decide) rfl ⟨rfl, rfl⟩ rfl rfl ?_
    refine wi_if (cd := .ne) (nx := 7) (r1 := 11) (r2 := 0) (r3 := 0) rfl (by omega) (fun (q17 : (h12 236 8) ≠ 0) => ?_) (fun (q17 : ¬ ((h12 236 8) ≠ 0)) => by exfalso; omega)
    refine wi_iconst (n := 0) (nx := 12) (r1 := 0) (r2 := 0) (r3 := 0) rfl ?_
    refine wi_zreturn (nx := 13) (r1 := 0) (r2 := 0) (r3 := 0) rfl rfl (by omega) ?_
    refine wk_i ?_
    refine wi_zreturn (nx := 31) (r1 := 0) (r2 := 0) (r3 := 0) rfl rfl (by omega) ?_
    refine wk_i ?_
    refine wi_if (cd := .ne) (nx := 16) (r1 := 17) (r2 := 0) (r3 := 0) rfl (by omega) (fun (q18 : 0 ≠ 0) => by exfalso; omega) (fun (q18 : ¬ (0 ≠ 0)) => ?_)
    refine wi_return (nx := 17) (r1 := 0) (r2 := 0) (r3 := 0) rfl rfl ?_
    have e19 : h12 236 4 = h 236 4 := (u12 236 4 rfl)
    have e20 : h12 239 5 = h 239 5 := (u12 239 5 rfl)
    have e21 : h12 239 7 = h 239 7 := (u12 239 7 rfl)
    have e22 : h12 239 15 = h 239 15 := (u12 239 15 rfl)
    have e23 : h12 239 16 = h 239 16 := (u12 239 16 rfl)
    have e24 : h12 239 17 = h 239 17 := (u12 239 17 rfl)
    have e25 : h12 239 18 = h 239 18 := (u12 239 18 rfl)
    exact k h12 g12 F13 (show (h 236 4) ≤ (h12 236 4) by omega) (show (h12 236 4) ≤ (h 236 3) by omega) (show 1 ≤ (h12 236 8) ∨ ((h12 239 5) ≤ 9 ∧ 1 ≤ (h12 239 5) ∧ (h12 239 7) ≤ 3 ∧ (h12 239 15) ≤ 6 ∧ (h12 239 16) ≤ 6 ∧ (h12 239 17) ≤ 6 ∧ (h12 239 18) ≤ 6) by omega)
