-- method 235: Model.mustSign(I)V
set_option maxRecDepth 100000 in
set_option maxHeartbeats 100000000 in
theorem ct_235_236_L59 {L : Nat} {xs : Nat → Int32} {d b c : Nat} {h : hp} {cr : Nat → Nat → Option Nat} {Q : hp_Q} (hcr : CR cr)  {tB : Nat → Int} {tn tp : Int} (g : GI h)   (pp0 : h 236 4 ≤ h 236 3) (pp1 : 0 ≤ tp) (pp2 : tp ≤ tn) (pp3 : tp ≤ tk_nx tB tn tp ∧ tk_nx tB tn tp ≤ tn) (pp4 : 1 ≤ h 236 8 ∨ (h 236 4 = tk_nx tB tn tp ∧ h 236 5 = tk_st tB tn tp ∧ TKk tB tn tp (h 236 6) (h 236 7) (h 236 12))) (xq0 : RefB tB tn h) (k : ∀ (h2 : hp) , GI h2 → FR [(236, 236, some (4, 4)), (236, 236, some (5, 5)), (236, 236, some (6, 6)), (236, 236, some (7, 7)), (236, 236, some (8, 8)), (236, 236, some (9, 9)), (236, 236, some (12, 12))] h h2 → ((1 ≤ h 236 8 ∧ h2 236 8 = h 236 8 ∧ h2 236 9 = h 236 9) ∨ (h 236 8 = 0 ∧ tk_kd tB tn tp = 3 ∧ h2 236 8 = h 236 8 ∧ h2 236 9 = h 236 9 ∧ (h2 236 4 = tk_nx tB tn (tk_nx tB tn tp) ∧ h2 236 5 = tk_st tB tn (tk_nx tB tn tp) ∧ TKk tB tn (tk_nx tB tn tp) (h2 236 6) (h2 236 7) (h2 236 12))) ∨ (h 236 8 = 0 ∧ tk_kd tB tn tp ≠ 3 ∧ h2 236 8 = 1 ∧ h2 236 9 = tk_st tB tn tp)) → (h 236 4 ≤ h2 236 4) → (h2 236 4 ≤ h 236 3) → (1 ≤ h2 236 8 ∨ h 236 8 = 0) → (1 ≤ h2 236 8 ∨ h2 236 6 = 0 ∨ h 236 4 + 1 ≤ h2 236 4) → Q (.inl none) (hp_w h2 cr) b c) : wp (md_xa (L, xs)) (d + 2) 235 (0, [(0, .ref 236), (1, vi 59)], [], hp_w h cr, b, c) Q := by
  have F0 : FR [(236, 236, some (4, 4)), (236, 236, some (5, 5)), (236, 236, some (6, 6)), (236, 236, some (7, 7)), (236, 236, some (8, 8)), (236, 236, some (9, 9)), (236, 236, some (12, 12))] h h := FR.refl
  have tb_1 : h 236 3 = tn := xq0.2.1
  have tb_2 : 0 ≤ tn ∧ tn ≤ 800 := xq0.2.2
  have b1 := gi_b (lo := 0) (hi := 800) g 236 4 rfl
  have b2 := gi_b (lo := 0) (hi := 800) g 236 3 rfl
  have b3 := gi_b (lo := 0) (hi := 5) g 236 8 rfl
  have b4 := gi_b (lo := 0) (hi := 800) g 236 5 rfl
  have b5 := gi_b (lo := 0) (hi := 4) g 236 6 rfl
  have b6 := gi_b (lo := 0) (hi := 999) g 236 7 rfl
  have b7 := gi_b (lo := -9223372036854775808) (hi := 9223372036854775807) g 236 12 rfl
  refine wi_aload_n (i := 0) (x := 236) (nx := 1) (r1 := 0) (r2 := 0) (r3 := 0) rfl rfl ?_
  refine wr_V (k0 := 236) (rest := []) (as := [.ref 236]) (nx := 4) (r1 := 219) (r2 := 0) (r3 := 11) rfl rfl rfl (of_decide_eq_true rfl) rfl rfl (by decide) rfl rfl (of_decide_eq_true rfl) (of_decide_eq_true rfl) ?_
  refine wi_aload_n (i := 0) (x := 236) (nx := 1) (r1 := 0) (r2 := 0) (r3 := 0) rfl rfl ?_
  refine wr_gi0 (k0 := 236) (x := h 236 8) (nx := 4) (r1 := 11) (r2 := 8) (r3 := 0) rfl rfl (by decide) rfl ⟨rfl, rfl⟩ rfl rfl ?_
  refine wi_if (cd := .ne) (nx := 7) (r1 := 11) (r2 := 0) (r3 := 0) rfl (by omega) (fun (q8 : (h 236 8) ≠ 0) => ?_) (fun (q8 : ¬ ((h 236 8) ≠ 0)) => ?_)
  ·
    replace q8 : 0 + 1 ≤ (h 236 8) := by omega
    refine wi_iconst (n := 0) (nx := 12) (r1 := 0) (r2 := 0) (r3 := 0) rfl ?_
    refine wi_zreturn (nx := 13) (r1 := 0) (r2 := 0) (r3 := 0) rfl rfl (by omega) ?_
    refine wk_i ?_
    refine wi_if (cd := .eq) (nx := 7) (r1 := 20) (r2 := 0) (r3 := 0) rfl (by omega) (fun (q10 : 0 = 0) => ?_) (fun (q10 : ¬ (0 = 0)) => by exfalso; omega)
    refine wi_aload_n (i := 0) (x := 236) (nx := 21) (r1 := 0) (r2 := 0) (r3 := 0) rfl rfl ?_
    refine wr_V (k0 := 236) (rest := []) (as := [.ref 236]) (nx := 24) (r1 := 219) (r2 := 0) (r3 := 11) rfl rfl rfl (of_decide_eq_true rfl) rfl rfl (by decide) rfl rfl (of_decide_eq_true rfl) (of_decide_eq_true rfl) ?_
    refine wi_aload_n (i := 0) (x := 236) (nx := 1) (r1 := 0) (r2 := 0) (r3 := 0) rfl rfl ?_
    refine wr_gi0 (k0 := 236) (x := h 236 8) (nx := 4) (r1 := 11) (r2 := 8) (r3 := 0) rfl rfl (by decide) rfl ⟨rfl, rfl⟩ rfl rfl ?_
    refine wi_if (cd := .ne) (nx := 7) (r1 := 11) (r2 := 0) (r3 := 0) rfl (by omega) (fun (q11 : (h 236 8) ≠ 0) => ?_) (fun (q11 : ¬ ((h 236 8) ≠ 0)) => by exfalso; omega)
    refine wi_iconst (n := 0) (nx := 12) (r1 := 0) (r2 := 0) (r3 := 0) rfl ?_
    refine wi_zreturn (nx := 13) (r1 := 0) (r2 := 0) (r3 := 0) rfl rfl (by omega) ?_
    refine wk_i ?_
    refine wi_if (cd := .eq) (nx := 27) (r1 := 31) (r2 := 0) (r3 := 0) rfl (by omega) (fun (q13 : 0 = 0) => ?_) (fun (q13 : ¬ (0 = 0)) => by exfalso; omega)
    refine wi_return (nx := 32) (r1 := 0) (r2 := 0) (r3 := 0) rfl rfl ?_
    have b14 := gi_b (lo := -2147483648) (hi := 2147483647) g 236 9 rfl
    exact k h g F0 (show (1 ≤ (h 236 8) ∧ (h 236 8) = (h 236 8) ∧ (h 236 9) = (h 236 9)) ∨ ((h 236 8) = 0 ∧ tk_kd tB tn tp = 3 ∧ (h 236 8) = (h 236 8) ∧ (h 236 9) = (h 236 9) ∧ ((h 236 4) = tk_nx tB tn (tk_nx tB tn tp) ∧ (h 236 5) = tk_st tB tn (tk_nx tB tn tp) ∧ TKk tB tn (tk_nx tB tn tp) ((h 236 6)) ((h 236 7)) ((h 236 12)))) ∨ ((h 236 8) = 0 ∧ tk_kd tB tn tp ≠ 3 ∧ (h 236 8) = 1 ∧ (h 236 9) = tk_st tB tn tp) from (Or.inl (by omega))) (show (h 236 4) ≤ (h 236 4) by omega) (show (h 236 4) ≤ (h 236 3) by omega) (show 1 ≤ (h 236 8) ∨ (h 236 8) = 0 from (Or.inl (by omega))) (show 1 ≤ (h 236 8) ∨ (h 236 6) = 0 ∨ (h 236 4) + 1 ≤ (h 236 4) from (Or.inl (by omega)))
  ·
    have kf9 := (pp4.resolve_left (by omega)).2.2
    refine wi_iconst (n := 1) (nx := 8) (r1 := 0) (r2 := 0) (r3 := 0) rfl ?_
    refine wi_goto (nx := 11) (r1 := 12) (r2 := 0) (r3 := 0) rfl ?_
    refine wi_zreturn (nx := 13) (r1 := 0) (r2 := 0) (r3 := 0) rfl rfl (by omega) ?_
    refine wk_i ?_
    refine wi_if (cd := .eq) (nx := 7) (r1 := 20) (r2 := 0) (r3 := 0) rfl (by omega) (fun (q10 : 1 = 0) => by exfalso; omega) (fun (q10 : ¬ (1 = 0)) => ?_)
    refine wi_aload_n (i := 0) (x := 236) (nx := 8) (r1 := 0) (r2 := 0) (r3 := 0) rfl rfl ?_
    refine wi_iload_n (i := 1) (e := 59) (nx := 9) (r1 := 0) (r2 := 0) (r3 := 0) rfl rfl ?_
    refine wr_V (k0 := 236) (rest := []) (as := [.ref 236, vi 59]) (nx := 12) (r1 := 236) (r2 := 1) (r3 := 11) rfl rfl rfl (of_decide_eq_true rfl) rfl rfl (by decide) rfl rfl (of_decide_eq_true rfl) (of_decide_eq_true rfl) ?_
    refine wi_aload_n (i := 0) (x := 236) (nx := 1) (r1 := 0) (r2 := 0) (r3 := 0) rfl rfl ?_
    refine wr_gi0 (k0 := 236) (x := h 236 8) (nx := 4) (r1 := 11) (r2 := 8) (r3 := 0) rfl rfl (by decide) rfl ⟨rfl, rfl⟩ rfl rfl ?_
    refine wi_if (cd := .ne) (nx := 7) (r1 := 27) (r2 := 0) (r3 := 0) rfl (by omega) (fun (q11 : (h 236 8) ≠ 0) => by exfalso; omega) (fun (q11 : ¬ ((h 236 8) ≠ 0)) => ?_)
    have kf12 := (pp4.resolve_left (by omega)).2.2
    refine wi_aload_n (i := 0) (x := 236) (nx := 8) (r1 := 0) (r2 := 0) (r3 := 0) rfl rfl ?_
    refine wr_gi0 (k0 := 236) (x := h 236 6) (nx := 11) (r1 := 11) (r2 := 6) (r3 := 0) rfl rfl (by decide) rfl ⟨rfl, rfl⟩ rfl rfl ?_
    refine wi_iconst (n := 3) (nx := 12) (r1 := 0) (r2 := 0) (r3 := 0) rfl ?_
    refine wi_icmp (cd := .ne) (nx := 15) (r1 := 27) (r2 := 0) (r3 := 0) rfl (by omega) (by omega) (fun (q13 : (h 236 6) ≠ 3) => ?_) (fun (q13 : ¬ ((h 236 6) ≠ 3)) => ?_)
    ·
      try have kf14 := TKk.n3 (B := tB) (n := tn) (p := tp) (a6 := h 236 6) (by assumption) (by omega)
      refine wi_iconst (n := 0) (nx := 28) (r1 := 0) (r2 := 0) (r3 := 0) rfl ?_
      refine wi_zreturn (nx := 29) (r1 := 0) (r2 := 0) (r3 := 0) rfl rfl (by omega) ?_
      refine wk_i ?_
      refine wi_if (cd := .ne) (nx := 15) (r1 := 20) (r2 := 0) (r3 := 0) rfl (by omega) (fun (q15 : 0 ≠ 0) => by exfalso; omega) (fun (q15 : ¬ (0 ≠ 0)) => ?_)
      refine wi_aload_n (i := 0) (x := 236) (nx := 16) (r1 := 0) (r2 := 0) (r3 := 0) rfl rfl ?_
      refine wi_iconst (n := 1) (nx := 17) (r1 := 0) (r2 := 0) (r3 := 0) rfl ?_
      refine wr_V (k0 := 236) (rest := []) (as := [.ref 236, vi 1]) (nx := 20) (r1 := 224) (r2 := 1) (r3 := 11) rfl rfl rfl (of_decide_eq_true rfl) rfl rfl (by decide) rfl rfl (of_decide_eq_true rfl) (of_decide_eq_true rfl) ?_
      refine ct_224_236 hcr  g 1 (by omega)  (fun h16 g16 u16 (p16_0 : 1 ≤ (h16 236 8)) (p16_1 : (1 ≤ (h 236 8) ∧ (h16 236 8) = (h 236 8) ∧ (h16 236 9) = (h 236 9)) ∨ ((h 236 8) = 0 ∧ (h16 236 9) = (h 236 5) ∧ (((h 236 6) = 4 ∧ (h16 236 8) = 1) ∨ ((h 236 6) ≠ 4 ∧ (h16 236 8) = 1)))) => ?_)
      have F17 := F0.then (by decide +kernel) u16
      have b18 := gi_b (lo := 0) (hi := 5) g16 236 8 rfl
      have b19 := gi_b (lo := -2147483648) (hi := 2147483647) g 236 9 rfl
      have b20 := gi_b (lo := -2147483648) (hi := 2147483647) g16 236 9 rfl
      refine wk_n ?_
      refine wi_aload_n (i := 0) (x := 236) (nx := 21) (r1 := 0) (r2 := 0) (r3 := 0) rfl rfl ?_
      refine wr_V (k0 := 236) (rest := []) (as := [.ref 236]) (nx := 24) (r1 := 219) (r2 := 0) (r3 := 11) rfl rfl rfl (of_decide_eq_true rfl) rfl rfl (by decide) rfl rfl (of_decide_eq_true rfl) (of_decide_eq_true rfl) ?_
      refine wi_aload_n (i := 0) (x := 236) (nx := 1) (r1 := 0) (r2 := 0) (r3 := 0) rfl rfl ?_
      refine wr_gi0 (k0 := 236) (x := h16 236 8) (nx := 4) (r1 := 11) (r2 := 8) (r3 := 0) rfl rfl (by decide) rfl ⟨rfl, rfl⟩ rfl rfl ?_
      refine wi_if (cd := .ne) (nx := 7) (r1 := 11) (r2 := 0) (r3 := 0) rfl (by omega) (fun (q21 : (h16 236 8) ≠ 0) => ?_) (fun (q21 : ¬ ((h16 236 8) ≠ 0)) => by exfalso; omega)
      refine wi_iconst (n := 0) (nx := 12) (r1 := 0) (r2 := 0) (r3 := 0) rfl ?_
      refine wi_zreturn (nx := 13) (r1 := 0) (r2 := 0) (r3 := 0) rfl rfl (by omega) ?_
      refine wk_i ?_
      refine wi_if (cd := .eq) (nx := 27) (r1 := 31) (r2 := 0) (r3 := 0) rfl (by omega) (fun (q23 : 0 = 0) => ?_) (fun (q23 : ¬ (0 = 0)) => by exfalso; omega)
      refine wi_return (nx := 32) (r1 := 0) (r2 := 0) (r3 := 0) rfl rfl ?_
      have e24 : h16 236 4 = h 236 4 := (u16 236 4 rfl)
      have e25 : h16 236 5 = h 236 5 := (u16 236 5 rfl)
      have e26 : h16 236 6 = h 236 6 := (u16 236 6 rfl)
      have e27 : h16 236 7 = h 236 7 := (u16 236 7 rfl)
      have e28 : h16 236 12 = h 236 12 := (u16 236 12 rfl)
      exact k h16 g16 F17 (show (1 ≤ (h 236 8) ∧ (h16 236 8) = (h 236 8) ∧ (h16 236 9) = (h 236 9)) ∨ ((h 236 8) = 0 ∧ tk_kd tB tn tp = 3 ∧ (h16 236 8) = (h 236 8) ∧ (h16 236 9) = (h 236 9) ∧ ((h16 236 4) = tk_nx tB tn (tk_nx tB tn tp) ∧ (h16 236 5) = tk_st tB tn (tk_nx tB tn tp) ∧ TKk tB tn (tk_nx tB tn tp) ((h16 236 6)) ((h16 236 7)) ((h16 236 12)))) ∨ ((h 236 8) = 0 ∧ tk_kd tB tn tp ≠ 3 ∧ (h16 236 8) = 1 ∧ (h16 236 9) = tk_st tB tn tp) from (Or.inr (Or.inr (by omega)))) (show (h 236 4) ≤ (h16 236 4) by omega) (show (h16 236 4) ≤ (h 236 3) by omega) (show 1 ≤ (h16 236 8) ∨ (h 236 8) = 0 from (Or.inl (by omega))) (show 1 ≤ (h16 236 8) ∨ (h16 236 6) = 0 ∨ (h 236 4) + 1 ≤ (h16 236 4) from (Or.inl (by omega)))
    ·
      refine wi_aload_n (i := 0) (x := 236) (nx := 16) (r1 := 0) (r2 := 0) (r3 := 0) rfl rfl ?_
      refine wr_gi0 (k0 := 236) (x := h 236 7) (nx := 19) (r1 := 11) (r2 := 7) (r3 := 0) rfl rfl (by decide) rfl ⟨rfl, rfl⟩ rfl rfl ?_
      refine wi_iload_n (i := 1) (e := 59) (nx := 20) (r1 := 0) (r2 := 0) (r3 := 0) rfl rfl ?_
      refine wi_icmp (cd := .ne) (nx := 23) (r1 := 27) (r2 := 0) (r3 := 0) rfl (by omega) (by omega) (fun (q15 : (h 236 7) ≠ 59) => ?_) (fun (q15 : ¬ ((h 236 7) ≠ 59)) => ?_)
      ·
        try have kf16 := TKk.t3 (B := tB) (n := tn) (p := tp) (a7 := h 236 7) (by assumption) (by omega)
        refine wi_iconst (n := 0) (nx := 28) (r1 := 0) (r2 := 0) (r3 := 0) rfl ?_
        refine wi_zreturn (nx := 29) (r1 := 0) (r2 := 0) (r3 := 0) rfl rfl (by omega) ?_
        refine wk_i ?_
        refine wi_if (cd := .ne) (nx := 15) (r1 := 20) (r2 := 0) (r3 := 0) rfl (by omega) (fun (q17 : 0 ≠ 0) => by exfalso; omega) (fun (q17 : ¬ (0 ≠ 0)) => ?_)
        refine wi_aload_n (i := 0) (x := 236) (nx := 16) (r1 := 0) (r2 := 0) (r3 := 0) rfl rfl ?_
        refine wi_iconst (n := 1) (nx := 17) (r1 := 0) (r2 := 0) (r3 := 0) rfl ?_
        refine wr_V (k0 := 236) (rest := []) (as := [.ref 236, vi 1]) (nx := 20) (r1 := 224) (r2 := 1) (r3 := 11) rfl rfl rfl (of_decide_eq_true rfl) rfl rfl (by decide) rfl rfl (of_decide_eq_true rfl) (of_decide_eq_true rfl) ?_
        refine ct_224_236 hcr  g 1 (by omega)  (fun h18 g18 u18 (p18_0 : 1 ≤ (h18 236 8)) (p18_1 : (1 ≤ (h 236 8) ∧ (h18 236 8) = (h 236 8) ∧ (h18 236 9) = (h 236 9)) ∨ ((h 236 8) = 0 ∧ (h18 236 9) = (h 236 5) ∧ (((h 236 6) = 4 ∧ (h18 236 8) = 1) ∨ ((h 236 6) ≠ 4 ∧ (h18 236 8) = 1)))) => ?_)
        have F19 := F0.then (by decide +kernel) u18
        have b20 := gi_b (lo := 0) (hi := 5) g18 236 8 rfl
        have b21 := gi_b (lo := -2147483648) (hi := 2147483647) g 236 9 rfl
        have b22 := gi_b (lo := -2147483648) (hi := 2147483647) g18 236 9 rfl
        refine wk_n ?_
        refine wi_aload_n (i := 0) (x := 236) (nx := 21) (r1 := 0) (r2 := 0) (r3 := 0) rfl rfl ?_
        refine wr_V (k0 := 236) (rest := []) (as := [.ref 236]) (nx := 24) (r1 := 219) (r2 := 0) (r3 := 11) rfl rfl rfl (of_decide_eq_true rfl) rfl rfl (by decide) rfl rfl (of_decide_eq_true rfl) (of_decide_eq_true rfl) ?_
        refine wi_aload_n (i := 0) (x := 236) (nx := 1) (r1 := 0) (r2 := 0) (r3 := 0) rfl rfl ?_
        refine wr_gi0 (k0 := 236) (x := h18 236 8) (nx := 4) (r1 := 11) (r2 := 8) (r3 := 0) rfl rfl (by decide) rfl ⟨rfl, rfl⟩ rfl rfl ?_
        refine wi_if (cd := .ne) (nx := 7) (r1 := 11) (r2 := 0) (r3 := 0) rfl (by omega) (fun (q23 : (h18 236 8) ≠ 0) => ?_) (fun (q23 : ¬ ((h18 236 8) ≠ 0)) => by exfalso; omega)
        refine wi_iconst (n := 0) (nx := 12) (r1 := 0) (r2 := 0) (r3 := 0) rfl ?_
        refine wi_zreturn (nx := 13) (r1 := 0) (r2 := 0) (r3 := 0) rfl rfl (by omega) ?_
        refine wk_i ?_
        refine wi_if (cd := .eq) (nx := 27) (r1 := 31) (r2 := 0) (r3 := 0) rfl (by omega) (fun (q25 : 0 = 0) => ?_) (fun (q25 : ¬ (0 = 0)) => by exfalso; omega)
        refine wi_return (nx := 32) (r1 := 0) (r2 := 0) (r3 := 0) rfl rfl ?_
        have e26 : h18 236 4 = h 236 4 := (u18 236 4 rfl)
        have e27 : h18 236 5 = h 236 5 := (u18 236 5 rfl)
        have e28 : h18 236 6 = h 236 6 := (u18 236 6 rfl)
        have e29 : h18 236 7 = h 236 7 := (u18 236 7 rfl)
        have e30 : h18 236 12 = h 236 12 := (u18 236 12 rfl)
        exact k h18 g18 F19 (show (1 ≤ (h 236 8) ∧ (h18 236 8) = (h 236 8) ∧ (h18 236 9) = (h 236 9)) ∨ ((h 236 8) = 0 ∧ tk_kd tB tn tp = 3 ∧ (h18 236 8) = (h 236 8) ∧ (h18 236 9) = (h 236 9) ∧ ((h18 236 4) = tk_nx tB tn (tk_nx tB tn tp) ∧ (h18 236 5) = tk_st tB tn (tk_nx tB tn tp) ∧ TKk tB tn (tk_nx tB tn tp) ((h18 236 6)) ((h18 236 7)) ((h18 236 12)))) ∨ ((h 236 8) = 0 ∧ tk_kd tB tn tp ≠ 3 ∧ (h18 236 8) = 1 ∧ (h18 236 9) = tk_st tB tn tp) from (Or.inr (Or.inr (by omega)))) (show (h 236 4) ≤ (h18 236 4) by omega) (show (h18 236 4) ≤ (h 236 3) by omega) (show 1 ≤ (h18 236 8) ∨ (h 236 8) = 0 from (Or.inl (by omega))) (show 1 ≤ (h18 236 8) ∨ (h18 236 6) = 0 ∨ (h 236 4) + 1 ≤ (h18 236 4) from (Or.inl (by omega)))
      ·
        try have kf16 := TKk.s3 (B := tB) (n := tn) (p := tp) (a7 := h 236 7) (by assumption) (by omega) (by omega)
        refine wi_iconst (n := 1) (nx := 24) (r1 := 0) (r2 := 0) (r3 := 0) rfl ?_
        refine wi_goto (nx := 27) (r1 := 28) (r2 := 0) (r3 := 0) rfl ?_
        refine wi_zreturn (nx := 29) (r1 := 0) (r2 := 0) (r3 := 0) rfl rfl (by omega) ?_
        refine wk_i ?_
        refine wi_if (cd := .ne) (nx := 15) (r1 := 20) (r2 := 0) (r3 := 0) rfl (by omega) (fun (q17 : 1 ≠ 0) => ?_) (fun (q17 : ¬ (1 ≠ 0)) => by exfalso; omega)
        refine wi_aload_n (i := 0) (x := 236) (nx := 21) (r1 := 0) (r2 := 0) (r3 := 0) rfl rfl ?_
        refine wr_V (k0 := 236) (rest := []) (as := [.ref 236]) (nx := 24) (r1 := 219) (r2 := 0) (r3 := 11) rfl rfl rfl (of_decide_eq_true rfl) rfl rfl (by decide) rfl rfl (of_decide_eq_true rfl) (of_decide_eq_true rfl) ?_
        refine wi_aload_n (i := 0) (x := 236) (nx := 1) (r1 := 0) (r2 := 0) (r3 := 0) rfl rfl ?_
        refine wr_gi0 (k0 := 236) (x := h 236 8) (nx := 4) (r1 := 11) (r2 := 8) (r3 := 0) rfl rfl (by decide) rfl ⟨rfl, rfl⟩ rfl rfl ?_
        refine wi_if (cd := .ne) (nx := 7) (r1 := 11) (r2 := 0) (r3 := 0) rfl (by omega) (fun (q18 : (h 236 8) ≠ 0) => by exfalso; omega) (fun (q18 : ¬ ((h 236 8) ≠ 0)) => ?_)
        have kf19 := (pp4.resolve_left (by omega)).2.2
        refine wi_iconst (n := 1) (nx := 8) (r1 := 0) (r2 := 0) (r3 := 0) rfl ?_
        refine wi_goto (nx := 11) (r1 := 12) (r2 := 0) (r3 := 0) rfl ?_
        refine wi_zreturn (nx := 13) (r1 := 0) (r2 := 0) (r3 := 0) rfl rfl (by omega) ?_
        refine wk_i ?_
        refine wi_if (cd := .eq) (nx := 27) (r1 := 31) (r2 := 0) (r3 := 0) rfl (by omega) (fun (q20 : 1 = 0) => by exfalso; omega) (fun (q20 : ¬ (1 = 0)) => ?_)
        refine wi_aload_n (i := 0) (x := 236) (nx := 28) (r1 := 0) (r2 := 0) (r3 := 0) rfl rfl ?_
        refine wr_V (k0 := 236) (rest := []) (as := [.ref 236]) (nx := 31) (r1 := 215) (r2 := 0) (r3 := 11) rfl rfl rfl (of_decide_eq_true rfl) rfl rfl (by decide) rfl rfl (of_decide_eq_true rfl) (of_decide_eq_true rfl) ?_
        refine ct_215_236 hcr  g   (show (h 236 4) ≤ (h 236 3) by omega) (show (h 236 4) = (tk_nx tB tn tp) by omega) (show 0 ≤ (tk_nx tB tn tp) by omega) (show (tk_nx tB tn tp) ≤ tn by omega) xq0 (fun h21 g21 u21 (p21_0 : (h 236 4) ≤ (h21 236 4)) (p21_1 : (h21 236 4) ≤ (h 236 3)) (p21_2 : ((h21 236 4) = tk_nx tB tn (tk_nx tB tn tp) ∧ (h21 236 5) = tk_st tB tn (tk_nx tB tn tp) ∧ TKk tB tn (tk_nx tB tn tp) ((h21 236 6)) ((h21 236 7)) ((h21 236 12)))) (p21_3 : (tk_nx tB tn tp) ≤ tk_nx tB tn (tk_nx tB tn tp) ∧ tk_nx tB tn (tk_nx tB tn tp) ≤ tn) => ?_)
        have F22 := F0.then (by decide +kernel) u21
        have b23 := gi_b (lo := 0) (hi := 800) g21 236 4 rfl
        have b24 := gi_b (lo := 0) (hi := 800) g21 236 5 rfl
        have b25 := gi_b (lo := 0) (hi := 4) g21 236 6 rfl
        have b26 := gi_b (lo := 0) (hi := 999) g21 236 7 rfl
        have b27 := gi_b (lo := -9223372036854775808) (hi := 9223372036854775807) g21 236 12 rfl
        have tkk28 := p21_2.2.2
        have tN29 := @tk_nx_b tB tn (tk_nx tB tn tp) (by omega) (by omega)
        have kz21 : h21 236 6 ≠ 0 → tk_kd tB tn (tk_nx tB tn tp) ≠ 0 := TKk.n0 p21_2.2.2
        refine wk_n ?_
        refine wi_return (nx := 32) (r1 := 0) (r2 := 0) (r3 := 0) rfl rfl ?_
        have e30 : h21 236 8 = h 236 8 := (u21 236 8 rfl)
        have b31 := gi_b (lo := -2147483648) (hi := 2147483647) g 236 9 rfl
        have e32 : h21 236 9 = h 236 9 := (u21 236 9 rfl)
        exact k h21 g21 F22 (show (1 ≤ (h 236 8) ∧ (h21 236 8) = (h 236 8) ∧ (h21 236 9) = (h 236 9)) ∨ ((h 236 8) = 0 ∧ tk_kd tB tn tp = 3 ∧ (h21 236 8) = (h 236 8) ∧ (h21 236 9) = (h 236 9) ∧ ((h21 236 4) = tk_nx tB tn (tk_nx tB tn tp) ∧ (h21 236 5) = tk_st tB tn (tk_nx tB tn tp) ∧ TKk tB tn (tk_nx tB tn tp) ((h21 236 6)) ((h21 236 7)) ((h21 236 12)))) ∨ ((h 236 8) = 0 ∧ tk_kd tB tn tp ≠ 3 ∧ (h21 236 8) = 1 ∧ (h21 236 9) = tk_st tB tn tp) from (Or.inr (Or.inl ⟨(by omega), (by omega), (by omega), (by omega), (show ((h21 236 4) = tk_nx tB tn (tk_nx tB tn tp) ∧ (h21 236 5) = tk_st tB tn (tk_nx tB tn tp) ∧ TKk tB tn (tk_nx tB tn tp) ((h21 236 6)) ((h21 236 7)) ((h21 236 12))) by first | assumption | exact ⟨by omega, by omega, TKk.mv (by assumption) (by omega) (by omega) (by omega)⟩)⟩))) (show (h 236 4) ≤ (h21 236 4) by omega) (show (h21 236 4) ≤ (h 236 3) by omega) (show 1 ≤ (h21 236 8) ∨ (h 236 8) = 0 from (Or.inr (by omega))) (show 1 ≤ (h21 236 8) ∨ (h21 236 6) = 0 ∨ (h 236 4) + 1 ≤ (h21 236 4) by omega)
-- method 213: Model.readSetup()I
set_option maxRecDepth 100000 in
set_option maxHeartbeats 100000000 in
theorem ct_213_236 {L : Nat} {xs : Nat → Int32} {d b c : Nat} {h : hp} {cr : Nat → Nat → Option Nat} {Q : hp_Q} (hcr : CR cr)  {tB : Nat → Int} {tn  : Int} (g : GI h)   (pp0 : h 238 98 + h 238 99 + h 238 100 + h 238 101 + h 238 102 + h 238 106 = h 238 73) (pp1 : h 238 73 ≤ h 238 2) (pp2 : h 238 119 ≤ h 238 67) (pp3 : h 238 69 ≤ h 238 5) (pp4 : h 238 2 ≤ 12 * h 238 5) (xq0 : RB0 tB tn h) (k : ∀ (h2 : hp) (z0 : Int) , GI h2 → FR [(238, 238, none), (243, 243, none), (244, 244, none), (236, 236, some (0, 0)), (236, 236, some (2, 2)), (236, 236, some (3, 3)), (236, 236, some (4, 4)), (236, 236, some (5, 5)), (236, 236, some (6, 6)), (236, 236, some (7, 7)), (236, 236, some (8, 8)), (236, 236, some (9, 9)), (236, 236, some (10, 10)), (236, 236, some (11, 11)), (236, 236, some (12, 12)), (236, 236, some (22, 22)), (236, 236, some (23, 23)), (236, 236, some (24, 24)), (236, 236, some (25, 25)), (236, 236, some (26, 26)), (236, 236, some (27, 27)), (239, 239, some (0, 0)), (239, 239, some (1, 1)), (239, 239, some (2, 2)), (239, 239, some (3, 3)), (239, 239, some (4, 4)), (239, 239, some (5, 5)), (239, 239, some (6, 6)), (239, 239, some (7, 7)), (239, 239, some (8, 8)), (239, 239, some (9, 9)), (239, 239, some (10, 14)), (239, 239, some (15, 15)), (239, 239, some (16, 16)), (239, 239, some (17, 17)), (239, 239, some (18, 18)), (239, 239, some (19, 30)), (239, 239, some (31, 42)), (239, 239, some (43, 54)), (239, 239, some (55, 55)), (239, 239, some (56, 56)), (239, 239, some (57, 57)), (239, 239, some (58, 58)), (239, 239, some (59, 59)), (239, 239, some (60, 60)), (239, 239, some (61, 61)), (239, 239, some (62, 62)), (239, 239, some (63, 63)), (239, 239, some (64, 64)), (239, 239, some (65, 65)), (239, 239, some (66, 66)), (239, 239, some (67, 67)), (239, 239, some (68, 68)), (239, 239, some (69, 69)), (239, 239, some (70, 70)), (239, 239, some (71, 71)), (239, 239, some (72, 72)), (239, 239, some (73, 73)), (239, 239, some (74, 74)), (239, 239, some (75, 75)), (239, 239, some (76, 76)), (239, 239, some (77, 77)), (239, 239, some (78, 78)), (239, 239, some (79, 79)), (239, 239, some (80, 80)), (239, 239, some (81, 81)), (239, 239, some (82, 82)), (239, 239, some (83, 83)), (239, 239, some (84, 84)), (239, 239, some (85, 85)), (239, 239, some (86, 86)), (239, 239, some (87, 87)), (239, 239, some (88, 88)), (239, 239, some (89, 89)), (239, 239, some (90, 90)), (239, 239, some (91, 91)), (239, 239, some (92, 92)), (239, 239, some (93, 93)), (239, 239, some (94, 94)), (239, 239, some (95, 95)), (239, 239, some (96, 96)), (239, 239, some (97, 97)), (239, 239, some (98, 98)), (239, 239, some (99, 99)), (239, 239, some (100, 100)), (239, 239, some (101, 101)), (239, 239, some (102, 102)), (239, 239, some (103, 103)), (239, 239, some (104, 104)), (239, 239, some (105, 105)), (239, 239, some (106, 106)), (239, 239, some (107, 107)), (239, 239, some (108, 108)), (239, 239, some (109, 109)), (239, 239, some (110, 110)), (239, 239, some (111, 111)), (239, 239, some (112, 112)), (239, 239, some (113, 113)), (239, 239, some (114, 114)), (239, 239, some (115, 115)), (239, 239, some (116, 116)), (239, 239, some (117, 117)), (239, 239, some (118, 118)), (239, 239, some (119, 119)), (239, 239, some (120, 120)), (239, 239, some (121, 121)), (239, 239, some (122, 122)), (239, 239, some (123, 123)), (239, 239, some (124, 124)), (239, 239, some (125, 125)), (239, 239, some (126, 126)), (239, 239, some (127, 127)), (239, 239, some (128, 128)), (239, 239, some (129, 129)), (239, 239, some (130, 130)), (239, 239, some (131, 131)), (239, 239, some (132, 132)), (239, 239, some (133, 133)), (239, 239, some (134, 134)), (239, 239, some (135, 135)), (239, 239, some (136, 136)), (239, 239, some (137, 137)), (239, 239, some (138, 138)), (239, 239, some (139, 139)), (239, 239, some (140, 140)), (239, 239, some (141, 141)), (239, 239, some (142, 142)), (239, 239, some (143, 143)), (239, 239, some (144, 144)), (239, 239, some (145, 145)), (239, 239, some (146, 146)), (239, 239, some (147, 147)), (239, 239, some (148, 148)), (239, 239, some (149, 149)), (239, 239, some (150, 150)), (239, 239, some (151, 151)), (239, 239, some (152, 152)), (239, 239, some (153, 153)), (239, 239, some (154, 154)), (239, 239, some (155, 155)), (239, 239, some (156, 156)), (239, 239, some (157, 157)), (239, 239, some (158, 158)), (239, 239, some (159, 159)), (239, 239, some (160, 160)), (239, 239, some (161, 161)), (239, 239, some (162, 162)), (239, 239, some (163, 163)), (239, 239, some (164, 164)), (239, 239, some (165, 165)), (239, 239, some (166, 166)), (239, 239, some (167, 167)), (239, 239, some (168, 168)), (239, 239, some (169, 169)), (239, 239, some (170, 170)), (239, 239, some (171, 171)), (239, 239, some (172, 172)), (239, 239, some (173, 173)), (239, 239, some (174, 174)), (239, 239, some (175, 175)), (239, 239, some (176, 176)), (239, 239, some (177, 177)), (239, 239, some (178, 178)), (239, 239, some (179, 179)), (239, 239, some (180, 180)), (239, 239, some (181, 181)), (239, 239, some (182, 182)), (239, 239, some (183, 183)), (239, 239, some (184, 184)), (239, 239, some (185, 185)), (239, 239, some (186, 186)), (239, 239, some (187, 187)), (239, 239, some (188, 188)), (239, 239, some (189, 189)), (239, 239, some (190, 190)), (239, 239, some (191, 191)), (239, 239, some (192, 192)), (239, 239, some (193, 193)), (239, 239, some (194, 194)), (239, 239, some (195, 195)), (239, 239, some (196, 196)), (239, 239, some (197, 197)), (239, 239, some (198, 198)), (239, 239, some (199, 199))] h h2 → (0 ≤ z0 ∧ z0 ≤ 801) → ((tk_ok tB tn = 1 ∧ h2 236 0 = 0 ∧ z0 = tk_ct tB tn ∧ h2 236 22 = 0) ∨ (tk_ok tB tn = 0 ∧ h2 236 0 = 1 ∧ h2 236 22 = h 236 22)) → (h2 238 98 + h2 238 99 + h2 238 100 + h2 238 101 + h2 238 102 + h2 238 106 = h2 238 73) → (h2 238 73 ≤ h2 238 2) → (h2 238 119 ≤ h2 238 67) → (h2 238 69 ≤ h2 238 5) → (h2 238 2 ≤ 12 * h2 238 5) → (h2 236 2 = 0) → (h2 236 10 = tk_ec tB tn) → (h2 236 11 = tk_ep tB tn) → (tk_ok tB tn = 1 → CVR (tk_ss tB tn) (h2 238)) → (tk_ok tB tn = 0 → ∀ i : Nat, i < 31 → h2 238 i = h 238 i) → Q (.inl (some (vi z0))) (hp_w h2 cr) b c) : wp (md_xa (L, xs)) (d + 7) 213 (0, [(0, .ref 236)], [], hp_w h cr, b, c) Q := by
  have F0 : FR [(238, 238, none), (243, 243, none), (244, 244, none), (236, 236, some (0, 0)), (236, 236, some (2, 2)), (236, 236, some (3, 3)), (236, 236, some (4, 4)), (236, 236, some (5, 5)), (236, 236, some (6, 6)), (236, 236, some (7, 7)), (236, 236, some (8, 8)), (236, 236, some (9, 9)), (236, 236, some (10, 10)), (236, 236, some (11, 11)), (236, 236, some (12, 12)), (236, 236, some (22, 22)), (236, 236, some (23, 23)), (236, 236, some (24, 24)), (236, 236, some (25, 25)), (236, 236, some (26, 26)), (236, 236, some (27, 27)), (239, 239, some (0, 0)), (239, 239, some (1, 1)), (239, 239, some (2, 2)), (239, 239, some (3, 3)), (239, 239, some (4, 4)), (239, 239, some (5, 5)), (239, 239, some (6, 6)), (239, 239, some (7, 7)), (239, 239, some (8, 8)), (239, 239, some (9, 9)), (239, 239, some (10, 14)), (239, 239, some (15, 15)), (239, 239, some (16, 16)), (239, 239, some (17, 17)), (239, 239, some (18, 18)), (239, 239, some (19, 30)), (239, 239, some (31, 42)), (239, 239, some (43, 54)), (239, 239, some (55, 55)), (239, 239, some (56, 56)), (239, 239, some (57, 57)), (239, 239, some (58, 58)), (239, 239, some (59, 59)), (239, 239, some (60, 60)), (239, 239, some (61, 61)), (239, 239, some (62, 62)), (239, 239, some (63, 63)), (239, 239, some (64, 64)), (239, 239, some (65, 65)), (239, 239, some (66, 66)), (239, 239, some (67, 67)), (239, 239, some (68, 68)), (239, 239, some (69, 69)), (239, 239, some (70, 70)), (239, 239, some (71, 71)), (239, 239, some (72, 72)), (239, 239, some (73, 73)), (239, 239, some (74, 74)), (239, 239, some (75, 75)), (239, 239, some (76, 76)), (239, 239, some (77, 77)), (239, 239, some (78, 78)), (239, 239, some (79, 79)), (239, 239, some (80, 80)), (239, 239, some (81, 81)), (239, 239, some (82, 82)), (239, 239, some (83, 83)), (239, 239, some (84, 84)), (239, 239, some (85, 85)), (239, 239, some (86, 86)), (239, 239, some (87, 87)), (239, 239, some (88, 88)), (239, 239, some (89, 89)), (239, 239, some (90, 90)), (239, 239, some (91, 91)), (239, 239, some (92, 92)), (239, 239, some (93, 93)), (239, 239, some (94, 94)), (239, 239, some (95, 95)), (239, 239, some (96, 96)), (239, 239, some (97, 97)), (239, 239, some (98, 98)), (239, 239, some (99, 99)), (239, 239, some (100, 100)), (239, 239, some (101, 101)), (239, 239, some (102, 102)), (239, 239, some (103, 103)), (239, 239, some (104, 104)), (239, 239, some (105, 105)), (239, 239, some (106, 106)), (239, 239, some (107, 107)), (239, 239, some (108, 108)), (239, 239, some (109, 109)), (239, 239, some (110, 110)), (239, 239, some (111, 111)), (239, 239, some (112, 112)), (239, 239, some (113, 113)), (239, 239, some (114, 114)), (239, 239, some (115, 115)), (239, 239, some (116, 116)), (239, 239, some (117, 117)), (239, 239, some (118, 118)), (239, 239, some (119, 119)), (239, 239, some (120, 120)), (239, 239, some (121, 121)), (239, 239, some (122, 122)), (239, 239, some (123, 123)), (239, 239, some (124, 124)), (239, 239, some (125, 125)), (239, 239, some (126, 126)), (239, 239, some (127, 127)), (239, 239, some (128, 128)), (239, 239, some (129, 129)), (239, 239, some (130, 130)), (239, 239, some (131, 131)), (239, 239, some (132, 132)), (239, 239, some (133, 133)), (239, 239, some (134, 134)), (239, 239, some (135, 135)), (239, 239, some (136, 136)), (239, 239, some (137, 137)), (239, 239, some (138, 138)), (239, 239, some (139, 139)), (239, 239, some (140, 140)), (239, 239, some (141, 141)), (239, 239, some (142, 142)), (239, 239, some (143, 143)), (239, 239, some (144, 144)), (239, 239, some (145, 145)), (239, 239, some (146, 146)), (239, 239, some (147, 147)), (239, 239, some (148, 148)), (239, 239, some (149, 149)), (239, 239, some (150, 150)), (239, 239, some (151, 151)), (239, 239, some (152, 152)), (239, 239, some (153, 153)), (239, 239, some (154, 154)), (239, 239, some (155, 155)), (239, 239, some (156, 156)), (239, 239, some (157, 157)), (239, 239, some (158, 158)), (239, 239, some (159, 159)), (239, 239, some (160, 160)), (239, 239, some (161, 161)), (239, 239, some (162, 162)), (239, 239, some (163, 163)), (239, 239, some (164, 164)), (239, 239, some (165, 165)), (239, 239, some (166, 166)), (239, 239, some (167, 167)), (239, 239, some (168, 168)), (239, 239, some (169, 169)), (239, 239, some (170, 170)), (239, 239, some (171, 171)), (239, 239, some (172, 172)), (239, 239, some (173, 173)), (239, 239, some (174, 174)), (239, 239, some (175, 175)), (239, 239, some (176, 176)), (239, 239, some (177, 177)), (239, 239, some (178, 178)), (239, 239, some (179, 179)), (239, 239, some (180, 180)), (239, 239, some (181, 181)), (239, 239, some (182, 182)), (239, 239, some (183, 183)), (239, 239, some (184, 184)), (239, 239, some (185, 185)), (239, 239, some (186, 186)), (239, 239, some (187, 187)), (239, 239, some (188, 188)), (239, 239, some (189, 189)), (239, 239, some (190, 190)), (239, 239, some (191, 191)), (239, 239, some (192, 192)), (239, 239, some (193, 193)), (239, 239, some (194, 194)), (239, 239, some (195, 195)), (239, 239, some (196, 196)), (239, 239, some (197, 197)), (239, 239, some (198, 198)), (239, 239, some (199, 199))] h h := FR.refl
  have tb_1 : h 236 2 = tn := xq0.2.1
  have tb_2 : 0 ≤ tn ∧ tn ≤ 800 := xq0.2.2
  have b1 := gi_b (lo := 0) (hi := 6) g 238 98 rfl
  have b2 := gi_b (lo := 0) (hi := 6) g 238 99 rfl
  have b3 := gi_b (lo := 0) (hi := 6) g 238 100 rfl
  have b4 := gi_b (lo := 0) (hi := 6) g 238 101 rfl
  have b5 := gi_b (lo := 0) (hi := 3) g 238 102 rfl
  have b6 := gi_b (lo := 0) (hi := 12) g 238 106 rfl
  have b7 := gi_b (lo := 0) (hi := 12) g 238 73 rfl
  have b8 := gi_b (lo := 0) (hi := 12) g 238 2 rfl
  have b9 := gi_b (lo := 0) (hi := 9999) g 238 119 rfl
  have b10 := gi_b (lo := 0) (hi := 9999) g 238 67 rfl
  have b11 := gi_b (lo := 0) (hi := 9) g 238 69 rfl
  have b12 := gi_b (lo := 0) (hi := 9) g 238 5 rfl
  refine wi_aload_n (i := 0) (x := 236) (nx := 1) (r1 := 0) (r2 := 0) (r3 := 0) rfl rfl ?_
  refine wr_V (k0 := 236) (rest := []) (as := [.ref 236]) (nx := 4) (r1 := 214) (r2 := 0) (r3 := 11) rfl rfl rfl (of_decide_eq_true rfl) rfl rfl (by decide) rfl rfl (of_decide_eq_true rfl) (of_decide_eq_true rfl) ?_
  refine ct_214_236 hcr  g    xq0 (fun h13 g13 u13 (p13_0 : (h13 236 8) = 0) (p13_1 : (h13 236 4) ≤ (h13 236 3)) (p13_2 : (h13 236 2) = 0) (p13_3 : (h13 236 9) = -1) (p13_4 : ((h13 236 4) = tk_nx tB tn 0 ∧ (h13 236 5) = tk_st tB tn 0 ∧ TKk tB tn 0 ((h13 236 6)) ((h13 236 7)) ((h13 236 12)))) (p13_5 : 0 ≤ tn ∧ tn ≤ 800) (p13_6 : (h13 236 3) = tn) y13_0 => ?_)
  have F14 := F0.then (by decide +kernel) u13
  have b15 := gi_b (lo := 0) (hi := 5) g13 236 8 rfl
  have b16 := gi_b (lo := 0) (hi := 800) g13 236 4 rfl
  have b17 := gi_b (lo := 0) (hi := 800) g13 236 3 rfl
  have b18 := gi_b (lo := 0) (hi := 800) g13 236 2 rfl
  have b19 := gi_b (lo := -2147483648) (hi := 2147483647) g13 236 9 rfl
  have b20 := gi_b (lo := 0) (hi := 800) g13 236 5 rfl
  have b21 := gi_b (lo := 0) (hi := 4) g13 236 6 rfl
  have b22 := gi_b (lo := 0) (hi := 999) g13 236 7 rfl
  have b23 := gi_b (lo := -9223372036854775808) (hi := 9223372036854775807) g13 236 12 rfl
  have tkk24 := p13_4.2.2
  have tN25 := @tk_nx_b tB tn 0 (by omega) (by omega)
  refine wk_n ?_
  refine wi_aload_n (i := 0) (x := 236) (nx := 5) (r1 := 0) (r2 := 0) (r3 := 0) rfl rfl ?_
  refine wr_gr (k0 := 236) (x := 239) (nx := 8) (r1 := 11) (r2 := 14) (r3 := 0) rfl rfl (by decide) rfl ⟨rfl, rfl⟩ rfl ?_
  refine wi_S (rest := []) (as := [.ref 239]) (nx := 11) (r1 := 203) (r2 := 17) (r3 := 0) rfl rfl rfl (of_decide_eq_true rfl) rfl rfl (of_decide_eq_true rfl) (of_decide_eq_true rfl) ?_
  refine ct_203_239 hcr  g13    (fun h26 g26 u26 (p26_0 : (h26 239 5) = 9) (p26_1 : (h26 239 7) = 1) (p26_2 : (h26 239 15) = 0) (p26_3 : (h26 239 16) = 0) (p26_4 : (h26 239 17) = 0) (p26_5 : (h26 239 18) = 0) (p26_6 : (h26 239 0) = 0) (p26_7 : (h26 239 1) = 0) (p26_8 : (h26 239 2) = 0) (p26_9 : (h26 239 3) = 11) (p26_10 : (h26 239 4) = 11) (p26_11 : (h26 239 6) = 0) (p26_12 : (h26 239 8) = 3) (p26_13 : (h26 239 9) = 2) => ?_)
  have F27 := F14.then (by decide +kernel) u26
  have b28 := gi_b (lo := 0) (hi := 999) g26 239 5 rfl
  have b29 := gi_b (lo := 0) (hi := 999) g26 239 7 rfl
  have b30 := gi_b (lo := 0) (hi := 999) g26 239 15 rfl
  have b31 := gi_b (lo := 0) (hi := 999) g26 239 16 rfl
  have b32 := gi_b (lo := 0) (hi := 999) g26 239 17 rfl
  have b33 := gi_b (lo := 0) (hi := 999) g26 239 18 rfl
  have b34 := gi_b (lo := 0) (hi := 5) g26 239 0 rfl
  have b35 := gi_b (lo := 0) (hi := 4) g26 239 1 rfl
  have b36 := gi_b (lo := 0) (hi := 12) g26 239 2 rfl
  have b37 := gi_b (lo := 0) (hi := 999) g26 239 3 rfl
  have b38 := gi_b (lo := 0) (hi := 999) g26 239 4 rfl
  have b39 := gi_b (lo := 0) (hi := 999) g26 239 6 rfl
  have b40 := gi_b (lo := 0) (hi := 999) g26 239 8 rfl
  have b41 := gi_b (lo := 0) (hi := 999) g26 239 9 rfl
  refine wk_n ?_
  refine wi_aload_n (i := 0) (x := 236) (nx := 12) (r1 := 0) (r2 := 0) (r3 := 0) rfl rfl ?_
  refine wi_iconst (n := 0) (nx := 13) (r1 := 0) (r2 := 0) (r3 := 0) rfl ?_
  refine wr_pf2 (k0 := 236) (x := 0) (bl := 0) (bh := 1) (nx := 16) (r1 := 11) (r2 := 23) (r3 := 2) rfl (by decide) rfl ⟨rfl, rfl⟩ rfl (by omega) rfl g26 rfl (by omega) (fun h42 g42 w42 u42 => ?_)
  have F43 := F27.then rfl u42
  refine wi_aload_n (i := 0) (x := 236) (nx := 17) (r1 := 0) (r2 := 0) (r3 := 0) rfl rfl ?_
  refine wi_iconst (n := 0) (nx := 18) (r1 := 0) (r2 := 0) (r3 := 0) rfl ?_
  refine wr_pf2 (k0 := 236) (x := 0) (bl := 0) (bh := 1) (nx := 21) (r1 := 11) (r2 := 24) (r3 := 2) rfl (by decide) rfl ⟨rfl, rfl⟩ rfl (by omega) rfl g42 rfl (by omega) (fun h44 g44 w44 u44 => ?_)
  have F45 := F43.then rfl u44
  refine wi_aload_n (i := 0) (x := 236) (nx := 22) (r1 := 0) (r2 := 0) (r3 := 0) rfl rfl ?_
  refine wi_iconst (n := 0) (nx := 23) (r1 := 0) (r2 := 0) (r3 := 0) rfl ?_
  refine wr_pf2 (k0 := 236) (x := 0) (bl := 0) (bh := 1) (nx := 26) (r1 := 11) (r2 := 25) (r3 := 2) rfl (by decide) rfl ⟨rfl, rfl⟩ rfl (by omega) rfl g44 rfl (by omega) (fun h46 g46 w46 u46 => ?_)
  have F47 := F45.then rfl u46
  refine wi_aload_n (i := 0) (x := 236) (nx := 27) (r1 := 0) (r2 := 0) (r3 := 0) rfl rfl ?_
  refine wi_iconst (n := 0) (nx := 28) (r1 := 0) (r2 := 0) (r3 := 0) rfl ?_
  refine wr_pf2 (k0 := 236) (x := 0) (bl := 0) (bh := 1) (nx := 31) (r1 := 11) (r2 := 26) (r3 := 2) rfl (by decide) rfl ⟨rfl, rfl⟩ rfl (by omega) rfl g46 rfl (by omega) (fun h48 g48 w48 u48 => ?_)
  have F49 := F47.then rfl u48
  refine wi_aload_n (i := 0) (x := 236) (nx := 32) (r1 := 0) (r2 := 0) (r3 := 0) rfl rfl ?_
  refine wi_iconst (n := 0) (nx := 33) (r1 := 0) (r2 := 0) (r3 := 0) rfl ?_
  refine wr_pf0 (k0 := 236) (x := 0) (bl := -2147483648) (bh := 2147483647) (nx := 36) (r1 := 11) (r2 := 27) (r3 := 0) rfl (by decide) rfl ⟨rfl, rfl⟩ rfl rfl g48 rfl (by omega) (fun h50 g50 w50 u50 => ?_)
  have F51 := F49.then rfl u50
  refine wi_aload_n (i := 0) (x := 236) (nx := 37) (r1 := 0) (r2 := 0) (r3 := 0) rfl rfl ?_
  refine wr_V (k0 := 236) (rest := []) (as := [.ref 236]) (nx := 40) (r1 := 219) (r2 := 0) (r3 := 11) rfl rfl rfl (of_decide_eq_true rfl) rfl rfl (by decide) rfl rfl (of_decide_eq_true rfl) (of_decide_eq_true rfl) ?_
  refine wi_aload_n (i := 0) (x := 236) (nx := 1) (r1 := 0) (r2 := 0) (r3 := 0) rfl rfl ?_
  refine wr_gi0 (k0 := 236) (x := h13 236 8) (nx := 4) (r1 := 11) (r2 := 8) (r3 := 0) rfl rfl (by decide) rfl ⟨rfl, rfl⟩ rfl ((u50 236 8 rfl).trans ((u48 236 8 rfl).trans ((u46 236 8 rfl).trans ((u44 236 8 rfl).trans ((u42 236 8 rfl).trans (u26 236 8 rfl)))))) ?_
  refine wi_if (cd := .ne) (nx := 7) (r1 := 11) (r2 := 0) (r3 := 0) rfl (by omega) (fun (q52 : (h13 236 8) ≠ 0) => by exfalso; omega) (fun (q52 : ¬ ((h13 236 8) ≠ 0)) => ?_)
  refine wi_iconst (n := 1) (nx := 8) (r1 := 0) (r2 := 0) (r3 := 0) rfl ?_
  refine wi_goto (nx := 11) (r1 := 12) (r2 := 0) (r3 := 0) rfl ?_
  refine wi_zreturn (nx := 13) (r1 := 0) (r2 := 0) (r3 := 0) rfl rfl (by omega) ?_
  refine wk_i ?_
  refine wi_if (cd := .eq) (nx := 43) (r1 := 73) (r2 := 0) (r3 := 0) rfl (by omega) (fun (q54 : 1 = 0) => by exfalso; omega) (fun (q54 : ¬ (1 = 0)) => ?_)
  refine wi_aload_n (i := 0) (x := 236) (nx := 44) (r1 := 0) (r2 := 0) (r3 := 0) rfl rfl ?_
  refine wr_gi0 (k0 := 236) (x := h13 236 6) (nx := 47) (r1 := 11) (r2 := 6) (r3 := 0) rfl rfl (by decide) rfl ⟨rfl, rfl⟩ rfl ((u50 236 6 rfl).trans ((u48 236 6 rfl).trans ((u46 236 6 rfl).trans ((u44 236 6 rfl).trans ((u42 236 6 rfl).trans (u26 236 6 rfl)))))) ?_
  refine wi_if (cd := .eq) (nx := 50) (r1 := 73) (r2 := 0) (r3 := 0) rfl (by omega) (fun (q55 : (h13 236 6) = 0) => ?_) (fun (q55 : ¬ ((h13 236 6) = 0)) => ?_)
  ·
    try have kf56 := TKk.e0 (B := tB) (n := tn) (p := 0) (a6 := h13 236 6) (by assumption) (by omega)
    refine wi_aload_n (i := 0) (x := 236) (nx := 74) (r1 := 0) (r2 := 0) (r3 := 0) rfl rfl ?_
    refine wr_V (k0 := 236) (rest := []) (as := [.ref 236]) (nx := 77) (r1 := 237) (r2 := 0) (r3 := 11) rfl rfl rfl (of_decide_eq_true rfl) rfl rfl (by decide) rfl rfl (of_decide_eq_true rfl) (of_decide_eq_true rfl) ?_
    refine wi_aload_n (i := 0) (x := 236) (nx := 1) (r1 := 0) (r2 := 0) (r3 := 0) rfl rfl ?_
    refine wi_aload_n (i := 0) (x := 236) (nx := 2) (r1 := 0) (r2 := 0) (r3 := 0) rfl rfl ?_
    refine wr_gi0 (k0 := 236) (x := h13 236 8) (nx := 5) (r1 := 11) (r2 := 8) (r3 := 0) rfl rfl (by decide) rfl ⟨rfl, rfl⟩ rfl ((u50 236 8 rfl).trans ((u48 236 8 rfl).trans ((u46 236 8 rfl).trans ((u44 236 8 rfl).trans ((u42 236 8 rfl).trans (u26 236 8 rfl)))))) ?_
    refine wr_pf0 (k0 := 236) (x := h13 236 8) (bl := -2147483648) (bh := 2147483647) (nx := 8) (r1 := 11) (r2 := 10) (r3 := 0) rfl (by decide) rfl ⟨rfl, rfl⟩ rfl rfl g50 rfl (by omega) (fun h57 g57 w57 u57 => ?_)
    have F58 := F51.then rfl u57
    refine wi_aload_n (i := 0) (x := 236) (nx := 9) (r1 := 0) (r2 := 0) (r3 := 0) rfl rfl ?_
    refine wi_aload_n (i := 0) (x := 236) (nx := 10) (r1 := 0) (r2 := 0) (r3 := 0) rfl rfl ?_
    refine wr_gi0 (k0 := 236) (x := h13 236 9) (nx := 13) (r1 := 11) (r2 := 9) (r3 := 0) rfl rfl (by decide) rfl ⟨rfl, rfl⟩ rfl ((u57 236 9 rfl).trans ((u50 236 9 rfl).trans ((u48 236 9 rfl).trans ((u46 236 9 rfl).trans ((u44 236 9 rfl).trans ((u42 236 9 rfl).trans (u26 236 9 rfl))))))) ?_
    refine wr_pf0 (k0 := 236) (x := h13 236 9) (bl := -2147483648) (bh := 2147483647) (nx := 16) (r1 := 11) (r2 := 11) (r3 := 0) rfl (by decide) rfl ⟨rfl, rfl⟩ rfl rfl g57 rfl (by omega) (fun h59 g59 w59 u59 => ?_)
    have F60 := F58.then rfl u59
    refine wi_aload_n (i := 0) (x := 236) (nx := 17) (r1 := 0) (r2 := 0) (r3 := 0) rfl rfl ?_
    refine wi_aload_n (i := 0) (x := 236) (nx := 18) (r1 := 0) (r2 := 0) (r3 := 0) rfl rfl ?_
    refine wr_gi0 (k0 := 236) (x := h13 236 8) (nx := 21) (r1 := 11) (r2 := 8) (r3 := 0) rfl rfl (by decide) rfl ⟨rfl, rfl⟩ rfl ((u59 236 8 rfl).trans ((u57 236 8 rfl).trans ((u50 236 8 rfl).trans ((u48 236 8 rfl).trans ((u46 236 8 rfl).trans ((u44 236 8 rfl).trans ((u42 236 8 rfl).trans (u26 236 8 rfl)))))))) ?_
    refine wi_if (cd := .ne) (nx := 24) (r1 := 28) (r2 := 0) (r3 := 0) rfl (by omega) (fun (q61 : (h13 236 8) ≠ 0) => by exfalso; omega) (fun (q61 : ¬ ((h13 236 8) ≠ 0)) => ?_)
    refine wi_iconst (n := 1) (nx := 25) (r1 := 0) (r2 := 0) (r3 := 0) rfl ?_
    refine wi_goto (nx := 28) (r1 := 29) (r2 := 0) (r3 := 0) rfl ?_
    refine wr_V (k0 := 236) (rest := []) (as := [.ref 236, vi 1]) (nx := 32) (r1 := 206) (r2 := 1) (r3 := 11) rfl rfl rfl (of_decide_eq_true rfl) rfl rfl (by decide) rfl rfl (of_decide_eq_true rfl) (of_decide_eq_true rfl) ?_
    refine wi_aload_n (i := 0) (x := 236) (nx := 1) (r1 := 0) (r2 := 0) (r3 := 0) rfl rfl ?_
    refine wi_iload_n (i := 1) (e := 1) (nx := 2) (r1 := 0) (r2 := 0) (r3 := 0) rfl rfl ?_
    refine wi_if (cd := .ne) (nx := 5) (r1 := 9) (r2 := 0) (r3 := 0) rfl (by omega) (fun (q63 : 1 ≠ 0) => ?_) (fun (q63 : ¬ (1 ≠ 0)) => by exfalso; omega)
    refine wi_iconst (n := 0) (nx := 10) (r1 := 0) (r2 := 0) (r3 := 0) rfl ?_
    refine wi_S (rest := [.ref 236]) (as := [vi 0]) (nx := 13) (r1 := 207) (r2 := 17) (r3 := 0) rfl rfl rfl (of_decide_eq_true rfl) rfl rfl (of_decide_eq_true rfl) (of_decide_eq_true rfl) ?_
    refine wi_iload_n (i := 0) (e := 0) (nx := 1) (r1 := 0) (r2 := 0) (r3 := 0) rfl rfl ?_
    refine wi_if (cd := .eq) (nx := 4) (r1 := 8) (r2 := 0) (r3 := 0) rfl (by omega) (fun (q64 : 0 = 0) => ?_) (fun (q64 : ¬ (0 = 0)) => by exfalso; omega)
    refine wi_iconst (n := 0) (nx := 9) (r1 := 0) (r2 := 0) (r3 := 0) rfl ?_
    refine wi_ireturn (nx := 10) (r1 := 0) (r2 := 0) (r3 := 0) rfl rfl ?_
    refine wk_i ?_
    refine wr_pf0 (k0 := 236) (x := 0) (bl := 0) (bh := 2) (nx := 16) (r1 := 11) (r2 := 0) (r3 := 0) rfl (by decide) rfl ⟨rfl, rfl⟩ rfl rfl g59 rfl (by omega) (fun h65 g65 w65 u65 => ?_)
    have F66 := F60.then rfl u65
    refine wi_iload_n (i := 1) (e := 1) (nx := 17) (r1 := 0) (r2 := 0) (r3 := 0) rfl rfl ?_
    refine wi_zreturn (nx := 18) (r1 := 0) (r2 := 0) (r3 := 0) rfl rfl (by omega) ?_
    refine wk_i ?_
    refine wi_zreturn (nx := 33) (r1 := 0) (r2 := 0) (r3 := 0) rfl rfl (by omega) ?_
    refine wk_i ?_
    refine wi_if (cd := .ne) (nx := 80) (r1 := 82) (r2 := 0) (r3 := 0) rfl (by omega) (fun (q67 : 1 ≠ 0) => ?_) (fun (q67 : ¬ (1 ≠ 0)) => by exfalso; omega)
    refine wi_aload_n (i := 0) (x := 236) (nx := 83) (r1 := 0) (r2 := 0) (r3 := 0) rfl rfl ?_
    refine wr_gr (k0 := 236) (x := 239) (nx := 86) (r1 := 11) (r2 := 14) (r3 := 0) rfl rfl (by decide) rfl ⟨rfl, rfl⟩ rfl ?_
    refine wi_aload_n (i := 0) (x := 236) (nx := 87) (r1 := 0) (r2 := 0) (r3 := 0) rfl rfl ?_
    refine wr_gr (k0 := 236) (x := 238) (nx := 90) (r1 := 11) (r2 := 13) (r3 := 0) rfl rfl (by decide) rfl ⟨rfl, rfl⟩ rfl ?_
    refine wi_S (rest := []) (as := [.ref 239, .ref 238]) (nx := 93) (r1 := 238) (r2 := 18) (r3 := 0) rfl rfl rfl (of_decide_eq_true rfl) rfl rfl (of_decide_eq_true rfl) (of_decide_eq_true rfl) ?_
    have e69 : h65 239 5 = h26 239 5 := ((u65 239 5 rfl).trans ((u59 239 5 rfl).trans ((u57 239 5 rfl).trans ((u50 239 5 rfl).trans ((u48 239 5 rfl).trans ((u46 239 5 rfl).trans ((u44 239 5 rfl).trans (u42 239 5 rfl))))))))
    have e70 : h65 239 7 = h26 239 7 := ((u65 239 7 rfl).trans ((u59 239 7 rfl).trans ((u57 239 7 rfl).trans ((u50 239 7 rfl).trans ((u48 239 7 rfl).trans ((u46 239 7 rfl).trans ((u44 239 7 rfl).trans (u42 239 7 rfl))))))))
    have e71 : h65 239 15 = h26 239 15 := ((u65 239 15 rfl).trans ((u59 239 15 rfl).trans ((u57 239 15 rfl).trans ((u50 239 15 rfl).trans ((u48 239 15 rfl).trans ((u46 239 15 rfl).trans ((u44 239 15 rfl).trans (u42 239 15 rfl))))))))
    have e72 : h65 239 16 = h26 239 16 := ((u65 239 16 rfl).trans ((u59 239 16 rfl).trans ((u57 239 16 rfl).trans ((u50 239 16 rfl).trans ((u48 239 16 rfl).trans ((u46 239 16 rfl).trans ((u44 239 16 rfl).trans (u42 239 16 rfl))))))))
    have e73 : h65 239 17 = h26 239 17 := ((u65 239 17 rfl).trans ((u59 239 17 rfl).trans ((u57 239 17 rfl).trans ((u50 239 17 rfl).trans ((u48 239 17 rfl).trans ((u46 239 17 rfl).trans ((u44 239 17 rfl).trans (u42 239 17 rfl))))))))
    have e74 : h65 239 18 = h26 239 18 := ((u65 239 18 rfl).trans ((u59 239 18 rfl).trans ((u57 239 18 rfl).trans ((u50 239 18 rfl).trans ((u48 239 18 rfl).trans ((u46 239 18 rfl).trans ((u44 239 18 rfl).trans (u42 239 18 rfl))))))))
    refine ct_238_239_238 hcr  g65    (gi_read g65 (by refine ⟨?_, ?_, ?_, ?_, ?_, ?_⟩ <;> omega)) (fun h68 g68 u68 y68_0 => ?_)
    have F75 := F66.then (by decide +kernel) u68
    refine wk_n ?_
    refine wi_iconst (n := 0) (nx := 94) (r1 := 0) (r2 := 0) (r3 := 0) rfl ?_
    refine wi_istore_n (i := 1) (e := 0) (lo2 := [(1, vi 0), (0, .ref 236)]) (nx := 95) (r1 := 0) (r2 := 0) (r3 := 0) rfl rfl ?_
    refine wp.lo (lo := [(0, .ref 236), (1, vi 0)]) ⟨rfl, rfl, trivial⟩ rfl ?_
    refine wl_1 (fun x76 h77 => GI h77 ∧ FR [(238, 238, none), (243, 243, none), (244, 244, none), (236, 236, some (0, 0)), (236, 236, some (2, 2)), (236, 236, some (3, 3)), (236, 236, some (4, 4)), (236, 236, some (5, 5)), (236, 236, some (6, 6)), (236, 236, some (7, 7)), (236, 236, some (8, 8)), (236, 236, some (9, 9)), (236, 236, some (10, 10)), (236, 236, some (11, 11)), (236, 236, some (12, 12)), (236, 236, some (22, 22)), (236, 236, some (23, 23)), (236, 236, some (24, 24)), (236, 236, some (25, 25)), (236, 236, some (26, 26)), (236, 236, some (27, 27)), (239, 239, some (0, 0)), (239, 239, some (1, 1)), (239, 239, some (2, 2)), (239, 239, some (3, 3)), (239, 239, some (4, 4)), (239, 239, some (5, 5)), (239, 239, some (6, 6)), (239, 239, some (7, 7)), (239, 239, some (8, 8)), (239, 239, some (9, 9)), (239, 239, some (10, 14)), (239, 239, some (15, 15)), (239, 239, some (16, 16)), (239, 239, some (17, 17)), (239, 239, some (18, 18)), (239, 239, some (19, 30)), (239, 239, some (31, 42)), (239, 239, some (43, 54)), (239, 239, some (55, 55)), (239, 239, some (56, 56)), (239, 239, some (57, 57)), (239, 239, some (58, 58)), (239, 239, some (59, 59)), (239, 239, some (60, 60)), (239, 239, some (61, 61)), (239, 239, some (62, 62)), (239, 239, some (63, 63)), (239, 239, some (64, 64)), (239, 239, some (65, 65)), (239, 239, some (66, 66)), (239, 239, some (67, 67)), (239, 239, some (68, 68)), (239, 239, some (69, 69)), (239, 239, some (70, 70)), (239, 239, some (71, 71)), (239, 239, some (72, 72)), (239, 239, some (73, 73)), (239, 239, some (74, 74)), (239, 239, some (75, 75)), (239, 239, some (76, 76)), (239, 239, some (77, 77)), (239, 239, some (78, 78)), (239, 239, some (79, 79)), (239, 239, some (80, 80)), (239, 239, some (81, 81)), (239, 239, some (82, 82)), (239, 239, some (83, 83)), (239, 239, some (84, 84)), (239, 239, some (85, 85)), (239, 239, some (86, 86)), (239, 239, some (87, 87)), (239, 239, some (88, 88)), (239, 239, some (89, 89)), (239, 239, some (90, 90)), (239, 239, some (91, 91)), (239, 239, some (92, 92)), (239, 239, some (93, 93)), (239, 239, some (94, 94)), (239, 239, some (95, 95)), (239, 239, some (96, 96)), (239, 239, some (97, 97)), (239, 239, some (98, 98)), (239, 239, some (99, 99)), (239, 239, some (100, 100)), (239, 239, some (101, 101)), (239, 239, some (102, 102)), (239, 239, some (103, 103)), (239, 239, some (104, 104)), (239, 239, some (105, 105)), (239, 239, some (106, 106)), (239, 239, some (107, 107)), (239, 239, some (108, 108)), (239, 239, some (109, 109)), (239, 239, some (110, 110)), (239, 239, some (111, 111)), (239, 239, some (112, 112)), (239, 239, some (113, 113)), (239, 239, some (114, 114)), (239, 239, some (115, 115)), (239, 239, some (116, 116)), (239, 239, some (117, 117)), (239, 239, some (118, 118)), (239, 239, some (119, 119)), (239, 239, some (120, 120)), (239, 239, some (121, 121)), (239, 239, some (122, 122)), (239, 239, some (123, 123)), (239, 239, some (124, 124)), (239, 239, some (125, 125)), (239, 239, some (126, 126)), (239, 239, some (127, 127)), (239, 239, some (128, 128)), (239, 239, some (129, 129)), (239, 239, some (130, 130)), (239, 239, some (131, 131)), (239, 239, some (132, 132)), (239, 239, some (133, 133)), (239, 239, some (134, 134)), (239, 239, some (135, 135)), (239, 239, some (136, 136)), (239, 239, some (137, 137)), (239, 239, some (138, 138)), (239, 239, some (139, 139)), (239, 239, some (140, 140)), (239, 239, some (141, 141)), (239, 239, some (142, 142)), (239, 239, some (143, 143)), (239, 239, some (144, 144)), (239, 239, some (145, 145)), (239, 239, some (146, 146)), (239, 239, some (147, 147)), (239, 239, some (148, 148)), (239, 239, some (149, 149)), (239, 239, some (150, 150)), (239, 239, some (151, 151)), (239, 239, some (152, 152)), (239, 239, some (153, 153)), (239, 239, some (154, 154)), (239, 239, some (155, 155)), (239, 239, some (156, 156)), (239, 239, some (157, 157)), (239, 239, some (158, 158)), (239, 239, some (159, 159)), (239, 239, some (160, 160)), (239, 239, some (161, 161)), (239, 239, some (162, 162)), (239, 239, some (163, 163)), (239, 239, some (164, 164)), (239, 239, some (165, 165)), (239, 239, some (166, 166)), (239, 239, some (167, 167)), (239, 239, some (168, 168)), (239, 239, some (169, 169)), (239, 239, some (170, 170)), (239, 239, some (171, 171)), (239, 239, some (172, 172)), (239, 239, some (173, 173)), (239, 239, some (174, 174)), (239, 239, some (175, 175)), (239, 239, some (176, 176)), (239, 239, some (177, 177)), (239, 239, some (178, 178)), (239, 239, some (179, 179)), (239, 239, some (180, 180)), (239, 239, some (181, 181)), (239, 239, some (182, 182)), (239, 239, some (183, 183)), (239, 239, some (184, 184)), (239, 239, some (185, 185)), (239, 239, some (186, 186)), (239, 239, some (187, 187)), (239, 239, some (188, 188)), (239, 239, some (189, 189)), (239, 239, some (190, 190)), (239, 239, some (191, 191)), (239, 239, some (192, 192)), (239, 239, some (193, 193)), (239, 239, some (194, 194)), (239, 239, some (195, 195)), (239, 239, some (196, 196)), (239, 239, some (197, 197)), (239, 239, some (198, 198)), (239, 239, some (199, 199))] h h77 ∧ FR [(243, 243, none)] h68 h77 ∧ ((0 ≤ x76 ∧ x76 ≤ 5))) (fun x76 h77 => ((5 : Int) + 1 - x76).toNat) (fun x76 h77 => (95, [(0, .ref 236), (1, vi x76)], [], hp_w h77 cr, b, c)) ?_ 0 h68 ⟨g68, F75, FR.refl, (show (0 ≤ 0 ∧ 0 ≤ 5) by omega)⟩
    intro x76 h77 ⟨g77, F78, u77, f77⟩ I77
    refine wi_iload_n (i := 1) (e := x76) (nx := 96) (r1 := 0) (r2 := 0) (r3 := 0) rfl rfl ?_
    refine wi_iconst (n := 5) (nx := 97) (r1 := 0) (r2 := 0) (r3 := 0) rfl ?_
    refine wi_icmp (cd := .ge) (nx := 100) (r1 := 118) (r2 := 0) (r3 := 0) rfl (by omega) (by omega) (fun (q79 : 5 ≤ x76) => ?_) (fun (q79 : ¬ (5 ≤ x76)) => ?_)
    ·
      refine wi_aload_n (i := 0) (x := 236) (nx := 119) (r1 := 0) (r2 := 0) (r3 := 0) rfl rfl ?_
      refine wi_iconst (n := 0) (nx := 120) (r1 := 0) (r2 := 0) (r3 := 0) rfl ?_
      refine wr_pf0 (k0 := 236) (x := 0) (bl := 0) (bh := 6) (nx := 123) (r1 := 11) (r2 := 22) (r3 := 0) rfl (by decide) rfl ⟨rfl, rfl⟩ rfl rfl g77 rfl (by omega) (fun h80 g80 w80 u80 => ?_)
      have F81 := F78.then rfl u80
      refine wi_aload_n (i := 0) (x := 236) (nx := 124) (r1 := 0) (r2 := 0) (r3 := 0) rfl rfl ?_
      refine wr_gi0 (k0 := 236) (x := 0) (nx := 127) (r1 := 11) (r2 := 27) (r3 := 0) rfl rfl (by decide) rfl ⟨rfl, rfl⟩ rfl ((u80 236 27 rfl).trans ((u77 236 27 rfl).trans ((u68 236 27 rfl).trans ((u65 236 27 rfl).trans ((u59 236 27 rfl).trans ((u57 236 27 rfl).trans w50)))))) ?_
      refine wi_ireturn (nx := 128) (r1 := 0) (r2 := 0) (r3 := 0) rfl rfl ?_
      have e83 : h80 236 0 = 0 := ((u80 236 0 rfl).trans ((u77 236 0 rfl).trans ((u68 236 0 rfl).trans w65)))
      have e84 : h80 236 8 = h13 236 8 := ((u80 236 8 rfl).trans ((u77 236 8 rfl).trans ((u68 236 8 rfl).trans ((u65 236 8 rfl).trans ((u59 236 8 rfl).trans ((u57 236 8 rfl).trans ((u50 236 8 rfl).trans ((u48 236 8 rfl).trans ((u46 236 8 rfl).trans ((u44 236 8 rfl).trans ((u42 236 8 rfl).trans (u26 236 8 rfl))))))))))))
      have e85 : h80 236 9 = h13 236 9 := ((u80 236 9 rfl).trans ((u77 236 9 rfl).trans ((u68 236 9 rfl).trans ((u65 236 9 rfl).trans ((u59 236 9 rfl).trans ((u57 236 9 rfl).trans ((u50 236 9 rfl).trans ((u48 236 9 rfl).trans ((u46 236 9 rfl).trans ((u44 236 9 rfl).trans ((u42 236 9 rfl).trans (u26 236 9 rfl))))))))))))
      have e86 : h80 236 10 = h13 236 8 := ((u80 236 10 rfl).trans ((u77 236 10 rfl).trans ((u68 236 10 rfl).trans ((u65 236 10 rfl).trans ((u59 236 10 rfl).trans w57)))))
      have e87 : h80 236 11 = h13 236 9 := ((u80 236 11 rfl).trans ((u77 236 11 rfl).trans ((u68 236 11 rfl).trans ((u65 236 11 rfl).trans w59))))
      have e88 : h80 236 27 = 0 := ((u80 236 27 rfl).trans ((u77 236 27 rfl).trans ((u68 236 27 rfl).trans ((u65 236 27 rfl).trans ((u59 236 27 rfl).trans ((u57 236 27 rfl).trans w50))))))
      have RE82 := tk_REs (t := 0) (s := tk_s0) (show tk_rn tB tn 0 tk_s0 0 = _ from tk_rn_e (by omega) (by omega))
      have e89 : h80 236 22 = 0 := w80
      have b90 := gi_b (lo := 0) (hi := 6) g 236 22 rfl
      have b91 := gi_b (lo := 0) (hi := 0) g26 239 98 rfl
      have e92 : h80 238 98 = h26 239 98 := ((u80 238 98 rfl).trans ((u77 238 98 rfl).trans ((y68_0 98 (by decide)).trans ((u65 239 98 rfl).trans ((u59 239 98 rfl).trans ((u57 239 98 rfl).trans ((u50 239 98 rfl).trans ((u48 239 98 rfl).trans ((u46 239 98 rfl).trans ((u44 239 98 rfl).trans (u42 239 98 rfl)))))))))))
      have b93 := gi_b (lo := 0) (hi := 0) g26 239 99 rfl
      have e94 : h80 238 99 = h26 239 99 := ((u80 238 99 rfl).trans ((u77 238 99 rfl).trans ((y68_0 99 (by decide)).trans ((u65 239 99 rfl).trans ((u59 239 99 rfl).trans ((u57 239 99 rfl).trans ((u50 239 99 rfl).trans ((u48 239 99 rfl).trans ((u46 239 99 rfl).trans ((u44 239 99 rfl).trans (u42 239 99 rfl)))))))))))
      have b95 := gi_b (lo := 0) (hi := 0) g26 239 100 rfl
      have e96 : h80 238 100 = h26 239 100 := ((u80 238 100 rfl).trans ((u77 238 100 rfl).trans ((y68_0 100 (by decide)).trans ((u65 239 100 rfl).trans ((u59 239 100 rfl).trans ((u57 239 100 rfl).trans ((u50 239 100 rfl).trans ((u48 239 100 rfl).trans ((u46 239 100 rfl).trans ((u44 239 100 rfl).trans (u42 239 100 rfl)))))))))))
      have b97 := gi_b (lo := 0) (hi := 0) g26 239 101 rfl
      have e98 : h80 238 101 = h26 239 101 := ((u80 238 101 rfl).trans ((u77 238 101 rfl).trans ((y68_0 101 (by decide)).trans ((u65 239 101 rfl).trans ((u59 239 101 rfl).trans ((u57 239 101 rfl).trans ((u50 239 101 rfl).trans ((u48 239 101 rfl).trans ((u46 239 101 rfl).trans ((u44 239 101 rfl).trans (u42 239 101 rfl)))))))))))
      have b99 := gi_b (lo := 0) (hi := 0) g26 239 102 rfl
      have e100 : h80 238 102 = h26 239 102 := ((u80 238 102 rfl).trans ((u77 238 102 rfl).trans ((y68_0 102 (by decide)).trans ((u65 239 102 rfl).trans ((u59 239 102 rfl).trans ((u57 239 102 rfl).trans ((u50 239 102 rfl).trans ((u48 239 102 rfl).trans ((u46 239 102 rfl).trans ((u44 239 102 rfl).trans (u42 239 102 rfl)))))))))))
      have b101 := gi_b (lo := 0) (hi := 0) g26 239 106 rfl
      have e102 : h80 238 106 = h26 239 106 := ((u80 238 106 rfl).trans ((u77 238 106 rfl).trans ((y68_0 106 (by decide)).trans ((u65 239 106 rfl).trans ((u59 239 106 rfl).trans ((u57 239 106 rfl).trans ((u50 239 106 rfl).trans ((u48 239 106 rfl).trans ((u46 239 106 rfl).trans ((u44 239 106 rfl).trans (u42 239 106 rfl)))))))))))
      have b103 := gi_b (lo := 0) (hi := 0) g26 239 73 rfl
      have e104 : h80 238 73 = h26 239 73 := ((u80 238 73 rfl).trans ((u77 238 73 rfl).trans ((y68_0 73 (by decide)).trans ((u65 239 73 rfl).trans ((u59 239 73 rfl).trans ((u57 239 73 rfl).trans ((u50 239 73 rfl).trans ((u48 239 73 rfl).trans ((u46 239 73 rfl).trans ((u44 239 73 rfl).trans (u42 239 73 rfl)))))))))))
      have e105 : h80 238 2 = h26 239 2 := ((u80 238 2 rfl).trans ((u77 238 2 rfl).trans ((y68_0 2 (by decide)).trans ((u65 239 2 rfl).trans ((u59 239 2 rfl).trans ((u57 239 2 rfl).trans ((u50 239 2 rfl).trans ((u48 239 2 rfl).trans ((u46 239 2 rfl).trans ((u44 239 2 rfl).trans (u42 239 2 rfl)))))))))))
      have b106 := gi_b (lo := 0) (hi := 0) g26 239 119 rfl
      have e107 : h80 238 119 = h26 239 119 := ((u80 238 119 rfl).trans ((u77 238 119 rfl).trans ((y68_0 119 (by decide)).trans ((u65 239 119 rfl).trans ((u59 239 119 rfl).trans ((u57 239 119 rfl).trans ((u50 239 119 rfl).trans ((u48 239 119 rfl).trans ((u46 239 119 rfl).trans ((u44 239 119 rfl).trans (u42 239 119 rfl)))))))))))
      have b108 := gi_b (lo := 0) (hi := 0) g26 239 67 rfl
      have e109 : h80 238 67 = h26 239 67 := ((u80 238 67 rfl).trans ((u77 238 67 rfl).trans ((y68_0 67 (by decide)).trans ((u65 239 67 rfl).trans ((u59 239 67 rfl).trans ((u57 239 67 rfl).trans ((u50 239 67 rfl).trans ((u48 239 67 rfl).trans ((u46 239 67 rfl).trans ((u44 239 67 rfl).trans (u42 239 67 rfl)))))))))))
      have b110 := gi_b (lo := 0) (hi := 0) g26 239 69 rfl
      have e111 : h80 238 69 = h26 239 69 := ((u80 238 69 rfl).trans ((u77 238 69 rfl).trans ((y68_0 69 (by decide)).trans ((u65 239 69 rfl).trans ((u59 239 69 rfl).trans ((u57 239 69 rfl).trans ((u50 239 69 rfl).trans ((u48 239 69 rfl).trans ((u46 239 69 rfl).trans ((u44 239 69 rfl).trans (u42 239 69 rfl)))))))))))
      have e112 : h80 238 5 = h26 239 5 := ((u80 238 5 rfl).trans ((u77 238 5 rfl).trans ((y68_0 5 (by decide)).trans ((u65 239 5 rfl).trans ((u59 239 5 rfl).trans ((u57 239 5 rfl).trans ((u50 239 5 rfl).trans ((u48 239 5 rfl).trans ((u46 239 5 rfl).trans ((u44 239 5 rfl).trans (u42 239 5 rfl)))))))))))
      have e113 : h80 236 2 = h13 236 2 := ((u80 236 2 rfl).trans ((u77 236 2 rfl).trans ((u68 236 2 rfl).trans ((u65 236 2 rfl).trans ((u59 236 2 rfl).trans ((u57 236 2 rfl).trans ((u50 236 2 rfl).trans ((u48 236 2 rfl).trans ((u46 236 2 rfl).trans ((u44 236 2 rfl).trans ((u42 236 2 rfl).trans (u26 236 2 rfl))))))))))))
      have e114 : h65 239 0 = h26 239 0 := ((u65 239 0 rfl).trans ((u59 239 0 rfl).trans ((u57 239 0 rfl).trans ((u50 239 0 rfl).trans ((u48 239 0 rfl).trans ((u46 239 0 rfl).trans ((u44 239 0 rfl).trans (u42 239 0 rfl))))))))
      have e115 : h65 239 1 = h26 239 1 := ((u65 239 1 rfl).trans ((u59 239 1 rfl).trans ((u57 239 1 rfl).trans ((u50 239 1 rfl).trans ((u48 239 1 rfl).trans ((u46 239 1 rfl).trans ((u44 239 1 rfl).trans (u42 239 1 rfl))))))))
      have e116 : h65 239 2 = h26 239 2 := ((u65 239 2 rfl).trans ((u59 239 2 rfl).trans ((u57 239 2 rfl).trans ((u50 239 2 rfl).trans ((u48 239 2 rfl).trans ((u46 239 2 rfl).trans ((u44 239 2 rfl).trans (u42 239 2 rfl))))))))
      have e117 : h65 239 3 = h26 239 3 := ((u65 239 3 rfl).trans ((u59 239 3 rfl).trans ((u57 239 3 rfl).trans ((u50 239 3 rfl).trans ((u48 239 3 rfl).trans ((u46 239 3 rfl).trans ((u44 239 3 rfl).trans (u42 239 3 rfl))))))))
      have e118 : h65 239 4 = h26 239 4 := ((u65 239 4 rfl).trans ((u59 239 4 rfl).trans ((u57 239 4 rfl).trans ((u50 239 4 rfl).trans ((u48 239 4 rfl).trans ((u46 239 4 rfl).trans ((u44 239 4 rfl).trans (u42 239 4 rfl))))))))
      have e119 : h65 239 6 = h26 239 6 := ((u65 239 6 rfl).trans ((u59 239 6 rfl).trans ((u57 239 6 rfl).trans ((u50 239 6 rfl).trans ((u48 239 6 rfl).trans ((u46 239 6 rfl).trans ((u44 239 6 rfl).trans (u42 239 6 rfl))))))))
      have e120 : h65 239 8 = h26 239 8 := ((u65 239 8 rfl).trans ((u59 239 8 rfl).trans ((u57 239 8 rfl).trans ((u50 239 8 rfl).trans ((u48 239 8 rfl).trans ((u46 239 8 rfl).trans ((u44 239 8 rfl).trans (u42 239 8 rfl))))))))
      have e121 : h65 239 9 = h26 239 9 := ((u65 239 9 rfl).trans ((u59 239 9 rfl).trans ((u57 239 9 rfl).trans ((u50 239 9 rfl).trans ((u48 239 9 rfl).trans ((u46 239 9 rfl).trans ((u44 239 9 rfl).trans (u42 239 9 rfl))))))))
      have e122 : h65 236 23 = 0 := ((u65 236 23 rfl).trans ((u59 236 23 rfl).trans ((u57 236 23 rfl).trans ((u50 236 23 rfl).trans ((u48 236 23 rfl).trans ((u46 236 23 rfl).trans ((u44 236 23 rfl).trans w42)))))))
      have e123 : h65 236 24 = 0 := ((u65 236 24 rfl).trans ((u59 236 24 rfl).trans ((u57 236 24 rfl).trans ((u50 236 24 rfl).trans ((u48 236 24 rfl).trans ((u46 236 24 rfl).trans w44))))))
      have e124 : h65 236 25 = 0 := ((u65 236 25 rfl).trans ((u59 236 25 rfl).trans ((u57 236 25 rfl).trans ((u50 236 25 rfl).trans ((u48 236 25 rfl).trans w46)))))
      have e125 : h65 236 26 = 0 := ((u65 236 26 rfl).trans ((u59 236 26 rfl).trans ((u57 236 26 rfl).trans ((u50 236 26 rfl).trans w48))))
      have cr126 : CVr tk_s0 h65 := tk_s0r (by omega) (by omega)
      exact k h80 0 g80 F81 (by omega) (show (tk_ok tB tn = 1 ∧ (h80 236 0) = 0 ∧ 0 = tk_ct tB tn ∧ (h80 236 22) = 0) ∨ (tk_ok tB tn = 0 ∧ (h80 236 0) = 1 ∧ (h80 236 22) = (h 236 22)) by omega) (show (h80 238 98) + (h80 238 99) + (h80 238 100) + (h80 238 101) + (h80 238 102) + (h80 238 106) = (h80 238 73) by omega) (show (h80 238 73) ≤ (h80 238 2) by omega) (show (h80 238 119) ≤ (h80 238 67) by omega) (show (h80 238 69) ≤ (h80 238 5) by omega) (show (h80 238 2) ≤ 12 * (h80 238 5) by omega) (show (h80 236 2) = 0 by omega) (show (h80 236 10) = tk_ec tB tn by omega) (show (h80 236 11) = tk_ep tB tn by omega) (fun _ => by rw [tk_ss_e (show tk_RES tB tn = .inr (0, tk_s0) from tk_rn_e (by omega) (by omega))]; exact CVR.of cr126 (by omega) y68_0 (fun i => ((u80 238 i (fn_a (by omega) fn_0)).trans (u77 238 i (fn_a (by decide) fn_0))))) (fun e => absurd e (by omega))
    ·
      refine wi_aload_n (i := 0) (x := 236) (nx := 101) (r1 := 0) (r2 := 0) (r3 := 0) rfl rfl ?_
      refine wr_gr (k0 := 236) (x := 243) (nx := 104) (r1 := 11) (r2 := 18) (r3 := 0) rfl rfl (by decide) rfl ⟨rfl, rfl⟩ rfl ?_
      refine wi_iload_n (i := 1) (e := x76) (nx := 105) (r1 := 0) (r2 := 0) (r3 := 0) rfl rfl ?_
      refine wi_aload_n (i := 0) (x := 236) (nx := 106) (r1 := 0) (r2 := 0) (r3 := 0) rfl rfl ?_
      refine wr_gr (k0 := 236) (x := 244) (nx := 109) (r1 := 11) (r2 := 19) (r3 := 0) rfl rfl (by decide) rfl ⟨rfl, rfl⟩ rfl ?_
      refine wi_iload_n (i := 1) (e := x76) (nx := 110) (r1 := 0) (r2 := 0) (r3 := 0) rfl rfl ?_
      obtain ⟨i80, ei80⟩ : ∃ q : Nat, x76 = (q : Int) := ⟨(x76).toNat, by omega⟩
      have b81 := gi_b (lo := -9223372036854775808) (hi := 9223372036854775807) g 244 i80 rfl
      refine wr_la (k0 := 244) (a := x76) (f := i80) (x := h 244 i80) (nx := 111) (r1 := 0) (r2 := 0) (r3 := 0) rfl (by decide) rfl (by omega) (by omega) (by decide) ((u77 244 i80 (fn_a (by decide) fn_0)).trans ((u68 244 i80 (fn_a (by decide) fn_0)).trans ((u65 244 i80 (fn_a (by omega) fn_0)).trans ((u59 244 i80 (fn_a (by omega) fn_0)).trans ((u57 244 i80 (fn_a (by omega) fn_0)).trans ((u50 244 i80 (fn_a (by omega) fn_0)).trans ((u48 244 i80 (fn_a (by omega) fn_0)).trans ((u46 244 i80 (fn_a (by omega) fn_0)).trans ((u44 244 i80 (fn_a (by omega) fn_0)).trans ((u42 244 i80 (fn_a (by omega) fn_0)).trans ((u26 244 i80 (fo_nk rfl)).trans (u13 244 i80 (fo_nk rfl))))))))))))) ?_
      refine wr_ls (k0 := 243) (a := x76) (f := i80) (x := h 244 i80) (bl := -9223372036854775808) (bh := 9223372036854775807) (nx := 112) (r1 := 0) (r2 := 0) (r3 := 0) rfl (by decide) rfl (by omega) (by omega) (by decide) g77 rfl (by omega) (fun h82 g82 w82 u82 => ?_)
      have F83 := F78.then rfl (FR.rngp (lo := 243) (hi := 243) u82 (by decide))
      have F84 := u77.then rfl (FR.rngp (lo := 243) (hi := 243) u82 (by decide))
      refine wr_iinc (i := 1) (n := 1) (v := x76) (fun e85 => [(1, vi e85), (0, .ref 236)]) (nx := 115) (r1 := 0) (r2 := 0) (r3 := 0) rfl rfl (fun _ => rfl) (fun e85 (fe85 : e85 = x76 + 1) => ?_)
      refine wi_goto (nx := 118) (r1 := 95) (r2 := 0) (r3 := 0) rfl ?_
      refine wp.lo (lo := [(0, .ref 236), (1, vi e85)]) ⟨rfl, rfl, trivial⟩ rfl ?_
      exact I77 e85 h82 ⟨g82, F83, F84, (show (0 ≤ e85 ∧ e85 ≤ 5) by omega)⟩ (show ((5 : Int) + 1 - e85).toNat < ((5 : Int) + 1 - x76).toNat by omega)
  ·
    replace q55 : 0 + 1 ≤ (h13 236 6) := by omega
    try have kf56 := TKk.n0 (B := tB) (n := tn) (p := 0) (a6 := h13 236 6) (by assumption) (by omega)
    have e58 : h50 239 0 = h26 239 0 := ((u50 239 0 rfl).trans ((u48 239 0 rfl).trans ((u46 239 0 rfl).trans ((u44 239 0 rfl).trans (u42 239 0 rfl)))))
    have e59 : h50 239 1 = h26 239 1 := ((u50 239 1 rfl).trans ((u48 239 1 rfl).trans ((u46 239 1 rfl).trans ((u44 239 1 rfl).trans (u42 239 1 rfl)))))
    have e60 : h50 239 2 = h26 239 2 := ((u50 239 2 rfl).trans ((u48 239 2 rfl).trans ((u46 239 2 rfl).trans ((u44 239 2 rfl).trans (u42 239 2 rfl)))))
    have e61 : h50 239 3 = h26 239 3 := ((u50 239 3 rfl).trans ((u48 239 3 rfl).trans ((u46 239 3 rfl).trans ((u44 239 3 rfl).trans (u42 239 3 rfl)))))
    have e62 : h50 239 4 = h26 239 4 := ((u50 239 4 rfl).trans ((u48 239 4 rfl).trans ((u46 239 4 rfl).trans ((u44 239 4 rfl).trans (u42 239 4 rfl)))))
    have e63 : h50 239 5 = h26 239 5 := ((u50 239 5 rfl).trans ((u48 239 5 rfl).trans ((u46 239 5 rfl).trans ((u44 239 5 rfl).trans (u42 239 5 rfl)))))
    have e64 : h50 239 6 = h26 239 6 := ((u50 239 6 rfl).trans ((u48 239 6 rfl).trans ((u46 239 6 rfl).trans ((u44 239 6 rfl).trans (u42 239 6 rfl)))))
    have e65 : h50 239 7 = h26 239 7 := ((u50 239 7 rfl).trans ((u48 239 7 rfl).trans ((u46 239 7 rfl).trans ((u44 239 7 rfl).trans (u42 239 7 rfl)))))
    have e66 : h50 239 8 = h26 239 8 := ((u50 239 8 rfl).trans ((u48 239 8 rfl).trans ((u46 239 8 rfl).trans ((u44 239 8 rfl).trans (u42 239 8 rfl)))))
    have e67 : h50 239 9 = h26 239 9 := ((u50 239 9 rfl).trans ((u48 239 9 rfl).trans ((u46 239 9 rfl).trans ((u44 239 9 rfl).trans (u42 239 9 rfl)))))
    have e68 : h50 236 23 = 0 := ((u50 236 23 rfl).trans ((u48 236 23 rfl).trans ((u46 236 23 rfl).trans ((u44 236 23 rfl).trans w42))))
    have e69 : h50 236 24 = 0 := ((u50 236 24 rfl).trans ((u48 236 24 rfl).trans ((u46 236 24 rfl).trans w44)))
    have e70 : h50 236 25 = 0 := ((u50 236 25 rfl).trans ((u48 236 25 rfl).trans w46))
    have e71 : h50 236 26 = 0 := ((u50 236 26 rfl).trans w48)
    have e72 : h50 236 27 = 0 := w50
    have e73 : h50 236 4 = h13 236 4 := ((u50 236 4 rfl).trans ((u48 236 4 rfl).trans ((u46 236 4 rfl).trans ((u44 236 4 rfl).trans ((u42 236 4 rfl).trans (u26 236 4 rfl))))))
    have e74 : h50 236 5 = h13 236 5 := ((u50 236 5 rfl).trans ((u48 236 5 rfl).trans ((u46 236 5 rfl).trans ((u44 236 5 rfl).trans ((u42 236 5 rfl).trans (u26 236 5 rfl))))))
    have e75 : h50 236 6 = h13 236 6 := ((u50 236 6 rfl).trans ((u48 236 6 rfl).trans ((u46 236 6 rfl).trans ((u44 236 6 rfl).trans ((u42 236 6 rfl).trans (u26 236 6 rfl))))))
    have e76 : h50 236 7 = h13 236 7 := ((u50 236 7 rfl).trans ((u48 236 7 rfl).trans ((u46 236 7 rfl).trans ((u44 236 7 rfl).trans ((u42 236 7 rfl).trans (u26 236 7 rfl))))))
    have e77 : h50 236 12 = h13 236 12 := ((u50 236 12 rfl).trans ((u48 236 12 rfl).trans ((u46 236 12 rfl).trans ((u44 236 12 rfl).trans ((u42 236 12 rfl).trans (u26 236 12 rfl))))))
    have e78 : h50 236 3 = h13 236 3 := ((u50 236 3 rfl).trans ((u48 236 3 rfl).trans ((u46 236 3 rfl).trans ((u44 236 3 rfl).trans ((u42 236 3 rfl).trans (u26 236 3 rfl))))))
    have e79 : h50 236 8 = h13 236 8 := ((u50 236 8 rfl).trans ((u48 236 8 rfl).trans ((u46 236 8 rfl).trans ((u44 236 8 rfl).trans ((u42 236 8 rfl).trans (u26 236 8 rfl))))))
    have e80 : h50 239 15 = h26 239 15 := ((u50 239 15 rfl).trans ((u48 239 15 rfl).trans ((u46 239 15 rfl).trans ((u44 239 15 rfl).trans (u42 239 15 rfl)))))
    have e81 : h50 239 16 = h26 239 16 := ((u50 239 16 rfl).trans ((u48 239 16 rfl).trans ((u46 239 16 rfl).trans ((u44 239 16 rfl).trans (u42 239 16 rfl)))))
    have e82 : h50 239 17 = h26 239 17 := ((u50 239 17 rfl).trans ((u48 239 17 rfl).trans ((u46 239 17 rfl).trans ((u44 239 17 rfl).trans (u42 239 17 rfl)))))
    have e83 : h50 239 18 = h26 239 18 := ((u50 239 18 rfl).trans ((u48 239 18 rfl).trans ((u46 239 18 rfl).trans ((u44 239 18 rfl).trans (u42 239 18 rfl)))))
    have e84 : h50 236 9 = h13 236 9 := ((u50 236 9 rfl).trans ((u48 236 9 rfl).trans ((u46 236 9 rfl).trans ((u44 236 9 rfl).trans ((u42 236 9 rfl).trans (u26 236 9 rfl))))))
    refine wl_0 (fun h57 => GI h57 ∧ FR [(238, 238, none), (243, 243, none), (244, 244, none), (236, 236, some (0, 0)), (236, 236, some (2, 2)), (236, 236, some (3, 3)), (236, 236, some (4, 4)), (236, 236, some (5, 5)), (236, 236, some (6, 6)), (236, 236, some (7, 7)), (236, 236, some (8, 8)), (236, 236, some (9, 9)), (236, 236, some (10, 10)), (236, 236, some (11, 11)), (236, 236, some (12, 12)), (236, 236, some (22, 22)), (236, 236, some (23, 23)), (236, 236, some (24, 24)), (236, 236, some (25, 25)), (236, 236, some (26, 26)), (236, 236, some (27, 27)), (239, 239, some (0, 0)), (239, 239, some (1, 1)), (239, 239, some (2, 2)), (239, 239, some (3, 3)), (239, 239, some (4, 4)), (239, 239, some (5, 5)), (239, 239, some (6, 6)), (239, 239, some (7, 7)), (239, 239, some (8, 8)), (239, 239, some (9, 9)), (239, 239, some (10, 14)), (239, 239, some (15, 15)), (239, 239, some (16, 16)), (239, 239, some (17, 17)), (239, 239, some (18, 18)), (239, 239, some (19, 30)), (239, 239, some (31, 42)), (239, 239, some (43, 54)), (239, 239, some (55, 55)), (239, 239, some (56, 56)), (239, 239, some (57, 57)), (239, 239, some (58, 58)), (239, 239, some (59, 59)), (239, 239, some (60, 60)), (239, 239, some (61, 61)), (239, 239, some (62, 62)), (239, 239, some (63, 63)), (239, 239, some (64, 64)), (239, 239, some (65, 65)), (239, 239, some (66, 66)), (239, 239, some (67, 67)), (239, 239, some (68, 68)), (239, 239, some (69, 69)), (239, 239, some (70, 70)), (239, 239, some (71, 71)), (239, 239, some (72, 72)), (239, 239, some (73, 73)), (239, 239, some (74, 74)), (239, 239, some (75, 75)), (239, 239, some (76, 76)), (239, 239, some (77, 77)), (239, 239, some (78, 78)), (239, 239, some (79, 79)), (239, 239, some (80, 80)), (239, 239, some (81, 81)), (239, 239, some (82, 82)), (239, 239, some (83, 83)), (239, 239, some (84, 84)), (239, 239, some (85, 85)), (239, 239, some (86, 86)), (239, 239, some (87, 87)), (239, 239, some (88, 88)), (239, 239, some (89, 89)), (239, 239, some (90, 90)), (239, 239, some (91, 91)), (239, 239, some (92, 92)), (239, 239, some (93, 93)), (239, 239, some (94, 94)), (239, 239, some (95, 95)), (239, 239, some (96, 96)), (239, 239, some (97, 97)), (239, 239, some (98, 98)), (239, 239, some (99, 99)), (239, 239, some (100, 100)), (239, 239, some (101, 101)), (239, 239, some (102, 102)), (239, 239, some (103, 103)), (239, 239, some (104, 104)), (239, 239, some (105, 105)), (239, 239, some (106, 106)), (239, 239, some (107, 107)), (239, 239, some (108, 108)), (239, 239, some (109, 109)), (239, 239, some (110, 110)), (239, 239, some (111, 111)), (239, 239, some (112, 112)), (239, 239, some (113, 113)), (239, 239, some (114, 114)), (239, 239, some (115, 115)), (239, 239, some (116, 116)), (239, 239, some (117, 117)), (239, 239, some (118, 118)), (239, 239, some (119, 119)), (239, 239, some (120, 120)), (239, 239, some (121, 121)), (239, 239, some (122, 122)), (239, 239, some (123, 123)), (239, 239, some (124, 124)), (239, 239, some (125, 125)), (239, 239, some (126, 126)), (239, 239, some (127, 127)), (239, 239, some (128, 128)), (239, 239, some (129, 129)), (239, 239, some (130, 130)), (239, 239, some (131, 131)), (239, 239, some (132, 132)), (239, 239, some (133, 133)), (239, 239, some (134, 134)), (239, 239, some (135, 135)), (239, 239, some (136, 136)), (239, 239, some (137, 137)), (239, 239, some (138, 138)), (239, 239, some (139, 139)), (239, 239, some (140, 140)), (239, 239, some (141, 141)), (239, 239, some (142, 142)), (239, 239, some (143, 143)), (239, 239, some (144, 144)), (239, 239, some (145, 145)), (239, 239, some (146, 146)), (239, 239, some (147, 147)), (239, 239, some (148, 148)), (239, 239, some (149, 149)), (239, 239, some (150, 150)), (239, 239, some (151, 151)), (239, 239, some (152, 152)), (239, 239, some (153, 153)), (239, 239, some (154, 154)), (239, 239, some (155, 155)), (239, 239, some (156, 156)), (239, 239, some (157, 157)), (239, 239, some (158, 158)), (239, 239, some (159, 159)), (239, 239, some (160, 160)), (239, 239, some (161, 161)), (239, 239, some (162, 162)), (239, 239, some (163, 163)), (239, 239, some (164, 164)), (239, 239, some (165, 165)), (239, 239, some (166, 166)), (239, 239, some (167, 167)), (239, 239, some (168, 168)), (239, 239, some (169, 169)), (239, 239, some (170, 170)), (239, 239, some (171, 171)), (239, 239, some (172, 172)), (239, 239, some (173, 173)), (239, 239, some (174, 174)), (239, 239, some (175, 175)), (239, 239, some (176, 176)), (239, 239, some (177, 177)), (239, 239, some (178, 178)), (239, 239, some (179, 179)), (239, 239, some (180, 180)), (239, 239, some (181, 181)), (239, 239, some (182, 182)), (239, 239, some (183, 183)), (239, 239, some (184, 184)), (239, 239, some (185, 185)), (239, 239, some (186, 186)), (239, 239, some (187, 187)), (239, 239, some (188, 188)), (239, 239, some (189, 189)), (239, 239, some (190, 190)), (239, 239, some (191, 191)), (239, 239, some (192, 192)), (239, 239, some (193, 193)), (239, 239, some (194, 194)), (239, 239, some (195, 195)), (239, 239, some (196, 196)), (239, 239, some (197, 197)), (239, 239, some (198, 198)), (239, 239, some (199, 199))] h h57 ∧ FR [(244, 244, none), (236, 236, some (4, 4)), (236, 236, some (5, 5)), (236, 236, some (6, 6)), (236, 236, some (7, 7)), (236, 236, some (8, 8)), (236, 236, some (9, 9)), (236, 236, some (12, 12)), (236, 236, some (23, 23)), (236, 236, some (24, 24)), (236, 236, some (25, 25)), (236, 236, some (26, 26)), (236, 236, some (27, 27)), (239, 239, some (0, 0)), (239, 239, some (1, 1)), (239, 239, some (2, 2)), (239, 239, some (3, 3)), (239, 239, some (4, 4)), (239, 239, some (5, 5)), (239, 239, some (6, 6)), (239, 239, some (7, 7)), (239, 239, some (8, 8)), (239, 239, some (9, 9)), (239, 239, some (10, 14)), (239, 239, some (15, 15)), (239, 239, some (16, 16)), (239, 239, some (17, 17)), (239, 239, some (18, 18)), (239, 239, some (19, 30)), (239, 239, some (31, 42)), (239, 239, some (43, 54))] h50 h57 ∧ (((h57 236 4) ≤ (h57 236 3)) ∧ ((h57 236 8) = 0) ∧ ((h57 236 6) ≠ 0) ∧ ((h57 239 5) ≤ 9) ∧ (1 ≤ (h57 239 5)) ∧ ((h57 239 7) ≤ 3) ∧ ((h57 239 15) ≤ 6) ∧ ((h57 239 16) ≤ 6) ∧ ((h57 239 17) ≤ 6) ∧ ((h57 239 18) ≤ 6) ∧ ((h57 236 9) = -1) ∧ (0 ≤ (h57 236 27)) ∧ ((h57 236 27) ≤ (h57 236 4))) ∧ (∃ (s : tk_S) (p : Int), 0 ≤ p ∧ p ≤ tn ∧ CVr s h57 ∧ TKr tB tn p h57 ∧ tk_rn tB tn p s (h57 236 27) = tk_RES tB tn ∧ h57 236 27 ≤ p ∧ 0 ≤ h57 236 27)) (fun h57 => ((h57 236 3) - (h57 236 4)).toNat) (fun h57 => (50, [(0, .ref 236)], [], hp_w h57 cr, b, c)) ?_ h50 ⟨g50, F51, FR.refl, (show ((h50 236 4) ≤ (h50 236 3)) ∧ ((h50 236 8) = 0) ∧ ((h50 236 6) ≠ 0) ∧ ((h50 239 5) ≤ 9) ∧ (1 ≤ (h50 239 5)) ∧ ((h50 239 7) ≤ 3) ∧ ((h50 239 15) ≤ 6) ∧ ((h50 239 16) ≤ 6) ∧ ((h50 239 17) ≤ 6) ∧ ((h50 239 18) ≤ 6) ∧ ((h50 236 9) = -1) ∧ (0 ≤ (h50 236 27)) ∧ ((h50 236 27) ≤ (h50 236 4)) by omega), ⟨tk_s0, 0, by omega, by omega, tk_s0r (by omega) (by omega), (by first | assumption | exact ⟨by omega, by omega, TKk.mv (by assumption) (by omega) (by omega) (by omega)⟩), (show tk_rn tB tn 0 tk_s0 (h50 236 27) = tk_RES tB tn by rw [show h50 236 27 = 0 by omega]; rfl), by omega, by omega⟩⟩
    intro h57 ⟨g57, F85, u57, f57, X57_0⟩ I57
    have e86 : h57 236 3 = h13 236 3 := ((u57 236 3 rfl).trans ((u50 236 3 rfl).trans ((u48 236 3 rfl).trans ((u46 236 3 rfl).trans ((u44 236 3 rfl).trans ((u42 236 3 rfl).trans (u26 236 3 rfl)))))))
    have b87 := gi_b (lo := 0) (hi := 800) g57 236 4 rfl
    have b88 := gi_b (lo := 0) (hi := 5) g57 236 8 rfl
    have b89 := gi_b (lo := 0) (hi := 4) g57 236 6 rfl
    have b90 := gi_b (lo := 0) (hi := 999) g57 239 5 rfl
    have b91 := gi_b (lo := 0) (hi := 999) g57 239 7 rfl
    have b92 := gi_b (lo := 0) (hi := 999) g57 239 15 rfl
    have b93 := gi_b (lo := 0) (hi := 999) g57 239 16 rfl
    have b94 := gi_b (lo := 0) (hi := 999) g57 239 17 rfl
    have b95 := gi_b (lo := 0) (hi := 999) g57 239 18 rfl
    have b96 := gi_b (lo := -2147483648) (hi := 2147483647) g57 236 9 rfl
    have b97 := gi_b (lo := -2147483648) (hi := 2147483647) g57 236 27 rfl
    have b98 := gi_b (lo := 0) (hi := 800) g57 236 5 rfl
    have b99 := gi_b (lo := 0) (hi := 999) g57 236 7 rfl
    have b100 := gi_b (lo := -9223372036854775808) (hi := 9223372036854775807) g57 236 12 rfl
    obtain ⟨s57, p57, pa57, pb57, cs57, tk57, rs57, pc57, pd57⟩ := X57_0
    obtain ⟨⟨rv_0, rv_1, rv_2, rv_3, rv_4, rv_5, rv_6, rv_7, rv_8, rv_9⟩, ⟨rf_0, rf_1, rf_2, rf_3⟩, -⟩ := id cs57
    obtain ⟨ta57, tb57, tc57⟩ : _ ∧ _ ∧ TKk tB tn p57 (h57 236 6) (h57 236 7) (h57 236 12) := id tk57
    have b101 := gi_b (lo := 0) (hi := 5) g57 239 0 rfl
    have b102 := gi_b (lo := 0) (hi := 4) g57 239 1 rfl
    have b103 := gi_b (lo := 0) (hi := 12) g57 239 2 rfl
    have tN104 := @tk_nx_b tB tn p57 (by omega) (by omega)
    have kz57 : tk_kd tB tn p57 ≠ 0 := TKk.n0 tc57 (by omega)
    refine wi_aload_n (i := 0) (x := 236) (nx := 51) (r1 := 0) (r2 := 0) (r3 := 0) rfl rfl ?_
    refine wr_V (k0 := 236) (rest := []) (as := [.ref 236]) (nx := 54) (r1 := 220) (r2 := 0) (r3 := 11) rfl rfl rfl (of_decide_eq_true rfl) rfl rfl (by decide) rfl rfl (of_decide_eq_true rfl) (of_decide_eq_true rfl) ?_
    have rb106 := RefB.fr u26 rfl y13_0
    have rb107 := RefB.fr u42 rfl rb106
    have rb108 := RefB.fr u44 rfl rb107
    have rb109 := RefB.fr u46 rfl rb108
    have rb110 := RefB.fr u48 rfl rb109
    have rb111 := RefB.fr u50 rfl rb110
    have rb112 := RefB.fr u57 rfl rb111
    refine ct_220_236 hcr  g57   (show (h57 236 4) ≤ (h57 236 3) by omega) (show 0 ≤ p57 by omega) (show p57 ≤ tn by omega) (show p57 ≤ tk_nx tB tn p57 ∧ tk_nx tB tn p57 ≤ tn from ⟨by omega, by omega⟩) (show (h57 236 8) = 0 by omega) (show (h57 239 5) ≤ 9 by omega) (show 1 ≤ (h57 239 5) by omega) (show (h57 239 7) ≤ 3 by omega) (show (h57 239 15) ≤ 6 by omega) (show (h57 239 16) ≤ 6 by omega) (show (h57 239 17) ≤ 6 by omega) (show (h57 239 18) ≤ 6 by omega) (show ((h57 236 4) = tk_nx tB tn p57 ∧ (h57 236 5) = tk_st tB tn p57 ∧ TKk tB tn p57 ((h57 236 6)) ((h57 236 7)) ((h57 236 12))) by first | assumption | exact ⟨by omega, by omega, TKk.mv (by assumption) (by omega) (by omega) (by omega)⟩) (show s57 0 ≤ 5 ∧ s57 1 ≤ 4 ∧ s57 2 ≤ 12 from ⟨by omega, by omega, by omega⟩) (show (h57 236 9) = -1 by omega) rb112 cs57 (fun h105 g105 u105 (p105_0 : (h105 236 8) = 0 ∨ 1 ≤ (h105 236 8)) (p105_1 : (h57 236 4) ≤ (h105 236 4)) (p105_2 : (h105 236 4) ≤ (h57 236 3)) (p105_3 : 1 ≤ (h105 236 8) ∨ ((h105 239 5) ≤ 9 ∧ 1 ≤ (h105 239 5) ∧ (h105 239 7) ≤ 3 ∧ (h105 239 15) ≤ 6 ∧ (h105 239 16) ≤ 6 ∧ (h105 239 17) ≤ 6 ∧ (h105 239 18) ≤ 6)) (p105_4 : (h105 236 8) ≠ 0 ∨ (h105 236 9) = -1) y105_0 => ?_)
    have F113 := F85.then (by decide +kernel) u105
    have F114 := u57.then (by decide +kernel) u105
    have b115 := gi_b (lo := 0) (hi := 5) g105 236 8 rfl
    have b116 := gi_b (lo := 0) (hi := 800) g105 236 4 rfl
    have b117 := gi_b (lo := 0) (hi := 999) g105 239 5 rfl
    have b118 := gi_b (lo := 0) (hi := 999) g105 239 7 rfl
    have b119 := gi_b (lo := 0) (hi := 999) g105 239 15 rfl
    have b120 := gi_b (lo := 0) (hi := 999) g105 239 16 rfl
    have b121 := gi_b (lo := 0) (hi := 999) g105 239 17 rfl
    have b122 := gi_b (lo := 0) (hi := 999) g105 239 18 rfl
    have b123 := gi_b (lo := -2147483648) (hi := 2147483647) g105 236 9 rfl
    refine wk_n ?_
    rcases p105_0 with p105_0 | p105_0
    ·
      replace p105_3 := p105_3.resolve_left (by omega)
      replace p105_4 := p105_4.resolve_left (by omega)
      have b125 := gi_b (lo := 0) (hi := 800) g105 236 5 rfl
      have b126 := gi_b (lo := 0) (hi := 4) g105 236 6 rfl
      have b127 := gi_b (lo := 0) (hi := 999) g105 236 7 rfl
      have b128 := gi_b (lo := -9223372036854775808) (hi := 9223372036854775807) g105 236 12 rfl
      obtain ⟨q124, sq124, eqq124, tkq124, cvq124⟩ := tk_ORt y105_0 (by omega)
      have loq124 := tk_stmB (by omega) (by omega) q124 sq124 eqq124
      obtain ⟨taq124, tbq124, tcq124⟩ : _ ∧ _ ∧ TKk tB tn q124 (h105 236 6) (h105 236 7) (h105 236 12) := id tkq124
      have tN129 := @tk_nx_b tB tn q124 (by omega) (by omega)
      refine wi_aload_n (i := 0) (x := 236) (nx := 55) (r1 := 0) (r2 := 0) (r3 := 0) rfl rfl ?_
      refine wi_bipush (n := 59) (nx := 57) (r1 := 0) (r2 := 0) (r3 := 0) rfl (by decide) ?_
      refine wr_V (k0 := 236) (rest := []) (as := [.ref 236, vi 59]) (nx := 60) (r1 := 235) (r2 := 1) (r3 := 11) rfl rfl rfl (of_decide_eq_true rfl) rfl rfl (by decide) rfl rfl (of_decide_eq_true rfl) (of_decide_eq_true rfl) ?_
      have e131 : h105 236 3 = h13 236 3 := ((u105 236 3 rfl).trans ((u57 236 3 rfl).trans ((u50 236 3 rfl).trans ((u48 236 3 rfl).trans ((u46 236 3 rfl).trans ((u44 236 3 rfl).trans ((u42 236 3 rfl).trans (u26 236 3 rfl))))))))
      have rb132 := RefB.fr u105 rfl rb112
      refine ct_235_236_L59 hcr  g105   (show (h105 236 4) ≤ (h105 236 3) by omega) (show 0 ≤ q124 by omega) (show q124 ≤ tn by omega) (show q124 ≤ tk_nx tB tn q124 ∧ tk_nx tB tn q124 ≤ tn from ⟨by omega, by omega⟩) (show 1 ≤ (h105 236 8) ∨ ((h105 236 4) = tk_nx tB tn q124 ∧ (h105 236 5) = tk_st tB tn q124 ∧ TKk tB tn q124 ((h105 236 6)) ((h105 236 7)) ((h105 236 12))) from (Or.inr (show ((h105 236 4) = tk_nx tB tn q124 ∧ (h105 236 5) = tk_st tB tn q124 ∧ TKk tB tn q124 ((h105 236 6)) ((h105 236 7)) ((h105 236 12))) by first | assumption | exact ⟨by omega, by omega, TKk.mv (by assumption) (by omega) (by omega) (by omega)⟩))) rb132 (fun h130 g130 u130 (p130_0 : (1 ≤ (h105 236 8) ∧ (h130 236 8) = (h105 236 8) ∧ (h130 236 9) = (h105 236 9)) ∨ ((h105 236 8) = 0 ∧ tk_kd tB tn q124 = 3 ∧ (h130 236 8) = (h105 236 8) ∧ (h130 236 9) = (h105 236 9) ∧ ((h130 236 4) = tk_nx tB tn (tk_nx tB tn q124) ∧ (h130 236 5) = tk_st tB tn (tk_nx tB tn q124) ∧ TKk tB tn (tk_nx tB tn q124) ((h130 236 6)) ((h130 236 7)) ((h130 236 12)))) ∨ ((h105 236 8) = 0 ∧ tk_kd tB tn q124 ≠ 3 ∧ (h130 236 8) = 1 ∧ (h130 236 9) = tk_st tB tn q124)) (p130_1 : (h105 236 4) ≤ (h130 236 4)) (p130_2 : (h130 236 4) ≤ (h105 236 3)) (p130_3 : 1 ≤ (h130 236 8) ∨ (h105 236 8) = 0) (p130_4 : 1 ≤ (h130 236 8) ∨ (h130 236 6) = 0 ∨ (h105 236 4) + 1 ≤ (h130 236 4)) => ?_)
      have F133 := F113.then (by decide +kernel) u130
      have F134 := F114.then (by decide +kernel) u130
      have b135 := gi_b (lo := 0) (hi := 5) g130 236 8 rfl
      have b136 := gi_b (lo := -2147483648) (hi := 2147483647) g130 236 9 rfl
      have b137 := gi_b (lo := 0) (hi := 800) g130 236 4 rfl
      have b138 := gi_b (lo := 0) (hi := 800) g130 236 5 rfl
      have b139 := gi_b (lo := 0) (hi := 4) g130 236 6 rfl
      have b140 := gi_b (lo := 0) (hi := 999) g130 236 7 rfl
      have b141 := gi_b (lo := -9223372036854775808) (hi := 9223372036854775807) g130 236 12 rfl
      refine wk_n ?_
      rcases p130_0 with p130_0 | p130_0 | p130_0
      ·
        exfalso; omega
      ·
        replace p130_3 := p130_3.resolve_left (by omega)
        have tkk142 := (p130_0.2.2.2.2).2.2
        have tN143 := @tk_nx_b tB tn (tk_nx tB tn q124) (by omega) (by omega)
        refine wi_aload_n (i := 0) (x := 236) (nx := 61) (r1 := 0) (r2 := 0) (r3 := 0) rfl rfl ?_
        refine wi_dup (nx := 62) (r1 := 0) (r2 := 0) (r3 := 0) rfl rfl ?_
        refine wr_gi0 (k0 := 236) (x := h57 236 27) (nx := 65) (r1 := 11) (r2 := 27) (r3 := 0) rfl rfl (by decide) rfl ⟨rfl, rfl⟩ rfl ((u130 236 27 rfl).trans (u105 236 27 rfl)) ?_
        refine wi_iconst (n := 1) (nx := 66) (r1 := 0) (r2 := 0) (r3 := 0) rfl ?_
        refine wr_add (nx := 67) (r1 := 0) (r2 := 0) (r3 := 0) rfl (fun e144 (fe144 : e144 = (h57 236 27) + 1) => ?_)
        refine wr_pf0 (k0 := 236) (x := e144) (bl := -2147483648) (bh := 2147483647) (nx := 70) (r1 := 11) (r2 := 27) (r3 := 0) rfl (by decide) rfl ⟨rfl, rfl⟩ rfl rfl g130 rfl (by omega) (fun h145 g145 w145 u145 => ?_)
        have F146 := F133.then rfl u145
        have F147 := F134.then rfl u145
        refine wi_goto (nx := 73) (r1 := 36) (r2 := 0) (r3 := 0) rfl ?_
        refine wi_aload_n (i := 0) (x := 236) (nx := 37) (r1 := 0) (r2 := 0) (r3 := 0) rfl rfl ?_
        refine wr_V (k0 := 236) (rest := []) (as := [.ref 236]) (nx := 40) (r1 := 219) (r2 := 0) (r3 := 11) rfl rfl rfl (of_decide_eq_true rfl) rfl rfl (by decide) rfl rfl (of_decide_eq_true rfl) (of_decide_eq_true rfl) ?_
        refine wi_aload_n (i := 0) (x := 236) (nx := 1) (r1 := 0) (r2 := 0) (r3 := 0) rfl rfl ?_
        refine wr_gi0 (k0 := 236) (x := h130 236 8) (nx := 4) (r1 := 11) (r2 := 8) (r3 := 0) rfl rfl (by decide) rfl ⟨rfl, rfl⟩ rfl (u145 236 8 rfl) ?_
        refine wi_if (cd := .ne) (nx := 7) (r1 := 11) (r2 := 0) (r3 := 0) rfl (by omega) (fun (q148 : (h130 236 8) ≠ 0) => by exfalso; omega) (fun (q148 : ¬ ((h130 236 8) ≠ 0)) => ?_)
        refine wi_iconst (n := 1) (nx := 8) (r1 := 0) (r2 := 0) (r3 := 0) rfl ?_
        refine wi_goto (nx := 11) (r1 := 12) (r2 := 0) (r3 := 0) rfl ?_
        refine wi_zreturn (nx := 13) (r1 := 0) (r2 := 0) (r3 := 0) rfl rfl (by omega) ?_
        refine wk_i ?_
        refine wi_if (cd := .eq) (nx := 43) (r1 := 73) (r2 := 0) (r3 := 0) rfl (by omega) (fun (q150 : 1 = 0) => by exfalso; omega) (fun (q150 : ¬ (1 = 0)) => ?_)
        refine wi_aload_n (i := 0) (x := 236) (nx := 44) (r1 := 0) (r2 := 0) (r3 := 0) rfl rfl ?_
        refine wr_gi0 (k0 := 236) (x := h130 236 6) (nx := 47) (r1 := 11) (r2 := 6) (r3 := 0) rfl rfl (by decide) rfl ⟨rfl, rfl⟩ rfl (u145 236 6 rfl) ?_
        refine wi_if (cd := .eq) (nx := 50) (r1 := 73) (r2 := 0) (r3 := 0) rfl (by omega) (fun (q151 : (h130 236 6) = 0) => ?_) (fun (q151 : ¬ ((h130 236 6) = 0)) => ?_)
        ·
          try have kf152 := TKk.e0 (B := tB) (n := tn) (p := (tk_nx tB tn q124)) (a6 := h130 236 6) (by assumption) (by omega)
          refine wi_aload_n (i := 0) (x := 236) (nx := 74) (r1 := 0) (r2 := 0) (r3 := 0) rfl rfl ?_
          refine wr_V (k0 := 236) (rest := []) (as := [.ref 236]) (nx := 77) (r1 := 237) (r2 := 0) (r3 := 11) rfl rfl rfl (of_decide_eq_true rfl) rfl rfl (by decide) rfl rfl (of_decide_eq_true rfl) (of_decide_eq_true rfl) ?_
          refine wi_aload_n (i := 0) (x := 236) (nx := 1) (r1 := 0) (r2 := 0) (r3 := 0) rfl rfl ?_
          refine wi_aload_n (i := 0) (x := 236) (nx := 2) (r1 := 0) (r2 := 0) (r3 := 0) rfl rfl ?_
          refine wr_gi0 (k0 := 236) (x := h130 236 8) (nx := 5) (r1 := 11) (r2 := 8) (r3 := 0) rfl rfl (by decide) rfl ⟨rfl, rfl⟩ rfl (u145 236 8 rfl) ?_
          refine wr_pf0 (k0 := 236) (x := h130 236 8) (bl := -2147483648) (bh := 2147483647) (nx := 8) (r1 := 11) (r2 := 10) (r3 := 0) rfl (by decide) rfl ⟨rfl, rfl⟩ rfl rfl g145 rfl (by omega) (fun h153 g153 w153 u153 => ?_)
          have F154 := F146.then rfl u153
          refine wi_aload_n (i := 0) (x := 236) (nx := 9) (r1 := 0) (r2 := 0) (r3 := 0) rfl rfl ?_
          refine wi_aload_n (i := 0) (x := 236) (nx := 10) (r1 := 0) (r2 := 0) (r3 := 0) rfl rfl ?_
          refine wr_gi0 (k0 := 236) (x := h130 236 9) (nx := 13) (r1 := 11) (r2 := 9) (r3 := 0) rfl rfl (by decide) rfl ⟨rfl, rfl⟩ rfl ((u153 236 9 rfl).trans (u145 236 9 rfl)) ?_
          refine wr_pf0 (k0 := 236) (x := h130 236 9) (bl := -2147483648) (bh := 2147483647) (nx := 16) (r1 := 11) (r2 := 11) (r3 := 0) rfl (by decide) rfl ⟨rfl, rfl⟩ rfl rfl g153 rfl (by omega) (fun h155 g155 w155 u155 => ?_)
          have F156 := F154.then rfl u155
          refine wi_aload_n (i := 0) (x := 236) (nx := 17) (r1 := 0) (r2 := 0) (r3 := 0) rfl rfl ?_
          refine wi_aload_n (i := 0) (x := 236) (nx := 18) (r1 := 0) (r2 := 0) (r3 := 0) rfl rfl ?_
          refine wr_gi0 (k0 := 236) (x := h130 236 8) (nx := 21) (r1 := 11) (r2 := 8) (r3 := 0) rfl rfl (by decide) rfl ⟨rfl, rfl⟩ rfl ((u155 236 8 rfl).trans ((u153 236 8 rfl).trans (u145 236 8 rfl))) ?_
          refine wi_if (cd := .ne) (nx := 24) (r1 := 28) (r2 := 0) (r3 := 0) rfl (by omega) (fun (q157 : (h130 236 8) ≠ 0) => by exfalso; omega) (fun (q157 : ¬ ((h130 236 8) ≠ 0)) => ?_)
          refine wi_iconst (n := 1) (nx := 25) (r1 := 0) (r2 := 0) (r3 := 0) rfl ?_
          refine wi_goto (nx := 28) (r1 := 29) (r2 := 0) (r3 := 0) rfl ?_
          refine wr_V (k0 := 236) (rest := []) (as := [.ref 236, vi 1]) (nx := 32) (r1 := 206) (r2 := 1) (r3 := 11) rfl rfl rfl (of_decide_eq_true rfl) rfl rfl (by decide) rfl rfl (of_decide_eq_true rfl) (of_decide_eq_true rfl) ?_
          refine wi_aload_n (i := 0) (x := 236) (nx := 1) (r1 := 0) (r2 := 0) (r3 := 0) rfl rfl ?_
          refine wi_iload_n (i := 1) (e := 1) (nx := 2) (r1 := 0) (r2 := 0) (r3 := 0) rfl rfl ?_
          refine wi_if (cd := .ne) (nx := 5) (r1 := 9) (r2 := 0) (r3 := 0) rfl (by omega) (fun (q159 : 1 ≠ 0) => ?_) (fun (q159 : ¬ (1 ≠ 0)) => by exfalso; omega)
          refine wi_iconst (n := 0) (nx := 10) (r1 := 0) (r2 := 0) (r3 := 0) rfl ?_
          refine wi_S (rest := [.ref 236]) (as := [vi 0]) (nx := 13) (r1 := 207) (r2 := 17) (r3 := 0) rfl rfl rfl (of_decide_eq_true rfl) rfl rfl (of_decide_eq_true rfl) (of_decide_eq_true rfl) ?_
          refine wi_iload_n (i := 0) (e := 0) (nx := 1) (r1 := 0) (r2 := 0) (r3 := 0) rfl rfl ?_
          refine wi_if (cd := .eq) (nx := 4) (r1 := 8) (r2 := 0) (r3 := 0) rfl (by omega) (fun (q160 : 0 = 0) => ?_) (fun (q160 : ¬ (0 = 0)) => by exfalso; omega)
          refine wi_iconst (n := 0) (nx := 9) (r1 := 0) (r2 := 0) (r3 := 0) rfl ?_
          refine wi_ireturn (nx := 10) (r1 := 0) (r2 := 0) (r3 := 0) rfl rfl ?_
          refine wk_i ?_
          refine wr_pf0 (k0 := 236) (x := 0) (bl := 0) (bh := 2) (nx := 16) (r1 := 11) (r2 := 0) (r3 := 0) rfl (by decide) rfl ⟨rfl, rfl⟩ rfl rfl g155 rfl (by omega) (fun h161 g161 w161 u161 => ?_)
          have F162 := F156.then rfl u161
          refine wi_iload_n (i := 1) (e := 1) (nx := 17) (r1 := 0) (r2 := 0) (r3 := 0) rfl rfl ?_
          refine wi_zreturn (nx := 18) (r1 := 0) (r2 := 0) (r3 := 0) rfl rfl (by omega) ?_
          refine wk_i ?_
          refine wi_zreturn (nx := 33) (r1 := 0) (r2 := 0) (r3 := 0) rfl rfl (by omega) ?_
          refine wk_i ?_
          refine wi_if (cd := .ne) (nx := 80) (r1 := 82) (r2 := 0) (r3 := 0) rfl (by omega) (fun (q163 : 1 ≠ 0) => ?_) (fun (q163 : ¬ (1 ≠ 0)) => by exfalso; omega)
          refine wi_aload_n (i := 0) (x := 236) (nx := 83) (r1 := 0) (r2 := 0) (r3 := 0) rfl rfl ?_
          refine wr_gr (k0 := 236) (x := 239) (nx := 86) (r1 := 11) (r2 := 14) (r3 := 0) rfl rfl (by decide) rfl ⟨rfl, rfl⟩ rfl ?_
          refine wi_aload_n (i := 0) (x := 236) (nx := 87) (r1 := 0) (r2 := 0) (r3 := 0) rfl rfl ?_
          refine wr_gr (k0 := 236) (x := 238) (nx := 90) (r1 := 11) (r2 := 13) (r3 := 0) rfl rfl (by decide) rfl ⟨rfl, rfl⟩ rfl ?_
          refine wi_S (rest := []) (as := [.ref 239, .ref 238]) (nx := 93) (r1 := 238) (r2 := 18) (r3 := 0) rfl rfl rfl (of_decide_eq_true rfl) rfl rfl (of_decide_eq_true rfl) (of_decide_eq_true rfl) ?_
          have e165 : h161 239 5 = h105 239 5 := ((u161 239 5 rfl).trans ((u155 239 5 rfl).trans ((u153 239 5 rfl).trans ((u145 239 5 rfl).trans (u130 239 5 rfl)))))
          have e166 : h161 239 7 = h105 239 7 := ((u161 239 7 rfl).trans ((u155 239 7 rfl).trans ((u153 239 7 rfl).trans ((u145 239 7 rfl).trans (u130 239 7 rfl)))))
          have e167 : h161 239 15 = h105 239 15 := ((u161 239 15 rfl).trans ((u155 239 15 rfl).trans ((u153 239 15 rfl).trans ((u145 239 15 rfl).trans (u130 239 15 rfl)))))
          have e168 : h161 239 16 = h105 239 16 := ((u161 239 16 rfl).trans ((u155 239 16 rfl).trans ((u153 239 16 rfl).trans ((u145 239 16 rfl).trans (u130 239 16 rfl)))))
          have e169 : h161 239 17 = h105 239 17 := ((u161 239 17 rfl).trans ((u155 239 17 rfl).trans ((u153 239 17 rfl).trans ((u145 239 17 rfl).trans (u130 239 17 rfl)))))
          have e170 : h161 239 18 = h105 239 18 := ((u161 239 18 rfl).trans ((u155 239 18 rfl).trans ((u153 239 18 rfl).trans ((u145 239 18 rfl).trans (u130 239 18 rfl)))))
          refine ct_238_239_238 hcr  g161    (gi_read g161 (by refine ⟨?_, ?_, ?_, ?_, ?_, ?_⟩ <;> omega)) (fun h164 g164 u164 y164_0 => ?_)
          have F171 := F162.then (by decide +kernel) u164
          refine wk_n ?_
          refine wi_iconst (n := 0) (nx := 94) (r1 := 0) (r2 := 0) (r3 := 0) rfl ?_
          refine wi_istore_n (i := 1) (e := 0) (lo2 := [(1, vi 0), (0, .ref 236)]) (nx := 95) (r1 := 0) (r2 := 0) (r3 := 0) rfl rfl ?_
          refine wp.lo (lo := [(0, .ref 236), (1, vi 0)]) ⟨rfl, rfl, trivial⟩ rfl ?_
          refine wl_1 (fun x172 h173 => GI h173 ∧ FR [(238, 238, none), (243, 243, none), (244, 244, none), (236, 236, some (0, 0)), (236, 236, some (2, 2)), (236, 236, some (3, 3)), (236, 236, some (4, 4)), (236, 236, some (5, 5)), (236, 236, some (6, 6)), (236, 236, some (7, 7)), (236, 236, some (8, 8)), (236, 236, some (9, 9)), (236, 236, some (10, 10)), (236, 236, some (11, 11)), (236, 236, some (12, 12)), (236, 236, some (22, 22)), (236, 236, some (23, 23)), (236, 236, some (24, 24)), (236, 236, some (25, 25)), (236, 236, some (26, 26)), (236, 236, some (27, 27)), (239, 239, some (0, 0)), (239, 239, some (1, 1)), (239, 239, some (2, 2)), (239, 239, some (3, 3)), (239, 239, some (4, 4)), (239, 239, some (5, 5)), (239, 239, some (6, 6)), (239, 239, some (7, 7)), (239, 239, some (8, 8)), (239, 239, some (9, 9)), (239, 239, some (10, 14)), (239, 239, some (15, 15)), (239, 239, some (16, 16)), (239, 239, some (17, 17)), (239, 239, some (18, 18)), (239, 239, some (19, 30)), (239, 239, some (31, 42)), (239, 239, some (43, 54)), (239, 239, some (55, 55)), (239, 239, some (56, 56)), (239, 239, some (57, 57)), (239, 239, some (58, 58)), (239, 239, some (59, 59)), (239, 239, some (60, 60)), (239, 239, some (61, 61)), (239, 239, some (62, 62)), (239, 239, some (63, 63)), (239, 239, some (64, 64)), (239, 239, some (65, 65)), (239, 239, some (66, 66)), (239, 239, some (67, 67)), (239, 239, some (68, 68)), (239, 239, some (69, 69)), (239, 239, some (70, 70)), (239, 239, some (71, 71)), (239, 239, some (72, 72)), (239, 239, some (73, 73)), (239, 239, some (74, 74)), (239, 239, some (75, 75)), (239, 239, some (76, 76)), (239, 239, some (77, 77)), (239, 239, some (78, 78)), (239, 239, some (79, 79)), (239, 239, some (80, 80)), (239, 239, some (81, 81)), (239, 239, some (82, 82)), (239, 239, some (83, 83)), (239, 239, some (84, 84)), (239, 239, some (85, 85)), (239, 239, some (86, 86)), (239, 239, some (87, 87)), (239, 239, some (88, 88)), (239, 239, some (89, 89)), (239, 239, some (90, 90)), (239, 239, some (91, 91)), (239, 239, some (92, 92)), (239, 239, some (93, 93)), (239, 239, some (94, 94)), (239, 239, some (95, 95)), (239, 239, some (96, 96)), (239, 239, some (97, 97)), (239, 239, some (98, 98)), (239, 239, some (99, 99)), (239, 239, some (100, 100)), (239, 239, some (101, 101)), (239, 239, some (102, 102)), (239, 239, some (103, 103)), (239, 239, some (104, 104)), (239, 239, some (105, 105)), (239, 239, some (106, 106)), (239, 239, some (107, 107)), (239, 239, some (108, 108)), (239, 239, some (109, 109)), (239, 239, some (110, 110)), (239, 239, some (111, 111)), (239, 239, some (112, 112)), (239, 239, some (113, 113)), (239, 239, some (114, 114)), (239, 239, some (115, 115)), (239, 239, some (116, 116)), (239, 239, some (117, 117)), (239, 239, some (118, 118)), (239, 239, some (119, 119)), (239, 239, some (120, 120)), (239, 239, some (121, 121)), (239, 239, some (122, 122)), (239, 239, some (123, 123)), (239, 239, some (124, 124)), (239, 239, some (125, 125)), (239, 239, some (126, 126)), (239, 239, some (127, 127)), (239, 239, some (128, 128)), (239, 239, some (129, 129)), (239, 239, some (130, 130)), (239, 239, some (131, 131)), (239, 239, some (132, 132)), (239, 239, some (133, 133)), (239, 239, some (134, 134)), (239, 239, some (135, 135)), (239, 239, some (136, 136)), (239, 239, some (137, 137)), (239, 239, some (138, 138)), (239, 239, some (139, 139)), (239, 239, some (140, 140)), (239, 239, some (141, 141)), (239, 239, some (142, 142)), (239, 239, some (143, 143)), (239, 239, some (144, 144)), (239, 239, some (145, 145)), (239, 239, some (146, 146)), (239, 239, some (147, 147)), (239, 239, some (148, 148)), (239, 239, some (149, 149)), (239, 239, some (150, 150)), (239, 239, some (151, 151)), (239, 239, some (152, 152)), (239, 239, some (153, 153)), (239, 239, some (154, 154)), (239, 239, some (155, 155)), (239, 239, some (156, 156)), (239, 239, some (157, 157)), (239, 239, some (158, 158)), (239, 239, some (159, 159)), (239, 239, some (160, 160)), (239, 239, some (161, 161)), (239, 239, some (162, 162)), (239, 239, some (163, 163)), (239, 239, some (164, 164)), (239, 239, some (165, 165)), (239, 239, some (166, 166)), (239, 239, some (167, 167)), (239, 239, some (168, 168)), (239, 239, some (169, 169)), (239, 239, some (170, 170)), (239, 239, some (171, 171)), (239, 239, some (172, 172)), (239, 239, some (173, 173)), (239, 239, some (174, 174)), (239, 239, some (175, 175)), (239, 239, some (176, 176)), (239, 239, some (177, 177)), (239, 239, some (178, 178)), (239, 239, some (179, 179)), (239, 239, some (180, 180)), (239, 239, some (181, 181)), (239, 239, some (182, 182)), (239, 239, some (183, 183)), (239, 239, some (184, 184)), (239, 239, some (185, 185)), (239, 239, some (186, 186)), (239, 239, some (187, 187)), (239, 239, some (188, 188)), (239, 239, some (189, 189)), (239, 239, some (190, 190)), (239, 239, some (191, 191)), (239, 239, some (192, 192)), (239, 239, some (193, 193)), (239, 239, some (194, 194)), (239, 239, some (195, 195)), (239, 239, some (196, 196)), (239, 239, some (197, 197)), (239, 239, some (198, 198)), (239, 239, some (199, 199))] h h173 ∧ FR [(243, 243, none)] h164 h173 ∧ ((0 ≤ x172 ∧ x172 ≤ 5))) (fun x172 h173 => ((5 : Int) + 1 - x172).toNat) (fun x172 h173 => (95, [(0, .ref 236), (1, vi x172)], [], hp_w h173 cr, b, c)) ?_ 0 h164 ⟨g164, F171, FR.refl, (show (0 ≤ 0 ∧ 0 ≤ 5) by omega)⟩
          intro x172 h173 ⟨g173, F174, u173, f173⟩ I173
          refine wi_iload_n (i := 1) (e := x172) (nx := 96) (r1 := 0) (r2 := 0) (r3 := 0) rfl rfl ?_
          refine wi_iconst (n := 5) (nx := 97) (r1 := 0) (r2 := 0) (r3 := 0) rfl ?_
          refine wi_icmp (cd := .ge) (nx := 100) (r1 := 118) (r2 := 0) (r3 := 0) rfl (by omega) (by omega) (fun (q175 : 5 ≤ x172) => ?_) (fun (q175 : ¬ (5 ≤ x172)) => ?_)
          ·
            refine wi_aload_n (i := 0) (x := 236) (nx := 119) (r1 := 0) (r2 := 0) (r3 := 0) rfl rfl ?_
            refine wi_iconst (n := 0) (nx := 120) (r1 := 0) (r2 := 0) (r3 := 0) rfl ?_
            refine wr_pf0 (k0 := 236) (x := 0) (bl := 0) (bh := 6) (nx := 123) (r1 := 11) (r2 := 22) (r3 := 0) rfl (by decide) rfl ⟨rfl, rfl⟩ rfl rfl g173 rfl (by omega) (fun h176 g176 w176 u176 => ?_)
            have F177 := F174.then rfl u176
            refine wi_aload_n (i := 0) (x := 236) (nx := 124) (r1 := 0) (r2 := 0) (r3 := 0) rfl rfl ?_
            refine wr_gi0 (k0 := 236) (x := e144) (nx := 127) (r1 := 11) (r2 := 27) (r3 := 0) rfl rfl (by decide) rfl ⟨rfl, rfl⟩ rfl ((u176 236 27 rfl).trans ((u173 236 27 rfl).trans ((u164 236 27 rfl).trans ((u161 236 27 rfl).trans ((u155 236 27 rfl).trans ((u153 236 27 rfl).trans w145)))))) ?_
            refine wi_ireturn (nx := 128) (r1 := 0) (r2 := 0) (r3 := 0) rfl rfl ?_
            have e179 : h176 236 0 = 0 := ((u176 236 0 rfl).trans ((u173 236 0 rfl).trans ((u164 236 0 rfl).trans w161)))
            have e180 : h176 236 8 = h130 236 8 := ((u176 236 8 rfl).trans ((u173 236 8 rfl).trans ((u164 236 8 rfl).trans ((u161 236 8 rfl).trans ((u155 236 8 rfl).trans ((u153 236 8 rfl).trans (u145 236 8 rfl)))))))
            have e181 : h176 236 9 = h130 236 9 := ((u176 236 9 rfl).trans ((u173 236 9 rfl).trans ((u164 236 9 rfl).trans ((u161 236 9 rfl).trans ((u155 236 9 rfl).trans ((u153 236 9 rfl).trans (u145 236 9 rfl)))))))
            have e182 : h176 236 10 = h130 236 8 := ((u176 236 10 rfl).trans ((u173 236 10 rfl).trans ((u164 236 10 rfl).trans ((u161 236 10 rfl).trans ((u155 236 10 rfl).trans w153)))))
            have e183 : h176 236 11 = h130 236 9 := ((u176 236 11 rfl).trans ((u173 236 11 rfl).trans ((u164 236 11 rfl).trans ((u161 236 11 rfl).trans w155))))
            have e184 : h176 236 27 = e144 := ((u176 236 27 rfl).trans ((u173 236 27 rfl).trans ((u164 236 27 rfl).trans ((u161 236 27 rfl).trans ((u155 236 27 rfl).trans ((u153 236 27 rfl).trans w145))))))
            have RE178 := tk_REs (rs57.symm.trans ((tk_rn_s (by omega) (by omega) eqq124 (by omega)).trans (tk_rn_e (by omega) (by omega))))
            have e185 : h176 236 22 = 0 := w176
            have b186 := gi_b (lo := 0) (hi := 6) g 236 22 rfl
            have b187 := gi_b (lo := 0) (hi := 0) g26 239 98 rfl
            have e188 : h176 238 98 = h26 239 98 := ((u176 238 98 rfl).trans ((u173 238 98 rfl).trans ((y164_0 98 (by decide)).trans ((u161 239 98 rfl).trans ((u155 239 98 rfl).trans ((u153 239 98 rfl).trans ((u145 239 98 rfl).trans ((u130 239 98 rfl).trans ((u105 239 98 rfl).trans ((u57 239 98 rfl).trans ((u50 239 98 rfl).trans ((u48 239 98 rfl).trans ((u46 239 98 rfl).trans ((u44 239 98 rfl).trans (u42 239 98 rfl)))))))))))))))
            have b189 := gi_b (lo := 0) (hi := 0) g26 239 99 rfl
            have e190 : h176 238 99 = h26 239 99 := ((u176 238 99 rfl).trans ((u173 238 99 rfl).trans ((y164_0 99 (by decide)).trans ((u161 239 99 rfl).trans ((u155 239 99 rfl).trans ((u153 239 99 rfl).trans ((u145 239 99 rfl).trans ((u130 239 99 rfl).trans ((u105 239 99 rfl).trans ((u57 239 99 rfl).trans ((u50 239 99 rfl).trans ((u48 239 99 rfl).trans ((u46 239 99 rfl).trans ((u44 239 99 rfl).trans (u42 239 99 rfl)))))))))))))))
            have b191 := gi_b (lo := 0) (hi := 0) g26 239 100 rfl
            have e192 : h176 238 100 = h26 239 100 := ((u176 238 100 rfl).trans ((u173 238 100 rfl).trans ((y164_0 100 (by decide)).trans ((u161 239 100 rfl).trans ((u155 239 100 rfl).trans ((u153 239 100 rfl).trans ((u145 239 100 rfl).trans ((u130 239 100 rfl).trans ((u105 239 100 rfl).trans ((u57 239 100 rfl).trans ((u50 239 100 rfl).trans ((u48 239 100 rfl).trans ((u46 239 100 rfl).trans ((u44 239 100 rfl).trans (u42 239 100 rfl)))))))))))))))
            have b193 := gi_b (lo := 0) (hi := 0) g26 239 101 rfl
            have e194 : h176 238 101 = h26 239 101 := ((u176 238 101 rfl).trans ((u173 238 101 rfl).trans ((y164_0 101 (by decide)).trans ((u161 239 101 rfl).trans ((u155 239 101 rfl).trans ((u153 239 101 rfl).trans ((u145 239 101 rfl).trans ((u130 239 101 rfl).trans ((u105 239 101 rfl).trans ((u57 239 101 rfl).trans ((u50 239 101 rfl).trans ((u48 239 101 rfl).trans ((u46 239 101 rfl).trans ((u44 239 101 rfl).trans (u42 239 101 rfl)))))))))))))))
            have b195 := gi_b (lo := 0) (hi := 0) g26 239 102 rfl
            have e196 : h176 238 102 = h26 239 102 := ((u176 238 102 rfl).trans ((u173 238 102 rfl).trans ((y164_0 102 (by decide)).trans ((u161 239 102 rfl).trans ((u155 239 102 rfl).trans ((u153 239 102 rfl).trans ((u145 239 102 rfl).trans ((u130 239 102 rfl).trans ((u105 239 102 rfl).trans ((u57 239 102 rfl).trans ((u50 239 102 rfl).trans ((u48 239 102 rfl).trans ((u46 239 102 rfl).trans ((u44 239 102 rfl).trans (u42 239 102 rfl)))))))))))))))
            have b197 := gi_b (lo := 0) (hi := 0) g26 239 106 rfl
            have e198 : h176 238 106 = h26 239 106 := ((u176 238 106 rfl).trans ((u173 238 106 rfl).trans ((y164_0 106 (by decide)).trans ((u161 239 106 rfl).trans ((u155 239 106 rfl).trans ((u153 239 106 rfl).trans ((u145 239 106 rfl).trans ((u130 239 106 rfl).trans ((u105 239 106 rfl).trans ((u57 239 106 rfl).trans ((u50 239 106 rfl).trans ((u48 239 106 rfl).trans ((u46 239 106 rfl).trans ((u44 239 106 rfl).trans (u42 239 106 rfl)))))))))))))))
            have b199 := gi_b (lo := 0) (hi := 0) g26 239 73 rfl
            have e200 : h176 238 73 = h26 239 73 := ((u176 238 73 rfl).trans ((u173 238 73 rfl).trans ((y164_0 73 (by decide)).trans ((u161 239 73 rfl).trans ((u155 239 73 rfl).trans ((u153 239 73 rfl).trans ((u145 239 73 rfl).trans ((u130 239 73 rfl).trans ((u105 239 73 rfl).trans ((u57 239 73 rfl).trans ((u50 239 73 rfl).trans ((u48 239 73 rfl).trans ((u46 239 73 rfl).trans ((u44 239 73 rfl).trans (u42 239 73 rfl)))))))))))))))
            have b201 := gi_b (lo := 0) (hi := 12) g105 239 2 rfl
            have e202 : h176 238 2 = h105 239 2 := ((u176 238 2 rfl).trans ((u173 238 2 rfl).trans ((y164_0 2 (by decide)).trans ((u161 239 2 rfl).trans ((u155 239 2 rfl).trans ((u153 239 2 rfl).trans ((u145 239 2 rfl).trans (u130 239 2 rfl))))))))
            have b203 := gi_b (lo := 0) (hi := 0) g26 239 119 rfl
            have e204 : h176 238 119 = h26 239 119 := ((u176 238 119 rfl).trans ((u173 238 119 rfl).trans ((y164_0 119 (by decide)).trans ((u161 239 119 rfl).trans ((u155 239 119 rfl).trans ((u153 239 119 rfl).trans ((u145 239 119 rfl).trans ((u130 239 119 rfl).trans ((u105 239 119 rfl).trans ((u57 239 119 rfl).trans ((u50 239 119 rfl).trans ((u48 239 119 rfl).trans ((u46 239 119 rfl).trans ((u44 239 119 rfl).trans (u42 239 119 rfl)))))))))))))))
            have b205 := gi_b (lo := 0) (hi := 0) g26 239 67 rfl
            have e206 : h176 238 67 = h26 239 67 := ((u176 238 67 rfl).trans ((u173 238 67 rfl).trans ((y164_0 67 (by decide)).trans ((u161 239 67 rfl).trans ((u155 239 67 rfl).trans ((u153 239 67 rfl).trans ((u145 239 67 rfl).trans ((u130 239 67 rfl).trans ((u105 239 67 rfl).trans ((u57 239 67 rfl).trans ((u50 239 67 rfl).trans ((u48 239 67 rfl).trans ((u46 239 67 rfl).trans ((u44 239 67 rfl).trans (u42 239 67 rfl)))))))))))))))
            have b207 := gi_b (lo := 0) (hi := 0) g26 239 69 rfl
            have e208 : h176 238 69 = h26 239 69 := ((u176 238 69 rfl).trans ((u173 238 69 rfl).trans ((y164_0 69 (by decide)).trans ((u161 239 69 rfl).trans ((u155 239 69 rfl).trans ((u153 239 69 rfl).trans ((u145 239 69 rfl).trans ((u130 239 69 rfl).trans ((u105 239 69 rfl).trans ((u57 239 69 rfl).trans ((u50 239 69 rfl).trans ((u48 239 69 rfl).trans ((u46 239 69 rfl).trans ((u44 239 69 rfl).trans (u42 239 69 rfl)))))))))))))))
            have e209 : h176 238 5 = h105 239 5 := ((u176 238 5 rfl).trans ((u173 238 5 rfl).trans ((y164_0 5 (by decide)).trans ((u161 239 5 rfl).trans ((u155 239 5 rfl).trans ((u153 239 5 rfl).trans ((u145 239 5 rfl).trans (u130 239 5 rfl))))))))
            have e210 : h176 236 2 = h13 236 2 := ((u176 236 2 rfl).trans ((u173 236 2 rfl).trans ((u164 236 2 rfl).trans ((u161 236 2 rfl).trans ((u155 236 2 rfl).trans ((u153 236 2 rfl).trans ((u145 236 2 rfl).trans ((u130 236 2 rfl).trans ((u105 236 2 rfl).trans ((u57 236 2 rfl).trans ((u50 236 2 rfl).trans ((u48 236 2 rfl).trans ((u46 236 2 rfl).trans ((u44 236 2 rfl).trans ((u42 236 2 rfl).trans (u26 236 2 rfl))))))))))))))))
            have b211 := gi_b (lo := 0) (hi := 5) g105 239 0 rfl
            have e212 : h161 239 0 = h105 239 0 := ((u161 239 0 rfl).trans ((u155 239 0 rfl).trans ((u153 239 0 rfl).trans ((u145 239 0 rfl).trans (u130 239 0 rfl)))))
            have b213 := gi_b (lo := 0) (hi := 4) g105 239 1 rfl
            have e214 : h161 239 1 = h105 239 1 := ((u161 239 1 rfl).trans ((u155 239 1 rfl).trans ((u153 239 1 rfl).trans ((u145 239 1 rfl).trans (u130 239 1 rfl)))))
            have e215 : h161 239 2 = h105 239 2 := ((u161 239 2 rfl).trans ((u155 239 2 rfl).trans ((u153 239 2 rfl).trans ((u145 239 2 rfl).trans (u130 239 2 rfl)))))
            have cr216 := CVr.fr u130 rfl cvq124
            have cr217 := CVr.fr u145 rfl cr216
            have cr218 := CVr.fr u153 rfl cr217
            have cr219 := CVr.fr u155 rfl cr218
            have cr220 := CVr.fr u161 rfl cr219
            exact k h176 e144 g176 F177 (by omega) (show (tk_ok tB tn = 1 ∧ (h176 236 0) = 0 ∧ e144 = tk_ct tB tn ∧ (h176 236 22) = 0) ∨ (tk_ok tB tn = 0 ∧ (h176 236 0) = 1 ∧ (h176 236 22) = (h 236 22)) by omega) (show (h176 238 98) + (h176 238 99) + (h176 238 100) + (h176 238 101) + (h176 238 102) + (h176 238 106) = (h176 238 73) by omega) (show (h176 238 73) ≤ (h176 238 2) by omega) (show (h176 238 119) ≤ (h176 238 67) by omega) (show (h176 238 69) ≤ (h176 238 5) by omega) (show (h176 238 2) ≤ 12 * (h176 238 5) by omega) (show (h176 236 2) = 0 by omega) (show (h176 236 10) = tk_ec tB tn by omega) (show (h176 236 11) = tk_ep tB tn by omega) (fun _ => by rw [tk_ss_e (rs57.symm.trans ((tk_rn_s (by omega) (by omega) eqq124 (by omega)).trans (tk_rn_e (by omega) (by omega))))]; exact CVR.of cr220 (by omega) y164_0 (fun i => ((u176 238 i (fn_a (by omega) fn_0)).trans (u173 238 i (fn_a (by decide) fn_0))))) (fun e => absurd e (by omega))
          ·
            refine wi_aload_n (i := 0) (x := 236) (nx := 101) (r1 := 0) (r2 := 0) (r3 := 0) rfl rfl ?_
            refine wr_gr (k0 := 236) (x := 243) (nx := 104) (r1 := 11) (r2 := 18) (r3 := 0) rfl rfl (by decide) rfl ⟨rfl, rfl⟩ rfl ?_
            refine wi_iload_n (i := 1) (e := x172) (nx := 105) (r1 := 0) (r2 := 0) (r3 := 0) rfl rfl ?_
            refine wi_aload_n (i := 0) (x := 236) (nx := 106) (r1 := 0) (r2 := 0) (r3 := 0) rfl rfl ?_
            refine wr_gr (k0 := 236) (x := 244) (nx := 109) (r1 := 11) (r2 := 19) (r3 := 0) rfl rfl (by decide) rfl ⟨rfl, rfl⟩ rfl ?_
            refine wi_iload_n (i := 1) (e := x172) (nx := 110) (r1 := 0) (r2 := 0) (r3 := 0) rfl rfl ?_
            obtain ⟨i176, ei176⟩ : ∃ q : Nat, x172 = (q : Int) := ⟨(x172).toNat, by omega⟩
            have b177 := gi_b (lo := -9223372036854775808) (hi := 9223372036854775807) g105 244 i176 rfl
            refine wr_la (k0 := 244) (a := x172) (f := i176) (x := h105 244 i176) (nx := 111) (r1 := 0) (r2 := 0) (r3 := 0) rfl (by decide) rfl (by omega) (by omega) (by decide) ((u173 244 i176 (fn_a (by decide) fn_0)).trans ((u164 244 i176 (fn_a (by decide) fn_0)).trans ((u161 244 i176 (fn_a (by omega) fn_0)).trans ((u155 244 i176 (fn_a (by omega) fn_0)).trans ((u153 244 i176 (fn_a (by omega) fn_0)).trans ((u145 244 i176 (fn_a (by omega) fn_0)).trans (u130 244 i176 (fo_nk rfl)))))))) ?_
            refine wr_ls (k0 := 243) (a := x172) (f := i176) (x := h105 244 i176) (bl := -9223372036854775808) (bh := 9223372036854775807) (nx := 112) (r1 := 0) (r2 := 0) (r3 := 0) rfl (by decide) rfl (by omega) (by omega) (by decide) g173 rfl (by omega) (fun h178 g178 w178 u178 => ?_)
            have F179 := F174.then rfl (FR.rngp (lo := 243) (hi := 243) u178 (by decide))
            have F180 := u173.then rfl (FR.rngp (lo := 243) (hi := 243) u178 (by decide))
            refine wr_iinc (i := 1) (n := 1) (v := x172) (fun e181 => [(1, vi e181), (0, .ref 236)]) (nx := 115) (r1 := 0) (r2 := 0) (r3 := 0) rfl rfl (fun _ => rfl) (fun e181 (fe181 : e181 = x172 + 1) => ?_)
            refine wi_goto (nx := 118) (r1 := 95) (r2 := 0) (r3 := 0) rfl ?_
            refine wp.lo (lo := [(0, .ref 236), (1, vi e181)]) ⟨rfl, rfl, trivial⟩ rfl ?_
            exact I173 e181 h178 ⟨g178, F179, F180, (show (0 ≤ e181 ∧ e181 ≤ 5) by omega)⟩ (show ((5 : Int) + 1 - e181).toNat < ((5 : Int) + 1 - x172).toNat by omega)
        ·
          replace q151 : 0 + 1 ≤ (h130 236 6) := by omega
          try have kf152 := TKk.n0 (B := tB) (n := tn) (p := (tk_nx tB tn q124)) (a6 := h130 236 6) (by assumption) (by omega)
          have e153 : h145 236 4 = h130 236 4 := (u145 236 4 rfl)
          have e154 : h145 236 3 = h13 236 3 := ((u145 236 3 rfl).trans ((u130 236 3 rfl).trans ((u105 236 3 rfl).trans ((u57 236 3 rfl).trans ((u50 236 3 rfl).trans ((u48 236 3 rfl).trans ((u46 236 3 rfl).trans ((u44 236 3 rfl).trans ((u42 236 3 rfl).trans (u26 236 3 rfl))))))))))
          have e155 : h145 236 8 = h130 236 8 := (u145 236 8 rfl)
          have e156 : h145 236 6 = h130 236 6 := (u145 236 6 rfl)
          have e157 : h145 239 5 = h105 239 5 := ((u145 239 5 rfl).trans (u130 239 5 rfl))
          have e158 : h145 239 7 = h105 239 7 := ((u145 239 7 rfl).trans (u130 239 7 rfl))
          have e159 : h145 239 15 = h105 239 15 := ((u145 239 15 rfl).trans (u130 239 15 rfl))
          have e160 : h145 239 16 = h105 239 16 := ((u145 239 16 rfl).trans (u130 239 16 rfl))
          have e161 : h145 239 17 = h105 239 17 := ((u145 239 17 rfl).trans (u130 239 17 rfl))
          have e162 : h145 239 18 = h105 239 18 := ((u145 239 18 rfl).trans (u130 239 18 rfl))
          have e163 : h145 236 9 = h130 236 9 := (u145 236 9 rfl)
          have e164 : h145 236 27 = e144 := w145
          have cr165 := CVr.fr u130 rfl cvq124
          have cr166 := CVr.fr u145 rfl cr165
          have e167 : h145 236 5 = h130 236 5 := (u145 236 5 rfl)
          have e168 : h145 236 7 = h130 236 7 := (u145 236 7 rfl)
          have e169 : h145 236 12 = h130 236 12 := (u145 236 12 rfl)
          exact I57 h145 ⟨g145, F146, F147, (show ((h145 236 4) ≤ (h145 236 3)) ∧ ((h145 236 8) = 0) ∧ ((h145 236 6) ≠ 0) ∧ ((h145 239 5) ≤ 9) ∧ (1 ≤ (h145 239 5)) ∧ ((h145 239 7) ≤ 3) ∧ ((h145 239 15) ≤ 6) ∧ ((h145 239 16) ≤ 6) ∧ ((h145 239 17) ≤ 6) ∧ ((h145 239 18) ≤ 6) ∧ ((h145 236 9) = -1) ∧ (0 ≤ (h145 236 27)) ∧ ((h145 236 27) ≤ (h145 236 4)) by omega), ⟨sq124, (tk_nx tB tn q124), by omega, by omega, cr166, (by first | assumption | exact ⟨by omega, by omega, TKk.mv (by assumption) (by omega) (by omega) (by omega)⟩), (show tk_rn tB tn (tk_nx tB tn q124) sq124 (h145 236 27) = tk_RES tB tn by rw [show h145 236 27 = h57 236 27 + 1 by omega]; exact (tk_rn_s (by omega) (by omega) eqq124 (by omega)).symm.trans rs57), by omega, by omega⟩⟩ (show ((h145 236 3) - (h145 236 4)).toNat < ((h57 236 3) - (h57 236 4)).toNat by omega)
      ·
        clear p130_3
        clear p130_4
        refine wi_aload_n (i := 0) (x := 236) (nx := 61) (r1 := 0) (r2 := 0) (r3 := 0) rfl rfl ?_
        refine wi_dup (nx := 62) (r1 := 0) (r2 := 0) (r3 := 0) rfl rfl ?_
        refine wr_gi0 (k0 := 236) (x := h57 236 27) (nx := 65) (r1 := 11) (r2 := 27) (r3 := 0) rfl rfl (by decide) rfl ⟨rfl, rfl⟩ rfl ((u130 236 27 rfl).trans (u105 236 27 rfl)) ?_
        refine wi_iconst (n := 1) (nx := 66) (r1 := 0) (r2 := 0) (r3 := 0) rfl ?_
        refine wr_add (nx := 67) (r1 := 0) (r2 := 0) (r3 := 0) rfl (fun e142 (fe142 : e142 = (h57 236 27) + 1) => ?_)
        refine wr_pf0 (k0 := 236) (x := e142) (bl := -2147483648) (bh := 2147483647) (nx := 70) (r1 := 11) (r2 := 27) (r3 := 0) rfl (by decide) rfl ⟨rfl, rfl⟩ rfl rfl g130 rfl (by omega) (fun h143 g143 w143 u143 => ?_)
        have F144 := F133.then rfl u143
        have F145 := F134.then rfl u143
        refine wi_goto (nx := 73) (r1 := 36) (r2 := 0) (r3 := 0) rfl ?_
        refine wi_aload_n (i := 0) (x := 236) (nx := 37) (r1 := 0) (r2 := 0) (r3 := 0) rfl rfl ?_
        refine wr_V (k0 := 236) (rest := []) (as := [.ref 236]) (nx := 40) (r1 := 219) (r2 := 0) (r3 := 11) rfl rfl rfl (of_decide_eq_true rfl) rfl rfl (by decide) rfl rfl (of_decide_eq_true rfl) (of_decide_eq_true rfl) ?_
        refine wi_aload_n (i := 0) (x := 236) (nx := 1) (r1 := 0) (r2 := 0) (r3 := 0) rfl rfl ?_
        refine wr_gi0 (k0 := 236) (x := h130 236 8) (nx := 4) (r1 := 11) (r2 := 8) (r3 := 0) rfl rfl (by decide) rfl ⟨rfl, rfl⟩ rfl (u143 236 8 rfl) ?_
        refine wi_if (cd := .ne) (nx := 7) (r1 := 11) (r2 := 0) (r3 := 0) rfl (by omega) (fun (q146 : (h130 236 8) ≠ 0) => ?_) (fun (q146 : ¬ ((h130 236 8) ≠ 0)) => by exfalso; omega)
        refine wi_iconst (n := 0) (nx := 12) (r1 := 0) (r2 := 0) (r3 := 0) rfl ?_
        refine wi_zreturn (nx := 13) (r1 := 0) (r2 := 0) (r3 := 0) rfl rfl (by omega) ?_
        refine wk_i ?_
        refine wi_if (cd := .eq) (nx := 43) (r1 := 73) (r2 := 0) (r3 := 0) rfl (by omega) (fun (q148 : 0 = 0) => ?_) (fun (q148 : ¬ (0 = 0)) => by exfalso; omega)
        refine wi_aload_n (i := 0) (x := 236) (nx := 74) (r1 := 0) (r2 := 0) (r3 := 0) rfl rfl ?_
        refine wr_V (k0 := 236) (rest := []) (as := [.ref 236]) (nx := 77) (r1 := 237) (r2 := 0) (r3 := 11) rfl rfl rfl (of_decide_eq_true rfl) rfl rfl (by decide) rfl rfl (of_decide_eq_true rfl) (of_decide_eq_true rfl) ?_
        refine wi_aload_n (i := 0) (x := 236) (nx := 1) (r1 := 0) (r2 := 0) (r3 := 0) rfl rfl ?_
        refine wi_aload_n (i := 0) (x := 236) (nx := 2) (r1 := 0) (r2 := 0) (r3 := 0) rfl rfl ?_
        refine wr_gi0 (k0 := 236) (x := h130 236 8) (nx := 5) (r1 := 11) (r2 := 8) (r3 := 0) rfl rfl (by decide) rfl ⟨rfl, rfl⟩ rfl (u143 236 8 rfl) ?_
        refine wr_pf0 (k0 := 236) (x := h130 236 8) (bl := -2147483648) (bh := 2147483647) (nx := 8) (r1 := 11) (r2 := 10) (r3 := 0) rfl (by decide) rfl ⟨rfl, rfl⟩ rfl rfl g143 rfl (by omega) (fun h149 g149 w149 u149 => ?_)
        have F150 := F144.then rfl u149
        refine wi_aload_n (i := 0) (x := 236) (nx := 9) (r1 := 0) (r2 := 0) (r3 := 0) rfl rfl ?_
        refine wi_aload_n (i := 0) (x := 236) (nx := 10) (r1 := 0) (r2 := 0) (r3 := 0) rfl rfl ?_
        refine wr_gi0 (k0 := 236) (x := h130 236 9) (nx := 13) (r1 := 11) (r2 := 9) (r3 := 0) rfl rfl (by decide) rfl ⟨rfl, rfl⟩ rfl ((u149 236 9 rfl).trans (u143 236 9 rfl)) ?_
        refine wr_pf0 (k0 := 236) (x := h130 236 9) (bl := -2147483648) (bh := 2147483647) (nx := 16) (r1 := 11) (r2 := 11) (r3 := 0) rfl (by decide) rfl ⟨rfl, rfl⟩ rfl rfl g149 rfl (by omega) (fun h151 g151 w151 u151 => ?_)
        have F152 := F150.then rfl u151
        refine wi_aload_n (i := 0) (x := 236) (nx := 17) (r1 := 0) (r2 := 0) (r3 := 0) rfl rfl ?_
        refine wi_aload_n (i := 0) (x := 236) (nx := 18) (r1 := 0) (r2 := 0) (r3 := 0) rfl rfl ?_
        refine wr_gi0 (k0 := 236) (x := h130 236 8) (nx := 21) (r1 := 11) (r2 := 8) (r3 := 0) rfl rfl (by decide) rfl ⟨rfl, rfl⟩ rfl ((u151 236 8 rfl).trans ((u149 236 8 rfl).trans (u143 236 8 rfl))) ?_
        refine wi_if (cd := .ne) (nx := 24) (r1 := 28) (r2 := 0) (r3 := 0) rfl (by omega) (fun (q153 : (h130 236 8) ≠ 0) => ?_) (fun (q153 : ¬ ((h130 236 8) ≠ 0)) => by exfalso; omega)
        refine wi_iconst (n := 0) (nx := 29) (r1 := 0) (r2 := 0) (r3 := 0) rfl ?_
        refine wr_V (k0 := 236) (rest := []) (as := [.ref 236, vi 0]) (nx := 32) (r1 := 206) (r2 := 1) (r3 := 11) rfl rfl rfl (of_decide_eq_true rfl) rfl rfl (by decide) rfl rfl (of_decide_eq_true rfl) (of_decide_eq_true rfl) ?_
        refine wi_aload_n (i := 0) (x := 236) (nx := 1) (r1 := 0) (r2 := 0) (r3 := 0) rfl rfl ?_
        refine wi_iload_n (i := 1) (e := 0) (nx := 2) (r1 := 0) (r2 := 0) (r3 := 0) rfl rfl ?_
        refine wi_if (cd := .ne) (nx := 5) (r1 := 9) (r2 := 0) (r3 := 0) rfl (by omega) (fun (q155 : 0 ≠ 0) => by exfalso; omega) (fun (q155 : ¬ (0 ≠ 0)) => ?_)
        refine wi_iconst (n := 1) (nx := 6) (r1 := 0) (r2 := 0) (r3 := 0) rfl ?_
        refine wi_goto (nx := 9) (r1 := 10) (r2 := 0) (r3 := 0) rfl ?_
        refine wi_S (rest := [.ref 236]) (as := [vi 1]) (nx := 13) (r1 := 207) (r2 := 17) (r3 := 0) rfl rfl rfl (of_decide_eq_true rfl) rfl rfl (of_decide_eq_true rfl) (of_decide_eq_true rfl) ?_
        refine wi_iload_n (i := 0) (e := 1) (nx := 1) (r1 := 0) (r2 := 0) (r3 := 0) rfl rfl ?_
        refine wi_if (cd := .eq) (nx := 4) (r1 := 8) (r2 := 0) (r3 := 0) rfl (by omega) (fun (q156 : 1 = 0) => by exfalso; omega) (fun (q156 : ¬ (1 = 0)) => ?_)
        refine wi_iconst (n := 1) (nx := 5) (r1 := 0) (r2 := 0) (r3 := 0) rfl ?_
        refine wi_goto (nx := 8) (r1 := 9) (r2 := 0) (r3 := 0) rfl ?_
        refine wi_ireturn (nx := 10) (r1 := 0) (r2 := 0) (r3 := 0) rfl rfl ?_
        refine wk_i ?_
        refine wr_pf0 (k0 := 236) (x := 1) (bl := 0) (bh := 2) (nx := 16) (r1 := 11) (r2 := 0) (r3 := 0) rfl (by decide) rfl ⟨rfl, rfl⟩ rfl rfl g151 rfl (by omega) (fun h157 g157 w157 u157 => ?_)
        have F158 := F152.then rfl u157
        refine wi_iload_n (i := 1) (e := 0) (nx := 17) (r1 := 0) (r2 := 0) (r3 := 0) rfl rfl ?_
        refine wi_zreturn (nx := 18) (r1 := 0) (r2 := 0) (r3 := 0) rfl rfl (by omega) ?_
        refine wk_i ?_
        refine wi_zreturn (nx := 33) (r1 := 0) (r2 := 0) (r3 := 0) rfl rfl (by omega) ?_
        refine wk_i ?_
        refine wi_if (cd := .ne) (nx := 80) (r1 := 82) (r2 := 0) (r3 := 0) rfl (by omega) (fun (q159 : 0 ≠ 0) => by exfalso; omega) (fun (q159 : ¬ (0 ≠ 0)) => ?_)
        refine wi_iconst (n := 0) (nx := 81) (r1 := 0) (r2 := 0) (r3 := 0) rfl ?_
        refine wi_ireturn (nx := 82) (r1 := 0) (r2 := 0) (r3 := 0) rfl rfl ?_
        have e161 : h157 236 0 = 1 := w157
        have e162 : h157 236 8 = h130 236 8 := ((u157 236 8 rfl).trans ((u151 236 8 rfl).trans ((u149 236 8 rfl).trans (u143 236 8 rfl))))
        have e163 : h157 236 9 = h130 236 9 := ((u157 236 9 rfl).trans ((u151 236 9 rfl).trans ((u149 236 9 rfl).trans (u143 236 9 rfl))))
        have e164 : h157 236 10 = h130 236 8 := ((u157 236 10 rfl).trans ((u151 236 10 rfl).trans w149))
        have e165 : h157 236 11 = h130 236 9 := ((u157 236 11 rfl).trans w151)
        have e166 : h157 236 27 = e142 := ((u157 236 27 rfl).trans ((u151 236 27 rfl).trans ((u149 236 27 rfl).trans w143)))
        have RE160 := tk_REe (rs57.symm.trans (tk_rn_g (by omega) (by omega) eqq124 (by omega)))
        have b167 := gi_b (lo := 0) (hi := 6) g 236 22 rfl
        have e168 : h157 236 22 = h 236 22 := ((u157 236 22 rfl).trans ((u151 236 22 rfl).trans ((u149 236 22 rfl).trans ((u143 236 22 rfl).trans ((u130 236 22 rfl).trans ((u105 236 22 rfl).trans ((u57 236 22 rfl).trans ((u50 236 22 rfl).trans ((u48 236 22 rfl).trans ((u46 236 22 rfl).trans ((u44 236 22 rfl).trans ((u42 236 22 rfl).trans ((u26 236 22 rfl).trans (u13 236 22 rfl))))))))))))))
        have e169 : h157 238 98 = h 238 98 := ((u157 238 98 rfl).trans ((u151 238 98 rfl).trans ((u149 238 98 rfl).trans ((u143 238 98 rfl).trans ((u130 238 98 rfl).trans ((u105 238 98 rfl).trans ((u57 238 98 rfl).trans ((u50 238 98 rfl).trans ((u48 238 98 rfl).trans ((u46 238 98 rfl).trans ((u44 238 98 rfl).trans ((u42 238 98 rfl).trans ((u26 238 98 rfl).trans (u13 238 98 rfl))))))))))))))
        have e170 : h157 238 99 = h 238 99 := ((u157 238 99 rfl).trans ((u151 238 99 rfl).trans ((u149 238 99 rfl).trans ((u143 238 99 rfl).trans ((u130 238 99 rfl).trans ((u105 238 99 rfl).trans ((u57 238 99 rfl).trans ((u50 238 99 rfl).trans ((u48 238 99 rfl).trans ((u46 238 99 rfl).trans ((u44 238 99 rfl).trans ((u42 238 99 rfl).trans ((u26 238 99 rfl).trans (u13 238 99 rfl))))))))))))))
        have e171 : h157 238 100 = h 238 100 := ((u157 238 100 rfl).trans ((u151 238 100 rfl).trans ((u149 238 100 rfl).trans ((u143 238 100 rfl).trans ((u130 238 100 rfl).trans ((u105 238 100 rfl).trans ((u57 238 100 rfl).trans ((u50 238 100 rfl).trans ((u48 238 100 rfl).trans ((u46 238 100 rfl).trans ((u44 238 100 rfl).trans ((u42 238 100 rfl).trans ((u26 238 100 rfl).trans (u13 238 100 rfl))))))))))))))
        have e172 : h157 238 101 = h 238 101 := ((u157 238 101 rfl).trans ((u151 238 101 rfl).trans ((u149 238 101 rfl).trans ((u143 238 101 rfl).trans ((u130 238 101 rfl).trans ((u105 238 101 rfl).trans ((u57 238 101 rfl).trans ((u50 238 101 rfl).trans ((u48 238 101 rfl).trans ((u46 238 101 rfl).trans ((u44 238 101 rfl).trans ((u42 238 101 rfl).trans ((u26 238 101 rfl).trans (u13 238 101 rfl))))))))))))))
        have e173 : h157 238 102 = h 238 102 := ((u157 238 102 rfl).trans ((u151 238 102 rfl).trans ((u149 238 102 rfl).trans ((u143 238 102 rfl).trans ((u130 238 102 rfl).trans ((u105 238 102 rfl).trans ((u57 238 102 rfl).trans ((u50 238 102 rfl).trans ((u48 238 102 rfl).trans ((u46 238 102 rfl).trans ((u44 238 102 rfl).trans ((u42 238 102 rfl).trans ((u26 238 102 rfl).trans (u13 238 102 rfl))))))))))))))
        have e174 : h157 238 106 = h 238 106 := ((u157 238 106 rfl).trans ((u151 238 106 rfl).trans ((u149 238 106 rfl).trans ((u143 238 106 rfl).trans ((u130 238 106 rfl).trans ((u105 238 106 rfl).trans ((u57 238 106 rfl).trans ((u50 238 106 rfl).trans ((u48 238 106 rfl).trans ((u46 238 106 rfl).trans ((u44 238 106 rfl).trans ((u42 238 106 rfl).trans ((u26 238 106 rfl).trans (u13 238 106 rfl))))))))))))))
        have e175 : h157 238 73 = h 238 73 := ((u157 238 73 rfl).trans ((u151 238 73 rfl).trans ((u149 238 73 rfl).trans ((u143 238 73 rfl).trans ((u130 238 73 rfl).trans ((u105 238 73 rfl).trans ((u57 238 73 rfl).trans ((u50 238 73 rfl).trans ((u48 238 73 rfl).trans ((u46 238 73 rfl).trans ((u44 238 73 rfl).trans ((u42 238 73 rfl).trans ((u26 238 73 rfl).trans (u13 238 73 rfl))))))))))))))
        have e176 : h157 238 2 = h 238 2 := ((u157 238 2 rfl).trans ((u151 238 2 rfl).trans ((u149 238 2 rfl).trans ((u143 238 2 rfl).trans ((u130 238 2 rfl).trans ((u105 238 2 rfl).trans ((u57 238 2 rfl).trans ((u50 238 2 rfl).trans ((u48 238 2 rfl).trans ((u46 238 2 rfl).trans ((u44 238 2 rfl).trans ((u42 238 2 rfl).trans ((u26 238 2 rfl).trans (u13 238 2 rfl))))))))))))))
        have e177 : h157 238 119 = h 238 119 := ((u157 238 119 rfl).trans ((u151 238 119 rfl).trans ((u149 238 119 rfl).trans ((u143 238 119 rfl).trans ((u130 238 119 rfl).trans ((u105 238 119 rfl).trans ((u57 238 119 rfl).trans ((u50 238 119 rfl).trans ((u48 238 119 rfl).trans ((u46 238 119 rfl).trans ((u44 238 119 rfl).trans ((u42 238 119 rfl).trans ((u26 238 119 rfl).trans (u13 238 119 rfl))))))))))))))
        have e178 : h157 238 67 = h 238 67 := ((u157 238 67 rfl).trans ((u151 238 67 rfl).trans ((u149 238 67 rfl).trans ((u143 238 67 rfl).trans ((u130 238 67 rfl).trans ((u105 238 67 rfl).trans ((u57 238 67 rfl).trans ((u50 238 67 rfl).trans ((u48 238 67 rfl).trans ((u46 238 67 rfl).trans ((u44 238 67 rfl).trans ((u42 238 67 rfl).trans ((u26 238 67 rfl).trans (u13 238 67 rfl))))))))))))))
        have e179 : h157 238 69 = h 238 69 := ((u157 238 69 rfl).trans ((u151 238 69 rfl).trans ((u149 238 69 rfl).trans ((u143 238 69 rfl).trans ((u130 238 69 rfl).trans ((u105 238 69 rfl).trans ((u57 238 69 rfl).trans ((u50 238 69 rfl).trans ((u48 238 69 rfl).trans ((u46 238 69 rfl).trans ((u44 238 69 rfl).trans ((u42 238 69 rfl).trans ((u26 238 69 rfl).trans (u13 238 69 rfl))))))))))))))
        have e180 : h157 238 5 = h 238 5 := ((u157 238 5 rfl).trans ((u151 238 5 rfl).trans ((u149 238 5 rfl).trans ((u143 238 5 rfl).trans ((u130 238 5 rfl).trans ((u105 238 5 rfl).trans ((u57 238 5 rfl).trans ((u50 238 5 rfl).trans ((u48 238 5 rfl).trans ((u46 238 5 rfl).trans ((u44 238 5 rfl).trans ((u42 238 5 rfl).trans ((u26 238 5 rfl).trans (u13 238 5 rfl))))))))))))))
        have e181 : h157 236 2 = h13 236 2 := ((u157 236 2 rfl).trans ((u151 236 2 rfl).trans ((u149 236 2 rfl).trans ((u143 236 2 rfl).trans ((u130 236 2 rfl).trans ((u105 236 2 rfl).trans ((u57 236 2 rfl).trans ((u50 236 2 rfl).trans ((u48 236 2 rfl).trans ((u46 236 2 rfl).trans ((u44 236 2 rfl).trans ((u42 236 2 rfl).trans (u26 236 2 rfl)))))))))))))
        exact k h157 0 g157 F158 (by omega) (show (tk_ok tB tn = 1 ∧ (h157 236 0) = 0 ∧ 0 = tk_ct tB tn ∧ (h157 236 22) = 0) ∨ (tk_ok tB tn = 0 ∧ (h157 236 0) = 1 ∧ (h157 236 22) = (h 236 22)) by omega) (show (h157 238 98) + (h157 238 99) + (h157 238 100) + (h157 238 101) + (h157 238 102) + (h157 238 106) = (h157 238 73) by omega) (show (h157 238 73) ≤ (h157 238 2) by omega) (show (h157 238 119) ≤ (h157 238 67) by omega) (show (h157 238 69) ≤ (h157 238 5) by omega) (show (h157 238 2) ≤ 12 * (h157 238 5) by omega) (show (h157 236 2) = 0 by omega) (show (h157 236 10) = tk_ec tB tn by omega) (show (h157 236 11) = tk_ep tB tn by omega) (fun e => absurd e (by omega)) (fun _ i _ => ((u157 238 i (fn_a (by omega) fn_0)).trans ((u151 238 i (fn_a (by omega) fn_0)).trans ((u149 238 i (fn_a (by omega) fn_0)).trans ((u143 238 i (fn_a (by omega) fn_0)).trans ((u130 238 i (fo_nk rfl)).trans ((u105 238 i (fo_nk rfl)).trans ((u57 238 i (fo_nk rfl)).trans ((u50 238 i (fn_a (by omega) fn_0)).trans ((u48 238 i (fn_a (by omega) fn_0)).trans ((u46 238 i (fn_a (by omega) fn_0)).trans ((u44 238 i (fn_a (by omega) fn_0)).trans ((u42 238 i (fn_a (by omega) fn_0)).trans ((u26 238 i (fo_nk rfl)).trans (u13 238 i (fo_nk rfl))))))))))))))))
    ·
      clear p105_3
      clear p105_4
      obtain ⟨cq124, q124, eqq124, eaq124, ebq124, ecq124⟩ := tk_ORf y105_0 (by omega)
      refine wi_aload_n (i := 0) (x := 236) (nx := 55) (r1 := 0) (r2 := 0) (r3 := 0) rfl rfl ?_
      refine wi_bipush (n := 59) (nx := 57) (r1 := 0) (r2 := 0) (r3 := 0) rfl (by decide) ?_
      refine wr_V (k0 := 236) (rest := []) (as := [.ref 236, vi 59]) (nx := 60) (r1 := 235) (r2 := 1) (r3 := 11) rfl rfl rfl (of_decide_eq_true rfl) rfl rfl (by decide) rfl rfl (of_decide_eq_true rfl) (of_decide_eq_true rfl) ?_
      have e126 : h105 236 3 = h13 236 3 := ((u105 236 3 rfl).trans ((u57 236 3 rfl).trans ((u50 236 3 rfl).trans ((u48 236 3 rfl).trans ((u46 236 3 rfl).trans ((u44 236 3 rfl).trans ((u42 236 3 rfl).trans (u26 236 3 rfl))))))))
      have b127 := gi_b (lo := 0) (hi := 800) g105 236 5 rfl
      have b128 := gi_b (lo := 0) (hi := 4) g105 236 6 rfl
      have b129 := gi_b (lo := 0) (hi := 999) g105 236 7 rfl
      have b130 := gi_b (lo := -9223372036854775808) (hi := 9223372036854775807) g105 236 12 rfl
      have rb131 := RefB.fr u105 rfl rb112
      refine ct_235_236_L59 hcr  g105   (show (h105 236 4) ≤ (h105 236 3) by omega) (show 0 ≤ p57 by omega) (show p57 ≤ tn by omega) (show p57 ≤ tk_nx tB tn p57 ∧ tk_nx tB tn p57 ≤ tn from ⟨by omega, by omega⟩) (show 1 ≤ (h105 236 8) ∨ ((h105 236 4) = tk_nx tB tn p57 ∧ (h105 236 5) = tk_st tB tn p57 ∧ TKk tB tn p57 ((h105 236 6)) ((h105 236 7)) ((h105 236 12))) from (Or.inl (by omega))) rb131 (fun h125 g125 u125 (p125_0 : (1 ≤ (h105 236 8) ∧ (h125 236 8) = (h105 236 8) ∧ (h125 236 9) = (h105 236 9)) ∨ ((h105 236 8) = 0 ∧ tk_kd tB tn p57 = 3 ∧ (h125 236 8) = (h105 236 8) ∧ (h125 236 9) = (h105 236 9) ∧ ((h125 236 4) = tk_nx tB tn (tk_nx tB tn p57) ∧ (h125 236 5) = tk_st tB tn (tk_nx tB tn p57) ∧ TKk tB tn (tk_nx tB tn p57) ((h125 236 6)) ((h125 236 7)) ((h125 236 12)))) ∨ ((h105 236 8) = 0 ∧ tk_kd tB tn p57 ≠ 3 ∧ (h125 236 8) = 1 ∧ (h125 236 9) = tk_st tB tn p57)) (p125_1 : (h105 236 4) ≤ (h125 236 4)) (p125_2 : (h125 236 4) ≤ (h105 236 3)) (p125_3 : 1 ≤ (h125 236 8) ∨ (h105 236 8) = 0) (p125_4 : 1 ≤ (h125 236 8) ∨ (h125 236 6) = 0 ∨ (h105 236 4) + 1 ≤ (h125 236 4)) => ?_)
      have F132 := F113.then (by decide +kernel) u125
      have F133 := F114.then (by decide +kernel) u125
      have b134 := gi_b (lo := 0) (hi := 5) g125 236 8 rfl
      have b135 := gi_b (lo := -2147483648) (hi := 2147483647) g125 236 9 rfl
      have b136 := gi_b (lo := 0) (hi := 800) g125 236 4 rfl
      have b137 := gi_b (lo := 0) (hi := 800) g125 236 5 rfl
      have b138 := gi_b (lo := 0) (hi := 4) g125 236 6 rfl
      have b139 := gi_b (lo := 0) (hi := 999) g125 236 7 rfl
      have b140 := gi_b (lo := -9223372036854775808) (hi := 9223372036854775807) g125 236 12 rfl
      refine wk_n ?_
      rcases p125_0 with p125_0 | p125_0 | p125_0
      ·
        replace p125_3 := p125_3.resolve_right (by omega)
        clear p125_4
        refine wi_aload_n (i := 0) (x := 236) (nx := 61) (r1 := 0) (r2 := 0) (r3 := 0) rfl rfl ?_
        refine wi_dup (nx := 62) (r1 := 0) (r2 := 0) (r3 := 0) rfl rfl ?_
        refine wr_gi0 (k0 := 236) (x := h57 236 27) (nx := 65) (r1 := 11) (r2 := 27) (r3 := 0) rfl rfl (by decide) rfl ⟨rfl, rfl⟩ rfl ((u125 236 27 rfl).trans (u105 236 27 rfl)) ?_
        refine wi_iconst (n := 1) (nx := 66) (r1 := 0) (r2 := 0) (r3 := 0) rfl ?_
        refine wr_add (nx := 67) (r1 := 0) (r2 := 0) (r3 := 0) rfl (fun e141 (fe141 : e141 = (h57 236 27) + 1) => ?_)
        refine wr_pf0 (k0 := 236) (x := e141) (bl := -2147483648) (bh := 2147483647) (nx := 70) (r1 := 11) (r2 := 27) (r3 := 0) rfl (by decide) rfl ⟨rfl, rfl⟩ rfl rfl g125 rfl (by omega) (fun h142 g142 w142 u142 => ?_)
        have F143 := F132.then rfl u142
        have F144 := F133.then rfl u142
        refine wi_goto (nx := 73) (r1 := 36) (r2 := 0) (r3 := 0) rfl ?_
        refine wi_aload_n (i := 0) (x := 236) (nx := 37) (r1 := 0) (r2 := 0) (r3 := 0) rfl rfl ?_
        refine wr_V (k0 := 236) (rest := []) (as := [.ref 236]) (nx := 40) (r1 := 219) (r2 := 0) (r3 := 11) rfl rfl rfl (of_decide_eq_true rfl) rfl rfl (by decide) rfl rfl (of_decide_eq_true rfl) (of_decide_eq_true rfl) ?_
        refine wi_aload_n (i := 0) (x := 236) (nx := 1) (r1 := 0) (r2 := 0) (r3 := 0) rfl rfl ?_
        refine wr_gi0 (k0 := 236) (x := h125 236 8) (nx := 4) (r1 := 11) (r2 := 8) (r3 := 0) rfl rfl (by decide) rfl ⟨rfl, rfl⟩ rfl (u142 236 8 rfl) ?_
        refine wi_if (cd := .ne) (nx := 7) (r1 := 11) (r2 := 0) (r3 := 0) rfl (by omega) (fun (q145 : (h125 236 8) ≠ 0) => ?_) (fun (q145 : ¬ ((h125 236 8) ≠ 0)) => by exfalso; omega)
        refine wi_iconst (n := 0) (nx := 12) (r1 := 0) (r2 := 0) (r3 := 0) rfl ?_
        refine wi_zreturn (nx := 13) (r1 := 0) (r2 := 0) (r3 := 0) rfl rfl (by omega) ?_
        refine wk_i ?_
        refine wi_if (cd := .eq) (nx := 43) (r1 := 73) (r2 := 0) (r3 := 0) rfl (by omega) (fun (q147 : 0 = 0) => ?_) (fun (q147 : ¬ (0 = 0)) => by exfalso; omega)
        refine wi_aload_n (i := 0) (x := 236) (nx := 74) (r1 := 0) (r2 := 0) (r3 := 0) rfl rfl ?_
        refine wr_V (k0 := 236) (rest := []) (as := [.ref 236]) (nx := 77) (r1 := 237) (r2 := 0) (r3 := 11) rfl rfl rfl (of_decide_eq_true rfl) rfl rfl (by decide) rfl rfl (of_decide_eq_true rfl) (of_decide_eq_true rfl) ?_
        refine wi_aload_n (i := 0) (x := 236) (nx := 1) (r1 := 0) (r2 := 0) (r3 := 0) rfl rfl ?_
        refine wi_aload_n (i := 0) (x := 236) (nx := 2) (r1 := 0) (r2 := 0) (r3 := 0) rfl rfl ?_
        refine wr_gi0 (k0 := 236) (x := h125 236 8) (nx := 5) (r1 := 11) (r2 := 8) (r3 := 0) rfl rfl (by decide) rfl ⟨rfl, rfl⟩ rfl (u142 236 8 rfl) ?_
        refine wr_pf0 (k0 := 236) (x := h125 236 8) (bl := -2147483648) (bh := 2147483647) (nx := 8) (r1 := 11) (r2 := 10) (r3 := 0) rfl (by decide) rfl ⟨rfl, rfl⟩ rfl rfl g142 rfl (by omega) (fun h148 g148 w148 u148 => ?_)
        have F149 := F143.then rfl u148
        refine wi_aload_n (i := 0) (x := 236) (nx := 9) (r1 := 0) (r2 := 0) (r3 := 0) rfl rfl ?_
        refine wi_aload_n (i := 0) (x := 236) (nx := 10) (r1 := 0) (r2 := 0) (r3 := 0) rfl rfl ?_
        refine wr_gi0 (k0 := 236) (x := h125 236 9) (nx := 13) (r1 := 11) (r2 := 9) (r3 := 0) rfl rfl (by decide) rfl ⟨rfl, rfl⟩ rfl ((u148 236 9 rfl).trans (u142 236 9 rfl)) ?_
        refine wr_pf0 (k0 := 236) (x := h125 236 9) (bl := -2147483648) (bh := 2147483647) (nx := 16) (r1 := 11) (r2 := 11) (r3 := 0) rfl (by decide) rfl ⟨rfl, rfl⟩ rfl rfl g148 rfl (by omega) (fun h150 g150 w150 u150 => ?_)
        have F151 := F149.then rfl u150
        refine wi_aload_n (i := 0) (x := 236) (nx := 17) (r1 := 0) (r2 := 0) (r3 := 0) rfl rfl ?_
        refine wi_aload_n (i := 0) (x := 236) (nx := 18) (r1 := 0) (r2 := 0) (r3 := 0) rfl rfl ?_
        refine wr_gi0 (k0 := 236) (x := h125 236 8) (nx := 21) (r1 := 11) (r2 := 8) (r3 := 0) rfl rfl (by decide) rfl ⟨rfl, rfl⟩ rfl ((u150 236 8 rfl).trans ((u148 236 8 rfl).trans (u142 236 8 rfl))) ?_
        refine wi_if (cd := .ne) (nx := 24) (r1 := 28) (r2 := 0) (r3 := 0) rfl (by omega) (fun (q152 : (h125 236 8) ≠ 0) => ?_) (fun (q152 : ¬ ((h125 236 8) ≠ 0)) => by exfalso; omega)
        refine wi_iconst (n := 0) (nx := 29) (r1 := 0) (r2 := 0) (r3 := 0) rfl ?_
        refine wr_V (k0 := 236) (rest := []) (as := [.ref 236, vi 0]) (nx := 32) (r1 := 206) (r2 := 1) (r3 := 11) rfl rfl rfl (of_decide_eq_true rfl) rfl rfl (by decide) rfl rfl (of_decide_eq_true rfl) (of_decide_eq_true rfl) ?_
        refine wi_aload_n (i := 0) (x := 236) (nx := 1) (r1 := 0) (r2 := 0) (r3 := 0) rfl rfl ?_
        refine wi_iload_n (i := 1) (e := 0) (nx := 2) (r1 := 0) (r2 := 0) (r3 := 0) rfl rfl ?_
        refine wi_if (cd := .ne) (nx := 5) (r1 := 9) (r2 := 0) (r3 := 0) rfl (by omega) (fun (q154 : 0 ≠ 0) => by exfalso; omega) (fun (q154 : ¬ (0 ≠ 0)) => ?_)
        refine wi_iconst (n := 1) (nx := 6) (r1 := 0) (r2 := 0) (r3 := 0) rfl ?_
        refine wi_goto (nx := 9) (r1 := 10) (r2 := 0) (r3 := 0) rfl ?_
        refine wi_S (rest := [.ref 236]) (as := [vi 1]) (nx := 13) (r1 := 207) (r2 := 17) (r3 := 0) rfl rfl rfl (of_decide_eq_true rfl) rfl rfl (of_decide_eq_true rfl) (of_decide_eq_true rfl) ?_
        refine wi_iload_n (i := 0) (e := 1) (nx := 1) (r1 := 0) (r2 := 0) (r3 := 0) rfl rfl ?_
        refine wi_if (cd := .eq) (nx := 4) (r1 := 8) (r2 := 0) (r3 := 0) rfl (by omega) (fun (q155 : 1 = 0) => by exfalso; omega) (fun (q155 : ¬ (1 = 0)) => ?_)
        refine wi_iconst (n := 1) (nx := 5) (r1 := 0) (r2 := 0) (r3 := 0) rfl ?_
        refine wi_goto (nx := 8) (r1 := 9) (r2 := 0) (r3 := 0) rfl ?_
        refine wi_ireturn (nx := 10) (r1 := 0) (r2 := 0) (r3 := 0) rfl rfl ?_
        refine wk_i ?_
        refine wr_pf0 (k0 := 236) (x := 1) (bl := 0) (bh := 2) (nx := 16) (r1 := 11) (r2 := 0) (r3 := 0) rfl (by decide) rfl ⟨rfl, rfl⟩ rfl rfl g150 rfl (by omega) (fun h156 g156 w156 u156 => ?_)
        have F157 := F151.then rfl u156
        refine wi_iload_n (i := 1) (e := 0) (nx := 17) (r1 := 0) (r2 := 0) (r3 := 0) rfl rfl ?_
        refine wi_zreturn (nx := 18) (r1 := 0) (r2 := 0) (r3 := 0) rfl rfl (by omega) ?_
        refine wk_i ?_
        refine wi_zreturn (nx := 33) (r1 := 0) (r2 := 0) (r3 := 0) rfl rfl (by omega) ?_
        refine wk_i ?_
        refine wi_if (cd := .ne) (nx := 80) (r1 := 82) (r2 := 0) (r3 := 0) rfl (by omega) (fun (q158 : 0 ≠ 0) => by exfalso; omega) (fun (q158 : ¬ (0 ≠ 0)) => ?_)
        refine wi_iconst (n := 0) (nx := 81) (r1 := 0) (r2 := 0) (r3 := 0) rfl ?_
        refine wi_ireturn (nx := 82) (r1 := 0) (r2 := 0) (r3 := 0) rfl rfl ?_
        have e160 : h156 236 0 = 1 := w156
        have e161 : h156 236 8 = h125 236 8 := ((u156 236 8 rfl).trans ((u150 236 8 rfl).trans ((u148 236 8 rfl).trans (u142 236 8 rfl))))
        have e162 : h156 236 9 = h125 236 9 := ((u156 236 9 rfl).trans ((u150 236 9 rfl).trans ((u148 236 9 rfl).trans (u142 236 9 rfl))))
        have e163 : h156 236 10 = h125 236 8 := ((u156 236 10 rfl).trans ((u150 236 10 rfl).trans w148))
        have e164 : h156 236 11 = h125 236 9 := ((u156 236 11 rfl).trans w150)
        have e165 : h156 236 27 = e141 := ((u156 236 27 rfl).trans ((u150 236 27 rfl).trans ((u148 236 27 rfl).trans w142)))
        have RE159 := tk_REe (rs57.symm.trans (tk_rn_f (by omega) (by omega) eqq124))
        have b166 := gi_b (lo := 0) (hi := 6) g 236 22 rfl
        have e167 : h156 236 22 = h 236 22 := ((u156 236 22 rfl).trans ((u150 236 22 rfl).trans ((u148 236 22 rfl).trans ((u142 236 22 rfl).trans ((u125 236 22 rfl).trans ((u105 236 22 rfl).trans ((u57 236 22 rfl).trans ((u50 236 22 rfl).trans ((u48 236 22 rfl).trans ((u46 236 22 rfl).trans ((u44 236 22 rfl).trans ((u42 236 22 rfl).trans ((u26 236 22 rfl).trans (u13 236 22 rfl))))))))))))))
        have e168 : h156 238 98 = h 238 98 := ((u156 238 98 rfl).trans ((u150 238 98 rfl).trans ((u148 238 98 rfl).trans ((u142 238 98 rfl).trans ((u125 238 98 rfl).trans ((u105 238 98 rfl).trans ((u57 238 98 rfl).trans ((u50 238 98 rfl).trans ((u48 238 98 rfl).trans ((u46 238 98 rfl).trans ((u44 238 98 rfl).trans ((u42 238 98 rfl).trans ((u26 238 98 rfl).trans (u13 238 98 rfl))))))))))))))
        have e169 : h156 238 99 = h 238 99 := ((u156 238 99 rfl).trans ((u150 238 99 rfl).trans ((u148 238 99 rfl).trans ((u142 238 99 rfl).trans ((u125 238 99 rfl).trans ((u105 238 99 rfl).trans ((u57 238 99 rfl).trans ((u50 238 99 rfl).trans ((u48 238 99 rfl).trans ((u46 238 99 rfl).trans ((u44 238 99 rfl).trans ((u42 238 99 rfl).trans ((u26 238 99 rfl).trans (u13 238 99 rfl))))))))))))))
        have e170 : h156 238 100 = h 238 100 := ((u156 238 100 rfl).trans ((u150 238 100 rfl).trans ((u148 238 100 rfl).trans ((u142 238 100 rfl).trans ((u125 238 100 rfl).trans ((u105 238 100 rfl).trans ((u57 238 100 rfl).trans ((u50 238 100 rfl).trans ((u48 238 100 rfl).trans ((u46 238 100 rfl).trans ((u44 238 100 rfl).trans ((u42 238 100 rfl).trans ((u26 238 100 rfl).trans (u13 238 100 rfl))))))))))))))
        have e171 : h156 238 101 = h 238 101 := ((u156 238 101 rfl).trans ((u150 238 101 rfl).trans ((u148 238 101 rfl).trans ((u142 238 101 rfl).trans ((u125 238 101 rfl).trans ((u105 238 101 rfl).trans ((u57 238 101 rfl).trans ((u50 238 101 rfl).trans ((u48 238 101 rfl).trans ((u46 238 101 rfl).trans ((u44 238 101 rfl).trans ((u42 238 101 rfl).trans ((u26 238 101 rfl).trans (u13 238 101 rfl))))))))))))))
        have e172 : h156 238 102 = h 238 102 := ((u156 238 102 rfl).trans ((u150 238 102 rfl).trans ((u148 238 102 rfl).trans ((u142 238 102 rfl).trans ((u125 238 102 rfl).trans ((u105 238 102 rfl).trans ((u57 238 102 rfl).trans ((u50 238 102 rfl).trans ((u48 238 102 rfl).trans ((u46 238 102 rfl).trans ((u44 238 102 rfl).trans ((u42 238 102 rfl).trans ((u26 238 102 rfl).trans (u13 238 102 rfl))))))))))))))
        have e173 : h156 238 106 = h 238 106 := ((u156 238 106 rfl).trans ((u150 238 106 rfl).trans ((u148 238 106 rfl).trans ((u142 238 106 rfl).trans ((u125 238 106 rfl).trans ((u105 238 106 rfl).trans ((u57 238 106 rfl).trans ((u50 238 106 rfl).trans ((u48 238 106 rfl).trans ((u46 238 106 rfl).trans ((u44 238 106 rfl).trans ((u42 238 106 rfl).trans ((u26 238 106 rfl).trans (u13 238 106 rfl))))))))))))))
        have e174 : h156 238 73 = h 238 73 := ((u156 238 73 rfl).trans ((u150 238 73 rfl).trans ((u148 238 73 rfl).trans ((u142 238 73 rfl).trans ((u125 238 73 rfl).trans ((u105 238 73 rfl).trans ((u57 238 73 rfl).trans ((u50 238 73 rfl).trans ((u48 238 73 rfl).trans ((u46 238 73 rfl).trans ((u44 238 73 rfl).trans ((u42 238 73 rfl).trans ((u26 238 73 rfl).trans (u13 238 73 rfl))))))))))))))
        have e175 : h156 238 2 = h 238 2 := ((u156 238 2 rfl).trans ((u150 238 2 rfl).trans ((u148 238 2 rfl).trans ((u142 238 2 rfl).trans ((u125 238 2 rfl).trans ((u105 238 2 rfl).trans ((u57 238 2 rfl).trans ((u50 238 2 rfl).trans ((u48 238 2 rfl).trans ((u46 238 2 rfl).trans ((u44 238 2 rfl).trans ((u42 238 2 rfl).trans ((u26 238 2 rfl).trans (u13 238 2 rfl))))))))))))))
        have e176 : h156 238 119 = h 238 119 := ((u156 238 119 rfl).trans ((u150 238 119 rfl).trans ((u148 238 119 rfl).trans ((u142 238 119 rfl).trans ((u125 238 119 rfl).trans ((u105 238 119 rfl).trans ((u57 238 119 rfl).trans ((u50 238 119 rfl).trans ((u48 238 119 rfl).trans ((u46 238 119 rfl).trans ((u44 238 119 rfl).trans ((u42 238 119 rfl).trans ((u26 238 119 rfl).trans (u13 238 119 rfl))))))))))))))
        have e177 : h156 238 67 = h 238 67 := ((u156 238 67 rfl).trans ((u150 238 67 rfl).trans ((u148 238 67 rfl).trans ((u142 238 67 rfl).trans ((u125 238 67 rfl).trans ((u105 238 67 rfl).trans ((u57 238 67 rfl).trans ((u50 238 67 rfl).trans ((u48 238 67 rfl).trans ((u46 238 67 rfl).trans ((u44 238 67 rfl).trans ((u42 238 67 rfl).trans ((u26 238 67 rfl).trans (u13 238 67 rfl))))))))))))))
        have e178 : h156 238 69 = h 238 69 := ((u156 238 69 rfl).trans ((u150 238 69 rfl).trans ((u148 238 69 rfl).trans ((u142 238 69 rfl).trans ((u125 238 69 rfl).trans ((u105 238 69 rfl).trans ((u57 238 69 rfl).trans ((u50 238 69 rfl).trans ((u48 238 69 rfl).trans ((u46 238 69 rfl).trans ((u44 238 69 rfl).trans ((u42 238 69 rfl).trans ((u26 238 69 rfl).trans (u13 238 69 rfl))))))))))))))
        have e179 : h156 238 5 = h 238 5 := ((u156 238 5 rfl).trans ((u150 238 5 rfl).trans ((u148 238 5 rfl).trans ((u142 238 5 rfl).trans ((u125 238 5 rfl).trans ((u105 238 5 rfl).trans ((u57 238 5 rfl).trans ((u50 238 5 rfl).trans ((u48 238 5 rfl).trans ((u46 238 5 rfl).trans ((u44 238 5 rfl).trans ((u42 238 5 rfl).trans ((u26 238 5 rfl).trans (u13 238 5 rfl))))))))))))))
        have e180 : h156 236 2 = h13 236 2 := ((u156 236 2 rfl).trans ((u150 236 2 rfl).trans ((u148 236 2 rfl).trans ((u142 236 2 rfl).trans ((u125 236 2 rfl).trans ((u105 236 2 rfl).trans ((u57 236 2 rfl).trans ((u50 236 2 rfl).trans ((u48 236 2 rfl).trans ((u46 236 2 rfl).trans ((u44 236 2 rfl).trans ((u42 236 2 rfl).trans (u26 236 2 rfl)))))))))))))
        exact k h156 0 g156 F157 (by omega) (show (tk_ok tB tn = 1 ∧ (h156 236 0) = 0 ∧ 0 = tk_ct tB tn ∧ (h156 236 22) = 0) ∨ (tk_ok tB tn = 0 ∧ (h156 236 0) = 1 ∧ (h156 236 22) = (h 236 22)) by omega) (show (h156 238 98) + (h156 238 99) + (h156 238 100) + (h156 238 101) + (h156 238 102) + (h156 238 106) = (h156 238 73) by omega) (show (h156 238 73) ≤ (h156 238 2) by omega) (show (h156 238 119) ≤ (h156 238 67) by omega) (show (h156 238 69) ≤ (h156 238 5) by omega) (show (h156 238 2) ≤ 12 * (h156 238 5) by omega) (show (h156 236 2) = 0 by omega) (show (h156 236 10) = tk_ec tB tn by omega) (show (h156 236 11) = tk_ep tB tn by omega) (fun e => absurd e (by omega)) (fun _ i _ => ((u156 238 i (fn_a (by omega) fn_0)).trans ((u150 238 i (fn_a (by omega) fn_0)).trans ((u148 238 i (fn_a (by omega) fn_0)).trans ((u142 238 i (fn_a (by omega) fn_0)).trans ((u125 238 i (fo_nk rfl)).trans ((u105 238 i (fo_nk rfl)).trans ((u57 238 i (fo_nk rfl)).trans ((u50 238 i (fn_a (by omega) fn_0)).trans ((u48 238 i (fn_a (by omega) fn_0)).trans ((u46 238 i (fn_a (by omega) fn_0)).trans ((u44 238 i (fn_a (by omega) fn_0)).trans ((u42 238 i (fn_a (by omega) fn_0)).trans ((u26 238 i (fo_nk rfl)).trans (u13 238 i (fo_nk rfl))))))))))))))))
      ·
        have tkk141 := (p125_0.2.2.2.2).2.2
        have tN142 := @tk_nx_b tB tn (tk_nx tB tn p57) (by omega) (by omega)
        exfalso; omega
      ·
        exfalso; omega
-- method 260: Model.readyIn()I
set_option maxRecDepth 100000 in
set_option maxHeartbeats 100000000 in
theorem ct_260_236 {L : Nat} {xs : Nat → Int32} {d b c : Nat} {h : hp} {cr : Nat → Nat → Option Nat} {Q : hp_Q} (hcr : CR cr)  (g : GI h)    (k : ∀ (h2 : hp) (z0 : Int) , GI h2 → FR [(236, 236, some (0, 0))] h h2 → (-9999 ≤ z0 ∧ z0 ≤ 20000) → Q (.inl (some (vi z0))) (hp_w h2 cr) b c) : wp (md_xa (L, xs)) (d + 1) 260 (0, [(0, .ref 236)], [], hp_w h cr, b, c) Q := by
  have F0 : FR [(236, 236, some (0, 0))] h h := FR.refl
  refine wi_aload_n (i := 0) (x := 236) (nx := 1) (r1 := 0) (r2 := 0) (r3 := 0) rfl rfl ?_
  refine wi_iconst (n := 0) (nx := 2) (r1 := 0) (r2 := 0) (r3 := 0) rfl ?_
  refine wr_pf0 (k0 := 236) (x := 0) (bl := 0) (bh := 2) (nx := 5) (r1 := 11) (r2 := 0) (r3 := 0) rfl (by decide) rfl ⟨rfl, rfl⟩ rfl rfl g rfl (by omega) (fun h1 g1 w1 u1 => ?_)
  have F2 := F0.then rfl u1
  refine wi_aload_n (i := 0) (x := 236) (nx := 6) (r1 := 0) (r2 := 0) (r3 := 0) rfl rfl ?_
  refine wr_gr (k0 := 236) (x := 238) (nx := 9) (r1 := 11) (r2 := 13) (r3 := 0) rfl rfl (by decide) rfl ⟨rfl, rfl⟩ rfl ?_
  refine wi_bipush (n := 102) (nx := 11) (r1 := 0) (r2 := 0) (r3 := 0) rfl (by decide) ?_
  have b3 := gi_b (lo := 0) (hi := 3) g 238 102 rfl
  refine wr_ia (k0 := 238) (a := 102) (f := 102) (x := h 238 102) (nx := 12) (r1 := 0) (r2 := 0) (r3 := 0) rfl (by decide) rfl (by omega) (by omega) (by decide) (u1 238 102 rfl) ?_
  refine wi_if (cd := .ne) (nx := 15) (r1 := 19) (r2 := 0) (r3 := 0) rfl (by omega) (fun (q4 : (h 238 102) ≠ 0) => ?_) (fun (q4 : ¬ ((h 238 102) ≠ 0)) => ?_)
  ·
    refine wi_iconst (n := 0) (nx := 20) (r1 := 0) (r2 := 0) (r3 := 0) rfl ?_
    refine wi_aload_n (i := 0) (x := 236) (nx := 21) (r1 := 0) (r2 := 0) (r3 := 0) rfl rfl ?_
    refine wr_gr (k0 := 236) (x := 238) (nx := 24) (r1 := 11) (r2 := 13) (r3 := 0) rfl rfl (by decide) rfl ⟨rfl, rfl⟩ rfl ?_
    refine wi_bipush (n := 55) (nx := 26) (r1 := 0) (r2 := 0) (r3 := 0) rfl (by decide) ?_
    refine wi_aload_n (i := 0) (x := 236) (nx := 27) (r1 := 0) (r2 := 0) (r3 := 0) rfl rfl ?_
    refine wr_gr (k0 := 236) (x := 238) (nx := 30) (r1 := 11) (r2 := 13) (r3 := 0) rfl rfl (by decide) rfl ⟨rfl, rfl⟩ rfl ?_
    refine wi_bipush (n := 103) (nx := 32) (r1 := 0) (r2 := 0) (r3 := 0) rfl (by decide) ?_
    have b5 := gi_b (lo := 0) (hi := 11) g 238 103 rfl
    refine wr_ia (k0 := 238) (a := 103) (f := 103) (x := h 238 103) (nx := 33) (r1 := 0) (r2 := 0) (r3 := 0) rfl (by decide) rfl (by omega) (by omega) (by decide) (u1 238 103 rfl) ?_
    refine wr_add (nx := 34) (r1 := 0) (r2 := 0) (r3 := 0) rfl (fun e6 (fe6 : e6 = 55 + (h 238 103)) => ?_)
    obtain ⟨i7, ei7⟩ : ∃ q : Nat, e6 = (q : Int) := ⟨(e6).toNat, by omega⟩
    have b8 := gi_b (lo := 0) (hi := 20000) g 238 i7 (gi_rg 55 12 (fun _ => rfl) (by decide +kernel) (by omega))
    refine wr_ia (k0 := 238) (a := e6) (f := i7) (x := h 238 i7) (nx := 35) (r1 := 0) (r2 := 0) (r3 := 0) rfl (by decide) rfl (by omega) (by omega) (by decide) (u1 238 i7 (fn_a (by omega) fn_0)) ?_
    refine wi_aload_n (i := 0) (x := 236) (nx := 36) (r1 := 0) (r2 := 0) (r3 := 0) rfl rfl ?_
    refine wr_gr (k0 := 236) (x := 238) (nx := 39) (r1 := 11) (r2 := 13) (r3 := 0) rfl rfl (by decide) rfl ⟨rfl, rfl⟩ rfl ?_
    refine wi_bipush (n := 67) (nx := 41) (r1 := 0) (r2 := 0) (r3 := 0) rfl (by decide) ?_
    have b9 := gi_b (lo := 0) (hi := 9999) g 238 67 rfl
    refine wr_ia (k0 := 238) (a := 67) (f := 67) (x := h 238 67) (nx := 42) (r1 := 0) (r2 := 0) (r3 := 0) rfl (by decide) rfl (by omega) (by omega) (by decide) (u1 238 67 rfl) ?_
    refine wr_sub (nx := 43) (r1 := 0) (r2 := 0) (r3 := 0) rfl (fun e10 (fe10 : e10 = (h 238 i7) - (h 238 67)) => ?_)
    refine wi_S (rest := []) (as := [vi 0, vi e10]) (nx := 46) (r1 := 250) (r2 := 18) (r3 := 0) rfl rfl rfl (of_decide_eq_true rfl) rfl rfl (of_decide_eq_true rfl) (of_decide_eq_true rfl) ?_
    refine wi_iload_n (i := 0) (e := 0) (nx := 1) (r1 := 0) (r2 := 0) (r3 := 0) rfl rfl ?_
    refine wi_iload_n (i := 1) (e := e10) (nx := 2) (r1 := 0) (r2 := 0) (r3 := 0) rfl rfl ?_
    refine wi_icmp (cd := .le) (nx := 5) (r1 := 9) (r2 := 0) (r3 := 0) rfl (by omega) (by omega) (fun (q11 : 0 ≤ e10) => ?_) (fun (q11 : ¬ (0 ≤ e10)) => ?_)
    ·
      refine wi_iload_n (i := 1) (e := e10) (nx := 10) (r1 := 0) (r2 := 0) (r3 := 0) rfl rfl ?_
      refine wi_ireturn (nx := 11) (r1 := 0) (r2 := 0) (r3 := 0) rfl rfl ?_
      refine wk_i ?_
      refine wi_ireturn (nx := 47) (r1 := 0) (r2 := 0) (r3 := 0) rfl rfl ?_
      exact k h1 e10 g1 F2 (by omega)
    ·
      refine wi_iload_n (i := 0) (e := 0) (nx := 6) (r1 := 0) (r2 := 0) (r3 := 0) rfl rfl ?_
      refine wi_goto (nx := 9) (r1 := 10) (r2 := 0) (r3 := 0) rfl ?_
      refine wi_ireturn (nx := 11) (r1 := 0) (r2 := 0) (r3 := 0) rfl rfl ?_
      refine wk_i ?_
      refine wi_ireturn (nx := 47) (r1 := 0) (r2 := 0) (r3 := 0) rfl rfl ?_
      exact k h1 0 g1 F2 (by omega)
  ·
    refine wi_iconst (n := (-1)) (nx := 16) (r1 := 0) (r2 := 0) (r3 := 0) rfl ?_
    refine wi_goto (nx := 19) (r1 := 46) (r2 := 0) (r3 := 0) rfl ?_
    refine wi_ireturn (nx := 47) (r1 := 0) (r2 := 0) (r3 := 0) rfl rfl ?_
    exact k h1 (-1) g1 F2 (by omega)
-- method 347: Model.tellName(J)V
set_option maxRecDepth 100000 in
set_option maxHeartbeats 100000000 in
theorem ct_347_236 {L : Nat} {xs : Nat → Int32} {d b c : Nat} {h : hp} {cr : Nat → Nat → Option Nat} {Q : hp_Q} (hcr : CR cr)  (g : GI h) (a0 : Int) (q0_ : -9223372036854775808 ≤ a0 ∧ a0 ≤ 9223372036854775807) (pp0 : h 236 47 ≤ 291) (k : ∀ (h2 : hp) , GI h2 → FR [(258, 258, none), (236, 236, some (47, 47))] h h2 → (h2 236 47 ≤ h 236 47 + 8) → Q (.inl none) (hp_w h2 cr) b c) : wp (md_xa (L, xs)) (d + 1) 347 (0, [(0, .ref 236), (1, vl a0)], [], hp_w h cr, b, c) Q := by
  have F0 : FR [(258, 258, none), (236, 236, some (47, 47))] h h := FR.refl
  have b1 := gi_b (lo := 0) (hi := 300) g 236 47 rfl
  refine wi_iconst (n := 0) (nx := 1) (r1 := 0) (r2 := 0) (r3 := 0) rfl ?_
  refine wi_istore_n (i := 3) (e := 0) (lo2 := [(3, vi 0), (0, .ref 236), (1, vl a0)]) (nx := 2) (r1 := 0) (r2 := 0) (r3 := 0) rfl rfl ?_
  refine wi_bipush (n := 35) (nx := 4) (r1 := 0) (r2 := 0) (r3 := 0) rfl (by decide) ?_
  refine wi_istore (i := 4) (e := 35) (lo2 := [(4, vi 35), (3, vi 0), (0, .ref 236), (1, vl a0)]) (nx := 6) (r1 := 0) (r2 := 0) (r3 := 0) rfl rfl ?_
  refine wp.lo (lo := [(0, .ref 236), (1, vl a0), (3, vi 0), (4, vi 35)]) ⟨rfl, rfl, rfl, rfl, trivial⟩ rfl ?_
  refine wl_2 (fun x2 x3 h4 => GI h4 ∧ FR [(258, 258, none), (236, 236, some (47, 47))] h h4 ∧ FR [(258, 258, none), (236, 236, some (47, 47))] h h4 ∧ ((0 ≤ x2 ∧ x2 ≤ 1) ∧ (-5 ≤ x3 ∧ x3 ≤ 35) ∧ (5 * (h4 236 47) - 5 * (h 236 47) ≤ 35 - x3))) (fun x2 x3 h4 => ((x3 : Int) - (-5)).toNat) (fun x2 x3 h4 => (6, [(0, .ref 236), (1, vl a0), (3, vi x2), (4, vi x3)], [], hp_w h4 cr, b, c)) ?_ 0 35 h ⟨g, F0, FR.refl, (show (0 ≤ 0 ∧ 0 ≤ 1) ∧ (-5 ≤ 35 ∧ 35 ≤ 35) ∧ (5 * (h 236 47) - 5 * (h 236 47) ≤ 35 - 35) by omega)⟩
  intro x2 x3 h4 ⟨g4, F5, u4, f4⟩ I4
  have b6 := gi_b (lo := 0) (hi := 300) g4 236 47 rfl
  refine wi_iload (i := 4) (e := x3) (nx := 8) (r1 := 0) (r2 := 0) (r3 := 0) rfl rfl ?_
  refine wi_if (cd := .lt) (nx := 11) (r1 := 58) (r2 := 0) (r3 := 0) rfl (by omega) (fun (q7 : x3 < 0) => ?_) (fun (q7 : ¬ (x3 < 0)) => ?_)
  ·
    refine wi_return (nx := 59) (r1 := 0) (r2 := 0) (r3 := 0) rfl rfl ?_
    exact k h4 g4 F5 (show (h4 236 47) ≤ (h 236 47) + 8 by omega)
  ·
    refine wi_lload_n (i := 1) (e := a0) (nx := 12) (r1 := 0) (r2 := 0) (r3 := 0) rfl rfl ?_
    refine wi_iload (i := 4) (e := x3) (nx := 14) (r1 := 0) (r2 := 0) (r3 := 0) rfl rfl ?_
    refine wr_lshrA (nx := 15) (r1 := 0) (r2 := 0) (r3 := 0) rfl (fun e8 (fe8 : -9223372036854775808 ≤ e8 ∧ e8 ≤ 9223372036854775807) => ?_)
    refine wi_ldc2_w (e := 31) (nx := 18) (r1 := 31) (r2 := 0) (r3 := 0) rfl (by decide) ?_
    refine wr_landA (nx := 19) (r1 := 0) (r2 := 0) (r3 := 0) rfl (fun e9 (fe9 : -9223372036854775808 ≤ e9 ∧ e9 ≤ 9223372036854775807) => ?_)
    refine wr_l2iA (nx := 20) (r1 := 0) (r2 := 0) (r3 := 0) rfl (fun e10 (fe10 : -2147483648 ≤ e10 ∧ e10 ≤ 2147483647) => ?_)
    refine wi_istore (i := 5) (e := e10) (lo2 := [(5, vi e10), (0, .ref 236), (1, vl a0), (3, vi x2), (4, vi x3)]) (nx := 22) (r1 := 0) (r2 := 0) (r3 := 0) rfl rfl ?_
    refine wi_iload_n (i := 3) (e := x2) (nx := 23) (r1 := 0) (r2 := 0) (r3 := 0) rfl rfl ?_
    refine wi_if (cd := .ne) (nx := 26) (r1 := 31) (r2 := 0) (r3 := 0) rfl (by omega) (fun (q11 : x2 ≠ 0) => ?_) (fun (q11 : ¬ (x2 ≠ 0)) => ?_)
    ·
      refine wi_iconst (n := 1) (nx := 32) (r1 := 0) (r2 := 0) (r3 := 0) rfl ?_
      refine wi_goto (nx := 35) (r1 := 36) (r2 := 0) (r3 := 0) rfl ?_
      refine wi_istore_n (i := 3) (e := 1) (lo2 := [(3, vi 1), (5, vi e10), (0, .ref 236), (1, vl a0), (4, vi x3)]) (nx := 37) (r1 := 0) (r2 := 0) (r3 := 0) rfl rfl ?_
      refine wi_iload_n (i := 3) (e := 1) (nx := 38) (r1 := 0) (r2 := 0) (r3 := 0) rfl rfl ?_
      refine wi_if (cd := .eq) (nx := 41) (r1 := 52) (r2 := 0) (r3 := 0) rfl (by omega) (fun (q12 : 1 = 0) => by exfalso; omega) (fun (q12 : ¬ (1 = 0)) => ?_)
      refine wi_aload_n (i := 0) (x := 236) (nx := 42) (r1 := 0) (r2 := 0) (r3 := 0) rfl rfl ?_
      refine wi_bipush (n := 97) (nx := 44) (r1 := 0) (r2 := 0) (r3 := 0) rfl (by decide) ?_
      refine wi_iload (i := 5) (e := e10) (nx := 46) (r1 := 0) (r2 := 0) (r3 := 0) rfl rfl ?_
      refine wr_addW (nx := 47) (r1 := 0) (r2 := 0) (r3 := 0) rfl (fun e13 (fe13 : -2147483648 ≤ e13 ∧ e13 ≤ 2147483647) => ?_)
      refine wi_iconst (n := 1) (nx := 48) (r1 := 0) (r2 := 0) (r3 := 0) rfl ?_
      refine wr_subW (nx := 49) (r1 := 0) (r2 := 0) (r3 := 0) rfl (fun e14 (fe14 : -2147483648 ≤ e14 ∧ e14 ≤ 2147483647) => ?_)
      refine wr_V (k0 := 236) (rest := []) (as := [.ref 236, vi e14]) (nx := 52) (r1 := 348) (r2 := 1) (r3 := 11) rfl rfl rfl (of_decide_eq_true rfl) rfl rfl (by decide) rfl rfl (of_decide_eq_true rfl) (of_decide_eq_true rfl) ?_
      refine wi_aload_n (i := 0) (x := 236) (nx := 1) (r1 := 0) (r2 := 0) (r3 := 0) rfl rfl ?_
      refine wr_gr (k0 := 236) (x := 258) (nx := 4) (r1 := 11) (r2 := 46) (r3 := 0) rfl rfl (by decide) rfl ⟨rfl, rfl⟩ rfl ?_
      refine wi_aload_n (i := 0) (x := 236) (nx := 5) (r1 := 0) (r2 := 0) (r3 := 0) rfl rfl ?_
      refine wr_gi0 (k0 := 236) (x := h4 236 47) (nx := 8) (r1 := 11) (r2 := 47) (r3 := 0) rfl rfl (by decide) rfl ⟨rfl, rfl⟩ rfl rfl ?_
      refine wi_iload_n (i := 1) (e := e14) (nx := 9) (r1 := 0) (r2 := 0) (r3 := 0) rfl rfl ?_
      obtain ⟨i15, ei15⟩ : ∃ q : Nat, (h4 236 47) = (q : Int) := ⟨(h4 236 47).toNat, by omega⟩
      refine wr_is (k0 := 258) (a := h4 236 47) (f := i15) (x := e14) (bl := -2147483648) (bh := 2147483647) (nx := 10) (r1 := 0) (r2 := 0) (r3 := 0) rfl (by decide) rfl (by omega) (by omega) (by decide) g4 rfl (by omega) (fun h16 g16 w16 u16 => ?_)
      have F17 := F5.then rfl (FR.rngp (lo := 258) (hi := 258) u16 (by decide))
      have F18 := u4.then rfl (FR.rngp (lo := 258) (hi := 258) u16 (by decide))
      refine wi_aload_n (i := 0) (x := 236) (nx := 11) (r1 := 0) (r2 := 0) (r3 := 0) rfl rfl ?_
      refine wi_dup (nx := 12) (r1 := 0) (r2 := 0) (r3 := 0) rfl rfl ?_
      refine wr_gi0 (k0 := 236) (x := h4 236 47) (nx := 15) (r1 := 11) (r2 := 47) (r3 := 0) rfl rfl (by decide) rfl ⟨rfl, rfl⟩ rfl (u16 236 47 (fn_a (by omega) fn_0)) ?_
      refine wi_iconst (n := 1) (nx := 16) (r1 := 0) (r2 := 0) (r3 := 0) rfl ?_
      refine wr_add (nx := 17) (r1 := 0) (r2 := 0) (r3 := 0) rfl (fun e19 (fe19 : e19 = (h4 236 47) + 1) => ?_)
      refine wr_pf0 (k0 := 236) (x := e19) (bl := 0) (bh := 300) (nx := 20) (r1 := 11) (r2 := 47) (r3 := 0) rfl (by decide) rfl ⟨rfl, rfl⟩ rfl rfl g16 rfl (by omega) (fun h20 g20 w20 u20 => ?_)
      have F21 := F17.then rfl u20
      have F22 := F18.then rfl u20
      refine wi_return (nx := 21) (r1 := 0) (r2 := 0) (r3 := 0) rfl rfl ?_
      refine wk_n ?_
      refine wr_iinc (i := 4) (n := (-5)) (v := x3) (fun e23 => [(4, vi e23), (3, vi 1), (5, vi e10), (0, .ref 236), (1, vl a0)]) (nx := 55) (r1 := 0) (r2 := 0) (r3 := 0) rfl rfl (fun _ => rfl) (fun e23 (fe23 : e23 = x3 + (-5)) => ?_)
      refine wi_goto (nx := 58) (r1 := 6) (r2 := 0) (r3 := 0) rfl ?_
      have e24 : h20 236 47 = e19 := w20
      refine wp.lo (lo := [(0, .ref 236), (1, vl a0), (3, vi 1), (4, vi e23)]) ⟨rfl, rfl, rfl, rfl, trivial⟩ rfl ?_
      exact I4 1 e23 h20 ⟨g20, F21, F22, (show (0 ≤ 1 ∧ 1 ≤ 1) ∧ (-5 ≤ e23 ∧ e23 ≤ 35) ∧ (5 * (h20 236 47) - 5 * (h 236 47) ≤ 35 - e23) by omega)⟩ (show ((e23 : Int) - (-5)).toNat < ((x3 : Int) - (-5)).toNat by omega)
    ·
      refine wi_iload (i := 5) (e := e10) (nx := 28) (r1 := 0) (r2 := 0) (r3 := 0) rfl rfl ?_
      refine wi_if (cd := .le) (nx := 31) (r1 := 35) (r2 := 0) (r3 := 0) rfl (by omega) (fun (q12 : e10 ≤ 0) => ?_) (fun (q12 : ¬ (e10 ≤ 0)) => ?_)
      ·
        refine wi_iconst (n := 0) (nx := 36) (r1 := 0) (r2 := 0) (r3 := 0) rfl ?_
        refine wi_istore_n (i := 3) (e := 0) (lo2 := [(3, vi 0), (5, vi e10), (0, .ref 236), (1, vl a0), (4, vi x3)]) (nx := 37) (r1 := 0) (r2 := 0) (r3 := 0) rfl rfl ?_
        refine wi_iload_n (i := 3) (e := 0) (nx := 38) (r1 := 0) (r2 := 0) (r3 := 0) rfl rfl ?_
        refine wi_if (cd := .eq) (nx := 41) (r1 := 52) (r2 := 0) (r3 := 0) rfl (by omega) (fun (q13 : 0 = 0) => ?_) (fun (q13 : ¬ (0 = 0)) => by exfalso; omega)
        refine wr_iinc (i := 4) (n := (-5)) (v := x3) (fun e14 => [(4, vi e14), (3, vi 0), (5, vi e10), (0, .ref 236), (1, vl a0)]) (nx := 55) (r1 := 0) (r2 := 0) (r3 := 0) rfl rfl (fun _ => rfl) (fun e14 (fe14 : e14 = x3 + (-5)) => ?_)
        refine wi_goto (nx := 58) (r1 := 6) (r2 := 0) (r3 := 0) rfl ?_
        refine wp.lo (lo := [(0, .ref 236), (1, vl a0), (3, vi 0), (4, vi e14)]) ⟨rfl, rfl, rfl, rfl, trivial⟩ rfl ?_
        exact I4 0 e14 h4 ⟨g4, F5, u4, (show (0 ≤ 0 ∧ 0 ≤ 1) ∧ (-5 ≤ e14 ∧ e14 ≤ 35) ∧ (5 * (h4 236 47) - 5 * (h 236 47) ≤ 35 - e14) by omega)⟩ (show ((e14 : Int) - (-5)).toNat < ((x3 : Int) - (-5)).toNat by omega)
      ·
        refine wi_iconst (n := 1) (nx := 32) (r1 := 0) (r2 := 0) (r3 := 0) rfl ?_
        refine wi_goto (nx := 35) (r1 := 36) (r2 := 0) (r3 := 0) rfl ?_
        refine wi_istore_n (i := 3) (e := 1) (lo2 := [(3, vi 1), (5, vi e10), (0, .ref 236), (1, vl a0), (4, vi x3)]) (nx := 37) (r1 := 0) (r2 := 0) (r3 := 0) rfl rfl ?_
        refine wi_iload_n (i := 3) (e := 1) (nx := 38) (r1 := 0) (r2 := 0) (r3 := 0) rfl rfl ?_
        refine wi_if (cd := .eq) (nx := 41) (r1 := 52) (r2 := 0) (r3 := 0) rfl (by omega) (fun (q13 : 1 = 0) => by exfalso; omega) (fun (q13 : ¬ (1 = 0)) => ?_)
        refine wi_aload_n (i := 0) (x := 236) (nx := 42) (r1 := 0) (r2 := 0) (r3 := 0) rfl rfl ?_
        refine wi_bipush (n := 97) (nx := 44) (r1 := 0) (r2 := 0) (r3 := 0) rfl (by decide) ?_
        refine wi_iload (i := 5) (e := e10) (nx := 46) (r1 := 0) (r2 := 0) (r3 := 0) rfl rfl ?_
        refine wr_addW (nx := 47) (r1 := 0) (r2 := 0) (r3 := 0) rfl (fun e14 (fe14 : -2147483648 ≤ e14 ∧ e14 ≤ 2147483647) => ?_)
        refine wi_iconst (n := 1) (nx := 48) (r1 := 0) (r2 := 0) (r3 := 0) rfl ?_
        refine wr_subW (nx := 49) (r1 := 0) (r2 := 0) (r3 := 0) rfl (fun e15 (fe15 : -2147483648 ≤ e15 ∧ e15 ≤ 2147483647) => ?_)
        refine wr_V (k0 := 236) (rest := []) (as := [.ref 236, vi e15]) (nx := 52) (r1 := 348) (r2 := 1) (r3 := 11) rfl rfl rfl (of_decide_eq_true rfl) rfl rfl (by decide) rfl rfl (of_decide_eq_true rfl) (of_decide_eq_true rfl) ?_
        refine wi_aload_n (i := 0) (x := 236) (nx := 1) (r1 := 0) (r2 := 0) (r3 := 0) rfl rfl ?_
        refine wr_gr (k0 := 236) (x := 258) (nx := 4) (r1 := 11) (r2 := 46) (r3 := 0) rfl rfl (by decide) rfl ⟨rfl, rfl⟩ rfl ?_
        refine wi_aload_n (i := 0) (x := 236) (nx := 5) (r1 := 0) (r2 := 0) (r3 := 0) rfl rfl ?_
        refine wr_gi0 (k0 := 236) (x := h4 236 47) (nx := 8) (r1 := 11) (r2 := 47) (r3 := 0) rfl rfl (by decide) rfl ⟨rfl, rfl⟩ rfl rfl ?_
        refine wi_iload_n (i := 1) (e := e15) (nx := 9) (r1 := 0) (r2 := 0) (r3 := 0) rfl rfl ?_
        obtain ⟨i16, ei16⟩ : ∃ q : Nat, (h4 236 47) = (q : Int) := ⟨(h4 236 47).toNat, by omega⟩
        refine wr_is (k0 := 258) (a := h4 236 47) (f := i16) (x := e15) (bl := -2147483648) (bh := 2147483647) (nx := 10) (r1 := 0) (r2 := 0) (r3 := 0) rfl (by decide) rfl (by omega) (by omega) (by decide) g4 rfl (by omega) (fun h17 g17 w17 u17 => ?_)
        have F18 := F5.then rfl (FR.rngp (lo := 258) (hi := 258) u17 (by decide))
        have F19 := u4.then rfl (FR.rngp (lo := 258) (hi := 258) u17 (by decide))
        refine wi_aload_n (i := 0) (x := 236) (nx := 11) (r1 := 0) (r2 := 0) (r3 := 0) rfl rfl ?_
        refine wi_dup (nx := 12) (r1 := 0) (r2 := 0) (r3 := 0) rfl rfl ?_
        refine wr_gi0 (k0 := 236) (x := h4 236 47) (nx := 15) (r1 := 11) (r2 := 47) (r3 := 0) rfl rfl (by decide) rfl ⟨rfl, rfl⟩ rfl (u17 236 47 (fn_a (by omega) fn_0)) ?_
        refine wi_iconst (n := 1) (nx := 16) (r1 := 0) (r2 := 0) (r3 := 0) rfl ?_
        refine wr_add (nx := 17) (r1 := 0) (r2 := 0) (r3 := 0) rfl (fun e20 (fe20 : e20 = (h4 236 47) + 1) => ?_)
        refine wr_pf0 (k0 := 236) (x := e20) (bl := 0) (bh := 300) (nx := 20) (r1 := 11) (r2 := 47) (r3 := 0) rfl (by decide) rfl ⟨rfl, rfl⟩ rfl rfl g17 rfl (by omega) (fun h21 g21 w21 u21 => ?_)
        have F22 := F18.then rfl u21
        have F23 := F19.then rfl u21
        refine wi_return (nx := 21) (r1 := 0) (r2 := 0) (r3 := 0) rfl rfl ?_
        refine wk_n ?_
        refine wr_iinc (i := 4) (n := (-5)) (v := x3) (fun e24 => [(4, vi e24), (3, vi 1), (5, vi e10), (0, .ref 236), (1, vl a0)]) (nx := 55) (r1 := 0) (r2 := 0) (r3 := 0) rfl rfl (fun _ => rfl) (fun e24 (fe24 : e24 = x3 + (-5)) => ?_)
        refine wi_goto (nx := 58) (r1 := 6) (r2 := 0) (r3 := 0) rfl ?_
        have e25 : h21 236 47 = e20 := w21
        refine wp.lo (lo := [(0, .ref 236), (1, vl a0), (3, vi 1), (4, vi e24)]) ⟨rfl, rfl, rfl, rfl, trivial⟩ rfl ?_
        exact I4 1 e24 h21 ⟨g21, F22, F23, (show (0 ≤ 1 ∧ 1 ≤ 1) ∧ (-5 ≤ e24 ∧ e24 ≤ 35) ∧ (5 * (h21 236 47) - 5 * (h 236 47) ≤ 35 - e24) by omega)⟩ (show ((e24 : Int) - (-5)).toNat < ((x3 : Int) - (-5)).toNat by omega)
-- method 349: Model.tellCar(I)V
set_option maxRecDepth 100000 in
set_option maxHeartbeats 100000000 in
theorem ct_349_236 {L : Nat} {xs : Nat → Int32} {d b c : Nat} {h : hp} {cr : Nat → Nat → Option Nat} {Q : hp_Q} (hcr : CR cr)  (g : GI h) (a0 : Int) (q0_ : 0 ≤ a0 ∧ a0 ≤ 11) (pp0 : h 236 47 ≤ 289) (k : ∀ (h2 : hp) , GI h2 → FR [(258, 258, none), (236, 236, some (47, 47))] h h2 → (h2 236 47 ≤ h 236 47 + 10) → Q (.inl none) (hp_w h2 cr) b c) : wp (md_xa (L, xs)) (d + 2) 349 (0, [(0, .ref 236), (1, vi a0)], [], hp_w h cr, b, c) Q := by
  have F0 : FR [(258, 258, none), (236, 236, some (47, 47))] h h := FR.refl
  have b1 := gi_b (lo := 0) (hi := 300) g 236 47 rfl
  refine wi_aload_n (i := 0) (x := 236) (nx := 1) (r1 := 0) (r2 := 0) (r3 := 0) rfl rfl ?_
  refine wi_bipush (n := 32) (nx := 3) (r1 := 0) (r2 := 0) (r3 := 0) rfl (by decide) ?_
  refine wr_V (k0 := 236) (rest := []) (as := [.ref 236, vi 32]) (nx := 6) (r1 := 348) (r2 := 1) (r3 := 11) rfl rfl rfl (of_decide_eq_true rfl) rfl rfl (by decide) rfl rfl (of_decide_eq_true rfl) (of_decide_eq_true rfl) ?_
  refine wi_aload_n (i := 0) (x := 236) (nx := 1) (r1 := 0) (r2 := 0) (r3 := 0) rfl rfl ?_
  refine wr_gr (k0 := 236) (x := 258) (nx := 4) (r1 := 11) (r2 := 46) (r3 := 0) rfl rfl (by decide) rfl ⟨rfl, rfl⟩ rfl ?_
  refine wi_aload_n (i := 0) (x := 236) (nx := 5) (r1 := 0) (r2 := 0) (r3 := 0) rfl rfl ?_
  refine wr_gi0 (k0 := 236) (x := h 236 47) (nx := 8) (r1 := 11) (r2 := 47) (r3 := 0) rfl rfl (by decide) rfl ⟨rfl, rfl⟩ rfl rfl ?_
  refine wi_iload_n (i := 1) (e := 32) (nx := 9) (r1 := 0) (r2 := 0) (r3 := 0) rfl rfl ?_
  obtain ⟨i2, ei2⟩ : ∃ q : Nat, (h 236 47) = (q : Int) := ⟨(h 236 47).toNat, by omega⟩
  refine wr_is (k0 := 258) (a := h 236 47) (f := i2) (x := 32) (bl := -2147483648) (bh := 2147483647) (nx := 10) (r1 := 0) (r2 := 0) (r3 := 0) rfl (by decide) rfl (by omega) (by omega) (by decide) g rfl (by omega) (fun h3 g3 w3 u3 => ?_)
  have F4 := F0.then rfl (FR.rngp (lo := 258) (hi := 258) u3 (by decide))
  refine wi_aload_n (i := 0) (x := 236) (nx := 11) (r1 := 0) (r2 := 0) (r3 := 0) rfl rfl ?_
  refine wi_dup (nx := 12) (r1 := 0) (r2 := 0) (r3 := 0) rfl rfl ?_
  refine wr_gi0 (k0 := 236) (x := h 236 47) (nx := 15) (r1 := 11) (r2 := 47) (r3 := 0) rfl rfl (by decide) rfl ⟨rfl, rfl⟩ rfl (u3 236 47 (fn_a (by omega) fn_0)) ?_
  refine wi_iconst (n := 1) (nx := 16) (r1 := 0) (r2 := 0) (r3 := 0) rfl ?_
  refine wr_add (nx := 17) (r1 := 0) (r2 := 0) (r3 := 0) rfl (fun e5 (fe5 : e5 = (h 236 47) + 1) => ?_)
  refine wr_pf0 (k0 := 236) (x := e5) (bl := 0) (bh := 300) (nx := 20) (r1 := 11) (r2 := 47) (r3 := 0) rfl (by decide) rfl ⟨rfl, rfl⟩ rfl rfl g3 rfl (by omega) (fun h6 g6 w6 u6 => ?_)
  have F7 := F4.then rfl u6
  refine wi_return (nx := 21) (r1 := 0) (r2 := 0) (r3 := 0) rfl rfl ?_
  refine wk_n ?_
  refine wi_aload_n (i := 0) (x := 236) (nx := 7) (r1 := 0) (r2 := 0) (r3 := 0) rfl rfl ?_
  refine wi_aload_n (i := 0) (x := 236) (nx := 8) (r1 := 0) (r2 := 0) (r3 := 0) rfl rfl ?_
  refine wr_gr (k0 := 236) (x := 243) (nx := 11) (r1 := 11) (r2 := 18) (r3 := 0) rfl rfl (by decide) rfl ⟨rfl, rfl⟩ rfl ?_
  refine wi_aload_n (i := 0) (x := 236) (nx := 12) (r1 := 0) (r2 := 0) (r3 := 0) rfl rfl ?_
  refine wr_gr (k0 := 236) (x := 238) (nx := 15) (r1 := 11) (r2 := 13) (r3 := 0) rfl rfl (by decide) rfl ⟨rfl, rfl⟩ rfl ?_
  refine wi_bipush (n := 31) (nx := 17) (r1 := 0) (r2 := 0) (r3 := 0) rfl (by decide) ?_
  refine wi_iload_n (i := 1) (e := a0) (nx := 18) (r1 := 0) (r2 := 0) (r3 := 0) rfl rfl ?_
  refine wr_add (nx := 19) (r1 := 0) (r2 := 0) (r3 := 0) rfl (fun e8 (fe8 : e8 = 31 + a0) => ?_)
  obtain ⟨i9, ei9⟩ : ∃ q : Nat, e8 = (q : Int) := ⟨(e8).toNat, by omega⟩
  have b10 := gi_b (lo := 0) (hi := 4) g 238 i9 (gi_rg 31 12 (fun _ => rfl) (by decide +kernel) (by omega))
  refine wr_ia (k0 := 238) (a := e8) (f := i9) (x := h 238 i9) (nx := 20) (r1 := 0) (r2 := 0) (r3 := 0) rfl (by decide) rfl (by omega) (by omega) (by decide) ((u6 238 i9 (fn_a (by omega) fn_0)).trans (u3 238 i9 (fn_a (by omega) fn_0))) ?_
  obtain ⟨i11, ei11⟩ : ∃ q : Nat, (h 238 i9) = (q : Int) := ⟨(h 238 i9).toNat, by omega⟩
  have b12 := gi_b (lo := -9223372036854775808) (hi := 9223372036854775807) g 243 i11 rfl
  refine wr_la (k0 := 243) (a := h 238 i9) (f := i11) (x := h 243 i11) (nx := 21) (r1 := 0) (r2 := 0) (r3 := 0) rfl (by decide) rfl (by omega) (by omega) (by decide) ((u6 243 i11 (fn_a (by omega) fn_0)).trans (u3 243 i11 (fn_a (by omega) fn_0))) ?_
  refine wr_V (k0 := 236) (rest := []) (as := [.ref 236, vl (h 243 i11)]) (nx := 24) (r1 := 347) (r2 := 1) (r3 := 11) rfl rfl rfl (of_decide_eq_true rfl) rfl rfl (by decide) rfl rfl (of_decide_eq_true rfl) (of_decide_eq_true rfl) ?_
  have e14 : h6 236 47 = e5 := w6
  refine ct_347_236 hcr  g6 (h 243 i11) (by omega) (show (h6 236 47) ≤ 291 by omega) (fun h13 g13 u13 (p13_0 : (h13 236 47) ≤ (h6 236 47) + 8) => ?_)
  have F15 := F7.then (by decide +kernel) u13
  have b16 := gi_b (lo := 0) (hi := 300) g13 236 47 rfl
  refine wk_n ?_
  refine wi_aload_n (i := 0) (x := 236) (nx := 25) (r1 := 0) (r2 := 0) (r3 := 0) rfl rfl ?_
  refine wi_bipush (n := 48) (nx := 27) (r1 := 0) (r2 := 0) (r3 := 0) rfl (by decide) ?_
  refine wi_aload_n (i := 0) (x := 236) (nx := 28) (r1 := 0) (r2 := 0) (r3 := 0) rfl rfl ?_
  refine wr_gr (k0 := 236) (x := 238) (nx := 31) (r1 := 11) (r2 := 13) (r3 := 0) rfl rfl (by decide) rfl ⟨rfl, rfl⟩ rfl ?_
  refine wi_bipush (n := 19) (nx := 33) (r1 := 0) (r2 := 0) (r3 := 0) rfl (by decide) ?_
  refine wi_iload_n (i := 1) (e := a0) (nx := 34) (r1 := 0) (r2 := 0) (r3 := 0) rfl rfl ?_
  refine wr_add (nx := 35) (r1 := 0) (r2 := 0) (r3 := 0) rfl (fun e17 (fe17 : e17 = 19 + a0) => ?_)
  obtain ⟨i18, ei18⟩ : ∃ q : Nat, e17 = (q : Int) := ⟨(e17).toNat, by omega⟩
  have b19 := gi_b (lo := 0) (hi := 999) g 238 i18 (gi_rg 19 12 (fun _ => rfl) (by decide +kernel) (by omega))
  refine wr_ia (k0 := 238) (a := e17) (f := i18) (x := h 238 i18) (nx := 36) (r1 := 0) (r2 := 0) (r3 := 0) rfl (by decide) rfl (by omega) (by omega) (by decide) ((u13 238 i18 (fn_a (by decide) (fn_a (by decide) fn_0))).trans ((u6 238 i18 (fn_a (by omega) fn_0)).trans (u3 238 i18 (fn_a (by omega) fn_0)))) ?_
  refine wr_add (nx := 37) (r1 := 0) (r2 := 0) (r3 := 0) rfl (fun e20 (fe20 : e20 = 48 + (h 238 i18)) => ?_)
  refine wr_V (k0 := 236) (rest := []) (as := [.ref 236, vi e20]) (nx := 40) (r1 := 348) (r2 := 1) (r3 := 11) rfl rfl rfl (of_decide_eq_true rfl) rfl rfl (by decide) rfl rfl (of_decide_eq_true rfl) (of_decide_eq_true rfl) ?_
  refine wi_aload_n (i := 0) (x := 236) (nx := 1) (r1 := 0) (r2 := 0) (r3 := 0) rfl rfl ?_
  refine wr_gr (k0 := 236) (x := 258) (nx := 4) (r1 := 11) (r2 := 46) (r3 := 0) rfl rfl (by decide) rfl ⟨rfl, rfl⟩ rfl ?_
  refine wi_aload_n (i := 0) (x := 236) (nx := 5) (r1 := 0) (r2 := 0) (r3 := 0) rfl rfl ?_
  refine wr_gi0 (k0 := 236) (x := h13 236 47) (nx := 8) (r1 := 11) (r2 := 47) (r3 := 0) rfl rfl (by decide) rfl ⟨rfl, rfl⟩ rfl rfl ?_
  refine wi_iload_n (i := 1) (e := e20) (nx := 9) (r1 := 0) (r2 := 0) (r3 := 0) rfl rfl ?_
  obtain ⟨i21, ei21⟩ : ∃ q : Nat, (h13 236 47) = (q : Int) := ⟨(h13 236 47).toNat, by omega⟩
  refine wr_is (k0 := 258) (a := h13 236 47) (f := i21) (x := e20) (bl := -2147483648) (bh := 2147483647) (nx := 10) (r1 := 0) (r2 := 0) (r3 := 0) rfl (by decide) rfl (by omega) (by omega) (by decide) g13 rfl (by omega) (fun h22 g22 w22 u22 => ?_)
  have F23 := F15.then rfl (FR.rngp (lo := 258) (hi := 258) u22 (by decide))
  refine wi_aload_n (i := 0) (x := 236) (nx := 11) (r1 := 0) (r2 := 0) (r3 := 0) rfl rfl ?_
  refine wi_dup (nx := 12) (r1 := 0) (r2 := 0) (r3 := 0) rfl rfl ?_
  refine wr_gi0 (k0 := 236) (x := h13 236 47) (nx := 15) (r1 := 11) (r2 := 47) (r3 := 0) rfl rfl (by decide) rfl ⟨rfl, rfl⟩ rfl (u22 236 47 (fn_a (by omega) fn_0)) ?_
  refine wi_iconst (n := 1) (nx := 16) (r1 := 0) (r2 := 0) (r3 := 0) rfl ?_
  refine wr_add (nx := 17) (r1 := 0) (r2 := 0) (r3 := 0) rfl (fun e24 (fe24 : e24 = (h13 236 47) + 1) => ?_)
  refine wr_pf0 (k0 := 236) (x := e24) (bl := 0) (bh := 300) (nx := 20) (r1 := 11) (r2 := 47) (r3 := 0) rfl (by decide) rfl ⟨rfl, rfl⟩ rfl rfl g22 rfl (by omega) (fun h25 g25 w25 u25 => ?_)
  have F26 := F23.then rfl u25
  refine wi_return (nx := 21) (r1 := 0) (r2 := 0) (r3 := 0) rfl rfl ?_
  refine wk_n ?_
  refine wi_return (nx := 41) (r1 := 0) (r2 := 0) (r3 := 0) rfl rfl ?_
  have e27 : h25 236 47 = e24 := w25
  exact k h25 g25 F26 (show (h25 236 47) ≤ (h 236 47) + 10 by omega)
-- method 346: Model.report()I
set_option maxRecDepth 100000 in
set_option maxHeartbeats 100000000 in
theorem ct_346_236 {L : Nat} {xs : Nat → Int32} {d b c : Nat} {h : hp} {cr : Nat → Nat → Option Nat} {Q : hp_Q} (hcr : CR cr)  (g : GI h)   (pp0 : h 238 98 + h 238 99 + h 238 100 + h 238 101 + h 238 102 + h 238 106 = h 238 73) (pp1 : h 238 73 ≤ h 238 2) (pp2 : h 238 119 ≤ h 238 67) (pp3 : h 238 69 ≤ h 238 5) (pp4 : h 238 2 ≤ 12 * h 238 5) (k : ∀ (h2 : hp) (z0 : Int) , GI h2 → FR [(258, 258, none), (236, 236, some (0, 0)), (236, 236, some (47, 47)), (236, 236, some (48, 48))] h h2 → (1 ≤ z0 ∧ z0 ≤ 301) → Q (.inl (some (vi z0))) (hp_w h2 cr) b c) : wp (md_xa (L, xs)) (d + 3) 346 (0, [(0, .ref 236)], [], hp_w h cr, b, c) Q := by
  have F0 : FR [(258, 258, none), (236, 236, some (0, 0)), (236, 236, some (47, 47)), (236, 236, some (48, 48))] h h := FR.refl
  have b1 := gi_b (lo := 0) (hi := 6) g 238 98 rfl
  have b2 := gi_b (lo := 0) (hi := 6) g 238 99 rfl
  have b3 := gi_b (lo := 0) (hi := 6) g 238 100 rfl
  have b4 := gi_b (lo := 0) (hi := 6) g 238 101 rfl
  have b5 := gi_b (lo := 0) (hi := 3) g 238 102 rfl
  have b6 := gi_b (lo := 0) (hi := 12) g 238 106 rfl
  have b7 := gi_b (lo := 0) (hi := 12) g 238 73 rfl
  have b8 := gi_b (lo := 0) (hi := 12) g 238 2 rfl
  have b9 := gi_b (lo := 0) (hi := 9999) g 238 119 rfl
  have b10 := gi_b (lo := 0) (hi := 9999) g 238 67 rfl
  have b11 := gi_b (lo := 0) (hi := 9) g 238 69 rfl
  have b12 := gi_b (lo := 0) (hi := 9) g 238 5 rfl
  refine wi_aload_n (i := 0) (x := 236) (nx := 1) (r1 := 0) (r2 := 0) (r3 := 0) rfl rfl ?_
  refine wi_iconst (n := 0) (nx := 2) (r1 := 0) (r2 := 0) (r3 := 0) rfl ?_
  refine wr_pf0 (k0 := 236) (x := 0) (bl := 0) (bh := 2) (nx := 5) (r1 := 11) (r2 := 0) (r3 := 0) rfl (by decide) rfl ⟨rfl, rfl⟩ rfl rfl g rfl (by omega) (fun h13 g13 w13 u13 => ?_)
  have F14 := F0.then rfl u13
  refine wi_aload_n (i := 0) (x := 236) (nx := 6) (r1 := 0) (r2 := 0) (r3 := 0) rfl rfl ?_
  refine wi_iconst (n := 0) (nx := 7) (r1 := 0) (r2 := 0) (r3 := 0) rfl ?_
  refine wr_pf0 (k0 := 236) (x := 0) (bl := 0) (bh := 300) (nx := 10) (r1 := 11) (r2 := 47) (r3 := 0) rfl (by decide) rfl ⟨rfl, rfl⟩ rfl rfl g13 rfl (by omega) (fun h15 g15 w15 u15 => ?_)
  have F16 := F14.then rfl u15
  refine wi_aload_n (i := 0) (x := 236) (nx := 11) (r1 := 0) (r2 := 0) (r3 := 0) rfl rfl ?_
  refine wi_iconst (n := 1) (nx := 12) (r1 := 0) (r2 := 0) (r3 := 0) rfl ?_
  refine wr_pf2 (k0 := 236) (x := 1) (bl := 0) (bh := 1) (nx := 15) (r1 := 11) (r2 := 48) (r3 := 2) rfl (by decide) rfl ⟨rfl, rfl⟩ rfl (by omega) rfl g15 rfl (by omega) (fun h17 g17 w17 u17 => ?_)
  have F18 := F16.then rfl u17
  refine wi_iconst (n := 0) (nx := 16) (r1 := 0) (r2 := 0) (r3 := 0) rfl ?_
  refine wi_istore_n (i := 1) (e := 0) (lo2 := [(1, vi 0), (0, .ref 236)]) (nx := 17) (r1 := 0) (r2 := 0) (r3 := 0) rfl rfl ?_
  refine wi_iload_n (i := 1) (e := 0) (nx := 18) (r1 := 0) (r2 := 0) (r3 := 0) rfl rfl ?_
  refine wi_aload_n (i := 0) (x := 236) (nx := 19) (r1 := 0) (r2 := 0) (r3 := 0) rfl rfl ?_
  refine wr_gr (k0 := 236) (x := 238) (nx := 22) (r1 := 11) (r2 := 13) (r3 := 0) rfl rfl (by decide) rfl ⟨rfl, rfl⟩ rfl ?_
  refine wi_iconst (n := 1) (nx := 23) (r1 := 0) (r2 := 0) (r3 := 0) rfl ?_
  have b19 := gi_b (lo := 0) (hi := 4) g 238 1 rfl
  refine wr_ia (k0 := 238) (a := 1) (f := 1) (x := h 238 1) (nx := 24) (r1 := 0) (r2 := 0) (r3 := 0) rfl (by decide) rfl (by omega) (by omega) (by decide) ((u17 238 1 rfl).trans ((u15 238 1 rfl).trans (u13 238 1 rfl))) ?_
  refine wi_icmp (cd := .ge) (nx := 27) (r1 := 91) (r2 := 0) (r3 := 0) rfl (by omega) (by omega) (fun (q20 : (h 238 1) ≤ 0) => ?_) (fun (q20 : ¬ ((h 238 1) ≤ 0)) => ?_)
  ·
    refine wi_aload_n (i := 0) (x := 236) (nx := 92) (r1 := 0) (r2 := 0) (r3 := 0) rfl rfl ?_
    refine wi_ldc2_w (e := 16052) (nx := 95) (r1 := 16052) (r2 := 0) (r3 := 0) rfl (by decide) ?_
    refine wr_V (k0 := 236) (rest := []) (as := [.ref 236, vl 16052]) (nx := 98) (r1 := 347) (r2 := 1) (r3 := 11) rfl rfl rfl (of_decide_eq_true rfl) rfl rfl (by decide) rfl rfl (of_decide_eq_true rfl) (of_decide_eq_true rfl) ?_
    have e22 : h17 236 47 = 0 := ((u17 236 47 rfl).trans w15)
    refine ct_347_236 hcr  g17 16052 (by omega) (show (h17 236 47) ≤ 291 by omega) (fun h21 g21 u21 (p21_0 : (h21 236 47) ≤ (h17 236 47) + 8) => ?_)
    have F23 := F18.then (by decide +kernel) u21
    have b24 := gi_b (lo := 0) (hi := 300) g21 236 47 rfl
    refine wk_n ?_
    refine wi_iconst (n := 0) (nx := 99) (r1 := 0) (r2 := 0) (r3 := 0) rfl ?_
    refine wi_istore_n (i := 1) (e := 0) (lo2 := [(1, vi 0), (0, .ref 236)]) (nx := 100) (r1 := 0) (r2 := 0) (r3 := 0) rfl rfl ?_
    have e27 : h21 238 106 = h 238 106 := ((u21 238 106 rfl).trans ((u17 238 106 rfl).trans ((u15 238 106 rfl).trans (u13 238 106 rfl))))
    refine wp.lo (lo := [(0, .ref 236), (1, vi 0)]) ⟨rfl, rfl, trivial⟩ rfl ?_
    refine wl_1 (fun x25 h26 => GI h26 ∧ FR [(258, 258, none), (236, 236, some (0, 0)), (236, 236, some (47, 47)), (236, 236, some (48, 48))] h h26 ∧ FR [(258, 258, none), (236, 236, some (47, 47))] h21 h26 ∧ ((0 ≤ x25 ∧ x25 ≤ 12) ∧ ((h26 236 47) ≤ (h21 236 47) + 10 * x25) ∧ (x25 ≤ (h21 238 106)))) (fun x25 h26 => ((12 : Int) + 1 - x25).toNat) (fun x25 h26 => (100, [(0, .ref 236), (1, vi x25)], [], hp_w h26 cr, b, c)) ?_ 0 h21 ⟨g21, F23, FR.refl, (show (0 ≤ 0 ∧ 0 ≤ 12) ∧ ((h21 236 47) ≤ (h21 236 47) + 10 * 0) ∧ (0 ≤ (h21 238 106)) by omega)⟩
    intro x25 h26 ⟨g26, F28, u26, f26⟩ I26
    have b29 := gi_b (lo := 0) (hi := 300) g26 236 47 rfl
    refine wi_iload_n (i := 1) (e := x25) (nx := 101) (r1 := 0) (r2 := 0) (r3 := 0) rfl rfl ?_
    refine wi_aload_n (i := 0) (x := 236) (nx := 102) (r1 := 0) (r2 := 0) (r3 := 0) rfl rfl ?_
    refine wr_gr (k0 := 236) (x := 238) (nx := 105) (r1 := 11) (r2 := 13) (r3 := 0) rfl rfl (by decide) rfl ⟨rfl, rfl⟩ rfl ?_
    refine wi_bipush (n := 106) (nx := 107) (r1 := 0) (r2 := 0) (r3 := 0) rfl (by decide) ?_
    refine wr_ia (k0 := 238) (a := 106) (f := 106) (x := h 238 106) (nx := 108) (r1 := 0) (r2 := 0) (r3 := 0) rfl (by decide) rfl (by omega) (by omega) (by decide) ((u26 238 106 rfl).trans ((u21 238 106 rfl).trans ((u17 238 106 rfl).trans ((u15 238 106 rfl).trans (u13 238 106 rfl))))) ?_
    refine wi_icmp (cd := .ge) (nx := 111) (r1 := 130) (r2 := 0) (r3 := 0) rfl (by omega) (by omega) (fun (q30 : (h 238 106) ≤ x25) => ?_) (fun (q30 : ¬ ((h 238 106) ≤ x25)) => ?_)
    ·
      refine wi_aload_n (i := 0) (x := 236) (nx := 131) (r1 := 0) (r2 := 0) (r3 := 0) rfl rfl ?_
      refine wi_bipush (n := 10) (nx := 133) (r1 := 0) (r2 := 0) (r3 := 0) rfl (by decide) ?_
      refine wr_V (k0 := 236) (rest := []) (as := [.ref 236, vi 10]) (nx := 136) (r1 := 348) (r2 := 1) (r3 := 11) rfl rfl rfl (of_decide_eq_true rfl) rfl rfl (by decide) rfl rfl (of_decide_eq_true rfl) (of_decide_eq_true rfl) ?_
      refine wi_aload_n (i := 0) (x := 236) (nx := 1) (r1 := 0) (r2 := 0) (r3 := 0) rfl rfl ?_
      refine wr_gr (k0 := 236) (x := 258) (nx := 4) (r1 := 11) (r2 := 46) (r3 := 0) rfl rfl (by decide) rfl ⟨rfl, rfl⟩ rfl ?_
      refine wi_aload_n (i := 0) (x := 236) (nx := 5) (r1 := 0) (r2 := 0) (r3 := 0) rfl rfl ?_
      refine wr_gi0 (k0 := 236) (x := h26 236 47) (nx := 8) (r1 := 11) (r2 := 47) (r3 := 0) rfl rfl (by decide) rfl ⟨rfl, rfl⟩ rfl rfl ?_
      refine wi_iload_n (i := 1) (e := 10) (nx := 9) (r1 := 0) (r2 := 0) (r3 := 0) rfl rfl ?_
      obtain ⟨i31, ei31⟩ : ∃ q : Nat, (h26 236 47) = (q : Int) := ⟨(h26 236 47).toNat, by omega⟩
      refine wr_is (k0 := 258) (a := h26 236 47) (f := i31) (x := 10) (bl := -2147483648) (bh := 2147483647) (nx := 10) (r1 := 0) (r2 := 0) (r3 := 0) rfl (by decide) rfl (by omega) (by omega) (by decide) g26 rfl (by omega) (fun h32 g32 w32 u32 => ?_)
      have F33 := F28.then rfl (FR.rngp (lo := 258) (hi := 258) u32 (by decide))
      refine wi_aload_n (i := 0) (x := 236) (nx := 11) (r1 := 0) (r2 := 0) (r3 := 0) rfl rfl ?_
      refine wi_dup (nx := 12) (r1 := 0) (r2 := 0) (r3 := 0) rfl rfl ?_
      refine wr_gi0 (k0 := 236) (x := h26 236 47) (nx := 15) (r1 := 11) (r2 := 47) (r3 := 0) rfl rfl (by decide) rfl ⟨rfl, rfl⟩ rfl (u32 236 47 (fn_a (by omega) fn_0)) ?_
      refine wi_iconst (n := 1) (nx := 16) (r1 := 0) (r2 := 0) (r3 := 0) rfl ?_
      refine wr_add (nx := 17) (r1 := 0) (r2 := 0) (r3 := 0) rfl (fun e34 (fe34 : e34 = (h26 236 47) + 1) => ?_)
      refine wr_pf0 (k0 := 236) (x := e34) (bl := 0) (bh := 300) (nx := 20) (r1 := 11) (r2 := 47) (r3 := 0) rfl (by decide) rfl ⟨rfl, rfl⟩ rfl rfl g32 rfl (by omega) (fun h35 g35 w35 u35 => ?_)
      have F36 := F33.then rfl u35
      refine wi_return (nx := 21) (r1 := 0) (r2 := 0) (r3 := 0) rfl rfl ?_
      refine wk_n ?_
      refine wi_aload_n (i := 0) (x := 236) (nx := 137) (r1 := 0) (r2 := 0) (r3 := 0) rfl rfl ?_
      refine wr_gi0 (k0 := 236) (x := e34) (nx := 140) (r1 := 11) (r2 := 47) (r3 := 0) rfl rfl (by decide) rfl ⟨rfl, rfl⟩ rfl w35 ?_
      refine wi_ireturn (nx := 141) (r1 := 0) (r2 := 0) (r3 := 0) rfl rfl ?_
      exact k h35 e34 g35 F36 (by omega)
    ·
      refine wi_aload_n (i := 0) (x := 236) (nx := 112) (r1 := 0) (r2 := 0) (r3 := 0) rfl rfl ?_
      refine wi_aload_n (i := 0) (x := 236) (nx := 113) (r1 := 0) (r2 := 0) (r3 := 0) rfl rfl ?_
      refine wr_gr (k0 := 236) (x := 238) (nx := 116) (r1 := 11) (r2 := 13) (r3 := 0) rfl rfl (by decide) rfl ⟨rfl, rfl⟩ rfl ?_
      refine wi_bipush (n := 107) (nx := 118) (r1 := 0) (r2 := 0) (r3 := 0) rfl (by decide) ?_
      refine wi_iload_n (i := 1) (e := x25) (nx := 119) (r1 := 0) (r2 := 0) (r3 := 0) rfl rfl ?_
      refine wr_add (nx := 120) (r1 := 0) (r2 := 0) (r3 := 0) rfl (fun e31 (fe31 : e31 = 107 + x25) => ?_)
      obtain ⟨i32, ei32⟩ : ∃ q : Nat, e31 = (q : Int) := ⟨(e31).toNat, by omega⟩
      have b33 := gi_b (lo := 0) (hi := 11) g 238 i32 (gi_rg 107 12 (fun _ => rfl) (by decide +kernel) (by omega))
      refine wr_ia (k0 := 238) (a := e31) (f := i32) (x := h 238 i32) (nx := 121) (r1 := 0) (r2 := 0) (r3 := 0) rfl (by decide) rfl (by omega) (by omega) (by decide) ((u26 238 i32 (fn_a (by decide) (fn_a (by decide) fn_0))).trans ((u21 238 i32 (fn_a (by decide) (fn_a (by decide) fn_0))).trans ((u17 238 i32 (fn_a (by omega) fn_0)).trans ((u15 238 i32 (fn_a (by omega) fn_0)).trans (u13 238 i32 (fn_a (by omega) fn_0)))))) ?_
      refine wr_V (k0 := 236) (rest := []) (as := [.ref 236, vi (h 238 i32)]) (nx := 124) (r1 := 349) (r2 := 1) (r3 := 11) rfl rfl rfl (of_decide_eq_true rfl) rfl rfl (by decide) rfl rfl (of_decide_eq_true rfl) (of_decide_eq_true rfl) ?_
      refine ct_349_236 hcr  g26 (h 238 i32) (by omega) (show (h26 236 47) ≤ 289 by omega) (fun h34 g34 u34 (p34_0 : (h34 236 47) ≤ (h26 236 47) + 10) => ?_)
      have F35 := F28.then (by decide +kernel) u34
      have F36 := u26.then (by decide +kernel) u34
      have b37 := gi_b (lo := 0) (hi := 300) g34 236 47 rfl
      refine wk_n ?_
      refine wr_iinc (i := 1) (n := 1) (v := x25) (fun e38 => [(1, vi e38), (0, .ref 236)]) (nx := 127) (r1 := 0) (r2 := 0) (r3 := 0) rfl rfl (fun _ => rfl) (fun e38 (fe38 : e38 = x25 + 1) => ?_)
      refine wi_goto (nx := 130) (r1 := 100) (r2 := 0) (r3 := 0) rfl ?_
      refine wp.lo (lo := [(0, .ref 236), (1, vi e38)]) ⟨rfl, rfl, trivial⟩ rfl ?_
      exact I26 e38 h34 ⟨g34, F35, F36, (show (0 ≤ e38 ∧ e38 ≤ 12) ∧ ((h34 236 47) ≤ (h21 236 47) + 10 * e38) ∧ (e38 ≤ (h21 238 106)) by omega)⟩ (show ((12 : Int) + 1 - e38).toNat < ((12 : Int) + 1 - x25).toNat by omega)
  ·
    refine wi_aload_n (i := 0) (x := 236) (nx := 28) (r1 := 0) (r2 := 0) (r3 := 0) rfl rfl ?_
    refine wi_ldc2_w (e := 394693) (nx := 31) (r1 := 394693) (r2 := 0) (r3 := 0) rfl (by decide) ?_
    refine wr_V (k0 := 236) (rest := []) (as := [.ref 236, vl 394693]) (nx := 34) (r1 := 347) (r2 := 1) (r3 := 11) rfl rfl rfl (of_decide_eq_true rfl) rfl rfl (by decide) rfl rfl (of_decide_eq_true rfl) (of_decide_eq_true rfl) ?_
    have e22 : h17 236 47 = 0 := ((u17 236 47 rfl).trans w15)
    refine ct_347_236 hcr  g17 394693 (by omega) (show (h17 236 47) ≤ 291 by omega) (fun h21 g21 u21 (p21_0 : (h21 236 47) ≤ (h17 236 47) + 8) => ?_)
    have F23 := F18.then (by decide +kernel) u21
    have b24 := gi_b (lo := 0) (hi := 300) g21 236 47 rfl
    refine wk_n ?_
    refine wi_aload_n (i := 0) (x := 236) (nx := 35) (r1 := 0) (r2 := 0) (r3 := 0) rfl rfl ?_
    refine wi_bipush (n := 32) (nx := 37) (r1 := 0) (r2 := 0) (r3 := 0) rfl (by decide) ?_
    refine wr_V (k0 := 236) (rest := []) (as := [.ref 236, vi 32]) (nx := 40) (r1 := 348) (r2 := 1) (r3 := 11) rfl rfl rfl (of_decide_eq_true rfl) rfl rfl (by decide) rfl rfl (of_decide_eq_true rfl) (of_decide_eq_true rfl) ?_
    refine wi_aload_n (i := 0) (x := 236) (nx := 1) (r1 := 0) (r2 := 0) (r3 := 0) rfl rfl ?_
    refine wr_gr (k0 := 236) (x := 258) (nx := 4) (r1 := 11) (r2 := 46) (r3 := 0) rfl rfl (by decide) rfl ⟨rfl, rfl⟩ rfl ?_
    refine wi_aload_n (i := 0) (x := 236) (nx := 5) (r1 := 0) (r2 := 0) (r3 := 0) rfl rfl ?_
    refine wr_gi0 (k0 := 236) (x := h21 236 47) (nx := 8) (r1 := 11) (r2 := 47) (r3 := 0) rfl rfl (by decide) rfl ⟨rfl, rfl⟩ rfl rfl ?_
    refine wi_iload_n (i := 1) (e := 32) (nx := 9) (r1 := 0) (r2 := 0) (r3 := 0) rfl rfl ?_
    obtain ⟨i25, ei25⟩ : ∃ q : Nat, (h21 236 47) = (q : Int) := ⟨(h21 236 47).toNat, by omega⟩
    refine wr_is (k0 := 258) (a := h21 236 47) (f := i25) (x := 32) (bl := -2147483648) (bh := 2147483647) (nx := 10) (r1 := 0) (r2 := 0) (r3 := 0) rfl (by decide) rfl (by omega) (by omega) (by decide) g21 rfl (by omega) (fun h26 g26 w26 u26 => ?_)
    have F27 := F23.then rfl (FR.rngp (lo := 258) (hi := 258) u26 (by decide))
    refine wi_aload_n (i := 0) (x := 236) (nx := 11) (r1 := 0) (r2 := 0) (r3 := 0) rfl rfl ?_
    refine wi_dup (nx := 12) (r1 := 0) (r2 := 0) (r3 := 0) rfl rfl ?_
    refine wr_gi0 (k0 := 236) (x := h21 236 47) (nx := 15) (r1 := 11) (r2 := 47) (r3 := 0) rfl rfl (by decide) rfl ⟨rfl, rfl⟩ rfl (u26 236 47 (fn_a (by omega) fn_0)) ?_
    refine wi_iconst (n := 1) (nx := 16) (r1 := 0) (r2 := 0) (r3 := 0) rfl ?_
    refine wr_add (nx := 17) (r1 := 0) (r2 := 0) (r3 := 0) rfl (fun e28 (fe28 : e28 = (h21 236 47) + 1) => ?_)
    refine wr_pf0 (k0 := 236) (x := e28) (bl := 0) (bh := 300) (nx := 20) (r1 := 11) (r2 := 47) (r3 := 0) rfl (by decide) rfl ⟨rfl, rfl⟩ rfl rfl g26 rfl (by omega) (fun h29 g29 w29 u29 => ?_)
    have F30 := F27.then rfl u29
    refine wi_return (nx := 21) (r1 := 0) (r2 := 0) (r3 := 0) rfl rfl ?_
    refine wk_n ?_
    refine wi_aload_n (i := 0) (x := 236) (nx := 41) (r1 := 0) (r2 := 0) (r3 := 0) rfl rfl ?_
    refine wi_bipush (n := 48) (nx := 43) (r1 := 0) (r2 := 0) (r3 := 0) rfl (by decide) ?_
    refine wi_iload_n (i := 1) (e := 0) (nx := 44) (r1 := 0) (r2 := 0) (r3 := 0) rfl rfl ?_
    refine wr_addL (48) (nx := 45) (r1 := 0) (r2 := 0) (r3 := 0) rfl (by decide) ?_
    refine wr_V (k0 := 236) (rest := []) (as := [.ref 236, vi 48]) (nx := 48) (r1 := 348) (r2 := 1) (r3 := 11) rfl rfl rfl (of_decide_eq_true rfl) rfl rfl (by decide) rfl rfl (of_decide_eq_true rfl) (of_decide_eq_true rfl) ?_
    refine wi_aload_n (i := 0) (x := 236) (nx := 1) (r1 := 0) (r2 := 0) (r3 := 0) rfl rfl ?_
    refine wr_gr (k0 := 236) (x := 258) (nx := 4) (r1 := 11) (r2 := 46) (r3 := 0) rfl rfl (by decide) rfl ⟨rfl, rfl⟩ rfl ?_
    refine wi_aload_n (i := 0) (x := 236) (nx := 5) (r1 := 0) (r2 := 0) (r3 := 0) rfl rfl ?_
    refine wr_gi0 (k0 := 236) (x := e28) (nx := 8) (r1 := 11) (r2 := 47) (r3 := 0) rfl rfl (by decide) rfl ⟨rfl, rfl⟩ rfl w29 ?_
    refine wi_iload_n (i := 1) (e := 48) (nx := 9) (r1 := 0) (r2 := 0) (r3 := 0) rfl rfl ?_
    obtain ⟨i31, ei31⟩ : ∃ q : Nat, e28 = (q : Int) := ⟨(e28).toNat, by omega⟩
    refine wr_is (k0 := 258) (a := e28) (f := i31) (x := 48) (bl := -2147483648) (bh := 2147483647) (nx := 10) (r1 := 0) (r2 := 0) (r3 := 0) rfl (by decide) rfl (by omega) (by omega) (by decide) g29 rfl (by omega) (fun h32 g32 w32 u32 => ?_)
    have F33 := F30.then rfl (FR.rngp (lo := 258) (hi := 258) u32 (by decide))
    refine wi_aload_n (i := 0) (x := 236) (nx := 11) (r1 := 0) (r2 := 0) (r3 := 0) rfl rfl ?_
    refine wi_dup (nx := 12) (r1 := 0) (r2 := 0) (r3 := 0) rfl rfl ?_
    refine wr_gi0 (k0 := 236) (x := e28) (nx := 15) (r1 := 11) (r2 := 47) (r3 := 0) rfl rfl (by decide) rfl ⟨rfl, rfl⟩ rfl ((u32 236 47 (fn_a (by omega) fn_0)).trans w29) ?_
    refine wi_iconst (n := 1) (nx := 16) (r1 := 0) (r2 := 0) (r3 := 0) rfl ?_
    refine wr_add (nx := 17) (r1 := 0) (r2 := 0) (r3 := 0) rfl (fun e34 (fe34 : e34 = e28 + 1) => ?_)
    refine wr_pf0 (k0 := 236) (x := e34) (bl := 0) (bh := 300) (nx := 20) (r1 := 11) (r2 := 47) (r3 := 0) rfl (by decide) rfl ⟨rfl, rfl⟩ rfl rfl g32 rfl (by omega) (fun h35 g35 w35 u35 => ?_)
    have F36 := F33.then rfl u35
    refine wi_return (nx := 21) (r1 := 0) (r2 := 0) (r3 := 0) rfl rfl ?_
    refine wk_n ?_
    refine wi_iconst (n := 0) (nx := 49) (r1 := 0) (r2 := 0) (r3 := 0) rfl ?_
    refine wi_istore_n (i := 2) (e := 0) (lo2 := [(2, vi 0), (1, vi 0), (0, .ref 236)]) (nx := 50) (r1 := 0) (r2 := 0) (r3 := 0) rfl rfl ?_
    have e39 : h35 236 47 = e34 := w35
    have e40 : h35 238 98 = h 238 98 := ((u35 238 98 rfl).trans ((u32 238 98 (fn_a (by omega) fn_0)).trans ((u29 238 98 rfl).trans ((u26 238 98 (fn_a (by omega) fn_0)).trans ((u21 238 98 rfl).trans ((u17 238 98 rfl).trans ((u15 238 98 rfl).trans (u13 238 98 rfl))))))))
    refine wp.lo (lo := [(0, .ref 236), (1, vi 0), (2, vi 0)]) ⟨rfl, rfl, rfl, trivial⟩ rfl ?_
    refine wl_1 (fun x37 h38 => GI h38 ∧ FR [(258, 258, none), (236, 236, some (0, 0)), (236, 236, some (47, 47)), (236, 236, some (48, 48))] h h38 ∧ FR [(258, 258, none), (236, 236, some (47, 47))] h35 h38 ∧ ((0 ≤ x37 ∧ x37 ≤ 6) ∧ ((h38 236 47) ≤ (h35 236 47) + 10 * x37) ∧ (x37 ≤ (h35 238 98)))) (fun x37 h38 => ((6 : Int) + 1 - x37).toNat) (fun x37 h38 => (50, [(0, .ref 236), (1, vi 0), (2, vi x37)], [], hp_w h38 cr, b, c)) ?_ 0 h35 ⟨g35, F36, FR.refl, (show (0 ≤ 0 ∧ 0 ≤ 6) ∧ ((h35 236 47) ≤ (h35 236 47) + 10 * 0) ∧ (0 ≤ (h35 238 98)) by omega)⟩
    intro x37 h38 ⟨g38, F41, u38, f38⟩ I38
    have b42 := gi_b (lo := 0) (hi := 300) g38 236 47 rfl
    refine wi_iload_n (i := 2) (e := x37) (nx := 51) (r1 := 0) (r2 := 0) (r3 := 0) rfl rfl ?_
    refine wi_aload_n (i := 0) (x := 236) (nx := 52) (r1 := 0) (r2 := 0) (r3 := 0) rfl rfl ?_
    refine wr_gr (k0 := 236) (x := 238) (nx := 55) (r1 := 11) (r2 := 13) (r3 := 0) rfl rfl (by decide) rfl ⟨rfl, rfl⟩ rfl ?_
    refine wi_bipush (n := 98) (nx := 57) (r1 := 0) (r2 := 0) (r3 := 0) rfl (by decide) ?_
    refine wi_iload_n (i := 1) (e := 0) (nx := 58) (r1 := 0) (r2 := 0) (r3 := 0) rfl rfl ?_
    refine wr_addL (98) (nx := 59) (r1 := 0) (r2 := 0) (r3 := 0) rfl (by decide) ?_
    refine wr_ia (k0 := 238) (a := 98) (f := 98) (x := h 238 98) (nx := 60) (r1 := 0) (r2 := 0) (r3 := 0) rfl (by decide) rfl (by omega) (by omega) (by decide) ((u38 238 98 rfl).trans ((u35 238 98 rfl).trans ((u32 238 98 (fn_a (by omega) fn_0)).trans ((u29 238 98 rfl).trans ((u26 238 98 (fn_a (by omega) fn_0)).trans ((u21 238 98 rfl).trans ((u17 238 98 rfl).trans ((u15 238 98 rfl).trans (u13 238 98 rfl))))))))) ?_
    refine wi_icmp (cd := .ge) (nx := 63) (r1 := 79) (r2 := 0) (r3 := 0) rfl (by omega) (by omega) (fun (q43 : (h 238 98) ≤ x37) => ?_) (fun (q43 : ¬ ((h 238 98) ≤ x37)) => ?_)
    ·
      refine wi_aload_n (i := 0) (x := 236) (nx := 80) (r1 := 0) (r2 := 0) (r3 := 0) rfl rfl ?_
      refine wi_bipush (n := 10) (nx := 82) (r1 := 0) (r2 := 0) (r3 := 0) rfl (by decide) ?_
      refine wr_V (k0 := 236) (rest := []) (as := [.ref 236, vi 10]) (nx := 85) (r1 := 348) (r2 := 1) (r3 := 11) rfl rfl rfl (of_decide_eq_true rfl) rfl rfl (by decide) rfl rfl (of_decide_eq_true rfl) (of_decide_eq_true rfl) ?_
      refine wi_aload_n (i := 0) (x := 236) (nx := 1) (r1 := 0) (r2 := 0) (r3 := 0) rfl rfl ?_
      refine wr_gr (k0 := 236) (x := 258) (nx := 4) (r1 := 11) (r2 := 46) (r3 := 0) rfl rfl (by decide) rfl ⟨rfl, rfl⟩ rfl ?_
      refine wi_aload_n (i := 0) (x := 236) (nx := 5) (r1 := 0) (r2 := 0) (r3 := 0) rfl rfl ?_
      refine wr_gi0 (k0 := 236) (x := h38 236 47) (nx := 8) (r1 := 11) (r2 := 47) (r3 := 0) rfl rfl (by decide) rfl ⟨rfl, rfl⟩ rfl rfl ?_
      refine wi_iload_n (i := 1) (e := 10) (nx := 9) (r1 := 0) (r2 := 0) (r3 := 0) rfl rfl ?_
      obtain ⟨i44, ei44⟩ : ∃ q : Nat, (h38 236 47) = (q : Int) := ⟨(h38 236 47).toNat, by omega⟩
      refine wr_is (k0 := 258) (a := h38 236 47) (f := i44) (x := 10) (bl := -2147483648) (bh := 2147483647) (nx := 10) (r1 := 0) (r2 := 0) (r3 := 0) rfl (by decide) rfl (by omega) (by omega) (by decide) g38 rfl (by omega) (fun h45 g45 w45 u45 => ?_)
      have F46 := F41.then rfl (FR.rngp (lo := 258) (hi := 258) u45 (by decide))
      refine wi_aload_n (i := 0) (x := 236) (nx := 11) (r1 := 0) (r2 := 0) (r3 := 0) rfl rfl ?_
      refine wi_dup (nx := 12) (r1 := 0) (r2 := 0) (r3 := 0) rfl rfl ?_
      refine wr_gi0 (k0 := 236) (x := h38 236 47) (nx := 15) (r1 := 11) (r2 := 47) (r3 := 0) rfl rfl (by decide) rfl ⟨rfl, rfl⟩ rfl (u45 236 47 (fn_a (by omega) fn_0)) ?_
      refine wi_iconst (n := 1) (nx := 16) (r1 := 0) (r2 := 0) (r3 := 0) rfl ?_
      refine wr_add (nx := 17) (r1 := 0) (r2 := 0) (r3 := 0) rfl (fun e47 (fe47 : e47 = (h38 236 47) + 1) => ?_)
      refine wr_pf0 (k0 := 236) (x := e47) (bl := 0) (bh := 300) (nx := 20) (r1 := 11) (r2 := 47) (r3 := 0) rfl (by decide) rfl ⟨rfl, rfl⟩ rfl rfl g45 rfl (by omega) (fun h48 g48 w48 u48 => ?_)
      have F49 := F46.then rfl u48
      refine wi_return (nx := 21) (r1 := 0) (r2 := 0) (r3 := 0) rfl rfl ?_
      refine wk_n ?_
      refine wr_iincL (i := 1) (n := 1) (v := 0) (1) ([(1, vi 1), (0, .ref 236), (2, vi x37)]) (nx := 88) (r1 := 0) (r2 := 0) (r3 := 0) rfl rfl (by decide) rfl ?_
      refine wi_goto (nx := 91) (r1 := 17) (r2 := 0) (r3 := 0) rfl ?_
      refine wi_iload_n (i := 1) (e := 1) (nx := 18) (r1 := 0) (r2 := 0) (r3 := 0) rfl rfl ?_
      refine wi_aload_n (i := 0) (x := 236) (nx := 19) (r1 := 0) (r2 := 0) (r3 := 0) rfl rfl ?_
      refine wr_gr (k0 := 236) (x := 238) (nx := 22) (r1 := 11) (r2 := 13) (r3 := 0) rfl rfl (by decide) rfl ⟨rfl, rfl⟩ rfl ?_
      refine wi_iconst (n := 1) (nx := 23) (r1 := 0) (r2 := 0) (r3 := 0) rfl ?_
      refine wr_ia (k0 := 238) (a := 1) (f := 1) (x := h 238 1) (nx := 24) (r1 := 0) (r2 := 0) (r3 := 0) rfl (by decide) rfl (by omega) (by omega) (by decide) ((u48 238 1 rfl).trans ((u45 238 1 (fn_a (by omega) fn_0)).trans ((u38 238 1 rfl).trans ((u35 238 1 rfl).trans ((u32 238 1 (fn_a (by omega) fn_0)).trans ((u29 238 1 rfl).trans ((u26 238 1 (fn_a (by omega) fn_0)).trans ((u21 238 1 rfl).trans ((u17 238 1 rfl).trans ((u15 238 1 rfl).trans (u13 238 1 rfl))))))))))) ?_
      refine wi_icmp (cd := .ge) (nx := 27) (r1 := 91) (r2 := 0) (r3 := 0) rfl (by omega) (by omega) (fun (q50 : (h 238 1) ≤ 1) => ?_) (fun (q50 : ¬ ((h 238 1) ≤ 1)) => ?_)
      ·
        refine wi_aload_n (i := 0) (x := 236) (nx := 92) (r1 := 0) (r2 := 0) (r3 := 0) rfl rfl ?_
        refine wi_ldc2_w (e := 16052) (nx := 95) (r1 := 16052) (r2 := 0) (r3 := 0) rfl (by decide) ?_
        refine wr_V (k0 := 236) (rest := []) (as := [.ref 236, vl 16052]) (nx := 98) (r1 := 347) (r2 := 1) (r3 := 11) rfl rfl rfl (of_decide_eq_true rfl) rfl rfl (by decide) rfl rfl (of_decide_eq_true rfl) (of_decide_eq_true rfl) ?_
        have e52 : h48 236 47 = e47 := w48
        refine ct_347_236 hcr  g48 16052 (by omega) (show (h48 236 47) ≤ 291 by omega) (fun h51 g51 u51 (p51_0 : (h51 236 47) ≤ (h48 236 47) + 8) => ?_)
        have F53 := F49.then (by decide +kernel) u51
        have b54 := gi_b (lo := 0) (hi := 300) g51 236 47 rfl
        refine wk_n ?_
        refine wi_iconst (n := 0) (nx := 99) (r1 := 0) (r2 := 0) (r3 := 0) rfl ?_
        refine wi_istore_n (i := 1) (e := 0) (lo2 := [(1, vi 0), (0, .ref 236), (2, vi x37)]) (nx := 100) (r1 := 0) (r2 := 0) (r3 := 0) rfl rfl ?_
        have e57 : h51 238 106 = h 238 106 := ((u51 238 106 rfl).trans ((u48 238 106 rfl).trans ((u45 238 106 (fn_a (by omega) fn_0)).trans ((u38 238 106 rfl).trans ((u35 238 106 rfl).trans ((u32 238 106 (fn_a (by omega) fn_0)).trans ((u29 238 106 rfl).trans ((u26 238 106 (fn_a (by omega) fn_0)).trans ((u21 238 106 rfl).trans ((u17 238 106 rfl).trans ((u15 238 106 rfl).trans (u13 238 106 rfl))))))))))))
        refine wp.lo (lo := [(0, .ref 236), (1, vi 0)]) ⟨rfl, rfl, trivial⟩ rfl ?_
        refine wl_1 (fun x55 h56 => GI h56 ∧ FR [(258, 258, none), (236, 236, some (0, 0)), (236, 236, some (47, 47)), (236, 236, some (48, 48))] h h56 ∧ FR [(258, 258, none), (236, 236, some (47, 47))] h51 h56 ∧ ((0 ≤ x55 ∧ x55 ≤ 12) ∧ ((h56 236 47) ≤ (h51 236 47) + 10 * x55) ∧ (x55 ≤ (h51 238 106)))) (fun x55 h56 => ((12 : Int) + 1 - x55).toNat) (fun x55 h56 => (100, [(0, .ref 236), (1, vi x55)], [], hp_w h56 cr, b, c)) ?_ 0 h51 ⟨g51, F53, FR.refl, (show (0 ≤ 0 ∧ 0 ≤ 12) ∧ ((h51 236 47) ≤ (h51 236 47) + 10 * 0) ∧ (0 ≤ (h51 238 106)) by omega)⟩
        intro x55 h56 ⟨g56, F58, u56, f56⟩ I56
        have b59 := gi_b (lo := 0) (hi := 300) g56 236 47 rfl
        refine wi_iload_n (i := 1) (e := x55) (nx := 101) (r1 := 0) (r2 := 0) (r3 := 0) rfl rfl ?_
        refine wi_aload_n (i := 0) (x := 236) (nx := 102) (r1 := 0) (r2 := 0) (r3 := 0) rfl rfl ?_
        refine wr_gr (k0 := 236) (x := 238) (nx := 105) (r1 := 11) (r2 := 13) (r3 := 0) rfl rfl (by decide) rfl ⟨rfl, rfl⟩ rfl ?_
        refine wi_bipush (n := 106) (nx := 107) (r1 := 0) (r2 := 0) (r3 := 0) rfl (by decide) ?_
        refine wr_ia (k0 := 238) (a := 106) (f := 106) (x := h 238 106) (nx := 108) (r1 := 0) (r2 := 0) (r3 := 0) rfl (by decide) rfl (by omega) (by omega) (by decide) ((u56 238 106 rfl).trans ((u51 238 106 rfl).trans ((u48 238 106 rfl).trans ((u45 238 106 (fn_a (by omega) fn_0)).trans ((u38 238 106 rfl).trans ((u35 238 106 rfl).trans ((u32 238 106 (fn_a (by omega) fn_0)).trans ((u29 238 106 rfl).trans ((u26 238 106 (fn_a (by omega) fn_0)).trans ((u21 238 106 rfl).trans ((u17 238 106 rfl).trans ((u15 238 106 rfl).trans (u13 238 106 rfl))))))))))))) ?_
        refine wi_icmp (cd := .ge) (nx := 111) (r1 := 130) (r2 := 0) (r3 := 0) rfl (by omega) (by omega) (fun (q60 : (h 238 106) ≤ x55) => ?_) (fun (q60 : ¬ ((h 238 106) ≤ x55)) => ?_)
        ·
          refine wi_aload_n (i := 0) (x := 236) (nx := 131) (r1 := 0) (r2 := 0) (r3 := 0) rfl rfl ?_
          refine wi_bipush (n := 10) (nx := 133) (r1 := 0) (r2 := 0) (r3 := 0) rfl (by decide) ?_
          refine wr_V (k0 := 236) (rest := []) (as := [.ref 236, vi 10]) (nx := 136) (r1 := 348) (r2 := 1) (r3 := 11) rfl rfl rfl (of_decide_eq_true rfl) rfl rfl (by decide) rfl rfl (of_decide_eq_true rfl) (of_decide_eq_true rfl) ?_
          refine wi_aload_n (i := 0) (x := 236) (nx := 1) (r1 := 0) (r2 := 0) (r3 := 0) rfl rfl ?_
          refine wr_gr (k0 := 236) (x := 258) (nx := 4) (r1 := 11) (r2 := 46) (r3 := 0) rfl rfl (by decide) rfl ⟨rfl, rfl⟩ rfl ?_
          refine wi_aload_n (i := 0) (x := 236) (nx := 5) (r1 := 0) (r2 := 0) (r3 := 0) rfl rfl ?_
          refine wr_gi0 (k0 := 236) (x := h56 236 47) (nx := 8) (r1 := 11) (r2 := 47) (r3 := 0) rfl rfl (by decide) rfl ⟨rfl, rfl⟩ rfl rfl ?_
          refine wi_iload_n (i := 1) (e := 10) (nx := 9) (r1 := 0) (r2 := 0) (r3 := 0) rfl rfl ?_
          obtain ⟨i61, ei61⟩ : ∃ q : Nat, (h56 236 47) = (q : Int) := ⟨(h56 236 47).toNat, by omega⟩
          refine wr_is (k0 := 258) (a := h56 236 47) (f := i61) (x := 10) (bl := -2147483648) (bh := 2147483647) (nx := 10) (r1 := 0) (r2 := 0) (r3 := 0) rfl (by decide) rfl (by omega) (by omega) (by decide) g56 rfl (by omega) (fun h62 g62 w62 u62 => ?_)
          have F63 := F58.then rfl (FR.rngp (lo := 258) (hi := 258) u62 (by decide))
          refine wi_aload_n (i := 0) (x := 236) (nx := 11) (r1 := 0) (r2 := 0) (r3 := 0) rfl rfl ?_
          refine wi_dup (nx := 12) (r1 := 0) (r2 := 0) (r3 := 0) rfl rfl ?_
          refine wr_gi0 (k0 := 236) (x := h56 236 47) (nx := 15) (r1 := 11) (r2 := 47) (r3 := 0) rfl rfl (by decide) rfl ⟨rfl, rfl⟩ rfl (u62 236 47 (fn_a (by omega) fn_0)) ?_
          refine wi_iconst (n := 1) (nx := 16) (r1 := 0) (r2 := 0) (r3 := 0) rfl ?_
          refine wr_add (nx := 17) (r1 := 0) (r2 := 0) (r3 := 0) rfl (fun e64 (fe64 : e64 = (h56 236 47) + 1) => ?_)
          refine wr_pf0 (k0 := 236) (x := e64) (bl := 0) (bh := 300) (nx := 20) (r1 := 11) (r2 := 47) (r3 := 0) rfl (by decide) rfl ⟨rfl, rfl⟩ rfl rfl g62 rfl (by omega) (fun h65 g65 w65 u65 => ?_)
          have F66 := F63.then rfl u65
          refine wi_return (nx := 21) (r1 := 0) (r2 := 0) (r3 := 0) rfl rfl ?_
          refine wk_n ?_
          refine wi_aload_n (i := 0) (x := 236) (nx := 137) (r1 := 0) (r2 := 0) (r3 := 0) rfl rfl ?_
          refine wr_gi0 (k0 := 236) (x := e64) (nx := 140) (r1 := 11) (r2 := 47) (r3 := 0) rfl rfl (by decide) rfl ⟨rfl, rfl⟩ rfl w65 ?_
          refine wi_ireturn (nx := 141) (r1 := 0) (r2 := 0) (r3 := 0) rfl rfl ?_
          exact k h65 e64 g65 F66 (by omega)
        ·
          refine wi_aload_n (i := 0) (x := 236) (nx := 112) (r1 := 0) (r2 := 0) (r3 := 0) rfl rfl ?_
          refine wi_aload_n (i := 0) (x := 236) (nx := 113) (r1 := 0) (r2 := 0) (r3 := 0) rfl rfl ?_
          refine wr_gr (k0 := 236) (x := 238) (nx := 116) (r1 := 11) (r2 := 13) (r3 := 0) rfl rfl (by decide) rfl ⟨rfl, rfl⟩ rfl ?_
          refine wi_bipush (n := 107) (nx := 118) (r1 := 0) (r2 := 0) (r3 := 0) rfl (by decide) ?_
          refine wi_iload_n (i := 1) (e := x55) (nx := 119) (r1 := 0) (r2 := 0) (r3 := 0) rfl rfl ?_
          refine wr_add (nx := 120) (r1 := 0) (r2 := 0) (r3 := 0) rfl (fun e61 (fe61 : e61 = 107 + x55) => ?_)
          obtain ⟨i62, ei62⟩ : ∃ q : Nat, e61 = (q : Int) := ⟨(e61).toNat, by omega⟩
          have b63 := gi_b (lo := 0) (hi := 11) g 238 i62 (gi_rg 107 12 (fun _ => rfl) (by decide +kernel) (by omega))
          refine wr_ia (k0 := 238) (a := e61) (f := i62) (x := h 238 i62) (nx := 121) (r1 := 0) (r2 := 0) (r3 := 0) rfl (by decide) rfl (by omega) (by omega) (by decide) ((u56 238 i62 (fn_a (by decide) (fn_a (by decide) fn_0))).trans ((u51 238 i62 (fn_a (by decide) (fn_a (by decide) fn_0))).trans ((u48 238 i62 (fn_a (by omega) fn_0)).trans ((u45 238 i62 (fn_a (by omega) fn_0)).trans ((u38 238 i62 (fn_a (by decide) (fn_a (by decide) fn_0))).trans ((u35 238 i62 (fn_a (by omega) fn_0)).trans ((u32 238 i62 (fn_a (by omega) fn_0)).trans ((u29 238 i62 (fn_a (by omega) fn_0)).trans ((u26 238 i62 (fn_a (by omega) fn_0)).trans ((u21 238 i62 (fn_a (by decide) (fn_a (by decide) fn_0))).trans ((u17 238 i62 (fn_a (by omega) fn_0)).trans ((u15 238 i62 (fn_a (by omega) fn_0)).trans (u13 238 i62 (fn_a (by omega) fn_0)))))))))))))) ?_
          refine wr_V (k0 := 236) (rest := []) (as := [.ref 236, vi (h 238 i62)]) (nx := 124) (r1 := 349) (r2 := 1) (r3 := 11) rfl rfl rfl (of_decide_eq_true rfl) rfl rfl (by decide) rfl rfl (of_decide_eq_true rfl) (of_decide_eq_true rfl) ?_
          refine ct_349_236 hcr  g56 (h 238 i62) (by omega) (show (h56 236 47) ≤ 289 by omega) (fun h64 g64 u64 (p64_0 : (h64 236 47) ≤ (h56 236 47) + 10) => ?_)
          have F65 := F58.then (by decide +kernel) u64
          have F66 := u56.then (by decide +kernel) u64
          have b67 := gi_b (lo := 0) (hi := 300) g64 236 47 rfl
          refine wk_n ?_
          refine wr_iinc (i := 1) (n := 1) (v := x55) (fun e68 => [(1, vi e68), (0, .ref 236)]) (nx := 127) (r1 := 0) (r2 := 0) (r3 := 0) rfl rfl (fun _ => rfl) (fun e68 (fe68 : e68 = x55 + 1) => ?_)
          refine wi_goto (nx := 130) (r1 := 100) (r2 := 0) (r3 := 0) rfl ?_
          refine wp.lo (lo := [(0, .ref 236), (1, vi e68)]) ⟨rfl, rfl, trivial⟩ rfl ?_
          exact I56 e68 h64 ⟨g64, F65, F66, (show (0 ≤ e68 ∧ e68 ≤ 12) ∧ ((h64 236 47) ≤ (h51 236 47) + 10 * e68) ∧ (e68 ≤ (h51 238 106)) by omega)⟩ (show ((12 : Int) + 1 - e68).toNat < ((12 : Int) + 1 - x55).toNat by omega)
      ·
        refine wi_aload_n (i := 0) (x := 236) (nx := 28) (r1 := 0) (r2 := 0) (r3 := 0) rfl rfl ?_
        refine wi_ldc2_w (e := 394693) (nx := 31) (r1 := 394693) (r2 := 0) (r3 := 0) rfl (by decide) ?_
        refine wr_V (k0 := 236) (rest := []) (as := [.ref 236, vl 394693]) (nx := 34) (r1 := 347) (r2 := 1) (r3 := 11) rfl rfl rfl (of_decide_eq_true rfl) rfl rfl (by decide) rfl rfl (of_decide_eq_true rfl) (of_decide_eq_true rfl) ?_
        have e52 : h48 236 47 = e47 := w48
        refine ct_347_236 hcr  g48 394693 (by omega) (show (h48 236 47) ≤ 291 by omega) (fun h51 g51 u51 (p51_0 : (h51 236 47) ≤ (h48 236 47) + 8) => ?_)
        have F53 := F49.then (by decide +kernel) u51
        have b54 := gi_b (lo := 0) (hi := 300) g51 236 47 rfl
        refine wk_n ?_
        refine wi_aload_n (i := 0) (x := 236) (nx := 35) (r1 := 0) (r2 := 0) (r3 := 0) rfl rfl ?_
        refine wi_bipush (n := 32) (nx := 37) (r1 := 0) (r2 := 0) (r3 := 0) rfl (by decide) ?_
        refine wr_V (k0 := 236) (rest := []) (as := [.ref 236, vi 32]) (nx := 40) (r1 := 348) (r2 := 1) (r3 := 11) rfl rfl rfl (of_decide_eq_true rfl) rfl rfl (by decide) rfl rfl (of_decide_eq_true rfl) (of_decide_eq_true rfl) ?_
        refine wi_aload_n (i := 0) (x := 236) (nx := 1) (r1 := 0) (r2 := 0) (r3 := 0) rfl rfl ?_
        refine wr_gr (k0 := 236) (x := 258) (nx := 4) (r1 := 11) (r2 := 46) (r3 := 0) rfl rfl (by decide) rfl ⟨rfl, rfl⟩ rfl ?_
        refine wi_aload_n (i := 0) (x := 236) (nx := 5) (r1 := 0) (r2 := 0) (r3 := 0) rfl rfl ?_
        refine wr_gi0 (k0 := 236) (x := h51 236 47) (nx := 8) (r1 := 11) (r2 := 47) (r3 := 0) rfl rfl (by decide) rfl ⟨rfl, rfl⟩ rfl rfl ?_
        refine wi_iload_n (i := 1) (e := 32) (nx := 9) (r1 := 0) (r2 := 0) (r3 := 0) rfl rfl ?_
        obtain ⟨i55, ei55⟩ : ∃ q : Nat, (h51 236 47) = (q : Int) := ⟨(h51 236 47).toNat, by omega⟩
        refine wr_is (k0 := 258) (a := h51 236 47) (f := i55) (x := 32) (bl := -2147483648) (bh := 2147483647) (nx := 10) (r1 := 0) (r2 := 0) (r3 := 0) rfl (by decide) rfl (by omega) (by omega) (by decide) g51 rfl (by omega) (fun h56 g56 w56 u56 => ?_)
        have F57 := F53.then rfl (FR.rngp (lo := 258) (hi := 258) u56 (by decide))
        refine wi_aload_n (i := 0) (x := 236) (nx := 11) (r1 := 0) (r2 := 0) (r3 := 0) rfl rfl ?_
        refine wi_dup (nx := 12) (r1 := 0) (r2 := 0) (r3 := 0) rfl rfl ?_
        refine wr_gi0 (k0 := 236) (x := h51 236 47) (nx := 15) (r1 := 11) (r2 := 47) (r3 := 0) rfl rfl (by decide) rfl ⟨rfl, rfl⟩ rfl (u56 236 47 (fn_a (by omega) fn_0)) ?_
        refine wi_iconst (n := 1) (nx := 16) (r1 := 0) (r2 := 0) (r3 := 0) rfl ?_
        refine wr_add (nx := 17) (r1 := 0) (r2 := 0) (r3 := 0) rfl (fun e58 (fe58 : e58 = (h51 236 47) + 1) => ?_)
        refine wr_pf0 (k0 := 236) (x := e58) (bl := 0) (bh := 300) (nx := 20) (r1 := 11) (r2 := 47) (r3 := 0) rfl (by decide) rfl ⟨rfl, rfl⟩ rfl rfl g56 rfl (by omega) (fun h59 g59 w59 u59 => ?_)
        have F60 := F57.then rfl u59
        refine wi_return (nx := 21) (r1 := 0) (r2 := 0) (r3 := 0) rfl rfl ?_
        refine wk_n ?_
        refine wi_aload_n (i := 0) (x := 236) (nx := 41) (r1 := 0) (r2 := 0) (r3 := 0) rfl rfl ?_
        refine wi_bipush (n := 48) (nx := 43) (r1 := 0) (r2 := 0) (r3 := 0) rfl (by decide) ?_
        refine wi_iload_n (i := 1) (e := 1) (nx := 44) (r1 := 0) (r2 := 0) (r3 := 0) rfl rfl ?_
        refine wr_addL (49) (nx := 45) (r1 := 0) (r2 := 0) (r3 := 0) rfl (by decide) ?_
        refine wr_V (k0 := 236) (rest := []) (as := [.ref 236, vi 49]) (nx := 48) (r1 := 348) (r2 := 1) (r3 := 11) rfl rfl rfl (of_decide_eq_true rfl) rfl rfl (by decide) rfl rfl (of_decide_eq_true rfl) (of_decide_eq_true rfl) ?_
        refine wi_aload_n (i := 0) (x := 236) (nx := 1) (r1 := 0) (r2 := 0) (r3 := 0) rfl rfl ?_
        refine wr_gr (k0 := 236) (x := 258) (nx := 4) (r1 := 11) (r2 := 46) (r3 := 0) rfl rfl (by decide) rfl ⟨rfl, rfl⟩ rfl ?_
        refine wi_aload_n (i := 0) (x := 236) (nx := 5) (r1 := 0) (r2 := 0) (r3 := 0) rfl rfl ?_
        refine wr_gi0 (k0 := 236) (x := e58) (nx := 8) (r1 := 11) (r2 := 47) (r3 := 0) rfl rfl (by decide) rfl ⟨rfl, rfl⟩ rfl w59 ?_
        refine wi_iload_n (i := 1) (e := 49) (nx := 9) (r1 := 0) (r2 := 0) (r3 := 0) rfl rfl ?_
        obtain ⟨i61, ei61⟩ : ∃ q : Nat, e58 = (q : Int) := ⟨(e58).toNat, by omega⟩
        refine wr_is (k0 := 258) (a := e58) (f := i61) (x := 49) (bl := -2147483648) (bh := 2147483647) (nx := 10) (r1 := 0) (r2 := 0) (r3 := 0) rfl (by decide) rfl (by omega) (by omega) (by decide) g59 rfl (by omega) (fun h62 g62 w62 u62 => ?_)
        have F63 := F60.then rfl (FR.rngp (lo := 258) (hi := 258) u62 (by decide))
        refine wi_aload_n (i := 0) (x := 236) (nx := 11) (r1 := 0) (r2 := 0) (r3 := 0) rfl rfl ?_
        refine wi_dup (nx := 12) (r1 := 0) (r2 := 0) (r3 := 0) rfl rfl ?_
        refine wr_gi0 (k0 := 236) (x := e58) (nx := 15) (r1 := 11) (r2 := 47) (r3 := 0) rfl rfl (by decide) rfl ⟨rfl, rfl⟩ rfl ((u62 236 47 (fn_a (by omega) fn_0)).trans w59) ?_
        refine wi_iconst (n := 1) (nx := 16) (r1 := 0) (r2 := 0) (r3 := 0) rfl ?_
        refine wr_add (nx := 17) (r1 := 0) (r2 := 0) (r3 := 0) rfl (fun e64 (fe64 : e64 = e58 + 1) => ?_)
        refine wr_pf0 (k0 := 236) (x := e64) (bl := 0) (bh := 300) (nx := 20) (r1 := 11) (r2 := 47) (r3 := 0) rfl (by decide) rfl ⟨rfl, rfl⟩ rfl rfl g62 rfl (by omega) (fun h65 g65 w65 u65 => ?_)
        have F66 := F63.then rfl u65
        refine wi_return (nx := 21) (r1 := 0) (r2 := 0) (r3 := 0) rfl rfl ?_
        refine wk_n ?_
        refine wi_iconst (n := 0) (nx := 49) (r1 := 0) (r2 := 0) (r3 := 0) rfl ?_
        refine wi_istore_n (i := 2) (e := 0) (lo2 := [(2, vi 0), (1, vi 1), (0, .ref 236)]) (nx := 50) (r1 := 0) (r2 := 0) (r3 := 0) rfl rfl ?_
        have e69 : h65 236 47 = e64 := w65
        have e70 : h65 238 99 = h 238 99 := ((u65 238 99 rfl).trans ((u62 238 99 (fn_a (by omega) fn_0)).trans ((u59 238 99 rfl).trans ((u56 238 99 (fn_a (by omega) fn_0)).trans ((u51 238 99 rfl).trans ((u48 238 99 rfl).trans ((u45 238 99 (fn_a (by omega) fn_0)).trans ((u38 238 99 rfl).trans ((u35 238 99 rfl).trans ((u32 238 99 (fn_a (by omega) fn_0)).trans ((u29 238 99 rfl).trans ((u26 238 99 (fn_a (by omega) fn_0)).trans ((u21 238 99 rfl).trans ((u17 238 99 rfl).trans ((u15 238 99 rfl).trans (u13 238 99 rfl))))))))))))))))
        refine wp.lo (lo := [(0, .ref 236), (1, vi 1), (2, vi 0)]) ⟨rfl, rfl, rfl, trivial⟩ rfl ?_
        refine wl_1 (fun x67 h68 => GI h68 ∧ FR [(258, 258, none), (236, 236, some (0, 0)), (236, 236, some (47, 47)), (236, 236, some (48, 48))] h h68 ∧ FR [(258, 258, none), (236, 236, some (47, 47))] h65 h68 ∧ ((0 ≤ x67 ∧ x67 ≤ 6) ∧ ((h68 236 47) ≤ (h65 236 47) + 10 * x67) ∧ (x67 ≤ (h65 238 99)))) (fun x67 h68 => ((6 : Int) + 1 - x67).toNat) (fun x67 h68 => (50, [(0, .ref 236), (1, vi 1), (2, vi x67)], [], hp_w h68 cr, b, c)) ?_ 0 h65 ⟨g65, F66, FR.refl, (show (0 ≤ 0 ∧ 0 ≤ 6) ∧ ((h65 236 47) ≤ (h65 236 47) + 10 * 0) ∧ (0 ≤ (h65 238 99)) by omega)⟩
        intro x67 h68 ⟨g68, F71, u68, f68⟩ I68
        have b72 := gi_b (lo := 0) (hi := 300) g68 236 47 rfl
        refine wi_iload_n (i := 2) (e := x67) (nx := 51) (r1 := 0) (r2 := 0) (r3 := 0) rfl rfl ?_
        refine wi_aload_n (i := 0) (x := 236) (nx := 52) (r1 := 0) (r2 := 0) (r3 := 0) rfl rfl ?_
        refine wr_gr (k0 := 236) (x := 238) (nx := 55) (r1 := 11) (r2 := 13) (r3 := 0) rfl rfl (by decide) rfl ⟨rfl, rfl⟩ rfl ?_
        refine wi_bipush (n := 98) (nx := 57) (r1 := 0) (r2 := 0) (r3 := 0) rfl (by decide) ?_
        refine wi_iload_n (i := 1) (e := 1) (nx := 58) (r1 := 0) (r2 := 0) (r3 := 0) rfl rfl ?_
        refine wr_addL (99) (nx := 59) (r1 := 0) (r2 := 0) (r3 := 0) rfl (by decide) ?_
        refine wr_ia (k0 := 238) (a := 99) (f := 99) (x := h 238 99) (nx := 60) (r1 := 0) (r2 := 0) (r3 := 0) rfl (by decide) rfl (by omega) (by omega) (by decide) ((u68 238 99 rfl).trans ((u65 238 99 rfl).trans ((u62 238 99 (fn_a (by omega) fn_0)).trans ((u59 238 99 rfl).trans ((u56 238 99 (fn_a (by omega) fn_0)).trans ((u51 238 99 rfl).trans ((u48 238 99 rfl).trans ((u45 238 99 (fn_a (by omega) fn_0)).trans ((u38 238 99 rfl).trans ((u35 238 99 rfl).trans ((u32 238 99 (fn_a (by omega) fn_0)).trans ((u29 238 99 rfl).trans ((u26 238 99 (fn_a (by omega) fn_0)).trans ((u21 238 99 rfl).trans ((u17 238 99 rfl).trans ((u15 238 99 rfl).trans (u13 238 99 rfl))))))))))))))))) ?_
        refine wi_icmp (cd := .ge) (nx := 63) (r1 := 79) (r2 := 0) (r3 := 0) rfl (by omega) (by omega) (fun (q73 : (h 238 99) ≤ x67) => ?_) (fun (q73 : ¬ ((h 238 99) ≤ x67)) => ?_)
        ·
          refine wi_aload_n (i := 0) (x := 236) (nx := 80) (r1 := 0) (r2 := 0) (r3 := 0) rfl rfl ?_
          refine wi_bipush (n := 10) (nx := 82) (r1 := 0) (r2 := 0) (r3 := 0) rfl (by decide) ?_
          refine wr_V (k0 := 236) (rest := []) (as := [.ref 236, vi 10]) (nx := 85) (r1 := 348) (r2 := 1) (r3 := 11) rfl rfl rfl (of_decide_eq_true rfl) rfl rfl (by decide) rfl rfl (of_decide_eq_true rfl) (of_decide_eq_true rfl) ?_
          refine wi_aload_n (i := 0) (x := 236) (nx := 1) (r1 := 0) (r2 := 0) (r3 := 0) rfl rfl ?_
          refine wr_gr (k0 := 236) (x := 258) (nx := 4) (r1 := 11) (r2 := 46) (r3 := 0) rfl rfl (by decide) rfl ⟨rfl, rfl⟩ rfl ?_
          refine wi_aload_n (i := 0) (x := 236) (nx := 5) (r1 := 0) (r2 := 0) (r3 := 0) rfl rfl ?_
          refine wr_gi0 (k0 := 236) (x := h68 236 47) (nx := 8) (r1 := 11) (r2 := 47) (r3 := 0) rfl rfl (by decide) rfl ⟨rfl, rfl⟩ rfl rfl ?_
          refine wi_iload_n (i := 1) (e := 10) (nx := 9) (r1 := 0) (r2 := 0) (r3 := 0) rfl rfl ?_
          obtain ⟨i74, ei74⟩ : ∃ q : Nat, (h68 236 47) = (q : Int) := ⟨(h68 236 47).toNat, by omega⟩
          refine wr_is (k0 := 258) (a := h68 236 47) (f := i74) (x := 10) (bl := -2147483648) (bh := 2147483647) (nx := 10) (r1 := 0) (r2 := 0) (r3 := 0) rfl (by decide) rfl (by omega) (by omega) (by decide) g68 rfl (by omega) (fun h75 g75 w75 u75 => ?_)
          have F76 := F71.then rfl (FR.rngp (lo := 258) (hi := 258) u75 (by decide))
          refine wi_aload_n (i := 0) (x := 236) (nx := 11) (r1 := 0) (r2 := 0) (r3 := 0) rfl rfl ?_
          refine wi_dup (nx := 12) (r1 := 0) (r2 := 0) (r3 := 0) rfl rfl ?_
          refine wr_gi0 (k0 := 236) (x := h68 236 47) (nx := 15) (r1 := 11) (r2 := 47) (r3 := 0) rfl rfl (by decide) rfl ⟨rfl, rfl⟩ rfl (u75 236 47 (fn_a (by omega) fn_0)) ?_
          refine wi_iconst (n := 1) (nx := 16) (r1 := 0) (r2 := 0) (r3 := 0) rfl ?_
          refine wr_add (nx := 17) (r1 := 0) (r2 := 0) (r3 := 0) rfl (fun e77 (fe77 : e77 = (h68 236 47) + 1) => ?_)
          refine wr_pf0 (k0 := 236) (x := e77) (bl := 0) (bh := 300) (nx := 20) (r1 := 11) (r2 := 47) (r3 := 0) rfl (by decide) rfl ⟨rfl, rfl⟩ rfl rfl g75 rfl (by omega) (fun h78 g78 w78 u78 => ?_)
          have F79 := F76.then rfl u78
          refine wi_return (nx := 21) (r1 := 0) (r2 := 0) (r3 := 0) rfl rfl ?_
          refine wk_n ?_
          refine wr_iincL (i := 1) (n := 1) (v := 1) (2) ([(1, vi 2), (0, .ref 236), (2, vi x67)]) (nx := 88) (r1 := 0) (r2 := 0) (r3 := 0) rfl rfl (by decide) rfl ?_
          refine wi_goto (nx := 91) (r1 := 17) (r2 := 0) (r3 := 0) rfl ?_
          refine wi_iload_n (i := 1) (e := 2) (nx := 18) (r1 := 0) (r2 := 0) (r3 := 0) rfl rfl ?_
          refine wi_aload_n (i := 0) (x := 236) (nx := 19) (r1 := 0) (r2 := 0) (r3 := 0) rfl rfl ?_
          refine wr_gr (k0 := 236) (x := 238) (nx := 22) (r1 := 11) (r2 := 13) (r3 := 0) rfl rfl (by decide) rfl ⟨rfl, rfl⟩ rfl ?_
          refine wi_iconst (n := 1) (nx := 23) (r1 := 0) (r2 := 0) (r3 := 0) rfl ?_
          refine wr_ia (k0 := 238) (a := 1) (f := 1) (x := h 238 1) (nx := 24) (r1 := 0) (r2 := 0) (r3 := 0) rfl (by decide) rfl (by omega) (by omega) (by decide) ((u78 238 1 rfl).trans ((u75 238 1 (fn_a (by omega) fn_0)).trans ((u68 238 1 rfl).trans ((u65 238 1 rfl).trans ((u62 238 1 (fn_a (by omega) fn_0)).trans ((u59 238 1 rfl).trans ((u56 238 1 (fn_a (by omega) fn_0)).trans ((u51 238 1 rfl).trans ((u48 238 1 rfl).trans ((u45 238 1 (fn_a (by omega) fn_0)).trans ((u38 238 1 rfl).trans ((u35 238 1 rfl).trans ((u32 238 1 (fn_a (by omega) fn_0)).trans ((u29 238 1 rfl).trans ((u26 238 1 (fn_a (by omega) fn_0)).trans ((u21 238 1 rfl).trans ((u17 238 1 rfl).trans ((u15 238 1 rfl).trans (u13 238 1 rfl))))))))))))))))))) ?_
          refine wi_icmp (cd := .ge) (nx := 27) (r1 := 91) (r2 := 0) (r3 := 0) rfl (by omega) (by omega) (fun (q80 : (h 238 1) ≤ 2) => ?_) (fun (q80 : ¬ ((h 238 1) ≤ 2)) => ?_)
          ·
            refine wi_aload_n (i := 0) (x := 236) (nx := 92) (r1 := 0) (r2 := 0) (r3 := 0) rfl rfl ?_
            refine wi_ldc2_w (e := 16052) (nx := 95) (r1 := 16052) (r2 := 0) (r3 := 0) rfl (by decide) ?_
            refine wr_V (k0 := 236) (rest := []) (as := [.ref 236, vl 16052]) (nx := 98) (r1 := 347) (r2 := 1) (r3 := 11) rfl rfl rfl (of_decide_eq_true rfl) rfl rfl (by decide) rfl rfl (of_decide_eq_true rfl) (of_decide_eq_true rfl) ?_
            have e82 : h78 236 47 = e77 := w78
            refine ct_347_236 hcr  g78 16052 (by omega) (show (h78 236 47) ≤ 291 by omega) (fun h81 g81 u81 (p81_0 : (h81 236 47) ≤ (h78 236 47) + 8) => ?_)
            have F83 := F79.then (by decide +kernel) u81
            have b84 := gi_b (lo := 0) (hi := 300) g81 236 47 rfl
            refine wk_n ?_
            refine wi_iconst (n := 0) (nx := 99) (r1 := 0) (r2 := 0) (r3 := 0) rfl ?_
            refine wi_istore_n (i := 1) (e := 0) (lo2 := [(1, vi 0), (0, .ref 236), (2, vi x67)]) (nx := 100) (r1 := 0) (r2 := 0) (r3 := 0) rfl rfl ?_
            have e87 : h81 238 106 = h 238 106 := ((u81 238 106 rfl).trans ((u78 238 106 rfl).trans ((u75 238 106 (fn_a (by omega) fn_0)).trans ((u68 238 106 rfl).trans ((u65 238 106 rfl).trans ((u62 238 106 (fn_a (by omega) fn_0)).trans ((u59 238 106 rfl).trans ((u56 238 106 (fn_a (by omega) fn_0)).trans ((u51 238 106 rfl).trans ((u48 238 106 rfl).trans ((u45 238 106 (fn_a (by omega) fn_0)).trans ((u38 238 106 rfl).trans ((u35 238 106 rfl).trans ((u32 238 106 (fn_a (by omega) fn_0)).trans ((u29 238 106 rfl).trans ((u26 238 106 (fn_a (by omega) fn_0)).trans ((u21 238 106 rfl).trans ((u17 238 106 rfl).trans ((u15 238 106 rfl).trans (u13 238 106 rfl))))))))))))))))))))
            refine wp.lo (lo := [(0, .ref 236), (1, vi 0)]) ⟨rfl, rfl, trivial⟩ rfl ?_
            refine wl_1 (fun x85 h86 => GI h86 ∧ FR [(258, 258, none), (236, 236, some (0, 0)), (236, 236, some (47, 47)), (236, 236, some (48, 48))] h h86 ∧ FR [(258, 258, none), (236, 236, some (47, 47))] h81 h86 ∧ ((0 ≤ x85 ∧ x85 ≤ 12) ∧ ((h86 236 47) ≤ (h81 236 47) + 10 * x85) ∧ (x85 ≤ (h81 238 106)))) (fun x85 h86 => ((12 : Int) + 1 - x85).toNat) (fun x85 h86 => (100, [(0, .ref 236), (1, vi x85)], [], hp_w h86 cr, b, c)) ?_ 0 h81 ⟨g81, F83, FR.refl, (show (0 ≤ 0 ∧ 0 ≤ 12) ∧ ((h81 236 47) ≤ (h81 236 47) + 10 * 0) ∧ (0 ≤ (h81 238 106)) by omega)⟩
            intro x85 h86 ⟨g86, F88, u86, f86⟩ I86
            have b89 := gi_b (lo := 0) (hi := 300) g86 236 47 rfl
            refine wi_iload_n (i := 1) (e := x85) (nx := 101) (r1 := 0) (r2 := 0) (r3 := 0) rfl rfl ?_
            refine wi_aload_n (i := 0) (x := 236) (nx := 102) (r1 := 0) (r2 := 0) (r3 := 0) rfl rfl ?_
            refine wr_gr (k0 := 236) (x := 238) (nx := 105) (r1 := 11) (r2 := 13) (r3 := 0) rfl rfl (by decide) rfl ⟨rfl, rfl⟩ rfl ?_
            refine wi_bipush (n := 106) (nx := 107) (r1 := 0) (r2 := 0) (r3 := 0) rfl (by decide) ?_
            refine wr_ia (k0 := 238) (a := 106) (f := 106) (x := h 238 106) (nx := 108) (r1 := 0) (r2 := 0) (r3 := 0) rfl (by decide) rfl (by omega) (by omega) (by decide) ((u86 238 106 rfl).trans ((u81 238 106 rfl).trans ((u78 238 106 rfl).trans ((u75 238 106 (fn_a (by omega) fn_0)).trans ((u68 238 106 rfl).trans ((u65 238 106 rfl).trans ((u62 238 106 (fn_a (by omega) fn_0)).trans ((u59 238 106 rfl).trans ((u56 238 106 (fn_a (by omega) fn_0)).trans ((u51 238 106 rfl).trans ((u48 238 106 rfl).trans ((u45 238 106 (fn_a (by omega) fn_0)).trans ((u38 238 106 rfl).trans ((u35 238 106 rfl).trans ((u32 238 106 (fn_a (by omega) fn_0)).trans ((u29 238 106 rfl).trans ((u26 238 106 (fn_a (by omega) fn_0)).trans ((u21 238 106 rfl).trans ((u17 238 106 rfl).trans ((u15 238 106 rfl).trans (u13 238 106 rfl))))))))))))))))))))) ?_
            refine wi_icmp (cd := .ge) (nx := 111) (r1 := 130) (r2 := 0) (r3 := 0) rfl (by omega) (by omega) (fun (q90 : (h 238 106) ≤ x85) => ?_) (fun (q90 : ¬ ((h 238 106) ≤ x85)) => ?_)
            ·
              refine wi_aload_n (i := 0) (x := 236) (nx := 131) (r1 := 0) (r2 := 0) (r3 := 0) rfl rfl ?_
              refine wi_bipush (n := 10) (nx := 133) (r1 := 0) (r2 := 0) (r3 := 0) rfl (by decide) ?_
              refine wr_V (k0 := 236) (rest := []) (as := [.ref 236, vi 10]) (nx := 136) (r1 := 348) (r2 := 1) (r3 := 11) rfl rfl rfl (of_decide_eq_true rfl) rfl rfl (by decide) rfl rfl (of_decide_eq_true rfl) (of_decide_eq_true rfl) ?_
              refine wi_aload_n (i := 0) (x := 236) (nx := 1) (r1 := 0) (r2 := 0) (r3 := 0) rfl rfl ?_
              refine wr_gr (k0 := 236) (x := 258) (nx := 4) (r1 := 11) (r2 := 46) (r3 := 0) rfl rfl (by decide) rfl ⟨rfl, rfl⟩ rfl ?_
              refine wi_aload_n (i := 0) (x := 236) (nx := 5) (r1 := 0) (r2 := 0) (r3 := 0) rfl rfl ?_
              refine wr_gi0 (k0 := 236) (x := h86 236 47) (nx := 8) (r1 := 11) (r2 := 47) (r3 := 0) rfl rfl (by decide) rfl ⟨rfl, rfl⟩ rfl rfl ?_
              refine wi_iload_n (i := 1) (e := 10) (nx := 9) (r1 := 0) (r2 := 0) (r3 := 0) rfl rfl ?_
              obtain ⟨i91, ei91⟩ : ∃ q : Nat, (h86 236 47) = (q : Int) := ⟨(h86 236 47).toNat, by omega⟩
              refine wr_is (k0 := 258) (a := h86 236 47) (f := i91) (x := 10) (bl := -2147483648) (bh := 2147483647) (nx := 10) (r1 := 0) (r2 := 0) (r3 := 0) rfl (by decide) rfl (by omega) (by omega) (by decide) g86 rfl (by omega) (fun h92 g92 w92 u92 => ?_)
              have F93 := F88.then rfl (FR.rngp (lo := 258) (hi := 258) u92 (by decide))
              refine wi_aload_n (i := 0) (x := 236) (nx := 11) (r1 := 0) (r2 := 0) (r3 := 0) rfl rfl ?_
              refine wi_dup (nx := 12) (r1 := 0) (r2 := 0) (r3 := 0) rfl rfl ?_
              refine wr_gi0 (k0 := 236) (x := h86 236 47) (nx := 15) (r1 := 11) (r2 := 47) (r3 := 0) rfl rfl (by decide) rfl ⟨rfl, rfl⟩ rfl (u92 236 47 (fn_a (by omega) fn_0)) ?_
              refine wi_iconst (n := 1) (nx := 16) (r1 := 0) (r2 := 0) (r3 := 0) rfl ?_
              refine wr_add (nx := 17) (r1 := 0) (r2 := 0) (r3 := 0) rfl (fun e94 (fe94 : e94 = (h86 236 47) + 1) => ?_)
              refine wr_pf0 (k0 := 236) (x := e94) (bl := 0) (bh := 300) (nx := 20) (r1 := 11) (r2 := 47) (r3 := 0) rfl (by decide) rfl ⟨rfl, rfl⟩ rfl rfl g92 rfl (by omega) (fun h95 g95 w95 u95 => ?_)
              have F96 := F93.then rfl u95
              refine wi_return (nx := 21) (r1 := 0) (r2 := 0) (r3 := 0) rfl rfl ?_
              refine wk_n ?_
              refine wi_aload_n (i := 0) (x := 236) (nx := 137) (r1 := 0) (r2 := 0) (r3 := 0) rfl rfl ?_
              refine wr_gi0 (k0 := 236) (x := e94) (nx := 140) (r1 := 11) (r2 := 47) (r3 := 0) rfl rfl (by decide) rfl ⟨rfl, rfl⟩ rfl w95 ?_
              refine wi_ireturn (nx := 141) (r1 := 0) (r2 := 0) (r3 := 0) rfl rfl ?_
              exact k h95 e94 g95 F96 (by omega)
            ·
              refine wi_aload_n (i := 0) (x := 236) (nx := 112) (r1 := 0) (r2 := 0) (r3 := 0) rfl rfl ?_
              refine wi_aload_n (i := 0) (x := 236) (nx := 113) (r1 := 0) (r2 := 0) (r3 := 0) rfl rfl ?_
              refine wr_gr (k0 := 236) (x := 238) (nx := 116) (r1 := 11) (r2 := 13) (r3 := 0) rfl rfl (by decide) rfl ⟨rfl, rfl⟩ rfl ?_
              refine wi_bipush (n := 107) (nx := 118) (r1 := 0) (r2 := 0) (r3 := 0) rfl (by decide) ?_
              refine wi_iload_n (i := 1) (e := x85) (nx := 119) (r1 := 0) (r2 := 0) (r3 := 0) rfl rfl ?_
              refine wr_add (nx := 120) (r1 := 0) (r2 := 0) (r3 := 0) rfl (fun e91 (fe91 : e91 = 107 + x85) => ?_)
              obtain ⟨i92, ei92⟩ : ∃ q : Nat, e91 = (q : Int) := ⟨(e91).toNat, by omega⟩
              have b93 := gi_b (lo := 0) (hi := 11) g 238 i92 (gi_rg 107 12 (fun _ => rfl) (by decide +kernel) (by omega))
              refine wr_ia (k0 := 238) (a := e91) (f := i92) (x := h 238 i92) (nx := 121) (r1 := 0) (r2 := 0) (r3 := 0) rfl (by decide) rfl (by omega) (by omega) (by decide) ((u86 238 i92 (fn_a (by decide) (fn_a (by decide) fn_0))).trans ((u81 238 i92 (fn_a (by decide) (fn_a (by decide) fn_0))).trans ((u78 238 i92 (fn_a (by omega) fn_0)).trans ((u75 238 i92 (fn_a (by omega) fn_0)).trans ((u68 238 i92 (fn_a (by decide) (fn_a (by decide) fn_0))).trans ((u65 238 i92 (fn_a (by omega) fn_0)).trans ((u62 238 i92 (fn_a (by omega) fn_0)).trans ((u59 238 i92 (fn_a (by omega) fn_0)).trans ((u56 238 i92 (fn_a (by omega) fn_0)).trans ((u51 238 i92 (fn_a (by decide) (fn_a (by decide) fn_0))).trans ((u48 238 i92 (fn_a (by omega) fn_0)).trans ((u45 238 i92 (fn_a (by omega) fn_0)).trans ((u38 238 i92 (fn_a (by decide) (fn_a (by decide) fn_0))).trans ((u35 238 i92 (fn_a (by omega) fn_0)).trans ((u32 238 i92 (fn_a (by omega) fn_0)).trans ((u29 238 i92 (fn_a (by omega) fn_0)).trans ((u26 238 i92 (fn_a (by omega) fn_0)).trans ((u21 238 i92 (fn_a (by decide) (fn_a (by decide) fn_0))).trans ((u17 238 i92 (fn_a (by omega) fn_0)).trans ((u15 238 i92 (fn_a (by omega) fn_0)).trans (u13 238 i92 (fn_a (by omega) fn_0)))))))))))))))))))))) ?_
              refine wr_V (k0 := 236) (rest := []) (as := [.ref 236, vi (h 238 i92)]) (nx := 124) (r1 := 349) (r2 := 1) (r3 := 11) rfl rfl rfl (of_decide_eq_true rfl) rfl rfl (by decide) rfl rfl (of_decide_eq_true rfl) (of_decide_eq_true rfl) ?_
              refine ct_349_236 hcr  g86 (h 238 i92) (by omega) (show (h86 236 47) ≤ 289 by omega) (fun h94 g94 u94 (p94_0 : (h94 236 47) ≤ (h86 236 47) + 10) => ?_)
              have F95 := F88.then (by decide +kernel) u94
              have F96 := u86.then (by decide +kernel) u94
              have b97 := gi_b (lo := 0) (hi := 300) g94 236 47 rfl
              refine wk_n ?_
              refine wr_iinc (i := 1) (n := 1) (v := x85) (fun e98 => [(1, vi e98), (0, .ref 236)]) (nx := 127) (r1 := 0) (r2 := 0) (r3 := 0) rfl rfl (fun _ => rfl) (fun e98 (fe98 : e98 = x85 + 1) => ?_)
              refine wi_goto (nx := 130) (r1 := 100) (r2 := 0) (r3 := 0) rfl ?_
              refine wp.lo (lo := [(0, .ref 236), (1, vi e98)]) ⟨rfl, rfl, trivial⟩ rfl ?_
              exact I86 e98 h94 ⟨g94, F95, F96, (show (0 ≤ e98 ∧ e98 ≤ 12) ∧ ((h94 236 47) ≤ (h81 236 47) + 10 * e98) ∧ (e98 ≤ (h81 238 106)) by omega)⟩ (show ((12 : Int) + 1 - e98).toNat < ((12 : Int) + 1 - x85).toNat by omega)
          ·
            refine wi_aload_n (i := 0) (x := 236) (nx := 28) (r1 := 0) (r2 := 0) (r3 := 0) rfl rfl ?_
            refine wi_ldc2_w (e := 394693) (nx := 31) (r1 := 394693) (r2 := 0) (r3 := 0) rfl (by decide) ?_
            refine wr_V (k0 := 236) (rest := []) (as := [.ref 236, vl 394693]) (nx := 34) (r1 := 347) (r2 := 1) (r3 := 11) rfl rfl rfl (of_decide_eq_true rfl) rfl rfl (by decide) rfl rfl (of_decide_eq_true rfl) (of_decide_eq_true rfl) ?_
            have e82 : h78 236 47 = e77 := w78
            refine ct_347_236 hcr  g78 394693 (by omega) (show (h78 236 47) ≤ 291 by omega) (fun h81 g81 u81 (p81_0 : (h81 236 47) ≤ (h78 236 47) + 8) => ?_)
            have F83 := F79.then (by decide +kernel) u81
            have b84 := gi_b (lo := 0) (hi := 300) g81 236 47 rfl
            refine wk_n ?_
            refine wi_aload_n (i := 0) (x := 236) (nx := 35) (r1 := 0) (r2 := 0) (r3 := 0) rfl rfl ?_
            refine wi_bipush (n := 32) (nx := 37) (r1 := 0) (r2 := 0) (r3 := 0) rfl (by decide) ?_
            refine wr_V (k0 := 236) (rest := []) (as := [.ref 236, vi 32]) (nx := 40) (r1 := 348) (r2 := 1) (r3 := 11) rfl rfl rfl (of_decide_eq_true rfl) rfl rfl (by decide) rfl rfl (of_decide_eq_true rfl) (of_decide_eq_true rfl) ?_
            refine wi_aload_n (i := 0) (x := 236) (nx := 1) (r1 := 0) (r2 := 0) (r3 := 0) rfl rfl ?_
            refine wr_gr (k0 := 236) (x := 258) (nx := 4) (r1 := 11) (r2 := 46) (r3 := 0) rfl rfl (by decide) rfl ⟨rfl, rfl⟩ rfl ?_
            refine wi_aload_n (i := 0) (x := 236) (nx := 5) (r1 := 0) (r2 := 0) (r3 := 0) rfl rfl ?_
            refine wr_gi0 (k0 := 236) (x := h81 236 47) (nx := 8) (r1 := 11) (r2 := 47) (r3 := 0) rfl rfl (by decide) rfl ⟨rfl, rfl⟩ rfl rfl ?_
            refine wi_iload_n (i := 1) (e := 32) (nx := 9) (r1 := 0) (r2 := 0) (r3 := 0) rfl rfl ?_
            obtain ⟨i85, ei85⟩ : ∃ q : Nat, (h81 236 47) = (q : Int) := ⟨(h81 236 47).toNat, by omega⟩
            refine wr_is (k0 := 258) (a := h81 236 47) (f := i85) (x := 32) (bl := -2147483648) (bh := 2147483647) (nx := 10) (r1 := 0) (r2 := 0) (r3 := 0) rfl (by decide) rfl (by omega) (by omega) (by decide) g81 rfl (by omega) (fun h86 g86 w86 u86 => ?_)
            have F87 := F83.then rfl (FR.rngp (lo := 258) (hi := 258) u86 (by decide))
            refine wi_aload_n (i := 0) (x := 236) (nx := 11) (r1 := 0) (r2 := 0) (r3 := 0) rfl rfl ?_
            refine wi_dup (nx := 12) (r1 := 0) (r2 := 0) (r3 := 0) rfl rfl ?_
            refine wr_gi0 (k0 := 236) (x := h81 236 47) (nx := 15) (r1 := 11) (r2 := 47) (r3 := 0) rfl rfl (by decide) rfl ⟨rfl, rfl⟩ rfl (u86 236 47 (fn_a (by omega) fn_0)) ?_
            refine wi_iconst (n := 1) (nx := 16) (r1 := 0) (r2 := 0) (r3 := 0) rfl ?_
            refine wr_add (nx := 17) (r1 := 0) (r2 := 0) (r3 := 0) rfl (fun e88 (fe88 : e88 = (h81 236 47) + 1) => ?_)
            refine wr_pf0 (k0 := 236) (x := e88) (bl := 0) (bh := 300) (nx := 20) (r1 := 11) (r2 := 47) (r3 := 0) rfl (by decide) rfl ⟨rfl, rfl⟩ rfl rfl g86 rfl (by omega) (fun h89 g89 w89 u89 => ?_)
            have F90 := F87.then rfl u89
            refine wi_return (nx := 21) (r1 := 0) (r2 := 0) (r3 := 0) rfl rfl ?_
            refine wk_n ?_
            refine wi_aload_n (i := 0) (x := 236) (nx := 41) (r1 := 0) (r2 := 0) (r3 := 0) rfl rfl ?_
            refine wi_bipush (n := 48) (nx := 43) (r1 := 0) (r2 := 0) (r3 := 0) rfl (by decide) ?_
            refine wi_iload_n (i := 1) (e := 2) (nx := 44) (r1 := 0) (r2 := 0) (r3 := 0) rfl rfl ?_
            refine wr_addL (50) (nx := 45) (r1 := 0) (r2 := 0) (r3 := 0) rfl (by decide) ?_
            refine wr_V (k0 := 236) (rest := []) (as := [.ref 236, vi 50]) (nx := 48) (r1 := 348) (r2 := 1) (r3 := 11) rfl rfl rfl (of_decide_eq_true rfl) rfl rfl (by decide) rfl rfl (of_decide_eq_true rfl) (of_decide_eq_true rfl) ?_
            refine wi_aload_n (i := 0) (x := 236) (nx := 1) (r1 := 0) (r2 := 0) (r3 := 0) rfl rfl ?_
            refine wr_gr (k0 := 236) (x := 258) (nx := 4) (r1 := 11) (r2 := 46) (r3 := 0) rfl rfl (by decide) rfl ⟨rfl, rfl⟩ rfl ?_
            refine wi_aload_n (i := 0) (x := 236) (nx := 5) (r1 := 0) (r2 := 0) (r3 := 0) rfl rfl ?_
            refine wr_gi0 (k0 := 236) (x := e88) (nx := 8) (r1 := 11) (r2 := 47) (r3 := 0) rfl rfl (by decide) rfl ⟨rfl, rfl⟩ rfl w89 ?_
            refine wi_iload_n (i := 1) (e := 50) (nx := 9) (r1 := 0) (r2 := 0) (r3 := 0) rfl rfl ?_
            obtain ⟨i91, ei91⟩ : ∃ q : Nat, e88 = (q : Int) := ⟨(e88).toNat, by omega⟩
            refine wr_is (k0 := 258) (a := e88) (f := i91) (x := 50) (bl := -2147483648) (bh := 2147483647) (nx := 10) (r1 := 0) (r2 := 0) (r3 := 0) rfl (by decide) rfl (by omega) (by omega) (by decide) g89 rfl (by omega) (fun h92 g92 w92 u92 => ?_)
            have F93 := F90.then rfl (FR.rngp (lo := 258) (hi := 258) u92 (by decide))
            refine wi_aload_n (i := 0) (x := 236) (nx := 11) (r1 := 0) (r2 := 0) (r3 := 0) rfl rfl ?_
            refine wi_dup (nx := 12) (r1 := 0) (r2 := 0) (r3 := 0) rfl rfl ?_
            refine wr_gi0 (k0 := 236) (x := e88) (nx := 15) (r1 := 11) (r2 := 47) (r3 := 0) rfl rfl (by decide) rfl ⟨rfl, rfl⟩ rfl ((u92 236 47 (fn_a (by omega) fn_0)).trans w89) ?_
            refine wi_iconst (n := 1) (nx := 16) (r1 := 0) (r2 := 0) (r3 := 0) rfl ?_
            refine wr_add (nx := 17) (r1 := 0) (r2 := 0) (r3 := 0) rfl (fun e94 (fe94 : e94 = e88 + 1) => ?_)
            refine wr_pf0 (k0 := 236) (x := e94) (bl := 0) (bh := 300) (nx := 20) (r1 := 11) (r2 := 47) (r3 := 0) rfl (by decide) rfl ⟨rfl, rfl⟩ rfl rfl g92 rfl (by omega) (fun h95 g95 w95 u95 => ?_)
            have F96 := F93.then rfl u95
            refine wi_return (nx := 21) (r1 := 0) (r2 := 0) (r3 := 0) rfl rfl ?_
            refine wk_n ?_
            refine wi_iconst (n := 0) (nx := 49) (r1 := 0) (r2 := 0) (r3 := 0) rfl ?_
            refine wi_istore_n (i := 2) (e := 0) (lo2 := [(2, vi 0), (1, vi 2), (0, .ref 236)]) (nx := 50) (r1 := 0) (r2 := 0) (r3 := 0) rfl rfl ?_
            have e99 : h95 236 47 = e94 := w95
            have e100 : h95 238 100 = h 238 100 := ((u95 238 100 rfl).trans ((u92 238 100 (fn_a (by omega) fn_0)).trans ((u89 238 100 rfl).trans ((u86 238 100 (fn_a (by omega) fn_0)).trans ((u81 238 100 rfl).trans ((u78 238 100 rfl).trans ((u75 238 100 (fn_a (by omega) fn_0)).trans ((u68 238 100 rfl).trans ((u65 238 100 rfl).trans ((u62 238 100 (fn_a (by omega) fn_0)).trans ((u59 238 100 rfl).trans ((u56 238 100 (fn_a (by omega) fn_0)).trans ((u51 238 100 rfl).trans ((u48 238 100 rfl).trans ((u45 238 100 (fn_a (by omega) fn_0)).trans ((u38 238 100 rfl).trans ((u35 238 100 rfl).trans ((u32 238 100 (fn_a (by omega) fn_0)).trans ((u29 238 100 rfl).trans ((u26 238 100 (fn_a (by omega) fn_0)).trans ((u21 238 100 rfl).trans ((u17 238 100 rfl).trans ((u15 238 100 rfl).trans (u13 238 100 rfl))))))))))))))))))))))))
            refine wp.lo (lo := [(0, .ref 236), (1, vi 2), (2, vi 0)]) ⟨rfl, rfl, rfl, trivial⟩ rfl ?_
            refine wl_1 (fun x97 h98 => GI h98 ∧ FR [(258, 258, none), (236, 236, some (0, 0)), (236, 236, some (47, 47)), (236, 236, some (48, 48))] h h98 ∧ FR [(258, 258, none), (236, 236, some (47, 47))] h95 h98 ∧ ((0 ≤ x97 ∧ x97 ≤ 6) ∧ ((h98 236 47) ≤ (h95 236 47) + 10 * x97) ∧ (x97 ≤ (h95 238 100)))) (fun x97 h98 => ((6 : Int) + 1 - x97).toNat) (fun x97 h98 => (50, [(0, .ref 236), (1, vi 2), (2, vi x97)], [], hp_w h98 cr, b, c)) ?_ 0 h95 ⟨g95, F96, FR.refl, (show (0 ≤ 0 ∧ 0 ≤ 6) ∧ ((h95 236 47) ≤ (h95 236 47) + 10 * 0) ∧ (0 ≤ (h95 238 100)) by omega)⟩
            intro x97 h98 ⟨g98, F101, u98, f98⟩ I98
            have b102 := gi_b (lo := 0) (hi := 300) g98 236 47 rfl
            refine wi_iload_n (i := 2) (e := x97) (nx := 51) (r1 := 0) (r2 := 0) (r3 := 0) rfl rfl ?_
            refine wi_aload_n (i := 0) (x := 236) (nx := 52) (r1 := 0) (r2 := 0) (r3 := 0) rfl rfl ?_
            refine wr_gr (k0 := 236) (x := 238) (nx := 55) (r1 := 11) (r2 := 13) (r3 := 0) rfl rfl (by decide) rfl ⟨rfl, rfl⟩ rfl ?_
            refine wi_bipush (n := 98) (nx := 57) (r1 := 0) (r2 := 0) (r3 := 0) rfl (by decide) ?_
            refine wi_iload_n (i := 1) (e := 2) (nx := 58) (r1 := 0) (r2 := 0) (r3 := 0) rfl rfl ?_
            refine wr_addL (100) (nx := 59) (r1 := 0) (r2 := 0) (r3 := 0) rfl (by decide) ?_
            refine wr_ia (k0 := 238) (a := 100) (f := 100) (x := h 238 100) (nx := 60) (r1 := 0) (r2 := 0) (r3 := 0) rfl (by decide) rfl (by omega) (by omega) (by decide) ((u98 238 100 rfl).trans ((u95 238 100 rfl).trans ((u92 238 100 (fn_a (by omega) fn_0)).trans ((u89 238 100 rfl).trans ((u86 238 100 (fn_a (by omega) fn_0)).trans ((u81 238 100 rfl).trans ((u78 238 100 rfl).trans ((u75 238 100 (fn_a (by omega) fn_0)).trans ((u68 238 100 rfl).trans ((u65 238 100 rfl).trans ((u62 238 100 (fn_a (by omega) fn_0)).trans ((u59 238 100 rfl).trans ((u56 238 100 (fn_a (by omega) fn_0)).trans ((u51 238 100 rfl).trans ((u48 238 100 rfl).trans ((u45 238 100 (fn_a (by omega) fn_0)).trans ((u38 238 100 rfl).trans ((u35 238 100 rfl).trans ((u32 238 100 (fn_a (by omega) fn_0)).trans ((u29 238 100 rfl).trans ((u26 238 100 (fn_a (by omega) fn_0)).trans ((u21 238 100 rfl).trans ((u17 238 100 rfl).trans ((u15 238 100 rfl).trans (u13 238 100 rfl))))))))))))))))))))))))) ?_
            refine wi_icmp (cd := .ge) (nx := 63) (r1 := 79) (r2 := 0) (r3 := 0) rfl (by omega) (by omega) (fun (q103 : (h 238 100) ≤ x97) => ?_) (fun (q103 : ¬ ((h 238 100) ≤ x97)) => ?_)
            ·
              refine wi_aload_n (i := 0) (x := 236) (nx := 80) (r1 := 0) (r2 := 0) (r3 := 0) rfl rfl ?_
              refine wi_bipush (n := 10) (nx := 82) (r1 := 0) (r2 := 0) (r3 := 0) rfl (by decide) ?_
              refine wr_V (k0 := 236) (rest := []) (as := [.ref 236, vi 10]) (nx := 85) (r1 := 348) (r2 := 1) (r3 := 11) rfl rfl rfl (of_decide_eq_true rfl) rfl rfl (by decide) rfl rfl (of_decide_eq_true rfl) (of_decide_eq_true rfl) ?_
              refine wi_aload_n (i := 0) (x := 236) (nx := 1) (r1 := 0) (r2 := 0) (r3 := 0) rfl rfl ?_
              refine wr_gr (k0 := 236) (x := 258) (nx := 4) (r1 := 11) (r2 := 46) (r3 := 0) rfl rfl (by decide) rfl ⟨rfl, rfl⟩ rfl ?_
              refine wi_aload_n (i := 0) (x := 236) (nx := 5) (r1 := 0) (r2 := 0) (r3 := 0) rfl rfl ?_
              refine wr_gi0 (k0 := 236) (x := h98 236 47) (nx := 8) (r1 := 11) (r2 := 47) (r3 := 0) rfl rfl (by decide) rfl ⟨rfl, rfl⟩ rfl rfl ?_
              refine wi_iload_n (i := 1) (e := 10) (nx := 9) (r1 := 0) (r2 := 0) (r3 := 0) rfl rfl ?_
              obtain ⟨i104, ei104⟩ : ∃ q : Nat, (h98 236 47) = (q : Int) := ⟨(h98 236 47).toNat, by omega⟩
              refine wr_is (k0 := 258) (a := h98 236 47) (f := i104) (x := 10) (bl := -2147483648) (bh := 2147483647) (nx := 10) (r1 := 0) (r2 := 0) (r3 := 0) rfl (by decide) rfl (by omega) (by omega) (by decide) g98 rfl (by omega) (fun h105 g105 w105 u105 => ?_)
              have F106 := F101.then rfl (FR.rngp (lo := 258) (hi := 258) u105 (by decide))
              refine wi_aload_n (i := 0) (x := 236) (nx := 11) (r1 := 0) (r2 := 0) (r3 := 0) rfl rfl ?_
              refine wi_dup (nx := 12) (r1 := 0) (r2 := 0) (r3 := 0) rfl rfl ?_
              refine wr_gi0 (k0 := 236) (x := h98 236 47) (nx := 15) (r1 := 11) (r2 := 47) (r3 := 0) rfl rfl (by decide) rfl ⟨rfl, rfl⟩ rfl (u105 236 47 (fn_a (by omega) fn_0)) ?_
              refine wi_iconst (n := 1) (nx := 16) (r1 := 0) (r2 := 0) (r3 := 0) rfl ?_
              refine wr_add (nx := 17) (r1 := 0) (r2 := 0) (r3 := 0) rfl (fun e107 (fe107 : e107 = (h98 236 47) + 1) => ?_)
              refine wr_pf0 (k0 := 236) (x := e107) (bl := 0) (bh := 300) (nx := 20) (r1 := 11) (r2 := 47) (r3 := 0) rfl (by decide) rfl ⟨rfl, rfl⟩ rfl rfl g105 rfl (by omega) (fun h108 g108 w108 u108 => ?_)
              have F109 := F106.then rfl u108
              refine wi_return (nx := 21) (r1 := 0) (r2 := 0) (r3 := 0) rfl rfl ?_
              refine wk_n ?_
              refine wr_iincL (i := 1) (n := 1) (v := 2) (3) ([(1, vi 3), (0, .ref 236), (2, vi x97)]) (nx := 88) (r1 := 0) (r2 := 0) (r3 := 0) rfl rfl (by decide) rfl ?_
              refine wi_goto (nx := 91) (r1 := 17) (r2 := 0) (r3 := 0) rfl ?_
              refine wi_iload_n (i := 1) (e := 3) (nx := 18) (r1 := 0) (r2 := 0) (r3 := 0) rfl rfl ?_
              refine wi_aload_n (i := 0) (x := 236) (nx := 19) (r1 := 0) (r2 := 0) (r3 := 0) rfl rfl ?_
              refine wr_gr (k0 := 236) (x := 238) (nx := 22) (r1 := 11) (r2 := 13) (r3 := 0) rfl rfl (by decide) rfl ⟨rfl, rfl⟩ rfl ?_
              refine wi_iconst (n := 1) (nx := 23) (r1 := 0) (r2 := 0) (r3 := 0) rfl ?_
              refine wr_ia (k0 := 238) (a := 1) (f := 1) (x := h 238 1) (nx := 24) (r1 := 0) (r2 := 0) (r3 := 0) rfl (by decide) rfl (by omega) (by omega) (by decide) ((u108 238 1 rfl).trans ((u105 238 1 (fn_a (by omega) fn_0)).trans ((u98 238 1 rfl).trans ((u95 238 1 rfl).trans ((u92 238 1 (fn_a (by omega) fn_0)).trans ((u89 238 1 rfl).trans ((u86 238 1 (fn_a (by omega) fn_0)).trans ((u81 238 1 rfl).trans ((u78 238 1 rfl).trans ((u75 238 1 (fn_a (by omega) fn_0)).trans ((u68 238 1 rfl).trans ((u65 238 1 rfl).trans ((u62 238 1 (fn_a (by omega) fn_0)).trans ((u59 238 1 rfl).trans ((u56 238 1 (fn_a (by omega) fn_0)).trans ((u51 238 1 rfl).trans ((u48 238 1 rfl).trans ((u45 238 1 (fn_a (by omega) fn_0)).trans ((u38 238 1 rfl).trans ((u35 238 1 rfl).trans ((u32 238 1 (fn_a (by omega) fn_0)).trans ((u29 238 1 rfl).trans ((u26 238 1 (fn_a (by omega) fn_0)).trans ((u21 238 1 rfl).trans ((u17 238 1 rfl).trans ((u15 238 1 rfl).trans (u13 238 1 rfl))))))))))))))))))))))))))) ?_
              refine wi_icmp (cd := .ge) (nx := 27) (r1 := 91) (r2 := 0) (r3 := 0) rfl (by omega) (by omega) (fun (q110 : (h 238 1) ≤ 3) => ?_) (fun (q110 : ¬ ((h 238 1) ≤ 3)) => ?_)
              ·
                refine wi_aload_n (i := 0) (x := 236) (nx := 92) (r1 := 0) (r2 := 0) (r3 := 0) rfl rfl ?_
                refine wi_ldc2_w (e := 16052) (nx := 95) (r1 := 16052) (r2 := 0) (r3 := 0) rfl (by decide) ?_
                refine wr_V (k0 := 236) (rest := []) (as := [.ref 236, vl 16052]) (nx := 98) (r1 := 347) (r2 := 1) (r3 := 11) rfl rfl rfl (of_decide_eq_true rfl) rfl rfl (by decide) rfl rfl (of_decide_eq_true rfl) (of_decide_eq_true rfl) ?_
                have e112 : h108 236 47 = e107 := w108
                refine ct_347_236 hcr  g108 16052 (by omega) (show (h108 236 47) ≤ 291 by omega) (fun h111 g111 u111 (p111_0 : (h111 236 47) ≤ (h108 236 47) + 8) => ?_)
                have F113 := F109.then (by decide +kernel) u111
                have b114 := gi_b (lo := 0) (hi := 300) g111 236 47 rfl
                refine wk_n ?_
                refine wi_iconst (n := 0) (nx := 99) (r1 := 0) (r2 := 0) (r3 := 0) rfl ?_
                refine wi_istore_n (i := 1) (e := 0) (lo2 := [(1, vi 0), (0, .ref 236), (2, vi x97)]) (nx := 100) (r1 := 0) (r2 := 0) (r3 := 0) rfl rfl ?_
                have e117 : h111 238 106 = h 238 106 := ((u111 238 106 rfl).trans ((u108 238 106 rfl).trans ((u105 238 106 (fn_a (by omega) fn_0)).trans ((u98 238 106 rfl).trans ((u95 238 106 rfl).trans ((u92 238 106 (fn_a (by omega) fn_0)).trans ((u89 238 106 rfl).trans ((u86 238 106 (fn_a (by omega) fn_0)).trans ((u81 238 106 rfl).trans ((u78 238 106 rfl).trans ((u75 238 106 (fn_a (by omega) fn_0)).trans ((u68 238 106 rfl).trans ((u65 238 106 rfl).trans ((u62 238 106 (fn_a (by omega) fn_0)).trans ((u59 238 106 rfl).trans ((u56 238 106 (fn_a (by omega) fn_0)).trans ((u51 238 106 rfl).trans ((u48 238 106 rfl).trans ((u45 238 106 (fn_a (by omega) fn_0)).trans ((u38 238 106 rfl).trans ((u35 238 106 rfl).trans ((u32 238 106 (fn_a (by omega) fn_0)).trans ((u29 238 106 rfl).trans ((u26 238 106 (fn_a (by omega) fn_0)).trans ((u21 238 106 rfl).trans ((u17 238 106 rfl).trans ((u15 238 106 rfl).trans (u13 238 106 rfl))))))))))))))))))))))))))))
                refine wp.lo (lo := [(0, .ref 236), (1, vi 0)]) ⟨rfl, rfl, trivial⟩ rfl ?_
                refine wl_1 (fun x115 h116 => GI h116 ∧ FR [(258, 258, none), (236, 236, some (0, 0)), (236, 236, some (47, 47)), (236, 236, some (48, 48))] h h116 ∧ FR [(258, 258, none), (236, 236, some (47, 47))] h111 h116 ∧ ((0 ≤ x115 ∧ x115 ≤ 12) ∧ ((h116 236 47) ≤ (h111 236 47) + 10 * x115) ∧ (x115 ≤ (h111 238 106)))) (fun x115 h116 => ((12 : Int) + 1 - x115).toNat) (fun x115 h116 => (100, [(0, .ref 236), (1, vi x115)], [], hp_w h116 cr, b, c)) ?_ 0 h111 ⟨g111, F113, FR.refl, (show (0 ≤ 0 ∧ 0 ≤ 12) ∧ ((h111 236 47) ≤ (h111 236 47) + 10 * 0) ∧ (0 ≤ (h111 238 106)) by omega)⟩
                intro x115 h116 ⟨g116, F118, u116, f116⟩ I116
                have b119 := gi_b (lo := 0) (hi := 300) g116 236 47 rfl
                refine wi_iload_n (i := 1) (e := x115) (nx := 101) (r1 := 0) (r2 := 0) (r3 := 0) rfl rfl ?_
                refine wi_aload_n (i := 0) (x := 236) (nx := 102) (r1 := 0) (r2 := 0) (r3 := 0) rfl rfl ?_
                refine wr_gr (k0 := 236) (x := 238) (nx := 105) (r1 := 11) (r2 := 13) (r3 := 0) rfl rfl (by decide) rfl ⟨rfl, rfl⟩ rfl ?_
                refine wi_bipush (n := 106) (nx := 107) (r1 := 0) (r2 := 0) (r3 := 0) rfl (by decide) ?_
                refine wr_ia (k0 := 238) (a := 106) (f := 106) (x := h 238 106) (nx := 108) (r1 := 0) (r2 := 0) (r3 := 0) rfl (by decide) rfl (by omega) (by omega) (by decide) ((u116 238 106 rfl).trans ((u111 238 106 rfl).trans ((u108 238 106 rfl).trans ((u105 238 106 (fn_a (by omega) fn_0)).trans ((u98 238 106 rfl).trans ((u95 238 106 rfl).trans ((u92 238 106 (fn_a (by omega) fn_0)).trans ((u89 238 106 rfl).trans ((u86 238 106 (fn_a (by omega) fn_0)).trans ((u81 238 106 rfl).trans ((u78 238 106 rfl).trans ((u75 238 106 (fn_a (by omega) fn_0)).trans ((u68 238 106 rfl).trans ((u65 238 106 rfl).trans ((u62 238 106 (fn_a (by omega) fn_0)).trans ((u59 238 106 rfl).trans ((u56 238 106 (fn_a (by omega) fn_0)).trans ((u51 238 106 rfl).trans ((u48 238 106 rfl).trans ((u45 238 106 (fn_a (by omega) fn_0)).trans ((u38 238 106 rfl).trans ((u35 238 106 rfl).trans ((u32 238 106 (fn_a (by omega) fn_0)).trans ((u29 238 106 rfl).trans ((u26 238 106 (fn_a (by omega) fn_0)).trans ((u21 238 106 rfl).trans ((u17 238 106 rfl).trans ((u15 238 106 rfl).trans (u13 238 106 rfl))))))))))))))))))))))))))))) ?_
                refine wi_icmp (cd := .ge) (nx := 111) (r1 := 130) (r2 := 0) (r3 := 0) rfl (by omega) (by omega) (fun (q120 : (h 238 106) ≤ x115) => ?_) (fun (q120 : ¬ ((h 238 106) ≤ x115)) => ?_)
                ·
                  refine wi_aload_n (i := 0) (x := 236) (nx := 131) (r1 := 0) (r2 := 0) (r3 := 0) rfl rfl ?_
                  refine wi_bipush (n := 10) (nx := 133) (r1 := 0) (r2 := 0) (r3 := 0) rfl (by decide) ?_
                  refine wr_V (k0 := 236) (rest := []) (as := [.ref 236, vi 10]) (nx := 136) (r1 := 348) (r2 := 1) (r3 := 11) rfl rfl rfl (of_decide_eq_true rfl) rfl rfl (by decide) rfl rfl (of_decide_eq_true rfl) (of_decide_eq_true rfl) ?_
                  refine wi_aload_n (i := 0) (x := 236) (nx := 1) (r1 := 0) (r2 := 0) (r3 := 0) rfl rfl ?_
                  refine wr_gr (k0 := 236) (x := 258) (nx := 4) (r1 := 11) (r2 := 46) (r3 := 0) rfl rfl (by decide) rfl ⟨rfl, rfl⟩ rfl ?_
                  refine wi_aload_n (i := 0) (x := 236) (nx := 5) (r1 := 0) (r2 := 0) (r3 := 0) rfl rfl ?_
                  refine wr_gi0 (k0 := 236) (x := h116 236 47) (nx := 8) (r1 := 11) (r2 := 47) (r3 := 0) rfl rfl (by decide) rfl ⟨rfl, rfl⟩ rfl rfl ?_
                  refine wi_iload_n (i := 1) (e := 10) (nx := 9) (r1 := 0) (r2 := 0) (r3 := 0) rfl rfl ?_
                  obtain ⟨i121, ei121⟩ : ∃ q : Nat, (h116 236 47) = (q : Int) := ⟨(h116 236 47).toNat, by omega⟩
                  refine wr_is (k0 := 258) (a := h116 236 47) (f := i121) (x := 10) (bl := -2147483648) (bh := 2147483647) (nx := 10) (r1 := 0) (r2 := 0) (r3 := 0) rfl (by decide) rfl (by omega) (by omega) (by decide) g116 rfl (by omega) (fun h122 g122 w122 u122 => ?_)
                  have F123 := F118.then rfl (FR.rngp (lo := 258) (hi := 258) u122 (by decide))
                  refine wi_aload_n (i := 0) (x := 236) (nx := 11) (r1 := 0) (r2 := 0) (r3 := 0) rfl rfl ?_
                  refine wi_dup (nx := 12) (r1 := 0) (r2 := 0) (r3 := 0) rfl rfl ?_
                  refine wr_gi0 (k0 := 236) (x := h116 236 47) (nx := 15) (r1 := 11) (r2 := 47) (r3 := 0) rfl rfl (by decide) rfl ⟨rfl, rfl⟩ rfl (u122 236 47 (fn_a (by omega) fn_0)) ?_
                  refine wi_iconst (n := 1) (nx := 16) (r1 := 0) (r2 := 0) (r3 := 0) rfl ?_
                  refine wr_add (nx := 17) (r1 := 0) (r2 := 0) (r3 := 0) rfl (fun e124 (fe124 : e124 = (h116 236 47) + 1) => ?_)
                  refine wr_pf0 (k0 := 236) (x := e124) (bl := 0) (bh := 300) (nx := 20) (r1 := 11) (r2 := 47) (r3 := 0) rfl (by decide) rfl ⟨rfl, rfl⟩ rfl rfl g122 rfl (by omega) (fun h125 g125 w125 u125 => ?_)
                  have F126 := F123.then rfl u125
                  refine wi_return (nx := 21) (r1 := 0) (r2 := 0) (r3 := 0) rfl rfl ?_
                  refine wk_n ?_
                  refine wi_aload_n (i := 0) (x := 236) (nx := 137) (r1 := 0) (r2 := 0) (r3 := 0) rfl rfl ?_
                  refine wr_gi0 (k0 := 236) (x := e124) (nx := 140) (r1 := 11) (r2 := 47) (r3 := 0) rfl rfl (by decide) rfl ⟨rfl, rfl⟩ rfl w125 ?_
                  refine wi_ireturn (nx := 141) (r1 := 0) (r2 := 0) (r3 := 0) rfl rfl ?_
                  exact k h125 e124 g125 F126 (by omega)
                ·
                  refine wi_aload_n (i := 0) (x := 236) (nx := 112) (r1 := 0) (r2 := 0) (r3 := 0) rfl rfl ?_
                  refine wi_aload_n (i := 0) (x := 236) (nx := 113) (r1 := 0) (r2 := 0) (r3 := 0) rfl rfl ?_
                  refine wr_gr (k0 := 236) (x := 238) (nx := 116) (r1 := 11) (r2 := 13) (r3 := 0) rfl rfl (by decide) rfl ⟨rfl, rfl⟩ rfl ?_
                  refine wi_bipush (n := 107) (nx := 118) (r1 := 0) (r2 := 0) (r3 := 0) rfl (by decide) ?_
                  refine wi_iload_n (i := 1) (e := x115) (nx := 119) (r1 := 0) (r2 := 0) (r3 := 0) rfl rfl ?_
                  refine wr_add (nx := 120) (r1 := 0) (r2 := 0) (r3 := 0) rfl (fun e121 (fe121 : e121 = 107 + x115) => ?_)
                  obtain ⟨i122, ei122⟩ : ∃ q : Nat, e121 = (q : Int) := ⟨(e121).toNat, by omega⟩
                  have b123 := gi_b (lo := 0) (hi := 11) g 238 i122 (gi_rg 107 12 (fun _ => rfl) (by decide +kernel) (by omega))
                  refine wr_ia (k0 := 238) (a := e121) (f := i122) (x := h 238 i122) (nx := 121) (r1 := 0) (r2 := 0) (r3 := 0) rfl (by decide) rfl (by omega) (by omega) (by decide) ((u116 238 i122 (fn_a (by decide) (fn_a (by decide) fn_0))).trans ((u111 238 i122 (fn_a (by decide) (fn_a (by decide) fn_0))).trans ((u108 238 i122 (fn_a (by omega) fn_0)).trans ((u105 238 i122 (fn_a (by omega) fn_0)).trans ((u98 238 i122 (fn_a (by decide) (fn_a (by decide) fn_0))).trans ((u95 238 i122 (fn_a (by omega) fn_0)).trans ((u92 238 i122 (fn_a (by omega) fn_0)).trans ((u89 238 i122 (fn_a (by omega) fn_0)).trans ((u86 238 i122 (fn_a (by omega) fn_0)).trans ((u81 238 i122 (fn_a (by decide) (fn_a (by decide) fn_0))).trans ((u78 238 i122 (fn_a (by omega) fn_0)).trans ((u75 238 i122 (fn_a (by omega) fn_0)).trans ((u68 238 i122 (fn_a (by decide) (fn_a (by decide) fn_0))).trans ((u65 238 i122 (fn_a (by omega) fn_0)).trans ((u62 238 i122 (fn_a (by omega) fn_0)).trans ((u59 238 i122 (fn_a (by omega) fn_0)).trans ((u56 238 i122 (fn_a (by omega) fn_0)).trans ((u51 238 i122 (fn_a (by decide) (fn_a (by decide) fn_0))).trans ((u48 238 i122 (fn_a (by omega) fn_0)).trans ((u45 238 i122 (fn_a (by omega) fn_0)).trans ((u38 238 i122 (fn_a (by decide) (fn_a (by decide) fn_0))).trans ((u35 238 i122 (fn_a (by omega) fn_0)).trans ((u32 238 i122 (fn_a (by omega) fn_0)).trans ((u29 238 i122 (fn_a (by omega) fn_0)).trans ((u26 238 i122 (fn_a (by omega) fn_0)).trans ((u21 238 i122 (fn_a (by decide) (fn_a (by decide) fn_0))).trans ((u17 238 i122 (fn_a (by omega) fn_0)).trans ((u15 238 i122 (fn_a (by omega) fn_0)).trans (u13 238 i122 (fn_a (by omega) fn_0)))))))))))))))))))))))))))))) ?_
                  refine wr_V (k0 := 236) (rest := []) (as := [.ref 236, vi (h 238 i122)]) (nx := 124) (r1 := 349) (r2 := 1) (r3 := 11) rfl rfl rfl (of_decide_eq_true rfl) rfl rfl (by decide) rfl rfl (of_decide_eq_true rfl) (of_decide_eq_true rfl) ?_
                  refine ct_349_236 hcr  g116 (h 238 i122) (by omega) (show (h116 236 47) ≤ 289 by omega) (fun h124 g124 u124 (p124_0 : (h124 236 47) ≤ (h116 236 47) + 10) => ?_)
                  have F125 := F118.then (by decide +kernel) u124
                  have F126 := u116.then (by decide +kernel) u124
                  have b127 := gi_b (lo := 0) (hi := 300) g124 236 47 rfl
                  refine wk_n ?_
                  refine wr_iinc (i := 1) (n := 1) (v := x115) (fun e128 => [(1, vi e128), (0, .ref 236)]) (nx := 127) (r1 := 0) (r2 := 0) (r3 := 0) rfl rfl (fun _ => rfl) (fun e128 (fe128 : e128 = x115 + 1) => ?_)
                  refine wi_goto (nx := 130) (r1 := 100) (r2 := 0) (r3 := 0) rfl ?_
                  refine wp.lo (lo := [(0, .ref 236), (1, vi e128)]) ⟨rfl, rfl, trivial⟩ rfl ?_
                  exact I116 e128 h124 ⟨g124, F125, F126, (show (0 ≤ e128 ∧ e128 ≤ 12) ∧ ((h124 236 47) ≤ (h111 236 47) + 10 * e128) ∧ (e128 ≤ (h111 238 106)) by omega)⟩ (show ((12 : Int) + 1 - e128).toNat < ((12 : Int) + 1 - x115).toNat by omega)
              ·
                refine wi_aload_n (i := 0) (x := 236) (nx := 28) (r1 := 0) (r2 := 0) (r3 := 0) rfl rfl ?_
                refine wi_ldc2_w (e := 394693) (nx := 31) (r1 := 394693) (r2 := 0) (r3 := 0) rfl (by decide) ?_
                refine wr_V (k0 := 236) (rest := []) (as := [.ref 236, vl 394693]) (nx := 34) (r1 := 347) (r2 := 1) (r3 := 11) rfl rfl rfl (of_decide_eq_true rfl) rfl rfl (by decide) rfl rfl (of_decide_eq_true rfl) (of_decide_eq_true rfl) ?_
                have e112 : h108 236 47 = e107 := w108
                refine ct_347_236 hcr  g108 394693 (by omega) (show (h108 236 47) ≤ 291 by omega) (fun h111 g111 u111 (p111_0 : (h111 236 47) ≤ (h108 236 47) + 8) => ?_)
                have F113 := F109.then (by decide +kernel) u111
                have b114 := gi_b (lo := 0) (hi := 300) g111 236 47 rfl
                refine wk_n ?_
                refine wi_aload_n (i := 0) (x := 236) (nx := 35) (r1 := 0) (r2 := 0) (r3 := 0) rfl rfl ?_
                refine wi_bipush (n := 32) (nx := 37) (r1 := 0) (r2 := 0) (r3 := 0) rfl (by decide) ?_
                refine wr_V (k0 := 236) (rest := []) (as := [.ref 236, vi 32]) (nx := 40) (r1 := 348) (r2 := 1) (r3 := 11) rfl rfl rfl (of_decide_eq_true rfl) rfl rfl (by decide) rfl rfl (of_decide_eq_true rfl) (of_decide_eq_true rfl) ?_
                refine wi_aload_n (i := 0) (x := 236) (nx := 1) (r1 := 0) (r2 := 0) (r3 := 0) rfl rfl ?_
                refine wr_gr (k0 := 236) (x := 258) (nx := 4) (r1 := 11) (r2 := 46) (r3 := 0) rfl rfl (by decide) rfl ⟨rfl, rfl⟩ rfl ?_
                refine wi_aload_n (i := 0) (x := 236) (nx := 5) (r1 := 0) (r2 := 0) (r3 := 0) rfl rfl ?_
                refine wr_gi0 (k0 := 236) (x := h111 236 47) (nx := 8) (r1 := 11) (r2 := 47) (r3 := 0) rfl rfl (by decide) rfl ⟨rfl, rfl⟩ rfl rfl ?_
                refine wi_iload_n (i := 1) (e := 32) (nx := 9) (r1 := 0) (r2 := 0) (r3 := 0) rfl rfl ?_
                obtain ⟨i115, ei115⟩ : ∃ q : Nat, (h111 236 47) = (q : Int) := ⟨(h111 236 47).toNat, by omega⟩
                refine wr_is (k0 := 258) (a := h111 236 47) (f := i115) (x := 32) (bl := -2147483648) (bh := 2147483647) (nx := 10) (r1 := 0) (r2 := 0) (r3 := 0) rfl (by decide) rfl (by omega) (by omega) (by decide) g111 rfl (by omega) (fun h116 g116 w116 u116 => ?_)
                have F117 := F113.then rfl (FR.rngp (lo := 258) (hi := 258) u116 (by decide))
                refine wi_aload_n (i := 0) (x := 236) (nx := 11) (r1 := 0) (r2 := 0) (r3 := 0) rfl rfl ?_
                refine wi_dup (nx := 12) (r1 := 0) (r2 := 0) (r3 := 0) rfl rfl ?_
                refine wr_gi0 (k0 := 236) (x := h111 236 47) (nx := 15) (r1 := 11) (r2 := 47) (r3 := 0) rfl rfl (by decide) rfl ⟨rfl, rfl⟩ rfl (u116 236 47 (fn_a (by omega) fn_0)) ?_
                refine wi_iconst (n := 1) (nx := 16) (r1 := 0) (r2 := 0) (r3 := 0) rfl ?_
                refine wr_add (nx := 17) (r1 := 0) (r2 := 0) (r3 := 0) rfl (fun e118 (fe118 : e118 = (h111 236 47) + 1) => ?_)
                refine wr_pf0 (k0 := 236) (x := e118) (bl := 0) (bh := 300) (nx := 20) (r1 := 11) (r2 := 47) (r3 := 0) rfl (by decide) rfl ⟨rfl, rfl⟩ rfl rfl g116 rfl (by omega) (fun h119 g119 w119 u119 => ?_)
                have F120 := F117.then rfl u119
                refine wi_return (nx := 21) (r1 := 0) (r2 := 0) (r3 := 0) rfl rfl ?_
                refine wk_n ?_
                refine wi_aload_n (i := 0) (x := 236) (nx := 41) (r1 := 0) (r2 := 0) (r3 := 0) rfl rfl ?_
                refine wi_bipush (n := 48) (nx := 43) (r1 := 0) (r2 := 0) (r3 := 0) rfl (by decide) ?_
                refine wi_iload_n (i := 1) (e := 3) (nx := 44) (r1 := 0) (r2 := 0) (r3 := 0) rfl rfl ?_
                refine wr_addL (51) (nx := 45) (r1 := 0) (r2 := 0) (r3 := 0) rfl (by decide) ?_
                refine wr_V (k0 := 236) (rest := []) (as := [.ref 236, vi 51]) (nx := 48) (r1 := 348) (r2 := 1) (r3 := 11) rfl rfl rfl (of_decide_eq_true rfl) rfl rfl (by decide) rfl rfl (of_decide_eq_true rfl) (of_decide_eq_true rfl) ?_
                refine wi_aload_n (i := 0) (x := 236) (nx := 1) (r1 := 0) (r2 := 0) (r3 := 0) rfl rfl ?_
                refine wr_gr (k0 := 236) (x := 258) (nx := 4) (r1 := 11) (r2 := 46) (r3 := 0) rfl rfl (by decide) rfl ⟨rfl, rfl⟩ rfl ?_
                refine wi_aload_n (i := 0) (x := 236) (nx := 5) (r1 := 0) (r2 := 0) (r3 := 0) rfl rfl ?_
                refine wr_gi0 (k0 := 236) (x := e118) (nx := 8) (r1 := 11) (r2 := 47) (r3 := 0) rfl rfl (by decide) rfl ⟨rfl, rfl⟩ rfl w119 ?_
                refine wi_iload_n (i := 1) (e := 51) (nx := 9) (r1 := 0) (r2 := 0) (r3 := 0) rfl rfl ?_
                obtain ⟨i121, ei121⟩ : ∃ q : Nat, e118 = (q : Int) := ⟨(e118).toNat, by omega⟩
                refine wr_is (k0 := 258) (a := e118) (f := i121) (x := 51) (bl := -2147483648) (bh := 2147483647) (nx := 10) (r1 := 0) (r2 := 0) (r3 := 0) rfl (by decide) rfl (by omega) (by omega) (by decide) g119 rfl (by omega) (fun h122 g122 w122 u122 => ?_)
                have F123 := F120.then rfl (FR.rngp (lo := 258) (hi := 258) u122 (by decide))
                refine wi_aload_n (i := 0) (x := 236) (nx := 11) (r1 := 0) (r2 := 0) (r3 := 0) rfl rfl ?_
                refine wi_dup (nx := 12) (r1 := 0) (r2 := 0) (r3 := 0) rfl rfl ?_
                refine wr_gi0 (k0 := 236) (x := e118) (nx := 15) (r1 := 11) (r2 := 47) (r3 := 0) rfl rfl (by decide) rfl ⟨rfl, rfl⟩ rfl ((u122 236 47 (fn_a (by omega) fn_0)).trans w119) ?_
                refine wi_iconst (n := 1) (nx := 16) (r1 := 0) (r2 := 0) (r3 := 0) rfl ?_
                refine wr_add (nx := 17) (r1 := 0) (r2 := 0) (r3 := 0) rfl (fun e124 (fe124 : e124 = e118 + 1) => ?_)
                refine wr_pf0 (k0 := 236) (x := e124) (bl := 0) (bh := 300) (nx := 20) (r1 := 11) (r2 := 47) (r3 := 0) rfl (by decide) rfl ⟨rfl, rfl⟩ rfl rfl g122 rfl (by omega) (fun h125 g125 w125 u125 => ?_)
                have F126 := F123.then rfl u125
                refine wi_return (nx := 21) (r1 := 0) (r2 := 0) (r3 := 0) rfl rfl ?_
                refine wk_n ?_
                refine wi_iconst (n := 0) (nx := 49) (r1 := 0) (r2 := 0) (r3 := 0) rfl ?_
                refine wi_istore_n (i := 2) (e := 0) (lo2 := [(2, vi 0), (1, vi 3), (0, .ref 236)]) (nx := 50) (r1 := 0) (r2 := 0) (r3 := 0) rfl rfl ?_
                have e129 : h125 236 47 = e124 := w125
                have e130 : h125 238 101 = h 238 101 := ((u125 238 101 rfl).trans ((u122 238 101 (fn_a (by omega) fn_0)).trans ((u119 238 101 rfl).trans ((u116 238 101 (fn_a (by omega) fn_0)).trans ((u111 238 101 rfl).trans ((u108 238 101 rfl).trans ((u105 238 101 (fn_a (by omega) fn_0)).trans ((u98 238 101 rfl).trans ((u95 238 101 rfl).trans ((u92 238 101 (fn_a (by omega) fn_0)).trans ((u89 238 101 rfl).trans ((u86 238 101 (fn_a (by omega) fn_0)).trans ((u81 238 101 rfl).trans ((u78 238 101 rfl).trans ((u75 238 101 (fn_a (by omega) fn_0)).trans ((u68 238 101 rfl).trans ((u65 238 101 rfl).trans ((u62 238 101 (fn_a (by omega) fn_0)).trans ((u59 238 101 rfl).trans ((u56 238 101 (fn_a (by omega) fn_0)).trans ((u51 238 101 rfl).trans ((u48 238 101 rfl).trans ((u45 238 101 (fn_a (by omega) fn_0)).trans ((u38 238 101 rfl).trans ((u35 238 101 rfl).trans ((u32 238 101 (fn_a (by omega) fn_0)).trans ((u29 238 101 rfl).trans ((u26 238 101 (fn_a (by omega) fn_0)).trans ((u21 238 101 rfl).trans ((u17 238 101 rfl).trans ((u15 238 101 rfl).trans (u13 238 101 rfl))))))))))))))))))))))))))))))))
                refine wp.lo (lo := [(0, .ref 236), (1, vi 3), (2, vi 0)]) ⟨rfl, rfl, rfl, trivial⟩ rfl ?_
                refine wl_1 (fun x127 h128 => GI h128 ∧ FR [(258, 258, none), (236, 236, some (0, 0)), (236, 236, some (47, 47)), (236, 236, some (48, 48))] h h128 ∧ FR [(258, 258, none), (236, 236, some (47, 47))] h125 h128 ∧ ((0 ≤ x127 ∧ x127 ≤ 6) ∧ ((h128 236 47) ≤ (h125 236 47) + 10 * x127) ∧ (x127 ≤ (h125 238 101)))) (fun x127 h128 => ((6 : Int) + 1 - x127).toNat) (fun x127 h128 => (50, [(0, .ref 236), (1, vi 3), (2, vi x127)], [], hp_w h128 cr, b, c)) ?_ 0 h125 ⟨g125, F126, FR.refl, (show (0 ≤ 0 ∧ 0 ≤ 6) ∧ ((h125 236 47) ≤ (h125 236 47) + 10 * 0) ∧ (0 ≤ (h125 238 101)) by omega)⟩
                intro x127 h128 ⟨g128, F131, u128, f128⟩ I128
                have b132 := gi_b (lo := 0) (hi := 300) g128 236 47 rfl
                refine wi_iload_n (i := 2) (e := x127) (nx := 51) (r1 := 0) (r2 := 0) (r3 := 0) rfl rfl ?_
                refine wi_aload_n (i := 0) (x := 236) (nx := 52) (r1 := 0) (r2 := 0) (r3 := 0) rfl rfl ?_
                refine wr_gr (k0 := 236) (x := 238) (nx := 55) (r1 := 11) (r2 := 13) (r3 := 0) rfl rfl (by decide) rfl ⟨rfl, rfl⟩ rfl ?_
                refine wi_bipush (n := 98) (nx := 57) (r1 := 0) (r2 := 0) (r3 := 0) rfl (by decide) ?_
                refine wi_iload_n (i := 1) (e := 3) (nx := 58) (r1 := 0) (r2 := 0) (r3 := 0) rfl rfl ?_
                refine wr_addL (101) (nx := 59) (r1 := 0) (r2 := 0) (r3 := 0) rfl (by decide) ?_
                refine wr_ia (k0 := 238) (a := 101) (f := 101) (x := h 238 101) (nx := 60) (r1 := 0) (r2 := 0) (r3 := 0) rfl (by decide) rfl (by omega) (by omega) (by decide) ((u128 238 101 rfl).trans ((u125 238 101 rfl).trans ((u122 238 101 (fn_a (by omega) fn_0)).trans ((u119 238 101 rfl).trans ((u116 238 101 (fn_a (by omega) fn_0)).trans ((u111 238 101 rfl).trans ((u108 238 101 rfl).trans ((u105 238 101 (fn_a (by omega) fn_0)).trans ((u98 238 101 rfl).trans ((u95 238 101 rfl).trans ((u92 238 101 (fn_a (by omega) fn_0)).trans ((u89 238 101 rfl).trans ((u86 238 101 (fn_a (by omega) fn_0)).trans ((u81 238 101 rfl).trans ((u78 238 101 rfl).trans ((u75 238 101 (fn_a (by omega) fn_0)).trans ((u68 238 101 rfl).trans ((u65 238 101 rfl).trans ((u62 238 101 (fn_a (by omega) fn_0)).trans ((u59 238 101 rfl).trans ((u56 238 101 (fn_a (by omega) fn_0)).trans ((u51 238 101 rfl).trans ((u48 238 101 rfl).trans ((u45 238 101 (fn_a (by omega) fn_0)).trans ((u38 238 101 rfl).trans ((u35 238 101 rfl).trans ((u32 238 101 (fn_a (by omega) fn_0)).trans ((u29 238 101 rfl).trans ((u26 238 101 (fn_a (by omega) fn_0)).trans ((u21 238 101 rfl).trans ((u17 238 101 rfl).trans ((u15 238 101 rfl).trans (u13 238 101 rfl))))))))))))))))))))))))))))))))) ?_
                refine wi_icmp (cd := .ge) (nx := 63) (r1 := 79) (r2 := 0) (r3 := 0) rfl (by omega) (by omega) (fun (q133 : (h 238 101) ≤ x127) => ?_) (fun (q133 : ¬ ((h 238 101) ≤ x127)) => ?_)
                ·
                  refine wi_aload_n (i := 0) (x := 236) (nx := 80) (r1 := 0) (r2 := 0) (r3 := 0) rfl rfl ?_
                  refine wi_bipush (n := 10) (nx := 82) (r1 := 0) (r2 := 0) (r3 := 0) rfl (by decide) ?_
                  refine wr_V (k0 := 236) (rest := []) (as := [.ref 236, vi 10]) (nx := 85) (r1 := 348) (r2 := 1) (r3 := 11) rfl rfl rfl (of_decide_eq_true rfl) rfl rfl (by decide) rfl rfl (of_decide_eq_true rfl) (of_decide_eq_true rfl) ?_
                  refine wi_aload_n (i := 0) (x := 236) (nx := 1) (r1 := 0) (r2 := 0) (r3 := 0) rfl rfl ?_
                  refine wr_gr (k0 := 236) (x := 258) (nx := 4) (r1 := 11) (r2 := 46) (r3 := 0) rfl rfl (by decide) rfl ⟨rfl, rfl⟩ rfl ?_
                  refine wi_aload_n (i := 0) (x := 236) (nx := 5) (r1 := 0) (r2 := 0) (r3 := 0) rfl rfl ?_
                  refine wr_gi0 (k0 := 236) (x := h128 236 47) (nx := 8) (r1 := 11) (r2 := 47) (r3 := 0) rfl rfl (by decide) rfl ⟨rfl, rfl⟩ rfl rfl ?_
                  refine wi_iload_n (i := 1) (e := 10) (nx := 9) (r1 := 0) (r2 := 0) (r3 := 0) rfl rfl ?_
                  obtain ⟨i134, ei134⟩ : ∃ q : Nat, (h128 236 47) = (q : Int) := ⟨(h128 236 47).toNat, by omega⟩
                  refine wr_is (k0 := 258) (a := h128 236 47) (f := i134) (x := 10) (bl := -2147483648) (bh := 2147483647) (nx := 10) (r1 := 0) (r2 := 0) (r3 := 0) rfl (by decide) rfl (by omega) (by omega) (by decide) g128 rfl (by omega) (fun h135 g135 w135 u135 => ?_)
                  have F136 := F131.then rfl (FR.rngp (lo := 258) (hi := 258) u135 (by decide))
                  refine wi_aload_n (i := 0) (x := 236) (nx := 11) (r1 := 0) (r2 := 0) (r3 := 0) rfl rfl ?_
                  refine wi_dup (nx := 12) (r1 := 0) (r2 := 0) (r3 := 0) rfl rfl ?_
                  refine wr_gi0 (k0 := 236) (x := h128 236 47) (nx := 15) (r1 := 11) (r2 := 47) (r3 := 0) rfl rfl (by decide) rfl ⟨rfl, rfl⟩ rfl (u135 236 47 (fn_a (by omega) fn_0)) ?_
                  refine wi_iconst (n := 1) (nx := 16) (r1 := 0) (r2 := 0) (r3 := 0) rfl ?_
                  refine wr_add (nx := 17) (r1 := 0) (r2 := 0) (r3 := 0) rfl (fun e137 (fe137 : e137 = (h128 236 47) + 1) => ?_)
                  refine wr_pf0 (k0 := 236) (x := e137) (bl := 0) (bh := 300) (nx := 20) (r1 := 11) (r2 := 47) (r3 := 0) rfl (by decide) rfl ⟨rfl, rfl⟩ rfl rfl g135 rfl (by omega) (fun h138 g138 w138 u138 => ?_)
                  have F139 := F136.then rfl u138
                  refine wi_return (nx := 21) (r1 := 0) (r2 := 0) (r3 := 0) rfl rfl ?_
                  refine wk_n ?_
                  refine wr_iincL (i := 1) (n := 1) (v := 3) (4) ([(1, vi 4), (0, .ref 236), (2, vi x127)]) (nx := 88) (r1 := 0) (r2 := 0) (r3 := 0) rfl rfl (by decide) rfl ?_
                  refine wi_goto (nx := 91) (r1 := 17) (r2 := 0) (r3 := 0) rfl ?_
                  refine wi_iload_n (i := 1) (e := 4) (nx := 18) (r1 := 0) (r2 := 0) (r3 := 0) rfl rfl ?_
                  refine wi_aload_n (i := 0) (x := 236) (nx := 19) (r1 := 0) (r2 := 0) (r3 := 0) rfl rfl ?_
                  refine wr_gr (k0 := 236) (x := 238) (nx := 22) (r1 := 11) (r2 := 13) (r3 := 0) rfl rfl (by decide) rfl ⟨rfl, rfl⟩ rfl ?_
                  refine wi_iconst (n := 1) (nx := 23) (r1 := 0) (r2 := 0) (r3 := 0) rfl ?_
                  refine wr_ia (k0 := 238) (a := 1) (f := 1) (x := h 238 1) (nx := 24) (r1 := 0) (r2 := 0) (r3 := 0) rfl (by decide) rfl (by omega) (by omega) (by decide) ((u138 238 1 rfl).trans ((u135 238 1 (fn_a (by omega) fn_0)).trans ((u128 238 1 rfl).trans ((u125 238 1 rfl).trans ((u122 238 1 (fn_a (by omega) fn_0)).trans ((u119 238 1 rfl).trans ((u116 238 1 (fn_a (by omega) fn_0)).trans ((u111 238 1 rfl).trans ((u108 238 1 rfl).trans ((u105 238 1 (fn_a (by omega) fn_0)).trans ((u98 238 1 rfl).trans ((u95 238 1 rfl).trans ((u92 238 1 (fn_a (by omega) fn_0)).trans ((u89 238 1 rfl).trans ((u86 238 1 (fn_a (by omega) fn_0)).trans ((u81 238 1 rfl).trans ((u78 238 1 rfl).trans ((u75 238 1 (fn_a (by omega) fn_0)).trans ((u68 238 1 rfl).trans ((u65 238 1 rfl).trans ((u62 238 1 (fn_a (by omega) fn_0)).trans ((u59 238 1 rfl).trans ((u56 238 1 (fn_a (by omega) fn_0)).trans ((u51 238 1 rfl).trans ((u48 238 1 rfl).trans ((u45 238 1 (fn_a (by omega) fn_0)).trans ((u38 238 1 rfl).trans ((u35 238 1 rfl).trans ((u32 238 1 (fn_a (by omega) fn_0)).trans ((u29 238 1 rfl).trans ((u26 238 1 (fn_a (by omega) fn_0)).trans ((u21 238 1 rfl).trans ((u17 238 1 rfl).trans ((u15 238 1 rfl).trans (u13 238 1 rfl))))))))))))))))))))))))))))))))))) ?_
                  refine wi_icmp (cd := .ge) (nx := 27) (r1 := 91) (r2 := 0) (r3 := 0) rfl (by omega) (by omega) (fun (q140 : (h 238 1) ≤ 4) => ?_) (fun (q140 : ¬ ((h 238 1) ≤ 4)) => by exfalso; omega)
                  refine wi_aload_n (i := 0) (x := 236) (nx := 92) (r1 := 0) (r2 := 0) (r3 := 0) rfl rfl ?_
                  refine wi_ldc2_w (e := 16052) (nx := 95) (r1 := 16052) (r2 := 0) (r3 := 0) rfl (by decide) ?_
                  refine wr_V (k0 := 236) (rest := []) (as := [.ref 236, vl 16052]) (nx := 98) (r1 := 347) (r2 := 1) (r3 := 11) rfl rfl rfl (of_decide_eq_true rfl) rfl rfl (by decide) rfl rfl (of_decide_eq_true rfl) (of_decide_eq_true rfl) ?_
                  have e142 : h138 236 47 = e137 := w138
                  refine ct_347_236 hcr  g138 16052 (by omega) (show (h138 236 47) ≤ 291 by omega) (fun h141 g141 u141 (p141_0 : (h141 236 47) ≤ (h138 236 47) + 8) => ?_)
                  have F143 := F139.then (by decide +kernel) u141
                  have b144 := gi_b (lo := 0) (hi := 300) g141 236 47 rfl
                  refine wk_n ?_
                  refine wi_iconst (n := 0) (nx := 99) (r1 := 0) (r2 := 0) (r3 := 0) rfl ?_
                  refine wi_istore_n (i := 1) (e := 0) (lo2 := [(1, vi 0), (0, .ref 236), (2, vi x127)]) (nx := 100) (r1 := 0) (r2 := 0) (r3 := 0) rfl rfl ?_
                  have e147 : h141 238 106 = h 238 106 := ((u141 238 106 rfl).trans ((u138 238 106 rfl).trans ((u135 238 106 (fn_a (by omega) fn_0)).trans ((u128 238 106 rfl).trans ((u125 238 106 rfl).trans ((u122 238 106 (fn_a (by omega) fn_0)).trans ((u119 238 106 rfl).trans ((u116 238 106 (fn_a (by omega) fn_0)).trans ((u111 238 106 rfl).trans ((u108 238 106 rfl).trans ((u105 238 106 (fn_a (by omega) fn_0)).trans ((u98 238 106 rfl).trans ((u95 238 106 rfl).trans ((u92 238 106 (fn_a (by omega) fn_0)).trans ((u89 238 106 rfl).trans ((u86 238 106 (fn_a (by omega) fn_0)).trans ((u81 238 106 rfl).trans ((u78 238 106 rfl).trans ((u75 238 106 (fn_a (by omega) fn_0)).trans ((u68 238 106 rfl).trans ((u65 238 106 rfl).trans ((u62 238 106 (fn_a (by omega) fn_0)).trans ((u59 238 106 rfl).trans ((u56 238 106 (fn_a (by omega) fn_0)).trans ((u51 238 106 rfl).trans ((u48 238 106 rfl).trans ((u45 238 106 (fn_a (by omega) fn_0)).trans ((u38 238 106 rfl).trans ((u35 238 106 rfl).trans ((u32 238 106 (fn_a (by omega) fn_0)).trans ((u29 238 106 rfl).trans ((u26 238 106 (fn_a (by omega) fn_0)).trans ((u21 238 106 rfl).trans ((u17 238 106 rfl).trans ((u15 238 106 rfl).trans (u13 238 106 rfl))))))))))))))))))))))))))))))))))))
                  refine wp.lo (lo := [(0, .ref 236), (1, vi 0)]) ⟨rfl, rfl, trivial⟩ rfl ?_
                  refine wl_1 (fun x145 h146 => GI h146 ∧ FR [(258, 258, none), (236, 236, some (0, 0)), (236, 236, some (47, 47)), (236, 236, some (48, 48))] h h146 ∧ FR [(258, 258, none), (236, 236, some (47, 47))] h141 h146 ∧ ((0 ≤ x145 ∧ x145 ≤ 12) ∧ ((h146 236 47) ≤ (h141 236 47) + 10 * x145) ∧ (x145 ≤ (h141 238 106)))) (fun x145 h146 => ((12 : Int) + 1 - x145).toNat) (fun x145 h146 => (100, [(0, .ref 236), (1, vi x145)], [], hp_w h146 cr, b, c)) ?_ 0 h141 ⟨g141, F143, FR.refl, (show (0 ≤ 0 ∧ 0 ≤ 12) ∧ ((h141 236 47) ≤ (h141 236 47) + 10 * 0) ∧ (0 ≤ (h141 238 106)) by omega)⟩
                  intro x145 h146 ⟨g146, F148, u146, f146⟩ I146
                  have b149 := gi_b (lo := 0) (hi := 300) g146 236 47 rfl
                  refine wi_iload_n (i := 1) (e := x145) (nx := 101) (r1 := 0) (r2 := 0) (r3 := 0) rfl rfl ?_
                  refine wi_aload_n (i := 0) (x := 236) (nx := 102) (r1 := 0) (r2 := 0) (r3 := 0) rfl rfl ?_
                  refine wr_gr (k0 := 236) (x := 238) (nx := 105) (r1 := 11) (r2 := 13) (r3 := 0) rfl rfl (by decide) rfl ⟨rfl, rfl⟩ rfl ?_
                  refine wi_bipush (n := 106) (nx := 107) (r1 := 0) (r2 := 0) (r3 := 0) rfl (by decide) ?_
                  refine wr_ia (k0 := 238) (a := 106) (f := 106) (x := h 238 106) (nx := 108) (r1 := 0) (r2 := 0) (r3 := 0) rfl (by decide) rfl (by omega) (by omega) (by decide) ((u146 238 106 rfl).trans ((u141 238 106 rfl).trans ((u138 238 106 rfl).trans ((u135 238 106 (fn_a (by omega) fn_0)).trans ((u128 238 106 rfl).trans ((u125 238 106 rfl).trans ((u122 238 106 (fn_a (by omega) fn_0)).trans ((u119 238 106 rfl).trans ((u116 238 106 (fn_a (by omega) fn_0)).trans ((u111 238 106 rfl).trans ((u108 238 106 rfl).trans ((u105 238 106 (fn_a (by omega) fn_0)).trans ((u98 238 106 rfl).trans ((u95 238 106 rfl).trans ((u92 238 106 (fn_a (by omega) fn_0)).trans ((u89 238 106 rfl).trans ((u86 238 106 (fn_a (by omega) fn_0)).trans ((u81 238 106 rfl).trans ((u78 238 106 rfl).trans ((u75 238 106 (fn_a (by omega) fn_0)).trans ((u68 238 106 rfl).trans ((u65 238 106 rfl).trans ((u62 238 106 (fn_a (by omega) fn_0)).trans ((u59 238 106 rfl).trans ((u56 238 106 (fn_a (by omega) fn_0)).trans ((u51 238 106 rfl).trans ((u48 238 106 rfl).trans ((u45 238 106 (fn_a (by omega) fn_0)).trans ((u38 238 106 rfl).trans ((u35 238 106 rfl).trans ((u32 238 106 (fn_a (by omega) fn_0)).trans ((u29 238 106 rfl).trans ((u26 238 106 (fn_a (by omega) fn_0)).trans ((u21 238 106 rfl).trans ((u17 238 106 rfl).trans ((u15 238 106 rfl).trans (u13 238 106 rfl))))))))))))))))))))))))))))))))))))) ?_
                  refine wi_icmp (cd := .ge) (nx := 111) (r1 := 130) (r2 := 0) (r3 := 0) rfl (by omega) (by omega) (fun (q150 : (h 238 106) ≤ x145) => ?_) (fun (q150 : ¬ ((h 238 106) ≤ x145)) => ?_)
                  ·
                    refine wi_aload_n (i := 0) (x := 236) (nx := 131) (r1 := 0) (r2 := 0) (r3 := 0) rfl rfl ?_
                    refine wi_bipush (n := 10) (nx := 133) (r1 := 0) (r2 := 0) (r3 := 0) rfl (by decide) ?_
                    refine wr_V (k0 := 236) (rest := []) (as := [.ref 236, vi 10]) (nx := 136) (r1 := 348) (r2 := 1) (r3 := 11) rfl rfl rfl (of_decide_eq_true rfl) rfl rfl (by decide) rfl rfl (of_decide_eq_true rfl) (of_decide_eq_true rfl) ?_
                    refine wi_aload_n (i := 0) (x := 236) (nx := 1) (r1 := 0) (r2 := 0) (r3 := 0) rfl rfl ?_
                    refine wr_gr (k0 := 236) (x := 258) (nx := 4) (r1 := 11) (r2 := 46) (r3 := 0) rfl rfl (by decide) rfl ⟨rfl, rfl⟩ rfl ?_
                    refine wi_aload_n (i := 0) (x := 236) (nx := 5) (r1 := 0) (r2 := 0) (r3 := 0) rfl rfl ?_
                    refine wr_gi0 (k0 := 236) (x := h146 236 47) (nx := 8) (r1 := 11) (r2 := 47) (r3 := 0) rfl rfl (by decide) rfl ⟨rfl, rfl⟩ rfl rfl ?_
                    refine wi_iload_n (i := 1) (e := 10) (nx := 9) (r1 := 0) (r2 := 0) (r3 := 0) rfl rfl ?_
                    obtain ⟨i151, ei151⟩ : ∃ q : Nat, (h146 236 47) = (q : Int) := ⟨(h146 236 47).toNat, by omega⟩
                    refine wr_is (k0 := 258) (a := h146 236 47) (f := i151) (x := 10) (bl := -2147483648) (bh := 2147483647) (nx := 10) (r1 := 0) (r2 := 0) (r3 := 0) rfl (by decide) rfl (by omega) (by omega) (by decide) g146 rfl (by omega) (fun h152 g152 w152 u152 => ?_)
                    have F153 := F148.then rfl (FR.rngp (lo := 258) (hi := 258) u152 (by decide))
                    refine wi_aload_n (i := 0) (x := 236) (nx := 11) (r1 := 0) (r2 := 0) (r3 := 0) rfl rfl ?_
                    refine wi_dup (nx := 12) (r1 := 0) (r2 := 0) (r3 := 0) rfl rfl ?_
                    refine wr_gi0 (k0 := 236) (x := h146 236 47) (nx := 15) (r1 := 11) (r2 := 47) (r3 := 0) rfl rfl (by decide) rfl ⟨rfl, rfl⟩ rfl (u152 236 47 (fn_a (by omega) fn_0)) ?_
                    refine wi_iconst (n := 1) (nx := 16) (r1 := 0) (r2 := 0) (r3 := 0) rfl ?_
                    refine wr_add (nx := 17) (r1 := 0) (r2 := 0) (r3 := 0) rfl (fun e154 (fe154 : e154 = (h146 236 47) + 1) => ?_)
                    refine wr_pf0 (k0 := 236) (x := e154) (bl := 0) (bh := 300) (nx := 20) (r1 := 11) (r2 := 47) (r3 := 0) rfl (by decide) rfl ⟨rfl, rfl⟩ rfl rfl g152 rfl (by omega) (fun h155 g155 w155 u155 => ?_)
                    have F156 := F153.then rfl u155
                    refine wi_return (nx := 21) (r1 := 0) (r2 := 0) (r3 := 0) rfl rfl ?_
                    refine wk_n ?_
                    refine wi_aload_n (i := 0) (x := 236) (nx := 137) (r1 := 0) (r2 := 0) (r3 := 0) rfl rfl ?_
                    refine wr_gi0 (k0 := 236) (x := e154) (nx := 140) (r1 := 11) (r2 := 47) (r3 := 0) rfl rfl (by decide) rfl ⟨rfl, rfl⟩ rfl w155 ?_
                    refine wi_ireturn (nx := 141) (r1 := 0) (r2 := 0) (r3 := 0) rfl rfl ?_
                    exact k h155 e154 g155 F156 (by omega)
                  ·
                    refine wi_aload_n (i := 0) (x := 236) (nx := 112) (r1 := 0) (r2 := 0) (r3 := 0) rfl rfl ?_
                    refine wi_aload_n (i := 0) (x := 236) (nx := 113) (r1 := 0) (r2 := 0) (r3 := 0) rfl rfl ?_
                    refine wr_gr (k0 := 236) (x := 238) (nx := 116) (r1 := 11) (r2 := 13) (r3 := 0) rfl rfl (by decide) rfl ⟨rfl, rfl⟩ rfl ?_
                    refine wi_bipush (n := 107) (nx := 118) (r1 := 0) (r2 := 0) (r3 := 0) rfl (by decide) ?_
                    refine wi_iload_n (i := 1) (e := x145) (nx := 119) (r1 := 0) (r2 := 0) (r3 := 0) rfl rfl ?_
                    refine wr_add (nx := 120) (r1 := 0) (r2 := 0) (r3 := 0) rfl (fun e151 (fe151 : e151 = 107 + x145) => ?_)
                    obtain ⟨i152, ei152⟩ : ∃ q : Nat, e151 = (q : Int) := ⟨(e151).toNat, by omega⟩
                    have b153 := gi_b (lo := 0) (hi := 11) g 238 i152 (gi_rg 107 12 (fun _ => rfl) (by decide +kernel) (by omega))
                    refine wr_ia (k0 := 238) (a := e151) (f := i152) (x := h 238 i152) (nx := 121) (r1 := 0) (r2 := 0) (r3 := 0) rfl (by decide) rfl (by omega) (by omega) (by decide) ((u146 238 i152 (fn_a (by decide) (fn_a (by decide) fn_0))).trans ((u141 238 i152 (fn_a (by decide) (fn_a (by decide) fn_0))).trans ((u138 238 i152 (fn_a (by omega) fn_0)).trans ((u135 238 i152 (fn_a (by omega) fn_0)).trans ((u128 238 i152 (fn_a (by decide) (fn_a (by decide) fn_0))).trans ((u125 238 i152 (fn_a (by omega) fn_0)).trans ((u122 238 i152 (fn_a (by omega) fn_0)).trans ((u119 238 i152 (fn_a (by omega) fn_0)).trans ((u116 238 i152 (fn_a (by omega) fn_0)).trans ((u111 238 i152 (fn_a (by decide) (fn_a (by decide) fn_0))).trans ((u108 238 i152 (fn_a (by omega) fn_0)).trans ((u105 238 i152 (fn_a (by omega) fn_0)).trans ((u98 238 i152 (fn_a (by decide) (fn_a (by decide) fn_0))).trans ((u95 238 i152 (fn_a (by omega) fn_0)).trans ((u92 238 i152 (fn_a (by omega) fn_0)).trans ((u89 238 i152 (fn_a (by omega) fn_0)).trans ((u86 238 i152 (fn_a (by omega) fn_0)).trans ((u81 238 i152 (fn_a (by decide) (fn_a (by decide) fn_0))).trans ((u78 238 i152 (fn_a (by omega) fn_0)).trans ((u75 238 i152 (fn_a (by omega) fn_0)).trans ((u68 238 i152 (fn_a (by decide) (fn_a (by decide) fn_0))).trans ((u65 238 i152 (fn_a (by omega) fn_0)).trans ((u62 238 i152 (fn_a (by omega) fn_0)).trans ((u59 238 i152 (fn_a (by omega) fn_0)).trans ((u56 238 i152 (fn_a (by omega) fn_0)).trans ((u51 238 i152 (fn_a (by decide) (fn_a (by decide) fn_0))).trans ((u48 238 i152 (fn_a (by omega) fn_0)).trans ((u45 238 i152 (fn_a (by omega) fn_0)).trans ((u38 238 i152 (fn_a (by decide) (fn_a (by decide) fn_0))).trans ((u35 238 i152 (fn_a (by omega) fn_0)).trans ((u32 238 i152 (fn_a (by omega) fn_0)).trans ((u29 238 i152 (fn_a (by omega) fn_0)).trans ((u26 238 i152 (fn_a (by omega) fn_0)).trans ((u21 238 i152 (fn_a (by decide) (fn_a (by decide) fn_0))).trans ((u17 238 i152 (fn_a (by omega) fn_0)).trans ((u15 238 i152 (fn_a (by omega) fn_0)).trans (u13 238 i152 (fn_a (by omega) fn_0)))))))))))))))))))))))))))))))))))))) ?_
                    refine wr_V (k0 := 236) (rest := []) (as := [.ref 236, vi (h 238 i152)]) (nx := 124) (r1 := 349) (r2 := 1) (r3 := 11) rfl rfl rfl (of_decide_eq_true rfl) rfl rfl (by decide) rfl rfl (of_decide_eq_true rfl) (of_decide_eq_true rfl) ?_
                    refine ct_349_236 hcr  g146 (h 238 i152) (by omega) (show (h146 236 47) ≤ 289 by omega) (fun h154 g154 u154 (p154_0 : (h154 236 47) ≤ (h146 236 47) + 10) => ?_)
                    have F155 := F148.then (by decide +kernel) u154
                    have F156 := u146.then (by decide +kernel) u154
                    have b157 := gi_b (lo := 0) (hi := 300) g154 236 47 rfl
                    refine wk_n ?_
                    refine wr_iinc (i := 1) (n := 1) (v := x145) (fun e158 => [(1, vi e158), (0, .ref 236)]) (nx := 127) (r1 := 0) (r2 := 0) (r3 := 0) rfl rfl (fun _ => rfl) (fun e158 (fe158 : e158 = x145 + 1) => ?_)
                    refine wi_goto (nx := 130) (r1 := 100) (r2 := 0) (r3 := 0) rfl ?_
                    refine wp.lo (lo := [(0, .ref 236), (1, vi e158)]) ⟨rfl, rfl, trivial⟩ rfl ?_
                    exact I146 e158 h154 ⟨g154, F155, F156, (show (0 ≤ e158 ∧ e158 ≤ 12) ∧ ((h154 236 47) ≤ (h141 236 47) + 10 * e158) ∧ (e158 ≤ (h141 238 106)) by omega)⟩ (show ((12 : Int) + 1 - e158).toNat < ((12 : Int) + 1 - x145).toNat by omega)
                ·
                  refine wi_aload_n (i := 0) (x := 236) (nx := 64) (r1 := 0) (r2 := 0) (r3 := 0) rfl rfl ?_
                  refine wi_aload_n (i := 0) (x := 236) (nx := 65) (r1 := 0) (r2 := 0) (r3 := 0) rfl rfl ?_
                  refine wi_iload_n (i := 1) (e := 3) (nx := 66) (r1 := 0) (r2 := 0) (r3 := 0) rfl rfl ?_
                  refine wi_iload_n (i := 2) (e := x127) (nx := 67) (r1 := 0) (r2 := 0) (r3 := 0) rfl rfl ?_
                  refine wr_V (k0 := 236) (rest := [.ref 236]) (as := [.ref 236, vi 3, vi x127]) (nx := 70) (r1 := 258) (r2 := 2) (r3 := 11) rfl rfl rfl (of_decide_eq_true rfl) rfl rfl (by decide) rfl rfl (of_decide_eq_true rfl) (of_decide_eq_true rfl) ?_
                  refine wi_aload_n (i := 0) (x := 236) (nx := 1) (r1 := 0) (r2 := 0) (r3 := 0) rfl rfl ?_
                  refine wr_gr (k0 := 236) (x := 238) (nx := 4) (r1 := 11) (r2 := 13) (r3 := 0) rfl rfl (by decide) rfl ⟨rfl, rfl⟩ rfl ?_
                  refine wi_bipush (n := 74) (nx := 6) (r1 := 0) (r2 := 0) (r3 := 0) rfl (by decide) ?_
                  refine wi_bipush (n := 6) (nx := 8) (r1 := 0) (r2 := 0) (r3 := 0) rfl (by decide) ?_
                  refine wi_iload_n (i := 1) (e := 3) (nx := 9) (r1 := 0) (r2 := 0) (r3 := 0) rfl rfl ?_
                  refine wr_mulL (18) (nx := 10) (r1 := 0) (r2 := 0) (r3 := 0) rfl (by decide) ?_
                  refine wr_addL (92) (nx := 11) (r1 := 0) (r2 := 0) (r3 := 0) rfl (by decide) ?_
                  refine wi_iload_n (i := 2) (e := x127) (nx := 12) (r1 := 0) (r2 := 0) (r3 := 0) rfl rfl ?_
                  refine wr_add (nx := 13) (r1 := 0) (r2 := 0) (r3 := 0) rfl (fun e134 (fe134 : e134 = 92 + x127) => ?_)
                  obtain ⟨i135, ei135⟩ : ∃ q : Nat, e134 = (q : Int) := ⟨(e134).toNat, by omega⟩
                  have b136 := gi_b (lo := 0) (hi := 11) g 238 i135 (gi_rg 92 6 (fun _ => rfl) (by decide +kernel) (by omega))
                  refine wr_ia (k0 := 238) (a := e134) (f := i135) (x := h 238 i135) (nx := 14) (r1 := 0) (r2 := 0) (r3 := 0) rfl (by decide) rfl (by omega) (by omega) (by decide) ((u128 238 i135 (fn_a (by decide) (fn_a (by decide) fn_0))).trans ((u125 238 i135 (fn_a (by omega) fn_0)).trans ((u122 238 i135 (fn_a (by omega) fn_0)).trans ((u119 238 i135 (fn_a (by omega) fn_0)).trans ((u116 238 i135 (fn_a (by omega) fn_0)).trans ((u111 238 i135 (fn_a (by decide) (fn_a (by decide) fn_0))).trans ((u108 238 i135 (fn_a (by omega) fn_0)).trans ((u105 238 i135 (fn_a (by omega) fn_0)).trans ((u98 238 i135 (fn_a (by decide) (fn_a (by decide) fn_0))).trans ((u95 238 i135 (fn_a (by omega) fn_0)).trans ((u92 238 i135 (fn_a (by omega) fn_0)).trans ((u89 238 i135 (fn_a (by omega) fn_0)).trans ((u86 238 i135 (fn_a (by omega) fn_0)).trans ((u81 238 i135 (fn_a (by decide) (fn_a (by decide) fn_0))).trans ((u78 238 i135 (fn_a (by omega) fn_0)).trans ((u75 238 i135 (fn_a (by omega) fn_0)).trans ((u68 238 i135 (fn_a (by decide) (fn_a (by decide) fn_0))).trans ((u65 238 i135 (fn_a (by omega) fn_0)).trans ((u62 238 i135 (fn_a (by omega) fn_0)).trans ((u59 238 i135 (fn_a (by omega) fn_0)).trans ((u56 238 i135 (fn_a (by omega) fn_0)).trans ((u51 238 i135 (fn_a (by decide) (fn_a (by decide) fn_0))).trans ((u48 238 i135 (fn_a (by omega) fn_0)).trans ((u45 238 i135 (fn_a (by omega) fn_0)).trans ((u38 238 i135 (fn_a (by decide) (fn_a (by decide) fn_0))).trans ((u35 238 i135 (fn_a (by omega) fn_0)).trans ((u32 238 i135 (fn_a (by omega) fn_0)).trans ((u29 238 i135 (fn_a (by omega) fn_0)).trans ((u26 238 i135 (fn_a (by omega) fn_0)).trans ((u21 238 i135 (fn_a (by decide) (fn_a (by decide) fn_0))).trans ((u17 238 i135 (fn_a (by omega) fn_0)).trans ((u15 238 i135 (fn_a (by omega) fn_0)).trans (u13 238 i135 (fn_a (by omega) fn_0)))))))))))))))))))))))))))))))))) ?_
                  refine wi_ireturn (nx := 15) (r1 := 0) (r2 := 0) (r3 := 0) rfl rfl ?_
                  refine wk_i ?_
                  refine wr_V (k0 := 236) (rest := []) (as := [.ref 236, vi (h 238 i135)]) (nx := 73) (r1 := 349) (r2 := 1) (r3 := 11) rfl rfl rfl (of_decide_eq_true rfl) rfl rfl (by decide) rfl rfl (of_decide_eq_true rfl) (of_decide_eq_true rfl) ?_
                  refine ct_349_236 hcr  g128 (h 238 i135) (by omega) (show (h128 236 47) ≤ 289 by omega) (fun h137 g137 u137 (p137_0 : (h137 236 47) ≤ (h128 236 47) + 10) => ?_)
                  have F138 := F131.then (by decide +kernel) u137
                  have F139 := u128.then (by decide +kernel) u137
                  have b140 := gi_b (lo := 0) (hi := 300) g137 236 47 rfl
                  refine wk_n ?_
                  refine wr_iinc (i := 2) (n := 1) (v := x127) (fun e141 => [(2, vi e141), (0, .ref 236), (1, vi 3)]) (nx := 76) (r1 := 0) (r2 := 0) (r3 := 0) rfl rfl (fun _ => rfl) (fun e141 (fe141 : e141 = x127 + 1) => ?_)
                  refine wi_goto (nx := 79) (r1 := 50) (r2 := 0) (r3 := 0) rfl ?_
                  refine wp.lo (lo := [(0, .ref 236), (1, vi 3), (2, vi e141)]) ⟨rfl, rfl, rfl, trivial⟩ rfl ?_
                  exact I128 e141 h137 ⟨g137, F138, F139, (show (0 ≤ e141 ∧ e141 ≤ 6) ∧ ((h137 236 47) ≤ (h125 236 47) + 10 * e141) ∧ (e141 ≤ (h125 238 101)) by omega)⟩ (show ((6 : Int) + 1 - e141).toNat < ((6 : Int) + 1 - x127).toNat by omega)
            ·
              refine wi_aload_n (i := 0) (x := 236) (nx := 64) (r1 := 0) (r2 := 0) (r3 := 0) rfl rfl ?_
              refine wi_aload_n (i := 0) (x := 236) (nx := 65) (r1 := 0) (r2 := 0) (r3 := 0) rfl rfl ?_
              refine wi_iload_n (i := 1) (e := 2) (nx := 66) (r1 := 0) (r2 := 0) (r3 := 0) rfl rfl ?_
              refine wi_iload_n (i := 2) (e := x97) (nx := 67) (r1 := 0) (r2 := 0) (r3 := 0) rfl rfl ?_
              refine wr_V (k0 := 236) (rest := [.ref 236]) (as := [.ref 236, vi 2, vi x97]) (nx := 70) (r1 := 258) (r2 := 2) (r3 := 11) rfl rfl rfl (of_decide_eq_true rfl) rfl rfl (by decide) rfl rfl (of_decide_eq_true rfl) (of_decide_eq_true rfl) ?_
              refine wi_aload_n (i := 0) (x := 236) (nx := 1) (r1 := 0) (r2 := 0) (r3 := 0) rfl rfl ?_
              refine wr_gr (k0 := 236) (x := 238) (nx := 4) (r1 := 11) (r2 := 13) (r3 := 0) rfl rfl (by decide) rfl ⟨rfl, rfl⟩ rfl ?_
              refine wi_bipush (n := 74) (nx := 6) (r1 := 0) (r2 := 0) (r3 := 0) rfl (by decide) ?_
              refine wi_bipush (n := 6) (nx := 8) (r1 := 0) (r2 := 0) (r3 := 0) rfl (by decide) ?_
              refine wi_iload_n (i := 1) (e := 2) (nx := 9) (r1 := 0) (r2 := 0) (r3 := 0) rfl rfl ?_
              refine wr_mulL (12) (nx := 10) (r1 := 0) (r2 := 0) (r3 := 0) rfl (by decide) ?_
              refine wr_addL (86) (nx := 11) (r1 := 0) (r2 := 0) (r3 := 0) rfl (by decide) ?_
              refine wi_iload_n (i := 2) (e := x97) (nx := 12) (r1 := 0) (r2 := 0) (r3 := 0) rfl rfl ?_
              refine wr_add (nx := 13) (r1 := 0) (r2 := 0) (r3 := 0) rfl (fun e104 (fe104 : e104 = 86 + x97) => ?_)
              obtain ⟨i105, ei105⟩ : ∃ q : Nat, e104 = (q : Int) := ⟨(e104).toNat, by omega⟩
              have b106 := gi_b (lo := 0) (hi := 11) g 238 i105 (gi_rg 86 6 (fun _ => rfl) (by decide +kernel) (by omega))
              refine wr_ia (k0 := 238) (a := e104) (f := i105) (x := h 238 i105) (nx := 14) (r1 := 0) (r2 := 0) (r3 := 0) rfl (by decide) rfl (by omega) (by omega) (by decide) ((u98 238 i105 (fn_a (by decide) (fn_a (by decide) fn_0))).trans ((u95 238 i105 (fn_a (by omega) fn_0)).trans ((u92 238 i105 (fn_a (by omega) fn_0)).trans ((u89 238 i105 (fn_a (by omega) fn_0)).trans ((u86 238 i105 (fn_a (by omega) fn_0)).trans ((u81 238 i105 (fn_a (by decide) (fn_a (by decide) fn_0))).trans ((u78 238 i105 (fn_a (by omega) fn_0)).trans ((u75 238 i105 (fn_a (by omega) fn_0)).trans ((u68 238 i105 (fn_a (by decide) (fn_a (by decide) fn_0))).trans ((u65 238 i105 (fn_a (by omega) fn_0)).trans ((u62 238 i105 (fn_a (by omega) fn_0)).trans ((u59 238 i105 (fn_a (by omega) fn_0)).trans ((u56 238 i105 (fn_a (by omega) fn_0)).trans ((u51 238 i105 (fn_a (by decide) (fn_a (by decide) fn_0))).trans ((u48 238 i105 (fn_a (by omega) fn_0)).trans ((u45 238 i105 (fn_a (by omega) fn_0)).trans ((u38 238 i105 (fn_a (by decide) (fn_a (by decide) fn_0))).trans ((u35 238 i105 (fn_a (by omega) fn_0)).trans ((u32 238 i105 (fn_a (by omega) fn_0)).trans ((u29 238 i105 (fn_a (by omega) fn_0)).trans ((u26 238 i105 (fn_a (by omega) fn_0)).trans ((u21 238 i105 (fn_a (by decide) (fn_a (by decide) fn_0))).trans ((u17 238 i105 (fn_a (by omega) fn_0)).trans ((u15 238 i105 (fn_a (by omega) fn_0)).trans (u13 238 i105 (fn_a (by omega) fn_0)))))))))))))))))))))))))) ?_
              refine wi_ireturn (nx := 15) (r1 := 0) (r2 := 0) (r3 := 0) rfl rfl ?_
              refine wk_i ?_
              refine wr_V (k0 := 236) (rest := []) (as := [.ref 236, vi (h 238 i105)]) (nx := 73) (r1 := 349) (r2 := 1) (r3 := 11) rfl rfl rfl (of_decide_eq_true rfl) rfl rfl (by decide) rfl rfl (of_decide_eq_true rfl) (of_decide_eq_true rfl) ?_
              refine ct_349_236 hcr  g98 (h 238 i105) (by omega) (show (h98 236 47) ≤ 289 by omega) (fun h107 g107 u107 (p107_0 : (h107 236 47) ≤ (h98 236 47) + 10) => ?_)
              have F108 := F101.then (by decide +kernel) u107
              have F109 := u98.then (by decide +kernel) u107
              have b110 := gi_b (lo := 0) (hi := 300) g107 236 47 rfl
              refine wk_n ?_
              refine wr_iinc (i := 2) (n := 1) (v := x97) (fun e111 => [(2, vi e111), (0, .ref 236), (1, vi 2)]) (nx := 76) (r1 := 0) (r2 := 0) (r3 := 0) rfl rfl (fun _ => rfl) (fun e111 (fe111 : e111 = x97 + 1) => ?_)
              refine wi_goto (nx := 79) (r1 := 50) (r2 := 0) (r3 := 0) rfl ?_
              refine wp.lo (lo := [(0, .ref 236), (1, vi 2), (2, vi e111)]) ⟨rfl, rfl, rfl, trivial⟩ rfl ?_
              exact I98 e111 h107 ⟨g107, F108, F109, (show (0 ≤ e111 ∧ e111 ≤ 6) ∧ ((h107 236 47) ≤ (h95 236 47) + 10 * e111) ∧ (e111 ≤ (h95 238 100)) by omega)⟩ (show ((6 : Int) + 1 - e111).toNat < ((6 : Int) + 1 - x97).toNat by omega)
        ·
          refine wi_aload_n (i := 0) (x := 236) (nx := 64) (r1 := 0) (r2 := 0) (r3 := 0) rfl rfl ?_
          refine wi_aload_n (i := 0) (x := 236) (nx := 65) (r1 := 0) (r2 := 0) (r3 := 0) rfl rfl ?_
          refine wi_iload_n (i := 1) (e := 1) (nx := 66) (r1 := 0) (r2 := 0) (r3 := 0) rfl rfl ?_
          refine wi_iload_n (i := 2) (e := x67) (nx := 67) (r1 := 0) (r2 := 0) (r3 := 0) rfl rfl ?_
          refine wr_V (k0 := 236) (rest := [.ref 236]) (as := [.ref 236, vi 1, vi x67]) (nx := 70) (r1 := 258) (r2 := 2) (r3 := 11) rfl rfl rfl (of_decide_eq_true rfl) rfl rfl (by decide) rfl rfl (of_decide_eq_true rfl) (of_decide_eq_true rfl) ?_
          refine wi_aload_n (i := 0) (x := 236) (nx := 1) (r1 := 0) (r2 := 0) (r3 := 0) rfl rfl ?_
          refine wr_gr (k0 := 236) (x := 238) (nx := 4) (r1 := 11) (r2 := 13) (r3 := 0) rfl rfl (by decide) rfl ⟨rfl, rfl⟩ rfl ?_
          refine wi_bipush (n := 74) (nx := 6) (r1 := 0) (r2 := 0) (r3 := 0) rfl (by decide) ?_
          refine wi_bipush (n := 6) (nx := 8) (r1 := 0) (r2 := 0) (r3 := 0) rfl (by decide) ?_
          refine wi_iload_n (i := 1) (e := 1) (nx := 9) (r1 := 0) (r2 := 0) (r3 := 0) rfl rfl ?_
          refine wr_mulL (6) (nx := 10) (r1 := 0) (r2 := 0) (r3 := 0) rfl (by decide) ?_
          refine wr_addL (80) (nx := 11) (r1 := 0) (r2 := 0) (r3 := 0) rfl (by decide) ?_
          refine wi_iload_n (i := 2) (e := x67) (nx := 12) (r1 := 0) (r2 := 0) (r3 := 0) rfl rfl ?_
          refine wr_add (nx := 13) (r1 := 0) (r2 := 0) (r3 := 0) rfl (fun e74 (fe74 : e74 = 80 + x67) => ?_)
          obtain ⟨i75, ei75⟩ : ∃ q : Nat, e74 = (q : Int) := ⟨(e74).toNat, by omega⟩
          have b76 := gi_b (lo := 0) (hi := 11) g 238 i75 (gi_rg 80 6 (fun _ => rfl) (by decide +kernel) (by omega))
          refine wr_ia (k0 := 238) (a := e74) (f := i75) (x := h 238 i75) (nx := 14) (r1 := 0) (r2 := 0) (r3 := 0) rfl (by decide) rfl (by omega) (by omega) (by decide) ((u68 238 i75 (fn_a (by decide) (fn_a (by decide) fn_0))).trans ((u65 238 i75 (fn_a (by omega) fn_0)).trans ((u62 238 i75 (fn_a (by omega) fn_0)).trans ((u59 238 i75 (fn_a (by omega) fn_0)).trans ((u56 238 i75 (fn_a (by omega) fn_0)).trans ((u51 238 i75 (fn_a (by decide) (fn_a (by decide) fn_0))).trans ((u48 238 i75 (fn_a (by omega) fn_0)).trans ((u45 238 i75 (fn_a (by omega) fn_0)).trans ((u38 238 i75 (fn_a (by decide) (fn_a (by decide) fn_0))).trans ((u35 238 i75 (fn_a (by omega) fn_0)).trans ((u32 238 i75 (fn_a (by omega) fn_0)).trans ((u29 238 i75 (fn_a (by omega) fn_0)).trans ((u26 238 i75 (fn_a (by omega) fn_0)).trans ((u21 238 i75 (fn_a (by decide) (fn_a (by decide) fn_0))).trans ((u17 238 i75 (fn_a (by omega) fn_0)).trans ((u15 238 i75 (fn_a (by omega) fn_0)).trans (u13 238 i75 (fn_a (by omega) fn_0)))))))))))))))))) ?_
          refine wi_ireturn (nx := 15) (r1 := 0) (r2 := 0) (r3 := 0) rfl rfl ?_
          refine wk_i ?_
          refine wr_V (k0 := 236) (rest := []) (as := [.ref 236, vi (h 238 i75)]) (nx := 73) (r1 := 349) (r2 := 1) (r3 := 11) rfl rfl rfl (of_decide_eq_true rfl) rfl rfl (by decide) rfl rfl (of_decide_eq_true rfl) (of_decide_eq_true rfl) ?_
          refine ct_349_236 hcr  g68 (h 238 i75) (by omega) (show (h68 236 47) ≤ 289 by omega) (fun h77 g77 u77 (p77_0 : (h77 236 47) ≤ (h68 236 47) + 10) => ?_)
          have F78 := F71.then (by decide +kernel) u77
          have F79 := u68.then (by decide +kernel) u77
          have b80 := gi_b (lo := 0) (hi := 300) g77 236 47 rfl
          refine wk_n ?_
          refine wr_iinc (i := 2) (n := 1) (v := x67) (fun e81 => [(2, vi e81), (0, .ref 236), (1, vi 1)]) (nx := 76) (r1 := 0) (r2 := 0) (r3 := 0) rfl rfl (fun _ => rfl) (fun e81 (fe81 : e81 = x67 + 1) => ?_)
          refine wi_goto (nx := 79) (r1 := 50) (r2 := 0) (r3 := 0) rfl ?_
          refine wp.lo (lo := [(0, .ref 236), (1, vi 1), (2, vi e81)]) ⟨rfl, rfl, rfl, trivial⟩ rfl ?_
          exact I68 e81 h77 ⟨g77, F78, F79, (show (0 ≤ e81 ∧ e81 ≤ 6) ∧ ((h77 236 47) ≤ (h65 236 47) + 10 * e81) ∧ (e81 ≤ (h65 238 99)) by omega)⟩ (show ((6 : Int) + 1 - e81).toNat < ((6 : Int) + 1 - x67).toNat by omega)
    ·
      refine wi_aload_n (i := 0) (x := 236) (nx := 64) (r1 := 0) (r2 := 0) (r3 := 0) rfl rfl ?_
      refine wi_aload_n (i := 0) (x := 236) (nx := 65) (r1 := 0) (r2 := 0) (r3 := 0) rfl rfl ?_
      refine wi_iload_n (i := 1) (e := 0) (nx := 66) (r1 := 0) (r2 := 0) (r3 := 0) rfl rfl ?_
      refine wi_iload_n (i := 2) (e := x37) (nx := 67) (r1 := 0) (r2 := 0) (r3 := 0) rfl rfl ?_
      refine wr_V (k0 := 236) (rest := [.ref 236]) (as := [.ref 236, vi 0, vi x37]) (nx := 70) (r1 := 258) (r2 := 2) (r3 := 11) rfl rfl rfl (of_decide_eq_true rfl) rfl rfl (by decide) rfl rfl (of_decide_eq_true rfl) (of_decide_eq_true rfl) ?_
      refine wi_aload_n (i := 0) (x := 236) (nx := 1) (r1 := 0) (r2 := 0) (r3 := 0) rfl rfl ?_
      refine wr_gr (k0 := 236) (x := 238) (nx := 4) (r1 := 11) (r2 := 13) (r3 := 0) rfl rfl (by decide) rfl ⟨rfl, rfl⟩ rfl ?_
      refine wi_bipush (n := 74) (nx := 6) (r1 := 0) (r2 := 0) (r3 := 0) rfl (by decide) ?_
      refine wi_bipush (n := 6) (nx := 8) (r1 := 0) (r2 := 0) (r3 := 0) rfl (by decide) ?_
      refine wi_iload_n (i := 1) (e := 0) (nx := 9) (r1 := 0) (r2 := 0) (r3 := 0) rfl rfl ?_
      refine wr_mulL (0) (nx := 10) (r1 := 0) (r2 := 0) (r3 := 0) rfl (by decide) ?_
      refine wr_addL (74) (nx := 11) (r1 := 0) (r2 := 0) (r3 := 0) rfl (by decide) ?_
      refine wi_iload_n (i := 2) (e := x37) (nx := 12) (r1 := 0) (r2 := 0) (r3 := 0) rfl rfl ?_
      refine wr_add (nx := 13) (r1 := 0) (r2 := 0) (r3 := 0) rfl (fun e44 (fe44 : e44 = 74 + x37) => ?_)
      obtain ⟨i45, ei45⟩ : ∃ q : Nat, e44 = (q : Int) := ⟨(e44).toNat, by omega⟩
      have b46 := gi_b (lo := 0) (hi := 11) g 238 i45 (gi_rg 74 6 (fun _ => rfl) (by decide +kernel) (by omega))
      refine wr_ia (k0 := 238) (a := e44) (f := i45) (x := h 238 i45) (nx := 14) (r1 := 0) (r2 := 0) (r3 := 0) rfl (by decide) rfl (by omega) (by omega) (by decide) ((u38 238 i45 (fn_a (by decide) (fn_a (by decide) fn_0))).trans ((u35 238 i45 (fn_a (by omega) fn_0)).trans ((u32 238 i45 (fn_a (by omega) fn_0)).trans ((u29 238 i45 (fn_a (by omega) fn_0)).trans ((u26 238 i45 (fn_a (by omega) fn_0)).trans ((u21 238 i45 (fn_a (by decide) (fn_a (by decide) fn_0))).trans ((u17 238 i45 (fn_a (by omega) fn_0)).trans ((u15 238 i45 (fn_a (by omega) fn_0)).trans (u13 238 i45 (fn_a (by omega) fn_0)))))))))) ?_
      refine wi_ireturn (nx := 15) (r1 := 0) (r2 := 0) (r3 := 0) rfl rfl ?_
      refine wk_i ?_
      refine wr_V (k0 := 236) (rest := []) (as := [.ref 236, vi (h 238 i45)]) (nx := 73) (r1 := 349) (r2 := 1) (r3 := 11) rfl rfl rfl (of_decide_eq_true rfl) rfl rfl (by decide) rfl rfl (of_decide_eq_true rfl) (of_decide_eq_true rfl) ?_
      refine ct_349_236 hcr  g38 (h 238 i45) (by omega) (show (h38 236 47) ≤ 289 by omega) (fun h47 g47 u47 (p47_0 : (h47 236 47) ≤ (h38 236 47) + 10) => ?_)
      have F48 := F41.then (by decide +kernel) u47
      have F49 := u38.then (by decide +kernel) u47
      have b50 := gi_b (lo := 0) (hi := 300) g47 236 47 rfl
      refine wk_n ?_
      refine wr_iinc (i := 2) (n := 1) (v := x37) (fun e51 => [(2, vi e51), (0, .ref 236), (1, vi 0)]) (nx := 76) (r1 := 0) (r2 := 0) (r3 := 0) rfl rfl (fun _ => rfl) (fun e51 (fe51 : e51 = x37 + 1) => ?_)
      refine wi_goto (nx := 79) (r1 := 50) (r2 := 0) (r3 := 0) rfl ?_
      refine wp.lo (lo := [(0, .ref 236), (1, vi 0), (2, vi e51)]) ⟨rfl, rfl, rfl, trivial⟩ rfl ?_
      exact I38 e51 h47 ⟨g47, F48, F49, (show (0 ≤ e51 ∧ e51 ≤ 6) ∧ ((h47 236 47) ≤ (h35 236 47) + 10 * e51) ∧ (e51 ≤ (h35 238 98)) by omega)⟩ (show ((6 : Int) + 1 - e51).toNat < ((6 : Int) + 1 - x37).toNat by omega)
