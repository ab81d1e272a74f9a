-- method 106: Text.takeOpening()Z
set_option maxRecDepth 100000 in
set_option maxHeartbeats 100000000 in
theorem ct_106_1 {L : Nat} {xs : Nat → Int32} {d b c : Nat} {h : hp} {cr : Nat → Nat → Option Nat} {Q : hp_Q} (hcr : CR cr)  {tB : Nat → Int} {tn tp : Int} (g : GI h)   (pp0 : h 1 4 = tp) (pp1 : 0 ≤ tp) (pp2 : tp ≤ tn) (xq0 : BufC tB tn h) (k : ∀ (h2 : hp) (z0 : Int) , GI h2 → FR [(1, 1, some (2, 2)), (1, 1, some (3, 3)), (1, 1, some (4, 4)), (1, 1, some (5, 5)), (1, 1, some (6, 6)), (1, 1, some (7, 7)), (1, 1, some (8, 8)), (1, 1, some (9, 9))] h h2 → (0 ≤ z0 ∧ z0 ≤ 1) → ((z0 = 1 ∧ tk_kd tB tn tp = 4 ∧ h2 1 4 = tk_nx tB tn tp ∧ h2 1 2 = h 1 2 ∧ h2 1 3 = h 1 3) ∨ (z0 = 0 ∧ tk_kd tB tn tp ≠ 4 ∧ h2 1 2 = 1 ∧ h2 1 3 = tk_st tB tn tp)) → Q (.inl (some (vi z0))) (hp_w h2 cr) b c) : wp (md_xa (L, xs)) (d + 3) 106 (0, [(0, .ref 1)], [], hp_w h cr, b, c) Q := by
  have F0 : FR [(1, 1, some (2, 2)), (1, 1, some (3, 3)), (1, 1, some (4, 4)), (1, 1, some (5, 5)), (1, 1, some (6, 6)), (1, 1, some (7, 7)), (1, 1, some (8, 8)), (1, 1, some (9, 9))] h h := FR.refl
  have tb_1 : h 1 1 = tn := xq0.2.1
  have tb_2 : 0 ≤ tn ∧ tn ≤ 800 := xq0.2.2
  have b1 := gi_b (lo := 0) (hi := 800) g 1 4 rfl
  refine wi_aload_n (i := 0) (x := 1) (nx := 1) (r1 := 0) (r2 := 0) (r3 := 0) rfl rfl ?_
  refine wr_V (k0 := 1) (rest := []) (as := [.ref 1]) (nx := 4) (r1 := 94) (r2 := 0) (r3 := 1) rfl rfl rfl (of_decide_eq_true rfl) rfl rfl (by decide) rfl rfl (of_decide_eq_true rfl) (of_decide_eq_true rfl) ?_
  refine ct_94_1 hcr  g   (show (h 1 4) = tp by omega) (show 0 ≤ tp by omega) (show tp ≤ tn by omega) xq0 (fun h2 g2 u2 (p2_0 : (h2 1 4) = tk_nx tB tn tp) (p2_1 : (h2 1 5) = tk_kd tB tn tp) (p2_2 : (h2 1 6) = tk_st tB tn tp) (p2_3 : tk_kd tB tn tp = 1 → ((h2 1 8) = tk_lw tB tn tp ∧ (h2 1 9) = tk_wd (tk_lw tB tn tp))) (p2_4 : tk_kd tB tn tp = 2 → (h2 1 7) = tk_nb tB tn tp) => ?_)
  have F3 := F0.then (by decide +kernel) u2
  have b4 := gi_b (lo := 0) (hi := 800) g2 1 4 rfl
  have b5 := gi_b (lo := 0) (hi := 6) g2 1 5 rfl
  have b6 := gi_b (lo := 0) (hi := 800) g2 1 6 rfl
  have b7 := gi_b (lo := -9223372036854775808) (hi := 9223372036854775807) g2 1 8 rfl
  have b8 := gi_b (lo := 1) (hi := 21) g2 1 9 rfl
  have b9 := gi_b (lo := -2147483648) (hi := 2147483647) g2 1 7 rfl
  have tN10 := @tk_nx_b tB tn tp (by omega) (by omega)
  refine wk_n ?_
  refine wi_aload_n (i := 0) (x := 1) (nx := 5) (r1 := 0) (r2 := 0) (r3 := 0) rfl rfl ?_
  refine wr_gi0 (k0 := 1) (x := h2 1 5) (nx := 8) (r1 := 1) (r2 := 5) (r3 := 0) rfl rfl (by decide) rfl ⟨rfl, rfl⟩ rfl rfl ?_
  refine wi_iconst (n := 4) (nx := 9) (r1 := 0) (r2 := 0) (r3 := 0) rfl ?_
  refine wi_icmp (cd := .eq) (nx := 12) (r1 := 20) (r2 := 0) (r3 := 0) rfl (by omega) (by omega) (fun (q11 : (h2 1 5) = 4) => ?_) (fun (q11 : ¬ ((h2 1 5) = 4)) => ?_)
  ·
    refine wi_iconst (n := 1) (nx := 21) (r1 := 0) (r2 := 0) (r3 := 0) rfl ?_
    refine wi_goto (nx := 24) (r1 := 25) (r2 := 0) (r3 := 0) rfl ?_
    refine wi_zreturn (nx := 26) (r1 := 0) (r2 := 0) (r3 := 0) rfl rfl (by omega) ?_
    have b12 := gi_b (lo := -2147483648) (hi := 2147483647) g 1 2 rfl
    have e13 : h2 1 2 = h 1 2 := (u2 1 2 rfl)
    have b14 := gi_b (lo := -2147483648) (hi := 2147483647) g 1 3 rfl
    have e15 : h2 1 3 = h 1 3 := (u2 1 3 rfl)
    exact k h2 1 g2 F3 (by omega) (show (1 = 1 ∧ tk_kd tB tn tp = 4 ∧ (h2 1 4) = tk_nx tB tn tp ∧ (h2 1 2) = (h 1 2) ∧ (h2 1 3) = (h 1 3)) ∨ (1 = 0 ∧ tk_kd tB tn tp ≠ 4 ∧ (h2 1 2) = 1 ∧ (h2 1 3) = tk_st tB tn tp) by omega)
  ·
    refine wi_aload_n (i := 0) (x := 1) (nx := 13) (r1 := 0) (r2 := 0) (r3 := 0) rfl rfl ?_
    refine wi_iconst (n := 1) (nx := 14) (r1 := 0) (r2 := 0) (r3 := 0) rfl ?_
    refine wr_V (k0 := 1) (rest := []) (as := [.ref 1, vi 1]) (nx := 17) (r1 := 101) (r2 := 1) (r3 := 1) rfl rfl rfl (of_decide_eq_true rfl) rfl rfl (by decide) rfl rfl (of_decide_eq_true rfl) (of_decide_eq_true rfl) ?_
    refine ct_101_1 hcr  g2 1 (by omega)  (fun h12 z13 g12 u12 (fz13 : 0 ≤ z13 ∧ z13 ≤ 0) (p12_0 : z13 = 0) (p12_1 : (h12 1 2) = 1) (p12_2 : (h12 1 3) = (h2 1 6)) => ?_)
    have F14 := F3.then (by decide +kernel) u12
    have b15 := gi_b (lo := -2147483648) (hi := 2147483647) g12 1 2 rfl
    have b16 := gi_b (lo := -2147483648) (hi := 2147483647) g12 1 3 rfl
    refine wk_i ?_
    refine wi_if (cd := .eq) (nx := 20) (r1 := 24) (r2 := 0) (r3 := 0) rfl (by omega) (fun (q17 : z13 = 0) => ?_) (fun (q17 : ¬ (z13 = 0)) => by exfalso; omega)
    refine wi_iconst (n := 0) (nx := 25) (r1 := 0) (r2 := 0) (r3 := 0) rfl ?_
    refine wi_zreturn (nx := 26) (r1 := 0) (r2 := 0) (r3 := 0) rfl rfl (by omega) ?_
    have e18 : h12 1 4 = h2 1 4 := (u12 1 4 rfl)
    have b19 := gi_b (lo := -2147483648) (hi := 2147483647) g 1 2 rfl
    have b20 := gi_b (lo := -2147483648) (hi := 2147483647) g 1 3 rfl
    exact k h12 0 g12 F14 (by omega) (show (0 = 1 ∧ tk_kd tB tn tp = 4 ∧ (h12 1 4) = tk_nx tB tn tp ∧ (h12 1 2) = (h 1 2) ∧ (h12 1 3) = (h 1 3)) ∨ (0 = 0 ∧ tk_kd tB tn tp ≠ 4 ∧ (h12 1 2) = 1 ∧ (h12 1 3) = tk_st tB tn tp) by omega)
-- method 185: Script.readCommand()Z
set_option maxRecDepth 100000 in
set_option maxHeartbeats 100000000 in
theorem ct_185_68 {L : Nat} {xs : Nat → Int32} {d b c : Nat} {h : hp} {cr : Nat → Nat → Option Nat} {Q : hp_Q} (hcr : CR cr)  {tB : Nat → Int} {tn tp : Int} (g : GI h)   (pp0 : h 1 4 = tk_nx tB tn tp) (pp1 : h 1 6 = tk_st tB tn tp) (pp2 : h 1 5 = tk_kd tB tn tp) (pp3 : tk_kd tB tn tp = 1 → h 1 9 = tk_wd (tk_lw tB tn tp)) (pp4 : h 1 2 = 0) (pp5 : h 1 3 = -1) (pp6 : 0 ≤ tp) (pp7 : tp ≤ tn) (pp8 : tp ≤ tk_nx tB tn tp ∧ tk_nx tB tn tp ≤ tn) (pp9 : tk_kd tB tn tp ≠ 0) (xq0 : BufC tB tn h) (k : ∀ (h2 : hp) (z0 : Int) , GI h2 → FR [(69, 69, none), (70, 70, none), (72, 72, none), (1, 1, some (2, 2)), (1, 1, some (3, 3)), (1, 1, some (4, 4)), (1, 1, some (5, 5)), (1, 1, some (6, 6)), (1, 1, some (7, 7)), (1, 1, some (8, 8)), (1, 1, some (9, 9)), (68, 68, some (8, 8)), (68, 68, some (9, 9)), (68, 68, some (10, 10))] h h2 → (0 ≤ z0 ∧ z0 ≤ 1) → (z0 = 0 ∨ z0 = 1) → (sc_O (sc_cmd tB tn tp (h 68 8) (h 68 9)) z0 h2) → Q (.inl (some (vi z0))) (hp_w h2 cr) b c) : wp (md_xa (L, xs)) (d + 4) 185 (0, [(0, .ref 68)], [], hp_w h cr, b, c) Q := by
  have F0 : FR [(69, 69, none), (70, 70, none), (72, 72, none), (1, 1, some (2, 2)), (1, 1, some (3, 3)), (1, 1, some (4, 4)), (1, 1, some (5, 5)), (1, 1, some (6, 6)), (1, 1, some (7, 7)), (1, 1, some (8, 8)), (1, 1, some (9, 9)), (68, 68, some (8, 8)), (68, 68, some (9, 9)), (68, 68, some (10, 10))] h h := FR.refl
  have tb_1 : h 1 1 = tn := xq0.2.1
  have tb_2 : 0 ≤ tn ∧ tn ≤ 800 := xq0.2.2
  have b1 := gi_b (lo := 0) (hi := 800) g 1 4 rfl
  have b2 := gi_b (lo := 0) (hi := 800) g 1 6 rfl
  have b3 := gi_b (lo := 0) (hi := 6) g 1 5 rfl
  have b4 := gi_b (lo := 1) (hi := 21) g 1 9 rfl
  have b5 := gi_b (lo := -2147483648) (hi := 2147483647) g 1 2 rfl
  have b6 := gi_b (lo := -2147483648) (hi := 2147483647) g 1 3 rfl
  refine wi_aload_n (i := 0) (x := 68) (nx := 1) (r1 := 0) (r2 := 0) (r3 := 0) rfl rfl ?_
  refine wr_gr (k0 := 68) (x := 1) (nx := 4) (r1 := 8) (r2 := 0) (r3 := 0) rfl rfl (by decide) rfl ⟨rfl, rfl⟩ rfl ?_
  rcases (show h 1 9 = 1 ∨ h 1 9 = 2 ∨ h 1 9 = 3 ∨ h 1 9 = 4 ∨ h 1 9 = 5 ∨ h 1 9 = 6 ∨ h 1 9 = 7 ∨ h 1 9 = 8 ∨ h 1 9 = 9 ∨ h 1 9 = 10 ∨ h 1 9 = 11 ∨ h 1 9 = 12 ∨ h 1 9 = 13 ∨ h 1 9 = 14 ∨ h 1 9 = 15 ∨ h 1 9 = 16 ∨ h 1 9 = 17 ∨ h 1 9 = 18 ∨ h 1 9 = 19 ∨ h 1 9 = 20 ∨ h 1 9 = 21 by omega) with q7 | q7 | q7 | q7 | q7 | q7 | q7 | q7 | q7 | q7 | q7 | q7 | q7 | q7 | q7 | q7 | q7 | q7 | q7 | q7 | q7
  ·
    refine wr_gi3 (k0 := 1) (x := 1) (nx := 7) (r1 := 1) (r2 := 9) (r3 := 0) rfl rfl (by decide) rfl ⟨rfl, rfl⟩ rfl q7 ?_
    refine wi_astore_n (i := 1) (x := mm_XB + (1 : Int).toNat) (lo2 := [(1, wv 1), (0, .ref 68)]) (nx := 8) (r1 := 0) (r2 := 0) (r3 := 0) rfl rfl ?_
    refine wi_aload_n (i := 0) (x := 68) (nx := 9) (r1 := 0) (r2 := 0) (r3 := 0) rfl rfl ?_
    refine wr_gr (k0 := 68) (x := 1) (nx := 12) (r1 := 8) (r2 := 0) (r3 := 0) rfl rfl (by decide) rfl ⟨rfl, rfl⟩ rfl ?_
    refine wr_gi0 (k0 := 1) (x := h 1 5) (nx := 15) (r1 := 1) (r2 := 5) (r3 := 0) rfl rfl (by decide) rfl ⟨rfl, rfl⟩ rfl rfl ?_
    refine wi_iconst (n := 1) (nx := 16) (r1 := 0) (r2 := 0) (r3 := 0) rfl ?_
    refine wi_icmp (cd := .ne) (nx := 19) (r1 := 26) (r2 := 0) (r3 := 0) rfl (by omega) (by omega) (fun (q8 : (h 1 5) ≠ 1) => ?_) (fun (q8 : ¬ ((h 1 5) ≠ 1)) => ?_)
    ·
      refine wi_aload_n (i := 0) (x := 68) (nx := 27) (r1 := 0) (r2 := 0) (r3 := 0) rfl rfl ?_
      refine wr_gr (k0 := 68) (x := 1) (nx := 30) (r1 := 8) (r2 := 0) (r3 := 0) rfl rfl (by decide) rfl ⟨rfl, rfl⟩ rfl ?_
      refine wi_iconst (n := 1) (nx := 31) (r1 := 0) (r2 := 0) (r3 := 0) rfl ?_
      refine wr_V (k0 := 1) (rest := []) (as := [.ref 1, vi 1]) (nx := 34) (r1 := 101) (r2 := 1) (r3 := 1) rfl rfl rfl (of_decide_eq_true rfl) rfl rfl (by decide) rfl rfl (of_decide_eq_true rfl) (of_decide_eq_true rfl) ?_
      refine ct_101_1 hcr  g 1 (by omega)  (fun h9 z10 g9 u9 (fz10 : 0 ≤ z10 ∧ z10 ≤ 0) (p9_0 : z10 = 0) (p9_1 : (h9 1 2) = 1) (p9_2 : (h9 1 3) = (h 1 6)) => ?_)
      have F11 := F0.then (by decide +kernel) u9
      have b12 := gi_b (lo := -2147483648) (hi := 2147483647) g9 1 2 rfl
      have b13 := gi_b (lo := -2147483648) (hi := 2147483647) g9 1 3 rfl
      refine wk_i ?_
      refine wi_zreturn (nx := 35) (r1 := 0) (r2 := 0) (r3 := 0) rfl rfl (by omega) ?_
      have e14 : h9 1 4 = h 1 4 := (u9 1 4 rfl)
      have b15 := gi_b (lo := 0) (hi := 2) g 68 8 rfl
      have e16 : h9 68 8 = h 68 8 := (u9 68 8 rfl)
      have b17 := gi_b (lo := 0) (hi := 40) g 68 9 rfl
      have e18 : h9 68 9 = h 68 9 := (u9 68 9 rfl)
      exact k h9 z10 g9 F11 (by omega) (show z10 = 0 ∨ z10 = 1 by omega) (by unfold sc_cmd sc_hd sc_num sc_mk; (try dsimp only); (repeat (first | rw [if_pos (by omega)] | rw [if_neg (by omega)])); (repeat ((first | unfold sc_num | unfold sc_mk); (try dsimp only); (repeat (first | rw [if_pos (by omega)] | rw [if_neg (by omega)])))); first | exact sc_Oe (by omega) (by omega) (by omega) (by omega) | ((repeat' split) <;> (first | exact sc_Oe (by omega) (by omega) (by omega) (by omega) | (exfalso; omega))))
    ·
      refine wi_aload_n (i := 1) (x := mm_XB + (1 : Int).toNat) (nx := 20) (r1 := 0) (r2 := 0) (r3 := 0) rfl rfl ?_
      refine wr_gx (k0 := mm_XB + (1 : Int).toNat) (v := vi 0) (nx := 23) (r1 := 1) (r2 := 0) (r3 := 1) rfl (by decide) (by decide) rfl ?_
      refine wi_if (cd := .ne) (nx := 26) (r1 := 35) (r2 := 0) (r3 := 0) rfl (by omega) (fun (q9 : 0 ≠ 0) => by exfalso; omega) (fun (q9 : ¬ (0 ≠ 0)) => ?_)
      refine wi_aload_n (i := 0) (x := 68) (nx := 27) (r1 := 0) (r2 := 0) (r3 := 0) rfl rfl ?_
      refine wr_gr (k0 := 68) (x := 1) (nx := 30) (r1 := 8) (r2 := 0) (r3 := 0) rfl rfl (by decide) rfl ⟨rfl, rfl⟩ rfl ?_
      refine wi_iconst (n := 1) (nx := 31) (r1 := 0) (r2 := 0) (r3 := 0) rfl ?_
      refine wr_V (k0 := 1) (rest := []) (as := [.ref 1, vi 1]) (nx := 34) (r1 := 101) (r2 := 1) (r3 := 1) rfl rfl rfl (of_decide_eq_true rfl) rfl rfl (by decide) rfl rfl (of_decide_eq_true rfl) (of_decide_eq_true rfl) ?_
      refine ct_101_1 hcr  g 1 (by omega)  (fun h10 z11 g10 u10 (fz11 : 0 ≤ z11 ∧ z11 ≤ 0) (p10_0 : z11 = 0) (p10_1 : (h10 1 2) = 1) (p10_2 : (h10 1 3) = (h 1 6)) => ?_)
      have F12 := F0.then (by decide +kernel) u10
      have b13 := gi_b (lo := -2147483648) (hi := 2147483647) g10 1 2 rfl
      have b14 := gi_b (lo := -2147483648) (hi := 2147483647) g10 1 3 rfl
      refine wk_i ?_
      refine wi_zreturn (nx := 35) (r1 := 0) (r2 := 0) (r3 := 0) rfl rfl (by omega) ?_
      have e15 : h10 1 4 = h 1 4 := (u10 1 4 rfl)
      have b16 := gi_b (lo := 0) (hi := 2) g 68 8 rfl
      have e17 : h10 68 8 = h 68 8 := (u10 68 8 rfl)
      have b18 := gi_b (lo := 0) (hi := 40) g 68 9 rfl
      have e19 : h10 68 9 = h 68 9 := (u10 68 9 rfl)
      exact k h10 z11 g10 F12 (by omega) (show z11 = 0 ∨ z11 = 1 by omega) (by unfold sc_cmd sc_hd sc_num sc_mk; (try dsimp only); (repeat (first | rw [if_pos (by omega)] | rw [if_neg (by omega)])); (repeat ((first | unfold sc_num | unfold sc_mk); (try dsimp only); (repeat (first | rw [if_pos (by omega)] | rw [if_neg (by omega)])))); first | exact sc_Oe (by omega) (by omega) (by omega) (by omega) | ((repeat' split) <;> (first | exact sc_Oe (by omega) (by omega) (by omega) (by omega) | (exfalso; omega))))
  ·
    refine wr_gi3 (k0 := 1) (x := 2) (nx := 7) (r1 := 1) (r2 := 9) (r3 := 0) rfl rfl (by decide) rfl ⟨rfl, rfl⟩ rfl q7 ?_
    refine wi_astore_n (i := 1) (x := mm_XB + (2 : Int).toNat) (lo2 := [(1, wv 2), (0, .ref 68)]) (nx := 8) (r1 := 0) (r2 := 0) (r3 := 0) rfl rfl ?_
    refine wi_aload_n (i := 0) (x := 68) (nx := 9) (r1 := 0) (r2 := 0) (r3 := 0) rfl rfl ?_
    refine wr_gr (k0 := 68) (x := 1) (nx := 12) (r1 := 8) (r2 := 0) (r3 := 0) rfl rfl (by decide) rfl ⟨rfl, rfl⟩ rfl ?_
    refine wr_gi0 (k0 := 1) (x := h 1 5) (nx := 15) (r1 := 1) (r2 := 5) (r3 := 0) rfl rfl (by decide) rfl ⟨rfl, rfl⟩ rfl rfl ?_
    refine wi_iconst (n := 1) (nx := 16) (r1 := 0) (r2 := 0) (r3 := 0) rfl ?_
    refine wi_icmp (cd := .ne) (nx := 19) (r1 := 26) (r2 := 0) (r3 := 0) rfl (by omega) (by omega) (fun (q8 : (h 1 5) ≠ 1) => ?_) (fun (q8 : ¬ ((h 1 5) ≠ 1)) => ?_)
    ·
      refine wi_aload_n (i := 0) (x := 68) (nx := 27) (r1 := 0) (r2 := 0) (r3 := 0) rfl rfl ?_
      refine wr_gr (k0 := 68) (x := 1) (nx := 30) (r1 := 8) (r2 := 0) (r3 := 0) rfl rfl (by decide) rfl ⟨rfl, rfl⟩ rfl ?_
      refine wi_iconst (n := 1) (nx := 31) (r1 := 0) (r2 := 0) (r3 := 0) rfl ?_
      refine wr_V (k0 := 1) (rest := []) (as := [.ref 1, vi 1]) (nx := 34) (r1 := 101) (r2 := 1) (r3 := 1) rfl rfl rfl (of_decide_eq_true rfl) rfl rfl (by decide) rfl rfl (of_decide_eq_true rfl) (of_decide_eq_true rfl) ?_
      refine ct_101_1 hcr  g 1 (by omega)  (fun h9 z10 g9 u9 (fz10 : 0 ≤ z10 ∧ z10 ≤ 0) (p9_0 : z10 = 0) (p9_1 : (h9 1 2) = 1) (p9_2 : (h9 1 3) = (h 1 6)) => ?_)
      have F11 := F0.then (by decide +kernel) u9
      have b12 := gi_b (lo := -2147483648) (hi := 2147483647) g9 1 2 rfl
      have b13 := gi_b (lo := -2147483648) (hi := 2147483647) g9 1 3 rfl
      refine wk_i ?_
      refine wi_zreturn (nx := 35) (r1 := 0) (r2 := 0) (r3 := 0) rfl rfl (by omega) ?_
      have e14 : h9 1 4 = h 1 4 := (u9 1 4 rfl)
      have b15 := gi_b (lo := 0) (hi := 2) g 68 8 rfl
      have e16 : h9 68 8 = h 68 8 := (u9 68 8 rfl)
      have b17 := gi_b (lo := 0) (hi := 40) g 68 9 rfl
      have e18 : h9 68 9 = h 68 9 := (u9 68 9 rfl)
      exact k h9 z10 g9 F11 (by omega) (show z10 = 0 ∨ z10 = 1 by omega) (by unfold sc_cmd sc_hd sc_num sc_mk; (try dsimp only); (repeat (first | rw [if_pos (by omega)] | rw [if_neg (by omega)])); (repeat ((first | unfold sc_num | unfold sc_mk); (try dsimp only); (repeat (first | rw [if_pos (by omega)] | rw [if_neg (by omega)])))); first | exact sc_Oe (by omega) (by omega) (by omega) (by omega) | ((repeat' split) <;> (first | exact sc_Oe (by omega) (by omega) (by omega) (by omega) | (exfalso; omega))))
    ·
      refine wi_aload_n (i := 1) (x := mm_XB + (2 : Int).toNat) (nx := 20) (r1 := 0) (r2 := 0) (r3 := 0) rfl rfl ?_
      refine wr_gx (k0 := mm_XB + (2 : Int).toNat) (v := vi 0) (nx := 23) (r1 := 1) (r2 := 0) (r3 := 1) rfl (by decide) (by decide) rfl ?_
      refine wi_if (cd := .ne) (nx := 26) (r1 := 35) (r2 := 0) (r3 := 0) rfl (by omega) (fun (q9 : 0 ≠ 0) => by exfalso; omega) (fun (q9 : ¬ (0 ≠ 0)) => ?_)
      refine wi_aload_n (i := 0) (x := 68) (nx := 27) (r1 := 0) (r2 := 0) (r3 := 0) rfl rfl ?_
      refine wr_gr (k0 := 68) (x := 1) (nx := 30) (r1 := 8) (r2 := 0) (r3 := 0) rfl rfl (by decide) rfl ⟨rfl, rfl⟩ rfl ?_
      refine wi_iconst (n := 1) (nx := 31) (r1 := 0) (r2 := 0) (r3 := 0) rfl ?_
      refine wr_V (k0 := 1) (rest := []) (as := [.ref 1, vi 1]) (nx := 34) (r1 := 101) (r2 := 1) (r3 := 1) rfl rfl rfl (of_decide_eq_true rfl) rfl rfl (by decide) rfl rfl (of_decide_eq_true rfl) (of_decide_eq_true rfl) ?_
      refine ct_101_1 hcr  g 1 (by omega)  (fun h10 z11 g10 u10 (fz11 : 0 ≤ z11 ∧ z11 ≤ 0) (p10_0 : z11 = 0) (p10_1 : (h10 1 2) = 1) (p10_2 : (h10 1 3) = (h 1 6)) => ?_)
      have F12 := F0.then (by decide +kernel) u10
      have b13 := gi_b (lo := -2147483648) (hi := 2147483647) g10 1 2 rfl
      have b14 := gi_b (lo := -2147483648) (hi := 2147483647) g10 1 3 rfl
      refine wk_i ?_
      refine wi_zreturn (nx := 35) (r1 := 0) (r2 := 0) (r3 := 0) rfl rfl (by omega) ?_
      have e15 : h10 1 4 = h 1 4 := (u10 1 4 rfl)
      have b16 := gi_b (lo := 0) (hi := 2) g 68 8 rfl
      have e17 : h10 68 8 = h 68 8 := (u10 68 8 rfl)
      have b18 := gi_b (lo := 0) (hi := 40) g 68 9 rfl
      have e19 : h10 68 9 = h 68 9 := (u10 68 9 rfl)
      exact k h10 z11 g10 F12 (by omega) (show z11 = 0 ∨ z11 = 1 by omega) (by unfold sc_cmd sc_hd sc_num sc_mk; (try dsimp only); (repeat (first | rw [if_pos (by omega)] | rw [if_neg (by omega)])); (repeat ((first | unfold sc_num | unfold sc_mk); (try dsimp only); (repeat (first | rw [if_pos (by omega)] | rw [if_neg (by omega)])))); first | exact sc_Oe (by omega) (by omega) (by omega) (by omega) | ((repeat' split) <;> (first | exact sc_Oe (by omega) (by omega) (by omega) (by omega) | (exfalso; omega))))
  ·
    refine wr_gi3 (k0 := 1) (x := 3) (nx := 7) (r1 := 1) (r2 := 9) (r3 := 0) rfl rfl (by decide) rfl ⟨rfl, rfl⟩ rfl q7 ?_
    refine wi_astore_n (i := 1) (x := mm_XB + (3 : Int).toNat) (lo2 := [(1, wv 3), (0, .ref 68)]) (nx := 8) (r1 := 0) (r2 := 0) (r3 := 0) rfl rfl ?_
    refine wi_aload_n (i := 0) (x := 68) (nx := 9) (r1 := 0) (r2 := 0) (r3 := 0) rfl rfl ?_
    refine wr_gr (k0 := 68) (x := 1) (nx := 12) (r1 := 8) (r2 := 0) (r3 := 0) rfl rfl (by decide) rfl ⟨rfl, rfl⟩ rfl ?_
    refine wr_gi0 (k0 := 1) (x := h 1 5) (nx := 15) (r1 := 1) (r2 := 5) (r3 := 0) rfl rfl (by decide) rfl ⟨rfl, rfl⟩ rfl rfl ?_
    refine wi_iconst (n := 1) (nx := 16) (r1 := 0) (r2 := 0) (r3 := 0) rfl ?_
    refine wi_icmp (cd := .ne) (nx := 19) (r1 := 26) (r2 := 0) (r3 := 0) rfl (by omega) (by omega) (fun (q8 : (h 1 5) ≠ 1) => ?_) (fun (q8 : ¬ ((h 1 5) ≠ 1)) => ?_)
    ·
      refine wi_aload_n (i := 0) (x := 68) (nx := 27) (r1 := 0) (r2 := 0) (r3 := 0) rfl rfl ?_
      refine wr_gr (k0 := 68) (x := 1) (nx := 30) (r1 := 8) (r2 := 0) (r3 := 0) rfl rfl (by decide) rfl ⟨rfl, rfl⟩ rfl ?_
      refine wi_iconst (n := 1) (nx := 31) (r1 := 0) (r2 := 0) (r3 := 0) rfl ?_
      refine wr_V (k0 := 1) (rest := []) (as := [.ref 1, vi 1]) (nx := 34) (r1 := 101) (r2 := 1) (r3 := 1) rfl rfl rfl (of_decide_eq_true rfl) rfl rfl (by decide) rfl rfl (of_decide_eq_true rfl) (of_decide_eq_true rfl) ?_
      refine ct_101_1 hcr  g 1 (by omega)  (fun h9 z10 g9 u9 (fz10 : 0 ≤ z10 ∧ z10 ≤ 0) (p9_0 : z10 = 0) (p9_1 : (h9 1 2) = 1) (p9_2 : (h9 1 3) = (h 1 6)) => ?_)
      have F11 := F0.then (by decide +kernel) u9
      have b12 := gi_b (lo := -2147483648) (hi := 2147483647) g9 1 2 rfl
      have b13 := gi_b (lo := -2147483648) (hi := 2147483647) g9 1 3 rfl
      refine wk_i ?_
      refine wi_zreturn (nx := 35) (r1 := 0) (r2 := 0) (r3 := 0) rfl rfl (by omega) ?_
      have e14 : h9 1 4 = h 1 4 := (u9 1 4 rfl)
      have b15 := gi_b (lo := 0) (hi := 2) g 68 8 rfl
      have e16 : h9 68 8 = h 68 8 := (u9 68 8 rfl)
      have b17 := gi_b (lo := 0) (hi := 40) g 68 9 rfl
      have e18 : h9 68 9 = h 68 9 := (u9 68 9 rfl)
      exact k h9 z10 g9 F11 (by omega) (show z10 = 0 ∨ z10 = 1 by omega) (by unfold sc_cmd sc_hd sc_num sc_mk; (try dsimp only); (repeat (first | rw [if_pos (by omega)] | rw [if_neg (by omega)])); (repeat ((first | unfold sc_num | unfold sc_mk); (try dsimp only); (repeat (first | rw [if_pos (by omega)] | rw [if_neg (by omega)])))); first | exact sc_Oe (by omega) (by omega) (by omega) (by omega) | ((repeat' split) <;> (first | exact sc_Oe (by omega) (by omega) (by omega) (by omega) | (exfalso; omega))))
    ·
      refine wi_aload_n (i := 1) (x := mm_XB + (3 : Int).toNat) (nx := 20) (r1 := 0) (r2 := 0) (r3 := 0) rfl rfl ?_
      refine wr_gx (k0 := mm_XB + (3 : Int).toNat) (v := vi 0) (nx := 23) (r1 := 1) (r2 := 0) (r3 := 1) rfl (by decide) (by decide) rfl ?_
      refine wi_if (cd := .ne) (nx := 26) (r1 := 35) (r2 := 0) (r3 := 0) rfl (by omega) (fun (q9 : 0 ≠ 0) => by exfalso; omega) (fun (q9 : ¬ (0 ≠ 0)) => ?_)
      refine wi_aload_n (i := 0) (x := 68) (nx := 27) (r1 := 0) (r2 := 0) (r3 := 0) rfl rfl ?_
      refine wr_gr (k0 := 68) (x := 1) (nx := 30) (r1 := 8) (r2 := 0) (r3 := 0) rfl rfl (by decide) rfl ⟨rfl, rfl⟩ rfl ?_
      refine wi_iconst (n := 1) (nx := 31) (r1 := 0) (r2 := 0) (r3 := 0) rfl ?_
      refine wr_V (k0 := 1) (rest := []) (as := [.ref 1, vi 1]) (nx := 34) (r1 := 101) (r2 := 1) (r3 := 1) rfl rfl rfl (of_decide_eq_true rfl) rfl rfl (by decide) rfl rfl (of_decide_eq_true rfl) (of_decide_eq_true rfl) ?_
      refine ct_101_1 hcr  g 1 (by omega)  (fun h10 z11 g10 u10 (fz11 : 0 ≤ z11 ∧ z11 ≤ 0) (p10_0 : z11 = 0) (p10_1 : (h10 1 2) = 1) (p10_2 : (h10 1 3) = (h 1 6)) => ?_)
      have F12 := F0.then (by decide +kernel) u10
      have b13 := gi_b (lo := -2147483648) (hi := 2147483647) g10 1 2 rfl
      have b14 := gi_b (lo := -2147483648) (hi := 2147483647) g10 1 3 rfl
      refine wk_i ?_
      refine wi_zreturn (nx := 35) (r1 := 0) (r2 := 0) (r3 := 0) rfl rfl (by omega) ?_
      have e15 : h10 1 4 = h 1 4 := (u10 1 4 rfl)
      have b16 := gi_b (lo := 0) (hi := 2) g 68 8 rfl
      have e17 : h10 68 8 = h 68 8 := (u10 68 8 rfl)
      have b18 := gi_b (lo := 0) (hi := 40) g 68 9 rfl
      have e19 : h10 68 9 = h 68 9 := (u10 68 9 rfl)
      exact k h10 z11 g10 F12 (by omega) (show z11 = 0 ∨ z11 = 1 by omega) (by unfold sc_cmd sc_hd sc_num sc_mk; (try dsimp only); (repeat (first | rw [if_pos (by omega)] | rw [if_neg (by omega)])); (repeat ((first | unfold sc_num | unfold sc_mk); (try dsimp only); (repeat (first | rw [if_pos (by omega)] | rw [if_neg (by omega)])))); first | exact sc_Oe (by omega) (by omega) (by omega) (by omega) | ((repeat' split) <;> (first | exact sc_Oe (by omega) (by omega) (by omega) (by omega) | (exfalso; omega))))
  ·
    refine wr_gi3 (k0 := 1) (x := 4) (nx := 7) (r1 := 1) (r2 := 9) (r3 := 0) rfl rfl (by decide) rfl ⟨rfl, rfl⟩ rfl q7 ?_
    refine wi_astore_n (i := 1) (x := mm_XB + (4 : Int).toNat) (lo2 := [(1, wv 4), (0, .ref 68)]) (nx := 8) (r1 := 0) (r2 := 0) (r3 := 0) rfl rfl ?_
    refine wi_aload_n (i := 0) (x := 68) (nx := 9) (r1 := 0) (r2 := 0) (r3 := 0) rfl rfl ?_
    refine wr_gr (k0 := 68) (x := 1) (nx := 12) (r1 := 8) (r2 := 0) (r3 := 0) rfl rfl (by decide) rfl ⟨rfl, rfl⟩ rfl ?_
    refine wr_gi0 (k0 := 1) (x := h 1 5) (nx := 15) (r1 := 1) (r2 := 5) (r3 := 0) rfl rfl (by decide) rfl ⟨rfl, rfl⟩ rfl rfl ?_
    refine wi_iconst (n := 1) (nx := 16) (r1 := 0) (r2 := 0) (r3 := 0) rfl ?_
    refine wi_icmp (cd := .ne) (nx := 19) (r1 := 26) (r2 := 0) (r3 := 0) rfl (by omega) (by omega) (fun (q8 : (h 1 5) ≠ 1) => ?_) (fun (q8 : ¬ ((h 1 5) ≠ 1)) => ?_)
    ·
      refine wi_aload_n (i := 0) (x := 68) (nx := 27) (r1 := 0) (r2 := 0) (r3 := 0) rfl rfl ?_
      refine wr_gr (k0 := 68) (x := 1) (nx := 30) (r1 := 8) (r2 := 0) (r3 := 0) rfl rfl (by decide) rfl ⟨rfl, rfl⟩ rfl ?_
      refine wi_iconst (n := 1) (nx := 31) (r1 := 0) (r2 := 0) (r3 := 0) rfl ?_
      refine wr_V (k0 := 1) (rest := []) (as := [.ref 1, vi 1]) (nx := 34) (r1 := 101) (r2 := 1) (r3 := 1) rfl rfl rfl (of_decide_eq_true rfl) rfl rfl (by decide) rfl rfl (of_decide_eq_true rfl) (of_decide_eq_true rfl) ?_
      refine ct_101_1 hcr  g 1 (by omega)  (fun h9 z10 g9 u9 (fz10 : 0 ≤ z10 ∧ z10 ≤ 0) (p9_0 : z10 = 0) (p9_1 : (h9 1 2) = 1) (p9_2 : (h9 1 3) = (h 1 6)) => ?_)
      have F11 := F0.then (by decide +kernel) u9
      have b12 := gi_b (lo := -2147483648) (hi := 2147483647) g9 1 2 rfl
      have b13 := gi_b (lo := -2147483648) (hi := 2147483647) g9 1 3 rfl
      refine wk_i ?_
      refine wi_zreturn (nx := 35) (r1 := 0) (r2 := 0) (r3 := 0) rfl rfl (by omega) ?_
      have e14 : h9 1 4 = h 1 4 := (u9 1 4 rfl)
      have b15 := gi_b (lo := 0) (hi := 2) g 68 8 rfl
      have e16 : h9 68 8 = h 68 8 := (u9 68 8 rfl)
      have b17 := gi_b (lo := 0) (hi := 40) g 68 9 rfl
      have e18 : h9 68 9 = h 68 9 := (u9 68 9 rfl)
      exact k h9 z10 g9 F11 (by omega) (show z10 = 0 ∨ z10 = 1 by omega) (by unfold sc_cmd sc_hd sc_num sc_mk; (try dsimp only); (repeat (first | rw [if_pos (by omega)] | rw [if_neg (by omega)])); (repeat ((first | unfold sc_num | unfold sc_mk); (try dsimp only); (repeat (first | rw [if_pos (by omega)] | rw [if_neg (by omega)])))); first | exact sc_Oe (by omega) (by omega) (by omega) (by omega) | ((repeat' split) <;> (first | exact sc_Oe (by omega) (by omega) (by omega) (by omega) | (exfalso; omega))))
    ·
      refine wi_aload_n (i := 1) (x := mm_XB + (4 : Int).toNat) (nx := 20) (r1 := 0) (r2 := 0) (r3 := 0) rfl rfl ?_
      refine wr_gx (k0 := mm_XB + (4 : Int).toNat) (v := vi 0) (nx := 23) (r1 := 1) (r2 := 0) (r3 := 1) rfl (by decide) (by decide) rfl ?_
      refine wi_if (cd := .ne) (nx := 26) (r1 := 35) (r2 := 0) (r3 := 0) rfl (by omega) (fun (q9 : 0 ≠ 0) => by exfalso; omega) (fun (q9 : ¬ (0 ≠ 0)) => ?_)
      refine wi_aload_n (i := 0) (x := 68) (nx := 27) (r1 := 0) (r2 := 0) (r3 := 0) rfl rfl ?_
      refine wr_gr (k0 := 68) (x := 1) (nx := 30) (r1 := 8) (r2 := 0) (r3 := 0) rfl rfl (by decide) rfl ⟨rfl, rfl⟩ rfl ?_
      refine wi_iconst (n := 1) (nx := 31) (r1 := 0) (r2 := 0) (r3 := 0) rfl ?_
      refine wr_V (k0 := 1) (rest := []) (as := [.ref 1, vi 1]) (nx := 34) (r1 := 101) (r2 := 1) (r3 := 1) rfl rfl rfl (of_decide_eq_true rfl) rfl rfl (by decide) rfl rfl (of_decide_eq_true rfl) (of_decide_eq_true rfl) ?_
      refine ct_101_1 hcr  g 1 (by omega)  (fun h10 z11 g10 u10 (fz11 : 0 ≤ z11 ∧ z11 ≤ 0) (p10_0 : z11 = 0) (p10_1 : (h10 1 2) = 1) (p10_2 : (h10 1 3) = (h 1 6)) => ?_)
      have F12 := F0.then (by decide +kernel) u10
      have b13 := gi_b (lo := -2147483648) (hi := 2147483647) g10 1 2 rfl
      have b14 := gi_b (lo := -2147483648) (hi := 2147483647) g10 1 3 rfl
      refine wk_i ?_
      refine wi_zreturn (nx := 35) (r1 := 0) (r2 := 0) (r3 := 0) rfl rfl (by omega) ?_
      have e15 : h10 1 4 = h 1 4 := (u10 1 4 rfl)
      have b16 := gi_b (lo := 0) (hi := 2) g 68 8 rfl
      have e17 : h10 68 8 = h 68 8 := (u10 68 8 rfl)
      have b18 := gi_b (lo := 0) (hi := 40) g 68 9 rfl
      have e19 : h10 68 9 = h 68 9 := (u10 68 9 rfl)
      exact k h10 z11 g10 F12 (by omega) (show z11 = 0 ∨ z11 = 1 by omega) (by unfold sc_cmd sc_hd sc_num sc_mk; (try dsimp only); (repeat (first | rw [if_pos (by omega)] | rw [if_neg (by omega)])); (repeat ((first | unfold sc_num | unfold sc_mk); (try dsimp only); (repeat (first | rw [if_pos (by omega)] | rw [if_neg (by omega)])))); first | exact sc_Oe (by omega) (by omega) (by omega) (by omega) | ((repeat' split) <;> (first | exact sc_Oe (by omega) (by omega) (by omega) (by omega) | (exfalso; omega))))
  ·
    refine wr_gi3 (k0 := 1) (x := 5) (nx := 7) (r1 := 1) (r2 := 9) (r3 := 0) rfl rfl (by decide) rfl ⟨rfl, rfl⟩ rfl q7 ?_
    refine wi_astore_n (i := 1) (x := mm_XB + (5 : Int).toNat) (lo2 := [(1, wv 5), (0, .ref 68)]) (nx := 8) (r1 := 0) (r2 := 0) (r3 := 0) rfl rfl ?_
    refine wi_aload_n (i := 0) (x := 68) (nx := 9) (r1 := 0) (r2 := 0) (r3 := 0) rfl rfl ?_
    refine wr_gr (k0 := 68) (x := 1) (nx := 12) (r1 := 8) (r2 := 0) (r3 := 0) rfl rfl (by decide) rfl ⟨rfl, rfl⟩ rfl ?_
    refine wr_gi0 (k0 := 1) (x := h 1 5) (nx := 15) (r1 := 1) (r2 := 5) (r3 := 0) rfl rfl (by decide) rfl ⟨rfl, rfl⟩ rfl rfl ?_
    refine wi_iconst (n := 1) (nx := 16) (r1 := 0) (r2 := 0) (r3 := 0) rfl ?_
    refine wi_icmp (cd := .ne) (nx := 19) (r1 := 26) (r2 := 0) (r3 := 0) rfl (by omega) (by omega) (fun (q8 : (h 1 5) ≠ 1) => ?_) (fun (q8 : ¬ ((h 1 5) ≠ 1)) => ?_)
    ·
      refine wi_aload_n (i := 0) (x := 68) (nx := 27) (r1 := 0) (r2 := 0) (r3 := 0) rfl rfl ?_
      refine wr_gr (k0 := 68) (x := 1) (nx := 30) (r1 := 8) (r2 := 0) (r3 := 0) rfl rfl (by decide) rfl ⟨rfl, rfl⟩ rfl ?_
      refine wi_iconst (n := 1) (nx := 31) (r1 := 0) (r2 := 0) (r3 := 0) rfl ?_
      refine wr_V (k0 := 1) (rest := []) (as := [.ref 1, vi 1]) (nx := 34) (r1 := 101) (r2 := 1) (r3 := 1) rfl rfl rfl (of_decide_eq_true rfl) rfl rfl (by decide) rfl rfl (of_decide_eq_true rfl) (of_decide_eq_true rfl) ?_
      refine ct_101_1 hcr  g 1 (by omega)  (fun h9 z10 g9 u9 (fz10 : 0 ≤ z10 ∧ z10 ≤ 0) (p9_0 : z10 = 0) (p9_1 : (h9 1 2) = 1) (p9_2 : (h9 1 3) = (h 1 6)) => ?_)
      have F11 := F0.then (by decide +kernel) u9
      have b12 := gi_b (lo := -2147483648) (hi := 2147483647) g9 1 2 rfl
      have b13 := gi_b (lo := -2147483648) (hi := 2147483647) g9 1 3 rfl
      refine wk_i ?_
      refine wi_zreturn (nx := 35) (r1 := 0) (r2 := 0) (r3 := 0) rfl rfl (by omega) ?_
      have e14 : h9 1 4 = h 1 4 := (u9 1 4 rfl)
      have b15 := gi_b (lo := 0) (hi := 2) g 68 8 rfl
      have e16 : h9 68 8 = h 68 8 := (u9 68 8 rfl)
      have b17 := gi_b (lo := 0) (hi := 40) g 68 9 rfl
      have e18 : h9 68 9 = h 68 9 := (u9 68 9 rfl)
      exact k h9 z10 g9 F11 (by omega) (show z10 = 0 ∨ z10 = 1 by omega) (by unfold sc_cmd sc_hd sc_num sc_mk; (try dsimp only); (repeat (first | rw [if_pos (by omega)] | rw [if_neg (by omega)])); (repeat ((first | unfold sc_num | unfold sc_mk); (try dsimp only); (repeat (first | rw [if_pos (by omega)] | rw [if_neg (by omega)])))); first | exact sc_Oe (by omega) (by omega) (by omega) (by omega) | ((repeat' split) <;> (first | exact sc_Oe (by omega) (by omega) (by omega) (by omega) | (exfalso; omega))))
    ·
      refine wi_aload_n (i := 1) (x := mm_XB + (5 : Int).toNat) (nx := 20) (r1 := 0) (r2 := 0) (r3 := 0) rfl rfl ?_
      refine wr_gx (k0 := mm_XB + (5 : Int).toNat) (v := vi 0) (nx := 23) (r1 := 1) (r2 := 0) (r3 := 1) rfl (by decide) (by decide) rfl ?_
      refine wi_if (cd := .ne) (nx := 26) (r1 := 35) (r2 := 0) (r3 := 0) rfl (by omega) (fun (q9 : 0 ≠ 0) => by exfalso; omega) (fun (q9 : ¬ (0 ≠ 0)) => ?_)
      refine wi_aload_n (i := 0) (x := 68) (nx := 27) (r1 := 0) (r2 := 0) (r3 := 0) rfl rfl ?_
      refine wr_gr (k0 := 68) (x := 1) (nx := 30) (r1 := 8) (r2 := 0) (r3 := 0) rfl rfl (by decide) rfl ⟨rfl, rfl⟩ rfl ?_
      refine wi_iconst (n := 1) (nx := 31) (r1 := 0) (r2 := 0) (r3 := 0) rfl ?_
      refine wr_V (k0 := 1) (rest := []) (as := [.ref 1, vi 1]) (nx := 34) (r1 := 101) (r2 := 1) (r3 := 1) rfl rfl rfl (of_decide_eq_true rfl) rfl rfl (by decide) rfl rfl (of_decide_eq_true rfl) (of_decide_eq_true rfl) ?_
      refine ct_101_1 hcr  g 1 (by omega)  (fun h10 z11 g10 u10 (fz11 : 0 ≤ z11 ∧ z11 ≤ 0) (p10_0 : z11 = 0) (p10_1 : (h10 1 2) = 1) (p10_2 : (h10 1 3) = (h 1 6)) => ?_)
      have F12 := F0.then (by decide +kernel) u10
      have b13 := gi_b (lo := -2147483648) (hi := 2147483647) g10 1 2 rfl
      have b14 := gi_b (lo := -2147483648) (hi := 2147483647) g10 1 3 rfl
      refine wk_i ?_
      refine wi_zreturn (nx := 35) (r1 := 0) (r2 := 0) (r3 := 0) rfl rfl (by omega) ?_
      have e15 : h10 1 4 = h 1 4 := (u10 1 4 rfl)
      have b16 := gi_b (lo := 0) (hi := 2) g 68 8 rfl
      have e17 : h10 68 8 = h 68 8 := (u10 68 8 rfl)
      have b18 := gi_b (lo := 0) (hi := 40) g 68 9 rfl
      have e19 : h10 68 9 = h 68 9 := (u10 68 9 rfl)
      exact k h10 z11 g10 F12 (by omega) (show z11 = 0 ∨ z11 = 1 by omega) (by unfold sc_cmd sc_hd sc_num sc_mk; (try dsimp only); (repeat (first | rw [if_pos (by omega)] | rw [if_neg (by omega)])); (repeat ((first | unfold sc_num | unfold sc_mk); (try dsimp only); (repeat (first | rw [if_pos (by omega)] | rw [if_neg (by omega)])))); first | exact sc_Oe (by omega) (by omega) (by omega) (by omega) | ((repeat' split) <;> (first | exact sc_Oe (by omega) (by omega) (by omega) (by omega) | (exfalso; omega))))
  ·
    refine wr_gi3 (k0 := 1) (x := 6) (nx := 7) (r1 := 1) (r2 := 9) (r3 := 0) rfl rfl (by decide) rfl ⟨rfl, rfl⟩ rfl q7 ?_
    refine wi_astore_n (i := 1) (x := mm_XB + (6 : Int).toNat) (lo2 := [(1, wv 6), (0, .ref 68)]) (nx := 8) (r1 := 0) (r2 := 0) (r3 := 0) rfl rfl ?_
    refine wi_aload_n (i := 0) (x := 68) (nx := 9) (r1 := 0) (r2 := 0) (r3 := 0) rfl rfl ?_
    refine wr_gr (k0 := 68) (x := 1) (nx := 12) (r1 := 8) (r2 := 0) (r3 := 0) rfl rfl (by decide) rfl ⟨rfl, rfl⟩ rfl ?_
    refine wr_gi0 (k0 := 1) (x := h 1 5) (nx := 15) (r1 := 1) (r2 := 5) (r3 := 0) rfl rfl (by decide) rfl ⟨rfl, rfl⟩ rfl rfl ?_
    refine wi_iconst (n := 1) (nx := 16) (r1 := 0) (r2 := 0) (r3 := 0) rfl ?_
    refine wi_icmp (cd := .ne) (nx := 19) (r1 := 26) (r2 := 0) (r3 := 0) rfl (by omega) (by omega) (fun (q8 : (h 1 5) ≠ 1) => ?_) (fun (q8 : ¬ ((h 1 5) ≠ 1)) => ?_)
    ·
      refine wi_aload_n (i := 0) (x := 68) (nx := 27) (r1 := 0) (r2 := 0) (r3 := 0) rfl rfl ?_
      refine wr_gr (k0 := 68) (x := 1) (nx := 30) (r1 := 8) (r2 := 0) (r3 := 0) rfl rfl (by decide) rfl ⟨rfl, rfl⟩ rfl ?_
      refine wi_iconst (n := 1) (nx := 31) (r1 := 0) (r2 := 0) (r3 := 0) rfl ?_
      refine wr_V (k0 := 1) (rest := []) (as := [.ref 1, vi 1]) (nx := 34) (r1 := 101) (r2 := 1) (r3 := 1) rfl rfl rfl (of_decide_eq_true rfl) rfl rfl (by decide) rfl rfl (of_decide_eq_true rfl) (of_decide_eq_true rfl) ?_
      refine ct_101_1 hcr  g 1 (by omega)  (fun h9 z10 g9 u9 (fz10 : 0 ≤ z10 ∧ z10 ≤ 0) (p9_0 : z10 = 0) (p9_1 : (h9 1 2) = 1) (p9_2 : (h9 1 3) = (h 1 6)) => ?_)
      have F11 := F0.then (by decide +kernel) u9
      have b12 := gi_b (lo := -2147483648) (hi := 2147483647) g9 1 2 rfl
      have b13 := gi_b (lo := -2147483648) (hi := 2147483647) g9 1 3 rfl
      refine wk_i ?_
      refine wi_zreturn (nx := 35) (r1 := 0) (r2 := 0) (r3 := 0) rfl rfl (by omega) ?_
      have e14 : h9 1 4 = h 1 4 := (u9 1 4 rfl)
      have b15 := gi_b (lo := 0) (hi := 2) g 68 8 rfl
      have e16 : h9 68 8 = h 68 8 := (u9 68 8 rfl)
      have b17 := gi_b (lo := 0) (hi := 40) g 68 9 rfl
      have e18 : h9 68 9 = h 68 9 := (u9 68 9 rfl)
      exact k h9 z10 g9 F11 (by omega) (show z10 = 0 ∨ z10 = 1 by omega) (by unfold sc_cmd sc_hd sc_num sc_mk; (try dsimp only); (repeat (first | rw [if_pos (by omega)] | rw [if_neg (by omega)])); (repeat ((first | unfold sc_num | unfold sc_mk); (try dsimp only); (repeat (first | rw [if_pos (by omega)] | rw [if_neg (by omega)])))); first | exact sc_Oe (by omega) (by omega) (by omega) (by omega) | ((repeat' split) <;> (first | exact sc_Oe (by omega) (by omega) (by omega) (by omega) | (exfalso; omega))))
    ·
      refine wi_aload_n (i := 1) (x := mm_XB + (6 : Int).toNat) (nx := 20) (r1 := 0) (r2 := 0) (r3 := 0) rfl rfl ?_
      refine wr_gx (k0 := mm_XB + (6 : Int).toNat) (v := vi 0) (nx := 23) (r1 := 1) (r2 := 0) (r3 := 1) rfl (by decide) (by decide) rfl ?_
      refine wi_if (cd := .ne) (nx := 26) (r1 := 35) (r2 := 0) (r3 := 0) rfl (by omega) (fun (q9 : 0 ≠ 0) => by exfalso; omega) (fun (q9 : ¬ (0 ≠ 0)) => ?_)
      refine wi_aload_n (i := 0) (x := 68) (nx := 27) (r1 := 0) (r2 := 0) (r3 := 0) rfl rfl ?_
      refine wr_gr (k0 := 68) (x := 1) (nx := 30) (r1 := 8) (r2 := 0) (r3 := 0) rfl rfl (by decide) rfl ⟨rfl, rfl⟩ rfl ?_
      refine wi_iconst (n := 1) (nx := 31) (r1 := 0) (r2 := 0) (r3 := 0) rfl ?_
      refine wr_V (k0 := 1) (rest := []) (as := [.ref 1, vi 1]) (nx := 34) (r1 := 101) (r2 := 1) (r3 := 1) rfl rfl rfl (of_decide_eq_true rfl) rfl rfl (by decide) rfl rfl (of_decide_eq_true rfl) (of_decide_eq_true rfl) ?_
      refine ct_101_1 hcr  g 1 (by omega)  (fun h10 z11 g10 u10 (fz11 : 0 ≤ z11 ∧ z11 ≤ 0) (p10_0 : z11 = 0) (p10_1 : (h10 1 2) = 1) (p10_2 : (h10 1 3) = (h 1 6)) => ?_)
      have F12 := F0.then (by decide +kernel) u10
      have b13 := gi_b (lo := -2147483648) (hi := 2147483647) g10 1 2 rfl
      have b14 := gi_b (lo := -2147483648) (hi := 2147483647) g10 1 3 rfl
      refine wk_i ?_
      refine wi_zreturn (nx := 35) (r1 := 0) (r2 := 0) (r3 := 0) rfl rfl (by omega) ?_
      have e15 : h10 1 4 = h 1 4 := (u10 1 4 rfl)
      have b16 := gi_b (lo := 0) (hi := 2) g 68 8 rfl
      have e17 : h10 68 8 = h 68 8 := (u10 68 8 rfl)
      have b18 := gi_b (lo := 0) (hi := 40) g 68 9 rfl
      have e19 : h10 68 9 = h 68 9 := (u10 68 9 rfl)
      exact k h10 z11 g10 F12 (by omega) (show z11 = 0 ∨ z11 = 1 by omega) (by unfold sc_cmd sc_hd sc_num sc_mk; (try dsimp only); (repeat (first | rw [if_pos (by omega)] | rw [if_neg (by omega)])); (repeat ((first | unfold sc_num | unfold sc_mk); (try dsimp only); (repeat (first | rw [if_pos (by omega)] | rw [if_neg (by omega)])))); first | exact sc_Oe (by omega) (by omega) (by omega) (by omega) | ((repeat' split) <;> (first | exact sc_Oe (by omega) (by omega) (by omega) (by omega) | (exfalso; omega))))
  ·
    refine wr_gi3 (k0 := 1) (x := 7) (nx := 7) (r1 := 1) (r2 := 9) (r3 := 0) rfl rfl (by decide) rfl ⟨rfl, rfl⟩ rfl q7 ?_
    refine wi_astore_n (i := 1) (x := mm_XB + (7 : Int).toNat) (lo2 := [(1, wv 7), (0, .ref 68)]) (nx := 8) (r1 := 0) (r2 := 0) (r3 := 0) rfl rfl ?_
    refine wi_aload_n (i := 0) (x := 68) (nx := 9) (r1 := 0) (r2 := 0) (r3 := 0) rfl rfl ?_
    refine wr_gr (k0 := 68) (x := 1) (nx := 12) (r1 := 8) (r2 := 0) (r3 := 0) rfl rfl (by decide) rfl ⟨rfl, rfl⟩ rfl ?_
    refine wr_gi0 (k0 := 1) (x := h 1 5) (nx := 15) (r1 := 1) (r2 := 5) (r3 := 0) rfl rfl (by decide) rfl ⟨rfl, rfl⟩ rfl rfl ?_
    refine wi_iconst (n := 1) (nx := 16) (r1 := 0) (r2 := 0) (r3 := 0) rfl ?_
    refine wi_icmp (cd := .ne) (nx := 19) (r1 := 26) (r2 := 0) (r3 := 0) rfl (by omega) (by omega) (fun (q8 : (h 1 5) ≠ 1) => ?_) (fun (q8 : ¬ ((h 1 5) ≠ 1)) => ?_)
    ·
      refine wi_aload_n (i := 0) (x := 68) (nx := 27) (r1 := 0) (r2 := 0) (r3 := 0) rfl rfl ?_
      refine wr_gr (k0 := 68) (x := 1) (nx := 30) (r1 := 8) (r2 := 0) (r3 := 0) rfl rfl (by decide) rfl ⟨rfl, rfl⟩ rfl ?_
      refine wi_iconst (n := 1) (nx := 31) (r1 := 0) (r2 := 0) (r3 := 0) rfl ?_
      refine wr_V (k0 := 1) (rest := []) (as := [.ref 1, vi 1]) (nx := 34) (r1 := 101) (r2 := 1) (r3 := 1) rfl rfl rfl (of_decide_eq_true rfl) rfl rfl (by decide) rfl rfl (of_decide_eq_true rfl) (of_decide_eq_true rfl) ?_
      refine ct_101_1 hcr  g 1 (by omega)  (fun h9 z10 g9 u9 (fz10 : 0 ≤ z10 ∧ z10 ≤ 0) (p9_0 : z10 = 0) (p9_1 : (h9 1 2) = 1) (p9_2 : (h9 1 3) = (h 1 6)) => ?_)
      have F11 := F0.then (by decide +kernel) u9
      have b12 := gi_b (lo := -2147483648) (hi := 2147483647) g9 1 2 rfl
      have b13 := gi_b (lo := -2147483648) (hi := 2147483647) g9 1 3 rfl
      refine wk_i ?_
      refine wi_zreturn (nx := 35) (r1 := 0) (r2 := 0) (r3 := 0) rfl rfl (by omega) ?_
      have e14 : h9 1 4 = h 1 4 := (u9 1 4 rfl)
      have b15 := gi_b (lo := 0) (hi := 2) g 68 8 rfl
      have e16 : h9 68 8 = h 68 8 := (u9 68 8 rfl)
      have b17 := gi_b (lo := 0) (hi := 40) g 68 9 rfl
      have e18 : h9 68 9 = h 68 9 := (u9 68 9 rfl)
      exact k h9 z10 g9 F11 (by omega) (show z10 = 0 ∨ z10 = 1 by omega) (by unfold sc_cmd sc_hd sc_num sc_mk; (try dsimp only); (repeat (first | rw [if_pos (by omega)] | rw [if_neg (by omega)])); (repeat ((first | unfold sc_num | unfold sc_mk); (try dsimp only); (repeat (first | rw [if_pos (by omega)] | rw [if_neg (by omega)])))); first | exact sc_Oe (by omega) (by omega) (by omega) (by omega) | ((repeat' split) <;> (first | exact sc_Oe (by omega) (by omega) (by omega) (by omega) | (exfalso; omega))))
    ·
      refine wi_aload_n (i := 1) (x := mm_XB + (7 : Int).toNat) (nx := 20) (r1 := 0) (r2 := 0) (r3 := 0) rfl rfl ?_
      refine wr_gx (k0 := mm_XB + (7 : Int).toNat) (v := vi 0) (nx := 23) (r1 := 1) (r2 := 0) (r3 := 1) rfl (by decide) (by decide) rfl ?_
      refine wi_if (cd := .ne) (nx := 26) (r1 := 35) (r2 := 0) (r3 := 0) rfl (by omega) (fun (q9 : 0 ≠ 0) => by exfalso; omega) (fun (q9 : ¬ (0 ≠ 0)) => ?_)
      refine wi_aload_n (i := 0) (x := 68) (nx := 27) (r1 := 0) (r2 := 0) (r3 := 0) rfl rfl ?_
      refine wr_gr (k0 := 68) (x := 1) (nx := 30) (r1 := 8) (r2 := 0) (r3 := 0) rfl rfl (by decide) rfl ⟨rfl, rfl⟩ rfl ?_
      refine wi_iconst (n := 1) (nx := 31) (r1 := 0) (r2 := 0) (r3 := 0) rfl ?_
      refine wr_V (k0 := 1) (rest := []) (as := [.ref 1, vi 1]) (nx := 34) (r1 := 101) (r2 := 1) (r3 := 1) rfl rfl rfl (of_decide_eq_true rfl) rfl rfl (by decide) rfl rfl (of_decide_eq_true rfl) (of_decide_eq_true rfl) ?_
      refine ct_101_1 hcr  g 1 (by omega)  (fun h10 z11 g10 u10 (fz11 : 0 ≤ z11 ∧ z11 ≤ 0) (p10_0 : z11 = 0) (p10_1 : (h10 1 2) = 1) (p10_2 : (h10 1 3) = (h 1 6)) => ?_)
      have F12 := F0.then (by decide +kernel) u10
      have b13 := gi_b (lo := -2147483648) (hi := 2147483647) g10 1 2 rfl
      have b14 := gi_b (lo := -2147483648) (hi := 2147483647) g10 1 3 rfl
      refine wk_i ?_
      refine wi_zreturn (nx := 35) (r1 := 0) (r2 := 0) (r3 := 0) rfl rfl (by omega) ?_
      have e15 : h10 1 4 = h 1 4 := (u10 1 4 rfl)
      have b16 := gi_b (lo := 0) (hi := 2) g 68 8 rfl
      have e17 : h10 68 8 = h 68 8 := (u10 68 8 rfl)
      have b18 := gi_b (lo := 0) (hi := 40) g 68 9 rfl
      have e19 : h10 68 9 = h 68 9 := (u10 68 9 rfl)
      exact k h10 z11 g10 F12 (by omega) (show z11 = 0 ∨ z11 = 1 by omega) (by unfold sc_cmd sc_hd sc_num sc_mk; (try dsimp only); (repeat (first | rw [if_pos (by omega)] | rw [if_neg (by omega)])); (repeat ((first | unfold sc_num | unfold sc_mk); (try dsimp only); (repeat (first | rw [if_pos (by omega)] | rw [if_neg (by omega)])))); first | exact sc_Oe (by omega) (by omega) (by omega) (by omega) | ((repeat' split) <;> (first | exact sc_Oe (by omega) (by omega) (by omega) (by omega) | (exfalso; omega))))
  ·
    refine wr_gi3 (k0 := 1) (x := 8) (nx := 7) (r1 := 1) (r2 := 9) (r3 := 0) rfl rfl (by decide) rfl ⟨rfl, rfl⟩ rfl q7 ?_
    refine wi_astore_n (i := 1) (x := mm_XB + (8 : Int).toNat) (lo2 := [(1, wv 8), (0, .ref 68)]) (nx := 8) (r1 := 0) (r2 := 0) (r3 := 0) rfl rfl ?_
    refine wi_aload_n (i := 0) (x := 68) (nx := 9) (r1 := 0) (r2 := 0) (r3 := 0) rfl rfl ?_
    refine wr_gr (k0 := 68) (x := 1) (nx := 12) (r1 := 8) (r2 := 0) (r3 := 0) rfl rfl (by decide) rfl ⟨rfl, rfl⟩ rfl ?_
    refine wr_gi0 (k0 := 1) (x := h 1 5) (nx := 15) (r1 := 1) (r2 := 5) (r3 := 0) rfl rfl (by decide) rfl ⟨rfl, rfl⟩ rfl rfl ?_
    refine wi_iconst (n := 1) (nx := 16) (r1 := 0) (r2 := 0) (r3 := 0) rfl ?_
    refine wi_icmp (cd := .ne) (nx := 19) (r1 := 26) (r2 := 0) (r3 := 0) rfl (by omega) (by omega) (fun (q8 : (h 1 5) ≠ 1) => ?_) (fun (q8 : ¬ ((h 1 5) ≠ 1)) => ?_)
    ·
      refine wi_aload_n (i := 0) (x := 68) (nx := 27) (r1 := 0) (r2 := 0) (r3 := 0) rfl rfl ?_
      refine wr_gr (k0 := 68) (x := 1) (nx := 30) (r1 := 8) (r2 := 0) (r3 := 0) rfl rfl (by decide) rfl ⟨rfl, rfl⟩ rfl ?_
      refine wi_iconst (n := 1) (nx := 31) (r1 := 0) (r2 := 0) (r3 := 0) rfl ?_
      refine wr_V (k0 := 1) (rest := []) (as := [.ref 1, vi 1]) (nx := 34) (r1 := 101) (r2 := 1) (r3 := 1) rfl rfl rfl (of_decide_eq_true rfl) rfl rfl (by decide) rfl rfl (of_decide_eq_true rfl) (of_decide_eq_true rfl) ?_
      refine ct_101_1 hcr  g 1 (by omega)  (fun h9 z10 g9 u9 (fz10 : 0 ≤ z10 ∧ z10 ≤ 0) (p9_0 : z10 = 0) (p9_1 : (h9 1 2) = 1) (p9_2 : (h9 1 3) = (h 1 6)) => ?_)
      have F11 := F0.then (by decide +kernel) u9
      have b12 := gi_b (lo := -2147483648) (hi := 2147483647) g9 1 2 rfl
      have b13 := gi_b (lo := -2147483648) (hi := 2147483647) g9 1 3 rfl
      refine wk_i ?_
      refine wi_zreturn (nx := 35) (r1 := 0) (r2 := 0) (r3 := 0) rfl rfl (by omega) ?_
      have e14 : h9 1 4 = h 1 4 := (u9 1 4 rfl)
      have b15 := gi_b (lo := 0) (hi := 2) g 68 8 rfl
      have e16 : h9 68 8 = h 68 8 := (u9 68 8 rfl)
      have b17 := gi_b (lo := 0) (hi := 40) g 68 9 rfl
      have e18 : h9 68 9 = h 68 9 := (u9 68 9 rfl)
      exact k h9 z10 g9 F11 (by omega) (show z10 = 0 ∨ z10 = 1 by omega) (by unfold sc_cmd sc_hd sc_num sc_mk; (try dsimp only); (repeat (first | rw [if_pos (by omega)] | rw [if_neg (by omega)])); (repeat ((first | unfold sc_num | unfold sc_mk); (try dsimp only); (repeat (first | rw [if_pos (by omega)] | rw [if_neg (by omega)])))); first | exact sc_Oe (by omega) (by omega) (by omega) (by omega) | ((repeat' split) <;> (first | exact sc_Oe (by omega) (by omega) (by omega) (by omega) | (exfalso; omega))))
    ·
      refine wi_aload_n (i := 1) (x := mm_XB + (8 : Int).toNat) (nx := 20) (r1 := 0) (r2 := 0) (r3 := 0) rfl rfl ?_
      refine wr_gx (k0 := mm_XB + (8 : Int).toNat) (v := vi 0) (nx := 23) (r1 := 1) (r2 := 0) (r3 := 1) rfl (by decide) (by decide) rfl ?_
      refine wi_if (cd := .ne) (nx := 26) (r1 := 35) (r2 := 0) (r3 := 0) rfl (by omega) (fun (q9 : 0 ≠ 0) => by exfalso; omega) (fun (q9 : ¬ (0 ≠ 0)) => ?_)
      refine wi_aload_n (i := 0) (x := 68) (nx := 27) (r1 := 0) (r2 := 0) (r3 := 0) rfl rfl ?_
      refine wr_gr (k0 := 68) (x := 1) (nx := 30) (r1 := 8) (r2 := 0) (r3 := 0) rfl rfl (by decide) rfl ⟨rfl, rfl⟩ rfl ?_
      refine wi_iconst (n := 1) (nx := 31) (r1 := 0) (r2 := 0) (r3 := 0) rfl ?_
      refine wr_V (k0 := 1) (rest := []) (as := [.ref 1, vi 1]) (nx := 34) (r1 := 101) (r2 := 1) (r3 := 1) rfl rfl rfl (of_decide_eq_true rfl) rfl rfl (by decide) rfl rfl (of_decide_eq_true rfl) (of_decide_eq_true rfl) ?_
      refine ct_101_1 hcr  g 1 (by omega)  (fun h10 z11 g10 u10 (fz11 : 0 ≤ z11 ∧ z11 ≤ 0) (p10_0 : z11 = 0) (p10_1 : (h10 1 2) = 1) (p10_2 : (h10 1 3) = (h 1 6)) => ?_)
      have F12 := F0.then (by decide +kernel) u10
      have b13 := gi_b (lo := -2147483648) (hi := 2147483647) g10 1 2 rfl
      have b14 := gi_b (lo := -2147483648) (hi := 2147483647) g10 1 3 rfl
      refine wk_i ?_
      refine wi_zreturn (nx := 35) (r1 := 0) (r2 := 0) (r3 := 0) rfl rfl (by omega) ?_
      have e15 : h10 1 4 = h 1 4 := (u10 1 4 rfl)
      have b16 := gi_b (lo := 0) (hi := 2) g 68 8 rfl
      have e17 : h10 68 8 = h 68 8 := (u10 68 8 rfl)
      have b18 := gi_b (lo := 0) (hi := 40) g 68 9 rfl
      have e19 : h10 68 9 = h 68 9 := (u10 68 9 rfl)
      exact k h10 z11 g10 F12 (by omega) (show z11 = 0 ∨ z11 = 1 by omega) (by unfold sc_cmd sc_hd sc_num sc_mk; (try dsimp only); (repeat (first | rw [if_pos (by omega)] | rw [if_neg (by omega)])); (repeat ((first | unfold sc_num | unfold sc_mk); (try dsimp only); (repeat (first | rw [if_pos (by omega)] | rw [if_neg (by omega)])))); first | exact sc_Oe (by omega) (by omega) (by omega) (by omega) | ((repeat' split) <;> (first | exact sc_Oe (by omega) (by omega) (by omega) (by omega) | (exfalso; omega))))
  ·
    refine wr_gi3 (k0 := 1) (x := 9) (nx := 7) (r1 := 1) (r2 := 9) (r3 := 0) rfl rfl (by decide) rfl ⟨rfl, rfl⟩ rfl q7 ?_
    refine wi_astore_n (i := 1) (x := mm_XB + (9 : Int).toNat) (lo2 := [(1, wv 9), (0, .ref 68)]) (nx := 8) (r1 := 0) (r2 := 0) (r3 := 0) rfl rfl ?_
    refine wi_aload_n (i := 0) (x := 68) (nx := 9) (r1 := 0) (r2 := 0) (r3 := 0) rfl rfl ?_
    refine wr_gr (k0 := 68) (x := 1) (nx := 12) (r1 := 8) (r2 := 0) (r3 := 0) rfl rfl (by decide) rfl ⟨rfl, rfl⟩ rfl ?_
    refine wr_gi0 (k0 := 1) (x := h 1 5) (nx := 15) (r1 := 1) (r2 := 5) (r3 := 0) rfl rfl (by decide) rfl ⟨rfl, rfl⟩ rfl rfl ?_
    refine wi_iconst (n := 1) (nx := 16) (r1 := 0) (r2 := 0) (r3 := 0) rfl ?_
    refine wi_icmp (cd := .ne) (nx := 19) (r1 := 26) (r2 := 0) (r3 := 0) rfl (by omega) (by omega) (fun (q8 : (h 1 5) ≠ 1) => ?_) (fun (q8 : ¬ ((h 1 5) ≠ 1)) => ?_)
    ·
      refine wi_aload_n (i := 0) (x := 68) (nx := 27) (r1 := 0) (r2 := 0) (r3 := 0) rfl rfl ?_
      refine wr_gr (k0 := 68) (x := 1) (nx := 30) (r1 := 8) (r2 := 0) (r3 := 0) rfl rfl (by decide) rfl ⟨rfl, rfl⟩ rfl ?_
      refine wi_iconst (n := 1) (nx := 31) (r1 := 0) (r2 := 0) (r3 := 0) rfl ?_
      refine wr_V (k0 := 1) (rest := []) (as := [.ref 1, vi 1]) (nx := 34) (r1 := 101) (r2 := 1) (r3 := 1) rfl rfl rfl (of_decide_eq_true rfl) rfl rfl (by decide) rfl rfl (of_decide_eq_true rfl) (of_decide_eq_true rfl) ?_
      refine ct_101_1 hcr  g 1 (by omega)  (fun h9 z10 g9 u9 (fz10 : 0 ≤ z10 ∧ z10 ≤ 0) (p9_0 : z10 = 0) (p9_1 : (h9 1 2) = 1) (p9_2 : (h9 1 3) = (h 1 6)) => ?_)
      have F11 := F0.then (by decide +kernel) u9
      have b12 := gi_b (lo := -2147483648) (hi := 2147483647) g9 1 2 rfl
      have b13 := gi_b (lo := -2147483648) (hi := 2147483647) g9 1 3 rfl
      refine wk_i ?_
      refine wi_zreturn (nx := 35) (r1 := 0) (r2 := 0) (r3 := 0) rfl rfl (by omega) ?_
      have e14 : h9 1 4 = h 1 4 := (u9 1 4 rfl)
      have b15 := gi_b (lo := 0) (hi := 2) g 68 8 rfl
      have e16 : h9 68 8 = h 68 8 := (u9 68 8 rfl)
      have b17 := gi_b (lo := 0) (hi := 40) g 68 9 rfl
      have e18 : h9 68 9 = h 68 9 := (u9 68 9 rfl)
      exact k h9 z10 g9 F11 (by omega) (show z10 = 0 ∨ z10 = 1 by omega) (by unfold sc_cmd sc_hd sc_num sc_mk; (try dsimp only); (repeat (first | rw [if_pos (by omega)] | rw [if_neg (by omega)])); (repeat ((first | unfold sc_num | unfold sc_mk); (try dsimp only); (repeat (first | rw [if_pos (by omega)] | rw [if_neg (by omega)])))); first | exact sc_Oe (by omega) (by omega) (by omega) (by omega) | ((repeat' split) <;> (first | exact sc_Oe (by omega) (by omega) (by omega) (by omega) | (exfalso; omega))))
    ·
      refine wi_aload_n (i := 1) (x := mm_XB + (9 : Int).toNat) (nx := 20) (r1 := 0) (r2 := 0) (r3 := 0) rfl rfl ?_
      refine wr_gx (k0 := mm_XB + (9 : Int).toNat) (v := vi 0) (nx := 23) (r1 := 1) (r2 := 0) (r3 := 1) rfl (by decide) (by decide) rfl ?_
      refine wi_if (cd := .ne) (nx := 26) (r1 := 35) (r2 := 0) (r3 := 0) rfl (by omega) (fun (q9 : 0 ≠ 0) => by exfalso; omega) (fun (q9 : ¬ (0 ≠ 0)) => ?_)
      refine wi_aload_n (i := 0) (x := 68) (nx := 27) (r1 := 0) (r2 := 0) (r3 := 0) rfl rfl ?_
      refine wr_gr (k0 := 68) (x := 1) (nx := 30) (r1 := 8) (r2 := 0) (r3 := 0) rfl rfl (by decide) rfl ⟨rfl, rfl⟩ rfl ?_
      refine wi_iconst (n := 1) (nx := 31) (r1 := 0) (r2 := 0) (r3 := 0) rfl ?_
      refine wr_V (k0 := 1) (rest := []) (as := [.ref 1, vi 1]) (nx := 34) (r1 := 101) (r2 := 1) (r3 := 1) rfl rfl rfl (of_decide_eq_true rfl) rfl rfl (by decide) rfl rfl (of_decide_eq_true rfl) (of_decide_eq_true rfl) ?_
      refine ct_101_1 hcr  g 1 (by omega)  (fun h10 z11 g10 u10 (fz11 : 0 ≤ z11 ∧ z11 ≤ 0) (p10_0 : z11 = 0) (p10_1 : (h10 1 2) = 1) (p10_2 : (h10 1 3) = (h 1 6)) => ?_)
      have F12 := F0.then (by decide +kernel) u10
      have b13 := gi_b (lo := -2147483648) (hi := 2147483647) g10 1 2 rfl
      have b14 := gi_b (lo := -2147483648) (hi := 2147483647) g10 1 3 rfl
      refine wk_i ?_
      refine wi_zreturn (nx := 35) (r1 := 0) (r2 := 0) (r3 := 0) rfl rfl (by omega) ?_
      have e15 : h10 1 4 = h 1 4 := (u10 1 4 rfl)
      have b16 := gi_b (lo := 0) (hi := 2) g 68 8 rfl
      have e17 : h10 68 8 = h 68 8 := (u10 68 8 rfl)
      have b18 := gi_b (lo := 0) (hi := 40) g 68 9 rfl
      have e19 : h10 68 9 = h 68 9 := (u10 68 9 rfl)
      exact k h10 z11 g10 F12 (by omega) (show z11 = 0 ∨ z11 = 1 by omega) (by unfold sc_cmd sc_hd sc_num sc_mk; (try dsimp only); (repeat (first | rw [if_pos (by omega)] | rw [if_neg (by omega)])); (repeat ((first | unfold sc_num | unfold sc_mk); (try dsimp only); (repeat (first | rw [if_pos (by omega)] | rw [if_neg (by omega)])))); first | exact sc_Oe (by omega) (by omega) (by omega) (by omega) | ((repeat' split) <;> (first | exact sc_Oe (by omega) (by omega) (by omega) (by omega) | (exfalso; omega))))
  ·
    refine wr_gi3 (k0 := 1) (x := 10) (nx := 7) (r1 := 1) (r2 := 9) (r3 := 0) rfl rfl (by decide) rfl ⟨rfl, rfl⟩ rfl q7 ?_
    refine wi_astore_n (i := 1) (x := mm_XB + (10 : Int).toNat) (lo2 := [(1, wv 10), (0, .ref 68)]) (nx := 8) (r1 := 0) (r2 := 0) (r3 := 0) rfl rfl ?_
    refine wi_aload_n (i := 0) (x := 68) (nx := 9) (r1 := 0) (r2 := 0) (r3 := 0) rfl rfl ?_
    refine wr_gr (k0 := 68) (x := 1) (nx := 12) (r1 := 8) (r2 := 0) (r3 := 0) rfl rfl (by decide) rfl ⟨rfl, rfl⟩ rfl ?_
    refine wr_gi0 (k0 := 1) (x := h 1 5) (nx := 15) (r1 := 1) (r2 := 5) (r3 := 0) rfl rfl (by decide) rfl ⟨rfl, rfl⟩ rfl rfl ?_
    refine wi_iconst (n := 1) (nx := 16) (r1 := 0) (r2 := 0) (r3 := 0) rfl ?_
    refine wi_icmp (cd := .ne) (nx := 19) (r1 := 26) (r2 := 0) (r3 := 0) rfl (by omega) (by omega) (fun (q8 : (h 1 5) ≠ 1) => ?_) (fun (q8 : ¬ ((h 1 5) ≠ 1)) => ?_)
    ·
      refine wi_aload_n (i := 0) (x := 68) (nx := 27) (r1 := 0) (r2 := 0) (r3 := 0) rfl rfl ?_
      refine wr_gr (k0 := 68) (x := 1) (nx := 30) (r1 := 8) (r2 := 0) (r3 := 0) rfl rfl (by decide) rfl ⟨rfl, rfl⟩ rfl ?_
      refine wi_iconst (n := 1) (nx := 31) (r1 := 0) (r2 := 0) (r3 := 0) rfl ?_
      refine wr_V (k0 := 1) (rest := []) (as := [.ref 1, vi 1]) (nx := 34) (r1 := 101) (r2 := 1) (r3 := 1) rfl rfl rfl (of_decide_eq_true rfl) rfl rfl (by decide) rfl rfl (of_decide_eq_true rfl) (of_decide_eq_true rfl) ?_
      refine ct_101_1 hcr  g 1 (by omega)  (fun h9 z10 g9 u9 (fz10 : 0 ≤ z10 ∧ z10 ≤ 0) (p9_0 : z10 = 0) (p9_1 : (h9 1 2) = 1) (p9_2 : (h9 1 3) = (h 1 6)) => ?_)
      have F11 := F0.then (by decide +kernel) u9
      have b12 := gi_b (lo := -2147483648) (hi := 2147483647) g9 1 2 rfl
      have b13 := gi_b (lo := -2147483648) (hi := 2147483647) g9 1 3 rfl
      refine wk_i ?_
      refine wi_zreturn (nx := 35) (r1 := 0) (r2 := 0) (r3 := 0) rfl rfl (by omega) ?_
      have e14 : h9 1 4 = h 1 4 := (u9 1 4 rfl)
      have b15 := gi_b (lo := 0) (hi := 2) g 68 8 rfl
      have e16 : h9 68 8 = h 68 8 := (u9 68 8 rfl)
      have b17 := gi_b (lo := 0) (hi := 40) g 68 9 rfl
      have e18 : h9 68 9 = h 68 9 := (u9 68 9 rfl)
      exact k h9 z10 g9 F11 (by omega) (show z10 = 0 ∨ z10 = 1 by omega) (by unfold sc_cmd sc_hd sc_num sc_mk; (try dsimp only); (repeat (first | rw [if_pos (by omega)] | rw [if_neg (by omega)])); (repeat ((first | unfold sc_num | unfold sc_mk); (try dsimp only); (repeat (first | rw [if_pos (by omega)] | rw [if_neg (by omega)])))); first | exact sc_Oe (by omega) (by omega) (by omega) (by omega) | ((repeat' split) <;> (first | exact sc_Oe (by omega) (by omega) (by omega) (by omega) | (exfalso; omega))))
    ·
      refine wi_aload_n (i := 1) (x := mm_XB + (10 : Int).toNat) (nx := 20) (r1 := 0) (r2 := 0) (r3 := 0) rfl rfl ?_
      refine wr_gx (k0 := mm_XB + (10 : Int).toNat) (v := vi 0) (nx := 23) (r1 := 1) (r2 := 0) (r3 := 1) rfl (by decide) (by decide) rfl ?_
      refine wi_if (cd := .ne) (nx := 26) (r1 := 35) (r2 := 0) (r3 := 0) rfl (by omega) (fun (q9 : 0 ≠ 0) => by exfalso; omega) (fun (q9 : ¬ (0 ≠ 0)) => ?_)
      refine wi_aload_n (i := 0) (x := 68) (nx := 27) (r1 := 0) (r2 := 0) (r3 := 0) rfl rfl ?_
      refine wr_gr (k0 := 68) (x := 1) (nx := 30) (r1 := 8) (r2 := 0) (r3 := 0) rfl rfl (by decide) rfl ⟨rfl, rfl⟩ rfl ?_
      refine wi_iconst (n := 1) (nx := 31) (r1 := 0) (r2 := 0) (r3 := 0) rfl ?_
      refine wr_V (k0 := 1) (rest := []) (as := [.ref 1, vi 1]) (nx := 34) (r1 := 101) (r2 := 1) (r3 := 1) rfl rfl rfl (of_decide_eq_true rfl) rfl rfl (by decide) rfl rfl (of_decide_eq_true rfl) (of_decide_eq_true rfl) ?_
      refine ct_101_1 hcr  g 1 (by omega)  (fun h10 z11 g10 u10 (fz11 : 0 ≤ z11 ∧ z11 ≤ 0) (p10_0 : z11 = 0) (p10_1 : (h10 1 2) = 1) (p10_2 : (h10 1 3) = (h 1 6)) => ?_)
      have F12 := F0.then (by decide +kernel) u10
      have b13 := gi_b (lo := -2147483648) (hi := 2147483647) g10 1 2 rfl
      have b14 := gi_b (lo := -2147483648) (hi := 2147483647) g10 1 3 rfl
      refine wk_i ?_
      refine wi_zreturn (nx := 35) (r1 := 0) (r2 := 0) (r3 := 0) rfl rfl (by omega) ?_
      have e15 : h10 1 4 = h 1 4 := (u10 1 4 rfl)
      have b16 := gi_b (lo := 0) (hi := 2) g 68 8 rfl
      have e17 : h10 68 8 = h 68 8 := (u10 68 8 rfl)
      have b18 := gi_b (lo := 0) (hi := 40) g 68 9 rfl
      have e19 : h10 68 9 = h 68 9 := (u10 68 9 rfl)
      exact k h10 z11 g10 F12 (by omega) (show z11 = 0 ∨ z11 = 1 by omega) (by unfold sc_cmd sc_hd sc_num sc_mk; (try dsimp only); (repeat (first | rw [if_pos (by omega)] | rw [if_neg (by omega)])); (repeat ((first | unfold sc_num | unfold sc_mk); (try dsimp only); (repeat (first | rw [if_pos (by omega)] | rw [if_neg (by omega)])))); first | exact sc_Oe (by omega) (by omega) (by omega) (by omega) | ((repeat' split) <;> (first | exact sc_Oe (by omega) (by omega) (by omega) (by omega) | (exfalso; omega))))
  ·
    refine wr_gi3 (k0 := 1) (x := 11) (nx := 7) (r1 := 1) (r2 := 9) (r3 := 0) rfl rfl (by decide) rfl ⟨rfl, rfl⟩ rfl q7 ?_
    refine wi_astore_n (i := 1) (x := mm_XB + (11 : Int).toNat) (lo2 := [(1, wv 11), (0, .ref 68)]) (nx := 8) (r1 := 0) (r2 := 0) (r3 := 0) rfl rfl ?_
    refine wi_aload_n (i := 0) (x := 68) (nx := 9) (r1 := 0) (r2 := 0) (r3 := 0) rfl rfl ?_
    refine wr_gr (k0 := 68) (x := 1) (nx := 12) (r1 := 8) (r2 := 0) (r3 := 0) rfl rfl (by decide) rfl ⟨rfl, rfl⟩ rfl ?_
    refine wr_gi0 (k0 := 1) (x := h 1 5) (nx := 15) (r1 := 1) (r2 := 5) (r3 := 0) rfl rfl (by decide) rfl ⟨rfl, rfl⟩ rfl rfl ?_
    refine wi_iconst (n := 1) (nx := 16) (r1 := 0) (r2 := 0) (r3 := 0) rfl ?_
    refine wi_icmp (cd := .ne) (nx := 19) (r1 := 26) (r2 := 0) (r3 := 0) rfl (by omega) (by omega) (fun (q8 : (h 1 5) ≠ 1) => ?_) (fun (q8 : ¬ ((h 1 5) ≠ 1)) => ?_)
    ·
      refine wi_aload_n (i := 0) (x := 68) (nx := 27) (r1 := 0) (r2 := 0) (r3 := 0) rfl rfl ?_
      refine wr_gr (k0 := 68) (x := 1) (nx := 30) (r1 := 8) (r2 := 0) (r3 := 0) rfl rfl (by decide) rfl ⟨rfl, rfl⟩ rfl ?_
      refine wi_iconst (n := 1) (nx := 31) (r1 := 0) (r2 := 0) (r3 := 0) rfl ?_
      refine wr_V (k0 := 1) (rest := []) (as := [.ref 1, vi 1]) (nx := 34) (r1 := 101) (r2 := 1) (r3 := 1) rfl rfl rfl (of_decide_eq_true rfl) rfl rfl (by decide) rfl rfl (of_decide_eq_true rfl) (of_decide_eq_true rfl) ?_
      refine ct_101_1 hcr  g 1 (by omega)  (fun h9 z10 g9 u9 (fz10 : 0 ≤ z10 ∧ z10 ≤ 0) (p9_0 : z10 = 0) (p9_1 : (h9 1 2) = 1) (p9_2 : (h9 1 3) = (h 1 6)) => ?_)
      have F11 := F0.then (by decide +kernel) u9
      have b12 := gi_b (lo := -2147483648) (hi := 2147483647) g9 1 2 rfl
      have b13 := gi_b (lo := -2147483648) (hi := 2147483647) g9 1 3 rfl
      refine wk_i ?_
      refine wi_zreturn (nx := 35) (r1 := 0) (r2 := 0) (r3 := 0) rfl rfl (by omega) ?_
      have e14 : h9 1 4 = h 1 4 := (u9 1 4 rfl)
      have b15 := gi_b (lo := 0) (hi := 2) g 68 8 rfl
      have e16 : h9 68 8 = h 68 8 := (u9 68 8 rfl)
      have b17 := gi_b (lo := 0) (hi := 40) g 68 9 rfl
      have e18 : h9 68 9 = h 68 9 := (u9 68 9 rfl)
      exact k h9 z10 g9 F11 (by omega) (show z10 = 0 ∨ z10 = 1 by omega) (by unfold sc_cmd sc_hd sc_num sc_mk; (try dsimp only); (repeat (first | rw [if_pos (by omega)] | rw [if_neg (by omega)])); (repeat ((first | unfold sc_num | unfold sc_mk); (try dsimp only); (repeat (first | rw [if_pos (by omega)] | rw [if_neg (by omega)])))); first | exact sc_Oe (by omega) (by omega) (by omega) (by omega) | ((repeat' split) <;> (first | exact sc_Oe (by omega) (by omega) (by omega) (by omega) | (exfalso; omega))))
    ·
      refine wi_aload_n (i := 1) (x := mm_XB + (11 : Int).toNat) (nx := 20) (r1 := 0) (r2 := 0) (r3 := 0) rfl rfl ?_
      refine wr_gx (k0 := mm_XB + (11 : Int).toNat) (v := vi 0) (nx := 23) (r1 := 1) (r2 := 0) (r3 := 1) rfl (by decide) (by decide) rfl ?_
      refine wi_if (cd := .ne) (nx := 26) (r1 := 35) (r2 := 0) (r3 := 0) rfl (by omega) (fun (q9 : 0 ≠ 0) => by exfalso; omega) (fun (q9 : ¬ (0 ≠ 0)) => ?_)
      refine wi_aload_n (i := 0) (x := 68) (nx := 27) (r1 := 0) (r2 := 0) (r3 := 0) rfl rfl ?_
      refine wr_gr (k0 := 68) (x := 1) (nx := 30) (r1 := 8) (r2 := 0) (r3 := 0) rfl rfl (by decide) rfl ⟨rfl, rfl⟩ rfl ?_
      refine wi_iconst (n := 1) (nx := 31) (r1 := 0) (r2 := 0) (r3 := 0) rfl ?_
      refine wr_V (k0 := 1) (rest := []) (as := [.ref 1, vi 1]) (nx := 34) (r1 := 101) (r2 := 1) (r3 := 1) rfl rfl rfl (of_decide_eq_true rfl) rfl rfl (by decide) rfl rfl (of_decide_eq_true rfl) (of_decide_eq_true rfl) ?_
      refine ct_101_1 hcr  g 1 (by omega)  (fun h10 z11 g10 u10 (fz11 : 0 ≤ z11 ∧ z11 ≤ 0) (p10_0 : z11 = 0) (p10_1 : (h10 1 2) = 1) (p10_2 : (h10 1 3) = (h 1 6)) => ?_)
      have F12 := F0.then (by decide +kernel) u10
      have b13 := gi_b (lo := -2147483648) (hi := 2147483647) g10 1 2 rfl
      have b14 := gi_b (lo := -2147483648) (hi := 2147483647) g10 1 3 rfl
      refine wk_i ?_
      refine wi_zreturn (nx := 35) (r1 := 0) (r2 := 0) (r3 := 0) rfl rfl (by omega) ?_
      have e15 : h10 1 4 = h 1 4 := (u10 1 4 rfl)
      have b16 := gi_b (lo := 0) (hi := 2) g 68 8 rfl
      have e17 : h10 68 8 = h 68 8 := (u10 68 8 rfl)
      have b18 := gi_b (lo := 0) (hi := 40) g 68 9 rfl
      have e19 : h10 68 9 = h 68 9 := (u10 68 9 rfl)
      exact k h10 z11 g10 F12 (by omega) (show z11 = 0 ∨ z11 = 1 by omega) (by unfold sc_cmd sc_hd sc_num sc_mk; (try dsimp only); (repeat (first | rw [if_pos (by omega)] | rw [if_neg (by omega)])); (repeat ((first | unfold sc_num | unfold sc_mk); (try dsimp only); (repeat (first | rw [if_pos (by omega)] | rw [if_neg (by omega)])))); first | exact sc_Oe (by omega) (by omega) (by omega) (by omega) | ((repeat' split) <;> (first | exact sc_Oe (by omega) (by omega) (by omega) (by omega) | (exfalso; omega))))
  ·
    refine wr_gi3 (k0 := 1) (x := 12) (nx := 7) (r1 := 1) (r2 := 9) (r3 := 0) rfl rfl (by decide) rfl ⟨rfl, rfl⟩ rfl q7 ?_
    refine wi_astore_n (i := 1) (x := mm_XB + (12 : Int).toNat) (lo2 := [(1, wv 12), (0, .ref 68)]) (nx := 8) (r1 := 0) (r2 := 0) (r3 := 0) rfl rfl ?_
    refine wi_aload_n (i := 0) (x := 68) (nx := 9) (r1 := 0) (r2 := 0) (r3 := 0) rfl rfl ?_
    refine wr_gr (k0 := 68) (x := 1) (nx := 12) (r1 := 8) (r2 := 0) (r3 := 0) rfl rfl (by decide) rfl ⟨rfl, rfl⟩ rfl ?_
    refine wr_gi0 (k0 := 1) (x := h 1 5) (nx := 15) (r1 := 1) (r2 := 5) (r3 := 0) rfl rfl (by decide) rfl ⟨rfl, rfl⟩ rfl rfl ?_
    refine wi_iconst (n := 1) (nx := 16) (r1 := 0) (r2 := 0) (r3 := 0) rfl ?_
    refine wi_icmp (cd := .ne) (nx := 19) (r1 := 26) (r2 := 0) (r3 := 0) rfl (by omega) (by omega) (fun (q8 : (h 1 5) ≠ 1) => ?_) (fun (q8 : ¬ ((h 1 5) ≠ 1)) => ?_)
    ·
      refine wi_aload_n (i := 0) (x := 68) (nx := 27) (r1 := 0) (r2 := 0) (r3 := 0) rfl rfl ?_
      refine wr_gr (k0 := 68) (x := 1) (nx := 30) (r1 := 8) (r2 := 0) (r3 := 0) rfl rfl (by decide) rfl ⟨rfl, rfl⟩ rfl ?_
      refine wi_iconst (n := 1) (nx := 31) (r1 := 0) (r2 := 0) (r3 := 0) rfl ?_
      refine wr_V (k0 := 1) (rest := []) (as := [.ref 1, vi 1]) (nx := 34) (r1 := 101) (r2 := 1) (r3 := 1) rfl rfl rfl (of_decide_eq_true rfl) rfl rfl (by decide) rfl rfl (of_decide_eq_true rfl) (of_decide_eq_true rfl) ?_
      refine ct_101_1 hcr  g 1 (by omega)  (fun h9 z10 g9 u9 (fz10 : 0 ≤ z10 ∧ z10 ≤ 0) (p9_0 : z10 = 0) (p9_1 : (h9 1 2) = 1) (p9_2 : (h9 1 3) = (h 1 6)) => ?_)
      have F11 := F0.then (by decide +kernel) u9
      have b12 := gi_b (lo := -2147483648) (hi := 2147483647) g9 1 2 rfl
      have b13 := gi_b (lo := -2147483648) (hi := 2147483647) g9 1 3 rfl
      refine wk_i ?_
      refine wi_zreturn (nx := 35) (r1 := 0) (r2 := 0) (r3 := 0) rfl rfl (by omega) ?_
      have e14 : h9 1 4 = h 1 4 := (u9 1 4 rfl)
      have b15 := gi_b (lo := 0) (hi := 2) g 68 8 rfl
      have e16 : h9 68 8 = h 68 8 := (u9 68 8 rfl)
      have b17 := gi_b (lo := 0) (hi := 40) g 68 9 rfl
      have e18 : h9 68 9 = h 68 9 := (u9 68 9 rfl)
      exact k h9 z10 g9 F11 (by omega) (show z10 = 0 ∨ z10 = 1 by omega) (by unfold sc_cmd sc_hd sc_num sc_mk; (try dsimp only); (repeat (first | rw [if_pos (by omega)] | rw [if_neg (by omega)])); (repeat ((first | unfold sc_num | unfold sc_mk); (try dsimp only); (repeat (first | rw [if_pos (by omega)] | rw [if_neg (by omega)])))); first | exact sc_Oe (by omega) (by omega) (by omega) (by omega) | ((repeat' split) <;> (first | exact sc_Oe (by omega) (by omega) (by omega) (by omega) | (exfalso; omega))))
    ·
      refine wi_aload_n (i := 1) (x := mm_XB + (12 : Int).toNat) (nx := 20) (r1 := 0) (r2 := 0) (r3 := 0) rfl rfl ?_
      refine wr_gx (k0 := mm_XB + (12 : Int).toNat) (v := vi 0) (nx := 23) (r1 := 1) (r2 := 0) (r3 := 1) rfl (by decide) (by decide) rfl ?_
      refine wi_if (cd := .ne) (nx := 26) (r1 := 35) (r2 := 0) (r3 := 0) rfl (by omega) (fun (q9 : 0 ≠ 0) => by exfalso; omega) (fun (q9 : ¬ (0 ≠ 0)) => ?_)
      refine wi_aload_n (i := 0) (x := 68) (nx := 27) (r1 := 0) (r2 := 0) (r3 := 0) rfl rfl ?_
      refine wr_gr (k0 := 68) (x := 1) (nx := 30) (r1 := 8) (r2 := 0) (r3 := 0) rfl rfl (by decide) rfl ⟨rfl, rfl⟩ rfl ?_
      refine wi_iconst (n := 1) (nx := 31) (r1 := 0) (r2 := 0) (r3 := 0) rfl ?_
      refine wr_V (k0 := 1) (rest := []) (as := [.ref 1, vi 1]) (nx := 34) (r1 := 101) (r2 := 1) (r3 := 1) rfl rfl rfl (of_decide_eq_true rfl) rfl rfl (by decide) rfl rfl (of_decide_eq_true rfl) (of_decide_eq_true rfl) ?_
      refine ct_101_1 hcr  g 1 (by omega)  (fun h10 z11 g10 u10 (fz11 : 0 ≤ z11 ∧ z11 ≤ 0) (p10_0 : z11 = 0) (p10_1 : (h10 1 2) = 1) (p10_2 : (h10 1 3) = (h 1 6)) => ?_)
      have F12 := F0.then (by decide +kernel) u10
      have b13 := gi_b (lo := -2147483648) (hi := 2147483647) g10 1 2 rfl
      have b14 := gi_b (lo := -2147483648) (hi := 2147483647) g10 1 3 rfl
      refine wk_i ?_
      refine wi_zreturn (nx := 35) (r1 := 0) (r2 := 0) (r3 := 0) rfl rfl (by omega) ?_
      have e15 : h10 1 4 = h 1 4 := (u10 1 4 rfl)
      have b16 := gi_b (lo := 0) (hi := 2) g 68 8 rfl
      have e17 : h10 68 8 = h 68 8 := (u10 68 8 rfl)
      have b18 := gi_b (lo := 0) (hi := 40) g 68 9 rfl
      have e19 : h10 68 9 = h 68 9 := (u10 68 9 rfl)
      exact k h10 z11 g10 F12 (by omega) (show z11 = 0 ∨ z11 = 1 by omega) (by unfold sc_cmd sc_hd sc_num sc_mk; (try dsimp only); (repeat (first | rw [if_pos (by omega)] | rw [if_neg (by omega)])); (repeat ((first | unfold sc_num | unfold sc_mk); (try dsimp only); (repeat (first | rw [if_pos (by omega)] | rw [if_neg (by omega)])))); first | exact sc_Oe (by omega) (by omega) (by omega) (by omega) | ((repeat' split) <;> (first | exact sc_Oe (by omega) (by omega) (by omega) (by omega) | (exfalso; omega))))
  ·
    refine wr_gi3 (k0 := 1) (x := 13) (nx := 7) (r1 := 1) (r2 := 9) (r3 := 0) rfl rfl (by decide) rfl ⟨rfl, rfl⟩ rfl q7 ?_
    refine wi_astore_n (i := 1) (x := mm_XB + (13 : Int).toNat) (lo2 := [(1, wv 13), (0, .ref 68)]) (nx := 8) (r1 := 0) (r2 := 0) (r3 := 0) rfl rfl ?_
    refine wi_aload_n (i := 0) (x := 68) (nx := 9) (r1 := 0) (r2 := 0) (r3 := 0) rfl rfl ?_
    refine wr_gr (k0 := 68) (x := 1) (nx := 12) (r1 := 8) (r2 := 0) (r3 := 0) rfl rfl (by decide) rfl ⟨rfl, rfl⟩ rfl ?_
    refine wr_gi0 (k0 := 1) (x := h 1 5) (nx := 15) (r1 := 1) (r2 := 5) (r3 := 0) rfl rfl (by decide) rfl ⟨rfl, rfl⟩ rfl rfl ?_
    refine wi_iconst (n := 1) (nx := 16) (r1 := 0) (r2 := 0) (r3 := 0) rfl ?_
    refine wi_icmp (cd := .ne) (nx := 19) (r1 := 26) (r2 := 0) (r3 := 0) rfl (by omega) (by omega) (fun (q8 : (h 1 5) ≠ 1) => ?_) (fun (q8 : ¬ ((h 1 5) ≠ 1)) => ?_)
    ·
      refine wi_aload_n (i := 0) (x := 68) (nx := 27) (r1 := 0) (r2 := 0) (r3 := 0) rfl rfl ?_
      refine wr_gr (k0 := 68) (x := 1) (nx := 30) (r1 := 8) (r2 := 0) (r3 := 0) rfl rfl (by decide) rfl ⟨rfl, rfl⟩ rfl ?_
      refine wi_iconst (n := 1) (nx := 31) (r1 := 0) (r2 := 0) (r3 := 0) rfl ?_
      refine wr_V (k0 := 1) (rest := []) (as := [.ref 1, vi 1]) (nx := 34) (r1 := 101) (r2 := 1) (r3 := 1) rfl rfl rfl (of_decide_eq_true rfl) rfl rfl (by decide) rfl rfl (of_decide_eq_true rfl) (of_decide_eq_true rfl) ?_
      refine ct_101_1 hcr  g 1 (by omega)  (fun h9 z10 g9 u9 (fz10 : 0 ≤ z10 ∧ z10 ≤ 0) (p9_0 : z10 = 0) (p9_1 : (h9 1 2) = 1) (p9_2 : (h9 1 3) = (h 1 6)) => ?_)
      have F11 := F0.then (by decide +kernel) u9
      have b12 := gi_b (lo := -2147483648) (hi := 2147483647) g9 1 2 rfl
      have b13 := gi_b (lo := -2147483648) (hi := 2147483647) g9 1 3 rfl
      refine wk_i ?_
      refine wi_zreturn (nx := 35) (r1 := 0) (r2 := 0) (r3 := 0) rfl rfl (by omega) ?_
      have e14 : h9 1 4 = h 1 4 := (u9 1 4 rfl)
      have b15 := gi_b (lo := 0) (hi := 2) g 68 8 rfl
      have e16 : h9 68 8 = h 68 8 := (u9 68 8 rfl)
      have b17 := gi_b (lo := 0) (hi := 40) g 68 9 rfl
      have e18 : h9 68 9 = h 68 9 := (u9 68 9 rfl)
      exact k h9 z10 g9 F11 (by omega) (show z10 = 0 ∨ z10 = 1 by omega) (by unfold sc_cmd sc_hd sc_num sc_mk; (try dsimp only); (repeat (first | rw [if_pos (by omega)] | rw [if_neg (by omega)])); (repeat ((first | unfold sc_num | unfold sc_mk); (try dsimp only); (repeat (first | rw [if_pos (by omega)] | rw [if_neg (by omega)])))); first | exact sc_Oe (by omega) (by omega) (by omega) (by omega) | ((repeat' split) <;> (first | exact sc_Oe (by omega) (by omega) (by omega) (by omega) | (exfalso; omega))))
    ·
      refine wi_aload_n (i := 1) (x := mm_XB + (13 : Int).toNat) (nx := 20) (r1 := 0) (r2 := 0) (r3 := 0) rfl rfl ?_
      refine wr_gx (k0 := mm_XB + (13 : Int).toNat) (v := vi 1) (nx := 23) (r1 := 1) (r2 := 0) (r3 := 1) rfl (by decide) (by decide) rfl ?_
      refine wi_if (cd := .ne) (nx := 26) (r1 := 35) (r2 := 0) (r3 := 0) rfl (by omega) (fun (q9 : 1 ≠ 0) => ?_) (fun (q9 : ¬ (1 ≠ 0)) => by exfalso; omega)
      refine wi_aload_n (i := 1) (x := mm_XB + (13 : Int).toNat) (nx := 36) (r1 := 0) (r2 := 0) (r3 := 0) rfl rfl ?_
      refine wr_gst (v := wv 20) (nx := 39) (r1 := 19) (r2 := 0) (r3 := 0) rfl rfl rfl ?_
      refine wr_acmp (cd := .ne) (x := 13) (y := 20) (nx := 42) (r1 := 59) (r2 := 0) (r3 := 0) rfl (by omega) (by omega) (fun _ => ?_) (fun q => absurd (by decide) q)
      refine wi_aload_n (i := 0) (x := 68) (nx := 60) (r1 := 0) (r2 := 0) (r3 := 0) rfl rfl ?_
      have b11 := gi_b (lo := 0) (hi := 40) g 68 9 rfl
      refine wr_gi0 (k0 := 68) (x := h 68 9) (nx := 63) (r1 := 8) (r2 := 9) (r3 := 0) rfl rfl (by decide) rfl ⟨rfl, rfl⟩ rfl rfl ?_
      refine wi_bipush (n := 40) (nx := 65) (r1 := 0) (r2 := 0) (r3 := 0) rfl (by decide) ?_
      refine wi_icmp (cd := .lt) (nx := 68) (r1 := 77) (r2 := 0) (r3 := 0) rfl (by omega) (by omega) (fun (q12 : (h 68 9) < 40) => ?_) (fun (q12 : ¬ ((h 68 9) < 40)) => ?_)
      ·
        refine wi_aload_n (i := 0) (x := 68) (nx := 78) (r1 := 0) (r2 := 0) (r3 := 0) rfl rfl ?_
        refine wi_dup (nx := 79) (r1 := 0) (r2 := 0) (r3 := 0) rfl rfl ?_
        refine wr_gi0 (k0 := 68) (x := h 68 9) (nx := 82) (r1 := 8) (r2 := 9) (r3 := 0) rfl rfl (by decide) rfl ⟨rfl, rfl⟩ rfl rfl ?_
        refine wi_iconst (n := 1) (nx := 83) (r1 := 0) (r2 := 0) (r3 := 0) rfl ?_
        refine wr_add (nx := 84) (r1 := 0) (r2 := 0) (r3 := 0) rfl (fun e13 (fe13 : e13 = (h 68 9) + 1) => ?_)
        refine wr_pf0 (k0 := 68) (x := e13) (bl := 0) (bh := 40) (nx := 87) (r1 := 8) (r2 := 9) (r3 := 0) rfl (by decide) rfl ⟨rfl, rfl⟩ rfl rfl g rfl (by omega) (fun h14 g14 w14 u14 => ?_)
        have F15 := F0.then rfl u14
        refine wi_aload_n (i := 1) (x := mm_XB + (13 : Int).toNat) (nx := 88) (r1 := 0) (r2 := 0) (r3 := 0) rfl rfl ?_
        refine wr_gx (k0 := mm_XB + (13 : Int).toNat) (v := vi 3) (nx := 91) (r1 := 3) (r2 := 0) (r3 := 1) rfl (by decide) (by decide) rfl ?_
        refine wi_if (cd := .le) (nx := 94) (r1 := 114) (r2 := 0) (r3 := 0) rfl (by omega) (fun (q16 : 3 ≤ 0) => by exfalso; omega) (fun (q16 : ¬ (3 ≤ 0)) => ?_)
        refine wi_aload_n (i := 0) (x := 68) (nx := 95) (r1 := 0) (r2 := 0) (r3 := 0) rfl rfl ?_
        refine wr_gr (k0 := 68) (x := 1) (nx := 98) (r1 := 8) (r2 := 0) (r3 := 0) rfl rfl (by decide) rfl ⟨rfl, rfl⟩ rfl ?_
        refine wi_aload_n (i := 1) (x := mm_XB + (13 : Int).toNat) (nx := 99) (r1 := 0) (r2 := 0) (r3 := 0) rfl rfl ?_
        refine wr_gx (k0 := mm_XB + (13 : Int).toNat) (v := vi 0) (nx := 102) (r1 := 2) (r2 := 0) (r3 := 1) rfl (by decide) (by decide) rfl ?_
        refine wi_aload_n (i := 1) (x := mm_XB + (13 : Int).toNat) (nx := 103) (r1 := 0) (r2 := 0) (r3 := 0) rfl rfl ?_
        refine wr_gx (k0 := mm_XB + (13 : Int).toNat) (v := vi 3) (nx := 106) (r1 := 3) (r2 := 0) (r3 := 1) rfl (by decide) (by decide) rfl ?_
        refine wr_V (k0 := 1) (rest := []) (as := [.ref 1, vi 0, vi 3]) (nx := 109) (r1 := 103) (r2 := 2) (r3 := 1) rfl rfl rfl (of_decide_eq_true rfl) rfl rfl (by decide) rfl rfl (of_decide_eq_true rfl) (of_decide_eq_true rfl) ?_
        have e18 : h14 1 4 = h 1 4 := (u14 1 4 rfl)
        have tb20 := BufC.fr u14 rfl xq0
        refine ct_103_1 hcr  g14 0 3 (by omega) (by omega) (show (h14 1 4) = (tk_nx tB tn tp) by omega) (show 0 ≤ (tk_nx tB tn tp) by omega) (show (tk_nx tB tn tp) ≤ tn by omega) tb20 (fun h17 z19 g17 u17 (fz19 : 0 ≤ z19 ∧ z19 ≤ 1) (p17_0 : (z19 = 1 ∧ tk_kd tB tn (tk_nx tB tn tp) = 2 ∧ 0 ≤ tk_nb tB tn (tk_nx tB tn tp) ∧ tk_nb tB tn (tk_nx tB tn tp) ≤ 3 ∧ (h17 1 4) = tk_nx tB tn (tk_nx tB tn tp) ∧ (h17 1 7) = tk_nb tB tn (tk_nx tB tn tp) ∧ (h17 1 2) = (h14 1 2) ∧ (h17 1 3) = (h14 1 3)) ∨ (z19 = 0 ∧ (h17 1 3) = tk_st tB tn (tk_nx tB tn tp) ∧ ((tk_kd tB tn (tk_nx tB tn tp) ≠ 2 ∧ (h17 1 2) = 1) ∨ (tk_kd tB tn (tk_nx tB tn tp) = 2 ∧ (tk_nb tB tn (tk_nx tB tn tp) < 0 ∨ 3 < tk_nb tB tn (tk_nx tB tn tp)) ∧ (h17 1 2) = 2)))) => ?_)
        have F21 := F15.then (by decide +kernel) u17
        have e22 : h14 1 2 = h 1 2 := (u14 1 2 rfl)
        have e23 : h14 1 3 = h 1 3 := (u14 1 3 rfl)
        have b24 := gi_b (lo := 0) (hi := 800) g17 1 4 rfl
        have b25 := gi_b (lo := -2147483648) (hi := 2147483647) g17 1 7 rfl
        have b26 := gi_b (lo := -2147483648) (hi := 2147483647) g17 1 2 rfl
        have b27 := gi_b (lo := -2147483648) (hi := 2147483647) g17 1 3 rfl
        have tN28 := @tk_nx_b tB tn (tk_nx tB tn tp) (by omega) (by omega)
        refine wk_i ?_
        refine wi_if (cd := .ne) (nx := 112) (r1 := 114) (r2 := 0) (r3 := 0) rfl (by omega) (fun (q29 : z19 ≠ 0) => ?_) (fun (q29 : ¬ (z19 ≠ 0)) => ?_)
        ·
          refine wi_aload_n (i := 0) (x := 68) (nx := 115) (r1 := 0) (r2 := 0) (r3 := 0) rfl rfl ?_
          refine wi_aload_n (i := 1) (x := mm_XB + (13 : Int).toNat) (nx := 116) (r1 := 0) (r2 := 0) (r3 := 0) rfl rfl ?_
          refine wi_aload_n (i := 0) (x := 68) (nx := 117) (r1 := 0) (r2 := 0) (r3 := 0) rfl rfl ?_
          refine wr_gr (k0 := 68) (x := 1) (nx := 120) (r1 := 8) (r2 := 0) (r3 := 0) rfl rfl (by decide) rfl ⟨rfl, rfl⟩ rfl ?_
          refine wr_gi0 (k0 := 1) (x := h17 1 7) (nx := 123) (r1 := 1) (r2 := 7) (r3 := 0) rfl rfl (by decide) rfl ⟨rfl, rfl⟩ rfl rfl ?_
          refine wr_V (k0 := 68) (rest := []) (as := [.ref 68, wv 13, vi (h17 1 7)]) (nx := 126) (r1 := 184) (r2 := 2) (r3 := 8) rfl rfl rfl (of_decide_eq_true rfl) rfl rfl (by decide) rfl rfl (of_decide_eq_true rfl) (of_decide_eq_true rfl) ?_
          refine ct_184_68 hcr  g17 13 (h17 1 7) (by omega) (by omega)  (fun h30 g30 u30 => ?_)
          have F31 := F21.then (by decide +kernel) u30
          refine wk_n ?_
          refine wi_aload_n (i := 1) (x := mm_XB + (13 : Int).toNat) (nx := 127) (r1 := 0) (r2 := 0) (r3 := 0) rfl rfl ?_
          refine wr_gst (v := wv 20) (nx := 130) (r1 := 19) (r2 := 0) (r3 := 0) rfl rfl rfl ?_
          refine wr_acmp (cd := .ne) (x := 13) (y := 20) (nx := 133) (r1 := 166) (r2 := 0) (r3 := 0) rfl (by omega) (by omega) (fun _ => ?_) (fun q => absurd (by decide) q)
          refine wi_aload_n (i := 0) (x := 68) (nx := 167) (r1 := 0) (r2 := 0) (r3 := 0) rfl rfl ?_
          refine wr_gr (k0 := 68) (x := 1) (nx := 170) (r1 := 8) (r2 := 0) (r3 := 0) rfl rfl (by decide) rfl ⟨rfl, rfl⟩ rfl ?_
          refine wr_V (k0 := 1) (rest := []) (as := [.ref 1]) (nx := 173) (r1 := 105) (r2 := 0) (r3 := 1) rfl rfl rfl (of_decide_eq_true rfl) rfl rfl (by decide) rfl rfl (of_decide_eq_true rfl) (of_decide_eq_true rfl) ?_
          have e34 : h30 1 4 = h17 1 4 := (u30 1 4 rfl)
          have tb36 := BufC.fr u17 rfl tb20
          have tb37 := BufC.fr u30 rfl tb36
          refine ct_105_1 hcr  g30   (show (h30 1 4) = (tk_nx tB tn (tk_nx tB tn tp)) by omega) (show 0 ≤ (tk_nx tB tn (tk_nx tB tn tp)) by omega) (show (tk_nx tB tn (tk_nx tB tn tp)) ≤ tn by omega) tb37 (fun h33 z35 g33 u33 (fz35 : 0 ≤ z35 ∧ z35 ≤ 1) (p33_0 : (z35 = 1 ∧ tk_kd tB tn (tk_nx tB tn (tk_nx tB tn tp)) = 3 ∧ (h33 1 4) = tk_nx tB tn (tk_nx tB tn (tk_nx tB tn tp)) ∧ (h33 1 2) = (h30 1 2) ∧ (h33 1 3) = (h30 1 3)) ∨ (z35 = 0 ∧ tk_kd tB tn (tk_nx tB tn (tk_nx tB tn tp)) ≠ 3 ∧ (h33 1 2) = 1 ∧ (h33 1 3) = tk_st tB tn (tk_nx tB tn (tk_nx tB tn tp)))) => ?_)
          have F38 := F31.then (by decide +kernel) u33
          have e39 : h30 1 2 = h17 1 2 := (u30 1 2 rfl)
          have e40 : h30 1 3 = h17 1 3 := (u30 1 3 rfl)
          have b41 := gi_b (lo := 0) (hi := 800) g33 1 4 rfl
          have b42 := gi_b (lo := -2147483648) (hi := 2147483647) g33 1 2 rfl
          have b43 := gi_b (lo := -2147483648) (hi := 2147483647) g33 1 3 rfl
          have tN44 := @tk_nx_b tB tn (tk_nx tB tn (tk_nx tB tn tp)) (by omega) (by omega)
          refine wk_i ?_
          refine wi_zreturn (nx := 174) (r1 := 0) (r2 := 0) (r3 := 0) rfl rfl (by omega) ?_
          have b45 := gi_b (lo := 0) (hi := 2) g 68 8 rfl
          have e46 : h33 68 8 = h 68 8 := ((u33 68 8 rfl).trans ((u30 68 8 rfl).trans ((u17 68 8 rfl).trans (u14 68 8 rfl))))
          have e47 : h33 68 9 = e13 := ((u33 68 9 rfl).trans ((u30 68 9 rfl).trans ((u17 68 9 rfl).trans w14)))
          exact k h33 z35 g33 F38 (by omega) (show z35 = 0 ∨ z35 = 1 by omega) (by rcases (show z35 = 0 ∨ z35 = 1 by omega) with zz | zz; (unfold sc_cmd sc_hd sc_num sc_mk; (try dsimp only); (repeat (first | rw [if_pos (by omega)] | rw [if_neg (by omega)])); (repeat ((first | unfold sc_num | unfold sc_mk); (try dsimp only); (repeat (first | rw [if_pos (by omega)] | rw [if_neg (by omega)])))); exact sc_Oe (by omega) (by omega) (by omega) (by omega)); (unfold sc_cmd sc_hd sc_num sc_mk; (try dsimp only); (repeat (first | rw [if_pos (by omega)] | rw [if_neg (by omega)])); (repeat ((first | unfold sc_num | unfold sc_mk); (try dsimp only); (repeat (first | rw [if_pos (by omega)] | rw [if_neg (by omega)])))); exact sc_Os (by omega) (by omega) (by omega) (by omega) (by omega) (by omega)))
        ·
          refine wi_iconst (n := 0) (nx := 113) (r1 := 0) (r2 := 0) (r3 := 0) rfl ?_
          refine wi_zreturn (nx := 114) (r1 := 0) (r2 := 0) (r3 := 0) rfl rfl (by omega) ?_
          have b30 := gi_b (lo := 0) (hi := 2) g 68 8 rfl
          have e31 : h17 68 8 = h 68 8 := ((u17 68 8 rfl).trans (u14 68 8 rfl))
          have e32 : h17 68 9 = e13 := ((u17 68 9 rfl).trans w14)
          exact k h17 0 g17 F21 (by omega) (show 0 = 0 ∨ 0 = 1 by omega) (by unfold sc_cmd sc_hd sc_num sc_mk; (try dsimp only); (repeat (first | rw [if_pos (by omega)] | rw [if_neg (by omega)])); (repeat ((first | unfold sc_num | unfold sc_mk); (try dsimp only); (repeat (first | rw [if_pos (by omega)] | rw [if_neg (by omega)])))); first | exact sc_Oe (by omega) (by omega) (by omega) (by omega) | ((repeat' split) <;> (first | exact sc_Oe (by omega) (by omega) (by omega) (by omega) | (exfalso; omega))))
      ·
        refine wi_aload_n (i := 0) (x := 68) (nx := 69) (r1 := 0) (r2 := 0) (r3 := 0) rfl rfl ?_
        refine wr_gr (k0 := 68) (x := 1) (nx := 72) (r1 := 8) (r2 := 0) (r3 := 0) rfl rfl (by decide) rfl ⟨rfl, rfl⟩ rfl ?_
        refine wi_iconst (n := 5) (nx := 73) (r1 := 0) (r2 := 0) (r3 := 0) rfl ?_
        refine wr_V (k0 := 1) (rest := []) (as := [.ref 1, vi 5]) (nx := 76) (r1 := 101) (r2 := 1) (r3 := 1) rfl rfl rfl (of_decide_eq_true rfl) rfl rfl (by decide) rfl rfl (of_decide_eq_true rfl) (of_decide_eq_true rfl) ?_
        refine ct_101_1 hcr  g 5 (by omega)  (fun h13 z14 g13 u13 (fz14 : 0 ≤ z14 ∧ z14 ≤ 0) (p13_0 : z14 = 0) (p13_1 : (h13 1 2) = 5) (p13_2 : (h13 1 3) = (h 1 6)) => ?_)
        have F15 := F0.then (by decide +kernel) u13
        have b16 := gi_b (lo := -2147483648) (hi := 2147483647) g13 1 2 rfl
        have b17 := gi_b (lo := -2147483648) (hi := 2147483647) g13 1 3 rfl
        refine wk_i ?_
        refine wi_zreturn (nx := 77) (r1 := 0) (r2 := 0) (r3 := 0) rfl rfl (by omega) ?_
        have e18 : h13 1 4 = h 1 4 := (u13 1 4 rfl)
        have b19 := gi_b (lo := 0) (hi := 2) g 68 8 rfl
        have e20 : h13 68 8 = h 68 8 := (u13 68 8 rfl)
        have e21 : h13 68 9 = h 68 9 := (u13 68 9 rfl)
        exact k h13 z14 g13 F15 (by omega) (show z14 = 0 ∨ z14 = 1 by omega) (by unfold sc_cmd sc_hd sc_num sc_mk; (try dsimp only); (repeat (first | rw [if_pos (by omega)] | rw [if_neg (by omega)])); (repeat ((first | unfold sc_num | unfold sc_mk); (try dsimp only); (repeat (first | rw [if_pos (by omega)] | rw [if_neg (by omega)])))); first | exact sc_Oe (by omega) (by omega) (by omega) (by omega) | ((repeat' split) <;> (first | exact sc_Oe (by omega) (by omega) (by omega) (by omega) | (exfalso; omega))))
  ·
    refine wr_gi3 (k0 := 1) (x := 14) (nx := 7) (r1 := 1) (r2 := 9) (r3 := 0) rfl rfl (by decide) rfl ⟨rfl, rfl⟩ rfl q7 ?_
    refine wi_astore_n (i := 1) (x := mm_XB + (14 : Int).toNat) (lo2 := [(1, wv 14), (0, .ref 68)]) (nx := 8) (r1 := 0) (r2 := 0) (r3 := 0) rfl rfl ?_
    refine wi_aload_n (i := 0) (x := 68) (nx := 9) (r1 := 0) (r2 := 0) (r3 := 0) rfl rfl ?_
    refine wr_gr (k0 := 68) (x := 1) (nx := 12) (r1 := 8) (r2 := 0) (r3 := 0) rfl rfl (by decide) rfl ⟨rfl, rfl⟩ rfl ?_
    refine wr_gi0 (k0 := 1) (x := h 1 5) (nx := 15) (r1 := 1) (r2 := 5) (r3 := 0) rfl rfl (by decide) rfl ⟨rfl, rfl⟩ rfl rfl ?_
    refine wi_iconst (n := 1) (nx := 16) (r1 := 0) (r2 := 0) (r3 := 0) rfl ?_
    refine wi_icmp (cd := .ne) (nx := 19) (r1 := 26) (r2 := 0) (r3 := 0) rfl (by omega) (by omega) (fun (q8 : (h 1 5) ≠ 1) => ?_) (fun (q8 : ¬ ((h 1 5) ≠ 1)) => ?_)
    ·
      refine wi_aload_n (i := 0) (x := 68) (nx := 27) (r1 := 0) (r2 := 0) (r3 := 0) rfl rfl ?_
      refine wr_gr (k0 := 68) (x := 1) (nx := 30) (r1 := 8) (r2 := 0) (r3 := 0) rfl rfl (by decide) rfl ⟨rfl, rfl⟩ rfl ?_
      refine wi_iconst (n := 1) (nx := 31) (r1 := 0) (r2 := 0) (r3 := 0) rfl ?_
      refine wr_V (k0 := 1) (rest := []) (as := [.ref 1, vi 1]) (nx := 34) (r1 := 101) (r2 := 1) (r3 := 1) rfl rfl rfl (of_decide_eq_true rfl) rfl rfl (by decide) rfl rfl (of_decide_eq_true rfl) (of_decide_eq_true rfl) ?_
      refine ct_101_1 hcr  g 1 (by omega)  (fun h9 z10 g9 u9 (fz10 : 0 ≤ z10 ∧ z10 ≤ 0) (p9_0 : z10 = 0) (p9_1 : (h9 1 2) = 1) (p9_2 : (h9 1 3) = (h 1 6)) => ?_)
      have F11 := F0.then (by decide +kernel) u9
      have b12 := gi_b (lo := -2147483648) (hi := 2147483647) g9 1 2 rfl
      have b13 := gi_b (lo := -2147483648) (hi := 2147483647) g9 1 3 rfl
      refine wk_i ?_
      refine wi_zreturn (nx := 35) (r1 := 0) (r2 := 0) (r3 := 0) rfl rfl (by omega) ?_
      have e14 : h9 1 4 = h 1 4 := (u9 1 4 rfl)
      have b15 := gi_b (lo := 0) (hi := 2) g 68 8 rfl
      have e16 : h9 68 8 = h 68 8 := (u9 68 8 rfl)
      have b17 := gi_b (lo := 0) (hi := 40) g 68 9 rfl
      have e18 : h9 68 9 = h 68 9 := (u9 68 9 rfl)
      exact k h9 z10 g9 F11 (by omega) (show z10 = 0 ∨ z10 = 1 by omega) (by unfold sc_cmd sc_hd sc_num sc_mk; (try dsimp only); (repeat (first | rw [if_pos (by omega)] | rw [if_neg (by omega)])); (repeat ((first | unfold sc_num | unfold sc_mk); (try dsimp only); (repeat (first | rw [if_pos (by omega)] | rw [if_neg (by omega)])))); first | exact sc_Oe (by omega) (by omega) (by omega) (by omega) | ((repeat' split) <;> (first | exact sc_Oe (by omega) (by omega) (by omega) (by omega) | (exfalso; omega))))
    ·
      refine wi_aload_n (i := 1) (x := mm_XB + (14 : Int).toNat) (nx := 20) (r1 := 0) (r2 := 0) (r3 := 0) rfl rfl ?_
      refine wr_gx (k0 := mm_XB + (14 : Int).toNat) (v := vi 1) (nx := 23) (r1 := 1) (r2 := 0) (r3 := 1) rfl (by decide) (by decide) rfl ?_
      refine wi_if (cd := .ne) (nx := 26) (r1 := 35) (r2 := 0) (r3 := 0) rfl (by omega) (fun (q9 : 1 ≠ 0) => ?_) (fun (q9 : ¬ (1 ≠ 0)) => by exfalso; omega)
      refine wi_aload_n (i := 1) (x := mm_XB + (14 : Int).toNat) (nx := 36) (r1 := 0) (r2 := 0) (r3 := 0) rfl rfl ?_
      refine wr_gst (v := wv 20) (nx := 39) (r1 := 19) (r2 := 0) (r3 := 0) rfl rfl rfl ?_
      refine wr_acmp (cd := .ne) (x := 14) (y := 20) (nx := 42) (r1 := 59) (r2 := 0) (r3 := 0) rfl (by omega) (by omega) (fun _ => ?_) (fun q => absurd (by decide) q)
      refine wi_aload_n (i := 0) (x := 68) (nx := 60) (r1 := 0) (r2 := 0) (r3 := 0) rfl rfl ?_
      have b11 := gi_b (lo := 0) (hi := 40) g 68 9 rfl
      refine wr_gi0 (k0 := 68) (x := h 68 9) (nx := 63) (r1 := 8) (r2 := 9) (r3 := 0) rfl rfl (by decide) rfl ⟨rfl, rfl⟩ rfl rfl ?_
      refine wi_bipush (n := 40) (nx := 65) (r1 := 0) (r2 := 0) (r3 := 0) rfl (by decide) ?_
      refine wi_icmp (cd := .lt) (nx := 68) (r1 := 77) (r2 := 0) (r3 := 0) rfl (by omega) (by omega) (fun (q12 : (h 68 9) < 40) => ?_) (fun (q12 : ¬ ((h 68 9) < 40)) => ?_)
      ·
        refine wi_aload_n (i := 0) (x := 68) (nx := 78) (r1 := 0) (r2 := 0) (r3 := 0) rfl rfl ?_
        refine wi_dup (nx := 79) (r1 := 0) (r2 := 0) (r3 := 0) rfl rfl ?_
        refine wr_gi0 (k0 := 68) (x := h 68 9) (nx := 82) (r1 := 8) (r2 := 9) (r3 := 0) rfl rfl (by decide) rfl ⟨rfl, rfl⟩ rfl rfl ?_
        refine wi_iconst (n := 1) (nx := 83) (r1 := 0) (r2 := 0) (r3 := 0) rfl ?_
        refine wr_add (nx := 84) (r1 := 0) (r2 := 0) (r3 := 0) rfl (fun e13 (fe13 : e13 = (h 68 9) + 1) => ?_)
        refine wr_pf0 (k0 := 68) (x := e13) (bl := 0) (bh := 40) (nx := 87) (r1 := 8) (r2 := 9) (r3 := 0) rfl (by decide) rfl ⟨rfl, rfl⟩ rfl rfl g rfl (by omega) (fun h14 g14 w14 u14 => ?_)
        have F15 := F0.then rfl u14
        refine wi_aload_n (i := 1) (x := mm_XB + (14 : Int).toNat) (nx := 88) (r1 := 0) (r2 := 0) (r3 := 0) rfl rfl ?_
        refine wr_gx (k0 := mm_XB + (14 : Int).toNat) (v := vi 3) (nx := 91) (r1 := 3) (r2 := 0) (r3 := 1) rfl (by decide) (by decide) rfl ?_
        refine wi_if (cd := .le) (nx := 94) (r1 := 114) (r2 := 0) (r3 := 0) rfl (by omega) (fun (q16 : 3 ≤ 0) => by exfalso; omega) (fun (q16 : ¬ (3 ≤ 0)) => ?_)
        refine wi_aload_n (i := 0) (x := 68) (nx := 95) (r1 := 0) (r2 := 0) (r3 := 0) rfl rfl ?_
        refine wr_gr (k0 := 68) (x := 1) (nx := 98) (r1 := 8) (r2 := 0) (r3 := 0) rfl rfl (by decide) rfl ⟨rfl, rfl⟩ rfl ?_
        refine wi_aload_n (i := 1) (x := mm_XB + (14 : Int).toNat) (nx := 99) (r1 := 0) (r2 := 0) (r3 := 0) rfl rfl ?_
        refine wr_gx (k0 := mm_XB + (14 : Int).toNat) (v := vi 0) (nx := 102) (r1 := 2) (r2 := 0) (r3 := 1) rfl (by decide) (by decide) rfl ?_
        refine wi_aload_n (i := 1) (x := mm_XB + (14 : Int).toNat) (nx := 103) (r1 := 0) (r2 := 0) (r3 := 0) rfl rfl ?_
        refine wr_gx (k0 := mm_XB + (14 : Int).toNat) (v := vi 3) (nx := 106) (r1 := 3) (r2 := 0) (r3 := 1) rfl (by decide) (by decide) rfl ?_
        refine wr_V (k0 := 1) (rest := []) (as := [.ref 1, vi 0, vi 3]) (nx := 109) (r1 := 103) (r2 := 2) (r3 := 1) rfl rfl rfl (of_decide_eq_true rfl) rfl rfl (by decide) rfl rfl (of_decide_eq_true rfl) (of_decide_eq_true rfl) ?_
        have e18 : h14 1 4 = h 1 4 := (u14 1 4 rfl)
        have tb20 := BufC.fr u14 rfl xq0
        refine ct_103_1 hcr  g14 0 3 (by omega) (by omega) (show (h14 1 4) = (tk_nx tB tn tp) by omega) (show 0 ≤ (tk_nx tB tn tp) by omega) (show (tk_nx tB tn tp) ≤ tn by omega) tb20 (fun h17 z19 g17 u17 (fz19 : 0 ≤ z19 ∧ z19 ≤ 1) (p17_0 : (z19 = 1 ∧ tk_kd tB tn (tk_nx tB tn tp) = 2 ∧ 0 ≤ tk_nb tB tn (tk_nx tB tn tp) ∧ tk_nb tB tn (tk_nx tB tn tp) ≤ 3 ∧ (h17 1 4) = tk_nx tB tn (tk_nx tB tn tp) ∧ (h17 1 7) = tk_nb tB tn (tk_nx tB tn tp) ∧ (h17 1 2) = (h14 1 2) ∧ (h17 1 3) = (h14 1 3)) ∨ (z19 = 0 ∧ (h17 1 3) = tk_st tB tn (tk_nx tB tn tp) ∧ ((tk_kd tB tn (tk_nx tB tn tp) ≠ 2 ∧ (h17 1 2) = 1) ∨ (tk_kd tB tn (tk_nx tB tn tp) = 2 ∧ (tk_nb tB tn (tk_nx tB tn tp) < 0 ∨ 3 < tk_nb tB tn (tk_nx tB tn tp)) ∧ (h17 1 2) = 2)))) => ?_)
        have F21 := F15.then (by decide +kernel) u17
        have e22 : h14 1 2 = h 1 2 := (u14 1 2 rfl)
        have e23 : h14 1 3 = h 1 3 := (u14 1 3 rfl)
        have b24 := gi_b (lo := 0) (hi := 800) g17 1 4 rfl
        have b25 := gi_b (lo := -2147483648) (hi := 2147483647) g17 1 7 rfl
        have b26 := gi_b (lo := -2147483648) (hi := 2147483647) g17 1 2 rfl
        have b27 := gi_b (lo := -2147483648) (hi := 2147483647) g17 1 3 rfl
        have tN28 := @tk_nx_b tB tn (tk_nx tB tn tp) (by omega) (by omega)
        refine wk_i ?_
        refine wi_if (cd := .ne) (nx := 112) (r1 := 114) (r2 := 0) (r3 := 0) rfl (by omega) (fun (q29 : z19 ≠ 0) => ?_) (fun (q29 : ¬ (z19 ≠ 0)) => ?_)
        ·
          refine wi_aload_n (i := 0) (x := 68) (nx := 115) (r1 := 0) (r2 := 0) (r3 := 0) rfl rfl ?_
          refine wi_aload_n (i := 1) (x := mm_XB + (14 : Int).toNat) (nx := 116) (r1 := 0) (r2 := 0) (r3 := 0) rfl rfl ?_
          refine wi_aload_n (i := 0) (x := 68) (nx := 117) (r1 := 0) (r2 := 0) (r3 := 0) rfl rfl ?_
          refine wr_gr (k0 := 68) (x := 1) (nx := 120) (r1 := 8) (r2 := 0) (r3 := 0) rfl rfl (by decide) rfl ⟨rfl, rfl⟩ rfl ?_
          refine wr_gi0 (k0 := 1) (x := h17 1 7) (nx := 123) (r1 := 1) (r2 := 7) (r3 := 0) rfl rfl (by decide) rfl ⟨rfl, rfl⟩ rfl rfl ?_
          refine wr_V (k0 := 68) (rest := []) (as := [.ref 68, wv 14, vi (h17 1 7)]) (nx := 126) (r1 := 184) (r2 := 2) (r3 := 8) rfl rfl rfl (of_decide_eq_true rfl) rfl rfl (by decide) rfl rfl (of_decide_eq_true rfl) (of_decide_eq_true rfl) ?_
          refine ct_184_68 hcr  g17 14 (h17 1 7) (by omega) (by omega)  (fun h30 g30 u30 => ?_)
          have F31 := F21.then (by decide +kernel) u30
          refine wk_n ?_
          refine wi_aload_n (i := 1) (x := mm_XB + (14 : Int).toNat) (nx := 127) (r1 := 0) (r2 := 0) (r3 := 0) rfl rfl ?_
          refine wr_gst (v := wv 20) (nx := 130) (r1 := 19) (r2 := 0) (r3 := 0) rfl rfl rfl ?_
          refine wr_acmp (cd := .ne) (x := 14) (y := 20) (nx := 133) (r1 := 166) (r2 := 0) (r3 := 0) rfl (by omega) (by omega) (fun _ => ?_) (fun q => absurd (by decide) q)
          refine wi_aload_n (i := 0) (x := 68) (nx := 167) (r1 := 0) (r2 := 0) (r3 := 0) rfl rfl ?_
          refine wr_gr (k0 := 68) (x := 1) (nx := 170) (r1 := 8) (r2 := 0) (r3 := 0) rfl rfl (by decide) rfl ⟨rfl, rfl⟩ rfl ?_
          refine wr_V (k0 := 1) (rest := []) (as := [.ref 1]) (nx := 173) (r1 := 105) (r2 := 0) (r3 := 1) rfl rfl rfl (of_decide_eq_true rfl) rfl rfl (by decide) rfl rfl (of_decide_eq_true rfl) (of_decide_eq_true rfl) ?_
          have e34 : h30 1 4 = h17 1 4 := (u30 1 4 rfl)
          have tb36 := BufC.fr u17 rfl tb20
          have tb37 := BufC.fr u30 rfl tb36
          refine ct_105_1 hcr  g30   (show (h30 1 4) = (tk_nx tB tn (tk_nx tB tn tp)) by omega) (show 0 ≤ (tk_nx tB tn (tk_nx tB tn tp)) by omega) (show (tk_nx tB tn (tk_nx tB tn tp)) ≤ tn by omega) tb37 (fun h33 z35 g33 u33 (fz35 : 0 ≤ z35 ∧ z35 ≤ 1) (p33_0 : (z35 = 1 ∧ tk_kd tB tn (tk_nx tB tn (tk_nx tB tn tp)) = 3 ∧ (h33 1 4) = tk_nx tB tn (tk_nx tB tn (tk_nx tB tn tp)) ∧ (h33 1 2) = (h30 1 2) ∧ (h33 1 3) = (h30 1 3)) ∨ (z35 = 0 ∧ tk_kd tB tn (tk_nx tB tn (tk_nx tB tn tp)) ≠ 3 ∧ (h33 1 2) = 1 ∧ (h33 1 3) = tk_st tB tn (tk_nx tB tn (tk_nx tB tn tp)))) => ?_)
          have F38 := F31.then (by decide +kernel) u33
          have e39 : h30 1 2 = h17 1 2 := (u30 1 2 rfl)
          have e40 : h30 1 3 = h17 1 3 := (u30 1 3 rfl)
          have b41 := gi_b (lo := 0) (hi := 800) g33 1 4 rfl
          have b42 := gi_b (lo := -2147483648) (hi := 2147483647) g33 1 2 rfl
          have b43 := gi_b (lo := -2147483648) (hi := 2147483647) g33 1 3 rfl
          have tN44 := @tk_nx_b tB tn (tk_nx tB tn (tk_nx tB tn tp)) (by omega) (by omega)
          refine wk_i ?_
          refine wi_zreturn (nx := 174) (r1 := 0) (r2 := 0) (r3 := 0) rfl rfl (by omega) ?_
          have b45 := gi_b (lo := 0) (hi := 2) g 68 8 rfl
          have e46 : h33 68 8 = h 68 8 := ((u33 68 8 rfl).trans ((u30 68 8 rfl).trans ((u17 68 8 rfl).trans (u14 68 8 rfl))))
          have e47 : h33 68 9 = e13 := ((u33 68 9 rfl).trans ((u30 68 9 rfl).trans ((u17 68 9 rfl).trans w14)))
          exact k h33 z35 g33 F38 (by omega) (show z35 = 0 ∨ z35 = 1 by omega) (by rcases (show z35 = 0 ∨ z35 = 1 by omega) with zz | zz; (unfold sc_cmd sc_hd sc_num sc_mk; (try dsimp only); (repeat (first | rw [if_pos (by omega)] | rw [if_neg (by omega)])); (repeat ((first | unfold sc_num | unfold sc_mk); (try dsimp only); (repeat (first | rw [if_pos (by omega)] | rw [if_neg (by omega)])))); exact sc_Oe (by omega) (by omega) (by omega) (by omega)); (unfold sc_cmd sc_hd sc_num sc_mk; (try dsimp only); (repeat (first | rw [if_pos (by omega)] | rw [if_neg (by omega)])); (repeat ((first | unfold sc_num | unfold sc_mk); (try dsimp only); (repeat (first | rw [if_pos (by omega)] | rw [if_neg (by omega)])))); exact sc_Os (by omega) (by omega) (by omega) (by omega) (by omega) (by omega)))
        ·
          refine wi_iconst (n := 0) (nx := 113) (r1 := 0) (r2 := 0) (r3 := 0) rfl ?_
          refine wi_zreturn (nx := 114) (r1 := 0) (r2 := 0) (r3 := 0) rfl rfl (by omega) ?_
          have b30 := gi_b (lo := 0) (hi := 2) g 68 8 rfl
          have e31 : h17 68 8 = h 68 8 := ((u17 68 8 rfl).trans (u14 68 8 rfl))
          have e32 : h17 68 9 = e13 := ((u17 68 9 rfl).trans w14)
          exact k h17 0 g17 F21 (by omega) (show 0 = 0 ∨ 0 = 1 by omega) (by unfold sc_cmd sc_hd sc_num sc_mk; (try dsimp only); (repeat (first | rw [if_pos (by omega)] | rw [if_neg (by omega)])); (repeat ((first | unfold sc_num | unfold sc_mk); (try dsimp only); (repeat (first | rw [if_pos (by omega)] | rw [if_neg (by omega)])))); first | exact sc_Oe (by omega) (by omega) (by omega) (by omega) | ((repeat' split) <;> (first | exact sc_Oe (by omega) (by omega) (by omega) (by omega) | (exfalso; omega))))
      ·
        refine wi_aload_n (i := 0) (x := 68) (nx := 69) (r1 := 0) (r2 := 0) (r3 := 0) rfl rfl ?_
        refine wr_gr (k0 := 68) (x := 1) (nx := 72) (r1 := 8) (r2 := 0) (r3 := 0) rfl rfl (by decide) rfl ⟨rfl, rfl⟩ rfl ?_
        refine wi_iconst (n := 5) (nx := 73) (r1 := 0) (r2 := 0) (r3 := 0) rfl ?_
        refine wr_V (k0 := 1) (rest := []) (as := [.ref 1, vi 5]) (nx := 76) (r1 := 101) (r2 := 1) (r3 := 1) rfl rfl rfl (of_decide_eq_true rfl) rfl rfl (by decide) rfl rfl (of_decide_eq_true rfl) (of_decide_eq_true rfl) ?_
        refine ct_101_1 hcr  g 5 (by omega)  (fun h13 z14 g13 u13 (fz14 : 0 ≤ z14 ∧ z14 ≤ 0) (p13_0 : z14 = 0) (p13_1 : (h13 1 2) = 5) (p13_2 : (h13 1 3) = (h 1 6)) => ?_)
        have F15 := F0.then (by decide +kernel) u13
        have b16 := gi_b (lo := -2147483648) (hi := 2147483647) g13 1 2 rfl
        have b17 := gi_b (lo := -2147483648) (hi := 2147483647) g13 1 3 rfl
        refine wk_i ?_
        refine wi_zreturn (nx := 77) (r1 := 0) (r2 := 0) (r3 := 0) rfl rfl (by omega) ?_
        have e18 : h13 1 4 = h 1 4 := (u13 1 4 rfl)
        have b19 := gi_b (lo := 0) (hi := 2) g 68 8 rfl
        have e20 : h13 68 8 = h 68 8 := (u13 68 8 rfl)
        have e21 : h13 68 9 = h 68 9 := (u13 68 9 rfl)
        exact k h13 z14 g13 F15 (by omega) (show z14 = 0 ∨ z14 = 1 by omega) (by unfold sc_cmd sc_hd sc_num sc_mk; (try dsimp only); (repeat (first | rw [if_pos (by omega)] | rw [if_neg (by omega)])); (repeat ((first | unfold sc_num | unfold sc_mk); (try dsimp only); (repeat (first | rw [if_pos (by omega)] | rw [if_neg (by omega)])))); first | exact sc_Oe (by omega) (by omega) (by omega) (by omega) | ((repeat' split) <;> (first | exact sc_Oe (by omega) (by omega) (by omega) (by omega) | (exfalso; omega))))
  ·
    refine wr_gi3 (k0 := 1) (x := 15) (nx := 7) (r1 := 1) (r2 := 9) (r3 := 0) rfl rfl (by decide) rfl ⟨rfl, rfl⟩ rfl q7 ?_
    refine wi_astore_n (i := 1) (x := mm_XB + (15 : Int).toNat) (lo2 := [(1, wv 15), (0, .ref 68)]) (nx := 8) (r1 := 0) (r2 := 0) (r3 := 0) rfl rfl ?_
    refine wi_aload_n (i := 0) (x := 68) (nx := 9) (r1 := 0) (r2 := 0) (r3 := 0) rfl rfl ?_
    refine wr_gr (k0 := 68) (x := 1) (nx := 12) (r1 := 8) (r2 := 0) (r3 := 0) rfl rfl (by decide) rfl ⟨rfl, rfl⟩ rfl ?_
    refine wr_gi0 (k0 := 1) (x := h 1 5) (nx := 15) (r1 := 1) (r2 := 5) (r3 := 0) rfl rfl (by decide) rfl ⟨rfl, rfl⟩ rfl rfl ?_
    refine wi_iconst (n := 1) (nx := 16) (r1 := 0) (r2 := 0) (r3 := 0) rfl ?_
    refine wi_icmp (cd := .ne) (nx := 19) (r1 := 26) (r2 := 0) (r3 := 0) rfl (by omega) (by omega) (fun (q8 : (h 1 5) ≠ 1) => ?_) (fun (q8 : ¬ ((h 1 5) ≠ 1)) => ?_)
    ·
      refine wi_aload_n (i := 0) (x := 68) (nx := 27) (r1 := 0) (r2 := 0) (r3 := 0) rfl rfl ?_
      refine wr_gr (k0 := 68) (x := 1) (nx := 30) (r1 := 8) (r2 := 0) (r3 := 0) rfl rfl (by decide) rfl ⟨rfl, rfl⟩ rfl ?_
      refine wi_iconst (n := 1) (nx := 31) (r1 := 0) (r2 := 0) (r3 := 0) rfl ?_
      refine wr_V (k0 := 1) (rest := []) (as := [.ref 1, vi 1]) (nx := 34) (r1 := 101) (r2 := 1) (r3 := 1) rfl rfl rfl (of_decide_eq_true rfl) rfl rfl (by decide) rfl rfl (of_decide_eq_true rfl) (of_decide_eq_true rfl) ?_
      refine ct_101_1 hcr  g 1 (by omega)  (fun h9 z10 g9 u9 (fz10 : 0 ≤ z10 ∧ z10 ≤ 0) (p9_0 : z10 = 0) (p9_1 : (h9 1 2) = 1) (p9_2 : (h9 1 3) = (h 1 6)) => ?_)
      have F11 := F0.then (by decide +kernel) u9
      have b12 := gi_b (lo := -2147483648) (hi := 2147483647) g9 1 2 rfl
      have b13 := gi_b (lo := -2147483648) (hi := 2147483647) g9 1 3 rfl
      refine wk_i ?_
      refine wi_zreturn (nx := 35) (r1 := 0) (r2 := 0) (r3 := 0) rfl rfl (by omega) ?_
      have e14 : h9 1 4 = h 1 4 := (u9 1 4 rfl)
      have b15 := gi_b (lo := 0) (hi := 2) g 68 8 rfl
      have e16 : h9 68 8 = h 68 8 := (u9 68 8 rfl)
      have b17 := gi_b (lo := 0) (hi := 40) g 68 9 rfl
      have e18 : h9 68 9 = h 68 9 := (u9 68 9 rfl)
      exact k h9 z10 g9 F11 (by omega) (show z10 = 0 ∨ z10 = 1 by omega) (by unfold sc_cmd sc_hd sc_num sc_mk; (try dsimp only); (repeat (first | rw [if_pos (by omega)] | rw [if_neg (by omega)])); (repeat ((first | unfold sc_num | unfold sc_mk); (try dsimp only); (repeat (first | rw [if_pos (by omega)] | rw [if_neg (by omega)])))); first | exact sc_Oe (by omega) (by omega) (by omega) (by omega) | ((repeat' split) <;> (first | exact sc_Oe (by omega) (by omega) (by omega) (by omega) | (exfalso; omega))))
    ·
      refine wi_aload_n (i := 1) (x := mm_XB + (15 : Int).toNat) (nx := 20) (r1 := 0) (r2 := 0) (r3 := 0) rfl rfl ?_
      refine wr_gx (k0 := mm_XB + (15 : Int).toNat) (v := vi 1) (nx := 23) (r1 := 1) (r2 := 0) (r3 := 1) rfl (by decide) (by decide) rfl ?_
      refine wi_if (cd := .ne) (nx := 26) (r1 := 35) (r2 := 0) (r3 := 0) rfl (by omega) (fun (q9 : 1 ≠ 0) => ?_) (fun (q9 : ¬ (1 ≠ 0)) => by exfalso; omega)
      refine wi_aload_n (i := 1) (x := mm_XB + (15 : Int).toNat) (nx := 36) (r1 := 0) (r2 := 0) (r3 := 0) rfl rfl ?_
      refine wr_gst (v := wv 20) (nx := 39) (r1 := 19) (r2 := 0) (r3 := 0) rfl rfl rfl ?_
      refine wr_acmp (cd := .ne) (x := 15) (y := 20) (nx := 42) (r1 := 59) (r2 := 0) (r3 := 0) rfl (by omega) (by omega) (fun _ => ?_) (fun q => absurd (by decide) q)
      refine wi_aload_n (i := 0) (x := 68) (nx := 60) (r1 := 0) (r2 := 0) (r3 := 0) rfl rfl ?_
      have b11 := gi_b (lo := 0) (hi := 40) g 68 9 rfl
      refine wr_gi0 (k0 := 68) (x := h 68 9) (nx := 63) (r1 := 8) (r2 := 9) (r3 := 0) rfl rfl (by decide) rfl ⟨rfl, rfl⟩ rfl rfl ?_
      refine wi_bipush (n := 40) (nx := 65) (r1 := 0) (r2 := 0) (r3 := 0) rfl (by decide) ?_
      refine wi_icmp (cd := .lt) (nx := 68) (r1 := 77) (r2 := 0) (r3 := 0) rfl (by omega) (by omega) (fun (q12 : (h 68 9) < 40) => ?_) (fun (q12 : ¬ ((h 68 9) < 40)) => ?_)
      ·
        refine wi_aload_n (i := 0) (x := 68) (nx := 78) (r1 := 0) (r2 := 0) (r3 := 0) rfl rfl ?_
        refine wi_dup (nx := 79) (r1 := 0) (r2 := 0) (r3 := 0) rfl rfl ?_
        refine wr_gi0 (k0 := 68) (x := h 68 9) (nx := 82) (r1 := 8) (r2 := 9) (r3 := 0) rfl rfl (by decide) rfl ⟨rfl, rfl⟩ rfl rfl ?_
        refine wi_iconst (n := 1) (nx := 83) (r1 := 0) (r2 := 0) (r3 := 0) rfl ?_
        refine wr_add (nx := 84) (r1 := 0) (r2 := 0) (r3 := 0) rfl (fun e13 (fe13 : e13 = (h 68 9) + 1) => ?_)
        refine wr_pf0 (k0 := 68) (x := e13) (bl := 0) (bh := 40) (nx := 87) (r1 := 8) (r2 := 9) (r3 := 0) rfl (by decide) rfl ⟨rfl, rfl⟩ rfl rfl g rfl (by omega) (fun h14 g14 w14 u14 => ?_)
        have F15 := F0.then rfl u14
        refine wi_aload_n (i := 1) (x := mm_XB + (15 : Int).toNat) (nx := 88) (r1 := 0) (r2 := 0) (r3 := 0) rfl rfl ?_
        refine wr_gx (k0 := mm_XB + (15 : Int).toNat) (v := vi 3) (nx := 91) (r1 := 3) (r2 := 0) (r3 := 1) rfl (by decide) (by decide) rfl ?_
        refine wi_if (cd := .le) (nx := 94) (r1 := 114) (r2 := 0) (r3 := 0) rfl (by omega) (fun (q16 : 3 ≤ 0) => by exfalso; omega) (fun (q16 : ¬ (3 ≤ 0)) => ?_)
        refine wi_aload_n (i := 0) (x := 68) (nx := 95) (r1 := 0) (r2 := 0) (r3 := 0) rfl rfl ?_
        refine wr_gr (k0 := 68) (x := 1) (nx := 98) (r1 := 8) (r2 := 0) (r3 := 0) rfl rfl (by decide) rfl ⟨rfl, rfl⟩ rfl ?_
        refine wi_aload_n (i := 1) (x := mm_XB + (15 : Int).toNat) (nx := 99) (r1 := 0) (r2 := 0) (r3 := 0) rfl rfl ?_
        refine wr_gx (k0 := mm_XB + (15 : Int).toNat) (v := vi 0) (nx := 102) (r1 := 2) (r2 := 0) (r3 := 1) rfl (by decide) (by decide) rfl ?_
        refine wi_aload_n (i := 1) (x := mm_XB + (15 : Int).toNat) (nx := 103) (r1 := 0) (r2 := 0) (r3 := 0) rfl rfl ?_
        refine wr_gx (k0 := mm_XB + (15 : Int).toNat) (v := vi 3) (nx := 106) (r1 := 3) (r2 := 0) (r3 := 1) rfl (by decide) (by decide) rfl ?_
        refine wr_V (k0 := 1) (rest := []) (as := [.ref 1, vi 0, vi 3]) (nx := 109) (r1 := 103) (r2 := 2) (r3 := 1) rfl rfl rfl (of_decide_eq_true rfl) rfl rfl (by decide) rfl rfl (of_decide_eq_true rfl) (of_decide_eq_true rfl) ?_
        have e18 : h14 1 4 = h 1 4 := (u14 1 4 rfl)
        have tb20 := BufC.fr u14 rfl xq0
        refine ct_103_1 hcr  g14 0 3 (by omega) (by omega) (show (h14 1 4) = (tk_nx tB tn tp) by omega) (show 0 ≤ (tk_nx tB tn tp) by omega) (show (tk_nx tB tn tp) ≤ tn by omega) tb20 (fun h17 z19 g17 u17 (fz19 : 0 ≤ z19 ∧ z19 ≤ 1) (p17_0 : (z19 = 1 ∧ tk_kd tB tn (tk_nx tB tn tp) = 2 ∧ 0 ≤ tk_nb tB tn (tk_nx tB tn tp) ∧ tk_nb tB tn (tk_nx tB tn tp) ≤ 3 ∧ (h17 1 4) = tk_nx tB tn (tk_nx tB tn tp) ∧ (h17 1 7) = tk_nb tB tn (tk_nx tB tn tp) ∧ (h17 1 2) = (h14 1 2) ∧ (h17 1 3) = (h14 1 3)) ∨ (z19 = 0 ∧ (h17 1 3) = tk_st tB tn (tk_nx tB tn tp) ∧ ((tk_kd tB tn (tk_nx tB tn tp) ≠ 2 ∧ (h17 1 2) = 1) ∨ (tk_kd tB tn (tk_nx tB tn tp) = 2 ∧ (tk_nb tB tn (tk_nx tB tn tp) < 0 ∨ 3 < tk_nb tB tn (tk_nx tB tn tp)) ∧ (h17 1 2) = 2)))) => ?_)
        have F21 := F15.then (by decide +kernel) u17
        have e22 : h14 1 2 = h 1 2 := (u14 1 2 rfl)
        have e23 : h14 1 3 = h 1 3 := (u14 1 3 rfl)
        have b24 := gi_b (lo := 0) (hi := 800) g17 1 4 rfl
        have b25 := gi_b (lo := -2147483648) (hi := 2147483647) g17 1 7 rfl
        have b26 := gi_b (lo := -2147483648) (hi := 2147483647) g17 1 2 rfl
        have b27 := gi_b (lo := -2147483648) (hi := 2147483647) g17 1 3 rfl
        have tN28 := @tk_nx_b tB tn (tk_nx tB tn tp) (by omega) (by omega)
        refine wk_i ?_
        refine wi_if (cd := .ne) (nx := 112) (r1 := 114) (r2 := 0) (r3 := 0) rfl (by omega) (fun (q29 : z19 ≠ 0) => ?_) (fun (q29 : ¬ (z19 ≠ 0)) => ?_)
        ·
          refine wi_aload_n (i := 0) (x := 68) (nx := 115) (r1 := 0) (r2 := 0) (r3 := 0) rfl rfl ?_
          refine wi_aload_n (i := 1) (x := mm_XB + (15 : Int).toNat) (nx := 116) (r1 := 0) (r2 := 0) (r3 := 0) rfl rfl ?_
          refine wi_aload_n (i := 0) (x := 68) (nx := 117) (r1 := 0) (r2 := 0) (r3 := 0) rfl rfl ?_
          refine wr_gr (k0 := 68) (x := 1) (nx := 120) (r1 := 8) (r2 := 0) (r3 := 0) rfl rfl (by decide) rfl ⟨rfl, rfl⟩ rfl ?_
          refine wr_gi0 (k0 := 1) (x := h17 1 7) (nx := 123) (r1 := 1) (r2 := 7) (r3 := 0) rfl rfl (by decide) rfl ⟨rfl, rfl⟩ rfl rfl ?_
          refine wr_V (k0 := 68) (rest := []) (as := [.ref 68, wv 15, vi (h17 1 7)]) (nx := 126) (r1 := 184) (r2 := 2) (r3 := 8) rfl rfl rfl (of_decide_eq_true rfl) rfl rfl (by decide) rfl rfl (of_decide_eq_true rfl) (of_decide_eq_true rfl) ?_
          refine ct_184_68 hcr  g17 15 (h17 1 7) (by omega) (by omega)  (fun h30 g30 u30 => ?_)
          have F31 := F21.then (by decide +kernel) u30
          refine wk_n ?_
          refine wi_aload_n (i := 1) (x := mm_XB + (15 : Int).toNat) (nx := 127) (r1 := 0) (r2 := 0) (r3 := 0) rfl rfl ?_
          refine wr_gst (v := wv 20) (nx := 130) (r1 := 19) (r2 := 0) (r3 := 0) rfl rfl rfl ?_
          refine wr_acmp (cd := .ne) (x := 15) (y := 20) (nx := 133) (r1 := 166) (r2 := 0) (r3 := 0) rfl (by omega) (by omega) (fun _ => ?_) (fun q => absurd (by decide) q)
          refine wi_aload_n (i := 0) (x := 68) (nx := 167) (r1 := 0) (r2 := 0) (r3 := 0) rfl rfl ?_
          refine wr_gr (k0 := 68) (x := 1) (nx := 170) (r1 := 8) (r2 := 0) (r3 := 0) rfl rfl (by decide) rfl ⟨rfl, rfl⟩ rfl ?_
          refine wr_V (k0 := 1) (rest := []) (as := [.ref 1]) (nx := 173) (r1 := 105) (r2 := 0) (r3 := 1) rfl rfl rfl (of_decide_eq_true rfl) rfl rfl (by decide) rfl rfl (of_decide_eq_true rfl) (of_decide_eq_true rfl) ?_
          have e34 : h30 1 4 = h17 1 4 := (u30 1 4 rfl)
          have tb36 := BufC.fr u17 rfl tb20
          have tb37 := BufC.fr u30 rfl tb36
          refine ct_105_1 hcr  g30   (show (h30 1 4) = (tk_nx tB tn (tk_nx tB tn tp)) by omega) (show 0 ≤ (tk_nx tB tn (tk_nx tB tn tp)) by omega) (show (tk_nx tB tn (tk_nx tB tn tp)) ≤ tn by omega) tb37 (fun h33 z35 g33 u33 (fz35 : 0 ≤ z35 ∧ z35 ≤ 1) (p33_0 : (z35 = 1 ∧ tk_kd tB tn (tk_nx tB tn (tk_nx tB tn tp)) = 3 ∧ (h33 1 4) = tk_nx tB tn (tk_nx tB tn (tk_nx tB tn tp)) ∧ (h33 1 2) = (h30 1 2) ∧ (h33 1 3) = (h30 1 3)) ∨ (z35 = 0 ∧ tk_kd tB tn (tk_nx tB tn (tk_nx tB tn tp)) ≠ 3 ∧ (h33 1 2) = 1 ∧ (h33 1 3) = tk_st tB tn (tk_nx tB tn (tk_nx tB tn tp)))) => ?_)
          have F38 := F31.then (by decide +kernel) u33
          have e39 : h30 1 2 = h17 1 2 := (u30 1 2 rfl)
          have e40 : h30 1 3 = h17 1 3 := (u30 1 3 rfl)
          have b41 := gi_b (lo := 0) (hi := 800) g33 1 4 rfl
          have b42 := gi_b (lo := -2147483648) (hi := 2147483647) g33 1 2 rfl
          have b43 := gi_b (lo := -2147483648) (hi := 2147483647) g33 1 3 rfl
          have tN44 := @tk_nx_b tB tn (tk_nx tB tn (tk_nx tB tn tp)) (by omega) (by omega)
          refine wk_i ?_
          refine wi_zreturn (nx := 174) (r1 := 0) (r2 := 0) (r3 := 0) rfl rfl (by omega) ?_
          have b45 := gi_b (lo := 0) (hi := 2) g 68 8 rfl
          have e46 : h33 68 8 = h 68 8 := ((u33 68 8 rfl).trans ((u30 68 8 rfl).trans ((u17 68 8 rfl).trans (u14 68 8 rfl))))
          have e47 : h33 68 9 = e13 := ((u33 68 9 rfl).trans ((u30 68 9 rfl).trans ((u17 68 9 rfl).trans w14)))
          exact k h33 z35 g33 F38 (by omega) (show z35 = 0 ∨ z35 = 1 by omega) (by rcases (show z35 = 0 ∨ z35 = 1 by omega) with zz | zz; (unfold sc_cmd sc_hd sc_num sc_mk; (try dsimp only); (repeat (first | rw [if_pos (by omega)] | rw [if_neg (by omega)])); (repeat ((first | unfold sc_num | unfold sc_mk); (try dsimp only); (repeat (first | rw [if_pos (by omega)] | rw [if_neg (by omega)])))); exact sc_Oe (by omega) (by omega) (by omega) (by omega)); (unfold sc_cmd sc_hd sc_num sc_mk; (try dsimp only); (repeat (first | rw [if_pos (by omega)] | rw [if_neg (by omega)])); (repeat ((first | unfold sc_num | unfold sc_mk); (try dsimp only); (repeat (first | rw [if_pos (by omega)] | rw [if_neg (by omega)])))); exact sc_Os (by omega) (by omega) (by omega) (by omega) (by omega) (by omega)))
        ·
          refine wi_iconst (n := 0) (nx := 113) (r1 := 0) (r2 := 0) (r3 := 0) rfl ?_
          refine wi_zreturn (nx := 114) (r1 := 0) (r2 := 0) (r3 := 0) rfl rfl (by omega) ?_
          have b30 := gi_b (lo := 0) (hi := 2) g 68 8 rfl
          have e31 : h17 68 8 = h 68 8 := ((u17 68 8 rfl).trans (u14 68 8 rfl))
          have e32 : h17 68 9 = e13 := ((u17 68 9 rfl).trans w14)
          exact k h17 0 g17 F21 (by omega) (show 0 = 0 ∨ 0 = 1 by omega) (by unfold sc_cmd sc_hd sc_num sc_mk; (try dsimp only); (repeat (first | rw [if_pos (by omega)] | rw [if_neg (by omega)])); (repeat ((first | unfold sc_num | unfold sc_mk); (try dsimp only); (repeat (first | rw [if_pos (by omega)] | rw [if_neg (by omega)])))); first | exact sc_Oe (by omega) (by omega) (by omega) (by omega) | ((repeat' split) <;> (first | exact sc_Oe (by omega) (by omega) (by omega) (by omega) | (exfalso; omega))))
      ·
        refine wi_aload_n (i := 0) (x := 68) (nx := 69) (r1 := 0) (r2 := 0) (r3 := 0) rfl rfl ?_
        refine wr_gr (k0 := 68) (x := 1) (nx := 72) (r1 := 8) (r2 := 0) (r3 := 0) rfl rfl (by decide) rfl ⟨rfl, rfl⟩ rfl ?_
        refine wi_iconst (n := 5) (nx := 73) (r1 := 0) (r2 := 0) (r3 := 0) rfl ?_
        refine wr_V (k0 := 1) (rest := []) (as := [.ref 1, vi 5]) (nx := 76) (r1 := 101) (r2 := 1) (r3 := 1) rfl rfl rfl (of_decide_eq_true rfl) rfl rfl (by decide) rfl rfl (of_decide_eq_true rfl) (of_decide_eq_true rfl) ?_
        refine ct_101_1 hcr  g 5 (by omega)  (fun h13 z14 g13 u13 (fz14 : 0 ≤ z14 ∧ z14 ≤ 0) (p13_0 : z14 = 0) (p13_1 : (h13 1 2) = 5) (p13_2 : (h13 1 3) = (h 1 6)) => ?_)
        have F15 := F0.then (by decide +kernel) u13
        have b16 := gi_b (lo := -2147483648) (hi := 2147483647) g13 1 2 rfl
        have b17 := gi_b (lo := -2147483648) (hi := 2147483647) g13 1 3 rfl
        refine wk_i ?_
        refine wi_zreturn (nx := 77) (r1 := 0) (r2 := 0) (r3 := 0) rfl rfl (by omega) ?_
        have e18 : h13 1 4 = h 1 4 := (u13 1 4 rfl)
        have b19 := gi_b (lo := 0) (hi := 2) g 68 8 rfl
        have e20 : h13 68 8 = h 68 8 := (u13 68 8 rfl)
        have e21 : h13 68 9 = h 68 9 := (u13 68 9 rfl)
        exact k h13 z14 g13 F15 (by omega) (show z14 = 0 ∨ z14 = 1 by omega) (by unfold sc_cmd sc_hd sc_num sc_mk; (try dsimp only); (repeat (first | rw [if_pos (by omega)] | rw [if_neg (by omega)])); (repeat ((first | unfold sc_num | unfold sc_mk); (try dsimp only); (repeat (first | rw [if_pos (by omega)] | rw [if_neg (by omega)])))); first | exact sc_Oe (by omega) (by omega) (by omega) (by omega) | ((repeat' split) <;> (first | exact sc_Oe (by omega) (by omega) (by omega) (by omega) | (exfalso; omega))))
  ·
    refine wr_gi3 (k0 := 1) (x := 16) (nx := 7) (r1 := 1) (r2 := 9) (r3 := 0) rfl rfl (by decide) rfl ⟨rfl, rfl⟩ rfl q7 ?_
    refine wi_astore_n (i := 1) (x := mm_XB + (16 : Int).toNat) (lo2 := [(1, wv 16), (0, .ref 68)]) (nx := 8) (r1 := 0) (r2 := 0) (r3 := 0) rfl rfl ?_
    refine wi_aload_n (i := 0) (x := 68) (nx := 9) (r1 := 0) (r2 := 0) (r3 := 0) rfl rfl ?_
    refine wr_gr (k0 := 68) (x := 1) (nx := 12) (r1 := 8) (r2 := 0) (r3 := 0) rfl rfl (by decide) rfl ⟨rfl, rfl⟩ rfl ?_
    refine wr_gi0 (k0 := 1) (x := h 1 5) (nx := 15) (r1 := 1) (r2 := 5) (r3 := 0) rfl rfl (by decide) rfl ⟨rfl, rfl⟩ rfl rfl ?_
    refine wi_iconst (n := 1) (nx := 16) (r1 := 0) (r2 := 0) (r3 := 0) rfl ?_
    refine wi_icmp (cd := .ne) (nx := 19) (r1 := 26) (r2 := 0) (r3 := 0) rfl (by omega) (by omega) (fun (q8 : (h 1 5) ≠ 1) => ?_) (fun (q8 : ¬ ((h 1 5) ≠ 1)) => ?_)
    ·
      refine wi_aload_n (i := 0) (x := 68) (nx := 27) (r1 := 0) (r2 := 0) (r3 := 0) rfl rfl ?_
      refine wr_gr (k0 := 68) (x := 1) (nx := 30) (r1 := 8) (r2 := 0) (r3 := 0) rfl rfl (by decide) rfl ⟨rfl, rfl⟩ rfl ?_
      refine wi_iconst (n := 1) (nx := 31) (r1 := 0) (r2 := 0) (r3 := 0) rfl ?_
      refine wr_V (k0 := 1) (rest := []) (as := [.ref 1, vi 1]) (nx := 34) (r1 := 101) (r2 := 1) (r3 := 1) rfl rfl rfl (of_decide_eq_true rfl) rfl rfl (by decide) rfl rfl (of_decide_eq_true rfl) (of_decide_eq_true rfl) ?_
      refine ct_101_1 hcr  g 1 (by omega)  (fun h9 z10 g9 u9 (fz10 : 0 ≤ z10 ∧ z10 ≤ 0) (p9_0 : z10 = 0) (p9_1 : (h9 1 2) = 1) (p9_2 : (h9 1 3) = (h 1 6)) => ?_)
      have F11 := F0.then (by decide +kernel) u9
      have b12 := gi_b (lo := -2147483648) (hi := 2147483647) g9 1 2 rfl
      have b13 := gi_b (lo := -2147483648) (hi := 2147483647) g9 1 3 rfl
      refine wk_i ?_
      refine wi_zreturn (nx := 35) (r1 := 0) (r2 := 0) (r3 := 0) rfl rfl (by omega) ?_
      have e14 : h9 1 4 = h 1 4 := (u9 1 4 rfl)
      have b15 := gi_b (lo := 0) (hi := 2) g 68 8 rfl
      have e16 : h9 68 8 = h 68 8 := (u9 68 8 rfl)
      have b17 := gi_b (lo := 0) (hi := 40) g 68 9 rfl
      have e18 : h9 68 9 = h 68 9 := (u9 68 9 rfl)
      exact k h9 z10 g9 F11 (by omega) (show z10 = 0 ∨ z10 = 1 by omega) (by unfold sc_cmd sc_hd sc_num sc_mk; (try dsimp only); (repeat (first | rw [if_pos (by omega)] | rw [if_neg (by omega)])); (repeat ((first | unfold sc_num | unfold sc_mk); (try dsimp only); (repeat (first | rw [if_pos (by omega)] | rw [if_neg (by omega)])))); first | exact sc_Oe (by omega) (by omega) (by omega) (by omega) | ((repeat' split) <;> (first | exact sc_Oe (by omega) (by omega) (by omega) (by omega) | (exfalso; omega))))
    ·
      refine wi_aload_n (i := 1) (x := mm_XB + (16 : Int).toNat) (nx := 20) (r1 := 0) (r2 := 0) (r3 := 0) rfl rfl ?_
      refine wr_gx (k0 := mm_XB + (16 : Int).toNat) (v := vi 1) (nx := 23) (r1 := 1) (r2 := 0) (r3 := 1) rfl (by decide) (by decide) rfl ?_
      refine wi_if (cd := .ne) (nx := 26) (r1 := 35) (r2 := 0) (r3 := 0) rfl (by omega) (fun (q9 : 1 ≠ 0) => ?_) (fun (q9 : ¬ (1 ≠ 0)) => by exfalso; omega)
      refine wi_aload_n (i := 1) (x := mm_XB + (16 : Int).toNat) (nx := 36) (r1 := 0) (r2 := 0) (r3 := 0) rfl rfl ?_
      refine wr_gst (v := wv 20) (nx := 39) (r1 := 19) (r2 := 0) (r3 := 0) rfl rfl rfl ?_
      refine wr_acmp (cd := .ne) (x := 16) (y := 20) (nx := 42) (r1 := 59) (r2 := 0) (r3 := 0) rfl (by omega) (by omega) (fun _ => ?_) (fun q => absurd (by decide) q)
      refine wi_aload_n (i := 0) (x := 68) (nx := 60) (r1 := 0) (r2 := 0) (r3 := 0) rfl rfl ?_
      have b11 := gi_b (lo := 0) (hi := 40) g 68 9 rfl
      refine wr_gi0 (k0 := 68) (x := h 68 9) (nx := 63) (r1 := 8) (r2 := 9) (r3 := 0) rfl rfl (by decide) rfl ⟨rfl, rfl⟩ rfl rfl ?_
      refine wi_bipush (n := 40) (nx := 65) (r1 := 0) (r2 := 0) (r3 := 0) rfl (by decide) ?_
      refine wi_icmp (cd := .lt) (nx := 68) (r1 := 77) (r2 := 0) (r3 := 0) rfl (by omega) (by omega) (fun (q12 : (h 68 9) < 40) => ?_) (fun (q12 : ¬ ((h 68 9) < 40)) => ?_)
      ·
        refine wi_aload_n (i := 0) (x := 68) (nx := 78) (r1 := 0) (r2 := 0) (r3 := 0) rfl rfl ?_
        refine wi_dup (nx := 79) (r1 := 0) (r2 := 0) (r3 := 0) rfl rfl ?_
        refine wr_gi0 (k0 := 68) (x := h 68 9) (nx := 82) (r1 := 8) (r2 := 9) (r3 := 0) rfl rfl (by decide) rfl ⟨rfl, rfl⟩ rfl rfl ?_
        refine wi_iconst (n := 1) (nx := 83) (r1 := 0) (r2 := 0) (r3 := 0) rfl ?_
        refine wr_add (nx := 84) (r1 := 0) (r2 := 0) (r3 := 0) rfl (fun e13 (fe13 : e13 = (h 68 9) + 1) => ?_)
        refine wr_pf0 (k0 := 68) (x := e13) (bl := 0) (bh := 40) (nx := 87) (r1 := 8) (r2 := 9) (r3 := 0) rfl (by decide) rfl ⟨rfl, rfl⟩ rfl rfl g rfl (by omega) (fun h14 g14 w14 u14 => ?_)
        have F15 := F0.then rfl u14
        refine wi_aload_n (i := 1) (x := mm_XB + (16 : Int).toNat) (nx := 88) (r1 := 0) (r2 := 0) (r3 := 0) rfl rfl ?_
        refine wr_gx (k0 := mm_XB + (16 : Int).toNat) (v := vi 99) (nx := 91) (r1 := 3) (r2 := 0) (r3 := 1) rfl (by decide) (by decide) rfl ?_
        refine wi_if (cd := .le) (nx := 94) (r1 := 114) (r2 := 0) (r3 := 0) rfl (by omega) (fun (q16 : 99 ≤ 0) => by exfalso; omega) (fun (q16 : ¬ (99 ≤ 0)) => ?_)
        refine wi_aload_n (i := 0) (x := 68) (nx := 95) (r1 := 0) (r2 := 0) (r3 := 0) rfl rfl ?_
        refine wr_gr (k0 := 68) (x := 1) (nx := 98) (r1 := 8) (r2 := 0) (r3 := 0) rfl rfl (by decide) rfl ⟨rfl, rfl⟩ rfl ?_
        refine wi_aload_n (i := 1) (x := mm_XB + (16 : Int).toNat) (nx := 99) (r1 := 0) (r2 := 0) (r3 := 0) rfl rfl ?_
        refine wr_gx (k0 := mm_XB + (16 : Int).toNat) (v := vi 1) (nx := 102) (r1 := 2) (r2 := 0) (r3 := 1) rfl (by decide) (by decide) rfl ?_
        refine wi_aload_n (i := 1) (x := mm_XB + (16 : Int).toNat) (nx := 103) (r1 := 0) (r2 := 0) (r3 := 0) rfl rfl ?_
        refine wr_gx (k0 := mm_XB + (16 : Int).toNat) (v := vi 99) (nx := 106) (r1 := 3) (r2 := 0) (r3 := 1) rfl (by decide) (by decide) rfl ?_
        refine wr_V (k0 := 1) (rest := []) (as := [.ref 1, vi 1, vi 99]) (nx := 109) (r1 := 103) (r2 := 2) (r3 := 1) rfl rfl rfl (of_decide_eq_true rfl) rfl rfl (by decide) rfl rfl (of_decide_eq_true rfl) (of_decide_eq_true rfl) ?_
        have e18 : h14 1 4 = h 1 4 := (u14 1 4 rfl)
        have tb20 := BufC.fr u14 rfl xq0
        refine ct_103_1 hcr  g14 1 99 (by omega) (by omega) (show (h14 1 4) = (tk_nx tB tn tp) by omega) (show 0 ≤ (tk_nx tB tn tp) by omega) (show (tk_nx tB tn tp) ≤ tn by omega) tb20 (fun h17 z19 g17 u17 (fz19 : 0 ≤ z19 ∧ z19 ≤ 1) (p17_0 : (z19 = 1 ∧ tk_kd tB tn (tk_nx tB tn tp) = 2 ∧ 1 ≤ tk_nb tB tn (tk_nx tB tn tp) ∧ tk_nb tB tn (tk_nx tB tn tp) ≤ 99 ∧ (h17 1 4) = tk_nx tB tn (tk_nx tB tn tp) ∧ (h17 1 7) = tk_nb tB tn (tk_nx tB tn tp) ∧ (h17 1 2) = (h14 1 2) ∧ (h17 1 3) = (h14 1 3)) ∨ (z19 = 0 ∧ (h17 1 3) = tk_st tB tn (tk_nx tB tn tp) ∧ ((tk_kd tB tn (tk_nx tB tn tp) ≠ 2 ∧ (h17 1 2) = 1) ∨ (tk_kd tB tn (tk_nx tB tn tp) = 2 ∧ (tk_nb tB tn (tk_nx tB tn tp) < 1 ∨ 99 < tk_nb tB tn (tk_nx tB tn tp)) ∧ (h17 1 2) = 2)))) => ?_)
        have F21 := F15.then (by decide +kernel) u17
        have e22 : h14 1 2 = h 1 2 := (u14 1 2 rfl)
        have e23 : h14 1 3 = h 1 3 := (u14 1 3 rfl)
        have b24 := gi_b (lo := 0) (hi := 800) g17 1 4 rfl
        have b25 := gi_b (lo := -2147483648) (hi := 2147483647) g17 1 7 rfl
        have b26 := gi_b (lo := -2147483648) (hi := 2147483647) g17 1 2 rfl
        have b27 := gi_b (lo := -2147483648) (hi := 2147483647) g17 1 3 rfl
        have tN28 := @tk_nx_b tB tn (tk_nx tB tn tp) (by omega) (by omega)
        refine wk_i ?_
        refine wi_if (cd := .ne) (nx := 112) (r1 := 114) (r2 := 0) (r3 := 0) rfl (by omega) (fun (q29 : z19 ≠ 0) => ?_) (fun (q29 : ¬ (z19 ≠ 0)) => ?_)
        ·
          refine wi_aload_n (i := 0) (x := 68) (nx := 115) (r1 := 0) (r2 := 0) (r3 := 0) rfl rfl ?_
          refine wi_aload_n (i := 1) (x := mm_XB + (16 : Int).toNat) (nx := 116) (r1 := 0) (r2 := 0) (r3 := 0) rfl rfl ?_
          refine wi_aload_n (i := 0) (x := 68) (nx := 117) (r1 := 0) (r2 := 0) (r3 := 0) rfl rfl ?_
          refine wr_gr (k0 := 68) (x := 1) (nx := 120) (r1 := 8) (r2 := 0) (r3 := 0) rfl rfl (by decide) rfl ⟨rfl, rfl⟩ rfl ?_
          refine wr_gi0 (k0 := 1) (x := h17 1 7) (nx := 123) (r1 := 1) (r2 := 7) (r3 := 0) rfl rfl (by decide) rfl ⟨rfl, rfl⟩ rfl rfl ?_
          refine wr_V (k0 := 68) (rest := []) (as := [.ref 68, wv 16, vi (h17 1 7)]) (nx := 126) (r1 := 184) (r2 := 2) (r3 := 8) rfl rfl rfl (of_decide_eq_true rfl) rfl rfl (by decide) rfl rfl (of_decide_eq_true rfl) (of_decide_eq_true rfl) ?_
          refine ct_184_68 hcr  g17 16 (h17 1 7) (by omega) (by omega)  (fun h30 g30 u30 => ?_)
          have F31 := F21.then (by decide +kernel) u30
          refine wk_n ?_
          refine wi_aload_n (i := 1) (x := mm_XB + (16 : Int).toNat) (nx := 127) (r1 := 0) (r2 := 0) (r3 := 0) rfl rfl ?_
          refine wr_gst (v := wv 20) (nx := 130) (r1 := 19) (r2 := 0) (r3 := 0) rfl rfl rfl ?_
          refine wr_acmp (cd := .ne) (x := 16) (y := 20) (nx := 133) (r1 := 166) (r2 := 0) (r3 := 0) rfl (by omega) (by omega) (fun _ => ?_) (fun q => absurd (by decide) q)
          refine wi_aload_n (i := 0) (x := 68) (nx := 167) (r1 := 0) (r2 := 0) (r3 := 0) rfl rfl ?_
          refine wr_gr (k0 := 68) (x := 1) (nx := 170) (r1 := 8) (r2 := 0) (r3 := 0) rfl rfl (by decide) rfl ⟨rfl, rfl⟩ rfl ?_
          refine wr_V (k0 := 1) (rest := []) (as := [.ref 1]) (nx := 173) (r1 := 105) (r2 := 0) (r3 := 1) rfl rfl rfl (of_decide_eq_true rfl) rfl rfl (by decide) rfl rfl (of_decide_eq_true rfl) (of_decide_eq_true rfl) ?_
          have e34 : h30 1 4 = h17 1 4 := (u30 1 4 rfl)
          have tb36 := BufC.fr u17 rfl tb20
          have tb37 := BufC.fr u30 rfl tb36
          refine ct_105_1 hcr  g30   (show (h30 1 4) = (tk_nx tB tn (tk_nx tB tn tp)) by omega) (show 0 ≤ (tk_nx tB tn (tk_nx tB tn tp)) by omega) (show (tk_nx tB tn (tk_nx tB tn tp)) ≤ tn by omega) tb37 (fun h33 z35 g33 u33 (fz35 : 0 ≤ z35 ∧ z35 ≤ 1) (p33_0 : (z35 = 1 ∧ tk_kd tB tn (tk_nx tB tn (tk_nx tB tn tp)) = 3 ∧ (h33 1 4) = tk_nx tB tn (tk_nx tB tn (tk_nx tB tn tp)) ∧ (h33 1 2) = (h30 1 2) ∧ (h33 1 3) = (h30 1 3)) ∨ (z35 = 0 ∧ tk_kd tB tn (tk_nx tB tn (tk_nx tB tn tp)) ≠ 3 ∧ (h33 1 2) = 1 ∧ (h33 1 3) = tk_st tB tn (tk_nx tB tn (tk_nx tB tn tp)))) => ?_)
          have F38 := F31.then (by decide +kernel) u33
          have e39 : h30 1 2 = h17 1 2 := (u30 1 2 rfl)
          have e40 : h30 1 3 = h17 1 3 := (u30 1 3 rfl)
          have b41 := gi_b (lo := 0) (hi := 800) g33 1 4 rfl
          have b42 := gi_b (lo := -2147483648) (hi := 2147483647) g33 1 2 rfl
          have b43 := gi_b (lo := -2147483648) (hi := 2147483647) g33 1 3 rfl
          have tN44 := @tk_nx_b tB tn (tk_nx tB tn (tk_nx tB tn tp)) (by omega) (by omega)
          refine wk_i ?_
          refine wi_zreturn (nx := 174) (r1 := 0) (r2 := 0) (r3 := 0) rfl rfl (by omega) ?_
          have b45 := gi_b (lo := 0) (hi := 2) g 68 8 rfl
          have e46 : h33 68 8 = h 68 8 := ((u33 68 8 rfl).trans ((u30 68 8 rfl).trans ((u17 68 8 rfl).trans (u14 68 8 rfl))))
          have e47 : h33 68 9 = e13 := ((u33 68 9 rfl).trans ((u30 68 9 rfl).trans ((u17 68 9 rfl).trans w14)))
          exact k h33 z35 g33 F38 (by omega) (show z35 = 0 ∨ z35 = 1 by omega) (by rcases (show z35 = 0 ∨ z35 = 1 by omega) with zz | zz; (unfold sc_cmd sc_hd sc_num sc_mk; (try dsimp only); (repeat (first | rw [if_pos (by omega)] | rw [if_neg (by omega)])); (repeat ((first | unfold sc_num | unfold sc_mk); (try dsimp only); (repeat (first | rw [if_pos (by omega)] | rw [if_neg (by omega)])))); exact sc_Oe (by omega) (by omega) (by omega) (by omega)); (unfold sc_cmd sc_hd sc_num sc_mk; (try dsimp only); (repeat (first | rw [if_pos (by omega)] | rw [if_neg (by omega)])); (repeat ((first | unfold sc_num | unfold sc_mk); (try dsimp only); (repeat (first | rw [if_pos (by omega)] | rw [if_neg (by omega)])))); exact sc_Os (by omega) (by omega) (by omega) (by omega) (by omega) (by omega)))
        ·
          refine wi_iconst (n := 0) (nx := 113) (r1 := 0) (r2 := 0) (r3 := 0) rfl ?_
          refine wi_zreturn (nx := 114) (r1 := 0) (r2 := 0) (r3 := 0) rfl rfl (by omega) ?_
          have b30 := gi_b (lo := 0) (hi := 2) g 68 8 rfl
          have e31 : h17 68 8 = h 68 8 := ((u17 68 8 rfl).trans (u14 68 8 rfl))
          have e32 : h17 68 9 = e13 := ((u17 68 9 rfl).trans w14)
          exact k h17 0 g17 F21 (by omega) (show 0 = 0 ∨ 0 = 1 by omega) (by unfold sc_cmd sc_hd sc_num sc_mk; (try dsimp only); (repeat (first | rw [if_pos (by omega)] | rw [if_neg (by omega)])); (repeat ((first | unfold sc_num | unfold sc_mk); (try dsimp only); (repeat (first | rw [if_pos (by omega)] | rw [if_neg (by omega)])))); first | exact sc_Oe (by omega) (by omega) (by omega) (by omega) | ((repeat' split) <;> (first | exact sc_Oe (by omega) (by omega) (by omega) (by omega) | (exfalso; omega))))
      ·
        refine wi_aload_n (i := 0) (x := 68) (nx := 69) (r1 := 0) (r2 := 0) (r3 := 0) rfl rfl ?_
        refine wr_gr (k0 := 68) (x := 1) (nx := 72) (r1 := 8) (r2 := 0) (r3 := 0) rfl rfl (by decide) rfl ⟨rfl, rfl⟩ rfl ?_
        refine wi_iconst (n := 5) (nx := 73) (r1 := 0) (r2 := 0) (r3 := 0) rfl ?_
        refine wr_V (k0 := 1) (rest := []) (as := [.ref 1, vi 5]) (nx := 76) (r1 := 101) (r2 := 1) (r3 := 1) rfl rfl rfl (of_decide_eq_true rfl) rfl rfl (by decide) rfl rfl (of_decide_eq_true rfl) (of_decide_eq_true rfl) ?_
        refine ct_101_1 hcr  g 5 (by omega)  (fun h13 z14 g13 u13 (fz14 : 0 ≤ z14 ∧ z14 ≤ 0) (p13_0 : z14 = 0) (p13_1 : (h13 1 2) = 5) (p13_2 : (h13 1 3) = (h 1 6)) => ?_)
        have F15 := F0.then (by decide +kernel) u13
        have b16 := gi_b (lo := -2147483648) (hi := 2147483647) g13 1 2 rfl
        have b17 := gi_b (lo := -2147483648) (hi := 2147483647) g13 1 3 rfl
        refine wk_i ?_
        refine wi_zreturn (nx := 77) (r1 := 0) (r2 := 0) (r3 := 0) rfl rfl (by omega) ?_
        have e18 : h13 1 4 = h 1 4 := (u13 1 4 rfl)
        have b19 := gi_b (lo := 0) (hi := 2) g 68 8 rfl
        have e20 : h13 68 8 = h 68 8 := (u13 68 8 rfl)
        have e21 : h13 68 9 = h 68 9 := (u13 68 9 rfl)
        exact k h13 z14 g13 F15 (by omega) (show z14 = 0 ∨ z14 = 1 by omega) (by unfold sc_cmd sc_hd sc_num sc_mk; (try dsimp only); (repeat (first | rw [if_pos (by omega)] | rw [if_neg (by omega)])); (repeat ((first | unfold sc_num | unfold sc_mk); (try dsimp only); (repeat (first | rw [if_pos (by omega)] | rw [if_neg (by omega)])))); first | exact sc_Oe (by omega) (by omega) (by omega) (by omega) | ((repeat' split) <;> (first | exact sc_Oe (by omega) (by omega) (by omega) (by omega) | (exfalso; omega))))
  ·
    refine wr_gi3 (k0 := 1) (x := 17) (nx := 7) (r1 := 1) (r2 := 9) (r3 := 0) rfl rfl (by decide) rfl ⟨rfl, rfl⟩ rfl q7 ?_
    refine wi_astore_n (i := 1) (x := mm_XB + (17 : Int).toNat) (lo2 := [(1, wv 17), (0, .ref 68)]) (nx := 8) (r1 := 0) (r2 := 0) (r3 := 0) rfl rfl ?_
    refine wi_aload_n (i := 0) (x := 68) (nx := 9) (r1 := 0) (r2 := 0) (r3 := 0) rfl rfl ?_
    refine wr_gr (k0 := 68) (x := 1) (nx := 12) (r1 := 8) (r2 := 0) (r3 := 0) rfl rfl (by decide) rfl ⟨rfl, rfl⟩ rfl ?_
    refine wr_gi0 (k0 := 1) (x := h 1 5) (nx := 15) (r1 := 1) (r2 := 5) (r3 := 0) rfl rfl (by decide) rfl ⟨rfl, rfl⟩ rfl rfl ?_
    refine wi_iconst (n := 1) (nx := 16) (r1 := 0) (r2 := 0) (r3 := 0) rfl ?_
    refine wi_icmp (cd := .ne) (nx := 19) (r1 := 26) (r2 := 0) (r3 := 0) rfl (by omega) (by omega) (fun (q8 : (h 1 5) ≠ 1) => ?_) (fun (q8 : ¬ ((h 1 5) ≠ 1)) => ?_)
    ·
      refine wi_aload_n (i := 0) (x := 68) (nx := 27) (r1 := 0) (r2 := 0) (r3 := 0) rfl rfl ?_
      refine wr_gr (k0 := 68) (x := 1) (nx := 30) (r1 := 8) (r2 := 0) (r3 := 0) rfl rfl (by decide) rfl ⟨rfl, rfl⟩ rfl ?_
      refine wi_iconst (n := 1) (nx := 31) (r1 := 0) (r2 := 0) (r3 := 0) rfl ?_
      refine wr_V (k0 := 1) (rest := []) (as := [.ref 1, vi 1]) (nx := 34) (r1 := 101) (r2 := 1) (r3 := 1) rfl rfl rfl (of_decide_eq_true rfl) rfl rfl (by decide) rfl rfl (of_decide_eq_true rfl) (of_decide_eq_true rfl) ?_
      refine ct_101_1 hcr  g 1 (by omega)  (fun h9 z10 g9 u9 (fz10 : 0 ≤ z10 ∧ z10 ≤ 0) (p9_0 : z10 = 0) (p9_1 : (h9 1 2) = 1) (p9_2 : (h9 1 3) = (h 1 6)) => ?_)
      have F11 := F0.then (by decide +kernel) u9
      have b12 := gi_b (lo := -2147483648) (hi := 2147483647) g9 1 2 rfl
      have b13 := gi_b (lo := -2147483648) (hi := 2147483647) g9 1 3 rfl
      refine wk_i ?_
      refine wi_zreturn (nx := 35) (r1 := 0) (r2 := 0) (r3 := 0) rfl rfl (by omega) ?_
      have e14 : h9 1 4 = h 1 4 := (u9 1 4 rfl)
      have b15 := gi_b (lo := 0) (hi := 2) g 68 8 rfl
      have e16 : h9 68 8 = h 68 8 := (u9 68 8 rfl)
      have b17 := gi_b (lo := 0) (hi := 40) g 68 9 rfl
      have e18 : h9 68 9 = h 68 9 := (u9 68 9 rfl)
      exact k h9 z10 g9 F11 (by omega) (show z10 = 0 ∨ z10 = 1 by omega) (by unfold sc_cmd sc_hd sc_num sc_mk; (try dsimp only); (repeat (first | rw [if_pos (by omega)] | rw [if_neg (by omega)])); (repeat ((first | unfold sc_num | unfold sc_mk); (try dsimp only); (repeat (first | rw [if_pos (by omega)] | rw [if_neg (by omega)])))); first | exact sc_Oe (by omega) (by omega) (by omega) (by omega) | ((repeat' split) <;> (first | exact sc_Oe (by omega) (by omega) (by omega) (by omega) | (exfalso; omega))))
    ·
      refine wi_aload_n (i := 1) (x := mm_XB + (17 : Int).toNat) (nx := 20) (r1 := 0) (r2 := 0) (r3 := 0) rfl rfl ?_
      refine wr_gx (k0 := mm_XB + (17 : Int).toNat) (v := vi 1) (nx := 23) (r1 := 1) (r2 := 0) (r3 := 1) rfl (by decide) (by decide) rfl ?_
      refine wi_if (cd := .ne) (nx := 26) (r1 := 35) (r2 := 0) (r3 := 0) rfl (by omega) (fun (q9 : 1 ≠ 0) => ?_) (fun (q9 : ¬ (1 ≠ 0)) => by exfalso; omega)
      refine wi_aload_n (i := 1) (x := mm_XB + (17 : Int).toNat) (nx := 36) (r1 := 0) (r2 := 0) (r3 := 0) rfl rfl ?_
      refine wr_gst (v := wv 20) (nx := 39) (r1 := 19) (r2 := 0) (r3 := 0) rfl rfl rfl ?_
      refine wr_acmp (cd := .ne) (x := 17) (y := 20) (nx := 42) (r1 := 59) (r2 := 0) (r3 := 0) rfl (by omega) (by omega) (fun _ => ?_) (fun q => absurd (by decide) q)
      refine wi_aload_n (i := 0) (x := 68) (nx := 60) (r1 := 0) (r2 := 0) (r3 := 0) rfl rfl ?_
      have b11 := gi_b (lo := 0) (hi := 40) g 68 9 rfl
      refine wr_gi0 (k0 := 68) (x := h 68 9) (nx := 63) (r1 := 8) (r2 := 9) (r3 := 0) rfl rfl (by decide) rfl ⟨rfl, rfl⟩ rfl rfl ?_
      refine wi_bipush (n := 40) (nx := 65) (r1 := 0) (r2 := 0) (r3 := 0) rfl (by decide) ?_
      refine wi_icmp (cd := .lt) (nx := 68) (r1 := 77) (r2 := 0) (r3 := 0) rfl (by omega) (by omega) (fun (q12 : (h 68 9) < 40) => ?_) (fun (q12 : ¬ ((h 68 9) < 40)) => ?_)
      ·
        refine wi_aload_n (i := 0) (x := 68) (nx := 78) (r1 := 0) (r2 := 0) (r3 := 0) rfl rfl ?_
        refine wi_dup (nx := 79) (r1 := 0) (r2 := 0) (r3 := 0) rfl rfl ?_
        refine wr_gi0 (k0 := 68) (x := h 68 9) (nx := 82) (r1 := 8) (r2 := 9) (r3 := 0) rfl rfl (by decide) rfl ⟨rfl, rfl⟩ rfl rfl ?_
        refine wi_iconst (n := 1) (nx := 83) (r1 := 0) (r2 := 0) (r3 := 0) rfl ?_
        refine wr_add (nx := 84) (r1 := 0) (r2 := 0) (r3 := 0) rfl (fun e13 (fe13 : e13 = (h 68 9) + 1) => ?_)
        refine wr_pf0 (k0 := 68) (x := e13) (bl := 0) (bh := 40) (nx := 87) (r1 := 8) (r2 := 9) (r3 := 0) rfl (by decide) rfl ⟨rfl, rfl⟩ rfl rfl g rfl (by omega) (fun h14 g14 w14 u14 => ?_)
        have F15 := F0.then rfl u14
        refine wi_aload_n (i := 1) (x := mm_XB + (17 : Int).toNat) (nx := 88) (r1 := 0) (r2 := 0) (r3 := 0) rfl rfl ?_
        refine wr_gx (k0 := mm_XB + (17 : Int).toNat) (v := vi 99) (nx := 91) (r1 := 3) (r2 := 0) (r3 := 1) rfl (by decide) (by decide) rfl ?_
        refine wi_if (cd := .le) (nx := 94) (r1 := 114) (r2 := 0) (r3 := 0) rfl (by omega) (fun (q16 : 99 ≤ 0) => by exfalso; omega) (fun (q16 : ¬ (99 ≤ 0)) => ?_)
        refine wi_aload_n (i := 0) (x := 68) (nx := 95) (r1 := 0) (r2 := 0) (r3 := 0) rfl rfl ?_
        refine wr_gr (k0 := 68) (x := 1) (nx := 98) (r1 := 8) (r2 := 0) (r3 := 0) rfl rfl (by decide) rfl ⟨rfl, rfl⟩ rfl ?_
        refine wi_aload_n (i := 1) (x := mm_XB + (17 : Int).toNat) (nx := 99) (r1 := 0) (r2 := 0) (r3 := 0) rfl rfl ?_
        refine wr_gx (k0 := mm_XB + (17 : Int).toNat) (v := vi 1) (nx := 102) (r1 := 2) (r2 := 0) (r3 := 1) rfl (by decide) (by decide) rfl ?_
        refine wi_aload_n (i := 1) (x := mm_XB + (17 : Int).toNat) (nx := 103) (r1 := 0) (r2 := 0) (r3 := 0) rfl rfl ?_
        refine wr_gx (k0 := mm_XB + (17 : Int).toNat) (v := vi 99) (nx := 106) (r1 := 3) (r2 := 0) (r3 := 1) rfl (by decide) (by decide) rfl ?_
        refine wr_V (k0 := 1) (rest := []) (as := [.ref 1, vi 1, vi 99]) (nx := 109) (r1 := 103) (r2 := 2) (r3 := 1) rfl rfl rfl (of_decide_eq_true rfl) rfl rfl (by decide) rfl rfl (of_decide_eq_true rfl) (of_decide_eq_true rfl) ?_
        have e18 : h14 1 4 = h 1 4 := (u14 1 4 rfl)
        have tb20 := BufC.fr u14 rfl xq0
        refine ct_103_1 hcr  g14 1 99 (by omega) (by omega) (show (h14 1 4) = (tk_nx tB tn tp) by omega) (show 0 ≤ (tk_nx tB tn tp) by omega) (show (tk_nx tB tn tp) ≤ tn by omega) tb20 (fun h17 z19 g17 u17 (fz19 : 0 ≤ z19 ∧ z19 ≤ 1) (p17_0 : (z19 = 1 ∧ tk_kd tB tn (tk_nx tB tn tp) = 2 ∧ 1 ≤ tk_nb tB tn (tk_nx tB tn tp) ∧ tk_nb tB tn (tk_nx tB tn tp) ≤ 99 ∧ (h17 1 4) = tk_nx tB tn (tk_nx tB tn tp) ∧ (h17 1 7) = tk_nb tB tn (tk_nx tB tn tp) ∧ (h17 1 2) = (h14 1 2) ∧ (h17 1 3) = (h14 1 3)) ∨ (z19 = 0 ∧ (h17 1 3) = tk_st tB tn (tk_nx tB tn tp) ∧ ((tk_kd tB tn (tk_nx tB tn tp) ≠ 2 ∧ (h17 1 2) = 1) ∨ (tk_kd tB tn (tk_nx tB tn tp) = 2 ∧ (tk_nb tB tn (tk_nx tB tn tp) < 1 ∨ 99 < tk_nb tB tn (tk_nx tB tn tp)) ∧ (h17 1 2) = 2)))) => ?_)
        have F21 := F15.then (by decide +kernel) u17
        have e22 : h14 1 2 = h 1 2 := (u14 1 2 rfl)
        have e23 : h14 1 3 = h 1 3 := (u14 1 3 rfl)
        have b24 := gi_b (lo := 0) (hi := 800) g17 1 4 rfl
        have b25 := gi_b (lo := -2147483648) (hi := 2147483647) g17 1 7 rfl
        have b26 := gi_b (lo := -2147483648) (hi := 2147483647) g17 1 2 rfl
        have b27 := gi_b (lo := -2147483648) (hi := 2147483647) g17 1 3 rfl
        have tN28 := @tk_nx_b tB tn (tk_nx tB tn tp) (by omega) (by omega)
        refine wk_i ?_
        refine wi_if (cd := .ne) (nx := 112) (r1 := 114) (r2 := 0) (r3 := 0) rfl (by omega) (fun (q29 : z19 ≠ 0) => ?_) (fun (q29 : ¬ (z19 ≠ 0)) => ?_)
        ·
          refine wi_aload_n (i := 0) (x := 68) (nx := 115) (r1 := 0) (r2 := 0) (r3 := 0) rfl rfl ?_
          refine wi_aload_n (i := 1) (x := mm_XB + (17 : Int).toNat) (nx := 116) (r1 := 0) (r2 := 0) (r3 := 0) rfl rfl ?_
          refine wi_aload_n (i := 0) (x := 68) (nx := 117) (r1 := 0) (r2 := 0) (r3 := 0) rfl rfl ?_
          refine wr_gr (k0 := 68) (x := 1) (nx := 120) (r1 := 8) (r2 := 0) (r3 := 0) rfl rfl (by decide) rfl ⟨rfl, rfl⟩ rfl ?_
          refine wr_gi0 (k0 := 1) (x := h17 1 7) (nx := 123) (r1 := 1) (r2 := 7) (r3 := 0) rfl rfl (by decide) rfl ⟨rfl, rfl⟩ rfl rfl ?_
          refine wr_V (k0 := 68) (rest := []) (as := [.ref 68, wv 17, vi (h17 1 7)]) (nx := 126) (r1 := 184) (r2 := 2) (r3 := 8) rfl rfl rfl (of_decide_eq_true rfl) rfl rfl (by decide) rfl rfl (of_decide_eq_true rfl) (of_decide_eq_true rfl) ?_
          refine ct_184_68 hcr  g17 17 (h17 1 7) (by omega) (by omega)  (fun h30 g30 u30 => ?_)
          have F31 := F21.then (by decide +kernel) u30
          refine wk_n ?_
          refine wi_aload_n (i := 1) (x := mm_XB + (17 : Int).toNat) (nx := 127) (r1 := 0) (r2 := 0) (r3 := 0) rfl rfl ?_
          refine wr_gst (v := wv 20) (nx := 130) (r1 := 19) (r2 := 0) (r3 := 0) rfl rfl rfl ?_
          refine wr_acmp (cd := .ne) (x := 17) (y := 20) (nx := 133) (r1 := 166) (r2 := 0) (r3 := 0) rfl (by omega) (by omega) (fun _ => ?_) (fun q => absurd (by decide) q)
          refine wi_aload_n (i := 0) (x := 68) (nx := 167) (r1 := 0) (r2 := 0) (r3 := 0) rfl rfl ?_
          refine wr_gr (k0 := 68) (x := 1) (nx := 170) (r1 := 8) (r2 := 0) (r3 := 0) rfl rfl (by decide) rfl ⟨rfl, rfl⟩ rfl ?_
          refine wr_V (k0 := 1) (rest := []) (as := [.ref 1]) (nx := 173) (r1 := 105) (r2 := 0) (r3 := 1) rfl rfl rfl (of_decide_eq_true rfl) rfl rfl (by decide) rfl rfl (of_decide_eq_true rfl) (of_decide_eq_true rfl) ?_
          have e34 : h30 1 4 = h17 1 4 := (u30 1 4 rfl)
          have tb36 := BufC.fr u17 rfl tb20
          have tb37 := BufC.fr u30 rfl tb36
          refine ct_105_1 hcr  g30   (show (h30 1 4) = (tk_nx tB tn (tk_nx tB tn tp)) by omega) (show 0 ≤ (tk_nx tB tn (tk_nx tB tn tp)) by omega) (show (tk_nx tB tn (tk_nx tB tn tp)) ≤ tn by omega) tb37 (fun h33 z35 g33 u33 (fz35 : 0 ≤ z35 ∧ z35 ≤ 1) (p33_0 : (z35 = 1 ∧ tk_kd tB tn (tk_nx tB tn (tk_nx tB tn tp)) = 3 ∧ (h33 1 4) = tk_nx tB tn (tk_nx tB tn (tk_nx tB tn tp)) ∧ (h33 1 2) = (h30 1 2) ∧ (h33 1 3) = (h30 1 3)) ∨ (z35 = 0 ∧ tk_kd tB tn (tk_nx tB tn (tk_nx tB tn tp)) ≠ 3 ∧ (h33 1 2) = 1 ∧ (h33 1 3) = tk_st tB tn (tk_nx tB tn (tk_nx tB tn tp)))) => ?_)
          have F38 := F31.then (by decide +kernel) u33
          have e39 : h30 1 2 = h17 1 2 := (u30 1 2 rfl)
          have e40 : h30 1 3 = h17 1 3 := (u30 1 3 rfl)
          have b41 := gi_b (lo := 0) (hi := 800) g33 1 4 rfl
          have b42 := gi_b (lo := -2147483648) (hi := 2147483647) g33 1 2 rfl
          have b43 := gi_b (lo := -2147483648) (hi := 2147483647) g33 1 3 rfl
          have tN44 := @tk_nx_b tB tn (tk_nx tB tn (tk_nx tB tn tp)) (by omega) (by omega)
          refine wk_i ?_
          refine wi_zreturn (nx := 174) (r1 := 0) (r2 := 0) (r3 := 0) rfl rfl (by omega) ?_
          have b45 := gi_b (lo := 0) (hi := 2) g 68 8 rfl
          have e46 : h33 68 8 = h 68 8 := ((u33 68 8 rfl).trans ((u30 68 8 rfl).trans ((u17 68 8 rfl).trans (u14 68 8 rfl))))
          have e47 : h33 68 9 = e13 := ((u33 68 9 rfl).trans ((u30 68 9 rfl).trans ((u17 68 9 rfl).trans w14)))
          exact k h33 z35 g33 F38 (by omega) (show z35 = 0 ∨ z35 = 1 by omega) (by rcases (show z35 = 0 ∨ z35 = 1 by omega) with zz | zz; (unfold sc_cmd sc_hd sc_num sc_mk; (try dsimp only); (repeat (first | rw [if_pos (by omega)] | rw [if_neg (by omega)])); (repeat ((first | unfold sc_num | unfold sc_mk); (try dsimp only); (repeat (first | rw [if_pos (by omega)] | rw [if_neg (by omega)])))); exact sc_Oe (by omega) (by omega) (by omega) (by omega)); (unfold sc_cmd sc_hd sc_num sc_mk; (try dsimp only); (repeat (first | rw [if_pos (by omega)] | rw [if_neg (by omega)])); (repeat ((first | unfold sc_num | unfold sc_mk); (try dsimp only); (repeat (first | rw [if_pos (by omega)] | rw [if_neg (by omega)])))); exact sc_Os (by omega) (by omega) (by omega) (by omega) (by omega) (by omega)))
        ·
          refine wi_iconst (n := 0) (nx := 113) (r1 := 0) (r2 := 0) (r3 := 0) rfl ?_
          refine wi_zreturn (nx := 114) (r1 := 0) (r2 := 0) (r3 := 0) rfl rfl (by omega) ?_
          have b30 := gi_b (lo := 0) (hi := 2) g 68 8 rfl
          have e31 : h17 68 8 = h 68 8 := ((u17 68 8 rfl).trans (u14 68 8 rfl))
          have e32 : h17 68 9 = e13 := ((u17 68 9 rfl).trans w14)
          exact k h17 0 g17 F21 (by omega) (show 0 = 0 ∨ 0 = 1 by omega) (by unfold sc_cmd sc_hd sc_num sc_mk; (try dsimp only); (repeat (first | rw [if_pos (by omega)] | rw [if_neg (by omega)])); (repeat ((first | unfold sc_num | unfold sc_mk); (try dsimp only); (repeat (first | rw [if_pos (by omega)] | rw [if_neg (by omega)])))); first | exact sc_Oe (by omega) (by omega) (by omega) (by omega) | ((repeat' split) <;> (first | exact sc_Oe (by omega) (by omega) (by omega) (by omega) | (exfalso; omega))))
      ·
        refine wi_aload_n (i := 0) (x := 68) (nx := 69) (r1 := 0) (r2 := 0) (r3 := 0) rfl rfl ?_
        refine wr_gr (k0 := 68) (x := 1) (nx := 72) (r1 := 8) (r2 := 0) (r3 := 0) rfl rfl (by decide) rfl ⟨rfl, rfl⟩ rfl ?_
        refine wi_iconst (n := 5) (nx := 73) (r1 := 0) (r2 := 0) (r3 := 0) rfl ?_
        refine wr_V (k0 := 1) (rest := []) (as := [.ref 1, vi 5]) (nx := 76) (r1 := 101) (r2 := 1) (r3 := 1) rfl rfl rfl (of_decide_eq_true rfl) rfl rfl (by decide) rfl rfl (of_decide_eq_true rfl) (of_decide_eq_true rfl) ?_
        refine ct_101_1 hcr  g 5 (by omega)  (fun h13 z14 g13 u13 (fz14 : 0 ≤ z14 ∧ z14 ≤ 0) (p13_0 : z14 = 0) (p13_1 : (h13 1 2) = 5) (p13_2 : (h13 1 3) = (h 1 6)) => ?_)
        have F15 := F0.then (by decide +kernel) u13
        have b16 := gi_b (lo := -2147483648) (hi := 2147483647) g13 1 2 rfl
        have b17 := gi_b (lo := -2147483648) (hi := 2147483647) g13 1 3 rfl
        refine wk_i ?_
        refine wi_zreturn (nx := 77) (r1 := 0) (r2 := 0) (r3 := 0) rfl rfl (by omega) ?_
        have e18 : h13 1 4 = h 1 4 := (u13 1 4 rfl)
        have b19 := gi_b (lo := 0) (hi := 2) g 68 8 rfl
        have e20 : h13 68 8 = h 68 8 := (u13 68 8 rfl)
        have e21 : h13 68 9 = h 68 9 := (u13 68 9 rfl)
        exact k h13 z14 g13 F15 (by omega) (show z14 = 0 ∨ z14 = 1 by omega) (by unfold sc_cmd sc_hd sc_num sc_mk; (try dsimp only); (repeat (first | rw [if_pos (by omega)] | rw [if_neg (by omega)])); (repeat ((first | unfold sc_num | unfold sc_mk); (try dsimp only); (repeat (first | rw [if_pos (by omega)] | rw [if_neg (by omega)])))); first | exact sc_Oe (by omega) (by omega) (by omega) (by omega) | ((repeat' split) <;> (first | exact sc_Oe (by omega) (by omega) (by omega) (by omega) | (exfalso; omega))))
  ·
    refine wr_gi3 (k0 := 1) (x := 18) (nx := 7) (r1 := 1) (r2 := 9) (r3 := 0) rfl rfl (by decide) rfl ⟨rfl, rfl⟩ rfl q7 ?_
    refine wi_astore_n (i := 1) (x := mm_XB + (18 : Int).toNat) (lo2 := [(1, wv 18), (0, .ref 68)]) (nx := 8) (r1 := 0) (r2 := 0) (r3 := 0) rfl rfl ?_
    refine wi_aload_n (i := 0) (x := 68) (nx := 9) (r1 := 0) (r2 := 0) (r3 := 0) rfl rfl ?_
    refine wr_gr (k0 := 68) (x := 1) (nx := 12) (r1 := 8) (r2 := 0) (r3 := 0) rfl rfl (by decide) rfl ⟨rfl, rfl⟩ rfl ?_
    refine wr_gi0 (k0 := 1) (x := h 1 5) (nx := 15) (r1 := 1) (r2 := 5) (r3 := 0) rfl rfl (by decide) rfl ⟨rfl, rfl⟩ rfl rfl ?_
    refine wi_iconst (n := 1) (nx := 16) (r1 := 0) (r2 := 0) (r3 := 0) rfl ?_
    refine wi_icmp (cd := .ne) (nx := 19) (r1 := 26) (r2 := 0) (r3 := 0) rfl (by omega) (by omega) (fun (q8 : (h 1 5) ≠ 1) => ?_) (fun (q8 : ¬ ((h 1 5) ≠ 1)) => ?_)
    ·
      refine wi_aload_n (i := 0) (x := 68) (nx := 27) (r1 := 0) (r2 := 0) (r3 := 0) rfl rfl ?_
      refine wr_gr (k0 := 68) (x := 1) (nx := 30) (r1 := 8) (r2 := 0) (r3 := 0) rfl rfl (by decide) rfl ⟨rfl, rfl⟩ rfl ?_
      refine wi_iconst (n := 1) (nx := 31) (r1 := 0) (r2 := 0) (r3 := 0) rfl ?_
      refine wr_V (k0 := 1) (rest := []) (as := [.ref 1, vi 1]) (nx := 34) (r1 := 101) (r2 := 1) (r3 := 1) rfl rfl rfl (of_decide_eq_true rfl) rfl rfl (by decide) rfl rfl (of_decide_eq_true rfl) (of_decide_eq_true rfl) ?_
      refine ct_101_1 hcr  g 1 (by omega)  (fun h9 z10 g9 u9 (fz10 : 0 ≤ z10 ∧ z10 ≤ 0) (p9_0 : z10 = 0) (p9_1 : (h9 1 2) = 1) (p9_2 : (h9 1 3) = (h 1 6)) => ?_)
      have F11 := F0.then (by decide +kernel) u9
      have b12 := gi_b (lo := -2147483648) (hi := 2147483647) g9 1 2 rfl
      have b13 := gi_b (lo := -2147483648) (hi := 2147483647) g9 1 3 rfl
      refine wk_i ?_
      refine wi_zreturn (nx := 35) (r1 := 0) (r2 := 0) (r3 := 0) rfl rfl (by omega) ?_
      have e14 : h9 1 4 = h 1 4 := (u9 1 4 rfl)
      have b15 := gi_b (lo := 0) (hi := 2) g 68 8 rfl
      have e16 : h9 68 8 = h 68 8 := (u9 68 8 rfl)
      have b17 := gi_b (lo := 0) (hi := 40) g 68 9 rfl
      have e18 : h9 68 9 = h 68 9 := (u9 68 9 rfl)
      exact k h9 z10 g9 F11 (by omega) (show z10 = 0 ∨ z10 = 1 by omega) (by unfold sc_cmd sc_hd sc_num sc_mk; (try dsimp only); (repeat (first | rw [if_pos (by omega)] | rw [if_neg (by omega)])); (repeat ((first | unfold sc_num | unfold sc_mk); (try dsimp only); (repeat (first | rw [if_pos (by omega)] | rw [if_neg (by omega)])))); first | exact sc_Oe (by omega) (by omega) (by omega) (by omega) | ((repeat' split) <;> (first | exact sc_Oe (by omega) (by omega) (by omega) (by omega) | (exfalso; omega))))
    ·
      refine wi_aload_n (i := 1) (x := mm_XB + (18 : Int).toNat) (nx := 20) (r1 := 0) (r2 := 0) (r3 := 0) rfl rfl ?_
      refine wr_gx (k0 := mm_XB + (18 : Int).toNat) (v := vi 1) (nx := 23) (r1 := 1) (r2 := 0) (r3 := 1) rfl (by decide) (by decide) rfl ?_
      refine wi_if (cd := .ne) (nx := 26) (r1 := 35) (r2 := 0) (r3 := 0) rfl (by omega) (fun (q9 : 1 ≠ 0) => ?_) (fun (q9 : ¬ (1 ≠ 0)) => by exfalso; omega)
      refine wi_aload_n (i := 1) (x := mm_XB + (18 : Int).toNat) (nx := 36) (r1 := 0) (r2 := 0) (r3 := 0) rfl rfl ?_
      refine wr_gst (v := wv 20) (nx := 39) (r1 := 19) (r2 := 0) (r3 := 0) rfl rfl rfl ?_
      refine wr_acmp (cd := .ne) (x := 18) (y := 20) (nx := 42) (r1 := 59) (r2 := 0) (r3 := 0) rfl (by omega) (by omega) (fun _ => ?_) (fun q => absurd (by decide) q)
      refine wi_aload_n (i := 0) (x := 68) (nx := 60) (r1 := 0) (r2 := 0) (r3 := 0) rfl rfl ?_
      have b11 := gi_b (lo := 0) (hi := 40) g 68 9 rfl
      refine wr_gi0 (k0 := 68) (x := h 68 9) (nx := 63) (r1 := 8) (r2 := 9) (r3 := 0) rfl rfl (by decide) rfl ⟨rfl, rfl⟩ rfl rfl ?_
      refine wi_bipush (n := 40) (nx := 65) (r1 := 0) (r2 := 0) (r3 := 0) rfl (by decide) ?_
      refine wi_icmp (cd := .lt) (nx := 68) (r1 := 77) (r2 := 0) (r3 := 0) rfl (by omega) (by omega) (fun (q12 : (h 68 9) < 40) => ?_) (fun (q12 : ¬ ((h 68 9) < 40)) => ?_)
      ·
        refine wi_aload_n (i := 0) (x := 68) (nx := 78) (r1 := 0) (r2 := 0) (r3 := 0) rfl rfl ?_
        refine wi_dup (nx := 79) (r1 := 0) (r2 := 0) (r3 := 0) rfl rfl ?_
        refine wr_gi0 (k0 := 68) (x := h 68 9) (nx := 82) (r1 := 8) (r2 := 9) (r3 := 0) rfl rfl (by decide) rfl ⟨rfl, rfl⟩ rfl rfl ?_
        refine wi_iconst (n := 1) (nx := 83) (r1 := 0) (r2 := 0) (r3 := 0) rfl ?_
        refine wr_add (nx := 84) (r1 := 0) (r2 := 0) (r3 := 0) rfl (fun e13 (fe13 : e13 = (h 68 9) + 1) => ?_)
        refine wr_pf0 (k0 := 68) (x := e13) (bl := 0) (bh := 40) (nx := 87) (r1 := 8) (r2 := 9) (r3 := 0) rfl (by decide) rfl ⟨rfl, rfl⟩ rfl rfl g rfl (by omega) (fun h14 g14 w14 u14 => ?_)
        have F15 := F0.then rfl u14
        refine wi_aload_n (i := 1) (x := mm_XB + (18 : Int).toNat) (nx := 88) (r1 := 0) (r2 := 0) (r3 := 0) rfl rfl ?_
        refine wr_gx (k0 := mm_XB + (18 : Int).toNat) (v := vi 0) (nx := 91) (r1 := 3) (r2 := 0) (r3 := 1) rfl (by decide) (by decide) rfl ?_
        refine wi_if (cd := .le) (nx := 94) (r1 := 114) (r2 := 0) (r3 := 0) rfl (by omega) (fun (q16 : 0 ≤ 0) => ?_) (fun (q16 : ¬ (0 ≤ 0)) => by exfalso; omega)
        refine wi_aload_n (i := 0) (x := 68) (nx := 115) (r1 := 0) (r2 := 0) (r3 := 0) rfl rfl ?_
        refine wi_aload_n (i := 1) (x := mm_XB + (18 : Int).toNat) (nx := 116) (r1 := 0) (r2 := 0) (r3 := 0) rfl rfl ?_
        refine wi_aload_n (i := 0) (x := 68) (nx := 117) (r1 := 0) (r2 := 0) (r3 := 0) rfl rfl ?_
        refine wr_gr (k0 := 68) (x := 1) (nx := 120) (r1 := 8) (r2 := 0) (r3 := 0) rfl rfl (by decide) rfl ⟨rfl, rfl⟩ rfl ?_
        have b17 := gi_b (lo := -2147483648) (hi := 2147483647) g 1 7 rfl
        refine wr_gi0 (k0 := 1) (x := h 1 7) (nx := 123) (r1 := 1) (r2 := 7) (r3 := 0) rfl rfl (by decide) rfl ⟨rfl, rfl⟩ rfl (u14 1 7 rfl) ?_
        refine wr_V (k0 := 68) (rest := []) (as := [.ref 68, wv 18, vi (h 1 7)]) (nx := 126) (r1 := 184) (r2 := 2) (r3 := 8) rfl rfl rfl (of_decide_eq_true rfl) rfl rfl (by decide) rfl rfl (of_decide_eq_true rfl) (of_decide_eq_true rfl) ?_
        refine ct_184_68 hcr  g14 18 (h 1 7) (by omega) (by omega)  (fun h18 g18 u18 => ?_)
        have F19 := F15.then (by decide +kernel) u18
        refine wk_n ?_
        refine wi_aload_n (i := 1) (x := mm_XB + (18 : Int).toNat) (nx := 127) (r1 := 0) (r2 := 0) (r3 := 0) rfl rfl ?_
        refine wr_gst (v := wv 20) (nx := 130) (r1 := 19) (r2 := 0) (r3 := 0) rfl rfl rfl ?_
        refine wr_acmp (cd := .ne) (x := 18) (y := 20) (nx := 133) (r1 := 166) (r2 := 0) (r3 := 0) rfl (by omega) (by omega) (fun _ => ?_) (fun q => absurd (by decide) q)
        refine wi_aload_n (i := 0) (x := 68) (nx := 167) (r1 := 0) (r2 := 0) (r3 := 0) rfl rfl ?_
        refine wr_gr (k0 := 68) (x := 1) (nx := 170) (r1 := 8) (r2 := 0) (r3 := 0) rfl rfl (by decide) rfl ⟨rfl, rfl⟩ rfl ?_
        refine wr_V (k0 := 1) (rest := []) (as := [.ref 1]) (nx := 173) (r1 := 105) (r2 := 0) (r3 := 1) rfl rfl rfl (of_decide_eq_true rfl) rfl rfl (by decide) rfl rfl (of_decide_eq_true rfl) (of_decide_eq_true rfl) ?_
        have e22 : h18 1 4 = h 1 4 := ((u18 1 4 rfl).trans (u14 1 4 rfl))
        have tb24 := BufC.fr u14 rfl xq0
        have tb25 := BufC.fr u18 rfl tb24
        refine ct_105_1 hcr  g18   (show (h18 1 4) = (tk_nx tB tn tp) by omega) (show 0 ≤ (tk_nx tB tn tp) by omega) (show (tk_nx tB tn tp) ≤ tn by omega) tb25 (fun h21 z23 g21 u21 (fz23 : 0 ≤ z23 ∧ z23 ≤ 1) (p21_0 : (z23 = 1 ∧ tk_kd tB tn (tk_nx tB tn tp) = 3 ∧ (h21 1 4) = tk_nx tB tn (tk_nx tB tn tp) ∧ (h21 1 2) = (h18 1 2) ∧ (h21 1 3) = (h18 1 3)) ∨ (z23 = 0 ∧ tk_kd tB tn (tk_nx tB tn tp) ≠ 3 ∧ (h21 1 2) = 1 ∧ (h21 1 3) = tk_st tB tn (tk_nx tB tn tp))) => ?_)
        have F26 := F19.then (by decide +kernel) u21
        have e27 : h18 1 2 = h 1 2 := ((u18 1 2 rfl).trans (u14 1 2 rfl))
        have e28 : h18 1 3 = h 1 3 := ((u18 1 3 rfl).trans (u14 1 3 rfl))
        have b29 := gi_b (lo := 0) (hi := 800) g21 1 4 rfl
        have b30 := gi_b (lo := -2147483648) (hi := 2147483647) g21 1 2 rfl
        have b31 := gi_b (lo := -2147483648) (hi := 2147483647) g21 1 3 rfl
        have tN32 := @tk_nx_b tB tn (tk_nx tB tn tp) (by omega) (by omega)
        refine wk_i ?_
        refine wi_zreturn (nx := 174) (r1 := 0) (r2 := 0) (r3 := 0) rfl rfl (by omega) ?_
        have b33 := gi_b (lo := 0) (hi := 2) g 68 8 rfl
        have e34 : h21 68 8 = h 68 8 := ((u21 68 8 rfl).trans ((u18 68 8 rfl).trans (u14 68 8 rfl)))
        have e35 : h21 68 9 = e13 := ((u21 68 9 rfl).trans ((u18 68 9 rfl).trans w14))
        exact k h21 z23 g21 F26 (by omega) (show z23 = 0 ∨ z23 = 1 by omega) (by rcases (show z23 = 0 ∨ z23 = 1 by omega) with zz | zz; (unfold sc_cmd sc_hd sc_num sc_mk; (try dsimp only); (repeat (first | rw [if_pos (by omega)] | rw [if_neg (by omega)])); (repeat ((first | unfold sc_num | unfold sc_mk); (try dsimp only); (repeat (first | rw [if_pos (by omega)] | rw [if_neg (by omega)])))); exact sc_Oe (by omega) (by omega) (by omega) (by omega)); (unfold sc_cmd sc_hd sc_num sc_mk; (try dsimp only); (repeat (first | rw [if_pos (by omega)] | rw [if_neg (by omega)])); (repeat ((first | unfold sc_num | unfold sc_mk); (try dsimp only); (repeat (first | rw [if_pos (by omega)] | rw [if_neg (by omega)])))); exact sc_Os (by omega) (by omega) (by omega) (by omega) (by omega) (by omega)))
      ·
        refine wi_aload_n (i := 0) (x := 68) (nx := 69) (r1 := 0) (r2 := 0) (r3 := 0) rfl rfl ?_
        refine wr_gr (k0 := 68) (x := 1) (nx := 72) (r1 := 8) (r2 := 0) (r3 := 0) rfl rfl (by decide) rfl ⟨rfl, rfl⟩ rfl ?_
        refine wi_iconst (n := 5) (nx := 73) (r1 := 0) (r2 := 0) (r3 := 0) rfl ?_
        refine wr_V (k0 := 1) (rest := []) (as := [.ref 1, vi 5]) (nx := 76) (r1 := 101) (r2 := 1) (r3 := 1) rfl rfl rfl (of_decide_eq_true rfl) rfl rfl (by decide) rfl rfl (of_decide_eq_true rfl) (of_decide_eq_true rfl) ?_
        refine ct_101_1 hcr  g 5 (by omega)  (fun h13 z14 g13 u13 (fz14 : 0 ≤ z14 ∧ z14 ≤ 0) (p13_0 : z14 = 0) (p13_1 : (h13 1 2) = 5) (p13_2 : (h13 1 3) = (h 1 6)) => ?_)
        have F15 := F0.then (by decide +kernel) u13
        have b16 := gi_b (lo := -2147483648) (hi := 2147483647) g13 1 2 rfl
        have b17 := gi_b (lo := -2147483648) (hi := 2147483647) g13 1 3 rfl
        refine wk_i ?_
        refine wi_zreturn (nx := 77) (r1 := 0) (r2 := 0) (r3 := 0) rfl rfl (by omega) ?_
        have e18 : h13 1 4 = h 1 4 := (u13 1 4 rfl)
        have b19 := gi_b (lo := 0) (hi := 2) g 68 8 rfl
        have e20 : h13 68 8 = h 68 8 := (u13 68 8 rfl)
        have e21 : h13 68 9 = h 68 9 := (u13 68 9 rfl)
        exact k h13 z14 g13 F15 (by omega) (show z14 = 0 ∨ z14 = 1 by omega) (by unfold sc_cmd sc_hd sc_num sc_mk; (try dsimp only); (repeat (first | rw [if_pos (by omega)] | rw [if_neg (by omega)])); (repeat ((first | unfold sc_num | unfold sc_mk); (try dsimp only); (repeat (first | rw [if_pos (by omega)] | rw [if_neg (by omega)])))); first | exact sc_Oe (by omega) (by omega) (by omega) (by omega) | ((repeat' split) <;> (first | exact sc_Oe (by omega) (by omega) (by omega) (by omega) | (exfalso; omega))))
  ·
    refine wr_gi3 (k0 := 1) (x := 19) (nx := 7) (r1 := 1) (r2 := 9) (r3 := 0) rfl rfl (by decide) rfl ⟨rfl, rfl⟩ rfl q7 ?_
    refine wi_astore_n (i := 1) (x := mm_XB + (19 : Int).toNat) (lo2 := [(1, wv 19), (0, .ref 68)]) (nx := 8) (r1 := 0) (r2 := 0) (r3 := 0) rfl rfl ?_
    refine wi_aload_n (i := 0) (x := 68) (nx := 9) (r1 := 0) (r2 := 0) (r3 := 0) rfl rfl ?_
    refine wr_gr (k0 := 68) (x := 1) (nx := 12) (r1 := 8) (r2 := 0) (r3 := 0) rfl rfl (by decide) rfl ⟨rfl, rfl⟩ rfl ?_
    refine wr_gi0 (k0 := 1) (x := h 1 5) (nx := 15) (r1 := 1) (r2 := 5) (r3 := 0) rfl rfl (by decide) rfl ⟨rfl, rfl⟩ rfl rfl ?_
    refine wi_iconst (n := 1) (nx := 16) (r1 := 0) (r2 := 0) (r3 := 0) rfl ?_
    refine wi_icmp (cd := .ne) (nx := 19) (r1 := 26) (r2 := 0) (r3 := 0) rfl (by omega) (by omega) (fun (q8 : (h 1 5) ≠ 1) => ?_) (fun (q8 : ¬ ((h 1 5) ≠ 1)) => ?_)
    ·
      refine wi_aload_n (i := 0) (x := 68) (nx := 27) (r1 := 0) (r2 := 0) (r3 := 0) rfl rfl ?_
      refine wr_gr (k0 := 68) (x := 1) (nx := 30) (r1 := 8) (r2 := 0) (r3 := 0) rfl rfl (by decide) rfl ⟨rfl, rfl⟩ rfl ?_
      refine wi_iconst (n := 1) (nx := 31) (r1 := 0) (r2 := 0) (r3 := 0) rfl ?_
      refine wr_V (k0 := 1) (rest := []) (as := [.ref 1, vi 1]) (nx := 34) (r1 := 101) (r2 := 1) (r3 := 1) rfl rfl rfl (of_decide_eq_true rfl) rfl rfl (by decide) rfl rfl (of_decide_eq_true rfl) (of_decide_eq_true rfl) ?_
      refine ct_101_1 hcr  g 1 (by omega)  (fun h9 z10 g9 u9 (fz10 : 0 ≤ z10 ∧ z10 ≤ 0) (p9_0 : z10 = 0) (p9_1 : (h9 1 2) = 1) (p9_2 : (h9 1 3) = (h 1 6)) => ?_)
      have F11 := F0.then (by decide +kernel) u9
      have b12 := gi_b (lo := -2147483648) (hi := 2147483647) g9 1 2 rfl
      have b13 := gi_b (lo := -2147483648) (hi := 2147483647) g9 1 3 rfl
      refine wk_i ?_
      refine wi_zreturn (nx := 35) (r1 := 0) (r2 := 0) (r3 := 0) rfl rfl (by omega) ?_
      have e14 : h9 1 4 = h 1 4 := (u9 1 4 rfl)
      have b15 := gi_b (lo := 0) (hi := 2) g 68 8 rfl
      have e16 : h9 68 8 = h 68 8 := (u9 68 8 rfl)
      have b17 := gi_b (lo := 0) (hi := 40) g 68 9 rfl
      have e18 : h9 68 9 = h 68 9 := (u9 68 9 rfl)
      exact k h9 z10 g9 F11 (by omega) (show z10 = 0 ∨ z10 = 1 by omega) (by unfold sc_cmd sc_hd sc_num sc_mk; (try dsimp only); (repeat (first | rw [if_pos (by omega)] | rw [if_neg (by omega)])); (repeat ((first | unfold sc_num | unfold sc_mk); (try dsimp only); (repeat (first | rw [if_pos (by omega)] | rw [if_neg (by omega)])))); first | exact sc_Oe (by omega) (by omega) (by omega) (by omega) | ((repeat' split) <;> (first | exact sc_Oe (by omega) (by omega) (by omega) (by omega) | (exfalso; omega))))
    ·
      refine wi_aload_n (i := 1) (x := mm_XB + (19 : Int).toNat) (nx := 20) (r1 := 0) (r2 := 0) (r3 := 0) rfl rfl ?_
      refine wr_gx (k0 := mm_XB + (19 : Int).toNat) (v := vi 1) (nx := 23) (r1 := 1) (r2 := 0) (r3 := 1) rfl (by decide) (by decide) rfl ?_
      refine wi_if (cd := .ne) (nx := 26) (r1 := 35) (r2 := 0) (r3 := 0) rfl (by omega) (fun (q9 : 1 ≠ 0) => ?_) (fun (q9 : ¬ (1 ≠ 0)) => by exfalso; omega)
      refine wi_aload_n (i := 1) (x := mm_XB + (19 : Int).toNat) (nx := 36) (r1 := 0) (r2 := 0) (r3 := 0) rfl rfl ?_
      refine wr_gst (v := wv 20) (nx := 39) (r1 := 19) (r2 := 0) (r3 := 0) rfl rfl rfl ?_
      refine wr_acmp (cd := .ne) (x := 19) (y := 20) (nx := 42) (r1 := 59) (r2 := 0) (r3 := 0) rfl (by omega) (by omega) (fun _ => ?_) (fun q => absurd (by decide) q)
      refine wi_aload_n (i := 0) (x := 68) (nx := 60) (r1 := 0) (r2 := 0) (r3 := 0) rfl rfl ?_
      have b11 := gi_b (lo := 0) (hi := 40) g 68 9 rfl
      refine wr_gi0 (k0 := 68) (x := h 68 9) (nx := 63) (r1 := 8) (r2 := 9) (r3 := 0) rfl rfl (by decide) rfl ⟨rfl, rfl⟩ rfl rfl ?_
      refine wi_bipush (n := 40) (nx := 65) (r1 := 0) (r2 := 0) (r3 := 0) rfl (by decide) ?_
      refine wi_icmp (cd := .lt) (nx := 68) (r1 := 77) (r2 := 0) (r3 := 0) rfl (by omega) (by omega) (fun (q12 : (h 68 9) < 40) => ?_) (fun (q12 : ¬ ((h 68 9) < 40)) => ?_)
      ·
        refine wi_aload_n (i := 0) (x := 68) (nx := 78) (r1 := 0) (r2 := 0) (r3 := 0) rfl rfl ?_
        refine wi_dup (nx := 79) (r1 := 0) (r2 := 0) (r3 := 0) rfl rfl ?_
        refine wr_gi0 (k0 := 68) (x := h 68 9) (nx := 82) (r1 := 8) (r2 := 9) (r3 := 0) rfl rfl (by decide) rfl ⟨rfl, rfl⟩ rfl rfl ?_
        refine wi_iconst (n := 1) (nx := 83) (r1 := 0) (r2 := 0) (r3 := 0) rfl ?_
        refine wr_add (nx := 84) (r1 := 0) (r2 := 0) (r3 := 0) rfl (fun e13 (fe13 : e13 = (h 68 9) + 1) => ?_)
        refine wr_pf0 (k0 := 68) (x := e13) (bl := 0) (bh := 40) (nx := 87) (r1 := 8) (r2 := 9) (r3 := 0) rfl (by decide) rfl ⟨rfl, rfl⟩ rfl rfl g rfl (by omega) (fun h14 g14 w14 u14 => ?_)
        have F15 := F0.then rfl u14
        refine wi_aload_n (i := 1) (x := mm_XB + (19 : Int).toNat) (nx := 88) (r1 := 0) (r2 := 0) (r3 := 0) rfl rfl ?_
        refine wr_gx (k0 := mm_XB + (19 : Int).toNat) (v := vi 0) (nx := 91) (r1 := 3) (r2 := 0) (r3 := 1) rfl (by decide) (by decide) rfl ?_
        refine wi_if (cd := .le) (nx := 94) (r1 := 114) (r2 := 0) (r3 := 0) rfl (by omega) (fun (q16 : 0 ≤ 0) => ?_) (fun (q16 : ¬ (0 ≤ 0)) => by exfalso; omega)
        refine wi_aload_n (i := 0) (x := 68) (nx := 115) (r1 := 0) (r2 := 0) (r3 := 0) rfl rfl ?_
        refine wi_aload_n (i := 1) (x := mm_XB + (19 : Int).toNat) (nx := 116) (r1 := 0) (r2 := 0) (r3 := 0) rfl rfl ?_
        refine wi_aload_n (i := 0) (x := 68) (nx := 117) (r1 := 0) (r2 := 0) (r3 := 0) rfl rfl ?_
        refine wr_gr (k0 := 68) (x := 1) (nx := 120) (r1 := 8) (r2 := 0) (r3 := 0) rfl rfl (by decide) rfl ⟨rfl, rfl⟩ rfl ?_
        have b17 := gi_b (lo := -2147483648) (hi := 2147483647) g 1 7 rfl
        refine wr_gi0 (k0 := 1) (x := h 1 7) (nx := 123) (r1 := 1) (r2 := 7) (r3 := 0) rfl rfl (by decide) rfl ⟨rfl, rfl⟩ rfl (u14 1 7 rfl) ?_
        refine wr_V (k0 := 68) (rest := []) (as := [.ref 68, wv 19, vi (h 1 7)]) (nx := 126) (r1 := 184) (r2 := 2) (r3 := 8) rfl rfl rfl (of_decide_eq_true rfl) rfl rfl (by decide) rfl rfl (of_decide_eq_true rfl) (of_decide_eq_true rfl) ?_
        refine ct_184_68 hcr  g14 19 (h 1 7) (by omega) (by omega)  (fun h18 g18 u18 => ?_)
        have F19 := F15.then (by decide +kernel) u18
        refine wk_n ?_
        refine wi_aload_n (i := 1) (x := mm_XB + (19 : Int).toNat) (nx := 127) (r1 := 0) (r2 := 0) (r3 := 0) rfl rfl ?_
        refine wr_gst (v := wv 20) (nx := 130) (r1 := 19) (r2 := 0) (r3 := 0) rfl rfl rfl ?_
        refine wr_acmp (cd := .ne) (x := 19) (y := 20) (nx := 133) (r1 := 166) (r2 := 0) (r3 := 0) rfl (by omega) (by omega) (fun _ => ?_) (fun q => absurd (by decide) q)
        refine wi_aload_n (i := 0) (x := 68) (nx := 167) (r1 := 0) (r2 := 0) (r3 := 0) rfl rfl ?_
        refine wr_gr (k0 := 68) (x := 1) (nx := 170) (r1 := 8) (r2 := 0) (r3 := 0) rfl rfl (by decide) rfl ⟨rfl, rfl⟩ rfl ?_
        refine wr_V (k0 := 1) (rest := []) (as := [.ref 1]) (nx := 173) (r1 := 105) (r2 := 0) (r3 := 1) rfl rfl rfl (of_decide_eq_true rfl) rfl rfl (by decide) rfl rfl (of_decide_eq_true rfl) (of_decide_eq_true rfl) ?_
        have e22 : h18 1 4 = h 1 4 := ((u18 1 4 rfl).trans (u14 1 4 rfl))
        have tb24 := BufC.fr u14 rfl xq0
        have tb25 := BufC.fr u18 rfl tb24
        refine ct_105_1 hcr  g18   (show (h18 1 4) = (tk_nx tB tn tp) by omega) (show 0 ≤ (tk_nx tB tn tp) by omega) (show (tk_nx tB tn tp) ≤ tn by omega) tb25 (fun h21 z23 g21 u21 (fz23 : 0 ≤ z23 ∧ z23 ≤ 1) (p21_0 : (z23 = 1 ∧ tk_kd tB tn (tk_nx tB tn tp) = 3 ∧ (h21 1 4) = tk_nx tB tn (tk_nx tB tn tp) ∧ (h21 1 2) = (h18 1 2) ∧ (h21 1 3) = (h18 1 3)) ∨ (z23 = 0 ∧ tk_kd tB tn (tk_nx tB tn tp) ≠ 3 ∧ (h21 1 2) = 1 ∧ (h21 1 3) = tk_st tB tn (tk_nx tB tn tp))) => ?_)
        have F26 := F19.then (by decide +kernel) u21
        have e27 : h18 1 2 = h 1 2 := ((u18 1 2 rfl).trans (u14 1 2 rfl))
        have e28 : h18 1 3 = h 1 3 := ((u18 1 3 rfl).trans (u14 1 3 rfl))
        have b29 := gi_b (lo := 0) (hi := 800) g21 1 4 rfl
        have b30 := gi_b (lo := -2147483648) (hi := 2147483647) g21 1 2 rfl
        have b31 := gi_b (lo := -2147483648) (hi := 2147483647) g21 1 3 rfl
        have tN32 := @tk_nx_b tB tn (tk_nx tB tn tp) (by omega) (by omega)
        refine wk_i ?_
        refine wi_zreturn (nx := 174) (r1 := 0) (r2 := 0) (r3 := 0) rfl rfl (by omega) ?_
        have b33 := gi_b (lo := 0) (hi := 2) g 68 8 rfl
        have e34 : h21 68 8 = h 68 8 := ((u21 68 8 rfl).trans ((u18 68 8 rfl).trans (u14 68 8 rfl)))
        have e35 : h21 68 9 = e13 := ((u21 68 9 rfl).trans ((u18 68 9 rfl).trans w14))
        exact k h21 z23 g21 F26 (by omega) (show z23 = 0 ∨ z23 = 1 by omega) (by rcases (show z23 = 0 ∨ z23 = 1 by omega) with zz | zz; (unfold sc_cmd sc_hd sc_num sc_mk; (try dsimp only); (repeat (first | rw [if_pos (by omega)] | rw [if_neg (by omega)])); (repeat ((first | unfold sc_num | unfold sc_mk); (try dsimp only); (repeat (first | rw [if_pos (by omega)] | rw [if_neg (by omega)])))); exact sc_Oe (by omega) (by omega) (by omega) (by omega)); (unfold sc_cmd sc_hd sc_num sc_mk; (try dsimp only); (repeat (first | rw [if_pos (by omega)] | rw [if_neg (by omega)])); (repeat ((first | unfold sc_num | unfold sc_mk); (try dsimp only); (repeat (first | rw [if_pos (by omega)] | rw [if_neg (by omega)])))); exact sc_Os (by omega) (by omega) (by omega) (by omega) (by omega) (by omega)))
      ·
        refine wi_aload_n (i := 0) (x := 68) (nx := 69) (r1 := 0) (r2 := 0) (r3 := 0) rfl rfl ?_
        refine wr_gr (k0 := 68) (x := 1) (nx := 72) (r1 := 8) (r2 := 0) (r3 := 0) rfl rfl (by decide) rfl ⟨rfl, rfl⟩ rfl ?_
        refine wi_iconst (n := 5) (nx := 73) (r1 := 0) (r2 := 0) (r3 := 0) rfl ?_
        refine wr_V (k0 := 1) (rest := []) (as := [.ref 1, vi 5]) (nx := 76) (r1 := 101) (r2 := 1) (r3 := 1) rfl rfl rfl (of_decide_eq_true rfl) rfl rfl (by decide) rfl rfl (of_decide_eq_true rfl) (of_decide_eq_true rfl) ?_
        refine ct_101_1 hcr  g 5 (by omega)  (fun h13 z14 g13 u13 (fz14 : 0 ≤ z14 ∧ z14 ≤ 0) (p13_0 : z14 = 0) (p13_1 : (h13 1 2) = 5) (p13_2 : (h13 1 3) = (h 1 6)) => ?_)
        have F15 := F0.then (by decide +kernel) u13
        have b16 := gi_b (lo := -2147483648) (hi := 2147483647) g13 1 2 rfl
        have b17 := gi_b (lo := -2147483648) (hi := 2147483647) g13 1 3 rfl
        refine wk_i ?_
        refine wi_zreturn (nx := 77) (r1 := 0) (r2 := 0) (r3 := 0) rfl rfl (by omega) ?_
        have e18 : h13 1 4 = h 1 4 := (u13 1 4 rfl)
        have b19 := gi_b (lo := 0) (hi := 2) g 68 8 rfl
        have e20 : h13 68 8 = h 68 8 := (u13 68 8 rfl)
        have e21 : h13 68 9 = h 68 9 := (u13 68 9 rfl)
        exact k h13 z14 g13 F15 (by omega) (show z14 = 0 ∨ z14 = 1 by omega) (by unfold sc_cmd sc_hd sc_num sc_mk; (try dsimp only); (repeat (first | rw [if_pos (by omega)] | rw [if_neg (by omega)])); (repeat ((first | unfold sc_num | unfold sc_mk); (try dsimp only); (repeat (first | rw [if_pos (by omega)] | rw [if_neg (by omega)])))); first | exact sc_Oe (by omega) (by omega) (by omega) (by omega) | ((repeat' split) <;> (first | exact sc_Oe (by omega) (by omega) (by omega) (by omega) | (exfalso; omega))))
  ·
    refine wr_gi3 (k0 := 1) (x := 20) (nx := 7) (r1 := 1) (r2 := 9) (r3 := 0) rfl rfl (by decide) rfl ⟨rfl, rfl⟩ rfl q7 ?_
    refine wi_astore_n (i := 1) (x := mm_XB + (20 : Int).toNat) (lo2 := [(1, wv 20), (0, .ref 68)]) (nx := 8) (r1 := 0) (r2 := 0) (r3 := 0) rfl rfl ?_
    refine wi_aload_n (i := 0) (x := 68) (nx := 9) (r1 := 0) (r2 := 0) (r3 := 0) rfl rfl ?_
    refine wr_gr (k0 := 68) (x := 1) (nx := 12) (r1 := 8) (r2 := 0) (r3 := 0) rfl rfl (by decide) rfl ⟨rfl, rfl⟩ rfl ?_
    refine wr_gi0 (k0 := 1) (x := h 1 5) (nx := 15) (r1 := 1) (r2 := 5) (r3 := 0) rfl rfl (by decide) rfl ⟨rfl, rfl⟩ rfl rfl ?_
    refine wi_iconst (n := 1) (nx := 16) (r1 := 0) (r2 := 0) (r3 := 0) rfl ?_
    refine wi_icmp (cd := .ne) (nx := 19) (r1 := 26) (r2 := 0) (r3 := 0) rfl (by omega) (by omega) (fun (q8 : (h 1 5) ≠ 1) => ?_) (fun (q8 : ¬ ((h 1 5) ≠ 1)) => ?_)
    ·
      refine wi_aload_n (i := 0) (x := 68) (nx := 27) (r1 := 0) (r2 := 0) (r3 := 0) rfl rfl ?_
      refine wr_gr (k0 := 68) (x := 1) (nx := 30) (r1 := 8) (r2 := 0) (r3 := 0) rfl rfl (by decide) rfl ⟨rfl, rfl⟩ rfl ?_
      refine wi_iconst (n := 1) (nx := 31) (r1 := 0) (r2 := 0) (r3 := 0) rfl ?_
      refine wr_V (k0 := 1) (rest := []) (as := [.ref 1, vi 1]) (nx := 34) (r1 := 101) (r2 := 1) (r3 := 1) rfl rfl rfl (of_decide_eq_true rfl) rfl rfl (by decide) rfl rfl (of_decide_eq_true rfl) (of_decide_eq_true rfl) ?_
      refine ct_101_1 hcr  g 1 (by omega)  (fun h9 z10 g9 u9 (fz10 : 0 ≤ z10 ∧ z10 ≤ 0) (p9_0 : z10 = 0) (p9_1 : (h9 1 2) = 1) (p9_2 : (h9 1 3) = (h 1 6)) => ?_)
      have F11 := F0.then (by decide +kernel) u9
      have b12 := gi_b (lo := -2147483648) (hi := 2147483647) g9 1 2 rfl
      have b13 := gi_b (lo := -2147483648) (hi := 2147483647) g9 1 3 rfl
      refine wk_i ?_
      refine wi_zreturn (nx := 35) (r1 := 0) (r2 := 0) (r3 := 0) rfl rfl (by omega) ?_
      have e14 : h9 1 4 = h 1 4 := (u9 1 4 rfl)
      have b15 := gi_b (lo := 0) (hi := 2) g 68 8 rfl
      have e16 : h9 68 8 = h 68 8 := (u9 68 8 rfl)
      have b17 := gi_b (lo := 0) (hi := 40) g 68 9 rfl
      have e18 : h9 68 9 = h 68 9 := (u9 68 9 rfl)
      exact k h9 z10 g9 F11 (by omega) (show z10 = 0 ∨ z10 = 1 by omega) (by unfold sc_cmd sc_hd sc_num sc_mk; (try dsimp only); (repeat (first | rw [if_pos (by omega)] | rw [if_neg (by omega)])); (repeat ((first | unfold sc_num | unfold sc_mk); (try dsimp only); (repeat (first | rw [if_pos (by omega)] | rw [if_neg (by omega)])))); first | exact sc_Oe (by omega) (by omega) (by omega) (by omega) | ((repeat' split) <;> (first | exact sc_Oe (by omega) (by omega) (by omega) (by omega) | (exfalso; omega))))
    ·
      refine wi_aload_n (i := 1) (x := mm_XB + (20 : Int).toNat) (nx := 20) (r1 := 0) (r2 := 0) (r3 := 0) rfl rfl ?_
      refine wr_gx (k0 := mm_XB + (20 : Int).toNat) (v := vi 1) (nx := 23) (r1 := 1) (r2 := 0) (r3 := 1) rfl (by decide) (by decide) rfl ?_
      refine wi_if (cd := .ne) (nx := 26) (r1 := 35) (r2 := 0) (r3 := 0) rfl (by omega) (fun (q9 : 1 ≠ 0) => ?_) (fun (q9 : ¬ (1 ≠ 0)) => by exfalso; omega)
      refine wi_aload_n (i := 1) (x := mm_XB + (20 : Int).toNat) (nx := 36) (r1 := 0) (r2 := 0) (r3 := 0) rfl rfl ?_
      refine wr_gst (v := wv 20) (nx := 39) (r1 := 19) (r2 := 0) (r3 := 0) rfl rfl rfl ?_
      refine wr_acmp (cd := .ne) (x := 20) (y := 20) (nx := 42) (r1 := 59) (r2 := 0) (r3 := 0) rfl (by omega) (by omega) (fun q => absurd q (by decide)) (fun _ => ?_)
      refine wi_aload_n (i := 0) (x := 68) (nx := 43) (r1 := 0) (r2 := 0) (r3 := 0) rfl rfl ?_
      have b11 := gi_b (lo := 0) (hi := 2) g 68 8 rfl
      refine wr_gi0 (k0 := 68) (x := h 68 8) (nx := 46) (r1 := 8) (r2 := 8) (r3 := 0) rfl rfl (by decide) rfl ⟨rfl, rfl⟩ rfl rfl ?_
      refine wi_iconst (n := 2) (nx := 47) (r1 := 0) (r2 := 0) (r3 := 0) rfl ?_
      refine wi_icmp (cd := .lt) (nx := 50) (r1 := 59) (r2 := 0) (r3 := 0) rfl (by omega) (by omega) (fun (q12 : (h 68 8) < 2) => ?_) (fun (q12 : ¬ ((h 68 8) < 2)) => ?_)
      ·
        refine wi_aload_n (i := 0) (x := 68) (nx := 60) (r1 := 0) (r2 := 0) (r3 := 0) rfl rfl ?_
        have b13 := gi_b (lo := 0) (hi := 40) g 68 9 rfl
        refine wr_gi0 (k0 := 68) (x := h 68 9) (nx := 63) (r1 := 8) (r2 := 9) (r3 := 0) rfl rfl (by decide) rfl ⟨rfl, rfl⟩ rfl rfl ?_
        refine wi_bipush (n := 40) (nx := 65) (r1 := 0) (r2 := 0) (r3 := 0) rfl (by decide) ?_
        refine wi_icmp (cd := .lt) (nx := 68) (r1 := 77) (r2 := 0) (r3 := 0) rfl (by omega) (by omega) (fun (q14 : (h 68 9) < 40) => ?_) (fun (q14 : ¬ ((h 68 9) < 40)) => ?_)
        ·
          refine wi_aload_n (i := 0) (x := 68) (nx := 78) (r1 := 0) (r2 := 0) (r3 := 0) rfl rfl ?_
          refine wi_dup (nx := 79) (r1 := 0) (r2 := 0) (r3 := 0) rfl rfl ?_
          refine wr_gi0 (k0 := 68) (x := h 68 9) (nx := 82) (r1 := 8) (r2 := 9) (r3 := 0) rfl rfl (by decide) rfl ⟨rfl, rfl⟩ rfl rfl ?_
          refine wi_iconst (n := 1) (nx := 83) (r1 := 0) (r2 := 0) (r3 := 0) rfl ?_
          refine wr_add (nx := 84) (r1 := 0) (r2 := 0) (r3 := 0) rfl (fun e15 (fe15 : e15 = (h 68 9) + 1) => ?_)
          refine wr_pf0 (k0 := 68) (x := e15) (bl := 0) (bh := 40) (nx := 87) (r1 := 8) (r2 := 9) (r3 := 0) rfl (by decide) rfl ⟨rfl, rfl⟩ rfl rfl g rfl (by omega) (fun h16 g16 w16 u16 => ?_)
          have F17 := F0.then rfl u16
          refine wi_aload_n (i := 1) (x := mm_XB + (20 : Int).toNat) (nx := 88) (r1 := 0) (r2 := 0) (r3 := 0) rfl rfl ?_
          refine wr_gx (k0 := mm_XB + (20 : Int).toNat) (v := vi 20) (nx := 91) (r1 := 3) (r2 := 0) (r3 := 1) rfl (by decide) (by decide) rfl ?_
          refine wi_if (cd := .le) (nx := 94) (r1 := 114) (r2 := 0) (r3 := 0) rfl (by omega) (fun (q18 : 20 ≤ 0) => by exfalso; omega) (fun (q18 : ¬ (20 ≤ 0)) => ?_)
          refine wi_aload_n (i := 0) (x := 68) (nx := 95) (r1 := 0) (r2 := 0) (r3 := 0) rfl rfl ?_
          refine wr_gr (k0 := 68) (x := 1) (nx := 98) (r1 := 8) (r2 := 0) (r3 := 0) rfl rfl (by decide) rfl ⟨rfl, rfl⟩ rfl ?_
          refine wi_aload_n (i := 1) (x := mm_XB + (20 : Int).toNat) (nx := 99) (r1 := 0) (r2 := 0) (r3 := 0) rfl rfl ?_
          refine wr_gx (k0 := mm_XB + (20 : Int).toNat) (v := vi 1) (nx := 102) (r1 := 2) (r2 := 0) (r3 := 1) rfl (by decide) (by decide) rfl ?_
          refine wi_aload_n (i := 1) (x := mm_XB + (20 : Int).toNat) (nx := 103) (r1 := 0) (r2 := 0) (r3 := 0) rfl rfl ?_
          refine wr_gx (k0 := mm_XB + (20 : Int).toNat) (v := vi 20) (nx := 106) (r1 := 3) (r2 := 0) (r3 := 1) rfl (by decide) (by decide) rfl ?_
          refine wr_V (k0 := 1) (rest := []) (as := [.ref 1, vi 1, vi 20]) (nx := 109) (r1 := 103) (r2 := 2) (r3 := 1) rfl rfl rfl (of_decide_eq_true rfl) rfl rfl (by decide) rfl rfl (of_decide_eq_true rfl) (of_decide_eq_true rfl) ?_
          have e20 : h16 1 4 = h 1 4 := (u16 1 4 rfl)
          have tb22 := BufC.fr u16 rfl xq0
          refine ct_103_1 hcr  g16 1 20 (by omega) (by omega) (show (h16 1 4) = (tk_nx tB tn tp) by omega) (show 0 ≤ (tk_nx tB tn tp) by omega) (show (tk_nx tB tn tp) ≤ tn by omega) tb22 (fun h19 z21 g19 u19 (fz21 : 0 ≤ z21 ∧ z21 ≤ 1) (p19_0 : (z21 = 1 ∧ tk_kd tB tn (tk_nx tB tn tp) = 2 ∧ 1 ≤ tk_nb tB tn (tk_nx tB tn tp) ∧ tk_nb tB tn (tk_nx tB tn tp) ≤ 20 ∧ (h19 1 4) = tk_nx tB tn (tk_nx tB tn tp) ∧ (h19 1 7) = tk_nb tB tn (tk_nx tB tn tp) ∧ (h19 1 2) = (h16 1 2) ∧ (h19 1 3) = (h16 1 3)) ∨ (z21 = 0 ∧ (h19 1 3) = tk_st tB tn (tk_nx tB tn tp) ∧ ((tk_kd tB tn (tk_nx tB tn tp) ≠ 2 ∧ (h19 1 2) = 1) ∨ (tk_kd tB tn (tk_nx tB tn tp) = 2 ∧ (tk_nb tB tn (tk_nx tB tn tp) < 1 ∨ 20 < tk_nb tB tn (tk_nx tB tn tp)) ∧ (h19 1 2) = 2)))) => ?_)
          have F23 := F17.then (by decide +kernel) u19
          have e24 : h16 1 2 = h 1 2 := (u16 1 2 rfl)
          have e25 : h16 1 3 = h 1 3 := (u16 1 3 rfl)
          have b26 := gi_b (lo := 0) (hi := 800) g19 1 4 rfl
          have b27 := gi_b (lo := -2147483648) (hi := 2147483647) g19 1 7 rfl
          have b28 := gi_b (lo := -2147483648) (hi := 2147483647) g19 1 2 rfl
          have b29 := gi_b (lo := -2147483648) (hi := 2147483647) g19 1 3 rfl
          have tN30 := @tk_nx_b tB tn (tk_nx tB tn tp) (by omega) (by omega)
          refine wk_i ?_
          refine wi_if (cd := .ne) (nx := 112) (r1 := 114) (r2 := 0) (r3 := 0) rfl (by omega) (fun (q31 : z21 ≠ 0) => ?_) (fun (q31 : ¬ (z21 ≠ 0)) => ?_)
          ·
            refine wi_aload_n (i := 0) (x := 68) (nx := 115) (r1 := 0) (r2 := 0) (r3 := 0) rfl rfl ?_
            refine wi_aload_n (i := 1) (x := mm_XB + (20 : Int).toNat) (nx := 116) (r1 := 0) (r2 := 0) (r3 := 0) rfl rfl ?_
            refine wi_aload_n (i := 0) (x := 68) (nx := 117) (r1 := 0) (r2 := 0) (r3 := 0) rfl rfl ?_
            refine wr_gr (k0 := 68) (x := 1) (nx := 120) (r1 := 8) (r2 := 0) (r3 := 0) rfl rfl (by decide) rfl ⟨rfl, rfl⟩ rfl ?_
            refine wr_gi0 (k0 := 1) (x := h19 1 7) (nx := 123) (r1 := 1) (r2 := 7) (r3 := 0) rfl rfl (by decide) rfl ⟨rfl, rfl⟩ rfl rfl ?_
            refine wr_V (k0 := 68) (rest := []) (as := [.ref 68, wv 20, vi (h19 1 7)]) (nx := 126) (r1 := 184) (r2 := 2) (r3 := 8) rfl rfl rfl (of_decide_eq_true rfl) rfl rfl (by decide) rfl rfl (of_decide_eq_true rfl) (of_decide_eq_true rfl) ?_
            refine ct_184_68 hcr  g19 20 (h19 1 7) (by omega) (by omega)  (fun h32 g32 u32 => ?_)
            have F33 := F23.then (by decide +kernel) u32
            refine wk_n ?_
            refine wi_aload_n (i := 1) (x := mm_XB + (20 : Int).toNat) (nx := 127) (r1 := 0) (r2 := 0) (r3 := 0) rfl rfl ?_
            refine wr_gst (v := wv 20) (nx := 130) (r1 := 19) (r2 := 0) (r3 := 0) rfl rfl rfl ?_
            refine wr_acmp (cd := .ne) (x := 20) (y := 20) (nx := 133) (r1 := 166) (r2 := 0) (r3 := 0) rfl (by omega) (by omega) (fun q => absurd q (by decide)) (fun _ => ?_)
            refine wi_aload_n (i := 0) (x := 68) (nx := 134) (r1 := 0) (r2 := 0) (r3 := 0) rfl rfl ?_
            refine wr_gr (k0 := 68) (x := 72) (nx := 137) (r1 := 8) (r2 := 7) (r3 := 0) rfl rfl (by decide) rfl ⟨rfl, rfl⟩ rfl ?_
            refine wi_aload_n (i := 0) (x := 68) (nx := 138) (r1 := 0) (r2 := 0) (r3 := 0) rfl rfl ?_
            refine wr_gi0 (k0 := 68) (x := h 68 8) (nx := 141) (r1 := 8) (r2 := 8) (r3 := 0) rfl rfl (by decide) rfl ⟨rfl, rfl⟩ rfl ((u32 68 8 rfl).trans ((u19 68 8 rfl).trans (u16 68 8 rfl))) ?_
            refine wi_aload_n (i := 0) (x := 68) (nx := 142) (r1 := 0) (r2 := 0) (r3 := 0) rfl rfl ?_
            have b35 := gi_b (lo := 0) (hi := 80) g32 68 10 rfl
            refine wr_gi0 (k0 := 68) (x := h32 68 10) (nx := 145) (r1 := 8) (r2 := 10) (r3 := 0) rfl rfl (by decide) rfl ⟨rfl, rfl⟩ rfl rfl ?_
            refine wi_iconst (n := 1) (nx := 146) (r1 := 0) (r2 := 0) (r3 := 0) rfl ?_
            refine wr_sub (nx := 147) (r1 := 0) (r2 := 0) (r3 := 0) rfl (fun e36 (fe36 : e36 = (h32 68 10) - 1) => ?_)
            obtain ⟨i37, ei37⟩ : ∃ q : Nat, (h 68 8) = (q : Int) := ⟨(h 68 8).toNat, by omega⟩
            refine wr_is (k0 := 72) (a := h 68 8) (f := i37) (x := e36) (bl := -2147483648) (bh := 2147483647) (nx := 148) (r1 := 0) (r2 := 0) (r3 := 0) rfl (by decide) rfl (by omega) (by omega) (by decide) g32 rfl (by omega) (fun h38 g38 w38 u38 => ?_)
            have F39 := F33.then rfl (FR.rngp (lo := 72) (hi := 72) u38 (by decide))
            refine wi_aload_n (i := 0) (x := 68) (nx := 149) (r1 := 0) (r2 := 0) (r3 := 0) rfl rfl ?_
            refine wi_dup (nx := 150) (r1 := 0) (r2 := 0) (r3 := 0) rfl rfl ?_
            refine wr_gi0 (k0 := 68) (x := h 68 8) (nx := 153) (r1 := 8) (r2 := 8) (r3 := 0) rfl rfl (by decide) rfl ⟨rfl, rfl⟩ rfl ((u38 68 8 (fn_a (by omega) fn_0)).trans ((u32 68 8 rfl).trans ((u19 68 8 rfl).trans (u16 68 8 rfl)))) ?_
            refine wi_iconst (n := 1) (nx := 154) (r1 := 0) (r2 := 0) (r3 := 0) rfl ?_
            refine wr_add (nx := 155) (r1 := 0) (r2 := 0) (r3 := 0) rfl (fun e40 (fe40 : e40 = (h 68 8) + 1) => ?_)
            refine wr_pf0 (k0 := 68) (x := e40) (bl := 0) (bh := 2) (nx := 158) (r1 := 8) (r2 := 8) (r3 := 0) rfl (by decide) rfl ⟨rfl, rfl⟩ rfl rfl g38 rfl (by omega) (fun h41 g41 w41 u41 => ?_)
            have F42 := F39.then rfl u41
            refine wi_aload_n (i := 0) (x := 68) (nx := 159) (r1 := 0) (r2 := 0) (r3 := 0) rfl rfl ?_
            refine wr_gr (k0 := 68) (x := 1) (nx := 162) (r1 := 8) (r2 := 0) (r3 := 0) rfl rfl (by decide) rfl ⟨rfl, rfl⟩ rfl ?_
            refine wr_V (k0 := 1) (rest := []) (as := [.ref 1]) (nx := 165) (r1 := 106) (r2 := 0) (r3 := 1) rfl rfl rfl (of_decide_eq_true rfl) rfl rfl (by decide) rfl rfl (of_decide_eq_true rfl) (of_decide_eq_true rfl) ?_
            have e44 : h41 1 4 = h19 1 4 := ((u41 1 4 rfl).trans ((u38 1 4 (fn_a (by omega) fn_0)).trans (u32 1 4 rfl)))
            have tb46 := BufC.fr u19 rfl tb22
            have tb47 := BufC.fr u32 rfl tb46
            have tb48 := BufC.fr u38 rfl tb47
            have tb49 := BufC.fr u41 rfl tb48
            refine ct_106_1 hcr  g41   (show (h41 1 4) = (tk_nx tB tn (tk_nx tB tn tp)) by omega) (show 0 ≤ (tk_nx tB tn (tk_nx tB tn tp)) by omega) (show (tk_nx tB tn (tk_nx tB tn tp)) ≤ tn by omega) tb49 (fun h43 z45 g43 u43 (fz45 : 0 ≤ z45 ∧ z45 ≤ 1) (p43_0 : (z45 = 1 ∧ tk_kd tB tn (tk_nx tB tn (tk_nx tB tn tp)) = 4 ∧ (h43 1 4) = tk_nx tB tn (tk_nx tB tn (tk_nx tB tn tp)) ∧ (h43 1 2) = (h41 1 2) ∧ (h43 1 3) = (h41 1 3)) ∨ (z45 = 0 ∧ tk_kd tB tn (tk_nx tB tn (tk_nx tB tn tp)) ≠ 4 ∧ (h43 1 2) = 1 ∧ (h43 1 3) = tk_st tB tn (tk_nx tB tn (tk_nx tB tn tp)))) => ?_)
            have F50 := F42.then (by decide +kernel) u43
            have e51 : h41 1 2 = h19 1 2 := ((u41 1 2 rfl).trans ((u38 1 2 (fn_a (by omega) fn_0)).trans (u32 1 2 rfl)))
            have e52 : h41 1 3 = h19 1 3 := ((u41 1 3 rfl).trans ((u38 1 3 (fn_a (by omega) fn_0)).trans (u32 1 3 rfl)))
            have b53 := gi_b (lo := 0) (hi := 800) g43 1 4 rfl
            have b54 := gi_b (lo := -2147483648) (hi := 2147483647) g43 1 2 rfl
            have b55 := gi_b (lo := -2147483648) (hi := 2147483647) g43 1 3 rfl
            have tN56 := @tk_nx_b tB tn (tk_nx tB tn (tk_nx tB tn tp)) (by omega) (by omega)
            refine wk_i ?_
            refine wi_zreturn (nx := 166) (r1 := 0) (r2 := 0) (r3 := 0) rfl rfl (by omega) ?_
            have e57 : h43 68 8 = e40 := ((u43 68 8 rfl).trans w41)
            have e58 : h43 68 9 = e15 := ((u43 68 9 rfl).trans ((u41 68 9 rfl).trans ((u38 68 9 (fn_a (by omega) fn_0)).trans ((u32 68 9 rfl).trans ((u19 68 9 rfl).trans w16)))))
            exact k h43 z45 g43 F50 (by omega) (show z45 = 0 ∨ z45 = 1 by omega) (by rcases (show z45 = 0 ∨ z45 = 1 by omega) with zz | zz; (unfold sc_cmd sc_hd sc_num sc_mk; (try dsimp only); (repeat (first | rw [if_pos (by omega)] | rw [if_neg (by omega)])); (repeat ((first | unfold sc_num | unfold sc_mk); (try dsimp only); (repeat (first | rw [if_pos (by omega)] | rw [if_neg (by omega)])))); exact sc_Oe (by omega) (by omega) (by omega) (by omega)); (unfold sc_cmd sc_hd sc_num sc_mk; (try dsimp only); (repeat (first | rw [if_pos (by omega)] | rw [if_neg (by omega)])); (repeat ((first | unfold sc_num | unfold sc_mk); (try dsimp only); (repeat (first | rw [if_pos (by omega)] | rw [if_neg (by omega)])))); exact sc_Os (by omega) (by omega) (by omega) (by omega) (by omega) (by omega)))
          ·
            refine wi_iconst (n := 0) (nx := 113) (r1 := 0) (r2 := 0) (r3 := 0) rfl ?_
            refine wi_zreturn (nx := 114) (r1 := 0) (r2 := 0) (r3 := 0) rfl rfl (by omega) ?_
            have e32 : h19 68 8 = h 68 8 := ((u19 68 8 rfl).trans (u16 68 8 rfl))
            have e33 : h19 68 9 = e15 := ((u19 68 9 rfl).trans w16)
            exact k h19 0 g19 F23 (by omega) (show 0 = 0 ∨ 0 = 1 by omega) (by unfold sc_cmd sc_hd sc_num sc_mk; (try dsimp only); (repeat (first | rw [if_pos (by omega)] | rw [if_neg (by omega)])); (repeat ((first | unfold sc_num | unfold sc_mk); (try dsimp only); (repeat (first | rw [if_pos (by omega)] | rw [if_neg (by omega)])))); first | exact sc_Oe (by omega) (by omega) (by omega) (by omega) | ((repeat' split) <;> (first | exact sc_Oe (by omega) (by omega) (by omega) (by omega) | (exfalso; omega))))
        ·
          refine wi_aload_n (i := 0) (x := 68) (nx := 69) (r1 := 0) (r2 := 0) (r3 := 0) rfl rfl ?_
          refine wr_gr (k0 := 68) (x := 1) (nx := 72) (r1 := 8) (r2 := 0) (r3 := 0) rfl rfl (by decide) rfl ⟨rfl, rfl⟩ rfl ?_
          refine wi_iconst (n := 5) (nx := 73) (r1 := 0) (r2 := 0) (r3 := 0) rfl ?_
          refine wr_V (k0 := 1) (rest := []) (as := [.ref 1, vi 5]) (nx := 76) (r1 := 101) (r2 := 1) (r3 := 1) rfl rfl rfl (of_decide_eq_true rfl) rfl rfl (by decide) rfl rfl (of_decide_eq_true rfl) (of_decide_eq_true rfl) ?_
          refine ct_101_1 hcr  g 5 (by omega)  (fun h15 z16 g15 u15 (fz16 : 0 ≤ z16 ∧ z16 ≤ 0) (p15_0 : z16 = 0) (p15_1 : (h15 1 2) = 5) (p15_2 : (h15 1 3) = (h 1 6)) => ?_)
          have F17 := F0.then (by decide +kernel) u15
          have b18 := gi_b (lo := -2147483648) (hi := 2147483647) g15 1 2 rfl
          have b19 := gi_b (lo := -2147483648) (hi := 2147483647) g15 1 3 rfl
          refine wk_i ?_
          refine wi_zreturn (nx := 77) (r1 := 0) (r2 := 0) (r3 := 0) rfl rfl (by omega) ?_
          have e20 : h15 1 4 = h 1 4 := (u15 1 4 rfl)
          have e21 : h15 68 8 = h 68 8 := (u15 68 8 rfl)
          have e22 : h15 68 9 = h 68 9 := (u15 68 9 rfl)
          exact k h15 z16 g15 F17 (by omega) (show z16 = 0 ∨ z16 = 1 by omega) (by unfold sc_cmd sc_hd sc_num sc_mk; (try dsimp only); (repeat (first | rw [if_pos (by omega)] | rw [if_neg (by omega)])); (repeat ((first | unfold sc_num | unfold sc_mk); (try dsimp only); (repeat (first | rw [if_pos (by omega)] | rw [if_neg (by omega)])))); first | exact sc_Oe (by omega) (by omega) (by omega) (by omega) | ((repeat' split) <;> (first | exact sc_Oe (by omega) (by omega) (by omega) (by omega) | (exfalso; omega))))
      ·
        refine wi_aload_n (i := 0) (x := 68) (nx := 51) (r1 := 0) (r2 := 0) (r3 := 0) rfl rfl ?_
        refine wr_gr (k0 := 68) (x := 1) (nx := 54) (r1 := 8) (r2 := 0) (r3 := 0) rfl rfl (by decide) rfl ⟨rfl, rfl⟩ rfl ?_
        refine wi_iconst (n := 3) (nx := 55) (r1 := 0) (r2 := 0) (r3 := 0) rfl ?_
        refine wr_V (k0 := 1) (rest := []) (as := [.ref 1, vi 3]) (nx := 58) (r1 := 101) (r2 := 1) (r3 := 1) rfl rfl rfl (of_decide_eq_true rfl) rfl rfl (by decide) rfl rfl (of_decide_eq_true rfl) (of_decide_eq_true rfl) ?_
        refine ct_101_1 hcr  g 3 (by omega)  (fun h13 z14 g13 u13 (fz14 : 0 ≤ z14 ∧ z14 ≤ 0) (p13_0 : z14 = 0) (p13_1 : (h13 1 2) = 3) (p13_2 : (h13 1 3) = (h 1 6)) => ?_)
        have F15 := F0.then (by decide +kernel) u13
        have b16 := gi_b (lo := -2147483648) (hi := 2147483647) g13 1 2 rfl
        have b17 := gi_b (lo := -2147483648) (hi := 2147483647) g13 1 3 rfl
        refine wk_i ?_
        refine wi_zreturn (nx := 59) (r1 := 0) (r2 := 0) (r3 := 0) rfl rfl (by omega) ?_
        have e18 : h13 1 4 = h 1 4 := (u13 1 4 rfl)
        have e19 : h13 68 8 = h 68 8 := (u13 68 8 rfl)
        have b20 := gi_b (lo := 0) (hi := 40) g 68 9 rfl
        have e21 : h13 68 9 = h 68 9 := (u13 68 9 rfl)
        exact k h13 z14 g13 F15 (by omega) (show z14 = 0 ∨ z14 = 1 by omega) (by unfold sc_cmd sc_hd sc_num sc_mk; (try dsimp only); (repeat (first | rw [if_pos (by omega)] | rw [if_neg (by omega)])); (repeat ((first | unfold sc_num | unfold sc_mk); (try dsimp only); (repeat (first | rw [if_pos (by omega)] | rw [if_neg (by omega)])))); first | exact sc_Oe (by omega) (by omega) (by omega) (by omega) | ((repeat' split) <;> (first | exact sc_Oe (by omega) (by omega) (by omega) (by omega) | (exfalso; omega))))
  ·
    refine wr_gi3 (k0 := 1) (x := 21) (nx := 7) (r1 := 1) (r2 := 9) (r3 := 0) rfl rfl (by decide) rfl ⟨rfl, rfl⟩ rfl q7 ?_
    refine wi_astore_n (i := 1) (x := mm_XB + (21 : Int).toNat) (lo2 := [(1, wv 21), (0, .ref 68)]) (nx := 8) (r1 := 0) (r2 := 0) (r3 := 0) rfl rfl ?_
    refine wi_aload_n (i := 0) (x := 68) (nx := 9) (r1 := 0) (r2 := 0) (r3 := 0) rfl rfl ?_
    refine wr_gr (k0 := 68) (x := 1) (nx := 12) (r1 := 8) (r2 := 0) (r3 := 0) rfl rfl (by decide) rfl ⟨rfl, rfl⟩ rfl ?_
    refine wr_gi0 (k0 := 1) (x := h 1 5) (nx := 15) (r1 := 1) (r2 := 5) (r3 := 0) rfl rfl (by decide) rfl ⟨rfl, rfl⟩ rfl rfl ?_
    refine wi_iconst (n := 1) (nx := 16) (r1 := 0) (r2 := 0) (r3 := 0) rfl ?_
    refine wi_icmp (cd := .ne) (nx := 19) (r1 := 26) (r2 := 0) (r3 := 0) rfl (by omega) (by omega) (fun (q8 : (h 1 5) ≠ 1) => ?_) (fun (q8 : ¬ ((h 1 5) ≠ 1)) => ?_)
    ·
      refine wi_aload_n (i := 0) (x := 68) (nx := 27) (r1 := 0) (r2 := 0) (r3 := 0) rfl rfl ?_
      refine wr_gr (k0 := 68) (x := 1) (nx := 30) (r1 := 8) (r2 := 0) (r3 := 0) rfl rfl (by decide) rfl ⟨rfl, rfl⟩ rfl ?_
      refine wi_iconst (n := 1) (nx := 31) (r1 := 0) (r2 := 0) (r3 := 0) rfl ?_
      refine wr_V (k0 := 1) (rest := []) (as := [.ref 1, vi 1]) (nx := 34) (r1 := 101) (r2 := 1) (r3 := 1) rfl rfl rfl (of_decide_eq_true rfl) rfl rfl (by decide) rfl rfl (of_decide_eq_true rfl) (of_decide_eq_true rfl) ?_
      refine ct_101_1 hcr  g 1 (by omega)  (fun h9 z10 g9 u9 (fz10 : 0 ≤ z10 ∧ z10 ≤ 0) (p9_0 : z10 = 0) (p9_1 : (h9 1 2) = 1) (p9_2 : (h9 1 3) = (h 1 6)) => ?_)
      have F11 := F0.then (by decide +kernel) u9
      have b12 := gi_b (lo := -2147483648) (hi := 2147483647) g9 1 2 rfl
      have b13 := gi_b (lo := -2147483648) (hi := 2147483647) g9 1 3 rfl
      refine wk_i ?_
      refine wi_zreturn (nx := 35) (r1 := 0) (r2 := 0) (r3 := 0) rfl rfl (by omega) ?_
      have e14 : h9 1 4 = h 1 4 := (u9 1 4 rfl)
      have b15 := gi_b (lo := 0) (hi := 2) g 68 8 rfl
      have e16 : h9 68 8 = h 68 8 := (u9 68 8 rfl)
      have b17 := gi_b (lo := 0) (hi := 40) g 68 9 rfl
      have e18 : h9 68 9 = h 68 9 := (u9 68 9 rfl)
      exact k h9 z10 g9 F11 (by omega) (show z10 = 0 ∨ z10 = 1 by omega) (by unfold sc_cmd sc_hd sc_num sc_mk; (try dsimp only); (repeat (first | rw [if_pos (by omega)] | rw [if_neg (by omega)])); (repeat ((first | unfold sc_num | unfold sc_mk); (try dsimp only); (repeat (first | rw [if_pos (by omega)] | rw [if_neg (by omega)])))); first | exact sc_Oe (by omega) (by omega) (by omega) (by omega) | ((repeat' split) <;> (first | exact sc_Oe (by omega) (by omega) (by omega) (by omega) | (exfalso; omega))))
    ·
      refine wi_aload_n (i := 1) (x := mm_XB + (21 : Int).toNat) (nx := 20) (r1 := 0) (r2 := 0) (r3 := 0) rfl rfl ?_
      refine wr_gx (k0 := mm_XB + (21 : Int).toNat) (v := vi 0) (nx := 23) (r1 := 1) (r2 := 0) (r3 := 1) rfl (by decide) (by decide) rfl ?_
      refine wi_if (cd := .ne) (nx := 26) (r1 := 35) (r2 := 0) (r3 := 0) rfl (by omega) (fun (q9 : 0 ≠ 0) => by exfalso; omega) (fun (q9 : ¬ (0 ≠ 0)) => ?_)
      refine wi_aload_n (i := 0) (x := 68) (nx := 27) (r1 := 0) (r2 := 0) (r3 := 0) rfl rfl ?_
      refine wr_gr (k0 := 68) (x := 1) (nx := 30) (r1 := 8) (r2 := 0) (r3 := 0) rfl rfl (by decide) rfl ⟨rfl, rfl⟩ rfl ?_
      refine wi_iconst (n := 1) (nx := 31) (r1 := 0) (r2 := 0) (r3 := 0) rfl ?_
      refine wr_V (k0 := 1) (rest := []) (as := [.ref 1, vi 1]) (nx := 34) (r1 := 101) (r2 := 1) (r3 := 1) rfl rfl rfl (of_decide_eq_true rfl) rfl rfl (by decide) rfl rfl (of_decide_eq_true rfl) (of_decide_eq_true rfl) ?_
      refine ct_101_1 hcr  g 1 (by omega)  (fun h10 z11 g10 u10 (fz11 : 0 ≤ z11 ∧ z11 ≤ 0) (p10_0 : z11 = 0) (p10_1 : (h10 1 2) = 1) (p10_2 : (h10 1 3) = (h 1 6)) => ?_)
      have F12 := F0.then (by decide +kernel) u10
      have b13 := gi_b (lo := -2147483648) (hi := 2147483647) g10 1 2 rfl
      have b14 := gi_b (lo := -2147483648) (hi := 2147483647) g10 1 3 rfl
      refine wk_i ?_
      refine wi_zreturn (nx := 35) (r1 := 0) (r2 := 0) (r3 := 0) rfl rfl (by omega) ?_
      have e15 : h10 1 4 = h 1 4 := (u10 1 4 rfl)
      have b16 := gi_b (lo := 0) (hi := 2) g 68 8 rfl
      have e17 : h10 68 8 = h 68 8 := (u10 68 8 rfl)
      have b18 := gi_b (lo := 0) (hi := 40) g 68 9 rfl
      have e19 : h10 68 9 = h 68 9 := (u10 68 9 rfl)
      exact k h10 z11 g10 F12 (by omega) (show z11 = 0 ∨ z11 = 1 by omega) (by unfold sc_cmd sc_hd sc_num sc_mk; (try dsimp only); (repeat (first | rw [if_pos (by omega)] | rw [if_neg (by omega)])); (repeat ((first | unfold sc_num | unfold sc_mk); (try dsimp only); (repeat (first | rw [if_pos (by omega)] | rw [if_neg (by omega)])))); first | exact sc_Oe (by omega) (by omega) (by omega) (by omega) | ((repeat' split) <;> (first | exact sc_Oe (by omega) (by omega) (by omega) (by omega) | (exfalso; omega))))
-- method 183: Script.closeRepeat()Z
set_option maxRecDepth 100000 in
set_option maxHeartbeats 100000000 in
theorem ct_183_68 {L : Nat} {xs : Nat → Int32} {d b c : Nat} {h : hp} {cr : Nat → Nat → Option Nat} {Q : hp_Q} (hcr : CR cr)  {tB : Nat → Int} {tn tp : Int} (g : GI h)   (pp0 : h 1 4 = tk_nx tB tn tp) (pp1 : h 1 6 = tk_st tB tn tp) (pp2 : h 1 5 = tk_kd tB tn tp) (pp3 : tk_kd tB tn tp = 1 → h 1 9 = tk_wd (tk_lw tB tn tp)) (pp4 : h 1 2 = 0) (pp5 : h 1 3 = -1) (pp6 : 0 ≤ tp) (pp7 : tp ≤ tn) (pp8 : tp ≤ tk_nx tB tn tp ∧ tk_nx tB tn tp ≤ tn) (pp9 : tk_kd tB tn tp = 5) (xq0 : BufC tB tn h) (k : ∀ (h2 : hp) (z0 : Int) , GI h2 → FR [(69, 69, none), (70, 70, none), (1, 1, some (2, 2)), (1, 1, some (3, 3)), (1, 1, some (4, 4)), (1, 1, some (5, 5)), (1, 1, some (6, 6)), (1, 1, some (7, 7)), (1, 1, some (8, 8)), (1, 1, some (9, 9)), (68, 68, some (8, 8)), (68, 68, some (10, 10))] h h2 → (0 ≤ z0 ∧ z0 ≤ 1) → ((z0 = 0 ∧ h 68 8 ≤ 0 ∧ h2 1 2 = 1 ∧ h2 1 3 = tk_st tB tn tp) ∨ (z0 = 0 ∧ 1 ≤ h 68 8 ∧ tk_kd tB tn (tk_nx tB tn tp) ≠ 3 ∧ h2 1 2 = 1 ∧ h2 1 3 = tk_st tB tn (tk_nx tB tn tp)) ∨ (z0 = 1 ∧ 1 ≤ h 68 8 ∧ tk_kd tB tn (tk_nx tB tn tp) = 3 ∧ h2 1 4 = tk_nx tB tn (tk_nx tB tn tp) ∧ h2 68 8 = h 68 8 - 1 ∧ h2 68 9 = h 68 9 ∧ h2 1 2 = 0 ∧ h2 1 3 = -1)) → Q (.inl (some (vi z0))) (hp_w h2 cr) b c) : wp (md_xa (L, xs)) (d + 4) 183 (0, [(0, .ref 68)], [], hp_w h cr, b, c) Q := by
  have F0 : FR [(69, 69, none), (70, 70, none), (1, 1, some (2, 2)), (1, 1, some (3, 3)), (1, 1, some (4, 4)), (1, 1, some (5, 5)), (1, 1, some (6, 6)), (1, 1, some (7, 7)), (1, 1, some (8, 8)), (1, 1, some (9, 9)), (68, 68, some (8, 8)), (68, 68, some (10, 10))] h h := FR.refl
  have tb_1 : h 1 1 = tn := xq0.2.1
  have tb_2 : 0 ≤ tn ∧ tn ≤ 800 := xq0.2.2
  have b1 := gi_b (lo := 0) (hi := 800) g 1 4 rfl
  have b2 := gi_b (lo := 0) (hi := 800) g 1 6 rfl
  have b3 := gi_b (lo := 0) (hi := 6) g 1 5 rfl
  have b4 := gi_b (lo := 1) (hi := 21) g 1 9 rfl
  have b5 := gi_b (lo := -2147483648) (hi := 2147483647) g 1 2 rfl
  have b6 := gi_b (lo := -2147483648) (hi := 2147483647) g 1 3 rfl
  refine wi_aload_n (i := 0) (x := 68) (nx := 1) (r1 := 0) (r2 := 0) (r3 := 0) rfl rfl ?_
  have b7 := gi_b (lo := 0) (hi := 2) g 68 8 rfl
  refine wr_gi0 (k0 := 68) (x := h 68 8) (nx := 4) (r1 := 8) (r2 := 8) (r3 := 0) rfl rfl (by decide) rfl ⟨rfl, rfl⟩ rfl rfl ?_
  refine wi_if (cd := .gt) (nx := 7) (r1 := 16) (r2 := 0) (r3 := 0) rfl (by omega) (fun (q8 : 0 < (h 68 8)) => ?_) (fun (q8 : ¬ (0 < (h 68 8))) => ?_)
  ·
    refine wi_aload_n (i := 0) (x := 68) (nx := 17) (r1 := 0) (r2 := 0) (r3 := 0) rfl rfl ?_
    refine wi_dup (nx := 18) (r1 := 0) (r2 := 0) (r3 := 0) rfl rfl ?_
    refine wr_gi0 (k0 := 68) (x := h 68 8) (nx := 21) (r1 := 8) (r2 := 8) (r3 := 0) rfl rfl (by decide) rfl ⟨rfl, rfl⟩ rfl rfl ?_
    refine wi_iconst (n := 1) (nx := 22) (r1 := 0) (r2 := 0) (r3 := 0) rfl ?_
    refine wr_sub (nx := 23) (r1 := 0) (r2 := 0) (r3 := 0) rfl (fun e9 (fe9 : e9 = (h 68 8) - 1) => ?_)
    refine wr_pf0 (k0 := 68) (x := e9) (bl := 0) (bh := 2) (nx := 26) (r1 := 8) (r2 := 8) (r3 := 0) rfl (by decide) rfl ⟨rfl, rfl⟩ rfl rfl g rfl (by omega) (fun h10 g10 w10 u10 => ?_)
    have F11 := F0.then rfl u10
    refine wi_aload_n (i := 0) (x := 68) (nx := 27) (r1 := 0) (r2 := 0) (r3 := 0) rfl rfl ?_
    refine wr_gst (v := wv 21) (nx := 30) (r1 := 20) (r2 := 0) (r3 := 0) rfl rfl rfl ?_
    refine wi_aload_n (i := 0) (x := 68) (nx := 31) (r1 := 0) (r2 := 0) (r3 := 0) rfl rfl ?_
    refine wr_gr (k0 := 68) (x := 72) (nx := 34) (r1 := 8) (r2 := 7) (r3 := 0) rfl rfl (by decide) rfl ⟨rfl, rfl⟩ rfl ?_
    refine wi_aload_n (i := 0) (x := 68) (nx := 35) (r1 := 0) (r2 := 0) (r3 := 0) rfl rfl ?_
    refine wr_gi0 (k0 := 68) (x := e9) (nx := 38) (r1 := 8) (r2 := 8) (r3 := 0) rfl rfl (by decide) rfl ⟨rfl, rfl⟩ rfl w10 ?_
    obtain ⟨i12, ei12⟩ : ∃ q : Nat, e9 = (q : Int) := ⟨(e9).toNat, by omega⟩
    have b13 := gi_b (lo := -2147483648) (hi := 2147483647) g 72 i12 rfl
    refine wr_ia (k0 := 72) (a := e9) (f := i12) (x := h 72 i12) (nx := 39) (r1 := 0) (r2 := 0) (r3 := 0) rfl (by decide) rfl (by omega) (by omega) (by decide) (u10 72 i12 (fn_a (by omega) fn_0)) ?_
    refine wr_V (k0 := 68) (rest := []) (as := [.ref 68, wv 21, vi (h 72 i12)]) (nx := 42) (r1 := 184) (r2 := 2) (r3 := 8) rfl rfl rfl (of_decide_eq_true rfl) rfl rfl (by decide) rfl rfl (of_decide_eq_true rfl) (of_decide_eq_true rfl) ?_
    refine ct_184_68 hcr  g10 21 (h 72 i12) (by omega) (by omega)  (fun h14 g14 u14 => ?_)
    have F15 := F11.then (by decide +kernel) u14
    refine wk_n ?_
    refine wi_aload_n (i := 0) (x := 68) (nx := 43) (r1 := 0) (r2 := 0) (r3 := 0) rfl rfl ?_
    refine wr_gr (k0 := 68) (x := 1) (nx := 46) (r1 := 8) (r2 := 0) (r3 := 0) rfl rfl (by decide) rfl ⟨rfl, rfl⟩ rfl ?_
    refine wr_V (k0 := 1) (rest := []) (as := [.ref 1]) (nx := 49) (r1 := 105) (r2 := 0) (r3 := 1) rfl rfl rfl (of_decide_eq_true rfl) rfl rfl (by decide) rfl rfl (of_decide_eq_true rfl) (of_decide_eq_true rfl) ?_
    have e17 : h14 1 4 = h 1 4 := ((u14 1 4 rfl).trans (u10 1 4 rfl))
    have tb19 := BufC.fr u10 rfl xq0
    have tb20 := BufC.fr u14 rfl tb19
    refine ct_105_1 hcr  g14   (show (h14 1 4) = (tk_nx tB tn tp) by omega) (show 0 ≤ (tk_nx tB tn tp) by omega) (show (tk_nx tB tn tp) ≤ tn by omega) tb20 (fun h16 z18 g16 u16 (fz18 : 0 ≤ z18 ∧ z18 ≤ 1) (p16_0 : (z18 = 1 ∧ tk_kd tB tn (tk_nx tB tn tp) = 3 ∧ (h16 1 4) = tk_nx tB tn (tk_nx tB tn tp) ∧ (h16 1 2) = (h14 1 2) ∧ (h16 1 3) = (h14 1 3)) ∨ (z18 = 0 ∧ tk_kd tB tn (tk_nx tB tn tp) ≠ 3 ∧ (h16 1 2) = 1 ∧ (h16 1 3) = tk_st tB tn (tk_nx tB tn tp))) => ?_)
    have F21 := F15.then (by decide +kernel) u16
    have e22 : h14 1 2 = h 1 2 := ((u14 1 2 rfl).trans (u10 1 2 rfl))
    have e23 : h14 1 3 = h 1 3 := ((u14 1 3 rfl).trans (u10 1 3 rfl))
    have b24 := gi_b (lo := 0) (hi := 800) g16 1 4 rfl
    have b25 := gi_b (lo := -2147483648) (hi := 2147483647) g16 1 2 rfl
    have b26 := gi_b (lo := -2147483648) (hi := 2147483647) g16 1 3 rfl
    have tN27 := @tk_nx_b tB tn (tk_nx tB tn tp) (by omega) (by omega)
    refine wk_i ?_
    refine wi_zreturn (nx := 50) (r1 := 0) (r2 := 0) (r3 := 0) rfl rfl (by omega) ?_
    have e28 : h16 68 8 = e9 := ((u16 68 8 rfl).trans ((u14 68 8 rfl).trans w10))
    have b29 := gi_b (lo := 0) (hi := 40) g 68 9 rfl
    have e30 : h16 68 9 = h 68 9 := ((u16 68 9 rfl).trans ((u14 68 9 rfl).trans (u10 68 9 rfl)))
    exact k h16 z18 g16 F21 (by omega) (show (z18 = 0 ∧ (h 68 8) ≤ 0 ∧ (h16 1 2) = 1 ∧ (h16 1 3) = tk_st tB tn tp) ∨ (z18 = 0 ∧ 1 ≤ (h 68 8) ∧ tk_kd tB tn (tk_nx tB tn tp) ≠ 3 ∧ (h16 1 2) = 1 ∧ (h16 1 3) = tk_st tB tn (tk_nx tB tn tp)) ∨ (z18 = 1 ∧ 1 ≤ (h 68 8) ∧ tk_kd tB tn (tk_nx tB tn tp) = 3 ∧ (h16 1 4) = tk_nx tB tn (tk_nx tB tn tp) ∧ (h16 68 8) = (h 68 8) - 1 ∧ (h16 68 9) = (h 68 9) ∧ (h16 1 2) = 0 ∧ (h16 1 3) = -1) by omega)
  ·
    refine wi_aload_n (i := 0) (x := 68) (nx := 8) (r1 := 0) (r2 := 0) (r3 := 0) rfl rfl ?_
    refine wr_gr (k0 := 68) (x := 1) (nx := 11) (r1 := 8) (r2 := 0) (r3 := 0) rfl rfl (by decide) rfl ⟨rfl, rfl⟩ rfl ?_
    refine wi_iconst (n := 1) (nx := 12) (r1 := 0) (r2 := 0) (r3 := 0) rfl ?_
    refine wr_V (k0 := 1) (rest := []) (as := [.ref 1, vi 1]) (nx := 15) (r1 := 101) (r2 := 1) (r3 := 1) rfl rfl rfl (of_decide_eq_true rfl) rfl rfl (by decide) rfl rfl (of_decide_eq_true rfl) (of_decide_eq_true rfl) ?_
    refine ct_101_1 hcr  g 1 (by omega)  (fun h9 z10 g9 u9 (fz10 : 0 ≤ z10 ∧ z10 ≤ 0) (p9_0 : z10 = 0) (p9_1 : (h9 1 2) = 1) (p9_2 : (h9 1 3) = (h 1 6)) => ?_)
    have F11 := F0.then (by decide +kernel) u9
    have b12 := gi_b (lo := -2147483648) (hi := 2147483647) g9 1 2 rfl
    have b13 := gi_b (lo := -2147483648) (hi := 2147483647) g9 1 3 rfl
    refine wk_i ?_
    refine wi_zreturn (nx := 16) (r1 := 0) (r2 := 0) (r3 := 0) rfl rfl (by omega) ?_
    have e14 : h9 1 4 = h 1 4 := (u9 1 4 rfl)
    have e15 : h9 68 8 = h 68 8 := (u9 68 8 rfl)
    have b16 := gi_b (lo := 0) (hi := 40) g 68 9 rfl
    have e17 : h9 68 9 = h 68 9 := (u9 68 9 rfl)
    exact k h9 z10 g9 F11 (by omega) (show (z10 = 0 ∧ (h 68 8) ≤ 0 ∧ (h9 1 2) = 1 ∧ (h9 1 3) = tk_st tB tn tp) ∨ (z10 = 0 ∧ 1 ≤ (h 68 8) ∧ tk_kd tB tn (tk_nx tB tn tp) ≠ 3 ∧ (h9 1 2) = 1 ∧ (h9 1 3) = tk_st tB tn (tk_nx tB tn tp)) ∨ (z10 = 1 ∧ 1 ≤ (h 68 8) ∧ tk_kd tB tn (tk_nx tB tn tp) = 3 ∧ (h9 1 4) = tk_nx tB tn (tk_nx tB tn tp) ∧ (h9 68 8) = (h 68 8) - 1 ∧ (h9 68 9) = (h 68 9) ∧ (h9 1 2) = 0 ∧ (h9 1 3) = -1) by omega)
-- method 182: Script.readAll()Z
set_option maxRecDepth 100000 in
set_option maxHeartbeats 100000000 in
theorem ct_182_68 {L : Nat} {xs : Nat → Int32} {d b c : Nat} {h : hp} {cr : Nat → Nat → Option Nat} {Q : hp_Q} (hcr : CR cr)  {tB : Nat → Int} {tn  : Int} (g : GI h)    (xq0 : BufC tB tn h) (k : ∀ (h2 : hp) (z0 : Int) , GI h2 → FR [(69, 69, none), (70, 70, none), (72, 72, none), (1, 1, some (2, 2)), (1, 1, some (3, 3)), (1, 1, some (4, 4)), (1, 1, some (5, 5)), (1, 1, some (6, 6)), (1, 1, some (7, 7)), (1, 1, some (8, 8)), (1, 1, some (9, 9)), (68, 68, some (8, 8)), (68, 68, some (9, 9)), (68, 68, some (10, 10))] h h2 → (0 ≤ z0 ∧ z0 ≤ 1) → ((z0 = 1 ∧ sc_ec tB tn = 0) ∨ (z0 = 0 ∧ 1 ≤ sc_ec tB tn)) → (h2 1 2 = sc_ec tB tn) → (h2 1 3 = sc_ep tB tn) → Q (.inl (some (vi z0))) (hp_w h2 cr) b c) : wp (md_xa (L, xs)) (d + 5) 182 (0, [(0, .ref 68)], [], hp_w h cr, b, c) Q := by
  have F0 : FR [(69, 69, none), (70, 70, none), (72, 72, none), (1, 1, some (2, 2)), (1, 1, some (3, 3)), (1, 1, some (4, 4)), (1, 1, some (5, 5)), (1, 1, some (6, 6)), (1, 1, some (7, 7)), (1, 1, some (8, 8)), (1, 1, some (9, 9)), (68, 68, some (8, 8)), (68, 68, some (9, 9)), (68, 68, some (10, 10))] h h := FR.refl
  have tb_1 : h 1 1 = tn := xq0.2.1
  have tb_2 : 0 ≤ tn ∧ tn ≤ 800 := xq0.2.2
  refine wi_aload_n (i := 0) (x := 68) (nx := 1) (r1 := 0) (r2 := 0) (r3 := 0) rfl rfl ?_
  refine wr_gr (k0 := 68) (x := 1) (nx := 4) (r1 := 8) (r2 := 0) (r3 := 0) rfl rfl (by decide) rfl ⟨rfl, rfl⟩ rfl ?_
  refine wr_V (k0 := 1) (rest := []) (as := [.ref 1]) (nx := 7) (r1 := 93) (r2 := 0) (r3 := 1) rfl rfl rfl (of_decide_eq_true rfl) rfl rfl (by decide) rfl rfl (of_decide_eq_true rfl) (of_decide_eq_true rfl) ?_
  refine ct_93_1 hcr  g    (fun h1 g1 u1 (p1_0 : (h1 1 4) = 0) (p1_1 : (h1 1 2) = 0) (p1_2 : (h1 1 3) = -1) => ?_)
  have F2 := F0.then (by decide +kernel) u1
  have b3 := gi_b (lo := 0) (hi := 800) g1 1 4 rfl
  have b4 := gi_b (lo := -2147483648) (hi := 2147483647) g1 1 2 rfl
  have b5 := gi_b (lo := -2147483648) (hi := 2147483647) g1 1 3 rfl
  refine wk_n ?_
  refine wi_aload_n (i := 0) (x := 68) (nx := 8) (r1 := 0) (r2 := 0) (r3 := 0) rfl rfl ?_
  refine wi_iconst (n := 0) (nx := 9) (r1 := 0) (r2 := 0) (r3 := 0) rfl ?_
  refine wr_pf0 (k0 := 68) (x := 0) (bl := 0) (bh := 2) (nx := 12) (r1 := 8) (r2 := 8) (r3 := 0) rfl (by decide) rfl ⟨rfl, rfl⟩ rfl rfl g1 rfl (by omega) (fun h6 g6 w6 u6 => ?_)
  have F7 := F2.then rfl u6
  refine wi_aload_n (i := 0) (x := 68) (nx := 13) (r1 := 0) (r2 := 0) (r3 := 0) rfl rfl ?_
  refine wi_iconst (n := 0) (nx := 14) (r1 := 0) (r2 := 0) (r3 := 0) rfl ?_
  refine wr_pf0 (k0 := 68) (x := 0) (bl := 0) (bh := 40) (nx := 17) (r1 := 8) (r2 := 9) (r3 := 0) rfl (by decide) rfl ⟨rfl, rfl⟩ rfl rfl g6 rfl (by omega) (fun h8 g8 w8 u8 => ?_)
  have F9 := F7.then rfl u8
  refine wi_aload_n (i := 0) (x := 68) (nx := 18) (r1 := 0) (r2 := 0) (r3 := 0) rfl rfl ?_
  refine wi_iconst (n := 0) (nx := 19) (r1 := 0) (r2 := 0) (r3 := 0) rfl ?_
  refine wr_pf0 (k0 := 68) (x := 0) (bl := 0) (bh := 80) (nx := 22) (r1 := 8) (r2 := 10) (r3 := 0) rfl (by decide) rfl ⟨rfl, rfl⟩ rfl rfl g8 rfl (by omega) (fun h10 g10 w10 u10 => ?_)
  have F11 := F9.then rfl u10
  refine wi_iconst (n := 0) (nx := 23) (r1 := 0) (r2 := 0) (r3 := 0) rfl ?_
  refine wi_istore_n (i := 1) (e := 0) (lo2 := [(1, vi 0), (0, .ref 68)]) (nx := 24) (r1 := 0) (r2 := 0) (r3 := 0) rfl rfl ?_
  have e14 : h10 1 4 = h1 1 4 := ((u10 1 4 rfl).trans ((u8 1 4 rfl).trans (u6 1 4 rfl)))
  have e15 : h10 68 8 = 0 := ((u10 68 8 rfl).trans ((u8 68 8 rfl).trans w6))
  have e16 : h10 68 9 = 0 := ((u10 68 9 rfl).trans w8)
  have e17 : h10 1 2 = h1 1 2 := ((u10 1 2 rfl).trans ((u8 1 2 rfl).trans (u6 1 2 rfl)))
  have e18 : h10 1 3 = h1 1 3 := ((u10 1 3 rfl).trans ((u8 1 3 rfl).trans (u6 1 3 rfl)))
  have b19 := gi_b (lo := 0) (hi := 800) g 1 1 rfl
  have e20 : h10 1 1 = h 1 1 := ((u10 1 1 rfl).trans ((u8 1 1 rfl).trans ((u6 1 1 rfl).trans (u1 1 1 rfl))))
  refine wp.lo (lo := [(0, .ref 68), (1, vi 0)]) ⟨rfl, rfl, trivial⟩ rfl ?_
  refine wl_1 (fun x12 h13 => GI h13 ∧ FR [(69, 69, none), (70, 70, none), (72, 72, none), (1, 1, some (2, 2)), (1, 1, some (3, 3)), (1, 1, some (4, 4)), (1, 1, some (5, 5)), (1, 1, some (6, 6)), (1, 1, some (7, 7)), (1, 1, some (8, 8)), (1, 1, some (9, 9)), (68, 68, some (8, 8)), (68, 68, some (9, 9)), (68, 68, some (10, 10))] h h13 ∧ FR [(69, 69, none), (70, 70, none), (72, 72, none), (1, 1, some (2, 2)), (1, 1, some (3, 3)), (1, 1, some (4, 4)), (1, 1, some (5, 5)), (1, 1, some (6, 6)), (1, 1, some (7, 7)), (1, 1, some (8, 8)), (1, 1, some (9, 9)), (68, 68, some (8, 8)), (68, 68, some (9, 9)), (68, 68, some (10, 10))] h10 h13 ∧ ((0 ≤ x12 ∧ x12 ≤ 801) ∧ ((h13 1 2) = 0) ∧ ((h13 1 3) = -1) ∧ ((h13 1 4) ≤ (h13 1 1)) ∧ (x12 ≤ (h13 1 4))) ∧ (∃ f : Nat, 801 - h13 1 4 ≤ (f : Int) ∧ sc_run tB tn f (h13 1 4) (h13 68 8) (h13 68 9) = sc_RES tB tn)) (fun x12 h13 => ((801 : Int) + 1 - x12).toNat) (fun x12 h13 => (24, [(0, .ref 68), (1, vi x12)], [], hp_w h13 cr, b, c)) ?_ 0 h10 ⟨g10, F11, FR.refl, (show (0 ≤ 0 ∧ 0 ≤ 801) ∧ ((h10 1 2) = 0) ∧ ((h10 1 3) = -1) ∧ ((h10 1 4) ≤ (h10 1 1)) ∧ (0 ≤ (h10 1 4)) by omega), ⟨801, by omega, by rw [show h10 1 4 = 0 by omega, show h10 68 8 = 0 by omega, show h10 68 9 = 0 by omega]; rfl⟩⟩
  intro x12 h13 ⟨g13, F21, u13, f13, X13_0⟩ I13
  have b22 := gi_b (lo := -2147483648) (hi := 2147483647) g13 1 2 rfl
  have b23 := gi_b (lo := -2147483648) (hi := 2147483647) g13 1 3 rfl
  have b24 := gi_b (lo := 0) (hi := 800) g13 1 4 rfl
  have e25 : h13 1 1 = h 1 1 := ((u13 1 1 rfl).trans ((u10 1 1 rfl).trans ((u8 1 1 rfl).trans ((u6 1 1 rfl).trans (u1 1 1 rfl)))))
  have b26 := gi_b (lo := 0) (hi := 2) g13 68 8 rfl
  have b27 := gi_b (lo := 0) (hi := 40) g13 68 9 rfl
  obtain ⟨f13_, fa13, fr13⟩ := X13_0
  obtain ⟨kf13, rfl⟩ : ∃ k, f13_ = k + 1 := ⟨f13_ - 1, by omega⟩
  refine wi_iload_n (i := 1) (e := x12) (nx := 25) (r1 := 0) (r2 := 0) (r3 := 0) rfl rfl ?_
  refine wi_sipush (n := 800) (nx := 28) (r1 := 0) (r2 := 0) (r3 := 0) rfl (by decide) ?_
  refine wi_icmp (cd := .gt) (nx := 31) (r1 := 107) (r2 := 0) (r3 := 0) rfl (by omega) (by omega) (fun (q28 : 800 < x12) => by exfalso; omega) (fun (q28 : ¬ (800 < x12)) => ?_)
  refine wi_aload_n (i := 0) (x := 68) (nx := 32) (r1 := 0) (r2 := 0) (r3 := 0) rfl rfl ?_
  refine wr_gr (k0 := 68) (x := 1) (nx := 35) (r1 := 8) (r2 := 0) (r3 := 0) rfl rfl (by decide) rfl ⟨rfl, rfl⟩ rfl ?_
  refine wr_V (k0 := 1) (rest := []) (as := [.ref 1]) (nx := 38) (r1 := 94) (r2 := 0) (r3 := 1) rfl rfl rfl (of_decide_eq_true rfl) rfl rfl (by decide) rfl rfl (of_decide_eq_true rfl) (of_decide_eq_true rfl) ?_
  have tb30 := BufC.fr u1 rfl xq0
  have tb31 := BufC.fr u6 rfl tb30
  have tb32 := BufC.fr u8 rfl tb31
  have tb33 := BufC.fr u10 rfl tb32
  have tb34 := BufC.fr u13 rfl tb33
  refine ct_94_1 hcr  g13   (show (h13 1 4) = (h13 1 4) by omega) (show 0 ≤ (h13 1 4) by omega) (show (h13 1 4) ≤ tn by omega) tb34 (fun h29 g29 u29 (p29_0 : (h29 1 4) = tk_nx tB tn (h13 1 4)) (p29_1 : (h29 1 5) = tk_kd tB tn (h13 1 4)) (p29_2 : (h29 1 6) = tk_st tB tn (h13 1 4)) (p29_3 : tk_kd tB tn (h13 1 4) = 1 → ((h29 1 8) = tk_lw tB tn (h13 1 4) ∧ (h29 1 9) = tk_wd (tk_lw tB tn (h13 1 4)))) (p29_4 : tk_kd tB tn (h13 1 4) = 2 → (h29 1 7) = tk_nb tB tn (h13 1 4)) => ?_)
  have F35 := F21.then (by decide +kernel) u29
  have F36 := u13.then (by decide +kernel) u29
  have b37 := gi_b (lo := 0) (hi := 800) g29 1 4 rfl
  have b38 := gi_b (lo := 0) (hi := 6) g29 1 5 rfl
  have b39 := gi_b (lo := 0) (hi := 800) g29 1 6 rfl
  have b40 := gi_b (lo := -9223372036854775808) (hi := 9223372036854775807) g29 1 8 rfl
  have b41 := gi_b (lo := 1) (hi := 21) g29 1 9 rfl
  have b42 := gi_b (lo := -2147483648) (hi := 2147483647) g29 1 7 rfl
  have tN43 := @tk_nx_b tB tn (h13 1 4) (by omega) (by omega)
  refine wk_n ?_
  refine wi_aload_n (i := 0) (x := 68) (nx := 39) (r1 := 0) (r2 := 0) (r3 := 0) rfl rfl ?_
  refine wr_gr (k0 := 68) (x := 1) (nx := 42) (r1 := 8) (r2 := 0) (r3 := 0) rfl rfl (by decide) rfl ⟨rfl, rfl⟩ rfl ?_
  refine wr_gi0 (k0 := 1) (x := h29 1 5) (nx := 45) (r1 := 1) (r2 := 5) (r3 := 0) rfl rfl (by decide) rfl ⟨rfl, rfl⟩ rfl rfl ?_
  refine wi_if (cd := .ne) (nx := 48) (r1 := 72) (r2 := 0) (r3 := 0) rfl (by omega) (fun (q44 : (h29 1 5) ≠ 0) => ?_) (fun (q44 : ¬ ((h29 1 5) ≠ 0)) => ?_)
  ·
    refine wi_aload_n (i := 0) (x := 68) (nx := 73) (r1 := 0) (r2 := 0) (r3 := 0) rfl rfl ?_
    refine wr_gr (k0 := 68) (x := 1) (nx := 76) (r1 := 8) (r2 := 0) (r3 := 0) rfl rfl (by decide) rfl ⟨rfl, rfl⟩ rfl ?_
    refine wr_gi0 (k0 := 1) (x := h29 1 5) (nx := 79) (r1 := 1) (r2 := 5) (r3 := 0) rfl rfl (by decide) rfl ⟨rfl, rfl⟩ rfl rfl ?_
    refine wi_iconst (n := 5) (nx := 80) (r1 := 0) (r2 := 0) (r3 := 0) rfl ?_
    refine wi_icmp (cd := .ne) (nx := 83) (r1 := 90) (r2 := 0) (r3 := 0) rfl (by omega) (by omega) (fun (q45 : (h29 1 5) ≠ 5) => ?_) (fun (q45 : ¬ ((h29 1 5) ≠ 5)) => ?_)
    ·
      refine wi_aload_n (i := 0) (x := 68) (nx := 91) (r1 := 0) (r2 := 0) (r3 := 0) rfl rfl ?_
      refine wr_V (k0 := 68) (rest := []) (as := [.ref 68]) (nx := 94) (r1 := 185) (r2 := 0) (r3 := 8) rfl rfl rfl (of_decide_eq_true rfl) rfl rfl (by decide) rfl rfl (of_decide_eq_true rfl) (of_decide_eq_true rfl) ?_
      have e47 : h29 1 2 = h13 1 2 := (u29 1 2 rfl)
      have e48 : h29 1 3 = h13 1 3 := (u29 1 3 rfl)
      have tb50 := BufC.fr u29 rfl tb34
      refine ct_185_68 hcr  g29   (show (h29 1 4) = tk_nx tB tn (h13 1 4) by omega) (show (h29 1 6) = tk_st tB tn (h13 1 4) by omega) (show (h29 1 5) = tk_kd tB tn (h13 1 4) by omega) (show tk_kd tB tn (h13 1 4) = 1 → (h29 1 9) = tk_wd (tk_lw tB tn (h13 1 4)) by omega) (show (h29 1 2) = 0 by omega) (show (h29 1 3) = -1 by omega) (show 0 ≤ (h13 1 4) by omega) (show (h13 1 4) ≤ tn by omega) (show (h13 1 4) ≤ tk_nx tB tn (h13 1 4) ∧ tk_nx tB tn (h13 1 4) ≤ tn by omega) (show tk_kd tB tn (h13 1 4) ≠ 0 by omega) tb50 (fun h46 z49 g46 u46 (fz49 : 0 ≤ z49 ∧ z49 ≤ 1) (p46_0 : z49 = 0 ∨ z49 = 1) y46_0 => ?_)
      have F51 := F35.then (by decide +kernel) u46
      have F52 := F36.then (by decide +kernel) u46
      refine wk_i ?_
      rcases p46_0 with p46_0 | p46_0
      ·
        have e54 : h29 68 8 = h13 68 8 := (u29 68 8 rfl)
        have e55 : h29 68 9 = h13 68 9 := (u29 68 9 rfl)
        obtain ⟨cq53, q53, eqq53, eaq53, ebq53, ecq53⟩ := sc_Of y46_0 (by omega)
        rw [show h29 68 8 = h13 68 8 by omega, show h29 68 9 = h13 68 9 by omega] at eqq53
        refine wi_istore_n (i := 2) (e := z49) (lo2 := [(2, vi z49), (0, .ref 68), (1, vi x12)]) (nx := 95) (r1 := 0) (r2 := 0) (r3 := 0) rfl rfl ?_
        refine wi_iload_n (i := 2) (e := z49) (nx := 96) (r1 := 0) (r2 := 0) (r3 := 0) rfl rfl ?_
        refine wi_if (cd := .ne) (nx := 99) (r1 := 101) (r2 := 0) (r3 := 0) rfl (by omega) (fun (q56 : z49 ≠ 0) => by exfalso; omega) (fun (q56 : ¬ (z49 ≠ 0)) => ?_)
        refine wi_iconst (n := 0) (nx := 100) (r1 := 0) (r2 := 0) (r3 := 0) rfl ?_
        refine wi_zreturn (nx := 101) (r1 := 0) (r2 := 0) (r3 := 0) rfl rfl (by omega) ?_
        have b58 := gi_b (lo := -2147483648) (hi := 2147483647) g46 1 2 rfl
        have b59 := gi_b (lo := -2147483648) (hi := 2147483647) g46 1 3 rfl
        have RE57 := sc_REq (fr13.symm.trans (sc_m1 (by omega) (by omega) eqq53))
        exact k h46 0 g46 F51 (by omega) (show (0 = 1 ∧ sc_ec tB tn = 0) ∨ (0 = 0 ∧ 1 ≤ sc_ec tB tn) by omega) (show (h46 1 2) = sc_ec tB tn by omega) (show (h46 1 3) = sc_ep tB tn by omega)
      ·
        have e54 : h29 68 8 = h13 68 8 := (u29 68 8 rfl)
        have e55 : h29 68 9 = h13 68 9 := (u29 68 9 rfl)
        obtain ⟨q53, oq53, mq53, eqq53, eaq53, ebq53, ecq53, edq53, eeq53⟩ := sc_Ot y46_0 (by omega)
        rw [show h29 68 8 = h13 68 8 by omega, show h29 68 9 = h13 68 9 by omega] at eqq53
        have loq53 := sc_cmdB (by omega) (by omega) q53 oq53 mq53 eqq53
        refine wi_istore_n (i := 2) (e := z49) (lo2 := [(2, vi z49), (0, .ref 68), (1, vi x12)]) (nx := 95) (r1 := 0) (r2 := 0) (r3 := 0) rfl rfl ?_
        refine wi_iload_n (i := 2) (e := z49) (nx := 96) (r1 := 0) (r2 := 0) (r3 := 0) rfl rfl ?_
        refine wi_if (cd := .ne) (nx := 99) (r1 := 101) (r2 := 0) (r3 := 0) rfl (by omega) (fun (q56 : z49 ≠ 0) => ?_) (fun (q56 : ¬ (z49 ≠ 0)) => by exfalso; omega)
        refine wr_iinc (i := 1) (n := 1) (v := x12) (fun e57 => [(1, vi e57), (2, vi z49), (0, .ref 68)]) (nx := 104) (r1 := 0) (r2 := 0) (r3 := 0) rfl rfl (fun _ => rfl) (fun e57 (fe57 : e57 = x12 + 1) => ?_)
        refine wi_goto (nx := 107) (r1 := 24) (r2 := 0) (r3 := 0) rfl ?_
        have b58 := gi_b (lo := -2147483648) (hi := 2147483647) g46 1 2 rfl
        have b59 := gi_b (lo := -2147483648) (hi := 2147483647) g46 1 3 rfl
        have b60 := gi_b (lo := 0) (hi := 800) g46 1 4 rfl
        have e61 : h46 1 1 = h 1 1 := ((u46 1 1 rfl).trans ((u29 1 1 rfl).trans ((u13 1 1 rfl).trans ((u10 1 1 rfl).trans ((u8 1 1 rfl).trans ((u6 1 1 rfl).trans (u1 1 1 rfl)))))))
        refine wp.lo (lo := [(0, .ref 68), (1, vi e57)]) ⟨rfl, rfl, trivial⟩ rfl ?_
        have b62 := gi_b (lo := 0) (hi := 2) g46 68 8 rfl
        have b63 := gi_b (lo := 0) (hi := 40) g46 68 9 rfl
        exact I13 e57 h46 ⟨g46, F51, F52, (show (0 ≤ e57 ∧ e57 ≤ 801) ∧ ((h46 1 2) = 0) ∧ ((h46 1 3) = -1) ∧ ((h46 1 4) ≤ (h46 1 1)) ∧ (e57 ≤ (h46 1 4)) by omega), ⟨kf13, by omega, by rw [show h46 1 4 = q53 by omega, show h46 68 8 = oq53 by omega, show h46 68 9 = mq53 by omega]; exact (sc_m2 (by omega) (by omega) eqq53).symm.trans fr13⟩⟩ (show ((801 : Int) + 1 - e57).toNat < ((801 : Int) + 1 - x12).toNat by omega)
    ·
      refine wi_aload_n (i := 0) (x := 68) (nx := 84) (r1 := 0) (r2 := 0) (r3 := 0) rfl rfl ?_
      refine wr_V (k0 := 68) (rest := []) (as := [.ref 68]) (nx := 87) (r1 := 183) (r2 := 0) (r3 := 8) rfl rfl rfl (of_decide_eq_true rfl) rfl rfl (by decide) rfl rfl (of_decide_eq_true rfl) (of_decide_eq_true rfl) ?_
      have e47 : h29 1 2 = h13 1 2 := (u29 1 2 rfl)
      have e48 : h29 1 3 = h13 1 3 := (u29 1 3 rfl)
      have tb50 := BufC.fr u29 rfl tb34
      refine ct_183_68 hcr  g29   (show (h29 1 4) = tk_nx tB tn (h13 1 4) by omega) (show (h29 1 6) = tk_st tB tn (h13 1 4) by omega) (show (h29 1 5) = tk_kd tB tn (h13 1 4) by omega) (show tk_kd tB tn (h13 1 4) = 1 → (h29 1 9) = tk_wd (tk_lw tB tn (h13 1 4)) by omega) (show (h29 1 2) = 0 by omega) (show (h29 1 3) = -1 by omega) (show 0 ≤ (h13 1 4) by omega) (show (h13 1 4) ≤ tn by omega) (show (h13 1 4) ≤ tk_nx tB tn (h13 1 4) ∧ tk_nx tB tn (h13 1 4) ≤ tn by omega) (show tk_kd tB tn (h13 1 4) = 5 by omega) tb50 (fun h46 z49 g46 u46 (fz49 : 0 ≤ z49 ∧ z49 ≤ 1) (p46_0 : (z49 = 0 ∧ (h29 68 8) ≤ 0 ∧ (h46 1 2) = 1 ∧ (h46 1 3) = tk_st tB tn (h13 1 4)) ∨ (z49 = 0 ∧ 1 ≤ (h29 68 8) ∧ tk_kd tB tn (tk_nx tB tn (h13 1 4)) ≠ 3 ∧ (h46 1 2) = 1 ∧ (h46 1 3) = tk_st tB tn (tk_nx tB tn (h13 1 4))) ∨ (z49 = 1 ∧ 1 ≤ (h29 68 8) ∧ tk_kd tB tn (tk_nx tB tn (h13 1 4)) = 3 ∧ (h46 1 4) = tk_nx tB tn (tk_nx tB tn (h13 1 4)) ∧ (h46 68 8) = (h29 68 8) - 1 ∧ (h46 68 9) = (h29 68 9) ∧ (h46 1 2) = 0 ∧ (h46 1 3) = -1)) => ?_)
      have F51 := F35.then (by decide +kernel) u46
      have F52 := F36.then (by decide +kernel) u46
      have e53 : h29 68 8 = h13 68 8 := (u29 68 8 rfl)
      have e54 : h29 68 9 = h13 68 9 := (u29 68 9 rfl)
      have b55 := gi_b (lo := -2147483648) (hi := 2147483647) g46 1 2 rfl
      have b56 := gi_b (lo := -2147483648) (hi := 2147483647) g46 1 3 rfl
      have b57 := gi_b (lo := 0) (hi := 800) g46 1 4 rfl
      have b58 := gi_b (lo := 0) (hi := 2) g46 68 8 rfl
      have e59 : h46 68 9 = h13 68 9 := ((u46 68 9 rfl).trans (u29 68 9 rfl))
      refine wk_i ?_
      rcases p46_0 with p46_0 | p46_0 | p46_0
      ·
        refine wi_goto (nx := 90) (r1 := 94) (r2 := 0) (r3 := 0) rfl ?_
        refine wi_istore_n (i := 2) (e := z49) (lo2 := [(2, vi z49), (0, .ref 68), (1, vi x12)]) (nx := 95) (r1 := 0) (r2 := 0) (r3 := 0) rfl rfl ?_
        refine wi_iload_n (i := 2) (e := z49) (nx := 96) (r1 := 0) (r2 := 0) (r3 := 0) rfl rfl ?_
        refine wi_if (cd := .ne) (nx := 99) (r1 := 101) (r2 := 0) (r3 := 0) rfl (by omega) (fun (q60 : z49 ≠ 0) => by exfalso; omega) (fun (q60 : ¬ (z49 ≠ 0)) => ?_)
        refine wi_iconst (n := 0) (nx := 100) (r1 := 0) (r2 := 0) (r3 := 0) rfl ?_
        refine wi_zreturn (nx := 101) (r1 := 0) (r2 := 0) (r3 := 0) rfl rfl (by omega) ?_
        have RE61 := sc_REq (fr13.symm.trans (sc_m1 (e := (1, tk_st tB tn (h13 1 4))) (by omega) (by omega) (by unfold sc_cmd sc_hd sc_num sc_mk; (repeat (first | rw [if_pos (by omega)] | rw [if_neg (by omega)])))))
        exact k h46 0 g46 F51 (by omega) (show (0 = 1 ∧ sc_ec tB tn = 0) ∨ (0 = 0 ∧ 1 ≤ sc_ec tB tn) by omega) (show (h46 1 2) = sc_ec tB tn by omega) (show (h46 1 3) = sc_ep tB tn by omega)
      ·
        have tN60 := @tk_nx_b tB tn (tk_nx tB tn (h13 1 4)) (by omega) (by omega)
        refine wi_goto (nx := 90) (r1 := 94) (r2 := 0) (r3 := 0) rfl ?_
        refine wi_istore_n (i := 2) (e := z49) (lo2 := [(2, vi z49), (0, .ref 68), (1, vi x12)]) (nx := 95) (r1 := 0) (r2 := 0) (r3 := 0) rfl rfl ?_
        refine wi_iload_n (i := 2) (e := z49) (nx := 96) (r1 := 0) (r2 := 0) (r3 := 0) rfl rfl ?_
        refine wi_if (cd := .ne) (nx := 99) (r1 := 101) (r2 := 0) (r3 := 0) rfl (by omega) (fun (q61 : z49 ≠ 0) => by exfalso; omega) (fun (q61 : ¬ (z49 ≠ 0)) => ?_)
        refine wi_iconst (n := 0) (nx := 100) (r1 := 0) (r2 := 0) (r3 := 0) rfl ?_
        refine wi_zreturn (nx := 101) (r1 := 0) (r2 := 0) (r3 := 0) rfl rfl (by omega) ?_
        have RE62 := sc_REq (fr13.symm.trans (sc_clx (by omega) (by omega) (by omega)))
        exact k h46 0 g46 F51 (by omega) (show (0 = 1 ∧ sc_ec tB tn = 0) ∨ (0 = 0 ∧ 1 ≤ sc_ec tB tn) by omega) (show (h46 1 2) = sc_ec tB tn by omega) (show (h46 1 3) = sc_ep tB tn by omega)
      ·
        have tN60 := @tk_nx_b tB tn (tk_nx tB tn (h13 1 4)) (by omega) (by omega)
        refine wi_goto (nx := 90) (r1 := 94) (r2 := 0) (r3 := 0) rfl ?_
        refine wi_istore_n (i := 2) (e := z49) (lo2 := [(2, vi z49), (0, .ref 68), (1, vi x12)]) (nx := 95) (r1 := 0) (r2 := 0) (r3 := 0) rfl rfl ?_
        refine wi_iload_n (i := 2) (e := z49) (nx := 96) (r1 := 0) (r2 := 0) (r3 := 0) rfl rfl ?_
        refine wi_if (cd := .ne) (nx := 99) (r1 := 101) (r2 := 0) (r3 := 0) rfl (by omega) (fun (q61 : z49 ≠ 0) => ?_) (fun (q61 : ¬ (z49 ≠ 0)) => by exfalso; omega)
        refine wr_iinc (i := 1) (n := 1) (v := x12) (fun e62 => [(1, vi e62), (2, vi z49), (0, .ref 68)]) (nx := 104) (r1 := 0) (r2 := 0) (r3 := 0) rfl rfl (fun _ => rfl) (fun e62 (fe62 : e62 = x12 + 1) => ?_)
        refine wi_goto (nx := 107) (r1 := 24) (r2 := 0) (r3 := 0) rfl ?_
        have e63 : h46 1 1 = h 1 1 := ((u46 1 1 rfl).trans ((u29 1 1 rfl).trans ((u13 1 1 rfl).trans ((u10 1 1 rfl).trans ((u8 1 1 rfl).trans ((u6 1 1 rfl).trans (u1 1 1 rfl)))))))
        refine wp.lo (lo := [(0, .ref 68), (1, vi e62)]) ⟨rfl, rfl, trivial⟩ rfl ?_
        exact I13 e62 h46 ⟨g46, F51, F52, (show (0 ≤ e62 ∧ e62 ≤ 801) ∧ ((h46 1 2) = 0) ∧ ((h46 1 3) = -1) ∧ ((h46 1 4) ≤ (h46 1 1)) ∧ (e62 ≤ (h46 1 4)) by omega), ⟨kf13, by omega, by rw [show h46 1 4 = tk_nx tB tn (tk_nx tB tn (h13 1 4)) by omega, show h46 68 8 = h13 68 8 - 1 by omega, show h46 68 9 = h13 68 9 by omega]; exact (sc_c1 (by omega) (by omega) (by omega)).symm.trans fr13⟩⟩ (show ((801 : Int) + 1 - e62).toNat < ((801 : Int) + 1 - x12).toNat by omega)
  ·
    refine wi_aload_n (i := 0) (x := 68) (nx := 49) (r1 := 0) (r2 := 0) (r3 := 0) rfl rfl ?_
    refine wr_gi0 (k0 := 68) (x := h13 68 8) (nx := 52) (r1 := 8) (r2 := 8) (r3 := 0) rfl rfl (by decide) rfl ⟨rfl, rfl⟩ rfl (u29 68 8 rfl) ?_
    refine wi_if (cd := .eq) (nx := 55) (r1 := 66) (r2 := 0) (r3 := 0) rfl (by omega) (fun (q45 : (h13 68 8) = 0) => ?_) (fun (q45 : ¬ ((h13 68 8) = 0)) => ?_)
    ·
      refine wi_iconst (n := 1) (nx := 67) (r1 := 0) (r2 := 0) (r3 := 0) rfl ?_
      refine wi_goto (nx := 70) (r1 := 71) (r2 := 0) (r3 := 0) rfl ?_
      refine wi_zreturn (nx := 72) (r1 := 0) (r2 := 0) (r3 := 0) rfl rfl (by omega) ?_
      have e47 : h29 1 2 = h13 1 2 := (u29 1 2 rfl)
      have e48 : h29 1 3 = h13 1 3 := (u29 1 3 rfl)
      have RE46 := sc_REq (fr13.symm.trans (sc_e0 (by omega) (by omega)))
      exact k h29 1 g29 F35 (by omega) (show (1 = 1 ∧ sc_ec tB tn = 0) ∨ (1 = 0 ∧ 1 ≤ sc_ec tB tn) by omega) (show (h29 1 2) = sc_ec tB tn by omega) (show (h29 1 3) = sc_ep tB tn by omega)
    ·
      refine wi_aload_n (i := 0) (x := 68) (nx := 56) (r1 := 0) (r2 := 0) (r3 := 0) rfl rfl ?_
      refine wr_gr (k0 := 68) (x := 1) (nx := 59) (r1 := 8) (r2 := 0) (r3 := 0) rfl rfl (by decide) rfl ⟨rfl, rfl⟩ rfl ?_
      refine wi_iconst (n := 1) (nx := 60) (r1 := 0) (r2 := 0) (r3 := 0) rfl ?_
      refine wr_V (k0 := 1) (rest := []) (as := [.ref 1, vi 1]) (nx := 63) (r1 := 101) (r2 := 1) (r3 := 1) rfl rfl rfl (of_decide_eq_true rfl) rfl rfl (by decide) rfl rfl (of_decide_eq_true rfl) (of_decide_eq_true rfl) ?_
      refine ct_101_1 hcr  g29 1 (by omega)  (fun h46 z47 g46 u46 (fz47 : 0 ≤ z47 ∧ z47 ≤ 0) (p46_0 : z47 = 0) (p46_1 : (h46 1 2) = 1) (p46_2 : (h46 1 3) = (h29 1 6)) => ?_)
      have F48 := F35.then (by decide +kernel) u46
      have b49 := gi_b (lo := -2147483648) (hi := 2147483647) g46 1 2 rfl
      have b50 := gi_b (lo := -2147483648) (hi := 2147483647) g46 1 3 rfl
      refine wk_i ?_
      refine wi_if (cd := .eq) (nx := 66) (r1 := 70) (r2 := 0) (r3 := 0) rfl (by omega) (fun (q51 : z47 = 0) => ?_) (fun (q51 : ¬ (z47 = 0)) => by exfalso; omega)
      refine wi_iconst (n := 0) (nx := 71) (r1 := 0) (r2 := 0) (r3 := 0) rfl ?_
      refine wi_zreturn (nx := 72) (r1 := 0) (r2 := 0) (r3 := 0) rfl rfl (by omega) ?_
      have RE52 := sc_REq (fr13.symm.trans (sc_e1 (by omega) (by omega)))
      exact k h46 0 g46 F48 (by omega) (show (0 = 1 ∧ sc_ec tB tn = 0) ∨ (0 = 0 ∧ 1 ≤ sc_ec tB tn) by omega) (show (h46 1 2) = sc_ec tB tn by omega) (show (h46 1 3) = sc_ep tB tn by omega)
-- method 133: Line.passTime()I
set_option maxRecDepth 100000 in
set_option maxHeartbeats 100000000 in
theorem ct_133_18 {L : Nat} {xs : Nat → Int32} {d b c : Nat} {h : hp} {cr : Nat → Nat → Option Nat} {Q : hp_Q} (hcr : CR cr)  (g : GI h)    (k : ∀ (h2 : hp) (z0 : Int) , GI h2 → FR [(18, 18, some (10, 10)), (18, 18, some (16, 16))] h h2 → (-2147483647 ≤ z0 ∧ z0 ≤ 9999) → Q (.inl (some (vi z0))) (hp_w h2 cr) b c) : wp (md_xa (L, xs)) d 133 (0, [(0, .ref 18)], [], hp_w h cr, b, c) Q := by
  have F0 : FR [(18, 18, some (10, 10)), (18, 18, some (16, 16))] h h := FR.refl
  refine wi_aload_n (i := 0) (x := 18) (nx := 1) (r1 := 0) (r2 := 0) (r3 := 0) rfl rfl ?_
  have b1 := gi_b (lo := -2147483648) (hi := 2147483647) g 18 10 rfl
  refine wr_gi0 (k0 := 18) (x := h 18 10) (nx := 4) (r1 := 4) (r2 := 10) (r3 := 0) rfl rfl (by decide) rfl ⟨rfl, rfl⟩ rfl rfl ?_
  refine wi_sipush (n := 9999) (nx := 7) (r1 := 0) (r2 := 0) (r3 := 0) rfl (by decide) ?_
  refine wi_icmp (cd := .lt) (nx := 10) (r1 := 12) (r2 := 0) (r3 := 0) rfl (by omega) (by omega) (fun (q2 : (h 18 10) < 9999) => ?_) (fun (q2 : ¬ ((h 18 10) < 9999)) => ?_)
  ·
    refine wi_aload_n (i := 0) (x := 18) (nx := 13) (r1 := 0) (r2 := 0) (r3 := 0) rfl rfl ?_
    refine wi_dup (nx := 14) (r1 := 0) (r2 := 0) (r3 := 0) rfl rfl ?_
    refine wr_gi0 (k0 := 18) (x := h 18 10) (nx := 17) (r1 := 4) (r2 := 10) (r3 := 0) rfl rfl (by decide) rfl ⟨rfl, rfl⟩ rfl rfl ?_
    refine wi_iconst (n := 1) (nx := 18) (r1 := 0) (r2 := 0) (r3 := 0) rfl ?_
    refine wr_add (nx := 19) (r1 := 0) (r2 := 0) (r3 := 0) rfl (fun e3 (fe3 : e3 = (h 18 10) + 1) => ?_)
    refine wr_pf0 (k0 := 18) (x := e3) (bl := -2147483648) (bh := 2147483647) (nx := 22) (r1 := 4) (r2 := 10) (r3 := 0) rfl (by decide) rfl ⟨rfl, rfl⟩ rfl rfl g rfl (by omega) (fun h4 g4 w4 u4 => ?_)
    have F5 := F0.then rfl u4
    refine wi_aload_n (i := 0) (x := 18) (nx := 23) (r1 := 0) (r2 := 0) (r3 := 0) rfl rfl ?_
    refine wi_dup (nx := 24) (r1 := 0) (r2 := 0) (r3 := 0) rfl rfl ?_
    have b6 := gi_b (lo := -2147483648) (hi := 2147483647) g 18 16 rfl
    refine wr_gi0 (k0 := 18) (x := h 18 16) (nx := 27) (r1 := 4) (r2 := 16) (r3 := 0) rfl rfl (by decide) rfl ⟨rfl, rfl⟩ rfl (u4 18 16 rfl) ?_
    refine wi_iconst (n := 1) (nx := 28) (r1 := 0) (r2 := 0) (r3 := 0) rfl ?_
    refine wr_addW (nx := 29) (r1 := 0) (r2 := 0) (r3 := 0) rfl (fun e7 (fe7 : -2147483648 ≤ e7 ∧ e7 ≤ 2147483647) => ?_)
    refine wr_pf0 (k0 := 18) (x := e7) (bl := -2147483648) (bh := 2147483647) (nx := 32) (r1 := 4) (r2 := 16) (r3 := 0) rfl (by decide) rfl ⟨rfl, rfl⟩ rfl rfl g4 rfl (by omega) (fun h8 g8 w8 u8 => ?_)
    have F9 := F5.then rfl u8
    refine wi_aload_n (i := 0) (x := 18) (nx := 33) (r1 := 0) (r2 := 0) (r3 := 0) rfl rfl ?_
    refine wr_gi0 (k0 := 18) (x := e3) (nx := 36) (r1 := 4) (r2 := 10) (r3 := 0) rfl rfl (by decide) rfl ⟨rfl, rfl⟩ rfl ((u8 18 10 rfl).trans w4) ?_
    refine wi_ireturn (nx := 37) (r1 := 0) (r2 := 0) (r3 := 0) rfl rfl ?_
    exact k h8 e3 g8 F9 (by omega)
  ·
    refine wi_iconst (n := (-1)) (nx := 11) (r1 := 0) (r2 := 0) (r3 := 0) rfl ?_
    refine wi_ireturn (nx := 12) (r1 := 0) (r2 := 0) (r3 := 0) rfl rfl ?_
    exact k h (-1) g F0 (by omega)
-- method 189: Script.waitTimes(I)Z
set_option maxRecDepth 100000 in
set_option maxHeartbeats 100000000 in
theorem ct_189_68 {L : Nat} {xs : Nat → Int32} {d b c : Nat} {h : hp} {cr : Nat → Nat → Option Nat} {Q : hp_Q} (hcr : CR cr)  (g : GI h) (a0 : Int) (q0_ : -2147483648 ≤ a0 ∧ a0 ≤ 2147483647)  (k : ∀ (h2 : hp) (z0 : Int) , GI h2 → FR [(18, 18, some (10, 10)), (18, 18, some (16, 16))] h h2 → (0 ≤ z0 ∧ z0 ≤ 1) → (z0 = 0 → 1 ≤ a0 ∧ a0 ≤ 2147483647) → Q (.inl (some (vi z0))) (hp_w h2 cr) b c) : wp (md_xa (L, xs)) (d + 1) 189 (0, [(0, .ref 68), (1, vi a0)], [], hp_w h cr, b, c) Q := by
  have F0 : FR [(18, 18, some (10, 10)), (18, 18, some (16, 16))] h h := FR.refl
  refine wi_iconst (n := 0) (nx := 1) (r1 := 0) (r2 := 0) (r3 := 0) rfl ?_
  refine wi_istore_n (i := 2) (e := 0) (lo2 := [(2, vi 0), (0, .ref 68), (1, vi a0)]) (nx := 2) (r1 := 0) (r2 := 0) (r3 := 0) rfl rfl ?_
  refine wp.lo (lo := [(0, .ref 68), (1, vi a0), (2, vi 0)]) ⟨rfl, rfl, rfl, trivial⟩ rfl ?_
  refine wl_1 (fun x1 h2 => GI h2 ∧ FR [(18, 18, some (10, 10)), (18, 18, some (16, 16))] h h2 ∧ FR [(18, 18, some (10, 10)), (18, 18, some (16, 16))] h h2 ∧ ((0 ≤ x1 ∧ x1 ≤ 2147483647))) (fun x1 h2 => ((2147483647 : Int) + 1 - x1).toNat) (fun x1 h2 => (2, [(0, .ref 68), (1, vi a0), (2, vi x1)], [], hp_w h2 cr, b, c)) ?_ 0 h ⟨g, F0, FR.refl, (show (0 ≤ 0 ∧ 0 ≤ 2147483647) by omega)⟩
  intro x1 h2 ⟨g2, F3, u2, f2⟩ I2
  refine wi_iload_n (i := 2) (e := x1) (nx := 3) (r1 := 0) (r2 := 0) (r3 := 0) rfl rfl ?_
  refine wi_iload_n (i := 1) (e := a0) (nx := 4) (r1 := 0) (r2 := 0) (r3 := 0) rfl rfl ?_
  refine wi_icmp (cd := .ge) (nx := 7) (r1 := 26) (r2 := 0) (r3 := 0) rfl (by omega) (by omega) (fun (q4 : a0 ≤ x1) => ?_) (fun (q4 : ¬ (a0 ≤ x1)) => ?_)
  ·
    refine wi_iconst (n := 1) (nx := 27) (r1 := 0) (r2 := 0) (r3 := 0) rfl ?_
    refine wi_zreturn (nx := 28) (r1 := 0) (r2 := 0) (r3 := 0) rfl rfl (by omega) ?_
    exact k h2 1 g2 F3 (by omega) (fun _ => by omega)
  ·
    refine wi_aload_n (i := 0) (x := 68) (nx := 8) (r1 := 0) (r2 := 0) (r3 := 0) rfl rfl ?_
    refine wr_gr (k0 := 68) (x := 18) (nx := 11) (r1 := 8) (r2 := 1) (r3 := 0) rfl rfl (by decide) rfl ⟨rfl, rfl⟩ rfl ?_
    refine wr_V (k0 := 18) (rest := []) (as := [.ref 18]) (nx := 14) (r1 := 133) (r2 := 0) (r3 := 4) rfl rfl rfl (of_decide_eq_true rfl) rfl rfl (by decide) rfl rfl (of_decide_eq_true rfl) (of_decide_eq_true rfl) ?_
    refine ct_133_18 hcr  g2    (fun h5 z6 g5 u5 (fz6 : -2147483647 ≤ z6 ∧ z6 ≤ 9999) => ?_)
    have F7 := F3.then (by decide +kernel) u5
    have F8 := u2.then (by decide +kernel) u5
    refine wk_i ?_
    refine wi_iconst (n := (-1)) (nx := 15) (r1 := 0) (r2 := 0) (r3 := 0) rfl ?_
    refine wi_icmp (cd := .ne) (nx := 18) (r1 := 20) (r2 := 0) (r3 := 0) rfl (by omega) (by omega) (fun (q9 : z6 ≠ (-1)) => ?_) (fun (q9 : ¬ (z6 ≠ (-1))) => ?_)
    ·
      refine wr_iinc (i := 2) (n := 1) (v := x1) (fun e10 => [(2, vi e10), (0, .ref 68), (1, vi a0)]) (nx := 23) (r1 := 0) (r2 := 0) (r3 := 0) rfl rfl (fun _ => rfl) (fun e10 (fe10 : e10 = x1 + 1) => ?_)
      refine wi_goto (nx := 26) (r1 := 2) (r2 := 0) (r3 := 0) rfl ?_
      refine wp.lo (lo := [(0, .ref 68), (1, vi a0), (2, vi e10)]) ⟨rfl, rfl, rfl, trivial⟩ rfl ?_
      exact I2 e10 h5 ⟨g5, F7, F8, (show (0 ≤ e10 ∧ e10 ≤ 2147483647) by omega)⟩ (show ((2147483647 : Int) + 1 - e10).toNat < ((2147483647 : Int) + 1 - x1).toNat by omega)
    ·
      refine wi_iconst (n := 0) (nx := 19) (r1 := 0) (r2 := 0) (r3 := 0) rfl ?_
      refine wi_zreturn (nx := 20) (r1 := 0) (r2 := 0) (r3 := 0) rfl rfl (by omega) ?_
      exact k h5 0 g5 F7 (by omega) (fun _ => by omega)
-- method 140: Line.chosenToLeave()I
set_option maxRecDepth 100000 in
set_option maxHeartbeats 100000000 in
theorem ct_140_18 {L : Nat} {xs : Nat → Int32} {d b c : Nat} {h : hp} {cr : Nat → Nat → Option Nat} {Q : hp_Q} (hcr : CR cr)  (g : GI h)    (k : ∀ (z0 : Int), (-1 ≤ z0 ∧ z0 ≤ 3) → Q (.inl (some (vi z0))) (hp_w h cr) b c) : wp (md_xa (L, xs)) (d + 2) 140 (0, [(0, .ref 18)], [], hp_w h cr, b, c) Q := by
  have F0 : FR [] h h := FR.refl
  refine wi_iconst (n := (-1)) (nx := 1) (r1 := 0) (r2 := 0) (r3 := 0) rfl ?_
  refine wi_istore_n (i := 1) (e := -1) (lo2 := [(1, vi (-1)), (0, .ref 18)]) (nx := 2) (r1 := 0) (r2 := 0) (r3 := 0) rfl rfl ?_
  refine wi_bipush (n := 12) (nx := 4) (r1 := 0) (r2 := 0) (r3 := 0) rfl (by decide) ?_
  refine wi_istore_n (i := 2) (e := 12) (lo2 := [(2, vi 12), (1, vi (-1)), (0, .ref 18)]) (nx := 5) (r1 := 0) (r2 := 0) (r3 := 0) rfl rfl ?_
  refine wi_iconst (n := 0) (nx := 6) (r1 := 0) (r2 := 0) (r3 := 0) rfl ?_
  refine wi_istore_n (i := 3) (e := 0) (lo2 := [(3, vi 0), (2, vi 12), (1, vi (-1)), (0, .ref 18)]) (nx := 7) (r1 := 0) (r2 := 0) (r3 := 0) rfl rfl ?_
  refine wp.lo (lo := [(0, .ref 18), (1, vi (-1)), (2, vi 12), (3, vi 0)]) ⟨rfl, rfl, rfl, rfl, trivial⟩ rfl ?_
  refine wl_3 (fun x1 x2 x3 h4 => h = h4 ∧ ((-1 ≤ x1 ∧ x1 ≤ 3) ∧ (-2147483648 ≤ x2 ∧ x2 ≤ 12) ∧ (0 ≤ x3 ∧ x3 ≤ 4))) (fun x1 x2 x3 h4 => ((4 : Int) + 1 - x3).toNat) (fun x1 x2 x3 h4 => (7, [(0, .ref 18), (1, vi x1), (2, vi x2), (3, vi x3)], [], hp_w h4 cr, b, c)) ?_ (-1) 12 0 h ⟨rfl, (show (-1 ≤ (-1) ∧ (-1) ≤ 3) ∧ (-2147483648 ≤ 12 ∧ 12 ≤ 12) ∧ (0 ≤ 0 ∧ 0 ≤ 4) by omega)⟩
  intro x1 x2 x3 h4 ⟨e4, f4⟩ I4
  subst e4
  refine wi_iload_n (i := 3) (e := x3) (nx := 8) (r1 := 0) (r2 := 0) (r3 := 0) rfl rfl ?_
  refine wi_aload_n (i := 0) (x := 18) (nx := 9) (r1 := 0) (r2 := 0) (r3 := 0) rfl rfl ?_
  refine wr_gr (k0 := 18) (x := 3) (nx := 12) (r1 := 4) (r2 := 0) (r3 := 0) rfl rfl (by decide) rfl ⟨rfl, rfl⟩ rfl ?_
  have b6 := gi_b (lo := 0) (hi := 4) g 3 1 rfl
  refine wr_gi0 (k0 := 3) (x := h 3 1) (nx := 15) (r1 := 2) (r2 := 1) (r3 := 0) rfl rfl (by decide) rfl ⟨rfl, rfl⟩ rfl rfl ?_
  refine wi_icmp (cd := .ge) (nx := 18) (r1 := 70) (r2 := 0) (r3 := 0) rfl (by omega) (by omega) (fun (q7 : (h 3 1) ≤ x3) => ?_) (fun (q7 : ¬ ((h 3 1) ≤ x3)) => ?_)
  ·
    refine wi_iload_n (i := 1) (e := x1) (nx := 71) (r1 := 0) (r2 := 0) (r3 := 0) rfl rfl ?_
    refine wi_ireturn (nx := 72) (r1 := 0) (r2 := 0) (r3 := 0) rfl rfl ?_
    exact k x1 (by omega)
  ·
    refine wi_aload_n (i := 0) (x := 18) (nx := 19) (r1 := 0) (r2 := 0) (r3 := 0) rfl rfl ?_
    refine wi_iload_n (i := 3) (e := x3) (nx := 20) (r1 := 0) (r2 := 0) (r3 := 0) rfl rfl ?_
    refine wr_V (k0 := 18) (rest := []) (as := [.ref 18, vi x3]) (nx := 23) (r1 := 141) (r2 := 1) (r3 := 4) rfl rfl rfl (of_decide_eq_true rfl) rfl rfl (by decide) rfl rfl (of_decide_eq_true rfl) (of_decide_eq_true rfl) ?_
    refine ct_141_18 hcr  g x3 (by omega)  (fun z9  (fz9 : 0 ≤ z9 ∧ z9 ≤ 1) m8_0 => ?_)
    refine wk_i ?_
    refine wi_if (cd := .eq) (nx := 26) (r1 := 64) (r2 := 0) (r3 := 0) rfl (by omega) (fun (q10 : z9 = 0) => ?_) (fun (q10 : ¬ (z9 = 0)) => ?_)
    ·
      refine wr_iinc (i := 3) (n := 1) (v := x3) (fun e11 => [(3, vi e11), (0, .ref 18), (1, vi x1), (2, vi x2)]) (nx := 67) (r1 := 0) (r2 := 0) (r3 := 0) rfl rfl (fun _ => rfl) (fun e11 (fe11 : e11 = x3 + 1) => ?_)
      refine wi_goto (nx := 70) (r1 := 7) (r2 := 0) (r3 := 0) rfl ?_
      refine wp.lo (lo := [(0, .ref 18), (1, vi x1), (2, vi x2), (3, vi e11)]) ⟨rfl, rfl, rfl, rfl, trivial⟩ rfl ?_
      exact I4 x1 x2 e11 h ⟨rfl, (show (-1 ≤ x1 ∧ x1 ≤ 3) ∧ (-2147483648 ≤ x2 ∧ x2 ≤ 12) ∧ (0 ≤ e11 ∧ e11 ≤ 4) by omega)⟩ (show ((4 : Int) + 1 - e11).toNat < ((4 : Int) + 1 - x3).toNat by omega)
    ·
      have f11 : 0 ≤ x3 ∧ x3 ≤ 3 := m8_0 (by omega)
      refine wi_aload_n (i := 0) (x := 18) (nx := 27) (r1 := 0) (r2 := 0) (r3 := 0) rfl rfl ?_
      refine wr_gr (k0 := 18) (x := 21) (nx := 30) (r1 := 4) (r2 := 3) (r3 := 0) rfl rfl (by decide) rfl ⟨rfl, rfl⟩ rfl ?_
      refine wi_iload_n (i := 3) (e := x3) (nx := 31) (r1 := 0) (r2 := 0) (r3 := 0) rfl rfl ?_
      obtain ⟨i12, ei12⟩ : ∃ q : Nat, x3 = (q : Int) := ⟨(x3).toNat, by omega⟩
      refine wr_aa (k0 := 21) (a := x3) (f := i12) (x := 21 + 8 + 2 * i12) (nx := 32) (r1 := 0) (r2 := 0) (r3 := 0) rfl (by decide) rfl (Or.inl rfl) (by omega) (by omega) (by decide) (hcr.1 21 (by decide) i12 (by omega)) ?_
      obtain ⟨k13, kk13, mk13⟩ : ∃ q, Rw q ∧ q = 21 + 8 + 2 * i12 := ⟨_, rw_lane 21 (by decide) i12 (by omega), rfl⟩
      rw [← mk13]
      refine wi_iconst (n := 0) (nx := 33) (r1 := 0) (r2 := 0) (r3 := 0) rfl ?_
      refine wr_V (k0 := k13) (rest := []) (as := [.ref k13, vi 0]) (nx := 36) (r1 := 154) (r2 := 1) (r3 := 5) rfl rfl rfl (of_decide_eq_true rfl) rfl rfl kk13.k kk13.1 rfl (of_decide_eq_true rfl) (of_decide_eq_true rfl) ?_
      refine ct_154_R hcr kk13 g 0 (by omega)  (fun z15  (fz15 : -2147483648 ≤ z15 ∧ z15 ≤ 2147483647) => ?_)
      refine wk_i ?_
      refine wi_istore (i := 4) (e := z15) (lo2 := [(4, vi z15), (0, .ref 18), (1, vi x1), (2, vi x2), (3, vi x3)]) (nx := 38) (r1 := 0) (r2 := 0) (r3 := 0) rfl rfl ?_
      refine wi_aload_n (i := 0) (x := 18) (nx := 39) (r1 := 0) (r2 := 0) (r3 := 0) rfl rfl ?_
      refine wi_iload (i := 4) (e := z15) (nx := 41) (r1 := 0) (r2 := 0) (r3 := 0) rfl rfl ?_
      refine wr_V (k0 := 18) (rest := []) (as := [.ref 18, vi z15]) (nx := 44) (r1 := 131) (r2 := 1) (r3 := 4) rfl rfl rfl (of_decide_eq_true rfl) rfl rfl (by decide) rfl rfl (of_decide_eq_true rfl) (of_decide_eq_true rfl) ?_
      refine ct_131_18 hcr  g z15 (by omega)  (fun z17  (fz17 : -2147483648 ≤ z17 ∧ z17 ≤ 2147483647) => ?_)
      refine wk_i ?_
      refine wi_aload_n (i := 0) (x := 18) (nx := 45) (r1 := 0) (r2 := 0) (r3 := 0) rfl rfl ?_
      have b18 := gi_b (lo := -2147483648) (hi := 2147483647) g 18 8 rfl
      refine wr_gi0 (k0 := 18) (x := h 18 8) (nx := 48) (r1 := 4) (r2 := 8) (r3 := 0) rfl rfl (by decide) rfl ⟨rfl, rfl⟩ rfl rfl ?_
      refine wi_icmp (cd := .ne) (nx := 51) (r1 := 53) (r2 := 0) (r3 := 0) rfl (by omega) (by omega) (fun (q19 : z17 ≠ (h 18 8)) => ?_) (fun (q19 : ¬ (z17 ≠ (h 18 8))) => ?_)
      ·
        refine wi_iload (i := 4) (e := z15) (nx := 55) (r1 := 0) (r2 := 0) (r3 := 0) rfl rfl ?_
        refine wi_iload_n (i := 2) (e := x2) (nx := 56) (r1 := 0) (r2 := 0) (r3 := 0) rfl rfl ?_
        refine wi_icmp (cd := .ge) (nx := 59) (r1 := 64) (r2 := 0) (r3 := 0) rfl (by omega) (by omega) (fun (q20 : x2 ≤ z15) => ?_) (fun (q20 : ¬ (x2 ≤ z15)) => ?_)
        ·
          refine wr_iinc (i := 3) (n := 1) (v := x3) (fun e21 => [(3, vi e21), (4, vi z15), (0, .ref 18), (1, vi x1), (2, vi x2)]) (nx := 67) (r1 := 0) (r2 := 0) (r3 := 0) rfl rfl (fun _ => rfl) (fun e21 (fe21 : e21 = x3 + 1) => ?_)
          refine wi_goto (nx := 70) (r1 := 7) (r2 := 0) (r3 := 0) rfl ?_
          refine wp.lo (lo := [(0, .ref 18), (1, vi x1), (2, vi x2), (3, vi e21)]) ⟨rfl, rfl, rfl, rfl, trivial⟩ rfl ?_
          exact I4 x1 x2 e21 h ⟨rfl, (show (-1 ≤ x1 ∧ x1 ≤ 3) ∧ (-2147483648 ≤ x2 ∧ x2 ≤ 12) ∧ (0 ≤ e21 ∧ e21 ≤ 4) by omega)⟩ (show ((4 : Int) + 1 - e21).toNat < ((4 : Int) + 1 - x3).toNat by omega)
        ·
          refine wi_iload (i := 4) (e := z15) (nx := 61) (r1 := 0) (r2 := 0) (r3 := 0) rfl rfl ?_
          refine wi_istore_n (i := 2) (e := z15) (lo2 := [(2, vi z15), (4, vi z15), (0, .ref 18), (1, vi x1), (3, vi x3)]) (nx := 62) (r1 := 0) (r2 := 0) (r3 := 0) rfl rfl ?_
          refine wi_iload_n (i := 3) (e := x3) (nx := 63) (r1 := 0) (r2 := 0) (r3 := 0) rfl rfl ?_
          refine wi_istore_n (i := 1) (e := x3) (lo2 := [(1, vi x3), (2, vi z15), (4, vi z15), (0, .ref 18), (3, vi x3)]) (nx := 64) (r1 := 0) (r2 := 0) (r3 := 0) rfl rfl ?_
          refine wr_iinc (i := 3) (n := 1) (v := x3) (fun e21 => [(3, vi e21), (1, vi x3), (2, vi z15), (4, vi z15), (0, .ref 18)]) (nx := 67) (r1 := 0) (r2 := 0) (r3 := 0) rfl rfl (fun _ => rfl) (fun e21 (fe21 : e21 = x3 + 1) => ?_)
          refine wi_goto (nx := 70) (r1 := 7) (r2 := 0) (r3 := 0) rfl ?_
          refine wp.lo (lo := [(0, .ref 18), (1, vi x3), (2, vi z15), (3, vi e21)]) ⟨rfl, rfl, rfl, rfl, trivial⟩ rfl ?_
          exact I4 x3 z15 e21 h ⟨rfl, (show (-1 ≤ x3 ∧ x3 ≤ 3) ∧ (-2147483648 ≤ z15 ∧ z15 ≤ 12) ∧ (0 ≤ e21 ∧ e21 ≤ 4) by omega)⟩ (show ((4 : Int) + 1 - e21).toNat < ((4 : Int) + 1 - x3).toNat by omega)
      ·
        refine wi_iload_n (i := 3) (e := x3) (nx := 52) (r1 := 0) (r2 := 0) (r3 := 0) rfl rfl ?_
        refine wi_ireturn (nx := 53) (r1 := 0) (r2 := 0) (r3 := 0) rfl rfl ?_
        exact k x3 (by omega)
-- method 134: Line.stepByRule()I
set_option maxRecDepth 100000 in
set_option maxHeartbeats 100000000 in
theorem ct_134_18 {L : Nat} {xs : Nat → Int32} {d b c : Nat} {h : hp} {cr : Nat → Nat → Option Nat} {Q : hp_Q} (hcr : CR cr)  (g : GI h)    (k : ∀ (h2 : hp) (z0 : Int) , GI h2 → FR [(18, 36, none)] h h2 → (-1 ≤ z0 ∧ z0 ≤ 3) → Q (.inl (some (vi z0))) (hp_w h2 cr) b c) : wp (md_xa (L, xs)) (d + 3) 134 (0, [(0, .ref 18)], [], hp_w h cr, b, c) Q := by
  have F0 : FR [(18, 36, none)] h h := FR.refl
  refine wi_aload_n (i := 0) (x := 18) (nx := 1) (r1 := 0) (r2 := 0) (r3 := 0) rfl rfl ?_
  refine wr_V (k0 := 18) (rest := []) (as := [.ref 18]) (nx := 4) (r1 := 135) (r2 := 0) (r3 := 4) rfl rfl rfl (of_decide_eq_true rfl) rfl rfl (by decide) rfl rfl (of_decide_eq_true rfl) (of_decide_eq_true rfl) ?_
  refine ct_135_18 hcr  g    (fun z2  (fz2 : 0 ≤ z2 ∧ z2 ≤ 1) => ?_)
  refine wk_i ?_
  refine wi_if (cd := .eq) (nx := 7) (r1 := 29) (r2 := 0) (r3 := 0) rfl (by omega) (fun (q3 : z2 = 0) => ?_) (fun (q3 : ¬ (z2 = 0)) => ?_)
  ·
    refine wi_aload_n (i := 0) (x := 18) (nx := 30) (r1 := 0) (r2 := 0) (r3 := 0) rfl rfl ?_
    have b4 := gi_b (lo := 0) (hi := 12) g 18 7 rfl
    refine wr_gi0 (k0 := 18) (x := h 18 7) (nx := 33) (r1 := 4) (r2 := 7) (r3 := 0) rfl rfl (by decide) rfl ⟨rfl, rfl⟩ rfl rfl ?_
    refine wi_aload_n (i := 0) (x := 18) (nx := 34) (r1 := 0) (r2 := 0) (r3 := 0) rfl rfl ?_
    refine wr_gr (k0 := 18) (x := 3) (nx := 37) (r1 := 4) (r2 := 0) (r3 := 0) rfl rfl (by decide) rfl ⟨rfl, rfl⟩ rfl ?_
    have b5 := gi_b (lo := 0) (hi := 12) g 3 2 rfl
    refine wr_gi0 (k0 := 3) (x := h 3 2) (nx := 40) (r1 := 2) (r2 := 2) (r3 := 0) rfl rfl (by decide) rfl ⟨rfl, rfl⟩ rfl rfl ?_
    refine wi_icmp (cd := .ge) (nx := 43) (r1 := 61) (r2 := 0) (r3 := 0) rfl (by omega) (by omega) (fun (q6 : (h 3 2) ≤ (h 18 7)) => ?_) (fun (q6 : ¬ ((h 3 2) ≤ (h 18 7))) => ?_)
    ·
      refine wi_aload_n (i := 0) (x := 18) (nx := 62) (r1 := 0) (r2 := 0) (r3 := 0) rfl rfl ?_
      refine wi_aload_n (i := 0) (x := 18) (nx := 63) (r1 := 0) (r2 := 0) (r3 := 0) rfl rfl ?_
      refine wr_V (k0 := 18) (rest := [.ref 18]) (as := [.ref 18]) (nx := 66) (r1 := 140) (r2 := 0) (r3 := 4) rfl rfl rfl (of_decide_eq_true rfl) rfl rfl (by decide) rfl rfl (of_decide_eq_true rfl) (of_decide_eq_true rfl) ?_
      refine ct_140_18 hcr  g    (fun z8  (fz8 : -1 ≤ z8 ∧ z8 ≤ 3) => ?_)
      refine wk_i ?_
      refine wr_V (k0 := 18) (rest := []) (as := [.ref 18, vi z8]) (nx := 69) (r1 := 142) (r2 := 1) (r3 := 4) rfl rfl rfl (of_decide_eq_true rfl) rfl rfl (by decide) rfl rfl (of_decide_eq_true rfl) (of_decide_eq_true rfl) ?_
      refine ct_142_18 hcr  g z8 (by omega)  (fun h9 z10 g9 u9 (fz10 : -1 ≤ z10 ∧ z10 ≤ 11) => ?_)
      have F11 := F0.then (by decide +kernel) u9
      refine wk_i ?_
      refine wi_iconst (n := (-1)) (nx := 70) (r1 := 0) (r2 := 0) (r3 := 0) rfl ?_
      refine wi_icmp (cd := .eq) (nx := 73) (r1 := 75) (r2 := 0) (r3 := 0) rfl (by omega) (by omega) (fun (q12 : z10 = (-1)) => ?_) (fun (q12 : ¬ (z10 = (-1))) => ?_)
      ·
        refine wi_aload_n (i := 0) (x := 18) (nx := 76) (r1 := 0) (r2 := 0) (r3 := 0) rfl rfl ?_
        refine wr_gr (k0 := 18) (x := 22) (nx := 79) (r1 := 4) (r2 := 4) (r3 := 0) rfl rfl (by decide) rfl ⟨rfl, rfl⟩ rfl ?_
        have b13 := gi_b (lo := 0) (hi := 12) g9 22 1 rfl
        refine wr_gi0 (k0 := 22) (x := h9 22 1) (nx := 82) (r1 := 5) (r2 := 1) (r3 := 0) rfl rfl (by decide) rfl ⟨rfl, rfl⟩ rfl rfl ?_
        refine wi_if (cd := .le) (nx := 85) (r1 := 97) (r2 := 0) (r3 := 0) rfl (by omega) (fun (q14 : (h9 22 1) ≤ 0) => ?_) (fun (q14 : ¬ ((h9 22 1) ≤ 0)) => ?_)
        ·
          refine wi_iconst (n := (-1)) (nx := 98) (r1 := 0) (r2 := 0) (r3 := 0) rfl ?_
          refine wi_ireturn (nx := 99) (r1 := 0) (r2 := 0) (r3 := 0) rfl rfl ?_
          exact k h9 (-1) g9 F11 (by omega)
        ·
          refine wi_aload_n (i := 0) (x := 18) (nx := 86) (r1 := 0) (r2 := 0) (r3 := 0) rfl rfl ?_
          refine wr_V (k0 := 18) (rest := []) (as := [.ref 18]) (nx := 89) (r1 := 133) (r2 := 0) (r3 := 4) rfl rfl rfl (of_decide_eq_true rfl) rfl rfl (by decide) rfl rfl (of_decide_eq_true rfl) (of_decide_eq_true rfl) ?_
          refine ct_133_18 hcr  g9    (fun h15 z16 g15 u15 (fz16 : -2147483647 ≤ z16 ∧ z16 ≤ 9999) => ?_)
          have F17 := F11.then (by decide +kernel) u15
          refine wk_i ?_
          refine wi_iconst (n := (-1)) (nx := 90) (r1 := 0) (r2 := 0) (r3 := 0) rfl ?_
          refine wi_icmp (cd := .eq) (nx := 93) (r1 := 97) (r2 := 0) (r3 := 0) rfl (by omega) (by omega) (fun (q18 : z16 = (-1)) => ?_) (fun (q18 : ¬ (z16 = (-1))) => ?_)
          ·
            refine wi_iconst (n := (-1)) (nx := 98) (r1 := 0) (r2 := 0) (r3 := 0) rfl ?_
            refine wi_ireturn (nx := 99) (r1 := 0) (r2 := 0) (r3 := 0) rfl rfl ?_
            exact k h15 (-1) g15 F17 (by omega)
          ·
            refine wi_iconst (n := 3) (nx := 94) (r1 := 0) (r2 := 0) (r3 := 0) rfl ?_
            refine wi_goto (nx := 97) (r1 := 98) (r2 := 0) (r3 := 0) rfl ?_
            refine wi_ireturn (nx := 99) (r1 := 0) (r2 := 0) (r3 := 0) rfl rfl ?_
            exact k h15 3 g15 F17 (by omega)
      ·
        refine wi_iconst (n := 2) (nx := 74) (r1 := 0) (r2 := 0) (r3 := 0) rfl ?_
        refine wi_ireturn (nx := 75) (r1 := 0) (r2 := 0) (r3 := 0) rfl rfl ?_
        exact k h9 2 g9 F11 (by omega)
    ·
      refine wi_aload_n (i := 0) (x := 18) (nx := 44) (r1 := 0) (r2 := 0) (r3 := 0) rfl rfl ?_
      refine wi_aload_n (i := 0) (x := 18) (nx := 45) (r1 := 0) (r2 := 0) (r3 := 0) rfl rfl ?_
      refine wi_aload_n (i := 0) (x := 18) (nx := 46) (r1 := 0) (r2 := 0) (r3 := 0) rfl rfl ?_
      refine wr_gi0 (k0 := 18) (x := h 18 7) (nx := 49) (r1 := 4) (r2 := 7) (r3 := 0) rfl rfl (by decide) rfl ⟨rfl, rfl⟩ rfl rfl ?_
      refine wr_V (k0 := 18) (rest := [.ref 18]) (as := [.ref 18, vi (h 18 7)]) (nx := 52) (r1 := 136) (r2 := 1) (r3 := 4) rfl rfl rfl (of_decide_eq_true rfl) rfl rfl (by decide) rfl rfl (of_decide_eq_true rfl) (of_decide_eq_true rfl) ?_
      refine ct_136_18 hcr  g (h 18 7) (by omega)  (fun z8  (fz8 : -1 ≤ z8 ∧ z8 ≤ 3) => ?_)
      refine wk_i ?_
      refine wr_V (k0 := 18) (rest := []) (as := [.ref 18, vi z8]) (nx := 55) (r1 := 139) (r2 := 1) (r3 := 4) rfl rfl rfl (of_decide_eq_true rfl) rfl rfl (by decide) rfl rfl (of_decide_eq_true rfl) (of_decide_eq_true rfl) ?_
      refine ct_139_18 hcr  g z8 (by omega)  (fun h9 z10 g9 u9 (fz10 : -1 ≤ z10 ∧ z10 ≤ 11) => ?_)
      have F11 := F0.then (by decide +kernel) u9
      refine wk_i ?_
      refine wi_iconst (n := (-1)) (nx := 56) (r1 := 0) (r2 := 0) (r3 := 0) rfl ?_
      refine wi_icmp (cd := .eq) (nx := 59) (r1 := 61) (r2 := 0) (r3 := 0) rfl (by omega) (by omega) (fun (q12 : z10 = (-1)) => ?_) (fun (q12 : ¬ (z10 = (-1))) => ?_)
      ·
        refine wi_aload_n (i := 0) (x := 18) (nx := 62) (r1 := 0) (r2 := 0) (r3 := 0) rfl rfl ?_
        refine wi_aload_n (i := 0) (x := 18) (nx := 63) (r1 := 0) (r2 := 0) (r3 := 0) rfl rfl ?_
        refine wr_V (k0 := 18) (rest := [.ref 18]) (as := [.ref 18]) (nx := 66) (r1 := 140) (r2 := 0) (r3 := 4) rfl rfl rfl (of_decide_eq_true rfl) rfl rfl (by decide) rfl rfl (of_decide_eq_true rfl) (of_decide_eq_true rfl) ?_
        refine ct_140_18 hcr  g9    (fun z14  (fz14 : -1 ≤ z14 ∧ z14 ≤ 3) => ?_)
        refine wk_i ?_
        refine wr_V (k0 := 18) (rest := []) (as := [.ref 18, vi z14]) (nx := 69) (r1 := 142) (r2 := 1) (r3 := 4) rfl rfl rfl (of_decide_eq_true rfl) rfl rfl (by decide) rfl rfl (of_decide_eq_true rfl) (of_decide_eq_true rfl) ?_
        refine ct_142_18 hcr  g9 z14 (by omega)  (fun h15 z16 g15 u15 (fz16 : -1 ≤ z16 ∧ z16 ≤ 11) => ?_)
        have F17 := F11.then (by decide +kernel) u15
        refine wk_i ?_
        refine wi_iconst (n := (-1)) (nx := 70) (r1 := 0) (r2 := 0) (r3 := 0) rfl ?_
        refine wi_icmp (cd := .eq) (nx := 73) (r1 := 75) (r2 := 0) (r3 := 0) rfl (by omega) (by omega) (fun (q18 : z16 = (-1)) => ?_) (fun (q18 : ¬ (z16 = (-1))) => ?_)
        ·
          refine wi_aload_n (i := 0) (x := 18) (nx := 76) (r1 := 0) (r2 := 0) (r3 := 0) rfl rfl ?_
          refine wr_gr (k0 := 18) (x := 22) (nx := 79) (r1 := 4) (r2 := 4) (r3 := 0) rfl rfl (by decide) rfl ⟨rfl, rfl⟩ rfl ?_
          have b19 := gi_b (lo := 0) (hi := 12) g15 22 1 rfl
          refine wr_gi0 (k0 := 22) (x := h15 22 1) (nx := 82) (r1 := 5) (r2 := 1) (r3 := 0) rfl rfl (by decide) rfl ⟨rfl, rfl⟩ rfl rfl ?_
          refine wi_if (cd := .le) (nx := 85) (r1 := 97) (r2 := 0) (r3 := 0) rfl (by omega) (fun (q20 : (h15 22 1) ≤ 0) => ?_) (fun (q20 : ¬ ((h15 22 1) ≤ 0)) => ?_)
          ·
            refine wi_iconst (n := (-1)) (nx := 98) (r1 := 0) (r2 := 0) (r3 := 0) rfl ?_
            refine wi_ireturn (nx := 99) (r1 := 0) (r2 := 0) (r3 := 0) rfl rfl ?_
            exact k h15 (-1) g15 F17 (by omega)
          ·
            refine wi_aload_n (i := 0) (x := 18) (nx := 86) (r1 := 0) (r2 := 0) (r3 := 0) rfl rfl ?_
            refine wr_V (k0 := 18) (rest := []) (as := [.ref 18]) (nx := 89) (r1 := 133) (r2 := 0) (r3 := 4) rfl rfl rfl (of_decide_eq_true rfl) rfl rfl (by decide) rfl rfl (of_decide_eq_true rfl) (of_decide_eq_true rfl) ?_
            refine ct_133_18 hcr  g15    (fun h21 z22 g21 u21 (fz22 : -2147483647 ≤ z22 ∧ z22 ≤ 9999) => ?_)
            have F23 := F17.then (by decide +kernel) u21
            refine wk_i ?_
            refine wi_iconst (n := (-1)) (nx := 90) (r1 := 0) (r2 := 0) (r3 := 0) rfl ?_
            refine wi_icmp (cd := .eq) (nx := 93) (r1 := 97) (r2 := 0) (r3 := 0) rfl (by omega) (by omega) (fun (q24 : z22 = (-1)) => ?_) (fun (q24 : ¬ (z22 = (-1))) => ?_)
            ·
              refine wi_iconst (n := (-1)) (nx := 98) (r1 := 0) (r2 := 0) (r3 := 0) rfl ?_
              refine wi_ireturn (nx := 99) (r1 := 0) (r2 := 0) (r3 := 0) rfl rfl ?_
              exact k h21 (-1) g21 F23 (by omega)
            ·
              refine wi_iconst (n := 3) (nx := 94) (r1 := 0) (r2 := 0) (r3 := 0) rfl ?_
              refine wi_goto (nx := 97) (r1 := 98) (r2 := 0) (r3 := 0) rfl ?_
              refine wi_ireturn (nx := 99) (r1 := 0) (r2 := 0) (r3 := 0) rfl rfl ?_
              exact k h21 3 g21 F23 (by omega)
        ·
          refine wi_iconst (n := 2) (nx := 74) (r1 := 0) (r2 := 0) (r3 := 0) rfl ?_
          refine wi_ireturn (nx := 75) (r1 := 0) (r2 := 0) (r3 := 0) rfl rfl ?_
          exact k h15 2 g15 F17 (by omega)
      ·
        refine wi_iconst (n := 1) (nx := 60) (r1 := 0) (r2 := 0) (r3 := 0) rfl ?_
        refine wi_ireturn (nx := 61) (r1 := 0) (r2 := 0) (r3 := 0) rfl rfl ?_
        exact k h9 1 g9 F11 (by omega)
  ·
    refine wi_aload_n (i := 0) (x := 18) (nx := 8) (r1 := 0) (r2 := 0) (r3 := 0) rfl rfl ?_
    refine wi_aload_n (i := 0) (x := 18) (nx := 9) (r1 := 0) (r2 := 0) (r3 := 0) rfl rfl ?_
    refine wi_aload_n (i := 0) (x := 18) (nx := 10) (r1 := 0) (r2 := 0) (r3 := 0) rfl rfl ?_
    refine wr_gr (k0 := 18) (x := 22) (nx := 13) (r1 := 4) (r2 := 4) (r3 := 0) rfl rfl (by decide) rfl ⟨rfl, rfl⟩ rfl ?_
    refine wi_iconst (n := 0) (nx := 14) (r1 := 0) (r2 := 0) (r3 := 0) rfl ?_
    refine wr_V (k0 := 22) (rest := [.ref 18, .ref 18]) (as := [.ref 22, vi 0]) (nx := 17) (r1 := 154) (r2 := 1) (r3 := 5) rfl rfl rfl (of_decide_eq_true rfl) rfl rfl (by decide) rfl rfl (of_decide_eq_true rfl) (of_decide_eq_true rfl) ?_
    refine ct_154_R hcr rw_22 g 0 (by omega)  (fun z5  (fz5 : -2147483648 ≤ z5 ∧ z5 ≤ 2147483647) => ?_)
    refine wk_i ?_
    refine wr_V (k0 := 18) (rest := [.ref 18]) (as := [.ref 18, vi z5]) (nx := 20) (r1 := 136) (r2 := 1) (r3 := 4) rfl rfl rfl (of_decide_eq_true rfl) rfl rfl (by decide) rfl rfl (of_decide_eq_true rfl) (of_decide_eq_true rfl) ?_
    refine ct_136_18 hcr  g z5 (by omega)  (fun z7  (fz7 : -1 ≤ z7 ∧ z7 ≤ 3) => ?_)
    refine wk_i ?_
    refine wr_V (k0 := 18) (rest := []) (as := [.ref 18, vi z7]) (nx := 23) (r1 := 138) (r2 := 1) (r3 := 4) rfl rfl rfl (of_decide_eq_true rfl) rfl rfl (by decide) rfl rfl (of_decide_eq_true rfl) (of_decide_eq_true rfl) ?_
    refine ct_138_18 hcr  g z7 (by omega)  (fun h8 z9 g8 u8 (fz9 : -2147483648 ≤ z9 ∧ z9 ≤ 2147483647) => ?_)
    have F10 := F0.then (by decide +kernel) u8
    refine wk_i ?_
    refine wi_iconst (n := (-1)) (nx := 24) (r1 := 0) (r2 := 0) (r3 := 0) rfl ?_
    refine wi_icmp (cd := .eq) (nx := 27) (r1 := 29) (r2 := 0) (r3 := 0) rfl (by omega) (by omega) (fun (q11 : z9 = (-1)) => ?_) (fun (q11 : ¬ (z9 = (-1))) => ?_)
    ·
      refine wi_aload_n (i := 0) (x := 18) (nx := 30) (r1 := 0) (r2 := 0) (r3 := 0) rfl rfl ?_
      have b12 := gi_b (lo := 0) (hi := 12) g 18 7 rfl
      refine wr_gi0 (k0 := 18) (x := h 18 7) (nx := 33) (r1 := 4) (r2 := 7) (r3 := 0) rfl rfl (by decide) rfl ⟨rfl, rfl⟩ rfl (u8 18 7 rfl) ?_
      refine wi_aload_n (i := 0) (x := 18) (nx := 34) (r1 := 0) (r2 := 0) (r3 := 0) rfl rfl ?_
      refine wr_gr (k0 := 18) (x := 3) (nx := 37) (r1 := 4) (r2 := 0) (r3 := 0) rfl rfl (by decide) rfl ⟨rfl, rfl⟩ rfl ?_
      have b13 := gi_b (lo := 0) (hi := 12) g 3 2 rfl
      refine wr_gi0 (k0 := 3) (x := h 3 2) (nx := 40) (r1 := 2) (r2 := 2) (r3 := 0) rfl rfl (by decide) rfl ⟨rfl, rfl⟩ rfl (u8 3 2 rfl) ?_
      refine wi_icmp (cd := .ge) (nx := 43) (r1 := 61) (r2 := 0) (r3 := 0) rfl (by omega) (by omega) (fun (q14 : (h 3 2) ≤ (h 18 7)) => ?_) (fun (q14 : ¬ ((h 3 2) ≤ (h 18 7))) => ?_)
      ·
        refine wi_aload_n (i := 0) (x := 18) (nx := 62) (r1 := 0) (r2 := 0) (r3 := 0) rfl rfl ?_
        refine wi_aload_n (i := 0) (x := 18) (nx := 63) (r1 := 0) (r2 := 0) (r3 := 0) rfl rfl ?_
        refine wr_V (k0 := 18) (rest := [.ref 18]) (as := [.ref 18]) (nx := 66) (r1 := 140) (r2 := 0) (r3 := 4) rfl rfl rfl (of_decide_eq_true rfl) rfl rfl (by decide) rfl rfl (of_decide_eq_true rfl) (of_decide_eq_true rfl) ?_
        refine ct_140_18 hcr  g8    (fun z16  (fz16 : -1 ≤ z16 ∧ z16 ≤ 3) => ?_)
        refine wk_i ?_
        refine wr_V (k0 := 18) (rest := []) (as := [.ref 18, vi z16]) (nx := 69) (r1 := 142) (r2 := 1) (r3 := 4) rfl rfl rfl (of_decide_eq_true rfl) rfl rfl (by decide) rfl rfl (of_decide_eq_true rfl) (of_decide_eq_true rfl) ?_
        refine ct_142_18 hcr  g8 z16 (by omega)  (fun h17 z18 g17 u17 (fz18 : -1 ≤ z18 ∧ z18 ≤ 11) => ?_)
        have F19 := F10.then (by decide +kernel) u17
        refine wk_i ?_
        refine wi_iconst (n := (-1)) (nx := 70) (r1 := 0) (r2 := 0) (r3 := 0) rfl ?_
        refine wi_icmp (cd := .eq) (nx := 73) (r1 := 75) (r2 := 0) (r3 := 0) rfl (by omega) (by omega) (fun (q20 : z18 = (-1)) => ?_) (fun (q20 : ¬ (z18 = (-1))) => ?_)
        ·
          refine wi_aload_n (i := 0) (x := 18) (nx := 76) (r1 := 0) (r2 := 0) (r3 := 0) rfl rfl ?_
          refine wr_gr (k0 := 18) (x := 22) (nx := 79) (r1 := 4) (r2 := 4) (r3 := 0) rfl rfl (by decide) rfl ⟨rfl, rfl⟩ rfl ?_
          have b21 := gi_b (lo := 0) (hi := 12) g17 22 1 rfl
          refine wr_gi0 (k0 := 22) (x := h17 22 1) (nx := 82) (r1 := 5) (r2 := 1) (r3 := 0) rfl rfl (by decide) rfl ⟨rfl, rfl⟩ rfl rfl ?_
          refine wi_if (cd := .le) (nx := 85) (r1 := 97) (r2 := 0) (r3 := 0) rfl (by omega) (fun (q22 : (h17 22 1) ≤ 0) => ?_) (fun (q22 : ¬ ((h17 22 1) ≤ 0)) => ?_)
          ·
            refine wi_iconst (n := (-1)) (nx := 98) (r1 := 0) (r2 := 0) (r3 := 0) rfl ?_
            refine wi_ireturn (nx := 99) (r1 := 0) (r2 := 0) (r3 := 0) rfl rfl ?_
            exact k h17 (-1) g17 F19 (by omega)
          ·
            refine wi_aload_n (i := 0) (x := 18) (nx := 86) (r1 := 0) (r2 := 0) (r3 := 0) rfl rfl ?_
            refine wr_V (k0 := 18) (rest := []) (as := [.ref 18]) (nx := 89) (r1 := 133) (r2 := 0) (r3 := 4) rfl rfl rfl (of_decide_eq_true rfl) rfl rfl (by decide) rfl rfl (of_decide_eq_true rfl) (of_decide_eq_true rfl) ?_
            refine ct_133_18 hcr  g17    (fun h23 z24 g23 u23 (fz24 : -2147483647 ≤ z24 ∧ z24 ≤ 9999) => ?_)
            have F25 := F19.then (by decide +kernel) u23
            refine wk_i ?_
            refine wi_iconst (n := (-1)) (nx := 90) (r1 := 0) (r2 := 0) (r3 := 0) rfl ?_
            refine wi_icmp (cd := .eq) (nx := 93) (r1 := 97) (r2 := 0) (r3 := 0) rfl (by omega) (by omega) (fun (q26 : z24 = (-1)) => ?_) (fun (q26 : ¬ (z24 = (-1))) => ?_)
            ·
              refine wi_iconst (n := (-1)) (nx := 98) (r1 := 0) (r2 := 0) (r3 := 0) rfl ?_
              refine wi_ireturn (nx := 99) (r1 := 0) (r2 := 0) (r3 := 0) rfl rfl ?_
              exact k h23 (-1) g23 F25 (by omega)
            ·
              refine wi_iconst (n := 3) (nx := 94) (r1 := 0) (r2 := 0) (r3 := 0) rfl ?_
              refine wi_goto (nx := 97) (r1 := 98) (r2 := 0) (r3 := 0) rfl ?_
              refine wi_ireturn (nx := 99) (r1 := 0) (r2 := 0) (r3 := 0) rfl rfl ?_
              exact k h23 3 g23 F25 (by omega)
        ·
          refine wi_iconst (n := 2) (nx := 74) (r1 := 0) (r2 := 0) (r3 := 0) rfl ?_
          refine wi_ireturn (nx := 75) (r1 := 0) (r2 := 0) (r3 := 0) rfl rfl ?_
          exact k h17 2 g17 F19 (by omega)
      ·
        refine wi_aload_n (i := 0) (x := 18) (nx := 44) (r1 := 0) (r2 := 0) (r3 := 0) rfl rfl ?_
        refine wi_aload_n (i := 0) (x := 18) (nx := 45) (r1 := 0) (r2 := 0) (r3 := 0) rfl rfl ?_
        refine wi_aload_n (i := 0) (x := 18) (nx := 46) (r1 := 0) (r2 := 0) (r3 := 0) rfl rfl ?_
        refine wr_gi0 (k0 := 18) (x := h 18 7) (nx := 49) (r1 := 4) (r2 := 7) (r3 := 0) rfl rfl (by decide) rfl ⟨rfl, rfl⟩ rfl (u8 18 7 rfl) ?_
        refine wr_V (k0 := 18) (rest := [.ref 18]) (as := [.ref 18, vi (h 18 7)]) (nx := 52) (r1 := 136) (r2 := 1) (r3 := 4) rfl rfl rfl (of_decide_eq_true rfl) rfl rfl (by decide) rfl rfl (of_decide_eq_true rfl) (of_decide_eq_true rfl) ?_
        refine ct_136_18 hcr  g8 (h 18 7) (by omega)  (fun z16  (fz16 : -1 ≤ z16 ∧ z16 ≤ 3) => ?_)
        refine wk_i ?_
        refine wr_V (k0 := 18) (rest := []) (as := [.ref 18, vi z16]) (nx := 55) (r1 := 139) (r2 := 1) (r3 := 4) rfl rfl rfl (of_decide_eq_true rfl) rfl rfl (by decide) rfl rfl (of_decide_eq_true rfl) (of_decide_eq_true rfl) ?_
        refine ct_139_18 hcr  g8 z16 (by omega)  (fun h17 z18 g17 u17 (fz18 : -1 ≤ z18 ∧ z18 ≤ 11) => ?_)
        have F19 := F10.then (by decide +kernel) u17
        refine wk_i ?_
        refine wi_iconst (n := (-1)) (nx := 56) (r1 := 0) (r2 := 0) (r3 := 0) rfl ?_
        refine wi_icmp (cd := .eq) (nx := 59) (r1 := 61) (r2 := 0) (r3 := 0) rfl (by omega) (by omega) (fun (q20 : z18 = (-1)) => ?_) (fun (q20 : ¬ (z18 = (-1))) => ?_)
        ·
          refine wi_aload_n (i := 0) (x := 18) (nx := 62) (r1 := 0) (r2 := 0) (r3 := 0) rfl rfl ?_
          refine wi_aload_n (i := 0) (x := 18) (nx := 63) (r1 := 0) (r2 := 0) (r3 := 0) rfl rfl ?_
          refine wr_V (k0 := 18) (rest := [.ref 18]) (as := [.ref 18]) (nx := 66) (r1 := 140) (r2 := 0) (r3 := 4) rfl rfl rfl (of_decide_eq_true rfl) rfl rfl (by decide) rfl rfl (of_decide_eq_true rfl) (of_decide_eq_true rfl) ?_
          refine ct_140_18 hcr  g17    (fun z22  (fz22 : -1 ≤ z22 ∧ z22 ≤ 3) => ?_)
          refine wk_i ?_
          refine wr_V (k0 := 18) (rest := []) (as := [.ref 18, vi z22]) (nx := 69) (r1 := 142) (r2 := 1) (r3 := 4) rfl rfl rfl (of_decide_eq_true rfl) rfl rfl (by decide) rfl rfl (of_decide_eq_true rfl) (of_decide_eq_true rfl) ?_
          refine ct_142_18 hcr  g17 z22 (by omega)  (fun h23 z24 g23 u23 (fz24 : -1 ≤ z24 ∧ z24 ≤ 11) => ?_)
          have F25 := F19.then (by decide +kernel) u23
          refine wk_i ?_
          refine wi_iconst (n := (-1)) (nx := 70) (r1 := 0) (r2 := 0) (r3 := 0) rfl ?_
          refine wi_icmp (cd := .eq) (nx := 73) (r1 := 75) (r2 := 0) (r3 := 0) rfl (by omega) (by omega) (fun (q26 : z24 = (-1)) => ?_) (fun (q26 : ¬ (z24 = (-1))) => ?_)
          ·
            refine wi_aload_n (i := 0) (x := 18) (nx := 76) (r1 := 0) (r2 := 0) (r3 := 0) rfl rfl ?_
            refine wr_gr (k0 := 18) (x := 22) (nx := 79) (r1 := 4) (r2 := 4) (r3 := 0) rfl rfl (by decide) rfl ⟨rfl, rfl⟩ rfl ?_
            have b27 := gi_b (lo := 0) (hi := 12) g23 22 1 rfl
            refine wr_gi0 (k0 := 22) (x := h23 22 1) (nx := 82) (r1 := 5) (r2 := 1) (r3 := 0) rfl rfl (by decide) rfl ⟨rfl, rfl⟩ rfl rfl ?_
            refine wi_if (cd := .le) (nx := 85) (r1 := 97) (r2 := 0) (r3 := 0) rfl (by omega) (fun (q28 : (h23 22 1) ≤ 0) => ?_) (fun (q28 : ¬ ((h23 22 1) ≤ 0)) => ?_)
            ·
              refine wi_iconst (n := (-1)) (nx := 98) (r1 := 0) (r2 := 0) (r3 := 0) rfl ?_
              refine wi_ireturn (nx := 99) (r1 := 0) (r2 := 0) (r3 := 0) rfl rfl ?_
              exact k h23 (-1) g23 F25 (by omega)
            ·
              refine wi_aload_n (i := 0) (x := 18) (nx := 86) (r1 := 0) (r2 := 0) (r3 := 0) rfl rfl ?_
              refine wr_V (k0 := 18) (rest := []) (as := [.ref 18]) (nx := 89) (r1 := 133) (r2 := 0) (r3 := 4) rfl rfl rfl (of_decide_eq_true rfl) rfl rfl (by decide) rfl rfl (of_decide_eq_true rfl) (of_decide_eq_true rfl) ?_
              refine ct_133_18 hcr  g23    (fun h29 z30 g29 u29 (fz30 : -2147483647 ≤ z30 ∧ z30 ≤ 9999) => ?_)
              have F31 := F25.then (by decide +kernel) u29
              refine wk_i ?_
              refine wi_iconst (n := (-1)) (nx := 90) (r1 := 0) (r2 := 0) (r3 := 0) rfl ?_
              refine wi_icmp (cd := .eq) (nx := 93) (r1 := 97) (r2 := 0) (r3 := 0) rfl (by omega) (by omega) (fun (q32 : z30 = (-1)) => ?_) (fun (q32 : ¬ (z30 = (-1))) => ?_)
              ·
                refine wi_iconst (n := (-1)) (nx := 98) (r1 := 0) (r2 := 0) (r3 := 0) rfl ?_
                refine wi_ireturn (nx := 99) (r1 := 0) (r2 := 0) (r3 := 0) rfl rfl ?_
                exact k h29 (-1) g29 F31 (by omega)
              ·
                refine wi_iconst (n := 3) (nx := 94) (r1 := 0) (r2 := 0) (r3 := 0) rfl ?_
                refine wi_goto (nx := 97) (r1 := 98) (r2 := 0) (r3 := 0) rfl ?_
                refine wi_ireturn (nx := 99) (r1 := 0) (r2 := 0) (r3 := 0) rfl rfl ?_
                exact k h29 3 g29 F31 (by omega)
          ·
            refine wi_iconst (n := 2) (nx := 74) (r1 := 0) (r2 := 0) (r3 := 0) rfl ?_
            refine wi_ireturn (nx := 75) (r1 := 0) (r2 := 0) (r3 := 0) rfl rfl ?_
            exact k h23 2 g23 F25 (by omega)
        ·
          refine wi_iconst (n := 1) (nx := 60) (r1 := 0) (r2 := 0) (r3 := 0) rfl ?_
          refine wi_ireturn (nx := 61) (r1 := 0) (r2 := 0) (r3 := 0) rfl rfl ?_
          exact k h17 1 g17 F19 (by omega)
    ·
      refine wi_iconst (n := 0) (nx := 28) (r1 := 0) (r2 := 0) (r3 := 0) rfl ?_
      refine wi_ireturn (nx := 29) (r1 := 0) (r2 := 0) (r3 := 0) rfl rfl ?_
      exact k h8 0 g8 F10 (by omega)
-- method 190: Script.stepTimes(I)Z
set_option maxRecDepth 100000 in
set_option maxHeartbeats 100000000 in
theorem ct_190_68 {L : Nat} {xs : Nat → Int32} {d b c : Nat} {h : hp} {cr : Nat → Nat → Option Nat} {Q : hp_Q} (hcr : CR cr)  (g : GI h) (a0 : Int) (q0_ : -2147483648 ≤ a0 ∧ a0 ≤ 2147483647)  (k : ∀ (h2 : hp) (z0 : Int) , GI h2 → FR [(18, 36, none)] h h2 → (0 ≤ z0 ∧ z0 ≤ 1) → (z0 = 0 → 1 ≤ a0 ∧ a0 ≤ 2147483647) → Q (.inl (some (vi z0))) (hp_w h2 cr) b c) : wp (md_xa (L, xs)) (d + 4) 190 (0, [(0, .ref 68), (1, vi a0)], [], hp_w h cr, b, c) Q := by
  have F0 : FR [(18, 36, none)] h h := FR.refl
  refine wi_iconst (n := 0) (nx := 1) (r1 := 0) (r2 := 0) (r3 := 0) rfl ?_
  refine wi_istore_n (i := 2) (e := 0) (lo2 := [(2, vi 0), (0, .ref 68), (1, vi a0)]) (nx := 2) (r1 := 0) (r2 := 0) (r3 := 0) rfl rfl ?_
  refine wp.lo (lo := [(0, .ref 68), (1, vi a0), (2, vi 0)]) ⟨rfl, rfl, rfl, trivial⟩ rfl ?_
  refine wl_1 (fun x1 h2 => GI h2 ∧ FR [(18, 36, none)] h h2 ∧ FR [(18, 36, none)] h h2 ∧ ((0 ≤ x1 ∧ x1 ≤ 2147483647))) (fun x1 h2 => ((2147483647 : Int) + 1 - x1).toNat) (fun x1 h2 => (2, [(0, .ref 68), (1, vi a0), (2, vi x1)], [], hp_w h2 cr, b, c)) ?_ 0 h ⟨g, F0, FR.refl, (show (0 ≤ 0 ∧ 0 ≤ 2147483647) by omega)⟩
  intro x1 h2 ⟨g2, F3, u2, f2⟩ I2
  refine wi_iload_n (i := 2) (e := x1) (nx := 3) (r1 := 0) (r2 := 0) (r3 := 0) rfl rfl ?_
  refine wi_iload_n (i := 1) (e := a0) (nx := 4) (r1 := 0) (r2 := 0) (r3 := 0) rfl rfl ?_
  refine wi_icmp (cd := .ge) (nx := 7) (r1 := 26) (r2 := 0) (r3 := 0) rfl (by omega) (by omega) (fun (q4 : a0 ≤ x1) => ?_) (fun (q4 : ¬ (a0 ≤ x1)) => ?_)
  ·
    refine wi_iconst (n := 1) (nx := 27) (r1 := 0) (r2 := 0) (r3 := 0) rfl ?_
    refine wi_zreturn (nx := 28) (r1 := 0) (r2 := 0) (r3 := 0) rfl rfl (by omega) ?_
    exact k h2 1 g2 F3 (by omega) (fun _ => by omega)
  ·
    refine wi_aload_n (i := 0) (x := 68) (nx := 8) (r1 := 0) (r2 := 0) (r3 := 0) rfl rfl ?_
    refine wr_gr (k0 := 68) (x := 18) (nx := 11) (r1 := 8) (r2 := 1) (r3 := 0) rfl rfl (by decide) rfl ⟨rfl, rfl⟩ rfl ?_
    refine wr_V (k0 := 18) (rest := []) (as := [.ref 18]) (nx := 14) (r1 := 134) (r2 := 0) (r3 := 4) rfl rfl rfl (of_decide_eq_true rfl) rfl rfl (by decide) rfl rfl (of_decide_eq_true rfl) (of_decide_eq_true rfl) ?_
    refine ct_134_18 hcr  g2    (fun h5 z6 g5 u5 (fz6 : -1 ≤ z6 ∧ z6 ≤ 3) => ?_)
    have F7 := F3.then (by decide +kernel) u5
    have F8 := u2.then (by decide +kernel) u5
    refine wk_i ?_
    refine wi_iconst (n := (-1)) (nx := 15) (r1 := 0) (r2 := 0) (r3 := 0) rfl ?_
    refine wi_icmp (cd := .ne) (nx := 18) (r1 := 20) (r2 := 0) (r3 := 0) rfl (by omega) (by omega) (fun (q9 : z6 ≠ (-1)) => ?_) (fun (q9 : ¬ (z6 ≠ (-1))) => ?_)
    ·
      refine wr_iinc (i := 2) (n := 1) (v := x1) (fun e10 => [(2, vi e10), (0, .ref 68), (1, vi a0)]) (nx := 23) (r1 := 0) (r2 := 0) (r3 := 0) rfl rfl (fun _ => rfl) (fun e10 (fe10 : e10 = x1 + 1) => ?_)
      refine wi_goto (nx := 26) (r1 := 2) (r2 := 0) (r3 := 0) rfl ?_
      refine wp.lo (lo := [(0, .ref 68), (1, vi a0), (2, vi e10)]) ⟨rfl, rfl, rfl, trivial⟩ rfl ?_
      exact I2 e10 h5 ⟨g5, F7, F8, (show (0 ≤ e10 ∧ e10 ≤ 2147483647) by omega)⟩ (show ((2147483647 : Int) + 1 - e10).toNat < ((2147483647 : Int) + 1 - x1).toNat by omega)
    ·
      refine wi_iconst (n := 0) (nx := 19) (r1 := 0) (r2 := 0) (r3 := 0) rfl ?_
      refine wi_zreturn (nx := 20) (r1 := 0) (r2 := 0) (r3 := 0) rfl rfl (by omega) ?_
      exact k h5 0 g5 F7 (by omega) (fun _ => by omega)
-- method 145: Line.carsInLanes()I
set_option maxRecDepth 100000 in
set_option maxHeartbeats 100000000 in
theorem ct_145_18 {L : Nat} {xs : Nat → Int32} {d b c : Nat} {h : hp} {cr : Nat → Nat → Option Nat} {Q : hp_Q} (hcr : CR cr)  (g : GI h)    (k : ∀ (z0 : Int), (0 ≤ z0 ∧ z0 ≤ 48) → Q (.inl (some (vi z0))) (hp_w h cr) b c) : wp (md_xa (L, xs)) d 145 (0, [(0, .ref 18)], [], hp_w h cr, b, c) Q := by
  have F0 : FR [] h h := FR.refl
  refine wi_iconst (n := 0) (nx := 1) (r1 := 0) (r2 := 0) (r3 := 0) rfl ?_
  refine wi_istore_n (i := 1) (e := 0) (lo2 := [(1, vi 0), (0, .ref 18)]) (nx := 2) (r1 := 0) (r2 := 0) (r3 := 0) rfl rfl ?_
  refine wi_iconst (n := 0) (nx := 3) (r1 := 0) (r2 := 0) (r3 := 0) rfl ?_
  refine wi_istore_n (i := 2) (e := 0) (lo2 := [(2, vi 0), (1, vi 0), (0, .ref 18)]) (nx := 4) (r1 := 0) (r2 := 0) (r3 := 0) rfl rfl ?_
  refine wp.lo (lo := [(0, .ref 18), (1, vi 0), (2, vi 0)]) ⟨rfl, rfl, rfl, trivial⟩ rfl ?_
  refine wl_2 (fun x1 x2 h3 => h = h3 ∧ ((0 ≤ x1 ∧ x1 ≤ 48) ∧ (0 ≤ x2 ∧ x2 ≤ 4) ∧ (x1 ≤ 12 * x2))) (fun x1 x2 h3 => ((4 : Int) + 1 - x2).toNat) (fun x1 x2 h3 => (4, [(0, .ref 18), (1, vi x1), (2, vi x2)], [], hp_w h3 cr, b, c)) ?_ 0 0 h ⟨rfl, (show (0 ≤ 0 ∧ 0 ≤ 48) ∧ (0 ≤ 0 ∧ 0 ≤ 4) ∧ (0 ≤ 12 * 0) by omega)⟩
  intro x1 x2 h3 ⟨e3, f3⟩ I3
  subst e3
  refine wi_iload_n (i := 2) (e := x2) (nx := 5) (r1 := 0) (r2 := 0) (r3 := 0) rfl rfl ?_
  refine wi_aload_n (i := 0) (x := 18) (nx := 6) (r1 := 0) (r2 := 0) (r3 := 0) rfl rfl ?_
  refine wr_gr (k0 := 18) (x := 3) (nx := 9) (r1 := 4) (r2 := 0) (r3 := 0) rfl rfl (by decide) rfl ⟨rfl, rfl⟩ rfl ?_
  have b5 := gi_b (lo := 0) (hi := 4) g 3 1 rfl
  refine wr_gi0 (k0 := 3) (x := h 3 1) (nx := 12) (r1 := 2) (r2 := 1) (r3 := 0) rfl rfl (by decide) rfl ⟨rfl, rfl⟩ rfl rfl ?_
  refine wi_icmp (cd := .ge) (nx := 15) (r1 := 33) (r2 := 0) (r3 := 0) rfl (by omega) (by omega) (fun (q6 : (h 3 1) ≤ x2) => ?_) (fun (q6 : ¬ ((h 3 1) ≤ x2)) => ?_)
  ·
    refine wi_iload_n (i := 1) (e := x1) (nx := 34) (r1 := 0) (r2 := 0) (r3 := 0) rfl rfl ?_
    refine wi_ireturn (nx := 35) (r1 := 0) (r2 := 0) (r3 := 0) rfl rfl ?_
    exact k x1 (by omega)
  ·
    refine wi_iload_n (i := 1) (e := x1) (nx := 16) (r1 := 0) (r2 := 0) (r3 := 0) rfl rfl ?_
    refine wi_aload_n (i := 0) (x := 18) (nx := 17) (r1 := 0) (r2 := 0) (r3 := 0) rfl rfl ?_
    refine wr_gr (k0 := 18) (x := 21) (nx := 20) (r1 := 4) (r2 := 3) (r3 := 0) rfl rfl (by decide) rfl ⟨rfl, rfl⟩ rfl ?_
    refine wi_iload_n (i := 2) (e := x2) (nx := 21) (r1 := 0) (r2 := 0) (r3 := 0) rfl rfl ?_
    obtain ⟨i7, ei7⟩ : ∃ q : Nat, x2 = (q : Int) := ⟨(x2).toNat, by omega⟩
    refine wr_aa (k0 := 21) (a := x2) (f := i7) (x := 21 + 8 + 2 * i7) (nx := 22) (r1 := 0) (r2 := 0) (r3 := 0) rfl (by decide) rfl (Or.inl rfl) (by omega) (by omega) (by decide) (hcr.1 21 (by decide) i7 (by omega)) ?_
    obtain ⟨k8, kk8, mk8⟩ : ∃ q, Rw q ∧ q = 21 + 8 + 2 * i7 := ⟨_, rw_lane 21 (by decide) i7 (by omega), rfl⟩
    rw [← mk8]
    have b9 := gi_b (lo := 0) (hi := 12) g k8 1 kk8.2.2.2.1
    refine wr_gi0 (k0 := k8) (x := h k8 1) (nx := 25) (r1 := 5) (r2 := 1) (r3 := 0) rfl rfl kk8.k kk8.1 ⟨rfl, rfl⟩ rfl rfl ?_
    refine wr_add (nx := 26) (r1 := 0) (r2 := 0) (r3 := 0) rfl (fun e10 (fe10 : e10 = x1 + (h k8 1)) => ?_)
    refine wi_istore_n (i := 1) (e := e10) (lo2 := [(1, vi e10), (0, .ref 18), (2, vi x2)]) (nx := 27) (r1 := 0) (r2 := 0) (r3 := 0) rfl rfl ?_
    refine wr_iinc (i := 2) (n := 1) (v := x2) (fun e11 => [(2, vi e11), (1, vi e10), (0, .ref 18)]) (nx := 30) (r1 := 0) (r2 := 0) (r3 := 0) rfl rfl (fun _ => rfl) (fun e11 (fe11 : e11 = x2 + 1) => ?_)
    refine wi_goto (nx := 33) (r1 := 4) (r2 := 0) (r3 := 0) rfl ?_
    refine wp.lo (lo := [(0, .ref 18), (1, vi e10), (2, vi e11)]) ⟨rfl, rfl, rfl, trivial⟩ rfl ?_
    exact I3 e10 e11 h ⟨rfl, (show (0 ≤ e10 ∧ e10 ≤ 48) ∧ (0 ≤ e11 ∧ e11 ≤ 4) ∧ (e10 ≤ 12 * e11) by omega)⟩ (show ((4 : Int) + 1 - e11).toNat < ((4 : Int) + 1 - x2).toNat by omega)
-- method 162: Unloading.weighLanes()I
set_option maxRecDepth 100000 in
set_option maxHeartbeats 100000000 in
theorem ct_162_56 {L : Nat} {xs : Nat → Int32} {d b c : Nat} {h : hp} {cr : Nat → Nat → Option Nat} {Q : hp_Q} (hcr : CR cr)  (g : GI h)    (k : ∀ (h2 : hp) (z0 : Int) , GI h2 → FR [(59, 59, none), (60, 60, none)] h h2 → (-2147483648 ≤ z0 ∧ z0 ≤ 2147483647) → Q (.inl (some (vi z0))) (hp_w h2 cr) b c) : wp (md_xa (L, xs)) d 162 (0, [(0, .ref 56)], [], hp_w h cr, b, c) Q := by
  have F0 : FR [(59, 59, none), (60, 60, none)] h h := FR.refl
  refine wi_iconst (n := 1) (nx := 1) (r1 := 0) (r2 := 0) (r3 := 0) rfl ?_
  refine wi_istore_n (i := 1) (e := 1) (lo2 := [(1, vi 1), (0, .ref 56)]) (nx := 2) (r1 := 0) (r2 := 0) (r3 := 0) rfl rfl ?_
  refine wi_iconst (n := 0) (nx := 3) (r1 := 0) (r2 := 0) (r3 := 0) rfl ?_
  refine wi_istore_n (i := 2) (e := 0) (lo2 := [(2, vi 0), (1, vi 1), (0, .ref 56)]) (nx := 4) (r1 := 0) (r2 := 0) (r3 := 0) rfl rfl ?_
  refine wp.lo (lo := [(0, .ref 56), (1, vi 1), (2, vi 0)]) ⟨rfl, rfl, rfl, trivial⟩ rfl ?_
  refine wl_2 (fun x1 x2 h3 => GI h3 ∧ FR [(59, 59, none), (60, 60, none)] h h3 ∧ FR [(59, 59, none), (60, 60, none)] h h3 ∧ ((-2147483648 ≤ x1 ∧ x1 ≤ 2147483647) ∧ (0 ≤ x2 ∧ x2 ≤ 4))) (fun x1 x2 h3 => ((4 : Int) + 1 - x2).toNat) (fun x1 x2 h3 => (4, [(0, .ref 56), (1, vi x1), (2, vi x2)], [], hp_w h3 cr, b, c)) ?_ 1 0 h ⟨g, F0, FR.refl, (show (-2147483648 ≤ 1 ∧ 1 ≤ 2147483647) ∧ (0 ≤ 0 ∧ 0 ≤ 4) by omega)⟩
  intro x1 x2 h3 ⟨g3, F4, u3, f3⟩ I3
  refine wi_iload_n (i := 2) (e := x2) (nx := 5) (r1 := 0) (r2 := 0) (r3 := 0) rfl rfl ?_
  refine wi_iconst (n := 4) (nx := 6) (r1 := 0) (r2 := 0) (r3 := 0) rfl ?_
  refine wi_icmp (cd := .ge) (nx := 9) (r1 := 46) (r2 := 0) (r3 := 0) rfl (by omega) (by omega) (fun (q5 : 4 ≤ x2) => ?_) (fun (q5 : ¬ (4 ≤ x2)) => ?_)
  ·
    refine wi_iload_n (i := 1) (e := x1) (nx := 47) (r1 := 0) (r2 := 0) (r3 := 0) rfl rfl ?_
    refine wi_ireturn (nx := 48) (r1 := 0) (r2 := 0) (r3 := 0) rfl rfl ?_
    exact k h3 x1 g3 F4 (by omega)
  ·
    refine wi_aload_n (i := 0) (x := 56) (nx := 10) (r1 := 0) (r2 := 0) (r3 := 0) rfl rfl ?_
    refine wr_gr (k0 := 56) (x := 59) (nx := 13) (r1 := 6) (r2 := 4) (r3 := 0) rfl rfl (by decide) rfl ⟨rfl, rfl⟩ rfl ?_
    refine wi_iload_n (i := 2) (e := x2) (nx := 14) (r1 := 0) (r2 := 0) (r3 := 0) rfl rfl ?_
    refine wi_iconst (n := 0) (nx := 15) (r1 := 0) (r2 := 0) (r3 := 0) rfl ?_
    obtain ⟨i6, ei6⟩ : ∃ q : Nat, x2 = (q : Int) := ⟨(x2).toNat, by omega⟩
    refine wr_is (k0 := 59) (a := x2) (f := i6) (x := 0) (bl := -2147483648) (bh := 2147483647) (nx := 16) (r1 := 0) (r2 := 0) (r3 := 0) rfl (by decide) rfl (by omega) (by omega) (by decide) g3 rfl (by omega) (fun h7 g7 w7 u7 => ?_)
    have F8 := F4.then rfl (FR.rngp (lo := 59) (hi := 59) u7 (by decide))
    have F9 := u3.then rfl (FR.rngp (lo := 59) (hi := 59) u7 (by decide))
    refine wi_aload_n (i := 0) (x := 56) (nx := 17) (r1 := 0) (r2 := 0) (r3 := 0) rfl rfl ?_
    refine wr_gr (k0 := 56) (x := 60) (nx := 20) (r1 := 6) (r2 := 5) (r3 := 0) rfl rfl (by decide) rfl ⟨rfl, rfl⟩ rfl ?_
    refine wi_iload_n (i := 2) (e := x2) (nx := 21) (r1 := 0) (r2 := 0) (r3 := 0) rfl rfl ?_
    refine wi_iload_n (i := 1) (e := x1) (nx := 22) (r1 := 0) (r2 := 0) (r3 := 0) rfl rfl ?_
    refine wr_is (k0 := 60) (a := x2) (f := i6) (x := x1) (bl := -2147483648) (bh := 2147483647) (nx := 23) (r1 := 0) (r2 := 0) (r3 := 0) rfl (by decide) rfl (by omega) (by omega) (by decide) g7 rfl (by omega) (fun h10 g10 w10 u10 => ?_)
    have F11 := F8.then rfl (FR.rngp (lo := 60) (hi := 60) u10 (by decide))
    have F12 := F9.then rfl (FR.rngp (lo := 60) (hi := 60) u10 (by decide))
    refine wi_iload_n (i := 1) (e := x1) (nx := 24) (r1 := 0) (r2 := 0) (r3 := 0) rfl rfl ?_
    refine wi_aload_n (i := 0) (x := 56) (nx := 25) (r1 := 0) (r2 := 0) (r3 := 0) rfl rfl ?_
    refine wr_gr (k0 := 56) (x := 18) (nx := 28) (r1 := 6) (r2 := 1) (r3 := 0) rfl rfl (by decide) rfl ⟨rfl, rfl⟩ rfl ?_
    refine wr_gr (k0 := 18) (x := 21) (nx := 31) (r1 := 4) (r2 := 3) (r3 := 0) rfl rfl (by decide) rfl ⟨rfl, rfl⟩ rfl ?_
    refine wi_iload_n (i := 2) (e := x2) (nx := 32) (r1 := 0) (r2 := 0) (r3 := 0) rfl rfl ?_
    refine wr_aa (k0 := 21) (a := x2) (f := i6) (x := 21 + 8 + 2 * i6) (nx := 33) (r1 := 0) (r2 := 0) (r3 := 0) rfl (by decide) rfl (Or.inl rfl) (by omega) (by omega) (by decide) (hcr.1 21 (by decide) i6 (by omega)) ?_
    obtain ⟨k13, kk13, mk13⟩ : ∃ q, Rw q ∧ q = 21 + 8 + 2 * i6 := ⟨_, rw_lane 21 (by decide) i6 (by omega), rfl⟩
    rw [← mk13]
    have b14 := gi_b (lo := 0) (hi := 12) g k13 1 kk13.2.2.2.1
    refine wr_gi0 (k0 := k13) (x := h k13 1) (nx := 36) (r1 := 5) (r2 := 1) (r3 := 0) rfl rfl kk13.k kk13.1 ⟨rfl, rfl⟩ rfl ((u10 k13 1 (fn_a (by omega) fn_0)).trans ((u7 k13 1 (fn_a (by omega) fn_0)).trans (u3 k13 1 (fn_a (by omega) (fn_a (by omega) fn_0))))) ?_
    refine wi_iconst (n := 1) (nx := 37) (r1 := 0) (r2 := 0) (r3 := 0) rfl ?_
    refine wr_add (nx := 38) (r1 := 0) (r2 := 0) (r3 := 0) rfl (fun e15 (fe15 : e15 = (h k13 1) + 1) => ?_)
    refine wr_mulW (nx := 39) (r1 := 0) (r2 := 0) (r3 := 0) rfl (fun e16 (fe16 : -2147483648 ≤ e16 ∧ e16 ≤ 2147483647) => ?_)
    refine wi_istore_n (i := 1) (e := e16) (lo2 := [(1, vi e16), (0, .ref 56), (2, vi x2)]) (nx := 40) (r1 := 0) (r2 := 0) (r3 := 0) rfl rfl ?_
    refine wr_iinc (i := 2) (n := 1) (v := x2) (fun e17 => [(2, vi e17), (1, vi e16), (0, .ref 56)]) (nx := 43) (r1 := 0) (r2 := 0) (r3 := 0) rfl rfl (fun _ => rfl) (fun e17 (fe17 : e17 = x2 + 1) => ?_)
    refine wi_goto (nx := 46) (r1 := 4) (r2 := 0) (r3 := 0) rfl ?_
    refine wp.lo (lo := [(0, .ref 56), (1, vi e16), (2, vi e17)]) ⟨rfl, rfl, rfl, trivial⟩ rfl ?_
    exact I3 e16 e17 h10 ⟨g10, F11, F12, (show (-2147483648 ≤ e16 ∧ e16 ≤ 2147483647) ∧ (0 ≤ e17 ∧ e17 ≤ 4) by omega)⟩ (show ((4 : Int) + 1 - e17).toNat < ((4 : Int) + 1 - x2).toNat by omega)
-- method 163: Unloading.forgetWorths(I)V
set_option maxRecDepth 100000 in
set_option maxHeartbeats 100000000 in
theorem ct_163_56 {L : Nat} {xs : Nat → Int32} {d b c : Nat} {h : hp} {cr : Nat → Nat → Option Nat} {Q : hp_Q} (hcr : CR cr)  (g : GI h) (a0 : Int) (q0_ : -2147483648 ≤ a0 ∧ a0 ≤ 2147483647)  (k : ∀ (h2 : hp) , GI h2 → FR [(57, 57, none)] h h2 → Q (.inl none) (hp_w h2 cr) b c) : wp (md_xa (L, xs)) (d + 1) 163 (0, [(0, .ref 56), (1, vi a0)], [], hp_w h cr, b, c) Q := by
  have F0 : FR [(57, 57, none)] h h := FR.refl
  refine wi_iload_n (i := 1) (e := a0) (nx := 1) (r1 := 0) (r2 := 0) (r3 := 0) rfl rfl ?_
  refine wi_iconst (n := 5) (nx := 2) (r1 := 0) (r2 := 0) (r3 := 0) rfl ?_
  refine wr_mulW (nx := 3) (r1 := 0) (r2 := 0) (r3 := 0) rfl (fun e1 (fe1 : -2147483648 ≤ e1 ∧ e1 ≤ 2147483647) => ?_)
  refine wi_bipush (n := 9) (nx := 5) (r1 := 0) (r2 := 0) (r3 := 0) rfl (by decide) ?_
  refine wr_mulW (nx := 6) (r1 := 0) (r2 := 0) (r3 := 0) rfl (fun e2 (fe2 : -2147483648 ≤ e2 ∧ e2 ≤ 2147483647) => ?_)
  refine wi_aload_n (i := 0) (x := 56) (nx := 7) (r1 := 0) (r2 := 0) (r3 := 0) rfl rfl ?_
  refine wr_gr (k0 := 56) (x := 57) (nx := 10) (r1 := 6) (r2 := 2) (r3 := 0) rfl rfl (by decide) rfl ⟨rfl, rfl⟩ rfl ?_
  refine wr_al (k0 := 57) (e := 11520) (nx := 11) (r1 := 0) (r2 := 0) (r3 := 0) rfl (by decide) rfl rfl ?_
  refine wi_S (rest := []) (as := [vi e2, vi 11520]) (nx := 14) (r1 := 355) (r2 := 18) (r3 := 0) rfl rfl rfl (of_decide_eq_true rfl) rfl rfl (of_decide_eq_true rfl) (of_decide_eq_true rfl) ?_
  refine wi_iload_n (i := 0) (e := e2) (nx := 1) (r1 := 0) (r2 := 0) (r3 := 0) rfl rfl ?_
  refine wi_iload_n (i := 1) (e := 11520) (nx := 2) (r1 := 0) (r2 := 0) (r3 := 0) rfl rfl ?_
  refine wi_icmp (cd := .gt) (nx := 5) (r1 := 9) (r2 := 0) (r3 := 0) rfl (by omega) (by omega) (fun (q3 : 11520 < e2) => ?_) (fun (q3 : ¬ (11520 < e2)) => ?_)
  ·
    refine wi_iload_n (i := 1) (e := 11520) (nx := 10) (r1 := 0) (r2 := 0) (r3 := 0) rfl rfl ?_
    refine wi_ireturn (nx := 11) (r1 := 0) (r2 := 0) (r3 := 0) rfl rfl ?_
    refine wk_i ?_
    refine wi_istore_n (i := 2) (e := 11520) (lo2 := [(2, vi 11520), (0, .ref 56), (1, vi a0)]) (nx := 15) (r1 := 0) (r2 := 0) (r3 := 0) rfl rfl ?_
    refine wi_iconst (n := 0) (nx := 16) (r1 := 0) (r2 := 0) (r3 := 0) rfl ?_
    refine wi_istore_n (i := 3) (e := 0) (lo2 := [(3, vi 0), (2, vi 11520), (0, .ref 56), (1, vi a0)]) (nx := 17) (r1 := 0) (r2 := 0) (r3 := 0) rfl rfl ?_
    refine wp.lo (lo := [(0, .ref 56), (2, vi 11520), (3, vi 0)]) ⟨rfl, rfl, rfl, trivial⟩ rfl ?_
    refine wl_1 (fun x4 h5 => GI h5 ∧ FR [(57, 57, none)] h h5 ∧ FR [(57, 57, none)] h h5 ∧ ((0 ≤ x4 ∧ x4 ≤ 11520))) (fun x4 h5 => ((11520 : Int) + 1 - x4).toNat) (fun x4 h5 => (17, [(0, .ref 56), (2, vi 11520), (3, vi x4)], [], hp_w h5 cr, b, c)) ?_ 0 h ⟨g, F0, FR.refl, (show (0 ≤ 0 ∧ 0 ≤ 11520) by omega)⟩
    intro x4 h5 ⟨g5, F6, u5, f5⟩ I5
    refine wi_iload_n (i := 3) (e := x4) (nx := 18) (r1 := 0) (r2 := 0) (r3 := 0) rfl rfl ?_
    refine wi_iload_n (i := 2) (e := 11520) (nx := 19) (r1 := 0) (r2 := 0) (r3 := 0) rfl rfl ?_
    refine wi_icmp (cd := .ge) (nx := 22) (r1 := 35) (r2 := 0) (r3 := 0) rfl (by omega) (by omega) (fun (q7 : 11520 ≤ x4) => ?_) (fun (q7 : ¬ (11520 ≤ x4)) => ?_)
    ·
      refine wi_return (nx := 36) (r1 := 0) (r2 := 0) (r3 := 0) rfl rfl ?_
      exact k h5 g5 F6
    ·
      refine wi_aload_n (i := 0) (x := 56) (nx := 23) (r1 := 0) (r2 := 0) (r3 := 0) rfl rfl ?_
      refine wr_gr (k0 := 56) (x := 57) (nx := 26) (r1 := 6) (r2 := 2) (r3 := 0) rfl rfl (by decide) rfl ⟨rfl, rfl⟩ rfl ?_
      refine wi_iload_n (i := 3) (e := x4) (nx := 27) (r1 := 0) (r2 := 0) (r3 := 0) rfl rfl ?_
      refine wi_iconst (n := (-1)) (nx := 28) (r1 := 0) (r2 := 0) (r3 := 0) rfl ?_
      obtain ⟨i8, ei8⟩ : ∃ q : Nat, x4 = (q : Int) := ⟨(x4).toNat, by omega⟩
      refine wr_is (k0 := 57) (a := x4) (f := i8) (x := -1) (bl := -2147483648) (bh := 2147483647) (nx := 29) (r1 := 0) (r2 := 0) (r3 := 0) rfl (by decide) rfl (by omega) (by omega) (by decide) g5 rfl (by omega) (fun h9 g9 w9 u9 => ?_)
      have F10 := F6.then rfl (FR.rngp (lo := 57) (hi := 57) u9 (by decide))
      have F11 := u5.then rfl (FR.rngp (lo := 57) (hi := 57) u9 (by decide))
      refine wr_iinc (i := 3) (n := 1) (v := x4) (fun e12 => [(3, vi e12), (0, .ref 56), (2, vi 11520)]) (nx := 32) (r1 := 0) (r2 := 0) (r3 := 0) rfl rfl (fun _ => rfl) (fun e12 (fe12 : e12 = x4 + 1) => ?_)
      refine wi_goto (nx := 35) (r1 := 17) (r2 := 0) (r3 := 0) rfl ?_
      refine wp.lo (lo := [(0, .ref 56), (2, vi 11520), (3, vi e12)]) ⟨rfl, rfl, rfl, trivial⟩ rfl ?_
      exact I5 e12 h9 ⟨g9, F10, F11, (show (0 ≤ e12 ∧ e12 ≤ 11520) by omega)⟩ (show ((11520 : Int) + 1 - e12).toNat < ((11520 : Int) + 1 - x4).toNat by omega)
  ·
    refine wi_iload_n (i := 0) (e := e2) (nx := 6) (r1 := 0) (r2 := 0) (r3 := 0) rfl rfl ?_
    refine wi_goto (nx := 9) (r1 := 10) (r2 := 0) (r3 := 0) rfl ?_
    refine wi_ireturn (nx := 11) (r1 := 0) (r2 := 0) (r3 := 0) rfl rfl ?_
    refine wk_i ?_
    refine wi_istore_n (i := 2) (e := e2) (lo2 := [(2, vi e2), (0, .ref 56), (1, vi a0)]) (nx := 15) (r1 := 0) (r2 := 0) (r3 := 0) rfl rfl ?_
    refine wi_iconst (n := 0) (nx := 16) (r1 := 0) (r2 := 0) (r3 := 0) rfl ?_
    refine wi_istore_n (i := 3) (e := 0) (lo2 := [(3, vi 0), (2, vi e2), (0, .ref 56), (1, vi a0)]) (nx := 17) (r1 := 0) (r2 := 0) (r3 := 0) rfl rfl ?_
    refine wp.lo (lo := [(0, .ref 56), (2, vi e2), (3, vi 0)]) ⟨rfl, rfl, rfl, trivial⟩ rfl ?_
    refine wl_1 (fun x4 h5 => GI h5 ∧ FR [(57, 57, none)] h h5 ∧ FR [(57, 57, none)] h h5 ∧ ((0 ≤ x4 ∧ x4 ≤ 11520))) (fun x4 h5 => ((11520 : Int) + 1 - x4).toNat) (fun x4 h5 => (17, [(0, .ref 56), (2, vi e2), (3, vi x4)], [], hp_w h5 cr, b, c)) ?_ 0 h ⟨g, F0, FR.refl, (show (0 ≤ 0 ∧ 0 ≤ 11520) by omega)⟩
    intro x4 h5 ⟨g5, F6, u5, f5⟩ I5
    refine wi_iload_n (i := 3) (e := x4) (nx := 18) (r1 := 0) (r2 := 0) (r3 := 0) rfl rfl ?_
    refine wi_iload_n (i := 2) (e := e2) (nx := 19) (r1 := 0) (r2 := 0) (r3 := 0) rfl rfl ?_
    refine wi_icmp (cd := .ge) (nx := 22) (r1 := 35) (r2 := 0) (r3 := 0) rfl (by omega) (by omega) (fun (q7 : e2 ≤ x4) => ?_) (fun (q7 : ¬ (e2 ≤ x4)) => ?_)
    ·
      refine wi_return (nx := 36) (r1 := 0) (r2 := 0) (r3 := 0) rfl rfl ?_
      exact k h5 g5 F6
    ·
      refine wi_aload_n (i := 0) (x := 56) (nx := 23) (r1 := 0) (r2 := 0) (r3 := 0) rfl rfl ?_
      refine wr_gr (k0 := 56) (x := 57) (nx := 26) (r1 := 6) (r2 := 2) (r3 := 0) rfl rfl (by decide) rfl ⟨rfl, rfl⟩ rfl ?_
      refine wi_iload_n (i := 3) (e := x4) (nx := 27) (r1 := 0) (r2 := 0) (r3 := 0) rfl rfl ?_
      refine wi_iconst (n := (-1)) (nx := 28) (r1 := 0) (r2 := 0) (r3 := 0) rfl ?_
      obtain ⟨i8, ei8⟩ : ∃ q : Nat, x4 = (q : Int) := ⟨(x4).toNat, by omega⟩
      refine wr_is (k0 := 57) (a := x4) (f := i8) (x := -1) (bl := -2147483648) (bh := 2147483647) (nx := 29) (r1 := 0) (r2 := 0) (r3 := 0) rfl (by decide) rfl (by omega) (by omega) (by decide) g5 rfl (by omega) (fun h9 g9 w9 u9 => ?_)
      have F10 := F6.then rfl (FR.rngp (lo := 57) (hi := 57) u9 (by decide))
      have F11 := u5.then rfl (FR.rngp (lo := 57) (hi := 57) u9 (by decide))
      refine wr_iinc (i := 3) (n := 1) (v := x4) (fun e12 => [(3, vi e12), (0, .ref 56), (2, vi e2)]) (nx := 32) (r1 := 0) (r2 := 0) (r3 := 0) rfl rfl (fun _ => rfl) (fun e12 (fe12 : e12 = x4 + 1) => ?_)
      refine wi_goto (nx := 35) (r1 := 17) (r2 := 0) (r3 := 0) rfl ?_
      refine wp.lo (lo := [(0, .ref 56), (2, vi e2), (3, vi e12)]) ⟨rfl, rfl, rfl, trivial⟩ rfl ?_
      exact I5 e12 h9 ⟨g9, F10, F11, (show (0 ≤ e12 ∧ e12 ≤ 11520) by omega)⟩ (show ((11520 : Int) + 1 - e12).toNat < ((11520 : Int) + 1 - x4).toNat by omega)
-- method 165: Unloading.keyOf(III)I
set_option maxRecDepth 100000 in
set_option maxHeartbeats 100000000 in
theorem ct_165_56 {L : Nat} {xs : Nat → Int32} {d b c : Nat} {h : hp} {cr : Nat → Nat → Option Nat} {Q : hp_Q} (hcr : CR cr)  (g : GI h) (a0 : Int) (a1 : Int) (a2 : Int) (q0_ : -2147483648 ≤ a0 ∧ a0 ≤ 2147483647) (q1_ : -2147483648 ≤ a1 ∧ a1 ≤ 2147483647) (q2_ : -2147483648 ≤ a2 ∧ a2 ≤ 2147483647)  (k : ∀ (z0 : Int), (0 ≤ z0 ∧ z0 ≤ 11519) → Q (.inl (some (vi z0))) (hp_w h cr) b c) : wp (md_xa (L, xs)) (d + 1) 165 (0, [(0, .ref 56), (1, vi a0), (2, vi a1), (3, vi a2)], [], hp_w h cr, b, c) Q := by
  have F0 : FR [] h h := FR.refl
  refine wi_iload_n (i := 1) (e := a0) (nx := 1) (r1 := 0) (r2 := 0) (r3 := 0) rfl rfl ?_
  refine wi_if (cd := .ne) (nx := 4) (r1 := 8) (r2 := 0) (r3 := 0) rfl (by omega) (fun (q1 : a0 ≠ 0) => ?_) (fun (q1 : ¬ (a0 ≠ 0)) => ?_)
  ·
    refine wi_iload_n (i := 1) (e := a0) (nx := 9) (r1 := 0) (r2 := 0) (r3 := 0) rfl rfl ?_
    refine wi_iconst (n := 5) (nx := 10) (r1 := 0) (r2 := 0) (r3 := 0) rfl ?_
    refine wr_mulW (nx := 11) (r1 := 0) (r2 := 0) (r3 := 0) rfl (fun e2 (fe2 : -2147483648 ≤ e2 ∧ e2 ≤ 2147483647) => ?_)
    refine wi_iload_n (i := 2) (e := a1) (nx := 12) (r1 := 0) (r2 := 0) (r3 := 0) rfl rfl ?_
    refine wr_addW (nx := 13) (r1 := 0) (r2 := 0) (r3 := 0) rfl (fun e3 (fe3 : -2147483648 ≤ e3 ∧ e3 ≤ 2147483647) => ?_)
    refine wi_bipush (n := 9) (nx := 15) (r1 := 0) (r2 := 0) (r3 := 0) rfl (by decide) ?_
    refine wr_mulW (nx := 16) (r1 := 0) (r2 := 0) (r3 := 0) rfl (fun e4 (fe4 : -2147483648 ≤ e4 ∧ e4 ≤ 2147483647) => ?_)
    refine wi_iload_n (i := 3) (e := a2) (nx := 17) (r1 := 0) (r2 := 0) (r3 := 0) rfl rfl ?_
    refine wr_addW (nx := 18) (r1 := 0) (r2 := 0) (r3 := 0) rfl (fun e5 (fe5 : -2147483648 ≤ e5 ∧ e5 ≤ 2147483647) => ?_)
    refine wi_iconst (n := 1) (nx := 19) (r1 := 0) (r2 := 0) (r3 := 0) rfl ?_
    refine wr_subW (nx := 20) (r1 := 0) (r2 := 0) (r3 := 0) rfl (fun e6 (fe6 : -2147483648 ≤ e6 ∧ e6 ≤ 2147483647) => ?_)
    refine wi_istore (i := 4) (e := e6) (lo2 := [(4, vi e6), (0, .ref 56), (1, vi a0), (2, vi a1), (3, vi a2)]) (nx := 22) (r1 := 0) (r2 := 0) (r3 := 0) rfl rfl ?_
    refine wi_iload (i := 4) (e := e6) (nx := 24) (r1 := 0) (r2 := 0) (r3 := 0) rfl rfl ?_
    refine wi_iconst (n := 0) (nx := 25) (r1 := 0) (r2 := 0) (r3 := 0) rfl ?_
    refine wi_S (rest := []) (as := [vi e6, vi 0]) (nx := 28) (r1 := 354) (r2 := 18) (r3 := 0) rfl rfl rfl (of_decide_eq_true rfl) rfl rfl (of_decide_eq_true rfl) (of_decide_eq_true rfl) ?_
    refine wi_iload_n (i := 0) (e := e6) (nx := 1) (r1 := 0) (r2 := 0) (r3 := 0) rfl rfl ?_
    refine wi_iload_n (i := 1) (e := 0) (nx := 2) (r1 := 0) (r2 := 0) (r3 := 0) rfl rfl ?_
    refine wi_icmp (cd := .lt) (nx := 5) (r1 := 9) (r2 := 0) (r3 := 0) rfl (by omega) (by omega) (fun (q7 : e6 < 0) => ?_) (fun (q7 : ¬ (e6 < 0)) => ?_)
    ·
      refine wi_iload_n (i := 1) (e := 0) (nx := 10) (r1 := 0) (r2 := 0) (r3 := 0) rfl rfl ?_
      refine wi_ireturn (nx := 11) (r1 := 0) (r2 := 0) (r3 := 0) rfl rfl ?_
      refine wk_i ?_
      refine wi_aload_n (i := 0) (x := 56) (nx := 29) (r1 := 0) (r2 := 0) (r3 := 0) rfl rfl ?_
      refine wr_gr (k0 := 56) (x := 57) (nx := 32) (r1 := 6) (r2 := 2) (r3 := 0) rfl rfl (by decide) rfl ⟨rfl, rfl⟩ rfl ?_
      refine wr_al (k0 := 57) (e := 11520) (nx := 33) (r1 := 0) (r2 := 0) (r3 := 0) rfl (by decide) rfl rfl ?_
      refine wi_iconst (n := 1) (nx := 34) (r1 := 0) (r2 := 0) (r3 := 0) rfl ?_
      refine wr_subL (11519) (nx := 35) (r1 := 0) (r2 := 0) (r3 := 0) rfl (by decide) ?_
      refine wi_S (rest := []) (as := [vi 0, vi 11519]) (nx := 38) (r1 := 355) (r2 := 18) (r3 := 0) rfl rfl rfl (of_decide_eq_true rfl) rfl rfl (of_decide_eq_true rfl) (of_decide_eq_true rfl) ?_
      refine wi_iload_n (i := 0) (e := 0) (nx := 1) (r1 := 0) (r2 := 0) (r3 := 0) rfl rfl ?_
      refine wi_iload_n (i := 1) (e := 11519) (nx := 2) (r1 := 0) (r2 := 0) (r3 := 0) rfl rfl ?_
      refine wi_icmp (cd := .gt) (nx := 5) (r1 := 9) (r2 := 0) (r3 := 0) rfl (by omega) (by omega) (fun (q8 : 11519 < 0) => by exfalso; omega) (fun (q8 : ¬ (11519 < 0)) => ?_)
      refine wi_iload_n (i := 0) (e := 0) (nx := 6) (r1 := 0) (r2 := 0) (r3 := 0) rfl rfl ?_
      refine wi_goto (nx := 9) (r1 := 10) (r2 := 0) (r3 := 0) rfl ?_
      refine wi_ireturn (nx := 11) (r1 := 0) (r2 := 0) (r3 := 0) rfl rfl ?_
      refine wk_i ?_
      refine wi_ireturn (nx := 39) (r1 := 0) (r2 := 0) (r3 := 0) rfl rfl ?_
      exact k 0 (by omega)
    ·
      refine wi_iload_n (i := 0) (e := e6) (nx := 6) (r1 := 0) (r2 := 0) (r3 := 0) rfl rfl ?_
      refine wi_goto (nx := 9) (r1 := 10) (r2 := 0) (r3 := 0) rfl ?_
      refine wi_ireturn (nx := 11) (r1 := 0) (r2 := 0) (r3 := 0) rfl rfl ?_
      refine wk_i ?_
      refine wi_aload_n (i := 0) (x := 56) (nx := 29) (r1 := 0) (r2 := 0) (r3 := 0) rfl rfl ?_
      refine wr_gr (k0 := 56) (x := 57) (nx := 32) (r1 := 6) (r2 := 2) (r3 := 0) rfl rfl (by decide) rfl ⟨rfl, rfl⟩ rfl ?_
      refine wr_al (k0 := 57) (e := 11520) (nx := 33) (r1 := 0) (r2 := 0) (r3 := 0) rfl (by decide) rfl rfl ?_
      refine wi_iconst (n := 1) (nx := 34) (r1 := 0) (r2 := 0) (r3 := 0) rfl ?_
      refine wr_subL (11519) (nx := 35) (r1 := 0) (r2 := 0) (r3 := 0) rfl (by decide) ?_
      refine wi_S (rest := []) (as := [vi e6, vi 11519]) (nx := 38) (r1 := 355) (r2 := 18) (r3 := 0) rfl rfl rfl (of_decide_eq_true rfl) rfl rfl (of_decide_eq_true rfl) (of_decide_eq_true rfl) ?_
      refine wi_iload_n (i := 0) (e := e6) (nx := 1) (r1 := 0) (r2 := 0) (r3 := 0) rfl rfl ?_
      refine wi_iload_n (i := 1) (e := 11519) (nx := 2) (r1 := 0) (r2 := 0) (r3 := 0) rfl rfl ?_
      refine wi_icmp (cd := .gt) (nx := 5) (r1 := 9) (r2 := 0) (r3 := 0) rfl (by omega) (by omega) (fun (q8 : 11519 < e6) => ?_) (fun (q8 : ¬ (11519 < e6)) => ?_)
      ·
        refine wi_iload_n (i := 1) (e := 11519) (nx := 10) (r1 := 0) (r2 := 0) (r3 := 0) rfl rfl ?_
        refine wi_ireturn (nx := 11) (r1 := 0) (r2 := 0) (r3 := 0) rfl rfl ?_
        refine wk_i ?_
        refine wi_ireturn (nx := 39) (r1 := 0) (r2 := 0) (r3 := 0) rfl rfl ?_
        exact k 11519 (by omega)
      ·
        refine wi_iload_n (i := 0) (e := e6) (nx := 6) (r1 := 0) (r2 := 0) (r3 := 0) rfl rfl ?_
        refine wi_goto (nx := 9) (r1 := 10) (r2 := 0) (r3 := 0) rfl ?_
        refine wi_ireturn (nx := 11) (r1 := 0) (r2 := 0) (r3 := 0) rfl rfl ?_
        refine wk_i ?_
        refine wi_ireturn (nx := 39) (r1 := 0) (r2 := 0) (r3 := 0) rfl rfl ?_
        exact k e6 (by omega)
  ·
    refine wi_iconst (n := 0) (nx := 5) (r1 := 0) (r2 := 0) (r3 := 0) rfl ?_
    refine wi_goto (nx := 8) (r1 := 20) (r2 := 0) (r3 := 0) rfl ?_
    refine wi_istore (i := 4) (e := 0) (lo2 := [(4, vi 0), (0, .ref 56), (1, vi a0), (2, vi a1), (3, vi a2)]) (nx := 22) (r1 := 0) (r2 := 0) (r3 := 0) rfl rfl ?_
    refine wi_iload (i := 4) (e := 0) (nx := 24) (r1 := 0) (r2 := 0) (r3 := 0) rfl rfl ?_
    refine wi_iconst (n := 0) (nx := 25) (r1 := 0) (r2 := 0) (r3 := 0) rfl ?_
    refine wi_S (rest := []) (as := [vi 0, vi 0]) (nx := 28) (r1 := 354) (r2 := 18) (r3 := 0) rfl rfl rfl (of_decide_eq_true rfl) rfl rfl (of_decide_eq_true rfl) (of_decide_eq_true rfl) ?_
    refine wi_iload_n (i := 0) (e := 0) (nx := 1) (r1 := 0) (r2 := 0) (r3 := 0) rfl rfl ?_
    refine wi_iload_n (i := 1) (e := 0) (nx := 2) (r1 := 0) (r2 := 0) (r3 := 0) rfl rfl ?_
    refine wi_icmp (cd := .lt) (nx := 5) (r1 := 9) (r2 := 0) (r3 := 0) rfl (by omega) (by omega) (fun (q2 : 0 < 0) => by exfalso; omega) (fun (q2 : ¬ (0 < 0)) => ?_)
    refine wi_iload_n (i := 0) (e := 0) (nx := 6) (r1 := 0) (r2 := 0) (r3 := 0) rfl rfl ?_
    refine wi_goto (nx := 9) (r1 := 10) (r2 := 0) (r3 := 0) rfl ?_
    refine wi_ireturn (nx := 11) (r1 := 0) (r2 := 0) (r3 := 0) rfl rfl ?_
    refine wk_i ?_
    refine wi_aload_n (i := 0) (x := 56) (nx := 29) (r1 := 0) (r2 := 0) (r3 := 0) rfl rfl ?_
    refine wr_gr (k0 := 56) (x := 57) (nx := 32) (r1 := 6) (r2 := 2) (r3 := 0) rfl rfl (by decide) rfl ⟨rfl, rfl⟩ rfl ?_
    refine wr_al (k0 := 57) (e := 11520) (nx := 33) (r1 := 0) (r2 := 0) (r3 := 0) rfl (by decide) rfl rfl ?_
    refine wi_iconst (n := 1) (nx := 34) (r1 := 0) (r2 := 0) (r3 := 0) rfl ?_
    refine wr_subL (11519) (nx := 35) (r1 := 0) (r2 := 0) (r3 := 0) rfl (by decide) ?_
    refine wi_S (rest := []) (as := [vi 0, vi 11519]) (nx := 38) (r1 := 355) (r2 := 18) (r3 := 0) rfl rfl rfl (of_decide_eq_true rfl) rfl rfl (of_decide_eq_true rfl) (of_decide_eq_true rfl) ?_
    refine wi_iload_n (i := 0) (e := 0) (nx := 1) (r1 := 0) (r2 := 0) (r3 := 0) rfl rfl ?_
    refine wi_iload_n (i := 1) (e := 11519) (nx := 2) (r1 := 0) (r2 := 0) (r3 := 0) rfl rfl ?_
    refine wi_icmp (cd := .gt) (nx := 5) (r1 := 9) (r2 := 0) (r3 := 0) rfl (by omega) (by omega) (fun (q3 : 11519 < 0) => by exfalso; omega) (fun (q3 : ¬ (11519 < 0)) => ?_)
    refine wi_iload_n (i := 0) (e := 0) (nx := 6) (r1 := 0) (r2 := 0) (r3 := 0) rfl rfl ?_
    refine wi_goto (nx := 9) (r1 := 10) (r2 := 0) (r3 := 0) rfl ?_
    refine wi_ireturn (nx := 11) (r1 := 0) (r2 := 0) (r3 := 0) rfl rfl ?_
    refine wk_i ?_
    refine wi_ireturn (nx := 39) (r1 := 0) (r2 := 0) (r3 := 0) rfl rfl ?_
    exact k 0 (by omega)
-- method 167: Unloading.fitsOut(II)Z
set_option maxRecDepth 100000 in
set_option maxHeartbeats 100000000 in
theorem ct_167_56 {L : Nat} {xs : Nat → Int32} {d b c : Nat} {h : hp} {cr : Nat → Nat → Option Nat} {Q : hp_Q} (hcr : CR cr)  (g : GI h) (a0 : Int) (a1 : Int) (q0_ : -2147483648 ≤ a0 ∧ a0 ≤ 2147483647) (q1_ : -2147483648 ≤ a1 ∧ a1 ≤ 2147483647)  (k : ∀ (z0 : Int), (0 ≤ z0 ∧ z0 ≤ 1) → Q (.inl (some (vi z0))) (hp_w h cr) b c) : wp (md_xa (L, xs)) d 167 (0, [(0, .ref 56), (1, vi a0), (2, vi a1)], [], hp_w h cr, b, c) Q := by
  have F0 : FR [] h h := FR.refl
  refine wi_iload_n (i := 2) (e := a1) (nx := 1) (r1 := 0) (r2 := 0) (r3 := 0) rfl rfl ?_
  refine wi_iload_n (i := 1) (e := a0) (nx := 2) (r1 := 0) (r2 := 0) (r3 := 0) rfl rfl ?_
  refine wi_aload_n (i := 0) (x := 56) (nx := 3) (r1 := 0) (r2 := 0) (r3 := 0) rfl rfl ?_
  refine wr_gr (k0 := 56) (x := 3) (nx := 6) (r1 := 6) (r2 := 0) (r3 := 0) rfl rfl (by decide) rfl ⟨rfl, rfl⟩ rfl ?_
  have b1 := gi_b (lo := -2147483648) (hi := 2147483647) g 3 3 rfl
  refine wr_gi0 (k0 := 3) (x := h 3 3) (nx := 9) (r1 := 2) (r2 := 3) (r3 := 0) rfl rfl (by decide) rfl ⟨rfl, rfl⟩ rfl rfl ?_
  refine wr_subW (nx := 10) (r1 := 0) (r2 := 0) (r3 := 0) rfl (fun e2 (fe2 : -2147483648 ≤ e2 ∧ e2 ≤ 2147483647) => ?_)
  refine wi_icmp (cd := .lt) (nx := 13) (r1 := 30) (r2 := 0) (r3 := 0) rfl (by omega) (by omega) (fun (q3 : a1 < e2) => ?_) (fun (q3 : ¬ (a1 < e2)) => ?_)
  ·
    refine wi_iconst (n := 0) (nx := 31) (r1 := 0) (r2 := 0) (r3 := 0) rfl ?_
    refine wi_zreturn (nx := 32) (r1 := 0) (r2 := 0) (r3 := 0) rfl rfl (by omega) ?_
    exact k 0 (by omega)
  ·
    refine wi_iload_n (i := 2) (e := a1) (nx := 14) (r1 := 0) (r2 := 0) (r3 := 0) rfl rfl ?_
    refine wi_iload_n (i := 1) (e := a0) (nx := 15) (r1 := 0) (r2 := 0) (r3 := 0) rfl rfl ?_
    refine wi_aload_n (i := 0) (x := 56) (nx := 16) (r1 := 0) (r2 := 0) (r3 := 0) rfl rfl ?_
    refine wr_gr (k0 := 56) (x := 3) (nx := 19) (r1 := 6) (r2 := 0) (r3 := 0) rfl rfl (by decide) rfl ⟨rfl, rfl⟩ rfl ?_
    have b4 := gi_b (lo := -2147483648) (hi := 2147483647) g 3 4 rfl
    refine wr_gi0 (k0 := 3) (x := h 3 4) (nx := 22) (r1 := 2) (r2 := 4) (r3 := 0) rfl rfl (by decide) rfl ⟨rfl, rfl⟩ rfl rfl ?_
    refine wr_addW (nx := 23) (r1 := 0) (r2 := 0) (r3 := 0) rfl (fun e5 (fe5 : -2147483648 ≤ e5 ∧ e5 ≤ 2147483647) => ?_)
    refine wi_icmp (cd := .gt) (nx := 26) (r1 := 30) (r2 := 0) (r3 := 0) rfl (by omega) (by omega) (fun (q6 : e5 < a1) => ?_) (fun (q6 : ¬ (e5 < a1)) => ?_)
    ·
      refine wi_iconst (n := 0) (nx := 31) (r1 := 0) (r2 := 0) (r3 := 0) rfl ?_
      refine wi_zreturn (nx := 32) (r1 := 0) (r2 := 0) (r3 := 0) rfl rfl (by omega) ?_
      exact k 0 (by omega)
    ·
      refine wi_iconst (n := 1) (nx := 27) (r1 := 0) (r2 := 0) (r3 := 0) rfl ?_
      refine wi_goto (nx := 30) (r1 := 31) (r2 := 0) (r3 := 0) rfl ?_
      refine wi_zreturn (nx := 32) (r1 := 0) (r2 := 0) (r3 := 0) rfl rfl (by omega) ?_
      exact k 1 (by omega)
