-- method 119: SetupReader.readColor()Z
set_option maxRecDepth 100000 in
set_option maxHeartbeats 100000000 in
theorem ct_119_10 {L : Nat} {xs : Nat → Int32} {d b c : Nat} {h : hp} {cr : Nat → Nat → Option Nat} {Q : hp_Q} (hcr : CR cr)  {tB : Nat → Int} {tn tp : Int} {tS : tk_S} (g : GI h)   (pp0 : h 1 4 = tk_nx tB tn tp) (pp1 : h 1 6 = tk_st tB tn tp) (pp2 : h 1 2 = 0) (pp3 : h 1 3 = -1) (pp4 : 0 ≤ tp) (pp5 : tp ≤ tn) (pp6 : tp ≤ tk_nx tB tn tp ∧ tk_nx tB tn tp ≤ tn) (pp7 : tS 0 ≤ 5 ∧ tS 1 ≤ 4 ∧ tS 2 ≤ 12) (xq0 : BufC tB tn h) (xq1 : CVc tS h) (k : ∀ (h2 : hp) (z0 : Int) , GI h2 → FR [(12, 12, none), (13, 13, none), (1, 1, some (2, 2)), (1, 1, some (3, 3)), (1, 1, some (4, 4)), (1, 1, some (5, 5)), (1, 1, some (6, 6)), (1, 1, some (7, 7)), (1, 1, some (8, 8)), (1, 1, some (9, 9)), (11, 11, some (0, 0))] h h2 → (0 ≤ z0 ∧ z0 ≤ 1) → (tk_O (tk_color tB tn tp tS) z0 h2) → Q (.inl (some (vi z0))) (hp_w h2 cr) b c) : wp (md_xa (L, xs)) (d + 4) 119 (0, [(0, .ref 10)], [], hp_w h cr, b, c) Q := by
  have F0 : FR [(12, 12, none), (13, 13, none), (1, 1, some (2, 2)), (1, 1, some (3, 3)), (1, 1, some (4, 4)), (1, 1, some (5, 5)), (1, 1, some (6, 6)), (1, 1, some (7, 7)), (1, 1, some (8, 8)), (1, 1, some (9, 9)), (11, 11, some (0, 0))] h h := FR.refl
  have tb_1 : h 1 1 = tn := xq0.2.1
  have tb_2 : 0 ≤ tn ∧ tn ≤ 800 := xq0.2.2
  obtain ⟨⟨cv_0, cv_1, cv_2, cv_3, cv_4, cv_5, cv_6, cv_7, cv_8, cv_9⟩, ⟨cf_2, cf_3, cf_4, cf_5⟩, -⟩ := id xq1
  have b1 := gi_b (lo := 0) (hi := 5) g 11 0 rfl
  have b2 := gi_b (lo := 0) (hi := 4) g 11 1 rfl
  have b3 := gi_b (lo := 0) (hi := 12) g 11 2 rfl
  have b4 := gi_b (lo := 0) (hi := 800) g 1 4 rfl
  have b5 := gi_b (lo := 0) (hi := 800) g 1 6 rfl
  have b6 := gi_b (lo := -2147483648) (hi := 2147483647) g 1 2 rfl
  have b7 := gi_b (lo := -2147483648) (hi := 2147483647) g 1 3 rfl
  refine wi_aload_n (i := 0) (x := 10) (nx := 1) (r1 := 0) (r2 := 0) (r3 := 0) rfl rfl ?_
  refine wr_gr (k0 := 10) (x := 11) (nx := 4) (r1 := 3) (r2 := 0) (r3 := 0) rfl rfl (by decide) rfl ⟨rfl, rfl⟩ rfl ?_
  refine wr_gi0 (k0 := 11) (x := h 11 0) (nx := 7) (r1 := 2) (r2 := 0) (r3 := 0) rfl rfl (by decide) rfl ⟨rfl, rfl⟩ rfl rfl ?_
  refine wi_istore_n (i := 1) (e := h 11 0) (lo2 := [(1, vi (h 11 0)), (0, .ref 10)]) (nx := 8) (r1 := 0) (r2 := 0) (r3 := 0) rfl rfl ?_
  refine wi_iload_n (i := 1) (e := h 11 0) (nx := 9) (r1 := 0) (r2 := 0) (r3 := 0) rfl rfl ?_
  refine wi_iconst (n := 5) (nx := 10) (r1 := 0) (r2 := 0) (r3 := 0) rfl ?_
  refine wi_icmp (cd := .lt) (nx := 13) (r1 := 22) (r2 := 0) (r3 := 0) rfl (by omega) (by omega) (fun (q8 : (h 11 0) < 5) => ?_) (fun (q8 : ¬ ((h 11 0) < 5)) => ?_)
  ·
    refine wi_aload_n (i := 0) (x := 10) (nx := 23) (r1 := 0) (r2 := 0) (r3 := 0) rfl rfl ?_
    refine wr_gr (k0 := 10) (x := 1) (nx := 26) (r1 := 3) (r2 := 1) (r3 := 0) rfl rfl (by decide) rfl ⟨rfl, rfl⟩ rfl ?_
    refine wr_gst (v := wv 21) (nx := 29) (r1 := 20) (r2 := 0) (r3 := 0) rfl rfl rfl ?_
    refine wr_V (k0 := 1) (rest := []) (as := [.ref 1, wv 21]) (nx := 32) (r1 := 102) (r2 := 1) (r3 := 1) rfl rfl rfl (of_decide_eq_true rfl) rfl rfl (by decide) rfl rfl (of_decide_eq_true rfl) (of_decide_eq_true rfl) ?_
    refine ct_102_1 hcr  g 21 (by omega) (show (h 1 4) = (tk_nx tB tn tp) by omega) (show 0 ≤ (tk_nx tB tn tp) by omega) (show (tk_nx tB tn tp) ≤ tn by omega) xq0 (fun h9 z10 g9 u9 (fz10 : 0 ≤ z10 ∧ z10 ≤ 1) (p9_0 : (z10 = 1 ∧ tk_kd tB tn (tk_nx tB tn tp) = 1 ∧ tk_wd (tk_lw tB tn (tk_nx tB tn tp)) = 21 ∧ (h9 1 4) = tk_nx tB tn (tk_nx tB tn tp) ∧ (h9 1 6) = tk_st tB tn (tk_nx tB tn tp) ∧ (h9 1 8) = tk_lw tB tn (tk_nx tB tn tp) ∧ (h9 1 2) = (h 1 2) ∧ (h9 1 3) = (h 1 3)) ∨ (z10 = 0 ∧ (tk_kd tB tn (tk_nx tB tn tp) ≠ 1 ∨ tk_wd (tk_lw tB tn (tk_nx tB tn tp)) ≠ 21) ∧ (h9 1 2) = 1 ∧ (h9 1 3) = tk_st tB tn (tk_nx tB tn tp))) => ?_)
    have F11 := F0.then (by decide +kernel) u9
    have b12 := gi_b (lo := 0) (hi := 800) g9 1 4 rfl
    have b13 := gi_b (lo := 0) (hi := 800) g9 1 6 rfl
    have b14 := gi_b (lo := -9223372036854775808) (hi := 9223372036854775807) g9 1 8 rfl
    have b15 := gi_b (lo := -2147483648) (hi := 2147483647) g9 1 2 rfl
    have b16 := gi_b (lo := -2147483648) (hi := 2147483647) g9 1 3 rfl
    have tN17 := @tk_nx_b tB tn (tk_nx tB tn tp) (by omega) (by omega)
    refine wk_i ?_
    refine wi_if (cd := .ne) (nx := 35) (r1 := 37) (r2 := 0) (r3 := 0) rfl (by omega) (fun (q18 : z10 ≠ 0) => ?_) (fun (q18 : ¬ (z10 ≠ 0)) => ?_)
    ·
      refine wi_aload_n (i := 0) (x := 10) (nx := 38) (r1 := 0) (r2 := 0) (r3 := 0) rfl rfl ?_
      refine wr_gr (k0 := 10) (x := 11) (nx := 41) (r1 := 3) (r2 := 0) (r3 := 0) rfl rfl (by decide) rfl ⟨rfl, rfl⟩ rfl ?_
      refine wi_aload_n (i := 0) (x := 10) (nx := 42) (r1 := 0) (r2 := 0) (r3 := 0) rfl rfl ?_
      refine wr_gr (k0 := 10) (x := 1) (nx := 45) (r1 := 3) (r2 := 1) (r3 := 0) rfl rfl (by decide) rfl ⟨rfl, rfl⟩ rfl ?_
      refine wr_gi1 (k0 := 1) (x := h9 1 8) (nx := 48) (r1 := 1) (r2 := 8) (r3 := 0) rfl rfl (by decide) rfl ⟨rfl, rfl⟩ rfl rfl ?_
      refine wr_V (k0 := 11) (rest := []) (as := [.ref 11, vl (h9 1 8)]) (nx := 51) (r1 := 115) (r2 := 1) (r3 := 2) rfl rfl rfl (of_decide_eq_true rfl) rfl rfl (by decide) rfl rfl (of_decide_eq_true rfl) (of_decide_eq_true rfl) ?_
      have tb21 := BufC.fr u9 rfl xq0
      have cv22 := CVc.fr u9 rfl xq1
      refine ct_115_11 hcr  g9 (h9 1 8) (by omega)  tb21 cv22 (fun z20  (fz20 : -1 ≤ z20 ∧ z20 ≤ 4) y19_0 => ?_)
      refine wk_i ?_
      have cn23 : (z20 = -1 ∧ tk_fi tS (tk_lw tB tn (tk_nx tB tn tp)) = tS 0) ∨ (0 ≤ z20 ∧ z20 < tS 0 ∧ tk_fi tS (tk_lw tB tn (tk_nx tB tn tp)) = z20) := by rw [← show h9 1 8 = (tk_lw tB tn (tk_nx tB tn tp)) by omega]; exact y19_0
      refine wi_iconst (n := (-1)) (nx := 52) (r1 := 0) (r2 := 0) (r3 := 0) rfl ?_
      refine wi_icmp (cd := .eq) (nx := 55) (r1 := 64) (r2 := 0) (r3 := 0) rfl (by omega) (by omega) (fun (q24 : z20 = (-1)) => ?_) (fun (q24 : ¬ (z20 = (-1))) => ?_)
      ·
        refine wi_aload_n (i := 0) (x := 10) (nx := 65) (r1 := 0) (r2 := 0) (r3 := 0) rfl rfl ?_
        refine wr_gr (k0 := 10) (x := 11) (nx := 68) (r1 := 3) (r2 := 0) (r3 := 0) rfl rfl (by decide) rfl ⟨rfl, rfl⟩ rfl ?_
        refine wr_gr (k0 := 11) (x := 12) (nx := 71) (r1 := 2) (r2 := 10) (r3 := 0) rfl rfl (by decide) rfl ⟨rfl, rfl⟩ rfl ?_
        refine wi_iload_n (i := 1) (e := h 11 0) (nx := 72) (r1 := 0) (r2 := 0) (r3 := 0) rfl rfl ?_
        refine wi_aload_n (i := 0) (x := 10) (nx := 73) (r1 := 0) (r2 := 0) (r3 := 0) rfl rfl ?_
        refine wr_gr (k0 := 10) (x := 1) (nx := 76) (r1 := 3) (r2 := 1) (r3 := 0) rfl rfl (by decide) rfl ⟨rfl, rfl⟩ rfl ?_
        refine wr_gi1 (k0 := 1) (x := h9 1 8) (nx := 79) (r1 := 1) (r2 := 8) (r3 := 0) rfl rfl (by decide) rfl ⟨rfl, rfl⟩ rfl rfl ?_
        obtain ⟨i25, ei25⟩ : ∃ q : Nat, (h 11 0) = (q : Int) := ⟨(h 11 0).toNat, by omega⟩
        refine wr_ls (k0 := 12) (a := h 11 0) (f := i25) (x := h9 1 8) (bl := -9223372036854775808) (bh := 9223372036854775807) (nx := 80) (r1 := 0) (r2 := 0) (r3 := 0) rfl (by decide) rfl (by omega) (by omega) (by decide) g9 rfl (by omega) (fun h26 g26 w26 u26 => ?_)
        have F27 := F11.then rfl (FR.rngp (lo := 12) (hi := 12) u26 (by decide))
        refine wi_aload_n (i := 0) (x := 10) (nx := 81) (r1 := 0) (r2 := 0) (r3 := 0) rfl rfl ?_
        refine wr_gr (k0 := 10) (x := 1) (nx := 84) (r1 := 3) (r2 := 1) (r3 := 0) rfl rfl (by decide) rfl ⟨rfl, rfl⟩ rfl ?_
        refine wr_gst (v := wv 2) (nx := 87) (r1 := 1) (r2 := 0) (r3 := 0) rfl rfl rfl ?_
        refine wr_V (k0 := 1) (rest := []) (as := [.ref 1, wv 2]) (nx := 90) (r1 := 102) (r2 := 1) (r3 := 1) rfl rfl rfl (of_decide_eq_true rfl) rfl rfl (by decide) rfl rfl (of_decide_eq_true rfl) (of_decide_eq_true rfl) ?_
        have e29 : h26 1 4 = h9 1 4 := (u26 1 4 (fn_a (by omega) fn_0))
        have tb31 := BufC.fr u26 rfl tb21
        refine ct_102_1 hcr  g26 2 (by omega) (show (h26 1 4) = (tk_nx tB tn (tk_nx tB tn tp)) by omega) (show 0 ≤ (tk_nx tB tn (tk_nx tB tn tp)) by omega) (show (tk_nx tB tn (tk_nx tB tn tp)) ≤ tn by omega) tb31 (fun h28 z30 g28 u28 (fz30 : 0 ≤ z30 ∧ z30 ≤ 1) (p28_0 : (z30 = 1 ∧ tk_kd tB tn (tk_nx tB tn (tk_nx tB tn tp)) = 1 ∧ tk_wd (tk_lw tB tn (tk_nx tB tn (tk_nx tB tn tp))) = 2 ∧ (h28 1 4) = tk_nx tB tn (tk_nx tB tn (tk_nx tB tn tp)) ∧ (h28 1 6) = tk_st tB tn (tk_nx tB tn (tk_nx tB tn tp)) ∧ (h28 1 8) = tk_lw tB tn (tk_nx tB tn (tk_nx tB tn tp)) ∧ (h28 1 2) = (h26 1 2) ∧ (h28 1 3) = (h26 1 3)) ∨ (z30 = 0 ∧ (tk_kd tB tn (tk_nx tB tn (tk_nx tB tn tp)) ≠ 1 ∨ tk_wd (tk_lw tB tn (tk_nx tB tn (tk_nx tB tn tp))) ≠ 2) ∧ (h28 1 2) = 1 ∧ (h28 1 3) = tk_st tB tn (tk_nx tB tn (tk_nx tB tn tp)))) => ?_)
        have F32 := F27.then (by decide +kernel) u28
        have e33 : h26 1 2 = h9 1 2 := (u26 1 2 (fn_a (by omega) fn_0))
        have e34 : h26 1 3 = h9 1 3 := (u26 1 3 (fn_a (by omega) fn_0))
        have b35 := gi_b (lo := 0) (hi := 800) g28 1 4 rfl
        have b36 := gi_b (lo := 0) (hi := 800) g28 1 6 rfl
        have b37 := gi_b (lo := -9223372036854775808) (hi := 9223372036854775807) g28 1 8 rfl
        have b38 := gi_b (lo := -2147483648) (hi := 2147483647) g28 1 2 rfl
        have b39 := gi_b (lo := -2147483648) (hi := 2147483647) g28 1 3 rfl
        have tN40 := @tk_nx_b tB tn (tk_nx tB tn (tk_nx tB tn tp)) (by omega) (by omega)
        refine wk_i ?_
        refine wi_if (cd := .eq) (nx := 93) (r1 := 106) (r2 := 0) (r3 := 0) rfl (by omega) (fun (q41 : z30 = 0) => ?_) (fun (q41 : ¬ (z30 = 0)) => ?_)
        ·
          refine wi_iconst (n := 0) (nx := 107) (r1 := 0) (r2 := 0) (r3 := 0) rfl ?_
          refine wi_zreturn (nx := 108) (r1 := 0) (r2 := 0) (r3 := 0) rfl rfl (by omega) ?_
          have e42 : h28 11 0 = h 11 0 := ((u28 11 0 rfl).trans ((u26 11 0 (fn_a (by omega) fn_0)).trans (u9 11 0 rfl)))
          have e43 : h28 11 1 = h 11 1 := ((u28 11 1 rfl).trans ((u26 11 1 (fn_a (by omega) fn_0)).trans (u9 11 1 rfl)))
          have e44 : h28 11 2 = h 11 2 := ((u28 11 2 rfl).trans ((u26 11 2 (fn_a (by omega) fn_0)).trans (u9 11 2 rfl)))
          have b45 := gi_b (lo := -2147483648) (hi := 2147483647) g 11 3 rfl
          have e46 : h28 11 3 = h 11 3 := ((u28 11 3 rfl).trans ((u26 11 3 (fn_a (by omega) fn_0)).trans (u9 11 3 rfl)))
          have b47 := gi_b (lo := -2147483648) (hi := 2147483647) g 11 4 rfl
          have e48 : h28 11 4 = h 11 4 := ((u28 11 4 rfl).trans ((u26 11 4 (fn_a (by omega) fn_0)).trans (u9 11 4 rfl)))
          have b49 := gi_b (lo := -2147483648) (hi := 2147483647) g 11 5 rfl
          have e50 : h28 11 5 = h 11 5 := ((u28 11 5 rfl).trans ((u26 11 5 (fn_a (by omega) fn_0)).trans (u9 11 5 rfl)))
          have b51 := gi_b (lo := -2147483648) (hi := 2147483647) g 11 6 rfl
          have e52 : h28 11 6 = h 11 6 := ((u28 11 6 rfl).trans ((u26 11 6 (fn_a (by omega) fn_0)).trans (u9 11 6 rfl)))
          have b53 := gi_b (lo := -2147483648) (hi := 2147483647) g 11 7 rfl
          have e54 : h28 11 7 = h 11 7 := ((u28 11 7 rfl).trans ((u26 11 7 (fn_a (by omega) fn_0)).trans (u9 11 7 rfl)))
          have b55 := gi_b (lo := -2147483648) (hi := 2147483647) g 11 8 rfl
          have e56 : h28 11 8 = h 11 8 := ((u28 11 8 rfl).trans ((u26 11 8 (fn_a (by omega) fn_0)).trans (u9 11 8 rfl)))
          have b57 := gi_b (lo := -2147483648) (hi := 2147483647) g 11 9 rfl
          have e58 : h28 11 9 = h 11 9 := ((u28 11 9 rfl).trans ((u26 11 9 (fn_a (by omega) fn_0)).trans (u9 11 9 rfl)))
          have b59 := gi_b (lo := 0) (hi := 1) g 10 2 rfl
          have e60 : h28 10 2 = h 10 2 := ((u28 10 2 rfl).trans ((u26 10 2 (fn_a (by omega) fn_0)).trans (u9 10 2 rfl)))
          have b61 := gi_b (lo := 0) (hi := 1) g 10 3 rfl
          have e62 : h28 10 3 = h 10 3 := ((u28 10 3 rfl).trans ((u26 10 3 (fn_a (by omega) fn_0)).trans (u9 10 3 rfl)))
          have b63 := gi_b (lo := 0) (hi := 1) g 10 4 rfl
          have e64 : h28 10 4 = h 10 4 := ((u28 10 4 rfl).trans ((u26 10 4 (fn_a (by omega) fn_0)).trans (u9 10 4 rfl)))
          have b65 := gi_b (lo := 0) (hi := 1) g 10 5 rfl
          have e66 : h28 10 5 = h 10 5 := ((u28 10 5 rfl).trans ((u26 10 5 (fn_a (by omega) fn_0)).trans (u9 10 5 rfl)))
          exact k h28 0 g28 F32 (by omega) (by unfold tk_color tk_wrd tk_num; (try dsimp only); (repeat (first | rw [if_pos (by omega)] | rw [if_neg (by omega)])); (repeat ((first | unfold tk_wrd | unfold tk_num); (try dsimp only); (repeat (first | rw [if_pos (by omega)] | rw [if_neg (by omega)])))); first | exact tk_Oe (by omega) (by omega) (by omega) | ((repeat' split) <;> (first | exact tk_Oe (by omega) (by omega) (by omega) | (exfalso; omega))))
        ·
          refine wi_aload_n (i := 0) (x := 10) (nx := 94) (r1 := 0) (r2 := 0) (r3 := 0) rfl rfl ?_
          refine wr_gr (k0 := 10) (x := 1) (nx := 97) (r1 := 3) (r2 := 1) (r3 := 0) rfl rfl (by decide) rfl ⟨rfl, rfl⟩ rfl ?_
          refine wi_iconst (n := 0) (nx := 98) (r1 := 0) (r2 := 0) (r3 := 0) rfl ?_
          refine wi_bipush (n := 99) (nx := 100) (r1 := 0) (r2 := 0) (r3 := 0) rfl (by decide) ?_
          refine wr_V (k0 := 1) (rest := []) (as := [.ref 1, vi 0, vi 99]) (nx := 103) (r1 := 103) (r2 := 2) (r3 := 1) rfl rfl rfl (of_decide_eq_true rfl) rfl rfl (by decide) rfl rfl (of_decide_eq_true rfl) (of_decide_eq_true rfl) ?_
          have tb44 := BufC.fr u28 rfl tb31
          refine ct_103_1 hcr  g28 0 99 (by omega) (by omega) (show (h28 1 4) = (tk_nx tB tn (tk_nx tB tn (tk_nx tB tn tp))) by omega) (show 0 ≤ (tk_nx tB tn (tk_nx tB tn (tk_nx tB tn tp))) by omega) (show (tk_nx tB tn (tk_nx tB tn (tk_nx tB tn tp))) ≤ tn by omega) tb44 (fun h42 z43 g42 u42 (fz43 : 0 ≤ z43 ∧ z43 ≤ 1) (p42_0 : (z43 = 1 ∧ tk_kd tB tn (tk_nx tB tn (tk_nx tB tn (tk_nx tB tn tp))) = 2 ∧ 0 ≤ tk_nb tB tn (tk_nx tB tn (tk_nx tB tn (tk_nx tB tn tp))) ∧ tk_nb tB tn (tk_nx tB tn (tk_nx tB tn (tk_nx tB tn tp))) ≤ 99 ∧ (h42 1 4) = tk_nx tB tn (tk_nx tB tn (tk_nx tB tn (tk_nx tB tn tp))) ∧ (h42 1 7) = tk_nb tB tn (tk_nx tB tn (tk_nx tB tn (tk_nx tB tn tp))) ∧ (h42 1 2) = (h28 1 2) ∧ (h42 1 3) = (h28 1 3)) ∨ (z43 = 0 ∧ (h42 1 3) = tk_st tB tn (tk_nx tB tn (tk_nx tB tn (tk_nx tB tn tp))) ∧ ((tk_kd tB tn (tk_nx tB tn (tk_nx tB tn (tk_nx tB tn tp))) ≠ 2 ∧ (h42 1 2) = 1) ∨ (tk_kd tB tn (tk_nx tB tn (tk_nx tB tn (tk_nx tB tn tp))) = 2 ∧ (tk_nb tB tn (tk_nx tB tn (tk_nx tB tn (tk_nx tB tn tp))) < 0 ∨ 99 < tk_nb tB tn (tk_nx tB tn (tk_nx tB tn (tk_nx tB tn tp)))) ∧ (h42 1 2) = 2)))) => ?_)
          have F45 := F32.then (by decide +kernel) u42
          have b46 := gi_b (lo := 0) (hi := 800) g42 1 4 rfl
          have b47 := gi_b (lo := -2147483648) (hi := 2147483647) g42 1 7 rfl
          have b48 := gi_b (lo := -2147483648) (hi := 2147483647) g42 1 2 rfl
          have b49 := gi_b (lo := -2147483648) (hi := 2147483647) g42 1 3 rfl
          have tN50 := @tk_nx_b tB tn (tk_nx tB tn (tk_nx tB tn (tk_nx tB tn tp))) (by omega) (by omega)
          refine wk_i ?_
          refine wi_if (cd := .ne) (nx := 106) (r1 := 108) (r2 := 0) (r3 := 0) rfl (by omega) (fun (q51 : z43 ≠ 0) => ?_) (fun (q51 : ¬ (z43 ≠ 0)) => ?_)
          ·
            refine wi_aload_n (i := 0) (x := 10) (nx := 109) (r1 := 0) (r2 := 0) (r3 := 0) rfl rfl ?_
            refine wr_gr (k0 := 10) (x := 11) (nx := 112) (r1 := 3) (r2 := 0) (r3 := 0) rfl rfl (by decide) rfl ⟨rfl, rfl⟩ rfl ?_
            refine wr_gr (k0 := 11) (x := 13) (nx := 115) (r1 := 2) (r2 := 11) (r3 := 0) rfl rfl (by decide) rfl ⟨rfl, rfl⟩ rfl ?_
            refine wi_iload_n (i := 1) (e := h 11 0) (nx := 116) (r1 := 0) (r2 := 0) (r3 := 0) rfl rfl ?_
            refine wi_aload_n (i := 0) (x := 10) (nx := 117) (r1 := 0) (r2 := 0) (r3 := 0) rfl rfl ?_
            refine wr_gr (k0 := 10) (x := 1) (nx := 120) (r1 := 3) (r2 := 1) (r3 := 0) rfl rfl (by decide) rfl ⟨rfl, rfl⟩ rfl ?_
            refine wr_gi0 (k0 := 1) (x := h42 1 7) (nx := 123) (r1 := 1) (r2 := 7) (r3 := 0) rfl rfl (by decide) rfl ⟨rfl, rfl⟩ rfl rfl ?_
            refine wr_is (k0 := 13) (a := h 11 0) (f := i25) (x := h42 1 7) (bl := -2147483648) (bh := 2147483647) (nx := 124) (r1 := 0) (r2 := 0) (r3 := 0) rfl (by decide) rfl (by omega) (by omega) (by decide) g42 rfl (by omega) (fun h52 g52 w52 u52 => ?_)
            have F53 := F45.then rfl (FR.rngp (lo := 13) (hi := 13) u52 (by decide))
            refine wi_aload_n (i := 0) (x := 10) (nx := 125) (r1 := 0) (r2 := 0) (r3 := 0) rfl rfl ?_
            refine wr_gr (k0 := 10) (x := 11) (nx := 128) (r1 := 3) (r2 := 0) (r3 := 0) rfl rfl (by decide) rfl ⟨rfl, rfl⟩ rfl ?_
            refine wi_iload_n (i := 1) (e := h 11 0) (nx := 129) (r1 := 0) (r2 := 0) (r3 := 0) rfl rfl ?_
            refine wi_iconst (n := 1) (nx := 130) (r1 := 0) (r2 := 0) (r3 := 0) rfl ?_
            refine wr_add (nx := 131) (r1 := 0) (r2 := 0) (r3 := 0) rfl (fun e54 (fe54 : e54 = (h 11 0) + 1) => ?_)
            refine wr_pf0 (k0 := 11) (x := e54) (bl := 0) (bh := 5) (nx := 134) (r1 := 2) (r2 := 0) (r3 := 0) rfl (by decide) rfl ⟨rfl, rfl⟩ rfl rfl g52 rfl (by omega) (fun h55 g55 w55 u55 => ?_)
            have F56 := F53.then rfl u55
            refine wi_iconst (n := 1) (nx := 135) (r1 := 0) (r2 := 0) (r3 := 0) rfl ?_
            refine wi_zreturn (nx := 136) (r1 := 0) (r2 := 0) (r3 := 0) rfl rfl (by omega) ?_
            have e57 : h55 11 0 = e54 := w55
            have e58 : h55 11 1 = h 11 1 := ((u55 11 1 rfl).trans ((u52 11 1 (fn_a (by omega) fn_0)).trans ((u42 11 1 rfl).trans ((u28 11 1 rfl).trans ((u26 11 1 (fn_a (by omega) fn_0)).trans (u9 11 1 rfl))))))
            have e59 : h55 11 2 = h 11 2 := ((u55 11 2 rfl).trans ((u52 11 2 (fn_a (by omega) fn_0)).trans ((u42 11 2 rfl).trans ((u28 11 2 rfl).trans ((u26 11 2 (fn_a (by omega) fn_0)).trans (u9 11 2 rfl))))))
            have b60 := gi_b (lo := -2147483648) (hi := 2147483647) g 11 3 rfl
            have e61 : h55 11 3 = h 11 3 := ((u55 11 3 rfl).trans ((u52 11 3 (fn_a (by omega) fn_0)).trans ((u42 11 3 rfl).trans ((u28 11 3 rfl).trans ((u26 11 3 (fn_a (by omega) fn_0)).trans (u9 11 3 rfl))))))
            have b62 := gi_b (lo := -2147483648) (hi := 2147483647) g 11 4 rfl
            have e63 : h55 11 4 = h 11 4 := ((u55 11 4 rfl).trans ((u52 11 4 (fn_a (by omega) fn_0)).trans ((u42 11 4 rfl).trans ((u28 11 4 rfl).trans ((u26 11 4 (fn_a (by omega) fn_0)).trans (u9 11 4 rfl))))))
            have b64 := gi_b (lo := -2147483648) (hi := 2147483647) g 11 5 rfl
            have e65 : h55 11 5 = h 11 5 := ((u55 11 5 rfl).trans ((u52 11 5 (fn_a (by omega) fn_0)).trans ((u42 11 5 rfl).trans ((u28 11 5 rfl).trans ((u26 11 5 (fn_a (by omega) fn_0)).trans (u9 11 5 rfl))))))
            have b66 := gi_b (lo := -2147483648) (hi := 2147483647) g 11 6 rfl
            have e67 : h55 11 6 = h 11 6 := ((u55 11 6 rfl).trans ((u52 11 6 (fn_a (by omega) fn_0)).trans ((u42 11 6 rfl).trans ((u28 11 6 rfl).trans ((u26 11 6 (fn_a (by omega) fn_0)).trans (u9 11 6 rfl))))))
            have b68 := gi_b (lo := -2147483648) (hi := 2147483647) g 11 7 rfl
            have e69 : h55 11 7 = h 11 7 := ((u55 11 7 rfl).trans ((u52 11 7 (fn_a (by omega) fn_0)).trans ((u42 11 7 rfl).trans ((u28 11 7 rfl).trans ((u26 11 7 (fn_a (by omega) fn_0)).trans (u9 11 7 rfl))))))
            have b70 := gi_b (lo := -2147483648) (hi := 2147483647) g 11 8 rfl
            have e71 : h55 11 8 = h 11 8 := ((u55 11 8 rfl).trans ((u52 11 8 (fn_a (by omega) fn_0)).trans ((u42 11 8 rfl).trans ((u28 11 8 rfl).trans ((u26 11 8 (fn_a (by omega) fn_0)).trans (u9 11 8 rfl))))))
            have b72 := gi_b (lo := -2147483648) (hi := 2147483647) g 11 9 rfl
            have e73 : h55 11 9 = h 11 9 := ((u55 11 9 rfl).trans ((u52 11 9 (fn_a (by omega) fn_0)).trans ((u42 11 9 rfl).trans ((u28 11 9 rfl).trans ((u26 11 9 (fn_a (by omega) fn_0)).trans (u9 11 9 rfl))))))
            have e74 : h55 1 2 = h42 1 2 := ((u55 1 2 rfl).trans (u52 1 2 (fn_a (by omega) fn_0)))
            have e75 : h55 1 3 = h42 1 3 := ((u55 1 3 rfl).trans (u52 1 3 (fn_a (by omega) fn_0)))
            have e76 : h55 1 4 = h42 1 4 := ((u55 1 4 rfl).trans (u52 1 4 (fn_a (by omega) fn_0)))
            have b77 := gi_b (lo := 0) (hi := 1) g 10 2 rfl
            have e78 : h55 10 2 = h 10 2 := ((u55 10 2 rfl).trans ((u52 10 2 (fn_a (by omega) fn_0)).trans ((u42 10 2 rfl).trans ((u28 10 2 rfl).trans ((u26 10 2 (fn_a (by omega) fn_0)).trans (u9 10 2 rfl))))))
            have b79 := gi_b (lo := 0) (hi := 1) g 10 3 rfl
            have e80 : h55 10 3 = h 10 3 := ((u55 10 3 rfl).trans ((u52 10 3 (fn_a (by omega) fn_0)).trans ((u42 10 3 rfl).trans ((u28 10 3 rfl).trans ((u26 10 3 (fn_a (by omega) fn_0)).trans (u9 10 3 rfl))))))
            have b81 := gi_b (lo := 0) (hi := 1) g 10 4 rfl
            have e82 : h55 10 4 = h 10 4 := ((u55 10 4 rfl).trans ((u52 10 4 (fn_a (by omega) fn_0)).trans ((u42 10 4 rfl).trans ((u28 10 4 rfl).trans ((u26 10 4 (fn_a (by omega) fn_0)).trans (u9 10 4 rfl))))))
            have b83 := gi_b (lo := 0) (hi := 1) g 10 5 rfl
            have e84 : h55 10 5 = h 10 5 := ((u55 10 5 rfl).trans ((u52 10 5 (fn_a (by omega) fn_0)).trans ((u42 10 5 rfl).trans ((u28 10 5 rfl).trans ((u26 10 5 (fn_a (by omega) fn_0)).trans (u9 10 5 rfl))))))
            exact k h55 1 g55 F56 (by omega) (by unfold tk_color tk_wrd tk_num; (try dsimp only); (repeat (first | rw [if_pos (by omega)] | rw [if_neg (by omega)])); (repeat ((first | unfold tk_wrd | unfold tk_num); (try dsimp only); (repeat (first | rw [if_pos (by omega)] | rw [if_neg (by omega)])))); exact tk_Os (by omega) (by omega) (by omega) (by omega) (CVc.color (c := i25) xq1 (by omega) (by omega) (fun i _ _ => ((u55 11 i (fn_i (by omega) fn_0)).trans ((u52 11 i (fn_a (by omega) fn_0)).trans ((u42 11 i (fo_nk rfl)).trans ((u28 11 i (fo_nk rfl)).trans ((u26 11 i (fn_a (by omega) fn_0)).trans (u9 11 i (fo_nk rfl)))))))) (fun i _ _ => ((u55 10 i (fn_a (by omega) fn_0)).trans ((u52 10 i (fn_a (by omega) fn_0)).trans ((u42 10 i (fo_nk rfl)).trans ((u28 10 i (fo_nk rfl)).trans ((u26 10 i (fn_a (by omega) fn_0)).trans (u9 10 i (fo_nk rfl)))))))) (((u55 12 i25 (fn_a (by omega) fn_0)).trans ((u52 12 i25 (fn_a (by omega) fn_0)).trans ((u42 12 i25 (fo_nk rfl)).trans ((u28 12 i25 (fo_nk rfl)).trans w26)))).trans (by omega)) (((u55 13 i25 (fn_a (by omega) fn_0)).trans w52).trans (by omega)) (fun i _ => ((u55 12 i (fn_a (by omega) fn_0)).trans ((u52 12 i (fn_a (by omega) fn_0)).trans ((u42 12 i (fo_nk rfl)).trans ((u28 12 i (fo_nk rfl)).trans ((u26 12 i (fn_i (by omega) fn_0)).trans (u9 12 i (fo_nk rfl)))))))) (fun i _ => ((u55 13 i (fn_a (by omega) fn_0)).trans ((u52 13 i (fn_i (by omega) fn_0)).trans ((u42 13 i (fo_nk rfl)).trans ((u28 13 i (fo_nk rfl)).trans ((u26 13 i (fn_a (by omega) fn_0)).trans (u9 13 i (fo_nk rfl)))))))) (fun i => ((u55 14 i (fn_a (by omega) fn_0)).trans ((u52 14 i (fn_a (by omega) fn_0)).trans ((u42 14 i (fo_nk rfl)).trans ((u28 14 i (fo_nk rfl)).trans ((u26 14 i (fn_a (by omega) fn_0)).trans (u9 14 i (fo_nk rfl)))))))) (fun i => ((u55 15 i (fn_a (by omega) fn_0)).trans ((u52 15 i (fn_a (by omega) fn_0)).trans ((u42 15 i (fo_nk rfl)).trans ((u28 15 i (fo_nk rfl)).trans ((u26 15 i (fn_a (by omega) fn_0)).trans (u9 15 i (fo_nk rfl)))))))) (fun i => ((u55 16 i (fn_a (by omega) fn_0)).trans ((u52 16 i (fn_a (by omega) fn_0)).trans ((u42 16 i (fo_nk rfl)).trans ((u28 16 i (fo_nk rfl)).trans ((u26 16 i (fn_a (by omega) fn_0)).trans (u9 16 i (fo_nk rfl)))))))) (fun i => ((u55 17 i (fn_a (by omega) fn_0)).trans ((u52 17 i (fn_a (by omega) fn_0)).trans ((u42 17 i (fo_nk rfl)).trans ((u28 17 i (fo_nk rfl)).trans ((u26 17 i (fn_a (by omega) fn_0)).trans (u9 17 i (fo_nk rfl)))))))) (by omega) (by omega) (by omega)))
          ·
            refine wi_iconst (n := 0) (nx := 107) (r1 := 0) (r2 := 0) (r3 := 0) rfl ?_
            refine wi_zreturn (nx := 108) (r1 := 0) (r2 := 0) (r3 := 0) rfl rfl (by omega) ?_
            have e52 : h42 11 0 = h 11 0 := ((u42 11 0 rfl).trans ((u28 11 0 rfl).trans ((u26 11 0 (fn_a (by omega) fn_0)).trans (u9 11 0 rfl))))
            have e53 : h42 11 1 = h 11 1 := ((u42 11 1 rfl).trans ((u28 11 1 rfl).trans ((u26 11 1 (fn_a (by omega) fn_0)).trans (u9 11 1 rfl))))
            have e54 : h42 11 2 = h 11 2 := ((u42 11 2 rfl).trans ((u28 11 2 rfl).trans ((u26 11 2 (fn_a (by omega) fn_0)).trans (u9 11 2 rfl))))
            have b55 := gi_b (lo := -2147483648) (hi := 2147483647) g 11 3 rfl
            have e56 : h42 11 3 = h 11 3 := ((u42 11 3 rfl).trans ((u28 11 3 rfl).trans ((u26 11 3 (fn_a (by omega) fn_0)).trans (u9 11 3 rfl))))
            have b57 := gi_b (lo := -2147483648) (hi := 2147483647) g 11 4 rfl
            have e58 : h42 11 4 = h 11 4 := ((u42 11 4 rfl).trans ((u28 11 4 rfl).trans ((u26 11 4 (fn_a (by omega) fn_0)).trans (u9 11 4 rfl))))
            have b59 := gi_b (lo := -2147483648) (hi := 2147483647) g 11 5 rfl
            have e60 : h42 11 5 = h 11 5 := ((u42 11 5 rfl).trans ((u28 11 5 rfl).trans ((u26 11 5 (fn_a (by omega) fn_0)).trans (u9 11 5 rfl))))
            have b61 := gi_b (lo := -2147483648) (hi := 2147483647) g 11 6 rfl
            have e62 : h42 11 6 = h 11 6 := ((u42 11 6 rfl).trans ((u28 11 6 rfl).trans ((u26 11 6 (fn_a (by omega) fn_0)).trans (u9 11 6 rfl))))
            have b63 := gi_b (lo := -2147483648) (hi := 2147483647) g 11 7 rfl
            have e64 : h42 11 7 = h 11 7 := ((u42 11 7 rfl).trans ((u28 11 7 rfl).trans ((u26 11 7 (fn_a (by omega) fn_0)).trans (u9 11 7 rfl))))
            have b65 := gi_b (lo := -2147483648) (hi := 2147483647) g 11 8 rfl
            have e66 : h42 11 8 = h 11 8 := ((u42 11 8 rfl).trans ((u28 11 8 rfl).trans ((u26 11 8 (fn_a (by omega) fn_0)).trans (u9 11 8 rfl))))
            have b67 := gi_b (lo := -2147483648) (hi := 2147483647) g 11 9 rfl
            have e68 : h42 11 9 = h 11 9 := ((u42 11 9 rfl).trans ((u28 11 9 rfl).trans ((u26 11 9 (fn_a (by omega) fn_0)).trans (u9 11 9 rfl))))
            have b69 := gi_b (lo := 0) (hi := 1) g 10 2 rfl
            have e70 : h42 10 2 = h 10 2 := ((u42 10 2 rfl).trans ((u28 10 2 rfl).trans ((u26 10 2 (fn_a (by omega) fn_0)).trans (u9 10 2 rfl))))
            have b71 := gi_b (lo := 0) (hi := 1) g 10 3 rfl
            have e72 : h42 10 3 = h 10 3 := ((u42 10 3 rfl).trans ((u28 10 3 rfl).trans ((u26 10 3 (fn_a (by omega) fn_0)).trans (u9 10 3 rfl))))
            have b73 := gi_b (lo := 0) (hi := 1) g 10 4 rfl
            have e74 : h42 10 4 = h 10 4 := ((u42 10 4 rfl).trans ((u28 10 4 rfl).trans ((u26 10 4 (fn_a (by omega) fn_0)).trans (u9 10 4 rfl))))
            have b75 := gi_b (lo := 0) (hi := 1) g 10 5 rfl
            have e76 : h42 10 5 = h 10 5 := ((u42 10 5 rfl).trans ((u28 10 5 rfl).trans ((u26 10 5 (fn_a (by omega) fn_0)).trans (u9 10 5 rfl))))
            exact k h42 0 g42 F45 (by omega) (by unfold tk_color tk_wrd tk_num; (try dsimp only); (repeat (first | rw [if_pos (by omega)] | rw [if_neg (by omega)])); (repeat ((first | unfold tk_wrd | unfold tk_num); (try dsimp only); (repeat (first | rw [if_pos (by omega)] | rw [if_neg (by omega)])))); first | exact tk_Oe (by omega) (by omega) (by omega) | ((repeat' split) <;> (first | exact tk_Oe (by omega) (by omega) (by omega) | (exfalso; omega))))
      ·
        refine wi_aload_n (i := 0) (x := 10) (nx := 56) (r1 := 0) (r2 := 0) (r3 := 0) rfl rfl ?_
        refine wr_gr (k0 := 10) (x := 1) (nx := 59) (r1 := 3) (r2 := 1) (r3 := 0) rfl rfl (by decide) rfl ⟨rfl, rfl⟩ rfl ?_
        refine wi_iconst (n := 3) (nx := 60) (r1 := 0) (r2 := 0) (r3 := 0) rfl ?_
        refine wr_V (k0 := 1) (rest := []) (as := [.ref 1, vi 3]) (nx := 63) (r1 := 101) (r2 := 1) (r3 := 1) rfl rfl rfl (of_decide_eq_true rfl) rfl rfl (by decide) rfl rfl (of_decide_eq_true rfl) (of_decide_eq_true rfl) ?_
        refine ct_101_1 hcr  g9 3 (by omega)  (fun h25 z26 g25 u25 (fz26 : 0 ≤ z26 ∧ z26 ≤ 0) (p25_0 : z26 = 0) (p25_1 : (h25 1 2) = 3) (p25_2 : (h25 1 3) = (h9 1 6)) => ?_)
        have F27 := F11.then (by decide +kernel) u25
        have b28 := gi_b (lo := -2147483648) (hi := 2147483647) g25 1 2 rfl
        have b29 := gi_b (lo := -2147483648) (hi := 2147483647) g25 1 3 rfl
        refine wk_i ?_
        refine wi_zreturn (nx := 64) (r1 := 0) (r2 := 0) (r3 := 0) rfl rfl (by omega) ?_
        have e30 : h25 11 0 = h 11 0 := ((u25 11 0 rfl).trans (u9 11 0 rfl))
        have e31 : h25 11 1 = h 11 1 := ((u25 11 1 rfl).trans (u9 11 1 rfl))
        have e32 : h25 11 2 = h 11 2 := ((u25 11 2 rfl).trans (u9 11 2 rfl))
        have b33 := gi_b (lo := -2147483648) (hi := 2147483647) g 11 3 rfl
        have e34 : h25 11 3 = h 11 3 := ((u25 11 3 rfl).trans (u9 11 3 rfl))
        have b35 := gi_b (lo := -2147483648) (hi := 2147483647) g 11 4 rfl
        have e36 : h25 11 4 = h 11 4 := ((u25 11 4 rfl).trans (u9 11 4 rfl))
        have b37 := gi_b (lo := -2147483648) (hi := 2147483647) g 11 5 rfl
        have e38 : h25 11 5 = h 11 5 := ((u25 11 5 rfl).trans (u9 11 5 rfl))
        have b39 := gi_b (lo := -2147483648) (hi := 2147483647) g 11 6 rfl
        have e40 : h25 11 6 = h 11 6 := ((u25 11 6 rfl).trans (u9 11 6 rfl))
        have b41 := gi_b (lo := -2147483648) (hi := 2147483647) g 11 7 rfl
        have e42 : h25 11 7 = h 11 7 := ((u25 11 7 rfl).trans (u9 11 7 rfl))
        have b43 := gi_b (lo := -2147483648) (hi := 2147483647) g 11 8 rfl
        have e44 : h25 11 8 = h 11 8 := ((u25 11 8 rfl).trans (u9 11 8 rfl))
        have b45 := gi_b (lo := -2147483648) (hi := 2147483647) g 11 9 rfl
        have e46 : h25 11 9 = h 11 9 := ((u25 11 9 rfl).trans (u9 11 9 rfl))
        have e47 : h25 1 4 = h9 1 4 := (u25 1 4 rfl)
        have b48 := gi_b (lo := 0) (hi := 1) g 10 2 rfl
        have e49 : h25 10 2 = h 10 2 := ((u25 10 2 rfl).trans (u9 10 2 rfl))
        have b50 := gi_b (lo := 0) (hi := 1) g 10 3 rfl
        have e51 : h25 10 3 = h 10 3 := ((u25 10 3 rfl).trans (u9 10 3 rfl))
        have b52 := gi_b (lo := 0) (hi := 1) g 10 4 rfl
        have e53 : h25 10 4 = h 10 4 := ((u25 10 4 rfl).trans (u9 10 4 rfl))
        have b54 := gi_b (lo := 0) (hi := 1) g 10 5 rfl
        have e55 : h25 10 5 = h 10 5 := ((u25 10 5 rfl).trans (u9 10 5 rfl))
        exact k h25 z26 g25 F27 (by omega) (by unfold tk_color tk_wrd tk_num; (try dsimp only); (repeat (first | rw [if_pos (by omega)] | rw [if_neg (by omega)])); (repeat ((first | unfold tk_wrd | unfold tk_num); (try dsimp only); (repeat (first | rw [if_pos (by omega)] | rw [if_neg (by omega)])))); first | exact tk_Oe (by omega) (by omega) (by omega) | ((repeat' split) <;> (first | exact tk_Oe (by omega) (by omega) (by omega) | (exfalso; omega))))
    ·
      refine wi_iconst (n := 0) (nx := 36) (r1 := 0) (r2 := 0) (r3 := 0) rfl ?_
      refine wi_zreturn (nx := 37) (r1 := 0) (r2 := 0) (r3 := 0) rfl rfl (by omega) ?_
      have e19 : h9 11 0 = h 11 0 := (u9 11 0 rfl)
      have e20 : h9 11 1 = h 11 1 := (u9 11 1 rfl)
      have e21 : h9 11 2 = h 11 2 := (u9 11 2 rfl)
      have b22 := gi_b (lo := -2147483648) (hi := 2147483647) g 11 3 rfl
      have e23 : h9 11 3 = h 11 3 := (u9 11 3 rfl)
      have b24 := gi_b (lo := -2147483648) (hi := 2147483647) g 11 4 rfl
      have e25 : h9 11 4 = h 11 4 := (u9 11 4 rfl)
      have b26 := gi_b (lo := -2147483648) (hi := 2147483647) g 11 5 rfl
      have e27 : h9 11 5 = h 11 5 := (u9 11 5 rfl)
      have b28 := gi_b (lo := -2147483648) (hi := 2147483647) g 11 6 rfl
      have e29 : h9 11 6 = h 11 6 := (u9 11 6 rfl)
      have b30 := gi_b (lo := -2147483648) (hi := 2147483647) g 11 7 rfl
      have e31 : h9 11 7 = h 11 7 := (u9 11 7 rfl)
      have b32 := gi_b (lo := -2147483648) (hi := 2147483647) g 11 8 rfl
      have e33 : h9 11 8 = h 11 8 := (u9 11 8 rfl)
      have b34 := gi_b (lo := -2147483648) (hi := 2147483647) g 11 9 rfl
      have e35 : h9 11 9 = h 11 9 := (u9 11 9 rfl)
      have b36 := gi_b (lo := 0) (hi := 1) g 10 2 rfl
      have e37 : h9 10 2 = h 10 2 := (u9 10 2 rfl)
      have b38 := gi_b (lo := 0) (hi := 1) g 10 3 rfl
      have e39 : h9 10 3 = h 10 3 := (u9 10 3 rfl)
      have b40 := gi_b (lo := 0) (hi := 1) g 10 4 rfl
      have e41 : h9 10 4 = h 10 4 := (u9 10 4 rfl)
      have b42 := gi_b (lo := 0) (hi := 1) g 10 5 rfl
      have e43 : h9 10 5 = h 10 5 := (u9 10 5 rfl)
      exact k h9 0 g9 F11 (by omega) (by unfold tk_color tk_wrd tk_num; (try dsimp only); (repeat (first | rw [if_pos (by omega)] | rw [if_neg (by omega)])); (repeat ((first | unfold tk_wrd | unfold tk_num); (try dsimp only); (repeat (first | rw [if_pos (by omega)] | rw [if_neg (by omega)])))); first | exact tk_Oe (by omega) (by omega) (by omega) | ((repeat' split) <;> (first | exact tk_Oe (by omega) (by omega) (by omega) | (exfalso; omega))))
  ·
    refine wi_aload_n (i := 0) (x := 10) (nx := 14) (r1 := 0) (r2 := 0) (r3 := 0) rfl rfl ?_
    refine wr_gr (k0 := 10) (x := 1) (nx := 17) (r1 := 3) (r2 := 1) (r3 := 0) rfl rfl (by decide) rfl ⟨rfl, rfl⟩ rfl ?_
    refine wi_iconst (n := 5) (nx := 18) (r1 := 0) (r2 := 0) (r3 := 0) rfl ?_
    refine wr_V (k0 := 1) (rest := []) (as := [.ref 1, vi 5]) (nx := 21) (r1 := 101) (r2 := 1) (r3 := 1) rfl rfl rfl (of_decide_eq_true rfl) rfl rfl (by decide) rfl rfl (of_decide_eq_true rfl) (of_decide_eq_true rfl) ?_
    refine ct_101_1 hcr  g 5 (by omega)  (fun h9 z10 g9 u9 (fz10 : 0 ≤ z10 ∧ z10 ≤ 0) (p9_0 : z10 = 0) (p9_1 : (h9 1 2) = 5) (p9_2 : (h9 1 3) = (h 1 6)) => ?_)
    have F11 := F0.then (by decide +kernel) u9
    have b12 := gi_b (lo := -2147483648) (hi := 2147483647) g9 1 2 rfl
    have b13 := gi_b (lo := -2147483648) (hi := 2147483647) g9 1 3 rfl
    refine wk_i ?_
    refine wi_zreturn (nx := 22) (r1 := 0) (r2 := 0) (r3 := 0) rfl rfl (by omega) ?_
    have e14 : h9 11 0 = h 11 0 := (u9 11 0 rfl)
    have e15 : h9 11 1 = h 11 1 := (u9 11 1 rfl)
    have e16 : h9 11 2 = h 11 2 := (u9 11 2 rfl)
    have b17 := gi_b (lo := -2147483648) (hi := 2147483647) g 11 3 rfl
    have e18 : h9 11 3 = h 11 3 := (u9 11 3 rfl)
    have b19 := gi_b (lo := -2147483648) (hi := 2147483647) g 11 4 rfl
    have e20 : h9 11 4 = h 11 4 := (u9 11 4 rfl)
    have b21 := gi_b (lo := -2147483648) (hi := 2147483647) g 11 5 rfl
    have e22 : h9 11 5 = h 11 5 := (u9 11 5 rfl)
    have b23 := gi_b (lo := -2147483648) (hi := 2147483647) g 11 6 rfl
    have e24 : h9 11 6 = h 11 6 := (u9 11 6 rfl)
    have b25 := gi_b (lo := -2147483648) (hi := 2147483647) g 11 7 rfl
    have e26 : h9 11 7 = h 11 7 := (u9 11 7 rfl)
    have b27 := gi_b (lo := -2147483648) (hi := 2147483647) g 11 8 rfl
    have e28 : h9 11 8 = h 11 8 := (u9 11 8 rfl)
    have b29 := gi_b (lo := -2147483648) (hi := 2147483647) g 11 9 rfl
    have e30 : h9 11 9 = h 11 9 := (u9 11 9 rfl)
    have e31 : h9 1 4 = h 1 4 := (u9 1 4 rfl)
    have b32 := gi_b (lo := 0) (hi := 1) g 10 2 rfl
    have e33 : h9 10 2 = h 10 2 := (u9 10 2 rfl)
    have b34 := gi_b (lo := 0) (hi := 1) g 10 3 rfl
    have e35 : h9 10 3 = h 10 3 := (u9 10 3 rfl)
    have b36 := gi_b (lo := 0) (hi := 1) g 10 4 rfl
    have e37 : h9 10 4 = h 10 4 := (u9 10 4 rfl)
    have b38 := gi_b (lo := 0) (hi := 1) g 10 5 rfl
    have e39 : h9 10 5 = h 10 5 := (u9 10 5 rfl)
    exact k h9 z10 g9 F11 (by omega) (by unfold tk_color tk_wrd tk_num; (try dsimp only); (repeat (first | rw [if_pos (by omega)] | rw [if_neg (by omega)])); (repeat ((first | unfold tk_wrd | unfold tk_num); (try dsimp only); (repeat (first | rw [if_pos (by omega)] | rw [if_neg (by omega)])))); first | exact tk_Oe (by omega) (by omega) (by omega) | ((repeat' split) <;> (first | exact tk_Oe (by omega) (by omega) (by omega) | (exfalso; omega))))
-- method 120: SetupReader.readLane()Z
set_option maxRecDepth 100000 in
set_option maxHeartbeats 100000000 in
theorem ct_120_10 {L : Nat} {xs : Nat → Int32} {d b c : Nat} {h : hp} {cr : Nat → Nat → Option Nat} {Q : hp_Q} (hcr : CR cr)  {tB : Nat → Int} {tn tp : Int} {tS : tk_S} (g : GI h)   (pp0 : h 1 4 = tk_nx tB tn tp) (pp1 : h 1 6 = tk_st tB tn tp) (pp2 : h 1 2 = 0) (pp3 : h 1 3 = -1) (pp4 : 0 ≤ tp) (pp5 : tp ≤ tn) (pp6 : tp ≤ tk_nx tB tn tp ∧ tk_nx tB tn tp ≤ tn) (pp7 : tS 0 ≤ 5 ∧ tS 1 ≤ 4 ∧ tS 2 ≤ 12) (xq0 : BufC tB tn h) (xq1 : CVc tS h) (k : ∀ (h2 : hp) (z0 : Int) , GI h2 → FR [(14, 14, none), (1, 1, some (2, 2)), (1, 1, some (3, 3)), (1, 1, some (4, 4)), (1, 1, some (5, 5)), (1, 1, some (6, 6)), (1, 1, some (7, 7)), (1, 1, some (8, 8)), (1, 1, some (9, 9)), (11, 11, some (1, 1))] h h2 → (0 ≤ z0 ∧ z0 ≤ 1) → (tk_O (tk_lane tB tn tp tS) z0 h2) → Q (.inl (some (vi z0))) (hp_w h2 cr) b c) : wp (md_xa (L, xs)) (d + 4) 120 (0, [(0, .ref 10)], [], hp_w h cr, b, c) Q := by
  have F0 : FR [(14, 14, none), (1, 1, some (2, 2)), (1, 1, some (3, 3)), (1, 1, some (4, 4)), (1, 1, some (5, 5)), (1, 1, some (6, 6)), (1, 1, some (7, 7)), (1, 1, some (8, 8)), (1, 1, some (9, 9)), (11, 11, some (1, 1))] h h := FR.refl
  have tb_1 : h 1 1 = tn := xq0.2.1
  have tb_2 : 0 ≤ tn ∧ tn ≤ 800 := xq0.2.2
  obtain ⟨⟨cv_0, cv_1, cv_2, cv_3, cv_4, cv_5, cv_6, cv_7, cv_8, cv_9⟩, ⟨cf_2, cf_3, cf_4, cf_5⟩, -⟩ := id xq1
  have b1 := gi_b (lo := 0) (hi := 5) g 11 0 rfl
  have b2 := gi_b (lo := 0) (hi := 4) g 11 1 rfl
  have b3 := gi_b (lo := 0) (hi := 12) g 11 2 rfl
  have b4 := gi_b (lo := 0) (hi := 800) g 1 4 rfl
  have b5 := gi_b (lo := 0) (hi := 800) g 1 6 rfl
  have b6 := gi_b (lo := -2147483648) (hi := 2147483647) g 1 2 rfl
  have b7 := gi_b (lo := -2147483648) (hi := 2147483647) g 1 3 rfl
  refine wi_aload_n (i := 0) (x := 10) (nx := 1) (r1 := 0) (r2 := 0) (r3 := 0) rfl rfl ?_
  refine wr_gr (k0 := 10) (x := 11) (nx := 4) (r1 := 3) (r2 := 0) (r3 := 0) rfl rfl (by decide) rfl ⟨rfl, rfl⟩ rfl ?_
  refine wr_gi0 (k0 := 11) (x := h 11 1) (nx := 7) (r1 := 2) (r2 := 1) (r3 := 0) rfl rfl (by decide) rfl ⟨rfl, rfl⟩ rfl rfl ?_
  refine wi_istore_n (i := 1) (e := h 11 1) (lo2 := [(1, vi (h 11 1)), (0, .ref 10)]) (nx := 8) (r1 := 0) (r2 := 0) (r3 := 0) rfl rfl ?_
  refine wi_iload_n (i := 1) (e := h 11 1) (nx := 9) (r1 := 0) (r2 := 0) (r3 := 0) rfl rfl ?_
  refine wi_iconst (n := 4) (nx := 10) (r1 := 0) (r2 := 0) (r3 := 0) rfl ?_
  refine wi_icmp (cd := .lt) (nx := 13) (r1 := 22) (r2 := 0) (r3 := 0) rfl (by omega) (by omega) (fun (q8 : (h 11 1) < 4) => ?_) (fun (q8 : ¬ ((h 11 1) < 4)) => ?_)
  ·
    refine wi_aload_n (i := 0) (x := 10) (nx := 23) (r1 := 0) (r2 := 0) (r3 := 0) rfl rfl ?_
    refine wr_gr (k0 := 10) (x := 1) (nx := 26) (r1 := 3) (r2 := 1) (r3 := 0) rfl rfl (by decide) rfl ⟨rfl, rfl⟩ rfl ?_
    refine wi_iconst (n := 1) (nx := 27) (r1 := 0) (r2 := 0) (r3 := 0) rfl ?_
    refine wi_bipush (n := 6) (nx := 29) (r1 := 0) (r2 := 0) (r3 := 0) rfl (by decide) ?_
    refine wr_V (k0 := 1) (rest := []) (as := [.ref 1, vi 1, vi 6]) (nx := 32) (r1 := 103) (r2 := 2) (r3 := 1) rfl rfl rfl (of_decide_eq_true rfl) rfl rfl (by decide) rfl rfl (of_decide_eq_true rfl) (of_decide_eq_true rfl) ?_
    refine ct_103_1 hcr  g 1 6 (by omega) (by omega) (show (h 1 4) = (tk_nx tB tn tp) by omega) (show 0 ≤ (tk_nx tB tn tp) by omega) (show (tk_nx tB tn tp) ≤ tn by omega) xq0 (fun h9 z10 g9 u9 (fz10 : 0 ≤ z10 ∧ z10 ≤ 1) (p9_0 : (z10 = 1 ∧ tk_kd tB tn (tk_nx tB tn tp) = 2 ∧ 1 ≤ tk_nb tB tn (tk_nx tB tn tp) ∧ tk_nb tB tn (tk_nx tB tn tp) ≤ 6 ∧ (h9 1 4) = tk_nx tB tn (tk_nx tB tn tp) ∧ (h9 1 7) = tk_nb tB tn (tk_nx tB tn tp) ∧ (h9 1 2) = (h 1 2) ∧ (h9 1 3) = (h 1 3)) ∨ (z10 = 0 ∧ (h9 1 3) = tk_st tB tn (tk_nx tB tn tp) ∧ ((tk_kd tB tn (tk_nx tB tn tp) ≠ 2 ∧ (h9 1 2) = 1) ∨ (tk_kd tB tn (tk_nx tB tn tp) = 2 ∧ (tk_nb tB tn (tk_nx tB tn tp) < 1 ∨ 6 < tk_nb tB tn (tk_nx tB tn tp)) ∧ (h9 1 2) = 2)))) => ?_)
    have F11 := F0.then (by decide +kernel) u9
    have b12 := gi_b (lo := 0) (hi := 800) g9 1 4 rfl
    have b13 := gi_b (lo := -2147483648) (hi := 2147483647) g9 1 7 rfl
    have b14 := gi_b (lo := -2147483648) (hi := 2147483647) g9 1 2 rfl
    have b15 := gi_b (lo := -2147483648) (hi := 2147483647) g9 1 3 rfl
    have tN16 := @tk_nx_b tB tn (tk_nx tB tn tp) (by omega) (by omega)
    refine wk_i ?_
    refine wi_if (cd := .ne) (nx := 35) (r1 := 37) (r2 := 0) (r3 := 0) rfl (by omega) (fun (q17 : z10 ≠ 0) => ?_) (fun (q17 : ¬ (z10 ≠ 0)) => ?_)
    ·
      refine wi_aload_n (i := 0) (x := 10) (nx := 38) (r1 := 0) (r2 := 0) (r3 := 0) rfl rfl ?_
      refine wr_gr (k0 := 10) (x := 11) (nx := 41) (r1 := 3) (r2 := 0) (r3 := 0) rfl rfl (by decide) rfl ⟨rfl, rfl⟩ rfl ?_
      refine wr_gr (k0 := 11) (x := 14) (nx := 44) (r1 := 2) (r2 := 12) (r3 := 0) rfl rfl (by decide) rfl ⟨rfl, rfl⟩ rfl ?_
      refine wi_iload_n (i := 1) (e := h 11 1) (nx := 45) (r1 := 0) (r2 := 0) (r3 := 0) rfl rfl ?_
      refine wi_aload_n (i := 0) (x := 10) (nx := 46) (r1 := 0) (r2 := 0) (r3 := 0) rfl rfl ?_
      refine wr_gr (k0 := 10) (x := 1) (nx := 49) (r1 := 3) (r2 := 1) (r3 := 0) rfl rfl (by decide) rfl ⟨rfl, rfl⟩ rfl ?_
      refine wr_gi0 (k0 := 1) (x := h9 1 7) (nx := 52) (r1 := 1) (r2 := 7) (r3 := 0) rfl rfl (by decide) rfl ⟨rfl, rfl⟩ rfl rfl ?_
      obtain ⟨i18, ei18⟩ : ∃ q : Nat, (h 11 1) = (q : Int) := ⟨(h 11 1).toNat, by omega⟩
      refine wr_is (k0 := 14) (a := h 11 1) (f := i18) (x := h9 1 7) (bl := -2147483648) (bh := 2147483647) (nx := 53) (r1 := 0) (r2 := 0) (r3 := 0) rfl (by decide) rfl (by omega) (by omega) (by decide) g9 rfl (by omega) (fun h19 g19 w19 u19 => ?_)
      have F20 := F11.then rfl (FR.rngp (lo := 14) (hi := 14) u19 (by decide))
      refine wi_aload_n (i := 0) (x := 10) (nx := 54) (r1 := 0) (r2 := 0) (r3 := 0) rfl rfl ?_
      refine wr_gr (k0 := 10) (x := 11) (nx := 57) (r1 := 3) (r2 := 0) (r3 := 0) rfl rfl (by decide) rfl ⟨rfl, rfl⟩ rfl ?_
      refine wi_iload_n (i := 1) (e := h 11 1) (nx := 58) (r1 := 0) (r2 := 0) (r3 := 0) rfl rfl ?_
      refine wi_iconst (n := 1) (nx := 59) (r1 := 0) (r2 := 0) (r3 := 0) rfl ?_
      refine wr_add (nx := 60) (r1 := 0) (r2 := 0) (r3 := 0) rfl (fun e21 (fe21 : e21 = (h 11 1) + 1) => ?_)
      refine wr_pf0 (k0 := 11) (x := e21) (bl := 0) (bh := 4) (nx := 63) (r1 := 2) (r2 := 1) (r3 := 0) rfl (by decide) rfl ⟨rfl, rfl⟩ rfl rfl g19 rfl (by omega) (fun h22 g22 w22 u22 => ?_)
      have F23 := F20.then rfl u22
      refine wi_iconst (n := 1) (nx := 64) (r1 := 0) (r2 := 0) (r3 := 0) rfl ?_
      refine wi_zreturn (nx := 65) (r1 := 0) (r2 := 0) (r3 := 0) rfl rfl (by omega) ?_
      have e24 : h22 11 0 = h 11 0 := ((u22 11 0 rfl).trans ((u19 11 0 (fn_a (by omega) fn_0)).trans (u9 11 0 rfl)))
      have e25 : h22 11 1 = e21 := w22
      have e26 : h22 11 2 = h 11 2 := ((u22 11 2 rfl).trans ((u19 11 2 (fn_a (by omega) fn_0)).trans (u9 11 2 rfl)))
      have b27 := gi_b (lo := -2147483648) (hi := 2147483647) g 11 3 rfl
      have e28 : h22 11 3 = h 11 3 := ((u22 11 3 rfl).trans ((u19 11 3 (fn_a (by omega) fn_0)).trans (u9 11 3 rfl)))
      have b29 := gi_b (lo := -2147483648) (hi := 2147483647) g 11 4 rfl
      have e30 : h22 11 4 = h 11 4 := ((u22 11 4 rfl).trans ((u19 11 4 (fn_a (by omega) fn_0)).trans (u9 11 4 rfl)))
      have b31 := gi_b (lo := -2147483648) (hi := 2147483647) g 11 5 rfl
      have e32 : h22 11 5 = h 11 5 := ((u22 11 5 rfl).trans ((u19 11 5 (fn_a (by omega) fn_0)).trans (u9 11 5 rfl)))
      have b33 := gi_b (lo := -2147483648) (hi := 2147483647) g 11 6 rfl
      have e34 : h22 11 6 = h 11 6 := ((u22 11 6 rfl).trans ((u19 11 6 (fn_a (by omega) fn_0)).trans (u9 11 6 rfl)))
      have b35 := gi_b (lo := -2147483648) (hi := 2147483647) g 11 7 rfl
      have e36 : h22 11 7 = h 11 7 := ((u22 11 7 rfl).trans ((u19 11 7 (fn_a (by omega) fn_0)).trans (u9 11 7 rfl)))
      have b37 := gi_b (lo := -2147483648) (hi := 2147483647) g 11 8 rfl
      have e38 : h22 11 8 = h 11 8 := ((u22 11 8 rfl).trans ((u19 11 8 (fn_a (by omega) fn_0)).trans (u9 11 8 rfl)))
      have b39 := gi_b (lo := -2147483648) (hi := 2147483647) g 11 9 rfl
      have e40 : h22 11 9 = h 11 9 := ((u22 11 9 rfl).trans ((u19 11 9 (fn_a (by omega) fn_0)).trans (u9 11 9 rfl)))
      have e41 : h22 1 2 = h9 1 2 := ((u22 1 2 rfl).trans (u19 1 2 (fn_a (by omega) fn_0)))
      have e42 : h22 1 3 = h9 1 3 := ((u22 1 3 rfl).trans (u19 1 3 (fn_a (by omega) fn_0)))
      have e43 : h22 1 4 = h9 1 4 := ((u22 1 4 rfl).trans (u19 1 4 (fn_a (by omega) fn_0)))
      have b44 := gi_b (lo := 0) (hi := 1) g 10 2 rfl
      have e45 : h22 10 2 = h 10 2 := ((u22 10 2 rfl).trans ((u19 10 2 (fn_a (by omega) fn_0)).trans (u9 10 2 rfl)))
      have b46 := gi_b (lo := 0) (hi := 1) g 10 3 rfl
      have e47 : h22 10 3 = h 10 3 := ((u22 10 3 rfl).trans ((u19 10 3 (fn_a (by omega) fn_0)).trans (u9 10 3 rfl)))
      have b48 := gi_b (lo := 0) (hi := 1) g 10 4 rfl
      have e49 : h22 10 4 = h 10 4 := ((u22 10 4 rfl).trans ((u19 10 4 (fn_a (by omega) fn_0)).trans (u9 10 4 rfl)))
      have b50 := gi_b (lo := 0) (hi := 1) g 10 5 rfl
      have e51 : h22 10 5 = h 10 5 := ((u22 10 5 rfl).trans ((u19 10 5 (fn_a (by omega) fn_0)).trans (u9 10 5 rfl)))
      exact k h22 1 g22 F23 (by omega) (by unfold tk_lane tk_num; (try dsimp only); (repeat (first | rw [if_pos (by omega)] | rw [if_neg (by omega)])); (repeat ((first | unfold tk_num); (try dsimp only); (repeat (first | rw [if_pos (by omega)] | rw [if_neg (by omega)])))); exact tk_Os (by omega) (by omega) (by omega) (by omega) (CVc.lane (c := i18) xq1 (by omega) (by omega) (by omega) (fun i _ _ => ((u22 11 i (fn_i (by omega) fn_0)).trans ((u19 11 i (fn_a (by omega) fn_0)).trans (u9 11 i (fo_nk rfl))))) (fun i _ _ => ((u22 10 i (fn_a (by omega) fn_0)).trans ((u19 10 i (fn_a (by omega) fn_0)).trans (u9 10 i (fo_nk rfl))))) (((u22 14 i18 (fn_a (by omega) fn_0)).trans w19).trans (by omega)) (fun i _ => ((u22 14 i (fn_a (by omega) fn_0)).trans ((u19 14 i (fn_i (by omega) fn_0)).trans (u9 14 i (fo_nk rfl))))) (fun i => ((u22 12 i (fn_a (by omega) fn_0)).trans ((u19 12 i (fn_a (by omega) fn_0)).trans (u9 12 i (fo_nk rfl))))) (fun i => ((u22 13 i (fn_a (by omega) fn_0)).trans ((u19 13 i (fn_a (by omega) fn_0)).trans (u9 13 i (fo_nk rfl))))) (fun i => ((u22 15 i (fn_a (by omega) fn_0)).trans ((u19 15 i (fn_a (by omega) fn_0)).trans (u9 15 i (fo_nk rfl))))) (fun i => ((u22 16 i (fn_a (by omega) fn_0)).trans ((u19 16 i (fn_a (by omega) fn_0)).trans (u9 16 i (fo_nk rfl))))) (fun i => ((u22 17 i (fn_a (by omega) fn_0)).trans ((u19 17 i (fn_a (by omega) fn_0)).trans (u9 17 i (fo_nk rfl))))) (by omega) (by omega) (by omega)))
    ·
      refine wi_iconst (n := 0) (nx := 36) (r1 := 0) (r2 := 0) (r3 := 0) rfl ?_
      refine wi_zreturn (nx := 37) (r1 := 0) (r2 := 0) (r3 := 0) rfl rfl (by omega) ?_
      have e18 : h9 11 0 = h 11 0 := (u9 11 0 rfl)
      have e19 : h9 11 1 = h 11 1 := (u9 11 1 rfl)
      have e20 : h9 11 2 = h 11 2 := (u9 11 2 rfl)
      have b21 := gi_b (lo := -2147483648) (hi := 2147483647) g 11 3 rfl
      have e22 : h9 11 3 = h 11 3 := (u9 11 3 rfl)
      have b23 := gi_b (lo := -2147483648) (hi := 2147483647) g 11 4 rfl
      have e24 : h9 11 4 = h 11 4 := (u9 11 4 rfl)
      have b25 := gi_b (lo := -2147483648) (hi := 2147483647) g 11 5 rfl
      have e26 : h9 11 5 = h 11 5 := (u9 11 5 rfl)
      have b27 := gi_b (lo := -2147483648) (hi := 2147483647) g 11 6 rfl
      have e28 : h9 11 6 = h 11 6 := (u9 11 6 rfl)
      have b29 := gi_b (lo := -2147483648) (hi := 2147483647) g 11 7 rfl
      have e30 : h9 11 7 = h 11 7 := (u9 11 7 rfl)
      have b31 := gi_b (lo := -2147483648) (hi := 2147483647) g 11 8 rfl
      have e32 : h9 11 8 = h 11 8 := (u9 11 8 rfl)
      have b33 := gi_b (lo := -2147483648) (hi := 2147483647) g 11 9 rfl
      have e34 : h9 11 9 = h 11 9 := (u9 11 9 rfl)
      have b35 := gi_b (lo := 0) (hi := 1) g 10 2 rfl
      have e36 : h9 10 2 = h 10 2 := (u9 10 2 rfl)
      have b37 := gi_b (lo := 0) (hi := 1) g 10 3 rfl
      have e38 : h9 10 3 = h 10 3 := (u9 10 3 rfl)
      have b39 := gi_b (lo := 0) (hi := 1) g 10 4 rfl
      have e40 : h9 10 4 = h 10 4 := (u9 10 4 rfl)
      have b41 := gi_b (lo := 0) (hi := 1) g 10 5 rfl
      have e42 : h9 10 5 = h 10 5 := (u9 10 5 rfl)
      exact k h9 0 g9 F11 (by omega) (by unfold tk_lane tk_num; (try dsimp only); (repeat (first | rw [if_pos (by omega)] | rw [if_neg (by omega)])); (repeat ((first | unfold tk_num); (try dsimp only); (repeat (first | rw [if_pos (by omega)] | rw [if_neg (by omega)])))); first | exact tk_Oe (by omega) (by omega) (by omega) | ((repeat' split) <;> (first | exact tk_Oe (by omega) (by omega) (by omega) | (exfalso; omega))))
  ·
    refine wi_aload_n (i := 0) (x := 10) (nx := 14) (r1 := 0) (r2 := 0) (r3 := 0) rfl rfl ?_
    refine wr_gr (k0 := 10) (x := 1) (nx := 17) (r1 := 3) (r2 := 1) (r3 := 0) rfl rfl (by decide) rfl ⟨rfl, rfl⟩ rfl ?_
    refine wi_iconst (n := 5) (nx := 18) (r1 := 0) (r2 := 0) (r3 := 0) rfl ?_
    refine wr_V (k0 := 1) (rest := []) (as := [.ref 1, vi 5]) (nx := 21) (r1 := 101) (r2 := 1) (r3 := 1) rfl rfl rfl (of_decide_eq_true rfl) rfl rfl (by decide) rfl rfl (of_decide_eq_true rfl) (of_decide_eq_true rfl) ?_
    refine ct_101_1 hcr  g 5 (by omega)  (fun h9 z10 g9 u9 (fz10 : 0 ≤ z10 ∧ z10 ≤ 0) (p9_0 : z10 = 0) (p9_1 : (h9 1 2) = 5) (p9_2 : (h9 1 3) = (h 1 6)) => ?_)
    have F11 := F0.then (by decide +kernel) u9
    have b12 := gi_b (lo := -2147483648) (hi := 2147483647) g9 1 2 rfl
    have b13 := gi_b (lo := -2147483648) (hi := 2147483647) g9 1 3 rfl
    refine wk_i ?_
    refine wi_zreturn (nx := 22) (r1 := 0) (r2 := 0) (r3 := 0) rfl rfl (by omega) ?_
    have e14 : h9 11 0 = h 11 0 := (u9 11 0 rfl)
    have e15 : h9 11 1 = h 11 1 := (u9 11 1 rfl)
    have e16 : h9 11 2 = h 11 2 := (u9 11 2 rfl)
    have b17 := gi_b (lo := -2147483648) (hi := 2147483647) g 11 3 rfl
    have e18 : h9 11 3 = h 11 3 := (u9 11 3 rfl)
    have b19 := gi_b (lo := -2147483648) (hi := 2147483647) g 11 4 rfl
    have e20 : h9 11 4 = h 11 4 := (u9 11 4 rfl)
    have b21 := gi_b (lo := -2147483648) (hi := 2147483647) g 11 5 rfl
    have e22 : h9 11 5 = h 11 5 := (u9 11 5 rfl)
    have b23 := gi_b (lo := -2147483648) (hi := 2147483647) g 11 6 rfl
    have e24 : h9 11 6 = h 11 6 := (u9 11 6 rfl)
    have b25 := gi_b (lo := -2147483648) (hi := 2147483647) g 11 7 rfl
    have e26 : h9 11 7 = h 11 7 := (u9 11 7 rfl)
    have b27 := gi_b (lo := -2147483648) (hi := 2147483647) g 11 8 rfl
    have e28 : h9 11 8 = h 11 8 := (u9 11 8 rfl)
    have b29 := gi_b (lo := -2147483648) (hi := 2147483647) g 11 9 rfl
    have e30 : h9 11 9 = h 11 9 := (u9 11 9 rfl)
    have e31 : h9 1 4 = h 1 4 := (u9 1 4 rfl)
    have b32 := gi_b (lo := 0) (hi := 1) g 10 2 rfl
    have e33 : h9 10 2 = h 10 2 := (u9 10 2 rfl)
    have b34 := gi_b (lo := 0) (hi := 1) g 10 3 rfl
    have e35 : h9 10 3 = h 10 3 := (u9 10 3 rfl)
    have b36 := gi_b (lo := 0) (hi := 1) g 10 4 rfl
    have e37 : h9 10 4 = h 10 4 := (u9 10 4 rfl)
    have b38 := gi_b (lo := 0) (hi := 1) g 10 5 rfl
    have e39 : h9 10 5 = h 10 5 := (u9 10 5 rfl)
    exact k h9 z10 g9 F11 (by omega) (by unfold tk_lane tk_num; (try dsimp only); (repeat (first | rw [if_pos (by omega)] | rw [if_neg (by omega)])); (repeat ((first | unfold tk_num); (try dsimp only); (repeat (first | rw [if_pos (by omega)] | rw [if_neg (by omega)])))); first | exact tk_Oe (by omega) (by omega) (by omega) | ((repeat' split) <;> (first | exact tk_Oe (by omega) (by omega) (by omega) | (exfalso; omega))))
-- method 104: Text.takeIfNext(LPaintBank$Word;)Z
set_option maxRecDepth 100000 in
set_option maxHeartbeats 100000000 in
theorem ct_104_1 {L : Nat} {xs : Nat → Int32} {d b c : Nat} {h : hp} {cr : Nat → Nat → Option Nat} {Q : hp_Q} (hcr : CR cr)  {tB : Nat → Int} {tn tp : Int} (g : GI h) (a0 : Int) (q0_ : 1 ≤ a0 ∧ a0 ≤ 21) (pp0 : h 1 4 = tp) (pp1 : 0 ≤ tp) (pp2 : tp ≤ tn) (xq0 : BufC tB tn h) (k : ∀ (h2 : hp) (z0 : Int) , GI h2 → FR [(1, 1, some (4, 4)), (1, 1, some (5, 5)), (1, 1, some (6, 6)), (1, 1, some (7, 7)), (1, 1, some (8, 8)), (1, 1, some (9, 9))] h h2 → (0 ≤ z0 ∧ z0 ≤ 1) → ((z0 = 1 ∧ tk_kd tB tn tp = 1 ∧ tk_wd (tk_lw tB tn tp) = a0 ∧ h2 1 4 = tk_nx tB tn tp) ∨ (z0 = 0 ∧ (tk_kd tB tn tp ≠ 1 ∨ tk_wd (tk_lw tB tn tp) ≠ a0) ∧ h2 1 4 = tp)) → Q (.inl (some (vi z0))) (hp_w h2 cr) b c) : wp (md_xa (L, xs)) (d + 3) 104 (0, [(0, .ref 1), (1, wv a0)], [], hp_w h cr, b, c) Q := by
  have F0 : FR [(1, 1, some (4, 4)), (1, 1, some (5, 5)), (1, 1, some (6, 6)), (1, 1, some (7, 7)), (1, 1, some (8, 8)), (1, 1, some (9, 9))] h h := FR.refl
  have tb_1 : h 1 1 = tn := xq0.2.1
  have tb_2 : 0 ≤ tn ∧ tn ≤ 800 := xq0.2.2
  have b1 := gi_b (lo := 0) (hi := 800) g 1 4 rfl
  refine wi_aload_n (i := 0) (x := 1) (nx := 1) (r1 := 0) (r2 := 0) (r3 := 0) rfl rfl ?_
  refine wr_gi0 (k0 := 1) (x := h 1 4) (nx := 4) (r1 := 1) (r2 := 4) (r3 := 0) rfl rfl (by decide) rfl ⟨rfl, rfl⟩ rfl rfl ?_
  refine wi_istore_n (i := 2) (e := h 1 4) (lo2 := [(2, vi (h 1 4)), (0, .ref 1), (1, wv a0)]) (nx := 5) (r1 := 0) (r2 := 0) (r3 := 0) rfl rfl ?_
  refine wi_aload_n (i := 0) (x := 1) (nx := 6) (r1 := 0) (r2 := 0) (r3 := 0) rfl rfl ?_
  refine wr_V (k0 := 1) (rest := []) (as := [.ref 1]) (nx := 9) (r1 := 94) (r2 := 0) (r3 := 1) rfl rfl rfl (of_decide_eq_true rfl) rfl rfl (by decide) rfl rfl (of_decide_eq_true rfl) (of_decide_eq_true rfl) ?_
  refine ct_94_1 hcr  g   (show (h 1 4) = tp by omega) (show 0 ≤ tp by omega) (show tp ≤ tn by omega) xq0 (fun h2 g2 u2 (p2_0 : (h2 1 4) = tk_nx tB tn tp) (p2_1 : (h2 1 5) = tk_kd tB tn tp) (p2_2 : (h2 1 6) = tk_st tB tn tp) (p2_3 : tk_kd tB tn tp = 1 → ((h2 1 8) = tk_lw tB tn tp ∧ (h2 1 9) = tk_wd (tk_lw tB tn tp))) (p2_4 : tk_kd tB tn tp = 2 → (h2 1 7) = tk_nb tB tn tp) => ?_)
  have F3 := F0.then (by decide +kernel) u2
  have b4 := gi_b (lo := 0) (hi := 800) g2 1 4 rfl
  have b5 := gi_b (lo := 0) (hi := 6) g2 1 5 rfl
  have b6 := gi_b (lo := 0) (hi := 800) g2 1 6 rfl
  have b7 := gi_b (lo := -9223372036854775808) (hi := 9223372036854775807) g2 1 8 rfl
  have b8 := gi_b (lo := 1) (hi := 21) g2 1 9 rfl
  have b9 := gi_b (lo := -2147483648) (hi := 2147483647) g2 1 7 rfl
  have tN10 := @tk_nx_b tB tn tp (by omega) (by omega)
  refine wk_n ?_
  refine wi_aload_n (i := 0) (x := 1) (nx := 10) (r1 := 0) (r2 := 0) (r3 := 0) rfl rfl ?_
  refine wr_gi0 (k0 := 1) (x := h2 1 5) (nx := 13) (r1 := 1) (r2 := 5) (r3 := 0) rfl rfl (by decide) rfl ⟨rfl, rfl⟩ rfl rfl ?_
  refine wi_iconst (n := 1) (nx := 14) (r1 := 0) (r2 := 0) (r3 := 0) rfl ?_
  refine wi_icmp (cd := .ne) (nx := 17) (r1 := 27) (r2 := 0) (r3 := 0) rfl (by omega) (by omega) (fun (q11 : (h2 1 5) ≠ 1) => ?_) (fun (q11 : ¬ ((h2 1 5) ≠ 1)) => ?_)
  ·
    refine wi_aload_n (i := 0) (x := 1) (nx := 28) (r1 := 0) (r2 := 0) (r3 := 0) rfl rfl ?_
    refine wi_iload_n (i := 2) (e := h 1 4) (nx := 29) (r1 := 0) (r2 := 0) (r3 := 0) rfl rfl ?_
    refine wr_pf0 (k0 := 1) (x := h 1 4) (bl := 0) (bh := 800) (nx := 32) (r1 := 1) (r2 := 4) (r3 := 0) rfl (by decide) rfl ⟨rfl, rfl⟩ rfl rfl g2 rfl (by omega) (fun h12 g12 w12 u12 => ?_)
    have F13 := F3.then rfl u12
    refine wi_iconst (n := 0) (nx := 33) (r1 := 0) (r2 := 0) (r3 := 0) rfl ?_
    refine wi_zreturn (nx := 34) (r1 := 0) (r2 := 0) (r3 := 0) rfl rfl (by omega) ?_
    have e14 : h12 1 4 = h 1 4 := w12
    exact k h12 0 g12 F13 (by omega) (show (0 = 1 ∧ tk_kd tB tn tp = 1 ∧ tk_wd (tk_lw tB tn tp) = a0 ∧ (h12 1 4) = tk_nx tB tn tp) ∨ (0 = 0 ∧ (tk_kd tB tn tp ≠ 1 ∨ tk_wd (tk_lw tB tn tp) ≠ a0) ∧ (h12 1 4) = tp) by omega)
  ·
    refine wi_aload_n (i := 0) (x := 1) (nx := 18) (r1 := 0) (r2 := 0) (r3 := 0) rfl rfl ?_
    refine wr_gi3 (k0 := 1) (x := h2 1 9) (nx := 21) (r1 := 1) (r2 := 9) (r3 := 0) rfl rfl (by decide) rfl ⟨rfl, rfl⟩ rfl rfl ?_
    refine wi_aload_n (i := 1) (x := mm_XB + (a0 : Int).toNat) (nx := 22) (r1 := 0) (r2 := 0) (r3 := 0) rfl rfl ?_
    refine wr_acmp (cd := .ne) (x := h2 1 9) (y := a0) (nx := 25) (r1 := 27) (r2 := 0) (r3 := 0) rfl (by omega) (by omega) (fun (q12 : ((h2 1 9) = a0 ↔ Jvm.ClassFile.ACond.ne = .eq)) => ?_) (fun (q12 : ¬ ((h2 1 9) = a0 ↔ Jvm.ClassFile.ACond.ne = .eq)) => ?_)
    ·
      have q12 : ¬ ((h2 1 9) = a0) := by simpa using q12
      refine wi_aload_n (i := 0) (x := 1) (nx := 28) (r1 := 0) (r2 := 0) (r3 := 0) rfl rfl ?_
      refine wi_iload_n (i := 2) (e := h 1 4) (nx := 29) (r1 := 0) (r2 := 0) (r3 := 0) rfl rfl ?_
      refine wr_pf0 (k0 := 1) (x := h 1 4) (bl := 0) (bh := 800) (nx := 32) (r1 := 1) (r2 := 4) (r3 := 0) rfl (by decide) rfl ⟨rfl, rfl⟩ rfl rfl g2 rfl (by omega) (fun h13 g13 w13 u13 => ?_)
      have F14 := F3.then rfl u13
      refine wi_iconst (n := 0) (nx := 33) (r1 := 0) (r2 := 0) (r3 := 0) rfl ?_
      refine wi_zreturn (nx := 34) (r1 := 0) (r2 := 0) (r3 := 0) rfl rfl (by omega) ?_
      have e15 : h13 1 4 = h 1 4 := w13
      exact k h13 0 g13 F14 (by omega) (show (0 = 1 ∧ tk_kd tB tn tp = 1 ∧ tk_wd (tk_lw tB tn tp) = a0 ∧ (h13 1 4) = tk_nx tB tn tp) ∨ (0 = 0 ∧ (tk_kd tB tn tp ≠ 1 ∨ tk_wd (tk_lw tB tn tp) ≠ a0) ∧ (h13 1 4) = tp) by omega)
    ·
      have q12 : ((h2 1 9) = a0) := by simpa using q12
      refine wi_iconst (n := 1) (nx := 26) (r1 := 0) (r2 := 0) (r3 := 0) rfl ?_
      refine wi_zreturn (nx := 27) (r1 := 0) (r2 := 0) (r3 := 0) rfl rfl (by omega) ?_
      exact k h2 1 g2 F3 (by omega) (show (1 = 1 ∧ tk_kd tB tn tp = 1 ∧ tk_wd (tk_lw tB tn tp) = a0 ∧ (h2 1 4) = tk_nx tB tn tp) ∨ (1 = 0 ∧ (tk_kd tB tn tp ≠ 1 ∨ tk_wd (tk_lw tB tn tp) ≠ a0) ∧ (h2 1 4) = tp) by omega)
-- method 121: SetupReader.readCar()Z
set_option maxRecDepth 100000 in
set_option maxHeartbeats 100000000 in
theorem ct_121_10 {L : Nat} {xs : Nat → Int32} {d b c : Nat} {h : hp} {cr : Nat → Nat → Option Nat} {Q : hp_Q} (hcr : CR cr)  {tB : Nat → Int} {tn tp : Int} {tS : tk_S} (g : GI h)   (pp0 : h 1 4 = tk_nx tB tn tp) (pp1 : h 1 6 = tk_st tB tn tp) (pp2 : h 1 2 = 0) (pp3 : h 1 3 = -1) (pp4 : 0 ≤ tp) (pp5 : tp ≤ tn) (pp6 : tp ≤ tk_nx tB tn tp ∧ tk_nx tB tn tp ≤ tn) (pp7 : tS 0 ≤ 5 ∧ tS 1 ≤ 4 ∧ tS 2 ≤ 12) (xq0 : BufC tB tn h) (xq1 : CVc tS h) (k : ∀ (h2 : hp) (z0 : Int) , GI h2 → FR [(15, 15, none), (16, 16, none), (17, 17, none), (1, 1, some (2, 2)), (1, 1, some (3, 3)), (1, 1, some (4, 4)), (1, 1, some (5, 5)), (1, 1, some (6, 6)), (1, 1, some (7, 7)), (1, 1, some (8, 8)), (1, 1, some (9, 9)), (11, 11, some (2, 2))] h h2 → (0 ≤ z0 ∧ z0 ≤ 1) → (tk_O (tk_car tB tn tp tS) z0 h2) → Q (.inl (some (vi z0))) (hp_w h2 cr) b c) : wp (md_xa (L, xs)) (d + 4) 121 (0, [(0, .ref 10)], [], hp_w h cr, b, c) Q := by
  have F0 : FR [(15, 15, none), (16, 16, none), (17, 17, none), (1, 1, some (2, 2)), (1, 1, some (3, 3)), (1, 1, some (4, 4)), (1, 1, some (5, 5)), (1, 1, some (6, 6)), (1, 1, some (7, 7)), (1, 1, some (8, 8)), (1, 1, some (9, 9)), (11, 11, some (2, 2))] h h := FR.refl
  have tb_1 : h 1 1 = tn := xq0.2.1
  have tb_2 : 0 ≤ tn ∧ tn ≤ 800 := xq0.2.2
  obtain ⟨⟨cv_0, cv_1, cv_2, cv_3, cv_4, cv_5, cv_6, cv_7, cv_8, cv_9⟩, ⟨cf_2, cf_3, cf_4, cf_5⟩, -⟩ := id xq1
  have b1 := gi_b (lo := 0) (hi := 5) g 11 0 rfl
  have b2 := gi_b (lo := 0) (hi := 4) g 11 1 rfl
  have b3 := gi_b (lo := 0) (hi := 12) g 11 2 rfl
  have b4 := gi_b (lo := 0) (hi := 800) g 1 4 rfl
  have b5 := gi_b (lo := 0) (hi := 800) g 1 6 rfl
  have b6 := gi_b (lo := -2147483648) (hi := 2147483647) g 1 2 rfl
  have b7 := gi_b (lo := -2147483648) (hi := 2147483647) g 1 3 rfl
  refine wi_aload_n (i := 0) (x := 10) (nx := 1) (r1 := 0) (r2 := 0) (r3 := 0) rfl rfl ?_
  refine wr_gr (k0 := 10) (x := 11) (nx := 4) (r1 := 3) (r2 := 0) (r3 := 0) rfl rfl (by decide) rfl ⟨rfl, rfl⟩ rfl ?_
  refine wr_gi0 (k0 := 11) (x := h 11 2) (nx := 7) (r1 := 2) (r2 := 2) (r3 := 0) rfl rfl (by decide) rfl ⟨rfl, rfl⟩ rfl rfl ?_
  refine wi_istore_n (i := 1) (e := h 11 2) (lo2 := [(1, vi (h 11 2)), (0, .ref 10)]) (nx := 8) (r1 := 0) (r2 := 0) (r3 := 0) rfl rfl ?_
  refine wi_iload_n (i := 1) (e := h 11 2) (nx := 9) (r1 := 0) (r2 := 0) (r3 := 0) rfl rfl ?_
  refine wi_bipush (n := 12) (nx := 11) (r1 := 0) (r2 := 0) (r3 := 0) rfl (by decide) ?_
  refine wi_icmp (cd := .lt) (nx := 14) (r1 := 23) (r2 := 0) (r3 := 0) rfl (by omega) (by omega) (fun (q8 : (h 11 2) < 12) => ?_) (fun (q8 : ¬ ((h 11 2) < 12)) => ?_)
  ·
    refine wi_aload_n (i := 0) (x := 10) (nx := 24) (r1 := 0) (r2 := 0) (r3 := 0) rfl rfl ?_
    refine wr_gr (k0 := 10) (x := 1) (nx := 27) (r1 := 3) (r2 := 1) (r3 := 0) rfl rfl (by decide) rfl ⟨rfl, rfl⟩ rfl ?_
    refine wr_gst (v := wv 21) (nx := 30) (r1 := 20) (r2 := 0) (r3 := 0) rfl rfl rfl ?_
    refine wr_V (k0 := 1) (rest := []) (as := [.ref 1, wv 21]) (nx := 33) (r1 := 102) (r2 := 1) (r3 := 1) rfl rfl rfl (of_decide_eq_true rfl) rfl rfl (by decide) rfl rfl (of_decide_eq_true rfl) (of_decide_eq_true rfl) ?_
    refine ct_102_1 hcr  g 21 (by omega) (show (h 1 4) = (tk_nx tB tn tp) by omega) (show 0 ≤ (tk_nx tB tn tp) by omega) (show (tk_nx tB tn tp) ≤ tn by omega) xq0 (fun h9 z10 g9 u9 (fz10 : 0 ≤ z10 ∧ z10 ≤ 1) (p9_0 : (z10 = 1 ∧ tk_kd tB tn (tk_nx tB tn tp) = 1 ∧ tk_wd (tk_lw tB tn (tk_nx tB tn tp)) = 21 ∧ (h9 1 4) = tk_nx tB tn (tk_nx tB tn tp) ∧ (h9 1 6) = tk_st tB tn (tk_nx tB tn tp) ∧ (h9 1 8) = tk_lw tB tn (tk_nx tB tn tp) ∧ (h9 1 2) = (h 1 2) ∧ (h9 1 3) = (h 1 3)) ∨ (z10 = 0 ∧ (tk_kd tB tn (tk_nx tB tn tp) ≠ 1 ∨ tk_wd (tk_lw tB tn (tk_nx tB tn tp)) ≠ 21) ∧ (h9 1 2) = 1 ∧ (h9 1 3) = tk_st tB tn (tk_nx tB tn tp))) => ?_)
    have F11 := F0.then (by decide +kernel) u9
    have b12 := gi_b (lo := 0) (hi := 800) g9 1 4 rfl
    have b13 := gi_b (lo := 0) (hi := 800) g9 1 6 rfl
    have b14 := gi_b (lo := -9223372036854775808) (hi := 9223372036854775807) g9 1 8 rfl
    have b15 := gi_b (lo := -2147483648) (hi := 2147483647) g9 1 2 rfl
    have b16 := gi_b (lo := -2147483648) (hi := 2147483647) g9 1 3 rfl
    have tN17 := @tk_nx_b tB tn (tk_nx tB tn tp) (by omega) (by omega)
    refine wk_i ?_
    refine wi_if (cd := .ne) (nx := 36) (r1 := 38) (r2 := 0) (r3 := 0) rfl (by omega) (fun (q18 : z10 ≠ 0) => ?_) (fun (q18 : ¬ (z10 ≠ 0)) => ?_)
    ·
      refine wi_aload_n (i := 0) (x := 10) (nx := 39) (r1 := 0) (r2 := 0) (r3 := 0) rfl rfl ?_
      refine wr_gr (k0 := 10) (x := 11) (nx := 42) (r1 := 3) (r2 := 0) (r3 := 0) rfl rfl (by decide) rfl ⟨rfl, rfl⟩ rfl ?_
      refine wi_aload_n (i := 0) (x := 10) (nx := 43) (r1 := 0) (r2 := 0) (r3 := 0) rfl rfl ?_
      refine wr_gr (k0 := 10) (x := 1) (nx := 46) (r1 := 3) (r2 := 1) (r3 := 0) rfl rfl (by decide) rfl ⟨rfl, rfl⟩ rfl ?_
      refine wr_gi1 (k0 := 1) (x := h9 1 8) (nx := 49) (r1 := 1) (r2 := 8) (r3 := 0) rfl rfl (by decide) rfl ⟨rfl, rfl⟩ rfl rfl ?_
      refine wr_V (k0 := 11) (rest := []) (as := [.ref 11, vl (h9 1 8)]) (nx := 52) (r1 := 115) (r2 := 1) (r3 := 2) rfl rfl rfl (of_decide_eq_true rfl) rfl rfl (by decide) rfl rfl (of_decide_eq_true rfl) (of_decide_eq_true rfl) ?_
      have tb21 := BufC.fr u9 rfl xq0
      have cv22 := CVc.fr u9 rfl xq1
      refine ct_115_11 hcr  g9 (h9 1 8) (by omega)  tb21 cv22 (fun z20  (fz20 : -1 ≤ z20 ∧ z20 ≤ 4) y19_0 => ?_)
      refine wk_i ?_
      have cn23 : (z20 = -1 ∧ tk_fi tS (tk_lw tB tn (tk_nx tB tn tp)) = tS 0) ∨ (0 ≤ z20 ∧ z20 < tS 0 ∧ tk_fi tS (tk_lw tB tn (tk_nx tB tn tp)) = z20) := by rw [← show h9 1 8 = (tk_lw tB tn (tk_nx tB tn tp)) by omega]; exact y19_0
      refine wi_istore_n (i := 2) (e := z20) (lo2 := [(2, vi z20), (1, vi (h 11 2)), (0, .ref 10)]) (nx := 53) (r1 := 0) (r2 := 0) (r3 := 0) rfl rfl ?_
      refine wi_iload_n (i := 2) (e := z20) (nx := 54) (r1 := 0) (r2 := 0) (r3 := 0) rfl rfl ?_
      refine wi_iconst (n := (-1)) (nx := 55) (r1 := 0) (r2 := 0) (r3 := 0) rfl ?_
      refine wi_icmp (cd := .ne) (nx := 58) (r1 := 67) (r2 := 0) (r3 := 0) rfl (by omega) (by omega) (fun (q24 : z20 ≠ (-1)) => ?_) (fun (q24 : ¬ (z20 ≠ (-1))) => ?_)
      ·
        refine wi_aload_n (i := 0) (x := 10) (nx := 68) (r1 := 0) (r2 := 0) (r3 := 0) rfl rfl ?_
        refine wr_gr (k0 := 10) (x := 11) (nx := 71) (r1 := 3) (r2 := 0) (r3 := 0) rfl rfl (by decide) rfl ⟨rfl, rfl⟩ rfl ?_
        refine wr_gr (k0 := 11) (x := 15) (nx := 74) (r1 := 2) (r2 := 13) (r3 := 0) rfl rfl (by decide) rfl ⟨rfl, rfl⟩ rfl ?_
        refine wi_iload_n (i := 1) (e := h 11 2) (nx := 75) (r1 := 0) (r2 := 0) (r3 := 0) rfl rfl ?_
        refine wi_iload_n (i := 2) (e := z20) (nx := 76) (r1 := 0) (r2 := 0) (r3 := 0) rfl rfl ?_
        obtain ⟨i25, ei25⟩ : ∃ q : Nat, (h 11 2) = (q : Int) := ⟨(h 11 2).toNat, by omega⟩
        refine wr_is (k0 := 15) (a := h 11 2) (f := i25) (x := z20) (bl := -2147483648) (bh := 2147483647) (nx := 77) (r1 := 0) (r2 := 0) (r3 := 0) rfl (by decide) rfl (by omega) (by omega) (by decide) g9 rfl (by omega) (fun h26 g26 w26 u26 => ?_)
        have F27 := F11.then rfl (FR.rngp (lo := 15) (hi := 15) u26 (by decide))
        refine wi_aload_n (i := 0) (x := 10) (nx := 78) (r1 := 0) (r2 := 0) (r3 := 0) rfl rfl ?_
        refine wr_gr (k0 := 10) (x := 1) (nx := 81) (r1 := 3) (r2 := 1) (r3 := 0) rfl rfl (by decide) rfl ⟨rfl, rfl⟩ rfl ?_
        refine wr_gst (v := wv 5) (nx := 84) (r1 := 4) (r2 := 0) (r3 := 0) rfl rfl rfl ?_
        refine wr_V (k0 := 1) (rest := []) (as := [.ref 1, wv 5]) (nx := 87) (r1 := 102) (r2 := 1) (r3 := 1) rfl rfl rfl (of_decide_eq_true rfl) rfl rfl (by decide) rfl rfl (of_decide_eq_true rfl) (of_decide_eq_true rfl) ?_
        have e29 : h26 1 4 = h9 1 4 := (u26 1 4 (fn_a (by omega) fn_0))
        have tb31 := BufC.fr u26 rfl tb21
        refine ct_102_1 hcr  g26 5 (by omega) (show (h26 1 4) = (tk_nx tB tn (tk_nx tB tn tp)) by omega) (show 0 ≤ (tk_nx tB tn (tk_nx tB tn tp)) by omega) (show (tk_nx tB tn (tk_nx tB tn tp)) ≤ tn by omega) tb31 (fun h28 z30 g28 u28 (fz30 : 0 ≤ z30 ∧ z30 ≤ 1) (p28_0 : (z30 = 1 ∧ tk_kd tB tn (tk_nx tB tn (tk_nx tB tn tp)) = 1 ∧ tk_wd (tk_lw tB tn (tk_nx tB tn (tk_nx tB tn tp))) = 5 ∧ (h28 1 4) = tk_nx tB tn (tk_nx tB tn (tk_nx tB tn tp)) ∧ (h28 1 6) = tk_st tB tn (tk_nx tB tn (tk_nx tB tn tp)) ∧ (h28 1 8) = tk_lw tB tn (tk_nx tB tn (tk_nx tB tn tp)) ∧ (h28 1 2) = (h26 1 2) ∧ (h28 1 3) = (h26 1 3)) ∨ (z30 = 0 ∧ (tk_kd tB tn (tk_nx tB tn (tk_nx tB tn tp)) ≠ 1 ∨ tk_wd (tk_lw tB tn (tk_nx tB tn (tk_nx tB tn tp))) ≠ 5) ∧ (h28 1 2) = 1 ∧ (h28 1 3) = tk_st tB tn (tk_nx tB tn (tk_nx tB tn tp)))) => ?_)
        have F32 := F27.then (by decide +kernel) u28
        have e33 : h26 1 2 = h9 1 2 := (u26 1 2 (fn_a (by omega) fn_0))
        have e34 : h26 1 3 = h9 1 3 := (u26 1 3 (fn_a (by omega) fn_0))
        have b35 := gi_b (lo := 0) (hi := 800) g28 1 4 rfl
        have b36 := gi_b (lo := 0) (hi := 800) g28 1 6 rfl
        have b37 := gi_b (lo := -9223372036854775808) (hi := 9223372036854775807) g28 1 8 rfl
        have b38 := gi_b (lo := -2147483648) (hi := 2147483647) g28 1 2 rfl
        have b39 := gi_b (lo := -2147483648) (hi := 2147483647) g28 1 3 rfl
        have tN40 := @tk_nx_b tB tn (tk_nx tB tn (tk_nx tB tn tp)) (by omega) (by omega)
        refine wk_i ?_
        refine wi_if (cd := .eq) (nx := 90) (r1 := 102) (r2 := 0) (r3 := 0) rfl (by omega) (fun (q41 : z30 = 0) => ?_) (fun (q41 : ¬ (z30 = 0)) => ?_)
        ·
          refine wi_iconst (n := 0) (nx := 103) (r1 := 0) (r2 := 0) (r3 := 0) rfl ?_
          refine wi_zreturn (nx := 104) (r1 := 0) (r2 := 0) (r3 := 0) rfl rfl (by omega) ?_
          have e42 : h28 11 0 = h 11 0 := ((u28 11 0 rfl).trans ((u26 11 0 (fn_a (by omega) fn_0)).trans (u9 11 0 rfl)))
          have e43 : h28 11 1 = h 11 1 := ((u28 11 1 rfl).trans ((u26 11 1 (fn_a (by omega) fn_0)).trans (u9 11 1 rfl)))
          have e44 : h28 11 2 = h 11 2 := ((u28 11 2 rfl).trans ((u26 11 2 (fn_a (by omega) fn_0)).trans (u9 11 2 rfl)))
          have b45 := gi_b (lo := -2147483648) (hi := 2147483647) g 11 3 rfl
          have e46 : h28 11 3 = h 11 3 := ((u28 11 3 rfl).trans ((u26 11 3 (fn_a (by omega) fn_0)).trans (u9 11 3 rfl)))
          have b47 := gi_b (lo := -2147483648) (hi := 2147483647) g 11 4 rfl
          have e48 : h28 11 4 = h 11 4 := ((u28 11 4 rfl).trans ((u26 11 4 (fn_a (by omega) fn_0)).trans (u9 11 4 rfl)))
          have b49 := gi_b (lo := -2147483648) (hi := 2147483647) g 11 5 rfl
          have e50 : h28 11 5 = h 11 5 := ((u28 11 5 rfl).trans ((u26 11 5 (fn_a (by omega) fn_0)).trans (u9 11 5 rfl)))
          have b51 := gi_b (lo := -2147483648) (hi := 2147483647) g 11 6 rfl
          have e52 : h28 11 6 = h 11 6 := ((u28 11 6 rfl).trans ((u26 11 6 (fn_a (by omega) fn_0)).trans (u9 11 6 rfl)))
          have b53 := gi_b (lo := -2147483648) (hi := 2147483647) g 11 7 rfl
          have e54 : h28 11 7 = h 11 7 := ((u28 11 7 rfl).trans ((u26 11 7 (fn_a (by omega) fn_0)).trans (u9 11 7 rfl)))
          have b55 := gi_b (lo := -2147483648) (hi := 2147483647) g 11 8 rfl
          have e56 : h28 11 8 = h 11 8 := ((u28 11 8 rfl).trans ((u26 11 8 (fn_a (by omega) fn_0)).trans (u9 11 8 rfl)))
          have b57 := gi_b (lo := -2147483648) (hi := 2147483647) g 11 9 rfl
          have e58 : h28 11 9 = h 11 9 := ((u28 11 9 rfl).trans ((u26 11 9 (fn_a (by omega) fn_0)).trans (u9 11 9 rfl)))
          have b59 := gi_b (lo := 0) (hi := 1) g 10 2 rfl
          have e60 : h28 10 2 = h 10 2 := ((u28 10 2 rfl).trans ((u26 10 2 (fn_a (by omega) fn_0)).trans (u9 10 2 rfl)))
          have b61 := gi_b (lo := 0) (hi := 1) g 10 3 rfl
          have e62 : h28 10 3 = h 10 3 := ((u28 10 3 rfl).trans ((u26 10 3 (fn_a (by omega) fn_0)).trans (u9 10 3 rfl)))
          have b63 := gi_b (lo := 0) (hi := 1) g 10 4 rfl
          have e64 : h28 10 4 = h 10 4 := ((u28 10 4 rfl).trans ((u26 10 4 (fn_a (by omega) fn_0)).trans (u9 10 4 rfl)))
          have b65 := gi_b (lo := 0) (hi := 1) g 10 5 rfl
          have e66 : h28 10 5 = h 10 5 := ((u28 10 5 rfl).trans ((u26 10 5 (fn_a (by omega) fn_0)).trans (u9 10 5 rfl)))
          exact k h28 0 g28 F32 (by omega) (by unfold tk_car tk_wrd tk_num tk_bad; (try dsimp only); (repeat (first | rw [if_pos (by omega)] | rw [if_neg (by omega)])); (repeat ((first | unfold tk_wrd | unfold tk_num | unfold tk_bad); (try dsimp only); (repeat (first | rw [if_pos (by omega)] | rw [if_neg (by omega)])))); first | exact tk_Oe (by omega) (by omega) (by omega) | ((repeat' split) <;> (first | exact tk_Oe (by omega) (by omega) (by omega) | (exfalso; omega))))
        ·
          refine wi_aload_n (i := 0) (x := 10) (nx := 91) (r1 := 0) (r2 := 0) (r3 := 0) rfl rfl ?_
          refine wr_gr (k0 := 10) (x := 1) (nx := 94) (r1 := 3) (r2 := 1) (r3 := 0) rfl rfl (by decide) rfl ⟨rfl, rfl⟩ rfl ?_
          refine wi_iconst (n := 0) (nx := 95) (r1 := 0) (r2 := 0) (r3 := 0) rfl ?_
          refine wi_iconst (n := 3) (nx := 96) (r1 := 0) (r2 := 0) (r3 := 0) rfl ?_
          refine wr_V (k0 := 1) (rest := []) (as := [.ref 1, vi 0, vi 3]) (nx := 99) (r1 := 103) (r2 := 2) (r3 := 1) rfl rfl rfl (of_decide_eq_true rfl) rfl rfl (by decide) rfl rfl (of_decide_eq_true rfl) (of_decide_eq_true rfl) ?_
          have tb44 := BufC.fr u28 rfl tb31
          refine ct_103_1 hcr  g28 0 3 (by omega) (by omega) (show (h28 1 4) = (tk_nx tB tn (tk_nx tB tn (tk_nx tB tn tp))) by omega) (show 0 ≤ (tk_nx tB tn (tk_nx tB tn (tk_nx tB tn tp))) by omega) (show (tk_nx tB tn (tk_nx tB tn (tk_nx tB tn tp))) ≤ tn by omega) tb44 (fun h42 z43 g42 u42 (fz43 : 0 ≤ z43 ∧ z43 ≤ 1) (p42_0 : (z43 = 1 ∧ tk_kd tB tn (tk_nx tB tn (tk_nx tB tn (tk_nx tB tn tp))) = 2 ∧ 0 ≤ tk_nb tB tn (tk_nx tB tn (tk_nx tB tn (tk_nx tB tn tp))) ∧ tk_nb tB tn (tk_nx tB tn (tk_nx tB tn (tk_nx tB tn tp))) ≤ 3 ∧ (h42 1 4) = tk_nx tB tn (tk_nx tB tn (tk_nx tB tn (tk_nx tB tn tp))) ∧ (h42 1 7) = tk_nb tB tn (tk_nx tB tn (tk_nx tB tn (tk_nx tB tn tp))) ∧ (h42 1 2) = (h28 1 2) ∧ (h42 1 3) = (h28 1 3)) ∨ (z43 = 0 ∧ (h42 1 3) = tk_st tB tn (tk_nx tB tn (tk_nx tB tn (tk_nx tB tn tp))) ∧ ((tk_kd tB tn (tk_nx tB tn (tk_nx tB tn (tk_nx tB tn tp))) ≠ 2 ∧ (h42 1 2) = 1) ∨ (tk_kd tB tn (tk_nx tB tn (tk_nx tB tn (tk_nx tB tn tp))) = 2 ∧ (tk_nb tB tn (tk_nx tB tn (tk_nx tB tn (tk_nx tB tn tp))) < 0 ∨ 3 < tk_nb tB tn (tk_nx tB tn (tk_nx tB tn (tk_nx tB tn tp)))) ∧ (h42 1 2) = 2)))) => ?_)
          have F45 := F32.then (by decide +kernel) u42
          have b46 := gi_b (lo := 0) (hi := 800) g42 1 4 rfl
          have b47 := gi_b (lo := -2147483648) (hi := 2147483647) g42 1 7 rfl
          have b48 := gi_b (lo := -2147483648) (hi := 2147483647) g42 1 2 rfl
          have b49 := gi_b (lo := -2147483648) (hi := 2147483647) g42 1 3 rfl
          have tN50 := @tk_nx_b tB tn (tk_nx tB tn (tk_nx tB tn (tk_nx tB tn tp))) (by omega) (by omega)
          refine wk_i ?_
          refine wi_if (cd := .ne) (nx := 102) (r1 := 104) (r2 := 0) (r3 := 0) rfl (by omega) (fun (q51 : z43 ≠ 0) => ?_) (fun (q51 : ¬ (z43 ≠ 0)) => ?_)
          ·
            refine wi_aload_n (i := 0) (x := 10) (nx := 105) (r1 := 0) (r2 := 0) (r3 := 0) rfl rfl ?_
            refine wr_gr (k0 := 10) (x := 11) (nx := 108) (r1 := 3) (r2 := 0) (r3 := 0) rfl rfl (by decide) rfl ⟨rfl, rfl⟩ rfl ?_
            refine wr_gr (k0 := 11) (x := 16) (nx := 111) (r1 := 2) (r2 := 14) (r3 := 0) rfl rfl (by decide) rfl ⟨rfl, rfl⟩ rfl ?_
            refine wi_iload_n (i := 1) (e := h 11 2) (nx := 112) (r1 := 0) (r2 := 0) (r3 := 0) rfl rfl ?_
            refine wi_aload_n (i := 0) (x := 10) (nx := 113) (r1 := 0) (r2 := 0) (r3 := 0) rfl rfl ?_
            refine wr_gr (k0 := 10) (x := 1) (nx := 116) (r1 := 3) (r2 := 1) (r3 := 0) rfl rfl (by decide) rfl ⟨rfl, rfl⟩ rfl ?_
            refine wr_gi0 (k0 := 1) (x := h42 1 7) (nx := 119) (r1 := 1) (r2 := 7) (r3 := 0) rfl rfl (by decide) rfl ⟨rfl, rfl⟩ rfl rfl ?_
            refine wr_is (k0 := 16) (a := h 11 2) (f := i25) (x := h42 1 7) (bl := -2147483648) (bh := 2147483647) (nx := 120) (r1 := 0) (r2 := 0) (r3 := 0) rfl (by decide) rfl (by omega) (by omega) (by decide) g42 rfl (by omega) (fun h52 g52 w52 u52 => ?_)
            have F53 := F45.then rfl (FR.rngp (lo := 16) (hi := 16) u52 (by decide))
            refine wi_aload_n (i := 0) (x := 10) (nx := 121) (r1 := 0) (r2 := 0) (r3 := 0) rfl rfl ?_
            refine wr_gr (k0 := 10) (x := 11) (nx := 124) (r1 := 3) (r2 := 0) (r3 := 0) rfl rfl (by decide) rfl ⟨rfl, rfl⟩ rfl ?_
            refine wr_gr (k0 := 11) (x := 17) (nx := 127) (r1 := 2) (r2 := 15) (r3 := 0) rfl rfl (by decide) rfl ⟨rfl, rfl⟩ rfl ?_
            refine wi_iload_n (i := 1) (e := h 11 2) (nx := 128) (r1 := 0) (r2 := 0) (r3 := 0) rfl rfl ?_
            refine wi_iconst (n := 0) (nx := 129) (r1 := 0) (r2 := 0) (r3 := 0) rfl ?_
            refine wr_is (k0 := 17) (a := h 11 2) (f := i25) (x := 0) (bl := -2147483648) (bh := 2147483647) (nx := 130) (r1 := 0) (r2 := 0) (r3 := 0) rfl (by decide) rfl (by omega) (by omega) (by decide) g52 rfl (by omega) (fun h54 g54 w54 u54 => ?_)
            have F55 := F53.then rfl (FR.rngp (lo := 17) (hi := 17) u54 (by decide))
            refine wi_aload_n (i := 0) (x := 10) (nx := 131) (r1 := 0) (r2 := 0) (r3 := 0) rfl rfl ?_
            refine wr_gr (k0 := 10) (x := 1) (nx := 134) (r1 := 3) (r2 := 1) (r3 := 0) rfl rfl (by decide) rfl ⟨rfl, rfl⟩ rfl ?_
            refine wr_gst (v := wv 6) (nx := 137) (r1 := 5) (r2 := 0) (r3 := 0) rfl rfl rfl ?_
            refine wr_V (k0 := 1) (rest := []) (as := [.ref 1, wv 6]) (nx := 140) (r1 := 104) (r2 := 1) (r3 := 1) rfl rfl rfl (of_decide_eq_true rfl) rfl rfl (by decide) rfl rfl (of_decide_eq_true rfl) (of_decide_eq_true rfl) ?_
            have e57 : h54 1 4 = h42 1 4 := ((u54 1 4 (fn_a (by omega) fn_0)).trans (u52 1 4 (fn_a (by omega) fn_0)))
            have tb59 := BufC.fr u42 rfl tb44
            have tb60 := BufC.fr u52 rfl tb59
            have tb61 := BufC.fr u54 rfl tb60
            refine ct_104_1 hcr  g54 6 (by omega) (show (h54 1 4) = (tk_nx tB tn (tk_nx tB tn (tk_nx tB tn (tk_nx tB tn tp)))) by omega) (show 0 ≤ (tk_nx tB tn (tk_nx tB tn (tk_nx tB tn (tk_nx tB tn tp)))) by omega) (show (tk_nx tB tn (tk_nx tB tn (tk_nx tB tn (tk_nx tB tn tp)))) ≤ tn by omega) tb61 (fun h56 z58 g56 u56 (fz58 : 0 ≤ z58 ∧ z58 ≤ 1) (p56_0 : (z58 = 1 ∧ tk_kd tB tn (tk_nx tB tn (tk_nx tB tn (tk_nx tB tn (tk_nx tB tn tp)))) = 1 ∧ tk_wd (tk_lw tB tn (tk_nx tB tn (tk_nx tB tn (tk_nx tB tn (tk_nx tB tn tp))))) = 6 ∧ (h56 1 4) = tk_nx tB tn (tk_nx tB tn (tk_nx tB tn (tk_nx tB tn (tk_nx tB tn tp))))) ∨ (z58 = 0 ∧ (tk_kd tB tn (tk_nx tB tn (tk_nx tB tn (tk_nx tB tn (tk_nx tB tn tp)))) ≠ 1 ∨ tk_wd (tk_lw tB tn (tk_nx tB tn (tk_nx tB tn (tk_nx tB tn (tk_nx tB tn tp))))) ≠ 6) ∧ (h56 1 4) = (tk_nx tB tn (tk_nx tB tn (tk_nx tB tn (tk_nx tB tn tp)))))) => ?_)
            have F62 := F55.then (by decide +kernel) u56
            have b63 := gi_b (lo := 0) (hi := 800) g56 1 4 rfl
            refine wk_i ?_
            rcases p56_0 with p56_0 | p56_0
            ·
              have tN64 := @tk_nx_b tB tn (tk_nx tB tn (tk_nx tB tn (tk_nx tB tn (tk_nx tB tn tp)))) (by omega) (by omega)
              refine wi_if (cd := .eq) (nx := 143) (r1 := 173) (r2 := 0) (r3 := 0) rfl (by omega) (fun (q65 : z58 = 0) => by exfalso; omega) (fun (q65 : ¬ (z58 = 0)) => ?_)
              refine wi_aload_n (i := 0) (x := 10) (nx := 144) (r1 := 0) (r2 := 0) (r3 := 0) rfl rfl ?_
              refine wr_gr (k0 := 10) (x := 1) (nx := 147) (r1 := 3) (r2 := 1) (r3 := 0) rfl rfl (by decide) rfl ⟨rfl, rfl⟩ rfl ?_
              refine wi_iconst (n := 0) (nx := 148) (r1 := 0) (r2 := 0) (r3 := 0) rfl ?_
              refine wi_iconst (n := 2) (nx := 149) (r1 := 0) (r2 := 0) (r3 := 0) rfl ?_
              refine wr_V (k0 := 1) (rest := []) (as := [.ref 1, vi 0, vi 2]) (nx := 152) (r1 := 103) (r2 := 2) (r3 := 1) rfl rfl rfl (of_decide_eq_true rfl) rfl rfl (by decide) rfl rfl (of_decide_eq_true rfl) (of_decide_eq_true rfl) ?_
              have tb68 := BufC.fr u56 rfl tb61
              refine ct_103_1 hcr  g56 0 2 (by omega) (by omega) (show (h56 1 4) = (tk_nx tB tn (tk_nx tB tn (tk_nx tB tn (tk_nx tB tn (tk_nx tB tn tp))))) by omega) (show 0 ≤ (tk_nx tB tn (tk_nx tB tn (tk_nx tB tn (tk_nx tB tn (tk_nx tB tn tp))))) by omega) (show (tk_nx tB tn (tk_nx tB tn (tk_nx tB tn (tk_nx tB tn (tk_nx tB tn tp))))) ≤ tn by omega) tb68 (fun h66 z67 g66 u66 (fz67 : 0 ≤ z67 ∧ z67 ≤ 1) (p66_0 : (z67 = 1 ∧ tk_kd tB tn (tk_nx tB tn (tk_nx tB tn (tk_nx tB tn (tk_nx tB tn (tk_nx tB tn tp))))) = 2 ∧ 0 ≤ tk_nb tB tn (tk_nx tB tn (tk_nx tB tn (tk_nx tB tn (tk_nx tB tn (tk_nx tB tn tp))))) ∧ tk_nb tB tn (tk_nx tB tn (tk_nx tB tn (tk_nx tB tn (tk_nx tB tn (tk_nx tB tn tp))))) ≤ 2 ∧ (h66 1 4) = tk_nx tB tn (tk_nx tB tn (tk_nx tB tn (tk_nx tB tn (tk_nx tB tn (tk_nx tB tn tp))))) ∧ (h66 1 7) = tk_nb tB tn (tk_nx tB tn (tk_nx tB tn (tk_nx tB tn (tk_nx tB tn (tk_nx tB tn tp))))) ∧ (h66 1 2) = (h56 1 2) ∧ (h66 1 3) = (h56 1 3)) ∨ (z67 = 0 ∧ (h66 1 3) = tk_st tB tn (tk_nx tB tn (tk_nx tB tn (tk_nx tB tn (tk_nx tB tn (tk_nx tB tn tp))))) ∧ ((tk_kd tB tn (tk_nx tB tn (tk_nx tB tn (tk_nx tB tn (tk_nx tB tn (tk_nx tB tn tp))))) ≠ 2 ∧ (h66 1 2) = 1) ∨ (tk_kd tB tn (tk_nx tB tn (tk_nx tB tn (tk_nx tB tn (tk_nx tB tn (tk_nx tB tn tp))))) = 2 ∧ (tk_nb tB tn (tk_nx tB tn (tk_nx tB tn (tk_nx tB tn (tk_nx tB tn (tk_nx tB tn tp))))) < 0 ∨ 2 < tk_nb tB tn (tk_nx tB tn (tk_nx tB tn (tk_nx tB tn (tk_nx tB tn (tk_nx tB tn tp)))))) ∧ (h66 1 2) = 2)))) => ?_)
              have F69 := F62.then (by decide +kernel) u66
              have e70 : h56 1 2 = h42 1 2 := ((u56 1 2 rfl).trans ((u54 1 2 (fn_a (by omega) fn_0)).trans (u52 1 2 (fn_a (by omega) fn_0))))
              have e71 : h56 1 3 = h42 1 3 := ((u56 1 3 rfl).trans ((u54 1 3 (fn_a (by omega) fn_0)).trans (u52 1 3 (fn_a (by omega) fn_0))))
              have b72 := gi_b (lo := 0) (hi := 800) g66 1 4 rfl
              have b73 := gi_b (lo := -2147483648) (hi := 2147483647) g66 1 7 rfl
              have b74 := gi_b (lo := -2147483648) (hi := 2147483647) g66 1 2 rfl
              have b75 := gi_b (lo := -2147483648) (hi := 2147483647) g66 1 3 rfl
              have tN76 := @tk_nx_b tB tn (tk_nx tB tn (tk_nx tB tn (tk_nx tB tn (tk_nx tB tn (tk_nx tB tn tp))))) (by omega) (by omega)
              refine wk_i ?_
              refine wi_if (cd := .ne) (nx := 155) (r1 := 157) (r2 := 0) (r3 := 0) rfl (by omega) (fun (q77 : z67 ≠ 0) => ?_) (fun (q77 : ¬ (z67 ≠ 0)) => ?_)
              ·
                refine wi_aload_n (i := 0) (x := 10) (nx := 158) (r1 := 0) (r2 := 0) (r3 := 0) rfl rfl ?_
                refine wr_gr (k0 := 10) (x := 11) (nx := 161) (r1 := 3) (r2 := 0) (r3 := 0) rfl rfl (by decide) rfl ⟨rfl, rfl⟩ rfl ?_
                refine wr_gr (k0 := 11) (x := 17) (nx := 164) (r1 := 2) (r2 := 15) (r3 := 0) rfl rfl (by decide) rfl ⟨rfl, rfl⟩ rfl ?_
                refine wi_iload_n (i := 1) (e := h 11 2) (nx := 165) (r1 := 0) (r2 := 0) (r3 := 0) rfl rfl ?_
                refine wi_aload_n (i := 0) (x := 10) (nx := 166) (r1 := 0) (r2 := 0) (r3 := 0) rfl rfl ?_
                refine wr_gr (k0 := 10) (x := 1) (nx := 169) (r1 := 3) (r2 := 1) (r3 := 0) rfl rfl (by decide) rfl ⟨rfl, rfl⟩ rfl ?_
                refine wr_gi0 (k0 := 1) (x := h66 1 7) (nx := 172) (r1 := 1) (r2 := 7) (r3 := 0) rfl rfl (by decide) rfl ⟨rfl, rfl⟩ rfl rfl ?_
                refine wr_is (k0 := 17) (a := h 11 2) (f := i25) (x := h66 1 7) (bl := -2147483648) (bh := 2147483647) (nx := 173) (r1 := 0) (r2 := 0) (r3 := 0) rfl (by decide) rfl (by omega) (by omega) (by decide) g66 rfl (by omega) (fun h78 g78 w78 u78 => ?_)
                have F79 := F69.then rfl (FR.rngp (lo := 17) (hi := 17) u78 (by decide))
                refine wi_aload_n (i := 0) (x := 10) (nx := 174) (r1 := 0) (r2 := 0) (r3 := 0) rfl rfl ?_
                refine wr_gr (k0 := 10) (x := 11) (nx := 177) (r1 := 3) (r2 := 0) (r3 := 0) rfl rfl (by decide) rfl ⟨rfl, rfl⟩ rfl ?_
                refine wi_iload_n (i := 1) (e := h 11 2) (nx := 178) (r1 := 0) (r2 := 0) (r3 := 0) rfl rfl ?_
                refine wi_iconst (n := 1) (nx := 179) (r1 := 0) (r2 := 0) (r3 := 0) rfl ?_
                refine wr_add (nx := 180) (r1 := 0) (r2 := 0) (r3 := 0) rfl (fun e80 (fe80 : e80 = (h 11 2) + 1) => ?_)
                refine wr_pf0 (k0 := 11) (x := e80) (bl := 0) (bh := 12) (nx := 183) (r1 := 2) (r2 := 2) (r3 := 0) rfl (by decide) rfl ⟨rfl, rfl⟩ rfl rfl g78 rfl (by omega) (fun h81 g81 w81 u81 => ?_)
                have F82 := F79.then rfl u81
                refine wi_iconst (n := 1) (nx := 184) (r1 := 0) (r2 := 0) (r3 := 0) rfl ?_
                refine wi_zreturn (nx := 185) (r1 := 0) (r2 := 0) (r3 := 0) rfl rfl (by omega) ?_
                have e83 : h81 11 0 = h 11 0 := ((u81 11 0 rfl).trans ((u78 11 0 (fn_a (by omega) fn_0)).trans ((u66 11 0 rfl).trans ((u56 11 0 rfl).trans ((u54 11 0 (fn_a (by omega) fn_0)).trans ((u52 11 0 (fn_a (by omega) fn_0)).trans ((u42 11 0 rfl).trans ((u28 11 0 rfl).trans ((u26 11 0 (fn_a (by omega) fn_0)).trans (u9 11 0 rfl))))))))))
                have e84 : h81 11 1 = h 11 1 := ((u81 11 1 rfl).trans ((u78 11 1 (fn_a (by omega) fn_0)).trans ((u66 11 1 rfl).trans ((u56 11 1 rfl).trans ((u54 11 1 (fn_a (by omega) fn_0)).trans ((u52 11 1 (fn_a (by omega) fn_0)).trans ((u42 11 1 rfl).trans ((u28 11 1 rfl).trans ((u26 11 1 (fn_a (by omega) fn_0)).trans (u9 11 1 rfl))))))))))
                have e85 : h81 11 2 = e80 := w81
                have b86 := gi_b (lo := -2147483648) (hi := 2147483647) g 11 3 rfl
                have e87 : h81 11 3 = h 11 3 := ((u81 11 3 rfl).trans ((u78 11 3 (fn_a (by omega) fn_0)).trans ((u66 11 3 rfl).trans ((u56 11 3 rfl).trans ((u54 11 3 (fn_a (by omega) fn_0)).trans ((u52 11 3 (fn_a (by omega) fn_0)).trans ((u42 11 3 rfl).trans ((u28 11 3 rfl).trans ((u26 11 3 (fn_a (by omega) fn_0)).trans (u9 11 3 rfl))))))))))
                have b88 := gi_b (lo := -2147483648) (hi := 2147483647) g 11 4 rfl
                have e89 : h81 11 4 = h 11 4 := ((u81 11 4 rfl).trans ((u78 11 4 (fn_a (by omega) fn_0)).trans ((u66 11 4 rfl).trans ((u56 11 4 rfl).trans ((u54 11 4 (fn_a (by omega) fn_0)).trans ((u52 11 4 (fn_a (by omega) fn_0)).trans ((u42 11 4 rfl).trans ((u28 11 4 rfl).trans ((u26 11 4 (fn_a (by omega) fn_0)).trans (u9 11 4 rfl))))))))))
                have b90 := gi_b (lo := -2147483648) (hi := 2147483647) g 11 5 rfl
                have e91 : h81 11 5 = h 11 5 := ((u81 11 5 rfl).trans ((u78 11 5 (fn_a (by omega) fn_0)).trans ((u66 11 5 rfl).trans ((u56 11 5 rfl).trans ((u54 11 5 (fn_a (by omega) fn_0)).trans ((u52 11 5 (fn_a (by omega) fn_0)).trans ((u42 11 5 rfl).trans ((u28 11 5 rfl).trans ((u26 11 5 (fn_a (by omega) fn_0)).trans (u9 11 5 rfl))))))))))
                have b92 := gi_b (lo := -2147483648) (hi := 2147483647) g 11 6 rfl
                have e93 : h81 11 6 = h 11 6 := ((u81 11 6 rfl).trans ((u78 11 6 (fn_a (by omega) fn_0)).trans ((u66 11 6 rfl).trans ((u56 11 6 rfl).trans ((u54 11 6 (fn_a (by omega) fn_0)).trans ((u52 11 6 (fn_a (by omega) fn_0)).trans ((u42 11 6 rfl).trans ((u28 11 6 rfl).trans ((u26 11 6 (fn_a (by omega) fn_0)).trans (u9 11 6 rfl))))))))))
                have b94 := gi_b (lo := -2147483648) (hi := 2147483647) g 11 7 rfl
                have e95 : h81 11 7 = h 11 7 := ((u81 11 7 rfl).trans ((u78 11 7 (fn_a (by omega) fn_0)).trans ((u66 11 7 rfl).trans ((u56 11 7 rfl).trans ((u54 11 7 (fn_a (by omega) fn_0)).trans ((u52 11 7 (fn_a (by omega) fn_0)).trans ((u42 11 7 rfl).trans ((u28 11 7 rfl).trans ((u26 11 7 (fn_a (by omega) fn_0)).trans (u9 11 7 rfl))))))))))
                have b96 := gi_b (lo := -2147483648) (hi := 2147483647) g 11 8 rfl
                have e97 : h81 11 8 = h 11 8 := ((u81 11 8 rfl).trans ((u78 11 8 (fn_a (by omega) fn_0)).trans ((u66 11 8 rfl).trans ((u56 11 8 rfl).trans ((u54 11 8 (fn_a (by omega) fn_0)).trans ((u52 11 8 (fn_a (by omega) fn_0)).trans ((u42 11 8 rfl).trans ((u28 11 8 rfl).trans ((u26 11 8 (fn_a (by omega) fn_0)).trans (u9 11 8 rfl))))))))))
                have b98 := gi_b (lo := -2147483648) (hi := 2147483647) g 11 9 rfl
                have e99 : h81 11 9 = h 11 9 := ((u81 11 9 rfl).trans ((u78 11 9 (fn_a (by omega) fn_0)).trans ((u66 11 9 rfl).trans ((u56 11 9 rfl).trans ((u54 11 9 (fn_a (by omega) fn_0)).trans ((u52 11 9 (fn_a (by omega) fn_0)).trans ((u42 11 9 rfl).trans ((u28 11 9 rfl).trans ((u26 11 9 (fn_a (by omega) fn_0)).trans (u9 11 9 rfl))))))))))
                have e100 : h81 1 2 = h66 1 2 := ((u81 1 2 rfl).trans (u78 1 2 (fn_a (by omega) fn_0)))
                have e101 : h81 1 3 = h66 1 3 := ((u81 1 3 rfl).trans (u78 1 3 (fn_a (by omega) fn_0)))
                have e102 : h81 1 4 = h66 1 4 := ((u81 1 4 rfl).trans (u78 1 4 (fn_a (by omega) fn_0)))
                have b103 := gi_b (lo := 0) (hi := 1) g 10 2 rfl
                have e104 : h81 10 2 = h 10 2 := ((u81 10 2 rfl).trans ((u78 10 2 (fn_a (by omega) fn_0)).trans ((u66 10 2 rfl).trans ((u56 10 2 rfl).trans ((u54 10 2 (fn_a (by omega) fn_0)).trans ((u52 10 2 (fn_a (by omega) fn_0)).trans ((u42 10 2 rfl).trans ((u28 10 2 rfl).trans ((u26 10 2 (fn_a (by omega) fn_0)).trans (u9 10 2 rfl))))))))))
                have b105 := gi_b (lo := 0) (hi := 1) g 10 3 rfl
                have e106 : h81 10 3 = h 10 3 := ((u81 10 3 rfl).trans ((u78 10 3 (fn_a (by omega) fn_0)).trans ((u66 10 3 rfl).trans ((u56 10 3 rfl).trans ((u54 10 3 (fn_a (by omega) fn_0)).trans ((u52 10 3 (fn_a (by omega) fn_0)).trans ((u42 10 3 rfl).trans ((u28 10 3 rfl).trans ((u26 10 3 (fn_a (by omega) fn_0)).trans (u9 10 3 rfl))))))))))
                have b107 := gi_b (lo := 0) (hi := 1) g 10 4 rfl
                have e108 : h81 10 4 = h 10 4 := ((u81 10 4 rfl).trans ((u78 10 4 (fn_a (by omega) fn_0)).trans ((u66 10 4 rfl).trans ((u56 10 4 rfl).trans ((u54 10 4 (fn_a (by omega) fn_0)).trans ((u52 10 4 (fn_a (by omega) fn_0)).trans ((u42 10 4 rfl).trans ((u28 10 4 rfl).trans ((u26 10 4 (fn_a (by omega) fn_0)).trans (u9 10 4 rfl))))))))))
                have b109 := gi_b (lo := 0) (hi := 1) g 10 5 rfl
                have e110 : h81 10 5 = h 10 5 := ((u81 10 5 rfl).trans ((u78 10 5 (fn_a (by omega) fn_0)).trans ((u66 10 5 rfl).trans ((u56 10 5 rfl).trans ((u54 10 5 (fn_a (by omega) fn_0)).trans ((u52 10 5 (fn_a (by omega) fn_0)).trans ((u42 10 5 rfl).trans ((u28 10 5 rfl).trans ((u26 10 5 (fn_a (by omega) fn_0)).trans (u9 10 5 rfl))))))))))
                exact k h81 1 g81 F82 (by omega) (by unfold tk_car tk_wrd tk_num tk_bad; (try dsimp only); (repeat (first | rw [if_pos (by omega)] | rw [if_neg (by omega)])); (repeat ((first | unfold tk_wrd | unfold tk_num | unfold tk_bad); (try dsimp only); (repeat (first | rw [if_pos (by omega)] | rw [if_neg (by omega)])))); exact tk_Os (by omega) (by omega) (by omega) (by omega) (CVc.car (c := i25) xq1 (by omega) (by omega) (by omega) (by omega) (fun i _ _ => ((u81 11 i (fn_i (by omega) fn_0)).trans ((u78 11 i (fn_a (by omega) fn_0)).trans ((u66 11 i (fo_nk rfl)).trans ((u56 11 i (fo_nk rfl)).trans ((u54 11 i (fn_a (by omega) fn_0)).trans ((u52 11 i (fn_a (by omega) fn_0)).trans ((u42 11 i (fo_nk rfl)).trans ((u28 11 i (fo_nk rfl)).trans ((u26 11 i (fn_a (by omega) fn_0)).trans (u9 11 i (fo_nk rfl)))))))))))) (fun i _ _ => ((u81 10 i (fn_a (by omega) fn_0)).trans ((u78 10 i (fn_a (by omega) fn_0)).trans ((u66 10 i (fo_nk rfl)).trans ((u56 10 i (fo_nk rfl)).trans ((u54 10 i (fn_a (by omega) fn_0)).trans ((u52 10 i (fn_a (by omega) fn_0)).trans ((u42 10 i (fo_nk rfl)).trans ((u28 10 i (fo_nk rfl)).trans ((u26 10 i (fn_a (by omega) fn_0)).trans (u9 10 i (fo_nk rfl)))))))))))) (((u81 15 i25 (fn_a (by omega) fn_0)).trans ((u78 15 i25 (fn_a (by omega) fn_0)).trans ((u66 15 i25 (fo_nk rfl)).trans ((u56 15 i25 (fo_nk rfl)).trans ((u54 15 i25 (fn_a (by omega) fn_0)).trans ((u52 15 i25 (fn_a (by omega) fn_0)).trans ((u42 15 i25 (fo_nk rfl)).trans ((u28 15 i25 (fo_nk rfl)).trans w26)))))))).trans (by omega)) (((u81 16 i25 (fn_a (by omega) fn_0)).trans ((u78 16 i25 (fn_a (by omega) fn_0)).trans ((u66 16 i25 (fo_nk rfl)).trans ((u56 16 i25 (fo_nk rfl)).trans ((u54 16 i25 (fn_a (by omega) fn_0)).trans w52))))).trans (by omega)) (((u81 17 i25 (fn_a (by omega) fn_0)).trans w78).trans (by omega)) (fun i _ => ((u81 15 i (fn_a (by omega) fn_0)).trans ((u78 15 i (fn_a (by omega) fn_0)).trans ((u66 15 i (fo_nk rfl)).trans ((u56 15 i (fo_nk rfl)).trans ((u54 15 i (fn_a (by omega) fn_0)).trans ((u52 15 i (fn_a (by omega) fn_0)).trans ((u42 15 i (fo_nk rfl)).trans ((u28 15 i (fo_nk rfl)).trans ((u26 15 i (fn_i (by omega) fn_0)).trans (u9 15 i (fo_nk rfl)))))))))))) (fun i _ => ((u81 16 i (fn_a (by omega) fn_0)).trans ((u78 16 i (fn_a (by omega) fn_0)).trans ((u66 16 i (fo_nk rfl)).trans ((u56 16 i (fo_nk rfl)).trans ((u54 16 i (fn_a (by omega) fn_0)).trans ((u52 16 i (fn_i (by omega) fn_0)).trans ((u42 16 i (fo_nk rfl)).trans ((u28 16 i (fo_nk rfl)).trans ((u26 16 i (fn_a (by omega) fn_0)).trans (u9 16 i (fo_nk rfl)))))))))))) (fun i _ => ((u81 17 i (fn_a (by omega) fn_0)).trans ((u78 17 i (fn_i (by omega) fn_0)).trans ((u66 17 i (fo_nk rfl)).trans ((u56 17 i (fo_nk rfl)).trans ((u54 17 i (fn_i (by omega) fn_0)).trans ((u52 17 i (fn_a (by omega) fn_0)).trans ((u42 17 i (fo_nk rfl)).trans ((u28 17 i (fo_nk rfl)).trans ((u26 17 i (fn_a (by omega) fn_0)).trans (u9 17 i (fo_nk rfl)))))))))))) (fun i => ((u81 12 i (fn_a (by omega) fn_0)).trans ((u78 12 i (fn_a (by omega) fn_0)).trans ((u66 12 i (fo_nk rfl)).trans ((u56 12 i (fo_nk rfl)).trans ((u54 12 i (fn_a (by omega) fn_0)).trans ((u52 12 i (fn_a (by omega) fn_0)).trans ((u42 12 i (fo_nk rfl)).trans ((u28 12 i (fo_nk rfl)).trans ((u26 12 i (fn_a (by omega) fn_0)).trans (u9 12 i (fo_nk rfl)))))))))))) (fun i => ((u81 13 i (fn_a (by omega) fn_0)).trans ((u78 13 i (fn_a (by omega) fn_0)).trans ((u66 13 i (fo_nk rfl)).trans ((u56 13 i (fo_nk rfl)).trans ((u54 13 i (fn_a (by omega) fn_0)).trans ((u52 13 i (fn_a (by omega) fn_0)).trans ((u42 13 i (fo_nk rfl)).trans ((u28 13 i (fo_nk rfl)).trans ((u26 13 i (fn_a (by omega) fn_0)).trans (u9 13 i (fo_nk rfl)))))))))))) (fun i => ((u81 14 i (fn_a (by omega) fn_0)).trans ((u78 14 i (fn_a (by omega) fn_0)).trans ((u66 14 i (fo_nk rfl)).trans ((u56 14 i (fo_nk rfl)).trans ((u54 14 i (fn_a (by omega) fn_0)).trans ((u52 14 i (fn_a (by omega) fn_0)).trans ((u42 14 i (fo_nk rfl)).trans ((u28 14 i (fo_nk rfl)).trans ((u26 14 i (fn_a (by omega) fn_0)).trans (u9 14 i (fo_nk rfl)))))))))))) (by omega) (by omega) (by omega)))
              ·
                refine wi_iconst (n := 0) (nx := 156) (r1 := 0) (r2 := 0) (r3 := 0) rfl ?_
                refine wi_zreturn (nx := 157) (r1 := 0) (r2 := 0) (r3 := 0) rfl rfl (by omega) ?_
                have e78 : h66 11 0 = h 11 0 := ((u66 11 0 rfl).trans ((u56 11 0 rfl).trans ((u54 11 0 (fn_a (by omega) fn_0)).trans ((u52 11 0 (fn_a (by omega) fn_0)).trans ((u42 11 0 rfl).trans ((u28 11 0 rfl).trans ((u26 11 0 (fn_a (by omega) fn_0)).trans (u9 11 0 rfl))))))))
                have e79 : h66 11 1 = h 11 1 := ((u66 11 1 rfl).trans ((u56 11 1 rfl).trans ((u54 11 1 (fn_a (by omega) fn_0)).trans ((u52 11 1 (fn_a (by omega) fn_0)).trans ((u42 11 1 rfl).trans ((u28 11 1 rfl).trans ((u26 11 1 (fn_a (by omega) fn_0)).trans (u9 11 1 rfl))))))))
                have e80 : h66 11 2 = h 11 2 := ((u66 11 2 rfl).trans ((u56 11 2 rfl).trans ((u54 11 2 (fn_a (by omega) fn_0)).trans ((u52 11 2 (fn_a (by omega) fn_0)).trans ((u42 11 2 rfl).trans ((u28 11 2 rfl).trans ((u26 11 2 (fn_a (by omega) fn_0)).trans (u9 11 2 rfl))))))))
                have b81 := gi_b (lo := -2147483648) (hi := 2147483647) g 11 3 rfl
                have e82 : h66 11 3 = h 11 3 := ((u66 11 3 rfl).trans ((u56 11 3 rfl).trans ((u54 11 3 (fn_a (by omega) fn_0)).trans ((u52 11 3 (fn_a (by omega) fn_0)).trans ((u42 11 3 rfl).trans ((u28 11 3 rfl).trans ((u26 11 3 (fn_a (by omega) fn_0)).trans (u9 11 3 rfl))))))))
                have b83 := gi_b (lo := -2147483648) (hi := 2147483647) g 11 4 rfl
                have e84 : h66 11 4 = h 11 4 := ((u66 11 4 rfl).trans ((u56 11 4 rfl).trans ((u54 11 4 (fn_a (by omega) fn_0)).trans ((u52 11 4 (fn_a (by omega) fn_0)).trans ((u42 11 4 rfl).trans ((u28 11 4 rfl).trans ((u26 11 4 (fn_a (by omega) fn_0)).trans (u9 11 4 rfl))))))))
                have b85 := gi_b (lo := -2147483648) (hi := 2147483647) g 11 5 rfl
                have e86 : h66 11 5 = h 11 5 := ((u66 11 5 rfl).trans ((u56 11 5 rfl).trans ((u54 11 5 (fn_a (by omega) fn_0)).trans ((u52 11 5 (fn_a (by omega) fn_0)).trans ((u42 11 5 rfl).trans ((u28 11 5 rfl).trans ((u26 11 5 (fn_a (by omega) fn_0)).trans (u9 11 5 rfl))))))))
                have b87 := gi_b (lo := -2147483648) (hi := 2147483647) g 11 6 rfl
                have e88 : h66 11 6 = h 11 6 := ((u66 11 6 rfl).trans ((u56 11 6 rfl).trans ((u54 11 6 (fn_a (by omega) fn_0)).trans ((u52 11 6 (fn_a (by omega) fn_0)).trans ((u42 11 6 rfl).trans ((u28 11 6 rfl).trans ((u26 11 6 (fn_a (by omega) fn_0)).trans (u9 11 6 rfl))))))))
                have b89 := gi_b (lo := -2147483648) (hi := 2147483647) g 11 7 rfl
                have e90 : h66 11 7 = h 11 7 := ((u66 11 7 rfl).trans ((u56 11 7 rfl).trans ((u54 11 7 (fn_a (by omega) fn_0)).trans ((u52 11 7 (fn_a (by omega) fn_0)).trans ((u42 11 7 rfl).trans ((u28 11 7 rfl).trans ((u26 11 7 (fn_a (by omega) fn_0)).trans (u9 11 7 rfl))))))))
                have b91 := gi_b (lo := -2147483648) (hi := 2147483647) g 11 8 rfl
                have e92 : h66 11 8 = h 11 8 := ((u66 11 8 rfl).trans ((u56 11 8 rfl).trans ((u54 11 8 (fn_a (by omega) fn_0)).trans ((u52 11 8 (fn_a (by omega) fn_0)).trans ((u42 11 8 rfl).trans ((u28 11 8 rfl).trans ((u26 11 8 (fn_a (by omega) fn_0)).trans (u9 11 8 rfl))))))))
                have b93 := gi_b (lo := -2147483648) (hi := 2147483647) g 11 9 rfl
                have e94 : h66 11 9 = h 11 9 := ((u66 11 9 rfl).trans ((u56 11 9 rfl).trans ((u54 11 9 (fn_a (by omega) fn_0)).trans ((u52 11 9 (fn_a (by omega) fn_0)).trans ((u42 11 9 rfl).trans ((u28 11 9 rfl).trans ((u26 11 9 (fn_a (by omega) fn_0)).trans (u9 11 9 rfl))))))))
                have b95 := gi_b (lo := 0) (hi := 1) g 10 2 rfl
                have e96 : h66 10 2 = h 10 2 := ((u66 10 2 rfl).trans ((u56 10 2 rfl).trans ((u54 10 2 (fn_a (by omega) fn_0)).trans ((u52 10 2 (fn_a (by omega) fn_0)).trans ((u42 10 2 rfl).trans ((u28 10 2 rfl).trans ((u26 10 2 (fn_a (by omega) fn_0)).trans (u9 10 2 rfl))))))))
                have b97 := gi_b (lo := 0) (hi := 1) g 10 3 rfl
                have e98 : h66 10 3 = h 10 3 := ((u66 10 3 rfl).trans ((u56 10 3 rfl).trans ((u54 10 3 (fn_a (by omega) fn_0)).trans ((u52 10 3 (fn_a (by omega) fn_0)).trans ((u42 10 3 rfl).trans ((u28 10 3 rfl).trans ((u26 10 3 (fn_a (by omega) fn_0)).trans (u9 10 3 rfl))))))))
                have b99 := gi_b (lo := 0) (hi := 1) g 10 4 rfl
                have e100 : h66 10 4 = h 10 4 := ((u66 10 4 rfl).trans ((u56 10 4 rfl).trans ((u54 10 4 (fn_a (by omega) fn_0)).trans ((u52 10 4 (fn_a (by omega) fn_0)).trans ((u42 10 4 rfl).trans ((u28 10 4 rfl).trans ((u26 10 4 (fn_a (by omega) fn_0)).trans (u9 10 4 rfl))))))))
                have b101 := gi_b (lo := 0) (hi := 1) g 10 5 rfl
                have e102 : h66 10 5 = h 10 5 := ((u66 10 5 rfl).trans ((u56 10 5 rfl).trans ((u54 10 5 (fn_a (by omega) fn_0)).trans ((u52 10 5 (fn_a (by omega) fn_0)).trans ((u42 10 5 rfl).trans ((u28 10 5 rfl).trans ((u26 10 5 (fn_a (by omega) fn_0)).trans (u9 10 5 rfl))))))))
                exact k h66 0 g66 F69 (by omega) (by unfold tk_car tk_wrd tk_num tk_bad; (try dsimp only); (repeat (first | rw [if_pos (by omega)] | rw [if_neg (by omega)])); (repeat ((first | unfold tk_wrd | unfold tk_num | unfold tk_bad); (try dsimp only); (repeat (first | rw [if_pos (by omega)] | rw [if_neg (by omega)])))); first | exact tk_Oe (by omega) (by omega) (by omega) | ((repeat' split) <;> (first | exact tk_Oe (by omega) (by omega) (by omega) | (exfalso; omega))))
            ·
              refine wi_if (cd := .eq) (nx := 143) (r1 := 173) (r2 := 0) (r3 := 0) rfl (by omega) (fun (q64 : z58 = 0) => ?_) (fun (q64 : ¬ (z58 = 0)) => by exfalso; omega)
              refine wi_aload_n (i := 0) (x := 10) (nx := 174) (r1 := 0) (r2 := 0) (r3 := 0) rfl rfl ?_
              refine wr_gr (k0 := 10) (x := 11) (nx := 177) (r1 := 3) (r2 := 0) (r3 := 0) rfl rfl (by decide) rfl ⟨rfl, rfl⟩ rfl ?_
              refine wi_iload_n (i := 1) (e := h 11 2) (nx := 178) (r1 := 0) (r2 := 0) (r3 := 0) rfl rfl ?_
              refine wi_iconst (n := 1) (nx := 179) (r1 := 0) (r2 := 0) (r3 := 0) rfl ?_
              refine wr_add (nx := 180) (r1 := 0) (r2 := 0) (r3 := 0) rfl (fun e65 (fe65 : e65 = (h 11 2) + 1) => ?_)
              refine wr_pf0 (k0 := 11) (x := e65) (bl := 0) (bh := 12) (nx := 183) (r1 := 2) (r2 := 2) (r3 := 0) rfl (by decide) rfl ⟨rfl, rfl⟩ rfl rfl g56 rfl (by omega) (fun h66 g66 w66 u66 => ?_)
              have F67 := F62.then rfl u66
              refine wi_iconst (n := 1) (nx := 184) (r1 := 0) (r2 := 0) (r3 := 0) rfl ?_
              refine wi_zreturn (nx := 185) (r1 := 0) (r2 := 0) (r3 := 0) rfl rfl (by omega) ?_
              have e68 : h66 11 0 = h 11 0 := ((u66 11 0 rfl).trans ((u56 11 0 rfl).trans ((u54 11 0 (fn_a (by omega) fn_0)).trans ((u52 11 0 (fn_a (by omega) fn_0)).trans ((u42 11 0 rfl).trans ((u28 11 0 rfl).trans ((u26 11 0 (fn_a (by omega) fn_0)).trans (u9 11 0 rfl))))))))
              have e69 : h66 11 1 = h 11 1 := ((u66 11 1 rfl).trans ((u56 11 1 rfl).trans ((u54 11 1 (fn_a (by omega) fn_0)).trans ((u52 11 1 (fn_a (by omega) fn_0)).trans ((u42 11 1 rfl).trans ((u28 11 1 rfl).trans ((u26 11 1 (fn_a (by omega) fn_0)).trans (u9 11 1 rfl))))))))
              have e70 : h66 11 2 = e65 := w66
              have b71 := gi_b (lo := -2147483648) (hi := 2147483647) g 11 3 rfl
              have e72 : h66 11 3 = h 11 3 := ((u66 11 3 rfl).trans ((u56 11 3 rfl).trans ((u54 11 3 (fn_a (by omega) fn_0)).trans ((u52 11 3 (fn_a (by omega) fn_0)).trans ((u42 11 3 rfl).trans ((u28 11 3 rfl).trans ((u26 11 3 (fn_a (by omega) fn_0)).trans (u9 11 3 rfl))))))))
              have b73 := gi_b (lo := -2147483648) (hi := 2147483647) g 11 4 rfl
              have e74 : h66 11 4 = h 11 4 := ((u66 11 4 rfl).trans ((u56 11 4 rfl).trans ((u54 11 4 (fn_a (by omega) fn_0)).trans ((u52 11 4 (fn_a (by omega) fn_0)).trans ((u42 11 4 rfl).trans ((u28 11 4 rfl).trans ((u26 11 4 (fn_a (by omega) fn_0)).trans (u9 11 4 rfl))))))))
              have b75 := gi_b (lo := -2147483648) (hi := 2147483647) g 11 5 rfl
              have e76 : h66 11 5 = h 11 5 := ((u66 11 5 rfl).trans ((u56 11 5 rfl).trans ((u54 11 5 (fn_a (by omega) fn_0)).trans ((u52 11 5 (fn_a (by omega) fn_0)).trans ((u42 11 5 rfl).trans ((u28 11 5 rfl).trans ((u26 11 5 (fn_a (by omega) fn_0)).trans (u9 11 5 rfl))))))))
              have b77 := gi_b (lo := -2147483648) (hi := 2147483647) g 11 6 rfl
              have e78 : h66 11 6 = h 11 6 := ((u66 11 6 rfl).trans ((u56 11 6 rfl).trans ((u54 11 6 (fn_a (by omega) fn_0)).trans ((u52 11 6 (fn_a (by omega) fn_0)).trans ((u42 11 6 rfl).trans ((u28 11 6 rfl).trans ((u26 11 6 (fn_a (by omega) fn_0)).trans (u9 11 6 rfl))))))))
              have b79 := gi_b (lo := -2147483648) (hi := 2147483647) g 11 7 rfl
              have e80 : h66 11 7 = h 11 7 := ((u66 11 7 rfl).trans ((u56 11 7 rfl).trans ((u54 11 7 (fn_a (by omega) fn_0)).trans ((u52 11 7 (fn_a (by omega) fn_0)).trans ((u42 11 7 rfl).trans ((u28 11 7 rfl).trans ((u26 11 7 (fn_a (by omega) fn_0)).trans (u9 11 7 rfl))))))))
              have b81 := gi_b (lo := -2147483648) (hi := 2147483647) g 11 8 rfl
              have e82 : h66 11 8 = h 11 8 := ((u66 11 8 rfl).trans ((u56 11 8 rfl).trans ((u54 11 8 (fn_a (by omega) fn_0)).trans ((u52 11 8 (fn_a (by omega) fn_0)).trans ((u42 11 8 rfl).trans ((u28 11 8 rfl).trans ((u26 11 8 (fn_a (by omega) fn_0)).trans (u9 11 8 rfl))))))))
              have b83 := gi_b (lo := -2147483648) (hi := 2147483647) g 11 9 rfl
              have e84 : h66 11 9 = h 11 9 := ((u66 11 9 rfl).trans ((u56 11 9 rfl).trans ((u54 11 9 (fn_a (by omega) fn_0)).trans ((u52 11 9 (fn_a (by omega) fn_0)).trans ((u42 11 9 rfl).trans ((u28 11 9 rfl).trans ((u26 11 9 (fn_a (by omega) fn_0)).trans (u9 11 9 rfl))))))))
              have e85 : h66 1 2 = h42 1 2 := ((u66 1 2 rfl).trans ((u56 1 2 rfl).trans ((u54 1 2 (fn_a (by omega) fn_0)).trans (u52 1 2 (fn_a (by omega) fn_0)))))
              have e86 : h66 1 3 = h42 1 3 := ((u66 1 3 rfl).trans ((u56 1 3 rfl).trans ((u54 1 3 (fn_a (by omega) fn_0)).trans (u52 1 3 (fn_a (by omega) fn_0)))))
              have e87 : h66 1 4 = h56 1 4 := (u66 1 4 rfl)
              have b88 := gi_b (lo := 0) (hi := 1) g 10 2 rfl
              have e89 : h66 10 2 = h 10 2 := ((u66 10 2 rfl).trans ((u56 10 2 rfl).trans ((u54 10 2 (fn_a (by omega) fn_0)).trans ((u52 10 2 (fn_a (by omega) fn_0)).trans ((u42 10 2 rfl).trans ((u28 10 2 rfl).trans ((u26 10 2 (fn_a (by omega) fn_0)).trans (u9 10 2 rfl))))))))
              have b90 := gi_b (lo := 0) (hi := 1) g 10 3 rfl
              have e91 : h66 10 3 = h 10 3 := ((u66 10 3 rfl).trans ((u56 10 3 rfl).trans ((u54 10 3 (fn_a (by omega) fn_0)).trans ((u52 10 3 (fn_a (by omega) fn_0)).trans ((u42 10 3 rfl).trans ((u28 10 3 rfl).trans ((u26 10 3 (fn_a (by omega) fn_0)).trans (u9 10 3 rfl))))))))
              have b92 := gi_b (lo := 0) (hi := 1) g 10 4 rfl
              have e93 : h66 10 4 = h 10 4 := ((u66 10 4 rfl).trans ((u56 10 4 rfl).trans ((u54 10 4 (fn_a (by omega) fn_0)).trans ((u52 10 4 (fn_a (by omega) fn_0)).trans ((u42 10 4 rfl).trans ((u28 10 4 rfl).trans ((u26 10 4 (fn_a (by omega) fn_0)).trans (u9 10 4 rfl))))))))
              have b94 := gi_b (lo := 0) (hi := 1) g 10 5 rfl
              have e95 : h66 10 5 = h 10 5 := ((u66 10 5 rfl).trans ((u56 10 5 rfl).trans ((u54 10 5 (fn_a (by omega) fn_0)).trans ((u52 10 5 (fn_a (by omega) fn_0)).trans ((u42 10 5 rfl).trans ((u28 10 5 rfl).trans ((u26 10 5 (fn_a (by omega) fn_0)).trans (u9 10 5 rfl))))))))
              exact k h66 1 g66 F67 (by omega) (by unfold tk_car tk_wrd tk_num tk_bad; (try dsimp only); (repeat (first | rw [if_pos (by omega)] | rw [if_neg (by omega)])); (repeat ((first | unfold tk_wrd | unfold tk_num | unfold tk_bad); (try dsimp only); (repeat (first | rw [if_pos (by omega)] | rw [if_neg (by omega)])))); exact tk_Os (by omega) (by omega) (by omega) (by omega) (CVc.car (c := i25) xq1 (by omega) (by omega) (by omega) (by omega) (fun i _ _ => ((u66 11 i (fn_i (by omega) fn_0)).trans ((u56 11 i (fo_nk rfl)).trans ((u54 11 i (fn_a (by omega) fn_0)).trans ((u52 11 i (fn_a (by omega) fn_0)).trans ((u42 11 i (fo_nk rfl)).trans ((u28 11 i (fo_nk rfl)).trans ((u26 11 i (fn_a (by omega) fn_0)).trans (u9 11 i (fo_nk rfl)))))))))) (fun i _ _ => ((u66 10 i (fn_a (by omega) fn_0)).trans ((u56 10 i (fo_nk rfl)).trans ((u54 10 i (fn_a (by omega) fn_0)).trans ((u52 10 i (fn_a (by omega) fn_0)).trans ((u42 10 i (fo_nk rfl)).trans ((u28 10 i (fo_nk rfl)).trans ((u26 10 i (fn_a (by omega) fn_0)).trans (u9 10 i (fo_nk rfl)))))))))) (((u66 15 i25 (fn_a (by omega) fn_0)).trans ((u56 15 i25 (fo_nk rfl)).trans ((u54 15 i25 (fn_a (by omega) fn_0)).trans ((u52 15 i25 (fn_a (by omega) fn_0)).trans ((u42 15 i25 (fo_nk rfl)).trans ((u28 15 i25 (fo_nk rfl)).trans w26)))))).trans (by omega)) (((u66 16 i25 (fn_a (by omega) fn_0)).trans ((u56 16 i25 (fo_nk rfl)).trans ((u54 16 i25 (fn_a (by omega) fn_0)).trans w52))).trans (by omega)) (((u66 17 i25 (fn_a (by omega) fn_0)).trans ((u56 17 i25 (fo_nk rfl)).trans w54)).trans (by omega)) (fun i _ => ((u66 15 i (fn_a (by omega) fn_0)).trans ((u56 15 i (fo_nk rfl)).trans ((u54 15 i (fn_a (by omega) fn_0)).trans ((u52 15 i (fn_a (by omega) fn_0)).trans ((u42 15 i (fo_nk rfl)).trans ((u28 15 i (fo_nk rfl)).trans ((u26 15 i (fn_i (by omega) fn_0)).trans (u9 15 i (fo_nk rfl)))))))))) (fun i _ => ((u66 16 i (fn_a (by omega) fn_0)).trans ((u56 16 i (fo_nk rfl)).trans ((u54 16 i (fn_a (by omega) fn_0)).trans ((u52 16 i (fn_i (by omega) fn_0)).trans ((u42 16 i (fo_nk rfl)).trans ((u28 16 i (fo_nk rfl)).trans ((u26 16 i (fn_a (by omega) fn_0)).trans (u9 16 i (fo_nk rfl)))))))))) (fun i _ => ((u66 17 i (fn_a (by omega) fn_0)).trans ((u56 17 i (fo_nk rfl)).trans ((u54 17 i (fn_i (by omega) fn_0)).trans ((u52 17 i (fn_a (by omega) fn_0)).trans ((u42 17 i (fo_nk rfl)).trans ((u28 17 i (fo_nk rfl)).trans ((u26 17 i (fn_a (by omega) fn_0)).trans (u9 17 i (fo_nk rfl)))))))))) (fun i => ((u66 12 i (fn_a (by omega) fn_0)).trans ((u56 12 i (fo_nk rfl)).trans ((u54 12 i (fn_a (by omega) fn_0)).trans ((u52 12 i (fn_a (by omega) fn_0)).trans ((u42 12 i (fo_nk rfl)).trans ((u28 12 i (fo_nk rfl)).trans ((u26 12 i (fn_a (by omega) fn_0)).trans (u9 12 i (fo_nk rfl)))))))))) (fun i => ((u66 13 i (fn_a (by omega) fn_0)).trans ((u56 13 i (fo_nk rfl)).trans ((u54 13 i (fn_a (by omega) fn_0)).trans ((u52 13 i (fn_a (by omega) fn_0)).trans ((u42 13 i (fo_nk rfl)).trans ((u28 13 i (fo_nk rfl)).trans ((u26 13 i (fn_a (by omega) fn_0)).trans (u9 13 i (fo_nk rfl)))))))))) (fun i => ((u66 14 i (fn_a (by omega) fn_0)).trans ((u56 14 i (fo_nk rfl)).trans ((u54 14 i (fn_a (by omega) fn_0)).trans ((u52 14 i (fn_a (by omega) fn_0)).trans ((u42 14 i (fo_nk rfl)).trans ((u28 14 i (fo_nk rfl)).trans ((u26 14 i (fn_a (by omega) fn_0)).trans (u9 14 i (fo_nk rfl)))))))))) (by omega) (by omega) (by omega)))
          ·
            refine wi_iconst (n := 0) (nx := 103) (r1 := 0) (r2 := 0) (r3 := 0) rfl ?_
            refine wi_zreturn (nx := 104) (r1 := 0) (r2 := 0) (r3 := 0) rfl rfl (by omega) ?_
            have e52 : h42 11 0 = h 11 0 := ((u42 11 0 rfl).trans ((u28 11 0 rfl).trans ((u26 11 0 (fn_a (by omega) fn_0)).trans (u9 11 0 rfl))))
            have e53 : h42 11 1 = h 11 1 := ((u42 11 1 rfl).trans ((u28 11 1 rfl).trans ((u26 11 1 (fn_a (by omega) fn_0)).trans (u9 11 1 rfl))))
            have e54 : h42 11 2 = h 11 2 := ((u42 11 2 rfl).trans ((u28 11 2 rfl).trans ((u26 11 2 (fn_a (by omega) fn_0)).trans (u9 11 2 rfl))))
            have b55 := gi_b (lo := -2147483648) (hi := 2147483647) g 11 3 rfl
            have e56 : h42 11 3 = h 11 3 := ((u42 11 3 rfl).trans ((u28 11 3 rfl).trans ((u26 11 3 (fn_a (by omega) fn_0)).trans (u9 11 3 rfl))))
            have b57 := gi_b (lo := -2147483648) (hi := 2147483647) g 11 4 rfl
            have e58 : h42 11 4 = h 11 4 := ((u42 11 4 rfl).trans ((u28 11 4 rfl).trans ((u26 11 4 (fn_a (by omega) fn_0)).trans (u9 11 4 rfl))))
            have b59 := gi_b (lo := -2147483648) (hi := 2147483647) g 11 5 rfl
            have e60 : h42 11 5 = h 11 5 := ((u42 11 5 rfl).trans ((u28 11 5 rfl).trans ((u26 11 5 (fn_a (by omega) fn_0)).trans (u9 11 5 rfl))))
            have b61 := gi_b (lo := -2147483648) (hi := 2147483647) g 11 6 rfl
            have e62 : h42 11 6 = h 11 6 := ((u42 11 6 rfl).trans ((u28 11 6 rfl).trans ((u26 11 6 (fn_a (by omega) fn_0)).trans (u9 11 6 rfl))))
            have b63 := gi_b (lo := -2147483648) (hi := 2147483647) g 11 7 rfl
            have e64 : h42 11 7 = h 11 7 := ((u42 11 7 rfl).trans ((u28 11 7 rfl).trans ((u26 11 7 (fn_a (by omega) fn_0)).trans (u9 11 7 rfl))))
            have b65 := gi_b (lo := -2147483648) (hi := 2147483647) g 11 8 rfl
            have e66 : h42 11 8 = h 11 8 := ((u42 11 8 rfl).trans ((u28 11 8 rfl).trans ((u26 11 8 (fn_a (by omega) fn_0)).trans (u9 11 8 rfl))))
            have b67 := gi_b (lo := -2147483648) (hi := 2147483647) g 11 9 rfl
            have e68 : h42 11 9 = h 11 9 := ((u42 11 9 rfl).trans ((u28 11 9 rfl).trans ((u26 11 9 (fn_a (by omega) fn_0)).trans (u9 11 9 rfl))))
            have b69 := gi_b (lo := 0) (hi := 1) g 10 2 rfl
            have e70 : h42 10 2 = h 10 2 := ((u42 10 2 rfl).trans ((u28 10 2 rfl).trans ((u26 10 2 (fn_a (by omega) fn_0)).trans (u9 10 2 rfl))))
            have b71 := gi_b (lo := 0) (hi := 1) g 10 3 rfl
            have e72 : h42 10 3 = h 10 3 := ((u42 10 3 rfl).trans ((u28 10 3 rfl).trans ((u26 10 3 (fn_a (by omega) fn_0)).trans (u9 10 3 rfl))))
            have b73 := gi_b (lo := 0) (hi := 1) g 10 4 rfl
            have e74 : h42 10 4 = h 10 4 := ((u42 10 4 rfl).trans ((u28 10 4 rfl).trans ((u26 10 4 (fn_a (by omega) fn_0)).trans (u9 10 4 rfl))))
            have b75 := gi_b (lo := 0) (hi := 1) g 10 5 rfl
            have e76 : h42 10 5 = h 10 5 := ((u42 10 5 rfl).trans ((u28 10 5 rfl).trans ((u26 10 5 (fn_a (by omega) fn_0)).trans (u9 10 5 rfl))))
            exact k h42 0 g42 F45 (by omega) (by unfold tk_car tk_wrd tk_num tk_bad; (try dsimp only); (repeat (first | rw [if_pos (by omega)] | rw [if_neg (by omega)])); (repeat ((first | unfold tk_wrd | unfold tk_num | unfold tk_bad); (try dsimp only); (repeat (first | rw [if_pos (by omega)] | rw [if_neg (by omega)])))); first | exact tk_Oe (by omega) (by omega) (by omega) | ((repeat' split) <;> (first | exact tk_Oe (by omega) (by omega) (by omega) | (exfalso; omega))))
      ·
        refine wi_aload_n (i := 0) (x := 10) (nx := 59) (r1 := 0) (r2 := 0) (r3 := 0) rfl rfl ?_
        refine wr_gr (k0 := 10) (x := 1) (nx := 62) (r1 := 3) (r2 := 1) (r3 := 0) rfl rfl (by decide) rfl ⟨rfl, rfl⟩ rfl ?_
        refine wi_iconst (n := 4) (nx := 63) (r1 := 0) (r2 := 0) (r3 := 0) rfl ?_
        refine wr_V (k0 := 1) (rest := []) (as := [.ref 1, vi 4]) (nx := 66) (r1 := 101) (r2 := 1) (r3 := 1) rfl rfl rfl (of_decide_eq_true rfl) rfl rfl (by decide) rfl rfl (of_decide_eq_true rfl) (of_decide_eq_true rfl) ?_
        refine ct_101_1 hcr  g9 4 (by omega)  (fun h25 z26 g25 u25 (fz26 : 0 ≤ z26 ∧ z26 ≤ 0) (p25_0 : z26 = 0) (p25_1 : (h25 1 2) = 4) (p25_2 : (h25 1 3) = (h9 1 6)) => ?_)
        have F27 := F11.then (by decide +kernel) u25
        have b28 := gi_b (lo := -2147483648) (hi := 2147483647) g25 1 2 rfl
        have b29 := gi_b (lo := -2147483648) (hi := 2147483647) g25 1 3 rfl
        refine wk_i ?_
        refine wi_zreturn (nx := 67) (r1 := 0) (r2 := 0) (r3 := 0) rfl rfl (by omega) ?_
        have e30 : h25 11 0 = h 11 0 := ((u25 11 0 rfl).trans (u9 11 0 rfl))
        have e31 : h25 11 1 = h 11 1 := ((u25 11 1 rfl).trans (u9 11 1 rfl))
        have e32 : h25 11 2 = h 11 2 := ((u25 11 2 rfl).trans (u9 11 2 rfl))
        have b33 := gi_b (lo := -2147483648) (hi := 2147483647) g 11 3 rfl
        have e34 : h25 11 3 = h 11 3 := ((u25 11 3 rfl).trans (u9 11 3 rfl))
        have b35 := gi_b (lo := -2147483648) (hi := 2147483647) g 11 4 rfl
        have e36 : h25 11 4 = h 11 4 := ((u25 11 4 rfl).trans (u9 11 4 rfl))
        have b37 := gi_b (lo := -2147483648) (hi := 2147483647) g 11 5 rfl
        have e38 : h25 11 5 = h 11 5 := ((u25 11 5 rfl).trans (u9 11 5 rfl))
        have b39 := gi_b (lo := -2147483648) (hi := 2147483647) g 11 6 rfl
        have e40 : h25 11 6 = h 11 6 := ((u25 11 6 rfl).trans (u9 11 6 rfl))
        have b41 := gi_b (lo := -2147483648) (hi := 2147483647) g 11 7 rfl
        have e42 : h25 11 7 = h 11 7 := ((u25 11 7 rfl).trans (u9 11 7 rfl))
        have b43 := gi_b (lo := -2147483648) (hi := 2147483647) g 11 8 rfl
        have e44 : h25 11 8 = h 11 8 := ((u25 11 8 rfl).trans (u9 11 8 rfl))
        have b45 := gi_b (lo := -2147483648) (hi := 2147483647) g 11 9 rfl
        have e46 : h25 11 9 = h 11 9 := ((u25 11 9 rfl).trans (u9 11 9 rfl))
        have e47 : h25 1 4 = h9 1 4 := (u25 1 4 rfl)
        have b48 := gi_b (lo := 0) (hi := 1) g 10 2 rfl
        have e49 : h25 10 2 = h 10 2 := ((u25 10 2 rfl).trans (u9 10 2 rfl))
        have b50 := gi_b (lo := 0) (hi := 1) g 10 3 rfl
        have e51 : h25 10 3 = h 10 3 := ((u25 10 3 rfl).trans (u9 10 3 rfl))
        have b52 := gi_b (lo := 0) (hi := 1) g 10 4 rfl
        have e53 : h25 10 4 = h 10 4 := ((u25 10 4 rfl).trans (u9 10 4 rfl))
        have b54 := gi_b (lo := 0) (hi := 1) g 10 5 rfl
        have e55 : h25 10 5 = h 10 5 := ((u25 10 5 rfl).trans (u9 10 5 rfl))
        exact k h25 z26 g25 F27 (by omega) (by unfold tk_car tk_wrd tk_num tk_bad; (try dsimp only); (repeat (first | rw [if_pos (by omega)] | rw [if_neg (by omega)])); (repeat ((first | unfold tk_wrd | unfold tk_num | unfold tk_bad); (try dsimp only); (repeat (first | rw [if_pos (by omega)] | rw [if_neg (by omega)])))); first | exact tk_Oe (by omega) (by omega) (by omega) | ((repeat' split) <;> (first | exact tk_Oe (by omega) (by omega) (by omega) | (exfalso; omega))))
    ·
      refine wi_iconst (n := 0) (nx := 37) (r1 := 0) (r2 := 0) (r3 := 0) rfl ?_
      refine wi_zreturn (nx := 38) (r1 := 0) (r2 := 0) (r3 := 0) rfl rfl (by omega) ?_
      have e19 : h9 11 0 = h 11 0 := (u9 11 0 rfl)
      have e20 : h9 11 1 = h 11 1 := (u9 11 1 rfl)
      have e21 : h9 11 2 = h 11 2 := (u9 11 2 rfl)
      have b22 := gi_b (lo := -2147483648) (hi := 2147483647) g 11 3 rfl
      have e23 : h9 11 3 = h 11 3 := (u9 11 3 rfl)
      have b24 := gi_b (lo := -2147483648) (hi := 2147483647) g 11 4 rfl
      have e25 : h9 11 4 = h 11 4 := (u9 11 4 rfl)
      have b26 := gi_b (lo := -2147483648) (hi := 2147483647) g 11 5 rfl
      have e27 : h9 11 5 = h 11 5 := (u9 11 5 rfl)
      have b28 := gi_b (lo := -2147483648) (hi := 2147483647) g 11 6 rfl
      have e29 : h9 11 6 = h 11 6 := (u9 11 6 rfl)
      have b30 := gi_b (lo := -2147483648) (hi := 2147483647) g 11 7 rfl
      have e31 : h9 11 7 = h 11 7 := (u9 11 7 rfl)
      have b32 := gi_b (lo := -2147483648) (hi := 2147483647) g 11 8 rfl
      have e33 : h9 11 8 = h 11 8 := (u9 11 8 rfl)
      have b34 := gi_b (lo := -2147483648) (hi := 2147483647) g 11 9 rfl
      have e35 : h9 11 9 = h 11 9 := (u9 11 9 rfl)
      have b36 := gi_b (lo := 0) (hi := 1) g 10 2 rfl
      have e37 : h9 10 2 = h 10 2 := (u9 10 2 rfl)
      have b38 := gi_b (lo := 0) (hi := 1) g 10 3 rfl
      have e39 : h9 10 3 = h 10 3 := (u9 10 3 rfl)
      have b40 := gi_b (lo := 0) (hi := 1) g 10 4 rfl
      have e41 : h9 10 4 = h 10 4 := (u9 10 4 rfl)
      have b42 := gi_b (lo := 0) (hi := 1) g 10 5 rfl
      have e43 : h9 10 5 = h 10 5 := (u9 10 5 rfl)
      exact k h9 0 g9 F11 (by omega) (by unfold tk_car tk_wrd tk_num tk_bad; (try dsimp only); (repeat (first | rw [if_pos (by omega)] | rw [if_neg (by omega)])); (repeat ((first | unfold tk_wrd | unfold tk_num | unfold tk_bad); (try dsimp only); (repeat (first | rw [if_pos (by omega)] | rw [if_neg (by omega)])))); first | exact tk_Oe (by omega) (by omega) (by omega) | ((repeat' split) <;> (first | exact tk_Oe (by omega) (by omega) (by omega) | (exfalso; omega))))
  ·
    refine wi_aload_n (i := 0) (x := 10) (nx := 15) (r1 := 0) (r2 := 0) (r3 := 0) rfl rfl ?_
    refine wr_gr (k0 := 10) (x := 1) (nx := 18) (r1 := 3) (r2 := 1) (r3 := 0) rfl rfl (by decide) rfl ⟨rfl, rfl⟩ rfl ?_
    refine wi_iconst (n := 5) (nx := 19) (r1 := 0) (r2 := 0) (r3 := 0) rfl ?_
    refine wr_V (k0 := 1) (rest := []) (as := [.ref 1, vi 5]) (nx := 22) (r1 := 101) (r2 := 1) (r3 := 1) rfl rfl rfl (of_decide_eq_true rfl) rfl rfl (by decide) rfl rfl (of_decide_eq_true rfl) (of_decide_eq_true rfl) ?_
    refine ct_101_1 hcr  g 5 (by omega)  (fun h9 z10 g9 u9 (fz10 : 0 ≤ z10 ∧ z10 ≤ 0) (p9_0 : z10 = 0) (p9_1 : (h9 1 2) = 5) (p9_2 : (h9 1 3) = (h 1 6)) => ?_)
    have F11 := F0.then (by decide +kernel) u9
    have b12 := gi_b (lo := -2147483648) (hi := 2147483647) g9 1 2 rfl
    have b13 := gi_b (lo := -2147483648) (hi := 2147483647) g9 1 3 rfl
    refine wk_i ?_
    refine wi_zreturn (nx := 23) (r1 := 0) (r2 := 0) (r3 := 0) rfl rfl (by omega) ?_
    have e14 : h9 11 0 = h 11 0 := (u9 11 0 rfl)
    have e15 : h9 11 1 = h 11 1 := (u9 11 1 rfl)
    have e16 : h9 11 2 = h 11 2 := (u9 11 2 rfl)
    have b17 := gi_b (lo := -2147483648) (hi := 2147483647) g 11 3 rfl
    have e18 : h9 11 3 = h 11 3 := (u9 11 3 rfl)
    have b19 := gi_b (lo := -2147483648) (hi := 2147483647) g 11 4 rfl
    have e20 : h9 11 4 = h 11 4 := (u9 11 4 rfl)
    have b21 := gi_b (lo := -2147483648) (hi := 2147483647) g 11 5 rfl
    have e22 : h9 11 5 = h 11 5 := (u9 11 5 rfl)
    have b23 := gi_b (lo := -2147483648) (hi := 2147483647) g 11 6 rfl
    have e24 : h9 11 6 = h 11 6 := (u9 11 6 rfl)
    have b25 := gi_b (lo := -2147483648) (hi := 2147483647) g 11 7 rfl
    have e26 : h9 11 7 = h 11 7 := (u9 11 7 rfl)
    have b27 := gi_b (lo := -2147483648) (hi := 2147483647) g 11 8 rfl
    have e28 : h9 11 8 = h 11 8 := (u9 11 8 rfl)
    have b29 := gi_b (lo := -2147483648) (hi := 2147483647) g 11 9 rfl
    have e30 : h9 11 9 = h 11 9 := (u9 11 9 rfl)
    have e31 : h9 1 4 = h 1 4 := (u9 1 4 rfl)
    have b32 := gi_b (lo := 0) (hi := 1) g 10 2 rfl
    have e33 : h9 10 2 = h 10 2 := (u9 10 2 rfl)
    have b34 := gi_b (lo := 0) (hi := 1) g 10 3 rfl
    have e35 : h9 10 3 = h 10 3 := (u9 10 3 rfl)
    have b36 := gi_b (lo := 0) (hi := 1) g 10 4 rfl
    have e37 : h9 10 4 = h 10 4 := (u9 10 4 rfl)
    have b38 := gi_b (lo := 0) (hi := 1) g 10 5 rfl
    have e39 : h9 10 5 = h 10 5 := (u9 10 5 rfl)
    exact k h9 z10 g9 F11 (by omega) (by unfold tk_car tk_wrd tk_num tk_bad; (try dsimp only); (repeat (first | rw [if_pos (by omega)] | rw [if_neg (by omega)])); (repeat ((first | unfold tk_wrd | unfold tk_num | unfold tk_bad); (try dsimp only); (repeat (first | rw [if_pos (by omega)] | rw [if_neg (by omega)])))); first | exact tk_Oe (by omega) (by omega) (by omega) | ((repeat' split) <;> (first | exact tk_Oe (by omega) (by omega) (by omega) | (exfalso; omega))))
-- method 122: SetupReader.readWindow()Z
set_option maxRecDepth 100000 in
set_option maxHeartbeats 100000000 in
theorem ct_122_10 {L : Nat} {xs : Nat → Int32} {d b c : Nat} {h : hp} {cr : Nat → Nat → Option Nat} {Q : hp_Q} (hcr : CR cr)  {tB : Nat → Int} {tn tp : Int} {tS : tk_S} (g : GI h)   (pp0 : h 1 4 = tk_nx tB tn tp) (pp1 : h 1 6 = tk_st tB tn tp) (pp2 : h 1 2 = 0) (pp3 : h 1 3 = -1) (pp4 : 0 ≤ tp) (pp5 : tp ≤ tn) (pp6 : tp ≤ tk_nx tB tn tp ∧ tk_nx tB tn tp ≤ tn) (pp7 : tS 0 ≤ 5 ∧ tS 1 ≤ 4 ∧ tS 2 ≤ 12) (xq0 : BufC tB tn h) (xq1 : CVc tS h) (k : ∀ (h2 : hp) (z0 : Int) , GI h2 → FR [(1, 1, some (2, 2)), (1, 1, some (3, 3)), (1, 1, some (4, 4)), (1, 1, some (5, 5)), (1, 1, some (6, 6)), (1, 1, some (7, 7)), (1, 1, some (8, 8)), (1, 1, some (9, 9)), (10, 10, some (2, 2)), (11, 11, some (3, 3)), (11, 11, some (4, 4))] h h2 → (0 ≤ z0 ∧ z0 ≤ 1) → (tk_O (tk_window tB tn tp tS) z0 h2) → Q (.inl (some (vi z0))) (hp_w h2 cr) b c) : wp (md_xa (L, xs)) (d + 4) 122 (0, [(0, .ref 10)], [], hp_w h cr, b, c) Q := by
  have F0 : FR [(1, 1, some (2, 2)), (1, 1, some (3, 3)), (1, 1, some (4, 4)), (1, 1, some (5, 5)), (1, 1, some (6, 6)), (1, 1, some (7, 7)), (1, 1, some (8, 8)), (1, 1, some (9, 9)), (10, 10, some (2, 2)), (11, 11, some (3, 3)), (11, 11, some (4, 4))] h h := FR.refl
  have tb_1 : h 1 1 = tn := xq0.2.1
  have tb_2 : 0 ≤ tn ∧ tn ≤ 800 := xq0.2.2
  obtain ⟨⟨cv_0, cv_1, cv_2, cv_3, cv_4, cv_5, cv_6, cv_7, cv_8, cv_9⟩, ⟨cf_2, cf_3, cf_4, cf_5⟩, -⟩ := id xq1
  have b1 := gi_b (lo := 0) (hi := 5) g 11 0 rfl
  have b2 := gi_b (lo := 0) (hi := 4) g 11 1 rfl
  have b3 := gi_b (lo := 0) (hi := 12) g 11 2 rfl
  have b4 := gi_b (lo := 0) (hi := 800) g 1 4 rfl
  have b5 := gi_b (lo := 0) (hi := 800) g 1 6 rfl
  have b6 := gi_b (lo := -2147483648) (hi := 2147483647) g 1 2 rfl
  have b7 := gi_b (lo := -2147483648) (hi := 2147483647) g 1 3 rfl
  refine wi_aload_n (i := 0) (x := 10) (nx := 1) (r1 := 0) (r2 := 0) (r3 := 0) rfl rfl ?_
  have b8 := gi_b (lo := 0) (hi := 1) g 10 2 rfl
  refine wr_gi2 (k0 := 10) (x := h 10 2) (nx := 4) (r1 := 3) (r2 := 2) (r3 := 0) rfl rfl (by decide) rfl ⟨rfl, rfl⟩ rfl rfl ?_
  refine wi_if (cd := .eq) (nx := 7) (r1 := 16) (r2 := 0) (r3 := 0) rfl (by omega) (fun (q9 : (h 10 2) = 0) => ?_) (fun (q9 : ¬ ((h 10 2) = 0)) => ?_)
  ·
    refine wi_aload_n (i := 0) (x := 10) (nx := 17) (r1 := 0) (r2 := 0) (r3 := 0) rfl rfl ?_
    refine wi_iconst (n := 1) (nx := 18) (r1 := 0) (r2 := 0) (r3 := 0) rfl ?_
    refine wr_pf2 (k0 := 10) (x := 1) (bl := 0) (bh := 1) (nx := 21) (r1 := 3) (r2 := 2) (r3 := 2) rfl (by decide) rfl ⟨rfl, rfl⟩ rfl (by omega) rfl g rfl (by omega) (fun h10 g10 w10 u10 => ?_)
    have F11 := F0.then rfl u10
    refine wi_aload_n (i := 0) (x := 10) (nx := 22) (r1 := 0) (r2 := 0) (r3 := 0) rfl rfl ?_
    refine wr_gr (k0 := 10) (x := 1) (nx := 25) (r1 := 3) (r2 := 1) (r3 := 0) rfl rfl (by decide) rfl ⟨rfl, rfl⟩ rfl ?_
    refine wi_iconst (n := 0) (nx := 26) (r1 := 0) (r2 := 0) (r3 := 0) rfl ?_
    refine wi_bipush (n := 11) (nx := 28) (r1 := 0) (r2 := 0) (r3 := 0) rfl (by decide) ?_
    refine wr_V (k0 := 1) (rest := []) (as := [.ref 1, vi 0, vi 11]) (nx := 31) (r1 := 103) (r2 := 2) (r3 := 1) rfl rfl rfl (of_decide_eq_true rfl) rfl rfl (by decide) rfl rfl (of_decide_eq_true rfl) (of_decide_eq_true rfl) ?_
    have e13 : h10 1 4 = h 1 4 := (u10 1 4 rfl)
    have tb15 := BufC.fr u10 rfl xq0
    refine ct_103_1 hcr  g10 0 11 (by omega) (by omega) (show (h10 1 4) = (tk_nx tB tn tp) by omega) (show 0 ≤ (tk_nx tB tn tp) by omega) (show (tk_nx tB tn tp) ≤ tn by omega) tb15 (fun h12 z14 g12 u12 (fz14 : 0 ≤ z14 ∧ z14 ≤ 1) (p12_0 : (z14 = 1 ∧ tk_kd tB tn (tk_nx tB tn tp) = 2 ∧ 0 ≤ tk_nb tB tn (tk_nx tB tn tp) ∧ tk_nb tB tn (tk_nx tB tn tp) ≤ 11 ∧ (h12 1 4) = tk_nx tB tn (tk_nx tB tn tp) ∧ (h12 1 7) = tk_nb tB tn (tk_nx tB tn tp) ∧ (h12 1 2) = (h10 1 2) ∧ (h12 1 3) = (h10 1 3)) ∨ (z14 = 0 ∧ (h12 1 3) = tk_st tB tn (tk_nx tB tn tp) ∧ ((tk_kd tB tn (tk_nx tB tn tp) ≠ 2 ∧ (h12 1 2) = 1) ∨ (tk_kd tB tn (tk_nx tB tn tp) = 2 ∧ (tk_nb tB tn (tk_nx tB tn tp) < 0 ∨ 11 < tk_nb tB tn (tk_nx tB tn tp)) ∧ (h12 1 2) = 2)))) => ?_)
    have F16 := F11.then (by decide +kernel) u12
    have e17 : h10 1 2 = h 1 2 := (u10 1 2 rfl)
    have e18 : h10 1 3 = h 1 3 := (u10 1 3 rfl)
    have b19 := gi_b (lo := 0) (hi := 800) g12 1 4 rfl
    have b20 := gi_b (lo := -2147483648) (hi := 2147483647) g12 1 7 rfl
    have b21 := gi_b (lo := -2147483648) (hi := 2147483647) g12 1 2 rfl
    have b22 := gi_b (lo := -2147483648) (hi := 2147483647) g12 1 3 rfl
    have tN23 := @tk_nx_b tB tn (tk_nx tB tn tp) (by omega) (by omega)
    refine wk_i ?_
    refine wi_if (cd := .ne) (nx := 34) (r1 := 36) (r2 := 0) (r3 := 0) rfl (by omega) (fun (q24 : z14 ≠ 0) => ?_) (fun (q24 : ¬ (z14 ≠ 0)) => ?_)
    ·
      refine wi_aload_n (i := 0) (x := 10) (nx := 37) (r1 := 0) (r2 := 0) (r3 := 0) rfl rfl ?_
      refine wr_gr (k0 := 10) (x := 11) (nx := 40) (r1 := 3) (r2 := 0) (r3 := 0) rfl rfl (by decide) rfl ⟨rfl, rfl⟩ rfl ?_
      refine wi_aload_n (i := 0) (x := 10) (nx := 41) (r1 := 0) (r2 := 0) (r3 := 0) rfl rfl ?_
      refine wr_gr (k0 := 10) (x := 1) (nx := 44) (r1 := 3) (r2 := 1) (r3 := 0) rfl rfl (by decide) rfl ⟨rfl, rfl⟩ rfl ?_
      refine wr_gi0 (k0 := 1) (x := h12 1 7) (nx := 47) (r1 := 1) (r2 := 7) (r3 := 0) rfl rfl (by decide) rfl ⟨rfl, rfl⟩ rfl rfl ?_
      refine wr_pf0 (k0 := 11) (x := h12 1 7) (bl := -2147483648) (bh := 2147483647) (nx := 50) (r1 := 2) (r2 := 3) (r3 := 0) rfl (by decide) rfl ⟨rfl, rfl⟩ rfl rfl g12 rfl (by omega) (fun h25 g25 w25 u25 => ?_)
      have F26 := F16.then rfl u25
      refine wi_aload_n (i := 0) (x := 10) (nx := 51) (r1 := 0) (r2 := 0) (r3 := 0) rfl rfl ?_
      refine wr_gr (k0 := 10) (x := 1) (nx := 54) (r1 := 3) (r2 := 1) (r3 := 0) rfl rfl (by decide) rfl ⟨rfl, rfl⟩ rfl ?_
      refine wi_iconst (n := 0) (nx := 55) (r1 := 0) (r2 := 0) (r3 := 0) rfl ?_
      refine wi_bipush (n := 11) (nx := 57) (r1 := 0) (r2 := 0) (r3 := 0) rfl (by decide) ?_
      refine wr_V (k0 := 1) (rest := []) (as := [.ref 1, vi 0, vi 11]) (nx := 60) (r1 := 103) (r2 := 2) (r3 := 1) rfl rfl rfl (of_decide_eq_true rfl) rfl rfl (by decide) rfl rfl (of_decide_eq_true rfl) (of_decide_eq_true rfl) ?_
      have e28 : h25 1 4 = h12 1 4 := (u25 1 4 rfl)
      have tb30 := BufC.fr u12 rfl tb15
      have tb31 := BufC.fr u25 rfl tb30
      refine ct_103_1 hcr  g25 0 11 (by omega) (by omega) (show (h25 1 4) = (tk_nx tB tn (tk_nx tB tn tp)) by omega) (show 0 ≤ (tk_nx tB tn (tk_nx tB tn tp)) by omega) (show (tk_nx tB tn (tk_nx tB tn tp)) ≤ tn by omega) tb31 (fun h27 z29 g27 u27 (fz29 : 0 ≤ z29 ∧ z29 ≤ 1) (p27_0 : (z29 = 1 ∧ tk_kd tB tn (tk_nx tB tn (tk_nx tB tn tp)) = 2 ∧ 0 ≤ tk_nb tB tn (tk_nx tB tn (tk_nx tB tn tp)) ∧ tk_nb tB tn (tk_nx tB tn (tk_nx tB tn tp)) ≤ 11 ∧ (h27 1 4) = tk_nx tB tn (tk_nx tB tn (tk_nx tB tn tp)) ∧ (h27 1 7) = tk_nb tB tn (tk_nx tB tn (tk_nx tB tn tp)) ∧ (h27 1 2) = (h25 1 2) ∧ (h27 1 3) = (h25 1 3)) ∨ (z29 = 0 ∧ (h27 1 3) = tk_st tB tn (tk_nx tB tn (tk_nx tB tn tp)) ∧ ((tk_kd tB tn (tk_nx tB tn (tk_nx tB tn tp)) ≠ 2 ∧ (h27 1 2) = 1) ∨ (tk_kd tB tn (tk_nx tB tn (tk_nx tB tn tp)) = 2 ∧ (tk_nb tB tn (tk_nx tB tn (tk_nx tB tn tp)) < 0 ∨ 11 < tk_nb tB tn (tk_nx tB tn (tk_nx tB tn tp))) ∧ (h27 1 2) = 2)))) => ?_)
      have F32 := F26.then (by decide +kernel) u27
      have e33 : h25 1 2 = h12 1 2 := (u25 1 2 rfl)
      have e34 : h25 1 3 = h12 1 3 := (u25 1 3 rfl)
      have b35 := gi_b (lo := 0) (hi := 800) g27 1 4 rfl
      have b36 := gi_b (lo := -2147483648) (hi := 2147483647) g27 1 7 rfl
      have b37 := gi_b (lo := -2147483648) (hi := 2147483647) g27 1 2 rfl
      have b38 := gi_b (lo := -2147483648) (hi := 2147483647) g27 1 3 rfl
      have tN39 := @tk_nx_b tB tn (tk_nx tB tn (tk_nx tB tn tp)) (by omega) (by omega)
      refine wk_i ?_
      refine wi_if (cd := .ne) (nx := 63) (r1 := 65) (r2 := 0) (r3 := 0) rfl (by omega) (fun (q40 : z29 ≠ 0) => ?_) (fun (q40 : ¬ (z29 ≠ 0)) => ?_)
      ·
        refine wi_aload_n (i := 0) (x := 10) (nx := 66) (r1 := 0) (r2 := 0) (r3 := 0) rfl rfl ?_
        refine wr_gr (k0 := 10) (x := 11) (nx := 69) (r1 := 3) (r2 := 0) (r3 := 0) rfl rfl (by decide) rfl ⟨rfl, rfl⟩ rfl ?_
        refine wi_aload_n (i := 0) (x := 10) (nx := 70) (r1 := 0) (r2 := 0) (r3 := 0) rfl rfl ?_
        refine wr_gr (k0 := 10) (x := 1) (nx := 73) (r1 := 3) (r2 := 1) (r3 := 0) rfl rfl (by decide) rfl ⟨rfl, rfl⟩ rfl ?_
        refine wr_gi0 (k0 := 1) (x := h27 1 7) (nx := 76) (r1 := 1) (r2 := 7) (r3 := 0) rfl rfl (by decide) rfl ⟨rfl, rfl⟩ rfl rfl ?_
        refine wr_pf0 (k0 := 11) (x := h27 1 7) (bl := -2147483648) (bh := 2147483647) (nx := 79) (r1 := 2) (r2 := 4) (r3 := 0) rfl (by decide) rfl ⟨rfl, rfl⟩ rfl rfl g27 rfl (by omega) (fun h41 g41 w41 u41 => ?_)
        have F42 := F32.then rfl u41
        refine wi_iconst (n := 1) (nx := 80) (r1 := 0) (r2 := 0) (r3 := 0) rfl ?_
        refine wi_zreturn (nx := 81) (r1 := 0) (r2 := 0) (r3 := 0) rfl rfl (by omega) ?_
        have e43 : h41 11 0 = h 11 0 := ((u41 11 0 rfl).trans ((u27 11 0 rfl).trans ((u25 11 0 rfl).trans ((u12 11 0 rfl).trans (u10 11 0 rfl)))))
        have e44 : h41 11 1 = h 11 1 := ((u41 11 1 rfl).trans ((u27 11 1 rfl).trans ((u25 11 1 rfl).trans ((u12 11 1 rfl).trans (u10 11 1 rfl)))))
        have e45 : h41 11 2 = h 11 2 := ((u41 11 2 rfl).trans ((u27 11 2 rfl).trans ((u25 11 2 rfl).trans ((u12 11 2 rfl).trans (u10 11 2 rfl)))))
        have e46 : h41 11 3 = h12 1 7 := ((u41 11 3 rfl).trans ((u27 11 3 rfl).trans w25))
        have e47 : h41 11 4 = h27 1 7 := w41
        have b48 := gi_b (lo := -2147483648) (hi := 2147483647) g 11 5 rfl
        have e49 : h41 11 5 = h 11 5 := ((u41 11 5 rfl).trans ((u27 11 5 rfl).trans ((u25 11 5 rfl).trans ((u12 11 5 rfl).trans (u10 11 5 rfl)))))
        have b50 := gi_b (lo := -2147483648) (hi := 2147483647) g 11 6 rfl
        have e51 : h41 11 6 = h 11 6 := ((u41 11 6 rfl).trans ((u27 11 6 rfl).trans ((u25 11 6 rfl).trans ((u12 11 6 rfl).trans (u10 11 6 rfl)))))
        have b52 := gi_b (lo := -2147483648) (hi := 2147483647) g 11 7 rfl
        have e53 : h41 11 7 = h 11 7 := ((u41 11 7 rfl).trans ((u27 11 7 rfl).trans ((u25 11 7 rfl).trans ((u12 11 7 rfl).trans (u10 11 7 rfl)))))
        have b54 := gi_b (lo := -2147483648) (hi := 2147483647) g 11 8 rfl
        have e55 : h41 11 8 = h 11 8 := ((u41 11 8 rfl).trans ((u27 11 8 rfl).trans ((u25 11 8 rfl).trans ((u12 11 8 rfl).trans (u10 11 8 rfl)))))
        have b56 := gi_b (lo := -2147483648) (hi := 2147483647) g 11 9 rfl
        have e57 : h41 11 9 = h 11 9 := ((u41 11 9 rfl).trans ((u27 11 9 rfl).trans ((u25 11 9 rfl).trans ((u12 11 9 rfl).trans (u10 11 9 rfl)))))
        have e58 : h41 1 2 = h27 1 2 := (u41 1 2 rfl)
        have e59 : h41 1 3 = h27 1 3 := (u41 1 3 rfl)
        have e60 : h41 1 4 = h27 1 4 := (u41 1 4 rfl)
        have e61 : h41 10 2 = 1 := ((u41 10 2 rfl).trans ((u27 10 2 rfl).trans ((u25 10 2 rfl).trans ((u12 10 2 rfl).trans w10))))
        have b62 := gi_b (lo := 0) (hi := 1) g 10 3 rfl
        have e63 : h41 10 3 = h 10 3 := ((u41 10 3 rfl).trans ((u27 10 3 rfl).trans ((u25 10 3 rfl).trans ((u12 10 3 rfl).trans (u10 10 3 rfl)))))
        have b64 := gi_b (lo := 0) (hi := 1) g 10 4 rfl
        have e65 : h41 10 4 = h 10 4 := ((u41 10 4 rfl).trans ((u27 10 4 rfl).trans ((u25 10 4 rfl).trans ((u12 10 4 rfl).trans (u10 10 4 rfl)))))
        have b66 := gi_b (lo := 0) (hi := 1) g 10 5 rfl
        have e67 : h41 10 5 = h 10 5 := ((u41 10 5 rfl).trans ((u27 10 5 rfl).trans ((u25 10 5 rfl).trans ((u12 10 5 rfl).trans (u10 10 5 rfl)))))
        exact k h41 1 g41 F42 (by omega) (by unfold tk_window tk_once tk_num; (try dsimp only); (repeat (first | rw [if_pos (by omega)] | rw [if_neg (by omega)])); (repeat ((first | unfold tk_once | unfold tk_num); (try dsimp only); (repeat (first | rw [if_pos (by omega)] | rw [if_neg (by omega)])))); exact tk_Os (by omega) (by omega) (by omega) (by omega) (CVc.flag xq1 (fun j _ _ _ _ _ _ _ _ _ _ _ => (by (repeat unfold tk_u); (repeat (first | rw [if_pos (by omega)] | rw [if_neg (by omega)])))) (by omega) (by omega) (by omega) ⟨(by (repeat unfold tk_u); (repeat (first | rw [if_pos (by omega)] | rw [if_neg (by omega)])); all_goals omega), (by (repeat unfold tk_u); (repeat (first | rw [if_pos (by omega)] | rw [if_neg (by omega)])); all_goals omega), (by (repeat unfold tk_u); (repeat (first | rw [if_pos (by omega)] | rw [if_neg (by omega)])); all_goals omega), (by (repeat unfold tk_u); (repeat (first | rw [if_pos (by omega)] | rw [if_neg (by omega)])); all_goals omega), (by (repeat unfold tk_u); (repeat (first | rw [if_pos (by omega)] | rw [if_neg (by omega)])); all_goals omega), (by (repeat unfold tk_u); (repeat (first | rw [if_pos (by omega)] | rw [if_neg (by omega)])); all_goals omega), (by (repeat unfold tk_u); (repeat (first | rw [if_pos (by omega)] | rw [if_neg (by omega)])); all_goals omega)⟩ ⟨(by (repeat unfold tk_u); (repeat (first | rw [if_pos (by omega)] | rw [if_neg (by omega)])); all_goals omega), (by (repeat unfold tk_u); (repeat (first | rw [if_pos (by omega)] | rw [if_neg (by omega)])); all_goals omega), (by (repeat unfold tk_u); (repeat (first | rw [if_pos (by omega)] | rw [if_neg (by omega)])); all_goals omega), (by (repeat unfold tk_u); (repeat (first | rw [if_pos (by omega)] | rw [if_neg (by omega)])); all_goals omega)⟩ (fun i => ((u41 12 i (fn_a (by omega) fn_0)).trans ((u27 12 i (fo_nk rfl)).trans ((u25 12 i (fn_a (by omega) fn_0)).trans ((u12 12 i (fo_nk rfl)).trans (u10 12 i (fn_a (by omega) fn_0))))))) (fun i => ((u41 13 i (fn_a (by omega) fn_0)).trans ((u27 13 i (fo_nk rfl)).trans ((u25 13 i (fn_a (by omega) fn_0)).trans ((u12 13 i (fo_nk rfl)).trans (u10 13 i (fn_a (by omega) fn_0))))))) (fun i => ((u41 14 i (fn_a (by omega) fn_0)).trans ((u27 14 i (fo_nk rfl)).trans ((u25 14 i (fn_a (by omega) fn_0)).trans ((u12 14 i (fo_nk rfl)).trans (u10 14 i (fn_a (by omega) fn_0))))))) (fun i => ((u41 15 i (fn_a (by omega) fn_0)).trans ((u27 15 i (fo_nk rfl)).trans ((u25 15 i (fn_a (by omega) fn_0)).trans ((u12 15 i (fo_nk rfl)).trans (u10 15 i (fn_a (by omega) fn_0))))))) (fun i => ((u41 16 i (fn_a (by omega) fn_0)).trans ((u27 16 i (fo_nk rfl)).trans ((u25 16 i (fn_a (by omega) fn_0)).trans ((u12 16 i (fo_nk rfl)).trans (u10 16 i (fn_a (by omega) fn_0))))))) (fun i => ((u41 17 i (fn_a (by omega) fn_0)).trans ((u27 17 i (fo_nk rfl)).trans ((u25 17 i (fn_a (by omega) fn_0)).trans ((u12 17 i (fo_nk rfl)).trans (u10 17 i (fn_a (by omega) fn_0))))))) (by omega) (by omega) (by omega)))
      ·
        refine wi_iconst (n := 0) (nx := 64) (r1 := 0) (r2 := 0) (r3 := 0) rfl ?_
        refine wi_zreturn (nx := 65) (r1 := 0) (r2 := 0) (r3 := 0) rfl rfl (by omega) ?_
        have e41 : h27 11 0 = h 11 0 := ((u27 11 0 rfl).trans ((u25 11 0 rfl).trans ((u12 11 0 rfl).trans (u10 11 0 rfl))))
        have e42 : h27 11 1 = h 11 1 := ((u27 11 1 rfl).trans ((u25 11 1 rfl).trans ((u12 11 1 rfl).trans (u10 11 1 rfl))))
        have e43 : h27 11 2 = h 11 2 := ((u27 11 2 rfl).trans ((u25 11 2 rfl).trans ((u12 11 2 rfl).trans (u10 11 2 rfl))))
        have e44 : h27 11 3 = h12 1 7 := ((u27 11 3 rfl).trans w25)
        have b45 := gi_b (lo := -2147483648) (hi := 2147483647) g 11 4 rfl
        have e46 : h27 11 4 = h 11 4 := ((u27 11 4 rfl).trans ((u25 11 4 rfl).trans ((u12 11 4 rfl).trans (u10 11 4 rfl))))
        have b47 := gi_b (lo := -2147483648) (hi := 2147483647) g 11 5 rfl
        have e48 : h27 11 5 = h 11 5 := ((u27 11 5 rfl).trans ((u25 11 5 rfl).trans ((u12 11 5 rfl).trans (u10 11 5 rfl))))
        have b49 := gi_b (lo := -2147483648) (hi := 2147483647) g 11 6 rfl
        have e50 : h27 11 6 = h 11 6 := ((u27 11 6 rfl).trans ((u25 11 6 rfl).trans ((u12 11 6 rfl).trans (u10 11 6 rfl))))
        have b51 := gi_b (lo := -2147483648) (hi := 2147483647) g 11 7 rfl
        have e52 : h27 11 7 = h 11 7 := ((u27 11 7 rfl).trans ((u25 11 7 rfl).trans ((u12 11 7 rfl).trans (u10 11 7 rfl))))
        have b53 := gi_b (lo := -2147483648) (hi := 2147483647) g 11 8 rfl
        have e54 : h27 11 8 = h 11 8 := ((u27 11 8 rfl).trans ((u25 11 8 rfl).trans ((u12 11 8 rfl).trans (u10 11 8 rfl))))
        have b55 := gi_b (lo := -2147483648) (hi := 2147483647) g 11 9 rfl
        have e56 : h27 11 9 = h 11 9 := ((u27 11 9 rfl).trans ((u25 11 9 rfl).trans ((u12 11 9 rfl).trans (u10 11 9 rfl))))
        have e57 : h27 10 2 = 1 := ((u27 10 2 rfl).trans ((u25 10 2 rfl).trans ((u12 10 2 rfl).trans w10)))
        have b58 := gi_b (lo := 0) (hi := 1) g 10 3 rfl
        have e59 : h27 10 3 = h 10 3 := ((u27 10 3 rfl).trans ((u25 10 3 rfl).trans ((u12 10 3 rfl).trans (u10 10 3 rfl))))
        have b60 := gi_b (lo := 0) (hi := 1) g 10 4 rfl
        have e61 : h27 10 4 = h 10 4 := ((u27 10 4 rfl).trans ((u25 10 4 rfl).trans ((u12 10 4 rfl).trans (u10 10 4 rfl))))
        have b62 := gi_b (lo := 0) (hi := 1) g 10 5 rfl
        have e63 : h27 10 5 = h 10 5 := ((u27 10 5 rfl).trans ((u25 10 5 rfl).trans ((u12 10 5 rfl).trans (u10 10 5 rfl))))
        exact k h27 0 g27 F32 (by omega) (by unfold tk_window tk_once tk_num; (try dsimp only); (repeat (first | rw [if_pos (by omega)] | rw [if_neg (by omega)])); (repeat ((first | unfold tk_once | unfold tk_num); (try dsimp only); (repeat (first | rw [if_pos (by omega)] | rw [if_neg (by omega)])))); first | exact tk_Oe (by omega) (by omega) (by omega) | ((repeat' split) <;> (first | exact tk_Oe (by omega) (by omega) (by omega) | (exfalso; omega))))
    ·
      refine wi_iconst (n := 0) (nx := 35) (r1 := 0) (r2 := 0) (r3 := 0) rfl ?_
      refine wi_zreturn (nx := 36) (r1 := 0) (r2 := 0) (r3 := 0) rfl rfl (by omega) ?_
      have e25 : h12 11 0 = h 11 0 := ((u12 11 0 rfl).trans (u10 11 0 rfl))
      have e26 : h12 11 1 = h 11 1 := ((u12 11 1 rfl).trans (u10 11 1 rfl))
      have e27 : h12 11 2 = h 11 2 := ((u12 11 2 rfl).trans (u10 11 2 rfl))
      have b28 := gi_b (lo := -2147483648) (hi := 2147483647) g 11 3 rfl
      have e29 : h12 11 3 = h 11 3 := ((u12 11 3 rfl).trans (u10 11 3 rfl))
      have b30 := gi_b (lo := -2147483648) (hi := 2147483647) g 11 4 rfl
      have e31 : h12 11 4 = h 11 4 := ((u12 11 4 rfl).trans (u10 11 4 rfl))
      have b32 := gi_b (lo := -2147483648) (hi := 2147483647) g 11 5 rfl
      have e33 : h12 11 5 = h 11 5 := ((u12 11 5 rfl).trans (u10 11 5 rfl))
      have b34 := gi_b (lo := -2147483648) (hi := 2147483647) g 11 6 rfl
      have e35 : h12 11 6 = h 11 6 := ((u12 11 6 rfl).trans (u10 11 6 rfl))
      have b36 := gi_b (lo := -2147483648) (hi := 2147483647) g 11 7 rfl
      have e37 : h12 11 7 = h 11 7 := ((u12 11 7 rfl).trans (u10 11 7 rfl))
      have b38 := gi_b (lo := -2147483648) (hi := 2147483647) g 11 8 rfl
      have e39 : h12 11 8 = h 11 8 := ((u12 11 8 rfl).trans (u10 11 8 rfl))
      have b40 := gi_b (lo := -2147483648) (hi := 2147483647) g 11 9 rfl
      have e41 : h12 11 9 = h 11 9 := ((u12 11 9 rfl).trans (u10 11 9 rfl))
      have e42 : h12 10 2 = 1 := ((u12 10 2 rfl).trans w10)
      have b43 := gi_b (lo := 0) (hi := 1) g 10 3 rfl
      have e44 : h12 10 3 = h 10 3 := ((u12 10 3 rfl).trans (u10 10 3 rfl))
      have b45 := gi_b (lo := 0) (hi := 1) g 10 4 rfl
      have e46 : h12 10 4 = h 10 4 := ((u12 10 4 rfl).trans (u10 10 4 rfl))
      have b47 := gi_b (lo := 0) (hi := 1) g 10 5 rfl
      have e48 : h12 10 5 = h 10 5 := ((u12 10 5 rfl).trans (u10 10 5 rfl))
      exact k h12 0 g12 F16 (by omega) (by unfold tk_window tk_once tk_num; (try dsimp only); (repeat (first | rw [if_pos (by omega)] | rw [if_neg (by omega)])); (repeat ((first | unfold tk_once | unfold tk_num); (try dsimp only); (repeat (first | rw [if_pos (by omega)] | rw [if_neg (by omega)])))); first | exact tk_Oe (by omega) (by omega) (by omega) | ((repeat' split) <;> (first | exact tk_Oe (by omega) (by omega) (by omega) | (exfalso; omega))))
  ·
    refine wi_aload_n (i := 0) (x := 10) (nx := 8) (r1 := 0) (r2 := 0) (r3 := 0) rfl rfl ?_
    refine wr_gr (k0 := 10) (x := 1) (nx := 11) (r1 := 3) (r2 := 1) (r3 := 0) rfl rfl (by decide) rfl ⟨rfl, rfl⟩ rfl ?_
    refine wi_iconst (n := 3) (nx := 12) (r1 := 0) (r2 := 0) (r3 := 0) rfl ?_
    refine wr_V (k0 := 1) (rest := []) (as := [.ref 1, vi 3]) (nx := 15) (r1 := 101) (r2 := 1) (r3 := 1) rfl rfl rfl (of_decide_eq_true rfl) rfl rfl (by decide) rfl rfl (of_decide_eq_true rfl) (of_decide_eq_true rfl) ?_
    refine ct_101_1 hcr  g 3 (by omega)  (fun h10 z11 g10 u10 (fz11 : 0 ≤ z11 ∧ z11 ≤ 0) (p10_0 : z11 = 0) (p10_1 : (h10 1 2) = 3) (p10_2 : (h10 1 3) = (h 1 6)) => ?_)
    have F12 := F0.then (by decide +kernel) u10
    have b13 := gi_b (lo := -2147483648) (hi := 2147483647) g10 1 2 rfl
    have b14 := gi_b (lo := -2147483648) (hi := 2147483647) g10 1 3 rfl
    refine wk_i ?_
    refine wi_zreturn (nx := 16) (r1 := 0) (r2 := 0) (r3 := 0) rfl rfl (by omega) ?_
    have e15 : h10 11 0 = h 11 0 := (u10 11 0 rfl)
    have e16 : h10 11 1 = h 11 1 := (u10 11 1 rfl)
    have e17 : h10 11 2 = h 11 2 := (u10 11 2 rfl)
    have b18 := gi_b (lo := -2147483648) (hi := 2147483647) g 11 3 rfl
    have e19 : h10 11 3 = h 11 3 := (u10 11 3 rfl)
    have b20 := gi_b (lo := -2147483648) (hi := 2147483647) g 11 4 rfl
    have e21 : h10 11 4 = h 11 4 := (u10 11 4 rfl)
    have b22 := gi_b (lo := -2147483648) (hi := 2147483647) g 11 5 rfl
    have e23 : h10 11 5 = h 11 5 := (u10 11 5 rfl)
    have b24 := gi_b (lo := -2147483648) (hi := 2147483647) g 11 6 rfl
    have e25 : h10 11 6 = h 11 6 := (u10 11 6 rfl)
    have b26 := gi_b (lo := -2147483648) (hi := 2147483647) g 11 7 rfl
    have e27 : h10 11 7 = h 11 7 := (u10 11 7 rfl)
    have b28 := gi_b (lo := -2147483648) (hi := 2147483647) g 11 8 rfl
    have e29 : h10 11 8 = h 11 8 := (u10 11 8 rfl)
    have b30 := gi_b (lo := -2147483648) (hi := 2147483647) g 11 9 rfl
    have e31 : h10 11 9 = h 11 9 := (u10 11 9 rfl)
    have e32 : h10 1 4 = h 1 4 := (u10 1 4 rfl)
    have e33 : h10 10 2 = h 10 2 := (u10 10 2 rfl)
    have b34 := gi_b (lo := 0) (hi := 1) g 10 3 rfl
    have e35 : h10 10 3 = h 10 3 := (u10 10 3 rfl)
    have b36 := gi_b (lo := 0) (hi := 1) g 10 4 rfl
    have e37 : h10 10 4 = h 10 4 := (u10 10 4 rfl)
    have b38 := gi_b (lo := 0) (hi := 1) g 10 5 rfl
    have e39 : h10 10 5 = h 10 5 := (u10 10 5 rfl)
    exact k h10 z11 g10 F12 (by omega) (by unfold tk_window tk_once tk_num; (try dsimp only); (repeat (first | rw [if_pos (by omega)] | rw [if_neg (by omega)])); (repeat ((first | unfold tk_once | unfold tk_num); (try dsimp only); (repeat (first | rw [if_pos (by omega)] | rw [if_neg (by omega)])))); first | exact tk_Oe (by omega) (by omega) (by omega) | ((repeat' split) <;> (first | exact tk_Oe (by omega) (by omega) (by omega) | (exfalso; omega))))
-- method 123: SetupReader.readBatch()Z
set_option maxRecDepth 100000 in
set_option maxHeartbeats 100000000 in
theorem ct_123_10 {L : Nat} {xs : Nat → Int32} {d b c : Nat} {h : hp} {cr : Nat → Nat → Option Nat} {Q : hp_Q} (hcr : CR cr)  {tB : Nat → Int} {tn tp : Int} {tS : tk_S} (g : GI h)   (pp0 : h 1 4 = tk_nx tB tn tp) (pp1 : h 1 6 = tk_st tB tn tp) (pp2 : h 1 2 = 0) (pp3 : h 1 3 = -1) (pp4 : 0 ≤ tp) (pp5 : tp ≤ tn) (pp6 : tp ≤ tk_nx tB tn tp ∧ tk_nx tB tn tp ≤ tn) (pp7 : tS 0 ≤ 5 ∧ tS 1 ≤ 4 ∧ tS 2 ≤ 12) (xq0 : BufC tB tn h) (xq1 : CVc tS h) (k : ∀ (h2 : hp) (z0 : Int) , GI h2 → FR [(1, 1, some (2, 2)), (1, 1, some (3, 3)), (1, 1, some (4, 4)), (1, 1, some (5, 5)), (1, 1, some (6, 6)), (1, 1, some (7, 7)), (1, 1, some (8, 8)), (1, 1, some (9, 9)), (10, 10, some (3, 3)), (11, 11, some (5, 5)), (11, 11, some (6, 6))] h h2 → (0 ≤ z0 ∧ z0 ≤ 1) → (tk_O (tk_batch tB tn tp tS) z0 h2) → Q (.inl (some (vi z0))) (hp_w h2 cr) b c) : wp (md_xa (L, xs)) (d + 4) 123 (0, [(0, .ref 10)], [], hp_w h cr, b, c) Q := by
  have F0 : FR [(1, 1, some (2, 2)), (1, 1, some (3, 3)), (1, 1, some (4, 4)), (1, 1, some (5, 5)), (1, 1, some (6, 6)), (1, 1, some (7, 7)), (1, 1, some (8, 8)), (1, 1, some (9, 9)), (10, 10, some (3, 3)), (11, 11, some (5, 5)), (11, 11, some (6, 6))] h h := FR.refl
  have tb_1 : h 1 1 = tn := xq0.2.1
  have tb_2 : 0 ≤ tn ∧ tn ≤ 800 := xq0.2.2
  obtain ⟨⟨cv_0, cv_1, cv_2, cv_3, cv_4, cv_5, cv_6, cv_7, cv_8, cv_9⟩, ⟨cf_2, cf_3, cf_4, cf_5⟩, -⟩ := id xq1
  have b1 := gi_b (lo := 0) (hi := 5) g 11 0 rfl
  have b2 := gi_b (lo := 0) (hi := 4) g 11 1 rfl
  have b3 := gi_b (lo := 0) (hi := 12) g 11 2 rfl
  have b4 := gi_b (lo := 0) (hi := 800) g 1 4 rfl
  have b5 := gi_b (lo := 0) (hi := 800) g 1 6 rfl
  have b6 := gi_b (lo := -2147483648) (hi := 2147483647) g 1 2 rfl
  have b7 := gi_b (lo := -2147483648) (hi := 2147483647) g 1 3 rfl
  refine wi_aload_n (i := 0) (x := 10) (nx := 1) (r1 := 0) (r2 := 0) (r3 := 0) rfl rfl ?_
  have b8 := gi_b (lo := 0) (hi := 1) g 10 3 rfl
  refine wr_gi2 (k0 := 10) (x := h 10 3) (nx := 4) (r1 := 3) (r2 := 3) (r3 := 0) rfl rfl (by decide) rfl ⟨rfl, rfl⟩ rfl rfl ?_
  refine wi_if (cd := .eq) (nx := 7) (r1 := 16) (r2 := 0) (r3 := 0) rfl (by omega) (fun (q9 : (h 10 3) = 0) => ?_) (fun (q9 : ¬ ((h 10 3) = 0)) => ?_)
  ·
    refine wi_aload_n (i := 0) (x := 10) (nx := 17) (r1 := 0) (r2 := 0) (r3 := 0) rfl rfl ?_
    refine wi_iconst (n := 1) (nx := 18) (r1 := 0) (r2 := 0) (r3 := 0) rfl ?_
    refine wr_pf2 (k0 := 10) (x := 1) (bl := 0) (bh := 1) (nx := 21) (r1 := 3) (r2 := 3) (r3 := 2) rfl (by decide) rfl ⟨rfl, rfl⟩ rfl (by omega) rfl g rfl (by omega) (fun h10 g10 w10 u10 => ?_)
    have F11 := F0.then rfl u10
    refine wi_aload_n (i := 0) (x := 10) (nx := 22) (r1 := 0) (r2 := 0) (r3 := 0) rfl rfl ?_
    refine wr_gr (k0 := 10) (x := 1) (nx := 25) (r1 := 3) (r2 := 1) (r3 := 0) rfl rfl (by decide) rfl ⟨rfl, rfl⟩ rfl ?_
    refine wi_iconst (n := 1) (nx := 26) (r1 := 0) (r2 := 0) (r3 := 0) rfl ?_
    refine wi_bipush (n := 9) (nx := 28) (r1 := 0) (r2 := 0) (r3 := 0) rfl (by decide) ?_
    refine wr_V (k0 := 1) (rest := []) (as := [.ref 1, vi 1, vi 9]) (nx := 31) (r1 := 103) (r2 := 2) (r3 := 1) rfl rfl rfl (of_decide_eq_true rfl) rfl rfl (by decide) rfl rfl (of_decide_eq_true rfl) (of_decide_eq_true rfl) ?_
    have e13 : h10 1 4 = h 1 4 := (u10 1 4 rfl)
    have tb15 := BufC.fr u10 rfl xq0
    refine ct_103_1 hcr  g10 1 9 (by omega) (by omega) (show (h10 1 4) = (tk_nx tB tn tp) by omega) (show 0 ≤ (tk_nx tB tn tp) by omega) (show (tk_nx tB tn tp) ≤ tn by omega) tb15 (fun h12 z14 g12 u12 (fz14 : 0 ≤ z14 ∧ z14 ≤ 1) (p12_0 : (z14 = 1 ∧ tk_kd tB tn (tk_nx tB tn tp) = 2 ∧ 1 ≤ tk_nb tB tn (tk_nx tB tn tp) ∧ tk_nb tB tn (tk_nx tB tn tp) ≤ 9 ∧ (h12 1 4) = tk_nx tB tn (tk_nx tB tn tp) ∧ (h12 1 7) = tk_nb tB tn (tk_nx tB tn tp) ∧ (h12 1 2) = (h10 1 2) ∧ (h12 1 3) = (h10 1 3)) ∨ (z14 = 0 ∧ (h12 1 3) = tk_st tB tn (tk_nx tB tn tp) ∧ ((tk_kd tB tn (tk_nx tB tn tp) ≠ 2 ∧ (h12 1 2) = 1) ∨ (tk_kd tB tn (tk_nx tB tn tp) = 2 ∧ (tk_nb tB tn (tk_nx tB tn tp) < 1 ∨ 9 < tk_nb tB tn (tk_nx tB tn tp)) ∧ (h12 1 2) = 2)))) => ?_)
    have F16 := F11.then (by decide +kernel) u12
    have e17 : h10 1 2 = h 1 2 := (u10 1 2 rfl)
    have e18 : h10 1 3 = h 1 3 := (u10 1 3 rfl)
    have b19 := gi_b (lo := 0) (hi := 800) g12 1 4 rfl
    have b20 := gi_b (lo := -2147483648) (hi := 2147483647) g12 1 7 rfl
    have b21 := gi_b (lo := -2147483648) (hi := 2147483647) g12 1 2 rfl
    have b22 := gi_b (lo := -2147483648) (hi := 2147483647) g12 1 3 rfl
    have tN23 := @tk_nx_b tB tn (tk_nx tB tn tp) (by omega) (by omega)
    refine wk_i ?_
    refine wi_if (cd := .ne) (nx := 34) (r1 := 36) (r2 := 0) (r3 := 0) rfl (by omega) (fun (q24 : z14 ≠ 0) => ?_) (fun (q24 : ¬ (z14 ≠ 0)) => ?_)
    ·
      refine wi_aload_n (i := 0) (x := 10) (nx := 37) (r1 := 0) (r2 := 0) (r3 := 0) rfl rfl ?_
      refine wr_gr (k0 := 10) (x := 11) (nx := 40) (r1 := 3) (r2 := 0) (r3 := 0) rfl rfl (by decide) rfl ⟨rfl, rfl⟩ rfl ?_
      refine wi_aload_n (i := 0) (x := 10) (nx := 41) (r1 := 0) (r2 := 0) (r3 := 0) rfl rfl ?_
      refine wr_gr (k0 := 10) (x := 1) (nx := 44) (r1 := 3) (r2 := 1) (r3 := 0) rfl rfl (by decide) rfl ⟨rfl, rfl⟩ rfl ?_
      refine wr_gi0 (k0 := 1) (x := h12 1 7) (nx := 47) (r1 := 1) (r2 := 7) (r3 := 0) rfl rfl (by decide) rfl ⟨rfl, rfl⟩ rfl rfl ?_
      refine wr_pf0 (k0 := 11) (x := h12 1 7) (bl := -2147483648) (bh := 2147483647) (nx := 50) (r1 := 2) (r2 := 5) (r3 := 0) rfl (by decide) rfl ⟨rfl, rfl⟩ rfl rfl g12 rfl (by omega) (fun h25 g25 w25 u25 => ?_)
      have F26 := F16.then rfl u25
      refine wi_aload_n (i := 0) (x := 10) (nx := 51) (r1 := 0) (r2 := 0) (r3 := 0) rfl rfl ?_
      refine wr_gr (k0 := 10) (x := 1) (nx := 54) (r1 := 3) (r2 := 1) (r3 := 0) rfl rfl (by decide) rfl ⟨rfl, rfl⟩ rfl ?_
      refine wr_gst (v := wv 9) (nx := 57) (r1 := 8) (r2 := 0) (r3 := 0) rfl rfl rfl ?_
      refine wr_V (k0 := 1) (rest := []) (as := [.ref 1, wv 9]) (nx := 60) (r1 := 102) (r2 := 1) (r3 := 1) rfl rfl rfl (of_decide_eq_true rfl) rfl rfl (by decide) rfl rfl (of_decide_eq_true rfl) (of_decide_eq_true rfl) ?_
      have e28 : h25 1 4 = h12 1 4 := (u25 1 4 rfl)
      have tb30 := BufC.fr u12 rfl tb15
      have tb31 := BufC.fr u25 rfl tb30
      refine ct_102_1 hcr  g25 9 (by omega) (show (h25 1 4) = (tk_nx tB tn (tk_nx tB tn tp)) by omega) (show 0 ≤ (tk_nx tB tn (tk_nx tB tn tp)) by omega) (show (tk_nx tB tn (tk_nx tB tn tp)) ≤ tn by omega) tb31 (fun h27 z29 g27 u27 (fz29 : 0 ≤ z29 ∧ z29 ≤ 1) (p27_0 : (z29 = 1 ∧ tk_kd tB tn (tk_nx tB tn (tk_nx tB tn tp)) = 1 ∧ tk_wd (tk_lw tB tn (tk_nx tB tn (tk_nx tB tn tp))) = 9 ∧ (h27 1 4) = tk_nx tB tn (tk_nx tB tn (tk_nx tB tn tp)) ∧ (h27 1 6) = tk_st tB tn (tk_nx tB tn (tk_nx tB tn tp)) ∧ (h27 1 8) = tk_lw tB tn (tk_nx tB tn (tk_nx tB tn tp)) ∧ (h27 1 2) = (h25 1 2) ∧ (h27 1 3) = (h25 1 3)) ∨ (z29 = 0 ∧ (tk_kd tB tn (tk_nx tB tn (tk_nx tB tn tp)) ≠ 1 ∨ tk_wd (tk_lw tB tn (tk_nx tB tn (tk_nx tB tn tp))) ≠ 9) ∧ (h27 1 2) = 1 ∧ (h27 1 3) = tk_st tB tn (tk_nx tB tn (tk_nx tB tn tp)))) => ?_)
      have F32 := F26.then (by decide +kernel) u27
      have e33 : h25 1 2 = h12 1 2 := (u25 1 2 rfl)
      have e34 : h25 1 3 = h12 1 3 := (u25 1 3 rfl)
      have b35 := gi_b (lo := 0) (hi := 800) g27 1 4 rfl
      have b36 := gi_b (lo := 0) (hi := 800) g27 1 6 rfl
      have b37 := gi_b (lo := -9223372036854775808) (hi := 9223372036854775807) g27 1 8 rfl
      have b38 := gi_b (lo := -2147483648) (hi := 2147483647) g27 1 2 rfl
      have b39 := gi_b (lo := -2147483648) (hi := 2147483647) g27 1 3 rfl
      have tN40 := @tk_nx_b tB tn (tk_nx tB tn (tk_nx tB tn tp)) (by omega) (by omega)
      refine wk_i ?_
      refine wi_if (cd := .eq) (nx := 63) (r1 := 76) (r2 := 0) (r3 := 0) rfl (by omega) (fun (q41 : z29 = 0) => ?_) (fun (q41 : ¬ (z29 = 0)) => ?_)
      ·
        refine wi_iconst (n := 0) (nx := 77) (r1 := 0) (r2 := 0) (r3 := 0) rfl ?_
        refine wi_zreturn (nx := 78) (r1 := 0) (r2 := 0) (r3 := 0) rfl rfl (by omega) ?_
        have e42 : h27 11 0 = h 11 0 := ((u27 11 0 rfl).trans ((u25 11 0 rfl).trans ((u12 11 0 rfl).trans (u10 11 0 rfl))))
        have e43 : h27 11 1 = h 11 1 := ((u27 11 1 rfl).trans ((u25 11 1 rfl).trans ((u12 11 1 rfl).trans (u10 11 1 rfl))))
        have e44 : h27 11 2 = h 11 2 := ((u27 11 2 rfl).trans ((u25 11 2 rfl).trans ((u12 11 2 rfl).trans (u10 11 2 rfl))))
        have b45 := gi_b (lo := -2147483648) (hi := 2147483647) g 11 3 rfl
        have e46 : h27 11 3 = h 11 3 := ((u27 11 3 rfl).trans ((u25 11 3 rfl).trans ((u12 11 3 rfl).trans (u10 11 3 rfl))))
        have b47 := gi_b (lo := -2147483648) (hi := 2147483647) g 11 4 rfl
        have e48 : h27 11 4 = h 11 4 := ((u27 11 4 rfl).trans ((u25 11 4 rfl).trans ((u12 11 4 rfl).trans (u10 11 4 rfl))))
        have e49 : h27 11 5 = h12 1 7 := ((u27 11 5 rfl).trans w25)
        have b50 := gi_b (lo := -2147483648) (hi := 2147483647) g 11 6 rfl
        have e51 : h27 11 6 = h 11 6 := ((u27 11 6 rfl).trans ((u25 11 6 rfl).trans ((u12 11 6 rfl).trans (u10 11 6 rfl))))
        have b52 := gi_b (lo := -2147483648) (hi := 2147483647) g 11 7 rfl
        have e53 : h27 11 7 = h 11 7 := ((u27 11 7 rfl).trans ((u25 11 7 rfl).trans ((u12 11 7 rfl).trans (u10 11 7 rfl))))
        have b54 := gi_b (lo := -2147483648) (hi := 2147483647) g 11 8 rfl
        have e55 : h27 11 8 = h 11 8 := ((u27 11 8 rfl).trans ((u25 11 8 rfl).trans ((u12 11 8 rfl).trans (u10 11 8 rfl))))
        have b56 := gi_b (lo := -2147483648) (hi := 2147483647) g 11 9 rfl
        have e57 : h27 11 9 = h 11 9 := ((u27 11 9 rfl).trans ((u25 11 9 rfl).trans ((u12 11 9 rfl).trans (u10 11 9 rfl))))
        have b58 := gi_b (lo := 0) (hi := 1) g 10 2 rfl
        have e59 : h27 10 2 = h 10 2 := ((u27 10 2 rfl).trans ((u25 10 2 rfl).trans ((u12 10 2 rfl).trans (u10 10 2 rfl))))
        have e60 : h27 10 3 = 1 := ((u27 10 3 rfl).trans ((u25 10 3 rfl).trans ((u12 10 3 rfl).trans w10)))
        have b61 := gi_b (lo := 0) (hi := 1) g 10 4 rfl
        have e62 : h27 10 4 = h 10 4 := ((u27 10 4 rfl).trans ((u25 10 4 rfl).trans ((u12 10 4 rfl).trans (u10 10 4 rfl))))
        have b63 := gi_b (lo := 0) (hi := 1) g 10 5 rfl
        have e64 : h27 10 5 = h 10 5 := ((u27 10 5 rfl).trans ((u25 10 5 rfl).trans ((u12 10 5 rfl).trans (u10 10 5 rfl))))
        exact k h27 0 g27 F32 (by omega) (by unfold tk_batch tk_once tk_wrd tk_num; (try dsimp only); (repeat (first | rw [if_pos (by omega)] | rw [if_neg (by omega)])); (repeat ((first | unfold tk_once | unfold tk_wrd | unfold tk_num); (try dsimp only); (repeat (first | rw [if_pos (by omega)] | rw [if_neg (by omega)])))); first | exact tk_Oe (by omega) (by omega) (by omega) | ((repeat' split) <;> (first | exact tk_Oe (by omega) (by omega) (by omega) | (exfalso; omega))))
      ·
        refine wi_aload_n (i := 0) (x := 10) (nx := 64) (r1 := 0) (r2 := 0) (r3 := 0) rfl rfl ?_
        refine wr_gr (k0 := 10) (x := 1) (nx := 67) (r1 := 3) (r2 := 1) (r3 := 0) rfl rfl (by decide) rfl ⟨rfl, rfl⟩ rfl ?_
        refine wi_iconst (n := 0) (nx := 68) (r1 := 0) (r2 := 0) (r3 := 0) rfl ?_
        refine wi_bipush (n := 99) (nx := 70) (r1 := 0) (r2 := 0) (r3 := 0) rfl (by decide) ?_
        refine wr_V (k0 := 1) (rest := []) (as := [.ref 1, vi 0, vi 99]) (nx := 73) (r1 := 103) (r2 := 2) (r3 := 1) rfl rfl rfl (of_decide_eq_true rfl) rfl rfl (by decide) rfl rfl (of_decide_eq_true rfl) (of_decide_eq_true rfl) ?_
        have tb44 := BufC.fr u27 rfl tb31
        refine ct_103_1 hcr  g27 0 99 (by omega) (by omega) (show (h27 1 4) = (tk_nx tB tn (tk_nx tB tn (tk_nx tB tn tp))) by omega) (show 0 ≤ (tk_nx tB tn (tk_nx tB tn (tk_nx tB tn tp))) by omega) (show (tk_nx tB tn (tk_nx tB tn (tk_nx tB tn tp))) ≤ tn by omega) tb44 (fun h42 z43 g42 u42 (fz43 : 0 ≤ z43 ∧ z43 ≤ 1) (p42_0 : (z43 = 1 ∧ tk_kd tB tn (tk_nx tB tn (tk_nx tB tn (tk_nx tB tn tp))) = 2 ∧ 0 ≤ tk_nb tB tn (tk_nx tB tn (tk_nx tB tn (tk_nx tB tn tp))) ∧ tk_nb tB tn (tk_nx tB tn (tk_nx tB tn (tk_nx tB tn tp))) ≤ 99 ∧ (h42 1 4) = tk_nx tB tn (tk_nx tB tn (tk_nx tB tn (tk_nx tB tn tp))) ∧ (h42 1 7) = tk_nb tB tn (tk_nx tB tn (tk_nx tB tn (tk_nx tB tn tp))) ∧ (h42 1 2) = (h27 1 2) ∧ (h42 1 3) = (h27 1 3)) ∨ (z43 = 0 ∧ (h42 1 3) = tk_st tB tn (tk_nx tB tn (tk_nx tB tn (tk_nx tB tn tp))) ∧ ((tk_kd tB tn (tk_nx tB tn (tk_nx tB tn (tk_nx tB tn tp))) ≠ 2 ∧ (h42 1 2) = 1) ∨ (tk_kd tB tn (tk_nx tB tn (tk_nx tB tn (tk_nx tB tn tp))) = 2 ∧ (tk_nb tB tn (tk_nx tB tn (tk_nx tB tn (tk_nx tB tn tp))) < 0 ∨ 99 < tk_nb tB tn (tk_nx tB tn (tk_nx tB tn (tk_nx tB tn tp)))) ∧ (h42 1 2) = 2)))) => ?_)
        have F45 := F32.then (by decide +kernel) u42
        have b46 := gi_b (lo := 0) (hi := 800) g42 1 4 rfl
        have b47 := gi_b (lo := -2147483648) (hi := 2147483647) g42 1 7 rfl
        have b48 := gi_b (lo := -2147483648) (hi := 2147483647) g42 1 2 rfl
        have b49 := gi_b (lo := -2147483648) (hi := 2147483647) g42 1 3 rfl
        have tN50 := @tk_nx_b tB tn (tk_nx tB tn (tk_nx tB tn (tk_nx tB tn tp))) (by omega) (by omega)
        refine wk_i ?_
        refine wi_if (cd := .ne) (nx := 76) (r1 := 78) (r2 := 0) (r3 := 0) rfl (by omega) (fun (q51 : z43 ≠ 0) => ?_) (fun (q51 : ¬ (z43 ≠ 0)) => ?_)
        ·
          refine wi_aload_n (i := 0) (x := 10) (nx := 79) (r1 := 0) (r2 := 0) (r3 := 0) rfl rfl ?_
          refine wr_gr (k0 := 10) (x := 11) (nx := 82) (r1 := 3) (r2 := 0) (r3 := 0) rfl rfl (by decide) rfl ⟨rfl, rfl⟩ rfl ?_
          refine wi_aload_n (i := 0) (x := 10) (nx := 83) (r1 := 0) (r2 := 0) (r3 := 0) rfl rfl ?_
          refine wr_gr (k0 := 10) (x := 1) (nx := 86) (r1 := 3) (r2 := 1) (r3 := 0) rfl rfl (by decide) rfl ⟨rfl, rfl⟩ rfl ?_
          refine wr_gi0 (k0 := 1) (x := h42 1 7) (nx := 89) (r1 := 1) (r2 := 7) (r3 := 0) rfl rfl (by decide) rfl ⟨rfl, rfl⟩ rfl rfl ?_
          refine wr_pf0 (k0 := 11) (x := h42 1 7) (bl := -2147483648) (bh := 2147483647) (nx := 92) (r1 := 2) (r2 := 6) (r3 := 0) rfl (by decide) rfl ⟨rfl, rfl⟩ rfl rfl g42 rfl (by omega) (fun h52 g52 w52 u52 => ?_)
          have F53 := F45.then rfl u52
          refine wi_iconst (n := 1) (nx := 93) (r1 := 0) (r2 := 0) (r3 := 0) rfl ?_
          refine wi_zreturn (nx := 94) (r1 := 0) (r2 := 0) (r3 := 0) rfl rfl (by omega) ?_
          have e54 : h52 11 0 = h 11 0 := ((u52 11 0 rfl).trans ((u42 11 0 rfl).trans ((u27 11 0 rfl).trans ((u25 11 0 rfl).trans ((u12 11 0 rfl).trans (u10 11 0 rfl))))))
          have e55 : h52 11 1 = h 11 1 := ((u52 11 1 rfl).trans ((u42 11 1 rfl).trans ((u27 11 1 rfl).trans ((u25 11 1 rfl).trans ((u12 11 1 rfl).trans (u10 11 1 rfl))))))
          have e56 : h52 11 2 = h 11 2 := ((u52 11 2 rfl).trans ((u42 11 2 rfl).trans ((u27 11 2 rfl).trans ((u25 11 2 rfl).trans ((u12 11 2 rfl).trans (u10 11 2 rfl))))))
          have b57 := gi_b (lo := -2147483648) (hi := 2147483647) g 11 3 rfl
          have e58 : h52 11 3 = h 11 3 := ((u52 11 3 rfl).trans ((u42 11 3 rfl).trans ((u27 11 3 rfl).trans ((u25 11 3 rfl).trans ((u12 11 3 rfl).trans (u10 11 3 rfl))))))
          have b59 := gi_b (lo := -2147483648) (hi := 2147483647) g 11 4 rfl
          have e60 : h52 11 4 = h 11 4 := ((u52 11 4 rfl).trans ((u42 11 4 rfl).trans ((u27 11 4 rfl).trans ((u25 11 4 rfl).trans ((u12 11 4 rfl).trans (u10 11 4 rfl))))))
          have e61 : h52 11 5 = h12 1 7 := ((u52 11 5 rfl).trans ((u42 11 5 rfl).trans ((u27 11 5 rfl).trans w25)))
          have e62 : h52 11 6 = h42 1 7 := w52
          have b63 := gi_b (lo := -2147483648) (hi := 2147483647) g 11 7 rfl
          have e64 : h52 11 7 = h 11 7 := ((u52 11 7 rfl).trans ((u42 11 7 rfl).trans ((u27 11 7 rfl).trans ((u25 11 7 rfl).trans ((u12 11 7 rfl).trans (u10 11 7 rfl))))))
          have b65 := gi_b (lo := -2147483648) (hi := 2147483647) g 11 8 rfl
          have e66 : h52 11 8 = h 11 8 := ((u52 11 8 rfl).trans ((u42 11 8 rfl).trans ((u27 11 8 rfl).trans ((u25 11 8 rfl).trans ((u12 11 8 rfl).trans (u10 11 8 rfl))))))
          have b67 := gi_b (lo := -2147483648) (hi := 2147483647) g 11 9 rfl
          have e68 : h52 11 9 = h 11 9 := ((u52 11 9 rfl).trans ((u42 11 9 rfl).trans ((u27 11 9 rfl).trans ((u25 11 9 rfl).trans ((u12 11 9 rfl).trans (u10 11 9 rfl))))))
          have e69 : h52 1 2 = h42 1 2 := (u52 1 2 rfl)
          have e70 : h52 1 3 = h42 1 3 := (u52 1 3 rfl)
          have e71 : h52 1 4 = h42 1 4 := (u52 1 4 rfl)
          have b72 := gi_b (lo := 0) (hi := 1) g 10 2 rfl
          have e73 : h52 10 2 = h 10 2 := ((u52 10 2 rfl).trans ((u42 10 2 rfl).trans ((u27 10 2 rfl).trans ((u25 10 2 rfl).trans ((u12 10 2 rfl).trans (u10 10 2 rfl))))))
          have e74 : h52 10 3 = 1 := ((u52 10 3 rfl).trans ((u42 10 3 rfl).trans ((u27 10 3 rfl).trans ((u25 10 3 rfl).trans ((u12 10 3 rfl).trans w10)))))
          have b75 := gi_b (lo := 0) (hi := 1) g 10 4 rfl
          have e76 : h52 10 4 = h 10 4 := ((u52 10 4 rfl).trans ((u42 10 4 rfl).trans ((u27 10 4 rfl).trans ((u25 10 4 rfl).trans ((u12 10 4 rfl).trans (u10 10 4 rfl))))))
          have b77 := gi_b (lo := 0) (hi := 1) g 10 5 rfl
          have e78 : h52 10 5 = h 10 5 := ((u52 10 5 rfl).trans ((u42 10 5 rfl).trans ((u27 10 5 rfl).trans ((u25 10 5 rfl).trans ((u12 10 5 rfl).trans (u10 10 5 rfl))))))
          exact k h52 1 g52 F53 (by omega) (by unfold tk_batch tk_once tk_wrd tk_num; (try dsimp only); (repeat (first | rw [if_pos (by omega)] | rw [if_neg (by omega)])); (repeat ((first | unfold tk_once | unfold tk_wrd | unfold tk_num); (try dsimp only); (repeat (first | rw [if_pos (by omega)] | rw [if_neg (by omega)])))); exact tk_Os (by omega) (by omega) (by omega) (by omega) (CVc.flag xq1 (fun j _ _ _ _ _ _ _ _ _ _ _ => (by (repeat unfold tk_u); (repeat (first | rw [if_pos (by omega)] | rw [if_neg (by omega)])))) (by omega) (by omega) (by omega) ⟨(by (repeat unfold tk_u); (repeat (first | rw [if_pos (by omega)] | rw [if_neg (by omega)])); all_goals omega), (by (repeat unfold tk_u); (repeat (first | rw [if_pos (by omega)] | rw [if_neg (by omega)])); all_goals omega), (by (repeat unfold tk_u); (repeat (first | rw [if_pos (by omega)] | rw [if_neg (by omega)])); all_goals omega), (by (repeat unfold tk_u); (repeat (first | rw [if_pos (by omega)] | rw [if_neg (by omega)])); all_goals omega), (by (repeat unfold tk_u); (repeat (first | rw [if_pos (by omega)] | rw [if_neg (by omega)])); all_goals omega), (by (repeat unfold tk_u); (repeat (first | rw [if_pos (by omega)] | rw [if_neg (by omega)])); all_goals omega), (by (repeat unfold tk_u); (repeat (first | rw [if_pos (by omega)] | rw [if_neg (by omega)])); all_goals omega)⟩ ⟨(by (repeat unfold tk_u); (repeat (first | rw [if_pos (by omega)] | rw [if_neg (by omega)])); all_goals omega), (by (repeat unfold tk_u); (repeat (first | rw [if_pos (by omega)] | rw [if_neg (by omega)])); all_goals omega), (by (repeat unfold tk_u); (repeat (first | rw [if_pos (by omega)] | rw [if_neg (by omega)])); all_goals omega), (by (repeat unfold tk_u); (repeat (first | rw [if_pos (by omega)] | rw [if_neg (by omega)])); all_goals omega)⟩ (fun i => ((u52 12 i (fn_a (by omega) fn_0)).trans ((u42 12 i (fo_nk rfl)).trans ((u27 12 i (fo_nk rfl)).trans ((u25 12 i (fn_a (by omega) fn_0)).trans ((u12 12 i (fo_nk rfl)).trans (u10 12 i (fn_a (by omega) fn_0)))))))) (fun i => ((u52 13 i (fn_a (by omega) fn_0)).trans ((u42 13 i (fo_nk rfl)).trans ((u27 13 i (fo_nk rfl)).trans ((u25 13 i (fn_a (by omega) fn_0)).trans ((u12 13 i (fo_nk rfl)).trans (u10 13 i (fn_a (by omega) fn_0)))))))) (fun i => ((u52 14 i (fn_a (by omega) fn_0)).trans ((u42 14 i (fo_nk rfl)).trans ((u27 14 i (fo_nk rfl)).trans ((u25 14 i (fn_a (by omega) fn_0)).trans ((u12 14 i (fo_nk rfl)).trans (u10 14 i (fn_a (by omega) fn_0)))))))) (fun i => ((u52 15 i (fn_a (by omega) fn_0)).trans ((u42 15 i (fo_nk rfl)).trans ((u27 15 i (fo_nk rfl)).trans ((u25 15 i (fn_a (by omega) fn_0)).trans ((u12 15 i (fo_nk rfl)).trans (u10 15 i (fn_a (by omega) fn_0)))))))) (fun i => ((u52 16 i (fn_a (by omega) fn_0)).trans ((u42 16 i (fo_nk rfl)).trans ((u27 16 i (fo_nk rfl)).trans ((u25 16 i (fn_a (by omega) fn_0)).trans ((u12 16 i (fo_nk rfl)).trans (u10 16 i (fn_a (by omega) fn_0)))))))) (fun i => ((u52 17 i (fn_a (by omega) fn_0)).trans ((u42 17 i (fo_nk rfl)).trans ((u27 17 i (fo_nk rfl)).trans ((u25 17 i (fn_a (by omega) fn_0)).trans ((u12 17 i (fo_nk rfl)).trans (u10 17 i (fn_a (by omega) fn_0)))))))) (by omega) (by omega) (by omega)))
        ·
          refine wi_iconst (n := 0) (nx := 77) (r1 := 0) (r2 := 0) (r3 := 0) rfl ?_
          refine wi_zreturn (nx := 78) (r1 := 0) (r2 := 0) (r3 := 0) rfl rfl (by omega) ?_
          have e52 : h42 11 0 = h 11 0 := ((u42 11 0 rfl).trans ((u27 11 0 rfl).trans ((u25 11 0 rfl).trans ((u12 11 0 rfl).trans (u10 11 0 rfl)))))
          have e53 : h42 11 1 = h 11 1 := ((u42 11 1 rfl).trans ((u27 11 1 rfl).trans ((u25 11 1 rfl).trans ((u12 11 1 rfl).trans (u10 11 1 rfl)))))
          have e54 : h42 11 2 = h 11 2 := ((u42 11 2 rfl).trans ((u27 11 2 rfl).trans ((u25 11 2 rfl).trans ((u12 11 2 rfl).trans (u10 11 2 rfl)))))
          have b55 := gi_b (lo := -2147483648) (hi := 2147483647) g 11 3 rfl
          have e56 : h42 11 3 = h 11 3 := ((u42 11 3 rfl).trans ((u27 11 3 rfl).trans ((u25 11 3 rfl).trans ((u12 11 3 rfl).trans (u10 11 3 rfl)))))
          have b57 := gi_b (lo := -2147483648) (hi := 2147483647) g 11 4 rfl
          have e58 : h42 11 4 = h 11 4 := ((u42 11 4 rfl).trans ((u27 11 4 rfl).trans ((u25 11 4 rfl).trans ((u12 11 4 rfl).trans (u10 11 4 rfl)))))
          have e59 : h42 11 5 = h12 1 7 := ((u42 11 5 rfl).trans ((u27 11 5 rfl).trans w25))
          have b60 := gi_b (lo := -2147483648) (hi := 2147483647) g 11 6 rfl
          have e61 : h42 11 6 = h 11 6 := ((u42 11 6 rfl).trans ((u27 11 6 rfl).trans ((u25 11 6 rfl).trans ((u12 11 6 rfl).trans (u10 11 6 rfl)))))
          have b62 := gi_b (lo := -2147483648) (hi := 2147483647) g 11 7 rfl
          have e63 : h42 11 7 = h 11 7 := ((u42 11 7 rfl).trans ((u27 11 7 rfl).trans ((u25 11 7 rfl).trans ((u12 11 7 rfl).trans (u10 11 7 rfl)))))
          have b64 := gi_b (lo := -2147483648) (hi := 2147483647) g 11 8 rfl
          have e65 : h42 11 8 = h 11 8 := ((u42 11 8 rfl).trans ((u27 11 8 rfl).trans ((u25 11 8 rfl).trans ((u12 11 8 rfl).trans (u10 11 8 rfl)))))
          have b66 := gi_b (lo := -2147483648) (hi := 2147483647) g 11 9 rfl
          have e67 : h42 11 9 = h 11 9 := ((u42 11 9 rfl).trans ((u27 11 9 rfl).trans ((u25 11 9 rfl).trans ((u12 11 9 rfl).trans (u10 11 9 rfl)))))
          have b68 := gi_b (lo := 0) (hi := 1) g 10 2 rfl
          have e69 : h42 10 2 = h 10 2 := ((u42 10 2 rfl).trans ((u27 10 2 rfl).trans ((u25 10 2 rfl).trans ((u12 10 2 rfl).trans (u10 10 2 rfl)))))
          have e70 : h42 10 3 = 1 := ((u42 10 3 rfl).trans ((u27 10 3 rfl).trans ((u25 10 3 rfl).trans ((u12 10 3 rfl).trans w10))))
          have b71 := gi_b (lo := 0) (hi := 1) g 10 4 rfl
          have e72 : h42 10 4 = h 10 4 := ((u42 10 4 rfl).trans ((u27 10 4 rfl).trans ((u25 10 4 rfl).trans ((u12 10 4 rfl).trans (u10 10 4 rfl)))))
          have b73 := gi_b (lo := 0) (hi := 1) g 10 5 rfl
          have e74 : h42 10 5 = h 10 5 := ((u42 10 5 rfl).trans ((u27 10 5 rfl).trans ((u25 10 5 rfl).trans ((u12 10 5 rfl).trans (u10 10 5 rfl)))))
          exact k h42 0 g42 F45 (by omega) (by unfold tk_batch tk_once tk_wrd tk_num; (try dsimp only); (repeat (first | rw [if_pos (by omega)] | rw [if_neg (by omega)])); (repeat ((first | unfold tk_once | unfold tk_wrd | unfold tk_num); (try dsimp only); (repeat (first | rw [if_pos (by omega)] | rw [if_neg (by omega)])))); first | exact tk_Oe (by omega) (by omega) (by omega) | ((repeat' split) <;> (first | exact tk_Oe (by omega) (by omega) (by omega) | (exfalso; omega))))
    ·
      refine wi_iconst (n := 0) (nx := 35) (r1 := 0) (r2 := 0) (r3 := 0) rfl ?_
      refine wi_zreturn (nx := 36) (r1 := 0) (r2 := 0) (r3 := 0) rfl rfl (by omega) ?_
      have e25 : h12 11 0 = h 11 0 := ((u12 11 0 rfl).trans (u10 11 0 rfl))
      have e26 : h12 11 1 = h 11 1 := ((u12 11 1 rfl).trans (u10 11 1 rfl))
      have e27 : h12 11 2 = h 11 2 := ((u12 11 2 rfl).trans (u10 11 2 rfl))
      have b28 := gi_b (lo := -2147483648) (hi := 2147483647) g 11 3 rfl
      have e29 : h12 11 3 = h 11 3 := ((u12 11 3 rfl).trans (u10 11 3 rfl))
      have b30 := gi_b (lo := -2147483648) (hi := 2147483647) g 11 4 rfl
      have e31 : h12 11 4 = h 11 4 := ((u12 11 4 rfl).trans (u10 11 4 rfl))
      have b32 := gi_b (lo := -2147483648) (hi := 2147483647) g 11 5 rfl
      have e33 : h12 11 5 = h 11 5 := ((u12 11 5 rfl).trans (u10 11 5 rfl))
      have b34 := gi_b (lo := -2147483648) (hi := 2147483647) g 11 6 rfl
      have e35 : h12 11 6 = h 11 6 := ((u12 11 6 rfl).trans (u10 11 6 rfl))
      have b36 := gi_b (lo := -2147483648) (hi := 2147483647) g 11 7 rfl
      have e37 : h12 11 7 = h 11 7 := ((u12 11 7 rfl).trans (u10 11 7 rfl))
      have b38 := gi_b (lo := -2147483648) (hi := 2147483647) g 11 8 rfl
      have e39 : h12 11 8 = h 11 8 := ((u12 11 8 rfl).trans (u10 11 8 rfl))
      have b40 := gi_b (lo := -2147483648) (hi := 2147483647) g 11 9 rfl
      have e41 : h12 11 9 = h 11 9 := ((u12 11 9 rfl).trans (u10 11 9 rfl))
      have b42 := gi_b (lo := 0) (hi := 1) g 10 2 rfl
      have e43 : h12 10 2 = h 10 2 := ((u12 10 2 rfl).trans (u10 10 2 rfl))
      have e44 : h12 10 3 = 1 := ((u12 10 3 rfl).trans w10)
      have b45 := gi_b (lo := 0) (hi := 1) g 10 4 rfl
      have e46 : h12 10 4 = h 10 4 := ((u12 10 4 rfl).trans (u10 10 4 rfl))
      have b47 := gi_b (lo := 0) (hi := 1) g 10 5 rfl
      have e48 : h12 10 5 = h 10 5 := ((u12 10 5 rfl).trans (u10 10 5 rfl))
      exact k h12 0 g12 F16 (by omega) (by unfold tk_batch tk_once tk_wrd tk_num; (try dsimp only); (repeat (first | rw [if_pos (by omega)] | rw [if_neg (by omega)])); (repeat ((first | unfold tk_once | unfold tk_wrd | unfold tk_num); (try dsimp only); (repeat (first | rw [if_pos (by omega)] | rw [if_neg (by omega)])))); first | exact tk_Oe (by omega) (by omega) (by omega) | ((repeat' split) <;> (first | exact tk_Oe (by omega) (by omega) (by omega) | (exfalso; omega))))
  ·
    refine wi_aload_n (i := 0) (x := 10) (nx := 8) (r1 := 0) (r2 := 0) (r3 := 0) rfl rfl ?_
    refine wr_gr (k0 := 10) (x := 1) (nx := 11) (r1 := 3) (r2 := 1) (r3 := 0) rfl rfl (by decide) rfl ⟨rfl, rfl⟩ rfl ?_
    refine wi_iconst (n := 3) (nx := 12) (r1 := 0) (r2 := 0) (r3 := 0) rfl ?_
    refine wr_V (k0 := 1) (rest := []) (as := [.ref 1, vi 3]) (nx := 15) (r1 := 101) (r2 := 1) (r3 := 1) rfl rfl rfl (of_decide_eq_true rfl) rfl rfl (by decide) rfl rfl (of_decide_eq_true rfl) (of_decide_eq_true rfl) ?_
    refine ct_101_1 hcr  g 3 (by omega)  (fun h10 z11 g10 u10 (fz11 : 0 ≤ z11 ∧ z11 ≤ 0) (p10_0 : z11 = 0) (p10_1 : (h10 1 2) = 3) (p10_2 : (h10 1 3) = (h 1 6)) => ?_)
    have F12 := F0.then (by decide +kernel) u10
    have b13 := gi_b (lo := -2147483648) (hi := 2147483647) g10 1 2 rfl
    have b14 := gi_b (lo := -2147483648) (hi := 2147483647) g10 1 3 rfl
    refine wk_i ?_
    refine wi_zreturn (nx := 16) (r1 := 0) (r2 := 0) (r3 := 0) rfl rfl (by omega) ?_
    have e15 : h10 11 0 = h 11 0 := (u10 11 0 rfl)
    have e16 : h10 11 1 = h 11 1 := (u10 11 1 rfl)
    have e17 : h10 11 2 = h 11 2 := (u10 11 2 rfl)
    have b18 := gi_b (lo := -2147483648) (hi := 2147483647) g 11 3 rfl
    have e19 : h10 11 3 = h 11 3 := (u10 11 3 rfl)
    have b20 := gi_b (lo := -2147483648) (hi := 2147483647) g 11 4 rfl
    have e21 : h10 11 4 = h 11 4 := (u10 11 4 rfl)
    have b22 := gi_b (lo := -2147483648) (hi := 2147483647) g 11 5 rfl
    have e23 : h10 11 5 = h 11 5 := (u10 11 5 rfl)
    have b24 := gi_b (lo := -2147483648) (hi := 2147483647) g 11 6 rfl
    have e25 : h10 11 6 = h 11 6 := (u10 11 6 rfl)
    have b26 := gi_b (lo := -2147483648) (hi := 2147483647) g 11 7 rfl
    have e27 : h10 11 7 = h 11 7 := (u10 11 7 rfl)
    have b28 := gi_b (lo := -2147483648) (hi := 2147483647) g 11 8 rfl
    have e29 : h10 11 8 = h 11 8 := (u10 11 8 rfl)
    have b30 := gi_b (lo := -2147483648) (hi := 2147483647) g 11 9 rfl
    have e31 : h10 11 9 = h 11 9 := (u10 11 9 rfl)
    have e32 : h10 1 4 = h 1 4 := (u10 1 4 rfl)
    have b33 := gi_b (lo := 0) (hi := 1) g 10 2 rfl
    have e34 : h10 10 2 = h 10 2 := (u10 10 2 rfl)
    have e35 : h10 10 3 = h 10 3 := (u10 10 3 rfl)
    have b36 := gi_b (lo := 0) (hi := 1) g 10 4 rfl
    have e37 : h10 10 4 = h 10 4 := (u10 10 4 rfl)
    have b38 := gi_b (lo := 0) (hi := 1) g 10 5 rfl
    have e39 : h10 10 5 = h 10 5 := (u10 10 5 rfl)
    exact k h10 z11 g10 F12 (by omega) (by unfold tk_batch tk_once tk_wrd tk_num; (try dsimp only); (repeat (first | rw [if_pos (by omega)] | rw [if_neg (by omega)])); (repeat ((first | unfold tk_once | unfold tk_wrd | unfold tk_num); (try dsimp only); (repeat (first | rw [if_pos (by omega)] | rw [if_neg (by omega)])))); first | exact tk_Oe (by omega) (by omega) (by omega) | ((repeat' split) <;> (first | exact tk_Oe (by omega) (by omega) (by omega) | (exfalso; omega))))
-- method 124: SetupReader.readRework()Z
set_option maxRecDepth 100000 in
set_option maxHeartbeats 100000000 in
theorem ct_124_10 {L : Nat} {xs : Nat → Int32} {d b c : Nat} {h : hp} {cr : Nat → Nat → Option Nat} {Q : hp_Q} (hcr : CR cr)  {tB : Nat → Int} {tn tp : Int} {tS : tk_S} (g : GI h)   (pp0 : h 1 4 = tk_nx tB tn tp) (pp1 : h 1 6 = tk_st tB tn tp) (pp2 : h 1 2 = 0) (pp3 : h 1 3 = -1) (pp4 : 0 ≤ tp) (pp5 : tp ≤ tn) (pp6 : tp ≤ tk_nx tB tn tp ∧ tk_nx tB tn tp ≤ tn) (pp7 : tS 0 ≤ 5 ∧ tS 1 ≤ 4 ∧ tS 2 ≤ 12) (xq0 : BufC tB tn h) (xq1 : CVc tS h) (k : ∀ (h2 : hp) (z0 : Int) , GI h2 → FR [(1, 1, some (2, 2)), (1, 1, some (3, 3)), (1, 1, some (4, 4)), (1, 1, some (5, 5)), (1, 1, some (6, 6)), (1, 1, some (7, 7)), (1, 1, some (8, 8)), (1, 1, some (9, 9)), (10, 10, some (4, 4)), (11, 11, some (7, 7)), (11, 11, some (8, 8))] h h2 → (0 ≤ z0 ∧ z0 ≤ 1) → (tk_O (tk_rework tB tn tp tS) z0 h2) → Q (.inl (some (vi z0))) (hp_w h2 cr) b c) : wp (md_xa (L, xs)) (d + 4) 124 (0, [(0, .ref 10)], [], hp_w h cr, b, c) Q := by
  have F0 : FR [(1, 1, some (2, 2)), (1, 1, some (3, 3)), (1, 1, some (4, 4)), (1, 1, some (5, 5)), (1, 1, some (6, 6)), (1, 1, some (7, 7)), (1, 1, some (8, 8)), (1, 1, some (9, 9)), (10, 10, some (4, 4)), (11, 11, some (7, 7)), (11, 11, some (8, 8))] h h := FR.refl
  have tb_1 : h 1 1 = tn := xq0.2.1
  have tb_2 : 0 ≤ tn ∧ tn ≤ 800 := xq0.2.2
  obtain ⟨⟨cv_0, cv_1, cv_2, cv_3, cv_4, cv_5, cv_6, cv_7, cv_8, cv_9⟩, ⟨cf_2, cf_3, cf_4, cf_5⟩, -⟩ := id xq1
  have b1 := gi_b (lo := 0) (hi := 5) g 11 0 rfl
  have b2 := gi_b (lo := 0) (hi := 4) g 11 1 rfl
  have b3 := gi_b (lo := 0) (hi := 12) g 11 2 rfl
  have b4 := gi_b (lo := 0) (hi := 800) g 1 4 rfl
  have b5 := gi_b (lo := 0) (hi := 800) g 1 6 rfl
  have b6 := gi_b (lo := -2147483648) (hi := 2147483647) g 1 2 rfl
  have b7 := gi_b (lo := -2147483648) (hi := 2147483647) g 1 3 rfl
  refine wi_aload_n (i := 0) (x := 10) (nx := 1) (r1 := 0) (r2 := 0) (r3 := 0) rfl rfl ?_
  have b8 := gi_b (lo := 0) (hi := 1) g 10 4 rfl
  refine wr_gi2 (k0 := 10) (x := h 10 4) (nx := 4) (r1 := 3) (r2 := 4) (r3 := 0) rfl rfl (by decide) rfl ⟨rfl, rfl⟩ rfl rfl ?_
  refine wi_if (cd := .eq) (nx := 7) (r1 := 16) (r2 := 0) (r3 := 0) rfl (by omega) (fun (q9 : (h 10 4) = 0) => ?_) (fun (q9 : ¬ ((h 10 4) = 0)) => ?_)
  ·
    refine wi_aload_n (i := 0) (x := 10) (nx := 17) (r1 := 0) (r2 := 0) (r3 := 0) rfl rfl ?_
    refine wi_iconst (n := 1) (nx := 18) (r1 := 0) (r2 := 0) (r3 := 0) rfl ?_
    refine wr_pf2 (k0 := 10) (x := 1) (bl := 0) (bh := 1) (nx := 21) (r1 := 3) (r2 := 4) (r3 := 2) rfl (by decide) rfl ⟨rfl, rfl⟩ rfl (by omega) rfl g rfl (by omega) (fun h10 g10 w10 u10 => ?_)
    have F11 := F0.then rfl u10
    refine wi_aload_n (i := 0) (x := 10) (nx := 22) (r1 := 0) (r2 := 0) (r3 := 0) rfl rfl ?_
    refine wr_gr (k0 := 10) (x := 1) (nx := 25) (r1 := 3) (r2 := 1) (r3 := 0) rfl rfl (by decide) rfl ⟨rfl, rfl⟩ rfl ?_
    refine wi_iconst (n := 0) (nx := 26) (r1 := 0) (r2 := 0) (r3 := 0) rfl ?_
    refine wi_iconst (n := 3) (nx := 27) (r1 := 0) (r2 := 0) (r3 := 0) rfl ?_
    refine wr_V (k0 := 1) (rest := []) (as := [.ref 1, vi 0, vi 3]) (nx := 30) (r1 := 103) (r2 := 2) (r3 := 1) rfl rfl rfl (of_decide_eq_true rfl) rfl rfl (by decide) rfl rfl (of_decide_eq_true rfl) (of_decide_eq_true rfl) ?_
    have e13 : h10 1 4 = h 1 4 := (u10 1 4 rfl)
    have tb15 := BufC.fr u10 rfl xq0
    refine ct_103_1 hcr  g10 0 3 (by omega) (by omega) (show (h10 1 4) = (tk_nx tB tn tp) by omega) (show 0 ≤ (tk_nx tB tn tp) by omega) (show (tk_nx tB tn tp) ≤ tn by omega) tb15 (fun h12 z14 g12 u12 (fz14 : 0 ≤ z14 ∧ z14 ≤ 1) (p12_0 : (z14 = 1 ∧ tk_kd tB tn (tk_nx tB tn tp) = 2 ∧ 0 ≤ tk_nb tB tn (tk_nx tB tn tp) ∧ tk_nb tB tn (tk_nx tB tn tp) ≤ 3 ∧ (h12 1 4) = tk_nx tB tn (tk_nx tB tn tp) ∧ (h12 1 7) = tk_nb tB tn (tk_nx tB tn tp) ∧ (h12 1 2) = (h10 1 2) ∧ (h12 1 3) = (h10 1 3)) ∨ (z14 = 0 ∧ (h12 1 3) = tk_st tB tn (tk_nx tB tn tp) ∧ ((tk_kd tB tn (tk_nx tB tn tp) ≠ 2 ∧ (h12 1 2) = 1) ∨ (tk_kd tB tn (tk_nx tB tn tp) = 2 ∧ (tk_nb tB tn (tk_nx tB tn tp) < 0 ∨ 3 < tk_nb tB tn (tk_nx tB tn tp)) ∧ (h12 1 2) = 2)))) => ?_)
    have F16 := F11.then (by decide +kernel) u12
    have e17 : h10 1 2 = h 1 2 := (u10 1 2 rfl)
    have e18 : h10 1 3 = h 1 3 := (u10 1 3 rfl)
    have b19 := gi_b (lo := 0) (hi := 800) g12 1 4 rfl
    have b20 := gi_b (lo := -2147483648) (hi := 2147483647) g12 1 7 rfl
    have b21 := gi_b (lo := -2147483648) (hi := 2147483647) g12 1 2 rfl
    have b22 := gi_b (lo := -2147483648) (hi := 2147483647) g12 1 3 rfl
    have tN23 := @tk_nx_b tB tn (tk_nx tB tn tp) (by omega) (by omega)
    refine wk_i ?_
    refine wi_if (cd := .ne) (nx := 33) (r1 := 35) (r2 := 0) (r3 := 0) rfl (by omega) (fun (q24 : z14 ≠ 0) => ?_) (fun (q24 : ¬ (z14 ≠ 0)) => ?_)
    ·
      refine wi_aload_n (i := 0) (x := 10) (nx := 36) (r1 := 0) (r2 := 0) (r3 := 0) rfl rfl ?_
      refine wr_gr (k0 := 10) (x := 11) (nx := 39) (r1 := 3) (r2 := 0) (r3 := 0) rfl rfl (by decide) rfl ⟨rfl, rfl⟩ rfl ?_
      refine wi_aload_n (i := 0) (x := 10) (nx := 40) (r1 := 0) (r2 := 0) (r3 := 0) rfl rfl ?_
      refine wr_gr (k0 := 10) (x := 1) (nx := 43) (r1 := 3) (r2 := 1) (r3 := 0) rfl rfl (by decide) rfl ⟨rfl, rfl⟩ rfl ?_
      refine wr_gi0 (k0 := 1) (x := h12 1 7) (nx := 46) (r1 := 1) (r2 := 7) (r3 := 0) rfl rfl (by decide) rfl ⟨rfl, rfl⟩ rfl rfl ?_
      refine wr_pf0 (k0 := 11) (x := h12 1 7) (bl := -2147483648) (bh := 2147483647) (nx := 49) (r1 := 2) (r2 := 7) (r3 := 0) rfl (by decide) rfl ⟨rfl, rfl⟩ rfl rfl g12 rfl (by omega) (fun h25 g25 w25 u25 => ?_)
      have F26 := F16.then rfl u25
      refine wi_aload_n (i := 0) (x := 10) (nx := 50) (r1 := 0) (r2 := 0) (r3 := 0) rfl rfl ?_
      refine wr_gr (k0 := 10) (x := 1) (nx := 53) (r1 := 3) (r2 := 1) (r3 := 0) rfl rfl (by decide) rfl ⟨rfl, rfl⟩ rfl ?_
      refine wr_gst (v := wv 11) (nx := 56) (r1 := 10) (r2 := 0) (r3 := 0) rfl rfl rfl ?_
      refine wr_V (k0 := 1) (rest := []) (as := [.ref 1, wv 11]) (nx := 59) (r1 := 102) (r2 := 1) (r3 := 1) rfl rfl rfl (of_decide_eq_true rfl) rfl rfl (by decide) rfl rfl (of_decide_eq_true rfl) (of_decide_eq_true rfl) ?_
      have e28 : h25 1 4 = h12 1 4 := (u25 1 4 rfl)
      have tb30 := BufC.fr u12 rfl tb15
      have tb31 := BufC.fr u25 rfl tb30
      refine ct_102_1 hcr  g25 11 (by omega) (show (h25 1 4) = (tk_nx tB tn (tk_nx tB tn tp)) by omega) (show 0 ≤ (tk_nx tB tn (tk_nx tB tn tp)) by omega) (show (tk_nx tB tn (tk_nx tB tn tp)) ≤ tn by omega) tb31 (fun h27 z29 g27 u27 (fz29 : 0 ≤ z29 ∧ z29 ≤ 1) (p27_0 : (z29 = 1 ∧ tk_kd tB tn (tk_nx tB tn (tk_nx tB tn tp)) = 1 ∧ tk_wd (tk_lw tB tn (tk_nx tB tn (tk_nx tB tn tp))) = 11 ∧ (h27 1 4) = tk_nx tB tn (tk_nx tB tn (tk_nx tB tn tp)) ∧ (h27 1 6) = tk_st tB tn (tk_nx tB tn (tk_nx tB tn tp)) ∧ (h27 1 8) = tk_lw tB tn (tk_nx tB tn (tk_nx tB tn tp)) ∧ (h27 1 2) = (h25 1 2) ∧ (h27 1 3) = (h25 1 3)) ∨ (z29 = 0 ∧ (tk_kd tB tn (tk_nx tB tn (tk_nx tB tn tp)) ≠ 1 ∨ tk_wd (tk_lw tB tn (tk_nx tB tn (tk_nx tB tn tp))) ≠ 11) ∧ (h27 1 2) = 1 ∧ (h27 1 3) = tk_st tB tn (tk_nx tB tn (tk_nx tB tn tp)))) => ?_)
      have F32 := F26.then (by decide +kernel) u27
      have e33 : h25 1 2 = h12 1 2 := (u25 1 2 rfl)
      have e34 : h25 1 3 = h12 1 3 := (u25 1 3 rfl)
      have b35 := gi_b (lo := 0) (hi := 800) g27 1 4 rfl
      have b36 := gi_b (lo := 0) (hi := 800) g27 1 6 rfl
      have b37 := gi_b (lo := -9223372036854775808) (hi := 9223372036854775807) g27 1 8 rfl
      have b38 := gi_b (lo := -2147483648) (hi := 2147483647) g27 1 2 rfl
      have b39 := gi_b (lo := -2147483648) (hi := 2147483647) g27 1 3 rfl
      have tN40 := @tk_nx_b tB tn (tk_nx tB tn (tk_nx tB tn tp)) (by omega) (by omega)
      refine wk_i ?_
      refine wi_if (cd := .eq) (nx := 62) (r1 := 75) (r2 := 0) (r3 := 0) rfl (by omega) (fun (q41 : z29 = 0) => ?_) (fun (q41 : ¬ (z29 = 0)) => ?_)
      ·
        refine wi_iconst (n := 0) (nx := 76) (r1 := 0) (r2 := 0) (r3 := 0) rfl ?_
        refine wi_zreturn (nx := 77) (r1 := 0) (r2 := 0) (r3 := 0) rfl rfl (by omega) ?_
        have e42 : h27 11 0 = h 11 0 := ((u27 11 0 rfl).trans ((u25 11 0 rfl).trans ((u12 11 0 rfl).trans (u10 11 0 rfl))))
        have e43 : h27 11 1 = h 11 1 := ((u27 11 1 rfl).trans ((u25 11 1 rfl).trans ((u12 11 1 rfl).trans (u10 11 1 rfl))))
        have e44 : h27 11 2 = h 11 2 := ((u27 11 2 rfl).trans ((u25 11 2 rfl).trans ((u12 11 2 rfl).trans (u10 11 2 rfl))))
        have b45 := gi_b (lo := -2147483648) (hi := 2147483647) g 11 3 rfl
        have e46 : h27 11 3 = h 11 3 := ((u27 11 3 rfl).trans ((u25 11 3 rfl).trans ((u12 11 3 rfl).trans (u10 11 3 rfl))))
        have b47 := gi_b (lo := -2147483648) (hi := 2147483647) g 11 4 rfl
        have e48 : h27 11 4 = h 11 4 := ((u27 11 4 rfl).trans ((u25 11 4 rfl).trans ((u12 11 4 rfl).trans (u10 11 4 rfl))))
        have b49 := gi_b (lo := -2147483648) (hi := 2147483647) g 11 5 rfl
        have e50 : h27 11 5 = h 11 5 := ((u27 11 5 rfl).trans ((u25 11 5 rfl).trans ((u12 11 5 rfl).trans (u10 11 5 rfl))))
        have b51 := gi_b (lo := -2147483648) (hi := 2147483647) g 11 6 rfl
        have e52 : h27 11 6 = h 11 6 := ((u27 11 6 rfl).trans ((u25 11 6 rfl).trans ((u12 11 6 rfl).trans (u10 11 6 rfl))))
        have e53 : h27 11 7 = h12 1 7 := ((u27 11 7 rfl).trans w25)
        have b54 := gi_b (lo := -2147483648) (hi := 2147483647) g 11 8 rfl
        have e55 : h27 11 8 = h 11 8 := ((u27 11 8 rfl).trans ((u25 11 8 rfl).trans ((u12 11 8 rfl).trans (u10 11 8 rfl))))
        have b56 := gi_b (lo := -2147483648) (hi := 2147483647) g 11 9 rfl
        have e57 : h27 11 9 = h 11 9 := ((u27 11 9 rfl).trans ((u25 11 9 rfl).trans ((u12 11 9 rfl).trans (u10 11 9 rfl))))
        have b58 := gi_b (lo := 0) (hi := 1) g 10 2 rfl
        have e59 : h27 10 2 = h 10 2 := ((u27 10 2 rfl).trans ((u25 10 2 rfl).trans ((u12 10 2 rfl).trans (u10 10 2 rfl))))
        have b60 := gi_b (lo := 0) (hi := 1) g 10 3 rfl
        have e61 : h27 10 3 = h 10 3 := ((u27 10 3 rfl).trans ((u25 10 3 rfl).trans ((u12 10 3 rfl).trans (u10 10 3 rfl))))
        have e62 : h27 10 4 = 1 := ((u27 10 4 rfl).trans ((u25 10 4 rfl).trans ((u12 10 4 rfl).trans w10)))
        have b63 := gi_b (lo := 0) (hi := 1) g 10 5 rfl
        have e64 : h27 10 5 = h 10 5 := ((u27 10 5 rfl).trans ((u25 10 5 rfl).trans ((u12 10 5 rfl).trans (u10 10 5 rfl))))
        exact k h27 0 g27 F32 (by omega) (by unfold tk_rework tk_once tk_wrd tk_num; (try dsimp only); (repeat (first | rw [if_pos (by omega)] | rw [if_neg (by omega)])); (repeat ((first | unfold tk_once | unfold tk_wrd | unfold tk_num); (try dsimp only); (repeat (first | rw [if_pos (by omega)] | rw [if_neg (by omega)])))); first | exact tk_Oe (by omega) (by omega) (by omega) | ((repeat' split) <;> (first | exact tk_Oe (by omega) (by omega) (by omega) | (exfalso; omega))))
      ·
        refine wi_aload_n (i := 0) (x := 10) (nx := 63) (r1 := 0) (r2 := 0) (r3 := 0) rfl rfl ?_
        refine wr_gr (k0 := 10) (x := 1) (nx := 66) (r1 := 3) (r2 := 1) (r3 := 0) rfl rfl (by decide) rfl ⟨rfl, rfl⟩ rfl ?_
        refine wi_iconst (n := 0) (nx := 67) (r1 := 0) (r2 := 0) (r3 := 0) rfl ?_
        refine wi_bipush (n := 9) (nx := 69) (r1 := 0) (r2 := 0) (r3 := 0) rfl (by decide) ?_
        refine wr_V (k0 := 1) (rest := []) (as := [.ref 1, vi 0, vi 9]) (nx := 72) (r1 := 103) (r2 := 2) (r3 := 1) rfl rfl rfl (of_decide_eq_true rfl) rfl rfl (by decide) rfl rfl (of_decide_eq_true rfl) (of_decide_eq_true rfl) ?_
        have tb44 := BufC.fr u27 rfl tb31
        refine ct_103_1 hcr  g27 0 9 (by omega) (by omega) (show (h27 1 4) = (tk_nx tB tn (tk_nx tB tn (tk_nx tB tn tp))) by omega) (show 0 ≤ (tk_nx tB tn (tk_nx tB tn (tk_nx tB tn tp))) by omega) (show (tk_nx tB tn (tk_nx tB tn (tk_nx tB tn tp))) ≤ tn by omega) tb44 (fun h42 z43 g42 u42 (fz43 : 0 ≤ z43 ∧ z43 ≤ 1) (p42_0 : (z43 = 1 ∧ tk_kd tB tn (tk_nx tB tn (tk_nx tB tn (tk_nx tB tn tp))) = 2 ∧ 0 ≤ tk_nb tB tn (tk_nx tB tn (tk_nx tB tn (tk_nx tB tn tp))) ∧ tk_nb tB tn (tk_nx tB tn (tk_nx tB tn (tk_nx tB tn tp))) ≤ 9 ∧ (h42 1 4) = tk_nx tB tn (tk_nx tB tn (tk_nx tB tn (tk_nx tB tn tp))) ∧ (h42 1 7) = tk_nb tB tn (tk_nx tB tn (tk_nx tB tn (tk_nx tB tn tp))) ∧ (h42 1 2) = (h27 1 2) ∧ (h42 1 3) = (h27 1 3)) ∨ (z43 = 0 ∧ (h42 1 3) = tk_st tB tn (tk_nx tB tn (tk_nx tB tn (tk_nx tB tn tp))) ∧ ((tk_kd tB tn (tk_nx tB tn (tk_nx tB tn (tk_nx tB tn tp))) ≠ 2 ∧ (h42 1 2) = 1) ∨ (tk_kd tB tn (tk_nx tB tn (tk_nx tB tn (tk_nx tB tn tp))) = 2 ∧ (tk_nb tB tn (tk_nx tB tn (tk_nx tB tn (tk_nx tB tn tp))) < 0 ∨ 9 < tk_nb tB tn (tk_nx tB tn (tk_nx tB tn (tk_nx tB tn tp)))) ∧ (h42 1 2) = 2)))) => ?_)
        have F45 := F32.then (by decide +kernel) u42
        have b46 := gi_b (lo := 0) (hi := 800) g42 1 4 rfl
        have b47 := gi_b (lo := -2147483648) (hi := 2147483647) g42 1 7 rfl
        have b48 := gi_b (lo := -2147483648) (hi := 2147483647) g42 1 2 rfl
        have b49 := gi_b (lo := -2147483648) (hi := 2147483647) g42 1 3 rfl
        have tN50 := @tk_nx_b tB tn (tk_nx tB tn (tk_nx tB tn (tk_nx tB tn tp))) (by omega) (by omega)
        refine wk_i ?_
        refine wi_if (cd := .ne) (nx := 75) (r1 := 77) (r2 := 0) (r3 := 0) rfl (by omega) (fun (q51 : z43 ≠ 0) => ?_) (fun (q51 : ¬ (z43 ≠ 0)) => ?_)
        ·
          refine wi_aload_n (i := 0) (x := 10) (nx := 78) (r1 := 0) (r2 := 0) (r3 := 0) rfl rfl ?_
          refine wr_gr (k0 := 10) (x := 11) (nx := 81) (r1 := 3) (r2 := 0) (r3 := 0) rfl rfl (by decide) rfl ⟨rfl, rfl⟩ rfl ?_
          refine wi_aload_n (i := 0) (x := 10) (nx := 82) (r1 := 0) (r2 := 0) (r3 := 0) rfl rfl ?_
          refine wr_gr (k0 := 10) (x := 1) (nx := 85) (r1 := 3) (r2 := 1) (r3 := 0) rfl rfl (by decide) rfl ⟨rfl, rfl⟩ rfl ?_
          refine wr_gi0 (k0 := 1) (x := h42 1 7) (nx := 88) (r1 := 1) (r2 := 7) (r3 := 0) rfl rfl (by decide) rfl ⟨rfl, rfl⟩ rfl rfl ?_
          refine wr_pf0 (k0 := 11) (x := h42 1 7) (bl := -2147483648) (bh := 2147483647) (nx := 91) (r1 := 2) (r2 := 8) (r3 := 0) rfl (by decide) rfl ⟨rfl, rfl⟩ rfl rfl g42 rfl (by omega) (fun h52 g52 w52 u52 => ?_)
          have F53 := F45.then rfl u52
          refine wi_iconst (n := 1) (nx := 92) (r1 := 0) (r2 := 0) (r3 := 0) rfl ?_
          refine wi_zreturn (nx := 93) (r1 := 0) (r2 := 0) (r3 := 0) rfl rfl (by omega) ?_
          have e54 : h52 11 0 = h 11 0 := ((u52 11 0 rfl).trans ((u42 11 0 rfl).trans ((u27 11 0 rfl).trans ((u25 11 0 rfl).trans ((u12 11 0 rfl).trans (u10 11 0 rfl))))))
          have e55 : h52 11 1 = h 11 1 := ((u52 11 1 rfl).trans ((u42 11 1 rfl).trans ((u27 11 1 rfl).trans ((u25 11 1 rfl).trans ((u12 11 1 rfl).trans (u10 11 1 rfl))))))
          have e56 : h52 11 2 = h 11 2 := ((u52 11 2 rfl).trans ((u42 11 2 rfl).trans ((u27 11 2 rfl).trans ((u25 11 2 rfl).trans ((u12 11 2 rfl).trans (u10 11 2 rfl))))))
          have b57 := gi_b (lo := -2147483648) (hi := 2147483647) g 11 3 rfl
          have e58 : h52 11 3 = h 11 3 := ((u52 11 3 rfl).trans ((u42 11 3 rfl).trans ((u27 11 3 rfl).trans ((u25 11 3 rfl).trans ((u12 11 3 rfl).trans (u10 11 3 rfl))))))
          have b59 := gi_b (lo := -2147483648) (hi := 2147483647) g 11 4 rfl
          have e60 : h52 11 4 = h 11 4 := ((u52 11 4 rfl).trans ((u42 11 4 rfl).trans ((u27 11 4 rfl).trans ((u25 11 4 rfl).trans ((u12 11 4 rfl).trans (u10 11 4 rfl))))))
          have b61 := gi_b (lo := -2147483648) (hi := 2147483647) g 11 5 rfl
          have e62 : h52 11 5 = h 11 5 := ((u52 11 5 rfl).trans ((u42 11 5 rfl).trans ((u27 11 5 rfl).trans ((u25 11 5 rfl).trans ((u12 11 5 rfl).trans (u10 11 5 rfl))))))
          have b63 := gi_b (lo := -2147483648) (hi := 2147483647) g 11 6 rfl
          have e64 : h52 11 6 = h 11 6 := ((u52 11 6 rfl).trans ((u42 11 6 rfl).trans ((u27 11 6 rfl).trans ((u25 11 6 rfl).trans ((u12 11 6 rfl).trans (u10 11 6 rfl))))))
          have e65 : h52 11 7 = h12 1 7 := ((u52 11 7 rfl).trans ((u42 11 7 rfl).trans ((u27 11 7 rfl).trans w25)))
          have e66 : h52 11 8 = h42 1 7 := w52
          have b67 := gi_b (lo := -2147483648) (hi := 2147483647) g 11 9 rfl
          have e68 : h52 11 9 = h 11 9 := ((u52 11 9 rfl).trans ((u42 11 9 rfl).trans ((u27 11 9 rfl).trans ((u25 11 9 rfl).trans ((u12 11 9 rfl).trans (u10 11 9 rfl))))))
          have e69 : h52 1 2 = h42 1 2 := (u52 1 2 rfl)
          have e70 : h52 1 3 = h42 1 3 := (u52 1 3 rfl)
          have e71 : h52 1 4 = h42 1 4 := (u52 1 4 rfl)
          have b72 := gi_b (lo := 0) (hi := 1) g 10 2 rfl
          have e73 : h52 10 2 = h 10 2 := ((u52 10 2 rfl).trans ((u42 10 2 rfl).trans ((u27 10 2 rfl).trans ((u25 10 2 rfl).trans ((u12 10 2 rfl).trans (u10 10 2 rfl))))))
          have b74 := gi_b (lo := 0) (hi := 1) g 10 3 rfl
          have e75 : h52 10 3 = h 10 3 := ((u52 10 3 rfl).trans ((u42 10 3 rfl).trans ((u27 10 3 rfl).trans ((u25 10 3 rfl).trans ((u12 10 3 rfl).trans (u10 10 3 rfl))))))
          have e76 : h52 10 4 = 1 := ((u52 10 4 rfl).trans ((u42 10 4 rfl).trans ((u27 10 4 rfl).trans ((u25 10 4 rfl).trans ((u12 10 4 rfl).trans w10)))))
          have b77 := gi_b (lo := 0) (hi := 1) g 10 5 rfl
          have e78 : h52 10 5 = h 10 5 := ((u52 10 5 rfl).trans ((u42 10 5 rfl).trans ((u27 10 5 rfl).trans ((u25 10 5 rfl).trans ((u12 10 5 rfl).trans (u10 10 5 rfl))))))
          exact k h52 1 g52 F53 (by omega) (by unfold tk_rework tk_once tk_wrd tk_num; (try dsimp only); (repeat (first | rw [if_pos (by omega)] | rw [if_neg (by omega)])); (repeat ((first | unfold tk_once | unfold tk_wrd | unfold tk_num); (try dsimp only); (repeat (first | rw [if_pos (by omega)] | rw [if_neg (by omega)])))); exact tk_Os (by omega) (by omega) (by omega) (by omega) (CVc.flag xq1 (fun j _ _ _ _ _ _ _ _ _ _ _ => (by (repeat unfold tk_u); (repeat (first | rw [if_pos (by omega)] | rw [if_neg (by omega)])))) (by omega) (by omega) (by omega) ⟨(by (repeat unfold tk_u); (repeat (first | rw [if_pos (by omega)] | rw [if_neg (by omega)])); all_goals omega), (by (repeat unfold tk_u); (repeat (first | rw [if_pos (by omega)] | rw [if_neg (by omega)])); all_goals omega), (by (repeat unfold tk_u); (repeat (first | rw [if_pos (by omega)] | rw [if_neg (by omega)])); all_goals omega), (by (repeat unfold tk_u); (repeat (first | rw [if_pos (by omega)] | rw [if_neg (by omega)])); all_goals omega), (by (repeat unfold tk_u); (repeat (first | rw [if_pos (by omega)] | rw [if_neg (by omega)])); all_goals omega), (by (repeat unfold tk_u); (repeat (first | rw [if_pos (by omega)] | rw [if_neg (by omega)])); all_goals omega), (by (repeat unfold tk_u); (repeat (first | rw [if_pos (by omega)] | rw [if_neg (by omega)])); all_goals omega)⟩ ⟨(by (repeat unfold tk_u); (repeat (first | rw [if_pos (by omega)] | rw [if_neg (by omega)])); all_goals omega), (by (repeat unfold tk_u); (repeat (first | rw [if_pos (by omega)] | rw [if_neg (by omega)])); all_goals omega), (by (repeat unfold tk_u); (repeat (first | rw [if_pos (by omega)] | rw [if_neg (by omega)])); all_goals omega), (by (repeat unfold tk_u); (repeat (first | rw [if_pos (by omega)] | rw [if_neg (by omega)])); all_goals omega)⟩ (fun i => ((u52 12 i (fn_a (by omega) fn_0)).trans ((u42 12 i (fo_nk rfl)).trans ((u27 12 i (fo_nk rfl)).trans ((u25 12 i (fn_a (by omega) fn_0)).trans ((u12 12 i (fo_nk rfl)).trans (u10 12 i (fn_a (by omega) fn_0)))))))) (fun i => ((u52 13 i (fn_a (by omega) fn_0)).trans ((u42 13 i (fo_nk rfl)).trans ((u27 13 i (fo_nk rfl)).trans ((u25 13 i (fn_a (by omega) fn_0)).trans ((u12 13 i (fo_nk rfl)).trans (u10 13 i (fn_a (by omega) fn_0)))))))) (fun i => ((u52 14 i (fn_a (by omega) fn_0)).trans ((u42 14 i (fo_nk rfl)).trans ((u27 14 i (fo_nk rfl)).trans ((u25 14 i (fn_a (by omega) fn_0)).trans ((u12 14 i (fo_nk rfl)).trans (u10 14 i (fn_a (by omega) fn_0)))))))) (fun i => ((u52 15 i (fn_a (by omega) fn_0)).trans ((u42 15 i (fo_nk rfl)).trans ((u27 15 i (fo_nk rfl)).trans ((u25 15 i (fn_a (by omega) fn_0)).trans ((u12 15 i (fo_nk rfl)).trans (u10 15 i (fn_a (by omega) fn_0)))))))) (fun i => ((u52 16 i (fn_a (by omega) fn_0)).trans ((u42 16 i (fo_nk rfl)).trans ((u27 16 i (fo_nk rfl)).trans ((u25 16 i (fn_a (by omega) fn_0)).trans ((u12 16 i (fo_nk rfl)).trans (u10 16 i (fn_a (by omega) fn_0)))))))) (fun i => ((u52 17 i (fn_a (by omega) fn_0)).trans ((u42 17 i (fo_nk rfl)).trans ((u27 17 i (fo_nk rfl)).trans ((u25 17 i (fn_a (by omega) fn_0)).trans ((u12 17 i (fo_nk rfl)).trans (u10 17 i (fn_a (by omega) fn_0)))))))) (by omega) (by omega) (by omega)))
        ·
          refine wi_iconst (n := 0) (nx := 76) (r1 := 0) (r2 := 0) (r3 := 0) rfl ?_
          refine wi_zreturn (nx := 77) (r1 := 0) (r2 := 0) (r3 := 0) rfl rfl (by omega) ?_
          have e52 : h42 11 0 = h 11 0 := ((u42 11 0 rfl).trans ((u27 11 0 rfl).trans ((u25 11 0 rfl).trans ((u12 11 0 rfl).trans (u10 11 0 rfl)))))
          have e53 : h42 11 1 = h 11 1 := ((u42 11 1 rfl).trans ((u27 11 1 rfl).trans ((u25 11 1 rfl).trans ((u12 11 1 rfl).trans (u10 11 1 rfl)))))
          have e54 : h42 11 2 = h 11 2 := ((u42 11 2 rfl).trans ((u27 11 2 rfl).trans ((u25 11 2 rfl).trans ((u12 11 2 rfl).trans (u10 11 2 rfl)))))
          have b55 := gi_b (lo := -2147483648) (hi := 2147483647) g 11 3 rfl
          have e56 : h42 11 3 = h 11 3 := ((u42 11 3 rfl).trans ((u27 11 3 rfl).trans ((u25 11 3 rfl).trans ((u12 11 3 rfl).trans (u10 11 3 rfl)))))
          have b57 := gi_b (lo := -2147483648) (hi := 2147483647) g 11 4 rfl
          have e58 : h42 11 4 = h 11 4 := ((u42 11 4 rfl).trans ((u27 11 4 rfl).trans ((u25 11 4 rfl).trans ((u12 11 4 rfl).trans (u10 11 4 rfl)))))
          have b59 := gi_b (lo := -2147483648) (hi := 2147483647) g 11 5 rfl
          have e60 : h42 11 5 = h 11 5 := ((u42 11 5 rfl).trans ((u27 11 5 rfl).trans ((u25 11 5 rfl).trans ((u12 11 5 rfl).trans (u10 11 5 rfl)))))
          have b61 := gi_b (lo := -2147483648) (hi := 2147483647) g 11 6 rfl
          have e62 : h42 11 6 = h 11 6 := ((u42 11 6 rfl).trans ((u27 11 6 rfl).trans ((u25 11 6 rfl).trans ((u12 11 6 rfl).trans (u10 11 6 rfl)))))
          have e63 : h42 11 7 = h12 1 7 := ((u42 11 7 rfl).trans ((u27 11 7 rfl).trans w25))
          have b64 := gi_b (lo := -2147483648) (hi := 2147483647) g 11 8 rfl
          have e65 : h42 11 8 = h 11 8 := ((u42 11 8 rfl).trans ((u27 11 8 rfl).trans ((u25 11 8 rfl).trans ((u12 11 8 rfl).trans (u10 11 8 rfl)))))
          have b66 := gi_b (lo := -2147483648) (hi := 2147483647) g 11 9 rfl
          have e67 : h42 11 9 = h 11 9 := ((u42 11 9 rfl).trans ((u27 11 9 rfl).trans ((u25 11 9 rfl).trans ((u12 11 9 rfl).trans (u10 11 9 rfl)))))
          have b68 := gi_b (lo := 0) (hi := 1) g 10 2 rfl
          have e69 : h42 10 2 = h 10 2 := ((u42 10 2 rfl).trans ((u27 10 2 rfl).trans ((u25 10 2 rfl).trans ((u12 10 2 rfl).trans (u10 10 2 rfl)))))
          have b70 := gi_b (lo := 0) (hi := 1) g 10 3 rfl
          have e71 : h42 10 3 = h 10 3 := ((u42 10 3 rfl).trans ((u27 10 3 rfl).trans ((u25 10 3 rfl).trans ((u12 10 3 rfl).trans (u10 10 3 rfl)))))
          have e72 : h42 10 4 = 1 := ((u42 10 4 rfl).trans ((u27 10 4 rfl).trans ((u25 10 4 rfl).trans ((u12 10 4 rfl).trans w10))))
          have b73 := gi_b (lo := 0) (hi := 1) g 10 5 rfl
          have e74 : h42 10 5 = h 10 5 := ((u42 10 5 rfl).trans ((u27 10 5 rfl).trans ((u25 10 5 rfl).trans ((u12 10 5 rfl).trans (u10 10 5 rfl)))))
          exact k h42 0 g42 F45 (by omega) (by unfold tk_rework tk_once tk_wrd tk_num; (try dsimp only); (repeat (first | rw [if_pos (by omega)] | rw [if_neg (by omega)])); (repeat ((first | unfold tk_once | unfold tk_wrd | unfold tk_num); (try dsimp only); (repeat (first | rw [if_pos (by omega)] | rw [if_neg (by omega)])))); first | exact tk_Oe (by omega) (by omega) (by omega) | ((repeat' split) <;> (first | exact tk_Oe (by omega) (by omega) (by omega) | (exfalso; omega))))
    ·
      refine wi_iconst (n := 0) (nx := 34) (r1 := 0) (r2 := 0) (r3 := 0) rfl ?_
      refine wi_zreturn (nx := 35) (r1 := 0) (r2 := 0) (r3 := 0) rfl rfl (by omega) ?_
      have e25 : h12 11 0 = h 11 0 := ((u12 11 0 rfl).trans (u10 11 0 rfl))
      have e26 : h12 11 1 = h 11 1 := ((u12 11 1 rfl).trans (u10 11 1 rfl))
      have e27 : h12 11 2 = h 11 2 := ((u12 11 2 rfl).trans (u10 11 2 rfl))
      have b28 := gi_b (lo := -2147483648) (hi := 2147483647) g 11 3 rfl
      have e29 : h12 11 3 = h 11 3 := ((u12 11 3 rfl).trans (u10 11 3 rfl))
      have b30 := gi_b (lo := -2147483648) (hi := 2147483647) g 11 4 rfl
      have e31 : h12 11 4 = h 11 4 := ((u12 11 4 rfl).trans (u10 11 4 rfl))
      have b32 := gi_b (lo := -2147483648) (hi := 2147483647) g 11 5 rfl
      have e33 : h12 11 5 = h 11 5 := ((u12 11 5 rfl).trans (u10 11 5 rfl))
      have b34 := gi_b (lo := -2147483648) (hi := 2147483647) g 11 6 rfl
      have e35 : h12 11 6 = h 11 6 := ((u12 11 6 rfl).trans (u10 11 6 rfl))
      have b36 := gi_b (lo := -2147483648) (hi := 2147483647) g 11 7 rfl
      have e37 : h12 11 7 = h 11 7 := ((u12 11 7 rfl).trans (u10 11 7 rfl))
      have b38 := gi_b (lo := -2147483648) (hi := 2147483647) g 11 8 rfl
      have e39 : h12 11 8 = h 11 8 := ((u12 11 8 rfl).trans (u10 11 8 rfl))
      have b40 := gi_b (lo := -2147483648) (hi := 2147483647) g 11 9 rfl
      have e41 : h12 11 9 = h 11 9 := ((u12 11 9 rfl).trans (u10 11 9 rfl))
      have b42 := gi_b (lo := 0) (hi := 1) g 10 2 rfl
      have e43 : h12 10 2 = h 10 2 := ((u12 10 2 rfl).trans (u10 10 2 rfl))
      have b44 := gi_b (lo := 0) (hi := 1) g 10 3 rfl
      have e45 : h12 10 3 = h 10 3 := ((u12 10 3 rfl).trans (u10 10 3 rfl))
      have e46 : h12 10 4 = 1 := ((u12 10 4 rfl).trans w10)
      have b47 := gi_b (lo := 0) (hi := 1) g 10 5 rfl
      have e48 : h12 10 5 = h 10 5 := ((u12 10 5 rfl).trans (u10 10 5 rfl))
      exact k h12 0 g12 F16 (by omega) (by unfold tk_rework tk_once tk_wrd tk_num; (try dsimp only); (repeat (first | rw [if_pos (by omega)] | rw [if_neg (by omega)])); (repeat ((first | unfold tk_once | unfold tk_wrd | unfold tk_num); (try dsimp only); (repeat (first | rw [if_pos (by omega)] | rw [if_neg (by omega)])))); first | exact tk_Oe (by omega) (by omega) (by omega) | ((repeat' split) <;> (first | exact tk_Oe (by omega) (by omega) (by omega) | (exfalso; omega))))
  ·
    refine wi_aload_n (i := 0) (x := 10) (nx := 8) (r1 := 0) (r2 := 0) (r3 := 0) rfl rfl ?_
    refine wr_gr (k0 := 10) (x := 1) (nx := 11) (r1 := 3) (r2 := 1) (r3 := 0) rfl rfl (by decide) rfl ⟨rfl, rfl⟩ rfl ?_
    refine wi_iconst (n := 3) (nx := 12) (r1 := 0) (r2 := 0) (r3 := 0) rfl ?_
    refine wr_V (k0 := 1) (rest := []) (as := [.ref 1, vi 3]) (nx := 15) (r1 := 101) (r2 := 1) (r3 := 1) rfl rfl rfl (of_decide_eq_true rfl) rfl rfl (by decide) rfl rfl (of_decide_eq_true rfl) (of_decide_eq_true rfl) ?_
    refine ct_101_1 hcr  g 3 (by omega)  (fun h10 z11 g10 u10 (fz11 : 0 ≤ z11 ∧ z11 ≤ 0) (p10_0 : z11 = 0) (p10_1 : (h10 1 2) = 3) (p10_2 : (h10 1 3) = (h 1 6)) => ?_)
    have F12 := F0.then (by decide +kernel) u10
    have b13 := gi_b (lo := -2147483648) (hi := 2147483647) g10 1 2 rfl
    have b14 := gi_b (lo := -2147483648) (hi := 2147483647) g10 1 3 rfl
    refine wk_i ?_
    refine wi_zreturn (nx := 16) (r1 := 0) (r2 := 0) (r3 := 0) rfl rfl (by omega) ?_
    have e15 : h10 11 0 = h 11 0 := (u10 11 0 rfl)
    have e16 : h10 11 1 = h 11 1 := (u10 11 1 rfl)
    have e17 : h10 11 2 = h 11 2 := (u10 11 2 rfl)
    have b18 := gi_b (lo := -2147483648) (hi := 2147483647) g 11 3 rfl
    have e19 : h10 11 3 = h 11 3 := (u10 11 3 rfl)
    have b20 := gi_b (lo := -2147483648) (hi := 2147483647) g 11 4 rfl
    have e21 : h10 11 4 = h 11 4 := (u10 11 4 rfl)
    have b22 := gi_b (lo := -2147483648) (hi := 2147483647) g 11 5 rfl
    have e23 : h10 11 5 = h 11 5 := (u10 11 5 rfl)
    have b24 := gi_b (lo := -2147483648) (hi := 2147483647) g 11 6 rfl
    have e25 : h10 11 6 = h 11 6 := (u10 11 6 rfl)
    have b26 := gi_b (lo := -2147483648) (hi := 2147483647) g 11 7 rfl
    have e27 : h10 11 7 = h 11 7 := (u10 11 7 rfl)
    have b28 := gi_b (lo := -2147483648) (hi := 2147483647) g 11 8 rfl
    have e29 : h10 11 8 = h 11 8 := (u10 11 8 rfl)
    have b30 := gi_b (lo := -2147483648) (hi := 2147483647) g 11 9 rfl
    have e31 : h10 11 9 = h 11 9 := (u10 11 9 rfl)
    have e32 : h10 1 4 = h 1 4 := (u10 1 4 rfl)
    have b33 := gi_b (lo := 0) (hi := 1) g 10 2 rfl
    have e34 : h10 10 2 = h 10 2 := (u10 10 2 rfl)
    have b35 := gi_b (lo := 0) (hi := 1) g 10 3 rfl
    have e36 : h10 10 3 = h 10 3 := (u10 10 3 rfl)
    have e37 : h10 10 4 = h 10 4 := (u10 10 4 rfl)
    have b38 := gi_b (lo := 0) (hi := 1) g 10 5 rfl
    have e39 : h10 10 5 = h 10 5 := (u10 10 5 rfl)
    exact k h10 z11 g10 F12 (by omega) (by unfold tk_rework tk_once tk_wrd tk_num; (try dsimp only); (repeat (first | rw [if_pos (by omega)] | rw [if_neg (by omega)])); (repeat ((first | unfold tk_once | unfold tk_wrd | unfold tk_num); (try dsimp only); (repeat (first | rw [if_pos (by omega)] | rw [if_neg (by omega)])))); first | exact tk_Oe (by omega) (by omega) (by omega) | ((repeat' split) <;> (first | exact tk_Oe (by omega) (by omega) (by omega) | (exfalso; omega))))
-- method 125: SetupReader.readSpan()Z
set_option maxRecDepth 100000 in
set_option maxHeartbeats 100000000 in
theorem ct_125_10 {L : Nat} {xs : Nat → Int32} {d b c : Nat} {h : hp} {cr : Nat → Nat → Option Nat} {Q : hp_Q} (hcr : CR cr)  {tB : Nat → Int} {tn tp : Int} {tS : tk_S} (g : GI h)   (pp0 : h 1 4 = tk_nx tB tn tp) (pp1 : h 1 6 = tk_st tB tn tp) (pp2 : h 1 2 = 0) (pp3 : h 1 3 = -1) (pp4 : 0 ≤ tp) (pp5 : tp ≤ tn) (pp6 : tp ≤ tk_nx tB tn tp ∧ tk_nx tB tn tp ≤ tn) (pp7 : tS 0 ≤ 5 ∧ tS 1 ≤ 4 ∧ tS 2 ≤ 12) (xq0 : BufC tB tn h) (xq1 : CVc tS h) (k : ∀ (h2 : hp) (z0 : Int) , GI h2 → FR [(1, 1, some (2, 2)), (1, 1, some (3, 3)), (1, 1, some (4, 4)), (1, 1, some (5, 5)), (1, 1, some (6, 6)), (1, 1, some (7, 7)), (1, 1, some (8, 8)), (1, 1, some (9, 9)), (10, 10, some (5, 5)), (11, 11, some (9, 9))] h h2 → (0 ≤ z0 ∧ z0 ≤ 1) → (tk_O (tk_span tB tn tp tS) z0 h2) → Q (.inl (some (vi z0))) (hp_w h2 cr) b c) : wp (md_xa (L, xs)) (d + 4) 125 (0, [(0, .ref 10)], [], hp_w h cr, b, c) Q := by
  have F0 : FR [(1, 1, some (2, 2)), (1, 1, some (3, 3)), (1, 1, some (4, 4)), (1, 1, some (5, 5)), (1, 1, some (6, 6)), (1, 1, some (7, 7)), (1, 1, some (8, 8)), (1, 1, some (9, 9)), (10, 10, some (5, 5)), (11, 11, some (9, 9))] h h := FR.refl
  have tb_1 : h 1 1 = tn := xq0.2.1
  have tb_2 : 0 ≤ tn ∧ tn ≤ 800 := xq0.2.2
  obtain ⟨⟨cv_0, cv_1, cv_2, cv_3, cv_4, cv_5, cv_6, cv_7, cv_8, cv_9⟩, ⟨cf_2, cf_3, cf_4, cf_5⟩, -⟩ := id xq1
  have b1 := gi_b (lo := 0) (hi := 5) g 11 0 rfl
  have b2 := gi_b (lo := 0) (hi := 4) g 11 1 rfl
  have b3 := gi_b (lo := 0) (hi := 12) g 11 2 rfl
  have b4 := gi_b (lo := 0) (hi := 800) g 1 4 rfl
  have b5 := gi_b (lo := 0) (hi := 800) g 1 6 rfl
  have b6 := gi_b (lo := -2147483648) (hi := 2147483647) g 1 2 rfl
  have b7 := gi_b (lo := -2147483648) (hi := 2147483647) g 1 3 rfl
  refine wi_aload_n (i := 0) (x := 10) (nx := 1) (r1 := 0) (r2 := 0) (r3 := 0) rfl rfl ?_
  have b8 := gi_b (lo := 0) (hi := 1) g 10 5 rfl
  refine wr_gi2 (k0 := 10) (x := h 10 5) (nx := 4) (r1 := 3) (r2 := 5) (r3 := 0) rfl rfl (by decide) rfl ⟨rfl, rfl⟩ rfl rfl ?_
  refine wi_if (cd := .eq) (nx := 7) (r1 := 16) (r2 := 0) (r3 := 0) rfl (by omega) (fun (q9 : (h 10 5) = 0) => ?_) (fun (q9 : ¬ ((h 10 5) = 0)) => ?_)
  ·
    refine wi_aload_n (i := 0) (x := 10) (nx := 17) (r1 := 0) (r2 := 0) (r3 := 0) rfl rfl ?_
    refine wi_iconst (n := 1) (nx := 18) (r1 := 0) (r2 := 0) (r3 := 0) rfl ?_
    refine wr_pf2 (k0 := 10) (x := 1) (bl := 0) (bh := 1) (nx := 21) (r1 := 3) (r2 := 5) (r3 := 2) rfl (by decide) rfl ⟨rfl, rfl⟩ rfl (by omega) rfl g rfl (by omega) (fun h10 g10 w10 u10 => ?_)
    have F11 := F0.then rfl u10
    refine wi_aload_n (i := 0) (x := 10) (nx := 22) (r1 := 0) (r2 := 0) (r3 := 0) rfl rfl ?_
    refine wr_gr (k0 := 10) (x := 1) (nx := 25) (r1 := 3) (r2 := 1) (r3 := 0) rfl rfl (by decide) rfl ⟨rfl, rfl⟩ rfl ?_
    refine wi_iconst (n := 0) (nx := 26) (r1 := 0) (r2 := 0) (r3 := 0) rfl ?_
    refine wi_bipush (n := 11) (nx := 28) (r1 := 0) (r2 := 0) (r3 := 0) rfl (by decide) ?_
    refine wr_V (k0 := 1) (rest := []) (as := [.ref 1, vi 0, vi 11]) (nx := 31) (r1 := 103) (r2 := 2) (r3 := 1) rfl rfl rfl (of_decide_eq_true rfl) rfl rfl (by decide) rfl rfl (of_decide_eq_true rfl) (of_decide_eq_true rfl) ?_
    have e13 : h10 1 4 = h 1 4 := (u10 1 4 rfl)
    have tb15 := BufC.fr u10 rfl xq0
    refine ct_103_1 hcr  g10 0 11 (by omega) (by omega) (show (h10 1 4) = (tk_nx tB tn tp) by omega) (show 0 ≤ (tk_nx tB tn tp) by omega) (show (tk_nx tB tn tp) ≤ tn by omega) tb15 (fun h12 z14 g12 u12 (fz14 : 0 ≤ z14 ∧ z14 ≤ 1) (p12_0 : (z14 = 1 ∧ tk_kd tB tn (tk_nx tB tn tp) = 2 ∧ 0 ≤ tk_nb tB tn (tk_nx tB tn tp) ∧ tk_nb tB tn (tk_nx tB tn tp) ≤ 11 ∧ (h12 1 4) = tk_nx tB tn (tk_nx tB tn tp) ∧ (h12 1 7) = tk_nb tB tn (tk_nx tB tn tp) ∧ (h12 1 2) = (h10 1 2) ∧ (h12 1 3) = (h10 1 3)) ∨ (z14 = 0 ∧ (h12 1 3) = tk_st tB tn (tk_nx tB tn tp) ∧ ((tk_kd tB tn (tk_nx tB tn tp) ≠ 2 ∧ (h12 1 2) = 1) ∨ (tk_kd tB tn (tk_nx tB tn tp) = 2 ∧ (tk_nb tB tn (tk_nx tB tn tp) < 0 ∨ 11 < tk_nb tB tn (tk_nx tB tn tp)) ∧ (h12 1 2) = 2)))) => ?_)
    have F16 := F11.then (by decide +kernel) u12
    have e17 : h10 1 2 = h 1 2 := (u10 1 2 rfl)
    have e18 : h10 1 3 = h 1 3 := (u10 1 3 rfl)
    have b19 := gi_b (lo := 0) (hi := 800) g12 1 4 rfl
    have b20 := gi_b (lo := -2147483648) (hi := 2147483647) g12 1 7 rfl
    have b21 := gi_b (lo := -2147483648) (hi := 2147483647) g12 1 2 rfl
    have b22 := gi_b (lo := -2147483648) (hi := 2147483647) g12 1 3 rfl
    have tN23 := @tk_nx_b tB tn (tk_nx tB tn tp) (by omega) (by omega)
    refine wk_i ?_
    refine wi_if (cd := .ne) (nx := 34) (r1 := 36) (r2 := 0) (r3 := 0) rfl (by omega) (fun (q24 : z14 ≠ 0) => ?_) (fun (q24 : ¬ (z14 ≠ 0)) => ?_)
    ·
      refine wi_aload_n (i := 0) (x := 10) (nx := 37) (r1 := 0) (r2 := 0) (r3 := 0) rfl rfl ?_
      refine wr_gr (k0 := 10) (x := 11) (nx := 40) (r1 := 3) (r2 := 0) (r3 := 0) rfl rfl (by decide) rfl ⟨rfl, rfl⟩ rfl ?_
      refine wi_aload_n (i := 0) (x := 10) (nx := 41) (r1 := 0) (r2 := 0) (r3 := 0) rfl rfl ?_
      refine wr_gr (k0 := 10) (x := 1) (nx := 44) (r1 := 3) (r2 := 1) (r3 := 0) rfl rfl (by decide) rfl ⟨rfl, rfl⟩ rfl ?_
      refine wr_gi0 (k0 := 1) (x := h12 1 7) (nx := 47) (r1 := 1) (r2 := 7) (r3 := 0) rfl rfl (by decide) rfl ⟨rfl, rfl⟩ rfl rfl ?_
      refine wr_pf0 (k0 := 11) (x := h12 1 7) (bl := -2147483648) (bh := 2147483647) (nx := 50) (r1 := 2) (r2 := 9) (r3 := 0) rfl (by decide) rfl ⟨rfl, rfl⟩ rfl rfl g12 rfl (by omega) (fun h25 g25 w25 u25 => ?_)
      have F26 := F16.then rfl u25
      refine wi_iconst (n := 1) (nx := 51) (r1 := 0) (r2 := 0) (r3 := 0) rfl ?_
      refine wi_zreturn (nx := 52) (r1 := 0) (r2 := 0) (r3 := 0) rfl rfl (by omega) ?_
      have e27 : h25 11 0 = h 11 0 := ((u25 11 0 rfl).trans ((u12 11 0 rfl).trans (u10 11 0 rfl)))
      have e28 : h25 11 1 = h 11 1 := ((u25 11 1 rfl).trans ((u12 11 1 rfl).trans (u10 11 1 rfl)))
      have e29 : h25 11 2 = h 11 2 := ((u25 11 2 rfl).trans ((u12 11 2 rfl).trans (u10 11 2 rfl)))
      have b30 := gi_b (lo := -2147483648) (hi := 2147483647) g 11 3 rfl
      have e31 : h25 11 3 = h 11 3 := ((u25 11 3 rfl).trans ((u12 11 3 rfl).trans (u10 11 3 rfl)))
      have b32 := gi_b (lo := -2147483648) (hi := 2147483647) g 11 4 rfl
      have e33 : h25 11 4 = h 11 4 := ((u25 11 4 rfl).trans ((u12 11 4 rfl).trans (u10 11 4 rfl)))
      have b34 := gi_b (lo := -2147483648) (hi := 2147483647) g 11 5 rfl
      have e35 : h25 11 5 = h 11 5 := ((u25 11 5 rfl).trans ((u12 11 5 rfl).trans (u10 11 5 rfl)))
      have b36 := gi_b (lo := -2147483648) (hi := 2147483647) g 11 6 rfl
      have e37 : h25 11 6 = h 11 6 := ((u25 11 6 rfl).trans ((u12 11 6 rfl).trans (u10 11 6 rfl)))
      have b38 := gi_b (lo := -2147483648) (hi := 2147483647) g 11 7 rfl
      have e39 : h25 11 7 = h 11 7 := ((u25 11 7 rfl).trans ((u12 11 7 rfl).trans (u10 11 7 rfl)))
      have b40 := gi_b (lo := -2147483648) (hi := 2147483647) g 11 8 rfl
      have e41 : h25 11 8 = h 11 8 := ((u25 11 8 rfl).trans ((u12 11 8 rfl).trans (u10 11 8 rfl)))
      have e42 : h25 11 9 = h12 1 7 := w25
      have e43 : h25 1 2 = h12 1 2 := (u25 1 2 rfl)
      have e44 : h25 1 3 = h12 1 3 := (u25 1 3 rfl)
      have e45 : h25 1 4 = h12 1 4 := (u25 1 4 rfl)
      have b46 := gi_b (lo := 0) (hi := 1) g 10 2 rfl
      have e47 : h25 10 2 = h 10 2 := ((u25 10 2 rfl).trans ((u12 10 2 rfl).trans (u10 10 2 rfl)))
      have b48 := gi_b (lo := 0) (hi := 1) g 10 3 rfl
      have e49 : h25 10 3 = h 10 3 := ((u25 10 3 rfl).trans ((u12 10 3 rfl).trans (u10 10 3 rfl)))
      have b50 := gi_b (lo := 0) (hi := 1) g 10 4 rfl
      have e51 : h25 10 4 = h 10 4 := ((u25 10 4 rfl).trans ((u12 10 4 rfl).trans (u10 10 4 rfl)))
      have e52 : h25 10 5 = 1 := ((u25 10 5 rfl).trans ((u12 10 5 rfl).trans w10))
      exact k h25 1 g25 F26 (by omega) (by unfold tk_span tk_once tk_num; (try dsimp only); (repeat (first | rw [if_pos (by omega)] | rw [if_neg (by omega)])); (repeat ((first | unfold tk_once | unfold tk_num); (try dsimp only); (repeat (first | rw [if_pos (by omega)] | rw [if_neg (by omega)])))); exact tk_Os (by omega) (by omega) (by omega) (by omega) (CVc.flag xq1 (fun j _ _ _ _ _ _ _ _ _ _ _ => (by (repeat unfold tk_u); (repeat (first | rw [if_pos (by omega)] | rw [if_neg (by omega)])))) (by omega) (by omega) (by omega) ⟨(by (repeat unfold tk_u); (repeat (first | rw [if_pos (by omega)] | rw [if_neg (by omega)])); all_goals omega), (by (repeat unfold tk_u); (repeat (first | rw [if_pos (by omega)] | rw [if_neg (by omega)])); all_goals omega), (by (repeat unfold tk_u); (repeat (first | rw [if_pos (by omega)] | rw [if_neg (by omega)])); all_goals omega), (by (repeat unfold tk_u); (repeat (first | rw [if_pos (by omega)] | rw [if_neg (by omega)])); all_goals omega), (by (repeat unfold tk_u); (repeat (first | rw [if_pos (by omega)] | rw [if_neg (by omega)])); all_goals omega), (by (repeat unfold tk_u); (repeat (first | rw [if_pos (by omega)] | rw [if_neg (by omega)])); all_goals omega), (by (repeat unfold tk_u); (repeat (first | rw [if_pos (by omega)] | rw [if_neg (by omega)])); all_goals omega)⟩ ⟨(by (repeat unfold tk_u); (repeat (first | rw [if_pos (by omega)] | rw [if_neg (by omega)])); all_goals omega), (by (repeat unfold tk_u); (repeat (first | rw [if_pos (by omega)] | rw [if_neg (by omega)])); all_goals omega), (by (repeat unfold tk_u); (repeat (first | rw [if_pos (by omega)] | rw [if_neg (by omega)])); all_goals omega), (by (repeat unfold tk_u); (repeat (first | rw [if_pos (by omega)] | rw [if_neg (by omega)])); all_goals omega)⟩ (fun i => ((u25 12 i (fn_a (by omega) fn_0)).trans ((u12 12 i (fo_nk rfl)).trans (u10 12 i (fn_a (by omega) fn_0))))) (fun i => ((u25 13 i (fn_a (by omega) fn_0)).trans ((u12 13 i (fo_nk rfl)).trans (u10 13 i (fn_a (by omega) fn_0))))) (fun i => ((u25 14 i (fn_a (by omega) fn_0)).trans ((u12 14 i (fo_nk rfl)).trans (u10 14 i (fn_a (by omega) fn_0))))) (fun i => ((u25 15 i (fn_a (by omega) fn_0)).trans ((u12 15 i (fo_nk rfl)).trans (u10 15 i (fn_a (by omega) fn_0))))) (fun i => ((u25 16 i (fn_a (by omega) fn_0)).trans ((u12 16 i (fo_nk rfl)).trans (u10 16 i (fn_a (by omega) fn_0))))) (fun i => ((u25 17 i (fn_a (by omega) fn_0)).trans ((u12 17 i (fo_nk rfl)).trans (u10 17 i (fn_a (by omega) fn_0))))) (by omega) (by omega) (by omega)))
    ·
      refine wi_iconst (n := 0) (nx := 35) (r1 := 0) (r2 := 0) (r3 := 0) rfl ?_
      refine wi_zreturn (nx := 36) (r1 := 0) (r2 := 0) (r3 := 0) rfl rfl (by omega) ?_
      have e25 : h12 11 0 = h 11 0 := ((u12 11 0 rfl).trans (u10 11 0 rfl))
      have e26 : h12 11 1 = h 11 1 := ((u12 11 1 rfl).trans (u10 11 1 rfl))
      have e27 : h12 11 2 = h 11 2 := ((u12 11 2 rfl).trans (u10 11 2 rfl))
      have b28 := gi_b (lo := -2147483648) (hi := 2147483647) g 11 3 rfl
      have e29 : h12 11 3 = h 11 3 := ((u12 11 3 rfl).trans (u10 11 3 rfl))
      have b30 := gi_b (lo := -2147483648) (hi := 2147483647) g 11 4 rfl
      have e31 : h12 11 4 = h 11 4 := ((u12 11 4 rfl).trans (u10 11 4 rfl))
      have b32 := gi_b (lo := -2147483648) (hi := 2147483647) g 11 5 rfl
      have e33 : h12 11 5 = h 11 5 := ((u12 11 5 rfl).trans (u10 11 5 rfl))
      have b34 := gi_b (lo := -2147483648) (hi := 2147483647) g 11 6 rfl
      have e35 : h12 11 6 = h 11 6 := ((u12 11 6 rfl).trans (u10 11 6 rfl))
      have b36 := gi_b (lo := -2147483648) (hi := 2147483647) g 11 7 rfl
      have e37 : h12 11 7 = h 11 7 := ((u12 11 7 rfl).trans (u10 11 7 rfl))
      have b38 := gi_b (lo := -2147483648) (hi := 2147483647) g 11 8 rfl
      have e39 : h12 11 8 = h 11 8 := ((u12 11 8 rfl).trans (u10 11 8 rfl))
      have b40 := gi_b (lo := -2147483648) (hi := 2147483647) g 11 9 rfl
      have e41 : h12 11 9 = h 11 9 := ((u12 11 9 rfl).trans (u10 11 9 rfl))
      have b42 := gi_b (lo := 0) (hi := 1) g 10 2 rfl
      have e43 : h12 10 2 = h 10 2 := ((u12 10 2 rfl).trans (u10 10 2 rfl))
      have b44 := gi_b (lo := 0) (hi := 1) g 10 3 rfl
      have e45 : h12 10 3 = h 10 3 := ((u12 10 3 rfl).trans (u10 10 3 rfl))
      have b46 := gi_b (lo := 0) (hi := 1) g 10 4 rfl
      have e47 : h12 10 4 = h 10 4 := ((u12 10 4 rfl).trans (u10 10 4 rfl))
      have e48 : h12 10 5 = 1 := ((u12 10 5 rfl).trans w10)
      exact k h12 0 g12 F16 (by omega) (by unfold tk_span tk_once tk_num; (try dsimp only); (repeat (first | rw [if_pos (by omega)] | rw [if_neg (by omega)])); (repeat ((first | unfold tk_once | unfold tk_num); (try dsimp only); (repeat (first | rw [if_pos (by omega)] | rw [if_neg (by omega)])))); first | exact tk_Oe (by omega) (by omega) (by omega) | ((repeat' split) <;> (first | exact tk_Oe (by omega) (by omega) (by omega) | (exfalso; omega))))
  ·
    refine wi_aload_n (i := 0) (x := 10) (nx := 8) (r1 := 0) (r2 := 0) (r3 := 0) rfl rfl ?_
    refine wr_gr (k0 := 10) (x := 1) (nx := 11) (r1 := 3) (r2 := 1) (r3 := 0) rfl rfl (by decide) rfl ⟨rfl, rfl⟩ rfl ?_
    refine wi_iconst (n := 3) (nx := 12) (r1 := 0) (r2 := 0) (r3 := 0) rfl ?_
    refine wr_V (k0 := 1) (rest := []) (as := [.ref 1, vi 3]) (nx := 15) (r1 := 101) (r2 := 1) (r3 := 1) rfl rfl rfl (of_decide_eq_true rfl) rfl rfl (by decide) rfl rfl (of_decide_eq_true rfl) (of_decide_eq_true rfl) ?_
    refine ct_101_1 hcr  g 3 (by omega)  (fun h10 z11 g10 u10 (fz11 : 0 ≤ z11 ∧ z11 ≤ 0) (p10_0 : z11 = 0) (p10_1 : (h10 1 2) = 3) (p10_2 : (h10 1 3) = (h 1 6)) => ?_)
    have F12 := F0.then (by decide +kernel) u10
    have b13 := gi_b (lo := -2147483648) (hi := 2147483647) g10 1 2 rfl
    have b14 := gi_b (lo := -2147483648) (hi := 2147483647) g10 1 3 rfl
    refine wk_i ?_
    refine wi_zreturn (nx := 16) (r1 := 0) (r2 := 0) (r3 := 0) rfl rfl (by omega) ?_
    have e15 : h10 11 0 = h 11 0 := (u10 11 0 rfl)
    have e16 : h10 11 1 = h 11 1 := (u10 11 1 rfl)
    have e17 : h10 11 2 = h 11 2 := (u10 11 2 rfl)
    have b18 := gi_b (lo := -2147483648) (hi := 2147483647) g 11 3 rfl
    have e19 : h10 11 3 = h 11 3 := (u10 11 3 rfl)
    have b20 := gi_b (lo := -2147483648) (hi := 2147483647) g 11 4 rfl
    have e21 : h10 11 4 = h 11 4 := (u10 11 4 rfl)
    have b22 := gi_b (lo := -2147483648) (hi := 2147483647) g 11 5 rfl
    have e23 : h10 11 5 = h 11 5 := (u10 11 5 rfl)
    have b24 := gi_b (lo := -2147483648) (hi := 2147483647) g 11 6 rfl
    have e25 : h10 11 6 = h 11 6 := (u10 11 6 rfl)
    have b26 := gi_b (lo := -2147483648) (hi := 2147483647) g 11 7 rfl
    have e27 : h10 11 7 = h 11 7 := (u10 11 7 rfl)
    have b28 := gi_b (lo := -2147483648) (hi := 2147483647) g 11 8 rfl
    have e29 : h10 11 8 = h 11 8 := (u10 11 8 rfl)
    have b30 := gi_b (lo := -2147483648) (hi := 2147483647) g 11 9 rfl
    have e31 : h10 11 9 = h 11 9 := (u10 11 9 rfl)
    have e32 : h10 1 4 = h 1 4 := (u10 1 4 rfl)
    have b33 := gi_b (lo := 0) (hi := 1) g 10 2 rfl
    have e34 : h10 10 2 = h 10 2 := (u10 10 2 rfl)
    have b35 := gi_b (lo := 0) (hi := 1) g 10 3 rfl
    have e36 : h10 10 3 = h 10 3 := (u10 10 3 rfl)
    have b37 := gi_b (lo := 0) (hi := 1) g 10 4 rfl
    have e38 : h10 10 4 = h 10 4 := (u10 10 4 rfl)
    have e39 : h10 10 5 = h 10 5 := (u10 10 5 rfl)
    exact k h10 z11 g10 F12 (by omega) (by unfold tk_span tk_once tk_num; (try dsimp only); (repeat (first | rw [if_pos (by omega)] | rw [if_neg (by omega)])); (repeat ((first | unfold tk_once | unfold tk_num); (try dsimp only); (repeat (first | rw [if_pos (by omega)] | rw [if_neg (by omega)])))); first | exact tk_Oe (by omega) (by omega) (by omega) | ((repeat' split) <;> (first | exact tk_Oe (by omega) (by omega) (by omega) | (exfalso; omega))))
-- method 118: SetupReader.readStatement()Z
set_option maxRecDepth 100000 in
set_option maxHeartbeats 100000000 in
theorem ct_118_10 {L : Nat} {xs : Nat → Int32} {d b c : Nat} {h : hp} {cr : Nat → Nat → Option Nat} {Q : hp_Q} (hcr : CR cr)  {tB : Nat → Int} {tn tp : Int} {tS : tk_S} (g : GI h)   (pp0 : h 1 4 = tk_nx tB tn tp) (pp1 : h 1 6 = tk_st tB tn tp) (pp2 : h 1 2 = 0) (pp3 : h 1 3 = -1) (pp4 : 0 ≤ tp) (pp5 : tp ≤ tn) (pp6 : tp ≤ tk_nx tB tn tp ∧ tk_nx tB tn tp ≤ tn) (pp7 : tS 0 ≤ 5 ∧ tS 1 ≤ 4 ∧ tS 2 ≤ 12) (pp8 : h 1 5 = tk_kd tB tn tp) (pp9 : tk_kd tB tn tp = 1 → h 1 9 = tk_wd (tk_lw tB tn tp)) (xq0 : BufC tB tn h) (xq1 : CVc tS h) (k : ∀ (h2 : hp) (z0 : Int) , GI h2 → FR [(12, 12, none), (13, 13, none), (14, 14, none), (15, 15, none), (16, 16, none), (17, 17, none), (1, 1, some (2, 2)), (1, 1, some (3, 3)), (1, 1, some (4, 4)), (1, 1, some (5, 5)), (1, 1, some (6, 6)), (1, 1, some (7, 7)), (1, 1, some (8, 8)), (1, 1, some (9, 9)), (10, 10, some (2, 2)), (10, 10, some (3, 3)), (10, 10, some (4, 4)), (10, 10, some (5, 5)), (11, 11, some (0, 0)), (11, 11, some (1, 1)), (11, 11, some (2, 2)), (11, 11, some (3, 3)), (11, 11, some (4, 4)), (11, 11, some (5, 5)), (11, 11, some (6, 6)), (11, 11, some (7, 7)), (11, 11, some (8, 8)), (11, 11, some (9, 9))] h h2 → (0 ≤ z0 ∧ z0 ≤ 1) → (z0 = 0 ∨ z0 = 1) → (tk_O (tk_stm tB tn tp tS) z0 h2) → Q (.inl (some (vi z0))) (hp_w h2 cr) b c) : wp (md_xa (L, xs)) (d + 5) 118 (0, [(0, .ref 10)], [], hp_w h cr, b, c) Q := by
  have F0 : FR [(12, 12, none), (13, 13, none), (14, 14, none), (15, 15, none), (16, 16, none), (17, 17, none), (1, 1, some (2, 2)), (1, 1, some (3, 3)), (1, 1, some (4, 4)), (1, 1, some (5, 5)), (1, 1, some (6, 6)), (1, 1, some (7, 7)), (1, 1, some (8, 8)), (1, 1, some (9, 9)), (10, 10, some (2, 2)), (10, 10, some (3, 3)), (10, 10, some (4, 4)), (10, 10, some (5, 5)), (11, 11, some (0, 0)), (11, 11, some (1, 1)), (11, 11, some (2, 2)), (11, 11, some (3, 3)), (11, 11, some (4, 4)), (11, 11, some (5, 5)), (11, 11, some (6, 6)), (11, 11, some (7, 7)), (11, 11, some (8, 8)), (11, 11, some (9, 9))] h h := FR.refl
  have tb_1 : h 1 1 = tn := xq0.2.1
  have tb_2 : 0 ≤ tn ∧ tn ≤ 800 := xq0.2.2
  obtain ⟨⟨cv_0, cv_1, cv_2, cv_3, cv_4, cv_5, cv_6, cv_7, cv_8, cv_9⟩, ⟨cf_2, cf_3, cf_4, cf_5⟩, -⟩ := id xq1
  have b1 := gi_b (lo := 0) (hi := 5) g 11 0 rfl
  have b2 := gi_b (lo := 0) (hi := 4) g 11 1 rfl
  have b3 := gi_b (lo := 0) (hi := 12) g 11 2 rfl
  have b4 := gi_b (lo := 0) (hi := 800) g 1 4 rfl
  have b5 := gi_b (lo := 0) (hi := 800) g 1 6 rfl
  have b6 := gi_b (lo := -2147483648) (hi := 2147483647) g 1 2 rfl
  have b7 := gi_b (lo := -2147483648) (hi := 2147483647) g 1 3 rfl
  have b8 := gi_b (lo := 0) (hi := 6) g 1 5 rfl
  have b9 := gi_b (lo := 1) (hi := 21) g 1 9 rfl
  refine wi_aload_n (i := 0) (x := 10) (nx := 1) (r1 := 0) (r2 := 0) (r3 := 0) rfl rfl ?_
  refine wr_gr (k0 := 10) (x := 1) (nx := 4) (r1 := 3) (r2 := 1) (r3 := 0) rfl rfl (by decide) rfl ⟨rfl, rfl⟩ rfl ?_
  refine wr_gi0 (k0 := 1) (x := h 1 5) (nx := 7) (r1 := 1) (r2 := 5) (r3 := 0) rfl rfl (by decide) rfl ⟨rfl, rfl⟩ rfl rfl ?_
  refine wi_iconst (n := 1) (nx := 8) (r1 := 0) (r2 := 0) (r3 := 0) rfl ?_
  refine wi_icmp (cd := .eq) (nx := 11) (r1 := 20) (r2 := 0) (r3 := 0) rfl (by omega) (by omega) (fun (q10 : (h 1 5) = 1) => ?_) (fun (q10 : ¬ ((h 1 5) = 1)) => ?_)
  ·
    refine wr_gst (v := .ref 1000023) (nx := 23) (r1 := 22) (r2 := 0) (r3 := 0) rfl rfl rfl ?_
    refine wi_aload_n (i := 0) (x := 10) (nx := 24) (r1 := 0) (r2 := 0) (r3 := 0) rfl rfl ?_
    refine wr_gr (k0 := 10) (x := 1) (nx := 27) (r1 := 3) (r2 := 1) (r3 := 0) rfl rfl (by decide) rfl ⟨rfl, rfl⟩ rfl ?_
    rcases (show h 1 9 = 1 ∨ h 1 9 = 2 ∨ h 1 9 = 3 ∨ h 1 9 = 4 ∨ h 1 9 = 5 ∨ h 1 9 = 6 ∨ h 1 9 = 7 ∨ h 1 9 = 8 ∨ h 1 9 = 9 ∨ h 1 9 = 10 ∨ h 1 9 = 11 ∨ h 1 9 = 12 ∨ h 1 9 = 13 ∨ h 1 9 = 14 ∨ h 1 9 = 15 ∨ h 1 9 = 16 ∨ h 1 9 = 17 ∨ h 1 9 = 18 ∨ h 1 9 = 19 ∨ h 1 9 = 20 ∨ h 1 9 = 21 by omega) with q11 | q11 | q11 | q11 | q11 | q11 | q11 | q11 | q11 | q11 | q11 | q11 | q11 | q11 | q11 | q11 | q11 | q11 | q11 | q11 | q11
    ·
      refine wr_gi3 (k0 := 1) (x := 1) (nx := 30) (r1 := 1) (r2 := 9) (r3 := 0) rfl rfl (by decide) rfl ⟨rfl, rfl⟩ rfl q11 ?_
      refine wr_UX (k0 := mm_XB + (1 : Int).toNat) (m := 0) (rest := [.ref 1000023]) (as := [wv 1]) (nx := 33) (r1 := 359) (r2 := 32) (r3 := 1000) rfl rfl rfl (of_decide_eq_true rfl) rfl rfl (by decide) rfl rfl (of_decide_eq_true rfl) (of_decide_eq_true rfl) ?_
      refine wi_aload_n (i := 0) (x := mm_XB + (1 : Int).toNat) (nx := 1) (r1 := 0) (r2 := 0) (r3 := 0) rfl rfl ?_
      refine wr_gx (k0 := mm_XB + (1 : Int).toNat) (v := vi 0) (nx := 4) (r1 := 4) (r2 := 0) (r3 := 1) rfl (by decide) (by decide) rfl ?_
      refine wi_ireturn (nx := 5) (r1 := 0) (r2 := 0) (r3 := 0) rfl rfl ?_
      refine wk_i ?_
      refine wr_xa (k0 := 1000023) (a := 0) (f := 0) (v := vi 1) .iaload (Or.inl ⟨rfl, rfl⟩) (nx := 34) (r1 := 0) (r2 := 0) (r3 := 0) rfl (by decide) rfl rfl (by decide) (by decide) rfl ?_
      refine wr_tsw (x := 1) 76 (nx := 42) (r1 := 0) (r2 := 0) (r3 := 0) rfl rfl ?_
      refine wi_aload_n (i := 0) (x := 10) (nx := 77) (r1 := 0) (r2 := 0) (r3 := 0) rfl rfl ?_
      refine wr_V (k0 := 10) (rest := []) (as := [.ref 10]) (nx := 80) (r1 := 119) (r2 := 0) (r3 := 3) rfl rfl rfl (of_decide_eq_true rfl) rfl rfl (by decide) rfl rfl (of_decide_eq_true rfl) (of_decide_eq_true rfl) ?_
      refine ct_119_10 hcr  g   (show (h 1 4) = tk_nx tB tn tp by omega) (show (h 1 6) = tk_st tB tn tp by omega) (show (h 1 2) = 0 by omega) (show (h 1 3) = -1 by omega) (show 0 ≤ tp by omega) (show tp ≤ tn by omega) (show tp ≤ tk_nx tB tn tp ∧ tk_nx tB tn tp ≤ tn by omega) (show tS 0 ≤ 5 ∧ tS 1 ≤ 4 ∧ tS 2 ≤ 12 by omega) xq0 xq1 (fun h12 z13 g12 u12 (fz13 : 0 ≤ z13 ∧ z13 ≤ 1) y12_0 => ?_)
      have F14 := F0.then (by decide +kernel) u12
      refine wk_i ?_
      refine wi_zreturn (nx := 81) (r1 := 0) (r2 := 0) (r3 := 0) rfl rfl (by omega) ?_
      exact k h12 z13 g12 F14 (by omega) (show z13 = 0 ∨ z13 = 1 by omega) (by unfold tk_stm; (repeat (first | rw [if_pos (by omega)] | rw [if_neg (by omega)])); exact y12_0)
    ·
      refine wr_gi3 (k0 := 1) (x := 2) (nx := 30) (r1 := 1) (r2 := 9) (r3 := 0) rfl rfl (by decide) rfl ⟨rfl, rfl⟩ rfl q11 ?_
      refine wr_UX (k0 := mm_XB + (2 : Int).toNat) (m := 0) (rest := [.ref 1000023]) (as := [wv 2]) (nx := 33) (r1 := 359) (r2 := 32) (r3 := 1000) rfl rfl rfl (of_decide_eq_true rfl) rfl rfl (by decide) rfl rfl (of_decide_eq_true rfl) (of_decide_eq_true rfl) ?_
      refine wi_aload_n (i := 0) (x := mm_XB + (2 : Int).toNat) (nx := 1) (r1 := 0) (r2 := 0) (r3 := 0) rfl rfl ?_
      refine wr_gx (k0 := mm_XB + (2 : Int).toNat) (v := vi 1) (nx := 4) (r1 := 4) (r2 := 0) (r3 := 1) rfl (by decide) (by decide) rfl ?_
      refine wi_ireturn (nx := 5) (r1 := 0) (r2 := 0) (r3 := 0) rfl rfl ?_
      refine wk_i ?_
      refine wr_xa (k0 := 1000023) (a := 1) (f := 1) (v := vi 0) .iaload (Or.inl ⟨rfl, rfl⟩) (nx := 34) (r1 := 0) (r2 := 0) (r3 := 0) rfl (by decide) rfl rfl (by decide) (by decide) rfl ?_
      refine wr_tsw (x := 0) 111 (nx := 42) (r1 := 0) (r2 := 0) (r3 := 0) rfl rfl ?_
      refine wi_aload_n (i := 0) (x := 10) (nx := 112) (r1 := 0) (r2 := 0) (r3 := 0) rfl rfl ?_
      refine wr_gr (k0 := 10) (x := 1) (nx := 115) (r1 := 3) (r2 := 1) (r3 := 0) rfl rfl (by decide) rfl ⟨rfl, rfl⟩ rfl ?_
      refine wi_iconst (n := 1) (nx := 116) (r1 := 0) (r2 := 0) (r3 := 0) rfl ?_
      refine wr_V (k0 := 1) (rest := []) (as := [.ref 1, vi 1]) (nx := 119) (r1 := 101) (r2 := 1) (r3 := 1) rfl rfl rfl (of_decide_eq_true rfl) rfl rfl (by decide) rfl rfl (of_decide_eq_true rfl) (of_decide_eq_true rfl) ?_
      refine ct_101_1 hcr  g 1 (by omega)  (fun h12 z13 g12 u12 (fz13 : 0 ≤ z13 ∧ z13 ≤ 0) (p12_0 : z13 = 0) (p12_1 : (h12 1 2) = 1) (p12_2 : (h12 1 3) = (h 1 6)) => ?_)
      have F14 := F0.then (by decide +kernel) u12
      have b15 := gi_b (lo := -2147483648) (hi := 2147483647) g12 1 2 rfl
      have b16 := gi_b (lo := -2147483648) (hi := 2147483647) g12 1 3 rfl
      refine wk_i ?_
      refine wi_zreturn (nx := 120) (r1 := 0) (r2 := 0) (r3 := 0) rfl rfl (by omega) ?_
      exact k h12 z13 g12 F14 (by omega) (show z13 = 0 ∨ z13 = 1 by omega) (by unfold tk_stm; (repeat (first | rw [if_pos (by omega)] | rw [if_neg (by omega)])); first | exact tk_Oe (by omega) (by omega) (by omega) | ((repeat' split) <;> (first | exact tk_Oe (by omega) (by omega) (by omega) | (exfalso; omega))))
    ·
      refine wr_gi3 (k0 := 1) (x := 3) (nx := 30) (r1 := 1) (r2 := 9) (r3 := 0) rfl rfl (by decide) rfl ⟨rfl, rfl⟩ rfl q11 ?_
      refine wr_UX (k0 := mm_XB + (3 : Int).toNat) (m := 0) (rest := [.ref 1000023]) (as := [wv 3]) (nx := 33) (r1 := 359) (r2 := 32) (r3 := 1000) rfl rfl rfl (of_decide_eq_true rfl) rfl rfl (by decide) rfl rfl (of_decide_eq_true rfl) (of_decide_eq_true rfl) ?_
      refine wi_aload_n (i := 0) (x := mm_XB + (3 : Int).toNat) (nx := 1) (r1 := 0) (r2 := 0) (r3 := 0) rfl rfl ?_
      refine wr_gx (k0 := mm_XB + (3 : Int).toNat) (v := vi 2) (nx := 4) (r1 := 4) (r2 := 0) (r3 := 1) rfl (by decide) (by decide) rfl ?_
      refine wi_ireturn (nx := 5) (r1 := 0) (r2 := 0) (r3 := 0) rfl rfl ?_
      refine wk_i ?_
      refine wr_xa (k0 := 1000023) (a := 2) (f := 2) (v := vi 2) .iaload (Or.inl ⟨rfl, rfl⟩) (nx := 34) (r1 := 0) (r2 := 0) (r3 := 0) rfl (by decide) rfl rfl (by decide) (by decide) rfl ?_
      refine wr_tsw (x := 2) 81 (nx := 42) (r1 := 0) (r2 := 0) (r3 := 0) rfl rfl ?_
      refine wi_aload_n (i := 0) (x := 10) (nx := 82) (r1 := 0) (r2 := 0) (r3 := 0) rfl rfl ?_
      refine wr_V (k0 := 10) (rest := []) (as := [.ref 10]) (nx := 85) (r1 := 120) (r2 := 0) (r3 := 3) rfl rfl rfl (of_decide_eq_true rfl) rfl rfl (by decide) rfl rfl (of_decide_eq_true rfl) (of_decide_eq_true rfl) ?_
      refine ct_120_10 hcr  g   (show (h 1 4) = tk_nx tB tn tp by omega) (show (h 1 6) = tk_st tB tn tp by omega) (show (h 1 2) = 0 by omega) (show (h 1 3) = -1 by omega) (show 0 ≤ tp by omega) (show tp ≤ tn by omega) (show tp ≤ tk_nx tB tn tp ∧ tk_nx tB tn tp ≤ tn by omega) (show tS 0 ≤ 5 ∧ tS 1 ≤ 4 ∧ tS 2 ≤ 12 by omega) xq0 xq1 (fun h12 z13 g12 u12 (fz13 : 0 ≤ z13 ∧ z13 ≤ 1) y12_0 => ?_)
      have F14 := F0.then (by decide +kernel) u12
      refine wk_i ?_
      refine wi_zreturn (nx := 86) (r1 := 0) (r2 := 0) (r3 := 0) rfl rfl (by omega) ?_
      exact k h12 z13 g12 F14 (by omega) (show z13 = 0 ∨ z13 = 1 by omega) (by unfold tk_stm; (repeat (first | rw [if_pos (by omega)] | rw [if_neg (by omega)])); exact y12_0)
    ·
      refine wr_gi3 (k0 := 1) (x := 4) (nx := 30) (r1 := 1) (r2 := 9) (r3 := 0) rfl rfl (by decide) rfl ⟨rfl, rfl⟩ rfl q11 ?_
      refine wr_UX (k0 := mm_XB + (4 : Int).toNat) (m := 0) (rest := [.ref 1000023]) (as := [wv 4]) (nx := 33) (r1 := 359) (r2 := 32) (r3 := 1000) rfl rfl rfl (of_decide_eq_true rfl) rfl rfl (by decide) rfl rfl (of_decide_eq_true rfl) (of_decide_eq_true rfl) ?_
      refine wi_aload_n (i := 0) (x := mm_XB + (4 : Int).toNat) (nx := 1) (r1 := 0) (r2 := 0) (r3 := 0) rfl rfl ?_
      refine wr_gx (k0 := mm_XB + (4 : Int).toNat) (v := vi 3) (nx := 4) (r1 := 4) (r2 := 0) (r3 := 1) rfl (by decide) (by decide) rfl ?_
      refine wi_ireturn (nx := 5) (r1 := 0) (r2 := 0) (r3 := 0) rfl rfl ?_
      refine wk_i ?_
      refine wr_xa (k0 := 1000023) (a := 3) (f := 3) (v := vi 3) .iaload (Or.inl ⟨rfl, rfl⟩) (nx := 34) (r1 := 0) (r2 := 0) (r3 := 0) rfl (by decide) rfl rfl (by decide) (by decide) rfl ?_
      refine wr_tsw (x := 3) 86 (nx := 42) (r1 := 0) (r2 := 0) (r3 := 0) rfl rfl ?_
      refine wi_aload_n (i := 0) (x := 10) (nx := 87) (r1 := 0) (r2 := 0) (r3 := 0) rfl rfl ?_
      refine wr_V (k0 := 10) (rest := []) (as := [.ref 10]) (nx := 90) (r1 := 121) (r2 := 0) (r3 := 3) rfl rfl rfl (of_decide_eq_true rfl) rfl rfl (by decide) rfl rfl (of_decide_eq_true rfl) (of_decide_eq_true rfl) ?_
      refine ct_121_10 hcr  g   (show (h 1 4) = tk_nx tB tn tp by omega) (show (h 1 6) = tk_st tB tn tp by omega) (show (h 1 2) = 0 by omega) (show (h 1 3) = -1 by omega) (show 0 ≤ tp by omega) (show tp ≤ tn by omega) (show tp ≤ tk_nx tB tn tp ∧ tk_nx tB tn tp ≤ tn by omega) (show tS 0 ≤ 5 ∧ tS 1 ≤ 4 ∧ tS 2 ≤ 12 by omega) xq0 xq1 (fun h12 z13 g12 u12 (fz13 : 0 ≤ z13 ∧ z13 ≤ 1) y12_0 => ?_)
      have F14 := F0.then (by decide +kernel) u12
      refine wk_i ?_
      refine wi_zreturn (nx := 91) (r1 := 0) (r2 := 0) (r3 := 0) rfl rfl (by omega) ?_
      exact k h12 z13 g12 F14 (by omega) (show z13 = 0 ∨ z13 = 1 by omega) (by unfold tk_stm; (repeat (first | rw [if_pos (by omega)] | rw [if_neg (by omega)])); exact y12_0)
    ·
      refine wr_gi3 (k0 := 1) (x := 5) (nx := 30) (r1 := 1) (r2 := 9) (r3 := 0) rfl rfl (by decide) rfl ⟨rfl, rfl⟩ rfl q11 ?_
      refine wr_UX (k0 := mm_XB + (5 : Int).toNat) (m := 0) (rest := [.ref 1000023]) (as := [wv 5]) (nx := 33) (r1 := 359) (r2 := 32) (r3 := 1000) rfl rfl rfl (of_decide_eq_true rfl) rfl rfl (by decide) rfl rfl (of_decide_eq_true rfl) (of_decide_eq_true rfl) ?_
      refine wi_aload_n (i := 0) (x := mm_XB + (5 : Int).toNat) (nx := 1) (r1 := 0) (r2 := 0) (r3 := 0) rfl rfl ?_
      refine wr_gx (k0 := mm_XB + (5 : Int).toNat) (v := vi 4) (nx := 4) (r1 := 4) (r2 := 0) (r3 := 1) rfl (by decide) (by decide) rfl ?_
      refine wi_ireturn (nx := 5) (r1 := 0) (r2 := 0) (r3 := 0) rfl rfl ?_
      refine wk_i ?_
      refine wr_xa (k0 := 1000023) (a := 4) (f := 4) (v := vi 0) .iaload (Or.inl ⟨rfl, rfl⟩) (nx := 34) (r1 := 0) (r2 := 0) (r3 := 0) rfl (by decide) rfl rfl (by decide) (by decide) rfl ?_
      refine wr_tsw (x := 0) 111 (nx := 42) (r1 := 0) (r2 := 0) (r3 := 0) rfl rfl ?_
      refine wi_aload_n (i := 0) (x := 10) (nx := 112) (r1 := 0) (r2 := 0) (r3 := 0) rfl rfl ?_
      refine wr_gr (k0 := 10) (x := 1) (nx := 115) (r1 := 3) (r2 := 1) (r3 := 0) rfl rfl (by decide) rfl ⟨rfl, rfl⟩ rfl ?_
      refine wi_iconst (n := 1) (nx := 116) (r1 := 0) (r2 := 0) (r3 := 0) rfl ?_
      refine wr_V (k0 := 1) (rest := []) (as := [.ref 1, vi 1]) (nx := 119) (r1 := 101) (r2 := 1) (r3 := 1) rfl rfl rfl (of_decide_eq_true rfl) rfl rfl (by decide) rfl rfl (of_decide_eq_true rfl) (of_decide_eq_true rfl) ?_
      refine ct_101_1 hcr  g 1 (by omega)  (fun h12 z13 g12 u12 (fz13 : 0 ≤ z13 ∧ z13 ≤ 0) (p12_0 : z13 = 0) (p12_1 : (h12 1 2) = 1) (p12_2 : (h12 1 3) = (h 1 6)) => ?_)
      have F14 := F0.then (by decide +kernel) u12
      have b15 := gi_b (lo := -2147483648) (hi := 2147483647) g12 1 2 rfl
      have b16 := gi_b (lo := -2147483648) (hi := 2147483647) g12 1 3 rfl
      refine wk_i ?_
      refine wi_zreturn (nx := 120) (r1 := 0) (r2 := 0) (r3 := 0) rfl rfl (by omega) ?_
      exact k h12 z13 g12 F14 (by omega) (show z13 = 0 ∨ z13 = 1 by omega) (by unfold tk_stm; (repeat (first | rw [if_pos (by omega)] | rw [if_neg (by omega)])); first | exact tk_Oe (by omega) (by omega) (by omega) | ((repeat' split) <;> (first | exact tk_Oe (by omega) (by omega) (by omega) | (exfalso; omega))))
    ·
      refine wr_gi3 (k0 := 1) (x := 6) (nx := 30) (r1 := 1) (r2 := 9) (r3 := 0) rfl rfl (by decide) rfl ⟨rfl, rfl⟩ rfl q11 ?_
      refine wr_UX (k0 := mm_XB + (6 : Int).toNat) (m := 0) (rest := [.ref 1000023]) (as := [wv 6]) (nx := 33) (r1 := 359) (r2 := 32) (r3 := 1000) rfl rfl rfl (of_decide_eq_true rfl) rfl rfl (by decide) rfl rfl (of_decide_eq_true rfl) (of_decide_eq_true rfl) ?_
      refine wi_aload_n (i := 0) (x := mm_XB + (6 : Int).toNat) (nx := 1) (r1 := 0) (r2 := 0) (r3 := 0) rfl rfl ?_
      refine wr_gx (k0 := mm_XB + (6 : Int).toNat) (v := vi 5) (nx := 4) (r1 := 4) (r2 := 0) (r3 := 1) rfl (by decide) (by decide) rfl ?_
      refine wi_ireturn (nx := 5) (r1 := 0) (r2 := 0) (r3 := 0) rfl rfl ?_
      refine wk_i ?_
      refine wr_xa (k0 := 1000023) (a := 5) (f := 5) (v := vi 0) .iaload (Or.inl ⟨rfl, rfl⟩) (nx := 34) (r1 := 0) (r2 := 0) (r3 := 0) rfl (by decide) rfl rfl (by decide) (by decide) rfl ?_
      refine wr_tsw (x := 0) 111 (nx := 42) (r1 := 0) (r2 := 0) (r3 := 0) rfl rfl ?_
      refine wi_aload_n (i := 0) (x := 10) (nx := 112) (r1 := 0) (r2 := 0) (r3 := 0) rfl rfl ?_
      refine wr_gr (k0 := 10) (x := 1) (nx := 115) (r1 := 3) (r2 := 1) (r3 := 0) rfl rfl (by decide) rfl ⟨rfl, rfl⟩ rfl ?_
      refine wi_iconst (n := 1) (nx := 116) (r1 := 0) (r2 := 0) (r3 := 0) rfl ?_
      refine wr_V (k0 := 1) (rest := []) (as := [.ref 1, vi 1]) (nx := 119) (r1 := 101) (r2 := 1) (r3 := 1) rfl rfl rfl (of_decide_eq_true rfl) rfl rfl (by decide) rfl rfl (of_decide_eq_true rfl) (of_decide_eq_true rfl) ?_
      refine ct_101_1 hcr  g 1 (by omega)  (fun h12 z13 g12 u12 (fz13 : 0 ≤ z13 ∧ z13 ≤ 0) (p12_0 : z13 = 0) (p12_1 : (h12 1 2) = 1) (p12_2 : (h12 1 3) = (h 1 6)) => ?_)
      have F14 := F0.then (by decide +kernel) u12
      have b15 := gi_b (lo := -2147483648) (hi := 2147483647) g12 1 2 rfl
      have b16 := gi_b (lo := -2147483648) (hi := 2147483647) g12 1 3 rfl
      refine wk_i ?_
      refine wi_zreturn (nx := 120) (r1 := 0) (r2 := 0) (r3 := 0) rfl rfl (by omega) ?_
      exact k h12 z13 g12 F14 (by omega) (show z13 = 0 ∨ z13 = 1 by omega) (by unfold tk_stm; (repeat (first | rw [if_pos (by omega)] | rw [if_neg (by omega)])); first | exact tk_Oe (by omega) (by omega) (by omega) | ((repeat' split) <;> (first | exact tk_Oe (by omega) (by omega) (by omega) | (exfalso; omega))))
    ·
      refine wr_gi3 (k0 := 1) (x := 7) (nx := 30) (r1 := 1) (r2 := 9) (r3 := 0) rfl rfl (by decide) rfl ⟨rfl, rfl⟩ rfl q11 ?_
      refine wr_UX (k0 := mm_XB + (7 : Int).toNat) (m := 0) (rest := [.ref 1000023]) (as := [wv 7]) (nx := 33) (r1 := 359) (r2 := 32) (r3 := 1000) rfl rfl rfl (of_decide_eq_true rfl) rfl rfl (by decide) rfl rfl (of_decide_eq_true rfl) (of_decide_eq_true rfl) ?_
      refine wi_aload_n (i := 0) (x := mm_XB + (7 : Int).toNat) (nx := 1) (r1 := 0) (r2 := 0) (r3 := 0) rfl rfl ?_
      refine wr_gx (k0 := mm_XB + (7 : Int).toNat) (v := vi 6) (nx := 4) (r1 := 4) (r2 := 0) (r3 := 1) rfl (by decide) (by decide) rfl ?_
      refine wi_ireturn (nx := 5) (r1 := 0) (r2 := 0) (r3 := 0) rfl rfl ?_
      refine wk_i ?_
      refine wr_xa (k0 := 1000023) (a := 6) (f := 6) (v := vi 4) .iaload (Or.inl ⟨rfl, rfl⟩) (nx := 34) (r1 := 0) (r2 := 0) (r3 := 0) rfl (by decide) rfl rfl (by decide) (by decide) rfl ?_
      refine wr_tsw (x := 4) 91 (nx := 42) (r1 := 0) (r2 := 0) (r3 := 0) rfl rfl ?_
      refine wi_aload_n (i := 0) (x := 10) (nx := 92) (r1 := 0) (r2 := 0) (r3 := 0) rfl rfl ?_
      refine wr_V (k0 := 10) (rest := []) (as := [.ref 10]) (nx := 95) (r1 := 122) (r2 := 0) (r3 := 3) rfl rfl rfl (of_decide_eq_true rfl) rfl rfl (by decide) rfl rfl (of_decide_eq_true rfl) (of_decide_eq_true rfl) ?_
      refine ct_122_10 hcr  g   (show (h 1 4) = tk_nx tB tn tp by omega) (show (h 1 6) = tk_st tB tn tp by omega) (show (h 1 2) = 0 by omega) (show (h 1 3) = -1 by omega) (show 0 ≤ tp by omega) (show tp ≤ tn by omega) (show tp ≤ tk_nx tB tn tp ∧ tk_nx tB tn tp ≤ tn by omega) (show tS 0 ≤ 5 ∧ tS 1 ≤ 4 ∧ tS 2 ≤ 12 by omega) xq0 xq1 (fun h12 z13 g12 u12 (fz13 : 0 ≤ z13 ∧ z13 ≤ 1) y12_0 => ?_)
      have F14 := F0.then (by decide +kernel) u12
      refine wk_i ?_
      refine wi_zreturn (nx := 96) (r1 := 0) (r2 := 0) (r3 := 0) rfl rfl (by omega) ?_
      exact k h12 z13 g12 F14 (by omega) (show z13 = 0 ∨ z13 = 1 by omega) (by unfold tk_stm; (repeat (first | rw [if_pos (by omega)] | rw [if_neg (by omega)])); exact y12_0)
    ·
      refine wr_gi3 (k0 := 1) (x := 8) (nx := 30) (r1 := 1) (r2 := 9) (r3 := 0) rfl rfl (by decide) rfl ⟨rfl, rfl⟩ rfl q11 ?_
      refine wr_UX (k0 := mm_XB + (8 : Int).toNat) (m := 0) (rest := [.ref 1000023]) (as := [wv 8]) (nx := 33) (r1 := 359) (r2 := 32) (r3 := 1000) rfl rfl rfl (of_decide_eq_true rfl) rfl rfl (by decide) rfl rfl (of_decide_eq_true rfl) (of_decide_eq_true rfl) ?_
      refine wi_aload_n (i := 0) (x := mm_XB + (8 : Int).toNat) (nx := 1) (r1 := 0) (r2 := 0) (r3 := 0) rfl rfl ?_
      refine wr_gx (k0 := mm_XB + (8 : Int).toNat) (v := vi 7) (nx := 4) (r1 := 4) (r2 := 0) (r3 := 1) rfl (by decide) (by decide) rfl ?_
      refine wi_ireturn (nx := 5) (r1 := 0) (r2 := 0) (r3 := 0) rfl rfl ?_
      refine wk_i ?_
      refine wr_xa (k0 := 1000023) (a := 7) (f := 7) (v := vi 5) .iaload (Or.inl ⟨rfl, rfl⟩) (nx := 34) (r1 := 0) (r2 := 0) (r3 := 0) rfl (by decide) rfl rfl (by decide) (by decide) rfl ?_
      refine wr_tsw (x := 5) 96 (nx := 42) (r1 := 0) (r2 := 0) (r3 := 0) rfl rfl ?_
      refine wi_aload_n (i := 0) (x := 10) (nx := 97) (r1 := 0) (r2 := 0) (r3 := 0) rfl rfl ?_
      refine wr_V (k0 := 10) (rest := []) (as := [.ref 10]) (nx := 100) (r1 := 123) (r2 := 0) (r3 := 3) rfl rfl rfl (of_decide_eq_true rfl) rfl rfl (by decide) rfl rfl (of_decide_eq_true rfl) (of_decide_eq_true rfl) ?_
      refine ct_123_10 hcr  g   (show (h 1 4) = tk_nx tB tn tp by omega) (show (h 1 6) = tk_st tB tn tp by omega) (show (h 1 2) = 0 by omega) (show (h 1 3) = -1 by omega) (show 0 ≤ tp by omega) (show tp ≤ tn by omega) (show tp ≤ tk_nx tB tn tp ∧ tk_nx tB tn tp ≤ tn by omega) (show tS 0 ≤ 5 ∧ tS 1 ≤ 4 ∧ tS 2 ≤ 12 by omega) xq0 xq1 (fun h12 z13 g12 u12 (fz13 : 0 ≤ z13 ∧ z13 ≤ 1) y12_0 => ?_)
      have F14 := F0.then (by decide +kernel) u12
      refine wk_i ?_
      refine wi_zreturn (nx := 101) (r1 := 0) (r2 := 0) (r3 := 0) rfl rfl (by omega) ?_
      exact k h12 z13 g12 F14 (by omega) (show z13 = 0 ∨ z13 = 1 by omega) (by unfold tk_stm; (repeat (first | rw [if_pos (by omega)] | rw [if_neg (by omega)])); exact y12_0)
    ·
      refine wr_gi3 (k0 := 1) (x := 9) (nx := 30) (r1 := 1) (r2 := 9) (r3 := 0) rfl rfl (by decide) rfl ⟨rfl, rfl⟩ rfl q11 ?_
      refine wr_UX (k0 := mm_XB + (9 : Int).toNat) (m := 0) (rest := [.ref 1000023]) (as := [wv 9]) (nx := 33) (r1 := 359) (r2 := 32) (r3 := 1000) rfl rfl rfl (of_decide_eq_true rfl) rfl rfl (by decide) rfl rfl (of_decide_eq_true rfl) (of_decide_eq_true rfl) ?_
      refine wi_aload_n (i := 0) (x := mm_XB + (9 : Int).toNat) (nx := 1) (r1 := 0) (r2 := 0) (r3 := 0) rfl rfl ?_
      refine wr_gx (k0 := mm_XB + (9 : Int).toNat) (v := vi 8) (nx := 4) (r1 := 4) (r2 := 0) (r3 := 1) rfl (by decide) (by decide) rfl ?_
      refine wi_ireturn (nx := 5) (r1 := 0) (r2 := 0) (r3 := 0) rfl rfl ?_
      refine wk_i ?_
      refine wr_xa (k0 := 1000023) (a := 8) (f := 8) (v := vi 0) .iaload (Or.inl ⟨rfl, rfl⟩) (nx := 34) (r1 := 0) (r2 := 0) (r3 := 0) rfl (by decide) rfl rfl (by decide) (by decide) rfl ?_
      refine wr_tsw (x := 0) 111 (nx := 42) (r1 := 0) (r2 := 0) (r3 := 0) rfl rfl ?_
      refine wi_aload_n (i := 0) (x := 10) (nx := 112) (r1 := 0) (r2 := 0) (r3 := 0) rfl rfl ?_
      refine wr_gr (k0 := 10) (x := 1) (nx := 115) (r1 := 3) (r2 := 1) (r3 := 0) rfl rfl (by decide) rfl ⟨rfl, rfl⟩ rfl ?_
      refine wi_iconst (n := 1) (nx := 116) (r1 := 0) (r2 := 0) (r3 := 0) rfl ?_
      refine wr_V (k0 := 1) (rest := []) (as := [.ref 1, vi 1]) (nx := 119) (r1 := 101) (r2 := 1) (r3 := 1) rfl rfl rfl (of_decide_eq_true rfl) rfl rfl (by decide) rfl rfl (of_decide_eq_true rfl) (of_decide_eq_true rfl) ?_
      refine ct_101_1 hcr  g 1 (by omega)  (fun h12 z13 g12 u12 (fz13 : 0 ≤ z13 ∧ z13 ≤ 0) (p12_0 : z13 = 0) (p12_1 : (h12 1 2) = 1) (p12_2 : (h12 1 3) = (h 1 6)) => ?_)
      have F14 := F0.then (by decide +kernel) u12
      have b15 := gi_b (lo := -2147483648) (hi := 2147483647) g12 1 2 rfl
      have b16 := gi_b (lo := -2147483648) (hi := 2147483647) g12 1 3 rfl
      refine wk_i ?_
      refine wi_zreturn (nx := 120) (r1 := 0) (r2 := 0) (r3 := 0) rfl rfl (by omega) ?_
      exact k h12 z13 g12 F14 (by omega) (show z13 = 0 ∨ z13 = 1 by omega) (by unfold tk_stm; (repeat (first | rw [if_pos (by omega)] | rw [if_neg (by omega)])); first | exact tk_Oe (by omega) (by omega) (by omega) | ((repeat' split) <;> (first | exact tk_Oe (by omega) (by omega) (by omega) | (exfalso; omega))))
    ·
      refine wr_gi3 (k0 := 1) (x := 10) (nx := 30) (r1 := 1) (r2 := 9) (r3 := 0) rfl rfl (by decide) rfl ⟨rfl, rfl⟩ rfl q11 ?_
      refine wr_UX (k0 := mm_XB + (10 : Int).toNat) (m := 0) (rest := [.ref 1000023]) (as := [wv 10]) (nx := 33) (r1 := 359) (r2 := 32) (r3 := 1000) rfl rfl rfl (of_decide_eq_true rfl) rfl rfl (by decide) rfl rfl (of_decide_eq_true rfl) (of_decide_eq_true rfl) ?_
      refine wi_aload_n (i := 0) (x := mm_XB + (10 : Int).toNat) (nx := 1) (r1 := 0) (r2 := 0) (r3 := 0) rfl rfl ?_
      refine wr_gx (k0 := mm_XB + (10 : Int).toNat) (v := vi 9) (nx := 4) (r1 := 4) (r2 := 0) (r3 := 1) rfl (by decide) (by decide) rfl ?_
      refine wi_ireturn (nx := 5) (r1 := 0) (r2 := 0) (r3 := 0) rfl rfl ?_
      refine wk_i ?_
      refine wr_xa (k0 := 1000023) (a := 9) (f := 9) (v := vi 6) .iaload (Or.inl ⟨rfl, rfl⟩) (nx := 34) (r1 := 0) (r2 := 0) (r3 := 0) rfl (by decide) rfl rfl (by decide) (by decide) rfl ?_
      refine wr_tsw (x := 6) 101 (nx := 42) (r1 := 0) (r2 := 0) (r3 := 0) rfl rfl ?_
      refine wi_aload_n (i := 0) (x := 10) (nx := 102) (r1 := 0) (r2 := 0) (r3 := 0) rfl rfl ?_
      refine wr_V (k0 := 10) (rest := []) (as := [.ref 10]) (nx := 105) (r1 := 124) (r2 := 0) (r3 := 3) rfl rfl rfl (of_decide_eq_true rfl) rfl rfl (by decide) rfl rfl (of_decide_eq_true rfl) (of_decide_eq_true rfl) ?_
      refine ct_124_10 hcr  g   (show (h 1 4) = tk_nx tB tn tp by omega) (show (h 1 6) = tk_st tB tn tp by omega) (show (h 1 2) = 0 by omega) (show (h 1 3) = -1 by omega) (show 0 ≤ tp by omega) (show tp ≤ tn by omega) (show tp ≤ tk_nx tB tn tp ∧ tk_nx tB tn tp ≤ tn by omega) (show tS 0 ≤ 5 ∧ tS 1 ≤ 4 ∧ tS 2 ≤ 12 by omega) xq0 xq1 (fun h12 z13 g12 u12 (fz13 : 0 ≤ z13 ∧ z13 ≤ 1) y12_0 => ?_)
      have F14 := F0.then (by decide +kernel) u12
      refine wk_i ?_
      refine wi_zreturn (nx := 106) (r1 := 0) (r2 := 0) (r3 := 0) rfl rfl (by omega) ?_
      exact k h12 z13 g12 F14 (by omega) (show z13 = 0 ∨ z13 = 1 by omega) (by unfold tk_stm; (repeat (first | rw [if_pos (by omega)] | rw [if_neg (by omega)])); exact y12_0)
    ·
      refine wr_gi3 (k0 := 1) (x := 11) (nx := 30) (r1 := 1) (r2 := 9) (r3 := 0) rfl rfl (by decide) rfl ⟨rfl, rfl⟩ rfl q11 ?_
      refine wr_UX (k0 := mm_XB + (11 : Int).toNat) (m := 0) (rest := [.ref 1000023]) (as := [wv 11]) (nx := 33) (r1 := 359) (r2 := 32) (r3 := 1000) rfl rfl rfl (of_decide_eq_true rfl) rfl rfl (by decide) rfl rfl (of_decide_eq_true rfl) (of_decide_eq_true rfl) ?_
      refine wi_aload_n (i := 0) (x := mm_XB + (11 : Int).toNat) (nx := 1) (r1 := 0) (r2 := 0) (r3 := 0) rfl rfl ?_
      refine wr_gx (k0 := mm_XB + (11 : Int).toNat) (v := vi 10) (nx := 4) (r1 := 4) (r2 := 0) (r3 := 1) rfl (by decide) (by decide) rfl ?_
      refine wi_ireturn (nx := 5) (r1 := 0) (r2 := 0) (r3 := 0) rfl rfl ?_
      refine wk_i ?_
      refine wr_xa (k0 := 1000023) (a := 10) (f := 10) (v := vi 0) .iaload (Or.inl ⟨rfl, rfl⟩) (nx := 34) (r1 := 0) (r2 := 0) (r3 := 0) rfl (by decide) rfl rfl (by decide) (by decide) rfl ?_
      refine wr_tsw (x := 0) 111 (nx := 42) (r1 := 0) (r2 := 0) (r3 := 0) rfl rfl ?_
      refine wi_aload_n (i := 0) (x := 10) (nx := 112) (r1 := 0) (r2 := 0) (r3 := 0) rfl rfl ?_
      refine wr_gr (k0 := 10) (x := 1) (nx := 115) (r1 := 3) (r2 := 1) (r3 := 0) rfl rfl (by decide) rfl ⟨rfl, rfl⟩ rfl ?_
      refine wi_iconst (n := 1) (nx := 116) (r1 := 0) (r2 := 0) (r3 := 0) rfl ?_
      refine wr_V (k0 := 1) (rest := []) (as := [.ref 1, vi 1]) (nx := 119) (r1 := 101) (r2 := 1) (r3 := 1) rfl rfl rfl (of_decide_eq_true rfl) rfl rfl (by decide) rfl rfl (of_decide_eq_true rfl) (of_decide_eq_true rfl) ?_
      refine ct_101_1 hcr  g 1 (by omega)  (fun h12 z13 g12 u12 (fz13 : 0 ≤ z13 ∧ z13 ≤ 0) (p12_0 : z13 = 0) (p12_1 : (h12 1 2) = 1) (p12_2 : (h12 1 3) = (h 1 6)) => ?_)
      have F14 := F0.then (by decide +kernel) u12
      have b15 := gi_b (lo := -2147483648) (hi := 2147483647) g12 1 2 rfl
      have b16 := gi_b (lo := -2147483648) (hi := 2147483647) g12 1 3 rfl
      refine wk_i ?_
      refine wi_zreturn (nx := 120) (r1 := 0) (r2 := 0) (r3 := 0) rfl rfl (by omega) ?_
      exact k h12 z13 g12 F14 (by omega) (show z13 = 0 ∨ z13 = 1 by omega) (by unfold tk_stm; (repeat (first | rw [if_pos (by omega)] | rw [if_neg (by omega)])); first | exact tk_Oe (by omega) (by omega) (by omega) | ((repeat' split) <;> (first | exact tk_Oe (by omega) (by omega) (by omega) | (exfalso; omega))))
    ·
      refine wr_gi3 (k0 := 1) (x := 12) (nx := 30) (r1 := 1) (r2 := 9) (r3 := 0) rfl rfl (by decide) rfl ⟨rfl, rfl⟩ rfl q11 ?_
      refine wr_UX (k0 := mm_XB + (12 : Int).toNat) (m := 0) (rest := [.ref 1000023]) (as := [wv 12]) (nx := 33) (r1 := 359) (r2 := 32) (r3 := 1000) rfl rfl rfl (of_decide_eq_true rfl) rfl rfl (by decide) rfl rfl (of_decide_eq_true rfl) (of_decide_eq_true rfl) ?_
      refine wi_aload_n (i := 0) (x := mm_XB + (12 : Int).toNat) (nx := 1) (r1 := 0) (r2 := 0) (r3 := 0) rfl rfl ?_
      refine wr_gx (k0 := mm_XB + (12 : Int).toNat) (v := vi 11) (nx := 4) (r1 := 4) (r2 := 0) (r3 := 1) rfl (by decide) (by decide) rfl ?_
      refine wi_ireturn (nx := 5) (r1 := 0) (r2 := 0) (r3 := 0) rfl rfl ?_
      refine wk_i ?_
      refine wr_xa (k0 := 1000023) (a := 11) (f := 11) (v := vi 7) .iaload (Or.inl ⟨rfl, rfl⟩) (nx := 34) (r1 := 0) (r2 := 0) (r3 := 0) rfl (by decide) rfl rfl (by decide) (by decide) rfl ?_
      refine wr_tsw (x := 7) 106 (nx := 42) (r1 := 0) (r2 := 0) (r3 := 0) rfl rfl ?_
      refine wi_aload_n (i := 0) (x := 10) (nx := 107) (r1 := 0) (r2 := 0) (r3 := 0) rfl rfl ?_
      refine wr_V (k0 := 10) (rest := []) (as := [.ref 10]) (nx := 110) (r1 := 125) (r2 := 0) (r3 := 3) rfl rfl rfl (of_decide_eq_true rfl) rfl rfl (by decide) rfl rfl (of_decide_eq_true rfl) (of_decide_eq_true rfl) ?_
      refine ct_125_10 hcr  g   (show (h 1 4) = tk_nx tB tn tp by omega) (show (h 1 6) = tk_st tB tn tp by omega) (show (h 1 2) = 0 by omega) (show (h 1 3) = -1 by omega) (show 0 ≤ tp by omega) (show tp ≤ tn by omega) (show tp ≤ tk_nx tB tn tp ∧ tk_nx tB tn tp ≤ tn by omega) (show tS 0 ≤ 5 ∧ tS 1 ≤ 4 ∧ tS 2 ≤ 12 by omega) xq0 xq1 (fun h12 z13 g12 u12 (fz13 : 0 ≤ z13 ∧ z13 ≤ 1) y12_0 => ?_)
      have F14 := F0.then (by decide +kernel) u12
      refine wk_i ?_
      refine wi_zreturn (nx := 111) (r1 := 0) (r2 := 0) (r3 := 0) rfl rfl (by omega) ?_
      exact k h12 z13 g12 F14 (by omega) (show z13 = 0 ∨ z13 = 1 by omega) (by unfold tk_stm; (repeat (first | rw [if_pos (by omega)] | rw [if_neg (by omega)])); exact y12_0)
    ·
      refine wr_gi3 (k0 := 1) (x := 13) (nx := 30) (r1 := 1) (r2 := 9) (r3 := 0) rfl rfl (by decide) rfl ⟨rfl, rfl⟩ rfl q11 ?_
      refine wr_UX (k0 := mm_XB + (13 : Int).toNat) (m := 0) (rest := [.ref 1000023]) (as := [wv 13]) (nx := 33) (r1 := 359) (r2 := 32) (r3 := 1000) rfl rfl rfl (of_decide_eq_true rfl) rfl rfl (by decide) rfl rfl (of_decide_eq_true rfl) (of_decide_eq_true rfl) ?_
      refine wi_aload_n (i := 0) (x := mm_XB + (13 : Int).toNat) (nx := 1) (r1 := 0) (r2 := 0) (r3 := 0) rfl rfl ?_
      refine wr_gx (k0 := mm_XB + (13 : Int).toNat) (v := vi 12) (nx := 4) (r1 := 4) (r2 := 0) (r3 := 1) rfl (by decide) (by decide) rfl ?_
      refine wi_ireturn (nx := 5) (r1 := 0) (r2 := 0) (r3 := 0) rfl rfl ?_
      refine wk_i ?_
      refine wr_xa (k0 := 1000023) (a := 12) (f := 12) (v := vi 8) .iaload (Or.inl ⟨rfl, rfl⟩) (nx := 34) (r1 := 0) (r2 := 0) (r3 := 0) rfl (by decide) rfl rfl (by decide) (by decide) rfl ?_
      refine wr_tsw (x := 8) 111 (nx := 42) (r1 := 0) (r2 := 0) (r3 := 0) rfl rfl ?_
      refine wi_aload_n (i := 0) (x := 10) (nx := 112) (r1 := 0) (r2 := 0) (r3 := 0) rfl rfl ?_
      refine wr_gr (k0 := 10) (x := 1) (nx := 115) (r1 := 3) (r2 := 1) (r3 := 0) rfl rfl (by decide) rfl ⟨rfl, rfl⟩ rfl ?_
      refine wi_iconst (n := 1) (nx := 116) (r1 := 0) (r2 := 0) (r3 := 0) rfl ?_
      refine wr_V (k0 := 1) (rest := []) (as := [.ref 1, vi 1]) (nx := 119) (r1 := 101) (r2 := 1) (r3 := 1) rfl rfl rfl (of_decide_eq_true rfl) rfl rfl (by decide) rfl rfl (of_decide_eq_true rfl) (of_decide_eq_true rfl) ?_
      refine ct_101_1 hcr  g 1 (by omega)  (fun h12 z13 g12 u12 (fz13 : 0 ≤ z13 ∧ z13 ≤ 0) (p12_0 : z13 = 0) (p12_1 : (h12 1 2) = 1) (p12_2 : (h12 1 3) = (h 1 6)) => ?_)
      have F14 := F0.then (by decide +kernel) u12
      have b15 := gi_b (lo := -2147483648) (hi := 2147483647) g12 1 2 rfl
      have b16 := gi_b (lo := -2147483648) (hi := 2147483647) g12 1 3 rfl
      refine wk_i ?_
      refine wi_zreturn (nx := 120) (r1 := 0) (r2 := 0) (r3 := 0) rfl rfl (by omega) ?_
      exact k h12 z13 g12 F14 (by omega) (show z13 = 0 ∨ z13 = 1 by omega) (by unfold tk_stm; (repeat (first | rw [if_pos (by omega)] | rw [if_neg (by omega)])); first | exact tk_Oe (by omega) (by omega) (by omega) | ((repeat' split) <;> (first | exact tk_Oe (by omega) (by omega) (by omega) | (exfalso; omega))))
    ·
      refine wr_gi3 (k0 := 1) (x := 14) (nx := 30) (r1 := 1) (r2 := 9) (r3 := 0) rfl rfl (by decide) rfl ⟨rfl, rfl⟩ rfl q11 ?_
      refine wr_UX (k0 := mm_XB + (14 : Int).toNat) (m := 0) (rest := [.ref 1000023]) (as := [wv 14]) (nx := 33) (r1 := 359) (r2 := 32) (r3 := 1000) rfl rfl rfl (of_decide_eq_true rfl) rfl rfl (by decide) rfl rfl (of_decide_eq_true rfl) (of_decide_eq_true rfl) ?_
      refine wi_aload_n (i := 0) (x := mm_XB + (14 : Int).toNat) (nx := 1) (r1 := 0) (r2 := 0) (r3 := 0) rfl rfl ?_
      refine wr_gx (k0 := mm_XB + (14 : Int).toNat) (v := vi 13) (nx := 4) (r1 := 4) (r2 := 0) (r3 := 1) rfl (by decide) (by decide) rfl ?_
      refine wi_ireturn (nx := 5) (r1 := 0) (r2 := 0) (r3 := 0) rfl rfl ?_
      refine wk_i ?_
      refine wr_xa (k0 := 1000023) (a := 13) (f := 13) (v := vi 9) .iaload (Or.inl ⟨rfl, rfl⟩) (nx := 34) (r1 := 0) (r2 := 0) (r3 := 0) rfl (by decide) rfl rfl (by decide) (by decide) rfl ?_
      refine wr_tsw (x := 9) 111 (nx := 42) (r1 := 0) (r2 := 0) (r3 := 0) rfl rfl ?_
      refine wi_aload_n (i := 0) (x := 10) (nx := 112) (r1 := 0) (r2 := 0) (r3 := 0) rfl rfl ?_
      refine wr_gr (k0 := 10) (x := 1) (nx := 115) (r1 := 3) (r2 := 1) (r3 := 0) rfl rfl (by decide) rfl ⟨rfl, rfl⟩ rfl ?_
      refine wi_iconst (n := 1) (nx := 116) (r1 := 0) (r2 := 0) (r3 := 0) rfl ?_
      refine wr_V (k0 := 1) (rest := []) (as := [.ref 1, vi 1]) (nx := 119) (r1 := 101) (r2 := 1) (r3 := 1) rfl rfl rfl (of_decide_eq_true rfl) rfl rfl (by decide) rfl rfl (of_decide_eq_true rfl) (of_decide_eq_true rfl) ?_
      refine ct_101_1 hcr  g 1 (by omega)  (fun h12 z13 g12 u12 (fz13 : 0 ≤ z13 ∧ z13 ≤ 0) (p12_0 : z13 = 0) (p12_1 : (h12 1 2) = 1) (p12_2 : (h12 1 3) = (h 1 6)) => ?_)
      have F14 := F0.then (by decide +kernel) u12
      have b15 := gi_b (lo := -2147483648) (hi := 2147483647) g12 1 2 rfl
      have b16 := gi_b (lo := -2147483648) (hi := 2147483647) g12 1 3 rfl
      refine wk_i ?_
      refine wi_zreturn (nx := 120) (r1 := 0) (r2 := 0) (r3 := 0) rfl rfl (by omega) ?_
      exact k h12 z13 g12 F14 (by omega) (show z13 = 0 ∨ z13 = 1 by omega) (by unfold tk_stm; (repeat (first | rw [if_pos (by omega)] | rw [if_neg (by omega)])); first | exact tk_Oe (by omega) (by omega) (by omega) | ((repeat' split) <;> (first | exact tk_Oe (by omega) (by omega) (by omega) | (exfalso; omega))))
    ·
      refine wr_gi3 (k0 := 1) (x := 15) (nx := 30) (r1 := 1) (r2 := 9) (r3 := 0) rfl rfl (by decide) rfl ⟨rfl, rfl⟩ rfl q11 ?_
      refine wr_UX (k0 := mm_XB + (15 : Int).toNat) (m := 0) (rest := [.ref 1000023]) (as := [wv 15]) (nx := 33) (r1 := 359) (r2 := 32) (r3 := 1000) rfl rfl rfl (of_decide_eq_true rfl) rfl rfl (by decide) rfl rfl (of_decide_eq_true rfl) (of_decide_eq_true rfl) ?_
      refine wi_aload_n (i := 0) (x := mm_XB + (15 : Int).toNat) (nx := 1) (r1 := 0) (r2 := 0) (r3 := 0) rfl rfl ?_
      refine wr_gx (k0 := mm_XB + (15 : Int).toNat) (v := vi 14) (nx := 4) (r1 := 4) (r2 := 0) (r3 := 1) rfl (by decide) (by decide) rfl ?_
      refine wi_ireturn (nx := 5) (r1 := 0) (r2 := 0) (r3 := 0) rfl rfl ?_
      refine wk_i ?_
      refine wr_xa (k0 := 1000023) (a := 14) (f := 14) (v := vi 10) .iaload (Or.inl ⟨rfl, rfl⟩) (nx := 34) (r1 := 0) (r2 := 0) (r3 := 0) rfl (by decide) rfl rfl (by decide) (by decide) rfl ?_
      refine wr_tsw (x := 10) 111 (nx := 42) (r1 := 0) (r2 := 0) (r3 := 0) rfl rfl ?_
      refine wi_aload_n (i := 0) (x := 10) (nx := 112) (r1 := 0) (r2 := 0) (r3 := 0) rfl rfl ?_
      refine wr_gr (k0 := 10) (x := 1) (nx := 115) (r1 := 3) (r2 := 1) (r3 := 0) rfl rfl (by decide) rfl ⟨rfl, rfl⟩ rfl ?_
      refine wi_iconst (n := 1) (nx := 116) (r1 := 0) (r2 := 0) (r3 := 0) rfl ?_
      refine wr_V (k0 := 1) (rest := []) (as := [.ref 1, vi 1]) (nx := 119) (r1 := 101) (r2 := 1) (r3 := 1) rfl rfl rfl (of_decide_eq_true rfl) rfl rfl (by decide) rfl rfl (of_decide_eq_true rfl) (of_decide_eq_true rfl) ?_
      refine ct_101_1 hcr  g 1 (by omega)  (fun h12 z13 g12 u12 (fz13 : 0 ≤ z13 ∧ z13 ≤ 0) (p12_0 : z13 = 0) (p12_1 : (h12 1 2) = 1) (p12_2 : (h12 1 3) = (h 1 6)) => ?_)
      have F14 := F0.then (by decide +kernel) u12
      have b15 := gi_b (lo := -2147483648) (hi := 2147483647) g12 1 2 rfl
      have b16 := gi_b (lo := -2147483648) (hi := 2147483647) g12 1 3 rfl
      refine wk_i ?_
      refine wi_zreturn (nx := 120) (r1 := 0) (r2 := 0) (r3 := 0) rfl rfl (by omega) ?_
      exact k h12 z13 g12 F14 (by omega) (show z13 = 0 ∨ z13 = 1 by omega) (by unfold tk_stm; (repeat (first | rw [if_pos (by omega)] | rw [if_neg (by omega)])); first | exact tk_Oe (by omega) (by omega) (by omega) | ((repeat' split) <;> (first | exact tk_Oe (by omega) (by omega) (by omega) | (exfalso; omega))))
    ·
      refine wr_gi3 (k0 := 1) (x := 16) (nx := 30) (r1 := 1) (r2 := 9) (r3 := 0) rfl rfl (by decide) rfl ⟨rfl, rfl⟩ rfl q11 ?_
      refine wr_UX (k0 := mm_XB + (16 : Int).toNat) (m := 0) (rest := [.ref 1000023]) (as := [wv 16]) (nx := 33) (r1 := 359) (r2 := 32) (r3 := 1000) rfl rfl rfl (of_decide_eq_true rfl) rfl rfl (by decide) rfl rfl (of_decide_eq_true rfl) (of_decide_eq_true rfl) ?_
      refine wi_aload_n (i := 0) (x := mm_XB + (16 : Int).toNat) (nx := 1) (r1 := 0) (r2 := 0) (r3 := 0) rfl rfl ?_
      refine wr_gx (k0 := mm_XB + (16 : Int).toNat) (v := vi 15) (nx := 4) (r1 := 4) (r2 := 0) (r3 := 1) rfl (by decide) (by decide) rfl ?_
      refine wi_ireturn (nx := 5) (r1 := 0) (r2 := 0) (r3 := 0) rfl rfl ?_
      refine wk_i ?_
      refine wr_xa (k0 := 1000023) (a := 15) (f := 15) (v := vi 11) .iaload (Or.inl ⟨rfl, rfl⟩) (nx := 34) (r1 := 0) (r2 := 0) (r3 := 0) rfl (by decide) rfl rfl (by decide) (by decide) rfl ?_
      refine wr_tsw (x := 11) 111 (nx := 42) (r1 := 0) (r2 := 0) (r3 := 0) rfl rfl ?_
      refine wi_aload_n (i := 0) (x := 10) (nx := 112) (r1 := 0) (r2 := 0) (r3 := 0) rfl rfl ?_
      refine wr_gr (k0 := 10) (x := 1) (nx := 115) (r1 := 3) (r2 := 1) (r3 := 0) rfl rfl (by decide) rfl ⟨rfl, rfl⟩ rfl ?_
      refine wi_iconst (n := 1) (nx := 116) (r1 := 0) (r2 := 0) (r3 := 0) rfl ?_
      refine wr_V (k0 := 1) (rest := []) (as := [.ref 1, vi 1]) (nx := 119) (r1 := 101) (r2 := 1) (r3 := 1) rfl rfl rfl (of_decide_eq_true rfl) rfl rfl (by decide) rfl rfl (of_decide_eq_true rfl) (of_decide_eq_true rfl) ?_
      refine ct_101_1 hcr  g 1 (by omega)  (fun h12 z13 g12 u12 (fz13 : 0 ≤ z13 ∧ z13 ≤ 0) (p12_0 : z13 = 0) (p12_1 : (h12 1 2) = 1) (p12_2 : (h12 1 3) = (h 1 6)) => ?_)
      have F14 := F0.then (by decide +kernel) u12
      have b15 := gi_b (lo := -2147483648) (hi := 2147483647) g12 1 2 rfl
      have b16 := gi_b (lo := -2147483648) (hi := 2147483647) g12 1 3 rfl
      refine wk_i ?_
      refine wi_zreturn (nx := 120) (r1 := 0) (r2 := 0) (r3 := 0) rfl rfl (by omega) ?_
      exact k h12 z13 g12 F14 (by omega) (show z13 = 0 ∨ z13 = 1 by omega) (by unfold tk_stm; (repeat (first | rw [if_pos (by omega)] | rw [if_neg (by omega)])); first | exact tk_Oe (by omega) (by omega) (by omega) | ((repeat' split) <;> (first | exact tk_Oe (by omega) (by omega) (by omega) | (exfalso; omega))))
    ·
      refine wr_gi3 (k0 := 1) (x := 17) (nx := 30) (r1 := 1) (r2 := 9) (r3 := 0) rfl rfl (by decide) rfl ⟨rfl, rfl⟩ rfl q11 ?_
      refine wr_UX (k0 := mm_XB + (17 : Int).toNat) (m := 0) (rest := [.ref 1000023]) (as := [wv 17]) (nx := 33) (r1 := 359) (r2 := 32) (r3 := 1000) rfl rfl rfl (of_decide_eq_true rfl) rfl rfl (by decide) rfl rfl (of_decide_eq_true rfl) (of_decide_eq_true rfl) ?_
      refine wi_aload_n (i := 0) (x := mm_XB + (17 : Int).toNat) (nx := 1) (r1 := 0) (r2 := 0) (r3 := 0) rfl rfl ?_
      refine wr_gx (k0 := mm_XB + (17 : Int).toNat) (v := vi 16) (nx := 4) (r1 := 4) (r2 := 0) (r3 := 1) rfl (by decide) (by decide) rfl ?_
      refine wi_ireturn (nx := 5) (r1 := 0) (r2 := 0) (r3 := 0) rfl rfl ?_
      refine wk_i ?_
      refine wr_xa (k0 := 1000023) (a := 16) (f := 16) (v := vi 12) .iaload (Or.inl ⟨rfl, rfl⟩) (nx := 34) (r1 := 0) (r2 := 0) (r3 := 0) rfl (by decide) rfl rfl (by decide) (by decide) rfl ?_
      refine wr_tsw (x := 12) 111 (nx := 42) (r1 := 0) (r2 := 0) (r3 := 0) rfl rfl ?_
      refine wi_aload_n (i := 0) (x := 10) (nx := 112) (r1 := 0) (r2 := 0) (r3 := 0) rfl rfl ?_
      refine wr_gr (k0 := 10) (x := 1) (nx := 115) (r1 := 3) (r2 := 1) (r3 := 0) rfl rfl (by decide) rfl ⟨rfl, rfl⟩ rfl ?_
      refine wi_iconst (n := 1) (nx := 116) (r1 := 0) (r2 := 0) (r3 := 0) rfl ?_
      refine wr_V (k0 := 1) (rest := []) (as := [.ref 1, vi 1]) (nx := 119) (r1 := 101) (r2 := 1) (r3 := 1) rfl rfl rfl (of_decide_eq_true rfl) rfl rfl (by decide) rfl rfl (of_decide_eq_true rfl) (of_decide_eq_true rfl) ?_
      refine ct_101_1 hcr  g 1 (by omega)  (fun h12 z13 g12 u12 (fz13 : 0 ≤ z13 ∧ z13 ≤ 0) (p12_0 : z13 = 0) (p12_1 : (h12 1 2) = 1) (p12_2 : (h12 1 3) = (h 1 6)) => ?_)
      have F14 := F0.then (by decide +kernel) u12
      have b15 := gi_b (lo := -2147483648) (hi := 2147483647) g12 1 2 rfl
      have b16 := gi_b (lo := -2147483648) (hi := 2147483647) g12 1 3 rfl
      refine wk_i ?_
      refine wi_zreturn (nx := 120) (r1 := 0) (r2 := 0) (r3 := 0) rfl rfl (by omega) ?_
      exact k h12 z13 g12 F14 (by omega) (show z13 = 0 ∨ z13 = 1 by omega) (by unfold tk_stm; (repeat (first | rw [if_pos (by omega)] | rw [if_neg (by omega)])); first | exact tk_Oe (by omega) (by omega) (by omega) | ((repeat' split) <;> (first | exact tk_Oe (by omega) (by omega) (by omega) | (exfalso; omega))))
    ·
      refine wr_gi3 (k0 := 1) (x := 18) (nx := 30) (r1 := 1) (r2 := 9) (r3 := 0) rfl rfl (by decide) rfl ⟨rfl, rfl⟩ rfl q11 ?_
      refine wr_UX (k0 := mm_XB + (18 : Int).toNat) (m := 0) (rest := [.ref 1000023]) (as := [wv 18]) (nx := 33) (r1 := 359) (r2 := 32) (r3 := 1000) rfl rfl rfl (of_decide_eq_true rfl) rfl rfl (by decide) rfl rfl (of_decide_eq_true rfl) (of_decide_eq_true rfl) ?_
      refine wi_aload_n (i := 0) (x := mm_XB + (18 : Int).toNat) (nx := 1) (r1 := 0) (r2 := 0) (r3 := 0) rfl rfl ?_
      refine wr_gx (k0 := mm_XB + (18 : Int).toNat) (v := vi 17) (nx := 4) (r1 := 4) (r2 := 0) (r3 := 1) rfl (by decide) (by decide) rfl ?_
      refine wi_ireturn (nx := 5) (r1 := 0) (r2 := 0) (r3 := 0) rfl rfl ?_
      refine wk_i ?_
      refine wr_xa (k0 := 1000023) (a := 17) (f := 17) (v := vi 13) .iaload (Or.inl ⟨rfl, rfl⟩) (nx := 34) (r1 := 0) (r2 := 0) (r3 := 0) rfl (by decide) rfl rfl (by decide) (by decide) rfl ?_
      refine wr_tsw (x := 13) 111 (nx := 42) (r1 := 0) (r2 := 0) (r3 := 0) rfl rfl ?_
      refine wi_aload_n (i := 0) (x := 10) (nx := 112) (r1 := 0) (r2 := 0) (r3 := 0) rfl rfl ?_
      refine wr_gr (k0 := 10) (x := 1) (nx := 115) (r1 := 3) (r2 := 1) (r3 := 0) rfl rfl (by decide) rfl ⟨rfl, rfl⟩ rfl ?_
      refine wi_iconst (n := 1) (nx := 116) (r1 := 0) (r2 := 0) (r3 := 0) rfl ?_
      refine wr_V (k0 := 1) (rest := []) (as := [.ref 1, vi 1]) (nx := 119) (r1 := 101) (r2 := 1) (r3 := 1) rfl rfl rfl (of_decide_eq_true rfl) rfl rfl (by decide) rfl rfl (of_decide_eq_true rfl) (of_decide_eq_true rfl) ?_
      refine ct_101_1 hcr  g 1 (by omega)  (fun h12 z13 g12 u12 (fz13 : 0 ≤ z13 ∧ z13 ≤ 0) (p12_0 : z13 = 0) (p12_1 : (h12 1 2) = 1) (p12_2 : (h12 1 3) = (h 1 6)) => ?_)
      have F14 := F0.then (by decide +kernel) u12
      have b15 := gi_b (lo := -2147483648) (hi := 2147483647) g12 1 2 rfl
      have b16 := gi_b (lo := -2147483648) (hi := 2147483647) g12 1 3 rfl
      refine wk_i ?_
      refine wi_zreturn (nx := 120) (r1 := 0) (r2 := 0) (r3 := 0) rfl rfl (by omega) ?_
      exact k h12 z13 g12 F14 (by omega) (show z13 = 0 ∨ z13 = 1 by omega) (by unfold tk_stm; (repeat (first | rw [if_pos (by omega)] | rw [if_neg (by omega)])); first | exact tk_Oe (by omega) (by omega) (by omega) | ((repeat' split) <;> (first | exact tk_Oe (by omega) (by omega) (by omega) | (exfalso; omega))))
    ·
      refine wr_gi3 (k0 := 1) (x := 19) (nx := 30) (r1 := 1) (r2 := 9) (r3 := 0) rfl rfl (by decide) rfl ⟨rfl, rfl⟩ rfl q11 ?_
      refine wr_UX (k0 := mm_XB + (19 : Int).toNat) (m := 0) (rest := [.ref 1000023]) (as := [wv 19]) (nx := 33) (r1 := 359) (r2 := 32) (r3 := 1000) rfl rfl rfl (of_decide_eq_true rfl) rfl rfl (by decide) rfl rfl (of_decide_eq_true rfl) (of_decide_eq_true rfl) ?_
      refine wi_aload_n (i := 0) (x := mm_XB + (19 : Int).toNat) (nx := 1) (r1 := 0) (r2 := 0) (r3 := 0) rfl rfl ?_
      refine wr_gx (k0 := mm_XB + (19 : Int).toNat) (v := vi 18) (nx := 4) (r1 := 4) (r2 := 0) (r3 := 1) rfl (by decide) (by decide) rfl ?_
      refine wi_ireturn (nx := 5) (r1 := 0) (r2 := 0) (r3 := 0) rfl rfl ?_
      refine wk_i ?_
      refine wr_xa (k0 := 1000023) (a := 18) (f := 18) (v := vi 14) .iaload (Or.inl ⟨rfl, rfl⟩) (nx := 34) (r1 := 0) (r2 := 0) (r3 := 0) rfl (by decide) rfl rfl (by decide) (by decide) rfl ?_
      refine wr_tsw (x := 14) 111 (nx := 42) (r1 := 0) (r2 := 0) (r3 := 0) rfl rfl ?_
      refine wi_aload_n (i := 0) (x := 10) (nx := 112) (r1 := 0) (r2 := 0) (r3 := 0) rfl rfl ?_
      refine wr_gr (k0 := 10) (x := 1) (nx := 115) (r1 := 3) (r2 := 1) (r3 := 0) rfl rfl (by decide) rfl ⟨rfl, rfl⟩ rfl ?_
      refine wi_iconst (n := 1) (nx := 116) (r1 := 0) (r2 := 0) (r3 := 0) rfl ?_
      refine wr_V (k0 := 1) (rest := []) (as := [.ref 1, vi 1]) (nx := 119) (r1 := 101) (r2 := 1) (r3 := 1) rfl rfl rfl (of_decide_eq_true rfl) rfl rfl (by decide) rfl rfl (of_decide_eq_true rfl) (of_decide_eq_true rfl) ?_
      refine ct_101_1 hcr  g 1 (by omega)  (fun h12 z13 g12 u12 (fz13 : 0 ≤ z13 ∧ z13 ≤ 0) (p12_0 : z13 = 0) (p12_1 : (h12 1 2) = 1) (p12_2 : (h12 1 3) = (h 1 6)) => ?_)
      have F14 := F0.then (by decide +kernel) u12
      have b15 := gi_b (lo := -2147483648) (hi := 2147483647) g12 1 2 rfl
      have b16 := gi_b (lo := -2147483648) (hi := 2147483647) g12 1 3 rfl
      refine wk_i ?_
      refine wi_zreturn (nx := 120) (r1 := 0) (r2 := 0) (r3 := 0) rfl rfl (by omega) ?_
      exact k h12 z13 g12 F14 (by omega) (show z13 = 0 ∨ z13 = 1 by omega) (by unfold tk_stm; (repeat (first | rw [if_pos (by omega)] | rw [if_neg (by omega)])); first | exact tk_Oe (by omega) (by omega) (by omega) | ((repeat' split) <;> (first | exact tk_Oe (by omega) (by omega) (by omega) | (exfalso; omega))))
    ·
      refine wr_gi3 (k0 := 1) (x := 20) (nx := 30) (r1 := 1) (r2 := 9) (r3 := 0) rfl rfl (by decide) rfl ⟨rfl, rfl⟩ rfl q11 ?_
      refine wr_UX (k0 := mm_XB + (20 : Int).toNat) (m := 0) (rest := [.ref 1000023]) (as := [wv 20]) (nx := 33) (r1 := 359) (r2 := 32) (r3 := 1000) rfl rfl rfl (of_decide_eq_true rfl) rfl rfl (by decide) rfl rfl (of_decide_eq_true rfl) (of_decide_eq_true rfl) ?_
      refine wi_aload_n (i := 0) (x := mm_XB + (20 : Int).toNat) (nx := 1) (r1 := 0) (r2 := 0) (r3 := 0) rfl rfl ?_
      refine wr_gx (k0 := mm_XB + (20 : Int).toNat) (v := vi 19) (nx := 4) (r1 := 4) (r2 := 0) (r3 := 1) rfl (by decide) (by decide) rfl ?_
      refine wi_ireturn (nx := 5) (r1 := 0) (r2 := 0) (r3 := 0) rfl rfl ?_
      refine wk_i ?_
      refine wr_xa (k0 := 1000023) (a := 19) (f := 19) (v := vi 0) .iaload (Or.inl ⟨rfl, rfl⟩) (nx := 34) (r1 := 0) (r2 := 0) (r3 := 0) rfl (by decide) rfl rfl (by decide) (by decide) rfl ?_
      refine wr_tsw (x := 0) 111 (nx := 42) (r1 := 0) (r2 := 0) (r3 := 0) rfl rfl ?_
      refine wi_aload_n (i := 0) (x := 10) (nx := 112) (r1 := 0) (r2 := 0) (r3 := 0) rfl rfl ?_
      refine wr_gr (k0 := 10) (x := 1) (nx := 115) (r1 := 3) (r2 := 1) (r3 := 0) rfl rfl (by decide) rfl ⟨rfl, rfl⟩ rfl ?_
      refine wi_iconst (n := 1) (nx := 116) (r1 := 0) (r2 := 0) (r3 := 0) rfl ?_
      refine wr_V (k0 := 1) (rest := []) (as := [.ref 1, vi 1]) (nx := 119) (r1 := 101) (r2 := 1) (r3 := 1) rfl rfl rfl (of_decide_eq_true rfl) rfl rfl (by decide) rfl rfl (of_decide_eq_true rfl) (of_decide_eq_true rfl) ?_
      refine ct_101_1 hcr  g 1 (by omega)  (fun h12 z13 g12 u12 (fz13 : 0 ≤ z13 ∧ z13 ≤ 0) (p12_0 : z13 = 0) (p12_1 : (h12 1 2) = 1) (p12_2 : (h12 1 3) = (h 1 6)) => ?_)
      have F14 := F0.then (by decide +kernel) u12
      have b15 := gi_b (lo := -2147483648) (hi := 2147483647) g12 1 2 rfl
      have b16 := gi_b (lo := -2147483648) (hi := 2147483647) g12 1 3 rfl
      refine wk_i ?_
      refine wi_zreturn (nx := 120) (r1 := 0) (r2 := 0) (r3 := 0) rfl rfl (by omega) ?_
      exact k h12 z13 g12 F14 (by omega) (show z13 = 0 ∨ z13 = 1 by omega) (by unfold tk_stm; (repeat (first | rw [if_pos (by omega)] | rw [if_neg (by omega)])); first | exact tk_Oe (by omega) (by omega) (by omega) | ((repeat' split) <;> (first | exact tk_Oe (by omega) (by omega) (by omega) | (exfalso; omega))))
    ·
      refine wr_gi3 (k0 := 1) (x := 21) (nx := 30) (r1 := 1) (r2 := 9) (r3 := 0) rfl rfl (by decide) rfl ⟨rfl, rfl⟩ rfl q11 ?_
      refine wr_UX (k0 := mm_XB + (21 : Int).toNat) (m := 0) (rest := [.ref 1000023]) (as := [wv 21]) (nx := 33) (r1 := 359) (r2 := 32) (r3 := 1000) rfl rfl rfl (of_decide_eq_true rfl) rfl rfl (by decide) rfl rfl (of_decide_eq_true rfl) (of_decide_eq_true rfl) ?_
      refine wi_aload_n (i := 0) (x := mm_XB + (21 : Int).toNat) (nx := 1) (r1 := 0) (r2 := 0) (r3 := 0) rfl rfl ?_
      refine wr_gx (k0 := mm_XB + (21 : Int).toNat) (v := vi 20) (nx := 4) (r1 := 4) (r2 := 0) (r3 := 1) rfl (by decide) (by decide) rfl ?_
      refine wi_ireturn (nx := 5) (r1 := 0) (r2 := 0) (r3 := 0) rfl rfl ?_
      refine wk_i ?_
      refine wr_xa (k0 := 1000023) (a := 20) (f := 20) (v := vi 0) .iaload (Or.inl ⟨rfl, rfl⟩) (nx := 34) (r1 := 0) (r2 := 0) (r3 := 0) rfl (by decide) rfl rfl (by decide) (by decide) rfl ?_
      refine wr_tsw (x := 0) 111 (nx := 42) (r1 := 0) (r2 := 0) (r3 := 0) rfl rfl ?_
      refine wi_aload_n (i := 0) (x := 10) (nx := 112) (r1 := 0) (r2 := 0) (r3 := 0) rfl rfl ?_
      refine wr_gr (k0 := 10) (x := 1) (nx := 115) (r1 := 3) (r2 := 1) (r3 := 0) rfl rfl (by decide) rfl ⟨rfl, rfl⟩ rfl ?_
      refine wi_iconst (n := 1) (nx := 116) (r1 := 0) (r2 := 0) (r3 := 0) rfl ?_
      refine wr_V (k0 := 1) (rest := []) (as := [.ref 1, vi 1]) (nx := 119) (r1 := 101) (r2 := 1) (r3 := 1) rfl rfl rfl (of_decide_eq_true rfl) rfl rfl (by decide) rfl rfl (of_decide_eq_true rfl) (of_decide_eq_true rfl) ?_
      refine ct_101_1 hcr  g 1 (by omega)  (fun h12 z13 g12 u12 (fz13 : 0 ≤ z13 ∧ z13 ≤ 0) (p12_0 : z13 = 0) (p12_1 : (h12 1 2) = 1) (p12_2 : (h12 1 3) = (h 1 6)) => ?_)
      have F14 := F0.then (by decide +kernel) u12
      have b15 := gi_b (lo := -2147483648) (hi := 2147483647) g12 1 2 rfl
      have b16 := gi_b (lo := -2147483648) (hi := 2147483647) g12 1 3 rfl
      refine wk_i ?_
      refine wi_zreturn (nx := 120) (r1 := 0) (r2 := 0) (r3 := 0) rfl rfl (by omega) ?_
      exact k h12 z13 g12 F14 (by omega) (show z13 = 0 ∨ z13 = 1 by omega) (by unfold tk_stm; (repeat (first | rw [if_pos (by omega)] | rw [if_neg (by omega)])); first | exact tk_Oe (by omega) (by omega) (by omega) | ((repeat' split) <;> (first | exact tk_Oe (by omega) (by omega) (by omega) | (exfalso; omega))))
  ·
    refine wi_aload_n (i := 0) (x := 10) (nx := 12) (r1 := 0) (r2 := 0) (r3 := 0) rfl rfl ?_
    refine wr_gr (k0 := 10) (x := 1) (nx := 15) (r1 := 3) (r2 := 1) (r3 := 0) rfl rfl (by decide) rfl ⟨rfl, rfl⟩ rfl ?_
    refine wi_iconst (n := 1) (nx := 16) (r1 := 0) (r2 := 0) (r3 := 0) rfl ?_
    refine wr_V (k0 := 1) (rest := []) (as := [.ref 1, vi 1]) (nx := 19) (r1 := 101) (r2 := 1) (r3 := 1) rfl rfl rfl (of_decide_eq_true rfl) rfl rfl (by decide) rfl rfl (of_decide_eq_true rfl) (of_decide_eq_true rfl) ?_
    refine ct_101_1 hcr  g 1 (by omega)  (fun h11 z12 g11 u11 (fz12 : 0 ≤ z12 ∧ z12 ≤ 0) (p11_0 : z12 = 0) (p11_1 : (h11 1 2) = 1) (p11_2 : (h11 1 3) = (h 1 6)) => ?_)
    have F13 := F0.then (by decide +kernel) u11
    have b14 := gi_b (lo := -2147483648) (hi := 2147483647) g11 1 2 rfl
    have b15 := gi_b (lo := -2147483648) (hi := 2147483647) g11 1 3 rfl
    refine wk_i ?_
    refine wi_zreturn (nx := 20) (r1 := 0) (r2 := 0) (r3 := 0) rfl rfl (by omega) ?_
    exact k h11 z12 g11 F13 (by omega) (show z12 = 0 ∨ z12 = 1 by omega) (by unfold tk_stm; (repeat (first | rw [if_pos (by omega)] | rw [if_neg (by omega)])); first | exact tk_Oe (by omega) (by omega) (by omega) | ((repeat' split) <;> (first | exact tk_Oe (by omega) (by omega) (by omega) | (exfalso; omega))))
-- method 105: Text.takeSemicolon()Z
set_option maxRecDepth 100000 in
set_option maxHeartbeats 100000000 in
theorem ct_105_1 {L : Nat} {xs : Nat → Int32} {d b c : Nat} {h : hp} {cr : Nat → Nat → Option Nat} {Q : hp_Q} (hcr : CR cr)  {tB : Nat → Int} {tn tp : Int} (g : GI h)   (pp0 : h 1 4 = tp) (pp1 : 0 ≤ tp) (pp2 : tp ≤ tn) (xq0 : BufC tB tn h) (k : ∀ (h2 : hp) (z0 : Int) , GI h2 → FR [(1, 1, some (2, 2)), (1, 1, some (3, 3)), (1, 1, some (4, 4)), (1, 1, some (5, 5)), (1, 1, some (6, 6)), (1, 1, some (7, 7)), (1, 1, some (8, 8)), (1, 1, some (9, 9))] h h2 → (0 ≤ z0 ∧ z0 ≤ 1) → ((z0 = 1 ∧ tk_kd tB tn tp = 3 ∧ h2 1 4 = tk_nx tB tn tp ∧ h2 1 2 = h 1 2 ∧ h2 1 3 = h 1 3) ∨ (z0 = 0 ∧ tk_kd tB tn tp ≠ 3 ∧ h2 1 2 = 1 ∧ h2 1 3 = tk_st tB tn tp)) → Q (.inl (some (vi z0))) (hp_w h2 cr) b c) : wp (md_xa (L, xs)) (d + 3) 105 (0, [(0, .ref 1)], [], hp_w h cr, b, c) Q := by
  have F0 : FR [(1, 1, some (2, 2)), (1, 1, some (3, 3)), (1, 1, some (4, 4)), (1, 1, some (5, 5)), (1, 1, some (6, 6)), (1, 1, some (7, 7)), (1, 1, some (8, 8)), (1, 1, some (9, 9))] h h := FR.refl
  have tb_1 : h 1 1 = tn := xq0.2.1
  have tb_2 : 0 ≤ tn ∧ tn ≤ 800 := xq0.2.2
  have b1 := gi_b (lo := 0) (hi := 800) g 1 4 rfl
  refine wi_aload_n (i := 0) (x := 1) (nx := 1) (r1 := 0) (r2 := 0) (r3 := 0) rfl rfl ?_
  refine wr_V (k0 := 1) (rest := []) (as := [.ref 1]) (nx := 4) (r1 := 94) (r2 := 0) (r3 := 1) rfl rfl rfl (of_decide_eq_true rfl) rfl rfl (by decide) rfl rfl (of_decide_eq_true rfl) (of_decide_eq_true rfl) ?_
  refine ct_94_1 hcr  g   (show (h 1 4) = tp by omega) (show 0 ≤ tp by omega) (show tp ≤ tn by omega) xq0 (fun h2 g2 u2 (p2_0 : (h2 1 4) = tk_nx tB tn tp) (p2_1 : (h2 1 5) = tk_kd tB tn tp) (p2_2 : (h2 1 6) = tk_st tB tn tp) (p2_3 : tk_kd tB tn tp = 1 → ((h2 1 8) = tk_lw tB tn tp ∧ (h2 1 9) = tk_wd (tk_lw tB tn tp))) (p2_4 : tk_kd tB tn tp = 2 → (h2 1 7) = tk_nb tB tn tp) => ?_)
  have F3 := F0.then (by decide +kernel) u2
  have b4 := gi_b (lo := 0) (hi := 800) g2 1 4 rfl
  have b5 := gi_b (lo := 0) (hi := 6) g2 1 5 rfl
  have b6 := gi_b (lo := 0) (hi := 800) g2 1 6 rfl
  have b7 := gi_b (lo := -9223372036854775808) (hi := 9223372036854775807) g2 1 8 rfl
  have b8 := gi_b (lo := 1) (hi := 21) g2 1 9 rfl
  have b9 := gi_b (lo := -2147483648) (hi := 2147483647) g2 1 7 rfl
  have tN10 := @tk_nx_b tB tn tp (by omega) (by omega)
  refine wk_n ?_
  refine wi_aload_n (i := 0) (x := 1) (nx := 5) (r1 := 0) (r2 := 0) (r3 := 0) rfl rfl ?_
  refine wr_gi0 (k0 := 1) (x := h2 1 5) (nx := 8) (r1 := 1) (r2 := 5) (r3 := 0) rfl rfl (by decide) rfl ⟨rfl, rfl⟩ rfl rfl ?_
  refine wi_iconst (n := 3) (nx := 9) (r1 := 0) (r2 := 0) (r3 := 0) rfl ?_
  refine wi_icmp (cd := .eq) (nx := 12) (r1 := 20) (r2 := 0) (r3 := 0) rfl (by omega) (by omega) (fun (q11 : (h2 1 5) = 3) => ?_) (fun (q11 : ¬ ((h2 1 5) = 3)) => ?_)
  ·
    refine wi_iconst (n := 1) (nx := 21) (r1 := 0) (r2 := 0) (r3 := 0) rfl ?_
    refine wi_goto (nx := 24) (r1 := 25) (r2 := 0) (r3 := 0) rfl ?_
    refine wi_zreturn (nx := 26) (r1 := 0) (r2 := 0) (r3 := 0) rfl rfl (by omega) ?_
    have b12 := gi_b (lo := -2147483648) (hi := 2147483647) g 1 2 rfl
    have e13 : h2 1 2 = h 1 2 := (u2 1 2 rfl)
    have b14 := gi_b (lo := -2147483648) (hi := 2147483647) g 1 3 rfl
    have e15 : h2 1 3 = h 1 3 := (u2 1 3 rfl)
    exact k h2 1 g2 F3 (by omega) (show (1 = 1 ∧ tk_kd tB tn tp = 3 ∧ (h2 1 4) = tk_nx tB tn tp ∧ (h2 1 2) = (h 1 2) ∧ (h2 1 3) = (h 1 3)) ∨ (1 = 0 ∧ tk_kd tB tn tp ≠ 3 ∧ (h2 1 2) = 1 ∧ (h2 1 3) = tk_st tB tn tp) by omega)
  ·
    refine wi_aload_n (i := 0) (x := 1) (nx := 13) (r1 := 0) (r2 := 0) (r3 := 0) rfl rfl ?_
    refine wi_iconst (n := 1) (nx := 14) (r1 := 0) (r2 := 0) (r3 := 0) rfl ?_
    refine wr_V (k0 := 1) (rest := []) (as := [.ref 1, vi 1]) (nx := 17) (r1 := 101) (r2 := 1) (r3 := 1) rfl rfl rfl (of_decide_eq_true rfl) rfl rfl (by decide) rfl rfl (of_decide_eq_true rfl) (of_decide_eq_true rfl) ?_
    refine ct_101_1 hcr  g2 1 (by omega)  (fun h12 z13 g12 u12 (fz13 : 0 ≤ z13 ∧ z13 ≤ 0) (p12_0 : z13 = 0) (p12_1 : (h12 1 2) = 1) (p12_2 : (h12 1 3) = (h2 1 6)) => ?_)
    have F14 := F3.then (by decide +kernel) u12
    have b15 := gi_b (lo := -2147483648) (hi := 2147483647) g12 1 2 rfl
    have b16 := gi_b (lo := -2147483648) (hi := 2147483647) g12 1 3 rfl
    refine wk_i ?_
    refine wi_if (cd := .eq) (nx := 20) (r1 := 24) (r2 := 0) (r3 := 0) rfl (by omega) (fun (q17 : z13 = 0) => ?_) (fun (q17 : ¬ (z13 = 0)) => by exfalso; omega)
    refine wi_iconst (n := 0) (nx := 25) (r1 := 0) (r2 := 0) (r3 := 0) rfl ?_
    refine wi_zreturn (nx := 26) (r1 := 0) (r2 := 0) (r3 := 0) rfl rfl (by omega) ?_
    have e18 : h12 1 4 = h2 1 4 := (u12 1 4 rfl)
    have b19 := gi_b (lo := -2147483648) (hi := 2147483647) g 1 2 rfl
    have b20 := gi_b (lo := -2147483648) (hi := 2147483647) g 1 3 rfl
    exact k h12 0 g12 F14 (by omega) (show (0 = 1 ∧ tk_kd tB tn tp = 3 ∧ (h12 1 4) = tk_nx tB tn tp ∧ (h12 1 2) = (h 1 2) ∧ (h12 1 3) = (h 1 3)) ∨ (0 = 0 ∧ tk_kd tB tn tp ≠ 3 ∧ (h12 1 2) = 1 ∧ (h12 1 3) = tk_st tB tn tp) by omega)
-- method 117: SetupReader.readAll()I
set_option maxRecDepth 100000 in
set_option maxHeartbeats 100000000 in
theorem ct_117_10 {L : Nat} {xs : Nat → Int32} {d b c : Nat} {h : hp} {cr : Nat → Nat → Option Nat} {Q : hp_Q} (hcr : CR cr)  {tB : Nat → Int} {tn  : Int} (g : GI h)    (xq0 : BufC tB tn h) (k : ∀ (h2 : hp) (z0 : Int) , GI h2 → FR [(12, 12, none), (13, 13, none), (14, 14, none), (15, 15, none), (16, 16, none), (17, 17, none), (1, 1, some (2, 2)), (1, 1, some (3, 3)), (1, 1, some (4, 4)), (1, 1, some (5, 5)), (1, 1, some (6, 6)), (1, 1, some (7, 7)), (1, 1, some (8, 8)), (1, 1, some (9, 9)), (10, 10, some (2, 2)), (10, 10, some (3, 3)), (10, 10, some (4, 4)), (10, 10, some (5, 5)), (11, 11, some (0, 0)), (11, 11, some (1, 1)), (11, 11, some (2, 2)), (11, 11, some (3, 3)), (11, 11, some (4, 4)), (11, 11, some (5, 5)), (11, 11, some (6, 6)), (11, 11, some (7, 7)), (11, 11, some (8, 8)), (11, 11, some (9, 9))] h h2 → (-1 ≤ z0 ∧ z0 ≤ 800) → ((z0 = -1 ∧ tk_ok tB tn = 0) ∨ (0 ≤ z0 ∧ tk_ok tB tn = 1 ∧ z0 = tk_ct tB tn)) → (h2 1 2 = tk_ec tB tn) → (h2 1 3 = tk_ep tB tn) → (tk_ok tB tn = 1 → CVc (tk_ss tB tn) h2) → Q (.inl (some (vi z0))) (hp_w h2 cr) b c) : wp (md_xa (L, xs)) (d + 6) 117 (0, [(0, .ref 10)], [], hp_w h cr, b, c) Q := by
  have F0 : FR [(12, 12, none), (13, 13, none), (14, 14, none), (15, 15, none), (16, 16, none), (17, 17, none), (1, 1, some (2, 2)), (1, 1, some (3, 3)), (1, 1, some (4, 4)), (1, 1, some (5, 5)), (1, 1, some (6, 6)), (1, 1, some (7, 7)), (1, 1, some (8, 8)), (1, 1, some (9, 9)), (10, 10, some (2, 2)), (10, 10, some (3, 3)), (10, 10, some (4, 4)), (10, 10, some (5, 5)), (11, 11, some (0, 0)), (11, 11, some (1, 1)), (11, 11, some (2, 2)), (11, 11, some (3, 3)), (11, 11, some (4, 4)), (11, 11, some (5, 5)), (11, 11, some (6, 6)), (11, 11, some (7, 7)), (11, 11, some (8, 8)), (11, 11, some (9, 9))] h h := FR.refl
  have tb_1 : h 1 1 = tn := xq0.2.1
  have tb_2 : 0 ≤ tn ∧ tn ≤ 800 := xq0.2.2
  refine wi_aload_n (i := 0) (x := 10) (nx := 1) (r1 := 0) (r2 := 0) (r3 := 0) rfl rfl ?_
  refine wr_gr (k0 := 10) (x := 11) (nx := 4) (r1 := 3) (r2 := 0) (r3 := 0) rfl rfl (by decide) rfl ⟨rfl, rfl⟩ rfl ?_
  refine wr_V (k0 := 11) (rest := []) (as := [.ref 11]) (nx := 7) (r1 := 108) (r2 := 0) (r3 := 2) rfl rfl rfl (of_decide_eq_true rfl) rfl rfl (by decide) rfl rfl (of_decide_eq_true rfl) (of_decide_eq_true rfl) ?_
  refine ct_108_11 hcr  g    (fun h1 g1 u1 (p1_0 : (h1 11 0) = 0) (p1_1 : (h1 11 1) = 0) (p1_2 : (h1 11 2) = 0) (p1_3 : (h1 11 3) = 11) (p1_4 : (h1 11 4) = 11) (p1_5 : (h1 11 5) = 9) (p1_6 : (h1 11 6) = 0) (p1_7 : (h1 11 7) = 1) (p1_8 : (h1 11 8) = 3) (p1_9 : (h1 11 9) = 2) => ?_)
  have F2 := F0.then (by decide +kernel) u1
  have b3 := gi_b (lo := 0) (hi := 5) g1 11 0 rfl
  have b4 := gi_b (lo := 0) (hi := 4) g1 11 1 rfl
  have b5 := gi_b (lo := 0) (hi := 12) g1 11 2 rfl
  have b6 := gi_b (lo := -2147483648) (hi := 2147483647) g1 11 3 rfl
  have b7 := gi_b (lo := -2147483648) (hi := 2147483647) g1 11 4 rfl
  have b8 := gi_b (lo := -2147483648) (hi := 2147483647) g1 11 5 rfl
  have b9 := gi_b (lo := -2147483648) (hi := 2147483647) g1 11 6 rfl
  have b10 := gi_b (lo := -2147483648) (hi := 2147483647) g1 11 7 rfl
  have b11 := gi_b (lo := -2147483648) (hi := 2147483647) g1 11 8 rfl
  have b12 := gi_b (lo := -2147483648) (hi := 2147483647) g1 11 9 rfl
  refine wk_n ?_
  refine wi_aload_n (i := 0) (x := 10) (nx := 8) (r1 := 0) (r2 := 0) (r3 := 0) rfl rfl ?_
  refine wi_iconst (n := 0) (nx := 9) (r1 := 0) (r2 := 0) (r3 := 0) rfl ?_
  refine wr_pf2 (k0 := 10) (x := 0) (bl := 0) (bh := 1) (nx := 12) (r1 := 3) (r2 := 2) (r3 := 2) rfl (by decide) rfl ⟨rfl, rfl⟩ rfl (by omega) rfl g1 rfl (by omega) (fun h13 g13 w13 u13 => ?_)
  have F14 := F2.then rfl u13
  refine wi_aload_n (i := 0) (x := 10) (nx := 13) (r1 := 0) (r2 := 0) (r3 := 0) rfl rfl ?_
  refine wi_iconst (n := 0) (nx := 14) (r1 := 0) (r2 := 0) (r3 := 0) rfl ?_
  refine wr_pf2 (k0 := 10) (x := 0) (bl := 0) (bh := 1) (nx := 17) (r1 := 3) (r2 := 3) (r3 := 2) rfl (by decide) rfl ⟨rfl, rfl⟩ rfl (by omega) rfl g13 rfl (by omega) (fun h15 g15 w15 u15 => ?_)
  have F16 := F14.then rfl u15
  refine wi_aload_n (i := 0) (x := 10) (nx := 18) (r1 := 0) (r2 := 0) (r3 := 0) rfl rfl ?_
  refine wi_iconst (n := 0) (nx := 19) (r1 := 0) (r2 := 0) (r3 := 0) rfl ?_
  refine wr_pf2 (k0 := 10) (x := 0) (bl := 0) (bh := 1) (nx := 22) (r1 := 3) (r2 := 4) (r3 := 2) rfl (by decide) rfl ⟨rfl, rfl⟩ rfl (by omega) rfl g15 rfl (by omega) (fun h17 g17 w17 u17 => ?_)
  have F18 := F16.then rfl u17
  refine wi_aload_n (i := 0) (x := 10) (nx := 23) (r1 := 0) (r2 := 0) (r3 := 0) rfl rfl ?_
  refine wi_iconst (n := 0) (nx := 24) (r1 := 0) (r2 := 0) (r3 := 0) rfl ?_
  refine wr_pf2 (k0 := 10) (x := 0) (bl := 0) (bh := 1) (nx := 27) (r1 := 3) (r2 := 5) (r3 := 2) rfl (by decide) rfl ⟨rfl, rfl⟩ rfl (by omega) rfl g17 rfl (by omega) (fun h19 g19 w19 u19 => ?_)
  have F20 := F18.then rfl u19
  refine wi_aload_n (i := 0) (x := 10) (nx := 28) (r1 := 0) (r2 := 0) (r3 := 0) rfl rfl ?_
  refine wr_gr (k0 := 10) (x := 1) (nx := 31) (r1 := 3) (r2 := 1) (r3 := 0) rfl rfl (by decide) rfl ⟨rfl, rfl⟩ rfl ?_
  refine wr_V (k0 := 1) (rest := []) (as := [.ref 1]) (nx := 34) (r1 := 93) (r2 := 0) (r3 := 1) rfl rfl rfl (of_decide_eq_true rfl) rfl rfl (by decide) rfl rfl (of_decide_eq_true rfl) (of_decide_eq_true rfl) ?_
  refine ct_93_1 hcr  g19    (fun h21 g21 u21 (p21_0 : (h21 1 4) = 0) (p21_1 : (h21 1 2) = 0) (p21_2 : (h21 1 3) = -1) => ?_)
  have F22 := F20.then (by decide +kernel) u21
  have b23 := gi_b (lo := 0) (hi := 800) g21 1 4 rfl
  have b24 := gi_b (lo := -2147483648) (hi := 2147483647) g21 1 2 rfl
  have b25 := gi_b (lo := -2147483648) (hi := 2147483647) g21 1 3 rfl
  refine wk_n ?_
  refine wi_iconst (n := 0) (nx := 35) (r1 := 0) (r2 := 0) (r3 := 0) rfl ?_
  refine wi_istore_n (i := 1) (e := 0) (lo2 := [(1, vi 0), (0, .ref 10)]) (nx := 36) (r1 := 0) (r2 := 0) (r3 := 0) rfl rfl ?_
  have e28 : h21 11 0 = h1 11 0 := ((u21 11 0 rfl).trans ((u19 11 0 rfl).trans ((u17 11 0 rfl).trans ((u15 11 0 rfl).trans (u13 11 0 rfl)))))
  have e29 : h21 11 1 = h1 11 1 := ((u21 11 1 rfl).trans ((u19 11 1 rfl).trans ((u17 11 1 rfl).trans ((u15 11 1 rfl).trans (u13 11 1 rfl)))))
  have e30 : h21 11 2 = h1 11 2 := ((u21 11 2 rfl).trans ((u19 11 2 rfl).trans ((u17 11 2 rfl).trans ((u15 11 2 rfl).trans (u13 11 2 rfl)))))
  have e31 : h21 11 3 = h1 11 3 := ((u21 11 3 rfl).trans ((u19 11 3 rfl).trans ((u17 11 3 rfl).trans ((u15 11 3 rfl).trans (u13 11 3 rfl)))))
  have e32 : h21 11 4 = h1 11 4 := ((u21 11 4 rfl).trans ((u19 11 4 rfl).trans ((u17 11 4 rfl).trans ((u15 11 4 rfl).trans (u13 11 4 rfl)))))
  have e33 : h21 11 5 = h1 11 5 := ((u21 11 5 rfl).trans ((u19 11 5 rfl).trans ((u17 11 5 rfl).trans ((u15 11 5 rfl).trans (u13 11 5 rfl)))))
  have e34 : h21 11 6 = h1 11 6 := ((u21 11 6 rfl).trans ((u19 11 6 rfl).trans ((u17 11 6 rfl).trans ((u15 11 6 rfl).trans (u13 11 6 rfl)))))
  have e35 : h21 11 7 = h1 11 7 := ((u21 11 7 rfl).trans ((u19 11 7 rfl).trans ((u17 11 7 rfl).trans ((u15 11 7 rfl).trans (u13 11 7 rfl)))))
  have e36 : h21 11 8 = h1 11 8 := ((u21 11 8 rfl).trans ((u19 11 8 rfl).trans ((u17 11 8 rfl).trans ((u15 11 8 rfl).trans (u13 11 8 rfl)))))
  have e37 : h21 11 9 = h1 11 9 := ((u21 11 9 rfl).trans ((u19 11 9 rfl).trans ((u17 11 9 rfl).trans ((u15 11 9 rfl).trans (u13 11 9 rfl)))))
  have e38 : h21 10 2 = 0 := ((u21 10 2 rfl).trans ((u19 10 2 rfl).trans ((u17 10 2 rfl).trans ((u15 10 2 rfl).trans w13))))
  have e39 : h21 10 3 = 0 := ((u21 10 3 rfl).trans ((u19 10 3 rfl).trans ((u17 10 3 rfl).trans w15)))
  have e40 : h21 10 4 = 0 := ((u21 10 4 rfl).trans ((u19 10 4 rfl).trans w17))
  have e41 : h21 10 5 = 0 := ((u21 10 5 rfl).trans w19)
  have b42 := gi_b (lo := 0) (hi := 800) g 1 1 rfl
  have e43 : h21 1 1 = h 1 1 := ((u21 1 1 rfl).trans ((u19 1 1 rfl).trans ((u17 1 1 rfl).trans ((u15 1 1 rfl).trans ((u13 1 1 rfl).trans (u1 1 1 rfl))))))
  refine wp.lo (lo := [(0, .ref 10), (1, vi 0)]) ⟨rfl, rfl, trivial⟩ rfl ?_
  refine wl_1 (fun x26 h27 => GI h27 ∧ FR [(12, 12, none), (13, 13, none), (14, 14, none), (15, 15, none), (16, 16, none), (17, 17, none), (1, 1, some (2, 2)), (1, 1, some (3, 3)), (1, 1, some (4, 4)), (1, 1, some (5, 5)), (1, 1, some (6, 6)), (1, 1, some (7, 7)), (1, 1, some (8, 8)), (1, 1, some (9, 9)), (10, 10, some (2, 2)), (10, 10, some (3, 3)), (10, 10, some (4, 4)), (10, 10, some (5, 5)), (11, 11, some (0, 0)), (11, 11, some (1, 1)), (11, 11, some (2, 2)), (11, 11, some (3, 3)), (11, 11, some (4, 4)), (11, 11, some (5, 5)), (11, 11, some (6, 6)), (11, 11, some (7, 7)), (11, 11, some (8, 8)), (11, 11, some (9, 9))] h h27 ∧ FR [(12, 12, none), (13, 13, none), (14, 14, none), (15, 15, none), (16, 16, none), (17, 17, none), (1, 1, some (2, 2)), (1, 1, some (3, 3)), (1, 1, some (4, 4)), (1, 1, some (5, 5)), (1, 1, some (6, 6)), (1, 1, some (7, 7)), (1, 1, some (8, 8)), (1, 1, some (9, 9)), (10, 10, some (2, 2)), (10, 10, some (3, 3)), (10, 10, some (4, 4)), (10, 10, some (5, 5)), (11, 11, some (0, 0)), (11, 11, some (1, 1)), (11, 11, some (2, 2)), (11, 11, some (3, 3)), (11, 11, some (4, 4)), (11, 11, some (5, 5)), (11, 11, some (6, 6)), (11, 11, some (7, 7)), (11, 11, some (8, 8)), (11, 11, some (9, 9))] h21 h27 ∧ ((0 ≤ x26 ∧ x26 ≤ 801) ∧ ((h27 1 2) = 0) ∧ ((h27 1 3) = -1) ∧ ((h27 1 4) ≤ (h27 1 1)) ∧ (x26 ≤ (h27 1 4))) ∧ (∃ s : tk_S, CVc s h27 ∧ tk_rn tB tn (h27 1 4) s x26 = tk_RES tB tn)) (fun x26 h27 => ((801 : Int) + 1 - x26).toNat) (fun x26 h27 => (36, [(0, .ref 10), (1, vi x26)], [], hp_w h27 cr, b, c)) ?_ 0 h21 ⟨g21, F22, FR.refl, (show (0 ≤ 0 ∧ 0 ≤ 801) ∧ ((h21 1 2) = 0) ∧ ((h21 1 3) = -1) ∧ ((h21 1 4) ≤ (h21 1 1)) ∧ (0 ≤ (h21 1 4)) by omega), ⟨tk_s0, tk_s0c (by omega) (by omega), (show tk_rn tB tn (h21 1 4) tk_s0 0 = tk_RES tB tn by rw [show h21 1 4 = 0 by omega]; rfl)⟩⟩
  intro x26 h27 ⟨g27, F44, u27, f27, X27_0⟩ I27
  have b45 := gi_b (lo := -2147483648) (hi := 2147483647) g27 1 2 rfl
  have b46 := gi_b (lo := -2147483648) (hi := 2147483647) g27 1 3 rfl
  have b47 := gi_b (lo := 0) (hi := 800) g27 1 4 rfl
  have e48 : h27 1 1 = h 1 1 := ((u27 1 1 rfl).trans ((u21 1 1 rfl).trans ((u19 1 1 rfl).trans ((u17 1 1 rfl).trans ((u15 1 1 rfl).trans ((u13 1 1 rfl).trans (u1 1 1 rfl)))))))
  obtain ⟨s27, cs27, rs27⟩ := X27_0
  obtain ⟨⟨cv_0, cv_1, cv_2, cv_3, cv_4, cv_5, cv_6, cv_7, cv_8, cv_9⟩, ⟨cf_2, cf_3, cf_4, cf_5⟩, -⟩ := id cs27
  have b49 := gi_b (lo := 0) (hi := 5) g27 11 0 rfl
  have b50 := gi_b (lo := 0) (hi := 4) g27 11 1 rfl
  have b51 := gi_b (lo := 0) (hi := 12) g27 11 2 rfl
  refine wi_iload_n (i := 1) (e := x26) (nx := 37) (r1 := 0) (r2 := 0) (r3 := 0) rfl rfl ?_
  refine wi_sipush (n := 800) (nx := 40) (r1 := 0) (r2 := 0) (r3 := 0) rfl (by decide) ?_
  refine wi_icmp (cd := .gt) (nx := 43) (r1 := 87) (r2 := 0) (r3 := 0) rfl (by omega) (by omega) (fun (q52 : 800 < x26) => by exfalso; omega) (fun (q52 : ¬ (800 < x26)) => ?_)
  refine wi_aload_n (i := 0) (x := 10) (nx := 44) (r1 := 0) (r2 := 0) (r3 := 0) rfl rfl ?_
  refine wr_gr (k0 := 10) (x := 1) (nx := 47) (r1 := 3) (r2 := 1) (r3 := 0) rfl rfl (by decide) rfl ⟨rfl, rfl⟩ rfl ?_
  refine wr_V (k0 := 1) (rest := []) (as := [.ref 1]) (nx := 50) (r1 := 94) (r2 := 0) (r3 := 1) rfl rfl rfl (of_decide_eq_true rfl) rfl rfl (by decide) rfl rfl (of_decide_eq_true rfl) (of_decide_eq_true rfl) ?_
  have tb54 := BufC.fr u1 rfl xq0
  have tb55 := BufC.fr u13 rfl tb54
  have tb56 := BufC.fr u15 rfl tb55
  have tb57 := BufC.fr u17 rfl tb56
  have tb58 := BufC.fr u19 rfl tb57
  have tb59 := BufC.fr u21 rfl tb58
  have tb60 := BufC.fr u27 rfl tb59
  refine ct_94_1 hcr  g27   (show (h27 1 4) = (h27 1 4) by omega) (show 0 ≤ (h27 1 4) by omega) (show (h27 1 4) ≤ tn by omega) tb60 (fun h53 g53 u53 (p53_0 : (h53 1 4) = tk_nx tB tn (h27 1 4)) (p53_1 : (h53 1 5) = tk_kd tB tn (h27 1 4)) (p53_2 : (h53 1 6) = tk_st tB tn (h27 1 4)) (p53_3 : tk_kd tB tn (h27 1 4) = 1 → ((h53 1 8) = tk_lw tB tn (h27 1 4) ∧ (h53 1 9) = tk_wd (tk_lw tB tn (h27 1 4)))) (p53_4 : tk_kd tB tn (h27 1 4) = 2 → (h53 1 7) = tk_nb tB tn (h27 1 4)) => ?_)
  have F61 := F44.then (by decide +kernel) u53
  have F62 := u27.then (by decide +kernel) u53
  have b63 := gi_b (lo := 0) (hi := 800) g53 1 4 rfl
  have b64 := gi_b (lo := 0) (hi := 6) g53 1 5 rfl
  have b65 := gi_b (lo := 0) (hi := 800) g53 1 6 rfl
  have b66 := gi_b (lo := -9223372036854775808) (hi := 9223372036854775807) g53 1 8 rfl
  have b67 := gi_b (lo := 1) (hi := 21) g53 1 9 rfl
  have b68 := gi_b (lo := -2147483648) (hi := 2147483647) g53 1 7 rfl
  have tN69 := @tk_nx_b tB tn (h27 1 4) (by omega) (by omega)
  refine wk_n ?_
  refine wi_aload_n (i := 0) (x := 10) (nx := 51) (r1 := 0) (r2 := 0) (r3 := 0) rfl rfl ?_
  refine wr_gr (k0 := 10) (x := 1) (nx := 54) (r1 := 3) (r2 := 1) (r3 := 0) rfl rfl (by decide) rfl ⟨rfl, rfl⟩ rfl ?_
  refine wr_gi0 (k0 := 1) (x := h53 1 5) (nx := 57) (r1 := 1) (r2 := 5) (r3 := 0) rfl rfl (by decide) rfl ⟨rfl, rfl⟩ rfl rfl ?_
  refine wi_if (cd := .ne) (nx := 60) (r1 := 62) (r2 := 0) (r3 := 0) rfl (by omega) (fun (q70 : (h53 1 5) ≠ 0) => ?_) (fun (q70 : ¬ ((h53 1 5) ≠ 0)) => ?_)
  ·
    refine wi_aload_n (i := 0) (x := 10) (nx := 63) (r1 := 0) (r2 := 0) (r3 := 0) rfl rfl ?_
    refine wr_V (k0 := 10) (rest := []) (as := [.ref 10]) (nx := 66) (r1 := 118) (r2 := 0) (r3 := 3) rfl rfl rfl (of_decide_eq_true rfl) rfl rfl (by decide) rfl rfl (of_decide_eq_true rfl) (of_decide_eq_true rfl) ?_
    have e72 : h53 1 2 = h27 1 2 := (u53 1 2 rfl)
    have e73 : h53 1 3 = h27 1 3 := (u53 1 3 rfl)
    have tb75 := BufC.fr u53 rfl tb60
    have cv76 := CVc.fr u53 rfl cs27
    refine ct_118_10 hcr  g53   (show (h53 1 4) = tk_nx tB tn (h27 1 4) by omega) (show (h53 1 6) = tk_st tB tn (h27 1 4) by omega) (show (h53 1 2) = 0 by omega) (show (h53 1 3) = -1 by omega) (show 0 ≤ (h27 1 4) by omega) (show (h27 1 4) ≤ tn by omega) (show (h27 1 4) ≤ tk_nx tB tn (h27 1 4) ∧ tk_nx tB tn (h27 1 4) ≤ tn by omega) (show s27 0 ≤ 5 ∧ s27 1 ≤ 4 ∧ s27 2 ≤ 12 by omega) (show (h53 1 5) = tk_kd tB tn (h27 1 4) by omega) (show tk_kd tB tn (h27 1 4) = 1 → (h53 1 9) = tk_wd (tk_lw tB tn (h27 1 4)) by omega) tb75 cv76 (fun h71 z74 g71 u71 (fz74 : 0 ≤ z74 ∧ z74 ≤ 1) (p71_0 : z74 = 0 ∨ z74 = 1) y71_0 => ?_)
    have F77 := F61.then (by decide +kernel) u71
    have F78 := F62.then (by decide +kernel) u71
    refine wk_i ?_
    rcases p71_0 with p71_0 | p71_0
    ·
      obtain ⟨cq79, q79, eqq79, eaq79, ebq79⟩ := tk_Of y71_0 (by omega)
      refine wi_if (cd := .eq) (nx := 69) (r1 := 79) (r2 := 0) (r3 := 0) rfl (by omega) (fun (q80 : z74 = 0) => ?_) (fun (q80 : ¬ (z74 = 0)) => by exfalso; omega)
      refine wi_iconst (n := (-1)) (nx := 80) (r1 := 0) (r2 := 0) (r3 := 0) rfl ?_
      refine wi_ireturn (nx := 81) (r1 := 0) (r2 := 0) (r3 := 0) rfl rfl ?_
      have b82 := gi_b (lo := -2147483648) (hi := 2147483647) g71 1 2 rfl
      have b83 := gi_b (lo := -2147483648) (hi := 2147483647) g71 1 3 rfl
      have ra81 := tk_OAe (rs27.symm.trans (tk_rn_f (by omega) (by omega) eqq79)) (z := (-1)) rfl (show h71 1 2 = _ by omega) (show h71 1 3 = _ by omega)
      exact k h71 (-1) g71 F77 (by omega) (show ((-1) = -1 ∧ tk_ok tB tn = 0) ∨ (0 ≤ (-1) ∧ tk_ok tB tn = 1 ∧ (-1) = tk_ct tB tn) by omega) (show (h71 1 2) = tk_ec tB tn by omega) (show (h71 1 3) = tk_ep tB tn by omega) (fun e => absurd e (by omega))
    ·
      obtain ⟨q79, sq79, eqq79, eaq79, ebq79, ecq79, cvq79⟩ := tk_Ot y71_0 (by omega)
      have loq79 := tk_stmB (by omega) (by omega) q79 sq79 eqq79
      refine wi_if (cd := .eq) (nx := 69) (r1 := 79) (r2 := 0) (r3 := 0) rfl (by omega) (fun (q80 : z74 = 0) => by exfalso; omega) (fun (q80 : ¬ (z74 = 0)) => ?_)
      refine wi_aload_n (i := 0) (x := 10) (nx := 70) (r1 := 0) (r2 := 0) (r3 := 0) rfl rfl ?_
      refine wr_gr (k0 := 10) (x := 1) (nx := 73) (r1 := 3) (r2 := 1) (r3 := 0) rfl rfl (by decide) rfl ⟨rfl, rfl⟩ rfl ?_
      refine wr_V (k0 := 1) (rest := []) (as := [.ref 1]) (nx := 76) (r1 := 105) (r2 := 0) (r3 := 1) rfl rfl rfl (of_decide_eq_true rfl) rfl rfl (by decide) rfl rfl (of_decide_eq_true rfl) (of_decide_eq_true rfl) ?_
      have b82 := gi_b (lo := 0) (hi := 800) g71 1 4 rfl
      have tb84 := BufC.fr u71 rfl tb75
      refine ct_105_1 hcr  g71   (show (h71 1 4) = q79 by omega) (show 0 ≤ q79 by omega) (show q79 ≤ tn by omega) tb84 (fun h81 z83 g81 u81 (fz83 : 0 ≤ z83 ∧ z83 ≤ 1) (p81_0 : (z83 = 1 ∧ tk_kd tB tn q79 = 3 ∧ (h81 1 4) = tk_nx tB tn q79 ∧ (h81 1 2) = (h71 1 2) ∧ (h81 1 3) = (h71 1 3)) ∨ (z83 = 0 ∧ tk_kd tB tn q79 ≠ 3 ∧ (h81 1 2) = 1 ∧ (h81 1 3) = tk_st tB tn q79)) => ?_)
      have F85 := F77.then (by decide +kernel) u81
      have F86 := F78.then (by decide +kernel) u81
      have b87 := gi_b (lo := -2147483648) (hi := 2147483647) g71 1 2 rfl
      have b88 := gi_b (lo := -2147483648) (hi := 2147483647) g71 1 3 rfl
      have b89 := gi_b (lo := 0) (hi := 800) g81 1 4 rfl
      have b90 := gi_b (lo := -2147483648) (hi := 2147483647) g81 1 2 rfl
      have b91 := gi_b (lo := -2147483648) (hi := 2147483647) g81 1 3 rfl
      have tN92 := @tk_nx_b tB tn q79 (by omega) (by omega)
      refine wk_i ?_
      refine wi_if (cd := .ne) (nx := 79) (r1 := 81) (r2 := 0) (r3 := 0) rfl (by omega) (fun (q93 : z83 ≠ 0) => ?_) (fun (q93 : ¬ (z83 ≠ 0)) => ?_)
      ·
        refine wr_iinc (i := 1) (n := 1) (v := x26) (fun e94 => [(1, vi e94), (0, .ref 10)]) (nx := 84) (r1 := 0) (r2 := 0) (r3 := 0) rfl rfl (fun _ => rfl) (fun e94 (fe94 : e94 = x26 + 1) => ?_)
        refine wi_goto (nx := 87) (r1 := 36) (r2 := 0) (r3 := 0) rfl ?_
        have e95 : h81 1 1 = h 1 1 := ((u81 1 1 rfl).trans ((u71 1 1 rfl).trans ((u53 1 1 rfl).trans ((u27 1 1 rfl).trans ((u21 1 1 rfl).trans ((u19 1 1 rfl).trans ((u17 1 1 rfl).trans ((u15 1 1 rfl).trans ((u13 1 1 rfl).trans (u1 1 1 rfl))))))))))
        refine wp.lo (lo := [(0, .ref 10), (1, vi e94)]) ⟨rfl, rfl, trivial⟩ rfl ?_
        have cv96 := CVc.fr u81 rfl cvq79
        exact I27 e94 h81 ⟨g81, F85, F86, (show (0 ≤ e94 ∧ e94 ≤ 801) ∧ ((h81 1 2) = 0) ∧ ((h81 1 3) = -1) ∧ ((h81 1 4) ≤ (h81 1 1)) ∧ (e94 ≤ (h81 1 4)) by omega), ⟨sq79, cv96, (show tk_rn tB tn (h81 1 4) sq79 e94 = tk_RES tB tn by rw [show h81 1 4 = tk_nx tB tn q79 by omega, show e94 = x26 + 1 by omega]; exact (tk_rn_s (by omega) (by omega) eqq79 (by omega)).symm.trans rs27)⟩⟩ (show ((801 : Int) + 1 - e94).toNat < ((801 : Int) + 1 - x26).toNat by omega)
      ·
        refine wi_iconst (n := (-1)) (nx := 80) (r1 := 0) (r2 := 0) (r3 := 0) rfl ?_
        refine wi_ireturn (nx := 81) (r1 := 0) (r2 := 0) (r3 := 0) rfl rfl ?_
        have ra94 := tk_OAe (rs27.symm.trans (tk_rn_g (by omega) (by omega) eqq79 (by omega))) (z := (-1)) rfl (show h81 1 2 = _ by omega) (show h81 1 3 = _ by omega)
        exact k h81 (-1) g81 F85 (by omega) (show ((-1) = -1 ∧ tk_ok tB tn = 0) ∨ (0 ≤ (-1) ∧ tk_ok tB tn = 1 ∧ (-1) = tk_ct tB tn) by omega) (show (h81 1 2) = tk_ec tB tn by omega) (show (h81 1 3) = tk_ep tB tn by omega) (fun e => absurd e (by omega))
  ·
    refine wi_iload_n (i := 1) (e := x26) (nx := 61) (r1 := 0) (r2 := 0) (r3 := 0) rfl rfl ?_
    refine wi_ireturn (nx := 62) (r1 := 0) (r2 := 0) (r3 := 0) rfl rfl ?_
    have e72 : h53 1 2 = h27 1 2 := (u53 1 2 rfl)
    have e73 : h53 1 3 = h27 1 3 := (u53 1 3 rfl)
    have ra71 := tk_OAs (rs27.symm.trans (tk_rn_e (by omega) (by omega))) (z := x26) rfl (show h53 1 2 = 0 by omega) (show h53 1 3 = -1 by omega)
    have cv74 := CVc.fr u53 rfl cs27
    exact k h53 x26 g53 F61 (by omega) (show (x26 = -1 ∧ tk_ok tB tn = 0) ∨ (0 ≤ x26 ∧ tk_ok tB tn = 1 ∧ x26 = tk_ct tB tn) by omega) (show (h53 1 2) = tk_ec tB tn by omega) (show (h53 1 3) = tk_ep tB tn by omega) (fun _ => by rw [tk_ss_e (rs27.symm.trans (tk_rn_e (by omega) (by omega)))]; exact cv74)
-- method 114: Setup.copyFrom(LPaintBank$Setup;)V
set_option maxRecDepth 100000 in
set_option maxHeartbeats 100000000 in
theorem ct_114_3_11 {L : Nat} {xs : Nat → Int32} {d b c : Nat} {h : hp} {cr : Nat → Nat → Option Nat} {Q : hp_Q} (hcr : CR cr)  (g : GI h)    (k : ∀ (h2 : hp) , GI h2 → FR [(4, 4, none), (5, 5, none), (6, 6, none), (7, 7, none), (8, 8, none), (9, 9, none), (3, 3, some (0, 0)), (3, 3, some (1, 1)), (3, 3, some (2, 2)), (3, 3, some (3, 3)), (3, 3, some (4, 4)), (3, 3, some (5, 5)), (3, 3, some (6, 6)), (3, 3, some (7, 7)), (3, 3, some (8, 8)), (3, 3, some (9, 9))] h h2 → (CPs h h2 3 11) → Q (.inl none) (hp_w h2 cr) b c) : wp (md_xa (L, xs)) d 114 (0, [(0, .ref 3), (1, .ref 11)], [], hp_w h cr, b, c) Q := by
  have F0 : FR [(4, 4, none), (5, 5, none), (6, 6, none), (7, 7, none), (8, 8, none), (9, 9, none), (3, 3, some (0, 0)), (3, 3, some (1, 1)), (3, 3, some (2, 2)), (3, 3, some (3, 3)), (3, 3, some (4, 4)), (3, 3, some (5, 5)), (3, 3, some (6, 6)), (3, 3, some (7, 7)), (3, 3, some (8, 8)), (3, 3, some (9, 9))] h h := FR.refl
  refine wi_aload_n (i := 0) (x := 3) (nx := 1) (r1 := 0) (r2 := 0) (r3 := 0) rfl rfl ?_
  refine wi_aload_n (i := 1) (x := 11) (nx := 2) (r1 := 0) (r2 := 0) (r3 := 0) rfl rfl ?_
  have b1 := gi_b (lo := 0) (hi := 5) g 11 0 rfl
  refine wr_gi0 (k0 := 11) (x := h 11 0) (nx := 5) (r1 := 2) (r2 := 0) (r3 := 0) rfl rfl (by decide) rfl ⟨rfl, rfl⟩ rfl rfl ?_
  refine wr_pf0 (k0 := 3) (x := h 11 0) (bl := 0) (bh := 5) (nx := 8) (r1 := 2) (r2 := 0) (r3 := 0) rfl (by decide) rfl ⟨rfl, rfl⟩ rfl rfl g rfl (by omega) (fun h2 g2 w2 u2 => ?_)
  have F3 := F0.then rfl u2
  refine wi_aload_n (i := 0) (x := 3) (nx := 9) (r1 := 0) (r2 := 0) (r3 := 0) rfl rfl ?_
  refine wi_aload_n (i := 1) (x := 11) (nx := 10) (r1 := 0) (r2 := 0) (r3 := 0) rfl rfl ?_
  have b4 := gi_b (lo := 0) (hi := 4) g 11 1 rfl
  refine wr_gi0 (k0 := 11) (x := h 11 1) (nx := 13) (r1 := 2) (r2 := 1) (r3 := 0) rfl rfl (by decide) rfl ⟨rfl, rfl⟩ rfl (u2 11 1 rfl) ?_
  refine wr_pf0 (k0 := 3) (x := h 11 1) (bl := 0) (bh := 4) (nx := 16) (r1 := 2) (r2 := 1) (r3 := 0) rfl (by decide) rfl ⟨rfl, rfl⟩ rfl rfl g2 rfl (by omega) (fun h5 g5 w5 u5 => ?_)
  have F6 := F3.then rfl u5
  refine wi_aload_n (i := 0) (x := 3) (nx := 17) (r1 := 0) (r2 := 0) (r3 := 0) rfl rfl ?_
  refine wi_aload_n (i := 1) (x := 11) (nx := 18) (r1 := 0) (r2 := 0) (r3 := 0) rfl rfl ?_
  have b7 := gi_b (lo := 0) (hi := 12) g 11 2 rfl
  refine wr_gi0 (k0 := 11) (x := h 11 2) (nx := 21) (r1 := 2) (r2 := 2) (r3 := 0) rfl rfl (by decide) rfl ⟨rfl, rfl⟩ rfl ((u5 11 2 rfl).trans (u2 11 2 rfl)) ?_
  refine wr_pf0 (k0 := 3) (x := h 11 2) (bl := 0) (bh := 12) (nx := 24) (r1 := 2) (r2 := 2) (r3 := 0) rfl (by decide) rfl ⟨rfl, rfl⟩ rfl rfl g5 rfl (by omega) (fun h8 g8 w8 u8 => ?_)
  have F9 := F6.then rfl u8
  refine wi_aload_n (i := 0) (x := 3) (nx := 25) (r1 := 0) (r2 := 0) (r3 := 0) rfl rfl ?_
  refine wi_aload_n (i := 1) (x := 11) (nx := 26) (r1 := 0) (r2 := 0) (r3 := 0) rfl rfl ?_
  have b10 := gi_b (lo := -2147483648) (hi := 2147483647) g 11 3 rfl
  refine wr_gi0 (k0 := 11) (x := h 11 3) (nx := 29) (r1 := 2) (r2 := 3) (r3 := 0) rfl rfl (by decide) rfl ⟨rfl, rfl⟩ rfl ((u8 11 3 rfl).trans ((u5 11 3 rfl).trans (u2 11 3 rfl))) ?_
  refine wr_pf0 (k0 := 3) (x := h 11 3) (bl := -2147483648) (bh := 2147483647) (nx := 32) (r1 := 2) (r2 := 3) (r3 := 0) rfl (by decide) rfl ⟨rfl, rfl⟩ rfl rfl g8 rfl (by omega) (fun h11 g11 w11 u11 => ?_)
  have F12 := F9.then rfl u11
  refine wi_aload_n (i := 0) (x := 3) (nx := 33) (r1 := 0) (r2 := 0) (r3 := 0) rfl rfl ?_
  refine wi_aload_n (i := 1) (x := 11) (nx := 34) (r1 := 0) (r2 := 0) (r3 := 0) rfl rfl ?_
  have b13 := gi_b (lo := -2147483648) (hi := 2147483647) g 11 4 rfl
  refine wr_gi0 (k0 := 11) (x := h 11 4) (nx := 37) (r1 := 2) (r2 := 4) (r3 := 0) rfl rfl (by decide) rfl ⟨rfl, rfl⟩ rfl ((u11 11 4 rfl).trans ((u8 11 4 rfl).trans ((u5 11 4 rfl).trans (u2 11 4 rfl)))) ?_
  refine wr_pf0 (k0 := 3) (x := h 11 4) (bl := -2147483648) (bh := 2147483647) (nx := 40) (r1 := 2) (r2 := 4) (r3 := 0) rfl (by decide) rfl ⟨rfl, rfl⟩ rfl rfl g11 rfl (by omega) (fun h14 g14 w14 u14 => ?_)
  have F15 := F12.then rfl u14
  refine wi_aload_n (i := 0) (x := 3) (nx := 41) (r1 := 0) (r2 := 0) (r3 := 0) rfl rfl ?_
  refine wi_aload_n (i := 1) (x := 11) (nx := 42) (r1 := 0) (r2 := 0) (r3 := 0) rfl rfl ?_
  have b16 := gi_b (lo := -2147483648) (hi := 2147483647) g 11 5 rfl
  refine wr_gi0 (k0 := 11) (x := h 11 5) (nx := 45) (r1 := 2) (r2 := 5) (r3 := 0) rfl rfl (by decide) rfl ⟨rfl, rfl⟩ rfl ((u14 11 5 rfl).trans ((u11 11 5 rfl).trans ((u8 11 5 rfl).trans ((u5 11 5 rfl).trans (u2 11 5 rfl))))) ?_
  refine wr_pf0 (k0 := 3) (x := h 11 5) (bl := -2147483648) (bh := 2147483647) (nx := 48) (r1 := 2) (r2 := 5) (r3 := 0) rfl (by decide) rfl ⟨rfl, rfl⟩ rfl rfl g14 rfl (by omega) (fun h17 g17 w17 u17 => ?_)
  have F18 := F15.then rfl u17
  refine wi_aload_n (i := 0) (x := 3) (nx := 49) (r1 := 0) (r2 := 0) (r3 := 0) rfl rfl ?_
  refine wi_aload_n (i := 1) (x := 11) (nx := 50) (r1 := 0) (r2 := 0) (r3 := 0) rfl rfl ?_
  have b19 := gi_b (lo := -2147483648) (hi := 2147483647) g 11 6 rfl
  refine wr_gi0 (k0 := 11) (x := h 11 6) (nx := 53) (r1 := 2) (r2 := 6) (r3 := 0) rfl rfl (by decide) rfl ⟨rfl, rfl⟩ rfl ((u17 11 6 rfl).trans ((u14 11 6 rfl).trans ((u11 11 6 rfl).trans ((u8 11 6 rfl).trans ((u5 11 6 rfl).trans (u2 11 6 rfl)))))) ?_
  refine wr_pf0 (k0 := 3) (x := h 11 6) (bl := -2147483648) (bh := 2147483647) (nx := 56) (r1 := 2) (r2 := 6) (r3 := 0) rfl (by decide) rfl ⟨rfl, rfl⟩ rfl rfl g17 rfl (by omega) (fun h20 g20 w20 u20 => ?_)
  have F21 := F18.then rfl u20
  refine wi_aload_n (i := 0) (x := 3) (nx := 57) (r1 := 0) (r2 := 0) (r3 := 0) rfl rfl ?_
  refine wi_aload_n (i := 1) (x := 11) (nx := 58) (r1 := 0) (r2 := 0) (r3 := 0) rfl rfl ?_
  have b22 := gi_b (lo := -2147483648) (hi := 2147483647) g 11 7 rfl
  refine wr_gi0 (k0 := 11) (x := h 11 7) (nx := 61) (r1 := 2) (r2 := 7) (r3 := 0) rfl rfl (by decide) rfl ⟨rfl, rfl⟩ rfl ((u20 11 7 rfl).trans ((u17 11 7 rfl).trans ((u14 11 7 rfl).trans ((u11 11 7 rfl).trans ((u8 11 7 rfl).trans ((u5 11 7 rfl).trans (u2 11 7 rfl))))))) ?_
  refine wr_pf0 (k0 := 3) (x := h 11 7) (bl := -2147483648) (bh := 2147483647) (nx := 64) (r1 := 2) (r2 := 7) (r3 := 0) rfl (by decide) rfl ⟨rfl, rfl⟩ rfl rfl g20 rfl (by omega) (fun h23 g23 w23 u23 => ?_)
  have F24 := F21.then rfl u23
  refine wi_aload_n (i := 0) (x := 3) (nx := 65) (r1 := 0) (r2 := 0) (r3 := 0) rfl rfl ?_
  refine wi_aload_n (i := 1) (x := 11) (nx := 66) (r1 := 0) (r2 := 0) (r3 := 0) rfl rfl ?_
  have b25 := gi_b (lo := -2147483648) (hi := 2147483647) g 11 8 rfl
  refine wr_gi0 (k0 := 11) (x := h 11 8) (nx := 69) (r1 := 2) (r2 := 8) (r3 := 0) rfl rfl (by decide) rfl ⟨rfl, rfl⟩ rfl ((u23 11 8 rfl).trans ((u20 11 8 rfl).trans ((u17 11 8 rfl).trans ((u14 11 8 rfl).trans ((u11 11 8 rfl).trans ((u8 11 8 rfl).trans ((u5 11 8 rfl).trans (u2 11 8 rfl)))))))) ?_
  refine wr_pf0 (k0 := 3) (x := h 11 8) (bl := -2147483648) (bh := 2147483647) (nx := 72) (r1 := 2) (r2 := 8) (r3 := 0) rfl (by decide) rfl ⟨rfl, rfl⟩ rfl rfl g23 rfl (by omega) (fun h26 g26 w26 u26 => ?_)
  have F27 := F24.then rfl u26
  refine wi_aload_n (i := 0) (x := 3) (nx := 73) (r1 := 0) (r2 := 0) (r3 := 0) rfl rfl ?_
  refine wi_aload_n (i := 1) (x := 11) (nx := 74) (r1 := 0) (r2 := 0) (r3 := 0) rfl rfl ?_
  have b28 := gi_b (lo := -2147483648) (hi := 2147483647) g 11 9 rfl
  refine wr_gi0 (k0 := 11) (x := h 11 9) (nx := 77) (r1 := 2) (r2 := 9) (r3 := 0) rfl rfl (by decide) rfl ⟨rfl, rfl⟩ rfl ((u26 11 9 rfl).trans ((u23 11 9 rfl).trans ((u20 11 9 rfl).trans ((u17 11 9 rfl).trans ((u14 11 9 rfl).trans ((u11 11 9 rfl).trans ((u8 11 9 rfl).trans ((u5 11 9 rfl).trans (u2 11 9 rfl))))))))) ?_
  refine wr_pf0 (k0 := 3) (x := h 11 9) (bl := -2147483648) (bh := 2147483647) (nx := 80) (r1 := 2) (r2 := 9) (r3 := 0) rfl (by decide) rfl ⟨rfl, rfl⟩ rfl rfl g26 rfl (by omega) (fun h29 g29 w29 u29 => ?_)
  have F30 := F27.then rfl u29
  refine wi_aload_n (i := 1) (x := 11) (nx := 81) (r1 := 0) (r2 := 0) (r3 := 0) rfl rfl ?_
  refine wr_gr (k0 := 11) (x := 12) (nx := 84) (r1 := 2) (r2 := 10) (r3 := 0) rfl rfl (by decide) rfl ⟨rfl, rfl⟩ rfl ?_
  refine wi_iconst (n := 0) (nx := 85) (r1 := 0) (r2 := 0) (r3 := 0) rfl ?_
  refine wi_aload_n (i := 0) (x := 3) (nx := 86) (r1 := 0) (r2 := 0) (r3 := 0) rfl rfl ?_
  refine wr_gr (k0 := 3) (x := 4) (nx := 89) (r1 := 2) (r2 := 10) (r3 := 0) rfl rfl (by decide) rfl ⟨rfl, rfl⟩ rfl ?_
  refine wi_iconst (n := 0) (nx := 90) (r1 := 0) (r2 := 0) (r3 := 0) rfl ?_
  refine wi_iconst (n := 5) (nx := 91) (r1 := 0) (r2 := 0) (r3 := 0) rfl ?_
  refine wr_cpyl (s0 := 12) (d0 := 4) (n0 := 5) (n1 := 5) (sp := 0) (dp := 0) (n := 5) (sl := -9223372036854775808) (sh := 9223372036854775807) (dl := -9223372036854775808) (dh := 9223372036854775807) (nx := 94) (r1 := 0) (r2 := 101) (r3 := 0) rfl rfl (of_decide_eq_true rfl) (by decide) (by decide) rfl rfl (by omega) (fun _ => rfl) (fun _ => rfl) (by omega) g29 (fun h31 g31 y31 u31 => ?_)
  have F32 := F30.then rfl u31
  refine wi_aload_n (i := 1) (x := 11) (nx := 95) (r1 := 0) (r2 := 0) (r3 := 0) rfl rfl ?_
  refine wr_gr (k0 := 11) (x := 13) (nx := 98) (r1 := 2) (r2 := 11) (r3 := 0) rfl rfl (by decide) rfl ⟨rfl, rfl⟩ rfl ?_
  refine wi_iconst (n := 0) (nx := 99) (r1 := 0) (r2 := 0) (r3 := 0) rfl ?_
  refine wi_aload_n (i := 0) (x := 3) (nx := 100) (r1 := 0) (r2 := 0) (r3 := 0) rfl rfl ?_
  refine wr_gr (k0 := 3) (x := 5) (nx := 103) (r1 := 2) (r2 := 11) (r3 := 0) rfl rfl (by decide) rfl ⟨rfl, rfl⟩ rfl ?_
  refine wi_iconst (n := 0) (nx := 104) (r1 := 0) (r2 := 0) (r3 := 0) rfl ?_
  refine wi_iconst (n := 5) (nx := 105) (r1 := 0) (r2 := 0) (r3 := 0) rfl ?_
  refine wr_cpy (s0 := 13) (d0 := 5) (n0 := 5) (n1 := 5) (sp := 0) (dp := 0) (n := 5) (sl := -2147483648) (sh := 2147483647) (dl := -2147483648) (dh := 2147483647) (nx := 108) (r1 := 0) (r2 := 101) (r3 := 0) rfl rfl (of_decide_eq_true rfl) (by decide) (by decide) rfl rfl (by omega) (fun _ => rfl) (fun _ => rfl) (by omega) g31 (fun h33 g33 y33 u33 => ?_)
  have F34 := F32.then rfl u33
  refine wi_aload_n (i := 1) (x := 11) (nx := 109) (r1 := 0) (r2 := 0) (r3 := 0) rfl rfl ?_
  refine wr_gr (k0 := 11) (x := 14) (nx := 112) (r1 := 2) (r2 := 12) (r3 := 0) rfl rfl (by decide) rfl ⟨rfl, rfl⟩ rfl ?_
  refine wi_iconst (n := 0) (nx := 113) (r1 := 0) (r2 := 0) (r3 := 0) rfl ?_
  refine wi_aload_n (i := 0) (x := 3) (nx := 114) (r1 := 0) (r2 := 0) (r3 := 0) rfl rfl ?_
  refine wr_gr (k0 := 3) (x := 6) (nx := 117) (r1 := 2) (r2 := 12) (r3 := 0) rfl rfl (by decide) rfl ⟨rfl, rfl⟩ rfl ?_
  refine wi_iconst (n := 0) (nx := 118) (r1 := 0) (r2 := 0) (r3 := 0) rfl ?_
  refine wi_iconst (n := 4) (nx := 119) (r1 := 0) (r2 := 0) (r3 := 0) rfl ?_
  refine wr_cpy (s0 := 14) (d0 := 6) (n0 := 4) (n1 := 4) (sp := 0) (dp := 0) (n := 4) (sl := -2147483648) (sh := 2147483647) (dl := -2147483648) (dh := 2147483647) (nx := 122) (r1 := 0) (r2 := 101) (r3 := 0) rfl rfl (of_decide_eq_true rfl) (by decide) (by decide) rfl rfl (by omega) (fun _ => rfl) (fun _ => rfl) (by omega) g33 (fun h35 g35 y35 u35 => ?_)
  have F36 := F34.then rfl u35
  refine wi_aload_n (i := 1) (x := 11) (nx := 123) (r1 := 0) (r2 := 0) (r3 := 0) rfl rfl ?_
  refine wr_gr (k0 := 11) (x := 15) (nx := 126) (r1 := 2) (r2 := 13) (r3 := 0) rfl rfl (by decide) rfl ⟨rfl, rfl⟩ rfl ?_
  refine wi_iconst (n := 0) (nx := 127) (r1 := 0) (r2 := 0) (r3 := 0) rfl ?_
  refine wi_aload_n (i := 0) (x := 3) (nx := 128) (r1 := 0) (r2 := 0) (r3 := 0) rfl rfl ?_
  refine wr_gr (k0 := 3) (x := 7) (nx := 131) (r1 := 2) (r2 := 13) (r3 := 0) rfl rfl (by decide) rfl ⟨rfl, rfl⟩ rfl ?_
  refine wi_iconst (n := 0) (nx := 132) (r1 := 0) (r2 := 0) (r3 := 0) rfl ?_
  refine wi_bipush (n := 12) (nx := 134) (r1 := 0) (r2 := 0) (r3 := 0) rfl (by decide) ?_
  refine wr_cpy (s0 := 15) (d0 := 7) (n0 := 12) (n1 := 12) (sp := 0) (dp := 0) (n := 12) (sl := -2147483648) (sh := 2147483647) (dl := -2147483648) (dh := 2147483647) (nx := 137) (r1 := 0) (r2 := 101) (r3 := 0) rfl rfl (of_decide_eq_true rfl) (by decide) (by decide) rfl rfl (by omega) (fun _ => rfl) (fun _ => rfl) (by omega) g35 (fun h37 g37 y37 u37 => ?_)
  have F38 := F36.then rfl u37
  refine wi_aload_n (i := 1) (x := 11) (nx := 138) (r1 := 0) (r2 := 0) (r3 := 0) rfl rfl ?_
  refine wr_gr (k0 := 11) (x := 16) (nx := 141) (r1 := 2) (r2 := 14) (r3 := 0) rfl rfl (by decide) rfl ⟨rfl, rfl⟩ rfl ?_
  refine wi_iconst (n := 0) (nx := 142) (r1 := 0) (r2 := 0) (r3 := 0) rfl ?_
  refine wi_aload_n (i := 0) (x := 3) (nx := 143) (r1 := 0) (r2 := 0) (r3 := 0) rfl rfl ?_
  refine wr_gr (k0 := 3) (x := 8) (nx := 146) (r1 := 2) (r2 := 14) (r3 := 0) rfl rfl (by decide) rfl ⟨rfl, rfl⟩ rfl ?_
  refine wi_iconst (n := 0) (nx := 147) (r1 := 0) (r2 := 0) (r3 := 0) rfl ?_
  refine wi_bipush (n := 12) (nx := 149) (r1 := 0) (r2 := 0) (r3 := 0) rfl (by decide) ?_
  refine wr_cpy (s0 := 16) (d0 := 8) (n0 := 12) (n1 := 12) (sp := 0) (dp := 0) (n := 12) (sl := -2147483648) (sh := 2147483647) (dl := -2147483648) (dh := 2147483647) (nx := 152) (r1 := 0) (r2 := 101) (r3 := 0) rfl rfl (of_decide_eq_true rfl) (by decide) (by decide) rfl rfl (by omega) (fun _ => rfl) (fun _ => rfl) (by omega) g37 (fun h39 g39 y39 u39 => ?_)
  have F40 := F38.then rfl u39
  refine wi_aload_n (i := 1) (x := 11) (nx := 153) (r1 := 0) (r2 := 0) (r3 := 0) rfl rfl ?_
  refine wr_gr (k0 := 11) (x := 17) (nx := 156) (r1 := 2) (r2 := 15) (r3 := 0) rfl rfl (by decide) rfl ⟨rfl, rfl⟩ rfl ?_
  refine wi_iconst (n := 0) (nx := 157) (r1 := 0) (r2 := 0) (r3 := 0) rfl ?_
  refine wi_aload_n (i := 0) (x := 3) (nx := 158) (r1 := 0) (r2 := 0) (r3 := 0) rfl rfl ?_
  refine wr_gr (k0 := 3) (x := 9) (nx := 161) (r1 := 2) (r2 := 15) (r3 := 0) rfl rfl (by decide) rfl ⟨rfl, rfl⟩ rfl ?_
  refine wi_iconst (n := 0) (nx := 162) (r1 := 0) (r2 := 0) (r3 := 0) rfl ?_
  refine wi_bipush (n := 12) (nx := 164) (r1 := 0) (r2 := 0) (r3 := 0) rfl (by decide) ?_
  refine wr_cpy (s0 := 17) (d0 := 9) (n0 := 12) (n1 := 12) (sp := 0) (dp := 0) (n := 12) (sl := -2147483648) (sh := 2147483647) (dl := -2147483648) (dh := 2147483647) (nx := 167) (r1 := 0) (r2 := 101) (r3 := 0) rfl rfl (of_decide_eq_true rfl) (by decide) (by decide) rfl rfl (by omega) (fun _ => rfl) (fun _ => rfl) (by omega) g39 (fun h41 g41 y41 u41 => ?_)
  have F42 := F40.then rfl u41
  refine wi_return (nx := 168) (r1 := 0) (r2 := 0) (r3 := 0) rfl rfl ?_
  exact k h41 g41 F42 ⟨sv_ten (P := fun i => h41 3 i = h 11 i) ((u41 3 0 rfl).trans ((u39 3 0 rfl).trans ((u37 3 0 rfl).trans ((u35 3 0 rfl).trans ((u33 3 0 rfl).trans ((u31 3 0 rfl).trans ((u29 3 0 rfl).trans ((u26 3 0 rfl).trans ((u23 3 0 rfl).trans ((u20 3 0 rfl).trans ((u17 3 0 rfl).trans ((u14 3 0 rfl).trans ((u11 3 0 rfl).trans ((u8 3 0 rfl).trans ((u5 3 0 rfl).trans w2))))))))))))))) ((u41 3 1 rfl).trans ((u39 3 1 rfl).trans ((u37 3 1 rfl).trans ((u35 3 1 rfl).trans ((u33 3 1 rfl).trans ((u31 3 1 rfl).trans ((u29 3 1 rfl).trans ((u26 3 1 rfl).trans ((u23 3 1 rfl).trans ((u20 3 1 rfl).trans ((u17 3 1 rfl).trans ((u14 3 1 rfl).trans ((u11 3 1 rfl).trans ((u8 3 1 rfl).trans w5)))))))))))))) ((u41 3 2 rfl).trans ((u39 3 2 rfl).trans ((u37 3 2 rfl).trans ((u35 3 2 rfl).trans ((u33 3 2 rfl).trans ((u31 3 2 rfl).trans ((u29 3 2 rfl).trans ((u26 3 2 rfl).trans ((u23 3 2 rfl).trans ((u20 3 2 rfl).trans ((u17 3 2 rfl).trans ((u14 3 2 rfl).trans ((u11 3 2 rfl).trans w8))))))))))))) ((u41 3 3 rfl).trans ((u39 3 3 rfl).trans ((u37 3 3 rfl).trans ((u35 3 3 rfl).trans ((u33 3 3 rfl).trans ((u31 3 3 rfl).trans ((u29 3 3 rfl).trans ((u26 3 3 rfl).trans ((u23 3 3 rfl).trans ((u20 3 3 rfl).trans ((u17 3 3 rfl).trans ((u14 3 3 rfl).trans w11)))))))))))) ((u41 3 4 rfl).trans ((u39 3 4 rfl).trans ((u37 3 4 rfl).trans ((u35 3 4 rfl).trans ((u33 3 4 rfl).trans ((u31 3 4 rfl).trans ((u29 3 4 rfl).trans ((u26 3 4 rfl).trans ((u23 3 4 rfl).trans ((u20 3 4 rfl).trans ((u17 3 4 rfl).trans w14))))))))))) ((u41 3 5 rfl).trans ((u39 3 5 rfl).trans ((u37 3 5 rfl).trans ((u35 3 5 rfl).trans ((u33 3 5 rfl).trans ((u31 3 5 rfl).trans ((u29 3 5 rfl).trans ((u26 3 5 rfl).trans ((u23 3 5 rfl).trans ((u20 3 5 rfl).trans w17)))))))))) ((u41 3 6 rfl).trans ((u39 3 6 rfl).trans ((u37 3 6 rfl).trans ((u35 3 6 rfl).trans ((u33 3 6 rfl).trans ((u31 3 6 rfl).trans ((u29 3 6 rfl).trans ((u26 3 6 rfl).trans ((u23 3 6 rfl).trans w20))))))))) ((u41 3 7 rfl).trans ((u39 3 7 rfl).trans ((u37 3 7 rfl).trans ((u35 3 7 rfl).trans ((u33 3 7 rfl).trans ((u31 3 7 rfl).trans ((u29 3 7 rfl).trans ((u26 3 7 rfl).trans w23)))))))) ((u41 3 8 rfl).trans ((u39 3 8 rfl).trans ((u37 3 8 rfl).trans ((u35 3 8 rfl).trans ((u33 3 8 rfl).trans ((u31 3 8 rfl).trans ((u29 3 8 rfl).trans w26))))))) ((u41 3 9 rfl).trans ((u39 3 9 rfl).trans ((u37 3 9 rfl).trans ((u35 3 9 rfl).trans ((u33 3 9 rfl).trans ((u31 3 9 rfl).trans w29)))))), (fun q e => (((u41 5 q (fn_a (by omega) fn_0)).trans ((u39 5 q (fn_a (by omega) fn_0)).trans ((u37 5 q (fn_a (by omega) fn_0)).trans (u35 5 q (fn_a (by omega) fn_0))))).trans ((cy_0 y33 (by omega)).trans ((u31 13 q (fn_a (by omega) fn_0)).trans ((u29 13 q (fn_a (by omega) fn_0)).trans ((u26 13 q (fn_a (by omega) fn_0)).trans ((u23 13 q (fn_a (by omega) fn_0)).trans ((u20 13 q (fn_a (by omega) fn_0)).trans ((u17 13 q (fn_a (by omega) fn_0)).trans ((u14 13 q (fn_a (by omega) fn_0)).trans ((u11 13 q (fn_a (by omega) fn_0)).trans ((u8 13 q (fn_a (by omega) fn_0)).trans ((u5 13 q (fn_a (by omega) fn_0)).trans (u2 13 q (fn_a (by omega) fn_0))))))))))))))), (fun q e => (((u41 6 q (fn_a (by omega) fn_0)).trans ((u39 6 q (fn_a (by omega) fn_0)).trans (u37 6 q (fn_a (by omega) fn_0)))).trans ((cy_0 y35 (by omega)).trans ((u33 14 q (fn_a (by omega) fn_0)).trans ((u31 14 q (fn_a (by omega) fn_0)).trans ((u29 14 q (fn_a (by omega) fn_0)).trans ((u26 14 q (fn_a (by omega) fn_0)).trans ((u23 14 q (fn_a (by omega) fn_0)).trans ((u20 14 q (fn_a (by omega) fn_0)).trans ((u17 14 q (fn_a (by omega) fn_0)).trans ((u14 14 q (fn_a (by omega) fn_0)).trans ((u11 14 q (fn_a (by omega) fn_0)).trans ((u8 14 q (fn_a (by omega) fn_0)).trans ((u5 14 q (fn_a (by omega) fn_0)).trans (u2 14 q (fn_a (by omega) fn_0)))))))))))))))), (fun q e => ((u41 8 q (fn_a (by omega) fn_0)).trans ((cy_0 y39 (by omega)).trans ((u37 16 q (fn_a (by omega) fn_0)).trans ((u35 16 q (fn_a (by omega) fn_0)).trans ((u33 16 q (fn_a (by omega) fn_0)).trans ((u31 16 q (fn_a (by omega) fn_0)).trans ((u29 16 q (fn_a (by omega) fn_0)).trans ((u26 16 q (fn_a (by omega) fn_0)).trans ((u23 16 q (fn_a (by omega) fn_0)).trans ((u20 16 q (fn_a (by omega) fn_0)).trans ((u17 16 q (fn_a (by omega) fn_0)).trans ((u14 16 q (fn_a (by omega) fn_0)).trans ((u11 16 q (fn_a (by omega) fn_0)).trans ((u8 16 q (fn_a (by omega) fn_0)).trans ((u5 16 q (fn_a (by omega) fn_0)).trans (u2 16 q (fn_a (by omega) fn_0))))))))))))))))))⟩
-- method 151: Line.startOver()V
set_option maxRecDepth 100000 in
set_option maxHeartbeats 100000000 in
theorem ct_151_18 {L : Nat} {xs : Nat → Int32} {d b c : Nat} {h : hp} {cr : Nat → Nat → Option Nat} {Q : hp_Q} (hcr : CR cr)  (g : GI h)    (k : ∀ (h2 : hp) , GI h2 → FR [(18, 36, none)] h h2 → Q (.inl none) (hp_w h2 cr) b c) : wp (md_xa (L, xs)) d 151 (0, [(0, .ref 18)], [], hp_w h cr, b, c) Q := by
  have F0 : FR [(18, 36, none)] h h := FR.refl
  refine wi_aload_n (i := 0) (x := 18) (nx := 1) (r1 := 0) (r2 := 0) (r3 := 0) rfl rfl ?_
  refine wr_gr (k0 := 18) (x := 3) (nx := 4) (r1 := 4) (r2 := 0) (r3 := 0) rfl rfl (by decide) rfl ⟨rfl, rfl⟩ rfl ?_
  refine wr_gr (k0 := 3) (x := 7) (nx := 7) (r1 := 2) (r2 := 13) (r3 := 0) rfl rfl (by decide) rfl ⟨rfl, rfl⟩ rfl ?_
  refine wi_iconst (n := 0) (nx := 8) (r1 := 0) (r2 := 0) (r3 := 0) rfl ?_
  refine wi_aload_n (i := 0) (x := 18) (nx := 9) (r1 := 0) (r2 := 0) (r3 := 0) rfl rfl ?_
  refine wr_gr (k0 := 18) (x := 19) (nx := 12) (r1 := 4) (r2 := 1) (r3 := 0) rfl rfl (by decide) rfl ⟨rfl, rfl⟩ rfl ?_
  refine wi_iconst (n := 0) (nx := 13) (r1 := 0) (r2 := 0) (r3 := 0) rfl ?_
  refine wi_bipush (n := 12) (nx := 15) (r1 := 0) (r2 := 0) (r3 := 0) rfl (by decide) ?_
  refine wr_cpy (s0 := 7) (d0 := 19) (n0 := 12) (n1 := 12) (sp := 0) (dp := 0) (n := 12) (sl := -2147483648) (sh := 2147483647) (dl := -2147483648) (dh := 2147483647) (nx := 18) (r1 := 0) (r2 := 101) (r3 := 0) rfl rfl (of_decide_eq_true rfl) (by decide) (by decide) rfl rfl (by omega) (fun _ => rfl) (fun _ => rfl) (by omega) g (fun h1 g1 y1 u1 => ?_)
  have F2 := F0.then rfl u1
  refine wi_aload_n (i := 0) (x := 18) (nx := 19) (r1 := 0) (r2 := 0) (r3 := 0) rfl rfl ?_
  refine wr_gr (k0 := 18) (x := 3) (nx := 22) (r1 := 4) (r2 := 0) (r3 := 0) rfl rfl (by decide) rfl ⟨rfl, rfl⟩ rfl ?_
  refine wr_gr (k0 := 3) (x := 9) (nx := 25) (r1 := 2) (r2 := 15) (r3 := 0) rfl rfl (by decide) rfl ⟨rfl, rfl⟩ rfl ?_
  refine wi_iconst (n := 0) (nx := 26) (r1 := 0) (r2 := 0) (r3 := 0) rfl ?_
  refine wi_aload_n (i := 0) (x := 18) (nx := 27) (r1 := 0) (r2 := 0) (r3 := 0) rfl rfl ?_
  refine wr_gr (k0 := 18) (x := 20) (nx := 30) (r1 := 4) (r2 := 2) (r3 := 0) rfl rfl (by decide) rfl ⟨rfl, rfl⟩ rfl ?_
  refine wi_iconst (n := 0) (nx := 31) (r1 := 0) (r2 := 0) (r3 := 0) rfl ?_
  refine wi_bipush (n := 12) (nx := 33) (r1 := 0) (r2 := 0) (r3 := 0) rfl (by decide) ?_
  refine wr_cpy (s0 := 9) (d0 := 20) (n0 := 12) (n1 := 12) (sp := 0) (dp := 0) (n := 12) (sl := -2147483648) (sh := 2147483647) (dl := -2147483648) (dh := 2147483647) (nx := 36) (r1 := 0) (r2 := 101) (r3 := 0) rfl rfl (of_decide_eq_true rfl) (by decide) (by decide) rfl rfl (by omega) (fun _ => rfl) (fun _ => rfl) (by omega) g1 (fun h3 g3 y3 u3 => ?_)
  have F4 := F2.then rfl u3
  refine wi_iconst (n := 0) (nx := 37) (r1 := 0) (r2 := 0) (r3 := 0) rfl ?_
  refine wi_istore_n (i := 1) (e := 0) (lo2 := [(1, vi 0), (0, .ref 18)]) (nx := 38) (r1 := 0) (r2 := 0) (r3 := 0) rfl rfl ?_
  refine wp.lo (lo := [(0, .ref 18), (1, vi 0)]) ⟨rfl, rfl, trivial⟩ rfl ?_
  refine wl_1 (fun x5 h6 => GI h6 ∧ FR [(18, 36, none)] h h6 ∧ FR [(29, 36, none)] h3 h6 ∧ ((0 ≤ x5 ∧ x5 ≤ 4))) (fun x5 h6 => ((4 : Int) + 1 - x5).toNat) (fun x5 h6 => (38, [(0, .ref 18), (1, vi x5)], [], hp_w h6 cr, b, c)) ?_ 0 h3 ⟨g3, F4, FR.refl, (show (0 ≤ 0 ∧ 0 ≤ 4) by omega)⟩
  intro x5 h6 ⟨g6, F7, u6, f6⟩ I6
  refine wi_iload_n (i := 1) (e := x5) (nx := 39) (r1 := 0) (r2 := 0) (r3 := 0) rfl rfl ?_
  refine wi_iconst (n := 4) (nx := 40) (r1 := 0) (r2 := 0) (r3 := 0) rfl ?_
  refine wi_icmp (cd := .ge) (nx := 43) (r1 := 59) (r2 := 0) (r3 := 0) rfl (by omega) (by omega) (fun (q8 : 4 ≤ x5) => ?_) (fun (q8 : ¬ (4 ≤ x5)) => ?_)
  ·
    refine wi_aload_n (i := 0) (x := 18) (nx := 60) (r1 := 0) (r2 := 0) (r3 := 0) rfl rfl ?_
    refine wr_gr (k0 := 18) (x := 22) (nx := 63) (r1 := 4) (r2 := 4) (r3 := 0) rfl rfl (by decide) rfl ⟨rfl, rfl⟩ rfl ?_
    refine wi_iconst (n := 0) (nx := 64) (r1 := 0) (r2 := 0) (r3 := 0) rfl ?_
    refine wr_pf0 (k0 := 22) (x := 0) (bl := 0) (bh := 12) (nx := 67) (r1 := 5) (r2 := 1) (r3 := 0) rfl (by decide) rfl ⟨rfl, rfl⟩ rfl rfl g6 rfl (by omega) (fun h9 g9 w9 u9 => ?_)
    have F10 := F7.then rfl u9
    refine wi_aload_n (i := 0) (x := 18) (nx := 68) (r1 := 0) (r2 := 0) (r3 := 0) rfl rfl ?_
    refine wr_gr (k0 := 18) (x := 24) (nx := 71) (r1 := 4) (r2 := 5) (r3 := 0) rfl rfl (by decide) rfl ⟨rfl, rfl⟩ rfl ?_
    refine wi_iconst (n := 0) (nx := 72) (r1 := 0) (r2 := 0) (r3 := 0) rfl ?_
    refine wr_pf0 (k0 := 24) (x := 0) (bl := 0) (bh := 12) (nx := 75) (r1 := 5) (r2 := 1) (r3 := 0) rfl (by decide) rfl ⟨rfl, rfl⟩ rfl rfl g9 rfl (by omega) (fun h11 g11 w11 u11 => ?_)
    have F12 := F10.then rfl u11
    refine wi_aload_n (i := 0) (x := 18) (nx := 76) (r1 := 0) (r2 := 0) (r3 := 0) rfl rfl ?_
    refine wr_gr (k0 := 18) (x := 26) (nx := 79) (r1 := 4) (r2 := 6) (r3 := 0) rfl rfl (by decide) rfl ⟨rfl, rfl⟩ rfl ?_
    refine wi_iconst (n := 0) (nx := 80) (r1 := 0) (r2 := 0) (r3 := 0) rfl ?_
    refine wr_pf0 (k0 := 26) (x := 0) (bl := 0) (bh := 12) (nx := 83) (r1 := 5) (r2 := 1) (r3 := 0) rfl (by decide) rfl ⟨rfl, rfl⟩ rfl rfl g11 rfl (by omega) (fun h13 g13 w13 u13 => ?_)
    have F14 := F12.then rfl u13
    refine wi_aload_n (i := 0) (x := 18) (nx := 84) (r1 := 0) (r2 := 0) (r3 := 0) rfl rfl ?_
    refine wi_iconst (n := 0) (nx := 85) (r1 := 0) (r2 := 0) (r3 := 0) rfl ?_
    refine wr_pf0 (k0 := 18) (x := 0) (bl := 0) (bh := 12) (nx := 88) (r1 := 4) (r2 := 7) (r3 := 0) rfl (by decide) rfl ⟨rfl, rfl⟩ rfl rfl g13 rfl (by omega) (fun h15 g15 w15 u15 => ?_)
    have F16 := F14.then rfl u15
    refine wi_aload_n (i := 0) (x := 18) (nx := 89) (r1 := 0) (r2 := 0) (r3 := 0) rfl rfl ?_
    refine wi_iconst (n := (-1)) (nx := 90) (r1 := 0) (r2 := 0) (r3 := 0) rfl ?_
    refine wr_pf0 (k0 := 18) (x := -1) (bl := -2147483648) (bh := 2147483647) (nx := 93) (r1 := 4) (r2 := 8) (r3 := 0) rfl (by decide) rfl ⟨rfl, rfl⟩ rfl rfl g15 rfl (by omega) (fun h17 g17 w17 u17 => ?_)
    have F18 := F16.then rfl u17
    refine wi_aload_n (i := 0) (x := 18) (nx := 94) (r1 := 0) (r2 := 0) (r3 := 0) rfl rfl ?_
    refine wi_iconst (n := 0) (nx := 95) (r1 := 0) (r2 := 0) (r3 := 0) rfl ?_
    refine wr_pf0 (k0 := 18) (x := 0) (bl := -2147483648) (bh := 2147483647) (nx := 98) (r1 := 4) (r2 := 9) (r3 := 0) rfl (by decide) rfl ⟨rfl, rfl⟩ rfl rfl g17 rfl (by omega) (fun h19 g19 w19 u19 => ?_)
    have F20 := F18.then rfl u19
    refine wi_aload_n (i := 0) (x := 18) (nx := 99) (r1 := 0) (r2 := 0) (r3 := 0) rfl rfl ?_
    refine wi_iconst (n := 0) (nx := 100) (r1 := 0) (r2 := 0) (r3 := 0) rfl ?_
    refine wr_pf0 (k0 := 18) (x := 0) (bl := -2147483648) (bh := 2147483647) (nx := 103) (r1 := 4) (r2 := 10) (r3 := 0) rfl (by decide) rfl ⟨rfl, rfl⟩ rfl rfl g19 rfl (by omega) (fun h21 g21 w21 u21 => ?_)
    have F22 := F20.then rfl u21
    refine wi_aload_n (i := 0) (x := 18) (nx := 104) (r1 := 0) (r2 := 0) (r3 := 0) rfl rfl ?_
    refine wi_iconst (n := 0) (nx := 105) (r1 := 0) (r2 := 0) (r3 := 0) rfl ?_
    refine wr_pf0 (k0 := 18) (x := 0) (bl := -2147483648) (bh := 2147483647) (nx := 108) (r1 := 4) (r2 := 11) (r3 := 0) rfl (by decide) rfl ⟨rfl, rfl⟩ rfl rfl g21 rfl (by omega) (fun h23 g23 w23 u23 => ?_)
    have F24 := F22.then rfl u23
    refine wi_aload_n (i := 0) (x := 18) (nx := 109) (r1 := 0) (r2 := 0) (r3 := 0) rfl rfl ?_
    refine wi_iconst (n := 0) (nx := 110) (r1 := 0) (r2 := 0) (r3 := 0) rfl ?_
    refine wr_pf0 (k0 := 18) (x := 0) (bl := -2147483648) (bh := 2147483647) (nx := 113) (r1 := 4) (r2 := 12) (r3 := 0) rfl (by decide) rfl ⟨rfl, rfl⟩ rfl rfl g23 rfl (by omega) (fun h25 g25 w25 u25 => ?_)
    have F26 := F24.then rfl u25
    refine wi_aload_n (i := 0) (x := 18) (nx := 114) (r1 := 0) (r2 := 0) (r3 := 0) rfl rfl ?_
    refine wi_iconst (n := 0) (nx := 115) (r1 := 0) (r2 := 0) (r3 := 0) rfl ?_
    refine wr_pf0 (k0 := 18) (x := 0) (bl := -2147483648) (bh := 2147483647) (nx := 118) (r1 := 4) (r2 := 13) (r3 := 0) rfl (by decide) rfl ⟨rfl, rfl⟩ rfl rfl g25 rfl (by omega) (fun h27 g27 w27 u27 => ?_)
    have F28 := F26.then rfl u27
    refine wi_aload_n (i := 0) (x := 18) (nx := 119) (r1 := 0) (r2 := 0) (r3 := 0) rfl rfl ?_
    refine wi_iconst (n := 0) (nx := 120) (r1 := 0) (r2 := 0) (r3 := 0) rfl ?_
    refine wr_pf0 (k0 := 18) (x := 0) (bl := 0) (bh := 36) (nx := 123) (r1 := 4) (r2 := 15) (r3 := 0) rfl (by decide) rfl ⟨rfl, rfl⟩ rfl rfl g27 rfl (by omega) (fun h29 g29 w29 u29 => ?_)
    have F30 := F28.then rfl u29
    refine wi_aload_n (i := 0) (x := 18) (nx := 124) (r1 := 0) (r2 := 0) (r3 := 0) rfl rfl ?_
    refine wi_dup (nx := 125) (r1 := 0) (r2 := 0) (r3 := 0) rfl rfl ?_
    have b31 := gi_b (lo := -2147483648) (hi := 2147483647) g 18 16 rfl
    refine wr_gi0 (k0 := 18) (x := h 18 16) (nx := 128) (r1 := 4) (r2 := 16) (r3 := 0) rfl rfl (by decide) rfl ⟨rfl, rfl⟩ rfl ((u29 18 16 rfl).trans ((u27 18 16 rfl).trans ((u25 18 16 rfl).trans ((u23 18 16 rfl).trans ((u21 18 16 rfl).trans ((u19 18 16 rfl).trans ((u17 18 16 rfl).trans ((u15 18 16 rfl).trans ((u13 18 16 rfl).trans ((u11 18 16 rfl).trans ((u9 18 16 rfl).trans ((u6 18 16 rfl).trans ((u3 18 16 rfl).trans (u1 18 16 rfl)))))))))))))) ?_
    refine wi_iconst (n := 1) (nx := 129) (r1 := 0) (r2 := 0) (r3 := 0) rfl ?_
    refine wr_addW (nx := 130) (r1 := 0) (r2 := 0) (r3 := 0) rfl (fun e32 (fe32 : -2147483648 ≤ e32 ∧ e32 ≤ 2147483647) => ?_)
    refine wr_pf0 (k0 := 18) (x := e32) (bl := -2147483648) (bh := 2147483647) (nx := 133) (r1 := 4) (r2 := 16) (r3 := 0) rfl (by decide) rfl ⟨rfl, rfl⟩ rfl rfl g29 rfl (by omega) (fun h33 g33 w33 u33 => ?_)
    have F34 := F30.then rfl u33
    refine wi_return (nx := 134) (r1 := 0) (r2 := 0) (r3 := 0) rfl rfl ?_
    exact k h33 g33 F34
  ·
    refine wi_aload_n (i := 0) (x := 18) (nx := 44) (r1 := 0) (r2 := 0) (r3 := 0) rfl rfl ?_
    refine wr_gr (k0 := 18) (x := 21) (nx := 47) (r1 := 4) (r2 := 3) (r3 := 0) rfl rfl (by decide) rfl ⟨rfl, rfl⟩ rfl ?_
    refine wi_iload_n (i := 1) (e := x5) (nx := 48) (r1 := 0) (r2 := 0) (r3 := 0) rfl rfl ?_
    obtain ⟨i9, ei9⟩ : ∃ q : Nat, x5 = (q : Int) := ⟨(x5).toNat, by omega⟩
    refine wr_aa (k0 := 21) (a := x5) (f := i9) (x := 21 + 8 + 2 * i9) (nx := 49) (r1 := 0) (r2 := 0) (r3 := 0) rfl (by decide) rfl (Or.inl rfl) (by omega) (by omega) (by decide) (hcr.1 21 (by decide) i9 (by omega)) ?_
    obtain ⟨k10, kk10, mk10⟩ : ∃ q, Rw q ∧ q = 21 + 8 + 2 * i9 := ⟨_, rw_lane 21 (by decide) i9 (by omega), rfl⟩
    rw [← mk10]
    refine wi_iconst (n := 0) (nx := 50) (r1 := 0) (r2 := 0) (r3 := 0) rfl ?_
    refine wr_pf0 (k0 := k10) (x := 0) (bl := 0) (bh := 12) (nx := 53) (r1 := 5) (r2 := 1) (r3 := 0) rfl kk10.k kk10.1 ⟨rfl, rfl⟩ rfl rfl g6 kk10.2.2.2.1 (by omega) (fun h11 g11 w11 u11 => ?_)
    have F12 := F7.then rfl (FR.rngp (lo := 29) (hi := 36) u11 (by omega))
    have F13 := u6.then rfl (FR.rngp (lo := 29) (hi := 36) u11 (by omega))
    refine wr_iinc (i := 1) (n := 1) (v := x5) (fun e14 => [(1, vi e14), (0, .ref 18)]) (nx := 56) (r1 := 0) (r2 := 0) (r3 := 0) rfl rfl (fun _ => rfl) (fun e14 (fe14 : e14 = x5 + 1) => ?_)
    refine wi_goto (nx := 59) (r1 := 38) (r2 := 0) (r3 := 0) rfl ?_
    refine wp.lo (lo := [(0, .ref 18), (1, vi e14)]) ⟨rfl, rfl, trivial⟩ rfl ?_
    exact I6 e14 h11 ⟨g11, F12, F13, (show (0 ≤ e14 ∧ e14 ≤ 4) by omega)⟩ (show ((4 : Int) + 1 - e14).toNat < ((4 : Int) + 1 - x5).toNat by omega)
-- method 195: History.forget()V
set_option maxRecDepth 100000 in
set_option maxHeartbeats 100000000 in
theorem ct_195_73 {L : Nat} {xs : Nat → Int32} {d b c : Nat} {h : hp} {cr : Nat → Nat → Option Nat} {Q : hp_Q} (hcr : CR cr)  (g : GI h)    (k : ∀ (h2 : hp) , GI h2 → FR [(73, 73, some (2, 2))] h h2 → Q (.inl none) (hp_w h2 cr) b c) : wp (md_xa (L, xs)) d 195 (0, [(0, .ref 73)], [], hp_w h cr, b, c) Q := by
  have F0 : FR [(73, 73, some (2, 2))] h h := FR.refl
  refine wi_aload_n (i := 0) (x := 73) (nx := 1) (r1 := 0) (r2 := 0) (r3 := 0) rfl rfl ?_
  refine wi_iconst (n := 0) (nx := 2) (r1 := 0) (r2 := 0) (r3 := 0) rfl ?_
  refine wr_pf0 (k0 := 73) (x := 0) (bl := 0) (bh := 6) (nx := 5) (r1 := 9) (r2 := 2) (r3 := 0) rfl (by decide) rfl ⟨rfl, rfl⟩ rfl rfl g rfl (by omega) (fun h1 g1 w1 u1 => ?_)
  have F2 := F0.then rfl u1
  refine wi_return (nx := 6) (r1 := 0) (r2 := 0) (r3 := 0) rfl rfl ?_
  exact k h1 g1 F2
-- method 63: Bank.readSetup()I
set_option maxRecDepth 100000 in
set_option maxHeartbeats 100000000 in
theorem ct_63_0 {L : Nat} {xs : Nat → Int32} {d b c : Nat} {h : hp} {cr : Nat → Nat → Option Nat} {Q : hp_Q} (hcr : CR cr) (hr : 1 ≤ b ∧ 6 ≤ c)  {tB : Nat → Int} {tn  : Int} (g : GI h)    (xq0 : BufC tB tn h) (k : ∀ (h2 : hp) (z0 : Int) , GI h2 → FR [(4, 4, none), (5, 5, none), (6, 6, none), (7, 7, none), (8, 8, none), (9, 9, none), (12, 12, none), (13, 13, none), (14, 14, none), (15, 15, none), (16, 16, none), (17, 17, none), (18, 36, none), (1, 1, some (1, 1)), (1, 1, some (2, 2)), (1, 1, some (3, 3)), (1, 1, some (4, 4)), (1, 1, some (5, 5)), (1, 1, some (6, 6)), (1, 1, some (7, 7)), (1, 1, some (8, 8)), (1, 1, some (9, 9)), (3, 3, some (0, 0)), (3, 3, some (1, 1)), (3, 3, some (2, 2)), (3, 3, some (3, 3)), (3, 3, some (4, 4)), (3, 3, some (5, 5)), (3, 3, some (6, 6)), (3, 3, some (7, 7)), (3, 3, some (8, 8)), (3, 3, some (9, 9)), (10, 10, some (2, 2)), (10, 10, some (3, 3)), (10, 10, some (4, 4)), (10, 10, some (5, 5)), (11, 11, some (0, 0)), (11, 11, some (1, 1)), (11, 11, some (2, 2)), (11, 11, some (3, 3)), (11, 11, some (4, 4)), (11, 11, some (5, 5)), (11, 11, some (6, 6)), (11, 11, some (7, 7)), (11, 11, some (8, 8)), (11, 11, some (9, 9)), (73, 73, some (2, 2))] h h2 → (0 ≤ z0 ∧ z0 ≤ 800) → (h2 1 1 = 0) → (tk_ok tB tn = 1) → (z0 = tk_ct tB tn) → (h2 1 2 = tk_ec tB tn) → (h2 1 3 = tk_ep tB tn) → (CVS (tk_ss tB tn) (h2 3) (h2 5) (h2 6) (h2 8)) → Q (.inl (some (vi z0))) (hp_w h2 cr) b c) (kx1 : ∀ (h2 : hp), GI h2 → FR [(4, 4, none), (5, 5, none), (6, 6, none), (7, 7, none), (8, 8, none), (9, 9, none), (12, 12, none), (13, 13, none), (14, 14, none), (15, 15, none), (16, 16, none), (17, 17, none), (18, 36, none), (1, 1, some (1, 1)), (1, 1, some (2, 2)), (1, 1, some (3, 3)), (1, 1, some (4, 4)), (1, 1, some (5, 5)), (1, 1, some (6, 6)), (1, 1, some (7, 7)), (1, 1, some (8, 8)), (1, 1, some (9, 9)), (3, 3, some (0, 0)), (3, 3, some (1, 1)), (3, 3, some (2, 2)), (3, 3, some (3, 3)), (3, 3, some (4, 4)), (3, 3, some (5, 5)), (3, 3, some (6, 6)), (3, 3, some (7, 7)), (3, 3, some (8, 8)), (3, 3, some (9, 9)), (10, 10, some (2, 2)), (10, 10, some (3, 3)), (10, 10, some (4, 4)), (10, 10, some (5, 5)), (11, 11, some (0, 0)), (11, 11, some (1, 1)), (11, 11, some (2, 2)), (11, 11, some (3, 3)), (11, 11, some (4, 4)), (11, 11, some (5, 5)), (11, 11, some (6, 6)), (11, 11, some (7, 7)), (11, 11, some (8, 8)), (11, 11, some (9, 9)), (73, 73, some (2, 2))] h h2 → (h2 1 1 = 0) → (tk_ok tB tn = 0) → (h2 1 2 = tk_ec tB tn) → (h2 1 3 = tk_ep tB tn) → (KSc h h2) → Q (.inr 1) (hp_w h2 cr) (b - 1) (c - 6)) : wp (md_xa (L, xs)) (d + 7) 63 (0, [(0, .ref 0)], [], hp_w h cr, b, c) Q := by
  have F0 : FR [(4, 4, none), (5, 5, none), (6, 6, none), (7, 7, none), (8, 8, none), (9, 9, none), (12, 12, none), (13, 13, none), (14, 14, none), (15, 15, none), (16, 16, none), (17, 17, none), (18, 36, none), (1, 1, some (1, 1)), (1, 1, some (2, 2)), (1, 1, some (3, 3)), (1, 1, some (4, 4)), (1, 1, some (5, 5)), (1, 1, some (6, 6)), (1, 1, some (7, 7)), (1, 1, some (8, 8)), (1, 1, some (9, 9)), (3, 3, some (0, 0)), (3, 3, some (1, 1)), (3, 3, some (2, 2)), (3, 3, some (3, 3)), (3, 3, some (4, 4)), (3, 3, some (5, 5)), (3, 3, some (6, 6)), (3, 3, some (7, 7)), (3, 3, some (8, 8)), (3, 3, some (9, 9)), (10, 10, some (2, 2)), (10, 10, some (3, 3)), (10, 10, some (4, 4)), (10, 10, some (5, 5)), (11, 11, some (0, 0)), (11, 11, some (1, 1)), (11, 11, some (2, 2)), (11, 11, some (3, 3)), (11, 11, some (4, 4)), (11, 11, some (5, 5)), (11, 11, some (6, 6)), (11, 11, some (7, 7)), (11, 11, some (8, 8)), (11, 11, some (9, 9)), (73, 73, some (2, 2))] h h := FR.refl
  have tb_1 : h 1 1 = tn := xq0.2.1
  have tb_2 : 0 ≤ tn ∧ tn ≤ 800 := xq0.2.2
  refine wi_aload_n (i := 0) (x := 0) (nx := 1) (r1 := 0) (r2 := 0) (r3 := 0) rfl rfl ?_
  refine wr_gr (k0 := 0) (x := 10) (nx := 4) (r1 := 0) (r2 := 2) (r3 := 0) rfl rfl (by decide) rfl ⟨rfl, rfl⟩ rfl ?_
  refine wr_V (k0 := 10) (rest := []) (as := [.ref 10]) (nx := 7) (r1 := 117) (r2 := 0) (r3 := 3) rfl rfl rfl (of_decide_eq_true rfl) rfl rfl (by decide) rfl rfl (of_decide_eq_true rfl) (of_decide_eq_true rfl) ?_
  refine ct_117_10 hcr  g    xq0 (fun h1 z2 g1 u1 (fz2 : -1 ≤ z2 ∧ z2 ≤ 800) (p1_0 : (z2 = -1 ∧ tk_ok tB tn = 0) ∨ (0 ≤ z2 ∧ tk_ok tB tn = 1 ∧ z2 = tk_ct tB tn)) (p1_1 : (h1 1 2) = tk_ec tB tn) (p1_2 : (h1 1 3) = tk_ep tB tn) y1_0 => ?_)
  have F3 := F0.then (by decide +kernel) u1
  have b4 := gi_b (lo := -2147483648) (hi := 2147483647) g1 1 2 rfl
  have b5 := gi_b (lo := -2147483648) (hi := 2147483647) g1 1 3 rfl
  refine wk_i ?_
  refine wi_istore_n (i := 1) (e := z2) (lo2 := [(1, vi z2), (0, .ref 0)]) (nx := 8) (r1 := 0) (r2 := 0) (r3 := 0) rfl rfl ?_
  refine wi_aload_n (i := 0) (x := 0) (nx := 9) (r1 := 0) (r2 := 0) (r3 := 0) rfl rfl ?_
  refine wr_gr (k0 := 0) (x := 1) (nx := 12) (r1 := 0) (r2 := 0) (r3 := 0) rfl rfl (by decide) rfl ⟨rfl, rfl⟩ rfl ?_
  refine wi_iconst (n := 0) (nx := 13) (r1 := 0) (r2 := 0) (r3 := 0) rfl ?_
  refine wr_pf0 (k0 := 1) (x := 0) (bl := 0) (bh := 800) (nx := 16) (r1 := 1) (r2 := 1) (r3 := 0) rfl (by decide) rfl ⟨rfl, rfl⟩ rfl rfl g1 rfl (by omega) (fun h6 g6 w6 u6 => ?_)
  have F7 := F3.then rfl u6
  refine wi_iload_n (i := 1) (e := z2) (nx := 17) (r1 := 0) (r2 := 0) (r3 := 0) rfl rfl ?_
  refine wi_iconst (n := (-1)) (nx := 18) (r1 := 0) (r2 := 0) (r3 := 0) rfl ?_
  refine wi_icmp (cd := .ne) (nx := 21) (r1 := 31) (r2 := 0) (r3 := 0) rfl (by omega) (by omega) (fun (q8 : z2 ≠ (-1)) => ?_) (fun (q8 : ¬ (z2 ≠ (-1))) => ?_)
  ·
    refine wi_aload_n (i := 0) (x := 0) (nx := 32) (r1 := 0) (r2 := 0) (r3 := 0) rfl rfl ?_
    refine wr_gr (k0 := 0) (x := 3) (nx := 35) (r1 := 0) (r2 := 1) (r3 := 0) rfl rfl (by decide) rfl ⟨rfl, rfl⟩ rfl ?_
    refine wi_aload_n (i := 0) (x := 0) (nx := 36) (r1 := 0) (r2 := 0) (r3 := 0) rfl rfl ?_
    refine wr_gr (k0 := 0) (x := 10) (nx := 39) (r1 := 0) (r2 := 2) (r3 := 0) rfl rfl (by decide) rfl ⟨rfl, rfl⟩ rfl ?_
    refine wr_gr (k0 := 10) (x := 11) (nx := 42) (r1 := 3) (r2 := 0) (r3 := 0) rfl rfl (by decide) rfl ⟨rfl, rfl⟩ rfl ?_
    refine wr_V (k0 := 3) (rest := []) (as := [.ref 3, .ref 11]) (nx := 45) (r1 := 114) (r2 := 1) (r3 := 2) rfl rfl rfl (of_decide_eq_true rfl) rfl rfl (by decide) rfl rfl (of_decide_eq_true rfl) (of_decide_eq_true rfl) ?_
    refine ct_114_3_11 hcr  g6    (fun h9 g9 u9 y9_0 => ?_)
    have F10 := F7.then (by decide +kernel) u9
    refine wk_n ?_
    refine wi_aload_n (i := 0) (x := 0) (nx := 46) (r1 := 0) (r2 := 0) (r3 := 0) rfl rfl ?_
    refine wr_gr (k0 := 0) (x := 18) (nx := 49) (r1 := 0) (r2 := 3) (r3 := 0) rfl rfl (by decide) rfl ⟨rfl, rfl⟩ rfl ?_
    refine wr_V (k0 := 18) (rest := []) (as := [.ref 18]) (nx := 52) (r1 := 151) (r2 := 0) (r3 := 4) rfl rfl rfl (of_decide_eq_true rfl) rfl rfl (by decide) rfl rfl (of_decide_eq_true rfl) (of_decide_eq_true rfl) ?_
    refine ct_151_18 hcr  g9    (fun h11 g11 u11 => ?_)
    have F12 := F10.then (by decide +kernel) u11
    refine wk_n ?_
    refine wi_aload_n (i := 0) (x := 0) (nx := 53) (r1 := 0) (r2 := 0) (r3 := 0) rfl rfl ?_
    refine wr_gr (k0 := 0) (x := 73) (nx := 56) (r1 := 0) (r2 := 8) (r3 := 0) rfl rfl (by decide) rfl ⟨rfl, rfl⟩ rfl ?_
    refine wr_V (k0 := 73) (rest := []) (as := [.ref 73]) (nx := 59) (r1 := 195) (r2 := 0) (r3 := 9) rfl rfl rfl (of_decide_eq_true rfl) rfl rfl (by decide) rfl rfl (of_decide_eq_true rfl) (of_decide_eq_true rfl) ?_
    refine ct_195_73 hcr  g11    (fun h13 g13 u13 => ?_)
    have F14 := F12.then (by decide +kernel) u13
    refine wk_n ?_
    refine wi_iload_n (i := 1) (e := z2) (nx := 60) (r1 := 0) (r2 := 0) (r3 := 0) rfl rfl ?_
    refine wi_ireturn (nx := 61) (r1 := 0) (r2 := 0) (r3 := 0) rfl rfl ?_
    have e15 : h13 1 1 = 0 := ((u13 1 1 rfl).trans ((u11 1 1 rfl).trans ((u9 1 1 rfl).trans w6)))
    have e16 : h13 1 2 = h1 1 2 := ((u13 1 2 rfl).trans ((u11 1 2 rfl).trans ((u9 1 2 rfl).trans (u6 1 2 rfl))))
    have e17 : h13 1 3 = h1 1 3 := ((u13 1 3 rfl).trans ((u11 1 3 rfl).trans ((u9 1 3 rfl).trans (u6 1 3 rfl))))
    have cv18 := y1_0 (by omega)
    have cv19 := CVc.fr u6 rfl cv18
    have b20 := gi_b (lo := 0) (hi := 5) g1 11 0 rfl
    have e21 : h6 11 0 = h1 11 0 := (u6 11 0 rfl)
    have b22 := gi_b (lo := 0) (hi := 4) g1 11 1 rfl
    have e23 : h6 11 1 = h1 11 1 := (u6 11 1 rfl)
    have b24 := gi_b (lo := 0) (hi := 12) g1 11 2 rfl
    have e25 : h6 11 2 = h1 11 2 := (u6 11 2 rfl)
    exact k h13 z2 g13 F14 (by omega) (show (h13 1 1) = 0 by omega) (show tk_ok tB tn = 1 by omega) (show z2 = tk_ct tB tn by omega) (show (h13 1 2) = tk_ec tB tn by omega) (show (h13 1 3) = tk_ep tB tn by omega) (CVS.of cv19 (by omega) y9_0 (fun i => ((u13 3 i (fn_a (by omega) fn_0)).trans (u11 3 i (fn_a (by omega) fn_0)))) (fun i => ((u13 5 i (fn_a (by omega) fn_0)).trans (u11 5 i (fn_a (by omega) fn_0)))) (fun i => ((u13 6 i (fn_a (by omega) fn_0)).trans (u11 6 i (fn_a (by omega) fn_0)))) (fun i => ((u13 8 i (fn_a (by omega) fn_0)).trans (u11 8 i (fn_a (by omega) fn_0)))))
  ·
    refine wr_throw (Ex := 1) (nx := 24) (r1 := 1) (r2 := 0) (r3 := 1) rfl (by decide) rfl hr (by decide) ?_
    have e9 : h6 1 1 = 0 := w6
    have e10 : h6 1 2 = h1 1 2 := (u6 1 2 rfl)
    have e11 : h6 1 3 = h1 1 3 := (u6 1 3 rfl)
    exact kx1 h6 g6 F7 (show (h6 1 1) = 0 by omega) (show tk_ok tB tn = 0 by omega) (show (h6 1 2) = tk_ec tB tn by omega) (show (h6 1 3) = tk_ep tB tn by omega) ⟨(fun i => ((u6 3 i (fn_a (by omega) fn_0)).trans (u1 3 i (fo_nk rfl)))), (fun i => ((u6 5 i (fn_a (by omega) fn_0)).trans (u1 5 i (fo_nk rfl)))), (fun i => ((u6 6 i (fn_a (by omega) fn_0)).trans (u1 6 i (fo_nk rfl)))), (fun i => ((u6 8 i (fn_a (by omega) fn_0)).trans (u1 8 i (fo_nk rfl))))⟩
-- method 129: Line.timeToReady()I
set_option maxRecDepth 100000 in
set_option maxHeartbeats 100000000 in
theorem ct_129_18 {L : Nat} {xs : Nat → Int32} {d b c : Nat} {h : hp} {cr : Nat → Nat → Option Nat} {Q : hp_Q} (hcr : CR cr)  (g : GI h)    (k : ∀ (z0 : Int), (-1 ≤ z0 ∧ z0 ≤ 2147483647) → Q (.inl (some (vi z0))) (hp_w h cr) b c) : wp (md_xa (L, xs)) (d + 1) 129 (0, [(0, .ref 18)], [], hp_w h cr, b, c) Q := by
  have F0 : FR [] h h := FR.refl
  refine wi_aload_n (i := 0) (x := 18) (nx := 1) (r1 := 0) (r2 := 0) (r3 := 0) rfl rfl ?_
  refine wr_gr (k0 := 18) (x := 22) (nx := 4) (r1 := 4) (r2 := 4) (r3 := 0) rfl rfl (by decide) rfl ⟨rfl, rfl⟩ rfl ?_
  have b1 := gi_b (lo := 0) (hi := 12) g 22 1 rfl
  refine wr_gi0 (k0 := 22) (x := h 22 1) (nx := 7) (r1 := 5) (r2 := 1) (r3 := 0) rfl rfl (by decide) rfl ⟨rfl, rfl⟩ rfl rfl ?_
  refine wi_if (cd := .ne) (nx := 10) (r1 := 14) (r2 := 0) (r3 := 0) rfl (by omega) (fun (q2 : (h 22 1) ≠ 0) => ?_) (fun (q2 : ¬ ((h 22 1) ≠ 0)) => ?_)
  ·
    refine wi_iconst (n := 0) (nx := 15) (r1 := 0) (r2 := 0) (r3 := 0) rfl ?_
    refine wi_aload_n (i := 0) (x := 18) (nx := 16) (r1 := 0) (r2 := 0) (r3 := 0) rfl rfl ?_
    refine wr_gr (k0 := 18) (x := 24) (nx := 19) (r1 := 4) (r2 := 5) (r3 := 0) rfl rfl (by decide) rfl ⟨rfl, rfl⟩ rfl ?_
    refine wi_iconst (n := 0) (nx := 20) (r1 := 0) (r2 := 0) (r3 := 0) rfl ?_
    refine wr_V (k0 := 24) (rest := [vi 0]) (as := [.ref 24, vi 0]) (nx := 23) (r1 := 154) (r2 := 1) (r3 := 5) rfl rfl rfl (of_decide_eq_true rfl) rfl rfl (by decide) rfl rfl (of_decide_eq_true rfl) (of_decide_eq_true rfl) ?_
    refine ct_154_R hcr rw_24 g 0 (by omega)  (fun z4  (fz4 : -2147483648 ≤ z4 ∧ z4 ≤ 2147483647) => ?_)
    refine wk_i ?_
    refine wi_aload_n (i := 0) (x := 18) (nx := 24) (r1 := 0) (r2 := 0) (r3 := 0) rfl rfl ?_
    have b5 := gi_b (lo := -2147483648) (hi := 2147483647) g 18 10 rfl
    refine wr_gi0 (k0 := 18) (x := h 18 10) (nx := 27) (r1 := 4) (r2 := 10) (r3 := 0) rfl rfl (by decide) rfl ⟨rfl, rfl⟩ rfl rfl ?_
    refine wr_subW (nx := 28) (r1 := 0) (r2 := 0) (r3 := 0) rfl (fun e6 (fe6 : -2147483648 ≤ e6 ∧ e6 ≤ 2147483647) => ?_)
    refine wi_S (rest := []) (as := [vi 0, vi e6]) (nx := 31) (r1 := 354) (r2 := 18) (r3 := 0) rfl rfl rfl (of_decide_eq_true rfl) rfl rfl (of_decide_eq_true rfl) (of_decide_eq_true rfl) ?_
    refine wi_iload_n (i := 0) (e := 0) (nx := 1) (r1 := 0) (r2 := 0) (r3 := 0) rfl rfl ?_
    refine wi_iload_n (i := 1) (e := e6) (nx := 2) (r1 := 0) (r2 := 0) (r3 := 0) rfl rfl ?_
    refine wi_icmp (cd := .lt) (nx := 5) (r1 := 9) (r2 := 0) (r3 := 0) rfl (by omega) (by omega) (fun (q7 : 0 < e6) => ?_) (fun (q7 : ¬ (0 < e6)) => ?_)
    ·
      refine wi_iload_n (i := 1) (e := e6) (nx := 10) (r1 := 0) (r2 := 0) (r3 := 0) rfl rfl ?_
      refine wi_ireturn (nx := 11) (r1 := 0) (r2 := 0) (r3 := 0) rfl rfl ?_
      refine wk_i ?_
      refine wi_ireturn (nx := 32) (r1 := 0) (r2 := 0) (r3 := 0) rfl rfl ?_
      exact k e6 (by omega)
    ·
      refine wi_iload_n (i := 0) (e := 0) (nx := 6) (r1 := 0) (r2 := 0) (r3 := 0) rfl rfl ?_
      refine wi_goto (nx := 9) (r1 := 10) (r2 := 0) (r3 := 0) rfl ?_
      refine wi_ireturn (nx := 11) (r1 := 0) (r2 := 0) (r3 := 0) rfl rfl ?_
      refine wk_i ?_
      refine wi_ireturn (nx := 32) (r1 := 0) (r2 := 0) (r3 := 0) rfl rfl ?_
      exact k 0 (by omega)
  ·
    refine wi_iconst (n := (-1)) (nx := 11) (r1 := 0) (r2 := 0) (r3 := 0) rfl ?_
    refine wi_goto (nx := 14) (r1 := 31) (r2 := 0) (r3 := 0) rfl ?_
    refine wi_ireturn (nx := 32) (r1 := 0) (r2 := 0) (r3 := 0) rfl rfl ?_
    exact k (-1) (by omega)
-- method 33: Bank.readyIn()I
set_option maxRecDepth 100000 in
set_option maxHeartbeats 100000000 in
theorem ct_33_0 {L : Nat} {xs : Nat → Int32} {d b c : Nat} {h : hp} {cr : Nat → Nat → Option Nat} {Q : hp_Q} (hcr : CR cr)  (g : GI h)    (k : ∀ (z0 : Int), (-1 ≤ z0 ∧ z0 ≤ 2147483647) → Q (.inl (some (vi z0))) (hp_w h cr) b c) : wp (md_xa (L, xs)) (d + 2) 33 (0, [(0, .ref 0)], [], hp_w h cr, b, c) Q := by
  have F0 : FR [] h h := FR.refl
  refine wi_aload_n (i := 0) (x := 0) (nx := 1) (r1 := 0) (r2 := 0) (r3 := 0) rfl rfl ?_
  refine wr_gr (k0 := 0) (x := 18) (nx := 4) (r1 := 0) (r2 := 3) (r3 := 0) rfl rfl (by decide) rfl ⟨rfl, rfl⟩ rfl ?_
  refine wr_V (k0 := 18) (rest := []) (as := [.ref 18]) (nx := 7) (r1 := 129) (r2 := 0) (r3 := 4) rfl rfl rfl (of_decide_eq_true rfl) rfl rfl (by decide) rfl rfl (of_decide_eq_true rfl) (of_decide_eq_true rfl) ?_
  refine ct_129_18 hcr  g    (fun z2  (fz2 : -1 ≤ z2 ∧ z2 ≤ 2147483647) => ?_)
  refine wk_i ?_
  refine wi_ireturn (nx := 8) (r1 := 0) (r2 := 0) (r3 := 0) rfl rfl ?_
  exact k z2 (by omega)
-- method 199: Report.add(I)V
set_option maxRecDepth 100000 in
set_option maxHeartbeats 100000000 in
theorem ct_199_208 {L : Nat} {xs : Nat → Int32} {d b c : Nat} {h : hp} {cr : Nat → Nat → Option Nat} {Q : hp_Q} (hcr : CR cr)  (g : GI h) (a0 : Int) (q0_ : -2147483648 ≤ a0 ∧ a0 ≤ 2147483647)  (k : ∀ (h2 : hp) , GI h2 → FR [(209, 209, none), (208, 208, some (1, 1))] h h2 → Q (.inl none) (hp_w h2 cr) b c) : wp (md_xa (L, xs)) d 199 (0, [(0, .ref 208), (1, vi a0)], [], hp_w h cr, b, c) Q := by
  have F0 : FR [(209, 209, none), (208, 208, some (1, 1))] h h := FR.refl
  refine wi_aload_n (i := 0) (x := 208) (nx := 1) (r1 := 0) (r2 := 0) (r3 := 0) rfl rfl ?_
  have b1 := gi_b (lo := 0) (hi := 152) g 208 1 rfl
  refine wr_gi0 (k0 := 208) (x := h 208 1) (nx := 4) (r1 := 10) (r2 := 1) (r3 := 0) rfl rfl (by decide) rfl ⟨rfl, rfl⟩ rfl rfl ?_
  refine wi_aload_n (i := 0) (x := 208) (nx := 5) (r1 := 0) (r2 := 0) (r3 := 0) rfl rfl ?_
  refine wr_gr (k0 := 208) (x := 209) (nx := 8) (r1 := 10) (r2 := 0) (r3 := 0) rfl rfl (by decide) rfl ⟨rfl, rfl⟩ rfl ?_
  refine wr_al (k0 := 209) (e := 152) (nx := 9) (r1 := 0) (r2 := 0) (r3 := 0) rfl (by decide) rfl rfl ?_
  refine wi_icmp (cd := .ge) (nx := 12) (r1 := 33) (r2 := 0) (r3 := 0) rfl (by omega) (by omega) (fun (q2 : 152 ≤ (h 208 1)) => ?_) (fun (q2 : ¬ (152 ≤ (h 208 1))) => ?_)
  ·
    refine wi_return (nx := 34) (r1 := 0) (r2 := 0) (r3 := 0) rfl rfl ?_
    exact k h g F0
  ·
    refine wi_aload_n (i := 0) (x := 208) (nx := 13) (r1 := 0) (r2 := 0) (r3 := 0) rfl rfl ?_
    refine wr_gr (k0 := 208) (x := 209) (nx := 16) (r1 := 10) (r2 := 0) (r3 := 0) rfl rfl (by decide) rfl ⟨rfl, rfl⟩ rfl ?_
    refine wi_aload_n (i := 0) (x := 208) (nx := 17) (r1 := 0) (r2 := 0) (r3 := 0) rfl rfl ?_
    refine wr_gi0 (k0 := 208) (x := h 208 1) (nx := 20) (r1 := 10) (r2 := 1) (r3 := 0) rfl rfl (by decide) rfl ⟨rfl, rfl⟩ rfl rfl ?_
    refine wi_iload_n (i := 1) (e := a0) (nx := 21) (r1 := 0) (r2 := 0) (r3 := 0) rfl rfl ?_
    refine wr_i2bA (nx := 22) (r1 := 0) (r2 := 0) (r3 := 0) rfl (fun e3 (fe3 : -128 ≤ e3 ∧ e3 ≤ 127) => ?_)
    obtain ⟨i4, ei4⟩ : ∃ q : Nat, (h 208 1) = (q : Int) := ⟨(h 208 1).toNat, by omega⟩
    refine wr_bs (k0 := 209) (a := h 208 1) (f := i4) (x := e3) (bl := -128) (bh := 127) (nx := 23) (r1 := 0) (r2 := 0) (r3 := 0) rfl (by decide) rfl (by omega) (by omega) (by omega) (by decide) g rfl (by omega) (fun h5 g5 w5 u5 => ?_)
    have F6 := F0.then rfl (FR.rngp (lo := 209) (hi := 209) u5 (by decide))
    refine wi_aload_n (i := 0) (x := 208) (nx := 24) (r1 := 0) (r2 := 0) (r3 := 0) rfl rfl ?_
    refine wi_dup (nx := 25) (r1 := 0) (r2 := 0) (r3 := 0) rfl rfl ?_
    refine wr_gi0 (k0 := 208) (x := h 208 1) (nx := 28) (r1 := 10) (r2 := 1) (r3 := 0) rfl rfl (by decide) rfl ⟨rfl, rfl⟩ rfl (u5 208 1 (fn_a (by omega) fn_0)) ?_
    refine wi_iconst (n := 1) (nx := 29) (r1 := 0) (r2 := 0) (r3 := 0) rfl ?_
    refine wr_add (nx := 30) (r1 := 0) (r2 := 0) (r3 := 0) rfl (fun e7 (fe7 : e7 = (h 208 1) + 1) => ?_)
    refine wr_pf0 (k0 := 208) (x := e7) (bl := 0) (bh := 152) (nx := 33) (r1 := 10) (r2 := 1) (r3 := 0) rfl (by decide) rfl ⟨rfl, rfl⟩ rfl rfl g5 rfl (by omega) (fun h8 g8 w8 u8 => ?_)
    have F9 := F6.then rfl u8
    refine wi_return (nx := 34) (r1 := 0) (r2 := 0) (r3 := 0) rfl rfl ?_
    exact k h8 g8 F9
-- method 113: Setup.nameOfColor(I)J
set_option maxRecDepth 100000 in
set_option maxHeartbeats 100000000 in
theorem ct_113_3 {L : Nat} {xs : Nat → Int32} {d b c : Nat} {h : hp} {cr : Nat → Nat → Option Nat} {Q : hp_Q} (hcr : CR cr)  (g : GI h) (a0 : Int) (q0_ : -2147483648 ≤ a0 ∧ a0 ≤ 2147483647)  (k : ∀ (z0 : Int), (-9223372036854775808 ≤ z0 ∧ z0 ≤ 9223372036854775807) → Q (.inl (some (vl z0))) (hp_w h cr) b c) : wp (md_xa (L, xs)) d 113 (0, [(0, .ref 3), (1, vi a0)], [], hp_w h cr, b, c) Q := by
  have F0 : FR [] h h := FR.refl
  refine wi_iload_n (i := 1) (e := a0) (nx := 1) (r1 := 0) (r2 := 0) (r3 := 0) rfl rfl ?_
  refine wi_if (cd := .lt) (nx := 4) (r1 := 9) (r2 := 0) (r3 := 0) rfl (by omega) (fun (q1 : a0 < 0) => ?_) (fun (q1 : ¬ (a0 < 0)) => ?_)
  ·
    refine wi_lconst (n := 0) (e := 0) (nx := 10) (r1 := 0) (r2 := 0) (r3 := 0) rfl (by decide) ?_
    refine wi_goto (nx := 13) (r1 := 19) (r2 := 0) (r3 := 0) rfl ?_
    refine wr_lreturn (nx := 20) (r1 := 0) (r2 := 0) (r3 := 0) rfl rfl ?_
    exact k 0 (by omega)
  ·
    refine wi_iload_n (i := 1) (e := a0) (nx := 5) (r1 := 0) (r2 := 0) (r3 := 0) rfl rfl ?_
    refine wi_iconst (n := 5) (nx := 6) (r1 := 0) (r2 := 0) (r3 := 0) rfl ?_
    refine wi_icmp (cd := .lt) (nx := 9) (r1 := 13) (r2 := 0) (r3 := 0) rfl (by omega) (by omega) (fun (q2 : a0 < 5) => ?_) (fun (q2 : ¬ (a0 < 5)) => ?_)
    ·
      refine wi_aload_n (i := 0) (x := 3) (nx := 14) (r1 := 0) (r2 := 0) (r3 := 0) rfl rfl ?_
      refine wr_gr (k0 := 3) (x := 4) (nx := 17) (r1 := 2) (r2 := 10) (r3 := 0) rfl rfl (by decide) rfl ⟨rfl, rfl⟩ rfl ?_
      refine wi_iload_n (i := 1) (e := a0) (nx := 18) (r1 := 0) (r2 := 0) (r3 := 0) rfl rfl ?_
      obtain ⟨i3, ei3⟩ : ∃ q : Nat, a0 = (q : Int) := ⟨(a0).toNat, by omega⟩
      have b4 := gi_b (lo := -9223372036854775808) (hi := 9223372036854775807) g 4 i3 rfl
      refine wr_la (k0 := 4) (a := a0) (f := i3) (x := h 4 i3) (nx := 19) (r1 := 0) (r2 := 0) (r3 := 0) rfl (by decide) rfl (by omega) (by omega) (by decide) rfl ?_
      refine wr_lreturn (nx := 20) (r1 := 0) (r2 := 0) (r3 := 0) rfl rfl ?_
      exact k (h 4 i3) (by omega)
    ·
      refine wi_lconst (n := 0) (e := 0) (nx := 10) (r1 := 0) (r2 := 0) (r3 := 0) rfl (by decide) ?_
      refine wi_goto (nx := 13) (r1 := 19) (r2 := 0) (r3 := 0) rfl ?_
      refine wr_lreturn (nx := 20) (r1 := 0) (r2 := 0) (r3 := 0) rfl rfl ?_
      exact k 0 (by omega)
-- method 201: Report.addLetters(J)V
set_option maxRecDepth 100000 in
set_option maxHeartbeats 100000000 in
theorem ct_201_208 {L : Nat} {xs : Nat → Int32} {d b c : Nat} {h : hp} {cr : Nat → Nat → Option Nat} {Q : hp_Q} (hcr : CR cr)  (g : GI h) (a0 : Int) (q0_ : -9223372036854775808 ≤ a0 ∧ a0 ≤ 9223372036854775807)  (k : ∀ (h2 : hp) , GI h2 → FR [(209, 209, none), (208, 208, some (1, 1))] h h2 → Q (.inl none) (hp_w h2 cr) b c) : wp (md_xa (L, xs)) (d + 1) 201 (0, [(0, .ref 208), (1, vl a0)], [], hp_w h cr, b, c) Q := by
  have F0 : FR [(209, 209, none), (208, 208, some (1, 1))] h h := FR.refl
  refine wi_bipush (n := 56) (nx := 2) (r1 := 0) (r2 := 0) (r3 := 0) rfl (by decide) ?_
  refine wi_istore_n (i := 3) (e := 56) (lo2 := [(3, vi 56), (0, .ref 208), (1, vl a0)]) (nx := 3) (r1 := 0) (r2 := 0) (r3 := 0) rfl rfl ?_
  refine wp.lo (lo := [(0, .ref 208), (1, vl a0), (3, vi 56)]) ⟨rfl, rfl, rfl, trivial⟩ rfl ?_
  refine wl_1 (fun x1 h2 => GI h2 ∧ FR [(209, 209, none), (208, 208, some (1, 1))] h h2 ∧ FR [(209, 209, none), (208, 208, some (1, 1))] h h2 ∧ ((-8 ≤ x1 ∧ x1 ≤ 56))) (fun x1 h2 => ((x1 : Int) - (-8)).toNat) (fun x1 h2 => (3, [(0, .ref 208), (1, vl a0), (3, vi x1)], [], hp_w h2 cr, b, c)) ?_ 56 h ⟨g, F0, FR.refl, (show (-8 ≤ 56 ∧ 56 ≤ 56) by omega)⟩
  intro x1 h2 ⟨g2, F3, u2, f2⟩ I2
  refine wi_iload_n (i := 3) (e := x1) (nx := 4) (r1 := 0) (r2 := 0) (r3 := 0) rfl rfl ?_
  refine wi_if (cd := .lt) (nx := 7) (r1 := 34) (r2 := 0) (r3 := 0) rfl (by omega) (fun (q4 : x1 < 0) => ?_) (fun (q4 : ¬ (x1 < 0)) => ?_)
  ·
    refine wi_return (nx := 35) (r1 := 0) (r2 := 0) (r3 := 0) rfl rfl ?_
    exact k h2 g2 F3
  ·
    refine wi_lload_n (i := 1) (e := a0) (nx := 8) (r1 := 0) (r2 := 0) (r3 := 0) rfl rfl ?_
    refine wi_iload_n (i := 3) (e := x1) (nx := 9) (r1 := 0) (r2 := 0) (r3 := 0) rfl rfl ?_
    refine wr_lshrA (nx := 10) (r1 := 0) (r2 := 0) (r3 := 0) rfl (fun e5 (fe5 : -9223372036854775808 ≤ e5 ∧ e5 ≤ 9223372036854775807) => ?_)
    refine wi_ldc2_w (e := 255) (nx := 13) (r1 := 255) (r2 := 0) (r3 := 0) rfl (by decide) ?_
    refine wr_landA (nx := 14) (r1 := 0) (r2 := 0) (r3 := 0) rfl (fun e6 (fe6 : -9223372036854775808 ≤ e6 ∧ e6 ≤ 9223372036854775807) => ?_)
    refine wr_l2iA (nx := 15) (r1 := 0) (r2 := 0) (r3 := 0) rfl (fun e7 (fe7 : -2147483648 ≤ e7 ∧ e7 ≤ 2147483647) => ?_)
    refine wi_istore (i := 4) (e := e7) (lo2 := [(4, vi e7), (0, .ref 208), (1, vl a0), (3, vi x1)]) (nx := 17) (r1 := 0) (r2 := 0) (r3 := 0) rfl rfl ?_
    refine wi_iload (i := 4) (e := e7) (nx := 19) (r1 := 0) (r2 := 0) (r3 := 0) rfl rfl ?_
    refine wi_if (cd := .eq) (nx := 22) (r1 := 28) (r2 := 0) (r3 := 0) rfl (by omega) (fun (q8 : e7 = 0) => ?_) (fun (q8 : ¬ (e7 = 0)) => ?_)
    ·
      refine wr_iinc (i := 3) (n := (-8)) (v := x1) (fun e9 => [(3, vi e9), (4, vi e7), (0, .ref 208), (1, vl a0)]) (nx := 31) (r1 := 0) (r2 := 0) (r3 := 0) rfl rfl (fun _ => rfl) (fun e9 (fe9 : e9 = x1 + (-8)) => ?_)
      refine wi_goto (nx := 34) (r1 := 3) (r2 := 0) (r3 := 0) rfl ?_
      refine wp.lo (lo := [(0, .ref 208), (1, vl a0), (3, vi e9)]) ⟨rfl, rfl, rfl, trivial⟩ rfl ?_
      exact I2 e9 h2 ⟨g2, F3, u2, (show (-8 ≤ e9 ∧ e9 ≤ 56) by omega)⟩ (show ((e9 : Int) - (-8)).toNat < ((x1 : Int) - (-8)).toNat by omega)
    ·
      refine wi_aload_n (i := 0) (x := 208) (nx := 23) (r1 := 0) (r2 := 0) (r3 := 0) rfl rfl ?_
      refine wi_iload (i := 4) (e := e7) (nx := 25) (r1 := 0) (r2 := 0) (r3 := 0) rfl rfl ?_
      refine wr_V (k0 := 208) (rest := []) (as := [.ref 208, vi e7]) (nx := 28) (r1 := 199) (r2 := 1) (r3 := 10) rfl rfl rfl (of_decide_eq_true rfl) rfl rfl (by decide) rfl rfl (of_decide_eq_true rfl) (of_decide_eq_true rfl) ?_
      refine ct_199_208 hcr  g2 e7 (by omega)  (fun h9 g9 u9 => ?_)
      have F10 := F3.then (by decide +kernel) u9
      have F11 := u2.then (by decide +kernel) u9
      refine wk_n ?_
      refine wr_iinc (i := 3) (n := (-8)) (v := x1) (fun e12 => [(3, vi e12), (4, vi e7), (0, .ref 208), (1, vl a0)]) (nx := 31) (r1 := 0) (r2 := 0) (r3 := 0) rfl rfl (fun _ => rfl) (fun e12 (fe12 : e12 = x1 + (-8)) => ?_)
      refine wi_goto (nx := 34) (r1 := 3) (r2 := 0) (r3 := 0) rfl ?_
      refine wp.lo (lo := [(0, .ref 208), (1, vl a0), (3, vi e12)]) ⟨rfl, rfl, rfl, trivial⟩ rfl ?_
      exact I2 e12 h9 ⟨g9, F10, F11, (show (-8 ≤ e12 ∧ e12 ≤ 56) by omega)⟩ (show ((e12 : Int) - (-8)).toNat < ((x1 : Int) - (-8)).toNat by omega)
-- method 112: Setup.bodyOfCar(I)I
set_option maxRecDepth 100000 in
set_option maxHeartbeats 100000000 in
theorem ct_112_3 {L : Nat} {xs : Nat → Int32} {d b c : Nat} {h : hp} {cr : Nat → Nat → Option Nat} {Q : hp_Q} (hcr : CR cr)  (g : GI h) (a0 : Int) (q0_ : -2147483648 ≤ a0 ∧ a0 ≤ 2147483647)  (k : ∀ (z0 : Int), (-2147483648 ≤ z0 ∧ z0 ≤ 2147483647) → Q (.inl (some (vi z0))) (hp_w h cr) b c) : wp (md_xa (L, xs)) d 112 (0, [(0, .ref 3), (1, vi a0)], [], hp_w h cr, b, c) Q := by
  have F0 : FR [] h h := FR.refl
  refine wi_iload_n (i := 1) (e := a0) (nx := 1) (r1 := 0) (r2 := 0) (r3 := 0) rfl rfl ?_
  refine wi_if (cd := .lt) (nx := 4) (r1 := 10) (r2 := 0) (r3 := 0) rfl (by omega) (fun (q1 : a0 < 0) => ?_) (fun (q1 : ¬ (a0 < 0)) => ?_)
  ·
    refine wi_iconst (n := (-1)) (nx := 11) (r1 := 0) (r2 := 0) (r3 := 0) rfl ?_
    refine wi_goto (nx := 14) (r1 := 20) (r2 := 0) (r3 := 0) rfl ?_
    refine wi_ireturn (nx := 21) (r1 := 0) (r2 := 0) (r3 := 0) rfl rfl ?_
    exact k (-1) (by omega)
  ·
    refine wi_iload_n (i := 1) (e := a0) (nx := 5) (r1 := 0) (r2 := 0) (r3 := 0) rfl rfl ?_
    refine wi_bipush (n := 12) (nx := 7) (r1 := 0) (r2 := 0) (r3 := 0) rfl (by decide) ?_
    refine wi_icmp (cd := .lt) (nx := 10) (r1 := 14) (r2 := 0) (r3 := 0) rfl (by omega) (by omega) (fun (q2 : a0 < 12) => ?_) (fun (q2 : ¬ (a0 < 12)) => ?_)
    ·
      refine wi_aload_n (i := 0) (x := 3) (nx := 15) (r1 := 0) (r2 := 0) (r3 := 0) rfl rfl ?_
      refine wr_gr (k0 := 3) (x := 8) (nx := 18) (r1 := 2) (r2 := 14) (r3 := 0) rfl rfl (by decide) rfl ⟨rfl, rfl⟩ rfl ?_
      refine wi_iload_n (i := 1) (e := a0) (nx := 19) (r1 := 0) (r2 := 0) (r3 := 0) rfl rfl ?_
      obtain ⟨i3, ei3⟩ : ∃ q : Nat, a0 = (q : Int) := ⟨(a0).toNat, by omega⟩
      have b4 := gi_b (lo := -2147483648) (hi := 2147483647) g 8 i3 rfl
      refine wr_ia (k0 := 8) (a := a0) (f := i3) (x := h 8 i3) (nx := 20) (r1 := 0) (r2 := 0) (r3 := 0) rfl (by decide) rfl (by omega) (by omega) (by decide) rfl ?_
      refine wi_ireturn (nx := 21) (r1 := 0) (r2 := 0) (r3 := 0) rfl rfl ?_
      exact k (h 8 i3) (by omega)
    ·
      refine wi_iconst (n := (-1)) (nx := 11) (r1 := 0) (r2 := 0) (r3 := 0) rfl ?_
      refine wi_goto (nx := 14) (r1 := 20) (r2 := 0) (r3 := 0) rfl ?_
      refine wi_ireturn (nx := 21) (r1 := 0) (r2 := 0) (r3 := 0) rfl rfl ?_
      exact k (-1) (by omega)
-- method 200: Report.addCars(LPaintBank$Setup;LPaintBank$Line;LPaintBank$Row;)V
set_option maxRecDepth 100000 in
set_option maxHeartbeats 100000000 in
theorem ct_200_208_3_18_R {L : Nat} {xs : Nat → Int32} {d b c : Nat} {h : hp} {cr : Nat → Nat → Option Nat} {Q : hp_Q} (hcr : CR cr)  {k0 : Nat} (kk0 : Rw k0) (g : GI h)    (k : ∀ (h2 : hp) , GI h2 → FR [(209, 209, none), (208, 208, some (1, 1))] h h2 → Q (.inl none) (hp_w h2 cr) b c) : wp (md_xa (L, xs)) (d + 2) 200 (0, [(0, .ref 208), (1, .ref 3), (2, .ref 18), (3, .ref k0)], [], hp_w h cr, b, c) Q := by
  have F0 : FR [(209, 209, none), (208, 208, some (1, 1))] h h := FR.refl
  have nk0 := kk0.2.2.1
  unfold md_nW at nk0
  refine wi_iconst (n := 0) (nx := 1) (r1 := 0) (r2 := 0) (r3 := 0) rfl ?_
  refine wi_istore (i := 4) (e := 0) (lo2 := [(4, vi 0), (0, .ref 208), (1, .ref 3), (2, .ref 18), (3, .ref k0)]) (nx := 3) (r1 := 0) (r2 := 0) (r3 := 0) rfl rfl ?_
  refine wp.lo (lo := [(0, .ref 208), (1, .ref 3), (2, .ref 18), (3, .ref k0), (4, vi 0)]) ⟨rfl, rfl, rfl, rfl, rfl, trivial⟩ rfl ?_
  refine wl_1 (fun x1 h2 => GI h2 ∧ FR [(209, 209, none), (208, 208, some (1, 1))] h h2 ∧ FR [(209, 209, none), (208, 208, some (1, 1))] h h2 ∧ ((0 ≤ x1 ∧ x1 ≤ 12))) (fun x1 h2 => ((12 : Int) + 1 - x1).toNat) (fun x1 h2 => (3, [(0, .ref 208), (1, .ref 3), (2, .ref 18), (3, .ref k0), (4, vi x1)], [], hp_w h2 cr, b, c)) ?_ 0 h ⟨g, F0, FR.refl, (show (0 ≤ 0 ∧ 0 ≤ 12) by omega)⟩
  intro x1 h2 ⟨g2, F3, u2, f2⟩ I2
  refine wi_iload (i := 4) (e := x1) (nx := 5) (r1 := 0) (r2 := 0) (r3 := 0) rfl rfl ?_
  refine wi_aload_n (i := 3) (x := k0) (nx := 6) (r1 := 0) (r2 := 0) (r3 := 0) rfl rfl ?_
  have b4 := gi_b (lo := 0) (hi := 12) g2 k0 1 kk0.2.2.2.1
  refine wr_gi0 (k0 := k0) (x := h2 k0 1) (nx := 9) (r1 := 5) (r2 := 1) (r3 := 0) rfl rfl kk0.k kk0.1 ⟨rfl, rfl⟩ rfl rfl ?_
  refine wi_icmp (cd := .ge) (nx := 12) (r1 := 59) (r2 := 0) (r3 := 0) rfl (by omega) (by omega) (fun (q5 : (h2 k0 1) ≤ x1) => ?_) (fun (q5 : ¬ ((h2 k0 1) ≤ x1)) => ?_)
  ·
    refine wi_aload_n (i := 0) (x := 208) (nx := 60) (r1 := 0) (r2 := 0) (r3 := 0) rfl rfl ?_
    refine wi_bipush (n := 10) (nx := 62) (r1 := 0) (r2 := 0) (r3 := 0) rfl (by decide) ?_
    refine wr_V (k0 := 208) (rest := []) (as := [.ref 208, vi 10]) (nx := 65) (r1 := 199) (r2 := 1) (r3 := 10) rfl rfl rfl (of_decide_eq_true rfl) rfl rfl (by decide) rfl rfl (of_decide_eq_true rfl) (of_decide_eq_true rfl) ?_
    refine ct_199_208 hcr  g2 10 (by omega)  (fun h6 g6 u6 => ?_)
    have F7 := F3.then (by decide +kernel) u6
    refine wk_n ?_
    refine wi_return (nx := 66) (r1 := 0) (r2 := 0) (r3 := 0) rfl rfl ?_
    exact k h6 g6 F7
  ·
    refine wi_aload_n (i := 3) (x := k0) (nx := 13) (r1 := 0) (r2 := 0) (r3 := 0) rfl rfl ?_
    refine wi_iload (i := 4) (e := x1) (nx := 15) (r1 := 0) (r2 := 0) (r3 := 0) rfl rfl ?_
    refine wr_V (k0 := k0) (rest := []) (as := [.ref k0, vi x1]) (nx := 18) (r1 := 154) (r2 := 1) (r3 := 5) rfl rfl rfl (of_decide_eq_true rfl) rfl rfl kk0.k kk0.1 rfl (of_decide_eq_true rfl) (of_decide_eq_true rfl) ?_
    refine ct_154_R hcr kk0 g2 x1 (by omega)  (fun z7  (fz7 : -2147483648 ≤ z7 ∧ z7 ≤ 2147483647) => ?_)
    refine wk_i ?_
    refine wi_istore (i := 5) (e := z7) (lo2 := [(5, vi z7), (0, .ref 208), (1, .ref 3), (2, .ref 18), (3, .ref k0), (4, vi x1)]) (nx := 20) (r1 := 0) (r2 := 0) (r3 := 0) rfl rfl ?_
    refine wi_aload_n (i := 0) (x := 208) (nx := 21) (r1 := 0) (r2 := 0) (r3 := 0) rfl rfl ?_
    refine wi_bipush (n := 32) (nx := 23) (r1 := 0) (r2 := 0) (r3 := 0) rfl (by decide) ?_
    refine wr_V (k0 := 208) (rest := []) (as := [.ref 208, vi 32]) (nx := 26) (r1 := 199) (r2 := 1) (r3 := 10) rfl rfl rfl (of_decide_eq_true rfl) rfl rfl (by decide) rfl rfl (of_decide_eq_true rfl) (of_decide_eq_true rfl) ?_
    refine ct_199_208 hcr  g2 32 (by omega)  (fun h8 g8 u8 => ?_)
    have F9 := F3.then (by decide +kernel) u8
    have F10 := u2.then (by decide +kernel) u8
    refine wk_n ?_
    refine wi_aload_n (i := 0) (x := 208) (nx := 27) (r1 := 0) (r2 := 0) (r3 := 0) rfl rfl ?_
    refine wi_aload_n (i := 1) (x := 3) (nx := 28) (r1 := 0) (r2 := 0) (r3 := 0) rfl rfl ?_
    refine wi_aload_n (i := 2) (x := 18) (nx := 29) (r1 := 0) (r2 := 0) (r3 := 0) rfl rfl ?_
    refine wi_iload (i := 5) (e := z7) (nx := 31) (r1 := 0) (r2 := 0) (r3 := 0) rfl rfl ?_
    refine wr_V (k0 := 18) (rest := [.ref 3, .ref 208]) (as := [.ref 18, vi z7]) (nx := 34) (r1 := 131) (r2 := 1) (r3 := 4) rfl rfl rfl (of_decide_eq_true rfl) rfl rfl (by decide) rfl rfl (of_decide_eq_true rfl) (of_decide_eq_true rfl) ?_
    refine ct_131_18 hcr  g8 z7 (by omega)  (fun z12  (fz12 : -2147483648 ≤ z12 ∧ z12 ≤ 2147483647) => ?_)
    refine wk_i ?_
    refine wr_V (k0 := 3) (rest := [.ref 208]) (as := [.ref 3, vi z12]) (nx := 37) (r1 := 113) (r2 := 1) (r3 := 2) rfl rfl rfl (of_decide_eq_true rfl) rfl rfl (by decide) rfl rfl (of_decide_eq_true rfl) (of_decide_eq_true rfl) ?_
    refine ct_113_3 hcr  g8 z12 (by omega)  (fun z14  (fz14 : -9223372036854775808 ≤ z14 ∧ z14 ≤ 9223372036854775807) => ?_)
    refine wk_i ?_
    refine wr_V (k0 := 208) (rest := []) (as := [.ref 208, vl z14]) (nx := 40) (r1 := 201) (r2 := 1) (r3 := 10) rfl rfl rfl (of_decide_eq_true rfl) rfl rfl (by decide) rfl rfl (of_decide_eq_true rfl) (of_decide_eq_true rfl) ?_
    refine ct_201_208 hcr  g8 z14 (by omega)  (fun h15 g15 u15 => ?_)
    have F16 := F9.then (by decide +kernel) u15
    have F17 := F10.then (by decide +kernel) u15
    refine wk_n ?_
    refine wi_aload_n (i := 0) (x := 208) (nx := 41) (r1 := 0) (r2 := 0) (r3 := 0) rfl rfl ?_
    refine wi_bipush (n := 48) (nx := 43) (r1 := 0) (r2 := 0) (r3 := 0) rfl (by decide) ?_
    refine wi_aload_n (i := 1) (x := 3) (nx := 44) (r1 := 0) (r2 := 0) (r3 := 0) rfl rfl ?_
    refine wi_iload (i := 5) (e := z7) (nx := 46) (r1 := 0) (r2 := 0) (r3 := 0) rfl rfl ?_
    refine wr_V (k0 := 3) (rest := [vi 48, .ref 208]) (as := [.ref 3, vi z7]) (nx := 49) (r1 := 112) (r2 := 1) (r3 := 2) rfl rfl rfl (of_decide_eq_true rfl) rfl rfl (by decide) rfl rfl (of_decide_eq_true rfl) (of_decide_eq_true rfl) ?_
    refine ct_112_3 hcr  g15 z7 (by omega)  (fun z19  (fz19 : -2147483648 ≤ z19 ∧ z19 ≤ 2147483647) => ?_)
    refine wk_i ?_
    refine wr_addW (nx := 50) (r1 := 0) (r2 := 0) (r3 := 0) rfl (fun e20 (fe20 : -2147483648 ≤ e20 ∧ e20 ≤ 2147483647) => ?_)
    refine wr_V (k0 := 208) (rest := []) (as := [.ref 208, vi e20]) (nx := 53) (r1 := 199) (r2 := 1) (r3 := 10) rfl rfl rfl (of_decide_eq_true rfl) rfl rfl (by decide) rfl rfl (of_decide_eq_true rfl) (of_decide_eq_true rfl) ?_
    refine ct_199_208 hcr  g15 e20 (by omega)  (fun h21 g21 u21 => ?_)
    have F22 := F16.then (by decide +kernel) u21
    have F23 := F17.then (by decide +kernel) u21
    refine wk_n ?_
    refine wr_iinc (i := 4) (n := 1) (v := x1) (fun e24 => [(4, vi e24), (5, vi z7), (0, .ref 208), (1, .ref 3), (2, .ref 18), (3, .ref k0)]) (nx := 56) (r1 := 0) (r2 := 0) (r3 := 0) rfl rfl (fun _ => rfl) (fun e24 (fe24 : e24 = x1 + 1) => ?_)
    refine wi_goto (nx := 59) (r1 := 3) (r2 := 0) (r3 := 0) rfl ?_
    refine wp.lo (lo := [(0, .ref 208), (1, .ref 3), (2, .ref 18), (3, .ref k0), (4, vi e24)]) ⟨rfl, rfl, rfl, rfl, rfl, trivial⟩ rfl ?_
    exact I2 e24 h21 ⟨g21, F22, F23, (show (0 ≤ e24 ∧ e24 ≤ 12) by omega)⟩ (show ((12 : Int) + 1 - e24).toNat < ((12 : Int) + 1 - x1).toNat by omega)
