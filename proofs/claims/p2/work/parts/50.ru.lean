-- method 296: Model.stepsToOut(I)I
set_option maxRecDepth 100000 in
set_option maxHeartbeats 100000000 in
theorem ct_296_236 {L : Nat} {xs : Nat → Int32} {d b c : Nat} {h : hp} {cr : Nat → Nat → Option Nat} {Q : hp_Q} (hcr : CR cr)  (g : GI h) (a0 : Int) (q0_ : -2147483648 ≤ a0 ∧ a0 ≤ 2147483647) (pp0 : h 238 98 + h 238 99 + h 238 100 + h 238 101 + h 238 102 + h 238 106 = h 238 73) (pp1 : h 238 73 ≤ h 238 2) (pp2 : h 238 119 ≤ h 238 67) (pp3 : h 238 69 ≤ h 238 5) (pp4 : h 238 2 ≤ 12 * h 238 5) (k : ∀ (h2 : hp) (z0 : Int) , GI h2 → FR [(238, 238, none), (240, 240, none), (236, 236, some (0, 0)), (236, 236, some (28, 28))] h h2 → (-1 ≤ z0 ∧ z0 ≤ 300) → (h2 238 98 + h2 238 99 + h2 238 100 + h2 238 101 + h2 238 102 + h2 238 106 = h2 238 73) → (h2 238 73 ≤ h2 238 2) → (h2 238 119 ≤ h2 238 67) → (h2 238 69 ≤ h2 238 5) → (h2 238 2 ≤ 12 * h2 238 5) → Q (.inl (some (vi z0))) (hp_w h2 cr) b c) : wp (md_xa (L, xs)) (d + 5) 296 (0, [(0, .ref 236), (1, vi a0)], [], hp_w h cr, b, c) Q := by
  have F0 : FR [(238, 238, none), (240, 240, none), (236, 236, some (0, 0)), (236, 236, some (28, 28))] h h := FR.refl
  have b1 := gi_b (lo := 0) (hi := 6) g 238 98 rfl
  have b2 := gi_b (lo := 0) (hi := 6) g 238 99 rfl
  have b3 := gi_b (lo := 0) (hi := 6) g 238 100 rfl
  have b4 := gi_b (lo := 0) (hi := 6) g 238 101 rfl
  have b5 := gi_b (lo := 0) (hi := 3) g 238 102 rfl
  have b6 := gi_b (lo := 0) (hi := 12) g 238 106 rfl
  have b7 := gi_b (lo := 0) (hi := 12) g 238 73 rfl
  have b8 := gi_b (lo := 0) (hi := 12) g 238 2 rfl
  have b9 := gi_b (lo := 0) (hi := 9999) g 238 119 rfl
  have b10 := gi_b (lo := 0) (hi := 9999) g 238 67 rfl
  have b11 := gi_b (lo := 0) (hi := 9) g 238 69 rfl
  have b12 := gi_b (lo := 0) (hi := 9) g 238 5 rfl
  refine wi_aload_n (i := 0) (x := 236) (nx := 1) (r1 := 0) (r2 := 0) (r3 := 0) rfl rfl ?_
  refine wi_aload_n (i := 0) (x := 236) (nx := 2) (r1 := 0) (r2 := 0) (r3 := 0) rfl rfl ?_
  refine wi_iload_n (i := 1) (e := a0) (nx := 3) (r1 := 0) (r2 := 0) (r3 := 0) rfl rfl ?_
  refine wr_V (k0 := 236) (rest := [.ref 236]) (as := [.ref 236, vi a0]) (nx := 6) (r1 := 244) (r2 := 1) (r3 := 11) rfl rfl rfl (of_decide_eq_true rfl) rfl rfl (by decide) rfl rfl (of_decide_eq_true rfl) (of_decide_eq_true rfl) ?_
  refine wi_iload_n (i := 1) (e := a0) (nx := 1) (r1 := 0) (r2 := 0) (r3 := 0) rfl rfl ?_
  refine wi_i2l (nx := 2) (r1 := 0) (r2 := 0) (r3 := 0) rfl (by omega) ?_
  refine wi_lconst (n := 0) (e := 0) (nx := 3) (r1 := 0) (r2 := 0) (r3 := 0) rfl (by decide) ?_
  refine wi_aload_n (i := 0) (x := 236) (nx := 4) (r1 := 0) (r2 := 0) (r3 := 0) rfl rfl ?_
  refine wr_gr (k0 := 236) (x := 238) (nx := 7) (r1 := 11) (r2 := 13) (r3 := 0) rfl rfl (by decide) rfl ⟨rfl, rfl⟩ rfl ?_
  refine wi_iconst (n := 2) (nx := 8) (r1 := 0) (r2 := 0) (r3 := 0) rfl ?_
  refine wr_ia (k0 := 238) (a := 2) (f := 2) (x := h 238 2) (nx := 9) (r1 := 0) (r2 := 0) (r3 := 0) rfl (by decide) rfl (by omega) (by omega) (by decide) rfl ?_
  refine wi_iconst (n := 1) (nx := 10) (r1 := 0) (r2 := 0) (r3 := 0) rfl ?_
  refine wr_sub (nx := 11) (r1 := 0) (r2 := 0) (r3 := 0) rfl (fun e13 (fe13 : e13 = (h 238 2) - 1) => ?_)
  refine wi_i2l (nx := 12) (r1 := 0) (r2 := 0) (r3 := 0) rfl (by omega) ?_
  refine wi_S (rest := []) (as := [vl a0, vl 0, vl e13]) (nx := 15) (r1 := 210) (r2 := 19) (r3 := 0) rfl rfl rfl (of_decide_eq_true rfl) rfl rfl (of_decide_eq_true rfl) (of_decide_eq_true rfl) ?_
  refine wi_lload_n (i := 0) (e := a0) (nx := 1) (r1 := 0) (r2 := 0) (r3 := 0) rfl rfl ?_
  refine wi_lload_n (i := 2) (e := 0) (nx := 2) (r1 := 0) (r2 := 0) (r3 := 0) rfl rfl ?_
  refine wi_lcmp (a := a0) (e := 0) (nx := 3) (r1 := 0) (r2 := 0) (r3 := 0) rfl (by omega) (by omega) (fun r14 (fr14 : (r14 = -1 ∧ a0 < 0) ∨ (r14 = 0 ∧ a0 = 0) ∨ (r14 = 1 ∧ 0 < a0)) => ?_)
  refine wi_if (cd := .lt) (nx := 6) (r1 := 17) (r2 := 0) (r3 := 0) rfl (by omega) (fun (q15 : r14 < 0) => ?_) (fun (q15 : ¬ (r14 < 0)) => ?_)
  ·
    refine wi_iconst (n := 0) (nx := 18) (r1 := 0) (r2 := 0) (r3 := 0) rfl ?_
    refine wi_zreturn (nx := 19) (r1 := 0) (r2 := 0) (r3 := 0) rfl rfl (by omega) ?_
    refine wk_i ?_
    refine wi_zreturn (nx := 16) (r1 := 0) (r2 := 0) (r3 := 0) rfl rfl (by omega) ?_
    refine wk_i ?_
    refine wr_V (k0 := 236) (rest := []) (as := [.ref 236, vi 0]) (nx := 9) (r1 := 206) (r2 := 1) (r3 := 11) rfl rfl rfl (of_decide_eq_true rfl) rfl rfl (by decide) rfl rfl (of_decide_eq_true rfl) (of_decide_eq_true rfl) ?_
    refine wi_aload_n (i := 0) (x := 236) (nx := 1) (r1 := 0) (r2 := 0) (r3 := 0) rfl rfl ?_
    refine wi_iload_n (i := 1) (e := 0) (nx := 2) (r1 := 0) (r2 := 0) (r3 := 0) rfl rfl ?_
    refine wi_if (cd := .ne) (nx := 5) (r1 := 9) (r2 := 0) (r3 := 0) rfl (by omega) (fun (q16 : 0 ≠ 0) => by exfalso; omega) (fun (q16 : ¬ (0 ≠ 0)) => ?_)
    refine wi_iconst (n := 1) (nx := 6) (r1 := 0) (r2 := 0) (r3 := 0) rfl ?_
    refine wi_goto (nx := 9) (r1 := 10) (r2 := 0) (r3 := 0) rfl ?_
    refine wi_S (rest := [.ref 236]) (as := [vi 1]) (nx := 13) (r1 := 207) (r2 := 17) (r3 := 0) rfl rfl rfl (of_decide_eq_true rfl) rfl rfl (of_decide_eq_true rfl) (of_decide_eq_true rfl) ?_
    refine wi_iload_n (i := 0) (e := 1) (nx := 1) (r1 := 0) (r2 := 0) (r3 := 0) rfl rfl ?_
    refine wi_if (cd := .eq) (nx := 4) (r1 := 8) (r2 := 0) (r3 := 0) rfl (by omega) (fun (q17 : 1 = 0) => by exfalso; omega) (fun (q17 : ¬ (1 = 0)) => ?_)
    refine wi_iconst (n := 1) (nx := 5) (r1 := 0) (r2 := 0) (r3 := 0) rfl ?_
    refine wi_goto (nx := 8) (r1 := 9) (r2 := 0) (r3 := 0) rfl ?_
    refine wi_ireturn (nx := 10) (r1 := 0) (r2 := 0) (r3 := 0) rfl rfl ?_
    refine wk_i ?_
    refine wr_pf0 (k0 := 236) (x := 1) (bl := 0) (bh := 2) (nx := 16) (r1 := 11) (r2 := 0) (r3 := 0) rfl (by decide) rfl ⟨rfl, rfl⟩ rfl rfl g rfl (by omega) (fun h18 g18 w18 u18 => ?_)
    have F19 := F0.then rfl u18
    refine wi_iload_n (i := 1) (e := 0) (nx := 17) (r1 := 0) (r2 := 0) (r3 := 0) rfl rfl ?_
    refine wi_zreturn (nx := 18) (r1 := 0) (r2 := 0) (r3 := 0) rfl rfl (by omega) ?_
    refine wk_i ?_
    refine wi_if (cd := .ne) (nx := 12) (r1 := 14) (r2 := 0) (r3 := 0) rfl (by omega) (fun (q20 : 0 ≠ 0) => by exfalso; omega) (fun (q20 : ¬ (0 ≠ 0)) => ?_)
    refine wi_iconst (n := 0) (nx := 13) (r1 := 0) (r2 := 0) (r3 := 0) rfl ?_
    refine wi_ireturn (nx := 14) (r1 := 0) (r2 := 0) (r3 := 0) rfl rfl ?_
    have e21 : h18 238 98 = h 238 98 := (u18 238 98 rfl)
    have e22 : h18 238 99 = h 238 99 := (u18 238 99 rfl)
    have e23 : h18 238 100 = h 238 100 := (u18 238 100 rfl)
    have e24 : h18 238 101 = h 238 101 := (u18 238 101 rfl)
    have e25 : h18 238 102 = h 238 102 := (u18 238 102 rfl)
    have e26 : h18 238 106 = h 238 106 := (u18 238 106 rfl)
    have e27 : h18 238 73 = h 238 73 := (u18 238 73 rfl)
    have e28 : h18 238 2 = h 238 2 := (u18 238 2 rfl)
    have e29 : h18 238 119 = h 238 119 := (u18 238 119 rfl)
    have e30 : h18 238 67 = h 238 67 := (u18 238 67 rfl)
    have e31 : h18 238 69 = h 238 69 := (u18 238 69 rfl)
    have e32 : h18 238 5 = h 238 5 := (u18 238 5 rfl)
    exact k h18 0 g18 F19 (by omega) (show (h18 238 98) + (h18 238 99) + (h18 238 100) + (h18 238 101) + (h18 238 102) + (h18 238 106) = (h18 238 73) by omega) (show (h18 238 73) ≤ (h18 238 2) by omega) (show (h18 238 119) ≤ (h18 238 67) by omega) (show (h18 238 69) ≤ (h18 238 5) by omega) (show (h18 238 2) ≤ 12 * (h18 238 5) by omega)
  ·
    refine wi_lload_n (i := 0) (e := a0) (nx := 7) (r1 := 0) (r2 := 0) (r3 := 0) rfl rfl ?_
    refine wi_lload (i := 4) (e := e13) (nx := 9) (r1 := 0) (r2 := 0) (r3 := 0) rfl rfl ?_
    refine wi_lcmp (a := a0) (e := e13) (nx := 10) (r1 := 0) (r2 := 0) (r3 := 0) rfl (by omega) (by omega) (fun r16 (fr16 : (r16 = -1 ∧ a0 < e13) ∨ (r16 = 0 ∧ a0 = e13) ∨ (r16 = 1 ∧ e13 < a0)) => ?_)
    refine wi_if (cd := .gt) (nx := 13) (r1 := 17) (r2 := 0) (r3 := 0) rfl (by omega) (fun (q17 : 0 < r16) => ?_) (fun (q17 : ¬ (0 < r16)) => ?_)
    ·
      refine wi_iconst (n := 0) (nx := 18) (r1 := 0) (r2 := 0) (r3 := 0) rfl ?_
      refine wi_zreturn (nx := 19) (r1 := 0) (r2 := 0) (r3 := 0) rfl rfl (by omega) ?_
      refine wk_i ?_
      refine wi_zreturn (nx := 16) (r1 := 0) (r2 := 0) (r3 := 0) rfl rfl (by omega) ?_
      refine wk_i ?_
      refine wr_V (k0 := 236) (rest := []) (as := [.ref 236, vi 0]) (nx := 9) (r1 := 206) (r2 := 1) (r3 := 11) rfl rfl rfl (of_decide_eq_true rfl) rfl rfl (by decide) rfl rfl (of_decide_eq_true rfl) (of_decide_eq_true rfl) ?_
      refine wi_aload_n (i := 0) (x := 236) (nx := 1) (r1 := 0) (r2 := 0) (r3 := 0) rfl rfl ?_
      refine wi_iload_n (i := 1) (e := 0) (nx := 2) (r1 := 0) (r2 := 0) (r3 := 0) rfl rfl ?_
      refine wi_if (cd := .ne) (nx := 5) (r1 := 9) (r2 := 0) (r3 := 0) rfl (by omega) (fun (q18 : 0 ≠ 0) => by exfalso; omega) (fun (q18 : ¬ (0 ≠ 0)) => ?_)
      refine wi_iconst (n := 1) (nx := 6) (r1 := 0) (r2 := 0) (r3 := 0) rfl ?_
      refine wi_goto (nx := 9) (r1 := 10) (r2 := 0) (r3 := 0) rfl ?_
      refine wi_S (rest := [.ref 236]) (as := [vi 1]) (nx := 13) (r1 := 207) (r2 := 17) (r3 := 0) rfl rfl rfl (of_decide_eq_true rfl) rfl rfl (of_decide_eq_true rfl) (of_decide_eq_true rfl) ?_
      refine wi_iload_n (i := 0) (e := 1) (nx := 1) (r1 := 0) (r2 := 0) (r3 := 0) rfl rfl ?_
      refine wi_if (cd := .eq) (nx := 4) (r1 := 8) (r2 := 0) (r3 := 0) rfl (by omega) (fun (q19 : 1 = 0) => by exfalso; omega) (fun (q19 : ¬ (1 = 0)) => ?_)
      refine wi_iconst (n := 1) (nx := 5) (r1 := 0) (r2 := 0) (r3 := 0) rfl ?_
      refine wi_goto (nx := 8) (r1 := 9) (r2 := 0) (r3 := 0) rfl ?_
      refine wi_ireturn (nx := 10) (r1 := 0) (r2 := 0) (r3 := 0) rfl rfl ?_
      refine wk_i ?_
      refine wr_pf0 (k0 := 236) (x := 1) (bl := 0) (bh := 2) (nx := 16) (r1 := 11) (r2 := 0) (r3 := 0) rfl (by decide) rfl ⟨rfl, rfl⟩ rfl rfl g rfl (by omega) (fun h20 g20 w20 u20 => ?_)
      have F21 := F0.then rfl u20
      refine wi_iload_n (i := 1) (e := 0) (nx := 17) (r1 := 0) (r2 := 0) (r3 := 0) rfl rfl ?_
      refine wi_zreturn (nx := 18) (r1 := 0) (r2 := 0) (r3 := 0) rfl rfl (by omega) ?_
      refine wk_i ?_
      refine wi_if (cd := .ne) (nx := 12) (r1 := 14) (r2 := 0) (r3 := 0) rfl (by omega) (fun (q22 : 0 ≠ 0) => by exfalso; omega) (fun (q22 : ¬ (0 ≠ 0)) => ?_)
      refine wi_iconst (n := 0) (nx := 13) (r1 := 0) (r2 := 0) (r3 := 0) rfl ?_
      refine wi_ireturn (nx := 14) (r1 := 0) (r2 := 0) (r3 := 0) rfl rfl ?_
      have e23 : h20 238 98 = h 238 98 := (u20 238 98 rfl)
      have e24 : h20 238 99 = h 238 99 := (u20 238 99 rfl)
      have e25 : h20 238 100 = h 238 100 := (u20 238 100 rfl)
      have e26 : h20 238 101 = h 238 101 := (u20 238 101 rfl)
      have e27 : h20 238 102 = h 238 102 := (u20 238 102 rfl)
      have e28 : h20 238 106 = h 238 106 := (u20 238 106 rfl)
      have e29 : h20 238 73 = h 238 73 := (u20 238 73 rfl)
      have e30 : h20 238 2 = h 238 2 := (u20 238 2 rfl)
      have e31 : h20 238 119 = h 238 119 := (u20 238 119 rfl)
      have e32 : h20 238 67 = h 238 67 := (u20 238 67 rfl)
      have e33 : h20 238 69 = h 238 69 := (u20 238 69 rfl)
      have e34 : h20 238 5 = h 238 5 := (u20 238 5 rfl)
      exact k h20 0 g20 F21 (by omega) (show (h20 238 98) + (h20 238 99) + (h20 238 100) + (h20 238 101) + (h20 238 102) + (h20 238 106) = (h20 238 73) by omega) (show (h20 238 73) ≤ (h20 238 2) by omega) (show (h20 238 119) ≤ (h20 238 67) by omega) (show (h20 238 69) ≤ (h20 238 5) by omega) (show (h20 238 2) ≤ 12 * (h20 238 5) by omega)
    ·
      refine wi_iconst (n := 1) (nx := 14) (r1 := 0) (r2 := 0) (r3 := 0) rfl ?_
      refine wi_goto (nx := 17) (r1 := 18) (r2 := 0) (r3 := 0) rfl ?_
      refine wi_zreturn (nx := 19) (r1 := 0) (r2 := 0) (r3 := 0) rfl rfl (by omega) ?_
      refine wk_i ?_
      refine wi_zreturn (nx := 16) (r1 := 0) (r2 := 0) (r3 := 0) rfl rfl (by omega) ?_
      refine wk_i ?_
      refine wr_V (k0 := 236) (rest := []) (as := [.ref 236, vi 1]) (nx := 9) (r1 := 206) (r2 := 1) (r3 := 11) rfl rfl rfl (of_decide_eq_true rfl) rfl rfl (by decide) rfl rfl (of_decide_eq_true rfl) (of_decide_eq_true rfl) ?_
      refine wi_aload_n (i := 0) (x := 236) (nx := 1) (r1 := 0) (r2 := 0) (r3 := 0) rfl rfl ?_
      refine wi_iload_n (i := 1) (e := 1) (nx := 2) (r1 := 0) (r2 := 0) (r3 := 0) rfl rfl ?_
      refine wi_if (cd := .ne) (nx := 5) (r1 := 9) (r2 := 0) (r3 := 0) rfl (by omega) (fun (q18 : 1 ≠ 0) => ?_) (fun (q18 : ¬ (1 ≠ 0)) => by exfalso; omega)
      refine wi_iconst (n := 0) (nx := 10) (r1 := 0) (r2 := 0) (r3 := 0) rfl ?_
      refine wi_S (rest := [.ref 236]) (as := [vi 0]) (nx := 13) (r1 := 207) (r2 := 17) (r3 := 0) rfl rfl rfl (of_decide_eq_true rfl) rfl rfl (of_decide_eq_true rfl) (of_decide_eq_true rfl) ?_
      refine wi_iload_n (i := 0) (e := 0) (nx := 1) (r1 := 0) (r2 := 0) (r3 := 0) rfl rfl ?_
      refine wi_if (cd := .eq) (nx := 4) (r1 := 8) (r2 := 0) (r3 := 0) rfl (by omega) (fun (q19 : 0 = 0) => ?_) (fun (q19 : ¬ (0 = 0)) => by exfalso; omega)
      refine wi_iconst (n := 0) (nx := 9) (r1 := 0) (r2 := 0) (r3 := 0) rfl ?_
      refine wi_ireturn (nx := 10) (r1 := 0) (r2 := 0) (r3 := 0) rfl rfl ?_
      refine wk_i ?_
      refine wr_pf0 (k0 := 236) (x := 0) (bl := 0) (bh := 2) (nx := 16) (r1 := 11) (r2 := 0) (r3 := 0) rfl (by decide) rfl ⟨rfl, rfl⟩ rfl rfl g rfl (by omega) (fun h20 g20 w20 u20 => ?_)
      have F21 := F0.then rfl u20
      refine wi_iload_n (i := 1) (e := 1) (nx := 17) (r1 := 0) (r2 := 0) (r3 := 0) rfl rfl ?_
      refine wi_zreturn (nx := 18) (r1 := 0) (r2 := 0) (r3 := 0) rfl rfl (by omega) ?_
      refine wk_i ?_
      refine wi_if (cd := .ne) (nx := 12) (r1 := 14) (r2 := 0) (r3 := 0) rfl (by omega) (fun (q22 : 1 ≠ 0) => ?_) (fun (q22 : ¬ (1 ≠ 0)) => by exfalso; omega)
      refine wi_aload_n (i := 0) (x := 236) (nx := 15) (r1 := 0) (r2 := 0) (r3 := 0) rfl rfl ?_
      refine wr_gr (k0 := 236) (x := 238) (nx := 18) (r1 := 11) (r2 := 13) (r3 := 0) rfl rfl (by decide) rfl ⟨rfl, rfl⟩ rfl ?_
      refine wi_aload_n (i := 0) (x := 236) (nx := 19) (r1 := 0) (r2 := 0) (r3 := 0) rfl rfl ?_
      refine wr_gr (k0 := 236) (x := 240) (nx := 22) (r1 := 11) (r2 := 15) (r3 := 0) rfl rfl (by decide) rfl ⟨rfl, rfl⟩ rfl ?_
      refine wi_S (rest := []) (as := [.ref 238, .ref 240]) (nx := 25) (r1 := 238) (r2 := 18) (r3 := 0) rfl rfl rfl (of_decide_eq_true rfl) rfl rfl (of_decide_eq_true rfl) (of_decide_eq_true rfl) ?_
      refine ct_238_238_240 hcr  g20    (fun h23 g23 u23 y23_0 => ?_)
      have F24 := F21.then (by decide +kernel) u23
      refine wk_n ?_
      refine wi_iconst (n := 0) (nx := 26) (r1 := 0) (r2 := 0) (r3 := 0) rfl ?_
      refine wi_istore_n (i := 2) (e := 0) (lo2 := [(2, vi 0), (0, .ref 236), (1, vi a0)]) (nx := 27) (r1 := 0) (r2 := 0) (r3 := 0) rfl rfl ?_
      refine wp.lo (lo := [(0, .ref 236), (1, vi a0), (2, vi 0)]) ⟨rfl, rfl, rfl, trivial⟩ rfl ?_
      refine wl_1 (fun x25 h26 => GI h26 ∧ FR [(238, 238, none), (240, 240, none), (236, 236, some (0, 0)), (236, 236, some (28, 28))] h h26 ∧ FR [(236, 236, some (28, 28)), (238, 238, some (43, 54)), (238, 238, some (55, 66)), (238, 238, some (67, 67)), (238, 238, some (68, 68)), (238, 238, some (69, 69)), (238, 238, some (70, 70)), (238, 238, some (71, 71)), (238, 238, some (72, 72)), (238, 238, some (73, 73)), (238, 238, some (74, 79)), (238, 238, some (80, 85)), (238, 238, some (86, 91)), (238, 238, some (92, 97)), (238, 238, some (98, 98)), (238, 238, some (99, 99)), (238, 238, some (100, 100)), (238, 238, some (101, 101)), (238, 238, some (102, 102)), (238, 238, some (103, 105)), (238, 238, some (106, 106)), (238, 238, some (107, 118)), (238, 238, some (119, 119)), (238, 238, some (120, 196)), (238, 238, some (121, 197)), (238, 238, some (122, 198)), (238, 238, some (123, 199))] h23 h26 ∧ ((0 ≤ x25 ∧ x25 ≤ 300))) (fun x25 h26 => ((300 : Int) + 1 - x25).toNat) (fun x25 h26 => (27, [(0, .ref 236), (1, vi a0), (2, vi x25)], [], hp_w h26 cr, b, c)) ?_ 0 h23 ⟨g23, F24, FR.refl, (show (0 ≤ 0 ∧ 0 ≤ 300) by omega)⟩
      intro x25 h26 ⟨g26, F27, u26, f26⟩ I26
      refine wi_aload_n (i := 0) (x := 236) (nx := 28) (r1 := 0) (r2 := 0) (r3 := 0) rfl rfl ?_
      refine wi_iload_n (i := 1) (e := a0) (nx := 29) (r1 := 0) (r2 := 0) (r3 := 0) rfl rfl ?_
      refine wr_V (k0 := 236) (rest := []) (as := [.ref 236, vi a0]) (nx := 32) (r1 := 253) (r2 := 1) (r3 := 11) rfl rfl rfl (of_decide_eq_true rfl) rfl rfl (by decide) rfl rfl (of_decide_eq_true rfl) (of_decide_eq_true rfl) ?_
      refine wi_aload_n (i := 0) (x := 236) (nx := 1) (r1 := 0) (r2 := 0) (r3 := 0) rfl rfl ?_
      refine wi_bipush (n := 107) (nx := 3) (r1 := 0) (r2 := 0) (r3 := 0) rfl (by decide) ?_
      refine wi_aload_n (i := 0) (x := 236) (nx := 4) (r1 := 0) (r2 := 0) (r3 := 0) rfl rfl ?_
      refine wr_gr (k0 := 236) (x := 238) (nx := 7) (r1 := 11) (r2 := 13) (r3 := 0) rfl rfl (by decide) rfl ⟨rfl, rfl⟩ rfl ?_
      refine wi_bipush (n := 106) (nx := 9) (r1 := 0) (r2 := 0) (r3 := 0) rfl (by decide) ?_
      have b28 := gi_b (lo := 0) (hi := 12) g26 238 106 rfl
      refine wr_ia (k0 := 238) (a := 106) (f := 106) (x := h26 238 106) (nx := 10) (r1 := 0) (r2 := 0) (r3 := 0) rfl (by decide) rfl (by omega) (by omega) (by decide) rfl ?_
      refine wi_iload_n (i := 1) (e := a0) (nx := 11) (r1 := 0) (r2 := 0) (r3 := 0) rfl rfl ?_
      refine wr_V (k0 := 236) (rest := []) (as := [.ref 236, vi 107, vi (h26 238 106), vi a0]) (nx := 14) (r1 := 254) (r2 := 3) (r3 := 11) rfl rfl rfl (of_decide_eq_true rfl) rfl rfl (by decide) rfl rfl (of_decide_eq_true rfl) (of_decide_eq_true rfl) ?_
      refine wi_iconst (n := 0) (nx := 1) (r1 := 0) (r2 := 0) (r3 := 0) rfl ?_
      refine wi_istore (i := 4) (e := 0) (lo2 := [(4, vi 0), (0, .ref 236), (1, vi 107), (2, vi (h26 238 106)), (3, vi a0)]) (nx := 3) (r1 := 0) (r2 := 0) (r3 := 0) rfl rfl ?_
      refine wp.lo (lo := [(0, .ref 236), (1, vi 107), (2, vi (h26 238 106)), (3, vi a0), (4, vi 0)]) ⟨rfl, rfl, rfl, rfl, rfl, trivial⟩ rfl ?_
      refine wl_1 (fun x29 h30 => h26 = h30 ∧ ((0 ≤ x29 ∧ x29 ≤ 12))) (fun x29 h30 => ((12 : Int) + 1 - x29).toNat) (fun x29 h30 => (3, [(0, .ref 236), (1, vi 107), (2, vi (h26 238 106)), (3, vi a0), (4, vi x29)], [], hp_w h30 cr, b, c)) ?_ 0 h26 ⟨rfl, (show (0 ≤ 0 ∧ 0 ≤ 12) by omega)⟩
      intro x29 h30 ⟨e30, f30⟩ I30
      subst e30
      refine wi_iload (i := 4) (e := x29) (nx := 5) (r1 := 0) (r2 := 0) (r3 := 0) rfl rfl ?_
      refine wi_iload_n (i := 2) (e := h26 238 106) (nx := 6) (r1 := 0) (r2 := 0) (r3 := 0) rfl rfl ?_
      refine wi_icmp (cd := .ge) (nx := 9) (r1 := 31) (r2 := 0) (r3 := 0) rfl (by omega) (by omega) (fun (q33 : (h26 238 106) ≤ x29) => ?_) (fun (q33 : ¬ ((h26 238 106) ≤ x29)) => ?_)
      ·
        refine wi_iconst (n := (-1)) (nx := 32) (r1 := 0) (r2 := 0) (r3 := 0) rfl ?_
        refine wi_ireturn (nx := 33) (r1 := 0) (r2 := 0) (r3 := 0) rfl rfl ?_
        refine wk_i ?_
        refine wi_ireturn (nx := 15) (r1 := 0) (r2 := 0) (r3 := 0) rfl rfl ?_
        refine wk_i ?_
        refine wi_iconst (n := (-1)) (nx := 33) (r1 := 0) (r2 := 0) (r3 := 0) rfl ?_
        refine wi_icmp (cd := .ne) (nx := 36) (r1 := 57) (r2 := 0) (r3 := 0) rfl (by omega) (by omega) (fun (q34 : (-1) ≠ (-1)) => by exfalso; omega) (fun (q34 : ¬ ((-1) ≠ (-1))) => ?_)
        refine wi_iload_n (i := 2) (e := x25) (nx := 37) (r1 := 0) (r2 := 0) (r3 := 0) rfl rfl ?_
        refine wi_sipush (n := 300) (nx := 40) (r1 := 0) (r2 := 0) (r3 := 0) rfl (by decide) ?_
        refine wi_icmp (cd := .ge) (nx := 43) (r1 := 57) (r2 := 0) (r3 := 0) rfl (by omega) (by omega) (fun (q35 : 300 ≤ x25) => ?_) (fun (q35 : ¬ (300 ≤ x25)) => ?_)
        ·
          refine wi_aload_n (i := 0) (x := 236) (nx := 58) (r1 := 0) (r2 := 0) (r3 := 0) rfl rfl ?_
          refine wi_iload_n (i := 1) (e := a0) (nx := 59) (r1 := 0) (r2 := 0) (r3 := 0) rfl rfl ?_
          refine wr_V (k0 := 236) (rest := []) (as := [.ref 236, vi a0]) (nx := 62) (r1 := 253) (r2 := 1) (r3 := 11) rfl rfl rfl (of_decide_eq_true rfl) rfl rfl (by decide) rfl rfl (of_decide_eq_true rfl) (of_decide_eq_true rfl) ?_
          refine wi_aload_n (i := 0) (x := 236) (nx := 1) (r1 := 0) (r2 := 0) (r3 := 0) rfl rfl ?_
          refine wi_bipush (n := 107) (nx := 3) (r1 := 0) (r2 := 0) (r3 := 0) rfl (by decide) ?_
          refine wi_aload_n (i := 0) (x := 236) (nx := 4) (r1 := 0) (r2 := 0) (r3 := 0) rfl rfl ?_
          refine wr_gr (k0 := 236) (x := 238) (nx := 7) (r1 := 11) (r2 := 13) (r3 := 0) rfl rfl (by decide) rfl ⟨rfl, rfl⟩ rfl ?_
          refine wi_bipush (n := 106) (nx := 9) (r1 := 0) (r2 := 0) (r3 := 0) rfl (by decide) ?_
          refine wr_ia (k0 := 238) (a := 106) (f := 106) (x := h26 238 106) (nx := 10) (r1 := 0) (r2 := 0) (r3 := 0) rfl (by decide) rfl (by omega) (by omega) (by decide) rfl ?_
          refine wi_iload_n (i := 1) (e := a0) (nx := 11) (r1 := 0) (r2 := 0) (r3 := 0) rfl rfl ?_
          refine wr_V (k0 := 236) (rest := []) (as := [.ref 236, vi 107, vi (h26 238 106), vi a0]) (nx := 14) (r1 := 254) (r2 := 3) (r3 := 11) rfl rfl rfl (of_decide_eq_true rfl) rfl rfl (by decide) rfl rfl (of_decide_eq_true rfl) (of_decide_eq_true rfl) ?_
          refine wi_iconst (n := 0) (nx := 1) (r1 := 0) (r2 := 0) (r3 := 0) rfl ?_
          refine wi_istore (i := 4) (e := 0) (lo2 := [(4, vi 0), (0, .ref 236), (1, vi 107), (2, vi (h26 238 106)), (3, vi a0)]) (nx := 3) (r1 := 0) (r2 := 0) (r3 := 0) rfl rfl ?_
          refine wp.lo (lo := [(0, .ref 236), (1, vi 107), (2, vi (h26 238 106)), (3, vi a0), (4, vi 0)]) ⟨rfl, rfl, rfl, rfl, rfl, trivial⟩ rfl ?_
          refine wl_1 (fun x36 h37 => h26 = h37 ∧ ((0 ≤ x36 ∧ x36 ≤ 12))) (fun x36 h37 => ((12 : Int) + 1 - x36).toNat) (fun x36 h37 => (3, [(0, .ref 236), (1, vi 107), (2, vi (h26 238 106)), (3, vi a0), (4, vi x36)], [], hp_w h37 cr, b, c)) ?_ 0 h26 ⟨rfl, (show (0 ≤ 0 ∧ 0 ≤ 12) by omega)⟩
          intro x36 h37 ⟨e37, f37⟩ I37
          subst e37
          refine wi_iload (i := 4) (e := x36) (nx := 5) (r1 := 0) (r2 := 0) (r3 := 0) rfl rfl ?_
          refine wi_iload_n (i := 2) (e := h26 238 106) (nx := 6) (r1 := 0) (r2 := 0) (r3 := 0) rfl rfl ?_
          refine wi_icmp (cd := .ge) (nx := 9) (r1 := 31) (r2 := 0) (r3 := 0) rfl (by omega) (by omega) (fun (q39 : (h26 238 106) ≤ x36) => ?_) (fun (q39 : ¬ ((h26 238 106) ≤ x36)) => ?_)
          ·
            refine wi_iconst (n := (-1)) (nx := 32) (r1 := 0) (r2 := 0) (r3 := 0) rfl ?_
            refine wi_ireturn (nx := 33) (r1 := 0) (r2 := 0) (r3 := 0) rfl rfl ?_
            refine wk_i ?_
            refine wi_ireturn (nx := 15) (r1 := 0) (r2 := 0) (r3 := 0) rfl rfl ?_
            refine wk_i ?_
            refine wi_iconst (n := (-1)) (nx := 63) (r1 := 0) (r2 := 0) (r3 := 0) rfl ?_
            refine wi_icmp (cd := .eq) (nx := 66) (r1 := 70) (r2 := 0) (r3 := 0) rfl (by omega) (by omega) (fun (q40 : (-1) = (-1)) => ?_) (fun (q40 : ¬ ((-1) = (-1))) => by exfalso; omega)
            refine wi_iconst (n := 0) (nx := 71) (r1 := 0) (r2 := 0) (r3 := 0) rfl ?_
            refine wi_istore_n (i := 3) (e := 0) (lo2 := [(3, vi 0), (0, .ref 236), (1, vi a0), (2, vi x25)]) (nx := 72) (r1 := 0) (r2 := 0) (r3 := 0) rfl rfl ?_
            refine wi_aload_n (i := 0) (x := 236) (nx := 73) (r1 := 0) (r2 := 0) (r3 := 0) rfl rfl ?_
            refine wr_gr (k0 := 236) (x := 240) (nx := 76) (r1 := 11) (r2 := 15) (r3 := 0) rfl rfl (by decide) rfl ⟨rfl, rfl⟩ rfl ?_
            refine wi_aload_n (i := 0) (x := 236) (nx := 77) (r1 := 0) (r2 := 0) (r3 := 0) rfl rfl ?_
            refine wr_gr (k0 := 236) (x := 238) (nx := 80) (r1 := 11) (r2 := 13) (r3 := 0) rfl rfl (by decide) rfl ⟨rfl, rfl⟩ rfl ?_
            refine wi_S (rest := []) (as := [.ref 240, .ref 238]) (nx := 83) (r1 := 238) (r2 := 18) (r3 := 0) rfl rfl rfl (of_decide_eq_true rfl) rfl rfl (of_decide_eq_true rfl) (of_decide_eq_true rfl) ?_
            refine ct_238_240_238 hcr  g26    (fun h41 g41 u41 y41_0 => ?_)
            have F42 := F27.then (by decide +kernel) u41
            refine wk_n ?_
            refine wi_iload_n (i := 3) (e := 0) (nx := 84) (r1 := 0) (r2 := 0) (r3 := 0) rfl rfl ?_
            refine wi_if (cd := .eq) (nx := 87) (r1 := 91) (r2 := 0) (r3 := 0) rfl (by omega) (fun (q43 : 0 = 0) => ?_) (fun (q43 : ¬ (0 = 0)) => by exfalso; omega)
            refine wi_iconst (n := (-1)) (nx := 92) (r1 := 0) (r2 := 0) (r3 := 0) rfl ?_
            refine wi_ireturn (nx := 93) (r1 := 0) (r2 := 0) (r3 := 0) rfl rfl ?_
            have e44 : h41 238 98 = h 238 98 := ((y41_0 98 (by decide)).trans ((u26 240 98 rfl).trans ((y23_0 98 (by decide)).trans (u20 238 98 rfl))))
            have e45 : h41 238 99 = h 238 99 := ((y41_0 99 (by decide)).trans ((u26 240 99 rfl).trans ((y23_0 99 (by decide)).trans (u20 238 99 rfl))))
            have e46 : h41 238 100 = h 238 100 := ((y41_0 100 (by decide)).trans ((u26 240 100 rfl).trans ((y23_0 100 (by decide)).trans (u20 238 100 rfl))))
            have e47 : h41 238 101 = h 238 101 := ((y41_0 101 (by decide)).trans ((u26 240 101 rfl).trans ((y23_0 101 (by decide)).trans (u20 238 101 rfl))))
            have e48 : h41 238 102 = h 238 102 := ((y41_0 102 (by decide)).trans ((u26 240 102 rfl).trans ((y23_0 102 (by decide)).trans (u20 238 102 rfl))))
            have e49 : h41 238 106 = h 238 106 := ((y41_0 106 (by decide)).trans ((u26 240 106 rfl).trans ((y23_0 106 (by decide)).trans (u20 238 106 rfl))))
            have e50 : h41 238 73 = h 238 73 := ((y41_0 73 (by decide)).trans ((u26 240 73 rfl).trans ((y23_0 73 (by decide)).trans (u20 238 73 rfl))))
            have e51 : h41 238 2 = h 238 2 := ((y41_0 2 (by decide)).trans ((u26 240 2 rfl).trans ((y23_0 2 (by decide)).trans (u20 238 2 rfl))))
            have e52 : h41 238 119 = h 238 119 := ((y41_0 119 (by decide)).trans ((u26 240 119 rfl).trans ((y23_0 119 (by decide)).trans (u20 238 119 rfl))))
            have e53 : h41 238 67 = h 238 67 := ((y41_0 67 (by decide)).trans ((u26 240 67 rfl).trans ((y23_0 67 (by decide)).trans (u20 238 67 rfl))))
            have e54 : h41 238 69 = h 238 69 := ((y41_0 69 (by decide)).trans ((u26 240 69 rfl).trans ((y23_0 69 (by decide)).trans (u20 238 69 rfl))))
            have e55 : h41 238 5 = h 238 5 := ((y41_0 5 (by decide)).trans ((u26 240 5 rfl).trans ((y23_0 5 (by decide)).trans (u20 238 5 rfl))))
            exact k h41 (-1) g41 F42 (by omega) (show (h41 238 98) + (h41 238 99) + (h41 238 100) + (h41 238 101) + (h41 238 102) + (h41 238 106) = (h41 238 73) by omega) (show (h41 238 73) ≤ (h41 238 2) by omega) (show (h41 238 119) ≤ (h41 238 67) by omega) (show (h41 238 69) ≤ (h41 238 5) by omega) (show (h41 238 2) ≤ 12 * (h41 238 5) by omega)
          ·
            refine wi_aload_n (i := 0) (x := 236) (nx := 10) (r1 := 0) (r2 := 0) (r3 := 0) rfl rfl ?_
            refine wr_gr (k0 := 236) (x := 238) (nx := 13) (r1 := 11) (r2 := 13) (r3 := 0) rfl rfl (by decide) rfl ⟨rfl, rfl⟩ rfl ?_
            refine wi_iload_n (i := 1) (e := 107) (nx := 14) (r1 := 0) (r2 := 0) (r3 := 0) rfl rfl ?_
            refine wi_iload (i := 4) (e := x36) (nx := 16) (r1 := 0) (r2 := 0) (r3 := 0) rfl rfl ?_
            refine wr_add (nx := 17) (r1 := 0) (r2 := 0) (r3 := 0) rfl (fun e40 (fe40 : e40 = 107 + x36) => ?_)
            obtain ⟨i41, ei41⟩ : ∃ q : Nat, e40 = (q : Int) := ⟨(e40).toNat, by omega⟩
            have b42 := gi_b (lo := 0) (hi := 11) g26 238 i41 (gi_rg 107 12 (fun _ => rfl) (by decide +kernel) (by omega))
            refine wr_ia (k0 := 238) (a := e40) (f := i41) (x := h26 238 i41) (nx := 18) (r1 := 0) (r2 := 0) (r3 := 0) rfl (by decide) rfl (by omega) (by omega) (by decide) rfl ?_
            refine wi_iload_n (i := 3) (e := a0) (nx := 19) (r1 := 0) (r2 := 0) (r3 := 0) rfl rfl ?_
            refine wi_icmp (cd := .ne) (nx := 22) (r1 := 25) (r2 := 0) (r3 := 0) rfl (by omega) (by omega) (fun (q43 : (h26 238 i41) ≠ a0) => ?_) (fun (q43 : ¬ ((h26 238 i41) ≠ a0)) => ?_)
            ·
              refine wr_iinc (i := 4) (n := 1) (v := x36) (fun e44 => [(4, vi e44), (0, .ref 236), (1, vi 107), (2, vi (h26 238 106)), (3, vi a0)]) (nx := 28) (r1 := 0) (r2 := 0) (r3 := 0) rfl rfl (fun _ => rfl) (fun e44 (fe44 : e44 = x36 + 1) => ?_)
              refine wi_goto (nx := 31) (r1 := 3) (r2 := 0) (r3 := 0) rfl ?_
              refine wp.lo (lo := [(0, .ref 236), (1, vi 107), (2, vi (h26 238 106)), (3, vi a0), (4, vi e44)]) ⟨rfl, rfl, rfl, rfl, rfl, trivial⟩ rfl ?_
              exact I37 e44 h26 ⟨rfl, (show (0 ≤ e44 ∧ e44 ≤ 12) by omega)⟩ (show ((12 : Int) + 1 - e44).toNat < ((12 : Int) + 1 - x36).toNat by omega)
            ·
              refine wi_iload (i := 4) (e := x36) (nx := 24) (r1 := 0) (r2 := 0) (r3 := 0) rfl rfl ?_
              refine wi_ireturn (nx := 25) (r1 := 0) (r2 := 0) (r3 := 0) rfl rfl ?_
              refine wk_i ?_
              refine wi_ireturn (nx := 15) (r1 := 0) (r2 := 0) (r3 := 0) rfl rfl ?_
              refine wk_i ?_
              refine wi_iconst (n := (-1)) (nx := 63) (r1 := 0) (r2 := 0) (r3 := 0) rfl ?_
              refine wi_icmp (cd := .eq) (nx := 66) (r1 := 70) (r2 := 0) (r3 := 0) rfl (by omega) (by omega) (fun (q44 : x36 = (-1)) => by exfalso; omega) (fun (q44 : ¬ (x36 = (-1))) => ?_)
              refine wi_iconst (n := 1) (nx := 67) (r1 := 0) (r2 := 0) (r3 := 0) rfl ?_
              refine wi_goto (nx := 70) (r1 := 71) (r2 := 0) (r3 := 0) rfl ?_
              refine wi_istore_n (i := 3) (e := 1) (lo2 := [(3, vi 1), (0, .ref 236), (1, vi a0), (2, vi x25)]) (nx := 72) (r1 := 0) (r2 := 0) (r3 := 0) rfl rfl ?_
              refine wi_aload_n (i := 0) (x := 236) (nx := 73) (r1 := 0) (r2 := 0) (r3 := 0) rfl rfl ?_
              refine wr_gr (k0 := 236) (x := 240) (nx := 76) (r1 := 11) (r2 := 15) (r3 := 0) rfl rfl (by decide) rfl ⟨rfl, rfl⟩ rfl ?_
              refine wi_aload_n (i := 0) (x := 236) (nx := 77) (r1 := 0) (r2 := 0) (r3 := 0) rfl rfl ?_
              refine wr_gr (k0 := 236) (x := 238) (nx := 80) (r1 := 11) (r2 := 13) (r3 := 0) rfl rfl (by decide) rfl ⟨rfl, rfl⟩ rfl ?_
              refine wi_S (rest := []) (as := [.ref 240, .ref 238]) (nx := 83) (r1 := 238) (r2 := 18) (r3 := 0) rfl rfl rfl (of_decide_eq_true rfl) rfl rfl (of_decide_eq_true rfl) (of_decide_eq_true rfl) ?_
              refine ct_238_240_238 hcr  g26    (fun h45 g45 u45 y45_0 => ?_)
              have F46 := F27.then (by decide +kernel) u45
              refine wk_n ?_
              refine wi_iload_n (i := 3) (e := 1) (nx := 84) (r1 := 0) (r2 := 0) (r3 := 0) rfl rfl ?_
              refine wi_if (cd := .eq) (nx := 87) (r1 := 91) (r2 := 0) (r3 := 0) rfl (by omega) (fun (q47 : 1 = 0) => by exfalso; omega) (fun (q47 : ¬ (1 = 0)) => ?_)
              refine wi_iload_n (i := 2) (e := x25) (nx := 88) (r1 := 0) (r2 := 0) (r3 := 0) rfl rfl ?_
              refine wi_goto (nx := 91) (r1 := 92) (r2 := 0) (r3 := 0) rfl ?_
              refine wi_ireturn (nx := 93) (r1 := 0) (r2 := 0) (r3 := 0) rfl rfl ?_
              have e48 : h45 238 98 = h 238 98 := ((y45_0 98 (by decide)).trans ((u26 240 98 rfl).trans ((y23_0 98 (by decide)).trans (u20 238 98 rfl))))
              have e49 : h45 238 99 = h 238 99 := ((y45_0 99 (by decide)).trans ((u26 240 99 rfl).trans ((y23_0 99 (by decide)).trans (u20 238 99 rfl))))
              have e50 : h45 238 100 = h 238 100 := ((y45_0 100 (by decide)).trans ((u26 240 100 rfl).trans ((y23_0 100 (by decide)).trans (u20 238 100 rfl))))
              have e51 : h45 238 101 = h 238 101 := ((y45_0 101 (by decide)).trans ((u26 240 101 rfl).trans ((y23_0 101 (by decide)).trans (u20 238 101 rfl))))
              have e52 : h45 238 102 = h 238 102 := ((y45_0 102 (by decide)).trans ((u26 240 102 rfl).trans ((y23_0 102 (by decide)).trans (u20 238 102 rfl))))
              have e53 : h45 238 106 = h 238 106 := ((y45_0 106 (by decide)).trans ((u26 240 106 rfl).trans ((y23_0 106 (by decide)).trans (u20 238 106 rfl))))
              have e54 : h45 238 73 = h 238 73 := ((y45_0 73 (by decide)).trans ((u26 240 73 rfl).trans ((y23_0 73 (by decide)).trans (u20 238 73 rfl))))
              have e55 : h45 238 2 = h 238 2 := ((y45_0 2 (by decide)).trans ((u26 240 2 rfl).trans ((y23_0 2 (by decide)).trans (u20 238 2 rfl))))
              have e56 : h45 238 119 = h 238 119 := ((y45_0 119 (by decide)).trans ((u26 240 119 rfl).trans ((y23_0 119 (by decide)).trans (u20 238 119 rfl))))
              have e57 : h45 238 67 = h 238 67 := ((y45_0 67 (by decide)).trans ((u26 240 67 rfl).trans ((y23_0 67 (by decide)).trans (u20 238 67 rfl))))
              have e58 : h45 238 69 = h 238 69 := ((y45_0 69 (by decide)).trans ((u26 240 69 rfl).trans ((y23_0 69 (by decide)).trans (u20 238 69 rfl))))
              have e59 : h45 238 5 = h 238 5 := ((y45_0 5 (by decide)).trans ((u26 240 5 rfl).trans ((y23_0 5 (by decide)).trans (u20 238 5 rfl))))
              exact k h45 x25 g45 F46 (by omega) (show (h45 238 98) + (h45 238 99) + (h45 238 100) + (h45 238 101) + (h45 238 102) + (h45 238 106) = (h45 238 73) by omega) (show (h45 238 73) ≤ (h45 238 2) by omega) (show (h45 238 119) ≤ (h45 238 67) by omega) (show (h45 238 69) ≤ (h45 238 5) by omega) (show (h45 238 2) ≤ 12 * (h45 238 5) by omega)
        ·
          refine wi_aload_n (i := 0) (x := 236) (nx := 44) (r1 := 0) (r2 := 0) (r3 := 0) rfl rfl ?_
          refine wr_V (k0 := 236) (rest := []) (as := [.ref 236]) (nx := 47) (r1 := 292) (r2 := 0) (r3 := 11) rfl rfl rfl (of_decide_eq_true rfl) rfl rfl (by decide) rfl rfl (of_decide_eq_true rfl) (of_decide_eq_true rfl) ?_
          have b37 := gi_b (lo := 0) (hi := 6) g26 238 98 rfl
          have b38 := gi_b (lo := 0) (hi := 6) g26 238 99 rfl
          have b39 := gi_b (lo := 0) (hi := 6) g26 238 100 rfl
          have b40 := gi_b (lo := 0) (hi := 6) g26 238 101 rfl
          have b41 := gi_b (lo := 0) (hi := 3) g26 238 102 rfl
          have b42 := gi_b (lo := 0) (hi := 12) g26 238 73 rfl
          have e43 : h26 238 2 = h 238 2 := ((u26 238 2 rfl).trans ((u23 238 2 rfl).trans (u20 238 2 rfl)))
          have b44 := gi_b (lo := 0) (hi := 9999) g26 238 119 rfl
          have b45 := gi_b (lo := 0) (hi := 9999) g26 238 67 rfl
          have b46 := gi_b (lo := 0) (hi := 9) g26 238 69 rfl
          have e47 : h26 238 5 = h 238 5 := ((u26 238 5 rfl).trans ((u23 238 5 rfl).trans (u20 238 5 rfl)))
          refine ct_292_236 hcr  g26   (show (h26 238 98) + (h26 238 99) + (h26 238 100) + (h26 238 101) + (h26 238 102) + (h26 238 106) = (h26 238 73) by omega) (show (h26 238 73) ≤ (h26 238 2) by omega) (show (h26 238 119) ≤ (h26 238 67) by omega) (show (h26 238 69) ≤ (h26 238 5) by omega) (show (h26 238 2) ≤ 12 * (h26 238 5) by omega) (fun h36 z48 g36 u36 (fz48 : -1 ≤ z48 ∧ z48 ≤ 3) (p36_0 : (h36 238 98) + (h36 238 99) + (h36 238 100) + (h36 238 101) + (h36 238 102) + (h36 238 106) = (h36 238 73)) (p36_1 : (h36 238 73) ≤ (h36 238 2)) (p36_2 : (h36 238 119) ≤ (h36 238 67)) (p36_3 : (h36 238 69) ≤ (h36 238 5)) (p36_4 : (h36 238 2) ≤ 12 * (h36 238 5)) => ?_)
          have F49 := F27.then (by decide +kernel) u36
          have F50 := u26.then (by decide +kernel) u36
          have b51 := gi_b (lo := 0) (hi := 6) g36 238 98 rfl
          have b52 := gi_b (lo := 0) (hi := 6) g36 238 99 rfl
          have b53 := gi_b (lo := 0) (hi := 6) g36 238 100 rfl
          have b54 := gi_b (lo := 0) (hi := 6) g36 238 101 rfl
          have b55 := gi_b (lo := 0) (hi := 3) g36 238 102 rfl
          have b56 := gi_b (lo := 0) (hi := 12) g36 238 106 rfl
          have b57 := gi_b (lo := 0) (hi := 12) g36 238 73 rfl
          have e58 : h36 238 2 = h 238 2 := ((u36 238 2 rfl).trans ((u26 238 2 rfl).trans ((u23 238 2 rfl).trans (u20 238 2 rfl))))
          have b59 := gi_b (lo := 0) (hi := 9999) g36 238 119 rfl
          have b60 := gi_b (lo := 0) (hi := 9999) g36 238 67 rfl
          have b61 := gi_b (lo := 0) (hi := 9) g36 238 69 rfl
          have e62 : h36 238 5 = h 238 5 := ((u36 238 5 rfl).trans ((u26 238 5 rfl).trans ((u23 238 5 rfl).trans (u20 238 5 rfl))))
          refine wk_i ?_
          refine wi_iconst (n := (-1)) (nx := 48) (r1 := 0) (r2 := 0) (r3 := 0) rfl ?_
          refine wi_icmp (cd := .eq) (nx := 51) (r1 := 57) (r2 := 0) (r3 := 0) rfl (by omega) (by omega) (fun (q63 : z48 = (-1)) => ?_) (fun (q63 : ¬ (z48 = (-1))) => ?_)
          ·
            refine wi_aload_n (i := 0) (x := 236) (nx := 58) (r1 := 0) (r2 := 0) (r3 := 0) rfl rfl ?_
            refine wi_iload_n (i := 1) (e := a0) (nx := 59) (r1 := 0) (r2 := 0) (r3 := 0) rfl rfl ?_
            refine wr_V (k0 := 236) (rest := []) (as := [.ref 236, vi a0]) (nx := 62) (r1 := 253) (r2 := 1) (r3 := 11) rfl rfl rfl (of_decide_eq_true rfl) rfl rfl (by decide) rfl rfl (of_decide_eq_true rfl) (of_decide_eq_true rfl) ?_
            refine wi_aload_n (i := 0) (x := 236) (nx := 1) (r1 := 0) (r2 := 0) (r3 := 0) rfl rfl ?_
            refine wi_bipush (n := 107) (nx := 3) (r1 := 0) (r2 := 0) (r3 := 0) rfl (by decide) ?_
            refine wi_aload_n (i := 0) (x := 236) (nx := 4) (r1 := 0) (r2 := 0) (r3 := 0) rfl rfl ?_
            refine wr_gr (k0 := 236) (x := 238) (nx := 7) (r1 := 11) (r2 := 13) (r3 := 0) rfl rfl (by decide) rfl ⟨rfl, rfl⟩ rfl ?_
            refine wi_bipush (n := 106) (nx := 9) (r1 := 0) (r2 := 0) (r3 := 0) rfl (by decide) ?_
            refine wr_ia (k0 := 238) (a := 106) (f := 106) (x := h36 238 106) (nx := 10) (r1 := 0) (r2 := 0) (r3 := 0) rfl (by decide) rfl (by omega) (by omega) (by decide) rfl ?_
            refine wi_iload_n (i := 1) (e := a0) (nx := 11) (r1 := 0) (r2 := 0) (r3 := 0) rfl rfl ?_
            refine wr_V (k0 := 236) (rest := []) (as := [.ref 236, vi 107, vi (h36 238 106), vi a0]) (nx := 14) (r1 := 254) (r2 := 3) (r3 := 11) rfl rfl rfl (of_decide_eq_true rfl) rfl rfl (by decide) rfl rfl (of_decide_eq_true rfl) (of_decide_eq_true rfl) ?_
            refine wi_iconst (n := 0) (nx := 1) (r1 := 0) (r2 := 0) (r3 := 0) rfl ?_
            refine wi_istore (i := 4) (e := 0) (lo2 := [(4, vi 0), (0, .ref 236), (1, vi 107), (2, vi (h36 238 106)), (3, vi a0)]) (nx := 3) (r1 := 0) (r2 := 0) (r3 := 0) rfl rfl ?_
            refine wp.lo (lo := [(0, .ref 236), (1, vi 107), (2, vi (h36 238 106)), (3, vi a0), (4, vi 0)]) ⟨rfl, rfl, rfl, rfl, rfl, trivial⟩ rfl ?_
            refine wl_1 (fun x64 h65 => h36 = h65 ∧ ((0 ≤ x64 ∧ x64 ≤ 12))) (fun x64 h65 => ((12 : Int) + 1 - x64).toNat) (fun x64 h65 => (3, [(0, .ref 236), (1, vi 107), (2, vi (h36 238 106)), (3, vi a0), (4, vi x64)], [], hp_w h65 cr, b, c)) ?_ 0 h36 ⟨rfl, (show (0 ≤ 0 ∧ 0 ≤ 12) by omega)⟩
            intro x64 h65 ⟨e65, f65⟩ I65
            subst e65
            refine wi_iload (i := 4) (e := x64) (nx := 5) (r1 := 0) (r2 := 0) (r3 := 0) rfl rfl ?_
            refine wi_iload_n (i := 2) (e := h36 238 106) (nx := 6) (r1 := 0) (r2 := 0) (r3 := 0) rfl rfl ?_
            refine wi_icmp (cd := .ge) (nx := 9) (r1 := 31) (r2 := 0) (r3 := 0) rfl (by omega) (by omega) (fun (q67 : (h36 238 106) ≤ x64) => ?_) (fun (q67 : ¬ ((h36 238 106) ≤ x64)) => ?_)
            ·
              refine wi_iconst (n := (-1)) (nx := 32) (r1 := 0) (r2 := 0) (r3 := 0) rfl ?_
              refine wi_ireturn (nx := 33) (r1 := 0) (r2 := 0) (r3 := 0) rfl rfl ?_
              refine wk_i ?_
              refine wi_ireturn (nx := 15) (r1 := 0) (r2 := 0) (r3 := 0) rfl rfl ?_
              refine wk_i ?_
              refine wi_iconst (n := (-1)) (nx := 63) (r1 := 0) (r2 := 0) (r3 := 0) rfl ?_
              refine wi_icmp (cd := .eq) (nx := 66) (r1 := 70) (r2 := 0) (r3 := 0) rfl (by omega) (by omega) (fun (q68 : (-1) = (-1)) => ?_) (fun (q68 : ¬ ((-1) = (-1))) => by exfalso; omega)
              refine wi_iconst (n := 0) (nx := 71) (r1 := 0) (r2 := 0) (r3 := 0) rfl ?_
              refine wi_istore_n (i := 3) (e := 0) (lo2 := [(3, vi 0), (0, .ref 236), (1, vi a0), (2, vi x25)]) (nx := 72) (r1 := 0) (r2 := 0) (r3 := 0) rfl rfl ?_
              refine wi_aload_n (i := 0) (x := 236) (nx := 73) (r1 := 0) (r2 := 0) (r3 := 0) rfl rfl ?_
              refine wr_gr (k0 := 236) (x := 240) (nx := 76) (r1 := 11) (r2 := 15) (r3 := 0) rfl rfl (by decide) rfl ⟨rfl, rfl⟩ rfl ?_
              refine wi_aload_n (i := 0) (x := 236) (nx := 77) (r1 := 0) (r2 := 0) (r3 := 0) rfl rfl ?_
              refine wr_gr (k0 := 236) (x := 238) (nx := 80) (r1 := 11) (r2 := 13) (r3 := 0) rfl rfl (by decide) rfl ⟨rfl, rfl⟩ rfl ?_
              refine wi_S (rest := []) (as := [.ref 240, .ref 238]) (nx := 83) (r1 := 238) (r2 := 18) (r3 := 0) rfl rfl rfl (of_decide_eq_true rfl) rfl rfl (of_decide_eq_true rfl) (of_decide_eq_true rfl) ?_
              refine ct_238_240_238 hcr  g36    (fun h69 g69 u69 y69_0 => ?_)
              have F70 := F49.then (by decide +kernel) u69
              refine wk_n ?_
              refine wi_iload_n (i := 3) (e := 0) (nx := 84) (r1 := 0) (r2 := 0) (r3 := 0) rfl rfl ?_
              refine wi_if (cd := .eq) (nx := 87) (r1 := 91) (r2 := 0) (r3 := 0) rfl (by omega) (fun (q71 : 0 = 0) => ?_) (fun (q71 : ¬ (0 = 0)) => by exfalso; omega)
              refine wi_iconst (n := (-1)) (nx := 92) (r1 := 0) (r2 := 0) (r3 := 0) rfl ?_
              refine wi_ireturn (nx := 93) (r1 := 0) (r2 := 0) (r3 := 0) rfl rfl ?_
              have e72 : h69 238 98 = h 238 98 := ((y69_0 98 (by decide)).trans ((u36 240 98 rfl).trans ((u26 240 98 rfl).trans ((y23_0 98 (by decide)).trans (u20 238 98 rfl)))))
              have e73 : h69 238 99 = h 238 99 := ((y69_0 99 (by decide)).trans ((u36 240 99 rfl).trans ((u26 240 99 rfl).trans ((y23_0 99 (by decide)).trans (u20 238 99 rfl)))))
              have e74 : h69 238 100 = h 238 100 := ((y69_0 100 (by decide)).trans ((u36 240 100 rfl).trans ((u26 240 100 rfl).trans ((y23_0 100 (by decide)).trans (u20 238 100 rfl)))))
              have e75 : h69 238 101 = h 238 101 := ((y69_0 101 (by decide)).trans ((u36 240 101 rfl).trans ((u26 240 101 rfl).trans ((y23_0 101 (by decide)).trans (u20 238 101 rfl)))))
              have e76 : h69 238 102 = h 238 102 := ((y69_0 102 (by decide)).trans ((u36 240 102 rfl).trans ((u26 240 102 rfl).trans ((y23_0 102 (by decide)).trans (u20 238 102 rfl)))))
              have e77 : h69 238 106 = h 238 106 := ((y69_0 106 (by decide)).trans ((u36 240 106 rfl).trans ((u26 240 106 rfl).trans ((y23_0 106 (by decide)).trans (u20 238 106 rfl)))))
              have e78 : h69 238 73 = h 238 73 := ((y69_0 73 (by decide)).trans ((u36 240 73 rfl).trans ((u26 240 73 rfl).trans ((y23_0 73 (by decide)).trans (u20 238 73 rfl)))))
              have e79 : h69 238 2 = h 238 2 := ((y69_0 2 (by decide)).trans ((u36 240 2 rfl).trans ((u26 240 2 rfl).trans ((y23_0 2 (by decide)).trans (u20 238 2 rfl)))))
              have e80 : h69 238 119 = h 238 119 := ((y69_0 119 (by decide)).trans ((u36 240 119 rfl).trans ((u26 240 119 rfl).trans ((y23_0 119 (by decide)).trans (u20 238 119 rfl)))))
              have e81 : h69 238 67 = h 238 67 := ((y69_0 67 (by decide)).trans ((u36 240 67 rfl).trans ((u26 240 67 rfl).trans ((y23_0 67 (by decide)).trans (u20 238 67 rfl)))))
              have e82 : h69 238 69 = h 238 69 := ((y69_0 69 (by decide)).trans ((u36 240 69 rfl).trans ((u26 240 69 rfl).trans ((y23_0 69 (by decide)).trans (u20 238 69 rfl)))))
              have e83 : h69 238 5 = h 238 5 := ((y69_0 5 (by decide)).trans ((u36 240 5 rfl).trans ((u26 240 5 rfl).trans ((y23_0 5 (by decide)).trans (u20 238 5 rfl)))))
              exact k h69 (-1) g69 F70 (by omega) (show (h69 238 98) + (h69 238 99) + (h69 238 100) + (h69 238 101) + (h69 238 102) + (h69 238 106) = (h69 238 73) by omega) (show (h69 238 73) ≤ (h69 238 2) by omega) (show (h69 238 119) ≤ (h69 238 67) by omega) (show (h69 238 69) ≤ (h69 238 5) by omega) (show (h69 238 2) ≤ 12 * (h69 238 5) by omega)
            ·
              refine wi_aload_n (i := 0) (x := 236) (nx := 10) (r1 := 0) (r2 := 0) (r3 := 0) rfl rfl ?_
              refine wr_gr (k0 := 236) (x := 238) (nx := 13) (r1 := 11) (r2 := 13) (r3 := 0) rfl rfl (by decide) rfl ⟨rfl, rfl⟩ rfl ?_
              refine wi_iload_n (i := 1) (e := 107) (nx := 14) (r1 := 0) (r2 := 0) (r3 := 0) rfl rfl ?_
              refine wi_iload (i := 4) (e := x64) (nx := 16) (r1 := 0) (r2 := 0) (r3 := 0) rfl rfl ?_
              refine wr_add (nx := 17) (r1 := 0) (r2 := 0) (r3 := 0) rfl (fun e68 (fe68 : e68 = 107 + x64) => ?_)
              obtain ⟨i69, ei69⟩ : ∃ q : Nat, e68 = (q : Int) := ⟨(e68).toNat, by omega⟩
              have b70 := gi_b (lo := 0) (hi := 11) g36 238 i69 (gi_rg 107 12 (fun _ => rfl) (by decide +kernel) (by omega))
              refine wr_ia (k0 := 238) (a := e68) (f := i69) (x := h36 238 i69) (nx := 18) (r1 := 0) (r2 := 0) (r3 := 0) rfl (by decide) rfl (by omega) (by omega) (by decide) rfl ?_
              refine wi_iload_n (i := 3) (e := a0) (nx := 19) (r1 := 0) (r2 := 0) (r3 := 0) rfl rfl ?_
              refine wi_icmp (cd := .ne) (nx := 22) (r1 := 25) (r2 := 0) (r3 := 0) rfl (by omega) (by omega) (fun (q71 : (h36 238 i69) ≠ a0) => ?_) (fun (q71 : ¬ ((h36 238 i69) ≠ a0)) => ?_)
              ·
                refine wr_iinc (i := 4) (n := 1) (v := x64) (fun e72 => [(4, vi e72), (0, .ref 236), (1, vi 107), (2, vi (h36 238 106)), (3, vi a0)]) (nx := 28) (r1 := 0) (r2 := 0) (r3 := 0) rfl rfl (fun _ => rfl) (fun e72 (fe72 : e72 = x64 + 1) => ?_)
                refine wi_goto (nx := 31) (r1 := 3) (r2 := 0) (r3 := 0) rfl ?_
                refine wp.lo (lo := [(0, .ref 236), (1, vi 107), (2, vi (h36 238 106)), (3, vi a0), (4, vi e72)]) ⟨rfl, rfl, rfl, rfl, rfl, trivial⟩ rfl ?_
                exact I65 e72 h36 ⟨rfl, (show (0 ≤ e72 ∧ e72 ≤ 12) by omega)⟩ (show ((12 : Int) + 1 - e72).toNat < ((12 : Int) + 1 - x64).toNat by omega)
              ·
                refine wi_iload (i := 4) (e := x64) (nx := 24) (r1 := 0) (r2 := 0) (r3 := 0) rfl rfl ?_
                refine wi_ireturn (nx := 25) (r1 := 0) (r2 := 0) (r3 := 0) rfl rfl ?_
                refine wk_i ?_
                refine wi_ireturn (nx := 15) (r1 := 0) (r2 := 0) (r3 := 0) rfl rfl ?_
                refine wk_i ?_
                refine wi_iconst (n := (-1)) (nx := 63) (r1 := 0) (r2 := 0) (r3 := 0) rfl ?_
                refine wi_icmp (cd := .eq) (nx := 66) (r1 := 70) (r2 := 0) (r3 := 0) rfl (by omega) (by omega) (fun (q72 : x64 = (-1)) => by exfalso; omega) (fun (q72 : ¬ (x64 = (-1))) => ?_)
                refine wi_iconst (n := 1) (nx := 67) (r1 := 0) (r2 := 0) (r3 := 0) rfl ?_
                refine wi_goto (nx := 70) (r1 := 71) (r2 := 0) (r3 := 0) rfl ?_
                refine wi_istore_n (i := 3) (e := 1) (lo2 := [(3, vi 1), (0, .ref 236), (1, vi a0), (2, vi x25)]) (nx := 72) (r1 := 0) (r2 := 0) (r3 := 0) rfl rfl ?_
                refine wi_aload_n (i := 0) (x := 236) (nx := 73) (r1 := 0) (r2 := 0) (r3 := 0) rfl rfl ?_
                refine wr_gr (k0 := 236) (x := 240) (nx := 76) (r1 := 11) (r2 := 15) (r3 := 0) rfl rfl (by decide) rfl ⟨rfl, rfl⟩ rfl ?_
                refine wi_aload_n (i := 0) (x := 236) (nx := 77) (r1 := 0) (r2 := 0) (r3 := 0) rfl rfl ?_
                refine wr_gr (k0 := 236) (x := 238) (nx := 80) (r1 := 11) (r2 := 13) (r3 := 0) rfl rfl (by decide) rfl ⟨rfl, rfl⟩ rfl ?_
                refine wi_S (rest := []) (as := [.ref 240, .ref 238]) (nx := 83) (r1 := 238) (r2 := 18) (r3 := 0) rfl rfl rfl (of_decide_eq_true rfl) rfl rfl (of_decide_eq_true rfl) (of_decide_eq_true rfl) ?_
                refine ct_238_240_238 hcr  g36    (fun h73 g73 u73 y73_0 => ?_)
                have F74 := F49.then (by decide +kernel) u73
                refine wk_n ?_
                refine wi_iload_n (i := 3) (e := 1) (nx := 84) (r1 := 0) (r2 := 0) (r3 := 0) rfl rfl ?_
                refine wi_if (cd := .eq) (nx := 87) (r1 := 91) (r2 := 0) (r3 := 0) rfl (by omega) (fun (q75 : 1 = 0) => by exfalso; omega) (fun (q75 : ¬ (1 = 0)) => ?_)
                refine wi_iload_n (i := 2) (e := x25) (nx := 88) (r1 := 0) (r2 := 0) (r3 := 0) rfl rfl ?_
                refine wi_goto (nx := 91) (r1 := 92) (r2 := 0) (r3 := 0) rfl ?_
                refine wi_ireturn (nx := 93) (r1 := 0) (r2 := 0) (r3 := 0) rfl rfl ?_
                have e76 : h73 238 98 = h 238 98 := ((y73_0 98 (by decide)).trans ((u36 240 98 rfl).trans ((u26 240 98 rfl).trans ((y23_0 98 (by decide)).trans (u20 238 98 rfl)))))
                have e77 : h73 238 99 = h 238 99 := ((y73_0 99 (by decide)).trans ((u36 240 99 rfl).trans ((u26 240 99 rfl).trans ((y23_0 99 (by decide)).trans (u20 238 99 rfl)))))
                have e78 : h73 238 100 = h 238 100 := ((y73_0 100 (by decide)).trans ((u36 240 100 rfl).trans ((u26 240 100 rfl).trans ((y23_0 100 (by decide)).trans (u20 238 100 rfl)))))
                have e79 : h73 238 101 = h 238 101 := ((y73_0 101 (by decide)).trans ((u36 240 101 rfl).trans ((u26 240 101 rfl).trans ((y23_0 101 (by decide)).trans (u20 238 101 rfl)))))
                have e80 : h73 238 102 = h 238 102 := ((y73_0 102 (by decide)).trans ((u36 240 102 rfl).trans ((u26 240 102 rfl).trans ((y23_0 102 (by decide)).trans (u20 238 102 rfl)))))
                have e81 : h73 238 106 = h 238 106 := ((y73_0 106 (by decide)).trans ((u36 240 106 rfl).trans ((u26 240 106 rfl).trans ((y23_0 106 (by decide)).trans (u20 238 106 rfl)))))
                have e82 : h73 238 73 = h 238 73 := ((y73_0 73 (by decide)).trans ((u36 240 73 rfl).trans ((u26 240 73 rfl).trans ((y23_0 73 (by decide)).trans (u20 238 73 rfl)))))
                have e83 : h73 238 2 = h 238 2 := ((y73_0 2 (by decide)).trans ((u36 240 2 rfl).trans ((u26 240 2 rfl).trans ((y23_0 2 (by decide)).trans (u20 238 2 rfl)))))
                have e84 : h73 238 119 = h 238 119 := ((y73_0 119 (by decide)).trans ((u36 240 119 rfl).trans ((u26 240 119 rfl).trans ((y23_0 119 (by decide)).trans (u20 238 119 rfl)))))
                have e85 : h73 238 67 = h 238 67 := ((y73_0 67 (by decide)).trans ((u36 240 67 rfl).trans ((u26 240 67 rfl).trans ((y23_0 67 (by decide)).trans (u20 238 67 rfl)))))
                have e86 : h73 238 69 = h 238 69 := ((y73_0 69 (by decide)).trans ((u36 240 69 rfl).trans ((u26 240 69 rfl).trans ((y23_0 69 (by decide)).trans (u20 238 69 rfl)))))
                have e87 : h73 238 5 = h 238 5 := ((y73_0 5 (by decide)).trans ((u36 240 5 rfl).trans ((u26 240 5 rfl).trans ((y23_0 5 (by decide)).trans (u20 238 5 rfl)))))
                exact k h73 x25 g73 F74 (by omega) (show (h73 238 98) + (h73 238 99) + (h73 238 100) + (h73 238 101) + (h73 238 102) + (h73 238 106) = (h73 238 73) by omega) (show (h73 238 73) ≤ (h73 238 2) by omega) (show (h73 238 119) ≤ (h73 238 67) by omega) (show (h73 238 69) ≤ (h73 238 5) by omega) (show (h73 238 2) ≤ 12 * (h73 238 5) by omega)
          ·
            refine wr_iinc (i := 2) (n := 1) (v := x25) (fun e64 => [(2, vi e64), (0, .ref 236), (1, vi a0)]) (nx := 54) (r1 := 0) (r2 := 0) (r3 := 0) rfl rfl (fun _ => rfl) (fun e64 (fe64 : e64 = x25 + 1) => ?_)
            refine wi_goto (nx := 57) (r1 := 27) (r2 := 0) (r3 := 0) rfl ?_
            refine wp.lo (lo := [(0, .ref 236), (1, vi a0), (2, vi e64)]) ⟨rfl, rfl, rfl, trivial⟩ rfl ?_
            exact I26 e64 h36 ⟨g36, F49, F50, (show (0 ≤ e64 ∧ e64 ≤ 300) by omega)⟩ (show ((300 : Int) + 1 - e64).toNat < ((300 : Int) + 1 - x25).toNat by omega)
      ·
        refine wi_aload_n (i := 0) (x := 236) (nx := 10) (r1 := 0) (r2 := 0) (r3 := 0) rfl rfl ?_
        refine wr_gr (k0 := 236) (x := 238) (nx := 13) (r1 := 11) (r2 := 13) (r3 := 0) rfl rfl (by decide) rfl ⟨rfl, rfl⟩ rfl ?_
        refine wi_iload_n (i := 1) (e := 107) (nx := 14) (r1 := 0) (r2 := 0) (r3 := 0) rfl rfl ?_
        refine wi_iload (i := 4) (e := x29) (nx := 16) (r1 := 0) (r2 := 0) (r3 := 0) rfl rfl ?_
        refine wr_add (nx := 17) (r1 := 0) (r2 := 0) (r3 := 0) rfl (fun e34 (fe34 : e34 = 107 + x29) => ?_)
        obtain ⟨i35, ei35⟩ : ∃ q : Nat, e34 = (q : Int) := ⟨(e34).toNat, by omega⟩
        have b36 := gi_b (lo := 0) (hi := 11) g26 238 i35 (gi_rg 107 12 (fun _ => rfl) (by decide +kernel) (by omega))
        refine wr_ia (k0 := 238) (a := e34) (f := i35) (x := h26 238 i35) (nx := 18) (r1 := 0) (r2 := 0) (r3 := 0) rfl (by decide) rfl (by omega) (by omega) (by decide) rfl ?_
        refine wi_iload_n (i := 3) (e := a0) (nx := 19) (r1 := 0) (r2 := 0) (r3 := 0) rfl rfl ?_
        refine wi_icmp (cd := .ne) (nx := 22) (r1 := 25) (r2 := 0) (r3 := 0) rfl (by omega) (by omega) (fun (q37 : (h26 238 i35) ≠ a0) => ?_) (fun (q37 : ¬ ((h26 238 i35) ≠ a0)) => ?_)
        ·
          refine wr_iinc (i := 4) (n := 1) (v := x29) (fun e38 => [(4, vi e38), (0, .ref 236), (1, vi 107), (2, vi (h26 238 106)), (3, vi a0)]) (nx := 28) (r1 := 0) (r2 := 0) (r3 := 0) rfl rfl (fun _ => rfl) (fun e38 (fe38 : e38 = x29 + 1) => ?_)
          refine wi_goto (nx := 31) (r1 := 3) (r2 := 0) (r3 := 0) rfl ?_
          refine wp.lo (lo := [(0, .ref 236), (1, vi 107), (2, vi (h26 238 106)), (3, vi a0), (4, vi e38)]) ⟨rfl, rfl, rfl, rfl, rfl, trivial⟩ rfl ?_
          exact I30 e38 h26 ⟨rfl, (show (0 ≤ e38 ∧ e38 ≤ 12) by omega)⟩ (show ((12 : Int) + 1 - e38).toNat < ((12 : Int) + 1 - x29).toNat by omega)
        ·
          refine wi_iload (i := 4) (e := x29) (nx := 24) (r1 := 0) (r2 := 0) (r3 := 0) rfl rfl ?_
          refine wi_ireturn (nx := 25) (r1 := 0) (r2 := 0) (r3 := 0) rfl rfl ?_
          refine wk_i ?_
          refine wi_ireturn (nx := 15) (r1 := 0) (r2 := 0) (r3 := 0) rfl rfl ?_
          refine wk_i ?_
          refine wi_iconst (n := (-1)) (nx := 33) (r1 := 0) (r2 := 0) (r3 := 0) rfl ?_
          refine wi_icmp (cd := .ne) (nx := 36) (r1 := 57) (r2 := 0) (r3 := 0) rfl (by omega) (by omega) (fun (q38 : x29 ≠ (-1)) => ?_) (fun (q38 : ¬ (x29 ≠ (-1))) => by exfalso; omega)
          refine wi_aload_n (i := 0) (x := 236) (nx := 58) (r1 := 0) (r2 := 0) (r3 := 0) rfl rfl ?_
          refine wi_iload_n (i := 1) (e := a0) (nx := 59) (r1 := 0) (r2 := 0) (r3 := 0) rfl rfl ?_
          refine wr_V (k0 := 236) (rest := []) (as := [.ref 236, vi a0]) (nx := 62) (r1 := 253) (r2 := 1) (r3 := 11) rfl rfl rfl (of_decide_eq_true rfl) rfl rfl (by decide) rfl rfl (of_decide_eq_true rfl) (of_decide_eq_true rfl) ?_
          refine wi_aload_n (i := 0) (x := 236) (nx := 1) (r1 := 0) (r2 := 0) (r3 := 0) rfl rfl ?_
          refine wi_bipush (n := 107) (nx := 3) (r1 := 0) (r2 := 0) (r3 := 0) rfl (by decide) ?_
          refine wi_aload_n (i := 0) (x := 236) (nx := 4) (r1 := 0) (r2 := 0) (r3 := 0) rfl rfl ?_
          refine wr_gr (k0 := 236) (x := 238) (nx := 7) (r1 := 11) (r2 := 13) (r3 := 0) rfl rfl (by decide) rfl ⟨rfl, rfl⟩ rfl ?_
          refine wi_bipush (n := 106) (nx := 9) (r1 := 0) (r2 := 0) (r3 := 0) rfl (by decide) ?_
          refine wr_ia (k0 := 238) (a := 106) (f := 106) (x := h26 238 106) (nx := 10) (r1 := 0) (r2 := 0) (r3 := 0) rfl (by decide) rfl (by omega) (by omega) (by decide) rfl ?_
          refine wi_iload_n (i := 1) (e := a0) (nx := 11) (r1 := 0) (r2 := 0) (r3 := 0) rfl rfl ?_
          refine wr_V (k0 := 236) (rest := []) (as := [.ref 236, vi 107, vi (h26 238 106), vi a0]) (nx := 14) (r1 := 254) (r2 := 3) (r3 := 11) rfl rfl rfl (of_decide_eq_true rfl) rfl rfl (by decide) rfl rfl (of_decide_eq_true rfl) (of_decide_eq_true rfl) ?_
          refine wi_iconst (n := 0) (nx := 1) (r1 := 0) (r2 := 0) (r3 := 0) rfl ?_
          refine wi_istore (i := 4) (e := 0) (lo2 := [(4, vi 0), (0, .ref 236), (1, vi 107), (2, vi (h26 238 106)), (3, vi a0)]) (nx := 3) (r1 := 0) (r2 := 0) (r3 := 0) rfl rfl ?_
          refine wp.lo (lo := [(0, .ref 236), (1, vi 107), (2, vi (h26 238 106)), (3, vi a0), (4, vi 0)]) ⟨rfl, rfl, rfl, rfl, rfl, trivial⟩ rfl ?_
          refine wl_1 (fun x39 h40 => h26 = h40 ∧ ((0 ≤ x39 ∧ x39 ≤ 12))) (fun x39 h40 => ((12 : Int) + 1 - x39).toNat) (fun x39 h40 => (3, [(0, .ref 236), (1, vi 107), (2, vi (h26 238 106)), (3, vi a0), (4, vi x39)], [], hp_w h40 cr, b, c)) ?_ 0 h26 ⟨rfl, (show (0 ≤ 0 ∧ 0 ≤ 12) by omega)⟩
          intro x39 h40 ⟨e40, f40⟩ I40
          subst e40
          refine wi_iload (i := 4) (e := x39) (nx := 5) (r1 := 0) (r2 := 0) (r3 := 0) rfl rfl ?_
          refine wi_iload_n (i := 2) (e := h26 238 106) (nx := 6) (r1 := 0) (r2 := 0) (r3 := 0) rfl rfl ?_
          refine wi_icmp (cd := .ge) (nx := 9) (r1 := 31) (r2 := 0) (r3 := 0) rfl (by omega) (by omega) (fun (q42 : (h26 238 106) ≤ x39) => ?_) (fun (q42 : ¬ ((h26 238 106) ≤ x39)) => ?_)
          ·
            refine wi_iconst (n := (-1)) (nx := 32) (r1 := 0) (r2 := 0) (r3 := 0) rfl ?_
            refine wi_ireturn (nx := 33) (r1 := 0) (r2 := 0) (r3 := 0) rfl rfl ?_
            refine wk_i ?_
            refine wi_ireturn (nx := 15) (r1 := 0) (r2 := 0) (r3 := 0) rfl rfl ?_
            refine wk_i ?_
            refine wi_iconst (n := (-1)) (nx := 63) (r1 := 0) (r2 := 0) (r3 := 0) rfl ?_
            refine wi_icmp (cd := .eq) (nx := 66) (r1 := 70) (r2 := 0) (r3 := 0) rfl (by omega) (by omega) (fun (q43 : (-1) = (-1)) => ?_) (fun (q43 : ¬ ((-1) = (-1))) => by exfalso; omega)
            refine wi_iconst (n := 0) (nx := 71) (r1 := 0) (r2 := 0) (r3 := 0) rfl ?_
            refine wi_istore_n (i := 3) (e := 0) (lo2 := [(3, vi 0), (0, .ref 236), (1, vi a0), (2, vi x25)]) (nx := 72) (r1 := 0) (r2 := 0) (r3 := 0) rfl rfl ?_
            refine wi_aload_n (i := 0) (x := 236) (nx := 73) (r1 := 0) (r2 := 0) (r3 := 0) rfl rfl ?_
            refine wr_gr (k0 := 236) (x := 240) (nx := 76) (r1 := 11) (r2 := 15) (r3 := 0) rfl rfl (by decide) rfl ⟨rfl, rfl⟩ rfl ?_
            refine wi_aload_n (i := 0) (x := 236) (nx := 77) (r1 := 0) (r2 := 0) (r3 := 0) rfl rfl ?_
            refine wr_gr (k0 := 236) (x := 238) (nx := 80) (r1 := 11) (r2 := 13) (r3 := 0) rfl rfl (by decide) rfl ⟨rfl, rfl⟩ rfl ?_
            refine wi_S (rest := []) (as := [.ref 240, .ref 238]) (nx := 83) (r1 := 238) (r2 := 18) (r3 := 0) rfl rfl rfl (of_decide_eq_true rfl) rfl rfl (of_decide_eq_true rfl) (of_decide_eq_true rfl) ?_
            refine ct_238_240_238 hcr  g26    (fun h44 g44 u44 y44_0 => ?_)
            have F45 := F27.then (by decide +kernel) u44
            refine wk_n ?_
            refine wi_iload_n (i := 3) (e := 0) (nx := 84) (r1 := 0) (r2 := 0) (r3 := 0) rfl rfl ?_
            refine wi_if (cd := .eq) (nx := 87) (r1 := 91) (r2 := 0) (r3 := 0) rfl (by omega) (fun (q46 : 0 = 0) => ?_) (fun (q46 : ¬ (0 = 0)) => by exfalso; omega)
            refine wi_iconst (n := (-1)) (nx := 92) (r1 := 0) (r2 := 0) (r3 := 0) rfl ?_
            refine wi_ireturn (nx := 93) (r1 := 0) (r2 := 0) (r3 := 0) rfl rfl ?_
            have e47 : h44 238 98 = h 238 98 := ((y44_0 98 (by decide)).trans ((u26 240 98 rfl).trans ((y23_0 98 (by decide)).trans (u20 238 98 rfl))))
            have e48 : h44 238 99 = h 238 99 := ((y44_0 99 (by decide)).trans ((u26 240 99 rfl).trans ((y23_0 99 (by decide)).trans (u20 238 99 rfl))))
            have e49 : h44 238 100 = h 238 100 := ((y44_0 100 (by decide)).trans ((u26 240 100 rfl).trans ((y23_0 100 (by decide)).trans (u20 238 100 rfl))))
            have e50 : h44 238 101 = h 238 101 := ((y44_0 101 (by decide)).trans ((u26 240 101 rfl).trans ((y23_0 101 (by decide)).trans (u20 238 101 rfl))))
            have e51 : h44 238 102 = h 238 102 := ((y44_0 102 (by decide)).trans ((u26 240 102 rfl).trans ((y23_0 102 (by decide)).trans (u20 238 102 rfl))))
            have e52 : h44 238 106 = h 238 106 := ((y44_0 106 (by decide)).trans ((u26 240 106 rfl).trans ((y23_0 106 (by decide)).trans (u20 238 106 rfl))))
            have e53 : h44 238 73 = h 238 73 := ((y44_0 73 (by decide)).trans ((u26 240 73 rfl).trans ((y23_0 73 (by decide)).trans (u20 238 73 rfl))))
            have e54 : h44 238 2 = h 238 2 := ((y44_0 2 (by decide)).trans ((u26 240 2 rfl).trans ((y23_0 2 (by decide)).trans (u20 238 2 rfl))))
            have e55 : h44 238 119 = h 238 119 := ((y44_0 119 (by decide)).trans ((u26 240 119 rfl).trans ((y23_0 119 (by decide)).trans (u20 238 119 rfl))))
            have e56 : h44 238 67 = h 238 67 := ((y44_0 67 (by decide)).trans ((u26 240 67 rfl).trans ((y23_0 67 (by decide)).trans (u20 238 67 rfl))))
            have e57 : h44 238 69 = h 238 69 := ((y44_0 69 (by decide)).trans ((u26 240 69 rfl).trans ((y23_0 69 (by decide)).trans (u20 238 69 rfl))))
            have e58 : h44 238 5 = h 238 5 := ((y44_0 5 (by decide)).trans ((u26 240 5 rfl).trans ((y23_0 5 (by decide)).trans (u20 238 5 rfl))))
            exact k h44 (-1) g44 F45 (by omega) (show (h44 238 98) + (h44 238 99) + (h44 238 100) + (h44 238 101) + (h44 238 102) + (h44 238 106) = (h44 238 73) by omega) (show (h44 238 73) ≤ (h44 238 2) by omega) (show (h44 238 119) ≤ (h44 238 67) by omega) (show (h44 238 69) ≤ (h44 238 5) by omega) (show (h44 238 2) ≤ 12 * (h44 238 5) by omega)
          ·
            refine wi_aload_n (i := 0) (x := 236) (nx := 10) (r1 := 0) (r2 := 0) (r3 := 0) rfl rfl ?_
            refine wr_gr (k0 := 236) (x := 238) (nx := 13) (r1 := 11) (r2 := 13) (r3 := 0) rfl rfl (by decide) rfl ⟨rfl, rfl⟩ rfl ?_
            refine wi_iload_n (i := 1) (e := 107) (nx := 14) (r1 := 0) (r2 := 0) (r3 := 0) rfl rfl ?_
            refine wi_iload (i := 4) (e := x39) (nx := 16) (r1 := 0) (r2 := 0) (r3 := 0) rfl rfl ?_
            refine wr_add (nx := 17) (r1 := 0) (r2 := 0) (r3 := 0) rfl (fun e43 (fe43 : e43 = 107 + x39) => ?_)
            obtain ⟨i44, ei44⟩ : ∃ q : Nat, e43 = (q : Int) := ⟨(e43).toNat, by omega⟩
            have b45 := gi_b (lo := 0) (hi := 11) g26 238 i44 (gi_rg 107 12 (fun _ => rfl) (by decide +kernel) (by omega))
            refine wr_ia (k0 := 238) (a := e43) (f := i44) (x := h26 238 i44) (nx := 18) (r1 := 0) (r2 := 0) (r3 := 0) rfl (by decide) rfl (by omega) (by omega) (by decide) rfl ?_
            refine wi_iload_n (i := 3) (e := a0) (nx := 19) (r1 := 0) (r2 := 0) (r3 := 0) rfl rfl ?_
            refine wi_icmp (cd := .ne) (nx := 22) (r1 := 25) (r2 := 0) (r3 := 0) rfl (by omega) (by omega) (fun (q46 : (h26 238 i44) ≠ a0) => ?_) (fun (q46 : ¬ ((h26 238 i44) ≠ a0)) => ?_)
            ·
              refine wr_iinc (i := 4) (n := 1) (v := x39) (fun e47 => [(4, vi e47), (0, .ref 236), (1, vi 107), (2, vi (h26 238 106)), (3, vi a0)]) (nx := 28) (r1 := 0) (r2 := 0) (r3 := 0) rfl rfl (fun _ => rfl) (fun e47 (fe47 : e47 = x39 + 1) => ?_)
              refine wi_goto (nx := 31) (r1 := 3) (r2 := 0) (r3 := 0) rfl ?_
              refine wp.lo (lo := [(0, .ref 236), (1, vi 107), (2, vi (h26 238 106)), (3, vi a0), (4, vi e47)]) ⟨rfl, rfl, rfl, rfl, rfl, trivial⟩ rfl ?_
              exact I40 e47 h26 ⟨rfl, (show (0 ≤ e47 ∧ e47 ≤ 12) by omega)⟩ (show ((12 : Int) + 1 - e47).toNat < ((12 : Int) + 1 - x39).toNat by omega)
            ·
              refine wi_iload (i := 4) (e := x39) (nx := 24) (r1 := 0) (r2 := 0) (r3 := 0) rfl rfl ?_
              refine wi_ireturn (nx := 25) (r1 := 0) (r2 := 0) (r3 := 0) rfl rfl ?_
              refine wk_i ?_
              refine wi_ireturn (nx := 15) (r1 := 0) (r2 := 0) (r3 := 0) rfl rfl ?_
              refine wk_i ?_
              refine wi_iconst (n := (-1)) (nx := 63) (r1 := 0) (r2 := 0) (r3 := 0) rfl ?_
              refine wi_icmp (cd := .eq) (nx := 66) (r1 := 70) (r2 := 0) (r3 := 0) rfl (by omega) (by omega) (fun (q47 : x39 = (-1)) => by exfalso; omega) (fun (q47 : ¬ (x39 = (-1))) => ?_)
              refine wi_iconst (n := 1) (nx := 67) (r1 := 0) (r2 := 0) (r3 := 0) rfl ?_
              refine wi_goto (nx := 70) (r1 := 71) (r2 := 0) (r3 := 0) rfl ?_
              refine wi_istore_n (i := 3) (e := 1) (lo2 := [(3, vi 1), (0, .ref 236), (1, vi a0), (2, vi x25)]) (nx := 72) (r1 := 0) (r2 := 0) (r3 := 0) rfl rfl ?_
              refine wi_aload_n (i := 0) (x := 236) (nx := 73) (r1 := 0) (r2 := 0) (r3 := 0) rfl rfl ?_
              refine wr_gr (k0 := 236) (x := 240) (nx := 76) (r1 := 11) (r2 := 15) (r3 := 0) rfl rfl (by decide) rfl ⟨rfl, rfl⟩ rfl ?_
              refine wi_aload_n (i := 0) (x := 236) (nx := 77) (r1 := 0) (r2 := 0) (r3 := 0) rfl rfl ?_
              refine wr_gr (k0 := 236) (x := 238) (nx := 80) (r1 := 11) (r2 := 13) (r3 := 0) rfl rfl (by decide) rfl ⟨rfl, rfl⟩ rfl ?_
              refine wi_S (rest := []) (as := [.ref 240, .ref 238]) (nx := 83) (r1 := 238) (r2 := 18) (r3 := 0) rfl rfl rfl (of_decide_eq_true rfl) rfl rfl (of_decide_eq_true rfl) (of_decide_eq_true rfl) ?_
              refine ct_238_240_238 hcr  g26    (fun h48 g48 u48 y48_0 => ?_)
              have F49 := F27.then (by decide +kernel) u48
              refine wk_n ?_
              refine wi_iload_n (i := 3) (e := 1) (nx := 84) (r1 := 0) (r2 := 0) (r3 := 0) rfl rfl ?_
              refine wi_if (cd := .eq) (nx := 87) (r1 := 91) (r2 := 0) (r3 := 0) rfl (by omega) (fun (q50 : 1 = 0) => by exfalso; omega) (fun (q50 : ¬ (1 = 0)) => ?_)
              refine wi_iload_n (i := 2) (e := x25) (nx := 88) (r1 := 0) (r2 := 0) (r3 := 0) rfl rfl ?_
              refine wi_goto (nx := 91) (r1 := 92) (r2 := 0) (r3 := 0) rfl ?_
              refine wi_ireturn (nx := 93) (r1 := 0) (r2 := 0) (r3 := 0) rfl rfl ?_
              have e51 : h48 238 98 = h 238 98 := ((y48_0 98 (by decide)).trans ((u26 240 98 rfl).trans ((y23_0 98 (by decide)).trans (u20 238 98 rfl))))
              have e52 : h48 238 99 = h 238 99 := ((y48_0 99 (by decide)).trans ((u26 240 99 rfl).trans ((y23_0 99 (by decide)).trans (u20 238 99 rfl))))
              have e53 : h48 238 100 = h 238 100 := ((y48_0 100 (by decide)).trans ((u26 240 100 rfl).trans ((y23_0 100 (by decide)).trans (u20 238 100 rfl))))
              have e54 : h48 238 101 = h 238 101 := ((y48_0 101 (by decide)).trans ((u26 240 101 rfl).trans ((y23_0 101 (by decide)).trans (u20 238 101 rfl))))
              have e55 : h48 238 102 = h 238 102 := ((y48_0 102 (by decide)).trans ((u26 240 102 rfl).trans ((y23_0 102 (by decide)).trans (u20 238 102 rfl))))
              have e56 : h48 238 106 = h 238 106 := ((y48_0 106 (by decide)).trans ((u26 240 106 rfl).trans ((y23_0 106 (by decide)).trans (u20 238 106 rfl))))
              have e57 : h48 238 73 = h 238 73 := ((y48_0 73 (by decide)).trans ((u26 240 73 rfl).trans ((y23_0 73 (by decide)).trans (u20 238 73 rfl))))
              have e58 : h48 238 2 = h 238 2 := ((y48_0 2 (by decide)).trans ((u26 240 2 rfl).trans ((y23_0 2 (by decide)).trans (u20 238 2 rfl))))
              have e59 : h48 238 119 = h 238 119 := ((y48_0 119 (by decide)).trans ((u26 240 119 rfl).trans ((y23_0 119 (by decide)).trans (u20 238 119 rfl))))
              have e60 : h48 238 67 = h 238 67 := ((y48_0 67 (by decide)).trans ((u26 240 67 rfl).trans ((y23_0 67 (by decide)).trans (u20 238 67 rfl))))
              have e61 : h48 238 69 = h 238 69 := ((y48_0 69 (by decide)).trans ((u26 240 69 rfl).trans ((y23_0 69 (by decide)).trans (u20 238 69 rfl))))
              have e62 : h48 238 5 = h 238 5 := ((y48_0 5 (by decide)).trans ((u26 240 5 rfl).trans ((y23_0 5 (by decide)).trans (u20 238 5 rfl))))
              exact k h48 x25 g48 F49 (by omega) (show (h48 238 98) + (h48 238 99) + (h48 238 100) + (h48 238 101) + (h48 238 102) + (h48 238 106) = (h48 238 73) by omega) (show (h48 238 73) ≤ (h48 238 2) by omega) (show (h48 238 119) ≤ (h48 238 67) by omega) (show (h48 238 69) ≤ (h48 238 5) by omega) (show (h48 238 2) ≤ 12 * (h48 238 5) by omega)
-- method 332: Model.swap()I
set_option maxRecDepth 100000 in
set_option maxHeartbeats 100000000 in
theorem ct_332_236 {L : Nat} {xs : Nat → Int32} {d b c : Nat} {h : hp} {cr : Nat → Nat → Option Nat} {Q : hp_Q} (hcr : CR cr)  (g : GI h)   (pp0 : h 238 98 + h 238 99 + h 238 100 + h 238 101 + h 238 102 + h 238 106 = h 238 73) (pp1 : h 238 73 ≤ h 238 2) (pp2 : h 238 119 ≤ h 238 67) (pp3 : h 238 69 ≤ h 238 5) (pp4 : h 238 2 ≤ 12 * h 238 5) (gp0 : GPH h) (k : ∀ (h2 : hp) (z0 : Int) , GI h2 → FR [(240, 240, none), (242, 242, none), (249, 249, none), (250, 250, none), (251, 251, none), (252, 252, none), (236, 236, some (0, 0)), (236, 236, some (22, 22)), (238, 238, some (31, 53))] h h2 → (-2147483648 ≤ z0 ∧ z0 ≤ 2147483647) → (h2 238 98 + h2 238 99 + h2 238 100 + h2 238 101 + h2 238 102 + h2 238 106 = h2 238 73) → (h2 238 73 ≤ h2 238 2) → (h2 238 119 ≤ h2 238 67) → (h2 238 69 ≤ h2 238 5) → (h2 238 2 ≤ 12 * h2 238 5) → (GPH h2) → Q (.inl (some (vi z0))) (hp_w h2 cr) b c) : wp (md_xa (L, xs)) (d + 6) 332 (0, [(0, .ref 236)], [], hp_w h cr, b, c) Q := by
  have F0 : FR [(240, 240, none), (242, 242, none), (249, 249, none), (250, 250, none), (251, 251, none), (252, 252, none), (236, 236, some (0, 0)), (236, 236, some (22, 22)), (238, 238, some (31, 53))] h h := FR.refl
  have b1 := gi_b (lo := 0) (hi := 6) g 238 98 rfl
  have b2 := gi_b (lo := 0) (hi := 6) g 238 99 rfl
  have b3 := gi_b (lo := 0) (hi := 6) g 238 100 rfl
  have b4 := gi_b (lo := 0) (hi := 6) g 238 101 rfl
  have b5 := gi_b (lo := 0) (hi := 3) g 238 102 rfl
  have b6 := gi_b (lo := 0) (hi := 12) g 238 106 rfl
  have b7 := gi_b (lo := 0) (hi := 12) g 238 73 rfl
  have b8 := gi_b (lo := 0) (hi := 12) g 238 2 rfl
  have b9 := gi_b (lo := 0) (hi := 9999) g 238 119 rfl
  have b10 := gi_b (lo := 0) (hi := 9999) g 238 67 rfl
  have b11 := gi_b (lo := 0) (hi := 9) g 238 69 rfl
  have b12 := gi_b (lo := 0) (hi := 9) g 238 5 rfl
  refine wi_aload_n (i := 0) (x := 236) (nx := 1) (r1 := 0) (r2 := 0) (r3 := 0) rfl rfl ?_
  refine wi_iconst (n := 0) (nx := 2) (r1 := 0) (r2 := 0) (r3 := 0) rfl ?_
  refine wr_pf0 (k0 := 236) (x := 0) (bl := 0) (bh := 2) (nx := 5) (r1 := 11) (r2 := 0) (r3 := 0) rfl (by decide) rfl ⟨rfl, rfl⟩ rfl rfl g rfl (by omega) (fun h13 g13 w13 u13 => ?_)
  have F14 := F0.then rfl u13
  refine wi_aload_n (i := 0) (x := 236) (nx := 6) (r1 := 0) (r2 := 0) (r3 := 0) rfl rfl ?_
  refine wr_gr (k0 := 236) (x := 238) (nx := 9) (r1 := 11) (r2 := 13) (r3 := 0) rfl rfl (by decide) rfl ⟨rfl, rfl⟩ rfl ?_
  refine wi_aload_n (i := 0) (x := 236) (nx := 10) (r1 := 0) (r2 := 0) (r3 := 0) rfl rfl ?_
  refine wr_gr (k0 := 236) (x := 240) (nx := 13) (r1 := 11) (r2 := 15) (r3 := 0) rfl rfl (by decide) rfl ⟨rfl, rfl⟩ rfl ?_
  refine wi_S (rest := []) (as := [.ref 238, .ref 240]) (nx := 16) (r1 := 238) (r2 := 18) (r3 := 0) rfl rfl rfl (of_decide_eq_true rfl) rfl rfl (of_decide_eq_true rfl) (of_decide_eq_true rfl) ?_
  refine ct_238_238_240 hcr  g13    (fun h15 g15 u15 y15_0 => ?_)
  have F16 := F14.then (by decide +kernel) u15
  refine wk_n ?_
  refine wi_aload_n (i := 0) (x := 236) (nx := 17) (r1 := 0) (r2 := 0) (r3 := 0) rfl rfl ?_
  refine wr_V (k0 := 236) (rest := []) (as := [.ref 236]) (nx := 20) (r1 := 333) (r2 := 0) (r3 := 11) rfl rfl rfl (of_decide_eq_true rfl) rfl rfl (by decide) rfl rfl (of_decide_eq_true rfl) (of_decide_eq_true rfl) ?_
  have e18 : h15 238 98 = h 238 98 := ((u15 238 98 rfl).trans (u13 238 98 rfl))
  have e19 : h15 238 99 = h 238 99 := ((u15 238 99 rfl).trans (u13 238 99 rfl))
  have e20 : h15 238 100 = h 238 100 := ((u15 238 100 rfl).trans (u13 238 100 rfl))
  have e21 : h15 238 101 = h 238 101 := ((u15 238 101 rfl).trans (u13 238 101 rfl))
  have e22 : h15 238 102 = h 238 102 := ((u15 238 102 rfl).trans (u13 238 102 rfl))
  have e23 : h15 238 106 = h 238 106 := ((u15 238 106 rfl).trans (u13 238 106 rfl))
  have e24 : h15 238 73 = h 238 73 := ((u15 238 73 rfl).trans (u13 238 73 rfl))
  have e25 : h15 238 2 = h 238 2 := ((u15 238 2 rfl).trans (u13 238 2 rfl))
  have e26 : h15 238 119 = h 238 119 := ((u15 238 119 rfl).trans (u13 238 119 rfl))
  have e27 : h15 238 67 = h 238 67 := ((u15 238 67 rfl).trans (u13 238 67 rfl))
  have e28 : h15 238 69 = h 238 69 := ((u15 238 69 rfl).trans (u13 238 69 rfl))
  have e29 : h15 238 5 = h 238 5 := ((u15 238 5 rfl).trans (u13 238 5 rfl))
  refine ct_333_236 hcr  g15   (show (h15 238 98) + (h15 238 99) + (h15 238 100) + (h15 238 101) + (h15 238 102) + (h15 238 106) = (h15 238 73) by omega) (show (h15 238 73) ≤ (h15 238 2) by omega) (show (h15 238 119) ≤ (h15 238 67) by omega) (show (h15 238 69) ≤ (h15 238 5) by omega) (show (h15 238 2) ≤ 12 * (h15 238 5) by omega) (fun h17 z30 g17 u17 (fz30 : -2147483648 ≤ z30 ∧ z30 ≤ 2147483647) (p17_0 : (h17 238 98) + (h17 238 99) + (h17 238 100) + (h17 238 101) + (h17 238 102) + (h17 238 106) = (h17 238 73)) (p17_1 : (h17 238 73) ≤ (h17 238 2)) (p17_2 : (h17 238 119) ≤ (h17 238 67)) (p17_3 : (h17 238 69) ≤ (h17 238 5)) (p17_4 : (h17 238 2) ≤ 12 * (h17 238 5)) => ?_)
  have F31 := F16.then (by decide +kernel) u17
  have e32 : h17 238 98 = h 238 98 := ((u17 238 98 rfl).trans ((u15 238 98 rfl).trans (u13 238 98 rfl)))
  have e33 : h17 238 99 = h 238 99 := ((u17 238 99 rfl).trans ((u15 238 99 rfl).trans (u13 238 99 rfl)))
  have e34 : h17 238 100 = h 238 100 := ((u17 238 100 rfl).trans ((u15 238 100 rfl).trans (u13 238 100 rfl)))
  have e35 : h17 238 101 = h 238 101 := ((u17 238 101 rfl).trans ((u15 238 101 rfl).trans (u13 238 101 rfl)))
  have e36 : h17 238 102 = h 238 102 := ((u17 238 102 rfl).trans ((u15 238 102 rfl).trans (u13 238 102 rfl)))
  have e37 : h17 238 106 = h 238 106 := ((u17 238 106 rfl).trans ((u15 238 106 rfl).trans (u13 238 106 rfl)))
  have e38 : h17 238 73 = h 238 73 := ((u17 238 73 rfl).trans ((u15 238 73 rfl).trans (u13 238 73 rfl)))
  have e39 : h17 238 2 = h 238 2 := ((u17 238 2 rfl).trans ((u15 238 2 rfl).trans (u13 238 2 rfl)))
  have e40 : h17 238 119 = h 238 119 := ((u17 238 119 rfl).trans ((u15 238 119 rfl).trans (u13 238 119 rfl)))
  have e41 : h17 238 67 = h 238 67 := ((u17 238 67 rfl).trans ((u15 238 67 rfl).trans (u13 238 67 rfl)))
  have e42 : h17 238 69 = h 238 69 := ((u17 238 69 rfl).trans ((u15 238 69 rfl).trans (u13 238 69 rfl)))
  have e43 : h17 238 5 = h 238 5 := ((u17 238 5 rfl).trans ((u15 238 5 rfl).trans (u13 238 5 rfl)))
  refine wk_i ?_
  refine wi_istore_n (i := 1) (e := z30) (lo2 := [(1, vi z30), (0, .ref 236)]) (nx := 21) (r1 := 0) (r2 := 0) (r3 := 0) rfl rfl ?_
  refine wi_iload_n (i := 1) (e := z30) (nx := 22) (r1 := 0) (r2 := 0) (r3 := 0) rfl rfl ?_
  refine wi_if (cd := .ne) (nx := 25) (r1 := 27) (r2 := 0) (r3 := 0) rfl (by omega) (fun (q44 : z30 ≠ 0) => ?_) (fun (q44 : ¬ (z30 ≠ 0)) => ?_)
  ·
    refine wi_aload_n (i := 0) (x := 236) (nx := 28) (r1 := 0) (r2 := 0) (r3 := 0) rfl rfl ?_
    refine wr_V (k0 := 236) (rest := []) (as := [.ref 236]) (nx := 31) (r1 := 315) (r2 := 0) (r3 := 11) rfl rfl rfl (of_decide_eq_true rfl) rfl rfl (by decide) rfl rfl (of_decide_eq_true rfl) (of_decide_eq_true rfl) ?_
    have e46 : h17 240 98 = h 238 98 := ((u17 240 98 rfl).trans ((y15_0 98 (by decide)).trans (u13 238 98 rfl)))
    have e47 : h17 240 99 = h 238 99 := ((u17 240 99 rfl).trans ((y15_0 99 (by decide)).trans (u13 238 99 rfl)))
    have e48 : h17 240 100 = h 238 100 := ((u17 240 100 rfl).trans ((y15_0 100 (by decide)).trans (u13 238 100 rfl)))
    have e49 : h17 240 101 = h 238 101 := ((u17 240 101 rfl).trans ((y15_0 101 (by decide)).trans (u13 238 101 rfl)))
    have e50 : h17 240 102 = h 238 102 := ((u17 240 102 rfl).trans ((y15_0 102 (by decide)).trans (u13 238 102 rfl)))
    have e51 : h17 240 106 = h 238 106 := ((u17 240 106 rfl).trans ((y15_0 106 (by decide)).trans (u13 238 106 rfl)))
    have e52 : h17 240 73 = h 238 73 := ((u17 240 73 rfl).trans ((y15_0 73 (by decide)).trans (u13 238 73 rfl)))
    have e53 : h17 240 2 = h 238 2 := ((u17 240 2 rfl).trans ((y15_0 2 (by decide)).trans (u13 238 2 rfl)))
    have e54 : h17 240 119 = h 238 119 := ((u17 240 119 rfl).trans ((y15_0 119 (by decide)).trans (u13 238 119 rfl)))
    have e55 : h17 240 67 = h 238 67 := ((u17 240 67 rfl).trans ((y15_0 67 (by decide)).trans (u13 238 67 rfl)))
    have e56 : h17 240 69 = h 238 69 := ((u17 240 69 rfl).trans ((y15_0 69 (by decide)).trans (u13 238 69 rfl)))
    have e57 : h17 240 5 = h 238 5 := ((u17 240 5 rfl).trans ((y15_0 5 (by decide)).trans (u13 238 5 rfl)))
    have gp58 := GPH.fr u13 rfl gp0
    have gp59 := GPH.fr u15 rfl gp58
    have gp60 := GPH.fr u17 rfl gp59
    refine ct_315_236 hcr  g17   (show (h17 238 98) + (h17 238 99) + (h17 238 100) + (h17 238 101) + (h17 238 102) + (h17 238 106) = (h17 238 73) by omega) (show (h17 238 73) ≤ (h17 238 2) by omega) (show (h17 238 119) ≤ (h17 238 67) by omega) (show (h17 238 69) ≤ (h17 238 5) by omega) (show (h17 238 2) ≤ 12 * (h17 238 5) by omega) (show (h17 240 98) + (h17 240 99) + (h17 240 100) + (h17 240 101) + (h17 240 102) + (h17 240 106) = (h17 240 73) by omega) (show (h17 240 73) ≤ (h17 240 2) by omega) (show (h17 240 119) ≤ (h17 240 67) by omega) (show (h17 240 69) ≤ (h17 240 5) by omega) (show (h17 240 2) ≤ 12 * (h17 240 5) by omega) gp60 (fun h45 g45 u45 y45_0 => ?_)
    have F61 := F31.then (by decide +kernel) u45
    refine wk_n ?_
    refine wi_iload_n (i := 1) (e := z30) (nx := 32) (r1 := 0) (r2 := 0) (r3 := 0) rfl rfl ?_
    refine wi_ireturn (nx := 33) (r1 := 0) (r2 := 0) (r3 := 0) rfl rfl ?_
    have e62 : h45 238 98 = h 238 98 := ((u45 238 98 rfl).trans ((u17 238 98 rfl).trans ((u15 238 98 rfl).trans (u13 238 98 rfl))))
    have e63 : h45 238 99 = h 238 99 := ((u45 238 99 rfl).trans ((u17 238 99 rfl).trans ((u15 238 99 rfl).trans (u13 238 99 rfl))))
    have e64 : h45 238 100 = h 238 100 := ((u45 238 100 rfl).trans ((u17 238 100 rfl).trans ((u15 238 100 rfl).trans (u13 238 100 rfl))))
    have e65 : h45 238 101 = h 238 101 := ((u45 238 101 rfl).trans ((u17 238 101 rfl).trans ((u15 238 101 rfl).trans (u13 238 101 rfl))))
    have e66 : h45 238 102 = h 238 102 := ((u45 238 102 rfl).trans ((u17 238 102 rfl).trans ((u15 238 102 rfl).trans (u13 238 102 rfl))))
    have e67 : h45 238 106 = h 238 106 := ((u45 238 106 rfl).trans ((u17 238 106 rfl).trans ((u15 238 106 rfl).trans (u13 238 106 rfl))))
    have e68 : h45 238 73 = h 238 73 := ((u45 238 73 rfl).trans ((u17 238 73 rfl).trans ((u15 238 73 rfl).trans (u13 238 73 rfl))))
    have e69 : h45 238 2 = h 238 2 := ((u45 238 2 rfl).trans ((u17 238 2 rfl).trans ((u15 238 2 rfl).trans (u13 238 2 rfl))))
    have e70 : h45 238 119 = h 238 119 := ((u45 238 119 rfl).trans ((u17 238 119 rfl).trans ((u15 238 119 rfl).trans (u13 238 119 rfl))))
    have e71 : h45 238 67 = h 238 67 := ((u45 238 67 rfl).trans ((u17 238 67 rfl).trans ((u15 238 67 rfl).trans (u13 238 67 rfl))))
    have e72 : h45 238 69 = h 238 69 := ((u45 238 69 rfl).trans ((u17 238 69 rfl).trans ((u15 238 69 rfl).trans (u13 238 69 rfl))))
    have e73 : h45 238 5 = h 238 5 := ((u45 238 5 rfl).trans ((u17 238 5 rfl).trans ((u15 238 5 rfl).trans (u13 238 5 rfl))))
    exact k h45 z30 g45 F61 (by omega) (show (h45 238 98) + (h45 238 99) + (h45 238 100) + (h45 238 101) + (h45 238 102) + (h45 238 106) = (h45 238 73) by omega) (show (h45 238 73) ≤ (h45 238 2) by omega) (show (h45 238 119) ≤ (h45 238 67) by omega) (show (h45 238 69) ≤ (h45 238 5) by omega) (show (h45 238 2) ≤ 12 * (h45 238 5) by omega) y45_0
  ·
    refine wi_iconst (n := (-1)) (nx := 26) (r1 := 0) (r2 := 0) (r3 := 0) rfl ?_
    refine wi_ireturn (nx := 27) (r1 := 0) (r2 := 0) (r3 := 0) rfl rfl ?_
    have gp45 := GPH.fr u13 rfl gp0
    have gp46 := GPH.fr u15 rfl gp45
    have gp47 := GPH.fr u17 rfl gp46
    exact k h17 (-1) g17 F31 (by omega) (show (h17 238 98) + (h17 238 99) + (h17 238 100) + (h17 238 101) + (h17 238 102) + (h17 238 106) = (h17 238 73) by omega) (show (h17 238 73) ≤ (h17 238 2) by omega) (show (h17 238 119) ≤ (h17 238 67) by omega) (show (h17 238 69) ≤ (h17 238 5) by omega) (show (h17 238 2) ≤ 12 * (h17 238 5) by omega) gp47
-- method 323: Model.swapChanges()I
set_option maxRecDepth 100000 in
set_option maxHeartbeats 100000000 in
theorem ct_323_236 {L : Nat} {xs : Nat → Int32} {d b c : Nat} {h : hp} {cr : Nat → Nat → Option Nat} {Q : hp_Q} (hcr : CR cr)  (g : GI h)   (pp0 : h 238 98 + h 238 99 + h 238 100 + h 238 101 + h 238 102 + h 238 106 = h 238 73) (pp1 : h 238 73 ≤ h 238 2) (pp2 : h 238 119 ≤ h 238 67) (pp3 : h 238 69 ≤ h 238 5) (pp4 : h 238 2 ≤ 12 * h 238 5) (k : ∀ (h2 : hp) (z0 : Int) , GI h2 → FR [(249, 249, none), (250, 250, none), (251, 251, none), (252, 252, none), (236, 236, some (0, 0))] h h2 → (0 ≤ z0 ∧ z0 ≤ 1000000) → Q (.inl (some (vi z0))) (hp_w h2 cr) b c) : wp (md_xa (L, xs)) (d + 5) 323 (0, [(0, .ref 236)], [], hp_w h cr, b, c) Q := by
  have F0 : FR [(249, 249, none), (250, 250, none), (251, 251, none), (252, 252, none), (236, 236, some (0, 0))] h h := FR.refl
  have b1 := gi_b (lo := 0) (hi := 6) g 238 98 rfl
  have b2 := gi_b (lo := 0) (hi := 6) g 238 99 rfl
  have b3 := gi_b (lo := 0) (hi := 6) g 238 100 rfl
  have b4 := gi_b (lo := 0) (hi := 6) g 238 101 rfl
  have b5 := gi_b (lo := 0) (hi := 3) g 238 102 rfl
  have b6 := gi_b (lo := 0) (hi := 12) g 238 106 rfl
  have b7 := gi_b (lo := 0) (hi := 12) g 238 73 rfl
  have b8 := gi_b (lo := 0) (hi := 12) g 238 2 rfl
  have b9 := gi_b (lo := 0) (hi := 9999) g 238 119 rfl
  have b10 := gi_b (lo := 0) (hi := 9999) g 238 67 rfl
  have b11 := gi_b (lo := 0) (hi := 9) g 238 69 rfl
  have b12 := gi_b (lo := 0) (hi := 9) g 238 5 rfl
  refine wi_aload_n (i := 0) (x := 236) (nx := 1) (r1 := 0) (r2 := 0) (r3 := 0) rfl rfl ?_
  refine wi_iconst (n := 0) (nx := 2) (r1 := 0) (r2 := 0) (r3 := 0) rfl ?_
  refine wr_pf0 (k0 := 236) (x := 0) (bl := 0) (bh := 2) (nx := 5) (r1 := 11) (r2 := 0) (r3 := 0) rfl (by decide) rfl ⟨rfl, rfl⟩ rfl rfl g rfl (by omega) (fun h13 g13 w13 u13 => ?_)
  have F14 := F0.then rfl u13
  refine wi_aload_n (i := 0) (x := 236) (nx := 6) (r1 := 0) (r2 := 0) (r3 := 0) rfl rfl ?_
  refine wr_V (k0 := 236) (rest := []) (as := [.ref 236]) (nx := 9) (r1 := 324) (r2 := 0) (r3 := 11) rfl rfl rfl (of_decide_eq_true rfl) rfl rfl (by decide) rfl rfl (of_decide_eq_true rfl) (of_decide_eq_true rfl) ?_
  have e16 : h13 238 98 = h 238 98 := (u13 238 98 rfl)
  have e17 : h13 238 99 = h 238 99 := (u13 238 99 rfl)
  have e18 : h13 238 100 = h 238 100 := (u13 238 100 rfl)
  have e19 : h13 238 101 = h 238 101 := (u13 238 101 rfl)
  have e20 : h13 238 102 = h 238 102 := (u13 238 102 rfl)
  have e21 : h13 238 106 = h 238 106 := (u13 238 106 rfl)
  have e22 : h13 238 73 = h 238 73 := (u13 238 73 rfl)
  have e23 : h13 238 2 = h 238 2 := (u13 238 2 rfl)
  have e24 : h13 238 119 = h 238 119 := (u13 238 119 rfl)
  have e25 : h13 238 67 = h 238 67 := (u13 238 67 rfl)
  have e26 : h13 238 69 = h 238 69 := (u13 238 69 rfl)
  have e27 : h13 238 5 = h 238 5 := (u13 238 5 rfl)
  refine ct_324_236 hcr  g13   (show (h13 238 98) + (h13 238 99) + (h13 238 100) + (h13 238 101) + (h13 238 102) + (h13 238 106) = (h13 238 73) by omega) (show (h13 238 73) ≤ (h13 238 2) by omega) (show (h13 238 119) ≤ (h13 238 67) by omega) (show (h13 238 69) ≤ (h13 238 5) by omega) (show (h13 238 2) ≤ 12 * (h13 238 5) by omega) (fun h15 z28 g15 u15 (fz28 : 0 ≤ z28 ∧ z28 ≤ 1000000) => ?_)
  have F29 := F14.then (by decide +kernel) u15
  refine wk_i ?_
  refine wi_ireturn (nx := 10) (r1 := 0) (r2 := 0) (r3 := 0) rfl rfl ?_
  exact k h15 z28 g15 F29 (by omega)
-- method 331: Model.swapColor(I)I
set_option maxRecDepth 100000 in
set_option maxHeartbeats 100000000 in
theorem ct_331_236 {L : Nat} {xs : Nat → Int32} {d b c : Nat} {h : hp} {cr : Nat → Nat → Option Nat} {Q : hp_Q} (hcr : CR cr)  (g : GI h) (a0 : Int) (q0_ : -2147483648 ≤ a0 ∧ a0 ≤ 2147483647) (pp0 : h 238 98 + h 238 99 + h 238 100 + h 238 101 + h 238 102 + h 238 106 = h 238 73) (pp1 : h 238 73 ≤ h 238 2) (pp2 : h 238 119 ≤ h 238 67) (pp3 : h 238 69 ≤ h 238 5) (pp4 : h 238 2 ≤ 12 * h 238 5) (k : ∀ (h2 : hp) (z0 : Int) , GI h2 → FR [(249, 249, none), (250, 250, none), (251, 251, none), (252, 252, none), (236, 236, some (0, 0))] h h2 → (-1 ≤ z0 ∧ z0 ≤ 4) → Q (.inl (some (vi z0))) (hp_w h2 cr) b c) : wp (md_xa (L, xs)) (d + 5) 331 (0, [(0, .ref 236), (1, vi a0)], [], hp_w h cr, b, c) Q := by
  have F0 : FR [(249, 249, none), (250, 250, none), (251, 251, none), (252, 252, none), (236, 236, some (0, 0))] h h := FR.refl
  have b1 := gi_b (lo := 0) (hi := 6) g 238 98 rfl
  have b2 := gi_b (lo := 0) (hi := 6) g 238 99 rfl
  have b3 := gi_b (lo := 0) (hi := 6) g 238 100 rfl
  have b4 := gi_b (lo := 0) (hi := 6) g 238 101 rfl
  have b5 := gi_b (lo := 0) (hi := 3) g 238 102 rfl
  have b6 := gi_b (lo := 0) (hi := 12) g 238 106 rfl
  have b7 := gi_b (lo := 0) (hi := 12) g 238 73 rfl
  have b8 := gi_b (lo := 0) (hi := 12) g 238 2 rfl
  have b9 := gi_b (lo := 0) (hi := 9999) g 238 119 rfl
  have b10 := gi_b (lo := 0) (hi := 9999) g 238 67 rfl
  have b11 := gi_b (lo := 0) (hi := 9) g 238 69 rfl
  have b12 := gi_b (lo := 0) (hi := 9) g 238 5 rfl
  refine wi_aload_n (i := 0) (x := 236) (nx := 1) (r1 := 0) (r2 := 0) (r3 := 0) rfl rfl ?_
  refine wi_iconst (n := 0) (nx := 2) (r1 := 0) (r2 := 0) (r3 := 0) rfl ?_
  refine wr_pf0 (k0 := 236) (x := 0) (bl := 0) (bh := 2) (nx := 5) (r1 := 11) (r2 := 0) (r3 := 0) rfl (by decide) rfl ⟨rfl, rfl⟩ rfl rfl g rfl (by omega) (fun h13 g13 w13 u13 => ?_)
  have F14 := F0.then rfl u13
  refine wi_iload_n (i := 1) (e := a0) (nx := 6) (r1 := 0) (r2 := 0) (r3 := 0) rfl rfl ?_
  refine wi_i2l (nx := 7) (r1 := 0) (r2 := 0) (r3 := 0) rfl (by omega) ?_
  refine wi_lconst (n := 0) (e := 0) (nx := 8) (r1 := 0) (r2 := 0) (r3 := 0) rfl (by decide) ?_
  refine wi_aload_n (i := 0) (x := 236) (nx := 9) (r1 := 0) (r2 := 0) (r3 := 0) rfl rfl ?_
  refine wr_V (k0 := 236) (rest := [vl 0, vl a0]) (as := [.ref 236]) (nx := 12) (r1 := 321) (r2 := 0) (r3 := 11) rfl rfl rfl (of_decide_eq_true rfl) rfl rfl (by decide) rfl rfl (of_decide_eq_true rfl) (of_decide_eq_true rfl) ?_
  refine wi_aload_n (i := 0) (x := 236) (nx := 1) (r1 := 0) (r2 := 0) (r3 := 0) rfl rfl ?_
  refine wr_gr (k0 := 236) (x := 238) (nx := 4) (r1 := 11) (r2 := 13) (r3 := 0) rfl rfl (by decide) rfl ⟨rfl, rfl⟩ rfl ?_
  refine wi_iconst (n := 2) (nx := 5) (r1 := 0) (r2 := 0) (r3 := 0) rfl ?_
  refine wr_ia (k0 := 238) (a := 2) (f := 2) (x := h 238 2) (nx := 6) (r1 := 0) (r2 := 0) (r3 := 0) rfl (by decide) rfl (by omega) (by omega) (by decide) (u13 238 2 rfl) ?_
  refine wi_aload_n (i := 0) (x := 236) (nx := 7) (r1 := 0) (r2 := 0) (r3 := 0) rfl rfl ?_
  refine wr_gr (k0 := 236) (x := 238) (nx := 10) (r1 := 11) (r2 := 13) (r3 := 0) rfl rfl (by decide) rfl ⟨rfl, rfl⟩ rfl ?_
  refine wi_bipush (n := 73) (nx := 12) (r1 := 0) (r2 := 0) (r3 := 0) rfl (by decide) ?_
  refine wr_ia (k0 := 238) (a := 73) (f := 73) (x := h 238 73) (nx := 13) (r1 := 0) (r2 := 0) (r3 := 0) rfl (by decide) rfl (by omega) (by omega) (by decide) (u13 238 73 rfl) ?_
  refine wr_sub (nx := 14) (r1 := 0) (r2 := 0) (r3 := 0) rfl (fun e15 (fe15 : e15 = (h 238 2) - (h 238 73)) => ?_)
  refine wi_ireturn (nx := 15) (r1 := 0) (r2 := 0) (r3 := 0) rfl rfl ?_
  refine wk_i ?_
  refine wi_iconst (n := 1) (nx := 13) (r1 := 0) (r2 := 0) (r3 := 0) rfl ?_
  refine wr_sub (nx := 14) (r1 := 0) (r2 := 0) (r3 := 0) rfl (fun e16 (fe16 : e16 = e15 - 1) => ?_)
  refine wi_i2l (nx := 15) (r1 := 0) (r2 := 0) (r3 := 0) rfl (by omega) ?_
  refine wi_S (rest := []) (as := [vl a0, vl 0, vl e16]) (nx := 18) (r1 := 210) (r2 := 19) (r3 := 0) rfl rfl rfl (of_decide_eq_true rfl) rfl rfl (of_decide_eq_true rfl) (of_decide_eq_true rfl) ?_
  refine wi_lload_n (i := 0) (e := a0) (nx := 1) (r1 := 0) (r2 := 0) (r3 := 0) rfl rfl ?_
  refine wi_lload_n (i := 2) (e := 0) (nx := 2) (r1 := 0) (r2 := 0) (r3 := 0) rfl rfl ?_
  refine wi_lcmp (a := a0) (e := 0) (nx := 3) (r1 := 0) (r2 := 0) (r3 := 0) rfl (by omega) (by omega) (fun r17 (fr17 : (r17 = -1 ∧ a0 < 0) ∨ (r17 = 0 ∧ a0 = 0) ∨ (r17 = 1 ∧ 0 < a0)) => ?_)
  refine wi_if (cd := .lt) (nx := 6) (r1 := 17) (r2 := 0) (r3 := 0) rfl (by omega) (fun (q18 : r17 < 0) => ?_) (fun (q18 : ¬ (r17 < 0)) => ?_)
  ·
    refine wi_iconst (n := 0) (nx := 18) (r1 := 0) (r2 := 0) (r3 := 0) rfl ?_
    refine wi_zreturn (nx := 19) (r1 := 0) (r2 := 0) (r3 := 0) rfl rfl (by omega) ?_
    refine wk_i ?_
    refine wi_if (cd := .ne) (nx := 21) (r1 := 23) (r2 := 0) (r3 := 0) rfl (by omega) (fun (q19 : 0 ≠ 0) => by exfalso; omega) (fun (q19 : ¬ (0 ≠ 0)) => ?_)
    refine wi_iconst (n := (-1)) (nx := 22) (r1 := 0) (r2 := 0) (r3 := 0) rfl ?_
    refine wi_ireturn (nx := 23) (r1 := 0) (r2 := 0) (r3 := 0) rfl rfl ?_
    exact k h13 (-1) g13 F14 (by omega)
  ·
    refine wi_lload_n (i := 0) (e := a0) (nx := 7) (r1 := 0) (r2 := 0) (r3 := 0) rfl rfl ?_
    refine wi_lload (i := 4) (e := e16) (nx := 9) (r1 := 0) (r2 := 0) (r3 := 0) rfl rfl ?_
    refine wi_lcmp (a := a0) (e := e16) (nx := 10) (r1 := 0) (r2 := 0) (r3 := 0) rfl (by omega) (by omega) (fun r19 (fr19 : (r19 = -1 ∧ a0 < e16) ∨ (r19 = 0 ∧ a0 = e16) ∨ (r19 = 1 ∧ e16 < a0)) => ?_)
    refine wi_if (cd := .gt) (nx := 13) (r1 := 17) (r2 := 0) (r3 := 0) rfl (by omega) (fun (q20 : 0 < r19) => ?_) (fun (q20 : ¬ (0 < r19)) => ?_)
    ·
      refine wi_iconst (n := 0) (nx := 18) (r1 := 0) (r2 := 0) (r3 := 0) rfl ?_
      refine wi_zreturn (nx := 19) (r1 := 0) (r2 := 0) (r3 := 0) rfl rfl (by omega) ?_
      refine wk_i ?_
      refine wi_if (cd := .ne) (nx := 21) (r1 := 23) (r2 := 0) (r3 := 0) rfl (by omega) (fun (q21 : 0 ≠ 0) => by exfalso; omega) (fun (q21 : ¬ (0 ≠ 0)) => ?_)
      refine wi_iconst (n := (-1)) (nx := 22) (r1 := 0) (r2 := 0) (r3 := 0) rfl ?_
      refine wi_ireturn (nx := 23) (r1 := 0) (r2 := 0) (r3 := 0) rfl rfl ?_
      exact k h13 (-1) g13 F14 (by omega)
    ·
      refine wi_iconst (n := 1) (nx := 14) (r1 := 0) (r2 := 0) (r3 := 0) rfl ?_
      refine wi_goto (nx := 17) (r1 := 18) (r2 := 0) (r3 := 0) rfl ?_
      refine wi_zreturn (nx := 19) (r1 := 0) (r2 := 0) (r3 := 0) rfl rfl (by omega) ?_
      refine wk_i ?_
      refine wi_if (cd := .ne) (nx := 21) (r1 := 23) (r2 := 0) (r3 := 0) rfl (by omega) (fun (q21 : 1 ≠ 0) => ?_) (fun (q21 : ¬ (1 ≠ 0)) => by exfalso; omega)
      refine wi_aload_n (i := 0) (x := 236) (nx := 24) (r1 := 0) (r2 := 0) (r3 := 0) rfl rfl ?_
      refine wr_V (k0 := 236) (rest := []) (as := [.ref 236]) (nx := 27) (r1 := 324) (r2 := 0) (r3 := 11) rfl rfl rfl (of_decide_eq_true rfl) rfl rfl (by decide) rfl rfl (of_decide_eq_true rfl) (of_decide_eq_true rfl) ?_
      have e23 : h13 238 98 = h 238 98 := (u13 238 98 rfl)
      have e24 : h13 238 99 = h 238 99 := (u13 238 99 rfl)
      have e25 : h13 238 100 = h 238 100 := (u13 238 100 rfl)
      have e26 : h13 238 101 = h 238 101 := (u13 238 101 rfl)
      have e27 : h13 238 102 = h 238 102 := (u13 238 102 rfl)
      have e28 : h13 238 106 = h 238 106 := (u13 238 106 rfl)
      have e29 : h13 238 73 = h 238 73 := (u13 238 73 rfl)
      have e30 : h13 238 2 = h 238 2 := (u13 238 2 rfl)
      have e31 : h13 238 119 = h 238 119 := (u13 238 119 rfl)
      have e32 : h13 238 67 = h 238 67 := (u13 238 67 rfl)
      have e33 : h13 238 69 = h 238 69 := (u13 238 69 rfl)
      have e34 : h13 238 5 = h 238 5 := (u13 238 5 rfl)
      refine ct_324_236 hcr  g13   (show (h13 238 98) + (h13 238 99) + (h13 238 100) + (h13 238 101) + (h13 238 102) + (h13 238 106) = (h13 238 73) by omega) (show (h13 238 73) ≤ (h13 238 2) by omega) (show (h13 238 119) ≤ (h13 238 67) by omega) (show (h13 238 69) ≤ (h13 238 5) by omega) (show (h13 238 2) ≤ 12 * (h13 238 5) by omega) (fun h22 z35 g22 u22 (fz35 : 0 ≤ z35 ∧ z35 ≤ 1000000) => ?_)
      have F36 := F14.then (by decide +kernel) u22
      refine wk_i ?_
      refine wi_istore_n (i := 2) (e := z35) (lo2 := [(2, vi z35), (0, .ref 236), (1, vi a0)]) (nx := 28) (r1 := 0) (r2 := 0) (r3 := 0) rfl rfl ?_
      refine wi_aload_n (i := 0) (x := 236) (nx := 29) (r1 := 0) (r2 := 0) (r3 := 0) rfl rfl ?_
      refine wr_gr (k0 := 236) (x := 252) (nx := 32) (r1 := 11) (r2 := 36) (r3 := 0) rfl rfl (by decide) rfl ⟨rfl, rfl⟩ rfl ?_
      refine wi_iload_n (i := 1) (e := a0) (nx := 33) (r1 := 0) (r2 := 0) (r3 := 0) rfl rfl ?_
      obtain ⟨i37, ei37⟩ : ∃ q : Nat, a0 = (q : Int) := ⟨(a0).toNat, by omega⟩
      have b38 := gi_b (lo := 0) (hi := 4) g22 252 i37 rfl
      refine wr_ia (k0 := 252) (a := a0) (f := i37) (x := h22 252 i37) (nx := 34) (r1 := 0) (r2 := 0) (r3 := 0) rfl (by decide) rfl (by omega) (by omega) (by decide) rfl ?_
      refine wi_ireturn (nx := 35) (r1 := 0) (r2 := 0) (r3 := 0) rfl rfl ?_
      exact k h22 (h22 252 i37) g22 F36 (by omega)
-- method 271: Model.time()I
set_option maxRecDepth 100000 in
set_option maxHeartbeats 100000000 in
theorem ct_271_236 {L : Nat} {xs : Nat → Int32} {d b c : Nat} {h : hp} {cr : Nat → Nat → Option Nat} {Q : hp_Q} (hcr : CR cr)  (g : GI h)    (k : ∀ (h2 : hp) (z0 : Int) , GI h2 → FR [(236, 236, some (0, 0))] h h2 → (0 ≤ z0 ∧ z0 ≤ 9999) → Q (.inl (some (vi z0))) (hp_w h2 cr) b c) : wp (md_xa (L, xs)) (d + 1) 271 (0, [(0, .ref 236)], [], hp_w h cr, b, c) Q := by
  have F0 : FR [(236, 236, some (0, 0))] h h := FR.refl
  refine wi_aload_n (i := 0) (x := 236) (nx := 1) (r1 := 0) (r2 := 0) (r3 := 0) rfl rfl ?_
  refine wi_bipush (n := 67) (nx := 3) (r1 := 0) (r2 := 0) (r3 := 0) rfl (by decide) ?_
  refine wr_V (k0 := 236) (rest := []) (as := [.ref 236, vi 67]) (nx := 6) (r1 := 269) (r2 := 1) (r3 := 11) rfl rfl rfl (of_decide_eq_true rfl) rfl rfl (by decide) rfl rfl (of_decide_eq_true rfl) (of_decide_eq_true rfl) ?_
  refine wi_aload_n (i := 0) (x := 236) (nx := 1) (r1 := 0) (r2 := 0) (r3 := 0) rfl rfl ?_
  refine wi_iconst (n := 0) (nx := 2) (r1 := 0) (r2 := 0) (r3 := 0) rfl ?_
  refine wr_pf0 (k0 := 236) (x := 0) (bl := 0) (bh := 2) (nx := 5) (r1 := 11) (r2 := 0) (r3 := 0) rfl (by decide) rfl ⟨rfl, rfl⟩ rfl rfl g rfl (by omega) (fun h1 g1 w1 u1 => ?_)
  have F2 := F0.then rfl u1
  refine wi_aload_n (i := 0) (x := 236) (nx := 6) (r1 := 0) (r2 := 0) (r3 := 0) rfl rfl ?_
  refine wr_gr (k0 := 236) (x := 238) (nx := 9) (r1 := 11) (r2 := 13) (r3 := 0) rfl rfl (by decide) rfl ⟨rfl, rfl⟩ rfl ?_
  refine wi_iload_n (i := 1) (e := 67) (nx := 10) (r1 := 0) (r2 := 0) (r3 := 0) rfl rfl ?_
  have b3 := gi_b (lo := 0) (hi := 9999) g 238 67 rfl
  refine wr_ia (k0 := 238) (a := 67) (f := 67) (x := h 238 67) (nx := 11) (r1 := 0) (r2 := 0) (r3 := 0) rfl (by decide) rfl (by omega) (by omega) (by decide) (u1 238 67 rfl) ?_
  refine wi_ireturn (nx := 12) (r1 := 0) (r2 := 0) (r3 := 0) rfl rfl ?_
  refine wk_i ?_
  refine wi_ireturn (nx := 7) (r1 := 0) (r2 := 0) (r3 := 0) rfl rfl ?_
  exact k h1 (h 238 67) g1 F2 (by omega)
-- method 209: Model.truncate(I)I
set_option maxRecDepth 100000 in
set_option maxHeartbeats 100000000 in
theorem ct_209_236 {L : Nat} {xs : Nat → Int32} {d b c : Nat} {h : hp} {cr : Nat → Nat → Option Nat} {Q : hp_Q} (hcr : CR cr)  (g : GI h) (a0 : Int) (q0_ : -2147483648 ≤ a0 ∧ a0 ≤ 2147483647)  (k : ∀ (h2 : hp) (z0 : Int) , GI h2 → FR [(236, 236, some (0, 0)), (236, 236, some (2, 2))] h h2 → (0 ≤ z0 ∧ z0 ≤ 800) → ((0 ≤ a0 ∧ a0 ≤ h 236 2 ∧ h2 236 0 = 0 ∧ h2 236 2 = a0 ∧ z0 = a0) ∨ ((a0 < 0 ∨ h 236 2 < a0) ∧ h2 236 0 = 1 ∧ h2 236 2 = h 236 2)) → Q (.inl (some (vi z0))) (hp_w h2 cr) b c) : wp (md_xa (L, xs)) (d + 2) 209 (0, [(0, .ref 236), (1, vi a0)], [], hp_w h cr, b, c) Q := by
  have F0 : FR [(236, 236, some (0, 0)), (236, 236, some (2, 2))] h h := FR.refl
  refine wi_aload_n (i := 0) (x := 236) (nx := 1) (r1 := 0) (r2 := 0) (r3 := 0) rfl rfl ?_
  refine wi_iload_n (i := 1) (e := a0) (nx := 2) (r1 := 0) (r2 := 0) (r3 := 0) rfl rfl ?_
  refine wi_i2l (nx := 3) (r1 := 0) (r2 := 0) (r3 := 0) rfl (by omega) ?_
  refine wi_lconst (n := 0) (e := 0) (nx := 4) (r1 := 0) (r2 := 0) (r3 := 0) rfl (by decide) ?_
  refine wi_aload_n (i := 0) (x := 236) (nx := 5) (r1 := 0) (r2 := 0) (r3 := 0) rfl rfl ?_
  have b1 := gi_b (lo := 0) (hi := 800) g 236 2 rfl
  refine wr_gi0 (k0 := 236) (x := h 236 2) (nx := 8) (r1 := 11) (r2 := 2) (r3 := 0) rfl rfl (by decide) rfl ⟨rfl, rfl⟩ rfl rfl ?_
  refine wi_i2l (nx := 9) (r1 := 0) (r2 := 0) (r3 := 0) rfl (by omega) ?_
  refine wi_S (rest := [.ref 236]) (as := [vl a0, vl 0, vl (h 236 2)]) (nx := 12) (r1 := 210) (r2 := 19) (r3 := 0) rfl rfl rfl (of_decide_eq_true rfl) rfl rfl (of_decide_eq_true rfl) (of_decide_eq_true rfl) ?_
  refine wi_lload_n (i := 0) (e := a0) (nx := 1) (r1 := 0) (r2 := 0) (r3 := 0) rfl rfl ?_
  refine wi_lload_n (i := 2) (e := 0) (nx := 2) (r1 := 0) (r2 := 0) (r3 := 0) rfl rfl ?_
  refine wi_lcmp (a := a0) (e := 0) (nx := 3) (r1 := 0) (r2 := 0) (r3 := 0) rfl (by omega) (by omega) (fun r2 (fr2 : (r2 = -1 ∧ a0 < 0) ∨ (r2 = 0 ∧ a0 = 0) ∨ (r2 = 1 ∧ 0 < a0)) => ?_)
  refine wi_if (cd := .lt) (nx := 6) (r1 := 17) (r2 := 0) (r3 := 0) rfl (by omega) (fun (q3 : r2 < 0) => ?_) (fun (q3 : ¬ (r2 < 0)) => ?_)
  ·
    refine wi_iconst (n := 0) (nx := 18) (r1 := 0) (r2 := 0) (r3 := 0) rfl ?_
    refine wi_zreturn (nx := 19) (r1 := 0) (r2 := 0) (r3 := 0) rfl rfl (by omega) ?_
    refine wk_i ?_
    refine wr_V (k0 := 236) (rest := []) (as := [.ref 236, vi 0]) (nx := 15) (r1 := 206) (r2 := 1) (r3 := 11) rfl rfl rfl (of_decide_eq_true rfl) rfl rfl (by decide) rfl rfl (of_decide_eq_true rfl) (of_decide_eq_true rfl) ?_
    refine wi_aload_n (i := 0) (x := 236) (nx := 1) (r1 := 0) (r2 := 0) (r3 := 0) rfl rfl ?_
    refine wi_iload_n (i := 1) (e := 0) (nx := 2) (r1 := 0) (r2 := 0) (r3 := 0) rfl rfl ?_
    refine wi_if (cd := .ne) (nx := 5) (r1 := 9) (r2 := 0) (r3 := 0) rfl (by omega) (fun (q4 : 0 ≠ 0) => by exfalso; omega) (fun (q4 : ¬ (0 ≠ 0)) => ?_)
    refine wi_iconst (n := 1) (nx := 6) (r1 := 0) (r2 := 0) (r3 := 0) rfl ?_
    refine wi_goto (nx := 9) (r1 := 10) (r2 := 0) (r3 := 0) rfl ?_
    refine wi_S (rest := [.ref 236]) (as := [vi 1]) (nx := 13) (r1 := 207) (r2 := 17) (r3 := 0) rfl rfl rfl (of_decide_eq_true rfl) rfl rfl (of_decide_eq_true rfl) (of_decide_eq_true rfl) ?_
    refine wi_iload_n (i := 0) (e := 1) (nx := 1) (r1 := 0) (r2 := 0) (r3 := 0) rfl rfl ?_
    refine wi_if (cd := .eq) (nx := 4) (r1 := 8) (r2 := 0) (r3 := 0) rfl (by omega) (fun (q5 : 1 = 0) => by exfalso; omega) (fun (q5 : ¬ (1 = 0)) => ?_)
    refine wi_iconst (n := 1) (nx := 5) (r1 := 0) (r2 := 0) (r3 := 0) rfl ?_
    refine wi_goto (nx := 8) (r1 := 9) (r2 := 0) (r3 := 0) rfl ?_
    refine wi_ireturn (nx := 10) (r1 := 0) (r2 := 0) (r3 := 0) rfl rfl ?_
    refine wk_i ?_
    refine wr_pf0 (k0 := 236) (x := 1) (bl := 0) (bh := 2) (nx := 16) (r1 := 11) (r2 := 0) (r3 := 0) rfl (by decide) rfl ⟨rfl, rfl⟩ rfl rfl g rfl (by omega) (fun h6 g6 w6 u6 => ?_)
    have F7 := F0.then rfl u6
    refine wi_iload_n (i := 1) (e := 0) (nx := 17) (r1 := 0) (r2 := 0) (r3 := 0) rfl rfl ?_
    refine wi_zreturn (nx := 18) (r1 := 0) (r2 := 0) (r3 := 0) rfl rfl (by omega) ?_
    refine wk_i ?_
    refine wi_if (cd := .ne) (nx := 18) (r1 := 20) (r2 := 0) (r3 := 0) rfl (by omega) (fun (q8 : 0 ≠ 0) => by exfalso; omega) (fun (q8 : ¬ (0 ≠ 0)) => ?_)
    refine wi_iconst (n := 0) (nx := 19) (r1 := 0) (r2 := 0) (r3 := 0) rfl ?_
    refine wi_ireturn (nx := 20) (r1 := 0) (r2 := 0) (r3 := 0) rfl rfl ?_
    have e9 : h6 236 0 = 1 := w6
    have e10 : h6 236 2 = h 236 2 := (u6 236 2 rfl)
    exact k h6 0 g6 F7 (by omega) (show (0 ≤ a0 ∧ a0 ≤ (h 236 2) ∧ (h6 236 0) = 0 ∧ (h6 236 2) = a0 ∧ 0 = a0) ∨ ((a0 < 0 ∨ (h 236 2) < a0) ∧ (h6 236 0) = 1 ∧ (h6 236 2) = (h 236 2)) by omega)
  ·
    refine wi_lload_n (i := 0) (e := a0) (nx := 7) (r1 := 0) (r2 := 0) (r3 := 0) rfl rfl ?_
    refine wi_lload (i := 4) (e := h 236 2) (nx := 9) (r1 := 0) (r2 := 0) (r3 := 0) rfl rfl ?_
    refine wi_lcmp (a := a0) (e := h 236 2) (nx := 10) (r1 := 0) (r2 := 0) (r3 := 0) rfl (by omega) (by omega) (fun r4 (fr4 : (r4 = -1 ∧ a0 < (h 236 2)) ∨ (r4 = 0 ∧ a0 = (h 236 2)) ∨ (r4 = 1 ∧ (h 236 2) < a0)) => ?_)
    refine wi_if (cd := .gt) (nx := 13) (r1 := 17) (r2 := 0) (r3 := 0) rfl (by omega) (fun (q5 : 0 < r4) => ?_) (fun (q5 : ¬ (0 < r4)) => ?_)
    ·
      refine wi_iconst (n := 0) (nx := 18) (r1 := 0) (r2 := 0) (r3 := 0) rfl ?_
      refine wi_zreturn (nx := 19) (r1 := 0) (r2 := 0) (r3 := 0) rfl rfl (by omega) ?_
      refine wk_i ?_
      refine wr_V (k0 := 236) (rest := []) (as := [.ref 236, vi 0]) (nx := 15) (r1 := 206) (r2 := 1) (r3 := 11) rfl rfl rfl (of_decide_eq_true rfl) rfl rfl (by decide) rfl rfl (of_decide_eq_true rfl) (of_decide_eq_true rfl) ?_
      refine wi_aload_n (i := 0) (x := 236) (nx := 1) (r1 := 0) (r2 := 0) (r3 := 0) rfl rfl ?_
      refine wi_iload_n (i := 1) (e := 0) (nx := 2) (r1 := 0) (r2 := 0) (r3 := 0) rfl rfl ?_
      refine wi_if (cd := .ne) (nx := 5) (r1 := 9) (r2 := 0) (r3 := 0) rfl (by omega) (fun (q6 : 0 ≠ 0) => by exfalso; omega) (fun (q6 : ¬ (0 ≠ 0)) => ?_)
      refine wi_iconst (n := 1) (nx := 6) (r1 := 0) (r2 := 0) (r3 := 0) rfl ?_
      refine wi_goto (nx := 9) (r1 := 10) (r2 := 0) (r3 := 0) rfl ?_
      refine wi_S (rest := [.ref 236]) (as := [vi 1]) (nx := 13) (r1 := 207) (r2 := 17) (r3 := 0) rfl rfl rfl (of_decide_eq_true rfl) rfl rfl (of_decide_eq_true rfl) (of_decide_eq_true rfl) ?_
      refine wi_iload_n (i := 0) (e := 1) (nx := 1) (r1 := 0) (r2 := 0) (r3 := 0) rfl rfl ?_
      refine wi_if (cd := .eq) (nx := 4) (r1 := 8) (r2 := 0) (r3 := 0) rfl (by omega) (fun (q7 : 1 = 0) => by exfalso; omega) (fun (q7 : ¬ (1 = 0)) => ?_)
      refine wi_iconst (n := 1) (nx := 5) (r1 := 0) (r2 := 0) (r3 := 0) rfl ?_
      refine wi_goto (nx := 8) (r1 := 9) (r2 := 0) (r3 := 0) rfl ?_
      refine wi_ireturn (nx := 10) (r1 := 0) (r2 := 0) (r3 := 0) rfl rfl ?_
      refine wk_i ?_
      refine wr_pf0 (k0 := 236) (x := 1) (bl := 0) (bh := 2) (nx := 16) (r1 := 11) (r2 := 0) (r3 := 0) rfl (by decide) rfl ⟨rfl, rfl⟩ rfl rfl g rfl (by omega) (fun h8 g8 w8 u8 => ?_)
      have F9 := F0.then rfl u8
      refine wi_iload_n (i := 1) (e := 0) (nx := 17) (r1 := 0) (r2 := 0) (r3 := 0) rfl rfl ?_
      refine wi_zreturn (nx := 18) (r1 := 0) (r2 := 0) (r3 := 0) rfl rfl (by omega) ?_
      refine wk_i ?_
      refine wi_if (cd := .ne) (nx := 18) (r1 := 20) (r2 := 0) (r3 := 0) rfl (by omega) (fun (q10 : 0 ≠ 0) => by exfalso; omega) (fun (q10 : ¬ (0 ≠ 0)) => ?_)
      refine wi_iconst (n := 0) (nx := 19) (r1 := 0) (r2 := 0) (r3 := 0) rfl ?_
      refine wi_ireturn (nx := 20) (r1 := 0) (r2 := 0) (r3 := 0) rfl rfl ?_
      have e11 : h8 236 0 = 1 := w8
      have e12 : h8 236 2 = h 236 2 := (u8 236 2 rfl)
      exact k h8 0 g8 F9 (by omega) (show (0 ≤ a0 ∧ a0 ≤ (h 236 2) ∧ (h8 236 0) = 0 ∧ (h8 236 2) = a0 ∧ 0 = a0) ∨ ((a0 < 0 ∨ (h 236 2) < a0) ∧ (h8 236 0) = 1 ∧ (h8 236 2) = (h 236 2)) by omega)
    ·
      refine wi_iconst (n := 1) (nx := 14) (r1 := 0) (r2 := 0) (r3 := 0) rfl ?_
      refine wi_goto (nx := 17) (r1 := 18) (r2 := 0) (r3 := 0) rfl ?_
      refine wi_zreturn (nx := 19) (r1 := 0) (r2 := 0) (r3 := 0) rfl rfl (by omega) ?_
      refine wk_i ?_
      refine wr_V (k0 := 236) (rest := []) (as := [.ref 236, vi 1]) (nx := 15) (r1 := 206) (r2 := 1) (r3 := 11) rfl rfl rfl (of_decide_eq_true rfl) rfl rfl (by decide) rfl rfl (of_decide_eq_true rfl) (of_decide_eq_true rfl) ?_
      refine wi_aload_n (i := 0) (x := 236) (nx := 1) (r1 := 0) (r2 := 0) (r3 := 0) rfl rfl ?_
      refine wi_iload_n (i := 1) (e := 1) (nx := 2) (r1 := 0) (r2 := 0) (r3 := 0) rfl rfl ?_
      refine wi_if (cd := .ne) (nx := 5) (r1 := 9) (r2 := 0) (r3 := 0) rfl (by omega) (fun (q6 : 1 ≠ 0) => ?_) (fun (q6 : ¬ (1 ≠ 0)) => by exfalso; omega)
      refine wi_iconst (n := 0) (nx := 10) (r1 := 0) (r2 := 0) (r3 := 0) rfl ?_
      refine wi_S (rest := [.ref 236]) (as := [vi 0]) (nx := 13) (r1 := 207) (r2 := 17) (r3 := 0) rfl rfl rfl (of_decide_eq_true rfl) rfl rfl (of_decide_eq_true rfl) (of_decide_eq_true rfl) ?_
      refine wi_iload_n (i := 0) (e := 0) (nx := 1) (r1 := 0) (r2 := 0) (r3 := 0) rfl rfl ?_
      refine wi_if (cd := .eq) (nx := 4) (r1 := 8) (r2 := 0) (r3 := 0) rfl (by omega) (fun (q7 : 0 = 0) => ?_) (fun (q7 : ¬ (0 = 0)) => by exfalso; omega)
      refine wi_iconst (n := 0) (nx := 9) (r1 := 0) (r2 := 0) (r3 := 0) rfl ?_
      refine wi_ireturn (nx := 10) (r1 := 0) (r2 := 0) (r3 := 0) rfl rfl ?_
      refine wk_i ?_
      refine wr_pf0 (k0 := 236) (x := 0) (bl := 0) (bh := 2) (nx := 16) (r1 := 11) (r2 := 0) (r3 := 0) rfl (by decide) rfl ⟨rfl, rfl⟩ rfl rfl g rfl (by omega) (fun h8 g8 w8 u8 => ?_)
      have F9 := F0.then rfl u8
      refine wi_iload_n (i := 1) (e := 1) (nx := 17) (r1 := 0) (r2 := 0) (r3 := 0) rfl rfl ?_
      refine wi_zreturn (nx := 18) (r1 := 0) (r2 := 0) (r3 := 0) rfl rfl (by omega) ?_
      refine wk_i ?_
      refine wi_if (cd := .ne) (nx := 18) (r1 := 20) (r2 := 0) (r3 := 0) rfl (by omega) (fun (q10 : 1 ≠ 0) => ?_) (fun (q10 : ¬ (1 ≠ 0)) => by exfalso; omega)
      refine wi_aload_n (i := 0) (x := 236) (nx := 21) (r1 := 0) (r2 := 0) (r3 := 0) rfl rfl ?_
      refine wi_iload_n (i := 1) (e := a0) (nx := 22) (r1 := 0) (r2 := 0) (r3 := 0) rfl rfl ?_
      refine wr_pf0 (k0 := 236) (x := a0) (bl := 0) (bh := 800) (nx := 25) (r1 := 11) (r2 := 2) (r3 := 0) rfl (by decide) rfl ⟨rfl, rfl⟩ rfl rfl g8 rfl (by omega) (fun h11 g11 w11 u11 => ?_)
      have F12 := F9.then rfl u11
      refine wi_iload_n (i := 1) (e := a0) (nx := 26) (r1 := 0) (r2 := 0) (r3 := 0) rfl rfl ?_
      refine wi_ireturn (nx := 27) (r1 := 0) (r2 := 0) (r3 := 0) rfl rfl ?_
      have e13 : h11 236 0 = 0 := ((u11 236 0 rfl).trans w8)
      have e14 : h11 236 2 = a0 := w11
      exact k h11 a0 g11 F12 (by omega) (show (0 ≤ a0 ∧ a0 ≤ (h 236 2) ∧ (h11 236 0) = 0 ∧ (h11 236 2) = a0 ∧ a0 = a0) ∨ ((a0 < 0 ∨ (h 236 2) < a0) ∧ (h11 236 0) = 1 ∧ (h11 236 2) = (h 236 2)) by omega)
-- method 351: Model.undo()I
set_option maxRecDepth 100000 in
set_option maxHeartbeats 100000000 in
theorem ct_351_236 {L : Nat} {xs : Nat → Int32} {d b c : Nat} {h : hp} {cr : Nat → Nat → Option Nat} {Q : hp_Q} (hcr : CR cr)  (g : GI h)   (pp0 : h 238 98 + h 238 99 + h 238 100 + h 238 101 + h 238 102 + h 238 106 = h 238 73) (pp1 : h 238 73 ≤ h 238 2) (pp2 : h 238 119 ≤ h 238 67) (pp3 : h 238 69 ≤ h 238 5) (pp4 : h 238 2 ≤ 12 * h 238 5) (gp0 : GPH h) (k : ∀ (h2 : hp) (z0 : Int) , GI h2 → FR [(238, 238, none), (236, 236, some (0, 0)), (236, 236, some (22, 22))] h h2 → (-1 ≤ z0 ∧ z0 ≤ 5) → (RS (h2 238) 0) → (GPH h2) → Q (.inl (some (vi z0))) (hp_w h2 cr) b c) : wp (md_xa (L, xs)) d 351 (0, [(0, .ref 236)], [], hp_w h cr, b, c) Q := by
  have F0 : FR [(238, 238, none), (236, 236, some (0, 0)), (236, 236, some (22, 22))] h h := FR.refl
  have b1 := gi_b (lo := 0) (hi := 6) g 238 98 rfl
  have b2 := gi_b (lo := 0) (hi := 6) g 238 99 rfl
  have b3 := gi_b (lo := 0) (hi := 6) g 238 100 rfl
  have b4 := gi_b (lo := 0) (hi := 6) g 238 101 rfl
  have b5 := gi_b (lo := 0) (hi := 3) g 238 102 rfl
  have b6 := gi_b (lo := 0) (hi := 12) g 238 106 rfl
  have b7 := gi_b (lo := 0) (hi := 12) g 238 73 rfl
  have b8 := gi_b (lo := 0) (hi := 12) g 238 2 rfl
  have b9 := gi_b (lo := 0) (hi := 9999) g 238 119 rfl
  have b10 := gi_b (lo := 0) (hi := 9999) g 238 67 rfl
  have b11 := gi_b (lo := 0) (hi := 9) g 238 69 rfl
  have b12 := gi_b (lo := 0) (hi := 9) g 238 5 rfl
  refine wi_aload_n (i := 0) (x := 236) (nx := 1) (r1 := 0) (r2 := 0) (r3 := 0) rfl rfl ?_
  refine wi_iconst (n := 0) (nx := 2) (r1 := 0) (r2 := 0) (r3 := 0) rfl ?_
  refine wr_pf0 (k0 := 236) (x := 0) (bl := 0) (bh := 2) (nx := 5) (r1 := 11) (r2 := 0) (r3 := 0) rfl (by decide) rfl ⟨rfl, rfl⟩ rfl rfl g rfl (by omega) (fun h13 g13 w13 u13 => ?_)
  have F14 := F0.then rfl u13
  refine wi_aload_n (i := 0) (x := 236) (nx := 6) (r1 := 0) (r2 := 0) (r3 := 0) rfl rfl ?_
  have b15 := gi_b (lo := 0) (hi := 6) g 236 22 rfl
  rcases (show h 236 22 = 0 ∨ h 236 22 = 1 ∨ h 236 22 = 2 ∨ h 236 22 = 3 ∨ h 236 22 = 4 ∨ h 236 22 = 5 ∨ h 236 22 = 6 by omega) with q16 | q16 | q16 | q16 | q16 | q16 | q16
  ·
    refine wr_gi0 (k0 := 236) (x := 0) (nx := 9) (r1 := 11) (r2 := 22) (r3 := 0) rfl rfl (by decide) rfl ⟨rfl, rfl⟩ rfl ((u13 236 22 rfl).trans q16) ?_
    refine wi_if (cd := .ne) (nx := 12) (r1 := 14) (r2 := 0) (r3 := 0) rfl (by omega) (fun (q17 : 0 ≠ 0) => by exfalso; omega) (fun (q17 : ¬ (0 ≠ 0)) => ?_)
    refine wi_iconst (n := (-1)) (nx := 13) (r1 := 0) (r2 := 0) (r3 := 0) rfl ?_
    refine wi_ireturn (nx := 14) (r1 := 0) (r2 := 0) (r3 := 0) rfl rfl ?_
    have e18 : h13 238 98 = h 238 98 := (u13 238 98 rfl)
    have e19 : h13 238 99 = h 238 99 := (u13 238 99 rfl)
    have e20 : h13 238 100 = h 238 100 := (u13 238 100 rfl)
    have e21 : h13 238 101 = h 238 101 := (u13 238 101 rfl)
    have e22 : h13 238 102 = h 238 102 := (u13 238 102 rfl)
    have e23 : h13 238 106 = h 238 106 := (u13 238 106 rfl)
    have e24 : h13 238 73 = h 238 73 := (u13 238 73 rfl)
    have e25 : h13 238 2 = h 238 2 := (u13 238 2 rfl)
    have e26 : h13 238 119 = h 238 119 := (u13 238 119 rfl)
    have e27 : h13 238 67 = h 238 67 := (u13 238 67 rfl)
    have e28 : h13 238 69 = h 238 69 := (u13 238 69 rfl)
    have e29 : h13 238 5 = h 238 5 := (u13 238 5 rfl)
    have gp30 := GPH.fr u13 rfl gp0
    exact k h13 (-1) g13 F14 (by omega) (RS.i0 (f := h13 238) (by refine ⟨?_, ?_, ?_, ?_, ?_⟩ <;> omega)) gp30
  ·
    refine wr_gi0 (k0 := 236) (x := 1) (nx := 9) (r1 := 11) (r2 := 22) (r3 := 0) rfl rfl (by decide) rfl ⟨rfl, rfl⟩ rfl ((u13 236 22 rfl).trans q16) ?_
    refine wi_if (cd := .ne) (nx := 12) (r1 := 14) (r2 := 0) (r3 := 0) rfl (by omega) (fun (q17 : 1 ≠ 0) => ?_) (fun (q17 : ¬ (1 ≠ 0)) => by exfalso; omega)
    refine wi_aload_n (i := 0) (x := 236) (nx := 15) (r1 := 0) (r2 := 0) (r3 := 0) rfl rfl ?_
    refine wi_dup (nx := 16) (r1 := 0) (r2 := 0) (r3 := 0) rfl rfl ?_
    refine wr_gi0 (k0 := 236) (x := 1) (nx := 19) (r1 := 11) (r2 := 22) (r3 := 0) rfl rfl (by decide) rfl ⟨rfl, rfl⟩ rfl ((u13 236 22 rfl).trans q16) ?_
    refine wi_iconst (n := 1) (nx := 20) (r1 := 0) (r2 := 0) (r3 := 0) rfl ?_
    refine wr_subL (0) (nx := 21) (r1 := 0) (r2 := 0) (r3 := 0) rfl (by decide) ?_
    refine wr_pf0 (k0 := 236) (x := 0) (bl := 0) (bh := 6) (nx := 24) (r1 := 11) (r2 := 22) (r3 := 0) rfl (by decide) rfl ⟨rfl, rfl⟩ rfl rfl g13 rfl (by omega) (fun h18 g18 w18 u18 => ?_)
    have F19 := F14.then rfl u18
    refine wi_iconst (n := 0) (nx := 25) (r1 := 0) (r2 := 0) (r3 := 0) rfl ?_
    refine wi_istore_n (i := 1) (e := 0) (lo2 := [(1, vi 0), (0, .ref 236)]) (nx := 26) (r1 := 0) (r2 := 0) (r3 := 0) rfl rfl ?_
    refine wp.lo (lo := [(0, .ref 236), (1, vi 0)]) ⟨rfl, rfl, trivial⟩ rfl ?_
    refine wl_1 (fun x20 h21 => GI h21 ∧ FR [(238, 238, none), (236, 236, some (0, 0)), (236, 236, some (22, 22))] h h21 ∧ FR [(238, 238, none)] h18 h21 ∧ ((0 ≤ x20 ∧ x20 ≤ 200)) ∧ (∀ q : Nat, (q : Int) < x20 → h21 238 q = h18 242 q) ∧ (∀ q : Nat, x20 ≤ (q : Int) → h21 238 q = h18 238 q)) (fun x20 h21 => ((200 : Int) + 1 - x20).toNat) (fun x20 h21 => (26, [(0, .ref 236), (1, vi x20)], [], hp_w h21 cr, b, c)) ?_ 0 h18 ⟨g18, F19, FR.refl, (show (0 ≤ 0 ∧ 0 ≤ 200) by omega), (fun q e => absurd e (by omega)), (fun _ _ => rfl)⟩
    intro x20 h21 ⟨g21, F22, u21, f21, XA21, XB21⟩ I21
    refine wi_iload_n (i := 1) (e := x20) (nx := 27) (r1 := 0) (r2 := 0) (r3 := 0) rfl rfl ?_
    refine wi_sipush (n := 200) (nx := 30) (r1 := 0) (r2 := 0) (r3 := 0) rfl (by decide) ?_
    refine wi_icmp (cd := .ge) (nx := 33) (r1 := 60) (r2 := 0) (r3 := 0) rfl (by omega) (by omega) (fun (q23 : 200 ≤ x20) => ?_) (fun (q23 : ¬ (200 ≤ x20)) => ?_)
    ·
      refine wi_aload_n (i := 0) (x := 236) (nx := 61) (r1 := 0) (r2 := 0) (r3 := 0) rfl rfl ?_
      refine wr_gi0 (k0 := 236) (x := 0) (nx := 64) (r1 := 11) (r2 := 22) (r3 := 0) rfl rfl (by decide) rfl ⟨rfl, rfl⟩ rfl ((u21 236 22 rfl).trans w18) ?_
      refine wi_ireturn (nx := 65) (r1 := 0) (r2 := 0) (r3 := 0) rfl rfl ?_
      have gp24 := GPH.fr u13 rfl gp0
      have gp25 := GPH.fr u18 rfl gp24
      have gp26 := GPH.fr u21 rfl gp25
      exact k h21 0 g21 F22 (by omega) (RS.of (o := 200 * 0) (p := 0) (fun q e => by rw [Nat.zero_add]; exact XA21 q (by omega)) (gp25 0 (by decide))) gp26
    ·
      refine wi_aload_n (i := 0) (x := 236) (nx := 34) (r1 := 0) (r2 := 0) (r3 := 0) rfl rfl ?_
      refine wr_gr (k0 := 236) (x := 238) (nx := 37) (r1 := 11) (r2 := 13) (r3 := 0) rfl rfl (by decide) rfl ⟨rfl, rfl⟩ rfl ?_
      refine wi_iload_n (i := 1) (e := x20) (nx := 38) (r1 := 0) (r2 := 0) (r3 := 0) rfl rfl ?_
      refine wi_aload_n (i := 0) (x := 236) (nx := 39) (r1 := 0) (r2 := 0) (r3 := 0) rfl rfl ?_
      refine wr_gr (k0 := 236) (x := 242) (nx := 42) (r1 := 11) (r2 := 17) (r3 := 0) rfl rfl (by decide) rfl ⟨rfl, rfl⟩ rfl ?_
      refine wi_sipush (n := 200) (nx := 45) (r1 := 0) (r2 := 0) (r3 := 0) rfl (by decide) ?_
      refine wi_aload_n (i := 0) (x := 236) (nx := 46) (r1 := 0) (r2 := 0) (r3 := 0) rfl rfl ?_
      refine wr_gi0 (k0 := 236) (x := 0) (nx := 49) (r1 := 11) (r2 := 22) (r3 := 0) rfl rfl (by decide) rfl ⟨rfl, rfl⟩ rfl ((u21 236 22 rfl).trans w18) ?_
      refine wr_mulL (0) (nx := 50) (r1 := 0) (r2 := 0) (r3 := 0) rfl (by decide) ?_
      refine wi_iload_n (i := 1) (e := x20) (nx := 51) (r1 := 0) (r2 := 0) (r3 := 0) rfl rfl ?_
      refine wr_add (nx := 52) (r1 := 0) (r2 := 0) (r3 := 0) rfl (fun e24 (fe24 : e24 = 0 + x20) => ?_)
      obtain ⟨i25, ei25⟩ : ∃ q : Nat, e24 = (q : Int) := ⟨(e24).toNat, by omega⟩
      refine wr_ia (k0 := 242) (a := e24) (f := i25) (x := h 242 i25) (nx := 53) (r1 := 0) (r2 := 0) (r3 := 0) rfl (by decide) rfl (by omega) (by omega) (by decide) ((u21 242 i25 (fn_a (by omega) fn_0)).trans ((u18 242 i25 (fn_a (by omega) fn_0)).trans (u13 242 i25 (fn_a (by omega) fn_0)))) ?_
      refine wr_iv (k0 := 238) (a := x20) (f := i25) (x := h 242 i25) (nx := 54) (r1 := 0) (r2 := 0) (r3 := 0) rfl (by decide) rfl (by omega) (by omega) (by decide) g21 (gi_pr (by omega) (fun _ => rfl) (g 242 i25)) (fun h26 g26 w26 u26 => ?_)
      have F27 := F22.then rfl (FR.rngp (lo := 238) (hi := 238) u26 (by decide))
      have F28 := u21.then rfl (FR.rngp (lo := 238) (hi := 238) u26 (by decide))
      refine wr_iinc (i := 1) (n := 1) (v := x20) (fun e29 => [(1, vi e29), (0, .ref 236)]) (nx := 57) (r1 := 0) (r2 := 0) (r3 := 0) rfl rfl (fun _ => rfl) (fun e29 (fe29 : e29 = x20 + 1) => ?_)
      refine wi_goto (nx := 60) (r1 := 26) (r2 := 0) (r3 := 0) rfl ?_
      refine wp.lo (lo := [(0, .ref 236), (1, vi e29)]) ⟨rfl, rfl, trivial⟩ rfl ?_
      exact I21 e29 h26 ⟨g26, F27, F28, (show (0 ≤ e29 ∧ e29 ≤ 200) by omega), (fun q e => by
          by_cases e1 : (q : Int) < x20
          · exact (u26 238 _ (fn_i (by omega) fn_0)).trans (XA21 q e1)
          · have e2 : q = i25 := by omega
            have e3 : q = i25 := by omega
            exact (congrArg (h26 238) e2).trans (w26.trans ((((u18 242 i25 (fn_a (by omega) fn_0)).trans (u13 242 i25 (fn_a (by omega) fn_0))).symm).trans (congrArg (h18 242) e3).symm))), (fun q e => (u26 238 q (fn_i (by omega) fn_0)).trans (XB21 q (by omega)))⟩ (show ((200 : Int) + 1 - e29).toNat < ((200 : Int) + 1 - x20).toNat by omega)
  ·
    refine wr_gi0 (k0 := 236) (x := 2) (nx := 9) (r1 := 11) (r2 := 22) (r3 := 0) rfl rfl (by decide) rfl ⟨rfl, rfl⟩ rfl ((u13 236 22 rfl).trans q16) ?_
    refine wi_if (cd := .ne) (nx := 12) (r1 := 14) (r2 := 0) (r3 := 0) rfl (by omega) (fun (q17 : 2 ≠ 0) => ?_) (fun (q17 : ¬ (2 ≠ 0)) => by exfalso; omega)
    refine wi_aload_n (i := 0) (x := 236) (nx := 15) (r1 := 0) (r2 := 0) (r3 := 0) rfl rfl ?_
    refine wi_dup (nx := 16) (r1 := 0) (r2 := 0) (r3 := 0) rfl rfl ?_
    refine wr_gi0 (k0 := 236) (x := 2) (nx := 19) (r1 := 11) (r2 := 22) (r3 := 0) rfl rfl (by decide) rfl ⟨rfl, rfl⟩ rfl ((u13 236 22 rfl).trans q16) ?_
    refine wi_iconst (n := 1) (nx := 20) (r1 := 0) (r2 := 0) (r3 := 0) rfl ?_
    refine wr_subL (1) (nx := 21) (r1 := 0) (r2 := 0) (r3 := 0) rfl (by decide) ?_
    refine wr_pf0 (k0 := 236) (x := 1) (bl := 0) (bh := 6) (nx := 24) (r1 := 11) (r2 := 22) (r3 := 0) rfl (by decide) rfl ⟨rfl, rfl⟩ rfl rfl g13 rfl (by omega) (fun h18 g18 w18 u18 => ?_)
    have F19 := F14.then rfl u18
    refine wi_iconst (n := 0) (nx := 25) (r1 := 0) (r2 := 0) (r3 := 0) rfl ?_
    refine wi_istore_n (i := 1) (e := 0) (lo2 := [(1, vi 0), (0, .ref 236)]) (nx := 26) (r1 := 0) (r2 := 0) (r3 := 0) rfl rfl ?_
    refine wp.lo (lo := [(0, .ref 236), (1, vi 0)]) ⟨rfl, rfl, trivial⟩ rfl ?_
    refine wl_1 (fun x20 h21 => GI h21 ∧ FR [(238, 238, none), (236, 236, some (0, 0)), (236, 236, some (22, 22))] h h21 ∧ FR [(238, 238, none)] h18 h21 ∧ ((0 ≤ x20 ∧ x20 ≤ 200)) ∧ (∀ q : Nat, (q : Int) < x20 → h21 238 q = h18 242 (200 + q)) ∧ (∀ q : Nat, x20 ≤ (q : Int) → h21 238 q = h18 238 q)) (fun x20 h21 => ((200 : Int) + 1 - x20).toNat) (fun x20 h21 => (26, [(0, .ref 236), (1, vi x20)], [], hp_w h21 cr, b, c)) ?_ 0 h18 ⟨g18, F19, FR.refl, (show (0 ≤ 0 ∧ 0 ≤ 200) by omega), (fun q e => absurd e (by omega)), (fun _ _ => rfl)⟩
    intro x20 h21 ⟨g21, F22, u21, f21, XA21, XB21⟩ I21
    refine wi_iload_n (i := 1) (e := x20) (nx := 27) (r1 := 0) (r2 := 0) (r3 := 0) rfl rfl ?_
    refine wi_sipush (n := 200) (nx := 30) (r1 := 0) (r2 := 0) (r3 := 0) rfl (by decide) ?_
    refine wi_icmp (cd := .ge) (nx := 33) (r1 := 60) (r2 := 0) (r3 := 0) rfl (by omega) (by omega) (fun (q23 : 200 ≤ x20) => ?_) (fun (q23 : ¬ (200 ≤ x20)) => ?_)
    ·
      refine wi_aload_n (i := 0) (x := 236) (nx := 61) (r1 := 0) (r2 := 0) (r3 := 0) rfl rfl ?_
      refine wr_gi0 (k0 := 236) (x := 1) (nx := 64) (r1 := 11) (r2 := 22) (r3 := 0) rfl rfl (by decide) rfl ⟨rfl, rfl⟩ rfl ((u21 236 22 rfl).trans w18) ?_
      refine wi_ireturn (nx := 65) (r1 := 0) (r2 := 0) (r3 := 0) rfl rfl ?_
      have gp24 := GPH.fr u13 rfl gp0
      have gp25 := GPH.fr u18 rfl gp24
      have gp26 := GPH.fr u21 rfl gp25
      exact k h21 1 g21 F22 (by omega) (RS.of (o := 200 * 1) (p := 0) (fun q e => by rw [Nat.zero_add]; exact XA21 q (by omega)) (gp25 1 (by decide))) gp26
    ·
      refine wi_aload_n (i := 0) (x := 236) (nx := 34) (r1 := 0) (r2 := 0) (r3 := 0) rfl rfl ?_
      refine wr_gr (k0 := 236) (x := 238) (nx := 37) (r1 := 11) (r2 := 13) (r3 := 0) rfl rfl (by decide) rfl ⟨rfl, rfl⟩ rfl ?_
      refine wi_iload_n (i := 1) (e := x20) (nx := 38) (r1 := 0) (r2 := 0) (r3 := 0) rfl rfl ?_
      refine wi_aload_n (i := 0) (x := 236) (nx := 39) (r1 := 0) (r2 := 0) (r3 := 0) rfl rfl ?_
      refine wr_gr (k0 := 236) (x := 242) (nx := 42) (r1 := 11) (r2 := 17) (r3 := 0) rfl rfl (by decide) rfl ⟨rfl, rfl⟩ rfl ?_
      refine wi_sipush (n := 200) (nx := 45) (r1 := 0) (r2 := 0) (r3 := 0) rfl (by decide) ?_
      refine wi_aload_n (i := 0) (x := 236) (nx := 46) (r1 := 0) (r2 := 0) (r3 := 0) rfl rfl ?_
      refine wr_gi0 (k0 := 236) (x := 1) (nx := 49) (r1 := 11) (r2 := 22) (r3 := 0) rfl rfl (by decide) rfl ⟨rfl, rfl⟩ rfl ((u21 236 22 rfl).trans w18) ?_
      refine wr_mulL (200) (nx := 50) (r1 := 0) (r2 := 0) (r3 := 0) rfl (by decide) ?_
      refine wi_iload_n (i := 1) (e := x20) (nx := 51) (r1 := 0) (r2 := 0) (r3 := 0) rfl rfl ?_
      refine wr_add (nx := 52) (r1 := 0) (r2 := 0) (r3 := 0) rfl (fun e24 (fe24 : e24 = 200 + x20) => ?_)
      obtain ⟨i25, ei25⟩ : ∃ q : Nat, e24 = (q : Int) := ⟨(e24).toNat, by omega⟩
      refine wr_ia (k0 := 242) (a := e24) (f := i25) (x := h 242 i25) (nx := 53) (r1 := 0) (r2 := 0) (r3 := 0) rfl (by decide) rfl (by omega) (by omega) (by decide) ((u21 242 i25 (fn_a (by omega) fn_0)).trans ((u18 242 i25 (fn_a (by omega) fn_0)).trans (u13 242 i25 (fn_a (by omega) fn_0)))) ?_
      obtain ⟨i26, ei26⟩ : ∃ q : Nat, x20 = (q : Int) := ⟨(x20).toNat, by omega⟩
      refine wr_iv (k0 := 238) (a := x20) (f := i26) (x := h 242 i25) (nx := 54) (r1 := 0) (r2 := 0) (r3 := 0) rfl (by decide) rfl (by omega) (by omega) (by decide) g21 (gi_pr (by omega) (fun _ => rfl) (g 242 i25)) (fun h27 g27 w27 u27 => ?_)
      have F28 := F22.then rfl (FR.rngp (lo := 238) (hi := 238) u27 (by decide))
      have F29 := u21.then rfl (FR.rngp (lo := 238) (hi := 238) u27 (by decide))
      refine wr_iinc (i := 1) (n := 1) (v := x20) (fun e30 => [(1, vi e30), (0, .ref 236)]) (nx := 57) (r1 := 0) (r2 := 0) (r3 := 0) rfl rfl (fun _ => rfl) (fun e30 (fe30 : e30 = x20 + 1) => ?_)
      refine wi_goto (nx := 60) (r1 := 26) (r2 := 0) (r3 := 0) rfl ?_
      refine wp.lo (lo := [(0, .ref 236), (1, vi e30)]) ⟨rfl, rfl, trivial⟩ rfl ?_
      exact I21 e30 h27 ⟨g27, F28, F29, (show (0 ≤ e30 ∧ e30 ≤ 200) by omega), (fun q e => by
          by_cases e1 : (q : Int) < x20
          · exact (u27 238 _ (fn_i (by omega) fn_0)).trans (XA21 q e1)
          · have e2 : q = i26 := by omega
            have e3 : 200 + q = i25 := by omega
            exact (congrArg (h27 238) e2).trans (w27.trans ((((u18 242 i25 (fn_a (by omega) fn_0)).trans (u13 242 i25 (fn_a (by omega) fn_0))).symm).trans (congrArg (h18 242) e3).symm))), (fun q e => (u27 238 q (fn_i (by omega) fn_0)).trans (XB21 q (by omega)))⟩ (show ((200 : Int) + 1 - e30).toNat < ((200 : Int) + 1 - x20).toNat by omega)
  ·
    refine wr_gi0 (k0 := 236) (x := 3) (nx := 9) (r1 := 11) (r2 := 22) (r3 := 0) rfl rfl (by decide) rfl ⟨rfl, rfl⟩ rfl ((u13 236 22 rfl).trans q16) ?_
    refine wi_if (cd := .ne) (nx := 12) (r1 := 14) (r2 := 0) (r3 := 0) rfl (by omega) (fun (q17 : 3 ≠ 0) => ?_) (fun (q17 : ¬ (3 ≠ 0)) => by exfalso; omega)
    refine wi_aload_n (i := 0) (x := 236) (nx := 15) (r1 := 0) (r2 := 0) (r3 := 0) rfl rfl ?_
    refine wi_dup (nx := 16) (r1 := 0) (r2 := 0) (r3 := 0) rfl rfl ?_
    refine wr_gi0 (k0 := 236) (x := 3) (nx := 19) (r1 := 11) (r2 := 22) (r3 := 0) rfl rfl (by decide) rfl ⟨rfl, rfl⟩ rfl ((u13 236 22 rfl).trans q16) ?_
    refine wi_iconst (n := 1) (nx := 20) (r1 := 0) (r2 := 0) (r3 := 0) rfl ?_
    refine wr_subL (2) (nx := 21) (r1 := 0) (r2 := 0) (r3 := 0) rfl (by decide) ?_
    refine wr_pf0 (k0 := 236) (x := 2) (bl := 0) (bh := 6) (nx := 24) (r1 := 11) (r2 := 22) (r3 := 0) rfl (by decide) rfl ⟨rfl, rfl⟩ rfl rfl g13 rfl (by omega) (fun h18 g18 w18 u18 => ?_)
    have F19 := F14.then rfl u18
    refine wi_iconst (n := 0) (nx := 25) (r1 := 0) (r2 := 0) (r3 := 0) rfl ?_
    refine wi_istore_n (i := 1) (e := 0) (lo2 := [(1, vi 0), (0, .ref 236)]) (nx := 26) (r1 := 0) (r2 := 0) (r3 := 0) rfl rfl ?_
    refine wp.lo (lo := [(0, .ref 236), (1, vi 0)]) ⟨rfl, rfl, trivial⟩ rfl ?_
    refine wl_1 (fun x20 h21 => GI h21 ∧ FR [(238, 238, none), (236, 236, some (0, 0)), (236, 236, some (22, 22))] h h21 ∧ FR [(238, 238, none)] h18 h21 ∧ ((0 ≤ x20 ∧ x20 ≤ 200)) ∧ (∀ q : Nat, (q : Int) < x20 → h21 238 q = h18 242 (400 + q)) ∧ (∀ q : Nat, x20 ≤ (q : Int) → h21 238 q = h18 238 q)) (fun x20 h21 => ((200 : Int) + 1 - x20).toNat) (fun x20 h21 => (26, [(0, .ref 236), (1, vi x20)], [], hp_w h21 cr, b, c)) ?_ 0 h18 ⟨g18, F19, FR.refl, (show (0 ≤ 0 ∧ 0 ≤ 200) by omega), (fun q e => absurd e (by omega)), (fun _ _ => rfl)⟩
    intro x20 h21 ⟨g21, F22, u21, f21, XA21, XB21⟩ I21
    refine wi_iload_n (i := 1) (e := x20) (nx := 27) (r1 := 0) (r2 := 0) (r3 := 0) rfl rfl ?_
    refine wi_sipush (n := 200) (nx := 30) (r1 := 0) (r2 := 0) (r3 := 0) rfl (by decide) ?_
    refine wi_icmp (cd := .ge) (nx := 33) (r1 := 60) (r2 := 0) (r3 := 0) rfl (by omega) (by omega) (fun (q23 : 200 ≤ x20) => ?_) (fun (q23 : ¬ (200 ≤ x20)) => ?_)
    ·
      refine wi_aload_n (i := 0) (x := 236) (nx := 61) (r1 := 0) (r2 := 0) (r3 := 0) rfl rfl ?_
      refine wr_gi0 (k0 := 236) (x := 2) (nx := 64) (r1 := 11) (r2 := 22) (r3 := 0) rfl rfl (by decide) rfl ⟨rfl, rfl⟩ rfl ((u21 236 22 rfl).trans w18) ?_
      refine wi_ireturn (nx := 65) (r1 := 0) (r2 := 0) (r3 := 0) rfl rfl ?_
      have gp24 := GPH.fr u13 rfl gp0
      have gp25 := GPH.fr u18 rfl gp24
      have gp26 := GPH.fr u21 rfl gp25
      exact k h21 2 g21 F22 (by omega) (RS.of (o := 200 * 2) (p := 0) (fun q e => by rw [Nat.zero_add]; exact XA21 q (by omega)) (gp25 2 (by decide))) gp26
    ·
      refine wi_aload_n (i := 0) (x := 236) (nx := 34) (r1 := 0) (r2 := 0) (r3 := 0) rfl rfl ?_
      refine wr_gr (k0 := 236) (x := 238) (nx := 37) (r1 := 11) (r2 := 13) (r3 := 0) rfl rfl (by decide) rfl ⟨rfl, rfl⟩ rfl ?_
      refine wi_iload_n (i := 1) (e := x20) (nx := 38) (r1 := 0) (r2 := 0) (r3 := 0) rfl rfl ?_
      refine wi_aload_n (i := 0) (x := 236) (nx := 39) (r1 := 0) (r2 := 0) (r3 := 0) rfl rfl ?_
      refine wr_gr (k0 := 236) (x := 242) (nx := 42) (r1 := 11) (r2 := 17) (r3 := 0) rfl rfl (by decide) rfl ⟨rfl, rfl⟩ rfl ?_
      refine wi_sipush (n := 200) (nx := 45) (r1 := 0) (r2 := 0) (r3 := 0) rfl (by decide) ?_
      refine wi_aload_n (i := 0) (x := 236) (nx := 46) (r1 := 0) (r2 := 0) (r3 := 0) rfl rfl ?_
      refine wr_gi0 (k0 := 236) (x := 2) (nx := 49) (r1 := 11) (r2 := 22) (r3 := 0) rfl rfl (by decide) rfl ⟨rfl, rfl⟩ rfl ((u21 236 22 rfl).trans w18) ?_
      refine wr_mulL (400) (nx := 50) (r1 := 0) (r2 := 0) (r3 := 0) rfl (by decide) ?_
      refine wi_iload_n (i := 1) (e := x20) (nx := 51) (r1 := 0) (r2 := 0) (r3 := 0) rfl rfl ?_
      refine wr_add (nx := 52) (r1 := 0) (r2 := 0) (r3 := 0) rfl (fun e24 (fe24 : e24 = 400 + x20) => ?_)
      obtain ⟨i25, ei25⟩ : ∃ q : Nat, e24 = (q : Int) := ⟨(e24).toNat, by omega⟩
      refine wr_ia (k0 := 242) (a := e24) (f := i25) (x := h 242 i25) (nx := 53) (r1 := 0) (r2 := 0) (r3 := 0) rfl (by decide) rfl (by omega) (by omega) (by decide) ((u21 242 i25 (fn_a (by omega) fn_0)).trans ((u18 242 i25 (fn_a (by omega) fn_0)).trans (u13 242 i25 (fn_a (by omega) fn_0)))) ?_
      obtain ⟨i26, ei26⟩ : ∃ q : Nat, x20 = (q : Int) := ⟨(x20).toNat, by omega⟩
      refine wr_iv (k0 := 238) (a := x20) (f := i26) (x := h 242 i25) (nx := 54) (r1 := 0) (r2 := 0) (r3 := 0) rfl (by decide) rfl (by omega) (by omega) (by decide) g21 (gi_pr (by omega) (fun _ => rfl) (g 242 i25)) (fun h27 g27 w27 u27 => ?_)
      have F28 := F22.then rfl (FR.rngp (lo := 238) (hi := 238) u27 (by decide))
      have F29 := u21.then rfl (FR.rngp (lo := 238) (hi := 238) u27 (by decide))
      refine wr_iinc (i := 1) (n := 1) (v := x20) (fun e30 => [(1, vi e30), (0, .ref 236)]) (nx := 57) (r1 := 0) (r2 := 0) (r3 := 0) rfl rfl (fun _ => rfl) (fun e30 (fe30 : e30 = x20 + 1) => ?_)
      refine wi_goto (nx := 60) (r1 := 26) (r2 := 0) (r3 := 0) rfl ?_
      refine wp.lo (lo := [(0, .ref 236), (1, vi e30)]) ⟨rfl, rfl, trivial⟩ rfl ?_
      exact I21 e30 h27 ⟨g27, F28, F29, (show (0 ≤ e30 ∧ e30 ≤ 200) by omega), (fun q e => by
          by_cases e1 : (q : Int) < x20
          · exact (u27 238 _ (fn_i (by omega) fn_0)).trans (XA21 q e1)
          · have e2 : q = i26 := by omega
            have e3 : 400 + q = i25 := by omega
            exact (congrArg (h27 238) e2).trans (w27.trans ((((u18 242 i25 (fn_a (by omega) fn_0)).trans (u13 242 i25 (fn_a (by omega) fn_0))).symm).trans (congrArg (h18 242) e3).symm))), (fun q e => (u27 238 q (fn_i (by omega) fn_0)).trans (XB21 q (by omega)))⟩ (show ((200 : Int) + 1 - e30).toNat < ((200 : Int) + 1 - x20).toNat by omega)
  ·
    refine wr_gi0 (k0 := 236) (x := 4) (nx := 9) (r1 := 11) (r2 := 22) (r3 := 0) rfl rfl (by decide) rfl ⟨rfl, rfl⟩ rfl ((u13 236 22 rfl).trans q16) ?_
    refine wi_if (cd := .ne) (nx := 12) (r1 := 14) (r2 := 0) (r3 := 0) rfl (by omega) (fun (q17 : 4 ≠ 0) => ?_) (fun (q17 : ¬ (4 ≠ 0)) => by exfalso; omega)
    refine wi_aload_n (i := 0) (x := 236) (nx := 15) (r1 := 0) (r2 := 0) (r3 := 0) rfl rfl ?_
    refine wi_dup (nx := 16) (r1 := 0) (r2 := 0) (r3 := 0) rfl rfl ?_
    refine wr_gi0 (k0 := 236) (x := 4) (nx := 19) (r1 := 11) (r2 := 22) (r3 := 0) rfl rfl (by decide) rfl ⟨rfl, rfl⟩ rfl ((u13 236 22 rfl).trans q16) ?_
    refine wi_iconst (n := 1) (nx := 20) (r1 := 0) (r2 := 0) (r3 := 0) rfl ?_
    refine wr_subL (3) (nx := 21) (r1 := 0) (r2 := 0) (r3 := 0) rfl (by decide) ?_
    refine wr_pf0 (k0 := 236) (x := 3) (bl := 0) (bh := 6) (nx := 24) (r1 := 11) (r2 := 22) (r3 := 0) rfl (by decide) rfl ⟨rfl, rfl⟩ rfl rfl g13 rfl (by omega) (fun h18 g18 w18 u18 => ?_)
    have F19 := F14.then rfl u18
    refine wi_iconst (n := 0) (nx := 25) (r1 := 0) (r2 := 0) (r3 := 0) rfl ?_
    refine wi_istore_n (i := 1) (e := 0) (lo2 := [(1, vi 0), (0, .ref 236)]) (nx := 26) (r1 := 0) (r2 := 0) (r3 := 0) rfl rfl ?_
    refine wp.lo (lo := [(0, .ref 236), (1, vi 0)]) ⟨rfl, rfl, trivial⟩ rfl ?_
    refine wl_1 (fun x20 h21 => GI h21 ∧ FR [(238, 238, none), (236, 236, some (0, 0)), (236, 236, some (22, 22))] h h21 ∧ FR [(238, 238, none)] h18 h21 ∧ ((0 ≤ x20 ∧ x20 ≤ 200)) ∧ (∀ q : Nat, (q : Int) < x20 → h21 238 q = h18 242 (600 + q)) ∧ (∀ q : Nat, x20 ≤ (q : Int) → h21 238 q = h18 238 q)) (fun x20 h21 => ((200 : Int) + 1 - x20).toNat) (fun x20 h21 => (26, [(0, .ref 236), (1, vi x20)], [], hp_w h21 cr, b, c)) ?_ 0 h18 ⟨g18, F19, FR.refl, (show (0 ≤ 0 ∧ 0 ≤ 200) by omega), (fun q e => absurd e (by omega)), (fun _ _ => rfl)⟩
    intro x20 h21 ⟨g21, F22, u21, f21, XA21, XB21⟩ I21
    refine wi_iload_n (i := 1) (e := x20) (nx := 27) (r1 := 0) (r2 := 0) (r3 := 0) rfl rfl ?_
    refine wi_sipush (n := 200) (nx := 30) (r1 := 0) (r2 := 0) (r3 := 0) rfl (by decide) ?_
    refine wi_icmp (cd := .ge) (nx := 33) (r1 := 60) (r2 := 0) (r3 := 0) rfl (by omega) (by omega) (fun (q23 : 200 ≤ x20) => ?_) (fun (q23 : ¬ (200 ≤ x20)) => ?_)
    ·
      refine wi_aload_n (i := 0) (x := 236) (nx := 61) (r1 := 0) (r2 := 0) (r3 := 0) rfl rfl ?_
      refine wr_gi0 (k0 := 236) (x := 3) (nx := 64) (r1 := 11) (r2 := 22) (r3 := 0) rfl rfl (by decide) rfl ⟨rfl, rfl⟩ rfl ((u21 236 22 rfl).trans w18) ?_
      refine wi_ireturn (nx := 65) (r1 := 0) (r2 := 0) (r3 := 0) rfl rfl ?_
      have gp24 := GPH.fr u13 rfl gp0
      have gp25 := GPH.fr u18 rfl gp24
      have gp26 := GPH.fr u21 rfl gp25
      exact k h21 3 g21 F22 (by omega) (RS.of (o := 200 * 3) (p := 0) (fun q e => by rw [Nat.zero_add]; exact XA21 q (by omega)) (gp25 3 (by decide))) gp26
    ·
      refine wi_aload_n (i := 0) (x := 236) (nx := 34) (r1 := 0) (r2 := 0) (r3 := 0) rfl rfl ?_
      refine wr_gr (k0 := 236) (x := 238) (nx := 37) (r1 := 11) (r2 := 13) (r3 := 0) rfl rfl (by decide) rfl ⟨rfl, rfl⟩ rfl ?_
      refine wi_iload_n (i := 1) (e := x20) (nx := 38) (r1 := 0) (r2 := 0) (r3 := 0) rfl rfl ?_
      refine wi_aload_n (i := 0) (x := 236) (nx := 39) (r1 := 0) (r2 := 0) (r3 := 0) rfl rfl ?_
      refine wr_gr (k0 := 236) (x := 242) (nx := 42) (r1 := 11) (r2 := 17) (r3 := 0) rfl rfl (by decide) rfl ⟨rfl, rfl⟩ rfl ?_
      refine wi_sipush (n := 200) (nx := 45) (r1 := 0) (r2 := 0) (r3 := 0) rfl (by decide) ?_
      refine wi_aload_n (i := 0) (x := 236) (nx := 46) (r1 := 0) (r2 := 0) (r3 := 0) rfl rfl ?_
      refine wr_gi0 (k0 := 236) (x := 3) (nx := 49) (r1 := 11) (r2 := 22) (r3 := 0) rfl rfl (by decide) rfl ⟨rfl, rfl⟩ rfl ((u21 236 22 rfl).trans w18) ?_
      refine wr_mulL (600) (nx := 50) (r1 := 0) (r2 := 0) (r3 := 0) rfl (by decide) ?_
      refine wi_iload_n (i := 1) (e := x20) (nx := 51) (r1 := 0) (r2 := 0) (r3 := 0) rfl rfl ?_
      refine wr_add (nx := 52) (r1 := 0) (r2 := 0) (r3 := 0) rfl (fun e24 (fe24 : e24 = 600 + x20) => ?_)
      obtain ⟨i25, ei25⟩ : ∃ q : Nat, e24 = (q : Int) := ⟨(e24).toNat, by omega⟩
      refine wr_ia (k0 := 242) (a := e24) (f := i25) (x := h 242 i25) (nx := 53) (r1 := 0) (r2 := 0) (r3 := 0) rfl (by decide) rfl (by omega) (by omega) (by decide) ((u21 242 i25 (fn_a (by omega) fn_0)).trans ((u18 242 i25 (fn_a (by omega) fn_0)).trans (u13 242 i25 (fn_a (by omega) fn_0)))) ?_
      obtain ⟨i26, ei26⟩ : ∃ q : Nat, x20 = (q : Int) := ⟨(x20).toNat, by omega⟩
      refine wr_iv (k0 := 238) (a := x20) (f := i26) (x := h 242 i25) (nx := 54) (r1 := 0) (r2 := 0) (r3 := 0) rfl (by decide) rfl (by omega) (by omega) (by decide) g21 (gi_pr (by omega) (fun _ => rfl) (g 242 i25)) (fun h27 g27 w27 u27 => ?_)
      have F28 := F22.then rfl (FR.rngp (lo := 238) (hi := 238) u27 (by decide))
      have F29 := u21.then rfl (FR.rngp (lo := 238) (hi := 238) u27 (by decide))
      refine wr_iinc (i := 1) (n := 1) (v := x20) (fun e30 => [(1, vi e30), (0, .ref 236)]) (nx := 57) (r1 := 0) (r2 := 0) (r3 := 0) rfl rfl (fun _ => rfl) (fun e30 (fe30 : e30 = x20 + 1) => ?_)
      refine wi_goto (nx := 60) (r1 := 26) (r2 := 0) (r3 := 0) rfl ?_
      refine wp.lo (lo := [(0, .ref 236), (1, vi e30)]) ⟨rfl, rfl, trivial⟩ rfl ?_
      exact I21 e30 h27 ⟨g27, F28, F29, (show (0 ≤ e30 ∧ e30 ≤ 200) by omega), (fun q e => by
          by_cases e1 : (q : Int) < x20
          · exact (u27 238 _ (fn_i (by omega) fn_0)).trans (XA21 q e1)
          · have e2 : q = i26 := by omega
            have e3 : 600 + q = i25 := by omega
            exact (congrArg (h27 238) e2).trans (w27.trans ((((u18 242 i25 (fn_a (by omega) fn_0)).trans (u13 242 i25 (fn_a (by omega) fn_0))).symm).trans (congrArg (h18 242) e3).symm))), (fun q e => (u27 238 q (fn_i (by omega) fn_0)).trans (XB21 q (by omega)))⟩ (show ((200 : Int) + 1 - e30).toNat < ((200 : Int) + 1 - x20).toNat by omega)
  ·
    refine wr_gi0 (k0 := 236) (x := 5) (nx := 9) (r1 := 11) (r2 := 22) (r3 := 0) rfl rfl (by decide) rfl ⟨rfl, rfl⟩ rfl ((u13 236 22 rfl).trans q16) ?_
    refine wi_if (cd := .ne) (nx := 12) (r1 := 14) (r2 := 0) (r3 := 0) rfl (by omega) (fun (q17 : 5 ≠ 0) => ?_) (fun (q17 : ¬ (5 ≠ 0)) => by exfalso; omega)
    refine wi_aload_n (i := 0) (x := 236) (nx := 15) (r1 := 0) (r2 := 0) (r3 := 0) rfl rfl ?_
    refine wi_dup (nx := 16) (r1 := 0) (r2 := 0) (r3 := 0) rfl rfl ?_
    refine wr_gi0 (k0 := 236) (x := 5) (nx := 19) (r1 := 11) (r2 := 22) (r3 := 0) rfl rfl (by decide) rfl ⟨rfl, rfl⟩ rfl ((u13 236 22 rfl).trans q16) ?_
    refine wi_iconst (n := 1) (nx := 20) (r1 := 0) (r2 := 0) (r3 := 0) rfl ?_
    refine wr_subL (4) (nx := 21) (r1 := 0) (r2 := 0) (r3 := 0) rfl (by decide) ?_
    refine wr_pf0 (k0 := 236) (x := 4) (bl := 0) (bh := 6) (nx := 24) (r1 := 11) (r2 := 22) (r3 := 0) rfl (by decide) rfl ⟨rfl, rfl⟩ rfl rfl g13 rfl (by omega) (fun h18 g18 w18 u18 => ?_)
    have F19 := F14.then rfl u18
    refine wi_iconst (n := 0) (nx := 25) (r1 := 0) (r2 := 0) (r3 := 0) rfl ?_
    refine wi_istore_n (i := 1) (e := 0) (lo2 := [(1, vi 0), (0, .ref 236)]) (nx := 26) (r1 := 0) (r2 := 0) (r3 := 0) rfl rfl ?_
    refine wp.lo (lo := [(0, .ref 236), (1, vi 0)]) ⟨rfl, rfl, trivial⟩ rfl ?_
    refine wl_1 (fun x20 h21 => GI h21 ∧ FR [(238, 238, none), (236, 236, some (0, 0)), (236, 236, some (22, 22))] h h21 ∧ FR [(238, 238, none)] h18 h21 ∧ ((0 ≤ x20 ∧ x20 ≤ 200)) ∧ (∀ q : Nat, (q : Int) < x20 → h21 238 q = h18 242 (800 + q)) ∧ (∀ q : Nat, x20 ≤ (q : Int) → h21 238 q = h18 238 q)) (fun x20 h21 => ((200 : Int) + 1 - x20).toNat) (fun x20 h21 => (26, [(0, .ref 236), (1, vi x20)], [], hp_w h21 cr, b, c)) ?_ 0 h18 ⟨g18, F19, FR.refl, (show (0 ≤ 0 ∧ 0 ≤ 200) by omega), (fun q e => absurd e (by omega)), (fun _ _ => rfl)⟩
    intro x20 h21 ⟨g21, F22, u21, f21, XA21, XB21⟩ I21
    refine wi_iload_n (i := 1) (e := x20) (nx := 27) (r1 := 0) (r2 := 0) (r3 := 0) rfl rfl ?_
    refine wi_sipush (n := 200) (nx := 30) (r1 := 0) (r2 := 0) (r3 := 0) rfl (by decide) ?_
    refine wi_icmp (cd := .ge) (nx := 33) (r1 := 60) (r2 := 0) (r3 := 0) rfl (by omega) (by omega) (fun (q23 : 200 ≤ x20) => ?_) (fun (q23 : ¬ (200 ≤ x20)) => ?_)
    ·
      refine wi_aload_n (i := 0) (x := 236) (nx := 61) (r1 := 0) (r2 := 0) (r3 := 0) rfl rfl ?_
      refine wr_gi0 (k0 := 236) (x := 4) (nx := 64) (r1 := 11) (r2 := 22) (r3 := 0) rfl rfl (by decide) rfl ⟨rfl, rfl⟩ rfl ((u21 236 22 rfl).trans w18) ?_
      refine wi_ireturn (nx := 65) (r1 := 0) (r2 := 0) (r3 := 0) rfl rfl ?_
      have gp24 := GPH.fr u13 rfl gp0
      have gp25 := GPH.fr u18 rfl gp24
      have gp26 := GPH.fr u21 rfl gp25
      exact k h21 4 g21 F22 (by omega) (RS.of (o := 200 * 4) (p := 0) (fun q e => by rw [Nat.zero_add]; exact XA21 q (by omega)) (gp25 4 (by decide))) gp26
    ·
      refine wi_aload_n (i := 0) (x := 236) (nx := 34) (r1 := 0) (r2 := 0) (r3 := 0) rfl rfl ?_
      refine wr_gr (k0 := 236) (x := 238) (nx := 37) (r1 := 11) (r2 := 13) (r3 := 0) rfl rfl (by decide) rfl ⟨rfl, rfl⟩ rfl ?_
      refine wi_iload_n (i := 1) (e := x20) (nx := 38) (r1 := 0) (r2 := 0) (r3 := 0) rfl rfl ?_
      refine wi_aload_n (i := 0) (x := 236) (nx := 39) (r1 := 0) (r2 := 0) (r3 := 0) rfl rfl ?_
      refine wr_gr (k0 := 236) (x := 242) (nx := 42) (r1 := 11) (r2 := 17) (r3 := 0) rfl rfl (by decide) rfl ⟨rfl, rfl⟩ rfl ?_
      refine wi_sipush (n := 200) (nx := 45) (r1 := 0) (r2 := 0) (r3 := 0) rfl (by decide) ?_
      refine wi_aload_n (i := 0) (x := 236) (nx := 46) (r1 := 0) (r2 := 0) (r3 := 0) rfl rfl ?_
      refine wr_gi0 (k0 := 236) (x := 4) (nx := 49) (r1 := 11) (r2 := 22) (r3 := 0) rfl rfl (by decide) rfl ⟨rfl, rfl⟩ rfl ((u21 236 22 rfl).trans w18) ?_
      refine wr_mulL (800) (nx := 50) (r1 := 0) (r2 := 0) (r3 := 0) rfl (by decide) ?_
      refine wi_iload_n (i := 1) (e := x20) (nx := 51) (r1 := 0) (r2 := 0) (r3 := 0) rfl rfl ?_
      refine wr_add (nx := 52) (r1 := 0) (r2 := 0) (r3 := 0) rfl (fun e24 (fe24 : e24 = 800 + x20) => ?_)
      obtain ⟨i25, ei25⟩ : ∃ q : Nat, e24 = (q : Int) := ⟨(e24).toNat, by omega⟩
      refine wr_ia (k0 := 242) (a := e24) (f := i25) (x := h 242 i25) (nx := 53) (r1 := 0) (r2 := 0) (r3 := 0) rfl (by decide) rfl (by omega) (by omega) (by decide) ((u21 242 i25 (fn_a (by omega) fn_0)).trans ((u18 242 i25 (fn_a (by omega) fn_0)).trans (u13 242 i25 (fn_a (by omega) fn_0)))) ?_
      obtain ⟨i26, ei26⟩ : ∃ q : Nat, x20 = (q : Int) := ⟨(x20).toNat, by omega⟩
      refine wr_iv (k0 := 238) (a := x20) (f := i26) (x := h 242 i25) (nx := 54) (r1 := 0) (r2 := 0) (r3 := 0) rfl (by decide) rfl (by omega) (by omega) (by decide) g21 (gi_pr (by omega) (fun _ => rfl) (g 242 i25)) (fun h27 g27 w27 u27 => ?_)
      have F28 := F22.then rfl (FR.rngp (lo := 238) (hi := 238) u27 (by decide))
      have F29 := u21.then rfl (FR.rngp (lo := 238) (hi := 238) u27 (by decide))
      refine wr_iinc (i := 1) (n := 1) (v := x20) (fun e30 => [(1, vi e30), (0, .ref 236)]) (nx := 57) (r1 := 0) (r2 := 0) (r3 := 0) rfl rfl (fun _ => rfl) (fun e30 (fe30 : e30 = x20 + 1) => ?_)
      refine wi_goto (nx := 60) (r1 := 26) (r2 := 0) (r3 := 0) rfl ?_
      refine wp.lo (lo := [(0, .ref 236), (1, vi e30)]) ⟨rfl, rfl, trivial⟩ rfl ?_
      exact I21 e30 h27 ⟨g27, F28, F29, (show (0 ≤ e30 ∧ e30 ≤ 200) by omega), (fun q e => by
          by_cases e1 : (q : Int) < x20
          · exact (u27 238 _ (fn_i (by omega) fn_0)).trans (XA21 q e1)
          · have e2 : q = i26 := by omega
            have e3 : 800 + q = i25 := by omega
            exact (congrArg (h27 238) e2).trans (w27.trans ((((u18 242 i25 (fn_a (by omega) fn_0)).trans (u13 242 i25 (fn_a (by omega) fn_0))).symm).trans (congrArg (h18 242) e3).symm))), (fun q e => (u27 238 q (fn_i (by omega) fn_0)).trans (XB21 q (by omega)))⟩ (show ((200 : Int) + 1 - e30).toNat < ((200 : Int) + 1 - x20).toNat by omega)
  ·
    refine wr_gi0 (k0 := 236) (x := 6) (nx := 9) (r1 := 11) (r2 := 22) (r3 := 0) rfl rfl (by decide) rfl ⟨rfl, rfl⟩ rfl ((u13 236 22 rfl).trans q16) ?_
    refine wi_if (cd := .ne) (nx := 12) (r1 := 14) (r2 := 0) (r3 := 0) rfl (by omega) (fun (q17 : 6 ≠ 0) => ?_) (fun (q17 : ¬ (6 ≠ 0)) => by exfalso; omega)
    refine wi_aload_n (i := 0) (x := 236) (nx := 15) (r1 := 0) (r2 := 0) (r3 := 0) rfl rfl ?_
    refine wi_dup (nx := 16) (r1 := 0) (r2 := 0) (r3 := 0) rfl rfl ?_
    refine wr_gi0 (k0 := 236) (x := 6) (nx := 19) (r1 := 11) (r2 := 22) (r3 := 0) rfl rfl (by decide) rfl ⟨rfl, rfl⟩ rfl ((u13 236 22 rfl).trans q16) ?_
    refine wi_iconst (n := 1) (nx := 20) (r1 := 0) (r2 := 0) (r3 := 0) rfl ?_
    refine wr_subL (5) (nx := 21) (r1 := 0) (r2 := 0) (r3 := 0) rfl (by decide) ?_
    refine wr_pf0 (k0 := 236) (x := 5) (bl := 0) (bh := 6) (nx := 24) (r1 := 11) (r2 := 22) (r3 := 0) rfl (by decide) rfl ⟨rfl, rfl⟩ rfl rfl g13 rfl (by omega) (fun h18 g18 w18 u18 => ?_)
    have F19 := F14.then rfl u18
    refine wi_iconst (n := 0) (nx := 25) (r1 := 0) (r2 := 0) (r3 := 0) rfl ?_
    refine wi_istore_n (i := 1) (e := 0) (lo2 := [(1, vi 0), (0, .ref 236)]) (nx := 26) (r1 := 0) (r2 := 0) (r3 := 0) rfl rfl ?_
    refine wp.lo (lo := [(0, .ref 236), (1, vi 0)]) ⟨rfl, rfl, trivial⟩ rfl ?_
    refine wl_1 (fun x20 h21 => GI h21 ∧ FR [(238, 238, none), (236, 236, some (0, 0)), (236, 236, some (22, 22))] h h21 ∧ FR [(238, 238, none)] h18 h21 ∧ ((0 ≤ x20 ∧ x20 ≤ 200)) ∧ (∀ q : Nat, (q : Int) < x20 → h21 238 q = h18 242 (1000 + q)) ∧ (∀ q : Nat, x20 ≤ (q : Int) → h21 238 q = h18 238 q)) (fun x20 h21 => ((200 : Int) + 1 - x20).toNat) (fun x20 h21 => (26, [(0, .ref 236), (1, vi x20)], [], hp_w h21 cr, b, c)) ?_ 0 h18 ⟨g18, F19, FR.refl, (show (0 ≤ 0 ∧ 0 ≤ 200) by omega), (fun q e => absurd e (by omega)), (fun _ _ => rfl)⟩
    intro x20 h21 ⟨g21, F22, u21, f21, XA21, XB21⟩ I21
    refine wi_iload_n (i := 1) (e := x20) (nx := 27) (r1 := 0) (r2 := 0) (r3 := 0) rfl rfl ?_
    refine wi_sipush (n := 200) (nx := 30) (r1 := 0) (r2 := 0) (r3 := 0) rfl (by decide) ?_
    refine wi_icmp (cd := .ge) (nx := 33) (r1 := 60) (r2 := 0) (r3 := 0) rfl (by omega) (by omega) (fun (q23 : 200 ≤ x20) => ?_) (fun (q23 : ¬ (200 ≤ x20)) => ?_)
    ·
      refine wi_aload_n (i := 0) (x := 236) (nx := 61) (r1 := 0) (r2 := 0) (r3 := 0) rfl rfl ?_
      refine wr_gi0 (k0 := 236) (x := 5) (nx := 64) (r1 := 11) (r2 := 22) (r3 := 0) rfl rfl (by decide) rfl ⟨rfl, rfl⟩ rfl ((u21 236 22 rfl).trans w18) ?_
      refine wi_ireturn (nx := 65) (r1 := 0) (r2 := 0) (r3 := 0) rfl rfl ?_
      have gp24 := GPH.fr u13 rfl gp0
      have gp25 := GPH.fr u18 rfl gp24
      have gp26 := GPH.fr u21 rfl gp25
      exact k h21 5 g21 F22 (by omega) (RS.of (o := 200 * 5) (p := 0) (fun q e => by rw [Nat.zero_add]; exact XA21 q (by omega)) (gp25 5 (by decide))) gp26
    ·
      refine wi_aload_n (i := 0) (x := 236) (nx := 34) (r1 := 0) (r2 := 0) (r3 := 0) rfl rfl ?_
      refine wr_gr (k0 := 236) (x := 238) (nx := 37) (r1 := 11) (r2 := 13) (r3 := 0) rfl rfl (by decide) rfl ⟨rfl, rfl⟩ rfl ?_
      refine wi_iload_n (i := 1) (e := x20) (nx := 38) (r1 := 0) (r2 := 0) (r3 := 0) rfl rfl ?_
      refine wi_aload_n (i := 0) (x := 236) (nx := 39) (r1 := 0) (r2 := 0) (r3 := 0) rfl rfl ?_
      refine wr_gr (k0 := 236) (x := 242) (nx := 42) (r1 := 11) (r2 := 17) (r3 := 0) rfl rfl (by decide) rfl ⟨rfl, rfl⟩ rfl ?_
      refine wi_sipush (n := 200) (nx := 45) (r1 := 0) (r2 := 0) (r3 := 0) rfl (by decide) ?_
      refine wi_aload_n (i := 0) (x := 236) (nx := 46) (r1 := 0) (r2 := 0) (r3 := 0) rfl rfl ?_
      refine wr_gi0 (k0 := 236) (x := 5) (nx := 49) (r1 := 11) (r2 := 22) (r3 := 0) rfl rfl (by decide) rfl ⟨rfl, rfl⟩ rfl ((u21 236 22 rfl).trans w18) ?_
      refine wr_mulL (1000) (nx := 50) (r1 := 0) (r2 := 0) (r3 := 0) rfl (by decide) ?_
      refine wi_iload_n (i := 1) (e := x20) (nx := 51) (r1 := 0) (r2 := 0) (r3 := 0) rfl rfl ?_
      refine wr_add (nx := 52) (r1 := 0) (r2 := 0) (r3 := 0) rfl (fun e24 (fe24 : e24 = 1000 + x20) => ?_)
      obtain ⟨i25, ei25⟩ : ∃ q : Nat, e24 = (q : Int) := ⟨(e24).toNat, by omega⟩
      refine wr_ia (k0 := 242) (a := e24) (f := i25) (x := h 242 i25) (nx := 53) (r1 := 0) (r2 := 0) (r3 := 0) rfl (by decide) rfl (by omega) (by omega) (by decide) ((u21 242 i25 (fn_a (by omega) fn_0)).trans ((u18 242 i25 (fn_a (by omega) fn_0)).trans (u13 242 i25 (fn_a (by omega) fn_0)))) ?_
      obtain ⟨i26, ei26⟩ : ∃ q : Nat, x20 = (q : Int) := ⟨(x20).toNat, by omega⟩
      refine wr_iv (k0 := 238) (a := x20) (f := i26) (x := h 242 i25) (nx := 54) (r1 := 0) (r2 := 0) (r3 := 0) rfl (by decide) rfl (by omega) (by omega) (by decide) g21 (gi_pr (by omega) (fun _ => rfl) (g 242 i25)) (fun h27 g27 w27 u27 => ?_)
      have F28 := F22.then rfl (FR.rngp (lo := 238) (hi := 238) u27 (by decide))
      have F29 := u21.then rfl (FR.rngp (lo := 238) (hi := 238) u27 (by decide))
      refine wr_iinc (i := 1) (n := 1) (v := x20) (fun e30 => [(1, vi e30), (0, .ref 236)]) (nx := 57) (r1 := 0) (r2 := 0) (r3 := 0) rfl rfl (fun _ => rfl) (fun e30 (fe30 : e30 = x20 + 1) => ?_)
      refine wi_goto (nx := 60) (r1 := 26) (r2 := 0) (r3 := 0) rfl ?_
      refine wp.lo (lo := [(0, .ref 236), (1, vi e30)]) ⟨rfl, rfl, trivial⟩ rfl ?_
      exact I21 e30 h27 ⟨g27, F28, F29, (show (0 ≤ e30 ∧ e30 ≤ 200) by omega), (fun q e => by
          by_cases e1 : (q : Int) < x20
          · exact (u27 238 _ (fn_i (by omega) fn_0)).trans (XA21 q e1)
          · have e2 : q = i26 := by omega
            have e3 : 1000 + q = i25 := by omega
            exact (congrArg (h27 238) e2).trans (w27.trans ((((u18 242 i25 (fn_a (by omega) fn_0)).trans (u13 242 i25 (fn_a (by omega) fn_0))).symm).trans (congrArg (h18 242) e3).symm))), (fun q e => (u27 238 q (fn_i (by omega) fn_0)).trans (XB21 q (by omega)))⟩ (show ((200 : Int) + 1 - e30).toNat < ((200 : Int) + 1 - x20).toNat by omega)
-- method 313: Model.unload()I
set_option maxRecDepth 100000 in
set_option maxHeartbeats 100000000 in
theorem ct_313_236 {L : Nat} {xs : Nat → Int32} {d b c : Nat} {h : hp} {cr : Nat → Nat → Option Nat} {Q : hp_Q} (hcr : CR cr)  (g : GI h)   (pp0 : h 238 98 + h 238 99 + h 238 100 + h 238 101 + h 238 102 + h 238 106 = h 238 73) (pp1 : h 238 73 ≤ h 238 2) (pp2 : h 238 119 ≤ h 238 67) (pp3 : h 238 69 ≤ h 238 5) (pp4 : h 238 2 ≤ 12 * h 238 5) (gp0 : GPH h) (k : ∀ (h2 : hp) (z0 : Int) , GI h2 → FR [(240, 240, none), (242, 242, none), (246, 246, none), (248, 248, none), (236, 236, some (0, 0)), (236, 236, some (22, 22)), (236, 236, some (32, 32)), (238, 238, some (43, 54)), (238, 238, some (55, 66)), (238, 238, some (67, 67)), (238, 238, some (68, 68)), (238, 238, some (69, 69)), (238, 238, some (70, 70)), (238, 238, some (71, 71)), (238, 238, some (72, 72)), (238, 238, some (74, 78)), (238, 238, some (80, 84)), (238, 238, some (86, 90)), (238, 238, some (92, 96)), (238, 238, some (98, 98)), (238, 238, some (99, 99)), (238, 238, some (100, 100)), (238, 238, some (101, 101)), (238, 238, some (102, 102)), (238, 238, some (103, 105)), (238, 238, some (106, 106)), (238, 238, some (107, 118)), (238, 238, some (119, 119)), (238, 238, some (120, 196)), (238, 238, some (121, 197)), (238, 238, some (122, 198)), (238, 238, some (123, 199)), (247, 247, some (0, 0)), (247, 247, some (1, 1)), (247, 247, some (2, 2)), (247, 247, some (3, 3))] h h2 → (-1 ≤ z0 ∧ z0 ≤ 12) → (h2 238 98 + h2 238 99 + h2 238 100 + h2 238 101 + h2 238 102 + h2 238 106 = h2 238 73) → (h2 238 73 ≤ h2 238 2) → (h2 238 119 ≤ h2 238 67) → (h2 238 69 ≤ h2 238 5) → (h2 238 2 ≤ 12 * h2 238 5) → (GPH h2) → Q (.inl (some (vi z0))) (hp_w h2 cr) b c) : wp (md_xa (L, xs)) (d + 5) 313 (0, [(0, .ref 236)], [], hp_w h cr, b, c) Q := by
  have F0 : FR [(240, 240, none), (242, 242, none), (246, 246, none), (248, 248, none), (236, 236, some (0, 0)), (236, 236, some (22, 22)), (236, 236, some (32, 32)), (238, 238, some (43, 54)), (238, 238, some (55, 66)), (238, 238, some (67, 67)), (238, 238, some (68, 68)), (238, 238, some (69, 69)), (238, 238, some (70, 70)), (238, 238, some (71, 71)), (238, 238, some (72, 72)), (238, 238, some (74, 78)), (238, 238, some (80, 84)), (238, 238, some (86, 90)), (238, 238, some (92, 96)), (238, 238, some (98, 98)), (238, 238, some (99, 99)), (238, 238, some (100, 100)), (238, 238, some (101, 101)), (238, 238, some (102, 102)), (238, 238, some (103, 105)), (238, 238, some (106, 106)), (238, 238, some (107, 118)), (238, 238, some (119, 119)), (238, 238, some (120, 196)), (238, 238, some (121, 197)), (238, 238, some (122, 198)), (238, 238, some (123, 199)), (247, 247, some (0, 0)), (247, 247, some (1, 1)), (247, 247, some (2, 2)), (247, 247, some (3, 3))] h h := FR.refl
  have b1 := gi_b (lo := 0) (hi := 6) g 238 98 rfl
  have b2 := gi_b (lo := 0) (hi := 6) g 238 99 rfl
  have b3 := gi_b (lo := 0) (hi := 6) g 238 100 rfl
  have b4 := gi_b (lo := 0) (hi := 6) g 238 101 rfl
  have b5 := gi_b (lo := 0) (hi := 3) g 238 102 rfl
  have b6 := gi_b (lo := 0) (hi := 12) g 238 106 rfl
  have b7 := gi_b (lo := 0) (hi := 12) g 238 73 rfl
  have b8 := gi_b (lo := 0) (hi := 12) g 238 2 rfl
  have b9 := gi_b (lo := 0) (hi := 9999) g 238 119 rfl
  have b10 := gi_b (lo := 0) (hi := 9999) g 238 67 rfl
  have b11 := gi_b (lo := 0) (hi := 9) g 238 69 rfl
  have b12 := gi_b (lo := 0) (hi := 9) g 238 5 rfl
  refine wi_aload_n (i := 0) (x := 236) (nx := 1) (r1 := 0) (r2 := 0) (r3 := 0) rfl rfl ?_
  refine wi_iconst (n := 0) (nx := 2) (r1 := 0) (r2 := 0) (r3 := 0) rfl ?_
  refine wr_pf0 (k0 := 236) (x := 0) (bl := 0) (bh := 2) (nx := 5) (r1 := 11) (r2 := 0) (r3 := 0) rfl (by decide) rfl ⟨rfl, rfl⟩ rfl rfl g rfl (by omega) (fun h13 g13 w13 u13 => ?_)
  have F14 := F0.then rfl u13
  refine wi_aload_n (i := 0) (x := 236) (nx := 6) (r1 := 0) (r2 := 0) (r3 := 0) rfl rfl ?_
  refine wr_gr (k0 := 236) (x := 238) (nx := 9) (r1 := 11) (r2 := 13) (r3 := 0) rfl rfl (by decide) rfl ⟨rfl, rfl⟩ rfl ?_
  refine wi_aload_n (i := 0) (x := 236) (nx := 10) (r1 := 0) (r2 := 0) (r3 := 0) rfl rfl ?_
  refine wr_gr (k0 := 236) (x := 240) (nx := 13) (r1 := 11) (r2 := 15) (r3 := 0) rfl rfl (by decide) rfl ⟨rfl, rfl⟩ rfl ?_
  refine wi_S (rest := []) (as := [.ref 238, .ref 240]) (nx := 16) (r1 := 238) (r2 := 18) (r3 := 0) rfl rfl rfl (of_decide_eq_true rfl) rfl rfl (of_decide_eq_true rfl) (of_decide_eq_true rfl) ?_
  refine ct_238_238_240 hcr  g13    (fun h15 g15 u15 y15_0 => ?_)
  have F16 := F14.then (by decide +kernel) u15
  refine wk_n ?_
  refine wi_aload_n (i := 0) (x := 236) (nx := 17) (r1 := 0) (r2 := 0) (r3 := 0) rfl rfl ?_
  refine wr_V (k0 := 236) (rest := []) (as := [.ref 236]) (nx := 20) (r1 := 314) (r2 := 0) (r3 := 11) rfl rfl rfl (of_decide_eq_true rfl) rfl rfl (by decide) rfl rfl (of_decide_eq_true rfl) (of_decide_eq_true rfl) ?_
  have e18 : h15 238 98 = h 238 98 := ((u15 238 98 rfl).trans (u13 238 98 rfl))
  have e19 : h15 238 99 = h 238 99 := ((u15 238 99 rfl).trans (u13 238 99 rfl))
  have e20 : h15 238 100 = h 238 100 := ((u15 238 100 rfl).trans (u13 238 100 rfl))
  have e21 : h15 238 101 = h 238 101 := ((u15 238 101 rfl).trans (u13 238 101 rfl))
  have e22 : h15 238 102 = h 238 102 := ((u15 238 102 rfl).trans (u13 238 102 rfl))
  have e23 : h15 238 106 = h 238 106 := ((u15 238 106 rfl).trans (u13 238 106 rfl))
  have e24 : h15 238 73 = h 238 73 := ((u15 238 73 rfl).trans (u13 238 73 rfl))
  have e25 : h15 238 2 = h 238 2 := ((u15 238 2 rfl).trans (u13 238 2 rfl))
  have e26 : h15 238 119 = h 238 119 := ((u15 238 119 rfl).trans (u13 238 119 rfl))
  have e27 : h15 238 67 = h 238 67 := ((u15 238 67 rfl).trans (u13 238 67 rfl))
  have e28 : h15 238 69 = h 238 69 := ((u15 238 69 rfl).trans (u13 238 69 rfl))
  have e29 : h15 238 5 = h 238 5 := ((u15 238 5 rfl).trans (u13 238 5 rfl))
  refine ct_314_236 hcr  g15   (show (h15 238 98) + (h15 238 99) + (h15 238 100) + (h15 238 101) + (h15 238 102) + (h15 238 106) = (h15 238 73) by omega) (show (h15 238 73) ≤ (h15 238 2) by omega) (show (h15 238 119) ≤ (h15 238 67) by omega) (show (h15 238 69) ≤ (h15 238 5) by omega) (show (h15 238 2) ≤ 12 * (h15 238 5) by omega) (fun h17 z30 g17 u17 (fz30 : 0 ≤ z30 ∧ z30 ≤ 12) (p17_0 : (h17 238 98) + (h17 238 99) + (h17 238 100) + (h17 238 101) + (h17 238 102) + (h17 238 106) = (h17 238 73)) (p17_1 : (h17 238 73) ≤ (h17 238 2)) (p17_2 : (h17 238 119) ≤ (h17 238 67)) (p17_3 : (h17 238 69) ≤ (h17 238 5)) (p17_4 : (h17 238 2) ≤ 12 * (h17 238 5)) => ?_)
  have F31 := F16.then (by decide +kernel) u17
  have b32 := gi_b (lo := 0) (hi := 6) g17 238 98 rfl
  have b33 := gi_b (lo := 0) (hi := 6) g17 238 99 rfl
  have b34 := gi_b (lo := 0) (hi := 6) g17 238 100 rfl
  have b35 := gi_b (lo := 0) (hi := 6) g17 238 101 rfl
  have b36 := gi_b (lo := 0) (hi := 3) g17 238 102 rfl
  have b37 := gi_b (lo := 0) (hi := 12) g17 238 106 rfl
  have e38 : h17 238 73 = h 238 73 := ((u17 238 73 rfl).trans ((u15 238 73 rfl).trans (u13 238 73 rfl)))
  have e39 : h17 238 2 = h 238 2 := ((u17 238 2 rfl).trans ((u15 238 2 rfl).trans (u13 238 2 rfl)))
  have b40 := gi_b (lo := 0) (hi := 9999) g17 238 119 rfl
  have b41 := gi_b (lo := 0) (hi := 9999) g17 238 67 rfl
  have b42 := gi_b (lo := 0) (hi := 9) g17 238 69 rfl
  have e43 : h17 238 5 = h 238 5 := ((u17 238 5 rfl).trans ((u15 238 5 rfl).trans (u13 238 5 rfl)))
  refine wk_i ?_
  refine wi_istore_n (i := 1) (e := z30) (lo2 := [(1, vi z30), (0, .ref 236)]) (nx := 21) (r1 := 0) (r2 := 0) (r3 := 0) rfl rfl ?_
  refine wi_iload_n (i := 1) (e := z30) (nx := 22) (r1 := 0) (r2 := 0) (r3 := 0) rfl rfl ?_
  refine wi_if (cd := .ne) (nx := 25) (r1 := 27) (r2 := 0) (r3 := 0) rfl (by omega) (fun (q44 : z30 ≠ 0) => ?_) (fun (q44 : ¬ (z30 ≠ 0)) => ?_)
  ·
    refine wi_aload_n (i := 0) (x := 236) (nx := 28) (r1 := 0) (r2 := 0) (r3 := 0) rfl rfl ?_
    refine wr_V (k0 := 236) (rest := []) (as := [.ref 236]) (nx := 31) (r1 := 315) (r2 := 0) (r3 := 11) rfl rfl rfl (of_decide_eq_true rfl) rfl rfl (by decide) rfl rfl (of_decide_eq_true rfl) (of_decide_eq_true rfl) ?_
    have e46 : h17 240 98 = h 238 98 := ((u17 240 98 rfl).trans ((y15_0 98 (by decide)).trans (u13 238 98 rfl)))
    have e47 : h17 240 99 = h 238 99 := ((u17 240 99 rfl).trans ((y15_0 99 (by decide)).trans (u13 238 99 rfl)))
    have e48 : h17 240 100 = h 238 100 := ((u17 240 100 rfl).trans ((y15_0 100 (by decide)).trans (u13 238 100 rfl)))
    have e49 : h17 240 101 = h 238 101 := ((u17 240 101 rfl).trans ((y15_0 101 (by decide)).trans (u13 238 101 rfl)))
    have e50 : h17 240 102 = h 238 102 := ((u17 240 102 rfl).trans ((y15_0 102 (by decide)).trans (u13 238 102 rfl)))
    have e51 : h17 240 106 = h 238 106 := ((u17 240 106 rfl).trans ((y15_0 106 (by decide)).trans (u13 238 106 rfl)))
    have e52 : h17 240 73 = h 238 73 := ((u17 240 73 rfl).trans ((y15_0 73 (by decide)).trans (u13 238 73 rfl)))
    have e53 : h17 240 2 = h 238 2 := ((u17 240 2 rfl).trans ((y15_0 2 (by decide)).trans (u13 238 2 rfl)))
    have e54 : h17 240 119 = h 238 119 := ((u17 240 119 rfl).trans ((y15_0 119 (by decide)).trans (u13 238 119 rfl)))
    have e55 : h17 240 67 = h 238 67 := ((u17 240 67 rfl).trans ((y15_0 67 (by decide)).trans (u13 238 67 rfl)))
    have e56 : h17 240 69 = h 238 69 := ((u17 240 69 rfl).trans ((y15_0 69 (by decide)).trans (u13 238 69 rfl)))
    have e57 : h17 240 5 = h 238 5 := ((u17 240 5 rfl).trans ((y15_0 5 (by decide)).trans (u13 238 5 rfl)))
    have gp58 := GPH.fr u13 rfl gp0
    have gp59 := GPH.fr u15 rfl gp58
    have gp60 := GPH.fr u17 rfl gp59
    refine ct_315_236 hcr  g17   (show (h17 238 98) + (h17 238 99) + (h17 238 100) + (h17 238 101) + (h17 238 102) + (h17 238 106) = (h17 238 73) by omega) (show (h17 238 73) ≤ (h17 238 2) by omega) (show (h17 238 119) ≤ (h17 238 67) by omega) (show (h17 238 69) ≤ (h17 238 5) by omega) (show (h17 238 2) ≤ 12 * (h17 238 5) by omega) (show (h17 240 98) + (h17 240 99) + (h17 240 100) + (h17 240 101) + (h17 240 102) + (h17 240 106) = (h17 240 73) by omega) (show (h17 240 73) ≤ (h17 240 2) by omega) (show (h17 240 119) ≤ (h17 240 67) by omega) (show (h17 240 69) ≤ (h17 240 5) by omega) (show (h17 240 2) ≤ 12 * (h17 240 5) by omega) gp60 (fun h45 g45 u45 y45_0 => ?_)
    have F61 := F31.then (by decide +kernel) u45
    refine wk_n ?_
    refine wi_iload_n (i := 1) (e := z30) (nx := 32) (r1 := 0) (r2 := 0) (r3 := 0) rfl rfl ?_
    refine wi_ireturn (nx := 33) (r1 := 0) (r2 := 0) (r3 := 0) rfl rfl ?_
    have e62 : h45 238 98 = h17 238 98 := (u45 238 98 rfl)
    have e63 : h45 238 99 = h17 238 99 := (u45 238 99 rfl)
    have e64 : h45 238 100 = h17 238 100 := (u45 238 100 rfl)
    have e65 : h45 238 101 = h17 238 101 := (u45 238 101 rfl)
    have e66 : h45 238 102 = h17 238 102 := (u45 238 102 rfl)
    have e67 : h45 238 106 = h17 238 106 := (u45 238 106 rfl)
    have e68 : h45 238 73 = h 238 73 := ((u45 238 73 rfl).trans ((u17 238 73 rfl).trans ((u15 238 73 rfl).trans (u13 238 73 rfl))))
    have e69 : h45 238 2 = h 238 2 := ((u45 238 2 rfl).trans ((u17 238 2 rfl).trans ((u15 238 2 rfl).trans (u13 238 2 rfl))))
    have e70 : h45 238 119 = h17 238 119 := (u45 238 119 rfl)
    have e71 : h45 238 67 = h17 238 67 := (u45 238 67 rfl)
    have e72 : h45 238 69 = h17 238 69 := (u45 238 69 rfl)
    have e73 : h45 238 5 = h 238 5 := ((u45 238 5 rfl).trans ((u17 238 5 rfl).trans ((u15 238 5 rfl).trans (u13 238 5 rfl))))
    exact k h45 z30 g45 F61 (by omega) (show (h45 238 98) + (h45 238 99) + (h45 238 100) + (h45 238 101) + (h45 238 102) + (h45 238 106) = (h45 238 73) by omega) (show (h45 238 73) ≤ (h45 238 2) by omega) (show (h45 238 119) ≤ (h45 238 67) by omega) (show (h45 238 69) ≤ (h45 238 5) by omega) (show (h45 238 2) ≤ 12 * (h45 238 5) by omega) y45_0
  ·
    refine wi_iconst (n := (-1)) (nx := 26) (r1 := 0) (r2 := 0) (r3 := 0) rfl ?_
    refine wi_ireturn (nx := 27) (r1 := 0) (r2 := 0) (r3 := 0) rfl rfl ?_
    have gp45 := GPH.fr u13 rfl gp0
    have gp46 := GPH.fr u15 rfl gp45
    have gp47 := GPH.fr u17 rfl gp46
    exact k h17 (-1) g17 F31 (by omega) (show (h17 238 98) + (h17 238 99) + (h17 238 100) + (h17 238 101) + (h17 238 102) + (h17 238 106) = (h17 238 73) by omega) (show (h17 238 73) ≤ (h17 238 2) by omega) (show (h17 238 119) ≤ (h17 238 67) by omega) (show (h17 238 69) ≤ (h17 238 5) by omega) (show (h17 238 2) ≤ 12 * (h17 238 5) by omega) gp47
-- method 311: Model.unloadChanges()I
set_option maxRecDepth 100000 in
set_option maxHeartbeats 100000000 in
theorem ct_311_236 {L : Nat} {xs : Nat → Int32} {d b c : Nat} {h : hp} {cr : Nat → Nat → Option Nat} {Q : hp_Q} (hcr : CR cr)  (g : GI h)   (pp0 : h 238 98 + h 238 99 + h 238 100 + h 238 101 + h 238 102 + h 238 106 = h 238 73) (pp1 : h 238 73 ≤ h 238 2) (pp2 : h 238 119 ≤ h 238 67) (pp3 : h 238 69 ≤ h 238 5) (pp4 : h 238 2 ≤ 12 * h 238 5) (k : ∀ (h2 : hp) (z0 : Int) , GI h2 → FR [(246, 246, none), (248, 248, none), (236, 236, some (0, 0)), (236, 236, some (32, 32)), (247, 247, some (0, 0)), (247, 247, some (1, 1)), (247, 247, some (2, 2)), (247, 247, some (3, 3))] h h2 → (-1 ≤ z0 ∧ z0 ≤ 99) → Q (.inl (some (vi z0))) (hp_w h2 cr) b c) : wp (md_xa (L, xs)) (d + 4) 311 (0, [(0, .ref 236)], [], hp_w h cr, b, c) Q := by
  have F0 : FR [(246, 246, none), (248, 248, none), (236, 236, some (0, 0)), (236, 236, some (32, 32)), (247, 247, some (0, 0)), (247, 247, some (1, 1)), (247, 247, some (2, 2)), (247, 247, some (3, 3))] h h := FR.refl
  have b1 := gi_b (lo := 0) (hi := 6) g 238 98 rfl
  have b2 := gi_b (lo := 0) (hi := 6) g 238 99 rfl
  have b3 := gi_b (lo := 0) (hi := 6) g 238 100 rfl
  have b4 := gi_b (lo := 0) (hi := 6) g 238 101 rfl
  have b5 := gi_b (lo := 0) (hi := 3) g 238 102 rfl
  have b6 := gi_b (lo := 0) (hi := 12) g 238 106 rfl
  have b7 := gi_b (lo := 0) (hi := 12) g 238 73 rfl
  have b8 := gi_b (lo := 0) (hi := 12) g 238 2 rfl
  have b9 := gi_b (lo := 0) (hi := 9999) g 238 119 rfl
  have b10 := gi_b (lo := 0) (hi := 9999) g 238 67 rfl
  have b11 := gi_b (lo := 0) (hi := 9) g 238 69 rfl
  have b12 := gi_b (lo := 0) (hi := 9) g 238 5 rfl
  refine wi_aload_n (i := 0) (x := 236) (nx := 1) (r1 := 0) (r2 := 0) (r3 := 0) rfl rfl ?_
  refine wi_iconst (n := 0) (nx := 2) (r1 := 0) (r2 := 0) (r3 := 0) rfl ?_
  refine wr_pf0 (k0 := 236) (x := 0) (bl := 0) (bh := 2) (nx := 5) (r1 := 11) (r2 := 0) (r3 := 0) rfl (by decide) rfl ⟨rfl, rfl⟩ rfl rfl g rfl (by omega) (fun h13 g13 w13 u13 => ?_)
  have F14 := F0.then rfl u13
  refine wi_aload_n (i := 0) (x := 236) (nx := 6) (r1 := 0) (r2 := 0) (r3 := 0) rfl rfl ?_
  refine wr_V (k0 := 236) (rest := []) (as := [.ref 236]) (nx := 9) (r1 := 299) (r2 := 0) (r3 := 11) rfl rfl rfl (of_decide_eq_true rfl) rfl rfl (by decide) rfl rfl (of_decide_eq_true rfl) (of_decide_eq_true rfl) ?_
  have e16 : h13 238 98 = h 238 98 := (u13 238 98 rfl)
  have e17 : h13 238 99 = h 238 99 := (u13 238 99 rfl)
  have e18 : h13 238 100 = h 238 100 := (u13 238 100 rfl)
  have e19 : h13 238 101 = h 238 101 := (u13 238 101 rfl)
  have e20 : h13 238 102 = h 238 102 := (u13 238 102 rfl)
  have e21 : h13 238 106 = h 238 106 := (u13 238 106 rfl)
  have e22 : h13 238 73 = h 238 73 := (u13 238 73 rfl)
  have e23 : h13 238 2 = h 238 2 := (u13 238 2 rfl)
  have e24 : h13 238 119 = h 238 119 := (u13 238 119 rfl)
  have e25 : h13 238 67 = h 238 67 := (u13 238 67 rfl)
  have e26 : h13 238 69 = h 238 69 := (u13 238 69 rfl)
  have e27 : h13 238 5 = h 238 5 := (u13 238 5 rfl)
  refine ct_299_236 hcr  g13   (show (h13 238 98) + (h13 238 99) + (h13 238 100) + (h13 238 101) + (h13 238 102) + (h13 238 106) = (h13 238 73) by omega) (show (h13 238 73) ≤ (h13 238 2) by omega) (show (h13 238 119) ≤ (h13 238 67) by omega) (show (h13 238 69) ≤ (h13 238 5) by omega) (show (h13 238 2) ≤ 12 * (h13 238 5) by omega) (fun h15 z28 g15 u15 (fz28 : 0 ≤ z28 ∧ z28 ≤ 1000000) => ?_)
  have F29 := F14.then (by decide +kernel) u15
  refine wk_i ?_
  refine wi_istore_n (i := 1) (e := z28) (lo2 := [(1, vi z28), (0, .ref 236)]) (nx := 10) (r1 := 0) (r2 := 0) (r3 := 0) rfl rfl ?_
  refine wi_iload_n (i := 1) (e := z28) (nx := 11) (r1 := 0) (r2 := 0) (r3 := 0) rfl rfl ?_
  refine wi_ldc_w (e := 1000000) (nx := 14) (r1 := 0) (r2 := 1000000) (r3 := 0) rfl (by decide) ?_
  refine wi_icmp (cd := .ne) (nx := 17) (r1 := 21) (r2 := 0) (r3 := 0) rfl (by omega) (by omega) (fun (q30 : z28 ≠ 1000000) => ?_) (fun (q30 : ¬ (z28 ≠ 1000000)) => ?_)
  ·
    refine wi_iload_n (i := 1) (e := z28) (nx := 22) (r1 := 0) (r2 := 0) (r3 := 0) rfl rfl ?_
    refine wi_bipush (n := 100) (nx := 24) (r1 := 0) (r2 := 0) (r3 := 0) rfl (by decide) ?_
    refine wr_iremC (nx := 25) (r1 := 0) (r2 := 0) (r3 := 0) rfl (by omega) (by decide) (fun e31 (fe31 : e31 = z28 % 100) => ?_)
    refine wi_ireturn (nx := 26) (r1 := 0) (r2 := 0) (r3 := 0) rfl rfl ?_
    exact k h15 e31 g15 F29 (by omega)
  ·
    refine wi_iconst (n := (-1)) (nx := 18) (r1 := 0) (r2 := 0) (r3 := 0) rfl ?_
    refine wi_goto (nx := 21) (r1 := 25) (r2 := 0) (r3 := 0) rfl ?_
    refine wi_ireturn (nx := 26) (r1 := 0) (r2 := 0) (r3 := 0) rfl rfl ?_
    exact k h15 (-1) g15 F29 (by omega)
-- method 298: Model.unloadCost()I
set_option maxRecDepth 100000 in
set_option maxHeartbeats 100000000 in
theorem ct_298_236 {L : Nat} {xs : Nat → Int32} {d b c : Nat} {h : hp} {cr : Nat → Nat → Option Nat} {Q : hp_Q} (hcr : CR cr)  (g : GI h)   (pp0 : h 238 98 + h 238 99 + h 238 100 + h 238 101 + h 238 102 + h 238 106 = h 238 73) (pp1 : h 238 73 ≤ h 238 2) (pp2 : h 238 119 ≤ h 238 67) (pp3 : h 238 69 ≤ h 238 5) (pp4 : h 238 2 ≤ 12 * h 238 5) (k : ∀ (h2 : hp) (z0 : Int) , GI h2 → FR [(246, 246, none), (248, 248, none), (236, 236, some (0, 0)), (236, 236, some (32, 32)), (247, 247, some (0, 0)), (247, 247, some (1, 1)), (247, 247, some (2, 2)), (247, 247, some (3, 3))] h h2 → (-1 ≤ z0 ∧ z0 ≤ 9999) → Q (.inl (some (vi z0))) (hp_w h2 cr) b c) : wp (md_xa (L, xs)) (d + 4) 298 (0, [(0, .ref 236)], [], hp_w h cr, b, c) Q := by
  have F0 : FR [(246, 246, none), (248, 248, none), (236, 236, some (0, 0)), (236, 236, some (32, 32)), (247, 247, some (0, 0)), (247, 247, some (1, 1)), (247, 247, some (2, 2)), (247, 247, some (3, 3))] h h := FR.refl
  have b1 := gi_b (lo := 0) (hi := 6) g 238 98 rfl
  have b2 := gi_b (lo := 0) (hi := 6) g 238 99 rfl
  have b3 := gi_b (lo := 0) (hi := 6) g 238 100 rfl
  have b4 := gi_b (lo := 0) (hi := 6) g 238 101 rfl
  have b5 := gi_b (lo := 0) (hi := 3) g 238 102 rfl
  have b6 := gi_b (lo := 0) (hi := 12) g 238 106 rfl
  have b7 := gi_b (lo := 0) (hi := 12) g 238 73 rfl
  have b8 := gi_b (lo := 0) (hi := 12) g 238 2 rfl
  have b9 := gi_b (lo := 0) (hi := 9999) g 238 119 rfl
  have b10 := gi_b (lo := 0) (hi := 9999) g 238 67 rfl
  have b11 := gi_b (lo := 0) (hi := 9) g 238 69 rfl
  have b12 := gi_b (lo := 0) (hi := 9) g 238 5 rfl
  refine wi_aload_n (i := 0) (x := 236) (nx := 1) (r1 := 0) (r2 := 0) (r3 := 0) rfl rfl ?_
  refine wi_iconst (n := 0) (nx := 2) (r1 := 0) (r2 := 0) (r3 := 0) rfl ?_
  refine wr_pf0 (k0 := 236) (x := 0) (bl := 0) (bh := 2) (nx := 5) (r1 := 11) (r2 := 0) (r3 := 0) rfl (by decide) rfl ⟨rfl, rfl⟩ rfl rfl g rfl (by omega) (fun h13 g13 w13 u13 => ?_)
  have F14 := F0.then rfl u13
  refine wi_aload_n (i := 0) (x := 236) (nx := 6) (r1 := 0) (r2 := 0) (r3 := 0) rfl rfl ?_
  refine wr_V (k0 := 236) (rest := []) (as := [.ref 236]) (nx := 9) (r1 := 299) (r2 := 0) (r3 := 11) rfl rfl rfl (of_decide_eq_true rfl) rfl rfl (by decide) rfl rfl (of_decide_eq_true rfl) (of_decide_eq_true rfl) ?_
  have e16 : h13 238 98 = h 238 98 := (u13 238 98 rfl)
  have e17 : h13 238 99 = h 238 99 := (u13 238 99 rfl)
  have e18 : h13 238 100 = h 238 100 := (u13 238 100 rfl)
  have e19 : h13 238 101 = h 238 101 := (u13 238 101 rfl)
  have e20 : h13 238 102 = h 238 102 := (u13 238 102 rfl)
  have e21 : h13 238 106 = h 238 106 := (u13 238 106 rfl)
  have e22 : h13 238 73 = h 238 73 := (u13 238 73 rfl)
  have e23 : h13 238 2 = h 238 2 := (u13 238 2 rfl)
  have e24 : h13 238 119 = h 238 119 := (u13 238 119 rfl)
  have e25 : h13 238 67 = h 238 67 := (u13 238 67 rfl)
  have e26 : h13 238 69 = h 238 69 := (u13 238 69 rfl)
  have e27 : h13 238 5 = h 238 5 := (u13 238 5 rfl)
  refine ct_299_236 hcr  g13   (show (h13 238 98) + (h13 238 99) + (h13 238 100) + (h13 238 101) + (h13 238 102) + (h13 238 106) = (h13 238 73) by omega) (show (h13 238 73) ≤ (h13 238 2) by omega) (show (h13 238 119) ≤ (h13 238 67) by omega) (show (h13 238 69) ≤ (h13 238 5) by omega) (show (h13 238 2) ≤ 12 * (h13 238 5) by omega) (fun h15 z28 g15 u15 (fz28 : 0 ≤ z28 ∧ z28 ≤ 1000000) => ?_)
  have F29 := F14.then (by decide +kernel) u15
  refine wk_i ?_
  refine wi_istore_n (i := 1) (e := z28) (lo2 := [(1, vi z28), (0, .ref 236)]) (nx := 10) (r1 := 0) (r2 := 0) (r3 := 0) rfl rfl ?_
  refine wi_iload_n (i := 1) (e := z28) (nx := 11) (r1 := 0) (r2 := 0) (r3 := 0) rfl rfl ?_
  refine wi_ldc_w (e := 1000000) (nx := 14) (r1 := 0) (r2 := 1000000) (r3 := 0) rfl (by decide) ?_
  refine wi_icmp (cd := .ne) (nx := 17) (r1 := 21) (r2 := 0) (r3 := 0) rfl (by omega) (by omega) (fun (q30 : z28 ≠ 1000000) => ?_) (fun (q30 : ¬ (z28 ≠ 1000000)) => ?_)
  ·
    refine wi_iload_n (i := 1) (e := z28) (nx := 22) (r1 := 0) (r2 := 0) (r3 := 0) rfl rfl ?_
    refine wi_bipush (n := 100) (nx := 24) (r1 := 0) (r2 := 0) (r3 := 0) rfl (by decide) ?_
    refine wr_idivC (nx := 25) (r1 := 0) (r2 := 0) (r3 := 0) rfl (by omega) (by decide) (fun e31 (fe31 : e31 = z28 / 100) => ?_)
    refine wi_ireturn (nx := 26) (r1 := 0) (r2 := 0) (r3 := 0) rfl rfl ?_
    exact k h15 e31 g15 F29 (by omega)
  ·
    refine wi_iconst (n := (-1)) (nx := 18) (r1 := 0) (r2 := 0) (r3 := 0) rfl ?_
    refine wi_goto (nx := 21) (r1 := 25) (r2 := 0) (r3 := 0) rfl ?_
    refine wi_ireturn (nx := 26) (r1 := 0) (r2 := 0) (r3 := 0) rfl rfl ?_
    exact k h15 (-1) g15 F29 (by omega)
-- method 312: Model.unloadLane(I)I
set_option maxRecDepth 100000 in
set_option maxHeartbeats 100000000 in
theorem ct_312_236 {L : Nat} {xs : Nat → Int32} {d b c : Nat} {h : hp} {cr : Nat → Nat → Option Nat} {Q : hp_Q} (hcr : CR cr)  (g : GI h) (a0 : Int) (q0_ : -2147483648 ≤ a0 ∧ a0 ≤ 2147483647) (pp0 : h 238 98 + h 238 99 + h 238 100 + h 238 101 + h 238 102 + h 238 106 = h 238 73) (pp1 : h 238 73 ≤ h 238 2) (pp2 : h 238 119 ≤ h 238 67) (pp3 : h 238 69 ≤ h 238 5) (pp4 : h 238 2 ≤ 12 * h 238 5) (k : ∀ (h2 : hp) (z0 : Int) , GI h2 → FR [(246, 246, none), (248, 248, none), (236, 236, some (0, 0)), (236, 236, some (32, 32)), (247, 247, some (0, 0)), (247, 247, some (1, 1)), (247, 247, some (2, 2)), (247, 247, some (3, 3))] h h2 → (-1 ≤ z0 ∧ z0 ≤ 3) → Q (.inl (some (vi z0))) (hp_w h2 cr) b c) : wp (md_xa (L, xs)) (d + 4) 312 (0, [(0, .ref 236), (1, vi a0)], [], hp_w h cr, b, c) Q := by
  have F0 : FR [(246, 246, none), (248, 248, none), (236, 236, some (0, 0)), (236, 236, some (32, 32)), (247, 247, some (0, 0)), (247, 247, some (1, 1)), (247, 247, some (2, 2)), (247, 247, some (3, 3))] h h := FR.refl
  have b1 := gi_b (lo := 0) (hi := 6) g 238 98 rfl
  have b2 := gi_b (lo := 0) (hi := 6) g 238 99 rfl
  have b3 := gi_b (lo := 0) (hi := 6) g 238 100 rfl
  have b4 := gi_b (lo := 0) (hi := 6) g 238 101 rfl
  have b5 := gi_b (lo := 0) (hi := 3) g 238 102 rfl
  have b6 := gi_b (lo := 0) (hi := 12) g 238 106 rfl
  have b7 := gi_b (lo := 0) (hi := 12) g 238 73 rfl
  have b8 := gi_b (lo := 0) (hi := 12) g 238 2 rfl
  have b9 := gi_b (lo := 0) (hi := 9999) g 238 119 rfl
  have b10 := gi_b (lo := 0) (hi := 9999) g 238 67 rfl
  have b11 := gi_b (lo := 0) (hi := 9) g 238 69 rfl
  have b12 := gi_b (lo := 0) (hi := 9) g 238 5 rfl
  refine wi_aload_n (i := 0) (x := 236) (nx := 1) (r1 := 0) (r2 := 0) (r3 := 0) rfl rfl ?_
  refine wi_iconst (n := 0) (nx := 2) (r1 := 0) (r2 := 0) (r3 := 0) rfl ?_
  refine wr_pf0 (k0 := 236) (x := 0) (bl := 0) (bh := 2) (nx := 5) (r1 := 11) (r2 := 0) (r3 := 0) rfl (by decide) rfl ⟨rfl, rfl⟩ rfl rfl g rfl (by omega) (fun h13 g13 w13 u13 => ?_)
  have F14 := F0.then rfl u13
  refine wi_aload_n (i := 0) (x := 236) (nx := 6) (r1 := 0) (r2 := 0) (r3 := 0) rfl rfl ?_
  refine wr_V (k0 := 236) (rest := []) (as := [.ref 236]) (nx := 9) (r1 := 299) (r2 := 0) (r3 := 11) rfl rfl rfl (of_decide_eq_true rfl) rfl rfl (by decide) rfl rfl (of_decide_eq_true rfl) (of_decide_eq_true rfl) ?_
  have e16 : h13 238 98 = h 238 98 := (u13 238 98 rfl)
  have e17 : h13 238 99 = h 238 99 := (u13 238 99 rfl)
  have e18 : h13 238 100 = h 238 100 := (u13 238 100 rfl)
  have e19 : h13 238 101 = h 238 101 := (u13 238 101 rfl)
  have e20 : h13 238 102 = h 238 102 := (u13 238 102 rfl)
  have e21 : h13 238 106 = h 238 106 := (u13 238 106 rfl)
  have e22 : h13 238 73 = h 238 73 := (u13 238 73 rfl)
  have e23 : h13 238 2 = h 238 2 := (u13 238 2 rfl)
  have e24 : h13 238 119 = h 238 119 := (u13 238 119 rfl)
  have e25 : h13 238 67 = h 238 67 := (u13 238 67 rfl)
  have e26 : h13 238 69 = h 238 69 := (u13 238 69 rfl)
  have e27 : h13 238 5 = h 238 5 := (u13 238 5 rfl)
  refine ct_299_236 hcr  g13   (show (h13 238 98) + (h13 238 99) + (h13 238 100) + (h13 238 101) + (h13 238 102) + (h13 238 106) = (h13 238 73) by omega) (show (h13 238 73) ≤ (h13 238 2) by omega) (show (h13 238 119) ≤ (h13 238 67) by omega) (show (h13 238 69) ≤ (h13 238 5) by omega) (show (h13 238 2) ≤ 12 * (h13 238 5) by omega) (fun h15 z28 g15 u15 (fz28 : 0 ≤ z28 ∧ z28 ≤ 1000000) => ?_)
  have F29 := F14.then (by decide +kernel) u15
  refine wk_i ?_
  refine wi_istore_n (i := 2) (e := z28) (lo2 := [(2, vi z28), (0, .ref 236), (1, vi a0)]) (nx := 10) (r1 := 0) (r2 := 0) (r3 := 0) rfl rfl ?_
  refine wi_iload_n (i := 1) (e := a0) (nx := 11) (r1 := 0) (r2 := 0) (r3 := 0) rfl rfl ?_
  refine wi_i2l (nx := 12) (r1 := 0) (r2 := 0) (r3 := 0) rfl (by omega) ?_
  refine wi_lconst (n := 0) (e := 0) (nx := 13) (r1 := 0) (r2 := 0) (r3 := 0) rfl (by decide) ?_
  refine wi_aload_n (i := 0) (x := 236) (nx := 14) (r1 := 0) (r2 := 0) (r3 := 0) rfl rfl ?_
  have b30 := gi_b (lo := 0) (hi := 12) g15 236 32 rfl
  refine wr_gi0 (k0 := 236) (x := h15 236 32) (nx := 17) (r1 := 11) (r2 := 32) (r3 := 0) rfl rfl (by decide) rfl ⟨rfl, rfl⟩ rfl rfl ?_
  refine wi_iconst (n := 1) (nx := 18) (r1 := 0) (r2 := 0) (r3 := 0) rfl ?_
  refine wr_sub (nx := 19) (r1 := 0) (r2 := 0) (r3 := 0) rfl (fun e31 (fe31 : e31 = (h15 236 32) - 1) => ?_)
  refine wi_i2l (nx := 20) (r1 := 0) (r2 := 0) (r3 := 0) rfl (by omega) ?_
  refine wi_S (rest := []) (as := [vl a0, vl 0, vl e31]) (nx := 23) (r1 := 210) (r2 := 19) (r3 := 0) rfl rfl rfl (of_decide_eq_true rfl) rfl rfl (of_decide_eq_true rfl) (of_decide_eq_true rfl) ?_
  refine wi_lload_n (i := 0) (e := a0) (nx := 1) (r1 := 0) (r2 := 0) (r3 := 0) rfl rfl ?_
  refine wi_lload_n (i := 2) (e := 0) (nx := 2) (r1 := 0) (r2 := 0) (r3 := 0) rfl rfl ?_
  refine wi_lcmp (a := a0) (e := 0) (nx := 3) (r1 := 0) (r2 := 0) (r3 := 0) rfl (by omega) (by omega) (fun r32 (fr32 : (r32 = -1 ∧ a0 < 0) ∨ (r32 = 0 ∧ a0 = 0) ∨ (r32 = 1 ∧ 0 < a0)) => ?_)
  refine wi_if (cd := .lt) (nx := 6) (r1 := 17) (r2 := 0) (r3 := 0) rfl (by omega) (fun (q33 : r32 < 0) => ?_) (fun (q33 : ¬ (r32 < 0)) => ?_)
  ·
    refine wi_iconst (n := 0) (nx := 18) (r1 := 0) (r2 := 0) (r3 := 0) rfl ?_
    refine wi_zreturn (nx := 19) (r1 := 0) (r2 := 0) (r3 := 0) rfl rfl (by omega) ?_
    refine wk_i ?_
    refine wi_if (cd := .eq) (nx := 26) (r1 := 35) (r2 := 0) (r3 := 0) rfl (by omega) (fun (q34 : 0 = 0) => ?_) (fun (q34 : ¬ (0 = 0)) => by exfalso; omega)
    refine wi_iconst (n := (-1)) (nx := 36) (r1 := 0) (r2 := 0) (r3 := 0) rfl ?_
    refine wi_ireturn (nx := 37) (r1 := 0) (r2 := 0) (r3 := 0) rfl rfl ?_
    exact k h15 (-1) g15 F29 (by omega)
  ·
    refine wi_lload_n (i := 0) (e := a0) (nx := 7) (r1 := 0) (r2 := 0) (r3 := 0) rfl rfl ?_
    refine wi_lload (i := 4) (e := e31) (nx := 9) (r1 := 0) (r2 := 0) (r3 := 0) rfl rfl ?_
    refine wi_lcmp (a := a0) (e := e31) (nx := 10) (r1 := 0) (r2 := 0) (r3 := 0) rfl (by omega) (by omega) (fun r34 (fr34 : (r34 = -1 ∧ a0 < e31) ∨ (r34 = 0 ∧ a0 = e31) ∨ (r34 = 1 ∧ e31 < a0)) => ?_)
    refine wi_if (cd := .gt) (nx := 13) (r1 := 17) (r2 := 0) (r3 := 0) rfl (by omega) (fun (q35 : 0 < r34) => ?_) (fun (q35 : ¬ (0 < r34)) => ?_)
    ·
      refine wi_iconst (n := 0) (nx := 18) (r1 := 0) (r2 := 0) (r3 := 0) rfl ?_
      refine wi_zreturn (nx := 19) (r1 := 0) (r2 := 0) (r3 := 0) rfl rfl (by omega) ?_
      refine wk_i ?_
      refine wi_if (cd := .eq) (nx := 26) (r1 := 35) (r2 := 0) (r3 := 0) rfl (by omega) (fun (q36 : 0 = 0) => ?_) (fun (q36 : ¬ (0 = 0)) => by exfalso; omega)
      refine wi_iconst (n := (-1)) (nx := 36) (r1 := 0) (r2 := 0) (r3 := 0) rfl ?_
      refine wi_ireturn (nx := 37) (r1 := 0) (r2 := 0) (r3 := 0) rfl rfl ?_
      exact k h15 (-1) g15 F29 (by omega)
    ·
      refine wi_iconst (n := 1) (nx := 14) (r1 := 0) (r2 := 0) (r3 := 0) rfl ?_
      refine wi_goto (nx := 17) (r1 := 18) (r2 := 0) (r3 := 0) rfl ?_
      refine wi_zreturn (nx := 19) (r1 := 0) (r2 := 0) (r3 := 0) rfl rfl (by omega) ?_
      refine wk_i ?_
      refine wi_if (cd := .eq) (nx := 26) (r1 := 35) (r2 := 0) (r3 := 0) rfl (by omega) (fun (q36 : 1 = 0) => by exfalso; omega) (fun (q36 : ¬ (1 = 0)) => ?_)
      refine wi_aload_n (i := 0) (x := 236) (nx := 27) (r1 := 0) (r2 := 0) (r3 := 0) rfl rfl ?_
      refine wr_gr (k0 := 236) (x := 248) (nx := 30) (r1 := 11) (r2 := 31) (r3 := 0) rfl rfl (by decide) rfl ⟨rfl, rfl⟩ rfl ?_
      refine wi_iload_n (i := 1) (e := a0) (nx := 31) (r1 := 0) (r2 := 0) (r3 := 0) rfl rfl ?_
      obtain ⟨i37, ei37⟩ : ∃ q : Nat, a0 = (q : Int) := ⟨(a0).toNat, by omega⟩
      have b38 := gi_b (lo := 0) (hi := 3) g15 248 i37 rfl
      refine wr_ia (k0 := 248) (a := a0) (f := i37) (x := h15 248 i37) (nx := 32) (r1 := 0) (r2 := 0) (r3 := 0) rfl (by decide) rfl (by omega) (by omega) (by decide) rfl ?_
      refine wi_goto (nx := 35) (r1 := 36) (r2 := 0) (r3 := 0) rfl ?_
      refine wi_ireturn (nx := 37) (r1 := 0) (r2 := 0) (r3 := 0) rfl rfl ?_
      exact k h15 (h15 248 i37) g15 F29 (by omega)
-- method 255: Model.waiting()I
set_option maxRecDepth 100000 in
set_option maxHeartbeats 100000000 in
theorem ct_255_236 {L : Nat} {xs : Nat → Int32} {d b c : Nat} {h : hp} {cr : Nat → Nat → Option Nat} {Q : hp_Q} (hcr : CR cr)  (g : GI h)    (k : ∀ (h2 : hp) (z0 : Int) , GI h2 → FR [(236, 236, some (0, 0))] h h2 → (-12 ≤ z0 ∧ z0 ≤ 12) → Q (.inl (some (vi z0))) (hp_w h2 cr) b c) : wp (md_xa (L, xs)) d 255 (0, [(0, .ref 236)], [], hp_w h cr, b, c) Q := by
  have F0 : FR [(236, 236, some (0, 0))] h h := FR.refl
  refine wi_aload_n (i := 0) (x := 236) (nx := 1) (r1 := 0) (r2 := 0) (r3 := 0) rfl rfl ?_
  refine wi_iconst (n := 0) (nx := 2) (r1 := 0) (r2 := 0) (r3 := 0) rfl ?_
  refine wr_pf0 (k0 := 236) (x := 0) (bl := 0) (bh := 2) (nx := 5) (r1 := 11) (r2 := 0) (r3 := 0) rfl (by decide) rfl ⟨rfl, rfl⟩ rfl rfl g rfl (by omega) (fun h1 g1 w1 u1 => ?_)
  have F2 := F0.then rfl u1
  refine wi_aload_n (i := 0) (x := 236) (nx := 6) (r1 := 0) (r2 := 0) (r3 := 0) rfl rfl ?_
  refine wr_gr (k0 := 236) (x := 238) (nx := 9) (r1 := 11) (r2 := 13) (r3 := 0) rfl rfl (by decide) rfl ⟨rfl, rfl⟩ rfl ?_
  refine wi_iconst (n := 2) (nx := 10) (r1 := 0) (r2 := 0) (r3 := 0) rfl ?_
  have b3 := gi_b (lo := 0) (hi := 12) g 238 2 rfl
  refine wr_ia (k0 := 238) (a := 2) (f := 2) (x := h 238 2) (nx := 11) (r1 := 0) (r2 := 0) (r3 := 0) rfl (by decide) rfl (by omega) (by omega) (by decide) (u1 238 2 rfl) ?_
  refine wi_aload_n (i := 0) (x := 236) (nx := 12) (r1 := 0) (r2 := 0) (r3 := 0) rfl rfl ?_
  refine wr_gr (k0 := 236) (x := 238) (nx := 15) (r1 := 11) (r2 := 13) (r3 := 0) rfl rfl (by decide) rfl ⟨rfl, rfl⟩ rfl ?_
  refine wi_bipush (n := 73) (nx := 17) (r1 := 0) (r2 := 0) (r3 := 0) rfl (by decide) ?_
  have b4 := gi_b (lo := 0) (hi := 12) g 238 73 rfl
  refine wr_ia (k0 := 238) (a := 73) (f := 73) (x := h 238 73) (nx := 18) (r1 := 0) (r2 := 0) (r3 := 0) rfl (by decide) rfl (by omega) (by omega) (by decide) (u1 238 73 rfl) ?_
  refine wr_sub (nx := 19) (r1 := 0) (r2 := 0) (r3 := 0) rfl (fun e5 (fe5 : e5 = (h 238 2) - (h 238 73)) => ?_)
  refine wi_ireturn (nx := 20) (r1 := 0) (r2 := 0) (r3 := 0) rfl rfl ?_
  exact k h1 e5 g1 F2 (by omega)
-- method 320: Model.waitingChanges()I
set_option maxRecDepth 100000 in
set_option maxHeartbeats 100000000 in
theorem ct_320_236 {L : Nat} {xs : Nat → Int32} {d b c : Nat} {h : hp} {cr : Nat → Nat → Option Nat} {Q : hp_Q} (hcr : CR cr)  (g : GI h)    (k : ∀ (h2 : hp) (z0 : Int) , GI h2 → FR [(236, 236, some (0, 0))] h h2 → (-2147483648 ≤ z0 ∧ z0 ≤ 2147483647) → Q (.inl (some (vi z0))) (hp_w h2 cr) b c) : wp (md_xa (L, xs)) (d + 1) 320 (0, [(0, .ref 236)], [], hp_w h cr, b, c) Q := by
  have F0 : FR [(236, 236, some (0, 0))] h h := FR.refl
  refine wi_aload_n (i := 0) (x := 236) (nx := 1) (r1 := 0) (r2 := 0) (r3 := 0) rfl rfl ?_
  refine wi_iconst (n := 0) (nx := 2) (r1 := 0) (r2 := 0) (r3 := 0) rfl ?_
  refine wr_pf0 (k0 := 236) (x := 0) (bl := 0) (bh := 2) (nx := 5) (r1 := 11) (r2 := 0) (r3 := 0) rfl (by decide) rfl ⟨rfl, rfl⟩ rfl rfl g rfl (by omega) (fun h1 g1 w1 u1 => ?_)
  have F2 := F0.then rfl u1
  refine wi_iconst (n := 0) (nx := 6) (r1 := 0) (r2 := 0) (r3 := 0) rfl ?_
  refine wi_istore_n (i := 1) (e := 0) (lo2 := [(1, vi 0), (0, .ref 236)]) (nx := 7) (r1 := 0) (r2 := 0) (r3 := 0) rfl rfl ?_
  refine wi_iconst (n := 1) (nx := 8) (r1 := 0) (r2 := 0) (r3 := 0) rfl ?_
  refine wi_istore_n (i := 2) (e := 1) (lo2 := [(2, vi 1), (1, vi 0), (0, .ref 236)]) (nx := 9) (r1 := 0) (r2 := 0) (r3 := 0) rfl rfl ?_
  refine wp.lo (lo := [(0, .ref 236), (1, vi 0), (2, vi 1)]) ⟨rfl, rfl, rfl, trivial⟩ rfl ?_
  refine wl_2 (fun x3 x4 h5 => h1 = h5 ∧ ((-2147483648 ≤ x3 ∧ x3 ≤ 2147483647) ∧ (1 ≤ x4 ∧ x4 ≤ 12))) (fun x3 x4 h5 => ((12 : Int) + 1 - x4).toNat) (fun x3 x4 h5 => (9, [(0, .ref 236), (1, vi x3), (2, vi x4)], [], hp_w h5 cr, b, c)) ?_ 0 1 h1 ⟨rfl, (show (-2147483648 ≤ 0 ∧ 0 ≤ 2147483647) ∧ (1 ≤ 1 ∧ 1 ≤ 12) by omega)⟩
  intro x3 x4 h5 ⟨e5, f5⟩ I5
  subst e5
  refine wi_iload_n (i := 2) (e := x4) (nx := 10) (r1 := 0) (r2 := 0) (r3 := 0) rfl rfl ?_
  refine wi_aload_n (i := 0) (x := 236) (nx := 11) (r1 := 0) (r2 := 0) (r3 := 0) rfl rfl ?_
  refine wr_V (k0 := 236) (rest := [vi x4]) (as := [.ref 236]) (nx := 14) (r1 := 321) (r2 := 0) (r3 := 11) rfl rfl rfl (of_decide_eq_true rfl) rfl rfl (by decide) rfl rfl (of_decide_eq_true rfl) (of_decide_eq_true rfl) ?_
  refine wi_aload_n (i := 0) (x := 236) (nx := 1) (r1 := 0) (r2 := 0) (r3 := 0) rfl rfl ?_
  refine wr_gr (k0 := 236) (x := 238) (nx := 4) (r1 := 11) (r2 := 13) (r3 := 0) rfl rfl (by decide) rfl ⟨rfl, rfl⟩ rfl ?_
  refine wi_iconst (n := 2) (nx := 5) (r1 := 0) (r2 := 0) (r3 := 0) rfl ?_
  have b7 := gi_b (lo := 0) (hi := 12) g 238 2 rfl
  refine wr_ia (k0 := 238) (a := 2) (f := 2) (x := h 238 2) (nx := 6) (r1 := 0) (r2 := 0) (r3 := 0) rfl (by decide) rfl (by omega) (by omega) (by decide) (u1 238 2 rfl) ?_
  refine wi_aload_n (i := 0) (x := 236) (nx := 7) (r1 := 0) (r2 := 0) (r3 := 0) rfl rfl ?_
  refine wr_gr (k0 := 236) (x := 238) (nx := 10) (r1 := 11) (r2 := 13) (r3 := 0) rfl rfl (by decide) rfl ⟨rfl, rfl⟩ rfl ?_
  refine wi_bipush (n := 73) (nx := 12) (r1 := 0) (r2 := 0) (r3 := 0) rfl (by decide) ?_
  have b8 := gi_b (lo := 0) (hi := 12) g 238 73 rfl
  refine wr_ia (k0 := 238) (a := 73) (f := 73) (x := h 238 73) (nx := 13) (r1 := 0) (r2 := 0) (r3 := 0) rfl (by decide) rfl (by omega) (by omega) (by decide) (u1 238 73 rfl) ?_
  refine wr_sub (nx := 14) (r1 := 0) (r2 := 0) (r3 := 0) rfl (fun e9 (fe9 : e9 = (h 238 2) - (h 238 73)) => ?_)
  refine wi_ireturn (nx := 15) (r1 := 0) (r2 := 0) (r3 := 0) rfl rfl ?_
  refine wk_i ?_
  refine wi_icmp (cd := .ge) (nx := 17) (r1 := 49) (r2 := 0) (r3 := 0) rfl (by omega) (by omega) (fun (q10 : e9 ≤ x4) => ?_) (fun (q10 : ¬ (e9 ≤ x4)) => ?_)
  ·
    refine wi_iload_n (i := 1) (e := x3) (nx := 50) (r1 := 0) (r2 := 0) (r3 := 0) rfl rfl ?_
    refine wi_ireturn (nx := 51) (r1 := 0) (r2 := 0) (r3 := 0) rfl rfl ?_
    exact k h1 x3 g1 F2 (by omega)
  ·
    refine wi_iload_n (i := 1) (e := x3) (nx := 18) (r1 := 0) (r2 := 0) (r3 := 0) rfl rfl ?_
    refine wi_aload_n (i := 0) (x := 236) (nx := 19) (r1 := 0) (r2 := 0) (r3 := 0) rfl rfl ?_
    refine wi_iload_n (i := 2) (e := x4) (nx := 20) (r1 := 0) (r2 := 0) (r3 := 0) rfl rfl ?_
    refine wr_V (k0 := 236) (rest := [vi x3]) (as := [.ref 236, vi x4]) (nx := 23) (r1 := 322) (r2 := 1) (r3 := 11) rfl rfl rfl (of_decide_eq_true rfl) rfl rfl (by decide) rfl rfl (of_decide_eq_true rfl) (of_decide_eq_true rfl) ?_
    refine wi_aload_n (i := 0) (x := 236) (nx := 1) (r1 := 0) (r2 := 0) (r3 := 0) rfl rfl ?_
    refine wr_gr (k0 := 236) (x := 238) (nx := 4) (r1 := 11) (r2 := 13) (r3 := 0) rfl rfl (by decide) rfl ⟨rfl, rfl⟩ rfl ?_
    refine wi_bipush (n := 31) (nx := 6) (r1 := 0) (r2 := 0) (r3 := 0) rfl (by decide) ?_
    refine wi_aload_n (i := 0) (x := 236) (nx := 7) (r1 := 0) (r2 := 0) (r3 := 0) rfl rfl ?_
    refine wr_gr (k0 := 236) (x := 238) (nx := 10) (r1 := 11) (r2 := 13) (r3 := 0) rfl rfl (by decide) rfl ⟨rfl, rfl⟩ rfl ?_
    refine wi_bipush (n := 73) (nx := 12) (r1 := 0) (r2 := 0) (r3 := 0) rfl (by decide) ?_
    refine wr_ia (k0 := 238) (a := 73) (f := 73) (x := h 238 73) (nx := 13) (r1 := 0) (r2 := 0) (r3 := 0) rfl (by decide) rfl (by omega) (by omega) (by decide) (u1 238 73 rfl) ?_
    refine wr_add (nx := 14) (r1 := 0) (r2 := 0) (r3 := 0) rfl (fun e11 (fe11 : e11 = 31 + (h 238 73)) => ?_)
    refine wi_iload_n (i := 1) (e := x4) (nx := 15) (r1 := 0) (r2 := 0) (r3 := 0) rfl rfl ?_
    refine wr_add (nx := 16) (r1 := 0) (r2 := 0) (r3 := 0) rfl (fun e12 (fe12 : e12 = e11 + x4) => ?_)
    obtain ⟨i13, ei13⟩ : ∃ q : Nat, e12 = (q : Int) := ⟨(e12).toNat, by omega⟩
    have b14 := gi_b (lo := 0) (hi := 4) g 238 i13 (gi_rg 32 11 (fun _ => rfl) (by decide +kernel) (by omega))
    refine wr_ia (k0 := 238) (a := e12) (f := i13) (x := h 238 i13) (nx := 17) (r1 := 0) (r2 := 0) (r3 := 0) rfl (by decide) rfl (by omega) (by omega) (by decide) (u1 238 i13 (fn_a (by omega) fn_0)) ?_
    refine wi_ireturn (nx := 18) (r1 := 0) (r2 := 0) (r3 := 0) rfl rfl ?_
    refine wk_i ?_
    refine wi_aload_n (i := 0) (x := 236) (nx := 24) (r1 := 0) (r2 := 0) (r3 := 0) rfl rfl ?_
    refine wi_iload_n (i := 2) (e := x4) (nx := 25) (r1 := 0) (r2 := 0) (r3 := 0) rfl rfl ?_
    refine wi_iconst (n := 1) (nx := 26) (r1 := 0) (r2 := 0) (r3 := 0) rfl ?_
    refine wr_sub (nx := 27) (r1 := 0) (r2 := 0) (r3 := 0) rfl (fun e15 (fe15 : e15 = x4 - 1) => ?_)
    refine wr_V (k0 := 236) (rest := [vi (h 238 i13), vi x3]) (as := [.ref 236, vi e15]) (nx := 30) (r1 := 322) (r2 := 1) (r3 := 11) rfl rfl rfl (of_decide_eq_true rfl) rfl rfl (by decide) rfl rfl (of_decide_eq_true rfl) (of_decide_eq_true rfl) ?_
    refine wi_aload_n (i := 0) (x := 236) (nx := 1) (r1 := 0) (r2 := 0) (r3 := 0) rfl rfl ?_
    refine wr_gr (k0 := 236) (x := 238) (nx := 4) (r1 := 11) (r2 := 13) (r3 := 0) rfl rfl (by decide) rfl ⟨rfl, rfl⟩ rfl ?_
    refine wi_bipush (n := 31) (nx := 6) (r1 := 0) (r2 := 0) (r3 := 0) rfl (by decide) ?_
    refine wi_aload_n (i := 0) (x := 236) (nx := 7) (r1 := 0) (r2 := 0) (r3 := 0) rfl rfl ?_
    refine wr_gr (k0 := 236) (x := 238) (nx := 10) (r1 := 11) (r2 := 13) (r3 := 0) rfl rfl (by decide) rfl ⟨rfl, rfl⟩ rfl ?_
    refine wi_bipush (n := 73) (nx := 12) (r1 := 0) (r2 := 0) (r3 := 0) rfl (by decide) ?_
    refine wr_ia (k0 := 238) (a := 73) (f := 73) (x := h 238 73) (nx := 13) (r1 := 0) (r2 := 0) (r3 := 0) rfl (by decide) rfl (by omega) (by omega) (by decide) (u1 238 73 rfl) ?_
    refine wr_add (nx := 14) (r1 := 0) (r2 := 0) (r3 := 0) rfl (fun e16 (fe16 : e16 = 31 + (h 238 73)) => ?_)
    refine wi_iload_n (i := 1) (e := e15) (nx := 15) (r1 := 0) (r2 := 0) (r3 := 0) rfl rfl ?_
    refine wr_add (nx := 16) (r1 := 0) (r2 := 0) (r3 := 0) rfl (fun e17 (fe17 : e17 = e16 + e15) => ?_)
    obtain ⟨i18, ei18⟩ : ∃ q : Nat, e17 = (q : Int) := ⟨(e17).toNat, by omega⟩
    have b19 := gi_b (lo := 0) (hi := 4) g 238 i18 (gi_rg 31 11 (fun _ => rfl) (by decide +kernel) (by omega))
    refine wr_ia (k0 := 238) (a := e17) (f := i18) (x := h 238 i18) (nx := 17) (r1 := 0) (r2 := 0) (r3 := 0) rfl (by decide) rfl (by omega) (by omega) (by decide) (u1 238 i18 (fn_a (by omega) fn_0)) ?_
    refine wi_ireturn (nx := 18) (r1 := 0) (r2 := 0) (r3 := 0) rfl rfl ?_
    refine wk_i ?_
    refine wi_icmp (cd := .eq) (nx := 33) (r1 := 37) (r2 := 0) (r3 := 0) rfl (by omega) (by omega) (fun (q20 : (h 238 i13) = (h 238 i18)) => ?_) (fun (q20 : ¬ ((h 238 i13) = (h 238 i18))) => ?_)
    ·
      refine wi_iconst (n := 0) (nx := 38) (r1 := 0) (r2 := 0) (r3 := 0) rfl ?_
      refine wi_S (rest := [vi x3]) (as := [vi 0]) (nx := 41) (r1 := 207) (r2 := 17) (r3 := 0) rfl rfl rfl (of_decide_eq_true rfl) rfl rfl (of_decide_eq_true rfl) (of_decide_eq_true rfl) ?_
      refine wi_iload_n (i := 0) (e := 0) (nx := 1) (r1 := 0) (r2 := 0) (r3 := 0) rfl rfl ?_
      refine wi_if (cd := .eq) (nx := 4) (r1 := 8) (r2 := 0) (r3 := 0) rfl (by omega) (fun (q21 : 0 = 0) => ?_) (fun (q21 : ¬ (0 = 0)) => by exfalso; omega)
      refine wi_iconst (n := 0) (nx := 9) (r1 := 0) (r2 := 0) (r3 := 0) rfl ?_
      refine wi_ireturn (nx := 10) (r1 := 0) (r2 := 0) (r3 := 0) rfl rfl ?_
      refine wk_i ?_
      refine wr_add (nx := 42) (r1 := 0) (r2 := 0) (r3 := 0) rfl (fun e22 (fe22 : e22 = x3 + 0) => ?_)
      refine wi_istore_n (i := 1) (e := e22) (lo2 := [(1, vi e22), (0, .ref 236), (2, vi x4)]) (nx := 43) (r1 := 0) (r2 := 0) (r3 := 0) rfl rfl ?_
      refine wr_iinc (i := 2) (n := 1) (v := x4) (fun e23 => [(2, vi e23), (1, vi e22), (0, .ref 236)]) (nx := 46) (r1 := 0) (r2 := 0) (r3 := 0) rfl rfl (fun _ => rfl) (fun e23 (fe23 : e23 = x4 + 1) => ?_)
      refine wi_goto (nx := 49) (r1 := 9) (r2 := 0) (r3 := 0) rfl ?_
      refine wp.lo (lo := [(0, .ref 236), (1, vi e22), (2, vi e23)]) ⟨rfl, rfl, rfl, trivial⟩ rfl ?_
      exact I5 e22 e23 h1 ⟨rfl, (show (-2147483648 ≤ e22 ∧ e22 ≤ 2147483647) ∧ (1 ≤ e23 ∧ e23 ≤ 12) by omega)⟩ (show ((12 : Int) + 1 - e23).toNat < ((12 : Int) + 1 - x4).toNat by omega)
    ·
      refine wi_iconst (n := 1) (nx := 34) (r1 := 0) (r2 := 0) (r3 := 0) rfl ?_
      refine wi_goto (nx := 37) (r1 := 38) (r2 := 0) (r3 := 0) rfl ?_
      refine wi_S (rest := [vi x3]) (as := [vi 1]) (nx := 41) (r1 := 207) (r2 := 17) (r3 := 0) rfl rfl rfl (of_decide_eq_true rfl) rfl rfl (of_decide_eq_true rfl) (of_decide_eq_true rfl) ?_
      refine wi_iload_n (i := 0) (e := 1) (nx := 1) (r1 := 0) (r2 := 0) (r3 := 0) rfl rfl ?_
      refine wi_if (cd := .eq) (nx := 4) (r1 := 8) (r2 := 0) (r3 := 0) rfl (by omega) (fun (q21 : 1 = 0) => by exfalso; omega) (fun (q21 : ¬ (1 = 0)) => ?_)
      refine wi_iconst (n := 1) (nx := 5) (r1 := 0) (r2 := 0) (r3 := 0) rfl ?_
      refine wi_goto (nx := 8) (r1 := 9) (r2 := 0) (r3 := 0) rfl ?_
      refine wi_ireturn (nx := 10) (r1 := 0) (r2 := 0) (r3 := 0) rfl rfl ?_
      refine wk_i ?_
      refine wr_addW (nx := 42) (r1 := 0) (r2 := 0) (r3 := 0) rfl (fun e22 (fe22 : -2147483648 ≤ e22 ∧ e22 ≤ 2147483647) => ?_)
      refine wi_istore_n (i := 1) (e := e22) (lo2 := [(1, vi e22), (0, .ref 236), (2, vi x4)]) (nx := 43) (r1 := 0) (r2 := 0) (r3 := 0) rfl rfl ?_
      refine wr_iinc (i := 2) (n := 1) (v := x4) (fun e23 => [(2, vi e23), (1, vi e22), (0, .ref 236)]) (nx := 46) (r1 := 0) (r2 := 0) (r3 := 0) rfl rfl (fun _ => rfl) (fun e23 (fe23 : e23 = x4 + 1) => ?_)
      refine wi_goto (nx := 49) (r1 := 9) (r2 := 0) (r3 := 0) rfl ?_
      refine wp.lo (lo := [(0, .ref 236), (1, vi e22), (2, vi e23)]) ⟨rfl, rfl, rfl, trivial⟩ rfl ?_
      exact I5 e22 e23 h1 ⟨rfl, (show (-2147483648 ≤ e22 ∧ e22 ≤ 2147483647) ∧ (1 ≤ e23 ∧ e23 ≤ 12) by omega)⟩ (show ((12 : Int) + 1 - e23).toNat < ((12 : Int) + 1 - x4).toNat by omega)
-- method 287: Model.waits()I
set_option maxRecDepth 100000 in
set_option maxHeartbeats 100000000 in
theorem ct_287_236 {L : Nat} {xs : Nat → Int32} {d b c : Nat} {h : hp} {cr : Nat → Nat → Option Nat} {Q : hp_Q} (hcr : CR cr)  (g : GI h)   (pp0 : h 238 98 + h 238 99 + h 238 100 + h 238 101 + h 238 102 + h 238 106 = h 238 73) (pp1 : h 238 73 ≤ h 238 2) (pp2 : h 238 119 ≤ h 238 67) (pp3 : h 238 69 ≤ h 238 5) (pp4 : h 238 2 ≤ 12 * h 238 5) (gp0 : GPH h) (k : ∀ (h2 : hp) (z0 : Int) , GI h2 → FR [(236, 236, some (0, 0)), (236, 236, some (22, 22)), (238, 238, some (67, 67)), (242, 242, some (0, 999)), (242, 242, some (1000, 1199))] h h2 → (-1 ≤ z0 ∧ z0 ≤ 9999) → (h2 238 98 + h2 238 99 + h2 238 100 + h2 238 101 + h2 238 102 + h2 238 106 = h2 238 73) → (h2 238 73 ≤ h2 238 2) → (h2 238 119 ≤ h2 238 67) → (h2 238 69 ≤ h2 238 5) → (h2 238 2 ≤ 12 * h2 238 5) → (GPH h2) → Q (.inl (some (vi z0))) (hp_w h2 cr) b c) : wp (md_xa (L, xs)) (d + 1) 287 (0, [(0, .ref 236)], [], hp_w h cr, b, c) Q := by
  have F0 : FR [(236, 236, some (0, 0)), (236, 236, some (22, 22)), (238, 238, some (67, 67)), (242, 242, some (0, 999)), (242, 242, some (1000, 1199))] h h := FR.refl
  have b1 := gi_b (lo := 0) (hi := 6) g 238 98 rfl
  have b2 := gi_b (lo := 0) (hi := 6) g 238 99 rfl
  have b3 := gi_b (lo := 0) (hi := 6) g 238 100 rfl
  have b4 := gi_b (lo := 0) (hi := 6) g 238 101 rfl
  have b5 := gi_b (lo := 0) (hi := 3) g 238 102 rfl
  have b6 := gi_b (lo := 0) (hi := 12) g 238 106 rfl
  have b7 := gi_b (lo := 0) (hi := 12) g 238 73 rfl
  have b8 := gi_b (lo := 0) (hi := 12) g 238 2 rfl
  have b9 := gi_b (lo := 0) (hi := 9999) g 238 119 rfl
  have b10 := gi_b (lo := 0) (hi := 9999) g 238 67 rfl
  have b11 := gi_b (lo := 0) (hi := 9) g 238 69 rfl
  have b12 := gi_b (lo := 0) (hi := 9) g 238 5 rfl
  refine wi_aload_n (i := 0) (x := 236) (nx := 1) (r1 := 0) (r2 := 0) (r3 := 0) rfl rfl ?_
  refine wi_iconst (n := 0) (nx := 2) (r1 := 0) (r2 := 0) (r3 := 0) rfl ?_
  refine wr_pf0 (k0 := 236) (x := 0) (bl := 0) (bh := 2) (nx := 5) (r1 := 11) (r2 := 0) (r3 := 0) rfl (by decide) rfl ⟨rfl, rfl⟩ rfl rfl g rfl (by omega) (fun h13 g13 w13 u13 => ?_)
  have F14 := F0.then rfl u13
  refine wi_aload_n (i := 0) (x := 236) (nx := 6) (r1 := 0) (r2 := 0) (r3 := 0) rfl rfl ?_
  refine wr_gr (k0 := 236) (x := 238) (nx := 9) (r1 := 11) (r2 := 13) (r3 := 0) rfl rfl (by decide) rfl ⟨rfl, rfl⟩ rfl ?_
  refine wi_bipush (n := 67) (nx := 11) (r1 := 0) (r2 := 0) (r3 := 0) rfl (by decide) ?_
  refine wr_ia (k0 := 238) (a := 67) (f := 67) (x := h 238 67) (nx := 12) (r1 := 0) (r2 := 0) (r3 := 0) rfl (by decide) rfl (by omega) (by omega) (by decide) (u13 238 67 rfl) ?_
  refine wi_sipush (n := 9999) (nx := 15) (r1 := 0) (r2 := 0) (r3 := 0) rfl (by decide) ?_
  refine wi_icmp (cd := .ne) (nx := 18) (r1 := 20) (r2 := 0) (r3 := 0) rfl (by omega) (by omega) (fun (q15 : (h 238 67) ≠ 9999) => ?_) (fun (q15 : ¬ ((h 238 67) ≠ 9999)) => ?_)
  ·
    refine wi_aload_n (i := 0) (x := 236) (nx := 21) (r1 := 0) (r2 := 0) (r3 := 0) rfl rfl ?_
    refine wr_V (k0 := 236) (rest := []) (as := [.ref 236]) (nx := 24) (r1 := 278) (r2 := 0) (r3 := 11) rfl rfl rfl (of_decide_eq_true rfl) rfl rfl (by decide) rfl rfl (of_decide_eq_true rfl) (of_decide_eq_true rfl) ?_
    have e17 : h13 238 98 = h 238 98 := (u13 238 98 rfl)
    have e18 : h13 238 99 = h 238 99 := (u13 238 99 rfl)
    have e19 : h13 238 100 = h 238 100 := (u13 238 100 rfl)
    have e20 : h13 238 101 = h 238 101 := (u13 238 101 rfl)
    have e21 : h13 238 102 = h 238 102 := (u13 238 102 rfl)
    have e22 : h13 238 106 = h 238 106 := (u13 238 106 rfl)
    have e23 : h13 238 73 = h 238 73 := (u13 238 73 rfl)
    have e24 : h13 238 2 = h 238 2 := (u13 238 2 rfl)
    have e25 : h13 238 119 = h 238 119 := (u13 238 119 rfl)
    have e26 : h13 238 67 = h 238 67 := (u13 238 67 rfl)
    have e27 : h13 238 69 = h 238 69 := (u13 238 69 rfl)
    have e28 : h13 238 5 = h 238 5 := (u13 238 5 rfl)
    have gp29 := GPH.fr u13 rfl gp0
    refine ct_278_236 hcr  g13   (show (h13 238 98) + (h13 238 99) + (h13 238 100) + (h13 238 101) + (h13 238 102) + (h13 238 106) = (h13 238 73) by omega) (show (h13 238 73) ≤ (h13 238 2) by omega) (show (h13 238 119) ≤ (h13 238 67) by omega) (show (h13 238 69) ≤ (h13 238 5) by omega) (show (h13 238 2) ≤ 12 * (h13 238 5) by omega) gp29 (fun h16 g16 u16 (p16_0 : 1 ≤ (h16 236 22)) y16_0 => ?_)
    have F30 := F14.then (by decide +kernel) u16
    have b31 := gi_b (lo := 0) (hi := 6) g16 236 22 rfl
    refine wk_n ?_
    refine wi_aload_n (i := 0) (x := 236) (nx := 25) (r1 := 0) (r2 := 0) (r3 := 0) rfl rfl ?_
    refine wr_gr (k0 := 236) (x := 238) (nx := 28) (r1 := 11) (r2 := 13) (r3 := 0) rfl rfl (by decide) rfl ⟨rfl, rfl⟩ rfl ?_
    refine wi_bipush (n := 67) (nx := 30) (r1 := 0) (r2 := 0) (r3 := 0) rfl (by decide) ?_
    refine wi_dup2 (nx := 31) (r1 := 0) (r2 := 0) (r3 := 0) rfl rfl rfl ?_
    refine wr_ia (k0 := 238) (a := 67) (f := 67) (x := h 238 67) (nx := 32) (r1 := 0) (r2 := 0) (r3 := 0) rfl (by decide) rfl (by omega) (by omega) (by decide) ((u16 238 67 rfl).trans (u13 238 67 rfl)) ?_
    refine wi_iconst (n := 1) (nx := 33) (r1 := 0) (r2 := 0) (r3 := 0) rfl ?_
    refine wr_add (nx := 34) (r1 := 0) (r2 := 0) (r3 := 0) rfl (fun e32 (fe32 : e32 = (h 238 67) + 1) => ?_)
    refine wr_is (k0 := 238) (a := 67) (f := 67) (x := e32) (bl := 0) (bh := 9999) (nx := 35) (r1 := 0) (r2 := 0) (r3 := 0) rfl (by decide) rfl (by omega) (by omega) (by decide) g16 rfl (by omega) (fun h33 g33 w33 u33 => ?_)
    have F34 := F30.then rfl u33
    refine wi_aload_n (i := 0) (x := 236) (nx := 36) (r1 := 0) (r2 := 0) (r3 := 0) rfl rfl ?_
    refine wr_gr (k0 := 236) (x := 238) (nx := 39) (r1 := 11) (r2 := 13) (r3 := 0) rfl rfl (by decide) rfl ⟨rfl, rfl⟩ rfl ?_
    refine wi_bipush (n := 67) (nx := 41) (r1 := 0) (r2 := 0) (r3 := 0) rfl (by decide) ?_
    refine wr_ia (k0 := 238) (a := 67) (f := 67) (x := e32) (nx := 42) (r1 := 0) (r2 := 0) (r3 := 0) rfl (by decide) rfl (by omega) (by omega) (by decide) w33 ?_
    refine wi_ireturn (nx := 43) (r1 := 0) (r2 := 0) (r3 := 0) rfl rfl ?_
    have e35 : h33 238 98 = h 238 98 := ((u33 238 98 rfl).trans ((u16 238 98 rfl).trans (u13 238 98 rfl)))
    have e36 : h33 238 99 = h 238 99 := ((u33 238 99 rfl).trans ((u16 238 99 rfl).trans (u13 238 99 rfl)))
    have e37 : h33 238 100 = h 238 100 := ((u33 238 100 rfl).trans ((u16 238 100 rfl).trans (u13 238 100 rfl)))
    have e38 : h33 238 101 = h 238 101 := ((u33 238 101 rfl).trans ((u16 238 101 rfl).trans (u13 238 101 rfl)))
    have e39 : h33 238 102 = h 238 102 := ((u33 238 102 rfl).trans ((u16 238 102 rfl).trans (u13 238 102 rfl)))
    have e40 : h33 238 106 = h 238 106 := ((u33 238 106 rfl).trans ((u16 238 106 rfl).trans (u13 238 106 rfl)))
    have e41 : h33 238 73 = h 238 73 := ((u33 238 73 rfl).trans ((u16 238 73 rfl).trans (u13 238 73 rfl)))
    have e42 : h33 238 2 = h 238 2 := ((u33 238 2 rfl).trans ((u16 238 2 rfl).trans (u13 238 2 rfl)))
    have e43 : h33 238 119 = h 238 119 := ((u33 238 119 rfl).trans ((u16 238 119 rfl).trans (u13 238 119 rfl)))
    have e44 : h33 238 67 = e32 := w33
    have e45 : h33 238 69 = h 238 69 := ((u33 238 69 rfl).trans ((u16 238 69 rfl).trans (u13 238 69 rfl)))
    have e46 : h33 238 5 = h 238 5 := ((u33 238 5 rfl).trans ((u16 238 5 rfl).trans (u13 238 5 rfl)))
    have gp47 := GPH.fr u33 rfl y16_0
    exact k h33 e32 g33 F34 (by omega) (show (h33 238 98) + (h33 238 99) + (h33 238 100) + (h33 238 101) + (h33 238 102) + (h33 238 106) = (h33 238 73) by omega) (show (h33 238 73) ≤ (h33 238 2) by omega) (show (h33 238 119) ≤ (h33 238 67) by omega) (show (h33 238 69) ≤ (h33 238 5) by omega) (show (h33 238 2) ≤ 12 * (h33 238 5) by omega) gp47
  ·
    refine wi_iconst (n := (-1)) (nx := 19) (r1 := 0) (r2 := 0) (r3 := 0) rfl ?_
    refine wi_ireturn (nx := 20) (r1 := 0) (r2 := 0) (r3 := 0) rfl rfl ?_
    have e16 : h13 238 98 = h 238 98 := (u13 238 98 rfl)
    have e17 : h13 238 99 = h 238 99 := (u13 238 99 rfl)
    have e18 : h13 238 100 = h 238 100 := (u13 238 100 rfl)
    have e19 : h13 238 101 = h 238 101 := (u13 238 101 rfl)
    have e20 : h13 238 102 = h 238 102 := (u13 238 102 rfl)
    have e21 : h13 238 106 = h 238 106 := (u13 238 106 rfl)
    have e22 : h13 238 73 = h 238 73 := (u13 238 73 rfl)
    have e23 : h13 238 2 = h 238 2 := (u13 238 2 rfl)
    have e24 : h13 238 119 = h 238 119 := (u13 238 119 rfl)
    have e25 : h13 238 67 = h 238 67 := (u13 238 67 rfl)
    have e26 : h13 238 69 = h 238 69 := (u13 238 69 rfl)
    have e27 : h13 238 5 = h 238 5 := (u13 238 5 rfl)
    have gp28 := GPH.fr u13 rfl gp0
    exact k h13 (-1) g13 F14 (by omega) (show (h13 238 98) + (h13 238 99) + (h13 238 100) + (h13 238 101) + (h13 238 102) + (h13 238 106) = (h13 238 73) by omega) (show (h13 238 73) ≤ (h13 238 2) by omega) (show (h13 238 119) ≤ (h13 238 67) by omega) (show (h13 238 69) ≤ (h13 238 5) by omega) (show (h13 238 2) ≤ 12 * (h13 238 5) by omega) gp28
-- method 251: Model.where(I)I
set_option maxRecDepth 100000 in
set_option maxHeartbeats 100000000 in
theorem ct_251_236 {L : Nat} {xs : Nat → Int32} {d b c : Nat} {h : hp} {cr : Nat → Nat → Option Nat} {Q : hp_Q} (hcr : CR cr)  (g : GI h) (a0 : Int) (q0_ : -2147483648 ≤ a0 ∧ a0 ≤ 2147483647)  (k : ∀ (h2 : hp) (z0 : Int) , GI h2 → FR [(236, 236, some (0, 0))] h h2 → (0 ≤ z0 ∧ z0 ≤ 3) → Q (.inl (some (vi z0))) (hp_w h2 cr) b c) : wp (md_xa (L, xs)) (d + 3) 251 (0, [(0, .ref 236), (1, vi a0)], [], hp_w h cr, b, c) Q := by
  have F0 : FR [(236, 236, some (0, 0))] h h := FR.refl
  refine wi_aload_n (i := 0) (x := 236) (nx := 1) (r1 := 0) (r2 := 0) (r3 := 0) rfl rfl ?_
  refine wi_aload_n (i := 0) (x := 236) (nx := 2) (r1 := 0) (r2 := 0) (r3 := 0) rfl rfl ?_
  refine wi_iload_n (i := 1) (e := a0) (nx := 3) (r1 := 0) (r2 := 0) (r3 := 0) rfl rfl ?_
  refine wr_V (k0 := 236) (rest := [.ref 236]) (as := [.ref 236, vi a0]) (nx := 6) (r1 := 244) (r2 := 1) (r3 := 11) rfl rfl rfl (of_decide_eq_true rfl) rfl rfl (by decide) rfl rfl (of_decide_eq_true rfl) (of_decide_eq_true rfl) ?_
  refine wi_iload_n (i := 1) (e := a0) (nx := 1) (r1 := 0) (r2 := 0) (r3 := 0) rfl rfl ?_
  refine wi_i2l (nx := 2) (r1 := 0) (r2 := 0) (r3 := 0) rfl (by omega) ?_
  refine wi_lconst (n := 0) (e := 0) (nx := 3) (r1 := 0) (r2 := 0) (r3 := 0) rfl (by decide) ?_
  refine wi_aload_n (i := 0) (x := 236) (nx := 4) (r1 := 0) (r2 := 0) (r3 := 0) rfl rfl ?_
  refine wr_gr (k0 := 236) (x := 238) (nx := 7) (r1 := 11) (r2 := 13) (r3 := 0) rfl rfl (by decide) rfl ⟨rfl, rfl⟩ rfl ?_
  refine wi_iconst (n := 2) (nx := 8) (r1 := 0) (r2 := 0) (r3 := 0) rfl ?_
  have b1 := gi_b (lo := 0) (hi := 12) g 238 2 rfl
  refine wr_ia (k0 := 238) (a := 2) (f := 2) (x := h 238 2) (nx := 9) (r1 := 0) (r2 := 0) (r3 := 0) rfl (by decide) rfl (by omega) (by omega) (by decide) rfl ?_
  refine wi_iconst (n := 1) (nx := 10) (r1 := 0) (r2 := 0) (r3 := 0) rfl ?_
  refine wr_sub (nx := 11) (r1 := 0) (r2 := 0) (r3 := 0) rfl (fun e2 (fe2 : e2 = (h 238 2) - 1) => ?_)
  refine wi_i2l (nx := 12) (r1 := 0) (r2 := 0) (r3 := 0) rfl (by omega) ?_
  refine wi_S (rest := []) (as := [vl a0, vl 0, vl e2]) (nx := 15) (r1 := 210) (r2 := 19) (r3 := 0) rfl rfl rfl (of_decide_eq_true rfl) rfl rfl (of_decide_eq_true rfl) (of_decide_eq_true rfl) ?_
  refine wi_lload_n (i := 0) (e := a0) (nx := 1) (r1 := 0) (r2 := 0) (r3 := 0) rfl rfl ?_
  refine wi_lload_n (i := 2) (e := 0) (nx := 2) (r1 := 0) (r2 := 0) (r3 := 0) rfl rfl ?_
  refine wi_lcmp (a := a0) (e := 0) (nx := 3) (r1 := 0) (r2 := 0) (r3 := 0) rfl (by omega) (by omega) (fun r3 (fr3 : (r3 = -1 ∧ a0 < 0) ∨ (r3 = 0 ∧ a0 = 0) ∨ (r3 = 1 ∧ 0 < a0)) => ?_)
  refine wi_if (cd := .lt) (nx := 6) (r1 := 17) (r2 := 0) (r3 := 0) rfl (by omega) (fun (q4 : r3 < 0) => ?_) (fun (q4 : ¬ (r3 < 0)) => ?_)
  ·
    refine wi_iconst (n := 0) (nx := 18) (r1 := 0) (r2 := 0) (r3 := 0) rfl ?_
    refine wi_zreturn (nx := 19) (r1 := 0) (r2 := 0) (r3 := 0) rfl rfl (by omega) ?_
    refine wk_i ?_
    refine wi_zreturn (nx := 16) (r1 := 0) (r2 := 0) (r3 := 0) rfl rfl (by omega) ?_
    refine wk_i ?_
    refine wr_V (k0 := 236) (rest := []) (as := [.ref 236, vi 0]) (nx := 9) (r1 := 206) (r2 := 1) (r3 := 11) rfl rfl rfl (of_decide_eq_true rfl) rfl rfl (by decide) rfl rfl (of_decide_eq_true rfl) (of_decide_eq_true rfl) ?_
    refine wi_aload_n (i := 0) (x := 236) (nx := 1) (r1 := 0) (r2 := 0) (r3 := 0) rfl rfl ?_
    refine wi_iload_n (i := 1) (e := 0) (nx := 2) (r1 := 0) (r2 := 0) (r3 := 0) rfl rfl ?_
    refine wi_if (cd := .ne) (nx := 5) (r1 := 9) (r2 := 0) (r3 := 0) rfl (by omega) (fun (q5 : 0 ≠ 0) => by exfalso; omega) (fun (q5 : ¬ (0 ≠ 0)) => ?_)
    refine wi_iconst (n := 1) (nx := 6) (r1 := 0) (r2 := 0) (r3 := 0) rfl ?_
    refine wi_goto (nx := 9) (r1 := 10) (r2 := 0) (r3 := 0) rfl ?_
    refine wi_S (rest := [.ref 236]) (as := [vi 1]) (nx := 13) (r1 := 207) (r2 := 17) (r3 := 0) rfl rfl rfl (of_decide_eq_true rfl) rfl rfl (of_decide_eq_true rfl) (of_decide_eq_true rfl) ?_
    refine wi_iload_n (i := 0) (e := 1) (nx := 1) (r1 := 0) (r2 := 0) (r3 := 0) rfl rfl ?_
    refine wi_if (cd := .eq) (nx := 4) (r1 := 8) (r2 := 0) (r3 := 0) rfl (by omega) (fun (q6 : 1 = 0) => by exfalso; omega) (fun (q6 : ¬ (1 = 0)) => ?_)
    refine wi_iconst (n := 1) (nx := 5) (r1 := 0) (r2 := 0) (r3 := 0) rfl ?_
    refine wi_goto (nx := 8) (r1 := 9) (r2 := 0) (r3 := 0) rfl ?_
    refine wi_ireturn (nx := 10) (r1 := 0) (r2 := 0) (r3 := 0) rfl rfl ?_
    refine wk_i ?_
    refine wr_pf0 (k0 := 236) (x := 1) (bl := 0) (bh := 2) (nx := 16) (r1 := 11) (r2 := 0) (r3 := 0) rfl (by decide) rfl ⟨rfl, rfl⟩ rfl rfl g rfl (by omega) (fun h7 g7 w7 u7 => ?_)
    have F8 := F0.then rfl u7
    refine wi_iload_n (i := 1) (e := 0) (nx := 17) (r1 := 0) (r2 := 0) (r3 := 0) rfl rfl ?_
    refine wi_zreturn (nx := 18) (r1 := 0) (r2 := 0) (r3 := 0) rfl rfl (by omega) ?_
    refine wk_i ?_
    refine wi_if (cd := .eq) (nx := 12) (r1 := 20) (r2 := 0) (r3 := 0) rfl (by omega) (fun (q9 : 0 = 0) => ?_) (fun (q9 : ¬ (0 = 0)) => by exfalso; omega)
    refine wi_iconst (n := 0) (nx := 21) (r1 := 0) (r2 := 0) (r3 := 0) rfl ?_
    refine wi_ireturn (nx := 22) (r1 := 0) (r2 := 0) (r3 := 0) rfl rfl ?_
    exact k h7 0 g7 F8 (by omega)
  ·
    refine wi_lload_n (i := 0) (e := a0) (nx := 7) (r1 := 0) (r2 := 0) (r3 := 0) rfl rfl ?_
    refine wi_lload (i := 4) (e := e2) (nx := 9) (r1 := 0) (r2 := 0) (r3 := 0) rfl rfl ?_
    refine wi_lcmp (a := a0) (e := e2) (nx := 10) (r1 := 0) (r2 := 0) (r3 := 0) rfl (by omega) (by omega) (fun r5 (fr5 : (r5 = -1 ∧ a0 < e2) ∨ (r5 = 0 ∧ a0 = e2) ∨ (r5 = 1 ∧ e2 < a0)) => ?_)
    refine wi_if (cd := .gt) (nx := 13) (r1 := 17) (r2 := 0) (r3 := 0) rfl (by omega) (fun (q6 : 0 < r5) => ?_) (fun (q6 : ¬ (0 < r5)) => ?_)
    ·
      refine wi_iconst (n := 0) (nx := 18) (r1 := 0) (r2 := 0) (r3 := 0) rfl ?_
      refine wi_zreturn (nx := 19) (r1 := 0) (r2 := 0) (r3 := 0) rfl rfl (by omega) ?_
      refine wk_i ?_
      refine wi_zreturn (nx := 16) (r1 := 0) (r2 := 0) (r3 := 0) rfl rfl (by omega) ?_
      refine wk_i ?_
      refine wr_V (k0 := 236) (rest := []) (as := [.ref 236, vi 0]) (nx := 9) (r1 := 206) (r2 := 1) (r3 := 11) rfl rfl rfl (of_decide_eq_true rfl) rfl rfl (by decide) rfl rfl (of_decide_eq_true rfl) (of_decide_eq_true rfl) ?_
      refine wi_aload_n (i := 0) (x := 236) (nx := 1) (r1 := 0) (r2 := 0) (r3 := 0) rfl rfl ?_
      refine wi_iload_n (i := 1) (e := 0) (nx := 2) (r1 := 0) (r2 := 0) (r3 := 0) rfl rfl ?_
      refine wi_if (cd := .ne) (nx := 5) (r1 := 9) (r2 := 0) (r3 := 0) rfl (by omega) (fun (q7 : 0 ≠ 0) => by exfalso; omega) (fun (q7 : ¬ (0 ≠ 0)) => ?_)
      refine wi_iconst (n := 1) (nx := 6) (r1 := 0) (r2 := 0) (r3 := 0) rfl ?_
      refine wi_goto (nx := 9) (r1 := 10) (r2 := 0) (r3 := 0) rfl ?_
      refine wi_S (rest := [.ref 236]) (as := [vi 1]) (nx := 13) (r1 := 207) (r2 := 17) (r3 := 0) rfl rfl rfl (of_decide_eq_true rfl) rfl rfl (of_decide_eq_true rfl) (of_decide_eq_true rfl) ?_
      refine wi_iload_n (i := 0) (e := 1) (nx := 1) (r1 := 0) (r2 := 0) (r3 := 0) rfl rfl ?_
      refine wi_if (cd := .eq) (nx := 4) (r1 := 8) (r2 := 0) (r3 := 0) rfl (by omega) (fun (q8 : 1 = 0) => by exfalso; omega) (fun (q8 : ¬ (1 = 0)) => ?_)
      refine wi_iconst (n := 1) (nx := 5) (r1 := 0) (r2 := 0) (r3 := 0) rfl ?_
      refine wi_goto (nx := 8) (r1 := 9) (r2 := 0) (r3 := 0) rfl ?_
      refine wi_ireturn (nx := 10) (r1 := 0) (r2 := 0) (r3 := 0) rfl rfl ?_
      refine wk_i ?_
      refine wr_pf0 (k0 := 236) (x := 1) (bl := 0) (bh := 2) (nx := 16) (r1 := 11) (r2 := 0) (r3 := 0) rfl (by decide) rfl ⟨rfl, rfl⟩ rfl rfl g rfl (by omega) (fun h9 g9 w9 u9 => ?_)
      have F10 := F0.then rfl u9
      refine wi_iload_n (i := 1) (e := 0) (nx := 17) (r1 := 0) (r2 := 0) (r3 := 0) rfl rfl ?_
      refine wi_zreturn (nx := 18) (r1 := 0) (r2 := 0) (r3 := 0) rfl rfl (by omega) ?_
      refine wk_i ?_
      refine wi_if (cd := .eq) (nx := 12) (r1 := 20) (r2 := 0) (r3 := 0) rfl (by omega) (fun (q11 : 0 = 0) => ?_) (fun (q11 : ¬ (0 = 0)) => by exfalso; omega)
      refine wi_iconst (n := 0) (nx := 21) (r1 := 0) (r2 := 0) (r3 := 0) rfl ?_
      refine wi_ireturn (nx := 22) (r1 := 0) (r2 := 0) (r3 := 0) rfl rfl ?_
      exact k h9 0 g9 F10 (by omega)
    ·
      refine wi_iconst (n := 1) (nx := 14) (r1 := 0) (r2 := 0) (r3 := 0) rfl ?_
      refine wi_goto (nx := 17) (r1 := 18) (r2 := 0) (r3 := 0) rfl ?_
      refine wi_zreturn (nx := 19) (r1 := 0) (r2 := 0) (r3 := 0) rfl rfl (by omega) ?_
      refine wk_i ?_
      refine wi_zreturn (nx := 16) (r1 := 0) (r2 := 0) (r3 := 0) rfl rfl (by omega) ?_
      refine wk_i ?_
      refine wr_V (k0 := 236) (rest := []) (as := [.ref 236, vi 1]) (nx := 9) (r1 := 206) (r2 := 1) (r3 := 11) rfl rfl rfl (of_decide_eq_true rfl) rfl rfl (by decide) rfl rfl (of_decide_eq_true rfl) (of_decide_eq_true rfl) ?_
      refine wi_aload_n (i := 0) (x := 236) (nx := 1) (r1 := 0) (r2 := 0) (r3 := 0) rfl rfl ?_
      refine wi_iload_n (i := 1) (e := 1) (nx := 2) (r1 := 0) (r2 := 0) (r3 := 0) rfl rfl ?_
      refine wi_if (cd := .ne) (nx := 5) (r1 := 9) (r2 := 0) (r3 := 0) rfl (by omega) (fun (q7 : 1 ≠ 0) => ?_) (fun (q7 : ¬ (1 ≠ 0)) => by exfalso; omega)
      refine wi_iconst (n := 0) (nx := 10) (r1 := 0) (r2 := 0) (r3 := 0) rfl ?_
      refine wi_S (rest := [.ref 236]) (as := [vi 0]) (nx := 13) (r1 := 207) (r2 := 17) (r3 := 0) rfl rfl rfl (of_decide_eq_true rfl) rfl rfl (of_decide_eq_true rfl) (of_decide_eq_true rfl) ?_
      refine wi_iload_n (i := 0) (e := 0) (nx := 1) (r1 := 0) (r2 := 0) (r3 := 0) rfl rfl ?_
      refine wi_if (cd := .eq) (nx := 4) (r1 := 8) (r2 := 0) (r3 := 0) rfl (by omega) (fun (q8 : 0 = 0) => ?_) (fun (q8 : ¬ (0 = 0)) => by exfalso; omega)
      refine wi_iconst (n := 0) (nx := 9) (r1 := 0) (r2 := 0) (r3 := 0) rfl ?_
      refine wi_ireturn (nx := 10) (r1 := 0) (r2 := 0) (r3 := 0) rfl rfl ?_
      refine wk_i ?_
      refine wr_pf0 (k0 := 236) (x := 0) (bl := 0) (bh := 2) (nx := 16) (r1 := 11) (r2 := 0) (r3 := 0) rfl (by decide) rfl ⟨rfl, rfl⟩ rfl rfl g rfl (by omega) (fun h9 g9 w9 u9 => ?_)
      have F10 := F0.then rfl u9
      refine wi_iload_n (i := 1) (e := 1) (nx := 17) (r1 := 0) (r2 := 0) (r3 := 0) rfl rfl ?_
      refine wi_zreturn (nx := 18) (r1 := 0) (r2 := 0) (r3 := 0) rfl rfl (by omega) ?_
      refine wk_i ?_
      refine wi_if (cd := .eq) (nx := 12) (r1 := 20) (r2 := 0) (r3 := 0) rfl (by omega) (fun (q11 : 1 = 0) => by exfalso; omega) (fun (q11 : ¬ (1 = 0)) => ?_)
      refine wi_aload_n (i := 0) (x := 236) (nx := 13) (r1 := 0) (r2 := 0) (r3 := 0) rfl rfl ?_
      refine wi_iload_n (i := 1) (e := a0) (nx := 14) (r1 := 0) (r2 := 0) (r3 := 0) rfl rfl ?_
      refine wr_V (k0 := 236) (rest := []) (as := [.ref 236, vi a0]) (nx := 17) (r1 := 252) (r2 := 1) (r3 := 11) rfl rfl rfl (of_decide_eq_true rfl) rfl rfl (by decide) rfl rfl (of_decide_eq_true rfl) (of_decide_eq_true rfl) ?_
      refine ct_252_236 hcr  g9 a0 (by omega)  (fun z13  (fz13 : 0 ≤ z13 ∧ z13 ≤ 3) => ?_)
      refine wk_i ?_
      refine wi_goto (nx := 20) (r1 := 21) (r2 := 0) (r3 := 0) rfl ?_
      refine wi_ireturn (nx := 22) (r1 := 0) (r2 := 0) (r3 := 0) rfl rfl ?_
      exact k h9 z13 g9 F10 (by omega)
