-- method 284: Model.back(I)I
set_option maxHeartbeats 100000000 in
theorem ct_284_236 {L : Nat} {xs : Nat → Int32} {d b c : Nat} {h : hp} {cr : Nat → Nat → Option Nat} {Q : hp_Q} (hcr : CR cr)  (g : GI h) (a0 : Int) (q0_ : -2147483648 ≤ a0 ∧ a0 ≤ 2147483647) (pp0 : h 238 98 + h 238 99 + h 238 100 + h 238 101 + h 238 102 + h 238 106 = h 238 73) (pp1 : h 238 73 ≤ h 238 2) (pp2 : h 238 119 ≤ h 238 67) (pp3 : h 238 69 ≤ h 238 5) (pp4 : h 238 2 ≤ 12 * h 238 5) (gp0 : GPH h) (k : ∀ (h2 : hp) (z0 : Int) , GI h2 → FR [(236, 236, some (0, 0)), (236, 236, some (22, 22)), (238, 238, some (74, 79)), (238, 238, some (80, 85)), (238, 238, some (86, 91)), (238, 238, some (92, 97)), (238, 238, some (98, 98)), (238, 238, some (99, 99)), (238, 238, some (100, 100)), (238, 238, some (101, 101)), (238, 238, some (102, 102)), (238, 238, some (103, 104)), (242, 242, some (0, 999)), (242, 242, some (1000, 1199))] h h2 → (-1 ≤ z0 ∧ z0 ≤ 11) → (h2 238 98 + h2 238 99 + h2 238 100 + h2 238 101 + h2 238 102 + h2 238 106 = h2 238 73) → (h2 238 73 ≤ h2 238 2) → (h2 238 119 ≤ h2 238 67) → (h2 238 69 ≤ h2 238 5) → (h2 238 2 ≤ 12 * h2 238 5) → (GPH h2) → Q (.inl (some (vi z0))) (hp_w h2 cr) b c) : wp (md_xa (L, xs)) (d + 2) 284 (0, [(0, .ref 236), (1, vi a0)], [], hp_w h cr, b, c) Q := by
  have F0 : FR [(236, 236, some (0, 0)), (236, 236, some (22, 22)), (238, 238, some (74, 79)), (238, 238, some (80, 85)), (238, 238, some (86, 91)), (238, 238, some (92, 97)), (238, 238, some (98, 98)), (238, 238, some (99, 99)), (238, 238, some (100, 100)), (238, 238, some (101, 101)), (238, 238, some (102, 102)), (238, 238, some (103, 104)), (242, 242, some (0, 999)), (242, 242, some (1000, 1199))] h h := FR.refl
  have b1 := gi_b (lo := 0) (hi := 6) g 238 98 rfl
  have b2 := gi_b (lo := 0) (hi := 6) g 238 99 rfl
  have b3 := gi_b (lo := 0) (hi := 6) g 238 100 rfl
  have b4 := gi_b (lo := 0) (hi := 6) g 238 101 rfl
  have b5 := gi_b (lo := 0) (hi := 3) g 238 102 rfl
  have b6 := gi_b (lo := 0) (hi := 12) g 238 106 rfl
  have b7 := gi_b (lo := 0) (hi := 12) g 238 73 rfl
  have b8 := gi_b (lo := 0) (hi := 12) g 238 2 rfl
  have b9 := gi_b (lo := 0) (hi := 9999) g 238 119 rfl
  have b10 := gi_b (lo := 0) (hi := 9999) g 238 67 rfl
  have b11 := gi_b (lo := 0) (hi := 9) g 238 69 rfl
  have b12 := gi_b (lo := 0) (hi := 9) g 238 5 rfl
  refine wi_aload_n (i := 0) (x := 236) (nx := 1) (r1 := 0) (r2 := 0) (r3 := 0) rfl rfl ?_
  refine wi_aload_n (i := 0) (x := 236) (nx := 2) (r1 := 0) (r2 := 0) (r3 := 0) rfl rfl ?_
  refine wi_iload_n (i := 1) (e := a0) (nx := 3) (r1 := 0) (r2 := 0) (r3 := 0) rfl rfl ?_
  refine wr_V (k0 := 236) (rest := [.ref 236]) (as := [.ref 236, vi a0]) (nx := 6) (r1 := 242) (r2 := 1) (r3 := 11) rfl rfl rfl (of_decide_eq_true rfl) rfl rfl (by decide) rfl rfl (of_decide_eq_true rfl) (of_decide_eq_true rfl) ?_
  refine wi_iload_n (i := 1) (e := a0) (nx := 1) (r1 := 0) (r2 := 0) (r3 := 0) rfl rfl ?_
  refine wi_i2l (nx := 2) (r1 := 0) (r2 := 0) (r3 := 0) rfl (by omega) ?_
  refine wi_lconst (n := 0) (e := 0) (nx := 3) (r1 := 0) (r2 := 0) (r3 := 0) rfl (by decide) ?_
  refine wi_aload_n (i := 0) (x := 236) (nx := 4) (r1 := 0) (r2 := 0) (r3 := 0) rfl rfl ?_
  refine wr_gr (k0 := 236) (x := 238) (nx := 7) (r1 := 11) (r2 := 13) (r3 := 0) rfl rfl (by decide) rfl ⟨rfl, rfl⟩ rfl ?_
  refine wi_iconst (n := 1) (nx := 8) (r1 := 0) (r2 := 0) (r3 := 0) rfl ?_
  have b13 := gi_b (lo := 0) (hi := 4) g 238 1 rfl
  refine wr_ia (k0 := 238) (a := 1) (f := 1) (x := h 238 1) (nx := 9) (r1 := 0) (r2 := 0) (r3 := 0) rfl (by decide) rfl (by omega) (by omega) (by decide) rfl ?_
  refine wi_iconst (n := 1) (nx := 10) (r1 := 0) (r2 := 0) (r3 := 0) rfl ?_
  refine wr_sub (nx := 11) (r1 := 0) (r2 := 0) (r3 := 0) rfl (fun e14 (fe14 : e14 = (h 238 1) - 1) => ?_)
  refine wi_i2l (nx := 12) (r1 := 0) (r2 := 0) (r3 := 0) rfl (by omega) ?_
  refine wi_S (rest := []) (as := [vl a0, vl 0, vl e14]) (nx := 15) (r1 := 210) (r2 := 19) (r3 := 0) rfl rfl rfl (of_decide_eq_true rfl) rfl rfl (of_decide_eq_true rfl) (of_decide_eq_true rfl) ?_
  refine wi_lload_n (i := 0) (e := a0) (nx := 1) (r1 := 0) (r2 := 0) (r3 := 0) rfl rfl ?_
  refine wi_lload_n (i := 2) (e := 0) (nx := 2) (r1 := 0) (r2 := 0) (r3 := 0) rfl rfl ?_
  refine wi_lcmp (a := a0) (e := 0) (nx := 3) (r1 := 0) (r2 := 0) (r3 := 0) rfl (by omega) (by omega) (fun r15 (fr15 : (r15 = -1 ∧ a0 < 0) ∨ (r15 = 0 ∧ a0 = 0) ∨ (r15 = 1 ∧ 0 < a0)) => ?_)
  refine wi_if (cd := .lt) (nx := 6) (r1 := 17) (r2 := 0) (r3 := 0) rfl (by omega) (fun (q16 : r15 < 0) => ?_) (fun (q16 : ¬ (r15 < 0)) => ?_)
  ·
    refine wi_iconst (n := 0) (nx := 18) (r1 := 0) (r2 := 0) (r3 := 0) rfl ?_
    refine wi_zreturn (nx := 19) (r1 := 0) (r2 := 0) (r3 := 0) rfl rfl (by omega) ?_
    refine wk_i ?_
    refine wi_zreturn (nx := 16) (r1 := 0) (r2 := 0) (r3 := 0) rfl rfl (by omega) ?_
    refine wk_i ?_
    refine wr_V (k0 := 236) (rest := []) (as := [.ref 236, vi 0]) (nx := 9) (r1 := 206) (r2 := 1) (r3 := 11) rfl rfl rfl (of_decide_eq_true rfl) rfl rfl (by decide) rfl rfl (of_decide_eq_true rfl) (of_decide_eq_true rfl) ?_
    refine wi_aload_n (i := 0) (x := 236) (nx := 1) (r1 := 0) (r2 := 0) (r3 := 0) rfl rfl ?_
    refine wi_iload_n (i := 1) (e := 0) (nx := 2) (r1 := 0) (r2 := 0) (r3 := 0) rfl rfl ?_
    refine wi_if (cd := .ne) (nx := 5) (r1 := 9) (r2 := 0) (r3 := 0) rfl (by omega) (fun (q17 : 0 ≠ 0) => by exfalso; omega) (fun (q17 : ¬ (0 ≠ 0)) => ?_)
    refine wi_iconst (n := 1) (nx := 6) (r1 := 0) (r2 := 0) (r3 := 0) rfl ?_
    refine wi_goto (nx := 9) (r1 := 10) (r2 := 0) (r3 := 0) rfl ?_
    refine wi_S (rest := [.ref 236]) (as := [vi 1]) (nx := 13) (r1 := 207) (r2 := 17) (r3 := 0) rfl rfl rfl (of_decide_eq_true rfl) rfl rfl (of_decide_eq_true rfl) (of_decide_eq_true rfl) ?_
    refine wi_iload_n (i := 0) (e := 1) (nx := 1) (r1 := 0) (r2 := 0) (r3 := 0) rfl rfl ?_
    refine wi_if (cd := .eq) (nx := 4) (r1 := 8) (r2 := 0) (r3 := 0) rfl (by omega) (fun (q18 : 1 = 0) => by exfalso; omega) (fun (q18 : ¬ (1 = 0)) => ?_)
    refine wi_iconst (n := 1) (nx := 5) (r1 := 0) (r2 := 0) (r3 := 0) rfl ?_
    refine wi_goto (nx := 8) (r1 := 9) (r2 := 0) (r3 := 0) rfl ?_
    refine wi_ireturn (nx := 10) (r1 := 0) (r2 := 0) (r3 := 0) rfl rfl ?_
    refine wk_i ?_
    refine wr_pf0 (k0 := 236) (x := 1) (bl := 0) (bh := 2) (nx := 16) (r1 := 11) (r2 := 0) (r3 := 0) rfl (by decide) rfl ⟨rfl, rfl⟩ rfl rfl g rfl (by omega) (fun h19 g19 w19 u19 => ?_)
    have F20 := F0.then rfl u19
    refine wi_iload_n (i := 1) (e := 0) (nx := 17) (r1 := 0) (r2 := 0) (r3 := 0) rfl rfl ?_
    refine wi_zreturn (nx := 18) (r1 := 0) (r2 := 0) (r3 := 0) rfl rfl (by omega) ?_
    refine wk_i ?_
    refine wi_if (cd := .ne) (nx := 12) (r1 := 14) (r2 := 0) (r3 := 0) rfl (by omega) (fun (q21 : 0 ≠ 0) => by exfalso; omega) (fun (q21 : ¬ (0 ≠ 0)) => ?_)
    refine wi_iconst (n := 0) (nx := 13) (r1 := 0) (r2 := 0) (r3 := 0) rfl ?_
    refine wi_ireturn (nx := 14) (r1 := 0) (r2 := 0) (r3 := 0) rfl rfl ?_
    have e22 : h19 238 98 = h 238 98 := (u19 238 98 rfl)
    have e23 : h19 238 99 = h 238 99 := (u19 238 99 rfl)
    have e24 : h19 238 100 = h 238 100 := (u19 238 100 rfl)
    have e25 : h19 238 101 = h 238 101 := (u19 238 101 rfl)
    have e26 : h19 238 102 = h 238 102 := (u19 238 102 rfl)
    have e27 : h19 238 106 = h 238 106 := (u19 238 106 rfl)
    have e28 : h19 238 73 = h 238 73 := (u19 238 73 rfl)
    have e29 : h19 238 2 = h 238 2 := (u19 238 2 rfl)
    have e30 : h19 238 119 = h 238 119 := (u19 238 119 rfl)
    have e31 : h19 238 67 = h 238 67 := (u19 238 67 rfl)
    have e32 : h19 238 69 = h 238 69 := (u19 238 69 rfl)
    have e33 : h19 238 5 = h 238 5 := (u19 238 5 rfl)
    have gp34 := GPH.fr u19 rfl gp0
    exact k h19 0 g19 F20 (by omega) (show (h19 238 98) + (h19 238 99) + (h19 238 100) + (h19 238 101) + (h19 238 102) + (h19 238 106) = (h19 238 73) by omega) (show (h19 238 73) ≤ (h19 238 2) by omega) (show (h19 238 119) ≤ (h19 238 67) by omega) (show (h19 238 69) ≤ (h19 238 5) by omega) (show (h19 238 2) ≤ 12 * (h19 238 5) by omega) gp34
  ·
    refine wi_lload_n (i := 0) (e := a0) (nx := 7) (r1 := 0) (r2 := 0) (r3 := 0) rfl rfl ?_
    refine wi_lload (i := 4) (e := e14) (nx := 9) (r1 := 0) (r2 := 0) (r3 := 0) rfl rfl ?_
    refine wi_lcmp (a := a0) (e := e14) (nx := 10) (r1 := 0) (r2 := 0) (r3 := 0) rfl (by omega) (by omega) (fun r17 (fr17 : (r17 = -1 ∧ a0 < e14) ∨ (r17 = 0 ∧ a0 = e14) ∨ (r17 = 1 ∧ e14 < a0)) => ?_)
    refine wi_if (cd := .gt) (nx := 13) (r1 := 17) (r2 := 0) (r3 := 0) rfl (by omega) (fun (q18 : 0 < r17) => ?_) (fun (q18 : ¬ (0 < r17)) => ?_)
    ·
      refine wi_iconst (n := 0) (nx := 18) (r1 := 0) (r2 := 0) (r3 := 0) rfl ?_
      refine wi_zreturn (nx := 19) (r1 := 0) (r2 := 0) (r3 := 0) rfl rfl (by omega) ?_
      refine wk_i ?_
      refine wi_zreturn (nx := 16) (r1 := 0) (r2 := 0) (r3 := 0) rfl rfl (by omega) ?_
      refine wk_i ?_
      refine wr_V (k0 := 236) (rest := []) (as := [.ref 236, vi 0]) (nx := 9) (r1 := 206) (r2 := 1) (r3 := 11) rfl rfl rfl (of_decide_eq_true rfl) rfl rfl (by decide) rfl rfl (of_decide_eq_true rfl) (of_decide_eq_true rfl) ?_
      refine wi_aload_n (i := 0) (x := 236) (nx := 1) (r1 := 0) (r2 := 0) (r3 := 0) rfl rfl ?_
      refine wi_iload_n (i := 1) (e := 0) (nx := 2) (r1 := 0) (r2 := 0) (r3 := 0) rfl rfl ?_
      refine wi_if (cd := .ne) (nx := 5) (r1 := 9) (r2 := 0) (r3 := 0) rfl (by omega) (fun (q19 : 0 ≠ 0) => by exfalso; omega) (fun (q19 : ¬ (0 ≠ 0)) => ?_)
      refine wi_iconst (n := 1) (nx := 6) (r1 := 0) (r2 := 0) (r3 := 0) rfl ?_
      refine wi_goto (nx := 9) (r1 := 10) (r2 := 0) (r3 := 0) rfl ?_
      refine wi_S (rest := [.ref 236]) (as := [vi 1]) (nx := 13) (r1 := 207) (r2 := 17) (r3 := 0) rfl rfl rfl (of_decide_eq_true rfl) rfl rfl (of_decide_eq_true rfl) (of_decide_eq_true rfl) ?_
      refine wi_iload_n (i := 0) (e := 1) (nx := 1) (r1 := 0) (r2 := 0) (r3 := 0) rfl rfl ?_
      refine wi_if (cd := .eq) (nx := 4) (r1 := 8) (r2 := 0) (r3 := 0) rfl (by omega) (fun (q20 : 1 = 0) => by exfalso; omega) (fun (q20 : ¬ (1 = 0)) => ?_)
      refine wi_iconst (n := 1) (nx := 5) (r1 := 0) (r2 := 0) (r3 := 0) rfl ?_
      refine wi_goto (nx := 8) (r1 := 9) (r2 := 0) (r3 := 0) rfl ?_
      refine wi_ireturn (nx := 10) (r1 := 0) (r2 := 0) (r3 := 0) rfl rfl ?_
      refine wk_i ?_
      refine wr_pf0 (k0 := 236) (x := 1) (bl := 0) (bh := 2) (nx := 16) (r1 := 11) (r2 := 0) (r3 := 0) rfl (by decide) rfl ⟨rfl, rfl⟩ rfl rfl g rfl (by omega) (fun h21 g21 w21 u21 => ?_)
      have F22 := F0.then rfl u21
      refine wi_iload_n (i := 1) (e := 0) (nx := 17) (r1 := 0) (r2 := 0) (r3 := 0) rfl rfl ?_
      refine wi_zreturn (nx := 18) (r1 := 0) (r2 := 0) (r3 := 0) rfl rfl (by omega) ?_
      refine wk_i ?_
      refine wi_if (cd := .ne) (nx := 12) (r1 := 14) (r2 := 0) (r3 := 0) rfl (by omega) (fun (q23 : 0 ≠ 0) => by exfalso; omega) (fun (q23 : ¬ (0 ≠ 0)) => ?_)
      refine wi_iconst (n := 0) (nx := 13) (r1 := 0) (r2 := 0) (r3 := 0) rfl ?_
      refine wi_ireturn (nx := 14) (r1 := 0) (r2 := 0) (r3 := 0) rfl rfl ?_
      have e24 : h21 238 98 = h 238 98 := (u21 238 98 rfl)
      have e25 : h21 238 99 = h 238 99 := (u21 238 99 rfl)
      have e26 : h21 238 100 = h 238 100 := (u21 238 100 rfl)
      have e27 : h21 238 101 = h 238 101 := (u21 238 101 rfl)
      have e28 : h21 238 102 = h 238 102 := (u21 238 102 rfl)
      have e29 : h21 238 106 = h 238 106 := (u21 238 106 rfl)
      have e30 : h21 238 73 = h 238 73 := (u21 238 73 rfl)
      have e31 : h21 238 2 = h 238 2 := (u21 238 2 rfl)
      have e32 : h21 238 119 = h 238 119 := (u21 238 119 rfl)
      have e33 : h21 238 67 = h 238 67 := (u21 238 67 rfl)
      have e34 : h21 238 69 = h 238 69 := (u21 238 69 rfl)
      have e35 : h21 238 5 = h 238 5 := (u21 238 5 rfl)
      have gp36 := GPH.fr u21 rfl gp0
      exact k h21 0 g21 F22 (by omega) (show (h21 238 98) + (h21 238 99) + (h21 238 100) + (h21 238 101) + (h21 238 102) + (h21 238 106) = (h21 238 73) by omega) (show (h21 238 73) ≤ (h21 238 2) by omega) (show (h21 238 119) ≤ (h21 238 67) by omega) (show (h21 238 69) ≤ (h21 238 5) by omega) (show (h21 238 2) ≤ 12 * (h21 238 5) by omega) gp36
    ·
      refine wi_iconst (n := 1) (nx := 14) (r1 := 0) (r2 := 0) (r3 := 0) rfl ?_
      refine wi_goto (nx := 17) (r1 := 18) (r2 := 0) (r3 := 0) rfl ?_
      refine wi_zreturn (nx := 19) (r1 := 0) (r2 := 0) (r3 := 0) rfl rfl (by omega) ?_
      refine wk_i ?_
      refine wi_zreturn (nx := 16) (r1 := 0) (r2 := 0) (r3 := 0) rfl rfl (by omega) ?_
      refine wk_i ?_
      refine wr_V (k0 := 236) (rest := []) (as := [.ref 236, vi 1]) (nx := 9) (r1 := 206) (r2 := 1) (r3 := 11) rfl rfl rfl (of_decide_eq_true rfl) rfl rfl (by decide) rfl rfl (of_decide_eq_true rfl) (of_decide_eq_true rfl) ?_
      refine wi_aload_n (i := 0) (x := 236) (nx := 1) (r1 := 0) (r2 := 0) (r3 := 0) rfl rfl ?_
      refine wi_iload_n (i := 1) (e := 1) (nx := 2) (r1 := 0) (r2 := 0) (r3 := 0) rfl rfl ?_
      refine wi_if (cd := .ne) (nx := 5) (r1 := 9) (r2 := 0) (r3 := 0) rfl (by omega) (fun (q19 : 1 ≠ 0) => ?_) (fun (q19 : ¬ (1 ≠ 0)) => by exfalso; omega)
      refine wi_iconst (n := 0) (nx := 10) (r1 := 0) (r2 := 0) (r3 := 0) rfl ?_
      refine wi_S (rest := [.ref 236]) (as := [vi 0]) (nx := 13) (r1 := 207) (r2 := 17) (r3 := 0) rfl rfl rfl (of_decide_eq_true rfl) rfl rfl (of_decide_eq_true rfl) (of_decide_eq_true rfl) ?_
      refine wi_iload_n (i := 0) (e := 0) (nx := 1) (r1 := 0) (r2 := 0) (r3 := 0) rfl rfl ?_
      refine wi_if (cd := .eq) (nx := 4) (r1 := 8) (r2 := 0) (r3 := 0) rfl (by omega) (fun (q20 : 0 = 0) => ?_) (fun (q20 : ¬ (0 = 0)) => by exfalso; omega)
      refine wi_iconst (n := 0) (nx := 9) (r1 := 0) (r2 := 0) (r3 := 0) rfl ?_
      refine wi_ireturn (nx := 10) (r1 := 0) (r2 := 0) (r3 := 0) rfl rfl ?_
      refine wk_i ?_
      refine wr_pf0 (k0 := 236) (x := 0) (bl := 0) (bh := 2) (nx := 16) (r1 := 11) (r2 := 0) (r3 := 0) rfl (by decide) rfl ⟨rfl, rfl⟩ rfl rfl g rfl (by omega) (fun h21 g21 w21 u21 => ?_)
      have F22 := F0.then rfl u21
      refine wi_iload_n (i := 1) (e := 1) (nx := 17) (r1 := 0) (r2 := 0) (r3 := 0) rfl rfl ?_
      refine wi_zreturn (nx := 18) (r1 := 0) (r2 := 0) (r3 := 0) rfl rfl (by omega) ?_
      refine wk_i ?_
      refine wi_if (cd := .ne) (nx := 12) (r1 := 14) (r2 := 0) (r3 := 0) rfl (by omega) (fun (q23 : 1 ≠ 0) => ?_) (fun (q23 : ¬ (1 ≠ 0)) => by exfalso; omega)
      refine wi_aload_n (i := 0) (x := 236) (nx := 15) (r1 := 0) (r2 := 0) (r3 := 0) rfl rfl ?_
      refine wr_V (k0 := 236) (rest := []) (as := [.ref 236]) (nx := 18) (r1 := 285) (r2 := 0) (r3 := 11) rfl rfl rfl (of_decide_eq_true rfl) rfl rfl (by decide) rfl rfl (of_decide_eq_true rfl) (of_decide_eq_true rfl) ?_
      refine wi_aload_n (i := 0) (x := 236) (nx := 1) (r1 := 0) (r2 := 0) (r3 := 0) rfl rfl ?_
      refine wr_gr (k0 := 236) (x := 238) (nx := 4) (r1 := 11) (r2 := 13) (r3 := 0) rfl rfl (by decide) rfl ⟨rfl, rfl⟩ rfl ?_
      refine wi_bipush (n := 102) (nx := 6) (r1 := 0) (r2 := 0) (r3 := 0) rfl (by decide) ?_
      refine wr_ia (k0 := 238) (a := 102) (f := 102) (x := h 238 102) (nx := 7) (r1 := 0) (r2 := 0) (r3 := 0) rfl (by decide) rfl (by omega) (by omega) (by decide) (u21 238 102 rfl) ?_
      refine wi_if (cd := .le) (nx := 10) (r1 := 39) (r2 := 0) (r3 := 0) rfl (by omega) (fun (q24 : (h 238 102) ≤ 0) => ?_) (fun (q24 : ¬ ((h 238 102) ≤ 0)) => ?_)
      ·
        refine wi_iconst (n := 0) (nx := 40) (r1 := 0) (r2 := 0) (r3 := 0) rfl ?_
        refine wi_zreturn (nx := 41) (r1 := 0) (r2 := 0) (r3 := 0) rfl rfl (by omega) ?_
        refine wk_i ?_
        refine wi_if (cd := .eq) (nx := 21) (r1 := 29) (r2 := 0) (r3 := 0) rfl (by omega) (fun (q25 : 0 = 0) => ?_) (fun (q25 : ¬ (0 = 0)) => by exfalso; omega)
        refine wi_iconst (n := (-1)) (nx := 30) (r1 := 0) (r2 := 0) (r3 := 0) rfl ?_
        refine wi_ireturn (nx := 31) (r1 := 0) (r2 := 0) (r3 := 0) rfl rfl ?_
        have e26 : h21 238 98 = h 238 98 := (u21 238 98 rfl)
        have e27 : h21 238 99 = h 238 99 := (u21 238 99 rfl)
        have e28 : h21 238 100 = h 238 100 := (u21 238 100 rfl)
        have e29 : h21 238 101 = h 238 101 := (u21 238 101 rfl)
        have e30 : h21 238 102 = h 238 102 := (u21 238 102 rfl)
        have e31 : h21 238 106 = h 238 106 := (u21 238 106 rfl)
        have e32 : h21 238 73 = h 238 73 := (u21 238 73 rfl)
        have e33 : h21 238 2 = h 238 2 := (u21 238 2 rfl)
        have e34 : h21 238 119 = h 238 119 := (u21 238 119 rfl)
        have e35 : h21 238 67 = h 238 67 := (u21 238 67 rfl)
        have e36 : h21 238 69 = h 238 69 := (u21 238 69 rfl)
        have e37 : h21 238 5 = h 238 5 := (u21 238 5 rfl)
        have gp38 := GPH.fr u21 rfl gp0
        exact k h21 (-1) g21 F22 (by omega) (show (h21 238 98) + (h21 238 99) + (h21 238 100) + (h21 238 101) + (h21 238 102) + (h21 238 106) = (h21 238 73) by omega) (show (h21 238 73) ≤ (h21 238 2) by omega) (show (h21 238 119) ≤ (h21 238 67) by omega) (show (h21 238 69) ≤ (h21 238 5) by omega) (show (h21 238 2) ≤ 12 * (h21 238 5) by omega) gp38
      ·
        refine wi_aload_n (i := 0) (x := 236) (nx := 11) (r1 := 0) (r2 := 0) (r3 := 0) rfl rfl ?_
        refine wr_gr (k0 := 236) (x := 238) (nx := 14) (r1 := 11) (r2 := 13) (r3 := 0) rfl rfl (by decide) rfl ⟨rfl, rfl⟩ rfl ?_
        refine wi_bipush (n := 67) (nx := 16) (r1 := 0) (r2 := 0) (r3 := 0) rfl (by decide) ?_
        refine wr_ia (k0 := 238) (a := 67) (f := 67) (x := h 238 67) (nx := 17) (r1 := 0) (r2 := 0) (r3 := 0) rfl (by decide) rfl (by omega) (by omega) (by decide) (u21 238 67 rfl) ?_
        refine wi_aload_n (i := 0) (x := 236) (nx := 18) (r1 := 0) (r2 := 0) (r3 := 0) rfl rfl ?_
        refine wr_gr (k0 := 236) (x := 238) (nx := 21) (r1 := 11) (r2 := 13) (r3 := 0) rfl rfl (by decide) rfl ⟨rfl, rfl⟩ rfl ?_
        refine wi_bipush (n := 55) (nx := 23) (r1 := 0) (r2 := 0) (r3 := 0) rfl (by decide) ?_
        refine wi_aload_n (i := 0) (x := 236) (nx := 24) (r1 := 0) (r2 := 0) (r3 := 0) rfl rfl ?_
        refine wr_gr (k0 := 236) (x := 238) (nx := 27) (r1 := 11) (r2 := 13) (r3 := 0) rfl rfl (by decide) rfl ⟨rfl, rfl⟩ rfl ?_
        refine wi_bipush (n := 103) (nx := 29) (r1 := 0) (r2 := 0) (r3 := 0) rfl (by decide) ?_
        have b25 := gi_b (lo := 0) (hi := 11) g 238 103 rfl
        refine wr_ia (k0 := 238) (a := 103) (f := 103) (x := h 238 103) (nx := 30) (r1 := 0) (r2 := 0) (r3 := 0) rfl (by decide) rfl (by omega) (by omega) (by decide) (u21 238 103 rfl) ?_
        refine wr_add (nx := 31) (r1 := 0) (r2 := 0) (r3 := 0) rfl (fun e26 (fe26 : e26 = 55 + (h 238 103)) => ?_)
        obtain ⟨i27, ei27⟩ : ∃ q : Nat, e26 = (q : Int) := ⟨(e26).toNat, by omega⟩
        have b28 := gi_b (lo := 0) (hi := 20000) g 238 i27 (gi_rg 55 12 (fun _ => rfl) (by decide +kernel) (by omega))
        refine wr_ia (k0 := 238) (a := e26) (f := i27) (x := h 238 i27) (nx := 32) (r1 := 0) (r2 := 0) (r3 := 0) rfl (by decide) rfl (by omega) (by omega) (by decide) (u21 238 i27 (fn_a (by omega) fn_0)) ?_
        refine wi_icmp (cd := .lt) (nx := 35) (r1 := 39) (r2 := 0) (r3 := 0) rfl (by omega) (by omega) (fun (q29 : (h 238 67) < (h 238 i27)) => ?_) (fun (q29 : ¬ ((h 238 67) < (h 238 i27))) => ?_)
        ·
          refine wi_iconst (n := 0) (nx := 40) (r1 := 0) (r2 := 0) (r3 := 0) rfl ?_
          refine wi_zreturn (nx := 41) (r1 := 0) (r2 := 0) (r3 := 0) rfl rfl (by omega) ?_
          refine wk_i ?_
          refine wi_if (cd := .eq) (nx := 21) (r1 := 29) (r2 := 0) (r3 := 0) rfl (by omega) (fun (q30 : 0 = 0) => ?_) (fun (q30 : ¬ (0 = 0)) => by exfalso; omega)
          refine wi_iconst (n := (-1)) (nx := 30) (r1 := 0) (r2 := 0) (r3 := 0) rfl ?_
          refine wi_ireturn (nx := 31) (r1 := 0) (r2 := 0) (r3 := 0) rfl rfl ?_
          have e31 : h21 238 98 = h 238 98 := (u21 238 98 rfl)
          have e32 : h21 238 99 = h 238 99 := (u21 238 99 rfl)
          have e33 : h21 238 100 = h 238 100 := (u21 238 100 rfl)
          have e34 : h21 238 101 = h 238 101 := (u21 238 101 rfl)
          have e35 : h21 238 102 = h 238 102 := (u21 238 102 rfl)
          have e36 : h21 238 106 = h 238 106 := (u21 238 106 rfl)
          have e37 : h21 238 73 = h 238 73 := (u21 238 73 rfl)
          have e38 : h21 238 2 = h 238 2 := (u21 238 2 rfl)
          have e39 : h21 238 119 = h 238 119 := (u21 238 119 rfl)
          have e40 : h21 238 67 = h 238 67 := (u21 238 67 rfl)
          have e41 : h21 238 69 = h 238 69 := (u21 238 69 rfl)
          have e42 : h21 238 5 = h 238 5 := (u21 238 5 rfl)
          have gp43 := GPH.fr u21 rfl gp0
          exact k h21 (-1) g21 F22 (by omega) (show (h21 238 98) + (h21 238 99) + (h21 238 100) + (h21 238 101) + (h21 238 102) + (h21 238 106) = (h21 238 73) by omega) (show (h21 238 73) ≤ (h21 238 2) by omega) (show (h21 238 119) ≤ (h21 238 67) by omega) (show (h21 238 69) ≤ (h21 238 5) by omega) (show (h21 238 2) ≤ 12 * (h21 238 5) by omega) gp43
        ·
          refine wi_iconst (n := 1) (nx := 36) (r1 := 0) (r2 := 0) (r3 := 0) rfl ?_
          refine wi_goto (nx := 39) (r1 := 40) (r2 := 0) (r3 := 0) rfl ?_
          refine wi_zreturn (nx := 41) (r1 := 0) (r2 := 0) (r3 := 0) rfl rfl (by omega) ?_
          refine wk_i ?_
          refine wi_if (cd := .eq) (nx := 21) (r1 := 29) (r2 := 0) (r3 := 0) rfl (by omega) (fun (q30 : 1 = 0) => by exfalso; omega) (fun (q30 : ¬ (1 = 0)) => ?_)
          refine wi_aload_n (i := 0) (x := 236) (nx := 22) (r1 := 0) (r2 := 0) (r3 := 0) rfl rfl ?_
          refine wi_iload_n (i := 1) (e := a0) (nx := 23) (r1 := 0) (r2 := 0) (r3 := 0) rfl rfl ?_
          rcases (show a0 = 0 ∨ a0 = 1 ∨ a0 = 2 ∨ a0 = 3 by omega) with q31 | q31 | q31 | q31
          ·
            rw [q31]
            refine wr_V (k0 := 236) (rest := []) (as := [.ref 236, vi 0]) (nx := 26) (r1 := 277) (r2 := 1) (r3 := 11) rfl rfl rfl (of_decide_eq_true rfl) rfl rfl (by decide) rfl rfl (of_decide_eq_true rfl) (of_decide_eq_true rfl) ?_
            refine wi_aload_n (i := 0) (x := 236) (nx := 1) (r1 := 0) (r2 := 0) (r3 := 0) rfl rfl ?_
            refine wr_gr (k0 := 236) (x := 238) (nx := 4) (r1 := 11) (r2 := 13) (r3 := 0) rfl rfl (by decide) rfl ⟨rfl, rfl⟩ rfl ?_
            refine wi_bipush (n := 98) (nx := 6) (r1 := 0) (r2 := 0) (r3 := 0) rfl (by decide) ?_
            refine wi_iload_n (i := 1) (e := 0) (nx := 7) (r1 := 0) (r2 := 0) (r3 := 0) rfl rfl ?_
            refine wr_addL (98) (nx := 8) (r1 := 0) (r2 := 0) (r3 := 0) rfl (by decide) ?_
            refine wr_ia (k0 := 238) (a := 98) (f := 98) (x := h 238 98) (nx := 9) (r1 := 0) (r2 := 0) (r3 := 0) rfl (by decide) rfl (by omega) (by omega) (by decide) (u21 238 98 rfl) ?_
            refine wi_aload_n (i := 0) (x := 236) (nx := 10) (r1 := 0) (r2 := 0) (r3 := 0) rfl rfl ?_
            refine wr_gr (k0 := 236) (x := 238) (nx := 13) (r1 := 11) (r2 := 13) (r3 := 0) rfl rfl (by decide) rfl ⟨rfl, rfl⟩ rfl ?_
            refine wi_bipush (n := 15) (nx := 15) (r1 := 0) (r2 := 0) (r3 := 0) rfl (by decide) ?_
            refine wi_iload_n (i := 1) (e := 0) (nx := 16) (r1 := 0) (r2 := 0) (r3 := 0) rfl rfl ?_
            refine wr_addL (15) (nx := 17) (r1 := 0) (r2 := 0) (r3 := 0) rfl (by decide) ?_
            have b32 := gi_b (lo := 0) (hi := 6) g 238 15 rfl
            refine wr_ia (k0 := 238) (a := 15) (f := 15) (x := h 238 15) (nx := 18) (r1 := 0) (r2 := 0) (r3 := 0) rfl (by decide) rfl (by omega) (by omega) (by decide) (u21 238 15 rfl) ?_
            refine wi_icmp (cd := .ge) (nx := 21) (r1 := 25) (r2 := 0) (r3 := 0) rfl (by omega) (by omega) (fun (q33 : (h 238 15) ≤ (h 238 98)) => ?_) (fun (q33 : ¬ ((h 238 15) ≤ (h 238 98))) => ?_)
            ·
              refine wi_iconst (n := 0) (nx := 26) (r1 := 0) (r2 := 0) (r3 := 0) rfl ?_
              refine wi_zreturn (nx := 27) (r1 := 0) (r2 := 0) (r3 := 0) rfl rfl (by omega) ?_
              refine wk_i ?_
              refine wi_if (cd := .ne) (nx := 29) (r1 := 31) (r2 := 0) (r3 := 0) rfl (by omega) (fun (q34 : 0 ≠ 0) => by exfalso; omega) (fun (q34 : ¬ (0 ≠ 0)) => ?_)
              refine wi_iconst (n := (-1)) (nx := 30) (r1 := 0) (r2 := 0) (r3 := 0) rfl ?_
              refine wi_ireturn (nx := 31) (r1 := 0) (r2 := 0) (r3 := 0) rfl rfl ?_
              have e35 : h21 238 98 = h 238 98 := (u21 238 98 rfl)
              have e36 : h21 238 99 = h 238 99 := (u21 238 99 rfl)
              have e37 : h21 238 100 = h 238 100 := (u21 238 100 rfl)
              have e38 : h21 238 101 = h 238 101 := (u21 238 101 rfl)
              have e39 : h21 238 102 = h 238 102 := (u21 238 102 rfl)
              have e40 : h21 238 106 = h 238 106 := (u21 238 106 rfl)
              have e41 : h21 238 73 = h 238 73 := (u21 238 73 rfl)
              have e42 : h21 238 2 = h 238 2 := (u21 238 2 rfl)
              have e43 : h21 238 119 = h 238 119 := (u21 238 119 rfl)
              have e44 : h21 238 67 = h 238 67 := (u21 238 67 rfl)
              have e45 : h21 238 69 = h 238 69 := (u21 238 69 rfl)
              have e46 : h21 238 5 = h 238 5 := (u21 238 5 rfl)
              have gp47 := GPH.fr u21 rfl gp0
              exact k h21 (-1) g21 F22 (by omega) (show (h21 238 98) + (h21 238 99) + (h21 238 100) + (h21 238 101) + (h21 238 102) + (h21 238 106) = (h21 238 73) by omega) (show (h21 238 73) ≤ (h21 238 2) by omega) (show (h21 238 119) ≤ (h21 238 67) by omega) (show (h21 238 69) ≤ (h21 238 5) by omega) (show (h21 238 2) ≤ 12 * (h21 238 5) by omega) gp47
            ·
              refine wi_iconst (n := 1) (nx := 22) (r1 := 0) (r2 := 0) (r3 := 0) rfl ?_
              refine wi_goto (nx := 25) (r1 := 26) (r2 := 0) (r3 := 0) rfl ?_
              refine wi_zreturn (nx := 27) (r1 := 0) (r2 := 0) (r3 := 0) rfl rfl (by omega) ?_
              refine wk_i ?_
              refine wi_if (cd := .ne) (nx := 29) (r1 := 31) (r2 := 0) (r3 := 0) rfl (by omega) (fun (q34 : 1 ≠ 0) => ?_) (fun (q34 : ¬ (1 ≠ 0)) => by exfalso; omega)
              refine wi_aload_n (i := 0) (x := 236) (nx := 32) (r1 := 0) (r2 := 0) (r3 := 0) rfl rfl ?_
              refine wr_V (k0 := 236) (rest := []) (as := [.ref 236]) (nx := 35) (r1 := 278) (r2 := 0) (r3 := 11) rfl rfl rfl (of_decide_eq_true rfl) rfl rfl (by decide) rfl rfl (of_decide_eq_true rfl) (of_decide_eq_true rfl) ?_
              have e36 : h21 238 98 = h 238 98 := (u21 238 98 rfl)
              have e37 : h21 238 99 = h 238 99 := (u21 238 99 rfl)
              have e38 : h21 238 100 = h 238 100 := (u21 238 100 rfl)
              have e39 : h21 238 101 = h 238 101 := (u21 238 101 rfl)
              have e40 : h21 238 102 = h 238 102 := (u21 238 102 rfl)
              have e41 : h21 238 106 = h 238 106 := (u21 238 106 rfl)
              have e42 : h21 238 73 = h 238 73 := (u21 238 73 rfl)
              have e43 : h21 238 2 = h 238 2 := (u21 238 2 rfl)
              have e44 : h21 238 119 = h 238 119 := (u21 238 119 rfl)
              have e45 : h21 238 67 = h 238 67 := (u21 238 67 rfl)
              have e46 : h21 238 69 = h 238 69 := (u21 238 69 rfl)
              have e47 : h21 238 5 = h 238 5 := (u21 238 5 rfl)
              have gp48 := GPH.fr u21 rfl gp0
              refine ct_278_236 hcr  g21   (show (h21 238 98) + (h21 238 99) + (h21 238 100) + (h21 238 101) + (h21 238 102) + (h21 238 106) = (h21 238 73) by omega) (show (h21 238 73) ≤ (h21 238 2) by omega) (show (h21 238 119) ≤ (h21 238 67) by omega) (show (h21 238 69) ≤ (h21 238 5) by omega) (show (h21 238 2) ≤ 12 * (h21 238 5) by omega) gp48 (fun h35 g35 u35 (p35_0 : 1 ≤ (h35 236 22)) y35_0 => ?_)
              have F49 := F22.then (by decide +kernel) u35
              have b50 := gi_b (lo := 0) (hi := 6) g35 236 22 rfl
              refine wk_n ?_
              refine wi_aload_n (i := 0) (x := 236) (nx := 36) (r1 := 0) (r2 := 0) (r3 := 0) rfl rfl ?_
              refine wi_iload_n (i := 1) (e := 0) (nx := 37) (r1 := 0) (r2 := 0) (r3 := 0) rfl rfl ?_
              refine wr_V (k0 := 236) (rest := []) (as := [.ref 236, vi 0]) (nx := 40) (r1 := 286) (r2 := 1) (r3 := 11) rfl rfl rfl (of_decide_eq_true rfl) rfl rfl (by decide) rfl rfl (of_decide_eq_true rfl) (of_decide_eq_true rfl) ?_
              have e52 : h35 238 98 = h 238 98 := ((u35 238 98 rfl).trans (u21 238 98 rfl))
              have e53 : h35 238 99 = h 238 99 := ((u35 238 99 rfl).trans (u21 238 99 rfl))
              have e54 : h35 238 100 = h 238 100 := ((u35 238 100 rfl).trans (u21 238 100 rfl))
              have e55 : h35 238 101 = h 238 101 := ((u35 238 101 rfl).trans (u21 238 101 rfl))
              have e56 : h35 238 102 = h 238 102 := ((u35 238 102 rfl).trans (u21 238 102 rfl))
              have e57 : h35 238 106 = h 238 106 := ((u35 238 106 rfl).trans (u21 238 106 rfl))
              have e58 : h35 238 73 = h 238 73 := ((u35 238 73 rfl).trans (u21 238 73 rfl))
              have e59 : h35 238 2 = h 238 2 := ((u35 238 2 rfl).trans (u21 238 2 rfl))
              have e60 : h35 238 119 = h 238 119 := ((u35 238 119 rfl).trans (u21 238 119 rfl))
              have e61 : h35 238 67 = h 238 67 := ((u35 238 67 rfl).trans (u21 238 67 rfl))
              have e62 : h35 238 69 = h 238 69 := ((u35 238 69 rfl).trans (u21 238 69 rfl))
              have e63 : h35 238 5 = h 238 5 := ((u35 238 5 rfl).trans (u21 238 5 rfl))
              refine ct_286_236_L0 hcr  g35   (show (h35 238 98) + (h35 238 99) + (h35 238 100) + (h35 238 101) + (h35 238 102) + (h35 238 106) = (h35 238 73) by omega) (show (h35 238 73) ≤ (h35 238 2) by omega) (show (h35 238 119) ≤ (h35 238 67) by omega) (show (h35 238 69) ≤ (h35 238 5) by omega) (show (h35 238 2) ≤ 12 * (h35 238 5) by omega) (show 1 ≤ (h35 238 102) by omega) (show (h35 238 98) ≤ 5 by omega) (fun h51 z64 g51 u51 (fz64 : 0 ≤ z64 ∧ z64 ≤ 11) (p51_0 : (h51 238 98) + (h51 238 99) + (h51 238 100) + (h51 238 101) + (h51 238 102) + (h51 238 106) = (h51 238 73)) (p51_1 : (h51 238 73) ≤ (h51 238 2)) (p51_2 : (h51 238 119) ≤ (h51 238 67)) (p51_3 : (h51 238 69) ≤ (h51 238 5)) (p51_4 : (h51 238 2) ≤ 12 * (h51 238 5)) => ?_)
              have F65 := F49.then (by decide +kernel) u51
              have b66 := gi_b (lo := 0) (hi := 6) g51 238 98 rfl
              have e67 : h51 238 99 = h 238 99 := ((u51 238 99 rfl).trans ((u35 238 99 rfl).trans (u21 238 99 rfl)))
              have e68 : h51 238 100 = h 238 100 := ((u51 238 100 rfl).trans ((u35 238 100 rfl).trans (u21 238 100 rfl)))
              have e69 : h51 238 101 = h 238 101 := ((u51 238 101 rfl).trans ((u35 238 101 rfl).trans (u21 238 101 rfl)))
              have b70 := gi_b (lo := 0) (hi := 3) g51 238 102 rfl
              have e71 : h51 238 106 = h 238 106 := ((u51 238 106 rfl).trans ((u35 238 106 rfl).trans (u21 238 106 rfl)))
              have e72 : h51 238 73 = h 238 73 := ((u51 238 73 rfl).trans ((u35 238 73 rfl).trans (u21 238 73 rfl)))
              have e73 : h51 238 2 = h 238 2 := ((u51 238 2 rfl).trans ((u35 238 2 rfl).trans (u21 238 2 rfl)))
              have e74 : h51 238 119 = h 238 119 := ((u51 238 119 rfl).trans ((u35 238 119 rfl).trans (u21 238 119 rfl)))
              have e75 : h51 238 67 = h 238 67 := ((u51 238 67 rfl).trans ((u35 238 67 rfl).trans (u21 238 67 rfl)))
              have e76 : h51 238 69 = h 238 69 := ((u51 238 69 rfl).trans ((u35 238 69 rfl).trans (u21 238 69 rfl)))
              have e77 : h51 238 5 = h 238 5 := ((u51 238 5 rfl).trans ((u35 238 5 rfl).trans (u21 238 5 rfl)))
              refine wk_i ?_
              refine wi_ireturn (nx := 41) (r1 := 0) (r2 := 0) (r3 := 0) rfl rfl ?_
              have gp78 := GPH.fr u51 rfl y35_0
              exact k h51 z64 g51 F65 (by omega) (show (h51 238 98) + (h51 238 99) + (h51 238 100) + (h51 238 101) + (h51 238 102) + (h51 238 106) = (h51 238 73) by omega) (show (h51 238 73) ≤ (h51 238 2) by omega) (show (h51 238 119) ≤ (h51 238 67) by omega) (show (h51 238 69) ≤ (h51 238 5) by omega) (show (h51 238 2) ≤ 12 * (h51 238 5) by omega) gp78
          ·
            rw [q31]
            refine wr_V (k0 := 236) (rest := []) (as := [.ref 236, vi 1]) (nx := 26) (r1 := 277) (r2 := 1) (r3 := 11) rfl rfl rfl (of_decide_eq_true rfl) rfl rfl (by decide) rfl rfl (of_decide_eq_true rfl) (of_decide_eq_true rfl) ?_
            refine wi_aload_n (i := 0) (x := 236) (nx := 1) (r1 := 0) (r2 := 0) (r3 := 0) rfl rfl ?_
            refine wr_gr (k0 := 236) (x := 238) (nx := 4) (r1 := 11) (r2 := 13) (r3 := 0) rfl rfl (by decide) rfl ⟨rfl, rfl⟩ rfl ?_
            refine wi_bipush (n := 98) (nx := 6) (r1 := 0) (r2 := 0) (r3 := 0) rfl (by decide) ?_
            refine wi_iload_n (i := 1) (e := 1) (nx := 7) (r1 := 0) (r2 := 0) (r3 := 0) rfl rfl ?_
            refine wr_addL (99) (nx := 8) (r1 := 0) (r2 := 0) (r3 := 0) rfl (by decide) ?_
            refine wr_ia (k0 := 238) (a := 99) (f := 99) (x := h 238 99) (nx := 9) (r1 := 0) (r2 := 0) (r3 := 0) rfl (by decide) rfl (by omega) (by omega) (by decide) (u21 238 99 rfl) ?_
            refine wi_aload_n (i := 0) (x := 236) (nx := 10) (r1 := 0) (r2 := 0) (r3 := 0) rfl rfl ?_
            refine wr_gr (k0 := 236) (x := 238) (nx := 13) (r1 := 11) (r2 := 13) (r3 := 0) rfl rfl (by decide) rfl ⟨rfl, rfl⟩ rfl ?_
            refine wi_bipush (n := 15) (nx := 15) (r1 := 0) (r2 := 0) (r3 := 0) rfl (by decide) ?_
            refine wi_iload_n (i := 1) (e := 1) (nx := 16) (r1 := 0) (r2 := 0) (r3 := 0) rfl rfl ?_
            refine wr_addL (16) (nx := 17) (r1 := 0) (r2 := 0) (r3 := 0) rfl (by decide) ?_
            have b32 := gi_b (lo := 0) (hi := 6) g 238 16 rfl
            refine wr_ia (k0 := 238) (a := 16) (f := 16) (x := h 238 16) (nx := 18) (r1 := 0) (r2 := 0) (r3 := 0) rfl (by decide) rfl (by omega) (by omega) (by decide) (u21 238 16 rfl) ?_
            refine wi_icmp (cd := .ge) (nx := 21) (r1 := 25) (r2 := 0) (r3 := 0) rfl (by omega) (by omega) (fun (q33 : (h 238 16) ≤ (h 238 99)) => ?_) (fun (q33 : ¬ ((h 238 16) ≤ (h 238 99))) => ?_)
            ·
              refine wi_iconst (n := 0) (nx := 26) (r1 := 0) (r2 := 0) (r3 := 0) rfl ?_
              refine wi_zreturn (nx := 27) (r1 := 0) (r2 := 0) (r3 := 0) rfl rfl (by omega) ?_
              refine wk_i ?_
              refine wi_if (cd := .ne) (nx := 29) (r1 := 31) (r2 := 0) (r3 := 0) rfl (by omega) (fun (q34 : 0 ≠ 0) => by exfalso; omega) (fun (q34 : ¬ (0 ≠ 0)) => ?_)
              refine wi_iconst (n := (-1)) (nx := 30) (r1 := 0) (r2 := 0) (r3 := 0) rfl ?_
              refine wi_ireturn (nx := 31) (r1 := 0) (r2 := 0) (r3 := 0) rfl rfl ?_
              have e35 : h21 238 98 = h 238 98 := (u21 238 98 rfl)
              have e36 : h21 238 99 = h 238 99 := (u21 238 99 rfl)
              have e37 : h21 238 100 = h 238 100 := (u21 238 100 rfl)
              have e38 : h21 238 101 = h 238 101 := (u21 238 101 rfl)
              have e39 : h21 238 102 = h 238 102 := (u21 238 102 rfl)
              have e40 : h21 238 106 = h 238 106 := (u21 238 106 rfl)
              have e41 : h21 238 73 = h 238 73 := (u21 238 73 rfl)
              have e42 : h21 238 2 = h 238 2 := (u21 238 2 rfl)
              have e43 : h21 238 119 = h 238 119 := (u21 238 119 rfl)
              have e44 : h21 238 67 = h 238 67 := (u21 238 67 rfl)
              have e45 : h21 238 69 = h 238 69 := (u21 238 69 rfl)
              have e46 : h21 238 5 = h 238 5 := (u21 238 5 rfl)
              have gp47 := GPH.fr u21 rfl gp0
              exact k h21 (-1) g21 F22 (by omega) (show (h21 238 98) + (h21 238 99) + (h21 238 100) + (h21 238 101) + (h21 238 102) + (h21 238 106) = (h21 238 73) by omega) (show (h21 238 73) ≤ (h21 238 2) by omega) (show (h21 238 119) ≤ (h21 238 67) by omega) (show (h21 238 69) ≤ (h21 238 5) by omega) (show (h21 238 2) ≤ 12 * (h21 238 5) by omega) gp47
            ·
              refine wi_iconst (n := 1) (nx := 22) (r1 := 0) (r2 := 0) (r3 := 0) rfl ?_
              refine wi_goto (nx := 25) (r1 := 26) (r2 := 0) (r3 := 0) rfl ?_
              refine wi_zreturn (nx := 27) (r1 := 0) (r2 := 0) (r3 := 0) rfl rfl (by omega) ?_
              refine wk_i ?_
              refine wi_if (cd := .ne) (nx := 29) (r1 := 31) (r2 := 0) (r3 := 0) rfl (by omega) (fun (q34 : 1 ≠ 0) => ?_) (fun (q34 : ¬ (1 ≠ 0)) => by exfalso; omega)
              refine wi_aload_n (i := 0) (x := 236) (nx := 32) (r1 := 0) (r2 := 0) (r3 := 0) rfl rfl ?_
              refine wr_V (k0 := 236) (rest := []) (as := [.ref 236]) (nx := 35) (r1 := 278) (r2 := 0) (r3 := 11) rfl rfl rfl (of_decide_eq_true rfl) rfl rfl (by decide) rfl rfl (of_decide_eq_true rfl) (of_decide_eq_true rfl) ?_
              have e36 : h21 238 98 = h 238 98 := (u21 238 98 rfl)
              have e37 : h21 238 99 = h 238 99 := (u21 238 99 rfl)
              have e38 : h21 238 100 = h 238 100 := (u21 238 100 rfl)
              have e39 : h21 238 101 = h 238 101 := (u21 238 101 rfl)
              have e40 : h21 238 102 = h 238 102 := (u21 238 102 rfl)
              have e41 : h21 238 106 = h 238 106 := (u21 238 106 rfl)
              have e42 : h21 238 73 = h 238 73 := (u21 238 73 rfl)
              have e43 : h21 238 2 = h 238 2 := (u21 238 2 rfl)
              have e44 : h21 238 119 = h 238 119 := (u21 238 119 rfl)
              have e45 : h21 238 67 = h 238 67 := (u21 238 67 rfl)
              have e46 : h21 238 69 = h 238 69 := (u21 238 69 rfl)
              have e47 : h21 238 5 = h 238 5 := (u21 238 5 rfl)
              have gp48 := GPH.fr u21 rfl gp0
              refine ct_278_236 hcr  g21   (show (h21 238 98) + (h21 238 99) + (h21 238 100) + (h21 238 101) + (h21 238 102) + (h21 238 106) = (h21 238 73) by omega) (show (h21 238 73) ≤ (h21 238 2) by omega) (show (h21 238 119) ≤ (h21 238 67) by omega) (show (h21 238 69) ≤ (h21 238 5) by omega) (show (h21 238 2) ≤ 12 * (h21 238 5) by omega) gp48 (fun h35 g35 u35 (p35_0 : 1 ≤ (h35 236 22)) y35_0 => ?_)
              have F49 := F22.then (by decide +kernel) u35
              have b50 := gi_b (lo := 0) (hi := 6) g35 236 22 rfl
              refine wk_n ?_
              refine wi_aload_n (i := 0) (x := 236) (nx := 36) (r1 := 0) (r2 := 0) (r3 := 0) rfl rfl ?_
              refine wi_iload_n (i := 1) (e := 1) (nx := 37) (r1 := 0) (r2 := 0) (r3 := 0) rfl rfl ?_
              refine wr_V (k0 := 236) (rest := []) (as := [.ref 236, vi 1]) (nx := 40) (r1 := 286) (r2 := 1) (r3 := 11) rfl rfl rfl (of_decide_eq_true rfl) rfl rfl (by decide) rfl rfl (of_decide_eq_true rfl) (of_decide_eq_true rfl) ?_
              have e52 : h35 238 98 = h 238 98 := ((u35 238 98 rfl).trans (u21 238 98 rfl))
              have e53 : h35 238 99 = h 238 99 := ((u35 238 99 rfl).trans (u21 238 99 rfl))
              have e54 : h35 238 100 = h 238 100 := ((u35 238 100 rfl).trans (u21 238 100 rfl))
              have e55 : h35 238 101 = h 238 101 := ((u35 238 101 rfl).trans (u21 238 101 rfl))
              have e56 : h35 238 102 = h 238 102 := ((u35 238 102 rfl).trans (u21 238 102 rfl))
              have e57 : h35 238 106 = h 238 106 := ((u35 238 106 rfl).trans (u21 238 106 rfl))
              have e58 : h35 238 73 = h 238 73 := ((u35 238 73 rfl).trans (u21 238 73 rfl))
              have e59 : h35 238 2 = h 238 2 := ((u35 238 2 rfl).trans (u21 238 2 rfl))
              have e60 : h35 238 119 = h 238 119 := ((u35 238 119 rfl).trans (u21 238 119 rfl))
              have e61 : h35 238 67 = h 238 67 := ((u35 238 67 rfl).trans (u21 238 67 rfl))
              have e62 : h35 238 69 = h 238 69 := ((u35 238 69 rfl).trans (u21 238 69 rfl))
              have e63 : h35 238 5 = h 238 5 := ((u35 238 5 rfl).trans (u21 238 5 rfl))
              refine ct_286_236_L1 hcr  g35   (show (h35 238 98) + (h35 238 99) + (h35 238 100) + (h35 238 101) + (h35 238 102) + (h35 238 106) = (h35 238 73) by omega) (show (h35 238 73) ≤ (h35 238 2) by omega) (show (h35 238 119) ≤ (h35 238 67) by omega) (show (h35 238 69) ≤ (h35 238 5) by omega) (show (h35 238 2) ≤ 12 * (h35 238 5) by omega) (show 1 ≤ (h35 238 102) by omega) (show (h35 238 99) ≤ 5 by omega) (fun h51 z64 g51 u51 (fz64 : 0 ≤ z64 ∧ z64 ≤ 11) (p51_0 : (h51 238 98) + (h51 238 99) + (h51 238 100) + (h51 238 101) + (h51 238 102) + (h51 238 106) = (h51 238 73)) (p51_1 : (h51 238 73) ≤ (h51 238 2)) (p51_2 : (h51 238 119) ≤ (h51 238 67)) (p51_3 : (h51 238 69) ≤ (h51 238 5)) (p51_4 : (h51 238 2) ≤ 12 * (h51 238 5)) => ?_)
              have F65 := F49.then (by decide +kernel) u51
              have e66 : h51 238 98 = h 238 98 := ((u51 238 98 rfl).trans ((u35 238 98 rfl).trans (u21 238 98 rfl)))
              have b67 := gi_b (lo := 0) (hi := 6) g51 238 99 rfl
              have e68 : h51 238 100 = h 238 100 := ((u51 238 100 rfl).trans ((u35 238 100 rfl).trans (u21 238 100 rfl)))
              have e69 : h51 238 101 = h 238 101 := ((u51 238 101 rfl).trans ((u35 238 101 rfl).trans (u21 238 101 rfl)))
              have b70 := gi_b (lo := 0) (hi := 3) g51 238 102 rfl
              have e71 : h51 238 106 = h 238 106 := ((u51 238 106 rfl).trans ((u35 238 106 rfl).trans (u21 238 106 rfl)))
              have e72 : h51 238 73 = h 238 73 := ((u51 238 73 rfl).trans ((u35 238 73 rfl).trans (u21 238 73 rfl)))
              have e73 : h51 238 2 = h 238 2 := ((u51 238 2 rfl).trans ((u35 238 2 rfl).trans (u21 238 2 rfl)))
              have e74 : h51 238 119 = h 238 119 := ((u51 238 119 rfl).trans ((u35 238 119 rfl).trans (u21 238 119 rfl)))
              have e75 : h51 238 67 = h 238 67 := ((u51 238 67 rfl).trans ((u35 238 67 rfl).trans (u21 238 67 rfl)))
              have e76 : h51 238 69 = h 238 69 := ((u51 238 69 rfl).trans ((u35 238 69 rfl).trans (u21 238 69 rfl)))
              have e77 : h51 238 5 = h 238 5 := ((u51 238 5 rfl).trans ((u35 238 5 rfl).trans (u21 238 5 rfl)))
              refine wk_i ?_
              refine wi_ireturn (nx := 41) (r1 := 0) (r2 := 0) (r3 := 0) rfl rfl ?_
              have gp78 := GPH.fr u51 rfl y35_0
              exact k h51 z64 g51 F65 (by omega) (show (h51 238 98) + (h51 238 99) + (h51 238 100) + (h51 238 101) + (h51 238 102) + (h51 238 106) = (h51 238 73) by omega) (show (h51 238 73) ≤ (h51 238 2) by omega) (show (h51 238 119) ≤ (h51 238 67) by omega) (show (h51 238 69) ≤ (h51 238 5) by omega) (show (h51 238 2) ≤ 12 * (h51 238 5) by omega) gp78
          ·
            rw [q31]
            refine wr_V (k0 := 236) (rest := []) (as := [.ref 236, vi 2]) (nx := 26) (r1 := 277) (r2 := 1) (r3 := 11) rfl rfl rfl (of_decide_eq_true rfl) rfl rfl (by decide) rfl rfl (of_decide_eq_true rfl) (of_decide_eq_true rfl) ?_
            refine wi_aload_n (i := 0) (x := 236) (nx := 1) (r1 := 0) (r2 := 0) (r3 := 0) rfl rfl ?_
            refine wr_gr (k0 := 236) (x := 238) (nx := 4) (r1 := 11) (r2 := 13) (r3 := 0) rfl rfl (by decide) rfl ⟨rfl, rfl⟩ rfl ?_
            refine wi_bipush (n := 98) (nx := 6) (r1 := 0) (r2 := 0) (r3 := 0) rfl (by decide) ?_
            refine wi_iload_n (i := 1) (e := 2) (nx := 7) (r1 := 0) (r2 := 0) (r3 := 0) rfl rfl ?_
            refine wr_addL (100) (nx := 8) (r1 := 0) (r2 := 0) (r3 := 0) rfl (by decide) ?_
            refine wr_ia (k0 := 238) (a := 100) (f := 100) (x := h 238 100) (nx := 9) (r1 := 0) (r2 := 0) (r3 := 0) rfl (by decide) rfl (by omega) (by omega) (by decide) (u21 238 100 rfl) ?_
            refine wi_aload_n (i := 0) (x := 236) (nx := 10) (r1 := 0) (r2 := 0) (r3 := 0) rfl rfl ?_
            refine wr_gr (k0 := 236) (x := 238) (nx := 13) (r1 := 11) (r2 := 13) (r3 := 0) rfl rfl (by decide) rfl ⟨rfl, rfl⟩ rfl ?_
            refine wi_bipush (n := 15) (nx := 15) (r1 := 0) (r2 := 0) (r3 := 0) rfl (by decide) ?_
            refine wi_iload_n (i := 1) (e := 2) (nx := 16) (r1 := 0) (r2 := 0) (r3 := 0) rfl rfl ?_
            refine wr_addL (17) (nx := 17) (r1 := 0) (r2 := 0) (r3 := 0) rfl (by decide) ?_
            have b32 := gi_b (lo := 0) (hi := 6) g 238 17 rfl
            refine wr_ia (k0 := 238) (a := 17) (f := 17) (x := h 238 17) (nx := 18) (r1 := 0) (r2 := 0) (r3 := 0) rfl (by decide) rfl (by omega) (by omega) (by decide) (u21 238 17 rfl) ?_
            refine wi_icmp (cd := .ge) (nx := 21) (r1 := 25) (r2 := 0) (r3 := 0) rfl (by omega) (by omega) (fun (q33 : (h 238 17) ≤ (h 238 100)) => ?_) (fun (q33 : ¬ ((h 238 17) ≤ (h 238 100))) => ?_)
            ·
              refine wi_iconst (n := 0) (nx := 26) (r1 := 0) (r2 := 0) (r3 := 0) rfl ?_
              refine wi_zreturn (nx := 27) (r1 := 0) (r2 := 0) (r3 := 0) rfl rfl (by omega) ?_
              refine wk_i ?_
              refine wi_if (cd := .ne) (nx := 29) (r1 := 31) (r2 := 0) (r3 := 0) rfl (by omega) (fun (q34 : 0 ≠ 0) => by exfalso; omega) (fun (q34 : ¬ (0 ≠ 0)) => ?_)
              refine wi_iconst (n := (-1)) (nx := 30) (r1 := 0) (r2 := 0) (r3 := 0) rfl ?_
              refine wi_ireturn (nx := 31) (r1 := 0) (r2 := 0) (r3 := 0) rfl rfl ?_
              have e35 : h21 238 98 = h 238 98 := (u21 238 98 rfl)
              have e36 : h21 238 99 = h 238 99 := (u21 238 99 rfl)
              have e37 : h21 238 100 = h 238 100 := (u21 238 100 rfl)
              have e38 : h21 238 101 = h 238 101 := (u21 238 101 rfl)
              have e39 : h21 238 102 = h 238 102 := (u21 238 102 rfl)
              have e40 : h21 238 106 = h 238 106 := (u21 238 106 rfl)
              have e41 : h21 238 73 = h 238 73 := (u21 238 73 rfl)
              have e42 : h21 238 2 = h 238 2 := (u21 238 2 rfl)
              have e43 : h21 238 119 = h 238 119 := (u21 238 119 rfl)
              have e44 : h21 238 67 = h 238 67 := (u21 238 67 rfl)
              have e45 : h21 238 69 = h 238 69 := (u21 238 69 rfl)
              have e46 : h21 238 5 = h 238 5 := (u21 238 5 rfl)
              have gp47 := GPH.fr u21 rfl gp0
              exact k h21 (-1) g21 F22 (by omega) (show (h21 238 98) + (h21 238 99) + (h21 238 100) + (h21 238 101) + (h21 238 102) + (h21 238 106) = (h21 238 73) by omega) (show (h21 238 73) ≤ (h21 238 2) by omega) (show (h21 238 119) ≤ (h21 238 67) by omega) (show (h21 238 69) ≤ (h21 238 5) by omega) (show (h21 238 2) ≤ 12 * (h21 238 5) by omega) gp47
            ·
              refine wi_iconst (n := 1) (nx := 22) (r1 := 0) (r2 := 0) (r3 := 0) rfl ?_
              refine wi_goto (nx := 25) (r1 := 26) (r2 := 0) (r3 := 0) rfl ?_
              refine wi_zreturn (nx := 27) (r1 := 0) (r2 := 0) (r3 := 0) rfl rfl (by omega) ?_
              refine wk_i ?_
              refine wi_if (cd := .ne) (nx := 29) (r1 := 31) (r2 := 0) (r3 := 0) rfl (by omega) (fun (q34 : 1 ≠ 0) => ?_) (fun (q34 : ¬ (1 ≠ 0)) => by exfalso; omega)
              refine wi_aload_n (i := 0) (x := 236) (nx := 32) (r1 := 0) (r2 := 0) (r3 := 0) rfl rfl ?_
              refine wr_V (k0 := 236) (rest := []) (as := [.ref 236]) (nx := 35) (r1 := 278) (r2 := 0) (r3 := 11) rfl rfl rfl (of_decide_eq_true rfl) rfl rfl (by decide) rfl rfl (of_decide_eq_true rfl) (of_decide_eq_true rfl) ?_
              have e36 : h21 238 98 = h 238 98 := (u21 238 98 rfl)
              have e37 : h21 238 99 = h 238 99 := (u21 238 99 rfl)
              have e38 : h21 238 100 = h 238 100 := (u21 238 100 rfl)
              have e39 : h21 238 101 = h 238 101 := (u21 238 101 rfl)
              have e40 : h21 238 102 = h 238 102 := (u21 238 102 rfl)
              have e41 : h21 238 106 = h 238 106 := (u21 238 106 rfl)
              have e42 : h21 238 73 = h 238 73 := (u21 238 73 rfl)
              have e43 : h21 238 2 = h 238 2 := (u21 238 2 rfl)
              have e44 : h21 238 119 = h 238 119 := (u21 238 119 rfl)
              have e45 : h21 238 67 = h 238 67 := (u21 238 67 rfl)
              have e46 : h21 238 69 = h 238 69 := (u21 238 69 rfl)
              have e47 : h21 238 5 = h 238 5 := (u21 238 5 rfl)
              have gp48 := GPH.fr u21 rfl gp0
              refine ct_278_236 hcr  g21   (show (h21 238 98) + (h21 238 99) + (h21 238 100) + (h21 238 101) + (h21 238 102) + (h21 238 106) = (h21 238 73) by omega) (show (h21 238 73) ≤ (h21 238 2) by omega) (show (h21 238 119) ≤ (h21 238 67) by omega) (show (h21 238 69) ≤ (h21 238 5) by omega) (show (h21 238 2) ≤ 12 * (h21 238 5) by omega) gp48 (fun h35 g35 u35 (p35_0 : 1 ≤ (h35 236 22)) y35_0 => ?_)
              have F49 := F22.then (by decide +kernel) u35
              have b50 := gi_b (lo := 0) (hi := 6) g35 236 22 rfl
              refine wk_n ?_
              refine wi_aload_n (i := 0) (x := 236) (nx := 36) (r1 := 0) (r2 := 0) (r3 := 0) rfl rfl ?_
              refine wi_iload_n (i := 1) (e := 2) (nx := 37) (r1 := 0) (r2 := 0) (r3 := 0) rfl rfl ?_
              refine wr_V (k0 := 236) (rest := []) (as := [.ref 236, vi 2]) (nx := 40) (r1 := 286) (r2 := 1) (r3 := 11) rfl rfl rfl (of_decide_eq_true rfl) rfl rfl (by decide) rfl rfl (of_decide_eq_true rfl) (of_decide_eq_true rfl) ?_
              have e52 : h35 238 98 = h 238 98 := ((u35 238 98 rfl).trans (u21 238 98 rfl))
              have e53 : h35 238 99 = h 238 99 := ((u35 238 99 rfl).trans (u21 238 99 rfl))
              have e54 : h35 238 100 = h 238 100 := ((u35 238 100 rfl).trans (u21 238 100 rfl))
              have e55 : h35 238 101 = h 238 101 := ((u35 238 101 rfl).trans (u21 238 101 rfl))
              have e56 : h35 238 102 = h 238 102 := ((u35 238 102 rfl).trans (u21 238 102 rfl))
              have e57 : h35 238 106 = h 238 106 := ((u35 238 106 rfl).trans (u21 238 106 rfl))
              have e58 : h35 238 73 = h 238 73 := ((u35 238 73 rfl).trans (u21 238 73 rfl))
              have e59 : h35 238 2 = h 238 2 := ((u35 238 2 rfl).trans (u21 238 2 rfl))
              have e60 : h35 238 119 = h 238 119 := ((u35 238 119 rfl).trans (u21 238 119 rfl))
              have e61 : h35 238 67 = h 238 67 := ((u35 238 67 rfl).trans (u21 238 67 rfl))
              have e62 : h35 238 69 = h 238 69 := ((u35 238 69 rfl).trans (u21 238 69 rfl))
              have e63 : h35 238 5 = h 238 5 := ((u35 238 5 rfl).trans (u21 238 5 rfl))
              refine ct_286_236_L2 hcr  g35   (show (h35 238 98) + (h35 238 99) + (h35 238 100) + (h35 238 101) + (h35 238 102) + (h35 238 106) = (h35 238 73) by omega) (show (h35 238 73) ≤ (h35 238 2) by omega) (show (h35 238 119) ≤ (h35 238 67) by omega) (show (h35 238 69) ≤ (h35 238 5) by omega) (show (h35 238 2) ≤ 12 * (h35 238 5) by omega) (show 1 ≤ (h35 238 102) by omega) (show (h35 238 100) ≤ 5 by omega) (fun h51 z64 g51 u51 (fz64 : 0 ≤ z64 ∧ z64 ≤ 11) (p51_0 : (h51 238 98) + (h51 238 99) + (h51 238 100) + (h51 238 101) + (h51 238 102) + (h51 238 106) = (h51 238 73)) (p51_1 : (h51 238 73) ≤ (h51 238 2)) (p51_2 : (h51 238 119) ≤ (h51 238 67)) (p51_3 : (h51 238 69) ≤ (h51 238 5)) (p51_4 : (h51 238 2) ≤ 12 * (h51 238 5)) => ?_)
              have F65 := F49.then (by decide +kernel) u51
              have e66 : h51 238 98 = h 238 98 := ((u51 238 98 rfl).trans ((u35 238 98 rfl).trans (u21 238 98 rfl)))
              have e67 : h51 238 99 = h 238 99 := ((u51 238 99 rfl).trans ((u35 238 99 rfl).trans (u21 238 99 rfl)))
              have b68 := gi_b (lo := 0) (hi := 6) g51 238 100 rfl
              have e69 : h51 238 101 = h 238 101 := ((u51 238 101 rfl).trans ((u35 238 101 rfl).trans (u21 238 101 rfl)))
              have b70 := gi_b (lo := 0) (hi := 3) g51 238 102 rfl
              have e71 : h51 238 106 = h 238 106 := ((u51 238 106 rfl).trans ((u35 238 106 rfl).trans (u21 238 106 rfl)))
              have e72 : h51 238 73 = h 238 73 := ((u51 238 73 rfl).trans ((u35 238 73 rfl).trans (u21 238 73 rfl)))
              have e73 : h51 238 2 = h 238 2 := ((u51 238 2 rfl).trans ((u35 238 2 rfl).trans (u21 238 2 rfl)))
              have e74 : h51 238 119 = h 238 119 := ((u51 238 119 rfl).trans ((u35 238 119 rfl).trans (u21 238 119 rfl)))
              have e75 : h51 238 67 = h 238 67 := ((u51 238 67 rfl).trans ((u35 238 67 rfl).trans (u21 238 67 rfl)))
              have e76 : h51 238 69 = h 238 69 := ((u51 238 69 rfl).trans ((u35 238 69 rfl).trans (u21 238 69 rfl)))
              have e77 : h51 238 5 = h 238 5 := ((u51 238 5 rfl).trans ((u35 238 5 rfl).trans (u21 238 5 rfl)))
              refine wk_i ?_
              refine wi_ireturn (nx := 41) (r1 := 0) (r2 := 0) (r3 := 0) rfl rfl ?_
              have gp78 := GPH.fr u51 rfl y35_0
              exact k h51 z64 g51 F65 (by omega) (show (h51 238 98) + (h51 238 99) + (h51 238 100) + (h51 238 101) + (h51 238 102) + (h51 238 106) = (h51 238 73) by omega) (show (h51 238 73) ≤ (h51 238 2) by omega) (show (h51 238 119) ≤ (h51 238 67) by omega) (show (h51 238 69) ≤ (h51 238 5) by omega) (show (h51 238 2) ≤ 12 * (h51 238 5) by omega) gp78
          ·
            rw [q31]
            refine wr_V (k0 := 236) (rest := []) (as := [.ref 236, vi 3]) (nx := 26) (r1 := 277) (r2 := 1) (r3 := 11) rfl rfl rfl (of_decide_eq_true rfl) rfl rfl (by decide) rfl rfl (of_decide_eq_true rfl) (of_decide_eq_true rfl) ?_
            refine wi_aload_n (i := 0) (x := 236) (nx := 1) (r1 := 0) (r2 := 0) (r3 := 0) rfl rfl ?_
            refine wr_gr (k0 := 236) (x := 238) (nx := 4) (r1 := 11) (r2 := 13) (r3 := 0) rfl rfl (by decide) rfl ⟨rfl, rfl⟩ rfl ?_
            refine wi_bipush (n := 98) (nx := 6) (r1 := 0) (r2 := 0) (r3 := 0) rfl (by decide) ?_
            refine wi_iload_n (i := 1) (e := 3) (nx := 7) (r1 := 0) (r2 := 0) (r3 := 0) rfl rfl ?_
            refine wr_addL (101) (nx := 8) (r1 := 0) (r2 := 0) (r3 := 0) rfl (by decide) ?_
            refine wr_ia (k0 := 238) (a := 101) (f := 101) (x := h 238 101) (nx := 9) (r1 := 0) (r2 := 0) (r3 := 0) rfl (by decide) rfl (by omega) (by omega) (by decide) (u21 238 101 rfl) ?_
            refine wi_aload_n (i := 0) (x := 236) (nx := 10) (r1 := 0) (r2 := 0) (r3 := 0) rfl rfl ?_
            refine wr_gr (k0 := 236) (x := 238) (nx := 13) (r1 := 11) (r2 := 13) (r3 := 0) rfl rfl (by decide) rfl ⟨rfl, rfl⟩ rfl ?_
            refine wi_bipush (n := 15) (nx := 15) (r1 := 0) (r2 := 0) (r3 := 0) rfl (by decide) ?_
            refine wi_iload_n (i := 1) (e := 3) (nx := 16) (r1 := 0) (r2 := 0) (r3 := 0) rfl rfl ?_
            refine wr_addL (18) (nx := 17) (r1 := 0) (r2 := 0) (r3 := 0) rfl (by decide) ?_
            have b32 := gi_b (lo := 0) (hi := 6) g 238 18 rfl
            refine wr_ia (k0 := 238) (a := 18) (f := 18) (x := h 238 18) (nx := 18) (r1 := 0) (r2 := 0) (r3 := 0) rfl (by decide) rfl (by omega) (by omega) (by decide) (u21 238 18 rfl) ?_
            refine wi_icmp (cd := .ge) (nx := 21) (r1 := 25) (r2 := 0) (r3 := 0) rfl (by omega) (by omega) (fun (q33 : (h 238 18) ≤ (h 238 101)) => ?_) (fun (q33 : ¬ ((h 238 18) ≤ (h 238 101))) => ?_)
            ·
              refine wi_iconst (n := 0) (nx := 26) (r1 := 0) (r2 := 0) (r3 := 0) rfl ?_
              refine wi_zreturn (nx := 27) (r1 := 0) (r2 := 0) (r3 := 0) rfl rfl (by omega) ?_
              refine wk_i ?_
              refine wi_if (cd := .ne) (nx := 29) (r1 := 31) (r2 := 0) (r3 := 0) rfl (by omega) (fun (q34 : 0 ≠ 0) => by exfalso; omega) (fun (q34 : ¬ (0 ≠ 0)) => ?_)
              refine wi_iconst (n := (-1)) (nx := 30) (r1 := 0) (r2 := 0) (r3 := 0) rfl ?_
              refine wi_ireturn (nx := 31) (r1 := 0) (r2 := 0) (r3 := 0) rfl rfl ?_
              have e35 : h21 238 98 = h 238 98 := (u21 238 98 rfl)
              have e36 : h21 238 99 = h 238 99 := (u21 238 99 rfl)
              have e37 : h21 238 100 = h 238 100 := (u21 238 100 rfl)
              have e38 : h21 238 101 = h 238 101 := (u21 238 101 rfl)
              have e39 : h21 238 102 = h 238 102 := (u21 238 102 rfl)
              have e40 : h21 238 106 = h 238 106 := (u21 238 106 rfl)
              have e41 : h21 238 73 = h 238 73 := (u21 238 73 rfl)
              have e42 : h21 238 2 = h 238 2 := (u21 238 2 rfl)
              have e43 : h21 238 119 = h 238 119 := (u21 238 119 rfl)
              have e44 : h21 238 67 = h 238 67 := (u21 238 67 rfl)
              have e45 : h21 238 69 = h 238 69 := (u21 238 69 rfl)
              have e46 : h21 238 5 = h 238 5 := (u21 238 5 rfl)
              have gp47 := GPH.fr u21 rfl gp0
              exact k h21 (-1) g21 F22 (by omega) (show (h21 238 98) + (h21 238 99) + (h21 238 100) + (h21 238 101) + (h21 238 102) + (h21 238 106) = (h21 238 73) by omega) (show (h21 238 73) ≤ (h21 238 2) by omega) (show (h21 238 119) ≤ (h21 238 67) by omega) (show (h21 238 69) ≤ (h21 238 5) by omega) (show (h21 238 2) ≤ 12 * (h21 238 5) by omega) gp47
            ·
              refine wi_iconst (n := 1) (nx := 22) (r1 := 0) (r2 := 0) (r3 := 0) rfl ?_
              refine wi_goto (nx := 25) (r1 := 26) (r2 := 0) (r3 := 0) rfl ?_
              refine wi_zreturn (nx := 27) (r1 := 0) (r2 := 0) (r3 := 0) rfl rfl (by omega) ?_
              refine wk_i ?_
              refine wi_if (cd := .ne) (nx := 29) (r1 := 31) (r2 := 0) (r3 := 0) rfl (by omega) (fun (q34 : 1 ≠ 0) => ?_) (fun (q34 : ¬ (1 ≠ 0)) => by exfalso; omega)
              refine wi_aload_n (i := 0) (x := 236) (nx := 32) (r1 := 0) (r2 := 0) (r3 := 0) rfl rfl ?_
              refine wr_V (k0 := 236) (rest := []) (as := [.ref 236]) (nx := 35) (r1 := 278) (r2 := 0) (r3 := 11) rfl rfl rfl (of_decide_eq_true rfl) rfl rfl (by decide) rfl rfl (of_decide_eq_true rfl) (of_decide_eq_true rfl) ?_
              have e36 : h21 238 98 = h 238 98 := (u21 238 98 rfl)
              have e37 : h21 238 99 = h 238 99 := (u21 238 99 rfl)
              have e38 : h21 238 100 = h 238 100 := (u21 238 100 rfl)
              have e39 : h21 238 101 = h 238 101 := (u21 238 101 rfl)
              have e40 : h21 238 102 = h 238 102 := (u21 238 102 rfl)
              have e41 : h21 238 106 = h 238 106 := (u21 238 106 rfl)
              have e42 : h21 238 73 = h 238 73 := (u21 238 73 rfl)
              have e43 : h21 238 2 = h 238 2 := (u21 238 2 rfl)
              have e44 : h21 238 119 = h 238 119 := (u21 238 119 rfl)
              have e45 : h21 238 67 = h 238 67 := (u21 238 67 rfl)
              have e46 : h21 238 69 = h 238 69 := (u21 238 69 rfl)
              have e47 : h21 238 5 = h 238 5 := (u21 238 5 rfl)
              have gp48 := GPH.fr u21 rfl gp0
              refine ct_278_236 hcr  g21   (show (h21 238 98) + (h21 238 99) + (h21 238 100) + (h21 238 101) + (h21 238 102) + (h21 238 106) = (h21 238 73) by omega) (show (h21 238 73) ≤ (h21 238 2) by omega) (show (h21 238 119) ≤ (h21 238 67) by omega) (show (h21 238 69) ≤ (h21 238 5) by omega) (show (h21 238 2) ≤ 12 * (h21 238 5) by omega) gp48 (fun h35 g35 u35 (p35_0 : 1 ≤ (h35 236 22)) y35_0 => ?_)
              have F49 := F22.then (by decide +kernel) u35
              have b50 := gi_b (lo := 0) (hi := 6) g35 236 22 rfl
              refine wk_n ?_
              refine wi_aload_n (i := 0) (x := 236) (nx := 36) (r1 := 0) (r2 := 0) (r3 := 0) rfl rfl ?_
              refine wi_iload_n (i := 1) (e := 3) (nx := 37) (r1 := 0) (r2 := 0) (r3 := 0) rfl rfl ?_
              refine wr_V (k0 := 236) (rest := []) (as := [.ref 236, vi 3]) (nx := 40) (r1 := 286) (r2 := 1) (r3 := 11) rfl rfl rfl (of_decide_eq_true rfl) rfl rfl (by decide) rfl rfl (of_decide_eq_true rfl) (of_decide_eq_true rfl) ?_
              have e52 : h35 238 98 = h 238 98 := ((u35 238 98 rfl).trans (u21 238 98 rfl))
              have e53 : h35 238 99 = h 238 99 := ((u35 238 99 rfl).trans (u21 238 99 rfl))
              have e54 : h35 238 100 = h 238 100 := ((u35 238 100 rfl).trans (u21 238 100 rfl))
              have e55 : h35 238 101 = h 238 101 := ((u35 238 101 rfl).trans (u21 238 101 rfl))
              have e56 : h35 238 102 = h 238 102 := ((u35 238 102 rfl).trans (u21 238 102 rfl))
              have e57 : h35 238 106 = h 238 106 := ((u35 238 106 rfl).trans (u21 238 106 rfl))
              have e58 : h35 238 73 = h 238 73 := ((u35 238 73 rfl).trans (u21 238 73 rfl))
              have e59 : h35 238 2 = h 238 2 := ((u35 238 2 rfl).trans (u21 238 2 rfl))
              have e60 : h35 238 119 = h 238 119 := ((u35 238 119 rfl).trans (u21 238 119 rfl))
              have e61 : h35 238 67 = h 238 67 := ((u35 238 67 rfl).trans (u21 238 67 rfl))
              have e62 : h35 238 69 = h 238 69 := ((u35 238 69 rfl).trans (u21 238 69 rfl))
              have e63 : h35 238 5 = h 238 5 := ((u35 238 5 rfl).trans (u21 238 5 rfl))
              refine ct_286_236_L3 hcr  g35   (show (h35 238 98) + (h35 238 99) + (h35 238 100) + (h35 238 101) + (h35 238 102) + (h35 238 106) = (h35 238 73) by omega) (show (h35 238 73) ≤ (h35 238 2) by omega) (show (h35 238 119) ≤ (h35 238 67) by omega) (show (h35 238 69) ≤ (h35 238 5) by omega) (show (h35 238 2) ≤ 12 * (h35 238 5) by omega) (show 1 ≤ (h35 238 102) by omega) (show (h35 238 101) ≤ 5 by omega) (fun h51 z64 g51 u51 (fz64 : 0 ≤ z64 ∧ z64 ≤ 11) (p51_0 : (h51 238 98) + (h51 238 99) + (h51 238 100) + (h51 238 101) + (h51 238 102) + (h51 238 106) = (h51 238 73)) (p51_1 : (h51 238 73) ≤ (h51 238 2)) (p51_2 : (h51 238 119) ≤ (h51 238 67)) (p51_3 : (h51 238 69) ≤ (h51 238 5)) (p51_4 : (h51 238 2) ≤ 12 * (h51 238 5)) => ?_)
              have F65 := F49.then (by decide +kernel) u51
              have e66 : h51 238 98 = h 238 98 := ((u51 238 98 rfl).trans ((u35 238 98 rfl).trans (u21 238 98 rfl)))
              have e67 : h51 238 99 = h 238 99 := ((u51 238 99 rfl).trans ((u35 238 99 rfl).trans (u21 238 99 rfl)))
              have e68 : h51 238 100 = h 238 100 := ((u51 238 100 rfl).trans ((u35 238 100 rfl).trans (u21 238 100 rfl)))
              have b69 := gi_b (lo := 0) (hi := 6) g51 238 101 rfl
              have b70 := gi_b (lo := 0) (hi := 3) g51 238 102 rfl
              have e71 : h51 238 106 = h 238 106 := ((u51 238 106 rfl).trans ((u35 238 106 rfl).trans (u21 238 106 rfl)))
              have e72 : h51 238 73 = h 238 73 := ((u51 238 73 rfl).trans ((u35 238 73 rfl).trans (u21 238 73 rfl)))
              have e73 : h51 238 2 = h 238 2 := ((u51 238 2 rfl).trans ((u35 238 2 rfl).trans (u21 238 2 rfl)))
              have e74 : h51 238 119 = h 238 119 := ((u51 238 119 rfl).trans ((u35 238 119 rfl).trans (u21 238 119 rfl)))
              have e75 : h51 238 67 = h 238 67 := ((u51 238 67 rfl).trans ((u35 238 67 rfl).trans (u21 238 67 rfl)))
              have e76 : h51 238 69 = h 238 69 := ((u51 238 69 rfl).trans ((u35 238 69 rfl).trans (u21 238 69 rfl)))
              have e77 : h51 238 5 = h 238 5 := ((u51 238 5 rfl).trans ((u35 238 5 rfl).trans (u21 238 5 rfl)))
              refine wk_i ?_
              refine wi_ireturn (nx := 41) (r1 := 0) (r2 := 0) (r3 := 0) rfl rfl ?_
              have gp78 := GPH.fr u51 rfl y35_0
              exact k h51 z64 g51 F65 (by omega) (show (h51 238 98) + (h51 238 99) + (h51 238 100) + (h51 238 101) + (h51 238 102) + (h51 238 106) = (h51 238 73) by omega) (show (h51 238 73) ≤ (h51 238 2) by omega) (show (h51 238 119) ≤ (h51 238 67) by omega) (show (h51 238 69) ≤ (h51 238 5) by omega) (show (h51 238 2) ≤ 12 * (h51 238 5) by omega) gp78
-- method 246: Model.bad(I)I
set_option maxHeartbeats 100000000 in
theorem ct_246_236 {L : Nat} {xs : Nat → Int32} {d b c : Nat} {h : hp} {cr : Nat → Nat → Option Nat} {Q : hp_Q} (hcr : CR cr)  (g : GI h) (a0 : Int) (q0_ : -2147483648 ≤ a0 ∧ a0 ≤ 2147483647)  (k : ∀ (h2 : hp) (z0 : Int) , GI h2 → FR [(236, 236, some (0, 0))] h h2 → (0 ≤ z0 ∧ z0 ≤ 999) → Q (.inl (some (vi z0))) (hp_w h2 cr) b c) : wp (md_xa (L, xs)) (d + 2) 246 (0, [(0, .ref 236), (1, vi a0)], [], hp_w h cr, b, c) Q := by
  have F0 : FR [(236, 236, some (0, 0))] h h := FR.refl
  refine wi_aload_n (i := 0) (x := 236) (nx := 1) (r1 := 0) (r2 := 0) (r3 := 0) rfl rfl ?_
  refine wi_aload_n (i := 0) (x := 236) (nx := 2) (r1 := 0) (r2 := 0) (r3 := 0) rfl rfl ?_
  refine wi_iload_n (i := 1) (e := a0) (nx := 3) (r1 := 0) (r2 := 0) (r3 := 0) rfl rfl ?_
  refine wr_V (k0 := 236) (rest := [.ref 236]) (as := [.ref 236, vi a0]) (nx := 6) (r1 := 244) (r2 := 1) (r3 := 11) rfl rfl rfl (of_decide_eq_true rfl) rfl rfl (by decide) rfl rfl (of_decide_eq_true rfl) (of_decide_eq_true rfl) ?_
  refine wi_iload_n (i := 1) (e := a0) (nx := 1) (r1 := 0) (r2 := 0) (r3 := 0) rfl rfl ?_
  refine wi_i2l (nx := 2) (r1 := 0) (r2 := 0) (r3 := 0) rfl (by omega) ?_
  refine wi_lconst (n := 0) (e := 0) (nx := 3) (r1 := 0) (r2 := 0) (r3 := 0) rfl (by decide) ?_
  refine wi_aload_n (i := 0) (x := 236) (nx := 4) (r1 := 0) (r2 := 0) (r3 := 0) rfl rfl ?_
  refine wr_gr (k0 := 236) (x := 238) (nx := 7) (r1 := 11) (r2 := 13) (r3 := 0) rfl rfl (by decide) rfl ⟨rfl, rfl⟩ rfl ?_
  refine wi_iconst (n := 2) (nx := 8) (r1 := 0) (r2 := 0) (r3 := 0) rfl ?_
  have b1 := gi_b (lo := 0) (hi := 12) g 238 2 rfl
  refine wr_ia (k0 := 238) (a := 2) (f := 2) (x := h 238 2) (nx := 9) (r1 := 0) (r2 := 0) (r3 := 0) rfl (by decide) rfl (by omega) (by omega) (by decide) rfl ?_
  refine wi_iconst (n := 1) (nx := 10) (r1 := 0) (r2 := 0) (r3 := 0) rfl ?_
  refine wr_sub (nx := 11) (r1 := 0) (r2 := 0) (r3 := 0) rfl (fun e2 (fe2 : e2 = (h 238 2) - 1) => ?_)
  refine wi_i2l (nx := 12) (r1 := 0) (r2 := 0) (r3 := 0) rfl (by omega) ?_
  refine wi_S (rest := []) (as := [vl a0, vl 0, vl e2]) (nx := 15) (r1 := 210) (r2 := 19) (r3 := 0) rfl rfl rfl (of_decide_eq_true rfl) rfl rfl (of_decide_eq_true rfl) (of_decide_eq_true rfl) ?_
  refine wi_lload_n (i := 0) (e := a0) (nx := 1) (r1 := 0) (r2 := 0) (r3 := 0) rfl rfl ?_
  refine wi_lload_n (i := 2) (e := 0) (nx := 2) (r1 := 0) (r2 := 0) (r3 := 0) rfl rfl ?_
  refine wi_lcmp (a := a0) (e := 0) (nx := 3) (r1 := 0) (r2 := 0) (r3 := 0) rfl (by omega) (by omega) (fun r3 (fr3 : (r3 = -1 ∧ a0 < 0) ∨ (r3 = 0 ∧ a0 = 0) ∨ (r3 = 1 ∧ 0 < a0)) => ?_)
  refine wi_if (cd := .lt) (nx := 6) (r1 := 17) (r2 := 0) (r3 := 0) rfl (by omega) (fun (q4 : r3 < 0) => ?_) (fun (q4 : ¬ (r3 < 0)) => ?_)
  ·
    refine wi_iconst (n := 0) (nx := 18) (r1 := 0) (r2 := 0) (r3 := 0) rfl ?_
    refine wi_zreturn (nx := 19) (r1 := 0) (r2 := 0) (r3 := 0) rfl rfl (by omega) ?_
    refine wk_i ?_
    refine wi_zreturn (nx := 16) (r1 := 0) (r2 := 0) (r3 := 0) rfl rfl (by omega) ?_
    refine wk_i ?_
    refine wr_V (k0 := 236) (rest := []) (as := [.ref 236, vi 0]) (nx := 9) (r1 := 206) (r2 := 1) (r3 := 11) rfl rfl rfl (of_decide_eq_true rfl) rfl rfl (by decide) rfl rfl (of_decide_eq_true rfl) (of_decide_eq_true rfl) ?_
    refine wi_aload_n (i := 0) (x := 236) (nx := 1) (r1 := 0) (r2 := 0) (r3 := 0) rfl rfl ?_
    refine wi_iload_n (i := 1) (e := 0) (nx := 2) (r1 := 0) (r2 := 0) (r3 := 0) rfl rfl ?_
    refine wi_if (cd := .ne) (nx := 5) (r1 := 9) (r2 := 0) (r3 := 0) rfl (by omega) (fun (q5 : 0 ≠ 0) => by exfalso; omega) (fun (q5 : ¬ (0 ≠ 0)) => ?_)
    refine wi_iconst (n := 1) (nx := 6) (r1 := 0) (r2 := 0) (r3 := 0) rfl ?_
    refine wi_goto (nx := 9) (r1 := 10) (r2 := 0) (r3 := 0) rfl ?_
    refine wi_S (rest := [.ref 236]) (as := [vi 1]) (nx := 13) (r1 := 207) (r2 := 17) (r3 := 0) rfl rfl rfl (of_decide_eq_true rfl) rfl rfl (of_decide_eq_true rfl) (of_decide_eq_true rfl) ?_
    refine wi_iload_n (i := 0) (e := 1) (nx := 1) (r1 := 0) (r2 := 0) (r3 := 0) rfl rfl ?_
    refine wi_if (cd := .eq) (nx := 4) (r1 := 8) (r2 := 0) (r3 := 0) rfl (by omega) (fun (q6 : 1 = 0) => by exfalso; omega) (fun (q6 : ¬ (1 = 0)) => ?_)
    refine wi_iconst (n := 1) (nx := 5) (r1 := 0) (r2 := 0) (r3 := 0) rfl ?_
    refine wi_goto (nx := 8) (r1 := 9) (r2 := 0) (r3 := 0) rfl ?_
    refine wi_ireturn (nx := 10) (r1 := 0) (r2 := 0) (r3 := 0) rfl rfl ?_
    refine wk_i ?_
    refine wr_pf0 (k0 := 236) (x := 1) (bl := 0) (bh := 2) (nx := 16) (r1 := 11) (r2 := 0) (r3 := 0) rfl (by decide) rfl ⟨rfl, rfl⟩ rfl rfl g rfl (by omega) (fun h7 g7 w7 u7 => ?_)
    have F8 := F0.then rfl u7
    refine wi_iload_n (i := 1) (e := 0) (nx := 17) (r1 := 0) (r2 := 0) (r3 := 0) rfl rfl ?_
    refine wi_zreturn (nx := 18) (r1 := 0) (r2 := 0) (r3 := 0) rfl rfl (by omega) ?_
    refine wk_i ?_
    refine wi_if (cd := .eq) (nx := 12) (r1 := 24) (r2 := 0) (r3 := 0) rfl (by omega) (fun (q9 : 0 = 0) => ?_) (fun (q9 : ¬ (0 = 0)) => by exfalso; omega)
    refine wi_iconst (n := 0) (nx := 25) (r1 := 0) (r2 := 0) (r3 := 0) rfl ?_
    refine wi_ireturn (nx := 26) (r1 := 0) (r2 := 0) (r3 := 0) rfl rfl ?_
    exact k h7 0 g7 F8 (by omega)
  ·
    refine wi_lload_n (i := 0) (e := a0) (nx := 7) (r1 := 0) (r2 := 0) (r3 := 0) rfl rfl ?_
    refine wi_lload (i := 4) (e := e2) (nx := 9) (r1 := 0) (r2 := 0) (r3 := 0) rfl rfl ?_
    refine wi_lcmp (a := a0) (e := e2) (nx := 10) (r1 := 0) (r2 := 0) (r3 := 0) rfl (by omega) (by omega) (fun r5 (fr5 : (r5 = -1 ∧ a0 < e2) ∨ (r5 = 0 ∧ a0 = e2) ∨ (r5 = 1 ∧ e2 < a0)) => ?_)
    refine wi_if (cd := .gt) (nx := 13) (r1 := 17) (r2 := 0) (r3 := 0) rfl (by omega) (fun (q6 : 0 < r5) => ?_) (fun (q6 : ¬ (0 < r5)) => ?_)
    ·
      refine wi_iconst (n := 0) (nx := 18) (r1 := 0) (r2 := 0) (r3 := 0) rfl ?_
      refine wi_zreturn (nx := 19) (r1 := 0) (r2 := 0) (r3 := 0) rfl rfl (by omega) ?_
      refine wk_i ?_
      refine wi_zreturn (nx := 16) (r1 := 0) (r2 := 0) (r3 := 0) rfl rfl (by omega) ?_
      refine wk_i ?_
      refine wr_V (k0 := 236) (rest := []) (as := [.ref 236, vi 0]) (nx := 9) (r1 := 206) (r2 := 1) (r3 := 11) rfl rfl rfl (of_decide_eq_true rfl) rfl rfl (by decide) rfl rfl (of_decide_eq_true rfl) (of_decide_eq_true rfl) ?_
      refine wi_aload_n (i := 0) (x := 236) (nx := 1) (r1 := 0) (r2 := 0) (r3 := 0) rfl rfl ?_
      refine wi_iload_n (i := 1) (e := 0) (nx := 2) (r1 := 0) (r2 := 0) (r3 := 0) rfl rfl ?_
      refine wi_if (cd := .ne) (nx := 5) (r1 := 9) (r2 := 0) (r3 := 0) rfl (by omega) (fun (q7 : 0 ≠ 0) => by exfalso; omega) (fun (q7 : ¬ (0 ≠ 0)) => ?_)
      refine wi_iconst (n := 1) (nx := 6) (r1 := 0) (r2 := 0) (r3 := 0) rfl ?_
      refine wi_goto (nx := 9) (r1 := 10) (r2 := 0) (r3 := 0) rfl ?_
      refine wi_S (rest := [.ref 236]) (as := [vi 1]) (nx := 13) (r1 := 207) (r2 := 17) (r3 := 0) rfl rfl rfl (of_decide_eq_true rfl) rfl rfl (of_decide_eq_true rfl) (of_decide_eq_true rfl) ?_
      refine wi_iload_n (i := 0) (e := 1) (nx := 1) (r1 := 0) (r2 := 0) (r3 := 0) rfl rfl ?_
      refine wi_if (cd := .eq) (nx := 4) (r1 := 8) (r2 := 0) (r3 := 0) rfl (by omega) (fun (q8 : 1 = 0) => by exfalso; omega) (fun (q8 : ¬ (1 = 0)) => ?_)
      refine wi_iconst (n := 1) (nx := 5) (r1 := 0) (r2 := 0) (r3 := 0) rfl ?_
      refine wi_goto (nx := 8) (r1 := 9) (r2 := 0) (r3 := 0) rfl ?_
      refine wi_ireturn (nx := 10) (r1 := 0) (r2 := 0) (r3 := 0) rfl rfl ?_
      refine wk_i ?_
      refine wr_pf0 (k0 := 236) (x := 1) (bl := 0) (bh := 2) (nx := 16) (r1 := 11) (r2 := 0) (r3 := 0) rfl (by decide) rfl ⟨rfl, rfl⟩ rfl rfl g rfl (by omega) (fun h9 g9 w9 u9 => ?_)
      have F10 := F0.then rfl u9
      refine wi_iload_n (i := 1) (e := 0) (nx := 17) (r1 := 0) (r2 := 0) (r3 := 0) rfl rfl ?_
      refine wi_zreturn (nx := 18) (r1 := 0) (r2 := 0) (r3 := 0) rfl rfl (by omega) ?_
      refine wk_i ?_
      refine wi_if (cd := .eq) (nx := 12) (r1 := 24) (r2 := 0) (r3 := 0) rfl (by omega) (fun (q11 : 0 = 0) => ?_) (fun (q11 : ¬ (0 = 0)) => by exfalso; omega)
      refine wi_iconst (n := 0) (nx := 25) (r1 := 0) (r2 := 0) (r3 := 0) rfl ?_
      refine wi_ireturn (nx := 26) (r1 := 0) (r2 := 0) (r3 := 0) rfl rfl ?_
      exact k h9 0 g9 F10 (by omega)
    ·
      refine wi_iconst (n := 1) (nx := 14) (r1 := 0) (r2 := 0) (r3 := 0) rfl ?_
      refine wi_goto (nx := 17) (r1 := 18) (r2 := 0) (r3 := 0) rfl ?_
      refine wi_zreturn (nx := 19) (r1 := 0) (r2 := 0) (r3 := 0) rfl rfl (by omega) ?_
      refine wk_i ?_
      refine wi_zreturn (nx := 16) (r1 := 0) (r2 := 0) (r3 := 0) rfl rfl (by omega) ?_
      refine wk_i ?_
      refine wr_V (k0 := 236) (rest := []) (as := [.ref 236, vi 1]) (nx := 9) (r1 := 206) (r2 := 1) (r3 := 11) rfl rfl rfl (of_decide_eq_true rfl) rfl rfl (by decide) rfl rfl (of_decide_eq_true rfl) (of_decide_eq_true rfl) ?_
      refine wi_aload_n (i := 0) (x := 236) (nx := 1) (r1 := 0) (r2 := 0) (r3 := 0) rfl rfl ?_
      refine wi_iload_n (i := 1) (e := 1) (nx := 2) (r1 := 0) (r2 := 0) (r3 := 0) rfl rfl ?_
      refine wi_if (cd := .ne) (nx := 5) (r1 := 9) (r2 := 0) (r3 := 0) rfl (by omega) (fun (q7 : 1 ≠ 0) => ?_) (fun (q7 : ¬ (1 ≠ 0)) => by exfalso; omega)
      refine wi_iconst (n := 0) (nx := 10) (r1 := 0) (r2 := 0) (r3 := 0) rfl ?_
      refine wi_S (rest := [.ref 236]) (as := [vi 0]) (nx := 13) (r1 := 207) (r2 := 17) (r3 := 0) rfl rfl rfl (of_decide_eq_true rfl) rfl rfl (of_decide_eq_true rfl) (of_decide_eq_true rfl) ?_
      refine wi_iload_n (i := 0) (e := 0) (nx := 1) (r1 := 0) (r2 := 0) (r3 := 0) rfl rfl ?_
      refine wi_if (cd := .eq) (nx := 4) (r1 := 8) (r2 := 0) (r3 := 0) rfl (by omega) (fun (q8 : 0 = 0) => ?_) (fun (q8 : ¬ (0 = 0)) => by exfalso; omega)
      refine wi_iconst (n := 0) (nx := 9) (r1 := 0) (r2 := 0) (r3 := 0) rfl ?_
      refine wi_ireturn (nx := 10) (r1 := 0) (r2 := 0) (r3 := 0) rfl rfl ?_
      refine wk_i ?_
      refine wr_pf0 (k0 := 236) (x := 0) (bl := 0) (bh := 2) (nx := 16) (r1 := 11) (r2 := 0) (r3 := 0) rfl (by decide) rfl ⟨rfl, rfl⟩ rfl rfl g rfl (by omega) (fun h9 g9 w9 u9 => ?_)
      have F10 := F0.then rfl u9
      refine wi_iload_n (i := 1) (e := 1) (nx := 17) (r1 := 0) (r2 := 0) (r3 := 0) rfl rfl ?_
      refine wi_zreturn (nx := 18) (r1 := 0) (r2 := 0) (r3 := 0) rfl rfl (by omega) ?_
      refine wk_i ?_
      refine wi_if (cd := .eq) (nx := 12) (r1 := 24) (r2 := 0) (r3 := 0) rfl (by omega) (fun (q11 : 1 = 0) => by exfalso; omega) (fun (q11 : ¬ (1 = 0)) => ?_)
      refine wi_aload_n (i := 0) (x := 236) (nx := 13) (r1 := 0) (r2 := 0) (r3 := 0) rfl rfl ?_
      refine wr_gr (k0 := 236) (x := 238) (nx := 16) (r1 := 11) (r2 := 13) (r3 := 0) rfl rfl (by decide) rfl ⟨rfl, rfl⟩ rfl ?_
      refine wi_bipush (n := 43) (nx := 18) (r1 := 0) (r2 := 0) (r3 := 0) rfl (by decide) ?_
      refine wi_iload_n (i := 1) (e := a0) (nx := 19) (r1 := 0) (r2 := 0) (r3 := 0) rfl rfl ?_
      refine wr_add (nx := 20) (r1 := 0) (r2 := 0) (r3 := 0) rfl (fun e12 (fe12 : e12 = 43 + a0) => ?_)
      obtain ⟨i13, ei13⟩ : ∃ q : Nat, e12 = (q : Int) := ⟨(e12).toNat, by omega⟩
      have b14 := gi_b (lo := 0) (hi := 999) g 238 i13 (gi_rg 43 12 (fun _ => rfl) (by decide +kernel) (by omega))
      refine wr_ia (k0 := 238) (a := e12) (f := i13) (x := h 238 i13) (nx := 21) (r1 := 0) (r2 := 0) (r3 := 0) rfl (by decide) rfl (by omega) (by omega) (by decide) (u9 238 i13 (fn_a (by omega) fn_0)) ?_
      refine wi_goto (nx := 24) (r1 := 25) (r2 := 0) (r3 := 0) rfl ?_
      refine wi_ireturn (nx := 26) (r1 := 0) (r2 := 0) (r3 := 0) rfl rfl ?_
      exact k h9 (h 238 i13) g9 F10 (by omega)
-- method 243: Model.body(I)I
set_option maxHeartbeats 100000000 in
theorem ct_243_236 {L : Nat} {xs : Nat → Int32} {d b c : Nat} {h : hp} {cr : Nat → Nat → Option Nat} {Q : hp_Q} (hcr : CR cr)  (g : GI h) (a0 : Int) (q0_ : -2147483648 ≤ a0 ∧ a0 ≤ 2147483647)  (k : ∀ (h2 : hp) (z0 : Int) , GI h2 → FR [(236, 236, some (0, 0))] h h2 → (0 ≤ z0 ∧ z0 ≤ 999) → Q (.inl (some (vi z0))) (hp_w h2 cr) b c) : wp (md_xa (L, xs)) (d + 2) 243 (0, [(0, .ref 236), (1, vi a0)], [], hp_w h cr, b, c) Q := by
  have F0 : FR [(236, 236, some (0, 0))] h h := FR.refl
  refine wi_aload_n (i := 0) (x := 236) (nx := 1) (r1 := 0) (r2 := 0) (r3 := 0) rfl rfl ?_
  refine wi_aload_n (i := 0) (x := 236) (nx := 2) (r1 := 0) (r2 := 0) (r3 := 0) rfl rfl ?_
  refine wi_iload_n (i := 1) (e := a0) (nx := 3) (r1 := 0) (r2 := 0) (r3 := 0) rfl rfl ?_
  refine wr_V (k0 := 236) (rest := [.ref 236]) (as := [.ref 236, vi a0]) (nx := 6) (r1 := 244) (r2 := 1) (r3 := 11) rfl rfl rfl (of_decide_eq_true rfl) rfl rfl (by decide) rfl rfl (of_decide_eq_true rfl) (of_decide_eq_true rfl) ?_
  refine wi_iload_n (i := 1) (e := a0) (nx := 1) (r1 := 0) (r2 := 0) (r3 := 0) rfl rfl ?_
  refine wi_i2l (nx := 2) (r1 := 0) (r2 := 0) (r3 := 0) rfl (by omega) ?_
  refine wi_lconst (n := 0) (e := 0) (nx := 3) (r1 := 0) (r2 := 0) (r3 := 0) rfl (by decide) ?_
  refine wi_aload_n (i := 0) (x := 236) (nx := 4) (r1 := 0) (r2 := 0) (r3 := 0) rfl rfl ?_
  refine wr_gr (k0 := 236) (x := 238) (nx := 7) (r1 := 11) (r2 := 13) (r3 := 0) rfl rfl (by decide) rfl ⟨rfl, rfl⟩ rfl ?_
  refine wi_iconst (n := 2) (nx := 8) (r1 := 0) (r2 := 0) (r3 := 0) rfl ?_
  have b1 := gi_b (lo := 0) (hi := 12) g 238 2 rfl
  refine wr_ia (k0 := 238) (a := 2) (f := 2) (x := h 238 2) (nx := 9) (r1 := 0) (r2 := 0) (r3 := 0) rfl (by decide) rfl (by omega) (by omega) (by decide) rfl ?_
  refine wi_iconst (n := 1) (nx := 10) (r1 := 0) (r2 := 0) (r3 := 0) rfl ?_
  refine wr_sub (nx := 11) (r1 := 0) (r2 := 0) (r3 := 0) rfl (fun e2 (fe2 : e2 = (h 238 2) - 1) => ?_)
  refine wi_i2l (nx := 12) (r1 := 0) (r2 := 0) (r3 := 0) rfl (by omega) ?_
  refine wi_S (rest := []) (as := [vl a0, vl 0, vl e2]) (nx := 15) (r1 := 210) (r2 := 19) (r3 := 0) rfl rfl rfl (of_decide_eq_true rfl) rfl rfl (of_decide_eq_true rfl) (of_decide_eq_true rfl) ?_
  refine wi_lload_n (i := 0) (e := a0) (nx := 1) (r1 := 0) (r2 := 0) (r3 := 0) rfl rfl ?_
  refine wi_lload_n (i := 2) (e := 0) (nx := 2) (r1 := 0) (r2 := 0) (r3 := 0) rfl rfl ?_
  refine wi_lcmp (a := a0) (e := 0) (nx := 3) (r1 := 0) (r2 := 0) (r3 := 0) rfl (by omega) (by omega) (fun r3 (fr3 : (r3 = -1 ∧ a0 < 0) ∨ (r3 = 0 ∧ a0 = 0) ∨ (r3 = 1 ∧ 0 < a0)) => ?_)
  refine wi_if (cd := .lt) (nx := 6) (r1 := 17) (r2 := 0) (r3 := 0) rfl (by omega) (fun (q4 : r3 < 0) => ?_) (fun (q4 : ¬ (r3 < 0)) => ?_)
  ·
    refine wi_iconst (n := 0) (nx := 18) (r1 := 0) (r2 := 0) (r3 := 0) rfl ?_
    refine wi_zreturn (nx := 19) (r1 := 0) (r2 := 0) (r3 := 0) rfl rfl (by omega) ?_
    refine wk_i ?_
    refine wi_zreturn (nx := 16) (r1 := 0) (r2 := 0) (r3 := 0) rfl rfl (by omega) ?_
    refine wk_i ?_
    refine wr_V (k0 := 236) (rest := []) (as := [.ref 236, vi 0]) (nx := 9) (r1 := 206) (r2 := 1) (r3 := 11) rfl rfl rfl (of_decide_eq_true rfl) rfl rfl (by decide) rfl rfl (of_decide_eq_true rfl) (of_decide_eq_true rfl) ?_
    refine wi_aload_n (i := 0) (x := 236) (nx := 1) (r1 := 0) (r2 := 0) (r3 := 0) rfl rfl ?_
    refine wi_iload_n (i := 1) (e := 0) (nx := 2) (r1 := 0) (r2 := 0) (r3 := 0) rfl rfl ?_
    refine wi_if (cd := .ne) (nx := 5) (r1 := 9) (r2 := 0) (r3 := 0) rfl (by omega) (fun (q5 : 0 ≠ 0) => by exfalso; omega) (fun (q5 : ¬ (0 ≠ 0)) => ?_)
    refine wi_iconst (n := 1) (nx := 6) (r1 := 0) (r2 := 0) (r3 := 0) rfl ?_
    refine wi_goto (nx := 9) (r1 := 10) (r2 := 0) (r3 := 0) rfl ?_
    refine wi_S (rest := [.ref 236]) (as := [vi 1]) (nx := 13) (r1 := 207) (r2 := 17) (r3 := 0) rfl rfl rfl (of_decide_eq_true rfl) rfl rfl (of_decide_eq_true rfl) (of_decide_eq_true rfl) ?_
    refine wi_iload_n (i := 0) (e := 1) (nx := 1) (r1 := 0) (r2 := 0) (r3 := 0) rfl rfl ?_
    refine wi_if (cd := .eq) (nx := 4) (r1 := 8) (r2 := 0) (r3 := 0) rfl (by omega) (fun (q6 : 1 = 0) => by exfalso; omega) (fun (q6 : ¬ (1 = 0)) => ?_)
    refine wi_iconst (n := 1) (nx := 5) (r1 := 0) (r2 := 0) (r3 := 0) rfl ?_
    refine wi_goto (nx := 8) (r1 := 9) (r2 := 0) (r3 := 0) rfl ?_
    refine wi_ireturn (nx := 10) (r1 := 0) (r2 := 0) (r3 := 0) rfl rfl ?_
    refine wk_i ?_
    refine wr_pf0 (k0 := 236) (x := 1) (bl := 0) (bh := 2) (nx := 16) (r1 := 11) (r2 := 0) (r3 := 0) rfl (by decide) rfl ⟨rfl, rfl⟩ rfl rfl g rfl (by omega) (fun h7 g7 w7 u7 => ?_)
    have F8 := F0.then rfl u7
    refine wi_iload_n (i := 1) (e := 0) (nx := 17) (r1 := 0) (r2 := 0) (r3 := 0) rfl rfl ?_
    refine wi_zreturn (nx := 18) (r1 := 0) (r2 := 0) (r3 := 0) rfl rfl (by omega) ?_
    refine wk_i ?_
    refine wi_if (cd := .eq) (nx := 12) (r1 := 24) (r2 := 0) (r3 := 0) rfl (by omega) (fun (q9 : 0 = 0) => ?_) (fun (q9 : ¬ (0 = 0)) => by exfalso; omega)
    refine wi_iconst (n := 0) (nx := 25) (r1 := 0) (r2 := 0) (r3 := 0) rfl ?_
    refine wi_ireturn (nx := 26) (r1 := 0) (r2 := 0) (r3 := 0) rfl rfl ?_
    exact k h7 0 g7 F8 (by omega)
  ·
    refine wi_lload_n (i := 0) (e := a0) (nx := 7) (r1 := 0) (r2 := 0) (r3 := 0) rfl rfl ?_
    refine wi_lload (i := 4) (e := e2) (nx := 9) (r1 := 0) (r2 := 0) (r3 := 0) rfl rfl ?_
    refine wi_lcmp (a := a0) (e := e2) (nx := 10) (r1 := 0) (r2 := 0) (r3 := 0) rfl (by omega) (by omega) (fun r5 (fr5 : (r5 = -1 ∧ a0 < e2) ∨ (r5 = 0 ∧ a0 = e2) ∨ (r5 = 1 ∧ e2 < a0)) => ?_)
    refine wi_if (cd := .gt) (nx := 13) (r1 := 17) (r2 := 0) (r3 := 0) rfl (by omega) (fun (q6 : 0 < r5) => ?_) (fun (q6 : ¬ (0 < r5)) => ?_)
    ·
      refine wi_iconst (n := 0) (nx := 18) (r1 := 0) (r2 := 0) (r3 := 0) rfl ?_
      refine wi_zreturn (nx := 19) (r1 := 0) (r2 := 0) (r3 := 0) rfl rfl (by omega) ?_
      refine wk_i ?_
      refine wi_zreturn (nx := 16) (r1 := 0) (r2 := 0) (r3 := 0) rfl rfl (by omega) ?_
      refine wk_i ?_
      refine wr_V (k0 := 236) (rest := []) (as := [.ref 236, vi 0]) (nx := 9) (r1 := 206) (r2 := 1) (r3 := 11) rfl rfl rfl (of_decide_eq_true rfl) rfl rfl (by decide) rfl rfl (of_decide_eq_true rfl) (of_decide_eq_true rfl) ?_
      refine wi_aload_n (i := 0) (x := 236) (nx := 1) (r1 := 0) (r2 := 0) (r3 := 0) rfl rfl ?_
      refine wi_iload_n (i := 1) (e := 0) (nx := 2) (r1 := 0) (r2 := 0) (r3 := 0) rfl rfl ?_
      refine wi_if (cd := .ne) (nx := 5) (r1 := 9) (r2 := 0) (r3 := 0) rfl (by omega) (fun (q7 : 0 ≠ 0) => by exfalso; omega) (fun (q7 : ¬ (0 ≠ 0)) => ?_)
      refine wi_iconst (n := 1) (nx := 6) (r1 := 0) (r2 := 0) (r3 := 0) rfl ?_
      refine wi_goto (nx := 9) (r1 := 10) (r2 := 0) (r3 := 0) rfl ?_
      refine wi_S (rest := [.ref 236]) (as := [vi 1]) (nx := 13) (r1 := 207) (r2 := 17) (r3 := 0) rfl rfl rfl (of_decide_eq_true rfl) rfl rfl (of_decide_eq_true rfl) (of_decide_eq_true rfl) ?_
      refine wi_iload_n (i := 0) (e := 1) (nx := 1) (r1 := 0) (r2 := 0) (r3 := 0) rfl rfl ?_
      refine wi_if (cd := .eq) (nx := 4) (r1 := 8) (r2 := 0) (r3 := 0) rfl (by omega) (fun (q8 : 1 = 0) => by exfalso; omega) (fun (q8 : ¬ (1 = 0)) => ?_)
      refine wi_iconst (n := 1) (nx := 5) (r1 := 0) (r2 := 0) (r3 := 0) rfl ?_
      refine wi_goto (nx := 8) (r1 := 9) (r2 := 0) (r3 := 0) rfl ?_
      refine wi_ireturn (nx := 10) (r1 := 0) (r2 := 0) (r3 := 0) rfl rfl ?_
      refine wk_i ?_
      refine wr_pf0 (k0 := 236) (x := 1) (bl := 0) (bh := 2) (nx := 16) (r1 := 11) (r2 := 0) (r3 := 0) rfl (by decide) rfl ⟨rfl, rfl⟩ rfl rfl g rfl (by omega) (fun h9 g9 w9 u9 => ?_)
      have F10 := F0.then rfl u9
      refine wi_iload_n (i := 1) (e := 0) (nx := 17) (r1 := 0) (r2 := 0) (r3 := 0) rfl rfl ?_
      refine wi_zreturn (nx := 18) (r1 := 0) (r2 := 0) (r3 := 0) rfl rfl (by omega) ?_
      refine wk_i ?_
      refine wi_if (cd := .eq) (nx := 12) (r1 := 24) (r2 := 0) (r3 := 0) rfl (by omega) (fun (q11 : 0 = 0) => ?_) (fun (q11 : ¬ (0 = 0)) => by exfalso; omega)
      refine wi_iconst (n := 0) (nx := 25) (r1 := 0) (r2 := 0) (r3 := 0) rfl ?_
      refine wi_ireturn (nx := 26) (r1 := 0) (r2 := 0) (r3 := 0) rfl rfl ?_
      exact k h9 0 g9 F10 (by omega)
    ·
      refine wi_iconst (n := 1) (nx := 14) (r1 := 0) (r2 := 0) (r3 := 0) rfl ?_
      refine wi_goto (nx := 17) (r1 := 18) (r2 := 0) (r3 := 0) rfl ?_
      refine wi_zreturn (nx := 19) (r1 := 0) (r2 := 0) (r3 := 0) rfl rfl (by omega) ?_
      refine wk_i ?_
      refine wi_zreturn (nx := 16) (r1 := 0) (r2 := 0) (r3 := 0) rfl rfl (by omega) ?_
      refine wk_i ?_
      refine wr_V (k0 := 236) (rest := []) (as := [.ref 236, vi 1]) (nx := 9) (r1 := 206) (r2 := 1) (r3 := 11) rfl rfl rfl (of_decide_eq_true rfl) rfl rfl (by decide) rfl rfl (of_decide_eq_true rfl) (of_decide_eq_true rfl) ?_
      refine wi_aload_n (i := 0) (x := 236) (nx := 1) (r1 := 0) (r2 := 0) (r3 := 0) rfl rfl ?_
      refine wi_iload_n (i := 1) (e := 1) (nx := 2) (r1 := 0) (r2 := 0) (r3 := 0) rfl rfl ?_
      refine wi_if (cd := .ne) (nx := 5) (r1 := 9) (r2 := 0) (r3 := 0) rfl (by omega) (fun (q7 : 1 ≠ 0) => ?_) (fun (q7 : ¬ (1 ≠ 0)) => by exfalso; omega)
      refine wi_iconst (n := 0) (nx := 10) (r1 := 0) (r2 := 0) (r3 := 0) rfl ?_
      refine wi_S (rest := [.ref 236]) (as := [vi 0]) (nx := 13) (r1 := 207) (r2 := 17) (r3 := 0) rfl rfl rfl (of_decide_eq_true rfl) rfl rfl (of_decide_eq_true rfl) (of_decide_eq_true rfl) ?_
      refine wi_iload_n (i := 0) (e := 0) (nx := 1) (r1 := 0) (r2 := 0) (r3 := 0) rfl rfl ?_
      refine wi_if (cd := .eq) (nx := 4) (r1 := 8) (r2 := 0) (r3 := 0) rfl (by omega) (fun (q8 : 0 = 0) => ?_) (fun (q8 : ¬ (0 = 0)) => by exfalso; omega)
      refine wi_iconst (n := 0) (nx := 9) (r1 := 0) (r2 := 0) (r3 := 0) rfl ?_
      refine wi_ireturn (nx := 10) (r1 := 0) (r2 := 0) (r3 := 0) rfl rfl ?_
      refine wk_i ?_
      refine wr_pf0 (k0 := 236) (x := 0) (bl := 0) (bh := 2) (nx := 16) (r1 := 11) (r2 := 0) (r3 := 0) rfl (by decide) rfl ⟨rfl, rfl⟩ rfl rfl g rfl (by omega) (fun h9 g9 w9 u9 => ?_)
      have F10 := F0.then rfl u9
      refine wi_iload_n (i := 1) (e := 1) (nx := 17) (r1 := 0) (r2 := 0) (r3 := 0) rfl rfl ?_
      refine wi_zreturn (nx := 18) (r1 := 0) (r2 := 0) (r3 := 0) rfl rfl (by omega) ?_
      refine wk_i ?_
      refine wi_if (cd := .eq) (nx := 12) (r1 := 24) (r2 := 0) (r3 := 0) rfl (by omega) (fun (q11 : 1 = 0) => by exfalso; omega) (fun (q11 : ¬ (1 = 0)) => ?_)
      refine wi_aload_n (i := 0) (x := 236) (nx := 13) (r1 := 0) (r2 := 0) (r3 := 0) rfl rfl ?_
      refine wr_gr (k0 := 236) (x := 238) (nx := 16) (r1 := 11) (r2 := 13) (r3 := 0) rfl rfl (by decide) rfl ⟨rfl, rfl⟩ rfl ?_
      refine wi_bipush (n := 19) (nx := 18) (r1 := 0) (r2 := 0) (r3 := 0) rfl (by decide) ?_
      refine wi_iload_n (i := 1) (e := a0) (nx := 19) (r1 := 0) (r2 := 0) (r3 := 0) rfl rfl ?_
      refine wr_add (nx := 20) (r1 := 0) (r2 := 0) (r3 := 0) rfl (fun e12 (fe12 : e12 = 19 + a0) => ?_)
      obtain ⟨i13, ei13⟩ : ∃ q : Nat, e12 = (q : Int) := ⟨(e12).toNat, by omega⟩
      have b14 := gi_b (lo := 0) (hi := 999) g 238 i13 (gi_rg 19 12 (fun _ => rfl) (by decide +kernel) (by omega))
      refine wr_ia (k0 := 238) (a := e12) (f := i13) (x := h 238 i13) (nx := 21) (r1 := 0) (r2 := 0) (r3 := 0) rfl (by decide) rfl (by omega) (by omega) (by decide) (u9 238 i13 (fn_a (by omega) fn_0)) ?_
      refine wi_goto (nx := 24) (r1 := 25) (r2 := 0) (r3 := 0) rfl ?_
      refine wi_ireturn (nx := 26) (r1 := 0) (r2 := 0) (r3 := 0) rfl rfl ?_
      exact k h9 (h 238 i13) g9 F10 (by omega)
-- method 252: Model.whereIs(I)I
set_option maxHeartbeats 100000000 in
theorem ct_252_236 {L : Nat} {xs : Nat → Int32} {d b c : Nat} {h : hp} {cr : Nat → Nat → Option Nat} {Q : hp_Q} (hcr : CR cr)  (g : GI h) (a0 : Int) (q0_ : -2147483648 ≤ a0 ∧ a0 ≤ 2147483647)  (k : ∀ (z0 : Int), (0 ≤ z0 ∧ z0 ≤ 3) → Q (.inl (some (vi z0))) (hp_w h cr) b c) : wp (md_xa (L, xs)) (d + 2) 252 (0, [(0, .ref 236), (1, vi a0)], [], hp_w h cr, b, c) Q := by
  have F0 : FR [] h h := FR.refl
  refine wi_iload_n (i := 1) (e := a0) (nx := 1) (r1 := 0) (r2 := 0) (r3 := 0) rfl rfl ?_
  refine wi_aload_n (i := 0) (x := 236) (nx := 2) (r1 := 0) (r2 := 0) (r3 := 0) rfl rfl ?_
  refine wr_gr (k0 := 236) (x := 238) (nx := 5) (r1 := 11) (r2 := 13) (r3 := 0) rfl rfl (by decide) rfl ⟨rfl, rfl⟩ rfl ?_
  refine wi_bipush (n := 73) (nx := 7) (r1 := 0) (r2 := 0) (r3 := 0) rfl (by decide) ?_
  have b1 := gi_b (lo := 0) (hi := 12) g 238 73 rfl
  refine wr_ia (k0 := 238) (a := 73) (f := 73) (x := h 238 73) (nx := 8) (r1 := 0) (r2 := 0) (r3 := 0) rfl (by decide) rfl (by omega) (by omega) (by decide) rfl ?_
  refine wi_icmp (cd := .lt) (nx := 11) (r1 := 13) (r2 := 0) (r3 := 0) rfl (by omega) (by omega) (fun (q2 : a0 < (h 238 73)) => ?_) (fun (q2 : ¬ (a0 < (h 238 73))) => ?_)
  ·
    refine wi_aload_n (i := 0) (x := 236) (nx := 14) (r1 := 0) (r2 := 0) (r3 := 0) rfl rfl ?_
    refine wi_iload_n (i := 1) (e := a0) (nx := 15) (r1 := 0) (r2 := 0) (r3 := 0) rfl rfl ?_
    refine wr_V (k0 := 236) (rest := []) (as := [.ref 236, vi a0]) (nx := 18) (r1 := 253) (r2 := 1) (r3 := 11) rfl rfl rfl (of_decide_eq_true rfl) rfl rfl (by decide) rfl rfl (of_decide_eq_true rfl) (of_decide_eq_true rfl) ?_
    refine wi_aload_n (i := 0) (x := 236) (nx := 1) (r1 := 0) (r2 := 0) (r3 := 0) rfl rfl ?_
    refine wi_bipush (n := 107) (nx := 3) (r1 := 0) (r2 := 0) (r3 := 0) rfl (by decide) ?_
    refine wi_aload_n (i := 0) (x := 236) (nx := 4) (r1 := 0) (r2 := 0) (r3 := 0) rfl rfl ?_
    refine wr_gr (k0 := 236) (x := 238) (nx := 7) (r1 := 11) (r2 := 13) (r3 := 0) rfl rfl (by decide) rfl ⟨rfl, rfl⟩ rfl ?_
    refine wi_bipush (n := 106) (nx := 9) (r1 := 0) (r2 := 0) (r3 := 0) rfl (by decide) ?_
    have b3 := gi_b (lo := 0) (hi := 12) g 238 106 rfl
    refine wr_ia (k0 := 238) (a := 106) (f := 106) (x := h 238 106) (nx := 10) (r1 := 0) (r2 := 0) (r3 := 0) rfl (by decide) rfl (by omega) (by omega) (by decide) rfl ?_
    refine wi_iload_n (i := 1) (e := a0) (nx := 11) (r1 := 0) (r2 := 0) (r3 := 0) rfl rfl ?_
    refine wr_V (k0 := 236) (rest := []) (as := [.ref 236, vi 107, vi (h 238 106), vi a0]) (nx := 14) (r1 := 254) (r2 := 3) (r3 := 11) rfl rfl rfl (of_decide_eq_true rfl) rfl rfl (by decide) rfl rfl (of_decide_eq_true rfl) (of_decide_eq_true rfl) ?_
    refine wi_iconst (n := 0) (nx := 1) (r1 := 0) (r2 := 0) (r3 := 0) rfl ?_
    refine wi_istore (i := 4) (e := 0) (lo2 := [(4, vi 0), (0, .ref 236), (1, vi 107), (2, vi (h 238 106)), (3, vi a0)]) (nx := 3) (r1 := 0) (r2 := 0) (r3 := 0) rfl rfl ?_
    refine wp.lo (lo := [(0, .ref 236), (1, vi 107), (2, vi (h 238 106)), (3, vi a0), (4, vi 0)]) ⟨rfl, rfl, rfl, rfl, rfl, trivial⟩ rfl ?_
    refine wl_1 (fun x4 h5 => h = h5 ∧ ((0 ≤ x4 ∧ x4 ≤ 12))) (fun x4 h5 => ((12 : Int) + 1 - x4).toNat) (fun x4 h5 => (3, [(0, .ref 236), (1, vi 107), (2, vi (h 238 106)), (3, vi a0), (4, vi x4)], [], hp_w h5 cr, b, c)) ?_ 0 h ⟨rfl, (show (0 ≤ 0 ∧ 0 ≤ 12) by omega)⟩
    intro x4 h5 ⟨e5, f5⟩ I5
    subst e5
    refine wi_iload (i := 4) (e := x4) (nx := 5) (r1 := 0) (r2 := 0) (r3 := 0) rfl rfl ?_
    refine wi_iload_n (i := 2) (e := h 238 106) (nx := 6) (r1 := 0) (r2 := 0) (r3 := 0) rfl rfl ?_
    refine wi_icmp (cd := .ge) (nx := 9) (r1 := 31) (r2 := 0) (r3 := 0) rfl (by omega) (by omega) (fun (q7 : (h 238 106) ≤ x4) => ?_) (fun (q7 : ¬ ((h 238 106) ≤ x4)) => ?_)
    ·
      refine wi_iconst (n := (-1)) (nx := 32) (r1 := 0) (r2 := 0) (r3 := 0) rfl ?_
      refine wi_ireturn (nx := 33) (r1 := 0) (r2 := 0) (r3 := 0) rfl rfl ?_
      refine wk_i ?_
      refine wi_ireturn (nx := 15) (r1 := 0) (r2 := 0) (r3 := 0) rfl rfl ?_
      refine wk_i ?_
      refine wi_iconst (n := (-1)) (nx := 19) (r1 := 0) (r2 := 0) (r3 := 0) rfl ?_
      refine wi_icmp (cd := .eq) (nx := 22) (r1 := 24) (r2 := 0) (r3 := 0) rfl (by omega) (by omega) (fun (q8 : (-1) = (-1)) => ?_) (fun (q8 : ¬ ((-1) = (-1))) => by exfalso; omega)
      refine wi_aload_n (i := 0) (x := 236) (nx := 25) (r1 := 0) (r2 := 0) (r3 := 0) rfl rfl ?_
      refine wi_bipush (n := 103) (nx := 27) (r1 := 0) (r2 := 0) (r3 := 0) rfl (by decide) ?_
      refine wi_aload_n (i := 0) (x := 236) (nx := 28) (r1 := 0) (r2 := 0) (r3 := 0) rfl rfl ?_
      refine wr_gr (k0 := 236) (x := 238) (nx := 31) (r1 := 11) (r2 := 13) (r3 := 0) rfl rfl (by decide) rfl ⟨rfl, rfl⟩ rfl ?_
      refine wi_bipush (n := 102) (nx := 33) (r1 := 0) (r2 := 0) (r3 := 0) rfl (by decide) ?_
      have b9 := gi_b (lo := 0) (hi := 3) g 238 102 rfl
      refine wr_ia (k0 := 238) (a := 102) (f := 102) (x := h 238 102) (nx := 34) (r1 := 0) (r2 := 0) (r3 := 0) rfl (by decide) rfl (by omega) (by omega) (by decide) rfl ?_
      refine wi_iload_n (i := 1) (e := a0) (nx := 35) (r1 := 0) (r2 := 0) (r3 := 0) rfl rfl ?_
      refine wr_V (k0 := 236) (rest := []) (as := [.ref 236, vi 103, vi (h 238 102), vi a0]) (nx := 38) (r1 := 254) (r2 := 3) (r3 := 11) rfl rfl rfl (of_decide_eq_true rfl) rfl rfl (by decide) rfl rfl (of_decide_eq_true rfl) (of_decide_eq_true rfl) ?_
      refine wi_iconst (n := 0) (nx := 1) (r1 := 0) (r2 := 0) (r3 := 0) rfl ?_
      refine wi_istore (i := 4) (e := 0) (lo2 := [(4, vi 0), (0, .ref 236), (1, vi 103), (2, vi (h 238 102)), (3, vi a0)]) (nx := 3) (r1 := 0) (r2 := 0) (r3 := 0) rfl rfl ?_
      refine wp.lo (lo := [(0, .ref 236), (1, vi 103), (2, vi (h 238 102)), (3, vi a0), (4, vi 0)]) ⟨rfl, rfl, rfl, rfl, rfl, trivial⟩ rfl ?_
      refine wl_1 (fun x10 h11 => h = h11 ∧ ((0 ≤ x10 ∧ x10 ≤ 3))) (fun x10 h11 => ((3 : Int) + 1 - x10).toNat) (fun x10 h11 => (3, [(0, .ref 236), (1, vi 103), (2, vi (h 238 102)), (3, vi a0), (4, vi x10)], [], hp_w h11 cr, b, c)) ?_ 0 h ⟨rfl, (show (0 ≤ 0 ∧ 0 ≤ 3) by omega)⟩
      intro x10 h11 ⟨e11, f11⟩ I11
      subst e11
      refine wi_iload (i := 4) (e := x10) (nx := 5) (r1 := 0) (r2 := 0) (r3 := 0) rfl rfl ?_
      refine wi_iload_n (i := 2) (e := h 238 102) (nx := 6) (r1 := 0) (r2 := 0) (r3 := 0) rfl rfl ?_
      refine wi_icmp (cd := .ge) (nx := 9) (r1 := 31) (r2 := 0) (r3 := 0) rfl (by omega) (by omega) (fun (q13 : (h 238 102) ≤ x10) => ?_) (fun (q13 : ¬ ((h 238 102) ≤ x10)) => ?_)
      ·
        refine wi_iconst (n := (-1)) (nx := 32) (r1 := 0) (r2 := 0) (r3 := 0) rfl ?_
        refine wi_ireturn (nx := 33) (r1 := 0) (r2 := 0) (r3 := 0) rfl rfl ?_
        refine wk_i ?_
        refine wi_iconst (n := (-1)) (nx := 39) (r1 := 0) (r2 := 0) (r3 := 0) rfl ?_
        refine wi_icmp (cd := .eq) (nx := 42) (r1 := 46) (r2 := 0) (r3 := 0) rfl (by omega) (by omega) (fun (q14 : (-1) = (-1)) => ?_) (fun (q14 : ¬ ((-1) = (-1))) => by exfalso; omega)
        refine wi_iconst (n := 1) (nx := 47) (r1 := 0) (r2 := 0) (r3 := 0) rfl ?_
        refine wi_ireturn (nx := 48) (r1 := 0) (r2 := 0) (r3 := 0) rfl rfl ?_
        exact k 1 (by omega)
      ·
        refine wi_aload_n (i := 0) (x := 236) (nx := 10) (r1 := 0) (r2 := 0) (r3 := 0) rfl rfl ?_
        refine wr_gr (k0 := 236) (x := 238) (nx := 13) (r1 := 11) (r2 := 13) (r3 := 0) rfl rfl (by decide) rfl ⟨rfl, rfl⟩ rfl ?_
        refine wi_iload_n (i := 1) (e := 103) (nx := 14) (r1 := 0) (r2 := 0) (r3 := 0) rfl rfl ?_
        refine wi_iload (i := 4) (e := x10) (nx := 16) (r1 := 0) (r2 := 0) (r3 := 0) rfl rfl ?_
        refine wr_add (nx := 17) (r1 := 0) (r2 := 0) (r3 := 0) rfl (fun e14 (fe14 : e14 = 103 + x10) => ?_)
        obtain ⟨i15, ei15⟩ : ∃ q : Nat, e14 = (q : Int) := ⟨(e14).toNat, by omega⟩
        have b16 := gi_b (lo := 0) (hi := 11) g 238 i15 (gi_rg 103 3 (fun _ => rfl) (by decide +kernel) (by omega))
        refine wr_ia (k0 := 238) (a := e14) (f := i15) (x := h 238 i15) (nx := 18) (r1 := 0) (r2 := 0) (r3 := 0) rfl (by decide) rfl (by omega) (by omega) (by decide) rfl ?_
        refine wi_iload_n (i := 3) (e := a0) (nx := 19) (r1 := 0) (r2 := 0) (r3 := 0) rfl rfl ?_
        refine wi_icmp (cd := .ne) (nx := 22) (r1 := 25) (r2 := 0) (r3 := 0) rfl (by omega) (by omega) (fun (q17 : (h 238 i15) ≠ a0) => ?_) (fun (q17 : ¬ ((h 238 i15) ≠ a0)) => ?_)
        ·
          refine wr_iinc (i := 4) (n := 1) (v := x10) (fun e18 => [(4, vi e18), (0, .ref 236), (1, vi 103), (2, vi (h 238 102)), (3, vi a0)]) (nx := 28) (r1 := 0) (r2 := 0) (r3 := 0) rfl rfl (fun _ => rfl) (fun e18 (fe18 : e18 = x10 + 1) => ?_)
          refine wi_goto (nx := 31) (r1 := 3) (r2 := 0) (r3 := 0) rfl ?_
          refine wp.lo (lo := [(0, .ref 236), (1, vi 103), (2, vi (h 238 102)), (3, vi a0), (4, vi e18)]) ⟨rfl, rfl, rfl, rfl, rfl, trivial⟩ rfl ?_
          exact I11 e18 h ⟨rfl, (show (0 ≤ e18 ∧ e18 ≤ 3) by omega)⟩ (show ((3 : Int) + 1 - e18).toNat < ((3 : Int) + 1 - x10).toNat by omega)
        ·
          refine wi_iload (i := 4) (e := x10) (nx := 24) (r1 := 0) (r2 := 0) (r3 := 0) rfl rfl ?_
          refine wi_ireturn (nx := 25) (r1 := 0) (r2 := 0) (r3 := 0) rfl rfl ?_
          refine wk_i ?_
          refine wi_iconst (n := (-1)) (nx := 39) (r1 := 0) (r2 := 0) (r3 := 0) rfl ?_
          refine wi_icmp (cd := .eq) (nx := 42) (r1 := 46) (r2 := 0) (r3 := 0) rfl (by omega) (by omega) (fun (q18 : x10 = (-1)) => by exfalso; omega) (fun (q18 : ¬ (x10 = (-1))) => ?_)
          refine wi_iconst (n := 2) (nx := 43) (r1 := 0) (r2 := 0) (r3 := 0) rfl ?_
          refine wi_goto (nx := 46) (r1 := 47) (r2 := 0) (r3 := 0) rfl ?_
          refine wi_ireturn (nx := 48) (r1 := 0) (r2 := 0) (r3 := 0) rfl rfl ?_
          exact k 2 (by omega)
    ·
      refine wi_aload_n (i := 0) (x := 236) (nx := 10) (r1 := 0) (r2 := 0) (r3 := 0) rfl rfl ?_
      refine wr_gr (k0 := 236) (x := 238) (nx := 13) (r1 := 11) (r2 := 13) (r3 := 0) rfl rfl (by decide) rfl ⟨rfl, rfl⟩ rfl ?_
      refine wi_iload_n (i := 1) (e := 107) (nx := 14) (r1 := 0) (r2 := 0) (r3 := 0) rfl rfl ?_
      refine wi_iload (i := 4) (e := x4) (nx := 16) (r1 := 0) (r2 := 0) (r3 := 0) rfl rfl ?_
      refine wr_add (nx := 17) (r1 := 0) (r2 := 0) (r3 := 0) rfl (fun e8 (fe8 : e8 = 107 + x4) => ?_)
      obtain ⟨i9, ei9⟩ : ∃ q : Nat, e8 = (q : Int) := ⟨(e8).toNat, by omega⟩
      have b10 := gi_b (lo := 0) (hi := 11) g 238 i9 (gi_rg 107 12 (fun _ => rfl) (by decide +kernel) (by omega))
      refine wr_ia (k0 := 238) (a := e8) (f := i9) (x := h 238 i9) (nx := 18) (r1 := 0) (r2 := 0) (r3 := 0) rfl (by decide) rfl (by omega) (by omega) (by decide) rfl ?_
      refine wi_iload_n (i := 3) (e := a0) (nx := 19) (r1 := 0) (r2 := 0) (r3 := 0) rfl rfl ?_
      refine wi_icmp (cd := .ne) (nx := 22) (r1 := 25) (r2 := 0) (r3 := 0) rfl (by omega) (by omega) (fun (q11 : (h 238 i9) ≠ a0) => ?_) (fun (q11 : ¬ ((h 238 i9) ≠ a0)) => ?_)
      ·
        refine wr_iinc (i := 4) (n := 1) (v := x4) (fun e12 => [(4, vi e12), (0, .ref 236), (1, vi 107), (2, vi (h 238 106)), (3, vi a0)]) (nx := 28) (r1 := 0) (r2 := 0) (r3 := 0) rfl rfl (fun _ => rfl) (fun e12 (fe12 : e12 = x4 + 1) => ?_)
        refine wi_goto (nx := 31) (r1 := 3) (r2 := 0) (r3 := 0) rfl ?_
        refine wp.lo (lo := [(0, .ref 236), (1, vi 107), (2, vi (h 238 106)), (3, vi a0), (4, vi e12)]) ⟨rfl, rfl, rfl, rfl, rfl, trivial⟩ rfl ?_
        exact I5 e12 h ⟨rfl, (show (0 ≤ e12 ∧ e12 ≤ 12) by omega)⟩ (show ((12 : Int) + 1 - e12).toNat < ((12 : Int) + 1 - x4).toNat by omega)
      ·
        refine wi_iload (i := 4) (e := x4) (nx := 24) (r1 := 0) (r2 := 0) (r3 := 0) rfl rfl ?_
        refine wi_ireturn (nx := 25) (r1 := 0) (r2 := 0) (r3 := 0) rfl rfl ?_
        refine wk_i ?_
        refine wi_ireturn (nx := 15) (r1 := 0) (r2 := 0) (r3 := 0) rfl rfl ?_
        refine wk_i ?_
        refine wi_iconst (n := (-1)) (nx := 19) (r1 := 0) (r2 := 0) (r3 := 0) rfl ?_
        refine wi_icmp (cd := .eq) (nx := 22) (r1 := 24) (r2 := 0) (r3 := 0) rfl (by omega) (by omega) (fun (q12 : x4 = (-1)) => by exfalso; omega) (fun (q12 : ¬ (x4 = (-1))) => ?_)
        refine wi_iconst (n := 3) (nx := 23) (r1 := 0) (r2 := 0) (r3 := 0) rfl ?_
        refine wi_ireturn (nx := 24) (r1 := 0) (r2 := 0) (r3 := 0) rfl rfl ?_
        exact k 3 (by omega)
  ·
    refine wi_iconst (n := 0) (nx := 12) (r1 := 0) (r2 := 0) (r3 := 0) rfl ?_
    refine wi_ireturn (nx := 13) (r1 := 0) (r2 := 0) (r3 := 0) rfl rfl ?_
    exact k 0 (by omega)
-- method 317: Model.boundOf(Z)I
set_option maxHeartbeats 100000000 in
theorem ct_317_236 {L : Nat} {xs : Nat → Int32} {d b c : Nat} {h : hp} {cr : Nat → Nat → Option Nat} {Q : hp_Q} (hcr : CR cr)  (g : GI h) (a0 : Int) (q0_ : 0 ≤ a0 ∧ a0 ≤ 1)  (k : ∀ (z0 : Int), (-2147483648 ≤ z0 ∧ z0 ≤ 2147483647) → Q (.inl (some (vi z0))) (hp_w h cr) b c) : wp (md_xa (L, xs)) (d + 3) 317 (0, [(0, .ref 236), (1, vi a0)], [], hp_w h cr, b, c) Q := by
  have F0 : FR [] h h := FR.refl
  refine wi_iconst (n := 0) (nx := 1) (r1 := 0) (r2 := 0) (r3 := 0) rfl ?_
  refine wi_istore_n (i := 2) (e := 0) (lo2 := [(2, vi 0), (0, .ref 236), (1, vi a0)]) (nx := 2) (r1 := 0) (r2 := 0) (r3 := 0) rfl rfl ?_
  refine wi_iconst (n := 0) (nx := 3) (r1 := 0) (r2 := 0) (r3 := 0) rfl ?_
  refine wi_istore_n (i := 3) (e := 0) (lo2 := [(3, vi 0), (2, vi 0), (0, .ref 236), (1, vi a0)]) (nx := 4) (r1 := 0) (r2 := 0) (r3 := 0) rfl rfl ?_
  refine wi_iconst (n := 0) (nx := 5) (r1 := 0) (r2 := 0) (r3 := 0) rfl ?_
  refine wi_istore (i := 4) (e := 0) (lo2 := [(4, vi 0), (3, vi 0), (2, vi 0), (0, .ref 236), (1, vi a0)]) (nx := 7) (r1 := 0) (r2 := 0) (r3 := 0) rfl rfl ?_
  refine wi_iconst (n := 0) (nx := 8) (r1 := 0) (r2 := 0) (r3 := 0) rfl ?_
  refine wi_istore (i := 5) (e := 0) (lo2 := [(5, vi 0), (4, vi 0), (3, vi 0), (2, vi 0), (0, .ref 236), (1, vi a0)]) (nx := 10) (r1 := 0) (r2 := 0) (r3 := 0) rfl rfl ?_
  refine wp.lo (lo := [(0, .ref 236), (1, vi a0), (2, vi 0), (3, vi 0), (4, vi 0), (5, vi 0)]) ⟨rfl, rfl, rfl, rfl, rfl, rfl, trivial⟩ rfl ?_
  refine wl_2 (fun x1 x2 h3 => h = h3 ∧ ((-2147483648 ≤ x1 ∧ x1 ≤ 2147483647) ∧ (0 ≤ x2 ∧ x2 ≤ 12))) (fun x1 x2 h3 => ((12 : Int) + 1 - x2).toNat) (fun x1 x2 h3 => (10, [(0, .ref 236), (1, vi a0), (2, vi x1), (3, vi 0), (4, vi 0), (5, vi x2)], [], hp_w h3 cr, b, c)) ?_ 0 0 h ⟨rfl, (show (-2147483648 ≤ 0 ∧ 0 ≤ 2147483647) ∧ (0 ≤ 0 ∧ 0 ≤ 12) by omega)⟩
  intro x1 x2 h3 ⟨e3, f3⟩ I3
  subst e3
  refine wi_iload (i := 5) (e := x2) (nx := 12) (r1 := 0) (r2 := 0) (r3 := 0) rfl rfl ?_
  refine wi_aload_n (i := 0) (x := 236) (nx := 13) (r1 := 0) (r2 := 0) (r3 := 0) rfl rfl ?_
  refine wr_gr (k0 := 236) (x := 238) (nx := 16) (r1 := 11) (r2 := 13) (r3 := 0) rfl rfl (by decide) rfl ⟨rfl, rfl⟩ rfl ?_
  refine wi_iconst (n := 2) (nx := 17) (r1 := 0) (r2 := 0) (r3 := 0) rfl ?_
  have b5 := gi_b (lo := 0) (hi := 12) g 238 2 rfl
  refine wr_ia (k0 := 238) (a := 2) (f := 2) (x := h 238 2) (nx := 18) (r1 := 0) (r2 := 0) (r3 := 0) rfl (by decide) rfl (by omega) (by omega) (by decide) rfl ?_
  refine wi_icmp (cd := .ge) (nx := 21) (r1 := 69) (r2 := 0) (r3 := 0) rfl (by omega) (by omega) (fun (q6 : (h 238 2) ≤ x2) => ?_) (fun (q6 : ¬ ((h 238 2) ≤ x2)) => ?_)
  ·
    refine wi_iconst (n := 0) (nx := 70) (r1 := 0) (r2 := 0) (r3 := 0) rfl ?_
    refine wi_istore (i := 5) (e := 0) (lo2 := [(5, vi 0), (0, .ref 236), (1, vi a0), (2, vi x1), (3, vi 0), (4, vi 0)]) (nx := 72) (r1 := 0) (r2 := 0) (r3 := 0) rfl rfl ?_
    refine wp.lo (lo := [(0, .ref 236), (2, vi x1), (3, vi 0), (4, vi 0), (5, vi 0)]) ⟨rfl, rfl, rfl, rfl, rfl, trivial⟩ rfl ?_
    refine wl_3 (fun x7 x8 x9 h10 => h = h10 ∧ ((-2147483648 ≤ x7 ∧ x7 ≤ 2147483647) ∧ (0 ≤ x8 ∧ x8 ≤ 999) ∧ (0 ≤ x9 ∧ x9 ≤ 5))) (fun x7 x8 x9 h10 => ((5 : Int) + 1 - x9).toNat) (fun x7 x8 x9 h10 => (72, [(0, .ref 236), (2, vi x1), (3, vi x7), (4, vi x8), (5, vi x9)], [], hp_w h10 cr, b, c)) ?_ 0 0 0 h ⟨rfl, (show (-2147483648 ≤ 0 ∧ 0 ≤ 2147483647) ∧ (0 ≤ 0 ∧ 0 ≤ 999) ∧ (0 ≤ 0 ∧ 0 ≤ 5) by omega)⟩
    intro x7 x8 x9 h10 ⟨e10, f10⟩ I10
    subst e10
    refine wi_iload (i := 5) (e := x9) (nx := 74) (r1 := 0) (r2 := 0) (r3 := 0) rfl rfl ?_
    refine wi_iconst (n := 5) (nx := 75) (r1 := 0) (r2 := 0) (r3 := 0) rfl ?_
    refine wi_icmp (cd := .ge) (nx := 78) (r1 := 138) (r2 := 0) (r3 := 0) rfl (by omega) (by omega) (fun (q12 : 5 ≤ x9) => ?_) (fun (q12 : ¬ (5 ≤ x9)) => ?_)
    ·
      refine wi_aload_n (i := 0) (x := 236) (nx := 139) (r1 := 0) (r2 := 0) (r3 := 0) rfl rfl ?_
      refine wr_gr (k0 := 236) (x := 238) (nx := 142) (r1 := 11) (r2 := 13) (r3 := 0) rfl rfl (by decide) rfl ⟨rfl, rfl⟩ rfl ?_
      refine wi_bipush (n := 68) (nx := 144) (r1 := 0) (r2 := 0) (r3 := 0) rfl (by decide) ?_
      have b13 := gi_b (lo := -1) (hi := 4) g 238 68 rfl
      refine wr_ia (k0 := 238) (a := 68) (f := 68) (x := h 238 68) (nx := 145) (r1 := 0) (r2 := 0) (r3 := 0) rfl (by decide) rfl (by omega) (by omega) (by decide) rfl ?_
      refine wi_iconst (n := (-1)) (nx := 146) (r1 := 0) (r2 := 0) (r3 := 0) rfl ?_
      refine wi_icmp (cd := .ne) (nx := 149) (r1 := 156) (r2 := 0) (r3 := 0) rfl (by omega) (by omega) (fun (q14 : (h 238 68) ≠ (-1)) => ?_) (fun (q14 : ¬ ((h 238 68) ≠ (-1))) => ?_)
      ·
        refine wi_iload_n (i := 3) (e := x7) (nx := 157) (r1 := 0) (r2 := 0) (r3 := 0) rfl rfl ?_
        refine wi_ireturn (nx := 158) (r1 := 0) (r2 := 0) (r3 := 0) rfl rfl ?_
        exact k x7 (by omega)
      ·
        refine wi_iload_n (i := 3) (e := x7) (nx := 150) (r1 := 0) (r2 := 0) (r3 := 0) rfl rfl ?_
        refine wi_iload (i := 4) (e := x8) (nx := 152) (r1 := 0) (r2 := 0) (r3 := 0) rfl rfl ?_
        refine wr_subW (nx := 153) (r1 := 0) (r2 := 0) (r3 := 0) rfl (fun e15 (fe15 : -2147483648 ≤ e15 ∧ e15 ≤ 2147483647) => ?_)
        refine wi_goto (nx := 156) (r1 := 157) (r2 := 0) (r3 := 0) rfl ?_
        refine wi_ireturn (nx := 158) (r1 := 0) (r2 := 0) (r3 := 0) rfl rfl ?_
        exact k e15 (by omega)
    ·
      refine wi_iload_n (i := 2) (e := x1) (nx := 79) (r1 := 0) (r2 := 0) (r3 := 0) rfl rfl ?_
      refine wi_iload (i := 5) (e := x9) (nx := 81) (r1 := 0) (r2 := 0) (r3 := 0) rfl rfl ?_
      refine wi_S (rest := []) (as := [vi x1, vi x9]) (nx := 84) (r1 := 318) (r2 := 18) (r3 := 0) rfl rfl rfl (of_decide_eq_true rfl) rfl rfl (of_decide_eq_true rfl) (of_decide_eq_true rfl) ?_
      refine wi_iload_n (i := 0) (e := x1) (nx := 1) (r1 := 0) (r2 := 0) (r3 := 0) rfl rfl ?_
      refine wi_iload_n (i := 1) (e := x9) (nx := 2) (r1 := 0) (r2 := 0) (r3 := 0) rfl rfl ?_
      refine wr_ishrA (nx := 3) (r1 := 0) (r2 := 0) (r3 := 0) rfl (fun e13 (fe13 : -2147483648 ≤ e13 ∧ e13 ≤ 2147483647) => ?_)
      refine wi_iconst (n := 1) (nx := 4) (r1 := 0) (r2 := 0) (r3 := 0) rfl ?_
      refine wi_iandm (m := 1) (nx := 5) (r1 := 0) (r2 := 0) (r3 := 0) rfl (by decide) (by decide) (fun e14 (fe14 : 0 ≤ e14 ∧ e14 ≤ 1) => ?_)
      refine wi_iconst (n := 1) (nx := 6) (r1 := 0) (r2 := 0) (r3 := 0) rfl ?_
      refine wi_icmp (cd := .ne) (nx := 9) (r1 := 13) (r2 := 0) (r3 := 0) rfl (by omega) (by omega) (fun (q15 : e14 ≠ 1) => ?_) (fun (q15 : ¬ (e14 ≠ 1)) => ?_)
      ·
        refine wi_iconst (n := 0) (nx := 14) (r1 := 0) (r2 := 0) (r3 := 0) rfl ?_
        refine wi_zreturn (nx := 15) (r1 := 0) (r2 := 0) (r3 := 0) rfl rfl (by omega) ?_
        refine wk_i ?_
        refine wi_if (cd := .eq) (nx := 87) (r1 := 132) (r2 := 0) (r3 := 0) rfl (by omega) (fun (q16 : 0 = 0) => ?_) (fun (q16 : ¬ (0 = 0)) => by exfalso; omega)
        refine wr_iinc (i := 5) (n := 1) (v := x9) (fun e17 => [(5, vi e17), (0, .ref 236), (2, vi x1), (3, vi x7), (4, vi x8)]) (nx := 135) (r1 := 0) (r2 := 0) (r3 := 0) rfl rfl (fun _ => rfl) (fun e17 (fe17 : e17 = x9 + 1) => ?_)
        refine wi_goto (nx := 138) (r1 := 72) (r2 := 0) (r3 := 0) rfl ?_
        refine wp.lo (lo := [(0, .ref 236), (2, vi x1), (3, vi x7), (4, vi x8), (5, vi e17)]) ⟨rfl, rfl, rfl, rfl, rfl, trivial⟩ rfl ?_
        exact I10 x7 x8 e17 h ⟨rfl, (show (-2147483648 ≤ x7 ∧ x7 ≤ 2147483647) ∧ (0 ≤ x8 ∧ x8 ≤ 999) ∧ (0 ≤ e17 ∧ e17 ≤ 5) by omega)⟩ (show ((5 : Int) + 1 - e17).toNat < ((5 : Int) + 1 - x9).toNat by omega)
      ·
        refine wi_iconst (n := 1) (nx := 10) (r1 := 0) (r2 := 0) (r3 := 0) rfl ?_
        refine wi_goto (nx := 13) (r1 := 14) (r2 := 0) (r3 := 0) rfl ?_
        refine wi_zreturn (nx := 15) (r1 := 0) (r2 := 0) (r3 := 0) rfl rfl (by omega) ?_
        refine wk_i ?_
        refine wi_if (cd := .eq) (nx := 87) (r1 := 132) (r2 := 0) (r3 := 0) rfl (by omega) (fun (q16 : 1 = 0) => by exfalso; omega) (fun (q16 : ¬ (1 = 0)) => ?_)
        refine wi_iload (i := 5) (e := x9) (nx := 89) (r1 := 0) (r2 := 0) (r3 := 0) rfl rfl ?_
        refine wi_aload_n (i := 0) (x := 236) (nx := 90) (r1 := 0) (r2 := 0) (r3 := 0) rfl rfl ?_
        refine wr_gr (k0 := 236) (x := 238) (nx := 93) (r1 := 11) (r2 := 13) (r3 := 0) rfl rfl (by decide) rfl ⟨rfl, rfl⟩ rfl ?_
        refine wi_bipush (n := 68) (nx := 95) (r1 := 0) (r2 := 0) (r3 := 0) rfl (by decide) ?_
        have b17 := gi_b (lo := -1) (hi := 4) g 238 68 rfl
        refine wr_ia (k0 := 238) (a := 68) (f := 68) (x := h 238 68) (nx := 96) (r1 := 0) (r2 := 0) (r3 := 0) rfl (by decide) rfl (by omega) (by omega) (by decide) rfl ?_
        refine wi_icmp (cd := .ne) (nx := 99) (r1 := 102) (r2 := 0) (r3 := 0) rfl (by omega) (by omega) (fun (q18 : x9 ≠ (h 238 68)) => ?_) (fun (q18 : ¬ (x9 ≠ (h 238 68))) => ?_)
        ·
          refine wi_iload_n (i := 3) (e := x7) (nx := 103) (r1 := 0) (r2 := 0) (r3 := 0) rfl rfl ?_
          refine wi_aload_n (i := 0) (x := 236) (nx := 104) (r1 := 0) (r2 := 0) (r3 := 0) rfl rfl ?_
          refine wr_gr (k0 := 236) (x := 238) (nx := 107) (r1 := 11) (r2 := 13) (r3 := 0) rfl rfl (by decide) rfl ⟨rfl, rfl⟩ rfl ?_
          refine wi_bipush (n := 10) (nx := 109) (r1 := 0) (r2 := 0) (r3 := 0) rfl (by decide) ?_
          refine wi_iload (i := 5) (e := x9) (nx := 111) (r1 := 0) (r2 := 0) (r3 := 0) rfl rfl ?_
          refine wr_add (nx := 112) (r1 := 0) (r2 := 0) (r3 := 0) rfl (fun e19 (fe19 : e19 = 10 + x9) => ?_)
          obtain ⟨i20, ei20⟩ : ∃ q : Nat, e19 = (q : Int) := ⟨(e19).toNat, by omega⟩
          have b21 := gi_b (lo := 0) (hi := 999) g 238 i20 (gi_rg 10 5 (fun _ => rfl) (by decide +kernel) (by omega))
          refine wr_ia (k0 := 238) (a := e19) (f := i20) (x := h 238 i20) (nx := 113) (r1 := 0) (r2 := 0) (r3 := 0) rfl (by decide) rfl (by omega) (by omega) (by decide) rfl ?_
          refine wr_addW (nx := 114) (r1 := 0) (r2 := 0) (r3 := 0) rfl (fun e22 (fe22 : -2147483648 ≤ e22 ∧ e22 ≤ 2147483647) => ?_)
          refine wi_istore_n (i := 3) (e := e22) (lo2 := [(3, vi e22), (0, .ref 236), (2, vi x1), (4, vi x8), (5, vi x9)]) (nx := 115) (r1 := 0) (r2 := 0) (r3 := 0) rfl rfl ?_
          refine wi_iload (i := 4) (e := x8) (nx := 117) (r1 := 0) (r2 := 0) (r3 := 0) rfl rfl ?_
          refine wi_aload_n (i := 0) (x := 236) (nx := 118) (r1 := 0) (r2 := 0) (r3 := 0) rfl rfl ?_
          refine wr_gr (k0 := 236) (x := 238) (nx := 121) (r1 := 11) (r2 := 13) (r3 := 0) rfl rfl (by decide) rfl ⟨rfl, rfl⟩ rfl ?_
          refine wi_bipush (n := 10) (nx := 123) (r1 := 0) (r2 := 0) (r3 := 0) rfl (by decide) ?_
          refine wi_iload (i := 5) (e := x9) (nx := 125) (r1 := 0) (r2 := 0) (r3 := 0) rfl rfl ?_
          refine wr_add (nx := 126) (r1 := 0) (r2 := 0) (r3 := 0) rfl (fun e23 (fe23 : e23 = 10 + x9) => ?_)
          refine wr_ia (k0 := 238) (a := e23) (f := i20) (x := h 238 i20) (nx := 127) (r1 := 0) (r2 := 0) (r3 := 0) rfl (by decide) rfl (by omega) (by omega) (by decide) rfl ?_
          refine wi_S (rest := []) (as := [vi x8, vi (h 238 i20)]) (nx := 130) (r1 := 250) (r2 := 18) (r3 := 0) rfl rfl rfl (of_decide_eq_true rfl) rfl rfl (of_decide_eq_true rfl) (of_decide_eq_true rfl) ?_
          refine wi_iload_n (i := 0) (e := x8) (nx := 1) (r1 := 0) (r2 := 0) (r3 := 0) rfl rfl ?_
          refine wi_iload_n (i := 1) (e := h 238 i20) (nx := 2) (r1 := 0) (r2 := 0) (r3 := 0) rfl rfl ?_
          refine wi_icmp (cd := .le) (nx := 5) (r1 := 9) (r2 := 0) (r3 := 0) rfl (by omega) (by omega) (fun (q24 : x8 ≤ (h 238 i20)) => ?_) (fun (q24 : ¬ (x8 ≤ (h 238 i20))) => ?_)
          ·
            refine wi_iload_n (i := 1) (e := h 238 i20) (nx := 10) (r1 := 0) (r2 := 0) (r3 := 0) rfl rfl ?_
            refine wi_ireturn (nx := 11) (r1 := 0) (r2 := 0) (r3 := 0) rfl rfl ?_
            refine wk_i ?_
            refine wi_istore (i := 4) (e := h 238 i20) (lo2 := [(4, vi (h 238 i20)), (3, vi e22), (0, .ref 236), (2, vi x1), (5, vi x9)]) (nx := 132) (r1 := 0) (r2 := 0) (r3 := 0) rfl rfl ?_
            refine wr_iinc (i := 5) (n := 1) (v := x9) (fun e25 => [(5, vi e25), (4, vi (h 238 i20)), (3, vi e22), (0, .ref 236), (2, vi x1)]) (nx := 135) (r1 := 0) (r2 := 0) (r3 := 0) rfl rfl (fun _ => rfl) (fun e25 (fe25 : e25 = x9 + 1) => ?_)
            refine wi_goto (nx := 138) (r1 := 72) (r2 := 0) (r3 := 0) rfl ?_
            refine wp.lo (lo := [(0, .ref 236), (2, vi x1), (3, vi e22), (4, vi (h 238 i20)), (5, vi e25)]) ⟨rfl, rfl, rfl, rfl, rfl, trivial⟩ rfl ?_
            exact I10 e22 (h 238 i20) e25 h ⟨rfl, (show (-2147483648 ≤ e22 ∧ e22 ≤ 2147483647) ∧ (0 ≤ (h 238 i20) ∧ (h 238 i20) ≤ 999) ∧ (0 ≤ e25 ∧ e25 ≤ 5) by omega)⟩ (show ((5 : Int) + 1 - e25).toNat < ((5 : Int) + 1 - x9).toNat by omega)
          ·
            refine wi_iload_n (i := 0) (e := x8) (nx := 6) (r1 := 0) (r2 := 0) (r3 := 0) rfl rfl ?_
            refine wi_goto (nx := 9) (r1 := 10) (r2 := 0) (r3 := 0) rfl ?_
            refine wi_ireturn (nx := 11) (r1 := 0) (r2 := 0) (r3 := 0) rfl rfl ?_
            refine wk_i ?_
            refine wi_istore (i := 4) (e := x8) (lo2 := [(4, vi x8), (3, vi e22), (0, .ref 236), (2, vi x1), (5, vi x9)]) (nx := 132) (r1 := 0) (r2 := 0) (r3 := 0) rfl rfl ?_
            refine wr_iinc (i := 5) (n := 1) (v := x9) (fun e25 => [(5, vi e25), (4, vi x8), (3, vi e22), (0, .ref 236), (2, vi x1)]) (nx := 135) (r1 := 0) (r2 := 0) (r3 := 0) rfl rfl (fun _ => rfl) (fun e25 (fe25 : e25 = x9 + 1) => ?_)
            refine wi_goto (nx := 138) (r1 := 72) (r2 := 0) (r3 := 0) rfl ?_
            refine wp.lo (lo := [(0, .ref 236), (2, vi x1), (3, vi e22), (4, vi x8), (5, vi e25)]) ⟨rfl, rfl, rfl, rfl, rfl, trivial⟩ rfl ?_
            exact I10 e22 x8 e25 h ⟨rfl, (show (-2147483648 ≤ e22 ∧ e22 ≤ 2147483647) ∧ (0 ≤ x8 ∧ x8 ≤ 999) ∧ (0 ≤ e25 ∧ e25 ≤ 5) by omega)⟩ (show ((5 : Int) + 1 - e25).toNat < ((5 : Int) + 1 - x9).toNat by omega)
        ·
          refine wi_goto (nx := 102) (r1 := 132) (r2 := 0) (r3 := 0) rfl ?_
          refine wr_iinc (i := 5) (n := 1) (v := x9) (fun e19 => [(5, vi e19), (0, .ref 236), (2, vi x1), (3, vi x7), (4, vi x8)]) (nx := 135) (r1 := 0) (r2 := 0) (r3 := 0) rfl rfl (fun _ => rfl) (fun e19 (fe19 : e19 = x9 + 1) => ?_)
          refine wi_goto (nx := 138) (r1 := 72) (r2 := 0) (r3 := 0) rfl ?_
          refine wp.lo (lo := [(0, .ref 236), (2, vi x1), (3, vi x7), (4, vi x8), (5, vi e19)]) ⟨rfl, rfl, rfl, rfl, rfl, trivial⟩ rfl ?_
          exact I10 x7 x8 e19 h ⟨rfl, (show (-2147483648 ≤ x7 ∧ x7 ≤ 2147483647) ∧ (0 ≤ x8 ∧ x8 ≤ 999) ∧ (0 ≤ e19 ∧ e19 ≤ 5) by omega)⟩ (show ((5 : Int) + 1 - e19).toNat < ((5 : Int) + 1 - x9).toNat by omega)
  ·
    refine wi_iload_n (i := 1) (e := a0) (nx := 22) (r1 := 0) (r2 := 0) (r3 := 0) rfl rfl ?_
    refine wi_if (cd := .eq) (nx := 25) (r1 := 38) (r2 := 0) (r3 := 0) rfl (by omega) (fun (q7 : a0 = 0) => ?_) (fun (q7 : ¬ (a0 = 0)) => ?_)
    ·
      refine wi_aload_n (i := 0) (x := 236) (nx := 39) (r1 := 0) (r2 := 0) (r3 := 0) rfl rfl ?_
      refine wi_iload (i := 5) (e := x2) (nx := 41) (r1 := 0) (r2 := 0) (r3 := 0) rfl rfl ?_
      refine wr_V (k0 := 236) (rest := []) (as := [.ref 236, vi x2]) (nx := 44) (r1 := 252) (r2 := 1) (r3 := 11) rfl rfl rfl (of_decide_eq_true rfl) rfl rfl (by decide) rfl rfl (of_decide_eq_true rfl) (of_decide_eq_true rfl) ?_
      refine ct_252_236 hcr  g x2 (by omega)  (fun z9  (fz9 : 0 ≤ z9 ∧ z9 ≤ 3) => ?_)
      refine wk_i ?_
      refine wi_iconst (n := 3) (nx := 45) (r1 := 0) (r2 := 0) (r3 := 0) rfl ?_
      refine wi_icmp (cd := .eq) (nx := 48) (r1 := 63) (r2 := 0) (r3 := 0) rfl (by omega) (by omega) (fun (q10 : z9 = 3) => ?_) (fun (q10 : ¬ (z9 = 3)) => ?_)
      ·
        refine wr_iinc (i := 5) (n := 1) (v := x2) (fun e11 => [(5, vi e11), (0, .ref 236), (1, vi a0), (2, vi x1), (3, vi 0), (4, vi 0)]) (nx := 66) (r1 := 0) (r2 := 0) (r3 := 0) rfl rfl (fun _ => rfl) (fun e11 (fe11 : e11 = x2 + 1) => ?_)
        refine wi_goto (nx := 69) (r1 := 10) (r2 := 0) (r3 := 0) rfl ?_
        refine wp.lo (lo := [(0, .ref 236), (1, vi a0), (2, vi x1), (3, vi 0), (4, vi 0), (5, vi e11)]) ⟨rfl, rfl, rfl, rfl, rfl, rfl, trivial⟩ rfl ?_
        exact I3 x1 e11 h ⟨rfl, (show (-2147483648 ≤ x1 ∧ x1 ≤ 2147483647) ∧ (0 ≤ e11 ∧ e11 ≤ 12) by omega)⟩ (show ((12 : Int) + 1 - e11).toNat < ((12 : Int) + 1 - x2).toNat by omega)
      ·
        refine wi_iload_n (i := 2) (e := x1) (nx := 49) (r1 := 0) (r2 := 0) (r3 := 0) rfl rfl ?_
        refine wi_iconst (n := 1) (nx := 50) (r1 := 0) (r2 := 0) (r3 := 0) rfl ?_
        refine wi_aload_n (i := 0) (x := 236) (nx := 51) (r1 := 0) (r2 := 0) (r3 := 0) rfl rfl ?_
        refine wr_gr (k0 := 236) (x := 238) (nx := 54) (r1 := 11) (r2 := 13) (r3 := 0) rfl rfl (by decide) rfl ⟨rfl, rfl⟩ rfl ?_
        refine wi_bipush (n := 31) (nx := 56) (r1 := 0) (r2 := 0) (r3 := 0) rfl (by decide) ?_
        refine wi_iload (i := 5) (e := x2) (nx := 58) (r1 := 0) (r2 := 0) (r3 := 0) rfl rfl ?_
        refine wr_add (nx := 59) (r1 := 0) (r2 := 0) (r3 := 0) rfl (fun e11 (fe11 : e11 = 31 + x2) => ?_)
        obtain ⟨i12, ei12⟩ : ∃ q : Nat, e11 = (q : Int) := ⟨(e11).toNat, by omega⟩
        have b13 := gi_b (lo := 0) (hi := 4) g 238 i12 (gi_rg 31 12 (fun _ => rfl) (by decide +kernel) (by omega))
        refine wr_ia (k0 := 238) (a := e11) (f := i12) (x := h 238 i12) (nx := 60) (r1 := 0) (r2 := 0) (r3 := 0) rfl (by decide) rfl (by omega) (by omega) (by decide) rfl ?_
        refine wr_ishl1 (y := h 238 i12) (nx := 61) (r1 := 0) (r2 := 0) (r3 := 0) rfl (by omega) (fun e14 (fe14 : 1 ≤ e14 ∧ e14 ≤ 4096) ve14 => ?_)
        refine wr_iorA (nx := 62) (r1 := 0) (r2 := 0) (r3 := 0) rfl (fun e15 (fe15 : -2147483648 ≤ e15 ∧ e15 ≤ 2147483647) => ?_)
        refine wi_istore_n (i := 2) (e := e15) (lo2 := [(2, vi e15), (0, .ref 236), (1, vi a0), (3, vi 0), (4, vi 0), (5, vi x2)]) (nx := 63) (r1 := 0) (r2 := 0) (r3 := 0) rfl rfl ?_
        refine wr_iinc (i := 5) (n := 1) (v := x2) (fun e16 => [(5, vi e16), (2, vi e15), (0, .ref 236), (1, vi a0), (3, vi 0), (4, vi 0)]) (nx := 66) (r1 := 0) (r2 := 0) (r3 := 0) rfl rfl (fun _ => rfl) (fun e16 (fe16 : e16 = x2 + 1) => ?_)
        refine wi_goto (nx := 69) (r1 := 10) (r2 := 0) (r3 := 0) rfl ?_
        refine wp.lo (lo := [(0, .ref 236), (1, vi a0), (2, vi e15), (3, vi 0), (4, vi 0), (5, vi e16)]) ⟨rfl, rfl, rfl, rfl, rfl, rfl, trivial⟩ rfl ?_
        exact I3 e15 e16 h ⟨rfl, (show (-2147483648 ≤ e15 ∧ e15 ≤ 2147483647) ∧ (0 ≤ e16 ∧ e16 ≤ 12) by omega)⟩ (show ((12 : Int) + 1 - e16).toNat < ((12 : Int) + 1 - x2).toNat by omega)
    ·
      refine wi_aload_n (i := 0) (x := 236) (nx := 26) (r1 := 0) (r2 := 0) (r3 := 0) rfl rfl ?_
      refine wi_iload (i := 5) (e := x2) (nx := 28) (r1 := 0) (r2 := 0) (r3 := 0) rfl rfl ?_
      refine wr_V (k0 := 236) (rest := []) (as := [.ref 236, vi x2]) (nx := 31) (r1 := 252) (r2 := 1) (r3 := 11) rfl rfl rfl (of_decide_eq_true rfl) rfl rfl (by decide) rfl rfl (of_decide_eq_true rfl) (of_decide_eq_true rfl) ?_
      refine ct_252_236 hcr  g x2 (by omega)  (fun z9  (fz9 : 0 ≤ z9 ∧ z9 ≤ 3) => ?_)
      refine wk_i ?_
      refine wi_iconst (n := 1) (nx := 32) (r1 := 0) (r2 := 0) (r3 := 0) rfl ?_
      refine wi_icmp (cd := .ne) (nx := 35) (r1 := 63) (r2 := 0) (r3 := 0) rfl (by omega) (by omega) (fun (q10 : z9 ≠ 1) => ?_) (fun (q10 : ¬ (z9 ≠ 1)) => ?_)
      ·
        refine wr_iinc (i := 5) (n := 1) (v := x2) (fun e11 => [(5, vi e11), (0, .ref 236), (1, vi a0), (2, vi x1), (3, vi 0), (4, vi 0)]) (nx := 66) (r1 := 0) (r2 := 0) (r3 := 0) rfl rfl (fun _ => rfl) (fun e11 (fe11 : e11 = x2 + 1) => ?_)
        refine wi_goto (nx := 69) (r1 := 10) (r2 := 0) (r3 := 0) rfl ?_
        refine wp.lo (lo := [(0, .ref 236), (1, vi a0), (2, vi x1), (3, vi 0), (4, vi 0), (5, vi e11)]) ⟨rfl, rfl, rfl, rfl, rfl, rfl, trivial⟩ rfl ?_
        exact I3 x1 e11 h ⟨rfl, (show (-2147483648 ≤ x1 ∧ x1 ≤ 2147483647) ∧ (0 ≤ e11 ∧ e11 ≤ 12) by omega)⟩ (show ((12 : Int) + 1 - e11).toNat < ((12 : Int) + 1 - x2).toNat by omega)
      ·
        refine wi_goto (nx := 38) (r1 := 48) (r2 := 0) (r3 := 0) rfl ?_
        refine wi_iload_n (i := 2) (e := x1) (nx := 49) (r1 := 0) (r2 := 0) (r3 := 0) rfl rfl ?_
        refine wi_iconst (n := 1) (nx := 50) (r1 := 0) (r2 := 0) (r3 := 0) rfl ?_
        refine wi_aload_n (i := 0) (x := 236) (nx := 51) (r1 := 0) (r2 := 0) (r3 := 0) rfl rfl ?_
        refine wr_gr (k0 := 236) (x := 238) (nx := 54) (r1 := 11) (r2 := 13) (r3 := 0) rfl rfl (by decide) rfl ⟨rfl, rfl⟩ rfl ?_
        refine wi_bipush (n := 31) (nx := 56) (r1 := 0) (r2 := 0) (r3 := 0) rfl (by decide) ?_
        refine wi_iload (i := 5) (e := x2) (nx := 58) (r1 := 0) (r2 := 0) (r3 := 0) rfl rfl ?_
        refine wr_add (nx := 59) (r1 := 0) (r2 := 0) (r3 := 0) rfl (fun e11 (fe11 : e11 = 31 + x2) => ?_)
        obtain ⟨i12, ei12⟩ : ∃ q : Nat, e11 = (q : Int) := ⟨(e11).toNat, by omega⟩
        have b13 := gi_b (lo := 0) (hi := 4) g 238 i12 (gi_rg 31 12 (fun _ => rfl) (by decide +kernel) (by omega))
        refine wr_ia (k0 := 238) (a := e11) (f := i12) (x := h 238 i12) (nx := 60) (r1 := 0) (r2 := 0) (r3 := 0) rfl (by decide) rfl (by omega) (by omega) (by decide) rfl ?_
        refine wr_ishl1 (y := h 238 i12) (nx := 61) (r1 := 0) (r2 := 0) (r3 := 0) rfl (by omega) (fun e14 (fe14 : 1 ≤ e14 ∧ e14 ≤ 4096) ve14 => ?_)
        refine wr_iorA (nx := 62) (r1 := 0) (r2 := 0) (r3 := 0) rfl (fun e15 (fe15 : -2147483648 ≤ e15 ∧ e15 ≤ 2147483647) => ?_)
        refine wi_istore_n (i := 2) (e := e15) (lo2 := [(2, vi e15), (0, .ref 236), (1, vi a0), (3, vi 0), (4, vi 0), (5, vi x2)]) (nx := 63) (r1 := 0) (r2 := 0) (r3 := 0) rfl rfl ?_
        refine wr_iinc (i := 5) (n := 1) (v := x2) (fun e16 => [(5, vi e16), (2, vi e15), (0, .ref 236), (1, vi a0), (3, vi 0), (4, vi 0)]) (nx := 66) (r1 := 0) (r2 := 0) (r3 := 0) rfl rfl (fun _ => rfl) (fun e16 (fe16 : e16 = x2 + 1) => ?_)
        refine wi_goto (nx := 69) (r1 := 10) (r2 := 0) (r3 := 0) rfl ?_
        refine wp.lo (lo := [(0, .ref 236), (1, vi a0), (2, vi e15), (3, vi 0), (4, vi 0), (5, vi e16)]) ⟨rfl, rfl, rfl, rfl, rfl, rfl, trivial⟩ rfl ?_
        exact I3 e15 e16 h ⟨rfl, (show (-2147483648 ≤ e15 ∧ e15 ≤ 2147483647) ∧ (0 ≤ e16 ∧ e16 ≤ 12) by omega)⟩ (show ((12 : Int) + 1 - e16).toNat < ((12 : Int) + 1 - x2).toNat by omega)
-- method 319: Model.bound()I
set_option maxHeartbeats 100000000 in
theorem ct_319_236 {L : Nat} {xs : Nat → Int32} {d b c : Nat} {h : hp} {cr : Nat → Nat → Option Nat} {Q : hp_Q} (hcr : CR cr)  (g : GI h)    (k : ∀ (h2 : hp) (z0 : Int) , GI h2 → FR [(236, 236, some (0, 0))] h h2 → (-2147483648 ≤ z0 ∧ z0 ≤ 2147483647) → Q (.inl (some (vi z0))) (hp_w h2 cr) b c) : wp (md_xa (L, xs)) (d + 4) 319 (0, [(0, .ref 236)], [], hp_w h cr, b, c) Q := by
  have F0 : FR [(236, 236, some (0, 0))] h h := FR.refl
  refine wi_aload_n (i := 0) (x := 236) (nx := 1) (r1 := 0) (r2 := 0) (r3 := 0) rfl rfl ?_
  refine wi_iconst (n := 0) (nx := 2) (r1 := 0) (r2 := 0) (r3 := 0) rfl ?_
  refine wr_pf0 (k0 := 236) (x := 0) (bl := 0) (bh := 2) (nx := 5) (r1 := 11) (r2 := 0) (r3 := 0) rfl (by decide) rfl ⟨rfl, rfl⟩ rfl rfl g rfl (by omega) (fun h1 g1 w1 u1 => ?_)
  have F2 := F0.then rfl u1
  refine wi_aload_n (i := 0) (x := 236) (nx := 6) (r1 := 0) (r2 := 0) (r3 := 0) rfl rfl ?_
  refine wi_iconst (n := 0) (nx := 7) (r1 := 0) (r2 := 0) (r3 := 0) rfl ?_
  refine wr_V (k0 := 236) (rest := []) (as := [.ref 236, vi 0]) (nx := 10) (r1 := 317) (r2 := 1) (r3 := 11) rfl rfl rfl (of_decide_eq_true rfl) rfl rfl (by decide) rfl rfl (of_decide_eq_true rfl) (of_decide_eq_true rfl) ?_
  refine ct_317_236 hcr  g1 0 (by omega)  (fun z4  (fz4 : -2147483648 ≤ z4 ∧ z4 ≤ 2147483647) => ?_)
  refine wk_i ?_
  refine wi_ireturn (nx := 11) (r1 := 0) (r2 := 0) (r3 := 0) rfl rfl ?_
  exact k h1 z4 g1 F2 (by omega)
-- method 267: Model.mayLeave(I)Z
set_option maxHeartbeats 100000000 in
theorem ct_267_236_L0 {L : Nat} {xs : Nat → Int32} {d b c : Nat} {h : hp} {cr : Nat → Nat → Option Nat} {Q : hp_Q} (hcr : CR cr)  (g : GI h)    (k : ∀ (z0 : Int), (0 ≤ z0 ∧ z0 ≤ 1) → (z0 = 0 ∨ 1 ≤ h 238 98) → (z0 = 0 ∨ h 238 67 ≤ 9998) → (z0 = 0 ∨ (1 ≤ h 238 (43 + (h 238 74).toNat) ∧ h 238 102 < h 238 7) ∨ (h 238 (43 + (h 238 74).toNat) ≤ 0 ∧ h 238 74 - h 238 106 ≤ h 238 3)) → (mlP (h 238) 0 z0) → Q (.inl (some (vi z0))) (hp_w h cr) b c) : wp (md_xa (L, xs)) (d + 1) 267 (0, [(0, .ref 236), (1, vi 0)], [], hp_w h cr, b, c) Q := by
  have F0 : FR [] h h := FR.refl
  refine wi_aload_n (i := 0) (x := 236) (nx := 1) (r1 := 0) (r2 := 0) (r3 := 0) rfl rfl ?_
  refine wr_gr (k0 := 236) (x := 238) (nx := 4) (r1 := 11) (r2 := 13) (r3 := 0) rfl rfl (by decide) rfl ⟨rfl, rfl⟩ rfl ?_
  refine wi_bipush (n := 98) (nx := 6) (r1 := 0) (r2 := 0) (r3 := 0) rfl (by decide) ?_
  refine wi_iload_n (i := 1) (e := 0) (nx := 7) (r1 := 0) (r2 := 0) (r3 := 0) rfl rfl ?_
  refine wr_addL (98) (nx := 8) (r1 := 0) (r2 := 0) (r3 := 0) rfl (by decide) ?_
  have b1 := gi_b (lo := 0) (hi := 6) g 238 98 rfl
  refine wr_ia (k0 := 238) (a := 98) (f := 98) (x := h 238 98) (nx := 9) (r1 := 0) (r2 := 0) (r3 := 0) rfl (by decide) rfl (by omega) (by omega) (by decide) rfl ?_
  refine wi_if (cd := .eq) (nx := 12) (r1 := 25) (r2 := 0) (r3 := 0) rfl (by omega) (fun (q2 : (h 238 98) = 0) => ?_) (fun (q2 : ¬ ((h 238 98) = 0)) => ?_)
  ·
    refine wi_iconst (n := 0) (nx := 26) (r1 := 0) (r2 := 0) (r3 := 0) rfl ?_
    refine wi_zreturn (nx := 27) (r1 := 0) (r2 := 0) (r3 := 0) rfl rfl (by omega) ?_
    have b3 := gi_b (lo := 0) (hi := 9999) g 238 67 rfl
    have b4 := gi_b (lo := 0) (hi := 11) g 238 74 rfl
    obtain ⟨i5, ei5⟩ : ∃ q : Nat, (43 + h 238 74) = (q : Int) := ⟨(43 + h 238 74).toNat, by omega⟩
    have b6 := gi_b (lo := 0) (hi := 999) g 238 i5 (gi_rg 43 12 (fun _ => rfl) (by decide +kernel) (by omega))
    have e7 : h 238 (43 + (h 238 74).toNat) = h 238 i5 := by rw [show 43 + (h 238 74).toNat = i5 by omega]
    have b8 := gi_b (lo := 0) (hi := 3) g 238 102 rfl
    have b9 := gi_b (lo := 0) (hi := 3) g 238 7 rfl
    have b10 := gi_b (lo := 0) (hi := 12) g 238 106 rfl
    have b11 := gi_b (lo := 0) (hi := 999) g 238 3 rfl
    exact k 0 (by omega) (show 0 = 0 ∨ 1 ≤ (h 238 98) by omega) (show 0 = 0 ∨ (h 238 67) ≤ 9998 by omega) (show 0 = 0 ∨ (1 ≤ (h 238 (43 + (h 238 74).toNat)) ∧ (h 238 102) < (h 238 7)) ∨ ((h 238 (43 + (h 238 74).toNat)) ≤ 0 ∧ (h 238 74) - (h 238 106) ≤ (h 238 3)) by omega) (Or.inr ⟨rfl, fun c => by
        have c2 : 1 ≤ h 238 98 := c.1
        have c3 : h 238 67 ≤ 9998 := c.2.1
        have c4 : ((1 ≤ h 238 (43 + (h 238 74).toNat) ∧ h 238 102 < h 238 7) ∨ (h 238 (43 + (h 238 74).toNat) ≤ 0 ∧ h 238 74 - h 238 106 ≤ h 238 3)) := c.2.2
        rw [show 43 + (h 238 74).toNat = i5 by omega] at c4
        omega⟩)
  ·
    refine wi_aload_n (i := 0) (x := 236) (nx := 13) (r1 := 0) (r2 := 0) (r3 := 0) rfl rfl ?_
    refine wr_gr (k0 := 236) (x := 238) (nx := 16) (r1 := 11) (r2 := 13) (r3 := 0) rfl rfl (by decide) rfl ⟨rfl, rfl⟩ rfl ?_
    refine wi_bipush (n := 67) (nx := 18) (r1 := 0) (r2 := 0) (r3 := 0) rfl (by decide) ?_
    have b3 := gi_b (lo := 0) (hi := 9999) g 238 67 rfl
    refine wr_ia (k0 := 238) (a := 67) (f := 67) (x := h 238 67) (nx := 19) (r1 := 0) (r2 := 0) (r3 := 0) rfl (by decide) rfl (by omega) (by omega) (by decide) rfl ?_
    refine wi_sipush (n := 9999) (nx := 22) (r1 := 0) (r2 := 0) (r3 := 0) rfl (by decide) ?_
    refine wi_icmp (cd := .ne) (nx := 25) (r1 := 27) (r2 := 0) (r3 := 0) rfl (by omega) (by omega) (fun (q4 : (h 238 67) ≠ 9999) => ?_) (fun (q4 : ¬ ((h 238 67) ≠ 9999)) => ?_)
    ·
      refine wi_aload_n (i := 0) (x := 236) (nx := 28) (r1 := 0) (r2 := 0) (r3 := 0) rfl rfl ?_
      refine wi_iload_n (i := 1) (e := 0) (nx := 29) (r1 := 0) (r2 := 0) (r3 := 0) rfl rfl ?_
      refine wi_iconst (n := 0) (nx := 30) (r1 := 0) (r2 := 0) (r3 := 0) rfl ?_
      refine wr_V (k0 := 236) (rest := []) (as := [.ref 236, vi 0, vi 0]) (nx := 33) (r1 := 258) (r2 := 2) (r3 := 11) rfl rfl rfl (of_decide_eq_true rfl) rfl rfl (by decide) rfl rfl (of_decide_eq_true rfl) (of_decide_eq_true rfl) ?_
      refine wi_aload_n (i := 0) (x := 236) (nx := 1) (r1 := 0) (r2 := 0) (r3 := 0) rfl rfl ?_
      refine wr_gr (k0 := 236) (x := 238) (nx := 4) (r1 := 11) (r2 := 13) (r3 := 0) rfl rfl (by decide) rfl ⟨rfl, rfl⟩ rfl ?_
      refine wi_bipush (n := 74) (nx := 6) (r1 := 0) (r2 := 0) (r3 := 0) rfl (by decide) ?_
      refine wi_bipush (n := 6) (nx := 8) (r1 := 0) (r2 := 0) (r3 := 0) rfl (by decide) ?_
      refine wi_iload_n (i := 1) (e := 0) (nx := 9) (r1 := 0) (r2 := 0) (r3 := 0) rfl rfl ?_
      refine wr_mulL (0) (nx := 10) (r1 := 0) (r2 := 0) (r3 := 0) rfl (by decide) ?_
      refine wr_addL (74) (nx := 11) (r1 := 0) (r2 := 0) (r3 := 0) rfl (by decide) ?_
      refine wi_iload_n (i := 2) (e := 0) (nx := 12) (r1 := 0) (r2 := 0) (r3 := 0) rfl rfl ?_
      refine wr_addL (74) (nx := 13) (r1 := 0) (r2 := 0) (r3 := 0) rfl (by decide) ?_
      have b5 := gi_b (lo := 0) (hi := 11) g 238 74 rfl
      refine wr_ia (k0 := 238) (a := 74) (f := 74) (x := h 238 74) (nx := 14) (r1 := 0) (r2 := 0) (r3 := 0) rfl (by decide) rfl (by omega) (by omega) (by decide) rfl ?_
      refine wi_ireturn (nx := 15) (r1 := 0) (r2 := 0) (r3 := 0) rfl rfl ?_
      refine wk_i ?_
      refine wi_istore_n (i := 2) (e := h 238 74) (lo2 := [(2, vi (h 238 74)), (0, .ref 236), (1, vi 0)]) (nx := 34) (r1 := 0) (r2 := 0) (r3 := 0) rfl rfl ?_
      refine wi_aload_n (i := 0) (x := 236) (nx := 35) (r1 := 0) (r2 := 0) (r3 := 0) rfl rfl ?_
      refine wr_gr (k0 := 236) (x := 238) (nx := 38) (r1 := 11) (r2 := 13) (r3 := 0) rfl rfl (by decide) rfl ⟨rfl, rfl⟩ rfl ?_
      refine wi_bipush (n := 43) (nx := 40) (r1 := 0) (r2 := 0) (r3 := 0) rfl (by decide) ?_
      refine wi_iload_n (i := 2) (e := h 238 74) (nx := 41) (r1 := 0) (r2 := 0) (r3 := 0) rfl rfl ?_
      refine wr_add (nx := 42) (r1 := 0) (r2 := 0) (r3 := 0) rfl (fun e6 (fe6 : e6 = 43 + (h 238 74)) => ?_)
      obtain ⟨i7, ei7⟩ : ∃ q : Nat, e6 = (q : Int) := ⟨(e6).toNat, by omega⟩
      have b8 := gi_b (lo := 0) (hi := 999) g 238 i7 (gi_rg 43 12 (fun _ => rfl) (by decide +kernel) (by omega))
      refine wr_ia (k0 := 238) (a := e6) (f := i7) (x := h 238 i7) (nx := 43) (r1 := 0) (r2 := 0) (r3 := 0) rfl (by decide) rfl (by omega) (by omega) (by decide) rfl ?_
      refine wi_if (cd := .le) (nx := 46) (r1 := 71) (r2 := 0) (r3 := 0) rfl (by omega) (fun (q9 : (h 238 i7) ≤ 0) => ?_) (fun (q9 : ¬ ((h 238 i7) ≤ 0)) => ?_)
      ·
        refine wi_iload_n (i := 2) (e := h 238 74) (nx := 72) (r1 := 0) (r2 := 0) (r3 := 0) rfl rfl ?_
        refine wi_aload_n (i := 0) (x := 236) (nx := 73) (r1 := 0) (r2 := 0) (r3 := 0) rfl rfl ?_
        refine wr_gr (k0 := 236) (x := 238) (nx := 76) (r1 := 11) (r2 := 13) (r3 := 0) rfl rfl (by decide) rfl ⟨rfl, rfl⟩ rfl ?_
        refine wi_bipush (n := 106) (nx := 78) (r1 := 0) (r2 := 0) (r3 := 0) rfl (by decide) ?_
        have b10 := gi_b (lo := 0) (hi := 12) g 238 106 rfl
        refine wr_ia (k0 := 238) (a := 106) (f := 106) (x := h 238 106) (nx := 79) (r1 := 0) (r2 := 0) (r3 := 0) rfl (by decide) rfl (by omega) (by omega) (by decide) rfl ?_
        refine wr_sub (nx := 80) (r1 := 0) (r2 := 0) (r3 := 0) rfl (fun e11 (fe11 : e11 = (h 238 74) - (h 238 106)) => ?_)
        refine wi_aload_n (i := 0) (x := 236) (nx := 81) (r1 := 0) (r2 := 0) (r3 := 0) rfl rfl ?_
        refine wr_gr (k0 := 236) (x := 238) (nx := 84) (r1 := 11) (r2 := 13) (r3 := 0) rfl rfl (by decide) rfl ⟨rfl, rfl⟩ rfl ?_
        refine wi_iconst (n := 3) (nx := 85) (r1 := 0) (r2 := 0) (r3 := 0) rfl ?_
        have b12 := gi_b (lo := 0) (hi := 999) g 238 3 rfl
        refine wr_ia (k0 := 238) (a := 3) (f := 3) (x := h 238 3) (nx := 86) (r1 := 0) (r2 := 0) (r3 := 0) rfl (by decide) rfl (by omega) (by omega) (by decide) rfl ?_
        refine wi_icmp (cd := .gt) (nx := 89) (r1 := 93) (r2 := 0) (r3 := 0) rfl (by omega) (by omega) (fun (q13 : (h 238 3) < e11) => ?_) (fun (q13 : ¬ ((h 238 3) < e11)) => ?_)
        ·
          refine wi_iconst (n := 0) (nx := 94) (r1 := 0) (r2 := 0) (r3 := 0) rfl ?_
          refine wi_zreturn (nx := 95) (r1 := 0) (r2 := 0) (r3 := 0) rfl rfl (by omega) ?_
          have e14 : h 238 (43 + (h 238 74).toNat) = h 238 i7 := by rw [show 43 + (h 238 74).toNat = i7 by omega]
          have b15 := gi_b (lo := 0) (hi := 3) g 238 102 rfl
          have b16 := gi_b (lo := 0) (hi := 3) g 238 7 rfl
          exact k 0 (by omega) (show 0 = 0 ∨ 1 ≤ (h 238 98) by omega) (show 0 = 0 ∨ (h 238 67) ≤ 9998 by omega) (show 0 = 0 ∨ (1 ≤ (h 238 (43 + (h 238 74).toNat)) ∧ (h 238 102) < (h 238 7)) ∨ ((h 238 (43 + (h 238 74).toNat)) ≤ 0 ∧ (h 238 74) - (h 238 106) ≤ (h 238 3)) by omega) (Or.inr ⟨rfl, fun c => by
              have c2 : 1 ≤ h 238 98 := c.1
              have c3 : h 238 67 ≤ 9998 := c.2.1
              have c4 : ((1 ≤ h 238 (43 + (h 238 74).toNat) ∧ h 238 102 < h 238 7) ∨ (h 238 (43 + (h 238 74).toNat) ≤ 0 ∧ h 238 74 - h 238 106 ≤ h 238 3)) := c.2.2
              rw [show 43 + (h 238 74).toNat = i7 by omega] at c4
              omega⟩)
        ·
          refine wi_iconst (n := 1) (nx := 90) (r1 := 0) (r2 := 0) (r3 := 0) rfl ?_
          refine wi_goto (nx := 93) (r1 := 94) (r2 := 0) (r3 := 0) rfl ?_
          refine wi_zreturn (nx := 95) (r1 := 0) (r2 := 0) (r3 := 0) rfl rfl (by omega) ?_
          have e14 : h 238 (43 + (h 238 74).toNat) = h 238 i7 := by rw [show 43 + (h 238 74).toNat = i7 by omega]
          have b15 := gi_b (lo := 0) (hi := 3) g 238 102 rfl
          have b16 := gi_b (lo := 0) (hi := 3) g 238 7 rfl
          exact k 1 (by omega) (show 1 = 0 ∨ 1 ≤ (h 238 98) by omega) (show 1 = 0 ∨ (h 238 67) ≤ 9998 by omega) (show 1 = 0 ∨ (1 ≤ (h 238 (43 + (h 238 74).toNat)) ∧ (h 238 102) < (h 238 7)) ∨ ((h 238 (43 + (h 238 74).toNat)) ≤ 0 ∧ (h 238 74) - (h 238 106) ≤ (h 238 3)) by omega) (Or.inl ⟨rfl, (show 1 ≤ h 238 98 by omega), (show h 238 67 ≤ 9998 by omega), (show ((1 ≤ h 238 (43 + (h 238 74).toNat) ∧ h 238 102 < h 238 7) ∨ (h 238 (43 + (h 238 74).toNat) ≤ 0 ∧ h 238 74 - h 238 106 ≤ h 238 3)) by rw [show 43 + (h 238 74).toNat = i7 by omega]; omega)⟩)
      ·
        refine wi_aload_n (i := 0) (x := 236) (nx := 47) (r1 := 0) (r2 := 0) (r3 := 0) rfl rfl ?_
        refine wr_gr (k0 := 236) (x := 238) (nx := 50) (r1 := 11) (r2 := 13) (r3 := 0) rfl rfl (by decide) rfl ⟨rfl, rfl⟩ rfl ?_
        refine wi_bipush (n := 102) (nx := 52) (r1 := 0) (r2 := 0) (r3 := 0) rfl (by decide) ?_
        have b10 := gi_b (lo := 0) (hi := 3) g 238 102 rfl
        refine wr_ia (k0 := 238) (a := 102) (f := 102) (x := h 238 102) (nx := 53) (r1 := 0) (r2 := 0) (r3 := 0) rfl (by decide) rfl (by omega) (by omega) (by decide) rfl ?_
        refine wi_aload_n (i := 0) (x := 236) (nx := 54) (r1 := 0) (r2 := 0) (r3 := 0) rfl rfl ?_
        refine wr_gr (k0 := 236) (x := 238) (nx := 57) (r1 := 11) (r2 := 13) (r3 := 0) rfl rfl (by decide) rfl ⟨rfl, rfl⟩ rfl ?_
        refine wi_bipush (n := 7) (nx := 59) (r1 := 0) (r2 := 0) (r3 := 0) rfl (by decide) ?_
        have b11 := gi_b (lo := 0) (hi := 3) g 238 7 rfl
        refine wr_ia (k0 := 238) (a := 7) (f := 7) (x := h 238 7) (nx := 60) (r1 := 0) (r2 := 0) (r3 := 0) rfl (by decide) rfl (by omega) (by omega) (by decide) rfl ?_
        refine wi_icmp (cd := .ge) (nx := 63) (r1 := 67) (r2 := 0) (r3 := 0) rfl (by omega) (by omega) (fun (q12 : (h 238 7) ≤ (h 238 102)) => ?_) (fun (q12 : ¬ ((h 238 7) ≤ (h 238 102))) => ?_)
        ·
          refine wi_iconst (n := 0) (nx := 68) (r1 := 0) (r2 := 0) (r3 := 0) rfl ?_
          refine wi_goto (nx := 71) (r1 := 94) (r2 := 0) (r3 := 0) rfl ?_
          refine wi_zreturn (nx := 95) (r1 := 0) (r2 := 0) (r3 := 0) rfl rfl (by omega) ?_
          have e13 : h 238 (43 + (h 238 74).toNat) = h 238 i7 := by rw [show 43 + (h 238 74).toNat = i7 by omega]
          have b14 := gi_b (lo := 0) (hi := 12) g 238 106 rfl
          have b15 := gi_b (lo := 0) (hi := 999) g 238 3 rfl
          exact k 0 (by omega) (show 0 = 0 ∨ 1 ≤ (h 238 98) by omega) (show 0 = 0 ∨ (h 238 67) ≤ 9998 by omega) (show 0 = 0 ∨ (1 ≤ (h 238 (43 + (h 238 74).toNat)) ∧ (h 238 102) < (h 238 7)) ∨ ((h 238 (43 + (h 238 74).toNat)) ≤ 0 ∧ (h 238 74) - (h 238 106) ≤ (h 238 3)) by omega) (Or.inr ⟨rfl, fun c => by
              have c2 : 1 ≤ h 238 98 := c.1
              have c3 : h 238 67 ≤ 9998 := c.2.1
              have c4 : ((1 ≤ h 238 (43 + (h 238 74).toNat) ∧ h 238 102 < h 238 7) ∨ (h 238 (43 + (h 238 74).toNat) ≤ 0 ∧ h 238 74 - h 238 106 ≤ h 238 3)) := c.2.2
              rw [show 43 + (h 238 74).toNat = i7 by omega] at c4
              omega⟩)
        ·
          refine wi_iconst (n := 1) (nx := 64) (r1 := 0) (r2 := 0) (r3 := 0) rfl ?_
          refine wi_goto (nx := 67) (r1 := 94) (r2 := 0) (r3 := 0) rfl ?_
          refine wi_zreturn (nx := 95) (r1 := 0) (r2 := 0) (r3 := 0) rfl rfl (by omega) ?_
          have e13 : h 238 (43 + (h 238 74).toNat) = h 238 i7 := by rw [show 43 + (h 238 74).toNat = i7 by omega]
          have b14 := gi_b (lo := 0) (hi := 12) g 238 106 rfl
          have b15 := gi_b (lo := 0) (hi := 999) g 238 3 rfl
          exact k 1 (by omega) (show 1 = 0 ∨ 1 ≤ (h 238 98) by omega) (show 1 = 0 ∨ (h 238 67) ≤ 9998 by omega) (show 1 = 0 ∨ (1 ≤ (h 238 (43 + (h 238 74).toNat)) ∧ (h 238 102) < (h 238 7)) ∨ ((h 238 (43 + (h 238 74).toNat)) ≤ 0 ∧ (h 238 74) - (h 238 106) ≤ (h 238 3)) by omega) (Or.inl ⟨rfl, (show 1 ≤ h 238 98 by omega), (show h 238 67 ≤ 9998 by omega), (show ((1 ≤ h 238 (43 + (h 238 74).toNat) ∧ h 238 102 < h 238 7) ∨ (h 238 (43 + (h 238 74).toNat) ≤ 0 ∧ h 238 74 - h 238 106 ≤ h 238 3)) by rw [show 43 + (h 238 74).toNat = i7 by omega]; omega)⟩)
    ·
      refine wi_iconst (n := 0) (nx := 26) (r1 := 0) (r2 := 0) (r3 := 0) rfl ?_
      refine wi_zreturn (nx := 27) (r1 := 0) (r2 := 0) (r3 := 0) rfl rfl (by omega) ?_
      have b5 := gi_b (lo := 0) (hi := 11) g 238 74 rfl
      obtain ⟨i6, ei6⟩ : ∃ q : Nat, (43 + h 238 74) = (q : Int) := ⟨(43 + h 238 74).toNat, by omega⟩
      have b7 := gi_b (lo := 0) (hi := 999) g 238 i6 (gi_rg 43 12 (fun _ => rfl) (by decide +kernel) (by omega))
      have e8 : h 238 (43 + (h 238 74).toNat) = h 238 i6 := by rw [show 43 + (h 238 74).toNat = i6 by omega]
      have b9 := gi_b (lo := 0) (hi := 3) g 238 102 rfl
      have b10 := gi_b (lo := 0) (hi := 3) g 238 7 rfl
      have b11 := gi_b (lo := 0) (hi := 12) g 238 106 rfl
      have b12 := gi_b (lo := 0) (hi := 999) g 238 3 rfl
      exact k 0 (by omega) (show 0 = 0 ∨ 1 ≤ (h 238 98) by omega) (show 0 = 0 ∨ (h 238 67) ≤ 9998 by omega) (show 0 = 0 ∨ (1 ≤ (h 238 (43 + (h 238 74).toNat)) ∧ (h 238 102) < (h 238 7)) ∨ ((h 238 (43 + (h 238 74).toNat)) ≤ 0 ∧ (h 238 74) - (h 238 106) ≤ (h 238 3)) by omega) (Or.inr ⟨rfl, fun c => by
          have c2 : 1 ≤ h 238 98 := c.1
          have c3 : h 238 67 ≤ 9998 := c.2.1
          have c4 : ((1 ≤ h 238 (43 + (h 238 74).toNat) ∧ h 238 102 < h 238 7) ∨ (h 238 (43 + (h 238 74).toNat) ≤ 0 ∧ h 238 74 - h 238 106 ≤ h 238 3)) := c.2.2
          rw [show 43 + (h 238 74).toNat = i6 by omega] at c4
          omega⟩)
-- method 267: Model.mayLeave(I)Z
set_option maxHeartbeats 100000000 in
theorem ct_267_236_L1 {L : Nat} {xs : Nat → Int32} {d b c : Nat} {h : hp} {cr : Nat → Nat → Option Nat} {Q : hp_Q} (hcr : CR cr)  (g : GI h)    (k : ∀ (z0 : Int), (0 ≤ z0 ∧ z0 ≤ 1) → (z0 = 0 ∨ 1 ≤ h 238 99) → (z0 = 0 ∨ h 238 67 ≤ 9998) → (z0 = 0 ∨ (1 ≤ h 238 (43 + (h 238 80).toNat) ∧ h 238 102 < h 238 7) ∨ (h 238 (43 + (h 238 80).toNat) ≤ 0 ∧ h 238 80 - h 238 106 ≤ h 238 3)) → (mlP (h 238) 1 z0) → Q (.inl (some (vi z0))) (hp_w h cr) b c) : wp (md_xa (L, xs)) (d + 1) 267 (0, [(0, .ref 236), (1, vi 1)], [], hp_w h cr, b, c) Q := by
  have F0 : FR [] h h := FR.refl
  refine wi_aload_n (i := 0) (x := 236) (nx := 1) (r1 := 0) (r2 := 0) (r3 := 0) rfl rfl ?_
  refine wr_gr (k0 := 236) (x := 238) (nx := 4) (r1 := 11) (r2 := 13) (r3 := 0) rfl rfl (by decide) rfl ⟨rfl, rfl⟩ rfl ?_
  refine wi_bipush (n := 98) (nx := 6) (r1 := 0) (r2 := 0) (r3 := 0) rfl (by decide) ?_
  refine wi_iload_n (i := 1) (e := 1) (nx := 7) (r1 := 0) (r2 := 0) (r3 := 0) rfl rfl ?_
  refine wr_addL (99) (nx := 8) (r1 := 0) (r2 := 0) (r3 := 0) rfl (by decide) ?_
  have b1 := gi_b (lo := 0) (hi := 6) g 238 99 rfl
  refine wr_ia (k0 := 238) (a := 99) (f := 99) (x := h 238 99) (nx := 9) (r1 := 0) (r2 := 0) (r3 := 0) rfl (by decide) rfl (by omega) (by omega) (by decide) rfl ?_
  refine wi_if (cd := .eq) (nx := 12) (r1 := 25) (r2 := 0) (r3 := 0) rfl (by omega) (fun (q2 : (h 238 99) = 0) => ?_) (fun (q2 : ¬ ((h 238 99) = 0)) => ?_)
  ·
    refine wi_iconst (n := 0) (nx := 26) (r1 := 0) (r2 := 0) (r3 := 0) rfl ?_
    refine wi_zreturn (nx := 27) (r1 := 0) (r2 := 0) (r3 := 0) rfl rfl (by omega) ?_
    have b3 := gi_b (lo := 0) (hi := 9999) g 238 67 rfl
    have b4 := gi_b (lo := 0) (hi := 11) g 238 80 rfl
    obtain ⟨i5, ei5⟩ : ∃ q : Nat, (43 + h 238 80) = (q : Int) := ⟨(43 + h 238 80).toNat, by omega⟩
    have b6 := gi_b (lo := 0) (hi := 999) g 238 i5 (gi_rg 43 12 (fun _ => rfl) (by decide +kernel) (by omega))
    have e7 : h 238 (43 + (h 238 80).toNat) = h 238 i5 := by rw [show 43 + (h 238 80).toNat = i5 by omega]
    have b8 := gi_b (lo := 0) (hi := 3) g 238 102 rfl
    have b9 := gi_b (lo := 0) (hi := 3) g 238 7 rfl
    have b10 := gi_b (lo := 0) (hi := 12) g 238 106 rfl
    have b11 := gi_b (lo := 0) (hi := 999) g 238 3 rfl
    exact k 0 (by omega) (show 0 = 0 ∨ 1 ≤ (h 238 99) by omega) (show 0 = 0 ∨ (h 238 67) ≤ 9998 by omega) (show 0 = 0 ∨ (1 ≤ (h 238 (43 + (h 238 80).toNat)) ∧ (h 238 102) < (h 238 7)) ∨ ((h 238 (43 + (h 238 80).toNat)) ≤ 0 ∧ (h 238 80) - (h 238 106) ≤ (h 238 3)) by omega) (Or.inr ⟨rfl, fun c => by
        have c2 : 1 ≤ h 238 99 := c.1
        have c3 : h 238 67 ≤ 9998 := c.2.1
        have c4 : ((1 ≤ h 238 (43 + (h 238 80).toNat) ∧ h 238 102 < h 238 7) ∨ (h 238 (43 + (h 238 80).toNat) ≤ 0 ∧ h 238 80 - h 238 106 ≤ h 238 3)) := c.2.2
        rw [show 43 + (h 238 80).toNat = i5 by omega] at c4
        omega⟩)
  ·
    refine wi_aload_n (i := 0) (x := 236) (nx := 13) (r1 := 0) (r2 := 0) (r3 := 0) rfl rfl ?_
    refine wr_gr (k0 := 236) (x := 238) (nx := 16) (r1 := 11) (r2 := 13) (r3 := 0) rfl rfl (by decide) rfl ⟨rfl, rfl⟩ rfl ?_
    refine wi_bipush (n := 67) (nx := 18) (r1 := 0) (r2 := 0) (r3 := 0) rfl (by decide) ?_
    have b3 := gi_b (lo := 0) (hi := 9999) g 238 67 rfl
    refine wr_ia (k0 := 238) (a := 67) (f := 67) (x := h 238 67) (nx := 19) (r1 := 0) (r2 := 0) (r3 := 0) rfl (by decide) rfl (by omega) (by omega) (by decide) rfl ?_
    refine wi_sipush (n := 9999) (nx := 22) (r1 := 0) (r2 := 0) (r3 := 0) rfl (by decide) ?_
    refine wi_icmp (cd := .ne) (nx := 25) (r1 := 27) (r2 := 0) (r3 := 0) rfl (by omega) (by omega) (fun (q4 : (h 238 67) ≠ 9999) => ?_) (fun (q4 : ¬ ((h 238 67) ≠ 9999)) => ?_)
    ·
      refine wi_aload_n (i := 0) (x := 236) (nx := 28) (r1 := 0) (r2 := 0) (r3 := 0) rfl rfl ?_
      refine wi_iload_n (i := 1) (e := 1) (nx := 29) (r1 := 0) (r2 := 0) (r3 := 0) rfl rfl ?_
      refine wi_iconst (n := 0) (nx := 30) (r1 := 0) (r2 := 0) (r3 := 0) rfl ?_
      refine wr_V (k0 := 236) (rest := []) (as := [.ref 236, vi 1, vi 0]) (nx := 33) (r1 := 258) (r2 := 2) (r3 := 11) rfl rfl rfl (of_decide_eq_true rfl) rfl rfl (by decide) rfl rfl (of_decide_eq_true rfl) (of_decide_eq_true rfl) ?_
      refine wi_aload_n (i := 0) (x := 236) (nx := 1) (r1 := 0) (r2 := 0) (r3 := 0) rfl rfl ?_
      refine wr_gr (k0 := 236) (x := 238) (nx := 4) (r1 := 11) (r2 := 13) (r3 := 0) rfl rfl (by decide) rfl ⟨rfl, rfl⟩ rfl ?_
      refine wi_bipush (n := 74) (nx := 6) (r1 := 0) (r2 := 0) (r3 := 0) rfl (by decide) ?_
      refine wi_bipush (n := 6) (nx := 8) (r1 := 0) (r2 := 0) (r3 := 0) rfl (by decide) ?_
      refine wi_iload_n (i := 1) (e := 1) (nx := 9) (r1 := 0) (r2 := 0) (r3 := 0) rfl rfl ?_
      refine wr_mulL (6) (nx := 10) (r1 := 0) (r2 := 0) (r3 := 0) rfl (by decide) ?_
      refine wr_addL (80) (nx := 11) (r1 := 0) (r2 := 0) (r3 := 0) rfl (by decide) ?_
      refine wi_iload_n (i := 2) (e := 0) (nx := 12) (r1 := 0) (r2 := 0) (r3 := 0) rfl rfl ?_
      refine wr_addL (80) (nx := 13) (r1 := 0) (r2 := 0) (r3 := 0) rfl (by decide) ?_
      have b5 := gi_b (lo := 0) (hi := 11) g 238 80 rfl
      refine wr_ia (k0 := 238) (a := 80) (f := 80) (x := h 238 80) (nx := 14) (r1 := 0) (r2 := 0) (r3 := 0) rfl (by decide) rfl (by omega) (by omega) (by decide) rfl ?_
      refine wi_ireturn (nx := 15) (r1 := 0) (r2 := 0) (r3 := 0) rfl rfl ?_
      refine wk_i ?_
      refine wi_istore_n (i := 2) (e := h 238 80) (lo2 := [(2, vi (h 238 80)), (0, .ref 236), (1, vi 1)]) (nx := 34) (r1 := 0) (r2 := 0) (r3 := 0) rfl rfl ?_
      refine wi_aload_n (i := 0) (x := 236) (nx := 35) (r1 := 0) (r2 := 0) (r3 := 0) rfl rfl ?_
      refine wr_gr (k0 := 236) (x := 238) (nx := 38) (r1 := 11) (r2 := 13) (r3 := 0) rfl rfl (by decide) rfl ⟨rfl, rfl⟩ rfl ?_
      refine wi_bipush (n := 43) (nx := 40) (r1 := 0) (r2 := 0) (r3 := 0) rfl (by decide) ?_
      refine wi_iload_n (i := 2) (e := h 238 80) (nx := 41) (r1 := 0) (r2 := 0) (r3 := 0) rfl rfl ?_
      refine wr_add (nx := 42) (r1 := 0) (r2 := 0) (r3 := 0) rfl (fun e6 (fe6 : e6 = 43 + (h 238 80)) => ?_)
      obtain ⟨i7, ei7⟩ : ∃ q : Nat, e6 = (q : Int) := ⟨(e6).toNat, by omega⟩
      have b8 := gi_b (lo := 0) (hi := 999) g 238 i7 (gi_rg 43 12 (fun _ => rfl) (by decide +kernel) (by omega))
      refine wr_ia (k0 := 238) (a := e6) (f := i7) (x := h 238 i7) (nx := 43) (r1 := 0) (r2 := 0) (r3 := 0) rfl (by decide) rfl (by omega) (by omega) (by decide) rfl ?_
      refine wi_if (cd := .le) (nx := 46) (r1 := 71) (r2 := 0) (r3 := 0) rfl (by omega) (fun (q9 : (h 238 i7) ≤ 0) => ?_) (fun (q9 : ¬ ((h 238 i7) ≤ 0)) => ?_)
      ·
        refine wi_iload_n (i := 2) (e := h 238 80) (nx := 72) (r1 := 0) (r2 := 0) (r3 := 0) rfl rfl ?_
        refine wi_aload_n (i := 0) (x := 236) (nx := 73) (r1 := 0) (r2 := 0) (r3 := 0) rfl rfl ?_
        refine wr_gr (k0 := 236) (x := 238) (nx := 76) (r1 := 11) (r2 := 13) (r3 := 0) rfl rfl (by decide) rfl ⟨rfl, rfl⟩ rfl ?_
        refine wi_bipush (n := 106) (nx := 78) (r1 := 0) (r2 := 0) (r3 := 0) rfl (by decide) ?_
        have b10 := gi_b (lo := 0) (hi := 12) g 238 106 rfl
        refine wr_ia (k0 := 238) (a := 106) (f := 106) (x := h 238 106) (nx := 79) (r1 := 0) (r2 := 0) (r3 := 0) rfl (by decide) rfl (by omega) (by omega) (by decide) rfl ?_
        refine wr_sub (nx := 80) (r1 := 0) (r2 := 0) (r3 := 0) rfl (fun e11 (fe11 : e11 = (h 238 80) - (h 238 106)) => ?_)
        refine wi_aload_n (i := 0) (x := 236) (nx := 81) (r1 := 0) (r2 := 0) (r3 := 0) rfl rfl ?_
        refine wr_gr (k0 := 236) (x := 238) (nx := 84) (r1 := 11) (r2 := 13) (r3 := 0) rfl rfl (by decide) rfl ⟨rfl, rfl⟩ rfl ?_
        refine wi_iconst (n := 3) (nx := 85) (r1 := 0) (r2 := 0) (r3 := 0) rfl ?_
        have b12 := gi_b (lo := 0) (hi := 999) g 238 3 rfl
        refine wr_ia (k0 := 238) (a := 3) (f := 3) (x := h 238 3) (nx := 86) (r1 := 0) (r2 := 0) (r3 := 0) rfl (by decide) rfl (by omega) (by omega) (by decide) rfl ?_
        refine wi_icmp (cd := .gt) (nx := 89) (r1 := 93) (r2 := 0) (r3 := 0) rfl (by omega) (by omega) (fun (q13 : (h 238 3) < e11) => ?_) (fun (q13 : ¬ ((h 238 3) < e11)) => ?_)
        ·
          refine wi_iconst (n := 0) (nx := 94) (r1 := 0) (r2 := 0) (r3 := 0) rfl ?_
          refine wi_zreturn (nx := 95) (r1 := 0) (r2 := 0) (r3 := 0) rfl rfl (by omega) ?_
          have e14 : h 238 (43 + (h 238 80).toNat) = h 238 i7 := by rw [show 43 + (h 238 80).toNat = i7 by omega]
          have b15 := gi_b (lo := 0) (hi := 3) g 238 102 rfl
          have b16 := gi_b (lo := 0) (hi := 3) g 238 7 rfl
          exact k 0 (by omega) (show 0 = 0 ∨ 1 ≤ (h 238 99) by omega) (show 0 = 0 ∨ (h 238 67) ≤ 9998 by omega) (show 0 = 0 ∨ (1 ≤ (h 238 (43 + (h 238 80).toNat)) ∧ (h 238 102) < (h 238 7)) ∨ ((h 238 (43 + (h 238 80).toNat)) ≤ 0 ∧ (h 238 80) - (h 238 106) ≤ (h 238 3)) by omega) (Or.inr ⟨rfl, fun c => by
              have c2 : 1 ≤ h 238 99 := c.1
              have c3 : h 238 67 ≤ 9998 := c.2.1
              have c4 : ((1 ≤ h 238 (43 + (h 238 80).toNat) ∧ h 238 102 < h 238 7) ∨ (h 238 (43 + (h 238 80).toNat) ≤ 0 ∧ h 238 80 - h 238 106 ≤ h 238 3)) := c.2.2
              rw [show 43 + (h 238 80).toNat = i7 by omega] at c4
              omega⟩)
        ·
          refine wi_iconst (n := 1) (nx := 90) (r1 := 0) (r2 := 0) (r3 := 0) rfl ?_
          refine wi_goto (nx := 93) (r1 := 94) (r2 := 0) (r3 := 0) rfl ?_
          refine wi_zreturn (nx := 95) (r1 := 0) (r2 := 0) (r3 := 0) rfl rfl (by omega) ?_
          have e14 : h 238 (43 + (h 238 80).toNat) = h 238 i7 := by rw [show 43 + (h 238 80).toNat = i7 by omega]
          have b15 := gi_b (lo := 0) (hi := 3) g 238 102 rfl
          have b16 := gi_b (lo := 0) (hi := 3) g 238 7 rfl
          exact k 1 (by omega) (show 1 = 0 ∨ 1 ≤ (h 238 99) by omega) (show 1 = 0 ∨ (h 238 67) ≤ 9998 by omega) (show 1 = 0 ∨ (1 ≤ (h 238 (43 + (h 238 80).toNat)) ∧ (h 238 102) < (h 238 7)) ∨ ((h 238 (43 + (h 238 80).toNat)) ≤ 0 ∧ (h 238 80) - (h 238 106) ≤ (h 238 3)) by omega) (Or.inl ⟨rfl, (show 1 ≤ h 238 99 by omega), (show h 238 67 ≤ 9998 by omega), (show ((1 ≤ h 238 (43 + (h 238 80).toNat) ∧ h 238 102 < h 238 7) ∨ (h 238 (43 + (h 238 80).toNat) ≤ 0 ∧ h 238 80 - h 238 106 ≤ h 238 3)) by rw [show 43 + (h 238 80).toNat = i7 by omega]; omega)⟩)
      ·
        refine wi_aload_n (i := 0) (x := 236) (nx := 47) (r1 := 0) (r2 := 0) (r3 := 0) rfl rfl ?_
        refine wr_gr (k0 := 236) (x := 238) (nx := 50) (r1 := 11) (r2 := 13) (r3 := 0) rfl rfl (by decide) rfl ⟨rfl, rfl⟩ rfl ?_
        refine wi_bipush (n := 102) (nx := 52) (r1 := 0) (r2 := 0) (r3 := 0) rfl (by decide) ?_
        have b10 := gi_b (lo := 0) (hi := 3) g 238 102 rfl
        refine wr_ia (k0 := 238) (a := 102) (f := 102) (x := h 238 102) (nx := 53) (r1 := 0) (r2 := 0) (r3 := 0) rfl (by decide) rfl (by omega) (by omega) (by decide) rfl ?_
        refine wi_aload_n (i := 0) (x := 236) (nx := 54) (r1 := 0) (r2 := 0) (r3 := 0) rfl rfl ?_
        refine wr_gr (k0 := 236) (x := 238) (nx := 57) (r1 := 11) (r2 := 13) (r3 := 0) rfl rfl (by decide) rfl ⟨rfl, rfl⟩ rfl ?_
        refine wi_bipush (n := 7) (nx := 59) (r1 := 0) (r2 := 0) (r3 := 0) rfl (by decide) ?_
        have b11 := gi_b (lo := 0) (hi := 3) g 238 7 rfl
        refine wr_ia (k0 := 238) (a := 7) (f := 7) (x := h 238 7) (nx := 60) (r1 := 0) (r2 := 0) (r3 := 0) rfl (by decide) rfl (by omega) (by omega) (by decide) rfl ?_
        refine wi_icmp (cd := .ge) (nx := 63) (r1 := 67) (r2 := 0) (r3 := 0) rfl (by omega) (by omega) (fun (q12 : (h 238 7) ≤ (h 238 102)) => ?_) (fun (q12 : ¬ ((h 238 7) ≤ (h 238 102))) => ?_)
        ·
          refine wi_iconst (n := 0) (nx := 68) (r1 := 0) (r2 := 0) (r3 := 0) rfl ?_
          refine wi_goto (nx := 71) (r1 := 94) (r2 := 0) (r3 := 0) rfl ?_
          refine wi_zreturn (nx := 95) (r1 := 0) (r2 := 0) (r3 := 0) rfl rfl (by omega) ?_
          have e13 : h 238 (43 + (h 238 80).toNat) = h 238 i7 := by rw [show 43 + (h 238 80).toNat = i7 by omega]
          have b14 := gi_b (lo := 0) (hi := 12) g 238 106 rfl
          have b15 := gi_b (lo := 0) (hi := 999) g 238 3 rfl
          exact k 0 (by omega) (show 0 = 0 ∨ 1 ≤ (h 238 99) by omega) (show 0 = 0 ∨ (h 238 67) ≤ 9998 by omega) (show 0 = 0 ∨ (1 ≤ (h 238 (43 + (h 238 80).toNat)) ∧ (h 238 102) < (h 238 7)) ∨ ((h 238 (43 + (h 238 80).toNat)) ≤ 0 ∧ (h 238 80) - (h 238 106) ≤ (h 238 3)) by omega) (Or.inr ⟨rfl, fun c => by
              have c2 : 1 ≤ h 238 99 := c.1
              have c3 : h 238 67 ≤ 9998 := c.2.1
              have c4 : ((1 ≤ h 238 (43 + (h 238 80).toNat) ∧ h 238 102 < h 238 7) ∨ (h 238 (43 + (h 238 80).toNat) ≤ 0 ∧ h 238 80 - h 238 106 ≤ h 238 3)) := c.2.2
              rw [show 43 + (h 238 80).toNat = i7 by omega] at c4
              omega⟩)
        ·
          refine wi_iconst (n := 1) (nx := 64) (r1 := 0) (r2 := 0) (r3 := 0) rfl ?_
          refine wi_goto (nx := 67) (r1 := 94) (r2 := 0) (r3 := 0) rfl ?_
          refine wi_zreturn (nx := 95) (r1 := 0) (r2 := 0) (r3 := 0) rfl rfl (by omega) ?_
          have e13 : h 238 (43 + (h 238 80).toNat) = h 238 i7 := by rw [show 43 + (h 238 80).toNat = i7 by omega]
          have b14 := gi_b (lo := 0) (hi := 12) g 238 106 rfl
          have b15 := gi_b (lo := 0) (hi := 999) g 238 3 rfl
          exact k 1 (by omega) (show 1 = 0 ∨ 1 ≤ (h 238 99) by omega) (show 1 = 0 ∨ (h 238 67) ≤ 9998 by omega) (show 1 = 0 ∨ (1 ≤ (h 238 (43 + (h 238 80).toNat)) ∧ (h 238 102) < (h 238 7)) ∨ ((h 238 (43 + (h 238 80).toNat)) ≤ 0 ∧ (h 238 80) - (h 238 106) ≤ (h 238 3)) by omega) (Or.inl ⟨rfl, (show 1 ≤ h 238 99 by omega), (show h 238 67 ≤ 9998 by omega), (show ((1 ≤ h 238 (43 + (h 238 80).toNat) ∧ h 238 102 < h 238 7) ∨ (h 238 (43 + (h 238 80).toNat) ≤ 0 ∧ h 238 80 - h 238 106 ≤ h 238 3)) by rw [show 43 + (h 238 80).toNat = i7 by omega]; omega)⟩)
    ·
      refine wi_iconst (n := 0) (nx := 26) (r1 := 0) (r2 := 0) (r3 := 0) rfl ?_
      refine wi_zreturn (nx := 27) (r1 := 0) (r2 := 0) (r3 := 0) rfl rfl (by omega) ?_
      have b5 := gi_b (lo := 0) (hi := 11) g 238 80 rfl
      obtain ⟨i6, ei6⟩ : ∃ q : Nat, (43 + h 238 80) = (q : Int) := ⟨(43 + h 238 80).toNat, by omega⟩
      have b7 := gi_b (lo := 0) (hi := 999) g 238 i6 (gi_rg 43 12 (fun _ => rfl) (by decide +kernel) (by omega))
      have e8 : h 238 (43 + (h 238 80).toNat) = h 238 i6 := by rw [show 43 + (h 238 80).toNat = i6 by omega]
      have b9 := gi_b (lo := 0) (hi := 3) g 238 102 rfl
      have b10 := gi_b (lo := 0) (hi := 3) g 238 7 rfl
      have b11 := gi_b (lo := 0) (hi := 12) g 238 106 rfl
      have b12 := gi_b (lo := 0) (hi := 999) g 238 3 rfl
      exact k 0 (by omega) (show 0 = 0 ∨ 1 ≤ (h 238 99) by omega) (show 0 = 0 ∨ (h 238 67) ≤ 9998 by omega) (show 0 = 0 ∨ (1 ≤ (h 238 (43 + (h 238 80).toNat)) ∧ (h 238 102) < (h 238 7)) ∨ ((h 238 (43 + (h 238 80).toNat)) ≤ 0 ∧ (h 238 80) - (h 238 106) ≤ (h 238 3)) by omega) (Or.inr ⟨rfl, fun c => by
          have c2 : 1 ≤ h 238 99 := c.1
          have c3 : h 238 67 ≤ 9998 := c.2.1
          have c4 : ((1 ≤ h 238 (43 + (h 238 80).toNat) ∧ h 238 102 < h 238 7) ∨ (h 238 (43 + (h 238 80).toNat) ≤ 0 ∧ h 238 80 - h 238 106 ≤ h 238 3)) := c.2.2
          rw [show 43 + (h 238 80).toNat = i6 by omega] at c4
          omega⟩)
