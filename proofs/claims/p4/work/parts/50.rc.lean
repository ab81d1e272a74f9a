-- method 275: Model.enter(I)I
set_option maxRecDepth 100000 in
set_option maxHeartbeats 100000000 in
theorem ct_275_236 {L : Nat} {xs : Nat → Int32} {d b c : Nat} {h : hp} {cr : Nat → Nat → Option Nat} {Q : hp_Q} (hcr : CR cr)  (g : GI h) (a0 : Int) (q0_ : -2147483648 ≤ a0 ∧ a0 ≤ 2147483647) (pp0 : h 238 98 + h 238 99 + h 238 100 + h 238 101 + h 238 102 + h 238 106 = h 238 73) (pp1 : h 238 73 ≤ h 238 2) (pp2 : h 238 119 ≤ h 238 67) (pp3 : h 238 69 ≤ h 238 5) (pp4 : h 238 2 ≤ 12 * h 238 5) (xq0 : GPS h) (gp0 : GPH h) (k : ∀ (h2 : hp) (z0 : Int) , GI h2 → FR [(236, 236, some (0, 0)), (236, 236, some (22, 22)), (238, 238, some (73, 73)), (238, 238, some (74, 79)), (238, 238, some (80, 85)), (238, 238, some (86, 91)), (238, 238, some (92, 97)), (238, 238, some (98, 98)), (238, 238, some (99, 99)), (238, 238, some (100, 100)), (238, 238, some (101, 101)), (242, 242, some (0, 999)), (242, 242, some (1000, 1199))] h h2 → (-1 ≤ z0 ∧ z0 ≤ 11) → (h2 238 98 + h2 238 99 + h2 238 100 + h2 238 101 + h2 238 102 + h2 238 106 = h2 238 73) → (h2 238 73 ≤ h2 238 2) → (h2 238 119 ≤ h2 238 67) → (h2 238 69 ≤ h2 238 5) → (h2 238 2 ≤ 12 * h2 238 5) → (GPS h2) → (GPH h2) → Q (.inl (some (vi z0))) (hp_w h2 cr) b c) : wp (md_xa (L, xs)) (d + 2) 275 (0, [(0, .ref 236), (1, vi a0)], [], hp_w h cr, b, c) Q := by
  have F0 : FR [(236, 236, some (0, 0)), (236, 236, some (22, 22)), (238, 238, some (73, 73)), (238, 238, some (74, 79)), (238, 238, some (80, 85)), (238, 238, some (86, 91)), (238, 238, some (92, 97)), (238, 238, some (98, 98)), (238, 238, some (99, 99)), (238, 238, some (100, 100)), (238, 238, some (101, 101)), (242, 242, some (0, 999)), (242, 242, some (1000, 1199))] h h := FR.refl
  have b1 := gi_b (lo := 0) (hi := 6) g 238 98 rfl
  have b2 := gi_b (lo := 0) (hi := 6) g 238 99 rfl
  have b3 := gi_b (lo := 0) (hi := 6) g 238 100 rfl
  have b4 := gi_b (lo := 0) (hi := 6) g 238 101 rfl
  have b5 := gi_b (lo := 0) (hi := 3) g 238 102 rfl
  have b6 := gi_b (lo := 0) (hi := 12) g 238 106 rfl
  have b7 := gi_b (lo := 0) (hi := 12) g 238 73 rfl
  have b8 := gi_b (lo := 0) (hi := 12) g 238 2 rfl
  have b9 := gi_b (lo := 0) (hi := 9999) g 238 119 rfl
  have b10 := gi_b (lo := 0) (hi := 9999) g 238 67 rfl
  have b11 := gi_b (lo := 0) (hi := 9) g 238 69 rfl
  have b12 := gi_b (lo := 0) (hi := 9) g 238 5 rfl
  refine wi_aload_n (i := 0) (x := 236) (nx := 1) (r1 := 0) (r2 := 0) (r3 := 0) rfl rfl ?_
  refine wi_aload_n (i := 0) (x := 236) (nx := 2) (r1 := 0) (r2 := 0) (r3 := 0) rfl rfl ?_
  refine wi_iload_n (i := 1) (e := a0) (nx := 3) (r1 := 0) (r2 := 0) (r3 := 0) rfl rfl ?_
  refine wr_V (k0 := 236) (rest := [.ref 236]) (as := [.ref 236, vi a0]) (nx := 6) (r1 := 242) (r2 := 1) (r3 := 11) rfl rfl rfl (of_decide_eq_true rfl) rfl rfl (by decide) rfl rfl (of_decide_eq_true rfl) (of_decide_eq_true rfl) ?_
  refine wi_iload_n (i := 1) (e := a0) (nx := 1) (r1 := 0) (r2 := 0) (r3 := 0) rfl rfl ?_
  refine wi_i2l (nx := 2) (r1 := 0) (r2 := 0) (r3 := 0) rfl (by omega) ?_
  refine wi_lconst (n := 0) (e := 0) (nx := 3) (r1 := 0) (r2 := 0) (r3 := 0) rfl (by decide) ?_
  refine wi_aload_n (i := 0) (x := 236) (nx := 4) (r1 := 0) (r2 := 0) (r3 := 0) rfl rfl ?_
  refine wr_gr (k0 := 236) (x := 238) (nx := 7) (r1 := 11) (r2 := 13) (r3 := 0) rfl rfl (by decide) rfl ⟨rfl, rfl⟩ rfl ?_
  refine wi_iconst (n := 1) (nx := 8) (r1 := 0) (r2 := 0) (r3 := 0) rfl ?_
  have b13 := gi_b (lo := 0) (hi := 4) g 238 1 rfl
  refine wr_ia (k0 := 238) (a := 1) (f := 1) (x := h 238 1) (nx := 9) (r1 := 0) (r2 := 0) (r3 := 0) rfl (by decide) rfl (by omega) (by omega) (by decide) rfl ?_
  refine wi_iconst (n := 1) (nx := 10) (r1 := 0) (r2 := 0) (r3 := 0) rfl ?_
  refine wr_sub (nx := 11) (r1 := 0) (r2 := 0) (r3 := 0) rfl (fun e14 (fe14 : e14 = (h 238 1) - 1) => ?_)
  refine wi_i2l (nx := 12) (r1 := 0) (r2 := 0) (r3 := 0) rfl (by omega) ?_
  refine wi_S (rest := []) (as := [vl a0, vl 0, vl e14]) (nx := 15) (r1 := 210) (r2 := 19) (r3 := 0) rfl rfl rfl (of_decide_eq_true rfl) rfl rfl (of_decide_eq_true rfl) (of_decide_eq_true rfl) ?_
  refine wi_lload_n (i := 0) (e := a0) (nx := 1) (r1 := 0) (r2 := 0) (r3 := 0) rfl rfl ?_
  refine wi_lload_n (i := 2) (e := 0) (nx := 2) (r1 := 0) (r2 := 0) (r3 := 0) rfl rfl ?_
  refine wi_lcmp (a := a0) (e := 0) (nx := 3) (r1 := 0) (r2 := 0) (r3 := 0) rfl (by omega) (by omega) (fun r15 (fr15 : (r15 = -1 ∧ a0 < 0) ∨ (r15 = 0 ∧ a0 = 0) ∨ (r15 = 1 ∧ 0 < a0)) => ?_)
  refine wi_if (cd := .lt) (nx := 6) (r1 := 17) (r2 := 0) (r3 := 0) rfl (by omega) (fun (q16 : r15 < 0) => ?_) (fun (q16 : ¬ (r15 < 0)) => ?_)
  ·
    refine wi_iconst (n := 0) (nx := 18) (r1 := 0) (r2 := 0) (r3 := 0) rfl ?_
    refine wi_zreturn (nx := 19) (r1 := 0) (r2 := 0) (r3 := 0) rfl rfl (by omega) ?_
    refine wk_i ?_
    refine wi_zreturn (nx := 16) (r1 := 0) (r2 := 0) (r3 := 0) rfl rfl (by omega) ?_
    refine wk_i ?_
    refine wr_V (k0 := 236) (rest := []) (as := [.ref 236, vi 0]) (nx := 9) (r1 := 206) (r2 := 1) (r3 := 11) rfl rfl rfl (of_decide_eq_true rfl) rfl rfl (by decide) rfl rfl (of_decide_eq_true rfl) (of_decide_eq_true rfl) ?_
    refine wi_aload_n (i := 0) (x := 236) (nx := 1) (r1 := 0) (r2 := 0) (r3 := 0) rfl rfl ?_
    refine wi_iload_n (i := 1) (e := 0) (nx := 2) (r1 := 0) (r2 := 0) (r3 := 0) rfl rfl ?_
    refine wi_if (cd := .ne) (nx := 5) (r1 := 9) (r2 := 0) (r3 := 0) rfl (by omega) (fun (q17 : 0 ≠ 0) => by exfalso; omega) (fun (q17 : ¬ (0 ≠ 0)) => ?_)
    refine wi_iconst (n := 1) (nx := 6) (r1 := 0) (r2 := 0) (r3 := 0) rfl ?_
    refine wi_goto (nx := 9) (r1 := 10) (r2 := 0) (r3 := 0) rfl ?_
    refine wi_S (rest := [.ref 236]) (as := [vi 1]) (nx := 13) (r1 := 207) (r2 := 17) (r3 := 0) rfl rfl rfl (of_decide_eq_true rfl) rfl rfl (of_decide_eq_true rfl) (of_decide_eq_true rfl) ?_
    refine wi_iload_n (i := 0) (e := 1) (nx := 1) (r1 := 0) (r2 := 0) (r3 := 0) rfl rfl ?_
    refine wi_if (cd := .eq) (nx := 4) (r1 := 8) (r2 := 0) (r3 := 0) rfl (by omega) (fun (q18 : 1 = 0) => by exfalso; omega) (fun (q18 : ¬ (1 = 0)) => ?_)
    refine wi_iconst (n := 1) (nx := 5) (r1 := 0) (r2 := 0) (r3 := 0) rfl ?_
    refine wi_goto (nx := 8) (r1 := 9) (r2 := 0) (r3 := 0) rfl ?_
    refine wi_ireturn (nx := 10) (r1 := 0) (r2 := 0) (r3 := 0) rfl rfl ?_
    refine wk_i ?_
    refine wr_pf0 (k0 := 236) (x := 1) (bl := 0) (bh := 2) (nx := 16) (r1 := 11) (r2 := 0) (r3 := 0) rfl (by decide) rfl ⟨rfl, rfl⟩ rfl rfl g rfl (by omega) (fun h19 g19 w19 u19 => ?_)
    have F20 := F0.then rfl u19
    refine wi_iload_n (i := 1) (e := 0) (nx := 17) (r1 := 0) (r2 := 0) (r3 := 0) rfl rfl ?_
    refine wi_zreturn (nx := 18) (r1 := 0) (r2 := 0) (r3 := 0) rfl rfl (by omega) ?_
    refine wk_i ?_
    refine wi_if (cd := .ne) (nx := 12) (r1 := 14) (r2 := 0) (r3 := 0) rfl (by omega) (fun (q21 : 0 ≠ 0) => by exfalso; omega) (fun (q21 : ¬ (0 ≠ 0)) => ?_)
    refine wi_iconst (n := 0) (nx := 13) (r1 := 0) (r2 := 0) (r3 := 0) rfl ?_
    refine wi_ireturn (nx := 14) (r1 := 0) (r2 := 0) (r3 := 0) rfl rfl ?_
    have e22 : h19 238 98 = h 238 98 := (u19 238 98 rfl)
    have e23 : h19 238 99 = h 238 99 := (u19 238 99 rfl)
    have e24 : h19 238 100 = h 238 100 := (u19 238 100 rfl)
    have e25 : h19 238 101 = h 238 101 := (u19 238 101 rfl)
    have e26 : h19 238 102 = h 238 102 := (u19 238 102 rfl)
    have e27 : h19 238 106 = h 238 106 := (u19 238 106 rfl)
    have e28 : h19 238 73 = h 238 73 := (u19 238 73 rfl)
    have e29 : h19 238 2 = h 238 2 := (u19 238 2 rfl)
    have e30 : h19 238 119 = h 238 119 := (u19 238 119 rfl)
    have e31 : h19 238 67 = h 238 67 := (u19 238 67 rfl)
    have e32 : h19 238 69 = h 238 69 := (u19 238 69 rfl)
    have e33 : h19 238 5 = h 238 5 := (u19 238 5 rfl)
    have gs34 := GPS.fr u19 rfl xq0
    have gp35 := GPH.fr u19 rfl gp0
    exact k h19 0 g19 F20 (by omega) (show (h19 238 98) + (h19 238 99) + (h19 238 100) + (h19 238 101) + (h19 238 102) + (h19 238 106) = (h19 238 73) by omega) (show (h19 238 73) ≤ (h19 238 2) by omega) (show (h19 238 119) ≤ (h19 238 67) by omega) (show (h19 238 69) ≤ (h19 238 5) by omega) (show (h19 238 2) ≤ 12 * (h19 238 5) by omega) gs34 gp35
  ·
    refine wi_lload_n (i := 0) (e := a0) (nx := 7) (r1 := 0) (r2 := 0) (r3 := 0) rfl rfl ?_
    refine wi_lload (i := 4) (e := e14) (nx := 9) (r1 := 0) (r2 := 0) (r3 := 0) rfl rfl ?_
    refine wi_lcmp (a := a0) (e := e14) (nx := 10) (r1 := 0) (r2 := 0) (r3 := 0) rfl (by omega) (by omega) (fun r17 (fr17 : (r17 = -1 ∧ a0 < e14) ∨ (r17 = 0 ∧ a0 = e14) ∨ (r17 = 1 ∧ e14 < a0)) => ?_)
    refine wi_if (cd := .gt) (nx := 13) (r1 := 17) (r2 := 0) (r3 := 0) rfl (by omega) (fun (q18 : 0 < r17) => ?_) (fun (q18 : ¬ (0 < r17)) => ?_)
    ·
      refine wi_iconst (n := 0) (nx := 18) (r1 := 0) (r2 := 0) (r3 := 0) rfl ?_
      refine wi_zreturn (nx := 19) (r1 := 0) (r2 := 0) (r3 := 0) rfl rfl (by omega) ?_
      refine wk_i ?_
      refine wi_zreturn (nx := 16) (r1 := 0) (r2 := 0) (r3 := 0) rfl rfl (by omega) ?_
      refine wk_i ?_
      refine wr_V (k0 := 236) (rest := []) (as := [.ref 236, vi 0]) (nx := 9) (r1 := 206) (r2 := 1) (r3 := 11) rfl rfl rfl (of_decide_eq_true rfl) rfl rfl (by decide) rfl rfl (of_decide_eq_true rfl) (of_decide_eq_true rfl) ?_
      refine wi_aload_n (i := 0) (x := 236) (nx := 1) (r1 := 0) (r2 := 0) (r3 := 0) rfl rfl ?_
      refine wi_iload_n (i := 1) (e := 0) (nx := 2) (r1 := 0) (r2 := 0) (r3 := 0) rfl rfl ?_
      refine wi_if (cd := .ne) (nx := 5) (r1 := 9) (r2 := 0) (r3 := 0) rfl (by omega) (fun (q19 : 0 ≠ 0) => by exfalso; omega) (fun (q19 : ¬ (0 ≠ 0)) => ?_)
      refine wi_iconst (n := 1) (nx := 6) (r1 := 0) (r2 := 0) (r3 := 0) rfl ?_
      refine wi_goto (nx := 9) (r1 := 10) (r2 := 0) (r3 := 0) rfl ?_
      refine wi_S (rest := [.ref 236]) (as := [vi 1]) (nx := 13) (r1 := 207) (r2 := 17) (r3 := 0) rfl rfl rfl (of_decide_eq_true rfl) rfl rfl (of_decide_eq_true rfl) (of_decide_eq_true rfl) ?_
      refine wi_iload_n (i := 0) (e := 1) (nx := 1) (r1 := 0) (r2 := 0) (r3 := 0) rfl rfl ?_
      refine wi_if (cd := .eq) (nx := 4) (r1 := 8) (r2 := 0) (r3 := 0) rfl (by omega) (fun (q20 : 1 = 0) => by exfalso; omega) (fun (q20 : ¬ (1 = 0)) => ?_)
      refine wi_iconst (n := 1) (nx := 5) (r1 := 0) (r2 := 0) (r3 := 0) rfl ?_
      refine wi_goto (nx := 8) (r1 := 9) (r2 := 0) (r3 := 0) rfl ?_
      refine wi_ireturn (nx := 10) (r1 := 0) (r2 := 0) (r3 := 0) rfl rfl ?_
      refine wk_i ?_
      refine wr_pf0 (k0 := 236) (x := 1) (bl := 0) (bh := 2) (nx := 16) (r1 := 11) (r2 := 0) (r3 := 0) rfl (by decide) rfl ⟨rfl, rfl⟩ rfl rfl g rfl (by omega) (fun h21 g21 w21 u21 => ?_)
      have F22 := F0.then rfl u21
      refine wi_iload_n (i := 1) (e := 0) (nx := 17) (r1 := 0) (r2 := 0) (r3 := 0) rfl rfl ?_
      refine wi_zreturn (nx := 18) (r1 := 0) (r2 := 0) (r3 := 0) rfl rfl (by omega) ?_
      refine wk_i ?_
      refine wi_if (cd := .ne) (nx := 12) (r1 := 14) (r2 := 0) (r3 := 0) rfl (by omega) (fun (q23 : 0 ≠ 0) => by exfalso; omega) (fun (q23 : ¬ (0 ≠ 0)) => ?_)
      refine wi_iconst (n := 0) (nx := 13) (r1 := 0) (r2 := 0) (r3 := 0) rfl ?_
      refine wi_ireturn (nx := 14) (r1 := 0) (r2 := 0) (r3 := 0) rfl rfl ?_
      have e24 : h21 238 98 = h 238 98 := (u21 238 98 rfl)
      have e25 : h21 238 99 = h 238 99 := (u21 238 99 rfl)
      have e26 : h21 238 100 = h 238 100 := (u21 238 100 rfl)
      have e27 : h21 238 101 = h 238 101 := (u21 238 101 rfl)
      have e28 : h21 238 102 = h 238 102 := (u21 238 102 rfl)
      have e29 : h21 238 106 = h 238 106 := (u21 238 106 rfl)
      have e30 : h21 238 73 = h 238 73 := (u21 238 73 rfl)
      have e31 : h21 238 2 = h 238 2 := (u21 238 2 rfl)
      have e32 : h21 238 119 = h 238 119 := (u21 238 119 rfl)
      have e33 : h21 238 67 = h 238 67 := (u21 238 67 rfl)
      have e34 : h21 238 69 = h 238 69 := (u21 238 69 rfl)
      have e35 : h21 238 5 = h 238 5 := (u21 238 5 rfl)
      have gs36 := GPS.fr u21 rfl xq0
      have gp37 := GPH.fr u21 rfl gp0
      exact k h21 0 g21 F22 (by omega) (show (h21 238 98) + (h21 238 99) + (h21 238 100) + (h21 238 101) + (h21 238 102) + (h21 238 106) = (h21 238 73) by omega) (show (h21 238 73) ≤ (h21 238 2) by omega) (show (h21 238 119) ≤ (h21 238 67) by omega) (show (h21 238 69) ≤ (h21 238 5) by omega) (show (h21 238 2) ≤ 12 * (h21 238 5) by omega) gs36 gp37
    ·
      refine wi_iconst (n := 1) (nx := 14) (r1 := 0) (r2 := 0) (r3 := 0) rfl ?_
      refine wi_goto (nx := 17) (r1 := 18) (r2 := 0) (r3 := 0) rfl ?_
      refine wi_zreturn (nx := 19) (r1 := 0) (r2 := 0) (r3 := 0) rfl rfl (by omega) ?_
      refine wk_i ?_
      refine wi_zreturn (nx := 16) (r1 := 0) (r2 := 0) (r3 := 0) rfl rfl (by omega) ?_
      refine wk_i ?_
      refine wr_V (k0 := 236) (rest := []) (as := [.ref 236, vi 1]) (nx := 9) (r1 := 206) (r2 := 1) (r3 := 11) rfl rfl rfl (of_decide_eq_true rfl) rfl rfl (by decide) rfl rfl (of_decide_eq_true rfl) (of_decide_eq_true rfl) ?_
      refine wi_aload_n (i := 0) (x := 236) (nx := 1) (r1 := 0) (r2 := 0) (r3 := 0) rfl rfl ?_
      refine wi_iload_n (i := 1) (e := 1) (nx := 2) (r1 := 0) (r2 := 0) (r3 := 0) rfl rfl ?_
      refine wi_if (cd := .ne) (nx := 5) (r1 := 9) (r2 := 0) (r3 := 0) rfl (by omega) (fun (q19 : 1 ≠ 0) => ?_) (fun (q19 : ¬ (1 ≠ 0)) => by exfalso; omega)
      refine wi_iconst (n := 0) (nx := 10) (r1 := 0) (r2 := 0) (r3 := 0) rfl ?_
      refine wi_S (rest := [.ref 236]) (as := [vi 0]) (nx := 13) (r1 := 207) (r2 := 17) (r3 := 0) rfl rfl rfl (of_decide_eq_true rfl) rfl rfl (of_decide_eq_true rfl) (of_decide_eq_true rfl) ?_
      refine wi_iload_n (i := 0) (e := 0) (nx := 1) (r1 := 0) (r2 := 0) (r3 := 0) rfl rfl ?_
      refine wi_if (cd := .eq) (nx := 4) (r1 := 8) (r2 := 0) (r3 := 0) rfl (by omega) (fun (q20 : 0 = 0) => ?_) (fun (q20 : ¬ (0 = 0)) => by exfalso; omega)
      refine wi_iconst (n := 0) (nx := 9) (r1 := 0) (r2 := 0) (r3 := 0) rfl ?_
      refine wi_ireturn (nx := 10) (r1 := 0) (r2 := 0) (r3 := 0) rfl rfl ?_
      refine wk_i ?_
      refine wr_pf0 (k0 := 236) (x := 0) (bl := 0) (bh := 2) (nx := 16) (r1 := 11) (r2 := 0) (r3 := 0) rfl (by decide) rfl ⟨rfl, rfl⟩ rfl rfl g rfl (by omega) (fun h21 g21 w21 u21 => ?_)
      have F22 := F0.then rfl u21
      refine wi_iload_n (i := 1) (e := 1) (nx := 17) (r1 := 0) (r2 := 0) (r3 := 0) rfl rfl ?_
      refine wi_zreturn (nx := 18) (r1 := 0) (r2 := 0) (r3 := 0) rfl rfl (by omega) ?_
      refine wk_i ?_
      refine wi_if (cd := .ne) (nx := 12) (r1 := 14) (r2 := 0) (r3 := 0) rfl (by omega) (fun (q23 : 1 ≠ 0) => ?_) (fun (q23 : ¬ (1 ≠ 0)) => by exfalso; omega)
      refine wi_aload_n (i := 0) (x := 236) (nx := 15) (r1 := 0) (r2 := 0) (r3 := 0) rfl rfl ?_
      refine wi_iload_n (i := 1) (e := a0) (nx := 16) (r1 := 0) (r2 := 0) (r3 := 0) rfl rfl ?_
      refine wr_V (k0 := 236) (rest := []) (as := [.ref 236, vi a0]) (nx := 19) (r1 := 276) (r2 := 1) (r3 := 11) rfl rfl rfl (of_decide_eq_true rfl) rfl rfl (by decide) rfl rfl (of_decide_eq_true rfl) (of_decide_eq_true rfl) ?_
      refine wi_aload_n (i := 0) (x := 236) (nx := 1) (r1 := 0) (r2 := 0) (r3 := 0) rfl rfl ?_
      refine wr_gr (k0 := 236) (x := 238) (nx := 4) (r1 := 11) (r2 := 13) (r3 := 0) rfl rfl (by decide) rfl ⟨rfl, rfl⟩ rfl ?_
      refine wi_bipush (n := 73) (nx := 6) (r1 := 0) (r2 := 0) (r3 := 0) rfl (by decide) ?_
      refine wr_ia (k0 := 238) (a := 73) (f := 73) (x := h 238 73) (nx := 7) (r1 := 0) (r2 := 0) (r3 := 0) rfl (by decide) rfl (by omega) (by omega) (by decide) (u21 238 73 rfl) ?_
      refine wi_aload_n (i := 0) (x := 236) (nx := 8) (r1 := 0) (r2 := 0) (r3 := 0) rfl rfl ?_
      refine wr_gr (k0 := 236) (x := 238) (nx := 11) (r1 := 11) (r2 := 13) (r3 := 0) rfl rfl (by decide) rfl ⟨rfl, rfl⟩ rfl ?_
      refine wi_iconst (n := 2) (nx := 12) (r1 := 0) (r2 := 0) (r3 := 0) rfl ?_
      refine wr_ia (k0 := 238) (a := 2) (f := 2) (x := h 238 2) (nx := 13) (r1 := 0) (r2 := 0) (r3 := 0) rfl (by decide) rfl (by omega) (by omega) (by decide) (u21 238 2 rfl) ?_
      refine wi_icmp (cd := .ge) (nx := 16) (r1 := 28) (r2 := 0) (r3 := 0) rfl (by omega) (by omega) (fun (q24 : (h 238 2) ≤ (h 238 73)) => ?_) (fun (q24 : ¬ ((h 238 2) ≤ (h 238 73))) => ?_)
      ·
        refine wi_iconst (n := 0) (nx := 29) (r1 := 0) (r2 := 0) (r3 := 0) rfl ?_
        refine wi_zreturn (nx := 30) (r1 := 0) (r2 := 0) (r3 := 0) rfl rfl (by omega) ?_
        refine wk_i ?_
        refine wi_if (cd := .ne) (nx := 22) (r1 := 24) (r2 := 0) (r3 := 0) rfl (by omega) (fun (q25 : 0 ≠ 0) => by exfalso; omega) (fun (q25 : ¬ (0 ≠ 0)) => ?_)
        refine wi_iconst (n := (-1)) (nx := 23) (r1 := 0) (r2 := 0) (r3 := 0) rfl ?_
        refine wi_ireturn (nx := 24) (r1 := 0) (r2 := 0) (r3 := 0) rfl rfl ?_
        have e26 : h21 238 98 = h 238 98 := (u21 238 98 rfl)
        have e27 : h21 238 99 = h 238 99 := (u21 238 99 rfl)
        have e28 : h21 238 100 = h 238 100 := (u21 238 100 rfl)
        have e29 : h21 238 101 = h 238 101 := (u21 238 101 rfl)
        have e30 : h21 238 102 = h 238 102 := (u21 238 102 rfl)
        have e31 : h21 238 106 = h 238 106 := (u21 238 106 rfl)
        have e32 : h21 238 73 = h 238 73 := (u21 238 73 rfl)
        have e33 : h21 238 2 = h 238 2 := (u21 238 2 rfl)
        have e34 : h21 238 119 = h 238 119 := (u21 238 119 rfl)
        have e35 : h21 238 67 = h 238 67 := (u21 238 67 rfl)
        have e36 : h21 238 69 = h 238 69 := (u21 238 69 rfl)
        have e37 : h21 238 5 = h 238 5 := (u21 238 5 rfl)
        have gs38 := GPS.fr u21 rfl xq0
        have gp39 := GPH.fr u21 rfl gp0
        exact k h21 (-1) g21 F22 (by omega) (show (h21 238 98) + (h21 238 99) + (h21 238 100) + (h21 238 101) + (h21 238 102) + (h21 238 106) = (h21 238 73) by omega) (show (h21 238 73) ≤ (h21 238 2) by omega) (show (h21 238 119) ≤ (h21 238 67) by omega) (show (h21 238 69) ≤ (h21 238 5) by omega) (show (h21 238 2) ≤ 12 * (h21 238 5) by omega) gs38 gp39
      ·
        refine wi_aload_n (i := 0) (x := 236) (nx := 17) (r1 := 0) (r2 := 0) (r3 := 0) rfl rfl ?_
        refine wi_iload_n (i := 1) (e := a0) (nx := 18) (r1 := 0) (r2 := 0) (r3 := 0) rfl rfl ?_
        rcases (show a0 = 0 ∨ a0 = 1 ∨ a0 = 2 ∨ a0 = 3 by omega) with q25 | q25 | q25 | q25
        ·
          rw [q25]
          refine wr_V (k0 := 236) (rest := []) (as := [.ref 236, vi 0]) (nx := 21) (r1 := 277) (r2 := 1) (r3 := 11) rfl rfl rfl (of_decide_eq_true rfl) rfl rfl (by decide) rfl rfl (of_decide_eq_true rfl) (of_decide_eq_true rfl) ?_
          refine wi_aload_n (i := 0) (x := 236) (nx := 1) (r1 := 0) (r2 := 0) (r3 := 0) rfl rfl ?_
          refine wr_gr (k0 := 236) (x := 238) (nx := 4) (r1 := 11) (r2 := 13) (r3 := 0) rfl rfl (by decide) rfl ⟨rfl, rfl⟩ rfl ?_
          refine wi_bipush (n := 98) (nx := 6) (r1 := 0) (r2 := 0) (r3 := 0) rfl (by decide) ?_
          refine wi_iload_n (i := 1) (e := 0) (nx := 7) (r1 := 0) (r2 := 0) (r3 := 0) rfl rfl ?_
          refine wr_addL (98) (nx := 8) (r1 := 0) (r2 := 0) (r3 := 0) rfl (by decide) ?_
          refine wr_ia (k0 := 238) (a := 98) (f := 98) (x := h 238 98) (nx := 9) (r1 := 0) (r2 := 0) (r3 := 0) rfl (by decide) rfl (by omega) (by omega) (by decide) (u21 238 98 rfl) ?_
          refine wi_aload_n (i := 0) (x := 236) (nx := 10) (r1 := 0) (r2 := 0) (r3 := 0) rfl rfl ?_
          refine wr_gr (k0 := 236) (x := 238) (nx := 13) (r1 := 11) (r2 := 13) (r3 := 0) rfl rfl (by decide) rfl ⟨rfl, rfl⟩ rfl ?_
          refine wi_bipush (n := 15) (nx := 15) (r1 := 0) (r2 := 0) (r3 := 0) rfl (by decide) ?_
          refine wi_iload_n (i := 1) (e := 0) (nx := 16) (r1 := 0) (r2 := 0) (r3 := 0) rfl rfl ?_
          refine wr_addL (15) (nx := 17) (r1 := 0) (r2 := 0) (r3 := 0) rfl (by decide) ?_
          have b26 := gi_b (lo := 0) (hi := 6) g 238 15 rfl
          refine wr_ia (k0 := 238) (a := 15) (f := 15) (x := h 238 15) (nx := 18) (r1 := 0) (r2 := 0) (r3 := 0) rfl (by decide) rfl (by omega) (by omega) (by decide) (u21 238 15 rfl) ?_
          refine wi_icmp (cd := .ge) (nx := 21) (r1 := 25) (r2 := 0) (r3 := 0) rfl (by omega) (by omega) (fun (q27 : (h 238 15) ≤ (h 238 98)) => ?_) (fun (q27 : ¬ ((h 238 15) ≤ (h 238 98))) => ?_)
          ·
            refine wi_iconst (n := 0) (nx := 26) (r1 := 0) (r2 := 0) (r3 := 0) rfl ?_
            refine wi_zreturn (nx := 27) (r1 := 0) (r2 := 0) (r3 := 0) rfl rfl (by omega) ?_
            refine wk_i ?_
            refine wi_if (cd := .eq) (nx := 24) (r1 := 28) (r2 := 0) (r3 := 0) rfl (by omega) (fun (q28 : 0 = 0) => ?_) (fun (q28 : ¬ (0 = 0)) => by exfalso; omega)
            refine wi_iconst (n := 0) (nx := 29) (r1 := 0) (r2 := 0) (r3 := 0) rfl ?_
            refine wi_zreturn (nx := 30) (r1 := 0) (r2 := 0) (r3 := 0) rfl rfl (by omega) ?_
            refine wk_i ?_
            refine wi_if (cd := .ne) (nx := 22) (r1 := 24) (r2 := 0) (r3 := 0) rfl (by omega) (fun (q29 : 0 ≠ 0) => by exfalso; omega) (fun (q29 : ¬ (0 ≠ 0)) => ?_)
            refine wi_iconst (n := (-1)) (nx := 23) (r1 := 0) (r2 := 0) (r3 := 0) rfl ?_
            refine wi_ireturn (nx := 24) (r1 := 0) (r2 := 0) (r3 := 0) rfl rfl ?_
            have e30 : h21 238 98 = h 238 98 := (u21 238 98 rfl)
            have e31 : h21 238 99 = h 238 99 := (u21 238 99 rfl)
            have e32 : h21 238 100 = h 238 100 := (u21 238 100 rfl)
            have e33 : h21 238 101 = h 238 101 := (u21 238 101 rfl)
            have e34 : h21 238 102 = h 238 102 := (u21 238 102 rfl)
            have e35 : h21 238 106 = h 238 106 := (u21 238 106 rfl)
            have e36 : h21 238 73 = h 238 73 := (u21 238 73 rfl)
            have e37 : h21 238 2 = h 238 2 := (u21 238 2 rfl)
            have e38 : h21 238 119 = h 238 119 := (u21 238 119 rfl)
            have e39 : h21 238 67 = h 238 67 := (u21 238 67 rfl)
            have e40 : h21 238 69 = h 238 69 := (u21 238 69 rfl)
            have e41 : h21 238 5 = h 238 5 := (u21 238 5 rfl)
            have gs42 := GPS.fr u21 rfl xq0
            have gp43 := GPH.fr u21 rfl gp0
            exact k h21 (-1) g21 F22 (by omega) (show (h21 238 98) + (h21 238 99) + (h21 238 100) + (h21 238 101) + (h21 238 102) + (h21 238 106) = (h21 238 73) by omega) (show (h21 238 73) ≤ (h21 238 2) by omega) (show (h21 238 119) ≤ (h21 238 67) by omega) (show (h21 238 69) ≤ (h21 238 5) by omega) (show (h21 238 2) ≤ 12 * (h21 238 5) by omega) gs42 gp43
          ·
            refine wi_iconst (n := 1) (nx := 22) (r1 := 0) (r2 := 0) (r3 := 0) rfl ?_
            refine wi_goto (nx := 25) (r1 := 26) (r2 := 0) (r3 := 0) rfl ?_
            refine wi_zreturn (nx := 27) (r1 := 0) (r2 := 0) (r3 := 0) rfl rfl (by omega) ?_
            refine wk_i ?_
            refine wi_if (cd := .eq) (nx := 24) (r1 := 28) (r2 := 0) (r3 := 0) rfl (by omega) (fun (q28 : 1 = 0) => by exfalso; omega) (fun (q28 : ¬ (1 = 0)) => ?_)
            refine wi_iconst (n := 1) (nx := 25) (r1 := 0) (r2 := 0) (r3 := 0) rfl ?_
            refine wi_goto (nx := 28) (r1 := 29) (r2 := 0) (r3 := 0) rfl ?_
            refine wi_zreturn (nx := 30) (r1 := 0) (r2 := 0) (r3 := 0) rfl rfl (by omega) ?_
            refine wk_i ?_
            refine wi_if (cd := .ne) (nx := 22) (r1 := 24) (r2 := 0) (r3 := 0) rfl (by omega) (fun (q29 : 1 ≠ 0) => ?_) (fun (q29 : ¬ (1 ≠ 0)) => by exfalso; omega)
            refine wi_aload_n (i := 0) (x := 236) (nx := 25) (r1 := 0) (r2 := 0) (r3 := 0) rfl rfl ?_
            refine wr_V (k0 := 236) (rest := []) (as := [.ref 236]) (nx := 28) (r1 := 278) (r2 := 0) (r3 := 11) rfl rfl rfl (of_decide_eq_true rfl) rfl rfl (by decide) rfl rfl (of_decide_eq_true rfl) (of_decide_eq_true rfl) ?_
            have e31 : h21 238 98 = h 238 98 := (u21 238 98 rfl)
            have e32 : h21 238 99 = h 238 99 := (u21 238 99 rfl)
            have e33 : h21 238 100 = h 238 100 := (u21 238 100 rfl)
            have e34 : h21 238 101 = h 238 101 := (u21 238 101 rfl)
            have e35 : h21 238 102 = h 238 102 := (u21 238 102 rfl)
            have e36 : h21 238 106 = h 238 106 := (u21 238 106 rfl)
            have e37 : h21 238 73 = h 238 73 := (u21 238 73 rfl)
            have e38 : h21 238 2 = h 238 2 := (u21 238 2 rfl)
            have e39 : h21 238 119 = h 238 119 := (u21 238 119 rfl)
            have e40 : h21 238 67 = h 238 67 := (u21 238 67 rfl)
            have e41 : h21 238 69 = h 238 69 := (u21 238 69 rfl)
            have e42 : h21 238 5 = h 238 5 := (u21 238 5 rfl)
            have gs43 := GPS.fr u21 rfl xq0
            have gp44 := GPH.fr u21 rfl gp0
            refine ct_278_236 hcr  g21   (show (h21 238 98) + (h21 238 99) + (h21 238 100) + (h21 238 101) + (h21 238 102) + (h21 238 106) = (h21 238 73) by omega) (show (h21 238 73) ≤ (h21 238 2) by omega) (show (h21 238 119) ≤ (h21 238 67) by omega) (show (h21 238 69) ≤ (h21 238 5) by omega) (show (h21 238 2) ≤ 12 * (h21 238 5) by omega) gs43 gp44 (fun h30 g30 u30 (p30_0 : 1 ≤ (h30 236 22)) y30_0 y30_1 => ?_)
            have F45 := F22.then (by decide +kernel) u30
            have b46 := gi_b (lo := 0) (hi := 6) g30 236 22 rfl
            refine wk_n ?_
            refine wi_aload_n (i := 0) (x := 236) (nx := 29) (r1 := 0) (r2 := 0) (r3 := 0) rfl rfl ?_
            refine wi_iload_n (i := 1) (e := 0) (nx := 30) (r1 := 0) (r2 := 0) (r3 := 0) rfl rfl ?_
            refine wr_V (k0 := 236) (rest := []) (as := [.ref 236, vi 0]) (nx := 33) (r1 := 279) (r2 := 1) (r3 := 11) rfl rfl rfl (of_decide_eq_true rfl) rfl rfl (by decide) rfl rfl (of_decide_eq_true rfl) (of_decide_eq_true rfl) ?_
            refine wi_aload_n (i := 0) (x := 236) (nx := 1) (r1 := 0) (r2 := 0) (r3 := 0) rfl rfl ?_
            refine wr_gr (k0 := 236) (x := 238) (nx := 4) (r1 := 11) (r2 := 13) (r3 := 0) rfl rfl (by decide) rfl ⟨rfl, rfl⟩ rfl ?_
            refine wi_bipush (n := 73) (nx := 6) (r1 := 0) (r2 := 0) (r3 := 0) rfl (by decide) ?_
            refine wr_ia (k0 := 238) (a := 73) (f := 73) (x := h 238 73) (nx := 7) (r1 := 0) (r2 := 0) (r3 := 0) rfl (by decide) rfl (by omega) (by omega) (by decide) ((u30 238 73 rfl).trans (u21 238 73 rfl)) ?_
            refine wi_istore_n (i := 2) (e := h 238 73) (lo2 := [(2, vi (h 238 73)), (0, .ref 236), (1, vi 0)]) (nx := 8) (r1 := 0) (r2 := 0) (r3 := 0) rfl rfl ?_
            refine wi_aload_n (i := 0) (x := 236) (nx := 9) (r1 := 0) (r2 := 0) (r3 := 0) rfl rfl ?_
            refine wi_iload_n (i := 1) (e := 0) (nx := 10) (r1 := 0) (r2 := 0) (r3 := 0) rfl rfl ?_
            refine wi_iload_n (i := 2) (e := h 238 73) (nx := 11) (r1 := 0) (r2 := 0) (r3 := 0) rfl rfl ?_
            refine wr_V (k0 := 236) (rest := []) (as := [.ref 236, vi 0, vi (h 238 73)]) (nx := 14) (r1 := 280) (r2 := 2) (r3 := 11) rfl rfl rfl (of_decide_eq_true rfl) rfl rfl (by decide) rfl rfl (of_decide_eq_true rfl) (of_decide_eq_true rfl) ?_
            refine wi_aload_n (i := 0) (x := 236) (nx := 1) (r1 := 0) (r2 := 0) (r3 := 0) rfl rfl ?_
            refine wr_gr (k0 := 236) (x := 238) (nx := 4) (r1 := 11) (r2 := 13) (r3 := 0) rfl rfl (by decide) rfl ⟨rfl, rfl⟩ rfl ?_
            refine wi_bipush (n := 74) (nx := 6) (r1 := 0) (r2 := 0) (r3 := 0) rfl (by decide) ?_
            refine wi_bipush (n := 6) (nx := 8) (r1 := 0) (r2 := 0) (r3 := 0) rfl (by decide) ?_
            refine wi_iload_n (i := 1) (e := 0) (nx := 9) (r1 := 0) (r2 := 0) (r3 := 0) rfl rfl ?_
            refine wr_mulL (0) (nx := 10) (r1 := 0) (r2 := 0) (r3 := 0) rfl (by decide) ?_
            refine wr_addL (74) (nx := 11) (r1 := 0) (r2 := 0) (r3 := 0) rfl (by decide) ?_
            refine wi_aload_n (i := 0) (x := 236) (nx := 12) (r1 := 0) (r2 := 0) (r3 := 0) rfl rfl ?_
            refine wr_gr (k0 := 236) (x := 238) (nx := 15) (r1 := 11) (r2 := 13) (r3 := 0) rfl rfl (by decide) rfl ⟨rfl, rfl⟩ rfl ?_
            refine wi_bipush (n := 98) (nx := 17) (r1 := 0) (r2 := 0) (r3 := 0) rfl (by decide) ?_
            refine wi_iload_n (i := 1) (e := 0) (nx := 18) (r1 := 0) (r2 := 0) (r3 := 0) rfl rfl ?_
            refine wr_addL (98) (nx := 19) (r1 := 0) (r2 := 0) (r3 := 0) rfl (by decide) ?_
            refine wr_ia (k0 := 238) (a := 98) (f := 98) (x := h 238 98) (nx := 20) (r1 := 0) (r2 := 0) (r3 := 0) rfl (by decide) rfl (by omega) (by omega) (by decide) ((u30 238 98 rfl).trans (u21 238 98 rfl)) ?_
            refine wr_add (nx := 21) (r1 := 0) (r2 := 0) (r3 := 0) rfl (fun e47 (fe47 : e47 = 74 + (h 238 98)) => ?_)
            refine wi_iload_n (i := 2) (e := h 238 73) (nx := 22) (r1 := 0) (r2 := 0) (r3 := 0) rfl rfl ?_
            obtain ⟨i48, ei48⟩ : ∃ q : Nat, e47 = (q : Int) := ⟨(e47).toNat, by omega⟩
            refine wr_is (k0 := 238) (a := e47) (f := i48) (x := h 238 73) (bl := 0) (bh := 11) (nx := 23) (r1 := 0) (r2 := 0) (r3 := 0) rfl (by decide) rfl (by omega) (by omega) (by decide) g30 (gi_rg 74 6 (fun _ => rfl) (by decide +kernel) (by omega)) (by omega) (fun h49 g49 w49 u49 => ?_)
            have F50 := F45.then rfl (FR.idx (p := 74) (q := 79) u49 (by omega))
            refine wi_aload_n (i := 0) (x := 236) (nx := 24) (r1 := 0) (r2 := 0) (r3 := 0) rfl rfl ?_
            refine wr_gr (k0 := 236) (x := 238) (nx := 27) (r1 := 11) (r2 := 13) (r3 := 0) rfl rfl (by decide) rfl ⟨rfl, rfl⟩ rfl ?_
            refine wi_bipush (n := 98) (nx := 29) (r1 := 0) (r2 := 0) (r3 := 0) rfl (by decide) ?_
            refine wi_iload_n (i := 1) (e := 0) (nx := 30) (r1 := 0) (r2 := 0) (r3 := 0) rfl rfl ?_
            refine wr_addL (98) (nx := 31) (r1 := 0) (r2 := 0) (r3 := 0) rfl (by decide) ?_
            refine wi_dup2 (nx := 32) (r1 := 0) (r2 := 0) (r3 := 0) rfl rfl rfl ?_
            refine wr_ia (k0 := 238) (a := 98) (f := 98) (x := h 238 98) (nx := 33) (r1 := 0) (r2 := 0) (r3 := 0) rfl (by decide) rfl (by omega) (by omega) (by decide) ((u49 238 98 (fn_i (by omega) fn_0)).trans ((u30 238 98 rfl).trans (u21 238 98 rfl))) ?_
            refine wi_iconst (n := 1) (nx := 34) (r1 := 0) (r2 := 0) (r3 := 0) rfl ?_
            refine wr_add (nx := 35) (r1 := 0) (r2 := 0) (r3 := 0) rfl (fun e51 (fe51 : e51 = (h 238 98) + 1) => ?_)
            refine wr_is (k0 := 238) (a := 98) (f := 98) (x := e51) (bl := 0) (bh := 6) (nx := 36) (r1 := 0) (r2 := 0) (r3 := 0) rfl (by decide) rfl (by omega) (by omega) (by decide) g49 rfl (by omega) (fun h52 g52 w52 u52 => ?_)
            have F53 := F50.then rfl u52
            refine wi_return (nx := 37) (r1 := 0) (r2 := 0) (r3 := 0) rfl rfl ?_
            refine wk_n ?_
            refine wi_aload_n (i := 0) (x := 236) (nx := 15) (r1 := 0) (r2 := 0) (r3 := 0) rfl rfl ?_
            refine wr_gr (k0 := 236) (x := 238) (nx := 18) (r1 := 11) (r2 := 13) (r3 := 0) rfl rfl (by decide) rfl ⟨rfl, rfl⟩ rfl ?_
            refine wi_bipush (n := 73) (nx := 20) (r1 := 0) (r2 := 0) (r3 := 0) rfl (by decide) ?_
            refine wi_dup2 (nx := 21) (r1 := 0) (r2 := 0) (r3 := 0) rfl rfl rfl ?_
            refine wr_ia (k0 := 238) (a := 73) (f := 73) (x := h 238 73) (nx := 22) (r1 := 0) (r2 := 0) (r3 := 0) rfl (by decide) rfl (by omega) (by omega) (by decide) ((u52 238 73 rfl).trans ((u49 238 73 (fn_i (by omega) fn_0)).trans ((u30 238 73 rfl).trans (u21 238 73 rfl)))) ?_
            refine wi_iconst (n := 1) (nx := 23) (r1 := 0) (r2 := 0) (r3 := 0) rfl ?_
            refine wr_add (nx := 24) (r1 := 0) (r2 := 0) (r3 := 0) rfl (fun e54 (fe54 : e54 = (h 238 73) + 1) => ?_)
            refine wr_is (k0 := 238) (a := 73) (f := 73) (x := e54) (bl := 0) (bh := 12) (nx := 25) (r1 := 0) (r2 := 0) (r3 := 0) rfl (by decide) rfl (by omega) (by omega) (by decide) g52 rfl (by omega) (fun h55 g55 w55 u55 => ?_)
            have F56 := F53.then rfl u55
            refine wi_iload_n (i := 2) (e := h 238 73) (nx := 26) (r1 := 0) (r2 := 0) (r3 := 0) rfl rfl ?_
            refine wi_ireturn (nx := 27) (r1 := 0) (r2 := 0) (r3 := 0) rfl rfl ?_
            refine wk_i ?_
            refine wi_ireturn (nx := 34) (r1 := 0) (r2 := 0) (r3 := 0) rfl rfl ?_
            have e57 : h55 238 98 = e51 := ((u55 238 98 rfl).trans w52)
            have e58 : h55 238 99 = h 238 99 := ((u55 238 99 rfl).trans ((u52 238 99 rfl).trans ((u49 238 99 (fn_i (by omega) fn_0)).trans ((u30 238 99 rfl).trans (u21 238 99 rfl)))))
            have e59 : h55 238 100 = h 238 100 := ((u55 238 100 rfl).trans ((u52 238 100 rfl).trans ((u49 238 100 (fn_i (by omega) fn_0)).trans ((u30 238 100 rfl).trans (u21 238 100 rfl)))))
            have e60 : h55 238 101 = h 238 101 := ((u55 238 101 rfl).trans ((u52 238 101 rfl).trans ((u49 238 101 (fn_i (by omega) fn_0)).trans ((u30 238 101 rfl).trans (u21 238 101 rfl)))))
            have e61 : h55 238 102 = h 238 102 := ((u55 238 102 rfl).trans ((u52 238 102 rfl).trans ((u49 238 102 (fn_i (by omega) fn_0)).trans ((u30 238 102 rfl).trans (u21 238 102 rfl)))))
            have e62 : h55 238 106 = h 238 106 := ((u55 238 106 rfl).trans ((u52 238 106 rfl).trans ((u49 238 106 (fn_i (by omega) fn_0)).trans ((u30 238 106 rfl).trans (u21 238 106 rfl)))))
            have e63 : h55 238 73 = e54 := w55
            have e64 : h55 238 2 = h 238 2 := ((u55 238 2 rfl).trans ((u52 238 2 rfl).trans ((u49 238 2 (fn_i (by omega) fn_0)).trans ((u30 238 2 rfl).trans (u21 238 2 rfl)))))
            have e65 : h55 238 119 = h 238 119 := ((u55 238 119 rfl).trans ((u52 238 119 rfl).trans ((u49 238 119 (fn_i (by omega) fn_0)).trans ((u30 238 119 rfl).trans (u21 238 119 rfl)))))
            have e66 : h55 238 67 = h 238 67 := ((u55 238 67 rfl).trans ((u52 238 67 rfl).trans ((u49 238 67 (fn_i (by omega) fn_0)).trans ((u30 238 67 rfl).trans (u21 238 67 rfl)))))
            have e67 : h55 238 69 = h 238 69 := ((u55 238 69 rfl).trans ((u52 238 69 rfl).trans ((u49 238 69 (fn_i (by omega) fn_0)).trans ((u30 238 69 rfl).trans (u21 238 69 rfl)))))
            have e68 : h55 238 5 = h 238 5 := ((u55 238 5 rfl).trans ((u52 238 5 rfl).trans ((u49 238 5 (fn_i (by omega) fn_0)).trans ((u30 238 5 rfl).trans (u21 238 5 rfl)))))
            have gs69 := GPS.fr (FR.idx (p := 74) (q := 79) u49 (by omega)) rfl y30_0
            have gs70 := GPS.fr u52 rfl gs69
            have gs71 := GPS.fr u55 rfl gs70
            have gp72 := GPH.fr u49 rfl y30_1
            have gp73 := GPH.fr u52 rfl gp72
            have gp74 := GPH.fr u55 rfl gp73
            exact k h55 (h 238 73) g55 F56 (by omega) (show (h55 238 98) + (h55 238 99) + (h55 238 100) + (h55 238 101) + (h55 238 102) + (h55 238 106) = (h55 238 73) by omega) (show (h55 238 73) ≤ (h55 238 2) by omega) (show (h55 238 119) ≤ (h55 238 67) by omega) (show (h55 238 69) ≤ (h55 238 5) by omega) (show (h55 238 2) ≤ 12 * (h55 238 5) by omega) gs71 gp74
        ·
          rw [q25]
          refine wr_V (k0 := 236) (rest := []) (as := [.ref 236, vi 1]) (nx := 21) (r1 := 277) (r2 := 1) (r3 := 11) rfl rfl rfl (of_decide_eq_true rfl) rfl rfl (by decide) rfl rfl (of_decide_eq_true rfl) (of_decide_eq_true rfl) ?_
          refine wi_aload_n (i := 0) (x := 236) (nx := 1) (r1 := 0) (r2 := 0) (r3 := 0) rfl rfl ?_
          refine wr_gr (k0 := 236) (x := 238) (nx := 4) (r1 := 11) (r2 := 13) (r3 := 0) rfl rfl (by decide) rfl ⟨rfl, rfl⟩ rfl ?_
          refine wi_bipush (n := 98) (nx := 6) (r1 := 0) (r2 := 0) (r3 := 0) rfl (by decide) ?_
          refine wi_iload_n (i := 1) (e := 1) (nx := 7) (r1 := 0) (r2 := 0) (r3 := 0) rfl rfl ?_
          refine wr_addL (99) (nx := 8) (r1 := 0) (r2 := 0) (r3 := 0) rfl (by decide) ?_
          refine wr_ia (k0 := 238) (a := 99) (f := 99) (x := h 238 99) (nx := 9) (r1 := 0) (r2 := 0) (r3 := 0) rfl (by decide) rfl (by omega) (by omega) (by decide) (u21 238 99 rfl) ?_
          refine wi_aload_n (i := 0) (x := 236) (nx := 10) (r1 := 0) (r2 := 0) (r3 := 0) rfl rfl ?_
          refine wr_gr (k0 := 236) (x := 238) (nx := 13) (r1 := 11) (r2 := 13) (r3 := 0) rfl rfl (by decide) rfl ⟨rfl, rfl⟩ rfl ?_
          refine wi_bipush (n := 15) (nx := 15) (r1 := 0) (r2 := 0) (r3 := 0) rfl (by decide) ?_
          refine wi_iload_n (i := 1) (e := 1) (nx := 16) (r1 := 0) (r2 := 0) (r3 := 0) rfl rfl ?_
          refine wr_addL (16) (nx := 17) (r1 := 0) (r2 := 0) (r3 := 0) rfl (by decide) ?_
          have b26 := gi_b (lo := 0) (hi := 6) g 238 16 rfl
          refine wr_ia (k0 := 238) (a := 16) (f := 16) (x := h 238 16) (nx := 18) (r1 := 0) (r2 := 0) (r3 := 0) rfl (by decide) rfl (by omega) (by omega) (by decide) (u21 238 16 rfl) ?_
          refine wi_icmp (cd := .ge) (nx := 21) (r1 := 25) (r2 := 0) (r3 := 0) rfl (by omega) (by omega) (fun (q27 : (h 238 16) ≤ (h 238 99)) => ?_) (fun (q27 : ¬ ((h 238 16) ≤ (h 238 99))) => ?_)
          ·
            refine wi_iconst (n := 0) (nx := 26) (r1 := 0) (r2 := 0) (r3 := 0) rfl ?_
            refine wi_zreturn (nx := 27) (r1 := 0) (r2 := 0) (r3 := 0) rfl rfl (by omega) ?_
            refine wk_i ?_
            refine wi_if (cd := .eq) (nx := 24) (r1 := 28) (r2 := 0) (r3 := 0) rfl (by omega) (fun (q28 : 0 = 0) => ?_) (fun (q28 : ¬ (0 = 0)) => by exfalso; omega)
            refine wi_iconst (n := 0) (nx := 29) (r1 := 0) (r2 := 0) (r3 := 0) rfl ?_
            refine wi_zreturn (nx := 30) (r1 := 0) (r2 := 0) (r3 := 0) rfl rfl (by omega) ?_
            refine wk_i ?_
            refine wi_if (cd := .ne) (nx := 22) (r1 := 24) (r2 := 0) (r3 := 0) rfl (by omega) (fun (q29 : 0 ≠ 0) => by exfalso; omega) (fun (q29 : ¬ (0 ≠ 0)) => ?_)
            refine wi_iconst (n := (-1)) (nx := 23) (r1 := 0) (r2 := 0) (r3 := 0) rfl ?_
            refine wi_ireturn (nx := 24) (r1 := 0) (r2 := 0) (r3 := 0) rfl rfl ?_
            have e30 : h21 238 98 = h 238 98 := (u21 238 98 rfl)
            have e31 : h21 238 99 = h 238 99 := (u21 238 99 rfl)
            have e32 : h21 238 100 = h 238 100 := (u21 238 100 rfl)
            have e33 : h21 238 101 = h 238 101 := (u21 238 101 rfl)
            have e34 : h21 238 102 = h 238 102 := (u21 238 102 rfl)
            have e35 : h21 238 106 = h 238 106 := (u21 238 106 rfl)
            have e36 : h21 238 73 = h 238 73 := (u21 238 73 rfl)
            have e37 : h21 238 2 = h 238 2 := (u21 238 2 rfl)
            have e38 : h21 238 119 = h 238 119 := (u21 238 119 rfl)
            have e39 : h21 238 67 = h 238 67 := (u21 238 67 rfl)
            have e40 : h21 238 69 = h 238 69 := (u21 238 69 rfl)
            have e41 : h21 238 5 = h 238 5 := (u21 238 5 rfl)
            have gs42 := GPS.fr u21 rfl xq0
            have gp43 := GPH.fr u21 rfl gp0
            exact k h21 (-1) g21 F22 (by omega) (show (h21 238 98) + (h21 238 99) + (h21 238 100) + (h21 238 101) + (h21 238 102) + (h21 238 106) = (h21 238 73) by omega) (show (h21 238 73) ≤ (h21 238 2) by omega) (show (h21 238 119) ≤ (h21 238 67) by omega) (show (h21 238 69) ≤ (h21 238 5) by omega) (show (h21 238 2) ≤ 12 * (h21 238 5) by omega) gs42 gp43
          ·
            refine wi_iconst (n := 1) (nx := 22) (r1 := 0) (r2 := 0) (r3 := 0) rfl ?_
            refine wi_goto (nx := 25) (r1 := 26) (r2 := 0) (r3 := 0) rfl ?_
            refine wi_zreturn (nx := 27) (r1 := 0) (r2 := 0) (r3 := 0) rfl rfl (by omega) ?_
            refine wk_i ?_
            refine wi_if (cd := .eq) (nx := 24) (r1 := 28) (r2 := 0) (r3 := 0) rfl (by omega) (fun (q28 : 1 = 0) => by exfalso; omega) (fun (q28 : ¬ (1 = 0)) => ?_)
            refine wi_iconst (n := 1) (nx := 25) (r1 := 0) (r2 := 0) (r3 := 0) rfl ?_
            refine wi_goto (nx := 28) (r1 := 29) (r2 := 0) (r3 := 0) rfl ?_
            refine wi_zreturn (nx := 30) (r1 := 0) (r2 := 0) (r3 := 0) rfl rfl (by omega) ?_
            refine wk_i ?_
            refine wi_if (cd := .ne) (nx := 22) (r1 := 24) (r2 := 0) (r3 := 0) rfl (by omega) (fun (q29 : 1 ≠ 0) => ?_) (fun (q29 : ¬ (1 ≠ 0)) => by exfalso; omega)
            refine wi_aload_n (i := 0) (x := 236) (nx := 25) (r1 := 0) (r2 := 0) (r3 := 0) rfl rfl ?_
            refine wr_V (k0 := 236) (rest := []) (as := [.ref 236]) (nx := 28) (r1 := 278) (r2 := 0) (r3 := 11) rfl rfl rfl (of_decide_eq_true rfl) rfl rfl (by decide) rfl rfl (of_decide_eq_true rfl) (of_decide_eq_true rfl) ?_
            have e31 : h21 238 98 = h 238 98 := (u21 238 98 rfl)
            have e32 : h21 238 99 = h 238 99 := (u21 238 99 rfl)
            have e33 : h21 238 100 = h 238 100 := (u21 238 100 rfl)
            have e34 : h21 238 101 = h 238 101 := (u21 238 101 rfl)
            have e35 : h21 238 102 = h 238 102 := (u21 238 102 rfl)
            have e36 : h21 238 106 = h 238 106 := (u21 238 106 rfl)
            have e37 : h21 238 73 = h 238 73 := (u21 238 73 rfl)
            have e38 : h21 238 2 = h 238 2 := (u21 238 2 rfl)
            have e39 : h21 238 119 = h 238 119 := (u21 238 119 rfl)
            have e40 : h21 238 67 = h 238 67 := (u21 238 67 rfl)
            have e41 : h21 238 69 = h 238 69 := (u21 238 69 rfl)
            have e42 : h21 238 5 = h 238 5 := (u21 238 5 rfl)
            have gs43 := GPS.fr u21 rfl xq0
            have gp44 := GPH.fr u21 rfl gp0
            refine ct_278_236 hcr  g21   (show (h21 238 98) + (h21 238 99) + (h21 238 100) + (h21 238 101) + (h21 238 102) + (h21 238 106) = (h21 238 73) by omega) (show (h21 238 73) ≤ (h21 238 2) by omega) (show (h21 238 119) ≤ (h21 238 67) by omega) (show (h21 238 69) ≤ (h21 238 5) by omega) (show (h21 238 2) ≤ 12 * (h21 238 5) by omega) gs43 gp44 (fun h30 g30 u30 (p30_0 : 1 ≤ (h30 236 22)) y30_0 y30_1 => ?_)
            have F45 := F22.then (by decide +kernel) u30
            have b46 := gi_b (lo := 0) (hi := 6) g30 236 22 rfl
            refine wk_n ?_
            refine wi_aload_n (i := 0) (x := 236) (nx := 29) (r1 := 0) (r2 := 0) (r3 := 0) rfl rfl ?_
            refine wi_iload_n (i := 1) (e := 1) (nx := 30) (r1 := 0) (r2 := 0) (r3 := 0) rfl rfl ?_
            refine wr_V (k0 := 236) (rest := []) (as := [.ref 236, vi 1]) (nx := 33) (r1 := 279) (r2 := 1) (r3 := 11) rfl rfl rfl (of_decide_eq_true rfl) rfl rfl (by decide) rfl rfl (of_decide_eq_true rfl) (of_decide_eq_true rfl) ?_
            refine wi_aload_n (i := 0) (x := 236) (nx := 1) (r1 := 0) (r2 := 0) (r3 := 0) rfl rfl ?_
            refine wr_gr (k0 := 236) (x := 238) (nx := 4) (r1 := 11) (r2 := 13) (r3 := 0) rfl rfl (by decide) rfl ⟨rfl, rfl⟩ rfl ?_
            refine wi_bipush (n := 73) (nx := 6) (r1 := 0) (r2 := 0) (r3 := 0) rfl (by decide) ?_
            refine wr_ia (k0 := 238) (a := 73) (f := 73) (x := h 238 73) (nx := 7) (r1 := 0) (r2 := 0) (r3 := 0) rfl (by decide) rfl (by omega) (by omega) (by decide) ((u30 238 73 rfl).trans (u21 238 73 rfl)) ?_
            refine wi_istore_n (i := 2) (e := h 238 73) (lo2 := [(2, vi (h 238 73)), (0, .ref 236), (1, vi 1)]) (nx := 8) (r1 := 0) (r2 := 0) (r3 := 0) rfl rfl ?_
            refine wi_aload_n (i := 0) (x := 236) (nx := 9) (r1 := 0) (r2 := 0) (r3 := 0) rfl rfl ?_
            refine wi_iload_n (i := 1) (e := 1) (nx := 10) (r1 := 0) (r2 := 0) (r3 := 0) rfl rfl ?_
            refine wi_iload_n (i := 2) (e := h 238 73) (nx := 11) (r1 := 0) (r2 := 0) (r3 := 0) rfl rfl ?_
            refine wr_V (k0 := 236) (rest := []) (as := [.ref 236, vi 1, vi (h 238 73)]) (nx := 14) (r1 := 280) (r2 := 2) (r3 := 11) rfl rfl rfl (of_decide_eq_true rfl) rfl rfl (by decide) rfl rfl (of_decide_eq_true rfl) (of_decide_eq_true rfl) ?_
            refine wi_aload_n (i := 0) (x := 236) (nx := 1) (r1 := 0) (r2 := 0) (r3 := 0) rfl rfl ?_
            refine wr_gr (k0 := 236) (x := 238) (nx := 4) (r1 := 11) (r2 := 13) (r3 := 0) rfl rfl (by decide) rfl ⟨rfl, rfl⟩ rfl ?_
            refine wi_bipush (n := 74) (nx := 6) (r1 := 0) (r2 := 0) (r3 := 0) rfl (by decide) ?_
            refine wi_bipush (n := 6) (nx := 8) (r1 := 0) (r2 := 0) (r3 := 0) rfl (by decide) ?_
            refine wi_iload_n (i := 1) (e := 1) (nx := 9) (r1 := 0) (r2 := 0) (r3 := 0) rfl rfl ?_
            refine wr_mulL (6) (nx := 10) (r1 := 0) (r2 := 0) (r3 := 0) rfl (by decide) ?_
            refine wr_addL (80) (nx := 11) (r1 := 0) (r2 := 0) (r3 := 0) rfl (by decide) ?_
            refine wi_aload_n (i := 0) (x := 236) (nx := 12) (r1 := 0) (r2 := 0) (r3 := 0) rfl rfl ?_
            refine wr_gr (k0 := 236) (x := 238) (nx := 15) (r1 := 11) (r2 := 13) (r3 := 0) rfl rfl (by decide) rfl ⟨rfl, rfl⟩ rfl ?_
            refine wi_bipush (n := 98) (nx := 17) (r1 := 0) (r2 := 0) (r3 := 0) rfl (by decide) ?_
            refine wi_iload_n (i := 1) (e := 1) (nx := 18) (r1 := 0) (r2 := 0) (r3 := 0) rfl rfl ?_
            refine wr_addL (99) (nx := 19) (r1 := 0) (r2 := 0) (r3 := 0) rfl (by decide) ?_
            refine wr_ia (k0 := 238) (a := 99) (f := 99) (x := h 238 99) (nx := 20) (r1 := 0) (r2 := 0) (r3 := 0) rfl (by decide) rfl (by omega) (by omega) (by decide) ((u30 238 99 rfl).trans (u21 238 99 rfl)) ?_
            refine wr_add (nx := 21) (r1 := 0) (r2 := 0) (r3 := 0) rfl (fun e47 (fe47 : e47 = 80 + (h 238 99)) => ?_)
            refine wi_iload_n (i := 2) (e := h 238 73) (nx := 22) (r1 := 0) (r2 := 0) (r3 := 0) rfl rfl ?_
            obtain ⟨i48, ei48⟩ : ∃ q : Nat, e47 = (q : Int) := ⟨(e47).toNat, by omega⟩
            refine wr_is (k0 := 238) (a := e47) (f := i48) (x := h 238 73) (bl := 0) (bh := 11) (nx := 23) (r1 := 0) (r2 := 0) (r3 := 0) rfl (by decide) rfl (by omega) (by omega) (by decide) g30 (gi_rg 80 6 (fun _ => rfl) (by decide +kernel) (by omega)) (by omega) (fun h49 g49 w49 u49 => ?_)
            have F50 := F45.then rfl (FR.idx (p := 80) (q := 85) u49 (by omega))
            refine wi_aload_n (i := 0) (x := 236) (nx := 24) (r1 := 0) (r2 := 0) (r3 := 0) rfl rfl ?_
            refine wr_gr (k0 := 236) (x := 238) (nx := 27) (r1 := 11) (r2 := 13) (r3 := 0) rfl rfl (by decide) rfl ⟨rfl, rfl⟩ rfl ?_
            refine wi_bipush (n := 98) (nx := 29) (r1 := 0) (r2 := 0) (r3 := 0) rfl (by decide) ?_
            refine wi_iload_n (i := 1) (e := 1) (nx := 30) (r1 := 0) (r2 := 0) (r3 := 0) rfl rfl ?_
            refine wr_addL (99) (nx := 31) (r1 := 0) (r2 := 0) (r3 := 0) rfl (by decide) ?_
            refine wi_dup2 (nx := 32) (r1 := 0) (r2 := 0) (r3 := 0) rfl rfl rfl ?_
            refine wr_ia (k0 := 238) (a := 99) (f := 99) (x := h 238 99) (nx := 33) (r1 := 0) (r2 := 0) (r3 := 0) rfl (by decide) rfl (by omega) (by omega) (by decide) ((u49 238 99 (fn_i (by omega) fn_0)).trans ((u30 238 99 rfl).trans (u21 238 99 rfl))) ?_
            refine wi_iconst (n := 1) (nx := 34) (r1 := 0) (r2 := 0) (r3 := 0) rfl ?_
            refine wr_add (nx := 35) (r1 := 0) (r2 := 0) (r3 := 0) rfl (fun e51 (fe51 : e51 = (h 238 99) + 1) => ?_)
            refine wr_is (k0 := 238) (a := 99) (f := 99) (x := e51) (bl := 0) (bh := 6) (nx := 36) (r1 := 0) (r2 := 0) (r3 := 0) rfl (by decide) rfl (by omega) (by omega) (by decide) g49 rfl (by omega) (fun h52 g52 w52 u52 => ?_)
            have F53 := F50.then rfl u52
            refine wi_return (nx := 37) (r1 := 0) (r2 := 0) (r3 := 0) rfl rfl ?_
            refine wk_n ?_
            refine wi_aload_n (i := 0) (x := 236) (nx := 15) (r1 := 0) (r2 := 0) (r3 := 0) rfl rfl ?_
            refine wr_gr (k0 := 236) (x := 238) (nx := 18) (r1 := 11) (r2 := 13) (r3 := 0) rfl rfl (by decide) rfl ⟨rfl, rfl⟩ rfl ?_
            refine wi_bipush (n := 73) (nx := 20) (r1 := 0) (r2 := 0) (r3 := 0) rfl (by decide) ?_
            refine wi_dup2 (nx := 21) (r1 := 0) (r2 := 0) (r3 := 0) rfl rfl rfl ?_
            refine wr_ia (k0 := 238) (a := 73) (f := 73) (x := h 238 73) (nx := 22) (r1 := 0) (r2 := 0) (r3 := 0) rfl (by decide) rfl (by omega) (by omega) (by decide) ((u52 238 73 rfl).trans ((u49 238 73 (fn_i (by omega) fn_0)).trans ((u30 238 73 rfl).trans (u21 238 73 rfl)))) ?_
            refine wi_iconst (n := 1) (nx := 23) (r1 := 0) (r2 := 0) (r3 := 0) rfl ?_
            refine wr_add (nx := 24) (r1 := 0) (r2 := 0) (r3 := 0) rfl (fun e54 (fe54 : e54 = (h 238 73) + 1) => ?_)
            refine wr_is (k0 := 238) (a := 73) (f := 73) (x := e54) (bl := 0) (bh := 12) (nx := 25) (r1 := 0) (r2 := 0) (r3 := 0) rfl (by decide) rfl (by omega) (by omega) (by decide) g52 rfl (by omega) (fun h55 g55 w55 u55 => ?_)
            have F56 := F53.then rfl u55
            refine wi_iload_n (i := 2) (e := h 238 73) (nx := 26) (r1 := 0) (r2 := 0) (r3 := 0) rfl rfl ?_
            refine wi_ireturn (nx := 27) (r1 := 0) (r2 := 0) (r3 := 0) rfl rfl ?_
            refine wk_i ?_
            refine wi_ireturn (nx := 34) (r1 := 0) (r2 := 0) (r3 := 0) rfl rfl ?_
            have e57 : h55 238 98 = h 238 98 := ((u55 238 98 rfl).trans ((u52 238 98 rfl).trans ((u49 238 98 (fn_i (by omega) fn_0)).trans ((u30 238 98 rfl).trans (u21 238 98 rfl)))))
            have e58 : h55 238 99 = e51 := ((u55 238 99 rfl).trans w52)
            have e59 : h55 238 100 = h 238 100 := ((u55 238 100 rfl).trans ((u52 238 100 rfl).trans ((u49 238 100 (fn_i (by omega) fn_0)).trans ((u30 238 100 rfl).trans (u21 238 100 rfl)))))
            have e60 : h55 238 101 = h 238 101 := ((u55 238 101 rfl).trans ((u52 238 101 rfl).trans ((u49 238 101 (fn_i (by omega) fn_0)).trans ((u30 238 101 rfl).trans (u21 238 101 rfl)))))
            have e61 : h55 238 102 = h 238 102 := ((u55 238 102 rfl).trans ((u52 238 102 rfl).trans ((u49 238 102 (fn_i (by omega) fn_0)).trans ((u30 238 102 rfl).trans (u21 238 102 rfl)))))
            have e62 : h55 238 106 = h 238 106 := ((u55 238 106 rfl).trans ((u52 238 106 rfl).trans ((u49 238 106 (fn_i (by omega) fn_0)).trans ((u30 238 106 rfl).trans (u21 238 106 rfl)))))
            have e63 : h55 238 73 = e54 := w55
            have e64 : h55 238 2 = h 238 2 := ((u55 238 2 rfl).trans ((u52 238 2 rfl).trans ((u49 238 2 (fn_i (by omega) fn_0)).trans ((u30 238 2 rfl).trans (u21 238 2 rfl)))))
            have e65 : h55 238 119 = h 238 119 := ((u55 238 119 rfl).trans ((u52 238 119 rfl).trans ((u49 238 119 (fn_i (by omega) fn_0)).trans ((u30 238 119 rfl).trans (u21 238 119 rfl)))))
            have e66 : h55 238 67 = h 238 67 := ((u55 238 67 rfl).trans ((u52 238 67 rfl).trans ((u49 238 67 (fn_i (by omega) fn_0)).trans ((u30 238 67 rfl).trans (u21 238 67 rfl)))))
            have e67 : h55 238 69 = h 238 69 := ((u55 238 69 rfl).trans ((u52 238 69 rfl).trans ((u49 238 69 (fn_i (by omega) fn_0)).trans ((u30 238 69 rfl).trans (u21 238 69 rfl)))))
            have e68 : h55 238 5 = h 238 5 := ((u55 238 5 rfl).trans ((u52 238 5 rfl).trans ((u49 238 5 (fn_i (by omega) fn_0)).trans ((u30 238 5 rfl).trans (u21 238 5 rfl)))))
            have gs69 := GPS.fr (FR.idx (p := 80) (q := 85) u49 (by omega)) rfl y30_0
            have gs70 := GPS.fr u52 rfl gs69
            have gs71 := GPS.fr u55 rfl gs70
            have gp72 := GPH.fr u49 rfl y30_1
            have gp73 := GPH.fr u52 rfl gp72
            have gp74 := GPH.fr u55 rfl gp73
            exact k h55 (h 238 73) g55 F56 (by omega) (show (h55 238 98) + (h55 238 99) + (h55 238 100) + (h55 238 101) + (h55 238 102) + (h55 238 106) = (h55 238 73) by omega) (show (h55 238 73) ≤ (h55 238 2) by omega) (show (h55 238 119) ≤ (h55 238 67) by omega) (show (h55 238 69) ≤ (h55 238 5) by omega) (show (h55 238 2) ≤ 12 * (h55 238 5) by omega) gs71 gp74
        ·
          rw [q25]
          refine wr_V (k0 := 236) (rest := []) (as := [.ref 236, vi 2]) (nx := 21) (r1 := 277) (r2 := 1) (r3 := 11) rfl rfl rfl (of_decide_eq_true rfl) rfl rfl (by decide) rfl rfl (of_decide_eq_true rfl) (of_decide_eq_true rfl) ?_
          refine wi_aload_n (i := 0) (x := 236) (nx := 1) (r1 := 0) (r2 := 0) (r3 := 0) rfl rfl ?_
          refine wr_gr (k0 := 236) (x := 238) (nx := 4) (r1 := 11) (r2 := 13) (r3 := 0) rfl rfl (by decide) rfl ⟨rfl, rfl⟩ rfl ?_
          refine wi_bipush (n := 98) (nx := 6) (r1 := 0) (r2 := 0) (r3 := 0) rfl (by decide) ?_
          refine wi_iload_n (i := 1) (e := 2) (nx := 7) (r1 := 0) (r2 := 0) (r3 := 0) rfl rfl ?_
          refine wr_addL (100) (nx := 8) (r1 := 0) (r2 := 0) (r3 := 0) rfl (by decide) ?_
          refine wr_ia (k0 := 238) (a := 100) (f := 100) (x := h 238 100) (nx := 9) (r1 := 0) (r2 := 0) (r3 := 0) rfl (by decide) rfl (by omega) (by omega) (by decide) (u21 238 100 rfl) ?_
          refine wi_aload_n (i := 0) (x := 236) (nx := 10) (r1 := 0) (r2 := 0) (r3 := 0) rfl rfl ?_
          refine wr_gr (k0 := 236) (x := 238) (nx := 13) (r1 := 11) (r2 := 13) (r3 := 0) rfl rfl (by decide) rfl ⟨rfl, rfl⟩ rfl ?_
          refine wi_bipush (n := 15) (nx := 15) (r1 := 0) (r2 := 0) (r3 := 0) rfl (by decide) ?_
          refine wi_iload_n (i := 1) (e := 2) (nx := 16) (r1 := 0) (r2 := 0) (r3 := 0) rfl rfl ?_
          refine wr_addL (17) (nx := 17) (r1 := 0) (r2 := 0) (r3 := 0) rfl (by decide) ?_
          have b26 := gi_b (lo := 0) (hi := 6) g 238 17 rfl
          refine wr_ia (k0 := 238) (a := 17) (f := 17) (x := h 238 17) (nx := 18) (r1 := 0) (r2 := 0) (r3 := 0) rfl (by decide) rfl (by omega) (by omega) (by decide) (u21 238 17 rfl) ?_
          refine wi_icmp (cd := .ge) (nx := 21) (r1 := 25) (r2 := 0) (r3 := 0) rfl (by omega) (by omega) (fun (q27 : (h 238 17) ≤ (h 238 100)) => ?_) (fun (q27 : ¬ ((h 238 17) ≤ (h 238 100))) => ?_)
          ·
            refine wi_iconst (n := 0) (nx := 26) (r1 := 0) (r2 := 0) (r3 := 0) rfl ?_
            refine wi_zreturn (nx := 27) (r1 := 0) (r2 := 0) (r3 := 0) rfl rfl (by omega) ?_
            refine wk_i ?_
            refine wi_if (cd := .eq) (nx := 24) (r1 := 28) (r2 := 0) (r3 := 0) rfl (by omega) (fun (q28 : 0 = 0) => ?_) (fun (q28 : ¬ (0 = 0)) => by exfalso; omega)
            refine wi_iconst (n := 0) (nx := 29) (r1 := 0) (r2 := 0) (r3 := 0) rfl ?_
            refine wi_zreturn (nx := 30) (r1 := 0) (r2 := 0) (r3 := 0) rfl rfl (by omega) ?_
            refine wk_i ?_
            refine wi_if (cd := .ne) (nx := 22) (r1 := 24) (r2 := 0) (r3 := 0) rfl (by omega) (fun (q29 : 0 ≠ 0) => by exfalso; omega) (fun (q29 : ¬ (0 ≠ 0)) => ?_)
            refine wi_iconst (n := (-1)) (nx := 23) (r1 := 0) (r2 := 0) (r3 := 0) rfl ?_
            refine wi_ireturn (nx := 24) (r1 := 0) (r2 := 0) (r3 := 0) rfl rfl ?_
            have e30 : h21 238 98 = h 238 98 := (u21 238 98 rfl)
            have e31 : h21 238 99 = h 238 99 := (u21 238 99 rfl)
            have e32 : h21 238 100 = h 238 100 := (u21 238 100 rfl)
            have e33 : h21 238 101 = h 238 101 := (u21 238 101 rfl)
            have e34 : h21 238 102 = h 238 102 := (u21 238 102 rfl)
            have e35 : h21 238 106 = h 238 106 := (u21 238 106 rfl)
            have e36 : h21 238 73 = h 238 73 := (u21 238 73 rfl)
            have e37 : h21 238 2 = h 238 2 := (u21 238 2 rfl)
            have e38 : h21 238 119 = h 238 119 := (u21 238 119 rfl)
            have e39 : h21 238 67 = h 238 67 := (u21 238 67 rfl)
            have e40 : h21 238 69 = h 238 69 := (u21 238 69 rfl)
            have e41 : h21 238 5 = h 238 5 := (u21 238 5 rfl)
            have gs42 := GPS.fr u21 rfl xq0
            have gp43 := GPH.fr u21 rfl gp0
            exact k h21 (-1) g21 F22 (by omega) (show (h21 238 98) + (h21 238 99) + (h21 238 100) + (h21 238 101) + (h21 238 102) + (h21 238 106) = (h21 238 73) by omega) (show (h21 238 73) ≤ (h21 238 2) by omega) (show (h21 238 119) ≤ (h21 238 67) by omega) (show (h21 238 69) ≤ (h21 238 5) by omega) (show (h21 238 2) ≤ 12 * (h21 238 5) by omega) gs42 gp43
          ·
            refine wi_iconst (n := 1) (nx := 22) (r1 := 0) (r2 := 0) (r3 := 0) rfl ?_
            refine wi_goto (nx := 25) (r1 := 26) (r2 := 0) (r3 := 0) rfl ?_
            refine wi_zreturn (nx := 27) (r1 := 0) (r2 := 0) (r3 := 0) rfl rfl (by omega) ?_
            refine wk_i ?_
            refine wi_if (cd := .eq) (nx := 24) (r1 := 28) (r2 := 0) (r3 := 0) rfl (by omega) (fun (q28 : 1 = 0) => by exfalso; omega) (fun (q28 : ¬ (1 = 0)) => ?_)
            refine wi_iconst (n := 1) (nx := 25) (r1 := 0) (r2 := 0) (r3 := 0) rfl ?_
            refine wi_goto (nx := 28) (r1 := 29) (r2 := 0) (r3 := 0) rfl ?_
            refine wi_zreturn (nx := 30) (r1 := 0) (r2 := 0) (r3 := 0) rfl rfl (by omega) ?_
            refine wk_i ?_
            refine wi_if (cd := .ne) (nx := 22) (r1 := 24) (r2 := 0) (r3 := 0) rfl (by omega) (fun (q29 : 1 ≠ 0) => ?_) (fun (q29 : ¬ (1 ≠ 0)) => by exfalso; omega)
            refine wi_aload_n (i := 0) (x := 236) (nx := 25) (r1 := 0) (r2 := 0) (r3 := 0) rfl rfl ?_
            refine wr_V (k0 := 236) (rest := []) (as := [.ref 236]) (nx := 28) (r1 := 278) (r2 := 0) (r3 := 11) rfl rfl rfl (of_decide_eq_true rfl) rfl rfl (by decide) rfl rfl (of_decide_eq_true rfl) (of_decide_eq_true rfl) ?_
            have e31 : h21 238 98 = h 238 98 := (u21 238 98 rfl)
            have e32 : h21 238 99 = h 238 99 := (u21 238 99 rfl)
            have e33 : h21 238 100 = h 238 100 := (u21 238 100 rfl)
            have e34 : h21 238 101 = h 238 101 := (u21 238 101 rfl)
            have e35 : h21 238 102 = h 238 102 := (u21 238 102 rfl)
            have e36 : h21 238 106 = h 238 106 := (u21 238 106 rfl)
            have e37 : h21 238 73 = h 238 73 := (u21 238 73 rfl)
            have e38 : h21 238 2 = h 238 2 := (u21 238 2 rfl)
            have e39 : h21 238 119 = h 238 119 := (u21 238 119 rfl)
            have e40 : h21 238 67 = h 238 67 := (u21 238 67 rfl)
            have e41 : h21 238 69 = h 238 69 := (u21 238 69 rfl)
            have e42 : h21 238 5 = h 238 5 := (u21 238 5 rfl)
            have gs43 := GPS.fr u21 rfl xq0
            have gp44 := GPH.fr u21 rfl gp0
            refine ct_278_236 hcr  g21   (show (h21 238 98) + (h21 238 99) + (h21 238 100) + (h21 238 101) + (h21 238 102) + (h21 238 106) = (h21 238 73) by omega) (show (h21 238 73) ≤ (h21 238 2) by omega) (show (h21 238 119) ≤ (h21 238 67) by omega) (show (h21 238 69) ≤ (h21 238 5) by omega) (show (h21 238 2) ≤ 12 * (h21 238 5) by omega) gs43 gp44 (fun h30 g30 u30 (p30_0 : 1 ≤ (h30 236 22)) y30_0 y30_1 => ?_)
            have F45 := F22.then (by decide +kernel) u30
            have b46 := gi_b (lo := 0) (hi := 6) g30 236 22 rfl
            refine wk_n ?_
            refine wi_aload_n (i := 0) (x := 236) (nx := 29) (r1 := 0) (r2 := 0) (r3 := 0) rfl rfl ?_
            refine wi_iload_n (i := 1) (e := 2) (nx := 30) (r1 := 0) (r2 := 0) (r3 := 0) rfl rfl ?_
            refine wr_V (k0 := 236) (rest := []) (as := [.ref 236, vi 2]) (nx := 33) (r1 := 279) (r2 := 1) (r3 := 11) rfl rfl rfl (of_decide_eq_true rfl) rfl rfl (by decide) rfl rfl (of_decide_eq_true rfl) (of_decide_eq_true rfl) ?_
            refine wi_aload_n (i := 0) (x := 236) (nx := 1) (r1 := 0) (r2 := 0) (r3 := 0) rfl rfl ?_
            refine wr_gr (k0 := 236) (x := 238) (nx := 4) (r1 := 11) (r2 := 13) (r3 := 0) rfl rfl (by decide) rfl ⟨rfl, rfl⟩ rfl ?_
            refine wi_bipush (n := 73) (nx := 6) (r1 := 0) (r2 := 0) (r3 := 0) rfl (by decide) ?_
            refine wr_ia (k0 := 238) (a := 73) (f := 73) (x := h 238 73) (nx := 7) (r1 := 0) (r2 := 0) (r3 := 0) rfl (by decide) rfl (by omega) (by omega) (by decide) ((u30 238 73 rfl).trans (u21 238 73 rfl)) ?_
            refine wi_istore_n (i := 2) (e := h 238 73) (lo2 := [(2, vi (h 238 73)), (0, .ref 236), (1, vi 2)]) (nx := 8) (r1 := 0) (r2 := 0) (r3 := 0) rfl rfl ?_
            refine wi_aload_n (i := 0) (x := 236) (nx := 9) (r1 := 0) (r2 := 0) (r3 := 0) rfl rfl ?_
            refine wi_iload_n (i := 1) (e := 2) (nx := 10) (r1 := 0) (r2 := 0) (r3 := 0) rfl rfl ?_
            refine wi_iload_n (i := 2) (e := h 238 73) (nx := 11) (r1 := 0) (r2 := 0) (r3 := 0) rfl rfl ?_
            refine wr_V (k0 := 236) (rest := []) (as := [.ref 236, vi 2, vi (h 238 73)]) (nx := 14) (r1 := 280) (r2 := 2) (r3 := 11) rfl rfl rfl (of_decide_eq_true rfl) rfl rfl (by decide) rfl rfl (of_decide_eq_true rfl) (of_decide_eq_true rfl) ?_
            refine wi_aload_n (i := 0) (x := 236) (nx := 1) (r1 := 0) (r2 := 0) (r3 := 0) rfl rfl ?_
            refine wr_gr (k0 := 236) (x := 238) (nx := 4) (r1 := 11) (r2 := 13) (r3 := 0) rfl rfl (by decide) rfl ⟨rfl, rfl⟩ rfl ?_
            refine wi_bipush (n := 74) (nx := 6) (r1 := 0) (r2 := 0) (r3 := 0) rfl (by decide) ?_
            refine wi_bipush (n := 6) (nx := 8) (r1 := 0) (r2 := 0) (r3 := 0) rfl (by decide) ?_
            refine wi_iload_n (i := 1) (e := 2) (nx := 9) (r1 := 0) (r2 := 0) (r3 := 0) rfl rfl ?_
            refine wr_mulL (12) (nx := 10) (r1 := 0) (r2 := 0) (r3 := 0) rfl (by decide) ?_
            refine wr_addL (86) (nx := 11) (r1 := 0) (r2 := 0) (r3 := 0) rfl (by decide) ?_
            refine wi_aload_n (i := 0) (x := 236) (nx := 12) (r1 := 0) (r2 := 0) (r3 := 0) rfl rfl ?_
            refine wr_gr (k0 := 236) (x := 238) (nx := 15) (r1 := 11) (r2 := 13) (r3 := 0) rfl rfl (by decide) rfl ⟨rfl, rfl⟩ rfl ?_
            refine wi_bipush (n := 98) (nx := 17) (r1 := 0) (r2 := 0) (r3 := 0) rfl (by decide) ?_
            refine wi_iload_n (i := 1) (e := 2) (nx := 18) (r1 := 0) (r2 := 0) (r3 := 0) rfl rfl ?_
            refine wr_addL (100) (nx := 19) (r1 := 0) (r2 := 0) (r3 := 0) rfl (by decide) ?_
            refine wr_ia (k0 := 238) (a := 100) (f := 100) (x := h 238 100) (nx := 20) (r1 := 0) (r2 := 0) (r3 := 0) rfl (by decide) rfl (by omega) (by omega) (by decide) ((u30 238 100 rfl).trans (u21 238 100 rfl)) ?_
            refine wr_add (nx := 21) (r1 := 0) (r2 := 0) (r3 := 0) rfl (fun e47 (fe47 : e47 = 86 + (h 238 100)) => ?_)
            refine wi_iload_n (i := 2) (e := h 238 73) (nx := 22) (r1 := 0) (r2 := 0) (r3 := 0) rfl rfl ?_
            obtain ⟨i48, ei48⟩ : ∃ q : Nat, e47 = (q : Int) := ⟨(e47).toNat, by omega⟩
            refine wr_is (k0 := 238) (a := e47) (f := i48) (x := h 238 73) (bl := 0) (bh := 11) (nx := 23) (r1 := 0) (r2 := 0) (r3 := 0) rfl (by decide) rfl (by omega) (by omega) (by decide) g30 (gi_rg 86 6 (fun _ => rfl) (by decide +kernel) (by omega)) (by omega) (fun h49 g49 w49 u49 => ?_)
            have F50 := F45.then rfl (FR.idx (p := 86) (q := 91) u49 (by omega))
            refine wi_aload_n (i := 0) (x := 236) (nx := 24) (r1 := 0) (r2 := 0) (r3 := 0) rfl rfl ?_
            refine wr_gr (k0 := 236) (x := 238) (nx := 27) (r1 := 11) (r2 := 13) (r3 := 0) rfl rfl (by decide) rfl ⟨rfl, rfl⟩ rfl ?_
            refine wi_bipush (n := 98) (nx := 29) (r1 := 0) (r2 := 0) (r3 := 0) rfl (by decide) ?_
            refine wi_iload_n (i := 1) (e := 2) (nx := 30) (r1 := 0) (r2 := 0) (r3 := 0) rfl rfl ?_
            refine wr_addL (100) (nx := 31) (r1 := 0) (r2 := 0) (r3 := 0) rfl (by decide) ?_
            refine wi_dup2 (nx := 32) (r1 := 0) (r2 := 0) (r3 := 0) rfl rfl rfl ?_
            refine wr_ia (k0 := 238) (a := 100) (f := 100) (x := h 238 100) (nx := 33) (r1 := 0) (r2 := 0) (r3 := 0) rfl (by decide) rfl (by omega) (by omega) (by decide) ((u49 238 100 (fn_i (by omega) fn_0)).trans ((u30 238 100 rfl).trans (u21 238 100 rfl))) ?_
            refine wi_iconst (n := 1) (nx := 34) (r1 := 0) (r2 := 0) (r3 := 0) rfl ?_
            refine wr_add (nx := 35) (r1 := 0) (r2 := 0) (r3 := 0) rfl (fun e51 (fe51 : e51 = (h 238 100) + 1) => ?_)
            refine wr_is (k0 := 238) (a := 100) (f := 100) (x := e51) (bl := 0) (bh := 6) (nx := 36) (r1 := 0) (r2 := 0) (r3 := 0) rfl (by decide) rfl (by omega) (by omega) (by decide) g49 rfl (by omega) (fun h52 g52 w52 u52 => ?_)
            have F53 := F50.then rfl u52
            refine wi_return (nx := 37) (r1 := 0) (r2 := 0) (r3 := 0) rfl rfl ?_
            refine wk_n ?_
            refine wi_aload_n (i := 0) (x := 236) (nx := 15) (r1 := 0) (r2 := 0) (r3 := 0) rfl rfl ?_
            refine wr_gr (k0 := 236) (x := 238) (nx := 18) (r1 := 11) (r2 := 13) (r3 := 0) rfl rfl (by decide) rfl ⟨rfl, rfl⟩ rfl ?_
            refine wi_bipush (n := 73) (nx := 20) (r1 := 0) (r2 := 0) (r3 := 0) rfl (by decide) ?_
            refine wi_dup2 (nx := 21) (r1 := 0) (r2 := 0) (r3 := 0) rfl rfl rfl ?_
            refine wr_ia (k0 := 238) (a := 73) (f := 73) (x := h 238 73) (nx := 22) (r1 := 0) (r2 := 0) (r3 := 0) rfl (by decide) rfl (by omega) (by omega) (by decide) ((u52 238 73 rfl).trans ((u49 238 73 (fn_i (by omega) fn_0)).trans ((u30 238 73 rfl).trans (u21 238 73 rfl)))) ?_
            refine wi_iconst (n := 1) (nx := 23) (r1 := 0) (r2 := 0) (r3 := 0) rfl ?_
            refine wr_add (nx := 24) (r1 := 0) (r2 := 0) (r3 := 0) rfl (fun e54 (fe54 : e54 = (h 238 73) + 1) => ?_)
            refine wr_is (k0 := 238) (a := 73) (f := 73) (x := e54) (bl := 0) (bh := 12) (nx := 25) (r1 := 0) (r2 := 0) (r3 := 0) rfl (by decide) rfl (by omega) (by omega) (by decide) g52 rfl (by omega) (fun h55 g55 w55 u55 => ?_)
            have F56 := F53.then rfl u55
            refine wi_iload_n (i := 2) (e := h 238 73) (nx := 26) (r1 := 0) (r2 := 0) (r3 := 0) rfl rfl ?_
            refine wi_ireturn (nx := 27) (r1 := 0) (r2 := 0) (r3 := 0) rfl rfl ?_
            refine wk_i ?_
            refine wi_ireturn (nx := 34) (r1 := 0) (r2 := 0) (r3 := 0) rfl rfl ?_
            have e57 : h55 238 98 = h 238 98 := ((u55 238 98 rfl).trans ((u52 238 98 rfl).trans ((u49 238 98 (fn_i (by omega) fn_0)).trans ((u30 238 98 rfl).trans (u21 238 98 rfl)))))
            have e58 : h55 238 99 = h 238 99 := ((u55 238 99 rfl).trans ((u52 238 99 rfl).trans ((u49 238 99 (fn_i (by omega) fn_0)).trans ((u30 238 99 rfl).trans (u21 238 99 rfl)))))
            have e59 : h55 238 100 = e51 := ((u55 238 100 rfl).trans w52)
            have e60 : h55 238 101 = h 238 101 := ((u55 238 101 rfl).trans ((u52 238 101 rfl).trans ((u49 238 101 (fn_i (by omega) fn_0)).trans ((u30 238 101 rfl).trans (u21 238 101 rfl)))))
            have e61 : h55 238 102 = h 238 102 := ((u55 238 102 rfl).trans ((u52 238 102 rfl).trans ((u49 238 102 (fn_i (by omega) fn_0)).trans ((u30 238 102 rfl).trans (u21 238 102 rfl)))))
            have e62 : h55 238 106 = h 238 106 := ((u55 238 106 rfl).trans ((u52 238 106 rfl).trans ((u49 238 106 (fn_i (by omega) fn_0)).trans ((u30 238 106 rfl).trans (u21 238 106 rfl)))))
            have e63 : h55 238 73 = e54 := w55
            have e64 : h55 238 2 = h 238 2 := ((u55 238 2 rfl).trans ((u52 238 2 rfl).trans ((u49 238 2 (fn_i (by omega) fn_0)).trans ((u30 238 2 rfl).trans (u21 238 2 rfl)))))
            have e65 : h55 238 119 = h 238 119 := ((u55 238 119 rfl).trans ((u52 238 119 rfl).trans ((u49 238 119 (fn_i (by omega) fn_0)).trans ((u30 238 119 rfl).trans (u21 238 119 rfl)))))
            have e66 : h55 238 67 = h 238 67 := ((u55 238 67 rfl).trans ((u52 238 67 rfl).trans ((u49 238 67 (fn_i (by omega) fn_0)).trans ((u30 238 67 rfl).trans (u21 238 67 rfl)))))
            have e67 : h55 238 69 = h 238 69 := ((u55 238 69 rfl).trans ((u52 238 69 rfl).trans ((u49 238 69 (fn_i (by omega) fn_0)).trans ((u30 238 69 rfl).trans (u21 238 69 rfl)))))
            have e68 : h55 238 5 = h 238 5 := ((u55 238 5 rfl).trans ((u52 238 5 rfl).trans ((u49 238 5 (fn_i (by omega) fn_0)).trans ((u30 238 5 rfl).trans (u21 238 5 rfl)))))
            have gs69 := GPS.fr (FR.idx (p := 86) (q := 91) u49 (by omega)) rfl y30_0
            have gs70 := GPS.fr u52 rfl gs69
            have gs71 := GPS.fr u55 rfl gs70
            have gp72 := GPH.fr u49 rfl y30_1
            have gp73 := GPH.fr u52 rfl gp72
            have gp74 := GPH.fr u55 rfl gp73
            exact k h55 (h 238 73) g55 F56 (by omega) (show (h55 238 98) + (h55 238 99) + (h55 238 100) + (h55 238 101) + (h55 238 102) + (h55 238 106) = (h55 238 73) by omega) (show (h55 238 73) ≤ (h55 238 2) by omega) (show (h55 238 119) ≤ (h55 238 67) by omega) (show (h55 238 69) ≤ (h55 238 5) by omega) (show (h55 238 2) ≤ 12 * (h55 238 5) by omega) gs71 gp74
        ·
          rw [q25]
          refine wr_V (k0 := 236) (rest := []) (as := [.ref 236, vi 3]) (nx := 21) (r1 := 277) (r2 := 1) (r3 := 11) rfl rfl rfl (of_decide_eq_true rfl) rfl rfl (by decide) rfl rfl (of_decide_eq_true rfl) (of_decide_eq_true rfl) ?_
          refine wi_aload_n (i := 0) (x := 236) (nx := 1) (r1 := 0) (r2 := 0) (r3 := 0) rfl rfl ?_
          refine wr_gr (k0 := 236) (x := 238) (nx := 4) (r1 := 11) (r2 := 13) (r3 := 0) rfl rfl (by decide) rfl ⟨rfl, rfl⟩ rfl ?_
          refine wi_bipush (n := 98) (nx := 6) (r1 := 0) (r2 := 0) (r3 := 0) rfl (by decide) ?_
          refine wi_iload_n (i := 1) (e := 3) (nx := 7) (r1 := 0) (r2 := 0) (r3 := 0) rfl rfl ?_
          refine wr_addL (101) (nx := 8) (r1 := 0) (r2 := 0) (r3 := 0) rfl (by decide) ?_
          refine wr_ia (k0 := 238) (a := 101) (f := 101) (x := h 238 101) (nx := 9) (r1 := 0) (r2 := 0) (r3 := 0) rfl (by decide) rfl (by omega) (by omega) (by decide) (u21 238 101 rfl) ?_
          refine wi_aload_n (i := 0) (x := 236) (nx := 10) (r1 := 0) (r2 := 0) (r3 := 0) rfl rfl ?_
          refine wr_gr (k0 := 236) (x := 238) (nx := 13) (r1 := 11) (r2 := 13) (r3 := 0) rfl rfl (by decide) rfl ⟨rfl, rfl⟩ rfl ?_
          refine wi_bipush (n := 15) (nx := 15) (r1 := 0) (r2 := 0) (r3 := 0) rfl (by decide) ?_
          refine wi_iload_n (i := 1) (e := 3) (nx := 16) (r1 := 0) (r2 := 0) (r3 := 0) rfl rfl ?_
          refine wr_addL (18) (nx := 17) (r1 := 0) (r2 := 0) (r3 := 0) rfl (by decide) ?_
          have b26 := gi_b (lo := 0) (hi := 6) g 238 18 rfl
          refine wr_ia (k0 := 238) (a := 18) (f := 18) (x := h 238 18) (nx := 18) (r1 := 0) (r2 := 0) (r3 := 0) rfl (by decide) rfl (by omega) (by omega) (by decide) (u21 238 18 rfl) ?_
          refine wi_icmp (cd := .ge) (nx := 21) (r1 := 25) (r2 := 0) (r3 := 0) rfl (by omega) (by omega) (fun (q27 : (h 238 18) ≤ (h 238 101)) => ?_) (fun (q27 : ¬ ((h 238 18) ≤ (h 238 101))) => ?_)
          ·
            refine wi_iconst (n := 0) (nx := 26) (r1 := 0) (r2 := 0) (r3 := 0) rfl ?_
            refine wi_zreturn (nx := 27) (r1 := 0) (r2 := 0) (r3 := 0) rfl rfl (by omega) ?_
            refine wk_i ?_
            refine wi_if (cd := .eq) (nx := 24) (r1 := 28) (r2 := 0) (r3 := 0) rfl (by omega) (fun (q28 : 0 = 0) => ?_) (fun (q28 : ¬ (0 = 0)) => by exfalso; omega)
            refine wi_iconst (n := 0) (nx := 29) (r1 := 0) (r2 := 0) (r3 := 0) rfl ?_
            refine wi_zreturn (nx := 30) (r1 := 0) (r2 := 0) (r3 := 0) rfl rfl (by omega) ?_
            refine wk_i ?_
            refine wi_if (cd := .ne) (nx := 22) (r1 := 24) (r2 := 0) (r3 := 0) rfl (by omega) (fun (q29 : 0 ≠ 0) => by exfalso; omega) (fun (q29 : ¬ (0 ≠ 0)) => ?_)
            refine wi_iconst (n := (-1)) (nx := 23) (r1 := 0) (r2 := 0) (r3 := 0) rfl ?_
            refine wi_ireturn (nx := 24) (r1 := 0) (r2 := 0) (r3 := 0) rfl rfl ?_
            have e30 : h21 238 98 = h 238 98 := (u21 238 98 rfl)
            have e31 : h21 238 99 = h 238 99 := (u21 238 99 rfl)
            have e32 : h21 238 100 = h 238 100 := (u21 238 100 rfl)
            have e33 : h21 238 101 = h 238 101 := (u21 238 101 rfl)
            have e34 : h21 238 102 = h 238 102 := (u21 238 102 rfl)
            have e35 : h21 238 106 = h 238 106 := (u21 238 106 rfl)
            have e36 : h21 238 73 = h 238 73 := (u21 238 73 rfl)
            have e37 : h21 238 2 = h 238 2 := (u21 238 2 rfl)
            have e38 : h21 238 119 = h 238 119 := (u21 238 119 rfl)
            have e39 : h21 238 67 = h 238 67 := (u21 238 67 rfl)
            have e40 : h21 238 69 = h 238 69 := (u21 238 69 rfl)
            have e41 : h21 238 5 = h 238 5 := (u21 238 5 rfl)
            have gs42 := GPS.fr u21 rfl xq0
            have gp43 := GPH.fr u21 rfl gp0
            exact k h21 (-1) g21 F22 (by omega) (show (h21 238 98) + (h21 238 99) + (h21 238 100) + (h21 238 101) + (h21 238 102) + (h21 238 106) = (h21 238 73) by omega) (show (h21 238 73) ≤ (h21 238 2) by omega) (show (h21 238 119) ≤ (h21 238 67) by omega) (show (h21 238 69) ≤ (h21 238 5) by omega) (show (h21 238 2) ≤ 12 * (h21 238 5) by omega) gs42 gp43
          ·
            refine wi_iconst (n := 1) (nx := 22) (r1 := 0) (r2 := 0) (r3 := 0) rfl ?_
            refine wi_goto (nx := 25) (r1 := 26) (r2 := 0) (r3 := 0) rfl ?_
            refine wi_zreturn (nx := 27) (r1 := 0) (r2 := 0) (r3 := 0) rfl rfl (by omega) ?_
            refine wk_i ?_
            refine wi_if (cd := .eq) (nx := 24) (r1 := 28) (r2 := 0) (r3 := 0) rfl (by omega) (fun (q28 : 1 = 0) => by exfalso; omega) (fun (q28 : ¬ (1 = 0)) => ?_)
            refine wi_iconst (n := 1) (nx := 25) (r1 := 0) (r2 := 0) (r3 := 0) rfl ?_
            refine wi_goto (nx := 28) (r1 := 29) (r2 := 0) (r3 := 0) rfl ?_
            refine wi_zreturn (nx := 30) (r1 := 0) (r2 := 0) (r3 := 0) rfl rfl (by omega) ?_
            refine wk_i ?_
            refine wi_if (cd := .ne) (nx := 22) (r1 := 24) (r2 := 0) (r3 := 0) rfl (by omega) (fun (q29 : 1 ≠ 0) => ?_) (fun (q29 : ¬ (1 ≠ 0)) => by exfalso; omega)
            refine wi_aload_n (i := 0) (x := 236) (nx := 25) (r1 := 0) (r2 := 0) (r3 := 0) rfl rfl ?_
            refine wr_V (k0 := 236) (rest := []) (as := [.ref 236]) (nx := 28) (r1 := 278) (r2 := 0) (r3 := 11) rfl rfl rfl (of_decide_eq_true rfl) rfl rfl (by decide) rfl rfl (of_decide_eq_true rfl) (of_decide_eq_true rfl) ?_
            have e31 : h21 238 98 = h 238 98 := (u21 238 98 rfl)
            have e32 : h21 238 99 = h 238 99 := (u21 238 99 rfl)
            have e33 : h21 238 100 = h 238 100 := (u21 238 100 rfl)
            have e34 : h21 238 101 = h 238 101 := (u21 238 101 rfl)
            have e35 : h21 238 102 = h 238 102 := (u21 238 102 rfl)
            have e36 : h21 238 106 = h 238 106 := (u21 238 106 rfl)
            have e37 : h21 238 73 = h 238 73 := (u21 238 73 rfl)
            have e38 : h21 238 2 = h 238 2 := (u21 238 2 rfl)
            have e39 : h21 238 119 = h 238 119 := (u21 238 119 rfl)
            have e40 : h21 238 67 = h 238 67 := (u21 238 67 rfl)
            have e41 : h21 238 69 = h 238 69 := (u21 238 69 rfl)
            have e42 : h21 238 5 = h 238 5 := (u21 238 5 rfl)
            have gs43 := GPS.fr u21 rfl xq0
            have gp44 := GPH.fr u21 rfl gp0
            refine ct_278_236 hcr  g21   (show (h21 238 98) + (h21 238 99) + (h21 238 100) + (h21 238 101) + (h21 238 102) + (h21 238 106) = (h21 238 73) by omega) (show (h21 238 73) ≤ (h21 238 2) by omega) (show (h21 238 119) ≤ (h21 238 67) by omega) (show (h21 238 69) ≤ (h21 238 5) by omega) (show (h21 238 2) ≤ 12 * (h21 238 5) by omega) gs43 gp44 (fun h30 g30 u30 (p30_0 : 1 ≤ (h30 236 22)) y30_0 y30_1 => ?_)
            have F45 := F22.then (by decide +kernel) u30
            have b46 := gi_b (lo := 0) (hi := 6) g30 236 22 rfl
            refine wk_n ?_
            refine wi_aload_n (i := 0) (x := 236) (nx := 29) (r1 := 0) (r2 := 0) (r3 := 0) rfl rfl ?_
            refine wi_iload_n (i := 1) (e := 3) (nx := 30) (r1 := 0) (r2 := 0) (r3 := 0) rfl rfl ?_
            refine wr_V (k0 := 236) (rest := []) (as := [.ref 236, vi 3]) (nx := 33) (r1 := 279) (r2 := 1) (r3 := 11) rfl rfl rfl (of_decide_eq_true rfl) rfl rfl (by decide) rfl rfl (of_decide_eq_true rfl) (of_decide_eq_true rfl) ?_
            refine wi_aload_n (i := 0) (x := 236) (nx := 1) (r1 := 0) (r2 := 0) (r3 := 0) rfl rfl ?_
            refine wr_gr (k0 := 236) (x := 238) (nx := 4) (r1 := 11) (r2 := 13) (r3 := 0) rfl rfl (by decide) rfl ⟨rfl, rfl⟩ rfl ?_
            refine wi_bipush (n := 73) (nx := 6) (r1 := 0) (r2 := 0) (r3 := 0) rfl (by decide) ?_
            refine wr_ia (k0 := 238) (a := 73) (f := 73) (x := h 238 73) (nx := 7) (r1 := 0) (r2 := 0) (r3 := 0) rfl (by decide) rfl (by omega) (by omega) (by decide) ((u30 238 73 rfl).trans (u21 238 73 rfl)) ?_
            refine wi_istore_n (i := 2) (e := h 238 73) (lo2 := [(2, vi (h 238 73)), (0, .ref 236), (1, vi 3)]) (nx := 8) (r1 := 0) (r2 := 0) (r3 := 0) rfl rfl ?_
            refine wi_aload_n (i := 0) (x := 236) (nx := 9) (r1 := 0) (r2 := 0) (r3 := 0) rfl rfl ?_
            refine wi_iload_n (i := 1) (e := 3) (nx := 10) (r1 := 0) (r2 := 0) (r3 := 0) rfl rfl ?_
            refine wi_iload_n (i := 2) (e := h 238 73) (nx := 11) (r1 := 0) (r2 := 0) (r3 := 0) rfl rfl ?_
            refine wr_V (k0 := 236) (rest := []) (as := [.ref 236, vi 3, vi (h 238 73)]) (nx := 14) (r1 := 280) (r2 := 2) (r3 := 11) rfl rfl rfl (of_decide_eq_true rfl) rfl rfl (by decide) rfl rfl (of_decide_eq_true rfl) (of_decide_eq_true rfl) ?_
            refine wi_aload_n (i := 0) (x := 236) (nx := 1) (r1 := 0) (r2 := 0) (r3 := 0) rfl rfl ?_
            refine wr_gr (k0 := 236) (x := 238) (nx := 4) (r1 := 11) (r2 := 13) (r3 := 0) rfl rfl (by decide) rfl ⟨rfl, rfl⟩ rfl ?_
            refine wi_bipush (n := 74) (nx := 6) (r1 := 0) (r2 := 0) (r3 := 0) rfl (by decide) ?_
            refine wi_bipush (n := 6) (nx := 8) (r1 := 0) (r2 := 0) (r3 := 0) rfl (by decide) ?_
            refine wi_iload_n (i := 1) (e := 3) (nx := 9) (r1 := 0) (r2 := 0) (r3 := 0) rfl rfl ?_
            refine wr_mulL (18) (nx := 10) (r1 := 0) (r2 := 0) (r3 := 0) rfl (by decide) ?_
            refine wr_addL (92) (nx := 11) (r1 := 0) (r2 := 0) (r3 := 0) rfl (by decide) ?_
            refine wi_aload_n (i := 0) (x := 236) (nx := 12) (r1 := 0) (r2 := 0) (r3 := 0) rfl rfl ?_
            refine wr_gr (k0 := 236) (x := 238) (nx := 15) (r1 := 11) (r2 := 13) (r3 := 0) rfl rfl (by decide) rfl ⟨rfl, rfl⟩ rfl ?_
            refine wi_bipush (n := 98) (nx := 17) (r1 := 0) (r2 := 0) (r3 := 0) rfl (by decide) ?_
            refine wi_iload_n (i := 1) (e := 3) (nx := 18) (r1 := 0) (r2 := 0) (r3 := 0) rfl rfl ?_
            refine wr_addL (101) (nx := 19) (r1 := 0) (r2 := 0) (r3 := 0) rfl (by decide) ?_
            refine wr_ia (k0 := 238) (a := 101) (f := 101) (x := h 238 101) (nx := 20) (r1 := 0) (r2 := 0) (r3 := 0) rfl (by decide) rfl (by omega) (by omega) (by decide) ((u30 238 101 rfl).trans (u21 238 101 rfl)) ?_
            refine wr_add (nx := 21) (r1 := 0) (r2 := 0) (r3 := 0) rfl (fun e47 (fe47 : e47 = 92 + (h 238 101)) => ?_)
            refine wi_iload_n (i := 2) (e := h 238 73) (nx := 22) (r1 := 0) (r2 := 0) (r3 := 0) rfl rfl ?_
            obtain ⟨i48, ei48⟩ : ∃ q : Nat, e47 = (q : Int) := ⟨(e47).toNat, by omega⟩
            refine wr_is (k0 := 238) (a := e47) (f := i48) (x := h 238 73) (bl := 0) (bh := 11) (nx := 23) (r1 := 0) (r2 := 0) (r3 := 0) rfl (by decide) rfl (by omega) (by omega) (by decide) g30 (gi_rg 92 6 (fun _ => rfl) (by decide +kernel) (by omega)) (by omega) (fun h49 g49 w49 u49 => ?_)
            have F50 := F45.then rfl (FR.idx (p := 92) (q := 97) u49 (by omega))
            refine wi_aload_n (i := 0) (x := 236) (nx := 24) (r1 := 0) (r2 := 0) (r3 := 0) rfl rfl ?_
            refine wr_gr (k0 := 236) (x := 238) (nx := 27) (r1 := 11) (r2 := 13) (r3 := 0) rfl rfl (by decide) rfl ⟨rfl, rfl⟩ rfl ?_
            refine wi_bipush (n := 98) (nx := 29) (r1 := 0) (r2 := 0) (r3 := 0) rfl (by decide) ?_
            refine wi_iload_n (i := 1) (e := 3) (nx := 30) (r1 := 0) (r2 := 0) (r3 := 0) rfl rfl ?_
            refine wr_addL (101) (nx := 31) (r1 := 0) (r2 := 0) (r3 := 0) rfl (by decide) ?_
            refine wi_dup2 (nx := 32) (r1 := 0) (r2 := 0) (r3 := 0) rfl rfl rfl ?_
            refine wr_ia (k0 := 238) (a := 101) (f := 101) (x := h 238 101) (nx := 33) (r1 := 0) (r2 := 0) (r3 := 0) rfl (by decide) rfl (by omega) (by omega) (by decide) ((u49 238 101 (fn_i (by omega) fn_0)).trans ((u30 238 101 rfl).trans (u21 238 101 rfl))) ?_
            refine wi_iconst (n := 1) (nx := 34) (r1 := 0) (r2 := 0) (r3 := 0) rfl ?_
            refine wr_add (nx := 35) (r1 := 0) (r2 := 0) (r3 := 0) rfl (fun e51 (fe51 : e51 = (h 238 101) + 1) => ?_)
            refine wr_is (k0 := 238) (a := 101) (f := 101) (x := e51) (bl := 0) (bh := 6) (nx := 36) (r1 := 0) (r2 := 0) (r3 := 0) rfl (by decide) rfl (by omega) (by omega) (by decide) g49 rfl (by omega) (fun h52 g52 w52 u52 => ?_)
            have F53 := F50.then rfl u52
            refine wi_return (nx := 37) (r1 := 0) (r2 := 0) (r3 := 0) rfl rfl ?_
            refine wk_n ?_
            refine wi_aload_n (i := 0) (x := 236) (nx := 15) (r1 := 0) (r2 := 0) (r3 := 0) rfl rfl ?_
            refine wr_gr (k0 := 236) (x := 238) (nx := 18) (r1 := 11) (r2 := 13) (r3 := 0) rfl rfl (by decide) rfl ⟨rfl, rfl⟩ rfl ?_
            refine wi_bipush (n := 73) (nx := 20) (r1 := 0) (r2 := 0) (r3 := 0) rfl (by decide) ?_
            refine wi_dup2 (nx := 21) (r1 := 0) (r2 := 0) (r3 := 0) rfl rfl rfl ?_
            refine wr_ia (k0 := 238) (a := 73) (f := 73) (x := h 238 73) (nx := 22) (r1 := 0) (r2 := 0) (r3 := 0) rfl (by decide) rfl (by omega) (by omega) (by decide) ((u52 238 73 rfl).trans ((u49 238 73 (fn_i (by omega) fn_0)).trans ((u30 238 73 rfl).trans (u21 238 73 rfl)))) ?_
            refine wi_iconst (n := 1) (nx := 23) (r1 := 0) (r2 := 0) (r3 := 0) rfl ?_
            refine wr_add (nx := 24) (r1 := 0) (r2 := 0) (r3 := 0) rfl (fun e54 (fe54 : e54 = (h 238 73) + 1) => ?_)
            refine wr_is (k0 := 238) (a := 73) (f := 73) (x := e54) (bl := 0) (bh := 12) (nx := 25) (r1 := 0) (r2 := 0) (r3 := 0) rfl (by decide) rfl (by omega) (by omega) (by decide) g52 rfl (by omega) (fun h55 g55 w55 u55 => ?_)
            have F56 := F53.then rfl u55
            refine wi_iload_n (i := 2) (e := h 238 73) (nx := 26) (r1 := 0) (r2 := 0) (r3 := 0) rfl rfl ?_
            refine wi_ireturn (nx := 27) (r1 := 0) (r2 := 0) (r3 := 0) rfl rfl ?_
            refine wk_i ?_
            refine wi_ireturn (nx := 34) (r1 := 0) (r2 := 0) (r3 := 0) rfl rfl ?_
            have e57 : h55 238 98 = h 238 98 := ((u55 238 98 rfl).trans ((u52 238 98 rfl).trans ((u49 238 98 (fn_i (by omega) fn_0)).trans ((u30 238 98 rfl).trans (u21 238 98 rfl)))))
            have e58 : h55 238 99 = h 238 99 := ((u55 238 99 rfl).trans ((u52 238 99 rfl).trans ((u49 238 99 (fn_i (by omega) fn_0)).trans ((u30 238 99 rfl).trans (u21 238 99 rfl)))))
            have e59 : h55 238 100 = h 238 100 := ((u55 238 100 rfl).trans ((u52 238 100 rfl).trans ((u49 238 100 (fn_i (by omega) fn_0)).trans ((u30 238 100 rfl).trans (u21 238 100 rfl)))))
            have e60 : h55 238 101 = e51 := ((u55 238 101 rfl).trans w52)
            have e61 : h55 238 102 = h 238 102 := ((u55 238 102 rfl).trans ((u52 238 102 rfl).trans ((u49 238 102 (fn_i (by omega) fn_0)).trans ((u30 238 102 rfl).trans (u21 238 102 rfl)))))
            have e62 : h55 238 106 = h 238 106 := ((u55 238 106 rfl).trans ((u52 238 106 rfl).trans ((u49 238 106 (fn_i (by omega) fn_0)).trans ((u30 238 106 rfl).trans (u21 238 106 rfl)))))
            have e63 : h55 238 73 = e54 := w55
            have e64 : h55 238 2 = h 238 2 := ((u55 238 2 rfl).trans ((u52 238 2 rfl).trans ((u49 238 2 (fn_i (by omega) fn_0)).trans ((u30 238 2 rfl).trans (u21 238 2 rfl)))))
            have e65 : h55 238 119 = h 238 119 := ((u55 238 119 rfl).trans ((u52 238 119 rfl).trans ((u49 238 119 (fn_i (by omega) fn_0)).trans ((u30 238 119 rfl).trans (u21 238 119 rfl)))))
            have e66 : h55 238 67 = h 238 67 := ((u55 238 67 rfl).trans ((u52 238 67 rfl).trans ((u49 238 67 (fn_i (by omega) fn_0)).trans ((u30 238 67 rfl).trans (u21 238 67 rfl)))))
            have e67 : h55 238 69 = h 238 69 := ((u55 238 69 rfl).trans ((u52 238 69 rfl).trans ((u49 238 69 (fn_i (by omega) fn_0)).trans ((u30 238 69 rfl).trans (u21 238 69 rfl)))))
            have e68 : h55 238 5 = h 238 5 := ((u55 238 5 rfl).trans ((u52 238 5 rfl).trans ((u49 238 5 (fn_i (by omega) fn_0)).trans ((u30 238 5 rfl).trans (u21 238 5 rfl)))))
            have gs69 := GPS.fr (FR.idx (p := 92) (q := 97) u49 (by omega)) rfl y30_0
            have gs70 := GPS.fr u52 rfl gs69
            have gs71 := GPS.fr u55 rfl gs70
            have gp72 := GPH.fr u49 rfl y30_1
            have gp73 := GPH.fr u52 rfl gp72
            have gp74 := GPH.fr u55 rfl gp73
            exact k h55 (h 238 73) g55 F56 (by omega) (show (h55 238 98) + (h55 238 99) + (h55 238 100) + (h55 238 101) + (h55 238 102) + (h55 238 106) = (h55 238 73) by omega) (show (h55 238 73) ≤ (h55 238 2) by omega) (show (h55 238 119) ≤ (h55 238 67) by omega) (show (h55 238 69) ≤ (h55 238 5) by omega) (show (h55 238 2) ≤ 12 * (h55 238 5) by omega) gs71 gp74
-- method 211: Model.errorCode()I
set_option maxRecDepth 100000 in
set_option maxHeartbeats 100000000 in
theorem ct_211_236 {L : Nat} {xs : Nat → Int32} {d b c : Nat} {h : hp} {cr : Nat → Nat → Option Nat} {Q : hp_Q} (hcr : CR cr)  (g : GI h)    (k : ∀ (h2 : hp) (z0 : Int) , GI h2 → FR [(236, 236, some (0, 0))] h h2 → (-2147483648 ≤ z0 ∧ z0 ≤ 2147483647) → Q (.inl (some (vi z0))) (hp_w h2 cr) b c) : wp (md_xa (L, xs)) d 211 (0, [(0, .ref 236)], [], hp_w h cr, b, c) Q := by
  have F0 : FR [(236, 236, some (0, 0))] h h := FR.refl
  refine wi_aload_n (i := 0) (x := 236) (nx := 1) (r1 := 0) (r2 := 0) (r3 := 0) rfl rfl ?_
  refine wi_iconst (n := 0) (nx := 2) (r1 := 0) (r2 := 0) (r3 := 0) rfl ?_
  refine wr_pf0 (k0 := 236) (x := 0) (bl := 0) (bh := 2) (nx := 5) (r1 := 11) (r2 := 0) (r3 := 0) rfl (by decide) rfl ⟨rfl, rfl⟩ rfl rfl g rfl (by omega) (fun h1 g1 w1 u1 => ?_)
  have F2 := F0.then rfl u1
  refine wi_aload_n (i := 0) (x := 236) (nx := 6) (r1 := 0) (r2 := 0) (r3 := 0) rfl rfl ?_
  have b3 := gi_b (lo := -2147483648) (hi := 2147483647) g 236 10 rfl
  refine wr_gi0 (k0 := 236) (x := h 236 10) (nx := 9) (r1 := 11) (r2 := 10) (r3 := 0) rfl rfl (by decide) rfl ⟨rfl, rfl⟩ rfl (u1 236 10 rfl) ?_
  refine wi_ireturn (nx := 10) (r1 := 0) (r2 := 0) (r3 := 0) rfl rfl ?_
  exact k h1 (h 236 10) g1 F2 (by omega)
-- method 212: Model.errorPosition()I
set_option maxRecDepth 100000 in
set_option maxHeartbeats 100000000 in
theorem ct_212_236 {L : Nat} {xs : Nat → Int32} {d b c : Nat} {h : hp} {cr : Nat → Nat → Option Nat} {Q : hp_Q} (hcr : CR cr)  (g : GI h)    (k : ∀ (h2 : hp) (z0 : Int) , GI h2 → FR [(236, 236, some (0, 0))] h h2 → (-2147483648 ≤ z0 ∧ z0 ≤ 2147483647) → Q (.inl (some (vi z0))) (hp_w h2 cr) b c) : wp (md_xa (L, xs)) d 212 (0, [(0, .ref 236)], [], hp_w h cr, b, c) Q := by
  have F0 : FR [(236, 236, some (0, 0))] h h := FR.refl
  refine wi_aload_n (i := 0) (x := 236) (nx := 1) (r1 := 0) (r2 := 0) (r3 := 0) rfl rfl ?_
  refine wi_iconst (n := 0) (nx := 2) (r1 := 0) (r2 := 0) (r3 := 0) rfl ?_
  refine wr_pf0 (k0 := 236) (x := 0) (bl := 0) (bh := 2) (nx := 5) (r1 := 11) (r2 := 0) (r3 := 0) rfl (by decide) rfl ⟨rfl, rfl⟩ rfl rfl g rfl (by omega) (fun h1 g1 w1 u1 => ?_)
  have F2 := F0.then rfl u1
  refine wi_aload_n (i := 0) (x := 236) (nx := 6) (r1 := 0) (r2 := 0) (r3 := 0) rfl rfl ?_
  have b3 := gi_b (lo := -2147483648) (hi := 2147483647) g 236 11 rfl
  refine wr_gi0 (k0 := 236) (x := h 236 11) (nx := 9) (r1 := 11) (r2 := 11) (r3 := 0) rfl rfl (by decide) rfl ⟨rfl, rfl⟩ rfl (u1 236 11 rfl) ?_
  refine wi_ireturn (nx := 10) (r1 := 0) (r2 := 0) (r3 := 0) rfl rfl ?_
  exact k h1 (h 236 11) g1 F2 (by omega)
-- method 208: Model.four(I)V
set_option maxRecDepth 100000 in
set_option maxHeartbeats 100000000 in
theorem ct_208_236 {L : Nat} {xs : Nat → Int32} {d b c : Nat} {h : hp} {cr : Nat → Nat → Option Nat} {Q : hp_Q} (hcr : CR cr)  (g : GI h) (a0 : Int) (q0_ : -2147483648 ≤ a0 ∧ a0 ≤ 2147483647) (pp0 : h 236 2 ≤ 796) (k : ∀ (h2 : hp) , GI h2 → FR [(237, 237, none), (236, 236, some (2, 2))] h h2 → (h2 236 2 = h 236 2 + 4) → (AR1 (h 237) (h2 237) (h 236 2).toNat a0) → Q (.inl none) (hp_w h2 cr) b c) : wp (md_xa (L, xs)) d 208 (0, [(0, .ref 236), (1, vi a0)], [], hp_w h cr, b, c) Q := by
  have F0 : FR [(237, 237, none), (236, 236, some (2, 2))] h h := FR.refl
  have b1 := gi_b (lo := 0) (hi := 800) g 236 2 rfl
  refine wi_bipush (n := 24) (nx := 2) (r1 := 0) (r2 := 0) (r3 := 0) rfl (by decide) ?_
  refine wi_istore_n (i := 2) (e := 24) (lo2 := [(2, vi 24), (0, .ref 236), (1, vi a0)]) (nx := 3) (r1 := 0) (r2 := 0) (r3 := 0) rfl rfl ?_
  refine wi_iload_n (i := 2) (e := 24) (nx := 4) (r1 := 0) (r2 := 0) (r3 := 0) rfl rfl ?_
  refine wi_if (cd := .lt) (nx := 7) (r1 := 39) (r2 := 0) (r3 := 0) rfl (by omega) (fun (q2 : 24 < 0) => by exfalso; omega) (fun (q2 : ¬ (24 < 0)) => ?_)
  refine wi_aload_n (i := 0) (x := 236) (nx := 8) (r1 := 0) (r2 := 0) (r3 := 0) rfl rfl ?_
  refine wr_gr (k0 := 236) (x := 237) (nx := 11) (r1 := 11) (r2 := 1) (r3 := 0) rfl rfl (by decide) rfl ⟨rfl, rfl⟩ rfl ?_
  refine wi_aload_n (i := 0) (x := 236) (nx := 12) (r1 := 0) (r2 := 0) (r3 := 0) rfl rfl ?_
  refine wr_gi0 (k0 := 236) (x := h 236 2) (nx := 15) (r1 := 11) (r2 := 2) (r3 := 0) rfl rfl (by decide) rfl ⟨rfl, rfl⟩ rfl rfl ?_
  refine wi_iload_n (i := 1) (e := a0) (nx := 16) (r1 := 0) (r2 := 0) (r3 := 0) rfl rfl ?_
  refine wi_iload_n (i := 2) (e := 24) (nx := 17) (r1 := 0) (r2 := 0) (r3 := 0) rfl rfl ?_
  refine wr_ishrV (x := a0) (m := 16777216) 24 (by decide) (by decide) (by decide) (nx := 18) (r1 := 0) (r2 := 0) (r3 := 0) rfl (by omega) (fun e3 (fe3 : e3 = a0 / 16777216) => ?_)
  refine wi_sipush (n := 255) (nx := 21) (r1 := 0) (r2 := 0) (r3 := 0) rfl (by decide) ?_
  refine wr_iandB (x := e3) (nx := 22) (r1 := 0) (r2 := 0) (r3 := 0) rfl (by omega) (fun e4 (fe4 : e4 = e3 % 256) => ?_)
  obtain ⟨i5, ei5⟩ : ∃ q : Nat, (h 236 2) = (q : Int) := ⟨(h 236 2).toNat, by omega⟩
  refine wr_is (k0 := 237) (a := h 236 2) (f := i5) (x := e4) (bl := 0) (bh := 255) (nx := 23) (r1 := 0) (r2 := 0) (r3 := 0) rfl (by decide) rfl (by omega) (by omega) (by decide) g rfl (by omega) (fun h6 g6 w6 u6 => ?_)
  have F7 := F0.then rfl (FR.rngp (lo := 237) (hi := 237) u6 (by decide))
  refine wi_aload_n (i := 0) (x := 236) (nx := 24) (r1 := 0) (r2 := 0) (r3 := 0) rfl rfl ?_
  refine wi_dup (nx := 25) (r1 := 0) (r2 := 0) (r3 := 0) rfl rfl ?_
  refine wr_gi0 (k0 := 236) (x := h 236 2) (nx := 28) (r1 := 11) (r2 := 2) (r3 := 0) rfl rfl (by decide) rfl ⟨rfl, rfl⟩ rfl (u6 236 2 (fn_a (by omega) fn_0)) ?_
  refine wi_iconst (n := 1) (nx := 29) (r1 := 0) (r2 := 0) (r3 := 0) rfl ?_
  refine wr_add (nx := 30) (r1 := 0) (r2 := 0) (r3 := 0) rfl (fun e8 (fe8 : e8 = (h 236 2) + 1) => ?_)
  refine wr_pf0 (k0 := 236) (x := e8) (bl := 0) (bh := 800) (nx := 33) (r1 := 11) (r2 := 2) (r3 := 0) rfl (by decide) rfl ⟨rfl, rfl⟩ rfl rfl g6 rfl (by omega) (fun h9 g9 w9 u9 => ?_)
  have F10 := F7.then rfl u9
  refine wr_iincL (i := 2) (n := (-8)) (v := 24) (16) ([(2, vi 16), (0, .ref 236), (1, vi a0)]) (nx := 36) (r1 := 0) (r2 := 0) (r3 := 0) rfl rfl (by decide) rfl ?_
  refine wi_goto (nx := 39) (r1 := 3) (r2 := 0) (r3 := 0) rfl ?_
  refine wi_iload_n (i := 2) (e := 16) (nx := 4) (r1 := 0) (r2 := 0) (r3 := 0) rfl rfl ?_
  refine wi_if (cd := .lt) (nx := 7) (r1 := 39) (r2 := 0) (r3 := 0) rfl (by omega) (fun (q11 : 16 < 0) => by exfalso; omega) (fun (q11 : ¬ (16 < 0)) => ?_)
  refine wi_aload_n (i := 0) (x := 236) (nx := 8) (r1 := 0) (r2 := 0) (r3 := 0) rfl rfl ?_
  refine wr_gr (k0 := 236) (x := 237) (nx := 11) (r1 := 11) (r2 := 1) (r3 := 0) rfl rfl (by decide) rfl ⟨rfl, rfl⟩ rfl ?_
  refine wi_aload_n (i := 0) (x := 236) (nx := 12) (r1 := 0) (r2 := 0) (r3 := 0) rfl rfl ?_
  refine wr_gi0 (k0 := 236) (x := e8) (nx := 15) (r1 := 11) (r2 := 2) (r3 := 0) rfl rfl (by decide) rfl ⟨rfl, rfl⟩ rfl w9 ?_
  refine wi_iload_n (i := 1) (e := a0) (nx := 16) (r1 := 0) (r2 := 0) (r3 := 0) rfl rfl ?_
  refine wi_iload_n (i := 2) (e := 16) (nx := 17) (r1 := 0) (r2 := 0) (r3 := 0) rfl rfl ?_
  refine wr_ishrV (x := a0) (m := 65536) 16 (by decide) (by decide) (by decide) (nx := 18) (r1 := 0) (r2 := 0) (r3 := 0) rfl (by omega) (fun e12 (fe12 : e12 = a0 / 65536) => ?_)
  refine wi_sipush (n := 255) (nx := 21) (r1 := 0) (r2 := 0) (r3 := 0) rfl (by decide) ?_
  refine wr_iandB (x := e12) (nx := 22) (r1 := 0) (r2 := 0) (r3 := 0) rfl (by omega) (fun e13 (fe13 : e13 = e12 % 256) => ?_)
  obtain ⟨i14, ei14⟩ : ∃ q : Nat, e8 = (q : Int) := ⟨(e8).toNat, by omega⟩
  refine wr_is (k0 := 237) (a := e8) (f := i14) (x := e13) (bl := 0) (bh := 255) (nx := 23) (r1 := 0) (r2 := 0) (r3 := 0) rfl (by decide) rfl (by omega) (by omega) (by decide) g9 rfl (by omega) (fun h15 g15 w15 u15 => ?_)
  have F16 := F10.then rfl (FR.rngp (lo := 237) (hi := 237) u15 (by decide))
  refine wi_aload_n (i := 0) (x := 236) (nx := 24) (r1 := 0) (r2 := 0) (r3 := 0) rfl rfl ?_
  refine wi_dup (nx := 25) (r1 := 0) (r2 := 0) (r3 := 0) rfl rfl ?_
  refine wr_gi0 (k0 := 236) (x := e8) (nx := 28) (r1 := 11) (r2 := 2) (r3 := 0) rfl rfl (by decide) rfl ⟨rfl, rfl⟩ rfl ((u15 236 2 (fn_a (by omega) fn_0)).trans w9) ?_
  refine wi_iconst (n := 1) (nx := 29) (r1 := 0) (r2 := 0) (r3 := 0) rfl ?_
  refine wr_add (nx := 30) (r1 := 0) (r2 := 0) (r3 := 0) rfl (fun e17 (fe17 : e17 = e8 + 1) => ?_)
  refine wr_pf0 (k0 := 236) (x := e17) (bl := 0) (bh := 800) (nx := 33) (r1 := 11) (r2 := 2) (r3 := 0) rfl (by decide) rfl ⟨rfl, rfl⟩ rfl rfl g15 rfl (by omega) (fun h18 g18 w18 u18 => ?_)
  have F19 := F16.then rfl u18
  refine wr_iincL (i := 2) (n := (-8)) (v := 16) (8) ([(2, vi 8), (0, .ref 236), (1, vi a0)]) (nx := 36) (r1 := 0) (r2 := 0) (r3 := 0) rfl rfl (by decide) rfl ?_
  refine wi_goto (nx := 39) (r1 := 3) (r2 := 0) (r3 := 0) rfl ?_
  refine wi_iload_n (i := 2) (e := 8) (nx := 4) (r1 := 0) (r2 := 0) (r3 := 0) rfl rfl ?_
  refine wi_if (cd := .lt) (nx := 7) (r1 := 39) (r2 := 0) (r3 := 0) rfl (by omega) (fun (q20 : 8 < 0) => by exfalso; omega) (fun (q20 : ¬ (8 < 0)) => ?_)
  refine wi_aload_n (i := 0) (x := 236) (nx := 8) (r1 := 0) (r2 := 0) (r3 := 0) rfl rfl ?_
  refine wr_gr (k0 := 236) (x := 237) (nx := 11) (r1 := 11) (r2 := 1) (r3 := 0) rfl rfl (by decide) rfl ⟨rfl, rfl⟩ rfl ?_
  refine wi_aload_n (i := 0) (x := 236) (nx := 12) (r1 := 0) (r2 := 0) (r3 := 0) rfl rfl ?_
  refine wr_gi0 (k0 := 236) (x := e17) (nx := 15) (r1 := 11) (r2 := 2) (r3 := 0) rfl rfl (by decide) rfl ⟨rfl, rfl⟩ rfl w18 ?_
  refine wi_iload_n (i := 1) (e := a0) (nx := 16) (r1 := 0) (r2 := 0) (r3 := 0) rfl rfl ?_
  refine wi_iload_n (i := 2) (e := 8) (nx := 17) (r1 := 0) (r2 := 0) (r3 := 0) rfl rfl ?_
  refine wr_ishrV (x := a0) (m := 256) 8 (by decide) (by decide) (by decide) (nx := 18) (r1 := 0) (r2 := 0) (r3 := 0) rfl (by omega) (fun e21 (fe21 : e21 = a0 / 256) => ?_)
  refine wi_sipush (n := 255) (nx := 21) (r1 := 0) (r2 := 0) (r3 := 0) rfl (by decide) ?_
  refine wr_iandB (x := e21) (nx := 22) (r1 := 0) (r2 := 0) (r3 := 0) rfl (by omega) (fun e22 (fe22 : e22 = e21 % 256) => ?_)
  obtain ⟨i23, ei23⟩ : ∃ q : Nat, e17 = (q : Int) := ⟨(e17).toNat, by omega⟩
  refine wr_is (k0 := 237) (a := e17) (f := i23) (x := e22) (bl := 0) (bh := 255) (nx := 23) (r1 := 0) (r2 := 0) (r3 := 0) rfl (by decide) rfl (by omega) (by omega) (by decide) g18 rfl (by omega) (fun h24 g24 w24 u24 => ?_)
  have F25 := F19.then rfl (FR.rngp (lo := 237) (hi := 237) u24 (by decide))
  refine wi_aload_n (i := 0) (x := 236) (nx := 24) (r1 := 0) (r2 := 0) (r3 := 0) rfl rfl ?_
  refine wi_dup (nx := 25) (r1 := 0) (r2 := 0) (r3 := 0) rfl rfl ?_
  refine wr_gi0 (k0 := 236) (x := e17) (nx := 28) (r1 := 11) (r2 := 2) (r3 := 0) rfl rfl (by decide) rfl ⟨rfl, rfl⟩ rfl ((u24 236 2 (fn_a (by omega) fn_0)).trans w18) ?_
  refine wi_iconst (n := 1) (nx := 29) (r1 := 0) (r2 := 0) (r3 := 0) rfl ?_
  refine wr_add (nx := 30) (r1 := 0) (r2 := 0) (r3 := 0) rfl (fun e26 (fe26 : e26 = e17 + 1) => ?_)
  refine wr_pf0 (k0 := 236) (x := e26) (bl := 0) (bh := 800) (nx := 33) (r1 := 11) (r2 := 2) (r3 := 0) rfl (by decide) rfl ⟨rfl, rfl⟩ rfl rfl g24 rfl (by omega) (fun h27 g27 w27 u27 => ?_)
  have F28 := F25.then rfl u27
  refine wr_iincL (i := 2) (n := (-8)) (v := 8) (0) ([(2, vi 0), (0, .ref 236), (1, vi a0)]) (nx := 36) (r1 := 0) (r2 := 0) (r3 := 0) rfl rfl (by decide) rfl ?_
  refine wi_goto (nx := 39) (r1 := 3) (r2 := 0) (r3 := 0) rfl ?_
  refine wi_iload_n (i := 2) (e := 0) (nx := 4) (r1 := 0) (r2 := 0) (r3 := 0) rfl rfl ?_
  refine wi_if (cd := .lt) (nx := 7) (r1 := 39) (r2 := 0) (r3 := 0) rfl (by omega) (fun (q29 : 0 < 0) => by exfalso; omega) (fun (q29 : ¬ (0 < 0)) => ?_)
  refine wi_aload_n (i := 0) (x := 236) (nx := 8) (r1 := 0) (r2 := 0) (r3 := 0) rfl rfl ?_
  refine wr_gr (k0 := 236) (x := 237) (nx := 11) (r1 := 11) (r2 := 1) (r3 := 0) rfl rfl (by decide) rfl ⟨rfl, rfl⟩ rfl ?_
  refine wi_aload_n (i := 0) (x := 236) (nx := 12) (r1 := 0) (r2 := 0) (r3 := 0) rfl rfl ?_
  refine wr_gi0 (k0 := 236) (x := e26) (nx := 15) (r1 := 11) (r2 := 2) (r3 := 0) rfl rfl (by decide) rfl ⟨rfl, rfl⟩ rfl w27 ?_
  refine wi_iload_n (i := 1) (e := a0) (nx := 16) (r1 := 0) (r2 := 0) (r3 := 0) rfl rfl ?_
  refine wi_iload_n (i := 2) (e := 0) (nx := 17) (r1 := 0) (r2 := 0) (r3 := 0) rfl rfl ?_
  refine wr_ishrV (x := a0) (m := 1) 0 (by decide) (by decide) (by decide) (nx := 18) (r1 := 0) (r2 := 0) (r3 := 0) rfl (by omega) (fun e30 (fe30 : e30 = a0 / 1) => ?_)
  refine wi_sipush (n := 255) (nx := 21) (r1 := 0) (r2 := 0) (r3 := 0) rfl (by decide) ?_
  refine wr_iandB (x := e30) (nx := 22) (r1 := 0) (r2 := 0) (r3 := 0) rfl (by omega) (fun e31 (fe31 : e31 = e30 % 256) => ?_)
  obtain ⟨i32, ei32⟩ : ∃ q : Nat, e26 = (q : Int) := ⟨(e26).toNat, by omega⟩
  refine wr_is (k0 := 237) (a := e26) (f := i32) (x := e31) (bl := 0) (bh := 255) (nx := 23) (r1 := 0) (r2 := 0) (r3 := 0) rfl (by decide) rfl (by omega) (by omega) (by decide) g27 rfl (by omega) (fun h33 g33 w33 u33 => ?_)
  have F34 := F28.then rfl (FR.rngp (lo := 237) (hi := 237) u33 (by decide))
  refine wi_aload_n (i := 0) (x := 236) (nx := 24) (r1 := 0) (r2 := 0) (r3 := 0) rfl rfl ?_
  refine wi_dup (nx := 25) (r1 := 0) (r2 := 0) (r3 := 0) rfl rfl ?_
  refine wr_gi0 (k0 := 236) (x := e26) (nx := 28) (r1 := 11) (r2 := 2) (r3 := 0) rfl rfl (by decide) rfl ⟨rfl, rfl⟩ rfl ((u33 236 2 (fn_a (by omega) fn_0)).trans w27) ?_
  refine wi_iconst (n := 1) (nx := 29) (r1 := 0) (r2 := 0) (r3 := 0) rfl ?_
  refine wr_add (nx := 30) (r1 := 0) (r2 := 0) (r3 := 0) rfl (fun e35 (fe35 : e35 = e26 + 1) => ?_)
  refine wr_pf0 (k0 := 236) (x := e35) (bl := 0) (bh := 800) (nx := 33) (r1 := 11) (r2 := 2) (r3 := 0) rfl (by decide) rfl ⟨rfl, rfl⟩ rfl rfl g33 rfl (by omega) (fun h36 g36 w36 u36 => ?_)
  have F37 := F34.then rfl u36
  refine wr_iincL (i := 2) (n := (-8)) (v := 0) (-8) ([(2, vi (-8)), (0, .ref 236), (1, vi a0)]) (nx := 36) (r1 := 0) (r2 := 0) (r3 := 0) rfl rfl (by decide) rfl ?_
  refine wi_goto (nx := 39) (r1 := 3) (r2 := 0) (r3 := 0) rfl ?_
  refine wi_iload_n (i := 2) (e := -8) (nx := 4) (r1 := 0) (r2 := 0) (r3 := 0) rfl rfl ?_
  refine wi_if (cd := .lt) (nx := 7) (r1 := 39) (r2 := 0) (r3 := 0) rfl (by omega) (fun (q38 : (-8) < 0) => ?_) (fun (q38 : ¬ ((-8) < 0)) => by exfalso; omega)
  refine wi_return (nx := 40) (r1 := 0) (r2 := 0) (r3 := 0) rfl rfl ?_
  have e39 : h36 236 2 = e35 := w36
  exact k h36 g36 F37 (show (h36 236 2) = (h 236 2) + 4 by omega) ⟨(fun i e => ((u36 237 i (fn_a (by omega) fn_0)).trans ((u33 237 i (fn_i (by omega) fn_0)).trans ((u27 237 i (fn_a (by omega) fn_0)).trans ((u24 237 i (fn_i (by omega) fn_0)).trans ((u18 237 i (fn_a (by omega) fn_0)).trans ((u15 237 i (fn_i (by omega) fn_0)).trans ((u9 237 i (fn_a (by omega) fn_0)).trans (u6 237 i (fn_i (by omega) fn_0)))))))))), (by rw [show (h 236 2).toNat = i5 by omega, ((u36 237 i5 (fn_a (by omega) fn_0)).trans ((u33 237 i5 (fn_i (by omega) fn_0)).trans ((u27 237 i5 (fn_a (by omega) fn_0)).trans ((u24 237 i5 (fn_i (by omega) fn_0)).trans ((u18 237 i5 (fn_a (by omega) fn_0)).trans ((u15 237 i5 (fn_i (by omega) fn_0)).trans ((u9 237 i5 (fn_a (by omega) fn_0)).trans w6)))))))]; omega), (by rw [show (h 236 2).toNat + 1 = i14 by omega, ((u36 237 i14 (fn_a (by omega) fn_0)).trans ((u33 237 i14 (fn_i (by omega) fn_0)).trans ((u27 237 i14 (fn_a (by omega) fn_0)).trans ((u24 237 i14 (fn_i (by omega) fn_0)).trans ((u18 237 i14 (fn_a (by omega) fn_0)).trans w15)))))]; omega), (by rw [show (h 236 2).toNat + 2 = i23 by omega, ((u36 237 i23 (fn_a (by omega) fn_0)).trans ((u33 237 i23 (fn_i (by omega) fn_0)).trans ((u27 237 i23 (fn_a (by omega) fn_0)).trans w24)))]; omega), (by rw [show (h 236 2).toNat + 3 = i32 by omega, ((u36 237 i32 (fn_a (by omega) fn_0)).trans w33)]; omega)⟩
-- method 205: Model.feed(IIIII)I
set_option maxRecDepth 100000 in
set_option maxHeartbeats 100000000 in
theorem ct_205_236 {L : Nat} {xs : Nat → Int32} {d b c : Nat} {h : hp} {cr : Nat → Nat → Option Nat} {Q : hp_Q} (hcr : CR cr)  (g : GI h) (a0 : Int) (a1 : Int) (a2 : Int) (a3 : Int) (a4 : Int) (q0_ : -2147483648 ≤ a0 ∧ a0 ≤ 2147483647) (q1_ : -2147483648 ≤ a1 ∧ a1 ≤ 2147483647) (q2_ : -2147483648 ≤ a2 ∧ a2 ≤ 2147483647) (q3_ : -2147483648 ≤ a3 ∧ a3 ≤ 2147483647) (q4_ : -2147483648 ≤ a4 ∧ a4 ≤ 2147483647)  (k : ∀ (h2 : hp) (z0 : Int) , GI h2 → FR [(237, 237, none), (236, 236, some (0, 0)), (236, 236, some (2, 2))] h h2 → (0 ≤ z0 ∧ z0 ≤ 800) → ((h 236 2 ≤ 780 ∧ h2 236 0 = 0 ∧ h2 236 2 = h 236 2 + 20 ∧ z0 = h 236 2 + 20) ∨ (781 ≤ h 236 2 ∧ h2 236 0 = 1 ∧ h2 236 2 = h 236 2)) → (h 236 2 ≤ 780 → AR5 (h 237) (h2 237) (h 236 2).toNat a0 a1 a2 a3 a4) → (780 < h 236 2 → ∀ i : Nat, h2 237 i = h 237 i) → Q (.inl (some (vi z0))) (hp_w h2 cr) b c) : wp (md_xa (L, xs)) (d + 2) 205 (0, [(0, .ref 236), (1, vi a0), (2, vi a1), (3, vi a2), (4, vi a3), (5, vi a4)], [], hp_w h cr, b, c) Q := by
  have F0 : FR [(237, 237, none), (236, 236, some (0, 0)), (236, 236, some (2, 2))] h h := FR.refl
  refine wi_aload_n (i := 0) (x := 236) (nx := 1) (r1 := 0) (r2 := 0) (r3 := 0) rfl rfl ?_
  refine wi_aload_n (i := 0) (x := 236) (nx := 2) (r1 := 0) (r2 := 0) (r3 := 0) rfl rfl ?_
  have b1 := gi_b (lo := 0) (hi := 800) g 236 2 rfl
  refine wr_gi0 (k0 := 236) (x := h 236 2) (nx := 5) (r1 := 11) (r2 := 2) (r3 := 0) rfl rfl (by decide) rfl ⟨rfl, rfl⟩ rfl rfl ?_
  refine wi_bipush (n := 20) (nx := 7) (r1 := 0) (r2 := 0) (r3 := 0) rfl (by decide) ?_
  refine wr_add (nx := 8) (r1 := 0) (r2 := 0) (r3 := 0) rfl (fun e2 (fe2 : e2 = (h 236 2) + 20) => ?_)
  refine wi_sipush (n := 800) (nx := 11) (r1 := 0) (r2 := 0) (r3 := 0) rfl (by decide) ?_
  refine wi_icmp (cd := .gt) (nx := 14) (r1 := 18) (r2 := 0) (r3 := 0) rfl (by omega) (by omega) (fun (q3 : 800 < e2) => ?_) (fun (q3 : ¬ (800 < e2)) => ?_)
  ·
    refine wi_iconst (n := 0) (nx := 19) (r1 := 0) (r2 := 0) (r3 := 0) rfl ?_
    refine wr_V (k0 := 236) (rest := []) (as := [.ref 236, vi 0]) (nx := 22) (r1 := 206) (r2 := 1) (r3 := 11) rfl rfl rfl (of_decide_eq_true rfl) rfl rfl (by decide) rfl rfl (of_decide_eq_true rfl) (of_decide_eq_true rfl) ?_
    refine wi_aload_n (i := 0) (x := 236) (nx := 1) (r1 := 0) (r2 := 0) (r3 := 0) rfl rfl ?_
    refine wi_iload_n (i := 1) (e := 0) (nx := 2) (r1 := 0) (r2 := 0) (r3 := 0) rfl rfl ?_
    refine wi_if (cd := .ne) (nx := 5) (r1 := 9) (r2 := 0) (r3 := 0) rfl (by omega) (fun (q4 : 0 ≠ 0) => by exfalso; omega) (fun (q4 : ¬ (0 ≠ 0)) => ?_)
    refine wi_iconst (n := 1) (nx := 6) (r1 := 0) (r2 := 0) (r3 := 0) rfl ?_
    refine wi_goto (nx := 9) (r1 := 10) (r2 := 0) (r3 := 0) rfl ?_
    refine wi_S (rest := [.ref 236]) (as := [vi 1]) (nx := 13) (r1 := 207) (r2 := 17) (r3 := 0) rfl rfl rfl (of_decide_eq_true rfl) rfl rfl (of_decide_eq_true rfl) (of_decide_eq_true rfl) ?_
    refine wi_iload_n (i := 0) (e := 1) (nx := 1) (r1 := 0) (r2 := 0) (r3 := 0) rfl rfl ?_
    refine wi_if (cd := .eq) (nx := 4) (r1 := 8) (r2 := 0) (r3 := 0) rfl (by omega) (fun (q5 : 1 = 0) => by exfalso; omega) (fun (q5 : ¬ (1 = 0)) => ?_)
    refine wi_iconst (n := 1) (nx := 5) (r1 := 0) (r2 := 0) (r3 := 0) rfl ?_
    refine wi_goto (nx := 8) (r1 := 9) (r2 := 0) (r3 := 0) rfl ?_
    refine wi_ireturn (nx := 10) (r1 := 0) (r2 := 0) (r3 := 0) rfl rfl ?_
    refine wk_i ?_
    refine wr_pf0 (k0 := 236) (x := 1) (bl := 0) (bh := 2) (nx := 16) (r1 := 11) (r2 := 0) (r3 := 0) rfl (by decide) rfl ⟨rfl, rfl⟩ rfl rfl g rfl (by omega) (fun h6 g6 w6 u6 => ?_)
    have F7 := F0.then rfl u6
    refine wi_iload_n (i := 1) (e := 0) (nx := 17) (r1 := 0) (r2 := 0) (r3 := 0) rfl rfl ?_
    refine wi_zreturn (nx := 18) (r1 := 0) (r2 := 0) (r3 := 0) rfl rfl (by omega) ?_
    refine wk_i ?_
    refine wi_if (cd := .ne) (nx := 25) (r1 := 27) (r2 := 0) (r3 := 0) rfl (by omega) (fun (q8 : 0 ≠ 0) => by exfalso; omega) (fun (q8 : ¬ (0 ≠ 0)) => ?_)
    refine wi_iconst (n := 0) (nx := 26) (r1 := 0) (r2 := 0) (r3 := 0) rfl ?_
    refine wi_ireturn (nx := 27) (r1 := 0) (r2 := 0) (r3 := 0) rfl rfl ?_
    have e9 : h6 236 0 = 1 := w6
    have e10 : h6 236 2 = h 236 2 := (u6 236 2 rfl)
    exact k h6 0 g6 F7 (by omega) (show ((h 236 2) ≤ 780 ∧ (h6 236 0) = 0 ∧ (h6 236 2) = (h 236 2) + 20 ∧ 0 = (h 236 2) + 20) ∨ (781 ≤ (h 236 2) ∧ (h6 236 0) = 1 ∧ (h6 236 2) = (h 236 2)) by omega) (fun e => absurd e (by omega)) (fun _ i => (u6 237 i (fn_a (by omega) fn_0)))
  ·
    refine wi_iconst (n := 1) (nx := 15) (r1 := 0) (r2 := 0) (r3 := 0) rfl ?_
    refine wi_goto (nx := 18) (r1 := 19) (r2 := 0) (r3 := 0) rfl ?_
    refine wr_V (k0 := 236) (rest := []) (as := [.ref 236, vi 1]) (nx := 22) (r1 := 206) (r2 := 1) (r3 := 11) rfl rfl rfl (of_decide_eq_true rfl) rfl rfl (by decide) rfl rfl (of_decide_eq_true rfl) (of_decide_eq_true rfl) ?_
    refine wi_aload_n (i := 0) (x := 236) (nx := 1) (r1 := 0) (r2 := 0) (r3 := 0) rfl rfl ?_
    refine wi_iload_n (i := 1) (e := 1) (nx := 2) (r1 := 0) (r2 := 0) (r3 := 0) rfl rfl ?_
    refine wi_if (cd := .ne) (nx := 5) (r1 := 9) (r2 := 0) (r3 := 0) rfl (by omega) (fun (q4 : 1 ≠ 0) => ?_) (fun (q4 : ¬ (1 ≠ 0)) => by exfalso; omega)
    refine wi_iconst (n := 0) (nx := 10) (r1 := 0) (r2 := 0) (r3 := 0) rfl ?_
    refine wi_S (rest := [.ref 236]) (as := [vi 0]) (nx := 13) (r1 := 207) (r2 := 17) (r3 := 0) rfl rfl rfl (of_decide_eq_true rfl) rfl rfl (of_decide_eq_true rfl) (of_decide_eq_true rfl) ?_
    refine wi_iload_n (i := 0) (e := 0) (nx := 1) (r1 := 0) (r2 := 0) (r3 := 0) rfl rfl ?_
    refine wi_if (cd := .eq) (nx := 4) (r1 := 8) (r2 := 0) (r3 := 0) rfl (by omega) (fun (q5 : 0 = 0) => ?_) (fun (q5 : ¬ (0 = 0)) => by exfalso; omega)
    refine wi_iconst (n := 0) (nx := 9) (r1 := 0) (r2 := 0) (r3 := 0) rfl ?_
    refine wi_ireturn (nx := 10) (r1 := 0) (r2 := 0) (r3 := 0) rfl rfl ?_
    refine wk_i ?_
    refine wr_pf0 (k0 := 236) (x := 0) (bl := 0) (bh := 2) (nx := 16) (r1 := 11) (r2 := 0) (r3 := 0) rfl (by decide) rfl ⟨rfl, rfl⟩ rfl rfl g rfl (by omega) (fun h6 g6 w6 u6 => ?_)
    have F7 := F0.then rfl u6
    refine wi_iload_n (i := 1) (e := 1) (nx := 17) (r1 := 0) (r2 := 0) (r3 := 0) rfl rfl ?_
    refine wi_zreturn (nx := 18) (r1 := 0) (r2 := 0) (r3 := 0) rfl rfl (by omega) ?_
    refine wk_i ?_
    refine wi_if (cd := .ne) (nx := 25) (r1 := 27) (r2 := 0) (r3 := 0) rfl (by omega) (fun (q8 : 1 ≠ 0) => ?_) (fun (q8 : ¬ (1 ≠ 0)) => by exfalso; omega)
    refine wi_aload_n (i := 0) (x := 236) (nx := 28) (r1 := 0) (r2 := 0) (r3 := 0) rfl rfl ?_
    refine wi_iload_n (i := 1) (e := a0) (nx := 29) (r1 := 0) (r2 := 0) (r3 := 0) rfl rfl ?_
    refine wr_V (k0 := 236) (rest := []) (as := [.ref 236, vi a0]) (nx := 32) (r1 := 208) (r2 := 1) (r3 := 11) rfl rfl rfl (of_decide_eq_true rfl) rfl rfl (by decide) rfl rfl (of_decide_eq_true rfl) (of_decide_eq_true rfl) ?_
    have e10 : h6 236 2 = h 236 2 := (u6 236 2 rfl)
    refine ct_208_236 hcr  g6 a0 (by omega) (show (h6 236 2) ≤ 796 by omega) (fun h9 g9 u9 (p9_0 : (h9 236 2) = (h6 236 2) + 4) y9_0 => ?_)
    have F11 := F7.then (by decide +kernel) u9
    have b12 := gi_b (lo := 0) (hi := 800) g9 236 2 rfl
    refine wk_n ?_
    refine wi_aload_n (i := 0) (x := 236) (nx := 33) (r1 := 0) (r2 := 0) (r3 := 0) rfl rfl ?_
    refine wi_iload_n (i := 2) (e := a1) (nx := 34) (r1 := 0) (r2 := 0) (r3 := 0) rfl rfl ?_
    refine wr_V (k0 := 236) (rest := []) (as := [.ref 236, vi a1]) (nx := 37) (r1 := 208) (r2 := 1) (r3 := 11) rfl rfl rfl (of_decide_eq_true rfl) rfl rfl (by decide) rfl rfl (of_decide_eq_true rfl) (of_decide_eq_true rfl) ?_
    refine ct_208_236 hcr  g9 a1 (by omega) (show (h9 236 2) ≤ 796 by omega) (fun h13 g13 u13 (p13_0 : (h13 236 2) = (h9 236 2) + 4) y13_0 => ?_)
    have F14 := F11.then (by decide +kernel) u13
    have b15 := gi_b (lo := 0) (hi := 800) g13 236 2 rfl
    refine wk_n ?_
    refine wi_aload_n (i := 0) (x := 236) (nx := 38) (r1 := 0) (r2 := 0) (r3 := 0) rfl rfl ?_
    refine wi_iload_n (i := 3) (e := a2) (nx := 39) (r1 := 0) (r2 := 0) (r3 := 0) rfl rfl ?_
    refine wr_V (k0 := 236) (rest := []) (as := [.ref 236, vi a2]) (nx := 42) (r1 := 208) (r2 := 1) (r3 := 11) rfl rfl rfl (of_decide_eq_true rfl) rfl rfl (by decide) rfl rfl (of_decide_eq_true rfl) (of_decide_eq_true rfl) ?_
    refine ct_208_236 hcr  g13 a2 (by omega) (show (h13 236 2) ≤ 796 by omega) (fun h16 g16 u16 (p16_0 : (h16 236 2) = (h13 236 2) + 4) y16_0 => ?_)
    have F17 := F14.then (by decide +kernel) u16
    have b18 := gi_b (lo := 0) (hi := 800) g16 236 2 rfl
    refine wk_n ?_
    refine wi_aload_n (i := 0) (x := 236) (nx := 43) (r1 := 0) (r2 := 0) (r3 := 0) rfl rfl ?_
    refine wi_iload (i := 4) (e := a3) (nx := 45) (r1 := 0) (r2 := 0) (r3 := 0) rfl rfl ?_
    refine wr_V (k0 := 236) (rest := []) (as := [.ref 236, vi a3]) (nx := 48) (r1 := 208) (r2 := 1) (r3 := 11) rfl rfl rfl (of_decide_eq_true rfl) rfl rfl (by decide) rfl rfl (of_decide_eq_true rfl) (of_decide_eq_true rfl) ?_
    refine ct_208_236 hcr  g16 a3 (by omega) (show (h16 236 2) ≤ 796 by omega) (fun h19 g19 u19 (p19_0 : (h19 236 2) = (h16 236 2) + 4) y19_0 => ?_)
    have F20 := F17.then (by decide +kernel) u19
    have b21 := gi_b (lo := 0) (hi := 800) g19 236 2 rfl
    refine wk_n ?_
    refine wi_aload_n (i := 0) (x := 236) (nx := 49) (r1 := 0) (r2 := 0) (r3 := 0) rfl rfl ?_
    refine wi_iload (i := 5) (e := a4) (nx := 51) (r1 := 0) (r2 := 0) (r3 := 0) rfl rfl ?_
    refine wr_V (k0 := 236) (rest := []) (as := [.ref 236, vi a4]) (nx := 54) (r1 := 208) (r2 := 1) (r3 := 11) rfl rfl rfl (of_decide_eq_true rfl) rfl rfl (by decide) rfl rfl (of_decide_eq_true rfl) (of_decide_eq_true rfl) ?_
    refine ct_208_236 hcr  g19 a4 (by omega) (show (h19 236 2) ≤ 796 by omega) (fun h22 g22 u22 (p22_0 : (h22 236 2) = (h19 236 2) + 4) y22_0 => ?_)
    have F23 := F20.then (by decide +kernel) u22
    have b24 := gi_b (lo := 0) (hi := 800) g22 236 2 rfl
    refine wk_n ?_
    refine wi_aload_n (i := 0) (x := 236) (nx := 55) (r1 := 0) (r2 := 0) (r3 := 0) rfl rfl ?_
    refine wr_gi0 (k0 := 236) (x := h22 236 2) (nx := 58) (r1 := 11) (r2 := 2) (r3 := 0) rfl rfl (by decide) rfl ⟨rfl, rfl⟩ rfl rfl ?_
    refine wi_ireturn (nx := 59) (r1 := 0) (r2 := 0) (r3 := 0) rfl rfl ?_
    have e25 : h22 236 0 = 0 := ((u22 236 0 rfl).trans ((u19 236 0 rfl).trans ((u16 236 0 rfl).trans ((u13 236 0 rfl).trans ((u9 236 0 rfl).trans w6)))))
    exact k h22 (h22 236 2) g22 F23 (by omega) (show ((h 236 2) ≤ 780 ∧ (h22 236 0) = 0 ∧ (h22 236 2) = (h 236 2) + 20 ∧ (h22 236 2) = (h 236 2) + 20) ∨ (781 ≤ (h 236 2) ∧ (h22 236 0) = 1 ∧ (h22 236 2) = (h 236 2)) by omega) (fun _ => ⟨h9 237, h13 237, h16 237, h19 237, (by rw [← (funext (fun i => (u6 237 i (fn_a (by omega) fn_0))) : h6 237 = h 237), show (h 236 2).toNat = (h6 236 2).toNat by omega]; exact y9_0), (by rw [show (h 236 2).toNat + 4 = (h9 236 2).toNat by omega]; exact y13_0), (by rw [show (h 236 2).toNat + 8 = (h13 236 2).toNat by omega]; exact y16_0), (by rw [show (h 236 2).toNat + 12 = (h16 236 2).toNat by omega]; exact y19_0), (by rw [show (h 236 2).toNat + 16 = (h19 236 2).toNat by omega]; exact y22_0)⟩) (fun e => absurd e (by omega))
-- method 268: Model.hose()I
set_option maxRecDepth 100000 in
set_option maxHeartbeats 100000000 in
theorem ct_268_236 {L : Nat} {xs : Nat → Int32} {d b c : Nat} {h : hp} {cr : Nat → Nat → Option Nat} {Q : hp_Q} (hcr : CR cr)  (g : GI h)    (k : ∀ (h2 : hp) (z0 : Int) , GI h2 → FR [(236, 236, some (0, 0))] h h2 → (-1 ≤ z0 ∧ z0 ≤ 4) → Q (.inl (some (vi z0))) (hp_w h2 cr) b c) : wp (md_xa (L, xs)) (d + 1) 268 (0, [(0, .ref 236)], [], hp_w h cr, b, c) Q := by
  have F0 : FR [(236, 236, some (0, 0))] h h := FR.refl
  refine wi_aload_n (i := 0) (x := 236) (nx := 1) (r1 := 0) (r2 := 0) (r3 := 0) rfl rfl ?_
  refine wi_bipush (n := 68) (nx := 3) (r1 := 0) (r2 := 0) (r3 := 0) rfl (by decide) ?_
  refine wr_V (k0 := 236) (rest := []) (as := [.ref 236, vi 68]) (nx := 6) (r1 := 269) (r2 := 1) (r3 := 11) rfl rfl rfl (of_decide_eq_true rfl) rfl rfl (by decide) rfl rfl (of_decide_eq_true rfl) (of_decide_eq_true rfl) ?_
  refine wi_aload_n (i := 0) (x := 236) (nx := 1) (r1 := 0) (r2 := 0) (r3 := 0) rfl rfl ?_
  refine wi_iconst (n := 0) (nx := 2) (r1 := 0) (r2 := 0) (r3 := 0) rfl ?_
  refine wr_pf0 (k0 := 236) (x := 0) (bl := 0) (bh := 2) (nx := 5) (r1 := 11) (r2 := 0) (r3 := 0) rfl (by decide) rfl ⟨rfl, rfl⟩ rfl rfl g rfl (by omega) (fun h1 g1 w1 u1 => ?_)
  have F2 := F0.then rfl u1
  refine wi_aload_n (i := 0) (x := 236) (nx := 6) (r1 := 0) (r2 := 0) (r3 := 0) rfl rfl ?_
  refine wr_gr (k0 := 236) (x := 238) (nx := 9) (r1 := 11) (r2 := 13) (r3 := 0) rfl rfl (by decide) rfl ⟨rfl, rfl⟩ rfl ?_
  refine wi_iload_n (i := 1) (e := 68) (nx := 10) (r1 := 0) (r2 := 0) (r3 := 0) rfl rfl ?_
  have b3 := gi_b (lo := -1) (hi := 4) g 238 68 rfl
  refine wr_ia (k0 := 238) (a := 68) (f := 68) (x := h 238 68) (nx := 11) (r1 := 0) (r2 := 0) (r3 := 0) rfl (by decide) rfl (by omega) (by omega) (by decide) (u1 238 68 rfl) ?_
  refine wi_ireturn (nx := 12) (r1 := 0) (r2 := 0) (r3 := 0) rfl rfl ?_
  refine wk_i ?_
  refine wi_ireturn (nx := 7) (r1 := 0) (r2 := 0) (r3 := 0) rfl rfl ?_
  exact k h1 (h 238 68) g1 F2 (by omega)
-- method 257: Model.inLane(II)I
set_option maxRecDepth 100000 in
set_option maxHeartbeats 100000000 in
theorem ct_257_236 {L : Nat} {xs : Nat → Int32} {d b c : Nat} {h : hp} {cr : Nat → Nat → Option Nat} {Q : hp_Q} (hcr : CR cr)  (g : GI h) (a0 : Int) (a1 : Int) (q0_ : -2147483648 ≤ a0 ∧ a0 ≤ 2147483647) (q1_ : -2147483648 ≤ a1 ∧ a1 ≤ 2147483647)  (k : ∀ (h2 : hp) (z0 : Int) , GI h2 → FR [(236, 236, some (0, 0))] h h2 → (-1 ≤ z0 ∧ z0 ≤ 11) → Q (.inl (some (vi z0))) (hp_w h2 cr) b c) : wp (md_xa (L, xs)) (d + 2) 257 (0, [(0, .ref 236), (1, vi a0), (2, vi a1)], [], hp_w h cr, b, c) Q := by
  have F0 : FR [(236, 236, some (0, 0))] h h := FR.refl
  refine wi_aload_n (i := 0) (x := 236) (nx := 1) (r1 := 0) (r2 := 0) (r3 := 0) rfl rfl ?_
  refine wi_aload_n (i := 0) (x := 236) (nx := 2) (r1 := 0) (r2 := 0) (r3 := 0) rfl rfl ?_
  refine wi_iload_n (i := 1) (e := a0) (nx := 3) (r1 := 0) (r2 := 0) (r3 := 0) rfl rfl ?_
  refine wr_V (k0 := 236) (rest := [.ref 236]) (as := [.ref 236, vi a0]) (nx := 6) (r1 := 242) (r2 := 1) (r3 := 11) rfl rfl rfl (of_decide_eq_true rfl) rfl rfl (by decide) rfl rfl (of_decide_eq_true rfl) (of_decide_eq_true rfl) ?_
  refine wi_iload_n (i := 1) (e := a0) (nx := 1) (r1 := 0) (r2 := 0) (r3 := 0) rfl rfl ?_
  refine wi_i2l (nx := 2) (r1 := 0) (r2 := 0) (r3 := 0) rfl (by omega) ?_
  refine wi_lconst (n := 0) (e := 0) (nx := 3) (r1 := 0) (r2 := 0) (r3 := 0) rfl (by decide) ?_
  refine wi_aload_n (i := 0) (x := 236) (nx := 4) (r1 := 0) (r2 := 0) (r3 := 0) rfl rfl ?_
  refine wr_gr (k0 := 236) (x := 238) (nx := 7) (r1 := 11) (r2 := 13) (r3 := 0) rfl rfl (by decide) rfl ⟨rfl, rfl⟩ rfl ?_
  refine wi_iconst (n := 1) (nx := 8) (r1 := 0) (r2 := 0) (r3 := 0) rfl ?_
  have b1 := gi_b (lo := 0) (hi := 4) g 238 1 rfl
  refine wr_ia (k0 := 238) (a := 1) (f := 1) (x := h 238 1) (nx := 9) (r1 := 0) (r2 := 0) (r3 := 0) rfl (by decide) rfl (by omega) (by omega) (by decide) rfl ?_
  refine wi_iconst (n := 1) (nx := 10) (r1 := 0) (r2 := 0) (r3 := 0) rfl ?_
  refine wr_sub (nx := 11) (r1 := 0) (r2 := 0) (r3 := 0) rfl (fun e2 (fe2 : e2 = (h 238 1) - 1) => ?_)
  refine wi_i2l (nx := 12) (r1 := 0) (r2 := 0) (r3 := 0) rfl (by omega) ?_
  refine wi_S (rest := []) (as := [vl a0, vl 0, vl e2]) (nx := 15) (r1 := 210) (r2 := 19) (r3 := 0) rfl rfl rfl (of_decide_eq_true rfl) rfl rfl (of_decide_eq_true rfl) (of_decide_eq_true rfl) ?_
  refine wi_lload_n (i := 0) (e := a0) (nx := 1) (r1 := 0) (r2 := 0) (r3 := 0) rfl rfl ?_
  refine wi_lload_n (i := 2) (e := 0) (nx := 2) (r1 := 0) (r2 := 0) (r3 := 0) rfl rfl ?_
  refine wi_lcmp (a := a0) (e := 0) (nx := 3) (r1 := 0) (r2 := 0) (r3 := 0) rfl (by omega) (by omega) (fun r3 (fr3 : (r3 = -1 ∧ a0 < 0) ∨ (r3 = 0 ∧ a0 = 0) ∨ (r3 = 1 ∧ 0 < a0)) => ?_)
  refine wi_if (cd := .lt) (nx := 6) (r1 := 17) (r2 := 0) (r3 := 0) rfl (by omega) (fun (q4 : r3 < 0) => ?_) (fun (q4 : ¬ (r3 < 0)) => ?_)
  ·
    refine wi_iconst (n := 0) (nx := 18) (r1 := 0) (r2 := 0) (r3 := 0) rfl ?_
    refine wi_zreturn (nx := 19) (r1 := 0) (r2 := 0) (r3 := 0) rfl rfl (by omega) ?_
    refine wk_i ?_
    refine wi_zreturn (nx := 16) (r1 := 0) (r2 := 0) (r3 := 0) rfl rfl (by omega) ?_
    refine wk_i ?_
    refine wr_V (k0 := 236) (rest := []) (as := [.ref 236, vi 0]) (nx := 9) (r1 := 206) (r2 := 1) (r3 := 11) rfl rfl rfl (of_decide_eq_true rfl) rfl rfl (by decide) rfl rfl (of_decide_eq_true rfl) (of_decide_eq_true rfl) ?_
    refine wi_aload_n (i := 0) (x := 236) (nx := 1) (r1 := 0) (r2 := 0) (r3 := 0) rfl rfl ?_
    refine wi_iload_n (i := 1) (e := 0) (nx := 2) (r1 := 0) (r2 := 0) (r3 := 0) rfl rfl ?_
    refine wi_if (cd := .ne) (nx := 5) (r1 := 9) (r2 := 0) (r3 := 0) rfl (by omega) (fun (q5 : 0 ≠ 0) => by exfalso; omega) (fun (q5 : ¬ (0 ≠ 0)) => ?_)
    refine wi_iconst (n := 1) (nx := 6) (r1 := 0) (r2 := 0) (r3 := 0) rfl ?_
    refine wi_goto (nx := 9) (r1 := 10) (r2 := 0) (r3 := 0) rfl ?_
    refine wi_S (rest := [.ref 236]) (as := [vi 1]) (nx := 13) (r1 := 207) (r2 := 17) (r3 := 0) rfl rfl rfl (of_decide_eq_true rfl) rfl rfl (of_decide_eq_true rfl) (of_decide_eq_true rfl) ?_
    refine wi_iload_n (i := 0) (e := 1) (nx := 1) (r1 := 0) (r2 := 0) (r3 := 0) rfl rfl ?_
    refine wi_if (cd := .eq) (nx := 4) (r1 := 8) (r2 := 0) (r3 := 0) rfl (by omega) (fun (q6 : 1 = 0) => by exfalso; omega) (fun (q6 : ¬ (1 = 0)) => ?_)
    refine wi_iconst (n := 1) (nx := 5) (r1 := 0) (r2 := 0) (r3 := 0) rfl ?_
    refine wi_goto (nx := 8) (r1 := 9) (r2 := 0) (r3 := 0) rfl ?_
    refine wi_ireturn (nx := 10) (r1 := 0) (r2 := 0) (r3 := 0) rfl rfl ?_
    refine wk_i ?_
    refine wr_pf0 (k0 := 236) (x := 1) (bl := 0) (bh := 2) (nx := 16) (r1 := 11) (r2 := 0) (r3 := 0) rfl (by decide) rfl ⟨rfl, rfl⟩ rfl rfl g rfl (by omega) (fun h7 g7 w7 u7 => ?_)
    have F8 := F0.then rfl u7
    refine wi_iload_n (i := 1) (e := 0) (nx := 17) (r1 := 0) (r2 := 0) (r3 := 0) rfl rfl ?_
    refine wi_zreturn (nx := 18) (r1 := 0) (r2 := 0) (r3 := 0) rfl rfl (by omega) ?_
    refine wk_i ?_
    refine wi_if (cd := .ne) (nx := 12) (r1 := 14) (r2 := 0) (r3 := 0) rfl (by omega) (fun (q9 : 0 ≠ 0) => by exfalso; omega) (fun (q9 : ¬ (0 ≠ 0)) => ?_)
    refine wi_iconst (n := 0) (nx := 13) (r1 := 0) (r2 := 0) (r3 := 0) rfl ?_
    refine wi_ireturn (nx := 14) (r1 := 0) (r2 := 0) (r3 := 0) rfl rfl ?_
    exact k h7 0 g7 F8 (by omega)
  ·
    refine wi_lload_n (i := 0) (e := a0) (nx := 7) (r1 := 0) (r2 := 0) (r3 := 0) rfl rfl ?_
    refine wi_lload (i := 4) (e := e2) (nx := 9) (r1 := 0) (r2 := 0) (r3 := 0) rfl rfl ?_
    refine wi_lcmp (a := a0) (e := e2) (nx := 10) (r1 := 0) (r2 := 0) (r3 := 0) rfl (by omega) (by omega) (fun r5 (fr5 : (r5 = -1 ∧ a0 < e2) ∨ (r5 = 0 ∧ a0 = e2) ∨ (r5 = 1 ∧ e2 < a0)) => ?_)
    refine wi_if (cd := .gt) (nx := 13) (r1 := 17) (r2 := 0) (r3 := 0) rfl (by omega) (fun (q6 : 0 < r5) => ?_) (fun (q6 : ¬ (0 < r5)) => ?_)
    ·
      refine wi_iconst (n := 0) (nx := 18) (r1 := 0) (r2 := 0) (r3 := 0) rfl ?_
      refine wi_zreturn (nx := 19) (r1 := 0) (r2 := 0) (r3 := 0) rfl rfl (by omega) ?_
      refine wk_i ?_
      refine wi_zreturn (nx := 16) (r1 := 0) (r2 := 0) (r3 := 0) rfl rfl (by omega) ?_
      refine wk_i ?_
      refine wr_V (k0 := 236) (rest := []) (as := [.ref 236, vi 0]) (nx := 9) (r1 := 206) (r2 := 1) (r3 := 11) rfl rfl rfl (of_decide_eq_true rfl) rfl rfl (by decide) rfl rfl (of_decide_eq_true rfl) (of_decide_eq_true rfl) ?_
      refine wi_aload_n (i := 0) (x := 236) (nx := 1) (r1 := 0) (r2 := 0) (r3 := 0) rfl rfl ?_
      refine wi_iload_n (i := 1) (e := 0) (nx := 2) (r1 := 0) (r2 := 0) (r3 := 0) rfl rfl ?_
      refine wi_if (cd := .ne) (nx := 5) (r1 := 9) (r2 := 0) (r3 := 0) rfl (by omega) (fun (q7 : 0 ≠ 0) => by exfalso; omega) (fun (q7 : ¬ (0 ≠ 0)) => ?_)
      refine wi_iconst (n := 1) (nx := 6) (r1 := 0) (r2 := 0) (r3 := 0) rfl ?_
      refine wi_goto (nx := 9) (r1 := 10) (r2 := 0) (r3 := 0) rfl ?_
      refine wi_S (rest := [.ref 236]) (as := [vi 1]) (nx := 13) (r1 := 207) (r2 := 17) (r3 := 0) rfl rfl rfl (of_decide_eq_true rfl) rfl rfl (of_decide_eq_true rfl) (of_decide_eq_true rfl) ?_
      refine wi_iload_n (i := 0) (e := 1) (nx := 1) (r1 := 0) (r2 := 0) (r3 := 0) rfl rfl ?_
      refine wi_if (cd := .eq) (nx := 4) (r1 := 8) (r2 := 0) (r3 := 0) rfl (by omega) (fun (q8 : 1 = 0) => by exfalso; omega) (fun (q8 : ¬ (1 = 0)) => ?_)
      refine wi_iconst (n := 1) (nx := 5) (r1 := 0) (r2 := 0) (r3 := 0) rfl ?_
      refine wi_goto (nx := 8) (r1 := 9) (r2 := 0) (r3 := 0) rfl ?_
      refine wi_ireturn (nx := 10) (r1 := 0) (r2 := 0) (r3 := 0) rfl rfl ?_
      refine wk_i ?_
      refine wr_pf0 (k0 := 236) (x := 1) (bl := 0) (bh := 2) (nx := 16) (r1 := 11) (r2 := 0) (r3 := 0) rfl (by decide) rfl ⟨rfl, rfl⟩ rfl rfl g rfl (by omega) (fun h9 g9 w9 u9 => ?_)
      have F10 := F0.then rfl u9
      refine wi_iload_n (i := 1) (e := 0) (nx := 17) (r1 := 0) (r2 := 0) (r3 := 0) rfl rfl ?_
      refine wi_zreturn (nx := 18) (r1 := 0) (r2 := 0) (r3 := 0) rfl rfl (by omega) ?_
      refine wk_i ?_
      refine wi_if (cd := .ne) (nx := 12) (r1 := 14) (r2 := 0) (r3 := 0) rfl (by omega) (fun (q11 : 0 ≠ 0) => by exfalso; omega) (fun (q11 : ¬ (0 ≠ 0)) => ?_)
      refine wi_iconst (n := 0) (nx := 13) (r1 := 0) (r2 := 0) (r3 := 0) rfl ?_
      refine wi_ireturn (nx := 14) (r1 := 0) (r2 := 0) (r3 := 0) rfl rfl ?_
      exact k h9 0 g9 F10 (by omega)
    ·
      refine wi_iconst (n := 1) (nx := 14) (r1 := 0) (r2 := 0) (r3 := 0) rfl ?_
      refine wi_goto (nx := 17) (r1 := 18) (r2 := 0) (r3 := 0) rfl ?_
      refine wi_zreturn (nx := 19) (r1 := 0) (r2 := 0) (r3 := 0) rfl rfl (by omega) ?_
      refine wk_i ?_
      refine wi_zreturn (nx := 16) (r1 := 0) (r2 := 0) (r3 := 0) rfl rfl (by omega) ?_
      refine wk_i ?_
      refine wr_V (k0 := 236) (rest := []) (as := [.ref 236, vi 1]) (nx := 9) (r1 := 206) (r2 := 1) (r3 := 11) rfl rfl rfl (of_decide_eq_true rfl) rfl rfl (by decide) rfl rfl (of_decide_eq_true rfl) (of_decide_eq_true rfl) ?_
      refine wi_aload_n (i := 0) (x := 236) (nx := 1) (r1 := 0) (r2 := 0) (r3 := 0) rfl rfl ?_
      refine wi_iload_n (i := 1) (e := 1) (nx := 2) (r1 := 0) (r2 := 0) (r3 := 0) rfl rfl ?_
      refine wi_if (cd := .ne) (nx := 5) (r1 := 9) (r2 := 0) (r3 := 0) rfl (by omega) (fun (q7 : 1 ≠ 0) => ?_) (fun (q7 : ¬ (1 ≠ 0)) => by exfalso; omega)
      refine wi_iconst (n := 0) (nx := 10) (r1 := 0) (r2 := 0) (r3 := 0) rfl ?_
      refine wi_S (rest := [.ref 236]) (as := [vi 0]) (nx := 13) (r1 := 207) (r2 := 17) (r3 := 0) rfl rfl rfl (of_decide_eq_true rfl) rfl rfl (of_decide_eq_true rfl) (of_decide_eq_true rfl) ?_
      refine wi_iload_n (i := 0) (e := 0) (nx := 1) (r1 := 0) (r2 := 0) (r3 := 0) rfl rfl ?_
      refine wi_if (cd := .eq) (nx := 4) (r1 := 8) (r2 := 0) (r3 := 0) rfl (by omega) (fun (q8 : 0 = 0) => ?_) (fun (q8 : ¬ (0 = 0)) => by exfalso; omega)
      refine wi_iconst (n := 0) (nx := 9) (r1 := 0) (r2 := 0) (r3 := 0) rfl ?_
      refine wi_ireturn (nx := 10) (r1 := 0) (r2 := 0) (r3 := 0) rfl rfl ?_
      refine wk_i ?_
      refine wr_pf0 (k0 := 236) (x := 0) (bl := 0) (bh := 2) (nx := 16) (r1 := 11) (r2 := 0) (r3 := 0) rfl (by decide) rfl ⟨rfl, rfl⟩ rfl rfl g rfl (by omega) (fun h9 g9 w9 u9 => ?_)
      have F10 := F0.then rfl u9
      refine wi_iload_n (i := 1) (e := 1) (nx := 17) (r1 := 0) (r2 := 0) (r3 := 0) rfl rfl ?_
      refine wi_zreturn (nx := 18) (r1 := 0) (r2 := 0) (r3 := 0) rfl rfl (by omega) ?_
      refine wk_i ?_
      refine wi_if (cd := .ne) (nx := 12) (r1 := 14) (r2 := 0) (r3 := 0) rfl (by omega) (fun (q11 : 1 ≠ 0) => ?_) (fun (q11 : ¬ (1 ≠ 0)) => by exfalso; omega)
      refine wi_iload_n (i := 2) (e := a1) (nx := 15) (r1 := 0) (r2 := 0) (r3 := 0) rfl rfl ?_
      refine wi_i2l (nx := 16) (r1 := 0) (r2 := 0) (r3 := 0) rfl (by omega) ?_
      refine wi_lconst (n := 0) (e := 0) (nx := 17) (r1 := 0) (r2 := 0) (r3 := 0) rfl (by decide) ?_
      refine wi_aload_n (i := 0) (x := 236) (nx := 18) (r1 := 0) (r2 := 0) (r3 := 0) rfl rfl ?_
      refine wr_gr (k0 := 236) (x := 238) (nx := 21) (r1 := 11) (r2 := 13) (r3 := 0) rfl rfl (by decide) rfl ⟨rfl, rfl⟩ rfl ?_
      refine wi_bipush (n := 98) (nx := 23) (r1 := 0) (r2 := 0) (r3 := 0) rfl (by decide) ?_
      refine wi_iload_n (i := 1) (e := a0) (nx := 24) (r1 := 0) (r2 := 0) (r3 := 0) rfl rfl ?_
      refine wr_add (nx := 25) (r1 := 0) (r2 := 0) (r3 := 0) rfl (fun e12 (fe12 : e12 = 98 + a0) => ?_)
      obtain ⟨i13, ei13⟩ : ∃ q : Nat, e12 = (q : Int) := ⟨(e12).toNat, by omega⟩
      have b14 := gi_b (lo := 0) (hi := 6) g 238 i13 (gi_rg 98 4 (fun _ => rfl) (by decide +kernel) (by omega))
      refine wr_ia (k0 := 238) (a := e12) (f := i13) (x := h 238 i13) (nx := 26) (r1 := 0) (r2 := 0) (r3 := 0) rfl (by decide) rfl (by omega) (by omega) (by decide) (u9 238 i13 (fn_a (by omega) fn_0)) ?_
      refine wi_iconst (n := 1) (nx := 27) (r1 := 0) (r2 := 0) (r3 := 0) rfl ?_
      refine wr_sub (nx := 28) (r1 := 0) (r2 := 0) (r3 := 0) rfl (fun e15 (fe15 : e15 = (h 238 i13) - 1) => ?_)
      refine wi_i2l (nx := 29) (r1 := 0) (r2 := 0) (r3 := 0) rfl (by omega) ?_
      refine wi_S (rest := []) (as := [vl a1, vl 0, vl e15]) (nx := 32) (r1 := 210) (r2 := 19) (r3 := 0) rfl rfl rfl (of_decide_eq_true rfl) rfl rfl (of_decide_eq_true rfl) (of_decide_eq_true rfl) ?_
      refine wi_lload_n (i := 0) (e := a1) (nx := 1) (r1 := 0) (r2 := 0) (r3 := 0) rfl rfl ?_
      refine wi_lload_n (i := 2) (e := 0) (nx := 2) (r1 := 0) (r2 := 0) (r3 := 0) rfl rfl ?_
      refine wi_lcmp (a := a1) (e := 0) (nx := 3) (r1 := 0) (r2 := 0) (r3 := 0) rfl (by omega) (by omega) (fun r16 (fr16 : (r16 = -1 ∧ a1 < 0) ∨ (r16 = 0 ∧ a1 = 0) ∨ (r16 = 1 ∧ 0 < a1)) => ?_)
      refine wi_if (cd := .lt) (nx := 6) (r1 := 17) (r2 := 0) (r3 := 0) rfl (by omega) (fun (q17 : r16 < 0) => ?_) (fun (q17 : ¬ (r16 < 0)) => ?_)
      ·
        refine wi_iconst (n := 0) (nx := 18) (r1 := 0) (r2 := 0) (r3 := 0) rfl ?_
        refine wi_zreturn (nx := 19) (r1 := 0) (r2 := 0) (r3 := 0) rfl rfl (by omega) ?_
        refine wk_i ?_
        refine wi_if (cd := .eq) (nx := 35) (r1 := 44) (r2 := 0) (r3 := 0) rfl (by omega) (fun (q18 : 0 = 0) => ?_) (fun (q18 : ¬ (0 = 0)) => by exfalso; omega)
        refine wi_iconst (n := (-1)) (nx := 45) (r1 := 0) (r2 := 0) (r3 := 0) rfl ?_
        refine wi_ireturn (nx := 46) (r1 := 0) (r2 := 0) (r3 := 0) rfl rfl ?_
        exact k h9 (-1) g9 F10 (by omega)
      ·
        refine wi_lload_n (i := 0) (e := a1) (nx := 7) (r1 := 0) (r2 := 0) (r3 := 0) rfl rfl ?_
        refine wi_lload (i := 4) (e := e15) (nx := 9) (r1 := 0) (r2 := 0) (r3 := 0) rfl rfl ?_
        refine wi_lcmp (a := a1) (e := e15) (nx := 10) (r1 := 0) (r2 := 0) (r3 := 0) rfl (by omega) (by omega) (fun r18 (fr18 : (r18 = -1 ∧ a1 < e15) ∨ (r18 = 0 ∧ a1 = e15) ∨ (r18 = 1 ∧ e15 < a1)) => ?_)
        refine wi_if (cd := .gt) (nx := 13) (r1 := 17) (r2 := 0) (r3 := 0) rfl (by omega) (fun (q19 : 0 < r18) => ?_) (fun (q19 : ¬ (0 < r18)) => ?_)
        ·
          refine wi_iconst (n := 0) (nx := 18) (r1 := 0) (r2 := 0) (r3 := 0) rfl ?_
          refine wi_zreturn (nx := 19) (r1 := 0) (r2 := 0) (r3 := 0) rfl rfl (by omega) ?_
          refine wk_i ?_
          refine wi_if (cd := .eq) (nx := 35) (r1 := 44) (r2 := 0) (r3 := 0) rfl (by omega) (fun (q20 : 0 = 0) => ?_) (fun (q20 : ¬ (0 = 0)) => by exfalso; omega)
          refine wi_iconst (n := (-1)) (nx := 45) (r1 := 0) (r2 := 0) (r3 := 0) rfl ?_
          refine wi_ireturn (nx := 46) (r1 := 0) (r2 := 0) (r3 := 0) rfl rfl ?_
          exact k h9 (-1) g9 F10 (by omega)
        ·
          refine wi_iconst (n := 1) (nx := 14) (r1 := 0) (r2 := 0) (r3 := 0) rfl ?_
          refine wi_goto (nx := 17) (r1 := 18) (r2 := 0) (r3 := 0) rfl ?_
          refine wi_zreturn (nx := 19) (r1 := 0) (r2 := 0) (r3 := 0) rfl rfl (by omega) ?_
          refine wk_i ?_
          refine wi_if (cd := .eq) (nx := 35) (r1 := 44) (r2 := 0) (r3 := 0) rfl (by omega) (fun (q20 : 1 = 0) => by exfalso; omega) (fun (q20 : ¬ (1 = 0)) => ?_)
          refine wi_aload_n (i := 0) (x := 236) (nx := 36) (r1 := 0) (r2 := 0) (r3 := 0) rfl rfl ?_
          refine wi_iload_n (i := 1) (e := a0) (nx := 37) (r1 := 0) (r2 := 0) (r3 := 0) rfl rfl ?_
          refine wi_iload_n (i := 2) (e := a1) (nx := 38) (r1 := 0) (r2 := 0) (r3 := 0) rfl rfl ?_
          rcases (show a0 = 0 ∨ a0 = 1 ∨ a0 = 2 ∨ a0 = 3 by omega) with q21 | q21 | q21 | q21
          ·
            rw [q21]
            refine wr_V (k0 := 236) (rest := []) (as := [.ref 236, vi 0, vi a1]) (nx := 41) (r1 := 258) (r2 := 2) (r3 := 11) rfl rfl rfl (of_decide_eq_true rfl) rfl rfl (by decide) rfl rfl (of_decide_eq_true rfl) (of_decide_eq_true rfl) ?_
            refine wi_aload_n (i := 0) (x := 236) (nx := 1) (r1 := 0) (r2 := 0) (r3 := 0) rfl rfl ?_
            refine wr_gr (k0 := 236) (x := 238) (nx := 4) (r1 := 11) (r2 := 13) (r3 := 0) rfl rfl (by decide) rfl ⟨rfl, rfl⟩ rfl ?_
            refine wi_bipush (n := 74) (nx := 6) (r1 := 0) (r2 := 0) (r3 := 0) rfl (by decide) ?_
            refine wi_bipush (n := 6) (nx := 8) (r1 := 0) (r2 := 0) (r3 := 0) rfl (by decide) ?_
            refine wi_iload_n (i := 1) (e := 0) (nx := 9) (r1 := 0) (r2 := 0) (r3 := 0) rfl rfl ?_
            refine wr_mulL (0) (nx := 10) (r1 := 0) (r2 := 0) (r3 := 0) rfl (by decide) ?_
            refine wr_addL (74) (nx := 11) (r1 := 0) (r2 := 0) (r3 := 0) rfl (by decide) ?_
            refine wi_iload_n (i := 2) (e := a1) (nx := 12) (r1 := 0) (r2 := 0) (r3 := 0) rfl rfl ?_
            refine wr_add (nx := 13) (r1 := 0) (r2 := 0) (r3 := 0) rfl (fun e22 (fe22 : e22 = 74 + a1) => ?_)
            obtain ⟨i23, ei23⟩ : ∃ q : Nat, e22 = (q : Int) := ⟨(e22).toNat, by omega⟩
            have b24 := gi_b (lo := 0) (hi := 11) g 238 i23 (gi_rg 74 6 (fun _ => rfl) (by decide +kernel) (by omega))
            refine wr_ia (k0 := 238) (a := e22) (f := i23) (x := h 238 i23) (nx := 14) (r1 := 0) (r2 := 0) (r3 := 0) rfl (by decide) rfl (by omega) (by omega) (by decide) (u9 238 i23 (fn_a (by omega) fn_0)) ?_
            refine wi_ireturn (nx := 15) (r1 := 0) (r2 := 0) (r3 := 0) rfl rfl ?_
            refine wk_i ?_
            refine wi_goto (nx := 44) (r1 := 45) (r2 := 0) (r3 := 0) rfl ?_
            refine wi_ireturn (nx := 46) (r1 := 0) (r2 := 0) (r3 := 0) rfl rfl ?_
            exact k h9 (h 238 i23) g9 F10 (by omega)
          ·
            rw [q21]
            refine wr_V (k0 := 236) (rest := []) (as := [.ref 236, vi 1, vi a1]) (nx := 41) (r1 := 258) (r2 := 2) (r3 := 11) rfl rfl rfl (of_decide_eq_true rfl) rfl rfl (by decide) rfl rfl (of_decide_eq_true rfl) (of_decide_eq_true rfl) ?_
            refine wi_aload_n (i := 0) (x := 236) (nx := 1) (r1 := 0) (r2 := 0) (r3 := 0) rfl rfl ?_
            refine wr_gr (k0 := 236) (x := 238) (nx := 4) (r1 := 11) (r2 := 13) (r3 := 0) rfl rfl (by decide) rfl ⟨rfl, rfl⟩ rfl ?_
            refine wi_bipush (n := 74) (nx := 6) (r1 := 0) (r2 := 0) (r3 := 0) rfl (by decide) ?_
            refine wi_bipush (n := 6) (nx := 8) (r1 := 0) (r2 := 0) (r3 := 0) rfl (by decide) ?_
            refine wi_iload_n (i := 1) (e := 1) (nx := 9) (r1 := 0) (r2 := 0) (r3 := 0) rfl rfl ?_
            refine wr_mulL (6) (nx := 10) (r1 := 0) (r2 := 0) (r3 := 0) rfl (by decide) ?_
            refine wr_addL (80) (nx := 11) (r1 := 0) (r2 := 0) (r3 := 0) rfl (by decide) ?_
            refine wi_iload_n (i := 2) (e := a1) (nx := 12) (r1 := 0) (r2 := 0) (r3 := 0) rfl rfl ?_
            refine wr_add (nx := 13) (r1 := 0) (r2 := 0) (r3 := 0) rfl (fun e22 (fe22 : e22 = 80 + a1) => ?_)
            obtain ⟨i23, ei23⟩ : ∃ q : Nat, e22 = (q : Int) := ⟨(e22).toNat, by omega⟩
            have b24 := gi_b (lo := 0) (hi := 11) g 238 i23 (gi_rg 80 6 (fun _ => rfl) (by decide +kernel) (by omega))
            refine wr_ia (k0 := 238) (a := e22) (f := i23) (x := h 238 i23) (nx := 14) (r1 := 0) (r2 := 0) (r3 := 0) rfl (by decide) rfl (by omega) (by omega) (by decide) (u9 238 i23 (fn_a (by omega) fn_0)) ?_
            refine wi_ireturn (nx := 15) (r1 := 0) (r2 := 0) (r3 := 0) rfl rfl ?_
            refine wk_i ?_
            refine wi_goto (nx := 44) (r1 := 45) (r2 := 0) (r3 := 0) rfl ?_
            refine wi_ireturn (nx := 46) (r1 := 0) (r2 := 0) (r3 := 0) rfl rfl ?_
            exact k h9 (h 238 i23) g9 F10 (by omega)
          ·
            rw [q21]
            refine wr_V (k0 := 236) (rest := []) (as := [.ref 236, vi 2, vi a1]) (nx := 41) (r1 := 258) (r2 := 2) (r3 := 11) rfl rfl rfl (of_decide_eq_true rfl) rfl rfl (by decide) rfl rfl (of_decide_eq_true rfl) (of_decide_eq_true rfl) ?_
            refine wi_aload_n (i := 0) (x := 236) (nx := 1) (r1 := 0) (r2 := 0) (r3 := 0) rfl rfl ?_
            refine wr_gr (k0 := 236) (x := 238) (nx := 4) (r1 := 11) (r2 := 13) (r3 := 0) rfl rfl (by decide) rfl ⟨rfl, rfl⟩ rfl ?_
            refine wi_bipush (n := 74) (nx := 6) (r1 := 0) (r2 := 0) (r3 := 0) rfl (by decide) ?_
            refine wi_bipush (n := 6) (nx := 8) (r1 := 0) (r2 := 0) (r3 := 0) rfl (by decide) ?_
            refine wi_iload_n (i := 1) (e := 2) (nx := 9) (r1 := 0) (r2 := 0) (r3 := 0) rfl rfl ?_
            refine wr_mulL (12) (nx := 10) (r1 := 0) (r2 := 0) (r3 := 0) rfl (by decide) ?_
            refine wr_addL (86) (nx := 11) (r1 := 0) (r2 := 0) (r3 := 0) rfl (by decide) ?_
            refine wi_iload_n (i := 2) (e := a1) (nx := 12) (r1 := 0) (r2 := 0) (r3 := 0) rfl rfl ?_
            refine wr_add (nx := 13) (r1 := 0) (r2 := 0) (r3 := 0) rfl (fun e22 (fe22 : e22 = 86 + a1) => ?_)
            obtain ⟨i23, ei23⟩ : ∃ q : Nat, e22 = (q : Int) := ⟨(e22).toNat, by omega⟩
            have b24 := gi_b (lo := 0) (hi := 11) g 238 i23 (gi_rg 86 6 (fun _ => rfl) (by decide +kernel) (by omega))
            refine wr_ia (k0 := 238) (a := e22) (f := i23) (x := h 238 i23) (nx := 14) (r1 := 0) (r2 := 0) (r3 := 0) rfl (by decide) rfl (by omega) (by omega) (by decide) (u9 238 i23 (fn_a (by omega) fn_0)) ?_
            refine wi_ireturn (nx := 15) (r1 := 0) (r2 := 0) (r3 := 0) rfl rfl ?_
            refine wk_i ?_
            refine wi_goto (nx := 44) (r1 := 45) (r2 := 0) (r3 := 0) rfl ?_
            refine wi_ireturn (nx := 46) (r1 := 0) (r2 := 0) (r3 := 0) rfl rfl ?_
            exact k h9 (h 238 i23) g9 F10 (by omega)
          ·
            rw [q21]
            refine wr_V (k0 := 236) (rest := []) (as := [.ref 236, vi 3, vi a1]) (nx := 41) (r1 := 258) (r2 := 2) (r3 := 11) rfl rfl rfl (of_decide_eq_true rfl) rfl rfl (by decide) rfl rfl (of_decide_eq_true rfl) (of_decide_eq_true rfl) ?_
            refine wi_aload_n (i := 0) (x := 236) (nx := 1) (r1 := 0) (r2 := 0) (r3 := 0) rfl rfl ?_
            refine wr_gr (k0 := 236) (x := 238) (nx := 4) (r1 := 11) (r2 := 13) (r3 := 0) rfl rfl (by decide) rfl ⟨rfl, rfl⟩ rfl ?_
            refine wi_bipush (n := 74) (nx := 6) (r1 := 0) (r2 := 0) (r3 := 0) rfl (by decide) ?_
            refine wi_bipush (n := 6) (nx := 8) (r1 := 0) (r2 := 0) (r3 := 0) rfl (by decide) ?_
            refine wi_iload_n (i := 1) (e := 3) (nx := 9) (r1 := 0) (r2 := 0) (r3 := 0) rfl rfl ?_
            refine wr_mulL (18) (nx := 10) (r1 := 0) (r2 := 0) (r3 := 0) rfl (by decide) ?_
            refine wr_addL (92) (nx := 11) (r1 := 0) (r2 := 0) (r3 := 0) rfl (by decide) ?_
            refine wi_iload_n (i := 2) (e := a1) (nx := 12) (r1 := 0) (r2 := 0) (r3 := 0) rfl rfl ?_
            refine wr_add (nx := 13) (r1 := 0) (r2 := 0) (r3 := 0) rfl (fun e22 (fe22 : e22 = 92 + a1) => ?_)
            obtain ⟨i23, ei23⟩ : ∃ q : Nat, e22 = (q : Int) := ⟨(e22).toNat, by omega⟩
            have b24 := gi_b (lo := 0) (hi := 11) g 238 i23 (gi_rg 92 6 (fun _ => rfl) (by decide +kernel) (by omega))
            refine wr_ia (k0 := 238) (a := e22) (f := i23) (x := h 238 i23) (nx := 14) (r1 := 0) (r2 := 0) (r3 := 0) rfl (by decide) rfl (by omega) (by omega) (by decide) (u9 238 i23 (fn_a (by omega) fn_0)) ?_
            refine wi_ireturn (nx := 15) (r1 := 0) (r2 := 0) (r3 := 0) rfl rfl ?_
            refine wk_i ?_
            refine wi_goto (nx := 44) (r1 := 45) (r2 := 0) (r3 := 0) rfl ?_
            refine wi_ireturn (nx := 46) (r1 := 0) (r2 := 0) (r3 := 0) rfl rfl ?_
            exact k h9 (h 238 i23) g9 F10 (by omega)
-- method 259: Model.inRework(I)I
set_option maxRecDepth 100000 in
set_option maxHeartbeats 100000000 in
theorem ct_259_236 {L : Nat} {xs : Nat → Int32} {d b c : Nat} {h : hp} {cr : Nat → Nat → Option Nat} {Q : hp_Q} (hcr : CR cr)  (g : GI h) (a0 : Int) (q0_ : -2147483648 ≤ a0 ∧ a0 ≤ 2147483647)  (k : ∀ (h2 : hp) (z0 : Int) , GI h2 → FR [(236, 236, some (0, 0))] h h2 → (-1 ≤ z0 ∧ z0 ≤ 11) → Q (.inl (some (vi z0))) (hp_w h2 cr) b c) : wp (md_xa (L, xs)) (d + 1) 259 (0, [(0, .ref 236), (1, vi a0)], [], hp_w h cr, b, c) Q := by
  have F0 : FR [(236, 236, some (0, 0))] h h := FR.refl
  refine wi_aload_n (i := 0) (x := 236) (nx := 1) (r1 := 0) (r2 := 0) (r3 := 0) rfl rfl ?_
  refine wi_iconst (n := 0) (nx := 2) (r1 := 0) (r2 := 0) (r3 := 0) rfl ?_
  refine wr_pf0 (k0 := 236) (x := 0) (bl := 0) (bh := 2) (nx := 5) (r1 := 11) (r2 := 0) (r3 := 0) rfl (by decide) rfl ⟨rfl, rfl⟩ rfl rfl g rfl (by omega) (fun h1 g1 w1 u1 => ?_)
  have F2 := F0.then rfl u1
  refine wi_iload_n (i := 1) (e := a0) (nx := 6) (r1 := 0) (r2 := 0) (r3 := 0) rfl rfl ?_
  refine wi_i2l (nx := 7) (r1 := 0) (r2 := 0) (r3 := 0) rfl (by omega) ?_
  refine wi_lconst (n := 0) (e := 0) (nx := 8) (r1 := 0) (r2 := 0) (r3 := 0) rfl (by decide) ?_
  refine wi_aload_n (i := 0) (x := 236) (nx := 9) (r1 := 0) (r2 := 0) (r3 := 0) rfl rfl ?_
  refine wr_gr (k0 := 236) (x := 238) (nx := 12) (r1 := 11) (r2 := 13) (r3 := 0) rfl rfl (by decide) rfl ⟨rfl, rfl⟩ rfl ?_
  refine wi_bipush (n := 102) (nx := 14) (r1 := 0) (r2 := 0) (r3 := 0) rfl (by decide) ?_
  have b3 := gi_b (lo := 0) (hi := 3) g 238 102 rfl
  refine wr_ia (k0 := 238) (a := 102) (f := 102) (x := h 238 102) (nx := 15) (r1 := 0) (r2 := 0) (r3 := 0) rfl (by decide) rfl (by omega) (by omega) (by decide) (u1 238 102 rfl) ?_
  refine wi_iconst (n := 1) (nx := 16) (r1 := 0) (r2 := 0) (r3 := 0) rfl ?_
  refine wr_sub (nx := 17) (r1 := 0) (r2 := 0) (r3 := 0) rfl (fun e4 (fe4 : e4 = (h 238 102) - 1) => ?_)
  refine wi_i2l (nx := 18) (r1 := 0) (r2 := 0) (r3 := 0) rfl (by omega) ?_
  refine wi_S (rest := []) (as := [vl a0, vl 0, vl e4]) (nx := 21) (r1 := 210) (r2 := 19) (r3 := 0) rfl rfl rfl (of_decide_eq_true rfl) rfl rfl (of_decide_eq_true rfl) (of_decide_eq_true rfl) ?_
  refine wi_lload_n (i := 0) (e := a0) (nx := 1) (r1 := 0) (r2 := 0) (r3 := 0) rfl rfl ?_
  refine wi_lload_n (i := 2) (e := 0) (nx := 2) (r1 := 0) (r2 := 0) (r3 := 0) rfl rfl ?_
  refine wi_lcmp (a := a0) (e := 0) (nx := 3) (r1 := 0) (r2 := 0) (r3 := 0) rfl (by omega) (by omega) (fun r5 (fr5 : (r5 = -1 ∧ a0 < 0) ∨ (r5 = 0 ∧ a0 = 0) ∨ (r5 = 1 ∧ 0 < a0)) => ?_)
  refine wi_if (cd := .lt) (nx := 6) (r1 := 17) (r2 := 0) (r3 := 0) rfl (by omega) (fun (q6 : r5 < 0) => ?_) (fun (q6 : ¬ (r5 < 0)) => ?_)
  ·
    refine wi_iconst (n := 0) (nx := 18) (r1 := 0) (r2 := 0) (r3 := 0) rfl ?_
    refine wi_zreturn (nx := 19) (r1 := 0) (r2 := 0) (r3 := 0) rfl rfl (by omega) ?_
    refine wk_i ?_
    refine wi_if (cd := .eq) (nx := 24) (r1 := 36) (r2 := 0) (r3 := 0) rfl (by omega) (fun (q7 : 0 = 0) => ?_) (fun (q7 : ¬ (0 = 0)) => by exfalso; omega)
    refine wi_iconst (n := (-1)) (nx := 37) (r1 := 0) (r2 := 0) (r3 := 0) rfl ?_
    refine wi_ireturn (nx := 38) (r1 := 0) (r2 := 0) (r3 := 0) rfl rfl ?_
    exact k h1 (-1) g1 F2 (by omega)
  ·
    refine wi_lload_n (i := 0) (e := a0) (nx := 7) (r1 := 0) (r2 := 0) (r3 := 0) rfl rfl ?_
    refine wi_lload (i := 4) (e := e4) (nx := 9) (r1 := 0) (r2 := 0) (r3 := 0) rfl rfl ?_
    refine wi_lcmp (a := a0) (e := e4) (nx := 10) (r1 := 0) (r2 := 0) (r3 := 0) rfl (by omega) (by omega) (fun r7 (fr7 : (r7 = -1 ∧ a0 < e4) ∨ (r7 = 0 ∧ a0 = e4) ∨ (r7 = 1 ∧ e4 < a0)) => ?_)
    refine wi_if (cd := .gt) (nx := 13) (r1 := 17) (r2 := 0) (r3 := 0) rfl (by omega) (fun (q8 : 0 < r7) => ?_) (fun (q8 : ¬ (0 < r7)) => ?_)
    ·
      refine wi_iconst (n := 0) (nx := 18) (r1 := 0) (r2 := 0) (r3 := 0) rfl ?_
      refine wi_zreturn (nx := 19) (r1 := 0) (r2 := 0) (r3 := 0) rfl rfl (by omega) ?_
      refine wk_i ?_
      refine wi_if (cd := .eq) (nx := 24) (r1 := 36) (r2 := 0) (r3 := 0) rfl (by omega) (fun (q9 : 0 = 0) => ?_) (fun (q9 : ¬ (0 = 0)) => by exfalso; omega)
      refine wi_iconst (n := (-1)) (nx := 37) (r1 := 0) (r2 := 0) (r3 := 0) rfl ?_
      refine wi_ireturn (nx := 38) (r1 := 0) (r2 := 0) (r3 := 0) rfl rfl ?_
      exact k h1 (-1) g1 F2 (by omega)
    ·
      refine wi_iconst (n := 1) (nx := 14) (r1 := 0) (r2 := 0) (r3 := 0) rfl ?_
      refine wi_goto (nx := 17) (r1 := 18) (r2 := 0) (r3 := 0) rfl ?_
      refine wi_zreturn (nx := 19) (r1 := 0) (r2 := 0) (r3 := 0) rfl rfl (by omega) ?_
      refine wk_i ?_
      refine wi_if (cd := .eq) (nx := 24) (r1 := 36) (r2 := 0) (r3 := 0) rfl (by omega) (fun (q9 : 1 = 0) => by exfalso; omega) (fun (q9 : ¬ (1 = 0)) => ?_)
      refine wi_aload_n (i := 0) (x := 236) (nx := 25) (r1 := 0) (r2 := 0) (r3 := 0) rfl rfl ?_
      refine wr_gr (k0 := 236) (x := 238) (nx := 28) (r1 := 11) (r2 := 13) (r3 := 0) rfl rfl (by decide) rfl ⟨rfl, rfl⟩ rfl ?_
      refine wi_bipush (n := 103) (nx := 30) (r1 := 0) (r2 := 0) (r3 := 0) rfl (by decide) ?_
      refine wi_iload_n (i := 1) (e := a0) (nx := 31) (r1 := 0) (r2 := 0) (r3 := 0) rfl rfl ?_
      refine wr_add (nx := 32) (r1 := 0) (r2 := 0) (r3 := 0) rfl (fun e10 (fe10 : e10 = 103 + a0) => ?_)
      obtain ⟨i11, ei11⟩ : ∃ q : Nat, e10 = (q : Int) := ⟨(e10).toNat, by omega⟩
      have b12 := gi_b (lo := 0) (hi := 11) g 238 i11 (gi_rg 103 3 (fun _ => rfl) (by decide +kernel) (by omega))
      refine wr_ia (k0 := 238) (a := e10) (f := i11) (x := h 238 i11) (nx := 33) (r1 := 0) (r2 := 0) (r3 := 0) rfl (by decide) rfl (by omega) (by omega) (by decide) (u1 238 i11 (fn_a (by omega) fn_0)) ?_
      refine wi_goto (nx := 36) (r1 := 37) (r2 := 0) (r3 := 0) rfl ?_
      refine wi_ireturn (nx := 38) (r1 := 0) (r2 := 0) (r3 := 0) rfl rfl ?_
      exact k h1 (h 238 i11) g1 F2 (by omega)
-- method 247: Model.kinds()I
set_option maxRecDepth 100000 in
set_option maxHeartbeats 100000000 in
theorem ct_247_236 {L : Nat} {xs : Nat → Int32} {d b c : Nat} {h : hp} {cr : Nat → Nat → Option Nat} {Q : hp_Q} (hcr : CR cr)  (g : GI h)    (k : ∀ (h2 : hp) (z0 : Int) , GI h2 → FR [(236, 236, some (0, 0))] h h2 → (-2147483648 ≤ z0 ∧ z0 ≤ 2147483647) → Q (.inl (some (vi z0))) (hp_w h2 cr) b c) : wp (md_xa (L, xs)) (d + 1) 247 (0, [(0, .ref 236)], [], hp_w h cr, b, c) Q := by
  have F0 : FR [(236, 236, some (0, 0))] h h := FR.refl
  refine wi_aload_n (i := 0) (x := 236) (nx := 1) (r1 := 0) (r2 := 0) (r3 := 0) rfl rfl ?_
  refine wi_iconst (n := 0) (nx := 2) (r1 := 0) (r2 := 0) (r3 := 0) rfl ?_
  refine wr_pf0 (k0 := 236) (x := 0) (bl := 0) (bh := 2) (nx := 5) (r1 := 11) (r2 := 0) (r3 := 0) rfl (by decide) rfl ⟨rfl, rfl⟩ rfl rfl g rfl (by omega) (fun h1 g1 w1 u1 => ?_)
  have F2 := F0.then rfl u1
  refine wi_iconst (n := 0) (nx := 6) (r1 := 0) (r2 := 0) (r3 := 0) rfl ?_
  refine wi_istore_n (i := 1) (e := 0) (lo2 := [(1, vi 0), (0, .ref 236)]) (nx := 7) (r1 := 0) (r2 := 0) (r3 := 0) rfl rfl ?_
  refine wi_iconst (n := 0) (nx := 8) (r1 := 0) (r2 := 0) (r3 := 0) rfl ?_
  refine wi_istore_n (i := 2) (e := 0) (lo2 := [(2, vi 0), (1, vi 0), (0, .ref 236)]) (nx := 9) (r1 := 0) (r2 := 0) (r3 := 0) rfl rfl ?_
  refine wp.lo (lo := [(0, .ref 236), (1, vi 0), (2, vi 0)]) ⟨rfl, rfl, rfl, trivial⟩ rfl ?_
  refine wl_2 (fun x3 x4 h5 => h1 = h5 ∧ ((-2147483648 ≤ x3 ∧ x3 ≤ 2147483647) ∧ (0 ≤ x4 ∧ x4 ≤ 12))) (fun x3 x4 h5 => ((12 : Int) + 1 - x4).toNat) (fun x3 x4 h5 => (9, [(0, .ref 236), (1, vi x3), (2, vi x4)], [], hp_w h5 cr, b, c)) ?_ 0 0 h1 ⟨rfl, (show (-2147483648 ≤ 0 ∧ 0 ≤ 2147483647) ∧ (0 ≤ 0 ∧ 0 ≤ 12) by omega)⟩
  intro x3 x4 h5 ⟨e5, f5⟩ I5
  subst e5
  refine wi_iload_n (i := 2) (e := x4) (nx := 10) (r1 := 0) (r2 := 0) (r3 := 0) rfl rfl ?_
  refine wi_aload_n (i := 0) (x := 236) (nx := 11) (r1 := 0) (r2 := 0) (r3 := 0) rfl rfl ?_
  refine wr_gr (k0 := 236) (x := 238) (nx := 14) (r1 := 11) (r2 := 13) (r3 := 0) rfl rfl (by decide) rfl ⟨rfl, rfl⟩ rfl ?_
  refine wi_iconst (n := 2) (nx := 15) (r1 := 0) (r2 := 0) (r3 := 0) rfl ?_
  have b7 := gi_b (lo := 0) (hi := 12) g 238 2 rfl
  refine wr_ia (k0 := 238) (a := 2) (f := 2) (x := h 238 2) (nx := 16) (r1 := 0) (r2 := 0) (r3 := 0) rfl (by decide) rfl (by omega) (by omega) (by decide) (u1 238 2 rfl) ?_
  refine wi_icmp (cd := .ge) (nx := 19) (r1 := 103) (r2 := 0) (r3 := 0) rfl (by omega) (by omega) (fun (q8 : (h 238 2) ≤ x4) => ?_) (fun (q8 : ¬ ((h 238 2) ≤ x4)) => ?_)
  ·
    refine wi_iload_n (i := 1) (e := x3) (nx := 104) (r1 := 0) (r2 := 0) (r3 := 0) rfl rfl ?_
    refine wi_ireturn (nx := 105) (r1 := 0) (r2 := 0) (r3 := 0) rfl rfl ?_
    exact k h1 x3 g1 F2 (by omega)
  ·
    refine wi_iconst (n := 1) (nx := 20) (r1 := 0) (r2 := 0) (r3 := 0) rfl ?_
    refine wi_istore_n (i := 3) (e := 1) (lo2 := [(3, vi 1), (0, .ref 236), (1, vi x3), (2, vi x4)]) (nx := 21) (r1 := 0) (r2 := 0) (r3 := 0) rfl rfl ?_
    refine wi_iconst (n := 0) (nx := 22) (r1 := 0) (r2 := 0) (r3 := 0) rfl ?_
    refine wi_istore (i := 4) (e := 0) (lo2 := [(4, vi 0), (3, vi 1), (0, .ref 236), (1, vi x3), (2, vi x4)]) (nx := 24) (r1 := 0) (r2 := 0) (r3 := 0) rfl rfl ?_
    refine wp.lo (lo := [(0, .ref 236), (1, vi x3), (2, vi x4), (3, vi 1), (4, vi 0)]) ⟨rfl, rfl, rfl, rfl, rfl, trivial⟩ rfl ?_
    refine wl_2 (fun x9 x10 h11 => h1 = h11 ∧ ((0 ≤ x9 ∧ x9 ≤ 1) ∧ (0 ≤ x10 ∧ x10 ≤ 11))) (fun x9 x10 h11 => ((11 : Int) + 1 - x10).toNat) (fun x9 x10 h11 => (24, [(0, .ref 236), (1, vi x3), (2, vi x4), (3, vi x9), (4, vi x10)], [], hp_w h11 cr, b, c)) ?_ 1 0 h1 ⟨rfl, (show (0 ≤ 1 ∧ 1 ≤ 1) ∧ (0 ≤ 0 ∧ 0 ≤ 11) by omega)⟩
    intro x9 x10 h11 ⟨e11, f11⟩ I11
    subst e11
    refine wi_iload (i := 4) (e := x10) (nx := 26) (r1 := 0) (r2 := 0) (r3 := 0) rfl rfl ?_
    refine wi_iload_n (i := 2) (e := x4) (nx := 27) (r1 := 0) (r2 := 0) (r3 := 0) rfl rfl ?_
    refine wi_icmp (cd := .ge) (nx := 30) (r1 := 90) (r2 := 0) (r3 := 0) rfl (by omega) (by omega) (fun (q14 : x4 ≤ x10) => ?_) (fun (q14 : ¬ (x4 ≤ x10)) => ?_)
    ·
      refine wi_iload_n (i := 1) (e := x3) (nx := 91) (r1 := 0) (r2 := 0) (r3 := 0) rfl rfl ?_
      refine wi_iload_n (i := 3) (e := x9) (nx := 92) (r1 := 0) (r2 := 0) (r3 := 0) rfl rfl ?_
      refine wi_S (rest := [vi x3]) (as := [vi x9]) (nx := 95) (r1 := 207) (r2 := 17) (r3 := 0) rfl rfl rfl (of_decide_eq_true rfl) rfl rfl (of_decide_eq_true rfl) (of_decide_eq_true rfl) ?_
      refine wi_iload_n (i := 0) (e := x9) (nx := 1) (r1 := 0) (r2 := 0) (r3 := 0) rfl rfl ?_
      refine wi_if (cd := .eq) (nx := 4) (r1 := 8) (r2 := 0) (r3 := 0) rfl (by omega) (fun (q15 : x9 = 0) => ?_) (fun (q15 : ¬ (x9 = 0)) => ?_)
      ·
        refine wi_iconst (n := 0) (nx := 9) (r1 := 0) (r2 := 0) (r3 := 0) rfl ?_
        refine wi_ireturn (nx := 10) (r1 := 0) (r2 := 0) (r3 := 0) rfl rfl ?_
        refine wk_i ?_
        refine wr_add (nx := 96) (r1 := 0) (r2 := 0) (r3 := 0) rfl (fun e16 (fe16 : e16 = x3 + 0) => ?_)
        refine wi_istore_n (i := 1) (e := e16) (lo2 := [(1, vi e16), (0, .ref 236), (2, vi x4), (3, vi x9), (4, vi x10)]) (nx := 97) (r1 := 0) (r2 := 0) (r3 := 0) rfl rfl ?_
        refine wr_iinc (i := 2) (n := 1) (v := x4) (fun e17 => [(2, vi e17), (1, vi e16), (0, .ref 236), (3, vi x9), (4, vi x10)]) (nx := 100) (r1 := 0) (r2 := 0) (r3 := 0) rfl rfl (fun _ => rfl) (fun e17 (fe17 : e17 = x4 + 1) => ?_)
        refine wi_goto (nx := 103) (r1 := 9) (r2 := 0) (r3 := 0) rfl ?_
        refine wp.lo (lo := [(0, .ref 236), (1, vi e16), (2, vi e17)]) ⟨rfl, rfl, rfl, trivial⟩ rfl ?_
        exact I5 e16 e17 h1 ⟨rfl, (show (-2147483648 ≤ e16 ∧ e16 ≤ 2147483647) ∧ (0 ≤ e17 ∧ e17 ≤ 12) by omega)⟩ (show ((12 : Int) + 1 - e17).toNat < ((12 : Int) + 1 - x4).toNat by omega)
      ·
        refine wi_iconst (n := 1) (nx := 5) (r1 := 0) (r2 := 0) (r3 := 0) rfl ?_
        refine wi_goto (nx := 8) (r1 := 9) (r2 := 0) (r3 := 0) rfl ?_
        refine wi_ireturn (nx := 10) (r1 := 0) (r2 := 0) (r3 := 0) rfl rfl ?_
        refine wk_i ?_
        refine wr_addW (nx := 96) (r1 := 0) (r2 := 0) (r3 := 0) rfl (fun e16 (fe16 : -2147483648 ≤ e16 ∧ e16 ≤ 2147483647) => ?_)
        refine wi_istore_n (i := 1) (e := e16) (lo2 := [(1, vi e16), (0, .ref 236), (2, vi x4), (3, vi x9), (4, vi x10)]) (nx := 97) (r1 := 0) (r2 := 0) (r3 := 0) rfl rfl ?_
        refine wr_iinc (i := 2) (n := 1) (v := x4) (fun e17 => [(2, vi e17), (1, vi e16), (0, .ref 236), (3, vi x9), (4, vi x10)]) (nx := 100) (r1 := 0) (r2 := 0) (r3 := 0) rfl rfl (fun _ => rfl) (fun e17 (fe17 : e17 = x4 + 1) => ?_)
        refine wi_goto (nx := 103) (r1 := 9) (r2 := 0) (r3 := 0) rfl ?_
        refine wp.lo (lo := [(0, .ref 236), (1, vi e16), (2, vi e17)]) ⟨rfl, rfl, rfl, trivial⟩ rfl ?_
        exact I5 e16 e17 h1 ⟨rfl, (show (-2147483648 ≤ e16 ∧ e16 ≤ 2147483647) ∧ (0 ≤ e17 ∧ e17 ≤ 12) by omega)⟩ (show ((12 : Int) + 1 - e17).toNat < ((12 : Int) + 1 - x4).toNat by omega)
    ·
      refine wi_iload_n (i := 3) (e := x9) (nx := 31) (r1 := 0) (r2 := 0) (r3 := 0) rfl rfl ?_
      refine wi_if (cd := .eq) (nx := 34) (r1 := 82) (r2 := 0) (r3 := 0) rfl (by omega) (fun (q15 : x9 = 0) => ?_) (fun (q15 : ¬ (x9 = 0)) => ?_)
      ·
        refine wi_iconst (n := 0) (nx := 83) (r1 := 0) (r2 := 0) (r3 := 0) rfl ?_
        refine wi_istore_n (i := 3) (e := 0) (lo2 := [(3, vi 0), (0, .ref 236), (1, vi x3), (2, vi x4), (4, vi x10)]) (nx := 84) (r1 := 0) (r2 := 0) (r3 := 0) rfl rfl ?_
        refine wr_iinc (i := 4) (n := 1) (v := x10) (fun e16 => [(4, vi e16), (3, vi 0), (0, .ref 236), (1, vi x3), (2, vi x4)]) (nx := 87) (r1 := 0) (r2 := 0) (r3 := 0) rfl rfl (fun _ => rfl) (fun e16 (fe16 : e16 = x10 + 1) => ?_)
        refine wi_goto (nx := 90) (r1 := 24) (r2 := 0) (r3 := 0) rfl ?_
        refine wp.lo (lo := [(0, .ref 236), (1, vi x3), (2, vi x4), (3, vi 0), (4, vi e16)]) ⟨rfl, rfl, rfl, rfl, rfl, trivial⟩ rfl ?_
        exact I11 0 e16 h1 ⟨rfl, (show (0 ≤ 0 ∧ 0 ≤ 1) ∧ (0 ≤ e16 ∧ e16 ≤ 11) by omega)⟩ (show ((11 : Int) + 1 - e16).toNat < ((11 : Int) + 1 - x10).toNat by omega)
      ·
        refine wi_aload_n (i := 0) (x := 236) (nx := 35) (r1 := 0) (r2 := 0) (r3 := 0) rfl rfl ?_
        refine wr_gr (k0 := 236) (x := 238) (nx := 38) (r1 := 11) (r2 := 13) (r3 := 0) rfl rfl (by decide) rfl ⟨rfl, rfl⟩ rfl ?_
        refine wi_bipush (n := 19) (nx := 40) (r1 := 0) (r2 := 0) (r3 := 0) rfl (by decide) ?_
        refine wi_iload (i := 4) (e := x10) (nx := 42) (r1 := 0) (r2 := 0) (r3 := 0) rfl rfl ?_
        refine wr_add (nx := 43) (r1 := 0) (r2 := 0) (r3 := 0) rfl (fun e16 (fe16 : e16 = 19 + x10) => ?_)
        obtain ⟨i17, ei17⟩ : ∃ q : Nat, e16 = (q : Int) := ⟨(e16).toNat, by omega⟩
        have b18 := gi_b (lo := 0) (hi := 999) g 238 i17 (gi_rg 19 11 (fun _ => rfl) (by decide +kernel) (by omega))
        refine wr_ia (k0 := 238) (a := e16) (f := i17) (x := h 238 i17) (nx := 44) (r1 := 0) (r2 := 0) (r3 := 0) rfl (by decide) rfl (by omega) (by omega) (by decide) (u1 238 i17 (fn_a (by omega) fn_0)) ?_
        refine wi_aload_n (i := 0) (x := 236) (nx := 45) (r1 := 0) (r2 := 0) (r3 := 0) rfl rfl ?_
        refine wr_gr (k0 := 236) (x := 238) (nx := 48) (r1 := 11) (r2 := 13) (r3 := 0) rfl rfl (by decide) rfl ⟨rfl, rfl⟩ rfl ?_
        refine wi_bipush (n := 19) (nx := 50) (r1 := 0) (r2 := 0) (r3 := 0) rfl (by decide) ?_
        refine wi_iload_n (i := 2) (e := x4) (nx := 51) (r1 := 0) (r2 := 0) (r3 := 0) rfl rfl ?_
        refine wr_add (nx := 52) (r1 := 0) (r2 := 0) (r3 := 0) rfl (fun e19 (fe19 : e19 = 19 + x4) => ?_)
        obtain ⟨i20, ei20⟩ : ∃ q : Nat, e19 = (q : Int) := ⟨(e19).toNat, by omega⟩
        have b21 := gi_b (lo := 0) (hi := 999) g 238 i20 (gi_rg 20 11 (fun _ => rfl) (by decide +kernel) (by omega))
        refine wr_ia (k0 := 238) (a := e19) (f := i20) (x := h 238 i20) (nx := 53) (r1 := 0) (r2 := 0) (r3 := 0) rfl (by decide) rfl (by omega) (by omega) (by decide) (u1 238 i20 (fn_a (by omega) fn_0)) ?_
        refine wi_icmp (cd := .ne) (nx := 56) (r1 := 78) (r2 := 0) (r3 := 0) rfl (by omega) (by omega) (fun (q22 : (h 238 i17) ≠ (h 238 i20)) => ?_) (fun (q22 : ¬ ((h 238 i17) ≠ (h 238 i20))) => ?_)
        ·
          refine wi_iconst (n := 1) (nx := 79) (r1 := 0) (r2 := 0) (r3 := 0) rfl ?_
          refine wi_goto (nx := 82) (r1 := 83) (r2 := 0) (r3 := 0) rfl ?_
          refine wi_istore_n (i := 3) (e := 1) (lo2 := [(3, vi 1), (0, .ref 236), (1, vi x3), (2, vi x4), (4, vi x10)]) (nx := 84) (r1 := 0) (r2 := 0) (r3 := 0) rfl rfl ?_
          refine wr_iinc (i := 4) (n := 1) (v := x10) (fun e23 => [(4, vi e23), (3, vi 1), (0, .ref 236), (1, vi x3), (2, vi x4)]) (nx := 87) (r1 := 0) (r2 := 0) (r3 := 0) rfl rfl (fun _ => rfl) (fun e23 (fe23 : e23 = x10 + 1) => ?_)
          refine wi_goto (nx := 90) (r1 := 24) (r2 := 0) (r3 := 0) rfl ?_
          refine wp.lo (lo := [(0, .ref 236), (1, vi x3), (2, vi x4), (3, vi 1), (4, vi e23)]) ⟨rfl, rfl, rfl, rfl, rfl, trivial⟩ rfl ?_
          exact I11 1 e23 h1 ⟨rfl, (show (0 ≤ 1 ∧ 1 ≤ 1) ∧ (0 ≤ e23 ∧ e23 ≤ 11) by omega)⟩ (show ((11 : Int) + 1 - e23).toNat < ((11 : Int) + 1 - x10).toNat by omega)
        ·
          refine wi_aload_n (i := 0) (x := 236) (nx := 57) (r1 := 0) (r2 := 0) (r3 := 0) rfl rfl ?_
          refine wr_gr (k0 := 236) (x := 238) (nx := 60) (r1 := 11) (r2 := 13) (r3 := 0) rfl rfl (by decide) rfl ⟨rfl, rfl⟩ rfl ?_
          refine wi_bipush (n := 31) (nx := 62) (r1 := 0) (r2 := 0) (r3 := 0) rfl (by decide) ?_
          refine wi_iload (i := 4) (e := x10) (nx := 64) (r1 := 0) (r2 := 0) (r3 := 0) rfl rfl ?_
          refine wr_add (nx := 65) (r1 := 0) (r2 := 0) (r3 := 0) rfl (fun e23 (fe23 : e23 = 31 + x10) => ?_)
          obtain ⟨i24, ei24⟩ : ∃ q : Nat, e23 = (q : Int) := ⟨(e23).toNat, by omega⟩
          have b25 := gi_b (lo := 0) (hi := 4) g 238 i24 (gi_rg 31 11 (fun _ => rfl) (by decide +kernel) (by omega))
          refine wr_ia (k0 := 238) (a := e23) (f := i24) (x := h 238 i24) (nx := 66) (r1 := 0) (r2 := 0) (r3 := 0) rfl (by decide) rfl (by omega) (by omega) (by decide) (u1 238 i24 (fn_a (by omega) fn_0)) ?_
          refine wi_aload_n (i := 0) (x := 236) (nx := 67) (r1 := 0) (r2 := 0) (r3 := 0) rfl rfl ?_
          refine wr_gr (k0 := 236) (x := 238) (nx := 70) (r1 := 11) (r2 := 13) (r3 := 0) rfl rfl (by decide) rfl ⟨rfl, rfl⟩ rfl ?_
          refine wi_bipush (n := 31) (nx := 72) (r1 := 0) (r2 := 0) (r3 := 0) rfl (by decide) ?_
          refine wi_iload_n (i := 2) (e := x4) (nx := 73) (r1 := 0) (r2 := 0) (r3 := 0) rfl rfl ?_
          refine wr_add (nx := 74) (r1 := 0) (r2 := 0) (r3 := 0) rfl (fun e26 (fe26 : e26 = 31 + x4) => ?_)
          obtain ⟨i27, ei27⟩ : ∃ q : Nat, e26 = (q : Int) := ⟨(e26).toNat, by omega⟩
          have b28 := gi_b (lo := 0) (hi := 4) g 238 i27 (gi_rg 32 11 (fun _ => rfl) (by decide +kernel) (by omega))
          refine wr_ia (k0 := 238) (a := e26) (f := i27) (x := h 238 i27) (nx := 75) (r1 := 0) (r2 := 0) (r3 := 0) rfl (by decide) rfl (by omega) (by omega) (by decide) (u1 238 i27 (fn_a (by omega) fn_0)) ?_
          refine wi_icmp (cd := .eq) (nx := 78) (r1 := 82) (r2 := 0) (r3 := 0) rfl (by omega) (by omega) (fun (q29 : (h 238 i24) = (h 238 i27)) => ?_) (fun (q29 : ¬ ((h 238 i24) = (h 238 i27))) => ?_)
          ·
            refine wi_iconst (n := 0) (nx := 83) (r1 := 0) (r2 := 0) (r3 := 0) rfl ?_
            refine wi_istore_n (i := 3) (e := 0) (lo2 := [(3, vi 0), (0, .ref 236), (1, vi x3), (2, vi x4), (4, vi x10)]) (nx := 84) (r1 := 0) (r2 := 0) (r3 := 0) rfl rfl ?_
            refine wr_iinc (i := 4) (n := 1) (v := x10) (fun e30 => [(4, vi e30), (3, vi 0), (0, .ref 236), (1, vi x3), (2, vi x4)]) (nx := 87) (r1 := 0) (r2 := 0) (r3 := 0) rfl rfl (fun _ => rfl) (fun e30 (fe30 : e30 = x10 + 1) => ?_)
            refine wi_goto (nx := 90) (r1 := 24) (r2 := 0) (r3 := 0) rfl ?_
            refine wp.lo (lo := [(0, .ref 236), (1, vi x3), (2, vi x4), (3, vi 0), (4, vi e30)]) ⟨rfl, rfl, rfl, rfl, rfl, trivial⟩ rfl ?_
            exact I11 0 e30 h1 ⟨rfl, (show (0 ≤ 0 ∧ 0 ≤ 1) ∧ (0 ≤ e30 ∧ e30 ≤ 11) by omega)⟩ (show ((11 : Int) + 1 - e30).toNat < ((11 : Int) + 1 - x10).toNat by omega)
          ·
            refine wi_iconst (n := 1) (nx := 79) (r1 := 0) (r2 := 0) (r3 := 0) rfl ?_
            refine wi_goto (nx := 82) (r1 := 83) (r2 := 0) (r3 := 0) rfl ?_
            refine wi_istore_n (i := 3) (e := 1) (lo2 := [(3, vi 1), (0, .ref 236), (1, vi x3), (2, vi x4), (4, vi x10)]) (nx := 84) (r1 := 0) (r2 := 0) (r3 := 0) rfl rfl ?_
            refine wr_iinc (i := 4) (n := 1) (v := x10) (fun e30 => [(4, vi e30), (3, vi 1), (0, .ref 236), (1, vi x3), (2, vi x4)]) (nx := 87) (r1 := 0) (r2 := 0) (r3 := 0) rfl rfl (fun _ => rfl) (fun e30 (fe30 : e30 = x10 + 1) => ?_)
            refine wi_goto (nx := 90) (r1 := 24) (r2 := 0) (r3 := 0) rfl ?_
            refine wp.lo (lo := [(0, .ref 236), (1, vi x3), (2, vi x4), (3, vi 1), (4, vi e30)]) ⟨rfl, rfl, rfl, rfl, rfl, trivial⟩ rfl ?_
            exact I11 1 e30 h1 ⟨rfl, (show (0 ≤ 1 ∧ 1 ≤ 1) ∧ (0 ≤ e30 ∧ e30 ≤ 11) by omega)⟩ (show ((11 : Int) + 1 - e30).toNat < ((11 : Int) + 1 - x10).toNat by omega)
-- method 316: Model.laneBound()I
set_option maxRecDepth 100000 in
set_option maxHeartbeats 100000000 in
theorem ct_316_236 {L : Nat} {xs : Nat → Int32} {d b c : Nat} {h : hp} {cr : Nat → Nat → Option Nat} {Q : hp_Q} (hcr : CR cr)  (g : GI h)    (k : ∀ (h2 : hp) (z0 : Int) , GI h2 → FR [(236, 236, some (0, 0))] h h2 → (-2147483648 ≤ z0 ∧ z0 ≤ 2147483647) → Q (.inl (some (vi z0))) (hp_w h2 cr) b c) : wp (md_xa (L, xs)) (d + 4) 316 (0, [(0, .ref 236)], [], hp_w h cr, b, c) Q := by
  have F0 : FR [(236, 236, some (0, 0))] h h := FR.refl
  refine wi_aload_n (i := 0) (x := 236) (nx := 1) (r1 := 0) (r2 := 0) (r3 := 0) rfl rfl ?_
  refine wi_iconst (n := 0) (nx := 2) (r1 := 0) (r2 := 0) (r3 := 0) rfl ?_
  refine wr_pf0 (k0 := 236) (x := 0) (bl := 0) (bh := 2) (nx := 5) (r1 := 11) (r2 := 0) (r3 := 0) rfl (by decide) rfl ⟨rfl, rfl⟩ rfl rfl g rfl (by omega) (fun h1 g1 w1 u1 => ?_)
  have F2 := F0.then rfl u1
  refine wi_aload_n (i := 0) (x := 236) (nx := 6) (r1 := 0) (r2 := 0) (r3 := 0) rfl rfl ?_
  refine wi_iconst (n := 1) (nx := 7) (r1 := 0) (r2 := 0) (r3 := 0) rfl ?_
  refine wr_V (k0 := 236) (rest := []) (as := [.ref 236, vi 1]) (nx := 10) (r1 := 317) (r2 := 1) (r3 := 11) rfl rfl rfl (of_decide_eq_true rfl) rfl rfl (by decide) rfl rfl (of_decide_eq_true rfl) (of_decide_eq_true rfl) ?_
  refine ct_317_236 hcr  g1 1 (by omega)  (fun z4  (fz4 : -2147483648 ≤ z4 ∧ z4 ≤ 2147483647) => ?_)
  refine wk_i ?_
  refine wi_ireturn (nx := 11) (r1 := 0) (r2 := 0) (r3 := 0) rfl rfl ?_
  exact k h1 z4 g1 F2 (by omega)
