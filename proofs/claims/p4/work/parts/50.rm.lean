-- method 350: Model.reportByte(I)I
set_option maxRecDepth 100000 in
set_option maxHeartbeats 100000000 in
theorem ct_350_236 {L : Nat} {xs : Nat → Int32} {d b c : Nat} {h : hp} {cr : Nat → Nat → Option Nat} {Q : hp_Q} (hcr : CR cr)  (g : GI h) (a0 : Int) (q0_ : -2147483648 ≤ a0 ∧ a0 ≤ 2147483647)  (k : ∀ (h2 : hp) (z0 : Int) , GI h2 → FR [(236, 236, some (0, 0))] h h2 → (-2147483648 ≤ z0 ∧ z0 ≤ 2147483647) → Q (.inl (some (vi z0))) (hp_w h2 cr) b c) : wp (md_xa (L, xs)) (d + 2) 350 (0, [(0, .ref 236), (1, vi a0)], [], hp_w h cr, b, c) Q := by
  have F0 : FR [(236, 236, some (0, 0))] h h := FR.refl
  refine wi_aload_n (i := 0) (x := 236) (nx := 1) (r1 := 0) (r2 := 0) (r3 := 0) rfl rfl ?_
  refine wi_aload_n (i := 0) (x := 236) (nx := 2) (r1 := 0) (r2 := 0) (r3 := 0) rfl rfl ?_
  have b1 := gi_b (lo := 0) (hi := 1) g 236 48 rfl
  refine wr_gi2 (k0 := 236) (x := h 236 48) (nx := 5) (r1 := 11) (r2 := 48) (r3 := 0) rfl rfl (by decide) rfl ⟨rfl, rfl⟩ rfl rfl ?_
  refine wi_if (cd := .eq) (nx := 8) (r1 := 28) (r2 := 0) (r3 := 0) rfl (by omega) (fun (q2 : (h 236 48) = 0) => ?_) (fun (q2 : ¬ ((h 236 48) = 0)) => ?_)
  ·
    refine wi_iconst (n := 0) (nx := 29) (r1 := 0) (r2 := 0) (r3 := 0) rfl ?_
    refine wr_V (k0 := 236) (rest := []) (as := [.ref 236, vi 0]) (nx := 32) (r1 := 206) (r2 := 1) (r3 := 11) rfl rfl rfl (of_decide_eq_true rfl) rfl rfl (by decide) rfl rfl (of_decide_eq_true rfl) (of_decide_eq_true rfl) ?_
    refine wi_aload_n (i := 0) (x := 236) (nx := 1) (r1 := 0) (r2 := 0) (r3 := 0) rfl rfl ?_
    refine wi_iload_n (i := 1) (e := 0) (nx := 2) (r1 := 0) (r2 := 0) (r3 := 0) rfl rfl ?_
    refine wi_if (cd := .ne) (nx := 5) (r1 := 9) (r2 := 0) (r3 := 0) rfl (by omega) (fun (q3 : 0 ≠ 0) => by exfalso; omega) (fun (q3 : ¬ (0 ≠ 0)) => ?_)
    refine wi_iconst (n := 1) (nx := 6) (r1 := 0) (r2 := 0) (r3 := 0) rfl ?_
    refine wi_goto (nx := 9) (r1 := 10) (r2 := 0) (r3 := 0) rfl ?_
    refine wi_S (rest := [.ref 236]) (as := [vi 1]) (nx := 13) (r1 := 207) (r2 := 17) (r3 := 0) rfl rfl rfl (of_decide_eq_true rfl) rfl rfl (of_decide_eq_true rfl) (of_decide_eq_true rfl) ?_
    refine wi_iload_n (i := 0) (e := 1) (nx := 1) (r1 := 0) (r2 := 0) (r3 := 0) rfl rfl ?_
    refine wi_if (cd := .eq) (nx := 4) (r1 := 8) (r2 := 0) (r3 := 0) rfl (by omega) (fun (q4 : 1 = 0) => by exfalso; omega) (fun (q4 : ¬ (1 = 0)) => ?_)
    refine wi_iconst (n := 1) (nx := 5) (r1 := 0) (r2 := 0) (r3 := 0) rfl ?_
    refine wi_goto (nx := 8) (r1 := 9) (r2 := 0) (r3 := 0) rfl ?_
    refine wi_ireturn (nx := 10) (r1 := 0) (r2 := 0) (r3 := 0) rfl rfl ?_
    refine wk_i ?_
    refine wr_pf0 (k0 := 236) (x := 1) (bl := 0) (bh := 2) (nx := 16) (r1 := 11) (r2 := 0) (r3 := 0) rfl (by decide) rfl ⟨rfl, rfl⟩ rfl rfl g rfl (by omega) (fun h5 g5 w5 u5 => ?_)
    have F6 := F0.then rfl u5
    refine wi_iload_n (i := 1) (e := 0) (nx := 17) (r1 := 0) (r2 := 0) (r3 := 0) rfl rfl ?_
    refine wi_zreturn (nx := 18) (r1 := 0) (r2 := 0) (r3 := 0) rfl rfl (by omega) ?_
    refine wk_i ?_
    refine wi_if (cd := .eq) (nx := 35) (r1 := 44) (r2 := 0) (r3 := 0) rfl (by omega) (fun (q7 : 0 = 0) => ?_) (fun (q7 : ¬ (0 = 0)) => by exfalso; omega)
    refine wi_iconst (n := 0) (nx := 45) (r1 := 0) (r2 := 0) (r3 := 0) rfl ?_
    refine wi_ireturn (nx := 46) (r1 := 0) (r2 := 0) (r3 := 0) rfl rfl ?_
    exact k h5 0 g5 F6 (by omega)
  ·
    refine wi_iload_n (i := 1) (e := a0) (nx := 9) (r1 := 0) (r2 := 0) (r3 := 0) rfl rfl ?_
    refine wi_i2l (nx := 10) (r1 := 0) (r2 := 0) (r3 := 0) rfl (by omega) ?_
    refine wi_lconst (n := 0) (e := 0) (nx := 11) (r1 := 0) (r2 := 0) (r3 := 0) rfl (by decide) ?_
    refine wi_aload_n (i := 0) (x := 236) (nx := 12) (r1 := 0) (r2 := 0) (r3 := 0) rfl rfl ?_
    have b3 := gi_b (lo := 0) (hi := 300) g 236 47 rfl
    refine wr_gi0 (k0 := 236) (x := h 236 47) (nx := 15) (r1 := 11) (r2 := 47) (r3 := 0) rfl rfl (by decide) rfl ⟨rfl, rfl⟩ rfl rfl ?_
    refine wi_iconst (n := 1) (nx := 16) (r1 := 0) (r2 := 0) (r3 := 0) rfl ?_
    refine wr_sub (nx := 17) (r1 := 0) (r2 := 0) (r3 := 0) rfl (fun e4 (fe4 : e4 = (h 236 47) - 1) => ?_)
    refine wi_i2l (nx := 18) (r1 := 0) (r2 := 0) (r3 := 0) rfl (by omega) ?_
    refine wi_S (rest := [.ref 236]) (as := [vl a0, vl 0, vl e4]) (nx := 21) (r1 := 210) (r2 := 19) (r3 := 0) rfl rfl rfl (of_decide_eq_true rfl) rfl rfl (of_decide_eq_true rfl) (of_decide_eq_true rfl) ?_
    refine wi_lload_n (i := 0) (e := a0) (nx := 1) (r1 := 0) (r2 := 0) (r3 := 0) rfl rfl ?_
    refine wi_lload_n (i := 2) (e := 0) (nx := 2) (r1 := 0) (r2 := 0) (r3 := 0) rfl rfl ?_
    refine wi_lcmp (a := a0) (e := 0) (nx := 3) (r1 := 0) (r2 := 0) (r3 := 0) rfl (by omega) (by omega) (fun r5 (fr5 : (r5 = -1 ∧ a0 < 0) ∨ (r5 = 0 ∧ a0 = 0) ∨ (r5 = 1 ∧ 0 < a0)) => ?_)
    refine wi_if (cd := .lt) (nx := 6) (r1 := 17) (r2 := 0) (r3 := 0) rfl (by omega) (fun (q6 : r5 < 0) => ?_) (fun (q6 : ¬ (r5 < 0)) => ?_)
    ·
      refine wi_iconst (n := 0) (nx := 18) (r1 := 0) (r2 := 0) (r3 := 0) rfl ?_
      refine wi_zreturn (nx := 19) (r1 := 0) (r2 := 0) (r3 := 0) rfl rfl (by omega) ?_
      refine wk_i ?_
      refine wi_if (cd := .eq) (nx := 24) (r1 := 28) (r2 := 0) (r3 := 0) rfl (by omega) (fun (q7 : 0 = 0) => ?_) (fun (q7 : ¬ (0 = 0)) => by exfalso; omega)
      refine wi_iconst (n := 0) (nx := 29) (r1 := 0) (r2 := 0) (r3 := 0) rfl ?_
      refine wr_V (k0 := 236) (rest := []) (as := [.ref 236, vi 0]) (nx := 32) (r1 := 206) (r2 := 1) (r3 := 11) rfl rfl rfl (of_decide_eq_true rfl) rfl rfl (by decide) rfl rfl (of_decide_eq_true rfl) (of_decide_eq_true rfl) ?_
      refine wi_aload_n (i := 0) (x := 236) (nx := 1) (r1 := 0) (r2 := 0) (r3 := 0) rfl rfl ?_
      refine wi_iload_n (i := 1) (e := 0) (nx := 2) (r1 := 0) (r2 := 0) (r3 := 0) rfl rfl ?_
      refine wi_if (cd := .ne) (nx := 5) (r1 := 9) (r2 := 0) (r3 := 0) rfl (by omega) (fun (q8 : 0 ≠ 0) => by exfalso; omega) (fun (q8 : ¬ (0 ≠ 0)) => ?_)
      refine wi_iconst (n := 1) (nx := 6) (r1 := 0) (r2 := 0) (r3 := 0) rfl ?_
      refine wi_goto (nx := 9) (r1 := 10) (r2 := 0) (r3 := 0) rfl ?_
      refine wi_S (rest := [.ref 236]) (as := [vi 1]) (nx := 13) (r1 := 207) (r2 := 17) (r3 := 0) rfl rfl rfl (of_decide_eq_true rfl) rfl rfl (of_decide_eq_true rfl) (of_decide_eq_true rfl) ?_
      refine wi_iload_n (i := 0) (e := 1) (nx := 1) (r1 := 0) (r2 := 0) (r3 := 0) rfl rfl ?_
      refine wi_if (cd := .eq) (nx := 4) (r1 := 8) (r2 := 0) (r3 := 0) rfl (by omega) (fun (q9 : 1 = 0) => by exfalso; omega) (fun (q9 : ¬ (1 = 0)) => ?_)
      refine wi_iconst (n := 1) (nx := 5) (r1 := 0) (r2 := 0) (r3 := 0) rfl ?_
      refine wi_goto (nx := 8) (r1 := 9) (r2 := 0) (r3 := 0) rfl ?_
      refine wi_ireturn (nx := 10) (r1 := 0) (r2 := 0) (r3 := 0) rfl rfl ?_
      refine wk_i ?_
      refine wr_pf0 (k0 := 236) (x := 1) (bl := 0) (bh := 2) (nx := 16) (r1 := 11) (r2 := 0) (r3 := 0) rfl (by decide) rfl ⟨rfl, rfl⟩ rfl rfl g rfl (by omega) (fun h10 g10 w10 u10 => ?_)
      have F11 := F0.then rfl u10
      refine wi_iload_n (i := 1) (e := 0) (nx := 17) (r1 := 0) (r2 := 0) (r3 := 0) rfl rfl ?_
      refine wi_zreturn (nx := 18) (r1 := 0) (r2 := 0) (r3 := 0) rfl rfl (by omega) ?_
      refine wk_i ?_
      refine wi_if (cd := .eq) (nx := 35) (r1 := 44) (r2 := 0) (r3 := 0) rfl (by omega) (fun (q12 : 0 = 0) => ?_) (fun (q12 : ¬ (0 = 0)) => by exfalso; omega)
      refine wi_iconst (n := 0) (nx := 45) (r1 := 0) (r2 := 0) (r3 := 0) rfl ?_
      refine wi_ireturn (nx := 46) (r1 := 0) (r2 := 0) (r3 := 0) rfl rfl ?_
      exact k h10 0 g10 F11 (by omega)
    ·
      refine wi_lload_n (i := 0) (e := a0) (nx := 7) (r1 := 0) (r2 := 0) (r3 := 0) rfl rfl ?_
      refine wi_lload (i := 4) (e := e4) (nx := 9) (r1 := 0) (r2 := 0) (r3 := 0) rfl rfl ?_
      refine wi_lcmp (a := a0) (e := e4) (nx := 10) (r1 := 0) (r2 := 0) (r3 := 0) rfl (by omega) (by omega) (fun r7 (fr7 : (r7 = -1 ∧ a0 < e4) ∨ (r7 = 0 ∧ a0 = e4) ∨ (r7 = 1 ∧ e4 < a0)) => ?_)
      refine wi_if (cd := .gt) (nx := 13) (r1 := 17) (r2 := 0) (r3 := 0) rfl (by omega) (fun (q8 : 0 < r7) => ?_) (fun (q8 : ¬ (0 < r7)) => ?_)
      ·
        refine wi_iconst (n := 0) (nx := 18) (r1 := 0) (r2 := 0) (r3 := 0) rfl ?_
        refine wi_zreturn (nx := 19) (r1 := 0) (r2 := 0) (r3 := 0) rfl rfl (by omega) ?_
        refine wk_i ?_
        refine wi_if (cd := .eq) (nx := 24) (r1 := 28) (r2 := 0) (r3 := 0) rfl (by omega) (fun (q9 : 0 = 0) => ?_) (fun (q9 : ¬ (0 = 0)) => by exfalso; omega)
        refine wi_iconst (n := 0) (nx := 29) (r1 := 0) (r2 := 0) (r3 := 0) rfl ?_
        refine wr_V (k0 := 236) (rest := []) (as := [.ref 236, vi 0]) (nx := 32) (r1 := 206) (r2 := 1) (r3 := 11) rfl rfl rfl (of_decide_eq_true rfl) rfl rfl (by decide) rfl rfl (of_decide_eq_true rfl) (of_decide_eq_true rfl) ?_
        refine wi_aload_n (i := 0) (x := 236) (nx := 1) (r1 := 0) (r2 := 0) (r3 := 0) rfl rfl ?_
        refine wi_iload_n (i := 1) (e := 0) (nx := 2) (r1 := 0) (r2 := 0) (r3 := 0) rfl rfl ?_
        refine wi_if (cd := .ne) (nx := 5) (r1 := 9) (r2 := 0) (r3 := 0) rfl (by omega) (fun (q10 : 0 ≠ 0) => by exfalso; omega) (fun (q10 : ¬ (0 ≠ 0)) => ?_)
        refine wi_iconst (n := 1) (nx := 6) (r1 := 0) (r2 := 0) (r3 := 0) rfl ?_
        refine wi_goto (nx := 9) (r1 := 10) (r2 := 0) (r3 := 0) rfl ?_
        refine wi_S (rest := [.ref 236]) (as := [vi 1]) (nx := 13) (r1 := 207) (r2 := 17) (r3 := 0) rfl rfl rfl (of_decide_eq_true rfl) rfl rfl (of_decide_eq_true rfl) (of_decide_eq_true rfl) ?_
        refine wi_iload_n (i := 0) (e := 1) (nx := 1) (r1 := 0) (r2 := 0) (r3 := 0) rfl rfl ?_
        refine wi_if (cd := .eq) (nx := 4) (r1 := 8) (r2 := 0) (r3 := 0) rfl (by omega) (fun (q11 : 1 = 0) => by exfalso; omega) (fun (q11 : ¬ (1 = 0)) => ?_)
        refine wi_iconst (n := 1) (nx := 5) (r1 := 0) (r2 := 0) (r3 := 0) rfl ?_
        refine wi_goto (nx := 8) (r1 := 9) (r2 := 0) (r3 := 0) rfl ?_
        refine wi_ireturn (nx := 10) (r1 := 0) (r2 := 0) (r3 := 0) rfl rfl ?_
        refine wk_i ?_
        refine wr_pf0 (k0 := 236) (x := 1) (bl := 0) (bh := 2) (nx := 16) (r1 := 11) (r2 := 0) (r3 := 0) rfl (by decide) rfl ⟨rfl, rfl⟩ rfl rfl g rfl (by omega) (fun h12 g12 w12 u12 => ?_)
        have F13 := F0.then rfl u12
        refine wi_iload_n (i := 1) (e := 0) (nx := 17) (r1 := 0) (r2 := 0) (r3 := 0) rfl rfl ?_
        refine wi_zreturn (nx := 18) (r1 := 0) (r2 := 0) (r3 := 0) rfl rfl (by omega) ?_
        refine wk_i ?_
        refine wi_if (cd := .eq) (nx := 35) (r1 := 44) (r2 := 0) (r3 := 0) rfl (by omega) (fun (q14 : 0 = 0) => ?_) (fun (q14 : ¬ (0 = 0)) => by exfalso; omega)
        refine wi_iconst (n := 0) (nx := 45) (r1 := 0) (r2 := 0) (r3 := 0) rfl ?_
        refine wi_ireturn (nx := 46) (r1 := 0) (r2 := 0) (r3 := 0) rfl rfl ?_
        exact k h12 0 g12 F13 (by omega)
      ·
        refine wi_iconst (n := 1) (nx := 14) (r1 := 0) (r2 := 0) (r3 := 0) rfl ?_
        refine wi_goto (nx := 17) (r1 := 18) (r2 := 0) (r3 := 0) rfl ?_
        refine wi_zreturn (nx := 19) (r1 := 0) (r2 := 0) (r3 := 0) rfl rfl (by omega) ?_
        refine wk_i ?_
        refine wi_if (cd := .eq) (nx := 24) (r1 := 28) (r2 := 0) (r3 := 0) rfl (by omega) (fun (q9 : 1 = 0) => by exfalso; omega) (fun (q9 : ¬ (1 = 0)) => ?_)
        refine wi_iconst (n := 1) (nx := 25) (r1 := 0) (r2 := 0) (r3 := 0) rfl ?_
        refine wi_goto (nx := 28) (r1 := 29) (r2 := 0) (r3 := 0) rfl ?_
        refine wr_V (k0 := 236) (rest := []) (as := [.ref 236, vi 1]) (nx := 32) (r1 := 206) (r2 := 1) (r3 := 11) rfl rfl rfl (of_decide_eq_true rfl) rfl rfl (by decide) rfl rfl (of_decide_eq_true rfl) (of_decide_eq_true rfl) ?_
        refine wi_aload_n (i := 0) (x := 236) (nx := 1) (r1 := 0) (r2 := 0) (r3 := 0) rfl rfl ?_
        refine wi_iload_n (i := 1) (e := 1) (nx := 2) (r1 := 0) (r2 := 0) (r3 := 0) rfl rfl ?_
        refine wi_if (cd := .ne) (nx := 5) (r1 := 9) (r2 := 0) (r3 := 0) rfl (by omega) (fun (q10 : 1 ≠ 0) => ?_) (fun (q10 : ¬ (1 ≠ 0)) => by exfalso; omega)
        refine wi_iconst (n := 0) (nx := 10) (r1 := 0) (r2 := 0) (r3 := 0) rfl ?_
        refine wi_S (rest := [.ref 236]) (as := [vi 0]) (nx := 13) (r1 := 207) (r2 := 17) (r3 := 0) rfl rfl rfl (of_decide_eq_true rfl) rfl rfl (of_decide_eq_true rfl) (of_decide_eq_true rfl) ?_
        refine wi_iload_n (i := 0) (e := 0) (nx := 1) (r1 := 0) (r2 := 0) (r3 := 0) rfl rfl ?_
        refine wi_if (cd := .eq) (nx := 4) (r1 := 8) (r2 := 0) (r3 := 0) rfl (by omega) (fun (q11 : 0 = 0) => ?_) (fun (q11 : ¬ (0 = 0)) => by exfalso; omega)
        refine wi_iconst (n := 0) (nx := 9) (r1 := 0) (r2 := 0) (r3 := 0) rfl ?_
        refine wi_ireturn (nx := 10) (r1 := 0) (r2 := 0) (r3 := 0) rfl rfl ?_
        refine wk_i ?_
        refine wr_pf0 (k0 := 236) (x := 0) (bl := 0) (bh := 2) (nx := 16) (r1 := 11) (r2 := 0) (r3 := 0) rfl (by decide) rfl ⟨rfl, rfl⟩ rfl rfl g rfl (by omega) (fun h12 g12 w12 u12 => ?_)
        have F13 := F0.then rfl u12
        refine wi_iload_n (i := 1) (e := 1) (nx := 17) (r1 := 0) (r2 := 0) (r3 := 0) rfl rfl ?_
        refine wi_zreturn (nx := 18) (r1 := 0) (r2 := 0) (r3 := 0) rfl rfl (by omega) ?_
        refine wk_i ?_
        refine wi_if (cd := .eq) (nx := 35) (r1 := 44) (r2 := 0) (r3 := 0) rfl (by omega) (fun (q14 : 1 = 0) => by exfalso; omega) (fun (q14 : ¬ (1 = 0)) => ?_)
        refine wi_aload_n (i := 0) (x := 236) (nx := 36) (r1 := 0) (r2 := 0) (r3 := 0) rfl rfl ?_
        refine wr_gr (k0 := 236) (x := 258) (nx := 39) (r1 := 11) (r2 := 46) (r3 := 0) rfl rfl (by decide) rfl ⟨rfl, rfl⟩ rfl ?_
        refine wi_iload_n (i := 1) (e := a0) (nx := 40) (r1 := 0) (r2 := 0) (r3 := 0) rfl rfl ?_
        obtain ⟨i15, ei15⟩ : ∃ q : Nat, a0 = (q : Int) := ⟨(a0).toNat, by omega⟩
        have b16 := gi_b (lo := -2147483648) (hi := 2147483647) g 258 i15 rfl
        refine wr_ia (k0 := 258) (a := a0) (f := i15) (x := h 258 i15) (nx := 41) (r1 := 0) (r2 := 0) (r3 := 0) rfl (by decide) rfl (by omega) (by omega) (by decide) (u12 258 i15 (fn_a (by omega) fn_0)) ?_
        refine wi_goto (nx := 44) (r1 := 45) (r2 := 0) (r3 := 0) rfl ?_
        refine wi_ireturn (nx := 46) (r1 := 0) (r2 := 0) (r3 := 0) rfl rfl ?_
        exact k h12 (h 258 i15) g12 F13 (by omega)
-- method 238: Model.copies([I[I)V
set_option maxRecDepth 100000 in
set_option maxHeartbeats 100000000 in
theorem ct_238_241_238 {L : Nat} {xs : Nat → Int32} {d b c : Nat} {h : hp} {cr : Nat → Nat → Option Nat} {Q : hp_Q} (hcr : CR cr)  (g : GI h)    (k : ∀ (h2 : hp) , GI h2 → FR [(238, 238, none)] h h2 → (∀ q : Nat, q < 200 → h2 238 q = h 241 q) → Q (.inl none) (hp_w h2 cr) b c) : wp (md_xa (L, xs)) d 238 (0, [(0, .ref 241), (1, .ref 238)], [], hp_w h cr, b, c) Q := by
  have F0 : FR [(238, 238, none)] h h := FR.refl
  refine wi_iconst (n := 0) (nx := 1) (r1 := 0) (r2 := 0) (r3 := 0) rfl ?_
  refine wi_istore_n (i := 2) (e := 0) (lo2 := [(2, vi 0), (0, .ref 241), (1, .ref 238)]) (nx := 2) (r1 := 0) (r2 := 0) (r3 := 0) rfl rfl ?_
  refine wp.lo (lo := [(0, .ref 241), (1, .ref 238), (2, vi 0)]) ⟨rfl, rfl, rfl, trivial⟩ rfl ?_
  refine wl_1 (fun x1 h2 => GI h2 ∧ FR [(238, 238, none)] h h2 ∧ FR [(238, 238, none)] h h2 ∧ ((0 ≤ x1 ∧ x1 ≤ 200)) ∧ (∀ q : Nat, (q : Int) < x1 → h2 238 q = h 241 q) ∧ (∀ q : Nat, x1 ≤ (q : Int) → h2 238 q = h 238 q)) (fun x1 h2 => ((200 : Int) + 1 - x1).toNat) (fun x1 h2 => (2, [(0, .ref 241), (1, .ref 238), (2, vi x1)], [], hp_w h2 cr, b, c)) ?_ 0 h ⟨g, F0, FR.refl, (show (0 ≤ 0 ∧ 0 ≤ 200) by omega), (fun q e => absurd e (by omega)), (fun _ _ => rfl)⟩
  intro x1 h2 ⟨g2, F3, u2, f2, XA2, XB2⟩ I2
  refine wi_iload_n (i := 2) (e := x1) (nx := 3) (r1 := 0) (r2 := 0) (r3 := 0) rfl rfl ?_
  refine wi_sipush (n := 200) (nx := 6) (r1 := 0) (r2 := 0) (r3 := 0) rfl (by decide) ?_
  refine wi_icmp (cd := .ge) (nx := 9) (r1 := 21) (r2 := 0) (r3 := 0) rfl (by omega) (by omega) (fun (q4 : 200 ≤ x1) => ?_) (fun (q4 : ¬ (200 ≤ x1)) => ?_)
  ·
    refine wi_return (nx := 22) (r1 := 0) (r2 := 0) (r3 := 0) rfl rfl ?_
    exact k h2 g2 F3 (fun q e => XA2 q (by omega))
  ·
    refine wi_aload_n (i := 1) (x := 238) (nx := 10) (r1 := 0) (r2 := 0) (r3 := 0) rfl rfl ?_
    refine wi_iload_n (i := 2) (e := x1) (nx := 11) (r1 := 0) (r2 := 0) (r3 := 0) rfl rfl ?_
    refine wi_aload_n (i := 0) (x := 241) (nx := 12) (r1 := 0) (r2 := 0) (r3 := 0) rfl rfl ?_
    refine wi_iload_n (i := 2) (e := x1) (nx := 13) (r1 := 0) (r2 := 0) (r3 := 0) rfl rfl ?_
    obtain ⟨i5, ei5⟩ : ∃ q : Nat, x1 = (q : Int) := ⟨(x1).toNat, by omega⟩
    refine wr_ia (k0 := 241) (a := x1) (f := i5) (x := h 241 i5) (nx := 14) (r1 := 0) (r2 := 0) (r3 := 0) rfl (by decide) rfl (by omega) (by omega) (by decide) (u2 241 i5 (fn_a (by decide) fn_0)) ?_
    refine wr_iv (k0 := 238) (a := x1) (f := i5) (x := h 241 i5) (nx := 15) (r1 := 0) (r2 := 0) (r3 := 0) rfl (by decide) rfl (by omega) (by omega) (by decide) g2 (g 241 i5) (fun h6 g6 w6 u6 => ?_)
    have F7 := F3.then rfl (FR.rngp (lo := 238) (hi := 238) u6 (by decide))
    have F8 := u2.then rfl (FR.rngp (lo := 238) (hi := 238) u6 (by decide))
    refine wr_iinc (i := 2) (n := 1) (v := x1) (fun e9 => [(2, vi e9), (0, .ref 241), (1, .ref 238)]) (nx := 18) (r1 := 0) (r2 := 0) (r3 := 0) rfl rfl (fun _ => rfl) (fun e9 (fe9 : e9 = x1 + 1) => ?_)
    refine wi_goto (nx := 21) (r1 := 2) (r2 := 0) (r3 := 0) rfl ?_
    refine wp.lo (lo := [(0, .ref 241), (1, .ref 238), (2, vi e9)]) ⟨rfl, rfl, rfl, trivial⟩ rfl ?_
    exact I2 e9 h6 ⟨g6, F7, F8, (show (0 ≤ e9 ∧ e9 ≤ 200) by omega), (fun q e => by
        by_cases e1 : (q : Int) < x1
        · exact (u6 238 _ (fn_i (by omega) fn_0)).trans (XA2 q e1)
        · have e2 : q = i5 := by omega
          have e3 : q = i5 := by omega
          exact (congrArg (h6 238) e2).trans (w6.trans ((Eq.refl _).trans (congrArg (h 241) e3).symm))), (fun q e => (u6 238 q (fn_i (by omega) fn_0)).trans (XB2 q (by omega)))⟩ (show ((200 : Int) + 1 - e9).toNat < ((200 : Int) + 1 - x1).toNat by omega)
-- method 353: Model.restore()I
set_option maxRecDepth 100000 in
set_option maxHeartbeats 100000000 in
theorem ct_353_236 {L : Nat} {xs : Nat → Int32} {d b c : Nat} {h : hp} {cr : Nat → Nat → Option Nat} {Q : hp_Q} (hcr : CR cr)  (g : GI h)   (pp0 : h 238 98 + h 238 99 + h 238 100 + h 238 101 + h 238 102 + h 238 106 = h 238 73) (pp1 : h 238 73 ≤ h 238 2) (pp2 : h 238 119 ≤ h 238 67) (pp3 : h 238 69 ≤ h 238 5) (pp4 : h 238 2 ≤ 12 * h 238 5) (pp5 : h 241 98 + h 241 99 + h 241 100 + h 241 101 + h 241 102 + h 241 106 = h 241 73) (pp6 : h 241 73 ≤ h 241 2) (pp7 : h 241 119 ≤ h 241 67) (pp8 : h 241 69 ≤ h 241 5) (pp9 : h 241 2 ≤ 12 * h 241 5) (k : ∀ (h2 : hp) (z0 : Int) , GI h2 → FR [(238, 238, none), (243, 243, none), (236, 236, some (0, 0)), (236, 236, some (22, 22))] h h2 → (0 ≤ z0 ∧ z0 ≤ 9999) → ((h 236 21 = 0 ∧ h2 236 0 = 1 ∧ h2 236 22 = h 236 22) ∨ (h 236 21 = 1 ∧ h2 236 0 = 0 ∧ h2 236 22 = 0)) → (h2 238 98 + h2 238 99 + h2 238 100 + h2 238 101 + h2 238 102 + h2 238 106 = h2 238 73) → (h2 238 73 ≤ h2 238 2) → (h2 238 119 ≤ h2 238 67) → (h2 238 69 ≤ h2 238 5) → (h2 238 2 ≤ 12 * h2 238 5) → (h 236 21 = 1 → ∀ i : Nat, i < 200 → h2 238 i = h 241 i) → (h 236 21 = 0 → ∀ i : Nat, i < 31 → h2 238 i = h 238 i) → Q (.inl (some (vi z0))) (hp_w h2 cr) b c) : wp (md_xa (L, xs)) (d + 2) 353 (0, [(0, .ref 236)], [], hp_w h cr, b, c) Q := by
  have F0 : FR [(238, 238, none), (243, 243, none), (236, 236, some (0, 0)), (236, 236, some (22, 22))] h h := FR.refl
  have b1 := gi_b (lo := 0) (hi := 6) g 238 98 rfl
  have b2 := gi_b (lo := 0) (hi := 6) g 238 99 rfl
  have b3 := gi_b (lo := 0) (hi := 6) g 238 100 rfl
  have b4 := gi_b (lo := 0) (hi := 6) g 238 101 rfl
  have b5 := gi_b (lo := 0) (hi := 3) g 238 102 rfl
  have b6 := gi_b (lo := 0) (hi := 12) g 238 106 rfl
  have b7 := gi_b (lo := 0) (hi := 12) g 238 73 rfl
  have b8 := gi_b (lo := 0) (hi := 12) g 238 2 rfl
  have b9 := gi_b (lo := 0) (hi := 9999) g 238 119 rfl
  have b10 := gi_b (lo := 0) (hi := 9999) g 238 67 rfl
  have b11 := gi_b (lo := 0) (hi := 9) g 238 69 rfl
  have b12 := gi_b (lo := 0) (hi := 9) g 238 5 rfl
  have b13 := gi_b (lo := 0) (hi := 6) g 241 98 rfl
  have b14 := gi_b (lo := 0) (hi := 6) g 241 99 rfl
  have b15 := gi_b (lo := 0) (hi := 6) g 241 100 rfl
  have b16 := gi_b (lo := 0) (hi := 6) g 241 101 rfl
  have b17 := gi_b (lo := 0) (hi := 3) g 241 102 rfl
  have b18 := gi_b (lo := 0) (hi := 12) g 241 106 rfl
  have b19 := gi_b (lo := 0) (hi := 12) g 241 73 rfl
  have b20 := gi_b (lo := 0) (hi := 12) g 241 2 rfl
  have b21 := gi_b (lo := 0) (hi := 9999) g 241 119 rfl
  have b22 := gi_b (lo := 0) (hi := 9999) g 241 67 rfl
  have b23 := gi_b (lo := 0) (hi := 9) g 241 69 rfl
  have b24 := gi_b (lo := 0) (hi := 9) g 241 5 rfl
  refine wi_aload_n (i := 0) (x := 236) (nx := 1) (r1 := 0) (r2 := 0) (r3 := 0) rfl rfl ?_
  refine wi_aload_n (i := 0) (x := 236) (nx := 2) (r1 := 0) (r2 := 0) (r3 := 0) rfl rfl ?_
  have b25 := gi_b (lo := 0) (hi := 1) g 236 21 rfl
  refine wr_gi2 (k0 := 236) (x := h 236 21) (nx := 5) (r1 := 11) (r2 := 21) (r3 := 0) rfl rfl (by decide) rfl ⟨rfl, rfl⟩ rfl rfl ?_
  refine wr_V (k0 := 236) (rest := []) (as := [.ref 236, vi (h 236 21)]) (nx := 8) (r1 := 206) (r2 := 1) (r3 := 11) rfl rfl rfl (of_decide_eq_true rfl) rfl rfl (by decide) rfl rfl (of_decide_eq_true rfl) (of_decide_eq_true rfl) ?_
  refine wi_aload_n (i := 0) (x := 236) (nx := 1) (r1 := 0) (r2 := 0) (r3 := 0) rfl rfl ?_
  refine wi_iload_n (i := 1) (e := h 236 21) (nx := 2) (r1 := 0) (r2 := 0) (r3 := 0) rfl rfl ?_
  refine wi_if (cd := .ne) (nx := 5) (r1 := 9) (r2 := 0) (r3 := 0) rfl (by omega) (fun (q26 : (h 236 21) ≠ 0) => ?_) (fun (q26 : ¬ ((h 236 21) ≠ 0)) => ?_)
  ·
    refine wi_iconst (n := 0) (nx := 10) (r1 := 0) (r2 := 0) (r3 := 0) rfl ?_
    refine wi_S (rest := [.ref 236]) (as := [vi 0]) (nx := 13) (r1 := 207) (r2 := 17) (r3 := 0) rfl rfl rfl (of_decide_eq_true rfl) rfl rfl (of_decide_eq_true rfl) (of_decide_eq_true rfl) ?_
    refine wi_iload_n (i := 0) (e := 0) (nx := 1) (r1 := 0) (r2 := 0) (r3 := 0) rfl rfl ?_
    refine wi_if (cd := .eq) (nx := 4) (r1 := 8) (r2 := 0) (r3 := 0) rfl (by omega) (fun (q27 : 0 = 0) => ?_) (fun (q27 : ¬ (0 = 0)) => by exfalso; omega)
    refine wi_iconst (n := 0) (nx := 9) (r1 := 0) (r2 := 0) (r3 := 0) rfl ?_
    refine wi_ireturn (nx := 10) (r1 := 0) (r2 := 0) (r3 := 0) rfl rfl ?_
    refine wk_i ?_
    refine wr_pf0 (k0 := 236) (x := 0) (bl := 0) (bh := 2) (nx := 16) (r1 := 11) (r2 := 0) (r3 := 0) rfl (by decide) rfl ⟨rfl, rfl⟩ rfl rfl g rfl (by omega) (fun h28 g28 w28 u28 => ?_)
    have F29 := F0.then rfl u28
    refine wi_iload_n (i := 1) (e := h 236 21) (nx := 17) (r1 := 0) (r2 := 0) (r3 := 0) rfl rfl ?_
    refine wi_zreturn (nx := 18) (r1 := 0) (r2 := 0) (r3 := 0) rfl rfl (by omega) ?_
    refine wk_i ?_
    refine wi_if (cd := .ne) (nx := 11) (r1 := 13) (r2 := 0) (r3 := 0) rfl (by omega) (fun (q30 : (h 236 21) ≠ 0) => ?_) (fun (q30 : ¬ ((h 236 21) ≠ 0)) => by exfalso; omega)
    refine wi_aload_n (i := 0) (x := 236) (nx := 14) (r1 := 0) (r2 := 0) (r3 := 0) rfl rfl ?_
    refine wr_gr (k0 := 236) (x := 241) (nx := 17) (r1 := 11) (r2 := 16) (r3 := 0) rfl rfl (by decide) rfl ⟨rfl, rfl⟩ rfl ?_
    refine wi_aload_n (i := 0) (x := 236) (nx := 18) (r1 := 0) (r2 := 0) (r3 := 0) rfl rfl ?_
    refine wr_gr (k0 := 236) (x := 238) (nx := 21) (r1 := 11) (r2 := 13) (r3 := 0) rfl rfl (by decide) rfl ⟨rfl, rfl⟩ rfl ?_
    refine wi_S (rest := []) (as := [.ref 241, .ref 238]) (nx := 24) (r1 := 238) (r2 := 18) (r3 := 0) rfl rfl rfl (of_decide_eq_true rfl) rfl rfl (of_decide_eq_true rfl) (of_decide_eq_true rfl) ?_
    refine ct_238_241_238 hcr  g28    (fun h31 g31 u31 y31_0 => ?_)
    have F32 := F29.then (by decide +kernel) u31
    refine wk_n ?_
    refine wi_iconst (n := 0) (nx := 25) (r1 := 0) (r2 := 0) (r3 := 0) rfl ?_
    refine wi_istore_n (i := 1) (e := 0) (lo2 := [(1, vi 0), (0, .ref 236)]) (nx := 26) (r1 := 0) (r2 := 0) (r3 := 0) rfl rfl ?_
    refine wp.lo (lo := [(0, .ref 236), (1, vi 0)]) ⟨rfl, rfl, trivial⟩ rfl ?_
    refine wl_1 (fun x33 h34 => GI h34 ∧ FR [(238, 238, none), (243, 243, none), (236, 236, some (0, 0)), (236, 236, some (22, 22))] h h34 ∧ FR [(243, 243, none)] h31 h34 ∧ ((0 ≤ x33 ∧ x33 ≤ 5))) (fun x33 h34 => ((5 : Int) + 1 - x33).toNat) (fun x33 h34 => (26, [(0, .ref 236), (1, vi x33)], [], hp_w h34 cr, b, c)) ?_ 0 h31 ⟨g31, F32, FR.refl, (show (0 ≤ 0 ∧ 0 ≤ 5) by omega)⟩
    intro x33 h34 ⟨g34, F35, u34, f34⟩ I34
    refine wi_iload_n (i := 1) (e := x33) (nx := 27) (r1 := 0) (r2 := 0) (r3 := 0) rfl rfl ?_
    refine wi_iconst (n := 5) (nx := 28) (r1 := 0) (r2 := 0) (r3 := 0) rfl ?_
    refine wi_icmp (cd := .ge) (nx := 31) (r1 := 49) (r2 := 0) (r3 := 0) rfl (by omega) (by omega) (fun (q36 : 5 ≤ x33) => ?_) (fun (q36 : ¬ (5 ≤ x33)) => ?_)
    ·
      refine wi_aload_n (i := 0) (x := 236) (nx := 50) (r1 := 0) (r2 := 0) (r3 := 0) rfl rfl ?_
      refine wi_iconst (n := 0) (nx := 51) (r1 := 0) (r2 := 0) (r3 := 0) rfl ?_
      refine wr_pf0 (k0 := 236) (x := 0) (bl := 0) (bh := 6) (nx := 54) (r1 := 11) (r2 := 22) (r3 := 0) rfl (by decide) rfl ⟨rfl, rfl⟩ rfl rfl g34 rfl (by omega) (fun h37 g37 w37 u37 => ?_)
      have F38 := F35.then rfl u37
      refine wi_aload_n (i := 0) (x := 236) (nx := 55) (r1 := 0) (r2 := 0) (r3 := 0) rfl rfl ?_
      refine wr_gr (k0 := 236) (x := 238) (nx := 58) (r1 := 11) (r2 := 13) (r3 := 0) rfl rfl (by decide) rfl ⟨rfl, rfl⟩ rfl ?_
      refine wi_bipush (n := 67) (nx := 60) (r1 := 0) (r2 := 0) (r3 := 0) rfl (by decide) ?_
      refine wr_ia (k0 := 238) (a := 67) (f := 67) (x := h 241 67) (nx := 61) (r1 := 0) (r2 := 0) (r3 := 0) rfl (by decide) rfl (by omega) (by omega) (by decide) ((u37 238 67 rfl).trans ((u34 238 67 rfl).trans ((y31_0 67 (by decide)).trans (u28 241 67 rfl)))) ?_
      refine wi_ireturn (nx := 62) (r1 := 0) (r2 := 0) (r3 := 0) rfl rfl ?_
      have e39 : h37 236 0 = 0 := ((u37 236 0 rfl).trans ((u34 236 0 rfl).trans ((u31 236 0 rfl).trans w28)))
      have e40 : h37 236 22 = 0 := w37
      have b41 := gi_b (lo := 0) (hi := 6) g 236 22 rfl
      have e42 : h37 238 98 = h 241 98 := ((u37 238 98 rfl).trans ((u34 238 98 rfl).trans ((y31_0 98 (by decide)).trans (u28 241 98 rfl))))
      have e43 : h37 238 99 = h 241 99 := ((u37 238 99 rfl).trans ((u34 238 99 rfl).trans ((y31_0 99 (by decide)).trans (u28 241 99 rfl))))
      have e44 : h37 238 100 = h 241 100 := ((u37 238 100 rfl).trans ((u34 238 100 rfl).trans ((y31_0 100 (by decide)).trans (u28 241 100 rfl))))
      have e45 : h37 238 101 = h 241 101 := ((u37 238 101 rfl).trans ((u34 238 101 rfl).trans ((y31_0 101 (by decide)).trans (u28 241 101 rfl))))
      have e46 : h37 238 102 = h 241 102 := ((u37 238 102 rfl).trans ((u34 238 102 rfl).trans ((y31_0 102 (by decide)).trans (u28 241 102 rfl))))
      have e47 : h37 238 106 = h 241 106 := ((u37 238 106 rfl).trans ((u34 238 106 rfl).trans ((y31_0 106 (by decide)).trans (u28 241 106 rfl))))
      have e48 : h37 238 73 = h 241 73 := ((u37 238 73 rfl).trans ((u34 238 73 rfl).trans ((y31_0 73 (by decide)).trans (u28 241 73 rfl))))
      have e49 : h37 238 2 = h 241 2 := ((u37 238 2 rfl).trans ((u34 238 2 rfl).trans ((y31_0 2 (by decide)).trans (u28 241 2 rfl))))
      have e50 : h37 238 119 = h 241 119 := ((u37 238 119 rfl).trans ((u34 238 119 rfl).trans ((y31_0 119 (by decide)).trans (u28 241 119 rfl))))
      have e51 : h37 238 67 = h 241 67 := ((u37 238 67 rfl).trans ((u34 238 67 rfl).trans ((y31_0 67 (by decide)).trans (u28 241 67 rfl))))
      have e52 : h37 238 69 = h 241 69 := ((u37 238 69 rfl).trans ((u34 238 69 rfl).trans ((y31_0 69 (by decide)).trans (u28 241 69 rfl))))
      have e53 : h37 238 5 = h 241 5 := ((u37 238 5 rfl).trans ((u34 238 5 rfl).trans ((y31_0 5 (by decide)).trans (u28 241 5 rfl))))
      exact k h37 (h 241 67) g37 F38 (by omega) (show ((h 236 21) = 0 ∧ (h37 236 0) = 1 ∧ (h37 236 22) = (h 236 22)) ∨ ((h 236 21) = 1 ∧ (h37 236 0) = 0 ∧ (h37 236 22) = 0) by omega) (show (h37 238 98) + (h37 238 99) + (h37 238 100) + (h37 238 101) + (h37 238 102) + (h37 238 106) = (h37 238 73) by omega) (show (h37 238 73) ≤ (h37 238 2) by omega) (show (h37 238 119) ≤ (h37 238 67) by omega) (show (h37 238 69) ≤ (h37 238 5) by omega) (show (h37 238 2) ≤ 12 * (h37 238 5) by omega) (fun _ i _ => ((u37 238 i (fn_a (by omega) fn_0)).trans ((u34 238 i (fn_a (by decide) fn_0)).trans ((y31_0 i (by omega)).trans (u28 241 i (fn_a (by omega) fn_0)))))) (fun e => absurd e (by omega))
    ·
      refine wi_aload_n (i := 0) (x := 236) (nx := 32) (r1 := 0) (r2 := 0) (r3 := 0) rfl rfl ?_
      refine wr_gr (k0 := 236) (x := 243) (nx := 35) (r1 := 11) (r2 := 18) (r3 := 0) rfl rfl (by decide) rfl ⟨rfl, rfl⟩ rfl ?_
      refine wi_iload_n (i := 1) (e := x33) (nx := 36) (r1 := 0) (r2 := 0) (r3 := 0) rfl rfl ?_
      refine wi_aload_n (i := 0) (x := 236) (nx := 37) (r1 := 0) (r2 := 0) (r3 := 0) rfl rfl ?_
      refine wr_gr (k0 := 236) (x := 245) (nx := 40) (r1 := 11) (r2 := 20) (r3 := 0) rfl rfl (by decide) rfl ⟨rfl, rfl⟩ rfl ?_
      refine wi_iload_n (i := 1) (e := x33) (nx := 41) (r1 := 0) (r2 := 0) (r3 := 0) rfl rfl ?_
      obtain ⟨i37, ei37⟩ : ∃ q : Nat, x33 = (q : Int) := ⟨(x33).toNat, by omega⟩
      have b38 := gi_b (lo := -9223372036854775808) (hi := 9223372036854775807) g 245 i37 rfl
      refine wr_la (k0 := 245) (a := x33) (f := i37) (x := h 245 i37) (nx := 42) (r1 := 0) (r2 := 0) (r3 := 0) rfl (by decide) rfl (by omega) (by omega) (by decide) ((u34 245 i37 (fn_a (by decide) fn_0)).trans ((u31 245 i37 (fn_a (by decide) fn_0)).trans (u28 245 i37 (fn_a (by omega) fn_0)))) ?_
      refine wr_ls (k0 := 243) (a := x33) (f := i37) (x := h 245 i37) (bl := -9223372036854775808) (bh := 9223372036854775807) (nx := 43) (r1 := 0) (r2 := 0) (r3 := 0) rfl (by decide) rfl (by omega) (by omega) (by decide) g34 rfl (by omega) (fun h39 g39 w39 u39 => ?_)
      have F40 := F35.then rfl (FR.rngp (lo := 243) (hi := 243) u39 (by decide))
      have F41 := u34.then rfl (FR.rngp (lo := 243) (hi := 243) u39 (by decide))
      refine wr_iinc (i := 1) (n := 1) (v := x33) (fun e42 => [(1, vi e42), (0, .ref 236)]) (nx := 46) (r1 := 0) (r2 := 0) (r3 := 0) rfl rfl (fun _ => rfl) (fun e42 (fe42 : e42 = x33 + 1) => ?_)
      refine wi_goto (nx := 49) (r1 := 26) (r2 := 0) (r3 := 0) rfl ?_
      refine wp.lo (lo := [(0, .ref 236), (1, vi e42)]) ⟨rfl, rfl, trivial⟩ rfl ?_
      exact I34 e42 h39 ⟨g39, F40, F41, (show (0 ≤ e42 ∧ e42 ≤ 5) by omega)⟩ (show ((5 : Int) + 1 - e42).toNat < ((5 : Int) + 1 - x33).toNat by omega)
  ·
    refine wi_iconst (n := 1) (nx := 6) (r1 := 0) (r2 := 0) (r3 := 0) rfl ?_
    refine wi_goto (nx := 9) (r1 := 10) (r2 := 0) (r3 := 0) rfl ?_
    refine wi_S (rest := [.ref 236]) (as := [vi 1]) (nx := 13) (r1 := 207) (r2 := 17) (r3 := 0) rfl rfl rfl (of_decide_eq_true rfl) rfl rfl (of_decide_eq_true rfl) (of_decide_eq_true rfl) ?_
    refine wi_iload_n (i := 0) (e := 1) (nx := 1) (r1 := 0) (r2 := 0) (r3 := 0) rfl rfl ?_
    refine wi_if (cd := .eq) (nx := 4) (r1 := 8) (r2 := 0) (r3 := 0) rfl (by omega) (fun (q27 : 1 = 0) => by exfalso; omega) (fun (q27 : ¬ (1 = 0)) => ?_)
    refine wi_iconst (n := 1) (nx := 5) (r1 := 0) (r2 := 0) (r3 := 0) rfl ?_
    refine wi_goto (nx := 8) (r1 := 9) (r2 := 0) (r3 := 0) rfl ?_
    refine wi_ireturn (nx := 10) (r1 := 0) (r2 := 0) (r3 := 0) rfl rfl ?_
    refine wk_i ?_
    refine wr_pf0 (k0 := 236) (x := 1) (bl := 0) (bh := 2) (nx := 16) (r1 := 11) (r2 := 0) (r3 := 0) rfl (by decide) rfl ⟨rfl, rfl⟩ rfl rfl g rfl (by omega) (fun h28 g28 w28 u28 => ?_)
    have F29 := F0.then rfl u28
    refine wi_iload_n (i := 1) (e := h 236 21) (nx := 17) (r1 := 0) (r2 := 0) (r3 := 0) rfl rfl ?_
    refine wi_zreturn (nx := 18) (r1 := 0) (r2 := 0) (r3 := 0) rfl rfl (by omega) ?_
    refine wk_i ?_
    refine wi_if (cd := .ne) (nx := 11) (r1 := 13) (r2 := 0) (r3 := 0) rfl (by omega) (fun (q30 : (h 236 21) ≠ 0) => by exfalso; omega) (fun (q30 : ¬ ((h 236 21) ≠ 0)) => ?_)
    refine wi_iconst (n := 0) (nx := 12) (r1 := 0) (r2 := 0) (r3 := 0) rfl ?_
    refine wi_ireturn (nx := 13) (r1 := 0) (r2 := 0) (r3 := 0) rfl rfl ?_
    have e31 : h28 236 0 = 1 := w28
    have b32 := gi_b (lo := 0) (hi := 6) g 236 22 rfl
    have e33 : h28 236 22 = h 236 22 := (u28 236 22 rfl)
    have e34 : h28 238 98 = h 238 98 := (u28 238 98 rfl)
    have e35 : h28 238 99 = h 238 99 := (u28 238 99 rfl)
    have e36 : h28 238 100 = h 238 100 := (u28 238 100 rfl)
    have e37 : h28 238 101 = h 238 101 := (u28 238 101 rfl)
    have e38 : h28 238 102 = h 238 102 := (u28 238 102 rfl)
    have e39 : h28 238 106 = h 238 106 := (u28 238 106 rfl)
    have e40 : h28 238 73 = h 238 73 := (u28 238 73 rfl)
    have e41 : h28 238 2 = h 238 2 := (u28 238 2 rfl)
    have e42 : h28 238 119 = h 238 119 := (u28 238 119 rfl)
    have e43 : h28 238 67 = h 238 67 := (u28 238 67 rfl)
    have e44 : h28 238 69 = h 238 69 := (u28 238 69 rfl)
    have e45 : h28 238 5 = h 238 5 := (u28 238 5 rfl)
    exact k h28 0 g28 F29 (by omega) (show ((h 236 21) = 0 ∧ (h28 236 0) = 1 ∧ (h28 236 22) = (h 236 22)) ∨ ((h 236 21) = 1 ∧ (h28 236 0) = 0 ∧ (h28 236 22) = 0) by omega) (show (h28 238 98) + (h28 238 99) + (h28 238 100) + (h28 238 101) + (h28 238 102) + (h28 238 106) = (h28 238 73) by omega) (show (h28 238 73) ≤ (h28 238 2) by omega) (show (h28 238 119) ≤ (h28 238 67) by omega) (show (h28 238 69) ≤ (h28 238 5) by omega) (show (h28 238 2) ≤ 12 * (h28 238 5) by omega) (fun e => absurd e (by omega)) (fun _ i _ => (u28 238 i (fn_a (by omega) fn_0)))
-- method 241: Model.room(I)I
set_option maxRecDepth 100000 in
set_option maxHeartbeats 100000000 in
theorem ct_241_236 {L : Nat} {xs : Nat → Int32} {d b c : Nat} {h : hp} {cr : Nat → Nat → Option Nat} {Q : hp_Q} (hcr : CR cr)  (g : GI h) (a0 : Int) (q0_ : -2147483648 ≤ a0 ∧ a0 ≤ 2147483647)  (k : ∀ (h2 : hp) (z0 : Int) , GI h2 → FR [(236, 236, some (0, 0))] h h2 → (0 ≤ z0 ∧ z0 ≤ 6) → ((0 ≤ a0 ∧ a0 < h 238 1 ∧ h2 236 0 = 0) ∨ ((a0 < 0 ∨ h 238 1 ≤ a0) ∧ h2 236 0 = 1)) → (0 ≤ a0 → a0 < h 238 1 → z0 = h 238 (15 + a0.toNat)) → Q (.inl (some (vi z0))) (hp_w h2 cr) b c) : wp (md_xa (L, xs)) (d + 2) 241 (0, [(0, .ref 236), (1, vi a0)], [], hp_w h cr, b, c) Q := by
  have F0 : FR [(236, 236, some (0, 0))] h h := FR.refl
  refine wi_aload_n (i := 0) (x := 236) (nx := 1) (r1 := 0) (r2 := 0) (r3 := 0) rfl rfl ?_
  refine wi_aload_n (i := 0) (x := 236) (nx := 2) (r1 := 0) (r2 := 0) (r3 := 0) rfl rfl ?_
  refine wi_iload_n (i := 1) (e := a0) (nx := 3) (r1 := 0) (r2 := 0) (r3 := 0) rfl rfl ?_
  refine wr_V (k0 := 236) (rest := [.ref 236]) (as := [.ref 236, vi a0]) (nx := 6) (r1 := 242) (r2 := 1) (r3 := 11) rfl rfl rfl (of_decide_eq_true rfl) rfl rfl (by decide) rfl rfl (of_decide_eq_true rfl) (of_decide_eq_true rfl) ?_
  refine wi_iload_n (i := 1) (e := a0) (nx := 1) (r1 := 0) (r2 := 0) (r3 := 0) rfl rfl ?_
  refine wi_i2l (nx := 2) (r1 := 0) (r2 := 0) (r3 := 0) rfl (by omega) ?_
  refine wi_lconst (n := 0) (e := 0) (nx := 3) (r1 := 0) (r2 := 0) (r3 := 0) rfl (by decide) ?_
  refine wi_aload_n (i := 0) (x := 236) (nx := 4) (r1 := 0) (r2 := 0) (r3 := 0) rfl rfl ?_
  refine wr_gr (k0 := 236) (x := 238) (nx := 7) (r1 := 11) (r2 := 13) (r3 := 0) rfl rfl (by decide) rfl ⟨rfl, rfl⟩ rfl ?_
  refine wi_iconst (n := 1) (nx := 8) (r1 := 0) (r2 := 0) (r3 := 0) rfl ?_
  have b1 := gi_b (lo := 0) (hi := 4) g 238 1 rfl
  refine wr_ia (k0 := 238) (a := 1) (f := 1) (x := h 238 1) (nx := 9) (r1 := 0) (r2 := 0) (r3 := 0) rfl (by decide) rfl (by omega) (by omega) (by decide) rfl ?_
  refine wi_iconst (n := 1) (nx := 10) (r1 := 0) (r2 := 0) (r3 := 0) rfl ?_
  refine wr_sub (nx := 11) (r1 := 0) (r2 := 0) (r3 := 0) rfl (fun e2 (fe2 : e2 = (h 238 1) - 1) => ?_)
  refine wi_i2l (nx := 12) (r1 := 0) (r2 := 0) (r3 := 0) rfl (by omega) ?_
  refine wi_S (rest := []) (as := [vl a0, vl 0, vl e2]) (nx := 15) (r1 := 210) (r2 := 19) (r3 := 0) rfl rfl rfl (of_decide_eq_true rfl) rfl rfl (of_decide_eq_true rfl) (of_decide_eq_true rfl) ?_
  refine wi_lload_n (i := 0) (e := a0) (nx := 1) (r1 := 0) (r2 := 0) (r3 := 0) rfl rfl ?_
  refine wi_lload_n (i := 2) (e := 0) (nx := 2) (r1 := 0) (r2 := 0) (r3 := 0) rfl rfl ?_
  refine wi_lcmp (a := a0) (e := 0) (nx := 3) (r1 := 0) (r2 := 0) (r3 := 0) rfl (by omega) (by omega) (fun r3 (fr3 : (r3 = -1 ∧ a0 < 0) ∨ (r3 = 0 ∧ a0 = 0) ∨ (r3 = 1 ∧ 0 < a0)) => ?_)
  refine wi_if (cd := .lt) (nx := 6) (r1 := 17) (r2 := 0) (r3 := 0) rfl (by omega) (fun (q4 : r3 < 0) => ?_) (fun (q4 : ¬ (r3 < 0)) => ?_)
  ·
    refine wi_iconst (n := 0) (nx := 18) (r1 := 0) (r2 := 0) (r3 := 0) rfl ?_
    refine wi_zreturn (nx := 19) (r1 := 0) (r2 := 0) (r3 := 0) rfl rfl (by omega) ?_
    refine wk_i ?_
    refine wi_zreturn (nx := 16) (r1 := 0) (r2 := 0) (r3 := 0) rfl rfl (by omega) ?_
    refine wk_i ?_
    refine wr_V (k0 := 236) (rest := []) (as := [.ref 236, vi 0]) (nx := 9) (r1 := 206) (r2 := 1) (r3 := 11) rfl rfl rfl (of_decide_eq_true rfl) rfl rfl (by decide) rfl rfl (of_decide_eq_true rfl) (of_decide_eq_true rfl) ?_
    refine wi_aload_n (i := 0) (x := 236) (nx := 1) (r1 := 0) (r2 := 0) (r3 := 0) rfl rfl ?_
    refine wi_iload_n (i := 1) (e := 0) (nx := 2) (r1 := 0) (r2 := 0) (r3 := 0) rfl rfl ?_
    refine wi_if (cd := .ne) (nx := 5) (r1 := 9) (r2 := 0) (r3 := 0) rfl (by omega) (fun (q5 : 0 ≠ 0) => by exfalso; omega) (fun (q5 : ¬ (0 ≠ 0)) => ?_)
    refine wi_iconst (n := 1) (nx := 6) (r1 := 0) (r2 := 0) (r3 := 0) rfl ?_
    refine wi_goto (nx := 9) (r1 := 10) (r2 := 0) (r3 := 0) rfl ?_
    refine wi_S (rest := [.ref 236]) (as := [vi 1]) (nx := 13) (r1 := 207) (r2 := 17) (r3 := 0) rfl rfl rfl (of_decide_eq_true rfl) rfl rfl (of_decide_eq_true rfl) (of_decide_eq_true rfl) ?_
    refine wi_iload_n (i := 0) (e := 1) (nx := 1) (r1 := 0) (r2 := 0) (r3 := 0) rfl rfl ?_
    refine wi_if (cd := .eq) (nx := 4) (r1 := 8) (r2 := 0) (r3 := 0) rfl (by omega) (fun (q6 : 1 = 0) => by exfalso; omega) (fun (q6 : ¬ (1 = 0)) => ?_)
    refine wi_iconst (n := 1) (nx := 5) (r1 := 0) (r2 := 0) (r3 := 0) rfl ?_
    refine wi_goto (nx := 8) (r1 := 9) (r2 := 0) (r3 := 0) rfl ?_
    refine wi_ireturn (nx := 10) (r1 := 0) (r2 := 0) (r3 := 0) rfl rfl ?_
    refine wk_i ?_
    refine wr_pf0 (k0 := 236) (x := 1) (bl := 0) (bh := 2) (nx := 16) (r1 := 11) (r2 := 0) (r3 := 0) rfl (by decide) rfl ⟨rfl, rfl⟩ rfl rfl g rfl (by omega) (fun h7 g7 w7 u7 => ?_)
    have F8 := F0.then rfl u7
    refine wi_iload_n (i := 1) (e := 0) (nx := 17) (r1 := 0) (r2 := 0) (r3 := 0) rfl rfl ?_
    refine wi_zreturn (nx := 18) (r1 := 0) (r2 := 0) (r3 := 0) rfl rfl (by omega) ?_
    refine wk_i ?_
    refine wi_if (cd := .eq) (nx := 12) (r1 := 24) (r2 := 0) (r3 := 0) rfl (by omega) (fun (q9 : 0 = 0) => ?_) (fun (q9 : ¬ (0 = 0)) => by exfalso; omega)
    refine wi_iconst (n := 0) (nx := 25) (r1 := 0) (r2 := 0) (r3 := 0) rfl ?_
    refine wi_ireturn (nx := 26) (r1 := 0) (r2 := 0) (r3 := 0) rfl rfl ?_
    have e10 : h7 236 0 = 1 := w7
    exact k h7 0 g7 F8 (by omega) (show (0 ≤ a0 ∧ a0 < (h 238 1) ∧ (h7 236 0) = 0) ∨ ((a0 < 0 ∨ (h 238 1) ≤ a0) ∧ (h7 236 0) = 1) by omega) (fun e1 e2 => by exfalso; omega)
  ·
    refine wi_lload_n (i := 0) (e := a0) (nx := 7) (r1 := 0) (r2 := 0) (r3 := 0) rfl rfl ?_
    refine wi_lload (i := 4) (e := e2) (nx := 9) (r1 := 0) (r2 := 0) (r3 := 0) rfl rfl ?_
    refine wi_lcmp (a := a0) (e := e2) (nx := 10) (r1 := 0) (r2 := 0) (r3 := 0) rfl (by omega) (by omega) (fun r5 (fr5 : (r5 = -1 ∧ a0 < e2) ∨ (r5 = 0 ∧ a0 = e2) ∨ (r5 = 1 ∧ e2 < a0)) => ?_)
    refine wi_if (cd := .gt) (nx := 13) (r1 := 17) (r2 := 0) (r3 := 0) rfl (by omega) (fun (q6 : 0 < r5) => ?_) (fun (q6 : ¬ (0 < r5)) => ?_)
    ·
      refine wi_iconst (n := 0) (nx := 18) (r1 := 0) (r2 := 0) (r3 := 0) rfl ?_
      refine wi_zreturn (nx := 19) (r1 := 0) (r2 := 0) (r3 := 0) rfl rfl (by omega) ?_
      refine wk_i ?_
      refine wi_zreturn (nx := 16) (r1 := 0) (r2 := 0) (r3 := 0) rfl rfl (by omega) ?_
      refine wk_i ?_
      refine wr_V (k0 := 236) (rest := []) (as := [.ref 236, vi 0]) (nx := 9) (r1 := 206) (r2 := 1) (r3 := 11) rfl rfl rfl (of_decide_eq_true rfl) rfl rfl (by decide) rfl rfl (of_decide_eq_true rfl) (of_decide_eq_true rfl) ?_
      refine wi_aload_n (i := 0) (x := 236) (nx := 1) (r1 := 0) (r2 := 0) (r3 := 0) rfl rfl ?_
      refine wi_iload_n (i := 1) (e := 0) (nx := 2) (r1 := 0) (r2 := 0) (r3 := 0) rfl rfl ?_
      refine wi_if (cd := .ne) (nx := 5) (r1 := 9) (r2 := 0) (r3 := 0) rfl (by omega) (fun (q7 : 0 ≠ 0) => by exfalso; omega) (fun (q7 : ¬ (0 ≠ 0)) => ?_)
      refine wi_iconst (n := 1) (nx := 6) (r1 := 0) (r2 := 0) (r3 := 0) rfl ?_
      refine wi_goto (nx := 9) (r1 := 10) (r2 := 0) (r3 := 0) rfl ?_
      refine wi_S (rest := [.ref 236]) (as := [vi 1]) (nx := 13) (r1 := 207) (r2 := 17) (r3 := 0) rfl rfl rfl (of_decide_eq_true rfl) rfl rfl (of_decide_eq_true rfl) (of_decide_eq_true rfl) ?_
      refine wi_iload_n (i := 0) (e := 1) (nx := 1) (r1 := 0) (r2 := 0) (r3 := 0) rfl rfl ?_
      refine wi_if (cd := .eq) (nx := 4) (r1 := 8) (r2 := 0) (r3 := 0) rfl (by omega) (fun (q8 : 1 = 0) => by exfalso; omega) (fun (q8 : ¬ (1 = 0)) => ?_)
      refine wi_iconst (n := 1) (nx := 5) (r1 := 0) (r2 := 0) (r3 := 0) rfl ?_
      refine wi_goto (nx := 8) (r1 := 9) (r2 := 0) (r3 := 0) rfl ?_
      refine wi_ireturn (nx := 10) (r1 := 0) (r2 := 0) (r3 := 0) rfl rfl ?_
      refine wk_i ?_
      refine wr_pf0 (k0 := 236) (x := 1) (bl := 0) (bh := 2) (nx := 16) (r1 := 11) (r2 := 0) (r3 := 0) rfl (by decide) rfl ⟨rfl, rfl⟩ rfl rfl g rfl (by omega) (fun h9 g9 w9 u9 => ?_)
      have F10 := F0.then rfl u9
      refine wi_iload_n (i := 1) (e := 0) (nx := 17) (r1 := 0) (r2 := 0) (r3 := 0) rfl rfl ?_
      refine wi_zreturn (nx := 18) (r1 := 0) (r2 := 0) (r3 := 0) rfl rfl (by omega) ?_
      refine wk_i ?_
      refine wi_if (cd := .eq) (nx := 12) (r1 := 24) (r2 := 0) (r3 := 0) rfl (by omega) (fun (q11 : 0 = 0) => ?_) (fun (q11 : ¬ (0 = 0)) => by exfalso; omega)
      refine wi_iconst (n := 0) (nx := 25) (r1 := 0) (r2 := 0) (r3 := 0) rfl ?_
      refine wi_ireturn (nx := 26) (r1 := 0) (r2 := 0) (r3 := 0) rfl rfl ?_
      have e12 : h9 236 0 = 1 := w9
      exact k h9 0 g9 F10 (by omega) (show (0 ≤ a0 ∧ a0 < (h 238 1) ∧ (h9 236 0) = 0) ∨ ((a0 < 0 ∨ (h 238 1) ≤ a0) ∧ (h9 236 0) = 1) by omega) (fun e1 e2 => by exfalso; omega)
    ·
      refine wi_iconst (n := 1) (nx := 14) (r1 := 0) (r2 := 0) (r3 := 0) rfl ?_
      refine wi_goto (nx := 17) (r1 := 18) (r2 := 0) (r3 := 0) rfl ?_
      refine wi_zreturn (nx := 19) (r1 := 0) (r2 := 0) (r3 := 0) rfl rfl (by omega) ?_
      refine wk_i ?_
      refine wi_zreturn (nx := 16) (r1 := 0) (r2 := 0) (r3 := 0) rfl rfl (by omega) ?_
      refine wk_i ?_
      refine wr_V (k0 := 236) (rest := []) (as := [.ref 236, vi 1]) (nx := 9) (r1 := 206) (r2 := 1) (r3 := 11) rfl rfl rfl (of_decide_eq_true rfl) rfl rfl (by decide) rfl rfl (of_decide_eq_true rfl) (of_decide_eq_true rfl) ?_
      refine wi_aload_n (i := 0) (x := 236) (nx := 1) (r1 := 0) (r2 := 0) (r3 := 0) rfl rfl ?_
      refine wi_iload_n (i := 1) (e := 1) (nx := 2) (r1 := 0) (r2 := 0) (r3 := 0) rfl rfl ?_
      refine wi_if (cd := .ne) (nx := 5) (r1 := 9) (r2 := 0) (r3 := 0) rfl (by omega) (fun (q7 : 1 ≠ 0) => ?_) (fun (q7 : ¬ (1 ≠ 0)) => by exfalso; omega)
      refine wi_iconst (n := 0) (nx := 10) (r1 := 0) (r2 := 0) (r3 := 0) rfl ?_
      refine wi_S (rest := [.ref 236]) (as := [vi 0]) (nx := 13) (r1 := 207) (r2 := 17) (r3 := 0) rfl rfl rfl (of_decide_eq_true rfl) rfl rfl (of_decide_eq_true rfl) (of_decide_eq_true rfl) ?_
      refine wi_iload_n (i := 0) (e := 0) (nx := 1) (r1 := 0) (r2 := 0) (r3 := 0) rfl rfl ?_
      refine wi_if (cd := .eq) (nx := 4) (r1 := 8) (r2 := 0) (r3 := 0) rfl (by omega) (fun (q8 : 0 = 0) => ?_) (fun (q8 : ¬ (0 = 0)) => by exfalso; omega)
      refine wi_iconst (n := 0) (nx := 9) (r1 := 0) (r2 := 0) (r3 := 0) rfl ?_
      refine wi_ireturn (nx := 10) (r1 := 0) (r2 := 0) (r3 := 0) rfl rfl ?_
      refine wk_i ?_
      refine wr_pf0 (k0 := 236) (x := 0) (bl := 0) (bh := 2) (nx := 16) (r1 := 11) (r2 := 0) (r3 := 0) rfl (by decide) rfl ⟨rfl, rfl⟩ rfl rfl g rfl (by omega) (fun h9 g9 w9 u9 => ?_)
      have F10 := F0.then rfl u9
      refine wi_iload_n (i := 1) (e := 1) (nx := 17) (r1 := 0) (r2 := 0) (r3 := 0) rfl rfl ?_
      refine wi_zreturn (nx := 18) (r1 := 0) (r2 := 0) (r3 := 0) rfl rfl (by omega) ?_
      refine wk_i ?_
      refine wi_if (cd := .eq) (nx := 12) (r1 := 24) (r2 := 0) (r3 := 0) rfl (by omega) (fun (q11 : 1 = 0) => by exfalso; omega) (fun (q11 : ¬ (1 = 0)) => ?_)
      refine wi_aload_n (i := 0) (x := 236) (nx := 13) (r1 := 0) (r2 := 0) (r3 := 0) rfl rfl ?_
      refine wr_gr (k0 := 236) (x := 238) (nx := 16) (r1 := 11) (r2 := 13) (r3 := 0) rfl rfl (by decide) rfl ⟨rfl, rfl⟩ rfl ?_
      refine wi_bipush (n := 15) (nx := 18) (r1 := 0) (r2 := 0) (r3 := 0) rfl (by decide) ?_
      refine wi_iload_n (i := 1) (e := a0) (nx := 19) (r1 := 0) (r2 := 0) (r3 := 0) rfl rfl ?_
      refine wr_add (nx := 20) (r1 := 0) (r2 := 0) (r3 := 0) rfl (fun e12 (fe12 : e12 = 15 + a0) => ?_)
      obtain ⟨i13, ei13⟩ : ∃ q : Nat, e12 = (q : Int) := ⟨(e12).toNat, by omega⟩
      have b14 := gi_b (lo := 0) (hi := 6) g 238 i13 (gi_rg 15 4 (fun _ => rfl) (by decide +kernel) (by omega))
      refine wr_ia (k0 := 238) (a := e12) (f := i13) (x := h 238 i13) (nx := 21) (r1 := 0) (r2 := 0) (r3 := 0) rfl (by decide) rfl (by omega) (by omega) (by decide) (u9 238 i13 (fn_a (by omega) fn_0)) ?_
      refine wi_goto (nx := 24) (r1 := 25) (r2 := 0) (r3 := 0) rfl ?_
      refine wi_ireturn (nx := 26) (r1 := 0) (r2 := 0) (r3 := 0) rfl rfl ?_
      have e15 : h9 236 0 = 0 := w9
      exact k h9 (h 238 i13) g9 F10 (by omega) (show (0 ≤ a0 ∧ a0 < (h 238 1) ∧ (h9 236 0) = 0) ∨ ((a0 < 0 ∨ (h 238 1) ≤ a0) ∧ (h9 236 0) = 1) by omega) (fun _ _ => (show h 238 i13 = h 238 (15 + a0.toNat) by rw [show (15 + a0.toNat) = i13 by omega]))
-- method 238: Model.copies([I[I)V
set_option maxRecDepth 100000 in
set_option maxHeartbeats 100000000 in
theorem ct_238_238_240 {L : Nat} {xs : Nat → Int32} {d b c : Nat} {h : hp} {cr : Nat → Nat → Option Nat} {Q : hp_Q} (hcr : CR cr)  (g : GI h)    (k : ∀ (h2 : hp) , GI h2 → FR [(240, 240, none)] h h2 → (∀ q : Nat, q < 200 → h2 240 q = h 238 q) → Q (.inl none) (hp_w h2 cr) b c) : wp (md_xa (L, xs)) d 238 (0, [(0, .ref 238), (1, .ref 240)], [], hp_w h cr, b, c) Q := by
  have F0 : FR [(240, 240, none)] h h := FR.refl
  refine wi_iconst (n := 0) (nx := 1) (r1 := 0) (r2 := 0) (r3 := 0) rfl ?_
  refine wi_istore_n (i := 2) (e := 0) (lo2 := [(2, vi 0), (0, .ref 238), (1, .ref 240)]) (nx := 2) (r1 := 0) (r2 := 0) (r3 := 0) rfl rfl ?_
  refine wp.lo (lo := [(0, .ref 238), (1, .ref 240), (2, vi 0)]) ⟨rfl, rfl, rfl, trivial⟩ rfl ?_
  refine wl_1 (fun x1 h2 => GI h2 ∧ FR [(240, 240, none)] h h2 ∧ FR [(240, 240, none)] h h2 ∧ ((0 ≤ x1 ∧ x1 ≤ 200)) ∧ (∀ q : Nat, (q : Int) < x1 → h2 240 q = h 238 q) ∧ (∀ q : Nat, x1 ≤ (q : Int) → h2 240 q = h 240 q)) (fun x1 h2 => ((200 : Int) + 1 - x1).toNat) (fun x1 h2 => (2, [(0, .ref 238), (1, .ref 240), (2, vi x1)], [], hp_w h2 cr, b, c)) ?_ 0 h ⟨g, F0, FR.refl, (show (0 ≤ 0 ∧ 0 ≤ 200) by omega), (fun q e => absurd e (by omega)), (fun _ _ => rfl)⟩
  intro x1 h2 ⟨g2, F3, u2, f2, XA2, XB2⟩ I2
  refine wi_iload_n (i := 2) (e := x1) (nx := 3) (r1 := 0) (r2 := 0) (r3 := 0) rfl rfl ?_
  refine wi_sipush (n := 200) (nx := 6) (r1 := 0) (r2 := 0) (r3 := 0) rfl (by decide) ?_
  refine wi_icmp (cd := .ge) (nx := 9) (r1 := 21) (r2 := 0) (r3 := 0) rfl (by omega) (by omega) (fun (q4 : 200 ≤ x1) => ?_) (fun (q4 : ¬ (200 ≤ x1)) => ?_)
  ·
    refine wi_return (nx := 22) (r1 := 0) (r2 := 0) (r3 := 0) rfl rfl ?_
    exact k h2 g2 F3 (fun q e => XA2 q (by omega))
  ·
    refine wi_aload_n (i := 1) (x := 240) (nx := 10) (r1 := 0) (r2 := 0) (r3 := 0) rfl rfl ?_
    refine wi_iload_n (i := 2) (e := x1) (nx := 11) (r1 := 0) (r2 := 0) (r3 := 0) rfl rfl ?_
    refine wi_aload_n (i := 0) (x := 238) (nx := 12) (r1 := 0) (r2 := 0) (r3 := 0) rfl rfl ?_
    refine wi_iload_n (i := 2) (e := x1) (nx := 13) (r1 := 0) (r2 := 0) (r3 := 0) rfl rfl ?_
    obtain ⟨i5, ei5⟩ : ∃ q : Nat, x1 = (q : Int) := ⟨(x1).toNat, by omega⟩
    refine wr_ia (k0 := 238) (a := x1) (f := i5) (x := h 238 i5) (nx := 14) (r1 := 0) (r2 := 0) (r3 := 0) rfl (by decide) rfl (by omega) (by omega) (by decide) (u2 238 i5 (fn_a (by decide) fn_0)) ?_
    refine wr_iv (k0 := 240) (a := x1) (f := i5) (x := h 238 i5) (nx := 15) (r1 := 0) (r2 := 0) (r3 := 0) rfl (by decide) rfl (by omega) (by omega) (by decide) g2 (g 238 i5) (fun h6 g6 w6 u6 => ?_)
    have F7 := F3.then rfl (FR.rngp (lo := 240) (hi := 240) u6 (by decide))
    have F8 := u2.then rfl (FR.rngp (lo := 240) (hi := 240) u6 (by decide))
    refine wr_iinc (i := 2) (n := 1) (v := x1) (fun e9 => [(2, vi e9), (0, .ref 238), (1, .ref 240)]) (nx := 18) (r1 := 0) (r2 := 0) (r3 := 0) rfl rfl (fun _ => rfl) (fun e9 (fe9 : e9 = x1 + 1) => ?_)
    refine wi_goto (nx := 21) (r1 := 2) (r2 := 0) (r3 := 0) rfl ?_
    refine wp.lo (lo := [(0, .ref 238), (1, .ref 240), (2, vi e9)]) ⟨rfl, rfl, rfl, trivial⟩ rfl ?_
    exact I2 e9 h6 ⟨g6, F7, F8, (show (0 ≤ e9 ∧ e9 ≤ 200) by omega), (fun q e => by
        by_cases e1 : (q : Int) < x1
        · exact (u6 240 _ (fn_i (by omega) fn_0)).trans (XA2 q e1)
        · have e2 : q = i5 := by omega
          have e3 : q = i5 := by omega
          exact (congrArg (h6 240) e2).trans (w6.trans ((Eq.refl _).trans (congrArg (h 238) e3).symm))), (fun q e => (u6 240 q (fn_i (by omega) fn_0)).trans (XB2 q (by omega)))⟩ (show ((200 : Int) + 1 - e9).toNat < ((200 : Int) + 1 - x1).toNat by omega)
-- method 291: Model.chosenToLeave()I
set_option maxRecDepth 100000 in
set_option maxHeartbeats 100000000 in
theorem ct_291_236 {L : Nat} {xs : Nat → Int32} {d b c : Nat} {h : hp} {cr : Nat → Nat → Option Nat} {Q : hp_Q} (hcr : CR cr)  (g : GI h)    (k : ∀ (z0 : Int), (-1 ≤ z0 ∧ z0 ≤ 3) → (laP (canL (h 238)) z0) → Q (.inl (some (vi z0))) (hp_w h cr) b c) : wp (md_xa (L, xs)) (d + 2) 291 (0, [(0, .ref 236)], [], hp_w h cr, b, c) Q := by
  have F0 : FR [] h h := FR.refl
  refine wi_iconst (n := (-1)) (nx := 1) (r1 := 0) (r2 := 0) (r3 := 0) rfl ?_
  refine wi_istore_n (i := 1) (e := -1) (lo2 := [(1, vi (-1)), (0, .ref 236)]) (nx := 2) (r1 := 0) (r2 := 0) (r3 := 0) rfl rfl ?_
  refine wi_iconst (n := 0) (nx := 3) (r1 := 0) (r2 := 0) (r3 := 0) rfl ?_
  refine wi_istore_n (i := 2) (e := 0) (lo2 := [(2, vi 0), (1, vi (-1)), (0, .ref 236)]) (nx := 4) (r1 := 0) (r2 := 0) (r3 := 0) rfl rfl ?_
  refine wp.lo (lo := [(0, .ref 236), (1, vi (-1)), (2, vi 0)]) ⟨rfl, rfl, rfl, trivial⟩ rfl ?_
  refine wl_2 (fun x1 x2 h3 => h = h3 ∧ ((-1 ≤ x1 ∧ x1 ≤ 3) ∧ (0 ≤ x2 ∧ x2 ≤ 4)) ∧ (laX (canL (h 238)) x1 x2)) (fun x1 x2 h3 => ((4 : Int) + 1 - x2).toNat) (fun x1 x2 h3 => (4, [(0, .ref 236), (1, vi x1), (2, vi x2)], [], hp_w h3 cr, b, c)) ?_ (-1) 0 h ⟨rfl, (show (-1 ≤ (-1) ∧ (-1) ≤ 3) ∧ (0 ≤ 0 ∧ 0 ≤ 4) by omega), laX.start⟩
  intro x1 x2 h3 ⟨e3, f3, X3_0⟩ I3
  subst e3
  refine wi_iload_n (i := 2) (e := x2) (nx := 5) (r1 := 0) (r2 := 0) (r3 := 0) rfl rfl ?_
  refine wi_aload_n (i := 0) (x := 236) (nx := 6) (r1 := 0) (r2 := 0) (r3 := 0) rfl rfl ?_
  refine wr_gr (k0 := 236) (x := 238) (nx := 9) (r1 := 11) (r2 := 13) (r3 := 0) rfl rfl (by decide) rfl ⟨rfl, rfl⟩ rfl ?_
  refine wi_iconst (n := 1) (nx := 10) (r1 := 0) (r2 := 0) (r3 := 0) rfl ?_
  have b5 := gi_b (lo := 0) (hi := 4) g 238 1 rfl
  refine wr_ia (k0 := 238) (a := 1) (f := 1) (x := h 238 1) (nx := 11) (r1 := 0) (r2 := 0) (r3 := 0) rfl (by decide) rfl (by omega) (by omega) (by decide) rfl ?_
  refine wi_icmp (cd := .ge) (nx := 14) (r1 := 79) (r2 := 0) (r3 := 0) rfl (by omega) (by omega) (fun (q6 : (h 238 1) ≤ x2) => ?_) (fun (q6 : ¬ ((h 238 1) ≤ x2)) => ?_)
  ·
    refine wi_iload_n (i := 1) (e := x1) (nx := 80) (r1 := 0) (r2 := 0) (r3 := 0) rfl rfl ?_
    refine wi_ireturn (nx := 81) (r1 := 0) (r2 := 0) (r3 := 0) rfl rfl ?_
    exact k x1 (by omega) (laX.done X3_0 (fun v hv c => by have c1 := c.1; omega))
  ·
    refine wi_aload_n (i := 0) (x := 236) (nx := 15) (r1 := 0) (r2 := 0) (r3 := 0) rfl rfl ?_
    refine wi_iload_n (i := 2) (e := x2) (nx := 16) (r1 := 0) (r2 := 0) (r3 := 0) rfl rfl ?_
    rcases (show x2 = 0 ∨ x2 = 1 ∨ x2 = 2 ∨ x2 = 3 by omega) with q7 | q7 | q7 | q7
    ·
      rw [q7]
      refine wr_V (k0 := 236) (rest := []) (as := [.ref 236, vi 0]) (nx := 19) (r1 := 267) (r2 := 1) (r3 := 11) rfl rfl rfl (of_decide_eq_true rfl) rfl rfl (by decide) rfl rfl (of_decide_eq_true rfl) (of_decide_eq_true rfl) ?_
      refine ct_267_236_L0 hcr  g    (fun z9  (fz9 : 0 ≤ z9 ∧ z9 ≤ 1) (p8_0 : z9 = 0 ∨ 1 ≤ (h 238 98)) (p8_1 : z9 = 0 ∨ (h 238 67) ≤ 9998) (p8_2 : z9 = 0 ∨ (1 ≤ (h 238 (43 + (h 238 74).toNat)) ∧ (h 238 102) < (h 238 7)) ∨ ((h 238 (43 + (h 238 74).toNat)) ≤ 0 ∧ (h 238 74) - (h 238 106) ≤ (h 238 3))) y8_0 => ?_)
      have b10 := gi_b (lo := 0) (hi := 6) g 238 98 rfl
      have b11 := gi_b (lo := 0) (hi := 9999) g 238 67 rfl
      have b12 := gi_b (lo := 0) (hi := 11) g 238 74 rfl
      obtain ⟨i13, ei13⟩ : ∃ q : Nat, (43 + h 238 74) = (q : Int) := ⟨(43 + h 238 74).toNat, by omega⟩
      have b14 := gi_b (lo := 0) (hi := 999) g 238 i13 (gi_rg 43 12 (fun _ => rfl) (by decide +kernel) (by omega))
      have e15 : h 238 (43 + (h 238 74).toNat) = h 238 i13 := by rw [show 43 + (h 238 74).toNat = i13 by omega]
      have b16 := gi_b (lo := 0) (hi := 3) g 238 102 rfl
      have b17 := gi_b (lo := 0) (hi := 3) g 238 7 rfl
      have b18 := gi_b (lo := 0) (hi := 12) g 238 106 rfl
      have b19 := gi_b (lo := 0) (hi := 999) g 238 3 rfl
      refine wk_i ?_
      refine wi_if (cd := .ne) (nx := 22) (r1 := 25) (r2 := 0) (r3 := 0) rfl (by omega) (fun (q20 : z9 ≠ 0) => ?_) (fun (q20 : ¬ (z9 ≠ 0)) => ?_)
      ·
        refine wi_aload_n (i := 0) (x := 236) (nx := 26) (r1 := 0) (r2 := 0) (r3 := 0) rfl rfl ?_
        refine wr_gr (k0 := 236) (x := 238) (nx := 29) (r1 := 11) (r2 := 13) (r3 := 0) rfl rfl (by decide) rfl ⟨rfl, rfl⟩ rfl ?_
        refine wi_bipush (n := 31) (nx := 31) (r1 := 0) (r2 := 0) (r3 := 0) rfl (by decide) ?_
        refine wi_aload_n (i := 0) (x := 236) (nx := 32) (r1 := 0) (r2 := 0) (r3 := 0) rfl rfl ?_
        refine wi_iload_n (i := 2) (e := 0) (nx := 33) (r1 := 0) (r2 := 0) (r3 := 0) rfl rfl ?_
        refine wi_iconst (n := 0) (nx := 34) (r1 := 0) (r2 := 0) (r3 := 0) rfl ?_
        refine wr_V (k0 := 236) (rest := [vi 31, .ref 238]) (as := [.ref 236, vi 0, vi 0]) (nx := 37) (r1 := 258) (r2 := 2) (r3 := 11) rfl rfl rfl (of_decide_eq_true rfl) rfl rfl (by decide) rfl rfl (of_decide_eq_true rfl) (of_decide_eq_true rfl) ?_
        refine wi_aload_n (i := 0) (x := 236) (nx := 1) (r1 := 0) (r2 := 0) (r3 := 0) rfl rfl ?_
        refine wr_gr (k0 := 236) (x := 238) (nx := 4) (r1 := 11) (r2 := 13) (r3 := 0) rfl rfl (by decide) rfl ⟨rfl, rfl⟩ rfl ?_
        refine wi_bipush (n := 74) (nx := 6) (r1 := 0) (r2 := 0) (r3 := 0) rfl (by decide) ?_
        refine wi_bipush (n := 6) (nx := 8) (r1 := 0) (r2 := 0) (r3 := 0) rfl (by decide) ?_
        refine wi_iload_n (i := 1) (e := 0) (nx := 9) (r1 := 0) (r2 := 0) (r3 := 0) rfl rfl ?_
        refine wr_mulL (0) (nx := 10) (r1 := 0) (r2 := 0) (r3 := 0) rfl (by decide) ?_
        refine wr_addL (74) (nx := 11) (r1 := 0) (r2 := 0) (r3 := 0) rfl (by decide) ?_
        refine wi_iload_n (i := 2) (e := 0) (nx := 12) (r1 := 0) (r2 := 0) (r3 := 0) rfl rfl ?_
        refine wr_addL (74) (nx := 13) (r1 := 0) (r2 := 0) (r3 := 0) rfl (by decide) ?_
        refine wr_ia (k0 := 238) (a := 74) (f := 74) (x := h 238 74) (nx := 14) (r1 := 0) (r2 := 0) (r3 := 0) rfl (by decide) rfl (by omega) (by omega) (by decide) rfl ?_
        refine wi_ireturn (nx := 15) (r1 := 0) (r2 := 0) (r3 := 0) rfl rfl ?_
        refine wk_i ?_
        refine wr_add (nx := 38) (r1 := 0) (r2 := 0) (r3 := 0) rfl (fun e21 (fe21 : e21 = 31 + (h 238 74)) => ?_)
        obtain ⟨i22, ei22⟩ : ∃ q : Nat, e21 = (q : Int) := ⟨(e21).toNat, by omega⟩
        have b23 := gi_b (lo := 0) (hi := 4) g 238 i22 (gi_rg 31 12 (fun _ => rfl) (by decide +kernel) (by omega))
        refine wr_ia (k0 := 238) (a := e21) (f := i22) (x := h 238 i22) (nx := 39) (r1 := 0) (r2 := 0) (r3 := 0) rfl (by decide) rfl (by omega) (by omega) (by decide) rfl ?_
        refine wi_aload_n (i := 0) (x := 236) (nx := 40) (r1 := 0) (r2 := 0) (r3 := 0) rfl rfl ?_
        refine wr_gr (k0 := 236) (x := 238) (nx := 43) (r1 := 11) (r2 := 13) (r3 := 0) rfl rfl (by decide) rfl ⟨rfl, rfl⟩ rfl ?_
        refine wi_bipush (n := 68) (nx := 45) (r1 := 0) (r2 := 0) (r3 := 0) rfl (by decide) ?_
        have b24 := gi_b (lo := -1) (hi := 4) g 238 68 rfl
        refine wr_ia (k0 := 238) (a := 68) (f := 68) (x := h 238 68) (nx := 46) (r1 := 0) (r2 := 0) (r3 := 0) rfl (by decide) rfl (by omega) (by omega) (by decide) rfl ?_
        refine wi_icmp (cd := .ne) (nx := 49) (r1 := 51) (r2 := 0) (r3 := 0) rfl (by omega) (by omega) (fun (q25 : (h 238 i22) ≠ (h 238 68)) => ?_) (fun (q25 : ¬ ((h 238 i22) ≠ (h 238 68))) => ?_)
        ·
          refine wi_iload_n (i := 1) (e := x1) (nx := 52) (r1 := 0) (r2 := 0) (r3 := 0) rfl rfl ?_
          refine wi_iconst (n := (-1)) (nx := 53) (r1 := 0) (r2 := 0) (r3 := 0) rfl ?_
          refine wi_icmp (cd := .eq) (nx := 56) (r1 := 71) (r2 := 0) (r3 := 0) rfl (by omega) (by omega) (fun (q26 : x1 = (-1)) => ?_) (fun (q26 : ¬ (x1 = (-1))) => ?_)
          ·
            refine wi_iload_n (i := 2) (e := 0) (nx := 72) (r1 := 0) (r2 := 0) (r3 := 0) rfl rfl ?_
            refine wi_istore_n (i := 1) (e := 0) (lo2 := [(1, vi 0), (0, .ref 236), (2, vi 0)]) (nx := 73) (r1 := 0) (r2 := 0) (r3 := 0) rfl rfl ?_
            refine wr_iincL (i := 2) (n := 1) (v := 0) (1) ([(2, vi 1), (1, vi 0), (0, .ref 236)]) (nx := 76) (r1 := 0) (r2 := 0) (r3 := 0) rfl rfl (by decide) rfl ?_
            refine wi_goto (nx := 79) (r1 := 4) (r2 := 0) (r3 := 0) rfl ?_
            refine wp.lo (lo := [(0, .ref 236), (1, vi 0), (2, vi 1)]) ⟨rfl, rfl, rfl, trivial⟩ rfl ?_
            have cn27 : canL (h 238) 0 := ⟨(show (0 : Int) + 1 ≤ h 238 1 by omega), mlP.pos y8_0 (by omega)⟩
            exact I3 0 1 h ⟨rfl, (show (-1 ≤ 0 ∧ 0 ≤ 3) ∧ (0 ≤ 1 ∧ 1 ≤ 4) by omega), (laX.yes 0 (by decide) (by omega) cn27)⟩ (show ((4 : Int) + 1 - 1).toNat < ((4 : Int) + 1 - x2).toNat by omega)
          ·
            refine wi_aload_n (i := 0) (x := 236) (nx := 57) (r1 := 0) (r2 := 0) (r3 := 0) rfl rfl ?_
            refine wi_iload_n (i := 2) (e := 0) (nx := 58) (r1 := 0) (r2 := 0) (r3 := 0) rfl rfl ?_
            refine wi_iconst (n := 0) (nx := 59) (r1 := 0) (r2 := 0) (r3 := 0) rfl ?_
            refine wr_V (k0 := 236) (rest := []) (as := [.ref 236, vi 0, vi 0]) (nx := 62) (r1 := 258) (r2 := 2) (r3 := 11) rfl rfl rfl (of_decide_eq_true rfl) rfl rfl (by decide) rfl rfl (of_decide_eq_true rfl) (of_decide_eq_true rfl) ?_
            refine wi_aload_n (i := 0) (x := 236) (nx := 1) (r1 := 0) (r2 := 0) (r3 := 0) rfl rfl ?_
            refine wr_gr (k0 := 236) (x := 238) (nx := 4) (r1 := 11) (r2 := 13) (r3 := 0) rfl rfl (by decide) rfl ⟨rfl, rfl⟩ rfl ?_
            refine wi_bipush (n := 74) (nx := 6) (r1 := 0) (r2 := 0) (r3 := 0) rfl (by decide) ?_
            refine wi_bipush (n := 6) (nx := 8) (r1 := 0) (r2 := 0) (r3 := 0) rfl (by decide) ?_
            refine wi_iload_n (i := 1) (e := 0) (nx := 9) (r1 := 0) (r2 := 0) (r3 := 0) rfl rfl ?_
            refine wr_mulL (0) (nx := 10) (r1 := 0) (r2 := 0) (r3 := 0) rfl (by decide) ?_
            refine wr_addL (74) (nx := 11) (r1 := 0) (r2 := 0) (r3 := 0) rfl (by decide) ?_
            refine wi_iload_n (i := 2) (e := 0) (nx := 12) (r1 := 0) (r2 := 0) (r3 := 0) rfl rfl ?_
            refine wr_addL (74) (nx := 13) (r1 := 0) (r2 := 0) (r3 := 0) rfl (by decide) ?_
            refine wr_ia (k0 := 238) (a := 74) (f := 74) (x := h 238 74) (nx := 14) (r1 := 0) (r2 := 0) (r3 := 0) rfl (by decide) rfl (by omega) (by omega) (by decide) rfl ?_
            refine wi_ireturn (nx := 15) (r1 := 0) (r2 := 0) (r3 := 0) rfl rfl ?_
            refine wk_i ?_
            refine wi_aload_n (i := 0) (x := 236) (nx := 63) (r1 := 0) (r2 := 0) (r3 := 0) rfl rfl ?_
            refine wi_iload_n (i := 1) (e := x1) (nx := 64) (r1 := 0) (r2 := 0) (r3 := 0) rfl rfl ?_
            refine wi_iconst (n := 0) (nx := 65) (r1 := 0) (r2 := 0) (r3 := 0) rfl ?_
            rcases (show x1 = 0 ∨ x1 = 1 ∨ x1 = 2 ∨ x1 = 3 by omega) with q27 | q27 | q27 | q27
            ·
              rw [q27]
              refine wr_V (k0 := 236) (rest := [vi (h 238 74)]) (as := [.ref 236, vi 0, vi 0]) (nx := 68) (r1 := 258) (r2 := 2) (r3 := 11) rfl rfl rfl (of_decide_eq_true rfl) rfl rfl (by decide) rfl rfl (of_decide_eq_true rfl) (of_decide_eq_true rfl) ?_
              refine wi_aload_n (i := 0) (x := 236) (nx := 1) (r1 := 0) (r2 := 0) (r3 := 0) rfl rfl ?_
              refine wr_gr (k0 := 236) (x := 238) (nx := 4) (r1 := 11) (r2 := 13) (r3 := 0) rfl rfl (by decide) rfl ⟨rfl, rfl⟩ rfl ?_
              refine wi_bipush (n := 74) (nx := 6) (r1 := 0) (r2 := 0) (r3 := 0) rfl (by decide) ?_
              refine wi_bipush (n := 6) (nx := 8) (r1 := 0) (r2 := 0) (r3 := 0) rfl (by decide) ?_
              refine wi_iload_n (i := 1) (e := 0) (nx := 9) (r1 := 0) (r2 := 0) (r3 := 0) rfl rfl ?_
              refine wr_mulL (0) (nx := 10) (r1 := 0) (r2 := 0) (r3 := 0) rfl (by decide) ?_
              refine wr_addL (74) (nx := 11) (r1 := 0) (r2 := 0) (r3 := 0) rfl (by decide) ?_
              refine wi_iload_n (i := 2) (e := 0) (nx := 12) (r1 := 0) (r2 := 0) (r3 := 0) rfl rfl ?_
              refine wr_addL (74) (nx := 13) (r1 := 0) (r2 := 0) (r3 := 0) rfl (by decide) ?_
              refine wr_ia (k0 := 238) (a := 74) (f := 74) (x := h 238 74) (nx := 14) (r1 := 0) (r2 := 0) (r3 := 0) rfl (by decide) rfl (by omega) (by omega) (by decide) rfl ?_
              refine wi_ireturn (nx := 15) (r1 := 0) (r2 := 0) (r3 := 0) rfl rfl ?_
              refine wk_i ?_
              refine wi_icmp (cd := .ge) (nx := 71) (r1 := 73) (r2 := 0) (r3 := 0) rfl (by omega) (by omega) (fun (q28 : (h 238 74) ≤ (h 238 74)) => ?_) (fun (q28 : ¬ ((h 238 74) ≤ (h 238 74))) => by exfalso; omega)
              refine wr_iincL (i := 2) (n := 1) (v := 0) (1) ([(2, vi 1), (0, .ref 236), (1, vi 0)]) (nx := 76) (r1 := 0) (r2 := 0) (r3 := 0) rfl rfl (by decide) rfl ?_
              refine wi_goto (nx := 79) (r1 := 4) (r2 := 0) (r3 := 0) rfl ?_
              refine wp.lo (lo := [(0, .ref 236), (1, vi 0), (2, vi 1)]) ⟨rfl, rfl, rfl, trivial⟩ rfl ?_
              have cn29 : canL (h 238) 0 := ⟨(show (0 : Int) + 1 ≤ h 238 1 by omega), mlP.pos y8_0 (by omega)⟩
              exact I3 0 1 h ⟨rfl, (show (-1 ≤ 0 ∧ 0 ≤ 3) ∧ (0 ≤ 1 ∧ 1 ≤ 4) by omega), (laX.yes 0 (by decide) (by omega) cn29)⟩ (show ((4 : Int) + 1 - 1).toNat < ((4 : Int) + 1 - x2).toNat by omega)
            ·
              rw [q27]
              refine wr_V (k0 := 236) (rest := [vi (h 238 74)]) (as := [.ref 236, vi 1, vi 0]) (nx := 68) (r1 := 258) (r2 := 2) (r3 := 11) rfl rfl rfl (of_decide_eq_true rfl) rfl rfl (by decide) rfl rfl (of_decide_eq_true rfl) (of_decide_eq_true rfl) ?_
              refine wi_aload_n (i := 0) (x := 236) (nx := 1) (r1 := 0) (r2 := 0) (r3 := 0) rfl rfl ?_
              refine wr_gr (k0 := 236) (x := 238) (nx := 4) (r1 := 11) (r2 := 13) (r3 := 0) rfl rfl (by decide) rfl ⟨rfl, rfl⟩ rfl ?_
              refine wi_bipush (n := 74) (nx := 6) (r1 := 0) (r2 := 0) (r3 := 0) rfl (by decide) ?_
              refine wi_bipush (n := 6) (nx := 8) (r1 := 0) (r2 := 0) (r3 := 0) rfl (by decide) ?_
              refine wi_iload_n (i := 1) (e := 1) (nx := 9) (r1 := 0) (r2 := 0) (r3 := 0) rfl rfl ?_
              refine wr_mulL (6) (nx := 10) (r1 := 0) (r2 := 0) (r3 := 0) rfl (by decide) ?_
              refine wr_addL (80) (nx := 11) (r1 := 0) (r2 := 0) (r3 := 0) rfl (by decide) ?_
              refine wi_iload_n (i := 2) (e := 0) (nx := 12) (r1 := 0) (r2 := 0) (r3 := 0) rfl rfl ?_
              refine wr_addL (80) (nx := 13) (r1 := 0) (r2 := 0) (r3 := 0) rfl (by decide) ?_
              have b28 := gi_b (lo := 0) (hi := 11) g 238 80 rfl
              refine wr_ia (k0 := 238) (a := 80) (f := 80) (x := h 238 80) (nx := 14) (r1 := 0) (r2 := 0) (r3 := 0) rfl (by decide) rfl (by omega) (by omega) (by decide) rfl ?_
              refine wi_ireturn (nx := 15) (r1 := 0) (r2 := 0) (r3 := 0) rfl rfl ?_
              refine wk_i ?_
              refine wi_icmp (cd := .ge) (nx := 71) (r1 := 73) (r2 := 0) (r3 := 0) rfl (by omega) (by omega) (fun (q29 : (h 238 80) ≤ (h 238 74)) => ?_) (fun (q29 : ¬ ((h 238 80) ≤ (h 238 74))) => ?_)
              ·
                refine wr_iincL (i := 2) (n := 1) (v := 0) (1) ([(2, vi 1), (0, .ref 236), (1, vi 1)]) (nx := 76) (r1 := 0) (r2 := 0) (r3 := 0) rfl rfl (by decide) rfl ?_
                refine wi_goto (nx := 79) (r1 := 4) (r2 := 0) (r3 := 0) rfl ?_
                refine wp.lo (lo := [(0, .ref 236), (1, vi 1), (2, vi 1)]) ⟨rfl, rfl, rfl, trivial⟩ rfl ?_
                exact I3 1 1 h ⟨rfl, (show (-1 ≤ 1 ∧ 1 ≤ 3) ∧ (0 ≤ 1 ∧ 1 ≤ 4) by omega), (by have lx : laX (canL (h 238)) x1 1 := laX.keep X3_0 (by omega); rwa [show x1 = 1 by omega] at lx)⟩ (show ((4 : Int) + 1 - 1).toNat < ((4 : Int) + 1 - x2).toNat by omega)
              ·
                refine wi_iload_n (i := 2) (e := 0) (nx := 72) (r1 := 0) (r2 := 0) (r3 := 0) rfl rfl ?_
                refine wi_istore_n (i := 1) (e := 0) (lo2 := [(1, vi 0), (0, .ref 236), (2, vi 0)]) (nx := 73) (r1 := 0) (r2 := 0) (r3 := 0) rfl rfl ?_
                refine wr_iincL (i := 2) (n := 1) (v := 0) (1) ([(2, vi 1), (1, vi 0), (0, .ref 236)]) (nx := 76) (r1 := 0) (r2 := 0) (r3 := 0) rfl rfl (by decide) rfl ?_
                refine wi_goto (nx := 79) (r1 := 4) (r2 := 0) (r3 := 0) rfl ?_
                refine wp.lo (lo := [(0, .ref 236), (1, vi 0), (2, vi 1)]) ⟨rfl, rfl, rfl, trivial⟩ rfl ?_
                have cn30 : canL (h 238) 0 := ⟨(show (0 : Int) + 1 ≤ h 238 1 by omega), mlP.pos y8_0 (by omega)⟩
                exact I3 0 1 h ⟨rfl, (show (-1 ≤ 0 ∧ 0 ≤ 3) ∧ (0 ≤ 1 ∧ 1 ≤ 4) by omega), (laX.yes 0 (by decide) (by omega) cn30)⟩ (show ((4 : Int) + 1 - 1).toNat < ((4 : Int) + 1 - x2).toNat by omega)
            ·
              rw [q27]
              refine wr_V (k0 := 236) (rest := [vi (h 238 74)]) (as := [.ref 236, vi 2, vi 0]) (nx := 68) (r1 := 258) (r2 := 2) (r3 := 11) rfl rfl rfl (of_decide_eq_true rfl) rfl rfl (by decide) rfl rfl (of_decide_eq_true rfl) (of_decide_eq_true rfl) ?_
              refine wi_aload_n (i := 0) (x := 236) (nx := 1) (r1 := 0) (r2 := 0) (r3 := 0) rfl rfl ?_
              refine wr_gr (k0 := 236) (x := 238) (nx := 4) (r1 := 11) (r2 := 13) (r3 := 0) rfl rfl (by decide) rfl ⟨rfl, rfl⟩ rfl ?_
              refine wi_bipush (n := 74) (nx := 6) (r1 := 0) (r2 := 0) (r3 := 0) rfl (by decide) ?_
              refine wi_bipush (n := 6) (nx := 8) (r1 := 0) (r2 := 0) (r3 := 0) rfl (by decide) ?_
              refine wi_iload_n (i := 1) (e := 2) (nx := 9) (r1 := 0) (r2 := 0) (r3 := 0) rfl rfl ?_
              refine wr_mulL (12) (nx := 10) (r1 := 0) (r2 := 0) (r3 := 0) rfl (by decide) ?_
              refine wr_addL (86) (nx := 11) (r1 := 0) (r2 := 0) (r3 := 0) rfl (by decide) ?_
              refine wi_iload_n (i := 2) (e := 0) (nx := 12) (r1 := 0) (r2 := 0) (r3 := 0) rfl rfl ?_
              refine wr_addL (86) (nx := 13) (r1 := 0) (r2 := 0) (r3 := 0) rfl (by decide) ?_
              have b28 := gi_b (lo := 0) (hi := 11) g 238 86 rfl
              refine wr_ia (k0 := 238) (a := 86) (f := 86) (x := h 238 86) (nx := 14) (r1 := 0) (r2 := 0) (r3 := 0) rfl (by decide) rfl (by omega) (by omega) (by decide) rfl ?_
              refine wi_ireturn (nx := 15) (r1 := 0) (r2 := 0) (r3 := 0) rfl rfl ?_
              refine wk_i ?_
              refine wi_icmp (cd := .ge) (nx := 71) (r1 := 73) (r2 := 0) (r3 := 0) rfl (by omega) (by omega) (fun (q29 : (h 238 86) ≤ (h 238 74)) => ?_) (fun (q29 : ¬ ((h 238 86) ≤ (h 238 74))) => ?_)
              ·
                refine wr_iincL (i := 2) (n := 1) (v := 0) (1) ([(2, vi 1), (0, .ref 236), (1, vi 2)]) (nx := 76) (r1 := 0) (r2 := 0) (r3 := 0) rfl rfl (by decide) rfl ?_
                refine wi_goto (nx := 79) (r1 := 4) (r2 := 0) (r3 := 0) rfl ?_
                refine wp.lo (lo := [(0, .ref 236), (1, vi 2), (2, vi 1)]) ⟨rfl, rfl, rfl, trivial⟩ rfl ?_
                exact I3 2 1 h ⟨rfl, (show (-1 ≤ 2 ∧ 2 ≤ 3) ∧ (0 ≤ 1 ∧ 1 ≤ 4) by omega), (by have lx : laX (canL (h 238)) x1 1 := laX.keep X3_0 (by omega); rwa [show x1 = 2 by omega] at lx)⟩ (show ((4 : Int) + 1 - 1).toNat < ((4 : Int) + 1 - x2).toNat by omega)
              ·
                refine wi_iload_n (i := 2) (e := 0) (nx := 72) (r1 := 0) (r2 := 0) (r3 := 0) rfl rfl ?_
                refine wi_istore_n (i := 1) (e := 0) (lo2 := [(1, vi 0), (0, .ref 236), (2, vi 0)]) (nx := 73) (r1 := 0) (r2 := 0) (r3 := 0) rfl rfl ?_
                refine wr_iincL (i := 2) (n := 1) (v := 0) (1) ([(2, vi 1), (1, vi 0), (0, .ref 236)]) (nx := 76) (r1 := 0) (r2 := 0) (r3 := 0) rfl rfl (by decide) rfl ?_
                refine wi_goto (nx := 79) (r1 := 4) (r2 := 0) (r3 := 0) rfl ?_
                refine wp.lo (lo := [(0, .ref 236), (1, vi 0), (2, vi 1)]) ⟨rfl, rfl, rfl, trivial⟩ rfl ?_
                have cn30 : canL (h 238) 0 := ⟨(show (0 : Int) + 1 ≤ h 238 1 by omega), mlP.pos y8_0 (by omega)⟩
                exact I3 0 1 h ⟨rfl, (show (-1 ≤ 0 ∧ 0 ≤ 3) ∧ (0 ≤ 1 ∧ 1 ≤ 4) by omega), (laX.yes 0 (by decide) (by omega) cn30)⟩ (show ((4 : Int) + 1 - 1).toNat < ((4 : Int) + 1 - x2).toNat by omega)
            ·
              rw [q27]
              refine wr_V (k0 := 236) (rest := [vi (h 238 74)]) (as := [.ref 236, vi 3, vi 0]) (nx := 68) (r1 := 258) (r2 := 2) (r3 := 11) rfl rfl rfl (of_decide_eq_true rfl) rfl rfl (by decide) rfl rfl (of_decide_eq_true rfl) (of_decide_eq_true rfl) ?_
              refine wi_aload_n (i := 0) (x := 236) (nx := 1) (r1 := 0) (r2 := 0) (r3 := 0) rfl rfl ?_
              refine wr_gr (k0 := 236) (x := 238) (nx := 4) (r1 := 11) (r2 := 13) (r3 := 0) rfl rfl (by decide) rfl ⟨rfl, rfl⟩ rfl ?_
              refine wi_bipush (n := 74) (nx := 6) (r1 := 0) (r2 := 0) (r3 := 0) rfl (by decide) ?_
              refine wi_bipush (n := 6) (nx := 8) (r1 := 0) (r2 := 0) (r3 := 0) rfl (by decide) ?_
              refine wi_iload_n (i := 1) (e := 3) (nx := 9) (r1 := 0) (r2 := 0) (r3 := 0) rfl rfl ?_
              refine wr_mulL (18) (nx := 10) (r1 := 0) (r2 := 0) (r3 := 0) rfl (by decide) ?_
              refine wr_addL (92) (nx := 11) (r1 := 0) (r2 := 0) (r3 := 0) rfl (by decide) ?_
              refine wi_iload_n (i := 2) (e := 0) (nx := 12) (r1 := 0) (r2 := 0) (r3 := 0) rfl rfl ?_
              refine wr_addL (92) (nx := 13) (r1 := 0) (r2 := 0) (r3 := 0) rfl (by decide) ?_
              have b28 := gi_b (lo := 0) (hi := 11) g 238 92 rfl
              refine wr_ia (k0 := 238) (a := 92) (f := 92) (x := h 238 92) (nx := 14) (r1 := 0) (r2 := 0) (r3 := 0) rfl (by decide) rfl (by omega) (by omega) (by decide) rfl ?_
              refine wi_ireturn (nx := 15) (r1 := 0) (r2 := 0) (r3 := 0) rfl rfl ?_
              refine wk_i ?_
              refine wi_icmp (cd := .ge) (nx := 71) (r1 := 73) (r2 := 0) (r3 := 0) rfl (by omega) (by omega) (fun (q29 : (h 238 92) ≤ (h 238 74)) => ?_) (fun (q29 : ¬ ((h 238 92) ≤ (h 238 74))) => ?_)
              ·
                refine wr_iincL (i := 2) (n := 1) (v := 0) (1) ([(2, vi 1), (0, .ref 236), (1, vi 3)]) (nx := 76) (r1 := 0) (r2 := 0) (r3 := 0) rfl rfl (by decide) rfl ?_
                refine wi_goto (nx := 79) (r1 := 4) (r2 := 0) (r3 := 0) rfl ?_
                refine wp.lo (lo := [(0, .ref 236), (1, vi 3), (2, vi 1)]) ⟨rfl, rfl, rfl, trivial⟩ rfl ?_
                exact I3 3 1 h ⟨rfl, (show (-1 ≤ 3 ∧ 3 ≤ 3) ∧ (0 ≤ 1 ∧ 1 ≤ 4) by omega), (by have lx : laX (canL (h 238)) x1 1 := laX.keep X3_0 (by omega); rwa [show x1 = 3 by omega] at lx)⟩ (show ((4 : Int) + 1 - 1).toNat < ((4 : Int) + 1 - x2).toNat by omega)
              ·
                refine wi_iload_n (i := 2) (e := 0) (nx := 72) (r1 := 0) (r2 := 0) (r3 := 0) rfl rfl ?_
                refine wi_istore_n (i := 1) (e := 0) (lo2 := [(1, vi 0), (0, .ref 236), (2, vi 0)]) (nx := 73) (r1 := 0) (r2 := 0) (r3 := 0) rfl rfl ?_
                refine wr_iincL (i := 2) (n := 1) (v := 0) (1) ([(2, vi 1), (1, vi 0), (0, .ref 236)]) (nx := 76) (r1 := 0) (r2 := 0) (r3 := 0) rfl rfl (by decide) rfl ?_
                refine wi_goto (nx := 79) (r1 := 4) (r2 := 0) (r3 := 0) rfl ?_
                refine wp.lo (lo := [(0, .ref 236), (1, vi 0), (2, vi 1)]) ⟨rfl, rfl, rfl, trivial⟩ rfl ?_
                have cn30 : canL (h 238) 0 := ⟨(show (0 : Int) + 1 ≤ h 238 1 by omega), mlP.pos y8_0 (by omega)⟩
                exact I3 0 1 h ⟨rfl, (show (-1 ≤ 0 ∧ 0 ≤ 3) ∧ (0 ≤ 1 ∧ 1 ≤ 4) by omega), (laX.yes 0 (by decide) (by omega) cn30)⟩ (show ((4 : Int) + 1 - 1).toNat < ((4 : Int) + 1 - x2).toNat by omega)
        ·
          refine wi_iload_n (i := 2) (e := 0) (nx := 50) (r1 := 0) (r2 := 0) (r3 := 0) rfl rfl ?_
          refine wi_ireturn (nx := 51) (r1 := 0) (r2 := 0) (r3 := 0) rfl rfl ?_
          have cn26 : canL (h 238) 0 := ⟨(show (0 : Int) + 1 ≤ h 238 1 by omega), mlP.pos y8_0 (by omega)⟩
          exact k 0 (by omega) (laX.yes 0 (by decide) (by omega) cn26)
      ·
        refine wi_goto (nx := 25) (r1 := 73) (r2 := 0) (r3 := 0) rfl ?_
        refine wr_iincL (i := 2) (n := 1) (v := 0) (1) ([(2, vi 1), (0, .ref 236), (1, vi x1)]) (nx := 76) (r1 := 0) (r2 := 0) (r3 := 0) rfl rfl (by decide) rfl ?_
        refine wi_goto (nx := 79) (r1 := 4) (r2 := 0) (r3 := 0) rfl ?_
        refine wp.lo (lo := [(0, .ref 236), (1, vi x1), (2, vi 1)]) ⟨rfl, rfl, rfl, trivial⟩ rfl ?_
        have cn21 : ¬ canL (h 238) 0 := fun c => mlP.neg y8_0 (by omega) c.2
        exact I3 x1 1 h ⟨rfl, (show (-1 ≤ x1 ∧ x1 ≤ 3) ∧ (0 ≤ 1 ∧ 1 ≤ 4) by omega), (laX.no X3_0 (by omega) 0 (by omega) cn21)⟩ (show ((4 : Int) + 1 - 1).toNat < ((4 : Int) + 1 - x2).toNat by omega)
    ·
      rw [q7]
      refine wr_V (k0 := 236) (rest := []) (as := [.ref 236, vi 1]) (nx := 19) (r1 := 267) (r2 := 1) (r3 := 11) rfl rfl rfl (of_decide_eq_true rfl) rfl rfl (by decide) rfl rfl (of_decide_eq_true rfl) (of_decide_eq_true rfl) ?_
      refine ct_267_236_L1 hcr  g    (fun z9  (fz9 : 0 ≤ z9 ∧ z9 ≤ 1) (p8_0 : z9 = 0 ∨ 1 ≤ (h 238 99)) (p8_1 : z9 = 0 ∨ (h 238 67) ≤ 9998) (p8_2 : z9 = 0 ∨ (1 ≤ (h 238 (43 + (h 238 80).toNat)) ∧ (h 238 102) < (h 238 7)) ∨ ((h 238 (43 + (h 238 80).toNat)) ≤ 0 ∧ (h 238 80) - (h 238 106) ≤ (h 238 3))) y8_0 => ?_)
      have b10 := gi_b (lo := 0) (hi := 6) g 238 99 rfl
      have b11 := gi_b (lo := 0) (hi := 9999) g 238 67 rfl
      have b12 := gi_b (lo := 0) (hi := 11) g 238 80 rfl
      obtain ⟨i13, ei13⟩ : ∃ q : Nat, (43 + h 238 80) = (q : Int) := ⟨(43 + h 238 80).toNat, by omega⟩
      have b14 := gi_b (lo := 0) (hi := 999) g 238 i13 (gi_rg 43 12 (fun _ => rfl) (by decide +kernel) (by omega))
      have e15 : h 238 (43 + (h 238 80).toNat) = h 238 i13 := by rw [show 43 + (h 238 80).toNat = i13 by omega]
      have b16 := gi_b (lo := 0) (hi := 3) g 238 102 rfl
      have b17 := gi_b (lo := 0) (hi := 3) g 238 7 rfl
      have b18 := gi_b (lo := 0) (hi := 12) g 238 106 rfl
      have b19 := gi_b (lo := 0) (hi := 999) g 238 3 rfl
      refine wk_i ?_
      refine wi_if (cd := .ne) (nx := 22) (r1 := 25) (r2 := 0) (r3 := 0) rfl (by omega) (fun (q20 : z9 ≠ 0) => ?_) (fun (q20 : ¬ (z9 ≠ 0)) => ?_)
      ·
        refine wi_aload_n (i := 0) (x := 236) (nx := 26) (r1 := 0) (r2 := 0) (r3 := 0) rfl rfl ?_
        refine wr_gr (k0 := 236) (x := 238) (nx := 29) (r1 := 11) (r2 := 13) (r3 := 0) rfl rfl (by decide) rfl ⟨rfl, rfl⟩ rfl ?_
        refine wi_bipush (n := 31) (nx := 31) (r1 := 0) (r2 := 0) (r3 := 0) rfl (by decide) ?_
        refine wi_aload_n (i := 0) (x := 236) (nx := 32) (r1 := 0) (r2 := 0) (r3 := 0) rfl rfl ?_
        refine wi_iload_n (i := 2) (e := 1) (nx := 33) (r1 := 0) (r2 := 0) (r3 := 0) rfl rfl ?_
        refine wi_iconst (n := 0) (nx := 34) (r1 := 0) (r2 := 0) (r3 := 0) rfl ?_
        refine wr_V (k0 := 236) (rest := [vi 31, .ref 238]) (as := [.ref 236, vi 1, vi 0]) (nx := 37) (r1 := 258) (r2 := 2) (r3 := 11) rfl rfl rfl (of_decide_eq_true rfl) rfl rfl (by decide) rfl rfl (of_decide_eq_true rfl) (of_decide_eq_true rfl) ?_
        refine wi_aload_n (i := 0) (x := 236) (nx := 1) (r1 := 0) (r2 := 0) (r3 := 0) rfl rfl ?_
        refine wr_gr (k0 := 236) (x := 238) (nx := 4) (r1 := 11) (r2 := 13) (r3 := 0) rfl rfl (by decide) rfl ⟨rfl, rfl⟩ rfl ?_
        refine wi_bipush (n := 74) (nx := 6) (r1 := 0) (r2 := 0) (r3 := 0) rfl (by decide) ?_
        refine wi_bipush (n := 6) (nx := 8) (r1 := 0) (r2 := 0) (r3 := 0) rfl (by decide) ?_
        refine wi_iload_n (i := 1) (e := 1) (nx := 9) (r1 := 0) (r2 := 0) (r3 := 0) rfl rfl ?_
        refine wr_mulL (6) (nx := 10) (r1 := 0) (r2 := 0) (r3 := 0) rfl (by decide) ?_
        refine wr_addL (80) (nx := 11) (r1 := 0) (r2 := 0) (r3 := 0) rfl (by decide) ?_
        refine wi_iload_n (i := 2) (e := 0) (nx := 12) (r1 := 0) (r2 := 0) (r3 := 0) rfl rfl ?_
        refine wr_addL (80) (nx := 13) (r1 := 0) (r2 := 0) (r3 := 0) rfl (by decide) ?_
        refine wr_ia (k0 := 238) (a := 80) (f := 80) (x := h 238 80) (nx := 14) (r1 := 0) (r2 := 0) (r3 := 0) rfl (by decide) rfl (by omega) (by omega) (by decide) rfl ?_
        refine wi_ireturn (nx := 15) (r1 := 0) (r2 := 0) (r3 := 0) rfl rfl ?_
        refine wk_i ?_
        refine wr_add (nx := 38) (r1 := 0) (r2 := 0) (r3 := 0) rfl (fun e21 (fe21 : e21 = 31 + (h 238 80)) => ?_)
        obtain ⟨i22, ei22⟩ : ∃ q : Nat, e21 = (q : Int) := ⟨(e21).toNat, by omega⟩
        have b23 := gi_b (lo := 0) (hi := 4) g 238 i22 (gi_rg 31 12 (fun _ => rfl) (by decide +kernel) (by omega))
        refine wr_ia (k0 := 238) (a := e21) (f := i22) (x := h 238 i22) (nx := 39) (r1 := 0) (r2 := 0) (r3 := 0) rfl (by decide) rfl (by omega) (by omega) (by decide) rfl ?_
        refine wi_aload_n (i := 0) (x := 236) (nx := 40) (r1 := 0) (r2 := 0) (r3 := 0) rfl rfl ?_
        refine wr_gr (k0 := 236) (x := 238) (nx := 43) (r1 := 11) (r2 := 13) (r3 := 0) rfl rfl (by decide) rfl ⟨rfl, rfl⟩ rfl ?_
        refine wi_bipush (n := 68) (nx := 45) (r1 := 0) (r2 := 0) (r3 := 0) rfl (by decide) ?_
        have b24 := gi_b (lo := -1) (hi := 4) g 238 68 rfl
        refine wr_ia (k0 := 238) (a := 68) (f := 68) (x := h 238 68) (nx := 46) (r1 := 0) (r2 := 0) (r3 := 0) rfl (by decide) rfl (by omega) (by omega) (by decide) rfl ?_
        refine wi_icmp (cd := .ne) (nx := 49) (r1 := 51) (r2 := 0) (r3 := 0) rfl (by omega) (by omega) (fun (q25 : (h 238 i22) ≠ (h 238 68)) => ?_) (fun (q25 : ¬ ((h 238 i22) ≠ (h 238 68))) => ?_)
        ·
          refine wi_iload_n (i := 1) (e := x1) (nx := 52) (r1 := 0) (r2 := 0) (r3 := 0) rfl rfl ?_
          refine wi_iconst (n := (-1)) (nx := 53) (r1 := 0) (r2 := 0) (r3 := 0) rfl ?_
          refine wi_icmp (cd := .eq) (nx := 56) (r1 := 71) (r2 := 0) (r3 := 0) rfl (by omega) (by omega) (fun (q26 : x1 = (-1)) => ?_) (fun (q26 : ¬ (x1 = (-1))) => ?_)
          ·
            refine wi_iload_n (i := 2) (e := 1) (nx := 72) (r1 := 0) (r2 := 0) (r3 := 0) rfl rfl ?_
            refine wi_istore_n (i := 1) (e := 1) (lo2 := [(1, vi 1), (0, .ref 236), (2, vi 1)]) (nx := 73) (r1 := 0) (r2 := 0) (r3 := 0) rfl rfl ?_
            refine wr_iincL (i := 2) (n := 1) (v := 1) (2) ([(2, vi 2), (1, vi 1), (0, .ref 236)]) (nx := 76) (r1 := 0) (r2 := 0) (r3 := 0) rfl rfl (by decide) rfl ?_
            refine wi_goto (nx := 79) (r1 := 4) (r2 := 0) (r3 := 0) rfl ?_
            refine wp.lo (lo := [(0, .ref 236), (1, vi 1), (2, vi 2)]) ⟨rfl, rfl, rfl, trivial⟩ rfl ?_
            have cn27 : canL (h 238) 1 := ⟨(show (1 : Int) + 1 ≤ h 238 1 by omega), mlP.pos y8_0 (by omega)⟩
            exact I3 1 2 h ⟨rfl, (show (-1 ≤ 1 ∧ 1 ≤ 3) ∧ (0 ≤ 2 ∧ 2 ≤ 4) by omega), (laX.yes 1 (by decide) (by omega) cn27)⟩ (show ((4 : Int) + 1 - 2).toNat < ((4 : Int) + 1 - x2).toNat by omega)
          ·
            refine wi_aload_n (i := 0) (x := 236) (nx := 57) (r1 := 0) (r2 := 0) (r3 := 0) rfl rfl ?_
            refine wi_iload_n (i := 2) (e := 1) (nx := 58) (r1 := 0) (r2 := 0) (r3 := 0) rfl rfl ?_
            refine wi_iconst (n := 0) (nx := 59) (r1 := 0) (r2 := 0) (r3 := 0) rfl ?_
            refine wr_V (k0 := 236) (rest := []) (as := [.ref 236, vi 1, vi 0]) (nx := 62) (r1 := 258) (r2 := 2) (r3 := 11) rfl rfl rfl (of_decide_eq_true rfl) rfl rfl (by decide) rfl rfl (of_decide_eq_true rfl) (of_decide_eq_true rfl) ?_
            refine wi_aload_n (i := 0) (x := 236) (nx := 1) (r1 := 0) (r2 := 0) (r3 := 0) rfl rfl ?_
            refine wr_gr (k0 := 236) (x := 238) (nx := 4) (r1 := 11) (r2 := 13) (r3 := 0) rfl rfl (by decide) rfl ⟨rfl, rfl⟩ rfl ?_
            refine wi_bipush (n := 74) (nx := 6) (r1 := 0) (r2 := 0) (r3 := 0) rfl (by decide) ?_
            refine wi_bipush (n := 6) (nx := 8) (r1 := 0) (r2 := 0) (r3 := 0) rfl (by decide) ?_
            refine wi_iload_n (i := 1) (e := 1) (nx := 9) (r1 := 0) (r2 := 0) (r3 := 0) rfl rfl ?_
            refine wr_mulL (6) (nx := 10) (r1 := 0) (r2 := 0) (r3 := 0) rfl (by decide) ?_
            refine wr_addL (80) (nx := 11) (r1 := 0) (r2 := 0) (r3 := 0) rfl (by decide) ?_
            refine wi_iload_n (i := 2) (e := 0) (nx := 12) (r1 := 0) (r2 := 0) (r3 := 0) rfl rfl ?_
            refine wr_addL (80) (nx := 13) (r1 := 0) (r2 := 0) (r3 := 0) rfl (by decide) ?_
            refine wr_ia (k0 := 238) (a := 80) (f := 80) (x := h 238 80) (nx := 14) (r1 := 0) (r2 := 0) (r3 := 0) rfl (by decide) rfl (by omega) (by omega) (by decide) rfl ?_
            refine wi_ireturn (nx := 15) (r1 := 0) (r2 := 0) (r3 := 0) rfl rfl ?_
            refine wk_i ?_
            refine wi_aload_n (i := 0) (x := 236) (nx := 63) (r1 := 0) (r2 := 0) (r3 := 0) rfl rfl ?_
            refine wi_iload_n (i := 1) (e := x1) (nx := 64) (r1 := 0) (r2 := 0) (r3 := 0) rfl rfl ?_
            refine wi_iconst (n := 0) (nx := 65) (r1 := 0) (r2 := 0) (r3 := 0) rfl ?_
            rcases (show x1 = 0 ∨ x1 = 1 ∨ x1 = 2 ∨ x1 = 3 by omega) with q27 | q27 | q27 | q27
            ·
              rw [q27]
              refine wr_V (k0 := 236) (rest := [vi (h 238 80)]) (as := [.ref 236, vi 0, vi 0]) (nx := 68) (r1 := 258) (r2 := 2) (r3 := 11) rfl rfl rfl (of_decide_eq_true rfl) rfl rfl (by decide) rfl rfl (of_decide_eq_true rfl) (of_decide_eq_true rfl) ?_
              refine wi_aload_n (i := 0) (x := 236) (nx := 1) (r1 := 0) (r2 := 0) (r3 := 0) rfl rfl ?_
              refine wr_gr (k0 := 236) (x := 238) (nx := 4) (r1 := 11) (r2 := 13) (r3 := 0) rfl rfl (by decide) rfl ⟨rfl, rfl⟩ rfl ?_
              refine wi_bipush (n := 74) (nx := 6) (r1 := 0) (r2 := 0) (r3 := 0) rfl (by decide) ?_
              refine wi_bipush (n := 6) (nx := 8) (r1 := 0) (r2 := 0) (r3 := 0) rfl (by decide) ?_
              refine wi_iload_n (i := 1) (e := 0) (nx := 9) (r1 := 0) (r2 := 0) (r3 := 0) rfl rfl ?_
              refine wr_mulL (0) (nx := 10) (r1 := 0) (r2 := 0) (r3 := 0) rfl (by decide) ?_
              refine wr_addL (74) (nx := 11) (r1 := 0) (r2 := 0) (r3 := 0) rfl (by decide) ?_
              refine wi_iload_n (i := 2) (e := 0) (nx := 12) (r1 := 0) (r2 := 0) (r3 := 0) rfl rfl ?_
              refine wr_addL (74) (nx := 13) (r1 := 0) (r2 := 0) (r3 := 0) rfl (by decide) ?_
              have b28 := gi_b (lo := 0) (hi := 11) g 238 74 rfl
              refine wr_ia (k0 := 238) (a := 74) (f := 74) (x := h 238 74) (nx := 14) (r1 := 0) (r2 := 0) (r3 := 0) rfl (by decide) rfl (by omega) (by omega) (by decide) rfl ?_
              refine wi_ireturn (nx := 15) (r1 := 0) (r2 := 0) (r3 := 0) rfl rfl ?_
              refine wk_i ?_
              refine wi_icmp (cd := .ge) (nx := 71) (r1 := 73) (r2 := 0) (r3 := 0) rfl (by omega) (by omega) (fun (q29 : (h 238 74) ≤ (h 238 80)) => ?_) (fun (q29 : ¬ ((h 238 74) ≤ (h 238 80))) => ?_)
              ·
                refine wr_iincL (i := 2) (n := 1) (v := 1) (2) ([(2, vi 2), (0, .ref 236), (1, vi 0)]) (nx := 76) (r1 := 0) (r2 := 0) (r3 := 0) rfl rfl (by decide) rfl ?_
                refine wi_goto (nx := 79) (r1 := 4) (r2 := 0) (r3 := 0) rfl ?_
                refine wp.lo (lo := [(0, .ref 236), (1, vi 0), (2, vi 2)]) ⟨rfl, rfl, rfl, trivial⟩ rfl ?_
                exact I3 0 2 h ⟨rfl, (show (-1 ≤ 0 ∧ 0 ≤ 3) ∧ (0 ≤ 2 ∧ 2 ≤ 4) by omega), (by have lx : laX (canL (h 238)) x1 2 := laX.keep X3_0 (by omega); rwa [show x1 = 0 by omega] at lx)⟩ (show ((4 : Int) + 1 - 2).toNat < ((4 : Int) + 1 - x2).toNat by omega)
              ·
                refine wi_iload_n (i := 2) (e := 1) (nx := 72) (r1 := 0) (r2 := 0) (r3 := 0) rfl rfl ?_
                refine wi_istore_n (i := 1) (e := 1) (lo2 := [(1, vi 1), (0, .ref 236), (2, vi 1)]) (nx := 73) (r1 := 0) (r2 := 0) (r3 := 0) rfl rfl ?_
                refine wr_iincL (i := 2) (n := 1) (v := 1) (2) ([(2, vi 2), (1, vi 1), (0, .ref 236)]) (nx := 76) (r1 := 0) (r2 := 0) (r3 := 0) rfl rfl (by decide) rfl ?_
                refine wi_goto (nx := 79) (r1 := 4) (r2 := 0) (r3 := 0) rfl ?_
                refine wp.lo (lo := [(0, .ref 236), (1, vi 1), (2, vi 2)]) ⟨rfl, rfl, rfl, trivial⟩ rfl ?_
                have cn30 : canL (h 238) 1 := ⟨(show (1 : Int) + 1 ≤ h 238 1 by omega), mlP.pos y8_0 (by omega)⟩
                exact I3 1 2 h ⟨rfl, (show (-1 ≤ 1 ∧ 1 ≤ 3) ∧ (0 ≤ 2 ∧ 2 ≤ 4) by omega), (laX.yes 1 (by decide) (by omega) cn30)⟩ (show ((4 : Int) + 1 - 2).toNat < ((4 : Int) + 1 - x2).toNat by omega)
            ·
              rw [q27]
              refine wr_V (k0 := 236) (rest := [vi (h 238 80)]) (as := [.ref 236, vi 1, vi 0]) (nx := 68) (r1 := 258) (r2 := 2) (r3 := 11) rfl rfl rfl (of_decide_eq_true rfl) rfl rfl (by decide) rfl rfl (of_decide_eq_true rfl) (of_decide_eq_true rfl) ?_
              refine wi_aload_n (i := 0) (x := 236) (nx := 1) (r1 := 0) (r2 := 0) (r3 := 0) rfl rfl ?_
              refine wr_gr (k0 := 236) (x := 238) (nx := 4) (r1 := 11) (r2 := 13) (r3 := 0) rfl rfl (by decide) rfl ⟨rfl, rfl⟩ rfl ?_
              refine wi_bipush (n := 74) (nx := 6) (r1 := 0) (r2 := 0) (r3 := 0) rfl (by decide) ?_
              refine wi_bipush (n := 6) (nx := 8) (r1 := 0) (r2 := 0) (r3 := 0) rfl (by decide) ?_
              refine wi_iload_n (i := 1) (e := 1) (nx := 9) (r1 := 0) (r2 := 0) (r3 := 0) rfl rfl ?_
              refine wr_mulL (6) (nx := 10) (r1 := 0) (r2 := 0) (r3 := 0) rfl (by decide) ?_
              refine wr_addL (80) (nx := 11) (r1 := 0) (r2 := 0) (r3 := 0) rfl (by decide) ?_
              refine wi_iload_n (i := 2) (e := 0) (nx := 12) (r1 := 0) (r2 := 0) (r3 := 0) rfl rfl ?_
              refine wr_addL (80) (nx := 13) (r1 := 0) (r2 := 0) (r3 := 0) rfl (by decide) ?_
              refine wr_ia (k0 := 238) (a := 80) (f := 80) (x := h 238 80) (nx := 14) (r1 := 0) (r2 := 0) (r3 := 0) rfl (by decide) rfl (by omega) (by omega) (by decide) rfl ?_
              refine wi_ireturn (nx := 15) (r1 := 0) (r2 := 0) (r3 := 0) rfl rfl ?_
              refine wk_i ?_
              refine wi_icmp (cd := .ge) (nx := 71) (r1 := 73) (r2 := 0) (r3 := 0) rfl (by omega) (by omega) (fun (q28 : (h 238 80) ≤ (h 238 80)) => ?_) (fun (q28 : ¬ ((h 238 80) ≤ (h 238 80))) => by exfalso; omega)
              refine wr_iincL (i := 2) (n := 1) (v := 1) (2) ([(2, vi 2), (0, .ref 236), (1, vi 1)]) (nx := 76) (r1 := 0) (r2 := 0) (r3 := 0) rfl rfl (by decide) rfl ?_
              refine wi_goto (nx := 79) (r1 := 4) (r2 := 0) (r3 := 0) rfl ?_
              refine wp.lo (lo := [(0, .ref 236), (1, vi 1), (2, vi 2)]) ⟨rfl, rfl, rfl, trivial⟩ rfl ?_
              have cn29 : canL (h 238) 1 := ⟨(show (1 : Int) + 1 ≤ h 238 1 by omega), mlP.pos y8_0 (by omega)⟩
              exact I3 1 2 h ⟨rfl, (show (-1 ≤ 1 ∧ 1 ≤ 3) ∧ (0 ≤ 2 ∧ 2 ≤ 4) by omega), (laX.yes 1 (by decide) (by omega) cn29)⟩ (show ((4 : Int) + 1 - 2).toNat < ((4 : Int) + 1 - x2).toNat by omega)
            ·
              rw [q27]
              refine wr_V (k0 := 236) (rest := [vi (h 238 80)]) (as := [.ref 236, vi 2, vi 0]) (nx := 68) (r1 := 258) (r2 := 2) (r3 := 11) rfl rfl rfl (of_decide_eq_true rfl) rfl rfl (by decide) rfl rfl (of_decide_eq_true rfl) (of_decide_eq_true rfl) ?_
              refine wi_aload_n (i := 0) (x := 236) (nx := 1) (r1 := 0) (r2 := 0) (r3 := 0) rfl rfl ?_
              refine wr_gr (k0 := 236) (x := 238) (nx := 4) (r1 := 11) (r2 := 13) (r3 := 0) rfl rfl (by decide) rfl ⟨rfl, rfl⟩ rfl ?_
              refine wi_bipush (n := 74) (nx := 6) (r1 := 0) (r2 := 0) (r3 := 0) rfl (by decide) ?_
              refine wi_bipush (n := 6) (nx := 8) (r1 := 0) (r2 := 0) (r3 := 0) rfl (by decide) ?_
              refine wi_iload_n (i := 1) (e := 2) (nx := 9) (r1 := 0) (r2 := 0) (r3 := 0) rfl rfl ?_
              refine wr_mulL (12) (nx := 10) (r1 := 0) (r2 := 0) (r3 := 0) rfl (by decide) ?_
              refine wr_addL (86) (nx := 11) (r1 := 0) (r2 := 0) (r3 := 0) rfl (by decide) ?_
              refine wi_iload_n (i := 2) (e := 0) (nx := 12) (r1 := 0) (r2 := 0) (r3 := 0) rfl rfl ?_
              refine wr_addL (86) (nx := 13) (r1 := 0) (r2 := 0) (r3 := 0) rfl (by decide) ?_
              have b28 := gi_b (lo := 0) (hi := 11) g 238 86 rfl
              refine wr_ia (k0 := 238) (a := 86) (f := 86) (x := h 238 86) (nx := 14) (r1 := 0) (r2 := 0) (r3 := 0) rfl (by decide) rfl (by omega) (by omega) (by decide) rfl ?_
              refine wi_ireturn (nx := 15) (r1 := 0) (r2 := 0) (r3 := 0) rfl rfl ?_
              refine wk_i ?_
              refine wi_icmp (cd := .ge) (nx := 71) (r1 := 73) (r2 := 0) (r3 := 0) rfl (by omega) (by omega) (fun (q29 : (h 238 86) ≤ (h 238 80)) => ?_) (fun (q29 : ¬ ((h 238 86) ≤ (h 238 80))) => ?_)
              ·
                refine wr_iincL (i := 2) (n := 1) (v := 1) (2) ([(2, vi 2), (0, .ref 236), (1, vi 2)]) (nx := 76) (r1 := 0) (r2 := 0) (r3 := 0) rfl rfl (by decide) rfl ?_
                refine wi_goto (nx := 79) (r1 := 4) (r2 := 0) (r3 := 0) rfl ?_
                refine wp.lo (lo := [(0, .ref 236), (1, vi 2), (2, vi 2)]) ⟨rfl, rfl, rfl, trivial⟩ rfl ?_
                exact I3 2 2 h ⟨rfl, (show (-1 ≤ 2 ∧ 2 ≤ 3) ∧ (0 ≤ 2 ∧ 2 ≤ 4) by omega), (by have lx : laX (canL (h 238)) x1 2 := laX.keep X3_0 (by omega); rwa [show x1 = 2 by omega] at lx)⟩ (show ((4 : Int) + 1 - 2).toNat < ((4 : Int) + 1 - x2).toNat by omega)
              ·
                refine wi_iload_n (i := 2) (e := 1) (nx := 72) (r1 := 0) (r2 := 0) (r3 := 0) rfl rfl ?_
                refine wi_istore_n (i := 1) (e := 1) (lo2 := [(1, vi 1), (0, .ref 236), (2, vi 1)]) (nx := 73) (r1 := 0) (r2 := 0) (r3 := 0) rfl rfl ?_
                refine wr_iincL (i := 2) (n := 1) (v := 1) (2) ([(2, vi 2), (1, vi 1), (0, .ref 236)]) (nx := 76) (r1 := 0) (r2 := 0) (r3 := 0) rfl rfl (by decide) rfl ?_
                refine wi_goto (nx := 79) (r1 := 4) (r2 := 0) (r3 := 0) rfl ?_
                refine wp.lo (lo := [(0, .ref 236), (1, vi 1), (2, vi 2)]) ⟨rfl, rfl, rfl, trivial⟩ rfl ?_
                have cn30 : canL (h 238) 1 := ⟨(show (1 : Int) + 1 ≤ h 238 1 by omega), mlP.pos y8_0 (by omega)⟩
                exact I3 1 2 h ⟨rfl, (show (-1 ≤ 1 ∧ 1 ≤ 3) ∧ (0 ≤ 2 ∧ 2 ≤ 4) by omega), (laX.yes 1 (by decide) (by omega) cn30)⟩ (show ((4 : Int) + 1 - 2).toNat < ((4 : Int) + 1 - x2).toNat by omega)
            ·
              rw [q27]
              refine wr_V (k0 := 236) (rest := [vi (h 238 80)]) (as := [.ref 236, vi 3, vi 0]) (nx := 68) (r1 := 258) (r2 := 2) (r3 := 11) rfl rfl rfl (of_decide_eq_true rfl) rfl rfl (by decide) rfl rfl (of_decide_eq_true rfl) (of_decide_eq_true rfl) ?_
              refine wi_aload_n (i := 0) (x := 236) (nx := 1) (r1 := 0) (r2 := 0) (r3 := 0) rfl rfl ?_
              refine wr_gr (k0 := 236) (x := 238) (nx := 4) (r1 := 11) (r2 := 13) (r3 := 0) rfl rfl (by decide) rfl ⟨rfl, rfl⟩ rfl ?_
              refine wi_bipush (n := 74) (nx := 6) (r1 := 0) (r2 := 0) (r3 := 0) rfl (by decide) ?_
              refine wi_bipush (n := 6) (nx := 8) (r1 := 0) (r2 := 0) (r3 := 0) rfl (by decide) ?_
              refine wi_iload_n (i := 1) (e := 3) (nx := 9) (r1 := 0) (r2 := 0) (r3 := 0) rfl rfl ?_
              refine wr_mulL (18) (nx := 10) (r1 := 0) (r2 := 0) (r3 := 0) rfl (by decide) ?_
              refine wr_addL (92) (nx := 11) (r1 := 0) (r2 := 0) (r3 := 0) rfl (by decide) ?_
              refine wi_iload_n (i := 2) (e := 0) (nx := 12) (r1 := 0) (r2 := 0) (r3 := 0) rfl rfl ?_
              refine wr_addL (92) (nx := 13) (r1 := 0) (r2 := 0) (r3 := 0) rfl (by decide) ?_
              have b28 := gi_b (lo := 0) (hi := 11) g 238 92 rfl
              refine wr_ia (k0 := 238) (a := 92) (f := 92) (x := h 238 92) (nx := 14) (r1 := 0) (r2 := 0) (r3 := 0) rfl (by decide) rfl (by omega) (by omega) (by decide) rfl ?_
              refine wi_ireturn (nx := 15) (r1 := 0) (r2 := 0) (r3 := 0) rfl rfl ?_
              refine wk_i ?_
              refine wi_icmp (cd := .ge) (nx := 71) (r1 := 73) (r2 := 0) (r3 := 0) rfl (by omega) (by omega) (fun (q29 : (h 238 92) ≤ (h 238 80)) => ?_) (fun (q29 : ¬ ((h 238 92) ≤ (h 238 80))) => ?_)
              ·
                refine wr_iincL (i := 2) (n := 1) (v := 1) (2) ([(2, vi 2), (0, .ref 236), (1, vi 3)]) (nx := 76) (r1 := 0) (r2 := 0) (r3 := 0) rfl rfl (by decide) rfl ?_
                refine wi_goto (nx := 79) (r1 := 4) (r2 := 0) (r3 := 0) rfl ?_
                refine wp.lo (lo := [(0, .ref 236), (1, vi 3), (2, vi 2)]) ⟨rfl, rfl, rfl, trivial⟩ rfl ?_
                exact I3 3 2 h ⟨rfl, (show (-1 ≤ 3 ∧ 3 ≤ 3) ∧ (0 ≤ 2 ∧ 2 ≤ 4) by omega), (by have lx : laX (canL (h 238)) x1 2 := laX.keep X3_0 (by omega); rwa [show x1 = 3 by omega] at lx)⟩ (show ((4 : Int) + 1 - 2).toNat < ((4 : Int) + 1 - x2).toNat by omega)
              ·
                refine wi_iload_n (i := 2) (e := 1) (nx := 72) (r1 := 0) (r2 := 0) (r3 := 0) rfl rfl ?_
                refine wi_istore_n (i := 1) (e := 1) (lo2 := [(1, vi 1), (0, .ref 236), (2, vi 1)]) (nx := 73) (r1 := 0) (r2 := 0) (r3 := 0) rfl rfl ?_
                refine wr_iincL (i := 2) (n := 1) (v := 1) (2) ([(2, vi 2), (1, vi 1), (0, .ref 236)]) (nx := 76) (r1 := 0) (r2 := 0) (r3 := 0) rfl rfl (by decide) rfl ?_
                refine wi_goto (nx := 79) (r1 := 4) (r2 := 0) (r3 := 0) rfl ?_
                refine wp.lo (lo := [(0, .ref 236), (1, vi 1), (2, vi 2)]) ⟨rfl, rfl, rfl, trivial⟩ rfl ?_
                have cn30 : canL (h 238) 1 := ⟨(show (1 : Int) + 1 ≤ h 238 1 by omega), mlP.pos y8_0 (by omega)⟩
                exact I3 1 2 h ⟨rfl, (show (-1 ≤ 1 ∧ 1 ≤ 3) ∧ (0 ≤ 2 ∧ 2 ≤ 4) by omega), (laX.yes 1 (by decide) (by omega) cn30)⟩ (show ((4 : Int) + 1 - 2).toNat < ((4 : Int) + 1 - x2).toNat by omega)
        ·
          refine wi_iload_n (i := 2) (e := 1) (nx := 50) (r1 := 0) (r2 := 0) (r3 := 0) rfl rfl ?_
          refine wi_ireturn (nx := 51) (r1 := 0) (r2 := 0) (r3 := 0) rfl rfl ?_
          have cn26 : canL (h 238) 1 := ⟨(show (1 : Int) + 1 ≤ h 238 1 by omega), mlP.pos y8_0 (by omega)⟩
          exact k 1 (by omega) (laX.yes 1 (by decide) (by omega) cn26)
      ·
        refine wi_goto (nx := 25) (r1 := 73) (r2 := 0) (r3 := 0) rfl ?_
        refine wr_iincL (i := 2) (n := 1) (v := 1) (2) ([(2, vi 2), (0, .ref 236), (1, vi x1)]) (nx := 76) (r1 := 0) (r2 := 0) (r3 := 0) rfl rfl (by decide) rfl ?_
        refine wi_goto (nx := 79) (r1 := 4) (r2 := 0) (r3 := 0) rfl ?_
        refine wp.lo (lo := [(0, .ref 236), (1, vi x1), (2, vi 2)]) ⟨rfl, rfl, rfl, trivial⟩ rfl ?_
        have cn21 : ¬ canL (h 238) 1 := fun c => mlP.neg y8_0 (by omega) c.2
        exact I3 x1 2 h ⟨rfl, (show (-1 ≤ x1 ∧ x1 ≤ 3) ∧ (0 ≤ 2 ∧ 2 ≤ 4) by omega), (laX.no X3_0 (by omega) 1 (by omega) cn21)⟩ (show ((4 : Int) + 1 - 2).toNat < ((4 : Int) + 1 - x2).toNat by omega)
    ·
      rw [q7]
      refine wr_V (k0 := 236) (rest := []) (as := [.ref 236, vi 2]) (nx := 19) (r1 := 267) (r2 := 1) (r3 := 11) rfl rfl rfl (of_decide_eq_true rfl) rfl rfl (by decide) rfl rfl (of_decide_eq_true rfl) (of_decide_eq_true rfl) ?_
      refine ct_267_236_L2 hcr  g    (fun z9  (fz9 : 0 ≤ z9 ∧ z9 ≤ 1) (p8_0 : z9 = 0 ∨ 1 ≤ (h 238 100)) (p8_1 : z9 = 0 ∨ (h 238 67) ≤ 9998) (p8_2 : z9 = 0 ∨ (1 ≤ (h 238 (43 + (h 238 86).toNat)) ∧ (h 238 102) < (h 238 7)) ∨ ((h 238 (43 + (h 238 86).toNat)) ≤ 0 ∧ (h 238 86) - (h 238 106) ≤ (h 238 3))) y8_0 => ?_)
      have b10 := gi_b (lo := 0) (hi := 6) g 238 100 rfl
      have b11 := gi_b (lo := 0) (hi := 9999) g 238 67 rfl
      have b12 := gi_b (lo := 0) (hi := 11) g 238 86 rfl
      obtain ⟨i13, ei13⟩ : ∃ q : Nat, (43 + h 238 86) = (q : Int) := ⟨(43 + h 238 86).toNat, by omega⟩
      have b14 := gi_b (lo := 0) (hi := 999) g 238 i13 (gi_rg 43 12 (fun _ => rfl) (by decide +kernel) (by omega))
      have e15 : h 238 (43 + (h 238 86).toNat) = h 238 i13 := by rw [show 43 + (h 238 86).toNat = i13 by omega]
      have b16 := gi_b (lo := 0) (hi := 3) g 238 102 rfl
      have b17 := gi_b (lo := 0) (hi := 3) g 238 7 rfl
      have b18 := gi_b (lo := 0) (hi := 12) g 238 106 rfl
      have b19 := gi_b (lo := 0) (hi := 999) g 238 3 rfl
      refine wk_i ?_
      refine wi_if (cd := .ne) (nx := 22) (r1 := 25) (r2 := 0) (r3 := 0) rfl (by omega) (fun (q20 : z9 ≠ 0) => ?_) (fun (q20 : ¬ (z9 ≠ 0)) => ?_)
      ·
        refine wi_aload_n (i := 0) (x := 236) (nx := 26) (r1 := 0) (r2 := 0) (r3 := 0) rfl rfl ?_
        refine wr_gr (k0 := 236) (x := 238) (nx := 29) (r1 := 11) (r2 := 13) (r3 := 0) rfl rfl (by decide) rfl ⟨rfl, rfl⟩ rfl ?_
        refine wi_bipush (n := 31) (nx := 31) (r1 := 0) (r2 := 0) (r3 := 0) rfl (by decide) ?_
        refine wi_aload_n (i := 0) (x := 236) (nx := 32) (r1 := 0) (r2 := 0) (r3 := 0) rfl rfl ?_
        refine wi_iload_n (i := 2) (e := 2) (nx := 33) (r1 := 0) (r2 := 0) (r3 := 0) rfl rfl ?_
        refine wi_iconst (n := 0) (nx := 34) (r1 := 0) (r2 := 0) (r3 := 0) rfl ?_
        refine wr_V (k0 := 236) (rest := [vi 31, .ref 238]) (as := [.ref 236, vi 2, vi 0]) (nx := 37) (r1 := 258) (r2 := 2) (r3 := 11) rfl rfl rfl (of_decide_eq_true rfl) rfl rfl (by decide) rfl rfl (of_decide_eq_true rfl) (of_decide_eq_true rfl) ?_
        refine wi_aload_n (i := 0) (x := 236) (nx := 1) (r1 := 0) (r2 := 0) (r3 := 0) rfl rfl ?_
        refine wr_gr (k0 := 236) (x := 238) (nx := 4) (r1 := 11) (r2 := 13) (r3 := 0) rfl rfl (by decide) rfl ⟨rfl, rfl⟩ rfl ?_
        refine wi_bipush (n := 74) (nx := 6) (r1 := 0) (r2 := 0) (r3 := 0) rfl (by decide) ?_
        refine wi_bipush (n := 6) (nx := 8) (r1 := 0) (r2 := 0) (r3 := 0) rfl (by decide) ?_
        refine wi_iload_n (i := 1) (e := 2) (nx := 9) (r1 := 0) (r2 := 0) (r3 := 0) rfl rfl ?_
        refine wr_mulL (12) (nx := 10) (r1 := 0) (r2 := 0) (r3 := 0) rfl (by decide) ?_
        refine wr_addL (86) (nx := 11) (r1 := 0) (r2 := 0) (r3 := 0) rfl (by decide) ?_
        refine wi_iload_n (i := 2) (e := 0) (nx := 12) (r1 := 0) (r2 := 0) (r3 := 0) rfl rfl ?_
        refine wr_addL (86) (nx := 13) (r1 := 0) (r2 := 0) (r3 := 0) rfl (by decide) ?_
        refine wr_ia (k0 := 238) (a := 86) (f := 86) (x := h 238 86) (nx := 14) (r1 := 0) (r2 := 0) (r3 := 0) rfl (by decide) rfl (by omega) (by omega) (by decide) rfl ?_
        refine wi_ireturn (nx := 15) (r1 := 0) (r2 := 0) (r3 := 0) rfl rfl ?_
        refine wk_i ?_
        refine wr_add (nx := 38) (r1 := 0) (r2 := 0) (r3 := 0) rfl (fun e21 (fe21 : e21 = 31 + (h 238 86)) => ?_)
        obtain ⟨i22, ei22⟩ : ∃ q : Nat, e21 = (q : Int) := ⟨(e21).toNat, by omega⟩
        have b23 := gi_b (lo := 0) (hi := 4) g 238 i22 (gi_rg 31 12 (fun _ => rfl) (by decide +kernel) (by omega))
        refine wr_ia (k0 := 238) (a := e21) (f := i22) (x := h 238 i22) (nx := 39) (r1 := 0) (r2 := 0) (r3 := 0) rfl (by decide) rfl (by omega) (by omega) (by decide) rfl ?_
        refine wi_aload_n (i := 0) (x := 236) (nx := 40) (r1 := 0) (r2 := 0) (r3 := 0) rfl rfl ?_
        refine wr_gr (k0 := 236) (x := 238) (nx := 43) (r1 := 11) (r2 := 13) (r3 := 0) rfl rfl (by decide) rfl ⟨rfl, rfl⟩ rfl ?_
        refine wi_bipush (n := 68) (nx := 45) (r1 := 0) (r2 := 0) (r3 := 0) rfl (by decide) ?_
        have b24 := gi_b (lo := -1) (hi := 4) g 238 68 rfl
        refine wr_ia (k0 := 238) (a := 68) (f := 68) (x := h 238 68) (nx := 46) (r1 := 0) (r2 := 0) (r3 := 0) rfl (by decide) rfl (by omega) (by omega) (by decide) rfl ?_
        refine wi_icmp (cd := .ne) (nx := 49) (r1 := 51) (r2 := 0) (r3 := 0) rfl (by omega) (by omega) (fun (q25 : (h 238 i22) ≠ (h 238 68)) => ?_) (fun (q25 : ¬ ((h 238 i22) ≠ (h 238 68))) => ?_)
        ·
          refine wi_iload_n (i := 1) (e := x1) (nx := 52) (r1 := 0) (r2 := 0) (r3 := 0) rfl rfl ?_
          refine wi_iconst (n := (-1)) (nx := 53) (r1 := 0) (r2 := 0) (r3 := 0) rfl ?_
          refine wi_icmp (cd := .eq) (nx := 56) (r1 := 71) (r2 := 0) (r3 := 0) rfl (by omega) (by omega) (fun (q26 : x1 = (-1)) => ?_) (fun (q26 : ¬ (x1 = (-1))) => ?_)
          ·
            refine wi_iload_n (i := 2) (e := 2) (nx := 72) (r1 := 0) (r2 := 0) (r3 := 0) rfl rfl ?_
            refine wi_istore_n (i := 1) (e := 2) (lo2 := [(1, vi 2), (0, .ref 236), (2, vi 2)]) (nx := 73) (r1 := 0) (r2 := 0) (r3 := 0) rfl rfl ?_
            refine wr_iincL (i := 2) (n := 1) (v := 2) (3) ([(2, vi 3), (1, vi 2), (0, .ref 236)]) (nx := 76) (r1 := 0) (r2 := 0) (r3 := 0) rfl rfl (by decide) rfl ?_
            refine wi_goto (nx := 79) (r1 := 4) (r2 := 0) (r3 := 0) rfl ?_
            refine wp.lo (lo := [(0, .ref 236), (1, vi 2), (2, vi 3)]) ⟨rfl, rfl, rfl, trivial⟩ rfl ?_
            have cn27 : canL (h 238) 2 := ⟨(show (2 : Int) + 1 ≤ h 238 1 by omega), mlP.pos y8_0 (by omega)⟩
            exact I3 2 3 h ⟨rfl, (show (-1 ≤ 2 ∧ 2 ≤ 3) ∧ (0 ≤ 3 ∧ 3 ≤ 4) by omega), (laX.yes 2 (by decide) (by omega) cn27)⟩ (show ((4 : Int) + 1 - 3).toNat < ((4 : Int) + 1 - x2).toNat by omega)
          ·
            refine wi_aload_n (i := 0) (x := 236) (nx := 57) (r1 := 0) (r2 := 0) (r3 := 0) rfl rfl ?_
            refine wi_iload_n (i := 2) (e := 2) (nx := 58) (r1 := 0) (r2 := 0) (r3 := 0) rfl rfl ?_
            refine wi_iconst (n := 0) (nx := 59) (r1 := 0) (r2 := 0) (r3 := 0) rfl ?_
            refine wr_V (k0 := 236) (rest := []) (as := [.ref 236, vi 2, vi 0]) (nx := 62) (r1 := 258) (r2 := 2) (r3 := 11) rfl rfl rfl (of_decide_eq_true rfl) rfl rfl (by decide) rfl rfl (of_decide_eq_true rfl) (of_decide_eq_true rfl) ?_
            refine wi_aload_n (i := 0) (x := 236) (nx := 1) (r1 := 0) (r2 := 0) (r3 := 0) rfl rfl ?_
            refine wr_gr (k0 := 236) (x := 238) (nx := 4) (r1 := 11) (r2 := 13) (r3 := 0) rfl rfl (by decide) rfl ⟨rfl, rfl⟩ rfl ?_
            refine wi_bipush (n := 74) (nx := 6) (r1 := 0) (r2 := 0) (r3 := 0) rfl (by decide) ?_
            refine wi_bipush (n := 6) (nx := 8) (r1 := 0) (r2 := 0) (r3 := 0) rfl (by decide) ?_
            refine wi_iload_n (i := 1) (e := 2) (nx := 9) (r1 := 0) (r2 := 0) (r3 := 0) rfl rfl ?_
            refine wr_mulL (12) (nx := 10) (r1 := 0) (r2 := 0) (r3 := 0) rfl (by decide) ?_
            refine wr_addL (86) (nx := 11) (r1 := 0) (r2 := 0) (r3 := 0) rfl (by decide) ?_
            refine wi_iload_n (i := 2) (e := 0) (nx := 12) (r1 := 0) (r2 := 0) (r3 := 0) rfl rfl ?_
            refine wr_addL (86) (nx := 13) (r1 := 0) (r2 := 0) (r3 := 0) rfl (by decide) ?_
            refine wr_ia (k0 := 238) (a := 86) (f := 86) (x := h 238 86) (nx := 14) (r1 := 0) (r2 := 0) (r3 := 0) rfl (by decide) rfl (by omega) (by omega) (by decide) rfl ?_
            refine wi_ireturn (nx := 15) (r1 := 0) (r2 := 0) (r3 := 0) rfl rfl ?_
            refine wk_i ?_
            refine wi_aload_n (i := 0) (x := 236) (nx := 63) (r1 := 0) (r2 := 0) (r3 := 0) rfl rfl ?_
            refine wi_iload_n (i := 1) (e := x1) (nx := 64) (r1 := 0) (r2 := 0) (r3 := 0) rfl rfl ?_
            refine wi_iconst (n := 0) (nx := 65) (r1 := 0) (r2 := 0) (r3 := 0) rfl ?_
            rcases (show x1 = 0 ∨ x1 = 1 ∨ x1 = 2 ∨ x1 = 3 by omega) with q27 | q27 | q27 | q27
            ·
              rw [q27]
              refine wr_V (k0 := 236) (rest := [vi (h 238 86)]) (as := [.ref 236, vi 0, vi 0]) (nx := 68) (r1 := 258) (r2 := 2) (r3 := 11) rfl rfl rfl (of_decide_eq_true rfl) rfl rfl (by decide) rfl rfl (of_decide_eq_true rfl) (of_decide_eq_true rfl) ?_
              refine wi_aload_n (i := 0) (x := 236) (nx := 1) (r1 := 0) (r2 := 0) (r3 := 0) rfl rfl ?_
              refine wr_gr (k0 := 236) (x := 238) (nx := 4) (r1 := 11) (r2 := 13) (r3 := 0) rfl rfl (by decide) rfl ⟨rfl, rfl⟩ rfl ?_
              refine wi_bipush (n := 74) (nx := 6) (r1 := 0) (r2 := 0) (r3 := 0) rfl (by decide) ?_
              refine wi_bipush (n := 6) (nx := 8) (r1 := 0) (r2 := 0) (r3 := 0) rfl (by decide) ?_
              refine wi_iload_n (i := 1) (e := 0) (nx := 9) (r1 := 0) (r2 := 0) (r3 := 0) rfl rfl ?_
              refine wr_mulL (0) (nx := 10) (r1 := 0) (r2 := 0) (r3 := 0) rfl (by decide) ?_
              refine wr_addL (74) (nx := 11) (r1 := 0) (r2 := 0) (r3 := 0) rfl (by decide) ?_
              refine wi_iload_n (i := 2) (e := 0) (nx := 12) (r1 := 0) (r2 := 0) (r3 := 0) rfl rfl ?_
              refine wr_addL (74) (nx := 13) (r1 := 0) (r2 := 0) (r3 := 0) rfl (by decide) ?_
              have b28 := gi_b (lo := 0) (hi := 11) g 238 74 rfl
              refine wr_ia (k0 := 238) (a := 74) (f := 74) (x := h 238 74) (nx := 14) (r1 := 0) (r2 := 0) (r3 := 0) rfl (by decide) rfl (by omega) (by omega) (by decide) rfl ?_
              refine wi_ireturn (nx := 15) (r1 := 0) (r2 := 0) (r3 := 0) rfl rfl ?_
              refine wk_i ?_
              refine wi_icmp (cd := .ge) (nx := 71) (r1 := 73) (r2 := 0) (r3 := 0) rfl (by omega) (by omega) (fun (q29 : (h 238 74) ≤ (h 238 86)) => ?_) (fun (q29 : ¬ ((h 238 74) ≤ (h 238 86))) => ?_)
              ·
                refine wr_iincL (i := 2) (n := 1) (v := 2) (3) ([(2, vi 3), (0, .ref 236), (1, vi 0)]) (nx := 76) (r1 := 0) (r2 := 0) (r3 := 0) rfl rfl (by decide) rfl ?_
                refine wi_goto (nx := 79) (r1 := 4) (r2 := 0) (r3 := 0) rfl ?_
                refine wp.lo (lo := [(0, .ref 236), (1, vi 0), (2, vi 3)]) ⟨rfl, rfl, rfl, trivial⟩ rfl ?_
                exact I3 0 3 h ⟨rfl, (show (-1 ≤ 0 ∧ 0 ≤ 3) ∧ (0 ≤ 3 ∧ 3 ≤ 4) by omega), (by have lx : laX (canL (h 238)) x1 3 := laX.keep X3_0 (by omega); rwa [show x1 = 0 by omega] at lx)⟩ (show ((4 : Int) + 1 - 3).toNat < ((4 : Int) + 1 - x2).toNat by omega)
              ·
                refine wi_iload_n (i := 2) (e := 2) (nx := 72) (r1 := 0) (r2 := 0) (r3 := 0) rfl rfl ?_
                refine wi_istore_n (i := 1) (e := 2) (lo2 := [(1, vi 2), (0, .ref 236), (2, vi 2)]) (nx := 73) (r1 := 0) (r2 := 0) (r3 := 0) rfl rfl ?_
                refine wr_iincL (i := 2) (n := 1) (v := 2) (3) ([(2, vi 3), (1, vi 2), (0, .ref 236)]) (nx := 76) (r1 := 0) (r2 := 0) (r3 := 0) rfl rfl (by decide) rfl ?_
                refine wi_goto (nx := 79) (r1 := 4) (r2 := 0) (r3 := 0) rfl ?_
                refine wp.lo (lo := [(0, .ref 236), (1, vi 2), (2, vi 3)]) ⟨rfl, rfl, rfl, trivial⟩ rfl ?_
                have cn30 : canL (h 238) 2 := ⟨(show (2 : Int) + 1 ≤ h 238 1 by omega), mlP.pos y8_0 (by omega)⟩
                exact I3 2 3 h ⟨rfl, (show (-1 ≤ 2 ∧ 2 ≤ 3) ∧ (0 ≤ 3 ∧ 3 ≤ 4) by omega), (laX.yes 2 (by decide) (by omega) cn30)⟩ (show ((4 : Int) + 1 - 3).toNat < ((4 : Int) + 1 - x2).toNat by omega)
            ·
              rw [q27]
              refine wr_V (k0 := 236) (rest := [vi (h 238 86)]) (as := [.ref 236, vi 1, vi 0]) (nx := 68) (r1 := 258) (r2 := 2) (r3 := 11) rfl rfl rfl (of_decide_eq_true rfl) rfl rfl (by decide) rfl rfl (of_decide_eq_true rfl) (of_decide_eq_true rfl) ?_
              refine wi_aload_n (i := 0) (x := 236) (nx := 1) (r1 := 0) (r2 := 0) (r3 := 0) rfl rfl ?_
              refine wr_gr (k0 := 236) (x := 238) (nx := 4) (r1 := 11) (r2 := 13) (r3 := 0) rfl rfl (by decide) rfl ⟨rfl, rfl⟩ rfl ?_
              refine wi_bipush (n := 74) (nx := 6) (r1 := 0) (r2 := 0) (r3 := 0) rfl (by decide) ?_
              refine wi_bipush (n := 6) (nx := 8) (r1 := 0) (r2 := 0) (r3 := 0) rfl (by decide) ?_
              refine wi_iload_n (i := 1) (e := 1) (nx := 9) (r1 := 0) (r2 := 0) (r3 := 0) rfl rfl ?_
              refine wr_mulL (6) (nx := 10) (r1 := 0) (r2 := 0) (r3 := 0) rfl (by decide) ?_
              refine wr_addL (80) (nx := 11) (r1 := 0) (r2 := 0) (r3 := 0) rfl (by decide) ?_
              refine wi_iload_n (i := 2) (e := 0) (nx := 12) (r1 := 0) (r2 := 0) (r3 := 0) rfl rfl ?_
              refine wr_addL (80) (nx := 13) (r1 := 0) (r2 := 0) (r3 := 0) rfl (by decide) ?_
              have b28 := gi_b (lo := 0) (hi := 11) g 238 80 rfl
              refine wr_ia (k0 := 238) (a := 80) (f := 80) (x := h 238 80) (nx := 14) (r1 := 0) (r2 := 0) (r3 := 0) rfl (by decide) rfl (by omega) (by omega) (by decide) rfl ?_
              refine wi_ireturn (nx := 15) (r1 := 0) (r2 := 0) (r3 := 0) rfl rfl ?_
              refine wk_i ?_
              refine wi_icmp (cd := .ge) (nx := 71) (r1 := 73) (r2 := 0) (r3 := 0) rfl (by omega) (by omega) (fun (q29 : (h 238 80) ≤ (h 238 86)) => ?_) (fun (q29 : ¬ ((h 238 80) ≤ (h 238 86))) => ?_)
              ·
                refine wr_iincL (i := 2) (n := 1) (v := 2) (3) ([(2, vi 3), (0, .ref 236), (1, vi 1)]) (nx := 76) (r1 := 0) (r2 := 0) (r3 := 0) rfl rfl (by decide) rfl ?_
                refine wi_goto (nx := 79) (r1 := 4) (r2 := 0) (r3 := 0) rfl ?_
                refine wp.lo (lo := [(0, .ref 236), (1, vi 1), (2, vi 3)]) ⟨rfl, rfl, rfl, trivial⟩ rfl ?_
                exact I3 1 3 h ⟨rfl, (show (-1 ≤ 1 ∧ 1 ≤ 3) ∧ (0 ≤ 3 ∧ 3 ≤ 4) by omega), (by have lx : laX (canL (h 238)) x1 3 := laX.keep X3_0 (by omega); rwa [show x1 = 1 by omega] at lx)⟩ (show ((4 : Int) + 1 - 3).toNat < ((4 : Int) + 1 - x2).toNat by omega)
              ·
                refine wi_iload_n (i := 2) (e := 2) (nx := 72) (r1 := 0) (r2 := 0) (r3 := 0) rfl rfl ?_
                refine wi_istore_n (i := 1) (e := 2) (lo2 := [(1, vi 2), (0, .ref 236), (2, vi 2)]) (nx := 73) (r1 := 0) (r2 := 0) (r3 := 0) rfl rfl ?_
                refine wr_iincL (i := 2) (n := 1) (v := 2) (3) ([(2, vi 3), (1, vi 2), (0, .ref 236)]) (nx := 76) (r1 := 0) (r2 := 0) (r3 := 0) rfl rfl (by decide) rfl ?_
                refine wi_goto (nx := 79) (r1 := 4) (r2 := 0) (r3 := 0) rfl ?_
                refine wp.lo (lo := [(0, .ref 236), (1, vi 2), (2, vi 3)]) ⟨rfl, rfl, rfl, trivial⟩ rfl ?_
                have cn30 : canL (h 238) 2 := ⟨(show (2 : Int) + 1 ≤ h 238 1 by omega), mlP.pos y8_0 (by omega)⟩
                exact I3 2 3 h ⟨rfl, (show (-1 ≤ 2 ∧ 2 ≤ 3) ∧ (0 ≤ 3 ∧ 3 ≤ 4) by omega), (laX.yes 2 (by decide) (by omega) cn30)⟩ (show ((4 : Int) + 1 - 3).toNat < ((4 : Int) + 1 - x2).toNat by omega)
            ·
              rw [q27]
              refine wr_V (k0 := 236) (rest := [vi (h 238 86)]) (as := [.ref 236, vi 2, vi 0]) (nx := 68) (r1 := 258) (r2 := 2) (r3 := 11) rfl rfl rfl (of_decide_eq_true rfl) rfl rfl (by decide) rfl rfl (of_decide_eq_true rfl) (of_decide_eq_true rfl) ?_
              refine wi_aload_n (i := 0) (x := 236) (nx := 1) (r1 := 0) (r2 := 0) (r3 := 0) rfl rfl ?_
              refine wr_gr (k0 := 236) (x := 238) (nx := 4) (r1 := 11) (r2 := 13) (r3 := 0) rfl rfl (by decide) rfl ⟨rfl, rfl⟩ rfl ?_
              refine wi_bipush (n := 74) (nx := 6) (r1 := 0) (r2 := 0) (r3 := 0) rfl (by decide) ?_
              refine wi_bipush (n := 6) (nx := 8) (r1 := 0) (r2 := 0) (r3 := 0) rfl (by decide) ?_
              refine wi_iload_n (i := 1) (e := 2) (nx := 9) (r1 := 0) (r2 := 0) (r3 := 0) rfl rfl ?_
              refine wr_mulL (12) (nx := 10) (r1 := 0) (r2 := 0) (r3 := 0) rfl (by decide) ?_
              refine wr_addL (86) (nx := 11) (r1 := 0) (r2 := 0) (r3 := 0) rfl (by decide) ?_
              refine wi_iload_n (i := 2) (e := 0) (nx := 12) (r1 := 0) (r2 := 0) (r3 := 0) rfl rfl ?_
              refine wr_addL (86) (nx := 13) (r1 := 0) (r2 := 0) (r3 := 0) rfl (by decide) ?_
              refine wr_ia (k0 := 238) (a := 86) (f := 86) (x := h 238 86) (nx := 14) (r1 := 0) (r2 := 0) (r3 := 0) rfl (by decide) rfl (by omega) (by omega) (by decide) rfl ?_
              refine wi_ireturn (nx := 15) (r1 := 0) (r2 := 0) (r3 := 0) rfl rfl ?_
              refine wk_i ?_
              refine wi_icmp (cd := .ge) (nx := 71) (r1 := 73) (r2 := 0) (r3 := 0) rfl (by omega) (by omega) (fun (q28 : (h 238 86) ≤ (h 238 86)) => ?_) (fun (q28 : ¬ ((h 238 86) ≤ (h 238 86))) => by exfalso; omega)
              refine wr_iincL (i := 2) (n := 1) (v := 2) (3) ([(2, vi 3), (0, .ref 236), (1, vi 2)]) (nx := 76) (r1 := 0) (r2 := 0) (r3 := 0) rfl rfl (by decide) rfl ?_
              refine wi_goto (nx := 79) (r1 := 4) (r2 := 0) (r3 := 0) rfl ?_
              refine wp.lo (lo := [(0, .ref 236), (1, vi 2), (2, vi 3)]) ⟨rfl, rfl, rfl, trivial⟩ rfl ?_
              have cn29 : canL (h 238) 2 := ⟨(show (2 : Int) + 1 ≤ h 238 1 by omega), mlP.pos y8_0 (by omega)⟩
              exact I3 2 3 h ⟨rfl, (show (-1 ≤ 2 ∧ 2 ≤ 3) ∧ (0 ≤ 3 ∧ 3 ≤ 4) by omega), (laX.yes 2 (by decide) (by omega) cn29)⟩ (show ((4 : Int) + 1 - 3).toNat < ((4 : Int) + 1 - x2).toNat by omega)
            ·
              rw [q27]
              refine wr_V (k0 := 236) (rest := [vi (h 238 86)]) (as := [.ref 236, vi 3, vi 0]) (nx := 68) (r1 := 258) (r2 := 2) (r3 := 11) rfl rfl rfl (of_decide_eq_true rfl) rfl rfl (by decide) rfl rfl (of_decide_eq_true rfl) (of_decide_eq_true rfl) ?_
              refine wi_aload_n (i := 0) (x := 236) (nx := 1) (r1 := 0) (r2 := 0) (r3 := 0) rfl rfl ?_
              refine wr_gr (k0 := 236) (x := 238) (nx := 4) (r1 := 11) (r2 := 13) (r3 := 0) rfl rfl (by decide) rfl ⟨rfl, rfl⟩ rfl ?_
              refine wi_bipush (n := 74) (nx := 6) (r1 := 0) (r2 := 0) (r3 := 0) rfl (by decide) ?_
              refine wi_bipush (n := 6) (nx := 8) (r1 := 0) (r2 := 0) (r3 := 0) rfl (by decide) ?_
              refine wi_iload_n (i := 1) (e := 3) (nx := 9) (r1 := 0) (r2 := 0) (r3 := 0) rfl rfl ?_
              refine wr_mulL (18) (nx := 10) (r1 := 0) (r2 := 0) (r3 := 0) rfl (by decide) ?_
              refine wr_addL (92) (nx := 11) (r1 := 0) (r2 := 0) (r3 := 0) rfl (by decide) ?_
              refine wi_iload_n (i := 2) (e := 0) (nx := 12) (r1 := 0) (r2 := 0) (r3 := 0) rfl rfl ?_
              refine wr_addL (92) (nx := 13) (r1 := 0) (r2 := 0) (r3 := 0) rfl (by decide) ?_
              have b28 := gi_b (lo := 0) (hi := 11) g 238 92 rfl
              refine wr_ia (k0 := 238) (a := 92) (f := 92) (x := h 238 92) (nx := 14) (r1 := 0) (r2 := 0) (r3 := 0) rfl (by decide) rfl (by omega) (by omega) (by decide) rfl ?_
              refine wi_ireturn (nx := 15) (r1 := 0) (r2 := 0) (r3 := 0) rfl rfl ?_
              refine wk_i ?_
              refine wi_icmp (cd := .ge) (nx := 71) (r1 := 73) (r2 := 0) (r3 := 0) rfl (by omega) (by omega) (fun (q29 : (h 238 92) ≤ (h 238 86)) => ?_) (fun (q29 : ¬ ((h 238 92) ≤ (h 238 86))) => ?_)
              ·
                refine wr_iincL (i := 2) (n := 1) (v := 2) (3) ([(2, vi 3), (0, .ref 236), (1, vi 3)]) (nx := 76) (r1 := 0) (r2 := 0) (r3 := 0) rfl rfl (by decide) rfl ?_
                refine wi_goto (nx := 79) (r1 := 4) (r2 := 0) (r3 := 0) rfl ?_
                refine wp.lo (lo := [(0, .ref 236), (1, vi 3), (2, vi 3)]) ⟨rfl, rfl, rfl, trivial⟩ rfl ?_
                exact I3 3 3 h ⟨rfl, (show (-1 ≤ 3 ∧ 3 ≤ 3) ∧ (0 ≤ 3 ∧ 3 ≤ 4) by omega), (by have lx : laX (canL (h 238)) x1 3 := laX.keep X3_0 (by omega); rwa [show x1 = 3 by omega] at lx)⟩ (show ((4 : Int) + 1 - 3).toNat < ((4 : Int) + 1 - x2).toNat by omega)
              ·
                refine wi_iload_n (i := 2) (e := 2) (nx := 72) (r1 := 0) (r2 := 0) (r3 := 0) rfl rfl ?_
                refine wi_istore_n (i := 1) (e := 2) (lo2 := [(1, vi 2), (0, .ref 236), (2, vi 2)]) (nx := 73) (r1 := 0) (r2 := 0) (r3 := 0) rfl rfl ?_
                refine wr_iincL (i := 2) (n := 1) (v := 2) (3) ([(2, vi 3), (1, vi 2), (0, .ref 236)]) (nx := 76) (r1 := 0) (r2 := 0) (r3 := 0) rfl rfl (by decide) rfl ?_
                refine wi_goto (nx := 79) (r1 := 4) (r2 := 0) (r3 := 0) rfl ?_
                refine wp.lo (lo := [(0, .ref 236), (1, vi 2), (2, vi 3)]) ⟨rfl, rfl, rfl, trivial⟩ rfl ?_
                have cn30 : canL (h 238) 2 := ⟨(show (2 : Int) + 1 ≤ h 238 1 by omega), mlP.pos y8_0 (by omega)⟩
                exact I3 2 3 h ⟨rfl, (show (-1 ≤ 2 ∧ 2 ≤ 3) ∧ (0 ≤ 3 ∧ 3 ≤ 4) by omega), (laX.yes 2 (by decide) (by omega) cn30)⟩ (show ((4 : Int) + 1 - 3).toNat < ((4 : Int) + 1 - x2).toNat by omega)
        ·
          refine wi_iload_n (i := 2) (e := 2) (nx := 50) (r1 := 0) (r2 := 0) (r3 := 0) rfl rfl ?_
          refine wi_ireturn (nx := 51) (r1 := 0) (r2 := 0) (r3 := 0) rfl rfl ?_
          have cn26 : canL (h 238) 2 := ⟨(show (2 : Int) + 1 ≤ h 238 1 by omega), mlP.pos y8_0 (by omega)⟩
          exact k 2 (by omega) (laX.yes 2 (by decide) (by omega) cn26)
      ·
        refine wi_goto (nx := 25) (r1 := 73) (r2 := 0) (r3 := 0) rfl ?_
        refine wr_iincL (i := 2) (n := 1) (v := 2) (3) ([(2, vi 3), (0, .ref 236), (1, vi x1)]) (nx := 76) (r1 := 0) (r2 := 0) (r3 := 0) rfl rfl (by decide) rfl ?_
        refine wi_goto (nx := 79) (r1 := 4) (r2 := 0) (r3 := 0) rfl ?_
        refine wp.lo (lo := [(0, .ref 236), (1, vi x1), (2, vi 3)]) ⟨rfl, rfl, rfl, trivial⟩ rfl ?_
        have cn21 : ¬ canL (h 238) 2 := fun c => mlP.neg y8_0 (by omega) c.2
        exact I3 x1 3 h ⟨rfl, (show (-1 ≤ x1 ∧ x1 ≤ 3) ∧ (0 ≤ 3 ∧ 3 ≤ 4) by omega), (laX.no X3_0 (by omega) 2 (by omega) cn21)⟩ (show ((4 : Int) + 1 - 3).toNat < ((4 : Int) + 1 - x2).toNat by omega)
    ·
      rw [q7]
      refine wr_V (k0 := 236) (rest := []) (as := [.ref 236, vi 3]) (nx := 19) (r1 := 267) (r2 := 1) (r3 := 11) rfl rfl rfl (of_decide_eq_true rfl) rfl rfl (by decide) rfl rfl (of_decide_eq_true rfl) (of_decide_eq_true rfl) ?_
      refine ct_267_236_L3 hcr  g    (fun z9  (fz9 : 0 ≤ z9 ∧ z9 ≤ 1) (p8_0 : z9 = 0 ∨ 1 ≤ (h 238 101)) (p8_1 : z9 = 0 ∨ (h 238 67) ≤ 9998) (p8_2 : z9 = 0 ∨ (1 ≤ (h 238 (43 + (h 238 92).toNat)) ∧ (h 238 102) < (h 238 7)) ∨ ((h 238 (43 + (h 238 92).toNat)) ≤ 0 ∧ (h 238 92) - (h 238 106) ≤ (h 238 3))) y8_0 => ?_)
      have b10 := gi_b (lo := 0) (hi := 6) g 238 101 rfl
      have b11 := gi_b (lo := 0) (hi := 9999) g 238 67 rfl
      have b12 := gi_b (lo := 0) (hi := 11) g 238 92 rfl
      obtain ⟨i13, ei13⟩ : ∃ q : Nat, (43 + h 238 92) = (q : Int) := ⟨(43 + h 238 92).toNat, by omega⟩
      have b14 := gi_b (lo := 0) (hi := 999) g 238 i13 (gi_rg 43 12 (fun _ => rfl) (by decide +kernel) (by omega))
      have e15 : h 238 (43 + (h 238 92).toNat) = h 238 i13 := by rw [show 43 + (h 238 92).toNat = i13 by omega]
      have b16 := gi_b (lo := 0) (hi := 3) g 238 102 rfl
      have b17 := gi_b (lo := 0) (hi := 3) g 238 7 rfl
      have b18 := gi_b (lo := 0) (hi := 12) g 238 106 rfl
      have b19 := gi_b (lo := 0) (hi := 999) g 238 3 rfl
      refine wk_i ?_
      refine wi_if (cd := .ne) (nx := 22) (r1 := 25) (r2 := 0) (r3 := 0) rfl (by omega) (fun (q20 : z9 ≠ 0) => ?_) (fun (q20 : ¬ (z9 ≠ 0)) => ?_)
      ·
        refine wi_aload_n (i := 0) (x := 236) (nx := 26) (r1 := 0) (r2 := 0) (r3 := 0) rfl rfl ?_
        refine wr_gr (k0 := 236) (x := 238) (nx := 29) (r1 := 11) (r2 := 13) (r3 := 0) rfl rfl (by decide) rfl ⟨rfl, rfl⟩ rfl ?_
        refine wi_bipush (n := 31) (nx := 31) (r1 := 0) (r2 := 0) (r3 := 0) rfl (by decide) ?_
        refine wi_aload_n (i := 0) (x := 236) (nx := 32) (r1 := 0) (r2 := 0) (r3 := 0) rfl rfl ?_
        refine wi_iload_n (i := 2) (e := 3) (nx := 33) (r1 := 0) (r2 := 0) (r3 := 0) rfl rfl ?_
        refine wi_iconst (n := 0) (nx := 34) (r1 := 0) (r2 := 0) (r3 := 0) rfl ?_
        refine wr_V (k0 := 236) (rest := [vi 31, .ref 238]) (as := [.ref 236, vi 3, vi 0]) (nx := 37) (r1 := 258) (r2 := 2) (r3 := 11) rfl rfl rfl (of_decide_eq_true rfl) rfl rfl (by decide) rfl rfl (of_decide_eq_true rfl) (of_decide_eq_true rfl) ?_
        refine wi_aload_n (i := 0) (x := 236) (nx := 1) (r1 := 0) (r2 := 0) (r3 := 0) rfl rfl ?_
        refine wr_gr (k0 := 236) (x := 238) (nx := 4) (r1 := 11) (r2 := 13) (r3 := 0) rfl rfl (by decide) rfl ⟨rfl, rfl⟩ rfl ?_
        refine wi_bipush (n := 74) (nx := 6) (r1 := 0) (r2 := 0) (r3 := 0) rfl (by decide) ?_
        refine wi_bipush (n := 6) (nx := 8) (r1 := 0) (r2 := 0) (r3 := 0) rfl (by decide) ?_
        refine wi_iload_n (i := 1) (e := 3) (nx := 9) (r1 := 0) (r2 := 0) (r3 := 0) rfl rfl ?_
        refine wr_mulL (18) (nx := 10) (r1 := 0) (r2 := 0) (r3 := 0) rfl (by decide) ?_
        refine wr_addL (92) (nx := 11) (r1 := 0) (r2 := 0) (r3 := 0) rfl (by decide) ?_
        refine wi_iload_n (i := 2) (e := 0) (nx := 12) (r1 := 0) (r2 := 0) (r3 := 0) rfl rfl ?_
        refine wr_addL (92) (nx := 13) (r1 := 0) (r2 := 0) (r3 := 0) rfl (by decide) ?_
        refine wr_ia (k0 := 238) (a := 92) (f := 92) (x := h 238 92) (nx := 14) (r1 := 0) (r2 := 0) (r3 := 0) rfl (by decide) rfl (by omega) (by omega) (by decide) rfl ?_
        refine wi_ireturn (nx := 15) (r1 := 0) (r2 := 0) (r3 := 0) rfl rfl ?_
        refine wk_i ?_
        refine wr_add (nx := 38) (r1 := 0) (r2 := 0) (r3 := 0) rfl (fun e21 (fe21 : e21 = 31 + (h 238 92)) => ?_)
        obtain ⟨i22, ei22⟩ : ∃ q : Nat, e21 = (q : Int) := ⟨(e21).toNat, by omega⟩
        have b23 := gi_b (lo := 0) (hi := 4) g 238 i22 (gi_rg 31 12 (fun _ => rfl) (by decide +kernel) (by omega))
        refine wr_ia (k0 := 238) (a := e21) (f := i22) (x := h 238 i22) (nx := 39) (r1 := 0) (r2 := 0) (r3 := 0) rfl (by decide) rfl (by omega) (by omega) (by decide) rfl ?_
        refine wi_aload_n (i := 0) (x := 236) (nx := 40) (r1 := 0) (r2 := 0) (r3 := 0) rfl rfl ?_
        refine wr_gr (k0 := 236) (x := 238) (nx := 43) (r1 := 11) (r2 := 13) (r3 := 0) rfl rfl (by decide) rfl ⟨rfl, rfl⟩ rfl ?_
        refine wi_bipush (n := 68) (nx := 45) (r1 := 0) (r2 := 0) (r3 := 0) rfl (by decide) ?_
        have b24 := gi_b (lo := -1) (hi := 4) g 238 68 rfl
        refine wr_ia (k0 := 238) (a := 68) (f := 68) (x := h 238 68) (nx := 46) (r1 := 0) (r2 := 0) (r3 := 0) rfl (by decide) rfl (by omega) (by omega) (by decide) rfl ?_
        refine wi_icmp (cd := .ne) (nx := 49) (r1 := 51) (r2 := 0) (r3 := 0) rfl (by omega) (by omega) (fun (q25 : (h 238 i22) ≠ (h 238 68)) => ?_) (fun (q25 : ¬ ((h 238 i22) ≠ (h 238 68))) => ?_)
        ·
          refine wi_iload_n (i := 1) (e := x1) (nx := 52) (r1 := 0) (r2 := 0) (r3 := 0) rfl rfl ?_
          refine wi_iconst (n := (-1)) (nx := 53) (r1 := 0) (r2 := 0) (r3 := 0) rfl ?_
          refine wi_icmp (cd := .eq) (nx := 56) (r1 := 71) (r2 := 0) (r3 := 0) rfl (by omega) (by omega) (fun (q26 : x1 = (-1)) => ?_) (fun (q26 : ¬ (x1 = (-1))) => ?_)
          ·
            refine wi_iload_n (i := 2) (e := 3) (nx := 72) (r1 := 0) (r2 := 0) (r3 := 0) rfl rfl ?_
            refine wi_istore_n (i := 1) (e := 3) (lo2 := [(1, vi 3), (0, .ref 236), (2, vi 3)]) (nx := 73) (r1 := 0) (r2 := 0) (r3 := 0) rfl rfl ?_
            refine wr_iincL (i := 2) (n := 1) (v := 3) (4) ([(2, vi 4), (1, vi 3), (0, .ref 236)]) (nx := 76) (r1 := 0) (r2 := 0) (r3 := 0) rfl rfl (by decide) rfl ?_
            refine wi_goto (nx := 79) (r1 := 4) (r2 := 0) (r3 := 0) rfl ?_
            refine wp.lo (lo := [(0, .ref 236), (1, vi 3), (2, vi 4)]) ⟨rfl, rfl, rfl, trivial⟩ rfl ?_
            have cn27 : canL (h 238) 3 := ⟨(show (3 : Int) + 1 ≤ h 238 1 by omega), mlP.pos y8_0 (by omega)⟩
            exact I3 3 4 h ⟨rfl, (show (-1 ≤ 3 ∧ 3 ≤ 3) ∧ (0 ≤ 4 ∧ 4 ≤ 4) by omega), (laX.yes 3 (by decide) (by omega) cn27)⟩ (show ((4 : Int) + 1 - 4).toNat < ((4 : Int) + 1 - x2).toNat by omega)
          ·
            refine wi_aload_n (i := 0) (x := 236) (nx := 57) (r1 := 0) (r2 := 0) (r3 := 0) rfl rfl ?_
            refine wi_iload_n (i := 2) (e := 3) (nx := 58) (r1 := 0) (r2 := 0) (r3 := 0) rfl rfl ?_
            refine wi_iconst (n := 0) (nx := 59) (r1 := 0) (r2 := 0) (r3 := 0) rfl ?_
            refine wr_V (k0 := 236) (rest := []) (as := [.ref 236, vi 3, vi 0]) (nx := 62) (r1 := 258) (r2 := 2) (r3 := 11) rfl rfl rfl (of_decide_eq_true rfl) rfl rfl (by decide) rfl rfl (of_decide_eq_true rfl) (of_decide_eq_true rfl) ?_
            refine wi_aload_n (i := 0) (x := 236) (nx := 1) (r1 := 0) (r2 := 0) (r3 := 0) rfl rfl ?_
            refine wr_gr (k0 := 236) (x := 238) (nx := 4) (r1 := 11) (r2 := 13) (r3 := 0) rfl rfl (by decide) rfl ⟨rfl, rfl⟩ rfl ?_
            refine wi_bipush (n := 74) (nx := 6) (r1 := 0) (r2 := 0) (r3 := 0) rfl (by decide) ?_
            refine wi_bipush (n := 6) (nx := 8) (r1 := 0) (r2 := 0) (r3 := 0) rfl (by decide) ?_
            refine wi_iload_n (i := 1) (e := 3) (nx := 9) (r1 := 0) (r2 := 0) (r3 := 0) rfl rfl ?_
            refine wr_mulL (18) (nx := 10) (r1 := 0) (r2 := 0) (r3 := 0) rfl (by decide) ?_
            refine wr_addL (92) (nx := 11) (r1 := 0) (r2 := 0) (r3 := 0) rfl (by decide) ?_
            refine wi_iload_n (i := 2) (e := 0) (nx := 12) (r1 := 0) (r2 := 0) (r3 := 0) rfl rfl ?_
            refine wr_addL (92) (nx := 13) (r1 := 0) (r2 := 0) (r3 := 0) rfl (by decide) ?_
            refine wr_ia (k0 := 238) (a := 92) (f := 92) (x := h 238 92) (nx := 14) (r1 := 0) (r2 := 0) (r3 := 0) rfl (by decide) rfl (by omega) (by omega) (by decide) rfl ?_
            refine wi_ireturn (nx := 15) (r1 := 0) (r2 := 0) (r3 := 0) rfl rfl ?_
            refine wk_i ?_
            refine wi_aload_n (i := 0) (x := 236) (nx := 63) (r1 := 0) (r2 := 0) (r3 := 0) rfl rfl ?_
            refine wi_iload_n (i := 1) (e := x1) (nx := 64) (r1 := 0) (r2 := 0) (r3 := 0) rfl rfl ?_
            refine wi_iconst (n := 0) (nx := 65) (r1 := 0) (r2 := 0) (r3 := 0) rfl ?_
            rcases (show x1 = 0 ∨ x1 = 1 ∨ x1 = 2 ∨ x1 = 3 by omega) with q27 | q27 | q27 | q27
            ·
              rw [q27]
              refine wr_V (k0 := 236) (rest := [vi (h 238 92)]) (as := [.ref 236, vi 0, vi 0]) (nx := 68) (r1 := 258) (r2 := 2) (r3 := 11) rfl rfl rfl (of_decide_eq_true rfl) rfl rfl (by decide) rfl rfl (of_decide_eq_true rfl) (of_decide_eq_true rfl) ?_
              refine wi_aload_n (i := 0) (x := 236) (nx := 1) (r1 := 0) (r2 := 0) (r3 := 0) rfl rfl ?_
              refine wr_gr (k0 := 236) (x := 238) (nx := 4) (r1 := 11) (r2 := 13) (r3 := 0) rfl rfl (by decide) rfl ⟨rfl, rfl⟩ rfl ?_
              refine wi_bipush (n := 74) (nx := 6) (r1 := 0) (r2 := 0) (r3 := 0) rfl (by decide) ?_
              refine wi_bipush (n := 6) (nx := 8) (r1 := 0) (r2 := 0) (r3 := 0) rfl (by decide) ?_
              refine wi_iload_n (i := 1) (e := 0) (nx := 9) (r1 := 0) (r2 := 0) (r3 := 0) rfl rfl ?_
              refine wr_mulL (0) (nx := 10) (r1 := 0) (r2 := 0) (r3 := 0) rfl (by decide) ?_
              refine wr_addL (74) (nx := 11) (r1 := 0) (r2 := 0) (r3 := 0) rfl (by decide) ?_
              refine wi_iload_n (i := 2) (e := 0) (nx := 12) (r1 := 0) (r2 := 0) (r3 := 0) rfl rfl ?_
              refine wr_addL (74) (nx := 13) (r1 := 0) (r2 := 0) (r3 := 0) rfl (by decide) ?_
              have b28 := gi_b (lo := 0) (hi := 11) g 238 74 rfl
              refine wr_ia (k0 := 238) (a := 74) (f := 74) (x := h 238 74) (nx := 14) (r1 := 0) (r2 := 0) (r3 := 0) rfl (by decide) rfl (by omega) (by omega) (by decide) rfl ?_
              refine wi_ireturn (nx := 15) (r1 := 0) (r2 := 0) (r3 := 0) rfl rfl ?_
              refine wk_i ?_
              refine wi_icmp (cd := .ge) (nx := 71) (r1 := 73) (r2 := 0) (r3 := 0) rfl (by omega) (by omega) (fun (q29 : (h 238 74) ≤ (h 238 92)) => ?_) (fun (q29 : ¬ ((h 238 74) ≤ (h 238 92))) => ?_)
              ·
                refine wr_iincL (i := 2) (n := 1) (v := 3) (4) ([(2, vi 4), (0, .ref 236), (1, vi 0)]) (nx := 76) (r1 := 0) (r2 := 0) (r3 := 0) rfl rfl (by decide) rfl ?_
                refine wi_goto (nx := 79) (r1 := 4) (r2 := 0) (r3 := 0) rfl ?_
                refine wp.lo (lo := [(0, .ref 236), (1, vi 0), (2, vi 4)]) ⟨rfl, rfl, rfl, trivial⟩ rfl ?_
                exact I3 0 4 h ⟨rfl, (show (-1 ≤ 0 ∧ 0 ≤ 3) ∧ (0 ≤ 4 ∧ 4 ≤ 4) by omega), (by have lx : laX (canL (h 238)) x1 4 := laX.keep X3_0 (by omega); rwa [show x1 = 0 by omega] at lx)⟩ (show ((4 : Int) + 1 - 4).toNat < ((4 : Int) + 1 - x2).toNat by omega)
              ·
                refine wi_iload_n (i := 2) (e := 3) (nx := 72) (r1 := 0) (r2 := 0) (r3 := 0) rfl rfl ?_
                refine wi_istore_n (i := 1) (e := 3) (lo2 := [(1, vi 3), (0, .ref 236), (2, vi 3)]) (nx := 73) (r1 := 0) (r2 := 0) (r3 := 0) rfl rfl ?_
                refine wr_iincL (i := 2) (n := 1) (v := 3) (4) ([(2, vi 4), (1, vi 3), (0, .ref 236)]) (nx := 76) (r1 := 0) (r2 := 0) (r3 := 0) rfl rfl (by decide) rfl ?_
                refine wi_goto (nx := 79) (r1 := 4) (r2 := 0) (r3 := 0) rfl ?_
                refine wp.lo (lo := [(0, .ref 236), (1, vi 3), (2, vi 4)]) ⟨rfl, rfl, rfl, trivial⟩ rfl ?_
                have cn30 : canL (h 238) 3 := ⟨(show (3 : Int) + 1 ≤ h 238 1 by omega), mlP.pos y8_0 (by omega)⟩
                exact I3 3 4 h ⟨rfl, (show (-1 ≤ 3 ∧ 3 ≤ 3) ∧ (0 ≤ 4 ∧ 4 ≤ 4) by omega), (laX.yes 3 (by decide) (by omega) cn30)⟩ (show ((4 : Int) + 1 - 4).toNat < ((4 : Int) + 1 - x2).toNat by omega)
            ·
              rw [q27]
              refine wr_V (k0 := 236) (rest := [vi (h 238 92)]) (as := [.ref 236, vi 1, vi 0]) (nx := 68) (r1 := 258) (r2 := 2) (r3 := 11) rfl rfl rfl (of_decide_eq_true rfl) rfl rfl (by decide) rfl rfl (of_decide_eq_true rfl) (of_decide_eq_true rfl) ?_
              refine wi_aload_n (i := 0) (x := 236) (nx := 1) (r1 := 0) (r2 := 0) (r3 := 0) rfl rfl ?_
              refine wr_gr (k0 := 236) (x := 238) (nx := 4) (r1 := 11) (r2 := 13) (r3 := 0) rfl rfl (by decide) rfl ⟨rfl, rfl⟩ rfl ?_
              refine wi_bipush (n := 74) (nx := 6) (r1 := 0) (r2 := 0) (r3 := 0) rfl (by decide) ?_
              refine wi_bipush (n := 6) (nx := 8) (r1 := 0) (r2 := 0) (r3 := 0) rfl (by decide) ?_
              refine wi_iload_n (i := 1) (e := 1) (nx := 9) (r1 := 0) (r2 := 0) (r3 := 0) rfl rfl ?_
              refine wr_mulL (6) (nx := 10) (r1 := 0) (r2 := 0) (r3 := 0) rfl (by decide) ?_
              refine wr_addL (80) (nx := 11) (r1 := 0) (r2 := 0) (r3 := 0) rfl (by decide) ?_
              refine wi_iload_n (i := 2) (e := 0) (nx := 12) (r1 := 0) (r2 := 0) (r3 := 0) rfl rfl ?_
              refine wr_addL (80) (nx := 13) (r1 := 0) (r2 := 0) (r3 := 0) rfl (by decide) ?_
              have b28 := gi_b (lo := 0) (hi := 11) g 238 80 rfl
              refine wr_ia (k0 := 238) (a := 80) (f := 80) (x := h 238 80) (nx := 14) (r1 := 0) (r2 := 0) (r3 := 0) rfl (by decide) rfl (by omega) (by omega) (by decide) rfl ?_
              refine wi_ireturn (nx := 15) (r1 := 0) (r2 := 0) (r3 := 0) rfl rfl ?_
              refine wk_i ?_
              refine wi_icmp (cd := .ge) (nx := 71) (r1 := 73) (r2 := 0) (r3 := 0) rfl (by omega) (by omega) (fun (q29 : (h 238 80) ≤ (h 238 92)) => ?_) (fun (q29 : ¬ ((h 238 80) ≤ (h 238 92))) => ?_)
              ·
                refine wr_iincL (i := 2) (n := 1) (v := 3) (4) ([(2, vi 4), (0, .ref 236), (1, vi 1)]) (nx := 76) (r1 := 0) (r2 := 0) (r3 := 0) rfl rfl (by decide) rfl ?_
                refine wi_goto (nx := 79) (r1 := 4) (r2 := 0) (r3 := 0) rfl ?_
                refine wp.lo (lo := [(0, .ref 236), (1, vi 1), (2, vi 4)]) ⟨rfl, rfl, rfl, trivial⟩ rfl ?_
                exact I3 1 4 h ⟨rfl, (show (-1 ≤ 1 ∧ 1 ≤ 3) ∧ (0 ≤ 4 ∧ 4 ≤ 4) by omega), (by have lx : laX (canL (h 238)) x1 4 := laX.keep X3_0 (by omega); rwa [show x1 = 1 by omega] at lx)⟩ (show ((4 : Int) + 1 - 4).toNat < ((4 : Int) + 1 - x2).toNat by omega)
              ·
                refine wi_iload_n (i := 2) (e := 3) (nx := 72) (r1 := 0) (r2 := 0) (r3 := 0) rfl rfl ?_
                refine wi_istore_n (i := 1) (e := 3) (lo2 := [(1, vi 3), (0, .ref 236), (2, vi 3)]) (nx := 73) (r1 := 0) (r2 := 0) (r3 := 0) rfl rfl ?_
                refine wr_iincL (i := 2) (n := 1) (v := 3) (4) ([(2, vi 4), (1, vi 3), (0, .ref 236)]) (nx := 76) (r1 := 0) (r2 := 0) (r3 := 0) rfl rfl (by decide) rfl ?_
                refine wi_goto (nx := 79) (r1 := 4) (r2 := 0) (r3 := 0) rfl ?_
                refine wp.lo (lo := [(0, .ref 236), (1, vi 3), (2, vi 4)]) ⟨rfl, rfl, rfl, trivial⟩ rfl ?_
                have cn30 : canL (h 238) 3 := ⟨(show (3 : Int) + 1 ≤ h 238 1 by omega), mlP.pos y8_0 (by omega)⟩
                exact I3 3 4 h ⟨rfl, (show (-1 ≤ 3 ∧ 3 ≤ 3) ∧ (0 ≤ 4 ∧ 4 ≤ 4) by omega), (laX.yes 3 (by decide) (by omega) cn30)⟩ (show ((4 : Int) + 1 - 4).toNat < ((4 : Int) + 1 - x2).toNat by omega)
            ·
              rw [q27]
              refine wr_V (k0 := 236) (rest := [vi (h 238 92)]) (as := [.ref 236, vi 2, vi 0]) (nx := 68) (r1 := 258) (r2 := 2) (r3 := 11) rfl rfl rfl (of_decide_eq_true rfl) rfl rfl (by decide) rfl rfl (of_decide_eq_true rfl) (of_decide_eq_true rfl) ?_
              refine wi_aload_n (i := 0) (x := 236) (nx := 1) (r1 := 0) (r2 := 0) (r3 := 0) rfl rfl ?_
              refine wr_gr (k0 := 236) (x := 238) (nx := 4) (r1 := 11) (r2 := 13) (r3 := 0) rfl rfl (by decide) rfl ⟨rfl, rfl⟩ rfl ?_
              refine wi_bipush (n := 74) (nx := 6) (r1 := 0) (r2 := 0) (r3 := 0) rfl (by decide) ?_
              refine wi_bipush (n := 6) (nx := 8) (r1 := 0) (r2 := 0) (r3 := 0) rfl (by decide) ?_
              refine wi_iload_n (i := 1) (e := 2) (nx := 9) (r1 := 0) (r2 := 0) (r3 := 0) rfl rfl ?_
              refine wr_mulL (12) (nx := 10) (r1 := 0) (r2 := 0) (r3 := 0) rfl (by decide) ?_
              refine wr_addL (86) (nx := 11) (r1 := 0) (r2 := 0) (r3 := 0) rfl (by decide) ?_
              refine wi_iload_n (i := 2) (e := 0) (nx := 12) (r1 := 0) (r2 := 0) (r3 := 0) rfl rfl ?_
              refine wr_addL (86) (nx := 13) (r1 := 0) (r2 := 0) (r3 := 0) rfl (by decide) ?_
              have b28 := gi_b (lo := 0) (hi := 11) g 238 86 rfl
              refine wr_ia (k0 := 238) (a := 86) (f := 86) (x := h 238 86) (nx := 14) (r1 := 0) (r2 := 0) (r3 := 0) rfl (by decide) rfl (by omega) (by omega) (by decide) rfl ?_
              refine wi_ireturn (nx := 15) (r1 := 0) (r2 := 0) (r3 := 0) rfl rfl ?_
              refine wk_i ?_
              refine wi_icmp (cd := .ge) (nx := 71) (r1 := 73) (r2 := 0) (r3 := 0) rfl (by omega) (by omega) (fun (q29 : (h 238 86) ≤ (h 238 92)) => ?_) (fun (q29 : ¬ ((h 238 86) ≤ (h 238 92))) => ?_)
              ·
                refine wr_iincL (i := 2) (n := 1) (v := 3) (4) ([(2, vi 4), (0, .ref 236), (1, vi 2)]) (nx := 76) (r1 := 0) (r2 := 0) (r3 := 0) rfl rfl (by decide) rfl ?_
                refine wi_goto (nx := 79) (r1 := 4) (r2 := 0) (r3 := 0) rfl ?_
                refine wp.lo (lo := [(0, .ref 236), (1, vi 2), (2, vi 4)]) ⟨rfl, rfl, rfl, trivial⟩ rfl ?_
                exact I3 2 4 h ⟨rfl, (show (-1 ≤ 2 ∧ 2 ≤ 3) ∧ (0 ≤ 4 ∧ 4 ≤ 4) by omega), (by have lx : laX (canL (h 238)) x1 4 := laX.keep X3_0 (by omega); rwa [show x1 = 2 by omega] at lx)⟩ (show ((4 : Int) + 1 - 4).toNat < ((4 : Int) + 1 - x2).toNat by omega)
              ·
                refine wi_iload_n (i := 2) (e := 3) (nx := 72) (r1 := 0) (r2 := 0) (r3 := 0) rfl rfl ?_
                refine wi_istore_n (i := 1) (e := 3) (lo2 := [(1, vi 3), (0, .ref 236), (2, vi 3)]) (nx := 73) (r1 := 0) (r2 := 0) (r3 := 0) rfl rfl ?_
                refine wr_iincL (i := 2) (n := 1) (v := 3) (4) ([(2, vi 4), (1, vi 3), (0, .ref 236)]) (nx := 76) (r1 := 0) (r2 := 0) (r3 := 0) rfl rfl (by decide) rfl ?_
                refine wi_goto (nx := 79) (r1 := 4) (r2 := 0) (r3 := 0) rfl ?_
                refine wp.lo (lo := [(0, .ref 236), (1, vi 3), (2, vi 4)]) ⟨rfl, rfl, rfl, trivial⟩ rfl ?_
                have cn30 : canL (h 238) 3 := ⟨(show (3 : Int) + 1 ≤ h 238 1 by omega), mlP.pos y8_0 (by omega)⟩
                exact I3 3 4 h ⟨rfl, (show (-1 ≤ 3 ∧ 3 ≤ 3) ∧ (0 ≤ 4 ∧ 4 ≤ 4) by omega), (laX.yes 3 (by decide) (by omega) cn30)⟩ (show ((4 : Int) + 1 - 4).toNat < ((4 : Int) + 1 - x2).toNat by omega)
            ·
              rw [q27]
              refine wr_V (k0 := 236) (rest := [vi (h 238 92)]) (as := [.ref 236, vi 3, vi 0]) (nx := 68) (r1 := 258) (r2 := 2) (r3 := 11) rfl rfl rfl (of_decide_eq_true rfl) rfl rfl (by decide) rfl rfl (of_decide_eq_true rfl) (of_decide_eq_true rfl) ?_
              refine wi_aload_n (i := 0) (x := 236) (nx := 1) (r1 := 0) (r2 := 0) (r3 := 0) rfl rfl ?_
              refine wr_gr (k0 := 236) (x := 238) (nx := 4) (r1 := 11) (r2 := 13) (r3 := 0) rfl rfl (by decide) rfl ⟨rfl, rfl⟩ rfl ?_
              refine wi_bipush (n := 74) (nx := 6) (r1 := 0) (r2 := 0) (r3 := 0) rfl (by decide) ?_
              refine wi_bipush (n := 6) (nx := 8) (r1 := 0) (r2 := 0) (r3 := 0) rfl (by decide) ?_
              refine wi_iload_n (i := 1) (e := 3) (nx := 9) (r1 := 0) (r2 := 0) (r3 := 0) rfl rfl ?_
              refine wr_mulL (18) (nx := 10) (r1 := 0) (r2 := 0) (r3 := 0) rfl (by decide) ?_
              refine wr_addL (92) (nx := 11) (r1 := 0) (r2 := 0) (r3 := 0) rfl (by decide) ?_
              refine wi_iload_n (i := 2) (e := 0) (nx := 12) (r1 := 0) (r2 := 0) (r3 := 0) rfl rfl ?_
              refine wr_addL (92) (nx := 13) (r1 := 0) (r2 := 0) (r3 := 0) rfl (by decide) ?_
              refine wr_ia (k0 := 238) (a := 92) (f := 92) (x := h 238 92) (nx := 14) (r1 := 0) (r2 := 0) (r3 := 0) rfl (by decide) rfl (by omega) (by omega) (by decide) rfl ?_
              refine wi_ireturn (nx := 15) (r1 := 0) (r2 := 0) (r3 := 0) rfl rfl ?_
              refine wk_i ?_
              refine wi_icmp (cd := .ge) (nx := 71) (r1 := 73) (r2 := 0) (r3 := 0) rfl (by omega) (by omega) (fun (q28 : (h 238 92) ≤ (h 238 92)) => ?_) (fun (q28 : ¬ ((h 238 92) ≤ (h 238 92))) => by exfalso; omega)
              refine wr_iincL (i := 2) (n := 1) (v := 3) (4) ([(2, vi 4), (0, .ref 236), (1, vi 3)]) (nx := 76) (r1 := 0) (r2 := 0) (r3 := 0) rfl rfl (by decide) rfl ?_
              refine wi_goto (nx := 79) (r1 := 4) (r2 := 0) (r3 := 0) rfl ?_
              refine wp.lo (lo := [(0, .ref 236), (1, vi 3), (2, vi 4)]) ⟨rfl, rfl, rfl, trivial⟩ rfl ?_
              have cn29 : canL (h 238) 3 := ⟨(show (3 : Int) + 1 ≤ h 238 1 by omega), mlP.pos y8_0 (by omega)⟩
              exact I3 3 4 h ⟨rfl, (show (-1 ≤ 3 ∧ 3 ≤ 3) ∧ (0 ≤ 4 ∧ 4 ≤ 4) by omega), (laX.yes 3 (by decide) (by omega) cn29)⟩ (show ((4 : Int) + 1 - 4).toNat < ((4 : Int) + 1 - x2).toNat by omega)
        ·
          refine wi_iload_n (i := 2) (e := 3) (nx := 50) (r1 := 0) (r2 := 0) (r3 := 0) rfl rfl ?_
          refine wi_ireturn (nx := 51) (r1 := 0) (r2 := 0) (r3 := 0) rfl rfl ?_
          have cn26 : canL (h 238) 3 := ⟨(show (3 : Int) + 1 ≤ h 238 1 by omega), mlP.pos y8_0 (by omega)⟩
          exact k 3 (by omega) (laX.yes 3 (by decide) (by omega) cn26)
      ·
        refine wi_goto (nx := 25) (r1 := 73) (r2 := 0) (r3 := 0) rfl ?_
        refine wr_iincL (i := 2) (n := 1) (v := 3) (4) ([(2, vi 4), (0, .ref 236), (1, vi x1)]) (nx := 76) (r1 := 0) (r2 := 0) (r3 := 0) rfl rfl (by decide) rfl ?_
        refine wi_goto (nx := 79) (r1 := 4) (r2 := 0) (r3 := 0) rfl ?_
        refine wp.lo (lo := [(0, .ref 236), (1, vi x1), (2, vi 4)]) ⟨rfl, rfl, rfl, trivial⟩ rfl ?_
        have cn21 : ¬ canL (h 238) 3 := fun c => mlP.neg y8_0 (by omega) c.2
        exact I3 x1 4 h ⟨rfl, (show (-1 ≤ x1 ∧ x1 ≤ 3) ∧ (0 ≤ 4 ∧ 4 ≤ 4) by omega), (laX.no X3_0 (by omega) 3 (by omega) cn21)⟩ (show ((4 : Int) + 1 - 4).toNat < ((4 : Int) + 1 - x2).toNat by omega)
-- method 289: Model.nextStep()I
set_option maxRecDepth 100000 in
set_option maxHeartbeats 100000000 in
theorem ct_289_236 {L : Nat} {xs : Nat → Int32} {d b c : Nat} {h : hp} {cr : Nat → Nat → Option Nat} {Q : hp_Q} (hcr : CR cr)  (g : GI h)    (k : ∀ (z0 : Int), (-1 ≤ z0 ∧ z0 ≤ 3) → (nsP (h 238) z0) → Q (.inl (some (vi z0))) (hp_w h cr) b c) : wp (md_xa (L, xs)) (d + 3) 289 (0, [(0, .ref 236)], [], hp_w h cr, b, c) Q := by
  have F0 : FR [] h h := FR.refl
  refine wi_aload_n (i := 0) (x := 236) (nx := 1) (r1 := 0) (r2 := 0) (r3 := 0) rfl rfl ?_
  refine wr_V (k0 := 236) (rest := []) (as := [.ref 236]) (nx := 4) (r1 := 285) (r2 := 0) (r3 := 11) rfl rfl rfl (of_decide_eq_true rfl) rfl rfl (by decide) rfl rfl (of_decide_eq_true rfl) (of_decide_eq_true rfl) ?_
  refine wi_aload_n (i := 0) (x := 236) (nx := 1) (r1 := 0) (r2 := 0) (r3 := 0) rfl rfl ?_
  refine wr_gr (k0 := 236) (x := 238) (nx := 4) (r1 := 11) (r2 := 13) (r3 := 0) rfl rfl (by decide) rfl ⟨rfl, rfl⟩ rfl ?_
  refine wi_bipush (n := 102) (nx := 6) (r1 := 0) (r2 := 0) (r3 := 0) rfl (by decide) ?_
  have b1 := gi_b (lo := 0) (hi := 3) g 238 102 rfl
  refine wr_ia (k0 := 238) (a := 102) (f := 102) (x := h 238 102) (nx := 7) (r1 := 0) (r2 := 0) (r3 := 0) rfl (by decide) rfl (by omega) (by omega) (by decide) rfl ?_
  refine wi_if (cd := .le) (nx := 10) (r1 := 39) (r2 := 0) (r3 := 0) rfl (by omega) (fun (q2 : (h 238 102) ≤ 0) => ?_) (fun (q2 : ¬ ((h 238 102) ≤ 0)) => ?_)
  ·
    refine wi_iconst (n := 0) (nx := 40) (r1 := 0) (r2 := 0) (r3 := 0) rfl ?_
    refine wi_zreturn (nx := 41) (r1 := 0) (r2 := 0) (r3 := 0) rfl rfl (by omega) ?_
    refine wk_i ?_
    refine wi_if (cd := .eq) (nx := 7) (r1 := 24) (r2 := 0) (r3 := 0) rfl (by omega) (fun (q3 : 0 = 0) => ?_) (fun (q3 : ¬ (0 = 0)) => by exfalso; omega)
    refine wi_aload_n (i := 0) (x := 236) (nx := 25) (r1 := 0) (r2 := 0) (r3 := 0) rfl rfl ?_
    refine wr_gr (k0 := 236) (x := 238) (nx := 28) (r1 := 11) (r2 := 13) (r3 := 0) rfl rfl (by decide) rfl ⟨rfl, rfl⟩ rfl ?_
    refine wi_bipush (n := 73) (nx := 30) (r1 := 0) (r2 := 0) (r3 := 0) rfl (by decide) ?_
    have b4 := gi_b (lo := 0) (hi := 12) g 238 73 rfl
    refine wr_ia (k0 := 238) (a := 73) (f := 73) (x := h 238 73) (nx := 31) (r1 := 0) (r2 := 0) (r3 := 0) rfl (by decide) rfl (by omega) (by omega) (by decide) rfl ?_
    refine wi_aload_n (i := 0) (x := 236) (nx := 32) (r1 := 0) (r2 := 0) (r3 := 0) rfl rfl ?_
    refine wr_gr (k0 := 236) (x := 238) (nx := 35) (r1 := 11) (r2 := 13) (r3 := 0) rfl rfl (by decide) rfl ⟨rfl, rfl⟩ rfl ?_
    refine wi_iconst (n := 2) (nx := 36) (r1 := 0) (r2 := 0) (r3 := 0) rfl ?_
    have b5 := gi_b (lo := 0) (hi := 12) g 238 2 rfl
    refine wr_ia (k0 := 238) (a := 2) (f := 2) (x := h 238 2) (nx := 37) (r1 := 0) (r2 := 0) (r3 := 0) rfl (by decide) rfl (by omega) (by omega) (by decide) rfl ?_
    refine wi_icmp (cd := .ge) (nx := 40) (r1 := 57) (r2 := 0) (r3 := 0) rfl (by omega) (by omega) (fun (q6 : (h 238 2) ≤ (h 238 73)) => ?_) (fun (q6 : ¬ ((h 238 2) ≤ (h 238 73))) => ?_)
    ·
      refine wi_aload_n (i := 0) (x := 236) (nx := 58) (r1 := 0) (r2 := 0) (r3 := 0) rfl rfl ?_
      refine wr_V (k0 := 236) (rest := []) (as := [.ref 236]) (nx := 61) (r1 := 291) (r2 := 0) (r3 := 11) rfl rfl rfl (of_decide_eq_true rfl) rfl rfl (by decide) rfl rfl (of_decide_eq_true rfl) (of_decide_eq_true rfl) ?_
      refine ct_291_236 hcr  g    (fun z8  (fz8 : -1 ≤ z8 ∧ z8 ≤ 3) y7_0 => ?_)
      refine wk_i ?_
      refine wi_iconst (n := (-1)) (nx := 62) (r1 := 0) (r2 := 0) (r3 := 0) rfl ?_
      refine wi_icmp (cd := .eq) (nx := 65) (r1 := 67) (r2 := 0) (r3 := 0) rfl (by omega) (by omega) (fun (q9 : z8 = (-1)) => ?_) (fun (q9 : ¬ (z8 = (-1))) => ?_)
      ·
        refine wi_aload_n (i := 0) (x := 236) (nx := 68) (r1 := 0) (r2 := 0) (r3 := 0) rfl rfl ?_
        refine wr_gr (k0 := 236) (x := 238) (nx := 71) (r1 := 11) (r2 := 13) (r3 := 0) rfl rfl (by decide) rfl ⟨rfl, rfl⟩ rfl ?_
        refine wi_bipush (n := 102) (nx := 73) (r1 := 0) (r2 := 0) (r3 := 0) rfl (by decide) ?_
        refine wr_ia (k0 := 238) (a := 102) (f := 102) (x := h 238 102) (nx := 74) (r1 := 0) (r2 := 0) (r3 := 0) rfl (by decide) rfl (by omega) (by omega) (by decide) rfl ?_
        refine wi_if (cd := .le) (nx := 77) (r1 := 94) (r2 := 0) (r3 := 0) rfl (by omega) (fun (q10 : (h 238 102) ≤ 0) => ?_) (fun (q10 : ¬ ((h 238 102) ≤ 0)) => by exfalso; omega)
        refine wi_iconst (n := (-1)) (nx := 95) (r1 := 0) (r2 := 0) (r3 := 0) rfl ?_
        refine wi_ireturn (nx := 96) (r1 := 0) (r2 := 0) (r3 := 0) rfl rfl ?_
        have b11 := gi_b (lo := 0) (hi := 9999) g 238 67 rfl
        exact k (-1) (by omega) ⟨fun e => absurd e (by omega), fun e => absurd e (by omega), fun e => absurd e (by omega), fun e => absurd e (by omega)⟩
      ·
        refine wi_iconst (n := 2) (nx := 66) (r1 := 0) (r2 := 0) (r3 := 0) rfl ?_
        refine wi_ireturn (nx := 67) (r1 := 0) (r2 := 0) (r3 := 0) rfl rfl ?_
        have b10 := gi_b (lo := 0) (hi := 9999) g 238 67 rfl
        exact k 2 (by omega) ⟨fun e => absurd e (by omega), fun e => absurd e (by omega), fun _ => laP.ex y7_0 (by omega), fun e => absurd e (by omega)⟩
    ·
      refine wi_aload_n (i := 0) (x := 236) (nx := 41) (r1 := 0) (r2 := 0) (r3 := 0) rfl rfl ?_
      refine wi_aload_n (i := 0) (x := 236) (nx := 42) (r1 := 0) (r2 := 0) (r3 := 0) rfl rfl ?_
      refine wr_gr (k0 := 236) (x := 238) (nx := 45) (r1 := 11) (r2 := 13) (r3 := 0) rfl rfl (by decide) rfl ⟨rfl, rfl⟩ rfl ?_
      refine wi_bipush (n := 73) (nx := 47) (r1 := 0) (r2 := 0) (r3 := 0) rfl (by decide) ?_
      refine wr_ia (k0 := 238) (a := 73) (f := 73) (x := h 238 73) (nx := 48) (r1 := 0) (r2 := 0) (r3 := 0) rfl (by decide) rfl (by omega) (by omega) (by decide) rfl ?_
      refine wr_V (k0 := 236) (rest := []) (as := [.ref 236, vi (h 238 73)]) (nx := 51) (r1 := 290) (r2 := 1) (r3 := 11) rfl rfl rfl (of_decide_eq_true rfl) rfl rfl (by decide) rfl rfl (of_decide_eq_true rfl) (of_decide_eq_true rfl) ?_
      refine ct_290_236 hcr  g (h 238 73) (by omega)  (fun z8  (fz8 : -1 ≤ z8 ∧ z8 ≤ 3) y7_0 => ?_)
      refine wk_i ?_
      refine wi_iconst (n := (-1)) (nx := 52) (r1 := 0) (r2 := 0) (r3 := 0) rfl ?_
      refine wi_icmp (cd := .eq) (nx := 55) (r1 := 57) (r2 := 0) (r3 := 0) rfl (by omega) (by omega) (fun (q9 : z8 = (-1)) => ?_) (fun (q9 : ¬ (z8 = (-1))) => ?_)
      ·
        refine wi_aload_n (i := 0) (x := 236) (nx := 58) (r1 := 0) (r2 := 0) (r3 := 0) rfl rfl ?_
        refine wr_V (k0 := 236) (rest := []) (as := [.ref 236]) (nx := 61) (r1 := 291) (r2 := 0) (r3 := 11) rfl rfl rfl (of_decide_eq_true rfl) rfl rfl (by decide) rfl rfl (of_decide_eq_true rfl) (of_decide_eq_true rfl) ?_
        refine ct_291_236 hcr  g    (fun z11  (fz11 : -1 ≤ z11 ∧ z11 ≤ 3) y10_0 => ?_)
        refine wk_i ?_
        refine wi_iconst (n := (-1)) (nx := 62) (r1 := 0) (r2 := 0) (r3 := 0) rfl ?_
        refine wi_icmp (cd := .eq) (nx := 65) (r1 := 67) (r2 := 0) (r3 := 0) rfl (by omega) (by omega) (fun (q12 : z11 = (-1)) => ?_) (fun (q12 : ¬ (z11 = (-1))) => ?_)
        ·
          refine wi_aload_n (i := 0) (x := 236) (nx := 68) (r1 := 0) (r2 := 0) (r3 := 0) rfl rfl ?_
          refine wr_gr (k0 := 236) (x := 238) (nx := 71) (r1 := 11) (r2 := 13) (r3 := 0) rfl rfl (by decide) rfl ⟨rfl, rfl⟩ rfl ?_
          refine wi_bipush (n := 102) (nx := 73) (r1 := 0) (r2 := 0) (r3 := 0) rfl (by decide) ?_
          refine wr_ia (k0 := 238) (a := 102) (f := 102) (x := h 238 102) (nx := 74) (r1 := 0) (r2 := 0) (r3 := 0) rfl (by decide) rfl (by omega) (by omega) (by decide) rfl ?_
          refine wi_if (cd := .le) (nx := 77) (r1 := 94) (r2 := 0) (r3 := 0) rfl (by omega) (fun (q13 : (h 238 102) ≤ 0) => ?_) (fun (q13 : ¬ ((h 238 102) ≤ 0)) => by exfalso; omega)
          refine wi_iconst (n := (-1)) (nx := 95) (r1 := 0) (r2 := 0) (r3 := 0) rfl ?_
          refine wi_ireturn (nx := 96) (r1 := 0) (r2 := 0) (r3 := 0) rfl rfl ?_
          have b14 := gi_b (lo := 0) (hi := 9999) g 238 67 rfl
          exact k (-1) (by omega) ⟨fun e => absurd e (by omega), fun e => absurd e (by omega), fun e => absurd e (by omega), fun e => absurd e (by omega)⟩
        ·
          refine wi_iconst (n := 2) (nx := 66) (r1 := 0) (r2 := 0) (r3 := 0) rfl ?_
          refine wi_ireturn (nx := 67) (r1 := 0) (r2 := 0) (r3 := 0) rfl rfl ?_
          have b13 := gi_b (lo := 0) (hi := 9999) g 238 67 rfl
          exact k 2 (by omega) ⟨fun e => absurd e (by omega), fun e => absurd e (by omega), fun _ => laP.ex y10_0 (by omega), fun e => absurd e (by omega)⟩
      ·
        refine wi_iconst (n := 1) (nx := 56) (r1 := 0) (r2 := 0) (r3 := 0) rfl ?_
        refine wi_ireturn (nx := 57) (r1 := 0) (r2 := 0) (r3 := 0) rfl rfl ?_
        have b10 := gi_b (lo := 0) (hi := 9999) g 238 67 rfl
        exact k 1 (by omega) ⟨fun e => absurd e (by omega), fun _ => ⟨(show h 238 73 < h 238 2 by omega), laP.ex y7_0 (by omega)⟩, fun e => absurd e (by omega), fun e => absurd e (by omega)⟩
  ·
    refine wi_aload_n (i := 0) (x := 236) (nx := 11) (r1 := 0) (r2 := 0) (r3 := 0) rfl rfl ?_
    refine wr_gr (k0 := 236) (x := 238) (nx := 14) (r1 := 11) (r2 := 13) (r3 := 0) rfl rfl (by decide) rfl ⟨rfl, rfl⟩ rfl ?_
    refine wi_bipush (n := 67) (nx := 16) (r1 := 0) (r2 := 0) (r3 := 0) rfl (by decide) ?_
    have b3 := gi_b (lo := 0) (hi := 9999) g 238 67 rfl
    refine wr_ia (k0 := 238) (a := 67) (f := 67) (x := h 238 67) (nx := 17) (r1 := 0) (r2 := 0) (r3 := 0) rfl (by decide) rfl (by omega) (by omega) (by decide) rfl ?_
    refine wi_aload_n (i := 0) (x := 236) (nx := 18) (r1 := 0) (r2 := 0) (r3 := 0) rfl rfl ?_
    refine wr_gr (k0 := 236) (x := 238) (nx := 21) (r1 := 11) (r2 := 13) (r3 := 0) rfl rfl (by decide) rfl ⟨rfl, rfl⟩ rfl ?_
    refine wi_bipush (n := 55) (nx := 23) (r1 := 0) (r2 := 0) (r3 := 0) rfl (by decide) ?_
    refine wi_aload_n (i := 0) (x := 236) (nx := 24) (r1 := 0) (r2 := 0) (r3 := 0) rfl rfl ?_
    refine wr_gr (k0 := 236) (x := 238) (nx := 27) (r1 := 11) (r2 := 13) (r3 := 0) rfl rfl (by decide) rfl ⟨rfl, rfl⟩ rfl ?_
    refine wi_bipush (n := 103) (nx := 29) (r1 := 0) (r2 := 0) (r3 := 0) rfl (by decide) ?_
    have b4 := gi_b (lo := 0) (hi := 11) g 238 103 rfl
    refine wr_ia (k0 := 238) (a := 103) (f := 103) (x := h 238 103) (nx := 30) (r1 := 0) (r2 := 0) (r3 := 0) rfl (by decide) rfl (by omega) (by omega) (by decide) rfl ?_
    refine wr_add (nx := 31) (r1 := 0) (r2 := 0) (r3 := 0) rfl (fun e5 (fe5 : e5 = 55 + (h 238 103)) => ?_)
    obtain ⟨i6, ei6⟩ : ∃ q : Nat, e5 = (q : Int) := ⟨(e5).toNat, by omega⟩
    have b7 := gi_b (lo := 0) (hi := 20000) g 238 i6 (gi_rg 55 12 (fun _ => rfl) (by decide +kernel) (by omega))
    refine wr_ia (k0 := 238) (a := e5) (f := i6) (x := h 238 i6) (nx := 32) (r1 := 0) (r2 := 0) (r3 := 0) rfl (by decide) rfl (by omega) (by omega) (by decide) rfl ?_
    refine wi_icmp (cd := .lt) (nx := 35) (r1 := 39) (r2 := 0) (r3 := 0) rfl (by omega) (by omega) (fun (q8 : (h 238 67) < (h 238 i6)) => ?_) (fun (q8 : ¬ ((h 238 67) < (h 238 i6))) => ?_)
    ·
      refine wi_iconst (n := 0) (nx := 40) (r1 := 0) (r2 := 0) (r3 := 0) rfl ?_
      refine wi_zreturn (nx := 41) (r1 := 0) (r2 := 0) (r3 := 0) rfl rfl (by omega) ?_
      refine wk_i ?_
      refine wi_if (cd := .eq) (nx := 7) (r1 := 24) (r2 := 0) (r3 := 0) rfl (by omega) (fun (q9 : 0 = 0) => ?_) (fun (q9 : ¬ (0 = 0)) => by exfalso; omega)
      refine wi_aload_n (i := 0) (x := 236) (nx := 25) (r1 := 0) (r2 := 0) (r3 := 0) rfl rfl ?_
      refine wr_gr (k0 := 236) (x := 238) (nx := 28) (r1 := 11) (r2 := 13) (r3 := 0) rfl rfl (by decide) rfl ⟨rfl, rfl⟩ rfl ?_
      refine wi_bipush (n := 73) (nx := 30) (r1 := 0) (r2 := 0) (r3 := 0) rfl (by decide) ?_
      have b10 := gi_b (lo := 0) (hi := 12) g 238 73 rfl
      refine wr_ia (k0 := 238) (a := 73) (f := 73) (x := h 238 73) (nx := 31) (r1 := 0) (r2 := 0) (r3 := 0) rfl (by decide) rfl (by omega) (by omega) (by decide) rfl ?_
      refine wi_aload_n (i := 0) (x := 236) (nx := 32) (r1 := 0) (r2 := 0) (r3 := 0) rfl rfl ?_
      refine wr_gr (k0 := 236) (x := 238) (nx := 35) (r1 := 11) (r2 := 13) (r3 := 0) rfl rfl (by decide) rfl ⟨rfl, rfl⟩ rfl ?_
      refine wi_iconst (n := 2) (nx := 36) (r1 := 0) (r2 := 0) (r3 := 0) rfl ?_
      have b11 := gi_b (lo := 0) (hi := 12) g 238 2 rfl
      refine wr_ia (k0 := 238) (a := 2) (f := 2) (x := h 238 2) (nx := 37) (r1 := 0) (r2 := 0) (r3 := 0) rfl (by decide) rfl (by omega) (by omega) (by decide) rfl ?_
      refine wi_icmp (cd := .ge) (nx := 40) (r1 := 57) (r2 := 0) (r3 := 0) rfl (by omega) (by omega) (fun (q12 : (h 238 2) ≤ (h 238 73)) => ?_) (fun (q12 : ¬ ((h 238 2) ≤ (h 238 73))) => ?_)
      ·
        refine wi_aload_n (i := 0) (x := 236) (nx := 58) (r1 := 0) (r2 := 0) (r3 := 0) rfl rfl ?_
        refine wr_V (k0 := 236) (rest := []) (as := [.ref 236]) (nx := 61) (r1 := 291) (r2 := 0) (r3 := 11) rfl rfl rfl (of_decide_eq_true rfl) rfl rfl (by decide) rfl rfl (of_decide_eq_true rfl) (of_decide_eq_true rfl) ?_
        refine ct_291_236 hcr  g    (fun z14  (fz14 : -1 ≤ z14 ∧ z14 ≤ 3) y13_0 => ?_)
        refine wk_i ?_
        refine wi_iconst (n := (-1)) (nx := 62) (r1 := 0) (r2 := 0) (r3 := 0) rfl ?_
        refine wi_icmp (cd := .eq) (nx := 65) (r1 := 67) (r2 := 0) (r3 := 0) rfl (by omega) (by omega) (fun (q15 : z14 = (-1)) => ?_) (fun (q15 : ¬ (z14 = (-1))) => ?_)
        ·
          refine wi_aload_n (i := 0) (x := 236) (nx := 68) (r1 := 0) (r2 := 0) (r3 := 0) rfl rfl ?_
          refine wr_gr (k0 := 236) (x := 238) (nx := 71) (r1 := 11) (r2 := 13) (r3 := 0) rfl rfl (by decide) rfl ⟨rfl, rfl⟩ rfl ?_
          refine wi_bipush (n := 102) (nx := 73) (r1 := 0) (r2 := 0) (r3 := 0) rfl (by decide) ?_
          refine wr_ia (k0 := 238) (a := 102) (f := 102) (x := h 238 102) (nx := 74) (r1 := 0) (r2 := 0) (r3 := 0) rfl (by decide) rfl (by omega) (by omega) (by decide) rfl ?_
          refine wi_if (cd := .le) (nx := 77) (r1 := 94) (r2 := 0) (r3 := 0) rfl (by omega) (fun (q16 : (h 238 102) ≤ 0) => by exfalso; omega) (fun (q16 : ¬ ((h 238 102) ≤ 0)) => ?_)
          refine wi_aload_n (i := 0) (x := 236) (nx := 78) (r1 := 0) (r2 := 0) (r3 := 0) rfl rfl ?_
          refine wr_gr (k0 := 236) (x := 238) (nx := 81) (r1 := 11) (r2 := 13) (r3 := 0) rfl rfl (by decide) rfl ⟨rfl, rfl⟩ rfl ?_
          refine wi_bipush (n := 67) (nx := 83) (r1 := 0) (r2 := 0) (r3 := 0) rfl (by decide) ?_
          refine wr_ia (k0 := 238) (a := 67) (f := 67) (x := h 238 67) (nx := 84) (r1 := 0) (r2 := 0) (r3 := 0) rfl (by decide) rfl (by omega) (by omega) (by decide) rfl ?_
          refine wi_sipush (n := 9999) (nx := 87) (r1 := 0) (r2 := 0) (r3 := 0) rfl (by decide) ?_
          refine wi_icmp (cd := .ge) (nx := 90) (r1 := 94) (r2 := 0) (r3 := 0) rfl (by omega) (by omega) (fun (q17 : 9999 ≤ (h 238 67)) => ?_) (fun (q17 : ¬ (9999 ≤ (h 238 67))) => ?_)
          ·
            refine wi_iconst (n := (-1)) (nx := 95) (r1 := 0) (r2 := 0) (r3 := 0) rfl ?_
            refine wi_ireturn (nx := 96) (r1 := 0) (r2 := 0) (r3 := 0) rfl rfl ?_
            exact k (-1) (by omega) ⟨fun e => absurd e (by omega), fun e => absurd e (by omega), fun e => absurd e (by omega), fun e => absurd e (by omega)⟩
          ·
            refine wi_iconst (n := 3) (nx := 91) (r1 := 0) (r2 := 0) (r3 := 0) rfl ?_
            refine wi_goto (nx := 94) (r1 := 95) (r2 := 0) (r3 := 0) rfl ?_
            refine wi_ireturn (nx := 96) (r1 := 0) (r2 := 0) (r3 := 0) rfl rfl ?_
            exact k 3 (by omega) ⟨fun e => absurd e (by omega), fun e => absurd e (by omega), fun e => absurd e (by omega), fun _ => (show h 238 67 ≤ 9998 by omega)⟩
        ·
          refine wi_iconst (n := 2) (nx := 66) (r1 := 0) (r2 := 0) (r3 := 0) rfl ?_
          refine wi_ireturn (nx := 67) (r1 := 0) (r2 := 0) (r3 := 0) rfl rfl ?_
          exact k 2 (by omega) ⟨fun e => absurd e (by omega), fun e => absurd e (by omega), fun _ => laP.ex y13_0 (by omega), fun e => absurd e (by omega)⟩
      ·
        refine wi_aload_n (i := 0) (x := 236) (nx := 41) (r1 := 0) (r2 := 0) (r3 := 0) rfl rfl ?_
        refine wi_aload_n (i := 0) (x := 236) (nx := 42) (r1 := 0) (r2 := 0) (r3 := 0) rfl rfl ?_
        refine wr_gr (k0 := 236) (x := 238) (nx := 45) (r1 := 11) (r2 := 13) (r3 := 0) rfl rfl (by decide) rfl ⟨rfl, rfl⟩ rfl ?_
        refine wi_bipush (n := 73) (nx := 47) (r1 := 0) (r2 := 0) (r3 := 0) rfl (by decide) ?_
        refine wr_ia (k0 := 238) (a := 73) (f := 73) (x := h 238 73) (nx := 48) (r1 := 0) (r2 := 0) (r3 := 0) rfl (by decide) rfl (by omega) (by omega) (by decide) rfl ?_
        refine wr_V (k0 := 236) (rest := []) (as := [.ref 236, vi (h 238 73)]) (nx := 51) (r1 := 290) (r2 := 1) (r3 := 11) rfl rfl rfl (of_decide_eq_true rfl) rfl rfl (by decide) rfl rfl (of_decide_eq_true rfl) (of_decide_eq_true rfl) ?_
        refine ct_290_236 hcr  g (h 238 73) (by omega)  (fun z14  (fz14 : -1 ≤ z14 ∧ z14 ≤ 3) y13_0 => ?_)
        refine wk_i ?_
        refine wi_iconst (n := (-1)) (nx := 52) (r1 := 0) (r2 := 0) (r3 := 0) rfl ?_
        refine wi_icmp (cd := .eq) (nx := 55) (r1 := 57) (r2 := 0) (r3 := 0) rfl (by omega) (by omega) (fun (q15 : z14 = (-1)) => ?_) (fun (q15 : ¬ (z14 = (-1))) => ?_)
        ·
          refine wi_aload_n (i := 0) (x := 236) (nx := 58) (r1 := 0) (r2 := 0) (r3 := 0) rfl rfl ?_
          refine wr_V (k0 := 236) (rest := []) (as := [.ref 236]) (nx := 61) (r1 := 291) (r2 := 0) (r3 := 11) rfl rfl rfl (of_decide_eq_true rfl) rfl rfl (by decide) rfl rfl (of_decide_eq_true rfl) (of_decide_eq_true rfl) ?_
          refine ct_291_236 hcr  g    (fun z17  (fz17 : -1 ≤ z17 ∧ z17 ≤ 3) y16_0 => ?_)
          refine wk_i ?_
          refine wi_iconst (n := (-1)) (nx := 62) (r1 := 0) (r2 := 0) (r3 := 0) rfl ?_
          refine wi_icmp (cd := .eq) (nx := 65) (r1 := 67) (r2 := 0) (r3 := 0) rfl (by omega) (by omega) (fun (q18 : z17 = (-1)) => ?_) (fun (q18 : ¬ (z17 = (-1))) => ?_)
          ·
            refine wi_aload_n (i := 0) (x := 236) (nx := 68) (r1 := 0) (r2 := 0) (r3 := 0) rfl rfl ?_
            refine wr_gr (k0 := 236) (x := 238) (nx := 71) (r1 := 11) (r2 := 13) (r3 := 0) rfl rfl (by decide) rfl ⟨rfl, rfl⟩ rfl ?_
            refine wi_bipush (n := 102) (nx := 73) (r1 := 0) (r2 := 0) (r3 := 0) rfl (by decide) ?_
            refine wr_ia (k0 := 238) (a := 102) (f := 102) (x := h 238 102) (nx := 74) (r1 := 0) (r2 := 0) (r3 := 0) rfl (by decide) rfl (by omega) (by omega) (by decide) rfl ?_
            refine wi_if (cd := .le) (nx := 77) (r1 := 94) (r2 := 0) (r3 := 0) rfl (by omega) (fun (q19 : (h 238 102) ≤ 0) => by exfalso; omega) (fun (q19 : ¬ ((h 238 102) ≤ 0)) => ?_)
            refine wi_aload_n (i := 0) (x := 236) (nx := 78) (r1 := 0) (r2 := 0) (r3 := 0) rfl rfl ?_
            refine wr_gr (k0 := 236) (x := 238) (nx := 81) (r1 := 11) (r2 := 13) (r3 := 0) rfl rfl (by decide) rfl ⟨rfl, rfl⟩ rfl ?_
            refine wi_bipush (n := 67) (nx := 83) (r1 := 0) (r2 := 0) (r3 := 0) rfl (by decide) ?_
            refine wr_ia (k0 := 238) (a := 67) (f := 67) (x := h 238 67) (nx := 84) (r1 := 0) (r2 := 0) (r3 := 0) rfl (by decide) rfl (by omega) (by omega) (by decide) rfl ?_
            refine wi_sipush (n := 9999) (nx := 87) (r1 := 0) (r2 := 0) (r3 := 0) rfl (by decide) ?_
            refine wi_icmp (cd := .ge) (nx := 90) (r1 := 94) (r2 := 0) (r3 := 0) rfl (by omega) (by omega) (fun (q20 : 9999 ≤ (h 238 67)) => ?_) (fun (q20 : ¬ (9999 ≤ (h 238 67))) => ?_)
            ·
              refine wi_iconst (n := (-1)) (nx := 95) (r1 := 0) (r2 := 0) (r3 := 0) rfl ?_
              refine wi_ireturn (nx := 96) (r1 := 0) (r2 := 0) (r3 := 0) rfl rfl ?_
              exact k (-1) (by omega) ⟨fun e => absurd e (by omega), fun e => absurd e (by omega), fun e => absurd e (by omega), fun e => absurd e (by omega)⟩
            ·
              refine wi_iconst (n := 3) (nx := 91) (r1 := 0) (r2 := 0) (r3 := 0) rfl ?_
              refine wi_goto (nx := 94) (r1 := 95) (r2 := 0) (r3 := 0) rfl ?_
              refine wi_ireturn (nx := 96) (r1 := 0) (r2 := 0) (r3 := 0) rfl rfl ?_
              exact k 3 (by omega) ⟨fun e => absurd e (by omega), fun e => absurd e (by omega), fun e => absurd e (by omega), fun _ => (show h 238 67 ≤ 9998 by omega)⟩
          ·
            refine wi_iconst (n := 2) (nx := 66) (r1 := 0) (r2 := 0) (r3 := 0) rfl ?_
            refine wi_ireturn (nx := 67) (r1 := 0) (r2 := 0) (r3 := 0) rfl rfl ?_
            exact k 2 (by omega) ⟨fun e => absurd e (by omega), fun e => absurd e (by omega), fun _ => laP.ex y16_0 (by omega), fun e => absurd e (by omega)⟩
        ·
          refine wi_iconst (n := 1) (nx := 56) (r1 := 0) (r2 := 0) (r3 := 0) rfl ?_
          refine wi_ireturn (nx := 57) (r1 := 0) (r2 := 0) (r3 := 0) rfl rfl ?_
          exact k 1 (by omega) ⟨fun e => absurd e (by omega), fun _ => ⟨(show h 238 73 < h 238 2 by omega), laP.ex y13_0 (by omega)⟩, fun e => absurd e (by omega), fun e => absurd e (by omega)⟩
    ·
      refine wi_iconst (n := 1) (nx := 36) (r1 := 0) (r2 := 0) (r3 := 0) rfl ?_
      refine wi_goto (nx := 39) (r1 := 40) (r2 := 0) (r3 := 0) rfl ?_
      refine wi_zreturn (nx := 41) (r1 := 0) (r2 := 0) (r3 := 0) rfl rfl (by omega) ?_
      refine wk_i ?_
      refine wi_if (cd := .eq) (nx := 7) (r1 := 24) (r2 := 0) (r3 := 0) rfl (by omega) (fun (q9 : 1 = 0) => by exfalso; omega) (fun (q9 : ¬ (1 = 0)) => ?_)
      refine wi_aload_n (i := 0) (x := 236) (nx := 8) (r1 := 0) (r2 := 0) (r3 := 0) rfl rfl ?_
      refine wi_aload_n (i := 0) (x := 236) (nx := 9) (r1 := 0) (r2 := 0) (r3 := 0) rfl rfl ?_
      refine wr_gr (k0 := 236) (x := 238) (nx := 12) (r1 := 11) (r2 := 13) (r3 := 0) rfl rfl (by decide) rfl ⟨rfl, rfl⟩ rfl ?_
      refine wi_bipush (n := 103) (nx := 14) (r1 := 0) (r2 := 0) (r3 := 0) rfl (by decide) ?_
      refine wr_ia (k0 := 238) (a := 103) (f := 103) (x := h 238 103) (nx := 15) (r1 := 0) (r2 := 0) (r3 := 0) rfl (by decide) rfl (by omega) (by omega) (by decide) rfl ?_
      refine wr_V (k0 := 236) (rest := []) (as := [.ref 236, vi (h 238 103)]) (nx := 18) (r1 := 290) (r2 := 1) (r3 := 11) rfl rfl rfl (of_decide_eq_true rfl) rfl rfl (by decide) rfl rfl (of_decide_eq_true rfl) (of_decide_eq_true rfl) ?_
      refine ct_290_236 hcr  g (h 238 103) (by omega)  (fun z11  (fz11 : -1 ≤ z11 ∧ z11 ≤ 3) y10_0 => ?_)
      refine wk_i ?_
      refine wi_iconst (n := (-1)) (nx := 19) (r1 := 0) (r2 := 0) (r3 := 0) rfl ?_
      refine wi_icmp (cd := .eq) (nx := 22) (r1 := 24) (r2 := 0) (r3 := 0) rfl (by omega) (by omega) (fun (q12 : z11 = (-1)) => ?_) (fun (q12 : ¬ (z11 = (-1))) => ?_)
      ·
        refine wi_aload_n (i := 0) (x := 236) (nx := 25) (r1 := 0) (r2 := 0) (r3 := 0) rfl rfl ?_
        refine wr_gr (k0 := 236) (x := 238) (nx := 28) (r1 := 11) (r2 := 13) (r3 := 0) rfl rfl (by decide) rfl ⟨rfl, rfl⟩ rfl ?_
        refine wi_bipush (n := 73) (nx := 30) (r1 := 0) (r2 := 0) (r3 := 0) rfl (by decide) ?_
        have b13 := gi_b (lo := 0) (hi := 12) g 238 73 rfl
        refine wr_ia (k0 := 238) (a := 73) (f := 73) (x := h 238 73) (nx := 31) (r1 := 0) (r2 := 0) (r3 := 0) rfl (by decide) rfl (by omega) (by omega) (by decide) rfl ?_
        refine wi_aload_n (i := 0) (x := 236) (nx := 32) (r1 := 0) (r2 := 0) (r3 := 0) rfl rfl ?_
        refine wr_gr (k0 := 236) (x := 238) (nx := 35) (r1 := 11) (r2 := 13) (r3 := 0) rfl rfl (by decide) rfl ⟨rfl, rfl⟩ rfl ?_
        refine wi_iconst (n := 2) (nx := 36) (r1 := 0) (r2 := 0) (r3 := 0) rfl ?_
        have b14 := gi_b (lo := 0) (hi := 12) g 238 2 rfl
        refine wr_ia (k0 := 238) (a := 2) (f := 2) (x := h 238 2) (nx := 37) (r1 := 0) (r2 := 0) (r3 := 0) rfl (by decide) rfl (by omega) (by omega) (by decide) rfl ?_
        refine wi_icmp (cd := .ge) (nx := 40) (r1 := 57) (r2 := 0) (r3 := 0) rfl (by omega) (by omega) (fun (q15 : (h 238 2) ≤ (h 238 73)) => ?_) (fun (q15 : ¬ ((h 238 2) ≤ (h 238 73))) => ?_)
        ·
          refine wi_aload_n (i := 0) (x := 236) (nx := 58) (r1 := 0) (r2 := 0) (r3 := 0) rfl rfl ?_
          refine wr_V (k0 := 236) (rest := []) (as := [.ref 236]) (nx := 61) (r1 := 291) (r2 := 0) (r3 := 11) rfl rfl rfl (of_decide_eq_true rfl) rfl rfl (by decide) rfl rfl (of_decide_eq_true rfl) (of_decide_eq_true rfl) ?_
          refine ct_291_236 hcr  g    (fun z17  (fz17 : -1 ≤ z17 ∧ z17 ≤ 3) y16_0 => ?_)
          refine wk_i ?_
          refine wi_iconst (n := (-1)) (nx := 62) (r1 := 0) (r2 := 0) (r3 := 0) rfl ?_
          refine wi_icmp (cd := .eq) (nx := 65) (r1 := 67) (r2 := 0) (r3 := 0) rfl (by omega) (by omega) (fun (q18 : z17 = (-1)) => ?_) (fun (q18 : ¬ (z17 = (-1))) => ?_)
          ·
            refine wi_aload_n (i := 0) (x := 236) (nx := 68) (r1 := 0) (r2 := 0) (r3 := 0) rfl rfl ?_
            refine wr_gr (k0 := 236) (x := 238) (nx := 71) (r1 := 11) (r2 := 13) (r3 := 0) rfl rfl (by decide) rfl ⟨rfl, rfl⟩ rfl ?_
            refine wi_bipush (n := 102) (nx := 73) (r1 := 0) (r2 := 0) (r3 := 0) rfl (by decide) ?_
            refine wr_ia (k0 := 238) (a := 102) (f := 102) (x := h 238 102) (nx := 74) (r1 := 0) (r2 := 0) (r3 := 0) rfl (by decide) rfl (by omega) (by omega) (by decide) rfl ?_
            refine wi_if (cd := .le) (nx := 77) (r1 := 94) (r2 := 0) (r3 := 0) rfl (by omega) (fun (q19 : (h 238 102) ≤ 0) => by exfalso; omega) (fun (q19 : ¬ ((h 238 102) ≤ 0)) => ?_)
            refine wi_aload_n (i := 0) (x := 236) (nx := 78) (r1 := 0) (r2 := 0) (r3 := 0) rfl rfl ?_
            refine wr_gr (k0 := 236) (x := 238) (nx := 81) (r1 := 11) (r2 := 13) (r3 := 0) rfl rfl (by decide) rfl ⟨rfl, rfl⟩ rfl ?_
            refine wi_bipush (n := 67) (nx := 83) (r1 := 0) (r2 := 0) (r3 := 0) rfl (by decide) ?_
            refine wr_ia (k0 := 238) (a := 67) (f := 67) (x := h 238 67) (nx := 84) (r1 := 0) (r2 := 0) (r3 := 0) rfl (by decide) rfl (by omega) (by omega) (by decide) rfl ?_
            refine wi_sipush (n := 9999) (nx := 87) (r1 := 0) (r2 := 0) (r3 := 0) rfl (by decide) ?_
            refine wi_icmp (cd := .ge) (nx := 90) (r1 := 94) (r2 := 0) (r3 := 0) rfl (by omega) (by omega) (fun (q20 : 9999 ≤ (h 238 67)) => ?_) (fun (q20 : ¬ (9999 ≤ (h 238 67))) => ?_)
            ·
              refine wi_iconst (n := (-1)) (nx := 95) (r1 := 0) (r2 := 0) (r3 := 0) rfl ?_
              refine wi_ireturn (nx := 96) (r1 := 0) (r2 := 0) (r3 := 0) rfl rfl ?_
              exact k (-1) (by omega) ⟨fun e => absurd e (by omega), fun e => absurd e (by omega), fun e => absurd e (by omega), fun e => absurd e (by omega)⟩
            ·
              refine wi_iconst (n := 3) (nx := 91) (r1 := 0) (r2 := 0) (r3 := 0) rfl ?_
              refine wi_goto (nx := 94) (r1 := 95) (r2 := 0) (r3 := 0) rfl ?_
              refine wi_ireturn (nx := 96) (r1 := 0) (r2 := 0) (r3 := 0) rfl rfl ?_
              exact k 3 (by omega) ⟨fun e => absurd e (by omega), fun e => absurd e (by omega), fun e => absurd e (by omega), fun _ => (show h 238 67 ≤ 9998 by omega)⟩
          ·
            refine wi_iconst (n := 2) (nx := 66) (r1 := 0) (r2 := 0) (r3 := 0) rfl ?_
            refine wi_ireturn (nx := 67) (r1 := 0) (r2 := 0) (r3 := 0) rfl rfl ?_
            exact k 2 (by omega) ⟨fun e => absurd e (by omega), fun e => absurd e (by omega), fun _ => laP.ex y16_0 (by omega), fun e => absurd e (by omega)⟩
        ·
          refine wi_aload_n (i := 0) (x := 236) (nx := 41) (r1 := 0) (r2 := 0) (r3 := 0) rfl rfl ?_
          refine wi_aload_n (i := 0) (x := 236) (nx := 42) (r1 := 0) (r2 := 0) (r3 := 0) rfl rfl ?_
          refine wr_gr (k0 := 236) (x := 238) (nx := 45) (r1 := 11) (r2 := 13) (r3 := 0) rfl rfl (by decide) rfl ⟨rfl, rfl⟩ rfl ?_
          refine wi_bipush (n := 73) (nx := 47) (r1 := 0) (r2 := 0) (r3 := 0) rfl (by decide) ?_
          refine wr_ia (k0 := 238) (a := 73) (f := 73) (x := h 238 73) (nx := 48) (r1 := 0) (r2 := 0) (r3 := 0) rfl (by decide) rfl (by omega) (by omega) (by decide) rfl ?_
          refine wr_V (k0 := 236) (rest := []) (as := [.ref 236, vi (h 238 73)]) (nx := 51) (r1 := 290) (r2 := 1) (r3 := 11) rfl rfl rfl (of_decide_eq_true rfl) rfl rfl (by decide) rfl rfl (of_decide_eq_true rfl) (of_decide_eq_true rfl) ?_
          refine ct_290_236 hcr  g (h 238 73) (by omega)  (fun z17  (fz17 : -1 ≤ z17 ∧ z17 ≤ 3) y16_0 => ?_)
          refine wk_i ?_
          refine wi_iconst (n := (-1)) (nx := 52) (r1 := 0) (r2 := 0) (r3 := 0) rfl ?_
          refine wi_icmp (cd := .eq) (nx := 55) (r1 := 57) (r2 := 0) (r3 := 0) rfl (by omega) (by omega) (fun (q18 : z17 = (-1)) => ?_) (fun (q18 : ¬ (z17 = (-1))) => ?_)
          ·
            refine wi_aload_n (i := 0) (x := 236) (nx := 58) (r1 := 0) (r2 := 0) (r3 := 0) rfl rfl ?_
            refine wr_V (k0 := 236) (rest := []) (as := [.ref 236]) (nx := 61) (r1 := 291) (r2 := 0) (r3 := 11) rfl rfl rfl (of_decide_eq_true rfl) rfl rfl (by decide) rfl rfl (of_decide_eq_true rfl) (of_decide_eq_true rfl) ?_
            refine ct_291_236 hcr  g    (fun z20  (fz20 : -1 ≤ z20 ∧ z20 ≤ 3) y19_0 => ?_)
            refine wk_i ?_
            refine wi_iconst (n := (-1)) (nx := 62) (r1 := 0) (r2 := 0) (r3 := 0) rfl ?_
            refine wi_icmp (cd := .eq) (nx := 65) (r1 := 67) (r2 := 0) (r3 := 0) rfl (by omega) (by omega) (fun (q21 : z20 = (-1)) => ?_) (fun (q21 : ¬ (z20 = (-1))) => ?_)
            ·
              refine wi_aload_n (i := 0) (x := 236) (nx := 68) (r1 := 0) (r2 := 0) (r3 := 0) rfl rfl ?_
              refine wr_gr (k0 := 236) (x := 238) (nx := 71) (r1 := 11) (r2 := 13) (r3 := 0) rfl rfl (by decide) rfl ⟨rfl, rfl⟩ rfl ?_
              refine wi_bipush (n := 102) (nx := 73) (r1 := 0) (r2 := 0) (r3 := 0) rfl (by decide) ?_
              refine wr_ia (k0 := 238) (a := 102) (f := 102) (x := h 238 102) (nx := 74) (r1 := 0) (r2 := 0) (r3 := 0) rfl (by decide) rfl (by omega) (by omega) (by decide) rfl ?_
              refine wi_if (cd := .le) (nx := 77) (r1 := 94) (r2 := 0) (r3 := 0) rfl (by omega) (fun (q22 : (h 238 102) ≤ 0) => by exfalso; omega) (fun (q22 : ¬ ((h 238 102) ≤ 0)) => ?_)
              refine wi_aload_n (i := 0) (x := 236) (nx := 78) (r1 := 0) (r2 := 0) (r3 := 0) rfl rfl ?_
              refine wr_gr (k0 := 236) (x := 238) (nx := 81) (r1 := 11) (r2 := 13) (r3 := 0) rfl rfl (by decide) rfl ⟨rfl, rfl⟩ rfl ?_
              refine wi_bipush (n := 67) (nx := 83) (r1 := 0) (r2 := 0) (r3 := 0) rfl (by decide) ?_
              refine wr_ia (k0 := 238) (a := 67) (f := 67) (x := h 238 67) (nx := 84) (r1 := 0) (r2 := 0) (r3 := 0) rfl (by decide) rfl (by omega) (by omega) (by decide) rfl ?_
              refine wi_sipush (n := 9999) (nx := 87) (r1 := 0) (r2 := 0) (r3 := 0) rfl (by decide) ?_
              refine wi_icmp (cd := .ge) (nx := 90) (r1 := 94) (r2 := 0) (r3 := 0) rfl (by omega) (by omega) (fun (q23 : 9999 ≤ (h 238 67)) => ?_) (fun (q23 : ¬ (9999 ≤ (h 238 67))) => ?_)
              ·
                refine wi_iconst (n := (-1)) (nx := 95) (r1 := 0) (r2 := 0) (r3 := 0) rfl ?_
                refine wi_ireturn (nx := 96) (r1 := 0) (r2 := 0) (r3 := 0) rfl rfl ?_
                exact k (-1) (by omega) ⟨fun e => absurd e (by omega), fun e => absurd e (by omega), fun e => absurd e (by omega), fun e => absurd e (by omega)⟩
              ·
                refine wi_iconst (n := 3) (nx := 91) (r1 := 0) (r2 := 0) (r3 := 0) rfl ?_
                refine wi_goto (nx := 94) (r1 := 95) (r2 := 0) (r3 := 0) rfl ?_
                refine wi_ireturn (nx := 96) (r1 := 0) (r2 := 0) (r3 := 0) rfl rfl ?_
                exact k 3 (by omega) ⟨fun e => absurd e (by omega), fun e => absurd e (by omega), fun e => absurd e (by omega), fun _ => (show h 238 67 ≤ 9998 by omega)⟩
            ·
              refine wi_iconst (n := 2) (nx := 66) (r1 := 0) (r2 := 0) (r3 := 0) rfl ?_
              refine wi_ireturn (nx := 67) (r1 := 0) (r2 := 0) (r3 := 0) rfl rfl ?_
              exact k 2 (by omega) ⟨fun e => absurd e (by omega), fun e => absurd e (by omega), fun _ => laP.ex y19_0 (by omega), fun e => absurd e (by omega)⟩
          ·
            refine wi_iconst (n := 1) (nx := 56) (r1 := 0) (r2 := 0) (r3 := 0) rfl ?_
            refine wi_ireturn (nx := 57) (r1 := 0) (r2 := 0) (r3 := 0) rfl rfl ?_
            exact k 1 (by omega) ⟨fun e => absurd e (by omega), fun _ => ⟨(show h 238 73 < h 238 2 by omega), laP.ex y16_0 (by omega)⟩, fun e => absurd e (by omega), fun e => absurd e (by omega)⟩
      ·
        refine wi_iconst (n := 0) (nx := 23) (r1 := 0) (r2 := 0) (r3 := 0) rfl ?_
        refine wi_ireturn (nx := 24) (r1 := 0) (r2 := 0) (r3 := 0) rfl rfl ?_
        have b13 := gi_b (lo := 0) (hi := 12) g 238 73 rfl
        have b14 := gi_b (lo := 0) (hi := 12) g 238 2 rfl
        exact k 0 (by omega) ⟨fun _ => ⟨(show 1 ≤ h 238 102 by omega), laP.ex y10_0 (by omega)⟩, fun e => absurd e (by omega), fun e => absurd e (by omega), fun e => absurd e (by omega)⟩
