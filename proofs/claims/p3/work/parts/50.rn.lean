-- method 304: Model.leastOf(II)I
set_option maxRecDepth 100000 in
set_option maxHeartbeats 100000000 in
theorem ct_304_236 {L : Nat} {xs : Nat → Int32} {d b c : Nat} {h : hp} {cr : Nat → Nat → Option Nat} {Q : hp_Q} (hcr : CR cr)  (g : GI h) (a0 : Int) (a1 : Int) (q0_ : 0 ≤ a0 ∧ a0 ≤ 5) (q1_ : 0 ≤ a1 ∧ a1 ≤ 9)  (k : ∀ (z0 : Int), (0 ≤ z0 ∧ z0 ≤ 1000000) → (u_lo (h 238) (h 246) (h 247) a0 a1 z0) → Q (.inl (some (vi z0))) (hp_w h cr) b c) : wp (md_xa (L, xs)) (d + 2) 304 (0, [(0, .ref 236), (1, vi a0), (2, vi a1)], [], hp_w h cr, b, c) Q := by
  have F0 : FR [] h h := FR.refl
  refine wi_ldc_w (e := 1000000) (nx := 3) (r1 := 0) (r2 := 1000000) (r3 := 0) rfl (by decide) ?_
  refine wi_istore_n (i := 3) (e := 1000000) (lo2 := [(3, vi 1000000), (0, .ref 236), (1, vi a0), (2, vi a1)]) (nx := 4) (r1 := 0) (r2 := 0) (r3 := 0) rfl rfl ?_
  refine wi_iconst (n := 0) (nx := 5) (r1 := 0) (r2 := 0) (r3 := 0) rfl ?_
  refine wi_istore (i := 4) (e := 0) (lo2 := [(4, vi 0), (3, vi 1000000), (0, .ref 236), (1, vi a0), (2, vi a1)]) (nx := 7) (r1 := 0) (r2 := 0) (r3 := 0) rfl rfl ?_
  refine wi_iload (i := 4) (e := 0) (nx := 9) (r1 := 0) (r2 := 0) (r3 := 0) rfl rfl ?_
  refine wi_iconst (n := 4) (nx := 10) (r1 := 0) (r2 := 0) (r3 := 0) rfl ?_
  refine wi_icmp (cd := .ge) (nx := 13) (r1 := 32) (r2 := 0) (r3 := 0) rfl (by omega) (by omega) (fun (q1 : 4 ≤ 0) => by exfalso; omega) (fun (q1 : ¬ (4 ≤ 0)) => ?_)
  refine wi_iload_n (i := 3) (e := 1000000) (nx := 14) (r1 := 0) (r2 := 0) (r3 := 0) rfl rfl ?_
  refine wi_aload_n (i := 0) (x := 236) (nx := 15) (r1 := 0) (r2 := 0) (r3 := 0) rfl rfl ?_
  refine wi_iload (i := 4) (e := 0) (nx := 17) (r1 := 0) (r2 := 0) (r3 := 0) rfl rfl ?_
  refine wi_iload_n (i := 1) (e := a0) (nx := 18) (r1 := 0) (r2 := 0) (r3 := 0) rfl rfl ?_
  refine wi_iload_n (i := 2) (e := a1) (nx := 19) (r1 := 0) (r2 := 0) (r3 := 0) rfl rfl ?_
  refine wr_V (k0 := 236) (rest := [vi 1000000]) (as := [.ref 236, vi 0, vi a0, vi a1]) (nx := 22) (r1 := 305) (r2 := 3) (r3 := 11) rfl rfl rfl (of_decide_eq_true rfl) rfl rfl (by decide) rfl rfl (of_decide_eq_true rfl) (of_decide_eq_true rfl) ?_
  refine ct_305_236_L0 hcr  g a0 a1 (by omega) (by omega)  (fun z3  (fz3 : 0 ≤ z3 ∧ z3 ≤ 1099900) (p2_0 : z3 = 1000000 ∨ (h 247 0) < (h 238 98)) y2_0 => ?_)
  have b4 := gi_b (lo := 0) (hi := 6) g 247 0 rfl
  have b5 := gi_b (lo := 0) (hi := 6) g 238 98 rfl
  refine wk_i ?_
  refine wi_S (rest := []) (as := [vi 1000000, vi z3]) (nx := 25) (r1 := 309) (r2 := 18) (r3 := 0) rfl rfl rfl (of_decide_eq_true rfl) rfl rfl (of_decide_eq_true rfl) (of_decide_eq_true rfl) ?_
  refine wi_iload_n (i := 0) (e := 1000000) (nx := 1) (r1 := 0) (r2 := 0) (r3 := 0) rfl rfl ?_
  refine wi_iload_n (i := 1) (e := z3) (nx := 2) (r1 := 0) (r2 := 0) (r3 := 0) rfl rfl ?_
  refine wi_icmp (cd := .ge) (nx := 5) (r1 := 9) (r2 := 0) (r3 := 0) rfl (by omega) (by omega) (fun (q6 : z3 ≤ 1000000) => ?_) (fun (q6 : ¬ (z3 ≤ 1000000)) => ?_)
  ·
    refine wi_iload_n (i := 1) (e := z3) (nx := 10) (r1 := 0) (r2 := 0) (r3 := 0) rfl rfl ?_
    refine wi_ireturn (nx := 11) (r1 := 0) (r2 := 0) (r3 := 0) rfl rfl ?_
    refine wk_i ?_
    refine wi_istore_n (i := 3) (e := z3) (lo2 := [(3, vi z3), (4, vi 0), (0, .ref 236), (1, vi a0), (2, vi a1)]) (nx := 26) (r1 := 0) (r2 := 0) (r3 := 0) rfl rfl ?_
    refine wr_iincL (i := 4) (n := 1) (v := 0) (1) ([(4, vi 1), (3, vi z3), (0, .ref 236), (1, vi a0), (2, vi a1)]) (nx := 29) (r1 := 0) (r2 := 0) (r3 := 0) rfl rfl (by decide) rfl ?_
    refine wi_goto (nx := 32) (r1 := 7) (r2 := 0) (r3 := 0) rfl ?_
    refine wi_iload (i := 4) (e := 1) (nx := 9) (r1 := 0) (r2 := 0) (r3 := 0) rfl rfl ?_
    refine wi_iconst (n := 4) (nx := 10) (r1 := 0) (r2 := 0) (r3 := 0) rfl ?_
    refine wi_icmp (cd := .ge) (nx := 13) (r1 := 32) (r2 := 0) (r3 := 0) rfl (by omega) (by omega) (fun (q7 : 4 ≤ 1) => by exfalso; omega) (fun (q7 : ¬ (4 ≤ 1)) => ?_)
    refine wi_iload_n (i := 3) (e := z3) (nx := 14) (r1 := 0) (r2 := 0) (r3 := 0) rfl rfl ?_
    refine wi_aload_n (i := 0) (x := 236) (nx := 15) (r1 := 0) (r2 := 0) (r3 := 0) rfl rfl ?_
    refine wi_iload (i := 4) (e := 1) (nx := 17) (r1 := 0) (r2 := 0) (r3 := 0) rfl rfl ?_
    refine wi_iload_n (i := 1) (e := a0) (nx := 18) (r1 := 0) (r2 := 0) (r3 := 0) rfl rfl ?_
    refine wi_iload_n (i := 2) (e := a1) (nx := 19) (r1 := 0) (r2 := 0) (r3 := 0) rfl rfl ?_
    refine wr_V (k0 := 236) (rest := [vi z3]) (as := [.ref 236, vi 1, vi a0, vi a1]) (nx := 22) (r1 := 305) (r2 := 3) (r3 := 11) rfl rfl rfl (of_decide_eq_true rfl) rfl rfl (by decide) rfl rfl (of_decide_eq_true rfl) (of_decide_eq_true rfl) ?_
    refine ct_305_236_L1 hcr  g a0 a1 (by omega) (by omega)  (fun z9  (fz9 : 0 ≤ z9 ∧ z9 ≤ 1099900) (p8_0 : z9 = 1000000 ∨ (h 247 1) < (h 238 99)) y8_0 => ?_)
    have b10 := gi_b (lo := 0) (hi := 6) g 247 1 rfl
    have b11 := gi_b (lo := 0) (hi := 6) g 238 99 rfl
    refine wk_i ?_
    refine wi_S (rest := []) (as := [vi z3, vi z9]) (nx := 25) (r1 := 309) (r2 := 18) (r3 := 0) rfl rfl rfl (of_decide_eq_true rfl) rfl rfl (of_decide_eq_true rfl) (of_decide_eq_true rfl) ?_
    refine wi_iload_n (i := 0) (e := z3) (nx := 1) (r1 := 0) (r2 := 0) (r3 := 0) rfl rfl ?_
    refine wi_iload_n (i := 1) (e := z9) (nx := 2) (r1 := 0) (r2 := 0) (r3 := 0) rfl rfl ?_
    refine wi_icmp (cd := .ge) (nx := 5) (r1 := 9) (r2 := 0) (r3 := 0) rfl (by omega) (by omega) (fun (q12 : z9 ≤ z3) => ?_) (fun (q12 : ¬ (z9 ≤ z3)) => ?_)
    ·
      refine wi_iload_n (i := 1) (e := z9) (nx := 10) (r1 := 0) (r2 := 0) (r3 := 0) rfl rfl ?_
      refine wi_ireturn (nx := 11) (r1 := 0) (r2 := 0) (r3 := 0) rfl rfl ?_
      refine wk_i ?_
      refine wi_istore_n (i := 3) (e := z9) (lo2 := [(3, vi z9), (4, vi 1), (0, .ref 236), (1, vi a0), (2, vi a1)]) (nx := 26) (r1 := 0) (r2 := 0) (r3 := 0) rfl rfl ?_
      refine wr_iincL (i := 4) (n := 1) (v := 1) (2) ([(4, vi 2), (3, vi z9), (0, .ref 236), (1, vi a0), (2, vi a1)]) (nx := 29) (r1 := 0) (r2 := 0) (r3 := 0) rfl rfl (by decide) rfl ?_
      refine wi_goto (nx := 32) (r1 := 7) (r2 := 0) (r3 := 0) rfl ?_
      refine wi_iload (i := 4) (e := 2) (nx := 9) (r1 := 0) (r2 := 0) (r3 := 0) rfl rfl ?_
      refine wi_iconst (n := 4) (nx := 10) (r1 := 0) (r2 := 0) (r3 := 0) rfl ?_
      refine wi_icmp (cd := .ge) (nx := 13) (r1 := 32) (r2 := 0) (r3 := 0) rfl (by omega) (by omega) (fun (q13 : 4 ≤ 2) => by exfalso; omega) (fun (q13 : ¬ (4 ≤ 2)) => ?_)
      refine wi_iload_n (i := 3) (e := z9) (nx := 14) (r1 := 0) (r2 := 0) (r3 := 0) rfl rfl ?_
      refine wi_aload_n (i := 0) (x := 236) (nx := 15) (r1 := 0) (r2 := 0) (r3 := 0) rfl rfl ?_
      refine wi_iload (i := 4) (e := 2) (nx := 17) (r1 := 0) (r2 := 0) (r3 := 0) rfl rfl ?_
      refine wi_iload_n (i := 1) (e := a0) (nx := 18) (r1 := 0) (r2 := 0) (r3 := 0) rfl rfl ?_
      refine wi_iload_n (i := 2) (e := a1) (nx := 19) (r1 := 0) (r2 := 0) (r3 := 0) rfl rfl ?_
      refine wr_V (k0 := 236) (rest := [vi z9]) (as := [.ref 236, vi 2, vi a0, vi a1]) (nx := 22) (r1 := 305) (r2 := 3) (r3 := 11) rfl rfl rfl (of_decide_eq_true rfl) rfl rfl (by decide) rfl rfl (of_decide_eq_true rfl) (of_decide_eq_true rfl) ?_
      refine ct_305_236_L2 hcr  g a0 a1 (by omega) (by omega)  (fun z15  (fz15 : 0 ≤ z15 ∧ z15 ≤ 1099900) (p14_0 : z15 = 1000000 ∨ (h 247 2) < (h 238 100)) y14_0 => ?_)
      have b16 := gi_b (lo := 0) (hi := 6) g 247 2 rfl
      have b17 := gi_b (lo := 0) (hi := 6) g 238 100 rfl
      refine wk_i ?_
      refine wi_S (rest := []) (as := [vi z9, vi z15]) (nx := 25) (r1 := 309) (r2 := 18) (r3 := 0) rfl rfl rfl (of_decide_eq_true rfl) rfl rfl (of_decide_eq_true rfl) (of_decide_eq_true rfl) ?_
      refine wi_iload_n (i := 0) (e := z9) (nx := 1) (r1 := 0) (r2 := 0) (r3 := 0) rfl rfl ?_
      refine wi_iload_n (i := 1) (e := z15) (nx := 2) (r1 := 0) (r2 := 0) (r3 := 0) rfl rfl ?_
      refine wi_icmp (cd := .ge) (nx := 5) (r1 := 9) (r2 := 0) (r3 := 0) rfl (by omega) (by omega) (fun (q18 : z15 ≤ z9) => ?_) (fun (q18 : ¬ (z15 ≤ z9)) => ?_)
      ·
        refine wi_iload_n (i := 1) (e := z15) (nx := 10) (r1 := 0) (r2 := 0) (r3 := 0) rfl rfl ?_
        refine wi_ireturn (nx := 11) (r1 := 0) (r2 := 0) (r3 := 0) rfl rfl ?_
        refine wk_i ?_
        refine wi_istore_n (i := 3) (e := z15) (lo2 := [(3, vi z15), (4, vi 2), (0, .ref 236), (1, vi a0), (2, vi a1)]) (nx := 26) (r1 := 0) (r2 := 0) (r3 := 0) rfl rfl ?_
        refine wr_iincL (i := 4) (n := 1) (v := 2) (3) ([(4, vi 3), (3, vi z15), (0, .ref 236), (1, vi a0), (2, vi a1)]) (nx := 29) (r1 := 0) (r2 := 0) (r3 := 0) rfl rfl (by decide) rfl ?_
        refine wi_goto (nx := 32) (r1 := 7) (r2 := 0) (r3 := 0) rfl ?_
        refine wi_iload (i := 4) (e := 3) (nx := 9) (r1 := 0) (r2 := 0) (r3 := 0) rfl rfl ?_
        refine wi_iconst (n := 4) (nx := 10) (r1 := 0) (r2 := 0) (r3 := 0) rfl ?_
        refine wi_icmp (cd := .ge) (nx := 13) (r1 := 32) (r2 := 0) (r3 := 0) rfl (by omega) (by omega) (fun (q19 : 4 ≤ 3) => by exfalso; omega) (fun (q19 : ¬ (4 ≤ 3)) => ?_)
        refine wi_iload_n (i := 3) (e := z15) (nx := 14) (r1 := 0) (r2 := 0) (r3 := 0) rfl rfl ?_
        refine wi_aload_n (i := 0) (x := 236) (nx := 15) (r1 := 0) (r2 := 0) (r3 := 0) rfl rfl ?_
        refine wi_iload (i := 4) (e := 3) (nx := 17) (r1 := 0) (r2 := 0) (r3 := 0) rfl rfl ?_
        refine wi_iload_n (i := 1) (e := a0) (nx := 18) (r1 := 0) (r2 := 0) (r3 := 0) rfl rfl ?_
        refine wi_iload_n (i := 2) (e := a1) (nx := 19) (r1 := 0) (r2 := 0) (r3 := 0) rfl rfl ?_
        refine wr_V (k0 := 236) (rest := [vi z15]) (as := [.ref 236, vi 3, vi a0, vi a1]) (nx := 22) (r1 := 305) (r2 := 3) (r3 := 11) rfl rfl rfl (of_decide_eq_true rfl) rfl rfl (by decide) rfl rfl (of_decide_eq_true rfl) (of_decide_eq_true rfl) ?_
        refine ct_305_236_L3 hcr  g a0 a1 (by omega) (by omega)  (fun z21  (fz21 : 0 ≤ z21 ∧ z21 ≤ 1099900) (p20_0 : z21 = 1000000 ∨ (h 247 3) < (h 238 101)) y20_0 => ?_)
        have b22 := gi_b (lo := 0) (hi := 6) g 247 3 rfl
        have b23 := gi_b (lo := 0) (hi := 6) g 238 101 rfl
        refine wk_i ?_
        refine wi_S (rest := []) (as := [vi z15, vi z21]) (nx := 25) (r1 := 309) (r2 := 18) (r3 := 0) rfl rfl rfl (of_decide_eq_true rfl) rfl rfl (of_decide_eq_true rfl) (of_decide_eq_true rfl) ?_
        refine wi_iload_n (i := 0) (e := z15) (nx := 1) (r1 := 0) (r2 := 0) (r3 := 0) rfl rfl ?_
        refine wi_iload_n (i := 1) (e := z21) (nx := 2) (r1 := 0) (r2 := 0) (r3 := 0) rfl rfl ?_
        refine wi_icmp (cd := .ge) (nx := 5) (r1 := 9) (r2 := 0) (r3 := 0) rfl (by omega) (by omega) (fun (q24 : z21 ≤ z15) => ?_) (fun (q24 : ¬ (z21 ≤ z15)) => ?_)
        ·
          refine wi_iload_n (i := 1) (e := z21) (nx := 10) (r1 := 0) (r2 := 0) (r3 := 0) rfl rfl ?_
          refine wi_ireturn (nx := 11) (r1 := 0) (r2 := 0) (r3 := 0) rfl rfl ?_
          refine wk_i ?_
          refine wi_istore_n (i := 3) (e := z21) (lo2 := [(3, vi z21), (4, vi 3), (0, .ref 236), (1, vi a0), (2, vi a1)]) (nx := 26) (r1 := 0) (r2 := 0) (r3 := 0) rfl rfl ?_
          refine wr_iincL (i := 4) (n := 1) (v := 3) (4) ([(4, vi 4), (3, vi z21), (0, .ref 236), (1, vi a0), (2, vi a1)]) (nx := 29) (r1 := 0) (r2 := 0) (r3 := 0) rfl rfl (by decide) rfl ?_
          refine wi_goto (nx := 32) (r1 := 7) (r2 := 0) (r3 := 0) rfl ?_
          refine wi_iload (i := 4) (e := 4) (nx := 9) (r1 := 0) (r2 := 0) (r3 := 0) rfl rfl ?_
          refine wi_iconst (n := 4) (nx := 10) (r1 := 0) (r2 := 0) (r3 := 0) rfl ?_
          refine wi_icmp (cd := .ge) (nx := 13) (r1 := 32) (r2 := 0) (r3 := 0) rfl (by omega) (by omega) (fun (q25 : 4 ≤ 4) => ?_) (fun (q25 : ¬ (4 ≤ 4)) => by exfalso; omega)
          refine wi_iload_n (i := 3) (e := z21) (nx := 33) (r1 := 0) (r2 := 0) (r3 := 0) rfl rfl ?_
          refine wi_ireturn (nx := 34) (r1 := 0) (r2 := 0) (r3 := 0) rfl rfl ?_
          exact k z21 (by omega) (Or.inr ⟨3, by decide, y20_0.symm⟩)
        ·
          refine wi_iload_n (i := 0) (e := z15) (nx := 6) (r1 := 0) (r2 := 0) (r3 := 0) rfl rfl ?_
          refine wi_goto (nx := 9) (r1 := 10) (r2 := 0) (r3 := 0) rfl ?_
          refine wi_ireturn (nx := 11) (r1 := 0) (r2 := 0) (r3 := 0) rfl rfl ?_
          refine wk_i ?_
          refine wi_istore_n (i := 3) (e := z15) (lo2 := [(3, vi z15), (4, vi 3), (0, .ref 236), (1, vi a0), (2, vi a1)]) (nx := 26) (r1 := 0) (r2 := 0) (r3 := 0) rfl rfl ?_
          refine wr_iincL (i := 4) (n := 1) (v := 3) (4) ([(4, vi 4), (3, vi z15), (0, .ref 236), (1, vi a0), (2, vi a1)]) (nx := 29) (r1 := 0) (r2 := 0) (r3 := 0) rfl rfl (by decide) rfl ?_
          refine wi_goto (nx := 32) (r1 := 7) (r2 := 0) (r3 := 0) rfl ?_
          refine wi_iload (i := 4) (e := 4) (nx := 9) (r1 := 0) (r2 := 0) (r3 := 0) rfl rfl ?_
          refine wi_iconst (n := 4) (nx := 10) (r1 := 0) (r2 := 0) (r3 := 0) rfl ?_
          refine wi_icmp (cd := .ge) (nx := 13) (r1 := 32) (r2 := 0) (r3 := 0) rfl (by omega) (by omega) (fun (q25 : 4 ≤ 4) => ?_) (fun (q25 : ¬ (4 ≤ 4)) => by exfalso; omega)
          refine wi_iload_n (i := 3) (e := z15) (nx := 33) (r1 := 0) (r2 := 0) (r3 := 0) rfl rfl ?_
          refine wi_ireturn (nx := 34) (r1 := 0) (r2 := 0) (r3 := 0) rfl rfl ?_
          exact k z15 (by omega) (Or.inr ⟨2, by decide, y14_0.symm⟩)
      ·
        refine wi_iload_n (i := 0) (e := z9) (nx := 6) (r1 := 0) (r2 := 0) (r3 := 0) rfl rfl ?_
        refine wi_goto (nx := 9) (r1 := 10) (r2 := 0) (r3 := 0) rfl ?_
        refine wi_ireturn (nx := 11) (r1 := 0) (r2 := 0) (r3 := 0) rfl rfl ?_
        refine wk_i ?_
        refine wi_istore_n (i := 3) (e := z9) (lo2 := [(3, vi z9), (4, vi 2), (0, .ref 236), (1, vi a0), (2, vi a1)]) (nx := 26) (r1 := 0) (r2 := 0) (r3 := 0) rfl rfl ?_
        refine wr_iincL (i := 4) (n := 1) (v := 2) (3) ([(4, vi 3), (3, vi z9), (0, .ref 236), (1, vi a0), (2, vi a1)]) (nx := 29) (r1 := 0) (r2 := 0) (r3 := 0) rfl rfl (by decide) rfl ?_
        refine wi_goto (nx := 32) (r1 := 7) (r2 := 0) (r3 := 0) rfl ?_
        refine wi_iload (i := 4) (e := 3) (nx := 9) (r1 := 0) (r2 := 0) (r3 := 0) rfl rfl ?_
        refine wi_iconst (n := 4) (nx := 10) (r1 := 0) (r2 := 0) (r3 := 0) rfl ?_
        refine wi_icmp (cd := .ge) (nx := 13) (r1 := 32) (r2 := 0) (r3 := 0) rfl (by omega) (by omega) (fun (q19 : 4 ≤ 3) => by exfalso; omega) (fun (q19 : ¬ (4 ≤ 3)) => ?_)
        refine wi_iload_n (i := 3) (e := z9) (nx := 14) (r1 := 0) (r2 := 0) (r3 := 0) rfl rfl ?_
        refine wi_aload_n (i := 0) (x := 236) (nx := 15) (r1 := 0) (r2 := 0) (r3 := 0) rfl rfl ?_
        refine wi_iload (i := 4) (e := 3) (nx := 17) (r1 := 0) (r2 := 0) (r3 := 0) rfl rfl ?_
        refine wi_iload_n (i := 1) (e := a0) (nx := 18) (r1 := 0) (r2 := 0) (r3 := 0) rfl rfl ?_
        refine wi_iload_n (i := 2) (e := a1) (nx := 19) (r1 := 0) (r2 := 0) (r3 := 0) rfl rfl ?_
        refine wr_V (k0 := 236) (rest := [vi z9]) (as := [.ref 236, vi 3, vi a0, vi a1]) (nx := 22) (r1 := 305) (r2 := 3) (r3 := 11) rfl rfl rfl (of_decide_eq_true rfl) rfl rfl (by decide) rfl rfl (of_decide_eq_true rfl) (of_decide_eq_true rfl) ?_
        refine ct_305_236_L3 hcr  g a0 a1 (by omega) (by omega)  (fun z21  (fz21 : 0 ≤ z21 ∧ z21 ≤ 1099900) (p20_0 : z21 = 1000000 ∨ (h 247 3) < (h 238 101)) y20_0 => ?_)
        have b22 := gi_b (lo := 0) (hi := 6) g 247 3 rfl
        have b23 := gi_b (lo := 0) (hi := 6) g 238 101 rfl
        refine wk_i ?_
        refine wi_S (rest := []) (as := [vi z9, vi z21]) (nx := 25) (r1 := 309) (r2 := 18) (r3 := 0) rfl rfl rfl (of_decide_eq_true rfl) rfl rfl (of_decide_eq_true rfl) (of_decide_eq_true rfl) ?_
        refine wi_iload_n (i := 0) (e := z9) (nx := 1) (r1 := 0) (r2 := 0) (r3 := 0) rfl rfl ?_
        refine wi_iload_n (i := 1) (e := z21) (nx := 2) (r1 := 0) (r2 := 0) (r3 := 0) rfl rfl ?_
        refine wi_icmp (cd := .ge) (nx := 5) (r1 := 9) (r2 := 0) (r3 := 0) rfl (by omega) (by omega) (fun (q24 : z21 ≤ z9) => ?_) (fun (q24 : ¬ (z21 ≤ z9)) => ?_)
        ·
          refine wi_iload_n (i := 1) (e := z21) (nx := 10) (r1 := 0) (r2 := 0) (r3 := 0) rfl rfl ?_
          refine wi_ireturn (nx := 11) (r1 := 0) (r2 := 0) (r3 := 0) rfl rfl ?_
          refine wk_i ?_
          refine wi_istore_n (i := 3) (e := z21) (lo2 := [(3, vi z21), (4, vi 3), (0, .ref 236), (1, vi a0), (2, vi a1)]) (nx := 26) (r1 := 0) (r2 := 0) (r3 := 0) rfl rfl ?_
          refine wr_iincL (i := 4) (n := 1) (v := 3) (4) ([(4, vi 4), (3, vi z21), (0, .ref 236), (1, vi a0), (2, vi a1)]) (nx := 29) (r1 := 0) (r2 := 0) (r3 := 0) rfl rfl (by decide) rfl ?_
          refine wi_goto (nx := 32) (r1 := 7) (r2 := 0) (r3 := 0) rfl ?_
          refine wi_iload (i := 4) (e := 4) (nx := 9) (r1 := 0) (r2 := 0) (r3 := 0) rfl rfl ?_
          refine wi_iconst (n := 4) (nx := 10) (r1 := 0) (r2 := 0) (r3 := 0) rfl ?_
          refine wi_icmp (cd := .ge) (nx := 13) (r1 := 32) (r2 := 0) (r3 := 0) rfl (by omega) (by omega) (fun (q25 : 4 ≤ 4) => ?_) (fun (q25 : ¬ (4 ≤ 4)) => by exfalso; omega)
          refine wi_iload_n (i := 3) (e := z21) (nx := 33) (r1 := 0) (r2 := 0) (r3 := 0) rfl rfl ?_
          refine wi_ireturn (nx := 34) (r1 := 0) (r2 := 0) (r3 := 0) rfl rfl ?_
          exact k z21 (by omega) (Or.inr ⟨3, by decide, y20_0.symm⟩)
        ·
          refine wi_iload_n (i := 0) (e := z9) (nx := 6) (r1 := 0) (r2 := 0) (r3 := 0) rfl rfl ?_
          refine wi_goto (nx := 9) (r1 := 10) (r2 := 0) (r3 := 0) rfl ?_
          refine wi_ireturn (nx := 11) (r1 := 0) (r2 := 0) (r3 := 0) rfl rfl ?_
          refine wk_i ?_
          refine wi_istore_n (i := 3) (e := z9) (lo2 := [(3, vi z9), (4, vi 3), (0, .ref 236), (1, vi a0), (2, vi a1)]) (nx := 26) (r1 := 0) (r2 := 0) (r3 := 0) rfl rfl ?_
          refine wr_iincL (i := 4) (n := 1) (v := 3) (4) ([(4, vi 4), (3, vi z9), (0, .ref 236), (1, vi a0), (2, vi a1)]) (nx := 29) (r1 := 0) (r2 := 0) (r3 := 0) rfl rfl (by decide) rfl ?_
          refine wi_goto (nx := 32) (r1 := 7) (r2 := 0) (r3 := 0) rfl ?_
          refine wi_iload (i := 4) (e := 4) (nx := 9) (r1 := 0) (r2 := 0) (r3 := 0) rfl rfl ?_
          refine wi_iconst (n := 4) (nx := 10) (r1 := 0) (r2 := 0) (r3 := 0) rfl ?_
          refine wi_icmp (cd := .ge) (nx := 13) (r1 := 32) (r2 := 0) (r3 := 0) rfl (by omega) (by omega) (fun (q25 : 4 ≤ 4) => ?_) (fun (q25 : ¬ (4 ≤ 4)) => by exfalso; omega)
          refine wi_iload_n (i := 3) (e := z9) (nx := 33) (r1 := 0) (r2 := 0) (r3 := 0) rfl rfl ?_
          refine wi_ireturn (nx := 34) (r1 := 0) (r2 := 0) (r3 := 0) rfl rfl ?_
          exact k z9 (by omega) (Or.inr ⟨1, by decide, y8_0.symm⟩)
    ·
      refine wi_iload_n (i := 0) (e := z3) (nx := 6) (r1 := 0) (r2 := 0) (r3 := 0) rfl rfl ?_
      refine wi_goto (nx := 9) (r1 := 10) (r2 := 0) (r3 := 0) rfl ?_
      refine wi_ireturn (nx := 11) (r1 := 0) (r2 := 0) (r3 := 0) rfl rfl ?_
      refine wk_i ?_
      refine wi_istore_n (i := 3) (e := z3) (lo2 := [(3, vi z3), (4, vi 1), (0, .ref 236), (1, vi a0), (2, vi a1)]) (nx := 26) (r1 := 0) (r2 := 0) (r3 := 0) rfl rfl ?_
      refine wr_iincL (i := 4) (n := 1) (v := 1) (2) ([(4, vi 2), (3, vi z3), (0, .ref 236), (1, vi a0), (2, vi a1)]) (nx := 29) (r1 := 0) (r2 := 0) (r3 := 0) rfl rfl (by decide) rfl ?_
      refine wi_goto (nx := 32) (r1 := 7) (r2 := 0) (r3 := 0) rfl ?_
      refine wi_iload (i := 4) (e := 2) (nx := 9) (r1 := 0) (r2 := 0) (r3 := 0) rfl rfl ?_
      refine wi_iconst (n := 4) (nx := 10) (r1 := 0) (r2 := 0) (r3 := 0) rfl ?_
      refine wi_icmp (cd := .ge) (nx := 13) (r1 := 32) (r2 := 0) (r3 := 0) rfl (by omega) (by omega) (fun (q13 : 4 ≤ 2) => by exfalso; omega) (fun (q13 : ¬ (4 ≤ 2)) => ?_)
      refine wi_iload_n (i := 3) (e := z3) (nx := 14) (r1 := 0) (r2 := 0) (r3 := 0) rfl rfl ?_
      refine wi_aload_n (i := 0) (x := 236) (nx := 15) (r1 := 0) (r2 := 0) (r3 := 0) rfl rfl ?_
      refine wi_iload (i := 4) (e := 2) (nx := 17) (r1 := 0) (r2 := 0) (r3 := 0) rfl rfl ?_
      refine wi_iload_n (i := 1) (e := a0) (nx := 18) (r1 := 0) (r2 := 0) (r3 := 0) rfl rfl ?_
      refine wi_iload_n (i := 2) (e := a1) (nx := 19) (r1 := 0) (r2 := 0) (r3 := 0) rfl rfl ?_
      refine wr_V (k0 := 236) (rest := [vi z3]) (as := [.ref 236, vi 2, vi a0, vi a1]) (nx := 22) (r1 := 305) (r2 := 3) (r3 := 11) rfl rfl rfl (of_decide_eq_true rfl) rfl rfl (by decide) rfl rfl (of_decide_eq_true rfl) (of_decide_eq_true rfl) ?_
      refine ct_305_236_L2 hcr  g a0 a1 (by omega) (by omega)  (fun z15  (fz15 : 0 ≤ z15 ∧ z15 ≤ 1099900) (p14_0 : z15 = 1000000 ∨ (h 247 2) < (h 238 100)) y14_0 => ?_)
      have b16 := gi_b (lo := 0) (hi := 6) g 247 2 rfl
      have b17 := gi_b (lo := 0) (hi := 6) g 238 100 rfl
      refine wk_i ?_
      refine wi_S (rest := []) (as := [vi z3, vi z15]) (nx := 25) (r1 := 309) (r2 := 18) (r3 := 0) rfl rfl rfl (of_decide_eq_true rfl) rfl rfl (of_decide_eq_true rfl) (of_decide_eq_true rfl) ?_
      refine wi_iload_n (i := 0) (e := z3) (nx := 1) (r1 := 0) (r2 := 0) (r3 := 0) rfl rfl ?_
      refine wi_iload_n (i := 1) (e := z15) (nx := 2) (r1 := 0) (r2 := 0) (r3 := 0) rfl rfl ?_
      refine wi_icmp (cd := .ge) (nx := 5) (r1 := 9) (r2 := 0) (r3 := 0) rfl (by omega) (by omega) (fun (q18 : z15 ≤ z3) => ?_) (fun (q18 : ¬ (z15 ≤ z3)) => ?_)
      ·
        refine wi_iload_n (i := 1) (e := z15) (nx := 10) (r1 := 0) (r2 := 0) (r3 := 0) rfl rfl ?_
        refine wi_ireturn (nx := 11) (r1 := 0) (r2 := 0) (r3 := 0) rfl rfl ?_
        refine wk_i ?_
        refine wi_istore_n (i := 3) (e := z15) (lo2 := [(3, vi z15), (4, vi 2), (0, .ref 236), (1, vi a0), (2, vi a1)]) (nx := 26) (r1 := 0) (r2 := 0) (r3 := 0) rfl rfl ?_
        refine wr_iincL (i := 4) (n := 1) (v := 2) (3) ([(4, vi 3), (3, vi z15), (0, .ref 236), (1, vi a0), (2, vi a1)]) (nx := 29) (r1 := 0) (r2 := 0) (r3 := 0) rfl rfl (by decide) rfl ?_
        refine wi_goto (nx := 32) (r1 := 7) (r2 := 0) (r3 := 0) rfl ?_
        refine wi_iload (i := 4) (e := 3) (nx := 9) (r1 := 0) (r2 := 0) (r3 := 0) rfl rfl ?_
        refine wi_iconst (n := 4) (nx := 10) (r1 := 0) (r2 := 0) (r3 := 0) rfl ?_
        refine wi_icmp (cd := .ge) (nx := 13) (r1 := 32) (r2 := 0) (r3 := 0) rfl (by omega) (by omega) (fun (q19 : 4 ≤ 3) => by exfalso; omega) (fun (q19 : ¬ (4 ≤ 3)) => ?_)
        refine wi_iload_n (i := 3) (e := z15) (nx := 14) (r1 := 0) (r2 := 0) (r3 := 0) rfl rfl ?_
        refine wi_aload_n (i := 0) (x := 236) (nx := 15) (r1 := 0) (r2 := 0) (r3 := 0) rfl rfl ?_
        refine wi_iload (i := 4) (e := 3) (nx := 17) (r1 := 0) (r2 := 0) (r3 := 0) rfl rfl ?_
        refine wi_iload_n (i := 1) (e := a0) (nx := 18) (r1 := 0) (r2 := 0) (r3 := 0) rfl rfl ?_
        refine wi_iload_n (i := 2) (e := a1) (nx := 19) (r1 := 0) (r2 := 0) (r3 := 0) rfl rfl ?_
        refine wr_V (k0 := 236) (rest := [vi z15]) (as := [.ref 236, vi 3, vi a0, vi a1]) (nx := 22) (r1 := 305) (r2 := 3) (r3 := 11) rfl rfl rfl (of_decide_eq_true rfl) rfl rfl (by decide) rfl rfl (of_decide_eq_true rfl) (of_decide_eq_true rfl) ?_
        refine ct_305_236_L3 hcr  g a0 a1 (by omega) (by omega)  (fun z21  (fz21 : 0 ≤ z21 ∧ z21 ≤ 1099900) (p20_0 : z21 = 1000000 ∨ (h 247 3) < (h 238 101)) y20_0 => ?_)
        have b22 := gi_b (lo := 0) (hi := 6) g 247 3 rfl
        have b23 := gi_b (lo := 0) (hi := 6) g 238 101 rfl
        refine wk_i ?_
        refine wi_S (rest := []) (as := [vi z15, vi z21]) (nx := 25) (r1 := 309) (r2 := 18) (r3 := 0) rfl rfl rfl (of_decide_eq_true rfl) rfl rfl (of_decide_eq_true rfl) (of_decide_eq_true rfl) ?_
        refine wi_iload_n (i := 0) (e := z15) (nx := 1) (r1 := 0) (r2 := 0) (r3 := 0) rfl rfl ?_
        refine wi_iload_n (i := 1) (e := z21) (nx := 2) (r1 := 0) (r2 := 0) (r3 := 0) rfl rfl ?_
        refine wi_icmp (cd := .ge) (nx := 5) (r1 := 9) (r2 := 0) (r3 := 0) rfl (by omega) (by omega) (fun (q24 : z21 ≤ z15) => ?_) (fun (q24 : ¬ (z21 ≤ z15)) => ?_)
        ·
          refine wi_iload_n (i := 1) (e := z21) (nx := 10) (r1 := 0) (r2 := 0) (r3 := 0) rfl rfl ?_
          refine wi_ireturn (nx := 11) (r1 := 0) (r2 := 0) (r3 := 0) rfl rfl ?_
          refine wk_i ?_
          refine wi_istore_n (i := 3) (e := z21) (lo2 := [(3, vi z21), (4, vi 3), (0, .ref 236), (1, vi a0), (2, vi a1)]) (nx := 26) (r1 := 0) (r2 := 0) (r3 := 0) rfl rfl ?_
          refine wr_iincL (i := 4) (n := 1) (v := 3) (4) ([(4, vi 4), (3, vi z21), (0, .ref 236), (1, vi a0), (2, vi a1)]) (nx := 29) (r1 := 0) (r2 := 0) (r3 := 0) rfl rfl (by decide) rfl ?_
          refine wi_goto (nx := 32) (r1 := 7) (r2 := 0) (r3 := 0) rfl ?_
          refine wi_iload (i := 4) (e := 4) (nx := 9) (r1 := 0) (r2 := 0) (r3 := 0) rfl rfl ?_
          refine wi_iconst (n := 4) (nx := 10) (r1 := 0) (r2 := 0) (r3 := 0) rfl ?_
          refine wi_icmp (cd := .ge) (nx := 13) (r1 := 32) (r2 := 0) (r3 := 0) rfl (by omega) (by omega) (fun (q25 : 4 ≤ 4) => ?_) (fun (q25 : ¬ (4 ≤ 4)) => by exfalso; omega)
          refine wi_iload_n (i := 3) (e := z21) (nx := 33) (r1 := 0) (r2 := 0) (r3 := 0) rfl rfl ?_
          refine wi_ireturn (nx := 34) (r1 := 0) (r2 := 0) (r3 := 0) rfl rfl ?_
          exact k z21 (by omega) (Or.inr ⟨3, by decide, y20_0.symm⟩)
        ·
          refine wi_iload_n (i := 0) (e := z15) (nx := 6) (r1 := 0) (r2 := 0) (r3 := 0) rfl rfl ?_
          refine wi_goto (nx := 9) (r1 := 10) (r2 := 0) (r3 := 0) rfl ?_
          refine wi_ireturn (nx := 11) (r1 := 0) (r2 := 0) (r3 := 0) rfl rfl ?_
          refine wk_i ?_
          refine wi_istore_n (i := 3) (e := z15) (lo2 := [(3, vi z15), (4, vi 3), (0, .ref 236), (1, vi a0), (2, vi a1)]) (nx := 26) (r1 := 0) (r2 := 0) (r3 := 0) rfl rfl ?_
          refine wr_iincL (i := 4) (n := 1) (v := 3) (4) ([(4, vi 4), (3, vi z15), (0, .ref 236), (1, vi a0), (2, vi a1)]) (nx := 29) (r1 := 0) (r2 := 0) (r3 := 0) rfl rfl (by decide) rfl ?_
          refine wi_goto (nx := 32) (r1 := 7) (r2 := 0) (r3 := 0) rfl ?_
          refine wi_iload (i := 4) (e := 4) (nx := 9) (r1 := 0) (r2 := 0) (r3 := 0) rfl rfl ?_
          refine wi_iconst (n := 4) (nx := 10) (r1 := 0) (r2 := 0) (r3 := 0) rfl ?_
          refine wi_icmp (cd := .ge) (nx := 13) (r1 := 32) (r2 := 0) (r3 := 0) rfl (by omega) (by omega) (fun (q25 : 4 ≤ 4) => ?_) (fun (q25 : ¬ (4 ≤ 4)) => by exfalso; omega)
          refine wi_iload_n (i := 3) (e := z15) (nx := 33) (r1 := 0) (r2 := 0) (r3 := 0) rfl rfl ?_
          refine wi_ireturn (nx := 34) (r1 := 0) (r2 := 0) (r3 := 0) rfl rfl ?_
          exact k z15 (by omega) (Or.inr ⟨2, by decide, y14_0.symm⟩)
      ·
        refine wi_iload_n (i := 0) (e := z3) (nx := 6) (r1 := 0) (r2 := 0) (r3 := 0) rfl rfl ?_
        refine wi_goto (nx := 9) (r1 := 10) (r2 := 0) (r3 := 0) rfl ?_
        refine wi_ireturn (nx := 11) (r1 := 0) (r2 := 0) (r3 := 0) rfl rfl ?_
        refine wk_i ?_
        refine wi_istore_n (i := 3) (e := z3) (lo2 := [(3, vi z3), (4, vi 2), (0, .ref 236), (1, vi a0), (2, vi a1)]) (nx := 26) (r1 := 0) (r2 := 0) (r3 := 0) rfl rfl ?_
        refine wr_iincL (i := 4) (n := 1) (v := 2) (3) ([(4, vi 3), (3, vi z3), (0, .ref 236), (1, vi a0), (2, vi a1)]) (nx := 29) (r1 := 0) (r2 := 0) (r3 := 0) rfl rfl (by decide) rfl ?_
        refine wi_goto (nx := 32) (r1 := 7) (r2 := 0) (r3 := 0) rfl ?_
        refine wi_iload (i := 4) (e := 3) (nx := 9) (r1 := 0) (r2 := 0) (r3 := 0) rfl rfl ?_
        refine wi_iconst (n := 4) (nx := 10) (r1 := 0) (r2 := 0) (r3 := 0) rfl ?_
        refine wi_icmp (cd := .ge) (nx := 13) (r1 := 32) (r2 := 0) (r3 := 0) rfl (by omega) (by omega) (fun (q19 : 4 ≤ 3) => by exfalso; omega) (fun (q19 : ¬ (4 ≤ 3)) => ?_)
        refine wi_iload_n (i := 3) (e := z3) (nx := 14) (r1 := 0) (r2 := 0) (r3 := 0) rfl rfl ?_
        refine wi_aload_n (i := 0) (x := 236) (nx := 15) (r1 := 0) (r2 := 0) (r3 := 0) rfl rfl ?_
        refine wi_iload (i := 4) (e := 3) (nx := 17) (r1 := 0) (r2 := 0) (r3 := 0) rfl rfl ?_
        refine wi_iload_n (i := 1) (e := a0) (nx := 18) (r1 := 0) (r2 := 0) (r3 := 0) rfl rfl ?_
        refine wi_iload_n (i := 2) (e := a1) (nx := 19) (r1 := 0) (r2 := 0) (r3 := 0) rfl rfl ?_
        refine wr_V (k0 := 236) (rest := [vi z3]) (as := [.ref 236, vi 3, vi a0, vi a1]) (nx := 22) (r1 := 305) (r2 := 3) (r3 := 11) rfl rfl rfl (of_decide_eq_true rfl) rfl rfl (by decide) rfl rfl (of_decide_eq_true rfl) (of_decide_eq_true rfl) ?_
        refine ct_305_236_L3 hcr  g a0 a1 (by omega) (by omega)  (fun z21  (fz21 : 0 ≤ z21 ∧ z21 ≤ 1099900) (p20_0 : z21 = 1000000 ∨ (h 247 3) < (h 238 101)) y20_0 => ?_)
        have b22 := gi_b (lo := 0) (hi := 6) g 247 3 rfl
        have b23 := gi_b (lo := 0) (hi := 6) g 238 101 rfl
        refine wk_i ?_
        refine wi_S (rest := []) (as := [vi z3, vi z21]) (nx := 25) (r1 := 309) (r2 := 18) (r3 := 0) rfl rfl rfl (of_decide_eq_true rfl) rfl rfl (of_decide_eq_true rfl) (of_decide_eq_true rfl) ?_
        refine wi_iload_n (i := 0) (e := z3) (nx := 1) (r1 := 0) (r2 := 0) (r3 := 0) rfl rfl ?_
        refine wi_iload_n (i := 1) (e := z21) (nx := 2) (r1 := 0) (r2 := 0) (r3 := 0) rfl rfl ?_
        refine wi_icmp (cd := .ge) (nx := 5) (r1 := 9) (r2 := 0) (r3 := 0) rfl (by omega) (by omega) (fun (q24 : z21 ≤ z3) => ?_) (fun (q24 : ¬ (z21 ≤ z3)) => ?_)
        ·
          refine wi_iload_n (i := 1) (e := z21) (nx := 10) (r1 := 0) (r2 := 0) (r3 := 0) rfl rfl ?_
          refine wi_ireturn (nx := 11) (r1 := 0) (r2 := 0) (r3 := 0) rfl rfl ?_
          refine wk_i ?_
          refine wi_istore_n (i := 3) (e := z21) (lo2 := [(3, vi z21), (4, vi 3), (0, .ref 236), (1, vi a0), (2, vi a1)]) (nx := 26) (r1 := 0) (r2 := 0) (r3 := 0) rfl rfl ?_
          refine wr_iincL (i := 4) (n := 1) (v := 3) (4) ([(4, vi 4), (3, vi z21), (0, .ref 236), (1, vi a0), (2, vi a1)]) (nx := 29) (r1 := 0) (r2 := 0) (r3 := 0) rfl rfl (by decide) rfl ?_
          refine wi_goto (nx := 32) (r1 := 7) (r2 := 0) (r3 := 0) rfl ?_
          refine wi_iload (i := 4) (e := 4) (nx := 9) (r1 := 0) (r2 := 0) (r3 := 0) rfl rfl ?_
          refine wi_iconst (n := 4) (nx := 10) (r1 := 0) (r2 := 0) (r3 := 0) rfl ?_
          refine wi_icmp (cd := .ge) (nx := 13) (r1 := 32) (r2 := 0) (r3 := 0) rfl (by omega) (by omega) (fun (q25 : 4 ≤ 4) => ?_) (fun (q25 : ¬ (4 ≤ 4)) => by exfalso; omega)
          refine wi_iload_n (i := 3) (e := z21) (nx := 33) (r1 := 0) (r2 := 0) (r3 := 0) rfl rfl ?_
          refine wi_ireturn (nx := 34) (r1 := 0) (r2 := 0) (r3 := 0) rfl rfl ?_
          exact k z21 (by omega) (Or.inr ⟨3, by decide, y20_0.symm⟩)
        ·
          refine wi_iload_n (i := 0) (e := z3) (nx := 6) (r1 := 0) (r2 := 0) (r3 := 0) rfl rfl ?_
          refine wi_goto (nx := 9) (r1 := 10) (r2 := 0) (r3 := 0) rfl ?_
          refine wi_ireturn (nx := 11) (r1 := 0) (r2 := 0) (r3 := 0) rfl rfl ?_
          refine wk_i ?_
          refine wi_istore_n (i := 3) (e := z3) (lo2 := [(3, vi z3), (4, vi 3), (0, .ref 236), (1, vi a0), (2, vi a1)]) (nx := 26) (r1 := 0) (r2 := 0) (r3 := 0) rfl rfl ?_
          refine wr_iincL (i := 4) (n := 1) (v := 3) (4) ([(4, vi 4), (3, vi z3), (0, .ref 236), (1, vi a0), (2, vi a1)]) (nx := 29) (r1 := 0) (r2 := 0) (r3 := 0) rfl rfl (by decide) rfl ?_
          refine wi_goto (nx := 32) (r1 := 7) (r2 := 0) (r3 := 0) rfl ?_
          refine wi_iload (i := 4) (e := 4) (nx := 9) (r1 := 0) (r2 := 0) (r3 := 0) rfl rfl ?_
          refine wi_iconst (n := 4) (nx := 10) (r1 := 0) (r2 := 0) (r3 := 0) rfl ?_
          refine wi_icmp (cd := .ge) (nx := 13) (r1 := 32) (r2 := 0) (r3 := 0) rfl (by omega) (by omega) (fun (q25 : 4 ≤ 4) => ?_) (fun (q25 : ¬ (4 ≤ 4)) => by exfalso; omega)
          refine wi_iload_n (i := 3) (e := z3) (nx := 33) (r1 := 0) (r2 := 0) (r3 := 0) rfl rfl ?_
          refine wi_ireturn (nx := 34) (r1 := 0) (r2 := 0) (r3 := 0) rfl rfl ?_
          exact k z3 (by omega) (Or.inr ⟨0, by decide, y2_0.symm⟩)
  ·
    refine wi_iload_n (i := 0) (e := 1000000) (nx := 6) (r1 := 0) (r2 := 0) (r3 := 0) rfl rfl ?_
    refine wi_goto (nx := 9) (r1 := 10) (r2 := 0) (r3 := 0) rfl ?_
    refine wi_ireturn (nx := 11) (r1 := 0) (r2 := 0) (r3 := 0) rfl rfl ?_
    refine wk_i ?_
    refine wi_istore_n (i := 3) (e := 1000000) (lo2 := [(3, vi 1000000), (4, vi 0), (0, .ref 236), (1, vi a0), (2, vi a1)]) (nx := 26) (r1 := 0) (r2 := 0) (r3 := 0) rfl rfl ?_
    refine wr_iincL (i := 4) (n := 1) (v := 0) (1) ([(4, vi 1), (3, vi 1000000), (0, .ref 236), (1, vi a0), (2, vi a1)]) (nx := 29) (r1 := 0) (r2 := 0) (r3 := 0) rfl rfl (by decide) rfl ?_
    refine wi_goto (nx := 32) (r1 := 7) (r2 := 0) (r3 := 0) rfl ?_
    refine wi_iload (i := 4) (e := 1) (nx := 9) (r1 := 0) (r2 := 0) (r3 := 0) rfl rfl ?_
    refine wi_iconst (n := 4) (nx := 10) (r1 := 0) (r2 := 0) (r3 := 0) rfl ?_
    refine wi_icmp (cd := .ge) (nx := 13) (r1 := 32) (r2 := 0) (r3 := 0) rfl (by omega) (by omega) (fun (q7 : 4 ≤ 1) => by exfalso; omega) (fun (q7 : ¬ (4 ≤ 1)) => ?_)
    refine wi_iload_n (i := 3) (e := 1000000) (nx := 14) (r1 := 0) (r2 := 0) (r3 := 0) rfl rfl ?_
    refine wi_aload_n (i := 0) (x := 236) (nx := 15) (r1 := 0) (r2 := 0) (r3 := 0) rfl rfl ?_
    refine wi_iload (i := 4) (e := 1) (nx := 17) (r1 := 0) (r2 := 0) (r3 := 0) rfl rfl ?_
    refine wi_iload_n (i := 1) (e := a0) (nx := 18) (r1 := 0) (r2 := 0) (r3 := 0) rfl rfl ?_
    refine wi_iload_n (i := 2) (e := a1) (nx := 19) (r1 := 0) (r2 := 0) (r3 := 0) rfl rfl ?_
    refine wr_V (k0 := 236) (rest := [vi 1000000]) (as := [.ref 236, vi 1, vi a0, vi a1]) (nx := 22) (r1 := 305) (r2 := 3) (r3 := 11) rfl rfl rfl (of_decide_eq_true rfl) rfl rfl (by decide) rfl rfl (of_decide_eq_true rfl) (of_decide_eq_true rfl) ?_
    refine ct_305_236_L1 hcr  g a0 a1 (by omega) (by omega)  (fun z9  (fz9 : 0 ≤ z9 ∧ z9 ≤ 1099900) (p8_0 : z9 = 1000000 ∨ (h 247 1) < (h 238 99)) y8_0 => ?_)
    have b10 := gi_b (lo := 0) (hi := 6) g 247 1 rfl
    have b11 := gi_b (lo := 0) (hi := 6) g 238 99 rfl
    refine wk_i ?_
    refine wi_S (rest := []) (as := [vi 1000000, vi z9]) (nx := 25) (r1 := 309) (r2 := 18) (r3 := 0) rfl rfl rfl (of_decide_eq_true rfl) rfl rfl (of_decide_eq_true rfl) (of_decide_eq_true rfl) ?_
    refine wi_iload_n (i := 0) (e := 1000000) (nx := 1) (r1 := 0) (r2 := 0) (r3 := 0) rfl rfl ?_
    refine wi_iload_n (i := 1) (e := z9) (nx := 2) (r1 := 0) (r2 := 0) (r3 := 0) rfl rfl ?_
    refine wi_icmp (cd := .ge) (nx := 5) (r1 := 9) (r2 := 0) (r3 := 0) rfl (by omega) (by omega) (fun (q12 : z9 ≤ 1000000) => ?_) (fun (q12 : ¬ (z9 ≤ 1000000)) => ?_)
    ·
      refine wi_iload_n (i := 1) (e := z9) (nx := 10) (r1 := 0) (r2 := 0) (r3 := 0) rfl rfl ?_
      refine wi_ireturn (nx := 11) (r1 := 0) (r2 := 0) (r3 := 0) rfl rfl ?_
      refine wk_i ?_
      refine wi_istore_n (i := 3) (e := z9) (lo2 := [(3, vi z9), (4, vi 1), (0, .ref 236), (1, vi a0), (2, vi a1)]) (nx := 26) (r1 := 0) (r2 := 0) (r3 := 0) rfl rfl ?_
      refine wr_iincL (i := 4) (n := 1) (v := 1) (2) ([(4, vi 2), (3, vi z9), (0, .ref 236), (1, vi a0), (2, vi a1)]) (nx := 29) (r1 := 0) (r2 := 0) (r3 := 0) rfl rfl (by decide) rfl ?_
      refine wi_goto (nx := 32) (r1 := 7) (r2 := 0) (r3 := 0) rfl ?_
      refine wi_iload (i := 4) (e := 2) (nx := 9) (r1 := 0) (r2 := 0) (r3 := 0) rfl rfl ?_
      refine wi_iconst (n := 4) (nx := 10) (r1 := 0) (r2 := 0) (r3 := 0) rfl ?_
      refine wi_icmp (cd := .ge) (nx := 13) (r1 := 32) (r2 := 0) (r3 := 0) rfl (by omega) (by omega) (fun (q13 : 4 ≤ 2) => by exfalso; omega) (fun (q13 : ¬ (4 ≤ 2)) => ?_)
      refine wi_iload_n (i := 3) (e := z9) (nx := 14) (r1 := 0) (r2 := 0) (r3 := 0) rfl rfl ?_
      refine wi_aload_n (i := 0) (x := 236) (nx := 15) (r1 := 0) (r2 := 0) (r3 := 0) rfl rfl ?_
      refine wi_iload (i := 4) (e := 2) (nx := 17) (r1 := 0) (r2 := 0) (r3 := 0) rfl rfl ?_
      refine wi_iload_n (i := 1) (e := a0) (nx := 18) (r1 := 0) (r2 := 0) (r3 := 0) rfl rfl ?_
      refine wi_iload_n (i := 2) (e := a1) (nx := 19) (r1 := 0) (r2 := 0) (r3 := 0) rfl rfl ?_
      refine wr_V (k0 := 236) (rest := [vi z9]) (as := [.ref 236, vi 2, vi a0, vi a1]) (nx := 22) (r1 := 305) (r2 := 3) (r3 := 11) rfl rfl rfl (of_decide_eq_true rfl) rfl rfl (by decide) rfl rfl (of_decide_eq_true rfl) (of_decide_eq_true rfl) ?_
      refine ct_305_236_L2 hcr  g a0 a1 (by omega) (by omega)  (fun z15  (fz15 : 0 ≤ z15 ∧ z15 ≤ 1099900) (p14_0 : z15 = 1000000 ∨ (h 247 2) < (h 238 100)) y14_0 => ?_)
      have b16 := gi_b (lo := 0) (hi := 6) g 247 2 rfl
      have b17 := gi_b (lo := 0) (hi := 6) g 238 100 rfl
      refine wk_i ?_
      refine wi_S (rest := []) (as := [vi z9, vi z15]) (nx := 25) (r1 := 309) (r2 := 18) (r3 := 0) rfl rfl rfl (of_decide_eq_true rfl) rfl rfl (of_decide_eq_true rfl) (of_decide_eq_true rfl) ?_
      refine wi_iload_n (i := 0) (e := z9) (nx := 1) (r1 := 0) (r2 := 0) (r3 := 0) rfl rfl ?_
      refine wi_iload_n (i := 1) (e := z15) (nx := 2) (r1 := 0) (r2 := 0) (r3 := 0) rfl rfl ?_
      refine wi_icmp (cd := .ge) (nx := 5) (r1 := 9) (r2 := 0) (r3 := 0) rfl (by omega) (by omega) (fun (q18 : z15 ≤ z9) => ?_) (fun (q18 : ¬ (z15 ≤ z9)) => ?_)
      ·
        refine wi_iload_n (i := 1) (e := z15) (nx := 10) (r1 := 0) (r2 := 0) (r3 := 0) rfl rfl ?_
        refine wi_ireturn (nx := 11) (r1 := 0) (r2 := 0) (r3 := 0) rfl rfl ?_
        refine wk_i ?_
        refine wi_istore_n (i := 3) (e := z15) (lo2 := [(3, vi z15), (4, vi 2), (0, .ref 236), (1, vi a0), (2, vi a1)]) (nx := 26) (r1 := 0) (r2 := 0) (r3 := 0) rfl rfl ?_
        refine wr_iincL (i := 4) (n := 1) (v := 2) (3) ([(4, vi 3), (3, vi z15), (0, .ref 236), (1, vi a0), (2, vi a1)]) (nx := 29) (r1 := 0) (r2 := 0) (r3 := 0) rfl rfl (by decide) rfl ?_
        refine wi_goto (nx := 32) (r1 := 7) (r2 := 0) (r3 := 0) rfl ?_
        refine wi_iload (i := 4) (e := 3) (nx := 9) (r1 := 0) (r2 := 0) (r3 := 0) rfl rfl ?_
        refine wi_iconst (n := 4) (nx := 10) (r1 := 0) (r2 := 0) (r3 := 0) rfl ?_
        refine wi_icmp (cd := .ge) (nx := 13) (r1 := 32) (r2 := 0) (r3 := 0) rfl (by omega) (by omega) (fun (q19 : 4 ≤ 3) => by exfalso; omega) (fun (q19 : ¬ (4 ≤ 3)) => ?_)
        refine wi_iload_n (i := 3) (e := z15) (nx := 14) (r1 := 0) (r2 := 0) (r3 := 0) rfl rfl ?_
        refine wi_aload_n (i := 0) (x := 236) (nx := 15) (r1 := 0) (r2 := 0) (r3 := 0) rfl rfl ?_
        refine wi_iload (i := 4) (e := 3) (nx := 17) (r1 := 0) (r2 := 0) (r3 := 0) rfl rfl ?_
        refine wi_iload_n (i := 1) (e := a0) (nx := 18) (r1 := 0) (r2 := 0) (r3 := 0) rfl rfl ?_
        refine wi_iload_n (i := 2) (e := a1) (nx := 19) (r1 := 0) (r2 := 0) (r3 := 0) rfl rfl ?_
        refine wr_V (k0 := 236) (rest := [vi z15]) (as := [.ref 236, vi 3, vi a0, vi a1]) (nx := 22) (r1 := 305) (r2 := 3) (r3 := 11) rfl rfl rfl (of_decide_eq_true rfl) rfl rfl (by decide) rfl rfl (of_decide_eq_true rfl) (of_decide_eq_true rfl) ?_
        refine ct_305_236_L3 hcr  g a0 a1 (by omega) (by omega)  (fun z21  (fz21 : 0 ≤ z21 ∧ z21 ≤ 1099900) (p20_0 : z21 = 1000000 ∨ (h 247 3) < (h 238 101)) y20_0 => ?_)
        have b22 := gi_b (lo := 0) (hi := 6) g 247 3 rfl
        have b23 := gi_b (lo := 0) (hi := 6) g 238 101 rfl
        refine wk_i ?_
        refine wi_S (rest := []) (as := [vi z15, vi z21]) (nx := 25) (r1 := 309) (r2 := 18) (r3 := 0) rfl rfl rfl (of_decide_eq_true rfl) rfl rfl (of_decide_eq_true rfl) (of_decide_eq_true rfl) ?_
        refine wi_iload_n (i := 0) (e := z15) (nx := 1) (r1 := 0) (r2 := 0) (r3 := 0) rfl rfl ?_
        refine wi_iload_n (i := 1) (e := z21) (nx := 2) (r1 := 0) (r2 := 0) (r3 := 0) rfl rfl ?_
        refine wi_icmp (cd := .ge) (nx := 5) (r1 := 9) (r2 := 0) (r3 := 0) rfl (by omega) (by omega) (fun (q24 : z21 ≤ z15) => ?_) (fun (q24 : ¬ (z21 ≤ z15)) => ?_)
        ·
          refine wi_iload_n (i := 1) (e := z21) (nx := 10) (r1 := 0) (r2 := 0) (r3 := 0) rfl rfl ?_
          refine wi_ireturn (nx := 11) (r1 := 0) (r2 := 0) (r3 := 0) rfl rfl ?_
          refine wk_i ?_
          refine wi_istore_n (i := 3) (e := z21) (lo2 := [(3, vi z21), (4, vi 3), (0, .ref 236), (1, vi a0), (2, vi a1)]) (nx := 26) (r1 := 0) (r2 := 0) (r3 := 0) rfl rfl ?_
          refine wr_iincL (i := 4) (n := 1) (v := 3) (4) ([(4, vi 4), (3, vi z21), (0, .ref 236), (1, vi a0), (2, vi a1)]) (nx := 29) (r1 := 0) (r2 := 0) (r3 := 0) rfl rfl (by decide) rfl ?_
          refine wi_goto (nx := 32) (r1 := 7) (r2 := 0) (r3 := 0) rfl ?_
          refine wi_iload (i := 4) (e := 4) (nx := 9) (r1 := 0) (r2 := 0) (r3 := 0) rfl rfl ?_
          refine wi_iconst (n := 4) (nx := 10) (r1 := 0) (r2 := 0) (r3 := 0) rfl ?_
          refine wi_icmp (cd := .ge) (nx := 13) (r1 := 32) (r2 := 0) (r3 := 0) rfl (by omega) (by omega) (fun (q25 : 4 ≤ 4) => ?_) (fun (q25 : ¬ (4 ≤ 4)) => by exfalso; omega)
          refine wi_iload_n (i := 3) (e := z21) (nx := 33) (r1 := 0) (r2 := 0) (r3 := 0) rfl rfl ?_
          refine wi_ireturn (nx := 34) (r1 := 0) (r2 := 0) (r3 := 0) rfl rfl ?_
          exact k z21 (by omega) (Or.inr ⟨3, by decide, y20_0.symm⟩)
        ·
          refine wi_iload_n (i := 0) (e := z15) (nx := 6) (r1 := 0) (r2 := 0) (r3 := 0) rfl rfl ?_
          refine wi_goto (nx := 9) (r1 := 10) (r2 := 0) (r3 := 0) rfl ?_
          refine wi_ireturn (nx := 11) (r1 := 0) (r2 := 0) (r3 := 0) rfl rfl ?_
          refine wk_i ?_
          refine wi_istore_n (i := 3) (e := z15) (lo2 := [(3, vi z15), (4, vi 3), (0, .ref 236), (1, vi a0), (2, vi a1)]) (nx := 26) (r1 := 0) (r2 := 0) (r3 := 0) rfl rfl ?_
          refine wr_iincL (i := 4) (n := 1) (v := 3) (4) ([(4, vi 4), (3, vi z15), (0, .ref 236), (1, vi a0), (2, vi a1)]) (nx := 29) (r1 := 0) (r2 := 0) (r3 := 0) rfl rfl (by decide) rfl ?_
          refine wi_goto (nx := 32) (r1 := 7) (r2 := 0) (r3 := 0) rfl ?_
          refine wi_iload (i := 4) (e := 4) (nx := 9) (r1 := 0) (r2 := 0) (r3 := 0) rfl rfl ?_
          refine wi_iconst (n := 4) (nx := 10) (r1 := 0) (r2 := 0) (r3 := 0) rfl ?_
          refine wi_icmp (cd := .ge) (nx := 13) (r1 := 32) (r2 := 0) (r3 := 0) rfl (by omega) (by omega) (fun (q25 : 4 ≤ 4) => ?_) (fun (q25 : ¬ (4 ≤ 4)) => by exfalso; omega)
          refine wi_iload_n (i := 3) (e := z15) (nx := 33) (r1 := 0) (r2 := 0) (r3 := 0) rfl rfl ?_
          refine wi_ireturn (nx := 34) (r1 := 0) (r2 := 0) (r3 := 0) rfl rfl ?_
          exact k z15 (by omega) (Or.inr ⟨2, by decide, y14_0.symm⟩)
      ·
        refine wi_iload_n (i := 0) (e := z9) (nx := 6) (r1 := 0) (r2 := 0) (r3 := 0) rfl rfl ?_
        refine wi_goto (nx := 9) (r1 := 10) (r2 := 0) (r3 := 0) rfl ?_
        refine wi_ireturn (nx := 11) (r1 := 0) (r2 := 0) (r3 := 0) rfl rfl ?_
        refine wk_i ?_
        refine wi_istore_n (i := 3) (e := z9) (lo2 := [(3, vi z9), (4, vi 2), (0, .ref 236), (1, vi a0), (2, vi a1)]) (nx := 26) (r1 := 0) (r2 := 0) (r3 := 0) rfl rfl ?_
        refine wr_iincL (i := 4) (n := 1) (v := 2) (3) ([(4, vi 3), (3, vi z9), (0, .ref 236), (1, vi a0), (2, vi a1)]) (nx := 29) (r1 := 0) (r2 := 0) (r3 := 0) rfl rfl (by decide) rfl ?_
        refine wi_goto (nx := 32) (r1 := 7) (r2 := 0) (r3 := 0) rfl ?_
        refine wi_iload (i := 4) (e := 3) (nx := 9) (r1 := 0) (r2 := 0) (r3 := 0) rfl rfl ?_
        refine wi_iconst (n := 4) (nx := 10) (r1 := 0) (r2 := 0) (r3 := 0) rfl ?_
        refine wi_icmp (cd := .ge) (nx := 13) (r1 := 32) (r2 := 0) (r3 := 0) rfl (by omega) (by omega) (fun (q19 : 4 ≤ 3) => by exfalso; omega) (fun (q19 : ¬ (4 ≤ 3)) => ?_)
        refine wi_iload_n (i := 3) (e := z9) (nx := 14) (r1 := 0) (r2 := 0) (r3 := 0) rfl rfl ?_
        refine wi_aload_n (i := 0) (x := 236) (nx := 15) (r1 := 0) (r2 := 0) (r3 := 0) rfl rfl ?_
        refine wi_iload (i := 4) (e := 3) (nx := 17) (r1 := 0) (r2 := 0) (r3 := 0) rfl rfl ?_
        refine wi_iload_n (i := 1) (e := a0) (nx := 18) (r1 := 0) (r2 := 0) (r3 := 0) rfl rfl ?_
        refine wi_iload_n (i := 2) (e := a1) (nx := 19) (r1 := 0) (r2 := 0) (r3 := 0) rfl rfl ?_
        refine wr_V (k0 := 236) (rest := [vi z9]) (as := [.ref 236, vi 3, vi a0, vi a1]) (nx := 22) (r1 := 305) (r2 := 3) (r3 := 11) rfl rfl rfl (of_decide_eq_true rfl) rfl rfl (by decide) rfl rfl (of_decide_eq_true rfl) (of_decide_eq_true rfl) ?_
        refine ct_305_236_L3 hcr  g a0 a1 (by omega) (by omega)  (fun z21  (fz21 : 0 ≤ z21 ∧ z21 ≤ 1099900) (p20_0 : z21 = 1000000 ∨ (h 247 3) < (h 238 101)) y20_0 => ?_)
        have b22 := gi_b (lo := 0) (hi := 6) g 247 3 rfl
        have b23 := gi_b (lo := 0) (hi := 6) g 238 101 rfl
        refine wk_i ?_
        refine wi_S (rest := []) (as := [vi z9, vi z21]) (nx := 25) (r1 := 309) (r2 := 18) (r3 := 0) rfl rfl rfl (of_decide_eq_true rfl) rfl rfl (of_decide_eq_true rfl) (of_decide_eq_true rfl) ?_
        refine wi_iload_n (i := 0) (e := z9) (nx := 1) (r1 := 0) (r2 := 0) (r3 := 0) rfl rfl ?_
        refine wi_iload_n (i := 1) (e := z21) (nx := 2) (r1 := 0) (r2 := 0) (r3 := 0) rfl rfl ?_
        refine wi_icmp (cd := .ge) (nx := 5) (r1 := 9) (r2 := 0) (r3 := 0) rfl (by omega) (by omega) (fun (q24 : z21 ≤ z9) => ?_) (fun (q24 : ¬ (z21 ≤ z9)) => ?_)
        ·
          refine wi_iload_n (i := 1) (e := z21) (nx := 10) (r1 := 0) (r2 := 0) (r3 := 0) rfl rfl ?_
          refine wi_ireturn (nx := 11) (r1 := 0) (r2 := 0) (r3 := 0) rfl rfl ?_
          refine wk_i ?_
          refine wi_istore_n (i := 3) (e := z21) (lo2 := [(3, vi z21), (4, vi 3), (0, .ref 236), (1, vi a0), (2, vi a1)]) (nx := 26) (r1 := 0) (r2 := 0) (r3 := 0) rfl rfl ?_
          refine wr_iincL (i := 4) (n := 1) (v := 3) (4) ([(4, vi 4), (3, vi z21), (0, .ref 236), (1, vi a0), (2, vi a1)]) (nx := 29) (r1 := 0) (r2 := 0) (r3 := 0) rfl rfl (by decide) rfl ?_
          refine wi_goto (nx := 32) (r1 := 7) (r2 := 0) (r3 := 0) rfl ?_
          refine wi_iload (i := 4) (e := 4) (nx := 9) (r1 := 0) (r2 := 0) (r3 := 0) rfl rfl ?_
          refine wi_iconst (n := 4) (nx := 10) (r1 := 0) (r2 := 0) (r3 := 0) rfl ?_
          refine wi_icmp (cd := .ge) (nx := 13) (r1 := 32) (r2 := 0) (r3 := 0) rfl (by omega) (by omega) (fun (q25 : 4 ≤ 4) => ?_) (fun (q25 : ¬ (4 ≤ 4)) => by exfalso; omega)
          refine wi_iload_n (i := 3) (e := z21) (nx := 33) (r1 := 0) (r2 := 0) (r3 := 0) rfl rfl ?_
          refine wi_ireturn (nx := 34) (r1 := 0) (r2 := 0) (r3 := 0) rfl rfl ?_
          exact k z21 (by omega) (Or.inr ⟨3, by decide, y20_0.symm⟩)
        ·
          refine wi_iload_n (i := 0) (e := z9) (nx := 6) (r1 := 0) (r2 := 0) (r3 := 0) rfl rfl ?_
          refine wi_goto (nx := 9) (r1 := 10) (r2 := 0) (r3 := 0) rfl ?_
          refine wi_ireturn (nx := 11) (r1 := 0) (r2 := 0) (r3 := 0) rfl rfl ?_
          refine wk_i ?_
          refine wi_istore_n (i := 3) (e := z9) (lo2 := [(3, vi z9), (4, vi 3), (0, .ref 236), (1, vi a0), (2, vi a1)]) (nx := 26) (r1 := 0) (r2 := 0) (r3 := 0) rfl rfl ?_
          refine wr_iincL (i := 4) (n := 1) (v := 3) (4) ([(4, vi 4), (3, vi z9), (0, .ref 236), (1, vi a0), (2, vi a1)]) (nx := 29) (r1 := 0) (r2 := 0) (r3 := 0) rfl rfl (by decide) rfl ?_
          refine wi_goto (nx := 32) (r1 := 7) (r2 := 0) (r3 := 0) rfl ?_
          refine wi_iload (i := 4) (e := 4) (nx := 9) (r1 := 0) (r2 := 0) (r3 := 0) rfl rfl ?_
          refine wi_iconst (n := 4) (nx := 10) (r1 := 0) (r2 := 0) (r3 := 0) rfl ?_
          refine wi_icmp (cd := .ge) (nx := 13) (r1 := 32) (r2 := 0) (r3 := 0) rfl (by omega) (by omega) (fun (q25 : 4 ≤ 4) => ?_) (fun (q25 : ¬ (4 ≤ 4)) => by exfalso; omega)
          refine wi_iload_n (i := 3) (e := z9) (nx := 33) (r1 := 0) (r2 := 0) (r3 := 0) rfl rfl ?_
          refine wi_ireturn (nx := 34) (r1 := 0) (r2 := 0) (r3 := 0) rfl rfl ?_
          exact k z9 (by omega) (Or.inr ⟨1, by decide, y8_0.symm⟩)
    ·
      refine wi_iload_n (i := 0) (e := 1000000) (nx := 6) (r1 := 0) (r2 := 0) (r3 := 0) rfl rfl ?_
      refine wi_goto (nx := 9) (r1 := 10) (r2 := 0) (r3 := 0) rfl ?_
      refine wi_ireturn (nx := 11) (r1 := 0) (r2 := 0) (r3 := 0) rfl rfl ?_
      refine wk_i ?_
      refine wi_istore_n (i := 3) (e := 1000000) (lo2 := [(3, vi 1000000), (4, vi 1), (0, .ref 236), (1, vi a0), (2, vi a1)]) (nx := 26) (r1 := 0) (r2 := 0) (r3 := 0) rfl rfl ?_
      refine wr_iincL (i := 4) (n := 1) (v := 1) (2) ([(4, vi 2), (3, vi 1000000), (0, .ref 236), (1, vi a0), (2, vi a1)]) (nx := 29) (r1 := 0) (r2 := 0) (r3 := 0) rfl rfl (by decide) rfl ?_
      refine wi_goto (nx := 32) (r1 := 7) (r2 := 0) (r3 := 0) rfl ?_
      refine wi_iload (i := 4) (e := 2) (nx := 9) (r1 := 0) (r2 := 0) (r3 := 0) rfl rfl ?_
      refine wi_iconst (n := 4) (nx := 10) (r1 := 0) (r2 := 0) (r3 := 0) rfl ?_
      refine wi_icmp (cd := .ge) (nx := 13) (r1 := 32) (r2 := 0) (r3 := 0) rfl (by omega) (by omega) (fun (q13 : 4 ≤ 2) => by exfalso; omega) (fun (q13 : ¬ (4 ≤ 2)) => ?_)
      refine wi_iload_n (i := 3) (e := 1000000) (nx := 14) (r1 := 0) (r2 := 0) (r3 := 0) rfl rfl ?_
      refine wi_aload_n (i := 0) (x := 236) (nx := 15) (r1 := 0) (r2 := 0) (r3 := 0) rfl rfl ?_
      refine wi_iload (i := 4) (e := 2) (nx := 17) (r1 := 0) (r2 := 0) (r3 := 0) rfl rfl ?_
      refine wi_iload_n (i := 1) (e := a0) (nx := 18) (r1 := 0) (r2 := 0) (r3 := 0) rfl rfl ?_
      refine wi_iload_n (i := 2) (e := a1) (nx := 19) (r1 := 0) (r2 := 0) (r3 := 0) rfl rfl ?_
      refine wr_V (k0 := 236) (rest := [vi 1000000]) (as := [.ref 236, vi 2, vi a0, vi a1]) (nx := 22) (r1 := 305) (r2 := 3) (r3 := 11) rfl rfl rfl (of_decide_eq_true rfl) rfl rfl (by decide) rfl rfl (of_decide_eq_true rfl) (of_decide_eq_true rfl) ?_
      refine ct_305_236_L2 hcr  g a0 a1 (by omega) (by omega)  (fun z15  (fz15 : 0 ≤ z15 ∧ z15 ≤ 1099900) (p14_0 : z15 = 1000000 ∨ (h 247 2) < (h 238 100)) y14_0 => ?_)
      have b16 := gi_b (lo := 0) (hi := 6) g 247 2 rfl
      have b17 := gi_b (lo := 0) (hi := 6) g 238 100 rfl
      refine wk_i ?_
      refine wi_S (rest := []) (as := [vi 1000000, vi z15]) (nx := 25) (r1 := 309) (r2 := 18) (r3 := 0) rfl rfl rfl (of_decide_eq_true rfl) rfl rfl (of_decide_eq_true rfl) (of_decide_eq_true rfl) ?_
      refine wi_iload_n (i := 0) (e := 1000000) (nx := 1) (r1 := 0) (r2 := 0) (r3 := 0) rfl rfl ?_
      refine wi_iload_n (i := 1) (e := z15) (nx := 2) (r1 := 0) (r2 := 0) (r3 := 0) rfl rfl ?_
      refine wi_icmp (cd := .ge) (nx := 5) (r1 := 9) (r2 := 0) (r3 := 0) rfl (by omega) (by omega) (fun (q18 : z15 ≤ 1000000) => ?_) (fun (q18 : ¬ (z15 ≤ 1000000)) => ?_)
      ·
        refine wi_iload_n (i := 1) (e := z15) (nx := 10) (r1 := 0) (r2 := 0) (r3 := 0) rfl rfl ?_
        refine wi_ireturn (nx := 11) (r1 := 0) (r2 := 0) (r3 := 0) rfl rfl ?_
        refine wk_i ?_
        refine wi_istore_n (i := 3) (e := z15) (lo2 := [(3, vi z15), (4, vi 2), (0, .ref 236), (1, vi a0), (2, vi a1)]) (nx := 26) (r1 := 0) (r2 := 0) (r3 := 0) rfl rfl ?_
        refine wr_iincL (i := 4) (n := 1) (v := 2) (3) ([(4, vi 3), (3, vi z15), (0, .ref 236), (1, vi a0), (2, vi a1)]) (nx := 29) (r1 := 0) (r2 := 0) (r3 := 0) rfl rfl (by decide) rfl ?_
        refine wi_goto (nx := 32) (r1 := 7) (r2 := 0) (r3 := 0) rfl ?_
        refine wi_iload (i := 4) (e := 3) (nx := 9) (r1 := 0) (r2 := 0) (r3 := 0) rfl rfl ?_
        refine wi_iconst (n := 4) (nx := 10) (r1 := 0) (r2 := 0) (r3 := 0) rfl ?_
        refine wi_icmp (cd := .ge) (nx := 13) (r1 := 32) (r2 := 0) (r3 := 0) rfl (by omega) (by omega) (fun (q19 : 4 ≤ 3) => by exfalso; omega) (fun (q19 : ¬ (4 ≤ 3)) => ?_)
        refine wi_iload_n (i := 3) (e := z15) (nx := 14) (r1 := 0) (r2 := 0) (r3 := 0) rfl rfl ?_
        refine wi_aload_n (i := 0) (x := 236) (nx := 15) (r1 := 0) (r2 := 0) (r3 := 0) rfl rfl ?_
        refine wi_iload (i := 4) (e := 3) (nx := 17) (r1 := 0) (r2 := 0) (r3 := 0) rfl rfl ?_
        refine wi_iload_n (i := 1) (e := a0) (nx := 18) (r1 := 0) (r2 := 0) (r3 := 0) rfl rfl ?_
        refine wi_iload_n (i := 2) (e := a1) (nx := 19) (r1 := 0) (r2 := 0) (r3 := 0) rfl rfl ?_
        refine wr_V (k0 := 236) (rest := [vi z15]) (as := [.ref 236, vi 3, vi a0, vi a1]) (nx := 22) (r1 := 305) (r2 := 3) (r3 := 11) rfl rfl rfl (of_decide_eq_true rfl) rfl rfl (by decide) rfl rfl (of_decide_eq_true rfl) (of_decide_eq_true rfl) ?_
        refine ct_305_236_L3 hcr  g a0 a1 (by omega) (by omega)  (fun z21  (fz21 : 0 ≤ z21 ∧ z21 ≤ 1099900) (p20_0 : z21 = 1000000 ∨ (h 247 3) < (h 238 101)) y20_0 => ?_)
        have b22 := gi_b (lo := 0) (hi := 6) g 247 3 rfl
        have b23 := gi_b (lo := 0) (hi := 6) g 238 101 rfl
        refine wk_i ?_
        refine wi_S (rest := []) (as := [vi z15, vi z21]) (nx := 25) (r1 := 309) (r2 := 18) (r3 := 0) rfl rfl rfl (of_decide_eq_true rfl) rfl rfl (of_decide_eq_true rfl) (of_decide_eq_true rfl) ?_
        refine wi_iload_n (i := 0) (e := z15) (nx := 1) (r1 := 0) (r2 := 0) (r3 := 0) rfl rfl ?_
        refine wi_iload_n (i := 1) (e := z21) (nx := 2) (r1 := 0) (r2 := 0) (r3 := 0) rfl rfl ?_
        refine wi_icmp (cd := .ge) (nx := 5) (r1 := 9) (r2 := 0) (r3 := 0) rfl (by omega) (by omega) (fun (q24 : z21 ≤ z15) => ?_) (fun (q24 : ¬ (z21 ≤ z15)) => ?_)
        ·
          refine wi_iload_n (i := 1) (e := z21) (nx := 10) (r1 := 0) (r2 := 0) (r3 := 0) rfl rfl ?_
          refine wi_ireturn (nx := 11) (r1 := 0) (r2 := 0) (r3 := 0) rfl rfl ?_
          refine wk_i ?_
          refine wi_istore_n (i := 3) (e := z21) (lo2 := [(3, vi z21), (4, vi 3), (0, .ref 236), (1, vi a0), (2, vi a1)]) (nx := 26) (r1 := 0) (r2 := 0) (r3 := 0) rfl rfl ?_
          refine wr_iincL (i := 4) (n := 1) (v := 3) (4) ([(4, vi 4), (3, vi z21), (0, .ref 236), (1, vi a0), (2, vi a1)]) (nx := 29) (r1 := 0) (r2 := 0) (r3 := 0) rfl rfl (by decide) rfl ?_
          refine wi_goto (nx := 32) (r1 := 7) (r2 := 0) (r3 := 0) rfl ?_
          refine wi_iload (i := 4) (e := 4) (nx := 9) (r1 := 0) (r2 := 0) (r3 := 0) rfl rfl ?_
          refine wi_iconst (n := 4) (nx := 10) (r1 := 0) (r2 := 0) (r3 := 0) rfl ?_
          refine wi_icmp (cd := .ge) (nx := 13) (r1 := 32) (r2 := 0) (r3 := 0) rfl (by omega) (by omega) (fun (q25 : 4 ≤ 4) => ?_) (fun (q25 : ¬ (4 ≤ 4)) => by exfalso; omega)
          refine wi_iload_n (i := 3) (e := z21) (nx := 33) (r1 := 0) (r2 := 0) (r3 := 0) rfl rfl ?_
          refine wi_ireturn (nx := 34) (r1 := 0) (r2 := 0) (r3 := 0) rfl rfl ?_
          exact k z21 (by omega) (Or.inr ⟨3, by decide, y20_0.symm⟩)
        ·
          refine wi_iload_n (i := 0) (e := z15) (nx := 6) (r1 := 0) (r2 := 0) (r3 := 0) rfl rfl ?_
          refine wi_goto (nx := 9) (r1 := 10) (r2 := 0) (r3 := 0) rfl ?_
          refine wi_ireturn (nx := 11) (r1 := 0) (r2 := 0) (r3 := 0) rfl rfl ?_
          refine wk_i ?_
          refine wi_istore_n (i := 3) (e := z15) (lo2 := [(3, vi z15), (4, vi 3), (0, .ref 236), (1, vi a0), (2, vi a1)]) (nx := 26) (r1 := 0) (r2 := 0) (r3 := 0) rfl rfl ?_
          refine wr_iincL (i := 4) (n := 1) (v := 3) (4) ([(4, vi 4), (3, vi z15), (0, .ref 236), (1, vi a0), (2, vi a1)]) (nx := 29) (r1 := 0) (r2 := 0) (r3 := 0) rfl rfl (by decide) rfl ?_
          refine wi_goto (nx := 32) (r1 := 7) (r2 := 0) (r3 := 0) rfl ?_
          refine wi_iload (i := 4) (e := 4) (nx := 9) (r1 := 0) (r2 := 0) (r3 := 0) rfl rfl ?_
          refine wi_iconst (n := 4) (nx := 10) (r1 := 0) (r2 := 0) (r3 := 0) rfl ?_
          refine wi_icmp (cd := .ge) (nx := 13) (r1 := 32) (r2 := 0) (r3 := 0) rfl (by omega) (by omega) (fun (q25 : 4 ≤ 4) => ?_) (fun (q25 : ¬ (4 ≤ 4)) => by exfalso; omega)
          refine wi_iload_n (i := 3) (e := z15) (nx := 33) (r1 := 0) (r2 := 0) (r3 := 0) rfl rfl ?_
          refine wi_ireturn (nx := 34) (r1 := 0) (r2 := 0) (r3 := 0) rfl rfl ?_
          exact k z15 (by omega) (Or.inr ⟨2, by decide, y14_0.symm⟩)
      ·
        refine wi_iload_n (i := 0) (e := 1000000) (nx := 6) (r1 := 0) (r2 := 0) (r3 := 0) rfl rfl ?_
        refine wi_goto (nx := 9) (r1 := 10) (r2 := 0) (r3 := 0) rfl ?_
        refine wi_ireturn (nx := 11) (r1 := 0) (r2 := 0) (r3 := 0) rfl rfl ?_
        refine wk_i ?_
        refine wi_istore_n (i := 3) (e := 1000000) (lo2 := [(3, vi 1000000), (4, vi 2), (0, .ref 236), (1, vi a0), (2, vi a1)]) (nx := 26) (r1 := 0) (r2 := 0) (r3 := 0) rfl rfl ?_
        refine wr_iincL (i := 4) (n := 1) (v := 2) (3) ([(4, vi 3), (3, vi 1000000), (0, .ref 236), (1, vi a0), (2, vi a1)]) (nx := 29) (r1 := 0) (r2 := 0) (r3 := 0) rfl rfl (by decide) rfl ?_
        refine wi_goto (nx := 32) (r1 := 7) (r2 := 0) (r3 := 0) rfl ?_
        refine wi_iload (i := 4) (e := 3) (nx := 9) (r1 := 0) (r2 := 0) (r3 := 0) rfl rfl ?_
        refine wi_iconst (n := 4) (nx := 10) (r1 := 0) (r2 := 0) (r3 := 0) rfl ?_
        refine wi_icmp (cd := .ge) (nx := 13) (r1 := 32) (r2 := 0) (r3 := 0) rfl (by omega) (by omega) (fun (q19 : 4 ≤ 3) => by exfalso; omega) (fun (q19 : ¬ (4 ≤ 3)) => ?_)
        refine wi_iload_n (i := 3) (e := 1000000) (nx := 14) (r1 := 0) (r2 := 0) (r3 := 0) rfl rfl ?_
        refine wi_aload_n (i := 0) (x := 236) (nx := 15) (r1 := 0) (r2 := 0) (r3 := 0) rfl rfl ?_
        refine wi_iload (i := 4) (e := 3) (nx := 17) (r1 := 0) (r2 := 0) (r3 := 0) rfl rfl ?_
        refine wi_iload_n (i := 1) (e := a0) (nx := 18) (r1 := 0) (r2 := 0) (r3 := 0) rfl rfl ?_
        refine wi_iload_n (i := 2) (e := a1) (nx := 19) (r1 := 0) (r2 := 0) (r3 := 0) rfl rfl ?_
        refine wr_V (k0 := 236) (rest := [vi 1000000]) (as := [.ref 236, vi 3, vi a0, vi a1]) (nx := 22) (r1 := 305) (r2 := 3) (r3 := 11) rfl rfl rfl (of_decide_eq_true rfl) rfl rfl (by decide) rfl rfl (of_decide_eq_true rfl) (of_decide_eq_true rfl) ?_
        refine ct_305_236_L3 hcr  g a0 a1 (by omega) (by omega)  (fun z21  (fz21 : 0 ≤ z21 ∧ z21 ≤ 1099900) (p20_0 : z21 = 1000000 ∨ (h 247 3) < (h 238 101)) y20_0 => ?_)
        have b22 := gi_b (lo := 0) (hi := 6) g 247 3 rfl
        have b23 := gi_b (lo := 0) (hi := 6) g 238 101 rfl
        refine wk_i ?_
        refine wi_S (rest := []) (as := [vi 1000000, vi z21]) (nx := 25) (r1 := 309) (r2 := 18) (r3 := 0) rfl rfl rfl (of_decide_eq_true rfl) rfl rfl (of_decide_eq_true rfl) (of_decide_eq_true rfl) ?_
        refine wi_iload_n (i := 0) (e := 1000000) (nx := 1) (r1 := 0) (r2 := 0) (r3 := 0) rfl rfl ?_
        refine wi_iload_n (i := 1) (e := z21) (nx := 2) (r1 := 0) (r2 := 0) (r3 := 0) rfl rfl ?_
        refine wi_icmp (cd := .ge) (nx := 5) (r1 := 9) (r2 := 0) (r3 := 0) rfl (by omega) (by omega) (fun (q24 : z21 ≤ 1000000) => ?_) (fun (q24 : ¬ (z21 ≤ 1000000)) => ?_)
        ·
          refine wi_iload_n (i := 1) (e := z21) (nx := 10) (r1 := 0) (r2 := 0) (r3 := 0) rfl rfl ?_
          refine wi_ireturn (nx := 11) (r1 := 0) (r2 := 0) (r3 := 0) rfl rfl ?_
          refine wk_i ?_
          refine wi_istore_n (i := 3) (e := z21) (lo2 := [(3, vi z21), (4, vi 3), (0, .ref 236), (1, vi a0), (2, vi a1)]) (nx := 26) (r1 := 0) (r2 := 0) (r3 := 0) rfl rfl ?_
          refine wr_iincL (i := 4) (n := 1) (v := 3) (4) ([(4, vi 4), (3, vi z21), (0, .ref 236), (1, vi a0), (2, vi a1)]) (nx := 29) (r1 := 0) (r2 := 0) (r3 := 0) rfl rfl (by decide) rfl ?_
          refine wi_goto (nx := 32) (r1 := 7) (r2 := 0) (r3 := 0) rfl ?_
          refine wi_iload (i := 4) (e := 4) (nx := 9) (r1 := 0) (r2 := 0) (r3 := 0) rfl rfl ?_
          refine wi_iconst (n := 4) (nx := 10) (r1 := 0) (r2 := 0) (r3 := 0) rfl ?_
          refine wi_icmp (cd := .ge) (nx := 13) (r1 := 32) (r2 := 0) (r3 := 0) rfl (by omega) (by omega) (fun (q25 : 4 ≤ 4) => ?_) (fun (q25 : ¬ (4 ≤ 4)) => by exfalso; omega)
          refine wi_iload_n (i := 3) (e := z21) (nx := 33) (r1 := 0) (r2 := 0) (r3 := 0) rfl rfl ?_
          refine wi_ireturn (nx := 34) (r1 := 0) (r2 := 0) (r3 := 0) rfl rfl ?_
          exact k z21 (by omega) (Or.inr ⟨3, by decide, y20_0.symm⟩)
        ·
          refine wi_iload_n (i := 0) (e := 1000000) (nx := 6) (r1 := 0) (r2 := 0) (r3 := 0) rfl rfl ?_
          refine wi_goto (nx := 9) (r1 := 10) (r2 := 0) (r3 := 0) rfl ?_
          refine wi_ireturn (nx := 11) (r1 := 0) (r2 := 0) (r3 := 0) rfl rfl ?_
          refine wk_i ?_
          refine wi_istore_n (i := 3) (e := 1000000) (lo2 := [(3, vi 1000000), (4, vi 3), (0, .ref 236), (1, vi a0), (2, vi a1)]) (nx := 26) (r1 := 0) (r2 := 0) (r3 := 0) rfl rfl ?_
          refine wr_iincL (i := 4) (n := 1) (v := 3) (4) ([(4, vi 4), (3, vi 1000000), (0, .ref 236), (1, vi a0), (2, vi a1)]) (nx := 29) (r1 := 0) (r2 := 0) (r3 := 0) rfl rfl (by decide) rfl ?_
          refine wi_goto (nx := 32) (r1 := 7) (r2 := 0) (r3 := 0) rfl ?_
          refine wi_iload (i := 4) (e := 4) (nx := 9) (r1 := 0) (r2 := 0) (r3 := 0) rfl rfl ?_
          refine wi_iconst (n := 4) (nx := 10) (r1 := 0) (r2 := 0) (r3 := 0) rfl ?_
          refine wi_icmp (cd := .ge) (nx := 13) (r1 := 32) (r2 := 0) (r3 := 0) rfl (by omega) (by omega) (fun (q25 : 4 ≤ 4) => ?_) (fun (q25 : ¬ (4 ≤ 4)) => by exfalso; omega)
          refine wi_iload_n (i := 3) (e := 1000000) (nx := 33) (r1 := 0) (r2 := 0) (r3 := 0) rfl rfl ?_
          refine wi_ireturn (nx := 34) (r1 := 0) (r2 := 0) (r3 := 0) rfl rfl ?_
          exact k 1000000 (by omega) (Or.inl rfl)
