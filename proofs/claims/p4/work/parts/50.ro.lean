-- method 305: Model.by(III)I
set_option maxRecDepth 100000 in
set_option maxHeartbeats 100000000 in
theorem ct_305_236_L0 {L : Nat} {xs : Nat → Int32} {d b c : Nat} {h : hp} {cr : Nat → Nat → Option Nat} {Q : hp_Q} (hcr : CR cr)  (g : GI h) (a0 : Int) (a1 : Int) (q0_ : 0 ≤ a0 ∧ a0 ≤ 5) (q1_ : 0 ≤ a1 ∧ a1 ≤ 9)  (k : ∀ (z0 : Int), (0 ≤ z0 ∧ z0 ≤ 1099900) → (z0 = 1000000 ∨ h 247 0 < h 238 98) → (z0 = u_by (h 238) (h 246) (h 247) 0 a0 a1) → Q (.inl (some (vi z0))) (hp_w h cr) b c) : wp (md_xa (L, xs)) (d + 1) 305 (0, [(0, .ref 236), (1, vi 0), (2, vi a0), (3, vi a1)], [], hp_w h cr, b, c) Q := by
  have F0 : FR [] h h := FR.refl
  refine wi_aload_n (i := 0) (x := 236) (nx := 1) (r1 := 0) (r2 := 0) (r3 := 0) rfl rfl ?_
  refine wr_gr (k0 := 236) (x := 247) (nx := 4) (r1 := 11) (r2 := 30) (r3 := 0) rfl rfl (by decide) rfl ⟨rfl, rfl⟩ rfl ?_
  refine wi_iload_n (i := 1) (e := 0) (nx := 5) (r1 := 0) (r2 := 0) (r3 := 0) rfl rfl ?_
  have b1 := gi_b (lo := 0) (hi := 6) g 247 0 rfl
  refine wr_ia (k0 := 247) (a := 0) (f := 0) (x := h 247 0) (nx := 6) (r1 := 0) (r2 := 0) (r3 := 0) rfl (by decide) rfl (by omega) (by omega) (by decide) rfl ?_
  refine wi_aload_n (i := 0) (x := 236) (nx := 7) (r1 := 0) (r2 := 0) (r3 := 0) rfl rfl ?_
  refine wr_gr (k0 := 236) (x := 238) (nx := 10) (r1 := 11) (r2 := 13) (r3 := 0) rfl rfl (by decide) rfl ⟨rfl, rfl⟩ rfl ?_
  refine wi_bipush (n := 98) (nx := 12) (r1 := 0) (r2 := 0) (r3 := 0) rfl (by decide) ?_
  refine wi_iload_n (i := 1) (e := 0) (nx := 13) (r1 := 0) (r2 := 0) (r3 := 0) rfl rfl ?_
  refine wr_addL (98) (nx := 14) (r1 := 0) (r2 := 0) (r3 := 0) rfl (by decide) ?_
  have b2 := gi_b (lo := 0) (hi := 6) g 238 98 rfl
  refine wr_ia (k0 := 238) (a := 98) (f := 98) (x := h 238 98) (nx := 15) (r1 := 0) (r2 := 0) (r3 := 0) rfl (by decide) rfl (by omega) (by omega) (by decide) rfl ?_
  refine wi_icmp (cd := .lt) (nx := 18) (r1 := 22) (r2 := 0) (r3 := 0) rfl (by omega) (by omega) (fun (q3 : (h 247 0) < (h 238 98)) => ?_) (fun (q3 : ¬ ((h 247 0) < (h 238 98))) => ?_)
  ·
    refine wi_aload_n (i := 0) (x := 236) (nx := 23) (r1 := 0) (r2 := 0) (r3 := 0) rfl rfl ?_
    refine wi_iload_n (i := 1) (e := 0) (nx := 24) (r1 := 0) (r2 := 0) (r3 := 0) rfl rfl ?_
    refine wi_aload_n (i := 0) (x := 236) (nx := 25) (r1 := 0) (r2 := 0) (r3 := 0) rfl rfl ?_
    refine wr_gr (k0 := 236) (x := 247) (nx := 28) (r1 := 11) (r2 := 30) (r3 := 0) rfl rfl (by decide) rfl ⟨rfl, rfl⟩ rfl ?_
    refine wi_iload_n (i := 1) (e := 0) (nx := 29) (r1 := 0) (r2 := 0) (r3 := 0) rfl rfl ?_
    refine wr_ia (k0 := 247) (a := 0) (f := 0) (x := h 247 0) (nx := 30) (r1 := 0) (r2 := 0) (r3 := 0) rfl (by decide) rfl (by omega) (by omega) (by decide) rfl ?_
    refine wr_V (k0 := 236) (rest := []) (as := [.ref 236, vi 0, vi (h 247 0)]) (nx := 33) (r1 := 258) (r2 := 2) (r3 := 11) rfl rfl rfl (of_decide_eq_true rfl) rfl rfl (by decide) rfl rfl (of_decide_eq_true rfl) (of_decide_eq_true rfl) ?_
    refine wi_aload_n (i := 0) (x := 236) (nx := 1) (r1 := 0) (r2 := 0) (r3 := 0) rfl rfl ?_
    refine wr_gr (k0 := 236) (x := 238) (nx := 4) (r1 := 11) (r2 := 13) (r3 := 0) rfl rfl (by decide) rfl ⟨rfl, rfl⟩ rfl ?_
    refine wi_bipush (n := 74) (nx := 6) (r1 := 0) (r2 := 0) (r3 := 0) rfl (by decide) ?_
    refine wi_bipush (n := 6) (nx := 8) (r1 := 0) (r2 := 0) (r3 := 0) rfl (by decide) ?_
    refine wi_iload_n (i := 1) (e := 0) (nx := 9) (r1 := 0) (r2 := 0) (r3 := 0) rfl rfl ?_
    refine wr_mulL (0) (nx := 10) (r1 := 0) (r2 := 0) (r3 := 0) rfl (by decide) ?_
    refine wr_addL (74) (nx := 11) (r1 := 0) (r2 := 0) (r3 := 0) rfl (by decide) ?_
    refine wi_iload_n (i := 2) (e := h 247 0) (nx := 12) (r1 := 0) (r2 := 0) (r3 := 0) rfl rfl ?_
    refine wr_add (nx := 13) (r1 := 0) (r2 := 0) (r3 := 0) rfl (fun e4 (fe4 : e4 = 74 + (h 247 0)) => ?_)
    obtain ⟨i5, ei5⟩ : ∃ q : Nat, e4 = (q : Int) := ⟨(e4).toNat, by omega⟩
    have b6 := gi_b (lo := 0) (hi := 11) g 238 i5 (gi_rg 74 6 (fun _ => rfl) (by decide +kernel) (by omega))
    refine wr_ia (k0 := 238) (a := e4) (f := i5) (x := h 238 i5) (nx := 14) (r1 := 0) (r2 := 0) (r3 := 0) rfl (by decide) rfl (by omega) (by omega) (by decide) rfl ?_
    refine wi_ireturn (nx := 15) (r1 := 0) (r2 := 0) (r3 := 0) rfl rfl ?_
    refine wk_i ?_
    refine wi_istore (i := 4) (e := h 238 i5) (lo2 := [(4, vi (h 238 i5)), (0, .ref 236), (1, vi 0), (2, vi a0), (3, vi a1)]) (nx := 35) (r1 := 0) (r2 := 0) (r3 := 0) rfl rfl ?_
    refine wi_aload_n (i := 0) (x := 236) (nx := 36) (r1 := 0) (r2 := 0) (r3 := 0) rfl rfl ?_
    refine wr_gr (k0 := 236) (x := 238) (nx := 39) (r1 := 11) (r2 := 13) (r3 := 0) rfl rfl (by decide) rfl ⟨rfl, rfl⟩ rfl ?_
    refine wi_bipush (n := 106) (nx := 41) (r1 := 0) (r2 := 0) (r3 := 0) rfl (by decide) ?_
    have b7 := gi_b (lo := 0) (hi := 12) g 238 106 rfl
    refine wr_ia (k0 := 238) (a := 106) (f := 106) (x := h 238 106) (nx := 42) (r1 := 0) (r2 := 0) (r3 := 0) rfl (by decide) rfl (by omega) (by omega) (by decide) rfl ?_
    refine wi_aload_n (i := 0) (x := 236) (nx := 43) (r1 := 0) (r2 := 0) (r3 := 0) rfl rfl ?_
    refine wr_V (k0 := 236) (rest := [vi (h 238 106)]) (as := [.ref 236]) (nx := 46) (r1 := 303) (r2 := 0) (r3 := 11) rfl rfl rfl (of_decide_eq_true rfl) rfl rfl (by decide) rfl rfl (of_decide_eq_true rfl) (of_decide_eq_true rfl) ?_
    refine wi_aload_n (i := 0) (x := 236) (nx := 1) (r1 := 0) (r2 := 0) (r3 := 0) rfl rfl ?_
    refine wr_gr (k0 := 236) (x := 247) (nx := 4) (r1 := 11) (r2 := 30) (r3 := 0) rfl rfl (by decide) rfl ⟨rfl, rfl⟩ rfl ?_
    refine wi_iconst (n := 0) (nx := 5) (r1 := 0) (r2 := 0) (r3 := 0) rfl ?_
    refine wr_ia (k0 := 247) (a := 0) (f := 0) (x := h 247 0) (nx := 6) (r1 := 0) (r2 := 0) (r3 := 0) rfl (by decide) rfl (by omega) (by omega) (by decide) rfl ?_
    refine wi_aload_n (i := 0) (x := 236) (nx := 7) (r1 := 0) (r2 := 0) (r3 := 0) rfl rfl ?_
    refine wr_gr (k0 := 236) (x := 247) (nx := 10) (r1 := 11) (r2 := 30) (r3 := 0) rfl rfl (by decide) rfl ⟨rfl, rfl⟩ rfl ?_
    refine wi_iconst (n := 1) (nx := 11) (r1 := 0) (r2 := 0) (r3 := 0) rfl ?_
    have b8 := gi_b (lo := 0) (hi := 6) g 247 1 rfl
    refine wr_ia (k0 := 247) (a := 1) (f := 1) (x := h 247 1) (nx := 12) (r1 := 0) (r2 := 0) (r3 := 0) rfl (by decide) rfl (by omega) (by omega) (by decide) rfl ?_
    refine wr_add (nx := 13) (r1 := 0) (r2 := 0) (r3 := 0) rfl (fun e9 (fe9 : e9 = (h 247 0) + (h 247 1)) => ?_)
    refine wi_aload_n (i := 0) (x := 236) (nx := 14) (r1 := 0) (r2 := 0) (r3 := 0) rfl rfl ?_
    refine wr_gr (k0 := 236) (x := 247) (nx := 17) (r1 := 11) (r2 := 30) (r3 := 0) rfl rfl (by decide) rfl ⟨rfl, rfl⟩ rfl ?_
    refine wi_iconst (n := 2) (nx := 18) (r1 := 0) (r2 := 0) (r3 := 0) rfl ?_
    have b10 := gi_b (lo := 0) (hi := 6) g 247 2 rfl
    refine wr_ia (k0 := 247) (a := 2) (f := 2) (x := h 247 2) (nx := 19) (r1 := 0) (r2 := 0) (r3 := 0) rfl (by decide) rfl (by omega) (by omega) (by decide) rfl ?_
    refine wr_add (nx := 20) (r1 := 0) (r2 := 0) (r3 := 0) rfl (fun e11 (fe11 : e11 = e9 + (h 247 2)) => ?_)
    refine wi_aload_n (i := 0) (x := 236) (nx := 21) (r1 := 0) (r2 := 0) (r3 := 0) rfl rfl ?_
    refine wr_gr (k0 := 236) (x := 247) (nx := 24) (r1 := 11) (r2 := 30) (r3 := 0) rfl rfl (by decide) rfl ⟨rfl, rfl⟩ rfl ?_
    refine wi_iconst (n := 3) (nx := 25) (r1 := 0) (r2 := 0) (r3 := 0) rfl ?_
    have b12 := gi_b (lo := 0) (hi := 6) g 247 3 rfl
    refine wr_ia (k0 := 247) (a := 3) (f := 3) (x := h 247 3) (nx := 26) (r1 := 0) (r2 := 0) (r3 := 0) rfl (by decide) rfl (by omega) (by omega) (by decide) rfl ?_
    refine wr_add (nx := 27) (r1 := 0) (r2 := 0) (r3 := 0) rfl (fun e13 (fe13 : e13 = e11 + (h 247 3)) => ?_)
    refine wi_ireturn (nx := 28) (r1 := 0) (r2 := 0) (r3 := 0) rfl rfl ?_
    refine wk_i ?_
    refine wr_add (nx := 47) (r1 := 0) (r2 := 0) (r3 := 0) rfl (fun e14 (fe14 : e14 = (h 238 106) + e13) => ?_)
    refine wi_istore (i := 5) (e := e14) (lo2 := [(5, vi e14), (4, vi (h 238 i5)), (0, .ref 236), (1, vi 0), (2, vi a0), (3, vi a1)]) (nx := 49) (r1 := 0) (r2 := 0) (r3 := 0) rfl rfl ?_
    refine wi_iload (i := 5) (e := e14) (nx := 51) (r1 := 0) (r2 := 0) (r3 := 0) rfl rfl ?_
    refine wi_i2l (nx := 52) (r1 := 0) (r2 := 0) (r3 := 0) rfl (by omega) ?_
    refine wi_iload (i := 4) (e := h 238 i5) (nx := 54) (r1 := 0) (r2 := 0) (r3 := 0) rfl rfl ?_
    refine wi_aload_n (i := 0) (x := 236) (nx := 55) (r1 := 0) (r2 := 0) (r3 := 0) rfl rfl ?_
    refine wr_gr (k0 := 236) (x := 238) (nx := 58) (r1 := 11) (r2 := 13) (r3 := 0) rfl rfl (by decide) rfl ⟨rfl, rfl⟩ rfl ?_
    refine wi_iconst (n := 3) (nx := 59) (r1 := 0) (r2 := 0) (r3 := 0) rfl ?_
    have b15 := gi_b (lo := 0) (hi := 999) g 238 3 rfl
    refine wr_ia (k0 := 238) (a := 3) (f := 3) (x := h 238 3) (nx := 60) (r1 := 0) (r2 := 0) (r3 := 0) rfl (by decide) rfl (by omega) (by omega) (by decide) rfl ?_
    refine wr_sub (nx := 61) (r1 := 0) (r2 := 0) (r3 := 0) rfl (fun e16 (fe16 : e16 = (h 238 i5) - (h 238 3)) => ?_)
    refine wi_i2l (nx := 62) (r1 := 0) (r2 := 0) (r3 := 0) rfl (by omega) ?_
    refine wi_iload (i := 4) (e := h 238 i5) (nx := 64) (r1 := 0) (r2 := 0) (r3 := 0) rfl rfl ?_
    refine wi_aload_n (i := 0) (x := 236) (nx := 65) (r1 := 0) (r2 := 0) (r3 := 0) rfl rfl ?_
    refine wr_gr (k0 := 236) (x := 238) (nx := 68) (r1 := 11) (r2 := 13) (r3 := 0) rfl rfl (by decide) rfl ⟨rfl, rfl⟩ rfl ?_
    refine wi_iconst (n := 4) (nx := 69) (r1 := 0) (r2 := 0) (r3 := 0) rfl ?_
    have b17 := gi_b (lo := 0) (hi := 999) g 238 4 rfl
    refine wr_ia (k0 := 238) (a := 4) (f := 4) (x := h 238 4) (nx := 70) (r1 := 0) (r2 := 0) (r3 := 0) rfl (by decide) rfl (by omega) (by omega) (by decide) rfl ?_
    refine wr_add (nx := 71) (r1 := 0) (r2 := 0) (r3 := 0) rfl (fun e18 (fe18 : e18 = (h 238 i5) + (h 238 4)) => ?_)
    refine wi_i2l (nx := 72) (r1 := 0) (r2 := 0) (r3 := 0) rfl (by omega) ?_
    refine wi_S (rest := []) (as := [vl e14, vl e16, vl e18]) (nx := 75) (r1 := 210) (r2 := 19) (r3 := 0) rfl rfl rfl (of_decide_eq_true rfl) rfl rfl (of_decide_eq_true rfl) (of_decide_eq_true rfl) ?_
    refine wi_lload_n (i := 0) (e := e14) (nx := 1) (r1 := 0) (r2 := 0) (r3 := 0) rfl rfl ?_
    refine wi_lload_n (i := 2) (e := e16) (nx := 2) (r1 := 0) (r2 := 0) (r3 := 0) rfl rfl ?_
    refine wi_lcmp (a := e14) (e := e16) (nx := 3) (r1 := 0) (r2 := 0) (r3 := 0) rfl (by omega) (by omega) (fun r19 (fr19 : (r19 = -1 ∧ e14 < e16) ∨ (r19 = 0 ∧ e14 = e16) ∨ (r19 = 1 ∧ e16 < e14)) => ?_)
    refine wi_if (cd := .lt) (nx := 6) (r1 := 17) (r2 := 0) (r3 := 0) rfl (by omega) (fun (q20 : r19 < 0) => ?_) (fun (q20 : ¬ (r19 < 0)) => ?_)
    ·
      refine wi_iconst (n := 0) (nx := 18) (r1 := 0) (r2 := 0) (r3 := 0) rfl ?_
      refine wi_zreturn (nx := 19) (r1 := 0) (r2 := 0) (r3 := 0) rfl rfl (by omega) ?_
      refine wk_i ?_
      refine wi_if (cd := .ne) (nx := 78) (r1 := 82) (r2 := 0) (r3 := 0) rfl (by omega) (fun (q21 : 0 ≠ 0) => by exfalso; omega) (fun (q21 : ¬ (0 ≠ 0)) => ?_)
      refine wi_ldc_w (e := 1000000) (nx := 81) (r1 := 0) (r2 := 1000000) (r3 := 0) rfl (by decide) ?_
      refine wi_ireturn (nx := 82) (r1 := 0) (r2 := 0) (r3 := 0) rfl rfl ?_
      exact k 1000000 (by omega) (show 1000000 = 1000000 ∨ (h 247 0) < (h 238 98) by omega) (by
          unfold u_by
          have cx_ : h 238 (98 + 0) = h 238 98 := rfl
          rw [if_neg (by omega)]
          rw [show 74 + 6 * 0 + (h 247 0).toNat = i5 by omega]
          unfold u_by1
          rw [if_pos (by omega)])
    ·
      refine wi_lload_n (i := 0) (e := e14) (nx := 7) (r1 := 0) (r2 := 0) (r3 := 0) rfl rfl ?_
      refine wi_lload (i := 4) (e := e18) (nx := 9) (r1 := 0) (r2 := 0) (r3 := 0) rfl rfl ?_
      refine wi_lcmp (a := e14) (e := e18) (nx := 10) (r1 := 0) (r2 := 0) (r3 := 0) rfl (by omega) (by omega) (fun r21 (fr21 : (r21 = -1 ∧ e14 < e18) ∨ (r21 = 0 ∧ e14 = e18) ∨ (r21 = 1 ∧ e18 < e14)) => ?_)
      refine wi_if (cd := .gt) (nx := 13) (r1 := 17) (r2 := 0) (r3 := 0) rfl (by omega) (fun (q22 : 0 < r21) => ?_) (fun (q22 : ¬ (0 < r21)) => ?_)
      ·
        refine wi_iconst (n := 0) (nx := 18) (r1 := 0) (r2 := 0) (r3 := 0) rfl ?_
        refine wi_zreturn (nx := 19) (r1 := 0) (r2 := 0) (r3 := 0) rfl rfl (by omega) ?_
        refine wk_i ?_
        refine wi_if (cd := .ne) (nx := 78) (r1 := 82) (r2 := 0) (r3 := 0) rfl (by omega) (fun (q23 : 0 ≠ 0) => by exfalso; omega) (fun (q23 : ¬ (0 ≠ 0)) => ?_)
        refine wi_ldc_w (e := 1000000) (nx := 81) (r1 := 0) (r2 := 1000000) (r3 := 0) rfl (by decide) ?_
        refine wi_ireturn (nx := 82) (r1 := 0) (r2 := 0) (r3 := 0) rfl rfl ?_
        exact k 1000000 (by omega) (show 1000000 = 1000000 ∨ (h 247 0) < (h 238 98) by omega) (by
            unfold u_by
            have cx_ : h 238 (98 + 0) = h 238 98 := rfl
            rw [if_neg (by omega)]
            rw [show 74 + 6 * 0 + (h 247 0).toNat = i5 by omega]
            unfold u_by1
            rw [if_pos (by omega)])
      ·
        refine wi_iconst (n := 1) (nx := 14) (r1 := 0) (r2 := 0) (r3 := 0) rfl ?_
        refine wi_goto (nx := 17) (r1 := 18) (r2 := 0) (r3 := 0) rfl ?_
        refine wi_zreturn (nx := 19) (r1 := 0) (r2 := 0) (r3 := 0) rfl rfl (by omega) ?_
        refine wk_i ?_
        refine wi_if (cd := .ne) (nx := 78) (r1 := 82) (r2 := 0) (r3 := 0) rfl (by omega) (fun (q23 : 1 ≠ 0) => ?_) (fun (q23 : ¬ (1 ≠ 0)) => by exfalso; omega)
        refine wi_aload_n (i := 0) (x := 236) (nx := 83) (r1 := 0) (r2 := 0) (r3 := 0) rfl rfl ?_
        refine wr_gr (k0 := 236) (x := 238) (nx := 86) (r1 := 11) (r2 := 13) (r3 := 0) rfl rfl (by decide) rfl ⟨rfl, rfl⟩ rfl ?_
        refine wi_bipush (n := 31) (nx := 88) (r1 := 0) (r2 := 0) (r3 := 0) rfl (by decide) ?_
        refine wi_iload (i := 4) (e := h 238 i5) (nx := 90) (r1 := 0) (r2 := 0) (r3 := 0) rfl rfl ?_
        refine wr_add (nx := 91) (r1 := 0) (r2 := 0) (r3 := 0) rfl (fun e24 (fe24 : e24 = 31 + (h 238 i5)) => ?_)
        obtain ⟨i25, ei25⟩ : ∃ q : Nat, e24 = (q : Int) := ⟨(e24).toNat, by omega⟩
        have b26 := gi_b (lo := 0) (hi := 4) g 238 i25 (gi_rg 31 12 (fun _ => rfl) (by decide +kernel) (by omega))
        refine wr_ia (k0 := 238) (a := e24) (f := i25) (x := h 238 i25) (nx := 92) (r1 := 0) (r2 := 0) (r3 := 0) rfl (by decide) rfl (by omega) (by omega) (by decide) rfl ?_
        refine wi_istore (i := 6) (e := h 238 i25) (lo2 := [(6, vi (h 238 i25)), (5, vi e14), (4, vi (h 238 i5)), (0, .ref 236), (1, vi 0), (2, vi a0), (3, vi a1)]) (nx := 94) (r1 := 0) (r2 := 0) (r3 := 0) rfl rfl ?_
        refine wi_iload (i := 6) (e := h 238 i25) (nx := 96) (r1 := 0) (r2 := 0) (r3 := 0) rfl rfl ?_
        refine wi_iload_n (i := 2) (e := a0) (nx := 97) (r1 := 0) (r2 := 0) (r3 := 0) rfl rfl ?_
        refine wi_icmp (cd := .ne) (nx := 100) (r1 := 114) (r2 := 0) (r3 := 0) rfl (by omega) (by omega) (fun (q27 : (h 238 i25) ≠ a0) => ?_) (fun (q27 : ¬ ((h 238 i25) ≠ a0)) => ?_)
        ·
          refine wi_iconst (n := 0) (nx := 115) (r1 := 0) (r2 := 0) (r3 := 0) rfl ?_
          refine wi_istore (i := 7) (e := 0) (lo2 := [(7, vi 0), (6, vi (h 238 i25)), (5, vi e14), (4, vi (h 238 i5)), (0, .ref 236), (1, vi 0), (2, vi a0), (3, vi a1)]) (nx := 117) (r1 := 0) (r2 := 0) (r3 := 0) rfl rfl ?_
          refine wi_iload_n (i := 2) (e := a0) (nx := 118) (r1 := 0) (r2 := 0) (r3 := 0) rfl rfl ?_
          refine wi_iconst (n := 5) (nx := 119) (r1 := 0) (r2 := 0) (r3 := 0) rfl ?_
          refine wi_icmp (cd := .eq) (nx := 122) (r1 := 146) (r2 := 0) (r3 := 0) rfl (by omega) (by omega) (fun (q28 : a0 = 5) => ?_) (fun (q28 : ¬ (a0 = 5)) => ?_)
          ·
            refine wi_iload (i := 7) (e := 0) (nx := 148) (r1 := 0) (r2 := 0) (r3 := 0) rfl rfl ?_
            refine wi_if (cd := .eq) (nx := 151) (r1 := 164) (r2 := 0) (r3 := 0) rfl (by omega) (fun (q29 : 0 = 0) => ?_) (fun (q29 : ¬ (0 = 0)) => by exfalso; omega)
            refine wi_iconst (n := 0) (nx := 165) (r1 := 0) (r2 := 0) (r3 := 0) rfl ?_
            refine wi_istore (i := 8) (e := 0) (lo2 := [(8, vi 0), (7, vi 0), (6, vi (h 238 i25)), (5, vi e14), (4, vi (h 238 i5)), (0, .ref 236), (1, vi 0), (2, vi a0), (3, vi a1)]) (nx := 167) (r1 := 0) (r2 := 0) (r3 := 0) rfl rfl ?_
            refine wi_aload_n (i := 0) (x := 236) (nx := 168) (r1 := 0) (r2 := 0) (r3 := 0) rfl rfl ?_
            refine wr_gr (k0 := 236) (x := 246) (nx := 171) (r1 := 11) (r2 := 29) (r3 := 0) rfl rfl (by decide) rfl ⟨rfl, rfl⟩ rfl ?_
            refine wi_aload_n (i := 0) (x := 236) (nx := 172) (r1 := 0) (r2 := 0) (r3 := 0) rfl rfl ?_
            refine wr_V (k0 := 236) (rest := [.ref 246]) (as := [.ref 236]) (nx := 175) (r1 := 306) (r2 := 0) (r3 := 11) rfl rfl rfl (of_decide_eq_true rfl) rfl rfl (by decide) rfl rfl (of_decide_eq_true rfl) (of_decide_eq_true rfl) ?_
            refine wi_bipush (n := 7) (nx := 2) (r1 := 0) (r2 := 0) (r3 := 0) rfl (by decide) ?_
            refine wi_aload_n (i := 0) (x := 236) (nx := 3) (r1 := 0) (r2 := 0) (r3 := 0) rfl rfl ?_
            refine wr_gr (k0 := 236) (x := 247) (nx := 6) (r1 := 11) (r2 := 30) (r3 := 0) rfl rfl (by decide) rfl ⟨rfl, rfl⟩ rfl ?_
            refine wi_iconst (n := 0) (nx := 7) (r1 := 0) (r2 := 0) (r3 := 0) rfl ?_
            refine wr_ia (k0 := 247) (a := 0) (f := 0) (x := h 247 0) (nx := 8) (r1 := 0) (r2 := 0) (r3 := 0) rfl (by decide) rfl (by omega) (by omega) (by decide) rfl ?_
            refine wr_mul (nx := 9) (r1 := 0) (r2 := 0) (r3 := 0) rfl (fun e30 (fe30 : e30 = 7 * (h 247 0)) => ?_)
            refine wi_aload_n (i := 0) (x := 236) (nx := 10) (r1 := 0) (r2 := 0) (r3 := 0) rfl rfl ?_
            refine wr_gr (k0 := 236) (x := 247) (nx := 13) (r1 := 11) (r2 := 30) (r3 := 0) rfl rfl (by decide) rfl ⟨rfl, rfl⟩ rfl ?_
            refine wi_iconst (n := 1) (nx := 14) (r1 := 0) (r2 := 0) (r3 := 0) rfl ?_
            refine wr_ia (k0 := 247) (a := 1) (f := 1) (x := h 247 1) (nx := 15) (r1 := 0) (r2 := 0) (r3 := 0) rfl (by decide) rfl (by omega) (by omega) (by decide) rfl ?_
            refine wr_add (nx := 16) (r1 := 0) (r2 := 0) (r3 := 0) rfl (fun e31 (fe31 : e31 = e30 + (h 247 1)) => ?_)
            refine wi_bipush (n := 7) (nx := 18) (r1 := 0) (r2 := 0) (r3 := 0) rfl (by decide) ?_
            refine wr_mul (nx := 19) (r1 := 0) (r2 := 0) (r3 := 0) rfl (fun e32 (fe32 : e32 = e31 * 7) => ?_)
            refine wi_aload_n (i := 0) (x := 236) (nx := 20) (r1 := 0) (r2 := 0) (r3 := 0) rfl rfl ?_
            refine wr_gr (k0 := 236) (x := 247) (nx := 23) (r1 := 11) (r2 := 30) (r3 := 0) rfl rfl (by decide) rfl ⟨rfl, rfl⟩ rfl ?_
            refine wi_iconst (n := 2) (nx := 24) (r1 := 0) (r2 := 0) (r3 := 0) rfl ?_
            refine wr_ia (k0 := 247) (a := 2) (f := 2) (x := h 247 2) (nx := 25) (r1 := 0) (r2 := 0) (r3 := 0) rfl (by decide) rfl (by omega) (by omega) (by decide) rfl ?_
            refine wr_add (nx := 26) (r1 := 0) (r2 := 0) (r3 := 0) rfl (fun e33 (fe33 : e33 = e32 + (h 247 2)) => ?_)
            refine wi_bipush (n := 7) (nx := 28) (r1 := 0) (r2 := 0) (r3 := 0) rfl (by decide) ?_
            refine wr_mul (nx := 29) (r1 := 0) (r2 := 0) (r3 := 0) rfl (fun e34 (fe34 : e34 = e33 * 7) => ?_)
            refine wi_aload_n (i := 0) (x := 236) (nx := 30) (r1 := 0) (r2 := 0) (r3 := 0) rfl rfl ?_
            refine wr_gr (k0 := 236) (x := 247) (nx := 33) (r1 := 11) (r2 := 30) (r3 := 0) rfl rfl (by decide) rfl ⟨rfl, rfl⟩ rfl ?_
            refine wi_iconst (n := 3) (nx := 34) (r1 := 0) (r2 := 0) (r3 := 0) rfl ?_
            refine wr_ia (k0 := 247) (a := 3) (f := 3) (x := h 247 3) (nx := 35) (r1 := 0) (r2 := 0) (r3 := 0) rfl (by decide) rfl (by omega) (by omega) (by decide) rfl ?_
            refine wr_add (nx := 36) (r1 := 0) (r2 := 0) (r3 := 0) rfl (fun e35 (fe35 : e35 = e34 + (h 247 3)) => ?_)
            refine wi_ireturn (nx := 37) (r1 := 0) (r2 := 0) (r3 := 0) rfl rfl ?_
            refine wk_i ?_
            refine wi_iload_n (i := 1) (e := 0) (nx := 176) (r1 := 0) (r2 := 0) (r3 := 0) rfl rfl ?_
            refine wi_S (rest := [vi e35, .ref 246]) (as := [vi 0]) (nx := 179) (r1 := 307) (r2 := 17) (r3 := 0) rfl rfl rfl (of_decide_eq_true rfl) rfl rfl (of_decide_eq_true rfl) (of_decide_eq_true rfl) ?_
            refine wi_iload_n (i := 0) (e := 0) (nx := 1) (r1 := 0) (r2 := 0) (r3 := 0) rfl rfl ?_
            refine wi_if (cd := .ne) (nx := 4) (r1 := 10) (r2 := 0) (r3 := 0) rfl (by omega) (fun (q36 : 0 ≠ 0) => by exfalso; omega) (fun (q36 : ¬ (0 ≠ 0)) => ?_)
            refine wi_sipush (n := 343) (nx := 7) (r1 := 0) (r2 := 0) (r3 := 0) rfl (by decide) ?_
            refine wi_goto (nx := 10) (r1 := 31) (r2 := 0) (r3 := 0) rfl ?_
            refine wi_ireturn (nx := 32) (r1 := 0) (r2 := 0) (r3 := 0) rfl rfl ?_
            refine wk_i ?_
            refine wr_add (nx := 180) (r1 := 0) (r2 := 0) (r3 := 0) rfl (fun e37 (fe37 : e37 = e35 + 343) => ?_)
            refine wi_iload (i := 6) (e := h 238 i25) (nx := 182) (r1 := 0) (r2 := 0) (r3 := 0) rfl rfl ?_
            refine wi_iload (i := 6) (e := h 238 i25) (nx := 184) (r1 := 0) (r2 := 0) (r3 := 0) rfl rfl ?_
            refine wi_iload_n (i := 2) (e := a0) (nx := 185) (r1 := 0) (r2 := 0) (r3 := 0) rfl rfl ?_
            refine wi_icmp (cd := .ne) (nx := 188) (r1 := 199) (r2 := 0) (r3 := 0) rfl (by omega) (by omega) (fun (q38 : (h 238 i25) ≠ a0) => ?_) (fun (q38 : ¬ ((h 238 i25) ≠ a0)) => by exfalso; omega)
            refine wi_iconst (n := 1) (nx := 200) (r1 := 0) (r2 := 0) (r3 := 0) rfl ?_
            refine wi_S (rest := [.ref 246]) (as := [vi e37, vi (h 238 i25), vi 1]) (nx := 203) (r1 := 308) (r2 := 19) (r3 := 0) rfl rfl rfl (of_decide_eq_true rfl) rfl rfl (of_decide_eq_true rfl) (of_decide_eq_true rfl) ?_
            refine wi_bipush (n := 6) (nx := 2) (r1 := 0) (r2 := 0) (r3 := 0) rfl (by decide) ?_
            refine wi_iload_n (i := 0) (e := e37) (nx := 3) (r1 := 0) (r2 := 0) (r3 := 0) rfl rfl ?_
            refine wr_mul (nx := 4) (r1 := 0) (r2 := 0) (r3 := 0) rfl (fun e39 (fe39 : e39 = 6 * e37) => ?_)
            refine wi_iload_n (i := 1) (e := h 238 i25) (nx := 5) (r1 := 0) (r2 := 0) (r3 := 0) rfl rfl ?_
            refine wr_add (nx := 6) (r1 := 0) (r2 := 0) (r3 := 0) rfl (fun e40 (fe40 : e40 = e39 + (h 238 i25)) => ?_)
            refine wi_bipush (n := 10) (nx := 8) (r1 := 0) (r2 := 0) (r3 := 0) rfl (by decide) ?_
            refine wr_mul (nx := 9) (r1 := 0) (r2 := 0) (r3 := 0) rfl (fun e41 (fe41 : e41 = e40 * 10) => ?_)
            refine wi_iload_n (i := 2) (e := 1) (nx := 10) (r1 := 0) (r2 := 0) (r3 := 0) rfl rfl ?_
            refine wr_add (nx := 11) (r1 := 0) (r2 := 0) (r3 := 0) rfl (fun e42 (fe42 : e42 = e41 + 1) => ?_)
            refine wi_ireturn (nx := 12) (r1 := 0) (r2 := 0) (r3 := 0) rfl rfl ?_
            refine wk_i ?_
            obtain ⟨i43, ei43⟩ : ∃ q : Nat, e42 = (q : Int) := ⟨(e42).toNat, by omega⟩
            have b44 := gi_b (lo := 0) (hi := 1000000) g 246 i43 rfl
            refine wr_ia (k0 := 246) (a := e42) (f := i43) (x := h 246 i43) (nx := 204) (r1 := 0) (r2 := 0) (r3 := 0) rfl (by decide) rfl (by omega) (by omega) (by decide) rfl ?_
            refine wi_istore (i := 9) (e := h 246 i43) (lo2 := [(9, vi (h 246 i43)), (8, vi 0), (7, vi 0), (6, vi (h 238 i25)), (5, vi e14), (4, vi (h 238 i5)), (0, .ref 236), (1, vi 0), (2, vi a0), (3, vi a1)]) (nx := 206) (r1 := 0) (r2 := 0) (r3 := 0) rfl rfl ?_
            refine wi_iload (i := 9) (e := h 246 i43) (nx := 208) (r1 := 0) (r2 := 0) (r3 := 0) rfl rfl ?_
            refine wi_ldc_w (e := 1000000) (nx := 211) (r1 := 0) (r2 := 1000000) (r3 := 0) rfl (by decide) ?_
            refine wi_icmp (cd := .ne) (nx := 214) (r1 := 220) (r2 := 0) (r3 := 0) rfl (by omega) (by omega) (fun (q45 : (h 246 i43) ≠ 1000000) => ?_) (fun (q45 : ¬ ((h 246 i43) ≠ 1000000)) => ?_)
            ·
              refine wi_iload (i := 8) (e := 0) (nx := 222) (r1 := 0) (r2 := 0) (r3 := 0) rfl rfl ?_
              refine wi_iload (i := 9) (e := h 246 i43) (nx := 224) (r1 := 0) (r2 := 0) (r3 := 0) rfl rfl ?_
              refine wr_add (nx := 225) (r1 := 0) (r2 := 0) (r3 := 0) rfl (fun e46 (fe46 : e46 = 0 + (h 246 i43)) => ?_)
              refine wi_ireturn (nx := 226) (r1 := 0) (r2 := 0) (r3 := 0) rfl rfl ?_
              exact k e46 (by omega) (show e46 = 1000000 ∨ (h 247 0) < (h 238 98) by omega) (by
                  unfold u_by
                  have cx_ : h 238 (98 + 0) = h 238 98 := rfl
                  rw [if_neg (by omega)]
                  rw [show 74 + 6 * 0 + (h 247 0).toNat = i5 by omega]
                  unfold u_by1
                  rw [if_neg (by omega)]
                  rw [show 31 + (h 238 i5).toNat = i25 by omega]
                  unfold u_by2
                  rw [show u_ix (h 238) (h 247) 0 a0 a1 (h 238 i25) = i43 by unfold u_ix wt; (repeat (first | rw [if_pos (by omega)] | rw [if_neg (by omega)])); omega]
                  unfold u_by3
                  (repeat (first | rw [if_pos (by omega)] | rw [if_neg (by omega)]))
                  all_goals omega)
            ·
              refine wi_ldc_w (e := 1000000) (nx := 217) (r1 := 0) (r2 := 1000000) (r3 := 0) rfl (by decide) ?_
              refine wi_goto (nx := 220) (r1 := 225) (r2 := 0) (r3 := 0) rfl ?_
              refine wi_ireturn (nx := 226) (r1 := 0) (r2 := 0) (r3 := 0) rfl rfl ?_
              exact k 1000000 (by omega) (show 1000000 = 1000000 ∨ (h 247 0) < (h 238 98) by omega) (by
                  unfold u_by
                  have cx_ : h 238 (98 + 0) = h 238 98 := rfl
                  rw [if_neg (by omega)]
                  rw [show 74 + 6 * 0 + (h 247 0).toNat = i5 by omega]
                  unfold u_by1
                  rw [if_neg (by omega)]
                  rw [show 31 + (h 238 i5).toNat = i25 by omega]
                  unfold u_by2
                  rw [show u_ix (h 238) (h 247) 0 a0 a1 (h 238 i25) = i43 by unfold u_ix wt; (repeat (first | rw [if_pos (by omega)] | rw [if_neg (by omega)])); omega]
                  unfold u_by3
                  (repeat (first | rw [if_pos (by omega)] | rw [if_neg (by omega)]))
                  all_goals omega)
          ·
            refine wi_iload (i := 6) (e := h 238 i25) (nx := 124) (r1 := 0) (r2 := 0) (r3 := 0) rfl rfl ?_
            refine wi_iload_n (i := 2) (e := a0) (nx := 125) (r1 := 0) (r2 := 0) (r3 := 0) rfl rfl ?_
            refine wi_icmp (cd := .eq) (nx := 128) (r1 := 146) (r2 := 0) (r3 := 0) rfl (by omega) (by omega) (fun (q29 : (h 238 i25) = a0) => by exfalso; omega) (fun (q29 : ¬ ((h 238 i25) = a0)) => ?_)
            refine wi_bipush (n := 100) (nx := 130) (r1 := 0) (r2 := 0) (r3 := 0) rfl (by decide) ?_
            refine wi_aload_n (i := 0) (x := 236) (nx := 131) (r1 := 0) (r2 := 0) (r3 := 0) rfl rfl ?_
            refine wr_gr (k0 := 236) (x := 238) (nx := 134) (r1 := 11) (r2 := 13) (r3 := 0) rfl rfl (by decide) rfl ⟨rfl, rfl⟩ rfl ?_
            refine wi_bipush (n := 10) (nx := 136) (r1 := 0) (r2 := 0) (r3 := 0) rfl (by decide) ?_
            refine wi_iload (i := 6) (e := h 238 i25) (nx := 138) (r1 := 0) (r2 := 0) (r3 := 0) rfl rfl ?_
            refine wr_add (nx := 139) (r1 := 0) (r2 := 0) (r3 := 0) rfl (fun e30 (fe30 : e30 = 10 + (h 238 i25)) => ?_)
            obtain ⟨i31, ei31⟩ : ∃ q : Nat, e30 = (q : Int) := ⟨(e30).toNat, by omega⟩
            have b32 := gi_b (lo := 0) (hi := 999) g 238 i31 (gi_rg 10 5 (fun _ => rfl) (by decide +kernel) (by omega))
            refine wr_ia (k0 := 238) (a := e30) (f := i31) (x := h 238 i31) (nx := 140) (r1 := 0) (r2 := 0) (r3 := 0) rfl (by decide) rfl (by omega) (by omega) (by decide) rfl ?_
            refine wr_mul (nx := 141) (r1 := 0) (r2 := 0) (r3 := 0) rfl (fun e33 (fe33 : e33 = 100 * (h 238 i31)) => ?_)
            refine wi_iconst (n := 1) (nx := 142) (r1 := 0) (r2 := 0) (r3 := 0) rfl ?_
            refine wr_add (nx := 143) (r1 := 0) (r2 := 0) (r3 := 0) rfl (fun e34 (fe34 : e34 = e33 + 1) => ?_)
            refine wi_goto (nx := 146) (r1 := 165) (r2 := 0) (r3 := 0) rfl ?_
            refine wi_istore (i := 8) (e := e34) (lo2 := [(8, vi e34), (7, vi 0), (6, vi (h 238 i25)), (5, vi e14), (4, vi (h 238 i5)), (0, .ref 236), (1, vi 0), (2, vi a0), (3, vi a1)]) (nx := 167) (r1 := 0) (r2 := 0) (r3 := 0) rfl rfl ?_
            refine wi_aload_n (i := 0) (x := 236) (nx := 168) (r1 := 0) (r2 := 0) (r3 := 0) rfl rfl ?_
            refine wr_gr (k0 := 236) (x := 246) (nx := 171) (r1 := 11) (r2 := 29) (r3 := 0) rfl rfl (by decide) rfl ⟨rfl, rfl⟩ rfl ?_
            refine wi_aload_n (i := 0) (x := 236) (nx := 172) (r1 := 0) (r2 := 0) (r3 := 0) rfl rfl ?_
            refine wr_V (k0 := 236) (rest := [.ref 246]) (as := [.ref 236]) (nx := 175) (r1 := 306) (r2 := 0) (r3 := 11) rfl rfl rfl (of_decide_eq_true rfl) rfl rfl (by decide) rfl rfl (of_decide_eq_true rfl) (of_decide_eq_true rfl) ?_
            refine wi_bipush (n := 7) (nx := 2) (r1 := 0) (r2 := 0) (r3 := 0) rfl (by decide) ?_
            refine wi_aload_n (i := 0) (x := 236) (nx := 3) (r1 := 0) (r2 := 0) (r3 := 0) rfl rfl ?_
            refine wr_gr (k0 := 236) (x := 247) (nx := 6) (r1 := 11) (r2 := 30) (r3 := 0) rfl rfl (by decide) rfl ⟨rfl, rfl⟩ rfl ?_
            refine wi_iconst (n := 0) (nx := 7) (r1 := 0) (r2 := 0) (r3 := 0) rfl ?_
            refine wr_ia (k0 := 247) (a := 0) (f := 0) (x := h 247 0) (nx := 8) (r1 := 0) (r2 := 0) (r3 := 0) rfl (by decide) rfl (by omega) (by omega) (by decide) rfl ?_
            refine wr_mul (nx := 9) (r1 := 0) (r2 := 0) (r3 := 0) rfl (fun e35 (fe35 : e35 = 7 * (h 247 0)) => ?_)
            refine wi_aload_n (i := 0) (x := 236) (nx := 10) (r1 := 0) (r2 := 0) (r3 := 0) rfl rfl ?_
            refine wr_gr (k0 := 236) (x := 247) (nx := 13) (r1 := 11) (r2 := 30) (r3 := 0) rfl rfl (by decide) rfl ⟨rfl, rfl⟩ rfl ?_
            refine wi_iconst (n := 1) (nx := 14) (r1 := 0) (r2 := 0) (r3 := 0) rfl ?_
            refine wr_ia (k0 := 247) (a := 1) (f := 1) (x := h 247 1) (nx := 15) (r1 := 0) (r2 := 0) (r3 := 0) rfl (by decide) rfl (by omega) (by omega) (by decide) rfl ?_
            refine wr_add (nx := 16) (r1 := 0) (r2 := 0) (r3 := 0) rfl (fun e36 (fe36 : e36 = e35 + (h 247 1)) => ?_)
            refine wi_bipush (n := 7) (nx := 18) (r1 := 0) (r2 := 0) (r3 := 0) rfl (by decide) ?_
            refine wr_mul (nx := 19) (r1 := 0) (r2 := 0) (r3 := 0) rfl (fun e37 (fe37 : e37 = e36 * 7) => ?_)
            refine wi_aload_n (i := 0) (x := 236) (nx := 20) (r1 := 0) (r2 := 0) (r3 := 0) rfl rfl ?_
            refine wr_gr (k0 := 236) (x := 247) (nx := 23) (r1 := 11) (r2 := 30) (r3 := 0) rfl rfl (by decide) rfl ⟨rfl, rfl⟩ rfl ?_
            refine wi_iconst (n := 2) (nx := 24) (r1 := 0) (r2 := 0) (r3 := 0) rfl ?_
            refine wr_ia (k0 := 247) (a := 2) (f := 2) (x := h 247 2) (nx := 25) (r1 := 0) (r2 := 0) (r3 := 0) rfl (by decide) rfl (by omega) (by omega) (by decide) rfl ?_
            refine wr_add (nx := 26) (r1 := 0) (r2 := 0) (r3 := 0) rfl (fun e38 (fe38 : e38 = e37 + (h 247 2)) => ?_)
            refine wi_bipush (n := 7) (nx := 28) (r1 := 0) (r2 := 0) (r3 := 0) rfl (by decide) ?_
            refine wr_mul (nx := 29) (r1 := 0) (r2 := 0) (r3 := 0) rfl (fun e39 (fe39 : e39 = e38 * 7) => ?_)
            refine wi_aload_n (i := 0) (x := 236) (nx := 30) (r1 := 0) (r2 := 0) (r3 := 0) rfl rfl ?_
            refine wr_gr (k0 := 236) (x := 247) (nx := 33) (r1 := 11) (r2 := 30) (r3 := 0) rfl rfl (by decide) rfl ⟨rfl, rfl⟩ rfl ?_
            refine wi_iconst (n := 3) (nx := 34) (r1 := 0) (r2 := 0) (r3 := 0) rfl ?_
            refine wr_ia (k0 := 247) (a := 3) (f := 3) (x := h 247 3) (nx := 35) (r1 := 0) (r2 := 0) (r3 := 0) rfl (by decide) rfl (by omega) (by omega) (by decide) rfl ?_
            refine wr_add (nx := 36) (r1 := 0) (r2 := 0) (r3 := 0) rfl (fun e40 (fe40 : e40 = e39 + (h 247 3)) => ?_)
            refine wi_ireturn (nx := 37) (r1 := 0) (r2 := 0) (r3 := 0) rfl rfl ?_
            refine wk_i ?_
            refine wi_iload_n (i := 1) (e := 0) (nx := 176) (r1 := 0) (r2 := 0) (r3 := 0) rfl rfl ?_
            refine wi_S (rest := [vi e40, .ref 246]) (as := [vi 0]) (nx := 179) (r1 := 307) (r2 := 17) (r3 := 0) rfl rfl rfl (of_decide_eq_true rfl) rfl rfl (of_decide_eq_true rfl) (of_decide_eq_true rfl) ?_
            refine wi_iload_n (i := 0) (e := 0) (nx := 1) (r1 := 0) (r2 := 0) (r3 := 0) rfl rfl ?_
            refine wi_if (cd := .ne) (nx := 4) (r1 := 10) (r2 := 0) (r3 := 0) rfl (by omega) (fun (q41 : 0 ≠ 0) => by exfalso; omega) (fun (q41 : ¬ (0 ≠ 0)) => ?_)
            refine wi_sipush (n := 343) (nx := 7) (r1 := 0) (r2 := 0) (r3 := 0) rfl (by decide) ?_
            refine wi_goto (nx := 10) (r1 := 31) (r2 := 0) (r3 := 0) rfl ?_
            refine wi_ireturn (nx := 32) (r1 := 0) (r2 := 0) (r3 := 0) rfl rfl ?_
            refine wk_i ?_
            refine wr_add (nx := 180) (r1 := 0) (r2 := 0) (r3 := 0) rfl (fun e42 (fe42 : e42 = e40 + 343) => ?_)
            refine wi_iload (i := 6) (e := h 238 i25) (nx := 182) (r1 := 0) (r2 := 0) (r3 := 0) rfl rfl ?_
            refine wi_iload (i := 6) (e := h 238 i25) (nx := 184) (r1 := 0) (r2 := 0) (r3 := 0) rfl rfl ?_
            refine wi_iload_n (i := 2) (e := a0) (nx := 185) (r1 := 0) (r2 := 0) (r3 := 0) rfl rfl ?_
            refine wi_icmp (cd := .ne) (nx := 188) (r1 := 199) (r2 := 0) (r3 := 0) rfl (by omega) (by omega) (fun (q43 : (h 238 i25) ≠ a0) => ?_) (fun (q43 : ¬ ((h 238 i25) ≠ a0)) => by exfalso; omega)
            refine wi_iconst (n := 1) (nx := 200) (r1 := 0) (r2 := 0) (r3 := 0) rfl ?_
            refine wi_S (rest := [.ref 246]) (as := [vi e42, vi (h 238 i25), vi 1]) (nx := 203) (r1 := 308) (r2 := 19) (r3 := 0) rfl rfl rfl (of_decide_eq_true rfl) rfl rfl (of_decide_eq_true rfl) (of_decide_eq_true rfl) ?_
            refine wi_bipush (n := 6) (nx := 2) (r1 := 0) (r2 := 0) (r3 := 0) rfl (by decide) ?_
            refine wi_iload_n (i := 0) (e := e42) (nx := 3) (r1 := 0) (r2 := 0) (r3 := 0) rfl rfl ?_
            refine wr_mul (nx := 4) (r1 := 0) (r2 := 0) (r3 := 0) rfl (fun e44 (fe44 : e44 = 6 * e42) => ?_)
            refine wi_iload_n (i := 1) (e := h 238 i25) (nx := 5) (r1 := 0) (r2 := 0) (r3 := 0) rfl rfl ?_
            refine wr_add (nx := 6) (r1 := 0) (r2 := 0) (r3 := 0) rfl (fun e45 (fe45 : e45 = e44 + (h 238 i25)) => ?_)
            refine wi_bipush (n := 10) (nx := 8) (r1 := 0) (r2 := 0) (r3 := 0) rfl (by decide) ?_
            refine wr_mul (nx := 9) (r1 := 0) (r2 := 0) (r3 := 0) rfl (fun e46 (fe46 : e46 = e45 * 10) => ?_)
            refine wi_iload_n (i := 2) (e := 1) (nx := 10) (r1 := 0) (r2 := 0) (r3 := 0) rfl rfl ?_
            refine wr_add (nx := 11) (r1 := 0) (r2 := 0) (r3 := 0) rfl (fun e47 (fe47 : e47 = e46 + 1) => ?_)
            refine wi_ireturn (nx := 12) (r1 := 0) (r2 := 0) (r3 := 0) rfl rfl ?_
            refine wk_i ?_
            obtain ⟨i48, ei48⟩ : ∃ q : Nat, e47 = (q : Int) := ⟨(e47).toNat, by omega⟩
            have b49 := gi_b (lo := 0) (hi := 1000000) g 246 i48 rfl
            refine wr_ia (k0 := 246) (a := e47) (f := i48) (x := h 246 i48) (nx := 204) (r1 := 0) (r2 := 0) (r3 := 0) rfl (by decide) rfl (by omega) (by omega) (by decide) rfl ?_
            refine wi_istore (i := 9) (e := h 246 i48) (lo2 := [(9, vi (h 246 i48)), (8, vi e34), (7, vi 0), (6, vi (h 238 i25)), (5, vi e14), (4, vi (h 238 i5)), (0, .ref 236), (1, vi 0), (2, vi a0), (3, vi a1)]) (nx := 206) (r1 := 0) (r2 := 0) (r3 := 0) rfl rfl ?_
            refine wi_iload (i := 9) (e := h 246 i48) (nx := 208) (r1 := 0) (r2 := 0) (r3 := 0) rfl rfl ?_
            refine wi_ldc_w (e := 1000000) (nx := 211) (r1 := 0) (r2 := 1000000) (r3 := 0) rfl (by decide) ?_
            refine wi_icmp (cd := .ne) (nx := 214) (r1 := 220) (r2 := 0) (r3 := 0) rfl (by omega) (by omega) (fun (q50 : (h 246 i48) ≠ 1000000) => ?_) (fun (q50 : ¬ ((h 246 i48) ≠ 1000000)) => ?_)
            ·
              refine wi_iload (i := 8) (e := e34) (nx := 222) (r1 := 0) (r2 := 0) (r3 := 0) rfl rfl ?_
              refine wi_iload (i := 9) (e := h 246 i48) (nx := 224) (r1 := 0) (r2 := 0) (r3 := 0) rfl rfl ?_
              refine wr_add (nx := 225) (r1 := 0) (r2 := 0) (r3 := 0) rfl (fun e51 (fe51 : e51 = e34 + (h 246 i48)) => ?_)
              refine wi_ireturn (nx := 226) (r1 := 0) (r2 := 0) (r3 := 0) rfl rfl ?_
              exact k e51 (by omega) (show e51 = 1000000 ∨ (h 247 0) < (h 238 98) by omega) (by
                  unfold u_by
                  have cx_ : h 238 (98 + 0) = h 238 98 := rfl
                  rw [if_neg (by omega)]
                  rw [show 74 + 6 * 0 + (h 247 0).toNat = i5 by omega]
                  unfold u_by1
                  rw [if_neg (by omega)]
                  rw [show 31 + (h 238 i5).toNat = i25 by omega]
                  unfold u_by2
                  rw [show 10 + (h 238 i25).toNat = i31 by omega]
                  rw [show u_ix (h 238) (h 247) 0 a0 a1 (h 238 i25) = i48 by unfold u_ix wt; (repeat (first | rw [if_pos (by omega)] | rw [if_neg (by omega)])); omega]
                  unfold u_by3
                  (repeat (first | rw [if_pos (by omega)] | rw [if_neg (by omega)]))
                  all_goals omega)
            ·
              refine wi_ldc_w (e := 1000000) (nx := 217) (r1 := 0) (r2 := 1000000) (r3 := 0) rfl (by decide) ?_
              refine wi_goto (nx := 220) (r1 := 225) (r2 := 0) (r3 := 0) rfl ?_
              refine wi_ireturn (nx := 226) (r1 := 0) (r2 := 0) (r3 := 0) rfl rfl ?_
              exact k 1000000 (by omega) (show 1000000 = 1000000 ∨ (h 247 0) < (h 238 98) by omega) (by
                  unfold u_by
                  have cx_ : h 238 (98 + 0) = h 238 98 := rfl
                  rw [if_neg (by omega)]
                  rw [show 74 + 6 * 0 + (h 247 0).toNat = i5 by omega]
                  unfold u_by1
                  rw [if_neg (by omega)]
                  rw [show 31 + (h 238 i5).toNat = i25 by omega]
                  unfold u_by2
                  rw [show 10 + (h 238 i25).toNat = i31 by omega]
                  rw [show u_ix (h 238) (h 247) 0 a0 a1 (h 238 i25) = i48 by unfold u_ix wt; (repeat (first | rw [if_pos (by omega)] | rw [if_neg (by omega)])); omega]
                  unfold u_by3
                  (repeat (first | rw [if_pos (by omega)] | rw [if_neg (by omega)]))
                  all_goals omega)
        ·
          refine wi_iload_n (i := 3) (e := a1) (nx := 101) (r1 := 0) (r2 := 0) (r3 := 0) rfl rfl ?_
          refine wi_aload_n (i := 0) (x := 236) (nx := 102) (r1 := 0) (r2 := 0) (r3 := 0) rfl rfl ?_
          refine wr_gr (k0 := 236) (x := 238) (nx := 105) (r1 := 11) (r2 := 13) (r3 := 0) rfl rfl (by decide) rfl ⟨rfl, rfl⟩ rfl ?_
          refine wi_iconst (n := 5) (nx := 106) (r1 := 0) (r2 := 0) (r3 := 0) rfl ?_
          have b28 := gi_b (lo := 0) (hi := 9) g 238 5 rfl
          refine wr_ia (k0 := 238) (a := 5) (f := 5) (x := h 238 5) (nx := 107) (r1 := 0) (r2 := 0) (r3 := 0) rfl (by decide) rfl (by omega) (by omega) (by decide) rfl ?_
          refine wi_icmp (cd := .ne) (nx := 110) (r1 := 114) (r2 := 0) (r3 := 0) rfl (by omega) (by omega) (fun (q29 : a1 ≠ (h 238 5)) => ?_) (fun (q29 : ¬ (a1 ≠ (h 238 5))) => ?_)
          ·
            refine wi_iconst (n := 0) (nx := 115) (r1 := 0) (r2 := 0) (r3 := 0) rfl ?_
            refine wi_istore (i := 7) (e := 0) (lo2 := [(7, vi 0), (6, vi (h 238 i25)), (5, vi e14), (4, vi (h 238 i5)), (0, .ref 236), (1, vi 0), (2, vi a0), (3, vi a1)]) (nx := 117) (r1 := 0) (r2 := 0) (r3 := 0) rfl rfl ?_
            refine wi_iload_n (i := 2) (e := a0) (nx := 118) (r1 := 0) (r2 := 0) (r3 := 0) rfl rfl ?_
            refine wi_iconst (n := 5) (nx := 119) (r1 := 0) (r2 := 0) (r3 := 0) rfl ?_
            refine wi_icmp (cd := .eq) (nx := 122) (r1 := 146) (r2 := 0) (r3 := 0) rfl (by omega) (by omega) (fun (q30 : a0 = 5) => by exfalso; omega) (fun (q30 : ¬ (a0 = 5)) => ?_)
            refine wi_iload (i := 6) (e := h 238 i25) (nx := 124) (r1 := 0) (r2 := 0) (r3 := 0) rfl rfl ?_
            refine wi_iload_n (i := 2) (e := a0) (nx := 125) (r1 := 0) (r2 := 0) (r3 := 0) rfl rfl ?_
            refine wi_icmp (cd := .eq) (nx := 128) (r1 := 146) (r2 := 0) (r3 := 0) rfl (by omega) (by omega) (fun (q31 : (h 238 i25) = a0) => ?_) (fun (q31 : ¬ ((h 238 i25) = a0)) => by exfalso; omega)
            refine wi_iload (i := 7) (e := 0) (nx := 148) (r1 := 0) (r2 := 0) (r3 := 0) rfl rfl ?_
            refine wi_if (cd := .eq) (nx := 151) (r1 := 164) (r2 := 0) (r3 := 0) rfl (by omega) (fun (q32 : 0 = 0) => ?_) (fun (q32 : ¬ (0 = 0)) => by exfalso; omega)
            refine wi_iconst (n := 0) (nx := 165) (r1 := 0) (r2 := 0) (r3 := 0) rfl ?_
            refine wi_istore (i := 8) (e := 0) (lo2 := [(8, vi 0), (7, vi 0), (6, vi (h 238 i25)), (5, vi e14), (4, vi (h 238 i5)), (0, .ref 236), (1, vi 0), (2, vi a0), (3, vi a1)]) (nx := 167) (r1 := 0) (r2 := 0) (r3 := 0) rfl rfl ?_
            refine wi_aload_n (i := 0) (x := 236) (nx := 168) (r1 := 0) (r2 := 0) (r3 := 0) rfl rfl ?_
            refine wr_gr (k0 := 236) (x := 246) (nx := 171) (r1 := 11) (r2 := 29) (r3 := 0) rfl rfl (by decide) rfl ⟨rfl, rfl⟩ rfl ?_
            refine wi_aload_n (i := 0) (x := 236) (nx := 172) (r1 := 0) (r2 := 0) (r3 := 0) rfl rfl ?_
            refine wr_V (k0 := 236) (rest := [.ref 246]) (as := [.ref 236]) (nx := 175) (r1 := 306) (r2 := 0) (r3 := 11) rfl rfl rfl (of_decide_eq_true rfl) rfl rfl (by decide) rfl rfl (of_decide_eq_true rfl) (of_decide_eq_true rfl) ?_
            refine wi_bipush (n := 7) (nx := 2) (r1 := 0) (r2 := 0) (r3 := 0) rfl (by decide) ?_
            refine wi_aload_n (i := 0) (x := 236) (nx := 3) (r1 := 0) (r2 := 0) (r3 := 0) rfl rfl ?_
            refine wr_gr (k0 := 236) (x := 247) (nx := 6) (r1 := 11) (r2 := 30) (r3 := 0) rfl rfl (by decide) rfl ⟨rfl, rfl⟩ rfl ?_
            refine wi_iconst (n := 0) (nx := 7) (r1 := 0) (r2 := 0) (r3 := 0) rfl ?_
            refine wr_ia (k0 := 247) (a := 0) (f := 0) (x := h 247 0) (nx := 8) (r1 := 0) (r2 := 0) (r3 := 0) rfl (by decide) rfl (by omega) (by omega) (by decide) rfl ?_
            refine wr_mul (nx := 9) (r1 := 0) (r2 := 0) (r3 := 0) rfl (fun e33 (fe33 : e33 = 7 * (h 247 0)) => ?_)
            refine wi_aload_n (i := 0) (x := 236) (nx := 10) (r1 := 0) (r2 := 0) (r3 := 0) rfl rfl ?_
            refine wr_gr (k0 := 236) (x := 247) (nx := 13) (r1 := 11) (r2 := 30) (r3 := 0) rfl rfl (by decide) rfl ⟨rfl, rfl⟩ rfl ?_
            refine wi_iconst (n := 1) (nx := 14) (r1 := 0) (r2 := 0) (r3 := 0) rfl ?_
            refine wr_ia (k0 := 247) (a := 1) (f := 1) (x := h 247 1) (nx := 15) (r1 := 0) (r2 := 0) (r3 := 0) rfl (by decide) rfl (by omega) (by omega) (by decide) rfl ?_
            refine wr_add (nx := 16) (r1 := 0) (r2 := 0) (r3 := 0) rfl (fun e34 (fe34 : e34 = e33 + (h 247 1)) => ?_)
            refine wi_bipush (n := 7) (nx := 18) (r1 := 0) (r2 := 0) (r3 := 0) rfl (by decide) ?_
            refine wr_mul (nx := 19) (r1 := 0) (r2 := 0) (r3 := 0) rfl (fun e35 (fe35 : e35 = e34 * 7) => ?_)
            refine wi_aload_n (i := 0) (x := 236) (nx := 20) (r1 := 0) (r2 := 0) (r3 := 0) rfl rfl ?_
            refine wr_gr (k0 := 236) (x := 247) (nx := 23) (r1 := 11) (r2 := 30) (r3 := 0) rfl rfl (by decide) rfl ⟨rfl, rfl⟩ rfl ?_
            refine wi_iconst (n := 2) (nx := 24) (r1 := 0) (r2 := 0) (r3 := 0) rfl ?_
            refine wr_ia (k0 := 247) (a := 2) (f := 2) (x := h 247 2) (nx := 25) (r1 := 0) (r2 := 0) (r3 := 0) rfl (by decide) rfl (by omega) (by omega) (by decide) rfl ?_
            refine wr_add (nx := 26) (r1 := 0) (r2 := 0) (r3 := 0) rfl (fun e36 (fe36 : e36 = e35 + (h 247 2)) => ?_)
            refine wi_bipush (n := 7) (nx := 28) (r1 := 0) (r2 := 0) (r3 := 0) rfl (by decide) ?_
            refine wr_mul (nx := 29) (r1 := 0) (r2 := 0) (r3 := 0) rfl (fun e37 (fe37 : e37 = e36 * 7) => ?_)
            refine wi_aload_n (i := 0) (x := 236) (nx := 30) (r1 := 0) (r2 := 0) (r3 := 0) rfl rfl ?_
            refine wr_gr (k0 := 236) (x := 247) (nx := 33) (r1 := 11) (r2 := 30) (r3 := 0) rfl rfl (by decide) rfl ⟨rfl, rfl⟩ rfl ?_
            refine wi_iconst (n := 3) (nx := 34) (r1 := 0) (r2 := 0) (r3 := 0) rfl ?_
            refine wr_ia (k0 := 247) (a := 3) (f := 3) (x := h 247 3) (nx := 35) (r1 := 0) (r2 := 0) (r3 := 0) rfl (by decide) rfl (by omega) (by omega) (by decide) rfl ?_
            refine wr_add (nx := 36) (r1 := 0) (r2 := 0) (r3 := 0) rfl (fun e38 (fe38 : e38 = e37 + (h 247 3)) => ?_)
            refine wi_ireturn (nx := 37) (r1 := 0) (r2 := 0) (r3 := 0) rfl rfl ?_
            refine wk_i ?_
            refine wi_iload_n (i := 1) (e := 0) (nx := 176) (r1 := 0) (r2 := 0) (r3 := 0) rfl rfl ?_
            refine wi_S (rest := [vi e38, .ref 246]) (as := [vi 0]) (nx := 179) (r1 := 307) (r2 := 17) (r3 := 0) rfl rfl rfl (of_decide_eq_true rfl) rfl rfl (of_decide_eq_true rfl) (of_decide_eq_true rfl) ?_
            refine wi_iload_n (i := 0) (e := 0) (nx := 1) (r1 := 0) (r2 := 0) (r3 := 0) rfl rfl ?_
            refine wi_if (cd := .ne) (nx := 4) (r1 := 10) (r2 := 0) (r3 := 0) rfl (by omega) (fun (q39 : 0 ≠ 0) => by exfalso; omega) (fun (q39 : ¬ (0 ≠ 0)) => ?_)
            refine wi_sipush (n := 343) (nx := 7) (r1 := 0) (r2 := 0) (r3 := 0) rfl (by decide) ?_
            refine wi_goto (nx := 10) (r1 := 31) (r2 := 0) (r3 := 0) rfl ?_
            refine wi_ireturn (nx := 32) (r1 := 0) (r2 := 0) (r3 := 0) rfl rfl ?_
            refine wk_i ?_
            refine wr_add (nx := 180) (r1 := 0) (r2 := 0) (r3 := 0) rfl (fun e40 (fe40 : e40 = e38 + 343) => ?_)
            refine wi_iload (i := 6) (e := h 238 i25) (nx := 182) (r1 := 0) (r2 := 0) (r3 := 0) rfl rfl ?_
            refine wi_iload (i := 6) (e := h 238 i25) (nx := 184) (r1 := 0) (r2 := 0) (r3 := 0) rfl rfl ?_
            refine wi_iload_n (i := 2) (e := a0) (nx := 185) (r1 := 0) (r2 := 0) (r3 := 0) rfl rfl ?_
            refine wi_icmp (cd := .ne) (nx := 188) (r1 := 199) (r2 := 0) (r3 := 0) rfl (by omega) (by omega) (fun (q41 : (h 238 i25) ≠ a0) => by exfalso; omega) (fun (q41 : ¬ ((h 238 i25) ≠ a0)) => ?_)
            refine wi_iload (i := 7) (e := 0) (nx := 190) (r1 := 0) (r2 := 0) (r3 := 0) rfl rfl ?_
            refine wi_if (cd := .ne) (nx := 193) (r1 := 199) (r2 := 0) (r3 := 0) rfl (by omega) (fun (q42 : 0 ≠ 0) => by exfalso; omega) (fun (q42 : ¬ (0 ≠ 0)) => ?_)
            refine wi_iload_n (i := 3) (e := a1) (nx := 194) (r1 := 0) (r2 := 0) (r3 := 0) rfl rfl ?_
            refine wi_iconst (n := 1) (nx := 195) (r1 := 0) (r2 := 0) (r3 := 0) rfl ?_
            refine wr_add (nx := 196) (r1 := 0) (r2 := 0) (r3 := 0) rfl (fun e43 (fe43 : e43 = a1 + 1) => ?_)
            refine wi_goto (nx := 199) (r1 := 200) (r2 := 0) (r3 := 0) rfl ?_
            refine wi_S (rest := [.ref 246]) (as := [vi e40, vi (h 238 i25), vi e43]) (nx := 203) (r1 := 308) (r2 := 19) (r3 := 0) rfl rfl rfl (of_decide_eq_true rfl) rfl rfl (of_decide_eq_true rfl) (of_decide_eq_true rfl) ?_
            refine wi_bipush (n := 6) (nx := 2) (r1 := 0) (r2 := 0) (r3 := 0) rfl (by decide) ?_
            refine wi_iload_n (i := 0) (e := e40) (nx := 3) (r1 := 0) (r2 := 0) (r3 := 0) rfl rfl ?_
            refine wr_mul (nx := 4) (r1 := 0) (r2 := 0) (r3 := 0) rfl (fun e44 (fe44 : e44 = 6 * e40) => ?_)
            refine wi_iload_n (i := 1) (e := h 238 i25) (nx := 5) (r1 := 0) (r2 := 0) (r3 := 0) rfl rfl ?_
            refine wr_add (nx := 6) (r1 := 0) (r2 := 0) (r3 := 0) rfl (fun e45 (fe45 : e45 = e44 + (h 238 i25)) => ?_)
            refine wi_bipush (n := 10) (nx := 8) (r1 := 0) (r2 := 0) (r3 := 0) rfl (by decide) ?_
            refine wr_mul (nx := 9) (r1 := 0) (r2 := 0) (r3 := 0) rfl (fun e46 (fe46 : e46 = e45 * 10) => ?_)
            refine wi_iload_n (i := 2) (e := e43) (nx := 10) (r1 := 0) (r2 := 0) (r3 := 0) rfl rfl ?_
            refine wr_add (nx := 11) (r1 := 0) (r2 := 0) (r3 := 0) rfl (fun e47 (fe47 : e47 = e46 + e43) => ?_)
            refine wi_ireturn (nx := 12) (r1 := 0) (r2 := 0) (r3 := 0) rfl rfl ?_
            refine wk_i ?_
            obtain ⟨i48, ei48⟩ : ∃ q : Nat, e47 = (q : Int) := ⟨(e47).toNat, by omega⟩
            have b49 := gi_b (lo := 0) (hi := 1000000) g 246 i48 rfl
            refine wr_ia (k0 := 246) (a := e47) (f := i48) (x := h 246 i48) (nx := 204) (r1 := 0) (r2 := 0) (r3 := 0) rfl (by decide) rfl (by omega) (by omega) (by decide) rfl ?_
            refine wi_istore (i := 9) (e := h 246 i48) (lo2 := [(9, vi (h 246 i48)), (8, vi 0), (7, vi 0), (6, vi (h 238 i25)), (5, vi e14), (4, vi (h 238 i5)), (0, .ref 236), (1, vi 0), (2, vi a0), (3, vi a1)]) (nx := 206) (r1 := 0) (r2 := 0) (r3 := 0) rfl rfl ?_
            refine wi_iload (i := 9) (e := h 246 i48) (nx := 208) (r1 := 0) (r2 := 0) (r3 := 0) rfl rfl ?_
            refine wi_ldc_w (e := 1000000) (nx := 211) (r1 := 0) (r2 := 1000000) (r3 := 0) rfl (by decide) ?_
            refine wi_icmp (cd := .ne) (nx := 214) (r1 := 220) (r2 := 0) (r3 := 0) rfl (by omega) (by omega) (fun (q50 : (h 246 i48) ≠ 1000000) => ?_) (fun (q50 : ¬ ((h 246 i48) ≠ 1000000)) => ?_)
            ·
              refine wi_iload (i := 8) (e := 0) (nx := 222) (r1 := 0) (r2 := 0) (r3 := 0) rfl rfl ?_
              refine wi_iload (i := 9) (e := h 246 i48) (nx := 224) (r1 := 0) (r2 := 0) (r3 := 0) rfl rfl ?_
              refine wr_add (nx := 225) (r1 := 0) (r2 := 0) (r3 := 0) rfl (fun e51 (fe51 : e51 = 0 + (h 246 i48)) => ?_)
              refine wi_ireturn (nx := 226) (r1 := 0) (r2 := 0) (r3 := 0) rfl rfl ?_
              exact k e51 (by omega) (show e51 = 1000000 ∨ (h 247 0) < (h 238 98) by omega) (by
                  unfold u_by
                  have cx_ : h 238 (98 + 0) = h 238 98 := rfl
                  rw [if_neg (by omega)]
                  rw [show 74 + 6 * 0 + (h 247 0).toNat = i5 by omega]
                  unfold u_by1
                  rw [if_neg (by omega)]
                  rw [show 31 + (h 238 i5).toNat = i25 by omega]
                  unfold u_by2
                  rw [show u_ix (h 238) (h 247) 0 a0 a1 (h 238 i25) = i48 by unfold u_ix wt; (repeat (first | rw [if_pos (by omega)] | rw [if_neg (by omega)])); omega]
                  unfold u_by3
                  (repeat (first | rw [if_pos (by omega)] | rw [if_neg (by omega)]))
                  all_goals omega)
            ·
              refine wi_ldc_w (e := 1000000) (nx := 217) (r1 := 0) (r2 := 1000000) (r3 := 0) rfl (by decide) ?_
              refine wi_goto (nx := 220) (r1 := 225) (r2 := 0) (r3 := 0) rfl ?_
              refine wi_ireturn (nx := 226) (r1 := 0) (r2 := 0) (r3 := 0) rfl rfl ?_
              exact k 1000000 (by omega) (show 1000000 = 1000000 ∨ (h 247 0) < (h 238 98) by omega) (by
                  unfold u_by
                  have cx_ : h 238 (98 + 0) = h 238 98 := rfl
                  rw [if_neg (by omega)]
                  rw [show 74 + 6 * 0 + (h 247 0).toNat = i5 by omega]
                  unfold u_by1
                  rw [if_neg (by omega)]
                  rw [show 31 + (h 238 i5).toNat = i25 by omega]
                  unfold u_by2
                  rw [show u_ix (h 238) (h 247) 0 a0 a1 (h 238 i25) = i48 by unfold u_ix wt; (repeat (first | rw [if_pos (by omega)] | rw [if_neg (by omega)])); omega]
                  unfold u_by3
                  (repeat (first | rw [if_pos (by omega)] | rw [if_neg (by omega)]))
                  all_goals omega)
          ·
            refine wi_iconst (n := 1) (nx := 111) (r1 := 0) (r2 := 0) (r3 := 0) rfl ?_
            refine wi_goto (nx := 114) (r1 := 115) (r2 := 0) (r3 := 0) rfl ?_
            refine wi_istore (i := 7) (e := 1) (lo2 := [(7, vi 1), (6, vi (h 238 i25)), (5, vi e14), (4, vi (h 238 i5)), (0, .ref 236), (1, vi 0), (2, vi a0), (3, vi a1)]) (nx := 117) (r1 := 0) (r2 := 0) (r3 := 0) rfl rfl ?_
            refine wi_iload_n (i := 2) (e := a0) (nx := 118) (r1 := 0) (r2 := 0) (r3 := 0) rfl rfl ?_
            refine wi_iconst (n := 5) (nx := 119) (r1 := 0) (r2 := 0) (r3 := 0) rfl ?_
            refine wi_icmp (cd := .eq) (nx := 122) (r1 := 146) (r2 := 0) (r3 := 0) rfl (by omega) (by omega) (fun (q30 : a0 = 5) => by exfalso; omega) (fun (q30 : ¬ (a0 = 5)) => ?_)
            refine wi_iload (i := 6) (e := h 238 i25) (nx := 124) (r1 := 0) (r2 := 0) (r3 := 0) rfl rfl ?_
            refine wi_iload_n (i := 2) (e := a0) (nx := 125) (r1 := 0) (r2 := 0) (r3 := 0) rfl rfl ?_
            refine wi_icmp (cd := .eq) (nx := 128) (r1 := 146) (r2 := 0) (r3 := 0) rfl (by omega) (by omega) (fun (q31 : (h 238 i25) = a0) => ?_) (fun (q31 : ¬ ((h 238 i25) = a0)) => by exfalso; omega)
            refine wi_iload (i := 7) (e := 1) (nx := 148) (r1 := 0) (r2 := 0) (r3 := 0) rfl rfl ?_
            refine wi_if (cd := .eq) (nx := 151) (r1 := 164) (r2 := 0) (r3 := 0) rfl (by omega) (fun (q32 : 1 = 0) => by exfalso; omega) (fun (q32 : ¬ (1 = 0)) => ?_)
            refine wi_bipush (n := 100) (nx := 153) (r1 := 0) (r2 := 0) (r3 := 0) rfl (by decide) ?_
            refine wi_aload_n (i := 0) (x := 236) (nx := 154) (r1 := 0) (r2 := 0) (r3 := 0) rfl rfl ?_
            refine wr_gr (k0 := 236) (x := 238) (nx := 157) (r1 := 11) (r2 := 13) (r3 := 0) rfl rfl (by decide) rfl ⟨rfl, rfl⟩ rfl ?_
            refine wi_bipush (n := 6) (nx := 159) (r1 := 0) (r2 := 0) (r3 := 0) rfl (by decide) ?_
            have b33 := gi_b (lo := 0) (hi := 999) g 238 6 rfl
            refine wr_ia (k0 := 238) (a := 6) (f := 6) (x := h 238 6) (nx := 160) (r1 := 0) (r2 := 0) (r3 := 0) rfl (by decide) rfl (by omega) (by omega) (by decide) rfl ?_
            refine wr_mul (nx := 161) (r1 := 0) (r2 := 0) (r3 := 0) rfl (fun e34 (fe34 : e34 = 100 * (h 238 6)) => ?_)
            refine wi_goto (nx := 164) (r1 := 165) (r2 := 0) (r3 := 0) rfl ?_
            refine wi_istore (i := 8) (e := e34) (lo2 := [(8, vi e34), (7, vi 1), (6, vi (h 238 i25)), (5, vi e14), (4, vi (h 238 i5)), (0, .ref 236), (1, vi 0), (2, vi a0), (3, vi a1)]) (nx := 167) (r1 := 0) (r2 := 0) (r3 := 0) rfl rfl ?_
            refine wi_aload_n (i := 0) (x := 236) (nx := 168) (r1 := 0) (r2 := 0) (r3 := 0) rfl rfl ?_
            refine wr_gr (k0 := 236) (x := 246) (nx := 171) (r1 := 11) (r2 := 29) (r3 := 0) rfl rfl (by decide) rfl ⟨rfl, rfl⟩ rfl ?_
            refine wi_aload_n (i := 0) (x := 236) (nx := 172) (r1 := 0) (r2 := 0) (r3 := 0) rfl rfl ?_
            refine wr_V (k0 := 236) (rest := [.ref 246]) (as := [.ref 236]) (nx := 175) (r1 := 306) (r2 := 0) (r3 := 11) rfl rfl rfl (of_decide_eq_true rfl) rfl rfl (by decide) rfl rfl (of_decide_eq_true rfl) (of_decide_eq_true rfl) ?_
            refine wi_bipush (n := 7) (nx := 2) (r1 := 0) (r2 := 0) (r3 := 0) rfl (by decide) ?_
            refine wi_aload_n (i := 0) (x := 236) (nx := 3) (r1 := 0) (r2 := 0) (r3 := 0) rfl rfl ?_
            refine wr_gr (k0 := 236) (x := 247) (nx := 6) (r1 := 11) (r2 := 30) (r3 := 0) rfl rfl (by decide) rfl ⟨rfl, rfl⟩ rfl ?_
            refine wi_iconst (n := 0) (nx := 7) (r1 := 0) (r2 := 0) (r3 := 0) rfl ?_
            refine wr_ia (k0 := 247) (a := 0) (f := 0) (x := h 247 0) (nx := 8) (r1 := 0) (r2 := 0) (r3 := 0) rfl (by decide) rfl (by omega) (by omega) (by decide) rfl ?_
            refine wr_mul (nx := 9) (r1 := 0) (r2 := 0) (r3 := 0) rfl (fun e35 (fe35 : e35 = 7 * (h 247 0)) => ?_)
            refine wi_aload_n (i := 0) (x := 236) (nx := 10) (r1 := 0) (r2 := 0) (r3 := 0) rfl rfl ?_
            refine wr_gr (k0 := 236) (x := 247) (nx := 13) (r1 := 11) (r2 := 30) (r3 := 0) rfl rfl (by decide) rfl ⟨rfl, rfl⟩ rfl ?_
            refine wi_iconst (n := 1) (nx := 14) (r1 := 0) (r2 := 0) (r3 := 0) rfl ?_
            refine wr_ia (k0 := 247) (a := 1) (f := 1) (x := h 247 1) (nx := 15) (r1 := 0) (r2 := 0) (r3 := 0) rfl (by decide) rfl (by omega) (by omega) (by decide) rfl ?_
            refine wr_add (nx := 16) (r1 := 0) (r2 := 0) (r3 := 0) rfl (fun e36 (fe36 : e36 = e35 + (h 247 1)) => ?_)
            refine wi_bipush (n := 7) (nx := 18) (r1 := 0) (r2 := 0) (r3 := 0) rfl (by decide) ?_
            refine wr_mul (nx := 19) (r1 := 0) (r2 := 0) (r3 := 0) rfl (fun e37 (fe37 : e37 = e36 * 7) => ?_)
            refine wi_aload_n (i := 0) (x := 236) (nx := 20) (r1 := 0) (r2 := 0) (r3 := 0) rfl rfl ?_
            refine wr_gr (k0 := 236) (x := 247) (nx := 23) (r1 := 11) (r2 := 30) (r3 := 0) rfl rfl (by decide) rfl ⟨rfl, rfl⟩ rfl ?_
            refine wi_iconst (n := 2) (nx := 24) (r1 := 0) (r2 := 0) (r3 := 0) rfl ?_
            refine wr_ia (k0 := 247) (a := 2) (f := 2) (x := h 247 2) (nx := 25) (r1 := 0) (r2 := 0) (r3 := 0) rfl (by decide) rfl (by omega) (by omega) (by decide) rfl ?_
            refine wr_add (nx := 26) (r1 := 0) (r2 := 0) (r3 := 0) rfl (fun e38 (fe38 : e38 = e37 + (h 247 2)) => ?_)
            refine wi_bipush (n := 7) (nx := 28) (r1 := 0) (r2 := 0) (r3 := 0) rfl (by decide) ?_
            refine wr_mul (nx := 29) (r1 := 0) (r2 := 0) (r3 := 0) rfl (fun e39 (fe39 : e39 = e38 * 7) => ?_)
            refine wi_aload_n (i := 0) (x := 236) (nx := 30) (r1 := 0) (r2 := 0) (r3 := 0) rfl rfl ?_
            refine wr_gr (k0 := 236) (x := 247) (nx := 33) (r1 := 11) (r2 := 30) (r3 := 0) rfl rfl (by decide) rfl ⟨rfl, rfl⟩ rfl ?_
            refine wi_iconst (n := 3) (nx := 34) (r1 := 0) (r2 := 0) (r3 := 0) rfl ?_
            refine wr_ia (k0 := 247) (a := 3) (f := 3) (x := h 247 3) (nx := 35) (r1 := 0) (r2 := 0) (r3 := 0) rfl (by decide) rfl (by omega) (by omega) (by decide) rfl ?_
            refine wr_add (nx := 36) (r1 := 0) (r2 := 0) (r3 := 0) rfl (fun e40 (fe40 : e40 = e39 + (h 247 3)) => ?_)
            refine wi_ireturn (nx := 37) (r1 := 0) (r2 := 0) (r3 := 0) rfl rfl ?_
            refine wk_i ?_
            refine wi_iload_n (i := 1) (e := 0) (nx := 176) (r1 := 0) (r2 := 0) (r3 := 0) rfl rfl ?_
            refine wi_S (rest := [vi e40, .ref 246]) (as := [vi 0]) (nx := 179) (r1 := 307) (r2 := 17) (r3 := 0) rfl rfl rfl (of_decide_eq_true rfl) rfl rfl (of_decide_eq_true rfl) (of_decide_eq_true rfl) ?_
            refine wi_iload_n (i := 0) (e := 0) (nx := 1) (r1 := 0) (r2 := 0) (r3 := 0) rfl rfl ?_
            refine wi_if (cd := .ne) (nx := 4) (r1 := 10) (r2 := 0) (r3 := 0) rfl (by omega) (fun (q41 : 0 ≠ 0) => by exfalso; omega) (fun (q41 : ¬ (0 ≠ 0)) => ?_)
            refine wi_sipush (n := 343) (nx := 7) (r1 := 0) (r2 := 0) (r3 := 0) rfl (by decide) ?_
            refine wi_goto (nx := 10) (r1 := 31) (r2 := 0) (r3 := 0) rfl ?_
            refine wi_ireturn (nx := 32) (r1 := 0) (r2 := 0) (r3 := 0) rfl rfl ?_
            refine wk_i ?_
            refine wr_add (nx := 180) (r1 := 0) (r2 := 0) (r3 := 0) rfl (fun e42 (fe42 : e42 = e40 + 343) => ?_)
            refine wi_iload (i := 6) (e := h 238 i25) (nx := 182) (r1 := 0) (r2 := 0) (r3 := 0) rfl rfl ?_
            refine wi_iload (i := 6) (e := h 238 i25) (nx := 184) (r1 := 0) (r2 := 0) (r3 := 0) rfl rfl ?_
            refine wi_iload_n (i := 2) (e := a0) (nx := 185) (r1 := 0) (r2 := 0) (r3 := 0) rfl rfl ?_
            refine wi_icmp (cd := .ne) (nx := 188) (r1 := 199) (r2 := 0) (r3 := 0) rfl (by omega) (by omega) (fun (q43 : (h 238 i25) ≠ a0) => by exfalso; omega) (fun (q43 : ¬ ((h 238 i25) ≠ a0)) => ?_)
            refine wi_iload (i := 7) (e := 1) (nx := 190) (r1 := 0) (r2 := 0) (r3 := 0) rfl rfl ?_
            refine wi_if (cd := .ne) (nx := 193) (r1 := 199) (r2 := 0) (r3 := 0) rfl (by omega) (fun (q44 : 1 ≠ 0) => ?_) (fun (q44 : ¬ (1 ≠ 0)) => by exfalso; omega)
            refine wi_iconst (n := 1) (nx := 200) (r1 := 0) (r2 := 0) (r3 := 0) rfl ?_
            refine wi_S (rest := [.ref 246]) (as := [vi e42, vi (h 238 i25), vi 1]) (nx := 203) (r1 := 308) (r2 := 19) (r3 := 0) rfl rfl rfl (of_decide_eq_true rfl) rfl rfl (of_decide_eq_true rfl) (of_decide_eq_true rfl) ?_
            refine wi_bipush (n := 6) (nx := 2) (r1 := 0) (r2 := 0) (r3 := 0) rfl (by decide) ?_
            refine wi_iload_n (i := 0) (e := e42) (nx := 3) (r1 := 0) (r2 := 0) (r3 := 0) rfl rfl ?_
            refine wr_mul (nx := 4) (r1 := 0) (r2 := 0) (r3 := 0) rfl (fun e45 (fe45 : e45 = 6 * e42) => ?_)
            refine wi_iload_n (i := 1) (e := h 238 i25) (nx := 5) (r1 := 0) (r2 := 0) (r3 := 0) rfl rfl ?_
            refine wr_add (nx := 6) (r1 := 0) (r2 := 0) (r3 := 0) rfl (fun e46 (fe46 : e46 = e45 + (h 238 i25)) => ?_)
            refine wi_bipush (n := 10) (nx := 8) (r1 := 0) (r2 := 0) (r3 := 0) rfl (by decide) ?_
            refine wr_mul (nx := 9) (r1 := 0) (r2 := 0) (r3 := 0) rfl (fun e47 (fe47 : e47 = e46 * 10) => ?_)
            refine wi_iload_n (i := 2) (e := 1) (nx := 10) (r1 := 0) (r2 := 0) (r3 := 0) rfl rfl ?_
            refine wr_add (nx := 11) (r1 := 0) (r2 := 0) (r3 := 0) rfl (fun e48 (fe48 : e48 = e47 + 1) => ?_)
            refine wi_ireturn (nx := 12) (r1 := 0) (r2 := 0) (r3 := 0) rfl rfl ?_
            refine wk_i ?_
            obtain ⟨i49, ei49⟩ : ∃ q : Nat, e48 = (q : Int) := ⟨(e48).toNat, by omega⟩
            have b50 := gi_b (lo := 0) (hi := 1000000) g 246 i49 rfl
            refine wr_ia (k0 := 246) (a := e48) (f := i49) (x := h 246 i49) (nx := 204) (r1 := 0) (r2 := 0) (r3 := 0) rfl (by decide) rfl (by omega) (by omega) (by decide) rfl ?_
            refine wi_istore (i := 9) (e := h 246 i49) (lo2 := [(9, vi (h 246 i49)), (8, vi e34), (7, vi 1), (6, vi (h 238 i25)), (5, vi e14), (4, vi (h 238 i5)), (0, .ref 236), (1, vi 0), (2, vi a0), (3, vi a1)]) (nx := 206) (r1 := 0) (r2 := 0) (r3 := 0) rfl rfl ?_
            refine wi_iload (i := 9) (e := h 246 i49) (nx := 208) (r1 := 0) (r2 := 0) (r3 := 0) rfl rfl ?_
            refine wi_ldc_w (e := 1000000) (nx := 211) (r1 := 0) (r2 := 1000000) (r3 := 0) rfl (by decide) ?_
            refine wi_icmp (cd := .ne) (nx := 214) (r1 := 220) (r2 := 0) (r3 := 0) rfl (by omega) (by omega) (fun (q51 : (h 246 i49) ≠ 1000000) => ?_) (fun (q51 : ¬ ((h 246 i49) ≠ 1000000)) => ?_)
            ·
              refine wi_iload (i := 8) (e := e34) (nx := 222) (r1 := 0) (r2 := 0) (r3 := 0) rfl rfl ?_
              refine wi_iload (i := 9) (e := h 246 i49) (nx := 224) (r1 := 0) (r2 := 0) (r3 := 0) rfl rfl ?_
              refine wr_add (nx := 225) (r1 := 0) (r2 := 0) (r3 := 0) rfl (fun e52 (fe52 : e52 = e34 + (h 246 i49)) => ?_)
              refine wi_ireturn (nx := 226) (r1 := 0) (r2 := 0) (r3 := 0) rfl rfl ?_
              exact k e52 (by omega) (show e52 = 1000000 ∨ (h 247 0) < (h 238 98) by omega) (by
                  unfold u_by
                  have cx_ : h 238 (98 + 0) = h 238 98 := rfl
                  rw [if_neg (by omega)]
                  rw [show 74 + 6 * 0 + (h 247 0).toNat = i5 by omega]
                  unfold u_by1
                  rw [if_neg (by omega)]
                  rw [show 31 + (h 238 i5).toNat = i25 by omega]
                  unfold u_by2
                  rw [show u_ix (h 238) (h 247) 0 a0 a1 (h 238 i25) = i49 by unfold u_ix wt; (repeat (first | rw [if_pos (by omega)] | rw [if_neg (by omega)])); omega]
                  unfold u_by3
                  (repeat (first | rw [if_pos (by omega)] | rw [if_neg (by omega)]))
                  all_goals omega)
            ·
              refine wi_ldc_w (e := 1000000) (nx := 217) (r1 := 0) (r2 := 1000000) (r3 := 0) rfl (by decide) ?_
              refine wi_goto (nx := 220) (r1 := 225) (r2 := 0) (r3 := 0) rfl ?_
              refine wi_ireturn (nx := 226) (r1 := 0) (r2 := 0) (r3 := 0) rfl rfl ?_
              exact k 1000000 (by omega) (show 1000000 = 1000000 ∨ (h 247 0) < (h 238 98) by omega) (by
                  unfold u_by
                  have cx_ : h 238 (98 + 0) = h 238 98 := rfl
                  rw [if_neg (by omega)]
                  rw [show 74 + 6 * 0 + (h 247 0).toNat = i5 by omega]
                  unfold u_by1
                  rw [if_neg (by omega)]
                  rw [show 31 + (h 238 i5).toNat = i25 by omega]
                  unfold u_by2
                  rw [show u_ix (h 238) (h 247) 0 a0 a1 (h 238 i25) = i49 by unfold u_ix wt; (repeat (first | rw [if_pos (by omega)] | rw [if_neg (by omega)])); omega]
                  unfold u_by3
                  (repeat (first | rw [if_pos (by omega)] | rw [if_neg (by omega)]))
                  all_goals omega)
  ·
    refine wi_ldc_w (e := 1000000) (nx := 21) (r1 := 0) (r2 := 1000000) (r3 := 0) rfl (by decide) ?_
    refine wi_ireturn (nx := 22) (r1 := 0) (r2 := 0) (r3 := 0) rfl rfl ?_
    exact k 1000000 (by omega) (show 1000000 = 1000000 ∨ (h 247 0) < (h 238 98) by omega) (by
        unfold u_by
        have cx_ : h 238 (98 + 0) = h 238 98 := rfl
        rw [if_pos (by omega)])
-- method 305: Model.by(III)I
set_option maxRecDepth 100000 in
set_option maxHeartbeats 100000000 in
theorem ct_305_236_L1 {L : Nat} {xs : Nat → Int32} {d b c : Nat} {h : hp} {cr : Nat → Nat → Option Nat} {Q : hp_Q} (hcr : CR cr)  (g : GI h) (a0 : Int) (a1 : Int) (q0_ : 0 ≤ a0 ∧ a0 ≤ 5) (q1_ : 0 ≤ a1 ∧ a1 ≤ 9)  (k : ∀ (z0 : Int), (0 ≤ z0 ∧ z0 ≤ 1099900) → (z0 = 1000000 ∨ h 247 1 < h 238 99) → (z0 = u_by (h 238) (h 246) (h 247) 1 a0 a1) → Q (.inl (some (vi z0))) (hp_w h cr) b c) : wp (md_xa (L, xs)) (d + 1) 305 (0, [(0, .ref 236), (1, vi 1), (2, vi a0), (3, vi a1)], [], hp_w h cr, b, c) Q := by
  have F0 : FR [] h h := FR.refl
  refine wi_aload_n (i := 0) (x := 236) (nx := 1) (r1 := 0) (r2 := 0) (r3 := 0) rfl rfl ?_
  refine wr_gr (k0 := 236) (x := 247) (nx := 4) (r1 := 11) (r2 := 30) (r3 := 0) rfl rfl (by decide) rfl ⟨rfl, rfl⟩ rfl ?_
  refine wi_iload_n (i := 1) (e := 1) (nx := 5) (r1 := 0) (r2 := 0) (r3 := 0) rfl rfl ?_
  have b1 := gi_b (lo := 0) (hi := 6) g 247 1 rfl
  refine wr_ia (k0 := 247) (a := 1) (f := 1) (x := h 247 1) (nx := 6) (r1 := 0) (r2 := 0) (r3 := 0) rfl (by decide) rfl (by omega) (by omega) (by decide) rfl ?_
  refine wi_aload_n (i := 0) (x := 236) (nx := 7) (r1 := 0) (r2 := 0) (r3 := 0) rfl rfl ?_
  refine wr_gr (k0 := 236) (x := 238) (nx := 10) (r1 := 11) (r2 := 13) (r3 := 0) rfl rfl (by decide) rfl ⟨rfl, rfl⟩ rfl ?_
  refine wi_bipush (n := 98) (nx := 12) (r1 := 0) (r2 := 0) (r3 := 0) rfl (by decide) ?_
  refine wi_iload_n (i := 1) (e := 1) (nx := 13) (r1 := 0) (r2 := 0) (r3 := 0) rfl rfl ?_
  refine wr_addL (99) (nx := 14) (r1 := 0) (r2 := 0) (r3 := 0) rfl (by decide) ?_
  have b2 := gi_b (lo := 0) (hi := 6) g 238 99 rfl
  refine wr_ia (k0 := 238) (a := 99) (f := 99) (x := h 238 99) (nx := 15) (r1 := 0) (r2 := 0) (r3 := 0) rfl (by decide) rfl (by omega) (by omega) (by decide) rfl ?_
  refine wi_icmp (cd := .lt) (nx := 18) (r1 := 22) (r2 := 0) (r3 := 0) rfl (by omega) (by omega) (fun (q3 : (h 247 1) < (h 238 99)) => ?_) (fun (q3 : ¬ ((h 247 1) < (h 238 99))) => ?_)
  ·
    refine wi_aload_n (i := 0) (x := 236) (nx := 23) (r1 := 0) (r2 := 0) (r3 := 0) rfl rfl ?_
    refine wi_iload_n (i := 1) (e := 1) (nx := 24) (r1 := 0) (r2 := 0) (r3 := 0) rfl rfl ?_
    refine wi_aload_n (i := 0) (x := 236) (nx := 25) (r1 := 0) (r2 := 0) (r3 := 0) rfl rfl ?_
    refine wr_gr (k0 := 236) (x := 247) (nx := 28) (r1 := 11) (r2 := 30) (r3 := 0) rfl rfl (by decide) rfl ⟨rfl, rfl⟩ rfl ?_
    refine wi_iload_n (i := 1) (e := 1) (nx := 29) (r1 := 0) (r2 := 0) (r3 := 0) rfl rfl ?_
    refine wr_ia (k0 := 247) (a := 1) (f := 1) (x := h 247 1) (nx := 30) (r1 := 0) (r2 := 0) (r3 := 0) rfl (by decide) rfl (by omega) (by omega) (by decide) rfl ?_
    refine wr_V (k0 := 236) (rest := []) (as := [.ref 236, vi 1, vi (h 247 1)]) (nx := 33) (r1 := 258) (r2 := 2) (r3 := 11) rfl rfl rfl (of_decide_eq_true rfl) rfl rfl (by decide) rfl rfl (of_decide_eq_true rfl) (of_decide_eq_true rfl) ?_
    refine wi_aload_n (i := 0) (x := 236) (nx := 1) (r1 := 0) (r2 := 0) (r3 := 0) rfl rfl ?_
    refine wr_gr (k0 := 236) (x := 238) (nx := 4) (r1 := 11) (r2 := 13) (r3 := 0) rfl rfl (by decide) rfl ⟨rfl, rfl⟩ rfl ?_
    refine wi_bipush (n := 74) (nx := 6) (r1 := 0) (r2 := 0) (r3 := 0) rfl (by decide) ?_
    refine wi_bipush (n := 6) (nx := 8) (r1 := 0) (r2 := 0) (r3 := 0) rfl (by decide) ?_
    refine wi_iload_n (i := 1) (e := 1) (nx := 9) (r1 := 0) (r2 := 0) (r3 := 0) rfl rfl ?_
    refine wr_mulL (6) (nx := 10) (r1 := 0) (r2 := 0) (r3 := 0) rfl (by decide) ?_
    refine wr_addL (80) (nx := 11) (r1 := 0) (r2 := 0) (r3 := 0) rfl (by decide) ?_
    refine wi_iload_n (i := 2) (e := h 247 1) (nx := 12) (r1 := 0) (r2 := 0) (r3 := 0) rfl rfl ?_
    refine wr_add (nx := 13) (r1 := 0) (r2 := 0) (r3 := 0) rfl (fun e4 (fe4 : e4 = 80 + (h 247 1)) => ?_)
    obtain ⟨i5, ei5⟩ : ∃ q : Nat, e4 = (q : Int) := ⟨(e4).toNat, by omega⟩
    have b6 := gi_b (lo := 0) (hi := 11) g 238 i5 (gi_rg 80 6 (fun _ => rfl) (by decide +kernel) (by omega))
    refine wr_ia (k0 := 238) (a := e4) (f := i5) (x := h 238 i5) (nx := 14) (r1 := 0) (r2 := 0) (r3 := 0) rfl (by decide) rfl (by omega) (by omega) (by decide) rfl ?_
    refine wi_ireturn (nx := 15) (r1 := 0) (r2 := 0) (r3 := 0) rfl rfl ?_
    refine wk_i ?_
    refine wi_istore (i := 4) (e := h 238 i5) (lo2 := [(4, vi (h 238 i5)), (0, .ref 236), (1, vi 1), (2, vi a0), (3, vi a1)]) (nx := 35) (r1 := 0) (r2 := 0) (r3 := 0) rfl rfl ?_
    refine wi_aload_n (i := 0) (x := 236) (nx := 36) (r1 := 0) (r2 := 0) (r3 := 0) rfl rfl ?_
    refine wr_gr (k0 := 236) (x := 238) (nx := 39) (r1 := 11) (r2 := 13) (r3 := 0) rfl rfl (by decide) rfl ⟨rfl, rfl⟩ rfl ?_
    refine wi_bipush (n := 106) (nx := 41) (r1 := 0) (r2 := 0) (r3 := 0) rfl (by decide) ?_
    have b7 := gi_b (lo := 0) (hi := 12) g 238 106 rfl
    refine wr_ia (k0 := 238) (a := 106) (f := 106) (x := h 238 106) (nx := 42) (r1 := 0) (r2 := 0) (r3 := 0) rfl (by decide) rfl (by omega) (by omega) (by decide) rfl ?_
    refine wi_aload_n (i := 0) (x := 236) (nx := 43) (r1 := 0) (r2 := 0) (r3 := 0) rfl rfl ?_
    refine wr_V (k0 := 236) (rest := [vi (h 238 106)]) (as := [.ref 236]) (nx := 46) (r1 := 303) (r2 := 0) (r3 := 11) rfl rfl rfl (of_decide_eq_true rfl) rfl rfl (by decide) rfl rfl (of_decide_eq_true rfl) (of_decide_eq_true rfl) ?_
    refine wi_aload_n (i := 0) (x := 236) (nx := 1) (r1 := 0) (r2 := 0) (r3 := 0) rfl rfl ?_
    refine wr_gr (k0 := 236) (x := 247) (nx := 4) (r1 := 11) (r2 := 30) (r3 := 0) rfl rfl (by decide) rfl ⟨rfl, rfl⟩ rfl ?_
    refine wi_iconst (n := 0) (nx := 5) (r1 := 0) (r2 := 0) (r3 := 0) rfl ?_
    have b8 := gi_b (lo := 0) (hi := 6) g 247 0 rfl
    refine wr_ia (k0 := 247) (a := 0) (f := 0) (x := h 247 0) (nx := 6) (r1 := 0) (r2 := 0) (r3 := 0) rfl (by decide) rfl (by omega) (by omega) (by decide) rfl ?_
    refine wi_aload_n (i := 0) (x := 236) (nx := 7) (r1 := 0) (r2 := 0) (r3 := 0) rfl rfl ?_
    refine wr_gr (k0 := 236) (x := 247) (nx := 10) (r1 := 11) (r2 := 30) (r3 := 0) rfl rfl (by decide) rfl ⟨rfl, rfl⟩ rfl ?_
    refine wi_iconst (n := 1) (nx := 11) (r1 := 0) (r2 := 0) (r3 := 0) rfl ?_
    refine wr_ia (k0 := 247) (a := 1) (f := 1) (x := h 247 1) (nx := 12) (r1 := 0) (r2 := 0) (r3 := 0) rfl (by decide) rfl (by omega) (by omega) (by decide) rfl ?_
    refine wr_add (nx := 13) (r1 := 0) (r2 := 0) (r3 := 0) rfl (fun e9 (fe9 : e9 = (h 247 0) + (h 247 1)) => ?_)
    refine wi_aload_n (i := 0) (x := 236) (nx := 14) (r1 := 0) (r2 := 0) (r3 := 0) rfl rfl ?_
    refine wr_gr (k0 := 236) (x := 247) (nx := 17) (r1 := 11) (r2 := 30) (r3 := 0) rfl rfl (by decide) rfl ⟨rfl, rfl⟩ rfl ?_
    refine wi_iconst (n := 2) (nx := 18) (r1 := 0) (r2 := 0) (r3 := 0) rfl ?_
    have b10 := gi_b (lo := 0) (hi := 6) g 247 2 rfl
    refine wr_ia (k0 := 247) (a := 2) (f := 2) (x := h 247 2) (nx := 19) (r1 := 0) (r2 := 0) (r3 := 0) rfl (by decide) rfl (by omega) (by omega) (by decide) rfl ?_
    refine wr_add (nx := 20) (r1 := 0) (r2 := 0) (r3 := 0) rfl (fun e11 (fe11 : e11 = e9 + (h 247 2)) => ?_)
    refine wi_aload_n (i := 0) (x := 236) (nx := 21) (r1 := 0) (r2 := 0) (r3 := 0) rfl rfl ?_
    refine wr_gr (k0 := 236) (x := 247) (nx := 24) (r1 := 11) (r2 := 30) (r3 := 0) rfl rfl (by decide) rfl ⟨rfl, rfl⟩ rfl ?_
    refine wi_iconst (n := 3) (nx := 25) (r1 := 0) (r2 := 0) (r3 := 0) rfl ?_
    have b12 := gi_b (lo := 0) (hi := 6) g 247 3 rfl
    refine wr_ia (k0 := 247) (a := 3) (f := 3) (x := h 247 3) (nx := 26) (r1 := 0) (r2 := 0) (r3 := 0) rfl (by decide) rfl (by omega) (by omega) (by decide) rfl ?_
    refine wr_add (nx := 27) (r1 := 0) (r2 := 0) (r3 := 0) rfl (fun e13 (fe13 : e13 = e11 + (h 247 3)) => ?_)
    refine wi_ireturn (nx := 28) (r1 := 0) (r2 := 0) (r3 := 0) rfl rfl ?_
    refine wk_i ?_
    refine wr_add (nx := 47) (r1 := 0) (r2 := 0) (r3 := 0) rfl (fun e14 (fe14 : e14 = (h 238 106) + e13) => ?_)
    refine wi_istore (i := 5) (e := e14) (lo2 := [(5, vi e14), (4, vi (h 238 i5)), (0, .ref 236), (1, vi 1), (2, vi a0), (3, vi a1)]) (nx := 49) (r1 := 0) (r2 := 0) (r3 := 0) rfl rfl ?_
    refine wi_iload (i := 5) (e := e14) (nx := 51) (r1 := 0) (r2 := 0) (r3 := 0) rfl rfl ?_
    refine wi_i2l (nx := 52) (r1 := 0) (r2 := 0) (r3 := 0) rfl (by omega) ?_
    refine wi_iload (i := 4) (e := h 238 i5) (nx := 54) (r1 := 0) (r2 := 0) (r3 := 0) rfl rfl ?_
    refine wi_aload_n (i := 0) (x := 236) (nx := 55) (r1 := 0) (r2 := 0) (r3 := 0) rfl rfl ?_
    refine wr_gr (k0 := 236) (x := 238) (nx := 58) (r1 := 11) (r2 := 13) (r3 := 0) rfl rfl (by decide) rfl ⟨rfl, rfl⟩ rfl ?_
    refine wi_iconst (n := 3) (nx := 59) (r1 := 0) (r2 := 0) (r3 := 0) rfl ?_
    have b15 := gi_b (lo := 0) (hi := 999) g 238 3 rfl
    refine wr_ia (k0 := 238) (a := 3) (f := 3) (x := h 238 3) (nx := 60) (r1 := 0) (r2 := 0) (r3 := 0) rfl (by decide) rfl (by omega) (by omega) (by decide) rfl ?_
    refine wr_sub (nx := 61) (r1 := 0) (r2 := 0) (r3 := 0) rfl (fun e16 (fe16 : e16 = (h 238 i5) - (h 238 3)) => ?_)
    refine wi_i2l (nx := 62) (r1 := 0) (r2 := 0) (r3 := 0) rfl (by omega) ?_
    refine wi_iload (i := 4) (e := h 238 i5) (nx := 64) (r1 := 0) (r2 := 0) (r3 := 0) rfl rfl ?_
    refine wi_aload_n (i := 0) (x := 236) (nx := 65) (r1 := 0) (r2 := 0) (r3 := 0) rfl rfl ?_
    refine wr_gr (k0 := 236) (x := 238) (nx := 68) (r1 := 11) (r2 := 13) (r3 := 0) rfl rfl (by decide) rfl ⟨rfl, rfl⟩ rfl ?_
    refine wi_iconst (n := 4) (nx := 69) (r1 := 0) (r2 := 0) (r3 := 0) rfl ?_
    have b17 := gi_b (lo := 0) (hi := 999) g 238 4 rfl
    refine wr_ia (k0 := 238) (a := 4) (f := 4) (x := h 238 4) (nx := 70) (r1 := 0) (r2 := 0) (r3 := 0) rfl (by decide) rfl (by omega) (by omega) (by decide) rfl ?_
    refine wr_add (nx := 71) (r1 := 0) (r2 := 0) (r3 := 0) rfl (fun e18 (fe18 : e18 = (h 238 i5) + (h 238 4)) => ?_)
    refine wi_i2l (nx := 72) (r1 := 0) (r2 := 0) (r3 := 0) rfl (by omega) ?_
    refine wi_S (rest := []) (as := [vl e14, vl e16, vl e18]) (nx := 75) (r1 := 210) (r2 := 19) (r3 := 0) rfl rfl rfl (of_decide_eq_true rfl) rfl rfl (of_decide_eq_true rfl) (of_decide_eq_true rfl) ?_
    refine wi_lload_n (i := 0) (e := e14) (nx := 1) (r1 := 0) (r2 := 0) (r3 := 0) rfl rfl ?_
    refine wi_lload_n (i := 2) (e := e16) (nx := 2) (r1 := 0) (r2 := 0) (r3 := 0) rfl rfl ?_
    refine wi_lcmp (a := e14) (e := e16) (nx := 3) (r1 := 0) (r2 := 0) (r3 := 0) rfl (by omega) (by omega) (fun r19 (fr19 : (r19 = -1 ∧ e14 < e16) ∨ (r19 = 0 ∧ e14 = e16) ∨ (r19 = 1 ∧ e16 < e14)) => ?_)
    refine wi_if (cd := .lt) (nx := 6) (r1 := 17) (r2 := 0) (r3 := 0) rfl (by omega) (fun (q20 : r19 < 0) => ?_) (fun (q20 : ¬ (r19 < 0)) => ?_)
    ·
      refine wi_iconst (n := 0) (nx := 18) (r1 := 0) (r2 := 0) (r3 := 0) rfl ?_
      refine wi_zreturn (nx := 19) (r1 := 0) (r2 := 0) (r3 := 0) rfl rfl (by omega) ?_
      refine wk_i ?_
      refine wi_if (cd := .ne) (nx := 78) (r1 := 82) (r2 := 0) (r3 := 0) rfl (by omega) (fun (q21 : 0 ≠ 0) => by exfalso; omega) (fun (q21 : ¬ (0 ≠ 0)) => ?_)
      refine wi_ldc_w (e := 1000000) (nx := 81) (r1 := 0) (r2 := 1000000) (r3 := 0) rfl (by decide) ?_
      refine wi_ireturn (nx := 82) (r1 := 0) (r2 := 0) (r3 := 0) rfl rfl ?_
      exact k 1000000 (by omega) (show 1000000 = 1000000 ∨ (h 247 1) < (h 238 99) by omega) (by
          unfold u_by
          have cx_ : h 238 (98 + 1) = h 238 99 := rfl
          rw [if_neg (by omega)]
          rw [show 74 + 6 * 1 + (h 247 1).toNat = i5 by omega]
          unfold u_by1
          rw [if_pos (by omega)])
    ·
      refine wi_lload_n (i := 0) (e := e14) (nx := 7) (r1 := 0) (r2 := 0) (r3 := 0) rfl rfl ?_
      refine wi_lload (i := 4) (e := e18) (nx := 9) (r1 := 0) (r2 := 0) (r3 := 0) rfl rfl ?_
      refine wi_lcmp (a := e14) (e := e18) (nx := 10) (r1 := 0) (r2 := 0) (r3 := 0) rfl (by omega) (by omega) (fun r21 (fr21 : (r21 = -1 ∧ e14 < e18) ∨ (r21 = 0 ∧ e14 = e18) ∨ (r21 = 1 ∧ e18 < e14)) => ?_)
      refine wi_if (cd := .gt) (nx := 13) (r1 := 17) (r2 := 0) (r3 := 0) rfl (by omega) (fun (q22 : 0 < r21) => ?_) (fun (q22 : ¬ (0 < r21)) => ?_)
      ·
        refine wi_iconst (n := 0) (nx := 18) (r1 := 0) (r2 := 0) (r3 := 0) rfl ?_
        refine wi_zreturn (nx := 19) (r1 := 0) (r2 := 0) (r3 := 0) rfl rfl (by omega) ?_
        refine wk_i ?_
        refine wi_if (cd := .ne) (nx := 78) (r1 := 82) (r2 := 0) (r3 := 0) rfl (by omega) (fun (q23 : 0 ≠ 0) => by exfalso; omega) (fun (q23 : ¬ (0 ≠ 0)) => ?_)
        refine wi_ldc_w (e := 1000000) (nx := 81) (r1 := 0) (r2 := 1000000) (r3 := 0) rfl (by decide) ?_
        refine wi_ireturn (nx := 82) (r1 := 0) (r2 := 0) (r3 := 0) rfl rfl ?_
        exact k 1000000 (by omega) (show 1000000 = 1000000 ∨ (h 247 1) < (h 238 99) by omega) (by
            unfold u_by
            have cx_ : h 238 (98 + 1) = h 238 99 := rfl
            rw [if_neg (by omega)]
            rw [show 74 + 6 * 1 + (h 247 1).toNat = i5 by omega]
            unfold u_by1
            rw [if_pos (by omega)])
      ·
        refine wi_iconst (n := 1) (nx := 14) (r1 := 0) (r2 := 0) (r3 := 0) rfl ?_
        refine wi_goto (nx := 17) (r1 := 18) (r2 := 0) (r3 := 0) rfl ?_
        refine wi_zreturn (nx := 19) (r1 := 0) (r2 := 0) (r3 := 0) rfl rfl (by omega) ?_
        refine wk_i ?_
        refine wi_if (cd := .ne) (nx := 78) (r1 := 82) (r2 := 0) (r3 := 0) rfl (by omega) (fun (q23 : 1 ≠ 0) => ?_) (fun (q23 : ¬ (1 ≠ 0)) => by exfalso; omega)
        refine wi_aload_n (i := 0) (x := 236) (nx := 83) (r1 := 0) (r2 := 0) (r3 := 0) rfl rfl ?_
        refine wr_gr (k0 := 236) (x := 238) (nx := 86) (r1 := 11) (r2 := 13) (r3 := 0) rfl rfl (by decide) rfl ⟨rfl, rfl⟩ rfl ?_
        refine wi_bipush (n := 31) (nx := 88) (r1 := 0) (r2 := 0) (r3 := 0) rfl (by decide) ?_
        refine wi_iload (i := 4) (e := h 238 i5) (nx := 90) (r1 := 0) (r2 := 0) (r3 := 0) rfl rfl ?_
        refine wr_add (nx := 91) (r1 := 0) (r2 := 0) (r3 := 0) rfl (fun e24 (fe24 : e24 = 31 + (h 238 i5)) => ?_)
        obtain ⟨i25, ei25⟩ : ∃ q : Nat, e24 = (q : Int) := ⟨(e24).toNat, by omega⟩
        have b26 := gi_b (lo := 0) (hi := 4) g 238 i25 (gi_rg 31 12 (fun _ => rfl) (by decide +kernel) (by omega))
        refine wr_ia (k0 := 238) (a := e24) (f := i25) (x := h 238 i25) (nx := 92) (r1 := 0) (r2 := 0) (r3 := 0) rfl (by decide) rfl (by omega) (by omega) (by decide) rfl ?_
        refine wi_istore (i := 6) (e := h 238 i25) (lo2 := [(6, vi (h 238 i25)), (5, vi e14), (4, vi (h 238 i5)), (0, .ref 236), (1, vi 1), (2, vi a0), (3, vi a1)]) (nx := 94) (r1 := 0) (r2 := 0) (r3 := 0) rfl rfl ?_
        refine wi_iload (i := 6) (e := h 238 i25) (nx := 96) (r1 := 0) (r2 := 0) (r3 := 0) rfl rfl ?_
        refine wi_iload_n (i := 2) (e := a0) (nx := 97) (r1 := 0) (r2 := 0) (r3 := 0) rfl rfl ?_
        refine wi_icmp (cd := .ne) (nx := 100) (r1 := 114) (r2 := 0) (r3 := 0) rfl (by omega) (by omega) (fun (q27 : (h 238 i25) ≠ a0) => ?_) (fun (q27 : ¬ ((h 238 i25) ≠ a0)) => ?_)
        ·
          refine wi_iconst (n := 0) (nx := 115) (r1 := 0) (r2 := 0) (r3 := 0) rfl ?_
          refine wi_istore (i := 7) (e := 0) (lo2 := [(7, vi 0), (6, vi (h 238 i25)), (5, vi e14), (4, vi (h 238 i5)), (0, .ref 236), (1, vi 1), (2, vi a0), (3, vi a1)]) (nx := 117) (r1 := 0) (r2 := 0) (r3 := 0) rfl rfl ?_
          refine wi_iload_n (i := 2) (e := a0) (nx := 118) (r1 := 0) (r2 := 0) (r3 := 0) rfl rfl ?_
          refine wi_iconst (n := 5) (nx := 119) (r1 := 0) (r2 := 0) (r3 := 0) rfl ?_
          refine wi_icmp (cd := .eq) (nx := 122) (r1 := 146) (r2 := 0) (r3 := 0) rfl (by omega) (by omega) (fun (q28 : a0 = 5) => ?_) (fun (q28 : ¬ (a0 = 5)) => ?_)
          ·
            refine wi_iload (i := 7) (e := 0) (nx := 148) (r1 := 0) (r2 := 0) (r3 := 0) rfl rfl ?_
            refine wi_if (cd := .eq) (nx := 151) (r1 := 164) (r2 := 0) (r3 := 0) rfl (by omega) (fun (q29 : 0 = 0) => ?_) (fun (q29 : ¬ (0 = 0)) => by exfalso; omega)
            refine wi_iconst (n := 0) (nx := 165) (r1 := 0) (r2 := 0) (r3 := 0) rfl ?_
            refine wi_istore (i := 8) (e := 0) (lo2 := [(8, vi 0), (7, vi 0), (6, vi (h 238 i25)), (5, vi e14), (4, vi (h 238 i5)), (0, .ref 236), (1, vi 1), (2, vi a0), (3, vi a1)]) (nx := 167) (r1 := 0) (r2 := 0) (r3 := 0) rfl rfl ?_
            refine wi_aload_n (i := 0) (x := 236) (nx := 168) (r1 := 0) (r2 := 0) (r3 := 0) rfl rfl ?_
            refine wr_gr (k0 := 236) (x := 246) (nx := 171) (r1 := 11) (r2 := 29) (r3 := 0) rfl rfl (by decide) rfl ⟨rfl, rfl⟩ rfl ?_
            refine wi_aload_n (i := 0) (x := 236) (nx := 172) (r1 := 0) (r2 := 0) (r3 := 0) rfl rfl ?_
            refine wr_V (k0 := 236) (rest := [.ref 246]) (as := [.ref 236]) (nx := 175) (r1 := 306) (r2 := 0) (r3 := 11) rfl rfl rfl (of_decide_eq_true rfl) rfl rfl (by decide) rfl rfl (of_decide_eq_true rfl) (of_decide_eq_true rfl) ?_
            refine wi_bipush (n := 7) (nx := 2) (r1 := 0) (r2 := 0) (r3 := 0) rfl (by decide) ?_
            refine wi_aload_n (i := 0) (x := 236) (nx := 3) (r1 := 0) (r2 := 0) (r3 := 0) rfl rfl ?_
            refine wr_gr (k0 := 236) (x := 247) (nx := 6) (r1 := 11) (r2 := 30) (r3 := 0) rfl rfl (by decide) rfl ⟨rfl, rfl⟩ rfl ?_
            refine wi_iconst (n := 0) (nx := 7) (r1 := 0) (r2 := 0) (r3 := 0) rfl ?_
            refine wr_ia (k0 := 247) (a := 0) (f := 0) (x := h 247 0) (nx := 8) (r1 := 0) (r2 := 0) (r3 := 0) rfl (by decide) rfl (by omega) (by omega) (by decide) rfl ?_
            refine wr_mul (nx := 9) (r1 := 0) (r2 := 0) (r3 := 0) rfl (fun e30 (fe30 : e30 = 7 * (h 247 0)) => ?_)
            refine wi_aload_n (i := 0) (x := 236) (nx := 10) (r1 := 0) (r2 := 0) (r3 := 0) rfl rfl ?_
            refine wr_gr (k0 := 236) (x := 247) (nx := 13) (r1 := 11) (r2 := 30) (r3 := 0) rfl rfl (by decide) rfl ⟨rfl, rfl⟩ rfl ?_
            refine wi_iconst (n := 1) (nx := 14) (r1 := 0) (r2 := 0) (r3 := 0) rfl ?_
            refine wr_ia (k0 := 247) (a := 1) (f := 1) (x := h 247 1) (nx := 15) (r1 := 0) (r2 := 0) (r3 := 0) rfl (by decide) rfl (by omega) (by omega) (by decide) rfl ?_
            refine wr_add (nx := 16) (r1 := 0) (r2 := 0) (r3 := 0) rfl (fun e31 (fe31 : e31 = e30 + (h 247 1)) => ?_)
            refine wi_bipush (n := 7) (nx := 18) (r1 := 0) (r2 := 0) (r3 := 0) rfl (by decide) ?_
            refine wr_mul (nx := 19) (r1 := 0) (r2 := 0) (r3 := 0) rfl (fun e32 (fe32 : e32 = e31 * 7) => ?_)
            refine wi_aload_n (i := 0) (x := 236) (nx := 20) (r1 := 0) (r2 := 0) (r3 := 0) rfl rfl ?_
            refine wr_gr (k0 := 236) (x := 247) (nx := 23) (r1 := 11) (r2 := 30) (r3 := 0) rfl rfl (by decide) rfl ⟨rfl, rfl⟩ rfl ?_
            refine wi_iconst (n := 2) (nx := 24) (r1 := 0) (r2 := 0) (r3 := 0) rfl ?_
            refine wr_ia (k0 := 247) (a := 2) (f := 2) (x := h 247 2) (nx := 25) (r1 := 0) (r2 := 0) (r3 := 0) rfl (by decide) rfl (by omega) (by omega) (by decide) rfl ?_
            refine wr_add (nx := 26) (r1 := 0) (r2 := 0) (r3 := 0) rfl (fun e33 (fe33 : e33 = e32 + (h 247 2)) => ?_)
            refine wi_bipush (n := 7) (nx := 28) (r1 := 0) (r2 := 0) (r3 := 0) rfl (by decide) ?_
            refine wr_mul (nx := 29) (r1 := 0) (r2 := 0) (r3 := 0) rfl (fun e34 (fe34 : e34 = e33 * 7) => ?_)
            refine wi_aload_n (i := 0) (x := 236) (nx := 30) (r1 := 0) (r2 := 0) (r3 := 0) rfl rfl ?_
            refine wr_gr (k0 := 236) (x := 247) (nx := 33) (r1 := 11) (r2 := 30) (r3 := 0) rfl rfl (by decide) rfl ⟨rfl, rfl⟩ rfl ?_
            refine wi_iconst (n := 3) (nx := 34) (r1 := 0) (r2 := 0) (r3 := 0) rfl ?_
            refine wr_ia (k0 := 247) (a := 3) (f := 3) (x := h 247 3) (nx := 35) (r1 := 0) (r2 := 0) (r3 := 0) rfl (by decide) rfl (by omega) (by omega) (by decide) rfl ?_
            refine wr_add (nx := 36) (r1 := 0) (r2 := 0) (r3 := 0) rfl (fun e35 (fe35 : e35 = e34 + (h 247 3)) => ?_)
            refine wi_ireturn (nx := 37) (r1 := 0) (r2 := 0) (r3 := 0) rfl rfl ?_
            refine wk_i ?_
            refine wi_iload_n (i := 1) (e := 1) (nx := 176) (r1 := 0) (r2 := 0) (r3 := 0) rfl rfl ?_
            refine wi_S (rest := [vi e35, .ref 246]) (as := [vi 1]) (nx := 179) (r1 := 307) (r2 := 17) (r3 := 0) rfl rfl rfl (of_decide_eq_true rfl) rfl rfl (of_decide_eq_true rfl) (of_decide_eq_true rfl) ?_
            refine wi_iload_n (i := 0) (e := 1) (nx := 1) (r1 := 0) (r2 := 0) (r3 := 0) rfl rfl ?_
            refine wi_if (cd := .ne) (nx := 4) (r1 := 10) (r2 := 0) (r3 := 0) rfl (by omega) (fun (q36 : 1 ≠ 0) => ?_) (fun (q36 : ¬ (1 ≠ 0)) => by exfalso; omega)
            refine wi_iload_n (i := 0) (e := 1) (nx := 11) (r1 := 0) (r2 := 0) (r3 := 0) rfl rfl ?_
            refine wi_iconst (n := 1) (nx := 12) (r1 := 0) (r2 := 0) (r3 := 0) rfl ?_
            refine wi_icmp (cd := .ne) (nx := 15) (r1 := 20) (r2 := 0) (r3 := 0) rfl (by omega) (by omega) (fun (q37 : 1 ≠ 1) => by exfalso; omega) (fun (q37 : ¬ (1 ≠ 1)) => ?_)
            refine wi_bipush (n := 49) (nx := 17) (r1 := 0) (r2 := 0) (r3 := 0) rfl (by decide) ?_
            refine wi_goto (nx := 20) (r1 := 31) (r2 := 0) (r3 := 0) rfl ?_
            refine wi_ireturn (nx := 32) (r1 := 0) (r2 := 0) (r3 := 0) rfl rfl ?_
            refine wk_i ?_
            refine wr_add (nx := 180) (r1 := 0) (r2 := 0) (r3 := 0) rfl (fun e38 (fe38 : e38 = e35 + 49) => ?_)
            refine wi_iload (i := 6) (e := h 238 i25) (nx := 182) (r1 := 0) (r2 := 0) (r3 := 0) rfl rfl ?_
            refine wi_iload (i := 6) (e := h 238 i25) (nx := 184) (r1 := 0) (r2 := 0) (r3 := 0) rfl rfl ?_
            refine wi_iload_n (i := 2) (e := a0) (nx := 185) (r1 := 0) (r2 := 0) (r3 := 0) rfl rfl ?_
            refine wi_icmp (cd := .ne) (nx := 188) (r1 := 199) (r2 := 0) (r3 := 0) rfl (by omega) (by omega) (fun (q39 : (h 238 i25) ≠ a0) => ?_) (fun (q39 : ¬ ((h 238 i25) ≠ a0)) => by exfalso; omega)
            refine wi_iconst (n := 1) (nx := 200) (r1 := 0) (r2 := 0) (r3 := 0) rfl ?_
            refine wi_S (rest := [.ref 246]) (as := [vi e38, vi (h 238 i25), vi 1]) (nx := 203) (r1 := 308) (r2 := 19) (r3 := 0) rfl rfl rfl (of_decide_eq_true rfl) rfl rfl (of_decide_eq_true rfl) (of_decide_eq_true rfl) ?_
            refine wi_bipush (n := 6) (nx := 2) (r1 := 0) (r2 := 0) (r3 := 0) rfl (by decide) ?_
            refine wi_iload_n (i := 0) (e := e38) (nx := 3) (r1 := 0) (r2 := 0) (r3 := 0) rfl rfl ?_
            refine wr_mul (nx := 4) (r1 := 0) (r2 := 0) (r3 := 0) rfl (fun e40 (fe40 : e40 = 6 * e38) => ?_)
            refine wi_iload_n (i := 1) (e := h 238 i25) (nx := 5) (r1 := 0) (r2 := 0) (r3 := 0) rfl rfl ?_
            refine wr_add (nx := 6) (r1 := 0) (r2 := 0) (r3 := 0) rfl (fun e41 (fe41 : e41 = e40 + (h 238 i25)) => ?_)
            refine wi_bipush (n := 10) (nx := 8) (r1 := 0) (r2 := 0) (r3 := 0) rfl (by decide) ?_
            refine wr_mul (nx := 9) (r1 := 0) (r2 := 0) (r3 := 0) rfl (fun e42 (fe42 : e42 = e41 * 10) => ?_)
            refine wi_iload_n (i := 2) (e := 1) (nx := 10) (r1 := 0) (r2 := 0) (r3 := 0) rfl rfl ?_
            refine wr_add (nx := 11) (r1 := 0) (r2 := 0) (r3 := 0) rfl (fun e43 (fe43 : e43 = e42 + 1) => ?_)
            refine wi_ireturn (nx := 12) (r1 := 0) (r2 := 0) (r3 := 0) rfl rfl ?_
            refine wk_i ?_
            obtain ⟨i44, ei44⟩ : ∃ q : Nat, e43 = (q : Int) := ⟨(e43).toNat, by omega⟩
            have b45 := gi_b (lo := 0) (hi := 1000000) g 246 i44 rfl
            refine wr_ia (k0 := 246) (a := e43) (f := i44) (x := h 246 i44) (nx := 204) (r1 := 0) (r2 := 0) (r3 := 0) rfl (by decide) rfl (by omega) (by omega) (by decide) rfl ?_
            refine wi_istore (i := 9) (e := h 246 i44) (lo2 := [(9, vi (h 246 i44)), (8, vi 0), (7, vi 0), (6, vi (h 238 i25)), (5, vi e14), (4, vi (h 238 i5)), (0, .ref 236), (1, vi 1), (2, vi a0), (3, vi a1)]) (nx := 206) (r1 := 0) (r2 := 0) (r3 := 0) rfl rfl ?_
            refine wi_iload (i := 9) (e := h 246 i44) (nx := 208) (r1 := 0) (r2 := 0) (r3 := 0) rfl rfl ?_
            refine wi_ldc_w (e := 1000000) (nx := 211) (r1 := 0) (r2 := 1000000) (r3 := 0) rfl (by decide) ?_
            refine wi_icmp (cd := .ne) (nx := 214) (r1 := 220) (r2 := 0) (r3 := 0) rfl (by omega) (by omega) (fun (q46 : (h 246 i44) ≠ 1000000) => ?_) (fun (q46 : ¬ ((h 246 i44) ≠ 1000000)) => ?_)
            ·
              refine wi_iload (i := 8) (e := 0) (nx := 222) (r1 := 0) (r2 := 0) (r3 := 0) rfl rfl ?_
              refine wi_iload (i := 9) (e := h 246 i44) (nx := 224) (r1 := 0) (r2 := 0) (r3 := 0) rfl rfl ?_
              refine wr_add (nx := 225) (r1 := 0) (r2 := 0) (r3 := 0) rfl (fun e47 (fe47 : e47 = 0 + (h 246 i44)) => ?_)
              refine wi_ireturn (nx := 226) (r1 := 0) (r2 := 0) (r3 := 0) rfl rfl ?_
              exact k e47 (by omega) (show e47 = 1000000 ∨ (h 247 1) < (h 238 99) by omega) (by
                  unfold u_by
                  have cx_ : h 238 (98 + 1) = h 238 99 := rfl
                  rw [if_neg (by omega)]
                  rw [show 74 + 6 * 1 + (h 247 1).toNat = i5 by omega]
                  unfold u_by1
                  rw [if_neg (by omega)]
                  rw [show 31 + (h 238 i5).toNat = i25 by omega]
                  unfold u_by2
                  rw [show u_ix (h 238) (h 247) 1 a0 a1 (h 238 i25) = i44 by unfold u_ix wt; (repeat (first | rw [if_pos (by omega)] | rw [if_neg (by omega)])); omega]
                  unfold u_by3
                  (repeat (first | rw [if_pos (by omega)] | rw [if_neg (by omega)]))
                  all_goals omega)
            ·
              refine wi_ldc_w (e := 1000000) (nx := 217) (r1 := 0) (r2 := 1000000) (r3 := 0) rfl (by decide) ?_
              refine wi_goto (nx := 220) (r1 := 225) (r2 := 0) (r3 := 0) rfl ?_
              refine wi_ireturn (nx := 226) (r1 := 0) (r2 := 0) (r3 := 0) rfl rfl ?_
              exact k 1000000 (by omega) (show 1000000 = 1000000 ∨ (h 247 1) < (h 238 99) by omega) (by
                  unfold u_by
                  have cx_ : h 238 (98 + 1) = h 238 99 := rfl
                  rw [if_neg (by omega)]
                  rw [show 74 + 6 * 1 + (h 247 1).toNat = i5 by omega]
                  unfold u_by1
                  rw [if_neg (by omega)]
                  rw [show 31 + (h 238 i5).toNat = i25 by omega]
                  unfold u_by2
                  rw [show u_ix (h 238) (h 247) 1 a0 a1 (h 238 i25) = i44 by unfold u_ix wt; (repeat (first | rw [if_pos (by omega)] | rw [if_neg (by omega)])); omega]
                  unfold u_by3
                  (repeat (first | rw [if_pos (by omega)] | rw [if_neg (by omega)]))
                  all_goals omega)
          ·
            refine wi_iload (i := 6) (e := h 238 i25) (nx := 124) (r1 := 0) (r2 := 0) (r3 := 0) rfl rfl ?_
            refine wi_iload_n (i := 2) (e := a0) (nx := 125) (r1 := 0) (r2 := 0) (r3 := 0) rfl rfl ?_
            refine wi_icmp (cd := .eq) (nx := 128) (r1 := 146) (r2 := 0) (r3 := 0) rfl (by omega) (by omega) (fun (q29 : (h 238 i25) = a0) => by exfalso; omega) (fun (q29 : ¬ ((h 238 i25) = a0)) => ?_)
            refine wi_bipush (n := 100) (nx := 130) (r1 := 0) (r2 := 0) (r3 := 0) rfl (by decide) ?_
            refine wi_aload_n (i := 0) (x := 236) (nx := 131) (r1 := 0) (r2 := 0) (r3 := 0) rfl rfl ?_
            refine wr_gr (k0 := 236) (x := 238) (nx := 134) (r1 := 11) (r2 := 13) (r3 := 0) rfl rfl (by decide) rfl ⟨rfl, rfl⟩ rfl ?_
            refine wi_bipush (n := 10) (nx := 136) (r1 := 0) (r2 := 0) (r3 := 0) rfl (by decide) ?_
            refine wi_iload (i := 6) (e := h 238 i25) (nx := 138) (r1 := 0) (r2 := 0) (r3 := 0) rfl rfl ?_
            refine wr_add (nx := 139) (r1 := 0) (r2 := 0) (r3 := 0) rfl (fun e30 (fe30 : e30 = 10 + (h 238 i25)) => ?_)
            obtain ⟨i31, ei31⟩ : ∃ q : Nat, e30 = (q : Int) := ⟨(e30).toNat, by omega⟩
            have b32 := gi_b (lo := 0) (hi := 999) g 238 i31 (gi_rg 10 5 (fun _ => rfl) (by decide +kernel) (by omega))
            refine wr_ia (k0 := 238) (a := e30) (f := i31) (x := h 238 i31) (nx := 140) (r1 := 0) (r2 := 0) (r3 := 0) rfl (by decide) rfl (by omega) (by omega) (by decide) rfl ?_
            refine wr_mul (nx := 141) (r1 := 0) (r2 := 0) (r3 := 0) rfl (fun e33 (fe33 : e33 = 100 * (h 238 i31)) => ?_)
            refine wi_iconst (n := 1) (nx := 142) (r1 := 0) (r2 := 0) (r3 := 0) rfl ?_
            refine wr_add (nx := 143) (r1 := 0) (r2 := 0) (r3 := 0) rfl (fun e34 (fe34 : e34 = e33 + 1) => ?_)
            refine wi_goto (nx := 146) (r1 := 165) (r2 := 0) (r3 := 0) rfl ?_
            refine wi_istore (i := 8) (e := e34) (lo2 := [(8, vi e34), (7, vi 0), (6, vi (h 238 i25)), (5, vi e14), (4, vi (h 238 i5)), (0, .ref 236), (1, vi 1), (2, vi a0), (3, vi a1)]) (nx := 167) (r1 := 0) (r2 := 0) (r3 := 0) rfl rfl ?_
            refine wi_aload_n (i := 0) (x := 236) (nx := 168) (r1 := 0) (r2 := 0) (r3 := 0) rfl rfl ?_
            refine wr_gr (k0 := 236) (x := 246) (nx := 171) (r1 := 11) (r2 := 29) (r3 := 0) rfl rfl (by decide) rfl ⟨rfl, rfl⟩ rfl ?_
            refine wi_aload_n (i := 0) (x := 236) (nx := 172) (r1 := 0) (r2 := 0) (r3 := 0) rfl rfl ?_
            refine wr_V (k0 := 236) (rest := [.ref 246]) (as := [.ref 236]) (nx := 175) (r1 := 306) (r2 := 0) (r3 := 11) rfl rfl rfl (of_decide_eq_true rfl) rfl rfl (by decide) rfl rfl (of_decide_eq_true rfl) (of_decide_eq_true rfl) ?_
            refine wi_bipush (n := 7) (nx := 2) (r1 := 0) (r2 := 0) (r3 := 0) rfl (by decide) ?_
            refine wi_aload_n (i := 0) (x := 236) (nx := 3) (r1 := 0) (r2 := 0) (r3 := 0) rfl rfl ?_
            refine wr_gr (k0 := 236) (x := 247) (nx := 6) (r1 := 11) (r2 := 30) (r3 := 0) rfl rfl (by decide) rfl ⟨rfl, rfl⟩ rfl ?_
            refine wi_iconst (n := 0) (nx := 7) (r1 := 0) (r2 := 0) (r3 := 0) rfl ?_
            refine wr_ia (k0 := 247) (a := 0) (f := 0) (x := h 247 0) (nx := 8) (r1 := 0) (r2 := 0) (r3 := 0) rfl (by decide) rfl (by omega) (by omega) (by decide) rfl ?_
            refine wr_mul (nx := 9) (r1 := 0) (r2 := 0) (r3 := 0) rfl (fun e35 (fe35 : e35 = 7 * (h 247 0)) => ?_)
            refine wi_aload_n (i := 0) (x := 236) (nx := 10) (r1 := 0) (r2 := 0) (r3 := 0) rfl rfl ?_
            refine wr_gr (k0 := 236) (x := 247) (nx := 13) (r1 := 11) (r2 := 30) (r3 := 0) rfl rfl (by decide) rfl ⟨rfl, rfl⟩ rfl ?_
            refine wi_iconst (n := 1) (nx := 14) (r1 := 0) (r2 := 0) (r3 := 0) rfl ?_
            refine wr_ia (k0 := 247) (a := 1) (f := 1) (x := h 247 1) (nx := 15) (r1 := 0) (r2 := 0) (r3 := 0) rfl (by decide) rfl (by omega) (by omega) (by decide) rfl ?_
            refine wr_add (nx := 16) (r1 := 0) (r2 := 0) (r3 := 0) rfl (fun e36 (fe36 : e36 = e35 + (h 247 1)) => ?_)
            refine wi_bipush (n := 7) (nx := 18) (r1 := 0) (r2 := 0) (r3 := 0) rfl (by decide) ?_
            refine wr_mul (nx := 19) (r1 := 0) (r2 := 0) (r3 := 0) rfl (fun e37 (fe37 : e37 = e36 * 7) => ?_)
            refine wi_aload_n (i := 0) (x := 236) (nx := 20) (r1 := 0) (r2 := 0) (r3 := 0) rfl rfl ?_
            refine wr_gr (k0 := 236) (x := 247) (nx := 23) (r1 := 11) (r2 := 30) (r3 := 0) rfl rfl (by decide) rfl ⟨rfl, rfl⟩ rfl ?_
            refine wi_iconst (n := 2) (nx := 24) (r1 := 0) (r2 := 0) (r3 := 0) rfl ?_
            refine wr_ia (k0 := 247) (a := 2) (f := 2) (x := h 247 2) (nx := 25) (r1 := 0) (r2 := 0) (r3 := 0) rfl (by decide) rfl (by omega) (by omega) (by decide) rfl ?_
            refine wr_add (nx := 26) (r1 := 0) (r2 := 0) (r3 := 0) rfl (fun e38 (fe38 : e38 = e37 + (h 247 2)) => ?_)
            refine wi_bipush (n := 7) (nx := 28) (r1 := 0) (r2 := 0) (r3 := 0) rfl (by decide) ?_
            refine wr_mul (nx := 29) (r1 := 0) (r2 := 0) (r3 := 0) rfl (fun e39 (fe39 : e39 = e38 * 7) => ?_)
            refine wi_aload_n (i := 0) (x := 236) (nx := 30) (r1 := 0) (r2 := 0) (r3 := 0) rfl rfl ?_
            refine wr_gr (k0 := 236) (x := 247) (nx := 33) (r1 := 11) (r2 := 30) (r3 := 0) rfl rfl (by decide) rfl ⟨rfl, rfl⟩ rfl ?_
            refine wi_iconst (n := 3) (nx := 34) (r1 := 0) (r2 := 0) (r3 := 0) rfl ?_
            refine wr_ia (k0 := 247) (a := 3) (f := 3) (x := h 247 3) (nx := 35) (r1 := 0) (r2 := 0) (r3 := 0) rfl (by decide) rfl (by omega) (by omega) (by decide) rfl ?_
            refine wr_add (nx := 36) (r1 := 0) (r2 := 0) (r3 := 0) rfl (fun e40 (fe40 : e40 = e39 + (h 247 3)) => ?_)
            refine wi_ireturn (nx := 37) (r1 := 0) (r2 := 0) (r3 := 0) rfl rfl ?_
            refine wk_i ?_
            refine wi_iload_n (i := 1) (e := 1) (nx := 176) (r1 := 0) (r2 := 0) (r3 := 0) rfl rfl ?_
            refine wi_S (rest := [vi e40, .ref 246]) (as := [vi 1]) (nx := 179) (r1 := 307) (r2 := 17) (r3 := 0) rfl rfl rfl (of_decide_eq_true rfl) rfl rfl (of_decide_eq_true rfl) (of_decide_eq_true rfl) ?_
            refine wi_iload_n (i := 0) (e := 1) (nx := 1) (r1 := 0) (r2 := 0) (r3 := 0) rfl rfl ?_
            refine wi_if (cd := .ne) (nx := 4) (r1 := 10) (r2 := 0) (r3 := 0) rfl (by omega) (fun (q41 : 1 ≠ 0) => ?_) (fun (q41 : ¬ (1 ≠ 0)) => by exfalso; omega)
            refine wi_iload_n (i := 0) (e := 1) (nx := 11) (r1 := 0) (r2 := 0) (r3 := 0) rfl rfl ?_
            refine wi_iconst (n := 1) (nx := 12) (r1 := 0) (r2 := 0) (r3 := 0) rfl ?_
            refine wi_icmp (cd := .ne) (nx := 15) (r1 := 20) (r2 := 0) (r3 := 0) rfl (by omega) (by omega) (fun (q42 : 1 ≠ 1) => by exfalso; omega) (fun (q42 : ¬ (1 ≠ 1)) => ?_)
            refine wi_bipush (n := 49) (nx := 17) (r1 := 0) (r2 := 0) (r3 := 0) rfl (by decide) ?_
            refine wi_goto (nx := 20) (r1 := 31) (r2 := 0) (r3 := 0) rfl ?_
            refine wi_ireturn (nx := 32) (r1 := 0) (r2 := 0) (r3 := 0) rfl rfl ?_
            refine wk_i ?_
            refine wr_add (nx := 180) (r1 := 0) (r2 := 0) (r3 := 0) rfl (fun e43 (fe43 : e43 = e40 + 49) => ?_)
            refine wi_iload (i := 6) (e := h 238 i25) (nx := 182) (r1 := 0) (r2 := 0) (r3 := 0) rfl rfl ?_
            refine wi_iload (i := 6) (e := h 238 i25) (nx := 184) (r1 := 0) (r2 := 0) (r3 := 0) rfl rfl ?_
            refine wi_iload_n (i := 2) (e := a0) (nx := 185) (r1 := 0) (r2 := 0) (r3 := 0) rfl rfl ?_
            refine wi_icmp (cd := .ne) (nx := 188) (r1 := 199) (r2 := 0) (r3 := 0) rfl (by omega) (by omega) (fun (q44 : (h 238 i25) ≠ a0) => ?_) (fun (q44 : ¬ ((h 238 i25) ≠ a0)) => by exfalso; omega)
            refine wi_iconst (n := 1) (nx := 200) (r1 := 0) (r2 := 0) (r3 := 0) rfl ?_
            refine wi_S (rest := [.ref 246]) (as := [vi e43, vi (h 238 i25), vi 1]) (nx := 203) (r1 := 308) (r2 := 19) (r3 := 0) rfl rfl rfl (of_decide_eq_true rfl) rfl rfl (of_decide_eq_true rfl) (of_decide_eq_true rfl) ?_
            refine wi_bipush (n := 6) (nx := 2) (r1 := 0) (r2 := 0) (r3 := 0) rfl (by decide) ?_
            refine wi_iload_n (i := 0) (e := e43) (nx := 3) (r1 := 0) (r2 := 0) (r3 := 0) rfl rfl ?_
            refine wr_mul (nx := 4) (r1 := 0) (r2 := 0) (r3 := 0) rfl (fun e45 (fe45 : e45 = 6 * e43) => ?_)
            refine wi_iload_n (i := 1) (e := h 238 i25) (nx := 5) (r1 := 0) (r2 := 0) (r3 := 0) rfl rfl ?_
            refine wr_add (nx := 6) (r1 := 0) (r2 := 0) (r3 := 0) rfl (fun e46 (fe46 : e46 = e45 + (h 238 i25)) => ?_)
            refine wi_bipush (n := 10) (nx := 8) (r1 := 0) (r2 := 0) (r3 := 0) rfl (by decide) ?_
            refine wr_mul (nx := 9) (r1 := 0) (r2 := 0) (r3 := 0) rfl (fun e47 (fe47 : e47 = e46 * 10) => ?_)
            refine wi_iload_n (i := 2) (e := 1) (nx := 10) (r1 := 0) (r2 := 0) (r3 := 0) rfl rfl ?_
            refine wr_add (nx := 11) (r1 := 0) (r2 := 0) (r3 := 0) rfl (fun e48 (fe48 : e48 = e47 + 1) => ?_)
            refine wi_ireturn (nx := 12) (r1 := 0) (r2 := 0) (r3 := 0) rfl rfl ?_
            refine wk_i ?_
            obtain ⟨i49, ei49⟩ : ∃ q : Nat, e48 = (q : Int) := ⟨(e48).toNat, by omega⟩
            have b50 := gi_b (lo := 0) (hi := 1000000) g 246 i49 rfl
            refine wr_ia (k0 := 246) (a := e48) (f := i49) (x := h 246 i49) (nx := 204) (r1 := 0) (r2 := 0) (r3 := 0) rfl (by decide) rfl (by omega) (by omega) (by decide) rfl ?_
            refine wi_istore (i := 9) (e := h 246 i49) (lo2 := [(9, vi (h 246 i49)), (8, vi e34), (7, vi 0), (6, vi (h 238 i25)), (5, vi e14), (4, vi (h 238 i5)), (0, .ref 236), (1, vi 1), (2, vi a0), (3, vi a1)]) (nx := 206) (r1 := 0) (r2 := 0) (r3 := 0) rfl rfl ?_
            refine wi_iload (i := 9) (e := h 246 i49) (nx := 208) (r1 := 0) (r2 := 0) (r3 := 0) rfl rfl ?_
            refine wi_ldc_w (e := 1000000) (nx := 211) (r1 := 0) (r2 := 1000000) (r3 := 0) rfl (by decide) ?_
            refine wi_icmp (cd := .ne) (nx := 214) (r1 := 220) (r2 := 0) (r3 := 0) rfl (by omega) (by omega) (fun (q51 : (h 246 i49) ≠ 1000000) => ?_) (fun (q51 : ¬ ((h 246 i49) ≠ 1000000)) => ?_)
            ·
              refine wi_iload (i := 8) (e := e34) (nx := 222) (r1 := 0) (r2 := 0) (r3 := 0) rfl rfl ?_
              refine wi_iload (i := 9) (e := h 246 i49) (nx := 224) (r1 := 0) (r2 := 0) (r3 := 0) rfl rfl ?_
              refine wr_add (nx := 225) (r1 := 0) (r2 := 0) (r3 := 0) rfl (fun e52 (fe52 : e52 = e34 + (h 246 i49)) => ?_)
              refine wi_ireturn (nx := 226) (r1 := 0) (r2 := 0) (r3 := 0) rfl rfl ?_
              exact k e52 (by omega) (show e52 = 1000000 ∨ (h 247 1) < (h 238 99) by omega) (by
                  unfold u_by
                  have cx_ : h 238 (98 + 1) = h 238 99 := rfl
                  rw [if_neg (by omega)]
                  rw [show 74 + 6 * 1 + (h 247 1).toNat = i5 by omega]
                  unfold u_by1
                  rw [if_neg (by omega)]
                  rw [show 31 + (h 238 i5).toNat = i25 by omega]
                  unfold u_by2
                  rw [show 10 + (h 238 i25).toNat = i31 by omega]
                  rw [show u_ix (h 238) (h 247) 1 a0 a1 (h 238 i25) = i49 by unfold u_ix wt; (repeat (first | rw [if_pos (by omega)] | rw [if_neg (by omega)])); omega]
                  unfold u_by3
                  (repeat (first | rw [if_pos (by omega)] | rw [if_neg (by omega)]))
                  all_goals omega)
            ·
              refine wi_ldc_w (e := 1000000) (nx := 217) (r1 := 0) (r2 := 1000000) (r3 := 0) rfl (by decide) ?_
              refine wi_goto (nx := 220) (r1 := 225) (r2 := 0) (r3 := 0) rfl ?_
              refine wi_ireturn (nx := 226) (r1 := 0) (r2 := 0) (r3 := 0) rfl rfl ?_
              exact k 1000000 (by omega) (show 1000000 = 1000000 ∨ (h 247 1) < (h 238 99) by omega) (by
                  unfold u_by
                  have cx_ : h 238 (98 + 1) = h 238 99 := rfl
                  rw [if_neg (by omega)]
                  rw [show 74 + 6 * 1 + (h 247 1).toNat = i5 by omega]
                  unfold u_by1
                  rw [if_neg (by omega)]
                  rw [show 31 + (h 238 i5).toNat = i25 by omega]
                  unfold u_by2
                  rw [show 10 + (h 238 i25).toNat = i31 by omega]
                  rw [show u_ix (h 238) (h 247) 1 a0 a1 (h 238 i25) = i49 by unfold u_ix wt; (repeat (first | rw [if_pos (by omega)] | rw [if_neg (by omega)])); omega]
                  unfold u_by3
                  (repeat (first | rw [if_pos (by omega)] | rw [if_neg (by omega)]))
                  all_goals omega)
        ·
          refine wi_iload_n (i := 3) (e := a1) (nx := 101) (r1 := 0) (r2 := 0) (r3 := 0) rfl rfl ?_
          refine wi_aload_n (i := 0) (x := 236) (nx := 102) (r1 := 0) (r2 := 0) (r3 := 0) rfl rfl ?_
          refine wr_gr (k0 := 236) (x := 238) (nx := 105) (r1 := 11) (r2 := 13) (r3 := 0) rfl rfl (by decide) rfl ⟨rfl, rfl⟩ rfl ?_
          refine wi_iconst (n := 5) (nx := 106) (r1 := 0) (r2 := 0) (r3 := 0) rfl ?_
          have b28 := gi_b (lo := 0) (hi := 9) g 238 5 rfl
          refine wr_ia (k0 := 238) (a := 5) (f := 5) (x := h 238 5) (nx := 107) (r1 := 0) (r2 := 0) (r3 := 0) rfl (by decide) rfl (by omega) (by omega) (by decide) rfl ?_
          refine wi_icmp (cd := .ne) (nx := 110) (r1 := 114) (r2 := 0) (r3 := 0) rfl (by omega) (by omega) (fun (q29 : a1 ≠ (h 238 5)) => ?_) (fun (q29 : ¬ (a1 ≠ (h 238 5))) => ?_)
          ·
            refine wi_iconst (n := 0) (nx := 115) (r1 := 0) (r2 := 0) (r3 := 0) rfl ?_
            refine wi_istore (i := 7) (e := 0) (lo2 := [(7, vi 0), (6, vi (h 238 i25)), (5, vi e14), (4, vi (h 238 i5)), (0, .ref 236), (1, vi 1), (2, vi a0), (3, vi a1)]) (nx := 117) (r1 := 0) (r2 := 0) (r3 := 0) rfl rfl ?_
            refine wi_iload_n (i := 2) (e := a0) (nx := 118) (r1 := 0) (r2 := 0) (r3 := 0) rfl rfl ?_
            refine wi_iconst (n := 5) (nx := 119) (r1 := 0) (r2 := 0) (r3 := 0) rfl ?_
            refine wi_icmp (cd := .eq) (nx := 122) (r1 := 146) (r2 := 0) (r3 := 0) rfl (by omega) (by omega) (fun (q30 : a0 = 5) => by exfalso; omega) (fun (q30 : ¬ (a0 = 5)) => ?_)
            refine wi_iload (i := 6) (e := h 238 i25) (nx := 124) (r1 := 0) (r2 := 0) (r3 := 0) rfl rfl ?_
            refine wi_iload_n (i := 2) (e := a0) (nx := 125) (r1 := 0) (r2 := 0) (r3 := 0) rfl rfl ?_
            refine wi_icmp (cd := .eq) (nx := 128) (r1 := 146) (r2 := 0) (r3 := 0) rfl (by omega) (by omega) (fun (q31 : (h 238 i25) = a0) => ?_) (fun (q31 : ¬ ((h 238 i25) = a0)) => by exfalso; omega)
            refine wi_iload (i := 7) (e := 0) (nx := 148) (r1 := 0) (r2 := 0) (r3 := 0) rfl rfl ?_
            refine wi_if (cd := .eq) (nx := 151) (r1 := 164) (r2 := 0) (r3 := 0) rfl (by omega) (fun (q32 : 0 = 0) => ?_) (fun (q32 : ¬ (0 = 0)) => by exfalso; omega)
            refine wi_iconst (n := 0) (nx := 165) (r1 := 0) (r2 := 0) (r3 := 0) rfl ?_
            refine wi_istore (i := 8) (e := 0) (lo2 := [(8, vi 0), (7, vi 0), (6, vi (h 238 i25)), (5, vi e14), (4, vi (h 238 i5)), (0, .ref 236), (1, vi 1), (2, vi a0), (3, vi a1)]) (nx := 167) (r1 := 0) (r2 := 0) (r3 := 0) rfl rfl ?_
            refine wi_aload_n (i := 0) (x := 236) (nx := 168) (r1 := 0) (r2 := 0) (r3 := 0) rfl rfl ?_
            refine wr_gr (k0 := 236) (x := 246) (nx := 171) (r1 := 11) (r2 := 29) (r3 := 0) rfl rfl (by decide) rfl ⟨rfl, rfl⟩ rfl ?_
            refine wi_aload_n (i := 0) (x := 236) (nx := 172) (r1 := 0) (r2 := 0) (r3 := 0) rfl rfl ?_
            refine wr_V (k0 := 236) (rest := [.ref 246]) (as := [.ref 236]) (nx := 175) (r1 := 306) (r2 := 0) (r3 := 11) rfl rfl rfl (of_decide_eq_true rfl) rfl rfl (by decide) rfl rfl (of_decide_eq_true rfl) (of_decide_eq_true rfl) ?_
            refine wi_bipush (n := 7) (nx := 2) (r1 := 0) (r2 := 0) (r3 := 0) rfl (by decide) ?_
            refine wi_aload_n (i := 0) (x := 236) (nx := 3) (r1 := 0) (r2 := 0) (r3 := 0) rfl rfl ?_
            refine wr_gr (k0 := 236) (x := 247) (nx := 6) (r1 := 11) (r2 := 30) (r3 := 0) rfl rfl (by decide) rfl ⟨rfl, rfl⟩ rfl ?_
            refine wi_iconst (n := 0) (nx := 7) (r1 := 0) (r2 := 0) (r3 := 0) rfl ?_
            refine wr_ia (k0 := 247) (a := 0) (f := 0) (x := h 247 0) (nx := 8) (r1 := 0) (r2 := 0) (r3 := 0) rfl (by decide) rfl (by omega) (by omega) (by decide) rfl ?_
            refine wr_mul (nx := 9) (r1 := 0) (r2 := 0) (r3 := 0) rfl (fun e33 (fe33 : e33 = 7 * (h 247 0)) => ?_)
            refine wi_aload_n (i := 0) (x := 236) (nx := 10) (r1 := 0) (r2 := 0) (r3 := 0) rfl rfl ?_
            refine wr_gr (k0 := 236) (x := 247) (nx := 13) (r1 := 11) (r2 := 30) (r3 := 0) rfl rfl (by decide) rfl ⟨rfl, rfl⟩ rfl ?_
            refine wi_iconst (n := 1) (nx := 14) (r1 := 0) (r2 := 0) (r3 := 0) rfl ?_
            refine wr_ia (k0 := 247) (a := 1) (f := 1) (x := h 247 1) (nx := 15) (r1 := 0) (r2 := 0) (r3 := 0) rfl (by decide) rfl (by omega) (by omega) (by decide) rfl ?_
            refine wr_add (nx := 16) (r1 := 0) (r2 := 0) (r3 := 0) rfl (fun e34 (fe34 : e34 = e33 + (h 247 1)) => ?_)
            refine wi_bipush (n := 7) (nx := 18) (r1 := 0) (r2 := 0) (r3 := 0) rfl (by decide) ?_
            refine wr_mul (nx := 19) (r1 := 0) (r2 := 0) (r3 := 0) rfl (fun e35 (fe35 : e35 = e34 * 7) => ?_)
            refine wi_aload_n (i := 0) (x := 236) (nx := 20) (r1 := 0) (r2 := 0) (r3 := 0) rfl rfl ?_
            refine wr_gr (k0 := 236) (x := 247) (nx := 23) (r1 := 11) (r2 := 30) (r3 := 0) rfl rfl (by decide) rfl ⟨rfl, rfl⟩ rfl ?_
            refine wi_iconst (n := 2) (nx := 24) (r1 := 0) (r2 := 0) (r3 := 0) rfl ?_
            refine wr_ia (k0 := 247) (a := 2) (f := 2) (x := h 247 2) (nx := 25) (r1 := 0) (r2 := 0) (r3 := 0) rfl (by decide) rfl (by omega) (by omega) (by decide) rfl ?_
            refine wr_add (nx := 26) (r1 := 0) (r2 := 0) (r3 := 0) rfl (fun e36 (fe36 : e36 = e35 + (h 247 2)) => ?_)
            refine wi_bipush (n := 7) (nx := 28) (r1 := 0) (r2 := 0) (r3 := 0) rfl (by decide) ?_
            refine wr_mul (nx := 29) (r1 := 0) (r2 := 0) (r3 := 0) rfl (fun e37 (fe37 : e37 = e36 * 7) => ?_)
            refine wi_aload_n (i := 0) (x := 236) (nx := 30) (r1 := 0) (r2 := 0) (r3 := 0) rfl rfl ?_
            refine wr_gr (k0 := 236) (x := 247) (nx := 33) (r1 := 11) (r2 := 30) (r3 := 0) rfl rfl (by decide) rfl ⟨rfl, rfl⟩ rfl ?_
            refine wi_iconst (n := 3) (nx := 34) (r1 := 0) (r2 := 0) (r3 := 0) rfl ?_
            refine wr_ia (k0 := 247) (a := 3) (f := 3) (x := h 247 3) (nx := 35) (r1 := 0) (r2 := 0) (r3 := 0) rfl (by decide) rfl (by omega) (by omega) (by decide) rfl ?_
            refine wr_add (nx := 36) (r1 := 0) (r2 := 0) (r3 := 0) rfl (fun e38 (fe38 : e38 = e37 + (h 247 3)) => ?_)
            refine wi_ireturn (nx := 37) (r1 := 0) (r2 := 0) (r3 := 0) rfl rfl ?_
            refine wk_i ?_
            refine wi_iload_n (i := 1) (e := 1) (nx := 176) (r1 := 0) (r2 := 0) (r3 := 0) rfl rfl ?_
            refine wi_S (rest := [vi e38, .ref 246]) (as := [vi 1]) (nx := 179) (r1 := 307) (r2 := 17) (r3 := 0) rfl rfl rfl (of_decide_eq_true rfl) rfl rfl (of_decide_eq_true rfl) (of_decide_eq_true rfl) ?_
            refine wi_iload_n (i := 0) (e := 1) (nx := 1) (r1 := 0) (r2 := 0) (r3 := 0) rfl rfl ?_
            refine wi_if (cd := .ne) (nx := 4) (r1 := 10) (r2 := 0) (r3 := 0) rfl (by omega) (fun (q39 : 1 ≠ 0) => ?_) (fun (q39 : ¬ (1 ≠ 0)) => by exfalso; omega)
            refine wi_iload_n (i := 0) (e := 1) (nx := 11) (r1 := 0) (r2 := 0) (r3 := 0) rfl rfl ?_
            refine wi_iconst (n := 1) (nx := 12) (r1 := 0) (r2 := 0) (r3 := 0) rfl ?_
            refine wi_icmp (cd := .ne) (nx := 15) (r1 := 20) (r2 := 0) (r3 := 0) rfl (by omega) (by omega) (fun (q40 : 1 ≠ 1) => by exfalso; omega) (fun (q40 : ¬ (1 ≠ 1)) => ?_)
            refine wi_bipush (n := 49) (nx := 17) (r1 := 0) (r2 := 0) (r3 := 0) rfl (by decide) ?_
            refine wi_goto (nx := 20) (r1 := 31) (r2 := 0) (r3 := 0) rfl ?_
            refine wi_ireturn (nx := 32) (r1 := 0) (r2 := 0) (r3 := 0) rfl rfl ?_
            refine wk_i ?_
            refine wr_add (nx := 180) (r1 := 0) (r2 := 0) (r3 := 0) rfl (fun e41 (fe41 : e41 = e38 + 49) => ?_)
            refine wi_iload (i := 6) (e := h 238 i25) (nx := 182) (r1 := 0) (r2 := 0) (r3 := 0) rfl rfl ?_
            refine wi_iload (i := 6) (e := h 238 i25) (nx := 184) (r1 := 0) (r2 := 0) (r3 := 0) rfl rfl ?_
            refine wi_iload_n (i := 2) (e := a0) (nx := 185) (r1 := 0) (r2 := 0) (r3 := 0) rfl rfl ?_
            refine wi_icmp (cd := .ne) (nx := 188) (r1 := 199) (r2 := 0) (r3 := 0) rfl (by omega) (by omega) (fun (q42 : (h 238 i25) ≠ a0) => by exfalso; omega) (fun (q42 : ¬ ((h 238 i25) ≠ a0)) => ?_)
            refine wi_iload (i := 7) (e := 0) (nx := 190) (r1 := 0) (r2 := 0) (r3 := 0) rfl rfl ?_
            refine wi_if (cd := .ne) (nx := 193) (r1 := 199) (r2 := 0) (r3 := 0) rfl (by omega) (fun (q43 : 0 ≠ 0) => by exfalso; omega) (fun (q43 : ¬ (0 ≠ 0)) => ?_)
            refine wi_iload_n (i := 3) (e := a1) (nx := 194) (r1 := 0) (r2 := 0) (r3 := 0) rfl rfl ?_
            refine wi_iconst (n := 1) (nx := 195) (r1 := 0) (r2 := 0) (r3 := 0) rfl ?_
            refine wr_add (nx := 196) (r1 := 0) (r2 := 0) (r3 := 0) rfl (fun e44 (fe44 : e44 = a1 + 1) => ?_)
            refine wi_goto (nx := 199) (r1 := 200) (r2 := 0) (r3 := 0) rfl ?_
            refine wi_S (rest := [.ref 246]) (as := [vi e41, vi (h 238 i25), vi e44]) (nx := 203) (r1 := 308) (r2 := 19) (r3 := 0) rfl rfl rfl (of_decide_eq_true rfl) rfl rfl (of_decide_eq_true rfl) (of_decide_eq_true rfl) ?_
            refine wi_bipush (n := 6) (nx := 2) (r1 := 0) (r2 := 0) (r3 := 0) rfl (by decide) ?_
            refine wi_iload_n (i := 0) (e := e41) (nx := 3) (r1 := 0) (r2 := 0) (r3 := 0) rfl rfl ?_
            refine wr_mul (nx := 4) (r1 := 0) (r2 := 0) (r3 := 0) rfl (fun e45 (fe45 : e45 = 6 * e41) => ?_)
            refine wi_iload_n (i := 1) (e := h 238 i25) (nx := 5) (r1 := 0) (r2 := 0) (r3 := 0) rfl rfl ?_
            refine wr_add (nx := 6) (r1 := 0) (r2 := 0) (r3 := 0) rfl (fun e46 (fe46 : e46 = e45 + (h 238 i25)) => ?_)
            refine wi_bipush (n := 10) (nx := 8) (r1 := 0) (r2 := 0) (r3 := 0) rfl (by decide) ?_
            refine wr_mul (nx := 9) (r1 := 0) (r2 := 0) (r3 := 0) rfl (fun e47 (fe47 : e47 = e46 * 10) => ?_)
            refine wi_iload_n (i := 2) (e := e44) (nx := 10) (r1 := 0) (r2 := 0) (r3 := 0) rfl rfl ?_
            refine wr_add (nx := 11) (r1 := 0) (r2 := 0) (r3 := 0) rfl (fun e48 (fe48 : e48 = e47 + e44) => ?_)
            refine wi_ireturn (nx := 12) (r1 := 0) (r2 := 0) (r3 := 0) rfl rfl ?_
            refine wk_i ?_
            obtain ⟨i49, ei49⟩ : ∃ q : Nat, e48 = (q : Int) := ⟨(e48).toNat, by omega⟩
            have b50 := gi_b (lo := 0) (hi := 1000000) g 246 i49 rfl
            refine wr_ia (k0 := 246) (a := e48) (f := i49) (x := h 246 i49) (nx := 204) (r1 := 0) (r2 := 0) (r3 := 0) rfl (by decide) rfl (by omega) (by omega) (by decide) rfl ?_
            refine wi_istore (i := 9) (e := h 246 i49) (lo2 := [(9, vi (h 246 i49)), (8, vi 0), (7, vi 0), (6, vi (h 238 i25)), (5, vi e14), (4, vi (h 238 i5)), (0, .ref 236), (1, vi 1), (2, vi a0), (3, vi a1)]) (nx := 206) (r1 := 0) (r2 := 0) (r3 := 0) rfl rfl ?_
            refine wi_iload (i := 9) (e := h 246 i49) (nx := 208) (r1 := 0) (r2 := 0) (r3 := 0) rfl rfl ?_
            refine wi_ldc_w (e := 1000000) (nx := 211) (r1 := 0) (r2 := 1000000) (r3 := 0) rfl (by decide) ?_
            refine wi_icmp (cd := .ne) (nx := 214) (r1 := 220) (r2 := 0) (r3 := 0) rfl (by omega) (by omega) (fun (q51 : (h 246 i49) ≠ 1000000) => ?_) (fun (q51 : ¬ ((h 246 i49) ≠ 1000000)) => ?_)
            ·
              refine wi_iload (i := 8) (e := 0) (nx := 222) (r1 := 0) (r2 := 0) (r3 := 0) rfl rfl ?_
              refine wi_iload (i := 9) (e := h 246 i49) (nx := 224) (r1 := 0) (r2 := 0) (r3 := 0) rfl rfl ?_
              refine wr_add (nx := 225) (r1 := 0) (r2 := 0) (r3 := 0) rfl (fun e52 (fe52 : e52 = 0 + (h 246 i49)) => ?_)
              refine wi_ireturn (nx := 226) (r1 := 0) (r2 := 0) (r3 := 0) rfl rfl ?_
              exact k e52 (by omega) (show e52 = 1000000 ∨ (h 247 1) < (h 238 99) by omega) (by
                  unfold u_by
                  have cx_ : h 238 (98 + 1) = h 238 99 := rfl
                  rw [if_neg (by omega)]
                  rw [show 74 + 6 * 1 + (h 247 1).toNat = i5 by omega]
                  unfold u_by1
                  rw [if_neg (by omega)]
                  rw [show 31 + (h 238 i5).toNat = i25 by omega]
                  unfold u_by2
                  rw [show u_ix (h 238) (h 247) 1 a0 a1 (h 238 i25) = i49 by unfold u_ix wt; (repeat (first | rw [if_pos (by omega)] | rw [if_neg (by omega)])); omega]
                  unfold u_by3
                  (repeat (first | rw [if_pos (by omega)] | rw [if_neg (by omega)]))
                  all_goals omega)
            ·
              refine wi_ldc_w (e := 1000000) (nx := 217) (r1 := 0) (r2 := 1000000) (r3 := 0) rfl (by decide) ?_
              refine wi_goto (nx := 220) (r1 := 225) (r2 := 0) (r3 := 0) rfl ?_
              refine wi_ireturn (nx := 226) (r1 := 0) (r2 := 0) (r3 := 0) rfl rfl ?_
              exact k 1000000 (by omega) (show 1000000 = 1000000 ∨ (h 247 1) < (h 238 99) by omega) (by
                  unfold u_by
                  have cx_ : h 238 (98 + 1) = h 238 99 := rfl
                  rw [if_neg (by omega)]
                  rw [show 74 + 6 * 1 + (h 247 1).toNat = i5 by omega]
                  unfold u_by1
                  rw [if_neg (by omega)]
                  rw [show 31 + (h 238 i5).toNat = i25 by omega]
                  unfold u_by2
                  rw [show u_ix (h 238) (h 247) 1 a0 a1 (h 238 i25) = i49 by unfold u_ix wt; (repeat (first | rw [if_pos (by omega)] | rw [if_neg (by omega)])); omega]
                  unfold u_by3
                  (repeat (first | rw [if_pos (by omega)] | rw [if_neg (by omega)]))
                  all_goals omega)
          ·
            refine wi_iconst (n := 1) (nx := 111) (r1 := 0) (r2 := 0) (r3 := 0) rfl ?_
            refine wi_goto (nx := 114) (r1 := 115) (r2 := 0) (r3 := 0) rfl ?_
            refine wi_istore (i := 7) (e := 1) (lo2 := [(7, vi 1), (6, vi (h 238 i25)), (5, vi e14), (4, vi (h 238 i5)), (0, .ref 236), (1, vi 1), (2, vi a0), (3, vi a1)]) (nx := 117) (r1 := 0) (r2 := 0) (r3 := 0) rfl rfl ?_
            refine wi_iload_n (i := 2) (e := a0) (nx := 118) (r1 := 0) (r2 := 0) (r3 := 0) rfl rfl ?_
            refine wi_iconst (n := 5) (nx := 119) (r1 := 0) (r2 := 0) (r3 := 0) rfl ?_
            refine wi_icmp (cd := .eq) (nx := 122) (r1 := 146) (r2 := 0) (r3 := 0) rfl (by omega) (by omega) (fun (q30 : a0 = 5) => by exfalso; omega) (fun (q30 : ¬ (a0 = 5)) => ?_)
            refine wi_iload (i := 6) (e := h 238 i25) (nx := 124) (r1 := 0) (r2 := 0) (r3 := 0) rfl rfl ?_
            refine wi_iload_n (i := 2) (e := a0) (nx := 125) (r1 := 0) (r2 := 0) (r3 := 0) rfl rfl ?_
            refine wi_icmp (cd := .eq) (nx := 128) (r1 := 146) (r2 := 0) (r3 := 0) rfl (by omega) (by omega) (fun (q31 : (h 238 i25) = a0) => ?_) (fun (q31 : ¬ ((h 238 i25) = a0)) => by exfalso; omega)
            refine wi_iload (i := 7) (e := 1) (nx := 148) (r1 := 0) (r2 := 0) (r3 := 0) rfl rfl ?_
            refine wi_if (cd := .eq) (nx := 151) (r1 := 164) (r2 := 0) (r3 := 0) rfl (by omega) (fun (q32 : 1 = 0) => by exfalso; omega) (fun (q32 : ¬ (1 = 0)) => ?_)
            refine wi_bipush (n := 100) (nx := 153) (r1 := 0) (r2 := 0) (r3 := 0) rfl (by decide) ?_
            refine wi_aload_n (i := 0) (x := 236) (nx := 154) (r1 := 0) (r2 := 0) (r3 := 0) rfl rfl ?_
            refine wr_gr (k0 := 236) (x := 238) (nx := 157) (r1 := 11) (r2 := 13) (r3 := 0) rfl rfl (by decide) rfl ⟨rfl, rfl⟩ rfl ?_
            refine wi_bipush (n := 6) (nx := 159) (r1 := 0) (r2 := 0) (r3 := 0) rfl (by decide) ?_
            have b33 := gi_b (lo := 0) (hi := 999) g 238 6 rfl
            refine wr_ia (k0 := 238) (a := 6) (f := 6) (x := h 238 6) (nx := 160) (r1 := 0) (r2 := 0) (r3 := 0) rfl (by decide) rfl (by omega) (by omega) (by decide) rfl ?_
            refine wr_mul (nx := 161) (r1 := 0) (r2 := 0) (r3 := 0) rfl (fun e34 (fe34 : e34 = 100 * (h 238 6)) => ?_)
            refine wi_goto (nx := 164) (r1 := 165) (r2 := 0) (r3 := 0) rfl ?_
            refine wi_istore (i := 8) (e := e34) (lo2 := [(8, vi e34), (7, vi 1), (6, vi (h 238 i25)), (5, vi e14), (4, vi (h 238 i5)), (0, .ref 236), (1, vi 1), (2, vi a0), (3, vi a1)]) (nx := 167) (r1 := 0) (r2 := 0) (r3 := 0) rfl rfl ?_
            refine wi_aload_n (i := 0) (x := 236) (nx := 168) (r1 := 0) (r2 := 0) (r3 := 0) rfl rfl ?_
            refine wr_gr (k0 := 236) (x := 246) (nx := 171) (r1 := 11) (r2 := 29) (r3 := 0) rfl rfl (by decide) rfl ⟨rfl, rfl⟩ rfl ?_
            refine wi_aload_n (i := 0) (x := 236) (nx := 172) (r1 := 0) (r2 := 0) (r3 := 0) rfl rfl ?_
            refine wr_V (k0 := 236) (rest := [.ref 246]) (as := [.ref 236]) (nx := 175) (r1 := 306) (r2 := 0) (r3 := 11) rfl rfl rfl (of_decide_eq_true rfl) rfl rfl (by decide) rfl rfl (of_decide_eq_true rfl) (of_decide_eq_true rfl) ?_
            refine wi_bipush (n := 7) (nx := 2) (r1 := 0) (r2 := 0) (r3 := 0) rfl (by decide) ?_
            refine wi_aload_n (i := 0) (x := 236) (nx := 3) (r1 := 0) (r2 := 0) (r3 := 0) rfl rfl ?_
            refine wr_gr (k0 := 236) (x := 247) (nx := 6) (r1 := 11) (r2 := 30) (r3 := 0) rfl rfl (by decide) rfl ⟨rfl, rfl⟩ rfl ?_
            refine wi_iconst (n := 0) (nx := 7) (r1 := 0) (r2 := 0) (r3 := 0) rfl ?_
            refine wr_ia (k0 := 247) (a := 0) (f := 0) (x := h 247 0) (nx := 8) (r1 := 0) (r2 := 0) (r3 := 0) rfl (by decide) rfl (by omega) (by omega) (by decide) rfl ?_
            refine wr_mul (nx := 9) (r1 := 0) (r2 := 0) (r3 := 0) rfl (fun e35 (fe35 : e35 = 7 * (h 247 0)) => ?_)
            refine wi_aload_n (i := 0) (x := 236) (nx := 10) (r1 := 0) (r2 := 0) (r3 := 0) rfl rfl ?_
            refine wr_gr (k0 := 236) (x := 247) (nx := 13) (r1 := 11) (r2 := 30) (r3 := 0) rfl rfl (by decide) rfl ⟨rfl, rfl⟩ rfl ?_
            refine wi_iconst (n := 1) (nx := 14) (r1 := 0) (r2 := 0) (r3 := 0) rfl ?_
            refine wr_ia (k0 := 247) (a := 1) (f := 1) (x := h 247 1) (nx := 15) (r1 := 0) (r2 := 0) (r3 := 0) rfl (by decide) rfl (by omega) (by omega) (by decide) rfl ?_
            refine wr_add (nx := 16) (r1 := 0) (r2 := 0) (r3 := 0) rfl (fun e36 (fe36 : e36 = e35 + (h 247 1)) => ?_)
            refine wi_bipush (n := 7) (nx := 18) (r1 := 0) (r2 := 0) (r3 := 0) rfl (by decide) ?_
            refine wr_mul (nx := 19) (r1 := 0) (r2 := 0) (r3 := 0) rfl (fun e37 (fe37 : e37 = e36 * 7) => ?_)
            refine wi_aload_n (i := 0) (x := 236) (nx := 20) (r1 := 0) (r2 := 0) (r3 := 0) rfl rfl ?_
            refine wr_gr (k0 := 236) (x := 247) (nx := 23) (r1 := 11) (r2 := 30) (r3 := 0) rfl rfl (by decide) rfl ⟨rfl, rfl⟩ rfl ?_
            refine wi_iconst (n := 2) (nx := 24) (r1 := 0) (r2 := 0) (r3 := 0) rfl ?_
            refine wr_ia (k0 := 247) (a := 2) (f := 2) (x := h 247 2) (nx := 25) (r1 := 0) (r2 := 0) (r3 := 0) rfl (by decide) rfl (by omega) (by omega) (by decide) rfl ?_
            refine wr_add (nx := 26) (r1 := 0) (r2 := 0) (r3 := 0) rfl (fun e38 (fe38 : e38 = e37 + (h 247 2)) => ?_)
            refine wi_bipush (n := 7) (nx := 28) (r1 := 0) (r2 := 0) (r3 := 0) rfl (by decide) ?_
            refine wr_mul (nx := 29) (r1 := 0) (r2 := 0) (r3 := 0) rfl (fun e39 (fe39 : e39 = e38 * 7) => ?_)
            refine wi_aload_n (i := 0) (x := 236) (nx := 30) (r1 := 0) (r2 := 0) (r3 := 0) rfl rfl ?_
            refine wr_gr (k0 := 236) (x := 247) (nx := 33) (r1 := 11) (r2 := 30) (r3 := 0) rfl rfl (by decide) rfl ⟨rfl, rfl⟩ rfl ?_
            refine wi_iconst (n := 3) (nx := 34) (r1 := 0) (r2 := 0) (r3 := 0) rfl ?_
            refine wr_ia (k0 := 247) (a := 3) (f := 3) (x := h 247 3) (nx := 35) (r1 := 0) (r2 := 0) (r3 := 0) rfl (by decide) rfl (by omega) (by omega) (by decide) rfl ?_
            refine wr_add (nx := 36) (r1 := 0) (r2 := 0) (r3 := 0) rfl (fun e40 (fe40 : e40 = e39 + (h 247 3)) => ?_)
            refine wi_ireturn (nx := 37) (r1 := 0) (r2 := 0) (r3 := 0) rfl rfl ?_
            refine wk_i ?_
            refine wi_iload_n (i := 1) (e := 1) (nx := 176) (r1 := 0) (r2 := 0) (r3 := 0) rfl rfl ?_
            refine wi_S (rest := [vi e40, .ref 246]) (as := [vi 1]) (nx := 179) (r1 := 307) (r2 := 17) (r3 := 0) rfl rfl rfl (of_decide_eq_true rfl) rfl rfl (of_decide_eq_true rfl) (of_decide_eq_true rfl) ?_
            refine wi_iload_n (i := 0) (e := 1) (nx := 1) (r1 := 0) (r2 := 0) (r3 := 0) rfl rfl ?_
            refine wi_if (cd := .ne) (nx := 4) (r1 := 10) (r2 := 0) (r3 := 0) rfl (by omega) (fun (q41 : 1 ≠ 0) => ?_) (fun (q41 : ¬ (1 ≠ 0)) => by exfalso; omega)
            refine wi_iload_n (i := 0) (e := 1) (nx := 11) (r1 := 0) (r2 := 0) (r3 := 0) rfl rfl ?_
            refine wi_iconst (n := 1) (nx := 12) (r1 := 0) (r2 := 0) (r3 := 0) rfl ?_
            refine wi_icmp (cd := .ne) (nx := 15) (r1 := 20) (r2 := 0) (r3 := 0) rfl (by omega) (by omega) (fun (q42 : 1 ≠ 1) => by exfalso; omega) (fun (q42 : ¬ (1 ≠ 1)) => ?_)
            refine wi_bipush (n := 49) (nx := 17) (r1 := 0) (r2 := 0) (r3 := 0) rfl (by decide) ?_
            refine wi_goto (nx := 20) (r1 := 31) (r2 := 0) (r3 := 0) rfl ?_
            refine wi_ireturn (nx := 32) (r1 := 0) (r2 := 0) (r3 := 0) rfl rfl ?_
            refine wk_i ?_
            refine wr_add (nx := 180) (r1 := 0) (r2 := 0) (r3 := 0) rfl (fun e43 (fe43 : e43 = e40 + 49) => ?_)
            refine wi_iload (i := 6) (e := h 238 i25) (nx := 182) (r1 := 0) (r2 := 0) (r3 := 0) rfl rfl ?_
            refine wi_iload (i := 6) (e := h 238 i25) (nx := 184) (r1 := 0) (r2 := 0) (r3 := 0) rfl rfl ?_
            refine wi_iload_n (i := 2) (e := a0) (nx := 185) (r1 := 0) (r2 := 0) (r3 := 0) rfl rfl ?_
            refine wi_icmp (cd := .ne) (nx := 188) (r1 := 199) (r2 := 0) (r3 := 0) rfl (by omega) (by omega) (fun (q44 : (h 238 i25) ≠ a0) => by exfalso; omega) (fun (q44 : ¬ ((h 238 i25) ≠ a0)) => ?_)
            refine wi_iload (i := 7) (e := 1) (nx := 190) (r1 := 0) (r2 := 0) (r3 := 0) rfl rfl ?_
            refine wi_if (cd := .ne) (nx := 193) (r1 := 199) (r2 := 0) (r3 := 0) rfl (by omega) (fun (q45 : 1 ≠ 0) => ?_) (fun (q45 : ¬ (1 ≠ 0)) => by exfalso; omega)
            refine wi_iconst (n := 1) (nx := 200) (r1 := 0) (r2 := 0) (r3 := 0) rfl ?_
            refine wi_S (rest := [.ref 246]) (as := [vi e43, vi (h 238 i25), vi 1]) (nx := 203) (r1 := 308) (r2 := 19) (r3 := 0) rfl rfl rfl (of_decide_eq_true rfl) rfl rfl (of_decide_eq_true rfl) (of_decide_eq_true rfl) ?_
            refine wi_bipush (n := 6) (nx := 2) (r1 := 0) (r2 := 0) (r3 := 0) rfl (by decide) ?_
            refine wi_iload_n (i := 0) (e := e43) (nx := 3) (r1 := 0) (r2 := 0) (r3 := 0) rfl rfl ?_
            refine wr_mul (nx := 4) (r1 := 0) (r2 := 0) (r3 := 0) rfl (fun e46 (fe46 : e46 = 6 * e43) => ?_)
            refine wi_iload_n (i := 1) (e := h 238 i25) (nx := 5) (r1 := 0) (r2 := 0) (r3 := 0) rfl rfl ?_
            refine wr_add (nx := 6) (r1 := 0) (r2 := 0) (r3 := 0) rfl (fun e47 (fe47 : e47 = e46 + (h 238 i25)) => ?_)
            refine wi_bipush (n := 10) (nx := 8) (r1 := 0) (r2 := 0) (r3 := 0) rfl (by decide) ?_
            refine wr_mul (nx := 9) (r1 := 0) (r2 := 0) (r3 := 0) rfl (fun e48 (fe48 : e48 = e47 * 10) => ?_)
            refine wi_iload_n (i := 2) (e := 1) (nx := 10) (r1 := 0) (r2 := 0) (r3 := 0) rfl rfl ?_
            refine wr_add (nx := 11) (r1 := 0) (r2 := 0) (r3 := 0) rfl (fun e49 (fe49 : e49 = e48 + 1) => ?_)
            refine wi_ireturn (nx := 12) (r1 := 0) (r2 := 0) (r3 := 0) rfl rfl ?_
            refine wk_i ?_
            obtain ⟨i50, ei50⟩ : ∃ q : Nat, e49 = (q : Int) := ⟨(e49).toNat, by omega⟩
            have b51 := gi_b (lo := 0) (hi := 1000000) g 246 i50 rfl
            refine wr_ia (k0 := 246) (a := e49) (f := i50) (x := h 246 i50) (nx := 204) (r1 := 0) (r2 := 0) (r3 := 0) rfl (by decide) rfl (by omega) (by omega) (by decide) rfl ?_
            refine wi_istore (i := 9) (e := h 246 i50) (lo2 := [(9, vi (h 246 i50)), (8, vi e34), (7, vi 1), (6, vi (h 238 i25)), (5, vi e14), (4, vi (h 238 i5)), (0, .ref 236), (1, vi 1), (2, vi a0), (3, vi a1)]) (nx := 206) (r1 := 0) (r2 := 0) (r3 := 0) rfl rfl ?_
            refine wi_iload (i := 9) (e := h 246 i50) (nx := 208) (r1 := 0) (r2 := 0) (r3 := 0) rfl rfl ?_
            refine wi_ldc_w (e := 1000000) (nx := 211) (r1 := 0) (r2 := 1000000) (r3 := 0) rfl (by decide) ?_
            refine wi_icmp (cd := .ne) (nx := 214) (r1 := 220) (r2 := 0) (r3 := 0) rfl (by omega) (by omega) (fun (q52 : (h 246 i50) ≠ 1000000) => ?_) (fun (q52 : ¬ ((h 246 i50) ≠ 1000000)) => ?_)
            ·
              refine wi_iload (i := 8) (e := e34) (nx := 222) (r1 := 0) (r2 := 0) (r3 := 0) rfl rfl ?_
              refine wi_iload (i := 9) (e := h 246 i50) (nx := 224) (r1 := 0) (r2 := 0) (r3 := 0) rfl rfl ?_
              refine wr_add (nx := 225) (r1 := 0) (r2 := 0) (r3 := 0) rfl (fun e53 (fe53 : e53 = e34 + (h 246 i50)) => ?_)
              refine wi_ireturn (nx := 226) (r1 := 0) (r2 := 0) (r3 := 0) rfl rfl ?_
              exact k e53 (by omega) (show e53 = 1000000 ∨ (h 247 1) < (h 238 99) by omega) (by
                  unfold u_by
                  have cx_ : h 238 (98 + 1) = h 238 99 := rfl
                  rw [if_neg (by omega)]
                  rw [show 74 + 6 * 1 + (h 247 1).toNat = i5 by omega]
                  unfold u_by1
                  rw [if_neg (by omega)]
                  rw [show 31 + (h 238 i5).toNat = i25 by omega]
                  unfold u_by2
                  rw [show u_ix (h 238) (h 247) 1 a0 a1 (h 238 i25) = i50 by unfold u_ix wt; (repeat (first | rw [if_pos (by omega)] | rw [if_neg (by omega)])); omega]
                  unfold u_by3
                  (repeat (first | rw [if_pos (by omega)] | rw [if_neg (by omega)]))
                  all_goals omega)
            ·
              refine wi_ldc_w (e := 1000000) (nx := 217) (r1 := 0) (r2 := 1000000) (r3 := 0) rfl (by decide) ?_
              refine wi_goto (nx := 220) (r1 := 225) (r2 := 0) (r3 := 0) rfl ?_
              refine wi_ireturn (nx := 226) (r1 := 0) (r2 := 0) (r3 := 0) rfl rfl ?_
              exact k 1000000 (by omega) (show 1000000 = 1000000 ∨ (h 247 1) < (h 238 99) by omega) (by
                  unfold u_by
                  have cx_ : h 238 (98 + 1) = h 238 99 := rfl
                  rw [if_neg (by omega)]
                  rw [show 74 + 6 * 1 + (h 247 1).toNat = i5 by omega]
                  unfold u_by1
                  rw [if_neg (by omega)]
                  rw [show 31 + (h 238 i5).toNat = i25 by omega]
                  unfold u_by2
                  rw [show u_ix (h 238) (h 247) 1 a0 a1 (h 238 i25) = i50 by unfold u_ix wt; (repeat (first | rw [if_pos (by omega)] | rw [if_neg (by omega)])); omega]
                  unfold u_by3
                  (repeat (first | rw [if_pos (by omega)] | rw [if_neg (by omega)]))
                  all_goals omega)
  ·
    refine wi_ldc_w (e := 1000000) (nx := 21) (r1 := 0) (r2 := 1000000) (r3 := 0) rfl (by decide) ?_
    refine wi_ireturn (nx := 22) (r1 := 0) (r2 := 0) (r3 := 0) rfl rfl ?_
    exact k 1000000 (by omega) (show 1000000 = 1000000 ∨ (h 247 1) < (h 238 99) by omega) (by
        unfold u_by
        have cx_ : h 238 (98 + 1) = h 238 99 := rfl
        rw [if_pos (by omega)])
-- method 305: Model.by(III)I
set_option maxRecDepth 100000 in
set_option maxHeartbeats 100000000 in
theorem ct_305_236_L2 {L : Nat} {xs : Nat → Int32} {d b c : Nat} {h : hp} {cr : Nat → Nat → Option Nat} {Q : hp_Q} (hcr : CR cr)  (g : GI h) (a0 : Int) (a1 : Int) (q0_ : 0 ≤ a0 ∧ a0 ≤ 5) (q1_ : 0 ≤ a1 ∧ a1 ≤ 9)  (k : ∀ (z0 : Int), (0 ≤ z0 ∧ z0 ≤ 1099900) → (z0 = 1000000 ∨ h 247 2 < h 238 100) → (z0 = u_by (h 238) (h 246) (h 247) 2 a0 a1) → Q (.inl (some (vi z0))) (hp_w h cr) b c) : wp (md_xa (L, xs)) (d + 1) 305 (0, [(0, .ref 236), (1, vi 2), (2, vi a0), (3, vi a1)], [], hp_w h cr, b, c) Q := by
  have F0 : FR [] h h := FR.refl
  refine wi_aload_n (i := 0) (x := 236) (nx := 1) (r1 := 0) (r2 := 0) (r3 := 0) rfl rfl ?_
  refine wr_gr (k0 := 236) (x := 247) (nx := 4) (r1 := 11) (r2 := 30) (r3 := 0) rfl rfl (by decide) rfl ⟨rfl, rfl⟩ rfl ?_
  refine wi_iload_n (i := 1) (e := 2) (nx := 5) (r1 := 0) (r2 := 0) (r3 := 0) rfl rfl ?_
  have b1 := gi_b (lo := 0) (hi := 6) g 247 2 rfl
  refine wr_ia (k0 := 247) (a := 2) (f := 2) (x := h 247 2) (nx := 6) (r1 := 0) (r2 := 0) (r3 := 0) rfl (by decide) rfl (by omega) (by omega) (by decide) rfl ?_
  refine wi_aload_n (i := 0) (x := 236) (nx := 7) (r1 := 0) (r2 := 0) (r3 := 0) rfl rfl ?_
  refine wr_gr (k0 := 236) (x := 238) (nx := 10) (r1 := 11) (r2 := 13) (r3 := 0) rfl rfl (by decide) rfl ⟨rfl, rfl⟩ rfl ?_
  refine wi_bipush (n := 98) (nx := 12) (r1 := 0) (r2 := 0) (r3 := 0) rfl (by decide) ?_
  refine wi_iload_n (i := 1) (e := 2) (nx := 13) (r1 := 0) (r2 := 0) (r3 := 0) rfl rfl ?_
  refine wr_addL (100) (nx := 14) (r1 := 0) (r2 := 0) (r3 := 0) rfl (by decide) ?_
  have b2 := gi_b (lo := 0) (hi := 6) g 238 100 rfl
  refine wr_ia (k0 := 238) (a := 100) (f := 100) (x := h 238 100) (nx := 15) (r1 := 0) (r2 := 0) (r3 := 0) rfl (by decide) rfl (by omega) (by omega) (by decide) rfl ?_
  refine wi_icmp (cd := .lt) (nx := 18) (r1 := 22) (r2 := 0) (r3 := 0) rfl (by omega) (by omega) (fun (q3 : (h 247 2) < (h 238 100)) => ?_) (fun (q3 : ¬ ((h 247 2) < (h 238 100))) => ?_)
  ·
    refine wi_aload_n (i := 0) (x := 236) (nx := 23) (r1 := 0) (r2 := 0) (r3 := 0) rfl rfl ?_
    refine wi_iload_n (i := 1) (e := 2) (nx := 24) (r1 := 0) (r2 := 0) (r3 := 0) rfl rfl ?_
    refine wi_aload_n (i := 0) (x := 236) (nx := 25) (r1 := 0) (r2 := 0) (r3 := 0) rfl rfl ?_
    refine wr_gr (k0 := 236) (x := 247) (nx := 28) (r1 := 11) (r2 := 30) (r3 := 0) rfl rfl (by decide) rfl ⟨rfl, rfl⟩ rfl ?_
    refine wi_iload_n (i := 1) (e := 2) (nx := 29) (r1 := 0) (r2 := 0) (r3 := 0) rfl rfl ?_
    refine wr_ia (k0 := 247) (a := 2) (f := 2) (x := h 247 2) (nx := 30) (r1 := 0) (r2 := 0) (r3 := 0) rfl (by decide) rfl (by omega) (by omega) (by decide) rfl ?_
    refine wr_V (k0 := 236) (rest := []) (as := [.ref 236, vi 2, vi (h 247 2)]) (nx := 33) (r1 := 258) (r2 := 2) (r3 := 11) rfl rfl rfl (of_decide_eq_true rfl) rfl rfl (by decide) rfl rfl (of_decide_eq_true rfl) (of_decide_eq_true rfl) ?_
    refine wi_aload_n (i := 0) (x := 236) (nx := 1) (r1 := 0) (r2 := 0) (r3 := 0) rfl rfl ?_
    refine wr_gr (k0 := 236) (x := 238) (nx := 4) (r1 := 11) (r2 := 13) (r3 := 0) rfl rfl (by decide) rfl ⟨rfl, rfl⟩ rfl ?_
    refine wi_bipush (n := 74) (nx := 6) (r1 := 0) (r2 := 0) (r3 := 0) rfl (by decide) ?_
    refine wi_bipush (n := 6) (nx := 8) (r1 := 0) (r2 := 0) (r3 := 0) rfl (by decide) ?_
    refine wi_iload_n (i := 1) (e := 2) (nx := 9) (r1 := 0) (r2 := 0) (r3 := 0) rfl rfl ?_
    refine wr_mulL (12) (nx := 10) (r1 := 0) (r2 := 0) (r3 := 0) rfl (by decide) ?_
    refine wr_addL (86) (nx := 11) (r1 := 0) (r2 := 0) (r3 := 0) rfl (by decide) ?_
    refine wi_iload_n (i := 2) (e := h 247 2) (nx := 12) (r1 := 0) (r2 := 0) (r3 := 0) rfl rfl ?_
    refine wr_add (nx := 13) (r1 := 0) (r2 := 0) (r3 := 0) rfl (fun e4 (fe4 : e4 = 86 + (h 247 2)) => ?_)
    obtain ⟨i5, ei5⟩ : ∃ q : Nat, e4 = (q : Int) := ⟨(e4).toNat, by omega⟩
    have b6 := gi_b (lo := 0) (hi := 11) g 238 i5 (gi_rg 86 6 (fun _ => rfl) (by decide +kernel) (by omega))
    refine wr_ia (k0 := 238) (a := e4) (f := i5) (x := h 238 i5) (nx := 14) (r1 := 0) (r2 := 0) (r3 := 0) rfl (by decide) rfl (by omega) (by omega) (by decide) rfl ?_
    refine wi_ireturn (nx := 15) (r1 := 0) (r2 := 0) (r3 := 0) rfl rfl ?_
    refine wk_i ?_
    refine wi_istore (i := 4) (e := h 238 i5) (lo2 := [(4, vi (h 238 i5)), (0, .ref 236), (1, vi 2), (2, vi a0), (3, vi a1)]) (nx := 35) (r1 := 0) (r2 := 0) (r3 := 0) rfl rfl ?_
    refine wi_aload_n (i := 0) (x := 236) (nx := 36) (r1 := 0) (r2 := 0) (r3 := 0) rfl rfl ?_
    refine wr_gr (k0 := 236) (x := 238) (nx := 39) (r1 := 11) (r2 := 13) (r3 := 0) rfl rfl (by decide) rfl ⟨rfl, rfl⟩ rfl ?_
    refine wi_bipush (n := 106) (nx := 41) (r1 := 0) (r2 := 0) (r3 := 0) rfl (by decide) ?_
    have b7 := gi_b (lo := 0) (hi := 12) g 238 106 rfl
    refine wr_ia (k0 := 238) (a := 106) (f := 106) (x := h 238 106) (nx := 42) (r1 := 0) (r2 := 0) (r3 := 0) rfl (by decide) rfl (by omega) (by omega) (by decide) rfl ?_
    refine wi_aload_n (i := 0) (x := 236) (nx := 43) (r1 := 0) (r2 := 0) (r3 := 0) rfl rfl ?_
    refine wr_V (k0 := 236) (rest := [vi (h 238 106)]) (as := [.ref 236]) (nx := 46) (r1 := 303) (r2 := 0) (r3 := 11) rfl rfl rfl (of_decide_eq_true rfl) rfl rfl (by decide) rfl rfl (of_decide_eq_true rfl) (of_decide_eq_true rfl) ?_
    refine wi_aload_n (i := 0) (x := 236) (nx := 1) (r1 := 0) (r2 := 0) (r3 := 0) rfl rfl ?_
    refine wr_gr (k0 := 236) (x := 247) (nx := 4) (r1 := 11) (r2 := 30) (r3 := 0) rfl rfl (by decide) rfl ⟨rfl, rfl⟩ rfl ?_
    refine wi_iconst (n := 0) (nx := 5) (r1 := 0) (r2 := 0) (r3 := 0) rfl ?_
    have b8 := gi_b (lo := 0) (hi := 6) g 247 0 rfl
    refine wr_ia (k0 := 247) (a := 0) (f := 0) (x := h 247 0) (nx := 6) (r1 := 0) (r2 := 0) (r3 := 0) rfl (by decide) rfl (by omega) (by omega) (by decide) rfl ?_
    refine wi_aload_n (i := 0) (x := 236) (nx := 7) (r1 := 0) (r2 := 0) (r3 := 0) rfl rfl ?_
    refine wr_gr (k0 := 236) (x := 247) (nx := 10) (r1 := 11) (r2 := 30) (r3 := 0) rfl rfl (by decide) rfl ⟨rfl, rfl⟩ rfl ?_
    refine wi_iconst (n := 1) (nx := 11) (r1 := 0) (r2 := 0) (r3 := 0) rfl ?_
    have b9 := gi_b (lo := 0) (hi := 6) g 247 1 rfl
    refine wr_ia (k0 := 247) (a := 1) (f := 1) (x := h 247 1) (nx := 12) (r1 := 0) (r2 := 0) (r3 := 0) rfl (by decide) rfl (by omega) (by omega) (by decide) rfl ?_
    refine wr_add (nx := 13) (r1 := 0) (r2 := 0) (r3 := 0) rfl (fun e10 (fe10 : e10 = (h 247 0) + (h 247 1)) => ?_)
    refine wi_aload_n (i := 0) (x := 236) (nx := 14) (r1 := 0) (r2 := 0) (r3 := 0) rfl rfl ?_
    refine wr_gr (k0 := 236) (x := 247) (nx := 17) (r1 := 11) (r2 := 30) (r3 := 0) rfl rfl (by decide) rfl ⟨rfl, rfl⟩ rfl ?_
    refine wi_iconst (n := 2) (nx := 18) (r1 := 0) (r2 := 0) (r3 := 0) rfl ?_
    refine wr_ia (k0 := 247) (a := 2) (f := 2) (x := h 247 2) (nx := 19) (r1 := 0) (r2 := 0) (r3 := 0) rfl (by decide) rfl (by omega) (by omega) (by decide) rfl ?_
    refine wr_add (nx := 20) (r1 := 0) (r2 := 0) (r3 := 0) rfl (fun e11 (fe11 : e11 = e10 + (h 247 2)) => ?_)
    refine wi_aload_n (i := 0) (x := 236) (nx := 21) (r1 := 0) (r2 := 0) (r3 := 0) rfl rfl ?_
    refine wr_gr (k0 := 236) (x := 247) (nx := 24) (r1 := 11) (r2 := 30) (r3 := 0) rfl rfl (by decide) rfl ⟨rfl, rfl⟩ rfl ?_
    refine wi_iconst (n := 3) (nx := 25) (r1 := 0) (r2 := 0) (r3 := 0) rfl ?_
    have b12 := gi_b (lo := 0) (hi := 6) g 247 3 rfl
    refine wr_ia (k0 := 247) (a := 3) (f := 3) (x := h 247 3) (nx := 26) (r1 := 0) (r2 := 0) (r3 := 0) rfl (by decide) rfl (by omega) (by omega) (by decide) rfl ?_
    refine wr_add (nx := 27) (r1 := 0) (r2 := 0) (r3 := 0) rfl (fun e13 (fe13 : e13 = e11 + (h 247 3)) => ?_)
    refine wi_ireturn (nx := 28) (r1 := 0) (r2 := 0) (r3 := 0) rfl rfl ?_
    refine wk_i ?_
    refine wr_add (nx := 47) (r1 := 0) (r2 := 0) (r3 := 0) rfl (fun e14 (fe14 : e14 = (h 238 106) + e13) => ?_)
    refine wi_istore (i := 5) (e := e14) (lo2 := [(5, vi e14), (4, vi (h 238 i5)), (0, .ref 236), (1, vi 2), (2, vi a0), (3, vi a1)]) (nx := 49) (r1 := 0) (r2 := 0) (r3 := 0) rfl rfl ?_
    refine wi_iload (i := 5) (e := e14) (nx := 51) (r1 := 0) (r2 := 0) (r3 := 0) rfl rfl ?_
    refine wi_i2l (nx := 52) (r1 := 0) (r2 := 0) (r3 := 0) rfl (by omega) ?_
    refine wi_iload (i := 4) (e := h 238 i5) (nx := 54) (r1 := 0) (r2 := 0) (r3 := 0) rfl rfl ?_
    refine wi_aload_n (i := 0) (x := 236) (nx := 55) (r1 := 0) (r2 := 0) (r3 := 0) rfl rfl ?_
    refine wr_gr (k0 := 236) (x := 238) (nx := 58) (r1 := 11) (r2 := 13) (r3 := 0) rfl rfl (by decide) rfl ⟨rfl, rfl⟩ rfl ?_
    refine wi_iconst (n := 3) (nx := 59) (r1 := 0) (r2 := 0) (r3 := 0) rfl ?_
    have b15 := gi_b (lo := 0) (hi := 999) g 238 3 rfl
    refine wr_ia (k0 := 238) (a := 3) (f := 3) (x := h 238 3) (nx := 60) (r1 := 0) (r2 := 0) (r3 := 0) rfl (by decide) rfl (by omega) (by omega) (by decide) rfl ?_
    refine wr_sub (nx := 61) (r1 := 0) (r2 := 0) (r3 := 0) rfl (fun e16 (fe16 : e16 = (h 238 i5) - (h 238 3)) => ?_)
    refine wi_i2l (nx := 62) (r1 := 0) (r2 := 0) (r3 := 0) rfl (by omega) ?_
    refine wi_iload (i := 4) (e := h 238 i5) (nx := 64) (r1 := 0) (r2 := 0) (r3 := 0) rfl rfl ?_
    refine wi_aload_n (i := 0) (x := 236) (nx := 65) (r1 := 0) (r2 := 0) (r3 := 0) rfl rfl ?_
    refine wr_gr (k0 := 236) (x := 238) (nx := 68) (r1 := 11) (r2 := 13) (r3 := 0) rfl rfl (by decide) rfl ⟨rfl, rfl⟩ rfl ?_
    refine wi_iconst (n := 4) (nx := 69) (r1 := 0) (r2 := 0) (r3 := 0) rfl ?_
    have b17 := gi_b (lo := 0) (hi := 999) g 238 4 rfl
    refine wr_ia (k0 := 238) (a := 4) (f := 4) (x := h 238 4) (nx := 70) (r1 := 0) (r2 := 0) (r3 := 0) rfl (by decide) rfl (by omega) (by omega) (by decide) rfl ?_
    refine wr_add (nx := 71) (r1 := 0) (r2 := 0) (r3 := 0) rfl (fun e18 (fe18 : e18 = (h 238 i5) + (h 238 4)) => ?_)
    refine wi_i2l (nx := 72) (r1 := 0) (r2 := 0) (r3 := 0) rfl (by omega) ?_
    refine wi_S (rest := []) (as := [vl e14, vl e16, vl e18]) (nx := 75) (r1 := 210) (r2 := 19) (r3 := 0) rfl rfl rfl (of_decide_eq_true rfl) rfl rfl (of_decide_eq_true rfl) (of_decide_eq_true rfl) ?_
    refine wi_lload_n (i := 0) (e := e14) (nx := 1) (r1 := 0) (r2 := 0) (r3 := 0) rfl rfl ?_
    refine wi_lload_n (i := 2) (e := e16) (nx := 2) (r1 := 0) (r2 := 0) (r3 := 0) rfl rfl ?_
    refine wi_lcmp (a := e14) (e := e16) (nx := 3) (r1 := 0) (r2 := 0) (r3 := 0) rfl (by omega) (by omega) (fun r19 (fr19 : (r19 = -1 ∧ e14 < e16) ∨ (r19 = 0 ∧ e14 = e16) ∨ (r19 = 1 ∧ e16 < e14)) => ?_)
    refine wi_if (cd := .lt) (nx := 6) (r1 := 17) (r2 := 0) (r3 := 0) rfl (by omega) (fun (q20 : r19 < 0) => ?_) (fun (q20 : ¬ (r19 < 0)) => ?_)
    ·
      refine wi_iconst (n := 0) (nx := 18) (r1 := 0) (r2 := 0) (r3 := 0) rfl ?_
      refine wi_zreturn (nx := 19) (r1 := 0) (r2 := 0) (r3 := 0) rfl rfl (by omega) ?_
      refine wk_i ?_
      refine wi_if (cd := .ne) (nx := 78) (r1 := 82) (r2 := 0) (r3 := 0) rfl (by omega) (fun (q21 : 0 ≠ 0) => by exfalso; omega) (fun (q21 : ¬ (0 ≠ 0)) => ?_)
      refine wi_ldc_w (e := 1000000) (nx := 81) (r1 := 0) (r2 := 1000000) (r3 := 0) rfl (by decide) ?_
      refine wi_ireturn (nx := 82) (r1 := 0) (r2 := 0) (r3 := 0) rfl rfl ?_
      exact k 1000000 (by omega) (show 1000000 = 1000000 ∨ (h 247 2) < (h 238 100) by omega) (by
          unfold u_by
          have cx_ : h 238 (98 + 2) = h 238 100 := rfl
          rw [if_neg (by omega)]
          rw [show 74 + 6 * 2 + (h 247 2).toNat = i5 by omega]
          unfold u_by1
          rw [if_pos (by omega)])
    ·
      refine wi_lload_n (i := 0) (e := e14) (nx := 7) (r1 := 0) (r2 := 0) (r3 := 0) rfl rfl ?_
      refine wi_lload (i := 4) (e := e18) (nx := 9) (r1 := 0) (r2 := 0) (r3 := 0) rfl rfl ?_
      refine wi_lcmp (a := e14) (e := e18) (nx := 10) (r1 := 0) (r2 := 0) (r3 := 0) rfl (by omega) (by omega) (fun r21 (fr21 : (r21 = -1 ∧ e14 < e18) ∨ (r21 = 0 ∧ e14 = e18) ∨ (r21 = 1 ∧ e18 < e14)) => ?_)
      refine wi_if (cd := .gt) (nx := 13) (r1 := 17) (r2 := 0) (r3 := 0) rfl (by omega) (fun (q22 : 0 < r21) => ?_) (fun (q22 : ¬ (0 < r21)) => ?_)
      ·
        refine wi_iconst (n := 0) (nx := 18) (r1 := 0) (r2 := 0) (r3 := 0) rfl ?_
        refine wi_zreturn (nx := 19) (r1 := 0) (r2 := 0) (r3 := 0) rfl rfl (by omega) ?_
        refine wk_i ?_
        refine wi_if (cd := .ne) (nx := 78) (r1 := 82) (r2 := 0) (r3 := 0) rfl (by omega) (fun (q23 : 0 ≠ 0) => by exfalso; omega) (fun (q23 : ¬ (0 ≠ 0)) => ?_)
        refine wi_ldc_w (e := 1000000) (nx := 81) (r1 := 0) (r2 := 1000000) (r3 := 0) rfl (by decide) ?_
        refine wi_ireturn (nx := 82) (r1 := 0) (r2 := 0) (r3 := 0) rfl rfl ?_
        exact k 1000000 (by omega) (show 1000000 = 1000000 ∨ (h 247 2) < (h 238 100) by omega) (by
            unfold u_by
            have cx_ : h 238 (98 + 2) = h 238 100 := rfl
            rw [if_neg (by omega)]
            rw [show 74 + 6 * 2 + (h 247 2).toNat = i5 by omega]
            unfold u_by1
            rw [if_pos (by omega)])
      ·
        refine wi_iconst (n := 1) (nx := 14) (r1 := 0) (r2 := 0) (r3 := 0) rfl ?_
        refine wi_goto (nx := 17) (r1 := 18) (r2 := 0) (r3 := 0) rfl ?_
        refine wi_zreturn (nx := 19) (r1 := 0) (r2 := 0) (r3 := 0) rfl rfl (by omega) ?_
        refine wk_i ?_
        refine wi_if (cd := .ne) (nx := 78) (r1 := 82) (r2 := 0) (r3 := 0) rfl (by omega) (fun (q23 : 1 ≠ 0) => ?_) (fun (q23 : ¬ (1 ≠ 0)) => by exfalso; omega)
        refine wi_aload_n (i := 0) (x := 236) (nx := 83) (r1 := 0) (r2 := 0) (r3 := 0) rfl rfl ?_
        refine wr_gr (k0 := 236) (x := 238) (nx := 86) (r1 := 11) (r2 := 13) (r3 := 0) rfl rfl (by decide) rfl ⟨rfl, rfl⟩ rfl ?_
        refine wi_bipush (n := 31) (nx := 88) (r1 := 0) (r2 := 0) (r3 := 0) rfl (by decide) ?_
        refine wi_iload (i := 4) (e := h 238 i5) (nx := 90) (r1 := 0) (r2 := 0) (r3 := 0) rfl rfl ?_
        refine wr_add (nx := 91) (r1 := 0) (r2 := 0) (r3 := 0) rfl (fun e24 (fe24 : e24 = 31 + (h 238 i5)) => ?_)
        obtain ⟨i25, ei25⟩ : ∃ q : Nat, e24 = (q : Int) := ⟨(e24).toNat, by omega⟩
        have b26 := gi_b (lo := 0) (hi := 4) g 238 i25 (gi_rg 31 12 (fun _ => rfl) (by decide +kernel) (by omega))
        refine wr_ia (k0 := 238) (a := e24) (f := i25) (x := h 238 i25) (nx := 92) (r1 := 0) (r2 := 0) (r3 := 0) rfl (by decide) rfl (by omega) (by omega) (by decide) rfl ?_
        refine wi_istore (i := 6) (e := h 238 i25) (lo2 := [(6, vi (h 238 i25)), (5, vi e14), (4, vi (h 238 i5)), (0, .ref 236), (1, vi 2), (2, vi a0), (3, vi a1)]) (nx := 94) (r1 := 0) (r2 := 0) (r3 := 0) rfl rfl ?_
        refine wi_iload (i := 6) (e := h 238 i25) (nx := 96) (r1 := 0) (r2 := 0) (r3 := 0) rfl rfl ?_
        refine wi_iload_n (i := 2) (e := a0) (nx := 97) (r1 := 0) (r2 := 0) (r3 := 0) rfl rfl ?_
        refine wi_icmp (cd := .ne) (nx := 100) (r1 := 114) (r2 := 0) (r3 := 0) rfl (by omega) (by omega) (fun (q27 : (h 238 i25) ≠ a0) => ?_) (fun (q27 : ¬ ((h 238 i25) ≠ a0)) => ?_)
        ·
          refine wi_iconst (n := 0) (nx := 115) (r1 := 0) (r2 := 0) (r3 := 0) rfl ?_
          refine wi_istore (i := 7) (e := 0) (lo2 := [(7, vi 0), (6, vi (h 238 i25)), (5, vi e14), (4, vi (h 238 i5)), (0, .ref 236), (1, vi 2), (2, vi a0), (3, vi a1)]) (nx := 117) (r1 := 0) (r2 := 0) (r3 := 0) rfl rfl ?_
          refine wi_iload_n (i := 2) (e := a0) (nx := 118) (r1 := 0) (r2 := 0) (r3 := 0) rfl rfl ?_
          refine wi_iconst (n := 5) (nx := 119) (r1 := 0) (r2 := 0) (r3 := 0) rfl ?_
          refine wi_icmp (cd := .eq) (nx := 122) (r1 := 146) (r2 := 0) (r3 := 0) rfl (by omega) (by omega) (fun (q28 : a0 = 5) => ?_) (fun (q28 : ¬ (a0 = 5)) => ?_)
          ·
            refine wi_iload (i := 7) (e := 0) (nx := 148) (r1 := 0) (r2 := 0) (r3 := 0) rfl rfl ?_
            refine wi_if (cd := .eq) (nx := 151) (r1 := 164) (r2 := 0) (r3 := 0) rfl (by omega) (fun (q29 : 0 = 0) => ?_) (fun (q29 : ¬ (0 = 0)) => by exfalso; omega)
            refine wi_iconst (n := 0) (nx := 165) (r1 := 0) (r2 := 0) (r3 := 0) rfl ?_
            refine wi_istore (i := 8) (e := 0) (lo2 := [(8, vi 0), (7, vi 0), (6, vi (h 238 i25)), (5, vi e14), (4, vi (h 238 i5)), (0, .ref 236), (1, vi 2), (2, vi a0), (3, vi a1)]) (nx := 167) (r1 := 0) (r2 := 0) (r3 := 0) rfl rfl ?_
            refine wi_aload_n (i := 0) (x := 236) (nx := 168) (r1 := 0) (r2 := 0) (r3 := 0) rfl rfl ?_
            refine wr_gr (k0 := 236) (x := 246) (nx := 171) (r1 := 11) (r2 := 29) (r3 := 0) rfl rfl (by decide) rfl ⟨rfl, rfl⟩ rfl ?_
            refine wi_aload_n (i := 0) (x := 236) (nx := 172) (r1 := 0) (r2 := 0) (r3 := 0) rfl rfl ?_
            refine wr_V (k0 := 236) (rest := [.ref 246]) (as := [.ref 236]) (nx := 175) (r1 := 306) (r2 := 0) (r3 := 11) rfl rfl rfl (of_decide_eq_true rfl) rfl rfl (by decide) rfl rfl (of_decide_eq_true rfl) (of_decide_eq_true rfl) ?_
            refine wi_bipush (n := 7) (nx := 2) (r1 := 0) (r2 := 0) (r3 := 0) rfl (by decide) ?_
            refine wi_aload_n (i := 0) (x := 236) (nx := 3) (r1 := 0) (r2 := 0) (r3 := 0) rfl rfl ?_
            refine wr_gr (k0 := 236) (x := 247) (nx := 6) (r1 := 11) (r2 := 30) (r3 := 0) rfl rfl (by decide) rfl ⟨rfl, rfl⟩ rfl ?_
            refine wi_iconst (n := 0) (nx := 7) (r1 := 0) (r2 := 0) (r3 := 0) rfl ?_
            refine wr_ia (k0 := 247) (a := 0) (f := 0) (x := h 247 0) (nx := 8) (r1 := 0) (r2 := 0) (r3 := 0) rfl (by decide) rfl (by omega) (by omega) (by decide) rfl ?_
            refine wr_mul (nx := 9) (r1 := 0) (r2 := 0) (r3 := 0) rfl (fun e30 (fe30 : e30 = 7 * (h 247 0)) => ?_)
            refine wi_aload_n (i := 0) (x := 236) (nx := 10) (r1 := 0) (r2 := 0) (r3 := 0) rfl rfl ?_
            refine wr_gr (k0 := 236) (x := 247) (nx := 13) (r1 := 11) (r2 := 30) (r3 := 0) rfl rfl (by decide) rfl ⟨rfl, rfl⟩ rfl ?_
            refine wi_iconst (n := 1) (nx := 14) (r1 := 0) (r2 := 0) (r3 := 0) rfl ?_
            refine wr_ia (k0 := 247) (a := 1) (f := 1) (x := h 247 1) (nx := 15) (r1 := 0) (r2 := 0) (r3 := 0) rfl (by decide) rfl (by omega) (by omega) (by decide) rfl ?_
            refine wr_add (nx := 16) (r1 := 0) (r2 := 0) (r3 := 0) rfl (fun e31 (fe31 : e31 = e30 + (h 247 1)) => ?_)
            refine wi_bipush (n := 7) (nx := 18) (r1 := 0) (r2 := 0) (r3 := 0) rfl (by decide) ?_
            refine wr_mul (nx := 19) (r1 := 0) (r2 := 0) (r3 := 0) rfl (fun e32 (fe32 : e32 = e31 * 7) => ?_)
            refine wi_aload_n (i := 0) (x := 236) (nx := 20) (r1 := 0) (r2 := 0) (r3 := 0) rfl rfl ?_
            refine wr_gr (k0 := 236) (x := 247) (nx := 23) (r1 := 11) (r2 := 30) (r3 := 0) rfl rfl (by decide) rfl ⟨rfl, rfl⟩ rfl ?_
            refine wi_iconst (n := 2) (nx := 24) (r1 := 0) (r2 := 0) (r3 := 0) rfl ?_
            refine wr_ia (k0 := 247) (a := 2) (f := 2) (x := h 247 2) (nx := 25) (r1 := 0) (r2 := 0) (r3 := 0) rfl (by decide) rfl (by omega) (by omega) (by decide) rfl ?_
            refine wr_add (nx := 26) (r1 := 0) (r2 := 0) (r3 := 0) rfl (fun e33 (fe33 : e33 = e32 + (h 247 2)) => ?_)
            refine wi_bipush (n := 7) (nx := 28) (r1 := 0) (r2 := 0) (r3 := 0) rfl (by decide) ?_
            refine wr_mul (nx := 29) (r1 := 0) (r2 := 0) (r3 := 0) rfl (fun e34 (fe34 : e34 = e33 * 7) => ?_)
            refine wi_aload_n (i := 0) (x := 236) (nx := 30) (r1 := 0) (r2 := 0) (r3 := 0) rfl rfl ?_
            refine wr_gr (k0 := 236) (x := 247) (nx := 33) (r1 := 11) (r2 := 30) (r3 := 0) rfl rfl (by decide) rfl ⟨rfl, rfl⟩ rfl ?_
            refine wi_iconst (n := 3) (nx := 34) (r1 := 0) (r2 := 0) (r3 := 0) rfl ?_
            refine wr_ia (k0 := 247) (a := 3) (f := 3) (x := h 247 3) (nx := 35) (r1 := 0) (r2 := 0) (r3 := 0) rfl (by decide) rfl (by omega) (by omega) (by decide) rfl ?_
            refine wr_add (nx := 36) (r1 := 0) (r2 := 0) (r3 := 0) rfl (fun e35 (fe35 : e35 = e34 + (h 247 3)) => ?_)
            refine wi_ireturn (nx := 37) (r1 := 0) (r2 := 0) (r3 := 0) rfl rfl ?_
            refine wk_i ?_
            refine wi_iload_n (i := 1) (e := 2) (nx := 176) (r1 := 0) (r2 := 0) (r3 := 0) rfl rfl ?_
            refine wi_S (rest := [vi e35, .ref 246]) (as := [vi 2]) (nx := 179) (r1 := 307) (r2 := 17) (r3 := 0) rfl rfl rfl (of_decide_eq_true rfl) rfl rfl (of_decide_eq_true rfl) (of_decide_eq_true rfl) ?_
            refine wi_iload_n (i := 0) (e := 2) (nx := 1) (r1 := 0) (r2 := 0) (r3 := 0) rfl rfl ?_
            refine wi_if (cd := .ne) (nx := 4) (r1 := 10) (r2 := 0) (r3 := 0) rfl (by omega) (fun (q36 : 2 ≠ 0) => ?_) (fun (q36 : ¬ (2 ≠ 0)) => by exfalso; omega)
            refine wi_iload_n (i := 0) (e := 2) (nx := 11) (r1 := 0) (r2 := 0) (r3 := 0) rfl rfl ?_
            refine wi_iconst (n := 1) (nx := 12) (r1 := 0) (r2 := 0) (r3 := 0) rfl ?_
            refine wi_icmp (cd := .ne) (nx := 15) (r1 := 20) (r2 := 0) (r3 := 0) rfl (by omega) (by omega) (fun (q37 : 2 ≠ 1) => ?_) (fun (q37 : ¬ (2 ≠ 1)) => by exfalso; omega)
            refine wi_iload_n (i := 0) (e := 2) (nx := 21) (r1 := 0) (r2 := 0) (r3 := 0) rfl rfl ?_
            refine wi_iconst (n := 2) (nx := 22) (r1 := 0) (r2 := 0) (r3 := 0) rfl ?_
            refine wi_icmp (cd := .ne) (nx := 25) (r1 := 30) (r2 := 0) (r3 := 0) rfl (by omega) (by omega) (fun (q38 : 2 ≠ 2) => by exfalso; omega) (fun (q38 : ¬ (2 ≠ 2)) => ?_)
            refine wi_bipush (n := 7) (nx := 27) (r1 := 0) (r2 := 0) (r3 := 0) rfl (by decide) ?_
            refine wi_goto (nx := 30) (r1 := 31) (r2 := 0) (r3 := 0) rfl ?_
            refine wi_ireturn (nx := 32) (r1 := 0) (r2 := 0) (r3 := 0) rfl rfl ?_
            refine wk_i ?_
            refine wr_add (nx := 180) (r1 := 0) (r2 := 0) (r3 := 0) rfl (fun e39 (fe39 : e39 = e35 + 7) => ?_)
            refine wi_iload (i := 6) (e := h 238 i25) (nx := 182) (r1 := 0) (r2 := 0) (r3 := 0) rfl rfl ?_
            refine wi_iload (i := 6) (e := h 238 i25) (nx := 184) (r1 := 0) (r2 := 0) (r3 := 0) rfl rfl ?_
            refine wi_iload_n (i := 2) (e := a0) (nx := 185) (r1 := 0) (r2 := 0) (r3 := 0) rfl rfl ?_
            refine wi_icmp (cd := .ne) (nx := 188) (r1 := 199) (r2 := 0) (r3 := 0) rfl (by omega) (by omega) (fun (q40 : (h 238 i25) ≠ a0) => ?_) (fun (q40 : ¬ ((h 238 i25) ≠ a0)) => by exfalso; omega)
            refine wi_iconst (n := 1) (nx := 200) (r1 := 0) (r2 := 0) (r3 := 0) rfl ?_
            refine wi_S (rest := [.ref 246]) (as := [vi e39, vi (h 238 i25), vi 1]) (nx := 203) (r1 := 308) (r2 := 19) (r3 := 0) rfl rfl rfl (of_decide_eq_true rfl) rfl rfl (of_decide_eq_true rfl) (of_decide_eq_true rfl) ?_
            refine wi_bipush (n := 6) (nx := 2) (r1 := 0) (r2 := 0) (r3 := 0) rfl (by decide) ?_
            refine wi_iload_n (i := 0) (e := e39) (nx := 3) (r1 := 0) (r2 := 0) (r3 := 0) rfl rfl ?_
            refine wr_mul (nx := 4) (r1 := 0) (r2 := 0) (r3 := 0) rfl (fun e41 (fe41 : e41 = 6 * e39) => ?_)
            refine wi_iload_n (i := 1) (e := h 238 i25) (nx := 5) (r1 := 0) (r2 := 0) (r3 := 0) rfl rfl ?_
            refine wr_add (nx := 6) (r1 := 0) (r2 := 0) (r3 := 0) rfl (fun e42 (fe42 : e42 = e41 + (h 238 i25)) => ?_)
            refine wi_bipush (n := 10) (nx := 8) (r1 := 0) (r2 := 0) (r3 := 0) rfl (by decide) ?_
            refine wr_mul (nx := 9) (r1 := 0) (r2 := 0) (r3 := 0) rfl (fun e43 (fe43 : e43 = e42 * 10) => ?_)
            refine wi_iload_n (i := 2) (e := 1) (nx := 10) (r1 := 0) (r2 := 0) (r3 := 0) rfl rfl ?_
            refine wr_add (nx := 11) (r1 := 0) (r2 := 0) (r3 := 0) rfl (fun e44 (fe44 : e44 = e43 + 1) => ?_)
            refine wi_ireturn (nx := 12) (r1 := 0) (r2 := 0) (r3 := 0) rfl rfl ?_
            refine wk_i ?_
            obtain ⟨i45, ei45⟩ : ∃ q : Nat, e44 = (q : Int) := ⟨(e44).toNat, by omega⟩
            have b46 := gi_b (lo := 0) (hi := 1000000) g 246 i45 rfl
            refine wr_ia (k0 := 246) (a := e44) (f := i45) (x := h 246 i45) (nx := 204) (r1 := 0) (r2 := 0) (r3 := 0) rfl (by decide) rfl (by omega) (by omega) (by decide) rfl ?_
            refine wi_istore (i := 9) (e := h 246 i45) (lo2 := [(9, vi (h 246 i45)), (8, vi 0), (7, vi 0), (6, vi (h 238 i25)), (5, vi e14), (4, vi (h 238 i5)), (0, .ref 236), (1, vi 2), (2, vi a0), (3, vi a1)]) (nx := 206) (r1 := 0) (r2 := 0) (r3 := 0) rfl rfl ?_
            refine wi_iload (i := 9) (e := h 246 i45) (nx := 208) (r1 := 0) (r2 := 0) (r3 := 0) rfl rfl ?_
            refine wi_ldc_w (e := 1000000) (nx := 211) (r1 := 0) (r2 := 1000000) (r3 := 0) rfl (by decide) ?_
            refine wi_icmp (cd := .ne) (nx := 214) (r1 := 220) (r2 := 0) (r3 := 0) rfl (by omega) (by omega) (fun (q47 : (h 246 i45) ≠ 1000000) => ?_) (fun (q47 : ¬ ((h 246 i45) ≠ 1000000)) => ?_)
            ·
              refine wi_iload (i := 8) (e := 0) (nx := 222) (r1 := 0) (r2 := 0) (r3 := 0) rfl rfl ?_
              refine wi_iload (i := 9) (e := h 246 i45) (nx := 224) (r1 := 0) (r2 := 0) (r3 := 0) rfl rfl ?_
              refine wr_add (nx := 225) (r1 := 0) (r2 := 0) (r3 := 0) rfl (fun e48 (fe48 : e48 = 0 + (h 246 i45)) => ?_)
              refine wi_ireturn (nx := 226) (r1 := 0) (r2 := 0) (r3 := 0) rfl rfl ?_
              exact k e48 (by omega) (show e48 = 1000000 ∨ (h 247 2) < (h 238 100) by omega) (by
                  unfold u_by
                  have cx_ : h 238 (98 + 2) = h 238 100 := rfl
                  rw [if_neg (by omega)]
                  rw [show 74 + 6 * 2 + (h 247 2).toNat = i5 by omega]
                  unfold u_by1
                  rw [if_neg (by omega)]
                  rw [show 31 + (h 238 i5).toNat = i25 by omega]
                  unfold u_by2
                  rw [show u_ix (h 238) (h 247) 2 a0 a1 (h 238 i25) = i45 by unfold u_ix wt; (repeat (first | rw [if_pos (by omega)] | rw [if_neg (by omega)])); omega]
                  unfold u_by3
                  (repeat (first | rw [if_pos (by omega)] | rw [if_neg (by omega)]))
                  all_goals omega)
            ·
              refine wi_ldc_w (e := 1000000) (nx := 217) (r1 := 0) (r2 := 1000000) (r3 := 0) rfl (by decide) ?_
              refine wi_goto (nx := 220) (r1 := 225) (r2 := 0) (r3 := 0) rfl ?_
              refine wi_ireturn (nx := 226) (r1 := 0) (r2 := 0) (r3 := 0) rfl rfl ?_
              exact k 1000000 (by omega) (show 1000000 = 1000000 ∨ (h 247 2) < (h 238 100) by omega) (by
                  unfold u_by
                  have cx_ : h 238 (98 + 2) = h 238 100 := rfl
                  rw [if_neg (by omega)]
                  rw [show 74 + 6 * 2 + (h 247 2).toNat = i5 by omega]
                  unfold u_by1
                  rw [if_neg (by omega)]
                  rw [show 31 + (h 238 i5).toNat = i25 by omega]
                  unfold u_by2
                  rw [show u_ix (h 238) (h 247) 2 a0 a1 (h 238 i25) = i45 by unfold u_ix wt; (repeat (first | rw [if_pos (by omega)] | rw [if_neg (by omega)])); omega]
                  unfold u_by3
                  (repeat (first | rw [if_pos (by omega)] | rw [if_neg (by omega)]))
                  all_goals omega)
          ·
            refine wi_iload (i := 6) (e := h 238 i25) (nx := 124) (r1 := 0) (r2 := 0) (r3 := 0) rfl rfl ?_
            refine wi_iload_n (i := 2) (e := a0) (nx := 125) (r1 := 0) (r2 := 0) (r3 := 0) rfl rfl ?_
            refine wi_icmp (cd := .eq) (nx := 128) (r1 := 146) (r2 := 0) (r3 := 0) rfl (by omega) (by omega) (fun (q29 : (h 238 i25) = a0) => by exfalso; omega) (fun (q29 : ¬ ((h 238 i25) = a0)) => ?_)
            refine wi_bipush (n := 100) (nx := 130) (r1 := 0) (r2 := 0) (r3 := 0) rfl (by decide) ?_
            refine wi_aload_n (i := 0) (x := 236) (nx := 131) (r1 := 0) (r2 := 0) (r3 := 0) rfl rfl ?_
            refine wr_gr (k0 := 236) (x := 238) (nx := 134) (r1 := 11) (r2 := 13) (r3 := 0) rfl rfl (by decide) rfl ⟨rfl, rfl⟩ rfl ?_
            refine wi_bipush (n := 10) (nx := 136) (r1 := 0) (r2 := 0) (r3 := 0) rfl (by decide) ?_
            refine wi_iload (i := 6) (e := h 238 i25) (nx := 138) (r1 := 0) (r2 := 0) (r3 := 0) rfl rfl ?_
            refine wr_add (nx := 139) (r1 := 0) (r2 := 0) (r3 := 0) rfl (fun e30 (fe30 : e30 = 10 + (h 238 i25)) => ?_)
            obtain ⟨i31, ei31⟩ : ∃ q : Nat, e30 = (q : Int) := ⟨(e30).toNat, by omega⟩
            have b32 := gi_b (lo := 0) (hi := 999) g 238 i31 (gi_rg 10 5 (fun _ => rfl) (by decide +kernel) (by omega))
            refine wr_ia (k0 := 238) (a := e30) (f := i31) (x := h 238 i31) (nx := 140) (r1 := 0) (r2 := 0) (r3 := 0) rfl (by decide) rfl (by omega) (by omega) (by decide) rfl ?_
            refine wr_mul (nx := 141) (r1 := 0) (r2 := 0) (r3 := 0) rfl (fun e33 (fe33 : e33 = 100 * (h 238 i31)) => ?_)
            refine wi_iconst (n := 1) (nx := 142) (r1 := 0) (r2 := 0) (r3 := 0) rfl ?_
            refine wr_add (nx := 143) (r1 := 0) (r2 := 0) (r3 := 0) rfl (fun e34 (fe34 : e34 = e33 + 1) => ?_)
            refine wi_goto (nx := 146) (r1 := 165) (r2 := 0) (r3 := 0) rfl ?_
            refine wi_istore (i := 8) (e := e34) (lo2 := [(8, vi e34), (7, vi 0), (6, vi (h 238 i25)), (5, vi e14), (4, vi (h 238 i5)), (0, .ref 236), (1, vi 2), (2, vi a0), (3, vi a1)]) (nx := 167) (r1 := 0) (r2 := 0) (r3 := 0) rfl rfl ?_
            refine wi_aload_n (i := 0) (x := 236) (nx := 168) (r1 := 0) (r2 := 0) (r3 := 0) rfl rfl ?_
            refine wr_gr (k0 := 236) (x := 246) (nx := 171) (r1 := 11) (r2 := 29) (r3 := 0) rfl rfl (by decide) rfl ⟨rfl, rfl⟩ rfl ?_
            refine wi_aload_n (i := 0) (x := 236) (nx := 172) (r1 := 0) (r2 := 0) (r3 := 0) rfl rfl ?_
            refine wr_V (k0 := 236) (rest := [.ref 246]) (as := [.ref 236]) (nx := 175) (r1 := 306) (r2 := 0) (r3 := 11) rfl rfl rfl (of_decide_eq_true rfl) rfl rfl (by decide) rfl rfl (of_decide_eq_true rfl) (of_decide_eq_true rfl) ?_
            refine wi_bipush (n := 7) (nx := 2) (r1 := 0) (r2 := 0) (r3 := 0) rfl (by decide) ?_
            refine wi_aload_n (i := 0) (x := 236) (nx := 3) (r1 := 0) (r2 := 0) (r3 := 0) rfl rfl ?_
            refine wr_gr (k0 := 236) (x := 247) (nx := 6) (r1 := 11) (r2 := 30) (r3 := 0) rfl rfl (by decide) rfl ⟨rfl, rfl⟩ rfl ?_
            refine wi_iconst (n := 0) (nx := 7) (r1 := 0) (r2 := 0) (r3 := 0) rfl ?_
            refine wr_ia (k0 := 247) (a := 0) (f := 0) (x := h 247 0) (nx := 8) (r1 := 0) (r2 := 0) (r3 := 0) rfl (by decide) rfl (by omega) (by omega) (by decide) rfl ?_
            refine wr_mul (nx := 9) (r1 := 0) (r2 := 0) (r3 := 0) rfl (fun e35 (fe35 : e35 = 7 * (h 247 0)) => ?_)
            refine wi_aload_n (i := 0) (x := 236) (nx := 10) (r1 := 0) (r2 := 0) (r3 := 0) rfl rfl ?_
            refine wr_gr (k0 := 236) (x := 247) (nx := 13) (r1 := 11) (r2 := 30) (r3 := 0) rfl rfl (by decide) rfl ⟨rfl, rfl⟩ rfl ?_
            refine wi_iconst (n := 1) (nx := 14) (r1 := 0) (r2 := 0) (r3 := 0) rfl ?_
            refine wr_ia (k0 := 247) (a := 1) (f := 1) (x := h 247 1) (nx := 15) (r1 := 0) (r2 := 0) (r3 := 0) rfl (by decide) rfl (by omega) (by omega) (by decide) rfl ?_
            refine wr_add (nx := 16) (r1 := 0) (r2 := 0) (r3 := 0) rfl (fun e36 (fe36 : e36 = e35 + (h 247 1)) => ?_)
            refine wi_bipush (n := 7) (nx := 18) (r1 := 0) (r2 := 0) (r3 := 0) rfl (by decide) ?_
            refine wr_mul (nx := 19) (r1 := 0) (r2 := 0) (r3 := 0) rfl (fun e37 (fe37 : e37 = e36 * 7) => ?_)
            refine wi_aload_n (i := 0) (x := 236) (nx := 20) (r1 := 0) (r2 := 0) (r3 := 0) rfl rfl ?_
            refine wr_gr (k0 := 236) (x := 247) (nx := 23) (r1 := 11) (r2 := 30) (r3 := 0) rfl rfl (by decide) rfl ⟨rfl, rfl⟩ rfl ?_
            refine wi_iconst (n := 2) (nx := 24) (r1 := 0) (r2 := 0) (r3 := 0) rfl ?_
            refine wr_ia (k0 := 247) (a := 2) (f := 2) (x := h 247 2) (nx := 25) (r1 := 0) (r2 := 0) (r3 := 0) rfl (by decide) rfl (by omega) (by omega) (by decide) rfl ?_
            refine wr_add (nx := 26) (r1 := 0) (r2 := 0) (r3 := 0) rfl (fun e38 (fe38 : e38 = e37 + (h 247 2)) => ?_)
            refine wi_bipush (n := 7) (nx := 28) (r1 := 0) (r2 := 0) (r3 := 0) rfl (by decide) ?_
            refine wr_mul (nx := 29) (r1 := 0) (r2 := 0) (r3 := 0) rfl (fun e39 (fe39 : e39 = e38 * 7) => ?_)
            refine wi_aload_n (i := 0) (x := 236) (nx := 30) (r1 := 0) (r2 := 0) (r3 := 0) rfl rfl ?_
            refine wr_gr (k0 := 236) (x := 247) (nx := 33) (r1 := 11) (r2 := 30) (r3 := 0) rfl rfl (by decide) rfl ⟨rfl, rfl⟩ rfl ?_
            refine wi_iconst (n := 3) (nx := 34) (r1 := 0) (r2 := 0) (r3 := 0) rfl ?_
            refine wr_ia (k0 := 247) (a := 3) (f := 3) (x := h 247 3) (nx := 35) (r1 := 0) (r2 := 0) (r3 := 0) rfl (by decide) rfl (by omega) (by omega) (by decide) rfl ?_
            refine wr_add (nx := 36) (r1 := 0) (r2 := 0) (r3 := 0) rfl (fun e40 (fe40 : e40 = e39 + (h 247 3)) => ?_)
            refine wi_ireturn (nx := 37) (r1 := 0) (r2 := 0) (r3 := 0) rfl rfl ?_
            refine wk_i ?_
            refine wi_iload_n (i := 1) (e := 2) (nx := 176) (r1 := 0) (r2 := 0) (r3 := 0) rfl rfl ?_
            refine wi_S (rest := [vi e40, .ref 246]) (as := [vi 2]) (nx := 179) (r1 := 307) (r2 := 17) (r3 := 0) rfl rfl rfl (of_decide_eq_true rfl) rfl rfl (of_decide_eq_true rfl) (of_decide_eq_true rfl) ?_
            refine wi_iload_n (i := 0) (e := 2) (nx := 1) (r1 := 0) (r2 := 0) (r3 := 0) rfl rfl ?_
            refine wi_if (cd := .ne) (nx := 4) (r1 := 10) (r2 := 0) (r3 := 0) rfl (by omega) (fun (q41 : 2 ≠ 0) => ?_) (fun (q41 : ¬ (2 ≠ 0)) => by exfalso; omega)
            refine wi_iload_n (i := 0) (e := 2) (nx := 11) (r1 := 0) (r2 := 0) (r3 := 0) rfl rfl ?_
            refine wi_iconst (n := 1) (nx := 12) (r1 := 0) (r2 := 0) (r3 := 0) rfl ?_
            refine wi_icmp (cd := .ne) (nx := 15) (r1 := 20) (r2 := 0) (r3 := 0) rfl (by omega) (by omega) (fun (q42 : 2 ≠ 1) => ?_) (fun (q42 : ¬ (2 ≠ 1)) => by exfalso; omega)
            refine wi_iload_n (i := 0) (e := 2) (nx := 21) (r1 := 0) (r2 := 0) (r3 := 0) rfl rfl ?_
            refine wi_iconst (n := 2) (nx := 22) (r1 := 0) (r2 := 0) (r3 := 0) rfl ?_
            refine wi_icmp (cd := .ne) (nx := 25) (r1 := 30) (r2 := 0) (r3 := 0) rfl (by omega) (by omega) (fun (q43 : 2 ≠ 2) => by exfalso; omega) (fun (q43 : ¬ (2 ≠ 2)) => ?_)
            refine wi_bipush (n := 7) (nx := 27) (r1 := 0) (r2 := 0) (r3 := 0) rfl (by decide) ?_
            refine wi_goto (nx := 30) (r1 := 31) (r2 := 0) (r3 := 0) rfl ?_
            refine wi_ireturn (nx := 32) (r1 := 0) (r2 := 0) (r3 := 0) rfl rfl ?_
            refine wk_i ?_
            refine wr_add (nx := 180) (r1 := 0) (r2 := 0) (r3 := 0) rfl (fun e44 (fe44 : e44 = e40 + 7) => ?_)
            refine wi_iload (i := 6) (e := h 238 i25) (nx := 182) (r1 := 0) (r2 := 0) (r3 := 0) rfl rfl ?_
            refine wi_iload (i := 6) (e := h 238 i25) (nx := 184) (r1 := 0) (r2 := 0) (r3 := 0) rfl rfl ?_
            refine wi_iload_n (i := 2) (e := a0) (nx := 185) (r1 := 0) (r2 := 0) (r3 := 0) rfl rfl ?_
            refine wi_icmp (cd := .ne) (nx := 188) (r1 := 199) (r2 := 0) (r3 := 0) rfl (by omega) (by omega) (fun (q45 : (h 238 i25) ≠ a0) => ?_) (fun (q45 : ¬ ((h 238 i25) ≠ a0)) => by exfalso; omega)
            refine wi_iconst (n := 1) (nx := 200) (r1 := 0) (r2 := 0) (r3 := 0) rfl ?_
            refine wi_S (rest := [.ref 246]) (as := [vi e44, vi (h 238 i25), vi 1]) (nx := 203) (r1 := 308) (r2 := 19) (r3 := 0) rfl rfl rfl (of_decide_eq_true rfl) rfl rfl (of_decide_eq_true rfl) (of_decide_eq_true rfl) ?_
            refine wi_bipush (n := 6) (nx := 2) (r1 := 0) (r2 := 0) (r3 := 0) rfl (by decide) ?_
            refine wi_iload_n (i := 0) (e := e44) (nx := 3) (r1 := 0) (r2 := 0) (r3 := 0) rfl rfl ?_
            refine wr_mul (nx := 4) (r1 := 0) (r2 := 0) (r3 := 0) rfl (fun e46 (fe46 : e46 = 6 * e44) => ?_)
            refine wi_iload_n (i := 1) (e := h 238 i25) (nx := 5) (r1 := 0) (r2 := 0) (r3 := 0) rfl rfl ?_
            refine wr_add (nx := 6) (r1 := 0) (r2 := 0) (r3 := 0) rfl (fun e47 (fe47 : e47 = e46 + (h 238 i25)) => ?_)
            refine wi_bipush (n := 10) (nx := 8) (r1 := 0) (r2 := 0) (r3 := 0) rfl (by decide) ?_
            refine wr_mul (nx := 9) (r1 := 0) (r2 := 0) (r3 := 0) rfl (fun e48 (fe48 : e48 = e47 * 10) => ?_)
            refine wi_iload_n (i := 2) (e := 1) (nx := 10) (r1 := 0) (r2 := 0) (r3 := 0) rfl rfl ?_
            refine wr_add (nx := 11) (r1 := 0) (r2 := 0) (r3 := 0) rfl (fun e49 (fe49 : e49 = e48 + 1) => ?_)
            refine wi_ireturn (nx := 12) (r1 := 0) (r2 := 0) (r3 := 0) rfl rfl ?_
            refine wk_i ?_
            obtain ⟨i50, ei50⟩ : ∃ q : Nat, e49 = (q : Int) := ⟨(e49).toNat, by omega⟩
            have b51 := gi_b (lo := 0) (hi := 1000000) g 246 i50 rfl
            refine wr_ia (k0 := 246) (a := e49) (f := i50) (x := h 246 i50) (nx := 204) (r1 := 0) (r2 := 0) (r3 := 0) rfl (by decide) rfl (by omega) (by omega) (by decide) rfl ?_
            refine wi_istore (i := 9) (e := h 246 i50) (lo2 := [(9, vi (h 246 i50)), (8, vi e34), (7, vi 0), (6, vi (h 238 i25)), (5, vi e14), (4, vi (h 238 i5)), (0, .ref 236), (1, vi 2), (2, vi a0), (3, vi a1)]) (nx := 206) (r1 := 0) (r2 := 0) (r3 := 0) rfl rfl ?_
            refine wi_iload (i := 9) (e := h 246 i50) (nx := 208) (r1 := 0) (r2 := 0) (r3 := 0) rfl rfl ?_
            refine wi_ldc_w (e := 1000000) (nx := 211) (r1 := 0) (r2 := 1000000) (r3 := 0) rfl (by decide) ?_
            refine wi_icmp (cd := .ne) (nx := 214) (r1 := 220) (r2 := 0) (r3 := 0) rfl (by omega) (by omega) (fun (q52 : (h 246 i50) ≠ 1000000) => ?_) (fun (q52 : ¬ ((h 246 i50) ≠ 1000000)) => ?_)
            ·
              refine wi_iload (i := 8) (e := e34) (nx := 222) (r1 := 0) (r2 := 0) (r3 := 0) rfl rfl ?_
              refine wi_iload (i := 9) (e := h 246 i50) (nx := 224) (r1 := 0) (r2 := 0) (r3 := 0) rfl rfl ?_
              refine wr_add (nx := 225) (r1 := 0) (r2 := 0) (r3 := 0) rfl (fun e53 (fe53 : e53 = e34 + (h 246 i50)) => ?_)
              refine wi_ireturn (nx := 226) (r1 := 0) (r2 := 0) (r3 := 0) rfl rfl ?_
              exact k e53 (by omega) (show e53 = 1000000 ∨ (h 247 2) < (h 238 100) by omega) (by
                  unfold u_by
                  have cx_ : h 238 (98 + 2) = h 238 100 := rfl
                  rw [if_neg (by omega)]
                  rw [show 74 + 6 * 2 + (h 247 2).toNat = i5 by omega]
                  unfold u_by1
                  rw [if_neg (by omega)]
                  rw [show 31 + (h 238 i5).toNat = i25 by omega]
                  unfold u_by2
                  rw [show 10 + (h 238 i25).toNat = i31 by omega]
                  rw [show u_ix (h 238) (h 247) 2 a0 a1 (h 238 i25) = i50 by unfold u_ix wt; (repeat (first | rw [if_pos (by omega)] | rw [if_neg (by omega)])); omega]
                  unfold u_by3
                  (repeat (first | rw [if_pos (by omega)] | rw [if_neg (by omega)]))
                  all_goals omega)
            ·
              refine wi_ldc_w (e := 1000000) (nx := 217) (r1 := 0) (r2 := 1000000) (r3 := 0) rfl (by decide) ?_
              refine wi_goto (nx := 220) (r1 := 225) (r2 := 0) (r3 := 0) rfl ?_
              refine wi_ireturn (nx := 226) (r1 := 0) (r2 := 0) (r3 := 0) rfl rfl ?_
              exact k 1000000 (by omega) (show 1000000 = 1000000 ∨ (h 247 2) < (h 238 100) by omega) (by
                  unfold u_by
                  have cx_ : h 238 (98 + 2) = h 238 100 := rfl
                  rw [if_neg (by omega)]
                  rw [show 74 + 6 * 2 + (h 247 2).toNat = i5 by omega]
                  unfold u_by1
                  rw [if_neg (by omega)]
                  rw [show 31 + (h 238 i5).toNat = i25 by omega]
                  unfold u_by2
                  rw [show 10 + (h 238 i25).toNat = i31 by omega]
                  rw [show u_ix (h 238) (h 247) 2 a0 a1 (h 238 i25) = i50 by unfold u_ix wt; (repeat (first | rw [if_pos (by omega)] | rw [if_neg (by omega)])); omega]
                  unfold u_by3
                  (repeat (first | rw [if_pos (by omega)] | rw [if_neg (by omega)]))
                  all_goals omega)
        ·
          refine wi_iload_n (i := 3) (e := a1) (nx := 101) (r1 := 0) (r2 := 0) (r3 := 0) rfl rfl ?_
          refine wi_aload_n (i := 0) (x := 236) (nx := 102) (r1 := 0) (r2 := 0) (r3 := 0) rfl rfl ?_
          refine wr_gr (k0 := 236) (x := 238) (nx := 105) (r1 := 11) (r2 := 13) (r3 := 0) rfl rfl (by decide) rfl ⟨rfl, rfl⟩ rfl ?_
          refine wi_iconst (n := 5) (nx := 106) (r1 := 0) (r2 := 0) (r3 := 0) rfl ?_
          have b28 := gi_b (lo := 0) (hi := 9) g 238 5 rfl
          refine wr_ia (k0 := 238) (a := 5) (f := 5) (x := h 238 5) (nx := 107) (r1 := 0) (r2 := 0) (r3 := 0) rfl (by decide) rfl (by omega) (by omega) (by decide) rfl ?_
          refine wi_icmp (cd := .ne) (nx := 110) (r1 := 114) (r2 := 0) (r3 := 0) rfl (by omega) (by omega) (fun (q29 : a1 ≠ (h 238 5)) => ?_) (fun (q29 : ¬ (a1 ≠ (h 238 5))) => ?_)
          ·
            refine wi_iconst (n := 0) (nx := 115) (r1 := 0) (r2 := 0) (r3 := 0) rfl ?_
            refine wi_istore (i := 7) (e := 0) (lo2 := [(7, vi 0), (6, vi (h 238 i25)), (5, vi e14), (4, vi (h 238 i5)), (0, .ref 236), (1, vi 2), (2, vi a0), (3, vi a1)]) (nx := 117) (r1 := 0) (r2 := 0) (r3 := 0) rfl rfl ?_
            refine wi_iload_n (i := 2) (e := a0) (nx := 118) (r1 := 0) (r2 := 0) (r3 := 0) rfl rfl ?_
            refine wi_iconst (n := 5) (nx := 119) (r1 := 0) (r2 := 0) (r3 := 0) rfl ?_
            refine wi_icmp (cd := .eq) (nx := 122) (r1 := 146) (r2 := 0) (r3 := 0) rfl (by omega) (by omega) (fun (q30 : a0 = 5) => by exfalso; omega) (fun (q30 : ¬ (a0 = 5)) => ?_)
            refine wi_iload (i := 6) (e := h 238 i25) (nx := 124) (r1 := 0) (r2 := 0) (r3 := 0) rfl rfl ?_
            refine wi_iload_n (i := 2) (e := a0) (nx := 125) (r1 := 0) (r2 := 0) (r3 := 0) rfl rfl ?_
            refine wi_icmp (cd := .eq) (nx := 128) (r1 := 146) (r2 := 0) (r3 := 0) rfl (by omega) (by omega) (fun (q31 : (h 238 i25) = a0) => ?_) (fun (q31 : ¬ ((h 238 i25) = a0)) => by exfalso; omega)
            refine wi_iload (i := 7) (e := 0) (nx := 148) (r1 := 0) (r2 := 0) (r3 := 0) rfl rfl ?_
            refine wi_if (cd := .eq) (nx := 151) (r1 := 164) (r2 := 0) (r3 := 0) rfl (by omega) (fun (q32 : 0 = 0) => ?_) (fun (q32 : ¬ (0 = 0)) => by exfalso; omega)
            refine wi_iconst (n := 0) (nx := 165) (r1 := 0) (r2 := 0) (r3 := 0) rfl ?_
            refine wi_istore (i := 8) (e := 0) (lo2 := [(8, vi 0), (7, vi 0), (6, vi (h 238 i25)), (5, vi e14), (4, vi (h 238 i5)), (0, .ref 236), (1, vi 2), (2, vi a0), (3, vi a1)]) (nx := 167) (r1 := 0) (r2 := 0) (r3 := 0) rfl rfl ?_
            refine wi_aload_n (i := 0) (x := 236) (nx := 168) (r1 := 0) (r2 := 0) (r3 := 0) rfl rfl ?_
            refine wr_gr (k0 := 236) (x := 246) (nx := 171) (r1 := 11) (r2 := 29) (r3 := 0) rfl rfl (by decide) rfl ⟨rfl, rfl⟩ rfl ?_
            refine wi_aload_n (i := 0) (x := 236) (nx := 172) (r1 := 0) (r2 := 0) (r3 := 0) rfl rfl ?_
            refine wr_V (k0 := 236) (rest := [.ref 246]) (as := [.ref 236]) (nx := 175) (r1 := 306) (r2 := 0) (r3 := 11) rfl rfl rfl (of_decide_eq_true rfl) rfl rfl (by decide) rfl rfl (of_decide_eq_true rfl) (of_decide_eq_true rfl) ?_
            refine wi_bipush (n := 7) (nx := 2) (r1 := 0) (r2 := 0) (r3 := 0) rfl (by decide) ?_
            refine wi_aload_n (i := 0) (x := 236) (nx := 3) (r1 := 0) (r2 := 0) (r3 := 0) rfl rfl ?_
            refine wr_gr (k0 := 236) (x := 247) (nx := 6) (r1 := 11) (r2 := 30) (r3 := 0) rfl rfl (by decide) rfl ⟨rfl, rfl⟩ rfl ?_
            refine wi_iconst (n := 0) (nx := 7) (r1 := 0) (r2 := 0) (r3 := 0) rfl ?_
            refine wr_ia (k0 := 247) (a := 0) (f := 0) (x := h 247 0) (nx := 8) (r1 := 0) (r2 := 0) (r3 := 0) rfl (by decide) rfl (by omega) (by omega) (by decide) rfl ?_
            refine wr_mul (nx := 9) (r1 := 0) (r2 := 0) (r3 := 0) rfl (fun e33 (fe33 : e33 = 7 * (h 247 0)) => ?_)
            refine wi_aload_n (i := 0) (x := 236) (nx := 10) (r1 := 0) (r2 := 0) (r3 := 0) rfl rfl ?_
            refine wr_gr (k0 := 236) (x := 247) (nx := 13) (r1 := 11) (r2 := 30) (r3 := 0) rfl rfl (by decide) rfl ⟨rfl, rfl⟩ rfl ?_
            refine wi_iconst (n := 1) (nx := 14) (r1 := 0) (r2 := 0) (r3 := 0) rfl ?_
            refine wr_ia (k0 := 247) (a := 1) (f := 1) (x := h 247 1) (nx := 15) (r1 := 0) (r2 := 0) (r3 := 0) rfl (by decide) rfl (by omega) (by omega) (by decide) rfl ?_
            refine wr_add (nx := 16) (r1 := 0) (r2 := 0) (r3 := 0) rfl (fun e34 (fe34 : e34 = e33 + (h 247 1)) => ?_)
            refine wi_bipush (n := 7) (nx := 18) (r1 := 0) (r2 := 0) (r3 := 0) rfl (by decide) ?_
            refine wr_mul (nx := 19) (r1 := 0) (r2 := 0) (r3 := 0) rfl (fun e35 (fe35 : e35 = e34 * 7) => ?_)
            refine wi_aload_n (i := 0) (x := 236) (nx := 20) (r1 := 0) (r2 := 0) (r3 := 0) rfl rfl ?_
            refine wr_gr (k0 := 236) (x := 247) (nx := 23) (r1 := 11) (r2 := 30) (r3 := 0) rfl rfl (by decide) rfl ⟨rfl, rfl⟩ rfl ?_
            refine wi_iconst (n := 2) (nx := 24) (r1 := 0) (r2 := 0) (r3 := 0) rfl ?_
            refine wr_ia (k0 := 247) (a := 2) (f := 2) (x := h 247 2) (nx := 25) (r1 := 0) (r2 := 0) (r3 := 0) rfl (by decide) rfl (by omega) (by omega) (by decide) rfl ?_
            refine wr_add (nx := 26) (r1 := 0) (r2 := 0) (r3 := 0) rfl (fun e36 (fe36 : e36 = e35 + (h 247 2)) => ?_)
            refine wi_bipush (n := 7) (nx := 28) (r1 := 0) (r2 := 0) (r3 := 0) rfl (by decide) ?_
            refine wr_mul (nx := 29) (r1 := 0) (r2 := 0) (r3 := 0) rfl (fun e37 (fe37 : e37 = e36 * 7) => ?_)
            refine wi_aload_n (i := 0) (x := 236) (nx := 30) (r1 := 0) (r2 := 0) (r3 := 0) rfl rfl ?_
            refine wr_gr (k0 := 236) (x := 247) (nx := 33) (r1 := 11) (r2 := 30) (r3 := 0) rfl rfl (by decide) rfl ⟨rfl, rfl⟩ rfl ?_
            refine wi_iconst (n := 3) (nx := 34) (r1 := 0) (r2 := 0) (r3 := 0) rfl ?_
            refine wr_ia (k0 := 247) (a := 3) (f := 3) (x := h 247 3) (nx := 35) (r1 := 0) (r2 := 0) (r3 := 0) rfl (by decide) rfl (by omega) (by omega) (by decide) rfl ?_
            refine wr_add (nx := 36) (r1 := 0) (r2 := 0) (r3 := 0) rfl (fun e38 (fe38 : e38 = e37 + (h 247 3)) => ?_)
            refine wi_ireturn (nx := 37) (r1 := 0) (r2 := 0) (r3 := 0) rfl rfl ?_
            refine wk_i ?_
            refine wi_iload_n (i := 1) (e := 2) (nx := 176) (r1 := 0) (r2 := 0) (r3 := 0) rfl rfl ?_
            refine wi_S (rest := [vi e38, .ref 246]) (as := [vi 2]) (nx := 179) (r1 := 307) (r2 := 17) (r3 := 0) rfl rfl rfl (of_decide_eq_true rfl) rfl rfl (of_decide_eq_true rfl) (of_decide_eq_true rfl) ?_
            refine wi_iload_n (i := 0) (e := 2) (nx := 1) (r1 := 0) (r2 := 0) (r3 := 0) rfl rfl ?_
            refine wi_if (cd := .ne) (nx := 4) (r1 := 10) (r2 := 0) (r3 := 0) rfl (by omega) (fun (q39 : 2 ≠ 0) => ?_) (fun (q39 : ¬ (2 ≠ 0)) => by exfalso; omega)
            refine wi_iload_n (i := 0) (e := 2) (nx := 11) (r1 := 0) (r2 := 0) (r3 := 0) rfl rfl ?_
            refine wi_iconst (n := 1) (nx := 12) (r1 := 0) (r2 := 0) (r3 := 0) rfl ?_
            refine wi_icmp (cd := .ne) (nx := 15) (r1 := 20) (r2 := 0) (r3 := 0) rfl (by omega) (by omega) (fun (q40 : 2 ≠ 1) => ?_) (fun (q40 : ¬ (2 ≠ 1)) => by exfalso; omega)
            refine wi_iload_n (i := 0) (e := 2) (nx := 21) (r1 := 0) (r2 := 0) (r3 := 0) rfl rfl ?_
            refine wi_iconst (n := 2) (nx := 22) (r1 := 0) (r2 := 0) (r3 := 0) rfl ?_
            refine wi_icmp (cd := .ne) (nx := 25) (r1 := 30) (r2 := 0) (r3 := 0) rfl (by omega) (by omega) (fun (q41 : 2 ≠ 2) => by exfalso; omega) (fun (q41 : ¬ (2 ≠ 2)) => ?_)
            refine wi_bipush (n := 7) (nx := 27) (r1 := 0) (r2 := 0) (r3 := 0) rfl (by decide) ?_
            refine wi_goto (nx := 30) (r1 := 31) (r2 := 0) (r3 := 0) rfl ?_
            refine wi_ireturn (nx := 32) (r1 := 0) (r2 := 0) (r3 := 0) rfl rfl ?_
            refine wk_i ?_
            refine wr_add (nx := 180) (r1 := 0) (r2 := 0) (r3 := 0) rfl (fun e42 (fe42 : e42 = e38 + 7) => ?_)
            refine wi_iload (i := 6) (e := h 238 i25) (nx := 182) (r1 := 0) (r2 := 0) (r3 := 0) rfl rfl ?_
            refine wi_iload (i := 6) (e := h 238 i25) (nx := 184) (r1 := 0) (r2 := 0) (r3 := 0) rfl rfl ?_
            refine wi_iload_n (i := 2) (e := a0) (nx := 185) (r1 := 0) (r2 := 0) (r3 := 0) rfl rfl ?_
            refine wi_icmp (cd := .ne) (nx := 188) (r1 := 199) (r2 := 0) (r3 := 0) rfl (by omega) (by omega) (fun (q43 : (h 238 i25) ≠ a0) => by exfalso; omega) (fun (q43 : ¬ ((h 238 i25) ≠ a0)) => ?_)
            refine wi_iload (i := 7) (e := 0) (nx := 190) (r1 := 0) (r2 := 0) (r3 := 0) rfl rfl ?_
            refine wi_if (cd := .ne) (nx := 193) (r1 := 199) (r2 := 0) (r3 := 0) rfl (by omega) (fun (q44 : 0 ≠ 0) => by exfalso; omega) (fun (q44 : ¬ (0 ≠ 0)) => ?_)
            refine wi_iload_n (i := 3) (e := a1) (nx := 194) (r1 := 0) (r2 := 0) (r3 := 0) rfl rfl ?_
            refine wi_iconst (n := 1) (nx := 195) (r1 := 0) (r2 := 0) (r3 := 0) rfl ?_
            refine wr_add (nx := 196) (r1 := 0) (r2 := 0) (r3 := 0) rfl (fun e45 (fe45 : e45 = a1 + 1) => ?_)
            refine wi_goto (nx := 199) (r1 := 200) (r2 := 0) (r3 := 0) rfl ?_
            refine wi_S (rest := [.ref 246]) (as := [vi e42, vi (h 238 i25), vi e45]) (nx := 203) (r1 := 308) (r2 := 19) (r3 := 0) rfl rfl rfl (of_decide_eq_true rfl) rfl rfl (of_decide_eq_true rfl) (of_decide_eq_true rfl) ?_
            refine wi_bipush (n := 6) (nx := 2) (r1 := 0) (r2 := 0) (r3 := 0) rfl (by decide) ?_
            refine wi_iload_n (i := 0) (e := e42) (nx := 3) (r1 := 0) (r2 := 0) (r3 := 0) rfl rfl ?_
            refine wr_mul (nx := 4) (r1 := 0) (r2 := 0) (r3 := 0) rfl (fun e46 (fe46 : e46 = 6 * e42) => ?_)
            refine wi_iload_n (i := 1) (e := h 238 i25) (nx := 5) (r1 := 0) (r2 := 0) (r3 := 0) rfl rfl ?_
            refine wr_add (nx := 6) (r1 := 0) (r2 := 0) (r3 := 0) rfl (fun e47 (fe47 : e47 = e46 + (h 238 i25)) => ?_)
            refine wi_bipush (n := 10) (nx := 8) (r1 := 0) (r2 := 0) (r3 := 0) rfl (by decide) ?_
            refine wr_mul (nx := 9) (r1 := 0) (r2 := 0) (r3 := 0) rfl (fun e48 (fe48 : e48 = e47 * 10) => ?_)
            refine wi_iload_n (i := 2) (e := e45) (nx := 10) (r1 := 0) (r2 := 0) (r3 := 0) rfl rfl ?_
            refine wr_add (nx := 11) (r1 := 0) (r2 := 0) (r3 := 0) rfl (fun e49 (fe49 : e49 = e48 + e45) => ?_)
            refine wi_ireturn (nx := 12) (r1 := 0) (r2 := 0) (r3 := 0) rfl rfl ?_
            refine wk_i ?_
            obtain ⟨i50, ei50⟩ : ∃ q : Nat, e49 = (q : Int) := ⟨(e49).toNat, by omega⟩
            have b51 := gi_b (lo := 0) (hi := 1000000) g 246 i50 rfl
            refine wr_ia (k0 := 246) (a := e49) (f := i50) (x := h 246 i50) (nx := 204) (r1 := 0) (r2 := 0) (r3 := 0) rfl (by decide) rfl (by omega) (by omega) (by decide) rfl ?_
            refine wi_istore (i := 9) (e := h 246 i50) (lo2 := [(9, vi (h 246 i50)), (8, vi 0), (7, vi 0), (6, vi (h 238 i25)), (5, vi e14), (4, vi (h 238 i5)), (0, .ref 236), (1, vi 2), (2, vi a0), (3, vi a1)]) (nx := 206) (r1 := 0) (r2 := 0) (r3 := 0) rfl rfl ?_
            refine wi_iload (i := 9) (e := h 246 i50) (nx := 208) (r1 := 0) (r2 := 0) (r3 := 0) rfl rfl ?_
            refine wi_ldc_w (e := 1000000) (nx := 211) (r1 := 0) (r2 := 1000000) (r3 := 0) rfl (by decide) ?_
            refine wi_icmp (cd := .ne) (nx := 214) (r1 := 220) (r2 := 0) (r3 := 0) rfl (by omega) (by omega) (fun (q52 : (h 246 i50) ≠ 1000000) => ?_) (fun (q52 : ¬ ((h 246 i50) ≠ 1000000)) => ?_)
            ·
              refine wi_iload (i := 8) (e := 0) (nx := 222) (r1 := 0) (r2 := 0) (r3 := 0) rfl rfl ?_
              refine wi_iload (i := 9) (e := h 246 i50) (nx := 224) (r1 := 0) (r2 := 0) (r3 := 0) rfl rfl ?_
              refine wr_add (nx := 225) (r1 := 0) (r2 := 0) (r3 := 0) rfl (fun e53 (fe53 : e53 = 0 + (h 246 i50)) => ?_)
              refine wi_ireturn (nx := 226) (r1 := 0) (r2 := 0) (r3 := 0) rfl rfl ?_
              exact k e53 (by omega) (show e53 = 1000000 ∨ (h 247 2) < (h 238 100) by omega) (by
                  unfold u_by
                  have cx_ : h 238 (98 + 2) = h 238 100 := rfl
                  rw [if_neg (by omega)]
                  rw [show 74 + 6 * 2 + (h 247 2).toNat = i5 by omega]
                  unfold u_by1
                  rw [if_neg (by omega)]
                  rw [show 31 + (h 238 i5).toNat = i25 by omega]
                  unfold u_by2
                  rw [show u_ix (h 238) (h 247) 2 a0 a1 (h 238 i25) = i50 by unfold u_ix wt; (repeat (first | rw [if_pos (by omega)] | rw [if_neg (by omega)])); omega]
                  unfold u_by3
                  (repeat (first | rw [if_pos (by omega)] | rw [if_neg (by omega)]))
                  all_goals omega)
            ·
              refine wi_ldc_w (e := 1000000) (nx := 217) (r1 := 0) (r2 := 1000000) (r3 := 0) rfl (by decide) ?_
              refine wi_goto (nx := 220) (r1 := 225) (r2 := 0) (r3 := 0) rfl ?_
              refine wi_ireturn (nx := 226) (r1 := 0) (r2 := 0) (r3 := 0) rfl rfl ?_
              exact k 1000000 (by omega) (show 1000000 = 1000000 ∨ (h 247 2) < (h 238 100) by omega) (by
                  unfold u_by
                  have cx_ : h 238 (98 + 2) = h 238 100 := rfl
                  rw [if_neg (by omega)]
                  rw [show 74 + 6 * 2 + (h 247 2).toNat = i5 by omega]
                  unfold u_by1
                  rw [if_neg (by omega)]
                  rw [show 31 + (h 238 i5).toNat = i25 by omega]
                  unfold u_by2
                  rw [show u_ix (h 238) (h 247) 2 a0 a1 (h 238 i25) = i50 by unfold u_ix wt; (repeat (first | rw [if_pos (by omega)] | rw [if_neg (by omega)])); omega]
                  unfold u_by3
                  (repeat (first | rw [if_pos (by omega)] | rw [if_neg (by omega)]))
                  all_goals omega)
          ·
            refine wi_iconst (n := 1) (nx := 111) (r1 := 0) (r2 := 0) (r3 := 0) rfl ?_
            refine wi_goto (nx := 114) (r1 := 115) (r2 := 0) (r3 := 0) rfl ?_
            refine wi_istore (i := 7) (e := 1) (lo2 := [(7, vi 1), (6, vi (h 238 i25)), (5, vi e14), (4, vi (h 238 i5)), (0, .ref 236), (1, vi 2), (2, vi a0), (3, vi a1)]) (nx := 117) (r1 := 0) (r2 := 0) (r3 := 0) rfl rfl ?_
            refine wi_iload_n (i := 2) (e := a0) (nx := 118) (r1 := 0) (r2 := 0) (r3 := 0) rfl rfl ?_
            refine wi_iconst (n := 5) (nx := 119) (r1 := 0) (r2 := 0) (r3 := 0) rfl ?_
            refine wi_icmp (cd := .eq) (nx := 122) (r1 := 146) (r2 := 0) (r3 := 0) rfl (by omega) (by omega) (fun (q30 : a0 = 5) => by exfalso; omega) (fun (q30 : ¬ (a0 = 5)) => ?_)
            refine wi_iload (i := 6) (e := h 238 i25) (nx := 124) (r1 := 0) (r2 := 0) (r3 := 0) rfl rfl ?_
            refine wi_iload_n (i := 2) (e := a0) (nx := 125) (r1 := 0) (r2 := 0) (r3 := 0) rfl rfl ?_
            refine wi_icmp (cd := .eq) (nx := 128) (r1 := 146) (r2 := 0) (r3 := 0) rfl (by omega) (by omega) (fun (q31 : (h 238 i25) = a0) => ?_) (fun (q31 : ¬ ((h 238 i25) = a0)) => by exfalso; omega)
            refine wi_iload (i := 7) (e := 1) (nx := 148) (r1 := 0) (r2 := 0) (r3 := 0) rfl rfl ?_
            refine wi_if (cd := .eq) (nx := 151) (r1 := 164) (r2 := 0) (r3 := 0) rfl (by omega) (fun (q32 : 1 = 0) => by exfalso; omega) (fun (q32 : ¬ (1 = 0)) => ?_)
            refine wi_bipush (n := 100) (nx := 153) (r1 := 0) (r2 := 0) (r3 := 0) rfl (by decide) ?_
            refine wi_aload_n (i := 0) (x := 236) (nx := 154) (r1 := 0) (r2 := 0) (r3 := 0) rfl rfl ?_
            refine wr_gr (k0 := 236) (x := 238) (nx := 157) (r1 := 11) (r2 := 13) (r3 := 0) rfl rfl (by decide) rfl ⟨rfl, rfl⟩ rfl ?_
            refine wi_bipush (n := 6) (nx := 159) (r1 := 0) (r2 := 0) (r3 := 0) rfl (by decide) ?_
            have b33 := gi_b (lo := 0) (hi := 999) g 238 6 rfl
            refine wr_ia (k0 := 238) (a := 6) (f := 6) (x := h 238 6) (nx := 160) (r1 := 0) (r2 := 0) (r3 := 0) rfl (by decide) rfl (by omega) (by omega) (by decide) rfl ?_
            refine wr_mul (nx := 161) (r1 := 0) (r2 := 0) (r3 := 0) rfl (fun e34 (fe34 : e34 = 100 * (h 238 6)) => ?_)
            refine wi_goto (nx := 164) (r1 := 165) (r2 := 0) (r3 := 0) rfl ?_
            refine wi_istore (i := 8) (e := e34) (lo2 := [(8, vi e34), (7, vi 1), (6, vi (h 238 i25)), (5, vi e14), (4, vi (h 238 i5)), (0, .ref 236), (1, vi 2), (2, vi a0), (3, vi a1)]) (nx := 167) (r1 := 0) (r2 := 0) (r3 := 0) rfl rfl ?_
            refine wi_aload_n (i := 0) (x := 236) (nx := 168) (r1 := 0) (r2 := 0) (r3 := 0) rfl rfl ?_
            refine wr_gr (k0 := 236) (x := 246) (nx := 171) (r1 := 11) (r2 := 29) (r3 := 0) rfl rfl (by decide) rfl ⟨rfl, rfl⟩ rfl ?_
            refine wi_aload_n (i := 0) (x := 236) (nx := 172) (r1 := 0) (r2 := 0) (r3 := 0) rfl rfl ?_
            refine wr_V (k0 := 236) (rest := [.ref 246]) (as := [.ref 236]) (nx := 175) (r1 := 306) (r2 := 0) (r3 := 11) rfl rfl rfl (of_decide_eq_true rfl) rfl rfl (by decide) rfl rfl (of_decide_eq_true rfl) (of_decide_eq_true rfl) ?_
            refine wi_bipush (n := 7) (nx := 2) (r1 := 0) (r2 := 0) (r3 := 0) rfl (by decide) ?_
            refine wi_aload_n (i := 0) (x := 236) (nx := 3) (r1 := 0) (r2 := 0) (r3 := 0) rfl rfl ?_
            refine wr_gr (k0 := 236) (x := 247) (nx := 6) (r1 := 11) (r2 := 30) (r3 := 0) rfl rfl (by decide) rfl ⟨rfl, rfl⟩ rfl ?_
            refine wi_iconst (n := 0) (nx := 7) (r1 := 0) (r2 := 0) (r3 := 0) rfl ?_
            refine wr_ia (k0 := 247) (a := 0) (f := 0) (x := h 247 0) (nx := 8) (r1 := 0) (r2 := 0) (r3 := 0) rfl (by decide) rfl (by omega) (by omega) (by decide) rfl ?_
            refine wr_mul (nx := 9) (r1 := 0) (r2 := 0) (r3 := 0) rfl (fun e35 (fe35 : e35 = 7 * (h 247 0)) => ?_)
            refine wi_aload_n (i := 0) (x := 236) (nx := 10) (r1 := 0) (r2 := 0) (r3 := 0) rfl rfl ?_
            refine wr_gr (k0 := 236) (x := 247) (nx := 13) (r1 := 11) (r2 := 30) (r3 := 0) rfl rfl (by decide) rfl ⟨rfl, rfl⟩ rfl ?_
            refine wi_iconst (n := 1) (nx := 14) (r1 := 0) (r2 := 0) (r3 := 0) rfl ?_
            refine wr_ia (k0 := 247) (a := 1) (f := 1) (x := h 247 1) (nx := 15) (r1 := 0) (r2 := 0) (r3 := 0) rfl (by decide) rfl (by omega) (by omega) (by decide) rfl ?_
            refine wr_add (nx := 16) (r1 := 0) (r2 := 0) (r3 := 0) rfl (fun e36 (fe36 : e36 = e35 + (h 247 1)) => ?_)
            refine wi_bipush (n := 7) (nx := 18) (r1 := 0) (r2 := 0) (r3 := 0) rfl (by decide) ?_
            refine wr_mul (nx := 19) (r1 := 0) (r2 := 0) (r3 := 0) rfl (fun e37 (fe37 : e37 = e36 * 7) => ?_)
            refine wi_aload_n (i := 0) (x := 236) (nx := 20) (r1 := 0) (r2 := 0) (r3 := 0) rfl rfl ?_
            refine wr_gr (k0 := 236) (x := 247) (nx := 23) (r1 := 11) (r2 := 30) (r3 := 0) rfl rfl (by decide) rfl ⟨rfl, rfl⟩ rfl ?_
            refine wi_iconst (n := 2) (nx := 24) (r1 := 0) (r2 := 0) (r3 := 0) rfl ?_
            refine wr_ia (k0 := 247) (a := 2) (f := 2) (x := h 247 2) (nx := 25) (r1 := 0) (r2 := 0) (r3 := 0) rfl (by decide) rfl (by omega) (by omega) (by decide) rfl ?_
            refine wr_add (nx := 26) (r1 := 0) (r2 := 0) (r3 := 0) rfl (fun e38 (fe38 : e38 = e37 + (h 247 2)) => ?_)
            refine wi_bipush (n := 7) (nx := 28) (r1 := 0) (r2 := 0) (r3 := 0) rfl (by decide) ?_
            refine wr_mul (nx := 29) (r1 := 0) (r2 := 0) (r3 := 0) rfl (fun e39 (fe39 : e39 = e38 * 7) => ?_)
            refine wi_aload_n (i := 0) (x := 236) (nx := 30) (r1 := 0) (r2 := 0) (r3 := 0) rfl rfl ?_
            refine wr_gr (k0 := 236) (x := 247) (nx := 33) (r1 := 11) (r2 := 30) (r3 := 0) rfl rfl (by decide) rfl ⟨rfl, rfl⟩ rfl ?_
            refine wi_iconst (n := 3) (nx := 34) (r1 := 0) (r2 := 0) (r3 := 0) rfl ?_
            refine wr_ia (k0 := 247) (a := 3) (f := 3) (x := h 247 3) (nx := 35) (r1 := 0) (r2 := 0) (r3 := 0) rfl (by decide) rfl (by omega) (by omega) (by decide) rfl ?_
            refine wr_add (nx := 36) (r1 := 0) (r2 := 0) (r3 := 0) rfl (fun e40 (fe40 : e40 = e39 + (h 247 3)) => ?_)
            refine wi_ireturn (nx := 37) (r1 := 0) (r2 := 0) (r3 := 0) rfl rfl ?_
            refine wk_i ?_
            refine wi_iload_n (i := 1) (e := 2) (nx := 176) (r1 := 0) (r2 := 0) (r3 := 0) rfl rfl ?_
            refine wi_S (rest := [vi e40, .ref 246]) (as := [vi 2]) (nx := 179) (r1 := 307) (r2 := 17) (r3 := 0) rfl rfl rfl (of_decide_eq_true rfl) rfl rfl (of_decide_eq_true rfl) (of_decide_eq_true rfl) ?_
            refine wi_iload_n (i := 0) (e := 2) (nx := 1) (r1 := 0) (r2 := 0) (r3 := 0) rfl rfl ?_
            refine wi_if (cd := .ne) (nx := 4) (r1 := 10) (r2 := 0) (r3 := 0) rfl (by omega) (fun (q41 : 2 ≠ 0) => ?_) (fun (q41 : ¬ (2 ≠ 0)) => by exfalso; omega)
            refine wi_iload_n (i := 0) (e := 2) (nx := 11) (r1 := 0) (r2 := 0) (r3 := 0) rfl rfl ?_
            refine wi_iconst (n := 1) (nx := 12) (r1 := 0) (r2 := 0) (r3 := 0) rfl ?_
            refine wi_icmp (cd := .ne) (nx := 15) (r1 := 20) (r2 := 0) (r3 := 0) rfl (by omega) (by omega) (fun (q42 : 2 ≠ 1) => ?_) (fun (q42 : ¬ (2 ≠ 1)) => by exfalso; omega)
            refine wi_iload_n (i := 0) (e := 2) (nx := 21) (r1 := 0) (r2 := 0) (r3 := 0) rfl rfl ?_
            refine wi_iconst (n := 2) (nx := 22) (r1 := 0) (r2 := 0) (r3 := 0) rfl ?_
            refine wi_icmp (cd := .ne) (nx := 25) (r1 := 30) (r2 := 0) (r3 := 0) rfl (by omega) (by omega) (fun (q43 : 2 ≠ 2) => by exfalso; omega) (fun (q43 : ¬ (2 ≠ 2)) => ?_)
            refine wi_bipush (n := 7) (nx := 27) (r1 := 0) (r2 := 0) (r3 := 0) rfl (by decide) ?_
            refine wi_goto (nx := 30) (r1 := 31) (r2 := 0) (r3 := 0) rfl ?_
            refine wi_ireturn (nx := 32) (r1 := 0) (r2 := 0) (r3 := 0) rfl rfl ?_
            refine wk_i ?_
            refine wr_add (nx := 180) (r1 := 0) (r2 := 0) (r3 := 0) rfl (fun e44 (fe44 : e44 = e40 + 7) => ?_)
            refine wi_iload (i := 6) (e := h 238 i25) (nx := 182) (r1 := 0) (r2 := 0) (r3 := 0) rfl rfl ?_
            refine wi_iload (i := 6) (e := h 238 i25) (nx := 184) (r1 := 0) (r2 := 0) (r3 := 0) rfl rfl ?_
            refine wi_iload_n (i := 2) (e := a0) (nx := 185) (r1 := 0) (r2 := 0) (r3 := 0) rfl rfl ?_
            refine wi_icmp (cd := .ne) (nx := 188) (r1 := 199) (r2 := 0) (r3 := 0) rfl (by omega) (by omega) (fun (q45 : (h 238 i25) ≠ a0) => by exfalso; omega) (fun (q45 : ¬ ((h 238 i25) ≠ a0)) => ?_)
            refine wi_iload (i := 7) (e := 1) (nx := 190) (r1 := 0) (r2 := 0) (r3 := 0) rfl rfl ?_
            refine wi_if (cd := .ne) (nx := 193) (r1 := 199) (r2 := 0) (r3 := 0) rfl (by omega) (fun (q46 : 1 ≠ 0) => ?_) (fun (q46 : ¬ (1 ≠ 0)) => by exfalso; omega)
            refine wi_iconst (n := 1) (nx := 200) (r1 := 0) (r2 := 0) (r3 := 0) rfl ?_
            refine wi_S (rest := [.ref 246]) (as := [vi e44, vi (h 238 i25), vi 1]) (nx := 203) (r1 := 308) (r2 := 19) (r3 := 0) rfl rfl rfl (of_decide_eq_true rfl) rfl rfl (of_decide_eq_true rfl) (of_decide_eq_true rfl) ?_
            refine wi_bipush (n := 6) (nx := 2) (r1 := 0) (r2 := 0) (r3 := 0) rfl (by decide) ?_
            refine wi_iload_n (i := 0) (e := e44) (nx := 3) (r1 := 0) (r2 := 0) (r3 := 0) rfl rfl ?_
            refine wr_mul (nx := 4) (r1 := 0) (r2 := 0) (r3 := 0) rfl (fun e47 (fe47 : e47 = 6 * e44) => ?_)
            refine wi_iload_n (i := 1) (e := h 238 i25) (nx := 5) (r1 := 0) (r2 := 0) (r3 := 0) rfl rfl ?_
            refine wr_add (nx := 6) (r1 := 0) (r2 := 0) (r3 := 0) rfl (fun e48 (fe48 : e48 = e47 + (h 238 i25)) => ?_)
            refine wi_bipush (n := 10) (nx := 8) (r1 := 0) (r2 := 0) (r3 := 0) rfl (by decide) ?_
            refine wr_mul (nx := 9) (r1 := 0) (r2 := 0) (r3 := 0) rfl (fun e49 (fe49 : e49 = e48 * 10) => ?_)
            refine wi_iload_n (i := 2) (e := 1) (nx := 10) (r1 := 0) (r2 := 0) (r3 := 0) rfl rfl ?_
            refine wr_add (nx := 11) (r1 := 0) (r2 := 0) (r3 := 0) rfl (fun e50 (fe50 : e50 = e49 + 1) => ?_)
            refine wi_ireturn (nx := 12) (r1 := 0) (r2 := 0) (r3 := 0) rfl rfl ?_
            refine wk_i ?_
            obtain ⟨i51, ei51⟩ : ∃ q : Nat, e50 = (q : Int) := ⟨(e50).toNat, by omega⟩
            have b52 := gi_b (lo := 0) (hi := 1000000) g 246 i51 rfl
            refine wr_ia (k0 := 246) (a := e50) (f := i51) (x := h 246 i51) (nx := 204) (r1 := 0) (r2 := 0) (r3 := 0) rfl (by decide) rfl (by omega) (by omega) (by decide) rfl ?_
            refine wi_istore (i := 9) (e := h 246 i51) (lo2 := [(9, vi (h 246 i51)), (8, vi e34), (7, vi 1), (6, vi (h 238 i25)), (5, vi e14), (4, vi (h 238 i5)), (0, .ref 236), (1, vi 2), (2, vi a0), (3, vi a1)]) (nx := 206) (r1 := 0) (r2 := 0) (r3 := 0) rfl rfl ?_
            refine wi_iload (i := 9) (e := h 246 i51) (nx := 208) (r1 := 0) (r2 := 0) (r3 := 0) rfl rfl ?_
            refine wi_ldc_w (e := 1000000) (nx := 211) (r1 := 0) (r2 := 1000000) (r3 := 0) rfl (by decide) ?_
            refine wi_icmp (cd := .ne) (nx := 214) (r1 := 220) (r2 := 0) (r3 := 0) rfl (by omega) (by omega) (fun (q53 : (h 246 i51) ≠ 1000000) => ?_) (fun (q53 : ¬ ((h 246 i51) ≠ 1000000)) => ?_)
            ·
              refine wi_iload (i := 8) (e := e34) (nx := 222) (r1 := 0) (r2 := 0) (r3 := 0) rfl rfl ?_
              refine wi_iload (i := 9) (e := h 246 i51) (nx := 224) (r1 := 0) (r2 := 0) (r3 := 0) rfl rfl ?_
              refine wr_add (nx := 225) (r1 := 0) (r2 := 0) (r3 := 0) rfl (fun e54 (fe54 : e54 = e34 + (h 246 i51)) => ?_)
              refine wi_ireturn (nx := 226) (r1 := 0) (r2 := 0) (r3 := 0) rfl rfl ?_
              exact k e54 (by omega) (show e54 = 1000000 ∨ (h 247 2) < (h 238 100) by omega) (by
                  unfold u_by
                  have cx_ : h 238 (98 + 2) = h 238 100 := rfl
                  rw [if_neg (by omega)]
                  rw [show 74 + 6 * 2 + (h 247 2).toNat = i5 by omega]
                  unfold u_by1
                  rw [if_neg (by omega)]
                  rw [show 31 + (h 238 i5).toNat = i25 by omega]
                  unfold u_by2
                  rw [show u_ix (h 238) (h 247) 2 a0 a1 (h 238 i25) = i51 by unfold u_ix wt; (repeat (first | rw [if_pos (by omega)] | rw [if_neg (by omega)])); omega]
                  unfold u_by3
                  (repeat (first | rw [if_pos (by omega)] | rw [if_neg (by omega)]))
                  all_goals omega)
            ·
              refine wi_ldc_w (e := 1000000) (nx := 217) (r1 := 0) (r2 := 1000000) (r3 := 0) rfl (by decide) ?_
              refine wi_goto (nx := 220) (r1 := 225) (r2 := 0) (r3 := 0) rfl ?_
              refine wi_ireturn (nx := 226) (r1 := 0) (r2 := 0) (r3 := 0) rfl rfl ?_
              exact k 1000000 (by omega) (show 1000000 = 1000000 ∨ (h 247 2) < (h 238 100) by omega) (by
                  unfold u_by
                  have cx_ : h 238 (98 + 2) = h 238 100 := rfl
                  rw [if_neg (by omega)]
                  rw [show 74 + 6 * 2 + (h 247 2).toNat = i5 by omega]
                  unfold u_by1
                  rw [if_neg (by omega)]
                  rw [show 31 + (h 238 i5).toNat = i25 by omega]
                  unfold u_by2
                  rw [show u_ix (h 238) (h 247) 2 a0 a1 (h 238 i25) = i51 by unfold u_ix wt; (repeat (first | rw [if_pos (by omega)] | rw [if_neg (by omega)])); omega]
                  unfold u_by3
                  (repeat (first | rw [if_pos (by omega)] | rw [if_neg (by omega)]))
                  all_goals omega)
  ·
    refine wi_ldc_w (e := 1000000) (nx := 21) (r1 := 0) (r2 := 1000000) (r3 := 0) rfl (by decide) ?_
    refine wi_ireturn (nx := 22) (r1 := 0) (r2 := 0) (r3 := 0) rfl rfl ?_
    exact k 1000000 (by omega) (show 1000000 = 1000000 ∨ (h 247 2) < (h 238 100) by omega) (by
        unfold u_by
        have cx_ : h 238 (98 + 2) = h 238 100 := rfl
        rw [if_pos (by omega)])
