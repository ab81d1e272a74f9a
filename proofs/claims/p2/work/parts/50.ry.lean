-- method 336: Model.commandHere()I
set_option maxRecDepth 100000 in
set_option maxHeartbeats 100000000 in
theorem ct_336_236 {L : Nat} {xs : Nat → Int32} {d b c : Nat} {h : hp} {cr : Nat → Nat → Option Nat} {Q : hp_Q} (hcr : CR cr)  (g : GI h)    (k : ∀ (z0 : Int), (-1 ≤ z0 ∧ z0 ≤ 7) → Q (.inl (some (vi z0))) (hp_w h cr) b c) : wp (md_xa (L, xs)) (d + 1) 336 (0, [(0, .ref 236)], [], hp_w h cr, b, c) Q := by
  have F0 : FR [] h h := FR.refl
  refine wi_aload_n (i := 0) (x := 236) (nx := 1) (r1 := 0) (r2 := 0) (r3 := 0) rfl rfl ?_
  refine wi_ldc2_w (e := 5722290) (nx := 4) (r1 := 5722290) (r2 := 0) (r3 := 0) rfl (by decide) ?_
  refine wr_V (k0 := 236) (rest := []) (as := [.ref 236, vl 5722290]) (nx := 7) (r1 := 221) (r2 := 1) (r3 := 11) rfl rfl rfl (of_decide_eq_true rfl) rfl rfl (by decide) rfl rfl (of_decide_eq_true rfl) (of_decide_eq_true rfl) ?_
  refine wi_aload_n (i := 0) (x := 236) (nx := 1) (r1 := 0) (r2 := 0) (r3 := 0) rfl rfl ?_
  have b1 := gi_b (lo := 0) (hi := 5) g 236 8 rfl
  refine wr_gi0 (k0 := 236) (x := h 236 8) (nx := 4) (r1 := 11) (r2 := 8) (r3 := 0) rfl rfl (by decide) rfl ⟨rfl, rfl⟩ rfl rfl ?_
  refine wi_if (cd := .ne) (nx := 7) (r1 := 28) (r2 := 0) (r3 := 0) rfl (by omega) (fun (q2 : (h 236 8) ≠ 0) => ?_) (fun (q2 : ¬ ((h 236 8) ≠ 0)) => ?_)
  ·
    refine wi_iconst (n := 0) (nx := 29) (r1 := 0) (r2 := 0) (r3 := 0) rfl ?_
    refine wi_zreturn (nx := 30) (r1 := 0) (r2 := 0) (r3 := 0) rfl rfl (by omega) ?_
    refine wk_i ?_
    refine wi_if (cd := .eq) (nx := 10) (r1 := 12) (r2 := 0) (r3 := 0) rfl (by omega) (fun (q3 : 0 = 0) => ?_) (fun (q3 : ¬ (0 = 0)) => by exfalso; omega)
    refine wi_aload_n (i := 0) (x := 236) (nx := 13) (r1 := 0) (r2 := 0) (r3 := 0) rfl rfl ?_
    refine wi_ldc2_w (e := 12748485) (nx := 16) (r1 := 12748485) (r2 := 0) (r3 := 0) rfl (by decide) ?_
    refine wr_V (k0 := 236) (rest := []) (as := [.ref 236, vl 12748485]) (nx := 19) (r1 := 221) (r2 := 1) (r3 := 11) rfl rfl rfl (of_decide_eq_true rfl) rfl rfl (by decide) rfl rfl (of_decide_eq_true rfl) (of_decide_eq_true rfl) ?_
    refine wi_aload_n (i := 0) (x := 236) (nx := 1) (r1 := 0) (r2 := 0) (r3 := 0) rfl rfl ?_
    refine wr_gi0 (k0 := 236) (x := h 236 8) (nx := 4) (r1 := 11) (r2 := 8) (r3 := 0) rfl rfl (by decide) rfl ⟨rfl, rfl⟩ rfl rfl ?_
    refine wi_if (cd := .ne) (nx := 7) (r1 := 28) (r2 := 0) (r3 := 0) rfl (by omega) (fun (q4 : (h 236 8) ≠ 0) => ?_) (fun (q4 : ¬ ((h 236 8) ≠ 0)) => by exfalso; omega)
    refine wi_iconst (n := 0) (nx := 29) (r1 := 0) (r2 := 0) (r3 := 0) rfl ?_
    refine wi_zreturn (nx := 30) (r1 := 0) (r2 := 0) (r3 := 0) rfl rfl (by omega) ?_
    refine wk_i ?_
    refine wi_if (cd := .eq) (nx := 22) (r1 := 24) (r2 := 0) (r3 := 0) rfl (by omega) (fun (q5 : 0 = 0) => ?_) (fun (q5 : ¬ (0 = 0)) => by exfalso; omega)
    refine wi_aload_n (i := 0) (x := 236) (nx := 25) (r1 := 0) (r2 := 0) (r3 := 0) rfl rfl ?_
    refine wi_ldc2_w (e := 66667) (nx := 28) (r1 := 66667) (r2 := 0) (r3 := 0) rfl (by decide) ?_
    refine wr_V (k0 := 236) (rest := []) (as := [.ref 236, vl 66667]) (nx := 31) (r1 := 221) (r2 := 1) (r3 := 11) rfl rfl rfl (of_decide_eq_true rfl) rfl rfl (by decide) rfl rfl (of_decide_eq_true rfl) (of_decide_eq_true rfl) ?_
    refine wi_aload_n (i := 0) (x := 236) (nx := 1) (r1 := 0) (r2 := 0) (r3 := 0) rfl rfl ?_
    refine wr_gi0 (k0 := 236) (x := h 236 8) (nx := 4) (r1 := 11) (r2 := 8) (r3 := 0) rfl rfl (by decide) rfl ⟨rfl, rfl⟩ rfl rfl ?_
    refine wi_if (cd := .ne) (nx := 7) (r1 := 28) (r2 := 0) (r3 := 0) rfl (by omega) (fun (q6 : (h 236 8) ≠ 0) => ?_) (fun (q6 : ¬ ((h 236 8) ≠ 0)) => by exfalso; omega)
    refine wi_iconst (n := 0) (nx := 29) (r1 := 0) (r2 := 0) (r3 := 0) rfl ?_
    refine wi_zreturn (nx := 30) (r1 := 0) (r2 := 0) (r3 := 0) rfl rfl (by omega) ?_
    refine wk_i ?_
    refine wi_if (cd := .eq) (nx := 34) (r1 := 36) (r2 := 0) (r3 := 0) rfl (by omega) (fun (q7 : 0 = 0) => ?_) (fun (q7 : ¬ (0 = 0)) => by exfalso; omega)
    refine wi_aload_n (i := 0) (x := 236) (nx := 37) (r1 := 0) (r2 := 0) (r3 := 0) rfl rfl ?_
    refine wi_ldc2_w (e := 754996) (nx := 40) (r1 := 754996) (r2 := 0) (r3 := 0) rfl (by decide) ?_
    refine wr_V (k0 := 236) (rest := []) (as := [.ref 236, vl 754996]) (nx := 43) (r1 := 221) (r2 := 1) (r3 := 11) rfl rfl rfl (of_decide_eq_true rfl) rfl rfl (by decide) rfl rfl (of_decide_eq_true rfl) (of_decide_eq_true rfl) ?_
    refine wi_aload_n (i := 0) (x := 236) (nx := 1) (r1 := 0) (r2 := 0) (r3 := 0) rfl rfl ?_
    refine wr_gi0 (k0 := 236) (x := h 236 8) (nx := 4) (r1 := 11) (r2 := 8) (r3 := 0) rfl rfl (by decide) rfl ⟨rfl, rfl⟩ rfl rfl ?_
    refine wi_if (cd := .ne) (nx := 7) (r1 := 28) (r2 := 0) (r3 := 0) rfl (by omega) (fun (q8 : (h 236 8) ≠ 0) => ?_) (fun (q8 : ¬ ((h 236 8) ≠ 0)) => by exfalso; omega)
    refine wi_iconst (n := 0) (nx := 29) (r1 := 0) (r2 := 0) (r3 := 0) rfl ?_
    refine wi_zreturn (nx := 30) (r1 := 0) (r2 := 0) (r3 := 0) rfl rfl (by omega) ?_
    refine wk_i ?_
    refine wi_if (cd := .eq) (nx := 46) (r1 := 48) (r2 := 0) (r3 := 0) rfl (by omega) (fun (q9 : 0 = 0) => ?_) (fun (q9 : ¬ (0 = 0)) => by exfalso; omega)
    refine wi_aload_n (i := 0) (x := 236) (nx := 49) (r1 := 0) (r2 := 0) (r3 := 0) rfl rfl ?_
    refine wi_ldc2_w (e := 643248) (nx := 52) (r1 := 643248) (r2 := 0) (r3 := 0) rfl (by decide) ?_
    refine wr_V (k0 := 236) (rest := []) (as := [.ref 236, vl 643248]) (nx := 55) (r1 := 221) (r2 := 1) (r3 := 11) rfl rfl rfl (of_decide_eq_true rfl) rfl rfl (by decide) rfl rfl (of_decide_eq_true rfl) (of_decide_eq_true rfl) ?_
    refine wi_aload_n (i := 0) (x := 236) (nx := 1) (r1 := 0) (r2 := 0) (r3 := 0) rfl rfl ?_
    refine wr_gi0 (k0 := 236) (x := h 236 8) (nx := 4) (r1 := 11) (r2 := 8) (r3 := 0) rfl rfl (by decide) rfl ⟨rfl, rfl⟩ rfl rfl ?_
    refine wi_if (cd := .ne) (nx := 7) (r1 := 28) (r2 := 0) (r3 := 0) rfl (by omega) (fun (q10 : (h 236 8) ≠ 0) => ?_) (fun (q10 : ¬ ((h 236 8) ≠ 0)) => by exfalso; omega)
    refine wi_iconst (n := 0) (nx := 29) (r1 := 0) (r2 := 0) (r3 := 0) rfl ?_
    refine wi_zreturn (nx := 30) (r1 := 0) (r2 := 0) (r3 := 0) rfl rfl (by omega) ?_
    refine wk_i ?_
    refine wi_if (cd := .eq) (nx := 58) (r1 := 60) (r2 := 0) (r3 := 0) rfl (by omega) (fun (q11 : 0 = 0) => ?_) (fun (q11 : ¬ (0 = 0)) => by exfalso; omega)
    refine wi_aload_n (i := 0) (x := 236) (nx := 61) (r1 := 0) (r2 := 0) (r3 := 0) rfl rfl ?_
    refine wi_ldc2_w (e := 719731748) (nx := 64) (r1 := 719731748) (r2 := 0) (r3 := 0) rfl (by decide) ?_
    refine wr_V (k0 := 236) (rest := []) (as := [.ref 236, vl 719731748]) (nx := 67) (r1 := 221) (r2 := 1) (r3 := 11) rfl rfl rfl (of_decide_eq_true rfl) rfl rfl (by decide) rfl rfl (of_decide_eq_true rfl) (of_decide_eq_true rfl) ?_
    refine wi_aload_n (i := 0) (x := 236) (nx := 1) (r1 := 0) (r2 := 0) (r3 := 0) rfl rfl ?_
    refine wr_gi0 (k0 := 236) (x := h 236 8) (nx := 4) (r1 := 11) (r2 := 8) (r3 := 0) rfl rfl (by decide) rfl ⟨rfl, rfl⟩ rfl rfl ?_
    refine wi_if (cd := .ne) (nx := 7) (r1 := 28) (r2 := 0) (r3 := 0) rfl (by omega) (fun (q12 : (h 236 8) ≠ 0) => ?_) (fun (q12 : ¬ ((h 236 8) ≠ 0)) => by exfalso; omega)
    refine wi_iconst (n := 0) (nx := 29) (r1 := 0) (r2 := 0) (r3 := 0) rfl ?_
    refine wi_zreturn (nx := 30) (r1 := 0) (r2 := 0) (r3 := 0) rfl rfl (by omega) ?_
    refine wk_i ?_
    refine wi_if (cd := .eq) (nx := 70) (r1 := 72) (r2 := 0) (r3 := 0) rfl (by omega) (fun (q13 : 0 = 0) => ?_) (fun (q13 : ¬ (0 = 0)) => by exfalso; omega)
    refine wi_aload_n (i := 0) (x := 236) (nx := 73) (r1 := 0) (r2 := 0) (r3 := 0) rfl rfl ?_
    refine wi_ldc2_w (e := 646192) (nx := 76) (r1 := 646192) (r2 := 0) (r3 := 0) rfl (by decide) ?_
    refine wr_V (k0 := 236) (rest := []) (as := [.ref 236, vl 646192]) (nx := 79) (r1 := 221) (r2 := 1) (r3 := 11) rfl rfl rfl (of_decide_eq_true rfl) rfl rfl (by decide) rfl rfl (of_decide_eq_true rfl) (of_decide_eq_true rfl) ?_
    refine wi_aload_n (i := 0) (x := 236) (nx := 1) (r1 := 0) (r2 := 0) (r3 := 0) rfl rfl ?_
    refine wr_gi0 (k0 := 236) (x := h 236 8) (nx := 4) (r1 := 11) (r2 := 8) (r3 := 0) rfl rfl (by decide) rfl ⟨rfl, rfl⟩ rfl rfl ?_
    refine wi_if (cd := .ne) (nx := 7) (r1 := 28) (r2 := 0) (r3 := 0) rfl (by omega) (fun (q14 : (h 236 8) ≠ 0) => ?_) (fun (q14 : ¬ ((h 236 8) ≠ 0)) => by exfalso; omega)
    refine wi_iconst (n := 0) (nx := 29) (r1 := 0) (r2 := 0) (r3 := 0) rfl ?_
    refine wi_zreturn (nx := 30) (r1 := 0) (r2 := 0) (r3 := 0) rfl rfl (by omega) ?_
    refine wk_i ?_
    refine wi_if (cd := .eq) (nx := 82) (r1 := 85) (r2 := 0) (r3 := 0) rfl (by omega) (fun (q15 : 0 = 0) => ?_) (fun (q15 : ¬ (0 = 0)) => by exfalso; omega)
    refine wi_aload_n (i := 0) (x := 236) (nx := 86) (r1 := 0) (r2 := 0) (r3 := 0) rfl rfl ?_
    refine wi_ldc2_w (e := 609752116) (nx := 89) (r1 := 609752116) (r2 := 0) (r3 := 0) rfl (by decide) ?_
    refine wr_V (k0 := 236) (rest := []) (as := [.ref 236, vl 609752116]) (nx := 92) (r1 := 221) (r2 := 1) (r3 := 11) rfl rfl rfl (of_decide_eq_true rfl) rfl rfl (by decide) rfl rfl (of_decide_eq_true rfl) (of_decide_eq_true rfl) ?_
    refine wi_aload_n (i := 0) (x := 236) (nx := 1) (r1 := 0) (r2 := 0) (r3 := 0) rfl rfl ?_
    refine wr_gi0 (k0 := 236) (x := h 236 8) (nx := 4) (r1 := 11) (r2 := 8) (r3 := 0) rfl rfl (by decide) rfl ⟨rfl, rfl⟩ rfl rfl ?_
    refine wi_if (cd := .ne) (nx := 7) (r1 := 28) (r2 := 0) (r3 := 0) rfl (by omega) (fun (q16 : (h 236 8) ≠ 0) => ?_) (fun (q16 : ¬ ((h 236 8) ≠ 0)) => by exfalso; omega)
    refine wi_iconst (n := 0) (nx := 29) (r1 := 0) (r2 := 0) (r3 := 0) rfl ?_
    refine wi_zreturn (nx := 30) (r1 := 0) (r2 := 0) (r3 := 0) rfl rfl (by omega) ?_
    refine wk_i ?_
    refine wi_if (cd := .eq) (nx := 95) (r1 := 100) (r2 := 0) (r3 := 0) rfl (by omega) (fun (q17 : 0 = 0) => ?_) (fun (q17 : ¬ (0 = 0)) => by exfalso; omega)
    refine wi_iconst (n := (-1)) (nx := 101) (r1 := 0) (r2 := 0) (r3 := 0) rfl ?_
    refine wi_ireturn (nx := 102) (r1 := 0) (r2 := 0) (r3 := 0) rfl rfl ?_
    exact k (-1) (by omega)
  ·
    refine wi_aload_n (i := 0) (x := 236) (nx := 8) (r1 := 0) (r2 := 0) (r3 := 0) rfl rfl ?_
    have b3 := gi_b (lo := 0) (hi := 4) g 236 6 rfl
    refine wr_gi0 (k0 := 236) (x := h 236 6) (nx := 11) (r1 := 11) (r2 := 6) (r3 := 0) rfl rfl (by decide) rfl ⟨rfl, rfl⟩ rfl rfl ?_
    refine wi_iconst (n := 1) (nx := 12) (r1 := 0) (r2 := 0) (r3 := 0) rfl ?_
    refine wi_icmp (cd := .ne) (nx := 15) (r1 := 28) (r2 := 0) (r3 := 0) rfl (by omega) (by omega) (fun (q4 : (h 236 6) ≠ 1) => ?_) (fun (q4 : ¬ ((h 236 6) ≠ 1)) => ?_)
    ·
      refine wi_iconst (n := 0) (nx := 29) (r1 := 0) (r2 := 0) (r3 := 0) rfl ?_
      refine wi_zreturn (nx := 30) (r1 := 0) (r2 := 0) (r3 := 0) rfl rfl (by omega) ?_
      refine wk_i ?_
      refine wi_if (cd := .eq) (nx := 10) (r1 := 12) (r2 := 0) (r3 := 0) rfl (by omega) (fun (q5 : 0 = 0) => ?_) (fun (q5 : ¬ (0 = 0)) => by exfalso; omega)
      refine wi_aload_n (i := 0) (x := 236) (nx := 13) (r1 := 0) (r2 := 0) (r3 := 0) rfl rfl ?_
      refine wi_ldc2_w (e := 12748485) (nx := 16) (r1 := 12748485) (r2 := 0) (r3 := 0) rfl (by decide) ?_
      refine wr_V (k0 := 236) (rest := []) (as := [.ref 236, vl 12748485]) (nx := 19) (r1 := 221) (r2 := 1) (r3 := 11) rfl rfl rfl (of_decide_eq_true rfl) rfl rfl (by decide) rfl rfl (of_decide_eq_true rfl) (of_decide_eq_true rfl) ?_
      refine wi_aload_n (i := 0) (x := 236) (nx := 1) (r1 := 0) (r2 := 0) (r3 := 0) rfl rfl ?_
      refine wr_gi0 (k0 := 236) (x := h 236 8) (nx := 4) (r1 := 11) (r2 := 8) (r3 := 0) rfl rfl (by decide) rfl ⟨rfl, rfl⟩ rfl rfl ?_
      refine wi_if (cd := .ne) (nx := 7) (r1 := 28) (r2 := 0) (r3 := 0) rfl (by omega) (fun (q6 : (h 236 8) ≠ 0) => by exfalso; omega) (fun (q6 : ¬ ((h 236 8) ≠ 0)) => ?_)
      refine wi_aload_n (i := 0) (x := 236) (nx := 8) (r1 := 0) (r2 := 0) (r3 := 0) rfl rfl ?_
      refine wr_gi0 (k0 := 236) (x := h 236 6) (nx := 11) (r1 := 11) (r2 := 6) (r3 := 0) rfl rfl (by decide) rfl ⟨rfl, rfl⟩ rfl rfl ?_
      refine wi_iconst (n := 1) (nx := 12) (r1 := 0) (r2 := 0) (r3 := 0) rfl ?_
      refine wi_icmp (cd := .ne) (nx := 15) (r1 := 28) (r2 := 0) (r3 := 0) rfl (by omega) (by omega) (fun (q7 : (h 236 6) ≠ 1) => ?_) (fun (q7 : ¬ ((h 236 6) ≠ 1)) => by exfalso; omega)
      refine wi_iconst (n := 0) (nx := 29) (r1 := 0) (r2 := 0) (r3 := 0) rfl ?_
      refine wi_zreturn (nx := 30) (r1 := 0) (r2 := 0) (r3 := 0) rfl rfl (by omega) ?_
      refine wk_i ?_
      refine wi_if (cd := .eq) (nx := 22) (r1 := 24) (r2 := 0) (r3 := 0) rfl (by omega) (fun (q8 : 0 = 0) => ?_) (fun (q8 : ¬ (0 = 0)) => by exfalso; omega)
      refine wi_aload_n (i := 0) (x := 236) (nx := 25) (r1 := 0) (r2 := 0) (r3 := 0) rfl rfl ?_
      refine wi_ldc2_w (e := 66667) (nx := 28) (r1 := 66667) (r2 := 0) (r3 := 0) rfl (by decide) ?_
      refine wr_V (k0 := 236) (rest := []) (as := [.ref 236, vl 66667]) (nx := 31) (r1 := 221) (r2 := 1) (r3 := 11) rfl rfl rfl (of_decide_eq_true rfl) rfl rfl (by decide) rfl rfl (of_decide_eq_true rfl) (of_decide_eq_true rfl) ?_
      refine wi_aload_n (i := 0) (x := 236) (nx := 1) (r1 := 0) (r2 := 0) (r3 := 0) rfl rfl ?_
      refine wr_gi0 (k0 := 236) (x := h 236 8) (nx := 4) (r1 := 11) (r2 := 8) (r3 := 0) rfl rfl (by decide) rfl ⟨rfl, rfl⟩ rfl rfl ?_
      refine wi_if (cd := .ne) (nx := 7) (r1 := 28) (r2 := 0) (r3 := 0) rfl (by omega) (fun (q9 : (h 236 8) ≠ 0) => by exfalso; omega) (fun (q9 : ¬ ((h 236 8) ≠ 0)) => ?_)
      refine wi_aload_n (i := 0) (x := 236) (nx := 8) (r1 := 0) (r2 := 0) (r3 := 0) rfl rfl ?_
      refine wr_gi0 (k0 := 236) (x := h 236 6) (nx := 11) (r1 := 11) (r2 := 6) (r3 := 0) rfl rfl (by decide) rfl ⟨rfl, rfl⟩ rfl rfl ?_
      refine wi_iconst (n := 1) (nx := 12) (r1 := 0) (r2 := 0) (r3 := 0) rfl ?_
      refine wi_icmp (cd := .ne) (nx := 15) (r1 := 28) (r2 := 0) (r3 := 0) rfl (by omega) (by omega) (fun (q10 : (h 236 6) ≠ 1) => ?_) (fun (q10 : ¬ ((h 236 6) ≠ 1)) => by exfalso; omega)
      refine wi_iconst (n := 0) (nx := 29) (r1 := 0) (r2 := 0) (r3 := 0) rfl ?_
      refine wi_zreturn (nx := 30) (r1 := 0) (r2 := 0) (r3 := 0) rfl rfl (by omega) ?_
      refine wk_i ?_
      refine wi_if (cd := .eq) (nx := 34) (r1 := 36) (r2 := 0) (r3 := 0) rfl (by omega) (fun (q11 : 0 = 0) => ?_) (fun (q11 : ¬ (0 = 0)) => by exfalso; omega)
      refine wi_aload_n (i := 0) (x := 236) (nx := 37) (r1 := 0) (r2 := 0) (r3 := 0) rfl rfl ?_
      refine wi_ldc2_w (e := 754996) (nx := 40) (r1 := 754996) (r2 := 0) (r3 := 0) rfl (by decide) ?_
      refine wr_V (k0 := 236) (rest := []) (as := [.ref 236, vl 754996]) (nx := 43) (r1 := 221) (r2 := 1) (r3 := 11) rfl rfl rfl (of_decide_eq_true rfl) rfl rfl (by decide) rfl rfl (of_decide_eq_true rfl) (of_decide_eq_true rfl) ?_
      refine wi_aload_n (i := 0) (x := 236) (nx := 1) (r1 := 0) (r2 := 0) (r3 := 0) rfl rfl ?_
      refine wr_gi0 (k0 := 236) (x := h 236 8) (nx := 4) (r1 := 11) (r2 := 8) (r3 := 0) rfl rfl (by decide) rfl ⟨rfl, rfl⟩ rfl rfl ?_
      refine wi_if (cd := .ne) (nx := 7) (r1 := 28) (r2 := 0) (r3 := 0) rfl (by omega) (fun (q12 : (h 236 8) ≠ 0) => by exfalso; omega) (fun (q12 : ¬ ((h 236 8) ≠ 0)) => ?_)
      refine wi_aload_n (i := 0) (x := 236) (nx := 8) (r1 := 0) (r2 := 0) (r3 := 0) rfl rfl ?_
      refine wr_gi0 (k0 := 236) (x := h 236 6) (nx := 11) (r1 := 11) (r2 := 6) (r3 := 0) rfl rfl (by decide) rfl ⟨rfl, rfl⟩ rfl rfl ?_
      refine wi_iconst (n := 1) (nx := 12) (r1 := 0) (r2 := 0) (r3 := 0) rfl ?_
      refine wi_icmp (cd := .ne) (nx := 15) (r1 := 28) (r2 := 0) (r3 := 0) rfl (by omega) (by omega) (fun (q13 : (h 236 6) ≠ 1) => ?_) (fun (q13 : ¬ ((h 236 6) ≠ 1)) => by exfalso; omega)
      refine wi_iconst (n := 0) (nx := 29) (r1 := 0) (r2 := 0) (r3 := 0) rfl ?_
      refine wi_zreturn (nx := 30) (r1 := 0) (r2 := 0) (r3 := 0) rfl rfl (by omega) ?_
      refine wk_i ?_
      refine wi_if (cd := .eq) (nx := 46) (r1 := 48) (r2 := 0) (r3 := 0) rfl (by omega) (fun (q14 : 0 = 0) => ?_) (fun (q14 : ¬ (0 = 0)) => by exfalso; omega)
      refine wi_aload_n (i := 0) (x := 236) (nx := 49) (r1 := 0) (r2 := 0) (r3 := 0) rfl rfl ?_
      refine wi_ldc2_w (e := 643248) (nx := 52) (r1 := 643248) (r2 := 0) (r3 := 0) rfl (by decide) ?_
      refine wr_V (k0 := 236) (rest := []) (as := [.ref 236, vl 643248]) (nx := 55) (r1 := 221) (r2 := 1) (r3 := 11) rfl rfl rfl (of_decide_eq_true rfl) rfl rfl (by decide) rfl rfl (of_decide_eq_true rfl) (of_decide_eq_true rfl) ?_
      refine wi_aload_n (i := 0) (x := 236) (nx := 1) (r1 := 0) (r2 := 0) (r3 := 0) rfl rfl ?_
      refine wr_gi0 (k0 := 236) (x := h 236 8) (nx := 4) (r1 := 11) (r2 := 8) (r3 := 0) rfl rfl (by decide) rfl ⟨rfl, rfl⟩ rfl rfl ?_
      refine wi_if (cd := .ne) (nx := 7) (r1 := 28) (r2 := 0) (r3 := 0) rfl (by omega) (fun (q15 : (h 236 8) ≠ 0) => by exfalso; omega) (fun (q15 : ¬ ((h 236 8) ≠ 0)) => ?_)
      refine wi_aload_n (i := 0) (x := 236) (nx := 8) (r1 := 0) (r2 := 0) (r3 := 0) rfl rfl ?_
      refine wr_gi0 (k0 := 236) (x := h 236 6) (nx := 11) (r1 := 11) (r2 := 6) (r3 := 0) rfl rfl (by decide) rfl ⟨rfl, rfl⟩ rfl rfl ?_
      refine wi_iconst (n := 1) (nx := 12) (r1 := 0) (r2 := 0) (r3 := 0) rfl ?_
      refine wi_icmp (cd := .ne) (nx := 15) (r1 := 28) (r2 := 0) (r3 := 0) rfl (by omega) (by omega) (fun (q16 : (h 236 6) ≠ 1) => ?_) (fun (q16 : ¬ ((h 236 6) ≠ 1)) => by exfalso; omega)
      refine wi_iconst (n := 0) (nx := 29) (r1 := 0) (r2 := 0) (r3 := 0) rfl ?_
      refine wi_zreturn (nx := 30) (r1 := 0) (r2 := 0) (r3 := 0) rfl rfl (by omega) ?_
      refine wk_i ?_
      refine wi_if (cd := .eq) (nx := 58) (r1 := 60) (r2 := 0) (r3 := 0) rfl (by omega) (fun (q17 : 0 = 0) => ?_) (fun (q17 : ¬ (0 = 0)) => by exfalso; omega)
      refine wi_aload_n (i := 0) (x := 236) (nx := 61) (r1 := 0) (r2 := 0) (r3 := 0) rfl rfl ?_
      refine wi_ldc2_w (e := 719731748) (nx := 64) (r1 := 719731748) (r2 := 0) (r3 := 0) rfl (by decide) ?_
      refine wr_V (k0 := 236) (rest := []) (as := [.ref 236, vl 719731748]) (nx := 67) (r1 := 221) (r2 := 1) (r3 := 11) rfl rfl rfl (of_decide_eq_true rfl) rfl rfl (by decide) rfl rfl (of_decide_eq_true rfl) (of_decide_eq_true rfl) ?_
      refine wi_aload_n (i := 0) (x := 236) (nx := 1) (r1 := 0) (r2 := 0) (r3 := 0) rfl rfl ?_
      refine wr_gi0 (k0 := 236) (x := h 236 8) (nx := 4) (r1 := 11) (r2 := 8) (r3 := 0) rfl rfl (by decide) rfl ⟨rfl, rfl⟩ rfl rfl ?_
      refine wi_if (cd := .ne) (nx := 7) (r1 := 28) (r2 := 0) (r3 := 0) rfl (by omega) (fun (q18 : (h 236 8) ≠ 0) => by exfalso; omega) (fun (q18 : ¬ ((h 236 8) ≠ 0)) => ?_)
      refine wi_aload_n (i := 0) (x := 236) (nx := 8) (r1 := 0) (r2 := 0) (r3 := 0) rfl rfl ?_
      refine wr_gi0 (k0 := 236) (x := h 236 6) (nx := 11) (r1 := 11) (r2 := 6) (r3 := 0) rfl rfl (by decide) rfl ⟨rfl, rfl⟩ rfl rfl ?_
      refine wi_iconst (n := 1) (nx := 12) (r1 := 0) (r2 := 0) (r3 := 0) rfl ?_
      refine wi_icmp (cd := .ne) (nx := 15) (r1 := 28) (r2 := 0) (r3 := 0) rfl (by omega) (by omega) (fun (q19 : (h 236 6) ≠ 1) => ?_) (fun (q19 : ¬ ((h 236 6) ≠ 1)) => by exfalso; omega)
      refine wi_iconst (n := 0) (nx := 29) (r1 := 0) (r2 := 0) (r3 := 0) rfl ?_
      refine wi_zreturn (nx := 30) (r1 := 0) (r2 := 0) (r3 := 0) rfl rfl (by omega) ?_
      refine wk_i ?_
      refine wi_if (cd := .eq) (nx := 70) (r1 := 72) (r2 := 0) (r3 := 0) rfl (by omega) (fun (q20 : 0 = 0) => ?_) (fun (q20 : ¬ (0 = 0)) => by exfalso; omega)
      refine wi_aload_n (i := 0) (x := 236) (nx := 73) (r1 := 0) (r2 := 0) (r3 := 0) rfl rfl ?_
      refine wi_ldc2_w (e := 646192) (nx := 76) (r1 := 646192) (r2 := 0) (r3 := 0) rfl (by decide) ?_
      refine wr_V (k0 := 236) (rest := []) (as := [.ref 236, vl 646192]) (nx := 79) (r1 := 221) (r2 := 1) (r3 := 11) rfl rfl rfl (of_decide_eq_true rfl) rfl rfl (by decide) rfl rfl (of_decide_eq_true rfl) (of_decide_eq_true rfl) ?_
      refine wi_aload_n (i := 0) (x := 236) (nx := 1) (r1 := 0) (r2 := 0) (r3 := 0) rfl rfl ?_
      refine wr_gi0 (k0 := 236) (x := h 236 8) (nx := 4) (r1 := 11) (r2 := 8) (r3 := 0) rfl rfl (by decide) rfl ⟨rfl, rfl⟩ rfl rfl ?_
      refine wi_if (cd := .ne) (nx := 7) (r1 := 28) (r2 := 0) (r3 := 0) rfl (by omega) (fun (q21 : (h 236 8) ≠ 0) => by exfalso; omega) (fun (q21 : ¬ ((h 236 8) ≠ 0)) => ?_)
      refine wi_aload_n (i := 0) (x := 236) (nx := 8) (r1 := 0) (r2 := 0) (r3 := 0) rfl rfl ?_
      refine wr_gi0 (k0 := 236) (x := h 236 6) (nx := 11) (r1 := 11) (r2 := 6) (r3 := 0) rfl rfl (by decide) rfl ⟨rfl, rfl⟩ rfl rfl ?_
      refine wi_iconst (n := 1) (nx := 12) (r1 := 0) (r2 := 0) (r3 := 0) rfl ?_
      refine wi_icmp (cd := .ne) (nx := 15) (r1 := 28) (r2 := 0) (r3 := 0) rfl (by omega) (by omega) (fun (q22 : (h 236 6) ≠ 1) => ?_) (fun (q22 : ¬ ((h 236 6) ≠ 1)) => by exfalso; omega)
      refine wi_iconst (n := 0) (nx := 29) (r1 := 0) (r2 := 0) (r3 := 0) rfl ?_
      refine wi_zreturn (nx := 30) (r1 := 0) (r2 := 0) (r3 := 0) rfl rfl (by omega) ?_
      refine wk_i ?_
      refine wi_if (cd := .eq) (nx := 82) (r1 := 85) (r2 := 0) (r3 := 0) rfl (by omega) (fun (q23 : 0 = 0) => ?_) (fun (q23 : ¬ (0 = 0)) => by exfalso; omega)
      refine wi_aload_n (i := 0) (x := 236) (nx := 86) (r1 := 0) (r2 := 0) (r3 := 0) rfl rfl ?_
      refine wi_ldc2_w (e := 609752116) (nx := 89) (r1 := 609752116) (r2 := 0) (r3 := 0) rfl (by decide) ?_
      refine wr_V (k0 := 236) (rest := []) (as := [.ref 236, vl 609752116]) (nx := 92) (r1 := 221) (r2 := 1) (r3 := 11) rfl rfl rfl (of_decide_eq_true rfl) rfl rfl (by decide) rfl rfl (of_decide_eq_true rfl) (of_decide_eq_true rfl) ?_
      refine wi_aload_n (i := 0) (x := 236) (nx := 1) (r1 := 0) (r2 := 0) (r3 := 0) rfl rfl ?_
      refine wr_gi0 (k0 := 236) (x := h 236 8) (nx := 4) (r1 := 11) (r2 := 8) (r3 := 0) rfl rfl (by decide) rfl ⟨rfl, rfl⟩ rfl rfl ?_
      refine wi_if (cd := .ne) (nx := 7) (r1 := 28) (r2 := 0) (r3 := 0) rfl (by omega) (fun (q24 : (h 236 8) ≠ 0) => by exfalso; omega) (fun (q24 : ¬ ((h 236 8) ≠ 0)) => ?_)
      refine wi_aload_n (i := 0) (x := 236) (nx := 8) (r1 := 0) (r2 := 0) (r3 := 0) rfl rfl ?_
      refine wr_gi0 (k0 := 236) (x := h 236 6) (nx := 11) (r1 := 11) (r2 := 6) (r3 := 0) rfl rfl (by decide) rfl ⟨rfl, rfl⟩ rfl rfl ?_
      refine wi_iconst (n := 1) (nx := 12) (r1 := 0) (r2 := 0) (r3 := 0) rfl ?_
      refine wi_icmp (cd := .ne) (nx := 15) (r1 := 28) (r2 := 0) (r3 := 0) rfl (by omega) (by omega) (fun (q25 : (h 236 6) ≠ 1) => ?_) (fun (q25 : ¬ ((h 236 6) ≠ 1)) => by exfalso; omega)
      refine wi_iconst (n := 0) (nx := 29) (r1 := 0) (r2 := 0) (r3 := 0) rfl ?_
      refine wi_zreturn (nx := 30) (r1 := 0) (r2 := 0) (r3 := 0) rfl rfl (by omega) ?_
      refine wk_i ?_
      refine wi_if (cd := .eq) (nx := 95) (r1 := 100) (r2 := 0) (r3 := 0) rfl (by omega) (fun (q26 : 0 = 0) => ?_) (fun (q26 : ¬ (0 = 0)) => by exfalso; omega)
      refine wi_iconst (n := (-1)) (nx := 101) (r1 := 0) (r2 := 0) (r3 := 0) rfl ?_
      refine wi_ireturn (nx := 102) (r1 := 0) (r2 := 0) (r3 := 0) rfl rfl ?_
      exact k (-1) (by omega)
    ·
      refine wi_aload_n (i := 0) (x := 236) (nx := 16) (r1 := 0) (r2 := 0) (r3 := 0) rfl rfl ?_
      have b5 := gi_b (lo := -9223372036854775808) (hi := 9223372036854775807) g 236 12 rfl
      refine wr_gi1 (k0 := 236) (x := h 236 12) (nx := 19) (r1 := 11) (r2 := 12) (r3 := 0) rfl rfl (by decide) rfl ⟨rfl, rfl⟩ rfl rfl ?_
      refine wi_lload_n (i := 1) (e := 5722290) (nx := 20) (r1 := 0) (r2 := 0) (r3 := 0) rfl rfl ?_
      refine wi_lcmp (a := h 236 12) (e := 5722290) (nx := 21) (r1 := 0) (r2 := 0) (r3 := 0) rfl (by omega) (by omega) (fun r6 (fr6 : (r6 = -1 ∧ (h 236 12) < 5722290) ∨ (r6 = 0 ∧ (h 236 12) = 5722290) ∨ (r6 = 1 ∧ 5722290 < (h 236 12))) => ?_)
      refine wi_if (cd := .ne) (nx := 24) (r1 := 28) (r2 := 0) (r3 := 0) rfl (by omega) (fun (q7 : r6 ≠ 0) => ?_) (fun (q7 : ¬ (r6 ≠ 0)) => ?_)
      ·
        refine wi_iconst (n := 0) (nx := 29) (r1 := 0) (r2 := 0) (r3 := 0) rfl ?_
        refine wi_zreturn (nx := 30) (r1 := 0) (r2 := 0) (r3 := 0) rfl rfl (by omega) ?_
        refine wk_i ?_
        refine wi_if (cd := .eq) (nx := 10) (r1 := 12) (r2 := 0) (r3 := 0) rfl (by omega) (fun (q8 : 0 = 0) => ?_) (fun (q8 : ¬ (0 = 0)) => by exfalso; omega)
        refine wi_aload_n (i := 0) (x := 236) (nx := 13) (r1 := 0) (r2 := 0) (r3 := 0) rfl rfl ?_
        refine wi_ldc2_w (e := 12748485) (nx := 16) (r1 := 12748485) (r2 := 0) (r3 := 0) rfl (by decide) ?_
        refine wr_V (k0 := 236) (rest := []) (as := [.ref 236, vl 12748485]) (nx := 19) (r1 := 221) (r2 := 1) (r3 := 11) rfl rfl rfl (of_decide_eq_true rfl) rfl rfl (by decide) rfl rfl (of_decide_eq_true rfl) (of_decide_eq_true rfl) ?_
        refine wi_aload_n (i := 0) (x := 236) (nx := 1) (r1 := 0) (r2 := 0) (r3 := 0) rfl rfl ?_
        refine wr_gi0 (k0 := 236) (x := h 236 8) (nx := 4) (r1 := 11) (r2 := 8) (r3 := 0) rfl rfl (by decide) rfl ⟨rfl, rfl⟩ rfl rfl ?_
        refine wi_if (cd := .ne) (nx := 7) (r1 := 28) (r2 := 0) (r3 := 0) rfl (by omega) (fun (q9 : (h 236 8) ≠ 0) => by exfalso; omega) (fun (q9 : ¬ ((h 236 8) ≠ 0)) => ?_)
        refine wi_aload_n (i := 0) (x := 236) (nx := 8) (r1 := 0) (r2 := 0) (r3 := 0) rfl rfl ?_
        refine wr_gi0 (k0 := 236) (x := h 236 6) (nx := 11) (r1 := 11) (r2 := 6) (r3 := 0) rfl rfl (by decide) rfl ⟨rfl, rfl⟩ rfl rfl ?_
        refine wi_iconst (n := 1) (nx := 12) (r1 := 0) (r2 := 0) (r3 := 0) rfl ?_
        refine wi_icmp (cd := .ne) (nx := 15) (r1 := 28) (r2 := 0) (r3 := 0) rfl (by omega) (by omega) (fun (q10 : (h 236 6) ≠ 1) => by exfalso; omega) (fun (q10 : ¬ ((h 236 6) ≠ 1)) => ?_)
        refine wi_aload_n (i := 0) (x := 236) (nx := 16) (r1 := 0) (r2 := 0) (r3 := 0) rfl rfl ?_
        refine wr_gi1 (k0 := 236) (x := h 236 12) (nx := 19) (r1 := 11) (r2 := 12) (r3 := 0) rfl rfl (by decide) rfl ⟨rfl, rfl⟩ rfl rfl ?_
        refine wi_lload_n (i := 1) (e := 12748485) (nx := 20) (r1 := 0) (r2 := 0) (r3 := 0) rfl rfl ?_
        refine wi_lcmp (a := h 236 12) (e := 12748485) (nx := 21) (r1 := 0) (r2 := 0) (r3 := 0) rfl (by omega) (by omega) (fun r11 (fr11 : (r11 = -1 ∧ (h 236 12) < 12748485) ∨ (r11 = 0 ∧ (h 236 12) = 12748485) ∨ (r11 = 1 ∧ 12748485 < (h 236 12))) => ?_)
        refine wi_if (cd := .ne) (nx := 24) (r1 := 28) (r2 := 0) (r3 := 0) rfl (by omega) (fun (q12 : r11 ≠ 0) => ?_) (fun (q12 : ¬ (r11 ≠ 0)) => ?_)
        ·
          refine wi_iconst (n := 0) (nx := 29) (r1 := 0) (r2 := 0) (r3 := 0) rfl ?_
          refine wi_zreturn (nx := 30) (r1 := 0) (r2 := 0) (r3 := 0) rfl rfl (by omega) ?_
          refine wk_i ?_
          refine wi_if (cd := .eq) (nx := 22) (r1 := 24) (r2 := 0) (r3 := 0) rfl (by omega) (fun (q13 : 0 = 0) => ?_) (fun (q13 : ¬ (0 = 0)) => by exfalso; omega)
          refine wi_aload_n (i := 0) (x := 236) (nx := 25) (r1 := 0) (r2 := 0) (r3 := 0) rfl rfl ?_
          refine wi_ldc2_w (e := 66667) (nx := 28) (r1 := 66667) (r2 := 0) (r3 := 0) rfl (by decide) ?_
          refine wr_V (k0 := 236) (rest := []) (as := [.ref 236, vl 66667]) (nx := 31) (r1 := 221) (r2 := 1) (r3 := 11) rfl rfl rfl (of_decide_eq_true rfl) rfl rfl (by decide) rfl rfl (of_decide_eq_true rfl) (of_decide_eq_true rfl) ?_
          refine wi_aload_n (i := 0) (x := 236) (nx := 1) (r1 := 0) (r2 := 0) (r3 := 0) rfl rfl ?_
          refine wr_gi0 (k0 := 236) (x := h 236 8) (nx := 4) (r1 := 11) (r2 := 8) (r3 := 0) rfl rfl (by decide) rfl ⟨rfl, rfl⟩ rfl rfl ?_
          refine wi_if (cd := .ne) (nx := 7) (r1 := 28) (r2 := 0) (r3 := 0) rfl (by omega) (fun (q14 : (h 236 8) ≠ 0) => by exfalso; omega) (fun (q14 : ¬ ((h 236 8) ≠ 0)) => ?_)
          refine wi_aload_n (i := 0) (x := 236) (nx := 8) (r1 := 0) (r2 := 0) (r3 := 0) rfl rfl ?_
          refine wr_gi0 (k0 := 236) (x := h 236 6) (nx := 11) (r1 := 11) (r2 := 6) (r3 := 0) rfl rfl (by decide) rfl ⟨rfl, rfl⟩ rfl rfl ?_
          refine wi_iconst (n := 1) (nx := 12) (r1 := 0) (r2 := 0) (r3 := 0) rfl ?_
          refine wi_icmp (cd := .ne) (nx := 15) (r1 := 28) (r2 := 0) (r3 := 0) rfl (by omega) (by omega) (fun (q15 : (h 236 6) ≠ 1) => by exfalso; omega) (fun (q15 : ¬ ((h 236 6) ≠ 1)) => ?_)
          refine wi_aload_n (i := 0) (x := 236) (nx := 16) (r1 := 0) (r2 := 0) (r3 := 0) rfl rfl ?_
          refine wr_gi1 (k0 := 236) (x := h 236 12) (nx := 19) (r1 := 11) (r2 := 12) (r3 := 0) rfl rfl (by decide) rfl ⟨rfl, rfl⟩ rfl rfl ?_
          refine wi_lload_n (i := 1) (e := 66667) (nx := 20) (r1 := 0) (r2 := 0) (r3 := 0) rfl rfl ?_
          refine wi_lcmp (a := h 236 12) (e := 66667) (nx := 21) (r1 := 0) (r2 := 0) (r3 := 0) rfl (by omega) (by omega) (fun r16 (fr16 : (r16 = -1 ∧ (h 236 12) < 66667) ∨ (r16 = 0 ∧ (h 236 12) = 66667) ∨ (r16 = 1 ∧ 66667 < (h 236 12))) => ?_)
          refine wi_if (cd := .ne) (nx := 24) (r1 := 28) (r2 := 0) (r3 := 0) rfl (by omega) (fun (q17 : r16 ≠ 0) => ?_) (fun (q17 : ¬ (r16 ≠ 0)) => ?_)
          ·
            refine wi_iconst (n := 0) (nx := 29) (r1 := 0) (r2 := 0) (r3 := 0) rfl ?_
            refine wi_zreturn (nx := 30) (r1 := 0) (r2 := 0) (r3 := 0) rfl rfl (by omega) ?_
            refine wk_i ?_
            refine wi_if (cd := .eq) (nx := 34) (r1 := 36) (r2 := 0) (r3 := 0) rfl (by omega) (fun (q18 : 0 = 0) => ?_) (fun (q18 : ¬ (0 = 0)) => by exfalso; omega)
            refine wi_aload_n (i := 0) (x := 236) (nx := 37) (r1 := 0) (r2 := 0) (r3 := 0) rfl rfl ?_
            refine wi_ldc2_w (e := 754996) (nx := 40) (r1 := 754996) (r2 := 0) (r3 := 0) rfl (by decide) ?_
            refine wr_V (k0 := 236) (rest := []) (as := [.ref 236, vl 754996]) (nx := 43) (r1 := 221) (r2 := 1) (r3 := 11) rfl rfl rfl (of_decide_eq_true rfl) rfl rfl (by decide) rfl rfl (of_decide_eq_true rfl) (of_decide_eq_true rfl) ?_
            refine wi_aload_n (i := 0) (x := 236) (nx := 1) (r1 := 0) (r2 := 0) (r3 := 0) rfl rfl ?_
            refine wr_gi0 (k0 := 236) (x := h 236 8) (nx := 4) (r1 := 11) (r2 := 8) (r3 := 0) rfl rfl (by decide) rfl ⟨rfl, rfl⟩ rfl rfl ?_
            refine wi_if (cd := .ne) (nx := 7) (r1 := 28) (r2 := 0) (r3 := 0) rfl (by omega) (fun (q19 : (h 236 8) ≠ 0) => by exfalso; omega) (fun (q19 : ¬ ((h 236 8) ≠ 0)) => ?_)
            refine wi_aload_n (i := 0) (x := 236) (nx := 8) (r1 := 0) (r2 := 0) (r3 := 0) rfl rfl ?_
            refine wr_gi0 (k0 := 236) (x := h 236 6) (nx := 11) (r1 := 11) (r2 := 6) (r3 := 0) rfl rfl (by decide) rfl ⟨rfl, rfl⟩ rfl rfl ?_
            refine wi_iconst (n := 1) (nx := 12) (r1 := 0) (r2 := 0) (r3 := 0) rfl ?_
            refine wi_icmp (cd := .ne) (nx := 15) (r1 := 28) (r2 := 0) (r3 := 0) rfl (by omega) (by omega) (fun (q20 : (h 236 6) ≠ 1) => by exfalso; omega) (fun (q20 : ¬ ((h 236 6) ≠ 1)) => ?_)
            refine wi_aload_n (i := 0) (x := 236) (nx := 16) (r1 := 0) (r2 := 0) (r3 := 0) rfl rfl ?_
            refine wr_gi1 (k0 := 236) (x := h 236 12) (nx := 19) (r1 := 11) (r2 := 12) (r3 := 0) rfl rfl (by decide) rfl ⟨rfl, rfl⟩ rfl rfl ?_
            refine wi_lload_n (i := 1) (e := 754996) (nx := 20) (r1 := 0) (r2 := 0) (r3 := 0) rfl rfl ?_
            refine wi_lcmp (a := h 236 12) (e := 754996) (nx := 21) (r1 := 0) (r2 := 0) (r3 := 0) rfl (by omega) (by omega) (fun r21 (fr21 : (r21 = -1 ∧ (h 236 12) < 754996) ∨ (r21 = 0 ∧ (h 236 12) = 754996) ∨ (r21 = 1 ∧ 754996 < (h 236 12))) => ?_)
            refine wi_if (cd := .ne) (nx := 24) (r1 := 28) (r2 := 0) (r3 := 0) rfl (by omega) (fun (q22 : r21 ≠ 0) => ?_) (fun (q22 : ¬ (r21 ≠ 0)) => ?_)
            ·
              refine wi_iconst (n := 0) (nx := 29) (r1 := 0) (r2 := 0) (r3 := 0) rfl ?_
              refine wi_zreturn (nx := 30) (r1 := 0) (r2 := 0) (r3 := 0) rfl rfl (by omega) ?_
              refine wk_i ?_
              refine wi_if (cd := .eq) (nx := 46) (r1 := 48) (r2 := 0) (r3 := 0) rfl (by omega) (fun (q23 : 0 = 0) => ?_) (fun (q23 : ¬ (0 = 0)) => by exfalso; omega)
              refine wi_aload_n (i := 0) (x := 236) (nx := 49) (r1 := 0) (r2 := 0) (r3 := 0) rfl rfl ?_
              refine wi_ldc2_w (e := 643248) (nx := 52) (r1 := 643248) (r2 := 0) (r3 := 0) rfl (by decide) ?_
              refine wr_V (k0 := 236) (rest := []) (as := [.ref 236, vl 643248]) (nx := 55) (r1 := 221) (r2 := 1) (r3 := 11) rfl rfl rfl (of_decide_eq_true rfl) rfl rfl (by decide) rfl rfl (of_decide_eq_true rfl) (of_decide_eq_true rfl) ?_
              refine wi_aload_n (i := 0) (x := 236) (nx := 1) (r1 := 0) (r2 := 0) (r3 := 0) rfl rfl ?_
              refine wr_gi0 (k0 := 236) (x := h 236 8) (nx := 4) (r1 := 11) (r2 := 8) (r3 := 0) rfl rfl (by decide) rfl ⟨rfl, rfl⟩ rfl rfl ?_
              refine wi_if (cd := .ne) (nx := 7) (r1 := 28) (r2 := 0) (r3 := 0) rfl (by omega) (fun (q24 : (h 236 8) ≠ 0) => by exfalso; omega) (fun (q24 : ¬ ((h 236 8) ≠ 0)) => ?_)
              refine wi_aload_n (i := 0) (x := 236) (nx := 8) (r1 := 0) (r2 := 0) (r3 := 0) rfl rfl ?_
              refine wr_gi0 (k0 := 236) (x := h 236 6) (nx := 11) (r1 := 11) (r2 := 6) (r3 := 0) rfl rfl (by decide) rfl ⟨rfl, rfl⟩ rfl rfl ?_
              refine wi_iconst (n := 1) (nx := 12) (r1 := 0) (r2 := 0) (r3 := 0) rfl ?_
              refine wi_icmp (cd := .ne) (nx := 15) (r1 := 28) (r2 := 0) (r3 := 0) rfl (by omega) (by omega) (fun (q25 : (h 236 6) ≠ 1) => by exfalso; omega) (fun (q25 : ¬ ((h 236 6) ≠ 1)) => ?_)
              refine wi_aload_n (i := 0) (x := 236) (nx := 16) (r1 := 0) (r2 := 0) (r3 := 0) rfl rfl ?_
              refine wr_gi1 (k0 := 236) (x := h 236 12) (nx := 19) (r1 := 11) (r2 := 12) (r3 := 0) rfl rfl (by decide) rfl ⟨rfl, rfl⟩ rfl rfl ?_
              refine wi_lload_n (i := 1) (e := 643248) (nx := 20) (r1 := 0) (r2 := 0) (r3 := 0) rfl rfl ?_
              refine wi_lcmp (a := h 236 12) (e := 643248) (nx := 21) (r1 := 0) (r2 := 0) (r3 := 0) rfl (by omega) (by omega) (fun r26 (fr26 : (r26 = -1 ∧ (h 236 12) < 643248) ∨ (r26 = 0 ∧ (h 236 12) = 643248) ∨ (r26 = 1 ∧ 643248 < (h 236 12))) => ?_)
              refine wi_if (cd := .ne) (nx := 24) (r1 := 28) (r2 := 0) (r3 := 0) rfl (by omega) (fun (q27 : r26 ≠ 0) => ?_) (fun (q27 : ¬ (r26 ≠ 0)) => ?_)
              ·
                refine wi_iconst (n := 0) (nx := 29) (r1 := 0) (r2 := 0) (r3 := 0) rfl ?_
                refine wi_zreturn (nx := 30) (r1 := 0) (r2 := 0) (r3 := 0) rfl rfl (by omega) ?_
                refine wk_i ?_
                refine wi_if (cd := .eq) (nx := 58) (r1 := 60) (r2 := 0) (r3 := 0) rfl (by omega) (fun (q28 : 0 = 0) => ?_) (fun (q28 : ¬ (0 = 0)) => by exfalso; omega)
                refine wi_aload_n (i := 0) (x := 236) (nx := 61) (r1 := 0) (r2 := 0) (r3 := 0) rfl rfl ?_
                refine wi_ldc2_w (e := 719731748) (nx := 64) (r1 := 719731748) (r2 := 0) (r3 := 0) rfl (by decide) ?_
                refine wr_V (k0 := 236) (rest := []) (as := [.ref 236, vl 719731748]) (nx := 67) (r1 := 221) (r2 := 1) (r3 := 11) rfl rfl rfl (of_decide_eq_true rfl) rfl rfl (by decide) rfl rfl (of_decide_eq_true rfl) (of_decide_eq_true rfl) ?_
                refine wi_aload_n (i := 0) (x := 236) (nx := 1) (r1 := 0) (r2 := 0) (r3 := 0) rfl rfl ?_
                refine wr_gi0 (k0 := 236) (x := h 236 8) (nx := 4) (r1 := 11) (r2 := 8) (r3 := 0) rfl rfl (by decide) rfl ⟨rfl, rfl⟩ rfl rfl ?_
                refine wi_if (cd := .ne) (nx := 7) (r1 := 28) (r2 := 0) (r3 := 0) rfl (by omega) (fun (q29 : (h 236 8) ≠ 0) => by exfalso; omega) (fun (q29 : ¬ ((h 236 8) ≠ 0)) => ?_)
                refine wi_aload_n (i := 0) (x := 236) (nx := 8) (r1 := 0) (r2 := 0) (r3 := 0) rfl rfl ?_
                refine wr_gi0 (k0 := 236) (x := h 236 6) (nx := 11) (r1 := 11) (r2 := 6) (r3 := 0) rfl rfl (by decide) rfl ⟨rfl, rfl⟩ rfl rfl ?_
                refine wi_iconst (n := 1) (nx := 12) (r1 := 0) (r2 := 0) (r3 := 0) rfl ?_
                refine wi_icmp (cd := .ne) (nx := 15) (r1 := 28) (r2 := 0) (r3 := 0) rfl (by omega) (by omega) (fun (q30 : (h 236 6) ≠ 1) => by exfalso; omega) (fun (q30 : ¬ ((h 236 6) ≠ 1)) => ?_)
                refine wi_aload_n (i := 0) (x := 236) (nx := 16) (r1 := 0) (r2 := 0) (r3 := 0) rfl rfl ?_
                refine wr_gi1 (k0 := 236) (x := h 236 12) (nx := 19) (r1 := 11) (r2 := 12) (r3 := 0) rfl rfl (by decide) rfl ⟨rfl, rfl⟩ rfl rfl ?_
                refine wi_lload_n (i := 1) (e := 719731748) (nx := 20) (r1 := 0) (r2 := 0) (r3 := 0) rfl rfl ?_
                refine wi_lcmp (a := h 236 12) (e := 719731748) (nx := 21) (r1 := 0) (r2 := 0) (r3 := 0) rfl (by omega) (by omega) (fun r31 (fr31 : (r31 = -1 ∧ (h 236 12) < 719731748) ∨ (r31 = 0 ∧ (h 236 12) = 719731748) ∨ (r31 = 1 ∧ 719731748 < (h 236 12))) => ?_)
                refine wi_if (cd := .ne) (nx := 24) (r1 := 28) (r2 := 0) (r3 := 0) rfl (by omega) (fun (q32 : r31 ≠ 0) => ?_) (fun (q32 : ¬ (r31 ≠ 0)) => ?_)
                ·
                  refine wi_iconst (n := 0) (nx := 29) (r1 := 0) (r2 := 0) (r3 := 0) rfl ?_
                  refine wi_zreturn (nx := 30) (r1 := 0) (r2 := 0) (r3 := 0) rfl rfl (by omega) ?_
                  refine wk_i ?_
                  refine wi_if (cd := .eq) (nx := 70) (r1 := 72) (r2 := 0) (r3 := 0) rfl (by omega) (fun (q33 : 0 = 0) => ?_) (fun (q33 : ¬ (0 = 0)) => by exfalso; omega)
                  refine wi_aload_n (i := 0) (x := 236) (nx := 73) (r1 := 0) (r2 := 0) (r3 := 0) rfl rfl ?_
                  refine wi_ldc2_w (e := 646192) (nx := 76) (r1 := 646192) (r2 := 0) (r3 := 0) rfl (by decide) ?_
                  refine wr_V (k0 := 236) (rest := []) (as := [.ref 236, vl 646192]) (nx := 79) (r1 := 221) (r2 := 1) (r3 := 11) rfl rfl rfl (of_decide_eq_true rfl) rfl rfl (by decide) rfl rfl (of_decide_eq_true rfl) (of_decide_eq_true rfl) ?_
                  refine wi_aload_n (i := 0) (x := 236) (nx := 1) (r1 := 0) (r2 := 0) (r3 := 0) rfl rfl ?_
                  refine wr_gi0 (k0 := 236) (x := h 236 8) (nx := 4) (r1 := 11) (r2 := 8) (r3 := 0) rfl rfl (by decide) rfl ⟨rfl, rfl⟩ rfl rfl ?_
                  refine wi_if (cd := .ne) (nx := 7) (r1 := 28) (r2 := 0) (r3 := 0) rfl (by omega) (fun (q34 : (h 236 8) ≠ 0) => by exfalso; omega) (fun (q34 : ¬ ((h 236 8) ≠ 0)) => ?_)
                  refine wi_aload_n (i := 0) (x := 236) (nx := 8) (r1 := 0) (r2 := 0) (r3 := 0) rfl rfl ?_
                  refine wr_gi0 (k0 := 236) (x := h 236 6) (nx := 11) (r1 := 11) (r2 := 6) (r3 := 0) rfl rfl (by decide) rfl ⟨rfl, rfl⟩ rfl rfl ?_
                  refine wi_iconst (n := 1) (nx := 12) (r1 := 0) (r2 := 0) (r3 := 0) rfl ?_
                  refine wi_icmp (cd := .ne) (nx := 15) (r1 := 28) (r2 := 0) (r3 := 0) rfl (by omega) (by omega) (fun (q35 : (h 236 6) ≠ 1) => by exfalso; omega) (fun (q35 : ¬ ((h 236 6) ≠ 1)) => ?_)
                  refine wi_aload_n (i := 0) (x := 236) (nx := 16) (r1 := 0) (r2 := 0) (r3 := 0) rfl rfl ?_
                  refine wr_gi1 (k0 := 236) (x := h 236 12) (nx := 19) (r1 := 11) (r2 := 12) (r3 := 0) rfl rfl (by decide) rfl ⟨rfl, rfl⟩ rfl rfl ?_
                  refine wi_lload_n (i := 1) (e := 646192) (nx := 20) (r1 := 0) (r2 := 0) (r3 := 0) rfl rfl ?_
                  refine wi_lcmp (a := h 236 12) (e := 646192) (nx := 21) (r1 := 0) (r2 := 0) (r3 := 0) rfl (by omega) (by omega) (fun r36 (fr36 : (r36 = -1 ∧ (h 236 12) < 646192) ∨ (r36 = 0 ∧ (h 236 12) = 646192) ∨ (r36 = 1 ∧ 646192 < (h 236 12))) => ?_)
                  refine wi_if (cd := .ne) (nx := 24) (r1 := 28) (r2 := 0) (r3 := 0) rfl (by omega) (fun (q37 : r36 ≠ 0) => ?_) (fun (q37 : ¬ (r36 ≠ 0)) => ?_)
                  ·
                    refine wi_iconst (n := 0) (nx := 29) (r1 := 0) (r2 := 0) (r3 := 0) rfl ?_
                    refine wi_zreturn (nx := 30) (r1 := 0) (r2 := 0) (r3 := 0) rfl rfl (by omega) ?_
                    refine wk_i ?_
                    refine wi_if (cd := .eq) (nx := 82) (r1 := 85) (r2 := 0) (r3 := 0) rfl (by omega) (fun (q38 : 0 = 0) => ?_) (fun (q38 : ¬ (0 = 0)) => by exfalso; omega)
                    refine wi_aload_n (i := 0) (x := 236) (nx := 86) (r1 := 0) (r2 := 0) (r3 := 0) rfl rfl ?_
                    refine wi_ldc2_w (e := 609752116) (nx := 89) (r1 := 609752116) (r2 := 0) (r3 := 0) rfl (by decide) ?_
                    refine wr_V (k0 := 236) (rest := []) (as := [.ref 236, vl 609752116]) (nx := 92) (r1 := 221) (r2 := 1) (r3 := 11) rfl rfl rfl (of_decide_eq_true rfl) rfl rfl (by decide) rfl rfl (of_decide_eq_true rfl) (of_decide_eq_true rfl) ?_
                    refine wi_aload_n (i := 0) (x := 236) (nx := 1) (r1 := 0) (r2 := 0) (r3 := 0) rfl rfl ?_
                    refine wr_gi0 (k0 := 236) (x := h 236 8) (nx := 4) (r1 := 11) (r2 := 8) (r3 := 0) rfl rfl (by decide) rfl ⟨rfl, rfl⟩ rfl rfl ?_
                    refine wi_if (cd := .ne) (nx := 7) (r1 := 28) (r2 := 0) (r3 := 0) rfl (by omega) (fun (q39 : (h 236 8) ≠ 0) => by exfalso; omega) (fun (q39 : ¬ ((h 236 8) ≠ 0)) => ?_)
                    refine wi_aload_n (i := 0) (x := 236) (nx := 8) (r1 := 0) (r2 := 0) (r3 := 0) rfl rfl ?_
                    refine wr_gi0 (k0 := 236) (x := h 236 6) (nx := 11) (r1 := 11) (r2 := 6) (r3 := 0) rfl rfl (by decide) rfl ⟨rfl, rfl⟩ rfl rfl ?_
                    refine wi_iconst (n := 1) (nx := 12) (r1 := 0) (r2 := 0) (r3 := 0) rfl ?_
                    refine wi_icmp (cd := .ne) (nx := 15) (r1 := 28) (r2 := 0) (r3 := 0) rfl (by omega) (by omega) (fun (q40 : (h 236 6) ≠ 1) => by exfalso; omega) (fun (q40 : ¬ ((h 236 6) ≠ 1)) => ?_)
                    refine wi_aload_n (i := 0) (x := 236) (nx := 16) (r1 := 0) (r2 := 0) (r3 := 0) rfl rfl ?_
                    refine wr_gi1 (k0 := 236) (x := h 236 12) (nx := 19) (r1 := 11) (r2 := 12) (r3 := 0) rfl rfl (by decide) rfl ⟨rfl, rfl⟩ rfl rfl ?_
                    refine wi_lload_n (i := 1) (e := 609752116) (nx := 20) (r1 := 0) (r2 := 0) (r3 := 0) rfl rfl ?_
                    refine wi_lcmp (a := h 236 12) (e := 609752116) (nx := 21) (r1 := 0) (r2 := 0) (r3 := 0) rfl (by omega) (by omega) (fun r41 (fr41 : (r41 = -1 ∧ (h 236 12) < 609752116) ∨ (r41 = 0 ∧ (h 236 12) = 609752116) ∨ (r41 = 1 ∧ 609752116 < (h 236 12))) => ?_)
                    refine wi_if (cd := .ne) (nx := 24) (r1 := 28) (r2 := 0) (r3 := 0) rfl (by omega) (fun (q42 : r41 ≠ 0) => ?_) (fun (q42 : ¬ (r41 ≠ 0)) => ?_)
                    ·
                      refine wi_iconst (n := 0) (nx := 29) (r1 := 0) (r2 := 0) (r3 := 0) rfl ?_
                      refine wi_zreturn (nx := 30) (r1 := 0) (r2 := 0) (r3 := 0) rfl rfl (by omega) ?_
                      refine wk_i ?_
                      refine wi_if (cd := .eq) (nx := 95) (r1 := 100) (r2 := 0) (r3 := 0) rfl (by omega) (fun (q43 : 0 = 0) => ?_) (fun (q43 : ¬ (0 = 0)) => by exfalso; omega)
                      refine wi_iconst (n := (-1)) (nx := 101) (r1 := 0) (r2 := 0) (r3 := 0) rfl ?_
                      refine wi_ireturn (nx := 102) (r1 := 0) (r2 := 0) (r3 := 0) rfl rfl ?_
                      exact k (-1) (by omega)
                    ·
                      refine wi_iconst (n := 1) (nx := 25) (r1 := 0) (r2 := 0) (r3 := 0) rfl ?_
                      refine wi_goto (nx := 28) (r1 := 29) (r2 := 0) (r3 := 0) rfl ?_
                      refine wi_zreturn (nx := 30) (r1 := 0) (r2 := 0) (r3 := 0) rfl rfl (by omega) ?_
                      refine wk_i ?_
                      refine wi_if (cd := .eq) (nx := 95) (r1 := 100) (r2 := 0) (r3 := 0) rfl (by omega) (fun (q43 : 1 = 0) => by exfalso; omega) (fun (q43 : ¬ (1 = 0)) => ?_)
                      refine wi_bipush (n := 7) (nx := 97) (r1 := 0) (r2 := 0) (r3 := 0) rfl (by decide) ?_
                      refine wi_goto (nx := 100) (r1 := 101) (r2 := 0) (r3 := 0) rfl ?_
                      refine wi_ireturn (nx := 102) (r1 := 0) (r2 := 0) (r3 := 0) rfl rfl ?_
                      exact k 7 (by omega)
                  ·
                    refine wi_iconst (n := 1) (nx := 25) (r1 := 0) (r2 := 0) (r3 := 0) rfl ?_
                    refine wi_goto (nx := 28) (r1 := 29) (r2 := 0) (r3 := 0) rfl ?_
                    refine wi_zreturn (nx := 30) (r1 := 0) (r2 := 0) (r3 := 0) rfl rfl (by omega) ?_
                    refine wk_i ?_
                    refine wi_if (cd := .eq) (nx := 82) (r1 := 85) (r2 := 0) (r3 := 0) rfl (by omega) (fun (q38 : 1 = 0) => by exfalso; omega) (fun (q38 : ¬ (1 = 0)) => ?_)
                    refine wi_bipush (n := 6) (nx := 84) (r1 := 0) (r2 := 0) (r3 := 0) rfl (by decide) ?_
                    refine wi_ireturn (nx := 85) (r1 := 0) (r2 := 0) (r3 := 0) rfl rfl ?_
                    exact k 6 (by omega)
                ·
                  refine wi_iconst (n := 1) (nx := 25) (r1 := 0) (r2 := 0) (r3 := 0) rfl ?_
                  refine wi_goto (nx := 28) (r1 := 29) (r2 := 0) (r3 := 0) rfl ?_
                  refine wi_zreturn (nx := 30) (r1 := 0) (r2 := 0) (r3 := 0) rfl rfl (by omega) ?_
                  refine wk_i ?_
                  refine wi_if (cd := .eq) (nx := 70) (r1 := 72) (r2 := 0) (r3 := 0) rfl (by omega) (fun (q33 : 1 = 0) => by exfalso; omega) (fun (q33 : ¬ (1 = 0)) => ?_)
                  refine wi_iconst (n := 5) (nx := 71) (r1 := 0) (r2 := 0) (r3 := 0) rfl ?_
                  refine wi_ireturn (nx := 72) (r1 := 0) (r2 := 0) (r3 := 0) rfl rfl ?_
                  exact k 5 (by omega)
              ·
                refine wi_iconst (n := 1) (nx := 25) (r1 := 0) (r2 := 0) (r3 := 0) rfl ?_
                refine wi_goto (nx := 28) (r1 := 29) (r2 := 0) (r3 := 0) rfl ?_
                refine wi_zreturn (nx := 30) (r1 := 0) (r2 := 0) (r3 := 0) rfl rfl (by omega) ?_
                refine wk_i ?_
                refine wi_if (cd := .eq) (nx := 58) (r1 := 60) (r2 := 0) (r3 := 0) rfl (by omega) (fun (q28 : 1 = 0) => by exfalso; omega) (fun (q28 : ¬ (1 = 0)) => ?_)
                refine wi_iconst (n := 4) (nx := 59) (r1 := 0) (r2 := 0) (r3 := 0) rfl ?_
                refine wi_ireturn (nx := 60) (r1 := 0) (r2 := 0) (r3 := 0) rfl rfl ?_
                exact k 4 (by omega)
            ·
              refine wi_iconst (n := 1) (nx := 25) (r1 := 0) (r2 := 0) (r3 := 0) rfl ?_
              refine wi_goto (nx := 28) (r1 := 29) (r2 := 0) (r3 := 0) rfl ?_
              refine wi_zreturn (nx := 30) (r1 := 0) (r2 := 0) (r3 := 0) rfl rfl (by omega) ?_
              refine wk_i ?_
              refine wi_if (cd := .eq) (nx := 46) (r1 := 48) (r2 := 0) (r3 := 0) rfl (by omega) (fun (q23 : 1 = 0) => by exfalso; omega) (fun (q23 : ¬ (1 = 0)) => ?_)
              refine wi_iconst (n := 3) (nx := 47) (r1 := 0) (r2 := 0) (r3 := 0) rfl ?_
              refine wi_ireturn (nx := 48) (r1 := 0) (r2 := 0) (r3 := 0) rfl rfl ?_
              exact k 3 (by omega)
          ·
            refine wi_iconst (n := 1) (nx := 25) (r1 := 0) (r2 := 0) (r3 := 0) rfl ?_
            refine wi_goto (nx := 28) (r1 := 29) (r2 := 0) (r3 := 0) rfl ?_
            refine wi_zreturn (nx := 30) (r1 := 0) (r2 := 0) (r3 := 0) rfl rfl (by omega) ?_
            refine wk_i ?_
            refine wi_if (cd := .eq) (nx := 34) (r1 := 36) (r2 := 0) (r3 := 0) rfl (by omega) (fun (q18 : 1 = 0) => by exfalso; omega) (fun (q18 : ¬ (1 = 0)) => ?_)
            refine wi_iconst (n := 2) (nx := 35) (r1 := 0) (r2 := 0) (r3 := 0) rfl ?_
            refine wi_ireturn (nx := 36) (r1 := 0) (r2 := 0) (r3 := 0) rfl rfl ?_
            exact k 2 (by omega)
        ·
          refine wi_iconst (n := 1) (nx := 25) (r1 := 0) (r2 := 0) (r3 := 0) rfl ?_
          refine wi_goto (nx := 28) (r1 := 29) (r2 := 0) (r3 := 0) rfl ?_
          refine wi_zreturn (nx := 30) (r1 := 0) (r2 := 0) (r3 := 0) rfl rfl (by omega) ?_
          refine wk_i ?_
          refine wi_if (cd := .eq) (nx := 22) (r1 := 24) (r2 := 0) (r3 := 0) rfl (by omega) (fun (q13 : 1 = 0) => by exfalso; omega) (fun (q13 : ¬ (1 = 0)) => ?_)
          refine wi_iconst (n := 1) (nx := 23) (r1 := 0) (r2 := 0) (r3 := 0) rfl ?_
          refine wi_ireturn (nx := 24) (r1 := 0) (r2 := 0) (r3 := 0) rfl rfl ?_
          exact k 1 (by omega)
      ·
        refine wi_iconst (n := 1) (nx := 25) (r1 := 0) (r2 := 0) (r3 := 0) rfl ?_
        refine wi_goto (nx := 28) (r1 := 29) (r2 := 0) (r3 := 0) rfl ?_
        refine wi_zreturn (nx := 30) (r1 := 0) (r2 := 0) (r3 := 0) rfl rfl (by omega) ?_
        refine wk_i ?_
        refine wi_if (cd := .eq) (nx := 10) (r1 := 12) (r2 := 0) (r3 := 0) rfl (by omega) (fun (q8 : 1 = 0) => by exfalso; omega) (fun (q8 : ¬ (1 = 0)) => ?_)
        refine wi_iconst (n := 0) (nx := 11) (r1 := 0) (r2 := 0) (r3 := 0) rfl ?_
        refine wi_ireturn (nx := 12) (r1 := 0) (r2 := 0) (r3 := 0) rfl rfl ?_
        exact k 0 (by omega)
-- method 335: Model.command()V
set_option maxRecDepth 100000 in
set_option maxHeartbeats 100000000 in
theorem ct_335_236 {L : Nat} {xs : Nat → Int32} {d b c : Nat} {h : hp} {cr : Nat → Nat → Option Nat} {Q : hp_Q} (hcr : CR cr)  (g : GI h)   (pp0 : h 236 4 ≤ h 236 3) (pp1 : h 236 8 = 0) (pp2 : h 236 6 ≠ 0) (pp3 : h 236 42 + h 236 44 ≤ 2 * h 236 43) (xq0 : WP (h 253) (h 236 42) (h 236 44)) (k : ∀ (h2 : hp) , GI h2 → FR [(253, 253, none), (254, 254, none), (236, 236, some (4, 4)), (236, 236, some (5, 5)), (236, 236, some (6, 6)), (236, 236, some (7, 7)), (236, 236, some (8, 8)), (236, 236, some (9, 9)), (236, 236, some (12, 12)), (236, 236, some (42, 42)), (236, 236, some (43, 43)), (236, 236, some (44, 44))] h h2 → (h 236 4 ≤ h2 236 4) → (h2 236 4 ≤ h 236 3) → (1 ≤ h2 236 8 ∨ h2 236 6 = 0 ∨ h 236 4 + 1 ≤ h2 236 4) → (1 ≤ h2 236 8 ∨ h2 236 42 + h2 236 44 ≤ 2 * h2 236 43) → (h2 236 8 = 0 → WP (h2 253) (h2 236 42) (h2 236 44)) → Q (.inl none) (hp_w h2 cr) b c) : wp (md_xa (L, xs)) (d + 3) 335 (0, [(0, .ref 236)], [], hp_w h cr, b, c) Q := by
  have F0 : FR [(253, 253, none), (254, 254, none), (236, 236, some (4, 4)), (236, 236, some (5, 5)), (236, 236, some (6, 6)), (236, 236, some (7, 7)), (236, 236, some (8, 8)), (236, 236, some (9, 9)), (236, 236, some (12, 12)), (236, 236, some (42, 42)), (236, 236, some (43, 43)), (236, 236, some (44, 44))] h h := FR.refl
  have b1 := gi_b (lo := 0) (hi := 800) g 236 4 rfl
  have b2 := gi_b (lo := 0) (hi := 800) g 236 3 rfl
  have b3 := gi_b (lo := 0) (hi := 5) g 236 8 rfl
  have b4 := gi_b (lo := 0) (hi := 4) g 236 6 rfl
  have b5 := gi_b (lo := 0) (hi := 80) g 236 42 rfl
  have b6 := gi_b (lo := 0) (hi := 2) g 236 44 rfl
  have b7 := gi_b (lo := 0) (hi := 40) g 236 43 rfl
  refine wi_aload_n (i := 0) (x := 236) (nx := 1) (r1 := 0) (r2 := 0) (r3 := 0) rfl rfl ?_
  refine wr_V (k0 := 236) (rest := []) (as := [.ref 236]) (nx := 4) (r1 := 336) (r2 := 0) (r3 := 11) rfl rfl rfl (of_decide_eq_true rfl) rfl rfl (by decide) rfl rfl (of_decide_eq_true rfl) (of_decide_eq_true rfl) ?_
  refine ct_336_236 hcr  g    (fun z9  (fz9 : -1 ≤ z9 ∧ z9 ≤ 7) => ?_)
  refine wk_i ?_
  refine wi_istore_n (i := 1) (e := z9) (lo2 := [(1, vi z9), (0, .ref 236)]) (nx := 5) (r1 := 0) (r2 := 0) (r3 := 0) rfl rfl ?_
  refine wi_iload_n (i := 1) (e := z9) (nx := 6) (r1 := 0) (r2 := 0) (r3 := 0) rfl rfl ?_
  refine wi_iconst (n := (-1)) (nx := 7) (r1 := 0) (r2 := 0) (r3 := 0) rfl ?_
  refine wi_icmp (cd := .ne) (nx := 10) (r1 := 15) (r2 := 0) (r3 := 0) rfl (by omega) (by omega) (fun (q10 : z9 ≠ (-1)) => ?_) (fun (q10 : ¬ (z9 ≠ (-1))) => ?_)
  ·
    refine wi_iload_n (i := 1) (e := z9) (nx := 16) (r1 := 0) (r2 := 0) (r3 := 0) rfl rfl ?_
    refine wi_bipush (n := 7) (nx := 18) (r1 := 0) (r2 := 0) (r3 := 0) rfl (by decide) ?_
    refine wi_icmp (cd := .ne) (nx := 21) (r1 := 34) (r2 := 0) (r3 := 0) rfl (by omega) (by omega) (fun (q11 : z9 ≠ 7) => ?_) (fun (q11 : ¬ (z9 ≠ 7)) => ?_)
    ·
      refine wi_aload_n (i := 0) (x := 236) (nx := 35) (r1 := 0) (r2 := 0) (r3 := 0) rfl rfl ?_
      refine wr_gi0 (k0 := 236) (x := h 236 43) (nx := 38) (r1 := 11) (r2 := 43) (r3 := 0) rfl rfl (by decide) rfl ⟨rfl, rfl⟩ rfl rfl ?_
      refine wi_bipush (n := 40) (nx := 40) (r1 := 0) (r2 := 0) (r3 := 0) rfl (by decide) ?_
      refine wi_icmp (cd := .ne) (nx := 43) (r1 := 48) (r2 := 0) (r3 := 0) rfl (by omega) (by omega) (fun (q12 : (h 236 43) ≠ 40) => ?_) (fun (q12 : ¬ ((h 236 43) ≠ 40)) => ?_)
      ·
        refine wi_aload_n (i := 0) (x := 236) (nx := 49) (r1 := 0) (r2 := 0) (r3 := 0) rfl rfl ?_
        refine wr_V (k0 := 236) (rest := []) (as := [.ref 236]) (nx := 52) (r1 := 219) (r2 := 0) (r3 := 11) rfl rfl rfl (of_decide_eq_true rfl) rfl rfl (by decide) rfl rfl (of_decide_eq_true rfl) (of_decide_eq_true rfl) ?_
        refine wi_aload_n (i := 0) (x := 236) (nx := 1) (r1 := 0) (r2 := 0) (r3 := 0) rfl rfl ?_
        refine wr_gi0 (k0 := 236) (x := h 236 8) (nx := 4) (r1 := 11) (r2 := 8) (r3 := 0) rfl rfl (by decide) rfl ⟨rfl, rfl⟩ rfl rfl ?_
        refine wi_if (cd := .ne) (nx := 7) (r1 := 11) (r2 := 0) (r3 := 0) rfl (by omega) (fun (q13 : (h 236 8) ≠ 0) => by exfalso; omega) (fun (q13 : ¬ ((h 236 8) ≠ 0)) => ?_)
        refine wi_iconst (n := 1) (nx := 8) (r1 := 0) (r2 := 0) (r3 := 0) rfl ?_
        refine wi_goto (nx := 11) (r1 := 12) (r2 := 0) (r3 := 0) rfl ?_
        refine wi_zreturn (nx := 13) (r1 := 0) (r2 := 0) (r3 := 0) rfl rfl (by omega) ?_
        refine wk_i ?_
        refine wi_if (cd := .ne) (nx := 55) (r1 := 56) (r2 := 0) (r3 := 0) rfl (by omega) (fun (q14 : 1 ≠ 0) => ?_) (fun (q14 : ¬ (1 ≠ 0)) => by exfalso; omega)
        refine wi_aload_n (i := 0) (x := 236) (nx := 57) (r1 := 0) (r2 := 0) (r3 := 0) rfl rfl ?_
        refine wi_dup (nx := 58) (r1 := 0) (r2 := 0) (r3 := 0) rfl rfl ?_
        refine wr_gi0 (k0 := 236) (x := h 236 43) (nx := 61) (r1 := 11) (r2 := 43) (r3 := 0) rfl rfl (by decide) rfl ⟨rfl, rfl⟩ rfl rfl ?_
        refine wi_iconst (n := 1) (nx := 62) (r1 := 0) (r2 := 0) (r3 := 0) rfl ?_
        refine wr_add (nx := 63) (r1 := 0) (r2 := 0) (r3 := 0) rfl (fun e15 (fe15 : e15 = (h 236 43) + 1) => ?_)
        refine wr_pf0 (k0 := 236) (x := e15) (bl := 0) (bh := 40) (nx := 66) (r1 := 11) (r2 := 43) (r3 := 0) rfl (by decide) rfl ⟨rfl, rfl⟩ rfl rfl g rfl (by omega) (fun h16 g16 w16 u16 => ?_)
        have F17 := F0.then rfl u16
        refine wi_aload_n (i := 0) (x := 236) (nx := 67) (r1 := 0) (r2 := 0) (r3 := 0) rfl rfl ?_
        refine wr_V (k0 := 236) (rest := []) (as := [.ref 236]) (nx := 70) (r1 := 215) (r2 := 0) (r3 := 11) rfl rfl rfl (of_decide_eq_true rfl) rfl rfl (by decide) rfl rfl (of_decide_eq_true rfl) (of_decide_eq_true rfl) ?_
        have e19 : h16 236 4 = h 236 4 := (u16 236 4 rfl)
        have e20 : h16 236 3 = h 236 3 := (u16 236 3 rfl)
        refine ct_215_236 hcr  g16   (show (h16 236 4) ≤ (h16 236 3) by omega) (fun h18 g18 u18 (p18_0 : (h16 236 4) ≤ (h18 236 4)) (p18_1 : (h18 236 4) ≤ (h16 236 3)) (p18_2 : (h18 236 6) = 0 ∨ (h16 236 4) + 1 ≤ (h18 236 4)) => ?_)
        have F21 := F17.then (by decide +kernel) u18
        have b22 := gi_b (lo := 0) (hi := 800) g18 236 4 rfl
        have b23 := gi_b (lo := 0) (hi := 4) g18 236 6 rfl
        refine wk_n ?_
        refine wi_iload_n (i := 1) (e := z9) (nx := 71) (r1 := 0) (r2 := 0) (r3 := 0) rfl rfl ?_
        refine wi_iconst (n := 2) (nx := 72) (r1 := 0) (r2 := 0) (r3 := 0) rfl ?_
        refine wi_icmp (cd := .gt) (nx := 75) (r1 := 89) (r2 := 0) (r3 := 0) rfl (by omega) (by omega) (fun (q24 : 2 < z9) => ?_) (fun (q24 : ¬ (2 < z9)) => ?_)
        ·
          refine wi_iload_n (i := 1) (e := z9) (nx := 90) (r1 := 0) (r2 := 0) (r3 := 0) rfl rfl ?_
          refine wi_iconst (n := 4) (nx := 91) (r1 := 0) (r2 := 0) (r3 := 0) rfl ?_
          refine wi_icmp (cd := .gt) (nx := 94) (r1 := 109) (r2 := 0) (r3 := 0) rfl (by omega) (by omega) (fun (q25 : 4 < z9) => ?_) (fun (q25 : ¬ (4 < z9)) => ?_)
          ·
            refine wi_iload_n (i := 1) (e := z9) (nx := 110) (r1 := 0) (r2 := 0) (r3 := 0) rfl rfl ?_
            refine wi_bipush (n := 7) (nx := 112) (r1 := 0) (r2 := 0) (r3 := 0) rfl (by decide) ?_
            refine wi_icmp (cd := .ne) (nx := 115) (r1 := 146) (r2 := 0) (r3 := 0) rfl (by omega) (by omega) (fun (q26 : z9 ≠ 7) => ?_) (fun (q26 : ¬ (z9 ≠ 7)) => by exfalso; omega)
            refine wi_aload_n (i := 0) (x := 236) (nx := 147) (r1 := 0) (r2 := 0) (r3 := 0) rfl rfl ?_
            refine wi_iload_n (i := 1) (e := z9) (nx := 148) (r1 := 0) (r2 := 0) (r3 := 0) rfl rfl ?_
            refine wi_iconst (n := 0) (nx := 149) (r1 := 0) (r2 := 0) (r3 := 0) rfl ?_
            refine wr_V (k0 := 236) (rest := []) (as := [.ref 236, vi z9, vi 0]) (nx := 152) (r1 := 337) (r2 := 2) (r3 := 11) rfl rfl rfl (of_decide_eq_true rfl) rfl rfl (by decide) rfl rfl (of_decide_eq_true rfl) (of_decide_eq_true rfl) ?_
            refine wi_aload_n (i := 0) (x := 236) (nx := 1) (r1 := 0) (r2 := 0) (r3 := 0) rfl rfl ?_
            refine wr_V (k0 := 236) (rest := []) (as := [.ref 236]) (nx := 4) (r1 := 219) (r2 := 0) (r3 := 11) rfl rfl rfl (of_decide_eq_true rfl) rfl rfl (by decide) rfl rfl (of_decide_eq_true rfl) (of_decide_eq_true rfl) ?_
            refine wi_aload_n (i := 0) (x := 236) (nx := 1) (r1 := 0) (r2 := 0) (r3 := 0) rfl rfl ?_
            refine wr_gi0 (k0 := 236) (x := h 236 8) (nx := 4) (r1 := 11) (r2 := 8) (r3 := 0) rfl rfl (by decide) rfl ⟨rfl, rfl⟩ rfl ((u18 236 8 rfl).trans (u16 236 8 rfl)) ?_
            refine wi_if (cd := .ne) (nx := 7) (r1 := 11) (r2 := 0) (r3 := 0) rfl (by omega) (fun (q27 : (h 236 8) ≠ 0) => by exfalso; omega) (fun (q27 : ¬ ((h 236 8) ≠ 0)) => ?_)
            refine wi_iconst (n := 1) (nx := 8) (r1 := 0) (r2 := 0) (r3 := 0) rfl ?_
            refine wi_goto (nx := 11) (r1 := 12) (r2 := 0) (r3 := 0) rfl ?_
            refine wi_zreturn (nx := 13) (r1 := 0) (r2 := 0) (r3 := 0) rfl rfl (by omega) ?_
            refine wk_i ?_
            refine wi_if (cd := .ne) (nx := 7) (r1 := 8) (r2 := 0) (r3 := 0) rfl (by omega) (fun (q28 : 1 ≠ 0) => ?_) (fun (q28 : ¬ (1 ≠ 0)) => by exfalso; omega)
            refine wi_aload_n (i := 0) (x := 236) (nx := 9) (r1 := 0) (r2 := 0) (r3 := 0) rfl rfl ?_
            refine wr_gr (k0 := 236) (x := 253) (nx := 12) (r1 := 11) (r2 := 37) (r3 := 0) rfl rfl (by decide) rfl ⟨rfl, rfl⟩ rfl ?_
            refine wi_aload_n (i := 0) (x := 236) (nx := 13) (r1 := 0) (r2 := 0) (r3 := 0) rfl rfl ?_
            refine wr_gi0 (k0 := 236) (x := h 236 42) (nx := 16) (r1 := 11) (r2 := 42) (r3 := 0) rfl rfl (by decide) rfl ⟨rfl, rfl⟩ rfl ((u18 236 42 rfl).trans (u16 236 42 rfl)) ?_
            refine wi_iload_n (i := 1) (e := z9) (nx := 17) (r1 := 0) (r2 := 0) (r3 := 0) rfl rfl ?_
            obtain ⟨i29, ei29⟩ : ∃ q : Nat, (h 236 42) = (q : Int) := ⟨(h 236 42).toNat, by omega⟩
            refine wr_is (k0 := 253) (a := h 236 42) (f := i29) (x := z9) (bl := 0) (bh := 8) (nx := 18) (r1 := 0) (r2 := 0) (r3 := 0) rfl (by decide) rfl (by omega) (by omega) (by decide) g18 rfl (by omega) (fun h30 g30 w30 u30 => ?_)
            have F31 := F21.then rfl (FR.rngp (lo := 253) (hi := 253) u30 (by decide))
            refine wi_aload_n (i := 0) (x := 236) (nx := 19) (r1 := 0) (r2 := 0) (r3 := 0) rfl rfl ?_
            refine wr_gr (k0 := 236) (x := 254) (nx := 22) (r1 := 11) (r2 := 38) (r3 := 0) rfl rfl (by decide) rfl ⟨rfl, rfl⟩ rfl ?_
            refine wi_aload_n (i := 0) (x := 236) (nx := 23) (r1 := 0) (r2 := 0) (r3 := 0) rfl rfl ?_
            refine wr_gi0 (k0 := 236) (x := h 236 42) (nx := 26) (r1 := 11) (r2 := 42) (r3 := 0) rfl rfl (by decide) rfl ⟨rfl, rfl⟩ rfl ((u30 236 42 (fn_a (by omega) fn_0)).trans ((u18 236 42 rfl).trans (u16 236 42 rfl))) ?_
            refine wi_iload_n (i := 2) (e := 0) (nx := 27) (r1 := 0) (r2 := 0) (r3 := 0) rfl rfl ?_
            refine wr_is (k0 := 254) (a := h 236 42) (f := i29) (x := 0) (bl := 0) (bh := 999) (nx := 28) (r1 := 0) (r2 := 0) (r3 := 0) rfl (by decide) rfl (by omega) (by omega) (by decide) g30 rfl (by omega) (fun h32 g32 w32 u32 => ?_)
            have F33 := F31.then rfl (FR.rngp (lo := 254) (hi := 254) u32 (by decide))
            refine wi_aload_n (i := 0) (x := 236) (nx := 29) (r1 := 0) (r2 := 0) (r3 := 0) rfl rfl ?_
            refine wi_dup (nx := 30) (r1 := 0) (r2 := 0) (r3 := 0) rfl rfl ?_
            refine wr_gi0 (k0 := 236) (x := h 236 42) (nx := 33) (r1 := 11) (r2 := 42) (r3 := 0) rfl rfl (by decide) rfl ⟨rfl, rfl⟩ rfl ((u32 236 42 (fn_a (by omega) fn_0)).trans ((u30 236 42 (fn_a (by omega) fn_0)).trans ((u18 236 42 rfl).trans (u16 236 42 rfl)))) ?_
            refine wi_iconst (n := 1) (nx := 34) (r1 := 0) (r2 := 0) (r3 := 0) rfl ?_
            refine wr_add (nx := 35) (r1 := 0) (r2 := 0) (r3 := 0) rfl (fun e34 (fe34 : e34 = (h 236 42) + 1) => ?_)
            refine wr_pf0 (k0 := 236) (x := e34) (bl := 0) (bh := 80) (nx := 38) (r1 := 11) (r2 := 42) (r3 := 0) rfl (by decide) rfl ⟨rfl, rfl⟩ rfl rfl g32 rfl (by omega) (fun h35 g35 w35 u35 => ?_)
            have F36 := F33.then rfl u35
            refine wi_return (nx := 39) (r1 := 0) (r2 := 0) (r3 := 0) rfl rfl ?_
            refine wk_n ?_
            refine wi_return (nx := 153) (r1 := 0) (r2 := 0) (r3 := 0) rfl rfl ?_
            have e37 : h35 236 4 = h18 236 4 := ((u35 236 4 rfl).trans ((u32 236 4 (fn_a (by omega) fn_0)).trans (u30 236 4 (fn_a (by omega) fn_0))))
            have e38 : h35 236 8 = h 236 8 := ((u35 236 8 rfl).trans ((u32 236 8 (fn_a (by omega) fn_0)).trans ((u30 236 8 (fn_a (by omega) fn_0)).trans ((u18 236 8 rfl).trans (u16 236 8 rfl)))))
            have e39 : h35 236 6 = h18 236 6 := ((u35 236 6 rfl).trans ((u32 236 6 (fn_a (by omega) fn_0)).trans (u30 236 6 (fn_a (by omega) fn_0))))
            have e40 : h35 236 42 = e34 := w35
            have e41 : h35 236 44 = h 236 44 := ((u35 236 44 rfl).trans ((u32 236 44 (fn_a (by omega) fn_0)).trans ((u30 236 44 (fn_a (by omega) fn_0)).trans ((u18 236 44 rfl).trans (u16 236 44 rfl)))))
            have e42 : h35 236 43 = e15 := ((u35 236 43 rfl).trans ((u32 236 43 (fn_a (by omega) fn_0)).trans ((u30 236 43 (fn_a (by omega) fn_0)).trans ((u18 236 43 rfl).trans w16))))
            have q43 : h35 253 = h30 253 := funext (fun i => ((u35 253 i rfl).trans (u32 253 i (fn_a (by omega) fn_0))))
            have q44 : h18 253 = h 253 := funext (fun i => ((u18 253 i (fo_no_ok (by decide) i)).trans (u16 253 i rfl)))
            exact k h35 g35 F36 (show (h 236 4) ≤ (h35 236 4) by omega) (show (h35 236 4) ≤ (h 236 3) by omega) (show 1 ≤ (h35 236 8) ∨ (h35 236 6) = 0 ∨ (h 236 4) + 1 ≤ (h35 236 4) by omega) (show 1 ≤ (h35 236 8) ∨ (h35 236 42) + (h35 236 44) ≤ 2 * (h35 236 43) by omega) (fun e => by
                rw [q43]
                refine WP.put (S := h 253) (n := h 236 42) (o := h 236 44) xq0 (by omega) (fun k hk => (u30 253 k (fn_i (by omega) fn_0)).trans (congrFun q44 k)) ?_ (by omega)
                rw [show (h 236 42).toNat = i29 by omega, w30]
                omega)
          ·
            refine wi_aload_n (i := 0) (x := 236) (nx := 95) (r1 := 0) (r2 := 0) (r3 := 0) rfl rfl ?_
            refine wi_iload_n (i := 1) (e := z9) (nx := 96) (r1 := 0) (r2 := 0) (r3 := 0) rfl rfl ?_
            refine wi_aload_n (i := 0) (x := 236) (nx := 97) (r1 := 0) (r2 := 0) (r3 := 0) rfl rfl ?_
            refine wi_iconst (n := 1) (nx := 98) (r1 := 0) (r2 := 0) (r3 := 0) rfl ?_
            refine wi_bipush (n := 99) (nx := 100) (r1 := 0) (r2 := 0) (r3 := 0) rfl (by decide) ?_
            refine wr_V (k0 := 236) (rest := [vi z9, .ref 236]) (as := [.ref 236, vi 1, vi 99]) (nx := 103) (r1 := 231) (r2 := 2) (r3 := 11) rfl rfl rfl (of_decide_eq_true rfl) rfl rfl (by decide) rfl rfl (of_decide_eq_true rfl) (of_decide_eq_true rfl) ?_
            have e27 : h18 236 3 = h 236 3 := ((u18 236 3 rfl).trans (u16 236 3 rfl))
            refine ct_231_236 hcr  g18 1 99 (by omega) (by omega) (show (h18 236 4) ≤ (h18 236 3) by omega) (fun h26 z28 g26 u26 (fz28 : 0 ≤ z28 ∧ z28 ≤ 999) (p26_0 : (h18 236 4) ≤ (h26 236 4)) (p26_1 : (h26 236 4) ≤ (h18 236 3)) (p26_2 : 1 ≤ (h26 236 8) ∨ (h18 236 8) = 0) (p26_3 : 1 ≤ (h26 236 8) ∨ (1 ≤ z28 ∧ z28 ≤ 99)) => ?_)
            have F29 := F21.then (by decide +kernel) u26
            have b30 := gi_b (lo := 0) (hi := 800) g26 236 4 rfl
            have e31 : h18 236 8 = h 236 8 := ((u18 236 8 rfl).trans (u16 236 8 rfl))
            have b32 := gi_b (lo := 0) (hi := 5) g26 236 8 rfl
            refine wk_i ?_
            refine wr_V (k0 := 236) (rest := []) (as := [.ref 236, vi z9, vi z28]) (nx := 106) (r1 := 337) (r2 := 2) (r3 := 11) rfl rfl rfl (of_decide_eq_true rfl) rfl rfl (by decide) rfl rfl (of_decide_eq_true rfl) (of_decide_eq_true rfl) ?_
            refine wi_aload_n (i := 0) (x := 236) (nx := 1) (r1 := 0) (r2 := 0) (r3 := 0) rfl rfl ?_
            refine wr_V (k0 := 236) (rest := []) (as := [.ref 236]) (nx := 4) (r1 := 219) (r2 := 0) (r3 := 11) rfl rfl rfl (of_decide_eq_true rfl) rfl rfl (by decide) rfl rfl (of_decide_eq_true rfl) (of_decide_eq_true rfl) ?_
            refine wi_aload_n (i := 0) (x := 236) (nx := 1) (r1 := 0) (r2 := 0) (r3 := 0) rfl rfl ?_
            refine wr_gi0 (k0 := 236) (x := h26 236 8) (nx := 4) (r1 := 11) (r2 := 8) (r3 := 0) rfl rfl (by decide) rfl ⟨rfl, rfl⟩ rfl rfl ?_
            refine wi_if (cd := .ne) (nx := 7) (r1 := 11) (r2 := 0) (r3 := 0) rfl (by omega) (fun (q33 : (h26 236 8) ≠ 0) => ?_) (fun (q33 : ¬ ((h26 236 8) ≠ 0)) => ?_)
            ·
              refine wi_iconst (n := 0) (nx := 12) (r1 := 0) (r2 := 0) (r3 := 0) rfl ?_
              refine wi_zreturn (nx := 13) (r1 := 0) (r2 := 0) (r3 := 0) rfl rfl (by omega) ?_
              refine wk_i ?_
              refine wi_if (cd := .ne) (nx := 7) (r1 := 8) (r2 := 0) (r3 := 0) rfl (by omega) (fun (q34 : 0 ≠ 0) => by exfalso; omega) (fun (q34 : ¬ (0 ≠ 0)) => ?_)
              refine wi_return (nx := 8) (r1 := 0) (r2 := 0) (r3 := 0) rfl rfl ?_
              refine wk_n ?_
              refine wi_goto (nx := 109) (r1 := 152) (r2 := 0) (r3 := 0) rfl ?_
              refine wi_return (nx := 153) (r1 := 0) (r2 := 0) (r3 := 0) rfl rfl ?_
              have b35 := gi_b (lo := 0) (hi := 4) g26 236 6 rfl
              have e36 : h26 236 42 = h 236 42 := ((u26 236 42 rfl).trans ((u18 236 42 rfl).trans (u16 236 42 rfl)))
              have e37 : h26 236 44 = h 236 44 := ((u26 236 44 rfl).trans ((u18 236 44 rfl).trans (u16 236 44 rfl)))
              have e38 : h26 236 43 = e15 := ((u26 236 43 rfl).trans ((u18 236 43 rfl).trans w16))
              exact k h26 g26 F29 (show (h 236 4) ≤ (h26 236 4) by omega) (show (h26 236 4) ≤ (h 236 3) by omega) (show 1 ≤ (h26 236 8) ∨ (h26 236 6) = 0 ∨ (h 236 4) + 1 ≤ (h26 236 4) by omega) (show 1 ≤ (h26 236 8) ∨ (h26 236 42) + (h26 236 44) ≤ 2 * (h26 236 43) by omega) (fun e => absurd e (by omega))
            ·
              refine wi_iconst (n := 1) (nx := 8) (r1 := 0) (r2 := 0) (r3 := 0) rfl ?_
              refine wi_goto (nx := 11) (r1 := 12) (r2 := 0) (r3 := 0) rfl ?_
              refine wi_zreturn (nx := 13) (r1 := 0) (r2 := 0) (r3 := 0) rfl rfl (by omega) ?_
              refine wk_i ?_
              refine wi_if (cd := .ne) (nx := 7) (r1 := 8) (r2 := 0) (r3 := 0) rfl (by omega) (fun (q34 : 1 ≠ 0) => ?_) (fun (q34 : ¬ (1 ≠ 0)) => by exfalso; omega)
              refine wi_aload_n (i := 0) (x := 236) (nx := 9) (r1 := 0) (r2 := 0) (r3 := 0) rfl rfl ?_
              refine wr_gr (k0 := 236) (x := 253) (nx := 12) (r1 := 11) (r2 := 37) (r3 := 0) rfl rfl (by decide) rfl ⟨rfl, rfl⟩ rfl ?_
              refine wi_aload_n (i := 0) (x := 236) (nx := 13) (r1 := 0) (r2 := 0) (r3 := 0) rfl rfl ?_
              refine wr_gi0 (k0 := 236) (x := h 236 42) (nx := 16) (r1 := 11) (r2 := 42) (r3 := 0) rfl rfl (by decide) rfl ⟨rfl, rfl⟩ rfl ((u26 236 42 rfl).trans ((u18 236 42 rfl).trans (u16 236 42 rfl))) ?_
              refine wi_iload_n (i := 1) (e := z9) (nx := 17) (r1 := 0) (r2 := 0) (r3 := 0) rfl rfl ?_
              obtain ⟨i35, ei35⟩ : ∃ q : Nat, (h 236 42) = (q : Int) := ⟨(h 236 42).toNat, by omega⟩
              refine wr_is (k0 := 253) (a := h 236 42) (f := i35) (x := z9) (bl := 0) (bh := 8) (nx := 18) (r1 := 0) (r2 := 0) (r3 := 0) rfl (by decide) rfl (by omega) (by omega) (by decide) g26 rfl (by omega) (fun h36 g36 w36 u36 => ?_)
              have F37 := F29.then rfl (FR.rngp (lo := 253) (hi := 253) u36 (by decide))
              refine wi_aload_n (i := 0) (x := 236) (nx := 19) (r1 := 0) (r2 := 0) (r3 := 0) rfl rfl ?_
              refine wr_gr (k0 := 236) (x := 254) (nx := 22) (r1 := 11) (r2 := 38) (r3 := 0) rfl rfl (by decide) rfl ⟨rfl, rfl⟩ rfl ?_
              refine wi_aload_n (i := 0) (x := 236) (nx := 23) (r1 := 0) (r2 := 0) (r3 := 0) rfl rfl ?_
              refine wr_gi0 (k0 := 236) (x := h 236 42) (nx := 26) (r1 := 11) (r2 := 42) (r3 := 0) rfl rfl (by decide) rfl ⟨rfl, rfl⟩ rfl ((u36 236 42 (fn_a (by omega) fn_0)).trans ((u26 236 42 rfl).trans ((u18 236 42 rfl).trans (u16 236 42 rfl)))) ?_
              refine wi_iload_n (i := 2) (e := z28) (nx := 27) (r1 := 0) (r2 := 0) (r3 := 0) rfl rfl ?_
              refine wr_is (k0 := 254) (a := h 236 42) (f := i35) (x := z28) (bl := 0) (bh := 999) (nx := 28) (r1 := 0) (r2 := 0) (r3 := 0) rfl (by decide) rfl (by omega) (by omega) (by decide) g36 rfl (by omega) (fun h38 g38 w38 u38 => ?_)
              have F39 := F37.then rfl (FR.rngp (lo := 254) (hi := 254) u38 (by decide))
              refine wi_aload_n (i := 0) (x := 236) (nx := 29) (r1 := 0) (r2 := 0) (r3 := 0) rfl rfl ?_
              refine wi_dup (nx := 30) (r1 := 0) (r2 := 0) (r3 := 0) rfl rfl ?_
              refine wr_gi0 (k0 := 236) (x := h 236 42) (nx := 33) (r1 := 11) (r2 := 42) (r3 := 0) rfl rfl (by decide) rfl ⟨rfl, rfl⟩ rfl ((u38 236 42 (fn_a (by omega) fn_0)).trans ((u36 236 42 (fn_a (by omega) fn_0)).trans ((u26 236 42 rfl).trans ((u18 236 42 rfl).trans (u16 236 42 rfl))))) ?_
              refine wi_iconst (n := 1) (nx := 34) (r1 := 0) (r2 := 0) (r3 := 0) rfl ?_
              refine wr_add (nx := 35) (r1 := 0) (r2 := 0) (r3 := 0) rfl (fun e40 (fe40 : e40 = (h 236 42) + 1) => ?_)
              refine wr_pf0 (k0 := 236) (x := e40) (bl := 0) (bh := 80) (nx := 38) (r1 := 11) (r2 := 42) (r3 := 0) rfl (by decide) rfl ⟨rfl, rfl⟩ rfl rfl g38 rfl (by omega) (fun h41 g41 w41 u41 => ?_)
              have F42 := F39.then rfl u41
              refine wi_return (nx := 39) (r1 := 0) (r2 := 0) (r3 := 0) rfl rfl ?_
              refine wk_n ?_
              refine wi_goto (nx := 109) (r1 := 152) (r2 := 0) (r3 := 0) rfl ?_
              refine wi_return (nx := 153) (r1 := 0) (r2 := 0) (r3 := 0) rfl rfl ?_
              have e43 : h41 236 4 = h26 236 4 := ((u41 236 4 rfl).trans ((u38 236 4 (fn_a (by omega) fn_0)).trans (u36 236 4 (fn_a (by omega) fn_0))))
              have e44 : h41 236 8 = h26 236 8 := ((u41 236 8 rfl).trans ((u38 236 8 (fn_a (by omega) fn_0)).trans (u36 236 8 (fn_a (by omega) fn_0))))
              have b45 := gi_b (lo := 0) (hi := 4) g26 236 6 rfl
              have e46 : h41 236 6 = h26 236 6 := ((u41 236 6 rfl).trans ((u38 236 6 (fn_a (by omega) fn_0)).trans (u36 236 6 (fn_a (by omega) fn_0))))
              have e47 : h41 236 42 = e40 := w41
              have e48 : h41 236 44 = h 236 44 := ((u41 236 44 rfl).trans ((u38 236 44 (fn_a (by omega) fn_0)).trans ((u36 236 44 (fn_a (by omega) fn_0)).trans ((u26 236 44 rfl).trans ((u18 236 44 rfl).trans (u16 236 44 rfl))))))
              have e49 : h41 236 43 = e15 := ((u41 236 43 rfl).trans ((u38 236 43 (fn_a (by omega) fn_0)).trans ((u36 236 43 (fn_a (by omega) fn_0)).trans ((u26 236 43 rfl).trans ((u18 236 43 rfl).trans w16)))))
              have q50 : h41 253 = h36 253 := funext (fun i => ((u41 253 i rfl).trans (u38 253 i (fn_a (by omega) fn_0))))
              have q51 : h26 253 = h 253 := funext (fun i => ((u26 253 i (fo_no_ok (by decide) i)).trans ((u18 253 i (fo_no_ok (by decide) i)).trans (u16 253 i rfl))))
              exact k h41 g41 F42 (show (h 236 4) ≤ (h41 236 4) by omega) (show (h41 236 4) ≤ (h 236 3) by omega) (show 1 ≤ (h41 236 8) ∨ (h41 236 6) = 0 ∨ (h 236 4) + 1 ≤ (h41 236 4) by omega) (show 1 ≤ (h41 236 8) ∨ (h41 236 42) + (h41 236 44) ≤ 2 * (h41 236 43) by omega) (fun e => by
                  rw [q50]
                  refine WP.put (S := h 253) (n := h 236 42) (o := h 236 44) xq0 (by omega) (fun k hk => (u36 253 k (fn_i (by omega) fn_0)).trans (congrFun q51 k)) ?_ (by omega)
                  rw [show (h 236 42).toNat = i35 by omega, w36]
                  omega)
        ·
          refine wi_aload_n (i := 0) (x := 236) (nx := 76) (r1 := 0) (r2 := 0) (r3 := 0) rfl rfl ?_
          refine wi_iload_n (i := 1) (e := z9) (nx := 77) (r1 := 0) (r2 := 0) (r3 := 0) rfl rfl ?_
          refine wi_aload_n (i := 0) (x := 236) (nx := 78) (r1 := 0) (r2 := 0) (r3 := 0) rfl rfl ?_
          refine wi_iconst (n := 0) (nx := 79) (r1 := 0) (r2 := 0) (r3 := 0) rfl ?_
          refine wi_iconst (n := 3) (nx := 80) (r1 := 0) (r2 := 0) (r3 := 0) rfl ?_
          refine wr_V (k0 := 236) (rest := [vi z9, .ref 236]) (as := [.ref 236, vi 0, vi 3]) (nx := 83) (r1 := 231) (r2 := 2) (r3 := 11) rfl rfl rfl (of_decide_eq_true rfl) rfl rfl (by decide) rfl rfl (of_decide_eq_true rfl) (of_decide_eq_true rfl) ?_
          have e26 : h18 236 3 = h 236 3 := ((u18 236 3 rfl).trans (u16 236 3 rfl))
          refine ct_231_236 hcr  g18 0 3 (by omega) (by omega) (show (h18 236 4) ≤ (h18 236 3) by omega) (fun h25 z27 g25 u25 (fz27 : 0 ≤ z27 ∧ z27 ≤ 999) (p25_0 : (h18 236 4) ≤ (h25 236 4)) (p25_1 : (h25 236 4) ≤ (h18 236 3)) (p25_2 : 1 ≤ (h25 236 8) ∨ (h18 236 8) = 0) (p25_3 : 1 ≤ (h25 236 8) ∨ (0 ≤ z27 ∧ z27 ≤ 3)) => ?_)
          have F28 := F21.then (by decide +kernel) u25
          have b29 := gi_b (lo := 0) (hi := 800) g25 236 4 rfl
          have e30 : h18 236 8 = h 236 8 := ((u18 236 8 rfl).trans (u16 236 8 rfl))
          have b31 := gi_b (lo := 0) (hi := 5) g25 236 8 rfl
          refine wk_i ?_
          refine wr_V (k0 := 236) (rest := []) (as := [.ref 236, vi z9, vi z27]) (nx := 86) (r1 := 337) (r2 := 2) (r3 := 11) rfl rfl rfl (of_decide_eq_true rfl) rfl rfl (by decide) rfl rfl (of_decide_eq_true rfl) (of_decide_eq_true rfl) ?_
          refine wi_aload_n (i := 0) (x := 236) (nx := 1) (r1 := 0) (r2 := 0) (r3 := 0) rfl rfl ?_
          refine wr_V (k0 := 236) (rest := []) (as := [.ref 236]) (nx := 4) (r1 := 219) (r2 := 0) (r3 := 11) rfl rfl rfl (of_decide_eq_true rfl) rfl rfl (by decide) rfl rfl (of_decide_eq_true rfl) (of_decide_eq_true rfl) ?_
          refine wi_aload_n (i := 0) (x := 236) (nx := 1) (r1 := 0) (r2 := 0) (r3 := 0) rfl rfl ?_
          refine wr_gi0 (k0 := 236) (x := h25 236 8) (nx := 4) (r1 := 11) (r2 := 8) (r3 := 0) rfl rfl (by decide) rfl ⟨rfl, rfl⟩ rfl rfl ?_
          refine wi_if (cd := .ne) (nx := 7) (r1 := 11) (r2 := 0) (r3 := 0) rfl (by omega) (fun (q32 : (h25 236 8) ≠ 0) => ?_) (fun (q32 : ¬ ((h25 236 8) ≠ 0)) => ?_)
          ·
            refine wi_iconst (n := 0) (nx := 12) (r1 := 0) (r2 := 0) (r3 := 0) rfl ?_
            refine wi_zreturn (nx := 13) (r1 := 0) (r2 := 0) (r3 := 0) rfl rfl (by omega) ?_
            refine wk_i ?_
            refine wi_if (cd := .ne) (nx := 7) (r1 := 8) (r2 := 0) (r3 := 0) rfl (by omega) (fun (q33 : 0 ≠ 0) => by exfalso; omega) (fun (q33 : ¬ (0 ≠ 0)) => ?_)
            refine wi_return (nx := 8) (r1 := 0) (r2 := 0) (r3 := 0) rfl rfl ?_
            refine wk_n ?_
            refine wi_goto (nx := 89) (r1 := 152) (r2 := 0) (r3 := 0) rfl ?_
            refine wi_return (nx := 153) (r1 := 0) (r2 := 0) (r3 := 0) rfl rfl ?_
            have b34 := gi_b (lo := 0) (hi := 4) g25 236 6 rfl
            have e35 : h25 236 42 = h 236 42 := ((u25 236 42 rfl).trans ((u18 236 42 rfl).trans (u16 236 42 rfl)))
            have e36 : h25 236 44 = h 236 44 := ((u25 236 44 rfl).trans ((u18 236 44 rfl).trans (u16 236 44 rfl)))
            have e37 : h25 236 43 = e15 := ((u25 236 43 rfl).trans ((u18 236 43 rfl).trans w16))
            exact k h25 g25 F28 (show (h 236 4) ≤ (h25 236 4) by omega) (show (h25 236 4) ≤ (h 236 3) by omega) (show 1 ≤ (h25 236 8) ∨ (h25 236 6) = 0 ∨ (h 236 4) + 1 ≤ (h25 236 4) by omega) (show 1 ≤ (h25 236 8) ∨ (h25 236 42) + (h25 236 44) ≤ 2 * (h25 236 43) by omega) (fun e => absurd e (by omega))
          ·
            refine wi_iconst (n := 1) (nx := 8) (r1 := 0) (r2 := 0) (r3 := 0) rfl ?_
            refine wi_goto (nx := 11) (r1 := 12) (r2 := 0) (r3 := 0) rfl ?_
            refine wi_zreturn (nx := 13) (r1 := 0) (r2 := 0) (r3 := 0) rfl rfl (by omega) ?_
            refine wk_i ?_
            refine wi_if (cd := .ne) (nx := 7) (r1 := 8) (r2 := 0) (r3 := 0) rfl (by omega) (fun (q33 : 1 ≠ 0) => ?_) (fun (q33 : ¬ (1 ≠ 0)) => by exfalso; omega)
            refine wi_aload_n (i := 0) (x := 236) (nx := 9) (r1 := 0) (r2 := 0) (r3 := 0) rfl rfl ?_
            refine wr_gr (k0 := 236) (x := 253) (nx := 12) (r1 := 11) (r2 := 37) (r3 := 0) rfl rfl (by decide) rfl ⟨rfl, rfl⟩ rfl ?_
            refine wi_aload_n (i := 0) (x := 236) (nx := 13) (r1 := 0) (r2 := 0) (r3 := 0) rfl rfl ?_
            refine wr_gi0 (k0 := 236) (x := h 236 42) (nx := 16) (r1 := 11) (r2 := 42) (r3 := 0) rfl rfl (by decide) rfl ⟨rfl, rfl⟩ rfl ((u25 236 42 rfl).trans ((u18 236 42 rfl).trans (u16 236 42 rfl))) ?_
            refine wi_iload_n (i := 1) (e := z9) (nx := 17) (r1 := 0) (r2 := 0) (r3 := 0) rfl rfl ?_
            obtain ⟨i34, ei34⟩ : ∃ q : Nat, (h 236 42) = (q : Int) := ⟨(h 236 42).toNat, by omega⟩
            refine wr_is (k0 := 253) (a := h 236 42) (f := i34) (x := z9) (bl := 0) (bh := 8) (nx := 18) (r1 := 0) (r2 := 0) (r3 := 0) rfl (by decide) rfl (by omega) (by omega) (by decide) g25 rfl (by omega) (fun h35 g35 w35 u35 => ?_)
            have F36 := F28.then rfl (FR.rngp (lo := 253) (hi := 253) u35 (by decide))
            refine wi_aload_n (i := 0) (x := 236) (nx := 19) (r1 := 0) (r2 := 0) (r3 := 0) rfl rfl ?_
            refine wr_gr (k0 := 236) (x := 254) (nx := 22) (r1 := 11) (r2 := 38) (r3 := 0) rfl rfl (by decide) rfl ⟨rfl, rfl⟩ rfl ?_
            refine wi_aload_n (i := 0) (x := 236) (nx := 23) (r1 := 0) (r2 := 0) (r3 := 0) rfl rfl ?_
            refine wr_gi0 (k0 := 236) (x := h 236 42) (nx := 26) (r1 := 11) (r2 := 42) (r3 := 0) rfl rfl (by decide) rfl ⟨rfl, rfl⟩ rfl ((u35 236 42 (fn_a (by omega) fn_0)).trans ((u25 236 42 rfl).trans ((u18 236 42 rfl).trans (u16 236 42 rfl)))) ?_
            refine wi_iload_n (i := 2) (e := z27) (nx := 27) (r1 := 0) (r2 := 0) (r3 := 0) rfl rfl ?_
            refine wr_is (k0 := 254) (a := h 236 42) (f := i34) (x := z27) (bl := 0) (bh := 999) (nx := 28) (r1 := 0) (r2 := 0) (r3 := 0) rfl (by decide) rfl (by omega) (by omega) (by decide) g35 rfl (by omega) (fun h37 g37 w37 u37 => ?_)
            have F38 := F36.then rfl (FR.rngp (lo := 254) (hi := 254) u37 (by decide))
            refine wi_aload_n (i := 0) (x := 236) (nx := 29) (r1 := 0) (r2 := 0) (r3 := 0) rfl rfl ?_
            refine wi_dup (nx := 30) (r1 := 0) (r2 := 0) (r3 := 0) rfl rfl ?_
            refine wr_gi0 (k0 := 236) (x := h 236 42) (nx := 33) (r1 := 11) (r2 := 42) (r3 := 0) rfl rfl (by decide) rfl ⟨rfl, rfl⟩ rfl ((u37 236 42 (fn_a (by omega) fn_0)).trans ((u35 236 42 (fn_a (by omega) fn_0)).trans ((u25 236 42 rfl).trans ((u18 236 42 rfl).trans (u16 236 42 rfl))))) ?_
            refine wi_iconst (n := 1) (nx := 34) (r1 := 0) (r2 := 0) (r3 := 0) rfl ?_
            refine wr_add (nx := 35) (r1 := 0) (r2 := 0) (r3 := 0) rfl (fun e39 (fe39 : e39 = (h 236 42) + 1) => ?_)
            refine wr_pf0 (k0 := 236) (x := e39) (bl := 0) (bh := 80) (nx := 38) (r1 := 11) (r2 := 42) (r3 := 0) rfl (by decide) rfl ⟨rfl, rfl⟩ rfl rfl g37 rfl (by omega) (fun h40 g40 w40 u40 => ?_)
            have F41 := F38.then rfl u40
            refine wi_return (nx := 39) (r1 := 0) (r2 := 0) (r3 := 0) rfl rfl ?_
            refine wk_n ?_
            refine wi_goto (nx := 89) (r1 := 152) (r2 := 0) (r3 := 0) rfl ?_
            refine wi_return (nx := 153) (r1 := 0) (r2 := 0) (r3 := 0) rfl rfl ?_
            have e42 : h40 236 4 = h25 236 4 := ((u40 236 4 rfl).trans ((u37 236 4 (fn_a (by omega) fn_0)).trans (u35 236 4 (fn_a (by omega) fn_0))))
            have e43 : h40 236 8 = h25 236 8 := ((u40 236 8 rfl).trans ((u37 236 8 (fn_a (by omega) fn_0)).trans (u35 236 8 (fn_a (by omega) fn_0))))
            have b44 := gi_b (lo := 0) (hi := 4) g25 236 6 rfl
            have e45 : h40 236 6 = h25 236 6 := ((u40 236 6 rfl).trans ((u37 236 6 (fn_a (by omega) fn_0)).trans (u35 236 6 (fn_a (by omega) fn_0))))
            have e46 : h40 236 42 = e39 := w40
            have e47 : h40 236 44 = h 236 44 := ((u40 236 44 rfl).trans ((u37 236 44 (fn_a (by omega) fn_0)).trans ((u35 236 44 (fn_a (by omega) fn_0)).trans ((u25 236 44 rfl).trans ((u18 236 44 rfl).trans (u16 236 44 rfl))))))
            have e48 : h40 236 43 = e15 := ((u40 236 43 rfl).trans ((u37 236 43 (fn_a (by omega) fn_0)).trans ((u35 236 43 (fn_a (by omega) fn_0)).trans ((u25 236 43 rfl).trans ((u18 236 43 rfl).trans w16)))))
            have q49 : h40 253 = h35 253 := funext (fun i => ((u40 253 i rfl).trans (u37 253 i (fn_a (by omega) fn_0))))
            have q50 : h25 253 = h 253 := funext (fun i => ((u25 253 i (fo_no_ok (by decide) i)).trans ((u18 253 i (fo_no_ok (by decide) i)).trans (u16 253 i rfl))))
            exact k h40 g40 F41 (show (h 236 4) ≤ (h40 236 4) by omega) (show (h40 236 4) ≤ (h 236 3) by omega) (show 1 ≤ (h40 236 8) ∨ (h40 236 6) = 0 ∨ (h 236 4) + 1 ≤ (h40 236 4) by omega) (show 1 ≤ (h40 236 8) ∨ (h40 236 42) + (h40 236 44) ≤ 2 * (h40 236 43) by omega) (fun e => by
                rw [q49]
                refine WP.put (S := h 253) (n := h 236 42) (o := h 236 44) xq0 (by omega) (fun k hk => (u35 253 k (fn_i (by omega) fn_0)).trans (congrFun q50 k)) ?_ (by omega)
                rw [show (h 236 42).toNat = i34 by omega, w35]
                omega)
      ·
        refine wi_aload_n (i := 0) (x := 236) (nx := 44) (r1 := 0) (r2 := 0) (r3 := 0) rfl rfl ?_
        refine wi_iconst (n := 5) (nx := 45) (r1 := 0) (r2 := 0) (r3 := 0) rfl ?_
        refine wr_V (k0 := 236) (rest := []) (as := [.ref 236, vi 5]) (nx := 48) (r1 := 224) (r2 := 1) (r3 := 11) rfl rfl rfl (of_decide_eq_true rfl) rfl rfl (by decide) rfl rfl (of_decide_eq_true rfl) (of_decide_eq_true rfl) ?_
        refine ct_224_236 hcr  g 5 (by omega)  (fun h13 g13 u13 (p13_0 : 1 ≤ (h13 236 8)) => ?_)
        have F14 := F0.then (by decide +kernel) u13
        have b15 := gi_b (lo := 0) (hi := 5) g13 236 8 rfl
        refine wk_n ?_
        refine wi_aload_n (i := 0) (x := 236) (nx := 49) (r1 := 0) (r2 := 0) (r3 := 0) rfl rfl ?_
        refine wr_V (k0 := 236) (rest := []) (as := [.ref 236]) (nx := 52) (r1 := 219) (r2 := 0) (r3 := 11) rfl rfl rfl (of_decide_eq_true rfl) rfl rfl (by decide) rfl rfl (of_decide_eq_true rfl) (of_decide_eq_true rfl) ?_
        refine wi_aload_n (i := 0) (x := 236) (nx := 1) (r1 := 0) (r2 := 0) (r3 := 0) rfl rfl ?_
        refine wr_gi0 (k0 := 236) (x := h13 236 8) (nx := 4) (r1 := 11) (r2 := 8) (r3 := 0) rfl rfl (by decide) rfl ⟨rfl, rfl⟩ rfl rfl ?_
        refine wi_if (cd := .ne) (nx := 7) (r1 := 11) (r2 := 0) (r3 := 0) rfl (by omega) (fun (q16 : (h13 236 8) ≠ 0) => ?_) (fun (q16 : ¬ ((h13 236 8) ≠ 0)) => by exfalso; omega)
        refine wi_iconst (n := 0) (nx := 12) (r1 := 0) (r2 := 0) (r3 := 0) rfl ?_
        refine wi_zreturn (nx := 13) (r1 := 0) (r2 := 0) (r3 := 0) rfl rfl (by omega) ?_
        refine wk_i ?_
        refine wi_if (cd := .ne) (nx := 55) (r1 := 56) (r2 := 0) (r3 := 0) rfl (by omega) (fun (q17 : 0 ≠ 0) => by exfalso; omega) (fun (q17 : ¬ (0 ≠ 0)) => ?_)
        refine wi_return (nx := 56) (r1 := 0) (r2 := 0) (r3 := 0) rfl rfl ?_
        have e18 : h13 236 4 = h 236 4 := (u13 236 4 rfl)
        have e19 : h13 236 6 = h 236 6 := (u13 236 6 rfl)
        have e20 : h13 236 42 = h 236 42 := (u13 236 42 rfl)
        have e21 : h13 236 44 = h 236 44 := (u13 236 44 rfl)
        have e22 : h13 236 43 = h 236 43 := (u13 236 43 rfl)
        exact k h13 g13 F14 (show (h 236 4) ≤ (h13 236 4) by omega) (show (h13 236 4) ≤ (h 236 3) by omega) (show 1 ≤ (h13 236 8) ∨ (h13 236 6) = 0 ∨ (h 236 4) + 1 ≤ (h13 236 4) by omega) (show 1 ≤ (h13 236 8) ∨ (h13 236 42) + (h13 236 44) ≤ 2 * (h13 236 43) by omega) (fun e => absurd e (by omega))
    ·
      refine wi_aload_n (i := 0) (x := 236) (nx := 22) (r1 := 0) (r2 := 0) (r3 := 0) rfl rfl ?_
      refine wr_gi0 (k0 := 236) (x := h 236 44) (nx := 25) (r1 := 11) (r2 := 44) (r3 := 0) rfl rfl (by decide) rfl ⟨rfl, rfl⟩ rfl rfl ?_
      refine wi_iconst (n := 2) (nx := 26) (r1 := 0) (r2 := 0) (r3 := 0) rfl ?_
      refine wi_icmp (cd := .ne) (nx := 29) (r1 := 34) (r2 := 0) (r3 := 0) rfl (by omega) (by omega) (fun (q12 : (h 236 44) ≠ 2) => ?_) (fun (q12 : ¬ ((h 236 44) ≠ 2)) => ?_)
      ·
        refine wi_aload_n (i := 0) (x := 236) (nx := 35) (r1 := 0) (r2 := 0) (r3 := 0) rfl rfl ?_
        refine wr_gi0 (k0 := 236) (x := h 236 43) (nx := 38) (r1 := 11) (r2 := 43) (r3 := 0) rfl rfl (by decide) rfl ⟨rfl, rfl⟩ rfl rfl ?_
        refine wi_bipush (n := 40) (nx := 40) (r1 := 0) (r2 := 0) (r3 := 0) rfl (by decide) ?_
        refine wi_icmp (cd := .ne) (nx := 43) (r1 := 48) (r2 := 0) (r3 := 0) rfl (by omega) (by omega) (fun (q13 : (h 236 43) ≠ 40) => ?_) (fun (q13 : ¬ ((h 236 43) ≠ 40)) => ?_)
        ·
          refine wi_aload_n (i := 0) (x := 236) (nx := 49) (r1 := 0) (r2 := 0) (r3 := 0) rfl rfl ?_
          refine wr_V (k0 := 236) (rest := []) (as := [.ref 236]) (nx := 52) (r1 := 219) (r2 := 0) (r3 := 11) rfl rfl rfl (of_decide_eq_true rfl) rfl rfl (by decide) rfl rfl (of_decide_eq_true rfl) (of_decide_eq_true rfl) ?_
          refine wi_aload_n (i := 0) (x := 236) (nx := 1) (r1 := 0) (r2 := 0) (r3 := 0) rfl rfl ?_
          refine wr_gi0 (k0 := 236) (x := h 236 8) (nx := 4) (r1 := 11) (r2 := 8) (r3 := 0) rfl rfl (by decide) rfl ⟨rfl, rfl⟩ rfl rfl ?_
          refine wi_if (cd := .ne) (nx := 7) (r1 := 11) (r2 := 0) (r3 := 0) rfl (by omega) (fun (q14 : (h 236 8) ≠ 0) => by exfalso; omega) (fun (q14 : ¬ ((h 236 8) ≠ 0)) => ?_)
          refine wi_iconst (n := 1) (nx := 8) (r1 := 0) (r2 := 0) (r3 := 0) rfl ?_
          refine wi_goto (nx := 11) (r1 := 12) (r2 := 0) (r3 := 0) rfl ?_
          refine wi_zreturn (nx := 13) (r1 := 0) (r2 := 0) (r3 := 0) rfl rfl (by omega) ?_
          refine wk_i ?_
          refine wi_if (cd := .ne) (nx := 55) (r1 := 56) (r2 := 0) (r3 := 0) rfl (by omega) (fun (q15 : 1 ≠ 0) => ?_) (fun (q15 : ¬ (1 ≠ 0)) => by exfalso; omega)
          refine wi_aload_n (i := 0) (x := 236) (nx := 57) (r1 := 0) (r2 := 0) (r3 := 0) rfl rfl ?_
          refine wi_dup (nx := 58) (r1 := 0) (r2 := 0) (r3 := 0) rfl rfl ?_
          refine wr_gi0 (k0 := 236) (x := h 236 43) (nx := 61) (r1 := 11) (r2 := 43) (r3 := 0) rfl rfl (by decide) rfl ⟨rfl, rfl⟩ rfl rfl ?_
          refine wi_iconst (n := 1) (nx := 62) (r1 := 0) (r2 := 0) (r3 := 0) rfl ?_
          refine wr_add (nx := 63) (r1 := 0) (r2 := 0) (r3 := 0) rfl (fun e16 (fe16 : e16 = (h 236 43) + 1) => ?_)
          refine wr_pf0 (k0 := 236) (x := e16) (bl := 0) (bh := 40) (nx := 66) (r1 := 11) (r2 := 43) (r3 := 0) rfl (by decide) rfl ⟨rfl, rfl⟩ rfl rfl g rfl (by omega) (fun h17 g17 w17 u17 => ?_)
          have F18 := F0.then rfl u17
          refine wi_aload_n (i := 0) (x := 236) (nx := 67) (r1 := 0) (r2 := 0) (r3 := 0) rfl rfl ?_
          refine wr_V (k0 := 236) (rest := []) (as := [.ref 236]) (nx := 70) (r1 := 215) (r2 := 0) (r3 := 11) rfl rfl rfl (of_decide_eq_true rfl) rfl rfl (by decide) rfl rfl (of_decide_eq_true rfl) (of_decide_eq_true rfl) ?_
          have e20 : h17 236 4 = h 236 4 := (u17 236 4 rfl)
          have e21 : h17 236 3 = h 236 3 := (u17 236 3 rfl)
          refine ct_215_236 hcr  g17   (show (h17 236 4) ≤ (h17 236 3) by omega) (fun h19 g19 u19 (p19_0 : (h17 236 4) ≤ (h19 236 4)) (p19_1 : (h19 236 4) ≤ (h17 236 3)) (p19_2 : (h19 236 6) = 0 ∨ (h17 236 4) + 1 ≤ (h19 236 4)) => ?_)
          have F22 := F18.then (by decide +kernel) u19
          have b23 := gi_b (lo := 0) (hi := 800) g19 236 4 rfl
          have b24 := gi_b (lo := 0) (hi := 4) g19 236 6 rfl
          refine wk_n ?_
          refine wi_iload_n (i := 1) (e := z9) (nx := 71) (r1 := 0) (r2 := 0) (r3 := 0) rfl rfl ?_
          refine wi_iconst (n := 2) (nx := 72) (r1 := 0) (r2 := 0) (r3 := 0) rfl ?_
          refine wi_icmp (cd := .gt) (nx := 75) (r1 := 89) (r2 := 0) (r3 := 0) rfl (by omega) (by omega) (fun (q25 : 2 < z9) => ?_) (fun (q25 : ¬ (2 < z9)) => by exfalso; omega)
          refine wi_iload_n (i := 1) (e := z9) (nx := 90) (r1 := 0) (r2 := 0) (r3 := 0) rfl rfl ?_
          refine wi_iconst (n := 4) (nx := 91) (r1 := 0) (r2 := 0) (r3 := 0) rfl ?_
          refine wi_icmp (cd := .gt) (nx := 94) (r1 := 109) (r2 := 0) (r3 := 0) rfl (by omega) (by omega) (fun (q26 : 4 < z9) => ?_) (fun (q26 : ¬ (4 < z9)) => by exfalso; omega)
          refine wi_iload_n (i := 1) (e := z9) (nx := 110) (r1 := 0) (r2 := 0) (r3 := 0) rfl rfl ?_
          refine wi_bipush (n := 7) (nx := 112) (r1 := 0) (r2 := 0) (r3 := 0) rfl (by decide) ?_
          refine wi_icmp (cd := .ne) (nx := 115) (r1 := 146) (r2 := 0) (r3 := 0) rfl (by omega) (by omega) (fun (q27 : z9 ≠ 7) => by exfalso; omega) (fun (q27 : ¬ (z9 ≠ 7)) => ?_)
          refine wi_aload_n (i := 0) (x := 236) (nx := 116) (r1 := 0) (r2 := 0) (r3 := 0) rfl rfl ?_
          refine wi_iload_n (i := 1) (e := z9) (nx := 117) (r1 := 0) (r2 := 0) (r3 := 0) rfl rfl ?_
          refine wi_aload_n (i := 0) (x := 236) (nx := 118) (r1 := 0) (r2 := 0) (r3 := 0) rfl rfl ?_
          refine wi_iconst (n := 1) (nx := 119) (r1 := 0) (r2 := 0) (r3 := 0) rfl ?_
          refine wi_bipush (n := 20) (nx := 121) (r1 := 0) (r2 := 0) (r3 := 0) rfl (by decide) ?_
          refine wr_V (k0 := 236) (rest := [vi z9, .ref 236]) (as := [.ref 236, vi 1, vi 20]) (nx := 124) (r1 := 231) (r2 := 2) (r3 := 11) rfl rfl rfl (of_decide_eq_true rfl) rfl rfl (by decide) rfl rfl (of_decide_eq_true rfl) (of_decide_eq_true rfl) ?_
          have e29 : h19 236 3 = h 236 3 := ((u19 236 3 rfl).trans (u17 236 3 rfl))
          refine ct_231_236 hcr  g19 1 20 (by omega) (by omega) (show (h19 236 4) ≤ (h19 236 3) by omega) (fun h28 z30 g28 u28 (fz30 : 0 ≤ z30 ∧ z30 ≤ 999) (p28_0 : (h19 236 4) ≤ (h28 236 4)) (p28_1 : (h28 236 4) ≤ (h19 236 3)) (p28_2 : 1 ≤ (h28 236 8) ∨ (h19 236 8) = 0) (p28_3 : 1 ≤ (h28 236 8) ∨ (1 ≤ z30 ∧ z30 ≤ 20)) => ?_)
          have F31 := F22.then (by decide +kernel) u28
          have b32 := gi_b (lo := 0) (hi := 800) g28 236 4 rfl
          have e33 : h19 236 8 = h 236 8 := ((u19 236 8 rfl).trans (u17 236 8 rfl))
          have b34 := gi_b (lo := 0) (hi := 5) g28 236 8 rfl
          refine wk_i ?_
          refine wr_V (k0 := 236) (rest := []) (as := [.ref 236, vi z9, vi z30]) (nx := 127) (r1 := 337) (r2 := 2) (r3 := 11) rfl rfl rfl (of_decide_eq_true rfl) rfl rfl (by decide) rfl rfl (of_decide_eq_true rfl) (of_decide_eq_true rfl) ?_
          refine wi_aload_n (i := 0) (x := 236) (nx := 1) (r1 := 0) (r2 := 0) (r3 := 0) rfl rfl ?_
          refine wr_V (k0 := 236) (rest := []) (as := [.ref 236]) (nx := 4) (r1 := 219) (r2 := 0) (r3 := 11) rfl rfl rfl (of_decide_eq_true rfl) rfl rfl (by decide) rfl rfl (of_decide_eq_true rfl) (of_decide_eq_true rfl) ?_
          refine wi_aload_n (i := 0) (x := 236) (nx := 1) (r1 := 0) (r2 := 0) (r3 := 0) rfl rfl ?_
          refine wr_gi0 (k0 := 236) (x := h28 236 8) (nx := 4) (r1 := 11) (r2 := 8) (r3 := 0) rfl rfl (by decide) rfl ⟨rfl, rfl⟩ rfl rfl ?_
          refine wi_if (cd := .ne) (nx := 7) (r1 := 11) (r2 := 0) (r3 := 0) rfl (by omega) (fun (q35 : (h28 236 8) ≠ 0) => ?_) (fun (q35 : ¬ ((h28 236 8) ≠ 0)) => ?_)
          ·
            refine wi_iconst (n := 0) (nx := 12) (r1 := 0) (r2 := 0) (r3 := 0) rfl ?_
            refine wi_zreturn (nx := 13) (r1 := 0) (r2 := 0) (r3 := 0) rfl rfl (by omega) ?_
            refine wk_i ?_
            refine wi_if (cd := .ne) (nx := 7) (r1 := 8) (r2 := 0) (r3 := 0) rfl (by omega) (fun (q36 : 0 ≠ 0) => by exfalso; omega) (fun (q36 : ¬ (0 ≠ 0)) => ?_)
            refine wi_return (nx := 8) (r1 := 0) (r2 := 0) (r3 := 0) rfl rfl ?_
            refine wk_n ?_
            refine wi_aload_n (i := 0) (x := 236) (nx := 128) (r1 := 0) (r2 := 0) (r3 := 0) rfl rfl ?_
            refine wi_bipush (n := 40) (nx := 130) (r1 := 0) (r2 := 0) (r3 := 0) rfl (by decide) ?_
            refine wr_V (k0 := 236) (rest := []) (as := [.ref 236, vi 40]) (nx := 133) (r1 := 235) (r2 := 1) (r3 := 11) rfl rfl rfl (of_decide_eq_true rfl) rfl rfl (by decide) rfl rfl (of_decide_eq_true rfl) (of_decide_eq_true rfl) ?_
            have e38 : h28 236 3 = h 236 3 := ((u28 236 3 rfl).trans ((u19 236 3 rfl).trans (u17 236 3 rfl)))
            refine ct_235_236 hcr  g28 40 (by omega) (show (h28 236 4) ≤ (h28 236 3) by omega) (fun h37 g37 u37 (p37_0 : (h28 236 4) ≤ (h37 236 4)) (p37_1 : (h37 236 4) ≤ (h28 236 3)) (p37_2 : 1 ≤ (h37 236 8) ∨ (h28 236 8) = 0) (p37_3 : 1 ≤ (h37 236 8) ∨ (h37 236 6) = 0 ∨ (h28 236 4) + 1 ≤ (h37 236 4)) => ?_)
            have F39 := F31.then (by decide +kernel) u37
            have b40 := gi_b (lo := 0) (hi := 800) g37 236 4 rfl
            have b41 := gi_b (lo := 0) (hi := 5) g37 236 8 rfl
            have b42 := gi_b (lo := 0) (hi := 4) g37 236 6 rfl
            refine wk_n ?_
            refine wi_aload_n (i := 0) (x := 236) (nx := 134) (r1 := 0) (r2 := 0) (r3 := 0) rfl rfl ?_
            refine wi_dup (nx := 135) (r1 := 0) (r2 := 0) (r3 := 0) rfl rfl ?_
            refine wr_gi0 (k0 := 236) (x := h 236 44) (nx := 138) (r1 := 11) (r2 := 44) (r3 := 0) rfl rfl (by decide) rfl ⟨rfl, rfl⟩ rfl ((u37 236 44 rfl).trans ((u28 236 44 rfl).trans ((u19 236 44 rfl).trans (u17 236 44 rfl)))) ?_
            refine wi_iconst (n := 1) (nx := 139) (r1 := 0) (r2 := 0) (r3 := 0) rfl ?_
            refine wr_add (nx := 140) (r1 := 0) (r2 := 0) (r3 := 0) rfl (fun e43 (fe43 : e43 = (h 236 44) + 1) => ?_)
            refine wr_pf0 (k0 := 236) (x := e43) (bl := 0) (bh := 2) (nx := 143) (r1 := 11) (r2 := 44) (r3 := 0) rfl (by decide) rfl ⟨rfl, rfl⟩ rfl rfl g37 rfl (by omega) (fun h44 g44 w44 u44 => ?_)
            have F45 := F39.then rfl u44
            refine wi_goto (nx := 146) (r1 := 152) (r2 := 0) (r3 := 0) rfl ?_
            refine wi_return (nx := 153) (r1 := 0) (r2 := 0) (r3 := 0) rfl rfl ?_
            have e46 : h44 236 4 = h37 236 4 := (u44 236 4 rfl)
            have e47 : h44 236 8 = h37 236 8 := (u44 236 8 rfl)
            have e48 : h44 236 6 = h37 236 6 := (u44 236 6 rfl)
            have e49 : h44 236 42 = h 236 42 := ((u44 236 42 rfl).trans ((u37 236 42 rfl).trans ((u28 236 42 rfl).trans ((u19 236 42 rfl).trans (u17 236 42 rfl)))))
            have e50 : h44 236 44 = e43 := w44
            have e51 : h44 236 43 = e16 := ((u44 236 43 rfl).trans ((u37 236 43 rfl).trans ((u28 236 43 rfl).trans ((u19 236 43 rfl).trans w17))))
            exact k h44 g44 F45 (show (h 236 4) ≤ (h44 236 4) by omega) (show (h44 236 4) ≤ (h 236 3) by omega) (show 1 ≤ (h44 236 8) ∨ (h44 236 6) = 0 ∨ (h 236 4) + 1 ≤ (h44 236 4) by omega) (show 1 ≤ (h44 236 8) ∨ (h44 236 42) + (h44 236 44) ≤ 2 * (h44 236 43) by omega) (fun e => absurd e (by omega))
          ·
            refine wi_iconst (n := 1) (nx := 8) (r1 := 0) (r2 := 0) (r3 := 0) rfl ?_
            refine wi_goto (nx := 11) (r1 := 12) (r2 := 0) (r3 := 0) rfl ?_
            refine wi_zreturn (nx := 13) (r1 := 0) (r2 := 0) (r3 := 0) rfl rfl (by omega) ?_
            refine wk_i ?_
            refine wi_if (cd := .ne) (nx := 7) (r1 := 8) (r2 := 0) (r3 := 0) rfl (by omega) (fun (q36 : 1 ≠ 0) => ?_) (fun (q36 : ¬ (1 ≠ 0)) => by exfalso; omega)
            refine wi_aload_n (i := 0) (x := 236) (nx := 9) (r1 := 0) (r2 := 0) (r3 := 0) rfl rfl ?_
            refine wr_gr (k0 := 236) (x := 253) (nx := 12) (r1 := 11) (r2 := 37) (r3 := 0) rfl rfl (by decide) rfl ⟨rfl, rfl⟩ rfl ?_
            refine wi_aload_n (i := 0) (x := 236) (nx := 13) (r1 := 0) (r2 := 0) (r3 := 0) rfl rfl ?_
            refine wr_gi0 (k0 := 236) (x := h 236 42) (nx := 16) (r1 := 11) (r2 := 42) (r3 := 0) rfl rfl (by decide) rfl ⟨rfl, rfl⟩ rfl ((u28 236 42 rfl).trans ((u19 236 42 rfl).trans (u17 236 42 rfl))) ?_
            refine wi_iload_n (i := 1) (e := z9) (nx := 17) (r1 := 0) (r2 := 0) (r3 := 0) rfl rfl ?_
            obtain ⟨i37, ei37⟩ : ∃ q : Nat, (h 236 42) = (q : Int) := ⟨(h 236 42).toNat, by omega⟩
            refine wr_is (k0 := 253) (a := h 236 42) (f := i37) (x := z9) (bl := 0) (bh := 8) (nx := 18) (r1 := 0) (r2 := 0) (r3 := 0) rfl (by decide) rfl (by omega) (by omega) (by decide) g28 rfl (by omega) (fun h38 g38 w38 u38 => ?_)
            have F39 := F31.then rfl (FR.rngp (lo := 253) (hi := 253) u38 (by decide))
            refine wi_aload_n (i := 0) (x := 236) (nx := 19) (r1 := 0) (r2 := 0) (r3 := 0) rfl rfl ?_
            refine wr_gr (k0 := 236) (x := 254) (nx := 22) (r1 := 11) (r2 := 38) (r3 := 0) rfl rfl (by decide) rfl ⟨rfl, rfl⟩ rfl ?_
            refine wi_aload_n (i := 0) (x := 236) (nx := 23) (r1 := 0) (r2 := 0) (r3 := 0) rfl rfl ?_
            refine wr_gi0 (k0 := 236) (x := h 236 42) (nx := 26) (r1 := 11) (r2 := 42) (r3 := 0) rfl rfl (by decide) rfl ⟨rfl, rfl⟩ rfl ((u38 236 42 (fn_a (by omega) fn_0)).trans ((u28 236 42 rfl).trans ((u19 236 42 rfl).trans (u17 236 42 rfl)))) ?_
            refine wi_iload_n (i := 2) (e := z30) (nx := 27) (r1 := 0) (r2 := 0) (r3 := 0) rfl rfl ?_
            refine wr_is (k0 := 254) (a := h 236 42) (f := i37) (x := z30) (bl := 0) (bh := 999) (nx := 28) (r1 := 0) (r2 := 0) (r3 := 0) rfl (by decide) rfl (by omega) (by omega) (by decide) g38 rfl (by omega) (fun h40 g40 w40 u40 => ?_)
            have F41 := F39.then rfl (FR.rngp (lo := 254) (hi := 254) u40 (by decide))
            refine wi_aload_n (i := 0) (x := 236) (nx := 29) (r1 := 0) (r2 := 0) (r3 := 0) rfl rfl ?_
            refine wi_dup (nx := 30) (r1 := 0) (r2 := 0) (r3 := 0) rfl rfl ?_
            refine wr_gi0 (k0 := 236) (x := h 236 42) (nx := 33) (r1 := 11) (r2 := 42) (r3 := 0) rfl rfl (by decide) rfl ⟨rfl, rfl⟩ rfl ((u40 236 42 (fn_a (by omega) fn_0)).trans ((u38 236 42 (fn_a (by omega) fn_0)).trans ((u28 236 42 rfl).trans ((u19 236 42 rfl).trans (u17 236 42 rfl))))) ?_
            refine wi_iconst (n := 1) (nx := 34) (r1 := 0) (r2 := 0) (r3 := 0) rfl ?_
            refine wr_add (nx := 35) (r1 := 0) (r2 := 0) (r3 := 0) rfl (fun e42 (fe42 : e42 = (h 236 42) + 1) => ?_)
            refine wr_pf0 (k0 := 236) (x := e42) (bl := 0) (bh := 80) (nx := 38) (r1 := 11) (r2 := 42) (r3 := 0) rfl (by decide) rfl ⟨rfl, rfl⟩ rfl rfl g40 rfl (by omega) (fun h43 g43 w43 u43 => ?_)
            have F44 := F41.then rfl u43
            refine wi_return (nx := 39) (r1 := 0) (r2 := 0) (r3 := 0) rfl rfl ?_
            refine wk_n ?_
            refine wi_aload_n (i := 0) (x := 236) (nx := 128) (r1 := 0) (r2 := 0) (r3 := 0) rfl rfl ?_
            refine wi_bipush (n := 40) (nx := 130) (r1 := 0) (r2 := 0) (r3 := 0) rfl (by decide) ?_
            refine wr_V (k0 := 236) (rest := []) (as := [.ref 236, vi 40]) (nx := 133) (r1 := 235) (r2 := 1) (r3 := 11) rfl rfl rfl (of_decide_eq_true rfl) rfl rfl (by decide) rfl rfl (of_decide_eq_true rfl) (of_decide_eq_true rfl) ?_
            have e46 : h43 236 4 = h28 236 4 := ((u43 236 4 rfl).trans ((u40 236 4 (fn_a (by omega) fn_0)).trans (u38 236 4 (fn_a (by omega) fn_0))))
            have e47 : h43 236 3 = h 236 3 := ((u43 236 3 rfl).trans ((u40 236 3 (fn_a (by omega) fn_0)).trans ((u38 236 3 (fn_a (by omega) fn_0)).trans ((u28 236 3 rfl).trans ((u19 236 3 rfl).trans (u17 236 3 rfl))))))
            refine ct_235_236 hcr  g43 40 (by omega) (show (h43 236 4) ≤ (h43 236 3) by omega) (fun h45 g45 u45 (p45_0 : (h43 236 4) ≤ (h45 236 4)) (p45_1 : (h45 236 4) ≤ (h43 236 3)) (p45_2 : 1 ≤ (h45 236 8) ∨ (h43 236 8) = 0) (p45_3 : 1 ≤ (h45 236 8) ∨ (h45 236 6) = 0 ∨ (h43 236 4) + 1 ≤ (h45 236 4)) => ?_)
            have F48 := F44.then (by decide +kernel) u45
            have b49 := gi_b (lo := 0) (hi := 800) g45 236 4 rfl
            have e50 : h43 236 8 = h28 236 8 := ((u43 236 8 rfl).trans ((u40 236 8 (fn_a (by omega) fn_0)).trans (u38 236 8 (fn_a (by omega) fn_0))))
            have b51 := gi_b (lo := 0) (hi := 5) g45 236 8 rfl
            have b52 := gi_b (lo := 0) (hi := 4) g45 236 6 rfl
            refine wk_n ?_
            refine wi_aload_n (i := 0) (x := 236) (nx := 134) (r1 := 0) (r2 := 0) (r3 := 0) rfl rfl ?_
            refine wi_dup (nx := 135) (r1 := 0) (r2 := 0) (r3 := 0) rfl rfl ?_
            refine wr_gi0 (k0 := 236) (x := h 236 44) (nx := 138) (r1 := 11) (r2 := 44) (r3 := 0) rfl rfl (by decide) rfl ⟨rfl, rfl⟩ rfl ((u45 236 44 rfl).trans ((u43 236 44 rfl).trans ((u40 236 44 (fn_a (by omega) fn_0)).trans ((u38 236 44 (fn_a (by omega) fn_0)).trans ((u28 236 44 rfl).trans ((u19 236 44 rfl).trans (u17 236 44 rfl))))))) ?_
            refine wi_iconst (n := 1) (nx := 139) (r1 := 0) (r2 := 0) (r3 := 0) rfl ?_
            refine wr_add (nx := 140) (r1 := 0) (r2 := 0) (r3 := 0) rfl (fun e53 (fe53 : e53 = (h 236 44) + 1) => ?_)
            refine wr_pf0 (k0 := 236) (x := e53) (bl := 0) (bh := 2) (nx := 143) (r1 := 11) (r2 := 44) (r3 := 0) rfl (by decide) rfl ⟨rfl, rfl⟩ rfl rfl g45 rfl (by omega) (fun h54 g54 w54 u54 => ?_)
            have F55 := F48.then rfl u54
            refine wi_goto (nx := 146) (r1 := 152) (r2 := 0) (r3 := 0) rfl ?_
            refine wi_return (nx := 153) (r1 := 0) (r2 := 0) (r3 := 0) rfl rfl ?_
            have e56 : h54 236 4 = h45 236 4 := (u54 236 4 rfl)
            have e57 : h54 236 8 = h45 236 8 := (u54 236 8 rfl)
            have e58 : h54 236 6 = h45 236 6 := (u54 236 6 rfl)
            have e59 : h54 236 42 = e42 := ((u54 236 42 rfl).trans ((u45 236 42 rfl).trans w43))
            have e60 : h54 236 44 = e53 := w54
            have e61 : h54 236 43 = e16 := ((u54 236 43 rfl).trans ((u45 236 43 rfl).trans ((u43 236 43 rfl).trans ((u40 236 43 (fn_a (by omega) fn_0)).trans ((u38 236 43 (fn_a (by omega) fn_0)).trans ((u28 236 43 rfl).trans ((u19 236 43 rfl).trans w17)))))))
            have q62 : h54 253 = h38 253 := funext (fun i => ((u54 253 i rfl).trans ((u45 253 i (fo_no_ok (by decide) i)).trans ((u43 253 i rfl).trans (u40 253 i (fn_a (by omega) fn_0))))))
            have q63 : h28 253 = h 253 := funext (fun i => ((u28 253 i (fo_no_ok (by decide) i)).trans ((u19 253 i (fo_no_ok (by decide) i)).trans (u17 253 i rfl))))
            exact k h54 g54 F55 (show (h 236 4) ≤ (h54 236 4) by omega) (show (h54 236 4) ≤ (h 236 3) by omega) (show 1 ≤ (h54 236 8) ∨ (h54 236 6) = 0 ∨ (h 236 4) + 1 ≤ (h54 236 4) by omega) (show 1 ≤ (h54 236 8) ∨ (h54 236 42) + (h54 236 44) ≤ 2 * (h54 236 43) by omega) (fun e => by
                rw [q62]
                refine WP.put (S := h 253) (n := h 236 42) (o := h 236 44) xq0 (by omega) (fun k hk => (u38 253 k (fn_i (by omega) fn_0)).trans (congrFun q63 k)) ?_ (by omega)
                rw [show (h 236 42).toNat = i37 by omega, w38]
                omega)
        ·
          refine wi_aload_n (i := 0) (x := 236) (nx := 44) (r1 := 0) (r2 := 0) (r3 := 0) rfl rfl ?_
          refine wi_iconst (n := 5) (nx := 45) (r1 := 0) (r2 := 0) (r3 := 0) rfl ?_
          refine wr_V (k0 := 236) (rest := []) (as := [.ref 236, vi 5]) (nx := 48) (r1 := 224) (r2 := 1) (r3 := 11) rfl rfl rfl (of_decide_eq_true rfl) rfl rfl (by decide) rfl rfl (of_decide_eq_true rfl) (of_decide_eq_true rfl) ?_
          refine ct_224_236 hcr  g 5 (by omega)  (fun h14 g14 u14 (p14_0 : 1 ≤ (h14 236 8)) => ?_)
          have F15 := F0.then (by decide +kernel) u14
          have b16 := gi_b (lo := 0) (hi := 5) g14 236 8 rfl
          refine wk_n ?_
          refine wi_aload_n (i := 0) (x := 236) (nx := 49) (r1 := 0) (r2 := 0) (r3 := 0) rfl rfl ?_
          refine wr_V (k0 := 236) (rest := []) (as := [.ref 236]) (nx := 52) (r1 := 219) (r2 := 0) (r3 := 11) rfl rfl rfl (of_decide_eq_true rfl) rfl rfl (by decide) rfl rfl (of_decide_eq_true rfl) (of_decide_eq_true rfl) ?_
          refine wi_aload_n (i := 0) (x := 236) (nx := 1) (r1 := 0) (r2 := 0) (r3 := 0) rfl rfl ?_
          refine wr_gi0 (k0 := 236) (x := h14 236 8) (nx := 4) (r1 := 11) (r2 := 8) (r3 := 0) rfl rfl (by decide) rfl ⟨rfl, rfl⟩ rfl rfl ?_
          refine wi_if (cd := .ne) (nx := 7) (r1 := 11) (r2 := 0) (r3 := 0) rfl (by omega) (fun (q17 : (h14 236 8) ≠ 0) => ?_) (fun (q17 : ¬ ((h14 236 8) ≠ 0)) => by exfalso; omega)
          refine wi_iconst (n := 0) (nx := 12) (r1 := 0) (r2 := 0) (r3 := 0) rfl ?_
          refine wi_zreturn (nx := 13) (r1 := 0) (r2 := 0) (r3 := 0) rfl rfl (by omega) ?_
          refine wk_i ?_
          refine wi_if (cd := .ne) (nx := 55) (r1 := 56) (r2 := 0) (r3 := 0) rfl (by omega) (fun (q18 : 0 ≠ 0) => by exfalso; omega) (fun (q18 : ¬ (0 ≠ 0)) => ?_)
          refine wi_return (nx := 56) (r1 := 0) (r2 := 0) (r3 := 0) rfl rfl ?_
          have e19 : h14 236 4 = h 236 4 := (u14 236 4 rfl)
          have e20 : h14 236 6 = h 236 6 := (u14 236 6 rfl)
          have e21 : h14 236 42 = h 236 42 := (u14 236 42 rfl)
          have e22 : h14 236 44 = h 236 44 := (u14 236 44 rfl)
          have e23 : h14 236 43 = h 236 43 := (u14 236 43 rfl)
          exact k h14 g14 F15 (show (h 236 4) ≤ (h14 236 4) by omega) (show (h14 236 4) ≤ (h 236 3) by omega) (show 1 ≤ (h14 236 8) ∨ (h14 236 6) = 0 ∨ (h 236 4) + 1 ≤ (h14 236 4) by omega) (show 1 ≤ (h14 236 8) ∨ (h14 236 42) + (h14 236 44) ≤ 2 * (h14 236 43) by omega) (fun e => absurd e (by omega))
      ·
        refine wi_aload_n (i := 0) (x := 236) (nx := 30) (r1 := 0) (r2 := 0) (r3 := 0) rfl rfl ?_
        refine wi_iconst (n := 3) (nx := 31) (r1 := 0) (r2 := 0) (r3 := 0) rfl ?_
        refine wr_V (k0 := 236) (rest := []) (as := [.ref 236, vi 3]) (nx := 34) (r1 := 224) (r2 := 1) (r3 := 11) rfl rfl rfl (of_decide_eq_true rfl) rfl rfl (by decide) rfl rfl (of_decide_eq_true rfl) (of_decide_eq_true rfl) ?_
        refine ct_224_236 hcr  g 3 (by omega)  (fun h13 g13 u13 (p13_0 : 1 ≤ (h13 236 8)) => ?_)
        have F14 := F0.then (by decide +kernel) u13
        have b15 := gi_b (lo := 0) (hi := 5) g13 236 8 rfl
        refine wk_n ?_
        refine wi_aload_n (i := 0) (x := 236) (nx := 35) (r1 := 0) (r2 := 0) (r3 := 0) rfl rfl ?_
        refine wr_gi0 (k0 := 236) (x := h 236 43) (nx := 38) (r1 := 11) (r2 := 43) (r3 := 0) rfl rfl (by decide) rfl ⟨rfl, rfl⟩ rfl (u13 236 43 rfl) ?_
        refine wi_bipush (n := 40) (nx := 40) (r1 := 0) (r2 := 0) (r3 := 0) rfl (by decide) ?_
        refine wi_icmp (cd := .ne) (nx := 43) (r1 := 48) (r2 := 0) (r3 := 0) rfl (by omega) (by omega) (fun (q16 : (h 236 43) ≠ 40) => ?_) (fun (q16 : ¬ ((h 236 43) ≠ 40)) => ?_)
        ·
          refine wi_aload_n (i := 0) (x := 236) (nx := 49) (r1 := 0) (r2 := 0) (r3 := 0) rfl rfl ?_
          refine wr_V (k0 := 236) (rest := []) (as := [.ref 236]) (nx := 52) (r1 := 219) (r2 := 0) (r3 := 11) rfl rfl rfl (of_decide_eq_true rfl) rfl rfl (by decide) rfl rfl (of_decide_eq_true rfl) (of_decide_eq_true rfl) ?_
          refine wi_aload_n (i := 0) (x := 236) (nx := 1) (r1 := 0) (r2 := 0) (r3 := 0) rfl rfl ?_
          refine wr_gi0 (k0 := 236) (x := h13 236 8) (nx := 4) (r1 := 11) (r2 := 8) (r3 := 0) rfl rfl (by decide) rfl ⟨rfl, rfl⟩ rfl rfl ?_
          refine wi_if (cd := .ne) (nx := 7) (r1 := 11) (r2 := 0) (r3 := 0) rfl (by omega) (fun (q17 : (h13 236 8) ≠ 0) => ?_) (fun (q17 : ¬ ((h13 236 8) ≠ 0)) => by exfalso; omega)
          refine wi_iconst (n := 0) (nx := 12) (r1 := 0) (r2 := 0) (r3 := 0) rfl ?_
          refine wi_zreturn (nx := 13) (r1 := 0) (r2 := 0) (r3 := 0) rfl rfl (by omega) ?_
          refine wk_i ?_
          refine wi_if (cd := .ne) (nx := 55) (r1 := 56) (r2 := 0) (r3 := 0) rfl (by omega) (fun (q18 : 0 ≠ 0) => by exfalso; omega) (fun (q18 : ¬ (0 ≠ 0)) => ?_)
          refine wi_return (nx := 56) (r1 := 0) (r2 := 0) (r3 := 0) rfl rfl ?_
          have e19 : h13 236 4 = h 236 4 := (u13 236 4 rfl)
          have e20 : h13 236 6 = h 236 6 := (u13 236 6 rfl)
          have e21 : h13 236 42 = h 236 42 := (u13 236 42 rfl)
          have e22 : h13 236 44 = h 236 44 := (u13 236 44 rfl)
          have e23 : h13 236 43 = h 236 43 := (u13 236 43 rfl)
          exact k h13 g13 F14 (show (h 236 4) ≤ (h13 236 4) by omega) (show (h13 236 4) ≤ (h 236 3) by omega) (show 1 ≤ (h13 236 8) ∨ (h13 236 6) = 0 ∨ (h 236 4) + 1 ≤ (h13 236 4) by omega) (show 1 ≤ (h13 236 8) ∨ (h13 236 42) + (h13 236 44) ≤ 2 * (h13 236 43) by omega) (fun e => absurd e (by omega))
        ·
          refine wi_aload_n (i := 0) (x := 236) (nx := 44) (r1 := 0) (r2 := 0) (r3 := 0) rfl rfl ?_
          refine wi_iconst (n := 5) (nx := 45) (r1 := 0) (r2 := 0) (r3 := 0) rfl ?_
          refine wr_V (k0 := 236) (rest := []) (as := [.ref 236, vi 5]) (nx := 48) (r1 := 224) (r2 := 1) (r3 := 11) rfl rfl rfl (of_decide_eq_true rfl) rfl rfl (by decide) rfl rfl (of_decide_eq_true rfl) (of_decide_eq_true rfl) ?_
          refine ct_224_236 hcr  g13 5 (by omega)  (fun h17 g17 u17 (p17_0 : 1 ≤ (h17 236 8)) => ?_)
          have F18 := F14.then (by decide +kernel) u17
          have b19 := gi_b (lo := 0) (hi := 5) g17 236 8 rfl
          refine wk_n ?_
          refine wi_aload_n (i := 0) (x := 236) (nx := 49) (r1 := 0) (r2 := 0) (r3 := 0) rfl rfl ?_
          refine wr_V (k0 := 236) (rest := []) (as := [.ref 236]) (nx := 52) (r1 := 219) (r2 := 0) (r3 := 11) rfl rfl rfl (of_decide_eq_true rfl) rfl rfl (by decide) rfl rfl (of_decide_eq_true rfl) (of_decide_eq_true rfl) ?_
          refine wi_aload_n (i := 0) (x := 236) (nx := 1) (r1 := 0) (r2 := 0) (r3 := 0) rfl rfl ?_
          refine wr_gi0 (k0 := 236) (x := h17 236 8) (nx := 4) (r1 := 11) (r2 := 8) (r3 := 0) rfl rfl (by decide) rfl ⟨rfl, rfl⟩ rfl rfl ?_
          refine wi_if (cd := .ne) (nx := 7) (r1 := 11) (r2 := 0) (r3 := 0) rfl (by omega) (fun (q20 : (h17 236 8) ≠ 0) => ?_) (fun (q20 : ¬ ((h17 236 8) ≠ 0)) => by exfalso; omega)
          refine wi_iconst (n := 0) (nx := 12) (r1 := 0) (r2 := 0) (r3 := 0) rfl ?_
          refine wi_zreturn (nx := 13) (r1 := 0) (r2 := 0) (r3 := 0) rfl rfl (by omega) ?_
          refine wk_i ?_
          refine wi_if (cd := .ne) (nx := 55) (r1 := 56) (r2 := 0) (r3 := 0) rfl (by omega) (fun (q21 : 0 ≠ 0) => by exfalso; omega) (fun (q21 : ¬ (0 ≠ 0)) => ?_)
          refine wi_return (nx := 56) (r1 := 0) (r2 := 0) (r3 := 0) rfl rfl ?_
          have e22 : h17 236 4 = h 236 4 := ((u17 236 4 rfl).trans (u13 236 4 rfl))
          have e23 : h17 236 6 = h 236 6 := ((u17 236 6 rfl).trans (u13 236 6 rfl))
          have e24 : h17 236 42 = h 236 42 := ((u17 236 42 rfl).trans (u13 236 42 rfl))
          have e25 : h17 236 44 = h 236 44 := ((u17 236 44 rfl).trans (u13 236 44 rfl))
          have e26 : h17 236 43 = h 236 43 := ((u17 236 43 rfl).trans (u13 236 43 rfl))
          exact k h17 g17 F18 (show (h 236 4) ≤ (h17 236 4) by omega) (show (h17 236 4) ≤ (h 236 3) by omega) (show 1 ≤ (h17 236 8) ∨ (h17 236 6) = 0 ∨ (h 236 4) + 1 ≤ (h17 236 4) by omega) (show 1 ≤ (h17 236 8) ∨ (h17 236 42) + (h17 236 44) ≤ 2 * (h17 236 43) by omega) (fun e => absurd e (by omega))
  ·
    refine wi_aload_n (i := 0) (x := 236) (nx := 11) (r1 := 0) (r2 := 0) (r3 := 0) rfl rfl ?_
    refine wi_iconst (n := 1) (nx := 12) (r1 := 0) (r2 := 0) (r3 := 0) rfl ?_
    refine wr_V (k0 := 236) (rest := []) (as := [.ref 236, vi 1]) (nx := 15) (r1 := 224) (r2 := 1) (r3 := 11) rfl rfl rfl (of_decide_eq_true rfl) rfl rfl (by decide) rfl rfl (of_decide_eq_true rfl) (of_decide_eq_true rfl) ?_
    refine ct_224_236 hcr  g 1 (by omega)  (fun h11 g11 u11 (p11_0 : 1 ≤ (h11 236 8)) => ?_)
    have F12 := F0.then (by decide +kernel) u11
    have b13 := gi_b (lo := 0) (hi := 5) g11 236 8 rfl
    refine wk_n ?_
    refine wi_iload_n (i := 1) (e := z9) (nx := 16) (r1 := 0) (r2 := 0) (r3 := 0) rfl rfl ?_
    refine wi_bipush (n := 7) (nx := 18) (r1 := 0) (r2 := 0) (r3 := 0) rfl (by decide) ?_
    refine wi_icmp (cd := .ne) (nx := 21) (r1 := 34) (r2 := 0) (r3 := 0) rfl (by omega) (by omega) (fun (q14 : z9 ≠ 7) => ?_) (fun (q14 : ¬ (z9 ≠ 7)) => by exfalso; omega)
    refine wi_aload_n (i := 0) (x := 236) (nx := 35) (r1 := 0) (r2 := 0) (r3 := 0) rfl rfl ?_
    refine wr_gi0 (k0 := 236) (x := h 236 43) (nx := 38) (r1 := 11) (r2 := 43) (r3 := 0) rfl rfl (by decide) rfl ⟨rfl, rfl⟩ rfl (u11 236 43 rfl) ?_
    refine wi_bipush (n := 40) (nx := 40) (r1 := 0) (r2 := 0) (r3 := 0) rfl (by decide) ?_
    refine wi_icmp (cd := .ne) (nx := 43) (r1 := 48) (r2 := 0) (r3 := 0) rfl (by omega) (by omega) (fun (q15 : (h 236 43) ≠ 40) => ?_) (fun (q15 : ¬ ((h 236 43) ≠ 40)) => ?_)
    ·
      refine wi_aload_n (i := 0) (x := 236) (nx := 49) (r1 := 0) (r2 := 0) (r3 := 0) rfl rfl ?_
      refine wr_V (k0 := 236) (rest := []) (as := [.ref 236]) (nx := 52) (r1 := 219) (r2 := 0) (r3 := 11) rfl rfl rfl (of_decide_eq_true rfl) rfl rfl (by decide) rfl rfl (of_decide_eq_true rfl) (of_decide_eq_true rfl) ?_
      refine wi_aload_n (i := 0) (x := 236) (nx := 1) (r1 := 0) (r2 := 0) (r3 := 0) rfl rfl ?_
      refine wr_gi0 (k0 := 236) (x := h11 236 8) (nx := 4) (r1 := 11) (r2 := 8) (r3 := 0) rfl rfl (by decide) rfl ⟨rfl, rfl⟩ rfl rfl ?_
      refine wi_if (cd := .ne) (nx := 7) (r1 := 11) (r2 := 0) (r3 := 0) rfl (by omega) (fun (q16 : (h11 236 8) ≠ 0) => ?_) (fun (q16 : ¬ ((h11 236 8) ≠ 0)) => by exfalso; omega)
      refine wi_iconst (n := 0) (nx := 12) (r1 := 0) (r2 := 0) (r3 := 0) rfl ?_
      refine wi_zreturn (nx := 13) (r1 := 0) (r2 := 0) (r3 := 0) rfl rfl (by omega) ?_
      refine wk_i ?_
      refine wi_if (cd := .ne) (nx := 55) (r1 := 56) (r2 := 0) (r3 := 0) rfl (by omega) (fun (q17 : 0 ≠ 0) => by exfalso; omega) (fun (q17 : ¬ (0 ≠ 0)) => ?_)
      refine wi_return (nx := 56) (r1 := 0) (r2 := 0) (r3 := 0) rfl rfl ?_
      have e18 : h11 236 4 = h 236 4 := (u11 236 4 rfl)
      have e19 : h11 236 6 = h 236 6 := (u11 236 6 rfl)
      have e20 : h11 236 42 = h 236 42 := (u11 236 42 rfl)
      have e21 : h11 236 44 = h 236 44 := (u11 236 44 rfl)
      have e22 : h11 236 43 = h 236 43 := (u11 236 43 rfl)
      exact k h11 g11 F12 (show (h 236 4) ≤ (h11 236 4) by omega) (show (h11 236 4) ≤ (h 236 3) by omega) (show 1 ≤ (h11 236 8) ∨ (h11 236 6) = 0 ∨ (h 236 4) + 1 ≤ (h11 236 4) by omega) (show 1 ≤ (h11 236 8) ∨ (h11 236 42) + (h11 236 44) ≤ 2 * (h11 236 43) by omega) (fun e => absurd e (by omega))
    ·
      refine wi_aload_n (i := 0) (x := 236) (nx := 44) (r1 := 0) (r2 := 0) (r3 := 0) rfl rfl ?_
      refine wi_iconst (n := 5) (nx := 45) (r1 := 0) (r2 := 0) (r3 := 0) rfl ?_
      refine wr_V (k0 := 236) (rest := []) (as := [.ref 236, vi 5]) (nx := 48) (r1 := 224) (r2 := 1) (r3 := 11) rfl rfl rfl (of_decide_eq_true rfl) rfl rfl (by decide) rfl rfl (of_decide_eq_true rfl) (of_decide_eq_true rfl) ?_
      refine ct_224_236 hcr  g11 5 (by omega)  (fun h16 g16 u16 (p16_0 : 1 ≤ (h16 236 8)) => ?_)
      have F17 := F12.then (by decide +kernel) u16
      have b18 := gi_b (lo := 0) (hi := 5) g16 236 8 rfl
      refine wk_n ?_
      refine wi_aload_n (i := 0) (x := 236) (nx := 49) (r1 := 0) (r2 := 0) (r3 := 0) rfl rfl ?_
      refine wr_V (k0 := 236) (rest := []) (as := [.ref 236]) (nx := 52) (r1 := 219) (r2 := 0) (r3 := 11) rfl rfl rfl (of_decide_eq_true rfl) rfl rfl (by decide) rfl rfl (of_decide_eq_true rfl) (of_decide_eq_true rfl) ?_
      refine wi_aload_n (i := 0) (x := 236) (nx := 1) (r1 := 0) (r2 := 0) (r3 := 0) rfl rfl ?_
      refine wr_gi0 (k0 := 236) (x := h16 236 8) (nx := 4) (r1 := 11) (r2 := 8) (r3 := 0) rfl rfl (by decide) rfl ⟨rfl, rfl⟩ rfl rfl ?_
      refine wi_if (cd := .ne) (nx := 7) (r1 := 11) (r2 := 0) (r3 := 0) rfl (by omega) (fun (q19 : (h16 236 8) ≠ 0) => ?_) (fun (q19 : ¬ ((h16 236 8) ≠ 0)) => by exfalso; omega)
      refine wi_iconst (n := 0) (nx := 12) (r1 := 0) (r2 := 0) (r3 := 0) rfl ?_
      refine wi_zreturn (nx := 13) (r1 := 0) (r2 := 0) (r3 := 0) rfl rfl (by omega) ?_
      refine wk_i ?_
      refine wi_if (cd := .ne) (nx := 55) (r1 := 56) (r2 := 0) (r3 := 0) rfl (by omega) (fun (q20 : 0 ≠ 0) => by exfalso; omega) (fun (q20 : ¬ (0 ≠ 0)) => ?_)
      refine wi_return (nx := 56) (r1 := 0) (r2 := 0) (r3 := 0) rfl rfl ?_
      have e21 : h16 236 4 = h 236 4 := ((u16 236 4 rfl).trans (u11 236 4 rfl))
      have e22 : h16 236 6 = h 236 6 := ((u16 236 6 rfl).trans (u11 236 6 rfl))
      have e23 : h16 236 42 = h 236 42 := ((u16 236 42 rfl).trans (u11 236 42 rfl))
      have e24 : h16 236 44 = h 236 44 := ((u16 236 44 rfl).trans (u11 236 44 rfl))
      have e25 : h16 236 43 = h 236 43 := ((u16 236 43 rfl).trans (u11 236 43 rfl))
      exact k h16 g16 F17 (show (h 236 4) ≤ (h16 236 4) by omega) (show (h16 236 4) ≤ (h 236 3) by omega) (show 1 ≤ (h16 236 8) ∨ (h16 236 6) = 0 ∨ (h 236 4) + 1 ≤ (h16 236 4) by omega) (show 1 ≤ (h16 236 8) ∨ (h16 236 42) + (h16 236 44) ≤ 2 * (h16 236 43) by omega) (fun e => absurd e (by omega))
-- method 338: Model.closes()V
set_option maxRecDepth 100000 in
set_option maxHeartbeats 100000000 in
theorem ct_338_236 {L : Nat} {xs : Nat → Int32} {d b c : Nat} {h : hp} {cr : Nat → Nat → Option Nat} {Q : hp_Q} (hcr : CR cr)  (g : GI h)   (pp0 : h 236 4 ≤ h 236 3) (pp1 : 1 ≤ h 236 8 ∨ h 236 42 + h 236 44 ≤ 2 * h 236 43) (xq0 : h 236 8 = 0 → WP (h 253) (h 236 42) (h 236 44)) (k : ∀ (h2 : hp) , GI h2 → FR [(253, 253, none), (254, 254, none), (236, 236, some (4, 4)), (236, 236, some (5, 5)), (236, 236, some (6, 6)), (236, 236, some (7, 7)), (236, 236, some (8, 8)), (236, 236, some (9, 9)), (236, 236, some (12, 12)), (236, 236, some (42, 42)), (236, 236, some (44, 44))] h h2 → (h 236 4 ≤ h2 236 4) → (h2 236 4 ≤ h 236 3) → (1 ≤ h2 236 8 ∨ h2 236 42 + h2 236 44 ≤ 2 * h2 236 43) → (h2 236 8 = 0 → WP (h2 253) (h2 236 42) (h2 236 44)) → Q (.inl none) (hp_w h2 cr) b c) : wp (md_xa (L, xs)) (d + 3) 338 (0, [(0, .ref 236)], [], hp_w h cr, b, c) Q := by
  have F0 : FR [(253, 253, none), (254, 254, none), (236, 236, some (4, 4)), (236, 236, some (5, 5)), (236, 236, some (6, 6)), (236, 236, some (7, 7)), (236, 236, some (8, 8)), (236, 236, some (9, 9)), (236, 236, some (12, 12)), (236, 236, some (42, 42)), (236, 236, some (44, 44))] h h := FR.refl
  have b1 := gi_b (lo := 0) (hi := 800) g 236 4 rfl
  have b2 := gi_b (lo := 0) (hi := 800) g 236 3 rfl
  have b3 := gi_b (lo := 0) (hi := 5) g 236 8 rfl
  have b4 := gi_b (lo := 0) (hi := 80) g 236 42 rfl
  have b5 := gi_b (lo := 0) (hi := 2) g 236 44 rfl
  have b6 := gi_b (lo := 0) (hi := 40) g 236 43 rfl
  refine wl_0 (fun h7 => GI h7 ∧ FR [(253, 253, none), (254, 254, none), (236, 236, some (4, 4)), (236, 236, some (5, 5)), (236, 236, some (6, 6)), (236, 236, some (7, 7)), (236, 236, some (8, 8)), (236, 236, some (9, 9)), (236, 236, some (12, 12)), (236, 236, some (42, 42)), (236, 236, some (44, 44))] h h7 ∧ FR [(253, 253, none), (254, 254, none), (236, 236, some (4, 4)), (236, 236, some (5, 5)), (236, 236, some (6, 6)), (236, 236, some (7, 7)), (236, 236, some (8, 8)), (236, 236, some (9, 9)), (236, 236, some (12, 12)), (236, 236, some (42, 42)), (236, 236, some (44, 44))] h h7 ∧ (((h7 236 4) ≤ (h7 236 3)) ∧ ((h 236 4) ≤ (h7 236 4)) ∧ (1 ≤ (h7 236 8) ∨ (h7 236 42) + (h7 236 44) ≤ 2 * (h7 236 43))) ∧ (h7 236 8 = 0 → WP (h7 253) (h7 236 42) (h7 236 44))) (fun h7 => ((h7 236 44)).toNat) (fun h7 => (0, [(0, .ref 236)], [], hp_w h7 cr, b, c)) ?_ h ⟨g, F0, FR.refl, (show ((h 236 4) ≤ (h 236 3)) ∧ ((h 236 4) ≤ (h 236 4)) ∧ (1 ≤ (h 236 8) ∨ (h 236 42) + (h 236 44) ≤ 2 * (h 236 43)) by omega), xq0⟩
  intro h7 ⟨g7, F8, u7, f7, X7_0⟩ I7
  have b9 := gi_b (lo := 0) (hi := 2) g7 236 44 rfl
  have b10 := gi_b (lo := 0) (hi := 800) g7 236 4 rfl
  have e11 : h7 236 3 = h 236 3 := (u7 236 3 rfl)
  have b12 := gi_b (lo := 0) (hi := 5) g7 236 8 rfl
  have b13 := gi_b (lo := 0) (hi := 80) g7 236 42 rfl
  have e14 : h7 236 43 = h 236 43 := (u7 236 43 rfl)
  refine wi_aload_n (i := 0) (x := 236) (nx := 1) (r1 := 0) (r2 := 0) (r3 := 0) rfl rfl ?_
  refine wr_gi0 (k0 := 236) (x := h7 236 44) (nx := 4) (r1 := 11) (r2 := 44) (r3 := 0) rfl rfl (by decide) rfl ⟨rfl, rfl⟩ rfl rfl ?_
  refine wi_if (cd := .le) (nx := 7) (r1 := 46) (r2 := 0) (r3 := 0) rfl (by omega) (fun (q15 : (h7 236 44) ≤ 0) => ?_) (fun (q15 : ¬ ((h7 236 44) ≤ 0)) => ?_)
  ·
    refine wi_return (nx := 47) (r1 := 0) (r2 := 0) (r3 := 0) rfl rfl ?_
    have q16 : h7 253 = h7 253 := funext (fun i => rfl)
    exact k h7 g7 F8 (show (h 236 4) ≤ (h7 236 4) by omega) (show (h7 236 4) ≤ (h 236 3) by omega) (show 1 ≤ (h7 236 8) ∨ (h7 236 42) + (h7 236 44) ≤ 2 * (h7 236 43) by omega) (fun e => by rw [q16, show h7 236 42 = h7 236 42 by omega, show h7 236 44 = h7 236 44 by omega]; exact X7_0 (by omega))
  ·
    refine wi_aload_n (i := 0) (x := 236) (nx := 8) (r1 := 0) (r2 := 0) (r3 := 0) rfl rfl ?_
    refine wi_bipush (n := 41) (nx := 10) (r1 := 0) (r2 := 0) (r3 := 0) rfl (by decide) ?_
    refine wr_V (k0 := 236) (rest := []) (as := [.ref 236, vi 41]) (nx := 13) (r1 := 236) (r2 := 1) (r3 := 11) rfl rfl rfl (of_decide_eq_true rfl) rfl rfl (by decide) rfl rfl (of_decide_eq_true rfl) (of_decide_eq_true rfl) ?_
    refine wi_aload_n (i := 0) (x := 236) (nx := 1) (r1 := 0) (r2 := 0) (r3 := 0) rfl rfl ?_
    refine wr_gi0 (k0 := 236) (x := h7 236 8) (nx := 4) (r1 := 11) (r2 := 8) (r3 := 0) rfl rfl (by decide) rfl ⟨rfl, rfl⟩ rfl rfl ?_
    refine wi_if (cd := .ne) (nx := 7) (r1 := 27) (r2 := 0) (r3 := 0) rfl (by omega) (fun (q16 : (h7 236 8) ≠ 0) => ?_) (fun (q16 : ¬ ((h7 236 8) ≠ 0)) => ?_)
    ·
      refine wi_iconst (n := 0) (nx := 28) (r1 := 0) (r2 := 0) (r3 := 0) rfl ?_
      refine wi_zreturn (nx := 29) (r1 := 0) (r2 := 0) (r3 := 0) rfl rfl (by omega) ?_
      refine wk_i ?_
      refine wi_if (cd := .eq) (nx := 16) (r1 := 46) (r2 := 0) (r3 := 0) rfl (by omega) (fun (q17 : 0 = 0) => ?_) (fun (q17 : ¬ (0 = 0)) => by exfalso; omega)
      refine wi_return (nx := 47) (r1 := 0) (r2 := 0) (r3 := 0) rfl rfl ?_
      have q18 : h7 253 = h7 253 := funext (fun i => rfl)
      exact k h7 g7 F8 (show (h 236 4) ≤ (h7 236 4) by omega) (show (h7 236 4) ≤ (h 236 3) by omega) (show 1 ≤ (h7 236 8) ∨ (h7 236 42) + (h7 236 44) ≤ 2 * (h7 236 43) by omega) (fun e => by rw [q18, show h7 236 42 = h7 236 42 by omega, show h7 236 44 = h7 236 44 by omega]; exact X7_0 (by omega))
    ·
      refine wi_aload_n (i := 0) (x := 236) (nx := 8) (r1 := 0) (r2 := 0) (r3 := 0) rfl rfl ?_
      have b17 := gi_b (lo := 0) (hi := 4) g7 236 6 rfl
      refine wr_gi0 (k0 := 236) (x := h7 236 6) (nx := 11) (r1 := 11) (r2 := 6) (r3 := 0) rfl rfl (by decide) rfl ⟨rfl, rfl⟩ rfl rfl ?_
      refine wi_iconst (n := 3) (nx := 12) (r1 := 0) (r2 := 0) (r3 := 0) rfl ?_
      refine wi_icmp (cd := .ne) (nx := 15) (r1 := 27) (r2 := 0) (r3 := 0) rfl (by omega) (by omega) (fun (q18 : (h7 236 6) ≠ 3) => ?_) (fun (q18 : ¬ ((h7 236 6) ≠ 3)) => ?_)
      ·
        refine wi_iconst (n := 0) (nx := 28) (r1 := 0) (r2 := 0) (r3 := 0) rfl ?_
        refine wi_zreturn (nx := 29) (r1 := 0) (r2 := 0) (r3 := 0) rfl rfl (by omega) ?_
        refine wk_i ?_
        refine wi_if (cd := .eq) (nx := 16) (r1 := 46) (r2 := 0) (r3 := 0) rfl (by omega) (fun (q19 : 0 = 0) => ?_) (fun (q19 : ¬ (0 = 0)) => by exfalso; omega)
        refine wi_return (nx := 47) (r1 := 0) (r2 := 0) (r3 := 0) rfl rfl ?_
        have q20 : h7 253 = h7 253 := funext (fun i => rfl)
        exact k h7 g7 F8 (show (h 236 4) ≤ (h7 236 4) by omega) (show (h7 236 4) ≤ (h 236 3) by omega) (show 1 ≤ (h7 236 8) ∨ (h7 236 42) + (h7 236 44) ≤ 2 * (h7 236 43) by omega) (fun e => by rw [q20, show h7 236 42 = h7 236 42 by omega, show h7 236 44 = h7 236 44 by omega]; exact X7_0 (by omega))
      ·
        refine wi_aload_n (i := 0) (x := 236) (nx := 16) (r1 := 0) (r2 := 0) (r3 := 0) rfl rfl ?_
        have b19 := gi_b (lo := 0) (hi := 999) g7 236 7 rfl
        refine wr_gi0 (k0 := 236) (x := h7 236 7) (nx := 19) (r1 := 11) (r2 := 7) (r3 := 0) rfl rfl (by decide) rfl ⟨rfl, rfl⟩ rfl rfl ?_
        refine wi_iload_n (i := 1) (e := 41) (nx := 20) (r1 := 0) (r2 := 0) (r3 := 0) rfl rfl ?_
        refine wi_icmp (cd := .ne) (nx := 23) (r1 := 27) (r2 := 0) (r3 := 0) rfl (by omega) (by omega) (fun (q20 : (h7 236 7) ≠ 41) => ?_) (fun (q20 : ¬ ((h7 236 7) ≠ 41)) => ?_)
        ·
          refine wi_iconst (n := 0) (nx := 28) (r1 := 0) (r2 := 0) (r3 := 0) rfl ?_
          refine wi_zreturn (nx := 29) (r1 := 0) (r2 := 0) (r3 := 0) rfl rfl (by omega) ?_
          refine wk_i ?_
          refine wi_if (cd := .eq) (nx := 16) (r1 := 46) (r2 := 0) (r3 := 0) rfl (by omega) (fun (q21 : 0 = 0) => ?_) (fun (q21 : ¬ (0 = 0)) => by exfalso; omega)
          refine wi_return (nx := 47) (r1 := 0) (r2 := 0) (r3 := 0) rfl rfl ?_
          have q22 : h7 253 = h7 253 := funext (fun i => rfl)
          exact k h7 g7 F8 (show (h 236 4) ≤ (h7 236 4) by omega) (show (h7 236 4) ≤ (h 236 3) by omega) (show 1 ≤ (h7 236 8) ∨ (h7 236 42) + (h7 236 44) ≤ 2 * (h7 236 43) by omega) (fun e => by rw [q22, show h7 236 42 = h7 236 42 by omega, show h7 236 44 = h7 236 44 by omega]; exact X7_0 (by omega))
        ·
          refine wi_iconst (n := 1) (nx := 24) (r1 := 0) (r2 := 0) (r3 := 0) rfl ?_
          refine wi_goto (nx := 27) (r1 := 28) (r2 := 0) (r3 := 0) rfl ?_
          refine wi_zreturn (nx := 29) (r1 := 0) (r2 := 0) (r3 := 0) rfl rfl (by omega) ?_
          refine wk_i ?_
          refine wi_if (cd := .eq) (nx := 16) (r1 := 46) (r2 := 0) (r3 := 0) rfl (by omega) (fun (q21 : 1 = 0) => by exfalso; omega) (fun (q21 : ¬ (1 = 0)) => ?_)
          refine wi_aload_n (i := 0) (x := 236) (nx := 17) (r1 := 0) (r2 := 0) (r3 := 0) rfl rfl ?_
          refine wi_dup (nx := 18) (r1 := 0) (r2 := 0) (r3 := 0) rfl rfl ?_
          refine wr_gi0 (k0 := 236) (x := h7 236 44) (nx := 21) (r1 := 11) (r2 := 44) (r3 := 0) rfl rfl (by decide) rfl ⟨rfl, rfl⟩ rfl rfl ?_
          refine wi_iconst (n := 1) (nx := 22) (r1 := 0) (r2 := 0) (r3 := 0) rfl ?_
          refine wr_sub (nx := 23) (r1 := 0) (r2 := 0) (r3 := 0) rfl (fun e22 (fe22 : e22 = (h7 236 44) - 1) => ?_)
          refine wr_pf0 (k0 := 236) (x := e22) (bl := 0) (bh := 2) (nx := 26) (r1 := 11) (r2 := 44) (r3 := 0) rfl (by decide) rfl ⟨rfl, rfl⟩ rfl rfl g7 rfl (by omega) (fun h23 g23 w23 u23 => ?_)
          have F24 := F8.then rfl u23
          have F25 := u7.then rfl u23
          refine wi_aload_n (i := 0) (x := 236) (nx := 27) (r1 := 0) (r2 := 0) (r3 := 0) rfl rfl ?_
          refine wi_bipush (n := 8) (nx := 29) (r1 := 0) (r2 := 0) (r3 := 0) rfl (by decide) ?_
          refine wi_iconst (n := 0) (nx := 30) (r1 := 0) (r2 := 0) (r3 := 0) rfl ?_
          refine wr_V (k0 := 236) (rest := []) (as := [.ref 236, vi 8, vi 0]) (nx := 33) (r1 := 337) (r2 := 2) (r3 := 11) rfl rfl rfl (of_decide_eq_true rfl) rfl rfl (by decide) rfl rfl (of_decide_eq_true rfl) (of_decide_eq_true rfl) ?_
          refine wi_aload_n (i := 0) (x := 236) (nx := 1) (r1 := 0) (r2 := 0) (r3 := 0) rfl rfl ?_
          refine wr_V (k0 := 236) (rest := []) (as := [.ref 236]) (nx := 4) (r1 := 219) (r2 := 0) (r3 := 11) rfl rfl rfl (of_decide_eq_true rfl) rfl rfl (by decide) rfl rfl (of_decide_eq_true rfl) (of_decide_eq_true rfl) ?_
          refine wi_aload_n (i := 0) (x := 236) (nx := 1) (r1 := 0) (r2 := 0) (r3 := 0) rfl rfl ?_
          refine wr_gi0 (k0 := 236) (x := h7 236 8) (nx := 4) (r1 := 11) (r2 := 8) (r3 := 0) rfl rfl (by decide) rfl ⟨rfl, rfl⟩ rfl (u23 236 8 rfl) ?_
          refine wi_if (cd := .ne) (nx := 7) (r1 := 11) (r2 := 0) (r3 := 0) rfl (by omega) (fun (q26 : (h7 236 8) ≠ 0) => by exfalso; omega) (fun (q26 : ¬ ((h7 236 8) ≠ 0)) => ?_)
          refine wi_iconst (n := 1) (nx := 8) (r1 := 0) (r2 := 0) (r3 := 0) rfl ?_
          refine wi_goto (nx := 11) (r1 := 12) (r2 := 0) (r3 := 0) rfl ?_
          refine wi_zreturn (nx := 13) (r1 := 0) (r2 := 0) (r3 := 0) rfl rfl (by omega) ?_
          refine wk_i ?_
          refine wi_if (cd := .ne) (nx := 7) (r1 := 8) (r2 := 0) (r3 := 0) rfl (by omega) (fun (q27 : 1 ≠ 0) => ?_) (fun (q27 : ¬ (1 ≠ 0)) => by exfalso; omega)
          refine wi_aload_n (i := 0) (x := 236) (nx := 9) (r1 := 0) (r2 := 0) (r3 := 0) rfl rfl ?_
          refine wr_gr (k0 := 236) (x := 253) (nx := 12) (r1 := 11) (r2 := 37) (r3 := 0) rfl rfl (by decide) rfl ⟨rfl, rfl⟩ rfl ?_
          refine wi_aload_n (i := 0) (x := 236) (nx := 13) (r1 := 0) (r2 := 0) (r3 := 0) rfl rfl ?_
          refine wr_gi0 (k0 := 236) (x := h7 236 42) (nx := 16) (r1 := 11) (r2 := 42) (r3 := 0) rfl rfl (by decide) rfl ⟨rfl, rfl⟩ rfl (u23 236 42 rfl) ?_
          refine wi_iload_n (i := 1) (e := 8) (nx := 17) (r1 := 0) (r2 := 0) (r3 := 0) rfl rfl ?_
          obtain ⟨i28, ei28⟩ : ∃ q : Nat, (h7 236 42) = (q : Int) := ⟨(h7 236 42).toNat, by omega⟩
          refine wr_is (k0 := 253) (a := h7 236 42) (f := i28) (x := 8) (bl := 0) (bh := 8) (nx := 18) (r1 := 0) (r2 := 0) (r3 := 0) rfl (by decide) rfl (by omega) (by omega) (by decide) g23 rfl (by omega) (fun h29 g29 w29 u29 => ?_)
          have F30 := F24.then rfl (FR.rngp (lo := 253) (hi := 253) u29 (by decide))
          have F31 := F25.then rfl (FR.rngp (lo := 253) (hi := 253) u29 (by decide))
          refine wi_aload_n (i := 0) (x := 236) (nx := 19) (r1 := 0) (r2 := 0) (r3 := 0) rfl rfl ?_
          refine wr_gr (k0 := 236) (x := 254) (nx := 22) (r1 := 11) (r2 := 38) (r3 := 0) rfl rfl (by decide) rfl ⟨rfl, rfl⟩ rfl ?_
          refine wi_aload_n (i := 0) (x := 236) (nx := 23) (r1 := 0) (r2 := 0) (r3 := 0) rfl rfl ?_
          refine wr_gi0 (k0 := 236) (x := h7 236 42) (nx := 26) (r1 := 11) (r2 := 42) (r3 := 0) rfl rfl (by decide) rfl ⟨rfl, rfl⟩ rfl ((u29 236 42 (fn_a (by omega) fn_0)).trans (u23 236 42 rfl)) ?_
          refine wi_iload_n (i := 2) (e := 0) (nx := 27) (r1 := 0) (r2 := 0) (r3 := 0) rfl rfl ?_
          refine wr_is (k0 := 254) (a := h7 236 42) (f := i28) (x := 0) (bl := 0) (bh := 999) (nx := 28) (r1 := 0) (r2 := 0) (r3 := 0) rfl (by decide) rfl (by omega) (by omega) (by decide) g29 rfl (by omega) (fun h32 g32 w32 u32 => ?_)
          have F33 := F30.then rfl (FR.rngp (lo := 254) (hi := 254) u32 (by decide))
          have F34 := F31.then rfl (FR.rngp (lo := 254) (hi := 254) u32 (by decide))
          refine wi_aload_n (i := 0) (x := 236) (nx := 29) (r1 := 0) (r2 := 0) (r3 := 0) rfl rfl ?_
          refine wi_dup (nx := 30) (r1 := 0) (r2 := 0) (r3 := 0) rfl rfl ?_
          refine wr_gi0 (k0 := 236) (x := h7 236 42) (nx := 33) (r1 := 11) (r2 := 42) (r3 := 0) rfl rfl (by decide) rfl ⟨rfl, rfl⟩ rfl ((u32 236 42 (fn_a (by omega) fn_0)).trans ((u29 236 42 (fn_a (by omega) fn_0)).trans (u23 236 42 rfl))) ?_
          refine wi_iconst (n := 1) (nx := 34) (r1 := 0) (r2 := 0) (r3 := 0) rfl ?_
          refine wr_add (nx := 35) (r1 := 0) (r2 := 0) (r3 := 0) rfl (fun e35 (fe35 : e35 = (h7 236 42) + 1) => ?_)
          refine wr_pf0 (k0 := 236) (x := e35) (bl := 0) (bh := 80) (nx := 38) (r1 := 11) (r2 := 42) (r3 := 0) rfl (by decide) rfl ⟨rfl, rfl⟩ rfl rfl g32 rfl (by omega) (fun h36 g36 w36 u36 => ?_)
          have F37 := F33.then rfl u36
          have F38 := F34.then rfl u36
          refine wi_return (nx := 39) (r1 := 0) (r2 := 0) (r3 := 0) rfl rfl ?_
          refine wk_n ?_
          refine wi_aload_n (i := 0) (x := 236) (nx := 34) (r1 := 0) (r2 := 0) (r3 := 0) rfl rfl ?_
          refine wr_V (k0 := 236) (rest := []) (as := [.ref 236]) (nx := 37) (r1 := 215) (r2 := 0) (r3 := 11) rfl rfl rfl (of_decide_eq_true rfl) rfl rfl (by decide) rfl rfl (of_decide_eq_true rfl) (of_decide_eq_true rfl) ?_
          have e40 : h36 236 4 = h7 236 4 := ((u36 236 4 rfl).trans ((u32 236 4 (fn_a (by omega) fn_0)).trans ((u29 236 4 (fn_a (by omega) fn_0)).trans (u23 236 4 rfl))))
          have e41 : h36 236 3 = h 236 3 := ((u36 236 3 rfl).trans ((u32 236 3 (fn_a (by omega) fn_0)).trans ((u29 236 3 (fn_a (by omega) fn_0)).trans ((u23 236 3 rfl).trans (u7 236 3 rfl)))))
          refine ct_215_236 hcr  g36   (show (h36 236 4) ≤ (h36 236 3) by omega) (fun h39 g39 u39 (p39_0 : (h36 236 4) ≤ (h39 236 4)) (p39_1 : (h39 236 4) ≤ (h36 236 3)) (p39_2 : (h39 236 6) = 0 ∨ (h36 236 4) + 1 ≤ (h39 236 4)) => ?_)
          have F42 := F37.then (by decide +kernel) u39
          have F43 := F38.then (by decide +kernel) u39
          have b44 := gi_b (lo := 0) (hi := 800) g39 236 4 rfl
          have b45 := gi_b (lo := 0) (hi := 4) g39 236 6 rfl
          refine wk_n ?_
          refine wi_aload_n (i := 0) (x := 236) (nx := 38) (r1 := 0) (r2 := 0) (r3 := 0) rfl rfl ?_
          refine wi_bipush (n := 59) (nx := 40) (r1 := 0) (r2 := 0) (r3 := 0) rfl (by decide) ?_
          refine wr_V (k0 := 236) (rest := []) (as := [.ref 236, vi 59]) (nx := 43) (r1 := 235) (r2 := 1) (r3 := 11) rfl rfl rfl (of_decide_eq_true rfl) rfl rfl (by decide) rfl rfl (of_decide_eq_true rfl) (of_decide_eq_true rfl) ?_
          have e47 : h39 236 3 = h 236 3 := ((u39 236 3 rfl).trans ((u36 236 3 rfl).trans ((u32 236 3 (fn_a (by omega) fn_0)).trans ((u29 236 3 (fn_a (by omega) fn_0)).trans ((u23 236 3 rfl).trans (u7 236 3 rfl))))))
          refine ct_235_236 hcr  g39 59 (by omega) (show (h39 236 4) ≤ (h39 236 3) by omega) (fun h46 g46 u46 (p46_0 : (h39 236 4) ≤ (h46 236 4)) (p46_1 : (h46 236 4) ≤ (h39 236 3)) (p46_2 : 1 ≤ (h46 236 8) ∨ (h39 236 8) = 0) (p46_3 : 1 ≤ (h46 236 8) ∨ (h46 236 6) = 0 ∨ (h39 236 4) + 1 ≤ (h46 236 4)) => ?_)
          have F48 := F42.then (by decide +kernel) u46
          have F49 := F43.then (by decide +kernel) u46
          have b50 := gi_b (lo := 0) (hi := 800) g46 236 4 rfl
          have e51 : h39 236 8 = h7 236 8 := ((u39 236 8 rfl).trans ((u36 236 8 rfl).trans ((u32 236 8 (fn_a (by omega) fn_0)).trans ((u29 236 8 (fn_a (by omega) fn_0)).trans (u23 236 8 rfl)))))
          have b52 := gi_b (lo := 0) (hi := 5) g46 236 8 rfl
          have b53 := gi_b (lo := 0) (hi := 4) g46 236 6 rfl
          refine wk_n ?_
          refine wi_goto (nx := 46) (r1 := 0) (r2 := 0) (r3 := 0) rfl ?_
          have e54 : h46 236 3 = h 236 3 := ((u46 236 3 rfl).trans ((u39 236 3 rfl).trans ((u36 236 3 rfl).trans ((u32 236 3 (fn_a (by omega) fn_0)).trans ((u29 236 3 (fn_a (by omega) fn_0)).trans ((u23 236 3 rfl).trans (u7 236 3 rfl)))))))
          have e55 : h46 236 42 = e35 := ((u46 236 42 rfl).trans ((u39 236 42 rfl).trans w36))
          have e56 : h46 236 44 = e22 := ((u46 236 44 rfl).trans ((u39 236 44 rfl).trans ((u36 236 44 rfl).trans ((u32 236 44 (fn_a (by omega) fn_0)).trans ((u29 236 44 (fn_a (by omega) fn_0)).trans w23)))))
          have e57 : h46 236 43 = h 236 43 := ((u46 236 43 rfl).trans ((u39 236 43 rfl).trans ((u36 236 43 rfl).trans ((u32 236 43 (fn_a (by omega) fn_0)).trans ((u29 236 43 (fn_a (by omega) fn_0)).trans ((u23 236 43 rfl).trans (u7 236 43 rfl)))))))
          have q58 : h46 253 = h29 253 := funext (fun i => ((u46 253 i (fo_no_ok (by decide) i)).trans ((u39 253 i (fo_no_ok (by decide) i)).trans ((u36 253 i rfl).trans (u32 253 i (fn_a (by omega) fn_0))))))
          have q59 : h23 253 = h7 253 := funext (fun i => (u23 253 i rfl))
          exact I7 h46 ⟨g46, F48, F49, (show ((h46 236 4) ≤ (h46 236 3)) ∧ ((h 236 4) ≤ (h46 236 4)) ∧ (1 ≤ (h46 236 8) ∨ (h46 236 42) + (h46 236 44) ≤ 2 * (h46 236 43)) by omega), (fun e => by
              rw [q58]
              refine WP.put (S := h7 253) (n := h7 236 42) (o := h7 236 44) (X7_0 (by omega)) (by omega) (fun k hk => (u29 253 k (fn_i (by omega) fn_0)).trans (congrFun q59 k)) ?_ (by omega)
              rw [show (h7 236 42).toNat = i28 by omega, w29]
              omega)⟩ (show ((h46 236 44)).toNat < ((h7 236 44)).toNat by omega)
