-- method 134: Line.stepByRule()I
set_option maxRecDepth 100000 in
set_option maxHeartbeats 100000000 in
theorem ct_134_37 {L : Nat} {xs : Nat → Int32} {d b c : Nat} {h : hp} {cr : Nat → Nat → Option Nat} {Q : hp_Q} (hcr : CR cr)  (g : GI h)    (k : ∀ (h2 : hp) (z0 : Int) , GI h2 → FR [(37, 55, none)] h h2 → (-1 ≤ z0 ∧ z0 ≤ 3) → Q (.inl (some (vi z0))) (hp_w h2 cr) b c) : wp (md_xa (L, xs)) (d + 3) 134 (0, [(0, .ref 37)], [], hp_w h cr, b, c) Q := by
  have F0 : FR [(37, 55, none)] h h := FR.refl
  refine wi_aload_n (i := 0) (x := 37) (nx := 1) (r1 := 0) (r2 := 0) (r3 := 0) rfl rfl ?_
  refine wr_V (k0 := 37) (rest := []) (as := [.ref 37]) (nx := 4) (r1 := 135) (r2 := 0) (r3 := 4) rfl rfl rfl (of_decide_eq_true rfl) rfl rfl (by decide) rfl rfl (of_decide_eq_true rfl) (of_decide_eq_true rfl) ?_
  refine ct_135_37 hcr  g    (fun z2  (fz2 : 0 ≤ z2 ∧ z2 ≤ 1) => ?_)
  refine wk_i ?_
  refine wi_if (cd := .eq) (nx := 7) (r1 := 29) (r2 := 0) (r3 := 0) rfl (by omega) (fun (q3 : z2 = 0) => ?_) (fun (q3 : ¬ (z2 = 0)) => ?_)
  ·
    refine wi_aload_n (i := 0) (x := 37) (nx := 30) (r1 := 0) (r2 := 0) (r3 := 0) rfl rfl ?_
    have b4 := gi_b (lo := 0) (hi := 12) g 37 7 rfl
    refine wr_gi0 (k0 := 37) (x := h 37 7) (nx := 33) (r1 := 4) (r2 := 7) (r3 := 0) rfl rfl (by decide) rfl ⟨rfl, rfl⟩ rfl rfl ?_
    refine wi_aload_n (i := 0) (x := 37) (nx := 34) (r1 := 0) (r2 := 0) (r3 := 0) rfl rfl ?_
    refine wr_gr (k0 := 37) (x := 3) (nx := 37) (r1 := 4) (r2 := 0) (r3 := 0) rfl rfl (by decide) rfl ⟨rfl, rfl⟩ rfl ?_
    have b5 := gi_b (lo := 0) (hi := 12) g 3 2 rfl
    refine wr_gi0 (k0 := 3) (x := h 3 2) (nx := 40) (r1 := 2) (r2 := 2) (r3 := 0) rfl rfl (by decide) rfl ⟨rfl, rfl⟩ rfl rfl ?_
    refine wi_icmp (cd := .ge) (nx := 43) (r1 := 61) (r2 := 0) (r3 := 0) rfl (by omega) (by omega) (fun (q6 : (h 3 2) ≤ (h 37 7)) => ?_) (fun (q6 : ¬ ((h 3 2) ≤ (h 37 7))) => ?_)
    ·
      refine wi_aload_n (i := 0) (x := 37) (nx := 62) (r1 := 0) (r2 := 0) (r3 := 0) rfl rfl ?_
      refine wi_aload_n (i := 0) (x := 37) (nx := 63) (r1 := 0) (r2 := 0) (r3 := 0) rfl rfl ?_
      refine wr_V (k0 := 37) (rest := [.ref 37]) (as := [.ref 37]) (nx := 66) (r1 := 140) (r2 := 0) (r3 := 4) rfl rfl rfl (of_decide_eq_true rfl) rfl rfl (by decide) rfl rfl (of_decide_eq_true rfl) (of_decide_eq_true rfl) ?_
      refine ct_140_37 hcr  g    (fun z8  (fz8 : -1 ≤ z8 ∧ z8 ≤ 3) => ?_)
      refine wk_i ?_
      refine wr_V (k0 := 37) (rest := []) (as := [.ref 37, vi z8]) (nx := 69) (r1 := 142) (r2 := 1) (r3 := 4) rfl rfl rfl (of_decide_eq_true rfl) rfl rfl (by decide) rfl rfl (of_decide_eq_true rfl) (of_decide_eq_true rfl) ?_
      refine ct_142_37 hcr  g z8 (by omega)  (fun h9 z10 g9 u9 (fz10 : -1 ≤ z10 ∧ z10 ≤ 11) => ?_)
      have F11 := F0.then (by decide +kernel) u9
      refine wk_i ?_
      refine wi_iconst (n := (-1)) (nx := 70) (r1 := 0) (r2 := 0) (r3 := 0) rfl ?_
      refine wi_icmp (cd := .eq) (nx := 73) (r1 := 75) (r2 := 0) (r3 := 0) rfl (by omega) (by omega) (fun (q12 : z10 = (-1)) => ?_) (fun (q12 : ¬ (z10 = (-1))) => ?_)
      ·
        refine wi_aload_n (i := 0) (x := 37) (nx := 76) (r1 := 0) (r2 := 0) (r3 := 0) rfl rfl ?_
        refine wr_gr (k0 := 37) (x := 41) (nx := 79) (r1 := 4) (r2 := 4) (r3 := 0) rfl rfl (by decide) rfl ⟨rfl, rfl⟩ rfl ?_
        have b13 := gi_b (lo := 0) (hi := 12) g9 41 1 rfl
        refine wr_gi0 (k0 := 41) (x := h9 41 1) (nx := 82) (r1 := 5) (r2 := 1) (r3 := 0) rfl rfl (by decide) rfl ⟨rfl, rfl⟩ rfl rfl ?_
        refine wi_if (cd := .le) (nx := 85) (r1 := 97) (r2 := 0) (r3 := 0) rfl (by omega) (fun (q14 : (h9 41 1) ≤ 0) => ?_) (fun (q14 : ¬ ((h9 41 1) ≤ 0)) => ?_)
        ·
          refine wi_iconst (n := (-1)) (nx := 98) (r1 := 0) (r2 := 0) (r3 := 0) rfl ?_
          refine wi_ireturn (nx := 99) (r1 := 0) (r2 := 0) (r3 := 0) rfl rfl ?_
          exact k h9 (-1) g9 F11 (by omega)
        ·
          refine wi_aload_n (i := 0) (x := 37) (nx := 86) (r1 := 0) (r2 := 0) (r3 := 0) rfl rfl ?_
          refine wr_V (k0 := 37) (rest := []) (as := [.ref 37]) (nx := 89) (r1 := 133) (r2 := 0) (r3 := 4) rfl rfl rfl (of_decide_eq_true rfl) rfl rfl (by decide) rfl rfl (of_decide_eq_true rfl) (of_decide_eq_true rfl) ?_
          refine ct_133_37 hcr  g9    (fun h15 z16 g15 u15 (fz16 : -2147483647 ≤ z16 ∧ z16 ≤ 9999) => ?_)
          have F17 := F11.then (by decide +kernel) u15
          refine wk_i ?_
          refine wi_iconst (n := (-1)) (nx := 90) (r1 := 0) (r2 := 0) (r3 := 0) rfl ?_
          refine wi_icmp (cd := .eq) (nx := 93) (r1 := 97) (r2 := 0) (r3 := 0) rfl (by omega) (by omega) (fun (q18 : z16 = (-1)) => ?_) (fun (q18 : ¬ (z16 = (-1))) => ?_)
          ·
            refine wi_iconst (n := (-1)) (nx := 98) (r1 := 0) (r2 := 0) (r3 := 0) rfl ?_
            refine wi_ireturn (nx := 99) (r1 := 0) (r2 := 0) (r3 := 0) rfl rfl ?_
            exact k h15 (-1) g15 F17 (by omega)
          ·
            refine wi_iconst (n := 3) (nx := 94) (r1 := 0) (r2 := 0) (r3 := 0) rfl ?_
            refine wi_goto (nx := 97) (r1 := 98) (r2 := 0) (r3 := 0) rfl ?_
            refine wi_ireturn (nx := 99) (r1 := 0) (r2 := 0) (r3 := 0) rfl rfl ?_
            exact k h15 3 g15 F17 (by omega)
      ·
        refine wi_iconst (n := 2) (nx := 74) (r1 := 0) (r2 := 0) (r3 := 0) rfl ?_
        refine wi_ireturn (nx := 75) (r1 := 0) (r2 := 0) (r3 := 0) rfl rfl ?_
        exact k h9 2 g9 F11 (by omega)
    ·
      refine wi_aload_n (i := 0) (x := 37) (nx := 44) (r1 := 0) (r2 := 0) (r3 := 0) rfl rfl ?_
      refine wi_aload_n (i := 0) (x := 37) (nx := 45) (r1 := 0) (r2 := 0) (r3 := 0) rfl rfl ?_
      refine wi_aload_n (i := 0) (x := 37) (nx := 46) (r1 := 0) (r2 := 0) (r3 := 0) rfl rfl ?_
      refine wr_gi0 (k0 := 37) (x := h 37 7) (nx := 49) (r1 := 4) (r2 := 7) (r3 := 0) rfl rfl (by decide) rfl ⟨rfl, rfl⟩ rfl rfl ?_
      refine wr_V (k0 := 37) (rest := [.ref 37]) (as := [.ref 37, vi (h 37 7)]) (nx := 52) (r1 := 136) (r2 := 1) (r3 := 4) rfl rfl rfl (of_decide_eq_true rfl) rfl rfl (by decide) rfl rfl (of_decide_eq_true rfl) (of_decide_eq_true rfl) ?_
      refine ct_136_37 hcr  g (h 37 7) (by omega)  (fun z8  (fz8 : -1 ≤ z8 ∧ z8 ≤ 3) => ?_)
      refine wk_i ?_
      refine wr_V (k0 := 37) (rest := []) (as := [.ref 37, vi z8]) (nx := 55) (r1 := 139) (r2 := 1) (r3 := 4) rfl rfl rfl (of_decide_eq_true rfl) rfl rfl (by decide) rfl rfl (of_decide_eq_true rfl) (of_decide_eq_true rfl) ?_
      refine ct_139_37 hcr  g z8 (by omega)  (fun h9 z10 g9 u9 (fz10 : -1 ≤ z10 ∧ z10 ≤ 11) => ?_)
      have F11 := F0.then (by decide +kernel) u9
      refine wk_i ?_
      refine wi_iconst (n := (-1)) (nx := 56) (r1 := 0) (r2 := 0) (r3 := 0) rfl ?_
      refine wi_icmp (cd := .eq) (nx := 59) (r1 := 61) (r2 := 0) (r3 := 0) rfl (by omega) (by omega) (fun (q12 : z10 = (-1)) => ?_) (fun (q12 : ¬ (z10 = (-1))) => ?_)
      ·
        refine wi_aload_n (i := 0) (x := 37) (nx := 62) (r1 := 0) (r2 := 0) (r3 := 0) rfl rfl ?_
        refine wi_aload_n (i := 0) (x := 37) (nx := 63) (r1 := 0) (r2 := 0) (r3 := 0) rfl rfl ?_
        refine wr_V (k0 := 37) (rest := [.ref 37]) (as := [.ref 37]) (nx := 66) (r1 := 140) (r2 := 0) (r3 := 4) rfl rfl rfl (of_decide_eq_true rfl) rfl rfl (by decide) rfl rfl (of_decide_eq_true rfl) (of_decide_eq_true rfl) ?_
        refine ct_140_37 hcr  g9    (fun z14  (fz14 : -1 ≤ z14 ∧ z14 ≤ 3) => ?_)
        refine wk_i ?_
        refine wr_V (k0 := 37) (rest := []) (as := [.ref 37, vi z14]) (nx := 69) (r1 := 142) (r2 := 1) (r3 := 4) rfl rfl rfl (of_decide_eq_true rfl) rfl rfl (by decide) rfl rfl (of_decide_eq_true rfl) (of_decide_eq_true rfl) ?_
        refine ct_142_37 hcr  g9 z14 (by omega)  (fun h15 z16 g15 u15 (fz16 : -1 ≤ z16 ∧ z16 ≤ 11) => ?_)
        have F17 := F11.then (by decide +kernel) u15
        refine wk_i ?_
        refine wi_iconst (n := (-1)) (nx := 70) (r1 := 0) (r2 := 0) (r3 := 0) rfl ?_
        refine wi_icmp (cd := .eq) (nx := 73) (r1 := 75) (r2 := 0) (r3 := 0) rfl (by omega) (by omega) (fun (q18 : z16 = (-1)) => ?_) (fun (q18 : ¬ (z16 = (-1))) => ?_)
        ·
          refine wi_aload_n (i := 0) (x := 37) (nx := 76) (r1 := 0) (r2 := 0) (r3 := 0) rfl rfl ?_
          refine wr_gr (k0 := 37) (x := 41) (nx := 79) (r1 := 4) (r2 := 4) (r3 := 0) rfl rfl (by decide) rfl ⟨rfl, rfl⟩ rfl ?_
          have b19 := gi_b (lo := 0) (hi := 12) g15 41 1 rfl
          refine wr_gi0 (k0 := 41) (x := h15 41 1) (nx := 82) (r1 := 5) (r2 := 1) (r3 := 0) rfl rfl (by decide) rfl ⟨rfl, rfl⟩ rfl rfl ?_
          refine wi_if (cd := .le) (nx := 85) (r1 := 97) (r2 := 0) (r3 := 0) rfl (by omega) (fun (q20 : (h15 41 1) ≤ 0) => ?_) (fun (q20 : ¬ ((h15 41 1) ≤ 0)) => ?_)
          ·
            refine wi_iconst (n := (-1)) (nx := 98) (r1 := 0) (r2 := 0) (r3 := 0) rfl ?_
            refine wi_ireturn (nx := 99) (r1 := 0) (r2 := 0) (r3 := 0) rfl rfl ?_
            exact k h15 (-1) g15 F17 (by omega)
          ·
            refine wi_aload_n (i := 0) (x := 37) (nx := 86) (r1 := 0) (r2 := 0) (r3 := 0) rfl rfl ?_
            refine wr_V (k0 := 37) (rest := []) (as := [.ref 37]) (nx := 89) (r1 := 133) (r2 := 0) (r3 := 4) rfl rfl rfl (of_decide_eq_true rfl) rfl rfl (by decide) rfl rfl (of_decide_eq_true rfl) (of_decide_eq_true rfl) ?_
            refine ct_133_37 hcr  g15    (fun h21 z22 g21 u21 (fz22 : -2147483647 ≤ z22 ∧ z22 ≤ 9999) => ?_)
            have F23 := F17.then (by decide +kernel) u21
            refine wk_i ?_
            refine wi_iconst (n := (-1)) (nx := 90) (r1 := 0) (r2 := 0) (r3 := 0) rfl ?_
            refine wi_icmp (cd := .eq) (nx := 93) (r1 := 97) (r2 := 0) (r3 := 0) rfl (by omega) (by omega) (fun (q24 : z22 = (-1)) => ?_) (fun (q24 : ¬ (z22 = (-1))) => ?_)
            ·
              refine wi_iconst (n := (-1)) (nx := 98) (r1 := 0) (r2 := 0) (r3 := 0) rfl ?_
              refine wi_ireturn (nx := 99) (r1 := 0) (r2 := 0) (r3 := 0) rfl rfl ?_
              exact k h21 (-1) g21 F23 (by omega)
            ·
              refine wi_iconst (n := 3) (nx := 94) (r1 := 0) (r2 := 0) (r3 := 0) rfl ?_
              refine wi_goto (nx := 97) (r1 := 98) (r2 := 0) (r3 := 0) rfl ?_
              refine wi_ireturn (nx := 99) (r1 := 0) (r2 := 0) (r3 := 0) rfl rfl ?_
              exact k h21 3 g21 F23 (by omega)
        ·
          refine wi_iconst (n := 2) (nx := 74) (r1 := 0) (r2 := 0) (r3 := 0) rfl ?_
          refine wi_ireturn (nx := 75) (r1 := 0) (r2 := 0) (r3 := 0) rfl rfl ?_
          exact k h15 2 g15 F17 (by omega)
      ·
        refine wi_iconst (n := 1) (nx := 60) (r1 := 0) (r2 := 0) (r3 := 0) rfl ?_
        refine wi_ireturn (nx := 61) (r1 := 0) (r2 := 0) (r3 := 0) rfl rfl ?_
        exact k h9 1 g9 F11 (by omega)
  ·
    refine wi_aload_n (i := 0) (x := 37) (nx := 8) (r1 := 0) (r2 := 0) (r3 := 0) rfl rfl ?_
    refine wi_aload_n (i := 0) (x := 37) (nx := 9) (r1 := 0) (r2 := 0) (r3 := 0) rfl rfl ?_
    refine wi_aload_n (i := 0) (x := 37) (nx := 10) (r1 := 0) (r2 := 0) (r3 := 0) rfl rfl ?_
    refine wr_gr (k0 := 37) (x := 41) (nx := 13) (r1 := 4) (r2 := 4) (r3 := 0) rfl rfl (by decide) rfl ⟨rfl, rfl⟩ rfl ?_
    refine wi_iconst (n := 0) (nx := 14) (r1 := 0) (r2 := 0) (r3 := 0) rfl ?_
    refine wr_V (k0 := 41) (rest := [.ref 37, .ref 37]) (as := [.ref 41, vi 0]) (nx := 17) (r1 := 154) (r2 := 1) (r3 := 5) rfl rfl rfl (of_decide_eq_true rfl) rfl rfl (by decide) rfl rfl (of_decide_eq_true rfl) (of_decide_eq_true rfl) ?_
    refine ct_154_R hcr rw_41 g 0 (by omega)  (fun z5  (fz5 : -2147483648 ≤ z5 ∧ z5 ≤ 2147483647) => ?_)
    refine wk_i ?_
    refine wr_V (k0 := 37) (rest := [.ref 37]) (as := [.ref 37, vi z5]) (nx := 20) (r1 := 136) (r2 := 1) (r3 := 4) rfl rfl rfl (of_decide_eq_true rfl) rfl rfl (by decide) rfl rfl (of_decide_eq_true rfl) (of_decide_eq_true rfl) ?_
    refine ct_136_37 hcr  g z5 (by omega)  (fun z7  (fz7 : -1 ≤ z7 ∧ z7 ≤ 3) => ?_)
    refine wk_i ?_
    refine wr_V (k0 := 37) (rest := []) (as := [.ref 37, vi z7]) (nx := 23) (r1 := 138) (r2 := 1) (r3 := 4) rfl rfl rfl (of_decide_eq_true rfl) rfl rfl (by decide) rfl rfl (of_decide_eq_true rfl) (of_decide_eq_true rfl) ?_
    refine ct_138_37 hcr  g z7 (by omega)  (fun h8 z9 g8 u8 (fz9 : -2147483648 ≤ z9 ∧ z9 ≤ 2147483647) => ?_)
    have F10 := F0.then (by decide +kernel) u8
    refine wk_i ?_
    refine wi_iconst (n := (-1)) (nx := 24) (r1 := 0) (r2 := 0) (r3 := 0) rfl ?_
    refine wi_icmp (cd := .eq) (nx := 27) (r1 := 29) (r2 := 0) (r3 := 0) rfl (by omega) (by omega) (fun (q11 : z9 = (-1)) => ?_) (fun (q11 : ¬ (z9 = (-1))) => ?_)
    ·
      refine wi_aload_n (i := 0) (x := 37) (nx := 30) (r1 := 0) (r2 := 0) (r3 := 0) rfl rfl ?_
      have b12 := gi_b (lo := 0) (hi := 12) g 37 7 rfl
      refine wr_gi0 (k0 := 37) (x := h 37 7) (nx := 33) (r1 := 4) (r2 := 7) (r3 := 0) rfl rfl (by decide) rfl ⟨rfl, rfl⟩ rfl (u8 37 7 rfl) ?_
      refine wi_aload_n (i := 0) (x := 37) (nx := 34) (r1 := 0) (r2 := 0) (r3 := 0) rfl rfl ?_
      refine wr_gr (k0 := 37) (x := 3) (nx := 37) (r1 := 4) (r2 := 0) (r3 := 0) rfl rfl (by decide) rfl ⟨rfl, rfl⟩ rfl ?_
      have b13 := gi_b (lo := 0) (hi := 12) g 3 2 rfl
      refine wr_gi0 (k0 := 3) (x := h 3 2) (nx := 40) (r1 := 2) (r2 := 2) (r3 := 0) rfl rfl (by decide) rfl ⟨rfl, rfl⟩ rfl (u8 3 2 rfl) ?_
      refine wi_icmp (cd := .ge) (nx := 43) (r1 := 61) (r2 := 0) (r3 := 0) rfl (by omega) (by omega) (fun (q14 : (h 3 2) ≤ (h 37 7)) => ?_) (fun (q14 : ¬ ((h 3 2) ≤ (h 37 7))) => ?_)
      ·
        refine wi_aload_n (i := 0) (x := 37) (nx := 62) (r1 := 0) (r2 := 0) (r3 := 0) rfl rfl ?_
        refine wi_aload_n (i := 0) (x := 37) (nx := 63) (r1 := 0) (r2 := 0) (r3 := 0) rfl rfl ?_
        refine wr_V (k0 := 37) (rest := [.ref 37]) (as := [.ref 37]) (nx := 66) (r1 := 140) (r2 := 0) (r3 := 4) rfl rfl rfl (of_decide_eq_true rfl) rfl rfl (by decide) rfl rfl (of_decide_eq_true rfl) (of_decide_eq_true rfl) ?_
        refine ct_140_37 hcr  g8    (fun z16  (fz16 : -1 ≤ z16 ∧ z16 ≤ 3) => ?_)
        refine wk_i ?_
        refine wr_V (k0 := 37) (rest := []) (as := [.ref 37, vi z16]) (nx := 69) (r1 := 142) (r2 := 1) (r3 := 4) rfl rfl rfl (of_decide_eq_true rfl) rfl rfl (by decide) rfl rfl (of_decide_eq_true rfl) (of_decide_eq_true rfl) ?_
        refine ct_142_37 hcr  g8 z16 (by omega)  (fun h17 z18 g17 u17 (fz18 : -1 ≤ z18 ∧ z18 ≤ 11) => ?_)
        have F19 := F10.then (by decide +kernel) u17
        refine wk_i ?_
        refine wi_iconst (n := (-1)) (nx := 70) (r1 := 0) (r2 := 0) (r3 := 0) rfl ?_
        refine wi_icmp (cd := .eq) (nx := 73) (r1 := 75) (r2 := 0) (r3 := 0) rfl (by omega) (by omega) (fun (q20 : z18 = (-1)) => ?_) (fun (q20 : ¬ (z18 = (-1))) => ?_)
        ·
          refine wi_aload_n (i := 0) (x := 37) (nx := 76) (r1 := 0) (r2 := 0) (r3 := 0) rfl rfl ?_
          refine wr_gr (k0 := 37) (x := 41) (nx := 79) (r1 := 4) (r2 := 4) (r3 := 0) rfl rfl (by decide) rfl ⟨rfl, rfl⟩ rfl ?_
          have b21 := gi_b (lo := 0) (hi := 12) g17 41 1 rfl
          refine wr_gi0 (k0 := 41) (x := h17 41 1) (nx := 82) (r1 := 5) (r2 := 1) (r3 := 0) rfl rfl (by decide) rfl ⟨rfl, rfl⟩ rfl rfl ?_
          refine wi_if (cd := .le) (nx := 85) (r1 := 97) (r2 := 0) (r3 := 0) rfl (by omega) (fun (q22 : (h17 41 1) ≤ 0) => ?_) (fun (q22 : ¬ ((h17 41 1) ≤ 0)) => ?_)
          ·
            refine wi_iconst (n := (-1)) (nx := 98) (r1 := 0) (r2 := 0) (r3 := 0) rfl ?_
            refine wi_ireturn (nx := 99) (r1 := 0) (r2 := 0) (r3 := 0) rfl rfl ?_
            exact k h17 (-1) g17 F19 (by omega)
          ·
            refine wi_aload_n (i := 0) (x := 37) (nx := 86) (r1 := 0) (r2 := 0) (r3 := 0) rfl rfl ?_
            refine wr_V (k0 := 37) (rest := []) (as := [.ref 37]) (nx := 89) (r1 := 133) (r2 := 0) (r3 := 4) rfl rfl rfl (of_decide_eq_true rfl) rfl rfl (by decide) rfl rfl (of_decide_eq_true rfl) (of_decide_eq_true rfl) ?_
            refine ct_133_37 hcr  g17    (fun h23 z24 g23 u23 (fz24 : -2147483647 ≤ z24 ∧ z24 ≤ 9999) => ?_)
            have F25 := F19.then (by decide +kernel) u23
            refine wk_i ?_
            refine wi_iconst (n := (-1)) (nx := 90) (r1 := 0) (r2 := 0) (r3 := 0) rfl ?_
            refine wi_icmp (cd := .eq) (nx := 93) (r1 := 97) (r2 := 0) (r3 := 0) rfl (by omega) (by omega) (fun (q26 : z24 = (-1)) => ?_) (fun (q26 : ¬ (z24 = (-1))) => ?_)
            ·
              refine wi_iconst (n := (-1)) (nx := 98) (r1 := 0) (r2 := 0) (r3 := 0) rfl ?_
              refine wi_ireturn (nx := 99) (r1 := 0) (r2 := 0) (r3 := 0) rfl rfl ?_
              exact k h23 (-1) g23 F25 (by omega)
            ·
              refine wi_iconst (n := 3) (nx := 94) (r1 := 0) (r2 := 0) (r3 := 0) rfl ?_
              refine wi_goto (nx := 97) (r1 := 98) (r2 := 0) (r3 := 0) rfl ?_
              refine wi_ireturn (nx := 99) (r1 := 0) (r2 := 0) (r3 := 0) rfl rfl ?_
              exact k h23 3 g23 F25 (by omega)
        ·
          refine wi_iconst (n := 2) (nx := 74) (r1 := 0) (r2 := 0) (r3 := 0) rfl ?_
          refine wi_ireturn (nx := 75) (r1 := 0) (r2 := 0) (r3 := 0) rfl rfl ?_
          exact k h17 2 g17 F19 (by omega)
      ·
        refine wi_aload_n (i := 0) (x := 37) (nx := 44) (r1 := 0) (r2 := 0) (r3 := 0) rfl rfl ?_
        refine wi_aload_n (i := 0) (x := 37) (nx := 45) (r1 := 0) (r2 := 0) (r3 := 0) rfl rfl ?_
        refine wi_aload_n (i := 0) (x := 37) (nx := 46) (r1 := 0) (r2 := 0) (r3 := 0) rfl rfl ?_
        refine wr_gi0 (k0 := 37) (x := h 37 7) (nx := 49) (r1 := 4) (r2 := 7) (r3 := 0) rfl rfl (by decide) rfl ⟨rfl, rfl⟩ rfl (u8 37 7 rfl) ?_
        refine wr_V (k0 := 37) (rest := [.ref 37]) (as := [.ref 37, vi (h 37 7)]) (nx := 52) (r1 := 136) (r2 := 1) (r3 := 4) rfl rfl rfl (of_decide_eq_true rfl) rfl rfl (by decide) rfl rfl (of_decide_eq_true rfl) (of_decide_eq_true rfl) ?_
        refine ct_136_37 hcr  g8 (h 37 7) (by omega)  (fun z16  (fz16 : -1 ≤ z16 ∧ z16 ≤ 3) => ?_)
        refine wk_i ?_
        refine wr_V (k0 := 37) (rest := []) (as := [.ref 37, vi z16]) (nx := 55) (r1 := 139) (r2 := 1) (r3 := 4) rfl rfl rfl (of_decide_eq_true rfl) rfl rfl (by decide) rfl rfl (of_decide_eq_true rfl) (of_decide_eq_true rfl) ?_
        refine ct_139_37 hcr  g8 z16 (by omega)  (fun h17 z18 g17 u17 (fz18 : -1 ≤ z18 ∧ z18 ≤ 11) => ?_)
        have F19 := F10.then (by decide +kernel) u17
        refine wk_i ?_
        refine wi_iconst (n := (-1)) (nx := 56) (r1 := 0) (r2 := 0) (r3 := 0) rfl ?_
        refine wi_icmp (cd := .eq) (nx := 59) (r1 := 61) (r2 := 0) (r3 := 0) rfl (by omega) (by omega) (fun (q20 : z18 = (-1)) => ?_) (fun (q20 : ¬ (z18 = (-1))) => ?_)
        ·
          refine wi_aload_n (i := 0) (x := 37) (nx := 62) (r1 := 0) (r2 := 0) (r3 := 0) rfl rfl ?_
          refine wi_aload_n (i := 0) (x := 37) (nx := 63) (r1 := 0) (r2 := 0) (r3 := 0) rfl rfl ?_
          refine wr_V (k0 := 37) (rest := [.ref 37]) (as := [.ref 37]) (nx := 66) (r1 := 140) (r2 := 0) (r3 := 4) rfl rfl rfl (of_decide_eq_true rfl) rfl rfl (by decide) rfl rfl (of_decide_eq_true rfl) (of_decide_eq_true rfl) ?_
          refine ct_140_37 hcr  g17    (fun z22  (fz22 : -1 ≤ z22 ∧ z22 ≤ 3) => ?_)
          refine wk_i ?_
          refine wr_V (k0 := 37) (rest := []) (as := [.ref 37, vi z22]) (nx := 69) (r1 := 142) (r2 := 1) (r3 := 4) rfl rfl rfl (of_decide_eq_true rfl) rfl rfl (by decide) rfl rfl (of_decide_eq_true rfl) (of_decide_eq_true rfl) ?_
          refine ct_142_37 hcr  g17 z22 (by omega)  (fun h23 z24 g23 u23 (fz24 : -1 ≤ z24 ∧ z24 ≤ 11) => ?_)
          have F25 := F19.then (by decide +kernel) u23
          refine wk_i ?_
          refine wi_iconst (n := (-1)) (nx := 70) (r1 := 0) (r2 := 0) (r3 := 0) rfl ?_
          refine wi_icmp (cd := .eq) (nx := 73) (r1 := 75) (r2 := 0) (r3 := 0) rfl (by omega) (by omega) (fun (q26 : z24 = (-1)) => ?_) (fun (q26 : ¬ (z24 = (-1))) => ?_)
          ·
            refine wi_aload_n (i := 0) (x := 37) (nx := 76) (r1 := 0) (r2 := 0) (r3 := 0) rfl rfl ?_
            refine wr_gr (k0 := 37) (x := 41) (nx := 79) (r1 := 4) (r2 := 4) (r3 := 0) rfl rfl (by decide) rfl ⟨rfl, rfl⟩ rfl ?_
            have b27 := gi_b (lo := 0) (hi := 12) g23 41 1 rfl
            refine wr_gi0 (k0 := 41) (x := h23 41 1) (nx := 82) (r1 := 5) (r2 := 1) (r3 := 0) rfl rfl (by decide) rfl ⟨rfl, rfl⟩ rfl rfl ?_
            refine wi_if (cd := .le) (nx := 85) (r1 := 97) (r2 := 0) (r3 := 0) rfl (by omega) (fun (q28 : (h23 41 1) ≤ 0) => ?_) (fun (q28 : ¬ ((h23 41 1) ≤ 0)) => ?_)
            ·
              refine wi_iconst (n := (-1)) (nx := 98) (r1 := 0) (r2 := 0) (r3 := 0) rfl ?_
              refine wi_ireturn (nx := 99) (r1 := 0) (r2 := 0) (r3 := 0) rfl rfl ?_
              exact k h23 (-1) g23 F25 (by omega)
            ·
              refine wi_aload_n (i := 0) (x := 37) (nx := 86) (r1 := 0) (r2 := 0) (r3 := 0) rfl rfl ?_
              refine wr_V (k0 := 37) (rest := []) (as := [.ref 37]) (nx := 89) (r1 := 133) (r2 := 0) (r3 := 4) rfl rfl rfl (of_decide_eq_true rfl) rfl rfl (by decide) rfl rfl (of_decide_eq_true rfl) (of_decide_eq_true rfl) ?_
              refine ct_133_37 hcr  g23    (fun h29 z30 g29 u29 (fz30 : -2147483647 ≤ z30 ∧ z30 ≤ 9999) => ?_)
              have F31 := F25.then (by decide +kernel) u29
              refine wk_i ?_
              refine wi_iconst (n := (-1)) (nx := 90) (r1 := 0) (r2 := 0) (r3 := 0) rfl ?_
              refine wi_icmp (cd := .eq) (nx := 93) (r1 := 97) (r2 := 0) (r3 := 0) rfl (by omega) (by omega) (fun (q32 : z30 = (-1)) => ?_) (fun (q32 : ¬ (z30 = (-1))) => ?_)
              ·
                refine wi_iconst (n := (-1)) (nx := 98) (r1 := 0) (r2 := 0) (r3 := 0) rfl ?_
                refine wi_ireturn (nx := 99) (r1 := 0) (r2 := 0) (r3 := 0) rfl rfl ?_
                exact k h29 (-1) g29 F31 (by omega)
              ·
                refine wi_iconst (n := 3) (nx := 94) (r1 := 0) (r2 := 0) (r3 := 0) rfl ?_
                refine wi_goto (nx := 97) (r1 := 98) (r2 := 0) (r3 := 0) rfl ?_
                refine wi_ireturn (nx := 99) (r1 := 0) (r2 := 0) (r3 := 0) rfl rfl ?_
                exact k h29 3 g29 F31 (by omega)
          ·
            refine wi_iconst (n := 2) (nx := 74) (r1 := 0) (r2 := 0) (r3 := 0) rfl ?_
            refine wi_ireturn (nx := 75) (r1 := 0) (r2 := 0) (r3 := 0) rfl rfl ?_
            exact k h23 2 g23 F25 (by omega)
        ·
          refine wi_iconst (n := 1) (nx := 60) (r1 := 0) (r2 := 0) (r3 := 0) rfl ?_
          refine wi_ireturn (nx := 61) (r1 := 0) (r2 := 0) (r3 := 0) rfl rfl ?_
          exact k h17 1 g17 F19 (by omega)
    ·
      refine wi_iconst (n := 0) (nx := 28) (r1 := 0) (r2 := 0) (r3 := 0) rfl ?_
      refine wi_ireturn (nx := 29) (r1 := 0) (r2 := 0) (r3 := 0) rfl rfl ?_
      exact k h8 0 g8 F10 (by omega)
-- method 83: Bank.lookAhead(II)I
set_option maxRecDepth 100000 in
set_option maxHeartbeats 100000000 in
theorem ct_83_0 {L : Nat} {xs : Nat → Int32} {d b c : Nat} {h : hp} {cr : Nat → Nat → Option Nat} {Q : hp_Q} (hcr : CR cr)  (g : GI h) (a0 : Int) (a1 : Int) (q0_ : -2147483648 ≤ a0 ∧ a0 ≤ 2147483647) (q1_ : -2147483648 ≤ a1 ∧ a1 ≤ 2147483647)  (k : ∀ (h2 : hp) (z0 : Int) , GI h2 → FR [(37, 55, none)] h h2 → (-2147483648 ≤ z0 ∧ z0 ≤ 2147483647) → Q (.inl (some (vi z0))) (hp_w h2 cr) b c) : wp (md_xa (L, xs)) (d + 4) 83 (0, [(0, .ref 0), (1, vi a0), (2, vi a1)], [], hp_w h cr, b, c) Q := by
  have F0 : FR [(37, 55, none)] h h := FR.refl
  refine wi_aload_n (i := 0) (x := 0) (nx := 1) (r1 := 0) (r2 := 0) (r3 := 0) rfl rfl ?_
  refine wr_gr (k0 := 0) (x := 37) (nx := 4) (r1 := 0) (r2 := 4) (r3 := 0) rfl rfl (by decide) rfl ⟨rfl, rfl⟩ rfl ?_
  refine wi_aload_n (i := 0) (x := 0) (nx := 5) (r1 := 0) (r2 := 0) (r3 := 0) rfl rfl ?_
  refine wr_gr (k0 := 0) (x := 18) (nx := 8) (r1 := 0) (r2 := 3) (r3 := 0) rfl rfl (by decide) rfl ⟨rfl, rfl⟩ rfl ?_
  refine wr_V (k0 := 37) (rest := []) (as := [.ref 37, .ref 18]) (nx := 11) (r1 := 132) (r2 := 1) (r3 := 4) rfl rfl rfl (of_decide_eq_true rfl) rfl rfl (by decide) rfl rfl (of_decide_eq_true rfl) (of_decide_eq_true rfl) ?_
  refine ct_132_37_18 hcr  g    (fun h1 g1 u1 y1_0 => ?_)
  have F2 := F0.then (by decide +kernel) u1
  refine wk_n ?_
  refine wi_iconst (n := 0) (nx := 12) (r1 := 0) (r2 := 0) (r3 := 0) rfl ?_
  refine wi_istore_n (i := 3) (e := 0) (lo2 := [(3, vi 0), (0, .ref 0), (1, vi a0), (2, vi a1)]) (nx := 13) (r1 := 0) (r2 := 0) (r3 := 0) rfl rfl ?_
  refine wp.lo (lo := [(0, .ref 0), (1, vi a0), (2, vi a1), (3, vi 0)]) ⟨rfl, rfl, rfl, rfl, trivial⟩ rfl ?_
  refine wl_1 (fun x3 h4 => GI h4 ∧ FR [(37, 55, none)] h h4 ∧ FR [(37, 55, none)] h1 h4 ∧ ((0 ≤ x3 ∧ x3 ≤ 2147483647))) (fun x3 h4 => ((2147483647 : Int) + 1 - x3).toNat) (fun x3 h4 => (13, [(0, .ref 0), (1, vi a0), (2, vi a1), (3, vi x3)], [], hp_w h4 cr, b, c)) ?_ 0 h1 ⟨g1, F2, FR.refl, (show (0 ≤ 0 ∧ 0 ≤ 2147483647) by omega)⟩
  intro x3 h4 ⟨g4, F5, u4, f4⟩ I4
  refine wi_iload_n (i := 3) (e := x3) (nx := 14) (r1 := 0) (r2 := 0) (r3 := 0) rfl rfl ?_
  refine wi_iload_n (i := 1) (e := a0) (nx := 15) (r1 := 0) (r2 := 0) (r3 := 0) rfl rfl ?_
  refine wi_icmp (cd := .ge) (nx := 18) (r1 := 59) (r2 := 0) (r3 := 0) rfl (by omega) (by omega) (fun (q6 : a0 ≤ x3) => ?_) (fun (q6 : ¬ (a0 ≤ x3)) => ?_)
  ·
    refine wi_iload_n (i := 1) (e := a0) (nx := 60) (r1 := 0) (r2 := 0) (r3 := 0) rfl rfl ?_
    refine wi_ireturn (nx := 61) (r1 := 0) (r2 := 0) (r3 := 0) rfl rfl ?_
    exact k h4 a0 g4 F5 (by omega)
  ·
    refine wi_iload_n (i := 2) (e := a1) (nx := 19) (r1 := 0) (r2 := 0) (r3 := 0) rfl rfl ?_
    refine wi_iconst (n := (-1)) (nx := 20) (r1 := 0) (r2 := 0) (r3 := 0) rfl ?_
    refine wi_icmp (cd := .eq) (nx := 23) (r1 := 40) (r2 := 0) (r3 := 0) rfl (by omega) (by omega) (fun (q7 : a1 = (-1)) => ?_) (fun (q7 : ¬ (a1 = (-1))) => ?_)
    ·
      refine wi_aload_n (i := 0) (x := 0) (nx := 41) (r1 := 0) (r2 := 0) (r3 := 0) rfl rfl ?_
      refine wr_gr (k0 := 0) (x := 37) (nx := 44) (r1 := 0) (r2 := 4) (r3 := 0) rfl rfl (by decide) rfl ⟨rfl, rfl⟩ rfl ?_
      refine wr_V (k0 := 37) (rest := []) (as := [.ref 37]) (nx := 47) (r1 := 134) (r2 := 0) (r3 := 4) rfl rfl rfl (of_decide_eq_true rfl) rfl rfl (by decide) rfl rfl (of_decide_eq_true rfl) (of_decide_eq_true rfl) ?_
      refine ct_134_37 hcr  g4    (fun h8 z9 g8 u8 (fz9 : -1 ≤ z9 ∧ z9 ≤ 3) => ?_)
      have F10 := F5.then (by decide +kernel) u8
      have F11 := u4.then (by decide +kernel) u8
      refine wk_i ?_
      refine wi_iconst (n := (-1)) (nx := 48) (r1 := 0) (r2 := 0) (r3 := 0) rfl ?_
      refine wi_icmp (cd := .ne) (nx := 51) (r1 := 53) (r2 := 0) (r3 := 0) rfl (by omega) (by omega) (fun (q12 : z9 ≠ (-1)) => ?_) (fun (q12 : ¬ (z9 ≠ (-1))) => ?_)
      ·
        refine wr_iinc (i := 3) (n := 1) (v := x3) (fun e13 => [(3, vi e13), (0, .ref 0), (1, vi a0), (2, vi a1)]) (nx := 56) (r1 := 0) (r2 := 0) (r3 := 0) rfl rfl (fun _ => rfl) (fun e13 (fe13 : e13 = x3 + 1) => ?_)
        refine wi_goto (nx := 59) (r1 := 13) (r2 := 0) (r3 := 0) rfl ?_
        refine wp.lo (lo := [(0, .ref 0), (1, vi a0), (2, vi a1), (3, vi e13)]) ⟨rfl, rfl, rfl, rfl, trivial⟩ rfl ?_
        exact I4 e13 h8 ⟨g8, F10, F11, (show (0 ≤ e13 ∧ e13 ≤ 2147483647) by omega)⟩ (show ((2147483647 : Int) + 1 - e13).toNat < ((2147483647 : Int) + 1 - x3).toNat by omega)
      ·
        refine wi_iload_n (i := 3) (e := x3) (nx := 52) (r1 := 0) (r2 := 0) (r3 := 0) rfl rfl ?_
        refine wi_ireturn (nx := 53) (r1 := 0) (r2 := 0) (r3 := 0) rfl rfl ?_
        exact k h8 x3 g8 F10 (by omega)
    ·
      refine wi_aload_n (i := 0) (x := 0) (nx := 24) (r1 := 0) (r2 := 0) (r3 := 0) rfl rfl ?_
      refine wr_gr (k0 := 0) (x := 37) (nx := 27) (r1 := 0) (r2 := 4) (r3 := 0) rfl rfl (by decide) rfl ⟨rfl, rfl⟩ rfl ?_
      refine wr_gr (k0 := 37) (x := 45) (nx := 30) (r1 := 4) (r2 := 6) (r3 := 0) rfl rfl (by decide) rfl ⟨rfl, rfl⟩ rfl ?_
      refine wi_iload_n (i := 2) (e := a1) (nx := 31) (r1 := 0) (r2 := 0) (r3 := 0) rfl rfl ?_
      refine wr_V (k0 := 45) (rest := []) (as := [.ref 45, vi a1]) (nx := 34) (r1 := 159) (r2 := 1) (r3 := 5) rfl rfl rfl (of_decide_eq_true rfl) rfl rfl (by decide) rfl rfl (of_decide_eq_true rfl) (of_decide_eq_true rfl) ?_
      refine ct_159_R hcr rw_45 g4 a1 (by omega)  (fun z9  (fz9 : -1 ≤ z9 ∧ z9 ≤ 11) => ?_)
      refine wk_i ?_
      refine wi_iconst (n := (-1)) (nx := 35) (r1 := 0) (r2 := 0) (r3 := 0) rfl ?_
      refine wi_icmp (cd := .eq) (nx := 38) (r1 := 40) (r2 := 0) (r3 := 0) rfl (by omega) (by omega) (fun (q10 : z9 = (-1)) => ?_) (fun (q10 : ¬ (z9 = (-1))) => ?_)
      ·
        refine wi_aload_n (i := 0) (x := 0) (nx := 41) (r1 := 0) (r2 := 0) (r3 := 0) rfl rfl ?_
        refine wr_gr (k0 := 0) (x := 37) (nx := 44) (r1 := 0) (r2 := 4) (r3 := 0) rfl rfl (by decide) rfl ⟨rfl, rfl⟩ rfl ?_
        refine wr_V (k0 := 37) (rest := []) (as := [.ref 37]) (nx := 47) (r1 := 134) (r2 := 0) (r3 := 4) rfl rfl rfl (of_decide_eq_true rfl) rfl rfl (by decide) rfl rfl (of_decide_eq_true rfl) (of_decide_eq_true rfl) ?_
        refine ct_134_37 hcr  g4    (fun h11 z12 g11 u11 (fz12 : -1 ≤ z12 ∧ z12 ≤ 3) => ?_)
        have F13 := F5.then (by decide +kernel) u11
        have F14 := u4.then (by decide +kernel) u11
        refine wk_i ?_
        refine wi_iconst (n := (-1)) (nx := 48) (r1 := 0) (r2 := 0) (r3 := 0) rfl ?_
        refine wi_icmp (cd := .ne) (nx := 51) (r1 := 53) (r2 := 0) (r3 := 0) rfl (by omega) (by omega) (fun (q15 : z12 ≠ (-1)) => ?_) (fun (q15 : ¬ (z12 ≠ (-1))) => ?_)
        ·
          refine wr_iinc (i := 3) (n := 1) (v := x3) (fun e16 => [(3, vi e16), (0, .ref 0), (1, vi a0), (2, vi a1)]) (nx := 56) (r1 := 0) (r2 := 0) (r3 := 0) rfl rfl (fun _ => rfl) (fun e16 (fe16 : e16 = x3 + 1) => ?_)
          refine wi_goto (nx := 59) (r1 := 13) (r2 := 0) (r3 := 0) rfl ?_
          refine wp.lo (lo := [(0, .ref 0), (1, vi a0), (2, vi a1), (3, vi e16)]) ⟨rfl, rfl, rfl, rfl, trivial⟩ rfl ?_
          exact I4 e16 h11 ⟨g11, F13, F14, (show (0 ≤ e16 ∧ e16 ≤ 2147483647) by omega)⟩ (show ((2147483647 : Int) + 1 - e16).toNat < ((2147483647 : Int) + 1 - x3).toNat by omega)
        ·
          refine wi_iload_n (i := 3) (e := x3) (nx := 52) (r1 := 0) (r2 := 0) (r3 := 0) rfl rfl ?_
          refine wi_ireturn (nx := 53) (r1 := 0) (r2 := 0) (r3 := 0) rfl rfl ?_
          exact k h11 x3 g11 F13 (by omega)
      ·
        refine wi_iload_n (i := 3) (e := x3) (nx := 39) (r1 := 0) (r2 := 0) (r3 := 0) rfl rfl ?_
        refine wi_ireturn (nx := 40) (r1 := 0) (r2 := 0) (r3 := 0) rfl rfl ?_
        exact k h4 x3 g4 F5 (by omega)
-- method 81: Bank.ruleCost(I)I
set_option maxRecDepth 100000 in
set_option maxHeartbeats 100000000 in
theorem ct_81_0 {L : Nat} {xs : Nat → Int32} {d b c : Nat} {h : hp} {cr : Nat → Nat → Option Nat} {Q : hp_Q} (hcr : CR cr) (hr : 1 ≤ b ∧ 6 ≤ c)  (g : GI h) (a0 : Int) (q0_ : -2147483648 ≤ a0 ∧ a0 ≤ 2147483647)  (k : ∀ (h2 : hp) (z0 : Int) , GI h2 → FR [(37, 55, none)] h h2 → (-2147483648 ≤ z0 ∧ z0 ≤ 2147483647) → Q (.inl (some (vi z0))) (hp_w h2 cr) b c) (kx1 : ∀ (h2 : hp), GI h2 → FR [(37, 55, none)] h h2 → Q (.inr 1) (hp_w h2 cr) (b - 1) (c - 6)) : wp (md_xa (L, xs)) (d + 5) 81 (0, [(0, .ref 0), (1, vi a0)], [], hp_w h cr, b, c) Q := by
  have F0 : FR [(37, 55, none)] h h := FR.refl
  refine wi_iload_n (i := 1) (e := a0) (nx := 1) (r1 := 0) (r2 := 0) (r3 := 0) rfl rfl ?_
  refine wi_S (rest := []) (as := [vi a0]) (nx := 4) (r1 := 82) (r2 := 17) (r3 := 0) rfl rfl rfl (of_decide_eq_true rfl) rfl rfl (of_decide_eq_true rfl) (of_decide_eq_true rfl) ?_
  refine wi_iload_n (i := 0) (e := a0) (nx := 1) (r1 := 0) (r2 := 0) (r3 := 0) rfl rfl ?_
  refine wi_if (cd := .lt) (nx := 4) (r1 := 11) (r2 := 0) (r3 := 0) rfl (by omega) (fun (q1 : a0 < 0) => ?_) (fun (q1 : ¬ (a0 < 0)) => ?_)
  ·
    refine wr_throw (Ex := 1) (nx := 14) (r1 := 1) (r2 := 0) (r3 := 1) rfl (by decide) rfl hr (by decide) ?_
    refine wk_x rfl ?_
    exact kx1 h g F0
  ·
    refine wi_iload_n (i := 0) (e := a0) (nx := 5) (r1 := 0) (r2 := 0) (r3 := 0) rfl rfl ?_
    refine wi_sipush (n := 300) (nx := 8) (r1 := 0) (r2 := 0) (r3 := 0) rfl (by decide) ?_
    refine wi_icmp (cd := .le) (nx := 11) (r1 := 22) (r2 := 0) (r3 := 0) rfl (by omega) (by omega) (fun (q2 : a0 ≤ 300) => ?_) (fun (q2 : ¬ (a0 ≤ 300)) => ?_)
    ·
      refine wi_return (nx := 23) (r1 := 0) (r2 := 0) (r3 := 0) rfl rfl ?_
      refine wk_n ?_
      refine wi_aload_n (i := 0) (x := 0) (nx := 5) (r1 := 0) (r2 := 0) (r3 := 0) rfl rfl ?_
      refine wi_iload_n (i := 1) (e := a0) (nx := 6) (r1 := 0) (r2 := 0) (r3 := 0) rfl rfl ?_
      refine wi_iconst (n := (-1)) (nx := 7) (r1 := 0) (r2 := 0) (r3 := 0) rfl ?_
      refine wr_V (k0 := 0) (rest := []) (as := [.ref 0, vi a0, vi (-1)]) (nx := 10) (r1 := 83) (r2 := 2) (r3 := 0) rfl rfl rfl (of_decide_eq_true rfl) rfl rfl (by decide) rfl rfl (of_decide_eq_true rfl) (of_decide_eq_true rfl) ?_
      refine ct_83_0 hcr  g a0 (-1) (by omega) (by omega)  (fun h3 z4 g3 u3 (fz4 : -2147483648 ≤ z4 ∧ z4 ≤ 2147483647) => ?_)
      have F5 := F0.then (by decide +kernel) u3
      refine wk_i ?_
      refine wi_pop (nx := 11) (r1 := 0) (r2 := 0) (r3 := 0) rfl rfl ?_
      refine wi_aload_n (i := 0) (x := 0) (nx := 12) (r1 := 0) (r2 := 0) (r3 := 0) rfl rfl ?_
      refine wr_gr (k0 := 0) (x := 37) (nx := 15) (r1 := 0) (r2 := 4) (r3 := 0) rfl rfl (by decide) rfl ⟨rfl, rfl⟩ rfl ?_
      have b6 := gi_b (lo := -2147483648) (hi := 2147483647) g3 37 13 rfl
      refine wr_gi0 (k0 := 37) (x := h3 37 13) (nx := 18) (r1 := 4) (r2 := 13) (r3 := 0) rfl rfl (by decide) rfl ⟨rfl, rfl⟩ rfl rfl ?_
      refine wi_ireturn (nx := 19) (r1 := 0) (r2 := 0) (r3 := 0) rfl rfl ?_
      exact k h3 (h3 37 13) g3 F5 (by omega)
    ·
      refine wr_throw (Ex := 1) (nx := 14) (r1 := 1) (r2 := 0) (r3 := 1) rfl (by decide) rfl hr (by decide) ?_
      refine wk_x rfl ?_
      exact kx1 h g F0
-- method 84: Bank.ruleOut(I)I
set_option maxRecDepth 100000 in
set_option maxHeartbeats 100000000 in
theorem ct_84_0 {L : Nat} {xs : Nat → Int32} {d b c : Nat} {h : hp} {cr : Nat → Nat → Option Nat} {Q : hp_Q} (hcr : CR cr) (hr : 1 ≤ b ∧ 6 ≤ c)  (g : GI h) (a0 : Int) (q0_ : -2147483648 ≤ a0 ∧ a0 ≤ 2147483647)  (k : ∀ (h2 : hp) (z0 : Int) , GI h2 → FR [(37, 55, none)] h h2 → (0 ≤ z0 ∧ z0 ≤ 12) → Q (.inl (some (vi z0))) (hp_w h2 cr) b c) (kx1 : ∀ (h2 : hp), GI h2 → FR [(37, 55, none)] h h2 → Q (.inr 1) (hp_w h2 cr) (b - 1) (c - 6)) : wp (md_xa (L, xs)) (d + 5) 84 (0, [(0, .ref 0), (1, vi a0)], [], hp_w h cr, b, c) Q := by
  have F0 : FR [(37, 55, none)] h h := FR.refl
  refine wi_iload_n (i := 1) (e := a0) (nx := 1) (r1 := 0) (r2 := 0) (r3 := 0) rfl rfl ?_
  refine wi_S (rest := []) (as := [vi a0]) (nx := 4) (r1 := 82) (r2 := 17) (r3 := 0) rfl rfl rfl (of_decide_eq_true rfl) rfl rfl (of_decide_eq_true rfl) (of_decide_eq_true rfl) ?_
  refine wi_iload_n (i := 0) (e := a0) (nx := 1) (r1 := 0) (r2 := 0) (r3 := 0) rfl rfl ?_
  refine wi_if (cd := .lt) (nx := 4) (r1 := 11) (r2 := 0) (r3 := 0) rfl (by omega) (fun (q1 : a0 < 0) => ?_) (fun (q1 : ¬ (a0 < 0)) => ?_)
  ·
    refine wr_throw (Ex := 1) (nx := 14) (r1 := 1) (r2 := 0) (r3 := 1) rfl (by decide) rfl hr (by decide) ?_
    refine wk_x rfl ?_
    exact kx1 h g F0
  ·
    refine wi_iload_n (i := 0) (e := a0) (nx := 5) (r1 := 0) (r2 := 0) (r3 := 0) rfl rfl ?_
    refine wi_sipush (n := 300) (nx := 8) (r1 := 0) (r2 := 0) (r3 := 0) rfl (by decide) ?_
    refine wi_icmp (cd := .le) (nx := 11) (r1 := 22) (r2 := 0) (r3 := 0) rfl (by omega) (by omega) (fun (q2 : a0 ≤ 300) => ?_) (fun (q2 : ¬ (a0 ≤ 300)) => ?_)
    ·
      refine wi_return (nx := 23) (r1 := 0) (r2 := 0) (r3 := 0) rfl rfl ?_
      refine wk_n ?_
      refine wi_aload_n (i := 0) (x := 0) (nx := 5) (r1 := 0) (r2 := 0) (r3 := 0) rfl rfl ?_
      refine wi_iload_n (i := 1) (e := a0) (nx := 6) (r1 := 0) (r2 := 0) (r3 := 0) rfl rfl ?_
      refine wi_iconst (n := (-1)) (nx := 7) (r1 := 0) (r2 := 0) (r3 := 0) rfl ?_
      refine wr_V (k0 := 0) (rest := []) (as := [.ref 0, vi a0, vi (-1)]) (nx := 10) (r1 := 83) (r2 := 2) (r3 := 0) rfl rfl rfl (of_decide_eq_true rfl) rfl rfl (by decide) rfl rfl (of_decide_eq_true rfl) (of_decide_eq_true rfl) ?_
      refine ct_83_0 hcr  g a0 (-1) (by omega) (by omega)  (fun h3 z4 g3 u3 (fz4 : -2147483648 ≤ z4 ∧ z4 ≤ 2147483647) => ?_)
      have F5 := F0.then (by decide +kernel) u3
      refine wk_i ?_
      refine wi_pop (nx := 11) (r1 := 0) (r2 := 0) (r3 := 0) rfl rfl ?_
      refine wi_aload_n (i := 0) (x := 0) (nx := 12) (r1 := 0) (r2 := 0) (r3 := 0) rfl rfl ?_
      refine wr_gr (k0 := 0) (x := 37) (nx := 15) (r1 := 0) (r2 := 4) (r3 := 0) rfl rfl (by decide) rfl ⟨rfl, rfl⟩ rfl ?_
      refine wr_gr (k0 := 37) (x := 45) (nx := 18) (r1 := 4) (r2 := 6) (r3 := 0) rfl rfl (by decide) rfl ⟨rfl, rfl⟩ rfl ?_
      have b6 := gi_b (lo := 0) (hi := 12) g3 45 1 rfl
      refine wr_gi0 (k0 := 45) (x := h3 45 1) (nx := 21) (r1 := 5) (r2 := 1) (r3 := 0) rfl rfl (by decide) rfl ⟨rfl, rfl⟩ rfl rfl ?_
      refine wi_ireturn (nx := 22) (r1 := 0) (r2 := 0) (r3 := 0) rfl rfl ?_
      exact k h3 (h3 45 1) g3 F5 (by omega)
    ·
      refine wr_throw (Ex := 1) (nx := 14) (r1 := 1) (r2 := 0) (r3 := 1) rfl (by decide) rfl hr (by decide) ?_
      refine wk_x rfl ?_
      exact kx1 h g F0
-- method 39: Bank.run()I
set_option maxRecDepth 100000 in
set_option maxHeartbeats 100000000 in
theorem ct_39_0 {L : Nat} {xs : Nat → Int32} {d b c : Nat} {h : hp} {cr : Nat → Nat → Option Nat} {Q : hp_Q} (hcr : CR cr)  (g : GI h)    (k : ∀ (z0 : Int), (-2147483648 ≤ z0 ∧ z0 ≤ 2147483647) → Q (.inl (some (vi z0))) (hp_w h cr) b c) : wp (md_xa (L, xs)) d 39 (0, [(0, .ref 0)], [], hp_w h cr, b, c) Q := by
  have F0 : FR [] h h := FR.refl
  refine wi_aload_n (i := 0) (x := 0) (nx := 1) (r1 := 0) (r2 := 0) (r3 := 0) rfl rfl ?_
  refine wr_gr (k0 := 0) (x := 18) (nx := 4) (r1 := 0) (r2 := 3) (r3 := 0) rfl rfl (by decide) rfl ⟨rfl, rfl⟩ rfl ?_
  have b1 := gi_b (lo := -2147483648) (hi := 2147483647) g 18 9 rfl
  refine wr_gi0 (k0 := 18) (x := h 18 9) (nx := 7) (r1 := 4) (r2 := 9) (r3 := 0) rfl rfl (by decide) rfl ⟨rfl, rfl⟩ rfl rfl ?_
  refine wi_ireturn (nx := 8) (r1 := 0) (r2 := 0) (r3 := 0) rfl rfl ?_
  exact k (h 18 9) (by omega)
-- method 184: Script.add(LPaintBank$Word;I)V
set_option maxRecDepth 100000 in
set_option maxHeartbeats 100000000 in
theorem ct_184_68 {L : Nat} {xs : Nat → Int32} {d b c : Nat} {h : hp} {cr : Nat → Nat → Option Nat} {Q : hp_Q} (hcr : CR cr)  (g : GI h) (a0 : Int) (a1 : Int) (q0_ : 1 ≤ a0 ∧ a0 ≤ 21) (q1_ : -2147483648 ≤ a1 ∧ a1 ≤ 2147483647) (pp0 : (a0 ≠ 16 ∧ a0 ≠ 17) ∨ (0 ≤ a1 ∧ a1 ≤ 99)) (xq0 : NBc (h 69) (h 70)) (k : ∀ (h2 : hp) , GI h2 → FR [(69, 69, none), (70, 70, none), (68, 68, some (10, 10))] h h2 → (NBc (h2 69) (h2 70)) → Q (.inl none) (hp_w h2 cr) b c) : wp (md_xa (L, xs)) d 184 (0, [(0, .ref 68), (1, wv a0), (2, vi a1)], [], hp_w h cr, b, c) Q := by
  have F0 : FR [(69, 69, none), (70, 70, none), (68, 68, some (10, 10))] h h := FR.refl
  refine wi_aload_n (i := 0) (x := 68) (nx := 1) (r1 := 0) (r2 := 0) (r3 := 0) rfl rfl ?_
  have b1 := gi_b (lo := 0) (hi := 80) g 68 10 rfl
  refine wr_gi0 (k0 := 68) (x := h 68 10) (nx := 4) (r1 := 8) (r2 := 10) (r3 := 0) rfl rfl (by decide) rfl ⟨rfl, rfl⟩ rfl rfl ?_
  refine wi_aload_n (i := 0) (x := 68) (nx := 5) (r1 := 0) (r2 := 0) (r3 := 0) rfl rfl ?_
  refine wr_gr (k0 := 68) (x := 69) (nx := 8) (r1 := 8) (r2 := 4) (r3 := 0) rfl rfl (by decide) rfl ⟨rfl, rfl⟩ rfl ?_
  refine wr_al (k0 := 69) (e := 80) (nx := 9) (r1 := 0) (r2 := 0) (r3 := 0) rfl (by decide) rfl rfl ?_
  refine wi_icmp (cd := .ge) (nx := 12) (r1 := 42) (r2 := 0) (r3 := 0) rfl (by omega) (by omega) (fun (q2 : 80 ≤ (h 68 10)) => ?_) (fun (q2 : ¬ (80 ≤ (h 68 10))) => ?_)
  ·
    refine wi_return (nx := 43) (r1 := 0) (r2 := 0) (r3 := 0) rfl rfl ?_
    exact k h g F0 xq0
  ·
    refine wi_aload_n (i := 0) (x := 68) (nx := 13) (r1 := 0) (r2 := 0) (r3 := 0) rfl rfl ?_
    refine wr_gr (k0 := 68) (x := 69) (nx := 16) (r1 := 8) (r2 := 4) (r3 := 0) rfl rfl (by decide) rfl ⟨rfl, rfl⟩ rfl ?_
    refine wi_aload_n (i := 0) (x := 68) (nx := 17) (r1 := 0) (r2 := 0) (r3 := 0) rfl rfl ?_
    refine wr_gi0 (k0 := 68) (x := h 68 10) (nx := 20) (r1 := 8) (r2 := 10) (r3 := 0) rfl rfl (by decide) rfl ⟨rfl, rfl⟩ rfl rfl ?_
    refine wi_aload_n (i := 1) (x := mm_XB + (a0 : Int).toNat) (nx := 21) (r1 := 0) (r2 := 0) (r3 := 0) rfl rfl ?_
    obtain ⟨i3, ei3⟩ : ∃ q : Nat, (h 68 10) = (q : Int) := ⟨(h 68 10).toNat, by omega⟩
    refine wr_as (k0 := 69) (a := h 68 10) (f := i3) (x := a0) (bl := 1) (bh := 21) (nx := 22) (r1 := 0) (r2 := 0) (r3 := 0) rfl (by decide) rfl (by omega) (by omega) (by omega) (by decide) g rfl (by omega) (fun h4 g4 w4 u4 => ?_)
    have F5 := F0.then rfl (FR.rngp (lo := 69) (hi := 69) u4 (by decide))
    refine wi_aload_n (i := 0) (x := 68) (nx := 23) (r1 := 0) (r2 := 0) (r3 := 0) rfl rfl ?_
    refine wr_gr (k0 := 68) (x := 70) (nx := 26) (r1 := 8) (r2 := 5) (r3 := 0) rfl rfl (by decide) rfl ⟨rfl, rfl⟩ rfl ?_
    refine wi_aload_n (i := 0) (x := 68) (nx := 27) (r1 := 0) (r2 := 0) (r3 := 0) rfl rfl ?_
    refine wr_gi0 (k0 := 68) (x := h 68 10) (nx := 30) (r1 := 8) (r2 := 10) (r3 := 0) rfl rfl (by decide) rfl ⟨rfl, rfl⟩ rfl (u4 68 10 (fn_a (by omega) fn_0)) ?_
    refine wi_iload_n (i := 2) (e := a1) (nx := 31) (r1 := 0) (r2 := 0) (r3 := 0) rfl rfl ?_
    refine wr_is (k0 := 70) (a := h 68 10) (f := i3) (x := a1) (bl := -2147483648) (bh := 2147483647) (nx := 32) (r1 := 0) (r2 := 0) (r3 := 0) rfl (by decide) rfl (by omega) (by omega) (by decide) g4 rfl (by omega) (fun h6 g6 w6 u6 => ?_)
    have F7 := F5.then rfl (FR.rngp (lo := 70) (hi := 70) u6 (by decide))
    refine wi_aload_n (i := 0) (x := 68) (nx := 33) (r1 := 0) (r2 := 0) (r3 := 0) rfl rfl ?_
    refine wi_dup (nx := 34) (r1 := 0) (r2 := 0) (r3 := 0) rfl rfl ?_
    refine wr_gi0 (k0 := 68) (x := h 68 10) (nx := 37) (r1 := 8) (r2 := 10) (r3 := 0) rfl rfl (by decide) rfl ⟨rfl, rfl⟩ rfl ((u6 68 10 (fn_a (by omega) fn_0)).trans (u4 68 10 (fn_a (by omega) fn_0))) ?_
    refine wi_iconst (n := 1) (nx := 38) (r1 := 0) (r2 := 0) (r3 := 0) rfl ?_
    refine wr_add (nx := 39) (r1 := 0) (r2 := 0) (r3 := 0) rfl (fun e8 (fe8 : e8 = (h 68 10) + 1) => ?_)
    refine wr_pf0 (k0 := 68) (x := e8) (bl := 0) (bh := 80) (nx := 42) (r1 := 8) (r2 := 10) (r3 := 0) rfl (by decide) rfl ⟨rfl, rfl⟩ rfl rfl g6 rfl (by omega) (fun h9 g9 w9 u9 => ?_)
    have F10 := F7.then rfl u9
    refine wi_return (nx := 43) (r1 := 0) (r2 := 0) (r3 := 0) rfl rfl ?_
    have q11 : h9 70 = h6 70 := funext (fun i => (u9 70 i rfl))
    have q12 : h9 69 = h4 69 := funext (fun i => ((u9 69 i rfl).trans (u6 69 i (fn_a (by omega) fn_0))))
    have q13 : h4 70 = h 70 := funext (fun i => (u4 70 i (fn_a (by omega) fn_0)))
    have q14 : h 69 = h 69 := funext (fun i => rfl)
    exact k h9 g9 F10 (NBc.put (i := i3) xq0 ((congrFun q12 i3).trans w4) ((congrFun q11 i3).trans w6) (fun k e => by rw [q12, u4 69 k (fn_i (by omega) fn_0), q14]) (fun k e => by rw [q11, u6 70 k (fn_i (by omega) fn_0), q13]) (by omega))
-- method 106: Text.takeOpening()Z
set_option maxRecDepth 100000 in
set_option maxHeartbeats 100000000 in
theorem ct_106_1 {L : Nat} {xs : Nat → Int32} {d b c : Nat} {h : hp} {cr : Nat → Nat → Option Nat} {Q : hp_Q} (hcr : CR cr)  {tB : Nat → Int} {tn tp : Int} (g : GI h)   (pp0 : h 1 4 = tp) (pp1 : 0 ≤ tp) (pp2 : tp ≤ tn) (xq0 : BufC tB tn h) (k : ∀ (h2 : hp) (z0 : Int) , GI h2 → FR [(1, 1, some (2, 9))] h h2 → (0 ≤ z0 ∧ z0 ≤ 1) → ((z0 = 1 ∧ tk_kd tB tn tp = 4 ∧ h2 1 4 = tk_nx tB tn tp ∧ h2 1 2 = h 1 2 ∧ h2 1 3 = h 1 3) ∨ (z0 = 0 ∧ tk_kd tB tn tp ≠ 4 ∧ h2 1 2 = 1 ∧ h2 1 3 = tk_st tB tn tp)) → Q (.inl (some (vi z0))) (hp_w h2 cr) b c) : wp (md_xa (L, xs)) (d + 3) 106 (0, [(0, .ref 1)], [], hp_w h cr, b, c) Q := by
  have F0 : FR [(1, 1, some (2, 9))] h h := FR.refl
  have tb_1 : h 1 1 = tn := xq0.2.1
  have tb_2 : 0 ≤ tn ∧ tn ≤ 800 := xq0.2.2
  have b1 := gi_b (lo := 0) (hi := 800) g 1 4 rfl
  refine wi_aload_n (i := 0) (x := 1) (nx := 1) (r1 := 0) (r2 := 0) (r3 := 0) rfl rfl ?_
  refine wr_V (k0 := 1) (rest := []) (as := [.ref 1]) (nx := 4) (r1 := 94) (r2 := 0) (r3 := 1) rfl rfl rfl (of_decide_eq_true rfl) rfl rfl (by decide) rfl rfl (of_decide_eq_true rfl) (of_decide_eq_true rfl) ?_
  refine ct_94_1 hcr  g   (show (h 1 4) = tp by omega) (show 0 ≤ tp by omega) (show tp ≤ tn by omega) xq0 (fun h2 g2 u2 (p2_0 : (h2 1 4) = tk_nx tB tn tp) (p2_1 : (h2 1 5) = tk_kd tB tn tp) (p2_2 : (h2 1 6) = tk_st tB tn tp) (p2_3 : tk_kd tB tn tp = 1 → ((h2 1 8) = tk_lw tB tn tp ∧ (h2 1 9) = tk_wd (tk_lw tB tn tp))) (p2_4 : tk_kd tB tn tp = 2 → (h2 1 7) = tk_nb tB tn tp) => ?_)
  have F3 := F0.then (by decide +kernel) u2
  have b4 := gi_b (lo := 0) (hi := 800) g2 1 4 rfl
  have b5 := gi_b (lo := 0) (hi := 6) g2 1 5 rfl
  have b6 := gi_b (lo := 0) (hi := 800) g2 1 6 rfl
  have b7 := gi_b (lo := -9223372036854775808) (hi := 9223372036854775807) g2 1 8 rfl
  have b8 := gi_b (lo := 1) (hi := 21) g2 1 9 rfl
  have b9 := gi_b (lo := -2147483648) (hi := 2147483647) g2 1 7 rfl
  have tN10 := @tk_nx_b tB tn tp (by omega) (by omega)
  refine wk_n ?_
  refine wi_aload_n (i := 0) (x := 1) (nx := 5) (r1 := 0) (r2 := 0) (r3 := 0) rfl rfl ?_
  refine wr_gi0 (k0 := 1) (x := h2 1 5) (nx := 8) (r1 := 1) (r2 := 5) (r3 := 0) rfl rfl (by decide) rfl ⟨rfl, rfl⟩ rfl rfl ?_
  refine wi_iconst (n := 4) (nx := 9) (r1 := 0) (r2 := 0) (r3 := 0) rfl ?_
  refine wi_icmp (cd := .eq) (nx := 12) (r1 := 20) (r2 := 0) (r3 := 0) rfl (by omega) (by omega) (fun (q11 : (h2 1 5) = 4) => ?_) (fun (q11 : ¬ ((h2 1 5) = 4)) => ?_)
  ·
    refine wi_iconst (n := 1) (nx := 21) (r1 := 0) (r2 := 0) (r3 := 0) rfl ?_
    refine wi_goto (nx := 24) (r1 := 25) (r2 := 0) (r3 := 0) rfl ?_
    refine wi_zreturn (nx := 26) (r1 := 0) (r2 := 0) (r3 := 0) rfl rfl (by omega) ?_
    have b12 := gi_b (lo := -2147483648) (hi := 2147483647) g 1 2 rfl
    have e13 : h2 1 2 = h 1 2 := (u2 1 2 rfl)
    have b14 := gi_b (lo := -2147483648) (hi := 2147483647) g 1 3 rfl
    have e15 : h2 1 3 = h 1 3 := (u2 1 3 rfl)
    exact k h2 1 g2 F3 (by omega) (show (1 = 1 ∧ tk_kd tB tn tp = 4 ∧ (h2 1 4) = tk_nx tB tn tp ∧ (h2 1 2) = (h 1 2) ∧ (h2 1 3) = (h 1 3)) ∨ (1 = 0 ∧ tk_kd tB tn tp ≠ 4 ∧ (h2 1 2) = 1 ∧ (h2 1 3) = tk_st tB tn tp) by omega)
  ·
    refine wi_aload_n (i := 0) (x := 1) (nx := 13) (r1 := 0) (r2 := 0) (r3 := 0) rfl rfl ?_
    refine wi_iconst (n := 1) (nx := 14) (r1 := 0) (r2 := 0) (r3 := 0) rfl ?_
    refine wr_V (k0 := 1) (rest := []) (as := [.ref 1, vi 1]) (nx := 17) (r1 := 101) (r2 := 1) (r3 := 1) rfl rfl rfl (of_decide_eq_true rfl) rfl rfl (by decide) rfl rfl (of_decide_eq_true rfl) (of_decide_eq_true rfl) ?_
    refine ct_101_1 hcr  g2 1 (by omega)  (fun h12 z13 g12 u12 (fz13 : 0 ≤ z13 ∧ z13 ≤ 0) (p12_0 : z13 = 0) (p12_1 : (h12 1 2) = 1) (p12_2 : (h12 1 3) = (h2 1 6)) => ?_)
    have F14 := F3.then (by decide +kernel) u12
    have b15 := gi_b (lo := -2147483648) (hi := 2147483647) g12 1 2 rfl
    have b16 := gi_b (lo := -2147483648) (hi := 2147483647) g12 1 3 rfl
    refine wk_i ?_
    refine wi_if (cd := .eq) (nx := 20) (r1 := 24) (r2 := 0) (r3 := 0) rfl (by omega) (fun (q17 : z13 = 0) => ?_) (fun (q17 : ¬ (z13 = 0)) => by exfalso; omega)
    refine wi_iconst (n := 0) (nx := 25) (r1 := 0) (r2 := 0) (r3 := 0) rfl ?_
    refine wi_zreturn (nx := 26) (r1 := 0) (r2 := 0) (r3 := 0) rfl rfl (by omega) ?_
    have e18 : h12 1 4 = h2 1 4 := (u12 1 4 rfl)
    have b19 := gi_b (lo := -2147483648) (hi := 2147483647) g 1 2 rfl
    have b20 := gi_b (lo := -2147483648) (hi := 2147483647) g 1 3 rfl
    exact k h12 0 g12 F14 (by omega) (show (0 = 1 ∧ tk_kd tB tn tp = 4 ∧ (h12 1 4) = tk_nx tB tn tp ∧ (h12 1 2) = (h 1 2) ∧ (h12 1 3) = (h 1 3)) ∨ (0 = 0 ∧ tk_kd tB tn tp ≠ 4 ∧ (h12 1 2) = 1 ∧ (h12 1 3) = tk_st tB tn tp) by omega)
-- method 185: Script.readCommand()Z
set_option maxRecDepth 100000 in
set_option maxHeartbeats 100000000 in
theorem ct_185_68 {L : Nat} {xs : Nat → Int32} {d b c : Nat} {h : hp} {cr : Nat → Nat → Option Nat} {Q : hp_Q} (hcr : CR cr)  {tB : Nat → Int} {tn tp : Int} (g : GI h)   (pp0 : h 1 4 = tk_nx tB tn tp) (pp1 : h 1 6 = tk_st tB tn tp) (pp2 : h 1 5 = tk_kd tB tn tp) (pp3 : tk_kd tB tn tp = 1 → h 1 9 = tk_wd (tk_lw tB tn tp)) (pp4 : h 1 2 = 0) (pp5 : h 1 3 = -1) (pp6 : 0 ≤ tp) (pp7 : tp ≤ tn) (pp8 : tp ≤ tk_nx tB tn tp ∧ tk_nx tB tn tp ≤ tn) (pp9 : tk_kd tB tn tp ≠ 0) (xq0 : BufC tB tn h) (xq1 : NBc (h 69) (h 70)) (k : ∀ (h2 : hp) (z0 : Int) , GI h2 → FR [(69, 69, none), (70, 70, none), (72, 72, none), (1, 1, some (2, 9)), (68, 68, some (8, 10))] h h2 → (0 ≤ z0 ∧ z0 ≤ 1) → (z0 = 0 ∨ z0 = 1) → (sc_O (sc_cmd tB tn tp (h 68 8) (h 68 9)) z0 h2) → (NBc (h2 69) (h2 70)) → Q (.inl (some (vi z0))) (hp_w h2 cr) b c) : wp (md_xa (L, xs)) (d + 4) 185 (0, [(0, .ref 68)], [], hp_w h cr, b, c) Q := by
  have F0 : FR [(69, 69, none), (70, 70, none), (72, 72, none), (1, 1, some (2, 9)), (68, 68, some (8, 10))] h h := FR.refl
  have tb_1 : h 1 1 = tn := xq0.2.1
  have tb_2 : 0 ≤ tn ∧ tn ≤ 800 := xq0.2.2
  have b1 := gi_b (lo := 0) (hi := 800) g 1 4 rfl
  have b2 := gi_b (lo := 0) (hi := 800) g 1 6 rfl
  have b3 := gi_b (lo := 0) (hi := 6) g 1 5 rfl
  have b4 := gi_b (lo := 1) (hi := 21) g 1 9 rfl
  have b5 := gi_b (lo := -2147483648) (hi := 2147483647) g 1 2 rfl
  have b6 := gi_b (lo := -2147483648) (hi := 2147483647) g 1 3 rfl
  refine wi_aload_n (i := 0) (x := 68) (nx := 1) (r1 := 0) (r2 := 0) (r3 := 0) rfl rfl ?_
  refine wr_gr (k0 := 68) (x := 1) (nx := 4) (r1 := 8) (r2 := 0) (r3 := 0) rfl rfl (by decide) rfl ⟨rfl, rfl⟩ rfl ?_
  rcases (show h 1 9 = 1 ∨ h 1 9 = 2 ∨ h 1 9 = 3 ∨ h 1 9 = 4 ∨ h 1 9 = 5 ∨ h 1 9 = 6 ∨ h 1 9 = 7 ∨ h 1 9 = 8 ∨ h 1 9 = 9 ∨ h 1 9 = 10 ∨ h 1 9 = 11 ∨ h 1 9 = 12 ∨ h 1 9 = 13 ∨ h 1 9 = 14 ∨ h 1 9 = 15 ∨ h 1 9 = 16 ∨ h 1 9 = 17 ∨ h 1 9 = 18 ∨ h 1 9 = 19 ∨ h 1 9 = 20 ∨ h 1 9 = 21 by omega) with q7 | q7 | q7 | q7 | q7 | q7 | q7 | q7 | q7 | q7 | q7 | q7 | q7 | q7 | q7 | q7 | q7 | q7 | q7 | q7 | q7
  ·
    refine wr_gi3 (k0 := 1) (x := 1) (nx := 7) (r1 := 1) (r2 := 9) (r3 := 0) rfl rfl (by decide) rfl ⟨rfl, rfl⟩ rfl q7 ?_
    refine wi_astore_n (i := 1) (x := mm_XB + (1 : Int).toNat) (lo2 := [(1, wv 1), (0, .ref 68)]) (nx := 8) (r1 := 0) (r2 := 0) (r3 := 0) rfl rfl ?_
    refine wi_aload_n (i := 0) (x := 68) (nx := 9) (r1 := 0) (r2 := 0) (r3 := 0) rfl rfl ?_
    refine wr_gr (k0 := 68) (x := 1) (nx := 12) (r1 := 8) (r2 := 0) (r3 := 0) rfl rfl (by decide) rfl ⟨rfl, rfl⟩ rfl ?_
    refine wr_gi0 (k0 := 1) (x := h 1 5) (nx := 15) (r1 := 1) (r2 := 5) (r3 := 0) rfl rfl (by decide) rfl ⟨rfl, rfl⟩ rfl rfl ?_
    refine wi_iconst (n := 1) (nx := 16) (r1 := 0) (r2 := 0) (r3 := 0) rfl ?_
    refine wi_icmp (cd := .ne) (nx := 19) (r1 := 26) (r2 := 0) (r3 := 0) rfl (by omega) (by omega) (fun (q8 : (h 1 5) ≠ 1) => ?_) (fun (q8 : ¬ ((h 1 5) ≠ 1)) => ?_)
    ·
      refine wi_aload_n (i := 0) (x := 68) (nx := 27) (r1 := 0) (r2 := 0) (r3 := 0) rfl rfl ?_
      refine wr_gr (k0 := 68) (x := 1) (nx := 30) (r1 := 8) (r2 := 0) (r3 := 0) rfl rfl (by decide) rfl ⟨rfl, rfl⟩ rfl ?_
      refine wi_iconst (n := 1) (nx := 31) (r1 := 0) (r2 := 0) (r3 := 0) rfl ?_
      refine wr_V (k0 := 1) (rest := []) (as := [.ref 1, vi 1]) (nx := 34) (r1 := 101) (r2 := 1) (r3 := 1) rfl rfl rfl (of_decide_eq_true rfl) rfl rfl (by decide) rfl rfl (of_decide_eq_true rfl) (of_decide_eq_true rfl) ?_
      refine ct_101_1 hcr  g 1 (by omega)  (fun h9 z10 g9 u9 (fz10 : 0 ≤ z10 ∧ z10 ≤ 0) (p9_0 : z10 = 0) (p9_1 : (h9 1 2) = 1) (p9_2 : (h9 1 3) = (h 1 6)) => ?_)
      have F11 := F0.then (by decide +kernel) u9
      have b12 := gi_b (lo := -2147483648) (hi := 2147483647) g9 1 2 rfl
      have b13 := gi_b (lo := -2147483648) (hi := 2147483647) g9 1 3 rfl
      refine wk_i ?_
      refine wi_zreturn (nx := 35) (r1 := 0) (r2 := 0) (r3 := 0) rfl rfl (by omega) ?_
      have e14 : h9 1 4 = h 1 4 := (u9 1 4 rfl)
      have b15 := gi_b (lo := 0) (hi := 2) g 68 8 rfl
      have e16 : h9 68 8 = h 68 8 := (u9 68 8 rfl)
      have b17 := gi_b (lo := 0) (hi := 40) g 68 9 rfl
      have e18 : h9 68 9 = h 68 9 := (u9 68 9 rfl)
      have q20 : h9 69 = h 69 := funext (fun i => (u9 69 i (fo_no_ok (by decide) i)))
      have q21 : h9 70 = h 70 := funext (fun i => (u9 70 i (fo_no_ok (by decide) i)))
      have nb19 : NBc (h9 69) (h9 70) := by rw [q20, q21]; exact xq1
      exact k h9 z10 g9 F11 (by omega) (show z10 = 0 ∨ z10 = 1 by omega) (by unfold sc_cmd sc_hd sc_num sc_mk; (try dsimp only); (repeat (first | rw [if_pos (by omega)] | rw [if_neg (by omega)])); (repeat ((first | unfold sc_num | unfold sc_mk); (try dsimp only); (repeat (first | rw [if_pos (by omega)] | rw [if_neg (by omega)])))); first | exact sc_Oe (by omega) (by omega) (by omega) (by omega) | ((repeat' split) <;> (first | exact sc_Oe (by omega) (by omega) (by omega) (by omega) | (exfalso; omega)))) nb19
    ·
      refine wi_aload_n (i := 1) (x := mm_XB + (1 : Int).toNat) (nx := 20) (r1 := 0) (r2 := 0) (r3 := 0) rfl rfl ?_
      refine wr_gx (k0 := mm_XB + (1 : Int).toNat) (v := vi 0) (nx := 23) (r1 := 1) (r2 := 0) (r3 := 1) rfl (by decide) (by decide) rfl ?_
      refine wi_if (cd := .ne) (nx := 26) (r1 := 35) (r2 := 0) (r3 := 0) rfl (by omega) (fun (q9 : 0 ≠ 0) => by exfalso; omega) (fun (q9 : ¬ (0 ≠ 0)) => ?_)
      refine wi_aload_n (i := 0) (x := 68) (nx := 27) (r1 := 0) (r2 := 0) (r3 := 0) rfl rfl ?_
      refine wr_gr (k0 := 68) (x := 1) (nx := 30) (r1 := 8) (r2 := 0) (r3 := 0) rfl rfl (by decide) rfl ⟨rfl, rfl⟩ rfl ?_
      refine wi_iconst (n := 1) (nx := 31) (r1 := 0) (r2 := 0) (r3 := 0) rfl ?_
      refine wr_V (k0 := 1) (rest := []) (as := [.ref 1, vi 1]) (nx := 34) (r1 := 101) (r2 := 1) (r3 := 1) rfl rfl rfl (of_decide_eq_true rfl) rfl rfl (by decide) rfl rfl (of_decide_eq_true rfl) (of_decide_eq_true rfl) ?_
      refine ct_101_1 hcr  g 1 (by omega)  (fun h10 z11 g10 u10 (fz11 : 0 ≤ z11 ∧ z11 ≤ 0) (p10_0 : z11 = 0) (p10_1 : (h10 1 2) = 1) (p10_2 : (h10 1 3) = (h 1 6)) => ?_)
      have F12 := F0.then (by decide +kernel) u10
      have b13 := gi_b (lo := -2147483648) (hi := 2147483647) g10 1 2 rfl
      have b14 := gi_b (lo := -2147483648) (hi := 2147483647) g10 1 3 rfl
      refine wk_i ?_
      refine wi_zreturn (nx := 35) (r1 := 0) (r2 := 0) (r3 := 0) rfl rfl (by omega) ?_
      have e15 : h10 1 4 = h 1 4 := (u10 1 4 rfl)
      have b16 := gi_b (lo := 0) (hi := 2) g 68 8 rfl
      have e17 : h10 68 8 = h 68 8 := (u10 68 8 rfl)
      have b18 := gi_b (lo := 0) (hi := 40) g 68 9 rfl
      have e19 : h10 68 9 = h 68 9 := (u10 68 9 rfl)
      have q21 : h10 69 = h 69 := funext (fun i => (u10 69 i (fo_no_ok (by decide) i)))
      have q22 : h10 70 = h 70 := funext (fun i => (u10 70 i (fo_no_ok (by decide) i)))
      have nb20 : NBc (h10 69) (h10 70) := by rw [q21, q22]; exact xq1
      exact k h10 z11 g10 F12 (by omega) (show z11 = 0 ∨ z11 = 1 by omega) (by unfold sc_cmd sc_hd sc_num sc_mk; (try dsimp only); (repeat (first | rw [if_pos (by omega)] | rw [if_neg (by omega)])); (repeat ((first | unfold sc_num | unfold sc_mk); (try dsimp only); (repeat (first | rw [if_pos (by omega)] | rw [if_neg (by omega)])))); first | exact sc_Oe (by omega) (by omega) (by omega) (by omega) | ((repeat' split) <;> (first | exact sc_Oe (by omega) (by omega) (by omega) (by omega) | (exfalso; omega)))) nb20
  ·
    refine wr_gi3 (k0 := 1) (x := 2) (nx := 7) (r1 := 1) (r2 := 9) (r3 := 0) rfl rfl (by decide) rfl ⟨rfl, rfl⟩ rfl q7 ?_
    refine wi_astore_n (i := 1) (x := mm_XB + (2 : Int).toNat) (lo2 := [(1, wv 2), (0, .ref 68)]) (nx := 8) (r1 := 0) (r2 := 0) (r3 := 0) rfl rfl ?_
    refine wi_aload_n (i := 0) (x := 68) (nx := 9) (r1 := 0) (r2 := 0) (r3 := 0) rfl rfl ?_
    refine wr_gr (k0 := 68) (x := 1) (nx := 12) (r1 := 8) (r2 := 0) (r3 := 0) rfl rfl (by decide) rfl ⟨rfl, rfl⟩ rfl ?_
    refine wr_gi0 (k0 := 1) (x := h 1 5) (nx := 15) (r1 := 1) (r2 := 5) (r3 := 0) rfl rfl (by decide) rfl ⟨rfl, rfl⟩ rfl rfl ?_
    refine wi_iconst (n := 1) (nx := 16) (r1 := 0) (r2 := 0) (r3 := 0) rfl ?_
    refine wi_icmp (cd := .ne) (nx := 19) (r1 := 26) (r2 := 0) (r3 := 0) rfl (by omega) (by omega) (fun (q8 : (h 1 5) ≠ 1) => ?_) (fun (q8 : ¬ ((h 1 5) ≠ 1)) => ?_)
    ·
      refine wi_aload_n (i := 0) (x := 68) (nx := 27) (r1 := 0) (r2 := 0) (r3 := 0) rfl rfl ?_
      refine wr_gr (k0 := 68) (x := 1) (nx := 30) (r1 := 8) (r2 := 0) (r3 := 0) rfl rfl (by decide) rfl ⟨rfl, rfl⟩ rfl ?_
      refine wi_iconst (n := 1) (nx := 31) (r1 := 0) (r2 := 0) (r3 := 0) rfl ?_
      refine wr_V (k0 := 1) (rest := []) (as := [.ref 1, vi 1]) (nx := 34) (r1 := 101) (r2 := 1) (r3 := 1) rfl rfl rfl (of_decide_eq_true rfl) rfl rfl (by decide) rfl rfl (of_decide_eq_true rfl) (of_decide_eq_true rfl) ?_
      refine ct_101_1 hcr  g 1 (by omega)  (fun h9 z10 g9 u9 (fz10 : 0 ≤ z10 ∧ z10 ≤ 0) (p9_0 : z10 = 0) (p9_1 : (h9 1 2) = 1) (p9_2 : (h9 1 3) = (h 1 6)) => ?_)
      have F11 := F0.then (by decide +kernel) u9
      have b12 := gi_b (lo := -2147483648) (hi := 2147483647) g9 1 2 rfl
      have b13 := gi_b (lo := -2147483648) (hi := 2147483647) g9 1 3 rfl
      refine wk_i ?_
      refine wi_zreturn (nx := 35) (r1 := 0) (r2 := 0) (r3 := 0) rfl rfl (by omega) ?_
      have e14 : h9 1 4 = h 1 4 := (u9 1 4 rfl)
      have b15 := gi_b (lo := 0) (hi := 2) g 68 8 rfl
      have e16 : h9 68 8 = h 68 8 := (u9 68 8 rfl)
      have b17 := gi_b (lo := 0) (hi := 40) g 68 9 rfl
      have e18 : h9 68 9 = h 68 9 := (u9 68 9 rfl)
      have q20 : h9 69 = h 69 := funext (fun i => (u9 69 i (fo_no_ok (by decide) i)))
      have q21 : h9 70 = h 70 := funext (fun i => (u9 70 i (fo_no_ok (by decide) i)))
      have nb19 : NBc (h9 69) (h9 70) := by rw [q20, q21]; exact xq1
      exact k h9 z10 g9 F11 (by omega) (show z10 = 0 ∨ z10 = 1 by omega) (by unfold sc_cmd sc_hd sc_num sc_mk; (try dsimp only); (repeat (first | rw [if_pos (by omega)] | rw [if_neg (by omega)])); (repeat ((first | unfold sc_num | unfold sc_mk); (try dsimp only); (repeat (first | rw [if_pos (by omega)] | rw [if_neg (by omega)])))); first | exact sc_Oe (by omega) (by omega) (by omega) (by omega) | ((repeat' split) <;> (first | exact sc_Oe (by omega) (by omega) (by omega) (by omega) | (exfalso; omega)))) nb19
    ·
      refine wi_aload_n (i := 1) (x := mm_XB + (2 : Int).toNat) (nx := 20) (r1 := 0) (r2 := 0) (r3 := 0) rfl rfl ?_
      refine wr_gx (k0 := mm_XB + (2 : Int).toNat) (v := vi 0) (nx := 23) (r1 := 1) (r2 := 0) (r3 := 1) rfl (by decide) (by decide) rfl ?_
      refine wi_if (cd := .ne) (nx := 26) (r1 := 35) (r2 := 0) (r3 := 0) rfl (by omega) (fun (q9 : 0 ≠ 0) => by exfalso; omega) (fun (q9 : ¬ (0 ≠ 0)) => ?_)
      refine wi_aload_n (i := 0) (x := 68) (nx := 27) (r1 := 0) (r2 := 0) (r3 := 0) rfl rfl ?_
      refine wr_gr (k0 := 68) (x := 1) (nx := 30) (r1 := 8) (r2 := 0) (r3 := 0) rfl rfl (by decide) rfl ⟨rfl, rfl⟩ rfl ?_
      refine wi_iconst (n := 1) (nx := 31) (r1 := 0) (r2 := 0) (r3 := 0) rfl ?_
      refine wr_V (k0 := 1) (rest := []) (as := [.ref 1, vi 1]) (nx := 34) (r1 := 101) (r2 := 1) (r3 := 1) rfl rfl rfl (of_decide_eq_true rfl) rfl rfl (by decide) rfl rfl (of_decide_eq_true rfl) (of_decide_eq_true rfl) ?_
      refine ct_101_1 hcr  g 1 (by omega)  (fun h10 z11 g10 u10 (fz11 : 0 ≤ z11 ∧ z11 ≤ 0) (p10_0 : z11 = 0) (p10_1 : (h10 1 2) = 1) (p10_2 : (h10 1 3) = (h 1 6)) => ?_)
      have F12 := F0.then (by decide +kernel) u10
      have b13 := gi_b (lo := -2147483648) (hi := 2147483647) g10 1 2 rfl
      have b14 := gi_b (lo := -2147483648) (hi := 2147483647) g10 1 3 rfl
      refine wk_i ?_
      refine wi_zreturn (nx := 35) (r1 := 0) (r2 := 0) (r3 := 0) rfl rfl (by omega) ?_
      have e15 : h10 1 4 = h 1 4 := (u10 1 4 rfl)
      have b16 := gi_b (lo := 0) (hi := 2) g 68 8 rfl
      have e17 : h10 68 8 = h 68 8 := (u10 68 8 rfl)
      have b18 := gi_b (lo := 0) (hi := 40) g 68 9 rfl
      have e19 : h10 68 9 = h 68 9 := (u10 68 9 rfl)
      have q21 : h10 69 = h 69 := funext (fun i => (u10 69 i (fo_no_ok (by decide) i)))
      have q22 : h10 70 = h 70 := funext (fun i => (u10 70 i (fo_no_ok (by decide) i)))
      have nb20 : NBc (h10 69) (h10 70) := by rw [q21, q22]; exact xq1
      exact k h10 z11 g10 F12 (by omega) (show z11 = 0 ∨ z11 = 1 by omega) (by unfold sc_cmd sc_hd sc_num sc_mk; (try dsimp only); (repeat (first | rw [if_pos (by omega)] | rw [if_neg (by omega)])); (repeat ((first | unfold sc_num | unfold sc_mk); (try dsimp only); (repeat (first | rw [if_pos (by omega)] | rw [if_neg (by omega)])))); first | exact sc_Oe (by omega) (by omega) (by omega) (by omega) | ((repeat' split) <;> (first | exact sc_Oe (by omega) (by omega) (by omega) (by omega) | (exfalso; omega)))) nb20
  ·
    refine wr_gi3 (k0 := 1) (x := 3) (nx := 7) (r1 := 1) (r2 := 9) (r3 := 0) rfl rfl (by decide) rfl ⟨rfl, rfl⟩ rfl q7 ?_
    refine wi_astore_n (i := 1) (x := mm_XB + (3 : Int).toNat) (lo2 := [(1, wv 3), (0, .ref 68)]) (nx := 8) (r1 := 0) (r2 := 0) (r3 := 0) rfl rfl ?_
    refine wi_aload_n (i := 0) (x := 68) (nx := 9) (r1 := 0) (r2 := 0) (r3 := 0) rfl rfl ?_
    refine wr_gr (k0 := 68) (x := 1) (nx := 12) (r1 := 8) (r2 := 0) (r3 := 0) rfl rfl (by decide) rfl ⟨rfl, rfl⟩ rfl ?_
    refine wr_gi0 (k0 := 1) (x := h 1 5) (nx := 15) (r1 := 1) (r2 := 5) (r3 := 0) rfl rfl (by decide) rfl ⟨rfl, rfl⟩ rfl rfl ?_
    refine wi_iconst (n := 1) (nx := 16) (r1 := 0) (r2 := 0) (r3 := 0) rfl ?_
    refine wi_icmp (cd := .ne) (nx := 19) (r1 := 26) (r2 := 0) (r3 := 0) rfl (by omega) (by omega) (fun (q8 : (h 1 5) ≠ 1) => ?_) (fun (q8 : ¬ ((h 1 5) ≠ 1)) => ?_)
    ·
      refine wi_aload_n (i := 0) (x := 68) (nx := 27) (r1 := 0) (r2 := 0) (r3 := 0) rfl rfl ?_
      refine wr_gr (k0 := 68) (x := 1) (nx := 30) (r1 := 8) (r2 := 0) (r3 := 0) rfl rfl (by decide) rfl ⟨rfl, rfl⟩ rfl ?_
      refine wi_iconst (n := 1) (nx := 31) (r1 := 0) (r2 := 0) (r3 := 0) rfl ?_
      refine wr_V (k0 := 1) (rest := []) (as := [.ref 1, vi 1]) (nx := 34) (r1 := 101) (r2 := 1) (r3 := 1) rfl rfl rfl (of_decide_eq_true rfl) rfl rfl (by decide) rfl rfl (of_decide_eq_true rfl) (of_decide_eq_true rfl) ?_
      refine ct_101_1 hcr  g 1 (by omega)  (fun h9 z10 g9 u9 (fz10 : 0 ≤ z10 ∧ z10 ≤ 0) (p9_0 : z10 = 0) (p9_1 : (h9 1 2) = 1) (p9_2 : (h9 1 3) = (h 1 6)) => ?_)
      have F11 := F0.then (by decide +kernel) u9
      have b12 := gi_b (lo := -2147483648) (hi := 2147483647) g9 1 2 rfl
      have b13 := gi_b (lo := -2147483648) (hi := 2147483647) g9 1 3 rfl
      refine wk_i ?_
      refine wi_zreturn (nx := 35) (r1 := 0) (r2 := 0) (r3 := 0) rfl rfl (by omega) ?_
      have e14 : h9 1 4 = h 1 4 := (u9 1 4 rfl)
      have b15 := gi_b (lo := 0) (hi := 2) g 68 8 rfl
      have e16 : h9 68 8 = h 68 8 := (u9 68 8 rfl)
      have b17 := gi_b (lo := 0) (hi := 40) g 68 9 rfl
      have e18 : h9 68 9 = h 68 9 := (u9 68 9 rfl)
      have q20 : h9 69 = h 69 := funext (fun i => (u9 69 i (fo_no_ok (by decide) i)))
      have q21 : h9 70 = h 70 := funext (fun i => (u9 70 i (fo_no_ok (by decide) i)))
      have nb19 : NBc (h9 69) (h9 70) := by rw [q20, q21]; exact xq1
      exact k h9 z10 g9 F11 (by omega) (show z10 = 0 ∨ z10 = 1 by omega) (by unfold sc_cmd sc_hd sc_num sc_mk; (try dsimp only); (repeat (first | rw [if_pos (by omega)] | rw [if_neg (by omega)])); (repeat ((first | unfold sc_num | unfold sc_mk); (try dsimp only); (repeat (first | rw [if_pos (by omega)] | rw [if_neg (by omega)])))); first | exact sc_Oe (by omega) (by omega) (by omega) (by omega) | ((repeat' split) <;> (first | exact sc_Oe (by omega) (by omega) (by omega) (by omega) | (exfalso; omega)))) nb19
    ·
      refine wi_aload_n (i := 1) (x := mm_XB + (3 : Int).toNat) (nx := 20) (r1 := 0) (r2 := 0) (r3 := 0) rfl rfl ?_
      refine wr_gx (k0 := mm_XB + (3 : Int).toNat) (v := vi 0) (nx := 23) (r1 := 1) (r2 := 0) (r3 := 1) rfl (by decide) (by decide) rfl ?_
      refine wi_if (cd := .ne) (nx := 26) (r1 := 35) (r2 := 0) (r3 := 0) rfl (by omega) (fun (q9 : 0 ≠ 0) => by exfalso; omega) (fun (q9 : ¬ (0 ≠ 0)) => ?_)
      refine wi_aload_n (i := 0) (x := 68) (nx := 27) (r1 := 0) (r2 := 0) (r3 := 0) rfl rfl ?_
      refine wr_gr (k0 := 68) (x := 1) (nx := 30) (r1 := 8) (r2 := 0) (r3 := 0) rfl rfl (by decide) rfl ⟨rfl, rfl⟩ rfl ?_
      refine wi_iconst (n := 1) (nx := 31) (r1 := 0) (r2 := 0) (r3 := 0) rfl ?_
      refine wr_V (k0 := 1) (rest := []) (as := [.ref 1, vi 1]) (nx := 34) (r1 := 101) (r2 := 1) (r3 := 1) rfl rfl rfl (of_decide_eq_true rfl) rfl rfl (by decide) rfl rfl (of_decide_eq_true rfl) (of_decide_eq_true rfl) ?_
      refine ct_101_1 hcr  g 1 (by omega)  (fun h10 z11 g10 u10 (fz11 : 0 ≤ z11 ∧ z11 ≤ 0) (p10_0 : z11 = 0) (p10_1 : (h10 1 2) = 1) (p10_2 : (h10 1 3) = (h 1 6)) => ?_)
      have F12 := F0.then (by decide +kernel) u10
      have b13 := gi_b (lo := -2147483648) (hi := 2147483647) g10 1 2 rfl
      have b14 := gi_b (lo := -2147483648) (hi := 2147483647) g10 1 3 rfl
      refine wk_i ?_
      refine wi_zreturn (nx := 35) (r1 := 0) (r2 := 0) (r3 := 0) rfl rfl (by omega) ?_
      have e15 : h10 1 4 = h 1 4 := (u10 1 4 rfl)
      have b16 := gi_b (lo := 0) (hi := 2) g 68 8 rfl
      have e17 : h10 68 8 = h 68 8 := (u10 68 8 rfl)
      have b18 := gi_b (lo := 0) (hi := 40) g 68 9 rfl
      have e19 : h10 68 9 = h 68 9 := (u10 68 9 rfl)
      have q21 : h10 69 = h 69 := funext (fun i => (u10 69 i (fo_no_ok (by decide) i)))
      have q22 : h10 70 = h 70 := funext (fun i => (u10 70 i (fo_no_ok (by decide) i)))
      have nb20 : NBc (h10 69) (h10 70) := by rw [q21, q22]; exact xq1
      exact k h10 z11 g10 F12 (by omega) (show z11 = 0 ∨ z11 = 1 by omega) (by unfold sc_cmd sc_hd sc_num sc_mk; (try dsimp only); (repeat (first | rw [if_pos (by omega)] | rw [if_neg (by omega)])); (repeat ((first | unfold sc_num | unfold sc_mk); (try dsimp only); (repeat (first | rw [if_pos (by omega)] | rw [if_neg (by omega)])))); first | exact sc_Oe (by omega) (by omega) (by omega) (by omega) | ((repeat' split) <;> (first | exact sc_Oe (by omega) (by omega) (by omega) (by omega) | (exfalso; omega)))) nb20
  ·
    refine wr_gi3 (k0 := 1) (x := 4) (nx := 7) (r1 := 1) (r2 := 9) (r3 := 0) rfl rfl (by decide) rfl ⟨rfl, rfl⟩ rfl q7 ?_
    refine wi_astore_n (i := 1) (x := mm_XB + (4 : Int).toNat) (lo2 := [(1, wv 4), (0, .ref 68)]) (nx := 8) (r1 := 0) (r2 := 0) (r3 := 0) rfl rfl ?_
    refine wi_aload_n (i := 0) (x := 68) (nx := 9) (r1 := 0) (r2 := 0) (r3 := 0) rfl rfl ?_
    refine wr_gr (k0 := 68) (x := 1) (nx := 12) (r1 := 8) (r2 := 0) (r3 := 0) rfl rfl (by decide) rfl ⟨rfl, rfl⟩ rfl ?_
    refine wr_gi0 (k0 := 1) (x := h 1 5) (nx := 15) (r1 := 1) (r2 := 5) (r3 := 0) rfl rfl (by decide) rfl ⟨rfl, rfl⟩ rfl rfl ?_
    refine wi_iconst (n := 1) (nx := 16) (r1 := 0) (r2 := 0) (r3 := 0) rfl ?_
    refine wi_icmp (cd := .ne) (nx := 19) (r1 := 26) (r2 := 0) (r3 := 0) rfl (by omega) (by omega) (fun (q8 : (h 1 5) ≠ 1) => ?_) (fun (q8 : ¬ ((h 1 5) ≠ 1)) => ?_)
    ·
      refine wi_aload_n (i := 0) (x := 68) (nx := 27) (r1 := 0) (r2 := 0) (r3 := 0) rfl rfl ?_
      refine wr_gr (k0 := 68) (x := 1) (nx := 30) (r1 := 8) (r2 := 0) (r3 := 0) rfl rfl (by decide) rfl ⟨rfl, rfl⟩ rfl ?_
      refine wi_iconst (n := 1) (nx := 31) (r1 := 0) (r2 := 0) (r3 := 0) rfl ?_
      refine wr_V (k0 := 1) (rest := []) (as := [.ref 1, vi 1]) (nx := 34) (r1 := 101) (r2 := 1) (r3 := 1) rfl rfl rfl (of_decide_eq_true rfl) rfl rfl (by decide) rfl rfl (of_decide_eq_true rfl) (of_decide_eq_true rfl) ?_
      refine ct_101_1 hcr  g 1 (by omega)  (fun h9 z10 g9 u9 (fz10 : 0 ≤ z10 ∧ z10 ≤ 0) (p9_0 : z10 = 0) (p9_1 : (h9 1 2) = 1) (p9_2 : (h9 1 3) = (h 1 6)) => ?_)
      have F11 := F0.then (by decide +kernel) u9
      have b12 := gi_b (lo := -2147483648) (hi := 2147483647) g9 1 2 rfl
      have b13 := gi_b (lo := -2147483648) (hi := 2147483647) g9 1 3 rfl
      refine wk_i ?_
      refine wi_zreturn (nx := 35) (r1 := 0) (r2 := 0) (r3 := 0) rfl rfl (by omega) ?_
      have e14 : h9 1 4 = h 1 4 := (u9 1 4 rfl)
      have b15 := gi_b (lo := 0) (hi := 2) g 68 8 rfl
      have e16 : h9 68 8 = h 68 8 := (u9 68 8 rfl)
      have b17 := gi_b (lo := 0) (hi := 40) g 68 9 rfl
      have e18 : h9 68 9 = h 68 9 := (u9 68 9 rfl)
      have q20 : h9 69 = h 69 := funext (fun i => (u9 69 i (fo_no_ok (by decide) i)))
      have q21 : h9 70 = h 70 := funext (fun i => (u9 70 i (fo_no_ok (by decide) i)))
      have nb19 : NBc (h9 69) (h9 70) := by rw [q20, q21]; exact xq1
      exact k h9 z10 g9 F11 (by omega) (show z10 = 0 ∨ z10 = 1 by omega) (by unfold sc_cmd sc_hd sc_num sc_mk; (try dsimp only); (repeat (first | rw [if_pos (by omega)] | rw [if_neg (by omega)])); (repeat ((first | unfold sc_num | unfold sc_mk); (try dsimp only); (repeat (first | rw [if_pos (by omega)] | rw [if_neg (by omega)])))); first | exact sc_Oe (by omega) (by omega) (by omega) (by omega) | ((repeat' split) <;> (first | exact sc_Oe (by omega) (by omega) (by omega) (by omega) | (exfalso; omega)))) nb19
    ·
      refine wi_aload_n (i := 1) (x := mm_XB + (4 : Int).toNat) (nx := 20) (r1 := 0) (r2 := 0) (r3 := 0) rfl rfl ?_
      refine wr_gx (k0 := mm_XB + (4 : Int).toNat) (v := vi 0) (nx := 23) (r1 := 1) (r2 := 0) (r3 := 1) rfl (by decide) (by decide) rfl ?_
      refine wi_if (cd := .ne) (nx := 26) (r1 := 35) (r2 := 0) (r3 := 0) rfl (by omega) (fun (q9 : 0 ≠ 0) => by exfalso; omega) (fun (q9 : ¬ (0 ≠ 0)) => ?_)
      refine wi_aload_n (i := 0) (x := 68) (nx := 27) (r1 := 0) (r2 := 0) (r3 := 0) rfl rfl ?_
      refine wr_gr (k0 := 68) (x := 1) (nx := 30) (r1 := 8) (r2 := 0) (r3 := 0) rfl rfl (by decide) rfl ⟨rfl, rfl⟩ rfl ?_
      refine wi_iconst (n := 1) (nx := 31) (r1 := 0) (r2 := 0) (r3 := 0) rfl ?_
      refine wr_V (k0 := 1) (rest := []) (as := [.ref 1, vi 1]) (nx := 34) (r1 := 101) (r2 := 1) (r3 := 1) rfl rfl rfl (of_decide_eq_true rfl) rfl rfl (by decide) rfl rfl (of_decide_eq_true rfl) (of_decide_eq_true rfl) ?_
      refine ct_101_1 hcr  g 1 (by omega)  (fun h10 z11 g10 u10 (fz11 : 0 ≤ z11 ∧ z11 ≤ 0) (p10_0 : z11 = 0) (p10_1 : (h10 1 2) = 1) (p10_2 : (h10 1 3) = (h 1 6)) => ?_)
      have F12 := F0.then (by decide +kernel) u10
      have b13 := gi_b (lo := -2147483648) (hi := 2147483647) g10 1 2 rfl
      have b14 := gi_b (lo := -2147483648) (hi := 2147483647) g10 1 3 rfl
      refine wk_i ?_
      refine wi_zreturn (nx := 35) (r1 := 0) (r2 := 0) (r3 := 0) rfl rfl (by omega) ?_
      have e15 : h10 1 4 = h 1 4 := (u10 1 4 rfl)
      have b16 := gi_b (lo := 0) (hi := 2) g 68 8 rfl
      have e17 : h10 68 8 = h 68 8 := (u10 68 8 rfl)
      have b18 := gi_b (lo := 0) (hi := 40) g 68 9 rfl
      have e19 : h10 68 9 = h 68 9 := (u10 68 9 rfl)
      have q21 : h10 69 = h 69 := funext (fun i => (u10 69 i (fo_no_ok (by decide) i)))
      have q22 : h10 70 = h 70 := funext (fun i => (u10 70 i (fo_no_ok (by decide) i)))
      have nb20 : NBc (h10 69) (h10 70) := by rw [q21, q22]; exact xq1
      exact k h10 z11 g10 F12 (by omega) (show z11 = 0 ∨ z11 = 1 by omega) (by unfold sc_cmd sc_hd sc_num sc_mk; (try dsimp only); (repeat (first | rw [if_pos (by omega)] | rw [if_neg (by omega)])); (repeat ((first | unfold sc_num | unfold sc_mk); (try dsimp only); (repeat (first | rw [if_pos (by omega)] | rw [if_neg (by omega)])))); first | exact sc_Oe (by omega) (by omega) (by omega) (by omega) | ((repeat' split) <;> (first | exact sc_Oe (by omega) (by omega) (by omega) (by omega) | (exfalso; omega)))) nb20
  ·
    refine wr_gi3 (k0 := 1) (x := 5) (nx := 7) (r1 := 1) (r2 := 9) (r3 := 0) rfl rfl (by decide) rfl ⟨rfl, rfl⟩ rfl q7 ?_
    refine wi_astore_n (i := 1) (x := mm_XB + (5 : Int).toNat) (lo2 := [(1, wv 5), (0, .ref 68)]) (nx := 8) (r1 := 0) (r2 := 0) (r3 := 0) rfl rfl ?_
    refine wi_aload_n (i := 0) (x := 68) (nx := 9) (r1 := 0) (r2 := 0) (r3 := 0) rfl rfl ?_
    refine wr_gr (k0 := 68) (x := 1) (nx := 12) (r1 := 8) (r2 := 0) (r3 := 0) rfl rfl (by decide) rfl ⟨rfl, rfl⟩ rfl ?_
    refine wr_gi0 (k0 := 1) (x := h 1 5) (nx := 15) (r1 := 1) (r2 := 5) (r3 := 0) rfl rfl (by decide) rfl ⟨rfl, rfl⟩ rfl rfl ?_
    refine wi_iconst (n := 1) (nx := 16) (r1 := 0) (r2 := 0) (r3 := 0) rfl ?_
    refine wi_icmp (cd := .ne) (nx := 19) (r1 := 26) (r2 := 0) (r3 := 0) rfl (by omega) (by omega) (fun (q8 : (h 1 5) ≠ 1) => ?_) (fun (q8 : ¬ ((h 1 5) ≠ 1)) => ?_)
    ·
      refine wi_aload_n (i := 0) (x := 68) (nx := 27) (r1 := 0) (r2 := 0) (r3 := 0) rfl rfl ?_
      refine wr_gr (k0 := 68) (x := 1) (nx := 30) (r1 := 8) (r2 := 0) (r3 := 0) rfl rfl (by decide) rfl ⟨rfl, rfl⟩ rfl ?_
      refine wi_iconst (n := 1) (nx := 31) (r1 := 0) (r2 := 0) (r3 := 0) rfl ?_
      refine wr_V (k0 := 1) (rest := []) (as := [.ref 1, vi 1]) (nx := 34) (r1 := 101) (r2 := 1) (r3 := 1) rfl rfl rfl (of_decide_eq_true rfl) rfl rfl (by decide) rfl rfl (of_decide_eq_true rfl) (of_decide_eq_true rfl) ?_
      refine ct_101_1 hcr  g 1 (by omega)  (fun h9 z10 g9 u9 (fz10 : 0 ≤ z10 ∧ z10 ≤ 0) (p9_0 : z10 = 0) (p9_1 : (h9 1 2) = 1) (p9_2 : (h9 1 3) = (h 1 6)) => ?_)
      have F11 := F0.then (by decide +kernel) u9
      have b12 := gi_b (lo := -2147483648) (hi := 2147483647) g9 1 2 rfl
      have b13 := gi_b (lo := -2147483648) (hi := 2147483647) g9 1 3 rfl
      refine wk_i ?_
      refine wi_zreturn (nx := 35) (r1 := 0) (r2 := 0) (r3 := 0) rfl rfl (by omega) ?_
      have e14 : h9 1 4 = h 1 4 := (u9 1 4 rfl)
      have b15 := gi_b (lo := 0) (hi := 2) g 68 8 rfl
      have e16 : h9 68 8 = h 68 8 := (u9 68 8 rfl)
      have b17 := gi_b (lo := 0) (hi := 40) g 68 9 rfl
      have e18 : h9 68 9 = h 68 9 := (u9 68 9 rfl)
      have q20 : h9 69 = h 69 := funext (fun i => (u9 69 i (fo_no_ok (by decide) i)))
      have q21 : h9 70 = h 70 := funext (fun i => (u9 70 i (fo_no_ok (by decide) i)))
      have nb19 : NBc (h9 69) (h9 70) := by rw [q20, q21]; exact xq1
      exact k h9 z10 g9 F11 (by omega) (show z10 = 0 ∨ z10 = 1 by omega) (by unfold sc_cmd sc_hd sc_num sc_mk; (try dsimp only); (repeat (first | rw [if_pos (by omega)] | rw [if_neg (by omega)])); (repeat ((first | unfold sc_num | unfold sc_mk); (try dsimp only); (repeat (first | rw [if_pos (by omega)] | rw [if_neg (by omega)])))); first | exact sc_Oe (by omega) (by omega) (by omega) (by omega) | ((repeat' split) <;> (first | exact sc_Oe (by omega) (by omega) (by omega) (by omega) | (exfalso; omega)))) nb19
    ·
      refine wi_aload_n (i := 1) (x := mm_XB + (5 : Int).toNat) (nx := 20) (r1 := 0) (r2 := 0) (r3 := 0) rfl rfl ?_
      refine wr_gx (k0 := mm_XB + (5 : Int).toNat) (v := vi 0) (nx := 23) (r1 := 1) (r2 := 0) (r3 := 1) rfl (by decide) (by decide) rfl ?_
      refine wi_if (cd := .ne) (nx := 26) (r1 := 35) (r2 := 0) (r3 := 0) rfl (by omega) (fun (q9 : 0 ≠ 0) => by exfalso; omega) (fun (q9 : ¬ (0 ≠ 0)) => ?_)
      refine wi_aload_n (i := 0) (x := 68) (nx := 27) (r1 := 0) (r2 := 0) (r3 := 0) rfl rfl ?_
      refine wr_gr (k0 := 68) (x := 1) (nx := 30) (r1 := 8) (r2 := 0) (r3 := 0) rfl rfl (by decide) rfl ⟨rfl, rfl⟩ rfl ?_
      refine wi_iconst (n := 1) (nx := 31) (r1 := 0) (r2 := 0) (r3 := 0) rfl ?_
      refine wr_V (k0 := 1) (rest := []) (as := [.ref 1, vi 1]) (nx := 34) (r1 := 101) (r2 := 1) (r3 := 1) rfl rfl rfl (of_decide_eq_true rfl) rfl rfl (by decide) rfl rfl (of_decide_eq_true rfl) (of_decide_eq_true rfl) ?_
      refine ct_101_1 hcr  g 1 (by omega)  (fun h10 z11 g10 u10 (fz11 : 0 ≤ z11 ∧ z11 ≤ 0) (p10_0 : z11 = 0) (p10_1 : (h10 1 2) = 1) (p10_2 : (h10 1 3) = (h 1 6)) => ?_)
      have F12 := F0.then (by decide +kernel) u10
      have b13 := gi_b (lo := -2147483648) (hi := 2147483647) g10 1 2 rfl
      have b14 := gi_b (lo := -2147483648) (hi := 2147483647) g10 1 3 rfl
      refine wk_i ?_
      refine wi_zreturn (nx := 35) (r1 := 0) (r2 := 0) (r3 := 0) rfl rfl (by omega) ?_
      have e15 : h10 1 4 = h 1 4 := (u10 1 4 rfl)
      have b16 := gi_b (lo := 0) (hi := 2) g 68 8 rfl
      have e17 : h10 68 8 = h 68 8 := (u10 68 8 rfl)
      have b18 := gi_b (lo := 0) (hi := 40) g 68 9 rfl
      have e19 : h10 68 9 = h 68 9 := (u10 68 9 rfl)
      have q21 : h10 69 = h 69 := funext (fun i => (u10 69 i (fo_no_ok (by decide) i)))
      have q22 : h10 70 = h 70 := funext (fun i => (u10 70 i (fo_no_ok (by decide) i)))
      have nb20 : NBc (h10 69) (h10 70) := by rw [q21, q22]; exact xq1
      exact k h10 z11 g10 F12 (by omega) (show z11 = 0 ∨ z11 = 1 by omega) (by unfold sc_cmd sc_hd sc_num sc_mk; (try dsimp only); (repeat (first | rw [if_pos (by omega)] | rw [if_neg (by omega)])); (repeat ((first | unfold sc_num | unfold sc_mk); (try dsimp only); (repeat (first | rw [if_pos (by omega)] | rw [if_neg (by omega)])))); first | exact sc_Oe (by omega) (by omega) (by omega) (by omega) | ((repeat' split) <;> (first | exact sc_Oe (by omega) (by omega) (by omega) (by omega) | (exfalso; omega)))) nb20
  ·
    refine wr_gi3 (k0 := 1) (x := 6) (nx := 7) (r1 := 1) (r2 := 9) (r3 := 0) rfl rfl (by decide) rfl ⟨rfl, rfl⟩ rfl q7 ?_
    refine wi_astore_n (i := 1) (x := mm_XB + (6 : Int).toNat) (lo2 := [(1, wv 6), (0, .ref 68)]) (nx := 8) (r1 := 0) (r2 := 0) (r3 := 0) rfl rfl ?_
    refine wi_aload_n (i := 0) (x := 68) (nx := 9) (r1 := 0) (r2 := 0) (r3 := 0) rfl rfl ?_
    refine wr_gr (k0 := 68) (x := 1) (nx := 12) (r1 := 8) (r2 := 0) (r3 := 0) rfl rfl (by decide) rfl ⟨rfl, rfl⟩ rfl ?_
    refine wr_gi0 (k0 := 1) (x := h 1 5) (nx := 15) (r1 := 1) (r2 := 5) (r3 := 0) rfl rfl (by decide) rfl ⟨rfl, rfl⟩ rfl rfl ?_
    refine wi_iconst (n := 1) (nx := 16) (r1 := 0) (r2 := 0) (r3 := 0) rfl ?_
    refine wi_icmp (cd := .ne) (nx := 19) (r1 := 26) (r2 := 0) (r3 := 0) rfl (by omega) (by omega) (fun (q8 : (h 1 5) ≠ 1) => ?_) (fun (q8 : ¬ ((h 1 5) ≠ 1)) => ?_)
    ·
      refine wi_aload_n (i := 0) (x := 68) (nx := 27) (r1 := 0) (r2 := 0) (r3 := 0) rfl rfl ?_
      refine wr_gr (k0 := 68) (x := 1) (nx := 30) (r1 := 8) (r2 := 0) (r3 := 0) rfl rfl (by decide) rfl ⟨rfl, rfl⟩ rfl ?_
      refine wi_iconst (n := 1) (nx := 31) (r1 := 0) (r2 := 0) (r3 := 0) rfl ?_
      refine wr_V (k0 := 1) (rest := []) (as := [.ref 1, vi 1]) (nx := 34) (r1 := 101) (r2 := 1) (r3 := 1) rfl rfl rfl (of_decide_eq_true rfl) rfl rfl (by decide) rfl rfl (of_decide_eq_true rfl) (of_decide_eq_true rfl) ?_
      refine ct_101_1 hcr  g 1 (by omega)  (fun h9 z10 g9 u9 (fz10 : 0 ≤ z10 ∧ z10 ≤ 0) (p9_0 : z10 = 0) (p9_1 : (h9 1 2) = 1) (p9_2 : (h9 1 3) = (h 1 6)) => ?_)
      have F11 := F0.then (by decide +kernel) u9
      have b12 := gi_b (lo := -2147483648) (hi := 2147483647) g9 1 2 rfl
      have b13 := gi_b (lo := -2147483648) (hi := 2147483647) g9 1 3 rfl
      refine wk_i ?_
      refine wi_zreturn (nx := 35) (r1 := 0) (r2 := 0) (r3 := 0) rfl rfl (by omega) ?_
      have e14 : h9 1 4 = h 1 4 := (u9 1 4 rfl)
      have b15 := gi_b (lo := 0) (hi := 2) g 68 8 rfl
      have e16 : h9 68 8 = h 68 8 := (u9 68 8 rfl)
      have b17 := gi_b (lo := 0) (hi := 40) g 68 9 rfl
      have e18 : h9 68 9 = h 68 9 := (u9 68 9 rfl)
      have q20 : h9 69 = h 69 := funext (fun i => (u9 69 i (fo_no_ok (by decide) i)))
      have q21 : h9 70 = h 70 := funext (fun i => (u9 70 i (fo_no_ok (by decide) i)))
      have nb19 : NBc (h9 69) (h9 70) := by rw [q20, q21]; exact xq1
      exact k h9 z10 g9 F11 (by omega) (show z10 = 0 ∨ z10 = 1 by omega) (by unfold sc_cmd sc_hd sc_num sc_mk; (try dsimp only); (repeat (first | rw [if_pos (by omega)] | rw [if_neg (by omega)])); (repeat ((first | unfold sc_num | unfold sc_mk); (try dsimp only); (repeat (first | rw [if_pos (by omega)] | rw [if_neg (by omega)])))); first | exact sc_Oe (by omega) (by omega) (by omega) (by omega) | ((repeat' split) <;> (first | exact sc_Oe (by omega) (by omega) (by omega) (by omega) | (exfalso; omega)))) nb19
    ·
      refine wi_aload_n (i := 1) (x := mm_XB + (6 : Int).toNat) (nx := 20) (r1 := 0) (r2 := 0) (r3 := 0) rfl rfl ?_
      refine wr_gx (k0 := mm_XB + (6 : Int).toNat) (v := vi 0) (nx := 23) (r1 := 1) (r2 := 0) (r3 := 1) rfl (by decide) (by decide) rfl ?_
      refine wi_if (cd := .ne) (nx := 26) (r1 := 35) (r2 := 0) (r3 := 0) rfl (by omega) (fun (q9 : 0 ≠ 0) => by exfalso; omega) (fun (q9 : ¬ (0 ≠ 0)) => ?_)
      refine wi_aload_n (i := 0) (x := 68) (nx := 27) (r1 := 0) (r2 := 0) (r3 := 0) rfl rfl ?_
      refine wr_gr (k0 := 68) (x := 1) (nx := 30) (r1 := 8) (r2 := 0) (r3 := 0) rfl rfl (by decide) rfl ⟨rfl, rfl⟩ rfl ?_
      refine wi_iconst (n := 1) (nx := 31) (r1 := 0) (r2 := 0) (r3 := 0) rfl ?_
      refine wr_V (k0 := 1) (rest := []) (as := [.ref 1, vi 1]) (nx := 34) (r1 := 101) (r2 := 1) (r3 := 1) rfl rfl rfl (of_decide_eq_true rfl) rfl rfl (by decide) rfl rfl (of_decide_eq_true rfl) (of_decide_eq_true rfl) ?_
      refine ct_101_1 hcr  g 1 (by omega)  (fun h10 z11 g10 u10 (fz11 : 0 ≤ z11 ∧ z11 ≤ 0) (p10_0 : z11 = 0) (p10_1 : (h10 1 2) = 1) (p10_2 : (h10 1 3) = (h 1 6)) => ?_)
      have F12 := F0.then (by decide +kernel) u10
      have b13 := gi_b (lo := -2147483648) (hi := 2147483647) g10 1 2 rfl
      have b14 := gi_b (lo := -2147483648) (hi := 2147483647) g10 1 3 rfl
      refine wk_i ?_
      refine wi_zreturn (nx := 35) (r1 := 0) (r2 := 0) (r3 := 0) rfl rfl (by omega) ?_
      have e15 : h10 1 4 = h 1 4 := (u10 1 4 rfl)
      have b16 := gi_b (lo := 0) (hi := 2) g 68 8 rfl
      have e17 : h10 68 8 = h 68 8 := (u10 68 8 rfl)
      have b18 := gi_b (lo := 0) (hi := 40) g 68 9 rfl
      have e19 : h10 68 9 = h 68 9 := (u10 68 9 rfl)
      have q21 : h10 69 = h 69 := funext (fun i => (u10 69 i (fo_no_ok (by decide) i)))
      have q22 : h10 70 = h 70 := funext (fun i => (u10 70 i (fo_no_ok (by decide) i)))
      have nb20 : NBc (h10 69) (h10 70) := by rw [q21, q22]; exact xq1
      exact k h10 z11 g10 F12 (by omega) (show z11 = 0 ∨ z11 = 1 by omega) (by unfold sc_cmd sc_hd sc_num sc_mk; (try dsimp only); (repeat (first | rw [if_pos (by omega)] | rw [if_neg (by omega)])); (repeat ((first | unfold sc_num | unfold sc_mk); (try dsimp only); (repeat (first | rw [if_pos (by omega)] | rw [if_neg (by omega)])))); first | exact sc_Oe (by omega) (by omega) (by omega) (by omega) | ((repeat' split) <;> (first | exact sc_Oe (by omega) (by omega) (by omega) (by omega) | (exfalso; omega)))) nb20
  ·
    refine wr_gi3 (k0 := 1) (x := 7) (nx := 7) (r1 := 1) (r2 := 9) (r3 := 0) rfl rfl (by decide) rfl ⟨rfl, rfl⟩ rfl q7 ?_
    refine wi_astore_n (i := 1) (x := mm_XB + (7 : Int).toNat) (lo2 := [(1, wv 7), (0, .ref 68)]) (nx := 8) (r1 := 0) (r2 := 0) (r3 := 0) rfl rfl ?_
    refine wi_aload_n (i := 0) (x := 68) (nx := 9) (r1 := 0) (r2 := 0) (r3 := 0) rfl rfl ?_
    refine wr_gr (k0 := 68) (x := 1) (nx := 12) (r1 := 8) (r2 := 0) (r3 := 0) rfl rfl (by decide) rfl ⟨rfl, rfl⟩ rfl ?_
    refine wr_gi0 (k0 := 1) (x := h 1 5) (nx := 15) (r1 := 1) (r2 := 5) (r3 := 0) rfl rfl (by decide) rfl ⟨rfl, rfl⟩ rfl rfl ?_
    refine wi_iconst (n := 1) (nx := 16) (r1 := 0) (r2 := 0) (r3 := 0) rfl ?_
    refine wi_icmp (cd := .ne) (nx := 19) (r1 := 26) (r2 := 0) (r3 := 0) rfl (by omega) (by omega) (fun (q8 : (h 1 5) ≠ 1) => ?_) (fun (q8 : ¬ ((h 1 5) ≠ 1)) => ?_)
    ·
      refine wi_aload_n (i := 0) (x := 68) (nx := 27) (r1 := 0) (r2 := 0) (r3 := 0) rfl rfl ?_
      refine wr_gr (k0 := 68) (x := 1) (nx := 30) (r1 := 8) (r2 := 0) (r3 := 0) rfl rfl (by decide) rfl ⟨rfl, rfl⟩ rfl ?_
      refine wi_iconst (n := 1) (nx := 31) (r1 := 0) (r2 := 0) (r3 := 0) rfl ?_
      refine wr_V (k0 := 1) (rest := []) (as := [.ref 1, vi 1]) (nx := 34) (r1 := 101) (r2 := 1) (r3 := 1) rfl rfl rfl (of_decide_eq_true rfl) rfl rfl (by decide) rfl rfl (of_decide_eq_true rfl) (of_decide_eq_true rfl) ?_
      refine ct_101_1 hcr  g 1 (by omega)  (fun h9 z10 g9 u9 (fz10 : 0 ≤ z10 ∧ z10 ≤ 0) (p9_0 : z10 = 0) (p9_1 : (h9 1 2) = 1) (p9_2 : (h9 1 3) = (h 1 6)) => ?_)
      have F11 := F0.then (by decide +kernel) u9
      have b12 := gi_b (lo := -2147483648) (hi := 2147483647) g9 1 2 rfl
      have b13 := gi_b (lo := -2147483648) (hi := 2147483647) g9 1 3 rfl
      refine wk_i ?_
      refine wi_zreturn (nx := 35) (r1 := 0) (r2 := 0) (r3 := 0) rfl rfl (by omega) ?_
      have e14 : h9 1 4 = h 1 4 := (u9 1 4 rfl)
      have b15 := gi_b (lo := 0) (hi := 2) g 68 8 rfl
      have e16 : h9 68 8 = h 68 8 := (u9 68 8 rfl)
      have b17 := gi_b (lo := 0) (hi := 40) g 68 9 rfl
      have e18 : h9 68 9 = h 68 9 := (u9 68 9 rfl)
      have q20 : h9 69 = h 69 := funext (fun i => (u9 69 i (fo_no_ok (by decide) i)))
      have q21 : h9 70 = h 70 := funext (fun i => (u9 70 i (fo_no_ok (by decide) i)))
      have nb19 : NBc (h9 69) (h9 70) := by rw [q20, q21]; exact xq1
      exact k h9 z10 g9 F11 (by omega) (show z10 = 0 ∨ z10 = 1 by omega) (by unfold sc_cmd sc_hd sc_num sc_mk; (try dsimp only); (repeat (first | rw [if_pos (by omega)] | rw [if_neg (by omega)])); (repeat ((first | unfold sc_num | unfold sc_mk); (try dsimp only); (repeat (first | rw [if_pos (by omega)] | rw [if_neg (by omega)])))); first | exact sc_Oe (by omega) (by omega) (by omega) (by omega) | ((repeat' split) <;> (first | exact sc_Oe (by omega) (by omega) (by omega) (by omega) | (exfalso; omega)))) nb19
    ·
      refine wi_aload_n (i := 1) (x := mm_XB + (7 : Int).toNat) (nx := 20) (r1 := 0) (r2 := 0) (r3 := 0) rfl rfl ?_
      refine wr_gx (k0 := mm_XB + (7 : Int).toNat) (v := vi 0) (nx := 23) (r1 := 1) (r2 := 0) (r3 := 1) rfl (by decide) (by decide) rfl ?_
      refine wi_if (cd := .ne) (nx := 26) (r1 := 35) (r2 := 0) (r3 := 0) rfl (by omega) (fun (q9 : 0 ≠ 0) => by exfalso; omega) (fun (q9 : ¬ (0 ≠ 0)) => ?_)
      refine wi_aload_n (i := 0) (x := 68) (nx := 27) (r1 := 0) (r2 := 0) (r3 := 0) rfl rfl ?_
      refine wr_gr (k0 := 68) (x := 1) (nx := 30) (r1 := 8) (r2 := 0) (r3 := 0) rfl rfl (by decide) rfl ⟨rfl, rfl⟩ rfl ?_
      refine wi_iconst (n := 1) (nx := 31) (r1 := 0) (r2 := 0) (r3 := 0) rfl ?_
      refine wr_V (k0 := 1) (rest := []) (as := [.ref 1, vi 1]) (nx := 34) (r1 := 101) (r2 := 1) (r3 := 1) rfl rfl rfl (of_decide_eq_true rfl) rfl rfl (by decide) rfl rfl (of_decide_eq_true rfl) (of_decide_eq_true rfl) ?_
      refine ct_101_1 hcr  g 1 (by omega)  (fun h10 z11 g10 u10 (fz11 : 0 ≤ z11 ∧ z11 ≤ 0) (p10_0 : z11 = 0) (p10_1 : (h10 1 2) = 1) (p10_2 : (h10 1 3) = (h 1 6)) => ?_)
      have F12 := F0.then (by decide +kernel) u10
      have b13 := gi_b (lo := -2147483648) (hi := 2147483647) g10 1 2 rfl
      have b14 := gi_b (lo := -2147483648) (hi := 2147483647) g10 1 3 rfl
      refine wk_i ?_
      refine wi_zreturn (nx := 35) (r1 := 0) (r2 := 0) (r3 := 0) rfl rfl (by omega) ?_
      have e15 : h10 1 4 = h 1 4 := (u10 1 4 rfl)
      have b16 := gi_b (lo := 0) (hi := 2) g 68 8 rfl
      have e17 : h10 68 8 = h 68 8 := (u10 68 8 rfl)
      have b18 := gi_b (lo := 0) (hi := 40) g 68 9 rfl
      have e19 : h10 68 9 = h 68 9 := (u10 68 9 rfl)
      have q21 : h10 69 = h 69 := funext (fun i => (u10 69 i (fo_no_ok (by decide) i)))
      have q22 : h10 70 = h 70 := funext (fun i => (u10 70 i (fo_no_ok (by decide) i)))
      have nb20 : NBc (h10 69) (h10 70) := by rw [q21, q22]; exact xq1
      exact k h10 z11 g10 F12 (by omega) (show z11 = 0 ∨ z11 = 1 by omega) (by unfold sc_cmd sc_hd sc_num sc_mk; (try dsimp only); (repeat (first | rw [if_pos (by omega)] | rw [if_neg (by omega)])); (repeat ((first | unfold sc_num | unfold sc_mk); (try dsimp only); (repeat (first | rw [if_pos (by omega)] | rw [if_neg (by omega)])))); first | exact sc_Oe (by omega) (by omega) (by omega) (by omega) | ((repeat' split) <;> (first | exact sc_Oe (by omega) (by omega) (by omega) (by omega) | (exfalso; omega)))) nb20
  ·
    refine wr_gi3 (k0 := 1) (x := 8) (nx := 7) (r1 := 1) (r2 := 9) (r3 := 0) rfl rfl (by decide) rfl ⟨rfl, rfl⟩ rfl q7 ?_
    refine wi_astore_n (i := 1) (x := mm_XB + (8 : Int).toNat) (lo2 := [(1, wv 8), (0, .ref 68)]) (nx := 8) (r1 := 0) (r2 := 0) (r3 := 0) rfl rfl ?_
    refine wi_aload_n (i := 0) (x := 68) (nx := 9) (r1 := 0) (r2 := 0) (r3 := 0) rfl rfl ?_
    refine wr_gr (k0 := 68) (x := 1) (nx := 12) (r1 := 8) (r2 := 0) (r3 := 0) rfl rfl (by decide) rfl ⟨rfl, rfl⟩ rfl ?_
    refine wr_gi0 (k0 := 1) (x := h 1 5) (nx := 15) (r1 := 1) (r2 := 5) (r3 := 0) rfl rfl (by decide) rfl ⟨rfl, rfl⟩ rfl rfl ?_
    refine wi_iconst (n := 1) (nx := 16) (r1 := 0) (r2 := 0) (r3 := 0) rfl ?_
    refine wi_icmp (cd := .ne) (nx := 19) (r1 := 26) (r2 := 0) (r3 := 0) rfl (by omega) (by omega) (fun (q8 : (h 1 5) ≠ 1) => ?_) (fun (q8 : ¬ ((h 1 5) ≠ 1)) => ?_)
    ·
      refine wi_aload_n (i := 0) (x := 68) (nx := 27) (r1 := 0) (r2 := 0) (r3 := 0) rfl rfl ?_
      refine wr_gr (k0 := 68) (x := 1) (nx := 30) (r1 := 8) (r2 := 0) (r3 := 0) rfl rfl (by decide) rfl ⟨rfl, rfl⟩ rfl ?_
      refine wi_iconst (n := 1) (nx := 31) (r1 := 0) (r2 := 0) (r3 := 0) rfl ?_
      refine wr_V (k0 := 1) (rest := []) (as := [.ref 1, vi 1]) (nx := 34) (r1 := 101) (r2 := 1) (r3 := 1) rfl rfl rfl (of_decide_eq_true rfl) rfl rfl (by decide) rfl rfl (of_decide_eq_true rfl) (of_decide_eq_true rfl) ?_
      refine ct_101_1 hcr  g 1 (by omega)  (fun h9 z10 g9 u9 (fz10 : 0 ≤ z10 ∧ z10 ≤ 0) (p9_0 : z10 = 0) (p9_1 : (h9 1 2) = 1) (p9_2 : (h9 1 3) = (h 1 6)) => ?_)
      have F11 := F0.then (by decide +kernel) u9
      have b12 := gi_b (lo := -2147483648) (hi := 2147483647) g9 1 2 rfl
      have b13 := gi_b (lo := -2147483648) (hi := 2147483647) g9 1 3 rfl
      refine wk_i ?_
      refine wi_zreturn (nx := 35) (r1 := 0) (r2 := 0) (r3 := 0) rfl rfl (by omega) ?_
      have e14 : h9 1 4 = h 1 4 := (u9 1 4 rfl)
      have b15 := gi_b (lo := 0) (hi := 2) g 68 8 rfl
      have e16 : h9 68 8 = h 68 8 := (u9 68 8 rfl)
      have b17 := gi_b (lo := 0) (hi := 40) g 68 9 rfl
      have e18 : h9 68 9 = h 68 9 := (u9 68 9 rfl)
      have q20 : h9 69 = h 69 := funext (fun i => (u9 69 i (fo_no_ok (by decide) i)))
      have q21 : h9 70 = h 70 := funext (fun i => (u9 70 i (fo_no_ok (by decide) i)))
      have nb19 : NBc (h9 69) (h9 70) := by rw [q20, q21]; exact xq1
      exact k h9 z10 g9 F11 (by omega) (show z10 = 0 ∨ z10 = 1 by omega) (by unfold sc_cmd sc_hd sc_num sc_mk; (try dsimp only); (repeat (first | rw [if_pos (by omega)] | rw [if_neg (by omega)])); (repeat ((first | unfold sc_num | unfold sc_mk); (try dsimp only); (repeat (first | rw [if_pos (by omega)] | rw [if_neg (by omega)])))); first | exact sc_Oe (by omega) (by omega) (by omega) (by omega) | ((repeat' split) <;> (first | exact sc_Oe (by omega) (by omega) (by omega) (by omega) | (exfalso; omega)))) nb19
    ·
      refine wi_aload_n (i := 1) (x := mm_XB + (8 : Int).toNat) (nx := 20) (r1 := 0) (r2 := 0) (r3 := 0) rfl rfl ?_
      refine wr_gx (k0 := mm_XB + (8 : Int).toNat) (v := vi 0) (nx := 23) (r1 := 1) (r2 := 0) (r3 := 1) rfl (by decide) (by decide) rfl ?_
      refine wi_if (cd := .ne) (nx := 26) (r1 := 35) (r2 := 0) (r3 := 0) rfl (by omega) (fun (q9 : 0 ≠ 0) => by exfalso; omega) (fun (q9 : ¬ (0 ≠ 0)) => ?_)
      refine wi_aload_n (i := 0) (x := 68) (nx := 27) (r1 := 0) (r2 := 0) (r3 := 0) rfl rfl ?_
      refine wr_gr (k0 := 68) (x := 1) (nx := 30) (r1 := 8) (r2 := 0) (r3 := 0) rfl rfl (by decide) rfl ⟨rfl, rfl⟩ rfl ?_
      refine wi_iconst (n := 1) (nx := 31) (r1 := 0) (r2 := 0) (r3 := 0) rfl ?_
      refine wr_V (k0 := 1) (rest := []) (as := [.ref 1, vi 1]) (nx := 34) (r1 := 101) (r2 := 1) (r3 := 1) rfl rfl rfl (of_decide_eq_true rfl) rfl rfl (by decide) rfl rfl (of_decide_eq_true rfl) (of_decide_eq_true rfl) ?_
      refine ct_101_1 hcr  g 1 (by omega)  (fun h10 z11 g10 u10 (fz11 : 0 ≤ z11 ∧ z11 ≤ 0) (p10_0 : z11 = 0) (p10_1 : (h10 1 2) = 1) (p10_2 : (h10 1 3) = (h 1 6)) => ?_)
      have F12 := F0.then (by decide +kernel) u10
      have b13 := gi_b (lo := -2147483648) (hi := 2147483647) g10 1 2 rfl
      have b14 := gi_b (lo := -2147483648) (hi := 2147483647) g10 1 3 rfl
      refine wk_i ?_
      refine wi_zreturn (nx := 35) (r1 := 0) (r2 := 0) (r3 := 0) rfl rfl (by omega) ?_
      have e15 : h10 1 4 = h 1 4 := (u10 1 4 rfl)
      have b16 := gi_b (lo := 0) (hi := 2) g 68 8 rfl
      have e17 : h10 68 8 = h 68 8 := (u10 68 8 rfl)
      have b18 := gi_b (lo := 0) (hi := 40) g 68 9 rfl
      have e19 : h10 68 9 = h 68 9 := (u10 68 9 rfl)
      have q21 : h10 69 = h 69 := funext (fun i => (u10 69 i (fo_no_ok (by decide) i)))
      have q22 : h10 70 = h 70 := funext (fun i => (u10 70 i (fo_no_ok (by decide) i)))
      have nb20 : NBc (h10 69) (h10 70) := by rw [q21, q22]; exact xq1
      exact k h10 z11 g10 F12 (by omega) (show z11 = 0 ∨ z11 = 1 by omega) (by unfold sc_cmd sc_hd sc_num sc_mk; (try dsimp only); (repeat (first | rw [if_pos (by omega)] | rw [if_neg (by omega)])); (repeat ((first | unfold sc_num | unfold sc_mk); (try dsimp only); (repeat (first | rw [if_pos (by omega)] | rw [if_neg (by omega)])))); first | exact sc_Oe (by omega) (by omega) (by omega) (by omega) | ((repeat' split) <;> (first | exact sc_Oe (by omega) (by omega) (by omega) (by omega) | (exfalso; omega)))) nb20
  ·
    refine wr_gi3 (k0 := 1) (x := 9) (nx := 7) (r1 := 1) (r2 := 9) (r3 := 0) rfl rfl (by decide) rfl ⟨rfl, rfl⟩ rfl q7 ?_
    refine wi_astore_n (i := 1) (x := mm_XB + (9 : Int).toNat) (lo2 := [(1, wv 9), (0, .ref 68)]) (nx := 8) (r1 := 0) (r2 := 0) (r3 := 0) rfl rfl ?_
    refine wi_aload_n (i := 0) (x := 68) (nx := 9) (r1 := 0) (r2 := 0) (r3 := 0) rfl rfl ?_
    refine wr_gr (k0 := 68) (x := 1) (nx := 12) (r1 := 8) (r2 := 0) (r3 := 0) rfl rfl (by decide) rfl ⟨rfl, rfl⟩ rfl ?_
    refine wr_gi0 (k0 := 1) (x := h 1 5) (nx := 15) (r1 := 1) (r2 := 5) (r3 := 0) rfl rfl (by decide) rfl ⟨rfl, rfl⟩ rfl rfl ?_
    refine wi_iconst (n := 1) (nx := 16) (r1 := 0) (r2 := 0) (r3 := 0) rfl ?_
    refine wi_icmp (cd := .ne) (nx := 19) (r1 := 26) (r2 := 0) (r3 := 0) rfl (by omega) (by omega) (fun (q8 : (h 1 5) ≠ 1) => ?_) (fun (q8 : ¬ ((h 1 5) ≠ 1)) => ?_)
    ·
      refine wi_aload_n (i := 0) (x := 68) (nx := 27) (r1 := 0) (r2 := 0) (r3 := 0) rfl rfl ?_
      refine wr_gr (k0 := 68) (x := 1) (nx := 30) (r1 := 8) (r2 := 0) (r3 := 0) rfl rfl (by decide) rfl ⟨rfl, rfl⟩ rfl ?_
      refine wi_iconst (n := 1) (nx := 31) (r1 := 0) (r2 := 0) (r3 := 0) rfl ?_
      refine wr_V (k0 := 1) (rest := []) (as := [.ref 1, vi 1]) (nx := 34) (r1 := 101) (r2 := 1) (r3 := 1) rfl rfl rfl (of_decide_eq_true rfl) rfl rfl (by decide) rfl rfl (of_decide_eq_true rfl) (of_decide_eq_true rfl) ?_
      refine ct_101_1 hcr  g 1 (by omega)  (fun h9 z10 g9 u9 (fz10 : 0 ≤ z10 ∧ z10 ≤ 0) (p9_0 : z10 = 0) (p9_1 : (h9 1 2) = 1) (p9_2 : (h9 1 3) = (h 1 6)) => ?_)
      have F11 := F0.then (by decide +kernel) u9
      have b12 := gi_b (lo := -2147483648) (hi := 2147483647) g9 1 2 rfl
      have b13 := gi_b (lo := -2147483648) (hi := 2147483647) g9 1 3 rfl
      refine wk_i ?_
      refine wi_zreturn (nx := 35) (r1 := 0) (r2 := 0) (r3 := 0) rfl rfl (by omega) ?_
      have e14 : h9 1 4 = h 1 4 := (u9 1 4 rfl)
      have b15 := gi_b (lo := 0) (hi := 2) g 68 8 rfl
      have e16 : h9 68 8 = h 68 8 := (u9 68 8 rfl)
      have b17 := gi_b (lo := 0) (hi := 40) g 68 9 rfl
      have e18 : h9 68 9 = h 68 9 := (u9 68 9 rfl)
      have q20 : h9 69 = h 69 := funext (fun i => (u9 69 i (fo_no_ok (by decide) i)))
      have q21 : h9 70 = h 70 := funext (fun i => (u9 70 i (fo_no_ok (by decide) i)))
      have nb19 : NBc (h9 69) (h9 70) := by rw [q20, q21]; exact xq1
      exact k h9 z10 g9 F11 (by omega) (show z10 = 0 ∨ z10 = 1 by omega) (by unfold sc_cmd sc_hd sc_num sc_mk; (try dsimp only); (repeat (first | rw [if_pos (by omega)] | rw [if_neg (by omega)])); (repeat ((first | unfold sc_num | unfold sc_mk); (try dsimp only); (repeat (first | rw [if_pos (by omega)] | rw [if_neg (by omega)])))); first | exact sc_Oe (by omega) (by omega) (by omega) (by omega) | ((repeat' split) <;> (first | exact sc_Oe (by omega) (by omega) (by omega) (by omega) | (exfalso; omega)))) nb19
    ·
      refine wi_aload_n (i := 1) (x := mm_XB + (9 : Int).toNat) (nx := 20) (r1 := 0) (r2 := 0) (r3 := 0) rfl rfl ?_
      refine wr_gx (k0 := mm_XB + (9 : Int).toNat) (v := vi 0) (nx := 23) (r1 := 1) (r2 := 0) (r3 := 1) rfl (by decide) (by decide) rfl ?_
      refine wi_if (cd := .ne) (nx := 26) (r1 := 35) (r2 := 0) (r3 := 0) rfl (by omega) (fun (q9 : 0 ≠ 0) => by exfalso; omega) (fun (q9 : ¬ (0 ≠ 0)) => ?_)
      refine wi_aload_n (i := 0) (x := 68) (nx := 27) (r1 := 0) (r2 := 0) (r3 := 0) rfl rfl ?_
      refine wr_gr (k0 := 68) (x := 1) (nx := 30) (r1 := 8) (r2 := 0) (r3 := 0) rfl rfl (by decide) rfl ⟨rfl, rfl⟩ rfl ?_
      refine wi_iconst (n := 1) (nx := 31) (r1 := 0) (r2 := 0) (r3 := 0) rfl ?_
      refine wr_V (k0 := 1) (rest := []) (as := [.ref 1, vi 1]) (nx := 34) (r1 := 101) (r2 := 1) (r3 := 1) rfl rfl rfl (of_decide_eq_true rfl) rfl rfl (by decide) rfl rfl (of_decide_eq_true rfl) (of_decide_eq_true rfl) ?_
      refine ct_101_1 hcr  g 1 (by omega)  (fun h10 z11 g10 u10 (fz11 : 0 ≤ z11 ∧ z11 ≤ 0) (p10_0 : z11 = 0) (p10_1 : (h10 1 2) = 1) (p10_2 : (h10 1 3) = (h 1 6)) => ?_)
      have F12 := F0.then (by decide +kernel) u10
      have b13 := gi_b (lo := -2147483648) (hi := 2147483647) g10 1 2 rfl
      have b14 := gi_b (lo := -2147483648) (hi := 2147483647) g10 1 3 rfl
      refine wk_i ?_
      refine wi_zreturn (nx := 35) (r1 := 0) (r2 := 0) (r3 := 0) rfl rfl (by omega) ?_
      have e15 : h10 1 4 = h 1 4 := (u10 1 4 rfl)
      have b16 := gi_b (lo := 0) (hi := 2) g 68 8 rfl
      have e17 : h10 68 8 = h 68 8 := (u10 68 8 rfl)
      have b18 := gi_b (lo := 0) (hi := 40) g 68 9 rfl
      have e19 : h10 68 9 = h 68 9 := (u10 68 9 rfl)
      have q21 : h10 69 = h 69 := funext (fun i => (u10 69 i (fo_no_ok (by decide) i)))
      have q22 : h10 70 = h 70 := funext (fun i => (u10 70 i (fo_no_ok (by decide) i)))
      have nb20 : NBc (h10 69) (h10 70) := by rw [q21, q22]; exact xq1
      exact k h10 z11 g10 F12 (by omega) (show z11 = 0 ∨ z11 = 1 by omega) (by unfold sc_cmd sc_hd sc_num sc_mk; (try dsimp only); (repeat (first | rw [if_pos (by omega)] | rw [if_neg (by omega)])); (repeat ((first | unfold sc_num | unfold sc_mk); (try dsimp only); (repeat (first | rw [if_pos (by omega)] | rw [if_neg (by omega)])))); first | exact sc_Oe (by omega) (by omega) (by omega) (by omega) | ((repeat' split) <;> (first | exact sc_Oe (by omega) (by omega) (by omega) (by omega) | (exfalso; omega)))) nb20
  ·
    refine wr_gi3 (k0 := 1) (x := 10) (nx := 7) (r1 := 1) (r2 := 9) (r3 := 0) rfl rfl (by decide) rfl ⟨rfl, rfl⟩ rfl q7 ?_
    refine wi_astore_n (i := 1) (x := mm_XB + (10 : Int).toNat) (lo2 := [(1, wv 10), (0, .ref 68)]) (nx := 8) (r1 := 0) (r2 := 0) (r3 := 0) rfl rfl ?_
    refine wi_aload_n (i := 0) (x := 68) (nx := 9) (r1 := 0) (r2 := 0) (r3 := 0) rfl rfl ?_
    refine wr_gr (k0 := 68) (x := 1) (nx := 12) (r1 := 8) (r2 := 0) (r3 := 0) rfl rfl (by decide) rfl ⟨rfl, rfl⟩ rfl ?_
    refine wr_gi0 (k0 := 1) (x := h 1 5) (nx := 15) (r1 := 1) (r2 := 5) (r3 := 0) rfl rfl (by decide) rfl ⟨rfl, rfl⟩ rfl rfl ?_
    refine wi_iconst (n := 1) (nx := 16) (r1 := 0) (r2 := 0) (r3 := 0) rfl ?_
    refine wi_icmp (cd := .ne) (nx := 19) (r1 := 26) (r2 := 0) (r3 := 0) rfl (by omega) (by omega) (fun (q8 : (h 1 5) ≠ 1) => ?_) (fun (q8 : ¬ ((h 1 5) ≠ 1)) => ?_)
    ·
      refine wi_aload_n (i := 0) (x := 68) (nx := 27) (r1 := 0) (r2 := 0) (r3 := 0) rfl rfl ?_
      refine wr_gr (k0 := 68) (x := 1) (nx := 30) (r1 := 8) (r2 := 0) (r3 := 0) rfl rfl (by decide) rfl ⟨rfl, rfl⟩ rfl ?_
      refine wi_iconst (n := 1) (nx := 31) (r1 := 0) (r2 := 0) (r3 := 0) rfl ?_
      refine wr_V (k0 := 1) (rest := []) (as := [.ref 1, vi 1]) (nx := 34) (r1 := 101) (r2 := 1) (r3 := 1) rfl rfl rfl (of_decide_eq_true rfl) rfl rfl (by decide) rfl rfl (of_decide_eq_true rfl) (of_decide_eq_true rfl) ?_
      refine ct_101_1 hcr  g 1 (by omega)  (fun h9 z10 g9 u9 (fz10 : 0 ≤ z10 ∧ z10 ≤ 0) (p9_0 : z10 = 0) (p9_1 : (h9 1 2) = 1) (p9_2 : (h9 1 3) = (h 1 6)) => ?_)
      have F11 := F0.then (by decide +kernel) u9
      have b12 := gi_b (lo := -2147483648) (hi := 2147483647) g9 1 2 rfl
      have b13 := gi_b (lo := -2147483648) (hi := 2147483647) g9 1 3 rfl
      refine wk_i ?_
      refine wi_zreturn (nx := 35) (r1 := 0) (r2 := 0) (r3 := 0) rfl rfl (by omega) ?_
      have e14 : h9 1 4 = h 1 4 := (u9 1 4 rfl)
      have b15 := gi_b (lo := 0) (hi := 2) g 68 8 rfl
      have e16 : h9 68 8 = h 68 8 := (u9 68 8 rfl)
      have b17 := gi_b (lo := 0) (hi := 40) g 68 9 rfl
      have e18 : h9 68 9 = h 68 9 := (u9 68 9 rfl)
      have q20 : h9 69 = h 69 := funext (fun i => (u9 69 i (fo_no_ok (by decide) i)))
      have q21 : h9 70 = h 70 := funext (fun i => (u9 70 i (fo_no_ok (by decide) i)))
      have nb19 : NBc (h9 69) (h9 70) := by rw [q20, q21]; exact xq1
      exact k h9 z10 g9 F11 (by omega) (show z10 = 0 ∨ z10 = 1 by omega) (by unfold sc_cmd sc_hd sc_num sc_mk; (try dsimp only); (repeat (first | rw [if_pos (by omega)] | rw [if_neg (by omega)])); (repeat ((first | unfold sc_num | unfold sc_mk); (try dsimp only); (repeat (first | rw [if_pos (by omega)] | rw [if_neg (by omega)])))); first | exact sc_Oe (by omega) (by omega) (by omega) (by omega) | ((repeat' split) <;> (first | exact sc_Oe (by omega) (by omega) (by omega) (by omega) | (exfalso; omega)))) nb19
    ·
      refine wi_aload_n (i := 1) (x := mm_XB + (10 : Int).toNat) (nx := 20) (r1 := 0) (r2 := 0) (r3 := 0) rfl rfl ?_
      refine wr_gx (k0 := mm_XB + (10 : Int).toNat) (v := vi 0) (nx := 23) (r1 := 1) (r2 := 0) (r3 := 1) rfl (by decide) (by decide) rfl ?_
      refine wi_if (cd := .ne) (nx := 26) (r1 := 35) (r2 := 0) (r3 := 0) rfl (by omega) (fun (q9 : 0 ≠ 0) => by exfalso; omega) (fun (q9 : ¬ (0 ≠ 0)) => ?_)
      refine wi_aload_n (i := 0) (x := 68) (nx := 27) (r1 := 0) (r2 := 0) (r3 := 0) rfl rfl ?_
      refine wr_gr (k0 := 68) (x := 1) (nx := 30) (r1 := 8) (r2 := 0) (r3 := 0) rfl rfl (by decide) rfl ⟨rfl, rfl⟩ rfl ?_
      refine wi_iconst (n := 1) (nx := 31) (r1 := 0) (r2 := 0) (r3 := 0) rfl ?_
      refine wr_V (k0 := 1) (rest := []) (as := [.ref 1, vi 1]) (nx := 34) (r1 := 101) (r2 := 1) (r3 := 1) rfl rfl rfl (of_decide_eq_true rfl) rfl rfl (by decide) rfl rfl (of_decide_eq_true rfl) (of_decide_eq_true rfl) ?_
      refine ct_101_1 hcr  g 1 (by omega)  (fun h10 z11 g10 u10 (fz11 : 0 ≤ z11 ∧ z11 ≤ 0) (p10_0 : z11 = 0) (p10_1 : (h10 1 2) = 1) (p10_2 : (h10 1 3) = (h 1 6)) => ?_)
      have F12 := F0.then (by decide +kernel) u10
      have b13 := gi_b (lo := -2147483648) (hi := 2147483647) g10 1 2 rfl
      have b14 := gi_b (lo := -2147483648) (hi := 2147483647) g10 1 3 rfl
      refine wk_i ?_
      refine wi_zreturn (nx := 35) (r1 := 0) (r2 := 0) (r3 := 0) rfl rfl (by omega) ?_
      have e15 : h10 1 4 = h 1 4 := (u10 1 4 rfl)
      have b16 := gi_b (lo := 0) (hi := 2) g 68 8 rfl
      have e17 : h10 68 8 = h 68 8 := (u10 68 8 rfl)
      have b18 := gi_b (lo := 0) (hi := 40) g 68 9 rfl
      have e19 : h10 68 9 = h 68 9 := (u10 68 9 rfl)
      have q21 : h10 69 = h 69 := funext (fun i => (u10 69 i (fo_no_ok (by decide) i)))
      have q22 : h10 70 = h 70 := funext (fun i => (u10 70 i (fo_no_ok (by decide) i)))
      have nb20 : NBc (h10 69) (h10 70) := by rw [q21, q22]; exact xq1
      exact k h10 z11 g10 F12 (by omega) (show z11 = 0 ∨ z11 = 1 by omega) (by unfold sc_cmd sc_hd sc_num sc_mk; (try dsimp only); (repeat (first | rw [if_pos (by omega)] | rw [if_neg (by omega)])); (repeat ((first | unfold sc_num | unfold sc_mk); (try dsimp only); (repeat (first | rw [if_pos (by omega)] | rw [if_neg (by omega)])))); first | exact sc_Oe (by omega) (by omega) (by omega) (by omega) | ((repeat' split) <;> (first | exact sc_Oe (by omega) (by omega) (by omega) (by omega) | (exfalso; omega)))) nb20
  ·
    refine wr_gi3 (k0 := 1) (x := 11) (nx := 7) (r1 := 1) (r2 := 9) (r3 := 0) rfl rfl (by decide) rfl ⟨rfl, rfl⟩ rfl q7 ?_
    refine wi_astore_n (i := 1) (x := mm_XB + (11 : Int).toNat) (lo2 := [(1, wv 11), (0, .ref 68)]) (nx := 8) (r1 := 0) (r2 := 0) (r3 := 0) rfl rfl ?_
    refine wi_aload_n (i := 0) (x := 68) (nx := 9) (r1 := 0) (r2 := 0) (r3 := 0) rfl rfl ?_
    refine wr_gr (k0 := 68) (x := 1) (nx := 12) (r1 := 8) (r2 := 0) (r3 := 0) rfl rfl (by decide) rfl ⟨rfl, rfl⟩ rfl ?_
    refine wr_gi0 (k0 := 1) (x := h 1 5) (nx := 15) (r1 := 1) (r2 := 5) (r3 := 0) rfl rfl (by decide) rfl ⟨rfl, rfl⟩ rfl rfl ?_
    refine wi_iconst (n := 1) (nx := 16) (r1 := 0) (r2 := 0) (r3 := 0) rfl ?_
    refine wi_icmp (cd := .ne) (nx := 19) (r1 := 26) (r2 := 0) (r3 := 0) rfl (by omega) (by omega) (fun (q8 : (h 1 5) ≠ 1) => ?_) (fun (q8 : ¬ ((h 1 5) ≠ 1)) => ?_)
    ·
      refine wi_aload_n (i := 0) (x := 68) (nx := 27) (r1 := 0) (r2 := 0) (r3 := 0) rfl rfl ?_
      refine wr_gr (k0 := 68) (x := 1) (nx := 30) (r1 := 8) (r2 := 0) (r3 := 0) rfl rfl (by decide) rfl ⟨rfl, rfl⟩ rfl ?_
      refine wi_iconst (n := 1) (nx := 31) (r1 := 0) (r2 := 0) (r3 := 0) rfl ?_
      refine wr_V (k0 := 1) (rest := []) (as := [.ref 1, vi 1]) (nx := 34) (r1 := 101) (r2 := 1) (r3 := 1) rfl rfl rfl (of_decide_eq_true rfl) rfl rfl (by decide) rfl rfl (of_decide_eq_true rfl) (of_decide_eq_true rfl) ?_
      refine ct_101_1 hcr  g 1 (by omega)  (fun h9 z10 g9 u9 (fz10 : 0 ≤ z10 ∧ z10 ≤ 0) (p9_0 : z10 = 0) (p9_1 : (h9 1 2) = 1) (p9_2 : (h9 1 3) = (h 1 6)) => ?_)
      have F11 := F0.then (by decide +kernel) u9
      have b12 := gi_b (lo := -2147483648) (hi := 2147483647) g9 1 2 rfl
      have b13 := gi_b (lo := -2147483648) (hi := 2147483647) g9 1 3 rfl
      refine wk_i ?_
      refine wi_zreturn (nx := 35) (r1 := 0) (r2 := 0) (r3 := 0) rfl rfl (by omega) ?_
      have e14 : h9 1 4 = h 1 4 := (u9 1 4 rfl)
      have b15 := gi_b (lo := 0) (hi := 2) g 68 8 rfl
      have e16 : h9 68 8 = h 68 8 := (u9 68 8 rfl)
      have b17 := gi_b (lo := 0) (hi := 40) g 68 9 rfl
      have e18 : h9 68 9 = h 68 9 := (u9 68 9 rfl)
      have q20 : h9 69 = h 69 := funext (fun i => (u9 69 i (fo_no_ok (by decide) i)))
      have q21 : h9 70 = h 70 := funext (fun i => (u9 70 i (fo_no_ok (by decide) i)))
      have nb19 : NBc (h9 69) (h9 70) := by rw [q20, q21]; exact xq1
      exact k h9 z10 g9 F11 (by omega) (show z10 = 0 ∨ z10 = 1 by omega) (by unfold sc_cmd sc_hd sc_num sc_mk; (try dsimp only); (repeat (first | rw [if_pos (by omega)] | rw [if_neg (by omega)])); (repeat ((first | unfold sc_num | unfold sc_mk); (try dsimp only); (repeat (first | rw [if_pos (by omega)] | rw [if_neg (by omega)])))); first | exact sc_Oe (by omega) (by omega) (by omega) (by omega) | ((repeat' split) <;> (first | exact sc_Oe (by omega) (by omega) (by omega) (by omega) | (exfalso; omega)))) nb19
    ·
      refine wi_aload_n (i := 1) (x := mm_XB + (11 : Int).toNat) (nx := 20) (r1 := 0) (r2 := 0) (r3 := 0) rfl rfl ?_
      refine wr_gx (k0 := mm_XB + (11 : Int).toNat) (v := vi 0) (nx := 23) (r1 := 1) (r2 := 0) (r3 := 1) rfl (by decide) (by decide) rfl ?_
      refine wi_if (cd := .ne) (nx := 26) (r1 := 35) (r2 := 0) (r3 := 0) rfl (by omega) (fun (q9 : 0 ≠ 0) => by exfalso; omega) (fun (q9 : ¬ (0 ≠ 0)) => ?_)
      refine wi_aload_n (i := 0) (x := 68) (nx := 27) (r1 := 0) (r2 := 0) (r3 := 0) rfl rfl ?_
      refine wr_gr (k0 := 68) (x := 1) (nx := 30) (r1 := 8) (r2 := 0) (r3 := 0) rfl rfl (by decide) rfl ⟨rfl, rfl⟩ rfl ?_
      refine wi_iconst (n := 1) (nx := 31) (r1 := 0) (r2 := 0) (r3 := 0) rfl ?_
      refine wr_V (k0 := 1) (rest := []) (as := [.ref 1, vi 1]) (nx := 34) (r1 := 101) (r2 := 1) (r3 := 1) rfl rfl rfl (of_decide_eq_true rfl) rfl rfl (by decide) rfl rfl (of_decide_eq_true rfl) (of_decide_eq_true rfl) ?_
      refine ct_101_1 hcr  g 1 (by omega)  (fun h10 z11 g10 u10 (fz11 : 0 ≤ z11 ∧ z11 ≤ 0) (p10_0 : z11 = 0) (p10_1 : (h10 1 2) = 1) (p10_2 : (h10 1 3) = (h 1 6)) => ?_)
      have F12 := F0.then (by decide +kernel) u10
      have b13 := gi_b (lo := -2147483648) (hi := 2147483647) g10 1 2 rfl
      have b14 := gi_b (lo := -2147483648) (hi := 2147483647) g10 1 3 rfl
      refine wk_i ?_
      refine wi_zreturn (nx := 35) (r1 := 0) (r2 := 0) (r3 := 0) rfl rfl (by omega) ?_
      have e15 : h10 1 4 = h 1 4 := (u10 1 4 rfl)
      have b16 := gi_b (lo := 0) (hi := 2) g 68 8 rfl
      have e17 : h10 68 8 = h 68 8 := (u10 68 8 rfl)
      have b18 := gi_b (lo := 0) (hi := 40) g 68 9 rfl
      have e19 : h10 68 9 = h 68 9 := (u10 68 9 rfl)
      have q21 : h10 69 = h 69 := funext (fun i => (u10 69 i (fo_no_ok (by decide) i)))
      have q22 : h10 70 = h 70 := funext (fun i => (u10 70 i (fo_no_ok (by decide) i)))
      have nb20 : NBc (h10 69) (h10 70) := by rw [q21, q22]; exact xq1
      exact k h10 z11 g10 F12 (by omega) (show z11 = 0 ∨ z11 = 1 by omega) (by unfold sc_cmd sc_hd sc_num sc_mk; (try dsimp only); (repeat (first | rw [if_pos (by omega)] | rw [if_neg (by omega)])); (repeat ((first | unfold sc_num | unfold sc_mk); (try dsimp only); (repeat (first | rw [if_pos (by omega)] | rw [if_neg (by omega)])))); first | exact sc_Oe (by omega) (by omega) (by omega) (by omega) | ((repeat' split) <;> (first | exact sc_Oe (by omega) (by omega) (by omega) (by omega) | (exfalso; omega)))) nb20
  ·
    refine wr_gi3 (k0 := 1) (x := 12) (nx := 7) (r1 := 1) (r2 := 9) (r3 := 0) rfl rfl (by decide) rfl ⟨rfl, rfl⟩ rfl q7 ?_
    refine wi_astore_n (i := 1) (x := mm_XB + (12 : Int).toNat) (lo2 := [(1, wv 12), (0, .ref 68)]) (nx := 8) (r1 := 0) (r2 := 0) (r3 := 0) rfl rfl ?_
    refine wi_aload_n (i := 0) (x := 68) (nx := 9) (r1 := 0) (r2 := 0) (r3 := 0) rfl rfl ?_
    refine wr_gr (k0 := 68) (x := 1) (nx := 12) (r1 := 8) (r2 := 0) (r3 := 0) rfl rfl (by decide) rfl ⟨rfl, rfl⟩ rfl ?_
    refine wr_gi0 (k0 := 1) (x := h 1 5) (nx := 15) (r1 := 1) (r2 := 5) (r3 := 0) rfl rfl (by decide) rfl ⟨rfl, rfl⟩ rfl rfl ?_
    refine wi_iconst (n := 1) (nx := 16) (r1 := 0) (r2 := 0) (r3 := 0) rfl ?_
    refine wi_icmp (cd := .ne) (nx := 19) (r1 := 26) (r2 := 0) (r3 := 0) rfl (by omega) (by omega) (fun (q8 : (h 1 5) ≠ 1) => ?_) (fun (q8 : ¬ ((h 1 5) ≠ 1)) => ?_)
    ·
      refine wi_aload_n (i := 0) (x := 68) (nx := 27) (r1 := 0) (r2 := 0) (r3 := 0) rfl rfl ?_
      refine wr_gr (k0 := 68) (x := 1) (nx := 30) (r1 := 8) (r2 := 0) (r3 := 0) rfl rfl (by decide) rfl ⟨rfl, rfl⟩ rfl ?_
      refine wi_iconst (n := 1) (nx := 31) (r1 := 0) (r2 := 0) (r3 := 0) rfl ?_
      refine wr_V (k0 := 1) (rest := []) (as := [.ref 1, vi 1]) (nx := 34) (r1 := 101) (r2 := 1) (r3 := 1) rfl rfl rfl (of_decide_eq_true rfl) rfl rfl (by decide) rfl rfl (of_decide_eq_true rfl) (of_decide_eq_true rfl) ?_
      refine ct_101_1 hcr  g 1 (by omega)  (fun h9 z10 g9 u9 (fz10 : 0 ≤ z10 ∧ z10 ≤ 0) (p9_0 : z10 = 0) (p9_1 : (h9 1 2) = 1) (p9_2 : (h9 1 3) = (h 1 6)) => ?_)
      have F11 := F0.then (by decide +kernel) u9
      have b12 := gi_b (lo := -2147483648) (hi := 2147483647) g9 1 2 rfl
      have b13 := gi_b (lo := -2147483648) (hi := 2147483647) g9 1 3 rfl
      refine wk_i ?_
      refine wi_zreturn (nx := 35) (r1 := 0) (r2 := 0) (r3 := 0) rfl rfl (by omega) ?_
      have e14 : h9 1 4 = h 1 4 := (u9 1 4 rfl)
      have b15 := gi_b (lo := 0) (hi := 2) g 68 8 rfl
      have e16 : h9 68 8 = h 68 8 := (u9 68 8 rfl)
      have b17 := gi_b (lo := 0) (hi := 40) g 68 9 rfl
      have e18 : h9 68 9 = h 68 9 := (u9 68 9 rfl)
      have q20 : h9 69 = h 69 := funext (fun i => (u9 69 i (fo_no_ok (by decide) i)))
      have q21 : h9 70 = h 70 := funext (fun i => (u9 70 i (fo_no_ok (by decide) i)))
      have nb19 : NBc (h9 69) (h9 70) := by rw [q20, q21]; exact xq1
      exact k h9 z10 g9 F11 (by omega) (show z10 = 0 ∨ z10 = 1 by omega) (by unfold sc_cmd sc_hd sc_num sc_mk; (try dsimp only); (repeat (first | rw [if_pos (by omega)] | rw [if_neg (by omega)])); (repeat ((first | unfold sc_num | unfold sc_mk); (try dsimp only); (repeat (first | rw [if_pos (by omega)] | rw [if_neg (by omega)])))); first | exact sc_Oe (by omega) (by omega) (by omega) (by omega) | ((repeat' split) <;> (first | exact sc_Oe (by omega) (by omega) (by omega) (by omega) | (exfalso; omega)))) nb19
    ·
      refine wi_aload_n (i := 1) (x := mm_XB + (12 : Int).toNat) (nx := 20) (r1 := 0) (r2 := 0) (r3 := 0) rfl rfl ?_
      refine wr_gx (k0 := mm_XB + (12 : Int).toNat) (v := vi 0) (nx := 23) (r1 := 1) (r2 := 0) (r3 := 1) rfl (by decide) (by decide) rfl ?_
      refine wi_if (cd := .ne) (nx := 26) (r1 := 35) (r2 := 0) (r3 := 0) rfl (by omega) (fun (q9 : 0 ≠ 0) => by exfalso; omega) (fun (q9 : ¬ (0 ≠ 0)) => ?_)
      refine wi_aload_n (i := 0) (x := 68) (nx := 27) (r1 := 0) (r2 := 0) (r3 := 0) rfl rfl ?_
      refine wr_gr (k0 := 68) (x := 1) (nx := 30) (r1 := 8) (r2 := 0) (r3 := 0) rfl rfl (by decide) rfl ⟨rfl, rfl⟩ rfl ?_
      refine wi_iconst (n := 1) (nx := 31) (r1 := 0) (r2 := 0) (r3 := 0) rfl ?_
      refine wr_V (k0 := 1) (rest := []) (as := [.ref 1, vi 1]) (nx := 34) (r1 := 101) (r2 := 1) (r3 := 1) rfl rfl rfl (of_decide_eq_true rfl) rfl rfl (by decide) rfl rfl (of_decide_eq_true rfl) (of_decide_eq_true rfl) ?_
      refine ct_101_1 hcr  g 1 (by omega)  (fun h10 z11 g10 u10 (fz11 : 0 ≤ z11 ∧ z11 ≤ 0) (p10_0 : z11 = 0) (p10_1 : (h10 1 2) = 1) (p10_2 : (h10 1 3) = (h 1 6)) => ?_)
      have F12 := F0.then (by decide +kernel) u10
      have b13 := gi_b (lo := -2147483648) (hi := 2147483647) g10 1 2 rfl
      have b14 := gi_b (lo := -2147483648) (hi := 2147483647) g10 1 3 rfl
      refine wk_i ?_
      refine wi_zreturn (nx := 35) (r1 := 0) (r2 := 0) (r3 := 0) rfl rfl (by omega) ?_
      have e15 : h10 1 4 = h 1 4 := (u10 1 4 rfl)
      have b16 := gi_b (lo := 0) (hi := 2) g 68 8 rfl
      have e17 : h10 68 8 = h 68 8 := (u10 68 8 rfl)
      have b18 := gi_b (lo := 0) (hi := 40) g 68 9 rfl
      have e19 : h10 68 9 = h 68 9 := (u10 68 9 rfl)
      have q21 : h10 69 = h 69 := funext (fun i => (u10 69 i (fo_no_ok (by decide) i)))
      have q22 : h10 70 = h 70 := funext (fun i => (u10 70 i (fo_no_ok (by decide) i)))
      have nb20 : NBc (h10 69) (h10 70) := by rw [q21, q22]; exact xq1
      exact k h10 z11 g10 F12 (by omega) (show z11 = 0 ∨ z11 = 1 by omega) (by unfold sc_cmd sc_hd sc_num sc_mk; (try dsimp only); (repeat (first | rw [if_pos (by omega)] | rw [if_neg (by omega)])); (repeat ((first | unfold sc_num | unfold sc_mk); (try dsimp only); (repeat (first | rw [if_pos (by omega)] | rw [if_neg (by omega)])))); first | exact sc_Oe (by omega) (by omega) (by omega) (by omega) | ((repeat' split) <;> (first | exact sc_Oe (by omega) (by omega) (by omega) (by omega) | (exfalso; omega)))) nb20
  ·
    refine wr_gi3 (k0 := 1) (x := 13) (nx := 7) (r1 := 1) (r2 := 9) (r3 := 0) rfl rfl (by decide) rfl ⟨rfl, rfl⟩ rfl q7 ?_
    refine wi_astore_n (i := 1) (x := mm_XB + (13 : Int).toNat) (lo2 := [(1, wv 13), (0, .ref 68)]) (nx := 8) (r1 := 0) (r2 := 0) (r3 := 0) rfl rfl ?_
    refine wi_aload_n (i := 0) (x := 68) (nx := 9) (r1 := 0) (r2 := 0) (r3 := 0) rfl rfl ?_
    refine wr_gr (k0 := 68) (x := 1) (nx := 12) (r1 := 8) (r2 := 0) (r3 := 0) rfl rfl (by decide) rfl ⟨rfl, rfl⟩ rfl ?_
    refine wr_gi0 (k0 := 1) (x := h 1 5) (nx := 15) (r1 := 1) (r2 := 5) (r3 := 0) rfl rfl (by decide) rfl ⟨rfl, rfl⟩ rfl rfl ?_
    refine wi_iconst (n := 1) (nx := 16) (r1 := 0) (r2 := 0) (r3 := 0) rfl ?_
    refine wi_icmp (cd := .ne) (nx := 19) (r1 := 26) (r2 := 0) (r3 := 0) rfl (by omega) (by omega) (fun (q8 : (h 1 5) ≠ 1) => ?_) (fun (q8 : ¬ ((h 1 5) ≠ 1)) => ?_)
    ·
      refine wi_aload_n (i := 0) (x := 68) (nx := 27) (r1 := 0) (r2 := 0) (r3 := 0) rfl rfl ?_
      refine wr_gr (k0 := 68) (x := 1) (nx := 30) (r1 := 8) (r2 := 0) (r3 := 0) rfl rfl (by decide) rfl ⟨rfl, rfl⟩ rfl ?_
      refine wi_iconst (n := 1) (nx := 31) (r1 := 0) (r2 := 0) (r3 := 0) rfl ?_
      refine wr_V (k0 := 1) (rest := []) (as := [.ref 1, vi 1]) (nx := 34) (r1 := 101) (r2 := 1) (r3 := 1) rfl rfl rfl (of_decide_eq_true rfl) rfl rfl (by decide) rfl rfl (of_decide_eq_true rfl) (of_decide_eq_true rfl) ?_
      refine ct_101_1 hcr  g 1 (by omega)  (fun h9 z10 g9 u9 (fz10 : 0 ≤ z10 ∧ z10 ≤ 0) (p9_0 : z10 = 0) (p9_1 : (h9 1 2) = 1) (p9_2 : (h9 1 3) = (h 1 6)) => ?_)
      have F11 := F0.then (by decide +kernel) u9
      have b12 := gi_b (lo := -2147483648) (hi := 2147483647) g9 1 2 rfl
      have b13 := gi_b (lo := -2147483648) (hi := 2147483647) g9 1 3 rfl
      refine wk_i ?_
      refine wi_zreturn (nx := 35) (r1 := 0) (r2 := 0) (r3 := 0) rfl rfl (by omega) ?_
      have e14 : h9 1 4 = h 1 4 := (u9 1 4 rfl)
      have b15 := gi_b (lo := 0) (hi := 2) g 68 8 rfl
      have e16 : h9 68 8 = h 68 8 := (u9 68 8 rfl)
      have b17 := gi_b (lo := 0) (hi := 40) g 68 9 rfl
      have e18 : h9 68 9 = h 68 9 := (u9 68 9 rfl)
      have q20 : h9 69 = h 69 := funext (fun i => (u9 69 i (fo_no_ok (by decide) i)))
      have q21 : h9 70 = h 70 := funext (fun i => (u9 70 i (fo_no_ok (by decide) i)))
      have nb19 : NBc (h9 69) (h9 70) := by rw [q20, q21]; exact xq1
      exact k h9 z10 g9 F11 (by omega) (show z10 = 0 ∨ z10 = 1 by omega) (by unfold sc_cmd sc_hd sc_num sc_mk; (try dsimp only); (repeat (first | rw [if_pos (by omega)] | rw [if_neg (by omega)])); (repeat ((first | unfold sc_num | unfold sc_mk); (try dsimp only); (repeat (first | rw [if_pos (by omega)] | rw [if_neg (by omega)])))); first | exact sc_Oe (by omega) (by omega) (by omega) (by omega) | ((repeat' split) <;> (first | exact sc_Oe (by omega) (by omega) (by omega) (by omega) | (exfalso; omega)))) nb19
    ·
      refine wi_aload_n (i := 1) (x := mm_XB + (13 : Int).toNat) (nx := 20) (r1 := 0) (r2 := 0) (r3 := 0) rfl rfl ?_
      refine wr_gx (k0 := mm_XB + (13 : Int).toNat) (v := vi 1) (nx := 23) (r1 := 1) (r2 := 0) (r3 := 1) rfl (by decide) (by decide) rfl ?_
      refine wi_if (cd := .ne) (nx := 26) (r1 := 35) (r2 := 0) (r3 := 0) rfl (by omega) (fun (q9 : 1 ≠ 0) => ?_) (fun (q9 : ¬ (1 ≠ 0)) => by exfalso; omega)
      refine wi_aload_n (i := 1) (x := mm_XB + (13 : Int).toNat) (nx := 36) (r1 := 0) (r2 := 0) (r3 := 0) rfl rfl ?_
      refine wr_gst (v := wv 20) (nx := 39) (r1 := 19) (r2 := 0) (r3 := 0) rfl rfl rfl ?_
      refine wr_acmp (cd := .ne) (x := 13) (y := 20) (nx := 42) (r1 := 59) (r2 := 0) (r3 := 0) rfl (by omega) (by omega) (fun _ => ?_) (fun q => absurd (by decide) q)
      refine wi_aload_n (i := 0) (x := 68) (nx := 60) (r1 := 0) (r2 := 0) (r3 := 0) rfl rfl ?_
      have b11 := gi_b (lo := 0) (hi := 40) g 68 9 rfl
      refine wr_gi0 (k0 := 68) (x := h 68 9) (nx := 63) (r1 := 8) (r2 := 9) (r3 := 0) rfl rfl (by decide) rfl ⟨rfl, rfl⟩ rfl rfl ?_
      refine wi_bipush (n := 40) (nx := 65) (r1 := 0) (r2 := 0) (r3 := 0) rfl (by decide) ?_
      refine wi_icmp (cd := .lt) (nx := 68) (r1 := 77) (r2 := 0) (r3 := 0) rfl (by omega) (by omega) (fun (q12 : (h 68 9) < 40) => ?_) (fun (q12 : ¬ ((h 68 9) < 40)) => ?_)
      ·
        refine wi_aload_n (i := 0) (x := 68) (nx := 78) (r1 := 0) (r2 := 0) (r3 := 0) rfl rfl ?_
        refine wi_dup (nx := 79) (r1 := 0) (r2 := 0) (r3 := 0) rfl rfl ?_
        refine wr_gi0 (k0 := 68) (x := h 68 9) (nx := 82) (r1 := 8) (r2 := 9) (r3 := 0) rfl rfl (by decide) rfl ⟨rfl, rfl⟩ rfl rfl ?_
        refine wi_iconst (n := 1) (nx := 83) (r1 := 0) (r2 := 0) (r3 := 0) rfl ?_
        refine wr_add (nx := 84) (r1 := 0) (r2 := 0) (r3 := 0) rfl (fun e13 (fe13 : e13 = (h 68 9) + 1) => ?_)
        refine wr_pf0 (k0 := 68) (x := e13) (bl := 0) (bh := 40) (nx := 87) (r1 := 8) (r2 := 9) (r3 := 0) rfl (by decide) rfl ⟨rfl, rfl⟩ rfl rfl g rfl (by omega) (fun h14 g14 w14 u14 => ?_)
        have F15 := F0.then rfl u14
        refine wi_aload_n (i := 1) (x := mm_XB + (13 : Int).toNat) (nx := 88) (r1 := 0) (r2 := 0) (r3 := 0) rfl rfl ?_
        refine wr_gx (k0 := mm_XB + (13 : Int).toNat) (v := vi 3) (nx := 91) (r1 := 3) (r2 := 0) (r3 := 1) rfl (by decide) (by decide) rfl ?_
        refine wi_if (cd := .le) (nx := 94) (r1 := 114) (r2 := 0) (r3 := 0) rfl (by omega) (fun (q16 : 3 ≤ 0) => by exfalso; omega) (fun (q16 : ¬ (3 ≤ 0)) => ?_)
        refine wi_aload_n (i := 0) (x := 68) (nx := 95) (r1 := 0) (r2 := 0) (r3 := 0) rfl rfl ?_
        refine wr_gr (k0 := 68) (x := 1) (nx := 98) (r1 := 8) (r2 := 0) (r3 := 0) rfl rfl (by decide) rfl ⟨rfl, rfl⟩ rfl ?_
        refine wi_aload_n (i := 1) (x := mm_XB + (13 : Int).toNat) (nx := 99) (r1 := 0) (r2 := 0) (r3 := 0) rfl rfl ?_
        refine wr_gx (k0 := mm_XB + (13 : Int).toNat) (v := vi 0) (nx := 102) (r1 := 2) (r2 := 0) (r3 := 1) rfl (by decide) (by decide) rfl ?_
        refine wi_aload_n (i := 1) (x := mm_XB + (13 : Int).toNat) (nx := 103) (r1 := 0) (r2 := 0) (r3 := 0) rfl rfl ?_
        refine wr_gx (k0 := mm_XB + (13 : Int).toNat) (v := vi 3) (nx := 106) (r1 := 3) (r2 := 0) (r3 := 1) rfl (by decide) (by decide) rfl ?_
        refine wr_V (k0 := 1) (rest := []) (as := [.ref 1, vi 0, vi 3]) (nx := 109) (r1 := 103) (r2 := 2) (r3 := 1) rfl rfl rfl (of_decide_eq_true rfl) rfl rfl (by decide) rfl rfl (of_decide_eq_true rfl) (of_decide_eq_true rfl) ?_
        have e18 : h14 1 4 = h 1 4 := (u14 1 4 rfl)
        have tb20 := BufC.fr u14 rfl xq0
        refine ct_103_1 hcr  g14 0 3 (by omega) (by omega) (show (h14 1 4) = (tk_nx tB tn tp) by omega) (show 0 ≤ (tk_nx tB tn tp) by omega) (show (tk_nx tB tn tp) ≤ tn by omega) tb20 (fun h17 z19 g17 u17 (fz19 : 0 ≤ z19 ∧ z19 ≤ 1) (p17_0 : (z19 = 1 ∧ tk_kd tB tn (tk_nx tB tn tp) = 2 ∧ 0 ≤ tk_nb tB tn (tk_nx tB tn tp) ∧ tk_nb tB tn (tk_nx tB tn tp) ≤ 3 ∧ (h17 1 4) = tk_nx tB tn (tk_nx tB tn tp) ∧ (h17 1 7) = tk_nb tB tn (tk_nx tB tn tp) ∧ (h17 1 2) = (h14 1 2) ∧ (h17 1 3) = (h14 1 3)) ∨ (z19 = 0 ∧ (h17 1 3) = tk_st tB tn (tk_nx tB tn tp) ∧ ((tk_kd tB tn (tk_nx tB tn tp) ≠ 2 ∧ (h17 1 2) = 1) ∨ (tk_kd tB tn (tk_nx tB tn tp) = 2 ∧ (tk_nb tB tn (tk_nx tB tn tp) < 0 ∨ 3 < tk_nb tB tn (tk_nx tB tn tp)) ∧ (h17 1 2) = 2)))) => ?_)
        have F21 := F15.then (by decide +kernel) u17
        have e22 : h14 1 2 = h 1 2 := (u14 1 2 rfl)
        have e23 : h14 1 3 = h 1 3 := (u14 1 3 rfl)
        have b24 := gi_b (lo := 0) (hi := 800) g17 1 4 rfl
        have b25 := gi_b (lo := -2147483648) (hi := 2147483647) g17 1 7 rfl
        have b26 := gi_b (lo := -2147483648) (hi := 2147483647) g17 1 2 rfl
        have b27 := gi_b (lo := -2147483648) (hi := 2147483647) g17 1 3 rfl
        have tN28 := @tk_nx_b tB tn (tk_nx tB tn tp) (by omega) (by omega)
        refine wk_i ?_
        refine wi_if (cd := .ne) (nx := 112) (r1 := 114) (r2 := 0) (r3 := 0) rfl (by omega) (fun (q29 : z19 ≠ 0) => ?_) (fun (q29 : ¬ (z19 ≠ 0)) => ?_)
        ·
          refine wi_aload_n (i := 0) (x := 68) (nx := 115) (r1 := 0) (r2 := 0) (r3 := 0) rfl rfl ?_
          refine wi_aload_n (i := 1) (x := mm_XB + (13 : Int).toNat) (nx := 116) (r1 := 0) (r2 := 0) (r3 := 0) rfl rfl ?_
          refine wi_aload_n (i := 0) (x := 68) (nx := 117) (r1 := 0) (r2 := 0) (r3 := 0) rfl rfl ?_
          refine wr_gr (k0 := 68) (x := 1) (nx := 120) (r1 := 8) (r2 := 0) (r3 := 0) rfl rfl (by decide) rfl ⟨rfl, rfl⟩ rfl ?_
          refine wr_gi0 (k0 := 1) (x := h17 1 7) (nx := 123) (r1 := 1) (r2 := 7) (r3 := 0) rfl rfl (by decide) rfl ⟨rfl, rfl⟩ rfl rfl ?_
          refine wr_V (k0 := 68) (rest := []) (as := [.ref 68, wv 13, vi (h17 1 7)]) (nx := 126) (r1 := 184) (r2 := 2) (r3 := 8) rfl rfl rfl (of_decide_eq_true rfl) rfl rfl (by decide) rfl rfl (of_decide_eq_true rfl) (of_decide_eq_true rfl) ?_
          have q32 : h17 69 = h 69 := funext (fun i => ((u17 69 i (fo_no_ok (by decide) i)).trans (u14 69 i rfl)))
          have q33 : h17 70 = h 70 := funext (fun i => ((u17 70 i (fo_no_ok (by decide) i)).trans (u14 70 i rfl)))
          have nb31 : NBc (h17 69) (h17 70) := by rw [q32, q33]; exact xq1
          refine ct_184_68 hcr  g17 13 (h17 1 7) (by omega) (by omega) (show (13 ≠ 16 ∧ 13 ≠ 17) ∨ (0 ≤ (h17 1 7) ∧ (h17 1 7) ≤ 99) by omega) nb31 (fun h30 g30 u30 y30_0 => ?_)
          have F34 := F21.then (by decide +kernel) u30
          refine wk_n ?_
          refine wi_aload_n (i := 1) (x := mm_XB + (13 : Int).toNat) (nx := 127) (r1 := 0) (r2 := 0) (r3 := 0) rfl rfl ?_
          refine wr_gst (v := wv 20) (nx := 130) (r1 := 19) (r2 := 0) (r3 := 0) rfl rfl rfl ?_
          refine wr_acmp (cd := .ne) (x := 13) (y := 20) (nx := 133) (r1 := 166) (r2 := 0) (r3 := 0) rfl (by omega) (by omega) (fun _ => ?_) (fun q => absurd (by decide) q)
          refine wi_aload_n (i := 0) (x := 68) (nx := 167) (r1 := 0) (r2 := 0) (r3 := 0) rfl rfl ?_
          refine wr_gr (k0 := 68) (x := 1) (nx := 170) (r1 := 8) (r2 := 0) (r3 := 0) rfl rfl (by decide) rfl ⟨rfl, rfl⟩ rfl ?_
          refine wr_V (k0 := 1) (rest := []) (as := [.ref 1]) (nx := 173) (r1 := 105) (r2 := 0) (r3 := 1) rfl rfl rfl (of_decide_eq_true rfl) rfl rfl (by decide) rfl rfl (of_decide_eq_true rfl) (of_decide_eq_true rfl) ?_
          have e37 : h30 1 4 = h17 1 4 := (u30 1 4 rfl)
          have tb39 := BufC.fr u17 rfl tb20
          have tb40 := BufC.fr u30 rfl tb39
          refine ct_105_1 hcr  g30   (show (h30 1 4) = (tk_nx tB tn (tk_nx tB tn tp)) by omega) (show 0 ≤ (tk_nx tB tn (tk_nx tB tn tp)) by omega) (show (tk_nx tB tn (tk_nx tB tn tp)) ≤ tn by omega) tb40 (fun h36 z38 g36 u36 (fz38 : 0 ≤ z38 ∧ z38 ≤ 1) (p36_0 : (z38 = 1 ∧ tk_kd tB tn (tk_nx tB tn (tk_nx tB tn tp)) = 3 ∧ (h36 1 4) = tk_nx tB tn (tk_nx tB tn (tk_nx tB tn tp)) ∧ (h36 1 2) = (h30 1 2) ∧ (h36 1 3) = (h30 1 3)) ∨ (z38 = 0 ∧ tk_kd tB tn (tk_nx tB tn (tk_nx tB tn tp)) ≠ 3 ∧ (h36 1 2) = 1 ∧ (h36 1 3) = tk_st tB tn (tk_nx tB tn (tk_nx tB tn tp)))) => ?_)
          have F41 := F34.then (by decide +kernel) u36
          have e42 : h30 1 2 = h17 1 2 := (u30 1 2 rfl)
          have e43 : h30 1 3 = h17 1 3 := (u30 1 3 rfl)
          have b44 := gi_b (lo := 0) (hi := 800) g36 1 4 rfl
          have b45 := gi_b (lo := -2147483648) (hi := 2147483647) g36 1 2 rfl
          have b46 := gi_b (lo := -2147483648) (hi := 2147483647) g36 1 3 rfl
          have tN47 := @tk_nx_b tB tn (tk_nx tB tn (tk_nx tB tn tp)) (by omega) (by omega)
          refine wk_i ?_
          refine wi_zreturn (nx := 174) (r1 := 0) (r2 := 0) (r3 := 0) rfl rfl (by omega) ?_
          have b48 := gi_b (lo := 0) (hi := 2) g 68 8 rfl
          have e49 : h36 68 8 = h 68 8 := ((u36 68 8 rfl).trans ((u30 68 8 rfl).trans ((u17 68 8 rfl).trans (u14 68 8 rfl))))
          have e50 : h36 68 9 = e13 := ((u36 68 9 rfl).trans ((u30 68 9 rfl).trans ((u17 68 9 rfl).trans w14)))
          have q52 : h36 69 = h30 69 := funext (fun i => (u36 69 i (fo_no_ok (by decide) i)))
          have q53 : h36 70 = h30 70 := funext (fun i => (u36 70 i (fo_no_ok (by decide) i)))
          have nb51 : NBc (h36 69) (h36 70) := by rw [q52, q53]; exact y30_0
          exact k h36 z38 g36 F41 (by omega) (show z38 = 0 ∨ z38 = 1 by omega) (by rcases (show z38 = 0 ∨ z38 = 1 by omega) with zz | zz; (unfold sc_cmd sc_hd sc_num sc_mk; (try dsimp only); (repeat (first | rw [if_pos (by omega)] | rw [if_neg (by omega)])); (repeat ((first | unfold sc_num | unfold sc_mk); (try dsimp only); (repeat (first | rw [if_pos (by omega)] | rw [if_neg (by omega)])))); exact sc_Oe (by omega) (by omega) (by omega) (by omega)); (unfold sc_cmd sc_hd sc_num sc_mk; (try dsimp only); (repeat (first | rw [if_pos (by omega)] | rw [if_neg (by omega)])); (repeat ((first | unfold sc_num | unfold sc_mk); (try dsimp only); (repeat (first | rw [if_pos (by omega)] | rw [if_neg (by omega)])))); exact sc_Os (by omega) (by omega) (by omega) (by omega) (by omega) (by omega))) nb51
        ·
          refine wi_iconst (n := 0) (nx := 113) (r1 := 0) (r2 := 0) (r3 := 0) rfl ?_
          refine wi_zreturn (nx := 114) (r1 := 0) (r2 := 0) (r3 := 0) rfl rfl (by omega) ?_
          have b30 := gi_b (lo := 0) (hi := 2) g 68 8 rfl
          have e31 : h17 68 8 = h 68 8 := ((u17 68 8 rfl).trans (u14 68 8 rfl))
          have e32 : h17 68 9 = e13 := ((u17 68 9 rfl).trans w14)
          have q34 : h17 69 = h 69 := funext (fun i => ((u17 69 i (fo_no_ok (by decide) i)).trans (u14 69 i rfl)))
          have q35 : h17 70 = h 70 := funext (fun i => ((u17 70 i (fo_no_ok (by decide) i)).trans (u14 70 i rfl)))
          have nb33 : NBc (h17 69) (h17 70) := by rw [q34, q35]; exact xq1
          exact k h17 0 g17 F21 (by omega) (show 0 = 0 ∨ 0 = 1 by omega) (by unfold sc_cmd sc_hd sc_num sc_mk; (try dsimp only); (repeat (first | rw [if_pos (by omega)] | rw [if_neg (by omega)])); (repeat ((first | unfold sc_num | unfold sc_mk); (try dsimp only); (repeat (first | rw [if_pos (by omega)] | rw [if_neg (by omega)])))); first | exact sc_Oe (by omega) (by omega) (by omega) (by omega) | ((repeat' split) <;> (first | exact sc_Oe (by omega) (by omega) (by omega) (by omega) | (exfalso; omega)))) nb33
      ·
        refine wi_aload_n (i := 0) (x := 68) (nx := 69) (r1 := 0) (r2 := 0) (r3 := 0) rfl rfl ?_
        refine wr_gr (k0 := 68) (x := 1) (nx := 72) (r1 := 8) (r2 := 0) (r3 := 0) rfl rfl (by decide) rfl ⟨rfl, rfl⟩ rfl ?_
        refine wi_iconst (n := 5) (nx := 73) (r1 := 0) (r2 := 0) (r3 := 0) rfl ?_
        refine wr_V (k0 := 1) (rest := []) (as := [.ref 1, vi 5]) (nx := 76) (r1 := 101) (r2 := 1) (r3 := 1) rfl rfl rfl (of_decide_eq_true rfl) rfl rfl (by decide) rfl rfl (of_decide_eq_true rfl) (of_decide_eq_true rfl) ?_
        refine ct_101_1 hcr  g 5 (by omega)  (fun h13 z14 g13 u13 (fz14 : 0 ≤ z14 ∧ z14 ≤ 0) (p13_0 : z14 = 0) (p13_1 : (h13 1 2) = 5) (p13_2 : (h13 1 3) = (h 1 6)) => ?_)
        have F15 := F0.then (by decide +kernel) u13
        have b16 := gi_b (lo := -2147483648) (hi := 2147483647) g13 1 2 rfl
        have b17 := gi_b (lo := -2147483648) (hi := 2147483647) g13 1 3 rfl
        refine wk_i ?_
        refine wi_zreturn (nx := 77) (r1 := 0) (r2 := 0) (r3 := 0) rfl rfl (by omega) ?_
        have e18 : h13 1 4 = h 1 4 := (u13 1 4 rfl)
        have b19 := gi_b (lo := 0) (hi := 2) g 68 8 rfl
        have e20 : h13 68 8 = h 68 8 := (u13 68 8 rfl)
        have e21 : h13 68 9 = h 68 9 := (u13 68 9 rfl)
        have q23 : h13 69 = h 69 := funext (fun i => (u13 69 i (fo_no_ok (by decide) i)))
        have q24 : h13 70 = h 70 := funext (fun i => (u13 70 i (fo_no_ok (by decide) i)))
        have nb22 : NBc (h13 69) (h13 70) := by rw [q23, q24]; exact xq1
        exact k h13 z14 g13 F15 (by omega) (show z14 = 0 ∨ z14 = 1 by omega) (by unfold sc_cmd sc_hd sc_num sc_mk; (try dsimp only); (repeat (first | rw [if_pos (by omega)] | rw [if_neg (by omega)])); (repeat ((first | unfold sc_num | unfold sc_mk); (try dsimp only); (repeat (first | rw [if_pos (by omega)] | rw [if_neg (by omega)])))); first | exact sc_Oe (by omega) (by omega) (by omega) (by omega) | ((repeat' split) <;> (first | exact sc_Oe (by omega) (by omega) (by omega) (by omega) | (exfalso; omega)))) nb22
  ·
    refine wr_gi3 (k0 := 1) (x := 14) (nx := 7) (r1 := 1) (r2 := 9) (r3 := 0) rfl rfl (by decide) rfl ⟨rfl, rfl⟩ rfl q7 ?_
    refine wi_astore_n (i := 1) (x := mm_XB + (14 : Int).toNat) (lo2 := [(1, wv 14), (0, .ref 68)]) (nx := 8) (r1 := 0) (r2 := 0) (r3 := 0) rfl rfl ?_
    refine wi_aload_n (i := 0) (x := 68) (nx := 9) (r1 := 0) (r2 := 0) (r3 := 0) rfl rfl ?_
    refine wr_gr (k0 := 68) (x := 1) (nx := 12) (r1 := 8) (r2 := 0) (r3 := 0) rfl rfl (by decide) rfl ⟨rfl, rfl⟩ rfl ?_
    refine wr_gi0 (k0 := 1) (x := h 1 5) (nx := 15) (r1 := 1) (r2 := 5) (r3 := 0) rfl rfl (by decide) rfl ⟨rfl, rfl⟩ rfl rfl ?_
    refine wi_iconst (n := 1) (nx := 16) (r1 := 0) (r2 := 0) (r3 := 0) rfl ?_
    refine wi_icmp (cd := .ne) (nx := 19) (r1 := 26) (r2 := 0) (r3 := 0) rfl (by omega) (by omega) (fun (q8 : (h 1 5) ≠ 1) => ?_) (fun (q8 : ¬ ((h 1 5) ≠ 1)) => ?_)
    ·
      refine wi_aload_n (i := 0) (x := 68) (nx := 27) (r1 := 0) (r2 := 0) (r3 := 0) rfl rfl ?_
      refine wr_gr (k0 := 68) (x := 1) (nx := 30) (r1 := 8) (r2 := 0) (r3 := 0) rfl rfl (by decide) rfl ⟨rfl, rfl⟩ rfl ?_
      refine wi_iconst (n := 1) (nx := 31) (r1 := 0) (r2 := 0) (r3 := 0) rfl ?_
      refine wr_V (k0 := 1) (rest := []) (as := [.ref 1, vi 1]) (nx := 34) (r1 := 101) (r2 := 1) (r3 := 1) rfl rfl rfl (of_decide_eq_true rfl) rfl rfl (by decide) rfl rfl (of_decide_eq_true rfl) (of_decide_eq_true rfl) ?_
      refine ct_101_1 hcr  g 1 (by omega)  (fun h9 z10 g9 u9 (fz10 : 0 ≤ z10 ∧ z10 ≤ 0) (p9_0 : z10 = 0) (p9_1 : (h9 1 2) = 1) (p9_2 : (h9 1 3) = (h 1 6)) => ?_)
      have F11 := F0.then (by decide +kernel) u9
      have b12 := gi_b (lo := -2147483648) (hi := 2147483647) g9 1 2 rfl
      have b13 := gi_b (lo := -2147483648) (hi := 2147483647) g9 1 3 rfl
      refine wk_i ?_
      refine wi_zreturn (nx := 35) (r1 := 0) (r2 := 0) (r3 := 0) rfl rfl (by omega) ?_
      have e14 : h9 1 4 = h 1 4 := (u9 1 4 rfl)
      have b15 := gi_b (lo := 0) (hi := 2) g 68 8 rfl
      have e16 : h9 68 8 = h 68 8 := (u9 68 8 rfl)
      have b17 := gi_b (lo := 0) (hi := 40) g 68 9 rfl
      have e18 : h9 68 9 = h 68 9 := (u9 68 9 rfl)
      have q20 : h9 69 = h 69 := funext (fun i => (u9 69 i (fo_no_ok (by decide) i)))
      have q21 : h9 70 = h 70 := funext (fun i => (u9 70 i (fo_no_ok (by decide) i)))
      have nb19 : NBc (h9 69) (h9 70) := by rw [q20, q21]; exact xq1
      exact k h9 z10 g9 F11 (by omega) (show z10 = 0 ∨ z10 = 1 by omega) (by unfold sc_cmd sc_hd sc_num sc_mk; (try dsimp only); (repeat (first | rw [if_pos (by omega)] | rw [if_neg (by omega)])); (repeat ((first | unfold sc_num | unfold sc_mk); (try dsimp only); (repeat (first | rw [if_pos (by omega)] | rw [if_neg (by omega)])))); first | exact sc_Oe (by omega) (by omega) (by omega) (by omega) | ((repeat' split) <;> (first | exact sc_Oe (by omega) (by omega) (by omega) (by omega) | (exfalso; omega)))) nb19
    ·
      refine wi_aload_n (i := 1) (x := mm_XB + (14 : Int).toNat) (nx := 20) (r1 := 0) (r2 := 0) (r3 := 0) rfl rfl ?_
      refine wr_gx (k0 := mm_XB + (14 : Int).toNat) (v := vi 1) (nx := 23) (r1 := 1) (r2 := 0) (r3 := 1) rfl (by decide) (by decide) rfl ?_
      refine wi_if (cd := .ne) (nx := 26) (r1 := 35) (r2 := 0) (r3 := 0) rfl (by omega) (fun (q9 : 1 ≠ 0) => ?_) (fun (q9 : ¬ (1 ≠ 0)) => by exfalso; omega)
      refine wi_aload_n (i := 1) (x := mm_XB + (14 : Int).toNat) (nx := 36) (r1 := 0) (r2 := 0) (r3 := 0) rfl rfl ?_
      refine wr_gst (v := wv 20) (nx := 39) (r1 := 19) (r2 := 0) (r3 := 0) rfl rfl rfl ?_
      refine wr_acmp (cd := .ne) (x := 14) (y := 20) (nx := 42) (r1 := 59) (r2 := 0) (r3 := 0) rfl (by omega) (by omega) (fun _ => ?_) (fun q => absurd (by decide) q)
      refine wi_aload_n (i := 0) (x := 68) (nx := 60) (r1 := 0) (r2 := 0) (r3 := 0) rfl rfl ?_
      have b11 := gi_b (lo := 0) (hi := 40) g 68 9 rfl
      refine wr_gi0 (k0 := 68) (x := h 68 9) (nx := 63) (r1 := 8) (r2 := 9) (r3 := 0) rfl rfl (by decide) rfl ⟨rfl, rfl⟩ rfl rfl ?_
      refine wi_bipush (n := 40) (nx := 65) (r1 := 0) (r2 := 0) (r3 := 0) rfl (by decide) ?_
      refine wi_icmp (cd := .lt) (nx := 68) (r1 := 77) (r2 := 0) (r3 := 0) rfl (by omega) (by omega) (fun (q12 : (h 68 9) < 40) => ?_) (fun (q12 : ¬ ((h 68 9) < 40)) => ?_)
      ·
        refine wi_aload_n (i := 0) (x := 68) (nx := 78) (r1 := 0) (r2 := 0) (r3 := 0) rfl rfl ?_
        refine wi_dup (nx := 79) (r1 := 0) (r2 := 0) (r3 := 0) rfl rfl ?_
        refine wr_gi0 (k0 := 68) (x := h 68 9) (nx := 82) (r1 := 8) (r2 := 9) (r3 := 0) rfl rfl (by decide) rfl ⟨rfl, rfl⟩ rfl rfl ?_
        refine wi_iconst (n := 1) (nx := 83) (r1 := 0) (r2 := 0) (r3 := 0) rfl ?_
        refine wr_add (nx := 84) (r1 := 0) (r2 := 0) (r3 := 0) rfl (fun e13 (fe13 : e13 = (h 68 9) + 1) => ?_)
        refine wr_pf0 (k0 := 68) (x := e13) (bl := 0) (bh := 40) (nx := 87) (r1 := 8) (r2 := 9) (r3 := 0) rfl (by decide) rfl ⟨rfl, rfl⟩ rfl rfl g rfl (by omega) (fun h14 g14 w14 u14 => ?_)
        have F15 := F0.then rfl u14
        refine wi_aload_n (i := 1) (x := mm_XB + (14 : Int).toNat) (nx := 88) (r1 := 0) (r2 := 0) (r3 := 0) rfl rfl ?_
        refine wr_gx (k0 := mm_XB + (14 : Int).toNat) (v := vi 3) (nx := 91) (r1 := 3) (r2 := 0) (r3 := 1) rfl (by decide) (by decide) rfl ?_
        refine wi_if (cd := .le) (nx := 94) (r1 := 114) (r2 := 0) (r3 := 0) rfl (by omega) (fun (q16 : 3 ≤ 0) => by exfalso; omega) (fun (q16 : ¬ (3 ≤ 0)) => ?_)
        refine wi_aload_n (i := 0) (x := 68) (nx := 95) (r1 := 0) (r2 := 0) (r3 := 0) rfl rfl ?_
        refine wr_gr (k0 := 68) (x := 1) (nx := 98) (r1 := 8) (r2 := 0) (r3 := 0) rfl rfl (by decide) rfl ⟨rfl, rfl⟩ rfl ?_
        refine wi_aload_n (i := 1) (x := mm_XB + (14 : Int).toNat) (nx := 99) (r1 := 0) (r2 := 0) (r3 := 0) rfl rfl ?_
        refine wr_gx (k0 := mm_XB + (14 : Int).toNat) (v := vi 0) (nx := 102) (r1 := 2) (r2 := 0) (r3 := 1) rfl (by decide) (by decide) rfl ?_
        refine wi_aload_n (i := 1) (x := mm_XB + (14 : Int).toNat) (nx := 103) (r1 := 0) (r2 := 0) (r3 := 0) rfl rfl ?_
        refine wr_gx (k0 := mm_XB + (14 : Int).toNat) (v := vi 3) (nx := 106) (r1 := 3) (r2 := 0) (r3 := 1) rfl (by decide) (by decide) rfl ?_
        refine wr_V (k0 := 1) (rest := []) (as := [.ref 1, vi 0, vi 3]) (nx := 109) (r1 := 103) (r2 := 2) (r3 := 1) rfl rfl rfl (of_decide_eq_true rfl) rfl rfl (by decide) rfl rfl (of_decide_eq_true rfl) (of_decide_eq_true rfl) ?_
        have e18 : h14 1 4 = h 1 4 := (u14 1 4 rfl)
        have tb20 := BufC.fr u14 rfl xq0
        refine ct_103_1 hcr  g14 0 3 (by omega) (by omega) (show (h14 1 4) = (tk_nx tB tn tp) by omega) (show 0 ≤ (tk_nx tB tn tp) by omega) (show (tk_nx tB tn tp) ≤ tn by omega) tb20 (fun h17 z19 g17 u17 (fz19 : 0 ≤ z19 ∧ z19 ≤ 1) (p17_0 : (z19 = 1 ∧ tk_kd tB tn (tk_nx tB tn tp) = 2 ∧ 0 ≤ tk_nb tB tn (tk_nx tB tn tp) ∧ tk_nb tB tn (tk_nx tB tn tp) ≤ 3 ∧ (h17 1 4) = tk_nx tB tn (tk_nx tB tn tp) ∧ (h17 1 7) = tk_nb tB tn (tk_nx tB tn tp) ∧ (h17 1 2) = (h14 1 2) ∧ (h17 1 3) = (h14 1 3)) ∨ (z19 = 0 ∧ (h17 1 3) = tk_st tB tn (tk_nx tB tn tp) ∧ ((tk_kd tB tn (tk_nx tB tn tp) ≠ 2 ∧ (h17 1 2) = 1) ∨ (tk_kd tB tn (tk_nx tB tn tp) = 2 ∧ (tk_nb tB tn (tk_nx tB tn tp) < 0 ∨ 3 < tk_nb tB tn (tk_nx tB tn tp)) ∧ (h17 1 2) = 2)))) => ?_)
        have F21 := F15.then (by decide +kernel) u17
        have e22 : h14 1 2 = h 1 2 := (u14 1 2 rfl)
        have e23 : h14 1 3 = h 1 3 := (u14 1 3 rfl)
        have b24 := gi_b (lo := 0) (hi := 800) g17 1 4 rfl
        have b25 := gi_b (lo := -2147483648) (hi := 2147483647) g17 1 7 rfl
        have b26 := gi_b (lo := -2147483648) (hi := 2147483647) g17 1 2 rfl
        have b27 := gi_b (lo := -2147483648) (hi := 2147483647) g17 1 3 rfl
        have tN28 := @tk_nx_b tB tn (tk_nx tB tn tp) (by omega) (by omega)
        refine wk_i ?_
        refine wi_if (cd := .ne) (nx := 112) (r1 := 114) (r2 := 0) (r3 := 0) rfl (by omega) (fun (q29 : z19 ≠ 0) => ?_) (fun (q29 : ¬ (z19 ≠ 0)) => ?_)
        ·
          refine wi_aload_n (i := 0) (x := 68) (nx := 115) (r1 := 0) (r2 := 0) (r3 := 0) rfl rfl ?_
          refine wi_aload_n (i := 1) (x := mm_XB + (14 : Int).toNat) (nx := 116) (r1 := 0) (r2 := 0) (r3 := 0) rfl rfl ?_
          refine wi_aload_n (i := 0) (x := 68) (nx := 117) (r1 := 0) (r2 := 0) (r3 := 0) rfl rfl ?_
          refine wr_gr (k0 := 68) (x := 1) (nx := 120) (r1 := 8) (r2 := 0) (r3 := 0) rfl rfl (by decide) rfl ⟨rfl, rfl⟩ rfl ?_
          refine wr_gi0 (k0 := 1) (x := h17 1 7) (nx := 123) (r1 := 1) (r2 := 7) (r3 := 0) rfl rfl (by decide) rfl ⟨rfl, rfl⟩ rfl rfl ?_
          refine wr_V (k0 := 68) (rest := []) (as := [.ref 68, wv 14, vi (h17 1 7)]) (nx := 126) (r1 := 184) (r2 := 2) (r3 := 8) rfl rfl rfl (of_decide_eq_true rfl) rfl rfl (by decide) rfl rfl (of_decide_eq_true rfl) (of_decide_eq_true rfl) ?_
          have q32 : h17 69 = h 69 := funext (fun i => ((u17 69 i (fo_no_ok (by decide) i)).trans (u14 69 i rfl)))
          have q33 : h17 70 = h 70 := funext (fun i => ((u17 70 i (fo_no_ok (by decide) i)).trans (u14 70 i rfl)))
          have nb31 : NBc (h17 69) (h17 70) := by rw [q32, q33]; exact xq1
          refine ct_184_68 hcr  g17 14 (h17 1 7) (by omega) (by omega) (show (14 ≠ 16 ∧ 14 ≠ 17) ∨ (0 ≤ (h17 1 7) ∧ (h17 1 7) ≤ 99) by omega) nb31 (fun h30 g30 u30 y30_0 => ?_)
          have F34 := F21.then (by decide +kernel) u30
          refine wk_n ?_
          refine wi_aload_n (i := 1) (x := mm_XB + (14 : Int).toNat) (nx := 127) (r1 := 0) (r2 := 0) (r3 := 0) rfl rfl ?_
          refine wr_gst (v := wv 20) (nx := 130) (r1 := 19) (r2 := 0) (r3 := 0) rfl rfl rfl ?_
          refine wr_acmp (cd := .ne) (x := 14) (y := 20) (nx := 133) (r1 := 166) (r2 := 0) (r3 := 0) rfl (by omega) (by omega) (fun _ => ?_) (fun q => absurd (by decide) q)
          refine wi_aload_n (i := 0) (x := 68) (nx := 167) (r1 := 0) (r2 := 0) (r3 := 0) rfl rfl ?_
          refine wr_gr (k0 := 68) (x := 1) (nx := 170) (r1 := 8) (r2 := 0) (r3 := 0) rfl rfl (by decide) rfl ⟨rfl, rfl⟩ rfl ?_
          refine wr_V (k0 := 1) (rest := []) (as := [.ref 1]) (nx := 173) (r1 := 105) (r2 := 0) (r3 := 1) rfl rfl rfl (of_decide_eq_true rfl) rfl rfl (by decide) rfl rfl (of_decide_eq_true rfl) (of_decide_eq_true rfl) ?_
          have e37 : h30 1 4 = h17 1 4 := (u30 1 4 rfl)
          have tb39 := BufC.fr u17 rfl tb20
          have tb40 := BufC.fr u30 rfl tb39
          refine ct_105_1 hcr  g30   (show (h30 1 4) = (tk_nx tB tn (tk_nx tB tn tp)) by omega) (show 0 ≤ (tk_nx tB tn (tk_nx tB tn tp)) by omega) (show (tk_nx tB tn (tk_nx tB tn tp)) ≤ tn by omega) tb40 (fun h36 z38 g36 u36 (fz38 : 0 ≤ z38 ∧ z38 ≤ 1) (p36_0 : (z38 = 1 ∧ tk_kd tB tn (tk_nx tB tn (tk_nx tB tn tp)) = 3 ∧ (h36 1 4) = tk_nx tB tn (tk_nx tB tn (tk_nx tB tn tp)) ∧ (h36 1 2) = (h30 1 2) ∧ (h36 1 3) = (h30 1 3)) ∨ (z38 = 0 ∧ tk_kd tB tn (tk_nx tB tn (tk_nx tB tn tp)) ≠ 3 ∧ (h36 1 2) = 1 ∧ (h36 1 3) = tk_st tB tn (tk_nx tB tn (tk_nx tB tn tp)))) => ?_)
          have F41 := F34.then (by decide +kernel) u36
          have e42 : h30 1 2 = h17 1 2 := (u30 1 2 rfl)
          have e43 : h30 1 3 = h17 1 3 := (u30 1 3 rfl)
          have b44 := gi_b (lo := 0) (hi := 800) g36 1 4 rfl
          have b45 := gi_b (lo := -2147483648) (hi := 2147483647) g36 1 2 rfl
          have b46 := gi_b (lo := -2147483648) (hi := 2147483647) g36 1 3 rfl
          have tN47 := @tk_nx_b tB tn (tk_nx tB tn (tk_nx tB tn tp)) (by omega) (by omega)
          refine wk_i ?_
          refine wi_zreturn (nx := 174) (r1 := 0) (r2 := 0) (r3 := 0) rfl rfl (by omega) ?_
          have b48 := gi_b (lo := 0) (hi := 2) g 68 8 rfl
          have e49 : h36 68 8 = h 68 8 := ((u36 68 8 rfl).trans ((u30 68 8 rfl).trans ((u17 68 8 rfl).trans (u14 68 8 rfl))))
          have e50 : h36 68 9 = e13 := ((u36 68 9 rfl).trans ((u30 68 9 rfl).trans ((u17 68 9 rfl).trans w14)))
          have q52 : h36 69 = h30 69 := funext (fun i => (u36 69 i (fo_no_ok (by decide) i)))
          have q53 : h36 70 = h30 70 := funext (fun i => (u36 70 i (fo_no_ok (by decide) i)))
          have nb51 : NBc (h36 69) (h36 70) := by rw [q52, q53]; exact y30_0
          exact k h36 z38 g36 F41 (by omega) (show z38 = 0 ∨ z38 = 1 by omega) (by rcases (show z38 = 0 ∨ z38 = 1 by omega) with zz | zz; (unfold sc_cmd sc_hd sc_num sc_mk; (try dsimp only); (repeat (first | rw [if_pos (by omega)] | rw [if_neg (by omega)])); (repeat ((first | unfold sc_num | unfold sc_mk); (try dsimp only); (repeat (first | rw [if_pos (by omega)] | rw [if_neg (by omega)])))); exact sc_Oe (by omega) (by omega) (by omega) (by omega)); (unfold sc_cmd sc_hd sc_num sc_mk; (try dsimp only); (repeat (first | rw [if_pos (by omega)] | rw [if_neg (by omega)])); (repeat ((first | unfold sc_num | unfold sc_mk); (try dsimp only); (repeat (first | rw [if_pos (by omega)] | rw [if_neg (by omega)])))); exact sc_Os (by omega) (by omega) (by omega) (by omega) (by omega) (by omega))) nb51
        ·
          refine wi_iconst (n := 0) (nx := 113) (r1 := 0) (r2 := 0) (r3 := 0) rfl ?_
          refine wi_zreturn (nx := 114) (r1 := 0) (r2 := 0) (r3 := 0) rfl rfl (by omega) ?_
          have b30 := gi_b (lo := 0) (hi := 2) g 68 8 rfl
          have e31 : h17 68 8 = h 68 8 := ((u17 68 8 rfl).trans (u14 68 8 rfl))
          have e32 : h17 68 9 = e13 := ((u17 68 9 rfl).trans w14)
          have q34 : h17 69 = h 69 := funext (fun i => ((u17 69 i (fo_no_ok (by decide) i)).trans (u14 69 i rfl)))
          have q35 : h17 70 = h 70 := funext (fun i => ((u17 70 i (fo_no_ok (by decide) i)).trans (u14 70 i rfl)))
          have nb33 : NBc (h17 69) (h17 70) := by rw [q34, q35]; exact xq1
          exact k h17 0 g17 F21 (by omega) (show 0 = 0 ∨ 0 = 1 by omega) (by unfold sc_cmd sc_hd sc_num sc_mk; (try dsimp only); (repeat (first | rw [if_pos (by omega)] | rw [if_neg (by omega)])); (repeat ((first | unfold sc_num | unfold sc_mk); (try dsimp only); (repeat (first | rw [if_pos (by omega)] | rw [if_neg (by omega)])))); first | exact sc_Oe (by omega) (by omega) (by omega) (by omega) | ((repeat' split) <;> (first | exact sc_Oe (by omega) (by omega) (by omega) (by omega) | (exfalso; omega)))) nb33
      ·
        refine wi_aload_n (i := 0) (x := 68) (nx := 69) (r1 := 0) (r2 := 0) (r3 := 0) rfl rfl ?_
        refine wr_gr (k0 := 68) (x := 1) (nx := 72) (r1 := 8) (r2 := 0) (r3 := 0) rfl rfl (by decide) rfl ⟨rfl, rfl⟩ rfl ?_
        refine wi_iconst (n := 5) (nx := 73) (r1 := 0) (r2 := 0) (r3 := 0) rfl ?_
        refine wr_V (k0 := 1) (rest := []) (as := [.ref 1, vi 5]) (nx := 76) (r1 := 101) (r2 := 1) (r3 := 1) rfl rfl rfl (of_decide_eq_true rfl) rfl rfl (by decide) rfl rfl (of_decide_eq_true rfl) (of_decide_eq_true rfl) ?_
        refine ct_101_1 hcr  g 5 (by omega)  (fun h13 z14 g13 u13 (fz14 : 0 ≤ z14 ∧ z14 ≤ 0) (p13_0 : z14 = 0) (p13_1 : (h13 1 2) = 5) (p13_2 : (h13 1 3) = (h 1 6)) => ?_)
        have F15 := F0.then (by decide +kernel) u13
        have b16 := gi_b (lo := -2147483648) (hi := 2147483647) g13 1 2 rfl
        have b17 := gi_b (lo := -2147483648) (hi := 2147483647) g13 1 3 rfl
        refine wk_i ?_
        refine wi_zreturn (nx := 77) (r1 := 0) (r2 := 0) (r3 := 0) rfl rfl (by omega) ?_
        have e18 : h13 1 4 = h 1 4 := (u13 1 4 rfl)
        have b19 := gi_b (lo := 0) (hi := 2) g 68 8 rfl
        have e20 : h13 68 8 = h 68 8 := (u13 68 8 rfl)
        have e21 : h13 68 9 = h 68 9 := (u13 68 9 rfl)
        have q23 : h13 69 = h 69 := funext (fun i => (u13 69 i (fo_no_ok (by decide) i)))
        have q24 : h13 70 = h 70 := funext (fun i => (u13 70 i (fo_no_ok (by decide) i)))
        have nb22 : NBc (h13 69) (h13 70) := by rw [q23, q24]; exact xq1
        exact k h13 z14 g13 F15 (by omega) (show z14 = 0 ∨ z14 = 1 by omega) (by unfold sc_cmd sc_hd sc_num sc_mk; (try dsimp only); (repeat (first | rw [if_pos (by omega)] | rw [if_neg (by omega)])); (repeat ((first | unfold sc_num | unfold sc_mk); (try dsimp only); (repeat (first | rw [if_pos (by omega)] | rw [if_neg (by omega)])))); first | exact sc_Oe (by omega) (by omega) (by omega) (by omega) | ((repeat' split) <;> (first | exact sc_Oe (by omega) (by omega) (by omega) (by omega) | (exfalso; omega)))) nb22
  ·
    refine wr_gi3 (k0 := 1) (x := 15) (nx := 7) (r1 := 1) (r2 := 9) (r3 := 0) rfl rfl (by decide) rfl ⟨rfl, rfl⟩ rfl q7 ?_
    refine wi_astore_n (i := 1) (x := mm_XB + (15 : Int).toNat) (lo2 := [(1, wv 15), (0, .ref 68)]) (nx := 8) (r1 := 0) (r2 := 0) (r3 := 0) rfl rfl ?_
    refine wi_aload_n (i := 0) (x := 68) (nx := 9) (r1 := 0) (r2 := 0) (r3 := 0) rfl rfl ?_
    refine wr_gr (k0 := 68) (x := 1) (nx := 12) (r1 := 8) (r2 := 0) (r3 := 0) rfl rfl (by decide) rfl ⟨rfl, rfl⟩ rfl ?_
    refine wr_gi0 (k0 := 1) (x := h 1 5) (nx := 15) (r1 := 1) (r2 := 5) (r3 := 0) rfl rfl (by decide) rfl ⟨rfl, rfl⟩ rfl rfl ?_
    refine wi_iconst (n := 1) (nx := 16) (r1 := 0) (r2 := 0) (r3 := 0) rfl ?_
    refine wi_icmp (cd := .ne) (nx := 19) (r1 := 26) (r2 := 0) (r3 := 0) rfl (by omega) (by omega) (fun (q8 : (h 1 5) ≠ 1) => ?_) (fun (q8 : ¬ ((h 1 5) ≠ 1)) => ?_)
    ·
      refine wi_aload_n (i := 0) (x := 68) (nx := 27) (r1 := 0) (r2 := 0) (r3 := 0) rfl rfl ?_
      refine wr_gr (k0 := 68) (x := 1) (nx := 30) (r1 := 8) (r2 := 0) (r3 := 0) rfl rfl (by decide) rfl ⟨rfl, rfl⟩ rfl ?_
      refine wi_iconst (n := 1) (nx := 31) (r1 := 0) (r2 := 0) (r3 := 0) rfl ?_
      refine wr_V (k0 := 1) (rest := []) (as := [.ref 1, vi 1]) (nx := 34) (r1 := 101) (r2 := 1) (r3 := 1) rfl rfl rfl (of_decide_eq_true rfl) rfl rfl (by decide) rfl rfl (of_decide_eq_true rfl) (of_decide_eq_true rfl) ?_
      refine ct_101_1 hcr  g 1 (by omega)  (fun h9 z10 g9 u9 (fz10 : 0 ≤ z10 ∧ z10 ≤ 0) (p9_0 : z10 = 0) (p9_1 : (h9 1 2) = 1) (p9_2 : (h9 1 3) = (h 1 6)) => ?_)
      have F11 := F0.then (by decide +kernel) u9
      have b12 := gi_b (lo := -2147483648) (hi := 2147483647) g9 1 2 rfl
      have b13 := gi_b (lo := -2147483648) (hi := 2147483647) g9 1 3 rfl
      refine wk_i ?_
      refine wi_zreturn (nx := 35) (r1 := 0) (r2 := 0) (r3 := 0) rfl rfl (by omega) ?_
      have e14 : h9 1 4 = h 1 4 := (u9 1 4 rfl)
      have b15 := gi_b (lo := 0) (hi := 2) g 68 8 rfl
      have e16 : h9 68 8 = h 68 8 := (u9 68 8 rfl)
      have b17 := gi_b (lo := 0) (hi := 40) g 68 9 rfl
      have e18 : h9 68 9 = h 68 9 := (u9 68 9 rfl)
      have q20 : h9 69 = h 69 := funext (fun i => (u9 69 i (fo_no_ok (by decide) i)))
      have q21 : h9 70 = h 70 := funext (fun i => (u9 70 i (fo_no_ok (by decide) i)))
      have nb19 : NBc (h9 69) (h9 70) := by rw [q20, q21]; exact xq1
      exact k h9 z10 g9 F11 (by omega) (show z10 = 0 ∨ z10 = 1 by omega) (by unfold sc_cmd sc_hd sc_num sc_mk; (try dsimp only); (repeat (first | rw [if_pos (by omega)] | rw [if_neg (by omega)])); (repeat ((first | unfold sc_num | unfold sc_mk); (try dsimp only); (repeat (first | rw [if_pos (by omega)] | rw [if_neg (by omega)])))); first | exact sc_Oe (by omega) (by omega) (by omega) (by omega) | ((repeat' split) <;> (first | exact sc_Oe (by omega) (by omega) (by omega) (by omega) | (exfalso; omega)))) nb19
    ·
      refine wi_aload_n (i := 1) (x := mm_XB + (15 : Int).toNat) (nx := 20) (r1 := 0) (r2 := 0) (r3 := 0) rfl rfl ?_
      refine wr_gx (k0 := mm_XB + (15 : Int).toNat) (v := vi 1) (nx := 23) (r1 := 1) (r2 := 0) (r3 := 1) rfl (by decide) (by decide) rfl ?_
      refine wi_if (cd := .ne) (nx := 26) (r1 := 35) (r2 := 0) (r3 := 0) rfl (by omega) (fun (q9 : 1 ≠ 0) => ?_) (fun (q9 : ¬ (1 ≠ 0)) => by exfalso; omega)
      refine wi_aload_n (i := 1) (x := mm_XB + (15 : Int).toNat) (nx := 36) (r1 := 0) (r2 := 0) (r3 := 0) rfl rfl ?_
      refine wr_gst (v := wv 20) (nx := 39) (r1 := 19) (r2 := 0) (r3 := 0) rfl rfl rfl ?_
      refine wr_acmp (cd := .ne) (x := 15) (y := 20) (nx := 42) (r1 := 59) (r2 := 0) (r3 := 0) rfl (by omega) (by omega) (fun _ => ?_) (fun q => absurd (by decide) q)
      refine wi_aload_n (i := 0) (x := 68) (nx := 60) (r1 := 0) (r2 := 0) (r3 := 0) rfl rfl ?_
      have b11 := gi_b (lo := 0) (hi := 40) g 68 9 rfl
      refine wr_gi0 (k0 := 68) (x := h 68 9) (nx := 63) (r1 := 8) (r2 := 9) (r3 := 0) rfl rfl (by decide) rfl ⟨rfl, rfl⟩ rfl rfl ?_
      refine wi_bipush (n := 40) (nx := 65) (r1 := 0) (r2 := 0) (r3 := 0) rfl (by decide) ?_
      refine wi_icmp (cd := .lt) (nx := 68) (r1 := 77) (r2 := 0) (r3 := 0) rfl (by omega) (by omega) (fun (q12 : (h 68 9) < 40) => ?_) (fun (q12 : ¬ ((h 68 9) < 40)) => ?_)
      ·
        refine wi_aload_n (i := 0) (x := 68) (nx := 78) (r1 := 0) (r2 := 0) (r3 := 0) rfl rfl ?_
        refine wi_dup (nx := 79) (r1 := 0) (r2 := 0) (r3 := 0) rfl rfl ?_
        refine wr_gi0 (k0 := 68) (x := h 68 9) (nx := 82) (r1 := 8) (r2 := 9) (r3 := 0) rfl rfl (by decide) rfl ⟨rfl, rfl⟩ rfl rfl ?_
        refine wi_iconst (n := 1) (nx := 83) (r1 := 0) (r2 := 0) (r3 := 0) rfl ?_
        refine wr_add (nx := 84) (r1 := 0) (r2 := 0) (r3 := 0) rfl (fun e13 (fe13 : e13 = (h 68 9) + 1) => ?_)
        refine wr_pf0 (k0 := 68) (x := e13) (bl := 0) (bh := 40) (nx := 87) (r1 := 8) (r2 := 9) (r3 := 0) rfl (by decide) rfl ⟨rfl, rfl⟩ rfl rfl g rfl (by omega) (fun h14 g14 w14 u14 => ?_)
        have F15 := F0.then rfl u14
        refine wi_aload_n (i := 1) (x := mm_XB + (15 : Int).toNat) (nx := 88) (r1 := 0) (r2 := 0) (r3 := 0) rfl rfl ?_
        refine wr_gx (k0 := mm_XB + (15 : Int).toNat) (v := vi 3) (nx := 91) (r1 := 3) (r2 := 0) (r3 := 1) rfl (by decide) (by decide) rfl ?_
        refine wi_if (cd := .le) (nx := 94) (r1 := 114) (r2 := 0) (r3 := 0) rfl (by omega) (fun (q16 : 3 ≤ 0) => by exfalso; omega) (fun (q16 : ¬ (3 ≤ 0)) => ?_)
        refine wi_aload_n (i := 0) (x := 68) (nx := 95) (r1 := 0) (r2 := 0) (r3 := 0) rfl rfl ?_
        refine wr_gr (k0 := 68) (x := 1) (nx := 98) (r1 := 8) (r2 := 0) (r3 := 0) rfl rfl (by decide) rfl ⟨rfl, rfl⟩ rfl ?_
        refine wi_aload_n (i := 1) (x := mm_XB + (15 : Int).toNat) (nx := 99) (r1 := 0) (r2 := 0) (r3 := 0) rfl rfl ?_
        refine wr_gx (k0 := mm_XB + (15 : Int).toNat) (v := vi 0) (nx := 102) (r1 := 2) (r2 := 0) (r3 := 1) rfl (by decide) (by decide) rfl ?_
        refine wi_aload_n (i := 1) (x := mm_XB + (15 : Int).toNat) (nx := 103) (r1 := 0) (r2 := 0) (r3 := 0) rfl rfl ?_
        refine wr_gx (k0 := mm_XB + (15 : Int).toNat) (v := vi 3) (nx := 106) (r1 := 3) (r2 := 0) (r3 := 1) rfl (by decide) (by decide) rfl ?_
        refine wr_V (k0 := 1) (rest := []) (as := [.ref 1, vi 0, vi 3]) (nx := 109) (r1 := 103) (r2 := 2) (r3 := 1) rfl rfl rfl (of_decide_eq_true rfl) rfl rfl (by decide) rfl rfl (of_decide_eq_true rfl) (of_decide_eq_true rfl) ?_
        have e18 : h14 1 4 = h 1 4 := (u14 1 4 rfl)
        have tb20 := BufC.fr u14 rfl xq0
        refine ct_103_1 hcr  g14 0 3 (by omega) (by omega) (show (h14 1 4) = (tk_nx tB tn tp) by omega) (show 0 ≤ (tk_nx tB tn tp) by omega) (show (tk_nx tB tn tp) ≤ tn by omega) tb20 (fun h17 z19 g17 u17 (fz19 : 0 ≤ z19 ∧ z19 ≤ 1) (p17_0 : (z19 = 1 ∧ tk_kd tB tn (tk_nx tB tn tp) = 2 ∧ 0 ≤ tk_nb tB tn (tk_nx tB tn tp) ∧ tk_nb tB tn (tk_nx tB tn tp) ≤ 3 ∧ (h17 1 4) = tk_nx tB tn (tk_nx tB tn tp) ∧ (h17 1 7) = tk_nb tB tn (tk_nx tB tn tp) ∧ (h17 1 2) = (h14 1 2) ∧ (h17 1 3) = (h14 1 3)) ∨ (z19 = 0 ∧ (h17 1 3) = tk_st tB tn (tk_nx tB tn tp) ∧ ((tk_kd tB tn (tk_nx tB tn tp) ≠ 2 ∧ (h17 1 2) = 1) ∨ (tk_kd tB tn (tk_nx tB tn tp) = 2 ∧ (tk_nb tB tn (tk_nx tB tn tp) < 0 ∨ 3 < tk_nb tB tn (tk_nx tB tn tp)) ∧ (h17 1 2) = 2)))) => ?_)
        have F21 := F15.then (by decide +kernel) u17
        have e22 : h14 1 2 = h 1 2 := (u14 1 2 rfl)
        have e23 : h14 1 3 = h 1 3 := (u14 1 3 rfl)
        have b24 := gi_b (lo := 0) (hi := 800) g17 1 4 rfl
        have b25 := gi_b (lo := -2147483648) (hi := 2147483647) g17 1 7 rfl
        have b26 := gi_b (lo := -2147483648) (hi := 2147483647) g17 1 2 rfl
        have b27 := gi_b (lo := -2147483648) (hi := 2147483647) g17 1 3 rfl
        have tN28 := @tk_nx_b tB tn (tk_nx tB tn tp) (by omega) (by omega)
        refine wk_i ?_
        refine wi_if (cd := .ne) (nx := 112) (r1 := 114) (r2 := 0) (r3 := 0) rfl (by omega) (fun (q29 : z19 ≠ 0) => ?_) (fun (q29 : ¬ (z19 ≠ 0)) => ?_)
        ·
          refine wi_aload_n (i := 0) (x := 68) (nx := 115) (r1 := 0) (r2 := 0) (r3 := 0) rfl rfl ?_
          refine wi_aload_n (i := 1) (x := mm_XB + (15 : Int).toNat) (nx := 116) (r1 := 0) (r2 := 0) (r3 := 0) rfl rfl ?_
          refine wi_aload_n (i := 0) (x := 68) (nx := 117) (r1 := 0) (r2 := 0) (r3 := 0) rfl rfl ?_
          refine wr_gr (k0 := 68) (x := 1) (nx := 120) (r1 := 8) (r2 := 0) (r3 := 0) rfl rfl (by decide) rfl ⟨rfl, rfl⟩ rfl ?_
          refine wr_gi0 (k0 := 1) (x := h17 1 7) (nx := 123) (r1 := 1) (r2 := 7) (r3 := 0) rfl rfl (by decide) rfl ⟨rfl, rfl⟩ rfl rfl ?_
          refine wr_V (k0 := 68) (rest := []) (as := [.ref 68, wv 15, vi (h17 1 7)]) (nx := 126) (r1 := 184) (r2 := 2) (r3 := 8) rfl rfl rfl (of_decide_eq_true rfl) rfl rfl (by decide) rfl rfl (of_decide_eq_true rfl) (of_decide_eq_true rfl) ?_
          have q32 : h17 69 = h 69 := funext (fun i => ((u17 69 i (fo_no_ok (by decide) i)).trans (u14 69 i rfl)))
          have q33 : h17 70 = h 70 := funext (fun i => ((u17 70 i (fo_no_ok (by decide) i)).trans (u14 70 i rfl)))
          have nb31 : NBc (h17 69) (h17 70) := by rw [q32, q33]; exact xq1
          refine ct_184_68 hcr  g17 15 (h17 1 7) (by omega) (by omega) (show (15 ≠ 16 ∧ 15 ≠ 17) ∨ (0 ≤ (h17 1 7) ∧ (h17 1 7) ≤ 99) by omega) nb31 (fun h30 g30 u30 y30_0 => ?_)
          have F34 := F21.then (by decide +kernel) u30
          refine wk_n ?_
          refine wi_aload_n (i := 1) (x := mm_XB + (15 : Int).toNat) (nx := 127) (r1 := 0) (r2 := 0) (r3 := 0) rfl rfl ?_
          refine wr_gst (v := wv 20) (nx := 130) (r1 := 19) (r2 := 0) (r3 := 0) rfl rfl rfl ?_
          refine wr_acmp (cd := .ne) (x := 15) (y := 20) (nx := 133) (r1 := 166) (r2 := 0) (r3 := 0) rfl (by omega) (by omega) (fun _ => ?_) (fun q => absurd (by decide) q)
          refine wi_aload_n (i := 0) (x := 68) (nx := 167) (r1 := 0) (r2 := 0) (r3 := 0) rfl rfl ?_
          refine wr_gr (k0 := 68) (x := 1) (nx := 170) (r1 := 8) (r2 := 0) (r3 := 0) rfl rfl (by decide) rfl ⟨rfl, rfl⟩ rfl ?_
          refine wr_V (k0 := 1) (rest := []) (as := [.ref 1]) (nx := 173) (r1 := 105) (r2 := 0) (r3 := 1) rfl rfl rfl (of_decide_eq_true rfl) rfl rfl (by decide) rfl rfl (of_decide_eq_true rfl) (of_decide_eq_true rfl) ?_
          have e37 : h30 1 4 = h17 1 4 := (u30 1 4 rfl)
          have tb39 := BufC.fr u17 rfl tb20
          have tb40 := BufC.fr u30 rfl tb39
          refine ct_105_1 hcr  g30   (show (h30 1 4) = (tk_nx tB tn (tk_nx tB tn tp)) by omega) (show 0 ≤ (tk_nx tB tn (tk_nx tB tn tp)) by omega) (show (tk_nx tB tn (tk_nx tB tn tp)) ≤ tn by omega) tb40 (fun h36 z38 g36 u36 (fz38 : 0 ≤ z38 ∧ z38 ≤ 1) (p36_0 : (z38 = 1 ∧ tk_kd tB tn (tk_nx tB tn (tk_nx tB tn tp)) = 3 ∧ (h36 1 4) = tk_nx tB tn (tk_nx tB tn (tk_nx tB tn tp)) ∧ (h36 1 2) = (h30 1 2) ∧ (h36 1 3) = (h30 1 3)) ∨ (z38 = 0 ∧ tk_kd tB tn (tk_nx tB tn (tk_nx tB tn tp)) ≠ 3 ∧ (h36 1 2) = 1 ∧ (h36 1 3) = tk_st tB tn (tk_nx tB tn (tk_nx tB tn tp)))) => ?_)
          have F41 := F34.then (by decide +kernel) u36
          have e42 : h30 1 2 = h17 1 2 := (u30 1 2 rfl)
          have e43 : h30 1 3 = h17 1 3 := (u30 1 3 rfl)
          have b44 := gi_b (lo := 0) (hi := 800) g36 1 4 rfl
          have b45 := gi_b (lo := -2147483648) (hi := 2147483647) g36 1 2 rfl
          have b46 := gi_b (lo := -2147483648) (hi := 2147483647) g36 1 3 rfl
          have tN47 := @tk_nx_b tB tn (tk_nx tB tn (tk_nx tB tn tp)) (by omega) (by omega)
          refine wk_i ?_
          refine wi_zreturn (nx := 174) (r1 := 0) (r2 := 0) (r3 := 0) rfl rfl (by omega) ?_
          have b48 := gi_b (lo := 0) (hi := 2) g 68 8 rfl
          have e49 : h36 68 8 = h 68 8 := ((u36 68 8 rfl).trans ((u30 68 8 rfl).trans ((u17 68 8 rfl).trans (u14 68 8 rfl))))
          have e50 : h36 68 9 = e13 := ((u36 68 9 rfl).trans ((u30 68 9 rfl).trans ((u17 68 9 rfl).trans w14)))
          have q52 : h36 69 = h30 69 := funext (fun i => (u36 69 i (fo_no_ok (by decide) i)))
          have q53 : h36 70 = h30 70 := funext (fun i => (u36 70 i (fo_no_ok (by decide) i)))
          have nb51 : NBc (h36 69) (h36 70) := by rw [q52, q53]; exact y30_0
          exact k h36 z38 g36 F41 (by omega) (show z38 = 0 ∨ z38 = 1 by omega) (by rcases (show z38 = 0 ∨ z38 = 1 by omega) with zz | zz; (unfold sc_cmd sc_hd sc_num sc_mk; (try dsimp only); (repeat (first | rw [if_pos (by omega)] | rw [if_neg (by omega)])); (repeat ((first | unfold sc_num | unfold sc_mk); (try dsimp only); (repeat (first | rw [if_pos (by omega)] | rw [if_neg (by omega)])))); exact sc_Oe (by omega) (by omega) (by omega) (by omega)); (unfold sc_cmd sc_hd sc_num sc_mk; (try dsimp only); (repeat (first | rw [if_pos (by omega)] | rw [if_neg (by omega)])); (repeat ((first | unfold sc_num | unfold sc_mk); (try dsimp only); (repeat (first | rw [if_pos (by omega)] | rw [if_neg (by omega)])))); exact sc_Os (by omega) (by omega) (by omega) (by omega) (by omega) (by omega))) nb51
        ·
          refine wi_iconst (n := 0) (nx := 113) (r1 := 0) (r2 := 0) (r3 := 0) rfl ?_
          refine wi_zreturn (nx := 114) (r1 := 0) (r2 := 0) (r3 := 0) rfl rfl (by omega) ?_
          have b30 := gi_b (lo := 0) (hi := 2) g 68 8 rfl
          have e31 : h17 68 8 = h 68 8 := ((u17 68 8 rfl).trans (u14 68 8 rfl))
          have e32 : h17 68 9 = e13 := ((u17 68 9 rfl).trans w14)
          have q34 : h17 69 = h 69 := funext (fun i => ((u17 69 i (fo_no_ok (by decide) i)).trans (u14 69 i rfl)))
          have q35 : h17 70 = h 70 := funext (fun i => ((u17 70 i (fo_no_ok (by decide) i)).trans (u14 70 i rfl)))
          have nb33 : NBc (h17 69) (h17 70) := by rw [q34, q35]; exact xq1
          exact k h17 0 g17 F21 (by omega) (show 0 = 0 ∨ 0 = 1 by omega) (by unfold sc_cmd sc_hd sc_num sc_mk; (try dsimp only); (repeat (first | rw [if_pos (by omega)] | rw [if_neg (by omega)])); (repeat ((first | unfold sc_num | unfold sc_mk); (try dsimp only); (repeat (first | rw [if_pos (by omega)] | rw [if_neg (by omega)])))); first | exact sc_Oe (by omega) (by omega) (by omega) (by omega) | ((repeat' split) <;> (first | exact sc_Oe (by omega) (by omega) (by omega) (by omega) | (exfalso; omega)))) nb33
      ·
        refine wi_aload_n (i := 0) (x := 68) (nx := 69) (r1 := 0) (r2 := 0) (r3 := 0) rfl rfl ?_
        refine wr_gr (k0 := 68) (x := 1) (nx := 72) (r1 := 8) (r2 := 0) (r3 := 0) rfl rfl (by decide) rfl ⟨rfl, rfl⟩ rfl ?_
        refine wi_iconst (n := 5) (nx := 73) (r1 := 0) (r2 := 0) (r3 := 0) rfl ?_
        refine wr_V (k0 := 1) (rest := []) (as := [.ref 1, vi 5]) (nx := 76) (r1 := 101) (r2 := 1) (r3 := 1) rfl rfl rfl (of_decide_eq_true rfl) rfl rfl (by decide) rfl rfl (of_decide_eq_true rfl) (of_decide_eq_true rfl) ?_
        refine ct_101_1 hcr  g 5 (by omega)  (fun h13 z14 g13 u13 (fz14 : 0 ≤ z14 ∧ z14 ≤ 0) (p13_0 : z14 = 0) (p13_1 : (h13 1 2) = 5) (p13_2 : (h13 1 3) = (h 1 6)) => ?_)
        have F15 := F0.then (by decide +kernel) u13
        have b16 := gi_b (lo := -2147483648) (hi := 2147483647) g13 1 2 rfl
        have b17 := gi_b (lo := -2147483648) (hi := 2147483647) g13 1 3 rfl
        refine wk_i ?_
        refine wi_zreturn (nx := 77) (r1 := 0) (r2 := 0) (r3 := 0) rfl rfl (by omega) ?_
        have e18 : h13 1 4 = h 1 4 := (u13 1 4 rfl)
        have b19 := gi_b (lo := 0) (hi := 2) g 68 8 rfl
        have e20 : h13 68 8 = h 68 8 := (u13 68 8 rfl)
        have e21 : h13 68 9 = h 68 9 := (u13 68 9 rfl)
        have q23 : h13 69 = h 69 := funext (fun i => (u13 69 i (fo_no_ok (by decide) i)))
        have q24 : h13 70 = h 70 := funext (fun i => (u13 70 i (fo_no_ok (by decide) i)))
        have nb22 : NBc (h13 69) (h13 70) := by rw [q23, q24]; exact xq1
        exact k h13 z14 g13 F15 (by omega) (show z14 = 0 ∨ z14 = 1 by omega) (by unfold sc_cmd sc_hd sc_num sc_mk; (try dsimp only); (repeat (first | rw [if_pos (by omega)] | rw [if_neg (by omega)])); (repeat ((first | unfold sc_num | unfold sc_mk); (try dsimp only); (repeat (first | rw [if_pos (by omega)] | rw [if_neg (by omega)])))); first | exact sc_Oe (by omega) (by omega) (by omega) (by omega) | ((repeat' split) <;> (first | exact sc_Oe (by omega) (by omega) (by omega) (by omega) | (exfalso; omega)))) nb22
  ·
    refine wr_gi3 (k0 := 1) (x := 16) (nx := 7) (r1 := 1) (r2 := 9) (r3 := 0) rfl rfl (by decide) rfl ⟨rfl, rfl⟩ rfl q7 ?_
    refine wi_astore_n (i := 1) (x := mm_XB + (16 : Int).toNat) (lo2 := [(1, wv 16), (0, .ref 68)]) (nx := 8) (r1 := 0) (r2 := 0) (r3 := 0) rfl rfl ?_
    refine wi_aload_n (i := 0) (x := 68) (nx := 9) (r1 := 0) (r2 := 0) (r3 := 0) rfl rfl ?_
    refine wr_gr (k0 := 68) (x := 1) (nx := 12) (r1 := 8) (r2 := 0) (r3 := 0) rfl rfl (by decide) rfl ⟨rfl, rfl⟩ rfl ?_
    refine wr_gi0 (k0 := 1) (x := h 1 5) (nx := 15) (r1 := 1) (r2 := 5) (r3 := 0) rfl rfl (by decide) rfl ⟨rfl, rfl⟩ rfl rfl ?_
    refine wi_iconst (n := 1) (nx := 16) (r1 := 0) (r2 := 0) (r3 := 0) rfl ?_
    refine wi_icmp (cd := .ne) (nx := 19) (r1 := 26) (r2 := 0) (r3 := 0) rfl (by omega) (by omega) (fun (q8 : (h 1 5) ≠ 1) => ?_) (fun (q8 : ¬ ((h 1 5) ≠ 1)) => ?_)
    ·
      refine wi_aload_n (i := 0) (x := 68) (nx := 27) (r1 := 0) (r2 := 0) (r3 := 0) rfl rfl ?_
      refine wr_gr (k0 := 68) (x := 1) (nx := 30) (r1 := 8) (r2 := 0) (r3 := 0) rfl rfl (by decide) rfl ⟨rfl, rfl⟩ rfl ?_
      refine wi_iconst (n := 1) (nx := 31) (r1 := 0) (r2 := 0) (r3 := 0) rfl ?_
      refine wr_V (k0 := 1) (rest := []) (as := [.ref 1, vi 1]) (nx := 34) (r1 := 101) (r2 := 1) (r3 := 1) rfl rfl rfl (of_decide_eq_true rfl) rfl rfl (by decide) rfl rfl (of_decide_eq_true rfl) (of_decide_eq_true rfl) ?_
      refine ct_101_1 hcr  g 1 (by omega)  (fun h9 z10 g9 u9 (fz10 : 0 ≤ z10 ∧ z10 ≤ 0) (p9_0 : z10 = 0) (p9_1 : (h9 1 2) = 1) (p9_2 : (h9 1 3) = (h 1 6)) => ?_)
      have F11 := F0.then (by decide +kernel) u9
      have b12 := gi_b (lo := -2147483648) (hi := 2147483647) g9 1 2 rfl
      have b13 := gi_b (lo := -2147483648) (hi := 2147483647) g9 1 3 rfl
      refine wk_i ?_
      refine wi_zreturn (nx := 35) (r1 := 0) (r2 := 0) (r3 := 0) rfl rfl (by omega) ?_
      have e14 : h9 1 4 = h 1 4 := (u9 1 4 rfl)
      have b15 := gi_b (lo := 0) (hi := 2) g 68 8 rfl
      have e16 : h9 68 8 = h 68 8 := (u9 68 8 rfl)
      have b17 := gi_b (lo := 0) (hi := 40) g 68 9 rfl
      have e18 : h9 68 9 = h 68 9 := (u9 68 9 rfl)
      have q20 : h9 69 = h 69 := funext (fun i => (u9 69 i (fo_no_ok (by decide) i)))
      have q21 : h9 70 = h 70 := funext (fun i => (u9 70 i (fo_no_ok (by decide) i)))
      have nb19 : NBc (h9 69) (h9 70) := by rw [q20, q21]; exact xq1
      exact k h9 z10 g9 F11 (by omega) (show z10 = 0 ∨ z10 = 1 by omega) (by unfold sc_cmd sc_hd sc_num sc_mk; (try dsimp only); (repeat (first | rw [if_pos (by omega)] | rw [if_neg (by omega)])); (repeat ((first | unfold sc_num | unfold sc_mk); (try dsimp only); (repeat (first | rw [if_pos (by omega)] | rw [if_neg (by omega)])))); first | exact sc_Oe (by omega) (by omega) (by omega) (by omega) | ((repeat' split) <;> (first | exact sc_Oe (by omega) (by omega) (by omega) (by omega) | (exfalso; omega)))) nb19
    ·
      refine wi_aload_n (i := 1) (x := mm_XB + (16 : Int).toNat) (nx := 20) (r1 := 0) (r2 := 0) (r3 := 0) rfl rfl ?_
      refine wr_gx (k0 := mm_XB + (16 : Int).toNat) (v := vi 1) (nx := 23) (r1 := 1) (r2 := 0) (r3 := 1) rfl (by decide) (by decide) rfl ?_
      refine wi_if (cd := .ne) (nx := 26) (r1 := 35) (r2 := 0) (r3 := 0) rfl (by omega) (fun (q9 : 1 ≠ 0) => ?_) (fun (q9 : ¬ (1 ≠ 0)) => by exfalso; omega)
      refine wi_aload_n (i := 1) (x := mm_XB + (16 : Int).toNat) (nx := 36) (r1 := 0) (r2 := 0) (r3 := 0) rfl rfl ?_
      refine wr_gst (v := wv 20) (nx := 39) (r1 := 19) (r2 := 0) (r3 := 0) rfl rfl rfl ?_
      refine wr_acmp (cd := .ne) (x := 16) (y := 20) (nx := 42) (r1 := 59) (r2 := 0) (r3 := 0) rfl (by omega) (by omega) (fun _ => ?_) (fun q => absurd (by decide) q)
      refine wi_aload_n (i := 0) (x := 68) (nx := 60) (r1 := 0) (r2 := 0) (r3 := 0) rfl rfl ?_
      have b11 := gi_b (lo := 0) (hi := 40) g 68 9 rfl
      refine wr_gi0 (k0 := 68) (x := h 68 9) (nx := 63) (r1 := 8) (r2 := 9) (r3 := 0) rfl rfl (by decide) rfl ⟨rfl, rfl⟩ rfl rfl ?_
      refine wi_bipush (n := 40) (nx := 65) (r1 := 0) (r2 := 0) (r3 := 0) rfl (by decide) ?_
      refine wi_icmp (cd := .lt) (nx := 68) (r1 := 77) (r2 := 0) (r3 := 0) rfl (by omega) (by omega) (fun (q12 : (h 68 9) < 40) => ?_) (fun (q12 : ¬ ((h 68 9) < 40)) => ?_)
      ·
        refine wi_aload_n (i := 0) (x := 68) (nx := 78) (r1 := 0) (r2 := 0) (r3 := 0) rfl rfl ?_
        refine wi_dup (nx := 79) (r1 := 0) (r2 := 0) (r3 := 0) rfl rfl ?_
        refine wr_gi0 (k0 := 68) (x := h 68 9) (nx := 82) (r1 := 8) (r2 := 9) (r3 := 0) rfl rfl (by decide) rfl ⟨rfl, rfl⟩ rfl rfl ?_
        refine wi_iconst (n := 1) (nx := 83) (r1 := 0) (r2 := 0) (r3 := 0) rfl ?_
        refine wr_add (nx := 84) (r1 := 0) (r2 := 0) (r3 := 0) rfl (fun e13 (fe13 : e13 = (h 68 9) + 1) => ?_)
        refine wr_pf0 (k0 := 68) (x := e13) (bl := 0) (bh := 40) (nx := 87) (r1 := 8) (r2 := 9) (r3 := 0) rfl (by decide) rfl ⟨rfl, rfl⟩ rfl rfl g rfl (by omega) (fun h14 g14 w14 u14 => ?_)
        have F15 := F0.then rfl u14
        refine wi_aload_n (i := 1) (x := mm_XB + (16 : Int).toNat) (nx := 88) (r1 := 0) (r2 := 0) (r3 := 0) rfl rfl ?_
        refine wr_gx (k0 := mm_XB + (16 : Int).toNat) (v := vi 99) (nx := 91) (r1 := 3) (r2 := 0) (r3 := 1) rfl (by decide) (by decide) rfl ?_
        refine wi_if (cd := .le) (nx := 94) (r1 := 114) (r2 := 0) (r3 := 0) rfl (by omega) (fun (q16 : 99 ≤ 0) => by exfalso; omega) (fun (q16 : ¬ (99 ≤ 0)) => ?_)
        refine wi_aload_n (i := 0) (x := 68) (nx := 95) (r1 := 0) (r2 := 0) (r3 := 0) rfl rfl ?_
        refine wr_gr (k0 := 68) (x := 1) (nx := 98) (r1 := 8) (r2 := 0) (r3 := 0) rfl rfl (by decide) rfl ⟨rfl, rfl⟩ rfl ?_
        refine wi_aload_n (i := 1) (x := mm_XB + (16 : Int).toNat) (nx := 99) (r1 := 0) (r2 := 0) (r3 := 0) rfl rfl ?_
        refine wr_gx (k0 := mm_XB + (16 : Int).toNat) (v := vi 1) (nx := 102) (r1 := 2) (r2 := 0) (r3 := 1) rfl (by decide) (by decide) rfl ?_
        refine wi_aload_n (i := 1) (x := mm_XB + (16 : Int).toNat) (nx := 103) (r1 := 0) (r2 := 0) (r3 := 0) rfl rfl ?_
        refine wr_gx (k0 := mm_XB + (16 : Int).toNat) (v := vi 99) (nx := 106) (r1 := 3) (r2 := 0) (r3 := 1) rfl (by decide) (by decide) rfl ?_
        refine wr_V (k0 := 1) (rest := []) (as := [.ref 1, vi 1, vi 99]) (nx := 109) (r1 := 103) (r2 := 2) (r3 := 1) rfl rfl rfl (of_decide_eq_true rfl) rfl rfl (by decide) rfl rfl (of_decide_eq_true rfl) (of_decide_eq_true rfl) ?_
        have e18 : h14 1 4 = h 1 4 := (u14 1 4 rfl)
        have tb20 := BufC.fr u14 rfl xq0
        refine ct_103_1 hcr  g14 1 99 (by omega) (by omega) (show (h14 1 4) = (tk_nx tB tn tp) by omega) (show 0 ≤ (tk_nx tB tn tp) by omega) (show (tk_nx tB tn tp) ≤ tn by omega) tb20 (fun h17 z19 g17 u17 (fz19 : 0 ≤ z19 ∧ z19 ≤ 1) (p17_0 : (z19 = 1 ∧ tk_kd tB tn (tk_nx tB tn tp) = 2 ∧ 1 ≤ tk_nb tB tn (tk_nx tB tn tp) ∧ tk_nb tB tn (tk_nx tB tn tp) ≤ 99 ∧ (h17 1 4) = tk_nx tB tn (tk_nx tB tn tp) ∧ (h17 1 7) = tk_nb tB tn (tk_nx tB tn tp) ∧ (h17 1 2) = (h14 1 2) ∧ (h17 1 3) = (h14 1 3)) ∨ (z19 = 0 ∧ (h17 1 3) = tk_st tB tn (tk_nx tB tn tp) ∧ ((tk_kd tB tn (tk_nx tB tn tp) ≠ 2 ∧ (h17 1 2) = 1) ∨ (tk_kd tB tn (tk_nx tB tn tp) = 2 ∧ (tk_nb tB tn (tk_nx tB tn tp) < 1 ∨ 99 < tk_nb tB tn (tk_nx tB tn tp)) ∧ (h17 1 2) = 2)))) => ?_)
        have F21 := F15.then (by decide +kernel) u17
        have e22 : h14 1 2 = h 1 2 := (u14 1 2 rfl)
        have e23 : h14 1 3 = h 1 3 := (u14 1 3 rfl)
        have b24 := gi_b (lo := 0) (hi := 800) g17 1 4 rfl
        have b25 := gi_b (lo := -2147483648) (hi := 2147483647) g17 1 7 rfl
        have b26 := gi_b (lo := -2147483648) (hi := 2147483647) g17 1 2 rfl
        have b27 := gi_b (lo := -2147483648) (hi := 2147483647) g17 1 3 rfl
        have tN28 := @tk_nx_b tB tn (tk_nx tB tn tp) (by omega) (by omega)
        refine wk_i ?_
        refine wi_if (cd := .ne) (nx := 112) (r1 := 114) (r2 := 0) (r3 := 0) rfl (by omega) (fun (q29 : z19 ≠ 0) => ?_) (fun (q29 : ¬ (z19 ≠ 0)) => ?_)
        ·
          refine wi_aload_n (i := 0) (x := 68) (nx := 115) (r1 := 0) (r2 := 0) (r3 := 0) rfl rfl ?_
          refine wi_aload_n (i := 1) (x := mm_XB + (16 : Int).toNat) (nx := 116) (r1 := 0) (r2 := 0) (r3 := 0) rfl rfl ?_
          refine wi_aload_n (i := 0) (x := 68) (nx := 117) (r1 := 0) (r2 := 0) (r3 := 0) rfl rfl ?_
          refine wr_gr (k0 := 68) (x := 1) (nx := 120) (r1 := 8) (r2 := 0) (r3 := 0) rfl rfl (by decide) rfl ⟨rfl, rfl⟩ rfl ?_
          refine wr_gi0 (k0 := 1) (x := h17 1 7) (nx := 123) (r1 := 1) (r2 := 7) (r3 := 0) rfl rfl (by decide) rfl ⟨rfl, rfl⟩ rfl rfl ?_
          refine wr_V (k0 := 68) (rest := []) (as := [.ref 68, wv 16, vi (h17 1 7)]) (nx := 126) (r1 := 184) (r2 := 2) (r3 := 8) rfl rfl rfl (of_decide_eq_true rfl) rfl rfl (by decide) rfl rfl (of_decide_eq_true rfl) (of_decide_eq_true rfl) ?_
          have q32 : h17 69 = h 69 := funext (fun i => ((u17 69 i (fo_no_ok (by decide) i)).trans (u14 69 i rfl)))
          have q33 : h17 70 = h 70 := funext (fun i => ((u17 70 i (fo_no_ok (by decide) i)).trans (u14 70 i rfl)))
          have nb31 : NBc (h17 69) (h17 70) := by rw [q32, q33]; exact xq1
          refine ct_184_68 hcr  g17 16 (h17 1 7) (by omega) (by omega) (show (16 ≠ 16 ∧ 16 ≠ 17) ∨ (0 ≤ (h17 1 7) ∧ (h17 1 7) ≤ 99) by omega) nb31 (fun h30 g30 u30 y30_0 => ?_)
          have F34 := F21.then (by decide +kernel) u30
          refine wk_n ?_
          refine wi_aload_n (i := 1) (x := mm_XB + (16 : Int).toNat) (nx := 127) (r1 := 0) (r2 := 0) (r3 := 0) rfl rfl ?_
          refine wr_gst (v := wv 20) (nx := 130) (r1 := 19) (r2 := 0) (r3 := 0) rfl rfl rfl ?_
          refine wr_acmp (cd := .ne) (x := 16) (y := 20) (nx := 133) (r1 := 166) (r2 := 0) (r3 := 0) rfl (by omega) (by omega) (fun _ => ?_) (fun q => absurd (by decide) q)
          refine wi_aload_n (i := 0) (x := 68) (nx := 167) (r1 := 0) (r2 := 0) (r3 := 0) rfl rfl ?_
          refine wr_gr (k0 := 68) (x := 1) (nx := 170) (r1 := 8) (r2 := 0) (r3 := 0) rfl rfl (by decide) rfl ⟨rfl, rfl⟩ rfl ?_
          refine wr_V (k0 := 1) (rest := []) (as := [.ref 1]) (nx := 173) (r1 := 105) (r2 := 0) (r3 := 1) rfl rfl rfl (of_decide_eq_true rfl) rfl rfl (by decide) rfl rfl (of_decide_eq_true rfl) (of_decide_eq_true rfl) ?_
          have e37 : h30 1 4 = h17 1 4 := (u30 1 4 rfl)
          have tb39 := BufC.fr u17 rfl tb20
          have tb40 := BufC.fr u30 rfl tb39
          refine ct_105_1 hcr  g30   (show (h30 1 4) = (tk_nx tB tn (tk_nx tB tn tp)) by omega) (show 0 ≤ (tk_nx tB tn (tk_nx tB tn tp)) by omega) (show (tk_nx tB tn (tk_nx tB tn tp)) ≤ tn by omega) tb40 (fun h36 z38 g36 u36 (fz38 : 0 ≤ z38 ∧ z38 ≤ 1) (p36_0 : (z38 = 1 ∧ tk_kd tB tn (tk_nx tB tn (tk_nx tB tn tp)) = 3 ∧ (h36 1 4) = tk_nx tB tn (tk_nx tB tn (tk_nx tB tn tp)) ∧ (h36 1 2) = (h30 1 2) ∧ (h36 1 3) = (h30 1 3)) ∨ (z38 = 0 ∧ tk_kd tB tn (tk_nx tB tn (tk_nx tB tn tp)) ≠ 3 ∧ (h36 1 2) = 1 ∧ (h36 1 3) = tk_st tB tn (tk_nx tB tn (tk_nx tB tn tp)))) => ?_)
          have F41 := F34.then (by decide +kernel) u36
          have e42 : h30 1 2 = h17 1 2 := (u30 1 2 rfl)
          have e43 : h30 1 3 = h17 1 3 := (u30 1 3 rfl)
          have b44 := gi_b (lo := 0) (hi := 800) g36 1 4 rfl
          have b45 := gi_b (lo := -2147483648) (hi := 2147483647) g36 1 2 rfl
          have b46 := gi_b (lo := -2147483648) (hi := 2147483647) g36 1 3 rfl
          have tN47 := @tk_nx_b tB tn (tk_nx tB tn (tk_nx tB tn tp)) (by omega) (by omega)
          refine wk_i ?_
          refine wi_zreturn (nx := 174) (r1 := 0) (r2 := 0) (r3 := 0) rfl rfl (by omega) ?_
          have b48 := gi_b (lo := 0) (hi := 2) g 68 8 rfl
          have e49 : h36 68 8 = h 68 8 := ((u36 68 8 rfl).trans ((u30 68 8 rfl).trans ((u17 68 8 rfl).trans (u14 68 8 rfl))))
          have e50 : h36 68 9 = e13 := ((u36 68 9 rfl).trans ((u30 68 9 rfl).trans ((u17 68 9 rfl).trans w14)))
          have q52 : h36 69 = h30 69 := funext (fun i => (u36 69 i (fo_no_ok (by decide) i)))
          have q53 : h36 70 = h30 70 := funext (fun i => (u36 70 i (fo_no_ok (by decide) i)))
          have nb51 : NBc (h36 69) (h36 70) := by rw [q52, q53]; exact y30_0
          exact k h36 z38 g36 F41 (by omega) (show z38 = 0 ∨ z38 = 1 by omega) (by rcases (show z38 = 0 ∨ z38 = 1 by omega) with zz | zz; (unfold sc_cmd sc_hd sc_num sc_mk; (try dsimp only); (repeat (first | rw [if_pos (by omega)] | rw [if_neg (by omega)])); (repeat ((first | unfold sc_num | unfold sc_mk); (try dsimp only); (repeat (first | rw [if_pos (by omega)] | rw [if_neg (by omega)])))); exact sc_Oe (by omega) (by omega) (by omega) (by omega)); (unfold sc_cmd sc_hd sc_num sc_mk; (try dsimp only); (repeat (first | rw [if_pos (by omega)] | rw [if_neg (by omega)])); (repeat ((first | unfold sc_num | unfold sc_mk); (try dsimp only); (repeat (first | rw [if_pos (by omega)] | rw [if_neg (by omega)])))); exact sc_Os (by omega) (by omega) (by omega) (by omega) (by omega) (by omega))) nb51
        ·
          refine wi_iconst (n := 0) (nx := 113) (r1 := 0) (r2 := 0) (r3 := 0) rfl ?_
          refine wi_zreturn (nx := 114) (r1 := 0) (r2 := 0) (r3 := 0) rfl rfl (by omega) ?_
          have b30 := gi_b (lo := 0) (hi := 2) g 68 8 rfl
          have e31 : h17 68 8 = h 68 8 := ((u17 68 8 rfl).trans (u14 68 8 rfl))
          have e32 : h17 68 9 = e13 := ((u17 68 9 rfl).trans w14)
          have q34 : h17 69 = h 69 := funext (fun i => ((u17 69 i (fo_no_ok (by decide) i)).trans (u14 69 i rfl)))
          have q35 : h17 70 = h 70 := funext (fun i => ((u17 70 i (fo_no_ok (by decide) i)).trans (u14 70 i rfl)))
          have nb33 : NBc (h17 69) (h17 70) := by rw [q34, q35]; exact xq1
          exact k h17 0 g17 F21 (by omega) (show 0 = 0 ∨ 0 = 1 by omega) (by unfold sc_cmd sc_hd sc_num sc_mk; (try dsimp only); (repeat (first | rw [if_pos (by omega)] | rw [if_neg (by omega)])); (repeat ((first | unfold sc_num | unfold sc_mk); (try dsimp only); (repeat (first | rw [if_pos (by omega)] | rw [if_neg (by omega)])))); first | exact sc_Oe (by omega) (by omega) (by omega) (by omega) | ((repeat' split) <;> (first | exact sc_Oe (by omega) (by omega) (by omega) (by omega) | (exfalso; omega)))) nb33
      ·
        refine wi_aload_n (i := 0) (x := 68) (nx := 69) (r1 := 0) (r2 := 0) (r3 := 0) rfl rfl ?_
        refine wr_gr (k0 := 68) (x := 1) (nx := 72) (r1 := 8) (r2 := 0) (r3 := 0) rfl rfl (by decide) rfl ⟨rfl, rfl⟩ rfl ?_
        refine wi_iconst (n := 5) (nx := 73) (r1 := 0) (r2 := 0) (r3 := 0) rfl ?_
        refine wr_V (k0 := 1) (rest := []) (as := [.ref 1, vi 5]) (nx := 76) (r1 := 101) (r2 := 1) (r3 := 1) rfl rfl rfl (of_decide_eq_true rfl) rfl rfl (by decide) rfl rfl (of_decide_eq_true rfl) (of_decide_eq_true rfl) ?_
        refine ct_101_1 hcr  g 5 (by omega)  (fun h13 z14 g13 u13 (fz14 : 0 ≤ z14 ∧ z14 ≤ 0) (p13_0 : z14 = 0) (p13_1 : (h13 1 2) = 5) (p13_2 : (h13 1 3) = (h 1 6)) => ?_)
        have F15 := F0.then (by decide +kernel) u13
        have b16 := gi_b (lo := -2147483648) (hi := 2147483647) g13 1 2 rfl
        have b17 := gi_b (lo := -2147483648) (hi := 2147483647) g13 1 3 rfl
        refine wk_i ?_
        refine wi_zreturn (nx := 77) (r1 := 0) (r2 := 0) (r3 := 0) rfl rfl (by omega) ?_
        have e18 : h13 1 4 = h 1 4 := (u13 1 4 rfl)
        have b19 := gi_b (lo := 0) (hi := 2) g 68 8 rfl
        have e20 : h13 68 8 = h 68 8 := (u13 68 8 rfl)
        have e21 : h13 68 9 = h 68 9 := (u13 68 9 rfl)
        have q23 : h13 69 = h 69 := funext (fun i => (u13 69 i (fo_no_ok (by decide) i)))
        have q24 : h13 70 = h 70 := funext (fun i => (u13 70 i (fo_no_ok (by decide) i)))
        have nb22 : NBc (h13 69) (h13 70) := by rw [q23, q24]; exact xq1
        exact k h13 z14 g13 F15 (by omega) (show z14 = 0 ∨ z14 = 1 by omega) (by unfold sc_cmd sc_hd sc_num sc_mk; (try dsimp only); (repeat (first | rw [if_pos (by omega)] | rw [if_neg (by omega)])); (repeat ((first | unfold sc_num | unfold sc_mk); (try dsimp only); (repeat (first | rw [if_pos (by omega)] | rw [if_neg (by omega)])))); first | exact sc_Oe (by omega) (by omega) (by omega) (by omega) | ((repeat' split) <;> (first | exact sc_Oe (by omega) (by omega) (by omega) (by omega) | (exfalso; omega)))) nb22
  ·
    refine wr_gi3 (k0 := 1) (x := 17) (nx := 7) (r1 := 1) (r2 := 9) (r3 := 0) rfl rfl (by decide) rfl ⟨rfl, rfl⟩ rfl q7 ?_
    refine wi_astore_n (i := 1) (x := mm_XB + (17 : Int).toNat) (lo2 := [(1, wv 17), (0, .ref 68)]) (nx := 8) (r1 := 0) (r2 := 0) (r3 := 0) rfl rfl ?_
    refine wi_aload_n (i := 0) (x := 68) (nx := 9) (r1 := 0) (r2 := 0) (r3 := 0) rfl rfl ?_
    refine wr_gr (k0 := 68) (x := 1) (nx := 12) (r1 := 8) (r2 := 0) (r3 := 0) rfl rfl (by decide) rfl ⟨rfl, rfl⟩ rfl ?_
    refine wr_gi0 (k0 := 1) (x := h 1 5) (nx := 15) (r1 := 1) (r2 := 5) (r3 := 0) rfl rfl (by decide) rfl ⟨rfl, rfl⟩ rfl rfl ?_
    refine wi_iconst (n := 1) (nx := 16) (r1 := 0) (r2 := 0) (r3 := 0) rfl ?_
    refine wi_icmp (cd := .ne) (nx := 19) (r1 := 26) (r2 := 0) (r3 := 0) rfl (by omega) (by omega) (fun (q8 : (h 1 5) ≠ 1) => ?_) (fun (q8 : ¬ ((h 1 5) ≠ 1)) => ?_)
    ·
      refine wi_aload_n (i := 0) (x := 68) (nx := 27) (r1 := 0) (r2 := 0) (r3 := 0) rfl rfl ?_
      refine wr_gr (k0 := 68) (x := 1) (nx := 30) (r1 := 8) (r2 := 0) (r3 := 0) rfl rfl (by decide) rfl ⟨rfl, rfl⟩ rfl ?_
      refine wi_iconst (n := 1) (nx := 31) (r1 := 0) (r2 := 0) (r3 := 0) rfl ?_
      refine wr_V (k0 := 1) (rest := []) (as := [.ref 1, vi 1]) (nx := 34) (r1 := 101) (r2 := 1) (r3 := 1) rfl rfl rfl (of_decide_eq_true rfl) rfl rfl (by decide) rfl rfl (of_decide_eq_true rfl) (of_decide_eq_true rfl) ?_
      refine ct_101_1 hcr  g 1 (by omega)  (fun h9 z10 g9 u9 (fz10 : 0 ≤ z10 ∧ z10 ≤ 0) (p9_0 : z10 = 0) (p9_1 : (h9 1 2) = 1) (p9_2 : (h9 1 3) = (h 1 6)) => ?_)
      have F11 := F0.then (by decide +kernel) u9
      have b12 := gi_b (lo := -2147483648) (hi := 2147483647) g9 1 2 rfl
      have b13 := gi_b (lo := -2147483648) (hi := 2147483647) g9 1 3 rfl
      refine wk_i ?_
      refine wi_zreturn (nx := 35) (r1 := 0) (r2 := 0) (r3 := 0) rfl rfl (by omega) ?_
      have e14 : h9 1 4 = h 1 4 := (u9 1 4 rfl)
      have b15 := gi_b (lo := 0) (hi := 2) g 68 8 rfl
      have e16 : h9 68 8 = h 68 8 := (u9 68 8 rfl)
      have b17 := gi_b (lo := 0) (hi := 40) g 68 9 rfl
      have e18 : h9 68 9 = h 68 9 := (u9 68 9 rfl)
      have q20 : h9 69 = h 69 := funext (fun i => (u9 69 i (fo_no_ok (by decide) i)))
      have q21 : h9 70 = h 70 := funext (fun i => (u9 70 i (fo_no_ok (by decide) i)))
      have nb19 : NBc (h9 69) (h9 70) := by rw [q20, q21]; exact xq1
      exact k h9 z10 g9 F11 (by omega) (show z10 = 0 ∨ z10 = 1 by omega) (by unfold sc_cmd sc_hd sc_num sc_mk; (try dsimp only); (repeat (first | rw [if_pos (by omega)] | rw [if_neg (by omega)])); (repeat ((first | unfold sc_num | unfold sc_mk); (try dsimp only); (repeat (first | rw [if_pos (by omega)] | rw [if_neg (by omega)])))); first | exact sc_Oe (by omega) (by omega) (by omega) (by omega) | ((repeat' split) <;> (first | exact sc_Oe (by omega) (by omega) (by omega) (by omega) | (exfalso; omega)))) nb19
    ·
      refine wi_aload_n (i := 1) (x := mm_XB + (17 : Int).toNat) (nx := 20) (r1 := 0) (r2 := 0) (r3 := 0) rfl rfl ?_
      refine wr_gx (k0 := mm_XB + (17 : Int).toNat) (v := vi 1) (nx := 23) (r1 := 1) (r2 := 0) (r3 := 1) rfl (by decide) (by decide) rfl ?_
      refine wi_if (cd := .ne) (nx := 26) (r1 := 35) (r2 := 0) (r3 := 0) rfl (by omega) (fun (q9 : 1 ≠ 0) => ?_) (fun (q9 : ¬ (1 ≠ 0)) => by exfalso; omega)
      refine wi_aload_n (i := 1) (x := mm_XB + (17 : Int).toNat) (nx := 36) (r1 := 0) (r2 := 0) (r3 := 0) rfl rfl ?_
      refine wr_gst (v := wv 20) (nx := 39) (r1 := 19) (r2 := 0) (r3 := 0) rfl rfl rfl ?_
      refine wr_acmp (cd := .ne) (x := 17) (y := 20) (nx := 42) (r1 := 59) (r2 := 0) (r3 := 0) rfl (by omega) (by omega) (fun _ => ?_) (fun q => absurd (by decide) q)
      refine wi_aload_n (i := 0) (x := 68) (nx := 60) (r1 := 0) (r2 := 0) (r3 := 0) rfl rfl ?_
      have b11 := gi_b (lo := 0) (hi := 40) g 68 9 rfl
      refine wr_gi0 (k0 := 68) (x := h 68 9) (nx := 63) (r1 := 8) (r2 := 9) (r3 := 0) rfl rfl (by decide) rfl ⟨rfl, rfl⟩ rfl rfl ?_
      refine wi_bipush (n := 40) (nx := 65) (r1 := 0) (r2 := 0) (r3 := 0) rfl (by decide) ?_
      refine wi_icmp (cd := .lt) (nx := 68) (r1 := 77) (r2 := 0) (r3 := 0) rfl (by omega) (by omega) (fun (q12 : (h 68 9) < 40) => ?_) (fun (q12 : ¬ ((h 68 9) < 40)) => ?_)
      ·
        refine wi_aload_n (i := 0) (x := 68) (nx := 78) (r1 := 0) (r2 := 0) (r3 := 0) rfl rfl ?_
        refine wi_dup (nx := 79) (r1 := 0) (r2 := 0) (r3 := 0) rfl rfl ?_
        refine wr_gi0 (k0 := 68) (x := h 68 9) (nx := 82) (r1 := 8) (r2 := 9) (r3 := 0) rfl rfl (by decide) rfl ⟨rfl, rfl⟩ rfl rfl ?_
        refine wi_iconst (n := 1) (nx := 83) (r1 := 0) (r2 := 0) (r3 := 0) rfl ?_
        refine wr_add (nx := 84) (r1 := 0) (r2 := 0) (r3 := 0) rfl (fun e13 (fe13 : e13 = (h 68 9) + 1) => ?_)
        refine wr_pf0 (k0 := 68) (x := e13) (bl := 0) (bh := 40) (nx := 87) (r1 := 8) (r2 := 9) (r3 := 0) rfl (by decide) rfl ⟨rfl, rfl⟩ rfl rfl g rfl (by omega) (fun h14 g14 w14 u14 => ?_)
        have F15 := F0.then rfl u14
        refine wi_aload_n (i := 1) (x := mm_XB + (17 : Int).toNat) (nx := 88) (r1 := 0) (r2 := 0) (r3 := 0) rfl rfl ?_
        refine wr_gx (k0 := mm_XB + (17 : Int).toNat) (v := vi 99) (nx := 91) (r1 := 3) (r2 := 0) (r3 := 1) rfl (by decide) (by decide) rfl ?_
        refine wi_if (cd := .le) (nx := 94) (r1 := 114) (r2 := 0) (r3 := 0) rfl (by omega) (fun (q16 : 99 ≤ 0) => by exfalso; omega) (fun (q16 : ¬ (99 ≤ 0)) => ?_)
        refine wi_aload_n (i := 0) (x := 68) (nx := 95) (r1 := 0) (r2 := 0) (r3 := 0) rfl rfl ?_
        refine wr_gr (k0 := 68) (x := 1) (nx := 98) (r1 := 8) (r2 := 0) (r3 := 0) rfl rfl (by decide) rfl ⟨rfl, rfl⟩ rfl ?_
        refine wi_aload_n (i := 1) (x := mm_XB + (17 : Int).toNat) (nx := 99) (r1 := 0) (r2 := 0) (r3 := 0) rfl rfl ?_
        refine wr_gx (k0 := mm_XB + (17 : Int).toNat) (v := vi 1) (nx := 102) (r1 := 2) (r2 := 0) (r3 := 1) rfl (by decide) (by decide) rfl ?_
        refine wi_aload_n (i := 1) (x := mm_XB + (17 : Int).toNat) (nx := 103) (r1 := 0) (r2 := 0) (r3 := 0) rfl rfl ?_
        refine wr_gx (k0 := mm_XB + (17 : Int).toNat) (v := vi 99) (nx := 106) (r1 := 3) (r2 := 0) (r3 := 1) rfl (by decide) (by decide) rfl ?_
        refine wr_V (k0 := 1) (rest := []) (as := [.ref 1, vi 1, vi 99]) (nx := 109) (r1 := 103) (r2 := 2) (r3 := 1) rfl rfl rfl (of_decide_eq_true rfl) rfl rfl (by decide) rfl rfl (of_decide_eq_true rfl) (of_decide_eq_true rfl) ?_
        have e18 : h14 1 4 = h 1 4 := (u14 1 4 rfl)
        have tb20 := BufC.fr u14 rfl xq0
        refine ct_103_1 hcr  g14 1 99 (by omega) (by omega) (show (h14 1 4) = (tk_nx tB tn tp) by omega) (show 0 ≤ (tk_nx tB tn tp) by omega) (show (tk_nx tB tn tp) ≤ tn by omega) tb20 (fun h17 z19 g17 u17 (fz19 : 0 ≤ z19 ∧ z19 ≤ 1) (p17_0 : (z19 = 1 ∧ tk_kd tB tn (tk_nx tB tn tp) = 2 ∧ 1 ≤ tk_nb tB tn (tk_nx tB tn tp) ∧ tk_nb tB tn (tk_nx tB tn tp) ≤ 99 ∧ (h17 1 4) = tk_nx tB tn (tk_nx tB tn tp) ∧ (h17 1 7) = tk_nb tB tn (tk_nx tB tn tp) ∧ (h17 1 2) = (h14 1 2) ∧ (h17 1 3) = (h14 1 3)) ∨ (z19 = 0 ∧ (h17 1 3) = tk_st tB tn (tk_nx tB tn tp) ∧ ((tk_kd tB tn (tk_nx tB tn tp) ≠ 2 ∧ (h17 1 2) = 1) ∨ (tk_kd tB tn (tk_nx tB tn tp) = 2 ∧ (tk_nb tB tn (tk_nx tB tn tp) < 1 ∨ 99 < tk_nb tB tn (tk_nx tB tn tp)) ∧ (h17 1 2) = 2)))) => ?_)
        have F21 := F15.then (by decide +kernel) u17
        have e22 : h14 1 2 = h 1 2 := (u14 1 2 rfl)
        have e23 : h14 1 3 = h 1 3 := (u14 1 3 rfl)
        have b24 := gi_b (lo := 0) (hi := 800) g17 1 4 rfl
        have b25 := gi_b (lo := -2147483648) (hi := 2147483647) g17 1 7 rfl
        have b26 := gi_b (lo := -2147483648) (hi := 2147483647) g17 1 2 rfl
        have b27 := gi_b (lo := -2147483648) (hi := 2147483647) g17 1 3 rfl
        have tN28 := @tk_nx_b tB tn (tk_nx tB tn tp) (by omega) (by omega)
        refine wk_i ?_
        refine wi_if (cd := .ne) (nx := 112) (r1 := 114) (r2 := 0) (r3 := 0) rfl (by omega) (fun (q29 : z19 ≠ 0) => ?_) (fun (q29 : ¬ (z19 ≠ 0)) => ?_)
        ·
          refine wi_aload_n (i := 0) (x := 68) (nx := 115) (r1 := 0) (r2 := 0) (r3 := 0) rfl rfl ?_
          refine wi_aload_n (i := 1) (x := mm_XB + (17 : Int).toNat) (nx := 116) (r1 := 0) (r2 := 0) (r3 := 0) rfl rfl ?_
          refine wi_aload_n (i := 0) (x := 68) (nx := 117) (r1 := 0) (r2 := 0) (r3 := 0) rfl rfl ?_
          refine wr_gr (k0 := 68) (x := 1) (nx := 120) (r1 := 8) (r2 := 0) (r3 := 0) rfl rfl (by decide) rfl ⟨rfl, rfl⟩ rfl ?_
          refine wr_gi0 (k0 := 1) (x := h17 1 7) (nx := 123) (r1 := 1) (r2 := 7) (r3 := 0) rfl rfl (by decide) rfl ⟨rfl, rfl⟩ rfl rfl ?_
          refine wr_V (k0 := 68) (rest := []) (as := [.ref 68, wv 17, vi (h17 1 7)]) (nx := 126) (r1 := 184) (r2 := 2) (r3 := 8) rfl rfl rfl (of_decide_eq_true rfl) rfl rfl (by decide) rfl rfl (of_decide_eq_true rfl) (of_decide_eq_true rfl) ?_
          have q32 : h17 69 = h 69 := funext (fun i => ((u17 69 i (fo_no_ok (by decide) i)).trans (u14 69 i rfl)))
          have q33 : h17 70 = h 70 := funext (fun i => ((u17 70 i (fo_no_ok (by decide) i)).trans (u14 70 i rfl)))
          have nb31 : NBc (h17 69) (h17 70) := by rw [q32, q33]; exact xq1
          refine ct_184_68 hcr  g17 17 (h17 1 7) (by omega) (by omega) (show (17 ≠ 16 ∧ 17 ≠ 17) ∨ (0 ≤ (h17 1 7) ∧ (h17 1 7) ≤ 99) by omega) nb31 (fun h30 g30 u30 y30_0 => ?_)
          have F34 := F21.then (by decide +kernel) u30
          refine wk_n ?_
          refine wi_aload_n (i := 1) (x := mm_XB + (17 : Int).toNat) (nx := 127) (r1 := 0) (r2 := 0) (r3 := 0) rfl rfl ?_
          refine wr_gst (v := wv 20) (nx := 130) (r1 := 19) (r2 := 0) (r3 := 0) rfl rfl rfl ?_
          refine wr_acmp (cd := .ne) (x := 17) (y := 20) (nx := 133) (r1 := 166) (r2 := 0) (r3 := 0) rfl (by omega) (by omega) (fun _ => ?_) (fun q => absurd (by decide) q)
          refine wi_aload_n (i := 0) (x := 68) (nx := 167) (r1 := 0) (r2 := 0) (r3 := 0) rfl rfl ?_
          refine wr_gr (k0 := 68) (x := 1) (nx := 170) (r1 := 8) (r2 := 0) (r3 := 0) rfl rfl (by decide) rfl ⟨rfl, rfl⟩ rfl ?_
          refine wr_V (k0 := 1) (rest := []) (as := [.ref 1]) (nx := 173) (r1 := 105) (r2 := 0) (r3 := 1) rfl rfl rfl (of_decide_eq_true rfl) rfl rfl (by decide) rfl rfl (of_decide_eq_true rfl) (of_decide_eq_true rfl) ?_
          have e37 : h30 1 4 = h17 1 4 := (u30 1 4 rfl)
          have tb39 := BufC.fr u17 rfl tb20
          have tb40 := BufC.fr u30 rfl tb39
          refine ct_105_1 hcr  g30   (show (h30 1 4) = (tk_nx tB tn (tk_nx tB tn tp)) by omega) (show 0 ≤ (tk_nx tB tn (tk_nx tB tn tp)) by omega) (show (tk_nx tB tn (tk_nx tB tn tp)) ≤ tn by omega) tb40 (fun h36 z38 g36 u36 (fz38 : 0 ≤ z38 ∧ z38 ≤ 1) (p36_0 : (z38 = 1 ∧ tk_kd tB tn (tk_nx tB tn (tk_nx tB tn tp)) = 3 ∧ (h36 1 4) = tk_nx tB tn (tk_nx tB tn (tk_nx tB tn tp)) ∧ (h36 1 2) = (h30 1 2) ∧ (h36 1 3) = (h30 1 3)) ∨ (z38 = 0 ∧ tk_kd tB tn (tk_nx tB tn (tk_nx tB tn tp)) ≠ 3 ∧ (h36 1 2) = 1 ∧ (h36 1 3) = tk_st tB tn (tk_nx tB tn (tk_nx tB tn tp)))) => ?_)
          have F41 := F34.then (by decide +kernel) u36
          have e42 : h30 1 2 = h17 1 2 := (u30 1 2 rfl)
          have e43 : h30 1 3 = h17 1 3 := (u30 1 3 rfl)
          have b44 := gi_b (lo := 0) (hi := 800) g36 1 4 rfl
          have b45 := gi_b (lo := -2147483648) (hi := 2147483647) g36 1 2 rfl
          have b46 := gi_b (lo := -2147483648) (hi := 2147483647) g36 1 3 rfl
          have tN47 := @tk_nx_b tB tn (tk_nx tB tn (tk_nx tB tn tp)) (by omega) (by omega)
          refine wk_i ?_
          refine wi_zreturn (nx := 174) (r1 := 0) (r2 := 0) (r3 := 0) rfl rfl (by omega) ?_
          have b48 := gi_b (lo := 0) (hi := 2) g 68 8 rfl
          have e49 : h36 68 8 = h 68 8 := ((u36 68 8 rfl).trans ((u30 68 8 rfl).trans ((u17 68 8 rfl).trans (u14 68 8 rfl))))
          have e50 : h36 68 9 = e13 := ((u36 68 9 rfl).trans ((u30 68 9 rfl).trans ((u17 68 9 rfl).trans w14)))
          have q52 : h36 69 = h30 69 := funext (fun i => (u36 69 i (fo_no_ok (by decide) i)))
          have q53 : h36 70 = h30 70 := funext (fun i => (u36 70 i (fo_no_ok (by decide) i)))
          have nb51 : NBc (h36 69) (h36 70) := by rw [q52, q53]; exact y30_0
          exact k h36 z38 g36 F41 (by omega) (show z38 = 0 ∨ z38 = 1 by omega) (by rcases (show z38 = 0 ∨ z38 = 1 by omega) with zz | zz; (unfold sc_cmd sc_hd sc_num sc_mk; (try dsimp only); (repeat (first | rw [if_pos (by omega)] | rw [if_neg (by omega)])); (repeat ((first | unfold sc_num | unfold sc_mk); (try dsimp only); (repeat (first | rw [if_pos (by omega)] | rw [if_neg (by omega)])))); exact sc_Oe (by omega) (by omega) (by omega) (by omega)); (unfold sc_cmd sc_hd sc_num sc_mk; (try dsimp only); (repeat (first | rw [if_pos (by omega)] | rw [if_neg (by omega)])); (repeat ((first | unfold sc_num | unfold sc_mk); (try dsimp only); (repeat (first | rw [if_pos (by omega)] | rw [if_neg (by omega)])))); exact sc_Os (by omega) (by omega) (by omega) (by omega) (by omega) (by omega))) nb51
        ·
          refine wi_iconst (n := 0) (nx := 113) (r1 := 0) (r2 := 0) (r3 := 0) rfl ?_
          refine wi_zreturn (nx := 114) (r1 := 0) (r2 := 0) (r3 := 0) rfl rfl (by omega) ?_
          have b30 := gi_b (lo := 0) (hi := 2) g 68 8 rfl
          have e31 : h17 68 8 = h 68 8 := ((u17 68 8 rfl).trans (u14 68 8 rfl))
          have e32 : h17 68 9 = e13 := ((u17 68 9 rfl).trans w14)
          have q34 : h17 69 = h 69 := funext (fun i => ((u17 69 i (fo_no_ok (by decide) i)).trans (u14 69 i rfl)))
          have q35 : h17 70 = h 70 := funext (fun i => ((u17 70 i (fo_no_ok (by decide) i)).trans (u14 70 i rfl)))
          have nb33 : NBc (h17 69) (h17 70) := by rw [q34, q35]; exact xq1
          exact k h17 0 g17 F21 (by omega) (show 0 = 0 ∨ 0 = 1 by omega) (by unfold sc_cmd sc_hd sc_num sc_mk; (try dsimp only); (repeat (first | rw [if_pos (by omega)] | rw [if_neg (by omega)])); (repeat ((first | unfold sc_num | unfold sc_mk); (try dsimp only); (repeat (first | rw [if_pos (by omega)] | rw [if_neg (by omega)])))); first | exact sc_Oe (by omega) (by omega) (by omega) (by omega) | ((repeat' split) <;> (first | exact sc_Oe (by omega) (by omega) (by omega) (by omega) | (exfalso; omega)))) nb33
      ·
        refine wi_aload_n (i := 0) (x := 68) (nx := 69) (r1 := 0) (r2 := 0) (r3 := 0) rfl rfl ?_
        refine wr_gr (k0 := 68) (x := 1) (nx := 72) (r1 := 8) (r2 := 0) (r3 := 0) rfl rfl (by decide) rfl ⟨rfl, rfl⟩ rfl ?_
        refine wi_iconst (n := 5) (nx := 73) (r1 := 0) (r2 := 0) (r3 := 0) rfl ?_
        refine wr_V (k0 := 1) (rest := []) (as := [.ref 1, vi 5]) (nx := 76) (r1 := 101) (r2 := 1) (r3 := 1) rfl rfl rfl (of_decide_eq_true rfl) rfl rfl (by decide) rfl rfl (of_decide_eq_true rfl) (of_decide_eq_true rfl) ?_
        refine ct_101_1 hcr  g 5 (by omega)  (fun h13 z14 g13 u13 (fz14 : 0 ≤ z14 ∧ z14 ≤ 0) (p13_0 : z14 = 0) (p13_1 : (h13 1 2) = 5) (p13_2 : (h13 1 3) = (h 1 6)) => ?_)
        have F15 := F0.then (by decide +kernel) u13
        have b16 := gi_b (lo := -2147483648) (hi := 2147483647) g13 1 2 rfl
        have b17 := gi_b (lo := -2147483648) (hi := 2147483647) g13 1 3 rfl
        refine wk_i ?_
        refine wi_zreturn (nx := 77) (r1 := 0) (r2 := 0) (r3 := 0) rfl rfl (by omega) ?_
        have e18 : h13 1 4 = h 1 4 := (u13 1 4 rfl)
        have b19 := gi_b (lo := 0) (hi := 2) g 68 8 rfl
        have e20 : h13 68 8 = h 68 8 := (u13 68 8 rfl)
        have e21 : h13 68 9 = h 68 9 := (u13 68 9 rfl)
        have q23 : h13 69 = h 69 := funext (fun i => (u13 69 i (fo_no_ok (by decide) i)))
        have q24 : h13 70 = h 70 := funext (fun i => (u13 70 i (fo_no_ok (by decide) i)))
        have nb22 : NBc (h13 69) (h13 70) := by rw [q23, q24]; exact xq1
        exact k h13 z14 g13 F15 (by omega) (show z14 = 0 ∨ z14 = 1 by omega) (by unfold sc_cmd sc_hd sc_num sc_mk; (try dsimp only); (repeat (first | rw [if_pos (by omega)] | rw [if_neg (by omega)])); (repeat ((first | unfold sc_num | unfold sc_mk); (try dsimp only); (repeat (first | rw [if_pos (by omega)] | rw [if_neg (by omega)])))); first | exact sc_Oe (by omega) (by omega) (by omega) (by omega) | ((repeat' split) <;> (first | exact sc_Oe (by omega) (by omega) (by omega) (by omega) | (exfalso; omega)))) nb22
  ·
    refine wr_gi3 (k0 := 1) (x := 18) (nx := 7) (r1 := 1) (r2 := 9) (r3 := 0) rfl rfl (by decide) rfl ⟨rfl, rfl⟩ rfl q7 ?_
    refine wi_astore_n (i := 1) (x := mm_XB + (18 : Int).toNat) (lo2 := [(1, wv 18), (0, .ref 68)]) (nx := 8) (r1 := 0) (r2 := 0) (r3 := 0) rfl rfl ?_
    refine wi_aload_n (i := 0) (x := 68) (nx := 9) (r1 := 0) (r2 := 0) (r3 := 0) rfl rfl ?_
    refine wr_gr (k0 := 68) (x := 1) (nx := 12) (r1 := 8) (r2 := 0) (r3 := 0) rfl rfl (by decide) rfl ⟨rfl, rfl⟩ rfl ?_
    refine wr_gi0 (k0 := 1) (x := h 1 5) (nx := 15) (r1 := 1) (r2 := 5) (r3 := 0) rfl rfl (by decide) rfl ⟨rfl, rfl⟩ rfl rfl ?_
    refine wi_iconst (n := 1) (nx := 16) (r1 := 0) (r2 := 0) (r3 := 0) rfl ?_
    refine wi_icmp (cd := .ne) (nx := 19) (r1 := 26) (r2 := 0) (r3 := 0) rfl (by omega) (by omega) (fun (q8 : (h 1 5) ≠ 1) => ?_) (fun (q8 : ¬ ((h 1 5) ≠ 1)) => ?_)
    ·
      refine wi_aload_n (i := 0) (x := 68) (nx := 27) (r1 := 0) (r2 := 0) (r3 := 0) rfl rfl ?_
      refine wr_gr (k0 := 68) (x := 1) (nx := 30) (r1 := 8) (r2 := 0) (r3 := 0) rfl rfl (by decide) rfl ⟨rfl, rfl⟩ rfl ?_
      refine wi_iconst (n := 1) (nx := 31) (r1 := 0) (r2 := 0) (r3 := 0) rfl ?_
      refine wr_V (k0 := 1) (rest := []) (as := [.ref 1, vi 1]) (nx := 34) (r1 := 101) (r2 := 1) (r3 := 1) rfl rfl rfl (of_decide_eq_true rfl) rfl rfl (by decide) rfl rfl (of_decide_eq_true rfl) (of_decide_eq_true rfl) ?_
      refine ct_101_1 hcr  g 1 (by omega)  (fun h9 z10 g9 u9 (fz10 : 0 ≤ z10 ∧ z10 ≤ 0) (p9_0 : z10 = 0) (p9_1 : (h9 1 2) = 1) (p9_2 : (h9 1 3) = (h 1 6)) => ?_)
      have F11 := F0.then (by decide +kernel) u9
      have b12 := gi_b (lo := -2147483648) (hi := 2147483647) g9 1 2 rfl
      have b13 := gi_b (lo := -2147483648) (hi := 2147483647) g9 1 3 rfl
      refine wk_i ?_
      refine wi_zreturn (nx := 35) (r1 := 0) (r2 := 0) (r3 := 0) rfl rfl (by omega) ?_
      have e14 : h9 1 4 = h 1 4 := (u9 1 4 rfl)
      have b15 := gi_b (lo := 0) (hi := 2) g 68 8 rfl
      have e16 : h9 68 8 = h 68 8 := (u9 68 8 rfl)
      have b17 := gi_b (lo := 0) (hi := 40) g 68 9 rfl
      have e18 : h9 68 9 = h 68 9 := (u9 68 9 rfl)
      have q20 : h9 69 = h 69 := funext (fun i => (u9 69 i (fo_no_ok (by decide) i)))
      have q21 : h9 70 = h 70 := funext (fun i => (u9 70 i (fo_no_ok (by decide) i)))
      have nb19 : NBc (h9 69) (h9 70) := by rw [q20, q21]; exact xq1
      exact k h9 z10 g9 F11 (by omega) (show z10 = 0 ∨ z10 = 1 by omega) (by unfold sc_cmd sc_hd sc_num sc_mk; (try dsimp only); (repeat (first | rw [if_pos (by omega)] | rw [if_neg (by omega)])); (repeat ((first | unfold sc_num | unfold sc_mk); (try dsimp only); (repeat (first | rw [if_pos (by omega)] | rw [if_neg (by omega)])))); first | exact sc_Oe (by omega) (by omega) (by omega) (by omega) | ((repeat' split) <;> (first | exact sc_Oe (by omega) (by omega) (by omega) (by omega) | (exfalso; omega)))) nb19
    ·
      refine wi_aload_n (i := 1) (x := mm_XB + (18 : Int).toNat) (nx := 20) (r1 := 0) (r2 := 0) (r3 := 0) rfl rfl ?_
      refine wr_gx (k0 := mm_XB + (18 : Int).toNat) (v := vi 1) (nx := 23) (r1 := 1) (r2 := 0) (r3 := 1) rfl (by decide) (by decide) rfl ?_
      refine wi_if (cd := .ne) (nx := 26) (r1 := 35) (r2 := 0) (r3 := 0) rfl (by omega) (fun (q9 : 1 ≠ 0) => ?_) (fun (q9 : ¬ (1 ≠ 0)) => by exfalso; omega)
      refine wi_aload_n (i := 1) (x := mm_XB + (18 : Int).toNat) (nx := 36) (r1 := 0) (r2 := 0) (r3 := 0) rfl rfl ?_
      refine wr_gst (v := wv 20) (nx := 39) (r1 := 19) (r2 := 0) (r3 := 0) rfl rfl rfl ?_
      refine wr_acmp (cd := .ne) (x := 18) (y := 20) (nx := 42) (r1 := 59) (r2 := 0) (r3 := 0) rfl (by omega) (by omega) (fun _ => ?_) (fun q => absurd (by decide) q)
      refine wi_aload_n (i := 0) (x := 68) (nx := 60) (r1 := 0) (r2 := 0) (r3 := 0) rfl rfl ?_
      have b11 := gi_b (lo := 0) (hi := 40) g 68 9 rfl
      refine wr_gi0 (k0 := 68) (x := h 68 9) (nx := 63) (r1 := 8) (r2 := 9) (r3 := 0) rfl rfl (by decide) rfl ⟨rfl, rfl⟩ rfl rfl ?_
      refine wi_bipush (n := 40) (nx := 65) (r1 := 0) (r2 := 0) (r3 := 0) rfl (by decide) ?_
      refine wi_icmp (cd := .lt) (nx := 68) (r1 := 77) (r2 := 0) (r3 := 0) rfl (by omega) (by omega) (fun (q12 : (h 68 9) < 40) => ?_) (fun (q12 : ¬ ((h 68 9) < 40)) => ?_)
      ·
        refine wi_aload_n (i := 0) (x := 68) (nx := 78) (r1 := 0) (r2 := 0) (r3 := 0) rfl rfl ?_
        refine wi_dup (nx := 79) (r1 := 0) (r2 := 0) (r3 := 0) rfl rfl ?_
        refine wr_gi0 (k0 := 68) (x := h 68 9) (nx := 82) (r1 := 8) (r2 := 9) (r3 := 0) rfl rfl (by decide) rfl ⟨rfl, rfl⟩ rfl rfl ?_
        refine wi_iconst (n := 1) (nx := 83) (r1 := 0) (r2 := 0) (r3 := 0) rfl ?_
        refine wr_add (nx := 84) (r1 := 0) (r2 := 0) (r3 := 0) rfl (fun e13 (fe13 : e13 = (h 68 9) + 1) => ?_)
        refine wr_pf0 (k0 := 68) (x := e13) (bl := 0) (bh := 40) (nx := 87) (r1 := 8) (r2 := 9) (r3 := 0) rfl (by decide) rfl ⟨rfl, rfl⟩ rfl rfl g rfl (by omega) (fun h14 g14 w14 u14 => ?_)
        have F15 := F0.then rfl u14
        refine wi_aload_n (i := 1) (x := mm_XB + (18 : Int).toNat) (nx := 88) (r1 := 0) (r2 := 0) (r3 := 0) rfl rfl ?_
        refine wr_gx (k0 := mm_XB + (18 : Int).toNat) (v := vi 0) (nx := 91) (r1 := 3) (r2 := 0) (r3 := 1) rfl (by decide) (by decide) rfl ?_
        refine wi_if (cd := .le) (nx := 94) (r1 := 114) (r2 := 0) (r3 := 0) rfl (by omega) (fun (q16 : 0 ≤ 0) => ?_) (fun (q16 : ¬ (0 ≤ 0)) => by exfalso; omega)
        refine wi_aload_n (i := 0) (x := 68) (nx := 115) (r1 := 0) (r2 := 0) (r3 := 0) rfl rfl ?_
        refine wi_aload_n (i := 1) (x := mm_XB + (18 : Int).toNat) (nx := 116) (r1 := 0) (r2 := 0) (r3 := 0) rfl rfl ?_
        refine wi_aload_n (i := 0) (x := 68) (nx := 117) (r1 := 0) (r2 := 0) (r3 := 0) rfl rfl ?_
        refine wr_gr (k0 := 68) (x := 1) (nx := 120) (r1 := 8) (r2 := 0) (r3 := 0) rfl rfl (by decide) rfl ⟨rfl, rfl⟩ rfl ?_
        have b17 := gi_b (lo := -2147483648) (hi := 2147483647) g 1 7 rfl
        refine wr_gi0 (k0 := 1) (x := h 1 7) (nx := 123) (r1 := 1) (r2 := 7) (r3 := 0) rfl rfl (by decide) rfl ⟨rfl, rfl⟩ rfl (u14 1 7 rfl) ?_
        refine wr_V (k0 := 68) (rest := []) (as := [.ref 68, wv 18, vi (h 1 7)]) (nx := 126) (r1 := 184) (r2 := 2) (r3 := 8) rfl rfl rfl (of_decide_eq_true rfl) rfl rfl (by decide) rfl rfl (of_decide_eq_true rfl) (of_decide_eq_true rfl) ?_
        have q20 : h14 69 = h 69 := funext (fun i => (u14 69 i rfl))
        have q21 : h14 70 = h 70 := funext (fun i => (u14 70 i rfl))
        have nb19 : NBc (h14 69) (h14 70) := by rw [q20, q21]; exact xq1
        refine ct_184_68 hcr  g14 18 (h 1 7) (by omega) (by omega) (show (18 ≠ 16 ∧ 18 ≠ 17) ∨ (0 ≤ (h 1 7) ∧ (h 1 7) ≤ 99) by omega) nb19 (fun h18 g18 u18 y18_0 => ?_)
        have F22 := F15.then (by decide +kernel) u18
        refine wk_n ?_
        refine wi_aload_n (i := 1) (x := mm_XB + (18 : Int).toNat) (nx := 127) (r1 := 0) (r2 := 0) (r3 := 0) rfl rfl ?_
        refine wr_gst (v := wv 20) (nx := 130) (r1 := 19) (r2 := 0) (r3 := 0) rfl rfl rfl ?_
        refine wr_acmp (cd := .ne) (x := 18) (y := 20) (nx := 133) (r1 := 166) (r2 := 0) (r3 := 0) rfl (by omega) (by omega) (fun _ => ?_) (fun q => absurd (by decide) q)
        refine wi_aload_n (i := 0) (x := 68) (nx := 167) (r1 := 0) (r2 := 0) (r3 := 0) rfl rfl ?_
        refine wr_gr (k0 := 68) (x := 1) (nx := 170) (r1 := 8) (r2 := 0) (r3 := 0) rfl rfl (by decide) rfl ⟨rfl, rfl⟩ rfl ?_
        refine wr_V (k0 := 1) (rest := []) (as := [.ref 1]) (nx := 173) (r1 := 105) (r2 := 0) (r3 := 1) rfl rfl rfl (of_decide_eq_true rfl) rfl rfl (by decide) rfl rfl (of_decide_eq_true rfl) (of_decide_eq_true rfl) ?_
        have e25 : h18 1 4 = h 1 4 := ((u18 1 4 rfl).trans (u14 1 4 rfl))
        have tb27 := BufC.fr u14 rfl xq0
        have tb28 := BufC.fr u18 rfl tb27
        refine ct_105_1 hcr  g18   (show (h18 1 4) = (tk_nx tB tn tp) by omega) (show 0 ≤ (tk_nx tB tn tp) by omega) (show (tk_nx tB tn tp) ≤ tn by omega) tb28 (fun h24 z26 g24 u24 (fz26 : 0 ≤ z26 ∧ z26 ≤ 1) (p24_0 : (z26 = 1 ∧ tk_kd tB tn (tk_nx tB tn tp) = 3 ∧ (h24 1 4) = tk_nx tB tn (tk_nx tB tn tp) ∧ (h24 1 2) = (h18 1 2) ∧ (h24 1 3) = (h18 1 3)) ∨ (z26 = 0 ∧ tk_kd tB tn (tk_nx tB tn tp) ≠ 3 ∧ (h24 1 2) = 1 ∧ (h24 1 3) = tk_st tB tn (tk_nx tB tn tp))) => ?_)
        have F29 := F22.then (by decide +kernel) u24
        have e30 : h18 1 2 = h 1 2 := ((u18 1 2 rfl).trans (u14 1 2 rfl))
        have e31 : h18 1 3 = h 1 3 := ((u18 1 3 rfl).trans (u14 1 3 rfl))
        have b32 := gi_b (lo := 0) (hi := 800) g24 1 4 rfl
        have b33 := gi_b (lo := -2147483648) (hi := 2147483647) g24 1 2 rfl
        have b34 := gi_b (lo := -2147483648) (hi := 2147483647) g24 1 3 rfl
        have tN35 := @tk_nx_b tB tn (tk_nx tB tn tp) (by omega) (by omega)
        refine wk_i ?_
        refine wi_zreturn (nx := 174) (r1 := 0) (r2 := 0) (r3 := 0) rfl rfl (by omega) ?_
        have b36 := gi_b (lo := 0) (hi := 2) g 68 8 rfl
        have e37 : h24 68 8 = h 68 8 := ((u24 68 8 rfl).trans ((u18 68 8 rfl).trans (u14 68 8 rfl)))
        have e38 : h24 68 9 = e13 := ((u24 68 9 rfl).trans ((u18 68 9 rfl).trans w14))
        have q40 : h24 69 = h18 69 := funext (fun i => (u24 69 i (fo_no_ok (by decide) i)))
        have q41 : h24 70 = h18 70 := funext (fun i => (u24 70 i (fo_no_ok (by decide) i)))
        have nb39 : NBc (h24 69) (h24 70) := by rw [q40, q41]; exact y18_0
        exact k h24 z26 g24 F29 (by omega) (show z26 = 0 ∨ z26 = 1 by omega) (by rcases (show z26 = 0 ∨ z26 = 1 by omega) with zz | zz; (unfold sc_cmd sc_hd sc_num sc_mk; (try dsimp only); (repeat (first | rw [if_pos (by omega)] | rw [if_neg (by omega)])); (repeat ((first | unfold sc_num | unfold sc_mk); (try dsimp only); (repeat (first | rw [if_pos (by omega)] | rw [if_neg (by omega)])))); exact sc_Oe (by omega) (by omega) (by omega) (by omega)); (unfold sc_cmd sc_hd sc_num sc_mk; (try dsimp only); (repeat (first | rw [if_pos (by omega)] | rw [if_neg (by omega)])); (repeat ((first | unfold sc_num | unfold sc_mk); (try dsimp only); (repeat (first | rw [if_pos (by omega)] | rw [if_neg (by omega)])))); exact sc_Os (by omega) (by omega) (by omega) (by omega) (by omega) (by omega))) nb39
      ·
        refine wi_aload_n (i := 0) (x := 68) (nx := 69) (r1 := 0) (r2 := 0) (r3 := 0) rfl rfl ?_
        refine wr_gr (k0 := 68) (x := 1) (nx := 72) (r1 := 8) (r2 := 0) (r3 := 0) rfl rfl (by decide) rfl ⟨rfl, rfl⟩ rfl ?_
        refine wi_iconst (n := 5) (nx := 73) (r1 := 0) (r2 := 0) (r3 := 0) rfl ?_
        refine wr_V (k0 := 1) (rest := []) (as := [.ref 1, vi 5]) (nx := 76) (r1 := 101) (r2 := 1) (r3 := 1) rfl rfl rfl (of_decide_eq_true rfl) rfl rfl (by decide) rfl rfl (of_decide_eq_true rfl) (of_decide_eq_true rfl) ?_
        refine ct_101_1 hcr  g 5 (by omega)  (fun h13 z14 g13 u13 (fz14 : 0 ≤ z14 ∧ z14 ≤ 0) (p13_0 : z14 = 0) (p13_1 : (h13 1 2) = 5) (p13_2 : (h13 1 3) = (h 1 6)) => ?_)
        have F15 := F0.then (by decide +kernel) u13
        have b16 := gi_b (lo := -2147483648) (hi := 2147483647) g13 1 2 rfl
        have b17 := gi_b (lo := -2147483648) (hi := 2147483647) g13 1 3 rfl
        refine wk_i ?_
        refine wi_zreturn (nx := 77) (r1 := 0) (r2 := 0) (r3 := 0) rfl rfl (by omega) ?_
        have e18 : h13 1 4 = h 1 4 := (u13 1 4 rfl)
        have b19 := gi_b (lo := 0) (hi := 2) g 68 8 rfl
        have e20 : h13 68 8 = h 68 8 := (u13 68 8 rfl)
        have e21 : h13 68 9 = h 68 9 := (u13 68 9 rfl)
        have q23 : h13 69 = h 69 := funext (fun i => (u13 69 i (fo_no_ok (by decide) i)))
        have q24 : h13 70 = h 70 := funext (fun i => (u13 70 i (fo_no_ok (by decide) i)))
        have nb22 : NBc (h13 69) (h13 70) := by rw [q23, q24]; exact xq1
        exact k h13 z14 g13 F15 (by omega) (show z14 = 0 ∨ z14 = 1 by omega) (by unfold sc_cmd sc_hd sc_num sc_mk; (try dsimp only); (repeat (first | rw [if_pos (by omega)] | rw [if_neg (by omega)])); (repeat ((first | unfold sc_num | unfold sc_mk); (try dsimp only); (repeat (first | rw [if_pos (by omega)] | rw [if_neg (by omega)])))); first | exact sc_Oe (by omega) (by omega) (by omega) (by omega) | ((repeat' split) <;> (first | exact sc_Oe (by omega) (by omega) (by omega) (by omega) | (exfalso; omega)))) nb22
  ·
    refine wr_gi3 (k0 := 1) (x := 19) (nx := 7) (r1 := 1) (r2 := 9) (r3 := 0) rfl rfl (by decide) rfl ⟨rfl, rfl⟩ rfl q7 ?_
    refine wi_astore_n (i := 1) (x := mm_XB + (19 : Int).toNat) (lo2 := [(1, wv 19), (0, .ref 68)]) (nx := 8) (r1 := 0) (r2 := 0) (r3 := 0) rfl rfl ?_
    refine wi_aload_n (i := 0) (x := 68) (nx := 9) (r1 := 0) (r2 := 0) (r3 := 0) rfl rfl ?_
    refine wr_gr (k0 := 68) (x := 1) (nx := 12) (r1 := 8) (r2 := 0) (r3 := 0) rfl rfl (by decide) rfl ⟨rfl, rfl⟩ rfl ?_
    refine wr_gi0 (k0 := 1) (x := h 1 5) (nx := 15) (r1 := 1) (r2 := 5) (r3 := 0) rfl rfl (by decide) rfl ⟨rfl, rfl⟩ rfl rfl ?_
    refine wi_iconst (n := 1) (nx := 16) (r1 := 0) (r2 := 0) (r3 := 0) rfl ?_
    refine wi_icmp (cd := .ne) (nx := 19) (r1 := 26) (r2 := 0) (r3 := 0) rfl (by omega) (by omega) (fun (q8 : (h 1 5) ≠ 1) => ?_) (fun (q8 : ¬ ((h 1 5) ≠ 1)) => ?_)
    ·
      refine wi_aload_n (i := 0) (x := 68) (nx := 27) (r1 := 0) (r2 := 0) (r3 := 0) rfl rfl ?_
      refine wr_gr (k0 := 68) (x := 1) (nx := 30) (r1 := 8) (r2 := 0) (r3 := 0) rfl rfl (by decide) rfl ⟨rfl, rfl⟩ rfl ?_
      refine wi_iconst (n := 1) (nx := 31) (r1 := 0) (r2 := 0) (r3 := 0) rfl ?_
      refine wr_V (k0 := 1) (rest := []) (as := [.ref 1, vi 1]) (nx := 34) (r1 := 101) (r2 := 1) (r3 := 1) rfl rfl rfl (of_decide_eq_true rfl) rfl rfl (by decide) rfl rfl (of_decide_eq_true rfl) (of_decide_eq_true rfl) ?_
      refine ct_101_1 hcr  g 1 (by omega)  (fun h9 z10 g9 u9 (fz10 : 0 ≤ z10 ∧ z10 ≤ 0) (p9_0 : z10 = 0) (p9_1 : (h9 1 2) = 1) (p9_2 : (h9 1 3) = (h 1 6)) => ?_)
      have F11 := F0.then (by decide +kernel) u9
      have b12 := gi_b (lo := -2147483648) (hi := 2147483647) g9 1 2 rfl
      have b13 := gi_b (lo := -2147483648) (hi := 2147483647) g9 1 3 rfl
      refine wk_i ?_
      refine wi_zreturn (nx := 35) (r1 := 0) (r2 := 0) (r3 := 0) rfl rfl (by omega) ?_
      have e14 : h9 1 4 = h 1 4 := (u9 1 4 rfl)
      have b15 := gi_b (lo := 0) (hi := 2) g 68 8 rfl
      have e16 : h9 68 8 = h 68 8 := (u9 68 8 rfl)
      have b17 := gi_b (lo := 0) (hi := 40) g 68 9 rfl
      have e18 : h9 68 9 = h 68 9 := (u9 68 9 rfl)
      have q20 : h9 69 = h 69 := funext (fun i => (u9 69 i (fo_no_ok (by decide) i)))
      have q21 : h9 70 = h 70 := funext (fun i => (u9 70 i (fo_no_ok (by decide) i)))
      have nb19 : NBc (h9 69) (h9 70) := by rw [q20, q21]; exact xq1
      exact k h9 z10 g9 F11 (by omega) (show z10 = 0 ∨ z10 = 1 by omega) (by unfold sc_cmd sc_hd sc_num sc_mk; (try dsimp only); (repeat (first | rw [if_pos (by omega)] | rw [if_neg (by omega)])); (repeat ((first | unfold sc_num | unfold sc_mk); (try dsimp only); (repeat (first | rw [if_pos (by omega)] | rw [if_neg (by omega)])))); first | exact sc_Oe (by omega) (by omega) (by omega) (by omega) | ((repeat' split) <;> (first | exact sc_Oe (by omega) (by omega) (by omega) (by omega) | (exfalso; omega)))) nb19
    ·
      refine wi_aload_n (i := 1) (x := mm_XB + (19 : Int).toNat) (nx := 20) (r1 := 0) (r2 := 0) (r3 := 0) rfl rfl ?_
      refine wr_gx (k0 := mm_XB + (19 : Int).toNat) (v := vi 1) (nx := 23) (r1 := 1) (r2 := 0) (r3 := 1) rfl (by decide) (by decide) rfl ?_
      refine wi_if (cd := .ne) (nx := 26) (r1 := 35) (r2 := 0) (r3 := 0) rfl (by omega) (fun (q9 : 1 ≠ 0) => ?_) (fun (q9 : ¬ (1 ≠ 0)) => by exfalso; omega)
      refine wi_aload_n (i := 1) (x := mm_XB + (19 : Int).toNat) (nx := 36) (r1 := 0) (r2 := 0) (r3 := 0) rfl rfl ?_
      refine wr_gst (v := wv 20) (nx := 39) (r1 := 19) (r2 := 0) (r3 := 0) rfl rfl rfl ?_
      refine wr_acmp (cd := .ne) (x := 19) (y := 20) (nx := 42) (r1 := 59) (r2 := 0) (r3 := 0) rfl (by omega) (by omega) (fun _ => ?_) (fun q => absurd (by decide) q)
      refine wi_aload_n (i := 0) (x := 68) (nx := 60) (r1 := 0) (r2 := 0) (r3 := 0) rfl rfl ?_
      have b11 := gi_b (lo := 0) (hi := 40) g 68 9 rfl
      refine wr_gi0 (k0 := 68) (x := h 68 9) (nx := 63) (r1 := 8) (r2 := 9) (r3 := 0) rfl rfl (by decide) rfl ⟨rfl, rfl⟩ rfl rfl ?_
      refine wi_bipush (n := 40) (nx := 65) (r1 := 0) (r2 := 0) (r3 := 0) rfl (by decide) ?_
      refine wi_icmp (cd := .lt) (nx := 68) (r1 := 77) (r2 := 0) (r3 := 0) rfl (by omega) (by omega) (fun (q12 : (h 68 9) < 40) => ?_) (fun (q12 : ¬ ((h 68 9) < 40)) => ?_)
      ·
        refine wi_aload_n (i := 0) (x := 68) (nx := 78) (r1 := 0) (r2 := 0) (r3 := 0) rfl rfl ?_
        refine wi_dup (nx := 79) (r1 := 0) (r2 := 0) (r3 := 0) rfl rfl ?_
        refine wr_gi0 (k0 := 68) (x := h 68 9) (nx := 82) (r1 := 8) (r2 := 9) (r3 := 0) rfl rfl (by decide) rfl ⟨rfl, rfl⟩ rfl rfl ?_
        refine wi_iconst (n := 1) (nx := 83) (r1 := 0) (r2 := 0) (r3 := 0) rfl ?_
        refine wr_add (nx := 84) (r1 := 0) (r2 := 0) (r3 := 0) rfl (fun e13 (fe13 : e13 = (h 68 9) + 1) => ?_)
        refine wr_pf0 (k0 := 68) (x := e13) (bl := 0) (bh := 40) (nx := 87) (r1 := 8) (r2 := 9) (r3 := 0) rfl (by decide) rfl ⟨rfl, rfl⟩ rfl rfl g rfl (by omega) (fun h14 g14 w14 u14 => ?_)
        have F15 := F0.then rfl u14
        refine wi_aload_n (i := 1) (x := mm_XB + (19 : Int).toNat) (nx := 88) (r1 := 0) (r2 := 0) (r3 := 0) rfl rfl ?_
        refine wr_gx (k0 := mm_XB + (19 : Int).toNat) (v := vi 0) (nx := 91) (r1 := 3) (r2 := 0) (r3 := 1) rfl (by decide) (by decide) rfl ?_
        refine wi_if (cd := .le) (nx := 94) (r1 := 114) (r2 := 0) (r3 := 0) rfl (by omega) (fun (q16 : 0 ≤ 0) => ?_) (fun (q16 : ¬ (0 ≤ 0)) => by exfalso; omega)
        refine wi_aload_n (i := 0) (x := 68) (nx := 115) (r1 := 0) (r2 := 0) (r3 := 0) rfl rfl ?_
        refine wi_aload_n (i := 1) (x := mm_XB + (19 : Int).toNat) (nx := 116) (r1 := 0) (r2 := 0) (r3 := 0) rfl rfl ?_
        refine wi_aload_n (i := 0) (x := 68) (nx := 117) (r1 := 0) (r2 := 0) (r3 := 0) rfl rfl ?_
        refine wr_gr (k0 := 68) (x := 1) (nx := 120) (r1 := 8) (r2 := 0) (r3 := 0) rfl rfl (by decide) rfl ⟨rfl, rfl⟩ rfl ?_
        have b17 := gi_b (lo := -2147483648) (hi := 2147483647) g 1 7 rfl
        refine wr_gi0 (k0 := 1) (x := h 1 7) (nx := 123) (r1 := 1) (r2 := 7) (r3 := 0) rfl rfl (by decide) rfl ⟨rfl, rfl⟩ rfl (u14 1 7 rfl) ?_
        refine wr_V (k0 := 68) (rest := []) (as := [.ref 68, wv 19, vi (h 1 7)]) (nx := 126) (r1 := 184) (r2 := 2) (r3 := 8) rfl rfl rfl (of_decide_eq_true rfl) rfl rfl (by decide) rfl rfl (of_decide_eq_true rfl) (of_decide_eq_true rfl) ?_
        have q20 : h14 69 = h 69 := funext (fun i => (u14 69 i rfl))
        have q21 : h14 70 = h 70 := funext (fun i => (u14 70 i rfl))
        have nb19 : NBc (h14 69) (h14 70) := by rw [q20, q21]; exact xq1
        refine ct_184_68 hcr  g14 19 (h 1 7) (by omega) (by omega) (show (19 ≠ 16 ∧ 19 ≠ 17) ∨ (0 ≤ (h 1 7) ∧ (h 1 7) ≤ 99) by omega) nb19 (fun h18 g18 u18 y18_0 => ?_)
        have F22 := F15.then (by decide +kernel) u18
        refine wk_n ?_
        refine wi_aload_n (i := 1) (x := mm_XB + (19 : Int).toNat) (nx := 127) (r1 := 0) (r2 := 0) (r3 := 0) rfl rfl ?_
        refine wr_gst (v := wv 20) (nx := 130) (r1 := 19) (r2 := 0) (r3 := 0) rfl rfl rfl ?_
        refine wr_acmp (cd := .ne) (x := 19) (y := 20) (nx := 133) (r1 := 166) (r2 := 0) (r3 := 0) rfl (by omega) (by omega) (fun _ => ?_) (fun q => absurd (by decide) q)
        refine wi_aload_n (i := 0) (x := 68) (nx := 167) (r1 := 0) (r2 := 0) (r3 := 0) rfl rfl ?_
        refine wr_gr (k0 := 68) (x := 1) (nx := 170) (r1 := 8) (r2 := 0) (r3 := 0) rfl rfl (by decide) rfl ⟨rfl, rfl⟩ rfl ?_
        refine wr_V (k0 := 1) (rest := []) (as := [.ref 1]) (nx := 173) (r1 := 105) (r2 := 0) (r3 := 1) rfl rfl rfl (of_decide_eq_true rfl) rfl rfl (by decide) rfl rfl (of_decide_eq_true rfl) (of_decide_eq_true rfl) ?_
        have e25 : h18 1 4 = h 1 4 := ((u18 1 4 rfl).trans (u14 1 4 rfl))
        have tb27 := BufC.fr u14 rfl xq0
        have tb28 := BufC.fr u18 rfl tb27
        refine ct_105_1 hcr  g18   (show (h18 1 4) = (tk_nx tB tn tp) by omega) (show 0 ≤ (tk_nx tB tn tp) by omega) (show (tk_nx tB tn tp) ≤ tn by omega) tb28 (fun h24 z26 g24 u24 (fz26 : 0 ≤ z26 ∧ z26 ≤ 1) (p24_0 : (z26 = 1 ∧ tk_kd tB tn (tk_nx tB tn tp) = 3 ∧ (h24 1 4) = tk_nx tB tn (tk_nx tB tn tp) ∧ (h24 1 2) = (h18 1 2) ∧ (h24 1 3) = (h18 1 3)) ∨ (z26 = 0 ∧ tk_kd tB tn (tk_nx tB tn tp) ≠ 3 ∧ (h24 1 2) = 1 ∧ (h24 1 3) = tk_st tB tn (tk_nx tB tn tp))) => ?_)
        have F29 := F22.then (by decide +kernel) u24
        have e30 : h18 1 2 = h 1 2 := ((u18 1 2 rfl).trans (u14 1 2 rfl))
        have e31 : h18 1 3 = h 1 3 := ((u18 1 3 rfl).trans (u14 1 3 rfl))
        have b32 := gi_b (lo := 0) (hi := 800) g24 1 4 rfl
        have b33 := gi_b (lo := -2147483648) (hi := 2147483647) g24 1 2 rfl
        have b34 := gi_b (lo := -2147483648) (hi := 2147483647) g24 1 3 rfl
        have tN35 := @tk_nx_b tB tn (tk_nx tB tn tp) (by omega) (by omega)
        refine wk_i ?_
        refine wi_zreturn (nx := 174) (r1 := 0) (r2 := 0) (r3 := 0) rfl rfl (by omega) ?_
        have b36 := gi_b (lo := 0) (hi := 2) g 68 8 rfl
        have e37 : h24 68 8 = h 68 8 := ((u24 68 8 rfl).trans ((u18 68 8 rfl).trans (u14 68 8 rfl)))
        have e38 : h24 68 9 = e13 := ((u24 68 9 rfl).trans ((u18 68 9 rfl).trans w14))
        have q40 : h24 69 = h18 69 := funext (fun i => (u24 69 i (fo_no_ok (by decide) i)))
        have q41 : h24 70 = h18 70 := funext (fun i => (u24 70 i (fo_no_ok (by decide) i)))
        have nb39 : NBc (h24 69) (h24 70) := by rw [q40, q41]; exact y18_0
        exact k h24 z26 g24 F29 (by omega) (show z26 = 0 ∨ z26 = 1 by omega) (by rcases (show z26 = 0 ∨ z26 = 1 by omega) with zz | zz; (unfold sc_cmd sc_hd sc_num sc_mk; (try dsimp only); (repeat (first | rw [if_pos (by omega)] | rw [if_neg (by omega)])); (repeat ((first | unfold sc_num | unfold sc_mk); (try dsimp only); (repeat (first | rw [if_pos (by omega)] | rw [if_neg (by omega)])))); exact sc_Oe (by omega) (by omega) (by omega) (by omega)); (unfold sc_cmd sc_hd sc_num sc_mk; (try dsimp only); (repeat (first | rw [if_pos (by omega)] | rw [if_neg (by omega)])); (repeat ((first | unfold sc_num | unfold sc_mk); (try dsimp only); (repeat (first | rw [if_pos (by omega)] | rw [if_neg (by omega)])))); exact sc_Os (by omega) (by omega) (by omega) (by omega) (by omega) (by omega))) nb39
      ·
        refine wi_aload_n (i := 0) (x := 68) (nx := 69) (r1 := 0) (r2 := 0) (r3 := 0) rfl rfl ?_
        refine wr_gr (k0 := 68) (x := 1) (nx := 72) (r1 := 8) (r2 := 0) (r3 := 0) rfl rfl (by decide) rfl ⟨rfl, rfl⟩ rfl ?_
        refine wi_iconst (n := 5) (nx := 73) (r1 := 0) (r2 := 0) (r3 := 0) rfl ?_
        refine wr_V (k0 := 1) (rest := []) (as := [.ref 1, vi 5]) (nx := 76) (r1 := 101) (r2 := 1) (r3 := 1) rfl rfl rfl (of_decide_eq_true rfl) rfl rfl (by decide) rfl rfl (of_decide_eq_true rfl) (of_decide_eq_true rfl) ?_
        refine ct_101_1 hcr  g 5 (by omega)  (fun h13 z14 g13 u13 (fz14 : 0 ≤ z14 ∧ z14 ≤ 0) (p13_0 : z14 = 0) (p13_1 : (h13 1 2) = 5) (p13_2 : (h13 1 3) = (h 1 6)) => ?_)
        have F15 := F0.then (by decide +kernel) u13
        have b16 := gi_b (lo := -2147483648) (hi := 2147483647) g13 1 2 rfl
        have b17 := gi_b (lo := -2147483648) (hi := 2147483647) g13 1 3 rfl
        refine wk_i ?_
        refine wi_zreturn (nx := 77) (r1 := 0) (r2 := 0) (r3 := 0) rfl rfl (by omega) ?_
        have e18 : h13 1 4 = h 1 4 := (u13 1 4 rfl)
        have b19 := gi_b (lo := 0) (hi := 2) g 68 8 rfl
        have e20 : h13 68 8 = h 68 8 := (u13 68 8 rfl)
        have e21 : h13 68 9 = h 68 9 := (u13 68 9 rfl)
        have q23 : h13 69 = h 69 := funext (fun i => (u13 69 i (fo_no_ok (by decide) i)))
        have q24 : h13 70 = h 70 := funext (fun i => (u13 70 i (fo_no_ok (by decide) i)))
        have nb22 : NBc (h13 69) (h13 70) := by rw [q23, q24]; exact xq1
        exact k h13 z14 g13 F15 (by omega) (show z14 = 0 ∨ z14 = 1 by omega) (by unfold sc_cmd sc_hd sc_num sc_mk; (try dsimp only); (repeat (first | rw [if_pos (by omega)] | rw [if_neg (by omega)])); (repeat ((first | unfold sc_num | unfold sc_mk); (try dsimp only); (repeat (first | rw [if_pos (by omega)] | rw [if_neg (by omega)])))); first | exact sc_Oe (by omega) (by omega) (by omega) (by omega) | ((repeat' split) <;> (first | exact sc_Oe (by omega) (by omega) (by omega) (by omega) | (exfalso; omega)))) nb22
  ·
    refine wr_gi3 (k0 := 1) (x := 20) (nx := 7) (r1 := 1) (r2 := 9) (r3 := 0) rfl rfl (by decide) rfl ⟨rfl, rfl⟩ rfl q7 ?_
    refine wi_astore_n (i := 1) (x := mm_XB + (20 : Int).toNat) (lo2 := [(1, wv 20), (0, .ref 68)]) (nx := 8) (r1 := 0) (r2 := 0) (r3 := 0) rfl rfl ?_
    refine wi_aload_n (i := 0) (x := 68) (nx := 9) (r1 := 0) (r2 := 0) (r3 := 0) rfl rfl ?_
    refine wr_gr (k0 := 68) (x := 1) (nx := 12) (r1 := 8) (r2 := 0) (r3 := 0) rfl rfl (by decide) rfl ⟨rfl, rfl⟩ rfl ?_
    refine wr_gi0 (k0 := 1) (x := h 1 5) (nx := 15) (r1 := 1) (r2 := 5) (r3 := 0) rfl rfl (by decide) rfl ⟨rfl, rfl⟩ rfl rfl ?_
    refine wi_iconst (n := 1) (nx := 16) (r1 := 0) (r2 := 0) (r3 := 0) rfl ?_
    refine wi_icmp (cd := .ne) (nx := 19) (r1 := 26) (r2 := 0) (r3 := 0) rfl (by omega) (by omega) (fun (q8 : (h 1 5) ≠ 1) => ?_) (fun (q8 : ¬ ((h 1 5) ≠ 1)) => ?_)
    ·
      refine wi_aload_n (i := 0) (x := 68) (nx := 27) (r1 := 0) (r2 := 0) (r3 := 0) rfl rfl ?_
      refine wr_gr (k0 := 68) (x := 1) (nx := 30) (r1 := 8) (r2 := 0) (r3 := 0) rfl rfl (by decide) rfl ⟨rfl, rfl⟩ rfl ?_
      refine wi_iconst (n := 1) (nx := 31) (r1 := 0) (r2 := 0) (r3 := 0) rfl ?_
      refine wr_V (k0 := 1) (rest := []) (as := [.ref 1, vi 1]) (nx := 34) (r1 := 101) (r2 := 1) (r3 := 1) rfl rfl rfl (of_decide_eq_true rfl) rfl rfl (by decide) rfl rfl (of_decide_eq_true rfl) (of_decide_eq_true rfl) ?_
      refine ct_101_1 hcr  g 1 (by omega)  (fun h9 z10 g9 u9 (fz10 : 0 ≤ z10 ∧ z10 ≤ 0) (p9_0 : z10 = 0) (p9_1 : (h9 1 2) = 1) (p9_2 : (h9 1 3) = (h 1 6)) => ?_)
      have F11 := F0.then (by decide +kernel) u9
      have b12 := gi_b (lo := -2147483648) (hi := 2147483647) g9 1 2 rfl
      have b13 := gi_b (lo := -2147483648) (hi := 2147483647) g9 1 3 rfl
      refine wk_i ?_
      refine wi_zreturn (nx := 35) (r1 := 0) (r2 := 0) (r3 := 0) rfl rfl (by omega) ?_
      have e14 : h9 1 4 = h 1 4 := (u9 1 4 rfl)
      have b15 := gi_b (lo := 0) (hi := 2) g 68 8 rfl
      have e16 : h9 68 8 = h 68 8 := (u9 68 8 rfl)
      have b17 := gi_b (lo := 0) (hi := 40) g 68 9 rfl
      have e18 : h9 68 9 = h 68 9 := (u9 68 9 rfl)
      have q20 : h9 69 = h 69 := funext (fun i => (u9 69 i (fo_no_ok (by decide) i)))
      have q21 : h9 70 = h 70 := funext (fun i => (u9 70 i (fo_no_ok (by decide) i)))
      have nb19 : NBc (h9 69) (h9 70) := by rw [q20, q21]; exact xq1
      exact k h9 z10 g9 F11 (by omega) (show z10 = 0 ∨ z10 = 1 by omega) (by unfold sc_cmd sc_hd sc_num sc_mk; (try dsimp only); (repeat (first | rw [if_pos (by omega)] | rw [if_neg (by omega)])); (repeat ((first | unfold sc_num | unfold sc_mk); (try dsimp only); (repeat (first | rw [if_pos (by omega)] | rw [if_neg (by omega)])))); first | exact sc_Oe (by omega) (by omega) (by omega) (by omega) | ((repeat' split) <;> (first | exact sc_Oe (by omega) (by omega) (by omega) (by omega) | (exfalso; omega)))) nb19
    ·
      refine wi_aload_n (i := 1) (x := mm_XB + (20 : Int).toNat) (nx := 20) (r1 := 0) (r2 := 0) (r3 := 0) rfl rfl ?_
      refine wr_gx (k0 := mm_XB + (20 : Int).toNat) (v := vi 1) (nx := 23) (r1 := 1) (r2 := 0) (r3 := 1) rfl (by decide) (by decide) rfl ?_
      refine wi_if (cd := .ne) (nx := 26) (r1 := 35) (r2 := 0) (r3 := 0) rfl (by omega) (fun (q9 : 1 ≠ 0) => ?_) (fun (q9 : ¬ (1 ≠ 0)) => by exfalso; omega)
      refine wi_aload_n (i := 1) (x := mm_XB + (20 : Int).toNat) (nx := 36) (r1 := 0) (r2 := 0) (r3 := 0) rfl rfl ?_
      refine wr_gst (v := wv 20) (nx := 39) (r1 := 19) (r2 := 0) (r3 := 0) rfl rfl rfl ?_
      refine wr_acmp (cd := .ne) (x := 20) (y := 20) (nx := 42) (r1 := 59) (r2 := 0) (r3 := 0) rfl (by omega) (by omega) (fun q => absurd q (by decide)) (fun _ => ?_)
      refine wi_aload_n (i := 0) (x := 68) (nx := 43) (r1 := 0) (r2 := 0) (r3 := 0) rfl rfl ?_
      have b11 := gi_b (lo := 0) (hi := 2) g 68 8 rfl
      refine wr_gi0 (k0 := 68) (x := h 68 8) (nx := 46) (r1 := 8) (r2 := 8) (r3 := 0) rfl rfl (by decide) rfl ⟨rfl, rfl⟩ rfl rfl ?_
      refine wi_iconst (n := 2) (nx := 47) (r1 := 0) (r2 := 0) (r3 := 0) rfl ?_
      refine wi_icmp (cd := .lt) (nx := 50) (r1 := 59) (r2 := 0) (r3 := 0) rfl (by omega) (by omega) (fun (q12 : (h 68 8) < 2) => ?_) (fun (q12 : ¬ ((h 68 8) < 2)) => ?_)
      ·
        refine wi_aload_n (i := 0) (x := 68) (nx := 60) (r1 := 0) (r2 := 0) (r3 := 0) rfl rfl ?_
        have b13 := gi_b (lo := 0) (hi := 40) g 68 9 rfl
        refine wr_gi0 (k0 := 68) (x := h 68 9) (nx := 63) (r1 := 8) (r2 := 9) (r3 := 0) rfl rfl (by decide) rfl ⟨rfl, rfl⟩ rfl rfl ?_
        refine wi_bipush (n := 40) (nx := 65) (r1 := 0) (r2 := 0) (r3 := 0) rfl (by decide) ?_
        refine wi_icmp (cd := .lt) (nx := 68) (r1 := 77) (r2 := 0) (r3 := 0) rfl (by omega) (by omega) (fun (q14 : (h 68 9) < 40) => ?_) (fun (q14 : ¬ ((h 68 9) < 40)) => ?_)
        ·
          refine wi_aload_n (i := 0) (x := 68) (nx := 78) (r1 := 0) (r2 := 0) (r3 := 0) rfl rfl ?_
          refine wi_dup (nx := 79) (r1 := 0) (r2 := 0) (r3 := 0) rfl rfl ?_
          refine wr_gi0 (k0 := 68) (x := h 68 9) (nx := 82) (r1 := 8) (r2 := 9) (r3 := 0) rfl rfl (by decide) rfl ⟨rfl, rfl⟩ rfl rfl ?_
          refine wi_iconst (n := 1) (nx := 83) (r1 := 0) (r2 := 0) (r3 := 0) rfl ?_
          refine wr_add (nx := 84) (r1 := 0) (r2 := 0) (r3 := 0) rfl (fun e15 (fe15 : e15 = (h 68 9) + 1) => ?_)
          refine wr_pf0 (k0 := 68) (x := e15) (bl := 0) (bh := 40) (nx := 87) (r1 := 8) (r2 := 9) (r3 := 0) rfl (by decide) rfl ⟨rfl, rfl⟩ rfl rfl g rfl (by omega) (fun h16 g16 w16 u16 => ?_)
          have F17 := F0.then rfl u16
          refine wi_aload_n (i := 1) (x := mm_XB + (20 : Int).toNat) (nx := 88) (r1 := 0) (r2 := 0) (r3 := 0) rfl rfl ?_
          refine wr_gx (k0 := mm_XB + (20 : Int).toNat) (v := vi 20) (nx := 91) (r1 := 3) (r2 := 0) (r3 := 1) rfl (by decide) (by decide) rfl ?_
          refine wi_if (cd := .le) (nx := 94) (r1 := 114) (r2 := 0) (r3 := 0) rfl (by omega) (fun (q18 : 20 ≤ 0) => by exfalso; omega) (fun (q18 : ¬ (20 ≤ 0)) => ?_)
          refine wi_aload_n (i := 0) (x := 68) (nx := 95) (r1 := 0) (r2 := 0) (r3 := 0) rfl rfl ?_
          refine wr_gr (k0 := 68) (x := 1) (nx := 98) (r1 := 8) (r2 := 0) (r3 := 0) rfl rfl (by decide) rfl ⟨rfl, rfl⟩ rfl ?_
          refine wi_aload_n (i := 1) (x := mm_XB + (20 : Int).toNat) (nx := 99) (r1 := 0) (r2 := 0) (r3 := 0) rfl rfl ?_
          refine wr_gx (k0 := mm_XB + (20 : Int).toNat) (v := vi 1) (nx := 102) (r1 := 2) (r2 := 0) (r3 := 1) rfl (by decide) (by decide) rfl ?_
          refine wi_aload_n (i := 1) (x := mm_XB + (20 : Int).toNat) (nx := 103) (r1 := 0) (r2 := 0) (r3 := 0) rfl rfl ?_
          refine wr_gx (k0 := mm_XB + (20 : Int).toNat) (v := vi 20) (nx := 106) (r1 := 3) (r2 := 0) (r3 := 1) rfl (by decide) (by decide) rfl ?_
          refine wr_V (k0 := 1) (rest := []) (as := [.ref 1, vi 1, vi 20]) (nx := 109) (r1 := 103) (r2 := 2) (r3 := 1) rfl rfl rfl (of_decide_eq_true rfl) rfl rfl (by decide) rfl rfl (of_decide_eq_true rfl) (of_decide_eq_true rfl) ?_
          have e20 : h16 1 4 = h 1 4 := (u16 1 4 rfl)
          have tb22 := BufC.fr u16 rfl xq0
          refine ct_103_1 hcr  g16 1 20 (by omega) (by omega) (show (h16 1 4) = (tk_nx tB tn tp) by omega) (show 0 ≤ (tk_nx tB tn tp) by omega) (show (tk_nx tB tn tp) ≤ tn by omega) tb22 (fun h19 z21 g19 u19 (fz21 : 0 ≤ z21 ∧ z21 ≤ 1) (p19_0 : (z21 = 1 ∧ tk_kd tB tn (tk_nx tB tn tp) = 2 ∧ 1 ≤ tk_nb tB tn (tk_nx tB tn tp) ∧ tk_nb tB tn (tk_nx tB tn tp) ≤ 20 ∧ (h19 1 4) = tk_nx tB tn (tk_nx tB tn tp) ∧ (h19 1 7) = tk_nb tB tn (tk_nx tB tn tp) ∧ (h19 1 2) = (h16 1 2) ∧ (h19 1 3) = (h16 1 3)) ∨ (z21 = 0 ∧ (h19 1 3) = tk_st tB tn (tk_nx tB tn tp) ∧ ((tk_kd tB tn (tk_nx tB tn tp) ≠ 2 ∧ (h19 1 2) = 1) ∨ (tk_kd tB tn (tk_nx tB tn tp) = 2 ∧ (tk_nb tB tn (tk_nx tB tn tp) < 1 ∨ 20 < tk_nb tB tn (tk_nx tB tn tp)) ∧ (h19 1 2) = 2)))) => ?_)
          have F23 := F17.then (by decide +kernel) u19
          have e24 : h16 1 2 = h 1 2 := (u16 1 2 rfl)
          have e25 : h16 1 3 = h 1 3 := (u16 1 3 rfl)
          have b26 := gi_b (lo := 0) (hi := 800) g19 1 4 rfl
          have b27 := gi_b (lo := -2147483648) (hi := 2147483647) g19 1 7 rfl
          have b28 := gi_b (lo := -2147483648) (hi := 2147483647) g19 1 2 rfl
          have b29 := gi_b (lo := -2147483648) (hi := 2147483647) g19 1 3 rfl
          have tN30 := @tk_nx_b tB tn (tk_nx tB tn tp) (by omega) (by omega)
          refine wk_i ?_
          refine wi_if (cd := .ne) (nx := 112) (r1 := 114) (r2 := 0) (r3 := 0) rfl (by omega) (fun (q31 : z21 ≠ 0) => ?_) (fun (q31 : ¬ (z21 ≠ 0)) => ?_)
          ·
            refine wi_aload_n (i := 0) (x := 68) (nx := 115) (r1 := 0) (r2 := 0) (r3 := 0) rfl rfl ?_
            refine wi_aload_n (i := 1) (x := mm_XB + (20 : Int).toNat) (nx := 116) (r1 := 0) (r2 := 0) (r3 := 0) rfl rfl ?_
            refine wi_aload_n (i := 0) (x := 68) (nx := 117) (r1 := 0) (r2 := 0) (r3 := 0) rfl rfl ?_
            refine wr_gr (k0 := 68) (x := 1) (nx := 120) (r1 := 8) (r2 := 0) (r3 := 0) rfl rfl (by decide) rfl ⟨rfl, rfl⟩ rfl ?_
            refine wr_gi0 (k0 := 1) (x := h19 1 7) (nx := 123) (r1 := 1) (r2 := 7) (r3 := 0) rfl rfl (by decide) rfl ⟨rfl, rfl⟩ rfl rfl ?_
            refine wr_V (k0 := 68) (rest := []) (as := [.ref 68, wv 20, vi (h19 1 7)]) (nx := 126) (r1 := 184) (r2 := 2) (r3 := 8) rfl rfl rfl (of_decide_eq_true rfl) rfl rfl (by decide) rfl rfl (of_decide_eq_true rfl) (of_decide_eq_true rfl) ?_
            have q34 : h19 69 = h 69 := funext (fun i => ((u19 69 i (fo_no_ok (by decide) i)).trans (u16 69 i rfl)))
            have q35 : h19 70 = h 70 := funext (fun i => ((u19 70 i (fo_no_ok (by decide) i)).trans (u16 70 i rfl)))
            have nb33 : NBc (h19 69) (h19 70) := by rw [q34, q35]; exact xq1
            refine ct_184_68 hcr  g19 20 (h19 1 7) (by omega) (by omega) (show (20 ≠ 16 ∧ 20 ≠ 17) ∨ (0 ≤ (h19 1 7) ∧ (h19 1 7) ≤ 99) by omega) nb33 (fun h32 g32 u32 y32_0 => ?_)
            have F36 := F23.then (by decide +kernel) u32
            refine wk_n ?_
            refine wi_aload_n (i := 1) (x := mm_XB + (20 : Int).toNat) (nx := 127) (r1 := 0) (r2 := 0) (r3 := 0) rfl rfl ?_
            refine wr_gst (v := wv 20) (nx := 130) (r1 := 19) (r2 := 0) (r3 := 0) rfl rfl rfl ?_
            refine wr_acmp (cd := .ne) (x := 20) (y := 20) (nx := 133) (r1 := 166) (r2 := 0) (r3 := 0) rfl (by omega) (by omega) (fun q => absurd q (by decide)) (fun _ => ?_)
            refine wi_aload_n (i := 0) (x := 68) (nx := 134) (r1 := 0) (r2 := 0) (r3 := 0) rfl rfl ?_
            refine wr_gr (k0 := 68) (x := 72) (nx := 137) (r1 := 8) (r2 := 7) (r3 := 0) rfl rfl (by decide) rfl ⟨rfl, rfl⟩ rfl ?_
            refine wi_aload_n (i := 0) (x := 68) (nx := 138) (r1 := 0) (r2 := 0) (r3 := 0) rfl rfl ?_
            refine wr_gi0 (k0 := 68) (x := h 68 8) (nx := 141) (r1 := 8) (r2 := 8) (r3 := 0) rfl rfl (by decide) rfl ⟨rfl, rfl⟩ rfl ((u32 68 8 rfl).trans ((u19 68 8 rfl).trans (u16 68 8 rfl))) ?_
            refine wi_aload_n (i := 0) (x := 68) (nx := 142) (r1 := 0) (r2 := 0) (r3 := 0) rfl rfl ?_
            have b38 := gi_b (lo := 0) (hi := 80) g32 68 10 rfl
            refine wr_gi0 (k0 := 68) (x := h32 68 10) (nx := 145) (r1 := 8) (r2 := 10) (r3 := 0) rfl rfl (by decide) rfl ⟨rfl, rfl⟩ rfl rfl ?_
            refine wi_iconst (n := 1) (nx := 146) (r1 := 0) (r2 := 0) (r3 := 0) rfl ?_
            refine wr_sub (nx := 147) (r1 := 0) (r2 := 0) (r3 := 0) rfl (fun e39 (fe39 : e39 = (h32 68 10) - 1) => ?_)
            obtain ⟨i40, ei40⟩ : ∃ q : Nat, (h 68 8) = (q : Int) := ⟨(h 68 8).toNat, by omega⟩
            refine wr_is (k0 := 72) (a := h 68 8) (f := i40) (x := e39) (bl := -2147483648) (bh := 2147483647) (nx := 148) (r1 := 0) (r2 := 0) (r3 := 0) rfl (by decide) rfl (by omega) (by omega) (by decide) g32 rfl (by omega) (fun h41 g41 w41 u41 => ?_)
            have F42 := F36.then rfl (FR.rngp (lo := 72) (hi := 72) u41 (by decide))
            refine wi_aload_n (i := 0) (x := 68) (nx := 149) (r1 := 0) (r2 := 0) (r3 := 0) rfl rfl ?_
            refine wi_dup (nx := 150) (r1 := 0) (r2 := 0) (r3 := 0) rfl rfl ?_
            refine wr_gi0 (k0 := 68) (x := h 68 8) (nx := 153) (r1 := 8) (r2 := 8) (r3 := 0) rfl rfl (by decide) rfl ⟨rfl, rfl⟩ rfl ((u41 68 8 (fn_a (by omega) fn_0)).trans ((u32 68 8 rfl).trans ((u19 68 8 rfl).trans (u16 68 8 rfl)))) ?_
            refine wi_iconst (n := 1) (nx := 154) (r1 := 0) (r2 := 0) (r3 := 0) rfl ?_
            refine wr_add (nx := 155) (r1 := 0) (r2 := 0) (r3 := 0) rfl (fun e43 (fe43 : e43 = (h 68 8) + 1) => ?_)
            refine wr_pf0 (k0 := 68) (x := e43) (bl := 0) (bh := 2) (nx := 158) (r1 := 8) (r2 := 8) (r3 := 0) rfl (by decide) rfl ⟨rfl, rfl⟩ rfl rfl g41 rfl (by omega) (fun h44 g44 w44 u44 => ?_)
            have F45 := F42.then rfl u44
            refine wi_aload_n (i := 0) (x := 68) (nx := 159) (r1 := 0) (r2 := 0) (r3 := 0) rfl rfl ?_
            refine wr_gr (k0 := 68) (x := 1) (nx := 162) (r1 := 8) (r2 := 0) (r3 := 0) rfl rfl (by decide) rfl ⟨rfl, rfl⟩ rfl ?_
            refine wr_V (k0 := 1) (rest := []) (as := [.ref 1]) (nx := 165) (r1 := 106) (r2 := 0) (r3 := 1) rfl rfl rfl (of_decide_eq_true rfl) rfl rfl (by decide) rfl rfl (of_decide_eq_true rfl) (of_decide_eq_true rfl) ?_
            have e47 : h44 1 4 = h19 1 4 := ((u44 1 4 rfl).trans ((u41 1 4 (fn_a (by omega) fn_0)).trans (u32 1 4 rfl)))
            have tb49 := BufC.fr u19 rfl tb22
            have tb50 := BufC.fr u32 rfl tb49
            have tb51 := BufC.fr u41 rfl tb50
            have tb52 := BufC.fr u44 rfl tb51
            refine ct_106_1 hcr  g44   (show (h44 1 4) = (tk_nx tB tn (tk_nx tB tn tp)) by omega) (show 0 ≤ (tk_nx tB tn (tk_nx tB tn tp)) by omega) (show (tk_nx tB tn (tk_nx tB tn tp)) ≤ tn by omega) tb52 (fun h46 z48 g46 u46 (fz48 : 0 ≤ z48 ∧ z48 ≤ 1) (p46_0 : (z48 = 1 ∧ tk_kd tB tn (tk_nx tB tn (tk_nx tB tn tp)) = 4 ∧ (h46 1 4) = tk_nx tB tn (tk_nx tB tn (tk_nx tB tn tp)) ∧ (h46 1 2) = (h44 1 2) ∧ (h46 1 3) = (h44 1 3)) ∨ (z48 = 0 ∧ tk_kd tB tn (tk_nx tB tn (tk_nx tB tn tp)) ≠ 4 ∧ (h46 1 2) = 1 ∧ (h46 1 3) = tk_st tB tn (tk_nx tB tn (tk_nx tB tn tp)))) => ?_)
            have F53 := F45.then (by decide +kernel) u46
            have e54 : h44 1 2 = h19 1 2 := ((u44 1 2 rfl).trans ((u41 1 2 (fn_a (by omega) fn_0)).trans (u32 1 2 rfl)))
            have e55 : h44 1 3 = h19 1 3 := ((u44 1 3 rfl).trans ((u41 1 3 (fn_a (by omega) fn_0)).trans (u32 1 3 rfl)))
            have b56 := gi_b (lo := 0) (hi := 800) g46 1 4 rfl
            have b57 := gi_b (lo := -2147483648) (hi := 2147483647) g46 1 2 rfl
            have b58 := gi_b (lo := -2147483648) (hi := 2147483647) g46 1 3 rfl
            have tN59 := @tk_nx_b tB tn (tk_nx tB tn (tk_nx tB tn tp)) (by omega) (by omega)
            refine wk_i ?_
            refine wi_zreturn (nx := 166) (r1 := 0) (r2 := 0) (r3 := 0) rfl rfl (by omega) ?_
            have e60 : h46 68 8 = e43 := ((u46 68 8 rfl).trans w44)
            have e61 : h46 68 9 = e15 := ((u46 68 9 rfl).trans ((u44 68 9 rfl).trans ((u41 68 9 (fn_a (by omega) fn_0)).trans ((u32 68 9 rfl).trans ((u19 68 9 rfl).trans w16)))))
            have q63 : h46 69 = h32 69 := funext (fun i => ((u46 69 i (fo_no_ok (by decide) i)).trans ((u44 69 i rfl).trans (u41 69 i (fn_a (by omega) fn_0)))))
            have q64 : h46 70 = h32 70 := funext (fun i => ((u46 70 i (fo_no_ok (by decide) i)).trans ((u44 70 i rfl).trans (u41 70 i (fn_a (by omega) fn_0)))))
            have nb62 : NBc (h46 69) (h46 70) := by rw [q63, q64]; exact y32_0
            exact k h46 z48 g46 F53 (by omega) (show z48 = 0 ∨ z48 = 1 by omega) (by rcases (show z48 = 0 ∨ z48 = 1 by omega) with zz | zz; (unfold sc_cmd sc_hd sc_num sc_mk; (try dsimp only); (repeat (first | rw [if_pos (by omega)] | rw [if_neg (by omega)])); (repeat ((first | unfold sc_num | unfold sc_mk); (try dsimp only); (repeat (first | rw [if_pos (by omega)] | rw [if_neg (by omega)])))); exact sc_Oe (by omega) (by omega) (by omega) (by omega)); (unfold sc_cmd sc_hd sc_num sc_mk; (try dsimp only); (repeat (first | rw [if_pos (by omega)] | rw [if_neg (by omega)])); (repeat ((first | unfold sc_num | unfold sc_mk); (try dsimp only); (repeat (first | rw [if_pos (by omega)] | rw [if_neg (by omega)])))); exact sc_Os (by omega) (by omega) (by omega) (by omega) (by omega) (by omega))) nb62
          ·
            refine wi_iconst (n := 0) (nx := 113) (r1 := 0) (r2 := 0) (r3 := 0) rfl ?_
            refine wi_zreturn (nx := 114) (r1 := 0) (r2 := 0) (r3 := 0) rfl rfl (by omega) ?_
            have e32 : h19 68 8 = h 68 8 := ((u19 68 8 rfl).trans (u16 68 8 rfl))
            have e33 : h19 68 9 = e15 := ((u19 68 9 rfl).trans w16)
            have q35 : h19 69 = h 69 := funext (fun i => ((u19 69 i (fo_no_ok (by decide) i)).trans (u16 69 i rfl)))
            have q36 : h19 70 = h 70 := funext (fun i => ((u19 70 i (fo_no_ok (by decide) i)).trans (u16 70 i rfl)))
            have nb34 : NBc (h19 69) (h19 70) := by rw [q35, q36]; exact xq1
            exact k h19 0 g19 F23 (by omega) (show 0 = 0 ∨ 0 = 1 by omega) (by unfold sc_cmd sc_hd sc_num sc_mk; (try dsimp only); (repeat (first | rw [if_pos (by omega)] | rw [if_neg (by omega)])); (repeat ((first | unfold sc_num | unfold sc_mk); (try dsimp only); (repeat (first | rw [if_pos (by omega)] | rw [if_neg (by omega)])))); first | exact sc_Oe (by omega) (by omega) (by omega) (by omega) | ((repeat' split) <;> (first | exact sc_Oe (by omega) (by omega) (by omega) (by omega) | (exfalso; omega)))) nb34
        ·
          refine wi_aload_n (i := 0) (x := 68) (nx := 69) (r1 := 0) (r2 := 0) (r3 := 0) rfl rfl ?_
          refine wr_gr (k0 := 68) (x := 1) (nx := 72) (r1 := 8) (r2 := 0) (r3 := 0) rfl rfl (by decide) rfl ⟨rfl, rfl⟩ rfl ?_
          refine wi_iconst (n := 5) (nx := 73) (r1 := 0) (r2 := 0) (r3 := 0) rfl ?_
          refine wr_V (k0 := 1) (rest := []) (as := [.ref 1, vi 5]) (nx := 76) (r1 := 101) (r2 := 1) (r3 := 1) rfl rfl rfl (of_decide_eq_true rfl) rfl rfl (by decide) rfl rfl (of_decide_eq_true rfl) (of_decide_eq_true rfl) ?_
          refine ct_101_1 hcr  g 5 (by omega)  (fun h15 z16 g15 u15 (fz16 : 0 ≤ z16 ∧ z16 ≤ 0) (p15_0 : z16 = 0) (p15_1 : (h15 1 2) = 5) (p15_2 : (h15 1 3) = (h 1 6)) => ?_)
          have F17 := F0.then (by decide +kernel) u15
          have b18 := gi_b (lo := -2147483648) (hi := 2147483647) g15 1 2 rfl
          have b19 := gi_b (lo := -2147483648) (hi := 2147483647) g15 1 3 rfl
          refine wk_i ?_
          refine wi_zreturn (nx := 77) (r1 := 0) (r2 := 0) (r3 := 0) rfl rfl (by omega) ?_
          have e20 : h15 1 4 = h 1 4 := (u15 1 4 rfl)
          have e21 : h15 68 8 = h 68 8 := (u15 68 8 rfl)
          have e22 : h15 68 9 = h 68 9 := (u15 68 9 rfl)
          have q24 : h15 69 = h 69 := funext (fun i => (u15 69 i (fo_no_ok (by decide) i)))
          have q25 : h15 70 = h 70 := funext (fun i => (u15 70 i (fo_no_ok (by decide) i)))
          have nb23 : NBc (h15 69) (h15 70) := by rw [q24, q25]; exact xq1
          exact k h15 z16 g15 F17 (by omega) (show z16 = 0 ∨ z16 = 1 by omega) (by unfold sc_cmd sc_hd sc_num sc_mk; (try dsimp only); (repeat (first | rw [if_pos (by omega)] | rw [if_neg (by omega)])); (repeat ((first | unfold sc_num | unfold sc_mk); (try dsimp only); (repeat (first | rw [if_pos (by omega)] | rw [if_neg (by omega)])))); first | exact sc_Oe (by omega) (by omega) (by omega) (by omega) | ((repeat' split) <;> (first | exact sc_Oe (by omega) (by omega) (by omega) (by omega) | (exfalso; omega)))) nb23
      ·
        refine wi_aload_n (i := 0) (x := 68) (nx := 51) (r1 := 0) (r2 := 0) (r3 := 0) rfl rfl ?_
        refine wr_gr (k0 := 68) (x := 1) (nx := 54) (r1 := 8) (r2 := 0) (r3 := 0) rfl rfl (by decide) rfl ⟨rfl, rfl⟩ rfl ?_
        refine wi_iconst (n := 3) (nx := 55) (r1 := 0) (r2 := 0) (r3 := 0) rfl ?_
        refine wr_V (k0 := 1) (rest := []) (as := [.ref 1, vi 3]) (nx := 58) (r1 := 101) (r2 := 1) (r3 := 1) rfl rfl rfl (of_decide_eq_true rfl) rfl rfl (by decide) rfl rfl (of_decide_eq_true rfl) (of_decide_eq_true rfl) ?_
        refine ct_101_1 hcr  g 3 (by omega)  (fun h13 z14 g13 u13 (fz14 : 0 ≤ z14 ∧ z14 ≤ 0) (p13_0 : z14 = 0) (p13_1 : (h13 1 2) = 3) (p13_2 : (h13 1 3) = (h 1 6)) => ?_)
        have F15 := F0.then (by decide +kernel) u13
        have b16 := gi_b (lo := -2147483648) (hi := 2147483647) g13 1 2 rfl
        have b17 := gi_b (lo := -2147483648) (hi := 2147483647) g13 1 3 rfl
        refine wk_i ?_
        refine wi_zreturn (nx := 59) (r1 := 0) (r2 := 0) (r3 := 0) rfl rfl (by omega) ?_
        have e18 : h13 1 4 = h 1 4 := (u13 1 4 rfl)
        have e19 : h13 68 8 = h 68 8 := (u13 68 8 rfl)
        have b20 := gi_b (lo := 0) (hi := 40) g 68 9 rfl
        have e21 : h13 68 9 = h 68 9 := (u13 68 9 rfl)
        have q23 : h13 69 = h 69 := funext (fun i => (u13 69 i (fo_no_ok (by decide) i)))
        have q24 : h13 70 = h 70 := funext (fun i => (u13 70 i (fo_no_ok (by decide) i)))
        have nb22 : NBc (h13 69) (h13 70) := by rw [q23, q24]; exact xq1
        exact k h13 z14 g13 F15 (by omega) (show z14 = 0 ∨ z14 = 1 by omega) (by unfold sc_cmd sc_hd sc_num sc_mk; (try dsimp only); (repeat (first | rw [if_pos (by omega)] | rw [if_neg (by omega)])); (repeat ((first | unfold sc_num | unfold sc_mk); (try dsimp only); (repeat (first | rw [if_pos (by omega)] | rw [if_neg (by omega)])))); first | exact sc_Oe (by omega) (by omega) (by omega) (by omega) | ((repeat' split) <;> (first | exact sc_Oe (by omega) (by omega) (by omega) (by omega) | (exfalso; omega)))) nb22
  ·
    refine wr_gi3 (k0 := 1) (x := 21) (nx := 7) (r1 := 1) (r2 := 9) (r3 := 0) rfl rfl (by decide) rfl ⟨rfl, rfl⟩ rfl q7 ?_
    refine wi_astore_n (i := 1) (x := mm_XB + (21 : Int).toNat) (lo2 := [(1, wv 21), (0, .ref 68)]) (nx := 8) (r1 := 0) (r2 := 0) (r3 := 0) rfl rfl ?_
    refine wi_aload_n (i := 0) (x := 68) (nx := 9) (r1 := 0) (r2 := 0) (r3 := 0) rfl rfl ?_
    refine wr_gr (k0 := 68) (x := 1) (nx := 12) (r1 := 8) (r2 := 0) (r3 := 0) rfl rfl (by decide) rfl ⟨rfl, rfl⟩ rfl ?_
    refine wr_gi0 (k0 := 1) (x := h 1 5) (nx := 15) (r1 := 1) (r2 := 5) (r3 := 0) rfl rfl (by decide) rfl ⟨rfl, rfl⟩ rfl rfl ?_
    refine wi_iconst (n := 1) (nx := 16) (r1 := 0) (r2 := 0) (r3 := 0) rfl ?_
    refine wi_icmp (cd := .ne) (nx := 19) (r1 := 26) (r2 := 0) (r3 := 0) rfl (by omega) (by omega) (fun (q8 : (h 1 5) ≠ 1) => ?_) (fun (q8 : ¬ ((h 1 5) ≠ 1)) => ?_)
    ·
      refine wi_aload_n (i := 0) (x := 68) (nx := 27) (r1 := 0) (r2 := 0) (r3 := 0) rfl rfl ?_
      refine wr_gr (k0 := 68) (x := 1) (nx := 30) (r1 := 8) (r2 := 0) (r3 := 0) rfl rfl (by decide) rfl ⟨rfl, rfl⟩ rfl ?_
      refine wi_iconst (n := 1) (nx := 31) (r1 := 0) (r2 := 0) (r3 := 0) rfl ?_
      refine wr_V (k0 := 1) (rest := []) (as := [.ref 1, vi 1]) (nx := 34) (r1 := 101) (r2 := 1) (r3 := 1) rfl rfl rfl (of_decide_eq_true rfl) rfl rfl (by decide) rfl rfl (of_decide_eq_true rfl) (of_decide_eq_true rfl) ?_
      refine ct_101_1 hcr  g 1 (by omega)  (fun h9 z10 g9 u9 (fz10 : 0 ≤ z10 ∧ z10 ≤ 0) (p9_0 : z10 = 0) (p9_1 : (h9 1 2) = 1) (p9_2 : (h9 1 3) = (h 1 6)) => ?_)
      have F11 := F0.then (by decide +kernel) u9
      have b12 := gi_b (lo := -2147483648) (hi := 2147483647) g9 1 2 rfl
      have b13 := gi_b (lo := -2147483648) (hi := 2147483647) g9 1 3 rfl
      refine wk_i ?_
      refine wi_zreturn (nx := 35) (r1 := 0) (r2 := 0) (r3 := 0) rfl rfl (by omega) ?_
      have e14 : h9 1 4 = h 1 4 := (u9 1 4 rfl)
      have b15 := gi_b (lo := 0) (hi := 2) g 68 8 rfl
      have e16 : h9 68 8 = h 68 8 := (u9 68 8 rfl)
      have b17 := gi_b (lo := 0) (hi := 40) g 68 9 rfl
      have e18 : h9 68 9 = h 68 9 := (u9 68 9 rfl)
      have q20 : h9 69 = h 69 := funext (fun i => (u9 69 i (fo_no_ok (by decide) i)))
      have q21 : h9 70 = h 70 := funext (fun i => (u9 70 i (fo_no_ok (by decide) i)))
      have nb19 : NBc (h9 69) (h9 70) := by rw [q20, q21]; exact xq1
      exact k h9 z10 g9 F11 (by omega) (show z10 = 0 ∨ z10 = 1 by omega) (by unfold sc_cmd sc_hd sc_num sc_mk; (try dsimp only); (repeat (first | rw [if_pos (by omega)] | rw [if_neg (by omega)])); (repeat ((first | unfold sc_num | unfold sc_mk); (try dsimp only); (repeat (first | rw [if_pos (by omega)] | rw [if_neg (by omega)])))); first | exact sc_Oe (by omega) (by omega) (by omega) (by omega) | ((repeat' split) <;> (first | exact sc_Oe (by omega) (by omega) (by omega) (by omega) | (exfalso; omega)))) nb19
    ·
      refine wi_aload_n (i := 1) (x := mm_XB + (21 : Int).toNat) (nx := 20) (r1 := 0) (r2 := 0) (r3 := 0) rfl rfl ?_
      refine wr_gx (k0 := mm_XB + (21 : Int).toNat) (v := vi 0) (nx := 23) (r1 := 1) (r2 := 0) (r3 := 1) rfl (by decide) (by decide) rfl ?_
      refine wi_if (cd := .ne) (nx := 26) (r1 := 35) (r2 := 0) (r3 := 0) rfl (by omega) (fun (q9 : 0 ≠ 0) => by exfalso; omega) (fun (q9 : ¬ (0 ≠ 0)) => ?_)
      refine wi_aload_n (i := 0) (x := 68) (nx := 27) (r1 := 0) (r2 := 0) (r3 := 0) rfl rfl ?_
      refine wr_gr (k0 := 68) (x := 1) (nx := 30) (r1 := 8) (r2 := 0) (r3 := 0) rfl rfl (by decide) rfl ⟨rfl, rfl⟩ rfl ?_
      refine wi_iconst (n := 1) (nx := 31) (r1 := 0) (r2 := 0) (r3 := 0) rfl ?_
      refine wr_V (k0 := 1) (rest := []) (as := [.ref 1, vi 1]) (nx := 34) (r1 := 101) (r2 := 1) (r3 := 1) rfl rfl rfl (of_decide_eq_true rfl) rfl rfl (by decide) rfl rfl (of_decide_eq_true rfl) (of_decide_eq_true rfl) ?_
      refine ct_101_1 hcr  g 1 (by omega)  (fun h10 z11 g10 u10 (fz11 : 0 ≤ z11 ∧ z11 ≤ 0) (p10_0 : z11 = 0) (p10_1 : (h10 1 2) = 1) (p10_2 : (h10 1 3) = (h 1 6)) => ?_)
      have F12 := F0.then (by decide +kernel) u10
      have b13 := gi_b (lo := -2147483648) (hi := 2147483647) g10 1 2 rfl
      have b14 := gi_b (lo := -2147483648) (hi := 2147483647) g10 1 3 rfl
      refine wk_i ?_
      refine wi_zreturn (nx := 35) (r1 := 0) (r2 := 0) (r3 := 0) rfl rfl (by omega) ?_
      have e15 : h10 1 4 = h 1 4 := (u10 1 4 rfl)
      have b16 := gi_b (lo := 0) (hi := 2) g 68 8 rfl
      have e17 : h10 68 8 = h 68 8 := (u10 68 8 rfl)
      have b18 := gi_b (lo := 0) (hi := 40) g 68 9 rfl
      have e19 : h10 68 9 = h 68 9 := (u10 68 9 rfl)
      have q21 : h10 69 = h 69 := funext (fun i => (u10 69 i (fo_no_ok (by decide) i)))
      have q22 : h10 70 = h 70 := funext (fun i => (u10 70 i (fo_no_ok (by decide) i)))
      have nb20 : NBc (h10 69) (h10 70) := by rw [q21, q22]; exact xq1
      exact k h10 z11 g10 F12 (by omega) (show z11 = 0 ∨ z11 = 1 by omega) (by unfold sc_cmd sc_hd sc_num sc_mk; (try dsimp only); (repeat (first | rw [if_pos (by omega)] | rw [if_neg (by omega)])); (repeat ((first | unfold sc_num | unfold sc_mk); (try dsimp only); (repeat (first | rw [if_pos (by omega)] | rw [if_neg (by omega)])))); first | exact sc_Oe (by omega) (by omega) (by omega) (by omega) | ((repeat' split) <;> (first | exact sc_Oe (by omega) (by omega) (by omega) (by omega) | (exfalso; omega)))) nb20
-- method 183: Script.closeRepeat()Z
set_option maxRecDepth 100000 in
set_option maxHeartbeats 100000000 in
theorem ct_183_68 {L : Nat} {xs : Nat → Int32} {d b c : Nat} {h : hp} {cr : Nat → Nat → Option Nat} {Q : hp_Q} (hcr : CR cr)  {tB : Nat → Int} {tn tp : Int} (g : GI h)   (pp0 : h 1 4 = tk_nx tB tn tp) (pp1 : h 1 6 = tk_st tB tn tp) (pp2 : h 1 5 = tk_kd tB tn tp) (pp3 : tk_kd tB tn tp = 1 → h 1 9 = tk_wd (tk_lw tB tn tp)) (pp4 : h 1 2 = 0) (pp5 : h 1 3 = -1) (pp6 : 0 ≤ tp) (pp7 : tp ≤ tn) (pp8 : tp ≤ tk_nx tB tn tp ∧ tk_nx tB tn tp ≤ tn) (pp9 : tk_kd tB tn tp = 5) (xq0 : BufC tB tn h) (xq1 : NBc (h 69) (h 70)) (k : ∀ (h2 : hp) (z0 : Int) , GI h2 → FR [(69, 69, none), (70, 70, none), (1, 1, some (2, 9)), (68, 68, some (8, 8)), (68, 68, some (10, 10))] h h2 → (0 ≤ z0 ∧ z0 ≤ 1) → ((z0 = 0 ∧ h 68 8 ≤ 0 ∧ h2 1 2 = 1 ∧ h2 1 3 = tk_st tB tn tp) ∨ (z0 = 0 ∧ 1 ≤ h 68 8 ∧ tk_kd tB tn (tk_nx tB tn tp) ≠ 3 ∧ h2 1 2 = 1 ∧ h2 1 3 = tk_st tB tn (tk_nx tB tn tp)) ∨ (z0 = 1 ∧ 1 ≤ h 68 8 ∧ tk_kd tB tn (tk_nx tB tn tp) = 3 ∧ h2 1 4 = tk_nx tB tn (tk_nx tB tn tp) ∧ h2 68 8 = h 68 8 - 1 ∧ h2 68 9 = h 68 9 ∧ h2 1 2 = 0 ∧ h2 1 3 = -1)) → (NBc (h2 69) (h2 70)) → Q (.inl (some (vi z0))) (hp_w h2 cr) b c) : wp (md_xa (L, xs)) (d + 4) 183 (0, [(0, .ref 68)], [], hp_w h cr, b, c) Q := by
  have F0 : FR [(69, 69, none), (70, 70, none), (1, 1, some (2, 9)), (68, 68, some (8, 8)), (68, 68, some (10, 10))] h h := FR.refl
  have tb_1 : h 1 1 = tn := xq0.2.1
  have tb_2 : 0 ≤ tn ∧ tn ≤ 800 := xq0.2.2
  have b1 := gi_b (lo := 0) (hi := 800) g 1 4 rfl
  have b2 := gi_b (lo := 0) (hi := 800) g 1 6 rfl
  have b3 := gi_b (lo := 0) (hi := 6) g 1 5 rfl
  have b4 := gi_b (lo := 1) (hi := 21) g 1 9 rfl
  have b5 := gi_b (lo := -2147483648) (hi := 2147483647) g 1 2 rfl
  have b6 := gi_b (lo := -2147483648) (hi := 2147483647) g 1 3 rfl
  refine wi_aload_n (i := 0) (x := 68) (nx := 1) (r1 := 0) (r2 := 0) (r3 := 0) rfl rfl ?_
  have b7 := gi_b (lo := 0) (hi := 2) g 68 8 rfl
  refine wr_gi0 (k0 := 68) (x := h 68 8) (nx := 4) (r1 := 8) (r2 := 8) (r3 := 0) rfl rfl (by decide) rfl ⟨rfl, rfl⟩ rfl rfl ?_
  refine wi_if (cd := .gt) (nx := 7) (r1 := 16) (r2 := 0) (r3 := 0) rfl (by omega) (fun (q8 : 0 < (h 68 8)) => ?_) (fun (q8 : ¬ (0 < (h 68 8))) => ?_)
  ·
    refine wi_aload_n (i := 0) (x := 68) (nx := 17) (r1 := 0) (r2 := 0) (r3 := 0) rfl rfl ?_
    refine wi_dup (nx := 18) (r1 := 0) (r2 := 0) (r3 := 0) rfl rfl ?_
    refine wr_gi0 (k0 := 68) (x := h 68 8) (nx := 21) (r1 := 8) (r2 := 8) (r3 := 0) rfl rfl (by decide) rfl ⟨rfl, rfl⟩ rfl rfl ?_
    refine wi_iconst (n := 1) (nx := 22) (r1 := 0) (r2 := 0) (r3 := 0) rfl ?_
    refine wr_sub (nx := 23) (r1 := 0) (r2 := 0) (r3 := 0) rfl (fun e9 (fe9 : e9 = (h 68 8) - 1) => ?_)
    refine wr_pf0 (k0 := 68) (x := e9) (bl := 0) (bh := 2) (nx := 26) (r1 := 8) (r2 := 8) (r3 := 0) rfl (by decide) rfl ⟨rfl, rfl⟩ rfl rfl g rfl (by omega) (fun h10 g10 w10 u10 => ?_)
    have F11 := F0.then rfl u10
    refine wi_aload_n (i := 0) (x := 68) (nx := 27) (r1 := 0) (r2 := 0) (r3 := 0) rfl rfl ?_
    refine wr_gst (v := wv 21) (nx := 30) (r1 := 20) (r2 := 0) (r3 := 0) rfl rfl rfl ?_
    refine wi_aload_n (i := 0) (x := 68) (nx := 31) (r1 := 0) (r2 := 0) (r3 := 0) rfl rfl ?_
    refine wr_gr (k0 := 68) (x := 72) (nx := 34) (r1 := 8) (r2 := 7) (r3 := 0) rfl rfl (by decide) rfl ⟨rfl, rfl⟩ rfl ?_
    refine wi_aload_n (i := 0) (x := 68) (nx := 35) (r1 := 0) (r2 := 0) (r3 := 0) rfl rfl ?_
    refine wr_gi0 (k0 := 68) (x := e9) (nx := 38) (r1 := 8) (r2 := 8) (r3 := 0) rfl rfl (by decide) rfl ⟨rfl, rfl⟩ rfl w10 ?_
    obtain ⟨i12, ei12⟩ : ∃ q : Nat, e9 = (q : Int) := ⟨(e9).toNat, by omega⟩
    have b13 := gi_b (lo := -2147483648) (hi := 2147483647) g 72 i12 rfl
    refine wr_ia (k0 := 72) (a := e9) (f := i12) (x := h 72 i12) (nx := 39) (r1 := 0) (r2 := 0) (r3 := 0) rfl (by decide) rfl (by omega) (by omega) (by decide) (u10 72 i12 (fn_a (by omega) fn_0)) ?_
    refine wr_V (k0 := 68) (rest := []) (as := [.ref 68, wv 21, vi (h 72 i12)]) (nx := 42) (r1 := 184) (r2 := 2) (r3 := 8) rfl rfl rfl (of_decide_eq_true rfl) rfl rfl (by decide) rfl rfl (of_decide_eq_true rfl) (of_decide_eq_true rfl) ?_
    have q16 : h10 69 = h 69 := funext (fun i => (u10 69 i rfl))
    have q17 : h10 70 = h 70 := funext (fun i => (u10 70 i rfl))
    have nb15 : NBc (h10 69) (h10 70) := by rw [q16, q17]; exact xq1
    refine ct_184_68 hcr  g10 21 (h 72 i12) (by omega) (by omega) (show (21 ≠ 16 ∧ 21 ≠ 17) ∨ (0 ≤ (h 72 i12) ∧ (h 72 i12) ≤ 99) by omega) nb15 (fun h14 g14 u14 y14_0 => ?_)
    have F18 := F11.then (by decide +kernel) u14
    refine wk_n ?_
    refine wi_aload_n (i := 0) (x := 68) (nx := 43) (r1 := 0) (r2 := 0) (r3 := 0) rfl rfl ?_
    refine wr_gr (k0 := 68) (x := 1) (nx := 46) (r1 := 8) (r2 := 0) (r3 := 0) rfl rfl (by decide) rfl ⟨rfl, rfl⟩ rfl ?_
    refine wr_V (k0 := 1) (rest := []) (as := [.ref 1]) (nx := 49) (r1 := 105) (r2 := 0) (r3 := 1) rfl rfl rfl (of_decide_eq_true rfl) rfl rfl (by decide) rfl rfl (of_decide_eq_true rfl) (of_decide_eq_true rfl) ?_
    have e20 : h14 1 4 = h 1 4 := ((u14 1 4 rfl).trans (u10 1 4 rfl))
    have tb22 := BufC.fr u10 rfl xq0
    have tb23 := BufC.fr u14 rfl tb22
    refine ct_105_1 hcr  g14   (show (h14 1 4) = (tk_nx tB tn tp) by omega) (show 0 ≤ (tk_nx tB tn tp) by omega) (show (tk_nx tB tn tp) ≤ tn by omega) tb23 (fun h19 z21 g19 u19 (fz21 : 0 ≤ z21 ∧ z21 ≤ 1) (p19_0 : (z21 = 1 ∧ tk_kd tB tn (tk_nx tB tn tp) = 3 ∧ (h19 1 4) = tk_nx tB tn (tk_nx tB tn tp) ∧ (h19 1 2) = (h14 1 2) ∧ (h19 1 3) = (h14 1 3)) ∨ (z21 = 0 ∧ tk_kd tB tn (tk_nx tB tn tp) ≠ 3 ∧ (h19 1 2) = 1 ∧ (h19 1 3) = tk_st tB tn (tk_nx tB tn tp))) => ?_)
    have F24 := F18.then (by decide +kernel) u19
    have e25 : h14 1 2 = h 1 2 := ((u14 1 2 rfl).trans (u10 1 2 rfl))
    have e26 : h14 1 3 = h 1 3 := ((u14 1 3 rfl).trans (u10 1 3 rfl))
    have b27 := gi_b (lo := 0) (hi := 800) g19 1 4 rfl
    have b28 := gi_b (lo := -2147483648) (hi := 2147483647) g19 1 2 rfl
    have b29 := gi_b (lo := -2147483648) (hi := 2147483647) g19 1 3 rfl
    have tN30 := @tk_nx_b tB tn (tk_nx tB tn tp) (by omega) (by omega)
    refine wk_i ?_
    refine wi_zreturn (nx := 50) (r1 := 0) (r2 := 0) (r3 := 0) rfl rfl (by omega) ?_
    have e31 : h19 68 8 = e9 := ((u19 68 8 rfl).trans ((u14 68 8 rfl).trans w10))
    have b32 := gi_b (lo := 0) (hi := 40) g 68 9 rfl
    have e33 : h19 68 9 = h 68 9 := ((u19 68 9 rfl).trans ((u14 68 9 rfl).trans (u10 68 9 rfl)))
    have q35 : h19 69 = h14 69 := funext (fun i => (u19 69 i (fo_no_ok (by decide) i)))
    have q36 : h19 70 = h14 70 := funext (fun i => (u19 70 i (fo_no_ok (by decide) i)))
    have nb34 : NBc (h19 69) (h19 70) := by rw [q35, q36]; exact y14_0
    exact k h19 z21 g19 F24 (by omega) (show (z21 = 0 ∧ (h 68 8) ≤ 0 ∧ (h19 1 2) = 1 ∧ (h19 1 3) = tk_st tB tn tp) ∨ (z21 = 0 ∧ 1 ≤ (h 68 8) ∧ tk_kd tB tn (tk_nx tB tn tp) ≠ 3 ∧ (h19 1 2) = 1 ∧ (h19 1 3) = tk_st tB tn (tk_nx tB tn tp)) ∨ (z21 = 1 ∧ 1 ≤ (h 68 8) ∧ tk_kd tB tn (tk_nx tB tn tp) = 3 ∧ (h19 1 4) = tk_nx tB tn (tk_nx tB tn tp) ∧ (h19 68 8) = (h 68 8) - 1 ∧ (h19 68 9) = (h 68 9) ∧ (h19 1 2) = 0 ∧ (h19 1 3) = -1) by omega) nb34
  ·
    refine wi_aload_n (i := 0) (x := 68) (nx := 8) (r1 := 0) (r2 := 0) (r3 := 0) rfl rfl ?_
    refine wr_gr (k0 := 68) (x := 1) (nx := 11) (r1 := 8) (r2 := 0) (r3 := 0) rfl rfl (by decide) rfl ⟨rfl, rfl⟩ rfl ?_
    refine wi_iconst (n := 1) (nx := 12) (r1 := 0) (r2 := 0) (r3 := 0) rfl ?_
    refine wr_V (k0 := 1) (rest := []) (as := [.ref 1, vi 1]) (nx := 15) (r1 := 101) (r2 := 1) (r3 := 1) rfl rfl rfl (of_decide_eq_true rfl) rfl rfl (by decide) rfl rfl (of_decide_eq_true rfl) (of_decide_eq_true rfl) ?_
    refine ct_101_1 hcr  g 1 (by omega)  (fun h9 z10 g9 u9 (fz10 : 0 ≤ z10 ∧ z10 ≤ 0) (p9_0 : z10 = 0) (p9_1 : (h9 1 2) = 1) (p9_2 : (h9 1 3) = (h 1 6)) => ?_)
    have F11 := F0.then (by decide +kernel) u9
    have b12 := gi_b (lo := -2147483648) (hi := 2147483647) g9 1 2 rfl
    have b13 := gi_b (lo := -2147483648) (hi := 2147483647) g9 1 3 rfl
    refine wk_i ?_
    refine wi_zreturn (nx := 16) (r1 := 0) (r2 := 0) (r3 := 0) rfl rfl (by omega) ?_
    have e14 : h9 1 4 = h 1 4 := (u9 1 4 rfl)
    have e15 : h9 68 8 = h 68 8 := (u9 68 8 rfl)
    have b16 := gi_b (lo := 0) (hi := 40) g 68 9 rfl
    have e17 : h9 68 9 = h 68 9 := (u9 68 9 rfl)
    have q19 : h9 69 = h 69 := funext (fun i => (u9 69 i (fo_no_ok (by decide) i)))
    have q20 : h9 70 = h 70 := funext (fun i => (u9 70 i (fo_no_ok (by decide) i)))
    have nb18 : NBc (h9 69) (h9 70) := by rw [q19, q20]; exact xq1
    exact k h9 z10 g9 F11 (by omega) (show (z10 = 0 ∧ (h 68 8) ≤ 0 ∧ (h9 1 2) = 1 ∧ (h9 1 3) = tk_st tB tn tp) ∨ (z10 = 0 ∧ 1 ≤ (h 68 8) ∧ tk_kd tB tn (tk_nx tB tn tp) ≠ 3 ∧ (h9 1 2) = 1 ∧ (h9 1 3) = tk_st tB tn (tk_nx tB tn tp)) ∨ (z10 = 1 ∧ 1 ≤ (h 68 8) ∧ tk_kd tB tn (tk_nx tB tn tp) = 3 ∧ (h9 1 4) = tk_nx tB tn (tk_nx tB tn tp) ∧ (h9 68 8) = (h 68 8) - 1 ∧ (h9 68 9) = (h 68 9) ∧ (h9 1 2) = 0 ∧ (h9 1 3) = -1) by omega) nb18
-- method 182: Script.readAll()Z
set_option maxRecDepth 100000 in
set_option maxHeartbeats 100000000 in
theorem ct_182_68 {L : Nat} {xs : Nat → Int32} {d b c : Nat} {h : hp} {cr : Nat → Nat → Option Nat} {Q : hp_Q} (hcr : CR cr)  {tB : Nat → Int} {tn  : Int} (g : GI h)    (xq0 : BufC tB tn h) (xq1 : NBc (h 69) (h 70)) (k : ∀ (h2 : hp) (z0 : Int) , GI h2 → FR [(69, 69, none), (70, 70, none), (72, 72, none), (1, 1, some (2, 9)), (68, 68, some (8, 10))] h h2 → (0 ≤ z0 ∧ z0 ≤ 1) → ((z0 = 1 ∧ sc_ec tB tn = 0) ∨ (z0 = 0 ∧ 1 ≤ sc_ec tB tn)) → (h2 1 2 = sc_ec tB tn) → (h2 1 3 = sc_ep tB tn) → (NBc (h2 69) (h2 70)) → Q (.inl (some (vi z0))) (hp_w h2 cr) b c) : wp (md_xa (L, xs)) (d + 5) 182 (0, [(0, .ref 68)], [], hp_w h cr, b, c) Q := by
  have F0 : FR [(69, 69, none), (70, 70, none), (72, 72, none), (1, 1, some (2, 9)), (68, 68, some (8, 10))] h h := FR.refl
  have tb_1 : h 1 1 = tn := xq0.2.1
  have tb_2 : 0 ≤ tn ∧ tn ≤ 800 := xq0.2.2
  refine wi_aload_n (i := 0) (x := 68) (nx := 1) (r1 := 0) (r2 := 0) (r3 := 0) rfl rfl ?_
  refine wr_gr (k0 := 68) (x := 1) (nx := 4) (r1 := 8) (r2 := 0) (r3 := 0) rfl rfl (by decide) rfl ⟨rfl, rfl⟩ rfl ?_
  refine wr_V (k0 := 1) (rest := []) (as := [.ref 1]) (nx := 7) (r1 := 93) (r2 := 0) (r3 := 1) rfl rfl rfl (of_decide_eq_true rfl) rfl rfl (by decide) rfl rfl (of_decide_eq_true rfl) (of_decide_eq_true rfl) ?_
  refine ct_93_1 hcr  g    (fun h1 g1 u1 (p1_0 : (h1 1 4) = 0) (p1_1 : (h1 1 2) = 0) (p1_2 : (h1 1 3) = -1) => ?_)
  have F2 := F0.then (by decide +kernel) u1
  have b3 := gi_b (lo := 0) (hi := 800) g1 1 4 rfl
  have b4 := gi_b (lo := -2147483648) (hi := 2147483647) g1 1 2 rfl
  have b5 := gi_b (lo := -2147483648) (hi := 2147483647) g1 1 3 rfl
  refine wk_n ?_
  refine wi_aload_n (i := 0) (x := 68) (nx := 8) (r1 := 0) (r2 := 0) (r3 := 0) rfl rfl ?_
  refine wi_iconst (n := 0) (nx := 9) (r1 := 0) (r2 := 0) (r3 := 0) rfl ?_
  refine wr_pf0 (k0 := 68) (x := 0) (bl := 0) (bh := 2) (nx := 12) (r1 := 8) (r2 := 8) (r3 := 0) rfl (by decide) rfl ⟨rfl, rfl⟩ rfl rfl g1 rfl (by omega) (fun h6 g6 w6 u6 => ?_)
  have F7 := F2.then rfl u6
  refine wi_aload_n (i := 0) (x := 68) (nx := 13) (r1 := 0) (r2 := 0) (r3 := 0) rfl rfl ?_
  refine wi_iconst (n := 0) (nx := 14) (r1 := 0) (r2 := 0) (r3 := 0) rfl ?_
  refine wr_pf0 (k0 := 68) (x := 0) (bl := 0) (bh := 40) (nx := 17) (r1 := 8) (r2 := 9) (r3 := 0) rfl (by decide) rfl ⟨rfl, rfl⟩ rfl rfl g6 rfl (by omega) (fun h8 g8 w8 u8 => ?_)
  have F9 := F7.then rfl u8
  refine wi_aload_n (i := 0) (x := 68) (nx := 18) (r1 := 0) (r2 := 0) (r3 := 0) rfl rfl ?_
  refine wi_iconst (n := 0) (nx := 19) (r1 := 0) (r2 := 0) (r3 := 0) rfl ?_
  refine wr_pf0 (k0 := 68) (x := 0) (bl := 0) (bh := 80) (nx := 22) (r1 := 8) (r2 := 10) (r3 := 0) rfl (by decide) rfl ⟨rfl, rfl⟩ rfl rfl g8 rfl (by omega) (fun h10 g10 w10 u10 => ?_)
  have F11 := F9.then rfl u10
  refine wi_iconst (n := 0) (nx := 23) (r1 := 0) (r2 := 0) (r3 := 0) rfl ?_
  refine wi_istore_n (i := 1) (e := 0) (lo2 := [(1, vi 0), (0, .ref 68)]) (nx := 24) (r1 := 0) (r2 := 0) (r3 := 0) rfl rfl ?_
  have e14 : h10 1 4 = h1 1 4 := ((u10 1 4 rfl).trans ((u8 1 4 rfl).trans (u6 1 4 rfl)))
  have e15 : h10 68 8 = 0 := ((u10 68 8 rfl).trans ((u8 68 8 rfl).trans w6))
  have e16 : h10 68 9 = 0 := ((u10 68 9 rfl).trans w8)
  have q18 : h10 69 = h 69 := funext (fun i => ((u10 69 i rfl).trans ((u8 69 i rfl).trans ((u6 69 i rfl).trans (u1 69 i (fo_no_ok (by decide) i))))))
  have q19 : h10 70 = h 70 := funext (fun i => ((u10 70 i rfl).trans ((u8 70 i rfl).trans ((u6 70 i rfl).trans (u1 70 i (fo_no_ok (by decide) i))))))
  have nb17 : NBc (h10 69) (h10 70) := by rw [q18, q19]; exact xq1
  have e20 : h10 1 2 = h1 1 2 := ((u10 1 2 rfl).trans ((u8 1 2 rfl).trans (u6 1 2 rfl)))
  have e21 : h10 1 3 = h1 1 3 := ((u10 1 3 rfl).trans ((u8 1 3 rfl).trans (u6 1 3 rfl)))
  have b22 := gi_b (lo := 0) (hi := 800) g 1 1 rfl
  have e23 : h10 1 1 = h 1 1 := ((u10 1 1 rfl).trans ((u8 1 1 rfl).trans ((u6 1 1 rfl).trans (u1 1 1 rfl))))
  refine wp.lo (lo := [(0, .ref 68), (1, vi 0)]) ⟨rfl, rfl, trivial⟩ rfl ?_
  refine wl_1 (fun x12 h13 => GI h13 ∧ FR [(69, 69, none), (70, 70, none), (72, 72, none), (1, 1, some (2, 9)), (68, 68, some (8, 10))] h h13 ∧ FR [(69, 69, none), (70, 70, none), (72, 72, none), (1, 1, some (2, 9)), (68, 68, some (8, 10))] h10 h13 ∧ ((0 ≤ x12 ∧ x12 ≤ 801) ∧ ((h13 1 2) = 0) ∧ ((h13 1 3) = -1) ∧ ((h13 1 4) ≤ (h13 1 1)) ∧ (x12 ≤ (h13 1 4))) ∧ (∃ f : Nat, 801 - h13 1 4 ≤ (f : Int) ∧ sc_run tB tn f (h13 1 4) (h13 68 8) (h13 68 9) = sc_RES tB tn) ∧ NBc (h13 69) (h13 70)) (fun x12 h13 => ((801 : Int) + 1 - x12).toNat) (fun x12 h13 => (24, [(0, .ref 68), (1, vi x12)], [], hp_w h13 cr, b, c)) ?_ 0 h10 ⟨g10, F11, FR.refl, (show (0 ≤ 0 ∧ 0 ≤ 801) ∧ ((h10 1 2) = 0) ∧ ((h10 1 3) = -1) ∧ ((h10 1 4) ≤ (h10 1 1)) ∧ (0 ≤ (h10 1 4)) by omega), ⟨801, by omega, by rw [show h10 1 4 = 0 by omega, show h10 68 8 = 0 by omega, show h10 68 9 = 0 by omega]; rfl⟩, nb17⟩
  intro x12 h13 ⟨g13, F24, u13, f13, X13_0, X13_1⟩ I13
  have b25 := gi_b (lo := -2147483648) (hi := 2147483647) g13 1 2 rfl
  have b26 := gi_b (lo := -2147483648) (hi := 2147483647) g13 1 3 rfl
  have b27 := gi_b (lo := 0) (hi := 800) g13 1 4 rfl
  have e28 : h13 1 1 = h 1 1 := ((u13 1 1 rfl).trans ((u10 1 1 rfl).trans ((u8 1 1 rfl).trans ((u6 1 1 rfl).trans (u1 1 1 rfl)))))
  have b29 := gi_b (lo := 0) (hi := 2) g13 68 8 rfl
  have b30 := gi_b (lo := 0) (hi := 40) g13 68 9 rfl
  obtain ⟨f13_, fa13, fr13⟩ := X13_0
  obtain ⟨kf13, rfl⟩ : ∃ k, f13_ = k + 1 := ⟨f13_ - 1, by omega⟩
  refine wi_iload_n (i := 1) (e := x12) (nx := 25) (r1 := 0) (r2 := 0) (r3 := 0) rfl rfl ?_
  refine wi_sipush (n := 800) (nx := 28) (r1 := 0) (r2 := 0) (r3 := 0) rfl (by decide) ?_
  refine wi_icmp (cd := .gt) (nx := 31) (r1 := 107) (r2 := 0) (r3 := 0) rfl (by omega) (by omega) (fun (q31 : 800 < x12) => by exfalso; omega) (fun (q31 : ¬ (800 < x12)) => ?_)
  refine wi_aload_n (i := 0) (x := 68) (nx := 32) (r1 := 0) (r2 := 0) (r3 := 0) rfl rfl ?_
  refine wr_gr (k0 := 68) (x := 1) (nx := 35) (r1 := 8) (r2 := 0) (r3 := 0) rfl rfl (by decide) rfl ⟨rfl, rfl⟩ rfl ?_
  refine wr_V (k0 := 1) (rest := []) (as := [.ref 1]) (nx := 38) (r1 := 94) (r2 := 0) (r3 := 1) rfl rfl rfl (of_decide_eq_true rfl) rfl rfl (by decide) rfl rfl (of_decide_eq_true rfl) (of_decide_eq_true rfl) ?_
  have tb33 := BufC.fr u1 rfl xq0
  have tb34 := BufC.fr u6 rfl tb33
  have tb35 := BufC.fr u8 rfl tb34
  have tb36 := BufC.fr u10 rfl tb35
  have tb37 := BufC.fr u13 rfl tb36
  refine ct_94_1 hcr  g13   (show (h13 1 4) = (h13 1 4) by omega) (show 0 ≤ (h13 1 4) by omega) (show (h13 1 4) ≤ tn by omega) tb37 (fun h32 g32 u32 (p32_0 : (h32 1 4) = tk_nx tB tn (h13 1 4)) (p32_1 : (h32 1 5) = tk_kd tB tn (h13 1 4)) (p32_2 : (h32 1 6) = tk_st tB tn (h13 1 4)) (p32_3 : tk_kd tB tn (h13 1 4) = 1 → ((h32 1 8) = tk_lw tB tn (h13 1 4) ∧ (h32 1 9) = tk_wd (tk_lw tB tn (h13 1 4)))) (p32_4 : tk_kd tB tn (h13 1 4) = 2 → (h32 1 7) = tk_nb tB tn (h13 1 4)) => ?_)
  have F38 := F24.then (by decide +kernel) u32
  have F39 := u13.then (by decide +kernel) u32
  have b40 := gi_b (lo := 0) (hi := 800) g32 1 4 rfl
  have b41 := gi_b (lo := 0) (hi := 6) g32 1 5 rfl
  have b42 := gi_b (lo := 0) (hi := 800) g32 1 6 rfl
  have b43 := gi_b (lo := -9223372036854775808) (hi := 9223372036854775807) g32 1 8 rfl
  have b44 := gi_b (lo := 1) (hi := 21) g32 1 9 rfl
  have b45 := gi_b (lo := -2147483648) (hi := 2147483647) g32 1 7 rfl
  have tN46 := @tk_nx_b tB tn (h13 1 4) (by omega) (by omega)
  refine wk_n ?_
  refine wi_aload_n (i := 0) (x := 68) (nx := 39) (r1 := 0) (r2 := 0) (r3 := 0) rfl rfl ?_
  refine wr_gr (k0 := 68) (x := 1) (nx := 42) (r1 := 8) (r2 := 0) (r3 := 0) rfl rfl (by decide) rfl ⟨rfl, rfl⟩ rfl ?_
  refine wr_gi0 (k0 := 1) (x := h32 1 5) (nx := 45) (r1 := 1) (r2 := 5) (r3 := 0) rfl rfl (by decide) rfl ⟨rfl, rfl⟩ rfl rfl ?_
  refine wi_if (cd := .ne) (nx := 48) (r1 := 72) (r2 := 0) (r3 := 0) rfl (by omega) (fun (q47 : (h32 1 5) ≠ 0) => ?_) (fun (q47 : ¬ ((h32 1 5) ≠ 0)) => ?_)
  ·
    refine wi_aload_n (i := 0) (x := 68) (nx := 73) (r1 := 0) (r2 := 0) (r3 := 0) rfl rfl ?_
    refine wr_gr (k0 := 68) (x := 1) (nx := 76) (r1 := 8) (r2 := 0) (r3 := 0) rfl rfl (by decide) rfl ⟨rfl, rfl⟩ rfl ?_
    refine wr_gi0 (k0 := 1) (x := h32 1 5) (nx := 79) (r1 := 1) (r2 := 5) (r3 := 0) rfl rfl (by decide) rfl ⟨rfl, rfl⟩ rfl rfl ?_
    refine wi_iconst (n := 5) (nx := 80) (r1 := 0) (r2 := 0) (r3 := 0) rfl ?_
    refine wi_icmp (cd := .ne) (nx := 83) (r1 := 90) (r2 := 0) (r3 := 0) rfl (by omega) (by omega) (fun (q48 : (h32 1 5) ≠ 5) => ?_) (fun (q48 : ¬ ((h32 1 5) ≠ 5)) => ?_)
    ·
      refine wi_aload_n (i := 0) (x := 68) (nx := 91) (r1 := 0) (r2 := 0) (r3 := 0) rfl rfl ?_
      refine wr_V (k0 := 68) (rest := []) (as := [.ref 68]) (nx := 94) (r1 := 185) (r2 := 0) (r3 := 8) rfl rfl rfl (of_decide_eq_true rfl) rfl rfl (by decide) rfl rfl (of_decide_eq_true rfl) (of_decide_eq_true rfl) ?_
      have e50 : h32 1 2 = h13 1 2 := (u32 1 2 rfl)
      have e51 : h32 1 3 = h13 1 3 := (u32 1 3 rfl)
      have tb53 := BufC.fr u32 rfl tb37
      have q55 : h32 69 = h13 69 := funext (fun i => (u32 69 i (fo_no_ok (by decide) i)))
      have q56 : h32 70 = h13 70 := funext (fun i => (u32 70 i (fo_no_ok (by decide) i)))
      have nb54 : NBc (h32 69) (h32 70) := by rw [q55, q56]; exact X13_1
      refine ct_185_68 hcr  g32   (show (h32 1 4) = tk_nx tB tn (h13 1 4) by omega) (show (h32 1 6) = tk_st tB tn (h13 1 4) by omega) (show (h32 1 5) = tk_kd tB tn (h13 1 4) by omega) (show tk_kd tB tn (h13 1 4) = 1 → (h32 1 9) = tk_wd (tk_lw tB tn (h13 1 4)) by omega) (show (h32 1 2) = 0 by omega) (show (h32 1 3) = -1 by omega) (show 0 ≤ (h13 1 4) by omega) (show (h13 1 4) ≤ tn by omega) (show (h13 1 4) ≤ tk_nx tB tn (h13 1 4) ∧ tk_nx tB tn (h13 1 4) ≤ tn by omega) (show tk_kd tB tn (h13 1 4) ≠ 0 by omega) tb53 nb54 (fun h49 z52 g49 u49 (fz52 : 0 ≤ z52 ∧ z52 ≤ 1) (p49_0 : z52 = 0 ∨ z52 = 1) y49_0 y49_1 => ?_)
      have F57 := F38.then (by decide +kernel) u49
      have F58 := F39.then (by decide +kernel) u49
      refine wk_i ?_
      rcases p49_0 with p49_0 | p49_0
      ·
        have e60 : h32 68 8 = h13 68 8 := (u32 68 8 rfl)
        have e61 : h32 68 9 = h13 68 9 := (u32 68 9 rfl)
        obtain ⟨cq59, q59, eqq59, eaq59, ebq59, ecq59⟩ := sc_Of y49_0 (by omega)
        rw [show h32 68 8 = h13 68 8 by omega, show h32 68 9 = h13 68 9 by omega] at eqq59
        refine wi_istore_n (i := 2) (e := z52) (lo2 := [(2, vi z52), (0, .ref 68), (1, vi x12)]) (nx := 95) (r1 := 0) (r2 := 0) (r3 := 0) rfl rfl ?_
        refine wi_iload_n (i := 2) (e := z52) (nx := 96) (r1 := 0) (r2 := 0) (r3 := 0) rfl rfl ?_
        refine wi_if (cd := .ne) (nx := 99) (r1 := 101) (r2 := 0) (r3 := 0) rfl (by omega) (fun (q62 : z52 ≠ 0) => by exfalso; omega) (fun (q62 : ¬ (z52 ≠ 0)) => ?_)
        refine wi_iconst (n := 0) (nx := 100) (r1 := 0) (r2 := 0) (r3 := 0) rfl ?_
        refine wi_zreturn (nx := 101) (r1 := 0) (r2 := 0) (r3 := 0) rfl rfl (by omega) ?_
        have b64 := gi_b (lo := -2147483648) (hi := 2147483647) g49 1 2 rfl
        have b65 := gi_b (lo := -2147483648) (hi := 2147483647) g49 1 3 rfl
        have RE63 := sc_REq (fr13.symm.trans (sc_m1 (by omega) (by omega) eqq59))
        exact k h49 0 g49 F57 (by omega) (show (0 = 1 ∧ sc_ec tB tn = 0) ∨ (0 = 0 ∧ 1 ≤ sc_ec tB tn) by omega) (show (h49 1 2) = sc_ec tB tn by omega) (show (h49 1 3) = sc_ep tB tn by omega) y49_1
      ·
        have e60 : h32 68 8 = h13 68 8 := (u32 68 8 rfl)
        have e61 : h32 68 9 = h13 68 9 := (u32 68 9 rfl)
        obtain ⟨q59, oq59, mq59, eqq59, eaq59, ebq59, ecq59, edq59, eeq59⟩ := sc_Ot y49_0 (by omega)
        rw [show h32 68 8 = h13 68 8 by omega, show h32 68 9 = h13 68 9 by omega] at eqq59
        have loq59 := sc_cmdB (by omega) (by omega) q59 oq59 mq59 eqq59
        refine wi_istore_n (i := 2) (e := z52) (lo2 := [(2, vi z52), (0, .ref 68), (1, vi x12)]) (nx := 95) (r1 := 0) (r2 := 0) (r3 := 0) rfl rfl ?_
        refine wi_iload_n (i := 2) (e := z52) (nx := 96) (r1 := 0) (r2 := 0) (r3 := 0) rfl rfl ?_
        refine wi_if (cd := .ne) (nx := 99) (r1 := 101) (r2 := 0) (r3 := 0) rfl (by omega) (fun (q62 : z52 ≠ 0) => ?_) (fun (q62 : ¬ (z52 ≠ 0)) => by exfalso; omega)
        refine wr_iinc (i := 1) (n := 1) (v := x12) (fun e63 => [(1, vi e63), (2, vi z52), (0, .ref 68)]) (nx := 104) (r1 := 0) (r2 := 0) (r3 := 0) rfl rfl (fun _ => rfl) (fun e63 (fe63 : e63 = x12 + 1) => ?_)
        refine wi_goto (nx := 107) (r1 := 24) (r2 := 0) (r3 := 0) rfl ?_
        have b64 := gi_b (lo := -2147483648) (hi := 2147483647) g49 1 2 rfl
        have b65 := gi_b (lo := -2147483648) (hi := 2147483647) g49 1 3 rfl
        have b66 := gi_b (lo := 0) (hi := 800) g49 1 4 rfl
        have e67 : h49 1 1 = h 1 1 := ((u49 1 1 rfl).trans ((u32 1 1 rfl).trans ((u13 1 1 rfl).trans ((u10 1 1 rfl).trans ((u8 1 1 rfl).trans ((u6 1 1 rfl).trans (u1 1 1 rfl)))))))
        refine wp.lo (lo := [(0, .ref 68), (1, vi e63)]) ⟨rfl, rfl, trivial⟩ rfl ?_
        have b68 := gi_b (lo := 0) (hi := 2) g49 68 8 rfl
        have b69 := gi_b (lo := 0) (hi := 40) g49 68 9 rfl
        exact I13 e63 h49 ⟨g49, F57, F58, (show (0 ≤ e63 ∧ e63 ≤ 801) ∧ ((h49 1 2) = 0) ∧ ((h49 1 3) = -1) ∧ ((h49 1 4) ≤ (h49 1 1)) ∧ (e63 ≤ (h49 1 4)) by omega), ⟨kf13, by omega, by rw [show h49 1 4 = q59 by omega, show h49 68 8 = oq59 by omega, show h49 68 9 = mq59 by omega]; exact (sc_m2 (by omega) (by omega) eqq59).symm.trans fr13⟩, y49_1⟩ (show ((801 : Int) + 1 - e63).toNat < ((801 : Int) + 1 - x12).toNat by omega)
    ·
      refine wi_aload_n (i := 0) (x := 68) (nx := 84) (r1 := 0) (r2 := 0) (r3 := 0) rfl rfl ?_
      refine wr_V (k0 := 68) (rest := []) (as := [.ref 68]) (nx := 87) (r1 := 183) (r2 := 0) (r3 := 8) rfl rfl rfl (of_decide_eq_true rfl) rfl rfl (by decide) rfl rfl (of_decide_eq_true rfl) (of_decide_eq_true rfl) ?_
      have e50 : h32 1 2 = h13 1 2 := (u32 1 2 rfl)
      have e51 : h32 1 3 = h13 1 3 := (u32 1 3 rfl)
      have tb53 := BufC.fr u32 rfl tb37
      have q55 : h32 69 = h13 69 := funext (fun i => (u32 69 i (fo_no_ok (by decide) i)))
      have q56 : h32 70 = h13 70 := funext (fun i => (u32 70 i (fo_no_ok (by decide) i)))
      have nb54 : NBc (h32 69) (h32 70) := by rw [q55, q56]; exact X13_1
      refine ct_183_68 hcr  g32   (show (h32 1 4) = tk_nx tB tn (h13 1 4) by omega) (show (h32 1 6) = tk_st tB tn (h13 1 4) by omega) (show (h32 1 5) = tk_kd tB tn (h13 1 4) by omega) (show tk_kd tB tn (h13 1 4) = 1 → (h32 1 9) = tk_wd (tk_lw tB tn (h13 1 4)) by omega) (show (h32 1 2) = 0 by omega) (show (h32 1 3) = -1 by omega) (show 0 ≤ (h13 1 4) by omega) (show (h13 1 4) ≤ tn by omega) (show (h13 1 4) ≤ tk_nx tB tn (h13 1 4) ∧ tk_nx tB tn (h13 1 4) ≤ tn by omega) (show tk_kd tB tn (h13 1 4) = 5 by omega) tb53 nb54 (fun h49 z52 g49 u49 (fz52 : 0 ≤ z52 ∧ z52 ≤ 1) (p49_0 : (z52 = 0 ∧ (h32 68 8) ≤ 0 ∧ (h49 1 2) = 1 ∧ (h49 1 3) = tk_st tB tn (h13 1 4)) ∨ (z52 = 0 ∧ 1 ≤ (h32 68 8) ∧ tk_kd tB tn (tk_nx tB tn (h13 1 4)) ≠ 3 ∧ (h49 1 2) = 1 ∧ (h49 1 3) = tk_st tB tn (tk_nx tB tn (h13 1 4))) ∨ (z52 = 1 ∧ 1 ≤ (h32 68 8) ∧ tk_kd tB tn (tk_nx tB tn (h13 1 4)) = 3 ∧ (h49 1 4) = tk_nx tB tn (tk_nx tB tn (h13 1 4)) ∧ (h49 68 8) = (h32 68 8) - 1 ∧ (h49 68 9) = (h32 68 9) ∧ (h49 1 2) = 0 ∧ (h49 1 3) = -1)) y49_0 => ?_)
      have F57 := F38.then (by decide +kernel) u49
      have F58 := F39.then (by decide +kernel) u49
      have e59 : h32 68 8 = h13 68 8 := (u32 68 8 rfl)
      have e60 : h32 68 9 = h13 68 9 := (u32 68 9 rfl)
      have b61 := gi_b (lo := -2147483648) (hi := 2147483647) g49 1 2 rfl
      have b62 := gi_b (lo := -2147483648) (hi := 2147483647) g49 1 3 rfl
      have b63 := gi_b (lo := 0) (hi := 800) g49 1 4 rfl
      have b64 := gi_b (lo := 0) (hi := 2) g49 68 8 rfl
      have e65 : h49 68 9 = h13 68 9 := ((u49 68 9 rfl).trans (u32 68 9 rfl))
      refine wk_i ?_
      rcases p49_0 with p49_0 | p49_0 | p49_0
      ·
        refine wi_goto (nx := 90) (r1 := 94) (r2 := 0) (r3 := 0) rfl ?_
        refine wi_istore_n (i := 2) (e := z52) (lo2 := [(2, vi z52), (0, .ref 68), (1, vi x12)]) (nx := 95) (r1 := 0) (r2 := 0) (r3 := 0) rfl rfl ?_
        refine wi_iload_n (i := 2) (e := z52) (nx := 96) (r1 := 0) (r2 := 0) (r3 := 0) rfl rfl ?_
        refine wi_if (cd := .ne) (nx := 99) (r1 := 101) (r2 := 0) (r3 := 0) rfl (by omega) (fun (q66 : z52 ≠ 0) => by exfalso; omega) (fun (q66 : ¬ (z52 ≠ 0)) => ?_)
        refine wi_iconst (n := 0) (nx := 100) (r1 := 0) (r2 := 0) (r3 := 0) rfl ?_
        refine wi_zreturn (nx := 101) (r1 := 0) (r2 := 0) (r3 := 0) rfl rfl (by omega) ?_
        have RE67 := sc_REq (fr13.symm.trans (sc_m1 (e := (1, tk_st tB tn (h13 1 4))) (by omega) (by omega) (by unfold sc_cmd sc_hd sc_num sc_mk; (repeat (first | rw [if_pos (by omega)] | rw [if_neg (by omega)])))))
        exact k h49 0 g49 F57 (by omega) (show (0 = 1 ∧ sc_ec tB tn = 0) ∨ (0 = 0 ∧ 1 ≤ sc_ec tB tn) by omega) (show (h49 1 2) = sc_ec tB tn by omega) (show (h49 1 3) = sc_ep tB tn by omega) y49_0
      ·
        have tN66 := @tk_nx_b tB tn (tk_nx tB tn (h13 1 4)) (by omega) (by omega)
        refine wi_goto (nx := 90) (r1 := 94) (r2 := 0) (r3 := 0) rfl ?_
        refine wi_istore_n (i := 2) (e := z52) (lo2 := [(2, vi z52), (0, .ref 68), (1, vi x12)]) (nx := 95) (r1 := 0) (r2 := 0) (r3 := 0) rfl rfl ?_
        refine wi_iload_n (i := 2) (e := z52) (nx := 96) (r1 := 0) (r2 := 0) (r3 := 0) rfl rfl ?_
        refine wi_if (cd := .ne) (nx := 99) (r1 := 101) (r2 := 0) (r3 := 0) rfl (by omega) (fun (q67 : z52 ≠ 0) => by exfalso; omega) (fun (q67 : ¬ (z52 ≠ 0)) => ?_)
        refine wi_iconst (n := 0) (nx := 100) (r1 := 0) (r2 := 0) (r3 := 0) rfl ?_
        refine wi_zreturn (nx := 101) (r1 := 0) (r2 := 0) (r3 := 0) rfl rfl (by omega) ?_
        have RE68 := sc_REq (fr13.symm.trans (sc_clx (by omega) (by omega) (by omega)))
        exact k h49 0 g49 F57 (by omega) (show (0 = 1 ∧ sc_ec tB tn = 0) ∨ (0 = 0 ∧ 1 ≤ sc_ec tB tn) by omega) (show (h49 1 2) = sc_ec tB tn by omega) (show (h49 1 3) = sc_ep tB tn by omega) y49_0
      ·
        have tN66 := @tk_nx_b tB tn (tk_nx tB tn (h13 1 4)) (by omega) (by omega)
        refine wi_goto (nx := 90) (r1 := 94) (r2 := 0) (r3 := 0) rfl ?_
        refine wi_istore_n (i := 2) (e := z52) (lo2 := [(2, vi z52), (0, .ref 68), (1, vi x12)]) (nx := 95) (r1 := 0) (r2 := 0) (r3 := 0) rfl rfl ?_
        refine wi_iload_n (i := 2) (e := z52) (nx := 96) (r1 := 0) (r2 := 0) (r3 := 0) rfl rfl ?_
        refine wi_if (cd := .ne) (nx := 99) (r1 := 101) (r2 := 0) (r3 := 0) rfl (by omega) (fun (q67 : z52 ≠ 0) => ?_) (fun (q67 : ¬ (z52 ≠ 0)) => by exfalso; omega)
        refine wr_iinc (i := 1) (n := 1) (v := x12) (fun e68 => [(1, vi e68), (2, vi z52), (0, .ref 68)]) (nx := 104) (r1 := 0) (r2 := 0) (r3 := 0) rfl rfl (fun _ => rfl) (fun e68 (fe68 : e68 = x12 + 1) => ?_)
        refine wi_goto (nx := 107) (r1 := 24) (r2 := 0) (r3 := 0) rfl ?_
        have e69 : h49 1 1 = h 1 1 := ((u49 1 1 rfl).trans ((u32 1 1 rfl).trans ((u13 1 1 rfl).trans ((u10 1 1 rfl).trans ((u8 1 1 rfl).trans ((u6 1 1 rfl).trans (u1 1 1 rfl)))))))
        refine wp.lo (lo := [(0, .ref 68), (1, vi e68)]) ⟨rfl, rfl, trivial⟩ rfl ?_
        exact I13 e68 h49 ⟨g49, F57, F58, (show (0 ≤ e68 ∧ e68 ≤ 801) ∧ ((h49 1 2) = 0) ∧ ((h49 1 3) = -1) ∧ ((h49 1 4) ≤ (h49 1 1)) ∧ (e68 ≤ (h49 1 4)) by omega), ⟨kf13, by omega, by rw [show h49 1 4 = tk_nx tB tn (tk_nx tB tn (h13 1 4)) by omega, show h49 68 8 = h13 68 8 - 1 by omega, show h49 68 9 = h13 68 9 by omega]; exact (sc_c1 (by omega) (by omega) (by omega)).symm.trans fr13⟩, y49_0⟩ (show ((801 : Int) + 1 - e68).toNat < ((801 : Int) + 1 - x12).toNat by omega)
  ·
    refine wi_aload_n (i := 0) (x := 68) (nx := 49) (r1 := 0) (r2 := 0) (r3 := 0) rfl rfl ?_
    refine wr_gi0 (k0 := 68) (x := h13 68 8) (nx := 52) (r1 := 8) (r2 := 8) (r3 := 0) rfl rfl (by decide) rfl ⟨rfl, rfl⟩ rfl (u32 68 8 rfl) ?_
    refine wi_if (cd := .eq) (nx := 55) (r1 := 66) (r2 := 0) (r3 := 0) rfl (by omega) (fun (q48 : (h13 68 8) = 0) => ?_) (fun (q48 : ¬ ((h13 68 8) = 0)) => ?_)
    ·
      refine wi_iconst (n := 1) (nx := 67) (r1 := 0) (r2 := 0) (r3 := 0) rfl ?_
      refine wi_goto (nx := 70) (r1 := 71) (r2 := 0) (r3 := 0) rfl ?_
      refine wi_zreturn (nx := 72) (r1 := 0) (r2 := 0) (r3 := 0) rfl rfl (by omega) ?_
      have e50 : h32 1 2 = h13 1 2 := (u32 1 2 rfl)
      have e51 : h32 1 3 = h13 1 3 := (u32 1 3 rfl)
      have RE49 := sc_REq (fr13.symm.trans (sc_e0 (by omega) (by omega)))
      have q53 : h32 69 = h13 69 := funext (fun i => (u32 69 i (fo_no_ok (by decide) i)))
      have q54 : h32 70 = h13 70 := funext (fun i => (u32 70 i (fo_no_ok (by decide) i)))
      have nb52 : NBc (h32 69) (h32 70) := by rw [q53, q54]; exact X13_1
      exact k h32 1 g32 F38 (by omega) (show (1 = 1 ∧ sc_ec tB tn = 0) ∨ (1 = 0 ∧ 1 ≤ sc_ec tB tn) by omega) (show (h32 1 2) = sc_ec tB tn by omega) (show (h32 1 3) = sc_ep tB tn by omega) nb52
    ·
      refine wi_aload_n (i := 0) (x := 68) (nx := 56) (r1 := 0) (r2 := 0) (r3 := 0) rfl rfl ?_
      refine wr_gr (k0 := 68) (x := 1) (nx := 59) (r1 := 8) (r2 := 0) (r3 := 0) rfl rfl (by decide) rfl ⟨rfl, rfl⟩ rfl ?_
      refine wi_iconst (n := 1) (nx := 60) (r1 := 0) (r2 := 0) (r3 := 0) rfl ?_
      refine wr_V (k0 := 1) (rest := []) (as := [.ref 1, vi 1]) (nx := 63) (r1 := 101) (r2 := 1) (r3 := 1) rfl rfl rfl (of_decide_eq_true rfl) rfl rfl (by decide) rfl rfl (of_decide_eq_true rfl) (of_decide_eq_true rfl) ?_
      refine ct_101_1 hcr  g32 1 (by omega)  (fun h49 z50 g49 u49 (fz50 : 0 ≤ z50 ∧ z50 ≤ 0) (p49_0 : z50 = 0) (p49_1 : (h49 1 2) = 1) (p49_2 : (h49 1 3) = (h32 1 6)) => ?_)
      have F51 := F38.then (by decide +kernel) u49
      have b52 := gi_b (lo := -2147483648) (hi := 2147483647) g49 1 2 rfl
      have b53 := gi_b (lo := -2147483648) (hi := 2147483647) g49 1 3 rfl
      refine wk_i ?_
      refine wi_if (cd := .eq) (nx := 66) (r1 := 70) (r2 := 0) (r3 := 0) rfl (by omega) (fun (q54 : z50 = 0) => ?_) (fun (q54 : ¬ (z50 = 0)) => by exfalso; omega)
      refine wi_iconst (n := 0) (nx := 71) (r1 := 0) (r2 := 0) (r3 := 0) rfl ?_
      refine wi_zreturn (nx := 72) (r1 := 0) (r2 := 0) (r3 := 0) rfl rfl (by omega) ?_
      have RE55 := sc_REq (fr13.symm.trans (sc_e1 (by omega) (by omega)))
      have q57 : h49 69 = h13 69 := funext (fun i => ((u49 69 i (fo_no_ok (by decide) i)).trans (u32 69 i (fo_no_ok (by decide) i))))
      have q58 : h49 70 = h13 70 := funext (fun i => ((u49 70 i (fo_no_ok (by decide) i)).trans (u32 70 i (fo_no_ok (by decide) i))))
      have nb56 : NBc (h49 69) (h49 70) := by rw [q57, q58]; exact X13_1
      exact k h49 0 g49 F51 (by omega) (show (0 = 1 ∧ sc_ec tB tn = 0) ∨ (0 = 0 ∧ 1 ≤ sc_ec tB tn) by omega) (show (h49 1 2) = sc_ec tB tn by omega) (show (h49 1 3) = sc_ep tB tn by omega) nb56
-- method 133: Line.passTime()I
set_option maxRecDepth 100000 in
set_option maxHeartbeats 100000000 in
theorem ct_133_18 {L : Nat} {xs : Nat → Int32} {d b c : Nat} {h : hp} {cr : Nat → Nat → Option Nat} {Q : hp_Q} (hcr : CR cr)  (g : GI h)   (pp0 : h 18 16 ≤ 2000000000) (k : ∀ (h2 : hp) (z0 : Int) , GI h2 → FR [(18, 18, some (10, 10)), (18, 18, some (16, 16))] h h2 → (-2147483647 ≤ z0 ∧ z0 ≤ 9999) → ((h2 18 16 = h 18 16 ∧ h2 18 7 = h 18 7) ∨ (h 18 16 + 1 ≤ h2 18 16 ∧ h2 18 16 ≤ h 18 16 + 1)) → Q (.inl (some (vi z0))) (hp_w h2 cr) b c) : wp (md_xa (L, xs)) d 133 (0, [(0, .ref 18)], [], hp_w h cr, b, c) Q := by
  have F0 : FR [(18, 18, some (10, 10)), (18, 18, some (16, 16))] h h := FR.refl
  have b1 := gi_b (lo := -2147483648) (hi := 2147483647) g 18 16 rfl
  refine wi_aload_n (i := 0) (x := 18) (nx := 1) (r1 := 0) (r2 := 0) (r3 := 0) rfl rfl ?_
  have b2 := gi_b (lo := -2147483648) (hi := 2147483647) g 18 10 rfl
  refine wr_gi0 (k0 := 18) (x := h 18 10) (nx := 4) (r1 := 4) (r2 := 10) (r3 := 0) rfl rfl (by decide) rfl ⟨rfl, rfl⟩ rfl rfl ?_
  refine wi_sipush (n := 9999) (nx := 7) (r1 := 0) (r2 := 0) (r3 := 0) rfl (by decide) ?_
  refine wi_icmp (cd := .lt) (nx := 10) (r1 := 12) (r2 := 0) (r3 := 0) rfl (by omega) (by omega) (fun (q3 : (h 18 10) < 9999) => ?_) (fun (q3 : ¬ ((h 18 10) < 9999)) => ?_)
  ·
    refine wi_aload_n (i := 0) (x := 18) (nx := 13) (r1 := 0) (r2 := 0) (r3 := 0) rfl rfl ?_
    refine wi_dup (nx := 14) (r1 := 0) (r2 := 0) (r3 := 0) rfl rfl ?_
    refine wr_gi0 (k0 := 18) (x := h 18 10) (nx := 17) (r1 := 4) (r2 := 10) (r3 := 0) rfl rfl (by decide) rfl ⟨rfl, rfl⟩ rfl rfl ?_
    refine wi_iconst (n := 1) (nx := 18) (r1 := 0) (r2 := 0) (r3 := 0) rfl ?_
    refine wr_add (nx := 19) (r1 := 0) (r2 := 0) (r3 := 0) rfl (fun e4 (fe4 : e4 = (h 18 10) + 1) => ?_)
    refine wr_pf0 (k0 := 18) (x := e4) (bl := -2147483648) (bh := 2147483647) (nx := 22) (r1 := 4) (r2 := 10) (r3 := 0) rfl (by decide) rfl ⟨rfl, rfl⟩ rfl rfl g rfl (by omega) (fun h5 g5 w5 u5 => ?_)
    have F6 := F0.then rfl u5
    refine wi_aload_n (i := 0) (x := 18) (nx := 23) (r1 := 0) (r2 := 0) (r3 := 0) rfl rfl ?_
    refine wi_dup (nx := 24) (r1 := 0) (r2 := 0) (r3 := 0) rfl rfl ?_
    refine wr_gi0 (k0 := 18) (x := h 18 16) (nx := 27) (r1 := 4) (r2 := 16) (r3 := 0) rfl rfl (by decide) rfl ⟨rfl, rfl⟩ rfl (u5 18 16 rfl) ?_
    refine wi_iconst (n := 1) (nx := 28) (r1 := 0) (r2 := 0) (r3 := 0) rfl ?_
    refine wr_add (nx := 29) (r1 := 0) (r2 := 0) (r3 := 0) rfl (fun e7 (fe7 : e7 = (h 18 16) + 1) => ?_)
    refine wr_pf0 (k0 := 18) (x := e7) (bl := -2147483648) (bh := 2147483647) (nx := 32) (r1 := 4) (r2 := 16) (r3 := 0) rfl (by decide) rfl ⟨rfl, rfl⟩ rfl rfl g5 rfl (by omega) (fun h8 g8 w8 u8 => ?_)
    have F9 := F6.then rfl u8
    refine wi_aload_n (i := 0) (x := 18) (nx := 33) (r1 := 0) (r2 := 0) (r3 := 0) rfl rfl ?_
    refine wr_gi0 (k0 := 18) (x := e4) (nx := 36) (r1 := 4) (r2 := 10) (r3 := 0) rfl rfl (by decide) rfl ⟨rfl, rfl⟩ rfl ((u8 18 10 rfl).trans w5) ?_
    refine wi_ireturn (nx := 37) (r1 := 0) (r2 := 0) (r3 := 0) rfl rfl ?_
    have e10 : h8 18 16 = e7 := w8
    have b11 := gi_b (lo := 0) (hi := 12) g 18 7 rfl
    have e12 : h8 18 7 = h 18 7 := ((u8 18 7 rfl).trans (u5 18 7 rfl))
    exact k h8 e4 g8 F9 (by omega) (show ((h8 18 16) = (h 18 16) ∧ (h8 18 7) = (h 18 7)) ∨ ((h 18 16) + 1 ≤ (h8 18 16) ∧ (h8 18 16) ≤ (h 18 16) + 1) by omega)
  ·
    refine wi_iconst (n := (-1)) (nx := 11) (r1 := 0) (r2 := 0) (r3 := 0) rfl ?_
    refine wi_ireturn (nx := 12) (r1 := 0) (r2 := 0) (r3 := 0) rfl rfl ?_
    have b4 := gi_b (lo := 0) (hi := 12) g 18 7 rfl
    exact k h (-1) g F0 (by omega) (show ((h 18 16) = (h 18 16) ∧ (h 18 7) = (h 18 7)) ∨ ((h 18 16) + 1 ≤ (h 18 16) ∧ (h 18 16) ≤ (h 18 16) + 1) by omega)
-- method 189: Script.waitTimes(I)Z
set_option maxRecDepth 100000 in
set_option maxHeartbeats 100000000 in
theorem ct_189_68 {L : Nat} {xs : Nat → Int32} {d b c : Nat} {h : hp} {cr : Nat → Nat → Option Nat} {Q : hp_Q} (hcr : CR cr)  (g : GI h) (a0 : Int) (q0_ : 0 ≤ a0 ∧ a0 ≤ 99) (pp0 : h 18 16 ≤ 1999990000) (k : ∀ (h2 : hp) (z0 : Int) , GI h2 → FR [(18, 18, some (10, 10)), (18, 18, some (16, 16))] h h2 → (0 ≤ z0 ∧ z0 ≤ 1) → (z0 = 0 → 1 ≤ a0 ∧ a0 ≤ 99) → ((h2 18 16 = h 18 16 ∧ h2 18 7 = h 18 7) ∨ (h 18 16 + 1 ≤ h2 18 16 ∧ h2 18 16 ≤ h 18 16 + 400)) → Q (.inl (some (vi z0))) (hp_w h2 cr) b c) : wp (md_xa (L, xs)) (d + 1) 189 (0, [(0, .ref 68), (1, vi a0)], [], hp_w h cr, b, c) Q := by
  have F0 : FR [(18, 18, some (10, 10)), (18, 18, some (16, 16))] h h := FR.refl
  have b1 := gi_b (lo := -2147483648) (hi := 2147483647) g 18 16 rfl
  refine wi_iconst (n := 0) (nx := 1) (r1 := 0) (r2 := 0) (r3 := 0) rfl ?_
  refine wi_istore_n (i := 2) (e := 0) (lo2 := [(2, vi 0), (0, .ref 68), (1, vi a0)]) (nx := 2) (r1 := 0) (r2 := 0) (r3 := 0) rfl rfl ?_
  have b4 := gi_b (lo := 0) (hi := 12) g 18 7 rfl
  refine wp.lo (lo := [(0, .ref 68), (1, vi a0), (2, vi 0)]) ⟨rfl, rfl, rfl, trivial⟩ rfl ?_
  refine wl_1 (fun x2 h3 => GI h3 ∧ FR [(18, 18, some (10, 10)), (18, 18, some (16, 16))] h h3 ∧ FR [(18, 18, some (10, 10)), (18, 18, some (16, 16))] h h3 ∧ ((0 ≤ x2 ∧ x2 ≤ 99) ∧ (x2 ≤ a0) ∧ ((h3 18 16) ≤ (h 18 16) + 1 * x2) ∧ (((h3 18 16) = (h 18 16) ∧ (h3 18 7) = (h 18 7)) ∨ (h 18 16) + 1 ≤ (h3 18 16)))) (fun x2 h3 => ((99 : Int) + 1 - x2).toNat) (fun x2 h3 => (2, [(0, .ref 68), (1, vi a0), (2, vi x2)], [], hp_w h3 cr, b, c)) ?_ 0 h ⟨g, F0, FR.refl, (show (0 ≤ 0 ∧ 0 ≤ 99) ∧ (0 ≤ a0) ∧ ((h 18 16) ≤ (h 18 16) + 1 * 0) ∧ (((h 18 16) = (h 18 16) ∧ (h 18 7) = (h 18 7)) ∨ (h 18 16) + 1 ≤ (h 18 16)) by omega)⟩
  intro x2 h3 ⟨g3, F5, u3, f3⟩ I3
  have b6 := gi_b (lo := -2147483648) (hi := 2147483647) g3 18 16 rfl
  have e7 : h3 18 7 = h 18 7 := (u3 18 7 rfl)
  refine wi_iload_n (i := 2) (e := x2) (nx := 3) (r1 := 0) (r2 := 0) (r3 := 0) rfl rfl ?_
  refine wi_iload_n (i := 1) (e := a0) (nx := 4) (r1 := 0) (r2 := 0) (r3 := 0) rfl rfl ?_
  refine wi_icmp (cd := .ge) (nx := 7) (r1 := 26) (r2 := 0) (r3 := 0) rfl (by omega) (by omega) (fun (q8 : a0 ≤ x2) => ?_) (fun (q8 : ¬ (a0 ≤ x2)) => ?_)
  ·
    refine wi_iconst (n := 1) (nx := 27) (r1 := 0) (r2 := 0) (r3 := 0) rfl ?_
    refine wi_zreturn (nx := 28) (r1 := 0) (r2 := 0) (r3 := 0) rfl rfl (by omega) ?_
    exact k h3 1 g3 F5 (by omega) (fun _ => by omega) (show ((h3 18 16) = (h 18 16) ∧ (h3 18 7) = (h 18 7)) ∨ ((h 18 16) + 1 ≤ (h3 18 16) ∧ (h3 18 16) ≤ (h 18 16) + 400) by omega)
  ·
    refine wi_aload_n (i := 0) (x := 68) (nx := 8) (r1 := 0) (r2 := 0) (r3 := 0) rfl rfl ?_
    refine wr_gr (k0 := 68) (x := 18) (nx := 11) (r1 := 8) (r2 := 1) (r3 := 0) rfl rfl (by decide) rfl ⟨rfl, rfl⟩ rfl ?_
    refine wr_V (k0 := 18) (rest := []) (as := [.ref 18]) (nx := 14) (r1 := 133) (r2 := 0) (r3 := 4) rfl rfl rfl (of_decide_eq_true rfl) rfl rfl (by decide) rfl rfl (of_decide_eq_true rfl) (of_decide_eq_true rfl) ?_
    refine ct_133_18 hcr  g3   (show (h3 18 16) ≤ 2000000000 by omega) (fun h9 z10 g9 u9 (fz10 : -2147483647 ≤ z10 ∧ z10 ≤ 9999) (p9_0 : ((h9 18 16) = (h3 18 16) ∧ (h9 18 7) = (h3 18 7)) ∨ ((h3 18 16) + 1 ≤ (h9 18 16) ∧ (h9 18 16) ≤ (h3 18 16) + 1)) => ?_)
    have F11 := F5.then (by decide +kernel) u9
    have F12 := u3.then (by decide +kernel) u9
    have b13 := gi_b (lo := -2147483648) (hi := 2147483647) g9 18 16 rfl
    have e14 : h9 18 7 = h 18 7 := ((u9 18 7 rfl).trans (u3 18 7 rfl))
    refine wk_i ?_
    refine wi_iconst (n := (-1)) (nx := 15) (r1 := 0) (r2 := 0) (r3 := 0) rfl ?_
    refine wi_icmp (cd := .ne) (nx := 18) (r1 := 20) (r2 := 0) (r3 := 0) rfl (by omega) (by omega) (fun (q15 : z10 ≠ (-1)) => ?_) (fun (q15 : ¬ (z10 ≠ (-1))) => ?_)
    ·
      refine wr_iinc (i := 2) (n := 1) (v := x2) (fun e16 => [(2, vi e16), (0, .ref 68), (1, vi a0)]) (nx := 23) (r1 := 0) (r2 := 0) (r3 := 0) rfl rfl (fun _ => rfl) (fun e16 (fe16 : e16 = x2 + 1) => ?_)
      refine wi_goto (nx := 26) (r1 := 2) (r2 := 0) (r3 := 0) rfl ?_
      refine wp.lo (lo := [(0, .ref 68), (1, vi a0), (2, vi e16)]) ⟨rfl, rfl, rfl, trivial⟩ rfl ?_
      exact I3 e16 h9 ⟨g9, F11, F12, (show (0 ≤ e16 ∧ e16 ≤ 99) ∧ (e16 ≤ a0) ∧ ((h9 18 16) ≤ (h 18 16) + 1 * e16) ∧ (((h9 18 16) = (h 18 16) ∧ (h9 18 7) = (h 18 7)) ∨ (h 18 16) + 1 ≤ (h9 18 16)) by omega)⟩ (show ((99 : Int) + 1 - e16).toNat < ((99 : Int) + 1 - x2).toNat by omega)
    ·
      refine wi_iconst (n := 0) (nx := 19) (r1 := 0) (r2 := 0) (r3 := 0) rfl ?_
      refine wi_zreturn (nx := 20) (r1 := 0) (r2 := 0) (r3 := 0) rfl rfl (by omega) ?_
      exact k h9 0 g9 F11 (by omega) (fun _ => by omega) (show ((h9 18 16) = (h 18 16) ∧ (h9 18 7) = (h 18 7)) ∨ ((h 18 16) + 1 ≤ (h9 18 16) ∧ (h9 18 16) ≤ (h 18 16) + 400) by omega)
-- method 140: Line.chosenToLeave()I
set_option maxRecDepth 100000 in
set_option maxHeartbeats 100000000 in
theorem ct_140_18 {L : Nat} {xs : Nat → Int32} {d b c : Nat} {h : hp} {cr : Nat → Nat → Option Nat} {Q : hp_Q} (hcr : CR cr)  (g : GI h)    (k : ∀ (z0 : Int), (-1 ≤ z0 ∧ z0 ≤ 3) → Q (.inl (some (vi z0))) (hp_w h cr) b c) : wp (md_xa (L, xs)) (d + 2) 140 (0, [(0, .ref 18)], [], hp_w h cr, b, c) Q := by
  have F0 : FR [] h h := FR.refl
  refine wi_iconst (n := (-1)) (nx := 1) (r1 := 0) (r2 := 0) (r3 := 0) rfl ?_
  refine wi_istore_n (i := 1) (e := -1) (lo2 := [(1, vi (-1)), (0, .ref 18)]) (nx := 2) (r1 := 0) (r2 := 0) (r3 := 0) rfl rfl ?_
  refine wi_bipush (n := 12) (nx := 4) (r1 := 0) (r2 := 0) (r3 := 0) rfl (by decide) ?_
  refine wi_istore_n (i := 2) (e := 12) (lo2 := [(2, vi 12), (1, vi (-1)), (0, .ref 18)]) (nx := 5) (r1 := 0) (r2 := 0) (r3 := 0) rfl rfl ?_
  refine wi_iconst (n := 0) (nx := 6) (r1 := 0) (r2 := 0) (r3 := 0) rfl ?_
  refine wi_istore_n (i := 3) (e := 0) (lo2 := [(3, vi 0), (2, vi 12), (1, vi (-1)), (0, .ref 18)]) (nx := 7) (r1 := 0) (r2 := 0) (r3 := 0) rfl rfl ?_
  refine wp.lo (lo := [(0, .ref 18), (1, vi (-1)), (2, vi 12), (3, vi 0)]) ⟨rfl, rfl, rfl, rfl, trivial⟩ rfl ?_
  refine wl_3 (fun x1 x2 x3 h4 => h = h4 ∧ ((-1 ≤ x1 ∧ x1 ≤ 3) ∧ (-2147483648 ≤ x2 ∧ x2 ≤ 12) ∧ (0 ≤ x3 ∧ x3 ≤ 4))) (fun x1 x2 x3 h4 => ((4 : Int) + 1 - x3).toNat) (fun x1 x2 x3 h4 => (7, [(0, .ref 18), (1, vi x1), (2, vi x2), (3, vi x3)], [], hp_w h4 cr, b, c)) ?_ (-1) 12 0 h ⟨rfl, (show (-1 ≤ (-1) ∧ (-1) ≤ 3) ∧ (-2147483648 ≤ 12 ∧ 12 ≤ 12) ∧ (0 ≤ 0 ∧ 0 ≤ 4) by omega)⟩
  intro x1 x2 x3 h4 ⟨e4, f4⟩ I4
  subst e4
  refine wi_iload_n (i := 3) (e := x3) (nx := 8) (r1 := 0) (r2 := 0) (r3 := 0) rfl rfl ?_
  refine wi_aload_n (i := 0) (x := 18) (nx := 9) (r1 := 0) (r2 := 0) (r3 := 0) rfl rfl ?_
  refine wr_gr (k0 := 18) (x := 3) (nx := 12) (r1 := 4) (r2 := 0) (r3 := 0) rfl rfl (by decide) rfl ⟨rfl, rfl⟩ rfl ?_
  have b6 := gi_b (lo := 0) (hi := 4) g 3 1 rfl
  refine wr_gi0 (k0 := 3) (x := h 3 1) (nx := 15) (r1 := 2) (r2 := 1) (r3 := 0) rfl rfl (by decide) rfl ⟨rfl, rfl⟩ rfl rfl ?_
  refine wi_icmp (cd := .ge) (nx := 18) (r1 := 70) (r2 := 0) (r3 := 0) rfl (by omega) (by omega) (fun (q7 : (h 3 1) ≤ x3) => ?_) (fun (q7 : ¬ ((h 3 1) ≤ x3)) => ?_)
  ·
    refine wi_iload_n (i := 1) (e := x1) (nx := 71) (r1 := 0) (r2 := 0) (r3 := 0) rfl rfl ?_
    refine wi_ireturn (nx := 72) (r1 := 0) (r2 := 0) (r3 := 0) rfl rfl ?_
    exact k x1 (by omega)
  ·
    refine wi_aload_n (i := 0) (x := 18) (nx := 19) (r1 := 0) (r2 := 0) (r3 := 0) rfl rfl ?_
    refine wi_iload_n (i := 3) (e := x3) (nx := 20) (r1 := 0) (r2 := 0) (r3 := 0) rfl rfl ?_
    refine wr_V (k0 := 18) (rest := []) (as := [.ref 18, vi x3]) (nx := 23) (r1 := 141) (r2 := 1) (r3 := 4) rfl rfl rfl (of_decide_eq_true rfl) rfl rfl (by decide) rfl rfl (of_decide_eq_true rfl) (of_decide_eq_true rfl) ?_
    refine ct_141_18 hcr  g x3 (by omega)  (fun z9  (fz9 : 0 ≤ z9 ∧ z9 ≤ 1) m8_0 => ?_)
    refine wk_i ?_
    refine wi_if (cd := .eq) (nx := 26) (r1 := 64) (r2 := 0) (r3 := 0) rfl (by omega) (fun (q10 : z9 = 0) => ?_) (fun (q10 : ¬ (z9 = 0)) => ?_)
    ·
      refine wr_iinc (i := 3) (n := 1) (v := x3) (fun e11 => [(3, vi e11), (0, .ref 18), (1, vi x1), (2, vi x2)]) (nx := 67) (r1 := 0) (r2 := 0) (r3 := 0) rfl rfl (fun _ => rfl) (fun e11 (fe11 : e11 = x3 + 1) => ?_)
      refine wi_goto (nx := 70) (r1 := 7) (r2 := 0) (r3 := 0) rfl ?_
      refine wp.lo (lo := [(0, .ref 18), (1, vi x1), (2, vi x2), (3, vi e11)]) ⟨rfl, rfl, rfl, rfl, trivial⟩ rfl ?_
      exact I4 x1 x2 e11 h ⟨rfl, (show (-1 ≤ x1 ∧ x1 ≤ 3) ∧ (-2147483648 ≤ x2 ∧ x2 ≤ 12) ∧ (0 ≤ e11 ∧ e11 ≤ 4) by omega)⟩ (show ((4 : Int) + 1 - e11).toNat < ((4 : Int) + 1 - x3).toNat by omega)
    ·
      have f11 : 0 ≤ x3 ∧ x3 ≤ 3 := m8_0 (by omega)
      refine wi_aload_n (i := 0) (x := 18) (nx := 27) (r1 := 0) (r2 := 0) (r3 := 0) rfl rfl ?_
      refine wr_gr (k0 := 18) (x := 21) (nx := 30) (r1 := 4) (r2 := 3) (r3 := 0) rfl rfl (by decide) rfl ⟨rfl, rfl⟩ rfl ?_
      refine wi_iload_n (i := 3) (e := x3) (nx := 31) (r1 := 0) (r2 := 0) (r3 := 0) rfl rfl ?_
      obtain ⟨i12, ei12⟩ : ∃ q : Nat, x3 = (q : Int) := ⟨(x3).toNat, by omega⟩
      refine wr_aa (k0 := 21) (a := x3) (f := i12) (x := 21 + 8 + 2 * i12) (nx := 32) (r1 := 0) (r2 := 0) (r3 := 0) rfl (by decide) rfl (Or.inl rfl) (by omega) (by omega) (by decide) (hcr.1 21 (by decide) i12 (by omega)) ?_
      obtain ⟨k13, kk13, mk13⟩ : ∃ q, Rw q ∧ q = 21 + 8 + 2 * i12 := ⟨_, rw_lane 21 (by decide) i12 (by omega), rfl⟩
      rw [← mk13]
      refine wi_iconst (n := 0) (nx := 33) (r1 := 0) (r2 := 0) (r3 := 0) rfl ?_
      refine wr_V (k0 := k13) (rest := []) (as := [.ref k13, vi 0]) (nx := 36) (r1 := 154) (r2 := 1) (r3 := 5) rfl rfl rfl (of_decide_eq_true rfl) rfl rfl kk13.k kk13.1 rfl (of_decide_eq_true rfl) (of_decide_eq_true rfl) ?_
      refine ct_154_R hcr kk13 g 0 (by omega)  (fun z15  (fz15 : -2147483648 ≤ z15 ∧ z15 ≤ 2147483647) => ?_)
      refine wk_i ?_
      refine wi_istore (i := 4) (e := z15) (lo2 := [(4, vi z15), (0, .ref 18), (1, vi x1), (2, vi x2), (3, vi x3)]) (nx := 38) (r1 := 0) (r2 := 0) (r3 := 0) rfl rfl ?_
      refine wi_aload_n (i := 0) (x := 18) (nx := 39) (r1 := 0) (r2 := 0) (r3 := 0) rfl rfl ?_
      refine wi_iload (i := 4) (e := z15) (nx := 41) (r1 := 0) (r2 := 0) (r3 := 0) rfl rfl ?_
      refine wr_V (k0 := 18) (rest := []) (as := [.ref 18, vi z15]) (nx := 44) (r1 := 131) (r2 := 1) (r3 := 4) rfl rfl rfl (of_decide_eq_true rfl) rfl rfl (by decide) rfl rfl (of_decide_eq_true rfl) (of_decide_eq_true rfl) ?_
      refine ct_131_18 hcr  g z15 (by omega)  (fun z17  (fz17 : -2147483648 ≤ z17 ∧ z17 ≤ 2147483647) => ?_)
      refine wk_i ?_
      refine wi_aload_n (i := 0) (x := 18) (nx := 45) (r1 := 0) (r2 := 0) (r3 := 0) rfl rfl ?_
      have b18 := gi_b (lo := -2147483648) (hi := 2147483647) g 18 8 rfl
      refine wr_gi0 (k0 := 18) (x := h 18 8) (nx := 48) (r1 := 4) (r2 := 8) (r3 := 0) rfl rfl (by decide) rfl ⟨rfl, rfl⟩ rfl rfl ?_
      refine wi_icmp (cd := .ne) (nx := 51) (r1 := 53) (r2 := 0) (r3 := 0) rfl (by omega) (by omega) (fun (q19 : z17 ≠ (h 18 8)) => ?_) (fun (q19 : ¬ (z17 ≠ (h 18 8))) => ?_)
      ·
        refine wi_iload (i := 4) (e := z15) (nx := 55) (r1 := 0) (r2 := 0) (r3 := 0) rfl rfl ?_
        refine wi_iload_n (i := 2) (e := x2) (nx := 56) (r1 := 0) (r2 := 0) (r3 := 0) rfl rfl ?_
        refine wi_icmp (cd := .ge) (nx := 59) (r1 := 64) (r2 := 0) (r3 := 0) rfl (by omega) (by omega) (fun (q20 : x2 ≤ z15) => ?_) (fun (q20 : ¬ (x2 ≤ z15)) => ?_)
        ·
          refine wr_iinc (i := 3) (n := 1) (v := x3) (fun e21 => [(3, vi e21), (4, vi z15), (0, .ref 18), (1, vi x1), (2, vi x2)]) (nx := 67) (r1 := 0) (r2 := 0) (r3 := 0) rfl rfl (fun _ => rfl) (fun e21 (fe21 : e21 = x3 + 1) => ?_)
          refine wi_goto (nx := 70) (r1 := 7) (r2 := 0) (r3 := 0) rfl ?_
          refine wp.lo (lo := [(0, .ref 18), (1, vi x1), (2, vi x2), (3, vi e21)]) ⟨rfl, rfl, rfl, rfl, trivial⟩ rfl ?_
          exact I4 x1 x2 e21 h ⟨rfl, (show (-1 ≤ x1 ∧ x1 ≤ 3) ∧ (-2147483648 ≤ x2 ∧ x2 ≤ 12) ∧ (0 ≤ e21 ∧ e21 ≤ 4) by omega)⟩ (show ((4 : Int) + 1 - e21).toNat < ((4 : Int) + 1 - x3).toNat by omega)
        ·
          refine wi_iload (i := 4) (e := z15) (nx := 61) (r1 := 0) (r2 := 0) (r3 := 0) rfl rfl ?_
          refine wi_istore_n (i := 2) (e := z15) (lo2 := [(2, vi z15), (4, vi z15), (0, .ref 18), (1, vi x1), (3, vi x3)]) (nx := 62) (r1 := 0) (r2 := 0) (r3 := 0) rfl rfl ?_
          refine wi_iload_n (i := 3) (e := x3) (nx := 63) (r1 := 0) (r2 := 0) (r3 := 0) rfl rfl ?_
          refine wi_istore_n (i := 1) (e := x3) (lo2 := [(1, vi x3), (2, vi z15), (4, vi z15), (0, .ref 18), (3, vi x3)]) (nx := 64) (r1 := 0) (r2 := 0) (r3 := 0) rfl rfl ?_
          refine wr_iinc (i := 3) (n := 1) (v := x3) (fun e21 => [(3, vi e21), (1, vi x3), (2, vi z15), (4, vi z15), (0, .ref 18)]) (nx := 67) (r1 := 0) (r2 := 0) (r3 := 0) rfl rfl (fun _ => rfl) (fun e21 (fe21 : e21 = x3 + 1) => ?_)
          refine wi_goto (nx := 70) (r1 := 7) (r2 := 0) (r3 := 0) rfl ?_
          refine wp.lo (lo := [(0, .ref 18), (1, vi x3), (2, vi z15), (3, vi e21)]) ⟨rfl, rfl, rfl, rfl, trivial⟩ rfl ?_
          exact I4 x3 z15 e21 h ⟨rfl, (show (-1 ≤ x3 ∧ x3 ≤ 3) ∧ (-2147483648 ≤ z15 ∧ z15 ≤ 12) ∧ (0 ≤ e21 ∧ e21 ≤ 4) by omega)⟩ (show ((4 : Int) + 1 - e21).toNat < ((4 : Int) + 1 - x3).toNat by omega)
      ·
        refine wi_iload_n (i := 3) (e := x3) (nx := 52) (r1 := 0) (r2 := 0) (r3 := 0) rfl rfl ?_
        refine wi_ireturn (nx := 53) (r1 := 0) (r2 := 0) (r3 := 0) rfl rfl ?_
        exact k x3 (by omega)
