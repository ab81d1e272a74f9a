-- method 134: Line.stepByRule()I
set_option maxRecDepth 100000 in
set_option maxHeartbeats 100000000 in
theorem ct_134_18 {L : Nat} {xs : Nat → Int32} {d b c : Nat} {h : hp} {cr : Nat → Nat → Option Nat} {Q : hp_Q} (hcr : CR cr)  (g : GI h)   (pp0 : h 18 16 ≤ 1999999990) (k : ∀ (h2 : hp) (z0 : Int) , GI h2 → FR [(20, 20, none), (22, 23, none), (24, 25, none), (26, 27, none), (28, 28, none), (29, 36, none), (18, 18, some (7, 13)), (18, 18, some (15, 16))] h h2 → (-1 ≤ z0 ∧ z0 ≤ 3) → ((h2 18 16 = h 18 16 ∧ h2 18 7 = h 18 7) ∨ (h 18 16 + 1 ≤ h2 18 16 ∧ h2 18 16 ≤ h 18 16 + 4)) → Q (.inl (some (vi z0))) (hp_w h2 cr) b c) : wp (md_xa (L, xs)) (d + 3) 134 (0, [(0, .ref 18)], [], hp_w h cr, b, c) Q := by
  have F0 : FR [(20, 20, none), (22, 23, none), (24, 25, none), (26, 27, none), (28, 28, none), (29, 36, none), (18, 18, some (7, 13)), (18, 18, some (15, 16))] h h := FR.refl
  have b1 := gi_b (lo := -2147483648) (hi := 2147483647) g 18 16 rfl
  refine wi_aload_n (i := 0) (x := 18) (nx := 1) (r1 := 0) (r2 := 0) (r3 := 0) rfl rfl ?_
  refine wr_V (k0 := 18) (rest := []) (as := [.ref 18]) (nx := 4) (r1 := 135) (r2 := 0) (r3 := 4) rfl rfl rfl (of_decide_eq_true rfl) rfl rfl (by decide) rfl rfl (of_decide_eq_true rfl) (of_decide_eq_true rfl) ?_
  refine ct_135_18 hcr  g    (fun z3  (fz3 : 0 ≤ z3 ∧ z3 ≤ 1) => ?_)
  refine wk_i ?_
  refine wi_if (cd := .eq) (nx := 7) (r1 := 29) (r2 := 0) (r3 := 0) rfl (by omega) (fun (q4 : z3 = 0) => ?_) (fun (q4 : ¬ (z3 = 0)) => ?_)
  ·
    refine wi_aload_n (i := 0) (x := 18) (nx := 30) (r1 := 0) (r2 := 0) (r3 := 0) rfl rfl ?_
    have b5 := gi_b (lo := 0) (hi := 12) g 18 7 rfl
    refine wr_gi0 (k0 := 18) (x := h 18 7) (nx := 33) (r1 := 4) (r2 := 7) (r3 := 0) rfl rfl (by decide) rfl ⟨rfl, rfl⟩ rfl rfl ?_
    refine wi_aload_n (i := 0) (x := 18) (nx := 34) (r1 := 0) (r2 := 0) (r3 := 0) rfl rfl ?_
    refine wr_gr (k0 := 18) (x := 3) (nx := 37) (r1 := 4) (r2 := 0) (r3 := 0) rfl rfl (by decide) rfl ⟨rfl, rfl⟩ rfl ?_
    have b6 := gi_b (lo := 0) (hi := 12) g 3 2 rfl
    refine wr_gi0 (k0 := 3) (x := h 3 2) (nx := 40) (r1 := 2) (r2 := 2) (r3 := 0) rfl rfl (by decide) rfl ⟨rfl, rfl⟩ rfl rfl ?_
    refine wi_icmp (cd := .ge) (nx := 43) (r1 := 61) (r2 := 0) (r3 := 0) rfl (by omega) (by omega) (fun (q7 : (h 3 2) ≤ (h 18 7)) => ?_) (fun (q7 : ¬ ((h 3 2) ≤ (h 18 7))) => ?_)
    ·
      refine wi_aload_n (i := 0) (x := 18) (nx := 62) (r1 := 0) (r2 := 0) (r3 := 0) rfl rfl ?_
      refine wi_aload_n (i := 0) (x := 18) (nx := 63) (r1 := 0) (r2 := 0) (r3 := 0) rfl rfl ?_
      refine wr_V (k0 := 18) (rest := [.ref 18]) (as := [.ref 18]) (nx := 66) (r1 := 140) (r2 := 0) (r3 := 4) rfl rfl rfl (of_decide_eq_true rfl) rfl rfl (by decide) rfl rfl (of_decide_eq_true rfl) (of_decide_eq_true rfl) ?_
      refine ct_140_18 hcr  g    (fun z9  (fz9 : -1 ≤ z9 ∧ z9 ≤ 3) => ?_)
      refine wk_i ?_
      refine wr_V (k0 := 18) (rest := []) (as := [.ref 18, vi z9]) (nx := 69) (r1 := 142) (r2 := 1) (r3 := 4) rfl rfl rfl (of_decide_eq_true rfl) rfl rfl (by decide) rfl rfl (of_decide_eq_true rfl) (of_decide_eq_true rfl) ?_
      refine ct_142_18 hcr  g z9 (by omega) (show (h 18 16) ≤ 2000000000 by omega) (fun h10 z11 g10 u10 (fz11 : -1 ≤ z11 ∧ z11 ≤ 11) (p10_0 : ((h10 18 16) = (h 18 16) ∧ (h10 18 7) = (h 18 7)) ∨ ((h 18 16) + 1 ≤ (h10 18 16) ∧ (h10 18 16) ≤ (h 18 16) + 1)) => ?_)
      have F12 := F0.then (by decide +kernel) u10
      have b13 := gi_b (lo := -2147483648) (hi := 2147483647) g10 18 16 rfl
      have e14 : h10 18 7 = h 18 7 := (u10 18 7 rfl)
      refine wk_i ?_
      refine wi_iconst (n := (-1)) (nx := 70) (r1 := 0) (r2 := 0) (r3 := 0) rfl ?_
      refine wi_icmp (cd := .eq) (nx := 73) (r1 := 75) (r2 := 0) (r3 := 0) rfl (by omega) (by omega) (fun (q15 : z11 = (-1)) => ?_) (fun (q15 : ¬ (z11 = (-1))) => ?_)
      ·
        refine wi_aload_n (i := 0) (x := 18) (nx := 76) (r1 := 0) (r2 := 0) (r3 := 0) rfl rfl ?_
        refine wr_gr (k0 := 18) (x := 22) (nx := 79) (r1 := 4) (r2 := 4) (r3 := 0) rfl rfl (by decide) rfl ⟨rfl, rfl⟩ rfl ?_
        have b16 := gi_b (lo := 0) (hi := 12) g10 22 1 rfl
        refine wr_gi0 (k0 := 22) (x := h10 22 1) (nx := 82) (r1 := 5) (r2 := 1) (r3 := 0) rfl rfl (by decide) rfl ⟨rfl, rfl⟩ rfl rfl ?_
        refine wi_if (cd := .le) (nx := 85) (r1 := 97) (r2 := 0) (r3 := 0) rfl (by omega) (fun (q17 : (h10 22 1) ≤ 0) => ?_) (fun (q17 : ¬ ((h10 22 1) ≤ 0)) => ?_)
        ·
          refine wi_iconst (n := (-1)) (nx := 98) (r1 := 0) (r2 := 0) (r3 := 0) rfl ?_
          refine wi_ireturn (nx := 99) (r1 := 0) (r2 := 0) (r3 := 0) rfl rfl ?_
          exact k h10 (-1) g10 F12 (by omega) (show ((h10 18 16) = (h 18 16) ∧ (h10 18 7) = (h 18 7)) ∨ ((h 18 16) + 1 ≤ (h10 18 16) ∧ (h10 18 16) ≤ (h 18 16) + 4) by omega)
        ·
          refine wi_aload_n (i := 0) (x := 18) (nx := 86) (r1 := 0) (r2 := 0) (r3 := 0) rfl rfl ?_
          refine wr_V (k0 := 18) (rest := []) (as := [.ref 18]) (nx := 89) (r1 := 133) (r2 := 0) (r3 := 4) rfl rfl rfl (of_decide_eq_true rfl) rfl rfl (by decide) rfl rfl (of_decide_eq_true rfl) (of_decide_eq_true rfl) ?_
          refine ct_133_18 hcr  g10   (show (h10 18 16) ≤ 2000000000 by omega) (fun h18 z19 g18 u18 (fz19 : -2147483647 ≤ z19 ∧ z19 ≤ 9999) (p18_0 : ((h18 18 16) = (h10 18 16) ∧ (h18 18 7) = (h10 18 7)) ∨ ((h10 18 16) + 1 ≤ (h18 18 16) ∧ (h18 18 16) ≤ (h10 18 16) + 1)) => ?_)
          have F20 := F12.then (by decide +kernel) u18
          have b21 := gi_b (lo := -2147483648) (hi := 2147483647) g18 18 16 rfl
          have e22 : h18 18 7 = h 18 7 := ((u18 18 7 rfl).trans (u10 18 7 rfl))
          refine wk_i ?_
          refine wi_iconst (n := (-1)) (nx := 90) (r1 := 0) (r2 := 0) (r3 := 0) rfl ?_
          refine wi_icmp (cd := .eq) (nx := 93) (r1 := 97) (r2 := 0) (r3 := 0) rfl (by omega) (by omega) (fun (q23 : z19 = (-1)) => ?_) (fun (q23 : ¬ (z19 = (-1))) => ?_)
          ·
            refine wi_iconst (n := (-1)) (nx := 98) (r1 := 0) (r2 := 0) (r3 := 0) rfl ?_
            refine wi_ireturn (nx := 99) (r1 := 0) (r2 := 0) (r3 := 0) rfl rfl ?_
            exact k h18 (-1) g18 F20 (by omega) (show ((h18 18 16) = (h 18 16) ∧ (h18 18 7) = (h 18 7)) ∨ ((h 18 16) + 1 ≤ (h18 18 16) ∧ (h18 18 16) ≤ (h 18 16) + 4) by omega)
          ·
            refine wi_iconst (n := 3) (nx := 94) (r1 := 0) (r2 := 0) (r3 := 0) rfl ?_
            refine wi_goto (nx := 97) (r1 := 98) (r2 := 0) (r3 := 0) rfl ?_
            refine wi_ireturn (nx := 99) (r1 := 0) (r2 := 0) (r3 := 0) rfl rfl ?_
            exact k h18 3 g18 F20 (by omega) (show ((h18 18 16) = (h 18 16) ∧ (h18 18 7) = (h 18 7)) ∨ ((h 18 16) + 1 ≤ (h18 18 16) ∧ (h18 18 16) ≤ (h 18 16) + 4) by omega)
      ·
        refine wi_iconst (n := 2) (nx := 74) (r1 := 0) (r2 := 0) (r3 := 0) rfl ?_
        refine wi_ireturn (nx := 75) (r1 := 0) (r2 := 0) (r3 := 0) rfl rfl ?_
        exact k h10 2 g10 F12 (by omega) (show ((h10 18 16) = (h 18 16) ∧ (h10 18 7) = (h 18 7)) ∨ ((h 18 16) + 1 ≤ (h10 18 16) ∧ (h10 18 16) ≤ (h 18 16) + 4) by omega)
    ·
      refine wi_aload_n (i := 0) (x := 18) (nx := 44) (r1 := 0) (r2 := 0) (r3 := 0) rfl rfl ?_
      refine wi_aload_n (i := 0) (x := 18) (nx := 45) (r1 := 0) (r2 := 0) (r3 := 0) rfl rfl ?_
      refine wi_aload_n (i := 0) (x := 18) (nx := 46) (r1 := 0) (r2 := 0) (r3 := 0) rfl rfl ?_
      refine wr_gi0 (k0 := 18) (x := h 18 7) (nx := 49) (r1 := 4) (r2 := 7) (r3 := 0) rfl rfl (by decide) rfl ⟨rfl, rfl⟩ rfl rfl ?_
      refine wr_V (k0 := 18) (rest := [.ref 18]) (as := [.ref 18, vi (h 18 7)]) (nx := 52) (r1 := 136) (r2 := 1) (r3 := 4) rfl rfl rfl (of_decide_eq_true rfl) rfl rfl (by decide) rfl rfl (of_decide_eq_true rfl) (of_decide_eq_true rfl) ?_
      refine ct_136_18 hcr  g (h 18 7) (by omega)  (fun z9  (fz9 : -1 ≤ z9 ∧ z9 ≤ 3) => ?_)
      refine wk_i ?_
      refine wr_V (k0 := 18) (rest := []) (as := [.ref 18, vi z9]) (nx := 55) (r1 := 139) (r2 := 1) (r3 := 4) rfl rfl rfl (of_decide_eq_true rfl) rfl rfl (by decide) rfl rfl (of_decide_eq_true rfl) (of_decide_eq_true rfl) ?_
      refine ct_139_18 hcr  g z9 (by omega) (show (h 18 16) ≤ 2000000000 by omega) (fun h10 z11 g10 u10 (fz11 : -1 ≤ z11 ∧ z11 ≤ 11) (p10_0 : ((h10 18 16) = (h 18 16) ∧ (h10 18 7) = (h 18 7)) ∨ ((h 18 16) + 1 ≤ (h10 18 16) ∧ (h10 18 16) ≤ (h 18 16) + 1)) => ?_)
      have F12 := F0.then (by decide +kernel) u10
      have b13 := gi_b (lo := -2147483648) (hi := 2147483647) g10 18 16 rfl
      have b14 := gi_b (lo := 0) (hi := 12) g10 18 7 rfl
      refine wk_i ?_
      refine wi_iconst (n := (-1)) (nx := 56) (r1 := 0) (r2 := 0) (r3 := 0) rfl ?_
      refine wi_icmp (cd := .eq) (nx := 59) (r1 := 61) (r2 := 0) (r3 := 0) rfl (by omega) (by omega) (fun (q15 : z11 = (-1)) => ?_) (fun (q15 : ¬ (z11 = (-1))) => ?_)
      ·
        refine wi_aload_n (i := 0) (x := 18) (nx := 62) (r1 := 0) (r2 := 0) (r3 := 0) rfl rfl ?_
        refine wi_aload_n (i := 0) (x := 18) (nx := 63) (r1 := 0) (r2 := 0) (r3 := 0) rfl rfl ?_
        refine wr_V (k0 := 18) (rest := [.ref 18]) (as := [.ref 18]) (nx := 66) (r1 := 140) (r2 := 0) (r3 := 4) rfl rfl rfl (of_decide_eq_true rfl) rfl rfl (by decide) rfl rfl (of_decide_eq_true rfl) (of_decide_eq_true rfl) ?_
        refine ct_140_18 hcr  g10    (fun z17  (fz17 : -1 ≤ z17 ∧ z17 ≤ 3) => ?_)
        refine wk_i ?_
        refine wr_V (k0 := 18) (rest := []) (as := [.ref 18, vi z17]) (nx := 69) (r1 := 142) (r2 := 1) (r3 := 4) rfl rfl rfl (of_decide_eq_true rfl) rfl rfl (by decide) rfl rfl (of_decide_eq_true rfl) (of_decide_eq_true rfl) ?_
        refine ct_142_18 hcr  g10 z17 (by omega) (show (h10 18 16) ≤ 2000000000 by omega) (fun h18 z19 g18 u18 (fz19 : -1 ≤ z19 ∧ z19 ≤ 11) (p18_0 : ((h18 18 16) = (h10 18 16) ∧ (h18 18 7) = (h10 18 7)) ∨ ((h10 18 16) + 1 ≤ (h18 18 16) ∧ (h18 18 16) ≤ (h10 18 16) + 1)) => ?_)
        have F20 := F12.then (by decide +kernel) u18
        have b21 := gi_b (lo := -2147483648) (hi := 2147483647) g18 18 16 rfl
        have e22 : h18 18 7 = h10 18 7 := (u18 18 7 rfl)
        refine wk_i ?_
        refine wi_iconst (n := (-1)) (nx := 70) (r1 := 0) (r2 := 0) (r3 := 0) rfl ?_
        refine wi_icmp (cd := .eq) (nx := 73) (r1 := 75) (r2 := 0) (r3 := 0) rfl (by omega) (by omega) (fun (q23 : z19 = (-1)) => ?_) (fun (q23 : ¬ (z19 = (-1))) => ?_)
        ·
          refine wi_aload_n (i := 0) (x := 18) (nx := 76) (r1 := 0) (r2 := 0) (r3 := 0) rfl rfl ?_
          refine wr_gr (k0 := 18) (x := 22) (nx := 79) (r1 := 4) (r2 := 4) (r3 := 0) rfl rfl (by decide) rfl ⟨rfl, rfl⟩ rfl ?_
          have b24 := gi_b (lo := 0) (hi := 12) g18 22 1 rfl
          refine wr_gi0 (k0 := 22) (x := h18 22 1) (nx := 82) (r1 := 5) (r2 := 1) (r3 := 0) rfl rfl (by decide) rfl ⟨rfl, rfl⟩ rfl rfl ?_
          refine wi_if (cd := .le) (nx := 85) (r1 := 97) (r2 := 0) (r3 := 0) rfl (by omega) (fun (q25 : (h18 22 1) ≤ 0) => ?_) (fun (q25 : ¬ ((h18 22 1) ≤ 0)) => ?_)
          ·
            refine wi_iconst (n := (-1)) (nx := 98) (r1 := 0) (r2 := 0) (r3 := 0) rfl ?_
            refine wi_ireturn (nx := 99) (r1 := 0) (r2 := 0) (r3 := 0) rfl rfl ?_
            exact k h18 (-1) g18 F20 (by omega) (show ((h18 18 16) = (h 18 16) ∧ (h18 18 7) = (h 18 7)) ∨ ((h 18 16) + 1 ≤ (h18 18 16) ∧ (h18 18 16) ≤ (h 18 16) + 4) by omega)
          ·
            refine wi_aload_n (i := 0) (x := 18) (nx := 86) (r1 := 0) (r2 := 0) (r3 := 0) rfl rfl ?_
            refine wr_V (k0 := 18) (rest := []) (as := [.ref 18]) (nx := 89) (r1 := 133) (r2 := 0) (r3 := 4) rfl rfl rfl (of_decide_eq_true rfl) rfl rfl (by decide) rfl rfl (of_decide_eq_true rfl) (of_decide_eq_true rfl) ?_
            refine ct_133_18 hcr  g18   (show (h18 18 16) ≤ 2000000000 by omega) (fun h26 z27 g26 u26 (fz27 : -2147483647 ≤ z27 ∧ z27 ≤ 9999) (p26_0 : ((h26 18 16) = (h18 18 16) ∧ (h26 18 7) = (h18 18 7)) ∨ ((h18 18 16) + 1 ≤ (h26 18 16) ∧ (h26 18 16) ≤ (h18 18 16) + 1)) => ?_)
            have F28 := F20.then (by decide +kernel) u26
            have b29 := gi_b (lo := -2147483648) (hi := 2147483647) g26 18 16 rfl
            have e30 : h26 18 7 = h10 18 7 := ((u26 18 7 rfl).trans (u18 18 7 rfl))
            refine wk_i ?_
            refine wi_iconst (n := (-1)) (nx := 90) (r1 := 0) (r2 := 0) (r3 := 0) rfl ?_
            refine wi_icmp (cd := .eq) (nx := 93) (r1 := 97) (r2 := 0) (r3 := 0) rfl (by omega) (by omega) (fun (q31 : z27 = (-1)) => ?_) (fun (q31 : ¬ (z27 = (-1))) => ?_)
            ·
              refine wi_iconst (n := (-1)) (nx := 98) (r1 := 0) (r2 := 0) (r3 := 0) rfl ?_
              refine wi_ireturn (nx := 99) (r1 := 0) (r2 := 0) (r3 := 0) rfl rfl ?_
              exact k h26 (-1) g26 F28 (by omega) (show ((h26 18 16) = (h 18 16) ∧ (h26 18 7) = (h 18 7)) ∨ ((h 18 16) + 1 ≤ (h26 18 16) ∧ (h26 18 16) ≤ (h 18 16) + 4) by omega)
            ·
              refine wi_iconst (n := 3) (nx := 94) (r1 := 0) (r2 := 0) (r3 := 0) rfl ?_
              refine wi_goto (nx := 97) (r1 := 98) (r2 := 0) (r3 := 0) rfl ?_
              refine wi_ireturn (nx := 99) (r1 := 0) (r2 := 0) (r3 := 0) rfl rfl ?_
              exact k h26 3 g26 F28 (by omega) (show ((h26 18 16) = (h 18 16) ∧ (h26 18 7) = (h 18 7)) ∨ ((h 18 16) + 1 ≤ (h26 18 16) ∧ (h26 18 16) ≤ (h 18 16) + 4) by omega)
        ·
          refine wi_iconst (n := 2) (nx := 74) (r1 := 0) (r2 := 0) (r3 := 0) rfl ?_
          refine wi_ireturn (nx := 75) (r1 := 0) (r2 := 0) (r3 := 0) rfl rfl ?_
          exact k h18 2 g18 F20 (by omega) (show ((h18 18 16) = (h 18 16) ∧ (h18 18 7) = (h 18 7)) ∨ ((h 18 16) + 1 ≤ (h18 18 16) ∧ (h18 18 16) ≤ (h 18 16) + 4) by omega)
      ·
        refine wi_iconst (n := 1) (nx := 60) (r1 := 0) (r2 := 0) (r3 := 0) rfl ?_
        refine wi_ireturn (nx := 61) (r1 := 0) (r2 := 0) (r3 := 0) rfl rfl ?_
        exact k h10 1 g10 F12 (by omega) (show ((h10 18 16) = (h 18 16) ∧ (h10 18 7) = (h 18 7)) ∨ ((h 18 16) + 1 ≤ (h10 18 16) ∧ (h10 18 16) ≤ (h 18 16) + 4) by omega)
  ·
    refine wi_aload_n (i := 0) (x := 18) (nx := 8) (r1 := 0) (r2 := 0) (r3 := 0) rfl rfl ?_
    refine wi_aload_n (i := 0) (x := 18) (nx := 9) (r1 := 0) (r2 := 0) (r3 := 0) rfl rfl ?_
    refine wi_aload_n (i := 0) (x := 18) (nx := 10) (r1 := 0) (r2 := 0) (r3 := 0) rfl rfl ?_
    refine wr_gr (k0 := 18) (x := 22) (nx := 13) (r1 := 4) (r2 := 4) (r3 := 0) rfl rfl (by decide) rfl ⟨rfl, rfl⟩ rfl ?_
    refine wi_iconst (n := 0) (nx := 14) (r1 := 0) (r2 := 0) (r3 := 0) rfl ?_
    refine wr_V (k0 := 22) (rest := [.ref 18, .ref 18]) (as := [.ref 22, vi 0]) (nx := 17) (r1 := 154) (r2 := 1) (r3 := 5) rfl rfl rfl (of_decide_eq_true rfl) rfl rfl (by decide) rfl rfl (of_decide_eq_true rfl) (of_decide_eq_true rfl) ?_
    refine ct_154_R hcr rw_22 g 0 (by omega)  (fun z6  (fz6 : -2147483648 ≤ z6 ∧ z6 ≤ 2147483647) => ?_)
    refine wk_i ?_
    refine wr_V (k0 := 18) (rest := [.ref 18]) (as := [.ref 18, vi z6]) (nx := 20) (r1 := 136) (r2 := 1) (r3 := 4) rfl rfl rfl (of_decide_eq_true rfl) rfl rfl (by decide) rfl rfl (of_decide_eq_true rfl) (of_decide_eq_true rfl) ?_
    refine ct_136_18 hcr  g z6 (by omega)  (fun z8  (fz8 : -1 ≤ z8 ∧ z8 ≤ 3) => ?_)
    refine wk_i ?_
    refine wr_V (k0 := 18) (rest := []) (as := [.ref 18, vi z8]) (nx := 23) (r1 := 138) (r2 := 1) (r3 := 4) rfl rfl rfl (of_decide_eq_true rfl) rfl rfl (by decide) rfl rfl (of_decide_eq_true rfl) (of_decide_eq_true rfl) ?_
    refine ct_138_18 hcr  g z8 (by omega) (show (h 18 16) ≤ 2000000000 by omega) (fun h9 z10 g9 u9 (fz10 : -2147483648 ≤ z10 ∧ z10 ≤ 2147483647) (p9_0 : ((h9 18 16) = (h 18 16) ∧ (h9 18 7) = (h 18 7)) ∨ ((h 18 16) + 1 ≤ (h9 18 16) ∧ (h9 18 16) ≤ (h 18 16) + 1)) => ?_)
    have F11 := F0.then (by decide +kernel) u9
    have b12 := gi_b (lo := 0) (hi := 12) g 18 7 rfl
    have b13 := gi_b (lo := -2147483648) (hi := 2147483647) g9 18 16 rfl
    have e14 : h9 18 7 = h 18 7 := (u9 18 7 rfl)
    refine wk_i ?_
    refine wi_iconst (n := (-1)) (nx := 24) (r1 := 0) (r2 := 0) (r3 := 0) rfl ?_
    refine wi_icmp (cd := .eq) (nx := 27) (r1 := 29) (r2 := 0) (r3 := 0) rfl (by omega) (by omega) (fun (q15 : z10 = (-1)) => ?_) (fun (q15 : ¬ (z10 = (-1))) => ?_)
    ·
      refine wi_aload_n (i := 0) (x := 18) (nx := 30) (r1 := 0) (r2 := 0) (r3 := 0) rfl rfl ?_
      refine wr_gi0 (k0 := 18) (x := h 18 7) (nx := 33) (r1 := 4) (r2 := 7) (r3 := 0) rfl rfl (by decide) rfl ⟨rfl, rfl⟩ rfl (u9 18 7 rfl) ?_
      refine wi_aload_n (i := 0) (x := 18) (nx := 34) (r1 := 0) (r2 := 0) (r3 := 0) rfl rfl ?_
      refine wr_gr (k0 := 18) (x := 3) (nx := 37) (r1 := 4) (r2 := 0) (r3 := 0) rfl rfl (by decide) rfl ⟨rfl, rfl⟩ rfl ?_
      have b16 := gi_b (lo := 0) (hi := 12) g 3 2 rfl
      refine wr_gi0 (k0 := 3) (x := h 3 2) (nx := 40) (r1 := 2) (r2 := 2) (r3 := 0) rfl rfl (by decide) rfl ⟨rfl, rfl⟩ rfl (u9 3 2 rfl) ?_
      refine wi_icmp (cd := .ge) (nx := 43) (r1 := 61) (r2 := 0) (r3 := 0) rfl (by omega) (by omega) (fun (q17 : (h 3 2) ≤ (h 18 7)) => ?_) (fun (q17 : ¬ ((h 3 2) ≤ (h 18 7))) => ?_)
      ·
        refine wi_aload_n (i := 0) (x := 18) (nx := 62) (r1 := 0) (r2 := 0) (r3 := 0) rfl rfl ?_
        refine wi_aload_n (i := 0) (x := 18) (nx := 63) (r1 := 0) (r2 := 0) (r3 := 0) rfl rfl ?_
        refine wr_V (k0 := 18) (rest := [.ref 18]) (as := [.ref 18]) (nx := 66) (r1 := 140) (r2 := 0) (r3 := 4) rfl rfl rfl (of_decide_eq_true rfl) rfl rfl (by decide) rfl rfl (of_decide_eq_true rfl) (of_decide_eq_true rfl) ?_
        refine ct_140_18 hcr  g9    (fun z19  (fz19 : -1 ≤ z19 ∧ z19 ≤ 3) => ?_)
        refine wk_i ?_
        refine wr_V (k0 := 18) (rest := []) (as := [.ref 18, vi z19]) (nx := 69) (r1 := 142) (r2 := 1) (r3 := 4) rfl rfl rfl (of_decide_eq_true rfl) rfl rfl (by decide) rfl rfl (of_decide_eq_true rfl) (of_decide_eq_true rfl) ?_
        refine ct_142_18 hcr  g9 z19 (by omega) (show (h9 18 16) ≤ 2000000000 by omega) (fun h20 z21 g20 u20 (fz21 : -1 ≤ z21 ∧ z21 ≤ 11) (p20_0 : ((h20 18 16) = (h9 18 16) ∧ (h20 18 7) = (h9 18 7)) ∨ ((h9 18 16) + 1 ≤ (h20 18 16) ∧ (h20 18 16) ≤ (h9 18 16) + 1)) => ?_)
        have F22 := F11.then (by decide +kernel) u20
        have b23 := gi_b (lo := -2147483648) (hi := 2147483647) g20 18 16 rfl
        have e24 : h20 18 7 = h 18 7 := ((u20 18 7 rfl).trans (u9 18 7 rfl))
        refine wk_i ?_
        refine wi_iconst (n := (-1)) (nx := 70) (r1 := 0) (r2 := 0) (r3 := 0) rfl ?_
        refine wi_icmp (cd := .eq) (nx := 73) (r1 := 75) (r2 := 0) (r3 := 0) rfl (by omega) (by omega) (fun (q25 : z21 = (-1)) => ?_) (fun (q25 : ¬ (z21 = (-1))) => ?_)
        ·
          refine wi_aload_n (i := 0) (x := 18) (nx := 76) (r1 := 0) (r2 := 0) (r3 := 0) rfl rfl ?_
          refine wr_gr (k0 := 18) (x := 22) (nx := 79) (r1 := 4) (r2 := 4) (r3 := 0) rfl rfl (by decide) rfl ⟨rfl, rfl⟩ rfl ?_
          have b26 := gi_b (lo := 0) (hi := 12) g20 22 1 rfl
          refine wr_gi0 (k0 := 22) (x := h20 22 1) (nx := 82) (r1 := 5) (r2 := 1) (r3 := 0) rfl rfl (by decide) rfl ⟨rfl, rfl⟩ rfl rfl ?_
          refine wi_if (cd := .le) (nx := 85) (r1 := 97) (r2 := 0) (r3 := 0) rfl (by omega) (fun (q27 : (h20 22 1) ≤ 0) => ?_) (fun (q27 : ¬ ((h20 22 1) ≤ 0)) => ?_)
          ·
            refine wi_iconst (n := (-1)) (nx := 98) (r1 := 0) (r2 := 0) (r3 := 0) rfl ?_
            refine wi_ireturn (nx := 99) (r1 := 0) (r2 := 0) (r3 := 0) rfl rfl ?_
            exact k h20 (-1) g20 F22 (by omega) (show ((h20 18 16) = (h 18 16) ∧ (h20 18 7) = (h 18 7)) ∨ ((h 18 16) + 1 ≤ (h20 18 16) ∧ (h20 18 16) ≤ (h 18 16) + 4) by omega)
          ·
            refine wi_aload_n (i := 0) (x := 18) (nx := 86) (r1 := 0) (r2 := 0) (r3 := 0) rfl rfl ?_
            refine wr_V (k0 := 18) (rest := []) (as := [.ref 18]) (nx := 89) (r1 := 133) (r2 := 0) (r3 := 4) rfl rfl rfl (of_decide_eq_true rfl) rfl rfl (by decide) rfl rfl (of_decide_eq_true rfl) (of_decide_eq_true rfl) ?_
            refine ct_133_18 hcr  g20   (show (h20 18 16) ≤ 2000000000 by omega) (fun h28 z29 g28 u28 (fz29 : -2147483647 ≤ z29 ∧ z29 ≤ 9999) (p28_0 : ((h28 18 16) = (h20 18 16) ∧ (h28 18 7) = (h20 18 7)) ∨ ((h20 18 16) + 1 ≤ (h28 18 16) ∧ (h28 18 16) ≤ (h20 18 16) + 1)) => ?_)
            have F30 := F22.then (by decide +kernel) u28
            have b31 := gi_b (lo := -2147483648) (hi := 2147483647) g28 18 16 rfl
            have e32 : h28 18 7 = h 18 7 := ((u28 18 7 rfl).trans ((u20 18 7 rfl).trans (u9 18 7 rfl)))
            refine wk_i ?_
            refine wi_iconst (n := (-1)) (nx := 90) (r1 := 0) (r2 := 0) (r3 := 0) rfl ?_
            refine wi_icmp (cd := .eq) (nx := 93) (r1 := 97) (r2 := 0) (r3 := 0) rfl (by omega) (by omega) (fun (q33 : z29 = (-1)) => ?_) (fun (q33 : ¬ (z29 = (-1))) => ?_)
            ·
              refine wi_iconst (n := (-1)) (nx := 98) (r1 := 0) (r2 := 0) (r3 := 0) rfl ?_
              refine wi_ireturn (nx := 99) (r1 := 0) (r2 := 0) (r3 := 0) rfl rfl ?_
              exact k h28 (-1) g28 F30 (by omega) (show ((h28 18 16) = (h 18 16) ∧ (h28 18 7) = (h 18 7)) ∨ ((h 18 16) + 1 ≤ (h28 18 16) ∧ (h28 18 16) ≤ (h 18 16) + 4) by omega)
            ·
              refine wi_iconst (n := 3) (nx := 94) (r1 := 0) (r2 := 0) (r3 := 0) rfl ?_
              refine wi_goto (nx := 97) (r1 := 98) (r2 := 0) (r3 := 0) rfl ?_
              refine wi_ireturn (nx := 99) (r1 := 0) (r2 := 0) (r3 := 0) rfl rfl ?_
              exact k h28 3 g28 F30 (by omega) (show ((h28 18 16) = (h 18 16) ∧ (h28 18 7) = (h 18 7)) ∨ ((h 18 16) + 1 ≤ (h28 18 16) ∧ (h28 18 16) ≤ (h 18 16) + 4) by omega)
        ·
          refine wi_iconst (n := 2) (nx := 74) (r1 := 0) (r2 := 0) (r3 := 0) rfl ?_
          refine wi_ireturn (nx := 75) (r1 := 0) (r2 := 0) (r3 := 0) rfl rfl ?_
          exact k h20 2 g20 F22 (by omega) (show ((h20 18 16) = (h 18 16) ∧ (h20 18 7) = (h 18 7)) ∨ ((h 18 16) + 1 ≤ (h20 18 16) ∧ (h20 18 16) ≤ (h 18 16) + 4) by omega)
      ·
        refine wi_aload_n (i := 0) (x := 18) (nx := 44) (r1 := 0) (r2 := 0) (r3 := 0) rfl rfl ?_
        refine wi_aload_n (i := 0) (x := 18) (nx := 45) (r1 := 0) (r2 := 0) (r3 := 0) rfl rfl ?_
        refine wi_aload_n (i := 0) (x := 18) (nx := 46) (r1 := 0) (r2 := 0) (r3 := 0) rfl rfl ?_
        refine wr_gi0 (k0 := 18) (x := h 18 7) (nx := 49) (r1 := 4) (r2 := 7) (r3 := 0) rfl rfl (by decide) rfl ⟨rfl, rfl⟩ rfl (u9 18 7 rfl) ?_
        refine wr_V (k0 := 18) (rest := [.ref 18]) (as := [.ref 18, vi (h 18 7)]) (nx := 52) (r1 := 136) (r2 := 1) (r3 := 4) rfl rfl rfl (of_decide_eq_true rfl) rfl rfl (by decide) rfl rfl (of_decide_eq_true rfl) (of_decide_eq_true rfl) ?_
        refine ct_136_18 hcr  g9 (h 18 7) (by omega)  (fun z19  (fz19 : -1 ≤ z19 ∧ z19 ≤ 3) => ?_)
        refine wk_i ?_
        refine wr_V (k0 := 18) (rest := []) (as := [.ref 18, vi z19]) (nx := 55) (r1 := 139) (r2 := 1) (r3 := 4) rfl rfl rfl (of_decide_eq_true rfl) rfl rfl (by decide) rfl rfl (of_decide_eq_true rfl) (of_decide_eq_true rfl) ?_
        refine ct_139_18 hcr  g9 z19 (by omega) (show (h9 18 16) ≤ 2000000000 by omega) (fun h20 z21 g20 u20 (fz21 : -1 ≤ z21 ∧ z21 ≤ 11) (p20_0 : ((h20 18 16) = (h9 18 16) ∧ (h20 18 7) = (h9 18 7)) ∨ ((h9 18 16) + 1 ≤ (h20 18 16) ∧ (h20 18 16) ≤ (h9 18 16) + 1)) => ?_)
        have F22 := F11.then (by decide +kernel) u20
        have b23 := gi_b (lo := -2147483648) (hi := 2147483647) g20 18 16 rfl
        have b24 := gi_b (lo := 0) (hi := 12) g20 18 7 rfl
        refine wk_i ?_
        refine wi_iconst (n := (-1)) (nx := 56) (r1 := 0) (r2 := 0) (r3 := 0) rfl ?_
        refine wi_icmp (cd := .eq) (nx := 59) (r1 := 61) (r2 := 0) (r3 := 0) rfl (by omega) (by omega) (fun (q25 : z21 = (-1)) => ?_) (fun (q25 : ¬ (z21 = (-1))) => ?_)
        ·
          refine wi_aload_n (i := 0) (x := 18) (nx := 62) (r1 := 0) (r2 := 0) (r3 := 0) rfl rfl ?_
          refine wi_aload_n (i := 0) (x := 18) (nx := 63) (r1 := 0) (r2 := 0) (r3 := 0) rfl rfl ?_
          refine wr_V (k0 := 18) (rest := [.ref 18]) (as := [.ref 18]) (nx := 66) (r1 := 140) (r2 := 0) (r3 := 4) rfl rfl rfl (of_decide_eq_true rfl) rfl rfl (by decide) rfl rfl (of_decide_eq_true rfl) (of_decide_eq_true rfl) ?_
          refine ct_140_18 hcr  g20    (fun z27  (fz27 : -1 ≤ z27 ∧ z27 ≤ 3) => ?_)
          refine wk_i ?_
          refine wr_V (k0 := 18) (rest := []) (as := [.ref 18, vi z27]) (nx := 69) (r1 := 142) (r2 := 1) (r3 := 4) rfl rfl rfl (of_decide_eq_true rfl) rfl rfl (by decide) rfl rfl (of_decide_eq_true rfl) (of_decide_eq_true rfl) ?_
          refine ct_142_18 hcr  g20 z27 (by omega) (show (h20 18 16) ≤ 2000000000 by omega) (fun h28 z29 g28 u28 (fz29 : -1 ≤ z29 ∧ z29 ≤ 11) (p28_0 : ((h28 18 16) = (h20 18 16) ∧ (h28 18 7) = (h20 18 7)) ∨ ((h20 18 16) + 1 ≤ (h28 18 16) ∧ (h28 18 16) ≤ (h20 18 16) + 1)) => ?_)
          have F30 := F22.then (by decide +kernel) u28
          have b31 := gi_b (lo := -2147483648) (hi := 2147483647) g28 18 16 rfl
          have e32 : h28 18 7 = h20 18 7 := (u28 18 7 rfl)
          refine wk_i ?_
          refine wi_iconst (n := (-1)) (nx := 70) (r1 := 0) (r2 := 0) (r3 := 0) rfl ?_
          refine wi_icmp (cd := .eq) (nx := 73) (r1 := 75) (r2 := 0) (r3 := 0) rfl (by omega) (by omega) (fun (q33 : z29 = (-1)) => ?_) (fun (q33 : ¬ (z29 = (-1))) => ?_)
          ·
            refine wi_aload_n (i := 0) (x := 18) (nx := 76) (r1 := 0) (r2 := 0) (r3 := 0) rfl rfl ?_
            refine wr_gr (k0 := 18) (x := 22) (nx := 79) (r1 := 4) (r2 := 4) (r3 := 0) rfl rfl (by decide) rfl ⟨rfl, rfl⟩ rfl ?_
            have b34 := gi_b (lo := 0) (hi := 12) g28 22 1 rfl
            refine wr_gi0 (k0 := 22) (x := h28 22 1) (nx := 82) (r1 := 5) (r2 := 1) (r3 := 0) rfl rfl (by decide) rfl ⟨rfl, rfl⟩ rfl rfl ?_
            refine wi_if (cd := .le) (nx := 85) (r1 := 97) (r2 := 0) (r3 := 0) rfl (by omega) (fun (q35 : (h28 22 1) ≤ 0) => ?_) (fun (q35 : ¬ ((h28 22 1) ≤ 0)) => ?_)
            ·
              refine wi_iconst (n := (-1)) (nx := 98) (r1 := 0) (r2 := 0) (r3 := 0) rfl ?_
              refine wi_ireturn (nx := 99) (r1 := 0) (r2 := 0) (r3 := 0) rfl rfl ?_
              exact k h28 (-1) g28 F30 (by omega) (show ((h28 18 16) = (h 18 16) ∧ (h28 18 7) = (h 18 7)) ∨ ((h 18 16) + 1 ≤ (h28 18 16) ∧ (h28 18 16) ≤ (h 18 16) + 4) by omega)
            ·
              refine wi_aload_n (i := 0) (x := 18) (nx := 86) (r1 := 0) (r2 := 0) (r3 := 0) rfl rfl ?_
              refine wr_V (k0 := 18) (rest := []) (as := [.ref 18]) (nx := 89) (r1 := 133) (r2 := 0) (r3 := 4) rfl rfl rfl (of_decide_eq_true rfl) rfl rfl (by decide) rfl rfl (of_decide_eq_true rfl) (of_decide_eq_true rfl) ?_
              refine ct_133_18 hcr  g28   (show (h28 18 16) ≤ 2000000000 by omega) (fun h36 z37 g36 u36 (fz37 : -2147483647 ≤ z37 ∧ z37 ≤ 9999) (p36_0 : ((h36 18 16) = (h28 18 16) ∧ (h36 18 7) = (h28 18 7)) ∨ ((h28 18 16) + 1 ≤ (h36 18 16) ∧ (h36 18 16) ≤ (h28 18 16) + 1)) => ?_)
              have F38 := F30.then (by decide +kernel) u36
              have b39 := gi_b (lo := -2147483648) (hi := 2147483647) g36 18 16 rfl
              have e40 : h36 18 7 = h20 18 7 := ((u36 18 7 rfl).trans (u28 18 7 rfl))
              refine wk_i ?_
              refine wi_iconst (n := (-1)) (nx := 90) (r1 := 0) (r2 := 0) (r3 := 0) rfl ?_
              refine wi_icmp (cd := .eq) (nx := 93) (r1 := 97) (r2 := 0) (r3 := 0) rfl (by omega) (by omega) (fun (q41 : z37 = (-1)) => ?_) (fun (q41 : ¬ (z37 = (-1))) => ?_)
              ·
                refine wi_iconst (n := (-1)) (nx := 98) (r1 := 0) (r2 := 0) (r3 := 0) rfl ?_
                refine wi_ireturn (nx := 99) (r1 := 0) (r2 := 0) (r3 := 0) rfl rfl ?_
                exact k h36 (-1) g36 F38 (by omega) (show ((h36 18 16) = (h 18 16) ∧ (h36 18 7) = (h 18 7)) ∨ ((h 18 16) + 1 ≤ (h36 18 16) ∧ (h36 18 16) ≤ (h 18 16) + 4) by omega)
              ·
                refine wi_iconst (n := 3) (nx := 94) (r1 := 0) (r2 := 0) (r3 := 0) rfl ?_
                refine wi_goto (nx := 97) (r1 := 98) (r2 := 0) (r3 := 0) rfl ?_
                refine wi_ireturn (nx := 99) (r1 := 0) (r2 := 0) (r3 := 0) rfl rfl ?_
                exact k h36 3 g36 F38 (by omega) (show ((h36 18 16) = (h 18 16) ∧ (h36 18 7) = (h 18 7)) ∨ ((h 18 16) + 1 ≤ (h36 18 16) ∧ (h36 18 16) ≤ (h 18 16) + 4) by omega)
          ·
            refine wi_iconst (n := 2) (nx := 74) (r1 := 0) (r2 := 0) (r3 := 0) rfl ?_
            refine wi_ireturn (nx := 75) (r1 := 0) (r2 := 0) (r3 := 0) rfl rfl ?_
            exact k h28 2 g28 F30 (by omega) (show ((h28 18 16) = (h 18 16) ∧ (h28 18 7) = (h 18 7)) ∨ ((h 18 16) + 1 ≤ (h28 18 16) ∧ (h28 18 16) ≤ (h 18 16) + 4) by omega)
        ·
          refine wi_iconst (n := 1) (nx := 60) (r1 := 0) (r2 := 0) (r3 := 0) rfl ?_
          refine wi_ireturn (nx := 61) (r1 := 0) (r2 := 0) (r3 := 0) rfl rfl ?_
          exact k h20 1 g20 F22 (by omega) (show ((h20 18 16) = (h 18 16) ∧ (h20 18 7) = (h 18 7)) ∨ ((h 18 16) + 1 ≤ (h20 18 16) ∧ (h20 18 16) ≤ (h 18 16) + 4) by omega)
    ·
      refine wi_iconst (n := 0) (nx := 28) (r1 := 0) (r2 := 0) (r3 := 0) rfl ?_
      refine wi_ireturn (nx := 29) (r1 := 0) (r2 := 0) (r3 := 0) rfl rfl ?_
      exact k h9 0 g9 F11 (by omega) (show ((h9 18 16) = (h 18 16) ∧ (h9 18 7) = (h 18 7)) ∨ ((h 18 16) + 1 ≤ (h9 18 16) ∧ (h9 18 16) ≤ (h 18 16) + 4) by omega)
-- method 190: Script.stepTimes(I)Z
set_option maxRecDepth 100000 in
set_option maxHeartbeats 100000000 in
theorem ct_190_68 {L : Nat} {xs : Nat → Int32} {d b c : Nat} {h : hp} {cr : Nat → Nat → Option Nat} {Q : hp_Q} (hcr : CR cr)  (g : GI h) (a0 : Int) (q0_ : 0 ≤ a0 ∧ a0 ≤ 99) (pp0 : h 18 16 ≤ 1999990000) (k : ∀ (h2 : hp) (z0 : Int) , GI h2 → FR [(20, 20, none), (22, 23, none), (24, 25, none), (26, 27, none), (28, 28, none), (29, 36, none), (18, 18, some (7, 13)), (18, 18, some (15, 16))] h h2 → (0 ≤ z0 ∧ z0 ≤ 1) → (z0 = 0 → 1 ≤ a0 ∧ a0 ≤ 99) → ((h2 18 16 = h 18 16 ∧ h2 18 7 = h 18 7) ∨ (h 18 16 + 1 ≤ h2 18 16 ∧ h2 18 16 ≤ h 18 16 + 400)) → Q (.inl (some (vi z0))) (hp_w h2 cr) b c) : wp (md_xa (L, xs)) (d + 4) 190 (0, [(0, .ref 68), (1, vi a0)], [], hp_w h cr, b, c) Q := by
  have F0 : FR [(20, 20, none), (22, 23, none), (24, 25, none), (26, 27, none), (28, 28, none), (29, 36, none), (18, 18, some (7, 13)), (18, 18, some (15, 16))] h h := FR.refl
  have b1 := gi_b (lo := -2147483648) (hi := 2147483647) g 18 16 rfl
  refine wi_iconst (n := 0) (nx := 1) (r1 := 0) (r2 := 0) (r3 := 0) rfl ?_
  refine wi_istore_n (i := 2) (e := 0) (lo2 := [(2, vi 0), (0, .ref 68), (1, vi a0)]) (nx := 2) (r1 := 0) (r2 := 0) (r3 := 0) rfl rfl ?_
  have b4 := gi_b (lo := 0) (hi := 12) g 18 7 rfl
  refine wp.lo (lo := [(0, .ref 68), (1, vi a0), (2, vi 0)]) ⟨rfl, rfl, rfl, trivial⟩ rfl ?_
  refine wl_1 (fun x2 h3 => GI h3 ∧ FR [(20, 20, none), (22, 23, none), (24, 25, none), (26, 27, none), (28, 28, none), (29, 36, none), (18, 18, some (7, 13)), (18, 18, some (15, 16))] h h3 ∧ FR [(20, 20, none), (22, 23, none), (24, 25, none), (26, 27, none), (28, 28, none), (29, 36, none), (18, 18, some (7, 13)), (18, 18, some (15, 16))] h h3 ∧ ((0 ≤ x2 ∧ x2 ≤ 99) ∧ (x2 ≤ a0) ∧ ((h3 18 16) ≤ (h 18 16) + 4 * x2) ∧ (((h3 18 16) = (h 18 16) ∧ (h3 18 7) = (h 18 7)) ∨ (h 18 16) + 1 ≤ (h3 18 16)))) (fun x2 h3 => ((99 : Int) + 1 - x2).toNat) (fun x2 h3 => (2, [(0, .ref 68), (1, vi a0), (2, vi x2)], [], hp_w h3 cr, b, c)) ?_ 0 h ⟨g, F0, FR.refl, (show (0 ≤ 0 ∧ 0 ≤ 99) ∧ (0 ≤ a0) ∧ ((h 18 16) ≤ (h 18 16) + 4 * 0) ∧ (((h 18 16) = (h 18 16) ∧ (h 18 7) = (h 18 7)) ∨ (h 18 16) + 1 ≤ (h 18 16)) by omega)⟩
  intro x2 h3 ⟨g3, F5, u3, f3⟩ I3
  have b6 := gi_b (lo := -2147483648) (hi := 2147483647) g3 18 16 rfl
  have b7 := gi_b (lo := 0) (hi := 12) g3 18 7 rfl
  refine wi_iload_n (i := 2) (e := x2) (nx := 3) (r1 := 0) (r2 := 0) (r3 := 0) rfl rfl ?_
  refine wi_iload_n (i := 1) (e := a0) (nx := 4) (r1 := 0) (r2 := 0) (r3 := 0) rfl rfl ?_
  refine wi_icmp (cd := .ge) (nx := 7) (r1 := 26) (r2 := 0) (r3 := 0) rfl (by omega) (by omega) (fun (q8 : a0 ≤ x2) => ?_) (fun (q8 : ¬ (a0 ≤ x2)) => ?_)
  ·
    refine wi_iconst (n := 1) (nx := 27) (r1 := 0) (r2 := 0) (r3 := 0) rfl ?_
    refine wi_zreturn (nx := 28) (r1 := 0) (r2 := 0) (r3 := 0) rfl rfl (by omega) ?_
    exact k h3 1 g3 F5 (by omega) (fun _ => by omega) (show ((h3 18 16) = (h 18 16) ∧ (h3 18 7) = (h 18 7)) ∨ ((h 18 16) + 1 ≤ (h3 18 16) ∧ (h3 18 16) ≤ (h 18 16) + 400) by omega)
  ·
    refine wi_aload_n (i := 0) (x := 68) (nx := 8) (r1 := 0) (r2 := 0) (r3 := 0) rfl rfl ?_
    refine wr_gr (k0 := 68) (x := 18) (nx := 11) (r1 := 8) (r2 := 1) (r3 := 0) rfl rfl (by decide) rfl ⟨rfl, rfl⟩ rfl ?_
    refine wr_V (k0 := 18) (rest := []) (as := [.ref 18]) (nx := 14) (r1 := 134) (r2 := 0) (r3 := 4) rfl rfl rfl (of_decide_eq_true rfl) rfl rfl (by decide) rfl rfl (of_decide_eq_true rfl) (of_decide_eq_true rfl) ?_
    refine ct_134_18 hcr  g3   (show (h3 18 16) ≤ 1999999990 by omega) (fun h9 z10 g9 u9 (fz10 : -1 ≤ z10 ∧ z10 ≤ 3) (p9_0 : ((h9 18 16) = (h3 18 16) ∧ (h9 18 7) = (h3 18 7)) ∨ ((h3 18 16) + 1 ≤ (h9 18 16) ∧ (h9 18 16) ≤ (h3 18 16) + 4)) => ?_)
    have F11 := F5.then (by decide +kernel) u9
    have F12 := u3.then (by decide +kernel) u9
    have b13 := gi_b (lo := -2147483648) (hi := 2147483647) g9 18 16 rfl
    have b14 := gi_b (lo := 0) (hi := 12) g9 18 7 rfl
    refine wk_i ?_
    refine wi_iconst (n := (-1)) (nx := 15) (r1 := 0) (r2 := 0) (r3 := 0) rfl ?_
    refine wi_icmp (cd := .ne) (nx := 18) (r1 := 20) (r2 := 0) (r3 := 0) rfl (by omega) (by omega) (fun (q15 : z10 ≠ (-1)) => ?_) (fun (q15 : ¬ (z10 ≠ (-1))) => ?_)
    ·
      refine wr_iinc (i := 2) (n := 1) (v := x2) (fun e16 => [(2, vi e16), (0, .ref 68), (1, vi a0)]) (nx := 23) (r1 := 0) (r2 := 0) (r3 := 0) rfl rfl (fun _ => rfl) (fun e16 (fe16 : e16 = x2 + 1) => ?_)
      refine wi_goto (nx := 26) (r1 := 2) (r2 := 0) (r3 := 0) rfl ?_
      refine wp.lo (lo := [(0, .ref 68), (1, vi a0), (2, vi e16)]) ⟨rfl, rfl, rfl, trivial⟩ rfl ?_
      exact I3 e16 h9 ⟨g9, F11, F12, (show (0 ≤ e16 ∧ e16 ≤ 99) ∧ (e16 ≤ a0) ∧ ((h9 18 16) ≤ (h 18 16) + 4 * e16) ∧ (((h9 18 16) = (h 18 16) ∧ (h9 18 7) = (h 18 7)) ∨ (h 18 16) + 1 ≤ (h9 18 16)) by omega)⟩ (show ((99 : Int) + 1 - e16).toNat < ((99 : Int) + 1 - x2).toNat by omega)
    ·
      refine wi_iconst (n := 0) (nx := 19) (r1 := 0) (r2 := 0) (r3 := 0) rfl ?_
      refine wi_zreturn (nx := 20) (r1 := 0) (r2 := 0) (r3 := 0) rfl rfl (by omega) ?_
      exact k h9 0 g9 F11 (by omega) (fun _ => by omega) (show ((h9 18 16) = (h 18 16) ∧ (h9 18 7) = (h 18 7)) ∨ ((h 18 16) + 1 ≤ (h9 18 16) ∧ (h9 18 16) ≤ (h 18 16) + 400) by omega)
-- method 145: Line.carsInLanes()I
set_option maxRecDepth 100000 in
set_option maxHeartbeats 100000000 in
theorem ct_145_18 {L : Nat} {xs : Nat → Int32} {d b c : Nat} {h : hp} {cr : Nat → Nat → Option Nat} {Q : hp_Q} (hcr : CR cr)  (g : GI h)    (k : ∀ (z0 : Int), (0 ≤ z0 ∧ z0 ≤ 48) → Q (.inl (some (vi z0))) (hp_w h cr) b c) : wp (md_xa (L, xs)) d 145 (0, [(0, .ref 18)], [], hp_w h cr, b, c) Q := by
  have F0 : FR [] h h := FR.refl
  refine wi_iconst (n := 0) (nx := 1) (r1 := 0) (r2 := 0) (r3 := 0) rfl ?_
  refine wi_istore_n (i := 1) (e := 0) (lo2 := [(1, vi 0), (0, .ref 18)]) (nx := 2) (r1 := 0) (r2 := 0) (r3 := 0) rfl rfl ?_
  refine wi_iconst (n := 0) (nx := 3) (r1 := 0) (r2 := 0) (r3 := 0) rfl ?_
  refine wi_istore_n (i := 2) (e := 0) (lo2 := [(2, vi 0), (1, vi 0), (0, .ref 18)]) (nx := 4) (r1 := 0) (r2 := 0) (r3 := 0) rfl rfl ?_
  refine wp.lo (lo := [(0, .ref 18), (1, vi 0), (2, vi 0)]) ⟨rfl, rfl, rfl, trivial⟩ rfl ?_
  refine wl_2 (fun x1 x2 h3 => h = h3 ∧ ((0 ≤ x1 ∧ x1 ≤ 48) ∧ (0 ≤ x2 ∧ x2 ≤ 4) ∧ (x1 ≤ 12 * x2))) (fun x1 x2 h3 => ((4 : Int) + 1 - x2).toNat) (fun x1 x2 h3 => (4, [(0, .ref 18), (1, vi x1), (2, vi x2)], [], hp_w h3 cr, b, c)) ?_ 0 0 h ⟨rfl, (show (0 ≤ 0 ∧ 0 ≤ 48) ∧ (0 ≤ 0 ∧ 0 ≤ 4) ∧ (0 ≤ 12 * 0) by omega)⟩
  intro x1 x2 h3 ⟨e3, f3⟩ I3
  subst e3
  refine wi_iload_n (i := 2) (e := x2) (nx := 5) (r1 := 0) (r2 := 0) (r3 := 0) rfl rfl ?_
  refine wi_aload_n (i := 0) (x := 18) (nx := 6) (r1 := 0) (r2 := 0) (r3 := 0) rfl rfl ?_
  refine wr_gr (k0 := 18) (x := 3) (nx := 9) (r1 := 4) (r2 := 0) (r3 := 0) rfl rfl (by decide) rfl ⟨rfl, rfl⟩ rfl ?_
  have b5 := gi_b (lo := 0) (hi := 4) g 3 1 rfl
  refine wr_gi0 (k0 := 3) (x := h 3 1) (nx := 12) (r1 := 2) (r2 := 1) (r3 := 0) rfl rfl (by decide) rfl ⟨rfl, rfl⟩ rfl rfl ?_
  refine wi_icmp (cd := .ge) (nx := 15) (r1 := 33) (r2 := 0) (r3 := 0) rfl (by omega) (by omega) (fun (q6 : (h 3 1) ≤ x2) => ?_) (fun (q6 : ¬ ((h 3 1) ≤ x2)) => ?_)
  ·
    refine wi_iload_n (i := 1) (e := x1) (nx := 34) (r1 := 0) (r2 := 0) (r3 := 0) rfl rfl ?_
    refine wi_ireturn (nx := 35) (r1 := 0) (r2 := 0) (r3 := 0) rfl rfl ?_
    exact k x1 (by omega)
  ·
    refine wi_iload_n (i := 1) (e := x1) (nx := 16) (r1 := 0) (r2 := 0) (r3 := 0) rfl rfl ?_
    refine wi_aload_n (i := 0) (x := 18) (nx := 17) (r1 := 0) (r2 := 0) (r3 := 0) rfl rfl ?_
    refine wr_gr (k0 := 18) (x := 21) (nx := 20) (r1 := 4) (r2 := 3) (r3 := 0) rfl rfl (by decide) rfl ⟨rfl, rfl⟩ rfl ?_
    refine wi_iload_n (i := 2) (e := x2) (nx := 21) (r1 := 0) (r2 := 0) (r3 := 0) rfl rfl ?_
    obtain ⟨i7, ei7⟩ : ∃ q : Nat, x2 = (q : Int) := ⟨(x2).toNat, by omega⟩
    refine wr_aa (k0 := 21) (a := x2) (f := i7) (x := 21 + 8 + 2 * i7) (nx := 22) (r1 := 0) (r2 := 0) (r3 := 0) rfl (by decide) rfl (Or.inl rfl) (by omega) (by omega) (by decide) (hcr.1 21 (by decide) i7 (by omega)) ?_
    obtain ⟨k8, kk8, mk8⟩ : ∃ q, Rw q ∧ q = 21 + 8 + 2 * i7 := ⟨_, rw_lane 21 (by decide) i7 (by omega), rfl⟩
    rw [← mk8]
    have b9 := gi_b (lo := 0) (hi := 12) g k8 1 kk8.2.2.2.1
    refine wr_gi0 (k0 := k8) (x := h k8 1) (nx := 25) (r1 := 5) (r2 := 1) (r3 := 0) rfl rfl kk8.k kk8.1 ⟨rfl, rfl⟩ rfl rfl ?_
    refine wr_add (nx := 26) (r1 := 0) (r2 := 0) (r3 := 0) rfl (fun e10 (fe10 : e10 = x1 + (h k8 1)) => ?_)
    refine wi_istore_n (i := 1) (e := e10) (lo2 := [(1, vi e10), (0, .ref 18), (2, vi x2)]) (nx := 27) (r1 := 0) (r2 := 0) (r3 := 0) rfl rfl ?_
    refine wr_iinc (i := 2) (n := 1) (v := x2) (fun e11 => [(2, vi e11), (1, vi e10), (0, .ref 18)]) (nx := 30) (r1 := 0) (r2 := 0) (r3 := 0) rfl rfl (fun _ => rfl) (fun e11 (fe11 : e11 = x2 + 1) => ?_)
    refine wi_goto (nx := 33) (r1 := 4) (r2 := 0) (r3 := 0) rfl ?_
    refine wp.lo (lo := [(0, .ref 18), (1, vi e10), (2, vi e11)]) ⟨rfl, rfl, rfl, trivial⟩ rfl ?_
    exact I3 e10 e11 h ⟨rfl, (show (0 ≤ e10 ∧ e10 ≤ 48) ∧ (0 ≤ e11 ∧ e11 ≤ 4) ∧ (e10 ≤ 12 * e11) by omega)⟩ (show ((4 : Int) + 1 - e11).toNat < ((4 : Int) + 1 - x2).toNat by omega)
-- method 162: Unloading.weighLanes()I
set_option maxRecDepth 100000 in
set_option maxHeartbeats 100000000 in
theorem ct_162_56 {L : Nat} {xs : Nat → Int32} {d b c : Nat} {h : hp} {cr : Nat → Nat → Option Nat} {Q : hp_Q} (hcr : CR cr)  (g : GI h)    (k : ∀ (h2 : hp) (z0 : Int) , GI h2 → FR [(59, 59, none), (60, 60, none)] h h2 → (-2147483648 ≤ z0 ∧ z0 ≤ 2147483647) → Q (.inl (some (vi z0))) (hp_w h2 cr) b c) : wp (md_xa (L, xs)) d 162 (0, [(0, .ref 56)], [], hp_w h cr, b, c) Q := by
  have F0 : FR [(59, 59, none), (60, 60, none)] h h := FR.refl
  refine wi_iconst (n := 1) (nx := 1) (r1 := 0) (r2 := 0) (r3 := 0) rfl ?_
  refine wi_istore_n (i := 1) (e := 1) (lo2 := [(1, vi 1), (0, .ref 56)]) (nx := 2) (r1 := 0) (r2 := 0) (r3 := 0) rfl rfl ?_
  refine wi_iconst (n := 0) (nx := 3) (r1 := 0) (r2 := 0) (r3 := 0) rfl ?_
  refine wi_istore_n (i := 2) (e := 0) (lo2 := [(2, vi 0), (1, vi 1), (0, .ref 56)]) (nx := 4) (r1 := 0) (r2 := 0) (r3 := 0) rfl rfl ?_
  refine wp.lo (lo := [(0, .ref 56), (1, vi 1), (2, vi 0)]) ⟨rfl, rfl, rfl, trivial⟩ rfl ?_
  refine wl_2 (fun x1 x2 h3 => GI h3 ∧ FR [(59, 59, none), (60, 60, none)] h h3 ∧ FR [(59, 59, none), (60, 60, none)] h h3 ∧ ((-2147483648 ≤ x1 ∧ x1 ≤ 2147483647) ∧ (0 ≤ x2 ∧ x2 ≤ 4))) (fun x1 x2 h3 => ((4 : Int) + 1 - x2).toNat) (fun x1 x2 h3 => (4, [(0, .ref 56), (1, vi x1), (2, vi x2)], [], hp_w h3 cr, b, c)) ?_ 1 0 h ⟨g, F0, FR.refl, (show (-2147483648 ≤ 1 ∧ 1 ≤ 2147483647) ∧ (0 ≤ 0 ∧ 0 ≤ 4) by omega)⟩
  intro x1 x2 h3 ⟨g3, F4, u3, f3⟩ I3
  refine wi_iload_n (i := 2) (e := x2) (nx := 5) (r1 := 0) (r2 := 0) (r3 := 0) rfl rfl ?_
  refine wi_iconst (n := 4) (nx := 6) (r1 := 0) (r2 := 0) (r3 := 0) rfl ?_
  refine wi_icmp (cd := .ge) (nx := 9) (r1 := 46) (r2 := 0) (r3 := 0) rfl (by omega) (by omega) (fun (q5 : 4 ≤ x2) => ?_) (fun (q5 : ¬ (4 ≤ x2)) => ?_)
  ·
    refine wi_iload_n (i := 1) (e := x1) (nx := 47) (r1 := 0) (r2 := 0) (r3 := 0) rfl rfl ?_
    refine wi_ireturn (nx := 48) (r1 := 0) (r2 := 0) (r3 := 0) rfl rfl ?_
    exact k h3 x1 g3 F4 (by omega)
  ·
    refine wi_aload_n (i := 0) (x := 56) (nx := 10) (r1 := 0) (r2 := 0) (r3 := 0) rfl rfl ?_
    refine wr_gr (k0 := 56) (x := 59) (nx := 13) (r1 := 6) (r2 := 4) (r3 := 0) rfl rfl (by decide) rfl ⟨rfl, rfl⟩ rfl ?_
    refine wi_iload_n (i := 2) (e := x2) (nx := 14) (r1 := 0) (r2 := 0) (r3 := 0) rfl rfl ?_
    refine wi_iconst (n := 0) (nx := 15) (r1 := 0) (r2 := 0) (r3 := 0) rfl ?_
    obtain ⟨i6, ei6⟩ : ∃ q : Nat, x2 = (q : Int) := ⟨(x2).toNat, by omega⟩
    refine wr_is (k0 := 59) (a := x2) (f := i6) (x := 0) (bl := -2147483648) (bh := 2147483647) (nx := 16) (r1 := 0) (r2 := 0) (r3 := 0) rfl (by decide) rfl (by omega) (by omega) (by decide) g3 rfl (by omega) (fun h7 g7 w7 u7 => ?_)
    have F8 := F4.then rfl (FR.rngp (lo := 59) (hi := 59) u7 (by decide))
    have F9 := u3.then rfl (FR.rngp (lo := 59) (hi := 59) u7 (by decide))
    refine wi_aload_n (i := 0) (x := 56) (nx := 17) (r1 := 0) (r2 := 0) (r3 := 0) rfl rfl ?_
    refine wr_gr (k0 := 56) (x := 60) (nx := 20) (r1 := 6) (r2 := 5) (r3 := 0) rfl rfl (by decide) rfl ⟨rfl, rfl⟩ rfl ?_
    refine wi_iload_n (i := 2) (e := x2) (nx := 21) (r1 := 0) (r2 := 0) (r3 := 0) rfl rfl ?_
    refine wi_iload_n (i := 1) (e := x1) (nx := 22) (r1 := 0) (r2 := 0) (r3 := 0) rfl rfl ?_
    refine wr_is (k0 := 60) (a := x2) (f := i6) (x := x1) (bl := -2147483648) (bh := 2147483647) (nx := 23) (r1 := 0) (r2 := 0) (r3 := 0) rfl (by decide) rfl (by omega) (by omega) (by decide) g7 rfl (by omega) (fun h10 g10 w10 u10 => ?_)
    have F11 := F8.then rfl (FR.rngp (lo := 60) (hi := 60) u10 (by decide))
    have F12 := F9.then rfl (FR.rngp (lo := 60) (hi := 60) u10 (by decide))
    refine wi_iload_n (i := 1) (e := x1) (nx := 24) (r1 := 0) (r2 := 0) (r3 := 0) rfl rfl ?_
    refine wi_aload_n (i := 0) (x := 56) (nx := 25) (r1 := 0) (r2 := 0) (r3 := 0) rfl rfl ?_
    refine wr_gr (k0 := 56) (x := 18) (nx := 28) (r1 := 6) (r2 := 1) (r3 := 0) rfl rfl (by decide) rfl ⟨rfl, rfl⟩ rfl ?_
    refine wr_gr (k0 := 18) (x := 21) (nx := 31) (r1 := 4) (r2 := 3) (r3 := 0) rfl rfl (by decide) rfl ⟨rfl, rfl⟩ rfl ?_
    refine wi_iload_n (i := 2) (e := x2) (nx := 32) (r1 := 0) (r2 := 0) (r3 := 0) rfl rfl ?_
    refine wr_aa (k0 := 21) (a := x2) (f := i6) (x := 21 + 8 + 2 * i6) (nx := 33) (r1 := 0) (r2 := 0) (r3 := 0) rfl (by decide) rfl (Or.inl rfl) (by omega) (by omega) (by decide) (hcr.1 21 (by decide) i6 (by omega)) ?_
    obtain ⟨k13, kk13, mk13⟩ : ∃ q, Rw q ∧ q = 21 + 8 + 2 * i6 := ⟨_, rw_lane 21 (by decide) i6 (by omega), rfl⟩
    rw [← mk13]
    have b14 := gi_b (lo := 0) (hi := 12) g k13 1 kk13.2.2.2.1
    refine wr_gi0 (k0 := k13) (x := h k13 1) (nx := 36) (r1 := 5) (r2 := 1) (r3 := 0) rfl rfl kk13.k kk13.1 ⟨rfl, rfl⟩ rfl ((u10 k13 1 (fn_a (by omega) fn_0)).trans ((u7 k13 1 (fn_a (by omega) fn_0)).trans (u3 k13 1 (fn_a (by omega) (fn_a (by omega) fn_0))))) ?_
    refine wi_iconst (n := 1) (nx := 37) (r1 := 0) (r2 := 0) (r3 := 0) rfl ?_
    refine wr_add (nx := 38) (r1 := 0) (r2 := 0) (r3 := 0) rfl (fun e15 (fe15 : e15 = (h k13 1) + 1) => ?_)
    refine wr_mulW (nx := 39) (r1 := 0) (r2 := 0) (r3 := 0) rfl (fun e16 (fe16 : -2147483648 ≤ e16 ∧ e16 ≤ 2147483647) => ?_)
    refine wi_istore_n (i := 1) (e := e16) (lo2 := [(1, vi e16), (0, .ref 56), (2, vi x2)]) (nx := 40) (r1 := 0) (r2 := 0) (r3 := 0) rfl rfl ?_
    refine wr_iinc (i := 2) (n := 1) (v := x2) (fun e17 => [(2, vi e17), (1, vi e16), (0, .ref 56)]) (nx := 43) (r1 := 0) (r2 := 0) (r3 := 0) rfl rfl (fun _ => rfl) (fun e17 (fe17 : e17 = x2 + 1) => ?_)
    refine wi_goto (nx := 46) (r1 := 4) (r2 := 0) (r3 := 0) rfl ?_
    refine wp.lo (lo := [(0, .ref 56), (1, vi e16), (2, vi e17)]) ⟨rfl, rfl, rfl, trivial⟩ rfl ?_
    exact I3 e16 e17 h10 ⟨g10, F11, F12, (show (-2147483648 ≤ e16 ∧ e16 ≤ 2147483647) ∧ (0 ≤ e17 ∧ e17 ≤ 4) by omega)⟩ (show ((4 : Int) + 1 - e17).toNat < ((4 : Int) + 1 - x2).toNat by omega)
-- method 163: Unloading.forgetWorths(I)V
set_option maxRecDepth 100000 in
set_option maxHeartbeats 100000000 in
theorem ct_163_56 {L : Nat} {xs : Nat → Int32} {d b c : Nat} {h : hp} {cr : Nat → Nat → Option Nat} {Q : hp_Q} (hcr : CR cr)  (g : GI h) (a0 : Int) (q0_ : -2147483648 ≤ a0 ∧ a0 ≤ 2147483647)  (k : ∀ (h2 : hp) , GI h2 → FR [(57, 57, none)] h h2 → Q (.inl none) (hp_w h2 cr) b c) : wp (md_xa (L, xs)) (d + 1) 163 (0, [(0, .ref 56), (1, vi a0)], [], hp_w h cr, b, c) Q := by
  have F0 : FR [(57, 57, none)] h h := FR.refl
  refine wi_iload_n (i := 1) (e := a0) (nx := 1) (r1 := 0) (r2 := 0) (r3 := 0) rfl rfl ?_
  refine wi_iconst (n := 5) (nx := 2) (r1 := 0) (r2 := 0) (r3 := 0) rfl ?_
  refine wr_mulW (nx := 3) (r1 := 0) (r2 := 0) (r3 := 0) rfl (fun e1 (fe1 : -2147483648 ≤ e1 ∧ e1 ≤ 2147483647) => ?_)
  refine wi_bipush (n := 9) (nx := 5) (r1 := 0) (r2 := 0) (r3 := 0) rfl (by decide) ?_
  refine wr_mulW (nx := 6) (r1 := 0) (r2 := 0) (r3 := 0) rfl (fun e2 (fe2 : -2147483648 ≤ e2 ∧ e2 ≤ 2147483647) => ?_)
  refine wi_aload_n (i := 0) (x := 56) (nx := 7) (r1 := 0) (r2 := 0) (r3 := 0) rfl rfl ?_
  refine wr_gr (k0 := 56) (x := 57) (nx := 10) (r1 := 6) (r2 := 2) (r3 := 0) rfl rfl (by decide) rfl ⟨rfl, rfl⟩ rfl ?_
  refine wr_al (k0 := 57) (e := 11520) (nx := 11) (r1 := 0) (r2 := 0) (r3 := 0) rfl (by decide) rfl rfl ?_
  refine wi_S (rest := []) (as := [vi e2, vi 11520]) (nx := 14) (r1 := 354) (r2 := 18) (r3 := 0) rfl rfl rfl (of_decide_eq_true rfl) rfl rfl (of_decide_eq_true rfl) (of_decide_eq_true rfl) ?_
  refine wi_iload_n (i := 0) (e := e2) (nx := 1) (r1 := 0) (r2 := 0) (r3 := 0) rfl rfl ?_
  refine wi_iload_n (i := 1) (e := 11520) (nx := 2) (r1 := 0) (r2 := 0) (r3 := 0) rfl rfl ?_
  refine wi_icmp (cd := .gt) (nx := 5) (r1 := 9) (r2 := 0) (r3 := 0) rfl (by omega) (by omega) (fun (q3 : 11520 < e2) => ?_) (fun (q3 : ¬ (11520 < e2)) => ?_)
  ·
    refine wi_iload_n (i := 1) (e := 11520) (nx := 10) (r1 := 0) (r2 := 0) (r3 := 0) rfl rfl ?_
    refine wi_ireturn (nx := 11) (r1 := 0) (r2 := 0) (r3 := 0) rfl rfl ?_
    refine wk_i ?_
    refine wi_istore_n (i := 2) (e := 11520) (lo2 := [(2, vi 11520), (0, .ref 56), (1, vi a0)]) (nx := 15) (r1 := 0) (r2 := 0) (r3 := 0) rfl rfl ?_
    refine wi_iconst (n := 0) (nx := 16) (r1 := 0) (r2 := 0) (r3 := 0) rfl ?_
    refine wi_istore_n (i := 3) (e := 0) (lo2 := [(3, vi 0), (2, vi 11520), (0, .ref 56), (1, vi a0)]) (nx := 17) (r1 := 0) (r2 := 0) (r3 := 0) rfl rfl ?_
    refine wp.lo (lo := [(0, .ref 56), (2, vi 11520), (3, vi 0)]) ⟨rfl, rfl, rfl, trivial⟩ rfl ?_
    refine wl_1 (fun x4 h5 => GI h5 ∧ FR [(57, 57, none)] h h5 ∧ FR [(57, 57, none)] h h5 ∧ ((0 ≤ x4 ∧ x4 ≤ 11520))) (fun x4 h5 => ((11520 : Int) + 1 - x4).toNat) (fun x4 h5 => (17, [(0, .ref 56), (2, vi 11520), (3, vi x4)], [], hp_w h5 cr, b, c)) ?_ 0 h ⟨g, F0, FR.refl, (show (0 ≤ 0 ∧ 0 ≤ 11520) by omega)⟩
    intro x4 h5 ⟨g5, F6, u5, f5⟩ I5
    refine wi_iload_n (i := 3) (e := x4) (nx := 18) (r1 := 0) (r2 := 0) (r3 := 0) rfl rfl ?_
    refine wi_iload_n (i := 2) (e := 11520) (nx := 19) (r1 := 0) (r2 := 0) (r3 := 0) rfl rfl ?_
    refine wi_icmp (cd := .ge) (nx := 22) (r1 := 35) (r2 := 0) (r3 := 0) rfl (by omega) (by omega) (fun (q7 : 11520 ≤ x4) => ?_) (fun (q7 : ¬ (11520 ≤ x4)) => ?_)
    ·
      refine wi_return (nx := 36) (r1 := 0) (r2 := 0) (r3 := 0) rfl rfl ?_
      exact k h5 g5 F6
    ·
      refine wi_aload_n (i := 0) (x := 56) (nx := 23) (r1 := 0) (r2 := 0) (r3 := 0) rfl rfl ?_
      refine wr_gr (k0 := 56) (x := 57) (nx := 26) (r1 := 6) (r2 := 2) (r3 := 0) rfl rfl (by decide) rfl ⟨rfl, rfl⟩ rfl ?_
      refine wi_iload_n (i := 3) (e := x4) (nx := 27) (r1 := 0) (r2 := 0) (r3 := 0) rfl rfl ?_
      refine wi_iconst (n := (-1)) (nx := 28) (r1 := 0) (r2 := 0) (r3 := 0) rfl ?_
      obtain ⟨i8, ei8⟩ : ∃ q : Nat, x4 = (q : Int) := ⟨(x4).toNat, by omega⟩
      refine wr_is (k0 := 57) (a := x4) (f := i8) (x := -1) (bl := -2147483648) (bh := 2147483647) (nx := 29) (r1 := 0) (r2 := 0) (r3 := 0) rfl (by decide) rfl (by omega) (by omega) (by decide) g5 rfl (by omega) (fun h9 g9 w9 u9 => ?_)
      have F10 := F6.then rfl (FR.rngp (lo := 57) (hi := 57) u9 (by decide))
      have F11 := u5.then rfl (FR.rngp (lo := 57) (hi := 57) u9 (by decide))
      refine wr_iinc (i := 3) (n := 1) (v := x4) (fun e12 => [(3, vi e12), (0, .ref 56), (2, vi 11520)]) (nx := 32) (r1 := 0) (r2 := 0) (r3 := 0) rfl rfl (fun _ => rfl) (fun e12 (fe12 : e12 = x4 + 1) => ?_)
      refine wi_goto (nx := 35) (r1 := 17) (r2 := 0) (r3 := 0) rfl ?_
      refine wp.lo (lo := [(0, .ref 56), (2, vi 11520), (3, vi e12)]) ⟨rfl, rfl, rfl, trivial⟩ rfl ?_
      exact I5 e12 h9 ⟨g9, F10, F11, (show (0 ≤ e12 ∧ e12 ≤ 11520) by omega)⟩ (show ((11520 : Int) + 1 - e12).toNat < ((11520 : Int) + 1 - x4).toNat by omega)
  ·
    refine wi_iload_n (i := 0) (e := e2) (nx := 6) (r1 := 0) (r2 := 0) (r3 := 0) rfl rfl ?_
    refine wi_goto (nx := 9) (r1 := 10) (r2 := 0) (r3 := 0) rfl ?_
    refine wi_ireturn (nx := 11) (r1 := 0) (r2 := 0) (r3 := 0) rfl rfl ?_
    refine wk_i ?_
    refine wi_istore_n (i := 2) (e := e2) (lo2 := [(2, vi e2), (0, .ref 56), (1, vi a0)]) (nx := 15) (r1 := 0) (r2 := 0) (r3 := 0) rfl rfl ?_
    refine wi_iconst (n := 0) (nx := 16) (r1 := 0) (r2 := 0) (r3 := 0) rfl ?_
    refine wi_istore_n (i := 3) (e := 0) (lo2 := [(3, vi 0), (2, vi e2), (0, .ref 56), (1, vi a0)]) (nx := 17) (r1 := 0) (r2 := 0) (r3 := 0) rfl rfl ?_
    refine wp.lo (lo := [(0, .ref 56), (2, vi e2), (3, vi 0)]) ⟨rfl, rfl, rfl, trivial⟩ rfl ?_
    refine wl_1 (fun x4 h5 => GI h5 ∧ FR [(57, 57, none)] h h5 ∧ FR [(57, 57, none)] h h5 ∧ ((0 ≤ x4 ∧ x4 ≤ 11520))) (fun x4 h5 => ((11520 : Int) + 1 - x4).toNat) (fun x4 h5 => (17, [(0, .ref 56), (2, vi e2), (3, vi x4)], [], hp_w h5 cr, b, c)) ?_ 0 h ⟨g, F0, FR.refl, (show (0 ≤ 0 ∧ 0 ≤ 11520) by omega)⟩
    intro x4 h5 ⟨g5, F6, u5, f5⟩ I5
    refine wi_iload_n (i := 3) (e := x4) (nx := 18) (r1 := 0) (r2 := 0) (r3 := 0) rfl rfl ?_
    refine wi_iload_n (i := 2) (e := e2) (nx := 19) (r1 := 0) (r2 := 0) (r3 := 0) rfl rfl ?_
    refine wi_icmp (cd := .ge) (nx := 22) (r1 := 35) (r2 := 0) (r3 := 0) rfl (by omega) (by omega) (fun (q7 : e2 ≤ x4) => ?_) (fun (q7 : ¬ (e2 ≤ x4)) => ?_)
    ·
      refine wi_return (nx := 36) (r1 := 0) (r2 := 0) (r3 := 0) rfl rfl ?_
      exact k h5 g5 F6
    ·
      refine wi_aload_n (i := 0) (x := 56) (nx := 23) (r1 := 0) (r2 := 0) (r3 := 0) rfl rfl ?_
      refine wr_gr (k0 := 56) (x := 57) (nx := 26) (r1 := 6) (r2 := 2) (r3 := 0) rfl rfl (by decide) rfl ⟨rfl, rfl⟩ rfl ?_
      refine wi_iload_n (i := 3) (e := x4) (nx := 27) (r1 := 0) (r2 := 0) (r3 := 0) rfl rfl ?_
      refine wi_iconst (n := (-1)) (nx := 28) (r1 := 0) (r2 := 0) (r3 := 0) rfl ?_
      obtain ⟨i8, ei8⟩ : ∃ q : Nat, x4 = (q : Int) := ⟨(x4).toNat, by omega⟩
      refine wr_is (k0 := 57) (a := x4) (f := i8) (x := -1) (bl := -2147483648) (bh := 2147483647) (nx := 29) (r1 := 0) (r2 := 0) (r3 := 0) rfl (by decide) rfl (by omega) (by omega) (by decide) g5 rfl (by omega) (fun h9 g9 w9 u9 => ?_)
      have F10 := F6.then rfl (FR.rngp (lo := 57) (hi := 57) u9 (by decide))
      have F11 := u5.then rfl (FR.rngp (lo := 57) (hi := 57) u9 (by decide))
      refine wr_iinc (i := 3) (n := 1) (v := x4) (fun e12 => [(3, vi e12), (0, .ref 56), (2, vi e2)]) (nx := 32) (r1 := 0) (r2 := 0) (r3 := 0) rfl rfl (fun _ => rfl) (fun e12 (fe12 : e12 = x4 + 1) => ?_)
      refine wi_goto (nx := 35) (r1 := 17) (r2 := 0) (r3 := 0) rfl ?_
      refine wp.lo (lo := [(0, .ref 56), (2, vi e2), (3, vi e12)]) ⟨rfl, rfl, rfl, trivial⟩ rfl ?_
      exact I5 e12 h9 ⟨g9, F10, F11, (show (0 ≤ e12 ∧ e12 ≤ 11520) by omega)⟩ (show ((11520 : Int) + 1 - e12).toNat < ((11520 : Int) + 1 - x4).toNat by omega)
-- method 165: Unloading.keyOf(III)I
set_option maxRecDepth 100000 in
set_option maxHeartbeats 100000000 in
theorem ct_165_56 {L : Nat} {xs : Nat → Int32} {d b c : Nat} {h : hp} {cr : Nat → Nat → Option Nat} {Q : hp_Q} (hcr : CR cr)  (g : GI h) (a0 : Int) (a1 : Int) (a2 : Int) (q0_ : -2147483648 ≤ a0 ∧ a0 ≤ 2147483647) (q1_ : -2147483648 ≤ a1 ∧ a1 ≤ 2147483647) (q2_ : -2147483648 ≤ a2 ∧ a2 ≤ 2147483647)  (k : ∀ (z0 : Int), (0 ≤ z0 ∧ z0 ≤ 11519) → Q (.inl (some (vi z0))) (hp_w h cr) b c) : wp (md_xa (L, xs)) (d + 1) 165 (0, [(0, .ref 56), (1, vi a0), (2, vi a1), (3, vi a2)], [], hp_w h cr, b, c) Q := by
  have F0 : FR [] h h := FR.refl
  refine wi_iload_n (i := 1) (e := a0) (nx := 1) (r1 := 0) (r2 := 0) (r3 := 0) rfl rfl ?_
  refine wi_if (cd := .ne) (nx := 4) (r1 := 8) (r2 := 0) (r3 := 0) rfl (by omega) (fun (q1 : a0 ≠ 0) => ?_) (fun (q1 : ¬ (a0 ≠ 0)) => ?_)
  ·
    refine wi_iload_n (i := 1) (e := a0) (nx := 9) (r1 := 0) (r2 := 0) (r3 := 0) rfl rfl ?_
    refine wi_iconst (n := 5) (nx := 10) (r1 := 0) (r2 := 0) (r3 := 0) rfl ?_
    refine wr_mulW (nx := 11) (r1 := 0) (r2 := 0) (r3 := 0) rfl (fun e2 (fe2 : -2147483648 ≤ e2 ∧ e2 ≤ 2147483647) => ?_)
    refine wi_iload_n (i := 2) (e := a1) (nx := 12) (r1 := 0) (r2 := 0) (r3 := 0) rfl rfl ?_
    refine wr_addW (nx := 13) (r1 := 0) (r2 := 0) (r3 := 0) rfl (fun e3 (fe3 : -2147483648 ≤ e3 ∧ e3 ≤ 2147483647) => ?_)
    refine wi_bipush (n := 9) (nx := 15) (r1 := 0) (r2 := 0) (r3 := 0) rfl (by decide) ?_
    refine wr_mulW (nx := 16) (r1 := 0) (r2 := 0) (r3 := 0) rfl (fun e4 (fe4 : -2147483648 ≤ e4 ∧ e4 ≤ 2147483647) => ?_)
    refine wi_iload_n (i := 3) (e := a2) (nx := 17) (r1 := 0) (r2 := 0) (r3 := 0) rfl rfl ?_
    refine wr_addW (nx := 18) (r1 := 0) (r2 := 0) (r3 := 0) rfl (fun e5 (fe5 : -2147483648 ≤ e5 ∧ e5 ≤ 2147483647) => ?_)
    refine wi_iconst (n := 1) (nx := 19) (r1 := 0) (r2 := 0) (r3 := 0) rfl ?_
    refine wr_subW (nx := 20) (r1 := 0) (r2 := 0) (r3 := 0) rfl (fun e6 (fe6 : -2147483648 ≤ e6 ∧ e6 ≤ 2147483647) => ?_)
    refine wi_istore (i := 4) (e := e6) (lo2 := [(4, vi e6), (0, .ref 56), (1, vi a0), (2, vi a1), (3, vi a2)]) (nx := 22) (r1 := 0) (r2 := 0) (r3 := 0) rfl rfl ?_
    refine wi_iload (i := 4) (e := e6) (nx := 24) (r1 := 0) (r2 := 0) (r3 := 0) rfl rfl ?_
    refine wi_iconst (n := 0) (nx := 25) (r1 := 0) (r2 := 0) (r3 := 0) rfl ?_
    refine wi_S (rest := []) (as := [vi e6, vi 0]) (nx := 28) (r1 := 353) (r2 := 18) (r3 := 0) rfl rfl rfl (of_decide_eq_true rfl) rfl rfl (of_decide_eq_true rfl) (of_decide_eq_true rfl) ?_
    refine wi_iload_n (i := 0) (e := e6) (nx := 1) (r1 := 0) (r2 := 0) (r3 := 0) rfl rfl ?_
    refine wi_iload_n (i := 1) (e := 0) (nx := 2) (r1 := 0) (r2 := 0) (r3 := 0) rfl rfl ?_
    refine wi_icmp (cd := .lt) (nx := 5) (r1 := 9) (r2 := 0) (r3 := 0) rfl (by omega) (by omega) (fun (q7 : e6 < 0) => ?_) (fun (q7 : ¬ (e6 < 0)) => ?_)
    ·
      refine wi_iload_n (i := 1) (e := 0) (nx := 10) (r1 := 0) (r2 := 0) (r3 := 0) rfl rfl ?_
      refine wi_ireturn (nx := 11) (r1 := 0) (r2 := 0) (r3 := 0) rfl rfl ?_
      refine wk_i ?_
      refine wi_aload_n (i := 0) (x := 56) (nx := 29) (r1 := 0) (r2 := 0) (r3 := 0) rfl rfl ?_
      refine wr_gr (k0 := 56) (x := 57) (nx := 32) (r1 := 6) (r2 := 2) (r3 := 0) rfl rfl (by decide) rfl ⟨rfl, rfl⟩ rfl ?_
      refine wr_al (k0 := 57) (e := 11520) (nx := 33) (r1 := 0) (r2 := 0) (r3 := 0) rfl (by decide) rfl rfl ?_
      refine wi_iconst (n := 1) (nx := 34) (r1 := 0) (r2 := 0) (r3 := 0) rfl ?_
      refine wr_subL (11519) (nx := 35) (r1 := 0) (r2 := 0) (r3 := 0) rfl (by decide) ?_
      refine wi_S (rest := []) (as := [vi 0, vi 11519]) (nx := 38) (r1 := 354) (r2 := 18) (r3 := 0) rfl rfl rfl (of_decide_eq_true rfl) rfl rfl (of_decide_eq_true rfl) (of_decide_eq_true rfl) ?_
      refine wi_iload_n (i := 0) (e := 0) (nx := 1) (r1 := 0) (r2 := 0) (r3 := 0) rfl rfl ?_
      refine wi_iload_n (i := 1) (e := 11519) (nx := 2) (r1 := 0) (r2 := 0) (r3 := 0) rfl rfl ?_
      refine wi_icmp (cd := .gt) (nx := 5) (r1 := 9) (r2 := 0) (r3 := 0) rfl (by omega) (by omega) (fun (q8 : 11519 < 0) => by exfalso; omega) (fun (q8 : ¬ (11519 < 0)) => ?_)
      refine wi_iload_n (i := 0) (e := 0) (nx := 6) (r1 := 0) (r2 := 0) (r3 := 0) rfl rfl ?_
      refine wi_goto (nx := 9) (r1 := 10) (r2 := 0) (r3 := 0) rfl ?_
      refine wi_ireturn (nx := 11) (r1 := 0) (r2 := 0) (r3 := 0) rfl rfl ?_
      refine wk_i ?_
      refine wi_ireturn (nx := 39) (r1 := 0) (r2 := 0) (r3 := 0) rfl rfl ?_
      exact k 0 (by omega)
    ·
      refine wi_iload_n (i := 0) (e := e6) (nx := 6) (r1 := 0) (r2 := 0) (r3 := 0) rfl rfl ?_
      refine wi_goto (nx := 9) (r1 := 10) (r2 := 0) (r3 := 0) rfl ?_
      refine wi_ireturn (nx := 11) (r1 := 0) (r2 := 0) (r3 := 0) rfl rfl ?_
      refine wk_i ?_
      refine wi_aload_n (i := 0) (x := 56) (nx := 29) (r1 := 0) (r2 := 0) (r3 := 0) rfl rfl ?_
      refine wr_gr (k0 := 56) (x := 57) (nx := 32) (r1 := 6) (r2 := 2) (r3 := 0) rfl rfl (by decide) rfl ⟨rfl, rfl⟩ rfl ?_
      refine wr_al (k0 := 57) (e := 11520) (nx := 33) (r1 := 0) (r2 := 0) (r3 := 0) rfl (by decide) rfl rfl ?_
      refine wi_iconst (n := 1) (nx := 34) (r1 := 0) (r2 := 0) (r3 := 0) rfl ?_
      refine wr_subL (11519) (nx := 35) (r1 := 0) (r2 := 0) (r3 := 0) rfl (by decide) ?_
      refine wi_S (rest := []) (as := [vi e6, vi 11519]) (nx := 38) (r1 := 354) (r2 := 18) (r3 := 0) rfl rfl rfl (of_decide_eq_true rfl) rfl rfl (of_decide_eq_true rfl) (of_decide_eq_true rfl) ?_
      refine wi_iload_n (i := 0) (e := e6) (nx := 1) (r1 := 0) (r2 := 0) (r3 := 0) rfl rfl ?_
      refine wi_iload_n (i := 1) (e := 11519) (nx := 2) (r1 := 0) (r2 := 0) (r3 := 0) rfl rfl ?_
      refine wi_icmp (cd := .gt) (nx := 5) (r1 := 9) (r2 := 0) (r3 := 0) rfl (by omega) (by omega) (fun (q8 : 11519 < e6) => ?_) (fun (q8 : ¬ (11519 < e6)) => ?_)
      ·
        refine wi_iload_n (i := 1) (e := 11519) (nx := 10) (r1 := 0) (r2 := 0) (r3 := 0) rfl rfl ?_
        refine wi_ireturn (nx := 11) (r1 := 0) (r2 := 0) (r3 := 0) rfl rfl ?_
        refine wk_i ?_
        refine wi_ireturn (nx := 39) (r1 := 0) (r2 := 0) (r3 := 0) rfl rfl ?_
        exact k 11519 (by omega)
      ·
        refine wi_iload_n (i := 0) (e := e6) (nx := 6) (r1 := 0) (r2 := 0) (r3 := 0) rfl rfl ?_
        refine wi_goto (nx := 9) (r1 := 10) (r2 := 0) (r3 := 0) rfl ?_
        refine wi_ireturn (nx := 11) (r1 := 0) (r2 := 0) (r3 := 0) rfl rfl ?_
        refine wk_i ?_
        refine wi_ireturn (nx := 39) (r1 := 0) (r2 := 0) (r3 := 0) rfl rfl ?_
        exact k e6 (by omega)
  ·
    refine wi_iconst (n := 0) (nx := 5) (r1 := 0) (r2 := 0) (r3 := 0) rfl ?_
    refine wi_goto (nx := 8) (r1 := 20) (r2 := 0) (r3 := 0) rfl ?_
    refine wi_istore (i := 4) (e := 0) (lo2 := [(4, vi 0), (0, .ref 56), (1, vi a0), (2, vi a1), (3, vi a2)]) (nx := 22) (r1 := 0) (r2 := 0) (r3 := 0) rfl rfl ?_
    refine wi_iload (i := 4) (e := 0) (nx := 24) (r1 := 0) (r2 := 0) (r3 := 0) rfl rfl ?_
    refine wi_iconst (n := 0) (nx := 25) (r1 := 0) (r2 := 0) (r3 := 0) rfl ?_
    refine wi_S (rest := []) (as := [vi 0, vi 0]) (nx := 28) (r1 := 353) (r2 := 18) (r3 := 0) rfl rfl rfl (of_decide_eq_true rfl) rfl rfl (of_decide_eq_true rfl) (of_decide_eq_true rfl) ?_
    refine wi_iload_n (i := 0) (e := 0) (nx := 1) (r1 := 0) (r2 := 0) (r3 := 0) rfl rfl ?_
    refine wi_iload_n (i := 1) (e := 0) (nx := 2) (r1 := 0) (r2 := 0) (r3 := 0) rfl rfl ?_
    refine wi_icmp (cd := .lt) (nx := 5) (r1 := 9) (r2 := 0) (r3 := 0) rfl (by omega) (by omega) (fun (q2 : 0 < 0) => by exfalso; omega) (fun (q2 : ¬ (0 < 0)) => ?_)
    refine wi_iload_n (i := 0) (e := 0) (nx := 6) (r1 := 0) (r2 := 0) (r3 := 0) rfl rfl ?_
    refine wi_goto (nx := 9) (r1 := 10) (r2 := 0) (r3 := 0) rfl ?_
    refine wi_ireturn (nx := 11) (r1 := 0) (r2 := 0) (r3 := 0) rfl rfl ?_
    refine wk_i ?_
    refine wi_aload_n (i := 0) (x := 56) (nx := 29) (r1 := 0) (r2 := 0) (r3 := 0) rfl rfl ?_
    refine wr_gr (k0 := 56) (x := 57) (nx := 32) (r1 := 6) (r2 := 2) (r3 := 0) rfl rfl (by decide) rfl ⟨rfl, rfl⟩ rfl ?_
    refine wr_al (k0 := 57) (e := 11520) (nx := 33) (r1 := 0) (r2 := 0) (r3 := 0) rfl (by decide) rfl rfl ?_
    refine wi_iconst (n := 1) (nx := 34) (r1 := 0) (r2 := 0) (r3 := 0) rfl ?_
    refine wr_subL (11519) (nx := 35) (r1 := 0) (r2 := 0) (r3 := 0) rfl (by decide) ?_
    refine wi_S (rest := []) (as := [vi 0, vi 11519]) (nx := 38) (r1 := 354) (r2 := 18) (r3 := 0) rfl rfl rfl (of_decide_eq_true rfl) rfl rfl (of_decide_eq_true rfl) (of_decide_eq_true rfl) ?_
    refine wi_iload_n (i := 0) (e := 0) (nx := 1) (r1 := 0) (r2 := 0) (r3 := 0) rfl rfl ?_
    refine wi_iload_n (i := 1) (e := 11519) (nx := 2) (r1 := 0) (r2 := 0) (r3 := 0) rfl rfl ?_
    refine wi_icmp (cd := .gt) (nx := 5) (r1 := 9) (r2 := 0) (r3 := 0) rfl (by omega) (by omega) (fun (q3 : 11519 < 0) => by exfalso; omega) (fun (q3 : ¬ (11519 < 0)) => ?_)
    refine wi_iload_n (i := 0) (e := 0) (nx := 6) (r1 := 0) (r2 := 0) (r3 := 0) rfl rfl ?_
    refine wi_goto (nx := 9) (r1 := 10) (r2 := 0) (r3 := 0) rfl ?_
    refine wi_ireturn (nx := 11) (r1 := 0) (r2 := 0) (r3 := 0) rfl rfl ?_
    refine wk_i ?_
    refine wi_ireturn (nx := 39) (r1 := 0) (r2 := 0) (r3 := 0) rfl rfl ?_
    exact k 0 (by omega)
-- method 167: Unloading.fitsOut(II)Z
set_option maxRecDepth 100000 in
set_option maxHeartbeats 100000000 in
theorem ct_167_56 {L : Nat} {xs : Nat → Int32} {d b c : Nat} {h : hp} {cr : Nat → Nat → Option Nat} {Q : hp_Q} (hcr : CR cr)  (g : GI h) (a0 : Int) (a1 : Int) (q0_ : -2147483648 ≤ a0 ∧ a0 ≤ 2147483647) (q1_ : -2147483648 ≤ a1 ∧ a1 ≤ 2147483647)  (k : ∀ (z0 : Int), (0 ≤ z0 ∧ z0 ≤ 1) → Q (.inl (some (vi z0))) (hp_w h cr) b c) : wp (md_xa (L, xs)) d 167 (0, [(0, .ref 56), (1, vi a0), (2, vi a1)], [], hp_w h cr, b, c) Q := by
  have F0 : FR [] h h := FR.refl
  refine wi_iload_n (i := 2) (e := a1) (nx := 1) (r1 := 0) (r2 := 0) (r3 := 0) rfl rfl ?_
  refine wi_iload_n (i := 1) (e := a0) (nx := 2) (r1 := 0) (r2 := 0) (r3 := 0) rfl rfl ?_
  refine wi_aload_n (i := 0) (x := 56) (nx := 3) (r1 := 0) (r2 := 0) (r3 := 0) rfl rfl ?_
  refine wr_gr (k0 := 56) (x := 3) (nx := 6) (r1 := 6) (r2 := 0) (r3 := 0) rfl rfl (by decide) rfl ⟨rfl, rfl⟩ rfl ?_
  have b1 := gi_b (lo := -2147483648) (hi := 2147483647) g 3 3 rfl
  refine wr_gi0 (k0 := 3) (x := h 3 3) (nx := 9) (r1 := 2) (r2 := 3) (r3 := 0) rfl rfl (by decide) rfl ⟨rfl, rfl⟩ rfl rfl ?_
  refine wr_subW (nx := 10) (r1 := 0) (r2 := 0) (r3 := 0) rfl (fun e2 (fe2 : -2147483648 ≤ e2 ∧ e2 ≤ 2147483647) => ?_)
  refine wi_icmp (cd := .lt) (nx := 13) (r1 := 30) (r2 := 0) (r3 := 0) rfl (by omega) (by omega) (fun (q3 : a1 < e2) => ?_) (fun (q3 : ¬ (a1 < e2)) => ?_)
  ·
    refine wi_iconst (n := 0) (nx := 31) (r1 := 0) (r2 := 0) (r3 := 0) rfl ?_
    refine wi_zreturn (nx := 32) (r1 := 0) (r2 := 0) (r3 := 0) rfl rfl (by omega) ?_
    exact k 0 (by omega)
  ·
    refine wi_iload_n (i := 2) (e := a1) (nx := 14) (r1 := 0) (r2 := 0) (r3 := 0) rfl rfl ?_
    refine wi_iload_n (i := 1) (e := a0) (nx := 15) (r1 := 0) (r2 := 0) (r3 := 0) rfl rfl ?_
    refine wi_aload_n (i := 0) (x := 56) (nx := 16) (r1 := 0) (r2 := 0) (r3 := 0) rfl rfl ?_
    refine wr_gr (k0 := 56) (x := 3) (nx := 19) (r1 := 6) (r2 := 0) (r3 := 0) rfl rfl (by decide) rfl ⟨rfl, rfl⟩ rfl ?_
    have b4 := gi_b (lo := -2147483648) (hi := 2147483647) g 3 4 rfl
    refine wr_gi0 (k0 := 3) (x := h 3 4) (nx := 22) (r1 := 2) (r2 := 4) (r3 := 0) rfl rfl (by decide) rfl ⟨rfl, rfl⟩ rfl rfl ?_
    refine wr_addW (nx := 23) (r1 := 0) (r2 := 0) (r3 := 0) rfl (fun e5 (fe5 : -2147483648 ≤ e5 ∧ e5 ≤ 2147483647) => ?_)
    refine wi_icmp (cd := .gt) (nx := 26) (r1 := 30) (r2 := 0) (r3 := 0) rfl (by omega) (by omega) (fun (q6 : e5 < a1) => ?_) (fun (q6 : ¬ (e5 < a1)) => ?_)
    ·
      refine wi_iconst (n := 0) (nx := 31) (r1 := 0) (r2 := 0) (r3 := 0) rfl ?_
      refine wi_zreturn (nx := 32) (r1 := 0) (r2 := 0) (r3 := 0) rfl rfl (by omega) ?_
      exact k 0 (by omega)
    ·
      refine wi_iconst (n := 1) (nx := 27) (r1 := 0) (r2 := 0) (r3 := 0) rfl ?_
      refine wi_goto (nx := 30) (r1 := 31) (r2 := 0) (r3 := 0) rfl ?_
      refine wi_zreturn (nx := 32) (r1 := 0) (r2 := 0) (r3 := 0) rfl rfl (by omega) ?_
      exact k 1 (by omega)
-- method 164: Unloading.worthOfRest(IIII)I
set_option maxRecDepth 100000 in
set_option maxHeartbeats 100000000 in
theorem cr_164_56 {L : Nat} {xs : Nat → Int32} {b c : Nat} {cr : Nat → Nat → Option Nat} (hcr : CR cr) (n : Nat) : ∀ {d : Nat} {h : hp} {Q : hp_Q} (g : GI h) (a0 : Int) (a1 : Int) (a2 : Int) (a3 : Int) (q0_ : 0 ≤ a0 ∧ a0 ≤ 48) (q1_ : -2147483648 ≤ a1 ∧ a1 ≤ 2147483647) (q2_ : -2147483648 ≤ a2 ∧ a2 ≤ 2147483647) (q3_ : -2147483648 ≤ a3 ∧ a3 ≤ 2147483647)  (hn : 48 - a0 ≤ n) (k : ∀ (h2 : hp) (z0 : Int) , GI h2 → FR [(57, 57, none), (58, 58, none), (59, 59, none)] h h2 → (-2147483648 ≤ z0 ∧ z0 ≤ 2147483647) → Q (.inl (some (vi z0))) (hp_w h2 cr) b c), wp (md_xa (L, xs)) (d + 2 * n + 5) 164 (0, [(0, .ref 56), (1, vi a0), (2, vi a1), (3, vi a2), (4, vi a3)], [], hp_w h cr, b, c) Q := by
  induction n using Nat.strongRecOn with
  | _ n IH =>
  intro d h Q g a0 a1 a2 a3 q0_ q1_ q2_ q3_  hn k
  have F0 : FR [(57, 57, none), (58, 58, none), (59, 59, none)] h h := FR.refl
  refine wi_iload_n (i := 1) (e := a0) (nx := 1) (r1 := 0) (r2 := 0) (r3 := 0) rfl rfl ?_
  refine wi_aload_n (i := 0) (x := 56) (nx := 2) (r1 := 0) (r2 := 0) (r3 := 0) rfl rfl ?_
  have b1 := gi_b (lo := 0) (hi := 48) g 56 6 rfl
  refine wr_gi0 (k0 := 56) (x := h 56 6) (nx := 5) (r1 := 6) (r2 := 6) (r3 := 0) rfl rfl (by decide) rfl ⟨rfl, rfl⟩ rfl rfl ?_
  refine wi_icmp (cd := .lt) (nx := 8) (r1 := 10) (r2 := 0) (r3 := 0) rfl (by omega) (by omega) (fun (q2 : a0 < (h 56 6)) => ?_) (fun (q2 : ¬ (a0 < (h 56 6))) => ?_)
  ·
    refine wi_aload_n (i := 0) (x := 56) (nx := 11) (r1 := 0) (r2 := 0) (r3 := 0) rfl rfl ?_
    refine wi_iload_n (i := 2) (e := a1) (nx := 12) (r1 := 0) (r2 := 0) (r3 := 0) rfl rfl ?_
    refine wi_iload_n (i := 3) (e := a2) (nx := 13) (r1 := 0) (r2 := 0) (r3 := 0) rfl rfl ?_
    refine wi_iload (i := 4) (e := a3) (nx := 15) (r1 := 0) (r2 := 0) (r3 := 0) rfl rfl ?_
    refine wr_V (k0 := 56) (rest := []) (as := [.ref 56, vi a1, vi a2, vi a3]) (nx := 18) (r1 := 165) (r2 := 3) (r3 := 6) rfl rfl rfl (of_decide_eq_true rfl) rfl rfl (by decide) rfl rfl (of_decide_eq_true rfl) (of_decide_eq_true rfl) ?_
    refine ct_165_56 hcr  g a1 a2 a3 (by omega) (by omega) (by omega)  (fun z4  (fz4 : 0 ≤ z4 ∧ z4 ≤ 11519) => ?_)
    refine wk_i ?_
    refine wi_istore (i := 5) (e := z4) (lo2 := [(5, vi z4), (0, .ref 56), (1, vi a0), (2, vi a1), (3, vi a2), (4, vi a3)]) (nx := 20) (r1 := 0) (r2 := 0) (r3 := 0) rfl rfl ?_
    refine wi_aload_n (i := 0) (x := 56) (nx := 21) (r1 := 0) (r2 := 0) (r3 := 0) rfl rfl ?_
    refine wr_gr (k0 := 56) (x := 57) (nx := 24) (r1 := 6) (r2 := 2) (r3 := 0) rfl rfl (by decide) rfl ⟨rfl, rfl⟩ rfl ?_
    refine wi_iload (i := 5) (e := z4) (nx := 26) (r1 := 0) (r2 := 0) (r3 := 0) rfl rfl ?_
    obtain ⟨i5, ei5⟩ : ∃ q : Nat, z4 = (q : Int) := ⟨(z4).toNat, by omega⟩
    have b6 := gi_b (lo := -2147483648) (hi := 2147483647) g 57 i5 rfl
    refine wr_ia (k0 := 57) (a := z4) (f := i5) (x := h 57 i5) (nx := 27) (r1 := 0) (r2 := 0) (r3 := 0) rfl (by decide) rfl (by omega) (by omega) (by decide) rfl ?_
    refine wi_iconst (n := (-1)) (nx := 28) (r1 := 0) (r2 := 0) (r3 := 0) rfl ?_
    refine wi_icmp (cd := .eq) (nx := 31) (r1 := 39) (r2 := 0) (r3 := 0) rfl (by omega) (by omega) (fun (q7 : (h 57 i5) = (-1)) => ?_) (fun (q7 : ¬ ((h 57 i5) = (-1))) => ?_)
    ·
      refine wi_ldc (e := 1048576) (nx := 41) (r1 := 0) (r2 := 1048576) (r3 := 0) rfl rfl (by decide) ?_
      refine wi_istore (i := 6) (e := 1048576) (lo2 := [(6, vi 1048576), (5, vi z4), (0, .ref 56), (1, vi a0), (2, vi a1), (3, vi a2), (4, vi a3)]) (nx := 43) (r1 := 0) (r2 := 0) (r3 := 0) rfl rfl ?_
      refine wi_iconst (n := 0) (nx := 44) (r1 := 0) (r2 := 0) (r3 := 0) rfl ?_
      refine wi_istore (i := 7) (e := 0) (lo2 := [(7, vi 0), (6, vi 1048576), (5, vi z4), (0, .ref 56), (1, vi a0), (2, vi a1), (3, vi a2), (4, vi a3)]) (nx := 46) (r1 := 0) (r2 := 0) (r3 := 0) rfl rfl ?_
      refine wp.lo (lo := [(0, .ref 56), (1, vi a0), (2, vi a1), (3, vi a2), (4, vi a3), (5, vi z4), (6, vi 1048576), (7, vi 0)]) ⟨rfl, rfl, rfl, rfl, rfl, rfl, rfl, rfl, trivial⟩ rfl ?_
      refine wl_2 (fun x8 x9 h10 => GI h10 ∧ FR [(57, 57, none), (58, 58, none), (59, 59, none)] h h10 ∧ FR [(57, 57, none), (58, 58, none), (59, 59, none)] h h10 ∧ ((-2147483648 ≤ x8 ∧ x8 ≤ 1048576) ∧ (0 ≤ x9 ∧ x9 ≤ 4))) (fun x8 x9 h10 => ((4 : Int) + 1 - x9).toNat) (fun x8 x9 h10 => (46, [(0, .ref 56), (1, vi a0), (2, vi a1), (3, vi a2), (4, vi a3), (5, vi z4), (6, vi x8), (7, vi x9)], [], hp_w h10 cr, b, c)) ?_ 1048576 0 h ⟨g, F0, FR.refl, (show (-2147483648 ≤ 1048576 ∧ 1048576 ≤ 1048576) ∧ (0 ≤ 0 ∧ 0 ≤ 4) by omega)⟩
      intro x8 x9 h10 ⟨g10, F11, u10, f10⟩ I10
      refine wi_iload (i := 7) (e := x9) (nx := 48) (r1 := 0) (r2 := 0) (r3 := 0) rfl rfl ?_
      refine wi_aload_n (i := 0) (x := 56) (nx := 49) (r1 := 0) (r2 := 0) (r3 := 0) rfl rfl ?_
      refine wr_gr (k0 := 56) (x := 3) (nx := 52) (r1 := 6) (r2 := 0) (r3 := 0) rfl rfl (by decide) rfl ⟨rfl, rfl⟩ rfl ?_
      have b12 := gi_b (lo := 0) (hi := 4) g 3 1 rfl
      refine wr_gi0 (k0 := 3) (x := h 3 1) (nx := 55) (r1 := 2) (r2 := 1) (r3 := 0) rfl rfl (by decide) rfl ⟨rfl, rfl⟩ rfl (u10 3 1 rfl) ?_
      refine wi_icmp (cd := .ge) (nx := 58) (r1 := 98) (r2 := 0) (r3 := 0) rfl (by omega) (by omega) (fun (q13 : (h 3 1) ≤ x9) => ?_) (fun (q13 : ¬ ((h 3 1) ≤ x9)) => ?_)
      ·
        refine wi_aload_n (i := 0) (x := 56) (nx := 99) (r1 := 0) (r2 := 0) (r3 := 0) rfl rfl ?_
        refine wr_gr (k0 := 56) (x := 57) (nx := 102) (r1 := 6) (r2 := 2) (r3 := 0) rfl rfl (by decide) rfl ⟨rfl, rfl⟩ rfl ?_
        refine wi_iload (i := 5) (e := z4) (nx := 104) (r1 := 0) (r2 := 0) (r3 := 0) rfl rfl ?_
        refine wi_iload (i := 6) (e := x8) (nx := 106) (r1 := 0) (r2 := 0) (r3 := 0) rfl rfl ?_
        refine wr_is (k0 := 57) (a := z4) (f := i5) (x := x8) (bl := -2147483648) (bh := 2147483647) (nx := 107) (r1 := 0) (r2 := 0) (r3 := 0) rfl (by decide) rfl (by omega) (by omega) (by decide) g10 rfl (by omega) (fun h14 g14 w14 u14 => ?_)
        have F15 := F11.then rfl (FR.rngp (lo := 57) (hi := 57) u14 (by decide))
        refine wi_iload (i := 6) (e := x8) (nx := 109) (r1 := 0) (r2 := 0) (r3 := 0) rfl rfl ?_
        refine wi_ireturn (nx := 110) (r1 := 0) (r2 := 0) (r3 := 0) rfl rfl ?_
        exact k h14 x8 g14 F15 (by omega)
      ·
        refine wi_aload_n (i := 0) (x := 56) (nx := 59) (r1 := 0) (r2 := 0) (r3 := 0) rfl rfl ?_
        refine wi_iload (i := 7) (e := x9) (nx := 61) (r1 := 0) (r2 := 0) (r3 := 0) rfl rfl ?_
        refine wi_iload_n (i := 1) (e := a0) (nx := 62) (r1 := 0) (r2 := 0) (r3 := 0) rfl rfl ?_
        refine wi_iload_n (i := 2) (e := a1) (nx := 63) (r1 := 0) (r2 := 0) (r3 := 0) rfl rfl ?_
        refine wi_iload_n (i := 3) (e := a2) (nx := 64) (r1 := 0) (r2 := 0) (r3 := 0) rfl rfl ?_
        refine wi_iload (i := 4) (e := a3) (nx := 66) (r1 := 0) (r2 := 0) (r3 := 0) rfl rfl ?_
        refine wr_V (k0 := 56) (rest := []) (as := [.ref 56, vi x9, vi a0, vi a1, vi a2, vi a3]) (nx := 69) (r1 := 166) (r2 := 5) (r3 := 6) rfl rfl rfl (of_decide_eq_true rfl) rfl rfl (by decide) rfl rfl (of_decide_eq_true rfl) (of_decide_eq_true rfl) ?_
        refine wi_aload_n (i := 0) (x := 56) (nx := 1) (r1 := 0) (r2 := 0) (r3 := 0) rfl rfl ?_
        refine wr_gr (k0 := 56) (x := 18) (nx := 4) (r1 := 6) (r2 := 1) (r3 := 0) rfl rfl (by decide) rfl ⟨rfl, rfl⟩ rfl ?_
        refine wr_gr (k0 := 18) (x := 21) (nx := 7) (r1 := 4) (r2 := 3) (r3 := 0) rfl rfl (by decide) rfl ⟨rfl, rfl⟩ rfl ?_
        refine wi_iload_n (i := 1) (e := x9) (nx := 8) (r1 := 0) (r2 := 0) (r3 := 0) rfl rfl ?_
        obtain ⟨i14, ei14⟩ : ∃ q : Nat, x9 = (q : Int) := ⟨(x9).toNat, by omega⟩
        refine wr_aa (k0 := 21) (a := x9) (f := i14) (x := 21 + 8 + 2 * i14) (nx := 9) (r1 := 0) (r2 := 0) (r3 := 0) rfl (by decide) rfl (Or.inl rfl) (by omega) (by omega) (by decide) (hcr.1 21 (by decide) i14 (by omega)) ?_
        obtain ⟨k15, kk15, mk15⟩ : ∃ q, Rw q ∧ q = 21 + 8 + 2 * i14 := ⟨_, rw_lane 21 (by decide) i14 (by omega), rfl⟩
        rw [← mk15]
        refine wi_aload_n (i := 0) (x := 56) (nx := 10) (r1 := 0) (r2 := 0) (r3 := 0) rfl rfl ?_
        refine wr_gr (k0 := 56) (x := 59) (nx := 13) (r1 := 6) (r2 := 4) (r3 := 0) rfl rfl (by decide) rfl ⟨rfl, rfl⟩ rfl ?_
        refine wi_iload_n (i := 1) (e := x9) (nx := 14) (r1 := 0) (r2 := 0) (r3 := 0) rfl rfl ?_
        have b16 := gi_b (lo := -2147483648) (hi := 2147483647) g10 59 i14 rfl
        refine wr_ia (k0 := 59) (a := x9) (f := i14) (x := h10 59 i14) (nx := 15) (r1 := 0) (r2 := 0) (r3 := 0) rfl (by decide) rfl (by omega) (by omega) (by decide) rfl ?_
        refine wr_V (k0 := k15) (rest := []) (as := [.ref k15, vi (h10 59 i14)]) (nx := 18) (r1 := 154) (r2 := 1) (r3 := 5) rfl rfl rfl (of_decide_eq_true rfl) rfl rfl kk15.k kk15.1 rfl (of_decide_eq_true rfl) (of_decide_eq_true rfl) ?_
        refine ct_154_R hcr kk15 g10 (h10 59 i14) (by omega)  (fun z18  (fz18 : -2147483648 ≤ z18 ∧ z18 ≤ 2147483647) => ?_)
        refine wk_i ?_
        refine wi_istore (i := 6) (e := z18) (lo2 := [(6, vi z18), (0, .ref 56), (1, vi x9), (2, vi a0), (3, vi a1), (4, vi a2), (5, vi a3)]) (nx := 20) (r1 := 0) (r2 := 0) (r3 := 0) rfl rfl ?_
        refine wi_iload (i := 6) (e := z18) (nx := 22) (r1 := 0) (r2 := 0) (r3 := 0) rfl rfl ?_
        refine wi_if (cd := .lt) (nx := 25) (r1 := 53) (r2 := 0) (r3 := 0) rfl (by omega) (fun (q19 : z18 < 0) => ?_) (fun (q19 : ¬ (z18 < 0)) => ?_)
        ·
          refine wi_ldc (e := 1048576) (nx := 55) (r1 := 0) (r2 := 1048576) (r3 := 0) rfl rfl (by decide) ?_
          refine wi_ireturn (nx := 56) (r1 := 0) (r2 := 0) (r3 := 0) rfl rfl ?_
          refine wk_i ?_
          refine wi_istore (i := 8) (e := 1048576) (lo2 := [(8, vi 1048576), (0, .ref 56), (1, vi a0), (2, vi a1), (3, vi a2), (4, vi a3), (5, vi z4), (6, vi x8), (7, vi x9)]) (nx := 71) (r1 := 0) (r2 := 0) (r3 := 0) rfl rfl ?_
          refine wi_iload (i := 8) (e := 1048576) (nx := 73) (r1 := 0) (r2 := 0) (r3 := 0) rfl rfl ?_
          refine wi_iload (i := 6) (e := x8) (nx := 75) (r1 := 0) (r2 := 0) (r3 := 0) rfl rfl ?_
          refine wi_icmp (cd := .ge) (nx := 78) (r1 := 92) (r2 := 0) (r3 := 0) rfl (by omega) (by omega) (fun (q20 : x8 ≤ 1048576) => ?_) (fun (q20 : ¬ (x8 ≤ 1048576)) => by exfalso; omega)
          refine wr_iinc (i := 7) (n := 1) (v := x9) (fun e21 => [(7, vi e21), (8, vi 1048576), (0, .ref 56), (1, vi a0), (2, vi a1), (3, vi a2), (4, vi a3), (5, vi z4), (6, vi x8)]) (nx := 95) (r1 := 0) (r2 := 0) (r3 := 0) rfl rfl (fun _ => rfl) (fun e21 (fe21 : e21 = x9 + 1) => ?_)
          refine wi_goto (nx := 98) (r1 := 46) (r2 := 0) (r3 := 0) rfl ?_
          refine wp.lo (lo := [(0, .ref 56), (1, vi a0), (2, vi a1), (3, vi a2), (4, vi a3), (5, vi z4), (6, vi x8), (7, vi e21)]) ⟨rfl, rfl, rfl, rfl, rfl, rfl, rfl, rfl, trivial⟩ rfl ?_
          exact I10 x8 e21 h10 ⟨g10, F11, u10, (show (-2147483648 ≤ x8 ∧ x8 ≤ 1048576) ∧ (0 ≤ e21 ∧ e21 ≤ 4) by omega)⟩ (show ((4 : Int) + 1 - e21).toNat < ((4 : Int) + 1 - x9).toNat by omega)
        ·
          refine wi_iload (i := 6) (e := z18) (nx := 27) (r1 := 0) (r2 := 0) (r3 := 0) rfl rfl ?_
          refine wi_bipush (n := 12) (nx := 29) (r1 := 0) (r2 := 0) (r3 := 0) rfl (by decide) ?_
          refine wi_icmp (cd := .ge) (nx := 32) (r1 := 53) (r2 := 0) (r3 := 0) rfl (by omega) (by omega) (fun (q20 : 12 ≤ z18) => ?_) (fun (q20 : ¬ (12 ≤ z18)) => ?_)
          ·
            refine wi_ldc (e := 1048576) (nx := 55) (r1 := 0) (r2 := 1048576) (r3 := 0) rfl rfl (by decide) ?_
            refine wi_ireturn (nx := 56) (r1 := 0) (r2 := 0) (r3 := 0) rfl rfl ?_
            refine wk_i ?_
            refine wi_istore (i := 8) (e := 1048576) (lo2 := [(8, vi 1048576), (0, .ref 56), (1, vi a0), (2, vi a1), (3, vi a2), (4, vi a3), (5, vi z4), (6, vi x8), (7, vi x9)]) (nx := 71) (r1 := 0) (r2 := 0) (r3 := 0) rfl rfl ?_
            refine wi_iload (i := 8) (e := 1048576) (nx := 73) (r1 := 0) (r2 := 0) (r3 := 0) rfl rfl ?_
            refine wi_iload (i := 6) (e := x8) (nx := 75) (r1 := 0) (r2 := 0) (r3 := 0) rfl rfl ?_
            refine wi_icmp (cd := .ge) (nx := 78) (r1 := 92) (r2 := 0) (r3 := 0) rfl (by omega) (by omega) (fun (q21 : x8 ≤ 1048576) => ?_) (fun (q21 : ¬ (x8 ≤ 1048576)) => by exfalso; omega)
            refine wr_iinc (i := 7) (n := 1) (v := x9) (fun e22 => [(7, vi e22), (8, vi 1048576), (0, .ref 56), (1, vi a0), (2, vi a1), (3, vi a2), (4, vi a3), (5, vi z4), (6, vi x8)]) (nx := 95) (r1 := 0) (r2 := 0) (r3 := 0) rfl rfl (fun _ => rfl) (fun e22 (fe22 : e22 = x9 + 1) => ?_)
            refine wi_goto (nx := 98) (r1 := 46) (r2 := 0) (r3 := 0) rfl ?_
            refine wp.lo (lo := [(0, .ref 56), (1, vi a0), (2, vi a1), (3, vi a2), (4, vi a3), (5, vi z4), (6, vi x8), (7, vi e22)]) ⟨rfl, rfl, rfl, rfl, rfl, rfl, rfl, rfl, trivial⟩ rfl ?_
            exact I10 x8 e22 h10 ⟨g10, F11, u10, (show (-2147483648 ≤ x8 ∧ x8 ≤ 1048576) ∧ (0 ≤ e22 ∧ e22 ≤ 4) by omega)⟩ (show ((4 : Int) + 1 - e22).toNat < ((4 : Int) + 1 - x9).toNat by omega)
          ·
            refine wi_aload_n (i := 0) (x := 56) (nx := 33) (r1 := 0) (r2 := 0) (r3 := 0) rfl rfl ?_
            refine wi_iload (i := 6) (e := z18) (nx := 35) (r1 := 0) (r2 := 0) (r3 := 0) rfl rfl ?_
            refine wi_aload_n (i := 0) (x := 56) (nx := 36) (r1 := 0) (r2 := 0) (r3 := 0) rfl rfl ?_
            refine wr_gr (k0 := 56) (x := 18) (nx := 39) (r1 := 6) (r2 := 1) (r3 := 0) rfl rfl (by decide) rfl ⟨rfl, rfl⟩ rfl ?_
            refine wr_gr (k0 := 18) (x := 26) (nx := 42) (r1 := 4) (r2 := 6) (r3 := 0) rfl rfl (by decide) rfl ⟨rfl, rfl⟩ rfl ?_
            have b21 := gi_b (lo := 0) (hi := 12) g 26 1 rfl
            refine wr_gi0 (k0 := 26) (x := h 26 1) (nx := 45) (r1 := 5) (r2 := 1) (r3 := 0) rfl rfl (by decide) rfl ⟨rfl, rfl⟩ rfl (u10 26 1 rfl) ?_
            refine wi_iload_n (i := 2) (e := a0) (nx := 46) (r1 := 0) (r2 := 0) (r3 := 0) rfl rfl ?_
            refine wr_add (nx := 47) (r1 := 0) (r2 := 0) (r3 := 0) rfl (fun e22 (fe22 : e22 = (h 26 1) + a0) => ?_)
            refine wr_V (k0 := 56) (rest := []) (as := [.ref 56, vi z18, vi e22]) (nx := 50) (r1 := 167) (r2 := 2) (r3 := 6) rfl rfl rfl (of_decide_eq_true rfl) rfl rfl (by decide) rfl rfl (of_decide_eq_true rfl) (of_decide_eq_true rfl) ?_
            refine ct_167_56 hcr  g10 z18 e22 (by omega) (by omega)  (fun z24  (fz24 : 0 ≤ z24 ∧ z24 ≤ 1) => ?_)
            refine wk_i ?_
            refine wi_if (cd := .ne) (nx := 53) (r1 := 56) (r2 := 0) (r3 := 0) rfl (by omega) (fun (q25 : z24 ≠ 0) => ?_) (fun (q25 : ¬ (z24 ≠ 0)) => ?_)
            ·
              refine wi_aload_n (i := 0) (x := 56) (nx := 57) (r1 := 0) (r2 := 0) (r3 := 0) rfl rfl ?_
              refine wr_gr (k0 := 56) (x := 18) (nx := 60) (r1 := 6) (r2 := 1) (r3 := 0) rfl rfl (by decide) rfl ⟨rfl, rfl⟩ rfl ?_
              refine wr_gr (k0 := 18) (x := 19) (nx := 63) (r1 := 4) (r2 := 1) (r3 := 0) rfl rfl (by decide) rfl ⟨rfl, rfl⟩ rfl ?_
              refine wi_iload (i := 6) (e := z18) (nx := 65) (r1 := 0) (r2 := 0) (r3 := 0) rfl rfl ?_
              obtain ⟨i26, ei26⟩ : ∃ q : Nat, z18 = (q : Int) := ⟨(z18).toNat, by omega⟩
              have b27 := gi_b (lo := -2147483648) (hi := 2147483647) g 19 i26 rfl
              refine wr_ia (k0 := 19) (a := z18) (f := i26) (x := h 19 i26) (nx := 66) (r1 := 0) (r2 := 0) (r3 := 0) rfl (by decide) rfl (by omega) (by omega) (by decide) (u10 19 i26 (fn_a (by omega) (fn_a (by omega) (fn_a (by omega) fn_0)))) ?_
              refine wi_istore (i := 7) (e := h 19 i26) (lo2 := [(7, vi (h 19 i26)), (6, vi z18), (0, .ref 56), (1, vi x9), (2, vi a0), (3, vi a1), (4, vi a2), (5, vi a3)]) (nx := 68) (r1 := 0) (r2 := 0) (r3 := 0) rfl rfl ?_
              refine wi_aload_n (i := 0) (x := 56) (nx := 69) (r1 := 0) (r2 := 0) (r3 := 0) rfl rfl ?_
              refine wr_gr (k0 := 56) (x := 3) (nx := 72) (r1 := 6) (r2 := 0) (r3 := 0) rfl rfl (by decide) rfl ⟨rfl, rfl⟩ rfl ?_
              refine wi_iload (i := 4) (e := a2) (nx := 74) (r1 := 0) (r2 := 0) (r3 := 0) rfl rfl ?_
              refine wi_iload (i := 5) (e := a3) (nx := 76) (r1 := 0) (r2 := 0) (r3 := 0) rfl rfl ?_
              refine wi_iload (i := 7) (e := h 19 i26) (nx := 78) (r1 := 0) (r2 := 0) (r3 := 0) rfl rfl ?_
              refine wr_V (k0 := 3) (rest := []) (as := [.ref 3, vi a2, vi a3, vi (h 19 i26)]) (nx := 81) (r1 := 109) (r2 := 3) (r3 := 2) rfl rfl rfl (of_decide_eq_true rfl) rfl rfl (by decide) rfl rfl (of_decide_eq_true rfl) (of_decide_eq_true rfl) ?_
              refine wi_iload_n (i := 1) (e := a2) (nx := 1) (r1 := 0) (r2 := 0) (r3 := 0) rfl rfl ?_
              refine wi_iconst (n := (-1)) (nx := 2) (r1 := 0) (r2 := 0) (r3 := 0) rfl ?_
              refine wi_icmp (cd := .ne) (nx := 5) (r1 := 7) (r2 := 0) (r3 := 0) rfl (by omega) (by omega) (fun (q28 : a2 ≠ (-1)) => ?_) (fun (q28 : ¬ (a2 ≠ (-1))) => ?_)
              ·
                refine wi_iload_n (i := 1) (e := a2) (nx := 8) (r1 := 0) (r2 := 0) (r3 := 0) rfl rfl ?_
                refine wi_iload_n (i := 3) (e := h 19 i26) (nx := 9) (r1 := 0) (r2 := 0) (r3 := 0) rfl rfl ?_
                refine wi_icmp (cd := .eq) (nx := 12) (r1 := 14) (r2 := 0) (r3 := 0) rfl (by omega) (by omega) (fun (q29 : a2 = (h 19 i26)) => ?_) (fun (q29 : ¬ (a2 = (h 19 i26))) => ?_)
                ·
                  refine wi_iload_n (i := 2) (e := a3) (nx := 15) (r1 := 0) (r2 := 0) (r3 := 0) rfl rfl ?_
                  refine wi_aload_n (i := 0) (x := 3) (nx := 16) (r1 := 0) (r2 := 0) (r3 := 0) rfl rfl ?_
                  have b30 := gi_b (lo := -2147483648) (hi := 2147483647) g 3 5 rfl
                  refine wr_gi0 (k0 := 3) (x := h 3 5) (nx := 19) (r1 := 2) (r2 := 5) (r3 := 0) rfl rfl (by decide) rfl ⟨rfl, rfl⟩ rfl (u10 3 5 rfl) ?_
                  refine wi_icmp (cd := .lt) (nx := 22) (r1 := 26) (r2 := 0) (r3 := 0) rfl (by omega) (by omega) (fun (q31 : a3 < (h 3 5)) => ?_) (fun (q31 : ¬ (a3 < (h 3 5))) => ?_)
                  ·
                    refine wi_iconst (n := 0) (nx := 27) (r1 := 0) (r2 := 0) (r3 := 0) rfl ?_
                    refine wi_ireturn (nx := 28) (r1 := 0) (r2 := 0) (r3 := 0) rfl rfl ?_
                    refine wk_i ?_
                    refine wi_istore (i := 8) (e := 0) (lo2 := [(8, vi 0), (7, vi (h 19 i26)), (6, vi z18), (0, .ref 56), (1, vi x9), (2, vi a0), (3, vi a1), (4, vi a2), (5, vi a3)]) (nx := 83) (r1 := 0) (r2 := 0) (r3 := 0) rfl rfl ?_
                    refine wi_aload_n (i := 0) (x := 56) (nx := 84) (r1 := 0) (r2 := 0) (r3 := 0) rfl rfl ?_
                    refine wr_gr (k0 := 56) (x := 3) (nx := 87) (r1 := 6) (r2 := 0) (r3 := 0) rfl rfl (by decide) rfl ⟨rfl, rfl⟩ rfl ?_
                    refine wi_iload (i := 8) (e := 0) (nx := 89) (r1 := 0) (r2 := 0) (r3 := 0) rfl rfl ?_
                    refine wi_iload (i := 7) (e := h 19 i26) (nx := 91) (r1 := 0) (r2 := 0) (r3 := 0) rfl rfl ?_
                    refine wr_V (k0 := 3) (rest := []) (as := [.ref 3, vi 0, vi (h 19 i26)]) (nx := 94) (r1 := 110) (r2 := 2) (r3 := 2) rfl rfl rfl (of_decide_eq_true rfl) rfl rfl (by decide) rfl rfl (of_decide_eq_true rfl) (of_decide_eq_true rfl) ?_
                    refine ct_110_3 hcr  g10 0 (h 19 i26) (by omega) (by omega)  (fun z33  (fz33 : -2147483648 ≤ z33 ∧ z33 ≤ 2147483647) => ?_)
                    refine wk_i ?_
                    refine wi_bipush (n := 16) (nx := 96) (r1 := 0) (r2 := 0) (r3 := 0) rfl (by decide) ?_
                    refine wr_mulW (nx := 97) (r1 := 0) (r2 := 0) (r3 := 0) rfl (fun e34 (fe34 : -2147483648 ≤ e34 ∧ e34 ≤ 2147483647) => ?_)
                    refine wi_iload (i := 8) (e := 0) (nx := 99) (r1 := 0) (r2 := 0) (r3 := 0) rfl rfl ?_
                    refine wi_iconst (n := 1) (nx := 100) (r1 := 0) (r2 := 0) (r3 := 0) rfl ?_
                    refine wi_icmp (cd := .ne) (nx := 103) (r1 := 107) (r2 := 0) (r3 := 0) rfl (by omega) (by omega) (fun (q35 : 0 ≠ 1) => ?_) (fun (q35 : ¬ (0 ≠ 1)) => by exfalso; omega)
                    refine wi_iconst (n := 0) (nx := 108) (r1 := 0) (r2 := 0) (r3 := 0) rfl ?_
                    refine wr_add (nx := 109) (r1 := 0) (r2 := 0) (r3 := 0) rfl (fun e36 (fe36 : e36 = e34 + 0) => ?_)
                    refine wi_istore (i := 9) (e := e36) (lo2 := [(9, vi e36), (8, vi 0), (7, vi (h 19 i26)), (6, vi z18), (0, .ref 56), (1, vi x9), (2, vi a0), (3, vi a1), (4, vi a2), (5, vi a3)]) (nx := 111) (r1 := 0) (r2 := 0) (r3 := 0) rfl rfl ?_
                    refine wi_iload_n (i := 3) (e := a1) (nx := 112) (r1 := 0) (r2 := 0) (r3 := 0) rfl rfl ?_
                    refine wi_aload_n (i := 0) (x := 56) (nx := 113) (r1 := 0) (r2 := 0) (r3 := 0) rfl rfl ?_
                    refine wr_gr (k0 := 56) (x := 60) (nx := 116) (r1 := 6) (r2 := 5) (r3 := 0) rfl rfl (by decide) rfl ⟨rfl, rfl⟩ rfl ?_
                    refine wi_iload_n (i := 1) (e := x9) (nx := 117) (r1 := 0) (r2 := 0) (r3 := 0) rfl rfl ?_
                    have b37 := gi_b (lo := -2147483648) (hi := 2147483647) g 60 i14 rfl
                    refine wr_ia (k0 := 60) (a := x9) (f := i14) (x := h 60 i14) (nx := 118) (r1 := 0) (r2 := 0) (r3 := 0) rfl (by decide) rfl (by omega) (by omega) (by decide) (u10 60 i14 (fn_a (by omega) (fn_a (by omega) (fn_a (by omega) fn_0)))) ?_
                    refine wr_addW (nx := 119) (r1 := 0) (r2 := 0) (r3 := 0) rfl (fun e38 (fe38 : -2147483648 ≤ e38 ∧ e38 ≤ 2147483647) => ?_)
                    refine wi_istore (i := 10) (e := e38) (lo2 := [(10, vi e38), (9, vi e36), (8, vi 0), (7, vi (h 19 i26)), (6, vi z18), (0, .ref 56), (1, vi x9), (2, vi a0), (3, vi a1), (4, vi a2), (5, vi a3)]) (nx := 121) (r1 := 0) (r2 := 0) (r3 := 0) rfl rfl ?_
                    refine wi_aload_n (i := 0) (x := 56) (nx := 122) (r1 := 0) (r2 := 0) (r3 := 0) rfl rfl ?_
                    refine wr_gr (k0 := 56) (x := 59) (nx := 125) (r1 := 6) (r2 := 4) (r3 := 0) rfl rfl (by decide) rfl ⟨rfl, rfl⟩ rfl ?_
                    refine wi_iload_n (i := 1) (e := x9) (nx := 126) (r1 := 0) (r2 := 0) (r3 := 0) rfl rfl ?_
                    refine wi_dup2 (nx := 127) (r1 := 0) (r2 := 0) (r3 := 0) rfl rfl rfl ?_
                    refine wr_ia (k0 := 59) (a := x9) (f := i14) (x := h10 59 i14) (nx := 128) (r1 := 0) (r2 := 0) (r3 := 0) rfl (by decide) rfl (by omega) (by omega) (by decide) rfl ?_
                    refine wi_iconst (n := 1) (nx := 129) (r1 := 0) (r2 := 0) (r3 := 0) rfl ?_
                    refine wr_addW (nx := 130) (r1 := 0) (r2 := 0) (r3 := 0) rfl (fun e39 (fe39 : -2147483648 ≤ e39 ∧ e39 ≤ 2147483647) => ?_)
                    refine wr_is (k0 := 59) (a := x9) (f := i14) (x := e39) (bl := -2147483648) (bh := 2147483647) (nx := 131) (r1 := 0) (r2 := 0) (r3 := 0) rfl (by decide) rfl (by omega) (by omega) (by decide) g10 rfl (by omega) (fun h40 g40 w40 u40 => ?_)
                    have F41 := F11.then rfl (FR.rngp (lo := 59) (hi := 59) u40 (by decide))
                    have F42 := u10.then rfl (FR.rngp (lo := 59) (hi := 59) u40 (by decide))
                    refine wi_iload (i := 9) (e := e36) (nx := 133) (r1 := 0) (r2 := 0) (r3 := 0) rfl rfl ?_
                    refine wi_aload_n (i := 0) (x := 56) (nx := 134) (r1 := 0) (r2 := 0) (r3 := 0) rfl rfl ?_
                    refine wi_iload_n (i := 2) (e := a0) (nx := 135) (r1 := 0) (r2 := 0) (r3 := 0) rfl rfl ?_
                    refine wi_iconst (n := 1) (nx := 136) (r1 := 0) (r2 := 0) (r3 := 0) rfl ?_
                    refine wr_add (nx := 137) (r1 := 0) (r2 := 0) (r3 := 0) rfl (fun e43 (fe43 : e43 = a0 + 1) => ?_)
                    refine wi_iload (i := 10) (e := e38) (nx := 139) (r1 := 0) (r2 := 0) (r3 := 0) rfl rfl ?_
                    refine wi_iload (i := 7) (e := h 19 i26) (nx := 141) (r1 := 0) (r2 := 0) (r3 := 0) rfl rfl ?_
                    refine wi_iload (i := 8) (e := 0) (nx := 143) (r1 := 0) (r2 := 0) (r3 := 0) rfl rfl ?_
                    refine wi_iload (i := 5) (e := a3) (nx := 145) (r1 := 0) (r2 := 0) (r3 := 0) rfl rfl ?_
                    refine wi_S (rest := [vi (h 19 i26), vi e38, vi e43, .ref 56, vi e36]) (as := [vi 0, vi a3]) (nx := 148) (r1 := 111) (r2 := 18) (r3 := 0) rfl rfl rfl (of_decide_eq_true rfl) rfl rfl (of_decide_eq_true rfl) (of_decide_eq_true rfl) ?_
                    refine wi_iload_n (i := 0) (e := 0) (nx := 1) (r1 := 0) (r2 := 0) (r3 := 0) rfl rfl ?_
                    refine wi_if (cd := .ne) (nx := 4) (r1 := 10) (r2 := 0) (r3 := 0) rfl (by omega) (fun (q44 : 0 ≠ 0) => by exfalso; omega) (fun (q44 : ¬ (0 ≠ 0)) => ?_)
                    refine wi_iload_n (i := 1) (e := a3) (nx := 5) (r1 := 0) (r2 := 0) (r3 := 0) rfl rfl ?_
                    refine wi_iconst (n := 1) (nx := 6) (r1 := 0) (r2 := 0) (r3 := 0) rfl ?_
                    refine wr_add (nx := 7) (r1 := 0) (r2 := 0) (r3 := 0) rfl (fun e45 (fe45 : e45 = a3 + 1) => ?_)
                    refine wi_goto (nx := 10) (r1 := 11) (r2 := 0) (r3 := 0) rfl ?_
                    refine wi_ireturn (nx := 12) (r1 := 0) (r2 := 0) (r3 := 0) rfl rfl ?_
                    refine wk_i ?_
                    refine wr_V (k0 := 56) (rest := [vi e36]) (as := [.ref 56, vi e43, vi e38, vi (h 19 i26), vi e45]) (nx := 151) (r1 := 164) (r2 := 4) (r3 := 6) rfl rfl rfl (of_decide_eq_true rfl) rfl rfl (by decide) rfl rfl (of_decide_eq_true rfl) (of_decide_eq_true rfl) ?_
                    refine wp_eq (e := d + 2 * (n - 1) + 5) (by omega) ?_
                    refine IH (n - 1) (by omega) g40 e43 e38 (h 19 i26) e45 (by omega) (by omega) (by omega) (by omega)  (by omega) (fun h46 z47 g46 u46 (fz47 : -2147483648 ≤ z47 ∧ z47 ≤ 2147483647) => ?_)
                    have F48 := F41.then (by decide +kernel) u46
                    have F49 := F42.then (by decide +kernel) u46
                    refine wk_i ?_
                    refine wr_addW (nx := 152) (r1 := 0) (r2 := 0) (r3 := 0) rfl (fun e50 (fe50 : -2147483648 ≤ e50 ∧ e50 ≤ 2147483647) => ?_)
                    refine wi_istore (i := 9) (e := e50) (lo2 := [(9, vi e50), (10, vi e38), (8, vi 0), (7, vi (h 19 i26)), (6, vi z18), (0, .ref 56), (1, vi x9), (2, vi a0), (3, vi a1), (4, vi a2), (5, vi a3)]) (nx := 154) (r1 := 0) (r2 := 0) (r3 := 0) rfl rfl ?_
                    refine wi_aload_n (i := 0) (x := 56) (nx := 155) (r1 := 0) (r2 := 0) (r3 := 0) rfl rfl ?_
                    refine wr_gr (k0 := 56) (x := 59) (nx := 158) (r1 := 6) (r2 := 4) (r3 := 0) rfl rfl (by decide) rfl ⟨rfl, rfl⟩ rfl ?_
                    refine wi_iload_n (i := 1) (e := x9) (nx := 159) (r1 := 0) (r2 := 0) (r3 := 0) rfl rfl ?_
                    refine wi_dup2 (nx := 160) (r1 := 0) (r2 := 0) (r3 := 0) rfl rfl rfl ?_
                    have b51 := gi_b (lo := -2147483648) (hi := 2147483647) g46 59 i14 rfl
                    refine wr_ia (k0 := 59) (a := x9) (f := i14) (x := h46 59 i14) (nx := 161) (r1 := 0) (r2 := 0) (r3 := 0) rfl (by decide) rfl (by omega) (by omega) (by decide) rfl ?_
                    refine wi_iconst (n := 1) (nx := 162) (r1 := 0) (r2 := 0) (r3 := 0) rfl ?_
                    refine wr_subW (nx := 163) (r1 := 0) (r2 := 0) (r3 := 0) rfl (fun e52 (fe52 : -2147483648 ≤ e52 ∧ e52 ≤ 2147483647) => ?_)
                    refine wr_is (k0 := 59) (a := x9) (f := i14) (x := e52) (bl := -2147483648) (bh := 2147483647) (nx := 164) (r1 := 0) (r2 := 0) (r3 := 0) rfl (by decide) rfl (by omega) (by omega) (by decide) g46 rfl (by omega) (fun h53 g53 w53 u53 => ?_)
                    have F54 := F48.then rfl (FR.rngp (lo := 59) (hi := 59) u53 (by decide))
                    have F55 := F49.then rfl (FR.rngp (lo := 59) (hi := 59) u53 (by decide))
                    refine wi_iload (i := 9) (e := e50) (nx := 166) (r1 := 0) (r2 := 0) (r3 := 0) rfl rfl ?_
                    refine wi_ldc (e := 1048576) (nx := 168) (r1 := 0) (r2 := 1048576) (r3 := 0) rfl rfl (by decide) ?_
                    refine wi_S (rest := []) (as := [vi e50, vi 1048576]) (nx := 171) (r1 := 354) (r2 := 18) (r3 := 0) rfl rfl rfl (of_decide_eq_true rfl) rfl rfl (of_decide_eq_true rfl) (of_decide_eq_true rfl) ?_
                    refine wi_iload_n (i := 0) (e := e50) (nx := 1) (r1 := 0) (r2 := 0) (r3 := 0) rfl rfl ?_
                    refine wi_iload_n (i := 1) (e := 1048576) (nx := 2) (r1 := 0) (r2 := 0) (r3 := 0) rfl rfl ?_
                    refine wi_icmp (cd := .gt) (nx := 5) (r1 := 9) (r2 := 0) (r3 := 0) rfl (by omega) (by omega) (fun (q56 : 1048576 < e50) => ?_) (fun (q56 : ¬ (1048576 < e50)) => ?_)
                    ·
                      refine wi_iload_n (i := 1) (e := 1048576) (nx := 10) (r1 := 0) (r2 := 0) (r3 := 0) rfl rfl ?_
                      refine wi_ireturn (nx := 11) (r1 := 0) (r2 := 0) (r3 := 0) rfl rfl ?_
                      refine wk_i ?_
                      refine wi_ireturn (nx := 172) (r1 := 0) (r2 := 0) (r3 := 0) rfl rfl ?_
                      refine wk_i ?_
                      refine wi_istore (i := 8) (e := 1048576) (lo2 := [(8, vi 1048576), (0, .ref 56), (1, vi a0), (2, vi a1), (3, vi a2), (4, vi a3), (5, vi z4), (6, vi x8), (7, vi x9)]) (nx := 71) (r1 := 0) (r2 := 0) (r3 := 0) rfl rfl ?_
                      refine wi_iload (i := 8) (e := 1048576) (nx := 73) (r1 := 0) (r2 := 0) (r3 := 0) rfl rfl ?_
                      refine wi_iload (i := 6) (e := x8) (nx := 75) (r1 := 0) (r2 := 0) (r3 := 0) rfl rfl ?_
                      refine wi_icmp (cd := .ge) (nx := 78) (r1 := 92) (r2 := 0) (r3 := 0) rfl (by omega) (by omega) (fun (q57 : x8 ≤ 1048576) => ?_) (fun (q57 : ¬ (x8 ≤ 1048576)) => by exfalso; omega)
                      refine wr_iinc (i := 7) (n := 1) (v := x9) (fun e58 => [(7, vi e58), (8, vi 1048576), (0, .ref 56), (1, vi a0), (2, vi a1), (3, vi a2), (4, vi a3), (5, vi z4), (6, vi x8)]) (nx := 95) (r1 := 0) (r2 := 0) (r3 := 0) rfl rfl (fun _ => rfl) (fun e58 (fe58 : e58 = x9 + 1) => ?_)
                      refine wi_goto (nx := 98) (r1 := 46) (r2 := 0) (r3 := 0) rfl ?_
                      refine wp.lo (lo := [(0, .ref 56), (1, vi a0), (2, vi a1), (3, vi a2), (4, vi a3), (5, vi z4), (6, vi x8), (7, vi e58)]) ⟨rfl, rfl, rfl, rfl, rfl, rfl, rfl, rfl, trivial⟩ rfl ?_
                      exact I10 x8 e58 h53 ⟨g53, F54, F55, (show (-2147483648 ≤ x8 ∧ x8 ≤ 1048576) ∧ (0 ≤ e58 ∧ e58 ≤ 4) by omega)⟩ (show ((4 : Int) + 1 - e58).toNat < ((4 : Int) + 1 - x9).toNat by omega)
                    ·
                      refine wi_iload_n (i := 0) (e := e50) (nx := 6) (r1 := 0) (r2 := 0) (r3 := 0) rfl rfl ?_
                      refine wi_goto (nx := 9) (r1 := 10) (r2 := 0) (r3 := 0) rfl ?_
                      refine wi_ireturn (nx := 11) (r1 := 0) (r2 := 0) (r3 := 0) rfl rfl ?_
                      refine wk_i ?_
                      refine wi_ireturn (nx := 172) (r1 := 0) (r2 := 0) (r3 := 0) rfl rfl ?_
                      refine wk_i ?_
                      refine wi_istore (i := 8) (e := e50) (lo2 := [(8, vi e50), (0, .ref 56), (1, vi a0), (2, vi a1), (3, vi a2), (4, vi a3), (5, vi z4), (6, vi x8), (7, vi x9)]) (nx := 71) (r1 := 0) (r2 := 0) (r3 := 0) rfl rfl ?_
                      refine wi_iload (i := 8) (e := e50) (nx := 73) (r1 := 0) (r2 := 0) (r3 := 0) rfl rfl ?_
                      refine wi_iload (i := 6) (e := x8) (nx := 75) (r1 := 0) (r2 := 0) (r3 := 0) rfl rfl ?_
                      refine wi_icmp (cd := .ge) (nx := 78) (r1 := 92) (r2 := 0) (r3 := 0) rfl (by omega) (by omega) (fun (q57 : x8 ≤ e50) => ?_) (fun (q57 : ¬ (x8 ≤ e50)) => ?_)
                      ·
                        refine wr_iinc (i := 7) (n := 1) (v := x9) (fun e58 => [(7, vi e58), (8, vi e50), (0, .ref 56), (1, vi a0), (2, vi a1), (3, vi a2), (4, vi a3), (5, vi z4), (6, vi x8)]) (nx := 95) (r1 := 0) (r2 := 0) (r3 := 0) rfl rfl (fun _ => rfl) (fun e58 (fe58 : e58 = x9 + 1) => ?_)
                        refine wi_goto (nx := 98) (r1 := 46) (r2 := 0) (r3 := 0) rfl ?_
                        refine wp.lo (lo := [(0, .ref 56), (1, vi a0), (2, vi a1), (3, vi a2), (4, vi a3), (5, vi z4), (6, vi x8), (7, vi e58)]) ⟨rfl, rfl, rfl, rfl, rfl, rfl, rfl, rfl, trivial⟩ rfl ?_
                        exact I10 x8 e58 h53 ⟨g53, F54, F55, (show (-2147483648 ≤ x8 ∧ x8 ≤ 1048576) ∧ (0 ≤ e58 ∧ e58 ≤ 4) by omega)⟩ (show ((4 : Int) + 1 - e58).toNat < ((4 : Int) + 1 - x9).toNat by omega)
                      ·
                        refine wi_iload (i := 8) (e := e50) (nx := 80) (r1 := 0) (r2 := 0) (r3 := 0) rfl rfl ?_
                        refine wi_istore (i := 6) (e := e50) (lo2 := [(6, vi e50), (8, vi e50), (0, .ref 56), (1, vi a0), (2, vi a1), (3, vi a2), (4, vi a3), (5, vi z4), (7, vi x9)]) (nx := 82) (r1 := 0) (r2 := 0) (r3 := 0) rfl rfl ?_
                        refine wi_aload_n (i := 0) (x := 56) (nx := 83) (r1 := 0) (r2 := 0) (r3 := 0) rfl rfl ?_
                        refine wr_gr (k0 := 56) (x := 58) (nx := 86) (r1 := 6) (r2 := 3) (r3 := 0) rfl rfl (by decide) rfl ⟨rfl, rfl⟩ rfl ?_
                        refine wi_iload (i := 5) (e := z4) (nx := 88) (r1 := 0) (r2 := 0) (r3 := 0) rfl rfl ?_
                        refine wi_iload (i := 7) (e := x9) (nx := 90) (r1 := 0) (r2 := 0) (r3 := 0) rfl rfl ?_
                        refine wr_i2bA (nx := 91) (r1 := 0) (r2 := 0) (r3 := 0) rfl (fun e58 (fe58 : -128 ≤ e58 ∧ e58 ≤ 127) => ?_)
                        refine wr_bs (k0 := 58) (a := z4) (f := i5) (x := e58) (bl := -128) (bh := 127) (nx := 92) (r1 := 0) (r2 := 0) (r3 := 0) rfl (by decide) rfl (by omega) (by omega) (by omega) (by decide) g53 rfl (by omega) (fun h59 g59 w59 u59 => ?_)
                        have F60 := F54.then rfl (FR.rngp (lo := 58) (hi := 58) u59 (by decide))
                        have F61 := F55.then rfl (FR.rngp (lo := 58) (hi := 58) u59 (by decide))
                        refine wr_iinc (i := 7) (n := 1) (v := x9) (fun e62 => [(7, vi e62), (6, vi e50), (8, vi e50), (0, .ref 56), (1, vi a0), (2, vi a1), (3, vi a2), (4, vi a3), (5, vi z4)]) (nx := 95) (r1 := 0) (r2 := 0) (r3 := 0) rfl rfl (fun _ => rfl) (fun e62 (fe62 : e62 = x9 + 1) => ?_)
                        refine wi_goto (nx := 98) (r1 := 46) (r2 := 0) (r3 := 0) rfl ?_
                        refine wp.lo (lo := [(0, .ref 56), (1, vi a0), (2, vi a1), (3, vi a2), (4, vi a3), (5, vi z4), (6, vi e50), (7, vi e62)]) ⟨rfl, rfl, rfl, rfl, rfl, rfl, rfl, rfl, trivial⟩ rfl ?_
                        exact I10 e50 e62 h59 ⟨g59, F60, F61, (show (-2147483648 ≤ e50 ∧ e50 ≤ 1048576) ∧ (0 ≤ e62 ∧ e62 ≤ 4) by omega)⟩ (show ((4 : Int) + 1 - e62).toNat < ((4 : Int) + 1 - x9).toNat by omega)
                  ·
                    refine wi_iconst (n := 2) (nx := 23) (r1 := 0) (r2 := 0) (r3 := 0) rfl ?_
                    refine wi_goto (nx := 26) (r1 := 27) (r2 := 0) (r3 := 0) rfl ?_
                    refine wi_ireturn (nx := 28) (r1 := 0) (r2 := 0) (r3 := 0) rfl rfl ?_
                    refine wk_i ?_
                    refine wi_istore (i := 8) (e := 2) (lo2 := [(8, vi 2), (7, vi (h 19 i26)), (6, vi z18), (0, .ref 56), (1, vi x9), (2, vi a0), (3, vi a1), (4, vi a2), (5, vi a3)]) (nx := 83) (r1 := 0) (r2 := 0) (r3 := 0) rfl rfl ?_
                    refine wi_aload_n (i := 0) (x := 56) (nx := 84) (r1 := 0) (r2 := 0) (r3 := 0) rfl rfl ?_
                    refine wr_gr (k0 := 56) (x := 3) (nx := 87) (r1 := 6) (r2 := 0) (r3 := 0) rfl rfl (by decide) rfl ⟨rfl, rfl⟩ rfl ?_
                    refine wi_iload (i := 8) (e := 2) (nx := 89) (r1 := 0) (r2 := 0) (r3 := 0) rfl rfl ?_
                    refine wi_iload (i := 7) (e := h 19 i26) (nx := 91) (r1 := 0) (r2 := 0) (r3 := 0) rfl rfl ?_
                    refine wr_V (k0 := 3) (rest := []) (as := [.ref 3, vi 2, vi (h 19 i26)]) (nx := 94) (r1 := 110) (r2 := 2) (r3 := 2) rfl rfl rfl (of_decide_eq_true rfl) rfl rfl (by decide) rfl rfl (of_decide_eq_true rfl) (of_decide_eq_true rfl) ?_
                    refine ct_110_3 hcr  g10 2 (h 19 i26) (by omega) (by omega)  (fun z33  (fz33 : -2147483648 ≤ z33 ∧ z33 ≤ 2147483647) => ?_)
                    refine wk_i ?_
                    refine wi_bipush (n := 16) (nx := 96) (r1 := 0) (r2 := 0) (r3 := 0) rfl (by decide) ?_
                    refine wr_mulW (nx := 97) (r1 := 0) (r2 := 0) (r3 := 0) rfl (fun e34 (fe34 : -2147483648 ≤ e34 ∧ e34 ≤ 2147483647) => ?_)
                    refine wi_iload (i := 8) (e := 2) (nx := 99) (r1 := 0) (r2 := 0) (r3 := 0) rfl rfl ?_
                    refine wi_iconst (n := 1) (nx := 100) (r1 := 0) (r2 := 0) (r3 := 0) rfl ?_
                    refine wi_icmp (cd := .ne) (nx := 103) (r1 := 107) (r2 := 0) (r3 := 0) rfl (by omega) (by omega) (fun (q35 : 2 ≠ 1) => ?_) (fun (q35 : ¬ (2 ≠ 1)) => by exfalso; omega)
                    refine wi_iconst (n := 0) (nx := 108) (r1 := 0) (r2 := 0) (r3 := 0) rfl ?_
                    refine wr_add (nx := 109) (r1 := 0) (r2 := 0) (r3 := 0) rfl (fun e36 (fe36 : e36 = e34 + 0) => ?_)
                    refine wi_istore (i := 9) (e := e36) (lo2 := [(9, vi e36), (8, vi 2), (7, vi (h 19 i26)), (6, vi z18), (0, .ref 56), (1, vi x9), (2, vi a0), (3, vi a1), (4, vi a2), (5, vi a3)]) (nx := 111) (r1 := 0) (r2 := 0) (r3 := 0) rfl rfl ?_
                    refine wi_iload_n (i := 3) (e := a1) (nx := 112) (r1 := 0) (r2 := 0) (r3 := 0) rfl rfl ?_
                    refine wi_aload_n (i := 0) (x := 56) (nx := 113) (r1 := 0) (r2 := 0) (r3 := 0) rfl rfl ?_
                    refine wr_gr (k0 := 56) (x := 60) (nx := 116) (r1 := 6) (r2 := 5) (r3 := 0) rfl rfl (by decide) rfl ⟨rfl, rfl⟩ rfl ?_
                    refine wi_iload_n (i := 1) (e := x9) (nx := 117) (r1 := 0) (r2 := 0) (r3 := 0) rfl rfl ?_
                    have b37 := gi_b (lo := -2147483648) (hi := 2147483647) g 60 i14 rfl
                    refine wr_ia (k0 := 60) (a := x9) (f := i14) (x := h 60 i14) (nx := 118) (r1 := 0) (r2 := 0) (r3 := 0) rfl (by decide) rfl (by omega) (by omega) (by decide) (u10 60 i14 (fn_a (by omega) (fn_a (by omega) (fn_a (by omega) fn_0)))) ?_
                    refine wr_addW (nx := 119) (r1 := 0) (r2 := 0) (r3 := 0) rfl (fun e38 (fe38 : -2147483648 ≤ e38 ∧ e38 ≤ 2147483647) => ?_)
                    refine wi_istore (i := 10) (e := e38) (lo2 := [(10, vi e38), (9, vi e36), (8, vi 2), (7, vi (h 19 i26)), (6, vi z18), (0, .ref 56), (1, vi x9), (2, vi a0), (3, vi a1), (4, vi a2), (5, vi a3)]) (nx := 121) (r1 := 0) (r2 := 0) (r3 := 0) rfl rfl ?_
                    refine wi_aload_n (i := 0) (x := 56) (nx := 122) (r1 := 0) (r2 := 0) (r3 := 0) rfl rfl ?_
                    refine wr_gr (k0 := 56) (x := 59) (nx := 125) (r1 := 6) (r2 := 4) (r3 := 0) rfl rfl (by decide) rfl ⟨rfl, rfl⟩ rfl ?_
                    refine wi_iload_n (i := 1) (e := x9) (nx := 126) (r1 := 0) (r2 := 0) (r3 := 0) rfl rfl ?_
                    refine wi_dup2 (nx := 127) (r1 := 0) (r2 := 0) (r3 := 0) rfl rfl rfl ?_
                    refine wr_ia (k0 := 59) (a := x9) (f := i14) (x := h10 59 i14) (nx := 128) (r1 := 0) (r2 := 0) (r3 := 0) rfl (by decide) rfl (by omega) (by omega) (by decide) rfl ?_
                    refine wi_iconst (n := 1) (nx := 129) (r1 := 0) (r2 := 0) (r3 := 0) rfl ?_
                    refine wr_addW (nx := 130) (r1 := 0) (r2 := 0) (r3 := 0) rfl (fun e39 (fe39 : -2147483648 ≤ e39 ∧ e39 ≤ 2147483647) => ?_)
                    refine wr_is (k0 := 59) (a := x9) (f := i14) (x := e39) (bl := -2147483648) (bh := 2147483647) (nx := 131) (r1 := 0) (r2 := 0) (r3 := 0) rfl (by decide) rfl (by omega) (by omega) (by decide) g10 rfl (by omega) (fun h40 g40 w40 u40 => ?_)
                    have F41 := F11.then rfl (FR.rngp (lo := 59) (hi := 59) u40 (by decide))
                    have F42 := u10.then rfl (FR.rngp (lo := 59) (hi := 59) u40 (by decide))
                    refine wi_iload (i := 9) (e := e36) (nx := 133) (r1 := 0) (r2 := 0) (r3 := 0) rfl rfl ?_
                    refine wi_aload_n (i := 0) (x := 56) (nx := 134) (r1 := 0) (r2 := 0) (r3 := 0) rfl rfl ?_
                    refine wi_iload_n (i := 2) (e := a0) (nx := 135) (r1 := 0) (r2 := 0) (r3 := 0) rfl rfl ?_
                    refine wi_iconst (n := 1) (nx := 136) (r1 := 0) (r2 := 0) (r3 := 0) rfl ?_
                    refine wr_add (nx := 137) (r1 := 0) (r2 := 0) (r3 := 0) rfl (fun e43 (fe43 : e43 = a0 + 1) => ?_)
                    refine wi_iload (i := 10) (e := e38) (nx := 139) (r1 := 0) (r2 := 0) (r3 := 0) rfl rfl ?_
                    refine wi_iload (i := 7) (e := h 19 i26) (nx := 141) (r1 := 0) (r2 := 0) (r3 := 0) rfl rfl ?_
                    refine wi_iload (i := 8) (e := 2) (nx := 143) (r1 := 0) (r2 := 0) (r3 := 0) rfl rfl ?_
                    refine wi_iload (i := 5) (e := a3) (nx := 145) (r1 := 0) (r2 := 0) (r3 := 0) rfl rfl ?_
                    refine wi_S (rest := [vi (h 19 i26), vi e38, vi e43, .ref 56, vi e36]) (as := [vi 2, vi a3]) (nx := 148) (r1 := 111) (r2 := 18) (r3 := 0) rfl rfl rfl (of_decide_eq_true rfl) rfl rfl (of_decide_eq_true rfl) (of_decide_eq_true rfl) ?_
                    refine wi_iload_n (i := 0) (e := 2) (nx := 1) (r1 := 0) (r2 := 0) (r3 := 0) rfl rfl ?_
                    refine wi_if (cd := .ne) (nx := 4) (r1 := 10) (r2 := 0) (r3 := 0) rfl (by omega) (fun (q44 : 2 ≠ 0) => ?_) (fun (q44 : ¬ (2 ≠ 0)) => by exfalso; omega)
                    refine wi_iconst (n := 1) (nx := 11) (r1 := 0) (r2 := 0) (r3 := 0) rfl ?_
                    refine wi_ireturn (nx := 12) (r1 := 0) (r2 := 0) (r3 := 0) rfl rfl ?_
                    refine wk_i ?_
                    refine wr_V (k0 := 56) (rest := [vi e36]) (as := [.ref 56, vi e43, vi e38, vi (h 19 i26), vi 1]) (nx := 151) (r1 := 164) (r2 := 4) (r3 := 6) rfl rfl rfl (of_decide_eq_true rfl) rfl rfl (by decide) rfl rfl (of_decide_eq_true rfl) (of_decide_eq_true rfl) ?_
                    refine wp_eq (e := d + 2 * (n - 1) + 5) (by omega) ?_
                    refine IH (n - 1) (by omega) g40 e43 e38 (h 19 i26) 1 (by omega) (by omega) (by omega) (by omega)  (by omega) (fun h45 z46 g45 u45 (fz46 : -2147483648 ≤ z46 ∧ z46 ≤ 2147483647) => ?_)
                    have F47 := F41.then (by decide +kernel) u45
                    have F48 := F42.then (by decide +kernel) u45
                    refine wk_i ?_
                    refine wr_addW (nx := 152) (r1 := 0) (r2 := 0) (r3 := 0) rfl (fun e49 (fe49 : -2147483648 ≤ e49 ∧ e49 ≤ 2147483647) => ?_)
                    refine wi_istore (i := 9) (e := e49) (lo2 := [(9, vi e49), (10, vi e38), (8, vi 2), (7, vi (h 19 i26)), (6, vi z18), (0, .ref 56), (1, vi x9), (2, vi a0), (3, vi a1), (4, vi a2), (5, vi a3)]) (nx := 154) (r1 := 0) (r2 := 0) (r3 := 0) rfl rfl ?_
                    refine wi_aload_n (i := 0) (x := 56) (nx := 155) (r1 := 0) (r2 := 0) (r3 := 0) rfl rfl ?_
                    refine wr_gr (k0 := 56) (x := 59) (nx := 158) (r1 := 6) (r2 := 4) (r3 := 0) rfl rfl (by decide) rfl ⟨rfl, rfl⟩ rfl ?_
                    refine wi_iload_n (i := 1) (e := x9) (nx := 159) (r1 := 0) (r2 := 0) (r3 := 0) rfl rfl ?_
                    refine wi_dup2 (nx := 160) (r1 := 0) (r2 := 0) (r3 := 0) rfl rfl rfl ?_
                    have b50 := gi_b (lo := -2147483648) (hi := 2147483647) g45 59 i14 rfl
                    refine wr_ia (k0 := 59) (a := x9) (f := i14) (x := h45 59 i14) (nx := 161) (r1 := 0) (r2 := 0) (r3 := 0) rfl (by decide) rfl (by omega) (by omega) (by decide) rfl ?_
                    refine wi_iconst (n := 1) (nx := 162) (r1 := 0) (r2 := 0) (r3 := 0) rfl ?_
                    refine wr_subW (nx := 163) (r1 := 0) (r2 := 0) (r3 := 0) rfl (fun e51 (fe51 : -2147483648 ≤ e51 ∧ e51 ≤ 2147483647) => ?_)
                    refine wr_is (k0 := 59) (a := x9) (f := i14) (x := e51) (bl := -2147483648) (bh := 2147483647) (nx := 164) (r1 := 0) (r2 := 0) (r3 := 0) rfl (by decide) rfl (by omega) (by omega) (by decide) g45 rfl (by omega) (fun h52 g52 w52 u52 => ?_)
                    have F53 := F47.then rfl (FR.rngp (lo := 59) (hi := 59) u52 (by decide))
                    have F54 := F48.then rfl (FR.rngp (lo := 59) (hi := 59) u52 (by decide))
                    refine wi_iload (i := 9) (e := e49) (nx := 166) (r1 := 0) (r2 := 0) (r3 := 0) rfl rfl ?_
                    refine wi_ldc (e := 1048576) (nx := 168) (r1 := 0) (r2 := 1048576) (r3 := 0) rfl rfl (by decide) ?_
                    refine wi_S (rest := []) (as := [vi e49, vi 1048576]) (nx := 171) (r1 := 354) (r2 := 18) (r3 := 0) rfl rfl rfl (of_decide_eq_true rfl) rfl rfl (of_decide_eq_true rfl) (of_decide_eq_true rfl) ?_
                    refine wi_iload_n (i := 0) (e := e49) (nx := 1) (r1 := 0) (r2 := 0) (r3 := 0) rfl rfl ?_
                    refine wi_iload_n (i := 1) (e := 1048576) (nx := 2) (r1 := 0) (r2 := 0) (r3 := 0) rfl rfl ?_
                    refine wi_icmp (cd := .gt) (nx := 5) (r1 := 9) (r2 := 0) (r3 := 0) rfl (by omega) (by omega) (fun (q55 : 1048576 < e49) => ?_) (fun (q55 : ¬ (1048576 < e49)) => ?_)
                    ·
                      refine wi_iload_n (i := 1) (e := 1048576) (nx := 10) (r1 := 0) (r2 := 0) (r3 := 0) rfl rfl ?_
                      refine wi_ireturn (nx := 11) (r1 := 0) (r2 := 0) (r3 := 0) rfl rfl ?_
                      refine wk_i ?_
                      refine wi_ireturn (nx := 172) (r1 := 0) (r2 := 0) (r3 := 0) rfl rfl ?_
                      refine wk_i ?_
                      refine wi_istore (i := 8) (e := 1048576) (lo2 := [(8, vi 1048576), (0, .ref 56), (1, vi a0), (2, vi a1), (3, vi a2), (4, vi a3), (5, vi z4), (6, vi x8), (7, vi x9)]) (nx := 71) (r1 := 0) (r2 := 0) (r3 := 0) rfl rfl ?_
                      refine wi_iload (i := 8) (e := 1048576) (nx := 73) (r1 := 0) (r2 := 0) (r3 := 0) rfl rfl ?_
                      refine wi_iload (i := 6) (e := x8) (nx := 75) (r1 := 0) (r2 := 0) (r3 := 0) rfl rfl ?_
                      refine wi_icmp (cd := .ge) (nx := 78) (r1 := 92) (r2 := 0) (r3 := 0) rfl (by omega) (by omega) (fun (q56 : x8 ≤ 1048576) => ?_) (fun (q56 : ¬ (x8 ≤ 1048576)) => by exfalso; omega)
                      refine wr_iinc (i := 7) (n := 1) (v := x9) (fun e57 => [(7, vi e57), (8, vi 1048576), (0, .ref 56), (1, vi a0), (2, vi a1), (3, vi a2), (4, vi a3), (5, vi z4), (6, vi x8)]) (nx := 95) (r1 := 0) (r2 := 0) (r3 := 0) rfl rfl (fun _ => rfl) (fun e57 (fe57 : e57 = x9 + 1) => ?_)
                      refine wi_goto (nx := 98) (r1 := 46) (r2 := 0) (r3 := 0) rfl ?_
                      refine wp.lo (lo := [(0, .ref 56), (1, vi a0), (2, vi a1), (3, vi a2), (4, vi a3), (5, vi z4), (6, vi x8), (7, vi e57)]) ⟨rfl, rfl, rfl, rfl, rfl, rfl, rfl, rfl, trivial⟩ rfl ?_
                      exact I10 x8 e57 h52 ⟨g52, F53, F54, (show (-2147483648 ≤ x8 ∧ x8 ≤ 1048576) ∧ (0 ≤ e57 ∧ e57 ≤ 4) by omega)⟩ (show ((4 : Int) + 1 - e57).toNat < ((4 : Int) + 1 - x9).toNat by omega)
                    ·
                      refine wi_iload_n (i := 0) (e := e49) (nx := 6) (r1 := 0) (r2 := 0) (r3 := 0) rfl rfl ?_
                      refine wi_goto (nx := 9) (r1 := 10) (r2 := 0) (r3 := 0) rfl ?_
                      refine wi_ireturn (nx := 11) (r1 := 0) (r2 := 0) (r3 := 0) rfl rfl ?_
                      refine wk_i ?_
                      refine wi_ireturn (nx := 172) (r1 := 0) (r2 := 0) (r3 := 0) rfl rfl ?_
                      refine wk_i ?_
                      refine wi_istore (i := 8) (e := e49) (lo2 := [(8, vi e49), (0, .ref 56), (1, vi a0), (2, vi a1), (3, vi a2), (4, vi a3), (5, vi z4), (6, vi x8), (7, vi x9)]) (nx := 71) (r1 := 0) (r2 := 0) (r3 := 0) rfl rfl ?_
                      refine wi_iload (i := 8) (e := e49) (nx := 73) (r1 := 0) (r2 := 0) (r3 := 0) rfl rfl ?_
                      refine wi_iload (i := 6) (e := x8) (nx := 75) (r1 := 0) (r2 := 0) (r3 := 0) rfl rfl ?_
                      refine wi_icmp (cd := .ge) (nx := 78) (r1 := 92) (r2 := 0) (r3 := 0) rfl (by omega) (by omega) (fun (q56 : x8 ≤ e49) => ?_) (fun (q56 : ¬ (x8 ≤ e49)) => ?_)
                      ·
                        refine wr_iinc (i := 7) (n := 1) (v := x9) (fun e57 => [(7, vi e57), (8, vi e49), (0, .ref 56), (1, vi a0), (2, vi a1), (3, vi a2), (4, vi a3), (5, vi z4), (6, vi x8)]) (nx := 95) (r1 := 0) (r2 := 0) (r3 := 0) rfl rfl (fun _ => rfl) (fun e57 (fe57 : e57 = x9 + 1) => ?_)
                        refine wi_goto (nx := 98) (r1 := 46) (r2 := 0) (r3 := 0) rfl ?_
                        refine wp.lo (lo := [(0, .ref 56), (1, vi a0), (2, vi a1), (3, vi a2), (4, vi a3), (5, vi z4), (6, vi x8), (7, vi e57)]) ⟨rfl, rfl, rfl, rfl, rfl, rfl, rfl, rfl, trivial⟩ rfl ?_
                        exact I10 x8 e57 h52 ⟨g52, F53, F54, (show (-2147483648 ≤ x8 ∧ x8 ≤ 1048576) ∧ (0 ≤ e57 ∧ e57 ≤ 4) by omega)⟩ (show ((4 : Int) + 1 - e57).toNat < ((4 : Int) + 1 - x9).toNat by omega)
                      ·
                        refine wi_iload (i := 8) (e := e49) (nx := 80) (r1 := 0) (r2 := 0) (r3 := 0) rfl rfl ?_
                        refine wi_istore (i := 6) (e := e49) (lo2 := [(6, vi e49), (8, vi e49), (0, .ref 56), (1, vi a0), (2, vi a1), (3, vi a2), (4, vi a3), (5, vi z4), (7, vi x9)]) (nx := 82) (r1 := 0) (r2 := 0) (r3 := 0) rfl rfl ?_
                        refine wi_aload_n (i := 0) (x := 56) (nx := 83) (r1 := 0) (r2 := 0) (r3 := 0) rfl rfl ?_
                        refine wr_gr (k0 := 56) (x := 58) (nx := 86) (r1 := 6) (r2 := 3) (r3 := 0) rfl rfl (by decide) rfl ⟨rfl, rfl⟩ rfl ?_
                        refine wi_iload (i := 5) (e := z4) (nx := 88) (r1 := 0) (r2 := 0) (r3 := 0) rfl rfl ?_
                        refine wi_iload (i := 7) (e := x9) (nx := 90) (r1 := 0) (r2 := 0) (r3 := 0) rfl rfl ?_
                        refine wr_i2bA (nx := 91) (r1 := 0) (r2 := 0) (r3 := 0) rfl (fun e57 (fe57 : -128 ≤ e57 ∧ e57 ≤ 127) => ?_)
                        refine wr_bs (k0 := 58) (a := z4) (f := i5) (x := e57) (bl := -128) (bh := 127) (nx := 92) (r1 := 0) (r2 := 0) (r3 := 0) rfl (by decide) rfl (by omega) (by omega) (by omega) (by decide) g52 rfl (by omega) (fun h58 g58 w58 u58 => ?_)
                        have F59 := F53.then rfl (FR.rngp (lo := 58) (hi := 58) u58 (by decide))
                        have F60 := F54.then rfl (FR.rngp (lo := 58) (hi := 58) u58 (by decide))
                        refine wr_iinc (i := 7) (n := 1) (v := x9) (fun e61 => [(7, vi e61), (6, vi e49), (8, vi e49), (0, .ref 56), (1, vi a0), (2, vi a1), (3, vi a2), (4, vi a3), (5, vi z4)]) (nx := 95) (r1 := 0) (r2 := 0) (r3 := 0) rfl rfl (fun _ => rfl) (fun e61 (fe61 : e61 = x9 + 1) => ?_)
                        refine wi_goto (nx := 98) (r1 := 46) (r2 := 0) (r3 := 0) rfl ?_
                        refine wp.lo (lo := [(0, .ref 56), (1, vi a0), (2, vi a1), (3, vi a2), (4, vi a3), (5, vi z4), (6, vi e49), (7, vi e61)]) ⟨rfl, rfl, rfl, rfl, rfl, rfl, rfl, rfl, trivial⟩ rfl ?_
                        exact I10 e49 e61 h58 ⟨g58, F59, F60, (show (-2147483648 ≤ e49 ∧ e49 ≤ 1048576) ∧ (0 ≤ e61 ∧ e61 ≤ 4) by omega)⟩ (show ((4 : Int) + 1 - e61).toNat < ((4 : Int) + 1 - x9).toNat by omega)
                ·
                  refine wi_iconst (n := 1) (nx := 13) (r1 := 0) (r2 := 0) (r3 := 0) rfl ?_
                  refine wi_ireturn (nx := 14) (r1 := 0) (r2 := 0) (r3 := 0) rfl rfl ?_
                  refine wk_i ?_
                  refine wi_istore (i := 8) (e := 1) (lo2 := [(8, vi 1), (7, vi (h 19 i26)), (6, vi z18), (0, .ref 56), (1, vi x9), (2, vi a0), (3, vi a1), (4, vi a2), (5, vi a3)]) (nx := 83) (r1 := 0) (r2 := 0) (r3 := 0) rfl rfl ?_
                  refine wi_aload_n (i := 0) (x := 56) (nx := 84) (r1 := 0) (r2 := 0) (r3 := 0) rfl rfl ?_
                  refine wr_gr (k0 := 56) (x := 3) (nx := 87) (r1 := 6) (r2 := 0) (r3 := 0) rfl rfl (by decide) rfl ⟨rfl, rfl⟩ rfl ?_
                  refine wi_iload (i := 8) (e := 1) (nx := 89) (r1 := 0) (r2 := 0) (r3 := 0) rfl rfl ?_
                  refine wi_iload (i := 7) (e := h 19 i26) (nx := 91) (r1 := 0) (r2 := 0) (r3 := 0) rfl rfl ?_
                  refine wr_V (k0 := 3) (rest := []) (as := [.ref 3, vi 1, vi (h 19 i26)]) (nx := 94) (r1 := 110) (r2 := 2) (r3 := 2) rfl rfl rfl (of_decide_eq_true rfl) rfl rfl (by decide) rfl rfl (of_decide_eq_true rfl) (of_decide_eq_true rfl) ?_
                  refine ct_110_3 hcr  g10 1 (h 19 i26) (by omega) (by omega)  (fun z31  (fz31 : -2147483648 ≤ z31 ∧ z31 ≤ 2147483647) => ?_)
                  refine wk_i ?_
                  refine wi_bipush (n := 16) (nx := 96) (r1 := 0) (r2 := 0) (r3 := 0) rfl (by decide) ?_
                  refine wr_mulW (nx := 97) (r1 := 0) (r2 := 0) (r3 := 0) rfl (fun e32 (fe32 : -2147483648 ≤ e32 ∧ e32 ≤ 2147483647) => ?_)
                  refine wi_iload (i := 8) (e := 1) (nx := 99) (r1 := 0) (r2 := 0) (r3 := 0) rfl rfl ?_
                  refine wi_iconst (n := 1) (nx := 100) (r1 := 0) (r2 := 0) (r3 := 0) rfl ?_
                  refine wi_icmp (cd := .ne) (nx := 103) (r1 := 107) (r2 := 0) (r3 := 0) rfl (by omega) (by omega) (fun (q33 : 1 ≠ 1) => by exfalso; omega) (fun (q33 : ¬ (1 ≠ 1)) => ?_)
                  refine wi_iconst (n := 1) (nx := 104) (r1 := 0) (r2 := 0) (r3 := 0) rfl ?_
                  refine wi_goto (nx := 107) (r1 := 108) (r2 := 0) (r3 := 0) rfl ?_
                  refine wr_addW (nx := 109) (r1 := 0) (r2 := 0) (r3 := 0) rfl (fun e34 (fe34 : -2147483648 ≤ e34 ∧ e34 ≤ 2147483647) => ?_)
                  refine wi_istore (i := 9) (e := e34) (lo2 := [(9, vi e34), (8, vi 1), (7, vi (h 19 i26)), (6, vi z18), (0, .ref 56), (1, vi x9), (2, vi a0), (3, vi a1), (4, vi a2), (5, vi a3)]) (nx := 111) (r1 := 0) (r2 := 0) (r3 := 0) rfl rfl ?_
                  refine wi_iload_n (i := 3) (e := a1) (nx := 112) (r1 := 0) (r2 := 0) (r3 := 0) rfl rfl ?_
                  refine wi_aload_n (i := 0) (x := 56) (nx := 113) (r1 := 0) (r2 := 0) (r3 := 0) rfl rfl ?_
                  refine wr_gr (k0 := 56) (x := 60) (nx := 116) (r1 := 6) (r2 := 5) (r3 := 0) rfl rfl (by decide) rfl ⟨rfl, rfl⟩ rfl ?_
                  refine wi_iload_n (i := 1) (e := x9) (nx := 117) (r1 := 0) (r2 := 0) (r3 := 0) rfl rfl ?_
                  have b35 := gi_b (lo := -2147483648) (hi := 2147483647) g 60 i14 rfl
                  refine wr_ia (k0 := 60) (a := x9) (f := i14) (x := h 60 i14) (nx := 118) (r1 := 0) (r2 := 0) (r3 := 0) rfl (by decide) rfl (by omega) (by omega) (by decide) (u10 60 i14 (fn_a (by omega) (fn_a (by omega) (fn_a (by omega) fn_0)))) ?_
                  refine wr_addW (nx := 119) (r1 := 0) (r2 := 0) (r3 := 0) rfl (fun e36 (fe36 : -2147483648 ≤ e36 ∧ e36 ≤ 2147483647) => ?_)
                  refine wi_istore (i := 10) (e := e36) (lo2 := [(10, vi e36), (9, vi e34), (8, vi 1), (7, vi (h 19 i26)), (6, vi z18), (0, .ref 56), (1, vi x9), (2, vi a0), (3, vi a1), (4, vi a2), (5, vi a3)]) (nx := 121) (r1 := 0) (r2 := 0) (r3 := 0) rfl rfl ?_
                  refine wi_aload_n (i := 0) (x := 56) (nx := 122) (r1 := 0) (r2 := 0) (r3 := 0) rfl rfl ?_
                  refine wr_gr (k0 := 56) (x := 59) (nx := 125) (r1 := 6) (r2 := 4) (r3 := 0) rfl rfl (by decide) rfl ⟨rfl, rfl⟩ rfl ?_
                  refine wi_iload_n (i := 1) (e := x9) (nx := 126) (r1 := 0) (r2 := 0) (r3 := 0) rfl rfl ?_
                  refine wi_dup2 (nx := 127) (r1 := 0) (r2 := 0) (r3 := 0) rfl rfl rfl ?_
                  refine wr_ia (k0 := 59) (a := x9) (f := i14) (x := h10 59 i14) (nx := 128) (r1 := 0) (r2 := 0) (r3 := 0) rfl (by decide) rfl (by omega) (by omega) (by decide) rfl ?_
                  refine wi_iconst (n := 1) (nx := 129) (r1 := 0) (r2 := 0) (r3 := 0) rfl ?_
                  refine wr_addW (nx := 130) (r1 := 0) (r2 := 0) (r3 := 0) rfl (fun e37 (fe37 : -2147483648 ≤ e37 ∧ e37 ≤ 2147483647) => ?_)
                  refine wr_is (k0 := 59) (a := x9) (f := i14) (x := e37) (bl := -2147483648) (bh := 2147483647) (nx := 131) (r1 := 0) (r2 := 0) (r3 := 0) rfl (by decide) rfl (by omega) (by omega) (by decide) g10 rfl (by omega) (fun h38 g38 w38 u38 => ?_)
                  have F39 := F11.then rfl (FR.rngp (lo := 59) (hi := 59) u38 (by decide))
                  have F40 := u10.then rfl (FR.rngp (lo := 59) (hi := 59) u38 (by decide))
                  refine wi_iload (i := 9) (e := e34) (nx := 133) (r1 := 0) (r2 := 0) (r3 := 0) rfl rfl ?_
                  refine wi_aload_n (i := 0) (x := 56) (nx := 134) (r1 := 0) (r2 := 0) (r3 := 0) rfl rfl ?_
                  refine wi_iload_n (i := 2) (e := a0) (nx := 135) (r1 := 0) (r2 := 0) (r3 := 0) rfl rfl ?_
                  refine wi_iconst (n := 1) (nx := 136) (r1 := 0) (r2 := 0) (r3 := 0) rfl ?_
                  refine wr_add (nx := 137) (r1 := 0) (r2 := 0) (r3 := 0) rfl (fun e41 (fe41 : e41 = a0 + 1) => ?_)
                  refine wi_iload (i := 10) (e := e36) (nx := 139) (r1 := 0) (r2 := 0) (r3 := 0) rfl rfl ?_
                  refine wi_iload (i := 7) (e := h 19 i26) (nx := 141) (r1 := 0) (r2 := 0) (r3 := 0) rfl rfl ?_
                  refine wi_iload (i := 8) (e := 1) (nx := 143) (r1 := 0) (r2 := 0) (r3 := 0) rfl rfl ?_
                  refine wi_iload (i := 5) (e := a3) (nx := 145) (r1 := 0) (r2 := 0) (r3 := 0) rfl rfl ?_
                  refine wi_S (rest := [vi (h 19 i26), vi e36, vi e41, .ref 56, vi e34]) (as := [vi 1, vi a3]) (nx := 148) (r1 := 111) (r2 := 18) (r3 := 0) rfl rfl rfl (of_decide_eq_true rfl) rfl rfl (of_decide_eq_true rfl) (of_decide_eq_true rfl) ?_
                  refine wi_iload_n (i := 0) (e := 1) (nx := 1) (r1 := 0) (r2 := 0) (r3 := 0) rfl rfl ?_
                  refine wi_if (cd := .ne) (nx := 4) (r1 := 10) (r2 := 0) (r3 := 0) rfl (by omega) (fun (q42 : 1 ≠ 0) => ?_) (fun (q42 : ¬ (1 ≠ 0)) => by exfalso; omega)
                  refine wi_iconst (n := 1) (nx := 11) (r1 := 0) (r2 := 0) (r3 := 0) rfl ?_
                  refine wi_ireturn (nx := 12) (r1 := 0) (r2 := 0) (r3 := 0) rfl rfl ?_
                  refine wk_i ?_
                  refine wr_V (k0 := 56) (rest := [vi e34]) (as := [.ref 56, vi e41, vi e36, vi (h 19 i26), vi 1]) (nx := 151) (r1 := 164) (r2 := 4) (r3 := 6) rfl rfl rfl (of_decide_eq_true rfl) rfl rfl (by decide) rfl rfl (of_decide_eq_true rfl) (of_decide_eq_true rfl) ?_
                  refine wp_eq (e := d + 2 * (n - 1) + 5) (by omega) ?_
                  refine IH (n - 1) (by omega) g38 e41 e36 (h 19 i26) 1 (by omega) (by omega) (by omega) (by omega)  (by omega) (fun h43 z44 g43 u43 (fz44 : -2147483648 ≤ z44 ∧ z44 ≤ 2147483647) => ?_)
                  have F45 := F39.then (by decide +kernel) u43
                  have F46 := F40.then (by decide +kernel) u43
                  refine wk_i ?_
                  refine wr_addW (nx := 152) (r1 := 0) (r2 := 0) (r3 := 0) rfl (fun e47 (fe47 : -2147483648 ≤ e47 ∧ e47 ≤ 2147483647) => ?_)
                  refine wi_istore (i := 9) (e := e47) (lo2 := [(9, vi e47), (10, vi e36), (8, vi 1), (7, vi (h 19 i26)), (6, vi z18), (0, .ref 56), (1, vi x9), (2, vi a0), (3, vi a1), (4, vi a2), (5, vi a3)]) (nx := 154) (r1 := 0) (r2 := 0) (r3 := 0) rfl rfl ?_
                  refine wi_aload_n (i := 0) (x := 56) (nx := 155) (r1 := 0) (r2 := 0) (r3 := 0) rfl rfl ?_
                  refine wr_gr (k0 := 56) (x := 59) (nx := 158) (r1 := 6) (r2 := 4) (r3 := 0) rfl rfl (by decide) rfl ⟨rfl, rfl⟩ rfl ?_
                  refine wi_iload_n (i := 1) (e := x9) (nx := 159) (r1 := 0) (r2 := 0) (r3 := 0) rfl rfl ?_
                  refine wi_dup2 (nx := 160) (r1 := 0) (r2 := 0) (r3 := 0) rfl rfl rfl ?_
                  have b48 := gi_b (lo := -2147483648) (hi := 2147483647) g43 59 i14 rfl
                  refine wr_ia (k0 := 59) (a := x9) (f := i14) (x := h43 59 i14) (nx := 161) (r1 := 0) (r2 := 0) (r3 := 0) rfl (by decide) rfl (by omega) (by omega) (by decide) rfl ?_
                  refine wi_iconst (n := 1) (nx := 162) (r1 := 0) (r2 := 0) (r3 := 0) rfl ?_
                  refine wr_subW (nx := 163) (r1 := 0) (r2 := 0) (r3 := 0) rfl (fun e49 (fe49 : -2147483648 ≤ e49 ∧ e49 ≤ 2147483647) => ?_)
                  refine wr_is (k0 := 59) (a := x9) (f := i14) (x := e49) (bl := -2147483648) (bh := 2147483647) (nx := 164) (r1 := 0) (r2 := 0) (r3 := 0) rfl (by decide) rfl (by omega) (by omega) (by decide) g43 rfl (by omega) (fun h50 g50 w50 u50 => ?_)
                  have F51 := F45.then rfl (FR.rngp (lo := 59) (hi := 59) u50 (by decide))
                  have F52 := F46.then rfl (FR.rngp (lo := 59) (hi := 59) u50 (by decide))
                  refine wi_iload (i := 9) (e := e47) (nx := 166) (r1 := 0) (r2 := 0) (r3 := 0) rfl rfl ?_
                  refine wi_ldc (e := 1048576) (nx := 168) (r1 := 0) (r2 := 1048576) (r3 := 0) rfl rfl (by decide) ?_
                  refine wi_S (rest := []) (as := [vi e47, vi 1048576]) (nx := 171) (r1 := 354) (r2 := 18) (r3 := 0) rfl rfl rfl (of_decide_eq_true rfl) rfl rfl (of_decide_eq_true rfl) (of_decide_eq_true rfl) ?_
                  refine wi_iload_n (i := 0) (e := e47) (nx := 1) (r1 := 0) (r2 := 0) (r3 := 0) rfl rfl ?_
                  refine wi_iload_n (i := 1) (e := 1048576) (nx := 2) (r1 := 0) (r2 := 0) (r3 := 0) rfl rfl ?_
                  refine wi_icmp (cd := .gt) (nx := 5) (r1 := 9) (r2 := 0) (r3 := 0) rfl (by omega) (by omega) (fun (q53 : 1048576 < e47) => ?_) (fun (q53 : ¬ (1048576 < e47)) => ?_)
                  ·
                    refine wi_iload_n (i := 1) (e := 1048576) (nx := 10) (r1 := 0) (r2 := 0) (r3 := 0) rfl rfl ?_
                    refine wi_ireturn (nx := 11) (r1 := 0) (r2 := 0) (r3 := 0) rfl rfl ?_
                    refine wk_i ?_
                    refine wi_ireturn (nx := 172) (r1 := 0) (r2 := 0) (r3 := 0) rfl rfl ?_
                    refine wk_i ?_
                    refine wi_istore (i := 8) (e := 1048576) (lo2 := [(8, vi 1048576), (0, .ref 56), (1, vi a0), (2, vi a1), (3, vi a2), (4, vi a3), (5, vi z4), (6, vi x8), (7, vi x9)]) (nx := 71) (r1 := 0) (r2 := 0) (r3 := 0) rfl rfl ?_
                    refine wi_iload (i := 8) (e := 1048576) (nx := 73) (r1 := 0) (r2 := 0) (r3 := 0) rfl rfl ?_
                    refine wi_iload (i := 6) (e := x8) (nx := 75) (r1 := 0) (r2 := 0) (r3 := 0) rfl rfl ?_
                    refine wi_icmp (cd := .ge) (nx := 78) (r1 := 92) (r2 := 0) (r3 := 0) rfl (by omega) (by omega) (fun (q54 : x8 ≤ 1048576) => ?_) (fun (q54 : ¬ (x8 ≤ 1048576)) => by exfalso; omega)
                    refine wr_iinc (i := 7) (n := 1) (v := x9) (fun e55 => [(7, vi e55), (8, vi 1048576), (0, .ref 56), (1, vi a0), (2, vi a1), (3, vi a2), (4, vi a3), (5, vi z4), (6, vi x8)]) (nx := 95) (r1 := 0) (r2 := 0) (r3 := 0) rfl rfl (fun _ => rfl) (fun e55 (fe55 : e55 = x9 + 1) => ?_)
                    refine wi_goto (nx := 98) (r1 := 46) (r2 := 0) (r3 := 0) rfl ?_
                    refine wp.lo (lo := [(0, .ref 56), (1, vi a0), (2, vi a1), (3, vi a2), (4, vi a3), (5, vi z4), (6, vi x8), (7, vi e55)]) ⟨rfl, rfl, rfl, rfl, rfl, rfl, rfl, rfl, trivial⟩ rfl ?_
                    exact I10 x8 e55 h50 ⟨g50, F51, F52, (show (-2147483648 ≤ x8 ∧ x8 ≤ 1048576) ∧ (0 ≤ e55 ∧ e55 ≤ 4) by omega)⟩ (show ((4 : Int) + 1 - e55).toNat < ((4 : Int) + 1 - x9).toNat by omega)
                  ·
                    refine wi_iload_n (i := 0) (e := e47) (nx := 6) (r1 := 0) (r2 := 0) (r3 := 0) rfl rfl ?_
                    refine wi_goto (nx := 9) (r1 := 10) (r2 := 0) (r3 := 0) rfl ?_
                    refine wi_ireturn (nx := 11) (r1 := 0) (r2 := 0) (r3 := 0) rfl rfl ?_
                    refine wk_i ?_
                    refine wi_ireturn (nx := 172) (r1 := 0) (r2 := 0) (r3 := 0) rfl rfl ?_
                    refine wk_i ?_
                    refine wi_istore (i := 8) (e := e47) (lo2 := [(8, vi e47), (0, .ref 56), (1, vi a0), (2, vi a1), (3, vi a2), (4, vi a3), (5, vi z4), (6, vi x8), (7, vi x9)]) (nx := 71) (r1 := 0) (r2 := 0) (r3 := 0) rfl rfl ?_
                    refine wi_iload (i := 8) (e := e47) (nx := 73) (r1 := 0) (r2 := 0) (r3 := 0) rfl rfl ?_
                    refine wi_iload (i := 6) (e := x8) (nx := 75) (r1 := 0) (r2 := 0) (r3 := 0) rfl rfl ?_
                    refine wi_icmp (cd := .ge) (nx := 78) (r1 := 92) (r2 := 0) (r3 := 0) rfl (by omega) (by omega) (fun (q54 : x8 ≤ e47) => ?_) (fun (q54 : ¬ (x8 ≤ e47)) => ?_)
                    ·
                      refine wr_iinc (i := 7) (n := 1) (v := x9) (fun e55 => [(7, vi e55), (8, vi e47), (0, .ref 56), (1, vi a0), (2, vi a1), (3, vi a2), (4, vi a3), (5, vi z4), (6, vi x8)]) (nx := 95) (r1 := 0) (r2 := 0) (r3 := 0) rfl rfl (fun _ => rfl) (fun e55 (fe55 : e55 = x9 + 1) => ?_)
                      refine wi_goto (nx := 98) (r1 := 46) (r2 := 0) (r3 := 0) rfl ?_
                      refine wp.lo (lo := [(0, .ref 56), (1, vi a0), (2, vi a1), (3, vi a2), (4, vi a3), (5, vi z4), (6, vi x8), (7, vi e55)]) ⟨rfl, rfl, rfl, rfl, rfl, rfl, rfl, rfl, trivial⟩ rfl ?_
                      exact I10 x8 e55 h50 ⟨g50, F51, F52, (show (-2147483648 ≤ x8 ∧ x8 ≤ 1048576) ∧ (0 ≤ e55 ∧ e55 ≤ 4) by omega)⟩ (show ((4 : Int) + 1 - e55).toNat < ((4 : Int) + 1 - x9).toNat by omega)
                    ·
                      refine wi_iload (i := 8) (e := e47) (nx := 80) (r1 := 0) (r2 := 0) (r3 := 0) rfl rfl ?_
                      refine wi_istore (i := 6) (e := e47) (lo2 := [(6, vi e47), (8, vi e47), (0, .ref 56), (1, vi a0), (2, vi a1), (3, vi a2), (4, vi a3), (5, vi z4), (7, vi x9)]) (nx := 82) (r1 := 0) (r2 := 0) (r3 := 0) rfl rfl ?_
                      refine wi_aload_n (i := 0) (x := 56) (nx := 83) (r1 := 0) (r2 := 0) (r3 := 0) rfl rfl ?_
                      refine wr_gr (k0 := 56) (x := 58) (nx := 86) (r1 := 6) (r2 := 3) (r3 := 0) rfl rfl (by decide) rfl ⟨rfl, rfl⟩ rfl ?_
                      refine wi_iload (i := 5) (e := z4) (nx := 88) (r1 := 0) (r2 := 0) (r3 := 0) rfl rfl ?_
                      refine wi_iload (i := 7) (e := x9) (nx := 90) (r1 := 0) (r2 := 0) (r3 := 0) rfl rfl ?_
                      refine wr_i2bA (nx := 91) (r1 := 0) (r2 := 0) (r3 := 0) rfl (fun e55 (fe55 : -128 ≤ e55 ∧ e55 ≤ 127) => ?_)
                      refine wr_bs (k0 := 58) (a := z4) (f := i5) (x := e55) (bl := -128) (bh := 127) (nx := 92) (r1 := 0) (r2 := 0) (r3 := 0) rfl (by decide) rfl (by omega) (by omega) (by omega) (by decide) g50 rfl (by omega) (fun h56 g56 w56 u56 => ?_)
                      have F57 := F51.then rfl (FR.rngp (lo := 58) (hi := 58) u56 (by decide))
                      have F58 := F52.then rfl (FR.rngp (lo := 58) (hi := 58) u56 (by decide))
                      refine wr_iinc (i := 7) (n := 1) (v := x9) (fun e59 => [(7, vi e59), (6, vi e47), (8, vi e47), (0, .ref 56), (1, vi a0), (2, vi a1), (3, vi a2), (4, vi a3), (5, vi z4)]) (nx := 95) (r1 := 0) (r2 := 0) (r3 := 0) rfl rfl (fun _ => rfl) (fun e59 (fe59 : e59 = x9 + 1) => ?_)
                      refine wi_goto (nx := 98) (r1 := 46) (r2 := 0) (r3 := 0) rfl ?_
                      refine wp.lo (lo := [(0, .ref 56), (1, vi a0), (2, vi a1), (3, vi a2), (4, vi a3), (5, vi z4), (6, vi e47), (7, vi e59)]) ⟨rfl, rfl, rfl, rfl, rfl, rfl, rfl, rfl, trivial⟩ rfl ?_
                      exact I10 e47 e59 h56 ⟨g56, F57, F58, (show (-2147483648 ≤ e47 ∧ e47 ≤ 1048576) ∧ (0 ≤ e59 ∧ e59 ≤ 4) by omega)⟩ (show ((4 : Int) + 1 - e59).toNat < ((4 : Int) + 1 - x9).toNat by omega)
              ·
                refine wi_iconst (n := 0) (nx := 6) (r1 := 0) (r2 := 0) (r3 := 0) rfl ?_
                refine wi_ireturn (nx := 7) (r1 := 0) (r2 := 0) (r3 := 0) rfl rfl ?_
                refine wk_i ?_
                refine wi_istore (i := 8) (e := 0) (lo2 := [(8, vi 0), (7, vi (h 19 i26)), (6, vi z18), (0, .ref 56), (1, vi x9), (2, vi a0), (3, vi a1), (4, vi a2), (5, vi a3)]) (nx := 83) (r1 := 0) (r2 := 0) (r3 := 0) rfl rfl ?_
                refine wi_aload_n (i := 0) (x := 56) (nx := 84) (r1 := 0) (r2 := 0) (r3 := 0) rfl rfl ?_
                refine wr_gr (k0 := 56) (x := 3) (nx := 87) (r1 := 6) (r2 := 0) (r3 := 0) rfl rfl (by decide) rfl ⟨rfl, rfl⟩ rfl ?_
                refine wi_iload (i := 8) (e := 0) (nx := 89) (r1 := 0) (r2 := 0) (r3 := 0) rfl rfl ?_
                refine wi_iload (i := 7) (e := h 19 i26) (nx := 91) (r1 := 0) (r2 := 0) (r3 := 0) rfl rfl ?_
                refine wr_V (k0 := 3) (rest := []) (as := [.ref 3, vi 0, vi (h 19 i26)]) (nx := 94) (r1 := 110) (r2 := 2) (r3 := 2) rfl rfl rfl (of_decide_eq_true rfl) rfl rfl (by decide) rfl rfl (of_decide_eq_true rfl) (of_decide_eq_true rfl) ?_
                refine ct_110_3 hcr  g10 0 (h 19 i26) (by omega) (by omega)  (fun z30  (fz30 : -2147483648 ≤ z30 ∧ z30 ≤ 2147483647) => ?_)
                refine wk_i ?_
                refine wi_bipush (n := 16) (nx := 96) (r1 := 0) (r2 := 0) (r3 := 0) rfl (by decide) ?_
                refine wr_mulW (nx := 97) (r1 := 0) (r2 := 0) (r3 := 0) rfl (fun e31 (fe31 : -2147483648 ≤ e31 ∧ e31 ≤ 2147483647) => ?_)
                refine wi_iload (i := 8) (e := 0) (nx := 99) (r1 := 0) (r2 := 0) (r3 := 0) rfl rfl ?_
                refine wi_iconst (n := 1) (nx := 100) (r1 := 0) (r2 := 0) (r3 := 0) rfl ?_
                refine wi_icmp (cd := .ne) (nx := 103) (r1 := 107) (r2 := 0) (r3 := 0) rfl (by omega) (by omega) (fun (q32 : 0 ≠ 1) => ?_) (fun (q32 : ¬ (0 ≠ 1)) => by exfalso; omega)
                refine wi_iconst (n := 0) (nx := 108) (r1 := 0) (r2 := 0) (r3 := 0) rfl ?_
                refine wr_add (nx := 109) (r1 := 0) (r2 := 0) (r3 := 0) rfl (fun e33 (fe33 : e33 = e31 + 0) => ?_)
                refine wi_istore (i := 9) (e := e33) (lo2 := [(9, vi e33), (8, vi 0), (7, vi (h 19 i26)), (6, vi z18), (0, .ref 56), (1, vi x9), (2, vi a0), (3, vi a1), (4, vi a2), (5, vi a3)]) (nx := 111) (r1 := 0) (r2 := 0) (r3 := 0) rfl rfl ?_
                refine wi_iload_n (i := 3) (e := a1) (nx := 112) (r1 := 0) (r2 := 0) (r3 := 0) rfl rfl ?_
                refine wi_aload_n (i := 0) (x := 56) (nx := 113) (r1 := 0) (r2 := 0) (r3 := 0) rfl rfl ?_
                refine wr_gr (k0 := 56) (x := 60) (nx := 116) (r1 := 6) (r2 := 5) (r3 := 0) rfl rfl (by decide) rfl ⟨rfl, rfl⟩ rfl ?_
                refine wi_iload_n (i := 1) (e := x9) (nx := 117) (r1 := 0) (r2 := 0) (r3 := 0) rfl rfl ?_
                have b34 := gi_b (lo := -2147483648) (hi := 2147483647) g 60 i14 rfl
                refine wr_ia (k0 := 60) (a := x9) (f := i14) (x := h 60 i14) (nx := 118) (r1 := 0) (r2 := 0) (r3 := 0) rfl (by decide) rfl (by omega) (by omega) (by decide) (u10 60 i14 (fn_a (by omega) (fn_a (by omega) (fn_a (by omega) fn_0)))) ?_
                refine wr_addW (nx := 119) (r1 := 0) (r2 := 0) (r3 := 0) rfl (fun e35 (fe35 : -2147483648 ≤ e35 ∧ e35 ≤ 2147483647) => ?_)
                refine wi_istore (i := 10) (e := e35) (lo2 := [(10, vi e35), (9, vi e33), (8, vi 0), (7, vi (h 19 i26)), (6, vi z18), (0, .ref 56), (1, vi x9), (2, vi a0), (3, vi a1), (4, vi a2), (5, vi a3)]) (nx := 121) (r1 := 0) (r2 := 0) (r3 := 0) rfl rfl ?_
                refine wi_aload_n (i := 0) (x := 56) (nx := 122) (r1 := 0) (r2 := 0) (r3 := 0) rfl rfl ?_
                refine wr_gr (k0 := 56) (x := 59) (nx := 125) (r1 := 6) (r2 := 4) (r3 := 0) rfl rfl (by decide) rfl ⟨rfl, rfl⟩ rfl ?_
                refine wi_iload_n (i := 1) (e := x9) (nx := 126) (r1 := 0) (r2 := 0) (r3 := 0) rfl rfl ?_
                refine wi_dup2 (nx := 127) (r1 := 0) (r2 := 0) (r3 := 0) rfl rfl rfl ?_
                refine wr_ia (k0 := 59) (a := x9) (f := i14) (x := h10 59 i14) (nx := 128) (r1 := 0) (r2 := 0) (r3 := 0) rfl (by decide) rfl (by omega) (by omega) (by decide) rfl ?_
                refine wi_iconst (n := 1) (nx := 129) (r1 := 0) (r2 := 0) (r3 := 0) rfl ?_
                refine wr_addW (nx := 130) (r1 := 0) (r2 := 0) (r3 := 0) rfl (fun e36 (fe36 : -2147483648 ≤ e36 ∧ e36 ≤ 2147483647) => ?_)
                refine wr_is (k0 := 59) (a := x9) (f := i14) (x := e36) (bl := -2147483648) (bh := 2147483647) (nx := 131) (r1 := 0) (r2 := 0) (r3 := 0) rfl (by decide) rfl (by omega) (by omega) (by decide) g10 rfl (by omega) (fun h37 g37 w37 u37 => ?_)
                have F38 := F11.then rfl (FR.rngp (lo := 59) (hi := 59) u37 (by decide))
                have F39 := u10.then rfl (FR.rngp (lo := 59) (hi := 59) u37 (by decide))
                refine wi_iload (i := 9) (e := e33) (nx := 133) (r1 := 0) (r2 := 0) (r3 := 0) rfl rfl ?_
                refine wi_aload_n (i := 0) (x := 56) (nx := 134) (r1 := 0) (r2 := 0) (r3 := 0) rfl rfl ?_
                refine wi_iload_n (i := 2) (e := a0) (nx := 135) (r1 := 0) (r2 := 0) (r3 := 0) rfl rfl ?_
                refine wi_iconst (n := 1) (nx := 136) (r1 := 0) (r2 := 0) (r3 := 0) rfl ?_
                refine wr_add (nx := 137) (r1 := 0) (r2 := 0) (r3 := 0) rfl (fun e40 (fe40 : e40 = a0 + 1) => ?_)
                refine wi_iload (i := 10) (e := e35) (nx := 139) (r1 := 0) (r2 := 0) (r3 := 0) rfl rfl ?_
                refine wi_iload (i := 7) (e := h 19 i26) (nx := 141) (r1 := 0) (r2 := 0) (r3 := 0) rfl rfl ?_
                refine wi_iload (i := 8) (e := 0) (nx := 143) (r1 := 0) (r2 := 0) (r3 := 0) rfl rfl ?_
                refine wi_iload (i := 5) (e := a3) (nx := 145) (r1 := 0) (r2 := 0) (r3 := 0) rfl rfl ?_
                refine wi_S (rest := [vi (h 19 i26), vi e35, vi e40, .ref 56, vi e33]) (as := [vi 0, vi a3]) (nx := 148) (r1 := 111) (r2 := 18) (r3 := 0) rfl rfl rfl (of_decide_eq_true rfl) rfl rfl (of_decide_eq_true rfl) (of_decide_eq_true rfl) ?_
                refine wi_iload_n (i := 0) (e := 0) (nx := 1) (r1 := 0) (r2 := 0) (r3 := 0) rfl rfl ?_
                refine wi_if (cd := .ne) (nx := 4) (r1 := 10) (r2 := 0) (r3 := 0) rfl (by omega) (fun (q41 : 0 ≠ 0) => by exfalso; omega) (fun (q41 : ¬ (0 ≠ 0)) => ?_)
                refine wi_iload_n (i := 1) (e := a3) (nx := 5) (r1 := 0) (r2 := 0) (r3 := 0) rfl rfl ?_
                refine wi_iconst (n := 1) (nx := 6) (r1 := 0) (r2 := 0) (r3 := 0) rfl ?_
                refine wr_addW (nx := 7) (r1 := 0) (r2 := 0) (r3 := 0) rfl (fun e42 (fe42 : -2147483648 ≤ e42 ∧ e42 ≤ 2147483647) => ?_)
                refine wi_goto (nx := 10) (r1 := 11) (r2 := 0) (r3 := 0) rfl ?_
                refine wi_ireturn (nx := 12) (r1 := 0) (r2 := 0) (r3 := 0) rfl rfl ?_
                refine wk_i ?_
                refine wr_V (k0 := 56) (rest := [vi e33]) (as := [.ref 56, vi e40, vi e35, vi (h 19 i26), vi e42]) (nx := 151) (r1 := 164) (r2 := 4) (r3 := 6) rfl rfl rfl (of_decide_eq_true rfl) rfl rfl (by decide) rfl rfl (of_decide_eq_true rfl) (of_decide_eq_true rfl) ?_
                refine wp_eq (e := d + 2 * (n - 1) + 5) (by omega) ?_
                refine IH (n - 1) (by omega) g37 e40 e35 (h 19 i26) e42 (by omega) (by omega) (by omega) (by omega)  (by omega) (fun h43 z44 g43 u43 (fz44 : -2147483648 ≤ z44 ∧ z44 ≤ 2147483647) => ?_)
                have F45 := F38.then (by decide +kernel) u43
                have F46 := F39.then (by decide +kernel) u43
                refine wk_i ?_
                refine wr_addW (nx := 152) (r1 := 0) (r2 := 0) (r3 := 0) rfl (fun e47 (fe47 : -2147483648 ≤ e47 ∧ e47 ≤ 2147483647) => ?_)
                refine wi_istore (i := 9) (e := e47) (lo2 := [(9, vi e47), (10, vi e35), (8, vi 0), (7, vi (h 19 i26)), (6, vi z18), (0, .ref 56), (1, vi x9), (2, vi a0), (3, vi a1), (4, vi a2), (5, vi a3)]) (nx := 154) (r1 := 0) (r2 := 0) (r3 := 0) rfl rfl ?_
                refine wi_aload_n (i := 0) (x := 56) (nx := 155) (r1 := 0) (r2 := 0) (r3 := 0) rfl rfl ?_
                refine wr_gr (k0 := 56) (x := 59) (nx := 158) (r1 := 6) (r2 := 4) (r3 := 0) rfl rfl (by decide) rfl ⟨rfl, rfl⟩ rfl ?_
                refine wi_iload_n (i := 1) (e := x9) (nx := 159) (r1 := 0) (r2 := 0) (r3 := 0) rfl rfl ?_
                refine wi_dup2 (nx := 160) (r1 := 0) (r2 := 0) (r3 := 0) rfl rfl rfl ?_
                have b48 := gi_b (lo := -2147483648) (hi := 2147483647) g43 59 i14 rfl
                refine wr_ia (k0 := 59) (a := x9) (f := i14) (x := h43 59 i14) (nx := 161) (r1 := 0) (r2 := 0) (r3 := 0) rfl (by decide) rfl (by omega) (by omega) (by decide) rfl ?_
                refine wi_iconst (n := 1) (nx := 162) (r1 := 0) (r2 := 0) (r3 := 0) rfl ?_
                refine wr_subW (nx := 163) (r1 := 0) (r2 := 0) (r3 := 0) rfl (fun e49 (fe49 : -2147483648 ≤ e49 ∧ e49 ≤ 2147483647) => ?_)
                refine wr_is (k0 := 59) (a := x9) (f := i14) (x := e49) (bl := -2147483648) (bh := 2147483647) (nx := 164) (r1 := 0) (r2 := 0) (r3 := 0) rfl (by decide) rfl (by omega) (by omega) (by decide) g43 rfl (by omega) (fun h50 g50 w50 u50 => ?_)
                have F51 := F45.then rfl (FR.rngp (lo := 59) (hi := 59) u50 (by decide))
                have F52 := F46.then rfl (FR.rngp (lo := 59) (hi := 59) u50 (by decide))
                refine wi_iload (i := 9) (e := e47) (nx := 166) (r1 := 0) (r2 := 0) (r3 := 0) rfl rfl ?_
                refine wi_ldc (e := 1048576) (nx := 168) (r1 := 0) (r2 := 1048576) (r3 := 0) rfl rfl (by decide) ?_
                refine wi_S (rest := []) (as := [vi e47, vi 1048576]) (nx := 171) (r1 := 354) (r2 := 18) (r3 := 0) rfl rfl rfl (of_decide_eq_true rfl) rfl rfl (of_decide_eq_true rfl) (of_decide_eq_true rfl) ?_
                refine wi_iload_n (i := 0) (e := e47) (nx := 1) (r1 := 0) (r2 := 0) (r3 := 0) rfl rfl ?_
                refine wi_iload_n (i := 1) (e := 1048576) (nx := 2) (r1 := 0) (r2 := 0) (r3 := 0) rfl rfl ?_
                refine wi_icmp (cd := .gt) (nx := 5) (r1 := 9) (r2 := 0) (r3 := 0) rfl (by omega) (by omega) (fun (q53 : 1048576 < e47) => ?_) (fun (q53 : ¬ (1048576 < e47)) => ?_)
                ·
                  refine wi_iload_n (i := 1) (e := 1048576) (nx := 10) (r1 := 0) (r2 := 0) (r3 := 0) rfl rfl ?_
                  refine wi_ireturn (nx := 11) (r1 := 0) (r2 := 0) (r3 := 0) rfl rfl ?_
                  refine wk_i ?_
                  refine wi_ireturn (nx := 172) (r1 := 0) (r2 := 0) (r3 := 0) rfl rfl ?_
                  refine wk_i ?_
                  refine wi_istore (i := 8) (e := 1048576) (lo2 := [(8, vi 1048576), (0, .ref 56), (1, vi a0), (2, vi a1), (3, vi a2), (4, vi a3), (5, vi z4), (6, vi x8), (7, vi x9)]) (nx := 71) (r1 := 0) (r2 := 0) (r3 := 0) rfl rfl ?_
                  refine wi_iload (i := 8) (e := 1048576) (nx := 73) (r1 := 0) (r2 := 0) (r3 := 0) rfl rfl ?_
                  refine wi_iload (i := 6) (e := x8) (nx := 75) (r1 := 0) (r2 := 0) (r3 := 0) rfl rfl ?_
                  refine wi_icmp (cd := .ge) (nx := 78) (r1 := 92) (r2 := 0) (r3 := 0) rfl (by omega) (by omega) (fun (q54 : x8 ≤ 1048576) => ?_) (fun (q54 : ¬ (x8 ≤ 1048576)) => by exfalso; omega)
                  refine wr_iinc (i := 7) (n := 1) (v := x9) (fun e55 => [(7, vi e55), (8, vi 1048576), (0, .ref 56), (1, vi a0), (2, vi a1), (3, vi a2), (4, vi a3), (5, vi z4), (6, vi x8)]) (nx := 95) (r1 := 0) (r2 := 0) (r3 := 0) rfl rfl (fun _ => rfl) (fun e55 (fe55 : e55 = x9 + 1) => ?_)
                  refine wi_goto (nx := 98) (r1 := 46) (r2 := 0) (r3 := 0) rfl ?_
                  refine wp.lo (lo := [(0, .ref 56), (1, vi a0), (2, vi a1), (3, vi a2), (4, vi a3), (5, vi z4), (6, vi x8), (7, vi e55)]) ⟨rfl, rfl, rfl, rfl, rfl, rfl, rfl, rfl, trivial⟩ rfl ?_
                  exact I10 x8 e55 h50 ⟨g50, F51, F52, (show (-2147483648 ≤ x8 ∧ x8 ≤ 1048576) ∧ (0 ≤ e55 ∧ e55 ≤ 4) by omega)⟩ (show ((4 : Int) + 1 - e55).toNat < ((4 : Int) + 1 - x9).toNat by omega)
                ·
                  refine wi_iload_n (i := 0) (e := e47) (nx := 6) (r1 := 0) (r2 := 0) (r3 := 0) rfl rfl ?_
                  refine wi_goto (nx := 9) (r1 := 10) (r2 := 0) (r3 := 0) rfl ?_
                  refine wi_ireturn (nx := 11) (r1 := 0) (r2 := 0) (r3 := 0) rfl rfl ?_
                  refine wk_i ?_
                  refine wi_ireturn (nx := 172) (r1 := 0) (r2 := 0) (r3 := 0) rfl rfl ?_
                  refine wk_i ?_
                  refine wi_istore (i := 8) (e := e47) (lo2 := [(8, vi e47), (0, .ref 56), (1, vi a0), (2, vi a1), (3, vi a2), (4, vi a3), (5, vi z4), (6, vi x8), (7, vi x9)]) (nx := 71) (r1 := 0) (r2 := 0) (r3 := 0) rfl rfl ?_
                  refine wi_iload (i := 8) (e := e47) (nx := 73) (r1 := 0) (r2 := 0) (r3 := 0) rfl rfl ?_
                  refine wi_iload (i := 6) (e := x8) (nx := 75) (r1 := 0) (r2 := 0) (r3 := 0) rfl rfl ?_
                  refine wi_icmp (cd := .ge) (nx := 78) (r1 := 92) (r2 := 0) (r3 := 0) rfl (by omega) (by omega) (fun (q54 : x8 ≤ e47) => ?_) (fun (q54 : ¬ (x8 ≤ e47)) => ?_)
                  ·
                    refine wr_iinc (i := 7) (n := 1) (v := x9) (fun e55 => [(7, vi e55), (8, vi e47), (0, .ref 56), (1, vi a0), (2, vi a1), (3, vi a2), (4, vi a3), (5, vi z4), (6, vi x8)]) (nx := 95) (r1 := 0) (r2 := 0) (r3 := 0) rfl rfl (fun _ => rfl) (fun e55 (fe55 : e55 = x9 + 1) => ?_)
                    refine wi_goto (nx := 98) (r1 := 46) (r2 := 0) (r3 := 0) rfl ?_
                    refine wp.lo (lo := [(0, .ref 56), (1, vi a0), (2, vi a1), (3, vi a2), (4, vi a3), (5, vi z4), (6, vi x8), (7, vi e55)]) ⟨rfl, rfl, rfl, rfl, rfl, rfl, rfl, rfl, trivial⟩ rfl ?_
                    exact I10 x8 e55 h50 ⟨g50, F51, F52, (show (-2147483648 ≤ x8 ∧ x8 ≤ 1048576) ∧ (0 ≤ e55 ∧ e55 ≤ 4) by omega)⟩ (show ((4 : Int) + 1 - e55).toNat < ((4 : Int) + 1 - x9).toNat by omega)
                  ·
                    refine wi_iload (i := 8) (e := e47) (nx := 80) (r1 := 0) (r2 := 0) (r3 := 0) rfl rfl ?_
                    refine wi_istore (i := 6) (e := e47) (lo2 := [(6, vi e47), (8, vi e47), (0, .ref 56), (1, vi a0), (2, vi a1), (3, vi a2), (4, vi a3), (5, vi z4), (7, vi x9)]) (nx := 82) (r1 := 0) (r2 := 0) (r3 := 0) rfl rfl ?_
                    refine wi_aload_n (i := 0) (x := 56) (nx := 83) (r1 := 0) (r2 := 0) (r3 := 0) rfl rfl ?_
                    refine wr_gr (k0 := 56) (x := 58) (nx := 86) (r1 := 6) (r2 := 3) (r3 := 0) rfl rfl (by decide) rfl ⟨rfl, rfl⟩ rfl ?_
                    refine wi_iload (i := 5) (e := z4) (nx := 88) (r1 := 0) (r2 := 0) (r3 := 0) rfl rfl ?_
                    refine wi_iload (i := 7) (e := x9) (nx := 90) (r1 := 0) (r2 := 0) (r3 := 0) rfl rfl ?_
                    refine wr_i2bA (nx := 91) (r1 := 0) (r2 := 0) (r3 := 0) rfl (fun e55 (fe55 : -128 ≤ e55 ∧ e55 ≤ 127) => ?_)
                    refine wr_bs (k0 := 58) (a := z4) (f := i5) (x := e55) (bl := -128) (bh := 127) (nx := 92) (r1 := 0) (r2 := 0) (r3 := 0) rfl (by decide) rfl (by omega) (by omega) (by omega) (by decide) g50 rfl (by omega) (fun h56 g56 w56 u56 => ?_)
                    have F57 := F51.then rfl (FR.rngp (lo := 58) (hi := 58) u56 (by decide))
                    have F58 := F52.then rfl (FR.rngp (lo := 58) (hi := 58) u56 (by decide))
                    refine wr_iinc (i := 7) (n := 1) (v := x9) (fun e59 => [(7, vi e59), (6, vi e47), (8, vi e47), (0, .ref 56), (1, vi a0), (2, vi a1), (3, vi a2), (4, vi a3), (5, vi z4)]) (nx := 95) (r1 := 0) (r2 := 0) (r3 := 0) rfl rfl (fun _ => rfl) (fun e59 (fe59 : e59 = x9 + 1) => ?_)
                    refine wi_goto (nx := 98) (r1 := 46) (r2 := 0) (r3 := 0) rfl ?_
                    refine wp.lo (lo := [(0, .ref 56), (1, vi a0), (2, vi a1), (3, vi a2), (4, vi a3), (5, vi z4), (6, vi e47), (7, vi e59)]) ⟨rfl, rfl, rfl, rfl, rfl, rfl, rfl, rfl, trivial⟩ rfl ?_
                    exact I10 e47 e59 h56 ⟨g56, F57, F58, (show (-2147483648 ≤ e47 ∧ e47 ≤ 1048576) ∧ (0 ≤ e59 ∧ e59 ≤ 4) by omega)⟩ (show ((4 : Int) + 1 - e59).toNat < ((4 : Int) + 1 - x9).toNat by omega)
            ·
              refine wi_ldc (e := 1048576) (nx := 55) (r1 := 0) (r2 := 1048576) (r3 := 0) rfl rfl (by decide) ?_
              refine wi_ireturn (nx := 56) (r1 := 0) (r2 := 0) (r3 := 0) rfl rfl ?_
              refine wk_i ?_
              refine wi_istore (i := 8) (e := 1048576) (lo2 := [(8, vi 1048576), (0, .ref 56), (1, vi a0), (2, vi a1), (3, vi a2), (4, vi a3), (5, vi z4), (6, vi x8), (7, vi x9)]) (nx := 71) (r1 := 0) (r2 := 0) (r3 := 0) rfl rfl ?_
              refine wi_iload (i := 8) (e := 1048576) (nx := 73) (r1 := 0) (r2 := 0) (r3 := 0) rfl rfl ?_
              refine wi_iload (i := 6) (e := x8) (nx := 75) (r1 := 0) (r2 := 0) (r3 := 0) rfl rfl ?_
              refine wi_icmp (cd := .ge) (nx := 78) (r1 := 92) (r2 := 0) (r3 := 0) rfl (by omega) (by omega) (fun (q26 : x8 ≤ 1048576) => ?_) (fun (q26 : ¬ (x8 ≤ 1048576)) => by exfalso; omega)
              refine wr_iinc (i := 7) (n := 1) (v := x9) (fun e27 => [(7, vi e27), (8, vi 1048576), (0, .ref 56), (1, vi a0), (2, vi a1), (3, vi a2), (4, vi a3), (5, vi z4), (6, vi x8)]) (nx := 95) (r1 := 0) (r2 := 0) (r3 := 0) rfl rfl (fun _ => rfl) (fun e27 (fe27 : e27 = x9 + 1) => ?_)
              refine wi_goto (nx := 98) (r1 := 46) (r2 := 0) (r3 := 0) rfl ?_
              refine wp.lo (lo := [(0, .ref 56), (1, vi a0), (2, vi a1), (3, vi a2), (4, vi a3), (5, vi z4), (6, vi x8), (7, vi e27)]) ⟨rfl, rfl, rfl, rfl, rfl, rfl, rfl, rfl, trivial⟩ rfl ?_
              exact I10 x8 e27 h10 ⟨g10, F11, u10, (show (-2147483648 ≤ x8 ∧ x8 ≤ 1048576) ∧ (0 ≤ e27 ∧ e27 ≤ 4) by omega)⟩ (show ((4 : Int) + 1 - e27).toNat < ((4 : Int) + 1 - x9).toNat by omega)
    ·
      refine wi_aload_n (i := 0) (x := 56) (nx := 32) (r1 := 0) (r2 := 0) (r3 := 0) rfl rfl ?_
      refine wr_gr (k0 := 56) (x := 57) (nx := 35) (r1 := 6) (r2 := 2) (r3 := 0) rfl rfl (by decide) rfl ⟨rfl, rfl⟩ rfl ?_
      refine wi_iload (i := 5) (e := z4) (nx := 37) (r1 := 0) (r2 := 0) (r3 := 0) rfl rfl ?_
      refine wr_ia (k0 := 57) (a := z4) (f := i5) (x := h 57 i5) (nx := 38) (r1 := 0) (r2 := 0) (r3 := 0) rfl (by decide) rfl (by omega) (by omega) (by decide) rfl ?_
      refine wi_ireturn (nx := 39) (r1 := 0) (r2 := 0) (r3 := 0) rfl rfl ?_
      exact k h (h 57 i5) g F0 (by omega)
  ·
    refine wi_iconst (n := 0) (nx := 9) (r1 := 0) (r2 := 0) (r3 := 0) rfl ?_
    refine wi_ireturn (nx := 10) (r1 := 0) (r2 := 0) (r3 := 0) rfl rfl ?_
    exact k h 0 g F0 (by omega)
theorem ct_164_56 {L : Nat} {xs : Nat → Int32} {d b c : Nat} {h : hp} {cr : Nat → Nat → Option Nat} {Q : hp_Q} (hcr : CR cr) (g : GI h) (a0 : Int) (a1 : Int) (a2 : Int) (a3 : Int) (q0_ : 0 ≤ a0 ∧ a0 ≤ 48) (q1_ : -2147483648 ≤ a1 ∧ a1 ≤ 2147483647) (q2_ : -2147483648 ≤ a2 ∧ a2 ≤ 2147483647) (q3_ : -2147483648 ≤ a3 ∧ a3 ≤ 2147483647)  (k : ∀ (h2 : hp) (z0 : Int) , GI h2 → FR [(57, 57, none), (58, 58, none), (59, 59, none)] h h2 → (-2147483648 ≤ z0 ∧ z0 ≤ 2147483647) → Q (.inl (some (vi z0))) (hp_w h2 cr) b c) : wp (md_xa (L, xs)) (d + 101) 164 (0, [(0, .ref 56), (1, vi a0), (2, vi a1), (3, vi a2), (4, vi a3)], [], hp_w h cr, b, c) Q := cr_164_56 hcr 48 g a0 a1 a2 a3 q0_ q1_ q2_ q3_  (by omega) k
-- method 168: Unloading.collectLanes()V
set_option maxRecDepth 100000 in
set_option maxHeartbeats 100000000 in
theorem ct_168_56 {L : Nat} {xs : Nat → Int32} {d b c : Nat} {h : hp} {cr : Nat → Nat → Option Nat} {Q : hp_Q} (hcr : CR cr)  (g : GI h)    (k : ∀ (h2 : hp) , GI h2 → FR [(59, 59, none), (61, 62, none)] h h2 → Q (.inl none) (hp_w h2 cr) b c) : wp (md_xa (L, xs)) (d + 2) 168 (0, [(0, .ref 56)], [], hp_w h cr, b, c) Q := by
  have F0 : FR [(59, 59, none), (61, 62, none)] h h := FR.refl
  refine wi_iconst (n := 0) (nx := 1) (r1 := 0) (r2 := 0) (r3 := 0) rfl ?_
  refine wi_istore_n (i := 1) (e := 0) (lo2 := [(1, vi 0), (0, .ref 56)]) (nx := 2) (r1 := 0) (r2 := 0) (r3 := 0) rfl rfl ?_
  refine wi_aload_n (i := 0) (x := 56) (nx := 3) (r1 := 0) (r2 := 0) (r3 := 0) rfl rfl ?_
  refine wr_gr (k0 := 56) (x := 18) (nx := 6) (r1 := 6) (r2 := 1) (r3 := 0) rfl rfl (by decide) rfl ⟨rfl, rfl⟩ rfl ?_
  have b1 := gi_b (lo := -2147483648) (hi := 2147483647) g 18 8 rfl
  refine wr_gi0 (k0 := 18) (x := h 18 8) (nx := 9) (r1 := 4) (r2 := 8) (r3 := 0) rfl rfl (by decide) rfl ⟨rfl, rfl⟩ rfl rfl ?_
  refine wi_istore_n (i := 2) (e := h 18 8) (lo2 := [(2, vi (h 18 8)), (1, vi 0), (0, .ref 56)]) (nx := 10) (r1 := 0) (r2 := 0) (r3 := 0) rfl rfl ?_
  refine wi_aload_n (i := 0) (x := 56) (nx := 11) (r1 := 0) (r2 := 0) (r3 := 0) rfl rfl ?_
  refine wr_gr (k0 := 56) (x := 18) (nx := 14) (r1 := 6) (r2 := 1) (r3 := 0) rfl rfl (by decide) rfl ⟨rfl, rfl⟩ rfl ?_
  have b2 := gi_b (lo := -2147483648) (hi := 2147483647) g 18 9 rfl
  refine wr_gi0 (k0 := 18) (x := h 18 9) (nx := 17) (r1 := 4) (r2 := 9) (r3 := 0) rfl rfl (by decide) rfl ⟨rfl, rfl⟩ rfl rfl ?_
  refine wi_istore_n (i := 3) (e := h 18 9) (lo2 := [(3, vi (h 18 9)), (2, vi (h 18 8)), (1, vi 0), (0, .ref 56)]) (nx := 18) (r1 := 0) (r2 := 0) (r3 := 0) rfl rfl ?_
  refine wi_iconst (n := 0) (nx := 19) (r1 := 0) (r2 := 0) (r3 := 0) rfl ?_
  refine wi_istore (i := 4) (e := 0) (lo2 := [(4, vi 0), (3, vi (h 18 9)), (2, vi (h 18 8)), (1, vi 0), (0, .ref 56)]) (nx := 21) (r1 := 0) (r2 := 0) (r3 := 0) rfl rfl ?_
  refine wp.lo (lo := [(0, .ref 56), (1, vi 0), (2, vi (h 18 8)), (3, vi (h 18 9)), (4, vi 0)]) ⟨rfl, rfl, rfl, rfl, rfl, trivial⟩ rfl ?_
  refine wl_4 (fun x3 x4 x5 x6 h7 => GI h7 ∧ FR [(59, 59, none), (61, 62, none)] h h7 ∧ FR [(59, 59, none), (61, 62, none)] h h7 ∧ ((-2147483648 ≤ x3 ∧ x3 ≤ 2147483647) ∧ (-2147483648 ≤ x4 ∧ x4 ≤ 2147483647) ∧ (-2147483648 ≤ x5 ∧ x5 ≤ 2147483647) ∧ (0 ≤ x6 ∧ x6 ≤ 48))) (fun x3 x4 x5 x6 h7 => ((48 : Int) + 1 - x6).toNat) (fun x3 x4 x5 x6 h7 => (21, [(0, .ref 56), (1, vi x3), (2, vi x4), (3, vi x5), (4, vi x6)], [], hp_w h7 cr, b, c)) ?_ 0 (h 18 8) (h 18 9) 0 h ⟨g, F0, FR.refl, (show (-2147483648 ≤ 0 ∧ 0 ≤ 2147483647) ∧ (-2147483648 ≤ (h 18 8) ∧ (h 18 8) ≤ 2147483647) ∧ (-2147483648 ≤ (h 18 9) ∧ (h 18 9) ≤ 2147483647) ∧ (0 ≤ 0 ∧ 0 ≤ 48) by omega)⟩
  intro x3 x4 x5 x6 h7 ⟨g7, F8, u7, f7⟩ I7
  refine wi_iload (i := 4) (e := x6) (nx := 23) (r1 := 0) (r2 := 0) (r3 := 0) rfl rfl ?_
  refine wi_aload_n (i := 0) (x := 56) (nx := 24) (r1 := 0) (r2 := 0) (r3 := 0) rfl rfl ?_
  have b9 := gi_b (lo := 0) (hi := 48) g 56 6 rfl
  refine wr_gi0 (k0 := 56) (x := h 56 6) (nx := 27) (r1 := 6) (r2 := 6) (r3 := 0) rfl rfl (by decide) rfl ⟨rfl, rfl⟩ rfl (u7 56 6 rfl) ?_
  refine wi_icmp (cd := .ge) (nx := 30) (r1 := 158) (r2 := 0) (r3 := 0) rfl (by omega) (by omega) (fun (q10 : (h 56 6) ≤ x6) => ?_) (fun (q10 : ¬ ((h 56 6) ≤ x6)) => ?_)
  ·
    refine wi_return (nx := 159) (r1 := 0) (r2 := 0) (r3 := 0) rfl rfl ?_
    exact k h7 g7 F8
  ·
    refine wi_aload_n (i := 0) (x := 56) (nx := 31) (r1 := 0) (r2 := 0) (r3 := 0) rfl rfl ?_
    refine wr_gr (k0 := 56) (x := 58) (nx := 34) (r1 := 6) (r2 := 3) (r3 := 0) rfl rfl (by decide) rfl ⟨rfl, rfl⟩ rfl ?_
    refine wi_aload_n (i := 0) (x := 56) (nx := 35) (r1 := 0) (r2 := 0) (r3 := 0) rfl rfl ?_
    refine wi_iload_n (i := 1) (e := x3) (nx := 36) (r1 := 0) (r2 := 0) (r3 := 0) rfl rfl ?_
    refine wi_iload_n (i := 2) (e := x4) (nx := 37) (r1 := 0) (r2 := 0) (r3 := 0) rfl rfl ?_
    refine wi_iload_n (i := 3) (e := x5) (nx := 38) (r1 := 0) (r2 := 0) (r3 := 0) rfl rfl ?_
    refine wr_V (k0 := 56) (rest := [.ref 58]) (as := [.ref 56, vi x3, vi x4, vi x5]) (nx := 41) (r1 := 165) (r2 := 3) (r3 := 6) rfl rfl rfl (of_decide_eq_true rfl) rfl rfl (by decide) rfl rfl (of_decide_eq_true rfl) (of_decide_eq_true rfl) ?_
    refine ct_165_56 hcr  g7 x3 x4 x5 (by omega) (by omega) (by omega)  (fun z12  (fz12 : 0 ≤ z12 ∧ z12 ≤ 11519) => ?_)
    refine wk_i ?_
    obtain ⟨i13, ei13⟩ : ∃ q : Nat, z12 = (q : Int) := ⟨(z12).toNat, by omega⟩
    have b14 := gi_b (lo := -128) (hi := 127) g 58 i13 rfl
    refine wr_ba (k0 := 58) (a := z12) (f := i13) (x := h 58 i13) (nx := 42) (r1 := 0) (r2 := 0) (r3 := 0) rfl (by decide) rfl (by decide) (by omega) (by omega) (by decide) (u7 58 i13 (fn_a (by omega) (fn_a (by omega) fn_0))) ?_
    refine wi_istore (i := 5) (e := h 58 i13) (lo2 := [(5, vi (h 58 i13)), (0, .ref 56), (1, vi x3), (2, vi x4), (3, vi x5), (4, vi x6)]) (nx := 44) (r1 := 0) (r2 := 0) (r3 := 0) rfl rfl ?_
    refine wi_iload (i := 5) (e := h 58 i13) (nx := 46) (r1 := 0) (r2 := 0) (r3 := 0) rfl rfl ?_
    refine wi_if (cd := .lt) (nx := 49) (r1 := 55) (r2 := 0) (r3 := 0) rfl (by omega) (fun (q15 : (h 58 i13) < 0) => ?_) (fun (q15 : ¬ ((h 58 i13) < 0)) => ?_)
    ·
      refine wi_return (nx := 56) (r1 := 0) (r2 := 0) (r3 := 0) rfl rfl ?_
      exact k h7 g7 F8
    ·
      refine wi_iload (i := 5) (e := h 58 i13) (nx := 51) (r1 := 0) (r2 := 0) (r3 := 0) rfl rfl ?_
      refine wi_iconst (n := 4) (nx := 52) (r1 := 0) (r2 := 0) (r3 := 0) rfl ?_
      refine wi_icmp (cd := .lt) (nx := 55) (r1 := 56) (r2 := 0) (r3 := 0) rfl (by omega) (by omega) (fun (q16 : (h 58 i13) < 4) => ?_) (fun (q16 : ¬ ((h 58 i13) < 4)) => ?_)
      ·
        refine wi_aload_n (i := 0) (x := 56) (nx := 57) (r1 := 0) (r2 := 0) (r3 := 0) rfl rfl ?_
        refine wr_gr (k0 := 56) (x := 18) (nx := 60) (r1 := 6) (r2 := 1) (r3 := 0) rfl rfl (by decide) rfl ⟨rfl, rfl⟩ rfl ?_
        refine wr_gr (k0 := 18) (x := 21) (nx := 63) (r1 := 4) (r2 := 3) (r3 := 0) rfl rfl (by decide) rfl ⟨rfl, rfl⟩ rfl ?_
        refine wi_iload (i := 5) (e := h 58 i13) (nx := 65) (r1 := 0) (r2 := 0) (r3 := 0) rfl rfl ?_
        obtain ⟨i17, ei17⟩ : ∃ q : Nat, (h 58 i13) = (q : Int) := ⟨(h 58 i13).toNat, by omega⟩
        refine wr_aa (k0 := 21) (a := h 58 i13) (f := i17) (x := 21 + 8 + 2 * i17) (nx := 66) (r1 := 0) (r2 := 0) (r3 := 0) rfl (by decide) rfl (Or.inl rfl) (by omega) (by omega) (by decide) (hcr.1 21 (by decide) i17 (by omega)) ?_
        obtain ⟨k18, kk18, mk18⟩ : ∃ q, Rw q ∧ q = 21 + 8 + 2 * i17 := ⟨_, rw_lane 21 (by decide) i17 (by omega), rfl⟩
        rw [← mk18]
        refine wi_aload_n (i := 0) (x := 56) (nx := 67) (r1 := 0) (r2 := 0) (r3 := 0) rfl rfl ?_
        refine wr_gr (k0 := 56) (x := 59) (nx := 70) (r1 := 6) (r2 := 4) (r3 := 0) rfl rfl (by decide) rfl ⟨rfl, rfl⟩ rfl ?_
        refine wi_iload (i := 5) (e := h 58 i13) (nx := 72) (r1 := 0) (r2 := 0) (r3 := 0) rfl rfl ?_
        have b19 := gi_b (lo := -2147483648) (hi := 2147483647) g7 59 i17 rfl
        refine wr_ia (k0 := 59) (a := h 58 i13) (f := i17) (x := h7 59 i17) (nx := 73) (r1 := 0) (r2 := 0) (r3 := 0) rfl (by decide) rfl (by omega) (by omega) (by decide) rfl ?_
        refine wr_V (k0 := k18) (rest := []) (as := [.ref k18, vi (h7 59 i17)]) (nx := 76) (r1 := 154) (r2 := 1) (r3 := 5) rfl rfl rfl (of_decide_eq_true rfl) rfl rfl kk18.k kk18.1 rfl (of_decide_eq_true rfl) (of_decide_eq_true rfl) ?_
        refine ct_154_R hcr kk18 g7 (h7 59 i17) (by omega)  (fun z21  (fz21 : -2147483648 ≤ z21 ∧ z21 ≤ 2147483647) => ?_)
        refine wk_i ?_
        refine wi_istore (i := 6) (e := z21) (lo2 := [(6, vi z21), (5, vi (h 58 i13)), (0, .ref 56), (1, vi x3), (2, vi x4), (3, vi x5), (4, vi x6)]) (nx := 78) (r1 := 0) (r2 := 0) (r3 := 0) rfl rfl ?_
        refine wi_iload (i := 6) (e := z21) (nx := 80) (r1 := 0) (r2 := 0) (r3 := 0) rfl rfl ?_
        refine wi_if (cd := .lt) (nx := 83) (r1 := 90) (r2 := 0) (r3 := 0) rfl (by omega) (fun (q22 : z21 < 0) => ?_) (fun (q22 : ¬ (z21 < 0)) => ?_)
        ·
          refine wi_return (nx := 91) (r1 := 0) (r2 := 0) (r3 := 0) rfl rfl ?_
          exact k h7 g7 F8
        ·
          refine wi_iload (i := 6) (e := z21) (nx := 85) (r1 := 0) (r2 := 0) (r3 := 0) rfl rfl ?_
          refine wi_bipush (n := 12) (nx := 87) (r1 := 0) (r2 := 0) (r3 := 0) rfl (by decide) ?_
          refine wi_icmp (cd := .lt) (nx := 90) (r1 := 91) (r2 := 0) (r3 := 0) rfl (by omega) (by omega) (fun (q23 : z21 < 12) => ?_) (fun (q23 : ¬ (z21 < 12)) => ?_)
          ·
            refine wi_aload_n (i := 0) (x := 56) (nx := 92) (r1 := 0) (r2 := 0) (r3 := 0) rfl rfl ?_
            refine wr_gr (k0 := 56) (x := 18) (nx := 95) (r1 := 6) (r2 := 1) (r3 := 0) rfl rfl (by decide) rfl ⟨rfl, rfl⟩ rfl ?_
            refine wr_gr (k0 := 18) (x := 19) (nx := 98) (r1 := 4) (r2 := 1) (r3 := 0) rfl rfl (by decide) rfl ⟨rfl, rfl⟩ rfl ?_
            refine wi_iload (i := 6) (e := z21) (nx := 100) (r1 := 0) (r2 := 0) (r3 := 0) rfl rfl ?_
            obtain ⟨i24, ei24⟩ : ∃ q : Nat, z21 = (q : Int) := ⟨(z21).toNat, by omega⟩
            have b25 := gi_b (lo := -2147483648) (hi := 2147483647) g 19 i24 rfl
            refine wr_ia (k0 := 19) (a := z21) (f := i24) (x := h 19 i24) (nx := 101) (r1 := 0) (r2 := 0) (r3 := 0) rfl (by decide) rfl (by omega) (by omega) (by decide) (u7 19 i24 (fn_a (by omega) (fn_a (by omega) fn_0))) ?_
            refine wi_istore (i := 7) (e := h 19 i24) (lo2 := [(7, vi (h 19 i24)), (6, vi z21), (5, vi (h 58 i13)), (0, .ref 56), (1, vi x3), (2, vi x4), (3, vi x5), (4, vi x6)]) (nx := 103) (r1 := 0) (r2 := 0) (r3 := 0) rfl rfl ?_
            refine wi_aload_n (i := 0) (x := 56) (nx := 104) (r1 := 0) (r2 := 0) (r3 := 0) rfl rfl ?_
            refine wr_gr (k0 := 56) (x := 61) (nx := 107) (r1 := 6) (r2 := 8) (r3 := 0) rfl rfl (by decide) rfl ⟨rfl, rfl⟩ rfl ?_
            refine wi_iload (i := 5) (e := h 58 i13) (nx := 109) (r1 := 0) (r2 := 0) (r3 := 0) rfl rfl ?_
            refine wr_V (k0 := 61) (rest := []) (as := [.ref 61, vi (h 58 i13)]) (nx := 112) (r1 := 158) (r2 := 1) (r3 := 5) rfl rfl rfl (of_decide_eq_true rfl) rfl rfl (by decide) rfl rfl (of_decide_eq_true rfl) (of_decide_eq_true rfl) ?_
            refine ct_158_R hcr rw_61 g7 (h 58 i13) (by omega)  (fun h26 g26 u26 => ?_)
            have F27 := F8.then rfl u26
            have F28 := u7.then rfl u26
            refine wk_n ?_
            refine wi_aload_n (i := 0) (x := 56) (nx := 113) (r1 := 0) (r2 := 0) (r3 := 0) rfl rfl ?_
            refine wr_gr (k0 := 56) (x := 59) (nx := 116) (r1 := 6) (r2 := 4) (r3 := 0) rfl rfl (by decide) rfl ⟨rfl, rfl⟩ rfl ?_
            refine wi_iload (i := 5) (e := h 58 i13) (nx := 118) (r1 := 0) (r2 := 0) (r3 := 0) rfl rfl ?_
            refine wi_dup2 (nx := 119) (r1 := 0) (r2 := 0) (r3 := 0) rfl rfl rfl ?_
            refine wr_ia (k0 := 59) (a := h 58 i13) (f := i17) (x := h7 59 i17) (nx := 120) (r1 := 0) (r2 := 0) (r3 := 0) rfl (by decide) rfl (by omega) (by omega) (by decide) (u26 59 i17 (fn_a (by omega) fn_0)) ?_
            refine wi_iconst (n := 1) (nx := 121) (r1 := 0) (r2 := 0) (r3 := 0) rfl ?_
            refine wr_addW (nx := 122) (r1 := 0) (r2 := 0) (r3 := 0) rfl (fun e29 (fe29 : -2147483648 ≤ e29 ∧ e29 ≤ 2147483647) => ?_)
            refine wr_is (k0 := 59) (a := h 58 i13) (f := i17) (x := e29) (bl := -2147483648) (bh := 2147483647) (nx := 123) (r1 := 0) (r2 := 0) (r3 := 0) rfl (by decide) rfl (by omega) (by omega) (by decide) g26 rfl (by omega) (fun h30 g30 w30 u30 => ?_)
            have F31 := F27.then rfl (FR.rngp (lo := 59) (hi := 59) u30 (by decide))
            have F32 := F28.then rfl (FR.rngp (lo := 59) (hi := 59) u30 (by decide))
            refine wi_iload_n (i := 1) (e := x3) (nx := 124) (r1 := 0) (r2 := 0) (r3 := 0) rfl rfl ?_
            refine wi_aload_n (i := 0) (x := 56) (nx := 125) (r1 := 0) (r2 := 0) (r3 := 0) rfl rfl ?_
            refine wr_gr (k0 := 56) (x := 60) (nx := 128) (r1 := 6) (r2 := 5) (r3 := 0) rfl rfl (by decide) rfl ⟨rfl, rfl⟩ rfl ?_
            refine wi_iload (i := 5) (e := h 58 i13) (nx := 130) (r1 := 0) (r2 := 0) (r3 := 0) rfl rfl ?_
            have b33 := gi_b (lo := -2147483648) (hi := 2147483647) g 60 i17 rfl
            refine wr_ia (k0 := 60) (a := h 58 i13) (f := i17) (x := h 60 i17) (nx := 131) (r1 := 0) (r2 := 0) (r3 := 0) rfl (by decide) rfl (by omega) (by omega) (by decide) ((u30 60 i17 (fn_a (by omega) fn_0)).trans ((u26 60 i17 (fn_a (by omega) fn_0)).trans (u7 60 i17 (fn_a (by omega) (fn_a (by omega) fn_0))))) ?_
            refine wr_addW (nx := 132) (r1 := 0) (r2 := 0) (r3 := 0) rfl (fun e34 (fe34 : -2147483648 ≤ e34 ∧ e34 ≤ 2147483647) => ?_)
            refine wi_istore_n (i := 1) (e := e34) (lo2 := [(1, vi e34), (7, vi (h 19 i24)), (6, vi z21), (5, vi (h 58 i13)), (0, .ref 56), (2, vi x4), (3, vi x5), (4, vi x6)]) (nx := 133) (r1 := 0) (r2 := 0) (r3 := 0) rfl rfl ?_
            refine wi_aload_n (i := 0) (x := 56) (nx := 134) (r1 := 0) (r2 := 0) (r3 := 0) rfl rfl ?_
            refine wr_gr (k0 := 56) (x := 3) (nx := 137) (r1 := 6) (r2 := 0) (r3 := 0) rfl rfl (by decide) rfl ⟨rfl, rfl⟩ rfl ?_
            refine wi_iload_n (i := 2) (e := x4) (nx := 138) (r1 := 0) (r2 := 0) (r3 := 0) rfl rfl ?_
            refine wi_iload_n (i := 3) (e := x5) (nx := 139) (r1 := 0) (r2 := 0) (r3 := 0) rfl rfl ?_
            refine wi_iload (i := 7) (e := h 19 i24) (nx := 141) (r1 := 0) (r2 := 0) (r3 := 0) rfl rfl ?_
            refine wr_V (k0 := 3) (rest := []) (as := [.ref 3, vi x4, vi x5, vi (h 19 i24)]) (nx := 144) (r1 := 109) (r2 := 3) (r3 := 2) rfl rfl rfl (of_decide_eq_true rfl) rfl rfl (by decide) rfl rfl (of_decide_eq_true rfl) (of_decide_eq_true rfl) ?_
            refine wi_iload_n (i := 1) (e := x4) (nx := 1) (r1 := 0) (r2 := 0) (r3 := 0) rfl rfl ?_
            refine wi_iconst (n := (-1)) (nx := 2) (r1 := 0) (r2 := 0) (r3 := 0) rfl ?_
            refine wi_icmp (cd := .ne) (nx := 5) (r1 := 7) (r2 := 0) (r3 := 0) rfl (by omega) (by omega) (fun (q35 : x4 ≠ (-1)) => ?_) (fun (q35 : ¬ (x4 ≠ (-1))) => ?_)
            ·
              refine wi_iload_n (i := 1) (e := x4) (nx := 8) (r1 := 0) (r2 := 0) (r3 := 0) rfl rfl ?_
              refine wi_iload_n (i := 3) (e := h 19 i24) (nx := 9) (r1 := 0) (r2 := 0) (r3 := 0) rfl rfl ?_
              refine wi_icmp (cd := .eq) (nx := 12) (r1 := 14) (r2 := 0) (r3 := 0) rfl (by omega) (by omega) (fun (q36 : x4 = (h 19 i24)) => ?_) (fun (q36 : ¬ (x4 = (h 19 i24))) => ?_)
              ·
                refine wi_iload_n (i := 2) (e := x5) (nx := 15) (r1 := 0) (r2 := 0) (r3 := 0) rfl rfl ?_
                refine wi_aload_n (i := 0) (x := 3) (nx := 16) (r1 := 0) (r2 := 0) (r3 := 0) rfl rfl ?_
                have b37 := gi_b (lo := -2147483648) (hi := 2147483647) g 3 5 rfl
                refine wr_gi0 (k0 := 3) (x := h 3 5) (nx := 19) (r1 := 2) (r2 := 5) (r3 := 0) rfl rfl (by decide) rfl ⟨rfl, rfl⟩ rfl ((u30 3 5 (fn_a (by omega) fn_0)).trans ((u26 3 5 rfl).trans (u7 3 5 rfl))) ?_
                refine wi_icmp (cd := .lt) (nx := 22) (r1 := 26) (r2 := 0) (r3 := 0) rfl (by omega) (by omega) (fun (q38 : x5 < (h 3 5)) => ?_) (fun (q38 : ¬ (x5 < (h 3 5))) => ?_)
                ·
                  refine wi_iconst (n := 0) (nx := 27) (r1 := 0) (r2 := 0) (r3 := 0) rfl ?_
                  refine wi_ireturn (nx := 28) (r1 := 0) (r2 := 0) (r3 := 0) rfl rfl ?_
                  refine wk_i ?_
                  refine wi_iload_n (i := 3) (e := x5) (nx := 145) (r1 := 0) (r2 := 0) (r3 := 0) rfl rfl ?_
                  refine wi_S (rest := []) (as := [vi 0, vi x5]) (nx := 148) (r1 := 111) (r2 := 18) (r3 := 0) rfl rfl rfl (of_decide_eq_true rfl) rfl rfl (of_decide_eq_true rfl) (of_decide_eq_true rfl) ?_
                  refine wi_iload_n (i := 0) (e := 0) (nx := 1) (r1 := 0) (r2 := 0) (r3 := 0) rfl rfl ?_
                  refine wi_if (cd := .ne) (nx := 4) (r1 := 10) (r2 := 0) (r3 := 0) rfl (by omega) (fun (q39 : 0 ≠ 0) => by exfalso; omega) (fun (q39 : ¬ (0 ≠ 0)) => ?_)
                  refine wi_iload_n (i := 1) (e := x5) (nx := 5) (r1 := 0) (r2 := 0) (r3 := 0) rfl rfl ?_
                  refine wi_iconst (n := 1) (nx := 6) (r1 := 0) (r2 := 0) (r3 := 0) rfl ?_
                  refine wr_add (nx := 7) (r1 := 0) (r2 := 0) (r3 := 0) rfl (fun e40 (fe40 : e40 = x5 + 1) => ?_)
                  refine wi_goto (nx := 10) (r1 := 11) (r2 := 0) (r3 := 0) rfl ?_
                  refine wi_ireturn (nx := 12) (r1 := 0) (r2 := 0) (r3 := 0) rfl rfl ?_
                  refine wk_i ?_
                  refine wi_istore_n (i := 3) (e := e40) (lo2 := [(3, vi e40), (1, vi e34), (7, vi (h 19 i24)), (6, vi z21), (5, vi (h 58 i13)), (0, .ref 56), (2, vi x4), (4, vi x6)]) (nx := 149) (r1 := 0) (r2 := 0) (r3 := 0) rfl rfl ?_
                  refine wi_iload (i := 7) (e := h 19 i24) (nx := 151) (r1 := 0) (r2 := 0) (r3 := 0) rfl rfl ?_
                  refine wi_istore_n (i := 2) (e := h 19 i24) (lo2 := [(2, vi (h 19 i24)), (3, vi e40), (1, vi e34), (7, vi (h 19 i24)), (6, vi z21), (5, vi (h 58 i13)), (0, .ref 56), (4, vi x6)]) (nx := 152) (r1 := 0) (r2 := 0) (r3 := 0) rfl rfl ?_
                  refine wr_iinc (i := 4) (n := 1) (v := x6) (fun e41 => [(4, vi e41), (2, vi (h 19 i24)), (3, vi e40), (1, vi e34), (7, vi (h 19 i24)), (6, vi z21), (5, vi (h 58 i13)), (0, .ref 56)]) (nx := 155) (r1 := 0) (r2 := 0) (r3 := 0) rfl rfl (fun _ => rfl) (fun e41 (fe41 : e41 = x6 + 1) => ?_)
                  refine wi_goto (nx := 158) (r1 := 21) (r2 := 0) (r3 := 0) rfl ?_
                  refine wp.lo (lo := [(0, .ref 56), (1, vi e34), (2, vi (h 19 i24)), (3, vi e40), (4, vi e41)]) ⟨rfl, rfl, rfl, rfl, rfl, trivial⟩ rfl ?_
                  exact I7 e34 (h 19 i24) e40 e41 h30 ⟨g30, F31, F32, (show (-2147483648 ≤ e34 ∧ e34 ≤ 2147483647) ∧ (-2147483648 ≤ (h 19 i24) ∧ (h 19 i24) ≤ 2147483647) ∧ (-2147483648 ≤ e40 ∧ e40 ≤ 2147483647) ∧ (0 ≤ e41 ∧ e41 ≤ 48) by omega)⟩ (show ((48 : Int) + 1 - e41).toNat < ((48 : Int) + 1 - x6).toNat by omega)
                ·
                  refine wi_iconst (n := 2) (nx := 23) (r1 := 0) (r2 := 0) (r3 := 0) rfl ?_
                  refine wi_goto (nx := 26) (r1 := 27) (r2 := 0) (r3 := 0) rfl ?_
                  refine wi_ireturn (nx := 28) (r1 := 0) (r2 := 0) (r3 := 0) rfl rfl ?_
                  refine wk_i ?_
                  refine wi_iload_n (i := 3) (e := x5) (nx := 145) (r1 := 0) (r2 := 0) (r3 := 0) rfl rfl ?_
                  refine wi_S (rest := []) (as := [vi 2, vi x5]) (nx := 148) (r1 := 111) (r2 := 18) (r3 := 0) rfl rfl rfl (of_decide_eq_true rfl) rfl rfl (of_decide_eq_true rfl) (of_decide_eq_true rfl) ?_
                  refine wi_iload_n (i := 0) (e := 2) (nx := 1) (r1 := 0) (r2 := 0) (r3 := 0) rfl rfl ?_
                  refine wi_if (cd := .ne) (nx := 4) (r1 := 10) (r2 := 0) (r3 := 0) rfl (by omega) (fun (q39 : 2 ≠ 0) => ?_) (fun (q39 : ¬ (2 ≠ 0)) => by exfalso; omega)
                  refine wi_iconst (n := 1) (nx := 11) (r1 := 0) (r2 := 0) (r3 := 0) rfl ?_
                  refine wi_ireturn (nx := 12) (r1 := 0) (r2 := 0) (r3 := 0) rfl rfl ?_
                  refine wk_i ?_
                  refine wi_istore_n (i := 3) (e := 1) (lo2 := [(3, vi 1), (1, vi e34), (7, vi (h 19 i24)), (6, vi z21), (5, vi (h 58 i13)), (0, .ref 56), (2, vi x4), (4, vi x6)]) (nx := 149) (r1 := 0) (r2 := 0) (r3 := 0) rfl rfl ?_
                  refine wi_iload (i := 7) (e := h 19 i24) (nx := 151) (r1 := 0) (r2 := 0) (r3 := 0) rfl rfl ?_
                  refine wi_istore_n (i := 2) (e := h 19 i24) (lo2 := [(2, vi (h 19 i24)), (3, vi 1), (1, vi e34), (7, vi (h 19 i24)), (6, vi z21), (5, vi (h 58 i13)), (0, .ref 56), (4, vi x6)]) (nx := 152) (r1 := 0) (r2 := 0) (r3 := 0) rfl rfl ?_
                  refine wr_iinc (i := 4) (n := 1) (v := x6) (fun e40 => [(4, vi e40), (2, vi (h 19 i24)), (3, vi 1), (1, vi e34), (7, vi (h 19 i24)), (6, vi z21), (5, vi (h 58 i13)), (0, .ref 56)]) (nx := 155) (r1 := 0) (r2 := 0) (r3 := 0) rfl rfl (fun _ => rfl) (fun e40 (fe40 : e40 = x6 + 1) => ?_)
                  refine wi_goto (nx := 158) (r1 := 21) (r2 := 0) (r3 := 0) rfl ?_
                  refine wp.lo (lo := [(0, .ref 56), (1, vi e34), (2, vi (h 19 i24)), (3, vi 1), (4, vi e40)]) ⟨rfl, rfl, rfl, rfl, rfl, trivial⟩ rfl ?_
                  exact I7 e34 (h 19 i24) 1 e40 h30 ⟨g30, F31, F32, (show (-2147483648 ≤ e34 ∧ e34 ≤ 2147483647) ∧ (-2147483648 ≤ (h 19 i24) ∧ (h 19 i24) ≤ 2147483647) ∧ (-2147483648 ≤ 1 ∧ 1 ≤ 2147483647) ∧ (0 ≤ e40 ∧ e40 ≤ 48) by omega)⟩ (show ((48 : Int) + 1 - e40).toNat < ((48 : Int) + 1 - x6).toNat by omega)
              ·
                refine wi_iconst (n := 1) (nx := 13) (r1 := 0) (r2 := 0) (r3 := 0) rfl ?_
                refine wi_ireturn (nx := 14) (r1 := 0) (r2 := 0) (r3 := 0) rfl rfl ?_
                refine wk_i ?_
                refine wi_iload_n (i := 3) (e := x5) (nx := 145) (r1 := 0) (r2 := 0) (r3 := 0) rfl rfl ?_
                refine wi_S (rest := []) (as := [vi 1, vi x5]) (nx := 148) (r1 := 111) (r2 := 18) (r3 := 0) rfl rfl rfl (of_decide_eq_true rfl) rfl rfl (of_decide_eq_true rfl) (of_decide_eq_true rfl) ?_
                refine wi_iload_n (i := 0) (e := 1) (nx := 1) (r1 := 0) (r2 := 0) (r3 := 0) rfl rfl ?_
                refine wi_if (cd := .ne) (nx := 4) (r1 := 10) (r2 := 0) (r3 := 0) rfl (by omega) (fun (q37 : 1 ≠ 0) => ?_) (fun (q37 : ¬ (1 ≠ 0)) => by exfalso; omega)
                refine wi_iconst (n := 1) (nx := 11) (r1 := 0) (r2 := 0) (r3 := 0) rfl ?_
                refine wi_ireturn (nx := 12) (r1 := 0) (r2 := 0) (r3 := 0) rfl rfl ?_
                refine wk_i ?_
                refine wi_istore_n (i := 3) (e := 1) (lo2 := [(3, vi 1), (1, vi e34), (7, vi (h 19 i24)), (6, vi z21), (5, vi (h 58 i13)), (0, .ref 56), (2, vi x4), (4, vi x6)]) (nx := 149) (r1 := 0) (r2 := 0) (r3 := 0) rfl rfl ?_
                refine wi_iload (i := 7) (e := h 19 i24) (nx := 151) (r1 := 0) (r2 := 0) (r3 := 0) rfl rfl ?_
                refine wi_istore_n (i := 2) (e := h 19 i24) (lo2 := [(2, vi (h 19 i24)), (3, vi 1), (1, vi e34), (7, vi (h 19 i24)), (6, vi z21), (5, vi (h 58 i13)), (0, .ref 56), (4, vi x6)]) (nx := 152) (r1 := 0) (r2 := 0) (r3 := 0) rfl rfl ?_
                refine wr_iinc (i := 4) (n := 1) (v := x6) (fun e38 => [(4, vi e38), (2, vi (h 19 i24)), (3, vi 1), (1, vi e34), (7, vi (h 19 i24)), (6, vi z21), (5, vi (h 58 i13)), (0, .ref 56)]) (nx := 155) (r1 := 0) (r2 := 0) (r3 := 0) rfl rfl (fun _ => rfl) (fun e38 (fe38 : e38 = x6 + 1) => ?_)
                refine wi_goto (nx := 158) (r1 := 21) (r2 := 0) (r3 := 0) rfl ?_
                refine wp.lo (lo := [(0, .ref 56), (1, vi e34), (2, vi (h 19 i24)), (3, vi 1), (4, vi e38)]) ⟨rfl, rfl, rfl, rfl, rfl, trivial⟩ rfl ?_
                exact I7 e34 (h 19 i24) 1 e38 h30 ⟨g30, F31, F32, (show (-2147483648 ≤ e34 ∧ e34 ≤ 2147483647) ∧ (-2147483648 ≤ (h 19 i24) ∧ (h 19 i24) ≤ 2147483647) ∧ (-2147483648 ≤ 1 ∧ 1 ≤ 2147483647) ∧ (0 ≤ e38 ∧ e38 ≤ 48) by omega)⟩ (show ((48 : Int) + 1 - e38).toNat < ((48 : Int) + 1 - x6).toNat by omega)
            ·
              refine wi_iconst (n := 0) (nx := 6) (r1 := 0) (r2 := 0) (r3 := 0) rfl ?_
              refine wi_ireturn (nx := 7) (r1 := 0) (r2 := 0) (r3 := 0) rfl rfl ?_
              refine wk_i ?_
              refine wi_iload_n (i := 3) (e := x5) (nx := 145) (r1 := 0) (r2 := 0) (r3 := 0) rfl rfl ?_
              refine wi_S (rest := []) (as := [vi 0, vi x5]) (nx := 148) (r1 := 111) (r2 := 18) (r3 := 0) rfl rfl rfl (of_decide_eq_true rfl) rfl rfl (of_decide_eq_true rfl) (of_decide_eq_true rfl) ?_
              refine wi_iload_n (i := 0) (e := 0) (nx := 1) (r1 := 0) (r2 := 0) (r3 := 0) rfl rfl ?_
              refine wi_if (cd := .ne) (nx := 4) (r1 := 10) (r2 := 0) (r3 := 0) rfl (by omega) (fun (q36 : 0 ≠ 0) => by exfalso; omega) (fun (q36 : ¬ (0 ≠ 0)) => ?_)
              refine wi_iload_n (i := 1) (e := x5) (nx := 5) (r1 := 0) (r2 := 0) (r3 := 0) rfl rfl ?_
              refine wi_iconst (n := 1) (nx := 6) (r1 := 0) (r2 := 0) (r3 := 0) rfl ?_
              refine wr_addW (nx := 7) (r1 := 0) (r2 := 0) (r3 := 0) rfl (fun e37 (fe37 : -2147483648 ≤ e37 ∧ e37 ≤ 2147483647) => ?_)
              refine wi_goto (nx := 10) (r1 := 11) (r2 := 0) (r3 := 0) rfl ?_
              refine wi_ireturn (nx := 12) (r1 := 0) (r2 := 0) (r3 := 0) rfl rfl ?_
              refine wk_i ?_
              refine wi_istore_n (i := 3) (e := e37) (lo2 := [(3, vi e37), (1, vi e34), (7, vi (h 19 i24)), (6, vi z21), (5, vi (h 58 i13)), (0, .ref 56), (2, vi x4), (4, vi x6)]) (nx := 149) (r1 := 0) (r2 := 0) (r3 := 0) rfl rfl ?_
              refine wi_iload (i := 7) (e := h 19 i24) (nx := 151) (r1 := 0) (r2 := 0) (r3 := 0) rfl rfl ?_
              refine wi_istore_n (i := 2) (e := h 19 i24) (lo2 := [(2, vi (h 19 i24)), (3, vi e37), (1, vi e34), (7, vi (h 19 i24)), (6, vi z21), (5, vi (h 58 i13)), (0, .ref 56), (4, vi x6)]) (nx := 152) (r1 := 0) (r2 := 0) (r3 := 0) rfl rfl ?_
              refine wr_iinc (i := 4) (n := 1) (v := x6) (fun e38 => [(4, vi e38), (2, vi (h 19 i24)), (3, vi e37), (1, vi e34), (7, vi (h 19 i24)), (6, vi z21), (5, vi (h 58 i13)), (0, .ref 56)]) (nx := 155) (r1 := 0) (r2 := 0) (r3 := 0) rfl rfl (fun _ => rfl) (fun e38 (fe38 : e38 = x6 + 1) => ?_)
              refine wi_goto (nx := 158) (r1 := 21) (r2 := 0) (r3 := 0) rfl ?_
              refine wp.lo (lo := [(0, .ref 56), (1, vi e34), (2, vi (h 19 i24)), (3, vi e37), (4, vi e38)]) ⟨rfl, rfl, rfl, rfl, rfl, trivial⟩ rfl ?_
              exact I7 e34 (h 19 i24) e37 e38 h30 ⟨g30, F31, F32, (show (-2147483648 ≤ e34 ∧ e34 ≤ 2147483647) ∧ (-2147483648 ≤ (h 19 i24) ∧ (h 19 i24) ≤ 2147483647) ∧ (-2147483648 ≤ e37 ∧ e37 ≤ 2147483647) ∧ (0 ≤ e38 ∧ e38 ≤ 48) by omega)⟩ (show ((48 : Int) + 1 - e38).toNat < ((48 : Int) + 1 - x6).toNat by omega)
          ·
            refine wi_return (nx := 91) (r1 := 0) (r2 := 0) (r3 := 0) rfl rfl ?_
            exact k h7 g7 F8
      ·
        refine wi_return (nx := 56) (r1 := 0) (r2 := 0) (r3 := 0) rfl rfl ?_
        exact k h7 g7 F8
-- method 161: Unloading.plan()V
set_option maxRecDepth 100000 in
set_option maxHeartbeats 100000000 in
theorem ct_161_56 {L : Nat} {xs : Nat → Int32} {d b c : Nat} {h : hp} {cr : Nat → Nat → Option Nat} {Q : hp_Q} (hcr : CR cr)  (g : GI h)    (k : ∀ (h2 : hp) , GI h2 → FR [(57, 57, none), (58, 58, none), (59, 59, none), (60, 60, none), (61, 62, none), (56, 56, some (6, 7)), (56, 56, some (9, 9)), (56, 56, some (11, 12))] h h2 → Q (.inl none) (hp_w h2 cr) b c) : wp (md_xa (L, xs)) (d + 102) 161 (0, [(0, .ref 56)], [], hp_w h cr, b, c) Q := by
  have F0 : FR [(57, 57, none), (58, 58, none), (59, 59, none), (60, 60, none), (61, 62, none), (56, 56, some (6, 7)), (56, 56, some (9, 9)), (56, 56, some (11, 12))] h h := FR.refl
  refine wi_aload_n (i := 0) (x := 56) (nx := 1) (r1 := 0) (r2 := 0) (r3 := 0) rfl rfl ?_
  have b1 := gi_b (lo := -2147483648) (hi := 2147483647) g 56 7 rfl
  refine wr_gi0 (k0 := 56) (x := h 56 7) (nx := 4) (r1 := 6) (r2 := 7) (r3 := 0) rfl rfl (by decide) rfl ⟨rfl, rfl⟩ rfl rfl ?_
  refine wi_aload_n (i := 0) (x := 56) (nx := 5) (r1 := 0) (r2 := 0) (r3 := 0) rfl rfl ?_
  refine wr_gr (k0 := 56) (x := 18) (nx := 8) (r1 := 6) (r2 := 1) (r3 := 0) rfl rfl (by decide) rfl ⟨rfl, rfl⟩ rfl ?_
  have b2 := gi_b (lo := -2147483648) (hi := 2147483647) g 18 16 rfl
  refine wr_gi0 (k0 := 18) (x := h 18 16) (nx := 11) (r1 := 4) (r2 := 16) (r3 := 0) rfl rfl (by decide) rfl ⟨rfl, rfl⟩ rfl rfl ?_
  refine wi_icmp (cd := .ne) (nx := 14) (r1 := 15) (r2 := 0) (r3 := 0) rfl (by omega) (by omega) (fun (q3 : (h 56 7) ≠ (h 18 16)) => ?_) (fun (q3 : ¬ ((h 56 7) ≠ (h 18 16))) => ?_)
  ·
    refine wi_aload_n (i := 0) (x := 56) (nx := 16) (r1 := 0) (r2 := 0) (r3 := 0) rfl rfl ?_
    refine wi_aload_n (i := 0) (x := 56) (nx := 17) (r1 := 0) (r2 := 0) (r3 := 0) rfl rfl ?_
    refine wr_gr (k0 := 56) (x := 18) (nx := 20) (r1 := 6) (r2 := 1) (r3 := 0) rfl rfl (by decide) rfl ⟨rfl, rfl⟩ rfl ?_
    refine wr_gi0 (k0 := 18) (x := h 18 16) (nx := 23) (r1 := 4) (r2 := 16) (r3 := 0) rfl rfl (by decide) rfl ⟨rfl, rfl⟩ rfl rfl ?_
    refine wr_pf0 (k0 := 56) (x := h 18 16) (bl := -2147483648) (bh := 2147483647) (nx := 26) (r1 := 6) (r2 := 7) (r3 := 0) rfl (by decide) rfl ⟨rfl, rfl⟩ rfl rfl g rfl (by omega) (fun h4 g4 w4 u4 => ?_)
    have F5 := F0.then rfl u4
    refine wi_aload_n (i := 0) (x := 56) (nx := 27) (r1 := 0) (r2 := 0) (r3 := 0) rfl rfl ?_
    refine wi_aload_n (i := 0) (x := 56) (nx := 28) (r1 := 0) (r2 := 0) (r3 := 0) rfl rfl ?_
    refine wr_gr (k0 := 56) (x := 18) (nx := 31) (r1 := 6) (r2 := 1) (r3 := 0) rfl rfl (by decide) rfl ⟨rfl, rfl⟩ rfl ?_
    refine wr_V (k0 := 18) (rest := [.ref 56]) (as := [.ref 18]) (nx := 34) (r1 := 145) (r2 := 0) (r3 := 4) rfl rfl rfl (of_decide_eq_true rfl) rfl rfl (by decide) rfl rfl (of_decide_eq_true rfl) (of_decide_eq_true rfl) ?_
    refine ct_145_18 hcr  g4    (fun z7  (fz7 : 0 ≤ z7 ∧ z7 ≤ 48) => ?_)
    refine wk_i ?_
    refine wr_pf0 (k0 := 56) (x := z7) (bl := 0) (bh := 48) (nx := 37) (r1 := 6) (r2 := 6) (r3 := 0) rfl (by decide) rfl ⟨rfl, rfl⟩ rfl rfl g4 rfl (by omega) (fun h8 g8 w8 u8 => ?_)
    have F9 := F5.then rfl u8
    refine wi_aload_n (i := 0) (x := 56) (nx := 38) (r1 := 0) (r2 := 0) (r3 := 0) rfl rfl ?_
    refine wi_aload_n (i := 0) (x := 56) (nx := 39) (r1 := 0) (r2 := 0) (r3 := 0) rfl rfl ?_
    refine wr_V (k0 := 56) (rest := [.ref 56]) (as := [.ref 56]) (nx := 42) (r1 := 162) (r2 := 0) (r3 := 6) rfl rfl rfl (of_decide_eq_true rfl) rfl rfl (by decide) rfl rfl (of_decide_eq_true rfl) (of_decide_eq_true rfl) ?_
    refine ct_162_56 hcr  g8    (fun h10 z11 g10 u10 (fz11 : -2147483648 ≤ z11 ∧ z11 ≤ 2147483647) => ?_)
    have F12 := F9.then (by decide +kernel) u10
    refine wk_i ?_
    refine wr_V (k0 := 56) (rest := []) (as := [.ref 56, vi z11]) (nx := 45) (r1 := 163) (r2 := 1) (r3 := 6) rfl rfl rfl (of_decide_eq_true rfl) rfl rfl (by decide) rfl rfl (of_decide_eq_true rfl) (of_decide_eq_true rfl) ?_
    refine ct_163_56 hcr  g10 z11 (by omega)  (fun h13 g13 u13 => ?_)
    have F14 := F12.then (by decide +kernel) u13
    refine wk_n ?_
    refine wi_aload_n (i := 0) (x := 56) (nx := 46) (r1 := 0) (r2 := 0) (r3 := 0) rfl rfl ?_
    refine wi_iconst (n := 0) (nx := 47) (r1 := 0) (r2 := 0) (r3 := 0) rfl ?_
    refine wi_iconst (n := 0) (nx := 48) (r1 := 0) (r2 := 0) (r3 := 0) rfl ?_
    refine wi_aload_n (i := 0) (x := 56) (nx := 49) (r1 := 0) (r2 := 0) (r3 := 0) rfl rfl ?_
    refine wr_gr (k0 := 56) (x := 18) (nx := 52) (r1 := 6) (r2 := 1) (r3 := 0) rfl rfl (by decide) rfl ⟨rfl, rfl⟩ rfl ?_
    have b15 := gi_b (lo := -2147483648) (hi := 2147483647) g 18 8 rfl
    refine wr_gi0 (k0 := 18) (x := h 18 8) (nx := 55) (r1 := 4) (r2 := 8) (r3 := 0) rfl rfl (by decide) rfl ⟨rfl, rfl⟩ rfl ((u13 18 8 rfl).trans ((u10 18 8 rfl).trans ((u8 18 8 rfl).trans (u4 18 8 rfl)))) ?_
    refine wi_aload_n (i := 0) (x := 56) (nx := 56) (r1 := 0) (r2 := 0) (r3 := 0) rfl rfl ?_
    refine wr_gr (k0 := 56) (x := 18) (nx := 59) (r1 := 6) (r2 := 1) (r3 := 0) rfl rfl (by decide) rfl ⟨rfl, rfl⟩ rfl ?_
    have b16 := gi_b (lo := -2147483648) (hi := 2147483647) g 18 9 rfl
    refine wr_gi0 (k0 := 18) (x := h 18 9) (nx := 62) (r1 := 4) (r2 := 9) (r3 := 0) rfl rfl (by decide) rfl ⟨rfl, rfl⟩ rfl ((u13 18 9 rfl).trans ((u10 18 9 rfl).trans ((u8 18 9 rfl).trans (u4 18 9 rfl)))) ?_
    refine wr_V (k0 := 56) (rest := []) (as := [.ref 56, vi 0, vi 0, vi (h 18 8), vi (h 18 9)]) (nx := 65) (r1 := 164) (r2 := 4) (r3 := 6) rfl rfl rfl (of_decide_eq_true rfl) rfl rfl (by decide) rfl rfl (of_decide_eq_true rfl) (of_decide_eq_true rfl) ?_
    refine ct_164_56 hcr  g13 0 0 (h 18 8) (h 18 9) (by omega) (by omega) (by omega) (by omega)  (fun h17 z18 g17 u17 (fz18 : -2147483648 ≤ z18 ∧ z18 ≤ 2147483647) => ?_)
    have F19 := F14.then (by decide +kernel) u17
    refine wk_i ?_
    refine wi_istore_n (i := 1) (e := z18) (lo2 := [(1, vi z18), (0, .ref 56)]) (nx := 66) (r1 := 0) (r2 := 0) (r3 := 0) rfl rfl ?_
    refine wi_aload_n (i := 0) (x := 56) (nx := 67) (r1 := 0) (r2 := 0) (r3 := 0) rfl rfl ?_
    refine wi_iload_n (i := 1) (e := z18) (nx := 68) (r1 := 0) (r2 := 0) (r3 := 0) rfl rfl ?_
    refine wi_ldc (e := 1048576) (nx := 70) (r1 := 0) (r2 := 1048576) (r3 := 0) rfl rfl (by decide) ?_
    refine wi_icmp (cd := .ge) (nx := 73) (r1 := 77) (r2 := 0) (r3 := 0) rfl (by omega) (by omega) (fun (q20 : 1048576 ≤ z18) => ?_) (fun (q20 : ¬ (1048576 ≤ z18)) => ?_)
    ·
      refine wi_iconst (n := 0) (nx := 78) (r1 := 0) (r2 := 0) (r3 := 0) rfl ?_
      refine wr_pf2 (k0 := 56) (x := 0) (bl := 0) (bh := 1) (nx := 81) (r1 := 6) (r2 := 9) (r3 := 2) rfl (by decide) rfl ⟨rfl, rfl⟩ rfl (by omega) rfl g17 rfl (by omega) (fun h21 g21 w21 u21 => ?_)
      have F22 := F19.then rfl u21
      refine wi_aload_n (i := 0) (x := 56) (nx := 82) (r1 := 0) (r2 := 0) (r3 := 0) rfl rfl ?_
      refine wi_iload_n (i := 1) (e := z18) (nx := 83) (r1 := 0) (r2 := 0) (r3 := 0) rfl rfl ?_
      refine wi_bipush (n := 16) (nx := 85) (r1 := 0) (r2 := 0) (r3 := 0) rfl (by decide) ?_
      refine wr_idivC (nx := 86) (r1 := 0) (r2 := 0) (r3 := 0) rfl (by omega) (by decide) (fun e23 (fe23 : e23 = z18 / 16) => ?_)
      refine wr_pf0 (k0 := 56) (x := e23) (bl := -2147483648) (bh := 2147483647) (nx := 89) (r1 := 6) (r2 := 11) (r3 := 0) rfl (by decide) rfl ⟨rfl, rfl⟩ rfl rfl g21 rfl (by omega) (fun h24 g24 w24 u24 => ?_)
      have F25 := F22.then rfl u24
      refine wi_aload_n (i := 0) (x := 56) (nx := 90) (r1 := 0) (r2 := 0) (r3 := 0) rfl rfl ?_
      refine wi_iload_n (i := 1) (e := z18) (nx := 91) (r1 := 0) (r2 := 0) (r3 := 0) rfl rfl ?_
      refine wi_bipush (n := 16) (nx := 93) (r1 := 0) (r2 := 0) (r3 := 0) rfl (by decide) ?_
      refine wr_iremC (nx := 94) (r1 := 0) (r2 := 0) (r3 := 0) rfl (by omega) (by decide) (fun e26 (fe26 : e26 = z18 % 16) => ?_)
      refine wr_pf0 (k0 := 56) (x := e26) (bl := -2147483648) (bh := 2147483647) (nx := 97) (r1 := 6) (r2 := 12) (r3 := 0) rfl (by decide) rfl ⟨rfl, rfl⟩ rfl rfl g24 rfl (by omega) (fun h27 g27 w27 u27 => ?_)
      have F28 := F25.then rfl u27
      refine wi_aload_n (i := 0) (x := 56) (nx := 98) (r1 := 0) (r2 := 0) (r3 := 0) rfl rfl ?_
      refine wr_gr (k0 := 56) (x := 61) (nx := 101) (r1 := 6) (r2 := 8) (r3 := 0) rfl rfl (by decide) rfl ⟨rfl, rfl⟩ rfl ?_
      refine wi_iconst (n := 0) (nx := 102) (r1 := 0) (r2 := 0) (r3 := 0) rfl ?_
      refine wr_pf0 (k0 := 61) (x := 0) (bl := 0) (bh := 12) (nx := 105) (r1 := 5) (r2 := 1) (r3 := 0) rfl (by decide) rfl ⟨rfl, rfl⟩ rfl rfl g27 rfl (by omega) (fun h29 g29 w29 u29 => ?_)
      have F30 := F28.then rfl u29
      refine wi_aload_n (i := 0) (x := 56) (nx := 106) (r1 := 0) (r2 := 0) (r3 := 0) rfl rfl ?_
      refine wr_gi2 (k0 := 56) (x := 0) (nx := 109) (r1 := 6) (r2 := 9) (r3 := 0) rfl rfl (by decide) rfl ⟨rfl, rfl⟩ rfl ((u29 56 9 rfl).trans ((u27 56 9 rfl).trans ((u24 56 9 rfl).trans w21))) ?_
      refine wi_if (cd := .eq) (nx := 112) (r1 := 116) (r2 := 0) (r3 := 0) rfl (by omega) (fun (q31 : 0 = 0) => ?_) (fun (q31 : ¬ (0 = 0)) => by exfalso; omega)
      refine wi_return (nx := 117) (r1 := 0) (r2 := 0) (r3 := 0) rfl rfl ?_
      exact k h29 g29 F30
    ·
      refine wi_iconst (n := 1) (nx := 74) (r1 := 0) (r2 := 0) (r3 := 0) rfl ?_
      refine wi_goto (nx := 77) (r1 := 78) (r2 := 0) (r3 := 0) rfl ?_
      refine wr_pf2 (k0 := 56) (x := 1) (bl := 0) (bh := 1) (nx := 81) (r1 := 6) (r2 := 9) (r3 := 2) rfl (by decide) rfl ⟨rfl, rfl⟩ rfl (by omega) rfl g17 rfl (by omega) (fun h21 g21 w21 u21 => ?_)
      have F22 := F19.then rfl u21
      refine wi_aload_n (i := 0) (x := 56) (nx := 82) (r1 := 0) (r2 := 0) (r3 := 0) rfl rfl ?_
      refine wi_iload_n (i := 1) (e := z18) (nx := 83) (r1 := 0) (r2 := 0) (r3 := 0) rfl rfl ?_
      refine wi_bipush (n := 16) (nx := 85) (r1 := 0) (r2 := 0) (r3 := 0) rfl (by decide) ?_
      refine wr_idivA (nx := 86) (r1 := 0) (r2 := 0) (r3 := 0) rfl (by decide) (fun e23 (fe23 : -2147483648 ≤ e23 ∧ e23 ≤ 2147483647) => ?_)
      refine wr_pf0 (k0 := 56) (x := e23) (bl := -2147483648) (bh := 2147483647) (nx := 89) (r1 := 6) (r2 := 11) (r3 := 0) rfl (by decide) rfl ⟨rfl, rfl⟩ rfl rfl g21 rfl (by omega) (fun h24 g24 w24 u24 => ?_)
      have F25 := F22.then rfl u24
      refine wi_aload_n (i := 0) (x := 56) (nx := 90) (r1 := 0) (r2 := 0) (r3 := 0) rfl rfl ?_
      refine wi_iload_n (i := 1) (e := z18) (nx := 91) (r1 := 0) (r2 := 0) (r3 := 0) rfl rfl ?_
      refine wi_bipush (n := 16) (nx := 93) (r1 := 0) (r2 := 0) (r3 := 0) rfl (by decide) ?_
      refine wr_iremA (nx := 94) (r1 := 0) (r2 := 0) (r3 := 0) rfl (by decide) (fun e26 (fe26 : -2147483648 ≤ e26 ∧ e26 ≤ 2147483647) => ?_)
      refine wr_pf0 (k0 := 56) (x := e26) (bl := -2147483648) (bh := 2147483647) (nx := 97) (r1 := 6) (r2 := 12) (r3 := 0) rfl (by decide) rfl ⟨rfl, rfl⟩ rfl rfl g24 rfl (by omega) (fun h27 g27 w27 u27 => ?_)
      have F28 := F25.then rfl u27
      refine wi_aload_n (i := 0) (x := 56) (nx := 98) (r1 := 0) (r2 := 0) (r3 := 0) rfl rfl ?_
      refine wr_gr (k0 := 56) (x := 61) (nx := 101) (r1 := 6) (r2 := 8) (r3 := 0) rfl rfl (by decide) rfl ⟨rfl, rfl⟩ rfl ?_
      refine wi_iconst (n := 0) (nx := 102) (r1 := 0) (r2 := 0) (r3 := 0) rfl ?_
      refine wr_pf0 (k0 := 61) (x := 0) (bl := 0) (bh := 12) (nx := 105) (r1 := 5) (r2 := 1) (r3 := 0) rfl (by decide) rfl ⟨rfl, rfl⟩ rfl rfl g27 rfl (by omega) (fun h29 g29 w29 u29 => ?_)
      have F30 := F28.then rfl u29
      refine wi_aload_n (i := 0) (x := 56) (nx := 106) (r1 := 0) (r2 := 0) (r3 := 0) rfl rfl ?_
      refine wr_gi2 (k0 := 56) (x := 1) (nx := 109) (r1 := 6) (r2 := 9) (r3 := 0) rfl rfl (by decide) rfl ⟨rfl, rfl⟩ rfl ((u29 56 9 rfl).trans ((u27 56 9 rfl).trans ((u24 56 9 rfl).trans w21))) ?_
      refine wi_if (cd := .eq) (nx := 112) (r1 := 116) (r2 := 0) (r3 := 0) rfl (by omega) (fun (q31 : 1 = 0) => by exfalso; omega) (fun (q31 : ¬ (1 = 0)) => ?_)
      refine wi_aload_n (i := 0) (x := 56) (nx := 113) (r1 := 0) (r2 := 0) (r3 := 0) rfl rfl ?_
      refine wr_V (k0 := 56) (rest := []) (as := [.ref 56]) (nx := 116) (r1 := 168) (r2 := 0) (r3 := 6) rfl rfl rfl (of_decide_eq_true rfl) rfl rfl (by decide) rfl rfl (of_decide_eq_true rfl) (of_decide_eq_true rfl) ?_
      refine ct_168_56 hcr  g29    (fun h32 g32 u32 => ?_)
      have F33 := F30.then (by decide +kernel) u32
      refine wk_n ?_
      refine wi_return (nx := 117) (r1 := 0) (r2 := 0) (r3 := 0) rfl rfl ?_
      exact k h32 g32 F33
  ·
    refine wi_return (nx := 15) (r1 := 0) (r2 := 0) (r3 := 0) rfl rfl ?_
    exact k h g F0
-- method 169: Unloading.carryOut()I
set_option maxRecDepth 100000 in
set_option maxHeartbeats 100000000 in
theorem ct_169_56 {L : Nat} {xs : Nat → Int32} {d b c : Nat} {h : hp} {cr : Nat → Nat → Option Nat} {Q : hp_Q} (hcr : CR cr)  (g : GI h)   (pp0 : h 18 16 ≤ 1999999000) (k : ∀ (h2 : hp) (z0 : Int) , GI h2 → FR [(20, 20, none), (22, 23, none), (24, 25, none), (26, 27, none), (28, 28, none), (29, 36, none), (18, 18, some (8, 13)), (18, 18, some (15, 16)), (56, 56, some (10, 10))] h h2 → (0 ≤ z0 ∧ z0 ≤ 12) → ((h2 18 16 = h 18 16 ∧ h2 18 7 = h 18 7) ∨ (h 18 16 + 1 ≤ h2 18 16 ∧ h2 18 16 ≤ h 18 16 + 13)) → Q (.inl (some (vi z0))) (hp_w h2 cr) b c) : wp (md_xa (L, xs)) (d + 3) 169 (0, [(0, .ref 56)], [], hp_w h cr, b, c) Q := by
  have F0 : FR [(20, 20, none), (22, 23, none), (24, 25, none), (26, 27, none), (28, 28, none), (29, 36, none), (18, 18, some (8, 13)), (18, 18, some (15, 16)), (56, 56, some (10, 10))] h h := FR.refl
  have b1 := gi_b (lo := -2147483648) (hi := 2147483647) g 18 16 rfl
  refine wi_aload_n (i := 0) (x := 56) (nx := 1) (r1 := 0) (r2 := 0) (r3 := 0) rfl rfl ?_
  refine wi_iconst (n := 0) (nx := 2) (r1 := 0) (r2 := 0) (r3 := 0) rfl ?_
  refine wr_pf2 (k0 := 56) (x := 0) (bl := 0) (bh := 1) (nx := 5) (r1 := 6) (r2 := 10) (r3 := 2) rfl (by decide) rfl ⟨rfl, rfl⟩ rfl (by omega) rfl g rfl (by omega) (fun h2 g2 w2 u2 => ?_)
  have F3 := F0.then rfl u2
  refine wi_iconst (n := 0) (nx := 6) (r1 := 0) (r2 := 0) (r3 := 0) rfl ?_
  refine wi_istore_n (i := 1) (e := 0) (lo2 := [(1, vi 0), (0, .ref 56)]) (nx := 7) (r1 := 0) (r2 := 0) (r3 := 0) rfl rfl ?_
  have e6 : h2 18 16 = h 18 16 := (u2 18 16 rfl)
  have b7 := gi_b (lo := 0) (hi := 12) g 18 7 rfl
  have e8 : h2 18 7 = h 18 7 := (u2 18 7 rfl)
  refine wp.lo (lo := [(0, .ref 56), (1, vi 0)]) ⟨rfl, rfl, trivial⟩ rfl ?_
  refine wl_1 (fun x4 h5 => GI h5 ∧ FR [(20, 20, none), (22, 23, none), (24, 25, none), (26, 27, none), (28, 28, none), (29, 36, none), (18, 18, some (8, 13)), (18, 18, some (15, 16)), (56, 56, some (10, 10))] h h5 ∧ FR [(20, 20, none), (22, 23, none), (24, 25, none), (26, 27, none), (28, 28, none), (29, 36, none), (18, 18, some (8, 13)), (18, 18, some (15, 16))] h2 h5 ∧ ((0 ≤ x4 ∧ x4 ≤ 12) ∧ (((h5 18 16) = (h2 18 16) ∧ (h5 18 7) = (h2 18 7)) ∨ (h2 18 16) + 1 ≤ (h5 18 16)) ∧ ((h5 18 16) ≤ (h2 18 16) + x4))) (fun x4 h5 => ((12 : Int) + 1 - x4).toNat) (fun x4 h5 => (7, [(0, .ref 56), (1, vi x4)], [], hp_w h5 cr, b, c)) ?_ 0 h2 ⟨g2, F3, FR.refl, (show (0 ≤ 0 ∧ 0 ≤ 12) ∧ (((h2 18 16) = (h2 18 16) ∧ (h2 18 7) = (h2 18 7)) ∨ (h2 18 16) + 1 ≤ (h2 18 16)) ∧ ((h2 18 16) ≤ (h2 18 16) + 0) by omega)⟩
  intro x4 h5 ⟨g5, F9, u5, f5⟩ I5
  have b10 := gi_b (lo := -2147483648) (hi := 2147483647) g5 18 16 rfl
  have e11 : h5 18 7 = h 18 7 := ((u5 18 7 rfl).trans (u2 18 7 rfl))
  refine wi_iload_n (i := 1) (e := x4) (nx := 8) (r1 := 0) (r2 := 0) (r3 := 0) rfl rfl ?_
  refine wi_aload_n (i := 0) (x := 56) (nx := 9) (r1 := 0) (r2 := 0) (r3 := 0) rfl rfl ?_
  refine wr_gr (k0 := 56) (x := 61) (nx := 12) (r1 := 6) (r2 := 8) (r3 := 0) rfl rfl (by decide) rfl ⟨rfl, rfl⟩ rfl ?_
  have b12 := gi_b (lo := 0) (hi := 12) g 61 1 rfl
  refine wr_gi0 (k0 := 61) (x := h 61 1) (nx := 15) (r1 := 5) (r2 := 1) (r3 := 0) rfl rfl (by decide) rfl ⟨rfl, rfl⟩ rfl ((u5 61 1 rfl).trans (u2 61 1 rfl)) ?_
  refine wi_icmp (cd := .ge) (nx := 18) (r1 := 65) (r2 := 0) (r3 := 0) rfl (by omega) (by omega) (fun (q13 : (h 61 1) ≤ x4) => ?_) (fun (q13 : ¬ ((h 61 1) ≤ x4)) => ?_)
  ·
    refine wi_aload_n (i := 0) (x := 56) (nx := 66) (r1 := 0) (r2 := 0) (r3 := 0) rfl rfl ?_
    refine wi_iconst (n := 1) (nx := 67) (r1 := 0) (r2 := 0) (r3 := 0) rfl ?_
    refine wr_pf2 (k0 := 56) (x := 1) (bl := 0) (bh := 1) (nx := 70) (r1 := 6) (r2 := 10) (r3 := 2) rfl (by decide) rfl ⟨rfl, rfl⟩ rfl (by omega) rfl g5 rfl (by omega) (fun h14 g14 w14 u14 => ?_)
    have F15 := F9.then rfl u14
    refine wi_aload_n (i := 0) (x := 56) (nx := 71) (r1 := 0) (r2 := 0) (r3 := 0) rfl rfl ?_
    refine wr_gr (k0 := 56) (x := 61) (nx := 74) (r1 := 6) (r2 := 8) (r3 := 0) rfl rfl (by decide) rfl ⟨rfl, rfl⟩ rfl ?_
    refine wr_gi0 (k0 := 61) (x := h 61 1) (nx := 77) (r1 := 5) (r2 := 1) (r3 := 0) rfl rfl (by decide) rfl ⟨rfl, rfl⟩ rfl ((u14 61 1 rfl).trans ((u5 61 1 rfl).trans (u2 61 1 rfl))) ?_
    refine wi_ireturn (nx := 78) (r1 := 0) (r2 := 0) (r3 := 0) rfl rfl ?_
    have e16 : h14 18 16 = h5 18 16 := (u14 18 16 rfl)
    have e17 : h14 18 7 = h 18 7 := ((u14 18 7 rfl).trans ((u5 18 7 rfl).trans (u2 18 7 rfl)))
    exact k h14 (h 61 1) g14 F15 (by omega) (show ((h14 18 16) = (h 18 16) ∧ (h14 18 7) = (h 18 7)) ∨ ((h 18 16) + 1 ≤ (h14 18 16) ∧ (h14 18 16) ≤ (h 18 16) + 13) by omega)
  ·
    refine wi_aload_n (i := 0) (x := 56) (nx := 19) (r1 := 0) (r2 := 0) (r3 := 0) rfl rfl ?_
    refine wr_gr (k0 := 56) (x := 18) (nx := 22) (r1 := 6) (r2 := 1) (r3 := 0) rfl rfl (by decide) rfl ⟨rfl, rfl⟩ rfl ?_
    refine wi_aload_n (i := 0) (x := 56) (nx := 23) (r1 := 0) (r2 := 0) (r3 := 0) rfl rfl ?_
    refine wr_gr (k0 := 56) (x := 61) (nx := 26) (r1 := 6) (r2 := 8) (r3 := 0) rfl rfl (by decide) rfl ⟨rfl, rfl⟩ rfl ?_
    refine wi_iload_n (i := 1) (e := x4) (nx := 27) (r1 := 0) (r2 := 0) (r3 := 0) rfl rfl ?_
    refine wr_V (k0 := 61) (rest := [.ref 18]) (as := [.ref 61, vi x4]) (nx := 30) (r1 := 154) (r2 := 1) (r3 := 5) rfl rfl rfl (of_decide_eq_true rfl) rfl rfl (by decide) rfl rfl (of_decide_eq_true rfl) (of_decide_eq_true rfl) ?_
    refine ct_154_R hcr rw_61 g5 x4 (by omega)  (fun z15  (fz15 : -2147483648 ≤ z15 ∧ z15 ≤ 2147483647) => ?_)
    refine wk_i ?_
    refine wr_V (k0 := 18) (rest := []) (as := [.ref 18, vi z15]) (nx := 33) (r1 := 142) (r2 := 1) (r3 := 4) rfl rfl rfl (of_decide_eq_true rfl) rfl rfl (by decide) rfl rfl (of_decide_eq_true rfl) (of_decide_eq_true rfl) ?_
    refine ct_142_18 hcr  g5 z15 (by omega) (show (h5 18 16) ≤ 2000000000 by omega) (fun h16 z17 g16 u16 (fz17 : -1 ≤ z17 ∧ z17 ≤ 11) (p16_0 : ((h16 18 16) = (h5 18 16) ∧ (h16 18 7) = (h5 18 7)) ∨ ((h5 18 16) + 1 ≤ (h16 18 16) ∧ (h16 18 16) ≤ (h5 18 16) + 1)) => ?_)
    have F18 := F9.then (by decide +kernel) u16
    have F19 := u5.then (by decide +kernel) u16
    have b20 := gi_b (lo := -2147483648) (hi := 2147483647) g16 18 16 rfl
    have e21 : h16 18 7 = h 18 7 := ((u16 18 7 rfl).trans ((u5 18 7 rfl).trans (u2 18 7 rfl)))
    refine wk_i ?_
    refine wi_istore_n (i := 2) (e := z17) (lo2 := [(2, vi z17), (0, .ref 56), (1, vi x4)]) (nx := 34) (r1 := 0) (r2 := 0) (r3 := 0) rfl rfl ?_
    refine wi_iload_n (i := 2) (e := z17) (nx := 35) (r1 := 0) (r2 := 0) (r3 := 0) rfl rfl ?_
    refine wi_iconst (n := (-1)) (nx := 36) (r1 := 0) (r2 := 0) (r3 := 0) rfl ?_
    refine wi_icmp (cd := .ne) (nx := 39) (r1 := 41) (r2 := 0) (r3 := 0) rfl (by omega) (by omega) (fun (q22 : z17 ≠ (-1)) => ?_) (fun (q22 : ¬ (z17 ≠ (-1))) => ?_)
    ·
      refine wi_aload_n (i := 0) (x := 56) (nx := 42) (r1 := 0) (r2 := 0) (r3 := 0) rfl rfl ?_
      refine wr_gr (k0 := 56) (x := 18) (nx := 45) (r1 := 6) (r2 := 1) (r3 := 0) rfl rfl (by decide) rfl ⟨rfl, rfl⟩ rfl ?_
      refine wr_gr (k0 := 18) (x := 26) (nx := 48) (r1 := 4) (r2 := 6) (r3 := 0) rfl rfl (by decide) rfl ⟨rfl, rfl⟩ rfl ?_
      refine wr_V (k0 := 26) (rest := []) (as := [.ref 26]) (nx := 51) (r1 := 156) (r2 := 0) (r3 := 5) rfl rfl rfl (of_decide_eq_true rfl) rfl rfl (by decide) rfl rfl (of_decide_eq_true rfl) (of_decide_eq_true rfl) ?_
      refine ct_156_R hcr rw_26 g16    (fun z24  (fz24 : -2147483648 ≤ z24 ∧ z24 ≤ 2147483647) => ?_)
      refine wk_i ?_
      refine wi_iload_n (i := 2) (e := z17) (nx := 52) (r1 := 0) (r2 := 0) (r3 := 0) rfl rfl ?_
      refine wi_icmp (cd := .eq) (nx := 55) (r1 := 59) (r2 := 0) (r3 := 0) rfl (by omega) (by omega) (fun (q25 : z24 = z17) => ?_) (fun (q25 : ¬ (z24 = z17)) => ?_)
      ·
        refine wr_iinc (i := 1) (n := 1) (v := x4) (fun e26 => [(1, vi e26), (2, vi z17), (0, .ref 56)]) (nx := 62) (r1 := 0) (r2 := 0) (r3 := 0) rfl rfl (fun _ => rfl) (fun e26 (fe26 : e26 = x4 + 1) => ?_)
        refine wi_goto (nx := 65) (r1 := 7) (r2 := 0) (r3 := 0) rfl ?_
        refine wp.lo (lo := [(0, .ref 56), (1, vi e26)]) ⟨rfl, rfl, trivial⟩ rfl ?_
        exact I5 e26 h16 ⟨g16, F18, F19, (show (0 ≤ e26 ∧ e26 ≤ 12) ∧ (((h16 18 16) = (h2 18 16) ∧ (h16 18 7) = (h2 18 7)) ∨ (h2 18 16) + 1 ≤ (h16 18 16)) ∧ ((h16 18 16) ≤ (h2 18 16) + e26) by omega)⟩ (show ((12 : Int) + 1 - e26).toNat < ((12 : Int) + 1 - x4).toNat by omega)
      ·
        refine wi_iload_n (i := 1) (e := x4) (nx := 56) (r1 := 0) (r2 := 0) (r3 := 0) rfl rfl ?_
        refine wi_iconst (n := 1) (nx := 57) (r1 := 0) (r2 := 0) (r3 := 0) rfl ?_
        refine wr_add (nx := 58) (r1 := 0) (r2 := 0) (r3 := 0) rfl (fun e26 (fe26 : e26 = x4 + 1) => ?_)
        refine wi_ireturn (nx := 59) (r1 := 0) (r2 := 0) (r3 := 0) rfl rfl ?_
        exact k h16 e26 g16 F18 (by omega) (show ((h16 18 16) = (h 18 16) ∧ (h16 18 7) = (h 18 7)) ∨ ((h 18 16) + 1 ≤ (h16 18 16) ∧ (h16 18 16) ≤ (h 18 16) + 13) by omega)
    ·
      refine wi_iload_n (i := 1) (e := x4) (nx := 40) (r1 := 0) (r2 := 0) (r3 := 0) rfl rfl ?_
      refine wi_ireturn (nx := 41) (r1 := 0) (r2 := 0) (r3 := 0) rfl rfl ?_
      exact k h16 x4 g16 F18 (by omega) (show ((h16 18 16) = (h 18 16) ∧ (h16 18 7) = (h 18 7)) ∨ ((h 18 16) + 1 ≤ (h16 18 16) ∧ (h16 18 16) ≤ (h 18 16) + 13) by omega)
-- method 172: Exchange.forgetWays()V
set_option maxRecDepth 100000 in
set_option maxHeartbeats 100000000 in
theorem ct_172_63 {L : Nat} {xs : Nat → Int32} {d b c : Nat} {h : hp} {cr : Nat → Nat → Option Nat} {Q : hp_Q} (hcr : CR cr)  (g : GI h)   (pp0 : h 63 4 ≤ 12) (k : ∀ (h2 : hp) , GI h2 → FR [(64, 64, none)] h h2 → (∀ u, u < 2 ^ xK h → pc u < xK h → h2 64 u = -1) → Q (.inl none) (hp_w h2 cr) b c) : wp (md_xa (L, xs)) (d + 1) 172 (0, [(0, .ref 63)], [], hp_w h cr, b, c) Q := by
  have F0 : FR [(64, 64, none)] h h := FR.refl
  have b1 := gi_b (lo := -12) (hi := 12) g 63 4 rfl
  refine wi_iconst (n := 1) (nx := 1) (r1 := 0) (r2 := 0) (r3 := 0) rfl ?_
  refine wi_aload_n (i := 0) (x := 63) (nx := 2) (r1 := 0) (r2 := 0) (r3 := 0) rfl rfl ?_
  refine wr_gi0 (k0 := 63) (x := h 63 4) (nx := 5) (r1 := 7) (r2 := 4) (r3 := 0) rfl rfl (by decide) rfl ⟨rfl, rfl⟩ rfl rfl ?_
  refine wr_ishl1W (y := h 63 4) (nx := 6) (r1 := 0) (r2 := 0) (r3 := 0) rfl (fun e2 (fe2 : -2147483648 ≤ e2 ∧ e2 ≤ 2147483647) ve2 => ?_)
  refine wi_aload_n (i := 0) (x := 63) (nx := 7) (r1 := 0) (r2 := 0) (r3 := 0) rfl rfl ?_
  refine wr_gr (k0 := 63) (x := 64) (nx := 10) (r1 := 7) (r2 := 2) (r3 := 0) rfl rfl (by decide) rfl ⟨rfl, rfl⟩ rfl ?_
  refine wr_al (k0 := 64) (e := 4096) (nx := 11) (r1 := 0) (r2 := 0) (r3 := 0) rfl (by decide) rfl rfl ?_
  refine wi_S (rest := []) (as := [vi e2, vi 4096]) (nx := 14) (r1 := 354) (r2 := 18) (r3 := 0) rfl rfl rfl (of_decide_eq_true rfl) rfl rfl (of_decide_eq_true rfl) (of_decide_eq_true rfl) ?_
  refine wi_iload_n (i := 0) (e := e2) (nx := 1) (r1 := 0) (r2 := 0) (r3 := 0) rfl rfl ?_
  refine wi_iload_n (i := 1) (e := 4096) (nx := 2) (r1 := 0) (r2 := 0) (r3 := 0) rfl rfl ?_
  refine wi_icmp (cd := .gt) (nx := 5) (r1 := 9) (r2 := 0) (r3 := 0) rfl (by omega) (by omega) (fun (q3 : 4096 < e2) => ?_) (fun (q3 : ¬ (4096 < e2)) => ?_)
  ·
    refine wi_iload_n (i := 1) (e := 4096) (nx := 10) (r1 := 0) (r2 := 0) (r3 := 0) rfl rfl ?_
    refine wi_ireturn (nx := 11) (r1 := 0) (r2 := 0) (r3 := 0) rfl rfl ?_
    refine wk_i ?_
    refine wi_istore_n (i := 1) (e := 4096) (lo2 := [(1, vi 4096), (0, .ref 63)]) (nx := 15) (r1 := 0) (r2 := 0) (r3 := 0) rfl rfl ?_
    refine wi_iconst (n := 0) (nx := 16) (r1 := 0) (r2 := 0) (r3 := 0) rfl ?_
    refine wi_istore_n (i := 2) (e := 0) (lo2 := [(2, vi 0), (1, vi 4096), (0, .ref 63)]) (nx := 17) (r1 := 0) (r2 := 0) (r3 := 0) rfl rfl ?_
    refine wp.lo (lo := [(0, .ref 63), (1, vi 4096), (2, vi 0)]) ⟨rfl, rfl, rfl, trivial⟩ rfl ?_
    refine wl_1 (fun x4 h5 => GI h5 ∧ FR [(64, 64, none)] h h5 ∧ FR [(64, 64, none)] h h5 ∧ ((0 ≤ x4 ∧ x4 ≤ 4096)) ∧ (∀ k : Nat, (k : Int) < x4 → h5 64 k = -1)) (fun x4 h5 => ((4096 : Int) + 1 - x4).toNat) (fun x4 h5 => (17, [(0, .ref 63), (1, vi 4096), (2, vi x4)], [], hp_w h5 cr, b, c)) ?_ 0 h ⟨g, F0, FR.refl, (show (0 ≤ 0 ∧ 0 ≤ 4096) by omega), (fun k e => absurd e (by omega))⟩
    intro x4 h5 ⟨g5, F6, u5, f5, X5_0⟩ I5
    refine wi_iload_n (i := 2) (e := x4) (nx := 18) (r1 := 0) (r2 := 0) (r3 := 0) rfl rfl ?_
    refine wi_iload_n (i := 1) (e := 4096) (nx := 19) (r1 := 0) (r2 := 0) (r3 := 0) rfl rfl ?_
    refine wi_icmp (cd := .ge) (nx := 22) (r1 := 35) (r2 := 0) (r3 := 0) rfl (by omega) (by omega) (fun (q7 : 4096 ≤ x4) => ?_) (fun (q7 : ¬ (4096 ≤ x4)) => ?_)
    ·
      refine wi_return (nx := 36) (r1 := 0) (r2 := 0) (r3 := 0) rfl rfl ?_
      exact k h5 g5 F6 (fun u hu hp => by
          have xh1 := ve2 (by unfold xK at hu hp; omega) (by unfold xK at hu hp; omega)
          have h12 : (2 : Nat) ^ 12 = 4096 := by decide
          have p12 := Nat.pow_le_pow_right (show 0 < 2 by decide) (show (h 63 4).toNat ≤ 12 by omega)
          unfold xK at hu
          exact X5_0 u (by omega))
    ·
      refine wi_aload_n (i := 0) (x := 63) (nx := 23) (r1 := 0) (r2 := 0) (r3 := 0) rfl rfl ?_
      refine wr_gr (k0 := 63) (x := 64) (nx := 26) (r1 := 7) (r2 := 2) (r3 := 0) rfl rfl (by decide) rfl ⟨rfl, rfl⟩ rfl ?_
      refine wi_iload_n (i := 2) (e := x4) (nx := 27) (r1 := 0) (r2 := 0) (r3 := 0) rfl rfl ?_
      refine wi_iconst (n := (-1)) (nx := 28) (r1 := 0) (r2 := 0) (r3 := 0) rfl ?_
      obtain ⟨i8, ei8⟩ : ∃ q : Nat, x4 = (q : Int) := ⟨(x4).toNat, by omega⟩
      refine wr_is (k0 := 64) (a := x4) (f := i8) (x := -1) (bl := -2147483648) (bh := 2147483647) (nx := 29) (r1 := 0) (r2 := 0) (r3 := 0) rfl (by decide) rfl (by omega) (by omega) (by decide) g5 rfl (by omega) (fun h9 g9 w9 u9 => ?_)
      have F10 := F6.then rfl (FR.rngp (lo := 64) (hi := 64) u9 (by decide))
      have F11 := u5.then rfl (FR.rngp (lo := 64) (hi := 64) u9 (by decide))
      refine wr_iinc (i := 2) (n := 1) (v := x4) (fun e12 => [(2, vi e12), (0, .ref 63), (1, vi 4096)]) (nx := 32) (r1 := 0) (r2 := 0) (r3 := 0) rfl rfl (fun _ => rfl) (fun e12 (fe12 : e12 = x4 + 1) => ?_)
      refine wi_goto (nx := 35) (r1 := 17) (r2 := 0) (r3 := 0) rfl ?_
      refine wp.lo (lo := [(0, .ref 63), (1, vi 4096), (2, vi e12)]) ⟨rfl, rfl, rfl, trivial⟩ rfl ?_
      exact I5 e12 h9 ⟨g9, F10, F11, (show (0 ≤ e12 ∧ e12 ≤ 4096) by omega), (fun k e => by by_cases e1 : k = i8; rw [e1]; exact w9; exact (u9 64 k (fn_i (by omega) fn_0)).trans (X5_0 k (by omega)))⟩ (show ((4096 : Int) + 1 - e12).toNat < ((4096 : Int) + 1 - x4).toNat by omega)
  ·
    refine wi_iload_n (i := 0) (e := e2) (nx := 6) (r1 := 0) (r2 := 0) (r3 := 0) rfl rfl ?_
    refine wi_goto (nx := 9) (r1 := 10) (r2 := 0) (r3 := 0) rfl ?_
    refine wi_ireturn (nx := 11) (r1 := 0) (r2 := 0) (r3 := 0) rfl rfl ?_
    refine wk_i ?_
    refine wi_istore_n (i := 1) (e := e2) (lo2 := [(1, vi e2), (0, .ref 63)]) (nx := 15) (r1 := 0) (r2 := 0) (r3 := 0) rfl rfl ?_
    refine wi_iconst (n := 0) (nx := 16) (r1 := 0) (r2 := 0) (r3 := 0) rfl ?_
    refine wi_istore_n (i := 2) (e := 0) (lo2 := [(2, vi 0), (1, vi e2), (0, .ref 63)]) (nx := 17) (r1 := 0) (r2 := 0) (r3 := 0) rfl rfl ?_
    refine wp.lo (lo := [(0, .ref 63), (1, vi e2), (2, vi 0)]) ⟨rfl, rfl, rfl, trivial⟩ rfl ?_
    refine wl_1 (fun x4 h5 => GI h5 ∧ FR [(64, 64, none)] h h5 ∧ FR [(64, 64, none)] h h5 ∧ ((0 ≤ x4 ∧ x4 ≤ 4096)) ∧ (∀ k : Nat, (k : Int) < x4 → h5 64 k = -1)) (fun x4 h5 => ((4096 : Int) + 1 - x4).toNat) (fun x4 h5 => (17, [(0, .ref 63), (1, vi e2), (2, vi x4)], [], hp_w h5 cr, b, c)) ?_ 0 h ⟨g, F0, FR.refl, (show (0 ≤ 0 ∧ 0 ≤ 4096) by omega), (fun k e => absurd e (by omega))⟩
    intro x4 h5 ⟨g5, F6, u5, f5, X5_0⟩ I5
    refine wi_iload_n (i := 2) (e := x4) (nx := 18) (r1 := 0) (r2 := 0) (r3 := 0) rfl rfl ?_
    refine wi_iload_n (i := 1) (e := e2) (nx := 19) (r1 := 0) (r2 := 0) (r3 := 0) rfl rfl ?_
    refine wi_icmp (cd := .ge) (nx := 22) (r1 := 35) (r2 := 0) (r3 := 0) rfl (by omega) (by omega) (fun (q7 : e2 ≤ x4) => ?_) (fun (q7 : ¬ (e2 ≤ x4)) => ?_)
    ·
      refine wi_return (nx := 36) (r1 := 0) (r2 := 0) (r3 := 0) rfl rfl ?_
      exact k h5 g5 F6 (fun u hu hp => by
          have xh1 := ve2 (by unfold xK at hu hp; omega) (by unfold xK at hu hp; omega)
          have h12 : (2 : Nat) ^ 12 = 4096 := by decide
          have p12 := Nat.pow_le_pow_right (show 0 < 2 by decide) (show (h 63 4).toNat ≤ 12 by omega)
          unfold xK at hu
          exact X5_0 u (by omega))
    ·
      refine wi_aload_n (i := 0) (x := 63) (nx := 23) (r1 := 0) (r2 := 0) (r3 := 0) rfl rfl ?_
      refine wr_gr (k0 := 63) (x := 64) (nx := 26) (r1 := 7) (r2 := 2) (r3 := 0) rfl rfl (by decide) rfl ⟨rfl, rfl⟩ rfl ?_
      refine wi_iload_n (i := 2) (e := x4) (nx := 27) (r1 := 0) (r2 := 0) (r3 := 0) rfl rfl ?_
      refine wi_iconst (n := (-1)) (nx := 28) (r1 := 0) (r2 := 0) (r3 := 0) rfl ?_
      obtain ⟨i8, ei8⟩ : ∃ q : Nat, x4 = (q : Int) := ⟨(x4).toNat, by omega⟩
      refine wr_is (k0 := 64) (a := x4) (f := i8) (x := -1) (bl := -2147483648) (bh := 2147483647) (nx := 29) (r1 := 0) (r2 := 0) (r3 := 0) rfl (by decide) rfl (by omega) (by omega) (by decide) g5 rfl (by omega) (fun h9 g9 w9 u9 => ?_)
      have F10 := F6.then rfl (FR.rngp (lo := 64) (hi := 64) u9 (by decide))
      have F11 := u5.then rfl (FR.rngp (lo := 64) (hi := 64) u9 (by decide))
      refine wr_iinc (i := 2) (n := 1) (v := x4) (fun e12 => [(2, vi e12), (0, .ref 63), (1, vi e2)]) (nx := 32) (r1 := 0) (r2 := 0) (r3 := 0) rfl rfl (fun _ => rfl) (fun e12 (fe12 : e12 = x4 + 1) => ?_)
      refine wi_goto (nx := 35) (r1 := 17) (r2 := 0) (r3 := 0) rfl ?_
      refine wp.lo (lo := [(0, .ref 63), (1, vi e2), (2, vi e12)]) ⟨rfl, rfl, rfl, trivial⟩ rfl ?_
      exact I5 e12 h9 ⟨g9, F10, F11, (show (0 ≤ e12 ∧ e12 ≤ 4096) by omega), (fun k e => by by_cases e1 : k = i8; rw [e1]; exact w9; exact (u9 64 k (fn_i (by omega) fn_0)).trans (X5_0 k (by omega)))⟩ (show ((4096 : Int) + 1 - e12).toNat < ((4096 : Int) + 1 - x4).toNat by omega)
-- method 356: Arrays.fill([II)V
set_option maxRecDepth 100000 in
set_option maxHeartbeats 100000000 in
theorem ct_356_65 {L : Nat} {xs : Nat → Int32} {d b c : Nat} {h : hp} {cr : Nat → Nat → Option Nat} {Q : hp_Q} (hcr : CR cr)  (g : GI h) (a0 : Int) (q0_ : -2147483648 ≤ a0 ∧ a0 ≤ 2147483647)  (k : ∀ (h2 : hp) , GI h2 → FR [(65, 65, none)] h h2 → (∀ k : Nat, k < 60 → h2 65 k = a0) → Q (.inl none) (hp_w h2 cr) b c) : wp (md_xa (L, xs)) d 356 (0, [(0, .ref 65), (1, vi a0)], [], hp_w h cr, b, c) Q := by
  have F0 : FR [(65, 65, none)] h h := FR.refl
  refine wi_iconst (n := 0) (nx := 1) (r1 := 0) (r2 := 0) (r3 := 0) rfl ?_
  refine wi_istore_n (i := 2) (e := 0) (lo2 := [(2, vi 0), (0, .ref 65), (1, vi a0)]) (nx := 2) (r1 := 0) (r2 := 0) (r3 := 0) rfl rfl ?_
  refine wi_aload_n (i := 0) (x := 65) (nx := 3) (r1 := 0) (r2 := 0) (r3 := 0) rfl rfl ?_
  refine wr_al (k0 := 65) (e := 60) (nx := 4) (r1 := 0) (r2 := 0) (r3 := 0) rfl (by decide) rfl rfl ?_
  refine wi_istore_n (i := 3) (e := 60) (lo2 := [(3, vi 60), (2, vi 0), (0, .ref 65), (1, vi a0)]) (nx := 5) (r1 := 0) (r2 := 0) (r3 := 0) rfl rfl ?_
  refine wp.lo (lo := [(0, .ref 65), (1, vi a0), (2, vi 0), (3, vi 60)]) ⟨rfl, rfl, rfl, rfl, trivial⟩ rfl ?_
  refine wl_1 (fun x1 h2 => GI h2 ∧ FR [(65, 65, none)] h h2 ∧ FR [(65, 65, none)] h h2 ∧ ((0 ≤ x1 ∧ x1 ≤ 60)) ∧ (∀ k : Nat, (k : Int) < x1 → h2 65 k = a0)) (fun x1 h2 => ((60 : Int) + 1 - x1).toNat) (fun x1 h2 => (5, [(0, .ref 65), (1, vi a0), (2, vi x1), (3, vi 60)], [], hp_w h2 cr, b, c)) ?_ 0 h ⟨g, F0, FR.refl, (show (0 ≤ 0 ∧ 0 ≤ 60) by omega), (fun k e => absurd e (by omega))⟩
  intro x1 h2 ⟨g2, F3, u2, f2, X2_0⟩ I2
  refine wi_iload_n (i := 2) (e := x1) (nx := 6) (r1 := 0) (r2 := 0) (r3 := 0) rfl rfl ?_
  refine wi_iload_n (i := 3) (e := 60) (nx := 7) (r1 := 0) (r2 := 0) (r3 := 0) rfl rfl ?_
  refine wi_icmp (cd := .ge) (nx := 10) (r1 := 20) (r2 := 0) (r3 := 0) rfl (by omega) (by omega) (fun (q4 : 60 ≤ x1) => ?_) (fun (q4 : ¬ (60 ≤ x1)) => ?_)
  ·
    refine wi_return (nx := 21) (r1 := 0) (r2 := 0) (r3 := 0) rfl rfl ?_
    exact k h2 g2 F3 (fun k e => X2_0 k (by omega))
  ·
    refine wi_aload_n (i := 0) (x := 65) (nx := 11) (r1 := 0) (r2 := 0) (r3 := 0) rfl rfl ?_
    refine wi_iload_n (i := 2) (e := x1) (nx := 12) (r1 := 0) (r2 := 0) (r3 := 0) rfl rfl ?_
    refine wi_iload_n (i := 1) (e := a0) (nx := 13) (r1 := 0) (r2 := 0) (r3 := 0) rfl rfl ?_
    obtain ⟨i5, ei5⟩ : ∃ q : Nat, x1 = (q : Int) := ⟨(x1).toNat, by omega⟩
    refine wr_is (k0 := 65) (a := x1) (f := i5) (x := a0) (bl := -2147483648) (bh := 2147483647) (nx := 14) (r1 := 0) (r2 := 0) (r3 := 0) rfl (by decide) rfl (by omega) (by omega) (by decide) g2 rfl (by omega) (fun h6 g6 w6 u6 => ?_)
    have F7 := F3.then rfl (FR.rngp (lo := 65) (hi := 65) u6 (by decide))
    have F8 := u2.then rfl (FR.rngp (lo := 65) (hi := 65) u6 (by decide))
    refine wr_iinc (i := 2) (n := 1) (v := x1) (fun e9 => [(2, vi e9), (0, .ref 65), (1, vi a0), (3, vi 60)]) (nx := 17) (r1 := 0) (r2 := 0) (r3 := 0) rfl rfl (fun _ => rfl) (fun e9 (fe9 : e9 = x1 + 1) => ?_)
    refine wi_goto (nx := 20) (r1 := 5) (r2 := 0) (r3 := 0) rfl ?_
    refine wp.lo (lo := [(0, .ref 65), (1, vi a0), (2, vi e9), (3, vi 60)]) ⟨rfl, rfl, rfl, rfl, trivial⟩ rfl ?_
    exact I2 e9 h6 ⟨g6, F7, F8, (show (0 ≤ e9 ∧ e9 ≤ 60) by omega), (fun k e => by by_cases e1 : k = i5; rw [e1]; exact w6; exact (u6 65 k (fn_i (by omega) fn_0)).trans (X2_0 k (by omega)))⟩ (show ((60 : Int) + 1 - e9).toNat < ((60 : Int) + 1 - x1).toNat by omega)
-- method 173: Exchange.offerJob(II)V
set_option maxRecDepth 100000 in
set_option maxHeartbeats 100000000 in
theorem ct_173_63 {L : Nat} {xs : Nat → Int32} {d b c : Nat} {h : hp} {cr : Nat → Nat → Option Nat} {Q : hp_Q} (hcr : CR cr)  (g : GI h) (a0 : Int) (a1 : Int) (q0_ : 0 ≤ a0 ∧ a0 ≤ 11) (q1_ : 0 ≤ a1 ∧ a1 ≤ 11) (pp0 : h 63 4 ≤ 12) (pp1 : h 18 7 + h 63 4 ≤ 12) (pp2 : a0 < h 63 4) (pp3 : a1 < h 63 4) (xq0 : XJd (xC h) (xB h) (xK h) (a0).toNat (a1).toNat (h 65)) (xq1 : (∀ j, j < xK h → 0 ≤ xC h j ∧ xC h j ≤ 4)) (k : ∀ (h2 : hp) , GI h2 → FR [(65, 65, none)] h h2 → (XJd (xC h) (xB h) (xK h) (a0).toNat ((a1).toNat + 1) (h2 65)) → Q (.inl none) (hp_w h2 cr) b c) : wp (md_xa (L, xs)) (d + 1) 173 (0, [(0, .ref 63), (1, vi a0), (2, vi a1)], [], hp_w h cr, b, c) Q := by
  have F0 : FR [(65, 65, none)] h h := FR.refl
  have b1 := gi_b (lo := -12) (hi := 12) g 63 4 rfl
  have b2 := gi_b (lo := 0) (hi := 12) g 18 7 rfl
  refine wi_aload_n (i := 0) (x := 63) (nx := 1) (r1 := 0) (r2 := 0) (r3 := 0) rfl rfl ?_
  refine wr_gr (k0 := 63) (x := 18) (nx := 4) (r1 := 7) (r2 := 1) (r3 := 0) rfl rfl (by decide) rfl ⟨rfl, rfl⟩ rfl ?_
  refine wi_aload_n (i := 0) (x := 63) (nx := 5) (r1 := 0) (r2 := 0) (r3 := 0) rfl rfl ?_
  refine wr_gr (k0 := 63) (x := 18) (nx := 8) (r1 := 7) (r2 := 1) (r3 := 0) rfl rfl (by decide) rfl ⟨rfl, rfl⟩ rfl ?_
  refine wr_gi0 (k0 := 18) (x := h 18 7) (nx := 11) (r1 := 4) (r2 := 7) (r3 := 0) rfl rfl (by decide) rfl ⟨rfl, rfl⟩ rfl rfl ?_
  refine wi_iload_n (i := 2) (e := a1) (nx := 12) (r1 := 0) (r2 := 0) (r3 := 0) rfl rfl ?_
  refine wr_add (nx := 13) (r1 := 0) (r2 := 0) (r3 := 0) rfl (fun e3 (fe3 : e3 = (h 18 7) + a1) => ?_)
  refine wr_V (k0 := 18) (rest := []) (as := [.ref 18, vi e3]) (nx := 16) (r1 := 131) (r2 := 1) (r3 := 4) rfl rfl rfl (of_decide_eq_true rfl) rfl rfl (by decide) rfl rfl (of_decide_eq_true rfl) (of_decide_eq_true rfl) ?_
  refine wi_iload_n (i := 1) (e := e3) (nx := 1) (r1 := 0) (r2 := 0) (r3 := 0) rfl rfl ?_
  refine wi_if (cd := .lt) (nx := 4) (r1 := 10) (r2 := 0) (r3 := 0) rfl (by omega) (fun (q4 : e3 < 0) => by exfalso; omega) (fun (q4 : ¬ (e3 < 0)) => ?_)
  refine wi_iload_n (i := 1) (e := e3) (nx := 5) (r1 := 0) (r2 := 0) (r3 := 0) rfl rfl ?_
  refine wi_bipush (n := 12) (nx := 7) (r1 := 0) (r2 := 0) (r3 := 0) rfl (by decide) ?_
  refine wi_icmp (cd := .lt) (nx := 10) (r1 := 14) (r2 := 0) (r3 := 0) rfl (by omega) (by omega) (fun (q5 : e3 < 12) => ?_) (fun (q5 : ¬ (e3 < 12)) => by exfalso; omega)
  refine wi_aload_n (i := 0) (x := 18) (nx := 15) (r1 := 0) (r2 := 0) (r3 := 0) rfl rfl ?_
  refine wr_gr (k0 := 18) (x := 19) (nx := 18) (r1 := 4) (r2 := 1) (r3 := 0) rfl rfl (by decide) rfl ⟨rfl, rfl⟩ rfl ?_
  refine wi_iload_n (i := 1) (e := e3) (nx := 19) (r1 := 0) (r2 := 0) (r3 := 0) rfl rfl ?_
  obtain ⟨i6, ei6⟩ : ∃ q : Nat, e3 = (q : Int) := ⟨(e3).toNat, by omega⟩
  have b7 := gi_b (lo := -2147483648) (hi := 2147483647) g 19 i6 rfl
  refine wr_ia (k0 := 19) (a := e3) (f := i6) (x := h 19 i6) (nx := 20) (r1 := 0) (r2 := 0) (r3 := 0) rfl (by decide) rfl (by omega) (by omega) (by decide) rfl ?_
  refine wi_ireturn (nx := 21) (r1 := 0) (r2 := 0) (r3 := 0) rfl rfl ?_
  refine wk_i ?_
  have cb := xq1 (a1).toNat (by unfold xK; omega)
  unfold xC at cb
  rw [show (h 18 7).toNat + (a1).toNat = i6 by omega] at cb
  refine wi_istore_n (i := 3) (e := h 19 i6) (lo2 := [(3, vi (h 19 i6)), (0, .ref 63), (1, vi a0), (2, vi a1)]) (nx := 17) (r1 := 0) (r2 := 0) (r3 := 0) rfl rfl ?_
  refine wi_aload_n (i := 0) (x := 63) (nx := 18) (r1 := 0) (r2 := 0) (r3 := 0) rfl rfl ?_
  refine wr_gr (k0 := 63) (x := 3) (nx := 21) (r1 := 7) (r2 := 0) (r3 := 0) rfl rfl (by decide) rfl ⟨rfl, rfl⟩ rfl ?_
  refine wi_aload_n (i := 0) (x := 63) (nx := 22) (r1 := 0) (r2 := 0) (r3 := 0) rfl rfl ?_
  refine wr_gr (k0 := 63) (x := 18) (nx := 25) (r1 := 7) (r2 := 1) (r3 := 0) rfl rfl (by decide) rfl ⟨rfl, rfl⟩ rfl ?_
  refine wr_gi0 (k0 := 18) (x := h 18 7) (nx := 28) (r1 := 4) (r2 := 7) (r3 := 0) rfl rfl (by decide) rfl ⟨rfl, rfl⟩ rfl rfl ?_
  refine wi_iload_n (i := 2) (e := a1) (nx := 29) (r1 := 0) (r2 := 0) (r3 := 0) rfl rfl ?_
  refine wr_add (nx := 30) (r1 := 0) (r2 := 0) (r3 := 0) rfl (fun e8 (fe8 : e8 = (h 18 7) + a1) => ?_)
  refine wr_V (k0 := 3) (rest := []) (as := [.ref 3, vi e8]) (nx := 33) (r1 := 112) (r2 := 1) (r3 := 2) rfl rfl rfl (of_decide_eq_true rfl) rfl rfl (by decide) rfl rfl (of_decide_eq_true rfl) (of_decide_eq_true rfl) ?_
  refine wi_iload_n (i := 1) (e := e8) (nx := 1) (r1 := 0) (r2 := 0) (r3 := 0) rfl rfl ?_
  refine wi_if (cd := .lt) (nx := 4) (r1 := 10) (r2 := 0) (r3 := 0) rfl (by omega) (fun (q9 : e8 < 0) => by exfalso; omega) (fun (q9 : ¬ (e8 < 0)) => ?_)
  refine wi_iload_n (i := 1) (e := e8) (nx := 5) (r1 := 0) (r2 := 0) (r3 := 0) rfl rfl ?_
  refine wi_bipush (n := 12) (nx := 7) (r1 := 0) (r2 := 0) (r3 := 0) rfl (by decide) ?_
  refine wi_icmp (cd := .lt) (nx := 10) (r1 := 14) (r2 := 0) (r3 := 0) rfl (by omega) (by omega) (fun (q10 : e8 < 12) => ?_) (fun (q10 : ¬ (e8 < 12)) => by exfalso; omega)
  refine wi_aload_n (i := 0) (x := 3) (nx := 15) (r1 := 0) (r2 := 0) (r3 := 0) rfl rfl ?_
  refine wr_gr (k0 := 3) (x := 8) (nx := 18) (r1 := 2) (r2 := 14) (r3 := 0) rfl rfl (by decide) rfl ⟨rfl, rfl⟩ rfl ?_
  refine wi_iload_n (i := 1) (e := e8) (nx := 19) (r1 := 0) (r2 := 0) (r3 := 0) rfl rfl ?_
  have b11 := gi_b (lo := -2147483648) (hi := 2147483647) g 8 i6 rfl
  refine wr_ia (k0 := 8) (a := e8) (f := i6) (x := h 8 i6) (nx := 20) (r1 := 0) (r2 := 0) (r3 := 0) rfl (by decide) rfl (by omega) (by omega) (by decide) rfl ?_
  refine wi_ireturn (nx := 21) (r1 := 0) (r2 := 0) (r3 := 0) rfl rfl ?_
  refine wk_i ?_
  refine wi_istore (i := 4) (e := h 8 i6) (lo2 := [(4, vi (h 8 i6)), (3, vi (h 19 i6)), (0, .ref 63), (1, vi a0), (2, vi a1)]) (nx := 35) (r1 := 0) (r2 := 0) (r3 := 0) rfl rfl ?_
  refine wi_iload_n (i := 1) (e := a0) (nx := 36) (r1 := 0) (r2 := 0) (r3 := 0) rfl rfl ?_
  refine wi_iconst (n := 5) (nx := 37) (r1 := 0) (r2 := 0) (r3 := 0) rfl ?_
  refine wr_mul (nx := 38) (r1 := 0) (r2 := 0) (r3 := 0) rfl (fun e12 (fe12 : e12 = a0 * 5) => ?_)
  refine wi_iload_n (i := 3) (e := h 19 i6) (nx := 39) (r1 := 0) (r2 := 0) (r3 := 0) rfl rfl ?_
  refine wr_add (nx := 40) (r1 := 0) (r2 := 0) (r3 := 0) rfl (fun e13 (fe13 : e13 = e12 + (h 19 i6)) => ?_)
  refine wi_istore (i := 5) (e := e13) (lo2 := [(5, vi e13), (4, vi (h 8 i6)), (3, vi (h 19 i6)), (0, .ref 63), (1, vi a0), (2, vi a1)]) (nx := 42) (r1 := 0) (r2 := 0) (r3 := 0) rfl rfl ?_
  refine wi_iload_n (i := 3) (e := h 19 i6) (nx := 43) (r1 := 0) (r2 := 0) (r3 := 0) rfl rfl ?_
  refine wi_iconst (n := (-1)) (nx := 44) (r1 := 0) (r2 := 0) (r3 := 0) rfl ?_
  refine wi_icmp (cd := .eq) (nx := 47) (r1 := 72) (r2 := 0) (r3 := 0) rfl (by omega) (by omega) (fun (q14 : (h 19 i6) = (-1)) => by exfalso; omega) (fun (q14 : ¬ ((h 19 i6) = (-1))) => ?_)
  refine wi_iload (i := 4) (e := h 8 i6) (nx := 49) (r1 := 0) (r2 := 0) (r3 := 0) rfl rfl ?_
  refine wi_aload_n (i := 0) (x := 63) (nx := 50) (r1 := 0) (r2 := 0) (r3 := 0) rfl rfl ?_
  refine wr_gr (k0 := 63) (x := 3) (nx := 53) (r1 := 7) (r2 := 0) (r3 := 0) rfl rfl (by decide) rfl ⟨rfl, rfl⟩ rfl ?_
  refine wi_aload_n (i := 0) (x := 63) (nx := 54) (r1 := 0) (r2 := 0) (r3 := 0) rfl rfl ?_
  refine wr_gr (k0 := 63) (x := 18) (nx := 57) (r1 := 7) (r2 := 1) (r3 := 0) rfl rfl (by decide) rfl ⟨rfl, rfl⟩ rfl ?_
  refine wr_gi0 (k0 := 18) (x := h 18 7) (nx := 60) (r1 := 4) (r2 := 7) (r3 := 0) rfl rfl (by decide) rfl ⟨rfl, rfl⟩ rfl rfl ?_
  refine wi_iload_n (i := 1) (e := a0) (nx := 61) (r1 := 0) (r2 := 0) (r3 := 0) rfl rfl ?_
  refine wr_add (nx := 62) (r1 := 0) (r2 := 0) (r3 := 0) rfl (fun e15 (fe15 : e15 = (h 18 7) + a0) => ?_)
  refine wr_V (k0 := 3) (rest := [vi (h 8 i6)]) (as := [.ref 3, vi e15]) (nx := 65) (r1 := 112) (r2 := 1) (r3 := 2) rfl rfl rfl (of_decide_eq_true rfl) rfl rfl (by decide) rfl rfl (of_decide_eq_true rfl) (of_decide_eq_true rfl) ?_
  refine wi_iload_n (i := 1) (e := e15) (nx := 1) (r1 := 0) (r2 := 0) (r3 := 0) rfl rfl ?_
  refine wi_if (cd := .lt) (nx := 4) (r1 := 10) (r2 := 0) (r3 := 0) rfl (by omega) (fun (q16 : e15 < 0) => by exfalso; omega) (fun (q16 : ¬ (e15 < 0)) => ?_)
  refine wi_iload_n (i := 1) (e := e15) (nx := 5) (r1 := 0) (r2 := 0) (r3 := 0) rfl rfl ?_
  refine wi_bipush (n := 12) (nx := 7) (r1 := 0) (r2 := 0) (r3 := 0) rfl (by decide) ?_
  refine wi_icmp (cd := .lt) (nx := 10) (r1 := 14) (r2 := 0) (r3 := 0) rfl (by omega) (by omega) (fun (q17 : e15 < 12) => ?_) (fun (q17 : ¬ (e15 < 12)) => by exfalso; omega)
  refine wi_aload_n (i := 0) (x := 3) (nx := 15) (r1 := 0) (r2 := 0) (r3 := 0) rfl rfl ?_
  refine wr_gr (k0 := 3) (x := 8) (nx := 18) (r1 := 2) (r2 := 14) (r3 := 0) rfl rfl (by decide) rfl ⟨rfl, rfl⟩ rfl ?_
  refine wi_iload_n (i := 1) (e := e15) (nx := 19) (r1 := 0) (r2 := 0) (r3 := 0) rfl rfl ?_
  obtain ⟨i18, ei18⟩ : ∃ q : Nat, e15 = (q : Int) := ⟨(e15).toNat, by omega⟩
  have b19 := gi_b (lo := -2147483648) (hi := 2147483647) g 8 i18 rfl
  refine wr_ia (k0 := 8) (a := e15) (f := i18) (x := h 8 i18) (nx := 20) (r1 := 0) (r2 := 0) (r3 := 0) rfl (by decide) rfl (by omega) (by omega) (by decide) rfl ?_
  refine wi_ireturn (nx := 21) (r1 := 0) (r2 := 0) (r3 := 0) rfl rfl ?_
  refine wk_i ?_
  refine wi_icmp (cd := .ne) (nx := 68) (r1 := 72) (r2 := 0) (r3 := 0) rfl (by omega) (by omega) (fun (q20 : (h 8 i6) ≠ (h 8 i18)) => ?_) (fun (q20 : ¬ ((h 8 i6) ≠ (h 8 i18))) => ?_)
  ·
    refine wi_iconst (n := 0) (nx := 73) (r1 := 0) (r2 := 0) (r3 := 0) rfl ?_
    refine wi_istore (i := 6) (e := 0) (lo2 := [(6, vi 0), (5, vi e13), (4, vi (h 8 i6)), (3, vi (h 19 i6)), (0, .ref 63), (1, vi a0), (2, vi a1)]) (nx := 75) (r1 := 0) (r2 := 0) (r3 := 0) rfl rfl ?_
    refine wi_iload (i := 6) (e := 0) (nx := 77) (r1 := 0) (r2 := 0) (r3 := 0) rfl rfl ?_
    refine wi_if (cd := .eq) (nx := 80) (r1 := 108) (r2 := 0) (r3 := 0) rfl (by omega) (fun (q21 : 0 = 0) => ?_) (fun (q21 : ¬ (0 = 0)) => by exfalso; omega)
    refine wi_return (nx := 109) (r1 := 0) (r2 := 0) (r3 := 0) rfl rfl ?_
    exact k h g F0 (XJd.skip xq0 (show ¬ xB h (a1).toNat = xB h (a0).toNat by unfold xB; rw [show (h 18 7).toNat + (a1).toNat = i6 by omega, show (h 18 7).toNat + (a0).toNat = i18 by omega]; omega))
  ·
    refine wi_iconst (n := 1) (nx := 69) (r1 := 0) (r2 := 0) (r3 := 0) rfl ?_
    refine wi_goto (nx := 72) (r1 := 73) (r2 := 0) (r3 := 0) rfl ?_
    refine wi_istore (i := 6) (e := 1) (lo2 := [(6, vi 1), (5, vi e13), (4, vi (h 8 i6)), (3, vi (h 19 i6)), (0, .ref 63), (1, vi a0), (2, vi a1)]) (nx := 75) (r1 := 0) (r2 := 0) (r3 := 0) rfl rfl ?_
    refine wi_iload (i := 6) (e := 1) (nx := 77) (r1 := 0) (r2 := 0) (r3 := 0) rfl rfl ?_
    refine wi_if (cd := .eq) (nx := 80) (r1 := 108) (r2 := 0) (r3 := 0) rfl (by omega) (fun (q21 : 1 = 0) => by exfalso; omega) (fun (q21 : ¬ (1 = 0)) => ?_)
    refine wi_iload (i := 5) (e := e13) (nx := 82) (r1 := 0) (r2 := 0) (r3 := 0) rfl rfl ?_
    refine wi_if (cd := .lt) (nx := 85) (r1 := 108) (r2 := 0) (r3 := 0) rfl (by omega) (fun (q22 : e13 < 0) => by exfalso; omega) (fun (q22 : ¬ (e13 < 0)) => ?_)
    refine wi_iload (i := 5) (e := e13) (nx := 87) (r1 := 0) (r2 := 0) (r3 := 0) rfl rfl ?_
    refine wi_aload_n (i := 0) (x := 63) (nx := 88) (r1 := 0) (r2 := 0) (r3 := 0) rfl rfl ?_
    refine wr_gr (k0 := 63) (x := 65) (nx := 91) (r1 := 7) (r2 := 3) (r3 := 0) rfl rfl (by decide) rfl ⟨rfl, rfl⟩ rfl ?_
    refine wr_al (k0 := 65) (e := 60) (nx := 92) (r1 := 0) (r2 := 0) (r3 := 0) rfl (by decide) rfl rfl ?_
    refine wi_icmp (cd := .ge) (nx := 95) (r1 := 108) (r2 := 0) (r3 := 0) rfl (by omega) (by omega) (fun (q23 : 60 ≤ e13) => by exfalso; omega) (fun (q23 : ¬ (60 ≤ e13)) => ?_)
    refine wi_aload_n (i := 0) (x := 63) (nx := 96) (r1 := 0) (r2 := 0) (r3 := 0) rfl rfl ?_
    refine wr_gr (k0 := 63) (x := 65) (nx := 99) (r1 := 7) (r2 := 3) (r3 := 0) rfl rfl (by decide) rfl ⟨rfl, rfl⟩ rfl ?_
    refine wi_iload (i := 5) (e := e13) (nx := 101) (r1 := 0) (r2 := 0) (r3 := 0) rfl rfl ?_
    refine wi_dup2 (nx := 102) (r1 := 0) (r2 := 0) (r3 := 0) rfl rfl rfl ?_
    obtain ⟨i24, ei24⟩ : ∃ q : Nat, e13 = (q : Int) := ⟨(e13).toNat, by omega⟩
    have b25 := gi_b (lo := -2147483648) (hi := 2147483647) g 65 i24 rfl
    refine wr_ia (k0 := 65) (a := e13) (f := i24) (x := h 65 i24) (nx := 103) (r1 := 0) (r2 := 0) (r3 := 0) rfl (by decide) rfl (by omega) (by omega) (by decide) rfl ?_
    refine wi_iconst (n := 1) (nx := 104) (r1 := 0) (r2 := 0) (r3 := 0) rfl ?_
    refine wi_iload_n (i := 2) (e := a1) (nx := 105) (r1 := 0) (r2 := 0) (r3 := 0) rfl rfl ?_
    refine wr_ishl1 (y := a1) (nx := 106) (r1 := 0) (r2 := 0) (r3 := 0) rfl (by omega) (fun e26 (fe26 : 1 ≤ e26 ∧ e26 ≤ 4096) ve26 => ?_)
    have ke26 : e26 ≤ 2048 := by rw [ve26]; have := Nat.pow_le_pow_right (show 0 < 2 by decide) (show (a1).toNat ≤ 11 by omega); omega
    have jx := xq0.2.1 (by omega) (h 19 i6).toNat (by omega)
    rw [show 5 * (a0).toNat + (h 19 i6).toNat = i24 by omega] at jx
    have jl := @xk_lt (xsu (xC h) (xB h) (a0).toNat (((h 19 i6).toNat : Nat) : Int)) (a1).toNat
    have jt := Nat.pow_le_pow_right (show 0 < 2 by decide) (show (a1).toNat ≤ 11 by omega)
    have h11 : (2 : Nat) ^ 11 = 2048 := by decide
    have jb : 0 ≤ h 65 i24 ∧ h 65 i24 < 4096 := by rw [jx]; omega
    refine wr_iorN (x := h 65 i24) (y := e26) 12 4096 (by decide) (by decide) (nx := 107) (r1 := 0) (r2 := 0) (r3 := 0) rfl (by omega) (by omega) (fun e27 (fe27 : 0 ≤ e27 ∧ e27 < 4096) ve27 => ?_)
    refine wr_is (k0 := 65) (a := e13) (f := i24) (x := e27) (bl := -2147483648) (bh := 2147483647) (nx := 108) (r1 := 0) (r2 := 0) (r3 := 0) rfl (by decide) rfl (by omega) (by omega) (by decide) g rfl (by omega) (fun h28 g28 w28 u28 => ?_)
    have F29 := F0.then rfl (FR.rngp (lo := 65) (hi := 65) u28 (by decide))
    refine wi_return (nx := 109) (r1 := 0) (r2 := 0) (r3 := 0) rfl rfl ?_
    exact k h28 g28 F29 (by
        refine XJd.put xq0 (show xB h (a1).toNat = xB h (a0).toNat by unfold xB; rw [show (h 18 7).toNat + (a1).toNat = i6 by omega, show (h 18 7).toNat + (a0).toNat = i18 by omega]; omega) (h 19 i6).toNat (show xC h (a1).toNat = (((h 19 i6).toNat : Nat) : Int) by unfold xC; rw [show (h 18 7).toNat + (a1).toNat = i6 by omega]; omega) (by omega) ?_ (fun i e => u28 65 i (fn_i (by omega) fn_0))
        rw [show 5 * (a0).toNat + (h 19 i6).toNat = i24 by omega, w28, ve27, show (h 65 i24).toNat = xk (xsu (xC h) (xB h) (a0).toNat (((h 19 i6).toNat : Nat) : Int)) (a1).toNat by omega, show (e26).toNat = 2 ^ (a1).toNat by omega, or_pow jl]
        try rfl)
-- method 357: Integer.bitCount(I)I
set_option maxRecDepth 100000 in
set_option maxHeartbeats 100000000 in
theorem ct_357 {L : Nat} {xs : Nat → Int32} {d b c : Nat} {h : hp} {cr : Nat → Nat → Option Nat} {Q : hp_Q} (hcr : CR cr)  (g : GI h) (a0 : Int) (q0_ : -2147483648 ≤ a0 ∧ a0 ≤ 2147483647) (pp0 : a0 = 0 ∨ a0 = 1 ∨ a0 = 3 ∨ a0 = 7 ∨ a0 = 15 ∨ a0 = 31 ∨ a0 = 63 ∨ a0 = 127 ∨ a0 = 255 ∨ a0 = 511 ∨ a0 = 1023 ∨ a0 = 2047) (k : ∀ (z0 : Int), (0 ≤ z0 ∧ z0 ≤ 11) → (0 ≤ z0 ∧ z0 ≤ 11) → (2 ^ z0.toNat = a0.toNat + 1) → Q (.inl (some (vi z0))) (hp_w h cr) b c) : wp (md_xa (L, xs)) d 357 (0, [(0, vi a0)], [], hp_w h cr, b, c) Q := by
  have F0 : FR [] h h := FR.refl
  obtain rfl | rfl | rfl | rfl | rfl | rfl | rfl | rfl | rfl | rfl | rfl | rfl : a0 = 0 ∨ a0 = 1 ∨ a0 = 3 ∨ a0 = 7 ∨ a0 = 15 ∨ a0 = 31 ∨ a0 = 63 ∨ a0 = 127 ∨ a0 = 255 ∨ a0 = 511 ∨ a0 = 1023 ∨ a0 = 2047 := by omega
  ·
    refine wi_iload_n (i := 0) (e := 0) (nx := 1) (r1 := 0) (r2 := 0) (r3 := 0) rfl rfl ?_
    refine wi_iload_n (i := 0) (e := 0) (nx := 2) (r1 := 0) (r2 := 0) (r3 := 0) rfl rfl ?_
    refine wi_iconst (n := 1) (nx := 3) (r1 := 0) (r2 := 0) (r3 := 0) rfl ?_
    refine wr_iushrL 0 (nx := 4) (r1 := 0) (r2 := 0) (r3 := 0) rfl (by decide) ?_
    refine wi_ldc_w (e := 1431655765) (nx := 7) (r1 := 0) (r2 := 1431655765) (r3 := 0) rfl (by decide) ?_
    refine wi_iand (e := 0) (nx := 8) (r1 := 0) (r2 := 0) (r3 := 0) rfl (by decide) ?_
    refine wr_subL (0) (nx := 9) (r1 := 0) (r2 := 0) (r3 := 0) rfl (by decide) ?_
    refine wi_istore_n (i := 0) (e := 0) (lo2 := [(0, vi 0)]) (nx := 10) (r1 := 0) (r2 := 0) (r3 := 0) rfl rfl ?_
    refine wi_iload_n (i := 0) (e := 0) (nx := 11) (r1 := 0) (r2 := 0) (r3 := 0) rfl rfl ?_
    refine wi_ldc_w (e := 858993459) (nx := 14) (r1 := 0) (r2 := 858993459) (r3 := 0) rfl (by decide) ?_
    refine wi_iand (e := 0) (nx := 15) (r1 := 0) (r2 := 0) (r3 := 0) rfl (by decide) ?_
    refine wi_iload_n (i := 0) (e := 0) (nx := 16) (r1 := 0) (r2 := 0) (r3 := 0) rfl rfl ?_
    refine wi_iconst (n := 2) (nx := 17) (r1 := 0) (r2 := 0) (r3 := 0) rfl ?_
    refine wr_iushrL 0 (nx := 18) (r1 := 0) (r2 := 0) (r3 := 0) rfl (by decide) ?_
    refine wi_ldc_w (e := 858993459) (nx := 21) (r1 := 0) (r2 := 858993459) (r3 := 0) rfl (by decide) ?_
    refine wi_iand (e := 0) (nx := 22) (r1 := 0) (r2 := 0) (r3 := 0) rfl (by decide) ?_
    refine wr_addL (0) (nx := 23) (r1 := 0) (r2 := 0) (r3 := 0) rfl (by decide) ?_
    refine wi_istore_n (i := 0) (e := 0) (lo2 := [(0, vi 0)]) (nx := 24) (r1 := 0) (r2 := 0) (r3 := 0) rfl rfl ?_
    refine wi_iload_n (i := 0) (e := 0) (nx := 25) (r1 := 0) (r2 := 0) (r3 := 0) rfl rfl ?_
    refine wi_iload_n (i := 0) (e := 0) (nx := 26) (r1 := 0) (r2 := 0) (r3 := 0) rfl rfl ?_
    refine wi_iconst (n := 4) (nx := 27) (r1 := 0) (r2 := 0) (r3 := 0) rfl ?_
    refine wr_iushrL 0 (nx := 28) (r1 := 0) (r2 := 0) (r3 := 0) rfl (by decide) ?_
    refine wr_addL (0) (nx := 29) (r1 := 0) (r2 := 0) (r3 := 0) rfl (by decide) ?_
    refine wi_ldc_w (e := 252645135) (nx := 32) (r1 := 0) (r2 := 252645135) (r3 := 0) rfl (by decide) ?_
    refine wi_iand (e := 0) (nx := 33) (r1 := 0) (r2 := 0) (r3 := 0) rfl (by decide) ?_
    refine wi_istore_n (i := 0) (e := 0) (lo2 := [(0, vi 0)]) (nx := 34) (r1 := 0) (r2 := 0) (r3 := 0) rfl rfl ?_
    refine wi_iload_n (i := 0) (e := 0) (nx := 35) (r1 := 0) (r2 := 0) (r3 := 0) rfl rfl ?_
    refine wi_iload_n (i := 0) (e := 0) (nx := 36) (r1 := 0) (r2 := 0) (r3 := 0) rfl rfl ?_
    refine wi_bipush (n := 8) (nx := 38) (r1 := 0) (r2 := 0) (r3 := 0) rfl (by decide) ?_
    refine wr_iushrL 0 (nx := 39) (r1 := 0) (r2 := 0) (r3 := 0) rfl (by decide) ?_
    refine wr_addL (0) (nx := 40) (r1 := 0) (r2 := 0) (r3 := 0) rfl (by decide) ?_
    refine wi_istore_n (i := 0) (e := 0) (lo2 := [(0, vi 0)]) (nx := 41) (r1 := 0) (r2 := 0) (r3 := 0) rfl rfl ?_
    refine wi_iload_n (i := 0) (e := 0) (nx := 42) (r1 := 0) (r2 := 0) (r3 := 0) rfl rfl ?_
    refine wi_iload_n (i := 0) (e := 0) (nx := 43) (r1 := 0) (r2 := 0) (r3 := 0) rfl rfl ?_
    refine wi_bipush (n := 16) (nx := 45) (r1 := 0) (r2 := 0) (r3 := 0) rfl (by decide) ?_
    refine wr_iushrL 0 (nx := 46) (r1 := 0) (r2 := 0) (r3 := 0) rfl (by decide) ?_
    refine wr_addL (0) (nx := 47) (r1 := 0) (r2 := 0) (r3 := 0) rfl (by decide) ?_
    refine wi_istore_n (i := 0) (e := 0) (lo2 := [(0, vi 0)]) (nx := 48) (r1 := 0) (r2 := 0) (r3 := 0) rfl rfl ?_
    refine wi_iload_n (i := 0) (e := 0) (nx := 49) (r1 := 0) (r2 := 0) (r3 := 0) rfl rfl ?_
    refine wi_bipush (n := 63) (nx := 51) (r1 := 0) (r2 := 0) (r3 := 0) rfl (by decide) ?_
    refine wi_iand (e := 0) (nx := 52) (r1 := 0) (r2 := 0) (r3 := 0) rfl (by decide) ?_
    refine wi_ireturn (nx := 53) (r1 := 0) (r2 := 0) (r3 := 0) rfl rfl ?_
    exact k 0 (by omega) (show 0 ≤ 0 ∧ 0 ≤ 11 by omega) (by decide)
  ·
    refine wi_iload_n (i := 0) (e := 1) (nx := 1) (r1 := 0) (r2 := 0) (r3 := 0) rfl rfl ?_
    refine wi_iload_n (i := 0) (e := 1) (nx := 2) (r1 := 0) (r2 := 0) (r3 := 0) rfl rfl ?_
    refine wi_iconst (n := 1) (nx := 3) (r1 := 0) (r2 := 0) (r3 := 0) rfl ?_
    refine wr_iushrL 0 (nx := 4) (r1 := 0) (r2 := 0) (r3 := 0) rfl (by decide) ?_
    refine wi_ldc_w (e := 1431655765) (nx := 7) (r1 := 0) (r2 := 1431655765) (r3 := 0) rfl (by decide) ?_
    refine wi_iand (e := 0) (nx := 8) (r1 := 0) (r2 := 0) (r3 := 0) rfl (by decide) ?_
    refine wr_subL (1) (nx := 9) (r1 := 0) (r2 := 0) (r3 := 0) rfl (by decide) ?_
    refine wi_istore_n (i := 0) (e := 1) (lo2 := [(0, vi 1)]) (nx := 10) (r1 := 0) (r2 := 0) (r3 := 0) rfl rfl ?_
    refine wi_iload_n (i := 0) (e := 1) (nx := 11) (r1 := 0) (r2 := 0) (r3 := 0) rfl rfl ?_
    refine wi_ldc_w (e := 858993459) (nx := 14) (r1 := 0) (r2 := 858993459) (r3 := 0) rfl (by decide) ?_
    refine wi_iand (e := 1) (nx := 15) (r1 := 0) (r2 := 0) (r3 := 0) rfl (by decide) ?_
    refine wi_iload_n (i := 0) (e := 1) (nx := 16) (r1 := 0) (r2 := 0) (r3 := 0) rfl rfl ?_
    refine wi_iconst (n := 2) (nx := 17) (r1 := 0) (r2 := 0) (r3 := 0) rfl ?_
    refine wr_iushrL 0 (nx := 18) (r1 := 0) (r2 := 0) (r3 := 0) rfl (by decide) ?_
    refine wi_ldc_w (e := 858993459) (nx := 21) (r1 := 0) (r2 := 858993459) (r3 := 0) rfl (by decide) ?_
    refine wi_iand (e := 0) (nx := 22) (r1 := 0) (r2 := 0) (r3 := 0) rfl (by decide) ?_
    refine wr_addL (1) (nx := 23) (r1 := 0) (r2 := 0) (r3 := 0) rfl (by decide) ?_
    refine wi_istore_n (i := 0) (e := 1) (lo2 := [(0, vi 1)]) (nx := 24) (r1 := 0) (r2 := 0) (r3 := 0) rfl rfl ?_
    refine wi_iload_n (i := 0) (e := 1) (nx := 25) (r1 := 0) (r2 := 0) (r3 := 0) rfl rfl ?_
    refine wi_iload_n (i := 0) (e := 1) (nx := 26) (r1 := 0) (r2 := 0) (r3 := 0) rfl rfl ?_
    refine wi_iconst (n := 4) (nx := 27) (r1 := 0) (r2 := 0) (r3 := 0) rfl ?_
    refine wr_iushrL 0 (nx := 28) (r1 := 0) (r2 := 0) (r3 := 0) rfl (by decide) ?_
    refine wr_addL (1) (nx := 29) (r1 := 0) (r2 := 0) (r3 := 0) rfl (by decide) ?_
    refine wi_ldc_w (e := 252645135) (nx := 32) (r1 := 0) (r2 := 252645135) (r3 := 0) rfl (by decide) ?_
    refine wi_iand (e := 1) (nx := 33) (r1 := 0) (r2 := 0) (r3 := 0) rfl (by decide) ?_
    refine wi_istore_n (i := 0) (e := 1) (lo2 := [(0, vi 1)]) (nx := 34) (r1 := 0) (r2 := 0) (r3 := 0) rfl rfl ?_
    refine wi_iload_n (i := 0) (e := 1) (nx := 35) (r1 := 0) (r2 := 0) (r3 := 0) rfl rfl ?_
    refine wi_iload_n (i := 0) (e := 1) (nx := 36) (r1 := 0) (r2 := 0) (r3 := 0) rfl rfl ?_
    refine wi_bipush (n := 8) (nx := 38) (r1 := 0) (r2 := 0) (r3 := 0) rfl (by decide) ?_
    refine wr_iushrL 0 (nx := 39) (r1 := 0) (r2 := 0) (r3 := 0) rfl (by decide) ?_
    refine wr_addL (1) (nx := 40) (r1 := 0) (r2 := 0) (r3 := 0) rfl (by decide) ?_
    refine wi_istore_n (i := 0) (e := 1) (lo2 := [(0, vi 1)]) (nx := 41) (r1 := 0) (r2 := 0) (r3 := 0) rfl rfl ?_
    refine wi_iload_n (i := 0) (e := 1) (nx := 42) (r1 := 0) (r2 := 0) (r3 := 0) rfl rfl ?_
    refine wi_iload_n (i := 0) (e := 1) (nx := 43) (r1 := 0) (r2 := 0) (r3 := 0) rfl rfl ?_
    refine wi_bipush (n := 16) (nx := 45) (r1 := 0) (r2 := 0) (r3 := 0) rfl (by decide) ?_
    refine wr_iushrL 0 (nx := 46) (r1 := 0) (r2 := 0) (r3 := 0) rfl (by decide) ?_
    refine wr_addL (1) (nx := 47) (r1 := 0) (r2 := 0) (r3 := 0) rfl (by decide) ?_
    refine wi_istore_n (i := 0) (e := 1) (lo2 := [(0, vi 1)]) (nx := 48) (r1 := 0) (r2 := 0) (r3 := 0) rfl rfl ?_
    refine wi_iload_n (i := 0) (e := 1) (nx := 49) (r1 := 0) (r2 := 0) (r3 := 0) rfl rfl ?_
    refine wi_bipush (n := 63) (nx := 51) (r1 := 0) (r2 := 0) (r3 := 0) rfl (by decide) ?_
    refine wi_iand (e := 1) (nx := 52) (r1 := 0) (r2 := 0) (r3 := 0) rfl (by decide) ?_
    refine wi_ireturn (nx := 53) (r1 := 0) (r2 := 0) (r3 := 0) rfl rfl ?_
    exact k 1 (by omega) (show 0 ≤ 1 ∧ 1 ≤ 11 by omega) (by decide)
  ·
    refine wi_iload_n (i := 0) (e := 3) (nx := 1) (r1 := 0) (r2 := 0) (r3 := 0) rfl rfl ?_
    refine wi_iload_n (i := 0) (e := 3) (nx := 2) (r1 := 0) (r2 := 0) (r3 := 0) rfl rfl ?_
    refine wi_iconst (n := 1) (nx := 3) (r1 := 0) (r2 := 0) (r3 := 0) rfl ?_
    refine wr_iushrL 1 (nx := 4) (r1 := 0) (r2 := 0) (r3 := 0) rfl (by decide) ?_
    refine wi_ldc_w (e := 1431655765) (nx := 7) (r1 := 0) (r2 := 1431655765) (r3 := 0) rfl (by decide) ?_
    refine wi_iand (e := 1) (nx := 8) (r1 := 0) (r2 := 0) (r3 := 0) rfl (by decide) ?_
    refine wr_subL (2) (nx := 9) (r1 := 0) (r2 := 0) (r3 := 0) rfl (by decide) ?_
    refine wi_istore_n (i := 0) (e := 2) (lo2 := [(0, vi 2)]) (nx := 10) (r1 := 0) (r2 := 0) (r3 := 0) rfl rfl ?_
    refine wi_iload_n (i := 0) (e := 2) (nx := 11) (r1 := 0) (r2 := 0) (r3 := 0) rfl rfl ?_
    refine wi_ldc_w (e := 858993459) (nx := 14) (r1 := 0) (r2 := 858993459) (r3 := 0) rfl (by decide) ?_
    refine wi_iand (e := 2) (nx := 15) (r1 := 0) (r2 := 0) (r3 := 0) rfl (by decide) ?_
    refine wi_iload_n (i := 0) (e := 2) (nx := 16) (r1 := 0) (r2 := 0) (r3 := 0) rfl rfl ?_
    refine wi_iconst (n := 2) (nx := 17) (r1 := 0) (r2 := 0) (r3 := 0) rfl ?_
    refine wr_iushrL 0 (nx := 18) (r1 := 0) (r2 := 0) (r3 := 0) rfl (by decide) ?_
    refine wi_ldc_w (e := 858993459) (nx := 21) (r1 := 0) (r2 := 858993459) (r3 := 0) rfl (by decide) ?_
    refine wi_iand (e := 0) (nx := 22) (r1 := 0) (r2 := 0) (r3 := 0) rfl (by decide) ?_
    refine wr_addL (2) (nx := 23) (r1 := 0) (r2 := 0) (r3 := 0) rfl (by decide) ?_
    refine wi_istore_n (i := 0) (e := 2) (lo2 := [(0, vi 2)]) (nx := 24) (r1 := 0) (r2 := 0) (r3 := 0) rfl rfl ?_
    refine wi_iload_n (i := 0) (e := 2) (nx := 25) (r1 := 0) (r2 := 0) (r3 := 0) rfl rfl ?_
    refine wi_iload_n (i := 0) (e := 2) (nx := 26) (r1 := 0) (r2 := 0) (r3 := 0) rfl rfl ?_
    refine wi_iconst (n := 4) (nx := 27) (r1 := 0) (r2 := 0) (r3 := 0) rfl ?_
    refine wr_iushrL 0 (nx := 28) (r1 := 0) (r2 := 0) (r3 := 0) rfl (by decide) ?_
    refine wr_addL (2) (nx := 29) (r1 := 0) (r2 := 0) (r3 := 0) rfl (by decide) ?_
    refine wi_ldc_w (e := 252645135) (nx := 32) (r1 := 0) (r2 := 252645135) (r3 := 0) rfl (by decide) ?_
    refine wi_iand (e := 2) (nx := 33) (r1 := 0) (r2 := 0) (r3 := 0) rfl (by decide) ?_
    refine wi_istore_n (i := 0) (e := 2) (lo2 := [(0, vi 2)]) (nx := 34) (r1 := 0) (r2 := 0) (r3 := 0) rfl rfl ?_
    refine wi_iload_n (i := 0) (e := 2) (nx := 35) (r1 := 0) (r2 := 0) (r3 := 0) rfl rfl ?_
    refine wi_iload_n (i := 0) (e := 2) (nx := 36) (r1 := 0) (r2 := 0) (r3 := 0) rfl rfl ?_
    refine wi_bipush (n := 8) (nx := 38) (r1 := 0) (r2 := 0) (r3 := 0) rfl (by decide) ?_
    refine wr_iushrL 0 (nx := 39) (r1 := 0) (r2 := 0) (r3 := 0) rfl (by decide) ?_
    refine wr_addL (2) (nx := 40) (r1 := 0) (r2 := 0) (r3 := 0) rfl (by decide) ?_
    refine wi_istore_n (i := 0) (e := 2) (lo2 := [(0, vi 2)]) (nx := 41) (r1 := 0) (r2 := 0) (r3 := 0) rfl rfl ?_
    refine wi_iload_n (i := 0) (e := 2) (nx := 42) (r1 := 0) (r2 := 0) (r3 := 0) rfl rfl ?_
    refine wi_iload_n (i := 0) (e := 2) (nx := 43) (r1 := 0) (r2 := 0) (r3 := 0) rfl rfl ?_
    refine wi_bipush (n := 16) (nx := 45) (r1 := 0) (r2 := 0) (r3 := 0) rfl (by decide) ?_
    refine wr_iushrL 0 (nx := 46) (r1 := 0) (r2 := 0) (r3 := 0) rfl (by decide) ?_
    refine wr_addL (2) (nx := 47) (r1 := 0) (r2 := 0) (r3 := 0) rfl (by decide) ?_
    refine wi_istore_n (i := 0) (e := 2) (lo2 := [(0, vi 2)]) (nx := 48) (r1 := 0) (r2 := 0) (r3 := 0) rfl rfl ?_
    refine wi_iload_n (i := 0) (e := 2) (nx := 49) (r1 := 0) (r2 := 0) (r3 := 0) rfl rfl ?_
    refine wi_bipush (n := 63) (nx := 51) (r1 := 0) (r2 := 0) (r3 := 0) rfl (by decide) ?_
    refine wi_iand (e := 2) (nx := 52) (r1 := 0) (r2 := 0) (r3 := 0) rfl (by decide) ?_
    refine wi_ireturn (nx := 53) (r1 := 0) (r2 := 0) (r3 := 0) rfl rfl ?_
    exact k 2 (by omega) (show 0 ≤ 2 ∧ 2 ≤ 11 by omega) (by decide)
  ·
    refine wi_iload_n (i := 0) (e := 7) (nx := 1) (r1 := 0) (r2 := 0) (r3 := 0) rfl rfl ?_
    refine wi_iload_n (i := 0) (e := 7) (nx := 2) (r1 := 0) (r2 := 0) (r3 := 0) rfl rfl ?_
    refine wi_iconst (n := 1) (nx := 3) (r1 := 0) (r2 := 0) (r3 := 0) rfl ?_
    refine wr_iushrL 3 (nx := 4) (r1 := 0) (r2 := 0) (r3 := 0) rfl (by decide) ?_
    refine wi_ldc_w (e := 1431655765) (nx := 7) (r1 := 0) (r2 := 1431655765) (r3 := 0) rfl (by decide) ?_
    refine wi_iand (e := 1) (nx := 8) (r1 := 0) (r2 := 0) (r3 := 0) rfl (by decide) ?_
    refine wr_subL (6) (nx := 9) (r1 := 0) (r2 := 0) (r3 := 0) rfl (by decide) ?_
    refine wi_istore_n (i := 0) (e := 6) (lo2 := [(0, vi 6)]) (nx := 10) (r1 := 0) (r2 := 0) (r3 := 0) rfl rfl ?_
    refine wi_iload_n (i := 0) (e := 6) (nx := 11) (r1 := 0) (r2 := 0) (r3 := 0) rfl rfl ?_
    refine wi_ldc_w (e := 858993459) (nx := 14) (r1 := 0) (r2 := 858993459) (r3 := 0) rfl (by decide) ?_
    refine wi_iand (e := 2) (nx := 15) (r1 := 0) (r2 := 0) (r3 := 0) rfl (by decide) ?_
    refine wi_iload_n (i := 0) (e := 6) (nx := 16) (r1 := 0) (r2 := 0) (r3 := 0) rfl rfl ?_
    refine wi_iconst (n := 2) (nx := 17) (r1 := 0) (r2 := 0) (r3 := 0) rfl ?_
    refine wr_iushrL 1 (nx := 18) (r1 := 0) (r2 := 0) (r3 := 0) rfl (by decide) ?_
    refine wi_ldc_w (e := 858993459) (nx := 21) (r1 := 0) (r2 := 858993459) (r3 := 0) rfl (by decide) ?_
    refine wi_iand (e := 1) (nx := 22) (r1 := 0) (r2 := 0) (r3 := 0) rfl (by decide) ?_
    refine wr_addL (3) (nx := 23) (r1 := 0) (r2 := 0) (r3 := 0) rfl (by decide) ?_
    refine wi_istore_n (i := 0) (e := 3) (lo2 := [(0, vi 3)]) (nx := 24) (r1 := 0) (r2 := 0) (r3 := 0) rfl rfl ?_
    refine wi_iload_n (i := 0) (e := 3) (nx := 25) (r1 := 0) (r2 := 0) (r3 := 0) rfl rfl ?_
    refine wi_iload_n (i := 0) (e := 3) (nx := 26) (r1 := 0) (r2 := 0) (r3 := 0) rfl rfl ?_
    refine wi_iconst (n := 4) (nx := 27) (r1 := 0) (r2 := 0) (r3 := 0) rfl ?_
    refine wr_iushrL 0 (nx := 28) (r1 := 0) (r2 := 0) (r3 := 0) rfl (by decide) ?_
    refine wr_addL (3) (nx := 29) (r1 := 0) (r2 := 0) (r3 := 0) rfl (by decide) ?_
    refine wi_ldc_w (e := 252645135) (nx := 32) (r1 := 0) (r2 := 252645135) (r3 := 0) rfl (by decide) ?_
    refine wi_iand (e := 3) (nx := 33) (r1 := 0) (r2 := 0) (r3 := 0) rfl (by decide) ?_
    refine wi_istore_n (i := 0) (e := 3) (lo2 := [(0, vi 3)]) (nx := 34) (r1 := 0) (r2 := 0) (r3 := 0) rfl rfl ?_
    refine wi_iload_n (i := 0) (e := 3) (nx := 35) (r1 := 0) (r2 := 0) (r3 := 0) rfl rfl ?_
    refine wi_iload_n (i := 0) (e := 3) (nx := 36) (r1 := 0) (r2 := 0) (r3 := 0) rfl rfl ?_
    refine wi_bipush (n := 8) (nx := 38) (r1 := 0) (r2 := 0) (r3 := 0) rfl (by decide) ?_
    refine wr_iushrL 0 (nx := 39) (r1 := 0) (r2 := 0) (r3 := 0) rfl (by decide) ?_
    refine wr_addL (3) (nx := 40) (r1 := 0) (r2 := 0) (r3 := 0) rfl (by decide) ?_
    refine wi_istore_n (i := 0) (e := 3) (lo2 := [(0, vi 3)]) (nx := 41) (r1 := 0) (r2 := 0) (r3 := 0) rfl rfl ?_
    refine wi_iload_n (i := 0) (e := 3) (nx := 42) (r1 := 0) (r2 := 0) (r3 := 0) rfl rfl ?_
    refine wi_iload_n (i := 0) (e := 3) (nx := 43) (r1 := 0) (r2 := 0) (r3 := 0) rfl rfl ?_
    refine wi_bipush (n := 16) (nx := 45) (r1 := 0) (r2 := 0) (r3 := 0) rfl (by decide) ?_
    refine wr_iushrL 0 (nx := 46) (r1 := 0) (r2 := 0) (r3 := 0) rfl (by decide) ?_
    refine wr_addL (3) (nx := 47) (r1 := 0) (r2 := 0) (r3 := 0) rfl (by decide) ?_
    refine wi_istore_n (i := 0) (e := 3) (lo2 := [(0, vi 3)]) (nx := 48) (r1 := 0) (r2 := 0) (r3 := 0) rfl rfl ?_
    refine wi_iload_n (i := 0) (e := 3) (nx := 49) (r1 := 0) (r2 := 0) (r3 := 0) rfl rfl ?_
    refine wi_bipush (n := 63) (nx := 51) (r1 := 0) (r2 := 0) (r3 := 0) rfl (by decide) ?_
    refine wi_iand (e := 3) (nx := 52) (r1 := 0) (r2 := 0) (r3 := 0) rfl (by decide) ?_
    refine wi_ireturn (nx := 53) (r1 := 0) (r2 := 0) (r3 := 0) rfl rfl ?_
    exact k 3 (by omega) (show 0 ≤ 3 ∧ 3 ≤ 11 by omega) (by decide)
  ·
    refine wi_iload_n (i := 0) (e := 15) (nx := 1) (r1 := 0) (r2 := 0) (r3 := 0) rfl rfl ?_
    refine wi_iload_n (i := 0) (e := 15) (nx := 2) (r1 := 0) (r2 := 0) (r3 := 0) rfl rfl ?_
    refine wi_iconst (n := 1) (nx := 3) (r1 := 0) (r2 := 0) (r3 := 0) rfl ?_
    refine wr_iushrL 7 (nx := 4) (r1 := 0) (r2 := 0) (r3 := 0) rfl (by decide) ?_
    refine wi_ldc_w (e := 1431655765) (nx := 7) (r1 := 0) (r2 := 1431655765) (r3 := 0) rfl (by decide) ?_
    refine wi_iand (e := 5) (nx := 8) (r1 := 0) (r2 := 0) (r3 := 0) rfl (by decide) ?_
    refine wr_subL (10) (nx := 9) (r1 := 0) (r2 := 0) (r3 := 0) rfl (by decide) ?_
    refine wi_istore_n (i := 0) (e := 10) (lo2 := [(0, vi 10)]) (nx := 10) (r1 := 0) (r2 := 0) (r3 := 0) rfl rfl ?_
    refine wi_iload_n (i := 0) (e := 10) (nx := 11) (r1 := 0) (r2 := 0) (r3 := 0) rfl rfl ?_
    refine wi_ldc_w (e := 858993459) (nx := 14) (r1 := 0) (r2 := 858993459) (r3 := 0) rfl (by decide) ?_
    refine wi_iand (e := 2) (nx := 15) (r1 := 0) (r2 := 0) (r3 := 0) rfl (by decide) ?_
    refine wi_iload_n (i := 0) (e := 10) (nx := 16) (r1 := 0) (r2 := 0) (r3 := 0) rfl rfl ?_
    refine wi_iconst (n := 2) (nx := 17) (r1 := 0) (r2 := 0) (r3 := 0) rfl ?_
    refine wr_iushrL 2 (nx := 18) (r1 := 0) (r2 := 0) (r3 := 0) rfl (by decide) ?_
    refine wi_ldc_w (e := 858993459) (nx := 21) (r1 := 0) (r2 := 858993459) (r3 := 0) rfl (by decide) ?_
    refine wi_iand (e := 2) (nx := 22) (r1 := 0) (r2 := 0) (r3 := 0) rfl (by decide) ?_
    refine wr_addL (4) (nx := 23) (r1 := 0) (r2 := 0) (r3 := 0) rfl (by decide) ?_
    refine wi_istore_n (i := 0) (e := 4) (lo2 := [(0, vi 4)]) (nx := 24) (r1 := 0) (r2 := 0) (r3 := 0) rfl rfl ?_
    refine wi_iload_n (i := 0) (e := 4) (nx := 25) (r1 := 0) (r2 := 0) (r3 := 0) rfl rfl ?_
    refine wi_iload_n (i := 0) (e := 4) (nx := 26) (r1 := 0) (r2 := 0) (r3 := 0) rfl rfl ?_
    refine wi_iconst (n := 4) (nx := 27) (r1 := 0) (r2 := 0) (r3 := 0) rfl ?_
    refine wr_iushrL 0 (nx := 28) (r1 := 0) (r2 := 0) (r3 := 0) rfl (by decide) ?_
    refine wr_addL (4) (nx := 29) (r1 := 0) (r2 := 0) (r3 := 0) rfl (by decide) ?_
    refine wi_ldc_w (e := 252645135) (nx := 32) (r1 := 0) (r2 := 252645135) (r3 := 0) rfl (by decide) ?_
    refine wi_iand (e := 4) (nx := 33) (r1 := 0) (r2 := 0) (r3 := 0) rfl (by decide) ?_
    refine wi_istore_n (i := 0) (e := 4) (lo2 := [(0, vi 4)]) (nx := 34) (r1 := 0) (r2 := 0) (r3 := 0) rfl rfl ?_
    refine wi_iload_n (i := 0) (e := 4) (nx := 35) (r1 := 0) (r2 := 0) (r3 := 0) rfl rfl ?_
    refine wi_iload_n (i := 0) (e := 4) (nx := 36) (r1 := 0) (r2 := 0) (r3 := 0) rfl rfl ?_
    refine wi_bipush (n := 8) (nx := 38) (r1 := 0) (r2 := 0) (r3 := 0) rfl (by decide) ?_
    refine wr_iushrL 0 (nx := 39) (r1 := 0) (r2 := 0) (r3 := 0) rfl (by decide) ?_
    refine wr_addL (4) (nx := 40) (r1 := 0) (r2 := 0) (r3 := 0) rfl (by decide) ?_
    refine wi_istore_n (i := 0) (e := 4) (lo2 := [(0, vi 4)]) (nx := 41) (r1 := 0) (r2 := 0) (r3 := 0) rfl rfl ?_
    refine wi_iload_n (i := 0) (e := 4) (nx := 42) (r1 := 0) (r2 := 0) (r3 := 0) rfl rfl ?_
    refine wi_iload_n (i := 0) (e := 4) (nx := 43) (r1 := 0) (r2 := 0) (r3 := 0) rfl rfl ?_
    refine wi_bipush (n := 16) (nx := 45) (r1 := 0) (r2 := 0) (r3 := 0) rfl (by decide) ?_
    refine wr_iushrL 0 (nx := 46) (r1 := 0) (r2 := 0) (r3 := 0) rfl (by decide) ?_
    refine wr_addL (4) (nx := 47) (r1 := 0) (r2 := 0) (r3 := 0) rfl (by decide) ?_
    refine wi_istore_n (i := 0) (e := 4) (lo2 := [(0, vi 4)]) (nx := 48) (r1 := 0) (r2 := 0) (r3 := 0) rfl rfl ?_
    refine wi_iload_n (i := 0) (e := 4) (nx := 49) (r1 := 0) (r2 := 0) (r3 := 0) rfl rfl ?_
    refine wi_bipush (n := 63) (nx := 51) (r1 := 0) (r2 := 0) (r3 := 0) rfl (by decide) ?_
    refine wi_iand (e := 4) (nx := 52) (r1 := 0) (r2 := 0) (r3 := 0) rfl (by decide) ?_
    refine wi_ireturn (nx := 53) (r1 := 0) (r2 := 0) (r3 := 0) rfl rfl ?_
    exact k 4 (by omega) (show 0 ≤ 4 ∧ 4 ≤ 11 by omega) (by decide)
  ·
    refine wi_iload_n (i := 0) (e := 31) (nx := 1) (r1 := 0) (r2 := 0) (r3 := 0) rfl rfl ?_
    refine wi_iload_n (i := 0) (e := 31) (nx := 2) (r1 := 0) (r2 := 0) (r3 := 0) rfl rfl ?_
    refine wi_iconst (n := 1) (nx := 3) (r1 := 0) (r2 := 0) (r3 := 0) rfl ?_
    refine wr_iushrL 15 (nx := 4) (r1 := 0) (r2 := 0) (r3 := 0) rfl (by decide) ?_
    refine wi_ldc_w (e := 1431655765) (nx := 7) (r1 := 0) (r2 := 1431655765) (r3 := 0) rfl (by decide) ?_
    refine wi_iand (e := 5) (nx := 8) (r1 := 0) (r2 := 0) (r3 := 0) rfl (by decide) ?_
    refine wr_subL (26) (nx := 9) (r1 := 0) (r2 := 0) (r3 := 0) rfl (by decide) ?_
    refine wi_istore_n (i := 0) (e := 26) (lo2 := [(0, vi 26)]) (nx := 10) (r1 := 0) (r2 := 0) (r3 := 0) rfl rfl ?_
    refine wi_iload_n (i := 0) (e := 26) (nx := 11) (r1 := 0) (r2 := 0) (r3 := 0) rfl rfl ?_
    refine wi_ldc_w (e := 858993459) (nx := 14) (r1 := 0) (r2 := 858993459) (r3 := 0) rfl (by decide) ?_
    refine wi_iand (e := 18) (nx := 15) (r1 := 0) (r2 := 0) (r3 := 0) rfl (by decide) ?_
    refine wi_iload_n (i := 0) (e := 26) (nx := 16) (r1 := 0) (r2 := 0) (r3 := 0) rfl rfl ?_
    refine wi_iconst (n := 2) (nx := 17) (r1 := 0) (r2 := 0) (r3 := 0) rfl ?_
    refine wr_iushrL 6 (nx := 18) (r1 := 0) (r2 := 0) (r3 := 0) rfl (by decide) ?_
    refine wi_ldc_w (e := 858993459) (nx := 21) (r1 := 0) (r2 := 858993459) (r3 := 0) rfl (by decide) ?_
    refine wi_iand (e := 2) (nx := 22) (r1 := 0) (r2 := 0) (r3 := 0) rfl (by decide) ?_
    refine wr_addL (20) (nx := 23) (r1 := 0) (r2 := 0) (r3 := 0) rfl (by decide) ?_
    refine wi_istore_n (i := 0) (e := 20) (lo2 := [(0, vi 20)]) (nx := 24) (r1 := 0) (r2 := 0) (r3 := 0) rfl rfl ?_
    refine wi_iload_n (i := 0) (e := 20) (nx := 25) (r1 := 0) (r2 := 0) (r3 := 0) rfl rfl ?_
    refine wi_iload_n (i := 0) (e := 20) (nx := 26) (r1 := 0) (r2 := 0) (r3 := 0) rfl rfl ?_
    refine wi_iconst (n := 4) (nx := 27) (r1 := 0) (r2 := 0) (r3 := 0) rfl ?_
    refine wr_iushrL 1 (nx := 28) (r1 := 0) (r2 := 0) (r3 := 0) rfl (by decide) ?_
    refine wr_addL (21) (nx := 29) (r1 := 0) (r2 := 0) (r3 := 0) rfl (by decide) ?_
    refine wi_ldc_w (e := 252645135) (nx := 32) (r1 := 0) (r2 := 252645135) (r3 := 0) rfl (by decide) ?_
    refine wi_iand (e := 5) (nx := 33) (r1 := 0) (r2 := 0) (r3 := 0) rfl (by decide) ?_
    refine wi_istore_n (i := 0) (e := 5) (lo2 := [(0, vi 5)]) (nx := 34) (r1 := 0) (r2 := 0) (r3 := 0) rfl rfl ?_
    refine wi_iload_n (i := 0) (e := 5) (nx := 35) (r1 := 0) (r2 := 0) (r3 := 0) rfl rfl ?_
    refine wi_iload_n (i := 0) (e := 5) (nx := 36) (r1 := 0) (r2 := 0) (r3 := 0) rfl rfl ?_
    refine wi_bipush (n := 8) (nx := 38) (r1 := 0) (r2 := 0) (r3 := 0) rfl (by decide) ?_
    refine wr_iushrL 0 (nx := 39) (r1 := 0) (r2 := 0) (r3 := 0) rfl (by decide) ?_
    refine wr_addL (5) (nx := 40) (r1 := 0) (r2 := 0) (r3 := 0) rfl (by decide) ?_
    refine wi_istore_n (i := 0) (e := 5) (lo2 := [(0, vi 5)]) (nx := 41) (r1 := 0) (r2 := 0) (r3 := 0) rfl rfl ?_
    refine wi_iload_n (i := 0) (e := 5) (nx := 42) (r1 := 0) (r2 := 0) (r3 := 0) rfl rfl ?_
    refine wi_iload_n (i := 0) (e := 5) (nx := 43) (r1 := 0) (r2 := 0) (r3 := 0) rfl rfl ?_
    refine wi_bipush (n := 16) (nx := 45) (r1 := 0) (r2 := 0) (r3 := 0) rfl (by decide) ?_
    refine wr_iushrL 0 (nx := 46) (r1 := 0) (r2 := 0) (r3 := 0) rfl (by decide) ?_
    refine wr_addL (5) (nx := 47) (r1 := 0) (r2 := 0) (r3 := 0) rfl (by decide) ?_
    refine wi_istore_n (i := 0) (e := 5) (lo2 := [(0, vi 5)]) (nx := 48) (r1 := 0) (r2 := 0) (r3 := 0) rfl rfl ?_
    refine wi_iload_n (i := 0) (e := 5) (nx := 49) (r1 := 0) (r2 := 0) (r3 := 0) rfl rfl ?_
    refine wi_bipush (n := 63) (nx := 51) (r1 := 0) (r2 := 0) (r3 := 0) rfl (by decide) ?_
    refine wi_iand (e := 5) (nx := 52) (r1 := 0) (r2 := 0) (r3 := 0) rfl (by decide) ?_
    refine wi_ireturn (nx := 53) (r1 := 0) (r2 := 0) (r3 := 0) rfl rfl ?_
    exact k 5 (by omega) (show 0 ≤ 5 ∧ 5 ≤ 11 by omega) (by decide)
  ·
    refine wi_iload_n (i := 0) (e := 63) (nx := 1) (r1 := 0) (r2 := 0) (r3 := 0) rfl rfl ?_
    refine wi_iload_n (i := 0) (e := 63) (nx := 2) (r1 := 0) (r2 := 0) (r3 := 0) rfl rfl ?_
    refine wi_iconst (n := 1) (nx := 3) (r1 := 0) (r2 := 0) (r3 := 0) rfl ?_
    refine wr_iushrL 31 (nx := 4) (r1 := 0) (r2 := 0) (r3 := 0) rfl (by decide) ?_
    refine wi_ldc_w (e := 1431655765) (nx := 7) (r1 := 0) (r2 := 1431655765) (r3 := 0) rfl (by decide) ?_
    refine wi_iand (e := 21) (nx := 8) (r1 := 0) (r2 := 0) (r3 := 0) rfl (by decide) ?_
    refine wr_subL (42) (nx := 9) (r1 := 0) (r2 := 0) (r3 := 0) rfl (by decide) ?_
    refine wi_istore_n (i := 0) (e := 42) (lo2 := [(0, vi 42)]) (nx := 10) (r1 := 0) (r2 := 0) (r3 := 0) rfl rfl ?_
    refine wi_iload_n (i := 0) (e := 42) (nx := 11) (r1 := 0) (r2 := 0) (r3 := 0) rfl rfl ?_
    refine wi_ldc_w (e := 858993459) (nx := 14) (r1 := 0) (r2 := 858993459) (r3 := 0) rfl (by decide) ?_
    refine wi_iand (e := 34) (nx := 15) (r1 := 0) (r2 := 0) (r3 := 0) rfl (by decide) ?_
    refine wi_iload_n (i := 0) (e := 42) (nx := 16) (r1 := 0) (r2 := 0) (r3 := 0) rfl rfl ?_
    refine wi_iconst (n := 2) (nx := 17) (r1 := 0) (r2 := 0) (r3 := 0) rfl ?_
    refine wr_iushrL 10 (nx := 18) (r1 := 0) (r2 := 0) (r3 := 0) rfl (by decide) ?_
    refine wi_ldc_w (e := 858993459) (nx := 21) (r1 := 0) (r2 := 858993459) (r3 := 0) rfl (by decide) ?_
    refine wi_iand (e := 2) (nx := 22) (r1 := 0) (r2 := 0) (r3 := 0) rfl (by decide) ?_
    refine wr_addL (36) (nx := 23) (r1 := 0) (r2 := 0) (r3 := 0) rfl (by decide) ?_
    refine wi_istore_n (i := 0) (e := 36) (lo2 := [(0, vi 36)]) (nx := 24) (r1 := 0) (r2 := 0) (r3 := 0) rfl rfl ?_
    refine wi_iload_n (i := 0) (e := 36) (nx := 25) (r1 := 0) (r2 := 0) (r3 := 0) rfl rfl ?_
    refine wi_iload_n (i := 0) (e := 36) (nx := 26) (r1 := 0) (r2 := 0) (r3 := 0) rfl rfl ?_
    refine wi_iconst (n := 4) (nx := 27) (r1 := 0) (r2 := 0) (r3 := 0) rfl ?_
    refine wr_iushrL 2 (nx := 28) (r1 := 0) (r2 := 0) (r3 := 0) rfl (by decide) ?_
    refine wr_addL (38) (nx := 29) (r1 := 0) (r2 := 0) (r3 := 0) rfl (by decide) ?_
    refine wi_ldc_w (e := 252645135) (nx := 32) (r1 := 0) (r2 := 252645135) (r3 := 0) rfl (by decide) ?_
    refine wi_iand (e := 6) (nx := 33) (r1 := 0) (r2 := 0) (r3 := 0) rfl (by decide) ?_
    refine wi_istore_n (i := 0) (e := 6) (lo2 := [(0, vi 6)]) (nx := 34) (r1 := 0) (r2 := 0) (r3 := 0) rfl rfl ?_
    refine wi_iload_n (i := 0) (e := 6) (nx := 35) (r1 := 0) (r2 := 0) (r3 := 0) rfl rfl ?_
    refine wi_iload_n (i := 0) (e := 6) (nx := 36) (r1 := 0) (r2 := 0) (r3 := 0) rfl rfl ?_
    refine wi_bipush (n := 8) (nx := 38) (r1 := 0) (r2 := 0) (r3 := 0) rfl (by decide) ?_
    refine wr_iushrL 0 (nx := 39) (r1 := 0) (r2 := 0) (r3 := 0) rfl (by decide) ?_
    refine wr_addL (6) (nx := 40) (r1 := 0) (r2 := 0) (r3 := 0) rfl (by decide) ?_
    refine wi_istore_n (i := 0) (e := 6) (lo2 := [(0, vi 6)]) (nx := 41) (r1 := 0) (r2 := 0) (r3 := 0) rfl rfl ?_
    refine wi_iload_n (i := 0) (e := 6) (nx := 42) (r1 := 0) (r2 := 0) (r3 := 0) rfl rfl ?_
    refine wi_iload_n (i := 0) (e := 6) (nx := 43) (r1 := 0) (r2 := 0) (r3 := 0) rfl rfl ?_
    refine wi_bipush (n := 16) (nx := 45) (r1 := 0) (r2 := 0) (r3 := 0) rfl (by decide) ?_
    refine wr_iushrL 0 (nx := 46) (r1 := 0) (r2 := 0) (r3 := 0) rfl (by decide) ?_
    refine wr_addL (6) (nx := 47) (r1 := 0) (r2 := 0) (r3 := 0) rfl (by decide) ?_
    refine wi_istore_n (i := 0) (e := 6) (lo2 := [(0, vi 6)]) (nx := 48) (r1 := 0) (r2 := 0) (r3 := 0) rfl rfl ?_
    refine wi_iload_n (i := 0) (e := 6) (nx := 49) (r1 := 0) (r2 := 0) (r3 := 0) rfl rfl ?_
    refine wi_bipush (n := 63) (nx := 51) (r1 := 0) (r2 := 0) (r3 := 0) rfl (by decide) ?_
    refine wi_iand (e := 6) (nx := 52) (r1 := 0) (r2 := 0) (r3 := 0) rfl (by decide) ?_
    refine wi_ireturn (nx := 53) (r1 := 0) (r2 := 0) (r3 := 0) rfl rfl ?_
    exact k 6 (by omega) (show 0 ≤ 6 ∧ 6 ≤ 11 by omega) (by decide)
  ·
    refine wi_iload_n (i := 0) (e := 127) (nx := 1) (r1 := 0) (r2 := 0) (r3 := 0) rfl rfl ?_
    refine wi_iload_n (i := 0) (e := 127) (nx := 2) (r1 := 0) (r2 := 0) (r3 := 0) rfl rfl ?_
    refine wi_iconst (n := 1) (nx := 3) (r1 := 0) (r2 := 0) (r3 := 0) rfl ?_
    refine wr_iushrL 63 (nx := 4) (r1 := 0) (r2 := 0) (r3 := 0) rfl (by decide) ?_
    refine wi_ldc_w (e := 1431655765) (nx := 7) (r1 := 0) (r2 := 1431655765) (r3 := 0) rfl (by decide) ?_
    refine wi_iand (e := 21) (nx := 8) (r1 := 0) (r2 := 0) (r3 := 0) rfl (by decide) ?_
    refine wr_subL (106) (nx := 9) (r1 := 0) (r2 := 0) (r3 := 0) rfl (by decide) ?_
    refine wi_istore_n (i := 0) (e := 106) (lo2 := [(0, vi 106)]) (nx := 10) (r1 := 0) (r2 := 0) (r3 := 0) rfl rfl ?_
    refine wi_iload_n (i := 0) (e := 106) (nx := 11) (r1 := 0) (r2 := 0) (r3 := 0) rfl rfl ?_
    refine wi_ldc_w (e := 858993459) (nx := 14) (r1 := 0) (r2 := 858993459) (r3 := 0) rfl (by decide) ?_
    refine wi_iand (e := 34) (nx := 15) (r1 := 0) (r2 := 0) (r3 := 0) rfl (by decide) ?_
    refine wi_iload_n (i := 0) (e := 106) (nx := 16) (r1 := 0) (r2 := 0) (r3 := 0) rfl rfl ?_
    refine wi_iconst (n := 2) (nx := 17) (r1 := 0) (r2 := 0) (r3 := 0) rfl ?_
    refine wr_iushrL 26 (nx := 18) (r1 := 0) (r2 := 0) (r3 := 0) rfl (by decide) ?_
    refine wi_ldc_w (e := 858993459) (nx := 21) (r1 := 0) (r2 := 858993459) (r3 := 0) rfl (by decide) ?_
    refine wi_iand (e := 18) (nx := 22) (r1 := 0) (r2 := 0) (r3 := 0) rfl (by decide) ?_
    refine wr_addL (52) (nx := 23) (r1 := 0) (r2 := 0) (r3 := 0) rfl (by decide) ?_
    refine wi_istore_n (i := 0) (e := 52) (lo2 := [(0, vi 52)]) (nx := 24) (r1 := 0) (r2 := 0) (r3 := 0) rfl rfl ?_
    refine wi_iload_n (i := 0) (e := 52) (nx := 25) (r1 := 0) (r2 := 0) (r3 := 0) rfl rfl ?_
    refine wi_iload_n (i := 0) (e := 52) (nx := 26) (r1 := 0) (r2 := 0) (r3 := 0) rfl rfl ?_
    refine wi_iconst (n := 4) (nx := 27) (r1 := 0) (r2 := 0) (r3 := 0) rfl ?_
    refine wr_iushrL 3 (nx := 28) (r1 := 0) (r2 := 0) (r3 := 0) rfl (by decide) ?_
    refine wr_addL (55) (nx := 29) (r1 := 0) (r2 := 0) (r3 := 0) rfl (by decide) ?_
    refine wi_ldc_w (e := 252645135) (nx := 32) (r1 := 0) (r2 := 252645135) (r3 := 0) rfl (by decide) ?_
    refine wi_iand (e := 7) (nx := 33) (r1 := 0) (r2 := 0) (r3 := 0) rfl (by decide) ?_
    refine wi_istore_n (i := 0) (e := 7) (lo2 := [(0, vi 7)]) (nx := 34) (r1 := 0) (r2 := 0) (r3 := 0) rfl rfl ?_
    refine wi_iload_n (i := 0) (e := 7) (nx := 35) (r1 := 0) (r2 := 0) (r3 := 0) rfl rfl ?_
    refine wi_iload_n (i := 0) (e := 7) (nx := 36) (r1 := 0) (r2 := 0) (r3 := 0) rfl rfl ?_
    refine wi_bipush (n := 8) (nx := 38) (r1 := 0) (r2 := 0) (r3 := 0) rfl (by decide) ?_
    refine wr_iushrL 0 (nx := 39) (r1 := 0) (r2 := 0) (r3 := 0) rfl (by decide) ?_
    refine wr_addL (7) (nx := 40) (r1 := 0) (r2 := 0) (r3 := 0) rfl (by decide) ?_
    refine wi_istore_n (i := 0) (e := 7) (lo2 := [(0, vi 7)]) (nx := 41) (r1 := 0) (r2 := 0) (r3 := 0) rfl rfl ?_
    refine wi_iload_n (i := 0) (e := 7) (nx := 42) (r1 := 0) (r2 := 0) (r3 := 0) rfl rfl ?_
    refine wi_iload_n (i := 0) (e := 7) (nx := 43) (r1 := 0) (r2 := 0) (r3 := 0) rfl rfl ?_
    refine wi_bipush (n := 16) (nx := 45) (r1 := 0) (r2 := 0) (r3 := 0) rfl (by decide) ?_
    refine wr_iushrL 0 (nx := 46) (r1 := 0) (r2 := 0) (r3 := 0) rfl (by decide) ?_
    refine wr_addL (7) (nx := 47) (r1 := 0) (r2 := 0) (r3 := 0) rfl (by decide) ?_
    refine wi_istore_n (i := 0) (e := 7) (lo2 := [(0, vi 7)]) (nx := 48) (r1 := 0) (r2 := 0) (r3 := 0) rfl rfl ?_
    refine wi_iload_n (i := 0) (e := 7) (nx := 49) (r1 := 0) (r2 := 0) (r3 := 0) rfl rfl ?_
    refine wi_bipush (n := 63) (nx := 51) (r1 := 0) (r2 := 0) (r3 := 0) rfl (by decide) ?_
    refine wi_iand (e := 7) (nx := 52) (r1 := 0) (r2 := 0) (r3 := 0) rfl (by decide) ?_
    refine wi_ireturn (nx := 53) (r1 := 0) (r2 := 0) (r3 := 0) rfl rfl ?_
    exact k 7 (by omega) (show 0 ≤ 7 ∧ 7 ≤ 11 by omega) (by decide)
  ·
    refine wi_iload_n (i := 0) (e := 255) (nx := 1) (r1 := 0) (r2 := 0) (r3 := 0) rfl rfl ?_
    refine wi_iload_n (i := 0) (e := 255) (nx := 2) (r1 := 0) (r2 := 0) (r3 := 0) rfl rfl ?_
    refine wi_iconst (n := 1) (nx := 3) (r1 := 0) (r2 := 0) (r3 := 0) rfl ?_
    refine wr_iushrL 127 (nx := 4) (r1 := 0) (r2 := 0) (r3 := 0) rfl (by decide) ?_
    refine wi_ldc_w (e := 1431655765) (nx := 7) (r1 := 0) (r2 := 1431655765) (r3 := 0) rfl (by decide) ?_
    refine wi_iand (e := 85) (nx := 8) (r1 := 0) (r2 := 0) (r3 := 0) rfl (by decide) ?_
    refine wr_subL (170) (nx := 9) (r1 := 0) (r2 := 0) (r3 := 0) rfl (by decide) ?_
    refine wi_istore_n (i := 0) (e := 170) (lo2 := [(0, vi 170)]) (nx := 10) (r1 := 0) (r2 := 0) (r3 := 0) rfl rfl ?_
    refine wi_iload_n (i := 0) (e := 170) (nx := 11) (r1 := 0) (r2 := 0) (r3 := 0) rfl rfl ?_
    refine wi_ldc_w (e := 858993459) (nx := 14) (r1 := 0) (r2 := 858993459) (r3 := 0) rfl (by decide) ?_
    refine wi_iand (e := 34) (nx := 15) (r1 := 0) (r2 := 0) (r3 := 0) rfl (by decide) ?_
    refine wi_iload_n (i := 0) (e := 170) (nx := 16) (r1 := 0) (r2 := 0) (r3 := 0) rfl rfl ?_
    refine wi_iconst (n := 2) (nx := 17) (r1 := 0) (r2 := 0) (r3 := 0) rfl ?_
    refine wr_iushrL 42 (nx := 18) (r1 := 0) (r2 := 0) (r3 := 0) rfl (by decide) ?_
    refine wi_ldc_w (e := 858993459) (nx := 21) (r1 := 0) (r2 := 858993459) (r3 := 0) rfl (by decide) ?_
    refine wi_iand (e := 34) (nx := 22) (r1 := 0) (r2 := 0) (r3 := 0) rfl (by decide) ?_
    refine wr_addL (68) (nx := 23) (r1 := 0) (r2 := 0) (r3 := 0) rfl (by decide) ?_
    refine wi_istore_n (i := 0) (e := 68) (lo2 := [(0, vi 68)]) (nx := 24) (r1 := 0) (r2 := 0) (r3 := 0) rfl rfl ?_
    refine wi_iload_n (i := 0) (e := 68) (nx := 25) (r1 := 0) (r2 := 0) (r3 := 0) rfl rfl ?_
    refine wi_iload_n (i := 0) (e := 68) (nx := 26) (r1 := 0) (r2 := 0) (r3 := 0) rfl rfl ?_
    refine wi_iconst (n := 4) (nx := 27) (r1 := 0) (r2 := 0) (r3 := 0) rfl ?_
    refine wr_iushrL 4 (nx := 28) (r1 := 0) (r2 := 0) (r3 := 0) rfl (by decide) ?_
    refine wr_addL (72) (nx := 29) (r1 := 0) (r2 := 0) (r3 := 0) rfl (by decide) ?_
    refine wi_ldc_w (e := 252645135) (nx := 32) (r1 := 0) (r2 := 252645135) (r3 := 0) rfl (by decide) ?_
    refine wi_iand (e := 8) (nx := 33) (r1 := 0) (r2 := 0) (r3 := 0) rfl (by decide) ?_
    refine wi_istore_n (i := 0) (e := 8) (lo2 := [(0, vi 8)]) (nx := 34) (r1 := 0) (r2 := 0) (r3 := 0) rfl rfl ?_
    refine wi_iload_n (i := 0) (e := 8) (nx := 35) (r1 := 0) (r2 := 0) (r3 := 0) rfl rfl ?_
    refine wi_iload_n (i := 0) (e := 8) (nx := 36) (r1 := 0) (r2 := 0) (r3 := 0) rfl rfl ?_
    refine wi_bipush (n := 8) (nx := 38) (r1 := 0) (r2 := 0) (r3 := 0) rfl (by decide) ?_
    refine wr_iushrL 0 (nx := 39) (r1 := 0) (r2 := 0) (r3 := 0) rfl (by decide) ?_
    refine wr_addL (8) (nx := 40) (r1 := 0) (r2 := 0) (r3 := 0) rfl (by decide) ?_
    refine wi_istore_n (i := 0) (e := 8) (lo2 := [(0, vi 8)]) (nx := 41) (r1 := 0) (r2 := 0) (r3 := 0) rfl rfl ?_
    refine wi_iload_n (i := 0) (e := 8) (nx := 42) (r1 := 0) (r2 := 0) (r3 := 0) rfl rfl ?_
    refine wi_iload_n (i := 0) (e := 8) (nx := 43) (r1 := 0) (r2 := 0) (r3 := 0) rfl rfl ?_
    refine wi_bipush (n := 16) (nx := 45) (r1 := 0) (r2 := 0) (r3 := 0) rfl (by decide) ?_
    refine wr_iushrL 0 (nx := 46) (r1 := 0) (r2 := 0) (r3 := 0) rfl (by decide) ?_
    refine wr_addL (8) (nx := 47) (r1 := 0) (r2 := 0) (r3 := 0) rfl (by decide) ?_
    refine wi_istore_n (i := 0) (e := 8) (lo2 := [(0, vi 8)]) (nx := 48) (r1 := 0) (r2 := 0) (r3 := 0) rfl rfl ?_
    refine wi_iload_n (i := 0) (e := 8) (nx := 49) (r1 := 0) (r2 := 0) (r3 := 0) rfl rfl ?_
    refine wi_bipush (n := 63) (nx := 51) (r1 := 0) (r2 := 0) (r3 := 0) rfl (by decide) ?_
    refine wi_iand (e := 8) (nx := 52) (r1 := 0) (r2 := 0) (r3 := 0) rfl (by decide) ?_
    refine wi_ireturn (nx := 53) (r1 := 0) (r2 := 0) (r3 := 0) rfl rfl ?_
    exact k 8 (by omega) (show 0 ≤ 8 ∧ 8 ≤ 11 by omega) (by decide)
  ·
    refine wi_iload_n (i := 0) (e := 511) (nx := 1) (r1 := 0) (r2 := 0) (r3 := 0) rfl rfl ?_
    refine wi_iload_n (i := 0) (e := 511) (nx := 2) (r1 := 0) (r2 := 0) (r3 := 0) rfl rfl ?_
    refine wi_iconst (n := 1) (nx := 3) (r1 := 0) (r2 := 0) (r3 := 0) rfl ?_
    refine wr_iushrL 255 (nx := 4) (r1 := 0) (r2 := 0) (r3 := 0) rfl (by decide) ?_
    refine wi_ldc_w (e := 1431655765) (nx := 7) (r1 := 0) (r2 := 1431655765) (r3 := 0) rfl (by decide) ?_
    refine wi_iand (e := 85) (nx := 8) (r1 := 0) (r2 := 0) (r3 := 0) rfl (by decide) ?_
    refine wr_subL (426) (nx := 9) (r1 := 0) (r2 := 0) (r3 := 0) rfl (by decide) ?_
    refine wi_istore_n (i := 0) (e := 426) (lo2 := [(0, vi 426)]) (nx := 10) (r1 := 0) (r2 := 0) (r3 := 0) rfl rfl ?_
    refine wi_iload_n (i := 0) (e := 426) (nx := 11) (r1 := 0) (r2 := 0) (r3 := 0) rfl rfl ?_
    refine wi_ldc_w (e := 858993459) (nx := 14) (r1 := 0) (r2 := 858993459) (r3 := 0) rfl (by decide) ?_
    refine wi_iand (e := 290) (nx := 15) (r1 := 0) (r2 := 0) (r3 := 0) rfl (by decide) ?_
    refine wi_iload_n (i := 0) (e := 426) (nx := 16) (r1 := 0) (r2 := 0) (r3 := 0) rfl rfl ?_
    refine wi_iconst (n := 2) (nx := 17) (r1 := 0) (r2 := 0) (r3 := 0) rfl ?_
    refine wr_iushrL 106 (nx := 18) (r1 := 0) (r2 := 0) (r3 := 0) rfl (by decide) ?_
    refine wi_ldc_w (e := 858993459) (nx := 21) (r1 := 0) (r2 := 858993459) (r3 := 0) rfl (by decide) ?_
    refine wi_iand (e := 34) (nx := 22) (r1 := 0) (r2 := 0) (r3 := 0) rfl (by decide) ?_
    refine wr_addL (324) (nx := 23) (r1 := 0) (r2 := 0) (r3 := 0) rfl (by decide) ?_
    refine wi_istore_n (i := 0) (e := 324) (lo2 := [(0, vi 324)]) (nx := 24) (r1 := 0) (r2 := 0) (r3 := 0) rfl rfl ?_
    refine wi_iload_n (i := 0) (e := 324) (nx := 25) (r1 := 0) (r2 := 0) (r3 := 0) rfl rfl ?_
    refine wi_iload_n (i := 0) (e := 324) (nx := 26) (r1 := 0) (r2 := 0) (r3 := 0) rfl rfl ?_
    refine wi_iconst (n := 4) (nx := 27) (r1 := 0) (r2 := 0) (r3 := 0) rfl ?_
    refine wr_iushrL 20 (nx := 28) (r1 := 0) (r2 := 0) (r3 := 0) rfl (by decide) ?_
    refine wr_addL (344) (nx := 29) (r1 := 0) (r2 := 0) (r3 := 0) rfl (by decide) ?_
    refine wi_ldc_w (e := 252645135) (nx := 32) (r1 := 0) (r2 := 252645135) (r3 := 0) rfl (by decide) ?_
    refine wi_iand (e := 264) (nx := 33) (r1 := 0) (r2 := 0) (r3 := 0) rfl (by decide) ?_
    refine wi_istore_n (i := 0) (e := 264) (lo2 := [(0, vi 264)]) (nx := 34) (r1 := 0) (r2 := 0) (r3 := 0) rfl rfl ?_
    refine wi_iload_n (i := 0) (e := 264) (nx := 35) (r1 := 0) (r2 := 0) (r3 := 0) rfl rfl ?_
    refine wi_iload_n (i := 0) (e := 264) (nx := 36) (r1 := 0) (r2 := 0) (r3 := 0) rfl rfl ?_
    refine wi_bipush (n := 8) (nx := 38) (r1 := 0) (r2 := 0) (r3 := 0) rfl (by decide) ?_
    refine wr_iushrL 1 (nx := 39) (r1 := 0) (r2 := 0) (r3 := 0) rfl (by decide) ?_
    refine wr_addL (265) (nx := 40) (r1 := 0) (r2 := 0) (r3 := 0) rfl (by decide) ?_
    refine wi_istore_n (i := 0) (e := 265) (lo2 := [(0, vi 265)]) (nx := 41) (r1 := 0) (r2 := 0) (r3 := 0) rfl rfl ?_
    refine wi_iload_n (i := 0) (e := 265) (nx := 42) (r1 := 0) (r2 := 0) (r3 := 0) rfl rfl ?_
    refine wi_iload_n (i := 0) (e := 265) (nx := 43) (r1 := 0) (r2 := 0) (r3 := 0) rfl rfl ?_
    refine wi_bipush (n := 16) (nx := 45) (r1 := 0) (r2 := 0) (r3 := 0) rfl (by decide) ?_
    refine wr_iushrL 0 (nx := 46) (r1 := 0) (r2 := 0) (r3 := 0) rfl (by decide) ?_
    refine wr_addL (265) (nx := 47) (r1 := 0) (r2 := 0) (r3 := 0) rfl (by decide) ?_
    refine wi_istore_n (i := 0) (e := 265) (lo2 := [(0, vi 265)]) (nx := 48) (r1 := 0) (r2 := 0) (r3 := 0) rfl rfl ?_
    refine wi_iload_n (i := 0) (e := 265) (nx := 49) (r1 := 0) (r2 := 0) (r3 := 0) rfl rfl ?_
    refine wi_bipush (n := 63) (nx := 51) (r1 := 0) (r2 := 0) (r3 := 0) rfl (by decide) ?_
    refine wi_iand (e := 9) (nx := 52) (r1 := 0) (r2 := 0) (r3 := 0) rfl (by decide) ?_
    refine wi_ireturn (nx := 53) (r1 := 0) (r2 := 0) (r3 := 0) rfl rfl ?_
    exact k 9 (by omega) (show 0 ≤ 9 ∧ 9 ≤ 11 by omega) (by decide)
  ·
    refine wi_iload_n (i := 0) (e := 1023) (nx := 1) (r1 := 0) (r2 := 0) (r3 := 0) rfl rfl ?_
    refine wi_iload_n (i := 0) (e := 1023) (nx := 2) (r1 := 0) (r2 := 0) (r3 := 0) rfl rfl ?_
    refine wi_iconst (n := 1) (nx := 3) (r1 := 0) (r2 := 0) (r3 := 0) rfl ?_
    refine wr_iushrL 511 (nx := 4) (r1 := 0) (r2 := 0) (r3 := 0) rfl (by decide) ?_
    refine wi_ldc_w (e := 1431655765) (nx := 7) (r1 := 0) (r2 := 1431655765) (r3 := 0) rfl (by decide) ?_
    refine wi_iand (e := 341) (nx := 8) (r1 := 0) (r2 := 0) (r3 := 0) rfl (by decide) ?_
    refine wr_subL (682) (nx := 9) (r1 := 0) (r2 := 0) (r3 := 0) rfl (by decide) ?_
    refine wi_istore_n (i := 0) (e := 682) (lo2 := [(0, vi 682)]) (nx := 10) (r1 := 0) (r2 := 0) (r3 := 0) rfl rfl ?_
    refine wi_iload_n (i := 0) (e := 682) (nx := 11) (r1 := 0) (r2 := 0) (r3 := 0) rfl rfl ?_
    refine wi_ldc_w (e := 858993459) (nx := 14) (r1 := 0) (r2 := 858993459) (r3 := 0) rfl (by decide) ?_
    refine wi_iand (e := 546) (nx := 15) (r1 := 0) (r2 := 0) (r3 := 0) rfl (by decide) ?_
    refine wi_iload_n (i := 0) (e := 682) (nx := 16) (r1 := 0) (r2 := 0) (r3 := 0) rfl rfl ?_
    refine wi_iconst (n := 2) (nx := 17) (r1 := 0) (r2 := 0) (r3 := 0) rfl ?_
    refine wr_iushrL 170 (nx := 18) (r1 := 0) (r2 := 0) (r3 := 0) rfl (by decide) ?_
    refine wi_ldc_w (e := 858993459) (nx := 21) (r1 := 0) (r2 := 858993459) (r3 := 0) rfl (by decide) ?_
    refine wi_iand (e := 34) (nx := 22) (r1 := 0) (r2 := 0) (r3 := 0) rfl (by decide) ?_
    refine wr_addL (580) (nx := 23) (r1 := 0) (r2 := 0) (r3 := 0) rfl (by decide) ?_
    refine wi_istore_n (i := 0) (e := 580) (lo2 := [(0, vi 580)]) (nx := 24) (r1 := 0) (r2 := 0) (r3 := 0) rfl rfl ?_
    refine wi_iload_n (i := 0) (e := 580) (nx := 25) (r1 := 0) (r2 := 0) (r3 := 0) rfl rfl ?_
    refine wi_iload_n (i := 0) (e := 580) (nx := 26) (r1 := 0) (r2 := 0) (r3 := 0) rfl rfl ?_
    refine wi_iconst (n := 4) (nx := 27) (r1 := 0) (r2 := 0) (r3 := 0) rfl ?_
    refine wr_iushrL 36 (nx := 28) (r1 := 0) (r2 := 0) (r3 := 0) rfl (by decide) ?_
    refine wr_addL (616) (nx := 29) (r1 := 0) (r2 := 0) (r3 := 0) rfl (by decide) ?_
    refine wi_ldc_w (e := 252645135) (nx := 32) (r1 := 0) (r2 := 252645135) (r3 := 0) rfl (by decide) ?_
    refine wi_iand (e := 520) (nx := 33) (r1 := 0) (r2 := 0) (r3 := 0) rfl (by decide) ?_
    refine wi_istore_n (i := 0) (e := 520) (lo2 := [(0, vi 520)]) (nx := 34) (r1 := 0) (r2 := 0) (r3 := 0) rfl rfl ?_
    refine wi_iload_n (i := 0) (e := 520) (nx := 35) (r1 := 0) (r2 := 0) (r3 := 0) rfl rfl ?_
    refine wi_iload_n (i := 0) (e := 520) (nx := 36) (r1 := 0) (r2 := 0) (r3 := 0) rfl rfl ?_
    refine wi_bipush (n := 8) (nx := 38) (r1 := 0) (r2 := 0) (r3 := 0) rfl (by decide) ?_
    refine wr_iushrL 2 (nx := 39) (r1 := 0) (r2 := 0) (r3 := 0) rfl (by decide) ?_
    refine wr_addL (522) (nx := 40) (r1 := 0) (r2 := 0) (r3 := 0) rfl (by decide) ?_
    refine wi_istore_n (i := 0) (e := 522) (lo2 := [(0, vi 522)]) (nx := 41) (r1 := 0) (r2 := 0) (r3 := 0) rfl rfl ?_
    refine wi_iload_n (i := 0) (e := 522) (nx := 42) (r1 := 0) (r2 := 0) (r3 := 0) rfl rfl ?_
    refine wi_iload_n (i := 0) (e := 522) (nx := 43) (r1 := 0) (r2 := 0) (r3 := 0) rfl rfl ?_
    refine wi_bipush (n := 16) (nx := 45) (r1 := 0) (r2 := 0) (r3 := 0) rfl (by decide) ?_
    refine wr_iushrL 0 (nx := 46) (r1 := 0) (r2 := 0) (r3 := 0) rfl (by decide) ?_
    refine wr_addL (522) (nx := 47) (r1 := 0) (r2 := 0) (r3 := 0) rfl (by decide) ?_
    refine wi_istore_n (i := 0) (e := 522) (lo2 := [(0, vi 522)]) (nx := 48) (r1 := 0) (r2 := 0) (r3 := 0) rfl rfl ?_
    refine wi_iload_n (i := 0) (e := 522) (nx := 49) (r1 := 0) (r2 := 0) (r3 := 0) rfl rfl ?_
    refine wi_bipush (n := 63) (nx := 51) (r1 := 0) (r2 := 0) (r3 := 0) rfl (by decide) ?_
    refine wi_iand (e := 10) (nx := 52) (r1 := 0) (r2 := 0) (r3 := 0) rfl (by decide) ?_
    refine wi_ireturn (nx := 53) (r1 := 0) (r2 := 0) (r3 := 0) rfl rfl ?_
    exact k 10 (by omega) (show 0 ≤ 10 ∧ 10 ≤ 11 by omega) (by decide)
  ·
    refine wi_iload_n (i := 0) (e := 2047) (nx := 1) (r1 := 0) (r2 := 0) (r3 := 0) rfl rfl ?_
    refine wi_iload_n (i := 0) (e := 2047) (nx := 2) (r1 := 0) (r2 := 0) (r3 := 0) rfl rfl ?_
    refine wi_iconst (n := 1) (nx := 3) (r1 := 0) (r2 := 0) (r3 := 0) rfl ?_
    refine wr_iushrL 1023 (nx := 4) (r1 := 0) (r2 := 0) (r3 := 0) rfl (by decide) ?_
    refine wi_ldc_w (e := 1431655765) (nx := 7) (r1 := 0) (r2 := 1431655765) (r3 := 0) rfl (by decide) ?_
    refine wi_iand (e := 341) (nx := 8) (r1 := 0) (r2 := 0) (r3 := 0) rfl (by decide) ?_
    refine wr_subL (1706) (nx := 9) (r1 := 0) (r2 := 0) (r3 := 0) rfl (by decide) ?_
    refine wi_istore_n (i := 0) (e := 1706) (lo2 := [(0, vi 1706)]) (nx := 10) (r1 := 0) (r2 := 0) (r3 := 0) rfl rfl ?_
    refine wi_iload_n (i := 0) (e := 1706) (nx := 11) (r1 := 0) (r2 := 0) (r3 := 0) rfl rfl ?_
    refine wi_ldc_w (e := 858993459) (nx := 14) (r1 := 0) (r2 := 858993459) (r3 := 0) rfl (by decide) ?_
    refine wi_iand (e := 546) (nx := 15) (r1 := 0) (r2 := 0) (r3 := 0) rfl (by decide) ?_
    refine wi_iload_n (i := 0) (e := 1706) (nx := 16) (r1 := 0) (r2 := 0) (r3 := 0) rfl rfl ?_
    refine wi_iconst (n := 2) (nx := 17) (r1 := 0) (r2 := 0) (r3 := 0) rfl ?_
    refine wr_iushrL 426 (nx := 18) (r1 := 0) (r2 := 0) (r3 := 0) rfl (by decide) ?_
    refine wi_ldc_w (e := 858993459) (nx := 21) (r1 := 0) (r2 := 858993459) (r3 := 0) rfl (by decide) ?_
    refine wi_iand (e := 290) (nx := 22) (r1 := 0) (r2 := 0) (r3 := 0) rfl (by decide) ?_
    refine wr_addL (836) (nx := 23) (r1 := 0) (r2 := 0) (r3 := 0) rfl (by decide) ?_
    refine wi_istore_n (i := 0) (e := 836) (lo2 := [(0, vi 836)]) (nx := 24) (r1 := 0) (r2 := 0) (r3 := 0) rfl rfl ?_
    refine wi_iload_n (i := 0) (e := 836) (nx := 25) (r1 := 0) (r2 := 0) (r3 := 0) rfl rfl ?_
    refine wi_iload_n (i := 0) (e := 836) (nx := 26) (r1 := 0) (r2 := 0) (r3 := 0) rfl rfl ?_
    refine wi_iconst (n := 4) (nx := 27) (r1 := 0) (r2 := 0) (r3 := 0) rfl ?_
    refine wr_iushrL 52 (nx := 28) (r1 := 0) (r2 := 0) (r3 := 0) rfl (by decide) ?_
    refine wr_addL (888) (nx := 29) (r1 := 0) (r2 := 0) (r3 := 0) rfl (by decide) ?_
    refine wi_ldc_w (e := 252645135) (nx := 32) (r1 := 0) (r2 := 252645135) (r3 := 0) rfl (by decide) ?_
    refine wi_iand (e := 776) (nx := 33) (r1 := 0) (r2 := 0) (r3 := 0) rfl (by decide) ?_
    refine wi_istore_n (i := 0) (e := 776) (lo2 := [(0, vi 776)]) (nx := 34) (r1 := 0) (r2 := 0) (r3 := 0) rfl rfl ?_
    refine wi_iload_n (i := 0) (e := 776) (nx := 35) (r1 := 0) (r2 := 0) (r3 := 0) rfl rfl ?_
    refine wi_iload_n (i := 0) (e := 776) (nx := 36) (r1 := 0) (r2 := 0) (r3 := 0) rfl rfl ?_
    refine wi_bipush (n := 8) (nx := 38) (r1 := 0) (r2 := 0) (r3 := 0) rfl (by decide) ?_
    refine wr_iushrL 3 (nx := 39) (r1 := 0) (r2 := 0) (r3 := 0) rfl (by decide) ?_
    refine wr_addL (779) (nx := 40) (r1 := 0) (r2 := 0) (r3 := 0) rfl (by decide) ?_
    refine wi_istore_n (i := 0) (e := 779) (lo2 := [(0, vi 779)]) (nx := 41) (r1 := 0) (r2 := 0) (r3 := 0) rfl rfl ?_
    refine wi_iload_n (i := 0) (e := 779) (nx := 42) (r1 := 0) (r2 := 0) (r3 := 0) rfl rfl ?_
    refine wi_iload_n (i := 0) (e := 779) (nx := 43) (r1 := 0) (r2 := 0) (r3 := 0) rfl rfl ?_
    refine wi_bipush (n := 16) (nx := 45) (r1 := 0) (r2 := 0) (r3 := 0) rfl (by decide) ?_
    refine wr_iushrL 0 (nx := 46) (r1 := 0) (r2 := 0) (r3 := 0) rfl (by decide) ?_
    refine wr_addL (779) (nx := 47) (r1 := 0) (r2 := 0) (r3 := 0) rfl (by decide) ?_
    refine wi_istore_n (i := 0) (e := 779) (lo2 := [(0, vi 779)]) (nx := 48) (r1 := 0) (r2 := 0) (r3 := 0) rfl rfl ?_
    refine wi_iload_n (i := 0) (e := 779) (nx := 49) (r1 := 0) (r2 := 0) (r3 := 0) rfl rfl ?_
    refine wi_bipush (n := 63) (nx := 51) (r1 := 0) (r2 := 0) (r3 := 0) rfl (by decide) ?_
    refine wi_iand (e := 11) (nx := 52) (r1 := 0) (r2 := 0) (r3 := 0) rfl (by decide) ?_
    refine wi_ireturn (nx := 53) (r1 := 0) (r2 := 0) (r3 := 0) rfl rfl ?_
    exact k 11 (by omega) (show 0 ≤ 11 ∧ 11 ≤ 11 by omega) (by decide)
-- method 175: Exchange.firstJob(III)I
set_option maxRecDepth 100000 in
set_option maxHeartbeats 100000000 in
theorem ct_175_63 {L : Nat} {xs : Nat → Int32} {d b c : Nat} {h : hp} {cr : Nat → Nat → Option Nat} {Q : hp_Q} (hcr : CR cr)  (g : GI h) (a0 : Int) (a1 : Int) (a2 : Int) (q0_ : -1 ≤ a0 ∧ a0 ≤ 4) (q1_ : 0 ≤ a1 ∧ a1 ≤ 11) (q2_ : 0 ≤ a2 ∧ a2 ≤ 4095) (pp0 : a1 < h 63 4) (pp1 : h 63 4 ≤ 12) (xq0 : XJp (xC h) (xB h) (xK h) (h 65)) (k : ∀ (z0 : Int), (-1 ≤ z0 ∧ z0 ≤ 11) → (-1 ≤ z0 ∧ z0 ≤ 11) → (0 ≤ a0 ∨ z0 = -1) → (0 ≤ a0 → z0 = xj (xC h) (xB h) (xK h) (h 3 9) a1.toNat a0 a2.toNat) → Q (.inl (some (vi z0))) (hp_w h cr) b c) : wp (md_xa (L, xs)) (d + 1) 175 (0, [(0, .ref 63), (1, vi a0), (2, vi a1), (3, vi a2)], [], hp_w h cr, b, c) Q := by
  have F0 : FR [] h h := FR.refl
  have b1 := gi_b (lo := -12) (hi := 12) g 63 4 rfl
  refine wi_iload_n (i := 1) (e := a0) (nx := 1) (r1 := 0) (r2 := 0) (r3 := 0) rfl rfl ?_
  refine wi_if (cd := .lt) (nx := 4) (r1 := 19) (r2 := 0) (r3 := 0) rfl (by omega) (fun (q2 : a0 < 0) => ?_) (fun (q2 : ¬ (a0 < 0)) => ?_)
  ·
    refine wi_iconst (n := (-1)) (nx := 20) (r1 := 0) (r2 := 0) (r3 := 0) rfl ?_
    refine wi_ireturn (nx := 21) (r1 := 0) (r2 := 0) (r3 := 0) rfl rfl ?_
    exact k (-1) (by omega) (show -1 ≤ (-1) ∧ (-1) ≤ 11 by omega) (show 0 ≤ a0 ∨ (-1) = -1 by omega) (fun e0 => by exfalso; omega)
  ·
    refine wi_iload_n (i := 1) (e := a0) (nx := 5) (r1 := 0) (r2 := 0) (r3 := 0) rfl rfl ?_
    refine wi_iconst (n := 5) (nx := 6) (r1 := 0) (r2 := 0) (r3 := 0) rfl ?_
    refine wi_icmp (cd := .ge) (nx := 9) (r1 := 19) (r2 := 0) (r3 := 0) rfl (by omega) (by omega) (fun (q3 : 5 ≤ a0) => by exfalso; omega) (fun (q3 : ¬ (5 ≤ a0)) => ?_)
    refine wi_iload_n (i := 2) (e := a1) (nx := 10) (r1 := 0) (r2 := 0) (r3 := 0) rfl rfl ?_
    refine wi_if (cd := .lt) (nx := 13) (r1 := 19) (r2 := 0) (r3 := 0) rfl (by omega) (fun (q4 : a1 < 0) => by exfalso; omega) (fun (q4 : ¬ (a1 < 0)) => ?_)
    refine wi_iload_n (i := 2) (e := a1) (nx := 14) (r1 := 0) (r2 := 0) (r3 := 0) rfl rfl ?_
    refine wi_bipush (n := 12) (nx := 16) (r1 := 0) (r2 := 0) (r3 := 0) rfl (by decide) ?_
    refine wi_icmp (cd := .lt) (nx := 19) (r1 := 21) (r2 := 0) (r3 := 0) rfl (by omega) (by omega) (fun (q5 : a1 < 12) => ?_) (fun (q5 : ¬ (a1 < 12)) => by exfalso; omega)
    refine wi_aload_n (i := 0) (x := 63) (nx := 22) (r1 := 0) (r2 := 0) (r3 := 0) rfl rfl ?_
    refine wr_gr (k0 := 63) (x := 65) (nx := 25) (r1 := 7) (r2 := 3) (r3 := 0) rfl rfl (by decide) rfl ⟨rfl, rfl⟩ rfl ?_
    refine wi_iload_n (i := 2) (e := a1) (nx := 26) (r1 := 0) (r2 := 0) (r3 := 0) rfl rfl ?_
    refine wi_iconst (n := 5) (nx := 27) (r1 := 0) (r2 := 0) (r3 := 0) rfl ?_
    refine wr_mul (nx := 28) (r1 := 0) (r2 := 0) (r3 := 0) rfl (fun e6 (fe6 : e6 = a1 * 5) => ?_)
    refine wi_iload_n (i := 1) (e := a0) (nx := 29) (r1 := 0) (r2 := 0) (r3 := 0) rfl rfl ?_
    refine wr_add (nx := 30) (r1 := 0) (r2 := 0) (r3 := 0) rfl (fun e7 (fe7 : e7 = e6 + a0) => ?_)
    obtain ⟨i8, ei8⟩ : ∃ q : Nat, e7 = (q : Int) := ⟨(e7).toNat, by omega⟩
    have b9 := gi_b (lo := -2147483648) (hi := 2147483647) g 65 i8 rfl
    refine wr_ia (k0 := 65) (a := e7) (f := i8) (x := h 65 i8) (nx := 31) (r1 := 0) (r2 := 0) (r3 := 0) rfl (by decide) rfl (by omega) (by omega) (by decide) rfl ?_
    refine wi_iload_n (i := 3) (e := a2) (nx := 32) (r1 := 0) (r2 := 0) (r3 := 0) rfl rfl ?_
    refine wi_iconst (n := (-1)) (nx := 33) (r1 := 0) (r2 := 0) (r3 := 0) rfl ?_
    refine wr_ixorM (nx := 34) (r1 := 0) (r2 := 0) (r3 := 0) rfl (by omega) (fun e10 (fe10 : e10 = -1 - a2) => ?_)
    have jx := xq0 (a1).toNat (by unfold xK; omega) (a0).toNat (by omega)
    rw [show 5 * (a1).toNat + (a0).toNat = i8 by omega, show (((a0).toNat : Nat) : Int) = a0 by omega] at jx
    have jk : xK h ≤ 12 := by unfold xK; omega
    have jl := Nat.lt_of_lt_of_le (@xk_lt (xsu (xC h) (xB h) (a1).toNat a0) (xK h)) (Nat.pow_le_pow_right (by decide) jk)
    have jb : 0 ≤ h 65 i8 ∧ h 65 i8 < 4096 := by rw [jx]; have h12 : 2 ^ 12 = 4096 := (by decide); omega
    refine wr_iandC a2 (by omega) (nx := 35) (r1 := 0) (r2 := 0) (r3 := 0) rfl (by omega) (by omega) (fun e11 (fe11 : 0 ≤ e11 ∧ e11 ≤ (h 65 i8)) ve11 => ?_)
    have fx : (e11).toNat = xk (xb (xC h) (xB h) (a1).toNat a0 (a2).toNat) (xK h) := xj_free jk (x := (h 65 i8).toNat) (by omega) (by omega) ve11
    refine wi_istore (i := 4) (e := e11) (lo2 := [(4, vi e11), (0, .ref 63), (1, vi a0), (2, vi a1), (3, vi a2)]) (nx := 37) (r1 := 0) (r2 := 0) (r3 := 0) rfl rfl ?_
    refine wi_iload (i := 4) (e := e11) (nx := 39) (r1 := 0) (r2 := 0) (r3 := 0) rfl rfl ?_
    refine wi_if (cd := .ne) (nx := 42) (r1 := 44) (r2 := 0) (r3 := 0) rfl (by omega) (fun (q12 : e11 ≠ 0) => ?_) (fun (q12 : ¬ (e11 ≠ 0)) => ?_)
    ·
      refine wi_iload (i := 4) (e := e11) (nx := 46) (r1 := 0) (r2 := 0) (r3 := 0) rfl rfl ?_
      refine wi_iload (i := 4) (e := e11) (nx := 48) (r1 := 0) (r2 := 0) (r3 := 0) rfl rfl ?_
      refine wr_negV (nx := 49) (r1 := 0) (r2 := 0) (r3 := 0) rfl (by omega) (fun e13 (fe13 : e13 = -e11) => ?_)
      refine wr_iandZ (x := e11) (y := e13) (by omega) (nx := 50) (r1 := 0) (r2 := 0) (r3 := 0) rfl (by omega) (fun e14 (fe14 : 1 ≤ e14 ∧ e14 ≤ 2048) ve14 => ?_)
      have zl := xz_ok (n := (e11).toNat) (by omega) (by omega)
      have zp := xz_lits zl.1 ve14
      refine wi_iconst (n := 1) (nx := 51) (r1 := 0) (r2 := 0) (r3 := 0) rfl ?_
      refine wr_sub (nx := 52) (r1 := 0) (r2 := 0) (r3 := 0) rfl (fun e15 (fe15 : e15 = e14 - 1) => ?_)
      refine wi_S (rest := []) (as := [vi e15]) (nx := 55) (r1 := 357) (r2 := 17) (r3 := 0) rfl rfl rfl (of_decide_eq_true rfl) rfl rfl (of_decide_eq_true rfl) (of_decide_eq_true rfl) ?_
      refine ct_357 hcr  g e15 (by omega) (show e15 = 0 ∨ e15 = 1 ∨ e15 = 3 ∨ e15 = 7 ∨ e15 = 15 ∨ e15 = 31 ∨ e15 = 63 ∨ e15 = 127 ∨ e15 = 255 ∨ e15 = 511 ∨ e15 = 1023 ∨ e15 = 2047 by omega) (fun z17  (fz17 : 0 ≤ z17 ∧ z17 ≤ 11) (p16_0 : 0 ≤ z17 ∧ z17 ≤ 11) y16_0 => ?_)
      refine wk_i ?_
      have zz : (z17).toNat = xz (e11).toNat := xz_inj (by omega) zl.1 (by rw [y16_0]; omega)
      clear zp
      refine wi_istore (i := 5) (e := z17) (lo2 := [(5, vi z17), (4, vi e11), (0, .ref 63), (1, vi a0), (2, vi a1), (3, vi a2)]) (nx := 57) (r1 := 0) (r2 := 0) (r3 := 0) rfl rfl ?_
      refine wi_iload (i := 5) (e := z17) (nx := 59) (r1 := 0) (r2 := 0) (r3 := 0) rfl rfl ?_
      refine wi_iload_n (i := 2) (e := a1) (nx := 60) (r1 := 0) (r2 := 0) (r3 := 0) rfl rfl ?_
      refine wr_sub (nx := 61) (r1 := 0) (r2 := 0) (r3 := 0) rfl (fun e18 (fe18 : e18 = z17 - a1) => ?_)
      refine wi_S (rest := []) (as := [vi e18]) (nx := 64) (r1 := 355) (r2 := 17) (r3 := 0) rfl rfl rfl (of_decide_eq_true rfl) rfl rfl (of_decide_eq_true rfl) (of_decide_eq_true rfl) ?_
      refine wi_iload_n (i := 0) (e := e18) (nx := 1) (r1 := 0) (r2 := 0) (r3 := 0) rfl rfl ?_
      refine wi_if (cd := .ge) (nx := 4) (r1 := 9) (r2 := 0) (r3 := 0) rfl (by omega) (fun (q19 : 0 ≤ e18) => ?_) (fun (q19 : ¬ (0 ≤ e18)) => ?_)
      ·
        refine wi_iload_n (i := 0) (e := e18) (nx := 10) (r1 := 0) (r2 := 0) (r3 := 0) rfl rfl ?_
        refine wi_ireturn (nx := 11) (r1 := 0) (r2 := 0) (r3 := 0) rfl rfl ?_
        refine wk_i ?_
        refine wi_aload_n (i := 0) (x := 63) (nx := 65) (r1 := 0) (r2 := 0) (r3 := 0) rfl rfl ?_
        refine wr_gr (k0 := 63) (x := 3) (nx := 68) (r1 := 7) (r2 := 0) (r3 := 0) rfl rfl (by decide) rfl ⟨rfl, rfl⟩ rfl ?_
        have b20 := gi_b (lo := -2147483648) (hi := 2147483647) g 3 9 rfl
        refine wr_gi0 (k0 := 3) (x := h 3 9) (nx := 71) (r1 := 2) (r2 := 9) (r3 := 0) rfl rfl (by decide) rfl ⟨rfl, rfl⟩ rfl rfl ?_
        refine wi_icmp (cd := .gt) (nx := 74) (r1 := 79) (r2 := 0) (r3 := 0) rfl (by omega) (by omega) (fun (q21 : (h 3 9) < e18) => ?_) (fun (q21 : ¬ ((h 3 9) < e18)) => ?_)
        ·
          refine wi_iconst (n := (-1)) (nx := 80) (r1 := 0) (r2 := 0) (r3 := 0) rfl ?_
          refine wi_ireturn (nx := 81) (r1 := 0) (r2 := 0) (r3 := 0) rfl rfl ?_
          exact k (-1) (by omega) (show -1 ≤ (-1) ∧ (-1) ≤ 11 by omega) (show 0 ≤ a0 ∨ (-1) = -1 by omega) (fun _ => (xj_far (by rw [← fx]; omega) (z := (z17).toNat) (by rw [zz, fx]) (by omega)).symm)
        ·
          refine wi_iload (i := 5) (e := z17) (nx := 76) (r1 := 0) (r2 := 0) (r3 := 0) rfl rfl ?_
          refine wi_goto (nx := 79) (r1 := 80) (r2 := 0) (r3 := 0) rfl ?_
          refine wi_ireturn (nx := 81) (r1 := 0) (r2 := 0) (r3 := 0) rfl rfl ?_
          exact k z17 (by omega) (show -1 ≤ z17 ∧ z17 ≤ 11 by omega) (show 0 ≤ a0 ∨ z17 = -1 by omega) (fun _ => by rw [xj_some (by rw [← fx]; omega) (z := (z17).toNat) (by rw [zz, fx]) (by omega) (by omega)]; omega)
      ·
        refine wi_iload_n (i := 0) (e := e18) (nx := 5) (r1 := 0) (r2 := 0) (r3 := 0) rfl rfl ?_
        refine wr_negV (nx := 6) (r1 := 0) (r2 := 0) (r3 := 0) rfl (by omega) (fun e20 (fe20 : e20 = -e18) => ?_)
        refine wi_goto (nx := 9) (r1 := 10) (r2 := 0) (r3 := 0) rfl ?_
        refine wi_ireturn (nx := 11) (r1 := 0) (r2 := 0) (r3 := 0) rfl rfl ?_
        refine wk_i ?_
        refine wi_aload_n (i := 0) (x := 63) (nx := 65) (r1 := 0) (r2 := 0) (r3 := 0) rfl rfl ?_
        refine wr_gr (k0 := 63) (x := 3) (nx := 68) (r1 := 7) (r2 := 0) (r3 := 0) rfl rfl (by decide) rfl ⟨rfl, rfl⟩ rfl ?_
        have b21 := gi_b (lo := -2147483648) (hi := 2147483647) g 3 9 rfl
        refine wr_gi0 (k0 := 3) (x := h 3 9) (nx := 71) (r1 := 2) (r2 := 9) (r3 := 0) rfl rfl (by decide) rfl ⟨rfl, rfl⟩ rfl rfl ?_
        refine wi_icmp (cd := .gt) (nx := 74) (r1 := 79) (r2 := 0) (r3 := 0) rfl (by omega) (by omega) (fun (q22 : (h 3 9) < e20) => ?_) (fun (q22 : ¬ ((h 3 9) < e20)) => ?_)
        ·
          refine wi_iconst (n := (-1)) (nx := 80) (r1 := 0) (r2 := 0) (r3 := 0) rfl ?_
          refine wi_ireturn (nx := 81) (r1 := 0) (r2 := 0) (r3 := 0) rfl rfl ?_
          exact k (-1) (by omega) (show -1 ≤ (-1) ∧ (-1) ≤ 11 by omega) (show 0 ≤ a0 ∨ (-1) = -1 by omega) (fun _ => (xj_far (by rw [← fx]; omega) (z := (z17).toNat) (by rw [zz, fx]) (by omega)).symm)
        ·
          refine wi_iload (i := 5) (e := z17) (nx := 76) (r1 := 0) (r2 := 0) (r3 := 0) rfl rfl ?_
          refine wi_goto (nx := 79) (r1 := 80) (r2 := 0) (r3 := 0) rfl ?_
          refine wi_ireturn (nx := 81) (r1 := 0) (r2 := 0) (r3 := 0) rfl rfl ?_
          exact k z17 (by omega) (show -1 ≤ z17 ∧ z17 ≤ 11 by omega) (show 0 ≤ a0 ∨ z17 = -1 by omega) (fun _ => by rw [xj_some (by rw [← fx]; omega) (z := (z17).toNat) (by rw [zz, fx]) (by omega) (by omega)]; omega)
    ·
      refine wi_iconst (n := (-1)) (nx := 43) (r1 := 0) (r2 := 0) (r3 := 0) rfl ?_
      refine wi_ireturn (nx := 44) (r1 := 0) (r2 := 0) (r3 := 0) rfl rfl ?_
      exact k (-1) (by omega) (show -1 ≤ (-1) ∧ (-1) ≤ 11 by omega) (show 0 ≤ a0 ∨ (-1) = -1 by omega) (fun _ => (xj_none (by rw [← fx]; omega)).symm)
-- method 176: Exchange.fewestOf(II)I
set_option maxRecDepth 100000 in
set_option maxHeartbeats 100000000 in
theorem ct_176 {L : Nat} {xs : Nat → Int32} {d b c : Nat} {h : hp} {cr : Nat → Nat → Option Nat} {Q : hp_Q} (hcr : CR cr)  (g : GI h) (a0 : Int) (a1 : Int) (q0_ : 0 ≤ a0 ∧ a0 ≤ 1048575) (q1_ : 0 ≤ a1 ∧ a1 ≤ 4)  (k : ∀ (z0 : Int), (0 ≤ z0 ∧ z0 ≤ 15) → (0 ≤ z0 ∧ z0 ≤ 15) → (z0 = ((a0.toNat / 16 ^ a1.toNat % 16 : Nat) : Int)) → Q (.inl (some (vi z0))) (hp_w h cr) b c) : wp (md_xa (L, xs)) d 176 (0, [(0, vi a0), (1, vi a1)], [], hp_w h cr, b, c) Q := by
  have F0 : FR [] h h := FR.refl
  refine wi_iload_n (i := 0) (e := a0) (nx := 1) (r1 := 0) (r2 := 0) (r3 := 0) rfl rfl ?_
  refine wi_iload_n (i := 1) (e := a1) (nx := 2) (r1 := 0) (r2 := 0) (r3 := 0) rfl rfl ?_
  refine wi_iconst (n := 4) (nx := 3) (r1 := 0) (r2 := 0) (r3 := 0) rfl ?_
  refine wr_mul (nx := 4) (r1 := 0) (r2 := 0) (r3 := 0) rfl (fun e1 (fe1 : e1 = a1 * 4) => ?_)
  refine wr_ishrN (x := a0) (y := e1) (nx := 5) (r1 := 0) (r2 := 0) (r3 := 0) rfl (by omega) (by omega) (fun e2 (fe2 : 0 ≤ e2 ∧ e2 ≤ a0) ve2 => ?_)
  refine wi_bipush (n := 15) (nx := 7) (r1 := 0) (r2 := 0) (r3 := 0) rfl (by decide) ?_
  refine wr_iandN (x := e2) (y := 15) (nx := 8) (r1 := 0) (r2 := 0) (r3 := 0) rfl (by omega) (by omega) (fun e3 (fe3 : 0 ≤ e3 ∧ e3 ≤ e2 ∧ e3 ≤ 15) ve3 => ?_)
  have be3 : e3 = (((a0).toNat / 16 ^ (a1).toNat % 16 : Nat) : Int) := by rw [ve3, show (15 : Int).toNat = 2 ^ 4 - 1 from rfl, Nat.and_two_pow_sub_one_eq_mod, ve2, show (e1).toNat = (a1).toNat * 4 by omega, ← bt_16]; rfl
  refine wi_ireturn (nx := 9) (r1 := 0) (r2 := 0) (r3 := 0) rfl rfl ?_
  exact k e3 (by omega) (show 0 ≤ e3 ∧ e3 ≤ 15 by omega) be3
-- method 177: Exchange.fewestOfAll(I)I
set_option maxRecDepth 100000 in
set_option maxHeartbeats 100000000 in
theorem ct_177 {L : Nat} {xs : Nat → Int32} {d b c : Nat} {h : hp} {cr : Nat → Nat → Option Nat} {Q : hp_Q} (hcr : CR cr)  (g : GI h) (a0 : Int) (q0_ : 0 ≤ a0 ∧ a0 ≤ 1048575)  (k : ∀ (z0 : Int), (0 ≤ z0 ∧ z0 ≤ 15) → (0 ≤ z0 ∧ z0 ≤ 15) → (z0 = ((xm (fun c => a0.toNat / 16 ^ c % 16) : Nat) : Int)) → Q (.inl (some (vi z0))) (hp_w h cr) b c) : wp (md_xa (L, xs)) (d + 1) 177 (0, [(0, vi a0)], [], hp_w h cr, b, c) Q := by
  have F0 : FR [] h h := FR.refl
  refine wi_bipush (n := 15) (nx := 2) (r1 := 0) (r2 := 0) (r3 := 0) rfl (by decide) ?_
  refine wi_istore_n (i := 1) (e := 15) (lo2 := [(1, vi 15), (0, vi a0)]) (nx := 3) (r1 := 0) (r2 := 0) (r3 := 0) rfl rfl ?_
  refine wi_iconst (n := 0) (nx := 4) (r1 := 0) (r2 := 0) (r3 := 0) rfl ?_
  refine wi_istore_n (i := 2) (e := 0) (lo2 := [(2, vi 0), (1, vi 15), (0, vi a0)]) (nx := 5) (r1 := 0) (r2 := 0) (r3 := 0) rfl rfl ?_
  refine wp.lo (lo := [(0, vi a0), (1, vi 15), (2, vi 0)]) ⟨rfl, rfl, rfl, trivial⟩ rfl ?_
  refine wl_2 (fun x1 x2 h3 => h = h3 ∧ ((0 ≤ x1 ∧ x1 ≤ 15) ∧ (0 ≤ x2 ∧ x2 ≤ 5)) ∧ (x1 = ((xmq (fun c => a0.toNat / 16 ^ c % 16) (x2).toNat : Nat) : Int))) (fun x1 x2 h3 => ((5 : Int) + 1 - x2).toNat) (fun x1 x2 h3 => (5, [(0, vi a0), (1, vi x1), (2, vi x2)], [], hp_w h3 cr, b, c)) ?_ 15 0 h ⟨rfl, (show (0 ≤ 15 ∧ 15 ≤ 15) ∧ (0 ≤ 0 ∧ 0 ≤ 5) by omega), rfl⟩
  intro x1 x2 h3 ⟨e3, f3, X3_0⟩ I3
  subst e3
  refine wi_iload_n (i := 2) (e := x2) (nx := 6) (r1 := 0) (r2 := 0) (r3 := 0) rfl rfl ?_
  refine wi_iconst (n := 5) (nx := 7) (r1 := 0) (r2 := 0) (r3 := 0) rfl ?_
  refine wi_icmp (cd := .ge) (nx := 10) (r1 := 29) (r2 := 0) (r3 := 0) rfl (by omega) (by omega) (fun (q5 : 5 ≤ x2) => ?_) (fun (q5 : ¬ (5 ≤ x2)) => ?_)
  ·
    refine wi_iload_n (i := 1) (e := x1) (nx := 30) (r1 := 0) (r2 := 0) (r3 := 0) rfl rfl ?_
    refine wi_ireturn (nx := 31) (r1 := 0) (r2 := 0) (r3 := 0) rfl rfl ?_
    exact k x1 (by omega) (show 0 ≤ x1 ∧ x1 ≤ 15 by omega) (by have xh1 := X3_0; rw [show (x2).toNat = 5 by omega] at xh1; exact xh1)
  ·
    refine wi_iload_n (i := 1) (e := x1) (nx := 11) (r1 := 0) (r2 := 0) (r3 := 0) rfl rfl ?_
    refine wi_iload_n (i := 0) (e := a0) (nx := 12) (r1 := 0) (r2 := 0) (r3 := 0) rfl rfl ?_
    refine wi_iload_n (i := 2) (e := x2) (nx := 13) (r1 := 0) (r2 := 0) (r3 := 0) rfl rfl ?_
    refine wi_iconst (n := 4) (nx := 14) (r1 := 0) (r2 := 0) (r3 := 0) rfl ?_
    refine wr_mul (nx := 15) (r1 := 0) (r2 := 0) (r3 := 0) rfl (fun e6 (fe6 : e6 = x2 * 4) => ?_)
    refine wr_ishrN (x := a0) (y := e6) (nx := 16) (r1 := 0) (r2 := 0) (r3 := 0) rfl (by omega) (by omega) (fun e7 (fe7 : 0 ≤ e7 ∧ e7 ≤ a0) ve7 => ?_)
    refine wi_bipush (n := 15) (nx := 18) (r1 := 0) (r2 := 0) (r3 := 0) rfl (by decide) ?_
    refine wr_iandN (x := e7) (y := 15) (nx := 19) (r1 := 0) (r2 := 0) (r3 := 0) rfl (by omega) (by omega) (fun e8 (fe8 : 0 ≤ e8 ∧ e8 ≤ e7 ∧ e8 ≤ 15) ve8 => ?_)
    have be8 : e8 = (((a0).toNat / 16 ^ (x2).toNat % 16 : Nat) : Int) := by rw [ve8, show (15 : Int).toNat = 2 ^ 4 - 1 from rfl, Nat.and_two_pow_sub_one_eq_mod, ve7, show (e6).toNat = (x2).toNat * 4 by omega, ← bt_16]; rfl
    refine wi_S (rest := []) (as := [vi x1, vi e8]) (nx := 22) (r1 := 354) (r2 := 18) (r3 := 0) rfl rfl rfl (of_decide_eq_true rfl) rfl rfl (of_decide_eq_true rfl) (of_decide_eq_true rfl) ?_
    refine wi_iload_n (i := 0) (e := x1) (nx := 1) (r1 := 0) (r2 := 0) (r3 := 0) rfl rfl ?_
    refine wi_iload_n (i := 1) (e := e8) (nx := 2) (r1 := 0) (r2 := 0) (r3 := 0) rfl rfl ?_
    refine wi_icmp (cd := .gt) (nx := 5) (r1 := 9) (r2 := 0) (r3 := 0) rfl (by omega) (by omega) (fun (q9 : e8 < x1) => ?_) (fun (q9 : ¬ (e8 < x1)) => ?_)
    ·
      refine wi_iload_n (i := 1) (e := e8) (nx := 10) (r1 := 0) (r2 := 0) (r3 := 0) rfl rfl ?_
      refine wi_ireturn (nx := 11) (r1 := 0) (r2 := 0) (r3 := 0) rfl rfl ?_
      refine wk_i ?_
      refine wi_istore_n (i := 1) (e := e8) (lo2 := [(1, vi e8), (0, vi a0), (2, vi x2)]) (nx := 23) (r1 := 0) (r2 := 0) (r3 := 0) rfl rfl ?_
      refine wr_iinc (i := 2) (n := 1) (v := x2) (fun e10 => [(2, vi e10), (1, vi e8), (0, vi a0)]) (nx := 26) (r1 := 0) (r2 := 0) (r3 := 0) rfl rfl (fun _ => rfl) (fun e10 (fe10 : e10 = x2 + 1) => ?_)
      refine wi_goto (nx := 29) (r1 := 5) (r2 := 0) (r3 := 0) rfl ?_
      refine wp.lo (lo := [(0, vi a0), (1, vi e8), (2, vi e10)]) ⟨rfl, rfl, rfl, trivial⟩ rfl ?_
      exact I3 e8 e10 h ⟨rfl, (show (0 ≤ e8 ∧ e8 ≤ 15) ∧ (0 ≤ e10 ∧ e10 ≤ 5) by omega), (by
          have xh1 := X3_0
          rw [show (e10).toNat = (x2).toNat + 1 by omega]
          show e8 = ((min (xmq (fun c => a0.toNat / 16 ^ c % 16) (x2).toNat) (a0.toNat / 16 ^ (x2).toNat % 16) : Nat) : Int)
          omega)⟩ (show ((5 : Int) + 1 - e10).toNat < ((5 : Int) + 1 - x2).toNat by omega)
    ·
      refine wi_iload_n (i := 0) (e := x1) (nx := 6) (r1 := 0) (r2 := 0) (r3 := 0) rfl rfl ?_
      refine wi_goto (nx := 9) (r1 := 10) (r2 := 0) (r3 := 0) rfl ?_
      refine wi_ireturn (nx := 11) (r1 := 0) (r2 := 0) (r3 := 0) rfl rfl ?_
      refine wk_i ?_
      refine wi_istore_n (i := 1) (e := x1) (lo2 := [(1, vi x1), (0, vi a0), (2, vi x2)]) (nx := 23) (r1 := 0) (r2 := 0) (r3 := 0) rfl rfl ?_
      refine wr_iinc (i := 2) (n := 1) (v := x2) (fun e10 => [(2, vi e10), (1, vi x1), (0, vi a0)]) (nx := 26) (r1 := 0) (r2 := 0) (r3 := 0) rfl rfl (fun _ => rfl) (fun e10 (fe10 : e10 = x2 + 1) => ?_)
      refine wi_goto (nx := 29) (r1 := 5) (r2 := 0) (r3 := 0) rfl ?_
      refine wp.lo (lo := [(0, vi a0), (1, vi x1), (2, vi e10)]) ⟨rfl, rfl, rfl, trivial⟩ rfl ?_
      exact I3 x1 e10 h ⟨rfl, (show (0 ≤ x1 ∧ x1 ≤ 15) ∧ (0 ≤ e10 ∧ e10 ≤ 5) by omega), (by
          have xh1 := X3_0
          rw [show (e10).toNat = (x2).toNat + 1 by omega]
          show x1 = ((min (xmq (fun c => a0.toNat / 16 ^ c % 16) (x2).toNat) (a0.toNat / 16 ^ (x2).toNat % 16) : Nat) : Int)
          omega)⟩ (show ((5 : Int) + 1 - e10).toNat < ((5 : Int) + 1 - x2).toNat by omega)
-- method 174: Exchange.waysFrom(II)I
set_option maxRecDepth 100000 in
set_option maxHeartbeats 100000000 in
theorem cr_174_63 {L : Nat} {xs : Nat → Int32} {b c : Nat} {cr : Nat → Nat → Option Nat} (hcr : CR cr) (n : Nat) : ∀ {d : Nat} {h : hp} {Q : hp_Q} (g : GI h) (a0 : Int) (a1 : Int) (q0_ : 0 ≤ a0 ∧ a0 ≤ 12) (q1_ : 0 ≤ a1 ∧ a1 ≤ 4095) (pp0 : h 63 4 ≤ 12) (pp1 : a0 = 0 ∨ a0 ≤ h 63 4) (xq0 : XG h) (xq1 : pc (a1).toNat = (a0).toNat ∧ (a1).toNat < 2 ^ xK h) (hn : 12 - a0 ≤ n) (k : ∀ (h2 : hp) (z0 : Int) , GI h2 → FR [(64, 64, none)] h h2 → (-2147483648 ≤ z0 ∧ z0 ≤ 2147483647) → (z0 = ((xp (xW h (a1).toNat) 5 : Nat) : Int)) → (XG h2) → Q (.inl (some (vi z0))) (hp_w h2 cr) b c), wp (md_xa (L, xs)) (d + 1 * n + 5) 174 (0, [(0, .ref 63), (1, vi a0), (2, vi a1)], [], hp_w h cr, b, c) Q := by
  induction n using Nat.strongRecOn with
  | _ n IH =>
  intro d h Q g a0 a1 q0_ q1_ pp0 pp1 xq0 xq1 hn k
  have F0 : FR [(64, 64, none)] h h := FR.refl
  have b1 := gi_b (lo := -12) (hi := 12) g 63 4 rfl
  refine wi_iload_n (i := 1) (e := a0) (nx := 1) (r1 := 0) (r2 := 0) (r3 := 0) rfl rfl ?_
  refine wi_aload_n (i := 0) (x := 63) (nx := 2) (r1 := 0) (r2 := 0) (r3 := 0) rfl rfl ?_
  refine wr_gi0 (k0 := 63) (x := h 63 4) (nx := 5) (r1 := 7) (r2 := 4) (r3 := 0) rfl rfl (by decide) rfl ⟨rfl, rfl⟩ rfl rfl ?_
  refine wi_icmp (cd := .ge) (nx := 8) (r1 := 21) (r2 := 0) (r3 := 0) rfl (by omega) (by omega) (fun (q2 : (h 63 4) ≤ a0) => ?_) (fun (q2 : ¬ ((h 63 4) ≤ a0)) => ?_)
  ·
    refine wi_iconst (n := 0) (nx := 22) (r1 := 0) (r2 := 0) (r3 := 0) rfl ?_
    refine wi_ireturn (nx := 23) (r1 := 0) (r2 := 0) (r3 := 0) rfl rfl ?_
    exact k h 0 g F0 (by omega) (by rw [xW_0 (h := h) (u := (a1).toNat) (by rw [xq1.1]; unfold xK; omega)]; rfl) xq0
  ·
    refine wi_iload_n (i := 2) (e := a1) (nx := 9) (r1 := 0) (r2 := 0) (r3 := 0) rfl rfl ?_
    refine wi_if (cd := .lt) (nx := 12) (r1 := 21) (r2 := 0) (r3 := 0) rfl (by omega) (fun (q3 : a1 < 0) => by exfalso; omega) (fun (q3 : ¬ (a1 < 0)) => ?_)
    refine wi_iload_n (i := 2) (e := a1) (nx := 13) (r1 := 0) (r2 := 0) (r3 := 0) rfl rfl ?_
    refine wi_aload_n (i := 0) (x := 63) (nx := 14) (r1 := 0) (r2 := 0) (r3 := 0) rfl rfl ?_
    refine wr_gr (k0 := 63) (x := 64) (nx := 17) (r1 := 7) (r2 := 2) (r3 := 0) rfl rfl (by decide) rfl ⟨rfl, rfl⟩ rfl ?_
    refine wr_al (k0 := 64) (e := 4096) (nx := 18) (r1 := 0) (r2 := 0) (r3 := 0) rfl (by decide) rfl rfl ?_
    refine wi_icmp (cd := .lt) (nx := 21) (r1 := 23) (r2 := 0) (r3 := 0) rfl (by omega) (by omega) (fun (q4 : a1 < 4096) => ?_) (fun (q4 : ¬ (a1 < 4096)) => by exfalso; omega)
    refine wi_aload_n (i := 0) (x := 63) (nx := 24) (r1 := 0) (r2 := 0) (r3 := 0) rfl rfl ?_
    refine wr_gr (k0 := 63) (x := 64) (nx := 27) (r1 := 7) (r2 := 2) (r3 := 0) rfl rfl (by decide) rfl ⟨rfl, rfl⟩ rfl ?_
    refine wi_iload_n (i := 2) (e := a1) (nx := 28) (r1 := 0) (r2 := 0) (r3 := 0) rfl rfl ?_
    obtain ⟨i5, ei5⟩ : ∃ q : Nat, a1 = (q : Int) := ⟨(a1).toNat, by omega⟩
    have b6 := gi_b (lo := -2147483648) (hi := 2147483647) g 64 i5 rfl
    refine wr_ia (k0 := 64) (a := a1) (f := i5) (x := h 64 i5) (nx := 29) (r1 := 0) (r2 := 0) (r3 := 0) rfl (by decide) rfl (by omega) (by omega) (by decide) rfl ?_
    refine wi_iconst (n := (-1)) (nx := 30) (r1 := 0) (r2 := 0) (r3 := 0) rfl ?_
    refine wi_icmp (cd := .eq) (nx := 33) (r1 := 40) (r2 := 0) (r3 := 0) rfl (by omega) (by omega) (fun (q7 : (h 64 i5) = (-1)) => ?_) (fun (q7 : ¬ ((h 64 i5) = (-1))) => ?_)
    ·
      refine wi_iconst (n := 0) (nx := 41) (r1 := 0) (r2 := 0) (r3 := 0) rfl ?_
      refine wi_istore_n (i := 3) (e := 0) (lo2 := [(3, vi 0), (0, .ref 63), (1, vi a0), (2, vi a1)]) (nx := 42) (r1 := 0) (r2 := 0) (r3 := 0) rfl rfl ?_
      refine wi_iconst (n := 0) (nx := 43) (r1 := 0) (r2 := 0) (r3 := 0) rfl ?_
      refine wi_istore (i := 4) (e := 0) (lo2 := [(4, vi 0), (3, vi 0), (0, .ref 63), (1, vi a0), (2, vi a1)]) (nx := 45) (r1 := 0) (r2 := 0) (r3 := 0) rfl rfl ?_
      refine wp.lo (lo := [(0, .ref 63), (1, vi a0), (2, vi a1), (3, vi 0), (4, vi 0)]) ⟨rfl, rfl, rfl, rfl, rfl, trivial⟩ rfl ?_
      refine wl_2 (fun x8 x9 h10 => GI h10 ∧ FR [(64, 64, none)] h h10 ∧ FR [(64, 64, none)] h h10 ∧ ((0 ≤ x8 ∧ x8 ≤ 1048575) ∧ (0 ≤ x9 ∧ x9 ≤ 5)) ∧ (x8 = ((xp (xW h (a1).toNat) (x9).toNat : Nat) : Int)) ∧ (XMp (xC h) (xB h) (xK h) (h 3 9) (h10 64))) (fun x8 x9 h10 => ((5 : Int) + 1 - x9).toNat) (fun x8 x9 h10 => (45, [(0, .ref 63), (1, vi a0), (2, vi a1), (3, vi x8), (4, vi x9)], [], hp_w h10 cr, b, c)) ?_ 0 0 h ⟨g, F0, FR.refl, (show (0 ≤ 0 ∧ 0 ≤ 1048575) ∧ (0 ≤ 0 ∧ 0 ≤ 5) by omega), rfl, xq0.2⟩
      intro x8 x9 h10 ⟨g10, F11, u10, f10, X10_0, X10_1⟩ I10
      refine wi_iload (i := 4) (e := x9) (nx := 47) (r1 := 0) (r2 := 0) (r3 := 0) rfl rfl ?_
      refine wi_iconst (n := 5) (nx := 48) (r1 := 0) (r2 := 0) (r3 := 0) rfl ?_
      refine wi_icmp (cd := .ge) (nx := 51) (r1 := 121) (r2 := 0) (r3 := 0) rfl (by omega) (by omega) (fun (q12 : 5 ≤ x9) => ?_) (fun (q12 : ¬ (5 ≤ x9)) => ?_)
      ·
        refine wi_aload_n (i := 0) (x := 63) (nx := 122) (r1 := 0) (r2 := 0) (r3 := 0) rfl rfl ?_
        refine wr_gr (k0 := 63) (x := 64) (nx := 125) (r1 := 7) (r2 := 2) (r3 := 0) rfl rfl (by decide) rfl ⟨rfl, rfl⟩ rfl ?_
        refine wi_iload_n (i := 2) (e := a1) (nx := 126) (r1 := 0) (r2 := 0) (r3 := 0) rfl rfl ?_
        refine wi_iload_n (i := 3) (e := x8) (nx := 127) (r1 := 0) (r2 := 0) (r3 := 0) rfl rfl ?_
        refine wr_is (k0 := 64) (a := a1) (f := i5) (x := x8) (bl := -2147483648) (bh := 2147483647) (nx := 128) (r1 := 0) (r2 := 0) (r3 := 0) rfl (by decide) rfl (by omega) (by omega) (by decide) g10 rfl (by omega) (fun h13 g13 w13 u13 => ?_)
        have F14 := F11.then rfl (FR.rngp (lo := 64) (hi := 64) u13 (by decide))
        refine wi_iload_n (i := 3) (e := x8) (nx := 129) (r1 := 0) (r2 := 0) (r3 := 0) rfl rfl ?_
        refine wi_ireturn (nx := 130) (r1 := 0) (r2 := 0) (r3 := 0) rfl rfl ?_
        have q16 : h13 19 = h 19 := funext (fun i => ((u13 19 i (fn_a (by omega) fn_0)).trans (u10 19 i (fo_no_ok (by decide) i))))
        have q17 : h13 8 = h 8 := funext (fun i => ((u13 8 i (fn_a (by omega) fn_0)).trans (u10 8 i (fo_no_ok (by decide) i))))
        have q18 : h13 65 = h 65 := funext (fun i => ((u13 65 i (fn_a (by omega) fn_0)).trans (u10 65 i (fo_no_ok (by decide) i))))
        exact k h13 x8 g13 F14 (by omega) (by have xh1 := X10_0; rw [show (x9).toNat = 5 by omega] at xh1; exact xh1) (XG.at q16 q17 ((u13 18 7 (fn_a (by omega) fn_0)).trans (u10 18 7 rfl)) ((u13 63 4 (fn_a (by omega) fn_0)).trans (u10 63 4 rfl)) ((u13 3 9 (fn_a (by omega) fn_0)).trans (u10 3 9 rfl)) q18 xq0.1 (XMp.put (u := i5) X10_1 w13 (fun i e => u13 64 i (fn_i (by omega) fn_0)) (by rw [show xw (xC h) (xB h) (xK h) (h 3 9) (xK h - pc i5) i5 = xW h i5 from rfl]; have xh1 := X10_0; rw [show (x9).toNat = 5 by omega, show (a1).toNat = i5 by omega] at xh1; exact xh1)))
      ·
        have jk : xK h ≤ 12 := by unfold xK; omega
        have ju : (a1).toNat < 2 ^ xK h := xq1.2
        have jp : pc (a1).toNat = (a0).toNat := xq1.1
        have jr : xK h - pc (a1).toNat = xK h - (pc (a1).toNat + 1) + 1 := by unfold xK at *; omega
        refine wi_aload_n (i := 0) (x := 63) (nx := 52) (r1 := 0) (r2 := 0) (r3 := 0) rfl rfl ?_
        refine wi_iload (i := 4) (e := x9) (nx := 54) (r1 := 0) (r2 := 0) (r3 := 0) rfl rfl ?_
        refine wi_iload_n (i := 1) (e := a0) (nx := 55) (r1 := 0) (r2 := 0) (r3 := 0) rfl rfl ?_
        refine wi_iload_n (i := 2) (e := a1) (nx := 56) (r1 := 0) (r2 := 0) (r3 := 0) rfl rfl ?_
        refine wr_V (k0 := 63) (rest := []) (as := [.ref 63, vi x9, vi a0, vi a1]) (nx := 59) (r1 := 175) (r2 := 3) (r3 := 7) rfl rfl rfl (of_decide_eq_true rfl) rfl rfl (by decide) rfl rfl (of_decide_eq_true rfl) (of_decide_eq_true rfl) ?_
        have e14 : h10 63 4 = h 63 4 := (u10 63 4 rfl)
        have q17 : h10 19 = h 19 := funext (fun i => (u10 19 i (fo_no_ok (by decide) i)))
        have q18 : h10 8 = h 8 := funext (fun i => (u10 8 i (fo_no_ok (by decide) i)))
        have q19 : h10 65 = h 65 := funext (fun i => (u10 65 i (fo_no_ok (by decide) i)))
        have xj16 : XJp (xC h10) (xB h10) (xK h10) (h10 65) := XJp.at q17 q18 (u10 18 7 rfl) (u10 63 4 rfl) (u10 3 9 rfl) q19 xq0.1
        refine ct_175_63 hcr  g10 x9 a0 a1 (by omega) (by omega) (by omega) (show a0 < (h10 63 4) by omega) (show (h10 63 4) ≤ 12 by omega) xj16 (fun z15  (fz15 : -1 ≤ z15 ∧ z15 ≤ 11) (p13_0 : -1 ≤ z15 ∧ z15 ≤ 11) (p13_1 : 0 ≤ x9 ∨ z15 = -1) y13_0 => ?_)
        refine wk_i ?_
        have q21 : h10 19 = h 19 := funext (fun i => (u10 19 i (fo_no_ok (by decide) i)))
        have q22 : h10 8 = h 8 := funext (fun i => (u10 8 i (fo_no_ok (by decide) i)))
        have jv20 : z15 = xj (xC h) (xB h) (xK h) (h 3 9) (pc (a1).toNat) (((x9).toNat : Nat) : Int) (a1).toNat := by rw [show (((x9).toNat : Nat) : Int) = x9 by omega, jp, ← xj_eq q21 q22 (u10 18 7 rfl) (u10 63 4 rfl) (u10 3 9 rfl)]; exact y13_0 (by omega)
        refine wi_istore (i := 5) (e := z15) (lo2 := [(5, vi z15), (0, .ref 63), (1, vi a0), (2, vi a1), (3, vi x8), (4, vi x9)]) (nx := 61) (r1 := 0) (r2 := 0) (r3 := 0) rfl rfl ?_
        refine wi_bipush (n := 15) (nx := 63) (r1 := 0) (r2 := 0) (r3 := 0) rfl (by decide) ?_
        refine wi_istore (i := 6) (e := 15) (lo2 := [(6, vi 15), (5, vi z15), (0, .ref 63), (1, vi a0), (2, vi a1), (3, vi x8), (4, vi x9)]) (nx := 65) (r1 := 0) (r2 := 0) (r3 := 0) rfl rfl ?_
        refine wi_iload (i := 5) (e := z15) (nx := 67) (r1 := 0) (r2 := 0) (r3 := 0) rfl rfl ?_
        refine wi_iconst (n := (-1)) (nx := 68) (r1 := 0) (r2 := 0) (r3 := 0) rfl ?_
        refine wi_icmp (cd := .eq) (nx := 71) (r1 := 105) (r2 := 0) (r3 := 0) rfl (by omega) (by omega) (fun (q23 : z15 = (-1)) => ?_) (fun (q23 : ¬ (z15 = (-1))) => ?_)
        ·
          refine wi_iload_n (i := 3) (e := x8) (nx := 106) (r1 := 0) (r2 := 0) (r3 := 0) rfl rfl ?_
          refine wi_iload (i := 6) (e := 15) (nx := 108) (r1 := 0) (r2 := 0) (r3 := 0) rfl rfl ?_
          refine wi_iload (i := 4) (e := x9) (nx := 110) (r1 := 0) (r2 := 0) (r3 := 0) rfl rfl ?_
          refine wi_iconst (n := 4) (nx := 111) (r1 := 0) (r2 := 0) (r3 := 0) rfl ?_
          refine wr_mul (nx := 112) (r1 := 0) (r2 := 0) (r3 := 0) rfl (fun e24 (fe24 : e24 = x9 * 4) => ?_)
          refine wr_ishl16 (x := 15) (y := e24) (nx := 113) (r1 := 0) (r2 := 0) (r3 := 0) rfl (by omega) (by omega) (fun e25 (fe25 : 0 ≤ e25 ∧ e25 ≤ 983040) ve25 => ?_)
          have we25 : (e25).toNat = ((15 : Int)).toNat * 16 ^ (x9).toNat := by rw [ve25, show (e24).toNat = 4 * (x9).toNat by omega, Nat.pow_mul]; rfl
          refine wr_iorN (x := x8) (y := e25) 20 1048576 (by decide) (by decide) (nx := 114) (r1 := 0) (r2 := 0) (r3 := 0) rfl (by omega) (by omega) (fun e26 (fe26 : 0 ≤ e26 ∧ e26 < 1048576) ve26 => ?_)
          refine wi_istore_n (i := 3) (e := e26) (lo2 := [(3, vi e26), (6, vi 15), (5, vi z15), (0, .ref 63), (1, vi a0), (2, vi a1), (4, vi x9)]) (nx := 115) (r1 := 0) (r2 := 0) (r3 := 0) rfl rfl ?_
          refine wr_iinc (i := 4) (n := 1) (v := x9) (fun e27 => [(4, vi e27), (3, vi e26), (6, vi 15), (5, vi z15), (0, .ref 63), (1, vi a0), (2, vi a1)]) (nx := 118) (r1 := 0) (r2 := 0) (r3 := 0) rfl rfl (fun _ => rfl) (fun e27 (fe27 : e27 = x9 + 1) => ?_)
          refine wi_goto (nx := 121) (r1 := 45) (r2 := 0) (r3 := 0) rfl ?_
          refine wp.lo (lo := [(0, .ref 63), (1, vi a0), (2, vi a1), (3, vi e26), (4, vi e27)]) ⟨rfl, rfl, rfl, rfl, rfl, trivial⟩ rfl ?_
          have bw28 : ((15 : Int)).toNat = xW h (a1).toNat (x9).toNat := by rw [xW_no (h := h) (u := (a1).toNat) (c := (x9).toNat) jr (by rw [← jv20]; omega)]; omega
          have bw28l := xp_lt (f := xW h (a1).toNat) (fun c => xW_le _ _ c) (x9).toNat
          have bw28x := X10_0
          exact I10 e26 e27 h10 ⟨g10, F11, u10, (show (0 ≤ e26 ∧ e26 ≤ 1048575) ∧ (0 ≤ e27 ∧ e27 ≤ 5) by omega), (by
              rw [ve26, we25, show (e27).toNat = (x9).toNat + 1 by omega, show (x8).toNat = xp (xW h (a1).toNat) (x9).toNat by omega, bw28, xp_or bw28l]
              rfl), X10_1⟩ (show ((5 : Int) + 1 - e27).toNat < ((5 : Int) + 1 - x9).toNat by omega)
        ·
          obtain ⟨jv20j, jv20e, jv20k, jv20c, jv20b, jv20u⟩ := xj_ok jk (show xj (xC h) (xB h) (xK h) (h 3 9) (pc (a1).toNat) (((x9).toNat : Nat) : Int) (a1).toNat ≠ -1 by rw [← jv20]; omega)
          have jv20z : (z15).toNat = jv20j := by rw [jv20, jv20e]; rfl
          have h12 : (2 : Nat) ^ 12 = 4096 := by decide
          have jv20o := bit_or (s := (a1).toNat) (j := jv20j) (by omega) (by omega) jv20u
          refine wi_aload_n (i := 0) (x := 63) (nx := 72) (r1 := 0) (r2 := 0) (r3 := 0) rfl rfl ?_
          refine wi_iload_n (i := 1) (e := a0) (nx := 73) (r1 := 0) (r2 := 0) (r3 := 0) rfl rfl ?_
          refine wi_iconst (n := 1) (nx := 74) (r1 := 0) (r2 := 0) (r3 := 0) rfl ?_
          refine wr_add (nx := 75) (r1 := 0) (r2 := 0) (r3 := 0) rfl (fun e24 (fe24 : e24 = a0 + 1) => ?_)
          refine wi_iload_n (i := 2) (e := a1) (nx := 76) (r1 := 0) (r2 := 0) (r3 := 0) rfl rfl ?_
          refine wi_iconst (n := 1) (nx := 77) (r1 := 0) (r2 := 0) (r3 := 0) rfl ?_
          refine wi_iload (i := 5) (e := z15) (nx := 79) (r1 := 0) (r2 := 0) (r3 := 0) rfl rfl ?_
          refine wr_ishl1 (y := z15) (nx := 80) (r1 := 0) (r2 := 0) (r3 := 0) rfl (by omega) (fun e25 (fe25 : 1 ≤ e25 ∧ e25 ≤ 4096) ve25 => ?_)
          have ke25 : e25 ≤ 2048 := by rw [ve25]; have := Nat.pow_le_pow_right (show 0 < 2 by decide) (show (z15).toNat ≤ 11 by omega); omega
          refine wr_iorN (x := a1) (y := e25) 12 4096 (by decide) (by decide) (nx := 81) (r1 := 0) (r2 := 0) (r3 := 0) rfl (by omega) (by omega) (fun e26 (fe26 : 0 ≤ e26 ∧ e26 < 4096) ve26 => ?_)
          have we26 : (e26).toNat = (a1).toNat ||| 2 ^ jv20j := by rw [ve26, ve25, jv20z]; rfl
          refine wr_V (k0 := 63) (rest := []) (as := [.ref 63, vi e24, vi e26]) (nx := 84) (r1 := 174) (r2 := 2) (r3 := 7) rfl rfl rfl (of_decide_eq_true rfl) rfl rfl (by decide) rfl rfl (of_decide_eq_true rfl) (of_decide_eq_true rfl) ?_
          have q30 : h10 19 = h 19 := funext (fun i => (u10 19 i (fo_no_ok (by decide) i)))
          have q31 : h10 8 = h 8 := funext (fun i => (u10 8 i (fo_no_ok (by decide) i)))
          have q32 : h10 65 = h 65 := funext (fun i => (u10 65 i (fo_no_ok (by decide) i)))
          have q33 : h10 64 = h10 64 := funext (fun i => rfl)
          have xg29 : XG h10 := XG.at q30 q31 (u10 18 7 rfl) (u10 63 4 rfl) (u10 3 9 rfl) q32 xq0.1 (by rw [q33]; exact X10_1)
          have pk34 : pc (e26).toNat = pc (a1).toNat + 1 ∧ (e26).toNat < 2 ^ xK h10 := by rw [we26, (show xK h10 = xK h by unfold xK; rw [(u10 63 4 rfl)])]; exact ⟨jv20o.2, Nat.or_lt_two_pow ju (Nat.pow_lt_pow_right (by decide) jv20k)⟩
          refine wp_eq (e := d + 1 * (n - 1) + 5) (by omega) ?_
          refine IH (n - 1) (by omega) g10 e24 e26 (by omega) (by omega) (show (h10 63 4) ≤ 12 by omega) (show e24 = 0 ∨ e24 ≤ (h10 63 4) by omega) xg29 ⟨by rw [pk34.1, jp]; omega, pk34.2⟩ (by omega) (fun h27 z28 g27 u27 (fz28 : -2147483648 ≤ z28 ∧ z28 ≤ 2147483647) y27_0 y27_1 => ?_)
          have F35 := F11.then (by decide +kernel) u27
          have F36 := u10.then (by decide +kernel) u27
          have q38 : h10 19 = h 19 := funext (fun i => (u10 19 i (fo_no_ok (by decide) i)))
          have q39 : h10 8 = h 8 := funext (fun i => (u10 8 i (fo_no_ok (by decide) i)))
          have q40 : h27 19 = h 19 := funext (fun i => ((u27 19 i (fo_no_ok (by decide) i)).trans (u10 19 i (fo_no_ok (by decide) i))))
          have q41 : h27 8 = h 8 := funext (fun i => ((u27 8 i (fo_no_ok (by decide) i)).trans (u10 8 i (fo_no_ok (by decide) i))))
          have wv37 : z28 = ((xp (xW h (e26).toNat) 5 : Nat) : Int) := by rw [← xW_eq q38 q39 (u10 18 7 rfl) (u10 63 4 rfl) (u10 3 9 rfl)]; exact y27_0
          have wv37m := XG.to q40 q41 ((u27 18 7 rfl).trans (u10 18 7 rfl)) ((u27 63 4 rfl).trans (u10 63 4 rfl)) ((u27 3 9 rfl).trans (u10 3 9 rfl)) y27_1
          have wv37l := xp_lt (f := xW h (e26).toNat) (fun c => xW_le _ _ c) 5
          have wv37b : 0 ≤ z28 ∧ z28 ≤ 1048575 := by rw [wv37]; have h16 : 16 ^ 5 = 1048576 := (by decide); omega
          refine wk_i ?_
          refine wi_istore (i := 7) (e := z28) (lo2 := [(7, vi z28), (6, vi 15), (5, vi z15), (0, .ref 63), (1, vi a0), (2, vi a1), (3, vi x8), (4, vi x9)]) (nx := 86) (r1 := 0) (r2 := 0) (r3 := 0) rfl rfl ?_
          refine wi_iload (i := 7) (e := z28) (nx := 88) (r1 := 0) (r2 := 0) (r3 := 0) rfl rfl ?_
          refine wi_iload (i := 4) (e := x9) (nx := 90) (r1 := 0) (r2 := 0) (r3 := 0) rfl rfl ?_
          refine wi_S (rest := []) (as := [vi z28, vi x9]) (nx := 93) (r1 := 176) (r2 := 18) (r3 := 0) rfl rfl rfl (of_decide_eq_true rfl) rfl rfl (of_decide_eq_true rfl) (of_decide_eq_true rfl) ?_
          refine ct_176 hcr  g27 z28 x9 (by omega) (by omega)  (fun z43  (fz43 : 0 ≤ z43 ∧ z43 ≤ 15) (p42_0 : 0 ≤ z43 ∧ z43 ≤ 15) y42_0 => ?_)
          refine wk_i ?_
          refine wi_iload (i := 7) (e := z28) (nx := 95) (r1 := 0) (r2 := 0) (r3 := 0) rfl rfl ?_
          refine wi_S (rest := [vi z43]) (as := [vi z28]) (nx := 98) (r1 := 177) (r2 := 17) (r3 := 0) rfl rfl rfl (of_decide_eq_true rfl) rfl rfl (of_decide_eq_true rfl) (of_decide_eq_true rfl) ?_
          refine ct_177 hcr  g27 z28 (by omega)  (fun z45  (fz45 : 0 ≤ z45 ∧ z45 ≤ 15) (p44_0 : 0 ≤ z45 ∧ z45 ≤ 15) y44_0 => ?_)
          refine wk_i ?_
          refine wi_iconst (n := 1) (nx := 99) (r1 := 0) (r2 := 0) (r3 := 0) rfl ?_
          refine wr_add (nx := 100) (r1 := 0) (r2 := 0) (r3 := 0) rfl (fun e46 (fe46 : e46 = z45 + 1) => ?_)
          refine wi_S (rest := []) (as := [vi z43, vi e46]) (nx := 103) (r1 := 354) (r2 := 18) (r3 := 0) rfl rfl rfl (of_decide_eq_true rfl) rfl rfl (of_decide_eq_true rfl) (of_decide_eq_true rfl) ?_
          refine wi_iload_n (i := 0) (e := z43) (nx := 1) (r1 := 0) (r2 := 0) (r3 := 0) rfl rfl ?_
          refine wi_iload_n (i := 1) (e := e46) (nx := 2) (r1 := 0) (r2 := 0) (r3 := 0) rfl rfl ?_
          refine wi_icmp (cd := .gt) (nx := 5) (r1 := 9) (r2 := 0) (r3 := 0) rfl (by omega) (by omega) (fun (q47 : e46 < z43) => ?_) (fun (q47 : ¬ (e46 < z43)) => ?_)
          ·
            refine wi_iload_n (i := 1) (e := e46) (nx := 10) (r1 := 0) (r2 := 0) (r3 := 0) rfl rfl ?_
            refine wi_ireturn (nx := 11) (r1 := 0) (r2 := 0) (r3 := 0) rfl rfl ?_
            refine wk_i ?_
            have fv48a : z43 = ((xW h (e26).toNat (x9).toNat : Nat) : Int) := by rw [y42_0, wv37]; rw [show ((((xp (xW h (e26).toNat) 5 : Nat) : Int)).toNat) = xp (xW h (e26).toNat) 5 from rfl, xp_at (f := xW h (e26).toNat) (fun c => xW_le _ _ c) (x9).toNat 5 (by omega)]
            have fv48b : z45 = ((xm (xW h (e26).toNat) : Nat) : Int) := by rw [y44_0, wv37]; rw [show ((((xp (xW h (e26).toNat) 5 : Nat) : Int)).toNat) = xp (xW h (e26).toNat) 5 from rfl, xm_congr (fun c hc => xp_at (f := xW h (e26).toNat) (fun c => xW_le _ _ c) c 5 hc)]
            have fv48 := xW_go (h := h) (u := (a1).toNat) (c := (x9).toNat) (j := jv20j) jr jv20e jv20o.2
            rw [← we26] at fv48
            refine wi_istore (i := 6) (e := e46) (lo2 := [(6, vi e46), (7, vi z28), (5, vi z15), (0, .ref 63), (1, vi a0), (2, vi a1), (3, vi x8), (4, vi x9)]) (nx := 105) (r1 := 0) (r2 := 0) (r3 := 0) rfl rfl ?_
            refine wi_iload_n (i := 3) (e := x8) (nx := 106) (r1 := 0) (r2 := 0) (r3 := 0) rfl rfl ?_
            refine wi_iload (i := 6) (e := e46) (nx := 108) (r1 := 0) (r2 := 0) (r3 := 0) rfl rfl ?_
            refine wi_iload (i := 4) (e := x9) (nx := 110) (r1 := 0) (r2 := 0) (r3 := 0) rfl rfl ?_
            refine wi_iconst (n := 4) (nx := 111) (r1 := 0) (r2 := 0) (r3 := 0) rfl ?_
            refine wr_mul (nx := 112) (r1 := 0) (r2 := 0) (r3 := 0) rfl (fun e49 (fe49 : e49 = x9 * 4) => ?_)
            refine wr_ishl16 (x := e46) (y := e49) (nx := 113) (r1 := 0) (r2 := 0) (r3 := 0) rfl (by omega) (by omega) (fun e50 (fe50 : 0 ≤ e50 ∧ e50 ≤ 983040) ve50 => ?_)
            have we50 : (e50).toNat = (e46).toNat * 16 ^ (x9).toNat := by rw [ve50, show (e49).toNat = 4 * (x9).toNat by omega, Nat.pow_mul]; rfl
            refine wr_iorN (x := x8) (y := e50) 20 1048576 (by decide) (by decide) (nx := 114) (r1 := 0) (r2 := 0) (r3 := 0) rfl (by omega) (by omega) (fun e51 (fe51 : 0 ≤ e51 ∧ e51 < 1048576) ve51 => ?_)
            refine wi_istore_n (i := 3) (e := e51) (lo2 := [(3, vi e51), (6, vi e46), (7, vi z28), (5, vi z15), (0, .ref 63), (1, vi a0), (2, vi a1), (4, vi x9)]) (nx := 115) (r1 := 0) (r2 := 0) (r3 := 0) rfl rfl ?_
            refine wr_iinc (i := 4) (n := 1) (v := x9) (fun e52 => [(4, vi e52), (3, vi e51), (6, vi e46), (7, vi z28), (5, vi z15), (0, .ref 63), (1, vi a0), (2, vi a1)]) (nx := 118) (r1 := 0) (r2 := 0) (r3 := 0) rfl rfl (fun _ => rfl) (fun e52 (fe52 : e52 = x9 + 1) => ?_)
            refine wi_goto (nx := 121) (r1 := 45) (r2 := 0) (r3 := 0) rfl ?_
            refine wp.lo (lo := [(0, .ref 63), (1, vi a0), (2, vi a1), (3, vi e51), (4, vi e52)]) ⟨rfl, rfl, rfl, rfl, rfl, trivial⟩ rfl ?_
            have bw53 : (e46).toNat = xW h (a1).toNat (x9).toNat := by rw [fv48]; omega
            have bw53l := xp_lt (f := xW h (a1).toNat) (fun c => xW_le _ _ c) (x9).toNat
            have bw53x := X10_0
            exact I10 e51 e52 h27 ⟨g27, F35, F36, (show (0 ≤ e51 ∧ e51 ≤ 1048575) ∧ (0 ≤ e52 ∧ e52 ≤ 5) by omega), (by
                rw [ve51, we50, show (e52).toNat = (x9).toNat + 1 by omega, show (x8).toNat = xp (xW h (a1).toNat) (x9).toNat by omega, bw53, xp_or bw53l]
                rfl), wv37m⟩ (show ((5 : Int) + 1 - e52).toNat < ((5 : Int) + 1 - x9).toNat by omega)
          ·
            refine wi_iload_n (i := 0) (e := z43) (nx := 6) (r1 := 0) (r2 := 0) (r3 := 0) rfl rfl ?_
            refine wi_goto (nx := 9) (r1 := 10) (r2 := 0) (r3 := 0) rfl ?_
            refine wi_ireturn (nx := 11) (r1 := 0) (r2 := 0) (r3 := 0) rfl rfl ?_
            refine wk_i ?_
            have fv48a : z43 = ((xW h (e26).toNat (x9).toNat : Nat) : Int) := by rw [y42_0, wv37]; rw [show ((((xp (xW h (e26).toNat) 5 : Nat) : Int)).toNat) = xp (xW h (e26).toNat) 5 from rfl, xp_at (f := xW h (e26).toNat) (fun c => xW_le _ _ c) (x9).toNat 5 (by omega)]
            have fv48b : z45 = ((xm (xW h (e26).toNat) : Nat) : Int) := by rw [y44_0, wv37]; rw [show ((((xp (xW h (e26).toNat) 5 : Nat) : Int)).toNat) = xp (xW h (e26).toNat) 5 from rfl, xm_congr (fun c hc => xp_at (f := xW h (e26).toNat) (fun c => xW_le _ _ c) c 5 hc)]
            have fv48 := xW_go (h := h) (u := (a1).toNat) (c := (x9).toNat) (j := jv20j) jr jv20e jv20o.2
            rw [← we26] at fv48
            refine wi_istore (i := 6) (e := z43) (lo2 := [(6, vi z43), (7, vi z28), (5, vi z15), (0, .ref 63), (1, vi a0), (2, vi a1), (3, vi x8), (4, vi x9)]) (nx := 105) (r1 := 0) (r2 := 0) (r3 := 0) rfl rfl ?_
            refine wi_iload_n (i := 3) (e := x8) (nx := 106) (r1 := 0) (r2 := 0) (r3 := 0) rfl rfl ?_
            refine wi_iload (i := 6) (e := z43) (nx := 108) (r1 := 0) (r2 := 0) (r3 := 0) rfl rfl ?_
            refine wi_iload (i := 4) (e := x9) (nx := 110) (r1 := 0) (r2 := 0) (r3 := 0) rfl rfl ?_
            refine wi_iconst (n := 4) (nx := 111) (r1 := 0) (r2 := 0) (r3 := 0) rfl ?_
            refine wr_mul (nx := 112) (r1 := 0) (r2 := 0) (r3 := 0) rfl (fun e49 (fe49 : e49 = x9 * 4) => ?_)
            refine wr_ishl16 (x := z43) (y := e49) (nx := 113) (r1 := 0) (r2 := 0) (r3 := 0) rfl (by omega) (by omega) (fun e50 (fe50 : 0 ≤ e50 ∧ e50 ≤ 983040) ve50 => ?_)
            have we50 : (e50).toNat = (z43).toNat * 16 ^ (x9).toNat := by rw [ve50, show (e49).toNat = 4 * (x9).toNat by omega, Nat.pow_mul]; rfl
            refine wr_iorN (x := x8) (y := e50) 20 1048576 (by decide) (by decide) (nx := 114) (r1 := 0) (r2 := 0) (r3 := 0) rfl (by omega) (by omega) (fun e51 (fe51 : 0 ≤ e51 ∧ e51 < 1048576) ve51 => ?_)
            refine wi_istore_n (i := 3) (e := e51) (lo2 := [(3, vi e51), (6, vi z43), (7, vi z28), (5, vi z15), (0, .ref 63), (1, vi a0), (2, vi a1), (4, vi x9)]) (nx := 115) (r1 := 0) (r2 := 0) (r3 := 0) rfl rfl ?_
            refine wr_iinc (i := 4) (n := 1) (v := x9) (fun e52 => [(4, vi e52), (3, vi e51), (6, vi z43), (7, vi z28), (5, vi z15), (0, .ref 63), (1, vi a0), (2, vi a1)]) (nx := 118) (r1 := 0) (r2 := 0) (r3 := 0) rfl rfl (fun _ => rfl) (fun e52 (fe52 : e52 = x9 + 1) => ?_)
            refine wi_goto (nx := 121) (r1 := 45) (r2 := 0) (r3 := 0) rfl ?_
            refine wp.lo (lo := [(0, .ref 63), (1, vi a0), (2, vi a1), (3, vi e51), (4, vi e52)]) ⟨rfl, rfl, rfl, rfl, rfl, trivial⟩ rfl ?_
            have bw53 : (z43).toNat = xW h (a1).toNat (x9).toNat := by rw [fv48]; omega
            have bw53l := xp_lt (f := xW h (a1).toNat) (fun c => xW_le _ _ c) (x9).toNat
            have bw53x := X10_0
            exact I10 e51 e52 h27 ⟨g27, F35, F36, (show (0 ≤ e51 ∧ e51 ≤ 1048575) ∧ (0 ≤ e52 ∧ e52 ≤ 5) by omega), (by
                rw [ve51, we50, show (e52).toNat = (x9).toNat + 1 by omega, show (x8).toNat = xp (xW h (a1).toNat) (x9).toNat by omega, bw53, xp_or bw53l]
                rfl), wv37m⟩ (show ((5 : Int) + 1 - e52).toNat < ((5 : Int) + 1 - x9).toNat by omega)
    ·
      refine wi_aload_n (i := 0) (x := 63) (nx := 34) (r1 := 0) (r2 := 0) (r3 := 0) rfl rfl ?_
      refine wr_gr (k0 := 63) (x := 64) (nx := 37) (r1 := 7) (r2 := 2) (r3 := 0) rfl rfl (by decide) rfl ⟨rfl, rfl⟩ rfl ?_
      refine wi_iload_n (i := 2) (e := a1) (nx := 38) (r1 := 0) (r2 := 0) (r3 := 0) rfl rfl ?_
      refine wr_ia (k0 := 64) (a := a1) (f := i5) (x := h 64 i5) (nx := 39) (r1 := 0) (r2 := 0) (r3 := 0) rfl (by decide) rfl (by omega) (by omega) (by decide) rfl ?_
      refine wi_ireturn (nx := 40) (r1 := 0) (r2 := 0) (r3 := 0) rfl rfl ?_
      exact k h (h 64 i5) g F0 (by omega) (by have m1 := xq0.2 (a1).toNat xq1.2 (by rw [xq1.1]; unfold xK; omega); rw [show (a1).toNat = i5 by omega] at m1 ⊢; exact m1.resolve_left (by omega)) xq0
theorem ct_174_63 {L : Nat} {xs : Nat → Int32} {d b c : Nat} {h : hp} {cr : Nat → Nat → Option Nat} {Q : hp_Q} (hcr : CR cr) (g : GI h) (a0 : Int) (a1 : Int) (q0_ : 0 ≤ a0 ∧ a0 ≤ 12) (q1_ : 0 ≤ a1 ∧ a1 ≤ 4095) (pp0 : h 63 4 ≤ 12) (pp1 : a0 = 0 ∨ a0 ≤ h 63 4) (xq0 : XG h) (xq1 : pc (a1).toNat = (a0).toNat ∧ (a1).toNat < 2 ^ xK h) (k : ∀ (h2 : hp) (z0 : Int) , GI h2 → FR [(64, 64, none)] h h2 → (-2147483648 ≤ z0 ∧ z0 ≤ 2147483647) → (z0 = ((xp (xW h (a1).toNat) 5 : Nat) : Int)) → (XG h2) → Q (.inl (some (vi z0))) (hp_w h2 cr) b c) : wp (md_xa (L, xs)) (d + 17) 174 (0, [(0, .ref 63), (1, vi a0), (2, vi a1)], [], hp_w h cr, b, c) Q := cr_174_63 hcr 12 g a0 a1 q0_ q1_ pp0 pp1 xq0 xq1 (by omega) k
