-- method 109: Unloading.collectLanes()V
set_option maxRecDepth 100000 in
set_option maxHeartbeats 100000000 in
theorem ct_109_56 {L : Nat} {xs : Nat → Int32} {d b c : Nat} {h : hp} {cr : Nat → Nat → Option Nat} {Q : hp_Q} (hcr : CR cr)  (g : GI h)    (k : ∀ (h2 : hp) , GI h2 → FR [(59, 59, none), (61, 62, none)] h h2 → Q (.inl none) (hp_w h2 cr) b c) : wp (md_xa (L, xs)) (d + 2) 109 (0, [(0, .ref 56)], [], hp_w h cr, b, c) Q := by
  have F0 : FR [(59, 59, none), (61, 62, none)] h h := FR.refl
  refine wi_iconst (n := 0) (nx := 1) (r1 := 0) (r2 := 0) (r3 := 0) rfl ?_
  refine wi_istore_n (i := 1) (e := 0) (lo2 := [(1, vi 0), (0, .ref 56)]) (nx := 2) (r1 := 0) (r2 := 0) (r3 := 0) rfl rfl ?_
  refine wi_aload_n (i := 0) (x := 56) (nx := 3) (r1 := 0) (r2 := 0) (r3 := 0) rfl rfl ?_
  refine wr_gr (k0 := 56) (x := 18) (nx := 6) (r1 := 6) (r2 := 1) (r3 := 0) rfl rfl (by decide) rfl ⟨rfl, rfl⟩ rfl ?_
  have b1 := gi_b (lo := -2147483648) (hi := 2147483647) g 18 8 rfl
  refine wr_gi0 (k0 := 18) (x := h 18 8) (nx := 9) (r1 := 4) (r2 := 8) (r3 := 0) rfl rfl (by decide) rfl ⟨rfl, rfl⟩ rfl rfl ?_
  refine wi_istore_n (i := 2) (e := h 18 8) (lo2 := [(2, vi (h 18 8)), (1, vi 0), (0, .ref 56)]) (nx := 10) (r1 := 0) (r2 := 0) (r3 := 0) rfl rfl ?_
  refine wi_aload_n (i := 0) (x := 56) (nx := 11) (r1 := 0) (r2 := 0) (r3 := 0) rfl rfl ?_
  refine wr_gr (k0 := 56) (x := 18) (nx := 14) (r1 := 6) (r2 := 1) (r3 := 0) rfl rfl (by decide) rfl ⟨rfl, rfl⟩ rfl ?_
  have b2 := gi_b (lo := -2147483648) (hi := 2147483647) g 18 9 rfl
  refine wr_gi0 (k0 := 18) (x := h 18 9) (nx := 17) (r1 := 4) (r2 := 9) (r3 := 0) rfl rfl (by decide) rfl ⟨rfl, rfl⟩ rfl rfl ?_
  refine wi_istore_n (i := 3) (e := h 18 9) (lo2 := [(3, vi (h 18 9)), (2, vi (h 18 8)), (1, vi 0), (0, .ref 56)]) (nx := 18) (r1 := 0) (r2 := 0) (r3 := 0) rfl rfl ?_
  refine wi_iconst (n := 0) (nx := 19) (r1 := 0) (r2 := 0) (r3 := 0) rfl ?_
  refine wi_istore (i := 4) (e := 0) (lo2 := [(4, vi 0), (3, vi (h 18 9)), (2, vi (h 18 8)), (1, vi 0), (0, .ref 56)]) (nx := 21) (r1 := 0) (r2 := 0) (r3 := 0) rfl rfl ?_
  refine wp.lo (lo := [(0, .ref 56), (1, vi 0), (2, vi (h 18 8)), (3, vi (h 18 9)), (4, vi 0)]) ⟨rfl, rfl, rfl, rfl, rfl, trivial⟩ rfl ?_
  refine wl_4 (fun x3 x4 x5 x6 h7 => GI h7 ∧ FR [(59, 59, none), (61, 62, none)] h h7 ∧ FR [(59, 59, none), (61, 62, none)] h h7 ∧ ((-2147483648 ≤ x3 ∧ x3 ≤ 2147483647) ∧ (-2147483648 ≤ x4 ∧ x4 ≤ 2147483647) ∧ (-2147483648 ≤ x5 ∧ x5 ≤ 2147483647) ∧ (0 ≤ x6 ∧ x6 ≤ 48))) (fun x3 x4 x5 x6 h7 => ((48 : Int) + 1 - x6).toNat) (fun x3 x4 x5 x6 h7 => (21, [(0, .ref 56), (1, vi x3), (2, vi x4), (3, vi x5), (4, vi x6)], [], hp_w h7 cr, b, c)) ?_ 0 (h 18 8) (h 18 9) 0 h ⟨g, F0, FR.refl, (show (-2147483648 ≤ 0 ∧ 0 ≤ 2147483647) ∧ (-2147483648 ≤ (h 18 8) ∧ (h 18 8) ≤ 2147483647) ∧ (-2147483648 ≤ (h 18 9) ∧ (h 18 9) ≤ 2147483647) ∧ (0 ≤ 0 ∧ 0 ≤ 48) by omega)⟩
  intro x3 x4 x5 x6 h7 ⟨g7, F8, u7, f7⟩ I7
  refine wi_iload (i := 4) (e := x6) (nx := 23) (r1 := 0) (r2 := 0) (r3 := 0) rfl rfl ?_
  refine wi_aload_n (i := 0) (x := 56) (nx := 24) (r1 := 0) (r2 := 0) (r3 := 0) rfl rfl ?_
  have b9 := gi_b (lo := 0) (hi := 48) g 56 6 rfl
  refine wr_gi0 (k0 := 56) (x := h 56 6) (nx := 27) (r1 := 6) (r2 := 6) (r3 := 0) rfl rfl (by decide) rfl ⟨rfl, rfl⟩ rfl (u7 56 6 rfl) ?_
  refine wi_icmp (cd := .ge) (nx := 30) (r1 := 158) (r2 := 0) (r3 := 0) rfl (by omega) (by omega) (fun (q10 : (h 56 6) ≤ x6) => ?_) (fun (q10 : ¬ ((h 56 6) ≤ x6)) => ?_)
  ·
    refine wi_return (nx := 159) (r1 := 0) (r2 := 0) (r3 := 0) rfl rfl ?_
    exact k h7 g7 F8
  ·
    refine wi_aload_n (i := 0) (x := 56) (nx := 31) (r1 := 0) (r2 := 0) (r3 := 0) rfl rfl ?_
    refine wr_gr (k0 := 56) (x := 58) (nx := 34) (r1 := 6) (r2 := 3) (r3 := 0) rfl rfl (by decide) rfl ⟨rfl, rfl⟩ rfl ?_
    refine wi_aload_n (i := 0) (x := 56) (nx := 35) (r1 := 0) (r2 := 0) (r3 := 0) rfl rfl ?_
    refine wi_iload_n (i := 1) (e := x3) (nx := 36) (r1 := 0) (r2 := 0) (r3 := 0) rfl rfl ?_
    refine wi_iload_n (i := 2) (e := x4) (nx := 37) (r1 := 0) (r2 := 0) (r3 := 0) rfl rfl ?_
    refine wi_iload_n (i := 3) (e := x5) (nx := 38) (r1 := 0) (r2 := 0) (r3 := 0) rfl rfl ?_
    refine wr_V (k0 := 56) (rest := [.ref 58]) (as := [.ref 56, vi x3, vi x4, vi x5]) (nx := 41) (r1 := 106) (r2 := 3) (r3 := 6) rfl rfl rfl (of_decide_eq_true rfl) rfl rfl (by decide) rfl rfl (of_decide_eq_true rfl) (of_decide_eq_true rfl) ?_
    refine ct_106_56 hcr  g7 x3 x4 x5 (by omega) (by omega) (by omega)  (fun z12  (fz12 : 0 ≤ z12 ∧ z12 ≤ 11519) => ?_)
    refine wk_i ?_
    obtain ⟨i13, ei13⟩ : ∃ q : Nat, z12 = (q : Int) := ⟨(z12).toNat, by omega⟩
    have b14 := gi_b (lo := -128) (hi := 127) g 58 i13 rfl
    refine wr_ba (k0 := 58) (a := z12) (f := i13) (x := h 58 i13) (nx := 42) (r1 := 0) (r2 := 0) (r3 := 0) rfl (by decide) rfl (by decide) (by omega) (by omega) (by decide) (u7 58 i13 (fn_a (by omega) (fn_a (by omega) fn_0))) ?_
    refine wi_istore (i := 5) (e := h 58 i13) (lo2 := [(5, vi (h 58 i13)), (0, .ref 56), (1, vi x3), (2, vi x4), (3, vi x5), (4, vi x6)]) (nx := 44) (r1 := 0) (r2 := 0) (r3 := 0) rfl rfl ?_
    refine wi_iload (i := 5) (e := h 58 i13) (nx := 46) (r1 := 0) (r2 := 0) (r3 := 0) rfl rfl ?_
    refine wi_if (cd := .lt) (nx := 49) (r1 := 55) (r2 := 0) (r3 := 0) rfl (by omega) (fun (q15 : (h 58 i13) < 0) => ?_) (fun (q15 : ¬ ((h 58 i13) < 0)) => ?_)
    ·
      refine wi_return (nx := 56) (r1 := 0) (r2 := 0) (r3 := 0) rfl rfl ?_
      exact k h7 g7 F8
    ·
      refine wi_iload (i := 5) (e := h 58 i13) (nx := 51) (r1 := 0) (r2 := 0) (r3 := 0) rfl rfl ?_
      refine wi_iconst (n := 4) (nx := 52) (r1 := 0) (r2 := 0) (r3 := 0) rfl ?_
      refine wi_icmp (cd := .lt) (nx := 55) (r1 := 56) (r2 := 0) (r3 := 0) rfl (by omega) (by omega) (fun (q16 : (h 58 i13) < 4) => ?_) (fun (q16 : ¬ ((h 58 i13) < 4)) => ?_)
      ·
        refine wi_aload_n (i := 0) (x := 56) (nx := 57) (r1 := 0) (r2 := 0) (r3 := 0) rfl rfl ?_
        refine wr_gr (k0 := 56) (x := 18) (nx := 60) (r1 := 6) (r2 := 1) (r3 := 0) rfl rfl (by decide) rfl ⟨rfl, rfl⟩ rfl ?_
        refine wr_gr (k0 := 18) (x := 21) (nx := 63) (r1 := 4) (r2 := 3) (r3 := 0) rfl rfl (by decide) rfl ⟨rfl, rfl⟩ rfl ?_
        refine wi_iload (i := 5) (e := h 58 i13) (nx := 65) (r1 := 0) (r2 := 0) (r3 := 0) rfl rfl ?_
        obtain ⟨i17, ei17⟩ : ∃ q : Nat, (h 58 i13) = (q : Int) := ⟨(h 58 i13).toNat, by omega⟩
        refine wr_aa (k0 := 21) (a := h 58 i13) (f := i17) (x := 21 + 8 + 2 * i17) (nx := 66) (r1 := 0) (r2 := 0) (r3 := 0) rfl (by decide) rfl (Or.inl rfl) (by omega) (by omega) (by decide) (hcr.1 21 (by decide) i17 (by omega)) ?_
        obtain ⟨k18, kk18, mk18⟩ : ∃ q, Rw q ∧ q = 21 + 8 + 2 * i17 := ⟨_, rw_lane 21 (by decide) i17 (by omega), rfl⟩
        rw [← mk18]
        refine wi_aload_n (i := 0) (x := 56) (nx := 67) (r1 := 0) (r2 := 0) (r3 := 0) rfl rfl ?_
        refine wr_gr (k0 := 56) (x := 59) (nx := 70) (r1 := 6) (r2 := 4) (r3 := 0) rfl rfl (by decide) rfl ⟨rfl, rfl⟩ rfl ?_
        refine wi_iload (i := 5) (e := h 58 i13) (nx := 72) (r1 := 0) (r2 := 0) (r3 := 0) rfl rfl ?_
        have b19 := gi_b (lo := -2147483648) (hi := 2147483647) g7 59 i17 rfl
        refine wr_ia (k0 := 59) (a := h 58 i13) (f := i17) (x := h7 59 i17) (nx := 73) (r1 := 0) (r2 := 0) (r3 := 0) rfl (by decide) rfl (by omega) (by omega) (by decide) rfl ?_
        refine wr_V (k0 := k18) (rest := []) (as := [.ref k18, vi (h7 59 i17)]) (nx := 76) (r1 := 95) (r2 := 1) (r3 := 5) rfl rfl rfl (of_decide_eq_true rfl) rfl rfl kk18.k kk18.1 rfl (of_decide_eq_true rfl) (of_decide_eq_true rfl) ?_
        refine ct_95_R hcr kk18 g7 (h7 59 i17) (by omega)  (fun z21  (fz21 : -2147483648 ≤ z21 ∧ z21 ≤ 2147483647) => ?_)
        refine wk_i ?_
        refine wi_istore (i := 6) (e := z21) (lo2 := [(6, vi z21), (5, vi (h 58 i13)), (0, .ref 56), (1, vi x3), (2, vi x4), (3, vi x5), (4, vi x6)]) (nx := 78) (r1 := 0) (r2 := 0) (r3 := 0) rfl rfl ?_
        refine wi_iload (i := 6) (e := z21) (nx := 80) (r1 := 0) (r2 := 0) (r3 := 0) rfl rfl ?_
        refine wi_if (cd := .lt) (nx := 83) (r1 := 90) (r2 := 0) (r3 := 0) rfl (by omega) (fun (q22 : z21 < 0) => ?_) (fun (q22 : ¬ (z21 < 0)) => ?_)
        ·
          refine wi_return (nx := 91) (r1 := 0) (r2 := 0) (r3 := 0) rfl rfl ?_
          exact k h7 g7 F8
        ·
          refine wi_iload (i := 6) (e := z21) (nx := 85) (r1 := 0) (r2 := 0) (r3 := 0) rfl rfl ?_
          refine wi_bipush (n := 12) (nx := 87) (r1 := 0) (r2 := 0) (r3 := 0) rfl (by decide) ?_
          refine wi_icmp (cd := .lt) (nx := 90) (r1 := 91) (r2 := 0) (r3 := 0) rfl (by omega) (by omega) (fun (q23 : z21 < 12) => ?_) (fun (q23 : ¬ (z21 < 12)) => ?_)
          ·
            refine wi_aload_n (i := 0) (x := 56) (nx := 92) (r1 := 0) (r2 := 0) (r3 := 0) rfl rfl ?_
            refine wr_gr (k0 := 56) (x := 18) (nx := 95) (r1 := 6) (r2 := 1) (r3 := 0) rfl rfl (by decide) rfl ⟨rfl, rfl⟩ rfl ?_
            refine wr_gr (k0 := 18) (x := 19) (nx := 98) (r1 := 4) (r2 := 1) (r3 := 0) rfl rfl (by decide) rfl ⟨rfl, rfl⟩ rfl ?_
            refine wi_iload (i := 6) (e := z21) (nx := 100) (r1 := 0) (r2 := 0) (r3 := 0) rfl rfl ?_
            obtain ⟨i24, ei24⟩ : ∃ q : Nat, z21 = (q : Int) := ⟨(z21).toNat, by omega⟩
            have b25 := gi_b (lo := -2147483648) (hi := 2147483647) g 19 i24 rfl
            refine wr_ia (k0 := 19) (a := z21) (f := i24) (x := h 19 i24) (nx := 101) (r1 := 0) (r2 := 0) (r3 := 0) rfl (by decide) rfl (by omega) (by omega) (by decide) (u7 19 i24 (fn_a (by omega) (fn_a (by omega) fn_0))) ?_
            refine wi_istore (i := 7) (e := h 19 i24) (lo2 := [(7, vi (h 19 i24)), (6, vi z21), (5, vi (h 58 i13)), (0, .ref 56), (1, vi x3), (2, vi x4), (3, vi x5), (4, vi x6)]) (nx := 103) (r1 := 0) (r2 := 0) (r3 := 0) rfl rfl ?_
            refine wi_aload_n (i := 0) (x := 56) (nx := 104) (r1 := 0) (r2 := 0) (r3 := 0) rfl rfl ?_
            refine wr_gr (k0 := 56) (x := 61) (nx := 107) (r1 := 6) (r2 := 8) (r3 := 0) rfl rfl (by decide) rfl ⟨rfl, rfl⟩ rfl ?_
            refine wi_iload (i := 5) (e := h 58 i13) (nx := 109) (r1 := 0) (r2 := 0) (r3 := 0) rfl rfl ?_
            refine wr_V (k0 := 61) (rest := []) (as := [.ref 61, vi (h 58 i13)]) (nx := 112) (r1 := 99) (r2 := 1) (r3 := 5) rfl rfl rfl (of_decide_eq_true rfl) rfl rfl (by decide) rfl rfl (of_decide_eq_true rfl) (of_decide_eq_true rfl) ?_
            refine ct_99_R hcr rw_61 g7 (h 58 i13) (by omega)  (fun h26 g26 u26 => ?_)
            have F27 := F8.then rfl u26
            have F28 := u7.then rfl u26
            refine wk_n ?_
            refine wi_aload_n (i := 0) (x := 56) (nx := 113) (r1 := 0) (r2 := 0) (r3 := 0) rfl rfl ?_
            refine wr_gr (k0 := 56) (x := 59) (nx := 116) (r1 := 6) (r2 := 4) (r3 := 0) rfl rfl (by decide) rfl ⟨rfl, rfl⟩ rfl ?_
            refine wi_iload (i := 5) (e := h 58 i13) (nx := 118) (r1 := 0) (r2 := 0) (r3 := 0) rfl rfl ?_
            refine wi_dup2 (nx := 119) (r1 := 0) (r2 := 0) (r3 := 0) rfl rfl rfl ?_
            refine wr_ia (k0 := 59) (a := h 58 i13) (f := i17) (x := h7 59 i17) (nx := 120) (r1 := 0) (r2 := 0) (r3 := 0) rfl (by decide) rfl (by omega) (by omega) (by decide) (u26 59 i17 (fn_a (by omega) fn_0)) ?_
            refine wi_iconst (n := 1) (nx := 121) (r1 := 0) (r2 := 0) (r3 := 0) rfl ?_
            refine wr_addW (nx := 122) (r1 := 0) (r2 := 0) (r3 := 0) rfl (fun e29 (fe29 : -2147483648 ≤ e29 ∧ e29 ≤ 2147483647) => ?_)
            refine wr_is (k0 := 59) (a := h 58 i13) (f := i17) (x := e29) (bl := -2147483648) (bh := 2147483647) (nx := 123) (r1 := 0) (r2 := 0) (r3 := 0) rfl (by decide) rfl (by omega) (by omega) (by decide) g26 rfl (by omega) (fun h30 g30 w30 u30 => ?_)
            have F31 := F27.then rfl (FR.rngp (lo := 59) (hi := 59) u30 (by decide))
            have F32 := F28.then rfl (FR.rngp (lo := 59) (hi := 59) u30 (by decide))
            refine wi_iload_n (i := 1) (e := x3) (nx := 124) (r1 := 0) (r2 := 0) (r3 := 0) rfl rfl ?_
            refine wi_aload_n (i := 0) (x := 56) (nx := 125) (r1 := 0) (r2 := 0) (r3 := 0) rfl rfl ?_
            refine wr_gr (k0 := 56) (x := 60) (nx := 128) (r1 := 6) (r2 := 5) (r3 := 0) rfl rfl (by decide) rfl ⟨rfl, rfl⟩ rfl ?_
            refine wi_iload (i := 5) (e := h 58 i13) (nx := 130) (r1 := 0) (r2 := 0) (r3 := 0) rfl rfl ?_
            have b33 := gi_b (lo := -2147483648) (hi := 2147483647) g 60 i17 rfl
            refine wr_ia (k0 := 60) (a := h 58 i13) (f := i17) (x := h 60 i17) (nx := 131) (r1 := 0) (r2 := 0) (r3 := 0) rfl (by decide) rfl (by omega) (by omega) (by decide) ((u30 60 i17 (fn_a (by omega) fn_0)).trans ((u26 60 i17 (fn_a (by omega) fn_0)).trans (u7 60 i17 (fn_a (by omega) (fn_a (by omega) fn_0))))) ?_
            refine wr_addW (nx := 132) (r1 := 0) (r2 := 0) (r3 := 0) rfl (fun e34 (fe34 : -2147483648 ≤ e34 ∧ e34 ≤ 2147483647) => ?_)
            refine wi_istore_n (i := 1) (e := e34) (lo2 := [(1, vi e34), (7, vi (h 19 i24)), (6, vi z21), (5, vi (h 58 i13)), (0, .ref 56), (2, vi x4), (3, vi x5), (4, vi x6)]) (nx := 133) (r1 := 0) (r2 := 0) (r3 := 0) rfl rfl ?_
            refine wi_aload_n (i := 0) (x := 56) (nx := 134) (r1 := 0) (r2 := 0) (r3 := 0) rfl rfl ?_
            refine wr_gr (k0 := 56) (x := 3) (nx := 137) (r1 := 6) (r2 := 0) (r3 := 0) rfl rfl (by decide) rfl ⟨rfl, rfl⟩ rfl ?_
            refine wi_iload_n (i := 2) (e := x4) (nx := 138) (r1 := 0) (r2 := 0) (r3 := 0) rfl rfl ?_
            refine wi_iload_n (i := 3) (e := x5) (nx := 139) (r1 := 0) (r2 := 0) (r3 := 0) rfl rfl ?_
            refine wi_iload (i := 7) (e := h 19 i24) (nx := 141) (r1 := 0) (r2 := 0) (r3 := 0) rfl rfl ?_
            refine wr_V (k0 := 3) (rest := []) (as := [.ref 3, vi x4, vi x5, vi (h 19 i24)]) (nx := 144) (r1 := 57) (r2 := 3) (r3 := 2) rfl rfl rfl (of_decide_eq_true rfl) rfl rfl (by decide) rfl rfl (of_decide_eq_true rfl) (of_decide_eq_true rfl) ?_
            refine wi_iload_n (i := 1) (e := x4) (nx := 1) (r1 := 0) (r2 := 0) (r3 := 0) rfl rfl ?_
            refine wi_iconst (n := (-1)) (nx := 2) (r1 := 0) (r2 := 0) (r3 := 0) rfl ?_
            refine wi_icmp (cd := .ne) (nx := 5) (r1 := 7) (r2 := 0) (r3 := 0) rfl (by omega) (by omega) (fun (q35 : x4 ≠ (-1)) => ?_) (fun (q35 : ¬ (x4 ≠ (-1))) => ?_)
            ·
              refine wi_iload_n (i := 1) (e := x4) (nx := 8) (r1 := 0) (r2 := 0) (r3 := 0) rfl rfl ?_
              refine wi_iload_n (i := 3) (e := h 19 i24) (nx := 9) (r1 := 0) (r2 := 0) (r3 := 0) rfl rfl ?_
              refine wi_icmp (cd := .eq) (nx := 12) (r1 := 14) (r2 := 0) (r3 := 0) rfl (by omega) (by omega) (fun (q36 : x4 = (h 19 i24)) => ?_) (fun (q36 : ¬ (x4 = (h 19 i24))) => ?_)
              ·
                refine wi_iload_n (i := 2) (e := x5) (nx := 15) (r1 := 0) (r2 := 0) (r3 := 0) rfl rfl ?_
                refine wi_aload_n (i := 0) (x := 3) (nx := 16) (r1 := 0) (r2 := 0) (r3 := 0) rfl rfl ?_
                have b37 := gi_b (lo := -2147483648) (hi := 2147483647) g 3 5 rfl
                refine wr_gi0 (k0 := 3) (x := h 3 5) (nx := 19) (r1 := 2) (r2 := 5) (r3 := 0) rfl rfl (by decide) rfl ⟨rfl, rfl⟩ rfl ((u30 3 5 (fn_a (by omega) fn_0)).trans ((u26 3 5 rfl).trans (u7 3 5 rfl))) ?_
                refine wi_icmp (cd := .lt) (nx := 22) (r1 := 26) (r2 := 0) (r3 := 0) rfl (by omega) (by omega) (fun (q38 : x5 < (h 3 5)) => ?_) (fun (q38 : ¬ (x5 < (h 3 5))) => ?_)
                ·
                  refine wi_iconst (n := 0) (nx := 27) (r1 := 0) (r2 := 0) (r3 := 0) rfl ?_
                  refine wi_ireturn (nx := 28) (r1 := 0) (r2 := 0) (r3 := 0) rfl rfl ?_
                  refine wk_i ?_
                  refine wi_iload_n (i := 3) (e := x5) (nx := 145) (r1 := 0) (r2 := 0) (r3 := 0) rfl rfl ?_
                  refine wi_S (rest := []) (as := [vi 0, vi x5]) (nx := 148) (r1 := 59) (r2 := 18) (r3 := 0) rfl rfl rfl (of_decide_eq_true rfl) rfl rfl (of_decide_eq_true rfl) (of_decide_eq_true rfl) ?_
                  refine wi_iload_n (i := 0) (e := 0) (nx := 1) (r1 := 0) (r2 := 0) (r3 := 0) rfl rfl ?_
                  refine wi_if (cd := .ne) (nx := 4) (r1 := 10) (r2 := 0) (r3 := 0) rfl (by omega) (fun (q39 : 0 ≠ 0) => by exfalso; omega) (fun (q39 : ¬ (0 ≠ 0)) => ?_)
                  refine wi_iload_n (i := 1) (e := x5) (nx := 5) (r1 := 0) (r2 := 0) (r3 := 0) rfl rfl ?_
                  refine wi_iconst (n := 1) (nx := 6) (r1 := 0) (r2 := 0) (r3 := 0) rfl ?_
                  refine wr_add (nx := 7) (r1 := 0) (r2 := 0) (r3 := 0) rfl (fun e40 (fe40 : e40 = x5 + 1) => ?_)
                  refine wi_goto (nx := 10) (r1 := 11) (r2 := 0) (r3 := 0) rfl ?_
                  refine wi_ireturn (nx := 12) (r1 := 0) (r2 := 0) (r3 := 0) rfl rfl ?_
                  refine wk_i ?_
                  refine wi_istore_n (i := 3) (e := e40) (lo2 := [(3, vi e40), (1, vi e34), (7, vi (h 19 i24)), (6, vi z21), (5, vi (h 58 i13)), (0, .ref 56), (2, vi x4), (4, vi x6)]) (nx := 149) (r1 := 0) (r2 := 0) (r3 := 0) rfl rfl ?_
                  refine wi_iload (i := 7) (e := h 19 i24) (nx := 151) (r1 := 0) (r2 := 0) (r3 := 0) rfl rfl ?_
                  refine wi_istore_n (i := 2) (e := h 19 i24) (lo2 := [(2, vi (h 19 i24)), (3, vi e40), (1, vi e34), (7, vi (h 19 i24)), (6, vi z21), (5, vi (h 58 i13)), (0, .ref 56), (4, vi x6)]) (nx := 152) (r1 := 0) (r2 := 0) (r3 := 0) rfl rfl ?_
                  refine wr_iinc (i := 4) (n := 1) (v := x6) (fun e41 => [(4, vi e41), (2, vi (h 19 i24)), (3, vi e40), (1, vi e34), (7, vi (h 19 i24)), (6, vi z21), (5, vi (h 58 i13)), (0, .ref 56)]) (nx := 155) (r1 := 0) (r2 := 0) (r3 := 0) rfl rfl (fun _ => rfl) (fun e41 (fe41 : e41 = x6 + 1) => ?_)
                  refine wi_goto (nx := 158) (r1 := 21) (r2 := 0) (r3 := 0) rfl ?_
                  refine wp.lo (lo := [(0, .ref 56), (1, vi e34), (2, vi (h 19 i24)), (3, vi e40), (4, vi e41)]) ⟨rfl, rfl, rfl, rfl, rfl, trivial⟩ rfl ?_
                  exact I7 e34 (h 19 i24) e40 e41 h30 ⟨g30, F31, F32, (show (-2147483648 ≤ e34 ∧ e34 ≤ 2147483647) ∧ (-2147483648 ≤ (h 19 i24) ∧ (h 19 i24) ≤ 2147483647) ∧ (-2147483648 ≤ e40 ∧ e40 ≤ 2147483647) ∧ (0 ≤ e41 ∧ e41 ≤ 48) by omega)⟩ (show ((48 : Int) + 1 - e41).toNat < ((48 : Int) + 1 - x6).toNat by omega)
                ·
                  refine wi_iconst (n := 2) (nx := 23) (r1 := 0) (r2 := 0) (r3 := 0) rfl ?_
                  refine wi_goto (nx := 26) (r1 := 27) (r2 := 0) (r3 := 0) rfl ?_
                  refine wi_ireturn (nx := 28) (r1 := 0) (r2 := 0) (r3 := 0) rfl rfl ?_
                  refine wk_i ?_
                  refine wi_iload_n (i := 3) (e := x5) (nx := 145) (r1 := 0) (r2 := 0) (r3 := 0) rfl rfl ?_
                  refine wi_S (rest := []) (as := [vi 2, vi x5]) (nx := 148) (r1 := 59) (r2 := 18) (r3 := 0) rfl rfl rfl (of_decide_eq_true rfl) rfl rfl (of_decide_eq_true rfl) (of_decide_eq_true rfl) ?_
                  refine wi_iload_n (i := 0) (e := 2) (nx := 1) (r1 := 0) (r2 := 0) (r3 := 0) rfl rfl ?_
                  refine wi_if (cd := .ne) (nx := 4) (r1 := 10) (r2 := 0) (r3 := 0) rfl (by omega) (fun (q39 : 2 ≠ 0) => ?_) (fun (q39 : ¬ (2 ≠ 0)) => by exfalso; omega)
                  refine wi_iconst (n := 1) (nx := 11) (r1 := 0) (r2 := 0) (r3 := 0) rfl ?_
                  refine wi_ireturn (nx := 12) (r1 := 0) (r2 := 0) (r3 := 0) rfl rfl ?_
                  refine wk_i ?_
                  refine wi_istore_n (i := 3) (e := 1) (lo2 := [(3, vi 1), (1, vi e34), (7, vi (h 19 i24)), (6, vi z21), (5, vi (h 58 i13)), (0, .ref 56), (2, vi x4), (4, vi x6)]) (nx := 149) (r1 := 0) (r2 := 0) (r3 := 0) rfl rfl ?_
                  refine wi_iload (i := 7) (e := h 19 i24) (nx := 151) (r1 := 0) (r2 := 0) (r3 := 0) rfl rfl ?_
                  refine wi_istore_n (i := 2) (e := h 19 i24) (lo2 := [(2, vi (h 19 i24)), (3, vi 1), (1, vi e34), (7, vi (h 19 i24)), (6, vi z21), (5, vi (h 58 i13)), (0, .ref 56), (4, vi x6)]) (nx := 152) (r1 := 0) (r2 := 0) (r3 := 0) rfl rfl ?_
                  refine wr_iinc (i := 4) (n := 1) (v := x6) (fun e40 => [(4, vi e40), (2, vi (h 19 i24)), (3, vi 1), (1, vi e34), (7, vi (h 19 i24)), (6, vi z21), (5, vi (h 58 i13)), (0, .ref 56)]) (nx := 155) (r1 := 0) (r2 := 0) (r3 := 0) rfl rfl (fun _ => rfl) (fun e40 (fe40 : e40 = x6 + 1) => ?_)
                  refine wi_goto (nx := 158) (r1 := 21) (r2 := 0) (r3 := 0) rfl ?_
                  refine wp.lo (lo := [(0, .ref 56), (1, vi e34), (2, vi (h 19 i24)), (3, vi 1), (4, vi e40)]) ⟨rfl, rfl, rfl, rfl, rfl, trivial⟩ rfl ?_
                  exact I7 e34 (h 19 i24) 1 e40 h30 ⟨g30, F31, F32, (show (-2147483648 ≤ e34 ∧ e34 ≤ 2147483647) ∧ (-2147483648 ≤ (h 19 i24) ∧ (h 19 i24) ≤ 2147483647) ∧ (-2147483648 ≤ 1 ∧ 1 ≤ 2147483647) ∧ (0 ≤ e40 ∧ e40 ≤ 48) by omega)⟩ (show ((48 : Int) + 1 - e40).toNat < ((48 : Int) + 1 - x6).toNat by omega)
              ·
                refine wi_iconst (n := 1) (nx := 13) (r1 := 0) (r2 := 0) (r3 := 0) rfl ?_
                refine wi_ireturn (nx := 14) (r1 := 0) (r2 := 0) (r3 := 0) rfl rfl ?_
                refine wk_i ?_
                refine wi_iload_n (i := 3) (e := x5) (nx := 145) (r1 := 0) (r2 := 0) (r3 := 0) rfl rfl ?_
                refine wi_S (rest := []) (as := [vi 1, vi x5]) (nx := 148) (r1 := 59) (r2 := 18) (r3 := 0) rfl rfl rfl (of_decide_eq_true rfl) rfl rfl (of_decide_eq_true rfl) (of_decide_eq_true rfl) ?_
                refine wi_iload_n (i := 0) (e := 1) (nx := 1) (r1 := 0) (r2 := 0) (r3 := 0) rfl rfl ?_
                refine wi_if (cd := .ne) (nx := 4) (r1 := 10) (r2 := 0) (r3 := 0) rfl (by omega) (fun (q37 : 1 ≠ 0) => ?_) (fun (q37 : ¬ (1 ≠ 0)) => by exfalso; omega)
                refine wi_iconst (n := 1) (nx := 11) (r1 := 0) (r2 := 0) (r3 := 0) rfl ?_
                refine wi_ireturn (nx := 12) (r1 := 0) (r2 := 0) (r3 := 0) rfl rfl ?_
                refine wk_i ?_
                refine wi_istore_n (i := 3) (e := 1) (lo2 := [(3, vi 1), (1, vi e34), (7, vi (h 19 i24)), (6, vi z21), (5, vi (h 58 i13)), (0, .ref 56), (2, vi x4), (4, vi x6)]) (nx := 149) (r1 := 0) (r2 := 0) (r3 := 0) rfl rfl ?_
                refine wi_iload (i := 7) (e := h 19 i24) (nx := 151) (r1 := 0) (r2 := 0) (r3 := 0) rfl rfl ?_
                refine wi_istore_n (i := 2) (e := h 19 i24) (lo2 := [(2, vi (h 19 i24)), (3, vi 1), (1, vi e34), (7, vi (h 19 i24)), (6, vi z21), (5, vi (h 58 i13)), (0, .ref 56), (4, vi x6)]) (nx := 152) (r1 := 0) (r2 := 0) (r3 := 0) rfl rfl ?_
                refine wr_iinc (i := 4) (n := 1) (v := x6) (fun e38 => [(4, vi e38), (2, vi (h 19 i24)), (3, vi 1), (1, vi e34), (7, vi (h 19 i24)), (6, vi z21), (5, vi (h 58 i13)), (0, .ref 56)]) (nx := 155) (r1 := 0) (r2 := 0) (r3 := 0) rfl rfl (fun _ => rfl) (fun e38 (fe38 : e38 = x6 + 1) => ?_)
                refine wi_goto (nx := 158) (r1 := 21) (r2 := 0) (r3 := 0) rfl ?_
                refine wp.lo (lo := [(0, .ref 56), (1, vi e34), (2, vi (h 19 i24)), (3, vi 1), (4, vi e38)]) ⟨rfl, rfl, rfl, rfl, rfl, trivial⟩ rfl ?_
                exact I7 e34 (h 19 i24) 1 e38 h30 ⟨g30, F31, F32, (show (-2147483648 ≤ e34 ∧ e34 ≤ 2147483647) ∧ (-2147483648 ≤ (h 19 i24) ∧ (h 19 i24) ≤ 2147483647) ∧ (-2147483648 ≤ 1 ∧ 1 ≤ 2147483647) ∧ (0 ≤ e38 ∧ e38 ≤ 48) by omega)⟩ (show ((48 : Int) + 1 - e38).toNat < ((48 : Int) + 1 - x6).toNat by omega)
            ·
              refine wi_iconst (n := 0) (nx := 6) (r1 := 0) (r2 := 0) (r3 := 0) rfl ?_
              refine wi_ireturn (nx := 7) (r1 := 0) (r2 := 0) (r3 := 0) rfl rfl ?_
              refine wk_i ?_
              refine wi_iload_n (i := 3) (e := x5) (nx := 145) (r1 := 0) (r2 := 0) (r3 := 0) rfl rfl ?_
              refine wi_S (rest := []) (as := [vi 0, vi x5]) (nx := 148) (r1 := 59) (r2 := 18) (r3 := 0) rfl rfl rfl (of_decide_eq_true rfl) rfl rfl (of_decide_eq_true rfl) (of_decide_eq_true rfl) ?_
              refine wi_iload_n (i := 0) (e := 0) (nx := 1) (r1 := 0) (r2 := 0) (r3 := 0) rfl rfl ?_
              refine wi_if (cd := .ne) (nx := 4) (r1 := 10) (r2 := 0) (r3 := 0) rfl (by omega) (fun (q36 : 0 ≠ 0) => by exfalso; omega) (fun (q36 : ¬ (0 ≠ 0)) => ?_)
              refine wi_iload_n (i := 1) (e := x5) (nx := 5) (r1 := 0) (r2 := 0) (r3 := 0) rfl rfl ?_
              refine wi_iconst (n := 1) (nx := 6) (r1 := 0) (r2 := 0) (r3 := 0) rfl ?_
              refine wr_addW (nx := 7) (r1 := 0) (r2 := 0) (r3 := 0) rfl (fun e37 (fe37 : -2147483648 ≤ e37 ∧ e37 ≤ 2147483647) => ?_)
              refine wi_goto (nx := 10) (r1 := 11) (r2 := 0) (r3 := 0) rfl ?_
              refine wi_ireturn (nx := 12) (r1 := 0) (r2 := 0) (r3 := 0) rfl rfl ?_
              refine wk_i ?_
              refine wi_istore_n (i := 3) (e := e37) (lo2 := [(3, vi e37), (1, vi e34), (7, vi (h 19 i24)), (6, vi z21), (5, vi (h 58 i13)), (0, .ref 56), (2, vi x4), (4, vi x6)]) (nx := 149) (r1 := 0) (r2 := 0) (r3 := 0) rfl rfl ?_
              refine wi_iload (i := 7) (e := h 19 i24) (nx := 151) (r1 := 0) (r2 := 0) (r3 := 0) rfl rfl ?_
              refine wi_istore_n (i := 2) (e := h 19 i24) (lo2 := [(2, vi (h 19 i24)), (3, vi e37), (1, vi e34), (7, vi (h 19 i24)), (6, vi z21), (5, vi (h 58 i13)), (0, .ref 56), (4, vi x6)]) (nx := 152) (r1 := 0) (r2 := 0) (r3 := 0) rfl rfl ?_
              refine wr_iinc (i := 4) (n := 1) (v := x6) (fun e38 => [(4, vi e38), (2, vi (h 19 i24)), (3, vi e37), (1, vi e34), (7, vi (h 19 i24)), (6, vi z21), (5, vi (h 58 i13)), (0, .ref 56)]) (nx := 155) (r1 := 0) (r2 := 0) (r3 := 0) rfl rfl (fun _ => rfl) (fun e38 (fe38 : e38 = x6 + 1) => ?_)
              refine wi_goto (nx := 158) (r1 := 21) (r2 := 0) (r3 := 0) rfl ?_
              refine wp.lo (lo := [(0, .ref 56), (1, vi e34), (2, vi (h 19 i24)), (3, vi e37), (4, vi e38)]) ⟨rfl, rfl, rfl, rfl, rfl, trivial⟩ rfl ?_
              exact I7 e34 (h 19 i24) e37 e38 h30 ⟨g30, F31, F32, (show (-2147483648 ≤ e34 ∧ e34 ≤ 2147483647) ∧ (-2147483648 ≤ (h 19 i24) ∧ (h 19 i24) ≤ 2147483647) ∧ (-2147483648 ≤ e37 ∧ e37 ≤ 2147483647) ∧ (0 ≤ e38 ∧ e38 ≤ 48) by omega)⟩ (show ((48 : Int) + 1 - e38).toNat < ((48 : Int) + 1 - x6).toNat by omega)
          ·
            refine wi_return (nx := 91) (r1 := 0) (r2 := 0) (r3 := 0) rfl rfl ?_
            exact k h7 g7 F8
      ·
        refine wi_return (nx := 56) (r1 := 0) (r2 := 0) (r3 := 0) rfl rfl ?_
        exact k h7 g7 F8
-- method 102: Unloading.plan()V
set_option maxRecDepth 100000 in
set_option maxHeartbeats 100000000 in
theorem ct_102_56 {L : Nat} {xs : Nat → Int32} {d b c : Nat} {h : hp} {cr : Nat → Nat → Option Nat} {Q : hp_Q} (hcr : CR cr)  (g : GI h)    (k : ∀ (h2 : hp) , GI h2 → FR [(57, 57, none), (58, 58, none), (59, 59, none), (60, 60, none), (61, 62, none), (56, 56, some (6, 7)), (56, 56, some (9, 9)), (56, 56, some (11, 12))] h h2 → Q (.inl none) (hp_w h2 cr) b c) : wp (md_xa (L, xs)) (d + 102) 102 (0, [(0, .ref 56)], [], hp_w h cr, b, c) Q := by
  have F0 : FR [(57, 57, none), (58, 58, none), (59, 59, none), (60, 60, none), (61, 62, none), (56, 56, some (6, 7)), (56, 56, some (9, 9)), (56, 56, some (11, 12))] h h := FR.refl
  refine wi_aload_n (i := 0) (x := 56) (nx := 1) (r1 := 0) (r2 := 0) (r3 := 0) rfl rfl ?_
  have b1 := gi_b (lo := -2147483648) (hi := 2147483647) g 56 7 rfl
  refine wr_gi0 (k0 := 56) (x := h 56 7) (nx := 4) (r1 := 6) (r2 := 7) (r3 := 0) rfl rfl (by decide) rfl ⟨rfl, rfl⟩ rfl rfl ?_
  refine wi_aload_n (i := 0) (x := 56) (nx := 5) (r1 := 0) (r2 := 0) (r3 := 0) rfl rfl ?_
  refine wr_gr (k0 := 56) (x := 18) (nx := 8) (r1 := 6) (r2 := 1) (r3 := 0) rfl rfl (by decide) rfl ⟨rfl, rfl⟩ rfl ?_
  have b2 := gi_b (lo := -2147483648) (hi := 2147483647) g 18 16 rfl
  refine wr_gi0 (k0 := 18) (x := h 18 16) (nx := 11) (r1 := 4) (r2 := 16) (r3 := 0) rfl rfl (by decide) rfl ⟨rfl, rfl⟩ rfl rfl ?_
  refine wi_icmp (cd := .ne) (nx := 14) (r1 := 15) (r2 := 0) (r3 := 0) rfl (by omega) (by omega) (fun (q3 : (h 56 7) ≠ (h 18 16)) => ?_) (fun (q3 : ¬ ((h 56 7) ≠ (h 18 16))) => ?_)
  ·
    refine wi_aload_n (i := 0) (x := 56) (nx := 16) (r1 := 0) (r2 := 0) (r3 := 0) rfl rfl ?_
    refine wi_aload_n (i := 0) (x := 56) (nx := 17) (r1 := 0) (r2 := 0) (r3 := 0) rfl rfl ?_
    refine wr_gr (k0 := 56) (x := 18) (nx := 20) (r1 := 6) (r2 := 1) (r3 := 0) rfl rfl (by decide) rfl ⟨rfl, rfl⟩ rfl ?_
    refine wr_gi0 (k0 := 18) (x := h 18 16) (nx := 23) (r1 := 4) (r2 := 16) (r3 := 0) rfl rfl (by decide) rfl ⟨rfl, rfl⟩ rfl rfl ?_
    refine wr_pf0 (k0 := 56) (x := h 18 16) (bl := -2147483648) (bh := 2147483647) (nx := 26) (r1 := 6) (r2 := 7) (r3 := 0) rfl (by decide) rfl ⟨rfl, rfl⟩ rfl rfl g rfl (by omega) (fun h4 g4 w4 u4 => ?_)
    have F5 := F0.then rfl u4
    refine wi_aload_n (i := 0) (x := 56) (nx := 27) (r1 := 0) (r2 := 0) (r3 := 0) rfl rfl ?_
    refine wi_aload_n (i := 0) (x := 56) (nx := 28) (r1 := 0) (r2 := 0) (r3 := 0) rfl rfl ?_
    refine wr_gr (k0 := 56) (x := 18) (nx := 31) (r1 := 6) (r2 := 1) (r3 := 0) rfl rfl (by decide) rfl ⟨rfl, rfl⟩ rfl ?_
    refine wr_V (k0 := 18) (rest := [.ref 56]) (as := [.ref 18]) (nx := 34) (r1 := 89) (r2 := 0) (r3 := 4) rfl rfl rfl (of_decide_eq_true rfl) rfl rfl (by decide) rfl rfl (of_decide_eq_true rfl) (of_decide_eq_true rfl) ?_
    refine ct_89_18 hcr  g4    (fun z7  (fz7 : 0 ≤ z7 ∧ z7 ≤ 48) => ?_)
    refine wk_i ?_
    refine wr_pf0 (k0 := 56) (x := z7) (bl := 0) (bh := 48) (nx := 37) (r1 := 6) (r2 := 6) (r3 := 0) rfl (by decide) rfl ⟨rfl, rfl⟩ rfl rfl g4 rfl (by omega) (fun h8 g8 w8 u8 => ?_)
    have F9 := F5.then rfl u8
    refine wi_aload_n (i := 0) (x := 56) (nx := 38) (r1 := 0) (r2 := 0) (r3 := 0) rfl rfl ?_
    refine wi_aload_n (i := 0) (x := 56) (nx := 39) (r1 := 0) (r2 := 0) (r3 := 0) rfl rfl ?_
    refine wr_V (k0 := 56) (rest := [.ref 56]) (as := [.ref 56]) (nx := 42) (r1 := 103) (r2 := 0) (r3 := 6) rfl rfl rfl (of_decide_eq_true rfl) rfl rfl (by decide) rfl rfl (of_decide_eq_true rfl) (of_decide_eq_true rfl) ?_
    refine ct_103_56 hcr  g8    (fun h10 z11 g10 u10 (fz11 : -2147483648 ≤ z11 ∧ z11 ≤ 2147483647) => ?_)
    have F12 := F9.then (by decide +kernel) u10
    refine wk_i ?_
    refine wr_V (k0 := 56) (rest := []) (as := [.ref 56, vi z11]) (nx := 45) (r1 := 104) (r2 := 1) (r3 := 6) rfl rfl rfl (of_decide_eq_true rfl) rfl rfl (by decide) rfl rfl (of_decide_eq_true rfl) (of_decide_eq_true rfl) ?_
    refine ct_104_56 hcr  g10 z11 (by omega)  (fun h13 g13 u13 => ?_)
    have F14 := F12.then (by decide +kernel) u13
    refine wk_n ?_
    refine wi_aload_n (i := 0) (x := 56) (nx := 46) (r1 := 0) (r2 := 0) (r3 := 0) rfl rfl ?_
    refine wi_iconst (n := 0) (nx := 47) (r1 := 0) (r2 := 0) (r3 := 0) rfl ?_
    refine wi_iconst (n := 0) (nx := 48) (r1 := 0) (r2 := 0) (r3 := 0) rfl ?_
    refine wi_aload_n (i := 0) (x := 56) (nx := 49) (r1 := 0) (r2 := 0) (r3 := 0) rfl rfl ?_
    refine wr_gr (k0 := 56) (x := 18) (nx := 52) (r1 := 6) (r2 := 1) (r3 := 0) rfl rfl (by decide) rfl ⟨rfl, rfl⟩ rfl ?_
    have b15 := gi_b (lo := -2147483648) (hi := 2147483647) g 18 8 rfl
    refine wr_gi0 (k0 := 18) (x := h 18 8) (nx := 55) (r1 := 4) (r2 := 8) (r3 := 0) rfl rfl (by decide) rfl ⟨rfl, rfl⟩ rfl ((u13 18 8 rfl).trans ((u10 18 8 rfl).trans ((u8 18 8 rfl).trans (u4 18 8 rfl)))) ?_
    refine wi_aload_n (i := 0) (x := 56) (nx := 56) (r1 := 0) (r2 := 0) (r3 := 0) rfl rfl ?_
    refine wr_gr (k0 := 56) (x := 18) (nx := 59) (r1 := 6) (r2 := 1) (r3 := 0) rfl rfl (by decide) rfl ⟨rfl, rfl⟩ rfl ?_
    have b16 := gi_b (lo := -2147483648) (hi := 2147483647) g 18 9 rfl
    refine wr_gi0 (k0 := 18) (x := h 18 9) (nx := 62) (r1 := 4) (r2 := 9) (r3 := 0) rfl rfl (by decide) rfl ⟨rfl, rfl⟩ rfl ((u13 18 9 rfl).trans ((u10 18 9 rfl).trans ((u8 18 9 rfl).trans (u4 18 9 rfl)))) ?_
    refine wr_V (k0 := 56) (rest := []) (as := [.ref 56, vi 0, vi 0, vi (h 18 8), vi (h 18 9)]) (nx := 65) (r1 := 105) (r2 := 4) (r3 := 6) rfl rfl rfl (of_decide_eq_true rfl) rfl rfl (by decide) rfl rfl (of_decide_eq_true rfl) (of_decide_eq_true rfl) ?_
    refine ct_105_56 hcr  g13 0 0 (h 18 8) (h 18 9) (by omega) (by omega) (by omega) (by omega)  (fun h17 z18 g17 u17 (fz18 : -2147483648 ≤ z18 ∧ z18 ≤ 2147483647) => ?_)
    have F19 := F14.then (by decide +kernel) u17
    refine wk_i ?_
    refine wi_istore_n (i := 1) (e := z18) (lo2 := [(1, vi z18), (0, .ref 56)]) (nx := 66) (r1 := 0) (r2 := 0) (r3 := 0) rfl rfl ?_
    refine wi_aload_n (i := 0) (x := 56) (nx := 67) (r1 := 0) (r2 := 0) (r3 := 0) rfl rfl ?_
    refine wi_iload_n (i := 1) (e := z18) (nx := 68) (r1 := 0) (r2 := 0) (r3 := 0) rfl rfl ?_
    refine wi_ldc (e := 1048576) (nx := 70) (r1 := 0) (r2 := 1048576) (r3 := 0) rfl rfl (by decide) ?_
    refine wi_icmp (cd := .ge) (nx := 73) (r1 := 77) (r2 := 0) (r3 := 0) rfl (by omega) (by omega) (fun (q20 : 1048576 ≤ z18) => ?_) (fun (q20 : ¬ (1048576 ≤ z18)) => ?_)
    ·
      refine wi_iconst (n := 0) (nx := 78) (r1 := 0) (r2 := 0) (r3 := 0) rfl ?_
      refine wr_pf2 (k0 := 56) (x := 0) (bl := 0) (bh := 1) (nx := 81) (r1 := 6) (r2 := 9) (r3 := 2) rfl (by decide) rfl ⟨rfl, rfl⟩ rfl (by omega) rfl g17 rfl (by omega) (fun h21 g21 w21 u21 => ?_)
      have F22 := F19.then rfl u21
      refine wi_aload_n (i := 0) (x := 56) (nx := 82) (r1 := 0) (r2 := 0) (r3 := 0) rfl rfl ?_
      refine wi_iload_n (i := 1) (e := z18) (nx := 83) (r1 := 0) (r2 := 0) (r3 := 0) rfl rfl ?_
      refine wi_bipush (n := 16) (nx := 85) (r1 := 0) (r2 := 0) (r3 := 0) rfl (by decide) ?_
      refine wr_idivC (nx := 86) (r1 := 0) (r2 := 0) (r3 := 0) rfl (by omega) (by decide) (fun e23 (fe23 : e23 = z18 / 16) => ?_)
      refine wr_pf0 (k0 := 56) (x := e23) (bl := -2147483648) (bh := 2147483647) (nx := 89) (r1 := 6) (r2 := 11) (r3 := 0) rfl (by decide) rfl ⟨rfl, rfl⟩ rfl rfl g21 rfl (by omega) (fun h24 g24 w24 u24 => ?_)
      have F25 := F22.then rfl u24
      refine wi_aload_n (i := 0) (x := 56) (nx := 90) (r1 := 0) (r2 := 0) (r3 := 0) rfl rfl ?_
      refine wi_iload_n (i := 1) (e := z18) (nx := 91) (r1 := 0) (r2 := 0) (r3 := 0) rfl rfl ?_
      refine wi_bipush (n := 16) (nx := 93) (r1 := 0) (r2 := 0) (r3 := 0) rfl (by decide) ?_
      refine wr_iremC (nx := 94) (r1 := 0) (r2 := 0) (r3 := 0) rfl (by omega) (by decide) (fun e26 (fe26 : e26 = z18 % 16) => ?_)
      refine wr_pf0 (k0 := 56) (x := e26) (bl := -2147483648) (bh := 2147483647) (nx := 97) (r1 := 6) (r2 := 12) (r3 := 0) rfl (by decide) rfl ⟨rfl, rfl⟩ rfl rfl g24 rfl (by omega) (fun h27 g27 w27 u27 => ?_)
      have F28 := F25.then rfl u27
      refine wi_aload_n (i := 0) (x := 56) (nx := 98) (r1 := 0) (r2 := 0) (r3 := 0) rfl rfl ?_
      refine wr_gr (k0 := 56) (x := 61) (nx := 101) (r1 := 6) (r2 := 8) (r3 := 0) rfl rfl (by decide) rfl ⟨rfl, rfl⟩ rfl ?_
      refine wi_iconst (n := 0) (nx := 102) (r1 := 0) (r2 := 0) (r3 := 0) rfl ?_
      refine wr_pf0 (k0 := 61) (x := 0) (bl := 0) (bh := 12) (nx := 105) (r1 := 5) (r2 := 1) (r3 := 0) rfl (by decide) rfl ⟨rfl, rfl⟩ rfl rfl g27 rfl (by omega) (fun h29 g29 w29 u29 => ?_)
      have F30 := F28.then rfl u29
      refine wi_aload_n (i := 0) (x := 56) (nx := 106) (r1 := 0) (r2 := 0) (r3 := 0) rfl rfl ?_
      refine wr_gi2 (k0 := 56) (x := 0) (nx := 109) (r1 := 6) (r2 := 9) (r3 := 0) rfl rfl (by decide) rfl ⟨rfl, rfl⟩ rfl ((u29 56 9 rfl).trans ((u27 56 9 rfl).trans ((u24 56 9 rfl).trans w21))) ?_
      refine wi_if (cd := .eq) (nx := 112) (r1 := 116) (r2 := 0) (r3 := 0) rfl (by omega) (fun (q31 : 0 = 0) => ?_) (fun (q31 : ¬ (0 = 0)) => by exfalso; omega)
      refine wi_return (nx := 117) (r1 := 0) (r2 := 0) (r3 := 0) rfl rfl ?_
      exact k h29 g29 F30
    ·
      refine wi_iconst (n := 1) (nx := 74) (r1 := 0) (r2 := 0) (r3 := 0) rfl ?_
      refine wi_goto (nx := 77) (r1 := 78) (r2 := 0) (r3 := 0) rfl ?_
      refine wr_pf2 (k0 := 56) (x := 1) (bl := 0) (bh := 1) (nx := 81) (r1 := 6) (r2 := 9) (r3 := 2) rfl (by decide) rfl ⟨rfl, rfl⟩ rfl (by omega) rfl g17 rfl (by omega) (fun h21 g21 w21 u21 => ?_)
      have F22 := F19.then rfl u21
      refine wi_aload_n (i := 0) (x := 56) (nx := 82) (r1 := 0) (r2 := 0) (r3 := 0) rfl rfl ?_
      refine wi_iload_n (i := 1) (e := z18) (nx := 83) (r1 := 0) (r2 := 0) (r3 := 0) rfl rfl ?_
      refine wi_bipush (n := 16) (nx := 85) (r1 := 0) (r2 := 0) (r3 := 0) rfl (by decide) ?_
      refine wr_idivA (nx := 86) (r1 := 0) (r2 := 0) (r3 := 0) rfl (by decide) (fun e23 (fe23 : -2147483648 ≤ e23 ∧ e23 ≤ 2147483647) => ?_)
      refine wr_pf0 (k0 := 56) (x := e23) (bl := -2147483648) (bh := 2147483647) (nx := 89) (r1 := 6) (r2 := 11) (r3 := 0) rfl (by decide) rfl ⟨rfl, rfl⟩ rfl rfl g21 rfl (by omega) (fun h24 g24 w24 u24 => ?_)
      have F25 := F22.then rfl u24
      refine wi_aload_n (i := 0) (x := 56) (nx := 90) (r1 := 0) (r2 := 0) (r3 := 0) rfl rfl ?_
      refine wi_iload_n (i := 1) (e := z18) (nx := 91) (r1 := 0) (r2 := 0) (r3 := 0) rfl rfl ?_
      refine wi_bipush (n := 16) (nx := 93) (r1 := 0) (r2 := 0) (r3 := 0) rfl (by decide) ?_
      refine wr_iremA (nx := 94) (r1 := 0) (r2 := 0) (r3 := 0) rfl (by decide) (fun e26 (fe26 : -2147483648 ≤ e26 ∧ e26 ≤ 2147483647) => ?_)
      refine wr_pf0 (k0 := 56) (x := e26) (bl := -2147483648) (bh := 2147483647) (nx := 97) (r1 := 6) (r2 := 12) (r3 := 0) rfl (by decide) rfl ⟨rfl, rfl⟩ rfl rfl g24 rfl (by omega) (fun h27 g27 w27 u27 => ?_)
      have F28 := F25.then rfl u27
      refine wi_aload_n (i := 0) (x := 56) (nx := 98) (r1 := 0) (r2 := 0) (r3 := 0) rfl rfl ?_
      refine wr_gr (k0 := 56) (x := 61) (nx := 101) (r1 := 6) (r2 := 8) (r3 := 0) rfl rfl (by decide) rfl ⟨rfl, rfl⟩ rfl ?_
      refine wi_iconst (n := 0) (nx := 102) (r1 := 0) (r2 := 0) (r3 := 0) rfl ?_
      refine wr_pf0 (k0 := 61) (x := 0) (bl := 0) (bh := 12) (nx := 105) (r1 := 5) (r2 := 1) (r3 := 0) rfl (by decide) rfl ⟨rfl, rfl⟩ rfl rfl g27 rfl (by omega) (fun h29 g29 w29 u29 => ?_)
      have F30 := F28.then rfl u29
      refine wi_aload_n (i := 0) (x := 56) (nx := 106) (r1 := 0) (r2 := 0) (r3 := 0) rfl rfl ?_
      refine wr_gi2 (k0 := 56) (x := 1) (nx := 109) (r1 := 6) (r2 := 9) (r3 := 0) rfl rfl (by decide) rfl ⟨rfl, rfl⟩ rfl ((u29 56 9 rfl).trans ((u27 56 9 rfl).trans ((u24 56 9 rfl).trans w21))) ?_
      refine wi_if (cd := .eq) (nx := 112) (r1 := 116) (r2 := 0) (r3 := 0) rfl (by omega) (fun (q31 : 1 = 0) => by exfalso; omega) (fun (q31 : ¬ (1 = 0)) => ?_)
      refine wi_aload_n (i := 0) (x := 56) (nx := 113) (r1 := 0) (r2 := 0) (r3 := 0) rfl rfl ?_
      refine wr_V (k0 := 56) (rest := []) (as := [.ref 56]) (nx := 116) (r1 := 109) (r2 := 0) (r3 := 6) rfl rfl rfl (of_decide_eq_true rfl) rfl rfl (by decide) rfl rfl (of_decide_eq_true rfl) (of_decide_eq_true rfl) ?_
      refine ct_109_56 hcr  g29    (fun h32 g32 u32 => ?_)
      have F33 := F30.then (by decide +kernel) u32
      refine wk_n ?_
      refine wi_return (nx := 117) (r1 := 0) (r2 := 0) (r3 := 0) rfl rfl ?_
      exact k h32 g32 F33
  ·
    refine wi_return (nx := 15) (r1 := 0) (r2 := 0) (r3 := 0) rfl rfl ?_
    exact k h g F0
-- method 23: Bank.unloadChanges()I
set_option maxRecDepth 100000 in
set_option maxHeartbeats 100000000 in
theorem ct_23_0 {L : Nat} {xs : Nat → Int32} {d b c : Nat} {h : hp} {cr : Nat → Nat → Option Nat} {Q : hp_Q} (hcr : CR cr)  (g : GI h)    (k : ∀ (h2 : hp) (z0 : Int) , GI h2 → FR [(57, 57, none), (58, 58, none), (59, 59, none), (60, 60, none), (61, 62, none), (56, 56, some (6, 7)), (56, 56, some (9, 9)), (56, 56, some (11, 12))] h h2 → (-2147483648 ≤ z0 ∧ z0 ≤ 2147483647) → Q (.inl (some (vi z0))) (hp_w h2 cr) b c) : wp (md_xa (L, xs)) (d + 103) 23 (0, [(0, .ref 0)], [], hp_w h cr, b, c) Q := by
  have F0 : FR [(57, 57, none), (58, 58, none), (59, 59, none), (60, 60, none), (61, 62, none), (56, 56, some (6, 7)), (56, 56, some (9, 9)), (56, 56, some (11, 12))] h h := FR.refl
  refine wi_aload_n (i := 0) (x := 0) (nx := 1) (r1 := 0) (r2 := 0) (r3 := 0) rfl rfl ?_
  refine wr_gr (k0 := 0) (x := 56) (nx := 4) (r1 := 0) (r2 := 5) (r3 := 0) rfl rfl (by decide) rfl ⟨rfl, rfl⟩ rfl ?_
  refine wr_V (k0 := 56) (rest := []) (as := [.ref 56]) (nx := 7) (r1 := 102) (r2 := 0) (r3 := 6) rfl rfl rfl (of_decide_eq_true rfl) rfl rfl (by decide) rfl rfl (of_decide_eq_true rfl) (of_decide_eq_true rfl) ?_
  refine ct_102_56 hcr  g    (fun h1 g1 u1 => ?_)
  have F2 := F0.then (by decide +kernel) u1
  refine wk_n ?_
  refine wi_aload_n (i := 0) (x := 0) (nx := 8) (r1 := 0) (r2 := 0) (r3 := 0) rfl rfl ?_
  refine wr_gr (k0 := 0) (x := 56) (nx := 11) (r1 := 0) (r2 := 5) (r3 := 0) rfl rfl (by decide) rfl ⟨rfl, rfl⟩ rfl ?_
  have b3 := gi_b (lo := 0) (hi := 1) g1 56 9 rfl
  refine wr_gi2 (k0 := 56) (x := h1 56 9) (nx := 14) (r1 := 6) (r2 := 9) (r3 := 0) rfl rfl (by decide) rfl ⟨rfl, rfl⟩ rfl rfl ?_
  refine wi_if (cd := .eq) (nx := 17) (r1 := 27) (r2 := 0) (r3 := 0) rfl (by omega) (fun (q4 : (h1 56 9) = 0) => ?_) (fun (q4 : ¬ ((h1 56 9) = 0)) => ?_)
  ·
    refine wi_iconst (n := (-1)) (nx := 28) (r1 := 0) (r2 := 0) (r3 := 0) rfl ?_
    refine wi_ireturn (nx := 29) (r1 := 0) (r2 := 0) (r3 := 0) rfl rfl ?_
    exact k h1 (-1) g1 F2 (by omega)
  ·
    refine wi_aload_n (i := 0) (x := 0) (nx := 18) (r1 := 0) (r2 := 0) (r3 := 0) rfl rfl ?_
    refine wr_gr (k0 := 0) (x := 56) (nx := 21) (r1 := 0) (r2 := 5) (r3 := 0) rfl rfl (by decide) rfl ⟨rfl, rfl⟩ rfl ?_
    have b5 := gi_b (lo := -2147483648) (hi := 2147483647) g1 56 12 rfl
    refine wr_gi0 (k0 := 56) (x := h1 56 12) (nx := 24) (r1 := 6) (r2 := 12) (r3 := 0) rfl rfl (by decide) rfl ⟨rfl, rfl⟩ rfl rfl ?_
    refine wi_goto (nx := 27) (r1 := 28) (r2 := 0) (r3 := 0) rfl ?_
    refine wi_ireturn (nx := 29) (r1 := 0) (r2 := 0) (r3 := 0) rfl rfl ?_
    exact k h1 (h1 56 12) g1 F2 (by omega)
-- method 22: Bank.unloadCost()I
set_option maxRecDepth 100000 in
set_option maxHeartbeats 100000000 in
theorem ct_22_0 {L : Nat} {xs : Nat → Int32} {d b c : Nat} {h : hp} {cr : Nat → Nat → Option Nat} {Q : hp_Q} (hcr : CR cr)  (g : GI h)    (k : ∀ (h2 : hp) (z0 : Int) , GI h2 → FR [(57, 57, none), (58, 58, none), (59, 59, none), (60, 60, none), (61, 62, none), (56, 56, some (6, 7)), (56, 56, some (9, 9)), (56, 56, some (11, 12))] h h2 → (-2147483648 ≤ z0 ∧ z0 ≤ 2147483647) → Q (.inl (some (vi z0))) (hp_w h2 cr) b c) : wp (md_xa (L, xs)) (d + 103) 22 (0, [(0, .ref 0)], [], hp_w h cr, b, c) Q := by
  have F0 : FR [(57, 57, none), (58, 58, none), (59, 59, none), (60, 60, none), (61, 62, none), (56, 56, some (6, 7)), (56, 56, some (9, 9)), (56, 56, some (11, 12))] h h := FR.refl
  refine wi_aload_n (i := 0) (x := 0) (nx := 1) (r1 := 0) (r2 := 0) (r3 := 0) rfl rfl ?_
  refine wr_gr (k0 := 0) (x := 56) (nx := 4) (r1 := 0) (r2 := 5) (r3 := 0) rfl rfl (by decide) rfl ⟨rfl, rfl⟩ rfl ?_
  refine wr_V (k0 := 56) (rest := []) (as := [.ref 56]) (nx := 7) (r1 := 102) (r2 := 0) (r3 := 6) rfl rfl rfl (of_decide_eq_true rfl) rfl rfl (by decide) rfl rfl (of_decide_eq_true rfl) (of_decide_eq_true rfl) ?_
  refine ct_102_56 hcr  g    (fun h1 g1 u1 => ?_)
  have F2 := F0.then (by decide +kernel) u1
  refine wk_n ?_
  refine wi_aload_n (i := 0) (x := 0) (nx := 8) (r1 := 0) (r2 := 0) (r3 := 0) rfl rfl ?_
  refine wr_gr (k0 := 0) (x := 56) (nx := 11) (r1 := 0) (r2 := 5) (r3 := 0) rfl rfl (by decide) rfl ⟨rfl, rfl⟩ rfl ?_
  have b3 := gi_b (lo := 0) (hi := 1) g1 56 9 rfl
  refine wr_gi2 (k0 := 56) (x := h1 56 9) (nx := 14) (r1 := 6) (r2 := 9) (r3 := 0) rfl rfl (by decide) rfl ⟨rfl, rfl⟩ rfl rfl ?_
  refine wi_if (cd := .eq) (nx := 17) (r1 := 27) (r2 := 0) (r3 := 0) rfl (by omega) (fun (q4 : (h1 56 9) = 0) => ?_) (fun (q4 : ¬ ((h1 56 9) = 0)) => ?_)
  ·
    refine wi_iconst (n := (-1)) (nx := 28) (r1 := 0) (r2 := 0) (r3 := 0) rfl ?_
    refine wi_ireturn (nx := 29) (r1 := 0) (r2 := 0) (r3 := 0) rfl rfl ?_
    exact k h1 (-1) g1 F2 (by omega)
  ·
    refine wi_aload_n (i := 0) (x := 0) (nx := 18) (r1 := 0) (r2 := 0) (r3 := 0) rfl rfl ?_
    refine wr_gr (k0 := 0) (x := 56) (nx := 21) (r1 := 0) (r2 := 5) (r3 := 0) rfl rfl (by decide) rfl ⟨rfl, rfl⟩ rfl ?_
    have b5 := gi_b (lo := -2147483648) (hi := 2147483647) g1 56 11 rfl
    refine wr_gi0 (k0 := 56) (x := h1 56 11) (nx := 24) (r1 := 6) (r2 := 11) (r3 := 0) rfl rfl (by decide) rfl ⟨rfl, rfl⟩ rfl rfl ?_
    refine wi_goto (nx := 27) (r1 := 28) (r2 := 0) (r3 := 0) rfl ?_
    refine wi_ireturn (nx := 29) (r1 := 0) (r2 := 0) (r3 := 0) rfl rfl ?_
    exact k h1 (h1 56 11) g1 F2 (by omega)
-- method 73: Line.waitingCount()I
set_option maxRecDepth 100000 in
set_option maxHeartbeats 100000000 in
theorem ct_73_18 {L : Nat} {xs : Nat → Int32} {d b c : Nat} {h : hp} {cr : Nat → Nat → Option Nat} {Q : hp_Q} (hcr : CR cr)  (g : GI h)    (k : ∀ (z0 : Int), (-12 ≤ z0 ∧ z0 ≤ 12) → Q (.inl (some (vi z0))) (hp_w h cr) b c) : wp (md_xa (L, xs)) d 73 (0, [(0, .ref 18)], [], hp_w h cr, b, c) Q := by
  have F0 : FR [] h h := FR.refl
  refine wi_aload_n (i := 0) (x := 18) (nx := 1) (r1 := 0) (r2 := 0) (r3 := 0) rfl rfl ?_
  refine wr_gr (k0 := 18) (x := 3) (nx := 4) (r1 := 4) (r2 := 0) (r3 := 0) rfl rfl (by decide) rfl ⟨rfl, rfl⟩ rfl ?_
  have b1 := gi_b (lo := 0) (hi := 12) g 3 2 rfl
  refine wr_gi0 (k0 := 3) (x := h 3 2) (nx := 7) (r1 := 2) (r2 := 2) (r3 := 0) rfl rfl (by decide) rfl ⟨rfl, rfl⟩ rfl rfl ?_
  refine wi_aload_n (i := 0) (x := 18) (nx := 8) (r1 := 0) (r2 := 0) (r3 := 0) rfl rfl ?_
  have b2 := gi_b (lo := 0) (hi := 12) g 18 7 rfl
  refine wr_gi0 (k0 := 18) (x := h 18 7) (nx := 11) (r1 := 4) (r2 := 7) (r3 := 0) rfl rfl (by decide) rfl ⟨rfl, rfl⟩ rfl rfl ?_
  refine wr_sub (nx := 12) (r1 := 0) (r2 := 0) (r3 := 0) rfl (fun e3 (fe3 : e3 = (h 3 2) - (h 18 7)) => ?_)
  refine wi_ireturn (nx := 13) (r1 := 0) (r2 := 0) (r3 := 0) rfl rfl ?_
  exact k e3 (by omega)
-- method 12: Bank.waiting()I
set_option maxRecDepth 100000 in
set_option maxHeartbeats 100000000 in
theorem ct_12_0 {L : Nat} {xs : Nat → Int32} {d b c : Nat} {h : hp} {cr : Nat → Nat → Option Nat} {Q : hp_Q} (hcr : CR cr)  (g : GI h)    (k : ∀ (z0 : Int), (-12 ≤ z0 ∧ z0 ≤ 12) → Q (.inl (some (vi z0))) (hp_w h cr) b c) : wp (md_xa (L, xs)) (d + 1) 12 (0, [(0, .ref 0)], [], hp_w h cr, b, c) Q := by
  have F0 : FR [] h h := FR.refl
  refine wi_aload_n (i := 0) (x := 0) (nx := 1) (r1 := 0) (r2 := 0) (r3 := 0) rfl rfl ?_
  refine wr_gr (k0 := 0) (x := 18) (nx := 4) (r1 := 0) (r2 := 3) (r3 := 0) rfl rfl (by decide) rfl ⟨rfl, rfl⟩ rfl ?_
  refine wr_V (k0 := 18) (rest := []) (as := [.ref 18]) (nx := 7) (r1 := 73) (r2 := 0) (r3 := 4) rfl rfl rfl (of_decide_eq_true rfl) rfl rfl (by decide) rfl rfl (of_decide_eq_true rfl) (of_decide_eq_true rfl) ?_
  refine ct_73_18 hcr  g    (fun z2  (fz2 : -12 ≤ z2 ∧ z2 ≤ 12) => ?_)
  refine wk_i ?_
  refine wi_ireturn (nx := 8) (r1 := 0) (r2 := 0) (r3 := 0) rfl rfl ?_
  exact k z2 (by omega)
-- method 93: Line.changesAmongWaiting()I
set_option maxRecDepth 100000 in
set_option maxHeartbeats 100000000 in
theorem ct_93_18 {L : Nat} {xs : Nat → Int32} {d b c : Nat} {h : hp} {cr : Nat → Nat → Option Nat} {Q : hp_Q} (hcr : CR cr)  (g : GI h)    (k : ∀ (z0 : Int), (-2147483648 ≤ z0 ∧ z0 ≤ 2147483647) → Q (.inl (some (vi z0))) (hp_w h cr) b c) : wp (md_xa (L, xs)) d 93 (0, [(0, .ref 18)], [], hp_w h cr, b, c) Q := by
  have F0 : FR [] h h := FR.refl
  refine wi_iconst (n := 0) (nx := 1) (r1 := 0) (r2 := 0) (r3 := 0) rfl ?_
  refine wi_istore_n (i := 1) (e := 0) (lo2 := [(1, vi 0), (0, .ref 18)]) (nx := 2) (r1 := 0) (r2 := 0) (r3 := 0) rfl rfl ?_
  refine wi_aload_n (i := 0) (x := 18) (nx := 3) (r1 := 0) (r2 := 0) (r3 := 0) rfl rfl ?_
  have b1 := gi_b (lo := 0) (hi := 12) g 18 7 rfl
  refine wr_gi0 (k0 := 18) (x := h 18 7) (nx := 6) (r1 := 4) (r2 := 7) (r3 := 0) rfl rfl (by decide) rfl ⟨rfl, rfl⟩ rfl rfl ?_
  refine wi_iconst (n := 1) (nx := 7) (r1 := 0) (r2 := 0) (r3 := 0) rfl ?_
  refine wr_add (nx := 8) (r1 := 0) (r2 := 0) (r3 := 0) rfl (fun e2 (fe2 : e2 = (h 18 7) + 1) => ?_)
  refine wi_istore_n (i := 2) (e := e2) (lo2 := [(2, vi e2), (1, vi 0), (0, .ref 18)]) (nx := 9) (r1 := 0) (r2 := 0) (r3 := 0) rfl rfl ?_
  refine wp.lo (lo := [(0, .ref 18), (1, vi 0), (2, vi e2)]) ⟨rfl, rfl, rfl, trivial⟩ rfl ?_
  refine wl_2 (fun x3 x4 h5 => h = h5 ∧ ((-2147483648 ≤ x3 ∧ x3 ≤ 2147483647) ∧ (1 ≤ x4 ∧ x4 ≤ 13))) (fun x3 x4 h5 => ((13 : Int) + 1 - x4).toNat) (fun x3 x4 h5 => (9, [(0, .ref 18), (1, vi x3), (2, vi x4)], [], hp_w h5 cr, b, c)) ?_ 0 e2 h ⟨rfl, (show (-2147483648 ≤ 0 ∧ 0 ≤ 2147483647) ∧ (1 ≤ e2 ∧ e2 ≤ 13) by omega)⟩
  intro x3 x4 h5 ⟨e5, f5⟩ I5
  subst e5
  refine wi_iload_n (i := 2) (e := x4) (nx := 10) (r1 := 0) (r2 := 0) (r3 := 0) rfl rfl ?_
  refine wi_aload_n (i := 0) (x := 18) (nx := 11) (r1 := 0) (r2 := 0) (r3 := 0) rfl rfl ?_
  refine wr_gr (k0 := 18) (x := 3) (nx := 14) (r1 := 4) (r2 := 0) (r3 := 0) rfl rfl (by decide) rfl ⟨rfl, rfl⟩ rfl ?_
  have b7 := gi_b (lo := 0) (hi := 12) g 3 2 rfl
  refine wr_gi0 (k0 := 3) (x := h 3 2) (nx := 17) (r1 := 2) (r2 := 2) (r3 := 0) rfl rfl (by decide) rfl ⟨rfl, rfl⟩ rfl rfl ?_
  refine wi_icmp (cd := .ge) (nx := 20) (r1 := 46) (r2 := 0) (r3 := 0) rfl (by omega) (by omega) (fun (q8 : (h 3 2) ≤ x4) => ?_) (fun (q8 : ¬ ((h 3 2) ≤ x4)) => ?_)
  ·
    refine wi_iload_n (i := 1) (e := x3) (nx := 47) (r1 := 0) (r2 := 0) (r3 := 0) rfl rfl ?_
    refine wi_ireturn (nx := 48) (r1 := 0) (r2 := 0) (r3 := 0) rfl rfl ?_
    exact k x3 (by omega)
  ·
    refine wi_aload_n (i := 0) (x := 18) (nx := 21) (r1 := 0) (r2 := 0) (r3 := 0) rfl rfl ?_
    refine wr_gr (k0 := 18) (x := 19) (nx := 24) (r1 := 4) (r2 := 1) (r3 := 0) rfl rfl (by decide) rfl ⟨rfl, rfl⟩ rfl ?_
    refine wi_iload_n (i := 2) (e := x4) (nx := 25) (r1 := 0) (r2 := 0) (r3 := 0) rfl rfl ?_
    obtain ⟨i9, ei9⟩ : ∃ q : Nat, x4 = (q : Int) := ⟨(x4).toNat, by omega⟩
    have b10 := gi_b (lo := -2147483648) (hi := 2147483647) g 19 i9 rfl
    refine wr_ia (k0 := 19) (a := x4) (f := i9) (x := h 19 i9) (nx := 26) (r1 := 0) (r2 := 0) (r3 := 0) rfl (by decide) rfl (by omega) (by omega) (by decide) rfl ?_
    refine wi_aload_n (i := 0) (x := 18) (nx := 27) (r1 := 0) (r2 := 0) (r3 := 0) rfl rfl ?_
    refine wr_gr (k0 := 18) (x := 19) (nx := 30) (r1 := 4) (r2 := 1) (r3 := 0) rfl rfl (by decide) rfl ⟨rfl, rfl⟩ rfl ?_
    refine wi_iload_n (i := 2) (e := x4) (nx := 31) (r1 := 0) (r2 := 0) (r3 := 0) rfl rfl ?_
    refine wi_iconst (n := 1) (nx := 32) (r1 := 0) (r2 := 0) (r3 := 0) rfl ?_
    refine wr_sub (nx := 33) (r1 := 0) (r2 := 0) (r3 := 0) rfl (fun e11 (fe11 : e11 = x4 - 1) => ?_)
    obtain ⟨i12, ei12⟩ : ∃ q : Nat, e11 = (q : Int) := ⟨(e11).toNat, by omega⟩
    have b13 := gi_b (lo := -2147483648) (hi := 2147483647) g 19 i12 rfl
    refine wr_ia (k0 := 19) (a := e11) (f := i12) (x := h 19 i12) (nx := 34) (r1 := 0) (r2 := 0) (r3 := 0) rfl (by decide) rfl (by omega) (by omega) (by decide) rfl ?_
    refine wi_icmp (cd := .eq) (nx := 37) (r1 := 40) (r2 := 0) (r3 := 0) rfl (by omega) (by omega) (fun (q14 : (h 19 i9) = (h 19 i12)) => ?_) (fun (q14 : ¬ ((h 19 i9) = (h 19 i12))) => ?_)
    ·
      refine wr_iinc (i := 2) (n := 1) (v := x4) (fun e15 => [(2, vi e15), (0, .ref 18), (1, vi x3)]) (nx := 43) (r1 := 0) (r2 := 0) (r3 := 0) rfl rfl (fun _ => rfl) (fun e15 (fe15 : e15 = x4 + 1) => ?_)
      refine wi_goto (nx := 46) (r1 := 9) (r2 := 0) (r3 := 0) rfl ?_
      refine wp.lo (lo := [(0, .ref 18), (1, vi x3), (2, vi e15)]) ⟨rfl, rfl, rfl, trivial⟩ rfl ?_
      exact I5 x3 e15 h ⟨rfl, (show (-2147483648 ≤ x3 ∧ x3 ≤ 2147483647) ∧ (1 ≤ e15 ∧ e15 ≤ 13) by omega)⟩ (show ((13 : Int) + 1 - e15).toNat < ((13 : Int) + 1 - x4).toNat by omega)
    ·
      refine wr_iincW (i := 1) (n := 1) (v := x3) (fun e15 => [(1, vi e15), (0, .ref 18), (2, vi x4)]) (nx := 40) (r1 := 0) (r2 := 0) (r3 := 0) rfl rfl (fun _ => rfl) (fun e15 (fe15 : -2147483648 ≤ e15 ∧ e15 ≤ 2147483647) => ?_)
      refine wr_iinc (i := 2) (n := 1) (v := x4) (fun e16 => [(2, vi e16), (1, vi e15), (0, .ref 18)]) (nx := 43) (r1 := 0) (r2 := 0) (r3 := 0) rfl rfl (fun _ => rfl) (fun e16 (fe16 : e16 = x4 + 1) => ?_)
      refine wi_goto (nx := 46) (r1 := 9) (r2 := 0) (r3 := 0) rfl ?_
      refine wp.lo (lo := [(0, .ref 18), (1, vi e15), (2, vi e16)]) ⟨rfl, rfl, rfl, trivial⟩ rfl ?_
      exact I5 e15 e16 h ⟨rfl, (show (-2147483648 ≤ e15 ∧ e15 ≤ 2147483647) ∧ (1 ≤ e16 ∧ e16 ≤ 13) by omega)⟩ (show ((13 : Int) + 1 - e16).toNat < ((13 : Int) + 1 - x4).toNat by omega)
-- method 26: Bank.waitingChanges()I
set_option maxRecDepth 100000 in
set_option maxHeartbeats 100000000 in
theorem ct_26_0 {L : Nat} {xs : Nat → Int32} {d b c : Nat} {h : hp} {cr : Nat → Nat → Option Nat} {Q : hp_Q} (hcr : CR cr)  (g : GI h)    (k : ∀ (z0 : Int), (-2147483648 ≤ z0 ∧ z0 ≤ 2147483647) → Q (.inl (some (vi z0))) (hp_w h cr) b c) : wp (md_xa (L, xs)) (d + 1) 26 (0, [(0, .ref 0)], [], hp_w h cr, b, c) Q := by
  have F0 : FR [] h h := FR.refl
  refine wi_aload_n (i := 0) (x := 0) (nx := 1) (r1 := 0) (r2 := 0) (r3 := 0) rfl rfl ?_
  refine wr_gr (k0 := 0) (x := 18) (nx := 4) (r1 := 0) (r2 := 3) (r3 := 0) rfl rfl (by decide) rfl ⟨rfl, rfl⟩ rfl ?_
  refine wr_V (k0 := 18) (rest := []) (as := [.ref 18]) (nx := 7) (r1 := 93) (r2 := 0) (r3 := 4) rfl rfl rfl (of_decide_eq_true rfl) rfl rfl (by decide) rfl rfl (of_decide_eq_true rfl) (of_decide_eq_true rfl) ?_
  refine ct_93_18 hcr  g    (fun z2  (fz2 : -2147483648 ≤ z2 ∧ z2 ≤ 2147483647) => ?_)
  refine wk_i ?_
  refine wi_ireturn (nx := 8) (r1 := 0) (r2 := 0) (r3 := 0) rfl rfl ?_
  exact k z2 (by omega)
