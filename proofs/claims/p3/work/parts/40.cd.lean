-- method 143: Line.paint(IZ)V
set_option maxRecDepth 100000 in
set_option maxHeartbeats 100000000 in
theorem ct_143_37 {L : Nat} {xs : Nat → Int32} {d b c : Nat} {h : hp} {cr : Nat → Nat → Option Nat} {Q : hp_Q} (hcr : CR cr)  (g : GI h) (a0 : Int) (a1 : Int) (q0_ : 0 ≤ a0 ∧ a0 ≤ 11) (q1_ : 0 ≤ a1 ∧ a1 ≤ 1)  (k : ∀ (h2 : hp) , GI h2 → FR [(37, 55, none)] h h2 → Q (.inl none) (hp_w h2 cr) b c) : wp (md_xa (L, xs)) (d + 1) 143 (0, [(0, .ref 37), (1, vi a0), (2, vi a1)], [], hp_w h cr, b, c) Q := by
  have F0 : FR [(37, 55, none)] h h := FR.refl
  refine wi_aload_n (i := 0) (x := 37) (nx := 1) (r1 := 0) (r2 := 0) (r3 := 0) rfl rfl ?_
  refine wr_gr (k0 := 37) (x := 3) (nx := 4) (r1 := 4) (r2 := 0) (r3 := 0) rfl rfl (by decide) rfl ⟨rfl, rfl⟩ rfl ?_
  refine wi_aload_n (i := 0) (x := 37) (nx := 5) (r1 := 0) (r2 := 0) (r3 := 0) rfl rfl ?_
  have b1 := gi_b (lo := -2147483648) (hi := 2147483647) g 37 8 rfl
  refine wr_gi0 (k0 := 37) (x := h 37 8) (nx := 8) (r1 := 4) (r2 := 8) (r3 := 0) rfl rfl (by decide) rfl ⟨rfl, rfl⟩ rfl rfl ?_
  refine wi_aload_n (i := 0) (x := 37) (nx := 9) (r1 := 0) (r2 := 0) (r3 := 0) rfl rfl ?_
  have b2 := gi_b (lo := -2147483648) (hi := 2147483647) g 37 9 rfl
  refine wr_gi0 (k0 := 37) (x := h 37 9) (nx := 12) (r1 := 4) (r2 := 9) (r3 := 0) rfl rfl (by decide) rfl ⟨rfl, rfl⟩ rfl rfl ?_
  refine wi_aload_n (i := 0) (x := 37) (nx := 13) (r1 := 0) (r2 := 0) (r3 := 0) rfl rfl ?_
  refine wr_gr (k0 := 37) (x := 38) (nx := 16) (r1 := 4) (r2 := 1) (r3 := 0) rfl rfl (by decide) rfl ⟨rfl, rfl⟩ rfl ?_
  refine wi_iload_n (i := 1) (e := a0) (nx := 17) (r1 := 0) (r2 := 0) (r3 := 0) rfl rfl ?_
  obtain ⟨i3, ei3⟩ : ∃ q : Nat, a0 = (q : Int) := ⟨(a0).toNat, by omega⟩
  have b4 := gi_b (lo := -2147483648) (hi := 2147483647) g 38 i3 rfl
  refine wr_ia (k0 := 38) (a := a0) (f := i3) (x := h 38 i3) (nx := 18) (r1 := 0) (r2 := 0) (r3 := 0) rfl (by decide) rfl (by omega) (by omega) (by decide) rfl ?_
  refine wr_V (k0 := 3) (rest := []) (as := [.ref 3, vi (h 37 8), vi (h 37 9), vi (h 38 i3)]) (nx := 21) (r1 := 109) (r2 := 3) (r3 := 2) rfl rfl rfl (of_decide_eq_true rfl) rfl rfl (by decide) rfl rfl (of_decide_eq_true rfl) (of_decide_eq_true rfl) ?_
  refine wi_iload_n (i := 1) (e := h 37 8) (nx := 1) (r1 := 0) (r2 := 0) (r3 := 0) rfl rfl ?_
  refine wi_iconst (n := (-1)) (nx := 2) (r1 := 0) (r2 := 0) (r3 := 0) rfl ?_
  refine wi_icmp (cd := .ne) (nx := 5) (r1 := 7) (r2 := 0) (r3 := 0) rfl (by omega) (by omega) (fun (q5 : (h 37 8) ≠ (-1)) => ?_) (fun (q5 : ¬ ((h 37 8) ≠ (-1))) => ?_)
  ·
    refine wi_iload_n (i := 1) (e := h 37 8) (nx := 8) (r1 := 0) (r2 := 0) (r3 := 0) rfl rfl ?_
    refine wi_iload_n (i := 3) (e := h 38 i3) (nx := 9) (r1 := 0) (r2 := 0) (r3 := 0) rfl rfl ?_
    refine wi_icmp (cd := .eq) (nx := 12) (r1 := 14) (r2 := 0) (r3 := 0) rfl (by omega) (by omega) (fun (q6 : (h 37 8) = (h 38 i3)) => ?_) (fun (q6 : ¬ ((h 37 8) = (h 38 i3))) => ?_)
    ·
      refine wi_iload_n (i := 2) (e := h 37 9) (nx := 15) (r1 := 0) (r2 := 0) (r3 := 0) rfl rfl ?_
      refine wi_aload_n (i := 0) (x := 3) (nx := 16) (r1 := 0) (r2 := 0) (r3 := 0) rfl rfl ?_
      have b7 := gi_b (lo := -2147483648) (hi := 2147483647) g 3 5 rfl
      refine wr_gi0 (k0 := 3) (x := h 3 5) (nx := 19) (r1 := 2) (r2 := 5) (r3 := 0) rfl rfl (by decide) rfl ⟨rfl, rfl⟩ rfl rfl ?_
      refine wi_icmp (cd := .lt) (nx := 22) (r1 := 26) (r2 := 0) (r3 := 0) rfl (by omega) (by omega) (fun (q8 : (h 37 9) < (h 3 5)) => ?_) (fun (q8 : ¬ ((h 37 9) < (h 3 5))) => ?_)
      ·
        refine wi_iconst (n := 0) (nx := 27) (r1 := 0) (r2 := 0) (r3 := 0) rfl ?_
        refine wi_ireturn (nx := 28) (r1 := 0) (r2 := 0) (r3 := 0) rfl rfl ?_
        refine wk_i ?_
        refine wi_istore_n (i := 3) (e := 0) (lo2 := [(3, vi 0), (0, .ref 37), (1, vi a0), (2, vi a1)]) (nx := 22) (r1 := 0) (r2 := 0) (r3 := 0) rfl rfl ?_
        refine wi_aload_n (i := 0) (x := 37) (nx := 23) (r1 := 0) (r2 := 0) (r3 := 0) rfl rfl ?_
        refine wr_gr (k0 := 37) (x := 3) (nx := 26) (r1 := 4) (r2 := 0) (r3 := 0) rfl rfl (by decide) rfl ⟨rfl, rfl⟩ rfl ?_
        refine wi_iload_n (i := 3) (e := 0) (nx := 27) (r1 := 0) (r2 := 0) (r3 := 0) rfl rfl ?_
        refine wi_aload_n (i := 0) (x := 37) (nx := 28) (r1 := 0) (r2 := 0) (r3 := 0) rfl rfl ?_
        refine wr_gr (k0 := 37) (x := 38) (nx := 31) (r1 := 4) (r2 := 1) (r3 := 0) rfl rfl (by decide) rfl ⟨rfl, rfl⟩ rfl ?_
        refine wi_iload_n (i := 1) (e := a0) (nx := 32) (r1 := 0) (r2 := 0) (r3 := 0) rfl rfl ?_
        refine wr_ia (k0 := 38) (a := a0) (f := i3) (x := h 38 i3) (nx := 33) (r1 := 0) (r2 := 0) (r3 := 0) rfl (by decide) rfl (by omega) (by omega) (by decide) rfl ?_
        refine wr_V (k0 := 3) (rest := []) (as := [.ref 3, vi 0, vi (h 38 i3)]) (nx := 36) (r1 := 110) (r2 := 2) (r3 := 2) rfl rfl rfl (of_decide_eq_true rfl) rfl rfl (by decide) rfl rfl (of_decide_eq_true rfl) (of_decide_eq_true rfl) ?_
        refine ct_110_3 hcr  g 0 (h 38 i3) (by omega) (by omega)  (fun z10  (fz10 : -2147483648 ≤ z10 ∧ z10 ≤ 2147483647) => ?_)
        refine wk_i ?_
        refine wi_istore (i := 4) (e := z10) (lo2 := [(4, vi z10), (3, vi 0), (0, .ref 37), (1, vi a0), (2, vi a1)]) (nx := 38) (r1 := 0) (r2 := 0) (r3 := 0) rfl rfl ?_
        refine wi_aload_n (i := 0) (x := 37) (nx := 39) (r1 := 0) (r2 := 0) (r3 := 0) rfl rfl ?_
        refine wi_aload_n (i := 0) (x := 37) (nx := 40) (r1 := 0) (r2 := 0) (r3 := 0) rfl rfl ?_
        refine wr_gr (k0 := 37) (x := 38) (nx := 43) (r1 := 4) (r2 := 1) (r3 := 0) rfl rfl (by decide) rfl ⟨rfl, rfl⟩ rfl ?_
        refine wi_iload_n (i := 1) (e := a0) (nx := 44) (r1 := 0) (r2 := 0) (r3 := 0) rfl rfl ?_
        refine wr_ia (k0 := 38) (a := a0) (f := i3) (x := h 38 i3) (nx := 45) (r1 := 0) (r2 := 0) (r3 := 0) rfl (by decide) rfl (by omega) (by omega) (by decide) rfl ?_
        refine wr_pf0 (k0 := 37) (x := h 38 i3) (bl := -2147483648) (bh := 2147483647) (nx := 48) (r1 := 4) (r2 := 8) (r3 := 0) rfl (by decide) rfl ⟨rfl, rfl⟩ rfl rfl g rfl (by omega) (fun h11 g11 w11 u11 => ?_)
        have F12 := F0.then rfl u11
        refine wi_aload_n (i := 0) (x := 37) (nx := 49) (r1 := 0) (r2 := 0) (r3 := 0) rfl rfl ?_
        refine wi_iload_n (i := 3) (e := 0) (nx := 50) (r1 := 0) (r2 := 0) (r3 := 0) rfl rfl ?_
        refine wi_aload_n (i := 0) (x := 37) (nx := 51) (r1 := 0) (r2 := 0) (r3 := 0) rfl rfl ?_
        refine wr_gi0 (k0 := 37) (x := h 37 9) (nx := 54) (r1 := 4) (r2 := 9) (r3 := 0) rfl rfl (by decide) rfl ⟨rfl, rfl⟩ rfl (u11 37 9 rfl) ?_
        refine wi_S (rest := [.ref 37]) (as := [vi 0, vi (h 37 9)]) (nx := 57) (r1 := 111) (r2 := 18) (r3 := 0) rfl rfl rfl (of_decide_eq_true rfl) rfl rfl (of_decide_eq_true rfl) (of_decide_eq_true rfl) ?_
        refine wi_iload_n (i := 0) (e := 0) (nx := 1) (r1 := 0) (r2 := 0) (r3 := 0) rfl rfl ?_
        refine wi_if (cd := .ne) (nx := 4) (r1 := 10) (r2 := 0) (r3 := 0) rfl (by omega) (fun (q13 : 0 ≠ 0) => by exfalso; omega) (fun (q13 : ¬ (0 ≠ 0)) => ?_)
        refine wi_iload_n (i := 1) (e := h 37 9) (nx := 5) (r1 := 0) (r2 := 0) (r3 := 0) rfl rfl ?_
        refine wi_iconst (n := 1) (nx := 6) (r1 := 0) (r2 := 0) (r3 := 0) rfl ?_
        refine wr_add (nx := 7) (r1 := 0) (r2 := 0) (r3 := 0) rfl (fun e14 (fe14 : e14 = (h 37 9) + 1) => ?_)
        refine wi_goto (nx := 10) (r1 := 11) (r2 := 0) (r3 := 0) rfl ?_
        refine wi_ireturn (nx := 12) (r1 := 0) (r2 := 0) (r3 := 0) rfl rfl ?_
        refine wk_i ?_
        refine wr_pf0 (k0 := 37) (x := e14) (bl := -2147483648) (bh := 2147483647) (nx := 60) (r1 := 4) (r2 := 9) (r3 := 0) rfl (by decide) rfl ⟨rfl, rfl⟩ rfl rfl g11 rfl (by omega) (fun h15 g15 w15 u15 => ?_)
        have F16 := F12.then rfl u15
        refine wi_aload_n (i := 0) (x := 37) (nx := 61) (r1 := 0) (r2 := 0) (r3 := 0) rfl rfl ?_
        refine wi_dup (nx := 62) (r1 := 0) (r2 := 0) (r3 := 0) rfl rfl ?_
        have b17 := gi_b (lo := -2147483648) (hi := 2147483647) g 37 13 rfl
        refine wr_gi0 (k0 := 37) (x := h 37 13) (nx := 65) (r1 := 4) (r2 := 13) (r3 := 0) rfl rfl (by decide) rfl ⟨rfl, rfl⟩ rfl ((u15 37 13 rfl).trans (u11 37 13 rfl)) ?_
        refine wi_iload (i := 4) (e := z10) (nx := 67) (r1 := 0) (r2 := 0) (r3 := 0) rfl rfl ?_
        refine wr_addW (nx := 68) (r1 := 0) (r2 := 0) (r3 := 0) rfl (fun e18 (fe18 : -2147483648 ≤ e18 ∧ e18 ≤ 2147483647) => ?_)
        refine wr_pf0 (k0 := 37) (x := e18) (bl := -2147483648) (bh := 2147483647) (nx := 71) (r1 := 4) (r2 := 13) (r3 := 0) rfl (by decide) rfl ⟨rfl, rfl⟩ rfl rfl g15 rfl (by omega) (fun h19 g19 w19 u19 => ?_)
        have F20 := F16.then rfl u19
        refine wi_iload_n (i := 3) (e := 0) (nx := 72) (r1 := 0) (r2 := 0) (r3 := 0) rfl rfl ?_
        refine wi_iconst (n := 1) (nx := 73) (r1 := 0) (r2 := 0) (r3 := 0) rfl ?_
        refine wi_iand (e := 0) (nx := 74) (r1 := 0) (r2 := 0) (r3 := 0) rfl (by decide) ?_
        refine wi_if (cd := .eq) (nx := 77) (r1 := 87) (r2 := 0) (r3 := 0) rfl (by omega) (fun (q21 : 0 = 0) => ?_) (fun (q21 : ¬ (0 = 0)) => by exfalso; omega)
        refine wi_iload_n (i := 3) (e := 0) (nx := 88) (r1 := 0) (r2 := 0) (r3 := 0) rfl rfl ?_
        refine wi_iconst (n := 2) (nx := 89) (r1 := 0) (r2 := 0) (r3 := 0) rfl ?_
        refine wi_iand (e := 0) (nx := 90) (r1 := 0) (r2 := 0) (r3 := 0) rfl (by decide) ?_
        refine wi_if (cd := .eq) (nx := 93) (r1 := 103) (r2 := 0) (r3 := 0) rfl (by omega) (fun (q22 : 0 = 0) => ?_) (fun (q22 : ¬ (0 = 0)) => by exfalso; omega)
        refine wi_aload_n (i := 0) (x := 37) (nx := 104) (r1 := 0) (r2 := 0) (r3 := 0) rfl rfl ?_
        refine wi_dup (nx := 105) (r1 := 0) (r2 := 0) (r3 := 0) rfl rfl ?_
        have b23 := gi_b (lo := -2147483648) (hi := 2147483647) g 37 10 rfl
        refine wr_gi0 (k0 := 37) (x := h 37 10) (nx := 108) (r1 := 4) (r2 := 10) (r3 := 0) rfl rfl (by decide) rfl ⟨rfl, rfl⟩ rfl ((u19 37 10 rfl).trans ((u15 37 10 rfl).trans (u11 37 10 rfl))) ?_
        refine wi_iconst (n := 1) (nx := 109) (r1 := 0) (r2 := 0) (r3 := 0) rfl ?_
        refine wr_addW (nx := 110) (r1 := 0) (r2 := 0) (r3 := 0) rfl (fun e24 (fe24 : -2147483648 ≤ e24 ∧ e24 ≤ 2147483647) => ?_)
        refine wr_pf0 (k0 := 37) (x := e24) (bl := -2147483648) (bh := 2147483647) (nx := 113) (r1 := 4) (r2 := 10) (r3 := 0) rfl (by decide) rfl ⟨rfl, rfl⟩ rfl rfl g19 rfl (by omega) (fun h25 g25 w25 u25 => ?_)
        have F26 := F20.then rfl u25
        refine wi_aload_n (i := 0) (x := 37) (nx := 114) (r1 := 0) (r2 := 0) (r3 := 0) rfl rfl ?_
        refine wi_iload_n (i := 1) (e := a0) (nx := 115) (r1 := 0) (r2 := 0) (r3 := 0) rfl rfl ?_
        refine wi_iload (i := 4) (e := z10) (nx := 117) (r1 := 0) (r2 := 0) (r3 := 0) rfl rfl ?_
        refine wi_iload_n (i := 2) (e := a1) (nx := 118) (r1 := 0) (r2 := 0) (r3 := 0) rfl rfl ?_
        refine wi_if (cd := .eq) (nx := 121) (r1 := 127) (r2 := 0) (r3 := 0) rfl (by omega) (fun (q27 : a1 = 0) => ?_) (fun (q27 : ¬ (a1 = 0)) => ?_)
        ·
          refine wi_iload_n (i := 3) (e := 0) (nx := 128) (r1 := 0) (r2 := 0) (r3 := 0) rfl rfl ?_
          refine wr_V (k0 := 37) (rest := []) (as := [.ref 37, vi a0, vi z10, vi 0]) (nx := 131) (r1 := 144) (r2 := 3) (r3 := 4) rfl rfl rfl (of_decide_eq_true rfl) rfl rfl (by decide) rfl rfl (of_decide_eq_true rfl) (of_decide_eq_true rfl) ?_
          refine ct_144_37 hcr  g25 a0 z10 0 (by omega) (by omega) (by omega)  (fun h28 g28 u28 => ?_)
          have F29 := F26.then (by decide +kernel) u28
          refine wk_n ?_
          refine wi_return (nx := 132) (r1 := 0) (r2 := 0) (r3 := 0) rfl rfl ?_
          exact k h28 g28 F29
        ·
          refine wi_iload_n (i := 3) (e := 0) (nx := 122) (r1 := 0) (r2 := 0) (r3 := 0) rfl rfl ?_
          refine wi_iconst (n := 4) (nx := 123) (r1 := 0) (r2 := 0) (r3 := 0) rfl ?_
          refine wi_ior (e := 4) (nx := 124) (r1 := 0) (r2 := 0) (r3 := 0) rfl (by decide) ?_
          refine wi_goto (nx := 127) (r1 := 128) (r2 := 0) (r3 := 0) rfl ?_
          refine wr_V (k0 := 37) (rest := []) (as := [.ref 37, vi a0, vi z10, vi 4]) (nx := 131) (r1 := 144) (r2 := 3) (r3 := 4) rfl rfl rfl (of_decide_eq_true rfl) rfl rfl (by decide) rfl rfl (of_decide_eq_true rfl) (of_decide_eq_true rfl) ?_
          refine ct_144_37 hcr  g25 a0 z10 4 (by omega) (by omega) (by omega)  (fun h28 g28 u28 => ?_)
          have F29 := F26.then (by decide +kernel) u28
          refine wk_n ?_
          refine wi_return (nx := 132) (r1 := 0) (r2 := 0) (r3 := 0) rfl rfl ?_
          exact k h28 g28 F29
      ·
        refine wi_iconst (n := 2) (nx := 23) (r1 := 0) (r2 := 0) (r3 := 0) rfl ?_
        refine wi_goto (nx := 26) (r1 := 27) (r2 := 0) (r3 := 0) rfl ?_
        refine wi_ireturn (nx := 28) (r1 := 0) (r2 := 0) (r3 := 0) rfl rfl ?_
        refine wk_i ?_
        refine wi_istore_n (i := 3) (e := 2) (lo2 := [(3, vi 2), (0, .ref 37), (1, vi a0), (2, vi a1)]) (nx := 22) (r1 := 0) (r2 := 0) (r3 := 0) rfl rfl ?_
        refine wi_aload_n (i := 0) (x := 37) (nx := 23) (r1 := 0) (r2 := 0) (r3 := 0) rfl rfl ?_
        refine wr_gr (k0 := 37) (x := 3) (nx := 26) (r1 := 4) (r2 := 0) (r3 := 0) rfl rfl (by decide) rfl ⟨rfl, rfl⟩ rfl ?_
        refine wi_iload_n (i := 3) (e := 2) (nx := 27) (r1 := 0) (r2 := 0) (r3 := 0) rfl rfl ?_
        refine wi_aload_n (i := 0) (x := 37) (nx := 28) (r1 := 0) (r2 := 0) (r3 := 0) rfl rfl ?_
        refine wr_gr (k0 := 37) (x := 38) (nx := 31) (r1 := 4) (r2 := 1) (r3 := 0) rfl rfl (by decide) rfl ⟨rfl, rfl⟩ rfl ?_
        refine wi_iload_n (i := 1) (e := a0) (nx := 32) (r1 := 0) (r2 := 0) (r3 := 0) rfl rfl ?_
        refine wr_ia (k0 := 38) (a := a0) (f := i3) (x := h 38 i3) (nx := 33) (r1 := 0) (r2 := 0) (r3 := 0) rfl (by decide) rfl (by omega) (by omega) (by decide) rfl ?_
        refine wr_V (k0 := 3) (rest := []) (as := [.ref 3, vi 2, vi (h 38 i3)]) (nx := 36) (r1 := 110) (r2 := 2) (r3 := 2) rfl rfl rfl (of_decide_eq_true rfl) rfl rfl (by decide) rfl rfl (of_decide_eq_true rfl) (of_decide_eq_true rfl) ?_
        refine ct_110_3 hcr  g 2 (h 38 i3) (by omega) (by omega)  (fun z10  (fz10 : -2147483648 ≤ z10 ∧ z10 ≤ 2147483647) => ?_)
        refine wk_i ?_
        refine wi_istore (i := 4) (e := z10) (lo2 := [(4, vi z10), (3, vi 2), (0, .ref 37), (1, vi a0), (2, vi a1)]) (nx := 38) (r1 := 0) (r2 := 0) (r3 := 0) rfl rfl ?_
        refine wi_aload_n (i := 0) (x := 37) (nx := 39) (r1 := 0) (r2 := 0) (r3 := 0) rfl rfl ?_
        refine wi_aload_n (i := 0) (x := 37) (nx := 40) (r1 := 0) (r2 := 0) (r3 := 0) rfl rfl ?_
        refine wr_gr (k0 := 37) (x := 38) (nx := 43) (r1 := 4) (r2 := 1) (r3 := 0) rfl rfl (by decide) rfl ⟨rfl, rfl⟩ rfl ?_
        refine wi_iload_n (i := 1) (e := a0) (nx := 44) (r1 := 0) (r2 := 0) (r3 := 0) rfl rfl ?_
        refine wr_ia (k0 := 38) (a := a0) (f := i3) (x := h 38 i3) (nx := 45) (r1 := 0) (r2 := 0) (r3 := 0) rfl (by decide) rfl (by omega) (by omega) (by decide) rfl ?_
        refine wr_pf0 (k0 := 37) (x := h 38 i3) (bl := -2147483648) (bh := 2147483647) (nx := 48) (r1 := 4) (r2 := 8) (r3 := 0) rfl (by decide) rfl ⟨rfl, rfl⟩ rfl rfl g rfl (by omega) (fun h11 g11 w11 u11 => ?_)
        have F12 := F0.then rfl u11
        refine wi_aload_n (i := 0) (x := 37) (nx := 49) (r1 := 0) (r2 := 0) (r3 := 0) rfl rfl ?_
        refine wi_iload_n (i := 3) (e := 2) (nx := 50) (r1 := 0) (r2 := 0) (r3 := 0) rfl rfl ?_
        refine wi_aload_n (i := 0) (x := 37) (nx := 51) (r1 := 0) (r2 := 0) (r3 := 0) rfl rfl ?_
        refine wr_gi0 (k0 := 37) (x := h 37 9) (nx := 54) (r1 := 4) (r2 := 9) (r3 := 0) rfl rfl (by decide) rfl ⟨rfl, rfl⟩ rfl (u11 37 9 rfl) ?_
        refine wi_S (rest := [.ref 37]) (as := [vi 2, vi (h 37 9)]) (nx := 57) (r1 := 111) (r2 := 18) (r3 := 0) rfl rfl rfl (of_decide_eq_true rfl) rfl rfl (of_decide_eq_true rfl) (of_decide_eq_true rfl) ?_
        refine wi_iload_n (i := 0) (e := 2) (nx := 1) (r1 := 0) (r2 := 0) (r3 := 0) rfl rfl ?_
        refine wi_if (cd := .ne) (nx := 4) (r1 := 10) (r2 := 0) (r3 := 0) rfl (by omega) (fun (q13 : 2 ≠ 0) => ?_) (fun (q13 : ¬ (2 ≠ 0)) => by exfalso; omega)
        refine wi_iconst (n := 1) (nx := 11) (r1 := 0) (r2 := 0) (r3 := 0) rfl ?_
        refine wi_ireturn (nx := 12) (r1 := 0) (r2 := 0) (r3 := 0) rfl rfl ?_
        refine wk_i ?_
        refine wr_pf0 (k0 := 37) (x := 1) (bl := -2147483648) (bh := 2147483647) (nx := 60) (r1 := 4) (r2 := 9) (r3 := 0) rfl (by decide) rfl ⟨rfl, rfl⟩ rfl rfl g11 rfl (by omega) (fun h14 g14 w14 u14 => ?_)
        have F15 := F12.then rfl u14
        refine wi_aload_n (i := 0) (x := 37) (nx := 61) (r1 := 0) (r2 := 0) (r3 := 0) rfl rfl ?_
        refine wi_dup (nx := 62) (r1 := 0) (r2 := 0) (r3 := 0) rfl rfl ?_
        have b16 := gi_b (lo := -2147483648) (hi := 2147483647) g 37 13 rfl
        refine wr_gi0 (k0 := 37) (x := h 37 13) (nx := 65) (r1 := 4) (r2 := 13) (r3 := 0) rfl rfl (by decide) rfl ⟨rfl, rfl⟩ rfl ((u14 37 13 rfl).trans (u11 37 13 rfl)) ?_
        refine wi_iload (i := 4) (e := z10) (nx := 67) (r1 := 0) (r2 := 0) (r3 := 0) rfl rfl ?_
        refine wr_addW (nx := 68) (r1 := 0) (r2 := 0) (r3 := 0) rfl (fun e17 (fe17 : -2147483648 ≤ e17 ∧ e17 ≤ 2147483647) => ?_)
        refine wr_pf0 (k0 := 37) (x := e17) (bl := -2147483648) (bh := 2147483647) (nx := 71) (r1 := 4) (r2 := 13) (r3 := 0) rfl (by decide) rfl ⟨rfl, rfl⟩ rfl rfl g14 rfl (by omega) (fun h18 g18 w18 u18 => ?_)
        have F19 := F15.then rfl u18
        refine wi_iload_n (i := 3) (e := 2) (nx := 72) (r1 := 0) (r2 := 0) (r3 := 0) rfl rfl ?_
        refine wi_iconst (n := 1) (nx := 73) (r1 := 0) (r2 := 0) (r3 := 0) rfl ?_
        refine wi_iand (e := 0) (nx := 74) (r1 := 0) (r2 := 0) (r3 := 0) rfl (by decide) ?_
        refine wi_if (cd := .eq) (nx := 77) (r1 := 87) (r2 := 0) (r3 := 0) rfl (by omega) (fun (q20 : 0 = 0) => ?_) (fun (q20 : ¬ (0 = 0)) => by exfalso; omega)
        refine wi_iload_n (i := 3) (e := 2) (nx := 88) (r1 := 0) (r2 := 0) (r3 := 0) rfl rfl ?_
        refine wi_iconst (n := 2) (nx := 89) (r1 := 0) (r2 := 0) (r3 := 0) rfl ?_
        refine wi_iand (e := 2) (nx := 90) (r1 := 0) (r2 := 0) (r3 := 0) rfl (by decide) ?_
        refine wi_if (cd := .eq) (nx := 93) (r1 := 103) (r2 := 0) (r3 := 0) rfl (by omega) (fun (q21 : 2 = 0) => by exfalso; omega) (fun (q21 : ¬ (2 = 0)) => ?_)
        refine wi_aload_n (i := 0) (x := 37) (nx := 94) (r1 := 0) (r2 := 0) (r3 := 0) rfl rfl ?_
        refine wi_dup (nx := 95) (r1 := 0) (r2 := 0) (r3 := 0) rfl rfl ?_
        have b22 := gi_b (lo := -2147483648) (hi := 2147483647) g 37 12 rfl
        refine wr_gi0 (k0 := 37) (x := h 37 12) (nx := 98) (r1 := 4) (r2 := 12) (r3 := 0) rfl rfl (by decide) rfl ⟨rfl, rfl⟩ rfl ((u18 37 12 rfl).trans ((u14 37 12 rfl).trans (u11 37 12 rfl))) ?_
        refine wi_iconst (n := 1) (nx := 99) (r1 := 0) (r2 := 0) (r3 := 0) rfl ?_
        refine wr_addW (nx := 100) (r1 := 0) (r2 := 0) (r3 := 0) rfl (fun e23 (fe23 : -2147483648 ≤ e23 ∧ e23 ≤ 2147483647) => ?_)
        refine wr_pf0 (k0 := 37) (x := e23) (bl := -2147483648) (bh := 2147483647) (nx := 103) (r1 := 4) (r2 := 12) (r3 := 0) rfl (by decide) rfl ⟨rfl, rfl⟩ rfl rfl g18 rfl (by omega) (fun h24 g24 w24 u24 => ?_)
        have F25 := F19.then rfl u24
        refine wi_aload_n (i := 0) (x := 37) (nx := 104) (r1 := 0) (r2 := 0) (r3 := 0) rfl rfl ?_
        refine wi_dup (nx := 105) (r1 := 0) (r2 := 0) (r3 := 0) rfl rfl ?_
        have b26 := gi_b (lo := -2147483648) (hi := 2147483647) g 37 10 rfl
        refine wr_gi0 (k0 := 37) (x := h 37 10) (nx := 108) (r1 := 4) (r2 := 10) (r3 := 0) rfl rfl (by decide) rfl ⟨rfl, rfl⟩ rfl ((u24 37 10 rfl).trans ((u18 37 10 rfl).trans ((u14 37 10 rfl).trans (u11 37 10 rfl)))) ?_
        refine wi_iconst (n := 1) (nx := 109) (r1 := 0) (r2 := 0) (r3 := 0) rfl ?_
        refine wr_addW (nx := 110) (r1 := 0) (r2 := 0) (r3 := 0) rfl (fun e27 (fe27 : -2147483648 ≤ e27 ∧ e27 ≤ 2147483647) => ?_)
        refine wr_pf0 (k0 := 37) (x := e27) (bl := -2147483648) (bh := 2147483647) (nx := 113) (r1 := 4) (r2 := 10) (r3 := 0) rfl (by decide) rfl ⟨rfl, rfl⟩ rfl rfl g24 rfl (by omega) (fun h28 g28 w28 u28 => ?_)
        have F29 := F25.then rfl u28
        refine wi_aload_n (i := 0) (x := 37) (nx := 114) (r1 := 0) (r2 := 0) (r3 := 0) rfl rfl ?_
        refine wi_iload_n (i := 1) (e := a0) (nx := 115) (r1 := 0) (r2 := 0) (r3 := 0) rfl rfl ?_
        refine wi_iload (i := 4) (e := z10) (nx := 117) (r1 := 0) (r2 := 0) (r3 := 0) rfl rfl ?_
        refine wi_iload_n (i := 2) (e := a1) (nx := 118) (r1 := 0) (r2 := 0) (r3 := 0) rfl rfl ?_
        refine wi_if (cd := .eq) (nx := 121) (r1 := 127) (r2 := 0) (r3 := 0) rfl (by omega) (fun (q30 : a1 = 0) => ?_) (fun (q30 : ¬ (a1 = 0)) => ?_)
        ·
          refine wi_iload_n (i := 3) (e := 2) (nx := 128) (r1 := 0) (r2 := 0) (r3 := 0) rfl rfl ?_
          refine wr_V (k0 := 37) (rest := []) (as := [.ref 37, vi a0, vi z10, vi 2]) (nx := 131) (r1 := 144) (r2 := 3) (r3 := 4) rfl rfl rfl (of_decide_eq_true rfl) rfl rfl (by decide) rfl rfl (of_decide_eq_true rfl) (of_decide_eq_true rfl) ?_
          refine ct_144_37 hcr  g28 a0 z10 2 (by omega) (by omega) (by omega)  (fun h31 g31 u31 => ?_)
          have F32 := F29.then (by decide +kernel) u31
          refine wk_n ?_
          refine wi_return (nx := 132) (r1 := 0) (r2 := 0) (r3 := 0) rfl rfl ?_
          exact k h31 g31 F32
        ·
          refine wi_iload_n (i := 3) (e := 2) (nx := 122) (r1 := 0) (r2 := 0) (r3 := 0) rfl rfl ?_
          refine wi_iconst (n := 4) (nx := 123) (r1 := 0) (r2 := 0) (r3 := 0) rfl ?_
          refine wi_ior (e := 6) (nx := 124) (r1 := 0) (r2 := 0) (r3 := 0) rfl (by decide) ?_
          refine wi_goto (nx := 127) (r1 := 128) (r2 := 0) (r3 := 0) rfl ?_
          refine wr_V (k0 := 37) (rest := []) (as := [.ref 37, vi a0, vi z10, vi 6]) (nx := 131) (r1 := 144) (r2 := 3) (r3 := 4) rfl rfl rfl (of_decide_eq_true rfl) rfl rfl (by decide) rfl rfl (of_decide_eq_true rfl) (of_decide_eq_true rfl) ?_
          refine ct_144_37 hcr  g28 a0 z10 6 (by omega) (by omega) (by omega)  (fun h31 g31 u31 => ?_)
          have F32 := F29.then (by decide +kernel) u31
          refine wk_n ?_
          refine wi_return (nx := 132) (r1 := 0) (r2 := 0) (r3 := 0) rfl rfl ?_
          exact k h31 g31 F32
    ·
      refine wi_iconst (n := 1) (nx := 13) (r1 := 0) (r2 := 0) (r3 := 0) rfl ?_
      refine wi_ireturn (nx := 14) (r1 := 0) (r2 := 0) (r3 := 0) rfl rfl ?_
      refine wk_i ?_
      refine wi_istore_n (i := 3) (e := 1) (lo2 := [(3, vi 1), (0, .ref 37), (1, vi a0), (2, vi a1)]) (nx := 22) (r1 := 0) (r2 := 0) (r3 := 0) rfl rfl ?_
      refine wi_aload_n (i := 0) (x := 37) (nx := 23) (r1 := 0) (r2 := 0) (r3 := 0) rfl rfl ?_
      refine wr_gr (k0 := 37) (x := 3) (nx := 26) (r1 := 4) (r2 := 0) (r3 := 0) rfl rfl (by decide) rfl ⟨rfl, rfl⟩ rfl ?_
      refine wi_iload_n (i := 3) (e := 1) (nx := 27) (r1 := 0) (r2 := 0) (r3 := 0) rfl rfl ?_
      refine wi_aload_n (i := 0) (x := 37) (nx := 28) (r1 := 0) (r2 := 0) (r3 := 0) rfl rfl ?_
      refine wr_gr (k0 := 37) (x := 38) (nx := 31) (r1 := 4) (r2 := 1) (r3 := 0) rfl rfl (by decide) rfl ⟨rfl, rfl⟩ rfl ?_
      refine wi_iload_n (i := 1) (e := a0) (nx := 32) (r1 := 0) (r2 := 0) (r3 := 0) rfl rfl ?_
      refine wr_ia (k0 := 38) (a := a0) (f := i3) (x := h 38 i3) (nx := 33) (r1 := 0) (r2 := 0) (r3 := 0) rfl (by decide) rfl (by omega) (by omega) (by decide) rfl ?_
      refine wr_V (k0 := 3) (rest := []) (as := [.ref 3, vi 1, vi (h 38 i3)]) (nx := 36) (r1 := 110) (r2 := 2) (r3 := 2) rfl rfl rfl (of_decide_eq_true rfl) rfl rfl (by decide) rfl rfl (of_decide_eq_true rfl) (of_decide_eq_true rfl) ?_
      refine ct_110_3 hcr  g 1 (h 38 i3) (by omega) (by omega)  (fun z8  (fz8 : -2147483648 ≤ z8 ∧ z8 ≤ 2147483647) => ?_)
      refine wk_i ?_
      refine wi_istore (i := 4) (e := z8) (lo2 := [(4, vi z8), (3, vi 1), (0, .ref 37), (1, vi a0), (2, vi a1)]) (nx := 38) (r1 := 0) (r2 := 0) (r3 := 0) rfl rfl ?_
      refine wi_aload_n (i := 0) (x := 37) (nx := 39) (r1 := 0) (r2 := 0) (r3 := 0) rfl rfl ?_
      refine wi_aload_n (i := 0) (x := 37) (nx := 40) (r1 := 0) (r2 := 0) (r3 := 0) rfl rfl ?_
      refine wr_gr (k0 := 37) (x := 38) (nx := 43) (r1 := 4) (r2 := 1) (r3 := 0) rfl rfl (by decide) rfl ⟨rfl, rfl⟩ rfl ?_
      refine wi_iload_n (i := 1) (e := a0) (nx := 44) (r1 := 0) (r2 := 0) (r3 := 0) rfl rfl ?_
      refine wr_ia (k0 := 38) (a := a0) (f := i3) (x := h 38 i3) (nx := 45) (r1 := 0) (r2 := 0) (r3 := 0) rfl (by decide) rfl (by omega) (by omega) (by decide) rfl ?_
      refine wr_pf0 (k0 := 37) (x := h 38 i3) (bl := -2147483648) (bh := 2147483647) (nx := 48) (r1 := 4) (r2 := 8) (r3 := 0) rfl (by decide) rfl ⟨rfl, rfl⟩ rfl rfl g rfl (by omega) (fun h9 g9 w9 u9 => ?_)
      have F10 := F0.then rfl u9
      refine wi_aload_n (i := 0) (x := 37) (nx := 49) (r1 := 0) (r2 := 0) (r3 := 0) rfl rfl ?_
      refine wi_iload_n (i := 3) (e := 1) (nx := 50) (r1 := 0) (r2 := 0) (r3 := 0) rfl rfl ?_
      refine wi_aload_n (i := 0) (x := 37) (nx := 51) (r1 := 0) (r2 := 0) (r3 := 0) rfl rfl ?_
      refine wr_gi0 (k0 := 37) (x := h 37 9) (nx := 54) (r1 := 4) (r2 := 9) (r3 := 0) rfl rfl (by decide) rfl ⟨rfl, rfl⟩ rfl (u9 37 9 rfl) ?_
      refine wi_S (rest := [.ref 37]) (as := [vi 1, vi (h 37 9)]) (nx := 57) (r1 := 111) (r2 := 18) (r3 := 0) rfl rfl rfl (of_decide_eq_true rfl) rfl rfl (of_decide_eq_true rfl) (of_decide_eq_true rfl) ?_
      refine wi_iload_n (i := 0) (e := 1) (nx := 1) (r1 := 0) (r2 := 0) (r3 := 0) rfl rfl ?_
      refine wi_if (cd := .ne) (nx := 4) (r1 := 10) (r2 := 0) (r3 := 0) rfl (by omega) (fun (q11 : 1 ≠ 0) => ?_) (fun (q11 : ¬ (1 ≠ 0)) => by exfalso; omega)
      refine wi_iconst (n := 1) (nx := 11) (r1 := 0) (r2 := 0) (r3 := 0) rfl ?_
      refine wi_ireturn (nx := 12) (r1 := 0) (r2 := 0) (r3 := 0) rfl rfl ?_
      refine wk_i ?_
      refine wr_pf0 (k0 := 37) (x := 1) (bl := -2147483648) (bh := 2147483647) (nx := 60) (r1 := 4) (r2 := 9) (r3 := 0) rfl (by decide) rfl ⟨rfl, rfl⟩ rfl rfl g9 rfl (by omega) (fun h12 g12 w12 u12 => ?_)
      have F13 := F10.then rfl u12
      refine wi_aload_n (i := 0) (x := 37) (nx := 61) (r1 := 0) (r2 := 0) (r3 := 0) rfl rfl ?_
      refine wi_dup (nx := 62) (r1 := 0) (r2 := 0) (r3 := 0) rfl rfl ?_
      have b14 := gi_b (lo := -2147483648) (hi := 2147483647) g 37 13 rfl
      refine wr_gi0 (k0 := 37) (x := h 37 13) (nx := 65) (r1 := 4) (r2 := 13) (r3 := 0) rfl rfl (by decide) rfl ⟨rfl, rfl⟩ rfl ((u12 37 13 rfl).trans (u9 37 13 rfl)) ?_
      refine wi_iload (i := 4) (e := z8) (nx := 67) (r1 := 0) (r2 := 0) (r3 := 0) rfl rfl ?_
      refine wr_addW (nx := 68) (r1 := 0) (r2 := 0) (r3 := 0) rfl (fun e15 (fe15 : -2147483648 ≤ e15 ∧ e15 ≤ 2147483647) => ?_)
      refine wr_pf0 (k0 := 37) (x := e15) (bl := -2147483648) (bh := 2147483647) (nx := 71) (r1 := 4) (r2 := 13) (r3 := 0) rfl (by decide) rfl ⟨rfl, rfl⟩ rfl rfl g12 rfl (by omega) (fun h16 g16 w16 u16 => ?_)
      have F17 := F13.then rfl u16
      refine wi_iload_n (i := 3) (e := 1) (nx := 72) (r1 := 0) (r2 := 0) (r3 := 0) rfl rfl ?_
      refine wi_iconst (n := 1) (nx := 73) (r1 := 0) (r2 := 0) (r3 := 0) rfl ?_
      refine wi_iand (e := 1) (nx := 74) (r1 := 0) (r2 := 0) (r3 := 0) rfl (by decide) ?_
      refine wi_if (cd := .eq) (nx := 77) (r1 := 87) (r2 := 0) (r3 := 0) rfl (by omega) (fun (q18 : 1 = 0) => by exfalso; omega) (fun (q18 : ¬ (1 = 0)) => ?_)
      refine wi_aload_n (i := 0) (x := 37) (nx := 78) (r1 := 0) (r2 := 0) (r3 := 0) rfl rfl ?_
      refine wi_dup (nx := 79) (r1 := 0) (r2 := 0) (r3 := 0) rfl rfl ?_
      have b19 := gi_b (lo := -2147483648) (hi := 2147483647) g 37 11 rfl
      refine wr_gi0 (k0 := 37) (x := h 37 11) (nx := 82) (r1 := 4) (r2 := 11) (r3 := 0) rfl rfl (by decide) rfl ⟨rfl, rfl⟩ rfl ((u16 37 11 rfl).trans ((u12 37 11 rfl).trans (u9 37 11 rfl))) ?_
      refine wi_iconst (n := 1) (nx := 83) (r1 := 0) (r2 := 0) (r3 := 0) rfl ?_
      refine wr_addW (nx := 84) (r1 := 0) (r2 := 0) (r3 := 0) rfl (fun e20 (fe20 : -2147483648 ≤ e20 ∧ e20 ≤ 2147483647) => ?_)
      refine wr_pf0 (k0 := 37) (x := e20) (bl := -2147483648) (bh := 2147483647) (nx := 87) (r1 := 4) (r2 := 11) (r3 := 0) rfl (by decide) rfl ⟨rfl, rfl⟩ rfl rfl g16 rfl (by omega) (fun h21 g21 w21 u21 => ?_)
      have F22 := F17.then rfl u21
      refine wi_iload_n (i := 3) (e := 1) (nx := 88) (r1 := 0) (r2 := 0) (r3 := 0) rfl rfl ?_
      refine wi_iconst (n := 2) (nx := 89) (r1 := 0) (r2 := 0) (r3 := 0) rfl ?_
      refine wi_iand (e := 0) (nx := 90) (r1 := 0) (r2 := 0) (r3 := 0) rfl (by decide) ?_
      refine wi_if (cd := .eq) (nx := 93) (r1 := 103) (r2 := 0) (r3 := 0) rfl (by omega) (fun (q23 : 0 = 0) => ?_) (fun (q23 : ¬ (0 = 0)) => by exfalso; omega)
      refine wi_aload_n (i := 0) (x := 37) (nx := 104) (r1 := 0) (r2 := 0) (r3 := 0) rfl rfl ?_
      refine wi_dup (nx := 105) (r1 := 0) (r2 := 0) (r3 := 0) rfl rfl ?_
      have b24 := gi_b (lo := -2147483648) (hi := 2147483647) g 37 10 rfl
      refine wr_gi0 (k0 := 37) (x := h 37 10) (nx := 108) (r1 := 4) (r2 := 10) (r3 := 0) rfl rfl (by decide) rfl ⟨rfl, rfl⟩ rfl ((u21 37 10 rfl).trans ((u16 37 10 rfl).trans ((u12 37 10 rfl).trans (u9 37 10 rfl)))) ?_
      refine wi_iconst (n := 1) (nx := 109) (r1 := 0) (r2 := 0) (r3 := 0) rfl ?_
      refine wr_addW (nx := 110) (r1 := 0) (r2 := 0) (r3 := 0) rfl (fun e25 (fe25 : -2147483648 ≤ e25 ∧ e25 ≤ 2147483647) => ?_)
      refine wr_pf0 (k0 := 37) (x := e25) (bl := -2147483648) (bh := 2147483647) (nx := 113) (r1 := 4) (r2 := 10) (r3 := 0) rfl (by decide) rfl ⟨rfl, rfl⟩ rfl rfl g21 rfl (by omega) (fun h26 g26 w26 u26 => ?_)
      have F27 := F22.then rfl u26
      refine wi_aload_n (i := 0) (x := 37) (nx := 114) (r1 := 0) (r2 := 0) (r3 := 0) rfl rfl ?_
      refine wi_iload_n (i := 1) (e := a0) (nx := 115) (r1 := 0) (r2 := 0) (r3 := 0) rfl rfl ?_
      refine wi_iload (i := 4) (e := z8) (nx := 117) (r1 := 0) (r2 := 0) (r3 := 0) rfl rfl ?_
      refine wi_iload_n (i := 2) (e := a1) (nx := 118) (r1 := 0) (r2 := 0) (r3 := 0) rfl rfl ?_
      refine wi_if (cd := .eq) (nx := 121) (r1 := 127) (r2 := 0) (r3 := 0) rfl (by omega) (fun (q28 : a1 = 0) => ?_) (fun (q28 : ¬ (a1 = 0)) => ?_)
      ·
        refine wi_iload_n (i := 3) (e := 1) (nx := 128) (r1 := 0) (r2 := 0) (r3 := 0) rfl rfl ?_
        refine wr_V (k0 := 37) (rest := []) (as := [.ref 37, vi a0, vi z8, vi 1]) (nx := 131) (r1 := 144) (r2 := 3) (r3 := 4) rfl rfl rfl (of_decide_eq_true rfl) rfl rfl (by decide) rfl rfl (of_decide_eq_true rfl) (of_decide_eq_true rfl) ?_
        refine ct_144_37 hcr  g26 a0 z8 1 (by omega) (by omega) (by omega)  (fun h29 g29 u29 => ?_)
        have F30 := F27.then (by decide +kernel) u29
        refine wk_n ?_
        refine wi_return (nx := 132) (r1 := 0) (r2 := 0) (r3 := 0) rfl rfl ?_
        exact k h29 g29 F30
      ·
        refine wi_iload_n (i := 3) (e := 1) (nx := 122) (r1 := 0) (r2 := 0) (r3 := 0) rfl rfl ?_
        refine wi_iconst (n := 4) (nx := 123) (r1 := 0) (r2 := 0) (r3 := 0) rfl ?_
        refine wi_ior (e := 5) (nx := 124) (r1 := 0) (r2 := 0) (r3 := 0) rfl (by decide) ?_
        refine wi_goto (nx := 127) (r1 := 128) (r2 := 0) (r3 := 0) rfl ?_
        refine wr_V (k0 := 37) (rest := []) (as := [.ref 37, vi a0, vi z8, vi 5]) (nx := 131) (r1 := 144) (r2 := 3) (r3 := 4) rfl rfl rfl (of_decide_eq_true rfl) rfl rfl (by decide) rfl rfl (of_decide_eq_true rfl) (of_decide_eq_true rfl) ?_
        refine ct_144_37 hcr  g26 a0 z8 5 (by omega) (by omega) (by omega)  (fun h29 g29 u29 => ?_)
        have F30 := F27.then (by decide +kernel) u29
        refine wk_n ?_
        refine wi_return (nx := 132) (r1 := 0) (r2 := 0) (r3 := 0) rfl rfl ?_
        exact k h29 g29 F30
  ·
    refine wi_iconst (n := 0) (nx := 6) (r1 := 0) (r2 := 0) (r3 := 0) rfl ?_
    refine wi_ireturn (nx := 7) (r1 := 0) (r2 := 0) (r3 := 0) rfl rfl ?_
    refine wk_i ?_
    refine wi_istore_n (i := 3) (e := 0) (lo2 := [(3, vi 0), (0, .ref 37), (1, vi a0), (2, vi a1)]) (nx := 22) (r1 := 0) (r2 := 0) (r3 := 0) rfl rfl ?_
    refine wi_aload_n (i := 0) (x := 37) (nx := 23) (r1 := 0) (r2 := 0) (r3 := 0) rfl rfl ?_
    refine wr_gr (k0 := 37) (x := 3) (nx := 26) (r1 := 4) (r2 := 0) (r3 := 0) rfl rfl (by decide) rfl ⟨rfl, rfl⟩ rfl ?_
    refine wi_iload_n (i := 3) (e := 0) (nx := 27) (r1 := 0) (r2 := 0) (r3 := 0) rfl rfl ?_
    refine wi_aload_n (i := 0) (x := 37) (nx := 28) (r1 := 0) (r2 := 0) (r3 := 0) rfl rfl ?_
    refine wr_gr (k0 := 37) (x := 38) (nx := 31) (r1 := 4) (r2 := 1) (r3 := 0) rfl rfl (by decide) rfl ⟨rfl, rfl⟩ rfl ?_
    refine wi_iload_n (i := 1) (e := a0) (nx := 32) (r1 := 0) (r2 := 0) (r3 := 0) rfl rfl ?_
    refine wr_ia (k0 := 38) (a := a0) (f := i3) (x := h 38 i3) (nx := 33) (r1 := 0) (r2 := 0) (r3 := 0) rfl (by decide) rfl (by omega) (by omega) (by decide) rfl ?_
    refine wr_V (k0 := 3) (rest := []) (as := [.ref 3, vi 0, vi (h 38 i3)]) (nx := 36) (r1 := 110) (r2 := 2) (r3 := 2) rfl rfl rfl (of_decide_eq_true rfl) rfl rfl (by decide) rfl rfl (of_decide_eq_true rfl) (of_decide_eq_true rfl) ?_
    refine ct_110_3 hcr  g 0 (h 38 i3) (by omega) (by omega)  (fun z7  (fz7 : -2147483648 ≤ z7 ∧ z7 ≤ 2147483647) => ?_)
    refine wk_i ?_
    refine wi_istore (i := 4) (e := z7) (lo2 := [(4, vi z7), (3, vi 0), (0, .ref 37), (1, vi a0), (2, vi a1)]) (nx := 38) (r1 := 0) (r2 := 0) (r3 := 0) rfl rfl ?_
    refine wi_aload_n (i := 0) (x := 37) (nx := 39) (r1 := 0) (r2 := 0) (r3 := 0) rfl rfl ?_
    refine wi_aload_n (i := 0) (x := 37) (nx := 40) (r1 := 0) (r2 := 0) (r3 := 0) rfl rfl ?_
    refine wr_gr (k0 := 37) (x := 38) (nx := 43) (r1 := 4) (r2 := 1) (r3 := 0) rfl rfl (by decide) rfl ⟨rfl, rfl⟩ rfl ?_
    refine wi_iload_n (i := 1) (e := a0) (nx := 44) (r1 := 0) (r2 := 0) (r3 := 0) rfl rfl ?_
    refine wr_ia (k0 := 38) (a := a0) (f := i3) (x := h 38 i3) (nx := 45) (r1 := 0) (r2 := 0) (r3 := 0) rfl (by decide) rfl (by omega) (by omega) (by decide) rfl ?_
    refine wr_pf0 (k0 := 37) (x := h 38 i3) (bl := -2147483648) (bh := 2147483647) (nx := 48) (r1 := 4) (r2 := 8) (r3 := 0) rfl (by decide) rfl ⟨rfl, rfl⟩ rfl rfl g rfl (by omega) (fun h8 g8 w8 u8 => ?_)
    have F9 := F0.then rfl u8
    refine wi_aload_n (i := 0) (x := 37) (nx := 49) (r1 := 0) (r2 := 0) (r3 := 0) rfl rfl ?_
    refine wi_iload_n (i := 3) (e := 0) (nx := 50) (r1 := 0) (r2 := 0) (r3 := 0) rfl rfl ?_
    refine wi_aload_n (i := 0) (x := 37) (nx := 51) (r1 := 0) (r2 := 0) (r3 := 0) rfl rfl ?_
    refine wr_gi0 (k0 := 37) (x := h 37 9) (nx := 54) (r1 := 4) (r2 := 9) (r3 := 0) rfl rfl (by decide) rfl ⟨rfl, rfl⟩ rfl (u8 37 9 rfl) ?_
    refine wi_S (rest := [.ref 37]) (as := [vi 0, vi (h 37 9)]) (nx := 57) (r1 := 111) (r2 := 18) (r3 := 0) rfl rfl rfl (of_decide_eq_true rfl) rfl rfl (of_decide_eq_true rfl) (of_decide_eq_true rfl) ?_
    refine wi_iload_n (i := 0) (e := 0) (nx := 1) (r1 := 0) (r2 := 0) (r3 := 0) rfl rfl ?_
    refine wi_if (cd := .ne) (nx := 4) (r1 := 10) (r2 := 0) (r3 := 0) rfl (by omega) (fun (q10 : 0 ≠ 0) => by exfalso; omega) (fun (q10 : ¬ (0 ≠ 0)) => ?_)
    refine wi_iload_n (i := 1) (e := h 37 9) (nx := 5) (r1 := 0) (r2 := 0) (r3 := 0) rfl rfl ?_
    refine wi_iconst (n := 1) (nx := 6) (r1 := 0) (r2 := 0) (r3 := 0) rfl ?_
    refine wr_addW (nx := 7) (r1 := 0) (r2 := 0) (r3 := 0) rfl (fun e11 (fe11 : -2147483648 ≤ e11 ∧ e11 ≤ 2147483647) => ?_)
    refine wi_goto (nx := 10) (r1 := 11) (r2 := 0) (r3 := 0) rfl ?_
    refine wi_ireturn (nx := 12) (r1 := 0) (r2 := 0) (r3 := 0) rfl rfl ?_
    refine wk_i ?_
    refine wr_pf0 (k0 := 37) (x := e11) (bl := -2147483648) (bh := 2147483647) (nx := 60) (r1 := 4) (r2 := 9) (r3 := 0) rfl (by decide) rfl ⟨rfl, rfl⟩ rfl rfl g8 rfl (by omega) (fun h12 g12 w12 u12 => ?_)
    have F13 := F9.then rfl u12
    refine wi_aload_n (i := 0) (x := 37) (nx := 61) (r1 := 0) (r2 := 0) (r3 := 0) rfl rfl ?_
    refine wi_dup (nx := 62) (r1 := 0) (r2 := 0) (r3 := 0) rfl rfl ?_
    have b14 := gi_b (lo := -2147483648) (hi := 2147483647) g 37 13 rfl
    refine wr_gi0 (k0 := 37) (x := h 37 13) (nx := 65) (r1 := 4) (r2 := 13) (r3 := 0) rfl rfl (by decide) rfl ⟨rfl, rfl⟩ rfl ((u12 37 13 rfl).trans (u8 37 13 rfl)) ?_
    refine wi_iload (i := 4) (e := z7) (nx := 67) (r1 := 0) (r2 := 0) (r3 := 0) rfl rfl ?_
    refine wr_addW (nx := 68) (r1 := 0) (r2 := 0) (r3 := 0) rfl (fun e15 (fe15 : -2147483648 ≤ e15 ∧ e15 ≤ 2147483647) => ?_)
    refine wr_pf0 (k0 := 37) (x := e15) (bl := -2147483648) (bh := 2147483647) (nx := 71) (r1 := 4) (r2 := 13) (r3 := 0) rfl (by decide) rfl ⟨rfl, rfl⟩ rfl rfl g12 rfl (by omega) (fun h16 g16 w16 u16 => ?_)
    have F17 := F13.then rfl u16
    refine wi_iload_n (i := 3) (e := 0) (nx := 72) (r1 := 0) (r2 := 0) (r3 := 0) rfl rfl ?_
    refine wi_iconst (n := 1) (nx := 73) (r1 := 0) (r2 := 0) (r3 := 0) rfl ?_
    refine wi_iand (e := 0) (nx := 74) (r1 := 0) (r2 := 0) (r3 := 0) rfl (by decide) ?_
    refine wi_if (cd := .eq) (nx := 77) (r1 := 87) (r2 := 0) (r3 := 0) rfl (by omega) (fun (q18 : 0 = 0) => ?_) (fun (q18 : ¬ (0 = 0)) => by exfalso; omega)
    refine wi_iload_n (i := 3) (e := 0) (nx := 88) (r1 := 0) (r2 := 0) (r3 := 0) rfl rfl ?_
    refine wi_iconst (n := 2) (nx := 89) (r1 := 0) (r2 := 0) (r3 := 0) rfl ?_
    refine wi_iand (e := 0) (nx := 90) (r1 := 0) (r2 := 0) (r3 := 0) rfl (by decide) ?_
    refine wi_if (cd := .eq) (nx := 93) (r1 := 103) (r2 := 0) (r3 := 0) rfl (by omega) (fun (q19 : 0 = 0) => ?_) (fun (q19 : ¬ (0 = 0)) => by exfalso; omega)
    refine wi_aload_n (i := 0) (x := 37) (nx := 104) (r1 := 0) (r2 := 0) (r3 := 0) rfl rfl ?_
    refine wi_dup (nx := 105) (r1 := 0) (r2 := 0) (r3 := 0) rfl rfl ?_
    have b20 := gi_b (lo := -2147483648) (hi := 2147483647) g 37 10 rfl
    refine wr_gi0 (k0 := 37) (x := h 37 10) (nx := 108) (r1 := 4) (r2 := 10) (r3 := 0) rfl rfl (by decide) rfl ⟨rfl, rfl⟩ rfl ((u16 37 10 rfl).trans ((u12 37 10 rfl).trans (u8 37 10 rfl))) ?_
    refine wi_iconst (n := 1) (nx := 109) (r1 := 0) (r2 := 0) (r3 := 0) rfl ?_
    refine wr_addW (nx := 110) (r1 := 0) (r2 := 0) (r3 := 0) rfl (fun e21 (fe21 : -2147483648 ≤ e21 ∧ e21 ≤ 2147483647) => ?_)
    refine wr_pf0 (k0 := 37) (x := e21) (bl := -2147483648) (bh := 2147483647) (nx := 113) (r1 := 4) (r2 := 10) (r3 := 0) rfl (by decide) rfl ⟨rfl, rfl⟩ rfl rfl g16 rfl (by omega) (fun h22 g22 w22 u22 => ?_)
    have F23 := F17.then rfl u22
    refine wi_aload_n (i := 0) (x := 37) (nx := 114) (r1 := 0) (r2 := 0) (r3 := 0) rfl rfl ?_
    refine wi_iload_n (i := 1) (e := a0) (nx := 115) (r1 := 0) (r2 := 0) (r3 := 0) rfl rfl ?_
    refine wi_iload (i := 4) (e := z7) (nx := 117) (r1 := 0) (r2 := 0) (r3 := 0) rfl rfl ?_
    refine wi_iload_n (i := 2) (e := a1) (nx := 118) (r1 := 0) (r2 := 0) (r3 := 0) rfl rfl ?_
    refine wi_if (cd := .eq) (nx := 121) (r1 := 127) (r2 := 0) (r3 := 0) rfl (by omega) (fun (q24 : a1 = 0) => ?_) (fun (q24 : ¬ (a1 = 0)) => ?_)
    ·
      refine wi_iload_n (i := 3) (e := 0) (nx := 128) (r1 := 0) (r2 := 0) (r3 := 0) rfl rfl ?_
      refine wr_V (k0 := 37) (rest := []) (as := [.ref 37, vi a0, vi z7, vi 0]) (nx := 131) (r1 := 144) (r2 := 3) (r3 := 4) rfl rfl rfl (of_decide_eq_true rfl) rfl rfl (by decide) rfl rfl (of_decide_eq_true rfl) (of_decide_eq_true rfl) ?_
      refine ct_144_37 hcr  g22 a0 z7 0 (by omega) (by omega) (by omega)  (fun h25 g25 u25 => ?_)
      have F26 := F23.then (by decide +kernel) u25
      refine wk_n ?_
      refine wi_return (nx := 132) (r1 := 0) (r2 := 0) (r3 := 0) rfl rfl ?_
      exact k h25 g25 F26
    ·
      refine wi_iload_n (i := 3) (e := 0) (nx := 122) (r1 := 0) (r2 := 0) (r3 := 0) rfl rfl ?_
      refine wi_iconst (n := 4) (nx := 123) (r1 := 0) (r2 := 0) (r3 := 0) rfl ?_
      refine wi_ior (e := 4) (nx := 124) (r1 := 0) (r2 := 0) (r3 := 0) rfl (by decide) ?_
      refine wi_goto (nx := 127) (r1 := 128) (r2 := 0) (r3 := 0) rfl ?_
      refine wr_V (k0 := 37) (rest := []) (as := [.ref 37, vi a0, vi z7, vi 4]) (nx := 131) (r1 := 144) (r2 := 3) (r3 := 4) rfl rfl rfl (of_decide_eq_true rfl) rfl rfl (by decide) rfl rfl (of_decide_eq_true rfl) (of_decide_eq_true rfl) ?_
      refine ct_144_37 hcr  g22 a0 z7 4 (by omega) (by omega) (by omega)  (fun h25 g25 u25 => ?_)
      have F26 := F23.then (by decide +kernel) u25
      refine wk_n ?_
      refine wi_return (nx := 132) (r1 := 0) (r2 := 0) (r3 := 0) rfl rfl ?_
      exact k h25 g25 F26
-- method 142: Line.paintFrom(I)I
set_option maxRecDepth 100000 in
set_option maxHeartbeats 100000000 in
theorem ct_142_37 {L : Nat} {xs : Nat → Int32} {d b c : Nat} {h : hp} {cr : Nat → Nat → Option Nat} {Q : hp_Q} (hcr : CR cr)  (g : GI h) (a0 : Int) (q0_ : -2147483648 ≤ a0 ∧ a0 ≤ 2147483647)  (k : ∀ (h2 : hp) (z0 : Int) , GI h2 → FR [(37, 55, none)] h h2 → (-1 ≤ z0 ∧ z0 ≤ 11) → Q (.inl (some (vi z0))) (hp_w h2 cr) b c) : wp (md_xa (L, xs)) (d + 2) 142 (0, [(0, .ref 37), (1, vi a0)], [], hp_w h cr, b, c) Q := by
  have F0 : FR [(37, 55, none)] h h := FR.refl
  refine wi_aload_n (i := 0) (x := 37) (nx := 1) (r1 := 0) (r2 := 0) (r3 := 0) rfl rfl ?_
  refine wi_iload_n (i := 1) (e := a0) (nx := 2) (r1 := 0) (r2 := 0) (r3 := 0) rfl rfl ?_
  refine wr_V (k0 := 37) (rest := []) (as := [.ref 37, vi a0]) (nx := 5) (r1 := 141) (r2 := 1) (r3 := 4) rfl rfl rfl (of_decide_eq_true rfl) rfl rfl (by decide) rfl rfl (of_decide_eq_true rfl) (of_decide_eq_true rfl) ?_
  refine ct_141_37 hcr  g a0 (by omega)  (fun z2  (fz2 : 0 ≤ z2 ∧ z2 ≤ 1) m1_0 => ?_)
  refine wk_i ?_
  refine wi_if (cd := .ne) (nx := 8) (r1 := 10) (r2 := 0) (r3 := 0) rfl (by omega) (fun (q3 : z2 ≠ 0) => ?_) (fun (q3 : ¬ (z2 ≠ 0)) => ?_)
  ·
    have f4 : 0 ≤ a0 ∧ a0 ≤ 3 := m1_0 (by omega)
    refine wi_aload_n (i := 0) (x := 37) (nx := 11) (r1 := 0) (r2 := 0) (r3 := 0) rfl rfl ?_
    refine wr_gr (k0 := 37) (x := 40) (nx := 14) (r1 := 4) (r2 := 3) (r3 := 0) rfl rfl (by decide) rfl ⟨rfl, rfl⟩ rfl ?_
    refine wi_iload_n (i := 1) (e := a0) (nx := 15) (r1 := 0) (r2 := 0) (r3 := 0) rfl rfl ?_
    obtain ⟨i5, ei5⟩ : ∃ q : Nat, a0 = (q : Int) := ⟨(a0).toNat, by omega⟩
    refine wr_aa (k0 := 40) (a := a0) (f := i5) (x := 40 + 8 + 2 * i5) (nx := 16) (r1 := 0) (r2 := 0) (r3 := 0) rfl (by decide) rfl (Or.inl rfl) (by omega) (by omega) (by decide) (hcr.1 40 (by decide) i5 (by omega)) ?_
    obtain ⟨k6, kk6, mk6⟩ : ∃ q, Rw q ∧ q = 40 + 8 + 2 * i5 := ⟨_, rw_lane 40 (by decide) i5 (by omega), rfl⟩
    rw [← mk6]
    refine wi_iconst (n := 0) (nx := 17) (r1 := 0) (r2 := 0) (r3 := 0) rfl ?_
    refine wr_V (k0 := k6) (rest := []) (as := [.ref k6, vi 0]) (nx := 20) (r1 := 154) (r2 := 1) (r3 := 5) rfl rfl rfl (of_decide_eq_true rfl) rfl rfl kk6.k kk6.1 rfl (of_decide_eq_true rfl) (of_decide_eq_true rfl) ?_
    refine ct_154_R hcr kk6 g 0 (by omega)  (fun z8  (fz8 : -2147483648 ≤ z8 ∧ z8 ≤ 2147483647) => ?_)
    refine wk_i ?_
    refine wi_istore_n (i := 2) (e := z8) (lo2 := [(2, vi z8), (0, .ref 37), (1, vi a0)]) (nx := 21) (r1 := 0) (r2 := 0) (r3 := 0) rfl rfl ?_
    refine wi_iload_n (i := 2) (e := z8) (nx := 22) (r1 := 0) (r2 := 0) (r3 := 0) rfl rfl ?_
    refine wi_if (cd := .lt) (nx := 25) (r1 := 31) (r2 := 0) (r3 := 0) rfl (by omega) (fun (q9 : z8 < 0) => ?_) (fun (q9 : ¬ (z8 < 0)) => ?_)
    ·
      refine wi_iconst (n := (-1)) (nx := 32) (r1 := 0) (r2 := 0) (r3 := 0) rfl ?_
      refine wi_ireturn (nx := 33) (r1 := 0) (r2 := 0) (r3 := 0) rfl rfl ?_
      exact k h (-1) g F0 (by omega)
    ·
      refine wi_iload_n (i := 2) (e := z8) (nx := 26) (r1 := 0) (r2 := 0) (r3 := 0) rfl rfl ?_
      refine wi_bipush (n := 12) (nx := 28) (r1 := 0) (r2 := 0) (r3 := 0) rfl (by decide) ?_
      refine wi_icmp (cd := .lt) (nx := 31) (r1 := 33) (r2 := 0) (r3 := 0) rfl (by omega) (by omega) (fun (q10 : z8 < 12) => ?_) (fun (q10 : ¬ (z8 < 12)) => ?_)
      ·
        refine wi_aload_n (i := 0) (x := 37) (nx := 34) (r1 := 0) (r2 := 0) (r3 := 0) rfl rfl ?_
        refine wr_gr (k0 := 37) (x := 40) (nx := 37) (r1 := 4) (r2 := 3) (r3 := 0) rfl rfl (by decide) rfl ⟨rfl, rfl⟩ rfl ?_
        refine wi_iload_n (i := 1) (e := a0) (nx := 38) (r1 := 0) (r2 := 0) (r3 := 0) rfl rfl ?_
        refine wr_aa (k0 := 40) (a := a0) (f := i5) (x := 40 + 8 + 2 * i5) (nx := 39) (r1 := 0) (r2 := 0) (r3 := 0) rfl (by decide) rfl (Or.inl rfl) (by omega) (by omega) (by decide) (hcr.1 40 (by decide) i5 (by omega)) ?_
        obtain ⟨k11, kk11, mk11⟩ : ∃ q, Rw q ∧ q = 40 + 8 + 2 * i5 := ⟨_, rw_lane 40 (by decide) i5 (by omega), rfl⟩
        rw [← mk11]
        refine wr_V (k0 := k11) (rest := []) (as := [.ref k11]) (nx := 42) (r1 := 157) (r2 := 0) (r3 := 5) rfl rfl rfl (of_decide_eq_true rfl) rfl rfl kk11.k kk11.1 rfl (of_decide_eq_true rfl) (of_decide_eq_true rfl) ?_
        refine ct_157_R hcr kk11 g    (fun h12 g12 u12 => ?_)
        have v12 := FR.rngp (lo := 48) (hi := 55) u12 (by omega)
        have F13 := F0.then rfl (FR.rngp (lo := 48) (hi := 55) u12 (by omega))
        refine wk_n ?_
        refine wi_aload_n (i := 0) (x := 37) (nx := 43) (r1 := 0) (r2 := 0) (r3 := 0) rfl rfl ?_
        refine wr_gr (k0 := 37) (x := 39) (nx := 46) (r1 := 4) (r2 := 2) (r3 := 0) rfl rfl (by decide) rfl ⟨rfl, rfl⟩ rfl ?_
        refine wi_iload_n (i := 2) (e := z8) (nx := 47) (r1 := 0) (r2 := 0) (r3 := 0) rfl rfl ?_
        obtain ⟨i14, ei14⟩ : ∃ q : Nat, z8 = (q : Int) := ⟨(z8).toNat, by omega⟩
        have b15 := gi_b (lo := -2147483648) (hi := 2147483647) g 39 i14 rfl
        refine wr_ia (k0 := 39) (a := z8) (f := i14) (x := h 39 i14) (nx := 48) (r1 := 0) (r2 := 0) (r3 := 0) rfl (by decide) rfl (by omega) (by omega) (by decide) (v12 39 i14 (fn_a (by omega) fn_0)) ?_
        refine wi_if (cd := .le) (nx := 51) (r1 := 55) (r2 := 0) (r3 := 0) rfl (by omega) (fun (q16 : (h 39 i14) ≤ 0) => ?_) (fun (q16 : ¬ ((h 39 i14) ≤ 0)) => ?_)
        ·
          refine wi_iconst (n := 0) (nx := 56) (r1 := 0) (r2 := 0) (r3 := 0) rfl ?_
          refine wi_istore_n (i := 3) (e := 0) (lo2 := [(3, vi 0), (2, vi z8), (0, .ref 37), (1, vi a0)]) (nx := 57) (r1 := 0) (r2 := 0) (r3 := 0) rfl rfl ?_
          refine wi_aload_n (i := 0) (x := 37) (nx := 58) (r1 := 0) (r2 := 0) (r3 := 0) rfl rfl ?_
          refine wi_iload_n (i := 2) (e := z8) (nx := 59) (r1 := 0) (r2 := 0) (r3 := 0) rfl rfl ?_
          refine wi_iload_n (i := 3) (e := 0) (nx := 60) (r1 := 0) (r2 := 0) (r3 := 0) rfl rfl ?_
          refine wr_V (k0 := 37) (rest := []) (as := [.ref 37, vi z8, vi 0]) (nx := 63) (r1 := 143) (r2 := 2) (r3 := 4) rfl rfl rfl (of_decide_eq_true rfl) rfl rfl (by decide) rfl rfl (of_decide_eq_true rfl) (of_decide_eq_true rfl) ?_
          refine ct_143_37 hcr  g12 z8 0 (by omega) (by omega)  (fun h17 g17 u17 => ?_)
          have F18 := F13.then (by decide +kernel) u17
          refine wk_n ?_
          refine wi_iload_n (i := 3) (e := 0) (nx := 64) (r1 := 0) (r2 := 0) (r3 := 0) rfl rfl ?_
          refine wi_if (cd := .eq) (nx := 67) (r1 := 107) (r2 := 0) (r3 := 0) rfl (by omega) (fun (q19 : 0 = 0) => ?_) (fun (q19 : ¬ (0 = 0)) => by exfalso; omega)
          refine wi_aload_n (i := 0) (x := 37) (nx := 108) (r1 := 0) (r2 := 0) (r3 := 0) rfl rfl ?_
          refine wr_gr (k0 := 37) (x := 45) (nx := 111) (r1 := 4) (r2 := 6) (r3 := 0) rfl rfl (by decide) rfl ⟨rfl, rfl⟩ rfl ?_
          refine wi_iload_n (i := 2) (e := z8) (nx := 112) (r1 := 0) (r2 := 0) (r3 := 0) rfl rfl ?_
          refine wr_V (k0 := 45) (rest := []) (as := [.ref 45, vi z8]) (nx := 115) (r1 := 158) (r2 := 1) (r3 := 5) rfl rfl rfl (of_decide_eq_true rfl) rfl rfl (by decide) rfl rfl (of_decide_eq_true rfl) (of_decide_eq_true rfl) ?_
          refine ct_158_R hcr rw_45 g17 z8 (by omega)  (fun h20 g20 u20 => ?_)
          have F21 := F18.then rfl u20
          refine wk_n ?_
          refine wi_aload_n (i := 0) (x := 37) (nx := 116) (r1 := 0) (r2 := 0) (r3 := 0) rfl rfl ?_
          refine wi_dup (nx := 117) (r1 := 0) (r2 := 0) (r3 := 0) rfl rfl ?_
          have b22 := gi_b (lo := -2147483648) (hi := 2147483647) g17 37 16 rfl
          refine wr_gi0 (k0 := 37) (x := h17 37 16) (nx := 120) (r1 := 4) (r2 := 16) (r3 := 0) rfl rfl (by decide) rfl ⟨rfl, rfl⟩ rfl (u20 37 16 rfl) ?_
          refine wi_iconst (n := 1) (nx := 121) (r1 := 0) (r2 := 0) (r3 := 0) rfl ?_
          refine wr_addW (nx := 122) (r1 := 0) (r2 := 0) (r3 := 0) rfl (fun e23 (fe23 : -2147483648 ≤ e23 ∧ e23 ≤ 2147483647) => ?_)
          refine wr_pf0 (k0 := 37) (x := e23) (bl := -2147483648) (bh := 2147483647) (nx := 125) (r1 := 4) (r2 := 16) (r3 := 0) rfl (by decide) rfl ⟨rfl, rfl⟩ rfl rfl g20 rfl (by omega) (fun h24 g24 w24 u24 => ?_)
          have F25 := F21.then rfl u24
          refine wi_iload_n (i := 2) (e := z8) (nx := 126) (r1 := 0) (r2 := 0) (r3 := 0) rfl rfl ?_
          refine wi_ireturn (nx := 127) (r1 := 0) (r2 := 0) (r3 := 0) rfl rfl ?_
          exact k h24 z8 g24 F25 (by omega)
        ·
          refine wi_iconst (n := 1) (nx := 52) (r1 := 0) (r2 := 0) (r3 := 0) rfl ?_
          refine wi_goto (nx := 55) (r1 := 56) (r2 := 0) (r3 := 0) rfl ?_
          refine wi_istore_n (i := 3) (e := 1) (lo2 := [(3, vi 1), (2, vi z8), (0, .ref 37), (1, vi a0)]) (nx := 57) (r1 := 0) (r2 := 0) (r3 := 0) rfl rfl ?_
          refine wi_aload_n (i := 0) (x := 37) (nx := 58) (r1 := 0) (r2 := 0) (r3 := 0) rfl rfl ?_
          refine wi_iload_n (i := 2) (e := z8) (nx := 59) (r1 := 0) (r2 := 0) (r3 := 0) rfl rfl ?_
          refine wi_iload_n (i := 3) (e := 1) (nx := 60) (r1 := 0) (r2 := 0) (r3 := 0) rfl rfl ?_
          refine wr_V (k0 := 37) (rest := []) (as := [.ref 37, vi z8, vi 1]) (nx := 63) (r1 := 143) (r2 := 2) (r3 := 4) rfl rfl rfl (of_decide_eq_true rfl) rfl rfl (by decide) rfl rfl (of_decide_eq_true rfl) (of_decide_eq_true rfl) ?_
          refine ct_143_37 hcr  g12 z8 1 (by omega) (by omega)  (fun h17 g17 u17 => ?_)
          have F18 := F13.then (by decide +kernel) u17
          refine wk_n ?_
          refine wi_iload_n (i := 3) (e := 1) (nx := 64) (r1 := 0) (r2 := 0) (r3 := 0) rfl rfl ?_
          refine wi_if (cd := .eq) (nx := 67) (r1 := 107) (r2 := 0) (r3 := 0) rfl (by omega) (fun (q19 : 1 = 0) => by exfalso; omega) (fun (q19 : ¬ (1 = 0)) => ?_)
          refine wi_aload_n (i := 0) (x := 37) (nx := 68) (r1 := 0) (r2 := 0) (r3 := 0) rfl rfl ?_
          refine wr_gr (k0 := 37) (x := 39) (nx := 71) (r1 := 4) (r2 := 2) (r3 := 0) rfl rfl (by decide) rfl ⟨rfl, rfl⟩ rfl ?_
          refine wi_iload_n (i := 2) (e := z8) (nx := 72) (r1 := 0) (r2 := 0) (r3 := 0) rfl rfl ?_
          refine wi_dup2 (nx := 73) (r1 := 0) (r2 := 0) (r3 := 0) rfl rfl rfl ?_
          have b20 := gi_b (lo := -2147483648) (hi := 2147483647) g17 39 i14 rfl
          refine wr_ia (k0 := 39) (a := z8) (f := i14) (x := h17 39 i14) (nx := 74) (r1 := 0) (r2 := 0) (r3 := 0) rfl (by decide) rfl (by omega) (by omega) (by decide) rfl ?_
          refine wi_iconst (n := 1) (nx := 75) (r1 := 0) (r2 := 0) (r3 := 0) rfl ?_
          refine wr_subW (nx := 76) (r1 := 0) (r2 := 0) (r3 := 0) rfl (fun e21 (fe21 : -2147483648 ≤ e21 ∧ e21 ≤ 2147483647) => ?_)
          refine wr_is (k0 := 39) (a := z8) (f := i14) (x := e21) (bl := -2147483648) (bh := 2147483647) (nx := 77) (r1 := 0) (r2 := 0) (r3 := 0) rfl (by decide) rfl (by omega) (by omega) (by decide) g17 rfl (by omega) (fun h22 g22 w22 u22 => ?_)
          have F23 := F18.then rfl (FR.rngp (lo := 39) (hi := 39) u22 (by decide))
          refine wi_aload_n (i := 0) (x := 37) (nx := 78) (r1 := 0) (r2 := 0) (r3 := 0) rfl rfl ?_
          refine wr_gr (k0 := 37) (x := 41) (nx := 81) (r1 := 4) (r2 := 4) (r3 := 0) rfl rfl (by decide) rfl ⟨rfl, rfl⟩ rfl ?_
          refine wi_iload_n (i := 2) (e := z8) (nx := 82) (r1 := 0) (r2 := 0) (r3 := 0) rfl rfl ?_
          refine wr_V (k0 := 41) (rest := []) (as := [.ref 41, vi z8]) (nx := 85) (r1 := 158) (r2 := 1) (r3 := 5) rfl rfl rfl (of_decide_eq_true rfl) rfl rfl (by decide) rfl rfl (of_decide_eq_true rfl) (of_decide_eq_true rfl) ?_
          refine ct_158_R hcr rw_41 g22 z8 (by omega)  (fun h24 g24 u24 => ?_)
          have F25 := F23.then rfl u24
          refine wk_n ?_
          refine wi_aload_n (i := 0) (x := 37) (nx := 86) (r1 := 0) (r2 := 0) (r3 := 0) rfl rfl ?_
          refine wr_gr (k0 := 37) (x := 43) (nx := 89) (r1 := 4) (r2 := 5) (r3 := 0) rfl rfl (by decide) rfl ⟨rfl, rfl⟩ rfl ?_
          refine wi_aload_n (i := 0) (x := 37) (nx := 90) (r1 := 0) (r2 := 0) (r3 := 0) rfl rfl ?_
          have b26 := gi_b (lo := -2147483648) (hi := 2147483647) g17 37 10 rfl
          refine wr_gi0 (k0 := 37) (x := h17 37 10) (nx := 93) (r1 := 4) (r2 := 10) (r3 := 0) rfl rfl (by decide) rfl ⟨rfl, rfl⟩ rfl ((u24 37 10 rfl).trans (u22 37 10 (fn_a (by omega) fn_0))) ?_
          refine wi_aload_n (i := 0) (x := 37) (nx := 94) (r1 := 0) (r2 := 0) (r3 := 0) rfl rfl ?_
          refine wr_gr (k0 := 37) (x := 3) (nx := 97) (r1 := 4) (r2 := 0) (r3 := 0) rfl rfl (by decide) rfl ⟨rfl, rfl⟩ rfl ?_
          have b27 := gi_b (lo := -2147483648) (hi := 2147483647) g 3 8 rfl
          refine wr_gi0 (k0 := 3) (x := h 3 8) (nx := 100) (r1 := 2) (r2 := 8) (r3 := 0) rfl rfl (by decide) rfl ⟨rfl, rfl⟩ rfl ((u24 3 8 rfl).trans ((u22 3 8 (fn_a (by omega) fn_0)).trans ((u17 3 8 rfl).trans (v12 3 8 rfl)))) ?_
          refine wr_addW (nx := 101) (r1 := 0) (r2 := 0) (r3 := 0) rfl (fun e28 (fe28 : -2147483648 ≤ e28 ∧ e28 ≤ 2147483647) => ?_)
          refine wr_V (k0 := 43) (rest := []) (as := [.ref 43, vi e28]) (nx := 104) (r1 := 158) (r2 := 1) (r3 := 5) rfl rfl rfl (of_decide_eq_true rfl) rfl rfl (by decide) rfl rfl (of_decide_eq_true rfl) (of_decide_eq_true rfl) ?_
          refine ct_158_R hcr rw_43 g24 e28 (by omega)  (fun h29 g29 u29 => ?_)
          have F30 := F25.then rfl u29
          refine wk_n ?_
          refine wi_goto (nx := 107) (r1 := 115) (r2 := 0) (r3 := 0) rfl ?_
          refine wi_aload_n (i := 0) (x := 37) (nx := 116) (r1 := 0) (r2 := 0) (r3 := 0) rfl rfl ?_
          refine wi_dup (nx := 117) (r1 := 0) (r2 := 0) (r3 := 0) rfl rfl ?_
          have b31 := gi_b (lo := -2147483648) (hi := 2147483647) g17 37 16 rfl
          refine wr_gi0 (k0 := 37) (x := h17 37 16) (nx := 120) (r1 := 4) (r2 := 16) (r3 := 0) rfl rfl (by decide) rfl ⟨rfl, rfl⟩ rfl ((u29 37 16 rfl).trans ((u24 37 16 rfl).trans (u22 37 16 (fn_a (by omega) fn_0)))) ?_
          refine wi_iconst (n := 1) (nx := 121) (r1 := 0) (r2 := 0) (r3 := 0) rfl ?_
          refine wr_addW (nx := 122) (r1 := 0) (r2 := 0) (r3 := 0) rfl (fun e32 (fe32 : -2147483648 ≤ e32 ∧ e32 ≤ 2147483647) => ?_)
          refine wr_pf0 (k0 := 37) (x := e32) (bl := -2147483648) (bh := 2147483647) (nx := 125) (r1 := 4) (r2 := 16) (r3 := 0) rfl (by decide) rfl ⟨rfl, rfl⟩ rfl rfl g29 rfl (by omega) (fun h33 g33 w33 u33 => ?_)
          have F34 := F30.then rfl u33
          refine wi_iload_n (i := 2) (e := z8) (nx := 126) (r1 := 0) (r2 := 0) (r3 := 0) rfl rfl ?_
          refine wi_ireturn (nx := 127) (r1 := 0) (r2 := 0) (r3 := 0) rfl rfl ?_
          exact k h33 z8 g33 F34 (by omega)
      ·
        refine wi_iconst (n := (-1)) (nx := 32) (r1 := 0) (r2 := 0) (r3 := 0) rfl ?_
        refine wi_ireturn (nx := 33) (r1 := 0) (r2 := 0) (r3 := 0) rfl rfl ?_
        exact k h (-1) g F0 (by omega)
  ·
    refine wi_iconst (n := (-1)) (nx := 9) (r1 := 0) (r2 := 0) (r3 := 0) rfl ?_
    refine wi_ireturn (nx := 10) (r1 := 0) (r2 := 0) (r3 := 0) rfl rfl ?_
    exact k h (-1) g F0 (by omega)
-- method 133: Line.passTime()I
set_option maxRecDepth 100000 in
set_option maxHeartbeats 100000000 in
theorem ct_133_37 {L : Nat} {xs : Nat → Int32} {d b c : Nat} {h : hp} {cr : Nat → Nat → Option Nat} {Q : hp_Q} (hcr : CR cr)  (g : GI h)    (k : ∀ (h2 : hp) (z0 : Int) , GI h2 → FR [(37, 37, some (10, 10)), (37, 37, some (16, 16))] h h2 → (-2147483647 ≤ z0 ∧ z0 ≤ 9999) → Q (.inl (some (vi z0))) (hp_w h2 cr) b c) : wp (md_xa (L, xs)) d 133 (0, [(0, .ref 37)], [], hp_w h cr, b, c) Q := by
  have F0 : FR [(37, 37, some (10, 10)), (37, 37, some (16, 16))] h h := FR.refl
  refine wi_aload_n (i := 0) (x := 37) (nx := 1) (r1 := 0) (r2 := 0) (r3 := 0) rfl rfl ?_
  have b1 := gi_b (lo := -2147483648) (hi := 2147483647) g 37 10 rfl
  refine wr_gi0 (k0 := 37) (x := h 37 10) (nx := 4) (r1 := 4) (r2 := 10) (r3 := 0) rfl rfl (by decide) rfl ⟨rfl, rfl⟩ rfl rfl ?_
  refine wi_sipush (n := 9999) (nx := 7) (r1 := 0) (r2 := 0) (r3 := 0) rfl (by decide) ?_
  refine wi_icmp (cd := .lt) (nx := 10) (r1 := 12) (r2 := 0) (r3 := 0) rfl (by omega) (by omega) (fun (q2 : (h 37 10) < 9999) => ?_) (fun (q2 : ¬ ((h 37 10) < 9999)) => ?_)
  ·
    refine wi_aload_n (i := 0) (x := 37) (nx := 13) (r1 := 0) (r2 := 0) (r3 := 0) rfl rfl ?_
    refine wi_dup (nx := 14) (r1 := 0) (r2 := 0) (r3 := 0) rfl rfl ?_
    refine wr_gi0 (k0 := 37) (x := h 37 10) (nx := 17) (r1 := 4) (r2 := 10) (r3 := 0) rfl rfl (by decide) rfl ⟨rfl, rfl⟩ rfl rfl ?_
    refine wi_iconst (n := 1) (nx := 18) (r1 := 0) (r2 := 0) (r3 := 0) rfl ?_
    refine wr_add (nx := 19) (r1 := 0) (r2 := 0) (r3 := 0) rfl (fun e3 (fe3 : e3 = (h 37 10) + 1) => ?_)
    refine wr_pf0 (k0 := 37) (x := e3) (bl := -2147483648) (bh := 2147483647) (nx := 22) (r1 := 4) (r2 := 10) (r3 := 0) rfl (by decide) rfl ⟨rfl, rfl⟩ rfl rfl g rfl (by omega) (fun h4 g4 w4 u4 => ?_)
    have F5 := F0.then rfl u4
    refine wi_aload_n (i := 0) (x := 37) (nx := 23) (r1 := 0) (r2 := 0) (r3 := 0) rfl rfl ?_
    refine wi_dup (nx := 24) (r1 := 0) (r2 := 0) (r3 := 0) rfl rfl ?_
    have b6 := gi_b (lo := -2147483648) (hi := 2147483647) g 37 16 rfl
    refine wr_gi0 (k0 := 37) (x := h 37 16) (nx := 27) (r1 := 4) (r2 := 16) (r3 := 0) rfl rfl (by decide) rfl ⟨rfl, rfl⟩ rfl (u4 37 16 rfl) ?_
    refine wi_iconst (n := 1) (nx := 28) (r1 := 0) (r2 := 0) (r3 := 0) rfl ?_
    refine wr_addW (nx := 29) (r1 := 0) (r2 := 0) (r3 := 0) rfl (fun e7 (fe7 : -2147483648 ≤ e7 ∧ e7 ≤ 2147483647) => ?_)
    refine wr_pf0 (k0 := 37) (x := e7) (bl := -2147483648) (bh := 2147483647) (nx := 32) (r1 := 4) (r2 := 16) (r3 := 0) rfl (by decide) rfl ⟨rfl, rfl⟩ rfl rfl g4 rfl (by omega) (fun h8 g8 w8 u8 => ?_)
    have F9 := F5.then rfl u8
    refine wi_aload_n (i := 0) (x := 37) (nx := 33) (r1 := 0) (r2 := 0) (r3 := 0) rfl rfl ?_
    refine wr_gi0 (k0 := 37) (x := e3) (nx := 36) (r1 := 4) (r2 := 10) (r3 := 0) rfl rfl (by decide) rfl ⟨rfl, rfl⟩ rfl ((u8 37 10 rfl).trans w4) ?_
    refine wi_ireturn (nx := 37) (r1 := 0) (r2 := 0) (r3 := 0) rfl rfl ?_
    exact k h8 e3 g8 F9 (by omega)
  ·
    refine wi_iconst (n := (-1)) (nx := 11) (r1 := 0) (r2 := 0) (r3 := 0) rfl ?_
    refine wi_ireturn (nx := 12) (r1 := 0) (r2 := 0) (r3 := 0) rfl rfl ?_
    exact k h (-1) g F0 (by omega)
-- method 136: Line.chosenLane(I)I
set_option maxRecDepth 100000 in
set_option maxHeartbeats 100000000 in
theorem ct_136_37 {L : Nat} {xs : Nat → Int32} {d b c : Nat} {h : hp} {cr : Nat → Nat → Option Nat} {Q : hp_Q} (hcr : CR cr)  (g : GI h) (a0 : Int) (q0_ : -2147483648 ≤ a0 ∧ a0 ≤ 2147483647)  (k : ∀ (z0 : Int), (-1 ≤ z0 ∧ z0 ≤ 3) → Q (.inl (some (vi z0))) (hp_w h cr) b c) : wp (md_xa (L, xs)) (d + 1) 136 (0, [(0, .ref 37), (1, vi a0)], [], hp_w h cr, b, c) Q := by
  have F0 : FR [] h h := FR.refl
  refine wi_iconst (n := (-1)) (nx := 1) (r1 := 0) (r2 := 0) (r3 := 0) rfl ?_
  refine wi_istore_n (i := 2) (e := -1) (lo2 := [(2, vi (-1)), (0, .ref 37), (1, vi a0)]) (nx := 2) (r1 := 0) (r2 := 0) (r3 := 0) rfl rfl ?_
  refine wi_bipush (n := 12) (nx := 4) (r1 := 0) (r2 := 0) (r3 := 0) rfl (by decide) ?_
  refine wi_istore_n (i := 3) (e := 12) (lo2 := [(3, vi 12), (2, vi (-1)), (0, .ref 37), (1, vi a0)]) (nx := 5) (r1 := 0) (r2 := 0) (r3 := 0) rfl rfl ?_
  refine wi_iconst (n := 0) (nx := 6) (r1 := 0) (r2 := 0) (r3 := 0) rfl ?_
  refine wi_istore (i := 4) (e := 0) (lo2 := [(4, vi 0), (3, vi 12), (2, vi (-1)), (0, .ref 37), (1, vi a0)]) (nx := 8) (r1 := 0) (r2 := 0) (r3 := 0) rfl rfl ?_
  refine wp.lo (lo := [(0, .ref 37), (1, vi a0), (2, vi (-1)), (3, vi 12), (4, vi 0)]) ⟨rfl, rfl, rfl, rfl, rfl, trivial⟩ rfl ?_
  refine wl_3 (fun x1 x2 x3 h4 => h = h4 ∧ ((-1 ≤ x1 ∧ x1 ≤ 3) ∧ (0 ≤ x2 ∧ x2 ≤ 12) ∧ (0 ≤ x3 ∧ x3 ≤ 4))) (fun x1 x2 x3 h4 => ((4 : Int) + 1 - x3).toNat) (fun x1 x2 x3 h4 => (8, [(0, .ref 37), (1, vi a0), (2, vi x1), (3, vi x2), (4, vi x3)], [], hp_w h4 cr, b, c)) ?_ (-1) 12 0 h ⟨rfl, (show (-1 ≤ (-1) ∧ (-1) ≤ 3) ∧ (0 ≤ 12 ∧ 12 ≤ 12) ∧ (0 ≤ 0 ∧ 0 ≤ 4) by omega)⟩
  intro x1 x2 x3 h4 ⟨e4, f4⟩ I4
  subst e4
  refine wi_iload (i := 4) (e := x3) (nx := 10) (r1 := 0) (r2 := 0) (r3 := 0) rfl rfl ?_
  refine wi_aload_n (i := 0) (x := 37) (nx := 11) (r1 := 0) (r2 := 0) (r3 := 0) rfl rfl ?_
  refine wr_gr (k0 := 37) (x := 3) (nx := 14) (r1 := 4) (r2 := 0) (r3 := 0) rfl rfl (by decide) rfl ⟨rfl, rfl⟩ rfl ?_
  have b6 := gi_b (lo := 0) (hi := 4) g 3 1 rfl
  refine wr_gi0 (k0 := 3) (x := h 3 1) (nx := 17) (r1 := 2) (r2 := 1) (r3 := 0) rfl rfl (by decide) rfl ⟨rfl, rfl⟩ rfl rfl ?_
  refine wi_icmp (cd := .ge) (nx := 20) (r1 := 89) (r2 := 0) (r3 := 0) rfl (by omega) (by omega) (fun (q7 : (h 3 1) ≤ x3) => ?_) (fun (q7 : ¬ ((h 3 1) ≤ x3)) => ?_)
  ·
    refine wi_iload_n (i := 2) (e := x1) (nx := 90) (r1 := 0) (r2 := 0) (r3 := 0) rfl rfl ?_
    refine wi_ireturn (nx := 91) (r1 := 0) (r2 := 0) (r3 := 0) rfl rfl ?_
    exact k x1 (by omega)
  ·
    refine wi_aload_n (i := 0) (x := 37) (nx := 21) (r1 := 0) (r2 := 0) (r3 := 0) rfl rfl ?_
    refine wi_iload (i := 4) (e := x3) (nx := 23) (r1 := 0) (r2 := 0) (r3 := 0) rfl rfl ?_
    refine wr_V (k0 := 37) (rest := []) (as := [.ref 37, vi x3]) (nx := 26) (r1 := 137) (r2 := 1) (r3 := 4) rfl rfl rfl (of_decide_eq_true rfl) rfl rfl (by decide) rfl rfl (of_decide_eq_true rfl) (of_decide_eq_true rfl) ?_
    refine wi_iload_n (i := 1) (e := x3) (nx := 1) (r1 := 0) (r2 := 0) (r3 := 0) rfl rfl ?_
    refine wi_if (cd := .lt) (nx := 4) (r1 := 40) (r2 := 0) (r3 := 0) rfl (by omega) (fun (q8 : x3 < 0) => by exfalso; omega) (fun (q8 : ¬ (x3 < 0)) => ?_)
    refine wi_iload_n (i := 1) (e := x3) (nx := 5) (r1 := 0) (r2 := 0) (r3 := 0) rfl rfl ?_
    refine wi_aload_n (i := 0) (x := 37) (nx := 6) (r1 := 0) (r2 := 0) (r3 := 0) rfl rfl ?_
    refine wr_gr (k0 := 37) (x := 3) (nx := 9) (r1 := 4) (r2 := 0) (r3 := 0) rfl rfl (by decide) rfl ⟨rfl, rfl⟩ rfl ?_
    refine wr_gi0 (k0 := 3) (x := h 3 1) (nx := 12) (r1 := 2) (r2 := 1) (r3 := 0) rfl rfl (by decide) rfl ⟨rfl, rfl⟩ rfl rfl ?_
    refine wi_icmp (cd := .ge) (nx := 15) (r1 := 40) (r2 := 0) (r3 := 0) rfl (by omega) (by omega) (fun (q9 : (h 3 1) ≤ x3) => by exfalso; omega) (fun (q9 : ¬ ((h 3 1) ≤ x3)) => ?_)
    refine wi_aload_n (i := 0) (x := 37) (nx := 16) (r1 := 0) (r2 := 0) (r3 := 0) rfl rfl ?_
    refine wr_gr (k0 := 37) (x := 40) (nx := 19) (r1 := 4) (r2 := 3) (r3 := 0) rfl rfl (by decide) rfl ⟨rfl, rfl⟩ rfl ?_
    refine wi_iload_n (i := 1) (e := x3) (nx := 20) (r1 := 0) (r2 := 0) (r3 := 0) rfl rfl ?_
    obtain ⟨i10, ei10⟩ : ∃ q : Nat, x3 = (q : Int) := ⟨(x3).toNat, by omega⟩
    refine wr_aa (k0 := 40) (a := x3) (f := i10) (x := 40 + 8 + 2 * i10) (nx := 21) (r1 := 0) (r2 := 0) (r3 := 0) rfl (by decide) rfl (Or.inl rfl) (by omega) (by omega) (by decide) (hcr.1 40 (by decide) i10 (by omega)) ?_
    obtain ⟨k11, kk11, mk11⟩ : ∃ q, Rw q ∧ q = 40 + 8 + 2 * i10 := ⟨_, rw_lane 40 (by decide) i10 (by omega), rfl⟩
    rw [← mk11]
    have b12 := gi_b (lo := 0) (hi := 12) g k11 1 kk11.2.2.2.1
    refine wr_gi0 (k0 := k11) (x := h k11 1) (nx := 24) (r1 := 5) (r2 := 1) (r3 := 0) rfl rfl kk11.k kk11.1 ⟨rfl, rfl⟩ rfl rfl ?_
    refine wi_aload_n (i := 0) (x := 37) (nx := 25) (r1 := 0) (r2 := 0) (r3 := 0) rfl rfl ?_
    refine wr_gr (k0 := 37) (x := 3) (nx := 28) (r1 := 4) (r2 := 0) (r3 := 0) rfl rfl (by decide) rfl ⟨rfl, rfl⟩ rfl ?_
    refine wr_gr (k0 := 3) (x := 6) (nx := 31) (r1 := 2) (r2 := 12) (r3 := 0) rfl rfl (by decide) rfl ⟨rfl, rfl⟩ rfl ?_
    refine wi_iload_n (i := 1) (e := x3) (nx := 32) (r1 := 0) (r2 := 0) (r3 := 0) rfl rfl ?_
    have b13 := gi_b (lo := -2147483648) (hi := 2147483647) g 6 i10 rfl
    refine wr_ia (k0 := 6) (a := x3) (f := i10) (x := h 6 i10) (nx := 33) (r1 := 0) (r2 := 0) (r3 := 0) rfl (by decide) rfl (by omega) (by omega) (by decide) rfl ?_
    refine wi_icmp (cd := .ge) (nx := 36) (r1 := 40) (r2 := 0) (r3 := 0) rfl (by omega) (by omega) (fun (q14 : (h 6 i10) ≤ (h k11 1)) => ?_) (fun (q14 : ¬ ((h 6 i10) ≤ (h k11 1))) => ?_)
    ·
      refine wi_iconst (n := 0) (nx := 41) (r1 := 0) (r2 := 0) (r3 := 0) rfl ?_
      refine wi_zreturn (nx := 42) (r1 := 0) (r2 := 0) (r3 := 0) rfl rfl (by omega) ?_
      refine wk_i ?_
      refine wi_if (cd := .eq) (nx := 29) (r1 := 83) (r2 := 0) (r3 := 0) rfl (by omega) (fun (q15 : 0 = 0) => ?_) (fun (q15 : ¬ (0 = 0)) => by exfalso; omega)
      refine wr_iinc (i := 4) (n := 1) (v := x3) (fun e16 => [(4, vi e16), (0, .ref 37), (1, vi a0), (2, vi x1), (3, vi x2)]) (nx := 86) (r1 := 0) (r2 := 0) (r3 := 0) rfl rfl (fun _ => rfl) (fun e16 (fe16 : e16 = x3 + 1) => ?_)
      refine wi_goto (nx := 89) (r1 := 8) (r2 := 0) (r3 := 0) rfl ?_
      refine wp.lo (lo := [(0, .ref 37), (1, vi a0), (2, vi x1), (3, vi x2), (4, vi e16)]) ⟨rfl, rfl, rfl, rfl, rfl, trivial⟩ rfl ?_
      exact I4 x1 x2 e16 h ⟨rfl, (show (-1 ≤ x1 ∧ x1 ≤ 3) ∧ (0 ≤ x2 ∧ x2 ≤ 12) ∧ (0 ≤ e16 ∧ e16 ≤ 4) by omega)⟩ (show ((4 : Int) + 1 - e16).toNat < ((4 : Int) + 1 - x3).toNat by omega)
    ·
      refine wi_iconst (n := 1) (nx := 37) (r1 := 0) (r2 := 0) (r3 := 0) rfl ?_
      refine wi_goto (nx := 40) (r1 := 41) (r2 := 0) (r3 := 0) rfl ?_
      refine wi_zreturn (nx := 42) (r1 := 0) (r2 := 0) (r3 := 0) rfl rfl (by omega) ?_
      refine wk_i ?_
      refine wi_if (cd := .eq) (nx := 29) (r1 := 83) (r2 := 0) (r3 := 0) rfl (by omega) (fun (q15 : 1 = 0) => by exfalso; omega) (fun (q15 : ¬ (1 = 0)) => ?_)
      refine wi_aload_n (i := 0) (x := 37) (nx := 30) (r1 := 0) (r2 := 0) (r3 := 0) rfl rfl ?_
      refine wr_gr (k0 := 37) (x := 40) (nx := 33) (r1 := 4) (r2 := 3) (r3 := 0) rfl rfl (by decide) rfl ⟨rfl, rfl⟩ rfl ?_
      refine wi_iload (i := 4) (e := x3) (nx := 35) (r1 := 0) (r2 := 0) (r3 := 0) rfl rfl ?_
      refine wr_aa (k0 := 40) (a := x3) (f := i10) (x := 40 + 8 + 2 * i10) (nx := 36) (r1 := 0) (r2 := 0) (r3 := 0) rfl (by decide) rfl (Or.inl rfl) (by omega) (by omega) (by decide) (hcr.1 40 (by decide) i10 (by omega)) ?_
      obtain ⟨k16, kk16, mk16⟩ : ∃ q, Rw q ∧ q = 40 + 8 + 2 * i10 := ⟨_, rw_lane 40 (by decide) i10 (by omega), rfl⟩
      rw [← mk16]
      have b17 := gi_b (lo := 0) (hi := 12) g k16 1 kk16.2.2.2.1
      refine wr_gi0 (k0 := k16) (x := h k16 1) (nx := 39) (r1 := 5) (r2 := 1) (r3 := 0) rfl rfl kk16.k kk16.1 ⟨rfl, rfl⟩ rfl rfl ?_
      refine wi_istore (i := 5) (e := h k16 1) (lo2 := [(5, vi (h k16 1)), (0, .ref 37), (1, vi a0), (2, vi x1), (3, vi x2), (4, vi x3)]) (nx := 41) (r1 := 0) (r2 := 0) (r3 := 0) rfl rfl ?_
      refine wi_iload (i := 5) (e := h k16 1) (nx := 43) (r1 := 0) (r2 := 0) (r3 := 0) rfl rfl ?_
      refine wi_if (cd := .le) (nx := 46) (r1 := 71) (r2 := 0) (r3 := 0) rfl (by omega) (fun (q18 : (h k16 1) ≤ 0) => ?_) (fun (q18 : ¬ ((h k16 1) ≤ 0)) => ?_)
      ·
        refine wi_iload (i := 5) (e := h k16 1) (nx := 73) (r1 := 0) (r2 := 0) (r3 := 0) rfl rfl ?_
        refine wi_iload_n (i := 3) (e := x2) (nx := 74) (r1 := 0) (r2 := 0) (r3 := 0) rfl rfl ?_
        refine wi_icmp (cd := .ge) (nx := 77) (r1 := 83) (r2 := 0) (r3 := 0) rfl (by omega) (by omega) (fun (q19 : x2 ≤ (h k16 1)) => ?_) (fun (q19 : ¬ (x2 ≤ (h k16 1))) => ?_)
        ·
          refine wr_iinc (i := 4) (n := 1) (v := x3) (fun e20 => [(4, vi e20), (5, vi (h k16 1)), (0, .ref 37), (1, vi a0), (2, vi x1), (3, vi x2)]) (nx := 86) (r1 := 0) (r2 := 0) (r3 := 0) rfl rfl (fun _ => rfl) (fun e20 (fe20 : e20 = x3 + 1) => ?_)
          refine wi_goto (nx := 89) (r1 := 8) (r2 := 0) (r3 := 0) rfl ?_
          refine wp.lo (lo := [(0, .ref 37), (1, vi a0), (2, vi x1), (3, vi x2), (4, vi e20)]) ⟨rfl, rfl, rfl, rfl, rfl, trivial⟩ rfl ?_
          exact I4 x1 x2 e20 h ⟨rfl, (show (-1 ≤ x1 ∧ x1 ≤ 3) ∧ (0 ≤ x2 ∧ x2 ≤ 12) ∧ (0 ≤ e20 ∧ e20 ≤ 4) by omega)⟩ (show ((4 : Int) + 1 - e20).toNat < ((4 : Int) + 1 - x3).toNat by omega)
        ·
          refine wi_iload (i := 5) (e := h k16 1) (nx := 79) (r1 := 0) (r2 := 0) (r3 := 0) rfl rfl ?_
          refine wi_istore_n (i := 3) (e := h k16 1) (lo2 := [(3, vi (h k16 1)), (5, vi (h k16 1)), (0, .ref 37), (1, vi a0), (2, vi x1), (4, vi x3)]) (nx := 80) (r1 := 0) (r2 := 0) (r3 := 0) rfl rfl ?_
          refine wi_iload (i := 4) (e := x3) (nx := 82) (r1 := 0) (r2 := 0) (r3 := 0) rfl rfl ?_
          refine wi_istore_n (i := 2) (e := x3) (lo2 := [(2, vi x3), (3, vi (h k16 1)), (5, vi (h k16 1)), (0, .ref 37), (1, vi a0), (4, vi x3)]) (nx := 83) (r1 := 0) (r2 := 0) (r3 := 0) rfl rfl ?_
          refine wr_iinc (i := 4) (n := 1) (v := x3) (fun e20 => [(4, vi e20), (2, vi x3), (3, vi (h k16 1)), (5, vi (h k16 1)), (0, .ref 37), (1, vi a0)]) (nx := 86) (r1 := 0) (r2 := 0) (r3 := 0) rfl rfl (fun _ => rfl) (fun e20 (fe20 : e20 = x3 + 1) => ?_)
          refine wi_goto (nx := 89) (r1 := 8) (r2 := 0) (r3 := 0) rfl ?_
          refine wp.lo (lo := [(0, .ref 37), (1, vi a0), (2, vi x3), (3, vi (h k16 1)), (4, vi e20)]) ⟨rfl, rfl, rfl, rfl, rfl, trivial⟩ rfl ?_
          exact I4 x3 (h k16 1) e20 h ⟨rfl, (show (-1 ≤ x3 ∧ x3 ≤ 3) ∧ (0 ≤ (h k16 1) ∧ (h k16 1) ≤ 12) ∧ (0 ≤ e20 ∧ e20 ≤ 4) by omega)⟩ (show ((4 : Int) + 1 - e20).toNat < ((4 : Int) + 1 - x3).toNat by omega)
      ·
        refine wi_aload_n (i := 0) (x := 37) (nx := 47) (r1 := 0) (r2 := 0) (r3 := 0) rfl rfl ?_
        refine wi_aload_n (i := 0) (x := 37) (nx := 48) (r1 := 0) (r2 := 0) (r3 := 0) rfl rfl ?_
        refine wr_gr (k0 := 37) (x := 40) (nx := 51) (r1 := 4) (r2 := 3) (r3 := 0) rfl rfl (by decide) rfl ⟨rfl, rfl⟩ rfl ?_
        refine wi_iload (i := 4) (e := x3) (nx := 53) (r1 := 0) (r2 := 0) (r3 := 0) rfl rfl ?_
        refine wr_aa (k0 := 40) (a := x3) (f := i10) (x := 40 + 8 + 2 * i10) (nx := 54) (r1 := 0) (r2 := 0) (r3 := 0) rfl (by decide) rfl (Or.inl rfl) (by omega) (by omega) (by decide) (hcr.1 40 (by decide) i10 (by omega)) ?_
        obtain ⟨k19, kk19, mk19⟩ : ∃ q, Rw q ∧ q = 40 + 8 + 2 * i10 := ⟨_, rw_lane 40 (by decide) i10 (by omega), rfl⟩
        rw [← mk19]
        refine wr_V (k0 := k19) (rest := [.ref 37]) (as := [.ref k19]) (nx := 57) (r1 := 156) (r2 := 0) (r3 := 5) rfl rfl rfl (of_decide_eq_true rfl) rfl rfl kk19.k kk19.1 rfl (of_decide_eq_true rfl) (of_decide_eq_true rfl) ?_
        refine ct_156_R hcr kk19 g    (fun z21  (fz21 : -2147483648 ≤ z21 ∧ z21 ≤ 2147483647) => ?_)
        refine wk_i ?_
        refine wr_V (k0 := 37) (rest := []) (as := [.ref 37, vi z21]) (nx := 60) (r1 := 131) (r2 := 1) (r3 := 4) rfl rfl rfl (of_decide_eq_true rfl) rfl rfl (by decide) rfl rfl (of_decide_eq_true rfl) (of_decide_eq_true rfl) ?_
        refine ct_131_37 hcr  g z21 (by omega)  (fun z23  (fz23 : -2147483648 ≤ z23 ∧ z23 ≤ 2147483647) => ?_)
        refine wk_i ?_
        refine wi_aload_n (i := 0) (x := 37) (nx := 61) (r1 := 0) (r2 := 0) (r3 := 0) rfl rfl ?_
        refine wi_iload_n (i := 1) (e := a0) (nx := 62) (r1 := 0) (r2 := 0) (r3 := 0) rfl rfl ?_
        refine wr_V (k0 := 37) (rest := [vi z23]) (as := [.ref 37, vi a0]) (nx := 65) (r1 := 131) (r2 := 1) (r3 := 4) rfl rfl rfl (of_decide_eq_true rfl) rfl rfl (by decide) rfl rfl (of_decide_eq_true rfl) (of_decide_eq_true rfl) ?_
        refine ct_131_37 hcr  g a0 (by omega)  (fun z25  (fz25 : -2147483648 ≤ z25 ∧ z25 ≤ 2147483647) => ?_)
        refine wk_i ?_
        refine wi_icmp (cd := .ne) (nx := 68) (r1 := 71) (r2 := 0) (r3 := 0) rfl (by omega) (by omega) (fun (q26 : z23 ≠ z25) => ?_) (fun (q26 : ¬ (z23 ≠ z25)) => ?_)
        ·
          refine wi_iload (i := 5) (e := h k16 1) (nx := 73) (r1 := 0) (r2 := 0) (r3 := 0) rfl rfl ?_
          refine wi_iload_n (i := 3) (e := x2) (nx := 74) (r1 := 0) (r2 := 0) (r3 := 0) rfl rfl ?_
          refine wi_icmp (cd := .ge) (nx := 77) (r1 := 83) (r2 := 0) (r3 := 0) rfl (by omega) (by omega) (fun (q27 : x2 ≤ (h k16 1)) => ?_) (fun (q27 : ¬ (x2 ≤ (h k16 1))) => ?_)
          ·
            refine wr_iinc (i := 4) (n := 1) (v := x3) (fun e28 => [(4, vi e28), (5, vi (h k16 1)), (0, .ref 37), (1, vi a0), (2, vi x1), (3, vi x2)]) (nx := 86) (r1 := 0) (r2 := 0) (r3 := 0) rfl rfl (fun _ => rfl) (fun e28 (fe28 : e28 = x3 + 1) => ?_)
            refine wi_goto (nx := 89) (r1 := 8) (r2 := 0) (r3 := 0) rfl ?_
            refine wp.lo (lo := [(0, .ref 37), (1, vi a0), (2, vi x1), (3, vi x2), (4, vi e28)]) ⟨rfl, rfl, rfl, rfl, rfl, trivial⟩ rfl ?_
            exact I4 x1 x2 e28 h ⟨rfl, (show (-1 ≤ x1 ∧ x1 ≤ 3) ∧ (0 ≤ x2 ∧ x2 ≤ 12) ∧ (0 ≤ e28 ∧ e28 ≤ 4) by omega)⟩ (show ((4 : Int) + 1 - e28).toNat < ((4 : Int) + 1 - x3).toNat by omega)
          ·
            refine wi_iload (i := 5) (e := h k16 1) (nx := 79) (r1 := 0) (r2 := 0) (r3 := 0) rfl rfl ?_
            refine wi_istore_n (i := 3) (e := h k16 1) (lo2 := [(3, vi (h k16 1)), (5, vi (h k16 1)), (0, .ref 37), (1, vi a0), (2, vi x1), (4, vi x3)]) (nx := 80) (r1 := 0) (r2 := 0) (r3 := 0) rfl rfl ?_
            refine wi_iload (i := 4) (e := x3) (nx := 82) (r1 := 0) (r2 := 0) (r3 := 0) rfl rfl ?_
            refine wi_istore_n (i := 2) (e := x3) (lo2 := [(2, vi x3), (3, vi (h k16 1)), (5, vi (h k16 1)), (0, .ref 37), (1, vi a0), (4, vi x3)]) (nx := 83) (r1 := 0) (r2 := 0) (r3 := 0) rfl rfl ?_
            refine wr_iinc (i := 4) (n := 1) (v := x3) (fun e28 => [(4, vi e28), (2, vi x3), (3, vi (h k16 1)), (5, vi (h k16 1)), (0, .ref 37), (1, vi a0)]) (nx := 86) (r1 := 0) (r2 := 0) (r3 := 0) rfl rfl (fun _ => rfl) (fun e28 (fe28 : e28 = x3 + 1) => ?_)
            refine wi_goto (nx := 89) (r1 := 8) (r2 := 0) (r3 := 0) rfl ?_
            refine wp.lo (lo := [(0, .ref 37), (1, vi a0), (2, vi x3), (3, vi (h k16 1)), (4, vi e28)]) ⟨rfl, rfl, rfl, rfl, rfl, trivial⟩ rfl ?_
            exact I4 x3 (h k16 1) e28 h ⟨rfl, (show (-1 ≤ x3 ∧ x3 ≤ 3) ∧ (0 ≤ (h k16 1) ∧ (h k16 1) ≤ 12) ∧ (0 ≤ e28 ∧ e28 ≤ 4) by omega)⟩ (show ((4 : Int) + 1 - e28).toNat < ((4 : Int) + 1 - x3).toNat by omega)
        ·
          refine wi_iload (i := 4) (e := x3) (nx := 70) (r1 := 0) (r2 := 0) (r3 := 0) rfl rfl ?_
          refine wi_ireturn (nx := 71) (r1 := 0) (r2 := 0) (r3 := 0) rfl rfl ?_
          exact k x3 (by omega)
-- method 139: Line.ad-mit(I)I
set_option maxRecDepth 100000 in
set_option maxHeartbeats 100000000 in
theorem ct_139_37 {L : Nat} {xs : Nat → Int32} {d b c : Nat} {h : hp} {cr : Nat → Nat → Option Nat} {Q : hp_Q} (hcr : CR cr)  (g : GI h) (a0 : Int) (q0_ : -2147483648 ≤ a0 ∧ a0 ≤ 2147483647)  (k : ∀ (h2 : hp) (z0 : Int) , GI h2 → FR [(48, 55, none), (37, 37, some (7, 7)), (37, 37, some (16, 16))] h h2 → (-1 ≤ z0 ∧ z0 ≤ 11) → Q (.inl (some (vi z0))) (hp_w h2 cr) b c) : wp (md_xa (L, xs)) (d + 1) 139 (0, [(0, .ref 37), (1, vi a0)], [], hp_w h cr, b, c) Q := by
  have F0 : FR [(48, 55, none), (37, 37, some (7, 7)), (37, 37, some (16, 16))] h h := FR.refl
  refine wi_aload_n (i := 0) (x := 37) (nx := 1) (r1 := 0) (r2 := 0) (r3 := 0) rfl rfl ?_
  have b1 := gi_b (lo := 0) (hi := 12) g 37 7 rfl
  refine wr_gi0 (k0 := 37) (x := h 37 7) (nx := 4) (r1 := 4) (r2 := 7) (r3 := 0) rfl rfl (by decide) rfl ⟨rfl, rfl⟩ rfl rfl ?_
  refine wi_aload_n (i := 0) (x := 37) (nx := 5) (r1 := 0) (r2 := 0) (r3 := 0) rfl rfl ?_
  refine wr_gr (k0 := 37) (x := 3) (nx := 8) (r1 := 4) (r2 := 0) (r3 := 0) rfl rfl (by decide) rfl ⟨rfl, rfl⟩ rfl ?_
  have b2 := gi_b (lo := 0) (hi := 12) g 3 2 rfl
  refine wr_gi0 (k0 := 3) (x := h 3 2) (nx := 11) (r1 := 2) (r2 := 2) (r3 := 0) rfl rfl (by decide) rfl ⟨rfl, rfl⟩ rfl rfl ?_
  refine wi_icmp (cd := .ge) (nx := 14) (r1 := 22) (r2 := 0) (r3 := 0) rfl (by omega) (by omega) (fun (q3 : (h 3 2) ≤ (h 37 7)) => ?_) (fun (q3 : ¬ ((h 3 2) ≤ (h 37 7))) => ?_)
  ·
    refine wi_iconst (n := (-1)) (nx := 23) (r1 := 0) (r2 := 0) (r3 := 0) rfl ?_
    refine wi_ireturn (nx := 24) (r1 := 0) (r2 := 0) (r3 := 0) rfl rfl ?_
    exact k h (-1) g F0 (by omega)
  ·
    refine wi_aload_n (i := 0) (x := 37) (nx := 15) (r1 := 0) (r2 := 0) (r3 := 0) rfl rfl ?_
    refine wi_iload_n (i := 1) (e := a0) (nx := 16) (r1 := 0) (r2 := 0) (r3 := 0) rfl rfl ?_
    refine wr_V (k0 := 37) (rest := []) (as := [.ref 37, vi a0]) (nx := 19) (r1 := 137) (r2 := 1) (r3 := 4) rfl rfl rfl (of_decide_eq_true rfl) rfl rfl (by decide) rfl rfl (of_decide_eq_true rfl) (of_decide_eq_true rfl) ?_
    refine wi_iload_n (i := 1) (e := a0) (nx := 1) (r1 := 0) (r2 := 0) (r3 := 0) rfl rfl ?_
    refine wi_if (cd := .lt) (nx := 4) (r1 := 40) (r2 := 0) (r3 := 0) rfl (by omega) (fun (q4 : a0 < 0) => ?_) (fun (q4 : ¬ (a0 < 0)) => ?_)
    ·
      refine wi_iconst (n := 0) (nx := 41) (r1 := 0) (r2 := 0) (r3 := 0) rfl ?_
      refine wi_zreturn (nx := 42) (r1 := 0) (r2 := 0) (r3 := 0) rfl rfl (by omega) ?_
      refine wk_i ?_
      refine wi_if (cd := .ne) (nx := 22) (r1 := 24) (r2 := 0) (r3 := 0) rfl (by omega) (fun (q5 : 0 ≠ 0) => by exfalso; omega) (fun (q5 : ¬ (0 ≠ 0)) => ?_)
      refine wi_iconst (n := (-1)) (nx := 23) (r1 := 0) (r2 := 0) (r3 := 0) rfl ?_
      refine wi_ireturn (nx := 24) (r1 := 0) (r2 := 0) (r3 := 0) rfl rfl ?_
      exact k h (-1) g F0 (by omega)
    ·
      refine wi_iload_n (i := 1) (e := a0) (nx := 5) (r1 := 0) (r2 := 0) (r3 := 0) rfl rfl ?_
      refine wi_aload_n (i := 0) (x := 37) (nx := 6) (r1 := 0) (r2 := 0) (r3 := 0) rfl rfl ?_
      refine wr_gr (k0 := 37) (x := 3) (nx := 9) (r1 := 4) (r2 := 0) (r3 := 0) rfl rfl (by decide) rfl ⟨rfl, rfl⟩ rfl ?_
      have b5 := gi_b (lo := 0) (hi := 4) g 3 1 rfl
      refine wr_gi0 (k0 := 3) (x := h 3 1) (nx := 12) (r1 := 2) (r2 := 1) (r3 := 0) rfl rfl (by decide) rfl ⟨rfl, rfl⟩ rfl rfl ?_
      refine wi_icmp (cd := .ge) (nx := 15) (r1 := 40) (r2 := 0) (r3 := 0) rfl (by omega) (by omega) (fun (q6 : (h 3 1) ≤ a0) => ?_) (fun (q6 : ¬ ((h 3 1) ≤ a0)) => ?_)
      ·
        refine wi_iconst (n := 0) (nx := 41) (r1 := 0) (r2 := 0) (r3 := 0) rfl ?_
        refine wi_zreturn (nx := 42) (r1 := 0) (r2 := 0) (r3 := 0) rfl rfl (by omega) ?_
        refine wk_i ?_
        refine wi_if (cd := .ne) (nx := 22) (r1 := 24) (r2 := 0) (r3 := 0) rfl (by omega) (fun (q7 : 0 ≠ 0) => by exfalso; omega) (fun (q7 : ¬ (0 ≠ 0)) => ?_)
        refine wi_iconst (n := (-1)) (nx := 23) (r1 := 0) (r2 := 0) (r3 := 0) rfl ?_
        refine wi_ireturn (nx := 24) (r1 := 0) (r2 := 0) (r3 := 0) rfl rfl ?_
        exact k h (-1) g F0 (by omega)
      ·
        refine wi_aload_n (i := 0) (x := 37) (nx := 16) (r1 := 0) (r2 := 0) (r3 := 0) rfl rfl ?_
        refine wr_gr (k0 := 37) (x := 40) (nx := 19) (r1 := 4) (r2 := 3) (r3 := 0) rfl rfl (by decide) rfl ⟨rfl, rfl⟩ rfl ?_
        refine wi_iload_n (i := 1) (e := a0) (nx := 20) (r1 := 0) (r2 := 0) (r3 := 0) rfl rfl ?_
        obtain ⟨i7, ei7⟩ : ∃ q : Nat, a0 = (q : Int) := ⟨(a0).toNat, by omega⟩
        refine wr_aa (k0 := 40) (a := a0) (f := i7) (x := 40 + 8 + 2 * i7) (nx := 21) (r1 := 0) (r2 := 0) (r3 := 0) rfl (by decide) rfl (Or.inl rfl) (by omega) (by omega) (by decide) (hcr.1 40 (by decide) i7 (by omega)) ?_
        obtain ⟨k8, kk8, mk8⟩ : ∃ q, Rw q ∧ q = 40 + 8 + 2 * i7 := ⟨_, rw_lane 40 (by decide) i7 (by omega), rfl⟩
        rw [← mk8]
        have b9 := gi_b (lo := 0) (hi := 12) g k8 1 kk8.2.2.2.1
        refine wr_gi0 (k0 := k8) (x := h k8 1) (nx := 24) (r1 := 5) (r2 := 1) (r3 := 0) rfl rfl kk8.k kk8.1 ⟨rfl, rfl⟩ rfl rfl ?_
        refine wi_aload_n (i := 0) (x := 37) (nx := 25) (r1 := 0) (r2 := 0) (r3 := 0) rfl rfl ?_
        refine wr_gr (k0 := 37) (x := 3) (nx := 28) (r1 := 4) (r2 := 0) (r3 := 0) rfl rfl (by decide) rfl ⟨rfl, rfl⟩ rfl ?_
        refine wr_gr (k0 := 3) (x := 6) (nx := 31) (r1 := 2) (r2 := 12) (r3 := 0) rfl rfl (by decide) rfl ⟨rfl, rfl⟩ rfl ?_
        refine wi_iload_n (i := 1) (e := a0) (nx := 32) (r1 := 0) (r2 := 0) (r3 := 0) rfl rfl ?_
        have b10 := gi_b (lo := -2147483648) (hi := 2147483647) g 6 i7 rfl
        refine wr_ia (k0 := 6) (a := a0) (f := i7) (x := h 6 i7) (nx := 33) (r1 := 0) (r2 := 0) (r3 := 0) rfl (by decide) rfl (by omega) (by omega) (by decide) rfl ?_
        refine wi_icmp (cd := .ge) (nx := 36) (r1 := 40) (r2 := 0) (r3 := 0) rfl (by omega) (by omega) (fun (q11 : (h 6 i7) ≤ (h k8 1)) => ?_) (fun (q11 : ¬ ((h 6 i7) ≤ (h k8 1))) => ?_)
        ·
          refine wi_iconst (n := 0) (nx := 41) (r1 := 0) (r2 := 0) (r3 := 0) rfl ?_
          refine wi_zreturn (nx := 42) (r1 := 0) (r2 := 0) (r3 := 0) rfl rfl (by omega) ?_
          refine wk_i ?_
          refine wi_if (cd := .ne) (nx := 22) (r1 := 24) (r2 := 0) (r3 := 0) rfl (by omega) (fun (q12 : 0 ≠ 0) => by exfalso; omega) (fun (q12 : ¬ (0 ≠ 0)) => ?_)
          refine wi_iconst (n := (-1)) (nx := 23) (r1 := 0) (r2 := 0) (r3 := 0) rfl ?_
          refine wi_ireturn (nx := 24) (r1 := 0) (r2 := 0) (r3 := 0) rfl rfl ?_
          exact k h (-1) g F0 (by omega)
        ·
          refine wi_iconst (n := 1) (nx := 37) (r1 := 0) (r2 := 0) (r3 := 0) rfl ?_
          refine wi_goto (nx := 40) (r1 := 41) (r2 := 0) (r3 := 0) rfl ?_
          refine wi_zreturn (nx := 42) (r1 := 0) (r2 := 0) (r3 := 0) rfl rfl (by omega) ?_
          refine wk_i ?_
          refine wi_if (cd := .ne) (nx := 22) (r1 := 24) (r2 := 0) (r3 := 0) rfl (by omega) (fun (q12 : 1 ≠ 0) => ?_) (fun (q12 : ¬ (1 ≠ 0)) => by exfalso; omega)
          refine wi_aload_n (i := 0) (x := 37) (nx := 25) (r1 := 0) (r2 := 0) (r3 := 0) rfl rfl ?_
          refine wr_gi0 (k0 := 37) (x := h 37 7) (nx := 28) (r1 := 4) (r2 := 7) (r3 := 0) rfl rfl (by decide) rfl ⟨rfl, rfl⟩ rfl rfl ?_
          refine wi_istore_n (i := 2) (e := h 37 7) (lo2 := [(2, vi (h 37 7)), (0, .ref 37), (1, vi a0)]) (nx := 29) (r1 := 0) (r2 := 0) (r3 := 0) rfl rfl ?_
          refine wi_aload_n (i := 0) (x := 37) (nx := 30) (r1 := 0) (r2 := 0) (r3 := 0) rfl rfl ?_
          refine wr_gr (k0 := 37) (x := 40) (nx := 33) (r1 := 4) (r2 := 3) (r3 := 0) rfl rfl (by decide) rfl ⟨rfl, rfl⟩ rfl ?_
          refine wi_iload_n (i := 1) (e := a0) (nx := 34) (r1 := 0) (r2 := 0) (r3 := 0) rfl rfl ?_
          refine wr_aa (k0 := 40) (a := a0) (f := i7) (x := 40 + 8 + 2 * i7) (nx := 35) (r1 := 0) (r2 := 0) (r3 := 0) rfl (by decide) rfl (Or.inl rfl) (by omega) (by omega) (by decide) (hcr.1 40 (by decide) i7 (by omega)) ?_
          obtain ⟨k13, kk13, mk13⟩ : ∃ q, Rw q ∧ q = 40 + 8 + 2 * i7 := ⟨_, rw_lane 40 (by decide) i7 (by omega), rfl⟩
          rw [← mk13]
          refine wi_iload_n (i := 2) (e := h 37 7) (nx := 36) (r1 := 0) (r2 := 0) (r3 := 0) rfl rfl ?_
          refine wr_V (k0 := k13) (rest := []) (as := [.ref k13, vi (h 37 7)]) (nx := 39) (r1 := 158) (r2 := 1) (r3 := 5) rfl rfl rfl (of_decide_eq_true rfl) rfl rfl kk13.k kk13.1 rfl (of_decide_eq_true rfl) (of_decide_eq_true rfl) ?_
          refine ct_158_R hcr kk13 g (h 37 7) (by omega)  (fun h14 g14 u14 => ?_)
          have v14 := FR.rngp (lo := 48) (hi := 55) u14 (by omega)
          have F15 := F0.then rfl (FR.rngp (lo := 48) (hi := 55) u14 (by omega))
          refine wk_n ?_
          refine wi_aload_n (i := 0) (x := 37) (nx := 40) (r1 := 0) (r2 := 0) (r3 := 0) rfl rfl ?_
          refine wi_dup (nx := 41) (r1 := 0) (r2 := 0) (r3 := 0) rfl rfl ?_
          refine wr_gi0 (k0 := 37) (x := h 37 7) (nx := 44) (r1 := 4) (r2 := 7) (r3 := 0) rfl rfl (by decide) rfl ⟨rfl, rfl⟩ rfl (v14 37 7 rfl) ?_
          refine wi_iconst (n := 1) (nx := 45) (r1 := 0) (r2 := 0) (r3 := 0) rfl ?_
          refine wr_add (nx := 46) (r1 := 0) (r2 := 0) (r3 := 0) rfl (fun e16 (fe16 : e16 = (h 37 7) + 1) => ?_)
          refine wr_pf0 (k0 := 37) (x := e16) (bl := 0) (bh := 12) (nx := 49) (r1 := 4) (r2 := 7) (r3 := 0) rfl (by decide) rfl ⟨rfl, rfl⟩ rfl rfl g14 rfl (by omega) (fun h17 g17 w17 u17 => ?_)
          have F18 := F15.then rfl u17
          refine wi_aload_n (i := 0) (x := 37) (nx := 50) (r1 := 0) (r2 := 0) (r3 := 0) rfl rfl ?_
          refine wi_dup (nx := 51) (r1 := 0) (r2 := 0) (r3 := 0) rfl rfl ?_
          have b19 := gi_b (lo := -2147483648) (hi := 2147483647) g 37 16 rfl
          refine wr_gi0 (k0 := 37) (x := h 37 16) (nx := 54) (r1 := 4) (r2 := 16) (r3 := 0) rfl rfl (by decide) rfl ⟨rfl, rfl⟩ rfl ((u17 37 16 rfl).trans (v14 37 16 rfl)) ?_
          refine wi_iconst (n := 1) (nx := 55) (r1 := 0) (r2 := 0) (r3 := 0) rfl ?_
          refine wr_addW (nx := 56) (r1 := 0) (r2 := 0) (r3 := 0) rfl (fun e20 (fe20 : -2147483648 ≤ e20 ∧ e20 ≤ 2147483647) => ?_)
          refine wr_pf0 (k0 := 37) (x := e20) (bl := -2147483648) (bh := 2147483647) (nx := 59) (r1 := 4) (r2 := 16) (r3 := 0) rfl (by decide) rfl ⟨rfl, rfl⟩ rfl rfl g17 rfl (by omega) (fun h21 g21 w21 u21 => ?_)
          have F22 := F18.then rfl u21
          refine wi_iload_n (i := 2) (e := h 37 7) (nx := 60) (r1 := 0) (r2 := 0) (r3 := 0) rfl rfl ?_
          refine wi_ireturn (nx := 61) (r1 := 0) (r2 := 0) (r3 := 0) rfl rfl ?_
          exact k h21 (h 37 7) g21 F22 (by omega)
-- method 138: Line.comeBack(I)I
set_option maxRecDepth 100000 in
set_option maxHeartbeats 100000000 in
theorem ct_138_37 {L : Nat} {xs : Nat → Int32} {d b c : Nat} {h : hp} {cr : Nat → Nat → Option Nat} {Q : hp_Q} (hcr : CR cr)  (g : GI h) (a0 : Int) (q0_ : -2147483648 ≤ a0 ∧ a0 ≤ 2147483647)  (k : ∀ (h2 : hp) (z0 : Int) , GI h2 → FR [(41, 42, none), (43, 44, none), (48, 55, none), (37, 37, some (16, 16))] h h2 → (-2147483648 ≤ z0 ∧ z0 ≤ 2147483647) → Q (.inl (some (vi z0))) (hp_w h2 cr) b c) : wp (md_xa (L, xs)) (d + 2) 138 (0, [(0, .ref 37), (1, vi a0)], [], hp_w h cr, b, c) Q := by
  have F0 : FR [(41, 42, none), (43, 44, none), (48, 55, none), (37, 37, some (16, 16))] h h := FR.refl
  refine wi_aload_n (i := 0) (x := 37) (nx := 1) (r1 := 0) (r2 := 0) (r3 := 0) rfl rfl ?_
  refine wr_V (k0 := 37) (rest := []) (as := [.ref 37]) (nx := 4) (r1 := 135) (r2 := 0) (r3 := 4) rfl rfl rfl (of_decide_eq_true rfl) rfl rfl (by decide) rfl rfl (of_decide_eq_true rfl) (of_decide_eq_true rfl) ?_
  refine ct_135_37 hcr  g    (fun z2  (fz2 : 0 ≤ z2 ∧ z2 ≤ 1) => ?_)
  refine wk_i ?_
  refine wi_if (cd := .eq) (nx := 7) (r1 := 15) (r2 := 0) (r3 := 0) rfl (by omega) (fun (q3 : z2 = 0) => ?_) (fun (q3 : ¬ (z2 = 0)) => ?_)
  ·
    refine wi_iconst (n := (-1)) (nx := 16) (r1 := 0) (r2 := 0) (r3 := 0) rfl ?_
    refine wi_ireturn (nx := 17) (r1 := 0) (r2 := 0) (r3 := 0) rfl rfl ?_
    exact k h (-1) g F0 (by omega)
  ·
    refine wi_aload_n (i := 0) (x := 37) (nx := 8) (r1 := 0) (r2 := 0) (r3 := 0) rfl rfl ?_
    refine wi_iload_n (i := 1) (e := a0) (nx := 9) (r1 := 0) (r2 := 0) (r3 := 0) rfl rfl ?_
    refine wr_V (k0 := 37) (rest := []) (as := [.ref 37, vi a0]) (nx := 12) (r1 := 137) (r2 := 1) (r3 := 4) rfl rfl rfl (of_decide_eq_true rfl) rfl rfl (by decide) rfl rfl (of_decide_eq_true rfl) (of_decide_eq_true rfl) ?_
    refine wi_iload_n (i := 1) (e := a0) (nx := 1) (r1 := 0) (r2 := 0) (r3 := 0) rfl rfl ?_
    refine wi_if (cd := .lt) (nx := 4) (r1 := 40) (r2 := 0) (r3 := 0) rfl (by omega) (fun (q4 : a0 < 0) => ?_) (fun (q4 : ¬ (a0 < 0)) => ?_)
    ·
      refine wi_iconst (n := 0) (nx := 41) (r1 := 0) (r2 := 0) (r3 := 0) rfl ?_
      refine wi_zreturn (nx := 42) (r1 := 0) (r2 := 0) (r3 := 0) rfl rfl (by omega) ?_
      refine wk_i ?_
      refine wi_if (cd := .ne) (nx := 15) (r1 := 17) (r2 := 0) (r3 := 0) rfl (by omega) (fun (q5 : 0 ≠ 0) => by exfalso; omega) (fun (q5 : ¬ (0 ≠ 0)) => ?_)
      refine wi_iconst (n := (-1)) (nx := 16) (r1 := 0) (r2 := 0) (r3 := 0) rfl ?_
      refine wi_ireturn (nx := 17) (r1 := 0) (r2 := 0) (r3 := 0) rfl rfl ?_
      exact k h (-1) g F0 (by omega)
    ·
      refine wi_iload_n (i := 1) (e := a0) (nx := 5) (r1 := 0) (r2 := 0) (r3 := 0) rfl rfl ?_
      refine wi_aload_n (i := 0) (x := 37) (nx := 6) (r1 := 0) (r2 := 0) (r3 := 0) rfl rfl ?_
      refine wr_gr (k0 := 37) (x := 3) (nx := 9) (r1 := 4) (r2 := 0) (r3 := 0) rfl rfl (by decide) rfl ⟨rfl, rfl⟩ rfl ?_
      have b5 := gi_b (lo := 0) (hi := 4) g 3 1 rfl
      refine wr_gi0 (k0 := 3) (x := h 3 1) (nx := 12) (r1 := 2) (r2 := 1) (r3 := 0) rfl rfl (by decide) rfl ⟨rfl, rfl⟩ rfl rfl ?_
      refine wi_icmp (cd := .ge) (nx := 15) (r1 := 40) (r2 := 0) (r3 := 0) rfl (by omega) (by omega) (fun (q6 : (h 3 1) ≤ a0) => ?_) (fun (q6 : ¬ ((h 3 1) ≤ a0)) => ?_)
      ·
        refine wi_iconst (n := 0) (nx := 41) (r1 := 0) (r2 := 0) (r3 := 0) rfl ?_
        refine wi_zreturn (nx := 42) (r1 := 0) (r2 := 0) (r3 := 0) rfl rfl (by omega) ?_
        refine wk_i ?_
        refine wi_if (cd := .ne) (nx := 15) (r1 := 17) (r2 := 0) (r3 := 0) rfl (by omega) (fun (q7 : 0 ≠ 0) => by exfalso; omega) (fun (q7 : ¬ (0 ≠ 0)) => ?_)
        refine wi_iconst (n := (-1)) (nx := 16) (r1 := 0) (r2 := 0) (r3 := 0) rfl ?_
        refine wi_ireturn (nx := 17) (r1 := 0) (r2 := 0) (r3 := 0) rfl rfl ?_
        exact k h (-1) g F0 (by omega)
      ·
        refine wi_aload_n (i := 0) (x := 37) (nx := 16) (r1 := 0) (r2 := 0) (r3 := 0) rfl rfl ?_
        refine wr_gr (k0 := 37) (x := 40) (nx := 19) (r1 := 4) (r2 := 3) (r3 := 0) rfl rfl (by decide) rfl ⟨rfl, rfl⟩ rfl ?_
        refine wi_iload_n (i := 1) (e := a0) (nx := 20) (r1 := 0) (r2 := 0) (r3 := 0) rfl rfl ?_
        obtain ⟨i7, ei7⟩ : ∃ q : Nat, a0 = (q : Int) := ⟨(a0).toNat, by omega⟩
        refine wr_aa (k0 := 40) (a := a0) (f := i7) (x := 40 + 8 + 2 * i7) (nx := 21) (r1 := 0) (r2 := 0) (r3 := 0) rfl (by decide) rfl (Or.inl rfl) (by omega) (by omega) (by decide) (hcr.1 40 (by decide) i7 (by omega)) ?_
        obtain ⟨k8, kk8, mk8⟩ : ∃ q, Rw q ∧ q = 40 + 8 + 2 * i7 := ⟨_, rw_lane 40 (by decide) i7 (by omega), rfl⟩
        rw [← mk8]
        have b9 := gi_b (lo := 0) (hi := 12) g k8 1 kk8.2.2.2.1
        refine wr_gi0 (k0 := k8) (x := h k8 1) (nx := 24) (r1 := 5) (r2 := 1) (r3 := 0) rfl rfl kk8.k kk8.1 ⟨rfl, rfl⟩ rfl rfl ?_
        refine wi_aload_n (i := 0) (x := 37) (nx := 25) (r1 := 0) (r2 := 0) (r3 := 0) rfl rfl ?_
        refine wr_gr (k0 := 37) (x := 3) (nx := 28) (r1 := 4) (r2 := 0) (r3 := 0) rfl rfl (by decide) rfl ⟨rfl, rfl⟩ rfl ?_
        refine wr_gr (k0 := 3) (x := 6) (nx := 31) (r1 := 2) (r2 := 12) (r3 := 0) rfl rfl (by decide) rfl ⟨rfl, rfl⟩ rfl ?_
        refine wi_iload_n (i := 1) (e := a0) (nx := 32) (r1 := 0) (r2 := 0) (r3 := 0) rfl rfl ?_
        have b10 := gi_b (lo := -2147483648) (hi := 2147483647) g 6 i7 rfl
        refine wr_ia (k0 := 6) (a := a0) (f := i7) (x := h 6 i7) (nx := 33) (r1 := 0) (r2 := 0) (r3 := 0) rfl (by decide) rfl (by omega) (by omega) (by decide) rfl ?_
        refine wi_icmp (cd := .ge) (nx := 36) (r1 := 40) (r2 := 0) (r3 := 0) rfl (by omega) (by omega) (fun (q11 : (h 6 i7) ≤ (h k8 1)) => ?_) (fun (q11 : ¬ ((h 6 i7) ≤ (h k8 1))) => ?_)
        ·
          refine wi_iconst (n := 0) (nx := 41) (r1 := 0) (r2 := 0) (r3 := 0) rfl ?_
          refine wi_zreturn (nx := 42) (r1 := 0) (r2 := 0) (r3 := 0) rfl rfl (by omega) ?_
          refine wk_i ?_
          refine wi_if (cd := .ne) (nx := 15) (r1 := 17) (r2 := 0) (r3 := 0) rfl (by omega) (fun (q12 : 0 ≠ 0) => by exfalso; omega) (fun (q12 : ¬ (0 ≠ 0)) => ?_)
          refine wi_iconst (n := (-1)) (nx := 16) (r1 := 0) (r2 := 0) (r3 := 0) rfl ?_
          refine wi_ireturn (nx := 17) (r1 := 0) (r2 := 0) (r3 := 0) rfl rfl ?_
          exact k h (-1) g F0 (by omega)
        ·
          refine wi_iconst (n := 1) (nx := 37) (r1 := 0) (r2 := 0) (r3 := 0) rfl ?_
          refine wi_goto (nx := 40) (r1 := 41) (r2 := 0) (r3 := 0) rfl ?_
          refine wi_zreturn (nx := 42) (r1 := 0) (r2 := 0) (r3 := 0) rfl rfl (by omega) ?_
          refine wk_i ?_
          refine wi_if (cd := .ne) (nx := 15) (r1 := 17) (r2 := 0) (r3 := 0) rfl (by omega) (fun (q12 : 1 ≠ 0) => ?_) (fun (q12 : ¬ (1 ≠ 0)) => by exfalso; omega)
          refine wi_aload_n (i := 0) (x := 37) (nx := 18) (r1 := 0) (r2 := 0) (r3 := 0) rfl rfl ?_
          refine wr_gr (k0 := 37) (x := 41) (nx := 21) (r1 := 4) (r2 := 4) (r3 := 0) rfl rfl (by decide) rfl ⟨rfl, rfl⟩ rfl ?_
          refine wi_iconst (n := 0) (nx := 22) (r1 := 0) (r2 := 0) (r3 := 0) rfl ?_
          refine wr_V (k0 := 41) (rest := []) (as := [.ref 41, vi 0]) (nx := 25) (r1 := 154) (r2 := 1) (r3 := 5) rfl rfl rfl (of_decide_eq_true rfl) rfl rfl (by decide) rfl rfl (of_decide_eq_true rfl) (of_decide_eq_true rfl) ?_
          refine ct_154_R hcr rw_41 g 0 (by omega)  (fun z14  (fz14 : -2147483648 ≤ z14 ∧ z14 ≤ 2147483647) => ?_)
          refine wk_i ?_
          refine wi_istore_n (i := 2) (e := z14) (lo2 := [(2, vi z14), (0, .ref 37), (1, vi a0)]) (nx := 26) (r1 := 0) (r2 := 0) (r3 := 0) rfl rfl ?_
          refine wi_aload_n (i := 0) (x := 37) (nx := 27) (r1 := 0) (r2 := 0) (r3 := 0) rfl rfl ?_
          refine wr_gr (k0 := 37) (x := 41) (nx := 30) (r1 := 4) (r2 := 4) (r3 := 0) rfl rfl (by decide) rfl ⟨rfl, rfl⟩ rfl ?_
          refine wr_V (k0 := 41) (rest := []) (as := [.ref 41]) (nx := 33) (r1 := 157) (r2 := 0) (r3 := 5) rfl rfl rfl (of_decide_eq_true rfl) rfl rfl (by decide) rfl rfl (of_decide_eq_true rfl) (of_decide_eq_true rfl) ?_
          refine ct_157_R hcr rw_41 g    (fun h15 g15 u15 => ?_)
          have F16 := F0.then rfl u15
          refine wk_n ?_
          refine wi_aload_n (i := 0) (x := 37) (nx := 34) (r1 := 0) (r2 := 0) (r3 := 0) rfl rfl ?_
          refine wr_gr (k0 := 37) (x := 43) (nx := 37) (r1 := 4) (r2 := 5) (r3 := 0) rfl rfl (by decide) rfl ⟨rfl, rfl⟩ rfl ?_
          refine wr_V (k0 := 43) (rest := []) (as := [.ref 43]) (nx := 40) (r1 := 157) (r2 := 0) (r3 := 5) rfl rfl rfl (of_decide_eq_true rfl) rfl rfl (by decide) rfl rfl (of_decide_eq_true rfl) (of_decide_eq_true rfl) ?_
          refine ct_157_R hcr rw_43 g15    (fun h17 g17 u17 => ?_)
          have F18 := F16.then rfl u17
          refine wk_n ?_
          refine wi_aload_n (i := 0) (x := 37) (nx := 41) (r1 := 0) (r2 := 0) (r3 := 0) rfl rfl ?_
          refine wr_gr (k0 := 37) (x := 40) (nx := 44) (r1 := 4) (r2 := 3) (r3 := 0) rfl rfl (by decide) rfl ⟨rfl, rfl⟩ rfl ?_
          refine wi_iload_n (i := 1) (e := a0) (nx := 45) (r1 := 0) (r2 := 0) (r3 := 0) rfl rfl ?_
          refine wr_aa (k0 := 40) (a := a0) (f := i7) (x := 40 + 8 + 2 * i7) (nx := 46) (r1 := 0) (r2 := 0) (r3 := 0) rfl (by decide) rfl (Or.inl rfl) (by omega) (by omega) (by decide) (hcr.1 40 (by decide) i7 (by omega)) ?_
          obtain ⟨k19, kk19, mk19⟩ : ∃ q, Rw q ∧ q = 40 + 8 + 2 * i7 := ⟨_, rw_lane 40 (by decide) i7 (by omega), rfl⟩
          rw [← mk19]
          refine wi_iload_n (i := 2) (e := z14) (nx := 47) (r1 := 0) (r2 := 0) (r3 := 0) rfl rfl ?_
          refine wr_V (k0 := k19) (rest := []) (as := [.ref k19, vi z14]) (nx := 50) (r1 := 158) (r2 := 1) (r3 := 5) rfl rfl rfl (of_decide_eq_true rfl) rfl rfl kk19.k kk19.1 rfl (of_decide_eq_true rfl) (of_decide_eq_true rfl) ?_
          refine ct_158_R hcr kk19 g17 z14 (by omega)  (fun h20 g20 u20 => ?_)
          have v20 := FR.rngp (lo := 48) (hi := 55) u20 (by omega)
          have F21 := F18.then rfl (FR.rngp (lo := 48) (hi := 55) u20 (by omega))
          refine wk_n ?_
          refine wi_aload_n (i := 0) (x := 37) (nx := 51) (r1 := 0) (r2 := 0) (r3 := 0) rfl rfl ?_
          refine wi_dup (nx := 52) (r1 := 0) (r2 := 0) (r3 := 0) rfl rfl ?_
          have b22 := gi_b (lo := -2147483648) (hi := 2147483647) g 37 16 rfl
          refine wr_gi0 (k0 := 37) (x := h 37 16) (nx := 55) (r1 := 4) (r2 := 16) (r3 := 0) rfl rfl (by decide) rfl ⟨rfl, rfl⟩ rfl ((v20 37 16 rfl).trans ((u17 37 16 rfl).trans (u15 37 16 rfl))) ?_
          refine wi_iconst (n := 1) (nx := 56) (r1 := 0) (r2 := 0) (r3 := 0) rfl ?_
          refine wr_addW (nx := 57) (r1 := 0) (r2 := 0) (r3 := 0) rfl (fun e23 (fe23 : -2147483648 ≤ e23 ∧ e23 ≤ 2147483647) => ?_)
          refine wr_pf0 (k0 := 37) (x := e23) (bl := -2147483648) (bh := 2147483647) (nx := 60) (r1 := 4) (r2 := 16) (r3 := 0) rfl (by decide) rfl ⟨rfl, rfl⟩ rfl rfl g20 rfl (by omega) (fun h24 g24 w24 u24 => ?_)
          have F25 := F21.then rfl u24
          refine wi_iload_n (i := 2) (e := z14) (nx := 61) (r1 := 0) (r2 := 0) (r3 := 0) rfl rfl ?_
          refine wi_ireturn (nx := 62) (r1 := 0) (r2 := 0) (r3 := 0) rfl rfl ?_
          exact k h24 z14 g24 F25 (by omega)
-- method 134: Line.stepByRule()I
set_option maxRecDepth 100000 in
set_option maxHeartbeats 100000000 in
theorem ct_134_37 {L : Nat} {xs : Nat → Int32} {d b c : Nat} {h : hp} {cr : Nat → Nat → Option Nat} {Q : hp_Q} (hcr : CR cr)  (g : GI h)    (k : ∀ (h2 : hp) (z0 : Int) , GI h2 → FR [(37, 55, none)] h h2 → (-1 ≤ z0 ∧ z0 ≤ 3) → Q (.inl (some (vi z0))) (hp_w h2 cr) b c) : wp (md_xa (L, xs)) (d + 3) 134 (0, [(0, .ref 37)], [], hp_w h cr, b, c) Q := by
  have F0 : FR [(37, 55, none)] h h := FR.refl
  refine wi_aload_n (i := 0) (x := 37) (nx := 1) (r1 := 0) (r2 := 0) (r3 := 0) rfl rfl ?_
  refine wr_V (k0 := 37) (rest := []) (as := [.ref 37]) (nx := 4) (r1 := 135) (r2 := 0) (r3 := 4) rfl rfl rfl (of_decide_eq_true rfl) rfl rfl (by decide) rfl rfl (of_decide_eq_true rfl) (of_decide_eq_true rfl) ?_
  refine ct_135_37 hcr  g    (fun z2  (fz2 : 0 ≤ z2 ∧ z2 ≤ 1) => ?_)
  refine wk_i ?_
  refine wi_if (cd := .eq) (nx := 7) (r1 := 29) (r2 := 0) (r3 := 0) rfl (by omega) (fun (q3 : z2 = 0) => ?_) (fun (q3 : ¬ (z2 = 0)) => ?_)
  ·
    refine wi_aload_n (i := 0) (x := 37) (nx := 30) (r1 := 0) (r2 := 0) (r3 := 0) rfl rfl ?_
    have b4 := gi_b (lo := 0) (hi := 12) g 37 7 rfl
    refine wr_gi0 (k0 := 37) (x := h 37 7) (nx := 33) (r1 := 4) (r2 := 7) (r3 := 0) rfl rfl (by decide) rfl ⟨rfl, rfl⟩ rfl rfl ?_
    refine wi_aload_n (i := 0) (x := 37) (nx := 34) (r1 := 0) (r2 := 0) (r3 := 0) rfl rfl ?_
    refine wr_gr (k0 := 37) (x := 3) (nx := 37) (r1 := 4) (r2 := 0) (r3 := 0) rfl rfl (by decide) rfl ⟨rfl, rfl⟩ rfl ?_
    have b5 := gi_b (lo := 0) (hi := 12) g 3 2 rfl
    refine wr_gi0 (k0 := 3) (x := h 3 2) (nx := 40) (r1 := 2) (r2 := 2) (r3 := 0) rfl rfl (by decide) rfl ⟨rfl, rfl⟩ rfl rfl ?_
    refine wi_icmp (cd := .ge) (nx := 43) (r1 := 61) (r2 := 0) (r3 := 0) rfl (by omega) (by omega) (fun (q6 : (h 3 2) ≤ (h 37 7)) => ?_) (fun (q6 : ¬ ((h 3 2) ≤ (h 37 7))) => ?_)
    ·
      refine wi_aload_n (i := 0) (x := 37) (nx := 62) (r1 := 0) (r2 := 0) (r3 := 0) rfl rfl ?_
      refine wi_aload_n (i := 0) (x := 37) (nx := 63) (r1 := 0) (r2 := 0) (r3 := 0) rfl rfl ?_
      refine wr_V (k0 := 37) (rest := [.ref 37]) (as := [.ref 37]) (nx := 66) (r1 := 140) (r2 := 0) (r3 := 4) rfl rfl rfl (of_decide_eq_true rfl) rfl rfl (by decide) rfl rfl (of_decide_eq_true rfl) (of_decide_eq_true rfl) ?_
      refine ct_140_37 hcr  g    (fun z8  (fz8 : -1 ≤ z8 ∧ z8 ≤ 3) => ?_)
      refine wk_i ?_
      refine wr_V (k0 := 37) (rest := []) (as := [.ref 37, vi z8]) (nx := 69) (r1 := 142) (r2 := 1) (r3 := 4) rfl rfl rfl (of_decide_eq_true rfl) rfl rfl (by decide) rfl rfl (of_decide_eq_true rfl) (of_decide_eq_true rfl) ?_
      refine ct_142_37 hcr  g z8 (by omega)  (fun h9 z10 g9 u9 (fz10 : -1 ≤ z10 ∧ z10 ≤ 11) => ?_)
      have F11 := F0.then (by decide +kernel) u9
      refine wk_i ?_
      refine wi_iconst (n := (-1)) (nx := 70) (r1 := 0) (r2 := 0) (r3 := 0) rfl ?_
      refine wi_icmp (cd := .eq) (nx := 73) (r1 := 75) (r2 := 0) (r3 := 0) rfl (by omega) (by omega) (fun (q12 : z10 = (-1)) => ?_) (fun (q12 : ¬ (z10 = (-1))) => ?_)
      ·
        refine wi_aload_n (i := 0) (x := 37) (nx := 76) (r1 := 0) (r2 := 0) (r3 := 0) rfl rfl ?_
        refine wr_gr (k0 := 37) (x := 41) (nx := 79) (r1 := 4) (r2 := 4) (r3 := 0) rfl rfl (by decide) rfl ⟨rfl, rfl⟩ rfl ?_
        have b13 := gi_b (lo := 0) (hi := 12) g9 41 1 rfl
        refine wr_gi0 (k0 := 41) (x := h9 41 1) (nx := 82) (r1 := 5) (r2 := 1) (r3 := 0) rfl rfl (by decide) rfl ⟨rfl, rfl⟩ rfl rfl ?_
        refine wi_if (cd := .le) (nx := 85) (r1 := 97) (r2 := 0) (r3 := 0) rfl (by omega) (fun (q14 : (h9 41 1) ≤ 0) => ?_) (fun (q14 : ¬ ((h9 41 1) ≤ 0)) => ?_)
        ·
          refine wi_iconst (n := (-1)) (nx := 98) (r1 := 0) (r2 := 0) (r3 := 0) rfl ?_
          refine wi_ireturn (nx := 99) (r1 := 0) (r2 := 0) (r3 := 0) rfl rfl ?_
          exact k h9 (-1) g9 F11 (by omega)
        ·
          refine wi_aload_n (i := 0) (x := 37) (nx := 86) (r1 := 0) (r2 := 0) (r3 := 0) rfl rfl ?_
          refine wr_V (k0 := 37) (rest := []) (as := [.ref 37]) (nx := 89) (r1 := 133) (r2 := 0) (r3 := 4) rfl rfl rfl (of_decide_eq_true rfl) rfl rfl (by decide) rfl rfl (of_decide_eq_true rfl) (of_decide_eq_true rfl) ?_
          refine ct_133_37 hcr  g9    (fun h15 z16 g15 u15 (fz16 : -2147483647 ≤ z16 ∧ z16 ≤ 9999) => ?_)
          have F17 := F11.then (by decide +kernel) u15
          refine wk_i ?_
          refine wi_iconst (n := (-1)) (nx := 90) (r1 := 0) (r2 := 0) (r3 := 0) rfl ?_
          refine wi_icmp (cd := .eq) (nx := 93) (r1 := 97) (r2 := 0) (r3 := 0) rfl (by omega) (by omega) (fun (q18 : z16 = (-1)) => ?_) (fun (q18 : ¬ (z16 = (-1))) => ?_)
          ·
            refine wi_iconst (n := (-1)) (nx := 98) (r1 := 0) (r2 := 0) (r3 := 0) rfl ?_
            refine wi_ireturn (nx := 99) (r1 := 0) (r2 := 0) (r3 := 0) rfl rfl ?_
            exact k h15 (-1) g15 F17 (by omega)
          ·
            refine wi_iconst (n := 3) (nx := 94) (r1 := 0) (r2 := 0) (r3 := 0) rfl ?_
            refine wi_goto (nx := 97) (r1 := 98) (r2 := 0) (r3 := 0) rfl ?_
            refine wi_ireturn (nx := 99) (r1 := 0) (r2 := 0) (r3 := 0) rfl rfl ?_
            exact k h15 3 g15 F17 (by omega)
      ·
        refine wi_iconst (n := 2) (nx := 74) (r1 := 0) (r2 := 0) (r3 := 0) rfl ?_
        refine wi_ireturn (nx := 75) (r1 := 0) (r2 := 0) (r3 := 0) rfl rfl ?_
        exact k h9 2 g9 F11 (by omega)
    ·
      refine wi_aload_n (i := 0) (x := 37) (nx := 44) (r1 := 0) (r2 := 0) (r3 := 0) rfl rfl ?_
      refine wi_aload_n (i := 0) (x := 37) (nx := 45) (r1 := 0) (r2 := 0) (r3 := 0) rfl rfl ?_
      refine wi_aload_n (i := 0) (x := 37) (nx := 46) (r1 := 0) (r2 := 0) (r3 := 0) rfl rfl ?_
      refine wr_gi0 (k0 := 37) (x := h 37 7) (nx := 49) (r1 := 4) (r2 := 7) (r3 := 0) rfl rfl (by decide) rfl ⟨rfl, rfl⟩ rfl rfl ?_
      refine wr_V (k0 := 37) (rest := [.ref 37]) (as := [.ref 37, vi (h 37 7)]) (nx := 52) (r1 := 136) (r2 := 1) (r3 := 4) rfl rfl rfl (of_decide_eq_true rfl) rfl rfl (by decide) rfl rfl (of_decide_eq_true rfl) (of_decide_eq_true rfl) ?_
      refine ct_136_37 hcr  g (h 37 7) (by omega)  (fun z8  (fz8 : -1 ≤ z8 ∧ z8 ≤ 3) => ?_)
      refine wk_i ?_
      refine wr_V (k0 := 37) (rest := []) (as := [.ref 37, vi z8]) (nx := 55) (r1 := 139) (r2 := 1) (r3 := 4) rfl rfl rfl (of_decide_eq_true rfl) rfl rfl (by decide) rfl rfl (of_decide_eq_true rfl) (of_decide_eq_true rfl) ?_
      refine ct_139_37 hcr  g z8 (by omega)  (fun h9 z10 g9 u9 (fz10 : -1 ≤ z10 ∧ z10 ≤ 11) => ?_)
      have F11 := F0.then (by decide +kernel) u9
      refine wk_i ?_
      refine wi_iconst (n := (-1)) (nx := 56) (r1 := 0) (r2 := 0) (r3 := 0) rfl ?_
      refine wi_icmp (cd := .eq) (nx := 59) (r1 := 61) (r2 := 0) (r3 := 0) rfl (by omega) (by omega) (fun (q12 : z10 = (-1)) => ?_) (fun (q12 : ¬ (z10 = (-1))) => ?_)
      ·
        refine wi_aload_n (i := 0) (x := 37) (nx := 62) (r1 := 0) (r2 := 0) (r3 := 0) rfl rfl ?_
        refine wi_aload_n (i := 0) (x := 37) (nx := 63) (r1 := 0) (r2 := 0) (r3 := 0) rfl rfl ?_
        refine wr_V (k0 := 37) (rest := [.ref 37]) (as := [.ref 37]) (nx := 66) (r1 := 140) (r2 := 0) (r3 := 4) rfl rfl rfl (of_decide_eq_true rfl) rfl rfl (by decide) rfl rfl (of_decide_eq_true rfl) (of_decide_eq_true rfl) ?_
        refine ct_140_37 hcr  g9    (fun z14  (fz14 : -1 ≤ z14 ∧ z14 ≤ 3) => ?_)
        refine wk_i ?_
        refine wr_V (k0 := 37) (rest := []) (as := [.ref 37, vi z14]) (nx := 69) (r1 := 142) (r2 := 1) (r3 := 4) rfl rfl rfl (of_decide_eq_true rfl) rfl rfl (by decide) rfl rfl (of_decide_eq_true rfl) (of_decide_eq_true rfl) ?_
        refine ct_142_37 hcr  g9 z14 (by omega)  (fun h15 z16 g15 u15 (fz16 : -1 ≤ z16 ∧ z16 ≤ 11) => ?_)
        have F17 := F11.then (by decide +kernel) u15
        refine wk_i ?_
        refine wi_iconst (n := (-1)) (nx := 70) (r1 := 0) (r2 := 0) (r3 := 0) rfl ?_
        refine wi_icmp (cd := .eq) (nx := 73) (r1 := 75) (r2 := 0) (r3 := 0) rfl (by omega) (by omega) (fun (q18 : z16 = (-1)) => ?_) (fun (q18 : ¬ (z16 = (-1))) => ?_)
        ·
          refine wi_aload_n (i := 0) (x := 37) (nx := 76) (r1 := 0) (r2 := 0) (r3 := 0) rfl rfl ?_
          refine wr_gr (k0 := 37) (x := 41) (nx := 79) (r1 := 4) (r2 := 4) (r3 := 0) rfl rfl (by decide) rfl ⟨rfl, rfl⟩ rfl ?_
          have b19 := gi_b (lo := 0) (hi := 12) g15 41 1 rfl
          refine wr_gi0 (k0 := 41) (x := h15 41 1) (nx := 82) (r1 := 5) (r2 := 1) (r3 := 0) rfl rfl (by decide) rfl ⟨rfl, rfl⟩ rfl rfl ?_
          refine wi_if (cd := .le) (nx := 85) (r1 := 97) (r2 := 0) (r3 := 0) rfl (by omega) (fun (q20 : (h15 41 1) ≤ 0) => ?_) (fun (q20 : ¬ ((h15 41 1) ≤ 0)) => ?_)
          ·
            refine wi_iconst (n := (-1)) (nx := 98) (r1 := 0) (r2 := 0) (r3 := 0) rfl ?_
            refine wi_ireturn (nx := 99) (r1 := 0) (r2 := 0) (r3 := 0) rfl rfl ?_
            exact k h15 (-1) g15 F17 (by omega)
          ·
            refine wi_aload_n (i := 0) (x := 37) (nx := 86) (r1 := 0) (r2 := 0) (r3 := 0) rfl rfl ?_
            refine wr_V (k0 := 37) (rest := []) (as := [.ref 37]) (nx := 89) (r1 := 133) (r2 := 0) (r3 := 4) rfl rfl rfl (of_decide_eq_true rfl) rfl rfl (by decide) rfl rfl (of_decide_eq_true rfl) (of_decide_eq_true rfl) ?_
            refine ct_133_37 hcr  g15    (fun h21 z22 g21 u21 (fz22 : -2147483647 ≤ z22 ∧ z22 ≤ 9999) => ?_)
            have F23 := F17.then (by decide +kernel) u21
            refine wk_i ?_
            refine wi_iconst (n := (-1)) (nx := 90) (r1 := 0) (r2 := 0) (r3 := 0) rfl ?_
            refine wi_icmp (cd := .eq) (nx := 93) (r1 := 97) (r2 := 0) (r3 := 0) rfl (by omega) (by omega) (fun (q24 : z22 = (-1)) => ?_) (fun (q24 : ¬ (z22 = (-1))) => ?_)
            ·
              refine wi_iconst (n := (-1)) (nx := 98) (r1 := 0) (r2 := 0) (r3 := 0) rfl ?_
              refine wi_ireturn (nx := 99) (r1 := 0) (r2 := 0) (r3 := 0) rfl rfl ?_
              exact k h21 (-1) g21 F23 (by omega)
            ·
              refine wi_iconst (n := 3) (nx := 94) (r1 := 0) (r2 := 0) (r3 := 0) rfl ?_
              refine wi_goto (nx := 97) (r1 := 98) (r2 := 0) (r3 := 0) rfl ?_
              refine wi_ireturn (nx := 99) (r1 := 0) (r2 := 0) (r3 := 0) rfl rfl ?_
              exact k h21 3 g21 F23 (by omega)
        ·
          refine wi_iconst (n := 2) (nx := 74) (r1 := 0) (r2 := 0) (r3 := 0) rfl ?_
          refine wi_ireturn (nx := 75) (r1 := 0) (r2 := 0) (r3 := 0) rfl rfl ?_
          exact k h15 2 g15 F17 (by omega)
      ·
        refine wi_iconst (n := 1) (nx := 60) (r1 := 0) (r2 := 0) (r3 := 0) rfl ?_
        refine wi_ireturn (nx := 61) (r1 := 0) (r2 := 0) (r3 := 0) rfl rfl ?_
        exact k h9 1 g9 F11 (by omega)
  ·
    refine wi_aload_n (i := 0) (x := 37) (nx := 8) (r1 := 0) (r2 := 0) (r3 := 0) rfl rfl ?_
    refine wi_aload_n (i := 0) (x := 37) (nx := 9) (r1 := 0) (r2 := 0) (r3 := 0) rfl rfl ?_
    refine wi_aload_n (i := 0) (x := 37) (nx := 10) (r1 := 0) (r2 := 0) (r3 := 0) rfl rfl ?_
    refine wr_gr (k0 := 37) (x := 41) (nx := 13) (r1 := 4) (r2 := 4) (r3 := 0) rfl rfl (by decide) rfl ⟨rfl, rfl⟩ rfl ?_
    refine wi_iconst (n := 0) (nx := 14) (r1 := 0) (r2 := 0) (r3 := 0) rfl ?_
    refine wr_V (k0 := 41) (rest := [.ref 37, .ref 37]) (as := [.ref 41, vi 0]) (nx := 17) (r1 := 154) (r2 := 1) (r3 := 5) rfl rfl rfl (of_decide_eq_true rfl) rfl rfl (by decide) rfl rfl (of_decide_eq_true rfl) (of_decide_eq_true rfl) ?_
    refine ct_154_R hcr rw_41 g 0 (by omega)  (fun z5  (fz5 : -2147483648 ≤ z5 ∧ z5 ≤ 2147483647) => ?_)
    refine wk_i ?_
    refine wr_V (k0 := 37) (rest := [.ref 37]) (as := [.ref 37, vi z5]) (nx := 20) (r1 := 136) (r2 := 1) (r3 := 4) rfl rfl rfl (of_decide_eq_true rfl) rfl rfl (by decide) rfl rfl (of_decide_eq_true rfl) (of_decide_eq_true rfl) ?_
    refine ct_136_37 hcr  g z5 (by omega)  (fun z7  (fz7 : -1 ≤ z7 ∧ z7 ≤ 3) => ?_)
    refine wk_i ?_
    refine wr_V (k0 := 37) (rest := []) (as := [.ref 37, vi z7]) (nx := 23) (r1 := 138) (r2 := 1) (r3 := 4) rfl rfl rfl (of_decide_eq_true rfl) rfl rfl (by decide) rfl rfl (of_decide_eq_true rfl) (of_decide_eq_true rfl) ?_
    refine ct_138_37 hcr  g z7 (by omega)  (fun h8 z9 g8 u8 (fz9 : -2147483648 ≤ z9 ∧ z9 ≤ 2147483647) => ?_)
    have F10 := F0.then (by decide +kernel) u8
    refine wk_i ?_
    refine wi_iconst (n := (-1)) (nx := 24) (r1 := 0) (r2 := 0) (r3 := 0) rfl ?_
    refine wi_icmp (cd := .eq) (nx := 27) (r1 := 29) (r2 := 0) (r3 := 0) rfl (by omega) (by omega) (fun (q11 : z9 = (-1)) => ?_) (fun (q11 : ¬ (z9 = (-1))) => ?_)
    ·
      refine wi_aload_n (i := 0) (x := 37) (nx := 30) (r1 := 0) (r2 := 0) (r3 := 0) rfl rfl ?_
      have b12 := gi_b (lo := 0) (hi := 12) g 37 7 rfl
      refine wr_gi0 (k0 := 37) (x := h 37 7) (nx := 33) (r1 := 4) (r2 := 7) (r3 := 0) rfl rfl (by decide) rfl ⟨rfl, rfl⟩ rfl (u8 37 7 rfl) ?_
      refine wi_aload_n (i := 0) (x := 37) (nx := 34) (r1 := 0) (r2 := 0) (r3 := 0) rfl rfl ?_
      refine wr_gr (k0 := 37) (x := 3) (nx := 37) (r1 := 4) (r2 := 0) (r3 := 0) rfl rfl (by decide) rfl ⟨rfl, rfl⟩ rfl ?_
      have b13 := gi_b (lo := 0) (hi := 12) g 3 2 rfl
      refine wr_gi0 (k0 := 3) (x := h 3 2) (nx := 40) (r1 := 2) (r2 := 2) (r3 := 0) rfl rfl (by decide) rfl ⟨rfl, rfl⟩ rfl (u8 3 2 rfl) ?_
      refine wi_icmp (cd := .ge) (nx := 43) (r1 := 61) (r2 := 0) (r3 := 0) rfl (by omega) (by omega) (fun (q14 : (h 3 2) ≤ (h 37 7)) => ?_) (fun (q14 : ¬ ((h 3 2) ≤ (h 37 7))) => ?_)
      ·
        refine wi_aload_n (i := 0) (x := 37) (nx := 62) (r1 := 0) (r2 := 0) (r3 := 0) rfl rfl ?_
        refine wi_aload_n (i := 0) (x := 37) (nx := 63) (r1 := 0) (r2 := 0) (r3 := 0) rfl rfl ?_
        refine wr_V (k0 := 37) (rest := [.ref 37]) (as := [.ref 37]) (nx := 66) (r1 := 140) (r2 := 0) (r3 := 4) rfl rfl rfl (of_decide_eq_true rfl) rfl rfl (by decide) rfl rfl (of_decide_eq_true rfl) (of_decide_eq_true rfl) ?_
        refine ct_140_37 hcr  g8    (fun z16  (fz16 : -1 ≤ z16 ∧ z16 ≤ 3) => ?_)
        refine wk_i ?_
        refine wr_V (k0 := 37) (rest := []) (as := [.ref 37, vi z16]) (nx := 69) (r1 := 142) (r2 := 1) (r3 := 4) rfl rfl rfl (of_decide_eq_true rfl) rfl rfl (by decide) rfl rfl (of_decide_eq_true rfl) (of_decide_eq_true rfl) ?_
        refine ct_142_37 hcr  g8 z16 (by omega)  (fun h17 z18 g17 u17 (fz18 : -1 ≤ z18 ∧ z18 ≤ 11) => ?_)
        have F19 := F10.then (by decide +kernel) u17
        refine wk_i ?_
        refine wi_iconst (n := (-1)) (nx := 70) (r1 := 0) (r2 := 0) (r3 := 0) rfl ?_
        refine wi_icmp (cd := .eq) (nx := 73) (r1 := 75) (r2 := 0) (r3 := 0) rfl (by omega) (by omega) (fun (q20 : z18 = (-1)) => ?_) (fun (q20 : ¬ (z18 = (-1))) => ?_)
        ·
          refine wi_aload_n (i := 0) (x := 37) (nx := 76) (r1 := 0) (r2 := 0) (r3 := 0) rfl rfl ?_
          refine wr_gr (k0 := 37) (x := 41) (nx := 79) (r1 := 4) (r2 := 4) (r3 := 0) rfl rfl (by decide) rfl ⟨rfl, rfl⟩ rfl ?_
          have b21 := gi_b (lo := 0) (hi := 12) g17 41 1 rfl
          refine wr_gi0 (k0 := 41) (x := h17 41 1) (nx := 82) (r1 := 5) (r2 := 1) (r3 := 0) rfl rfl (by decide) rfl ⟨rfl, rfl⟩ rfl rfl ?_
          refine wi_if (cd := .le) (nx := 85) (r1 := 97) (r2 := 0) (r3 := 0) rfl (by omega) (fun (q22 : (h17 41 1) ≤ 0) => ?_) (fun (q22 : ¬ ((h17 41 1) ≤ 0)) => ?_)
          ·
            refine wi_iconst (n := (-1)) (nx := 98) (r1 := 0) (r2 := 0) (r3 := 0) rfl ?_
            refine wi_ireturn (nx := 99) (r1 := 0) (r2 := 0) (r3 := 0) rfl rfl ?_
            exact k h17 (-1) g17 F19 (by omega)
          ·
            refine wi_aload_n (i := 0) (x := 37) (nx := 86) (r1 := 0) (r2 := 0) (r3 := 0) rfl rfl ?_
            refine wr_V (k0 := 37) (rest := []) (as := [.ref 37]) (nx := 89) (r1 := 133) (r2 := 0) (r3 := 4) rfl rfl rfl (of_decide_eq_true rfl) rfl rfl (by decide) rfl rfl (of_decide_eq_true rfl) (of_decide_eq_true rfl) ?_
            refine ct_133_37 hcr  g17    (fun h23 z24 g23 u23 (fz24 : -2147483647 ≤ z24 ∧ z24 ≤ 9999) => ?_)
            have F25 := F19.then (by decide +kernel) u23
            refine wk_i ?_
            refine wi_iconst (n := (-1)) (nx := 90) (r1 := 0) (r2 := 0) (r3 := 0) rfl ?_
            refine wi_icmp (cd := .eq) (nx := 93) (r1 := 97) (r2 := 0) (r3 := 0) rfl (by omega) (by omega) (fun (q26 : z24 = (-1)) => ?_) (fun (q26 : ¬ (z24 = (-1))) => ?_)
            ·
              refine wi_iconst (n := (-1)) (nx := 98) (r1 := 0) (r2 := 0) (r3 := 0) rfl ?_
              refine wi_ireturn (nx := 99) (r1 := 0) (r2 := 0) (r3 := 0) rfl rfl ?_
              exact k h23 (-1) g23 F25 (by omega)
            ·
              refine wi_iconst (n := 3) (nx := 94) (r1 := 0) (r2 := 0) (r3 := 0) rfl ?_
              refine wi_goto (nx := 97) (r1 := 98) (r2 := 0) (r3 := 0) rfl ?_
              refine wi_ireturn (nx := 99) (r1 := 0) (r2 := 0) (r3 := 0) rfl rfl ?_
              exact k h23 3 g23 F25 (by omega)
        ·
          refine wi_iconst (n := 2) (nx := 74) (r1 := 0) (r2 := 0) (r3 := 0) rfl ?_
          refine wi_ireturn (nx := 75) (r1 := 0) (r2 := 0) (r3 := 0) rfl rfl ?_
          exact k h17 2 g17 F19 (by omega)
      ·
        refine wi_aload_n (i := 0) (x := 37) (nx := 44) (r1 := 0) (r2 := 0) (r3 := 0) rfl rfl ?_
        refine wi_aload_n (i := 0) (x := 37) (nx := 45) (r1 := 0) (r2 := 0) (r3 := 0) rfl rfl ?_
        refine wi_aload_n (i := 0) (x := 37) (nx := 46) (r1 := 0) (r2 := 0) (r3 := 0) rfl rfl ?_
        refine wr_gi0 (k0 := 37) (x := h 37 7) (nx := 49) (r1 := 4) (r2 := 7) (r3 := 0) rfl rfl (by decide) rfl ⟨rfl, rfl⟩ rfl (u8 37 7 rfl) ?_
        refine wr_V (k0 := 37) (rest := [.ref 37]) (as := [.ref 37, vi (h 37 7)]) (nx := 52) (r1 := 136) (r2 := 1) (r3 := 4) rfl rfl rfl (of_decide_eq_true rfl) rfl rfl (by decide) rfl rfl (of_decide_eq_true rfl) (of_decide_eq_true rfl) ?_
        refine ct_136_37 hcr  g8 (h 37 7) (by omega)  (fun z16  (fz16 : -1 ≤ z16 ∧ z16 ≤ 3) => ?_)
        refine wk_i ?_
        refine wr_V (k0 := 37) (rest := []) (as := [.ref 37, vi z16]) (nx := 55) (r1 := 139) (r2 := 1) (r3 := 4) rfl rfl rfl (of_decide_eq_true rfl) rfl rfl (by decide) rfl rfl (of_decide_eq_true rfl) (of_decide_eq_true rfl) ?_
        refine ct_139_37 hcr  g8 z16 (by omega)  (fun h17 z18 g17 u17 (fz18 : -1 ≤ z18 ∧ z18 ≤ 11) => ?_)
        have F19 := F10.then (by decide +kernel) u17
        refine wk_i ?_
        refine wi_iconst (n := (-1)) (nx := 56) (r1 := 0) (r2 := 0) (r3 := 0) rfl ?_
        refine wi_icmp (cd := .eq) (nx := 59) (r1 := 61) (r2 := 0) (r3 := 0) rfl (by omega) (by omega) (fun (q20 : z18 = (-1)) => ?_) (fun (q20 : ¬ (z18 = (-1))) => ?_)
        ·
          refine wi_aload_n (i := 0) (x := 37) (nx := 62) (r1 := 0) (r2 := 0) (r3 := 0) rfl rfl ?_
          refine wi_aload_n (i := 0) (x := 37) (nx := 63) (r1 := 0) (r2 := 0) (r3 := 0) rfl rfl ?_
          refine wr_V (k0 := 37) (rest := [.ref 37]) (as := [.ref 37]) (nx := 66) (r1 := 140) (r2 := 0) (r3 := 4) rfl rfl rfl (of_decide_eq_true rfl) rfl rfl (by decide) rfl rfl (of_decide_eq_true rfl) (of_decide_eq_true rfl) ?_
          refine ct_140_37 hcr  g17    (fun z22  (fz22 : -1 ≤ z22 ∧ z22 ≤ 3) => ?_)
          refine wk_i ?_
          refine wr_V (k0 := 37) (rest := []) (as := [.ref 37, vi z22]) (nx := 69) (r1 := 142) (r2 := 1) (r3 := 4) rfl rfl rfl (of_decide_eq_true rfl) rfl rfl (by decide) rfl rfl (of_decide_eq_true rfl) (of_decide_eq_true rfl) ?_
          refine ct_142_37 hcr  g17 z22 (by omega)  (fun h23 z24 g23 u23 (fz24 : -1 ≤ z24 ∧ z24 ≤ 11) => ?_)
          have F25 := F19.then (by decide +kernel) u23
          refine wk_i ?_
          refine wi_iconst (n := (-1)) (nx := 70) (r1 := 0) (r2 := 0) (r3 := 0) rfl ?_
          refine wi_icmp (cd := .eq) (nx := 73) (r1 := 75) (r2 := 0) (r3 := 0) rfl (by omega) (by omega) (fun (q26 : z24 = (-1)) => ?_) (fun (q26 : ¬ (z24 = (-1))) => ?_)
          ·
            refine wi_aload_n (i := 0) (x := 37) (nx := 76) (r1 := 0) (r2 := 0) (r3 := 0) rfl rfl ?_
            refine wr_gr (k0 := 37) (x := 41) (nx := 79) (r1 := 4) (r2 := 4) (r3 := 0) rfl rfl (by decide) rfl ⟨rfl, rfl⟩ rfl ?_
            have b27 := gi_b (lo := 0) (hi := 12) g23 41 1 rfl
            refine wr_gi0 (k0 := 41) (x := h23 41 1) (nx := 82) (r1 := 5) (r2 := 1) (r3 := 0) rfl rfl (by decide) rfl ⟨rfl, rfl⟩ rfl rfl ?_
            refine wi_if (cd := .le) (nx := 85) (r1 := 97) (r2 := 0) (r3 := 0) rfl (by omega) (fun (q28 : (h23 41 1) ≤ 0) => ?_) (fun (q28 : ¬ ((h23 41 1) ≤ 0)) => ?_)
            ·
              refine wi_iconst (n := (-1)) (nx := 98) (r1 := 0) (r2 := 0) (r3 := 0) rfl ?_
              refine wi_ireturn (nx := 99) (r1 := 0) (r2 := 0) (r3 := 0) rfl rfl ?_
              exact k h23 (-1) g23 F25 (by omega)
            ·
              refine wi_aload_n (i := 0) (x := 37) (nx := 86) (r1 := 0) (r2 := 0) (r3 := 0) rfl rfl ?_
              refine wr_V (k0 := 37) (rest := []) (as := [.ref 37]) (nx := 89) (r1 := 133) (r2 := 0) (r3 := 4) rfl rfl rfl (of_decide_eq_true rfl) rfl rfl (by decide) rfl rfl (of_decide_eq_true rfl) (of_decide_eq_true rfl) ?_
              refine ct_133_37 hcr  g23    (fun h29 z30 g29 u29 (fz30 : -2147483647 ≤ z30 ∧ z30 ≤ 9999) => ?_)
              have F31 := F25.then (by decide +kernel) u29
              refine wk_i ?_
              refine wi_iconst (n := (-1)) (nx := 90) (r1 := 0) (r2 := 0) (r3 := 0) rfl ?_
              refine wi_icmp (cd := .eq) (nx := 93) (r1 := 97) (r2 := 0) (r3 := 0) rfl (by omega) (by omega) (fun (q32 : z30 = (-1)) => ?_) (fun (q32 : ¬ (z30 = (-1))) => ?_)
              ·
                refine wi_iconst (n := (-1)) (nx := 98) (r1 := 0) (r2 := 0) (r3 := 0) rfl ?_
                refine wi_ireturn (nx := 99) (r1 := 0) (r2 := 0) (r3 := 0) rfl rfl ?_
                exact k h29 (-1) g29 F31 (by omega)
              ·
                refine wi_iconst (n := 3) (nx := 94) (r1 := 0) (r2 := 0) (r3 := 0) rfl ?_
                refine wi_goto (nx := 97) (r1 := 98) (r2 := 0) (r3 := 0) rfl ?_
                refine wi_ireturn (nx := 99) (r1 := 0) (r2 := 0) (r3 := 0) rfl rfl ?_
                exact k h29 3 g29 F31 (by omega)
          ·
            refine wi_iconst (n := 2) (nx := 74) (r1 := 0) (r2 := 0) (r3 := 0) rfl ?_
            refine wi_ireturn (nx := 75) (r1 := 0) (r2 := 0) (r3 := 0) rfl rfl ?_
            exact k h23 2 g23 F25 (by omega)
        ·
          refine wi_iconst (n := 1) (nx := 60) (r1 := 0) (r2 := 0) (r3 := 0) rfl ?_
          refine wi_ireturn (nx := 61) (r1 := 0) (r2 := 0) (r3 := 0) rfl rfl ?_
          exact k h17 1 g17 F19 (by omega)
    ·
      refine wi_iconst (n := 0) (nx := 28) (r1 := 0) (r2 := 0) (r3 := 0) rfl ?_
      refine wi_ireturn (nx := 29) (r1 := 0) (r2 := 0) (r3 := 0) rfl rfl ?_
      exact k h8 0 g8 F10 (by omega)
-- method 83: Bank.lookAhead(II)I
set_option maxRecDepth 100000 in
set_option maxHeartbeats 100000000 in
theorem ct_83_0 {L : Nat} {xs : Nat → Int32} {d b c : Nat} {h : hp} {cr : Nat → Nat → Option Nat} {Q : hp_Q} (hcr : CR cr)  (g : GI h) (a0 : Int) (a1 : Int) (q0_ : -2147483648 ≤ a0 ∧ a0 ≤ 2147483647) (q1_ : -2147483648 ≤ a1 ∧ a1 ≤ 2147483647)  (k : ∀ (h2 : hp) (z0 : Int) , GI h2 → FR [(37, 55, none)] h h2 → (-2147483648 ≤ z0 ∧ z0 ≤ 2147483647) → Q (.inl (some (vi z0))) (hp_w h2 cr) b c) : wp (md_xa (L, xs)) (d + 4) 83 (0, [(0, .ref 0), (1, vi a0), (2, vi a1)], [], hp_w h cr, b, c) Q := by
  have F0 : FR [(37, 55, none)] h h := FR.refl
  refine wi_aload_n (i := 0) (x := 0) (nx := 1) (r1 := 0) (r2 := 0) (r3 := 0) rfl rfl ?_
  refine wr_gr (k0 := 0) (x := 37) (nx := 4) (r1 := 0) (r2 := 4) (r3 := 0) rfl rfl (by decide) rfl ⟨rfl, rfl⟩ rfl ?_
  refine wi_aload_n (i := 0) (x := 0) (nx := 5) (r1 := 0) (r2 := 0) (r3 := 0) rfl rfl ?_
  refine wr_gr (k0 := 0) (x := 18) (nx := 8) (r1 := 0) (r2 := 3) (r3 := 0) rfl rfl (by decide) rfl ⟨rfl, rfl⟩ rfl ?_
  refine wr_V (k0 := 37) (rest := []) (as := [.ref 37, .ref 18]) (nx := 11) (r1 := 132) (r2 := 1) (r3 := 4) rfl rfl rfl (of_decide_eq_true rfl) rfl rfl (by decide) rfl rfl (of_decide_eq_true rfl) (of_decide_eq_true rfl) ?_
  refine ct_132_37_18 hcr  g    (fun h1 g1 u1 => ?_)
  have F2 := F0.then (by decide +kernel) u1
  refine wk_n ?_
  refine wi_iconst (n := 0) (nx := 12) (r1 := 0) (r2 := 0) (r3 := 0) rfl ?_
  refine wi_istore_n (i := 3) (e := 0) (lo2 := [(3, vi 0), (0, .ref 0), (1, vi a0), (2, vi a1)]) (nx := 13) (r1 := 0) (r2 := 0) (r3 := 0) rfl rfl ?_
  refine wp.lo (lo := [(0, .ref 0), (1, vi a0), (2, vi a1), (3, vi 0)]) ⟨rfl, rfl, rfl, rfl, trivial⟩ rfl ?_
  refine wl_1 (fun x3 h4 => GI h4 ∧ FR [(37, 55, none)] h h4 ∧ FR [(37, 55, none)] h1 h4 ∧ ((0 ≤ x3 ∧ x3 ≤ 2147483647))) (fun x3 h4 => ((2147483647 : Int) + 1 - x3).toNat) (fun x3 h4 => (13, [(0, .ref 0), (1, vi a0), (2, vi a1), (3, vi x3)], [], hp_w h4 cr, b, c)) ?_ 0 h1 ⟨g1, F2, FR.refl, (show (0 ≤ 0 ∧ 0 ≤ 2147483647) by omega)⟩
  intro x3 h4 ⟨g4, F5, u4, f4⟩ I4
  refine wi_iload_n (i := 3) (e := x3) (nx := 14) (r1 := 0) (r2 := 0) (r3 := 0) rfl rfl ?_
  refine wi_iload_n (i := 1) (e := a0) (nx := 15) (r1 := 0) (r2 := 0) (r3 := 0) rfl rfl ?_
  refine wi_icmp (cd := .ge) (nx := 18) (r1 := 59) (r2 := 0) (r3 := 0) rfl (by omega) (by omega) (fun (q6 : a0 ≤ x3) => ?_) (fun (q6 : ¬ (a0 ≤ x3)) => ?_)
  ·
    refine wi_iload_n (i := 1) (e := a0) (nx := 60) (r1 := 0) (r2 := 0) (r3 := 0) rfl rfl ?_
    refine wi_ireturn (nx := 61) (r1 := 0) (r2 := 0) (r3 := 0) rfl rfl ?_
    exact k h4 a0 g4 F5 (by omega)
  ·
    refine wi_iload_n (i := 2) (e := a1) (nx := 19) (r1 := 0) (r2 := 0) (r3 := 0) rfl rfl ?_
    refine wi_iconst (n := (-1)) (nx := 20) (r1 := 0) (r2 := 0) (r3 := 0) rfl ?_
    refine wi_icmp (cd := .eq) (nx := 23) (r1 := 40) (r2 := 0) (r3 := 0) rfl (by omega) (by omega) (fun (q7 : a1 = (-1)) => ?_) (fun (q7 : ¬ (a1 = (-1))) => ?_)
    ·
      refine wi_aload_n (i := 0) (x := 0) (nx := 41) (r1 := 0) (r2 := 0) (r3 := 0) rfl rfl ?_
      refine wr_gr (k0 := 0) (x := 37) (nx := 44) (r1 := 0) (r2 := 4) (r3 := 0) rfl rfl (by decide) rfl ⟨rfl, rfl⟩ rfl ?_
      refine wr_V (k0 := 37) (rest := []) (as := [.ref 37]) (nx := 47) (r1 := 134) (r2 := 0) (r3 := 4) rfl rfl rfl (of_decide_eq_true rfl) rfl rfl (by decide) rfl rfl (of_decide_eq_true rfl) (of_decide_eq_true rfl) ?_
      refine ct_134_37 hcr  g4    (fun h8 z9 g8 u8 (fz9 : -1 ≤ z9 ∧ z9 ≤ 3) => ?_)
      have F10 := F5.then (by decide +kernel) u8
      have F11 := u4.then (by decide +kernel) u8
      refine wk_i ?_
      refine wi_iconst (n := (-1)) (nx := 48) (r1 := 0) (r2 := 0) (r3 := 0) rfl ?_
      refine wi_icmp (cd := .ne) (nx := 51) (r1 := 53) (r2 := 0) (r3 := 0) rfl (by omega) (by omega) (fun (q12 : z9 ≠ (-1)) => ?_) (fun (q12 : ¬ (z9 ≠ (-1))) => ?_)
      ·
        refine wr_iinc (i := 3) (n := 1) (v := x3) (fun e13 => [(3, vi e13), (0, .ref 0), (1, vi a0), (2, vi a1)]) (nx := 56) (r1 := 0) (r2 := 0) (r3 := 0) rfl rfl (fun _ => rfl) (fun e13 (fe13 : e13 = x3 + 1) => ?_)
        refine wi_goto (nx := 59) (r1 := 13) (r2 := 0) (r3 := 0) rfl ?_
        refine wp.lo (lo := [(0, .ref 0), (1, vi a0), (2, vi a1), (3, vi e13)]) ⟨rfl, rfl, rfl, rfl, trivial⟩ rfl ?_
        exact I4 e13 h8 ⟨g8, F10, F11, (show (0 ≤ e13 ∧ e13 ≤ 2147483647) by omega)⟩ (show ((2147483647 : Int) + 1 - e13).toNat < ((2147483647 : Int) + 1 - x3).toNat by omega)
      ·
        refine wi_iload_n (i := 3) (e := x3) (nx := 52) (r1 := 0) (r2 := 0) (r3 := 0) rfl rfl ?_
        refine wi_ireturn (nx := 53) (r1 := 0) (r2 := 0) (r3 := 0) rfl rfl ?_
        exact k h8 x3 g8 F10 (by omega)
    ·
      refine wi_aload_n (i := 0) (x := 0) (nx := 24) (r1 := 0) (r2 := 0) (r3 := 0) rfl rfl ?_
      refine wr_gr (k0 := 0) (x := 37) (nx := 27) (r1 := 0) (r2 := 4) (r3 := 0) rfl rfl (by decide) rfl ⟨rfl, rfl⟩ rfl ?_
      refine wr_gr (k0 := 37) (x := 45) (nx := 30) (r1 := 4) (r2 := 6) (r3 := 0) rfl rfl (by decide) rfl ⟨rfl, rfl⟩ rfl ?_
      refine wi_iload_n (i := 2) (e := a1) (nx := 31) (r1 := 0) (r2 := 0) (r3 := 0) rfl rfl ?_
      refine wr_V (k0 := 45) (rest := []) (as := [.ref 45, vi a1]) (nx := 34) (r1 := 159) (r2 := 1) (r3 := 5) rfl rfl rfl (of_decide_eq_true rfl) rfl rfl (by decide) rfl rfl (of_decide_eq_true rfl) (of_decide_eq_true rfl) ?_
      refine ct_159_R hcr rw_45 g4 a1 (by omega)  (fun z9  (fz9 : -1 ≤ z9 ∧ z9 ≤ 11) => ?_)
      refine wk_i ?_
      refine wi_iconst (n := (-1)) (nx := 35) (r1 := 0) (r2 := 0) (r3 := 0) rfl ?_
      refine wi_icmp (cd := .eq) (nx := 38) (r1 := 40) (r2 := 0) (r3 := 0) rfl (by omega) (by omega) (fun (q10 : z9 = (-1)) => ?_) (fun (q10 : ¬ (z9 = (-1))) => ?_)
      ·
        refine wi_aload_n (i := 0) (x := 0) (nx := 41) (r1 := 0) (r2 := 0) (r3 := 0) rfl rfl ?_
        refine wr_gr (k0 := 0) (x := 37) (nx := 44) (r1 := 0) (r2 := 4) (r3 := 0) rfl rfl (by decide) rfl ⟨rfl, rfl⟩ rfl ?_
        refine wr_V (k0 := 37) (rest := []) (as := [.ref 37]) (nx := 47) (r1 := 134) (r2 := 0) (r3 := 4) rfl rfl rfl (of_decide_eq_true rfl) rfl rfl (by decide) rfl rfl (of_decide_eq_true rfl) (of_decide_eq_true rfl) ?_
        refine ct_134_37 hcr  g4    (fun h11 z12 g11 u11 (fz12 : -1 ≤ z12 ∧ z12 ≤ 3) => ?_)
        have F13 := F5.then (by decide +kernel) u11
        have F14 := u4.then (by decide +kernel) u11
        refine wk_i ?_
        refine wi_iconst (n := (-1)) (nx := 48) (r1 := 0) (r2 := 0) (r3 := 0) rfl ?_
        refine wi_icmp (cd := .ne) (nx := 51) (r1 := 53) (r2 := 0) (r3 := 0) rfl (by omega) (by omega) (fun (q15 : z12 ≠ (-1)) => ?_) (fun (q15 : ¬ (z12 ≠ (-1))) => ?_)
        ·
          refine wr_iinc (i := 3) (n := 1) (v := x3) (fun e16 => [(3, vi e16), (0, .ref 0), (1, vi a0), (2, vi a1)]) (nx := 56) (r1 := 0) (r2 := 0) (r3 := 0) rfl rfl (fun _ => rfl) (fun e16 (fe16 : e16 = x3 + 1) => ?_)
          refine wi_goto (nx := 59) (r1 := 13) (r2 := 0) (r3 := 0) rfl ?_
          refine wp.lo (lo := [(0, .ref 0), (1, vi a0), (2, vi a1), (3, vi e16)]) ⟨rfl, rfl, rfl, rfl, trivial⟩ rfl ?_
          exact I4 e16 h11 ⟨g11, F13, F14, (show (0 ≤ e16 ∧ e16 ≤ 2147483647) by omega)⟩ (show ((2147483647 : Int) + 1 - e16).toNat < ((2147483647 : Int) + 1 - x3).toNat by omega)
        ·
          refine wi_iload_n (i := 3) (e := x3) (nx := 52) (r1 := 0) (r2 := 0) (r3 := 0) rfl rfl ?_
          refine wi_ireturn (nx := 53) (r1 := 0) (r2 := 0) (r3 := 0) rfl rfl ?_
          exact k h11 x3 g11 F13 (by omega)
      ·
        refine wi_iload_n (i := 3) (e := x3) (nx := 39) (r1 := 0) (r2 := 0) (r3 := 0) rfl rfl ?_
        refine wi_ireturn (nx := 40) (r1 := 0) (r2 := 0) (r3 := 0) rfl rfl ?_
        exact k h4 x3 g4 F5 (by omega)
-- method 81: Bank.ruleCost(I)I
set_option maxRecDepth 100000 in
set_option maxHeartbeats 100000000 in
theorem ct_81_0 {L : Nat} {xs : Nat → Int32} {d b c : Nat} {h : hp} {cr : Nat → Nat → Option Nat} {Q : hp_Q} (hcr : CR cr) (hr : 1 ≤ b ∧ 6 ≤ c)  (g : GI h) (a0 : Int) (q0_ : -2147483648 ≤ a0 ∧ a0 ≤ 2147483647)  (k : ∀ (h2 : hp) (z0 : Int) , GI h2 → FR [(37, 55, none)] h h2 → (-2147483648 ≤ z0 ∧ z0 ≤ 2147483647) → Q (.inl (some (vi z0))) (hp_w h2 cr) b c) (kx1 : ∀ (h2 : hp), GI h2 → FR [(37, 55, none)] h h2 → Q (.inr 1) (hp_w h2 cr) (b - 1) (c - 6)) : wp (md_xa (L, xs)) (d + 5) 81 (0, [(0, .ref 0), (1, vi a0)], [], hp_w h cr, b, c) Q := by
  have F0 : FR [(37, 55, none)] h h := FR.refl
  refine wi_iload_n (i := 1) (e := a0) (nx := 1) (r1 := 0) (r2 := 0) (r3 := 0) rfl rfl ?_
  refine wi_S (rest := []) (as := [vi a0]) (nx := 4) (r1 := 82) (r2 := 17) (r3 := 0) rfl rfl rfl (of_decide_eq_true rfl) rfl rfl (of_decide_eq_true rfl) (of_decide_eq_true rfl) ?_
  refine wi_iload_n (i := 0) (e := a0) (nx := 1) (r1 := 0) (r2 := 0) (r3 := 0) rfl rfl ?_
  refine wi_if (cd := .lt) (nx := 4) (r1 := 11) (r2 := 0) (r3 := 0) rfl (by omega) (fun (q1 : a0 < 0) => ?_) (fun (q1 : ¬ (a0 < 0)) => ?_)
  ·
    refine wr_throw (Ex := 1) (nx := 14) (r1 := 1) (r2 := 0) (r3 := 1) rfl (by decide) rfl hr (by decide) ?_
    refine wk_x rfl ?_
    exact kx1 h g F0
  ·
    refine wi_iload_n (i := 0) (e := a0) (nx := 5) (r1 := 0) (r2 := 0) (r3 := 0) rfl rfl ?_
    refine wi_sipush (n := 300) (nx := 8) (r1 := 0) (r2 := 0) (r3 := 0) rfl (by decide) ?_
    refine wi_icmp (cd := .le) (nx := 11) (r1 := 22) (r2 := 0) (r3 := 0) rfl (by omega) (by omega) (fun (q2 : a0 ≤ 300) => ?_) (fun (q2 : ¬ (a0 ≤ 300)) => ?_)
    ·
      refine wi_return (nx := 23) (r1 := 0) (r2 := 0) (r3 := 0) rfl rfl ?_
      refine wk_n ?_
      refine wi_aload_n (i := 0) (x := 0) (nx := 5) (r1 := 0) (r2 := 0) (r3 := 0) rfl rfl ?_
      refine wi_iload_n (i := 1) (e := a0) (nx := 6) (r1 := 0) (r2 := 0) (r3 := 0) rfl rfl ?_
      refine wi_iconst (n := (-1)) (nx := 7) (r1 := 0) (r2 := 0) (r3 := 0) rfl ?_
      refine wr_V (k0 := 0) (rest := []) (as := [.ref 0, vi a0, vi (-1)]) (nx := 10) (r1 := 83) (r2 := 2) (r3 := 0) rfl rfl rfl (of_decide_eq_true rfl) rfl rfl (by decide) rfl rfl (of_decide_eq_true rfl) (of_decide_eq_true rfl) ?_
      refine ct_83_0 hcr  g a0 (-1) (by omega) (by omega)  (fun h3 z4 g3 u3 (fz4 : -2147483648 ≤ z4 ∧ z4 ≤ 2147483647) => ?_)
      have F5 := F0.then (by decide +kernel) u3
      refine wk_i ?_
      refine wi_pop (nx := 11) (r1 := 0) (r2 := 0) (r3 := 0) rfl rfl ?_
      refine wi_aload_n (i := 0) (x := 0) (nx := 12) (r1 := 0) (r2 := 0) (r3 := 0) rfl rfl ?_
      refine wr_gr (k0 := 0) (x := 37) (nx := 15) (r1 := 0) (r2 := 4) (r3 := 0) rfl rfl (by decide) rfl ⟨rfl, rfl⟩ rfl ?_
      have b6 := gi_b (lo := -2147483648) (hi := 2147483647) g3 37 13 rfl
      refine wr_gi0 (k0 := 37) (x := h3 37 13) (nx := 18) (r1 := 4) (r2 := 13) (r3 := 0) rfl rfl (by decide) rfl ⟨rfl, rfl⟩ rfl rfl ?_
      refine wi_ireturn (nx := 19) (r1 := 0) (r2 := 0) (r3 := 0) rfl rfl ?_
      exact k h3 (h3 37 13) g3 F5 (by omega)
    ·
      refine wr_throw (Ex := 1) (nx := 14) (r1 := 1) (r2 := 0) (r3 := 1) rfl (by decide) rfl hr (by decide) ?_
      refine wk_x rfl ?_
      exact kx1 h g F0
-- method 84: Bank.ruleOut(I)I
set_option maxRecDepth 100000 in
set_option maxHeartbeats 100000000 in
theorem ct_84_0 {L : Nat} {xs : Nat → Int32} {d b c : Nat} {h : hp} {cr : Nat → Nat → Option Nat} {Q : hp_Q} (hcr : CR cr) (hr : 1 ≤ b ∧ 6 ≤ c)  (g : GI h) (a0 : Int) (q0_ : -2147483648 ≤ a0 ∧ a0 ≤ 2147483647)  (k : ∀ (h2 : hp) (z0 : Int) , GI h2 → FR [(37, 55, none)] h h2 → (0 ≤ z0 ∧ z0 ≤ 12) → Q (.inl (some (vi z0))) (hp_w h2 cr) b c) (kx1 : ∀ (h2 : hp), GI h2 → FR [(37, 55, none)] h h2 → Q (.inr 1) (hp_w h2 cr) (b - 1) (c - 6)) : wp (md_xa (L, xs)) (d + 5) 84 (0, [(0, .ref 0), (1, vi a0)], [], hp_w h cr, b, c) Q := by
  have F0 : FR [(37, 55, none)] h h := FR.refl
  refine wi_iload_n (i := 1) (e := a0) (nx := 1) (r1 := 0) (r2 := 0) (r3 := 0) rfl rfl ?_
  refine wi_S (rest := []) (as := [vi a0]) (nx := 4) (r1 := 82) (r2 := 17) (r3 := 0) rfl rfl rfl (of_decide_eq_true rfl) rfl rfl (of_decide_eq_true rfl) (of_decide_eq_true rfl) ?_
  refine wi_iload_n (i := 0) (e := a0) (nx := 1) (r1 := 0) (r2 := 0) (r3 := 0) rfl rfl ?_
  refine wi_if (cd := .lt) (nx := 4) (r1 := 11) (r2 := 0) (r3 := 0) rfl (by omega) (fun (q1 : a0 < 0) => ?_) (fun (q1 : ¬ (a0 < 0)) => ?_)
  ·
    refine wr_throw (Ex := 1) (nx := 14) (r1 := 1) (r2 := 0) (r3 := 1) rfl (by decide) rfl hr (by decide) ?_
    refine wk_x rfl ?_
    exact kx1 h g F0
  ·
    refine wi_iload_n (i := 0) (e := a0) (nx := 5) (r1 := 0) (r2 := 0) (r3 := 0) rfl rfl ?_
    refine wi_sipush (n := 300) (nx := 8) (r1 := 0) (r2 := 0) (r3 := 0) rfl (by decide) ?_
    refine wi_icmp (cd := .le) (nx := 11) (r1 := 22) (r2 := 0) (r3 := 0) rfl (by omega) (by omega) (fun (q2 : a0 ≤ 300) => ?_) (fun (q2 : ¬ (a0 ≤ 300)) => ?_)
    ·
      refine wi_return (nx := 23) (r1 := 0) (r2 := 0) (r3 := 0) rfl rfl ?_
      refine wk_n ?_
      refine wi_aload_n (i := 0) (x := 0) (nx := 5) (r1 := 0) (r2 := 0) (r3 := 0) rfl rfl ?_
      refine wi_iload_n (i := 1) (e := a0) (nx := 6) (r1 := 0) (r2 := 0) (r3 := 0) rfl rfl ?_
      refine wi_iconst (n := (-1)) (nx := 7) (r1 := 0) (r2 := 0) (r3 := 0) rfl ?_
      refine wr_V (k0 := 0) (rest := []) (as := [.ref 0, vi a0, vi (-1)]) (nx := 10) (r1 := 83) (r2 := 2) (r3 := 0) rfl rfl rfl (of_decide_eq_true rfl) rfl rfl (by decide) rfl rfl (of_decide_eq_true rfl) (of_decide_eq_true rfl) ?_
      refine ct_83_0 hcr  g a0 (-1) (by omega) (by omega)  (fun h3 z4 g3 u3 (fz4 : -2147483648 ≤ z4 ∧ z4 ≤ 2147483647) => ?_)
      have F5 := F0.then (by decide +kernel) u3
      refine wk_i ?_
      refine wi_pop (nx := 11) (r1 := 0) (r2 := 0) (r3 := 0) rfl rfl ?_
      refine wi_aload_n (i := 0) (x := 0) (nx := 12) (r1 := 0) (r2 := 0) (r3 := 0) rfl rfl ?_
      refine wr_gr (k0 := 0) (x := 37) (nx := 15) (r1 := 0) (r2 := 4) (r3 := 0) rfl rfl (by decide) rfl ⟨rfl, rfl⟩ rfl ?_
      refine wr_gr (k0 := 37) (x := 45) (nx := 18) (r1 := 4) (r2 := 6) (r3 := 0) rfl rfl (by decide) rfl ⟨rfl, rfl⟩ rfl ?_
      have b6 := gi_b (lo := 0) (hi := 12) g3 45 1 rfl
      refine wr_gi0 (k0 := 45) (x := h3 45 1) (nx := 21) (r1 := 5) (r2 := 1) (r3 := 0) rfl rfl (by decide) rfl ⟨rfl, rfl⟩ rfl rfl ?_
      refine wi_ireturn (nx := 22) (r1 := 0) (r2 := 0) (r3 := 0) rfl rfl ?_
      exact k h3 (h3 45 1) g3 F5 (by omega)
    ·
      refine wr_throw (Ex := 1) (nx := 14) (r1 := 1) (r2 := 0) (r3 := 1) rfl (by decide) rfl hr (by decide) ?_
      refine wk_x rfl ?_
      exact kx1 h g F0
-- method 39: Bank.run()I
set_option maxRecDepth 100000 in
set_option maxHeartbeats 100000000 in
theorem ct_39_0 {L : Nat} {xs : Nat → Int32} {d b c : Nat} {h : hp} {cr : Nat → Nat → Option Nat} {Q : hp_Q} (hcr : CR cr)  (g : GI h)    (k : ∀ (z0 : Int), (-2147483648 ≤ z0 ∧ z0 ≤ 2147483647) → Q (.inl (some (vi z0))) (hp_w h cr) b c) : wp (md_xa (L, xs)) d 39 (0, [(0, .ref 0)], [], hp_w h cr, b, c) Q := by
  have F0 : FR [] h h := FR.refl
  refine wi_aload_n (i := 0) (x := 0) (nx := 1) (r1 := 0) (r2 := 0) (r3 := 0) rfl rfl ?_
  refine wr_gr (k0 := 0) (x := 18) (nx := 4) (r1 := 0) (r2 := 3) (r3 := 0) rfl rfl (by decide) rfl ⟨rfl, rfl⟩ rfl ?_
  have b1 := gi_b (lo := -2147483648) (hi := 2147483647) g 18 9 rfl
  refine wr_gi0 (k0 := 18) (x := h 18 9) (nx := 7) (r1 := 4) (r2 := 9) (r3 := 0) rfl rfl (by decide) rfl ⟨rfl, rfl⟩ rfl rfl ?_
  refine wi_ireturn (nx := 8) (r1 := 0) (r2 := 0) (r3 := 0) rfl rfl ?_
  exact k (h 18 9) (by omega)
-- method 184: Script.add(LPaintBank$Word;I)V
set_option maxRecDepth 100000 in
set_option maxHeartbeats 100000000 in
theorem ct_184_68 {L : Nat} {xs : Nat → Int32} {d b c : Nat} {h : hp} {cr : Nat → Nat → Option Nat} {Q : hp_Q} (hcr : CR cr)  (g : GI h) (a0 : Int) (a1 : Int) (q0_ : 1 ≤ a0 ∧ a0 ≤ 21) (q1_ : -2147483648 ≤ a1 ∧ a1 ≤ 2147483647)  (k : ∀ (h2 : hp) , GI h2 → FR [(69, 69, none), (70, 70, none), (68, 68, some (10, 10))] h h2 → Q (.inl none) (hp_w h2 cr) b c) : wp (md_xa (L, xs)) d 184 (0, [(0, .ref 68), (1, wv a0), (2, vi a1)], [], hp_w h cr, b, c) Q := by
  have F0 : FR [(69, 69, none), (70, 70, none), (68, 68, some (10, 10))] h h := FR.refl
  refine wi_aload_n (i := 0) (x := 68) (nx := 1) (r1 := 0) (r2 := 0) (r3 := 0) rfl rfl ?_
  have b1 := gi_b (lo := 0) (hi := 80) g 68 10 rfl
  refine wr_gi0 (k0 := 68) (x := h 68 10) (nx := 4) (r1 := 8) (r2 := 10) (r3 := 0) rfl rfl (by decide) rfl ⟨rfl, rfl⟩ rfl rfl ?_
  refine wi_aload_n (i := 0) (x := 68) (nx := 5) (r1 := 0) (r2 := 0) (r3 := 0) rfl rfl ?_
  refine wr_gr (k0 := 68) (x := 69) (nx := 8) (r1 := 8) (r2 := 4) (r3 := 0) rfl rfl (by decide) rfl ⟨rfl, rfl⟩ rfl ?_
  refine wr_al (k0 := 69) (e := 80) (nx := 9) (r1 := 0) (r2 := 0) (r3 := 0) rfl (by decide) rfl rfl ?_
  refine wi_icmp (cd := .ge) (nx := 12) (r1 := 42) (r2 := 0) (r3 := 0) rfl (by omega) (by omega) (fun (q2 : 80 ≤ (h 68 10)) => ?_) (fun (q2 : ¬ (80 ≤ (h 68 10))) => ?_)
  ·
    refine wi_return (nx := 43) (r1 := 0) (r2 := 0) (r3 := 0) rfl rfl ?_
    exact k h g F0
  ·
    refine wi_aload_n (i := 0) (x := 68) (nx := 13) (r1 := 0) (r2 := 0) (r3 := 0) rfl rfl ?_
    refine wr_gr (k0 := 68) (x := 69) (nx := 16) (r1 := 8) (r2 := 4) (r3 := 0) rfl rfl (by decide) rfl ⟨rfl, rfl⟩ rfl ?_
    refine wi_aload_n (i := 0) (x := 68) (nx := 17) (r1 := 0) (r2 := 0) (r3 := 0) rfl rfl ?_
    refine wr_gi0 (k0 := 68) (x := h 68 10) (nx := 20) (r1 := 8) (r2 := 10) (r3 := 0) rfl rfl (by decide) rfl ⟨rfl, rfl⟩ rfl rfl ?_
    refine wi_aload_n (i := 1) (x := mm_XB + (a0 : Int).toNat) (nx := 21) (r1 := 0) (r2 := 0) (r3 := 0) rfl rfl ?_
    obtain ⟨i3, ei3⟩ : ∃ q : Nat, (h 68 10) = (q : Int) := ⟨(h 68 10).toNat, by omega⟩
    refine wr_as (k0 := 69) (a := h 68 10) (f := i3) (x := a0) (bl := 1) (bh := 21) (nx := 22) (r1 := 0) (r2 := 0) (r3 := 0) rfl (by decide) rfl (by omega) (by omega) (by omega) (by decide) g rfl (by omega) (fun h4 g4 w4 u4 => ?_)
    have F5 := F0.then rfl (FR.rngp (lo := 69) (hi := 69) u4 (by decide))
    refine wi_aload_n (i := 0) (x := 68) (nx := 23) (r1 := 0) (r2 := 0) (r3 := 0) rfl rfl ?_
    refine wr_gr (k0 := 68) (x := 70) (nx := 26) (r1 := 8) (r2 := 5) (r3 := 0) rfl rfl (by decide) rfl ⟨rfl, rfl⟩ rfl ?_
    refine wi_aload_n (i := 0) (x := 68) (nx := 27) (r1 := 0) (r2 := 0) (r3 := 0) rfl rfl ?_
    refine wr_gi0 (k0 := 68) (x := h 68 10) (nx := 30) (r1 := 8) (r2 := 10) (r3 := 0) rfl rfl (by decide) rfl ⟨rfl, rfl⟩ rfl (u4 68 10 (fn_a (by omega) fn_0)) ?_
    refine wi_iload_n (i := 2) (e := a1) (nx := 31) (r1 := 0) (r2 := 0) (r3 := 0) rfl rfl ?_
    refine wr_is (k0 := 70) (a := h 68 10) (f := i3) (x := a1) (bl := -2147483648) (bh := 2147483647) (nx := 32) (r1 := 0) (r2 := 0) (r3 := 0) rfl (by decide) rfl (by omega) (by omega) (by decide) g4 rfl (by omega) (fun h6 g6 w6 u6 => ?_)
    have F7 := F5.then rfl (FR.rngp (lo := 70) (hi := 70) u6 (by decide))
    refine wi_aload_n (i := 0) (x := 68) (nx := 33) (r1 := 0) (r2 := 0) (r3 := 0) rfl rfl ?_
    refine wi_dup (nx := 34) (r1 := 0) (r2 := 0) (r3 := 0) rfl rfl ?_
    refine wr_gi0 (k0 := 68) (x := h 68 10) (nx := 37) (r1 := 8) (r2 := 10) (r3 := 0) rfl rfl (by decide) rfl ⟨rfl, rfl⟩ rfl ((u6 68 10 (fn_a (by omega) fn_0)).trans (u4 68 10 (fn_a (by omega) fn_0))) ?_
    refine wi_iconst (n := 1) (nx := 38) (r1 := 0) (r2 := 0) (r3 := 0) rfl ?_
    refine wr_add (nx := 39) (r1 := 0) (r2 := 0) (r3 := 0) rfl (fun e8 (fe8 : e8 = (h 68 10) + 1) => ?_)
    refine wr_pf0 (k0 := 68) (x := e8) (bl := 0) (bh := 80) (nx := 42) (r1 := 8) (r2 := 10) (r3 := 0) rfl (by decide) rfl ⟨rfl, rfl⟩ rfl rfl g6 rfl (by omega) (fun h9 g9 w9 u9 => ?_)
    have F10 := F7.then rfl u9
    refine wi_return (nx := 43) (r1 := 0) (r2 := 0) (r3 := 0) rfl rfl ?_
    exact k h9 g9 F10
-- method 106: Text.takeOpening()Z
set_option maxRecDepth 100000 in
set_option maxHeartbeats 100000000 in
theorem ct_106_1 {L : Nat} {xs : Nat → Int32} {d b c : Nat} {h : hp} {cr : Nat → Nat → Option Nat} {Q : hp_Q} (hcr : CR cr)  (g : GI h)    (k : ∀ (h2 : hp) (z0 : Int) , GI h2 → FR [(1, 1, some (2, 2)), (1, 1, some (3, 3)), (1, 1, some (4, 4)), (1, 1, some (5, 5)), (1, 1, some (6, 6)), (1, 1, some (7, 7)), (1, 1, some (8, 8)), (1, 1, some (9, 9))] h h2 → (0 ≤ z0 ∧ z0 ≤ 1) → Q (.inl (some (vi z0))) (hp_w h2 cr) b c) : wp (md_xa (L, xs)) (d + 3) 106 (0, [(0, .ref 1)], [], hp_w h cr, b, c) Q := by
  have F0 : FR [(1, 1, some (2, 2)), (1, 1, some (3, 3)), (1, 1, some (4, 4)), (1, 1, some (5, 5)), (1, 1, some (6, 6)), (1, 1, some (7, 7)), (1, 1, some (8, 8)), (1, 1, some (9, 9))] h h := FR.refl
  refine wi_aload_n (i := 0) (x := 1) (nx := 1) (r1 := 0) (r2 := 0) (r3 := 0) rfl rfl ?_
  refine wr_V (k0 := 1) (rest := []) (as := [.ref 1]) (nx := 4) (r1 := 94) (r2 := 0) (r3 := 1) rfl rfl rfl (of_decide_eq_true rfl) rfl rfl (by decide) rfl rfl (of_decide_eq_true rfl) (of_decide_eq_true rfl) ?_
  refine ct_94_1 hcr  g    (fun h1 g1 u1 => ?_)
  have F2 := F0.then (by decide +kernel) u1
  refine wk_n ?_
  refine wi_aload_n (i := 0) (x := 1) (nx := 5) (r1 := 0) (r2 := 0) (r3 := 0) rfl rfl ?_
  have b3 := gi_b (lo := 0) (hi := 6) g1 1 5 rfl
  refine wr_gi0 (k0 := 1) (x := h1 1 5) (nx := 8) (r1 := 1) (r2 := 5) (r3 := 0) rfl rfl (by decide) rfl ⟨rfl, rfl⟩ rfl rfl ?_
  refine wi_iconst (n := 4) (nx := 9) (r1 := 0) (r2 := 0) (r3 := 0) rfl ?_
  refine wi_icmp (cd := .eq) (nx := 12) (r1 := 20) (r2 := 0) (r3 := 0) rfl (by omega) (by omega) (fun (q4 : (h1 1 5) = 4) => ?_) (fun (q4 : ¬ ((h1 1 5) = 4)) => ?_)
  ·
    refine wi_iconst (n := 1) (nx := 21) (r1 := 0) (r2 := 0) (r3 := 0) rfl ?_
    refine wi_goto (nx := 24) (r1 := 25) (r2 := 0) (r3 := 0) rfl ?_
    refine wi_zreturn (nx := 26) (r1 := 0) (r2 := 0) (r3 := 0) rfl rfl (by omega) ?_
    exact k h1 1 g1 F2 (by omega)
  ·
    refine wi_aload_n (i := 0) (x := 1) (nx := 13) (r1 := 0) (r2 := 0) (r3 := 0) rfl rfl ?_
    refine wi_iconst (n := 1) (nx := 14) (r1 := 0) (r2 := 0) (r3 := 0) rfl ?_
    refine wr_V (k0 := 1) (rest := []) (as := [.ref 1, vi 1]) (nx := 17) (r1 := 101) (r2 := 1) (r3 := 1) rfl rfl rfl (of_decide_eq_true rfl) rfl rfl (by decide) rfl rfl (of_decide_eq_true rfl) (of_decide_eq_true rfl) ?_
    refine ct_101_1 hcr  g1 1 (by omega)  (fun h5 z6 g5 u5 (fz6 : 0 ≤ z6 ∧ z6 ≤ 0) => ?_)
    have F7 := F2.then (by decide +kernel) u5
    refine wk_i ?_
    refine wi_if (cd := .eq) (nx := 20) (r1 := 24) (r2 := 0) (r3 := 0) rfl (by omega) (fun (q8 : z6 = 0) => ?_) (fun (q8 : ¬ (z6 = 0)) => by exfalso; omega)
    refine wi_iconst (n := 0) (nx := 25) (r1 := 0) (r2 := 0) (r3 := 0) rfl ?_
    refine wi_zreturn (nx := 26) (r1 := 0) (r2 := 0) (r3 := 0) rfl rfl (by omega) ?_
    exact k h5 0 g5 F7 (by omega)
-- method 185: Script.readCommand()Z
set_option maxRecDepth 100000 in
set_option maxHeartbeats 100000000 in
theorem ct_185_68 {L : Nat} {xs : Nat → Int32} {d b c : Nat} {h : hp} {cr : Nat → Nat → Option Nat} {Q : hp_Q} (hcr : CR cr)  (g : GI h)    (k : ∀ (h2 : hp) (z0 : Int) , GI h2 → FR [(69, 69, none), (70, 70, none), (72, 72, none), (1, 1, some (2, 2)), (1, 1, some (3, 3)), (1, 1, some (4, 4)), (1, 1, some (5, 5)), (1, 1, some (6, 6)), (1, 1, some (7, 7)), (1, 1, some (8, 8)), (1, 1, some (9, 9)), (68, 68, some (8, 8)), (68, 68, some (9, 9)), (68, 68, some (10, 10))] h h2 → (0 ≤ z0 ∧ z0 ≤ 1) → Q (.inl (some (vi z0))) (hp_w h2 cr) b c) : wp (md_xa (L, xs)) (d + 4) 185 (0, [(0, .ref 68)], [], hp_w h cr, b, c) Q := by
  have F0 : FR [(69, 69, none), (70, 70, none), (72, 72, none), (1, 1, some (2, 2)), (1, 1, some (3, 3)), (1, 1, some (4, 4)), (1, 1, some (5, 5)), (1, 1, some (6, 6)), (1, 1, some (7, 7)), (1, 1, some (8, 8)), (1, 1, some (9, 9)), (68, 68, some (8, 8)), (68, 68, some (9, 9)), (68, 68, some (10, 10))] h h := FR.refl
  refine wi_aload_n (i := 0) (x := 68) (nx := 1) (r1 := 0) (r2 := 0) (r3 := 0) rfl rfl ?_
  refine wr_gr (k0 := 68) (x := 1) (nx := 4) (r1 := 8) (r2 := 0) (r3 := 0) rfl rfl (by decide) rfl ⟨rfl, rfl⟩ rfl ?_
  have b1 := gi_b (lo := 1) (hi := 21) g 1 9 rfl
  refine wr_gi3 (k0 := 1) (x := h 1 9) (nx := 7) (r1 := 1) (r2 := 9) (r3 := 0) rfl rfl (by decide) rfl ⟨rfl, rfl⟩ rfl rfl ?_
  refine wi_astore_n (i := 1) (x := mm_XB + (h 1 9 : Int).toNat) (lo2 := [(1, wv (h 1 9)), (0, .ref 68)]) (nx := 8) (r1 := 0) (r2 := 0) (r3 := 0) rfl rfl ?_
  refine wi_aload_n (i := 0) (x := 68) (nx := 9) (r1 := 0) (r2 := 0) (r3 := 0) rfl rfl ?_
  refine wr_gr (k0 := 68) (x := 1) (nx := 12) (r1 := 8) (r2 := 0) (r3 := 0) rfl rfl (by decide) rfl ⟨rfl, rfl⟩ rfl ?_
  have b2 := gi_b (lo := 0) (hi := 6) g 1 5 rfl
  refine wr_gi0 (k0 := 1) (x := h 1 5) (nx := 15) (r1 := 1) (r2 := 5) (r3 := 0) rfl rfl (by decide) rfl ⟨rfl, rfl⟩ rfl rfl ?_
  refine wi_iconst (n := 1) (nx := 16) (r1 := 0) (r2 := 0) (r3 := 0) rfl ?_
  refine wi_icmp (cd := .ne) (nx := 19) (r1 := 26) (r2 := 0) (r3 := 0) rfl (by omega) (by omega) (fun (q3 : (h 1 5) ≠ 1) => ?_) (fun (q3 : ¬ ((h 1 5) ≠ 1)) => ?_)
  ·
    refine wi_aload_n (i := 0) (x := 68) (nx := 27) (r1 := 0) (r2 := 0) (r3 := 0) rfl rfl ?_
    refine wr_gr (k0 := 68) (x := 1) (nx := 30) (r1 := 8) (r2 := 0) (r3 := 0) rfl rfl (by decide) rfl ⟨rfl, rfl⟩ rfl ?_
    refine wi_iconst (n := 1) (nx := 31) (r1 := 0) (r2 := 0) (r3 := 0) rfl ?_
    refine wr_V (k0 := 1) (rest := []) (as := [.ref 1, vi 1]) (nx := 34) (r1 := 101) (r2 := 1) (r3 := 1) rfl rfl rfl (of_decide_eq_true rfl) rfl rfl (by decide) rfl rfl (of_decide_eq_true rfl) (of_decide_eq_true rfl) ?_
    refine ct_101_1 hcr  g 1 (by omega)  (fun h4 z5 g4 u4 (fz5 : 0 ≤ z5 ∧ z5 ≤ 0) => ?_)
    have F6 := F0.then (by decide +kernel) u4
    refine wk_i ?_
    refine wi_zreturn (nx := 35) (r1 := 0) (r2 := 0) (r3 := 0) rfl rfl (by omega) ?_
    exact k h4 z5 g4 F6 (by omega)
  ·
    refine wi_aload_n (i := 1) (x := mm_XB + (h 1 9 : Int).toNat) (nx := 20) (r1 := 0) (r2 := 0) (r3 := 0) rfl rfl ?_
    refine wr_gxw (z := h 1 9) (lw := 0) (hg := 1) (nx := 23) (r1 := 1) (r2 := 0) (r3 := 1) rfl (by decide) (by omega) (by decide) (fun e4 (fe4 : 0 ≤ e4 ∧ e4 ≤ 1) => ?_)
    refine wi_if (cd := .ne) (nx := 26) (r1 := 35) (r2 := 0) (r3 := 0) rfl (by omega) (fun (q5 : e4 ≠ 0) => ?_) (fun (q5 : ¬ (e4 ≠ 0)) => ?_)
    ·
      refine wi_aload_n (i := 1) (x := mm_XB + (h 1 9 : Int).toNat) (nx := 36) (r1 := 0) (r2 := 0) (r3 := 0) rfl rfl ?_
      refine wr_gst (v := wv 20) (nx := 39) (r1 := 19) (r2 := 0) (r3 := 0) rfl rfl rfl ?_
      refine wr_acmp (cd := .ne) (x := h 1 9) (y := 20) (nx := 42) (r1 := 59) (r2 := 0) (r3 := 0) rfl (by omega) (by omega) (fun (q6 : ((h 1 9) = 20 ↔ Jvm.ClassFile.ACond.ne = .eq)) => ?_) (fun (q6 : ¬ ((h 1 9) = 20 ↔ Jvm.ClassFile.ACond.ne = .eq)) => ?_)
      ·
        have q6 : ¬ ((h 1 9) = 20) := by simpa using q6
        refine wi_aload_n (i := 0) (x := 68) (nx := 60) (r1 := 0) (r2 := 0) (r3 := 0) rfl rfl ?_
        have b7 := gi_b (lo := 0) (hi := 40) g 68 9 rfl
        refine wr_gi0 (k0 := 68) (x := h 68 9) (nx := 63) (r1 := 8) (r2 := 9) (r3 := 0) rfl rfl (by decide) rfl ⟨rfl, rfl⟩ rfl rfl ?_
        refine wi_bipush (n := 40) (nx := 65) (r1 := 0) (r2 := 0) (r3 := 0) rfl (by decide) ?_
        refine wi_icmp (cd := .lt) (nx := 68) (r1 := 77) (r2 := 0) (r3 := 0) rfl (by omega) (by omega) (fun (q8 : (h 68 9) < 40) => ?_) (fun (q8 : ¬ ((h 68 9) < 40)) => ?_)
        ·
          refine wi_aload_n (i := 0) (x := 68) (nx := 78) (r1 := 0) (r2 := 0) (r3 := 0) rfl rfl ?_
          refine wi_dup (nx := 79) (r1 := 0) (r2 := 0) (r3 := 0) rfl rfl ?_
          refine wr_gi0 (k0 := 68) (x := h 68 9) (nx := 82) (r1 := 8) (r2 := 9) (r3 := 0) rfl rfl (by decide) rfl ⟨rfl, rfl⟩ rfl rfl ?_
          refine wi_iconst (n := 1) (nx := 83) (r1 := 0) (r2 := 0) (r3 := 0) rfl ?_
          refine wr_add (nx := 84) (r1 := 0) (r2 := 0) (r3 := 0) rfl (fun e9 (fe9 : e9 = (h 68 9) + 1) => ?_)
          refine wr_pf0 (k0 := 68) (x := e9) (bl := 0) (bh := 40) (nx := 87) (r1 := 8) (r2 := 9) (r3 := 0) rfl (by decide) rfl ⟨rfl, rfl⟩ rfl rfl g rfl (by omega) (fun h10 g10 w10 u10 => ?_)
          have F11 := F0.then rfl u10
          refine wi_aload_n (i := 1) (x := mm_XB + (h 1 9 : Int).toNat) (nx := 88) (r1 := 0) (r2 := 0) (r3 := 0) rfl rfl ?_
          refine wr_gxw (z := h 1 9) (lw := 0) (hg := 99) (nx := 91) (r1 := 3) (r2 := 0) (r3 := 1) rfl (by decide) (by omega) (by decide) (fun e12 (fe12 : 0 ≤ e12 ∧ e12 ≤ 99) => ?_)
          refine wi_if (cd := .le) (nx := 94) (r1 := 114) (r2 := 0) (r3 := 0) rfl (by omega) (fun (q13 : e12 ≤ 0) => ?_) (fun (q13 : ¬ (e12 ≤ 0)) => ?_)
          ·
            refine wi_aload_n (i := 0) (x := 68) (nx := 115) (r1 := 0) (r2 := 0) (r3 := 0) rfl rfl ?_
            refine wi_aload_n (i := 1) (x := mm_XB + (h 1 9 : Int).toNat) (nx := 116) (r1 := 0) (r2 := 0) (r3 := 0) rfl rfl ?_
            refine wi_aload_n (i := 0) (x := 68) (nx := 117) (r1 := 0) (r2 := 0) (r3 := 0) rfl rfl ?_
            refine wr_gr (k0 := 68) (x := 1) (nx := 120) (r1 := 8) (r2 := 0) (r3 := 0) rfl rfl (by decide) rfl ⟨rfl, rfl⟩ rfl ?_
            have b14 := gi_b (lo := -2147483648) (hi := 2147483647) g 1 7 rfl
            refine wr_gi0 (k0 := 1) (x := h 1 7) (nx := 123) (r1 := 1) (r2 := 7) (r3 := 0) rfl rfl (by decide) rfl ⟨rfl, rfl⟩ rfl (u10 1 7 rfl) ?_
            refine wr_V (k0 := 68) (rest := []) (as := [.ref 68, wv (h 1 9), vi (h 1 7)]) (nx := 126) (r1 := 184) (r2 := 2) (r3 := 8) rfl rfl rfl (of_decide_eq_true rfl) rfl rfl (by decide) rfl rfl (of_decide_eq_true rfl) (of_decide_eq_true rfl) ?_
            refine ct_184_68 hcr  g10 (h 1 9) (h 1 7) (by omega) (by omega)  (fun h15 g15 u15 => ?_)
            have F16 := F11.then (by decide +kernel) u15
            refine wk_n ?_
            refine wi_aload_n (i := 1) (x := mm_XB + (h 1 9 : Int).toNat) (nx := 127) (r1 := 0) (r2 := 0) (r3 := 0) rfl rfl ?_
            refine wr_gst (v := wv 20) (nx := 130) (r1 := 19) (r2 := 0) (r3 := 0) rfl rfl rfl ?_
            refine wr_acmp (cd := .ne) (x := h 1 9) (y := 20) (nx := 133) (r1 := 166) (r2 := 0) (r3 := 0) rfl (by omega) (by omega) (fun _ => ?_) (fun q17 => by exfalso; have q17 := (by simpa using q17 : ((h 1 9) = 20)); omega)
            refine wi_aload_n (i := 0) (x := 68) (nx := 167) (r1 := 0) (r2 := 0) (r3 := 0) rfl rfl ?_
            refine wr_gr (k0 := 68) (x := 1) (nx := 170) (r1 := 8) (r2 := 0) (r3 := 0) rfl rfl (by decide) rfl ⟨rfl, rfl⟩ rfl ?_
            refine wr_V (k0 := 1) (rest := []) (as := [.ref 1]) (nx := 173) (r1 := 105) (r2 := 0) (r3 := 1) rfl rfl rfl (of_decide_eq_true rfl) rfl rfl (by decide) rfl rfl (of_decide_eq_true rfl) (of_decide_eq_true rfl) ?_
            refine ct_105_1 hcr  g15    (fun h18 z19 g18 u18 (fz19 : 0 ≤ z19 ∧ z19 ≤ 1) => ?_)
            have F20 := F16.then (by decide +kernel) u18
            refine wk_i ?_
            refine wi_zreturn (nx := 174) (r1 := 0) (r2 := 0) (r3 := 0) rfl rfl (by omega) ?_
            exact k h18 z19 g18 F20 (by omega)
          ·
            refine wi_aload_n (i := 0) (x := 68) (nx := 95) (r1 := 0) (r2 := 0) (r3 := 0) rfl rfl ?_
            refine wr_gr (k0 := 68) (x := 1) (nx := 98) (r1 := 8) (r2 := 0) (r3 := 0) rfl rfl (by decide) rfl ⟨rfl, rfl⟩ rfl ?_
            refine wi_aload_n (i := 1) (x := mm_XB + (h 1 9 : Int).toNat) (nx := 99) (r1 := 0) (r2 := 0) (r3 := 0) rfl rfl ?_
            refine wr_gxw (z := h 1 9) (lw := 0) (hg := 1) (nx := 102) (r1 := 2) (r2 := 0) (r3 := 1) rfl (by decide) (by omega) (by decide) (fun e14 (fe14 : 0 ≤ e14 ∧ e14 ≤ 1) => ?_)
            refine wi_aload_n (i := 1) (x := mm_XB + (h 1 9 : Int).toNat) (nx := 103) (r1 := 0) (r2 := 0) (r3 := 0) rfl rfl ?_
            refine wr_gxw (z := h 1 9) (lw := 0) (hg := 99) (nx := 106) (r1 := 3) (r2 := 0) (r3 := 1) rfl (by decide) (by omega) (by decide) (fun e15 (fe15 : 0 ≤ e15 ∧ e15 ≤ 99) => ?_)
            refine wr_V (k0 := 1) (rest := []) (as := [.ref 1, vi e14, vi e15]) (nx := 109) (r1 := 103) (r2 := 2) (r3 := 1) rfl rfl rfl (of_decide_eq_true rfl) rfl rfl (by decide) rfl rfl (of_decide_eq_true rfl) (of_decide_eq_true rfl) ?_
            refine ct_103_1 hcr  g10 e14 e15 (by omega) (by omega)  (fun h16 z17 g16 u16 (fz17 : 0 ≤ z17 ∧ z17 ≤ 1) => ?_)
            have F18 := F11.then (by decide +kernel) u16
            refine wk_i ?_
            refine wi_if (cd := .ne) (nx := 112) (r1 := 114) (r2 := 0) (r3 := 0) rfl (by omega) (fun (q19 : z17 ≠ 0) => ?_) (fun (q19 : ¬ (z17 ≠ 0)) => ?_)
            ·
              refine wi_aload_n (i := 0) (x := 68) (nx := 115) (r1 := 0) (r2 := 0) (r3 := 0) rfl rfl ?_
              refine wi_aload_n (i := 1) (x := mm_XB + (h 1 9 : Int).toNat) (nx := 116) (r1 := 0) (r2 := 0) (r3 := 0) rfl rfl ?_
              refine wi_aload_n (i := 0) (x := 68) (nx := 117) (r1 := 0) (r2 := 0) (r3 := 0) rfl rfl ?_
              refine wr_gr (k0 := 68) (x := 1) (nx := 120) (r1 := 8) (r2 := 0) (r3 := 0) rfl rfl (by decide) rfl ⟨rfl, rfl⟩ rfl ?_
              have b20 := gi_b (lo := -2147483648) (hi := 2147483647) g16 1 7 rfl
              refine wr_gi0 (k0 := 1) (x := h16 1 7) (nx := 123) (r1 := 1) (r2 := 7) (r3 := 0) rfl rfl (by decide) rfl ⟨rfl, rfl⟩ rfl rfl ?_
              refine wr_V (k0 := 68) (rest := []) (as := [.ref 68, wv (h 1 9), vi (h16 1 7)]) (nx := 126) (r1 := 184) (r2 := 2) (r3 := 8) rfl rfl rfl (of_decide_eq_true rfl) rfl rfl (by decide) rfl rfl (of_decide_eq_true rfl) (of_decide_eq_true rfl) ?_
              refine ct_184_68 hcr  g16 (h 1 9) (h16 1 7) (by omega) (by omega)  (fun h21 g21 u21 => ?_)
              have F22 := F18.then (by decide +kernel) u21
              refine wk_n ?_
              refine wi_aload_n (i := 1) (x := mm_XB + (h 1 9 : Int).toNat) (nx := 127) (r1 := 0) (r2 := 0) (r3 := 0) rfl rfl ?_
              refine wr_gst (v := wv 20) (nx := 130) (r1 := 19) (r2 := 0) (r3 := 0) rfl rfl rfl ?_
              refine wr_acmp (cd := .ne) (x := h 1 9) (y := 20) (nx := 133) (r1 := 166) (r2 := 0) (r3 := 0) rfl (by omega) (by omega) (fun _ => ?_) (fun q23 => by exfalso; have q23 := (by simpa using q23 : ((h 1 9) = 20)); omega)
              refine wi_aload_n (i := 0) (x := 68) (nx := 167) (r1 := 0) (r2 := 0) (r3 := 0) rfl rfl ?_
              refine wr_gr (k0 := 68) (x := 1) (nx := 170) (r1 := 8) (r2 := 0) (r3 := 0) rfl rfl (by decide) rfl ⟨rfl, rfl⟩ rfl ?_
              refine wr_V (k0 := 1) (rest := []) (as := [.ref 1]) (nx := 173) (r1 := 105) (r2 := 0) (r3 := 1) rfl rfl rfl (of_decide_eq_true rfl) rfl rfl (by decide) rfl rfl (of_decide_eq_true rfl) (of_decide_eq_true rfl) ?_
              refine ct_105_1 hcr  g21    (fun h24 z25 g24 u24 (fz25 : 0 ≤ z25 ∧ z25 ≤ 1) => ?_)
              have F26 := F22.then (by decide +kernel) u24
              refine wk_i ?_
              refine wi_zreturn (nx := 174) (r1 := 0) (r2 := 0) (r3 := 0) rfl rfl (by omega) ?_
              exact k h24 z25 g24 F26 (by omega)
            ·
              refine wi_iconst (n := 0) (nx := 113) (r1 := 0) (r2 := 0) (r3 := 0) rfl ?_
              refine wi_zreturn (nx := 114) (r1 := 0) (r2 := 0) (r3 := 0) rfl rfl (by omega) ?_
              exact k h16 0 g16 F18 (by omega)
        ·
          refine wi_aload_n (i := 0) (x := 68) (nx := 69) (r1 := 0) (r2 := 0) (r3 := 0) rfl rfl ?_
          refine wr_gr (k0 := 68) (x := 1) (nx := 72) (r1 := 8) (r2 := 0) (r3 := 0) rfl rfl (by decide) rfl ⟨rfl, rfl⟩ rfl ?_
          refine wi_iconst (n := 5) (nx := 73) (r1 := 0) (r2 := 0) (r3 := 0) rfl ?_
          refine wr_V (k0 := 1) (rest := []) (as := [.ref 1, vi 5]) (nx := 76) (r1 := 101) (r2 := 1) (r3 := 1) rfl rfl rfl (of_decide_eq_true rfl) rfl rfl (by decide) rfl rfl (of_decide_eq_true rfl) (of_decide_eq_true rfl) ?_
          refine ct_101_1 hcr  g 5 (by omega)  (fun h9 z10 g9 u9 (fz10 : 0 ≤ z10 ∧ z10 ≤ 0) => ?_)
          have F11 := F0.then (by decide +kernel) u9
          refine wk_i ?_
          refine wi_zreturn (nx := 77) (r1 := 0) (r2 := 0) (r3 := 0) rfl rfl (by omega) ?_
          exact k h9 z10 g9 F11 (by omega)
      ·
        have q6 : ((h 1 9) = 20) := by simpa using q6
        refine wi_aload_n (i := 0) (x := 68) (nx := 43) (r1 := 0) (r2 := 0) (r3 := 0) rfl rfl ?_
        have b7 := gi_b (lo := 0) (hi := 2) g 68 8 rfl
        refine wr_gi0 (k0 := 68) (x := h 68 8) (nx := 46) (r1 := 8) (r2 := 8) (r3 := 0) rfl rfl (by decide) rfl ⟨rfl, rfl⟩ rfl rfl ?_
        refine wi_iconst (n := 2) (nx := 47) (r1 := 0) (r2 := 0) (r3 := 0) rfl ?_
        refine wi_icmp (cd := .lt) (nx := 50) (r1 := 59) (r2 := 0) (r3 := 0) rfl (by omega) (by omega) (fun (q8 : (h 68 8) < 2) => ?_) (fun (q8 : ¬ ((h 68 8) < 2)) => ?_)
        ·
          refine wi_aload_n (i := 0) (x := 68) (nx := 60) (r1 := 0) (r2 := 0) (r3 := 0) rfl rfl ?_
          have b9 := gi_b (lo := 0) (hi := 40) g 68 9 rfl
          refine wr_gi0 (k0 := 68) (x := h 68 9) (nx := 63) (r1 := 8) (r2 := 9) (r3 := 0) rfl rfl (by decide) rfl ⟨rfl, rfl⟩ rfl rfl ?_
          refine wi_bipush (n := 40) (nx := 65) (r1 := 0) (r2 := 0) (r3 := 0) rfl (by decide) ?_
          refine wi_icmp (cd := .lt) (nx := 68) (r1 := 77) (r2 := 0) (r3 := 0) rfl (by omega) (by omega) (fun (q10 : (h 68 9) < 40) => ?_) (fun (q10 : ¬ ((h 68 9) < 40)) => ?_)
          ·
            refine wi_aload_n (i := 0) (x := 68) (nx := 78) (r1 := 0) (r2 := 0) (r3 := 0) rfl rfl ?_
            refine wi_dup (nx := 79) (r1 := 0) (r2 := 0) (r3 := 0) rfl rfl ?_
            refine wr_gi0 (k0 := 68) (x := h 68 9) (nx := 82) (r1 := 8) (r2 := 9) (r3 := 0) rfl rfl (by decide) rfl ⟨rfl, rfl⟩ rfl rfl ?_
            refine wi_iconst (n := 1) (nx := 83) (r1 := 0) (r2 := 0) (r3 := 0) rfl ?_
            refine wr_add (nx := 84) (r1 := 0) (r2 := 0) (r3 := 0) rfl (fun e11 (fe11 : e11 = (h 68 9) + 1) => ?_)
            refine wr_pf0 (k0 := 68) (x := e11) (bl := 0) (bh := 40) (nx := 87) (r1 := 8) (r2 := 9) (r3 := 0) rfl (by decide) rfl ⟨rfl, rfl⟩ rfl rfl g rfl (by omega) (fun h12 g12 w12 u12 => ?_)
            have F13 := F0.then rfl u12
            refine wi_aload_n (i := 1) (x := mm_XB + (h 1 9 : Int).toNat) (nx := 88) (r1 := 0) (r2 := 0) (r3 := 0) rfl rfl ?_
            refine wr_gxw (z := h 1 9) (lw := 0) (hg := 99) (nx := 91) (r1 := 3) (r2 := 0) (r3 := 1) rfl (by decide) (by omega) (by decide) (fun e14 (fe14 : 0 ≤ e14 ∧ e14 ≤ 99) => ?_)
            refine wi_if (cd := .le) (nx := 94) (r1 := 114) (r2 := 0) (r3 := 0) rfl (by omega) (fun (q15 : e14 ≤ 0) => ?_) (fun (q15 : ¬ (e14 ≤ 0)) => ?_)
            ·
              refine wi_aload_n (i := 0) (x := 68) (nx := 115) (r1 := 0) (r2 := 0) (r3 := 0) rfl rfl ?_
              refine wi_aload_n (i := 1) (x := mm_XB + (h 1 9 : Int).toNat) (nx := 116) (r1 := 0) (r2 := 0) (r3 := 0) rfl rfl ?_
              refine wi_aload_n (i := 0) (x := 68) (nx := 117) (r1 := 0) (r2 := 0) (r3 := 0) rfl rfl ?_
              refine wr_gr (k0 := 68) (x := 1) (nx := 120) (r1 := 8) (r2 := 0) (r3 := 0) rfl rfl (by decide) rfl ⟨rfl, rfl⟩ rfl ?_
              have b16 := gi_b (lo := -2147483648) (hi := 2147483647) g 1 7 rfl
              refine wr_gi0 (k0 := 1) (x := h 1 7) (nx := 123) (r1 := 1) (r2 := 7) (r3 := 0) rfl rfl (by decide) rfl ⟨rfl, rfl⟩ rfl (u12 1 7 rfl) ?_
              refine wr_V (k0 := 68) (rest := []) (as := [.ref 68, wv (h 1 9), vi (h 1 7)]) (nx := 126) (r1 := 184) (r2 := 2) (r3 := 8) rfl rfl rfl (of_decide_eq_true rfl) rfl rfl (by decide) rfl rfl (of_decide_eq_true rfl) (of_decide_eq_true rfl) ?_
              refine ct_184_68 hcr  g12 (h 1 9) (h 1 7) (by omega) (by omega)  (fun h17 g17 u17 => ?_)
              have F18 := F13.then (by decide +kernel) u17
              refine wk_n ?_
              refine wi_aload_n (i := 1) (x := mm_XB + (h 1 9 : Int).toNat) (nx := 127) (r1 := 0) (r2 := 0) (r3 := 0) rfl rfl ?_
              refine wr_gst (v := wv 20) (nx := 130) (r1 := 19) (r2 := 0) (r3 := 0) rfl rfl rfl ?_
              refine wr_acmp (cd := .ne) (x := h 1 9) (y := 20) (nx := 133) (r1 := 166) (r2 := 0) (r3 := 0) rfl (by omega) (by omega) (fun q19 => by exfalso; have q19 := (by simpa using q19 : ¬ ((h 1 9) = 20)); omega) (fun _ => ?_)
              refine wi_aload_n (i := 0) (x := 68) (nx := 134) (r1 := 0) (r2 := 0) (r3 := 0) rfl rfl ?_
              refine wr_gr (k0 := 68) (x := 72) (nx := 137) (r1 := 8) (r2 := 7) (r3 := 0) rfl rfl (by decide) rfl ⟨rfl, rfl⟩ rfl ?_
              refine wi_aload_n (i := 0) (x := 68) (nx := 138) (r1 := 0) (r2 := 0) (r3 := 0) rfl rfl ?_
              refine wr_gi0 (k0 := 68) (x := h 68 8) (nx := 141) (r1 := 8) (r2 := 8) (r3 := 0) rfl rfl (by decide) rfl ⟨rfl, rfl⟩ rfl ((u17 68 8 rfl).trans (u12 68 8 rfl)) ?_
              refine wi_aload_n (i := 0) (x := 68) (nx := 142) (r1 := 0) (r2 := 0) (r3 := 0) rfl rfl ?_
              have b20 := gi_b (lo := 0) (hi := 80) g17 68 10 rfl
              refine wr_gi0 (k0 := 68) (x := h17 68 10) (nx := 145) (r1 := 8) (r2 := 10) (r3 := 0) rfl rfl (by decide) rfl ⟨rfl, rfl⟩ rfl rfl ?_
              refine wi_iconst (n := 1) (nx := 146) (r1 := 0) (r2 := 0) (r3 := 0) rfl ?_
              refine wr_sub (nx := 147) (r1 := 0) (r2 := 0) (r3 := 0) rfl (fun e21 (fe21 : e21 = (h17 68 10) - 1) => ?_)
              obtain ⟨i22, ei22⟩ : ∃ q : Nat, (h 68 8) = (q : Int) := ⟨(h 68 8).toNat, by omega⟩
              refine wr_is (k0 := 72) (a := h 68 8) (f := i22) (x := e21) (bl := -2147483648) (bh := 2147483647) (nx := 148) (r1 := 0) (r2 := 0) (r3 := 0) rfl (by decide) rfl (by omega) (by omega) (by decide) g17 rfl (by omega) (fun h23 g23 w23 u23 => ?_)
              have F24 := F18.then rfl (FR.rngp (lo := 72) (hi := 72) u23 (by decide))
              refine wi_aload_n (i := 0) (x := 68) (nx := 149) (r1 := 0) (r2 := 0) (r3 := 0) rfl rfl ?_
              refine wi_dup (nx := 150) (r1 := 0) (r2 := 0) (r3 := 0) rfl rfl ?_
              refine wr_gi0 (k0 := 68) (x := h 68 8) (nx := 153) (r1 := 8) (r2 := 8) (r3 := 0) rfl rfl (by decide) rfl ⟨rfl, rfl⟩ rfl ((u23 68 8 (fn_a (by omega) fn_0)).trans ((u17 68 8 rfl).trans (u12 68 8 rfl))) ?_
              refine wi_iconst (n := 1) (nx := 154) (r1 := 0) (r2 := 0) (r3 := 0) rfl ?_
              refine wr_add (nx := 155) (r1 := 0) (r2 := 0) (r3 := 0) rfl (fun e25 (fe25 : e25 = (h 68 8) + 1) => ?_)
              refine wr_pf0 (k0 := 68) (x := e25) (bl := 0) (bh := 2) (nx := 158) (r1 := 8) (r2 := 8) (r3 := 0) rfl (by decide) rfl ⟨rfl, rfl⟩ rfl rfl g23 rfl (by omega) (fun h26 g26 w26 u26 => ?_)
              have F27 := F24.then rfl u26
              refine wi_aload_n (i := 0) (x := 68) (nx := 159) (r1 := 0) (r2 := 0) (r3 := 0) rfl rfl ?_
              refine wr_gr (k0 := 68) (x := 1) (nx := 162) (r1 := 8) (r2 := 0) (r3 := 0) rfl rfl (by decide) rfl ⟨rfl, rfl⟩ rfl ?_
              refine wr_V (k0 := 1) (rest := []) (as := [.ref 1]) (nx := 165) (r1 := 106) (r2 := 0) (r3 := 1) rfl rfl rfl (of_decide_eq_true rfl) rfl rfl (by decide) rfl rfl (of_decide_eq_true rfl) (of_decide_eq_true rfl) ?_
              refine ct_106_1 hcr  g26    (fun h28 z29 g28 u28 (fz29 : 0 ≤ z29 ∧ z29 ≤ 1) => ?_)
              have F30 := F27.then (by decide +kernel) u28
              refine wk_i ?_
              refine wi_zreturn (nx := 166) (r1 := 0) (r2 := 0) (r3 := 0) rfl rfl (by omega) ?_
              exact k h28 z29 g28 F30 (by omega)
            ·
              refine wi_aload_n (i := 0) (x := 68) (nx := 95) (r1 := 0) (r2 := 0) (r3 := 0) rfl rfl ?_
              refine wr_gr (k0 := 68) (x := 1) (nx := 98) (r1 := 8) (r2 := 0) (r3 := 0) rfl rfl (by decide) rfl ⟨rfl, rfl⟩ rfl ?_
              refine wi_aload_n (i := 1) (x := mm_XB + (h 1 9 : Int).toNat) (nx := 99) (r1 := 0) (r2 := 0) (r3 := 0) rfl rfl ?_
              refine wr_gxw (z := h 1 9) (lw := 0) (hg := 1) (nx := 102) (r1 := 2) (r2 := 0) (r3 := 1) rfl (by decide) (by omega) (by decide) (fun e16 (fe16 : 0 ≤ e16 ∧ e16 ≤ 1) => ?_)
              refine wi_aload_n (i := 1) (x := mm_XB + (h 1 9 : Int).toNat) (nx := 103) (r1 := 0) (r2 := 0) (r3 := 0) rfl rfl ?_
              refine wr_gxw (z := h 1 9) (lw := 0) (hg := 99) (nx := 106) (r1 := 3) (r2 := 0) (r3 := 1) rfl (by decide) (by omega) (by decide) (fun e17 (fe17 : 0 ≤ e17 ∧ e17 ≤ 99) => ?_)
              refine wr_V (k0 := 1) (rest := []) (as := [.ref 1, vi e16, vi e17]) (nx := 109) (r1 := 103) (r2 := 2) (r3 := 1) rfl rfl rfl (of_decide_eq_true rfl) rfl rfl (by decide) rfl rfl (of_decide_eq_true rfl) (of_decide_eq_true rfl) ?_
              refine ct_103_1 hcr  g12 e16 e17 (by omega) (by omega)  (fun h18 z19 g18 u18 (fz19 : 0 ≤ z19 ∧ z19 ≤ 1) => ?_)
              have F20 := F13.then (by decide +kernel) u18
              refine wk_i ?_
              refine wi_if (cd := .ne) (nx := 112) (r1 := 114) (r2 := 0) (r3 := 0) rfl (by omega) (fun (q21 : z19 ≠ 0) => ?_) (fun (q21 : ¬ (z19 ≠ 0)) => ?_)
              ·
                refine wi_aload_n (i := 0) (x := 68) (nx := 115) (r1 := 0) (r2 := 0) (r3 := 0) rfl rfl ?_
                refine wi_aload_n (i := 1) (x := mm_XB + (h 1 9 : Int).toNat) (nx := 116) (r1 := 0) (r2 := 0) (r3 := 0) rfl rfl ?_
                refine wi_aload_n (i := 0) (x := 68) (nx := 117) (r1 := 0) (r2 := 0) (r3 := 0) rfl rfl ?_
                refine wr_gr (k0 := 68) (x := 1) (nx := 120) (r1 := 8) (r2 := 0) (r3 := 0) rfl rfl (by decide) rfl ⟨rfl, rfl⟩ rfl ?_
                have b22 := gi_b (lo := -2147483648) (hi := 2147483647) g18 1 7 rfl
                refine wr_gi0 (k0 := 1) (x := h18 1 7) (nx := 123) (r1 := 1) (r2 := 7) (r3 := 0) rfl rfl (by decide) rfl ⟨rfl, rfl⟩ rfl rfl ?_
                refine wr_V (k0 := 68) (rest := []) (as := [.ref 68, wv (h 1 9), vi (h18 1 7)]) (nx := 126) (r1 := 184) (r2 := 2) (r3 := 8) rfl rfl rfl (of_decide_eq_true rfl) rfl rfl (by decide) rfl rfl (of_decide_eq_true rfl) (of_decide_eq_true rfl) ?_
                refine ct_184_68 hcr  g18 (h 1 9) (h18 1 7) (by omega) (by omega)  (fun h23 g23 u23 => ?_)
                have F24 := F20.then (by decide +kernel) u23
                refine wk_n ?_
                refine wi_aload_n (i := 1) (x := mm_XB + (h 1 9 : Int).toNat) (nx := 127) (r1 := 0) (r2 := 0) (r3 := 0) rfl rfl ?_
                refine wr_gst (v := wv 20) (nx := 130) (r1 := 19) (r2 := 0) (r3 := 0) rfl rfl rfl ?_
                refine wr_acmp (cd := .ne) (x := h 1 9) (y := 20) (nx := 133) (r1 := 166) (r2 := 0) (r3 := 0) rfl (by omega) (by omega) (fun q25 => by exfalso; have q25 := (by simpa using q25 : ¬ ((h 1 9) = 20)); omega) (fun _ => ?_)
                refine wi_aload_n (i := 0) (x := 68) (nx := 134) (r1 := 0) (r2 := 0) (r3 := 0) rfl rfl ?_
                refine wr_gr (k0 := 68) (x := 72) (nx := 137) (r1 := 8) (r2 := 7) (r3 := 0) rfl rfl (by decide) rfl ⟨rfl, rfl⟩ rfl ?_
                refine wi_aload_n (i := 0) (x := 68) (nx := 138) (r1 := 0) (r2 := 0) (r3 := 0) rfl rfl ?_
                refine wr_gi0 (k0 := 68) (x := h 68 8) (nx := 141) (r1 := 8) (r2 := 8) (r3 := 0) rfl rfl (by decide) rfl ⟨rfl, rfl⟩ rfl ((u23 68 8 rfl).trans ((u18 68 8 rfl).trans (u12 68 8 rfl))) ?_
                refine wi_aload_n (i := 0) (x := 68) (nx := 142) (r1 := 0) (r2 := 0) (r3 := 0) rfl rfl ?_
                have b26 := gi_b (lo := 0) (hi := 80) g23 68 10 rfl
                refine wr_gi0 (k0 := 68) (x := h23 68 10) (nx := 145) (r1 := 8) (r2 := 10) (r3 := 0) rfl rfl (by decide) rfl ⟨rfl, rfl⟩ rfl rfl ?_
                refine wi_iconst (n := 1) (nx := 146) (r1 := 0) (r2 := 0) (r3 := 0) rfl ?_
                refine wr_sub (nx := 147) (r1 := 0) (r2 := 0) (r3 := 0) rfl (fun e27 (fe27 : e27 = (h23 68 10) - 1) => ?_)
                obtain ⟨i28, ei28⟩ : ∃ q : Nat, (h 68 8) = (q : Int) := ⟨(h 68 8).toNat, by omega⟩
                refine wr_is (k0 := 72) (a := h 68 8) (f := i28) (x := e27) (bl := -2147483648) (bh := 2147483647) (nx := 148) (r1 := 0) (r2 := 0) (r3 := 0) rfl (by decide) rfl (by omega) (by omega) (by decide) g23 rfl (by omega) (fun h29 g29 w29 u29 => ?_)
                have F30 := F24.then rfl (FR.rngp (lo := 72) (hi := 72) u29 (by decide))
                refine wi_aload_n (i := 0) (x := 68) (nx := 149) (r1 := 0) (r2 := 0) (r3 := 0) rfl rfl ?_
                refine wi_dup (nx := 150) (r1 := 0) (r2 := 0) (r3 := 0) rfl rfl ?_
                refine wr_gi0 (k0 := 68) (x := h 68 8) (nx := 153) (r1 := 8) (r2 := 8) (r3 := 0) rfl rfl (by decide) rfl ⟨rfl, rfl⟩ rfl ((u29 68 8 (fn_a (by omega) fn_0)).trans ((u23 68 8 rfl).trans ((u18 68 8 rfl).trans (u12 68 8 rfl)))) ?_
                refine wi_iconst (n := 1) (nx := 154) (r1 := 0) (r2 := 0) (r3 := 0) rfl ?_
                refine wr_add (nx := 155) (r1 := 0) (r2 := 0) (r3 := 0) rfl (fun e31 (fe31 : e31 = (h 68 8) + 1) => ?_)
                refine wr_pf0 (k0 := 68) (x := e31) (bl := 0) (bh := 2) (nx := 158) (r1 := 8) (r2 := 8) (r3 := 0) rfl (by decide) rfl ⟨rfl, rfl⟩ rfl rfl g29 rfl (by omega) (fun h32 g32 w32 u32 => ?_)
                have F33 := F30.then rfl u32
                refine wi_aload_n (i := 0) (x := 68) (nx := 159) (r1 := 0) (r2 := 0) (r3 := 0) rfl rfl ?_
                refine wr_gr (k0 := 68) (x := 1) (nx := 162) (r1 := 8) (r2 := 0) (r3 := 0) rfl rfl (by decide) rfl ⟨rfl, rfl⟩ rfl ?_
                refine wr_V (k0 := 1) (rest := []) (as := [.ref 1]) (nx := 165) (r1 := 106) (r2 := 0) (r3 := 1) rfl rfl rfl (of_decide_eq_true rfl) rfl rfl (by decide) rfl rfl (of_decide_eq_true rfl) (of_decide_eq_true rfl) ?_
                refine ct_106_1 hcr  g32    (fun h34 z35 g34 u34 (fz35 : 0 ≤ z35 ∧ z35 ≤ 1) => ?_)
                have F36 := F33.then (by decide +kernel) u34
                refine wk_i ?_
                refine wi_zreturn (nx := 166) (r1 := 0) (r2 := 0) (r3 := 0) rfl rfl (by omega) ?_
                exact k h34 z35 g34 F36 (by omega)
              ·
                refine wi_iconst (n := 0) (nx := 113) (r1 := 0) (r2 := 0) (r3 := 0) rfl ?_
                refine wi_zreturn (nx := 114) (r1 := 0) (r2 := 0) (r3 := 0) rfl rfl (by omega) ?_
                exact k h18 0 g18 F20 (by omega)
          ·
            refine wi_aload_n (i := 0) (x := 68) (nx := 69) (r1 := 0) (r2 := 0) (r3 := 0) rfl rfl ?_
            refine wr_gr (k0 := 68) (x := 1) (nx := 72) (r1 := 8) (r2 := 0) (r3 := 0) rfl rfl (by decide) rfl ⟨rfl, rfl⟩ rfl ?_
            refine wi_iconst (n := 5) (nx := 73) (r1 := 0) (r2 := 0) (r3 := 0) rfl ?_
            refine wr_V (k0 := 1) (rest := []) (as := [.ref 1, vi 5]) (nx := 76) (r1 := 101) (r2 := 1) (r3 := 1) rfl rfl rfl (of_decide_eq_true rfl) rfl rfl (by decide) rfl rfl (of_decide_eq_true rfl) (of_decide_eq_true rfl) ?_
            refine ct_101_1 hcr  g 5 (by omega)  (fun h11 z12 g11 u11 (fz12 : 0 ≤ z12 ∧ z12 ≤ 0) => ?_)
            have F13 := F0.then (by decide +kernel) u11
            refine wk_i ?_
            refine wi_zreturn (nx := 77) (r1 := 0) (r2 := 0) (r3 := 0) rfl rfl (by omega) ?_
            exact k h11 z12 g11 F13 (by omega)
        ·
          refine wi_aload_n (i := 0) (x := 68) (nx := 51) (r1 := 0) (r2 := 0) (r3 := 0) rfl rfl ?_
          refine wr_gr (k0 := 68) (x := 1) (nx := 54) (r1 := 8) (r2 := 0) (r3 := 0) rfl rfl (by decide) rfl ⟨rfl, rfl⟩ rfl ?_
          refine wi_iconst (n := 3) (nx := 55) (r1 := 0) (r2 := 0) (r3 := 0) rfl ?_
          refine wr_V (k0 := 1) (rest := []) (as := [.ref 1, vi 3]) (nx := 58) (r1 := 101) (r2 := 1) (r3 := 1) rfl rfl rfl (of_decide_eq_true rfl) rfl rfl (by decide) rfl rfl (of_decide_eq_true rfl) (of_decide_eq_true rfl) ?_
          refine ct_101_1 hcr  g 3 (by omega)  (fun h9 z10 g9 u9 (fz10 : 0 ≤ z10 ∧ z10 ≤ 0) => ?_)
          have F11 := F0.then (by decide +kernel) u9
          refine wk_i ?_
          refine wi_zreturn (nx := 59) (r1 := 0) (r2 := 0) (r3 := 0) rfl rfl (by omega) ?_
          exact k h9 z10 g9 F11 (by omega)
    ·
      refine wi_aload_n (i := 0) (x := 68) (nx := 27) (r1 := 0) (r2 := 0) (r3 := 0) rfl rfl ?_
      refine wr_gr (k0 := 68) (x := 1) (nx := 30) (r1 := 8) (r2 := 0) (r3 := 0) rfl rfl (by decide) rfl ⟨rfl, rfl⟩ rfl ?_
      refine wi_iconst (n := 1) (nx := 31) (r1 := 0) (r2 := 0) (r3 := 0) rfl ?_
      refine wr_V (k0 := 1) (rest := []) (as := [.ref 1, vi 1]) (nx := 34) (r1 := 101) (r2 := 1) (r3 := 1) rfl rfl rfl (of_decide_eq_true rfl) rfl rfl (by decide) rfl rfl (of_decide_eq_true rfl) (of_decide_eq_true rfl) ?_
      refine ct_101_1 hcr  g 1 (by omega)  (fun h6 z7 g6 u6 (fz7 : 0 ≤ z7 ∧ z7 ≤ 0) => ?_)
      have F8 := F0.then (by decide +kernel) u6
      refine wk_i ?_
      refine wi_zreturn (nx := 35) (r1 := 0) (r2 := 0) (r3 := 0) rfl rfl (by omega) ?_
      exact k h6 z7 g6 F8 (by omega)
-- method 183: Script.closeRepeat()Z
set_option maxRecDepth 100000 in
set_option maxHeartbeats 100000000 in
theorem ct_183_68 {L : Nat} {xs : Nat → Int32} {d b c : Nat} {h : hp} {cr : Nat → Nat → Option Nat} {Q : hp_Q} (hcr : CR cr)  (g : GI h)    (k : ∀ (h2 : hp) (z0 : Int) , GI h2 → FR [(69, 69, none), (70, 70, none), (1, 1, some (2, 2)), (1, 1, some (3, 3)), (1, 1, some (4, 4)), (1, 1, some (5, 5)), (1, 1, some (6, 6)), (1, 1, some (7, 7)), (1, 1, some (8, 8)), (1, 1, some (9, 9)), (68, 68, some (8, 8)), (68, 68, some (10, 10))] h h2 → (0 ≤ z0 ∧ z0 ≤ 1) → Q (.inl (some (vi z0))) (hp_w h2 cr) b c) : wp (md_xa (L, xs)) (d + 4) 183 (0, [(0, .ref 68)], [], hp_w h cr, b, c) Q := by
  have F0 : FR [(69, 69, none), (70, 70, none), (1, 1, some (2, 2)), (1, 1, some (3, 3)), (1, 1, some (4, 4)), (1, 1, some (5, 5)), (1, 1, some (6, 6)), (1, 1, some (7, 7)), (1, 1, some (8, 8)), (1, 1, some (9, 9)), (68, 68, some (8, 8)), (68, 68, some (10, 10))] h h := FR.refl
  refine wi_aload_n (i := 0) (x := 68) (nx := 1) (r1 := 0) (r2 := 0) (r3 := 0) rfl rfl ?_
  have b1 := gi_b (lo := 0) (hi := 2) g 68 8 rfl
  refine wr_gi0 (k0 := 68) (x := h 68 8) (nx := 4) (r1 := 8) (r2 := 8) (r3 := 0) rfl rfl (by decide) rfl ⟨rfl, rfl⟩ rfl rfl ?_
  refine wi_if (cd := .gt) (nx := 7) (r1 := 16) (r2 := 0) (r3 := 0) rfl (by omega) (fun (q2 : 0 < (h 68 8)) => ?_) (fun (q2 : ¬ (0 < (h 68 8))) => ?_)
  ·
    refine wi_aload_n (i := 0) (x := 68) (nx := 17) (r1 := 0) (r2 := 0) (r3 := 0) rfl rfl ?_
    refine wi_dup (nx := 18) (r1 := 0) (r2 := 0) (r3 := 0) rfl rfl ?_
    refine wr_gi0 (k0 := 68) (x := h 68 8) (nx := 21) (r1 := 8) (r2 := 8) (r3 := 0) rfl rfl (by decide) rfl ⟨rfl, rfl⟩ rfl rfl ?_
    refine wi_iconst (n := 1) (nx := 22) (r1 := 0) (r2 := 0) (r3 := 0) rfl ?_
    refine wr_sub (nx := 23) (r1 := 0) (r2 := 0) (r3 := 0) rfl (fun e3 (fe3 : e3 = (h 68 8) - 1) => ?_)
    refine wr_pf0 (k0 := 68) (x := e3) (bl := 0) (bh := 2) (nx := 26) (r1 := 8) (r2 := 8) (r3 := 0) rfl (by decide) rfl ⟨rfl, rfl⟩ rfl rfl g rfl (by omega) (fun h4 g4 w4 u4 => ?_)
    have F5 := F0.then rfl u4
    refine wi_aload_n (i := 0) (x := 68) (nx := 27) (r1 := 0) (r2 := 0) (r3 := 0) rfl rfl ?_
    refine wr_gst (v := wv 21) (nx := 30) (r1 := 20) (r2 := 0) (r3 := 0) rfl rfl rfl ?_
    refine wi_aload_n (i := 0) (x := 68) (nx := 31) (r1 := 0) (r2 := 0) (r3 := 0) rfl rfl ?_
    refine wr_gr (k0 := 68) (x := 72) (nx := 34) (r1 := 8) (r2 := 7) (r3 := 0) rfl rfl (by decide) rfl ⟨rfl, rfl⟩ rfl ?_
    refine wi_aload_n (i := 0) (x := 68) (nx := 35) (r1 := 0) (r2 := 0) (r3 := 0) rfl rfl ?_
    refine wr_gi0 (k0 := 68) (x := e3) (nx := 38) (r1 := 8) (r2 := 8) (r3 := 0) rfl rfl (by decide) rfl ⟨rfl, rfl⟩ rfl w4 ?_
    obtain ⟨i6, ei6⟩ : ∃ q : Nat, e3 = (q : Int) := ⟨(e3).toNat, by omega⟩
    have b7 := gi_b (lo := -2147483648) (hi := 2147483647) g 72 i6 rfl
    refine wr_ia (k0 := 72) (a := e3) (f := i6) (x := h 72 i6) (nx := 39) (r1 := 0) (r2 := 0) (r3 := 0) rfl (by decide) rfl (by omega) (by omega) (by decide) (u4 72 i6 (fn_a (by omega) fn_0)) ?_
    refine wr_V (k0 := 68) (rest := []) (as := [.ref 68, wv 21, vi (h 72 i6)]) (nx := 42) (r1 := 184) (r2 := 2) (r3 := 8) rfl rfl rfl (of_decide_eq_true rfl) rfl rfl (by decide) rfl rfl (of_decide_eq_true rfl) (of_decide_eq_true rfl) ?_
    refine ct_184_68 hcr  g4 21 (h 72 i6) (by omega) (by omega)  (fun h8 g8 u8 => ?_)
    have F9 := F5.then (by decide +kernel) u8
    refine wk_n ?_
    refine wi_aload_n (i := 0) (x := 68) (nx := 43) (r1 := 0) (r2 := 0) (r3 := 0) rfl rfl ?_
    refine wr_gr (k0 := 68) (x := 1) (nx := 46) (r1 := 8) (r2 := 0) (r3 := 0) rfl rfl (by decide) rfl ⟨rfl, rfl⟩ rfl ?_
    refine wr_V (k0 := 1) (rest := []) (as := [.ref 1]) (nx := 49) (r1 := 105) (r2 := 0) (r3 := 1) rfl rfl rfl (of_decide_eq_true rfl) rfl rfl (by decide) rfl rfl (of_decide_eq_true rfl) (of_decide_eq_true rfl) ?_
    refine ct_105_1 hcr  g8    (fun h10 z11 g10 u10 (fz11 : 0 ≤ z11 ∧ z11 ≤ 1) => ?_)
    have F12 := F9.then (by decide +kernel) u10
    refine wk_i ?_
    refine wi_zreturn (nx := 50) (r1 := 0) (r2 := 0) (r3 := 0) rfl rfl (by omega) ?_
    exact k h10 z11 g10 F12 (by omega)
  ·
    refine wi_aload_n (i := 0) (x := 68) (nx := 8) (r1 := 0) (r2 := 0) (r3 := 0) rfl rfl ?_
    refine wr_gr (k0 := 68) (x := 1) (nx := 11) (r1 := 8) (r2 := 0) (r3 := 0) rfl rfl (by decide) rfl ⟨rfl, rfl⟩ rfl ?_
    refine wi_iconst (n := 1) (nx := 12) (r1 := 0) (r2 := 0) (r3 := 0) rfl ?_
    refine wr_V (k0 := 1) (rest := []) (as := [.ref 1, vi 1]) (nx := 15) (r1 := 101) (r2 := 1) (r3 := 1) rfl rfl rfl (of_decide_eq_true rfl) rfl rfl (by decide) rfl rfl (of_decide_eq_true rfl) (of_decide_eq_true rfl) ?_
    refine ct_101_1 hcr  g 1 (by omega)  (fun h3 z4 g3 u3 (fz4 : 0 ≤ z4 ∧ z4 ≤ 0) => ?_)
    have F5 := F0.then (by decide +kernel) u3
    refine wk_i ?_
    refine wi_zreturn (nx := 16) (r1 := 0) (r2 := 0) (r3 := 0) rfl rfl (by omega) ?_
    exact k h3 z4 g3 F5 (by omega)
-- method 182: Script.readAll()Z
set_option maxRecDepth 100000 in
set_option maxHeartbeats 100000000 in
theorem ct_182_68 {L : Nat} {xs : Nat → Int32} {d b c : Nat} {h : hp} {cr : Nat → Nat → Option Nat} {Q : hp_Q} (hcr : CR cr)  (g : GI h)    (k : ∀ (h2 : hp) (z0 : Int) , GI h2 → FR [(69, 69, none), (70, 70, none), (72, 72, none), (1, 1, some (2, 2)), (1, 1, some (3, 3)), (1, 1, some (4, 4)), (1, 1, some (5, 5)), (1, 1, some (6, 6)), (1, 1, some (7, 7)), (1, 1, some (8, 8)), (1, 1, some (9, 9)), (68, 68, some (8, 8)), (68, 68, some (9, 9)), (68, 68, some (10, 10))] h h2 → (0 ≤ z0 ∧ z0 ≤ 1) → Q (.inl (some (vi z0))) (hp_w h2 cr) b c) : wp (md_xa (L, xs)) (d + 5) 182 (0, [(0, .ref 68)], [], hp_w h cr, b, c) Q := by
  have F0 : FR [(69, 69, none), (70, 70, none), (72, 72, none), (1, 1, some (2, 2)), (1, 1, some (3, 3)), (1, 1, some (4, 4)), (1, 1, some (5, 5)), (1, 1, some (6, 6)), (1, 1, some (7, 7)), (1, 1, some (8, 8)), (1, 1, some (9, 9)), (68, 68, some (8, 8)), (68, 68, some (9, 9)), (68, 68, some (10, 10))] h h := FR.refl
  refine wi_aload_n (i := 0) (x := 68) (nx := 1) (r1 := 0) (r2 := 0) (r3 := 0) rfl rfl ?_
  refine wr_gr (k0 := 68) (x := 1) (nx := 4) (r1 := 8) (r2 := 0) (r3 := 0) rfl rfl (by decide) rfl ⟨rfl, rfl⟩ rfl ?_
  refine wr_V (k0 := 1) (rest := []) (as := [.ref 1]) (nx := 7) (r1 := 93) (r2 := 0) (r3 := 1) rfl rfl rfl (of_decide_eq_true rfl) rfl rfl (by decide) rfl rfl (of_decide_eq_true rfl) (of_decide_eq_true rfl) ?_
  refine ct_93_1 hcr  g    (fun h1 g1 u1 => ?_)
  have F2 := F0.then (by decide +kernel) u1
  refine wk_n ?_
  refine wi_aload_n (i := 0) (x := 68) (nx := 8) (r1 := 0) (r2 := 0) (r3 := 0) rfl rfl ?_
  refine wi_iconst (n := 0) (nx := 9) (r1 := 0) (r2 := 0) (r3 := 0) rfl ?_
  refine wr_pf0 (k0 := 68) (x := 0) (bl := 0) (bh := 2) (nx := 12) (r1 := 8) (r2 := 8) (r3 := 0) rfl (by decide) rfl ⟨rfl, rfl⟩ rfl rfl g1 rfl (by omega) (fun h3 g3 w3 u3 => ?_)
  have F4 := F2.then rfl u3
  refine wi_aload_n (i := 0) (x := 68) (nx := 13) (r1 := 0) (r2 := 0) (r3 := 0) rfl rfl ?_
  refine wi_iconst (n := 0) (nx := 14) (r1 := 0) (r2 := 0) (r3 := 0) rfl ?_
  refine wr_pf0 (k0 := 68) (x := 0) (bl := 0) (bh := 40) (nx := 17) (r1 := 8) (r2 := 9) (r3 := 0) rfl (by decide) rfl ⟨rfl, rfl⟩ rfl rfl g3 rfl (by omega) (fun h5 g5 w5 u5 => ?_)
  have F6 := F4.then rfl u5
  refine wi_aload_n (i := 0) (x := 68) (nx := 18) (r1 := 0) (r2 := 0) (r3 := 0) rfl rfl ?_
  refine wi_iconst (n := 0) (nx := 19) (r1 := 0) (r2 := 0) (r3 := 0) rfl ?_
  refine wr_pf0 (k0 := 68) (x := 0) (bl := 0) (bh := 80) (nx := 22) (r1 := 8) (r2 := 10) (r3 := 0) rfl (by decide) rfl ⟨rfl, rfl⟩ rfl rfl g5 rfl (by omega) (fun h7 g7 w7 u7 => ?_)
  have F8 := F6.then rfl u7
  refine wi_iconst (n := 0) (nx := 23) (r1 := 0) (r2 := 0) (r3 := 0) rfl ?_
  refine wi_istore_n (i := 1) (e := 0) (lo2 := [(1, vi 0), (0, .ref 68)]) (nx := 24) (r1 := 0) (r2 := 0) (r3 := 0) rfl rfl ?_
  refine wp.lo (lo := [(0, .ref 68), (1, vi 0)]) ⟨rfl, rfl, trivial⟩ rfl ?_
  refine wl_1 (fun x9 h10 => GI h10 ∧ FR [(69, 69, none), (70, 70, none), (72, 72, none), (1, 1, some (2, 2)), (1, 1, some (3, 3)), (1, 1, some (4, 4)), (1, 1, some (5, 5)), (1, 1, some (6, 6)), (1, 1, some (7, 7)), (1, 1, some (8, 8)), (1, 1, some (9, 9)), (68, 68, some (8, 8)), (68, 68, some (9, 9)), (68, 68, some (10, 10))] h h10 ∧ FR [(69, 69, none), (70, 70, none), (72, 72, none), (1, 1, some (2, 2)), (1, 1, some (3, 3)), (1, 1, some (4, 4)), (1, 1, some (5, 5)), (1, 1, some (6, 6)), (1, 1, some (7, 7)), (1, 1, some (8, 8)), (1, 1, some (9, 9)), (68, 68, some (8, 8)), (68, 68, some (9, 9)), (68, 68, some (10, 10))] h7 h10 ∧ ((0 ≤ x9 ∧ x9 ≤ 801))) (fun x9 h10 => ((801 : Int) + 1 - x9).toNat) (fun x9 h10 => (24, [(0, .ref 68), (1, vi x9)], [], hp_w h10 cr, b, c)) ?_ 0 h7 ⟨g7, F8, FR.refl, (show (0 ≤ 0 ∧ 0 ≤ 801) by omega)⟩
  intro x9 h10 ⟨g10, F11, u10, f10⟩ I10
  refine wi_iload_n (i := 1) (e := x9) (nx := 25) (r1 := 0) (r2 := 0) (r3 := 0) rfl rfl ?_
  refine wi_sipush (n := 800) (nx := 28) (r1 := 0) (r2 := 0) (r3 := 0) rfl (by decide) ?_
  refine wi_icmp (cd := .gt) (nx := 31) (r1 := 107) (r2 := 0) (r3 := 0) rfl (by omega) (by omega) (fun (q12 : 800 < x9) => ?_) (fun (q12 : ¬ (800 < x9)) => ?_)
  ·
    refine wi_iconst (n := 0) (nx := 108) (r1 := 0) (r2 := 0) (r3 := 0) rfl ?_
    refine wi_zreturn (nx := 109) (r1 := 0) (r2 := 0) (r3 := 0) rfl rfl (by omega) ?_
    exact k h10 0 g10 F11 (by omega)
  ·
    refine wi_aload_n (i := 0) (x := 68) (nx := 32) (r1 := 0) (r2 := 0) (r3 := 0) rfl rfl ?_
    refine wr_gr (k0 := 68) (x := 1) (nx := 35) (r1 := 8) (r2 := 0) (r3 := 0) rfl rfl (by decide) rfl ⟨rfl, rfl⟩ rfl ?_
    refine wr_V (k0 := 1) (rest := []) (as := [.ref 1]) (nx := 38) (r1 := 94) (r2 := 0) (r3 := 1) rfl rfl rfl (of_decide_eq_true rfl) rfl rfl (by decide) rfl rfl (of_decide_eq_true rfl) (of_decide_eq_true rfl) ?_
    refine ct_94_1 hcr  g10    (fun h13 g13 u13 => ?_)
    have F14 := F11.then (by decide +kernel) u13
    have F15 := u10.then (by decide +kernel) u13
    refine wk_n ?_
    refine wi_aload_n (i := 0) (x := 68) (nx := 39) (r1 := 0) (r2 := 0) (r3 := 0) rfl rfl ?_
    refine wr_gr (k0 := 68) (x := 1) (nx := 42) (r1 := 8) (r2 := 0) (r3 := 0) rfl rfl (by decide) rfl ⟨rfl, rfl⟩ rfl ?_
    have b16 := gi_b (lo := 0) (hi := 6) g13 1 5 rfl
    refine wr_gi0 (k0 := 1) (x := h13 1 5) (nx := 45) (r1 := 1) (r2 := 5) (r3 := 0) rfl rfl (by decide) rfl ⟨rfl, rfl⟩ rfl rfl ?_
    refine wi_if (cd := .ne) (nx := 48) (r1 := 72) (r2 := 0) (r3 := 0) rfl (by omega) (fun (q17 : (h13 1 5) ≠ 0) => ?_) (fun (q17 : ¬ ((h13 1 5) ≠ 0)) => ?_)
    ·
      refine wi_aload_n (i := 0) (x := 68) (nx := 73) (r1 := 0) (r2 := 0) (r3 := 0) rfl rfl ?_
      refine wr_gr (k0 := 68) (x := 1) (nx := 76) (r1 := 8) (r2 := 0) (r3 := 0) rfl rfl (by decide) rfl ⟨rfl, rfl⟩ rfl ?_
      refine wr_gi0 (k0 := 1) (x := h13 1 5) (nx := 79) (r1 := 1) (r2 := 5) (r3 := 0) rfl rfl (by decide) rfl ⟨rfl, rfl⟩ rfl rfl ?_
      refine wi_iconst (n := 5) (nx := 80) (r1 := 0) (r2 := 0) (r3 := 0) rfl ?_
      refine wi_icmp (cd := .ne) (nx := 83) (r1 := 90) (r2 := 0) (r3 := 0) rfl (by omega) (by omega) (fun (q18 : (h13 1 5) ≠ 5) => ?_) (fun (q18 : ¬ ((h13 1 5) ≠ 5)) => ?_)
      ·
        refine wi_aload_n (i := 0) (x := 68) (nx := 91) (r1 := 0) (r2 := 0) (r3 := 0) rfl rfl ?_
        refine wr_V (k0 := 68) (rest := []) (as := [.ref 68]) (nx := 94) (r1 := 185) (r2 := 0) (r3 := 8) rfl rfl rfl (of_decide_eq_true rfl) rfl rfl (by decide) rfl rfl (of_decide_eq_true rfl) (of_decide_eq_true rfl) ?_
        refine ct_185_68 hcr  g13    (fun h19 z20 g19 u19 (fz20 : 0 ≤ z20 ∧ z20 ≤ 1) => ?_)
        have F21 := F14.then (by decide +kernel) u19
        have F22 := F15.then (by decide +kernel) u19
        refine wk_i ?_
        refine wi_istore_n (i := 2) (e := z20) (lo2 := [(2, vi z20), (0, .ref 68), (1, vi x9)]) (nx := 95) (r1 := 0) (r2 := 0) (r3 := 0) rfl rfl ?_
        refine wi_iload_n (i := 2) (e := z20) (nx := 96) (r1 := 0) (r2 := 0) (r3 := 0) rfl rfl ?_
        refine wi_if (cd := .ne) (nx := 99) (r1 := 101) (r2 := 0) (r3 := 0) rfl (by omega) (fun (q23 : z20 ≠ 0) => ?_) (fun (q23 : ¬ (z20 ≠ 0)) => ?_)
        ·
          refine wr_iinc (i := 1) (n := 1) (v := x9) (fun e24 => [(1, vi e24), (2, vi z20), (0, .ref 68)]) (nx := 104) (r1 := 0) (r2 := 0) (r3 := 0) rfl rfl (fun _ => rfl) (fun e24 (fe24 : e24 = x9 + 1) => ?_)
          refine wi_goto (nx := 107) (r1 := 24) (r2 := 0) (r3 := 0) rfl ?_
          refine wp.lo (lo := [(0, .ref 68), (1, vi e24)]) ⟨rfl, rfl, trivial⟩ rfl ?_
          exact I10 e24 h19 ⟨g19, F21, F22, (show (0 ≤ e24 ∧ e24 ≤ 801) by omega)⟩ (show ((801 : Int) + 1 - e24).toNat < ((801 : Int) + 1 - x9).toNat by omega)
        ·
          refine wi_iconst (n := 0) (nx := 100) (r1 := 0) (r2 := 0) (r3 := 0) rfl ?_
          refine wi_zreturn (nx := 101) (r1 := 0) (r2 := 0) (r3 := 0) rfl rfl (by omega) ?_
          exact k h19 0 g19 F21 (by omega)
      ·
        refine wi_aload_n (i := 0) (x := 68) (nx := 84) (r1 := 0) (r2 := 0) (r3 := 0) rfl rfl ?_
        refine wr_V (k0 := 68) (rest := []) (as := [.ref 68]) (nx := 87) (r1 := 183) (r2 := 0) (r3 := 8) rfl rfl rfl (of_decide_eq_true rfl) rfl rfl (by decide) rfl rfl (of_decide_eq_true rfl) (of_decide_eq_true rfl) ?_
        refine ct_183_68 hcr  g13    (fun h19 z20 g19 u19 (fz20 : 0 ≤ z20 ∧ z20 ≤ 1) => ?_)
        have F21 := F14.then (by decide +kernel) u19
        have F22 := F15.then (by decide +kernel) u19
        refine wk_i ?_
        refine wi_goto (nx := 90) (r1 := 94) (r2 := 0) (r3 := 0) rfl ?_
        refine wi_istore_n (i := 2) (e := z20) (lo2 := [(2, vi z20), (0, .ref 68), (1, vi x9)]) (nx := 95) (r1 := 0) (r2 := 0) (r3 := 0) rfl rfl ?_
        refine wi_iload_n (i := 2) (e := z20) (nx := 96) (r1 := 0) (r2 := 0) (r3 := 0) rfl rfl ?_
        refine wi_if (cd := .ne) (nx := 99) (r1 := 101) (r2 := 0) (r3 := 0) rfl (by omega) (fun (q23 : z20 ≠ 0) => ?_) (fun (q23 : ¬ (z20 ≠ 0)) => ?_)
        ·
          refine wr_iinc (i := 1) (n := 1) (v := x9) (fun e24 => [(1, vi e24), (2, vi z20), (0, .ref 68)]) (nx := 104) (r1 := 0) (r2 := 0) (r3 := 0) rfl rfl (fun _ => rfl) (fun e24 (fe24 : e24 = x9 + 1) => ?_)
          refine wi_goto (nx := 107) (r1 := 24) (r2 := 0) (r3 := 0) rfl ?_
          refine wp.lo (lo := [(0, .ref 68), (1, vi e24)]) ⟨rfl, rfl, trivial⟩ rfl ?_
          exact I10 e24 h19 ⟨g19, F21, F22, (show (0 ≤ e24 ∧ e24 ≤ 801) by omega)⟩ (show ((801 : Int) + 1 - e24).toNat < ((801 : Int) + 1 - x9).toNat by omega)
        ·
          refine wi_iconst (n := 0) (nx := 100) (r1 := 0) (r2 := 0) (r3 := 0) rfl ?_
          refine wi_zreturn (nx := 101) (r1 := 0) (r2 := 0) (r3 := 0) rfl rfl (by omega) ?_
          exact k h19 0 g19 F21 (by omega)
    ·
      refine wi_aload_n (i := 0) (x := 68) (nx := 49) (r1 := 0) (r2 := 0) (r3 := 0) rfl rfl ?_
      have b18 := gi_b (lo := 0) (hi := 2) g10 68 8 rfl
      refine wr_gi0 (k0 := 68) (x := h10 68 8) (nx := 52) (r1 := 8) (r2 := 8) (r3 := 0) rfl rfl (by decide) rfl ⟨rfl, rfl⟩ rfl (u13 68 8 rfl) ?_
      refine wi_if (cd := .eq) (nx := 55) (r1 := 66) (r2 := 0) (r3 := 0) rfl (by omega) (fun (q19 : (h10 68 8) = 0) => ?_) (fun (q19 : ¬ ((h10 68 8) = 0)) => ?_)
      ·
        refine wi_iconst (n := 1) (nx := 67) (r1 := 0) (r2 := 0) (r3 := 0) rfl ?_
        refine wi_goto (nx := 70) (r1 := 71) (r2 := 0) (r3 := 0) rfl ?_
        refine wi_zreturn (nx := 72) (r1 := 0) (r2 := 0) (r3 := 0) rfl rfl (by omega) ?_
        exact k h13 1 g13 F14 (by omega)
      ·
        refine wi_aload_n (i := 0) (x := 68) (nx := 56) (r1 := 0) (r2 := 0) (r3 := 0) rfl rfl ?_
        refine wr_gr (k0 := 68) (x := 1) (nx := 59) (r1 := 8) (r2 := 0) (r3 := 0) rfl rfl (by decide) rfl ⟨rfl, rfl⟩ rfl ?_
        refine wi_iconst (n := 1) (nx := 60) (r1 := 0) (r2 := 0) (r3 := 0) rfl ?_
        refine wr_V (k0 := 1) (rest := []) (as := [.ref 1, vi 1]) (nx := 63) (r1 := 101) (r2 := 1) (r3 := 1) rfl rfl rfl (of_decide_eq_true rfl) rfl rfl (by decide) rfl rfl (of_decide_eq_true rfl) (of_decide_eq_true rfl) ?_
        refine ct_101_1 hcr  g13 1 (by omega)  (fun h20 z21 g20 u20 (fz21 : 0 ≤ z21 ∧ z21 ≤ 0) => ?_)
        have F22 := F14.then (by decide +kernel) u20
        refine wk_i ?_
        refine wi_if (cd := .eq) (nx := 66) (r1 := 70) (r2 := 0) (r3 := 0) rfl (by omega) (fun (q23 : z21 = 0) => ?_) (fun (q23 : ¬ (z21 = 0)) => by exfalso; omega)
        refine wi_iconst (n := 0) (nx := 71) (r1 := 0) (r2 := 0) (r3 := 0) rfl ?_
        refine wi_zreturn (nx := 72) (r1 := 0) (r2 := 0) (r3 := 0) rfl rfl (by omega) ?_
        exact k h20 0 g20 F22 (by omega)
-- method 133: Line.passTime()I
set_option maxRecDepth 100000 in
set_option maxHeartbeats 100000000 in
theorem ct_133_18 {L : Nat} {xs : Nat → Int32} {d b c : Nat} {h : hp} {cr : Nat → Nat → Option Nat} {Q : hp_Q} (hcr : CR cr)  (g : GI h)    (k : ∀ (h2 : hp) (z0 : Int) , GI h2 → FR [(18, 18, some (10, 10)), (18, 18, some (16, 16))] h h2 → (-2147483647 ≤ z0 ∧ z0 ≤ 9999) → Q (.inl (some (vi z0))) (hp_w h2 cr) b c) : wp (md_xa (L, xs)) d 133 (0, [(0, .ref 18)], [], hp_w h cr, b, c) Q := by
  have F0 : FR [(18, 18, some (10, 10)), (18, 18, some (16, 16))] h h := FR.refl
  refine wi_aload_n (i := 0) (x := 18) (nx := 1) (r1 := 0) (r2 := 0) (r3 := 0) rfl rfl ?_
  have b1 := gi_b (lo := -2147483648) (hi := 2147483647) g 18 10 rfl
  refine wr_gi0 (k0 := 18) (x := h 18 10) (nx := 4) (r1 := 4) (r2 := 10) (r3 := 0) rfl rfl (by decide) rfl ⟨rfl, rfl⟩ rfl rfl ?_
  refine wi_sipush (n := 9999) (nx := 7) (r1 := 0) (r2 := 0) (r3 := 0) rfl (by decide) ?_
  refine wi_icmp (cd := .lt) (nx := 10) (r1 := 12) (r2 := 0) (r3 := 0) rfl (by omega) (by omega) (fun (q2 : (h 18 10) < 9999) => ?_) (fun (q2 : ¬ ((h 18 10) < 9999)) => ?_)
  ·
    refine wi_aload_n (i := 0) (x := 18) (nx := 13) (r1 := 0) (r2 := 0) (r3 := 0) rfl rfl ?_
    refine wi_dup (nx := 14) (r1 := 0) (r2 := 0) (r3 := 0) rfl rfl ?_
    refine wr_gi0 (k0 := 18) (x := h 18 10) (nx := 17) (r1 := 4) (r2 := 10) (r3 := 0) rfl rfl (by decide) rfl ⟨rfl, rfl⟩ rfl rfl ?_
    refine wi_iconst (n := 1) (nx := 18) (r1 := 0) (r2 := 0) (r3 := 0) rfl ?_
    refine wr_add (nx := 19) (r1 := 0) (r2 := 0) (r3 := 0) rfl (fun e3 (fe3 : e3 = (h 18 10) + 1) => ?_)
    refine wr_pf0 (k0 := 18) (x := e3) (bl := -2147483648) (bh := 2147483647) (nx := 22) (r1 := 4) (r2 := 10) (r3 := 0) rfl (by decide) rfl ⟨rfl, rfl⟩ rfl rfl g rfl (by omega) (fun h4 g4 w4 u4 => ?_)
    have F5 := F0.then rfl u4
    refine wi_aload_n (i := 0) (x := 18) (nx := 23) (r1 := 0) (r2 := 0) (r3 := 0) rfl rfl ?_
    refine wi_dup (nx := 24) (r1 := 0) (r2 := 0) (r3 := 0) rfl rfl ?_
    have b6 := gi_b (lo := -2147483648) (hi := 2147483647) g 18 16 rfl
    refine wr_gi0 (k0 := 18) (x := h 18 16) (nx := 27) (r1 := 4) (r2 := 16) (r3 := 0) rfl rfl (by decide) rfl ⟨rfl, rfl⟩ rfl (u4 18 16 rfl) ?_
    refine wi_iconst (n := 1) (nx := 28) (r1 := 0) (r2 := 0) (r3 := 0) rfl ?_
    refine wr_addW (nx := 29) (r1 := 0) (r2 := 0) (r3 := 0) rfl (fun e7 (fe7 : -2147483648 ≤ e7 ∧ e7 ≤ 2147483647) => ?_)
    refine wr_pf0 (k0 := 18) (x := e7) (bl := -2147483648) (bh := 2147483647) (nx := 32) (r1 := 4) (r2 := 16) (r3 := 0) rfl (by decide) rfl ⟨rfl, rfl⟩ rfl rfl g4 rfl (by omega) (fun h8 g8 w8 u8 => ?_)
    have F9 := F5.then rfl u8
    refine wi_aload_n (i := 0) (x := 18) (nx := 33) (r1 := 0) (r2 := 0) (r3 := 0) rfl rfl ?_
    refine wr_gi0 (k0 := 18) (x := e3) (nx := 36) (r1 := 4) (r2 := 10) (r3 := 0) rfl rfl (by decide) rfl ⟨rfl, rfl⟩ rfl ((u8 18 10 rfl).trans w4) ?_
    refine wi_ireturn (nx := 37) (r1 := 0) (r2 := 0) (r3 := 0) rfl rfl ?_
    exact k h8 e3 g8 F9 (by omega)
  ·
    refine wi_iconst (n := (-1)) (nx := 11) (r1 := 0) (r2 := 0) (r3 := 0) rfl ?_
    refine wi_ireturn (nx := 12) (r1 := 0) (r2 := 0) (r3 := 0) rfl rfl ?_
    exact k h (-1) g F0 (by omega)
-- method 189: Script.waitTimes(I)Z
set_option maxRecDepth 100000 in
set_option maxHeartbeats 100000000 in
theorem ct_189_68 {L : Nat} {xs : Nat → Int32} {d b c : Nat} {h : hp} {cr : Nat → Nat → Option Nat} {Q : hp_Q} (hcr : CR cr)  (g : GI h) (a0 : Int) (q0_ : -2147483648 ≤ a0 ∧ a0 ≤ 2147483647)  (k : ∀ (h2 : hp) (z0 : Int) , GI h2 → FR [(18, 18, some (10, 10)), (18, 18, some (16, 16))] h h2 → (0 ≤ z0 ∧ z0 ≤ 1) → (z0 = 0 → 1 ≤ a0 ∧ a0 ≤ 2147483647) → Q (.inl (some (vi z0))) (hp_w h2 cr) b c) : wp (md_xa (L, xs)) (d + 1) 189 (0, [(0, .ref 68), (1, vi a0)], [], hp_w h cr, b, c) Q := by
  have F0 : FR [(18, 18, some (10, 10)), (18, 18, some (16, 16))] h h := FR.refl
  refine wi_iconst (n := 0) (nx := 1) (r1 := 0) (r2 := 0) (r3 := 0) rfl ?_
  refine wi_istore_n (i := 2) (e := 0) (lo2 := [(2, vi 0), (0, .ref 68), (1, vi a0)]) (nx := 2) (r1 := 0) (r2 := 0) (r3 := 0) rfl rfl ?_
  refine wp.lo (lo := [(0, .ref 68), (1, vi a0), (2, vi 0)]) ⟨rfl, rfl, rfl, trivial⟩ rfl ?_
  refine wl_1 (fun x1 h2 => GI h2 ∧ FR [(18, 18, some (10, 10)), (18, 18, some (16, 16))] h h2 ∧ FR [(18, 18, some (10, 10)), (18, 18, some (16, 16))] h h2 ∧ ((0 ≤ x1 ∧ x1 ≤ 2147483647))) (fun x1 h2 => ((2147483647 : Int) + 1 - x1).toNat) (fun x1 h2 => (2, [(0, .ref 68), (1, vi a0), (2, vi x1)], [], hp_w h2 cr, b, c)) ?_ 0 h ⟨g, F0, FR.refl, (show (0 ≤ 0 ∧ 0 ≤ 2147483647) by omega)⟩
  intro x1 h2 ⟨g2, F3, u2, f2⟩ I2
  refine wi_iload_n (i := 2) (e := x1) (nx := 3) (r1 := 0) (r2 := 0) (r3 := 0) rfl rfl ?_
  refine wi_iload_n (i := 1) (e := a0) (nx := 4) (r1 := 0) (r2 := 0) (r3 := 0) rfl rfl ?_
  refine wi_icmp (cd := .ge) (nx := 7) (r1 := 26) (r2 := 0) (r3 := 0) rfl (by omega) (by omega) (fun (q4 : a0 ≤ x1) => ?_) (fun (q4 : ¬ (a0 ≤ x1)) => ?_)
  ·
    refine wi_iconst (n := 1) (nx := 27) (r1 := 0) (r2 := 0) (r3 := 0) rfl ?_
    refine wi_zreturn (nx := 28) (r1 := 0) (r2 := 0) (r3 := 0) rfl rfl (by omega) ?_
    exact k h2 1 g2 F3 (by omega) (fun _ => by omega)
  ·
    refine wi_aload_n (i := 0) (x := 68) (nx := 8) (r1 := 0) (r2 := 0) (r3 := 0) rfl rfl ?_
    refine wr_gr (k0 := 68) (x := 18) (nx := 11) (r1 := 8) (r2 := 1) (r3 := 0) rfl rfl (by decide) rfl ⟨rfl, rfl⟩ rfl ?_
    refine wr_V (k0 := 18) (rest := []) (as := [.ref 18]) (nx := 14) (r1 := 133) (r2 := 0) (r3 := 4) rfl rfl rfl (of_decide_eq_true rfl) rfl rfl (by decide) rfl rfl (of_decide_eq_true rfl) (of_decide_eq_true rfl) ?_
    refine ct_133_18 hcr  g2    (fun h5 z6 g5 u5 (fz6 : -2147483647 ≤ z6 ∧ z6 ≤ 9999) => ?_)
    have F7 := F3.then (by decide +kernel) u5
    have F8 := u2.then (by decide +kernel) u5
    refine wk_i ?_
    refine wi_iconst (n := (-1)) (nx := 15) (r1 := 0) (r2 := 0) (r3 := 0) rfl ?_
    refine wi_icmp (cd := .ne) (nx := 18) (r1 := 20) (r2 := 0) (r3 := 0) rfl (by omega) (by omega) (fun (q9 : z6 ≠ (-1)) => ?_) (fun (q9 : ¬ (z6 ≠ (-1))) => ?_)
    ·
      refine wr_iinc (i := 2) (n := 1) (v := x1) (fun e10 => [(2, vi e10), (0, .ref 68), (1, vi a0)]) (nx := 23) (r1 := 0) (r2 := 0) (r3 := 0) rfl rfl (fun _ => rfl) (fun e10 (fe10 : e10 = x1 + 1) => ?_)
      refine wi_goto (nx := 26) (r1 := 2) (r2 := 0) (r3 := 0) rfl ?_
      refine wp.lo (lo := [(0, .ref 68), (1, vi a0), (2, vi e10)]) ⟨rfl, rfl, rfl, trivial⟩ rfl ?_
      exact I2 e10 h5 ⟨g5, F7, F8, (show (0 ≤ e10 ∧ e10 ≤ 2147483647) by omega)⟩ (show ((2147483647 : Int) + 1 - e10).toNat < ((2147483647 : Int) + 1 - x1).toNat by omega)
    ·
      refine wi_iconst (n := 0) (nx := 19) (r1 := 0) (r2 := 0) (r3 := 0) rfl ?_
      refine wi_zreturn (nx := 20) (r1 := 0) (r2 := 0) (r3 := 0) rfl rfl (by omega) ?_
      exact k h5 0 g5 F7 (by omega) (fun _ => by omega)
-- method 140: Line.chosenToLeave()I
set_option maxRecDepth 100000 in
set_option maxHeartbeats 100000000 in
theorem ct_140_18 {L : Nat} {xs : Nat → Int32} {d b c : Nat} {h : hp} {cr : Nat → Nat → Option Nat} {Q : hp_Q} (hcr : CR cr)  (g : GI h)    (k : ∀ (z0 : Int), (-1 ≤ z0 ∧ z0 ≤ 3) → Q (.inl (some (vi z0))) (hp_w h cr) b c) : wp (md_xa (L, xs)) (d + 2) 140 (0, [(0, .ref 18)], [], hp_w h cr, b, c) Q := by
  have F0 : FR [] h h := FR.refl
  refine wi_iconst (n := (-1)) (nx := 1) (r1 := 0) (r2 := 0) (r3 := 0) rfl ?_
  refine wi_istore_n (i := 1) (e := -1) (lo2 := [(1, vi (-1)), (0, .ref 18)]) (nx := 2) (r1 := 0) (r2 := 0) (r3 := 0) rfl rfl ?_
  refine wi_bipush (n := 12) (nx := 4) (r1 := 0) (r2 := 0) (r3 := 0) rfl (by decide) ?_
  refine wi_istore_n (i := 2) (e := 12) (lo2 := [(2, vi 12), (1, vi (-1)), (0, .ref 18)]) (nx := 5) (r1 := 0) (r2 := 0) (r3 := 0) rfl rfl ?_
  refine wi_iconst (n := 0) (nx := 6) (r1 := 0) (r2 := 0) (r3 := 0) rfl ?_
  refine wi_istore_n (i := 3) (e := 0) (lo2 := [(3, vi 0), (2, vi 12), (1, vi (-1)), (0, .ref 18)]) (nx := 7) (r1 := 0) (r2 := 0) (r3 := 0) rfl rfl ?_
  refine wp.lo (lo := [(0, .ref 18), (1, vi (-1)), (2, vi 12), (3, vi 0)]) ⟨rfl, rfl, rfl, rfl, trivial⟩ rfl ?_
  refine wl_3 (fun x1 x2 x3 h4 => h = h4 ∧ ((-1 ≤ x1 ∧ x1 ≤ 3) ∧ (-2147483648 ≤ x2 ∧ x2 ≤ 12) ∧ (0 ≤ x3 ∧ x3 ≤ 4))) (fun x1 x2 x3 h4 => ((4 : Int) + 1 - x3).toNat) (fun x1 x2 x3 h4 => (7, [(0, .ref 18), (1, vi x1), (2, vi x2), (3, vi x3)], [], hp_w h4 cr, b, c)) ?_ (-1) 12 0 h ⟨rfl, (show (-1 ≤ (-1) ∧ (-1) ≤ 3) ∧ (-2147483648 ≤ 12 ∧ 12 ≤ 12) ∧ (0 ≤ 0 ∧ 0 ≤ 4) by omega)⟩
  intro x1 x2 x3 h4 ⟨e4, f4⟩ I4
  subst e4
  refine wi_iload_n (i := 3) (e := x3) (nx := 8) (r1 := 0) (r2 := 0) (r3 := 0) rfl rfl ?_
  refine wi_aload_n (i := 0) (x := 18) (nx := 9) (r1 := 0) (r2 := 0) (r3 := 0) rfl rfl ?_
  refine wr_gr (k0 := 18) (x := 3) (nx := 12) (r1 := 4) (r2 := 0) (r3 := 0) rfl rfl (by decide) rfl ⟨rfl, rfl⟩ rfl ?_
  have b6 := gi_b (lo := 0) (hi := 4) g 3 1 rfl
  refine wr_gi0 (k0 := 3) (x := h 3 1) (nx := 15) (r1 := 2) (r2 := 1) (r3 := 0) rfl rfl (by decide) rfl ⟨rfl, rfl⟩ rfl rfl ?_
  refine wi_icmp (cd := .ge) (nx := 18) (r1 := 70) (r2 := 0) (r3 := 0) rfl (by omega) (by omega) (fun (q7 : (h 3 1) ≤ x3) => ?_) (fun (q7 : ¬ ((h 3 1) ≤ x3)) => ?_)
  ·
    refine wi_iload_n (i := 1) (e := x1) (nx := 71) (r1 := 0) (r2 := 0) (r3 := 0) rfl rfl ?_
    refine wi_ireturn (nx := 72) (r1 := 0) (r2 := 0) (r3 := 0) rfl rfl ?_
    exact k x1 (by omega)
  ·
    refine wi_aload_n (i := 0) (x := 18) (nx := 19) (r1 := 0) (r2 := 0) (r3 := 0) rfl rfl ?_
    refine wi_iload_n (i := 3) (e := x3) (nx := 20) (r1 := 0) (r2 := 0) (r3 := 0) rfl rfl ?_
    refine wr_V (k0 := 18) (rest := []) (as := [.ref 18, vi x3]) (nx := 23) (r1 := 141) (r2 := 1) (r3 := 4) rfl rfl rfl (of_decide_eq_true rfl) rfl rfl (by decide) rfl rfl (of_decide_eq_true rfl) (of_decide_eq_true rfl) ?_
    refine ct_141_18 hcr  g x3 (by omega)  (fun z9  (fz9 : 0 ≤ z9 ∧ z9 ≤ 1) m8_0 => ?_)
    refine wk_i ?_
    refine wi_if (cd := .eq) (nx := 26) (r1 := 64) (r2 := 0) (r3 := 0) rfl (by omega) (fun (q10 : z9 = 0) => ?_) (fun (q10 : ¬ (z9 = 0)) => ?_)
    ·
      refine wr_iinc (i := 3) (n := 1) (v := x3) (fun e11 => [(3, vi e11), (0, .ref 18), (1, vi x1), (2, vi x2)]) (nx := 67) (r1 := 0) (r2 := 0) (r3 := 0) rfl rfl (fun _ => rfl) (fun e11 (fe11 : e11 = x3 + 1) => ?_)
      refine wi_goto (nx := 70) (r1 := 7) (r2 := 0) (r3 := 0) rfl ?_
      refine wp.lo (lo := [(0, .ref 18), (1, vi x1), (2, vi x2), (3, vi e11)]) ⟨rfl, rfl, rfl, rfl, trivial⟩ rfl ?_
      exact I4 x1 x2 e11 h ⟨rfl, (show (-1 ≤ x1 ∧ x1 ≤ 3) ∧ (-2147483648 ≤ x2 ∧ x2 ≤ 12) ∧ (0 ≤ e11 ∧ e11 ≤ 4) by omega)⟩ (show ((4 : Int) + 1 - e11).toNat < ((4 : Int) + 1 - x3).toNat by omega)
    ·
      have f11 : 0 ≤ x3 ∧ x3 ≤ 3 := m8_0 (by omega)
      refine wi_aload_n (i := 0) (x := 18) (nx := 27) (r1 := 0) (r2 := 0) (r3 := 0) rfl rfl ?_
      refine wr_gr (k0 := 18) (x := 21) (nx := 30) (r1 := 4) (r2 := 3) (r3 := 0) rfl rfl (by decide) rfl ⟨rfl, rfl⟩ rfl ?_
      refine wi_iload_n (i := 3) (e := x3) (nx := 31) (r1 := 0) (r2 := 0) (r3 := 0) rfl rfl ?_
      obtain ⟨i12, ei12⟩ : ∃ q : Nat, x3 = (q : Int) := ⟨(x3).toNat, by omega⟩
      refine wr_aa (k0 := 21) (a := x3) (f := i12) (x := 21 + 8 + 2 * i12) (nx := 32) (r1 := 0) (r2 := 0) (r3 := 0) rfl (by decide) rfl (Or.inl rfl) (by omega) (by omega) (by decide) (hcr.1 21 (by decide) i12 (by omega)) ?_
      obtain ⟨k13, kk13, mk13⟩ : ∃ q, Rw q ∧ q = 21 + 8 + 2 * i12 := ⟨_, rw_lane 21 (by decide) i12 (by omega), rfl⟩
      rw [← mk13]
      refine wi_iconst (n := 0) (nx := 33) (r1 := 0) (r2 := 0) (r3 := 0) rfl ?_
      refine wr_V (k0 := k13) (rest := []) (as := [.ref k13, vi 0]) (nx := 36) (r1 := 154) (r2 := 1) (r3 := 5) rfl rfl rfl (of_decide_eq_true rfl) rfl rfl kk13.k kk13.1 rfl (of_decide_eq_true rfl) (of_decide_eq_true rfl) ?_
      refine ct_154_R hcr kk13 g 0 (by omega)  (fun z15  (fz15 : -2147483648 ≤ z15 ∧ z15 ≤ 2147483647) => ?_)
      refine wk_i ?_
      refine wi_istore (i := 4) (e := z15) (lo2 := [(4, vi z15), (0, .ref 18), (1, vi x1), (2, vi x2), (3, vi x3)]) (nx := 38) (r1 := 0) (r2 := 0) (r3 := 0) rfl rfl ?_
      refine wi_aload_n (i := 0) (x := 18) (nx := 39) (r1 := 0) (r2 := 0) (r3 := 0) rfl rfl ?_
      refine wi_iload (i := 4) (e := z15) (nx := 41) (r1 := 0) (r2 := 0) (r3 := 0) rfl rfl ?_
      refine wr_V (k0 := 18) (rest := []) (as := [.ref 18, vi z15]) (nx := 44) (r1 := 131) (r2 := 1) (r3 := 4) rfl rfl rfl (of_decide_eq_true rfl) rfl rfl (by decide) rfl rfl (of_decide_eq_true rfl) (of_decide_eq_true rfl) ?_
      refine ct_131_18 hcr  g z15 (by omega)  (fun z17  (fz17 : -2147483648 ≤ z17 ∧ z17 ≤ 2147483647) => ?_)
      refine wk_i ?_
      refine wi_aload_n (i := 0) (x := 18) (nx := 45) (r1 := 0) (r2 := 0) (r3 := 0) rfl rfl ?_
      have b18 := gi_b (lo := -2147483648) (hi := 2147483647) g 18 8 rfl
      refine wr_gi0 (k0 := 18) (x := h 18 8) (nx := 48) (r1 := 4) (r2 := 8) (r3 := 0) rfl rfl (by decide) rfl ⟨rfl, rfl⟩ rfl rfl ?_
      refine wi_icmp (cd := .ne) (nx := 51) (r1 := 53) (r2 := 0) (r3 := 0) rfl (by omega) (by omega) (fun (q19 : z17 ≠ (h 18 8)) => ?_) (fun (q19 : ¬ (z17 ≠ (h 18 8))) => ?_)
      ·
        refine wi_iload (i := 4) (e := z15) (nx := 55) (r1 := 0) (r2 := 0) (r3 := 0) rfl rfl ?_
        refine wi_iload_n (i := 2) (e := x2) (nx := 56) (r1 := 0) (r2 := 0) (r3 := 0) rfl rfl ?_
        refine wi_icmp (cd := .ge) (nx := 59) (r1 := 64) (r2 := 0) (r3 := 0) rfl (by omega) (by omega) (fun (q20 : x2 ≤ z15) => ?_) (fun (q20 : ¬ (x2 ≤ z15)) => ?_)
        ·
          refine wr_iinc (i := 3) (n := 1) (v := x3) (fun e21 => [(3, vi e21), (4, vi z15), (0, .ref 18), (1, vi x1), (2, vi x2)]) (nx := 67) (r1 := 0) (r2 := 0) (r3 := 0) rfl rfl (fun _ => rfl) (fun e21 (fe21 : e21 = x3 + 1) => ?_)
          refine wi_goto (nx := 70) (r1 := 7) (r2 := 0) (r3 := 0) rfl ?_
          refine wp.lo (lo := [(0, .ref 18), (1, vi x1), (2, vi x2), (3, vi e21)]) ⟨rfl, rfl, rfl, rfl, trivial⟩ rfl ?_
          exact I4 x1 x2 e21 h ⟨rfl, (show (-1 ≤ x1 ∧ x1 ≤ 3) ∧ (-2147483648 ≤ x2 ∧ x2 ≤ 12) ∧ (0 ≤ e21 ∧ e21 ≤ 4) by omega)⟩ (show ((4 : Int) + 1 - e21).toNat < ((4 : Int) + 1 - x3).toNat by omega)
        ·
          refine wi_iload (i := 4) (e := z15) (nx := 61) (r1 := 0) (r2 := 0) (r3 := 0) rfl rfl ?_
          refine wi_istore_n (i := 2) (e := z15) (lo2 := [(2, vi z15), (4, vi z15), (0, .ref 18), (1, vi x1), (3, vi x3)]) (nx := 62) (r1 := 0) (r2 := 0) (r3 := 0) rfl rfl ?_
          refine wi_iload_n (i := 3) (e := x3) (nx := 63) (r1 := 0) (r2 := 0) (r3 := 0) rfl rfl ?_
          refine wi_istore_n (i := 1) (e := x3) (lo2 := [(1, vi x3), (2, vi z15), (4, vi z15), (0, .ref 18), (3, vi x3)]) (nx := 64) (r1 := 0) (r2 := 0) (r3 := 0) rfl rfl ?_
          refine wr_iinc (i := 3) (n := 1) (v := x3) (fun e21 => [(3, vi e21), (1, vi x3), (2, vi z15), (4, vi z15), (0, .ref 18)]) (nx := 67) (r1 := 0) (r2 := 0) (r3 := 0) rfl rfl (fun _ => rfl) (fun e21 (fe21 : e21 = x3 + 1) => ?_)
          refine wi_goto (nx := 70) (r1 := 7) (r2 := 0) (r3 := 0) rfl ?_
          refine wp.lo (lo := [(0, .ref 18), (1, vi x3), (2, vi z15), (3, vi e21)]) ⟨rfl, rfl, rfl, rfl, trivial⟩ rfl ?_
          exact I4 x3 z15 e21 h ⟨rfl, (show (-1 ≤ x3 ∧ x3 ≤ 3) ∧ (-2147483648 ≤ z15 ∧ z15 ≤ 12) ∧ (0 ≤ e21 ∧ e21 ≤ 4) by omega)⟩ (show ((4 : Int) + 1 - e21).toNat < ((4 : Int) + 1 - x3).toNat by omega)
      ·
        refine wi_iload_n (i := 3) (e := x3) (nx := 52) (r1 := 0) (r2 := 0) (r3 := 0) rfl rfl ?_
        refine wi_ireturn (nx := 53) (r1 := 0) (r2 := 0) (r3 := 0) rfl rfl ?_
        exact k x3 (by omega)
-- method 134: Line.stepByRule()I
set_option maxRecDepth 100000 in
set_option maxHeartbeats 100000000 in
theorem ct_134_18 {L : Nat} {xs : Nat → Int32} {d b c : Nat} {h : hp} {cr : Nat → Nat → Option Nat} {Q : hp_Q} (hcr : CR cr)  (g : GI h)    (k : ∀ (h2 : hp) (z0 : Int) , GI h2 → FR [(18, 36, none)] h h2 → (-1 ≤ z0 ∧ z0 ≤ 3) → Q (.inl (some (vi z0))) (hp_w h2 cr) b c) : wp (md_xa (L, xs)) (d + 3) 134 (0, [(0, .ref 18)], [], hp_w h cr, b, c) Q := by
  have F0 : FR [(18, 36, none)] h h := FR.refl
  refine wi_aload_n (i := 0) (x := 18) (nx := 1) (r1 := 0) (r2 := 0) (r3 := 0) rfl rfl ?_
  refine wr_V (k0 := 18) (rest := []) (as := [.ref 18]) (nx := 4) (r1 := 135) (r2 := 0) (r3 := 4) rfl rfl rfl (of_decide_eq_true rfl) rfl rfl (by decide) rfl rfl (of_decide_eq_true rfl) (of_decide_eq_true rfl) ?_
  refine ct_135_18 hcr  g    (fun z2  (fz2 : 0 ≤ z2 ∧ z2 ≤ 1) => ?_)
  refine wk_i ?_
  refine wi_if (cd := .eq) (nx := 7) (r1 := 29) (r2 := 0) (r3 := 0) rfl (by omega) (fun (q3 : z2 = 0) => ?_) (fun (q3 : ¬ (z2 = 0)) => ?_)
  ·
    refine wi_aload_n (i := 0) (x := 18) (nx := 30) (r1 := 0) (r2 := 0) (r3 := 0) rfl rfl ?_
    have b4 := gi_b (lo := 0) (hi := 12) g 18 7 rfl
    refine wr_gi0 (k0 := 18) (x := h 18 7) (nx := 33) (r1 := 4) (r2 := 7) (r3 := 0) rfl rfl (by decide) rfl ⟨rfl, rfl⟩ rfl rfl ?_
    refine wi_aload_n (i := 0) (x := 18) (nx := 34) (r1 := 0) (r2 := 0) (r3 := 0) rfl rfl ?_
    refine wr_gr (k0 := 18) (x := 3) (nx := 37) (r1 := 4) (r2 := 0) (r3 := 0) rfl rfl (by decide) rfl ⟨rfl, rfl⟩ rfl ?_
    have b5 := gi_b (lo := 0) (hi := 12) g 3 2 rfl
    refine wr_gi0 (k0 := 3) (x := h 3 2) (nx := 40) (r1 := 2) (r2 := 2) (r3 := 0) rfl rfl (by decide) rfl ⟨rfl, rfl⟩ rfl rfl ?_
    refine wi_icmp (cd := .ge) (nx := 43) (r1 := 61) (r2 := 0) (r3 := 0) rfl (by omega) (by omega) (fun (q6 : (h 3 2) ≤ (h 18 7)) => ?_) (fun (q6 : ¬ ((h 3 2) ≤ (h 18 7))) => ?_)
    ·
      refine wi_aload_n (i := 0) (x := 18) (nx := 62) (r1 := 0) (r2 := 0) (r3 := 0) rfl rfl ?_
      refine wi_aload_n (i := 0) (x := 18) (nx := 63) (r1 := 0) (r2 := 0) (r3 := 0) rfl rfl ?_
      refine wr_V (k0 := 18) (rest := [.ref 18]) (as := [.ref 18]) (nx := 66) (r1 := 140) (r2 := 0) (r3 := 4) rfl rfl rfl (of_decide_eq_true rfl) rfl rfl (by decide) rfl rfl (of_decide_eq_true rfl) (of_decide_eq_true rfl) ?_
      refine ct_140_18 hcr  g    (fun z8  (fz8 : -1 ≤ z8 ∧ z8 ≤ 3) => ?_)
      refine wk_i ?_
      refine wr_V (k0 := 18) (rest := []) (as := [.ref 18, vi z8]) (nx := 69) (r1 := 142) (r2 := 1) (r3 := 4) rfl rfl rfl (of_decide_eq_true rfl) rfl rfl (by decide) rfl rfl (of_decide_eq_true rfl) (of_decide_eq_true rfl) ?_
      refine ct_142_18 hcr  g z8 (by omega)  (fun h9 z10 g9 u9 (fz10 : -1 ≤ z10 ∧ z10 ≤ 11) => ?_)
      have F11 := F0.then (by decide +kernel) u9
      refine wk_i ?_
      refine wi_iconst (n := (-1)) (nx := 70) (r1 := 0) (r2 := 0) (r3 := 0) rfl ?_
      refine wi_icmp (cd := .eq) (nx := 73) (r1 := 75) (r2 := 0) (r3 := 0) rfl (by omega) (by omega) (fun (q12 : z10 = (-1)) => ?_) (fun (q12 : ¬ (z10 = (-1))) => ?_)
      ·
        refine wi_aload_n (i := 0) (x := 18) (nx := 76) (r1 := 0) (r2 := 0) (r3 := 0) rfl rfl ?_
        refine wr_gr (k0 := 18) (x := 22) (nx := 79) (r1 := 4) (r2 := 4) (r3 := 0) rfl rfl (by decide) rfl ⟨rfl, rfl⟩ rfl ?_
        have b13 := gi_b (lo := 0) (hi := 12) g9 22 1 rfl
        refine wr_gi0 (k0 := 22) (x := h9 22 1) (nx := 82) (r1 := 5) (r2 := 1) (r3 := 0) rfl rfl (by decide) rfl ⟨rfl, rfl⟩ rfl rfl ?_
        refine wi_if (cd := .le) (nx := 85) (r1 := 97) (r2 := 0) (r3 := 0) rfl (by omega) (fun (q14 : (h9 22 1) ≤ 0) => ?_) (fun (q14 : ¬ ((h9 22 1) ≤ 0)) => ?_)
        ·
          refine wi_iconst (n := (-1)) (nx := 98) (r1 := 0) (r2 := 0) (r3 := 0) rfl ?_
          refine wi_ireturn (nx := 99) (r1 := 0) (r2 := 0) (r3 := 0) rfl rfl ?_
          exact k h9 (-1) g9 F11 (by omega)
        ·
          refine wi_aload_n (i := 0) (x := 18) (nx := 86) (r1 := 0) (r2 := 0) (r3 := 0) rfl rfl ?_
          refine wr_V (k0 := 18) (rest := []) (as := [.ref 18]) (nx := 89) (r1 := 133) (r2 := 0) (r3 := 4) rfl rfl rfl (of_decide_eq_true rfl) rfl rfl (by decide) rfl rfl (of_decide_eq_true rfl) (of_decide_eq_true rfl) ?_
          refine ct_133_18 hcr  g9    (fun h15 z16 g15 u15 (fz16 : -2147483647 ≤ z16 ∧ z16 ≤ 9999) => ?_)
          have F17 := F11.then (by decide +kernel) u15
          refine wk_i ?_
          refine wi_iconst (n := (-1)) (nx := 90) (r1 := 0) (r2 := 0) (r3 := 0) rfl ?_
          refine wi_icmp (cd := .eq) (nx := 93) (r1 := 97) (r2 := 0) (r3 := 0) rfl (by omega) (by omega) (fun (q18 : z16 = (-1)) => ?_) (fun (q18 : ¬ (z16 = (-1))) => ?_)
          ·
            refine wi_iconst (n := (-1)) (nx := 98) (r1 := 0) (r2 := 0) (r3 := 0) rfl ?_
            refine wi_ireturn (nx := 99) (r1 := 0) (r2 := 0) (r3 := 0) rfl rfl ?_
            exact k h15 (-1) g15 F17 (by omega)
          ·
            refine wi_iconst (n := 3) (nx := 94) (r1 := 0) (r2 := 0) (r3 := 0) rfl ?_
            refine wi_goto (nx := 97) (r1 := 98) (r2 := 0) (r3 := 0) rfl ?_
            refine wi_ireturn (nx := 99) (r1 := 0) (r2 := 0) (r3 := 0) rfl rfl ?_
            exact k h15 3 g15 F17 (by omega)
      ·
        refine wi_iconst (n := 2) (nx := 74) (r1 := 0) (r2 := 0) (r3 := 0) rfl ?_
        refine wi_ireturn (nx := 75) (r1 := 0) (r2 := 0) (r3 := 0) rfl rfl ?_
        exact k h9 2 g9 F11 (by omega)
    ·
      refine wi_aload_n (i := 0) (x := 18) (nx := 44) (r1 := 0) (r2 := 0) (r3 := 0) rfl rfl ?_
      refine wi_aload_n (i := 0) (x := 18) (nx := 45) (r1 := 0) (r2 := 0) (r3 := 0) rfl rfl ?_
      refine wi_aload_n (i := 0) (x := 18) (nx := 46) (r1 := 0) (r2 := 0) (r3 := 0) rfl rfl ?_
      refine wr_gi0 (k0 := 18) (x := h 18 7) (nx := 49) (r1 := 4) (r2 := 7) (r3 := 0) rfl rfl (by decide) rfl ⟨rfl, rfl⟩ rfl rfl ?_
      refine wr_V (k0 := 18) (rest := [.ref 18]) (as := [.ref 18, vi (h 18 7)]) (nx := 52) (r1 := 136) (r2 := 1) (r3 := 4) rfl rfl rfl (of_decide_eq_true rfl) rfl rfl (by decide) rfl rfl (of_decide_eq_true rfl) (of_decide_eq_true rfl) ?_
      refine ct_136_18 hcr  g (h 18 7) (by omega)  (fun z8  (fz8 : -1 ≤ z8 ∧ z8 ≤ 3) => ?_)
      refine wk_i ?_
      refine wr_V (k0 := 18) (rest := []) (as := [.ref 18, vi z8]) (nx := 55) (r1 := 139) (r2 := 1) (r3 := 4) rfl rfl rfl (of_decide_eq_true rfl) rfl rfl (by decide) rfl rfl (of_decide_eq_true rfl) (of_decide_eq_true rfl) ?_
      refine ct_139_18 hcr  g z8 (by omega)  (fun h9 z10 g9 u9 (fz10 : -1 ≤ z10 ∧ z10 ≤ 11) => ?_)
      have F11 := F0.then (by decide +kernel) u9
      refine wk_i ?_
      refine wi_iconst (n := (-1)) (nx := 56) (r1 := 0) (r2 := 0) (r3 := 0) rfl ?_
      refine wi_icmp (cd := .eq) (nx := 59) (r1 := 61) (r2 := 0) (r3 := 0) rfl (by omega) (by omega) (fun (q12 : z10 = (-1)) => ?_) (fun (q12 : ¬ (z10 = (-1))) => ?_)
      ·
        refine wi_aload_n (i := 0) (x := 18) (nx := 62) (r1 := 0) (r2 := 0) (r3 := 0) rfl rfl ?_
        refine wi_aload_n (i := 0) (x := 18) (nx := 63) (r1 := 0) (r2 := 0) (r3 := 0) rfl rfl ?_
        refine wr_V (k0 := 18) (rest := [.ref 18]) (as := [.ref 18]) (nx := 66) (r1 := 140) (r2 := 0) (r3 := 4) rfl rfl rfl (of_decide_eq_true rfl) rfl rfl (by decide) rfl rfl (of_decide_eq_true rfl) (of_decide_eq_true rfl) ?_
        refine ct_140_18 hcr  g9    (fun z14  (fz14 : -1 ≤ z14 ∧ z14 ≤ 3) => ?_)
        refine wk_i ?_
        refine wr_V (k0 := 18) (rest := []) (as := [.ref 18, vi z14]) (nx := 69) (r1 := 142) (r2 := 1) (r3 := 4) rfl rfl rfl (of_decide_eq_true rfl) rfl rfl (by decide) rfl rfl (of_decide_eq_true rfl) (of_decide_eq_true rfl) ?_
        refine ct_142_18 hcr  g9 z14 (by omega)  (fun h15 z16 g15 u15 (fz16 : -1 ≤ z16 ∧ z16 ≤ 11) => ?_)
        have F17 := F11.then (by decide +kernel) u15
        refine wk_i ?_
        refine wi_iconst (n := (-1)) (nx := 70) (r1 := 0) (r2 := 0) (r3 := 0) rfl ?_
        refine wi_icmp (cd := .eq) (nx := 73) (r1 := 75) (r2 := 0) (r3 := 0) rfl (by omega) (by omega) (fun (q18 : z16 = (-1)) => ?_) (fun (q18 : ¬ (z16 = (-1))) => ?_)
        ·
          refine wi_aload_n (i := 0) (x := 18) (nx := 76) (r1 := 0) (r2 := 0) (r3 := 0) rfl rfl ?_
          refine wr_gr (k0 := 18) (x := 22) (nx := 79) (r1 := 4) (r2 := 4) (r3 := 0) rfl rfl (by decide) rfl ⟨rfl, rfl⟩ rfl ?_
          have b19 := gi_b (lo := 0) (hi := 12) g15 22 1 rfl
          refine wr_gi0 (k0 := 22) (x := h15 22 1) (nx := 82) (r1 := 5) (r2 := 1) (r3 := 0) rfl rfl (by decide) rfl ⟨rfl, rfl⟩ rfl rfl ?_
          refine wi_if (cd := .le) (nx := 85) (r1 := 97) (r2 := 0) (r3 := 0) rfl (by omega) (fun (q20 : (h15 22 1) ≤ 0) => ?_) (fun (q20 : ¬ ((h15 22 1) ≤ 0)) => ?_)
          ·
            refine wi_iconst (n := (-1)) (nx := 98) (r1 := 0) (r2 := 0) (r3 := 0) rfl ?_
            refine wi_ireturn (nx := 99) (r1 := 0) (r2 := 0) (r3 := 0) rfl rfl ?_
            exact k h15 (-1) g15 F17 (by omega)
          ·
            refine wi_aload_n (i := 0) (x := 18) (nx := 86) (r1 := 0) (r2 := 0) (r3 := 0) rfl rfl ?_
            refine wr_V (k0 := 18) (rest := []) (as := [.ref 18]) (nx := 89) (r1 := 133) (r2 := 0) (r3 := 4) rfl rfl rfl (of_decide_eq_true rfl) rfl rfl (by decide) rfl rfl (of_decide_eq_true rfl) (of_decide_eq_true rfl) ?_
            refine ct_133_18 hcr  g15    (fun h21 z22 g21 u21 (fz22 : -2147483647 ≤ z22 ∧ z22 ≤ 9999) => ?_)
            have F23 := F17.then (by decide +kernel) u21
            refine wk_i ?_
            refine wi_iconst (n := (-1)) (nx := 90) (r1 := 0) (r2 := 0) (r3 := 0) rfl ?_
            refine wi_icmp (cd := .eq) (nx := 93) (r1 := 97) (r2 := 0) (r3 := 0) rfl (by omega) (by omega) (fun (q24 : z22 = (-1)) => ?_) (fun (q24 : ¬ (z22 = (-1))) => ?_)
            ·
              refine wi_iconst (n := (-1)) (nx := 98) (r1 := 0) (r2 := 0) (r3 := 0) rfl ?_
              refine wi_ireturn (nx := 99) (r1 := 0) (r2 := 0) (r3 := 0) rfl rfl ?_
              exact k h21 (-1) g21 F23 (by omega)
            ·
              refine wi_iconst (n := 3) (nx := 94) (r1 := 0) (r2 := 0) (r3 := 0) rfl ?_
              refine wi_goto (nx := 97) (r1 := 98) (r2 := 0) (r3 := 0) rfl ?_
              refine wi_ireturn (nx := 99) (r1 := 0) (r2 := 0) (r3 := 0) rfl rfl ?_
              exact k h21 3 g21 F23 (by omega)
        ·
          refine wi_iconst (n := 2) (nx := 74) (r1 := 0) (r2 := 0) (r3 := 0) rfl ?_
          refine wi_ireturn (nx := 75) (r1 := 0) (r2 := 0) (r3 := 0) rfl rfl ?_
          exact k h15 2 g15 F17 (by omega)
      ·
        refine wi_iconst (n := 1) (nx := 60) (r1 := 0) (r2 := 0) (r3 := 0) rfl ?_
        refine wi_ireturn (nx := 61) (r1 := 0) (r2 := 0) (r3 := 0) rfl rfl ?_
        exact k h9 1 g9 F11 (by omega)
  ·
    refine wi_aload_n (i := 0) (x := 18) (nx := 8) (r1 := 0) (r2 := 0) (r3 := 0) rfl rfl ?_
    refine wi_aload_n (i := 0) (x := 18) (nx := 9) (r1 := 0) (r2 := 0) (r3 := 0) rfl rfl ?_
    refine wi_aload_n (i := 0) (x := 18) (nx := 10) (r1 := 0) (r2 := 0) (r3 := 0) rfl rfl ?_
    refine wr_gr (k0 := 18) (x := 22) (nx := 13) (r1 := 4) (r2 := 4) (r3 := 0) rfl rfl (by decide) rfl ⟨rfl, rfl⟩ rfl ?_
    refine wi_iconst (n := 0) (nx := 14) (r1 := 0) (r2 := 0) (r3 := 0) rfl ?_
    refine wr_V (k0 := 22) (rest := [.ref 18, .ref 18]) (as := [.ref 22, vi 0]) (nx := 17) (r1 := 154) (r2 := 1) (r3 := 5) rfl rfl rfl (of_decide_eq_true rfl) rfl rfl (by decide) rfl rfl (of_decide_eq_true rfl) (of_decide_eq_true rfl) ?_
    refine ct_154_R hcr rw_22 g 0 (by omega)  (fun z5  (fz5 : -2147483648 ≤ z5 ∧ z5 ≤ 2147483647) => ?_)
    refine wk_i ?_
    refine wr_V (k0 := 18) (rest := [.ref 18]) (as := [.ref 18, vi z5]) (nx := 20) (r1 := 136) (r2 := 1) (r3 := 4) rfl rfl rfl (of_decide_eq_true rfl) rfl rfl (by decide) rfl rfl (of_decide_eq_true rfl) (of_decide_eq_true rfl) ?_
    refine ct_136_18 hcr  g z5 (by omega)  (fun z7  (fz7 : -1 ≤ z7 ∧ z7 ≤ 3) => ?_)
    refine wk_i ?_
    refine wr_V (k0 := 18) (rest := []) (as := [.ref 18, vi z7]) (nx := 23) (r1 := 138) (r2 := 1) (r3 := 4) rfl rfl rfl (of_decide_eq_true rfl) rfl rfl (by decide) rfl rfl (of_decide_eq_true rfl) (of_decide_eq_true rfl) ?_
    refine ct_138_18 hcr  g z7 (by omega)  (fun h8 z9 g8 u8 (fz9 : -2147483648 ≤ z9 ∧ z9 ≤ 2147483647) => ?_)
    have F10 := F0.then (by decide +kernel) u8
    refine wk_i ?_
    refine wi_iconst (n := (-1)) (nx := 24) (r1 := 0) (r2 := 0) (r3 := 0) rfl ?_
    refine wi_icmp (cd := .eq) (nx := 27) (r1 := 29) (r2 := 0) (r3 := 0) rfl (by omega) (by omega) (fun (q11 : z9 = (-1)) => ?_) (fun (q11 : ¬ (z9 = (-1))) => ?_)
    ·
      refine wi_aload_n (i := 0) (x := 18) (nx := 30) (r1 := 0) (r2 := 0) (r3 := 0) rfl rfl ?_
      have b12 := gi_b (lo := 0) (hi := 12) g 18 7 rfl
      refine wr_gi0 (k0 := 18) (x := h 18 7) (nx := 33) (r1 := 4) (r2 := 7) (r3 := 0) rfl rfl (by decide) rfl ⟨rfl, rfl⟩ rfl (u8 18 7 rfl) ?_
      refine wi_aload_n (i := 0) (x := 18) (nx := 34) (r1 := 0) (r2 := 0) (r3 := 0) rfl rfl ?_
      refine wr_gr (k0 := 18) (x := 3) (nx := 37) (r1 := 4) (r2 := 0) (r3 := 0) rfl rfl (by decide) rfl ⟨rfl, rfl⟩ rfl ?_
      have b13 := gi_b (lo := 0) (hi := 12) g 3 2 rfl
      refine wr_gi0 (k0 := 3) (x := h 3 2) (nx := 40) (r1 := 2) (r2 := 2) (r3 := 0) rfl rfl (by decide) rfl ⟨rfl, rfl⟩ rfl (u8 3 2 rfl) ?_
      refine wi_icmp (cd := .ge) (nx := 43) (r1 := 61) (r2 := 0) (r3 := 0) rfl (by omega) (by omega) (fun (q14 : (h 3 2) ≤ (h 18 7)) => ?_) (fun (q14 : ¬ ((h 3 2) ≤ (h 18 7))) => ?_)
      ·
        refine wi_aload_n (i := 0) (x := 18) (nx := 62) (r1 := 0) (r2 := 0) (r3 := 0) rfl rfl ?_
        refine wi_aload_n (i := 0) (x := 18) (nx := 63) (r1 := 0) (r2 := 0) (r3 := 0) rfl rfl ?_
        refine wr_V (k0 := 18) (rest := [.ref 18]) (as := [.ref 18]) (nx := 66) (r1 := 140) (r2 := 0) (r3 := 4) rfl rfl rfl (of_decide_eq_true rfl) rfl rfl (by decide) rfl rfl (of_decide_eq_true rfl) (of_decide_eq_true rfl) ?_
        refine ct_140_18 hcr  g8    (fun z16  (fz16 : -1 ≤ z16 ∧ z16 ≤ 3) => ?_)
        refine wk_i ?_
        refine wr_V (k0 := 18) (rest := []) (as := [.ref 18, vi z16]) (nx := 69) (r1 := 142) (r2 := 1) (r3 := 4) rfl rfl rfl (of_decide_eq_true rfl) rfl rfl (by decide) rfl rfl (of_decide_eq_true rfl) (of_decide_eq_true rfl) ?_
        refine ct_142_18 hcr  g8 z16 (by omega)  (fun h17 z18 g17 u17 (fz18 : -1 ≤ z18 ∧ z18 ≤ 11) => ?_)
        have F19 := F10.then (by decide +kernel) u17
        refine wk_i ?_
        refine wi_iconst (n := (-1)) (nx := 70) (r1 := 0) (r2 := 0) (r3 := 0) rfl ?_
        refine wi_icmp (cd := .eq) (nx := 73) (r1 := 75) (r2 := 0) (r3 := 0) rfl (by omega) (by omega) (fun (q20 : z18 = (-1)) => ?_) (fun (q20 : ¬ (z18 = (-1))) => ?_)
        ·
          refine wi_aload_n (i := 0) (x := 18) (nx := 76) (r1 := 0) (r2 := 0) (r3 := 0) rfl rfl ?_
          refine wr_gr (k0 := 18) (x := 22) (nx := 79) (r1 := 4) (r2 := 4) (r3 := 0) rfl rfl (by decide) rfl ⟨rfl, rfl⟩ rfl ?_
          have b21 := gi_b (lo := 0) (hi := 12) g17 22 1 rfl
          refine wr_gi0 (k0 := 22) (x := h17 22 1) (nx := 82) (r1 := 5) (r2 := 1) (r3 := 0) rfl rfl (by decide) rfl ⟨rfl, rfl⟩ rfl rfl ?_
          refine wi_if (cd := .le) (nx := 85) (r1 := 97) (r2 := 0) (r3 := 0) rfl (by omega) (fun (q22 : (h17 22 1) ≤ 0) => ?_) (fun (q22 : ¬ ((h17 22 1) ≤ 0)) => ?_)
          ·
            refine wi_iconst (n := (-1)) (nx := 98) (r1 := 0) (r2 := 0) (r3 := 0) rfl ?_
            refine wi_ireturn (nx := 99) (r1 := 0) (r2 := 0) (r3 := 0) rfl rfl ?_
            exact k h17 (-1) g17 F19 (by omega)
          ·
            refine wi_aload_n (i := 0) (x := 18) (nx := 86) (r1 := 0) (r2 := 0) (r3 := 0) rfl rfl ?_
            refine wr_V (k0 := 18) (rest := []) (as := [.ref 18]) (nx := 89) (r1 := 133) (r2 := 0) (r3 := 4) rfl rfl rfl (of_decide_eq_true rfl) rfl rfl (by decide) rfl rfl (of_decide_eq_true rfl) (of_decide_eq_true rfl) ?_
            refine ct_133_18 hcr  g17    (fun h23 z24 g23 u23 (fz24 : -2147483647 ≤ z24 ∧ z24 ≤ 9999) => ?_)
            have F25 := F19.then (by decide +kernel) u23
            refine wk_i ?_
            refine wi_iconst (n := (-1)) (nx := 90) (r1 := 0) (r2 := 0) (r3 := 0) rfl ?_
            refine wi_icmp (cd := .eq) (nx := 93) (r1 := 97) (r2 := 0) (r3 := 0) rfl (by omega) (by omega) (fun (q26 : z24 = (-1)) => ?_) (fun (q26 : ¬ (z24 = (-1))) => ?_)
            ·
              refine wi_iconst (n := (-1)) (nx := 98) (r1 := 0) (r2 := 0) (r3 := 0) rfl ?_
              refine wi_ireturn (nx := 99) (r1 := 0) (r2 := 0) (r3 := 0) rfl rfl ?_
              exact k h23 (-1) g23 F25 (by omega)
            ·
              refine wi_iconst (n := 3) (nx := 94) (r1 := 0) (r2 := 0) (r3 := 0) rfl ?_
              refine wi_goto (nx := 97) (r1 := 98) (r2 := 0) (r3 := 0) rfl ?_
              refine wi_ireturn (nx := 99) (r1 := 0) (r2 := 0) (r3 := 0) rfl rfl ?_
              exact k h23 3 g23 F25 (by omega)
        ·
          refine wi_iconst (n := 2) (nx := 74) (r1 := 0) (r2 := 0) (r3 := 0) rfl ?_
          refine wi_ireturn (nx := 75) (r1 := 0) (r2 := 0) (r3 := 0) rfl rfl ?_
          exact k h17 2 g17 F19 (by omega)
      ·
        refine wi_aload_n (i := 0) (x := 18) (nx := 44) (r1 := 0) (r2 := 0) (r3 := 0) rfl rfl ?_
        refine wi_aload_n (i := 0) (x := 18) (nx := 45) (r1 := 0) (r2 := 0) (r3 := 0) rfl rfl ?_
        refine wi_aload_n (i := 0) (x := 18) (nx := 46) (r1 := 0) (r2 := 0) (r3 := 0) rfl rfl ?_
        refine wr_gi0 (k0 := 18) (x := h 18 7) (nx := 49) (r1 := 4) (r2 := 7) (r3 := 0) rfl rfl (by decide) rfl ⟨rfl, rfl⟩ rfl (u8 18 7 rfl) ?_
        refine wr_V (k0 := 18) (rest := [.ref 18]) (as := [.ref 18, vi (h 18 7)]) (nx := 52) (r1 := 136) (r2 := 1) (r3 := 4) rfl rfl rfl (of_decide_eq_true rfl) rfl rfl (by decide) rfl rfl (of_decide_eq_true rfl) (of_decide_eq_true rfl) ?_
        refine ct_136_18 hcr  g8 (h 18 7) (by omega)  (fun z16  (fz16 : -1 ≤ z16 ∧ z16 ≤ 3) => ?_)
        refine wk_i ?_
        refine wr_V (k0 := 18) (rest := []) (as := [.ref 18, vi z16]) (nx := 55) (r1 := 139) (r2 := 1) (r3 := 4) rfl rfl rfl (of_decide_eq_true rfl) rfl rfl (by decide) rfl rfl (of_decide_eq_true rfl) (of_decide_eq_true rfl) ?_
        refine ct_139_18 hcr  g8 z16 (by omega)  (fun h17 z18 g17 u17 (fz18 : -1 ≤ z18 ∧ z18 ≤ 11) => ?_)
        have F19 := F10.then (by decide +kernel) u17
        refine wk_i ?_
        refine wi_iconst (n := (-1)) (nx := 56) (r1 := 0) (r2 := 0) (r3 := 0) rfl ?_
        refine wi_icmp (cd := .eq) (nx := 59) (r1 := 61) (r2 := 0) (r3 := 0) rfl (by omega) (by omega) (fun (q20 : z18 = (-1)) => ?_) (fun (q20 : ¬ (z18 = (-1))) => ?_)
        ·
          refine wi_aload_n (i := 0) (x := 18) (nx := 62) (r1 := 0) (r2 := 0) (r3 := 0) rfl rfl ?_
          refine wi_aload_n (i := 0) (x := 18) (nx := 63) (r1 := 0) (r2 := 0) (r3 := 0) rfl rfl ?_
          refine wr_V (k0 := 18) (rest := [.ref 18]) (as := [.ref 18]) (nx := 66) (r1 := 140) (r2 := 0) (r3 := 4) rfl rfl rfl (of_decide_eq_true rfl) rfl rfl (by decide) rfl rfl (of_decide_eq_true rfl) (of_decide_eq_true rfl) ?_
          refine ct_140_18 hcr  g17    (fun z22  (fz22 : -1 ≤ z22 ∧ z22 ≤ 3) => ?_)
          refine wk_i ?_
          refine wr_V (k0 := 18) (rest := []) (as := [.ref 18, vi z22]) (nx := 69) (r1 := 142) (r2 := 1) (r3 := 4) rfl rfl rfl (of_decide_eq_true rfl) rfl rfl (by decide) rfl rfl (of_decide_eq_true rfl) (of_decide_eq_true rfl) ?_
          refine ct_142_18 hcr  g17 z22 (by omega)  (fun h23 z24 g23 u23 (fz24 : -1 ≤ z24 ∧ z24 ≤ 11) => ?_)
          have F25 := F19.then (by decide +kernel) u23
          refine wk_i ?_
          refine wi_iconst (n := (-1)) (nx := 70) (r1 := 0) (r2 := 0) (r3 := 0) rfl ?_
          refine wi_icmp (cd := .eq) (nx := 73) (r1 := 75) (r2 := 0) (r3 := 0) rfl (by omega) (by omega) (fun (q26 : z24 = (-1)) => ?_) (fun (q26 : ¬ (z24 = (-1))) => ?_)
          ·
            refine wi_aload_n (i := 0) (x := 18) (nx := 76) (r1 := 0) (r2 := 0) (r3 := 0) rfl rfl ?_
            refine wr_gr (k0 := 18) (x := 22) (nx := 79) (r1 := 4) (r2 := 4) (r3 := 0) rfl rfl (by decide) rfl ⟨rfl, rfl⟩ rfl ?_
            have b27 := gi_b (lo := 0) (hi := 12) g23 22 1 rfl
            refine wr_gi0 (k0 := 22) (x := h23 22 1) (nx := 82) (r1 := 5) (r2 := 1) (r3 := 0) rfl rfl (by decide) rfl ⟨rfl, rfl⟩ rfl rfl ?_
            refine wi_if (cd := .le) (nx := 85) (r1 := 97) (r2 := 0) (r3 := 0) rfl (by omega) (fun (q28 : (h23 22 1) ≤ 0) => ?_) (fun (q28 : ¬ ((h23 22 1) ≤ 0)) => ?_)
            ·
              refine wi_iconst (n := (-1)) (nx := 98) (r1 := 0) (r2 := 0) (r3 := 0) rfl ?_
              refine wi_ireturn (nx := 99) (r1 := 0) (r2 := 0) (r3 := 0) rfl rfl ?_
              exact k h23 (-1) g23 F25 (by omega)
            ·
              refine wi_aload_n (i := 0) (x := 18) (nx := 86) (r1 := 0) (r2 := 0) (r3 := 0) rfl rfl ?_
              refine wr_V (k0 := 18) (rest := []) (as := [.ref 18]) (nx := 89) (r1 := 133) (r2 := 0) (r3 := 4) rfl rfl rfl (of_decide_eq_true rfl) rfl rfl (by decide) rfl rfl (of_decide_eq_true rfl) (of_decide_eq_true rfl) ?_
              refine ct_133_18 hcr  g23    (fun h29 z30 g29 u29 (fz30 : -2147483647 ≤ z30 ∧ z30 ≤ 9999) => ?_)
              have F31 := F25.then (by decide +kernel) u29
              refine wk_i ?_
              refine wi_iconst (n := (-1)) (nx := 90) (r1 := 0) (r2 := 0) (r3 := 0) rfl ?_
              refine wi_icmp (cd := .eq) (nx := 93) (r1 := 97) (r2 := 0) (r3 := 0) rfl (by omega) (by omega) (fun (q32 : z30 = (-1)) => ?_) (fun (q32 : ¬ (z30 = (-1))) => ?_)
              ·
                refine wi_iconst (n := (-1)) (nx := 98) (r1 := 0) (r2 := 0) (r3 := 0) rfl ?_
                refine wi_ireturn (nx := 99) (r1 := 0) (r2 := 0) (r3 := 0) rfl rfl ?_
                exact k h29 (-1) g29 F31 (by omega)
              ·
                refine wi_iconst (n := 3) (nx := 94) (r1 := 0) (r2 := 0) (r3 := 0) rfl ?_
                refine wi_goto (nx := 97) (r1 := 98) (r2 := 0) (r3 := 0) rfl ?_
                refine wi_ireturn (nx := 99) (r1 := 0) (r2 := 0) (r3 := 0) rfl rfl ?_
                exact k h29 3 g29 F31 (by omega)
          ·
            refine wi_iconst (n := 2) (nx := 74) (r1 := 0) (r2 := 0) (r3 := 0) rfl ?_
            refine wi_ireturn (nx := 75) (r1 := 0) (r2 := 0) (r3 := 0) rfl rfl ?_
            exact k h23 2 g23 F25 (by omega)
        ·
          refine wi_iconst (n := 1) (nx := 60) (r1 := 0) (r2 := 0) (r3 := 0) rfl ?_
          refine wi_ireturn (nx := 61) (r1 := 0) (r2 := 0) (r3 := 0) rfl rfl ?_
          exact k h17 1 g17 F19 (by omega)
    ·
      refine wi_iconst (n := 0) (nx := 28) (r1 := 0) (r2 := 0) (r3 := 0) rfl ?_
      refine wi_ireturn (nx := 29) (r1 := 0) (r2 := 0) (r3 := 0) rfl rfl ?_
      exact k h8 0 g8 F10 (by omega)
-- method 190: Script.stepTimes(I)Z
set_option maxRecDepth 100000 in
set_option maxHeartbeats 100000000 in
theorem ct_190_68 {L : Nat} {xs : Nat → Int32} {d b c : Nat} {h : hp} {cr : Nat → Nat → Option Nat} {Q : hp_Q} (hcr : CR cr)  (g : GI h) (a0 : Int) (q0_ : -2147483648 ≤ a0 ∧ a0 ≤ 2147483647)  (k : ∀ (h2 : hp) (z0 : Int) , GI h2 → FR [(18, 36, none)] h h2 → (0 ≤ z0 ∧ z0 ≤ 1) → (z0 = 0 → 1 ≤ a0 ∧ a0 ≤ 2147483647) → Q (.inl (some (vi z0))) (hp_w h2 cr) b c) : wp (md_xa (L, xs)) (d + 4) 190 (0, [(0, .ref 68), (1, vi a0)], [], hp_w h cr, b, c) Q := by
  have F0 : FR [(18, 36, none)] h h := FR.refl
  refine wi_iconst (n := 0) (nx := 1) (r1 := 0) (r2 := 0) (r3 := 0) rfl ?_
  refine wi_istore_n (i := 2) (e := 0) (lo2 := [(2, vi 0), (0, .ref 68), (1, vi a0)]) (nx := 2) (r1 := 0) (r2 := 0) (r3 := 0) rfl rfl ?_
  refine wp.lo (lo := [(0, .ref 68), (1, vi a0), (2, vi 0)]) ⟨rfl, rfl, rfl, trivial⟩ rfl ?_
  refine wl_1 (fun x1 h2 => GI h2 ∧ FR [(18, 36, none)] h h2 ∧ FR [(18, 36, none)] h h2 ∧ ((0 ≤ x1 ∧ x1 ≤ 2147483647))) (fun x1 h2 => ((2147483647 : Int) + 1 - x1).toNat) (fun x1 h2 => (2, [(0, .ref 68), (1, vi a0), (2, vi x1)], [], hp_w h2 cr, b, c)) ?_ 0 h ⟨g, F0, FR.refl, (show (0 ≤ 0 ∧ 0 ≤ 2147483647) by omega)⟩
  intro x1 h2 ⟨g2, F3, u2, f2⟩ I2
  refine wi_iload_n (i := 2) (e := x1) (nx := 3) (r1 := 0) (r2 := 0) (r3 := 0) rfl rfl ?_
  refine wi_iload_n (i := 1) (e := a0) (nx := 4) (r1 := 0) (r2 := 0) (r3 := 0) rfl rfl ?_
  refine wi_icmp (cd := .ge) (nx := 7) (r1 := 26) (r2 := 0) (r3 := 0) rfl (by omega) (by omega) (fun (q4 : a0 ≤ x1) => ?_) (fun (q4 : ¬ (a0 ≤ x1)) => ?_)
  ·
    refine wi_iconst (n := 1) (nx := 27) (r1 := 0) (r2 := 0) (r3 := 0) rfl ?_
    refine wi_zreturn (nx := 28) (r1 := 0) (r2 := 0) (r3 := 0) rfl rfl (by omega) ?_
    exact k h2 1 g2 F3 (by omega) (fun _ => by omega)
  ·
    refine wi_aload_n (i := 0) (x := 68) (nx := 8) (r1 := 0) (r2 := 0) (r3 := 0) rfl rfl ?_
    refine wr_gr (k0 := 68) (x := 18) (nx := 11) (r1 := 8) (r2 := 1) (r3 := 0) rfl rfl (by decide) rfl ⟨rfl, rfl⟩ rfl ?_
    refine wr_V (k0 := 18) (rest := []) (as := [.ref 18]) (nx := 14) (r1 := 134) (r2 := 0) (r3 := 4) rfl rfl rfl (of_decide_eq_true rfl) rfl rfl (by decide) rfl rfl (of_decide_eq_true rfl) (of_decide_eq_true rfl) ?_
    refine ct_134_18 hcr  g2    (fun h5 z6 g5 u5 (fz6 : -1 ≤ z6 ∧ z6 ≤ 3) => ?_)
    have F7 := F3.then (by decide +kernel) u5
    have F8 := u2.then (by decide +kernel) u5
    refine wk_i ?_
    refine wi_iconst (n := (-1)) (nx := 15) (r1 := 0) (r2 := 0) (r3 := 0) rfl ?_
    refine wi_icmp (cd := .ne) (nx := 18) (r1 := 20) (r2 := 0) (r3 := 0) rfl (by omega) (by omega) (fun (q9 : z6 ≠ (-1)) => ?_) (fun (q9 : ¬ (z6 ≠ (-1))) => ?_)
    ·
      refine wr_iinc (i := 2) (n := 1) (v := x1) (fun e10 => [(2, vi e10), (0, .ref 68), (1, vi a0)]) (nx := 23) (r1 := 0) (r2 := 0) (r3 := 0) rfl rfl (fun _ => rfl) (fun e10 (fe10 : e10 = x1 + 1) => ?_)
      refine wi_goto (nx := 26) (r1 := 2) (r2 := 0) (r3 := 0) rfl ?_
      refine wp.lo (lo := [(0, .ref 68), (1, vi a0), (2, vi e10)]) ⟨rfl, rfl, rfl, trivial⟩ rfl ?_
      exact I2 e10 h5 ⟨g5, F7, F8, (show (0 ≤ e10 ∧ e10 ≤ 2147483647) by omega)⟩ (show ((2147483647 : Int) + 1 - e10).toNat < ((2147483647 : Int) + 1 - x1).toNat by omega)
    ·
      refine wi_iconst (n := 0) (nx := 19) (r1 := 0) (r2 := 0) (r3 := 0) rfl ?_
      refine wi_zreturn (nx := 20) (r1 := 0) (r2 := 0) (r3 := 0) rfl rfl (by omega) ?_
      exact k h5 0 g5 F7 (by omega) (fun _ => by omega)
-- method 145: Line.carsInLanes()I
set_option maxRecDepth 100000 in
set_option maxHeartbeats 100000000 in
theorem ct_145_18 {L : Nat} {xs : Nat → Int32} {d b c : Nat} {h : hp} {cr : Nat → Nat → Option Nat} {Q : hp_Q} (hcr : CR cr)  (g : GI h)    (k : ∀ (z0 : Int), (0 ≤ z0 ∧ z0 ≤ 48) → Q (.inl (some (vi z0))) (hp_w h cr) b c) : wp (md_xa (L, xs)) d 145 (0, [(0, .ref 18)], [], hp_w h cr, b, c) Q := by
  have F0 : FR [] h h := FR.refl
  refine wi_iconst (n := 0) (nx := 1) (r1 := 0) (r2 := 0) (r3 := 0) rfl ?_
  refine wi_istore_n (i := 1) (e := 0) (lo2 := [(1, vi 0), (0, .ref 18)]) (nx := 2) (r1 := 0) (r2 := 0) (r3 := 0) rfl rfl ?_
  refine wi_iconst (n := 0) (nx := 3) (r1 := 0) (r2 := 0) (r3 := 0) rfl ?_
  refine wi_istore_n (i := 2) (e := 0) (lo2 := [(2, vi 0), (1, vi 0), (0, .ref 18)]) (nx := 4) (r1 := 0) (r2 := 0) (r3 := 0) rfl rfl ?_
  refine wp.lo (lo := [(0, .ref 18), (1, vi 0), (2, vi 0)]) ⟨rfl, rfl, rfl, trivial⟩ rfl ?_
  refine wl_2 (fun x1 x2 h3 => h = h3 ∧ ((0 ≤ x1 ∧ x1 ≤ 48) ∧ (0 ≤ x2 ∧ x2 ≤ 4) ∧ (x1 ≤ 12 * x2))) (fun x1 x2 h3 => ((4 : Int) + 1 - x2).toNat) (fun x1 x2 h3 => (4, [(0, .ref 18), (1, vi x1), (2, vi x2)], [], hp_w h3 cr, b, c)) ?_ 0 0 h ⟨rfl, (show (0 ≤ 0 ∧ 0 ≤ 48) ∧ (0 ≤ 0 ∧ 0 ≤ 4) ∧ (0 ≤ 12 * 0) by omega)⟩
  intro x1 x2 h3 ⟨e3, f3⟩ I3
  subst e3
  refine wi_iload_n (i := 2) (e := x2) (nx := 5) (r1 := 0) (r2 := 0) (r3 := 0) rfl rfl ?_
  refine wi_aload_n (i := 0) (x := 18) (nx := 6) (r1 := 0) (r2 := 0) (r3 := 0) rfl rfl ?_
  refine wr_gr (k0 := 18) (x := 3) (nx := 9) (r1 := 4) (r2 := 0) (r3 := 0) rfl rfl (by decide) rfl ⟨rfl, rfl⟩ rfl ?_
  have b5 := gi_b (lo := 0) (hi := 4) g 3 1 rfl
  refine wr_gi0 (k0 := 3) (x := h 3 1) (nx := 12) (r1 := 2) (r2 := 1) (r3 := 0) rfl rfl (by decide) rfl ⟨rfl, rfl⟩ rfl rfl ?_
  refine wi_icmp (cd := .ge) (nx := 15) (r1 := 33) (r2 := 0) (r3 := 0) rfl (by omega) (by omega) (fun (q6 : (h 3 1) ≤ x2) => ?_) (fun (q6 : ¬ ((h 3 1) ≤ x2)) => ?_)
  ·
    refine wi_iload_n (i := 1) (e := x1) (nx := 34) (r1 := 0) (r2 := 0) (r3 := 0) rfl rfl ?_
    refine wi_ireturn (nx := 35) (r1 := 0) (r2 := 0) (r3 := 0) rfl rfl ?_
    exact k x1 (by omega)
  ·
    refine wi_iload_n (i := 1) (e := x1) (nx := 16) (r1 := 0) (r2 := 0) (r3 := 0) rfl rfl ?_
    refine wi_aload_n (i := 0) (x := 18) (nx := 17) (r1 := 0) (r2 := 0) (r3 := 0) rfl rfl ?_
    refine wr_gr (k0 := 18) (x := 21) (nx := 20) (r1 := 4) (r2 := 3) (r3 := 0) rfl rfl (by decide) rfl ⟨rfl, rfl⟩ rfl ?_
    refine wi_iload_n (i := 2) (e := x2) (nx := 21) (r1 := 0) (r2 := 0) (r3 := 0) rfl rfl ?_
    obtain ⟨i7, ei7⟩ : ∃ q : Nat, x2 = (q : Int) := ⟨(x2).toNat, by omega⟩
    refine wr_aa (k0 := 21) (a := x2) (f := i7) (x := 21 + 8 + 2 * i7) (nx := 22) (r1 := 0) (r2 := 0) (r3 := 0) rfl (by decide) rfl (Or.inl rfl) (by omega) (by omega) (by decide) (hcr.1 21 (by decide) i7 (by omega)) ?_
    obtain ⟨k8, kk8, mk8⟩ : ∃ q, Rw q ∧ q = 21 + 8 + 2 * i7 := ⟨_, rw_lane 21 (by decide) i7 (by omega), rfl⟩
    rw [← mk8]
    have b9 := gi_b (lo := 0) (hi := 12) g k8 1 kk8.2.2.2.1
    refine wr_gi0 (k0 := k8) (x := h k8 1) (nx := 25) (r1 := 5) (r2 := 1) (r3 := 0) rfl rfl kk8.k kk8.1 ⟨rfl, rfl⟩ rfl rfl ?_
    refine wr_add (nx := 26) (r1 := 0) (r2 := 0) (r3 := 0) rfl (fun e10 (fe10 : e10 = x1 + (h k8 1)) => ?_)
    refine wi_istore_n (i := 1) (e := e10) (lo2 := [(1, vi e10), (0, .ref 18), (2, vi x2)]) (nx := 27) (r1 := 0) (r2 := 0) (r3 := 0) rfl rfl ?_
    refine wr_iinc (i := 2) (n := 1) (v := x2) (fun e11 => [(2, vi e11), (1, vi e10), (0, .ref 18)]) (nx := 30) (r1 := 0) (r2 := 0) (r3 := 0) rfl rfl (fun _ => rfl) (fun e11 (fe11 : e11 = x2 + 1) => ?_)
    refine wi_goto (nx := 33) (r1 := 4) (r2 := 0) (r3 := 0) rfl ?_
    refine wp.lo (lo := [(0, .ref 18), (1, vi e10), (2, vi e11)]) ⟨rfl, rfl, rfl, trivial⟩ rfl ?_
    exact I3 e10 e11 h ⟨rfl, (show (0 ≤ e10 ∧ e10 ≤ 48) ∧ (0 ≤ e11 ∧ e11 ≤ 4) ∧ (e10 ≤ 12 * e11) by omega)⟩ (show ((4 : Int) + 1 - e11).toNat < ((4 : Int) + 1 - x2).toNat by omega)
-- method 162: Unloading.weighLanes()I
set_option maxRecDepth 100000 in
set_option maxHeartbeats 100000000 in
theorem ct_162_56 {L : Nat} {xs : Nat → Int32} {d b c : Nat} {h : hp} {cr : Nat → Nat → Option Nat} {Q : hp_Q} (hcr : CR cr)  (g : GI h)    (k : ∀ (h2 : hp) (z0 : Int) , GI h2 → FR [(59, 59, none), (60, 60, none)] h h2 → (-2147483648 ≤ z0 ∧ z0 ≤ 2147483647) → Q (.inl (some (vi z0))) (hp_w h2 cr) b c) : wp (md_xa (L, xs)) d 162 (0, [(0, .ref 56)], [], hp_w h cr, b, c) Q := by
  have F0 : FR [(59, 59, none), (60, 60, none)] h h := FR.refl
  refine wi_iconst (n := 1) (nx := 1) (r1 := 0) (r2 := 0) (r3 := 0) rfl ?_
  refine wi_istore_n (i := 1) (e := 1) (lo2 := [(1, vi 1), (0, .ref 56)]) (nx := 2) (r1 := 0) (r2 := 0) (r3 := 0) rfl rfl ?_
  refine wi_iconst (n := 0) (nx := 3) (r1 := 0) (r2 := 0) (r3 := 0) rfl ?_
  refine wi_istore_n (i := 2) (e := 0) (lo2 := [(2, vi 0), (1, vi 1), (0, .ref 56)]) (nx := 4) (r1 := 0) (r2 := 0) (r3 := 0) rfl rfl ?_
  refine wp.lo (lo := [(0, .ref 56), (1, vi 1), (2, vi 0)]) ⟨rfl, rfl, rfl, trivial⟩ rfl ?_
  refine wl_2 (fun x1 x2 h3 => GI h3 ∧ FR [(59, 59, none), (60, 60, none)] h h3 ∧ FR [(59, 59, none), (60, 60, none)] h h3 ∧ ((-2147483648 ≤ x1 ∧ x1 ≤ 2147483647) ∧ (0 ≤ x2 ∧ x2 ≤ 4))) (fun x1 x2 h3 => ((4 : Int) + 1 - x2).toNat) (fun x1 x2 h3 => (4, [(0, .ref 56), (1, vi x1), (2, vi x2)], [], hp_w h3 cr, b, c)) ?_ 1 0 h ⟨g, F0, FR.refl, (show (-2147483648 ≤ 1 ∧ 1 ≤ 2147483647) ∧ (0 ≤ 0 ∧ 0 ≤ 4) by omega)⟩
  intro x1 x2 h3 ⟨g3, F4, u3, f3⟩ I3
  refine wi_iload_n (i := 2) (e := x2) (nx := 5) (r1 := 0) (r2 := 0) (r3 := 0) rfl rfl ?_
  refine wi_iconst (n := 4) (nx := 6) (r1 := 0) (r2 := 0) (r3 := 0) rfl ?_
  refine wi_icmp (cd := .ge) (nx := 9) (r1 := 46) (r2 := 0) (r3 := 0) rfl (by omega) (by omega) (fun (q5 : 4 ≤ x2) => ?_) (fun (q5 : ¬ (4 ≤ x2)) => ?_)
  ·
    refine wi_iload_n (i := 1) (e := x1) (nx := 47) (r1 := 0) (r2 := 0) (r3 := 0) rfl rfl ?_
    refine wi_ireturn (nx := 48) (r1 := 0) (r2 := 0) (r3 := 0) rfl rfl ?_
    exact k h3 x1 g3 F4 (by omega)
  ·
    refine wi_aload_n (i := 0) (x := 56) (nx := 10) (r1 := 0) (r2 := 0) (r3 := 0) rfl rfl ?_
    refine wr_gr (k0 := 56) (x := 59) (nx := 13) (r1 := 6) (r2 := 4) (r3 := 0) rfl rfl (by decide) rfl ⟨rfl, rfl⟩ rfl ?_
    refine wi_iload_n (i := 2) (e := x2) (nx := 14) (r1 := 0) (r2 := 0) (r3 := 0) rfl rfl ?_
    refine wi_iconst (n := 0) (nx := 15) (r1 := 0) (r2 := 0) (r3 := 0) rfl ?_
    obtain ⟨i6, ei6⟩ : ∃ q : Nat, x2 = (q : Int) := ⟨(x2).toNat, by omega⟩
    refine wr_is (k0 := 59) (a := x2) (f := i6) (x := 0) (bl := -2147483648) (bh := 2147483647) (nx := 16) (r1 := 0) (r2 := 0) (r3 := 0) rfl (by decide) rfl (by omega) (by omega) (by decide) g3 rfl (by omega) (fun h7 g7 w7 u7 => ?_)
    have F8 := F4.then rfl (FR.rngp (lo := 59) (hi := 59) u7 (by decide))
    have F9 := u3.then rfl (FR.rngp (lo := 59) (hi := 59) u7 (by decide))
    refine wi_aload_n (i := 0) (x := 56) (nx := 17) (r1 := 0) (r2 := 0) (r3 := 0) rfl rfl ?_
    refine wr_gr (k0 := 56) (x := 60) (nx := 20) (r1 := 6) (r2 := 5) (r3 := 0) rfl rfl (by decide) rfl ⟨rfl, rfl⟩ rfl ?_
    refine wi_iload_n (i := 2) (e := x2) (nx := 21) (r1 := 0) (r2 := 0) (r3 := 0) rfl rfl ?_
    refine wi_iload_n (i := 1) (e := x1) (nx := 22) (r1 := 0) (r2 := 0) (r3 := 0) rfl rfl ?_
    refine wr_is (k0 := 60) (a := x2) (f := i6) (x := x1) (bl := -2147483648) (bh := 2147483647) (nx := 23) (r1 := 0) (r2 := 0) (r3 := 0) rfl (by decide) rfl (by omega) (by omega) (by decide) g7 rfl (by omega) (fun h10 g10 w10 u10 => ?_)
    have F11 := F8.then rfl (FR.rngp (lo := 60) (hi := 60) u10 (by decide))
    have F12 := F9.then rfl (FR.rngp (lo := 60) (hi := 60) u10 (by decide))
    refine wi_iload_n (i := 1) (e := x1) (nx := 24) (r1 := 0) (r2 := 0) (r3 := 0) rfl rfl ?_
    refine wi_aload_n (i := 0) (x := 56) (nx := 25) (r1 := 0) (r2 := 0) (r3 := 0) rfl rfl ?_
    refine wr_gr (k0 := 56) (x := 18) (nx := 28) (r1 := 6) (r2 := 1) (r3 := 0) rfl rfl (by decide) rfl ⟨rfl, rfl⟩ rfl ?_
    refine wr_gr (k0 := 18) (x := 21) (nx := 31) (r1 := 4) (r2 := 3) (r3 := 0) rfl rfl (by decide) rfl ⟨rfl, rfl⟩ rfl ?_
    refine wi_iload_n (i := 2) (e := x2) (nx := 32) (r1 := 0) (r2 := 0) (r3 := 0) rfl rfl ?_
    refine wr_aa (k0 := 21) (a := x2) (f := i6) (x := 21 + 8 + 2 * i6) (nx := 33) (r1 := 0) (r2 := 0) (r3 := 0) rfl (by decide) rfl (Or.inl rfl) (by omega) (by omega) (by decide) (hcr.1 21 (by decide) i6 (by omega)) ?_
    obtain ⟨k13, kk13, mk13⟩ : ∃ q, Rw q ∧ q = 21 + 8 + 2 * i6 := ⟨_, rw_lane 21 (by decide) i6 (by omega), rfl⟩
    rw [← mk13]
    have b14 := gi_b (lo := 0) (hi := 12) g k13 1 kk13.2.2.2.1
    refine wr_gi0 (k0 := k13) (x := h k13 1) (nx := 36) (r1 := 5) (r2 := 1) (r3 := 0) rfl rfl kk13.k kk13.1 ⟨rfl, rfl⟩ rfl ((u10 k13 1 (fn_a (by omega) fn_0)).trans ((u7 k13 1 (fn_a (by omega) fn_0)).trans (u3 k13 1 (fn_a (by omega) (fn_a (by omega) fn_0))))) ?_
    refine wi_iconst (n := 1) (nx := 37) (r1 := 0) (r2 := 0) (r3 := 0) rfl ?_
    refine wr_add (nx := 38) (r1 := 0) (r2 := 0) (r3 := 0) rfl (fun e15 (fe15 : e15 = (h k13 1) + 1) => ?_)
    refine wr_mulW (nx := 39) (r1 := 0) (r2 := 0) (r3 := 0) rfl (fun e16 (fe16 : -2147483648 ≤ e16 ∧ e16 ≤ 2147483647) => ?_)
    refine wi_istore_n (i := 1) (e := e16) (lo2 := [(1, vi e16), (0, .ref 56), (2, vi x2)]) (nx := 40) (r1 := 0) (r2 := 0) (r3 := 0) rfl rfl ?_
    refine wr_iinc (i := 2) (n := 1) (v := x2) (fun e17 => [(2, vi e17), (1, vi e16), (0, .ref 56)]) (nx := 43) (r1 := 0) (r2 := 0) (r3 := 0) rfl rfl (fun _ => rfl) (fun e17 (fe17 : e17 = x2 + 1) => ?_)
    refine wi_goto (nx := 46) (r1 := 4) (r2 := 0) (r3 := 0) rfl ?_
    refine wp.lo (lo := [(0, .ref 56), (1, vi e16), (2, vi e17)]) ⟨rfl, rfl, rfl, trivial⟩ rfl ?_
    exact I3 e16 e17 h10 ⟨g10, F11, F12, (show (-2147483648 ≤ e16 ∧ e16 ≤ 2147483647) ∧ (0 ≤ e17 ∧ e17 ≤ 4) by omega)⟩ (show ((4 : Int) + 1 - e17).toNat < ((4 : Int) + 1 - x2).toNat by omega)
-- method 163: Unloading.forgetWorths(I)V
set_option maxRecDepth 100000 in
set_option maxHeartbeats 100000000 in
theorem ct_163_56 {L : Nat} {xs : Nat → Int32} {d b c : Nat} {h : hp} {cr : Nat → Nat → Option Nat} {Q : hp_Q} (hcr : CR cr)  (g : GI h) (a0 : Int) (q0_ : -2147483648 ≤ a0 ∧ a0 ≤ 2147483647)  (k : ∀ (h2 : hp) , GI h2 → FR [(57, 57, none)] h h2 → Q (.inl none) (hp_w h2 cr) b c) : wp (md_xa (L, xs)) (d + 1) 163 (0, [(0, .ref 56), (1, vi a0)], [], hp_w h cr, b, c) Q := by
  have F0 : FR [(57, 57, none)] h h := FR.refl
  refine wi_iload_n (i := 1) (e := a0) (nx := 1) (r1 := 0) (r2 := 0) (r3 := 0) rfl rfl ?_
  refine wi_iconst (n := 5) (nx := 2) (r1 := 0) (r2 := 0) (r3 := 0) rfl ?_
  refine wr_mulW (nx := 3) (r1 := 0) (r2 := 0) (r3 := 0) rfl (fun e1 (fe1 : -2147483648 ≤ e1 ∧ e1 ≤ 2147483647) => ?_)
  refine wi_bipush (n := 9) (nx := 5) (r1 := 0) (r2 := 0) (r3 := 0) rfl (by decide) ?_
  refine wr_mulW (nx := 6) (r1 := 0) (r2 := 0) (r3 := 0) rfl (fun e2 (fe2 : -2147483648 ≤ e2 ∧ e2 ≤ 2147483647) => ?_)
  refine wi_aload_n (i := 0) (x := 56) (nx := 7) (r1 := 0) (r2 := 0) (r3 := 0) rfl rfl ?_
  refine wr_gr (k0 := 56) (x := 57) (nx := 10) (r1 := 6) (r2 := 2) (r3 := 0) rfl rfl (by decide) rfl ⟨rfl, rfl⟩ rfl ?_
  refine wr_al (k0 := 57) (e := 11520) (nx := 11) (r1 := 0) (r2 := 0) (r3 := 0) rfl (by decide) rfl rfl ?_
  refine wi_S (rest := []) (as := [vi e2, vi 11520]) (nx := 14) (r1 := 355) (r2 := 18) (r3 := 0) rfl rfl rfl (of_decide_eq_true rfl) rfl rfl (of_decide_eq_true rfl) (of_decide_eq_true rfl) ?_
  refine wi_iload_n (i := 0) (e := e2) (nx := 1) (r1 := 0) (r2 := 0) (r3 := 0) rfl rfl ?_
  refine wi_iload_n (i := 1) (e := 11520) (nx := 2) (r1 := 0) (r2 := 0) (r3 := 0) rfl rfl ?_
  refine wi_icmp (cd := .gt) (nx := 5) (r1 := 9) (r2 := 0) (r3 := 0) rfl (by omega) (by omega) (fun (q3 : 11520 < e2) => ?_) (fun (q3 : ¬ (11520 < e2)) => ?_)
  ·
    refine wi_iload_n (i := 1) (e := 11520) (nx := 10) (r1 := 0) (r2 := 0) (r3 := 0) rfl rfl ?_
    refine wi_ireturn (nx := 11) (r1 := 0) (r2 := 0) (r3 := 0) rfl rfl ?_
    refine wk_i ?_
    refine wi_istore_n (i := 2) (e := 11520) (lo2 := [(2, vi 11520), (0, .ref 56), (1, vi a0)]) (nx := 15) (r1 := 0) (r2 := 0) (r3 := 0) rfl rfl ?_
    refine wi_iconst (n := 0) (nx := 16) (r1 := 0) (r2 := 0) (r3 := 0) rfl ?_
    refine wi_istore_n (i := 3) (e := 0) (lo2 := [(3, vi 0), (2, vi 11520), (0, .ref 56), (1, vi a0)]) (nx := 17) (r1 := 0) (r2 := 0) (r3 := 0) rfl rfl ?_
    refine wp.lo (lo := [(0, .ref 56), (2, vi 11520), (3, vi 0)]) ⟨rfl, rfl, rfl, trivial⟩ rfl ?_
    refine wl_1 (fun x4 h5 => GI h5 ∧ FR [(57, 57, none)] h h5 ∧ FR [(57, 57, none)] h h5 ∧ ((0 ≤ x4 ∧ x4 ≤ 11520))) (fun x4 h5 => ((11520 : Int) + 1 - x4).toNat) (fun x4 h5 => (17, [(0, .ref 56), (2, vi 11520), (3, vi x4)], [], hp_w h5 cr, b, c)) ?_ 0 h ⟨g, F0, FR.refl, (show (0 ≤ 0 ∧ 0 ≤ 11520) by omega)⟩
    intro x4 h5 ⟨g5, F6, u5, f5⟩ I5
    refine wi_iload_n (i := 3) (e := x4) (nx := 18) (r1 := 0) (r2 := 0) (r3 := 0) rfl rfl ?_
    refine wi_iload_n (i := 2) (e := 11520) (nx := 19) (r1 := 0) (r2 := 0) (r3 := 0) rfl rfl ?_
    refine wi_icmp (cd := .ge) (nx := 22) (r1 := 35) (r2 := 0) (r3 := 0) rfl (by omega) (by omega) (fun (q7 : 11520 ≤ x4) => ?_) (fun (q7 : ¬ (11520 ≤ x4)) => ?_)
    ·
      refine wi_return (nx := 36) (r1 := 0) (r2 := 0) (r3 := 0) rfl rfl ?_
      exact k h5 g5 F6
    ·
      refine wi_aload_n (i := 0) (x := 56) (nx := 23) (r1 := 0) (r2 := 0) (r3 := 0) rfl rfl ?_
      refine wr_gr (k0 := 56) (x := 57) (nx := 26) (r1 := 6) (r2 := 2) (r3 := 0) rfl rfl (by decide) rfl ⟨rfl, rfl⟩ rfl ?_
      refine wi_iload_n (i := 3) (e := x4) (nx := 27) (r1 := 0) (r2 := 0) (r3 := 0) rfl rfl ?_
      refine wi_iconst (n := (-1)) (nx := 28) (r1 := 0) (r2 := 0) (r3 := 0) rfl ?_
      obtain ⟨i8, ei8⟩ : ∃ q : Nat, x4 = (q : Int) := ⟨(x4).toNat, by omega⟩
      refine wr_is (k0 := 57) (a := x4) (f := i8) (x := -1) (bl := -2147483648) (bh := 2147483647) (nx := 29) (r1 := 0) (r2 := 0) (r3 := 0) rfl (by decide) rfl (by omega) (by omega) (by decide) g5 rfl (by omega) (fun h9 g9 w9 u9 => ?_)
      have F10 := F6.then rfl (FR.rngp (lo := 57) (hi := 57) u9 (by decide))
      have F11 := u5.then rfl (FR.rngp (lo := 57) (hi := 57) u9 (by decide))
      refine wr_iinc (i := 3) (n := 1) (v := x4) (fun e12 => [(3, vi e12), (0, .ref 56), (2, vi 11520)]) (nx := 32) (r1 := 0) (r2 := 0) (r3 := 0) rfl rfl (fun _ => rfl) (fun e12 (fe12 : e12 = x4 + 1) => ?_)
      refine wi_goto (nx := 35) (r1 := 17) (r2 := 0) (r3 := 0) rfl ?_
      refine wp.lo (lo := [(0, .ref 56), (2, vi 11520), (3, vi e12)]) ⟨rfl, rfl, rfl, trivial⟩ rfl ?_
      exact I5 e12 h9 ⟨g9, F10, F11, (show (0 ≤ e12 ∧ e12 ≤ 11520) by omega)⟩ (show ((11520 : Int) + 1 - e12).toNat < ((11520 : Int) + 1 - x4).toNat by omega)
  ·
    refine wi_iload_n (i := 0) (e := e2) (nx := 6) (r1 := 0) (r2 := 0) (r3 := 0) rfl rfl ?_
    refine wi_goto (nx := 9) (r1 := 10) (r2 := 0) (r3 := 0) rfl ?_
    refine wi_ireturn (nx := 11) (r1 := 0) (r2 := 0) (r3 := 0) rfl rfl ?_
    refine wk_i ?_
    refine wi_istore_n (i := 2) (e := e2) (lo2 := [(2, vi e2), (0, .ref 56), (1, vi a0)]) (nx := 15) (r1 := 0) (r2 := 0) (r3 := 0) rfl rfl ?_
    refine wi_iconst (n := 0) (nx := 16) (r1 := 0) (r2 := 0) (r3 := 0) rfl ?_
    refine wi_istore_n (i := 3) (e := 0) (lo2 := [(3, vi 0), (2, vi e2), (0, .ref 56), (1, vi a0)]) (nx := 17) (r1 := 0) (r2 := 0) (r3 := 0) rfl rfl ?_
    refine wp.lo (lo := [(0, .ref 56), (2, vi e2), (3, vi 0)]) ⟨rfl, rfl, rfl, trivial⟩ rfl ?_
    refine wl_1 (fun x4 h5 => GI h5 ∧ FR [(57, 57, none)] h h5 ∧ FR [(57, 57, none)] h h5 ∧ ((0 ≤ x4 ∧ x4 ≤ 11520))) (fun x4 h5 => ((11520 : Int) + 1 - x4).toNat) (fun x4 h5 => (17, [(0, .ref 56), (2, vi e2), (3, vi x4)], [], hp_w h5 cr, b, c)) ?_ 0 h ⟨g, F0, FR.refl, (show (0 ≤ 0 ∧ 0 ≤ 11520) by omega)⟩
    intro x4 h5 ⟨g5, F6, u5, f5⟩ I5
    refine wi_iload_n (i := 3) (e := x4) (nx := 18) (r1 := 0) (r2 := 0) (r3 := 0) rfl rfl ?_
    refine wi_iload_n (i := 2) (e := e2) (nx := 19) (r1 := 0) (r2 := 0) (r3 := 0) rfl rfl ?_
    refine wi_icmp (cd := .ge) (nx := 22) (r1 := 35) (r2 := 0) (r3 := 0) rfl (by omega) (by omega) (fun (q7 : e2 ≤ x4) => ?_) (fun (q7 : ¬ (e2 ≤ x4)) => ?_)
    ·
      refine wi_return (nx := 36) (r1 := 0) (r2 := 0) (r3 := 0) rfl rfl ?_
      exact k h5 g5 F6
    ·
      refine wi_aload_n (i := 0) (x := 56) (nx := 23) (r1 := 0) (r2 := 0) (r3 := 0) rfl rfl ?_
      refine wr_gr (k0 := 56) (x := 57) (nx := 26) (r1 := 6) (r2 := 2) (r3 := 0) rfl rfl (by decide) rfl ⟨rfl, rfl⟩ rfl ?_
      refine wi_iload_n (i := 3) (e := x4) (nx := 27) (r1 := 0) (r2 := 0) (r3 := 0) rfl rfl ?_
      refine wi_iconst (n := (-1)) (nx := 28) (r1 := 0) (r2 := 0) (r3 := 0) rfl ?_
      obtain ⟨i8, ei8⟩ : ∃ q : Nat, x4 = (q : Int) := ⟨(x4).toNat, by omega⟩
      refine wr_is (k0 := 57) (a := x4) (f := i8) (x := -1) (bl := -2147483648) (bh := 2147483647) (nx := 29) (r1 := 0) (r2 := 0) (r3 := 0) rfl (by decide) rfl (by omega) (by omega) (by decide) g5 rfl (by omega) (fun h9 g9 w9 u9 => ?_)
      have F10 := F6.then rfl (FR.rngp (lo := 57) (hi := 57) u9 (by decide))
      have F11 := u5.then rfl (FR.rngp (lo := 57) (hi := 57) u9 (by decide))
      refine wr_iinc (i := 3) (n := 1) (v := x4) (fun e12 => [(3, vi e12), (0, .ref 56), (2, vi e2)]) (nx := 32) (r1 := 0) (r2 := 0) (r3 := 0) rfl rfl (fun _ => rfl) (fun e12 (fe12 : e12 = x4 + 1) => ?_)
      refine wi_goto (nx := 35) (r1 := 17) (r2 := 0) (r3 := 0) rfl ?_
      refine wp.lo (lo := [(0, .ref 56), (2, vi e2), (3, vi e12)]) ⟨rfl, rfl, rfl, trivial⟩ rfl ?_
      exact I5 e12 h9 ⟨g9, F10, F11, (show (0 ≤ e12 ∧ e12 ≤ 11520) by omega)⟩ (show ((11520 : Int) + 1 - e12).toNat < ((11520 : Int) + 1 - x4).toNat by omega)
-- method 165: Unloading.keyOf(III)I
set_option maxRecDepth 100000 in
set_option maxHeartbeats 100000000 in
theorem ct_165_56 {L : Nat} {xs : Nat → Int32} {d b c : Nat} {h : hp} {cr : Nat → Nat → Option Nat} {Q : hp_Q} (hcr : CR cr)  (g : GI h) (a0 : Int) (a1 : Int) (a2 : Int) (q0_ : -2147483648 ≤ a0 ∧ a0 ≤ 2147483647) (q1_ : -2147483648 ≤ a1 ∧ a1 ≤ 2147483647) (q2_ : -2147483648 ≤ a2 ∧ a2 ≤ 2147483647)  (k : ∀ (z0 : Int), (0 ≤ z0 ∧ z0 ≤ 11519) → Q (.inl (some (vi z0))) (hp_w h cr) b c) : wp (md_xa (L, xs)) (d + 1) 165 (0, [(0, .ref 56), (1, vi a0), (2, vi a1), (3, vi a2)], [], hp_w h cr, b, c) Q := by
  have F0 : FR [] h h := FR.refl
  refine wi_iload_n (i := 1) (e := a0) (nx := 1) (r1 := 0) (r2 := 0) (r3 := 0) rfl rfl ?_
  refine wi_if (cd := .ne) (nx := 4) (r1 := 8) (r2 := 0) (r3 := 0) rfl (by omega) (fun (q1 : a0 ≠ 0) => ?_) (fun (q1 : ¬ (a0 ≠ 0)) => ?_)
  ·
    refine wi_iload_n (i := 1) (e := a0) (nx := 9) (r1 := 0) (r2 := 0) (r3 := 0) rfl rfl ?_
    refine wi_iconst (n := 5) (nx := 10) (r1 := 0) (r2 := 0) (r3 := 0) rfl ?_
    refine wr_mulW (nx := 11) (r1 := 0) (r2 := 0) (r3 := 0) rfl (fun e2 (fe2 : -2147483648 ≤ e2 ∧ e2 ≤ 2147483647) => ?_)
    refine wi_iload_n (i := 2) (e := a1) (nx := 12) (r1 := 0) (r2 := 0) (r3 := 0) rfl rfl ?_
    refine wr_addW (nx := 13) (r1 := 0) (r2 := 0) (r3 := 0) rfl (fun e3 (fe3 : -2147483648 ≤ e3 ∧ e3 ≤ 2147483647) => ?_)
    refine wi_bipush (n := 9) (nx := 15) (r1 := 0) (r2 := 0) (r3 := 0) rfl (by decide) ?_
    refine wr_mulW (nx := 16) (r1 := 0) (r2 := 0) (r3 := 0) rfl (fun e4 (fe4 : -2147483648 ≤ e4 ∧ e4 ≤ 2147483647) => ?_)
    refine wi_iload_n (i := 3) (e := a2) (nx := 17) (r1 := 0) (r2 := 0) (r3 := 0) rfl rfl ?_
    refine wr_addW (nx := 18) (r1 := 0) (r2 := 0) (r3 := 0) rfl (fun e5 (fe5 : -2147483648 ≤ e5 ∧ e5 ≤ 2147483647) => ?_)
    refine wi_iconst (n := 1) (nx := 19) (r1 := 0) (r2 := 0) (r3 := 0) rfl ?_
    refine wr_subW (nx := 20) (r1 := 0) (r2 := 0) (r3 := 0) rfl (fun e6 (fe6 : -2147483648 ≤ e6 ∧ e6 ≤ 2147483647) => ?_)
    refine wi_istore (i := 4) (e := e6) (lo2 := [(4, vi e6), (0, .ref 56), (1, vi a0), (2, vi a1), (3, vi a2)]) (nx := 22) (r1 := 0) (r2 := 0) (r3 := 0) rfl rfl ?_
    refine wi_iload (i := 4) (e := e6) (nx := 24) (r1 := 0) (r2 := 0) (r3 := 0) rfl rfl ?_
    refine wi_iconst (n := 0) (nx := 25) (r1 := 0) (r2 := 0) (r3 := 0) rfl ?_
    refine wi_S (rest := []) (as := [vi e6, vi 0]) (nx := 28) (r1 := 354) (r2 := 18) (r3 := 0) rfl rfl rfl (of_decide_eq_true rfl) rfl rfl (of_decide_eq_true rfl) (of_decide_eq_true rfl) ?_
    refine wi_iload_n (i := 0) (e := e6) (nx := 1) (r1 := 0) (r2 := 0) (r3 := 0) rfl rfl ?_
    refine wi_iload_n (i := 1) (e := 0) (nx := 2) (r1 := 0) (r2 := 0) (r3 := 0) rfl rfl ?_
    refine wi_icmp (cd := .lt) (nx := 5) (r1 := 9) (r2 := 0) (r3 := 0) rfl (by omega) (by omega) (fun (q7 : e6 < 0) => ?_) (fun (q7 : ¬ (e6 < 0)) => ?_)
    ·
      refine wi_iload_n (i := 1) (e := 0) (nx := 10) (r1 := 0) (r2 := 0) (r3 := 0) rfl rfl ?_
      refine wi_ireturn (nx := 11) (r1 := 0) (r2 := 0) (r3 := 0) rfl rfl ?_
      refine wk_i ?_
      refine wi_aload_n (i := 0) (x := 56) (nx := 29) (r1 := 0) (r2 := 0) (r3 := 0) rfl rfl ?_
      refine wr_gr (k0 := 56) (x := 57) (nx := 32) (r1 := 6) (r2 := 2) (r3 := 0) rfl rfl (by decide) rfl ⟨rfl, rfl⟩ rfl ?_
      refine wr_al (k0 := 57) (e := 11520) (nx := 33) (r1 := 0) (r2 := 0) (r3 := 0) rfl (by decide) rfl rfl ?_
      refine wi_iconst (n := 1) (nx := 34) (r1 := 0) (r2 := 0) (r3 := 0) rfl ?_
      refine wr_subL (11519) (nx := 35) (r1 := 0) (r2 := 0) (r3 := 0) rfl (by decide) ?_
      refine wi_S (rest := []) (as := [vi 0, vi 11519]) (nx := 38) (r1 := 355) (r2 := 18) (r3 := 0) rfl rfl rfl (of_decide_eq_true rfl) rfl rfl (of_decide_eq_true rfl) (of_decide_eq_true rfl) ?_
      refine wi_iload_n (i := 0) (e := 0) (nx := 1) (r1 := 0) (r2 := 0) (r3 := 0) rfl rfl ?_
      refine wi_iload_n (i := 1) (e := 11519) (nx := 2) (r1 := 0) (r2 := 0) (r3 := 0) rfl rfl ?_
      refine wi_icmp (cd := .gt) (nx := 5) (r1 := 9) (r2 := 0) (r3 := 0) rfl (by omega) (by omega) (fun (q8 : 11519 < 0) => by exfalso; omega) (fun (q8 : ¬ (11519 < 0)) => ?_)
      refine wi_iload_n (i := 0) (e := 0) (nx := 6) (r1 := 0) (r2 := 0) (r3 := 0) rfl rfl ?_
      refine wi_goto (nx := 9) (r1 := 10) (r2 := 0) (r3 := 0) rfl ?_
      refine wi_ireturn (nx := 11) (r1 := 0) (r2 := 0) (r3 := 0) rfl rfl ?_
      refine wk_i ?_
      refine wi_ireturn (nx := 39) (r1 := 0) (r2 := 0) (r3 := 0) rfl rfl ?_
      exact k 0 (by omega)
    ·
      refine wi_iload_n (i := 0) (e := e6) (nx := 6) (r1 := 0) (r2 := 0) (r3 := 0) rfl rfl ?_
      refine wi_goto (nx := 9) (r1 := 10) (r2 := 0) (r3 := 0) rfl ?_
      refine wi_ireturn (nx := 11) (r1 := 0) (r2 := 0) (r3 := 0) rfl rfl ?_
      refine wk_i ?_
      refine wi_aload_n (i := 0) (x := 56) (nx := 29) (r1 := 0) (r2 := 0) (r3 := 0) rfl rfl ?_
      refine wr_gr (k0 := 56) (x := 57) (nx := 32) (r1 := 6) (r2 := 2) (r3 := 0) rfl rfl (by decide) rfl ⟨rfl, rfl⟩ rfl ?_
      refine wr_al (k0 := 57) (e := 11520) (nx := 33) (r1 := 0) (r2 := 0) (r3 := 0) rfl (by decide) rfl rfl ?_
      refine wi_iconst (n := 1) (nx := 34) (r1 := 0) (r2 := 0) (r3 := 0) rfl ?_
      refine wr_subL (11519) (nx := 35) (r1 := 0) (r2 := 0) (r3 := 0) rfl (by decide) ?_
      refine wi_S (rest := []) (as := [vi e6, vi 11519]) (nx := 38) (r1 := 355) (r2 := 18) (r3 := 0) rfl rfl rfl (of_decide_eq_true rfl) rfl rfl (of_decide_eq_true rfl) (of_decide_eq_true rfl) ?_
      refine wi_iload_n (i := 0) (e := e6) (nx := 1) (r1 := 0) (r2 := 0) (r3 := 0) rfl rfl ?_
      refine wi_iload_n (i := 1) (e := 11519) (nx := 2) (r1 := 0) (r2 := 0) (r3 := 0) rfl rfl ?_
      refine wi_icmp (cd := .gt) (nx := 5) (r1 := 9) (r2 := 0) (r3 := 0) rfl (by omega) (by omega) (fun (q8 : 11519 < e6) => ?_) (fun (q8 : ¬ (11519 < e6)) => ?_)
      ·
        refine wi_iload_n (i := 1) (e := 11519) (nx := 10) (r1 := 0) (r2 := 0) (r3 := 0) rfl rfl ?_
        refine wi_ireturn (nx := 11) (r1 := 0) (r2 := 0) (r3 := 0) rfl rfl ?_
        refine wk_i ?_
        refine wi_ireturn (nx := 39) (r1 := 0) (r2 := 0) (r3 := 0) rfl rfl ?_
        exact k 11519 (by omega)
      ·
        refine wi_iload_n (i := 0) (e := e6) (nx := 6) (r1 := 0) (r2 := 0) (r3 := 0) rfl rfl ?_
        refine wi_goto (nx := 9) (r1 := 10) (r2 := 0) (r3 := 0) rfl ?_
        refine wi_ireturn (nx := 11) (r1 := 0) (r2 := 0) (r3 := 0) rfl rfl ?_
        refine wk_i ?_
        refine wi_ireturn (nx := 39) (r1 := 0) (r2 := 0) (r3 := 0) rfl rfl ?_
        exact k e6 (by omega)
  ·
    refine wi_iconst (n := 0) (nx := 5) (r1 := 0) (r2 := 0) (r3 := 0) rfl ?_
    refine wi_goto (nx := 8) (r1 := 20) (r2 := 0) (r3 := 0) rfl ?_
    refine wi_istore (i := 4) (e := 0) (lo2 := [(4, vi 0), (0, .ref 56), (1, vi a0), (2, vi a1), (3, vi a2)]) (nx := 22) (r1 := 0) (r2 := 0) (r3 := 0) rfl rfl ?_
    refine wi_iload (i := 4) (e := 0) (nx := 24) (r1 := 0) (r2 := 0) (r3 := 0) rfl rfl ?_
    refine wi_iconst (n := 0) (nx := 25) (r1 := 0) (r2 := 0) (r3 := 0) rfl ?_
    refine wi_S (rest := []) (as := [vi 0, vi 0]) (nx := 28) (r1 := 354) (r2 := 18) (r3 := 0) rfl rfl rfl (of_decide_eq_true rfl) rfl rfl (of_decide_eq_true rfl) (of_decide_eq_true rfl) ?_
    refine wi_iload_n (i := 0) (e := 0) (nx := 1) (r1 := 0) (r2 := 0) (r3 := 0) rfl rfl ?_
    refine wi_iload_n (i := 1) (e := 0) (nx := 2) (r1 := 0) (r2 := 0) (r3 := 0) rfl rfl ?_
    refine wi_icmp (cd := .lt) (nx := 5) (r1 := 9) (r2 := 0) (r3 := 0) rfl (by omega) (by omega) (fun (q2 : 0 < 0) => by exfalso; omega) (fun (q2 : ¬ (0 < 0)) => ?_)
    refine wi_iload_n (i := 0) (e := 0) (nx := 6) (r1 := 0) (r2 := 0) (r3 := 0) rfl rfl ?_
    refine wi_goto (nx := 9) (r1 := 10) (r2 := 0) (r3 := 0) rfl ?_
    refine wi_ireturn (nx := 11) (r1 := 0) (r2 := 0) (r3 := 0) rfl rfl ?_
    refine wk_i ?_
    refine wi_aload_n (i := 0) (x := 56) (nx := 29) (r1 := 0) (r2 := 0) (r3 := 0) rfl rfl ?_
    refine wr_gr (k0 := 56) (x := 57) (nx := 32) (r1 := 6) (r2 := 2) (r3 := 0) rfl rfl (by decide) rfl ⟨rfl, rfl⟩ rfl ?_
    refine wr_al (k0 := 57) (e := 11520) (nx := 33) (r1 := 0) (r2 := 0) (r3 := 0) rfl (by decide) rfl rfl ?_
    refine wi_iconst (n := 1) (nx := 34) (r1 := 0) (r2 := 0) (r3 := 0) rfl ?_
    refine wr_subL (11519) (nx := 35) (r1 := 0) (r2 := 0) (r3 := 0) rfl (by decide) ?_
    refine wi_S (rest := []) (as := [vi 0, vi 11519]) (nx := 38) (r1 := 355) (r2 := 18) (r3 := 0) rfl rfl rfl (of_decide_eq_true rfl) rfl rfl (of_decide_eq_true rfl) (of_decide_eq_true rfl) ?_
    refine wi_iload_n (i := 0) (e := 0) (nx := 1) (r1 := 0) (r2 := 0) (r3 := 0) rfl rfl ?_
    refine wi_iload_n (i := 1) (e := 11519) (nx := 2) (r1 := 0) (r2 := 0) (r3 := 0) rfl rfl ?_
    refine wi_icmp (cd := .gt) (nx := 5) (r1 := 9) (r2 := 0) (r3 := 0) rfl (by omega) (by omega) (fun (q3 : 11519 < 0) => by exfalso; omega) (fun (q3 : ¬ (11519 < 0)) => ?_)
    refine wi_iload_n (i := 0) (e := 0) (nx := 6) (r1 := 0) (r2 := 0) (r3 := 0) rfl rfl ?_
    refine wi_goto (nx := 9) (r1 := 10) (r2 := 0) (r3 := 0) rfl ?_
    refine wi_ireturn (nx := 11) (r1 := 0) (r2 := 0) (r3 := 0) rfl rfl ?_
    refine wk_i ?_
    refine wi_ireturn (nx := 39) (r1 := 0) (r2 := 0) (r3 := 0) rfl rfl ?_
    exact k 0 (by omega)
-- method 167: Unloading.fitsOut(II)Z
set_option maxRecDepth 100000 in
set_option maxHeartbeats 100000000 in
theorem ct_167_56 {L : Nat} {xs : Nat → Int32} {d b c : Nat} {h : hp} {cr : Nat → Nat → Option Nat} {Q : hp_Q} (hcr : CR cr)  (g : GI h) (a0 : Int) (a1 : Int) (q0_ : -2147483648 ≤ a0 ∧ a0 ≤ 2147483647) (q1_ : -2147483648 ≤ a1 ∧ a1 ≤ 2147483647)  (k : ∀ (z0 : Int), (0 ≤ z0 ∧ z0 ≤ 1) → Q (.inl (some (vi z0))) (hp_w h cr) b c) : wp (md_xa (L, xs)) d 167 (0, [(0, .ref 56), (1, vi a0), (2, vi a1)], [], hp_w h cr, b, c) Q := by
  have F0 : FR [] h h := FR.refl
  refine wi_iload_n (i := 2) (e := a1) (nx := 1) (r1 := 0) (r2 := 0) (r3 := 0) rfl rfl ?_
  refine wi_iload_n (i := 1) (e := a0) (nx := 2) (r1 := 0) (r2 := 0) (r3 := 0) rfl rfl ?_
  refine wi_aload_n (i := 0) (x := 56) (nx := 3) (r1 := 0) (r2 := 0) (r3 := 0) rfl rfl ?_
  refine wr_gr (k0 := 56) (x := 3) (nx := 6) (r1 := 6) (r2 := 0) (r3 := 0) rfl rfl (by decide) rfl ⟨rfl, rfl⟩ rfl ?_
  have b1 := gi_b (lo := -2147483648) (hi := 2147483647) g 3 3 rfl
  refine wr_gi0 (k0 := 3) (x := h 3 3) (nx := 9) (r1 := 2) (r2 := 3) (r3 := 0) rfl rfl (by decide) rfl ⟨rfl, rfl⟩ rfl rfl ?_
  refine wr_subW (nx := 10) (r1 := 0) (r2 := 0) (r3 := 0) rfl (fun e2 (fe2 : -2147483648 ≤ e2 ∧ e2 ≤ 2147483647) => ?_)
  refine wi_icmp (cd := .lt) (nx := 13) (r1 := 30) (r2 := 0) (r3 := 0) rfl (by omega) (by omega) (fun (q3 : a1 < e2) => ?_) (fun (q3 : ¬ (a1 < e2)) => ?_)
  ·
    refine wi_iconst (n := 0) (nx := 31) (r1 := 0) (r2 := 0) (r3 := 0) rfl ?_
    refine wi_zreturn (nx := 32) (r1 := 0) (r2 := 0) (r3 := 0) rfl rfl (by omega) ?_
    exact k 0 (by omega)
  ·
    refine wi_iload_n (i := 2) (e := a1) (nx := 14) (r1 := 0) (r2 := 0) (r3 := 0) rfl rfl ?_
    refine wi_iload_n (i := 1) (e := a0) (nx := 15) (r1 := 0) (r2 := 0) (r3 := 0) rfl rfl ?_
    refine wi_aload_n (i := 0) (x := 56) (nx := 16) (r1 := 0) (r2 := 0) (r3 := 0) rfl rfl ?_
    refine wr_gr (k0 := 56) (x := 3) (nx := 19) (r1 := 6) (r2 := 0) (r3 := 0) rfl rfl (by decide) rfl ⟨rfl, rfl⟩ rfl ?_
    have b4 := gi_b (lo := -2147483648) (hi := 2147483647) g 3 4 rfl
    refine wr_gi0 (k0 := 3) (x := h 3 4) (nx := 22) (r1 := 2) (r2 := 4) (r3 := 0) rfl rfl (by decide) rfl ⟨rfl, rfl⟩ rfl rfl ?_
    refine wr_addW (nx := 23) (r1 := 0) (r2 := 0) (r3 := 0) rfl (fun e5 (fe5 : -2147483648 ≤ e5 ∧ e5 ≤ 2147483647) => ?_)
    refine wi_icmp (cd := .gt) (nx := 26) (r1 := 30) (r2 := 0) (r3 := 0) rfl (by omega) (by omega) (fun (q6 : e5 < a1) => ?_) (fun (q6 : ¬ (e5 < a1)) => ?_)
    ·
      refine wi_iconst (n := 0) (nx := 31) (r1 := 0) (r2 := 0) (r3 := 0) rfl ?_
      refine wi_zreturn (nx := 32) (r1 := 0) (r2 := 0) (r3 := 0) rfl rfl (by omega) ?_
      exact k 0 (by omega)
    ·
      refine wi_iconst (n := 1) (nx := 27) (r1 := 0) (r2 := 0) (r3 := 0) rfl ?_
      refine wi_goto (nx := 30) (r1 := 31) (r2 := 0) (r3 := 0) rfl ?_
      refine wi_zreturn (nx := 32) (r1 := 0) (r2 := 0) (r3 := 0) rfl rfl (by omega) ?_
      exact k 1 (by omega)
