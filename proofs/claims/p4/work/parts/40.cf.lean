-- method 164: Unloading.worthOfRest(IIII)I
set_option maxRecDepth 100000 in
set_option maxHeartbeats 100000000 in
theorem cr_164_56 {L : Nat} {xs : Nat → Int32} {b c : Nat} {cr : Nat → Nat → Option Nat} (hcr : CR cr) (n : Nat) : ∀ {d : Nat} {h : hp} {Q : hp_Q} (g : GI h) (a0 : Int) (a1 : Int) (a2 : Int) (a3 : Int) (q0_ : 0 ≤ a0 ∧ a0 ≤ 48) (q1_ : -2147483648 ≤ a1 ∧ a1 ≤ 2147483647) (q2_ : -2147483648 ≤ a2 ∧ a2 ≤ 2147483647) (q3_ : -2147483648 ≤ a3 ∧ a3 ≤ 2147483647)  (hn : 48 - a0 ≤ n) (k : ∀ (h2 : hp) (z0 : Int) , GI h2 → FR [(57, 57, none), (58, 58, none), (59, 59, none)] h h2 → (-2147483648 ≤ z0 ∧ z0 ≤ 2147483647) → Q (.inl (some (vi z0))) (hp_w h2 cr) b c), wp (md_xa (L, xs)) (d + 2 * n + 5) 164 (0, [(0, .ref 56), (1, vi a0), (2, vi a1), (3, vi a2), (4, vi a3)], [], hp_w h cr, b, c) Q := by
  induction n using Nat.strongRecOn with
  | _ n IH =>
  intro d h Q g a0 a1 a2 a3 q0_ q1_ q2_ q3_  hn k
  have F0 : FR [(57, 57, none), (58, 58, none), (59, 59, none)] h h := FR.refl
  refine wi_iload_n (i := 1) (e := a0) (nx := 1) (r1 := 0) (r2 := 0) (r3 := 0) rfl rfl ?_
  refine wi_aload_n (i := 0) (x := 56) (nx := 2) (r1 := 0) (r2 := 0) (r3 := 0) rfl rfl ?_
  have b1 := gi_b (lo := 0) (hi := 48) g 56 6 rfl
  refine wr_gi0 (k0 := 56) (x := h 56 6) (nx := 5) (r1 := 6) (r2 := 6) (r3 := 0) rfl rfl (by decide) rfl ⟨rfl, rfl⟩ rfl rfl ?_
  refine wi_icmp (cd := .lt) (nx := 8) (r1 := 10) (r2 := 0) (r3 := 0) rfl (by omega) (by omega) (fun (q2 : a0 < (h 56 6)) => ?_) (fun (q2 : ¬ (a0 < (h 56 6))) => ?_)
  ·
    refine wi_aload_n (i := 0) (x := 56) (nx := 11) (r1 := 0) (r2 := 0) (r3 := 0) rfl rfl ?_
    refine wi_iload_n (i := 2) (e := a1) (nx := 12) (r1 := 0) (r2 := 0) (r3 := 0) rfl rfl ?_
    refine wi_iload_n (i := 3) (e := a2) (nx := 13) (r1 := 0) (r2 := 0) (r3 := 0) rfl rfl ?_
    refine wi_iload (i := 4) (e := a3) (nx := 15) (r1 := 0) (r2 := 0) (r3 := 0) rfl rfl ?_
    refine wr_V (k0 := 56) (rest := []) (as := [.ref 56, vi a1, vi a2, vi a3]) (nx := 18) (r1 := 165) (r2 := 3) (r3 := 6) rfl rfl rfl (of_decide_eq_true rfl) rfl rfl (by decide) rfl rfl (of_decide_eq_true rfl) (of_decide_eq_true rfl) ?_
    refine ct_165_56 hcr  g a1 a2 a3 (by omega) (by omega) (by omega)  (fun z4  (fz4 : 0 ≤ z4 ∧ z4 ≤ 11519) => ?_)
    refine wk_i ?_
    refine wi_istore (i := 5) (e := z4) (lo2 := [(5, vi z4), (0, .ref 56), (1, vi a0), (2, vi a1), (3, vi a2), (4, vi a3)]) (nx := 20) (r1 := 0) (r2 := 0) (r3 := 0) rfl rfl ?_
    refine wi_aload_n (i := 0) (x := 56) (nx := 21) (r1 := 0) (r2 := 0) (r3 := 0) rfl rfl ?_
    refine wr_gr (k0 := 56) (x := 57) (nx := 24) (r1 := 6) (r2 := 2) (r3 := 0) rfl rfl (by decide) rfl ⟨rfl, rfl⟩ rfl ?_
    refine wi_iload (i := 5) (e := z4) (nx := 26) (r1 := 0) (r2 := 0) (r3 := 0) rfl rfl ?_
    obtain ⟨i5, ei5⟩ : ∃ q : Nat, z4 = (q : Int) := ⟨(z4).toNat, by omega⟩
    have b6 := gi_b (lo := -2147483648) (hi := 2147483647) g 57 i5 rfl
    refine wr_ia (k0 := 57) (a := z4) (f := i5) (x := h 57 i5) (nx := 27) (r1 := 0) (r2 := 0) (r3 := 0) rfl (by decide) rfl (by omega) (by omega) (by decide) rfl ?_
    refine wi_iconst (n := (-1)) (nx := 28) (r1 := 0) (r2 := 0) (r3 := 0) rfl ?_
    refine wi_icmp (cd := .eq) (nx := 31) (r1 := 39) (r2 := 0) (r3 := 0) rfl (by omega) (by omega) (fun (q7 : (h 57 i5) = (-1)) => ?_) (fun (q7 : ¬ ((h 57 i5) = (-1))) => ?_)
    ·
      refine wi_ldc (e := 1048576) (nx := 41) (r1 := 0) (r2 := 1048576) (r3 := 0) rfl rfl (by decide) ?_
      refine wi_istore (i := 6) (e := 1048576) (lo2 := [(6, vi 1048576), (5, vi z4), (0, .ref 56), (1, vi a0), (2, vi a1), (3, vi a2), (4, vi a3)]) (nx := 43) (r1 := 0) (r2 := 0) (r3 := 0) rfl rfl ?_
      refine wi_iconst (n := 0) (nx := 44) (r1 := 0) (r2 := 0) (r3 := 0) rfl ?_
      refine wi_istore (i := 7) (e := 0) (lo2 := [(7, vi 0), (6, vi 1048576), (5, vi z4), (0, .ref 56), (1, vi a0), (2, vi a1), (3, vi a2), (4, vi a3)]) (nx := 46) (r1 := 0) (r2 := 0) (r3 := 0) rfl rfl ?_
      refine wp.lo (lo := [(0, .ref 56), (1, vi a0), (2, vi a1), (3, vi a2), (4, vi a3), (5, vi z4), (6, vi 1048576), (7, vi 0)]) ⟨rfl, rfl, rfl, rfl, rfl, rfl, rfl, rfl, trivial⟩ rfl ?_
      refine wl_2 (fun x8 x9 h10 => GI h10 ∧ FR [(57, 57, none), (58, 58, none), (59, 59, none)] h h10 ∧ FR [(57, 57, none), (58, 58, none), (59, 59, none)] h h10 ∧ ((-2147483648 ≤ x8 ∧ x8 ≤ 1048576) ∧ (0 ≤ x9 ∧ x9 ≤ 4))) (fun x8 x9 h10 => ((4 : Int) + 1 - x9).toNat) (fun x8 x9 h10 => (46, [(0, .ref 56), (1, vi a0), (2, vi a1), (3, vi a2), (4, vi a3), (5, vi z4), (6, vi x8), (7, vi x9)], [], hp_w h10 cr, b, c)) ?_ 1048576 0 h ⟨g, F0, FR.refl, (show (-2147483648 ≤ 1048576 ∧ 1048576 ≤ 1048576) ∧ (0 ≤ 0 ∧ 0 ≤ 4) by omega)⟩
      intro x8 x9 h10 ⟨g10, F11, u10, f10⟩ I10
      refine wi_iload (i := 7) (e := x9) (nx := 48) (r1 := 0) (r2 := 0) (r3 := 0) rfl rfl ?_
      refine wi_aload_n (i := 0) (x := 56) (nx := 49) (r1 := 0) (r2 := 0) (r3 := 0) rfl rfl ?_
      refine wr_gr (k0 := 56) (x := 3) (nx := 52) (r1 := 6) (r2 := 0) (r3 := 0) rfl rfl (by decide) rfl ⟨rfl, rfl⟩ rfl ?_
      have b12 := gi_b (lo := 0) (hi := 4) g 3 1 rfl
      refine wr_gi0 (k0 := 3) (x := h 3 1) (nx := 55) (r1 := 2) (r2 := 1) (r3 := 0) rfl rfl (by decide) rfl ⟨rfl, rfl⟩ rfl (u10 3 1 rfl) ?_
      refine wi_icmp (cd := .ge) (nx := 58) (r1 := 98) (r2 := 0) (r3 := 0) rfl (by omega) (by omega) (fun (q13 : (h 3 1) ≤ x9) => ?_) (fun (q13 : ¬ ((h 3 1) ≤ x9)) => ?_)
      ·
        refine wi_aload_n (i := 0) (x := 56) (nx := 99) (r1 := 0) (r2 := 0) (r3 := 0) rfl rfl ?_
        refine wr_gr (k0 := 56) (x := 57) (nx := 102) (r1 := 6) (r2 := 2) (r3 := 0) rfl rfl (by decide) rfl ⟨rfl, rfl⟩ rfl ?_
        refine wi_iload (i := 5) (e := z4) (nx := 104) (r1 := 0) (r2 := 0) (r3 := 0) rfl rfl ?_
        refine wi_iload (i := 6) (e := x8) (nx := 106) (r1 := 0) (r2 := 0) (r3 := 0) rfl rfl ?_
        refine wr_is (k0 := 57) (a := z4) (f := i5) (x := x8) (bl := -2147483648) (bh := 2147483647) (nx := 107) (r1 := 0) (r2 := 0) (r3 := 0) rfl (by decide) rfl (by omega) (by omega) (by decide) g10 rfl (by omega) (fun h14 g14 w14 u14 => ?_)
        have F15 := F11.then rfl (FR.rngp (lo := 57) (hi := 57) u14 (by decide))
        refine wi_iload (i := 6) (e := x8) (nx := 109) (r1 := 0) (r2 := 0) (r3 := 0) rfl rfl ?_
        refine wi_ireturn (nx := 110) (r1 := 0) (r2 := 0) (r3 := 0) rfl rfl ?_
        exact k h14 x8 g14 F15 (by omega)
      ·
        refine wi_aload_n (i := 0) (x := 56) (nx := 59) (r1 := 0) (r2 := 0) (r3 := 0) rfl rfl ?_
        refine wi_iload (i := 7) (e := x9) (nx := 61) (r1 := 0) (r2 := 0) (r3 := 0) rfl rfl ?_
        refine wi_iload_n (i := 1) (e := a0) (nx := 62) (r1 := 0) (r2 := 0) (r3 := 0) rfl rfl ?_
        refine wi_iload_n (i := 2) (e := a1) (nx := 63) (r1 := 0) (r2 := 0) (r3 := 0) rfl rfl ?_
        refine wi_iload_n (i := 3) (e := a2) (nx := 64) (r1 := 0) (r2 := 0) (r3 := 0) rfl rfl ?_
        refine wi_iload (i := 4) (e := a3) (nx := 66) (r1 := 0) (r2 := 0) (r3 := 0) rfl rfl ?_
        refine wr_V (k0 := 56) (rest := []) (as := [.ref 56, vi x9, vi a0, vi a1, vi a2, vi a3]) (nx := 69) (r1 := 166) (r2 := 5) (r3 := 6) rfl rfl rfl (of_decide_eq_true rfl) rfl rfl (by decide) rfl rfl (of_decide_eq_true rfl) (of_decide_eq_true rfl) ?_
        refine wi_aload_n (i := 0) (x := 56) (nx := 1) (r1 := 0) (r2 := 0) (r3 := 0) rfl rfl ?_
        refine wr_gr (k0 := 56) (x := 18) (nx := 4) (r1 := 6) (r2 := 1) (r3 := 0) rfl rfl (by decide) rfl ⟨rfl, rfl⟩ rfl ?_
        refine wr_gr (k0 := 18) (x := 21) (nx := 7) (r1 := 4) (r2 := 3) (r3 := 0) rfl rfl (by decide) rfl ⟨rfl, rfl⟩ rfl ?_
        refine wi_iload_n (i := 1) (e := x9) (nx := 8) (r1 := 0) (r2 := 0) (r3 := 0) rfl rfl ?_
        obtain ⟨i14, ei14⟩ : ∃ q : Nat, x9 = (q : Int) := ⟨(x9).toNat, by omega⟩
        refine wr_aa (k0 := 21) (a := x9) (f := i14) (x := 21 + 8 + 2 * i14) (nx := 9) (r1 := 0) (r2 := 0) (r3 := 0) rfl (by decide) rfl (Or.inl rfl) (by omega) (by omega) (by decide) (hcr.1 21 (by decide) i14 (by omega)) ?_
        obtain ⟨k15, kk15, mk15⟩ : ∃ q, Rw q ∧ q = 21 + 8 + 2 * i14 := ⟨_, rw_lane 21 (by decide) i14 (by omega), rfl⟩
        rw [← mk15]
        refine wi_aload_n (i := 0) (x := 56) (nx := 10) (r1 := 0) (r2 := 0) (r3 := 0) rfl rfl ?_
        refine wr_gr (k0 := 56) (x := 59) (nx := 13) (r1 := 6) (r2 := 4) (r3 := 0) rfl rfl (by decide) rfl ⟨rfl, rfl⟩ rfl ?_
        refine wi_iload_n (i := 1) (e := x9) (nx := 14) (r1 := 0) (r2 := 0) (r3 := 0) rfl rfl ?_
        have b16 := gi_b (lo := -2147483648) (hi := 2147483647) g10 59 i14 rfl
        refine wr_ia (k0 := 59) (a := x9) (f := i14) (x := h10 59 i14) (nx := 15) (r1 := 0) (r2 := 0) (r3 := 0) rfl (by decide) rfl (by omega) (by omega) (by decide) rfl ?_
        refine wr_V (k0 := k15) (rest := []) (as := [.ref k15, vi (h10 59 i14)]) (nx := 18) (r1 := 154) (r2 := 1) (r3 := 5) rfl rfl rfl (of_decide_eq_true rfl) rfl rfl kk15.k kk15.1 rfl (of_decide_eq_true rfl) (of_decide_eq_true rfl) ?_
        refine ct_154_R hcr kk15 g10 (h10 59 i14) (by omega)  (fun z18  (fz18 : -2147483648 ≤ z18 ∧ z18 ≤ 2147483647) => ?_)
        refine wk_i ?_
        refine wi_istore (i := 6) (e := z18) (lo2 := [(6, vi z18), (0, .ref 56), (1, vi x9), (2, vi a0), (3, vi a1), (4, vi a2), (5, vi a3)]) (nx := 20) (r1 := 0) (r2 := 0) (r3 := 0) rfl rfl ?_
        refine wi_iload (i := 6) (e := z18) (nx := 22) (r1 := 0) (r2 := 0) (r3 := 0) rfl rfl ?_
        refine wi_if (cd := .lt) (nx := 25) (r1 := 53) (r2 := 0) (r3 := 0) rfl (by omega) (fun (q19 : z18 < 0) => ?_) (fun (q19 : ¬ (z18 < 0)) => ?_)
        ·
          refine wi_ldc (e := 1048576) (nx := 55) (r1 := 0) (r2 := 1048576) (r3 := 0) rfl rfl (by decide) ?_
          refine wi_ireturn (nx := 56) (r1 := 0) (r2 := 0) (r3 := 0) rfl rfl ?_
          refine wk_i ?_
          refine wi_istore (i := 8) (e := 1048576) (lo2 := [(8, vi 1048576), (0, .ref 56), (1, vi a0), (2, vi a1), (3, vi a2), (4, vi a3), (5, vi z4), (6, vi x8), (7, vi x9)]) (nx := 71) (r1 := 0) (r2 := 0) (r3 := 0) rfl rfl ?_
          refine wi_iload (i := 8) (e := 1048576) (nx := 73) (r1 := 0) (r2 := 0) (r3 := 0) rfl rfl ?_
          refine wi_iload (i := 6) (e := x8) (nx := 75) (r1 := 0) (r2 := 0) (r3 := 0) rfl rfl ?_
          refine wi_icmp (cd := .ge) (nx := 78) (r1 := 92) (r2 := 0) (r3 := 0) rfl (by omega) (by omega) (fun (q20 : x8 ≤ 1048576) => ?_) (fun (q20 : ¬ (x8 ≤ 1048576)) => by exfalso; omega)
          refine wr_iinc (i := 7) (n := 1) (v := x9) (fun e21 => [(7, vi e21), (8, vi 1048576), (0, .ref 56), (1, vi a0), (2, vi a1), (3, vi a2), (4, vi a3), (5, vi z4), (6, vi x8)]) (nx := 95) (r1 := 0) (r2 := 0) (r3 := 0) rfl rfl (fun _ => rfl) (fun e21 (fe21 : e21 = x9 + 1) => ?_)
          refine wi_goto (nx := 98) (r1 := 46) (r2 := 0) (r3 := 0) rfl ?_
          refine wp.lo (lo := [(0, .ref 56), (1, vi a0), (2, vi a1), (3, vi a2), (4, vi a3), (5, vi z4), (6, vi x8), (7, vi e21)]) ⟨rfl, rfl, rfl, rfl, rfl, rfl, rfl, rfl, trivial⟩ rfl ?_
          exact I10 x8 e21 h10 ⟨g10, F11, u10, (show (-2147483648 ≤ x8 ∧ x8 ≤ 1048576) ∧ (0 ≤ e21 ∧ e21 ≤ 4) by omega)⟩ (show ((4 : Int) + 1 - e21).toNat < ((4 : Int) + 1 - x9).toNat by omega)
        ·
          refine wi_iload (i := 6) (e := z18) (nx := 27) (r1 := 0) (r2 := 0) (r3 := 0) rfl rfl ?_
          refine wi_bipush (n := 12) (nx := 29) (r1 := 0) (r2 := 0) (r3 := 0) rfl (by decide) ?_
          refine wi_icmp (cd := .ge) (nx := 32) (r1 := 53) (r2 := 0) (r3 := 0) rfl (by omega) (by omega) (fun (q20 : 12 ≤ z18) => ?_) (fun (q20 : ¬ (12 ≤ z18)) => ?_)
          ·
            refine wi_ldc (e := 1048576) (nx := 55) (r1 := 0) (r2 := 1048576) (r3 := 0) rfl rfl (by decide) ?_
            refine wi_ireturn (nx := 56) (r1 := 0) (r2 := 0) (r3 := 0) rfl rfl ?_
            refine wk_i ?_
            refine wi_istore (i := 8) (e := 1048576) (lo2 := [(8, vi 1048576), (0, .ref 56), (1, vi a0), (2, vi a1), (3, vi a2), (4, vi a3), (5, vi z4), (6, vi x8), (7, vi x9)]) (nx := 71) (r1 := 0) (r2 := 0) (r3 := 0) rfl rfl ?_
            refine wi_iload (i := 8) (e := 1048576) (nx := 73) (r1 := 0) (r2 := 0) (r3 := 0) rfl rfl ?_
            refine wi_iload (i := 6) (e := x8) (nx := 75) (r1 := 0) (r2 := 0) (r3 := 0) rfl rfl ?_
            refine wi_icmp (cd := .ge) (nx := 78) (r1 := 92) (r2 := 0) (r3 := 0) rfl (by omega) (by omega) (fun (q21 : x8 ≤ 1048576) => ?_) (fun (q21 : ¬ (x8 ≤ 1048576)) => by exfalso; omega)
            refine wr_iinc (i := 7) (n := 1) (v := x9) (fun e22 => [(7, vi e22), (8, vi 1048576), (0, .ref 56), (1, vi a0), (2, vi a1), (3, vi a2), (4, vi a3), (5, vi z4), (6, vi x8)]) (nx := 95) (r1 := 0) (r2 := 0) (r3 := 0) rfl rfl (fun _ => rfl) (fun e22 (fe22 : e22 = x9 + 1) => ?_)
            refine wi_goto (nx := 98) (r1 := 46) (r2 := 0) (r3 := 0) rfl ?_
            refine wp.lo (lo := [(0, .ref 56), (1, vi a0), (2, vi a1), (3, vi a2), (4, vi a3), (5, vi z4), (6, vi x8), (7, vi e22)]) ⟨rfl, rfl, rfl, rfl, rfl, rfl, rfl, rfl, trivial⟩ rfl ?_
            exact I10 x8 e22 h10 ⟨g10, F11, u10, (show (-2147483648 ≤ x8 ∧ x8 ≤ 1048576) ∧ (0 ≤ e22 ∧ e22 ≤ 4) by omega)⟩ (show ((4 : Int) + 1 - e22).toNat < ((4 : Int) + 1 - x9).toNat by omega)
          ·
            refine wi_aload_n (i := 0) (x := 56) (nx := 33) (r1 := 0) (r2 := 0) (r3 := 0) rfl rfl ?_
            refine wi_iload (i := 6) (e := z18) (nx := 35) (r1 := 0) (r2 := 0) (r3 := 0) rfl rfl ?_
            refine wi_aload_n (i := 0) (x := 56) (nx := 36) (r1 := 0) (r2 := 0) (r3 := 0) rfl rfl ?_
            refine wr_gr (k0 := 56) (x := 18) (nx := 39) (r1 := 6) (r2 := 1) (r3 := 0) rfl rfl (by decide) rfl ⟨rfl, rfl⟩ rfl ?_
            refine wr_gr (k0 := 18) (x := 26) (nx := 42) (r1 := 4) (r2 := 6) (r3 := 0) rfl rfl (by decide) rfl ⟨rfl, rfl⟩ rfl ?_
            have b21 := gi_b (lo := 0) (hi := 12) g 26 1 rfl
            refine wr_gi0 (k0 := 26) (x := h 26 1) (nx := 45) (r1 := 5) (r2 := 1) (r3 := 0) rfl rfl (by decide) rfl ⟨rfl, rfl⟩ rfl (u10 26 1 rfl) ?_
            refine wi_iload_n (i := 2) (e := a0) (nx := 46) (r1 := 0) (r2 := 0) (r3 := 0) rfl rfl ?_
            refine wr_add (nx := 47) (r1 := 0) (r2 := 0) (r3 := 0) rfl (fun e22 (fe22 : e22 = (h 26 1) + a0) => ?_)
            refine wr_V (k0 := 56) (rest := []) (as := [.ref 56, vi z18, vi e22]) (nx := 50) (r1 := 167) (r2 := 2) (r3 := 6) rfl rfl rfl (of_decide_eq_true rfl) rfl rfl (by decide) rfl rfl (of_decide_eq_true rfl) (of_decide_eq_true rfl) ?_
            refine ct_167_56 hcr  g10 z18 e22 (by omega) (by omega)  (fun z24  (fz24 : 0 ≤ z24 ∧ z24 ≤ 1) => ?_)
            refine wk_i ?_
            refine wi_if (cd := .ne) (nx := 53) (r1 := 56) (r2 := 0) (r3 := 0) rfl (by omega) (fun (q25 : z24 ≠ 0) => ?_) (fun (q25 : ¬ (z24 ≠ 0)) => ?_)
            ·
              refine wi_aload_n (i := 0) (x := 56) (nx := 57) (r1 := 0) (r2 := 0) (r3 := 0) rfl rfl ?_
              refine wr_gr (k0 := 56) (x := 18) (nx := 60) (r1 := 6) (r2 := 1) (r3 := 0) rfl rfl (by decide) rfl ⟨rfl, rfl⟩ rfl ?_
              refine wr_gr (k0 := 18) (x := 19) (nx := 63) (r1 := 4) (r2 := 1) (r3 := 0) rfl rfl (by decide) rfl ⟨rfl, rfl⟩ rfl ?_
              refine wi_iload (i := 6) (e := z18) (nx := 65) (r1 := 0) (r2 := 0) (r3 := 0) rfl rfl ?_
              obtain ⟨i26, ei26⟩ : ∃ q : Nat, z18 = (q : Int) := ⟨(z18).toNat, by omega⟩
              have b27 := gi_b (lo := -2147483648) (hi := 2147483647) g 19 i26 rfl
              refine wr_ia (k0 := 19) (a := z18) (f := i26) (x := h 19 i26) (nx := 66) (r1 := 0) (r2 := 0) (r3 := 0) rfl (by decide) rfl (by omega) (by omega) (by decide) (u10 19 i26 (fn_a (by omega) (fn_a (by omega) (fn_a (by omega) fn_0)))) ?_
              refine wi_istore (i := 7) (e := h 19 i26) (lo2 := [(7, vi (h 19 i26)), (6, vi z18), (0, .ref 56), (1, vi x9), (2, vi a0), (3, vi a1), (4, vi a2), (5, vi a3)]) (nx := 68) (r1 := 0) (r2 := 0) (r3 := 0) rfl rfl ?_
              refine wi_aload_n (i := 0) (x := 56) (nx := 69) (r1 := 0) (r2 := 0) (r3 := 0) rfl rfl ?_
              refine wr_gr (k0 := 56) (x := 3) (nx := 72) (r1 := 6) (r2 := 0) (r3 := 0) rfl rfl (by decide) rfl ⟨rfl, rfl⟩ rfl ?_
              refine wi_iload (i := 4) (e := a2) (nx := 74) (r1 := 0) (r2 := 0) (r3 := 0) rfl rfl ?_
              refine wi_iload (i := 5) (e := a3) (nx := 76) (r1 := 0) (r2 := 0) (r3 := 0) rfl rfl ?_
              refine wi_iload (i := 7) (e := h 19 i26) (nx := 78) (r1 := 0) (r2 := 0) (r3 := 0) rfl rfl ?_
              refine wr_V (k0 := 3) (rest := []) (as := [.ref 3, vi a2, vi a3, vi (h 19 i26)]) (nx := 81) (r1 := 109) (r2 := 3) (r3 := 2) rfl rfl rfl (of_decide_eq_true rfl) rfl rfl (by decide) rfl rfl (of_decide_eq_true rfl) (of_decide_eq_true rfl) ?_
              refine wi_iload_n (i := 1) (e := a2) (nx := 1) (r1 := 0) (r2 := 0) (r3 := 0) rfl rfl ?_
              refine wi_iconst (n := (-1)) (nx := 2) (r1 := 0) (r2 := 0) (r3 := 0) rfl ?_
              refine wi_icmp (cd := .ne) (nx := 5) (r1 := 7) (r2 := 0) (r3 := 0) rfl (by omega) (by omega) (fun (q28 : a2 ≠ (-1)) => ?_) (fun (q28 : ¬ (a2 ≠ (-1))) => ?_)
              ·
                refine wi_iload_n (i := 1) (e := a2) (nx := 8) (r1 := 0) (r2 := 0) (r3 := 0) rfl rfl ?_
                refine wi_iload_n (i := 3) (e := h 19 i26) (nx := 9) (r1 := 0) (r2 := 0) (r3 := 0) rfl rfl ?_
                refine wi_icmp (cd := .eq) (nx := 12) (r1 := 14) (r2 := 0) (r3 := 0) rfl (by omega) (by omega) (fun (q29 : a2 = (h 19 i26)) => ?_) (fun (q29 : ¬ (a2 = (h 19 i26))) => ?_)
                ·
                  refine wi_iload_n (i := 2) (e := a3) (nx := 15) (r1 := 0) (r2 := 0) (r3 := 0) rfl rfl ?_
                  refine wi_aload_n (i := 0) (x := 3) (nx := 16) (r1 := 0) (r2 := 0) (r3 := 0) rfl rfl ?_
                  have b30 := gi_b (lo := -2147483648) (hi := 2147483647) g 3 5 rfl
                  refine wr_gi0 (k0 := 3) (x := h 3 5) (nx := 19) (r1 := 2) (r2 := 5) (r3 := 0) rfl rfl (by decide) rfl ⟨rfl, rfl⟩ rfl (u10 3 5 rfl) ?_
                  refine wi_icmp (cd := .lt) (nx := 22) (r1 := 26) (r2 := 0) (r3 := 0) rfl (by omega) (by omega) (fun (q31 : a3 < (h 3 5)) => ?_) (fun (q31 : ¬ (a3 < (h 3 5))) => ?_)
                  ·
                    refine wi_iconst (n := 0) (nx := 27) (r1 := 0) (r2 := 0) (r3 := 0) rfl ?_
                    refine wi_ireturn (nx := 28) (r1 := 0) (r2 := 0) (r3 := 0) rfl rfl ?_
                    refine wk_i ?_
                    refine wi_istore (i := 8) (e := 0) (lo2 := [(8, vi 0), (7, vi (h 19 i26)), (6, vi z18), (0, .ref 56), (1, vi x9), (2, vi a0), (3, vi a1), (4, vi a2), (5, vi a3)]) (nx := 83) (r1 := 0) (r2 := 0) (r3 := 0) rfl rfl ?_
                    refine wi_aload_n (i := 0) (x := 56) (nx := 84) (r1 := 0) (r2 := 0) (r3 := 0) rfl rfl ?_
                    refine wr_gr (k0 := 56) (x := 3) (nx := 87) (r1 := 6) (r2 := 0) (r3 := 0) rfl rfl (by decide) rfl ⟨rfl, rfl⟩ rfl ?_
                    refine wi_iload (i := 8) (e := 0) (nx := 89) (r1 := 0) (r2 := 0) (r3 := 0) rfl rfl ?_
                    refine wi_iload (i := 7) (e := h 19 i26) (nx := 91) (r1 := 0) (r2 := 0) (r3 := 0) rfl rfl ?_
                    refine wr_V (k0 := 3) (rest := []) (as := [.ref 3, vi 0, vi (h 19 i26)]) (nx := 94) (r1 := 110) (r2 := 2) (r3 := 2) rfl rfl rfl (of_decide_eq_true rfl) rfl rfl (by decide) rfl rfl (of_decide_eq_true rfl) (of_decide_eq_true rfl) ?_
                    refine ct_110_3 hcr  g10 0 (h 19 i26) (by omega) (by omega)  (fun z33  (fz33 : -2147483648 ≤ z33 ∧ z33 ≤ 2147483647) => ?_)
                    refine wk_i ?_
                    refine wi_bipush (n := 16) (nx := 96) (r1 := 0) (r2 := 0) (r3 := 0) rfl (by decide) ?_
                    refine wr_mulW (nx := 97) (r1 := 0) (r2 := 0) (r3 := 0) rfl (fun e34 (fe34 : -2147483648 ≤ e34 ∧ e34 ≤ 2147483647) => ?_)
                    refine wi_iload (i := 8) (e := 0) (nx := 99) (r1 := 0) (r2 := 0) (r3 := 0) rfl rfl ?_
                    refine wi_iconst (n := 1) (nx := 100) (r1 := 0) (r2 := 0) (r3 := 0) rfl ?_
                    refine wi_icmp (cd := .ne) (nx := 103) (r1 := 107) (r2 := 0) (r3 := 0) rfl (by omega) (by omega) (fun (q35 : 0 ≠ 1) => ?_) (fun (q35 : ¬ (0 ≠ 1)) => by exfalso; omega)
                    refine wi_iconst (n := 0) (nx := 108) (r1 := 0) (r2 := 0) (r3 := 0) rfl ?_
                    refine wr_add (nx := 109) (r1 := 0) (r2 := 0) (r3 := 0) rfl (fun e36 (fe36 : e36 = e34 + 0) => ?_)
                    refine wi_istore (i := 9) (e := e36) (lo2 := [(9, vi e36), (8, vi 0), (7, vi (h 19 i26)), (6, vi z18), (0, .ref 56), (1, vi x9), (2, vi a0), (3, vi a1), (4, vi a2), (5, vi a3)]) (nx := 111) (r1 := 0) (r2 := 0) (r3 := 0) rfl rfl ?_
                    refine wi_iload_n (i := 3) (e := a1) (nx := 112) (r1 := 0) (r2 := 0) (r3 := 0) rfl rfl ?_
                    refine wi_aload_n (i := 0) (x := 56) (nx := 113) (r1 := 0) (r2 := 0) (r3 := 0) rfl rfl ?_
                    refine wr_gr (k0 := 56) (x := 60) (nx := 116) (r1 := 6) (r2 := 5) (r3 := 0) rfl rfl (by decide) rfl ⟨rfl, rfl⟩ rfl ?_
                    refine wi_iload_n (i := 1) (e := x9) (nx := 117) (r1 := 0) (r2 := 0) (r3 := 0) rfl rfl ?_
                    have b37 := gi_b (lo := -2147483648) (hi := 2147483647) g 60 i14 rfl
                    refine wr_ia (k0 := 60) (a := x9) (f := i14) (x := h 60 i14) (nx := 118) (r1 := 0) (r2 := 0) (r3 := 0) rfl (by decide) rfl (by omega) (by omega) (by decide) (u10 60 i14 (fn_a (by omega) (fn_a (by omega) (fn_a (by omega) fn_0)))) ?_
                    refine wr_addW (nx := 119) (r1 := 0) (r2 := 0) (r3 := 0) rfl (fun e38 (fe38 : -2147483648 ≤ e38 ∧ e38 ≤ 2147483647) => ?_)
                    refine wi_istore (i := 10) (e := e38) (lo2 := [(10, vi e38), (9, vi e36), (8, vi 0), (7, vi (h 19 i26)), (6, vi z18), (0, .ref 56), (1, vi x9), (2, vi a0), (3, vi a1), (4, vi a2), (5, vi a3)]) (nx := 121) (r1 := 0) (r2 := 0) (r3 := 0) rfl rfl ?_
                    refine wi_aload_n (i := 0) (x := 56) (nx := 122) (r1 := 0) (r2 := 0) (r3 := 0) rfl rfl ?_
                    refine wr_gr (k0 := 56) (x := 59) (nx := 125) (r1 := 6) (r2 := 4) (r3 := 0) rfl rfl (by decide) rfl ⟨rfl, rfl⟩ rfl ?_
                    refine wi_iload_n (i := 1) (e := x9) (nx := 126) (r1 := 0) (r2 := 0) (r3 := 0) rfl rfl ?_
                    refine wi_dup2 (nx := 127) (r1 := 0) (r2 := 0) (r3 := 0) rfl rfl rfl ?_
                    refine wr_ia (k0 := 59) (a := x9) (f := i14) (x := h10 59 i14) (nx := 128) (r1 := 0) (r2 := 0) (r3 := 0) rfl (by decide) rfl (by omega) (by omega) (by decide) rfl ?_
                    refine wi_iconst (n := 1) (nx := 129) (r1 := 0) (r2 := 0) (r3 := 0) rfl ?_
                    refine wr_addW (nx := 130) (r1 := 0) (r2 := 0) (r3 := 0) rfl (fun e39 (fe39 : -2147483648 ≤ e39 ∧ e39 ≤ 2147483647) => ?_)
                    refine wr_is (k0 := 59) (a := x9) (f := i14) (x := e39) (bl := -2147483648) (bh := 2147483647) (nx := 131) (r1 := 0) (r2 := 0) (r3 := 0) rfl (by decide) rfl (by omega) (by omega) (by decide) g10 rfl (by omega) (fun h40 g40 w40 u40 => ?_)
                    have F41 := F11.then rfl (FR.rngp (lo := 59) (hi := 59) u40 (by decide))
                    have F42 := u10.then rfl (FR.rngp (lo := 59) (hi := 59) u40 (by decide))
                    refine wi_iload (i := 9) (e := e36) (nx := 133) (r1 := 0) (r2 := 0) (r3 := 0) rfl rfl ?_
                    refine wi_aload_n (i := 0) (x := 56) (nx := 134) (r1 := 0) (r2 := 0) (r3 := 0) rfl rfl ?_
                    refine wi_iload_n (i := 2) (e := a0) (nx := 135) (r1 := 0) (r2 := 0) (r3 := 0) rfl rfl ?_
                    refine wi_iconst (n := 1) (nx := 136) (r1 := 0) (r2 := 0) (r3 := 0) rfl ?_
                    refine wr_add (nx := 137) (r1 := 0) (r2 := 0) (r3 := 0) rfl (fun e43 (fe43 : e43 = a0 + 1) => ?_)
                    refine wi_iload (i := 10) (e := e38) (nx := 139) (r1 := 0) (r2 := 0) (r3 := 0) rfl rfl ?_
                    refine wi_iload (i := 7) (e := h 19 i26) (nx := 141) (r1 := 0) (r2 := 0) (r3 := 0) rfl rfl ?_
                    refine wi_iload (i := 8) (e := 0) (nx := 143) (r1 := 0) (r2 := 0) (r3 := 0) rfl rfl ?_
                    refine wi_iload (i := 5) (e := a3) (nx := 145) (r1 := 0) (r2 := 0) (r3 := 0) rfl rfl ?_
                    refine wi_S (rest := [vi (h 19 i26), vi e38, vi e43, .ref 56, vi e36]) (as := [vi 0, vi a3]) (nx := 148) (r1 := 111) (r2 := 18) (r3 := 0) rfl rfl rfl (of_decide_eq_true rfl) rfl rfl (of_decide_eq_true rfl) (of_decide_eq_true rfl) ?_
                    refine wi_iload_n (i := 0) (e := 0) (nx := 1) (r1 := 0) (r2 := 0) (r3 := 0) rfl rfl ?_
                    refine wi_if (cd := .ne) (nx := 4) (r1 := 10) (r2 := 0) (r3 := 0) rfl (by omega) (fun (q44 : 0 ≠ 0) => by exfalso; omega) (fun (q44 : ¬ (0 ≠ 0)) => ?_)
                    refine wi_iload_n (i := 1) (e := a3) (nx := 5) (r1 := 0) (r2 := 0) (r3 := 0) rfl rfl ?_
                    refine wi_iconst (n := 1) (nx := 6) (r1 := 0) (r2 := 0) (r3 := 0) rfl ?_
                    refine wr_add (nx := 7) (r1 := 0) (r2 := 0) (r3 := 0) rfl (fun e45 (fe45 : e45 = a3 + 1) => ?_)
                    refine wi_goto (nx := 10) (r1 := 11) (r2 := 0) (r3 := 0) rfl ?_
                    refine wi_ireturn (nx := 12) (r1 := 0) (r2 := 0) (r3 := 0) rfl rfl ?_
                    refine wk_i ?_
                    refine wr_V (k0 := 56) (rest := [vi e36]) (as := [.ref 56, vi e43, vi e38, vi (h 19 i26), vi e45]) (nx := 151) (r1 := 164) (r2 := 4) (r3 := 6) rfl rfl rfl (of_decide_eq_true rfl) rfl rfl (by decide) rfl rfl (of_decide_eq_true rfl) (of_decide_eq_true rfl) ?_
                    refine wp_eq (e := d + 2 * (n - 1) + 5) (by omega) ?_
                    refine IH (n - 1) (by omega) g40 e43 e38 (h 19 i26) e45 (by omega) (by omega) (by omega) (by omega)  (by omega) (fun h46 z47 g46 u46 (fz47 : -2147483648 ≤ z47 ∧ z47 ≤ 2147483647) => ?_)
                    have F48 := F41.then (by decide +kernel) u46
                    have F49 := F42.then (by decide +kernel) u46
                    refine wk_i ?_
                    refine wr_addW (nx := 152) (r1 := 0) (r2 := 0) (r3 := 0) rfl (fun e50 (fe50 : -2147483648 ≤ e50 ∧ e50 ≤ 2147483647) => ?_)
                    refine wi_istore (i := 9) (e := e50) (lo2 := [(9, vi e50), (10, vi e38), (8, vi 0), (7, vi (h 19 i26)), (6, vi z18), (0, .ref 56), (1, vi x9), (2, vi a0), (3, vi a1), (4, vi a2), (5, vi a3)]) (nx := 154) (r1 := 0) (r2 := 0) (r3 := 0) rfl rfl ?_
                    refine wi_aload_n (i := 0) (x := 56) (nx := 155) (r1 := 0) (r2 := 0) (r3 := 0) rfl rfl ?_
                    refine wr_gr (k0 := 56) (x := 59) (nx := 158) (r1 := 6) (r2 := 4) (r3 := 0) rfl rfl (by decide) rfl ⟨rfl, rfl⟩ rfl ?_
                    refine wi_iload_n (i := 1) (e := x9) (nx := 159) (r1 := 0) (r2 := 0) (r3 := 0) rfl rfl ?_
                    refine wi_dup2 (nx := 160) (r1 := 0) (r2 := 0) (r3 := 0) rfl rfl rfl ?_
                    have b51 := gi_b (lo := -2147483648) (hi := 2147483647) g46 59 i14 rfl
                    refine wr_ia (k0 := 59) (a := x9) (f := i14) (x := h46 59 i14) (nx := 161) (r1 := 0) (r2 := 0) (r3 := 0) rfl (by decide) rfl (by omega) (by omega) (by decide) rfl ?_
                    refine wi_iconst (n := 1) (nx := 162) (r1 := 0) (r2 := 0) (r3 := 0) rfl ?_
                    refine wr_subW (nx := 163) (r1 := 0) (r2 := 0) (r3 := 0) rfl (fun e52 (fe52 : -2147483648 ≤ e52 ∧ e52 ≤ 2147483647) => ?_)
                    refine wr_is (k0 := 59) (a := x9) (f := i14) (x := e52) (bl := -2147483648) (bh := 2147483647) (nx := 164) (r1 := 0) (r2 := 0) (r3 := 0) rfl (by decide) rfl (by omega) (by omega) (by decide) g46 rfl (by omega) (fun h53 g53 w53 u53 => ?_)
                    have F54 := F48.then rfl (FR.rngp (lo := 59) (hi := 59) u53 (by decide))
                    have F55 := F49.then rfl (FR.rngp (lo := 59) (hi := 59) u53 (by decide))
                    refine wi_iload (i := 9) (e := e50) (nx := 166) (r1 := 0) (r2 := 0) (r3 := 0) rfl rfl ?_
                    refine wi_ldc (e := 1048576) (nx := 168) (r1 := 0) (r2 := 1048576) (r3 := 0) rfl rfl (by decide) ?_
                    refine wi_S (rest := []) (as := [vi e50, vi 1048576]) (nx := 171) (r1 := 355) (r2 := 18) (r3 := 0) rfl rfl rfl (of_decide_eq_true rfl) rfl rfl (of_decide_eq_true rfl) (of_decide_eq_true rfl) ?_
                    refine wi_iload_n (i := 0) (e := e50) (nx := 1) (r1 := 0) (r2 := 0) (r3 := 0) rfl rfl ?_
                    refine wi_iload_n (i := 1) (e := 1048576) (nx := 2) (r1 := 0) (r2 := 0) (r3 := 0) rfl rfl ?_
                    refine wi_icmp (cd := .gt) (nx := 5) (r1 := 9) (r2 := 0) (r3 := 0) rfl (by omega) (by omega) (fun (q56 : 1048576 < e50) => ?_) (fun (q56 : ¬ (1048576 < e50)) => ?_)
                    ·
                      refine wi_iload_n (i := 1) (e := 1048576) (nx := 10) (r1 := 0) (r2 := 0) (r3 := 0) rfl rfl ?_
                      refine wi_ireturn (nx := 11) (r1 := 0) (r2 := 0) (r3 := 0) rfl rfl ?_
                      refine wk_i ?_
                      refine wi_ireturn (nx := 172) (r1 := 0) (r2 := 0) (r3 := 0) rfl rfl ?_
                      refine wk_i ?_
                      refine wi_istore (i := 8) (e := 1048576) (lo2 := [(8, vi 1048576), (0, .ref 56), (1, vi a0), (2, vi a1), (3, vi a2), (4, vi a3), (5, vi z4), (6, vi x8), (7, vi x9)]) (nx := 71) (r1 := 0) (r2 := 0) (r3 := 0) rfl rfl ?_
                      refine wi_iload (i := 8) (e := 1048576) (nx := 73) (r1 := 0) (r2 := 0) (r3 := 0) rfl rfl ?_
                      refine wi_iload (i := 6) (e := x8) (nx := 75) (r1 := 0) (r2 := 0) (r3 := 0) rfl rfl ?_
                      refine wi_icmp (cd := .ge) (nx := 78) (r1 := 92) (r2 := 0) (r3 := 0) rfl (by omega) (by omega) (fun (q57 : x8 ≤ 1048576) => ?_) (fun (q57 : ¬ (x8 ≤ 1048576)) => by exfalso; omega)
                      refine wr_iinc (i := 7) (n := 1) (v := x9) (fun e58 => [(7, vi e58), (8, vi 1048576), (0, .ref 56), (1, vi a0), (2, vi a1), (3, vi a2), (4, vi a3), (5, vi z4), (6, vi x8)]) (nx := 95) (r1 := 0) (r2 := 0) (r3 := 0) rfl rfl (fun _ => rfl) (fun e58 (fe58 : e58 = x9 + 1) => ?_)
                      refine wi_goto (nx := 98) (r1 := 46) (r2 := 0) (r3 := 0) rfl ?_
                      refine wp.lo (lo := [(0, .ref 56), (1, vi a0), (2, vi a1), (3, vi a2), (4, vi a3), (5, vi z4), (6, vi x8), (7, vi e58)]) ⟨rfl, rfl, rfl, rfl, rfl, rfl, rfl, rfl, trivial⟩ rfl ?_
                      exact I10 x8 e58 h53 ⟨g53, F54, F55, (show (-2147483648 ≤ x8 ∧ x8 ≤ 1048576) ∧ (0 ≤ e58 ∧ e58 ≤ 4) by omega)⟩ (show ((4 : Int) + 1 - e58).toNat < ((4 : Int) + 1 - x9).toNat by omega)
                    ·
                      refine wi_iload_n (i := 0) (e := e50) (nx := 6) (r1 := 0) (r2 := 0) (r3 := 0) rfl rfl ?_
                      refine wi_goto (nx := 9) (r1 := 10) (r2 := 0) (r3 := 0) rfl ?_
                      refine wi_ireturn (nx := 11) (r1 := 0) (r2 := 0) (r3 := 0) rfl rfl ?_
                      refine wk_i ?_
                      refine wi_ireturn (nx := 172) (r1 := 0) (r2 := 0) (r3 := 0) rfl rfl ?_
                      refine wk_i ?_
                      refine wi_istore (i := 8) (e := e50) (lo2 := [(8, vi e50), (0, .ref 56), (1, vi a0), (2, vi a1), (3, vi a2), (4, vi a3), (5, vi z4), (6, vi x8), (7, vi x9)]) (nx := 71) (r1 := 0) (r2 := 0) (r3 := 0) rfl rfl ?_
                      refine wi_iload (i := 8) (e := e50) (nx := 73) (r1 := 0) (r2 := 0) (r3 := 0) rfl rfl ?_
                      refine wi_iload (i := 6) (e := x8) (nx := 75) (r1 := 0) (r2 := 0) (r3 := 0) rfl rfl ?_
                      refine wi_icmp (cd := .ge) (nx := 78) (r1 := 92) (r2 := 0) (r3 := 0) rfl (by omega) (by omega) (fun (q57 : x8 ≤ e50) => ?_) (fun (q57 : ¬ (x8 ≤ e50)) => ?_)
                      ·
                        refine wr_iinc (i := 7) (n := 1) (v := x9) (fun e58 => [(7, vi e58), (8, vi e50), (0, .ref 56), (1, vi a0), (2, vi a1), (3, vi a2), (4, vi a3), (5, vi z4), (6, vi x8)]) (nx := 95) (r1 := 0) (r2 := 0) (r3 := 0) rfl rfl (fun _ => rfl) (fun e58 (fe58 : e58 = x9 + 1) => ?_)
                        refine wi_goto (nx := 98) (r1 := 46) (r2 := 0) (r3 := 0) rfl ?_
                        refine wp.lo (lo := [(0, .ref 56), (1, vi a0), (2, vi a1), (3, vi a2), (4, vi a3), (5, vi z4), (6, vi x8), (7, vi e58)]) ⟨rfl, rfl, rfl, rfl, rfl, rfl, rfl, rfl, trivial⟩ rfl ?_
                        exact I10 x8 e58 h53 ⟨g53, F54, F55, (show (-2147483648 ≤ x8 ∧ x8 ≤ 1048576) ∧ (0 ≤ e58 ∧ e58 ≤ 4) by omega)⟩ (show ((4 : Int) + 1 - e58).toNat < ((4 : Int) + 1 - x9).toNat by omega)
                      ·
                        refine wi_iload (i := 8) (e := e50) (nx := 80) (r1 := 0) (r2 := 0) (r3 := 0) rfl rfl ?_
                        refine wi_istore (i := 6) (e := e50) (lo2 := [(6, vi e50), (8, vi e50), (0, .ref 56), (1, vi a0), (2, vi a1), (3, vi a2), (4, vi a3), (5, vi z4), (7, vi x9)]) (nx := 82) (r1 := 0) (r2 := 0) (r3 := 0) rfl rfl ?_
                        refine wi_aload_n (i := 0) (x := 56) (nx := 83) (r1 := 0) (r2 := 0) (r3 := 0) rfl rfl ?_
                        refine wr_gr (k0 := 56) (x := 58) (nx := 86) (r1 := 6) (r2 := 3) (r3 := 0) rfl rfl (by decide) rfl ⟨rfl, rfl⟩ rfl ?_
                        refine wi_iload (i := 5) (e := z4) (nx := 88) (r1 := 0) (r2 := 0) (r3 := 0) rfl rfl ?_
                        refine wi_iload (i := 7) (e := x9) (nx := 90) (r1 := 0) (r2 := 0) (r3 := 0) rfl rfl ?_
                        refine wr_i2bA (nx := 91) (r1 := 0) (r2 := 0) (r3 := 0) rfl (fun e58 (fe58 : -128 ≤ e58 ∧ e58 ≤ 127) => ?_)
                        refine wr_bs (k0 := 58) (a := z4) (f := i5) (x := e58) (bl := -128) (bh := 127) (nx := 92) (r1 := 0) (r2 := 0) (r3 := 0) rfl (by decide) rfl (by omega) (by omega) (by omega) (by decide) g53 rfl (by omega) (fun h59 g59 w59 u59 => ?_)
                        have F60 := F54.then rfl (FR.rngp (lo := 58) (hi := 58) u59 (by decide))
                        have F61 := F55.then rfl (FR.rngp (lo := 58) (hi := 58) u59 (by decide))
                        refine wr_iinc (i := 7) (n := 1) (v := x9) (fun e62 => [(7, vi e62), (6, vi e50), (8, vi e50), (0, .ref 56), (1, vi a0), (2, vi a1), (3, vi a2), (4, vi a3), (5, vi z4)]) (nx := 95) (r1 := 0) (r2 := 0) (r3 := 0) rfl rfl (fun _ => rfl) (fun e62 (fe62 : e62 = x9 + 1) => ?_)
                        refine wi_goto (nx := 98) (r1 := 46) (r2 := 0) (r3 := 0) rfl ?_
                        refine wp.lo (lo := [(0, .ref 56), (1, vi a0), (2, vi a1), (3, vi a2), (4, vi a3), (5, vi z4), (6, vi e50), (7, vi e62)]) ⟨rfl, rfl, rfl, rfl, rfl, rfl, rfl, rfl, trivial⟩ rfl ?_
                        exact I10 e50 e62 h59 ⟨g59, F60, F61, (show (-2147483648 ≤ e50 ∧ e50 ≤ 1048576) ∧ (0 ≤ e62 ∧ e62 ≤ 4) by omega)⟩ (show ((4 : Int) + 1 - e62).toNat < ((4 : Int) + 1 - x9).toNat by omega)
                  ·
                    refine wi_iconst (n := 2) (nx := 23) (r1 := 0) (r2 := 0) (r3 := 0) rfl ?_
                    refine wi_goto (nx := 26) (r1 := 27) (r2 := 0) (r3 := 0) rfl ?_
                    refine wi_ireturn (nx := 28) (r1 := 0) (r2 := 0) (r3 := 0) rfl rfl ?_
                    refine wk_i ?_
                    refine wi_istore (i := 8) (e := 2) (lo2 := [(8, vi 2), (7, vi (h 19 i26)), (6, vi z18), (0, .ref 56), (1, vi x9), (2, vi a0), (3, vi a1), (4, vi a2), (5, vi a3)]) (nx := 83) (r1 := 0) (r2 := 0) (r3 := 0) rfl rfl ?_
                    refine wi_aload_n (i := 0) (x := 56) (nx := 84) (r1 := 0) (r2 := 0) (r3 := 0) rfl rfl ?_
                    refine wr_gr (k0 := 56) (x := 3) (nx := 87) (r1 := 6) (r2 := 0) (r3 := 0) rfl rfl (by decide) rfl ⟨rfl, rfl⟩ rfl ?_
                    refine wi_iload (i := 8) (e := 2) (nx := 89) (r1 := 0) (r2 := 0) (r3 := 0) rfl rfl ?_
                    refine wi_iload (i := 7) (e := h 19 i26) (nx := 91) (r1 := 0) (r2 := 0) (r3 := 0) rfl rfl ?_
                    refine wr_V (k0 := 3) (rest := []) (as := [.ref 3, vi 2, vi (h 19 i26)]) (nx := 94) (r1 := 110) (r2 := 2) (r3 := 2) rfl rfl rfl (of_decide_eq_true rfl) rfl rfl (by decide) rfl rfl (of_decide_eq_true rfl) (of_decide_eq_true rfl) ?_
                    refine ct_110_3 hcr  g10 2 (h 19 i26) (by omega) (by omega)  (fun z33  (fz33 : -2147483648 ≤ z33 ∧ z33 ≤ 2147483647) => ?_)
                    refine wk_i ?_
                    refine wi_bipush (n := 16) (nx := 96) (r1 := 0) (r2 := 0) (r3 := 0) rfl (by decide) ?_
                    refine wr_mulW (nx := 97) (r1 := 0) (r2 := 0) (r3 := 0) rfl (fun e34 (fe34 : -2147483648 ≤ e34 ∧ e34 ≤ 2147483647) => ?_)
                    refine wi_iload (i := 8) (e := 2) (nx := 99) (r1 := 0) (r2 := 0) (r3 := 0) rfl rfl ?_
                    refine wi_iconst (n := 1) (nx := 100) (r1 := 0) (r2 := 0) (r3 := 0) rfl ?_
                    refine wi_icmp (cd := .ne) (nx := 103) (r1 := 107) (r2 := 0) (r3 := 0) rfl (by omega) (by omega) (fun (q35 : 2 ≠ 1) => ?_) (fun (q35 : ¬ (2 ≠ 1)) => by exfalso; omega)
                    refine wi_iconst (n := 0) (nx := 108) (r1 := 0) (r2 := 0) (r3 := 0) rfl ?_
                    refine wr_add (nx := 109) (r1 := 0) (r2 := 0) (r3 := 0) rfl (fun e36 (fe36 : e36 = e34 + 0) => ?_)
                    refine wi_istore (i := 9) (e := e36) (lo2 := [(9, vi e36), (8, vi 2), (7, vi (h 19 i26)), (6, vi z18), (0, .ref 56), (1, vi x9), (2, vi a0), (3, vi a1), (4, vi a2), (5, vi a3)]) (nx := 111) (r1 := 0) (r2 := 0) (r3 := 0) rfl rfl ?_
                    refine wi_iload_n (i := 3) (e := a1) (nx := 112) (r1 := 0) (r2 := 0) (r3 := 0) rfl rfl ?_
                    refine wi_aload_n (i := 0) (x := 56) (nx := 113) (r1 := 0) (r2 := 0) (r3 := 0) rfl rfl ?_
                    refine wr_gr (k0 := 56) (x := 60) (nx := 116) (r1 := 6) (r2 := 5) (r3 := 0) rfl rfl (by decide) rfl ⟨rfl, rfl⟩ rfl ?_
                    refine wi_iload_n (i := 1) (e := x9) (nx := 117) (r1 := 0) (r2 := 0) (r3 := 0) rfl rfl ?_
                    have b37 := gi_b (lo := -2147483648) (hi := 2147483647) g 60 i14 rfl
                    refine wr_ia (k0 := 60) (a := x9) (f := i14) (x := h 60 i14) (nx := 118) (r1 := 0) (r2 := 0) (r3 := 0) rfl (by decide) rfl (by omega) (by omega) (by decide) (u10 60 i14 (fn_a (by omega) (fn_a (by omega) (fn_a (by omega) fn_0)))) ?_
                    refine wr_addW (nx := 119) (r1 := 0) (r2 := 0) (r3 := 0) rfl (fun e38 (fe38 : -2147483648 ≤ e38 ∧ e38 ≤ 2147483647) => ?_)
                    refine wi_istore (i := 10) (e := e38) (lo2 := [(10, vi e38), (9, vi e36), (8, vi 2), (7, vi (h 19 i26)), (6, vi z18), (0, .ref 56), (1, vi x9), (2, vi a0), (3, vi a1), (4, vi a2), (5, vi a3)]) (nx := 121) (r1 := 0) (r2 := 0) (r3 := 0) rfl rfl ?_
                    refine wi_aload_n (i := 0) (x := 56) (nx := 122) (r1 := 0) (r2 := 0) (r3 := 0) rfl rfl ?_
                    refine wr_gr (k0 := 56) (x := 59) (nx := 125) (r1 := 6) (r2 := 4) (r3 := 0) rfl rfl (by decide) rfl ⟨rfl, rfl⟩ rfl ?_
                    refine wi_iload_n (i := 1) (e := x9) (nx := 126) (r1 := 0) (r2 := 0) (r3 := 0) rfl rfl ?_
                    refine wi_dup2 (nx := 127) (r1 := 0) (r2 := 0) (r3 := 0) rfl rfl rfl ?_
                    refine wr_ia (k0 := 59) (a := x9) (f := i14) (x := h10 59 i14) (nx := 128) (r1 := 0) (r2 := 0) (r3 := 0) rfl (by decide) rfl (by omega) (by omega) (by decide) rfl ?_
                    refine wi_iconst (n := 1) (nx := 129) (r1 := 0) (r2 := 0) (r3 := 0) rfl ?_
                    refine wr_addW (nx := 130) (r1 := 0) (r2 := 0) (r3 := 0) rfl (fun e39 (fe39 : -2147483648 ≤ e39 ∧ e39 ≤ 2147483647) => ?_)
                    refine wr_is (k0 := 59) (a := x9) (f := i14) (x := e39) (bl := -2147483648) (bh := 2147483647) (nx := 131) (r1 := 0) (r2 := 0) (r3 := 0) rfl (by decide) rfl (by omega) (by omega) (by decide) g10 rfl (by omega) (fun h40 g40 w40 u40 => ?_)
                    have F41 := F11.then rfl (FR.rngp (lo := 59) (hi := 59) u40 (by decide))
                    have F42 := u10.then rfl (FR.rngp (lo := 59) (hi := 59) u40 (by decide))
                    refine wi_iload (i := 9) (e := e36) (nx := 133) (r1 := 0) (r2 := 0) (r3 := 0) rfl rfl ?_
                    refine wi_aload_n (i := 0) (x := 56) (nx := 134) (r1 := 0) (r2 := 0) (r3 := 0) rfl rfl ?_
                    refine wi_iload_n (i := 2) (e := a0) (nx := 135) (r1 := 0) (r2 := 0) (r3 := 0) rfl rfl ?_
                    refine wi_iconst (n := 1) (nx := 136) (r1 := 0) (r2 := 0) (r3 := 0) rfl ?_
                    refine wr_add (nx := 137) (r1 := 0) (r2 := 0) (r3 := 0) rfl (fun e43 (fe43 : e43 = a0 + 1) => ?_)
                    refine wi_iload (i := 10) (e := e38) (nx := 139) (r1 := 0) (r2 := 0) (r3 := 0) rfl rfl ?_
                    refine wi_iload (i := 7) (e := h 19 i26) (nx := 141) (r1 := 0) (r2 := 0) (r3 := 0) rfl rfl ?_
                    refine wi_iload (i := 8) (e := 2) (nx := 143) (r1 := 0) (r2 := 0) (r3 := 0) rfl rfl ?_
                    refine wi_iload (i := 5) (e := a3) (nx := 145) (r1 := 0) (r2 := 0) (r3 := 0) rfl rfl ?_
                    refine wi_S (rest := [vi (h 19 i26), vi e38, vi e43, .ref 56, vi e36]) (as := [vi 2, vi a3]) (nx := 148) (r1 := 111) (r2 := 18) (r3 := 0) rfl rfl rfl (of_decide_eq_true rfl) rfl rfl (of_decide_eq_true rfl) (of_decide_eq_true rfl) ?_
                    refine wi_iload_n (i := 0) (e := 2) (nx := 1) (r1 := 0) (r2 := 0) (r3 := 0) rfl rfl ?_
                    refine wi_if (cd := .ne) (nx := 4) (r1 := 10) (r2 := 0) (r3 := 0) rfl (by omega) (fun (q44 : 2 ≠ 0) => ?_) (fun (q44 : ¬ (2 ≠ 0)) => by exfalso; omega)
                    refine wi_iconst (n := 1) (nx := 11) (r1 := 0) (r2 := 0) (r3 := 0) rfl ?_
                    refine wi_ireturn (nx := 12) (r1 := 0) (r2 := 0) (r3 := 0) rfl rfl ?_
                    refine wk_i ?_
                    refine wr_V (k0 := 56) (rest := [vi e36]) (as := [.ref 56, vi e43, vi e38, vi (h 19 i26), vi 1]) (nx := 151) (r1 := 164) (r2 := 4) (r3 := 6) rfl rfl rfl (of_decide_eq_true rfl) rfl rfl (by decide) rfl rfl (of_decide_eq_true rfl) (of_decide_eq_true rfl) ?_
                    refine wp_eq (e := d + 2 * (n - 1) + 5) (by omega) ?_
                    refine IH (n - 1) (by omega) g40 e43 e38 (h 19 i26) 1 (by omega) (by omega) (by omega) (by omega)  (by omega) (fun h45 z46 g45 u45 (fz46 : -2147483648 ≤ z46 ∧ z46 ≤ 2147483647) => ?_)
                    have F47 := F41.then (by decide +kernel) u45
                    have F48 := F42.then (by decide +kernel) u45
                    refine wk_i ?_
                    refine wr_addW (nx := 152) (r1 := 0) (r2 := 0) (r3 := 0) rfl (fun e49 (fe49 : -2147483648 ≤ e49 ∧ e49 ≤ 2147483647) => ?_)
                    refine wi_istore (i := 9) (e := e49) (lo2 := [(9, vi e49), (10, vi e38), (8, vi 2), (7, vi (h 19 i26)), (6, vi z18), (0, .ref 56), (1, vi x9), (2, vi a0), (3, vi a1), (4, vi a2), (5, vi a3)]) (nx := 154) (r1 := 0) (r2 := 0) (r3 := 0) rfl rfl ?_
                    refine wi_aload_n (i := 0) (x := 56) (nx := 155) (r1 := 0) (r2 := 0) (r3 := 0) rfl rfl ?_
                    refine wr_gr (k0 := 56) (x := 59) (nx := 158) (r1 := 6) (r2 := 4) (r3 := 0) rfl rfl (by decide) rfl ⟨rfl, rfl⟩ rfl ?_
                    refine wi_iload_n (i := 1) (e := x9) (nx := 159) (r1 := 0) (r2 := 0) (r3 := 0) rfl rfl ?_
                    refine wi_dup2 (nx := 160) (r1 := 0) (r2 := 0) (r3 := 0) rfl rfl rfl ?_
                    have b50 := gi_b (lo := -2147483648) (hi := 2147483647) g45 59 i14 rfl
                    refine wr_ia (k0 := 59) (a := x9) (f := i14) (x := h45 59 i14) (nx := 161) (r1 := 0) (r2 := 0) (r3 := 0) rfl (by decide) rfl (by omega) (by omega) (by decide) rfl ?_
                    refine wi_iconst (n := 1) (nx := 162) (r1 := 0) (r2 := 0) (r3 := 0) rfl ?_
                    refine wr_subW (nx := 163) (r1 := 0) (r2 := 0) (r3 := 0) rfl (fun e51 (fe51 : -2147483648 ≤ e51 ∧ e51 ≤ 2147483647) => ?_)
                    refine wr_is (k0 := 59) (a := x9) (f := i14) (x := e51) (bl := -2147483648) (bh := 2147483647) (nx := 164) (r1 := 0) (r2 := 0) (r3 := 0) rfl (by decide) rfl (by omega) (by omega) (by decide) g45 rfl (by omega) (fun h52 g52 w52 u52 => ?_)
                    have F53 := F47.then rfl (FR.rngp (lo := 59) (hi := 59) u52 (by decide))
                    have F54 := F48.then rfl (FR.rngp (lo := 59) (hi := 59) u52 (by decide))
                    refine wi_iload (i := 9) (e := e49) (nx := 166) (r1 := 0) (r2 := 0) (r3 := 0) rfl rfl ?_
                    refine wi_ldc (e := 1048576) (nx := 168) (r1 := 0) (r2 := 1048576) (r3 := 0) rfl rfl (by decide) ?_
                    refine wi_S (rest := []) (as := [vi e49, vi 1048576]) (nx := 171) (r1 := 355) (r2 := 18) (r3 := 0) rfl rfl rfl (of_decide_eq_true rfl) rfl rfl (of_decide_eq_true rfl) (of_decide_eq_true rfl) ?_
                    refine wi_iload_n (i := 0) (e := e49) (nx := 1) (r1 := 0) (r2 := 0) (r3 := 0) rfl rfl ?_
                    refine wi_iload_n (i := 1) (e := 1048576) (nx := 2) (r1 := 0) (r2 := 0) (r3 := 0) rfl rfl ?_
                    refine wi_icmp (cd := .gt) (nx := 5) (r1 := 9) (r2 := 0) (r3 := 0) rfl (by omega) (by omega) (fun (q55 : 1048576 < e49) => ?_) (fun (q55 : ¬ (1048576 < e49)) => ?_)
                    ·
                      refine wi_iload_n (i := 1) (e := 1048576) (nx := 10) (r1 := 0) (r2 := 0) (r3 := 0) rfl rfl ?_
                      refine wi_ireturn (nx := 11) (r1 := 0) (r2 := 0) (r3 := 0) rfl rfl ?_
                      refine wk_i ?_
                      refine wi_ireturn (nx := 172) (r1 := 0) (r2 := 0) (r3 := 0) rfl rfl ?_
                      refine wk_i ?_
                      refine wi_istore (i := 8) (e := 1048576) (lo2 := [(8, vi 1048576), (0, .ref 56), (1, vi a0), (2, vi a1), (3, vi a2), (4, vi a3), (5, vi z4), (6, vi x8), (7, vi x9)]) (nx := 71) (r1 := 0) (r2 := 0) (r3 := 0) rfl rfl ?_
                      refine wi_iload (i := 8) (e := 1048576) (nx := 73) (r1 := 0) (r2 := 0) (r3 := 0) rfl rfl ?_
                      refine wi_iload (i := 6) (e := x8) (nx := 75) (r1 := 0) (r2 := 0) (r3 := 0) rfl rfl ?_
                      refine wi_icmp (cd := .ge) (nx := 78) (r1 := 92) (r2 := 0) (r3 := 0) rfl (by omega) (by omega) (fun (q56 : x8 ≤ 1048576) => ?_) (fun (q56 : ¬ (x8 ≤ 1048576)) => by exfalso; omega)
                      refine wr_iinc (i := 7) (n := 1) (v := x9) (fun e57 => [(7, vi e57), (8, vi 1048576), (0, .ref 56), (1, vi a0), (2, vi a1), (3, vi a2), (4, vi a3), (5, vi z4), (6, vi x8)]) (nx := 95) (r1 := 0) (r2 := 0) (r3 := 0) rfl rfl (fun _ => rfl) (fun e57 (fe57 : e57 = x9 + 1) => ?_)
                      refine wi_goto (nx := 98) (r1 := 46) (r2 := 0) (r3 := 0) rfl ?_
                      refine wp.lo (lo := [(0, .ref 56), (1, vi a0), (2, vi a1), (3, vi a2), (4, vi a3), (5, vi z4), (6, vi x8), (7, vi e57)]) ⟨rfl, rfl, rfl, rfl, rfl, rfl, rfl, rfl, trivial⟩ rfl ?_
                      exact I10 x8 e57 h52 ⟨g52, F53, F54, (show (-2147483648 ≤ x8 ∧ x8 ≤ 1048576) ∧ (0 ≤ e57 ∧ e57 ≤ 4) by omega)⟩ (show ((4 : Int) + 1 - e57).toNat < ((4 : Int) + 1 - x9).toNat by omega)
                    ·
                      refine wi_iload_n (i := 0) (e := e49) (nx := 6) (r1 := 0) (r2 := 0) (r3 := 0) rfl rfl ?_
                      refine wi_goto (nx := 9) (r1 := 10) (r2 := 0) (r3 := 0) rfl ?_
                      refine wi_ireturn (nx := 11) (r1 := 0) (r2 := 0) (r3 := 0) rfl rfl ?_
                      refine wk_i ?_
                      refine wi_ireturn (nx := 172) (r1 := 0) (r2 := 0) (r3 := 0) rfl rfl ?_
                      refine wk_i ?_
                      refine wi_istore (i := 8) (e := e49) (lo2 := [(8, vi e49), (0, .ref 56), (1, vi a0), (2, vi a1), (3, vi a2), (4, vi a3), (5, vi z4), (6, vi x8), (7, vi x9)]) (nx := 71) (r1 := 0) (r2 := 0) (r3 := 0) rfl rfl ?_
                      refine wi_iload (i := 8) (e := e49) (nx := 73) (r1 := 0) (r2 := 0) (r3 := 0) rfl rfl ?_
                      refine wi_iload (i := 6) (e := x8) (nx := 75) (r1 := 0) (r2 := 0) (r3 := 0) rfl rfl ?_
                      refine wi_icmp (cd := .ge) (nx := 78) (r1 := 92) (r2 := 0) (r3 := 0) rfl (by omega) (by omega) (fun (q56 : x8 ≤ e49) => ?_) (fun (q56 : ¬ (x8 ≤ e49)) => ?_)
                      ·
                        refine wr_iinc (i := 7) (n := 1) (v := x9) (fun e57 => [(7, vi e57), (8, vi e49), (0, .ref 56), (1, vi a0), (2, vi a1), (3, vi a2), (4, vi a3), (5, vi z4), (6, vi x8)]) (nx := 95) (r1 := 0) (r2 := 0) (r3 := 0) rfl rfl (fun _ => rfl) (fun e57 (fe57 : e57 = x9 + 1) => ?_)
                        refine wi_goto (nx := 98) (r1 := 46) (r2 := 0) (r3 := 0) rfl ?_
                        refine wp.lo (lo := [(0, .ref 56), (1, vi a0), (2, vi a1), (3, vi a2), (4, vi a3), (5, vi z4), (6, vi x8), (7, vi e57)]) ⟨rfl, rfl, rfl, rfl, rfl, rfl, rfl, rfl, trivial⟩ rfl ?_
                        exact I10 x8 e57 h52 ⟨g52, F53, F54, (show (-2147483648 ≤ x8 ∧ x8 ≤ 1048576) ∧ (0 ≤ e57 ∧ e57 ≤ 4) by omega)⟩ (show ((4 : Int) + 1 - e57).toNat < ((4 : Int) + 1 - x9).toNat by omega)
                      ·
                        refine wi_iload (i := 8) (e := e49) (nx := 80) (r1 := 0) (r2 := 0) (r3 := 0) rfl rfl ?_
                        refine wi_istore (i := 6) (e := e49) (lo2 := [(6, vi e49), (8, vi e49), (0, .ref 56), (1, vi a0), (2, vi a1), (3, vi a2), (4, vi a3), (5, vi z4), (7, vi x9)]) (nx := 82) (r1 := 0) (r2 := 0) (r3 := 0) rfl rfl ?_
                        refine wi_aload_n (i := 0) (x := 56) (nx := 83) (r1 := 0) (r2 := 0) (r3 := 0) rfl rfl ?_
                        refine wr_gr (k0 := 56) (x := 58) (nx := 86) (r1 := 6) (r2 := 3) (r3 := 0) rfl rfl (by decide) rfl ⟨rfl, rfl⟩ rfl ?_
                        refine wi_iload (i := 5) (e := z4) (nx := 88) (r1 := 0) (r2 := 0) (r3 := 0) rfl rfl ?_
                        refine wi_iload (i := 7) (e := x9) (nx := 90) (r1 := 0) (r2 := 0) (r3 := 0) rfl rfl ?_
                        refine wr_i2bA (nx := 91) (r1 := 0) (r2 := 0) (r3 := 0) rfl (fun e57 (fe57 : -128 ≤ e57 ∧ e57 ≤ 127) => ?_)
                        refine wr_bs (k0 := 58) (a := z4) (f := i5) (x := e57) (bl := -128) (bh := 127) (nx := 92) (r1 := 0) (r2 := 0) (r3 := 0) rfl (by decide) rfl (by omega) (by omega) (by omega) (by decide) g52 rfl (by omega) (fun h58 g58 w58 u58 => ?_)
                        have F59 := F53.then rfl (FR.rngp (lo := 58) (hi := 58) u58 (by decide))
                        have F60 := F54.then rfl (FR.rngp (lo := 58) (hi := 58) u58 (by decide))
                        refine wr_iinc (i := 7) (n := 1) (v := x9) (fun e61 => [(7, vi e61), (6, vi e49), (8, vi e49), (0, .ref 56), (1, vi a0), (2, vi a1), (3, vi a2), (4, vi a3), (5, vi z4)]) (nx := 95) (r1 := 0) (r2 := 0) (r3 := 0) rfl rfl (fun _ => rfl) (fun e61 (fe61 : e61 = x9 + 1) => ?_)
                        refine wi_goto (nx := 98) (r1 := 46) (r2 := 0) (r3 := 0) rfl ?_
                        refine wp.lo (lo := [(0, .ref 56), (1, vi a0), (2, vi a1), (3, vi a2), (4, vi a3), (5, vi z4), (6, vi e49), (7, vi e61)]) ⟨rfl, rfl, rfl, rfl, rfl, rfl, rfl, rfl, trivial⟩ rfl ?_
                        exact I10 e49 e61 h58 ⟨g58, F59, F60, (show (-2147483648 ≤ e49 ∧ e49 ≤ 1048576) ∧ (0 ≤ e61 ∧ e61 ≤ 4) by omega)⟩ (show ((4 : Int) + 1 - e61).toNat < ((4 : Int) + 1 - x9).toNat by omega)
                ·
                  refine wi_iconst (n := 1) (nx := 13) (r1 := 0) (r2 := 0) (r3 := 0) rfl ?_
                  refine wi_ireturn (nx := 14) (r1 := 0) (r2 := 0) (r3 := 0) rfl rfl ?_
                  refine wk_i ?_
                  refine wi_istore (i := 8) (e := 1) (lo2 := [(8, vi 1), (7, vi (h 19 i26)), (6, vi z18), (0, .ref 56), (1, vi x9), (2, vi a0), (3, vi a1), (4, vi a2), (5, vi a3)]) (nx := 83) (r1 := 0) (r2 := 0) (r3 := 0) rfl rfl ?_
                  refine wi_aload_n (i := 0) (x := 56) (nx := 84) (r1 := 0) (r2 := 0) (r3 := 0) rfl rfl ?_
                  refine wr_gr (k0 := 56) (x := 3) (nx := 87) (r1 := 6) (r2 := 0) (r3 := 0) rfl rfl (by decide) rfl ⟨rfl, rfl⟩ rfl ?_
                  refine wi_iload (i := 8) (e := 1) (nx := 89) (r1 := 0) (r2 := 0) (r3 := 0) rfl rfl ?_
                  refine wi_iload (i := 7) (e := h 19 i26) (nx := 91) (r1 := 0) (r2 := 0) (r3 := 0) rfl rfl ?_
                  refine wr_V (k0 := 3) (rest := []) (as := [.ref 3, vi 1, vi (h 19 i26)]) (nx := 94) (r1 := 110) (r2 := 2) (r3 := 2) rfl rfl rfl (of_decide_eq_true rfl) rfl rfl (by decide) rfl rfl (of_decide_eq_true rfl) (of_decide_eq_true rfl) ?_
                  refine ct_110_3 hcr  g10 1 (h 19 i26) (by omega) (by omega)  (fun z31  (fz31 : -2147483648 ≤ z31 ∧ z31 ≤ 2147483647) => ?_)
                  refine wk_i ?_
                  refine wi_bipush (n := 16) (nx := 96) (r1 := 0) (r2 := 0) (r3 := 0) rfl (by decide) ?_
                  refine wr_mulW (nx := 97) (r1 := 0) (r2 := 0) (r3 := 0) rfl (fun e32 (fe32 : -2147483648 ≤ e32 ∧ e32 ≤ 2147483647) => ?_)
                  refine wi_iload (i := 8) (e := 1) (nx := 99) (r1 := 0) (r2 := 0) (r3 := 0) rfl rfl ?_
                  refine wi_iconst (n := 1) (nx := 100) (r1 := 0) (r2 := 0) (r3 := 0) rfl ?_
                  refine wi_icmp (cd := .ne) (nx := 103) (r1 := 107) (r2 := 0) (r3 := 0) rfl (by omega) (by omega) (fun (q33 : 1 ≠ 1) => by exfalso; omega) (fun (q33 : ¬ (1 ≠ 1)) => ?_)
                  refine wi_iconst (n := 1) (nx := 104) (r1 := 0) (r2 := 0) (r3 := 0) rfl ?_
                  refine wi_goto (nx := 107) (r1 := 108) (r2 := 0) (r3 := 0) rfl ?_
                  refine wr_addW (nx := 109) (r1 := 0) (r2 := 0) (r3 := 0) rfl (fun e34 (fe34 : -2147483648 ≤ e34 ∧ e34 ≤ 2147483647) => ?_)
                  refine wi_istore (i := 9) (e := e34) (lo2 := [(9, vi e34), (8, vi 1), (7, vi (h 19 i26)), (6, vi z18), (0, .ref 56), (1, vi x9), (2, vi a0), (3, vi a1), (4, vi a2), (5, vi a3)]) (nx := 111) (r1 := 0) (r2 := 0) (r3 := 0) rfl rfl ?_
                  refine wi_iload_n (i := 3) (e := a1) (nx := 112) (r1 := 0) (r2 := 0) (r3 := 0) rfl rfl ?_
                  refine wi_aload_n (i := 0) (x := 56) (nx := 113) (r1 := 0) (r2 := 0) (r3 := 0) rfl rfl ?_
                  refine wr_gr (k0 := 56) (x := 60) (nx := 116) (r1 := 6) (r2 := 5) (r3 := 0) rfl rfl (by decide) rfl ⟨rfl, rfl⟩ rfl ?_
                  refine wi_iload_n (i := 1) (e := x9) (nx := 117) (r1 := 0) (r2 := 0) (r3 := 0) rfl rfl ?_
                  have b35 := gi_b (lo := -2147483648) (hi := 2147483647) g 60 i14 rfl
                  refine wr_ia (k0 := 60) (a := x9) (f := i14) (x := h 60 i14) (nx := 118) (r1 := 0) (r2 := 0) (r3 := 0) rfl (by decide) rfl (by omega) (by omega) (by decide) (u10 60 i14 (fn_a (by omega) (fn_a (by omega) (fn_a (by omega) fn_0)))) ?_
                  refine wr_addW (nx := 119) (r1 := 0) (r2 := 0) (r3 := 0) rfl (fun e36 (fe36 : -2147483648 ≤ e36 ∧ e36 ≤ 2147483647) => ?_)
                  refine wi_istore (i := 10) (e := e36) (lo2 := [(10, vi e36), (9, vi e34), (8, vi 1), (7, vi (h 19 i26)), (6, vi z18), (0, .ref 56), (1, vi x9), (2, vi a0), (3, vi a1), (4, vi a2), (5, vi a3)]) (nx := 121) (r1 := 0) (r2 := 0) (r3 := 0) rfl rfl ?_
                  refine wi_aload_n (i := 0) (x := 56) (nx := 122) (r1 := 0) (r2 := 0) (r3 := 0) rfl rfl ?_
                  refine wr_gr (k0 := 56) (x := 59) (nx := 125) (r1 := 6) (r2 := 4) (r3 := 0) rfl rfl (by decide) rfl ⟨rfl, rfl⟩ rfl ?_
                  refine wi_iload_n (i := 1) (e := x9) (nx := 126) (r1 := 0) (r2 := 0) (r3 := 0) rfl rfl ?_
                  refine wi_dup2 (nx := 127) (r1 := 0) (r2 := 0) (r3 := 0) rfl rfl rfl ?_
                  refine wr_ia (k0 := 59) (a := x9) (f := i14) (x := h10 59 i14) (nx := 128) (r1 := 0) (r2 := 0) (r3 := 0) rfl (by decide) rfl (by omega) (by omega) (by decide) rfl ?_
                  refine wi_iconst (n := 1) (nx := 129) (r1 := 0) (r2 := 0) (r3 := 0) rfl ?_
                  refine wr_addW (nx := 130) (r1 := 0) (r2 := 0) (r3 := 0) rfl (fun e37 (fe37 : -2147483648 ≤ e37 ∧ e37 ≤ 2147483647) => ?_)
                  refine wr_is (k0 := 59) (a := x9) (f := i14) (x := e37) (bl := -2147483648) (bh := 2147483647) (nx := 131) (r1 := 0) (r2 := 0) (r3 := 0) rfl (by decide) rfl (by omega) (by omega) (by decide) g10 rfl (by omega) (fun h38 g38 w38 u38 => ?_)
                  have F39 := F11.then rfl (FR.rngp (lo := 59) (hi := 59) u38 (by decide))
                  have F40 := u10.then rfl (FR.rngp (lo := 59) (hi := 59) u38 (by decide))
                  refine wi_iload (i := 9) (e := e34) (nx := 133) (r1 := 0) (r2 := 0) (r3 := 0) rfl rfl ?_
                  refine wi_aload_n (i := 0) (x := 56) (nx := 134) (r1 := 0) (r2 := 0) (r3 := 0) rfl rfl ?_
                  refine wi_iload_n (i := 2) (e := a0) (nx := 135) (r1 := 0) (r2 := 0) (r3 := 0) rfl rfl ?_
                  refine wi_iconst (n := 1) (nx := 136) (r1 := 0) (r2 := 0) (r3 := 0) rfl ?_
                  refine wr_add (nx := 137) (r1 := 0) (r2 := 0) (r3 := 0) rfl (fun e41 (fe41 : e41 = a0 + 1) => ?_)
                  refine wi_iload (i := 10) (e := e36) (nx := 139) (r1 := 0) (r2 := 0) (r3 := 0) rfl rfl ?_
                  refine wi_iload (i := 7) (e := h 19 i26) (nx := 141) (r1 := 0) (r2 := 0) (r3 := 0) rfl rfl ?_
                  refine wi_iload (i := 8) (e := 1) (nx := 143) (r1 := 0) (r2 := 0) (r3 := 0) rfl rfl ?_
                  refine wi_iload (i := 5) (e := a3) (nx := 145) (r1 := 0) (r2 := 0) (r3 := 0) rfl rfl ?_
                  refine wi_S (rest := [vi (h 19 i26), vi e36, vi e41, .ref 56, vi e34]) (as := [vi 1, vi a3]) (nx := 148) (r1 := 111) (r2 := 18) (r3 := 0) rfl rfl rfl (of_decide_eq_true rfl) rfl rfl (of_decide_eq_true rfl) (of_decide_eq_true rfl) ?_
                  refine wi_iload_n (i := 0) (e := 1) (nx := 1) (r1 := 0) (r2 := 0) (r3 := 0) rfl rfl ?_
                  refine wi_if (cd := .ne) (nx := 4) (r1 := 10) (r2 := 0) (r3 := 0) rfl (by omega) (fun (q42 : 1 ≠ 0) => ?_) (fun (q42 : ¬ (1 ≠ 0)) => by exfalso; omega)
                  refine wi_iconst (n := 1) (nx := 11) (r1 := 0) (r2 := 0) (r3 := 0) rfl ?_
                  refine wi_ireturn (nx := 12) (r1 := 0) (r2 := 0) (r3 := 0) rfl rfl ?_
                  refine wk_i ?_
                  refine wr_V (k0 := 56) (rest := [vi e34]) (as := [.ref 56, vi e41, vi e36, vi (h 19 i26), vi 1]) (nx := 151) (r1 := 164) (r2 := 4) (r3 := 6) rfl rfl rfl (of_decide_eq_true rfl) rfl rfl (by decide) rfl rfl (of_decide_eq_true rfl) (of_decide_eq_true rfl) ?_
                  refine wp_eq (e := d + 2 * (n - 1) + 5) (by omega) ?_
                  refine IH (n - 1) (by omega) g38 e41 e36 (h 19 i26) 1 (by omega) (by omega) (by omega) (by omega)  (by omega) (fun h43 z44 g43 u43 (fz44 : -2147483648 ≤ z44 ∧ z44 ≤ 2147483647) => ?_)
                  have F45 := F39.then (by decide +kernel) u43
                  have F46 := F40.then (by decide +kernel) u43
                  refine wk_i ?_
                  refine wr_addW (nx := 152) (r1 := 0) (r2 := 0) (r3 := 0) rfl (fun e47 (fe47 : -2147483648 ≤ e47 ∧ e47 ≤ 2147483647) => ?_)
                  refine wi_istore (i := 9) (e := e47) (lo2 := [(9, vi e47), (10, vi e36), (8, vi 1), (7, vi (h 19 i26)), (6, vi z18), (0, .ref 56), (1, vi x9), (2, vi a0), (3, vi a1), (4, vi a2), (5, vi a3)]) (nx := 154) (r1 := 0) (r2 := 0) (r3 := 0) rfl rfl ?_
                  refine wi_aload_n (i := 0) (x := 56) (nx := 155) (r1 := 0) (r2 := 0) (r3 := 0) rfl rfl ?_
                  refine wr_gr (k0 := 56) (x := 59) (nx := 158) (r1 := 6) (r2 := 4) (r3 := 0) rfl rfl (by decide) rfl ⟨rfl, rfl⟩ rfl ?_
                  refine wi_iload_n (i := 1) (e := x9) (nx := 159) (r1 := 0) (r2 := 0) (r3 := 0) rfl rfl ?_
                  refine wi_dup2 (nx := 160) (r1 := 0) (r2 := 0) (r3 := 0) rfl rfl rfl ?_
                  have b48 := gi_b (lo := -2147483648) (hi := 2147483647) g43 59 i14 rfl
                  refine wr_ia (k0 := 59) (a := x9) (f := i14) (x := h43 59 i14) (nx := 161) (r1 := 0) (r2 := 0) (r3 := 0) rfl (by decide) rfl (by omega) (by omega) (by decide) rfl ?_
                  refine wi_iconst (n := 1) (nx := 162) (r1 := 0) (r2 := 0) (r3 := 0) rfl ?_
                  refine wr_subW (nx := 163) (r1 := 0) (r2 := 0) (r3 := 0) rfl (fun e49 (fe49 : -2147483648 ≤ e49 ∧ e49 ≤ 2147483647) => ?_)
                  refine wr_is (k0 := 59) (a := x9) (f := i14) (x := e49) (bl := -2147483648) (bh := 2147483647) (nx := 164) (r1 := 0) (r2 := 0) (r3 := 0) rfl (by decide) rfl (by omega) (by omega) (by decide) g43 rfl (by omega) (fun h50 g50 w50 u50 => ?_)
                  have F51 := F45.then rfl (FR.rngp (lo := 59) (hi := 59) u50 (by decide))
                  have F52 := F46.then rfl (FR.rngp (lo := 59) (hi := 59) u50 (by decide))
                  refine wi_iload (i := 9) (e := e47) (nx := 166) (r1 := 0) (r2 := 0) (r3 := 0) rfl rfl ?_
                  refine wi_ldc (e := 1048576) (nx := 168) (r1 := 0) (r2 := 1048576) (r3 := 0) rfl rfl (by decide) ?_
                  refine wi_S (rest := []) (as := [vi e47, vi 1048576]) (nx := 171) (r1 := 355) (r2 := 18) (r3 := 0) rfl rfl rfl (of_decide_eq_true rfl) rfl rfl (of_decide_eq_true rfl) (of_decide_eq_true rfl) ?_
                  refine wi_iload_n (i := 0) (e := e47) (nx := 1) (r1 := 0) (r2 := 0) (r3 := 0) rfl rfl ?_
                  refine wi_iload_n (i := 1) (e := 1048576) (nx := 2) (r1 := 0) (r2 := 0) (r3 := 0) rfl rfl ?_
                  refine wi_icmp (cd := .gt) (nx := 5) (r1 := 9) (r2 := 0) (r3 := 0) rfl (by omega) (by omega) (fun (q53 : 1048576 < e47) => ?_) (fun (q53 : ¬ (1048576 < e47)) => ?_)
                  ·
                    refine wi_iload_n (i := 1) (e := 1048576) (nx := 10) (r1 := 0) (r2 := 0) (r3 := 0) rfl rfl ?_
                    refine wi_ireturn (nx := 11) (r1 := 0) (r2 := 0) (r3 := 0) rfl rfl ?_
                    refine wk_i ?_
                    refine wi_ireturn (nx := 172) (r1 := 0) (r2 := 0) (r3 := 0) rfl rfl ?_
                    refine wk_i ?_
                    refine wi_istore (i := 8) (e := 1048576) (lo2 := [(8, vi 1048576), (0, .ref 56), (1, vi a0), (2, vi a1), (3, vi a2), (4, vi a3), (5, vi z4), (6, vi x8), (7, vi x9)]) (nx := 71) (r1 := 0) (r2 := 0) (r3 := 0) rfl rfl ?_
                    refine wi_iload (i := 8) (e := 1048576) (nx := 73) (r1 := 0) (r2 := 0) (r3 := 0) rfl rfl ?_
                    refine wi_iload (i := 6) (e := x8) (nx := 75) (r1 := 0) (r2 := 0) (r3 := 0) rfl rfl ?_
                    refine wi_icmp (cd := .ge) (nx := 78) (r1 := 92) (r2 := 0) (r3 := 0) rfl (by omega) (by omega) (fun (q54 : x8 ≤ 1048576) => ?_) (fun (q54 : ¬ (x8 ≤ 1048576)) => by exfalso; omega)
                    refine wr_iinc (i := 7) (n := 1) (v := x9) (fun e55 => [(7, vi e55), (8, vi 1048576), (0, .ref 56), (1, vi a0), (2, vi a1), (3, vi a2), (4, vi a3), (5, vi z4), (6, vi x8)]) (nx := 95) (r1 := 0) (r2 := 0) (r3 := 0) rfl rfl (fun _ => rfl) (fun e55 (fe55 : e55 = x9 + 1) => ?_)
                    refine wi_goto (nx := 98) (r1 := 46) (r2 := 0) (r3 := 0) rfl ?_
                    refine wp.lo (lo := [(0, .ref 56), (1, vi a0), (2, vi a1), (3, vi a2), (4, vi a3), (5, vi z4), (6, vi x8), (7, vi e55)]) ⟨rfl, rfl, rfl, rfl, rfl, rfl, rfl, rfl, trivial⟩ rfl ?_
                    exact I10 x8 e55 h50 ⟨g50, F51, F52, (show (-2147483648 ≤ x8 ∧ x8 ≤ 1048576) ∧ (0 ≤ e55 ∧ e55 ≤ 4) by omega)⟩ (show ((4 : Int) + 1 - e55).toNat < ((4 : Int) + 1 - x9).toNat by omega)
                  ·
                    refine wi_iload_n (i := 0) (e := e47) (nx := 6) (r1 := 0) (r2 := 0) (r3 := 0) rfl rfl ?_
                    refine wi_goto (nx := 9) (r1 := 10) (r2 := 0) (r3 := 0) rfl ?_
                    refine wi_ireturn (nx := 11) (r1 := 0) (r2 := 0) (r3 := 0) rfl rfl ?_
                    refine wk_i ?_
                    refine wi_ireturn (nx := 172) (r1 := 0) (r2 := 0) (r3 := 0) rfl rfl ?_
                    refine wk_i ?_
                    refine wi_istore (i := 8) (e := e47) (lo2 := [(8, vi e47), (0, .ref 56), (1, vi a0), (2, vi a1), (3, vi a2), (4, vi a3), (5, vi z4), (6, vi x8), (7, vi x9)]) (nx := 71) (r1 := 0) (r2 := 0) (r3 := 0) rfl rfl ?_
                    refine wi_iload (i := 8) (e := e47) (nx := 73) (r1 := 0) (r2 := 0) (r3 := 0) rfl rfl ?_
                    refine wi_iload (i := 6) (e := x8) (nx := 75) (r1 := 0) (r2 := 0) (r3 := 0) rfl rfl ?_
                    refine wi_icmp (cd := .ge) (nx := 78) (r1 := 92) (r2 := 0) (r3 := 0) rfl (by omega) (by omega) (fun (q54 : x8 ≤ e47) => ?_) (fun (q54 : ¬ (x8 ≤ e47)) => ?_)
                    ·
                      refine wr_iinc (i := 7) (n := 1) (v := x9) (fun e55 => [(7, vi e55), (8, vi e47), (0, .ref 56), (1, vi a0), (2, vi a1), (3, vi a2), (4, vi a3), (5, vi z4), (6, vi x8)]) (nx := 95) (r1 := 0) (r2 := 0) (r3 := 0) rfl rfl (fun _ => rfl) (fun e55 (fe55 : e55 = x9 + 1) => ?_)
                      refine wi_goto (nx := 98) (r1 := 46) (r2 := 0) (r3 := 0) rfl ?_
                      refine wp.lo (lo := [(0, .ref 56), (1, vi a0), (2, vi a1), (3, vi a2), (4, vi a3), (5, vi z4), (6, vi x8), (7, vi e55)]) ⟨rfl, rfl, rfl, rfl, rfl, rfl, rfl, rfl, trivial⟩ rfl ?_
                      exact I10 x8 e55 h50 ⟨g50, F51, F52, (show (-2147483648 ≤ x8 ∧ x8 ≤ 1048576) ∧ (0 ≤ e55 ∧ e55 ≤ 4) by omega)⟩ (show ((4 : Int) + 1 - e55).toNat < ((4 : Int) + 1 - x9).toNat by omega)
                    ·
                      refine wi_iload (i := 8) (e := e47) (nx := 80) (r1 := 0) (r2 := 0) (r3 := 0) rfl rfl ?_
                      refine wi_istore (i := 6) (e := e47) (lo2 := [(6, vi e47), (8, vi e47), (0, .ref 56), (1, vi a0), (2, vi a1), (3, vi a2), (4, vi a3), (5, vi z4), (7, vi x9)]) (nx := 82) (r1 := 0) (r2 := 0) (r3 := 0) rfl rfl ?_
                      refine wi_aload_n (i := 0) (x := 56) (nx := 83) (r1 := 0) (r2 := 0) (r3 := 0) rfl rfl ?_
                      refine wr_gr (k0 := 56) (x := 58) (nx := 86) (r1 := 6) (r2 := 3) (r3 := 0) rfl rfl (by decide) rfl ⟨rfl, rfl⟩ rfl ?_
                      refine wi_iload (i := 5) (e := z4) (nx := 88) (r1 := 0) (r2 := 0) (r3 := 0) rfl rfl ?_
                      refine wi_iload (i := 7) (e := x9) (nx := 90) (r1 := 0) (r2 := 0) (r3 := 0) rfl rfl ?_
                      refine wr_i2bA (nx := 91) (r1 := 0) (r2 := 0) (r3 := 0) rfl (fun e55 (fe55 : -128 ≤ e55 ∧ e55 ≤ 127) => ?_)
                      refine wr_bs (k0 := 58) (a := z4) (f := i5) (x := e55) (bl := -128) (bh := 127) (nx := 92) (r1 := 0) (r2 := 0) (r3 := 0) rfl (by decide) rfl (by omega) (by omega) (by omega) (by decide) g50 rfl (by omega) (fun h56 g56 w56 u56 => ?_)
                      have F57 := F51.then rfl (FR.rngp (lo := 58) (hi := 58) u56 (by decide))
                      have F58 := F52.then rfl (FR.rngp (lo := 58) (hi := 58) u56 (by decide))
                      refine wr_iinc (i := 7) (n := 1) (v := x9) (fun e59 => [(7, vi e59), (6, vi e47), (8, vi e47), (0, .ref 56), (1, vi a0), (2, vi a1), (3, vi a2), (4, vi a3), (5, vi z4)]) (nx := 95) (r1 := 0) (r2 := 0) (r3 := 0) rfl rfl (fun _ => rfl) (fun e59 (fe59 : e59 = x9 + 1) => ?_)
                      refine wi_goto (nx := 98) (r1 := 46) (r2 := 0) (r3 := 0) rfl ?_
                      refine wp.lo (lo := [(0, .ref 56), (1, vi a0), (2, vi a1), (3, vi a2), (4, vi a3), (5, vi z4), (6, vi e47), (7, vi e59)]) ⟨rfl, rfl, rfl, rfl, rfl, rfl, rfl, rfl, trivial⟩ rfl ?_
                      exact I10 e47 e59 h56 ⟨g56, F57, F58, (show (-2147483648 ≤ e47 ∧ e47 ≤ 1048576) ∧ (0 ≤ e59 ∧ e59 ≤ 4) by omega)⟩ (show ((4 : Int) + 1 - e59).toNat < ((4 : Int) + 1 - x9).toNat by omega)
              ·
                refine wi_iconst (n := 0) (nx := 6) (r1 := 0) (r2 := 0) (r3 := 0) rfl ?_
                refine wi_ireturn (nx := 7) (r1 := 0) (r2 := 0) (r3 := 0) rfl rfl ?_
                refine wk_i ?_
                refine wi_istore (i := 8) (e := 0) (lo2 := [(8, vi 0), (7, vi (h 19 i26)), (6, vi z18), (0, .ref 56), (1, vi x9), (2, vi a0), (3, vi a1), (4, vi a2), (5, vi a3)]) (nx := 83) (r1 := 0) (r2 := 0) (r3 := 0) rfl rfl ?_
                refine wi_aload_n (i := 0) (x := 56) (nx := 84) (r1 := 0) (r2 := 0) (r3 := 0) rfl rfl ?_
                refine wr_gr (k0 := 56) (x := 3) (nx := 87) (r1 := 6) (r2 := 0) (r3 := 0) rfl rfl (by decide) rfl ⟨rfl, rfl⟩ rfl ?_
                refine wi_iload (i := 8) (e := 0) (nx := 89) (r1 := 0) (r2 := 0) (r3 := 0) rfl rfl ?_
                refine wi_iload (i := 7) (e := h 19 i26) (nx := 91) (r1 := 0) (r2 := 0) (r3 := 0) rfl rfl ?_
                refine wr_V (k0 := 3) (rest := []) (as := [.ref 3, vi 0, vi (h 19 i26)]) (nx := 94) (r1 := 110) (r2 := 2) (r3 := 2) rfl rfl rfl (of_decide_eq_true rfl) rfl rfl (by decide) rfl rfl (of_decide_eq_true rfl) (of_decide_eq_true rfl) ?_
                refine ct_110_3 hcr  g10 0 (h 19 i26) (by omega) (by omega)  (fun z30  (fz30 : -2147483648 ≤ z30 ∧ z30 ≤ 2147483647) => ?_)
                refine wk_i ?_
                refine wi_bipush (n := 16) (nx := 96) (r1 := 0) (r2 := 0) (r3 := 0) rfl (by decide) ?_
                refine wr_mulW (nx := 97) (r1 := 0) (r2 := 0) (r3 := 0) rfl (fun e31 (fe31 : -2147483648 ≤ e31 ∧ e31 ≤ 2147483647) => ?_)
                refine wi_iload (i := 8) (e := 0) (nx := 99) (r1 := 0) (r2 := 0) (r3 := 0) rfl rfl ?_
                refine wi_iconst (n := 1) (nx := 100) (r1 := 0) (r2 := 0) (r3 := 0) rfl ?_
                refine wi_icmp (cd := .ne) (nx := 103) (r1 := 107) (r2 := 0) (r3 := 0) rfl (by omega) (by omega) (fun (q32 : 0 ≠ 1) => ?_) (fun (q32 : ¬ (0 ≠ 1)) => by exfalso; omega)
                refine wi_iconst (n := 0) (nx := 108) (r1 := 0) (r2 := 0) (r3 := 0) rfl ?_
                refine wr_add (nx := 109) (r1 := 0) (r2 := 0) (r3 := 0) rfl (fun e33 (fe33 : e33 = e31 + 0) => ?_)
                refine wi_istore (i := 9) (e := e33) (lo2 := [(9, vi e33), (8, vi 0), (7, vi (h 19 i26)), (6, vi z18), (0, .ref 56), (1, vi x9), (2, vi a0), (3, vi a1), (4, vi a2), (5, vi a3)]) (nx := 111) (r1 := 0) (r2 := 0) (r3 := 0) rfl rfl ?_
                refine wi_iload_n (i := 3) (e := a1) (nx := 112) (r1 := 0) (r2 := 0) (r3 := 0) rfl rfl ?_
                refine wi_aload_n (i := 0) (x := 56) (nx := 113) (r1 := 0) (r2 := 0) (r3 := 0) rfl rfl ?_
                refine wr_gr (k0 := 56) (x := 60) (nx := 116) (r1 := 6) (r2 := 5) (r3 := 0) rfl rfl (by decide) rfl ⟨rfl, rfl⟩ rfl ?_
                refine wi_iload_n (i := 1) (e := x9) (nx := 117) (r1 := 0) (r2 := 0) (r3 := 0) rfl rfl ?_
                have b34 := gi_b (lo := -2147483648) (hi := 2147483647) g 60 i14 rfl
                refine wr_ia (k0 := 60) (a := x9) (f := i14) (x := h 60 i14) (nx := 118) (r1 := 0) (r2 := 0) (r3 := 0) rfl (by decide) rfl (by omega) (by omega) (by decide) (u10 60 i14 (fn_a (by omega) (fn_a (by omega) (fn_a (by omega) fn_0)))) ?_
                refine wr_addW (nx := 119) (r1 := 0) (r2 := 0) (r3 := 0) rfl (fun e35 (fe35 : -2147483648 ≤ e35 ∧ e35 ≤ 2147483647) => ?_)
                refine wi_istore (i := 10) (e := e35) (lo2 := [(10, vi e35), (9, vi e33), (8, vi 0), (7, vi (h 19 i26)), (6, vi z18), (0, .ref 56), (1, vi x9), (2, vi a0), (3, vi a1), (4, vi a2), (5, vi a3)]) (nx := 121) (r1 := 0) (r2 := 0) (r3 := 0) rfl rfl ?_
                refine wi_aload_n (i := 0) (x := 56) (nx := 122) (r1 := 0) (r2 := 0) (r3 := 0) rfl rfl ?_
                refine wr_gr (k0 := 56) (x := 59) (nx := 125) (r1 := 6) (r2 := 4) (r3 := 0) rfl rfl (by decide) rfl ⟨rfl, rfl⟩ rfl ?_
                refine wi_iload_n (i := 1) (e := x9) (nx := 126) (r1 := 0) (r2 := 0) (r3 := 0) rfl rfl ?_
                refine wi_dup2 (nx := 127) (r1 := 0) (r2 := 0) (r3 := 0) rfl rfl rfl ?_
                refine wr_ia (k0 := 59) (a := x9) (f := i14) (x := h10 59 i14) (nx := 128) (r1 := 0) (r2 := 0) (r3 := 0) rfl (by decide) rfl (by omega) (by omega) (by decide) rfl ?_
                refine wi_iconst (n := 1) (nx := 129) (r1 := 0) (r2 := 0) (r3 := 0) rfl ?_
                refine wr_addW (nx := 130) (r1 := 0) (r2 := 0) (r3 := 0) rfl (fun e36 (fe36 : -2147483648 ≤ e36 ∧ e36 ≤ 2147483647) => ?_)
                refine wr_is (k0 := 59) (a := x9) (f := i14) (x := e36) (bl := -2147483648) (bh := 2147483647) (nx := 131) (r1 := 0) (r2 := 0) (r3 := 0) rfl (by decide) rfl (by omega) (by omega) (by decide) g10 rfl (by omega) (fun h37 g37 w37 u37 => ?_)
                have F38 := F11.then rfl (FR.rngp (lo := 59) (hi := 59) u37 (by decide))
                have F39 := u10.then rfl (FR.rngp (lo := 59) (hi := 59) u37 (by decide))
                refine wi_iload (i := 9) (e := e33) (nx := 133) (r1 := 0) (r2 := 0) (r3 := 0) rfl rfl ?_
                refine wi_aload_n (i := 0) (x := 56) (nx := 134) (r1 := 0) (r2 := 0) (r3 := 0) rfl rfl ?_
                refine wi_iload_n (i := 2) (e := a0) (nx := 135) (r1 := 0) (r2 := 0) (r3 := 0) rfl rfl ?_
                refine wi_iconst (n := 1) (nx := 136) (r1 := 0) (r2 := 0) (r3 := 0) rfl ?_
                refine wr_add (nx := 137) (r1 := 0) (r2 := 0) (r3 := 0) rfl (fun e40 (fe40 : e40 = a0 + 1) => ?_)
                refine wi_iload (i := 10) (e := e35) (nx := 139) (r1 := 0) (r2 := 0) (r3 := 0) rfl rfl ?_
                refine wi_iload (i := 7) (e := h 19 i26) (nx := 141) (r1 := 0) (r2 := 0) (r3 := 0) rfl rfl ?_
                refine wi_iload (i := 8) (e := 0) (nx := 143) (r1 := 0) (r2 := 0) (r3 := 0) rfl rfl ?_
                refine wi_iload (i := 5) (e := a3) (nx := 145) (r1 := 0) (r2 := 0) (r3 := 0) rfl rfl ?_
                refine wi_S (rest := [vi (h 19 i26), vi e35, vi e40, .ref 56, vi e33]) (as := [vi 0, vi a3]) (nx := 148) (r1 := 111) (r2 := 18) (r3 := 0) rfl rfl rfl (of_decide_eq_true rfl) rfl rfl (of_decide_eq_true rfl) (of_decide_eq_true rfl) ?_
                refine wi_iload_n (i := 0) (e := 0) (nx := 1) (r1 := 0) (r2 := 0) (r3 := 0) rfl rfl ?_
                refine wi_if (cd := .ne) (nx := 4) (r1 := 10) (r2 := 0) (r3 := 0) rfl (by omega) (fun (q41 : 0 ≠ 0) => by exfalso; omega) (fun (q41 : ¬ (0 ≠ 0)) => ?_)
                refine wi_iload_n (i := 1) (e := a3) (nx := 5) (r1 := 0) (r2 := 0) (r3 := 0) rfl rfl ?_
                refine wi_iconst (n := 1) (nx := 6) (r1 := 0) (r2 := 0) (r3 := 0) rfl ?_
                refine wr_addW (nx := 7) (r1 := 0) (r2 := 0) (r3 := 0) rfl (fun e42 (fe42 : -2147483648 ≤ e42 ∧ e42 ≤ 2147483647) => ?_)
                refine wi_goto (nx := 10) (r1 := 11) (r2 := 0) (r3 := 0) rfl ?_
                refine wi_ireturn (nx := 12) (r1 := 0) (r2 := 0) (r3 := 0) rfl rfl ?_
                refine wk_i ?_
                refine wr_V (k0 := 56) (rest := [vi e33]) (as := [.ref 56, vi e40, vi e35, vi (h 19 i26), vi e42]) (nx := 151) (r1 := 164) (r2 := 4) (r3 := 6) rfl rfl rfl (of_decide_eq_true rfl) rfl rfl (by decide) rfl rfl (of_decide_eq_true rfl) (of_decide_eq_true rfl) ?_
                refine wp_eq (e := d + 2 * (n - 1) + 5) (by omega) ?_
                refine IH (n - 1) (by omega) g37 e40 e35 (h 19 i26) e42 (by omega) (by omega) (by omega) (by omega)  (by omega) (fun h43 z44 g43 u43 (fz44 : -2147483648 ≤ z44 ∧ z44 ≤ 2147483647) => ?_)
                have F45 := F38.then (by decide +kernel) u43
                have F46 := F39.then (by decide +kernel) u43
                refine wk_i ?_
                refine wr_addW (nx := 152) (r1 := 0) (r2 := 0) (r3 := 0) rfl (fun e47 (fe47 : -2147483648 ≤ e47 ∧ e47 ≤ 2147483647) => ?_)
                refine wi_istore (i := 9) (e := e47) (lo2 := [(9, vi e47), (10, vi e35), (8, vi 0), (7, vi (h 19 i26)), (6, vi z18), (0, .ref 56), (1, vi x9), (2, vi a0), (3, vi a1), (4, vi a2), (5, vi a3)]) (nx := 154) (r1 := 0) (r2 := 0) (r3 := 0) rfl rfl ?_
                refine wi_aload_n (i := 0) (x := 56) (nx := 155) (r1 := 0) (r2 := 0) (r3 := 0) rfl rfl ?_
                refine wr_gr (k0 := 56) (x := 59) (nx := 158) (r1 := 6) (r2 := 4) (r3 := 0) rfl rfl (by decide) rfl ⟨rfl, rfl⟩ rfl ?_
                refine wi_iload_n (i := 1) (e := x9) (nx := 159) (r1 := 0) (r2 := 0) (r3 := 0) rfl rfl ?_
                refine wi_dup2 (nx := 160) (r1 := 0) (r2 := 0) (r3 := 0) rfl rfl rfl ?_
                have b48 := gi_b (lo := -2147483648) (hi := 2147483647) g43 59 i14 rfl
                refine wr_ia (k0 := 59) (a := x9) (f := i14) (x := h43 59 i14) (nx := 161) (r1 := 0) (r2 := 0) (r3 := 0) rfl (by decide) rfl (by omega) (by omega) (by decide) rfl ?_
                refine wi_iconst (n := 1) (nx := 162) (r1 := 0) (r2 := 0) (r3 := 0) rfl ?_
                refine wr_subW (nx := 163) (r1 := 0) (r2 := 0) (r3 := 0) rfl (fun e49 (fe49 : -2147483648 ≤ e49 ∧ e49 ≤ 2147483647) => ?_)
                refine wr_is (k0 := 59) (a := x9) (f := i14) (x := e49) (bl := -2147483648) (bh := 2147483647) (nx := 164) (r1 := 0) (r2 := 0) (r3 := 0) rfl (by decide) rfl (by omega) (by omega) (by decide) g43 rfl (by omega) (fun h50 g50 w50 u50 => ?_)
                have F51 := F45.then rfl (FR.rngp (lo := 59) (hi := 59) u50 (by decide))
                have F52 := F46.then rfl (FR.rngp (lo := 59) (hi := 59) u50 (by decide))
                refine wi_iload (i := 9) (e := e47) (nx := 166) (r1 := 0) (r2 := 0) (r3 := 0) rfl rfl ?_
                refine wi_ldc (e := 1048576) (nx := 168) (r1 := 0) (r2 := 1048576) (r3 := 0) rfl rfl (by decide) ?_
                refine wi_S (rest := []) (as := [vi e47, vi 1048576]) (nx := 171) (r1 := 355) (r2 := 18) (r3 := 0) rfl rfl rfl (of_decide_eq_true rfl) rfl rfl (of_decide_eq_true rfl) (of_decide_eq_true rfl) ?_
                refine wi_iload_n (i := 0) (e := e47) (nx := 1) (r1 := 0) (r2 := 0) (r3 := 0) rfl rfl ?_
                refine wi_iload_n (i := 1) (e := 1048576) (nx := 2) (r1 := 0) (r2 := 0) (r3 := 0) rfl rfl ?_
                refine wi_icmp (cd := .gt) (nx := 5) (r1 := 9) (r2 := 0) (r3 := 0) rfl (by omega) (by omega) (fun (q53 : 1048576 < e47) => ?_) (fun (q53 : ¬ (1048576 < e47)) => ?_)
                ·
                  refine wi_iload_n (i := 1) (e := 1048576) (nx := 10) (r1 := 0) (r2 := 0) (r3 := 0) rfl rfl ?_
                  refine wi_ireturn (nx := 11) (r1 := 0) (r2 := 0) (r3 := 0) rfl rfl ?_
                  refine wk_i ?_
                  refine wi_ireturn (nx := 172) (r1 := 0) (r2 := 0) (r3 := 0) rfl rfl ?_
                  refine wk_i ?_
                  refine wi_istore (i := 8) (e := 1048576) (lo2 := [(8, vi 1048576), (0, .ref 56), (1, vi a0), (2, vi a1), (3, vi a2), (4, vi a3), (5, vi z4), (6, vi x8), (7, vi x9)]) (nx := 71) (r1 := 0) (r2 := 0) (r3 := 0) rfl rfl ?_
                  refine wi_iload (i := 8) (e := 1048576) (nx := 73) (r1 := 0) (r2 := 0) (r3 := 0) rfl rfl ?_
                  refine wi_iload (i := 6) (e := x8) (nx := 75) (r1 := 0) (r2 := 0) (r3 := 0) rfl rfl ?_
                  refine wi_icmp (cd := .ge) (nx := 78) (r1 := 92) (r2 := 0) (r3 := 0) rfl (by omega) (by omega) (fun (q54 : x8 ≤ 1048576) => ?_) (fun (q54 : ¬ (x8 ≤ 1048576)) => by exfalso; omega)
                  refine wr_iinc (i := 7) (n := 1) (v := x9) (fun e55 => [(7, vi e55), (8, vi 1048576), (0, .ref 56), (1, vi a0), (2, vi a1), (3, vi a2), (4, vi a3), (5, vi z4), (6, vi x8)]) (nx := 95) (r1 := 0) (r2 := 0) (r3 := 0) rfl rfl (fun _ => rfl) (fun e55 (fe55 : e55 = x9 + 1) => ?_)
                  refine wi_goto (nx := 98) (r1 := 46) (r2 := 0) (r3 := 0) rfl ?_
                  refine wp.lo (lo := [(0, .ref 56), (1, vi a0), (2, vi a1), (3, vi a2), (4, vi a3), (5, vi z4), (6, vi x8), (7, vi e55)]) ⟨rfl, rfl, rfl, rfl, rfl, rfl, rfl, rfl, trivial⟩ rfl ?_
                  exact I10 x8 e55 h50 ⟨g50, F51, F52, (show (-2147483648 ≤ x8 ∧ x8 ≤ 1048576) ∧ (0 ≤ e55 ∧ e55 ≤ 4) by omega)⟩ (show ((4 : Int) + 1 - e55).toNat < ((4 : Int) + 1 - x9).toNat by omega)
                ·
                  refine wi_iload_n (i := 0) (e := e47) (nx := 6) (r1 := 0) (r2 := 0) (r3 := 0) rfl rfl ?_
                  refine wi_goto (nx := 9) (r1 := 10) (r2 := 0) (r3 := 0) rfl ?_
                  refine wi_ireturn (nx := 11) (r1 := 0) (r2 := 0) (r3 := 0) rfl rfl ?_
                  refine wk_i ?_
                  refine wi_ireturn (nx := 172) (r1 := 0) (r2 := 0) (r3 := 0) rfl rfl ?_
                  refine wk_i ?_
                  refine wi_istore (i := 8) (e := e47) (lo2 := [(8, vi e47), (0, .ref 56), (1, vi a0), (2, vi a1), (3, vi a2), (4, vi a3), (5, vi z4), (6, vi x8), (7, vi x9)]) (nx := 71) (r1 := 0) (r2 := 0) (r3 := 0) rfl rfl ?_
                  refine wi_iload (i := 8) (e := e47) (nx := 73) (r1 := 0) (r2 := 0) (r3 := 0) rfl rfl ?_
                  refine wi_iload (i := 6) (e := x8) (nx := 75) (r1 := 0) (r2 := 0) (r3 := 0) rfl rfl ?_
                  refine wi_icmp (cd := .ge) (nx := 78) (r1 := 92) (r2 := 0) (r3 := 0) rfl (by omega) (by omega) (fun (q54 : x8 ≤ e47) => ?_) (fun (q54 : ¬ (x8 ≤ e47)) => ?_)
                  ·
                    refine wr_iinc (i := 7) (n := 1) (v := x9) (fun e55 => [(7, vi e55), (8, vi e47), (0, .ref 56), (1, vi a0), (2, vi a1), (3, vi a2), (4, vi a3), (5, vi z4), (6, vi x8)]) (nx := 95) (r1 := 0) (r2 := 0) (r3 := 0) rfl rfl (fun _ => rfl) (fun e55 (fe55 : e55 = x9 + 1) => ?_)
                    refine wi_goto (nx := 98) (r1 := 46) (r2 := 0) (r3 := 0) rfl ?_
                    refine wp.lo (lo := [(0, .ref 56), (1, vi a0), (2, vi a1), (3, vi a2), (4, vi a3), (5, vi z4), (6, vi x8), (7, vi e55)]) ⟨rfl, rfl, rfl, rfl, rfl, rfl, rfl, rfl, trivial⟩ rfl ?_
                    exact I10 x8 e55 h50 ⟨g50, F51, F52, (show (-2147483648 ≤ x8 ∧ x8 ≤ 1048576) ∧ (0 ≤ e55 ∧ e55 ≤ 4) by omega)⟩ (show ((4 : Int) + 1 - e55).toNat < ((4 : Int) + 1 - x9).toNat by omega)
                  ·
                    refine wi_iload (i := 8) (e := e47) (nx := 80) (r1 := 0) (r2 := 0) (r3 := 0) rfl rfl ?_
                    refine wi_istore (i := 6) (e := e47) (lo2 := [(6, vi e47), (8, vi e47), (0, .ref 56), (1, vi a0), (2, vi a1), (3, vi a2), (4, vi a3), (5, vi z4), (7, vi x9)]) (nx := 82) (r1 := 0) (r2 := 0) (r3 := 0) rfl rfl ?_
                    refine wi_aload_n (i := 0) (x := 56) (nx := 83) (r1 := 0) (r2 := 0) (r3 := 0) rfl rfl ?_
                    refine wr_gr (k0 := 56) (x := 58) (nx := 86) (r1 := 6) (r2 := 3) (r3 := 0) rfl rfl (by decide) rfl ⟨rfl, rfl⟩ rfl ?_
                    refine wi_iload (i := 5) (e := z4) (nx := 88) (r1 := 0) (r2 := 0) (r3 := 0) rfl rfl ?_
                    refine wi_iload (i := 7) (e := x9) (nx := 90) (r1 := 0) (r2 := 0) (r3 := 0) rfl rfl ?_
                    refine wr_i2bA (nx := 91) (r1 := 0) (r2 := 0) (r3 := 0) rfl (fun e55 (fe55 : -128 ≤ e55 ∧ e55 ≤ 127) => ?_)
                    refine wr_bs (k0 := 58) (a := z4) (f := i5) (x := e55) (bl := -128) (bh := 127) (nx := 92) (r1 := 0) (r2 := 0) (r3 := 0) rfl (by decide) rfl (by omega) (by omega) (by omega) (by decide) g50 rfl (by omega) (fun h56 g56 w56 u56 => ?_)
                    have F57 := F51.then rfl (FR.rngp (lo := 58) (hi := 58) u56 (by decide))
                    have F58 := F52.then rfl (FR.rngp (lo := 58) (hi := 58) u56 (by decide))
                    refine wr_iinc (i := 7) (n := 1) (v := x9) (fun e59 => [(7, vi e59), (6, vi e47), (8, vi e47), (0, .ref 56), (1, vi a0), (2, vi a1), (3, vi a2), (4, vi a3), (5, vi z4)]) (nx := 95) (r1 := 0) (r2 := 0) (r3 := 0) rfl rfl (fun _ => rfl) (fun e59 (fe59 : e59 = x9 + 1) => ?_)
                    refine wi_goto (nx := 98) (r1 := 46) (r2 := 0) (r3 := 0) rfl ?_
                    refine wp.lo (lo := [(0, .ref 56), (1, vi a0), (2, vi a1), (3, vi a2), (4, vi a3), (5, vi z4), (6, vi e47), (7, vi e59)]) ⟨rfl, rfl, rfl, rfl, rfl, rfl, rfl, rfl, trivial⟩ rfl ?_
                    exact I10 e47 e59 h56 ⟨g56, F57, F58, (show (-2147483648 ≤ e47 ∧ e47 ≤ 1048576) ∧ (0 ≤ e59 ∧ e59 ≤ 4) by omega)⟩ (show ((4 : Int) + 1 - e59).toNat < ((4 : Int) + 1 - x9).toNat by omega)
            ·
              refine wi_ldc (e := 1048576) (nx := 55) (r1 := 0) (r2 := 1048576) (r3 := 0) rfl rfl (by decide) ?_
              refine wi_ireturn (nx := 56) (r1 := 0) (r2 := 0) (r3 := 0) rfl rfl ?_
              refine wk_i ?_
              refine wi_istore (i := 8) (e := 1048576) (lo2 := [(8, vi 1048576), (0, .ref 56), (1, vi a0), (2, vi a1), (3, vi a2), (4, vi a3), (5, vi z4), (6, vi x8), (7, vi x9)]) (nx := 71) (r1 := 0) (r2 := 0) (r3 := 0) rfl rfl ?_
              refine wi_iload (i := 8) (e := 1048576) (nx := 73) (r1 := 0) (r2 := 0) (r3 := 0) rfl rfl ?_
              refine wi_iload (i := 6) (e := x8) (nx := 75) (r1 := 0) (r2 := 0) (r3 := 0) rfl rfl ?_
              refine wi_icmp (cd := .ge) (nx := 78) (r1 := 92) (r2 := 0) (r3 := 0) rfl (by omega) (by omega) (fun (q26 : x8 ≤ 1048576) => ?_) (fun (q26 : ¬ (x8 ≤ 1048576)) => by exfalso; omega)
              refine wr_iinc (i := 7) (n := 1) (v := x9) (fun e27 => [(7, vi e27), (8, vi 1048576), (0, .ref 56), (1, vi a0), (2, vi a1), (3, vi a2), (4, vi a3), (5, vi z4), (6, vi x8)]) (nx := 95) (r1 := 0) (r2 := 0) (r3 := 0) rfl rfl (fun _ => rfl) (fun e27 (fe27 : e27 = x9 + 1) => ?_)
              refine wi_goto (nx := 98) (r1 := 46) (r2 := 0) (r3 := 0) rfl ?_
              refine wp.lo (lo := [(0, .ref 56), (1, vi a0), (2, vi a1), (3, vi a2), (4, vi a3), (5, vi z4), (6, vi x8), (7, vi e27)]) ⟨rfl, rfl, rfl, rfl, rfl, rfl, rfl, rfl, trivial⟩ rfl ?_
              exact I10 x8 e27 h10 ⟨g10, F11, u10, (show (-2147483648 ≤ x8 ∧ x8 ≤ 1048576) ∧ (0 ≤ e27 ∧ e27 ≤ 4) by omega)⟩ (show ((4 : Int) + 1 - e27).toNat < ((4 : Int) + 1 - x9).toNat by omega)
    ·
      refine wi_aload_n (i := 0) (x := 56) (nx := 32) (r1 := 0) (r2 := 0) (r3 := 0) rfl rfl ?_
      refine wr_gr (k0 := 56) (x := 57) (nx := 35) (r1 := 6) (r2 := 2) (r3 := 0) rfl rfl (by decide) rfl ⟨rfl, rfl⟩ rfl ?_
      refine wi_iload (i := 5) (e := z4) (nx := 37) (r1 := 0) (r2 := 0) (r3 := 0) rfl rfl ?_
      refine wr_ia (k0 := 57) (a := z4) (f := i5) (x := h 57 i5) (nx := 38) (r1 := 0) (r2 := 0) (r3 := 0) rfl (by decide) rfl (by omega) (by omega) (by decide) rfl ?_
      refine wi_ireturn (nx := 39) (r1 := 0) (r2 := 0) (r3 := 0) rfl rfl ?_
      exact k h (h 57 i5) g F0 (by omega)
  ·
    refine wi_iconst (n := 0) (nx := 9) (r1 := 0) (r2 := 0) (r3 := 0) rfl ?_
    refine wi_ireturn (nx := 10) (r1 := 0) (r2 := 0) (r3 := 0) rfl rfl ?_
    exact k h 0 g F0 (by omega)
theorem ct_164_56 {L : Nat} {xs : Nat → Int32} {d b c : Nat} {h : hp} {cr : Nat → Nat → Option Nat} {Q : hp_Q} (hcr : CR cr) (g : GI h) (a0 : Int) (a1 : Int) (a2 : Int) (a3 : Int) (q0_ : 0 ≤ a0 ∧ a0 ≤ 48) (q1_ : -2147483648 ≤ a1 ∧ a1 ≤ 2147483647) (q2_ : -2147483648 ≤ a2 ∧ a2 ≤ 2147483647) (q3_ : -2147483648 ≤ a3 ∧ a3 ≤ 2147483647)  (k : ∀ (h2 : hp) (z0 : Int) , GI h2 → FR [(57, 57, none), (58, 58, none), (59, 59, none)] h h2 → (-2147483648 ≤ z0 ∧ z0 ≤ 2147483647) → Q (.inl (some (vi z0))) (hp_w h2 cr) b c) : wp (md_xa (L, xs)) (d + 101) 164 (0, [(0, .ref 56), (1, vi a0), (2, vi a1), (3, vi a2), (4, vi a3)], [], hp_w h cr, b, c) Q := cr_164_56 hcr 48 g a0 a1 a2 a3 q0_ q1_ q2_ q3_  (by omega) k
-- method 168: Unloading.collectLanes()V
set_option maxRecDepth 100000 in
set_option maxHeartbeats 100000000 in
theorem ct_168_56 {L : Nat} {xs : Nat → Int32} {d b c : Nat} {h : hp} {cr : Nat → Nat → Option Nat} {Q : hp_Q} (hcr : CR cr)  (g : GI h)    (k : ∀ (h2 : hp) , GI h2 → FR [(59, 59, none), (61, 62, none)] h h2 → Q (.inl none) (hp_w h2 cr) b c) : wp (md_xa (L, xs)) (d + 2) 168 (0, [(0, .ref 56)], [], hp_w h cr, b, c) Q := by
  have F0 : FR [(59, 59, none), (61, 62, none)] h h := FR.refl
  refine wi_iconst (n := 0) (nx := 1) (r1 := 0) (r2 := 0) (r3 := 0) rfl ?_
  refine wi_istore_n (i := 1) (e := 0) (lo2 := [(1, vi 0), (0, .ref 56)]) (nx := 2) (r1 := 0) (r2 := 0) (r3 := 0) rfl rfl ?_
  refine wi_aload_n (i := 0) (x := 56) (nx := 3) (r1 := 0) (r2 := 0) (r3 := 0) rfl rfl ?_
  refine wr_gr (k0 := 56) (x := 18) (nx := 6) (r1 := 6) (r2 := 1) (r3 := 0) rfl rfl (by decide) rfl ⟨rfl, rfl⟩ rfl ?_
  have b1 := gi_b (lo := -2147483648) (hi := 2147483647) g 18 8 rfl
  refine wr_gi0 (k0 := 18) (x := h 18 8) (nx := 9) (r1 := 4) (r2 := 8) (r3 := 0) rfl rfl (by decide) rfl ⟨rfl, rfl⟩ rfl rfl ?_
  refine wi_istore_n (i := 2) (e := h 18 8) (lo2 := [(2, vi (h 18 8)), (1, vi 0), (0, .ref 56)]) (nx := 10) (r1 := 0) (r2 := 0) (r3 := 0) rfl rfl ?_
  refine wi_aload_n (i := 0) (x := 56) (nx := 11) (r1 := 0) (r2 := 0) (r3 := 0) rfl rfl ?_
  refine wr_gr (k0 := 56) (x := 18) (nx := 14) (r1 := 6) (r2 := 1) (r3 := 0) rfl rfl (by decide) rfl ⟨rfl, rfl⟩ rfl ?_
  have b2 := gi_b (lo := -2147483648) (hi := 2147483647) g 18 9 rfl
  refine wr_gi0 (k0 := 18) (x := h 18 9) (nx := 17) (r1 := 4) (r2 := 9) (r3 := 0) rfl rfl (by decide) rfl ⟨rfl, rfl⟩ rfl rfl ?_
  refine wi_istore_n (i := 3) (e := h 18 9) (lo2 := [(3, vi (h 18 9)), (2, vi (h 18 8)), (1, vi 0), (0, .ref 56)]) (nx := 18) (r1 := 0) (r2 := 0) (r3 := 0) rfl rfl ?_
  refine wi_iconst (n := 0) (nx := 19) (r1 := 0) (r2 := 0) (r3 := 0) rfl ?_
  refine wi_istore (i := 4) (e := 0) (lo2 := [(4, vi 0), (3, vi (h 18 9)), (2, vi (h 18 8)), (1, vi 0), (0, .ref 56)]) (nx := 21) (r1 := 0) (r2 := 0) (r3 := 0) rfl rfl ?_
  refine wp.lo (lo := [(0, .ref 56), (1, vi 0), (2, vi (h 18 8)), (3, vi (h 18 9)), (4, vi 0)]) ⟨rfl, rfl, rfl, rfl, rfl, trivial⟩ rfl ?_
  refine wl_4 (fun x3 x4 x5 x6 h7 => GI h7 ∧ FR [(59, 59, none), (61, 62, none)] h h7 ∧ FR [(59, 59, none), (61, 62, none)] h h7 ∧ ((-2147483648 ≤ x3 ∧ x3 ≤ 2147483647) ∧ (-2147483648 ≤ x4 ∧ x4 ≤ 2147483647) ∧ (-2147483648 ≤ x5 ∧ x5 ≤ 2147483647) ∧ (0 ≤ x6 ∧ x6 ≤ 48))) (fun x3 x4 x5 x6 h7 => ((48 : Int) + 1 - x6).toNat) (fun x3 x4 x5 x6 h7 => (21, [(0, .ref 56), (1, vi x3), (2, vi x4), (3, vi x5), (4, vi x6)], [], hp_w h7 cr, b, c)) ?_ 0 (h 18 8) (h 18 9) 0 h ⟨g, F0, FR.refl, (show (-2147483648 ≤ 0 ∧ 0 ≤ 2147483647) ∧ (-2147483648 ≤ (h 18 8) ∧ (h 18 8) ≤ 2147483647) ∧ (-2147483648 ≤ (h 18 9) ∧ (h 18 9) ≤ 2147483647) ∧ (0 ≤ 0 ∧ 0 ≤ 48) by omega)⟩
  intro x3 x4 x5 x6 h7 ⟨g7, F8, u7, f7⟩ I7
  refine wi_iload (i := 4) (e := x6) (nx := 23) (r1 := 0) (r2 := 0) (r3 := 0) rfl rfl ?_
  refine wi_aload_n (i := 0) (x := 56) (nx := 24) (r1 := 0) (r2 := 0) (r3 := 0) rfl rfl ?_
  have b9 := gi_b (lo := 0) (hi := 48) g 56 6 rfl
  refine wr_gi0 (k0 := 56) (x := h 56 6) (nx := 27) (r1 := 6) (r2 := 6) (r3 := 0) rfl rfl (by decide) rfl ⟨rfl, rfl⟩ rfl (u7 56 6 rfl) ?_
  refine wi_icmp (cd := .ge) (nx := 30) (r1 := 158) (r2 := 0) (r3 := 0) rfl (by omega) (by omega) (fun (q10 : (h 56 6) ≤ x6) => ?_) (fun (q10 : ¬ ((h 56 6) ≤ x6)) => ?_)
  ·
    refine wi_return (nx := 159) (r1 := 0) (r2 := 0) (r3 := 0) rfl rfl ?_
    exact k h7 g7 F8
  ·
    refine wi_aload_n (i := 0) (x := 56) (nx := 31) (r1 := 0) (r2 := 0) (r3 := 0) rfl rfl ?_
    refine wr_gr (k0 := 56) (x := 58) (nx := 34) (r1 := 6) (r2 := 3) (r3 := 0) rfl rfl (by decide) rfl ⟨rfl, rfl⟩ rfl ?_
    refine wi_aload_n (i := 0) (x := 56) (nx := 35) (r1 := 0) (r2 := 0) (r3 := 0) rfl rfl ?_
    refine wi_iload_n (i := 1) (e := x3) (nx := 36) (r1 := 0) (r2 := 0) (r3 := 0) rfl rfl ?_
    refine wi_iload_n (i := 2) (e := x4) (nx := 37) (r1 := 0) (r2 := 0) (r3 := 0) rfl rfl ?_
    refine wi_iload_n (i := 3) (e := x5) (nx := 38) (r1 := 0) (r2 := 0) (r3 := 0) rfl rfl ?_
    refine wr_V (k0 := 56) (rest := [.ref 58]) (as := [.ref 56, vi x3, vi x4, vi x5]) (nx := 41) (r1 := 165) (r2 := 3) (r3 := 6) rfl rfl rfl (of_decide_eq_true rfl) rfl rfl (by decide) rfl rfl (of_decide_eq_true rfl) (of_decide_eq_true rfl) ?_
    refine ct_165_56 hcr  g7 x3 x4 x5 (by omega) (by omega) (by omega)  (fun z12  (fz12 : 0 ≤ z12 ∧ z12 ≤ 11519) => ?_)
    refine wk_i ?_
    obtain ⟨i13, ei13⟩ : ∃ q : Nat, z12 = (q : Int) := ⟨(z12).toNat, by omega⟩
    have b14 := gi_b (lo := -128) (hi := 127) g 58 i13 rfl
    refine wr_ba (k0 := 58) (a := z12) (f := i13) (x := h 58 i13) (nx := 42) (r1 := 0) (r2 := 0) (r3 := 0) rfl (by decide) rfl (by decide) (by omega) (by omega) (by decide) (u7 58 i13 (fn_a (by omega) (fn_a (by omega) fn_0))) ?_
    refine wi_istore (i := 5) (e := h 58 i13) (lo2 := [(5, vi (h 58 i13)), (0, .ref 56), (1, vi x3), (2, vi x4), (3, vi x5), (4, vi x6)]) (nx := 44) (r1 := 0) (r2 := 0) (r3 := 0) rfl rfl ?_
    refine wi_iload (i := 5) (e := h 58 i13) (nx := 46) (r1 := 0) (r2 := 0) (r3 := 0) rfl rfl ?_
    refine wi_if (cd := .lt) (nx := 49) (r1 := 55) (r2 := 0) (r3 := 0) rfl (by omega) (fun (q15 : (h 58 i13) < 0) => ?_) (fun (q15 : ¬ ((h 58 i13) < 0)) => ?_)
    ·
      refine wi_return (nx := 56) (r1 := 0) (r2 := 0) (r3 := 0) rfl rfl ?_
      exact k h7 g7 F8
    ·
      refine wi_iload (i := 5) (e := h 58 i13) (nx := 51) (r1 := 0) (r2 := 0) (r3 := 0) rfl rfl ?_
      refine wi_iconst (n := 4) (nx := 52) (r1 := 0) (r2 := 0) (r3 := 0) rfl ?_
      refine wi_icmp (cd := .lt) (nx := 55) (r1 := 56) (r2 := 0) (r3 := 0) rfl (by omega) (by omega) (fun (q16 : (h 58 i13) < 4) => ?_) (fun (q16 : ¬ ((h 58 i13) < 4)) => ?_)
      ·
        refine wi_aload_n (i := 0) (x := 56) (nx := 57) (r1 := 0) (r2 := 0) (r3 := 0) rfl rfl ?_
        refine wr_gr (k0 := 56) (x := 18) (nx := 60) (r1 := 6) (r2 := 1) (r3 := 0) rfl rfl (by decide) rfl ⟨rfl, rfl⟩ rfl ?_
        refine wr_gr (k0 := 18) (x := 21) (nx := 63) (r1 := 4) (r2 := 3) (r3 := 0) rfl rfl (by decide) rfl ⟨rfl, rfl⟩ rfl ?_
        refine wi_iload (i := 5) (e := h 58 i13) (nx := 65) (r1 := 0) (r2 := 0) (r3 := 0) rfl rfl ?_
        obtain ⟨i17, ei17⟩ : ∃ q : Nat, (h 58 i13) = (q : Int) := ⟨(h 58 i13).toNat, by omega⟩
        refine wr_aa (k0 := 21) (a := h 58 i13) (f := i17) (x := 21 + 8 + 2 * i17) (nx := 66) (r1 := 0) (r2 := 0) (r3 := 0) rfl (by decide) rfl (Or.inl rfl) (by omega) (by omega) (by decide) (hcr.1 21 (by decide) i17 (by omega)) ?_
        obtain ⟨k18, kk18, mk18⟩ : ∃ q, Rw q ∧ q = 21 + 8 + 2 * i17 := ⟨_, rw_lane 21 (by decide) i17 (by omega), rfl⟩
        rw [← mk18]
        refine wi_aload_n (i := 0) (x := 56) (nx := 67) (r1 := 0) (r2 := 0) (r3 := 0) rfl rfl ?_
        refine wr_gr (k0 := 56) (x := 59) (nx := 70) (r1 := 6) (r2 := 4) (r3 := 0) rfl rfl (by decide) rfl ⟨rfl, rfl⟩ rfl ?_
        refine wi_iload (i := 5) (e := h 58 i13) (nx := 72) (r1 := 0) (r2 := 0) (r3 := 0) rfl rfl ?_
        have b19 := gi_b (lo := -2147483648) (hi := 2147483647) g7 59 i17 rfl
        refine wr_ia (k0 := 59) (a := h 58 i13) (f := i17) (x := h7 59 i17) (nx := 73) (r1 := 0) (r2 := 0) (r3 := 0) rfl (by decide) rfl (by omega) (by omega) (by decide) rfl ?_
        refine wr_V (k0 := k18) (rest := []) (as := [.ref k18, vi (h7 59 i17)]) (nx := 76) (r1 := 154) (r2 := 1) (r3 := 5) rfl rfl rfl (of_decide_eq_true rfl) rfl rfl kk18.k kk18.1 rfl (of_decide_eq_true rfl) (of_decide_eq_true rfl) ?_
        refine ct_154_R hcr kk18 g7 (h7 59 i17) (by omega)  (fun z21  (fz21 : -2147483648 ≤ z21 ∧ z21 ≤ 2147483647) => ?_)
        refine wk_i ?_
        refine wi_istore (i := 6) (e := z21) (lo2 := [(6, vi z21), (5, vi (h 58 i13)), (0, .ref 56), (1, vi x3), (2, vi x4), (3, vi x5), (4, vi x6)]) (nx := 78) (r1 := 0) (r2 := 0) (r3 := 0) rfl rfl ?_
        refine wi_iload (i := 6) (e := z21) (nx := 80) (r1 := 0) (r2 := 0) (r3 := 0) rfl rfl ?_
        refine wi_if (cd := .lt) (nx := 83) (r1 := 90) (r2 := 0) (r3 := 0) rfl (by omega) (fun (q22 : z21 < 0) => ?_) (fun (q22 : ¬ (z21 < 0)) => ?_)
        ·
          refine wi_return (nx := 91) (r1 := 0) (r2 := 0) (r3 := 0) rfl rfl ?_
          exact k h7 g7 F8
        ·
          refine wi_iload (i := 6) (e := z21) (nx := 85) (r1 := 0) (r2 := 0) (r3 := 0) rfl rfl ?_
          refine wi_bipush (n := 12) (nx := 87) (r1 := 0) (r2 := 0) (r3 := 0) rfl (by decide) ?_
          refine wi_icmp (cd := .lt) (nx := 90) (r1 := 91) (r2 := 0) (r3 := 0) rfl (by omega) (by omega) (fun (q23 : z21 < 12) => ?_) (fun (q23 : ¬ (z21 < 12)) => ?_)
          ·
            refine wi_aload_n (i := 0) (x := 56) (nx := 92) (r1 := 0) (r2 := 0) (r3 := 0) rfl rfl ?_
            refine wr_gr (k0 := 56) (x := 18) (nx := 95) (r1 := 6) (r2 := 1) (r3 := 0) rfl rfl (by decide) rfl ⟨rfl, rfl⟩ rfl ?_
            refine wr_gr (k0 := 18) (x := 19) (nx := 98) (r1 := 4) (r2 := 1) (r3 := 0) rfl rfl (by decide) rfl ⟨rfl, rfl⟩ rfl ?_
            refine wi_iload (i := 6) (e := z21) (nx := 100) (r1 := 0) (r2 := 0) (r3 := 0) rfl rfl ?_
            obtain ⟨i24, ei24⟩ : ∃ q : Nat, z21 = (q : Int) := ⟨(z21).toNat, by omega⟩
            have b25 := gi_b (lo := -2147483648) (hi := 2147483647) g 19 i24 rfl
            refine wr_ia (k0 := 19) (a := z21) (f := i24) (x := h 19 i24) (nx := 101) (r1 := 0) (r2 := 0) (r3 := 0) rfl (by decide) rfl (by omega) (by omega) (by decide) (u7 19 i24 (fn_a (by omega) (fn_a (by omega) fn_0))) ?_
            refine wi_istore (i := 7) (e := h 19 i24) (lo2 := [(7, vi (h 19 i24)), (6, vi z21), (5, vi (h 58 i13)), (0, .ref 56), (1, vi x3), (2, vi x4), (3, vi x5), (4, vi x6)]) (nx := 103) (r1 := 0) (r2 := 0) (r3 := 0) rfl rfl ?_
            refine wi_aload_n (i := 0) (x := 56) (nx := 104) (r1 := 0) (r2 := 0) (r3 := 0) rfl rfl ?_
            refine wr_gr (k0 := 56) (x := 61) (nx := 107) (r1 := 6) (r2 := 8) (r3 := 0) rfl rfl (by decide) rfl ⟨rfl, rfl⟩ rfl ?_
            refine wi_iload (i := 5) (e := h 58 i13) (nx := 109) (r1 := 0) (r2 := 0) (r3 := 0) rfl rfl ?_
            refine wr_V (k0 := 61) (rest := []) (as := [.ref 61, vi (h 58 i13)]) (nx := 112) (r1 := 158) (r2 := 1) (r3 := 5) rfl rfl rfl (of_decide_eq_true rfl) rfl rfl (by decide) rfl rfl (of_decide_eq_true rfl) (of_decide_eq_true rfl) ?_
            refine ct_158_R hcr rw_61 g7 (h 58 i13) (by omega)  (fun h26 g26 u26 => ?_)
            have F27 := F8.then rfl u26
            have F28 := u7.then rfl u26
            refine wk_n ?_
            refine wi_aload_n (i := 0) (x := 56) (nx := 113) (r1 := 0) (r2 := 0) (r3 := 0) rfl rfl ?_
            refine wr_gr (k0 := 56) (x := 59) (nx := 116) (r1 := 6) (r2 := 4) (r3 := 0) rfl rfl (by decide) rfl ⟨rfl, rfl⟩ rfl ?_
            refine wi_iload (i := 5) (e := h 58 i13) (nx := 118) (r1 := 0) (r2 := 0) (r3 := 0) rfl rfl ?_
            refine wi_dup2 (nx := 119) (r1 := 0) (r2 := 0) (r3 := 0) rfl rfl rfl ?_
            refine wr_ia (k0 := 59) (a := h 58 i13) (f := i17) (x := h7 59 i17) (nx := 120) (r1 := 0) (r2 := 0) (r3 := 0) rfl (by decide) rfl (by omega) (by omega) (by decide) (u26 59 i17 (fn_a (by omega) fn_0)) ?_
            refine wi_iconst (n := 1) (nx := 121) (r1 := 0) (r2 := 0) (r3 := 0) rfl ?_
            refine wr_addW (nx := 122) (r1 := 0) (r2 := 0) (r3 := 0) rfl (fun e29 (fe29 : -2147483648 ≤ e29 ∧ e29 ≤ 2147483647) => ?_)
            refine wr_is (k0 := 59) (a := h 58 i13) (f := i17) (x := e29) (bl := -2147483648) (bh := 2147483647) (nx := 123) (r1 := 0) (r2 := 0) (r3 := 0) rfl (by decide) rfl (by omega) (by omega) (by decide) g26 rfl (by omega) (fun h30 g30 w30 u30 => ?_)
            have F31 := F27.then rfl (FR.rngp (lo := 59) (hi := 59) u30 (by decide))
            have F32 := F28.then rfl (FR.rngp (lo := 59) (hi := 59) u30 (by decide))
            refine wi_iload_n (i := 1) (e := x3) (nx := 124) (r1 := 0) (r2 := 0) (r3 := 0) rfl rfl ?_
            refine wi_aload_n (i := 0) (x := 56) (nx := 125) (r1 := 0) (r2 := 0) (r3 := 0) rfl rfl ?_
            refine wr_gr (k0 := 56) (x := 60) (nx := 128) (r1 := 6) (r2 := 5) (r3 := 0) rfl rfl (by decide) rfl ⟨rfl, rfl⟩ rfl ?_
            refine wi_iload (i := 5) (e := h 58 i13) (nx := 130) (r1 := 0) (r2 := 0) (r3 := 0) rfl rfl ?_
            have b33 := gi_b (lo := -2147483648) (hi := 2147483647) g 60 i17 rfl
            refine wr_ia (k0 := 60) (a := h 58 i13) (f := i17) (x := h 60 i17) (nx := 131) (r1 := 0) (r2 := 0) (r3 := 0) rfl (by decide) rfl (by omega) (by omega) (by decide) ((u30 60 i17 (fn_a (by omega) fn_0)).trans ((u26 60 i17 (fn_a (by omega) fn_0)).trans (u7 60 i17 (fn_a (by omega) (fn_a (by omega) fn_0))))) ?_
            refine wr_addW (nx := 132) (r1 := 0) (r2 := 0) (r3 := 0) rfl (fun e34 (fe34 : -2147483648 ≤ e34 ∧ e34 ≤ 2147483647) => ?_)
            refine wi_istore_n (i := 1) (e := e34) (lo2 := [(1, vi e34), (7, vi (h 19 i24)), (6, vi z21), (5, vi (h 58 i13)), (0, .ref 56), (2, vi x4), (3, vi x5), (4, vi x6)]) (nx := 133) (r1 := 0) (r2 := 0) (r3 := 0) rfl rfl ?_
            refine wi_aload_n (i := 0) (x := 56) (nx := 134) (r1 := 0) (r2 := 0) (r3 := 0) rfl rfl ?_
            refine wr_gr (k0 := 56) (x := 3) (nx := 137) (r1 := 6) (r2 := 0) (r3 := 0) rfl rfl (by decide) rfl ⟨rfl, rfl⟩ rfl ?_
            refine wi_iload_n (i := 2) (e := x4) (nx := 138) (r1 := 0) (r2 := 0) (r3 := 0) rfl rfl ?_
            refine wi_iload_n (i := 3) (e := x5) (nx := 139) (r1 := 0) (r2 := 0) (r3 := 0) rfl rfl ?_
            refine wi_iload (i := 7) (e := h 19 i24) (nx := 141) (r1 := 0) (r2 := 0) (r3 := 0) rfl rfl ?_
            refine wr_V (k0 := 3) (rest := []) (as := [.ref 3, vi x4, vi x5, vi (h 19 i24)]) (nx := 144) (r1 := 109) (r2 := 3) (r3 := 2) rfl rfl rfl (of_decide_eq_true rfl) rfl rfl (by decide) rfl rfl (of_decide_eq_true rfl) (of_decide_eq_true rfl) ?_
            refine wi_iload_n (i := 1) (e := x4) (nx := 1) (r1 := 0) (r2 := 0) (r3 := 0) rfl rfl ?_
            refine wi_iconst (n := (-1)) (nx := 2) (r1 := 0) (r2 := 0) (r3 := 0) rfl ?_
            refine wi_icmp (cd := .ne) (nx := 5) (r1 := 7) (r2 := 0) (r3 := 0) rfl (by omega) (by omega) (fun (q35 : x4 ≠ (-1)) => ?_) (fun (q35 : ¬ (x4 ≠ (-1))) => ?_)
            ·
              refine wi_iload_n (i := 1) (e := x4) (nx := 8) (r1 := 0) (r2 := 0) (r3 := 0) rfl rfl ?_
              refine wi_iload_n (i := 3) (e := h 19 i24) (nx := 9) (r1 := 0) (r2 := 0) (r3 := 0) rfl rfl ?_
              refine wi_icmp (cd := .eq) (nx := 12) (r1 := 14) (r2 := 0) (r3 := 0) rfl (by omega) (by omega) (fun (q36 : x4 = (h 19 i24)) => ?_) (fun (q36 : ¬ (x4 = (h 19 i24))) => ?_)
              ·
                refine wi_iload_n (i := 2) (e := x5) (nx := 15) (r1 := 0) (r2 := 0) (r3 := 0) rfl rfl ?_
                refine wi_aload_n (i := 0) (x := 3) (nx := 16) (r1 := 0) (r2 := 0) (r3 := 0) rfl rfl ?_
                have b37 := gi_b (lo := -2147483648) (hi := 2147483647) g 3 5 rfl
                refine wr_gi0 (k0 := 3) (x := h 3 5) (nx := 19) (r1 := 2) (r2 := 5) (r3 := 0) rfl rfl (by decide) rfl ⟨rfl, rfl⟩ rfl ((u30 3 5 (fn_a (by omega) fn_0)).trans ((u26 3 5 rfl).trans (u7 3 5 rfl))) ?_
                refine wi_icmp (cd := .lt) (nx := 22) (r1 := 26) (r2 := 0) (r3 := 0) rfl (by omega) (by omega) (fun (q38 : x5 < (h 3 5)) => ?_) (fun (q38 : ¬ (x5 < (h 3 5))) => ?_)
                ·
                  refine wi_iconst (n := 0) (nx := 27) (r1 := 0) (r2 := 0) (r3 := 0) rfl ?_
                  refine wi_ireturn (nx := 28) (r1 := 0) (r2 := 0) (r3 := 0) rfl rfl ?_
                  refine wk_i ?_
                  refine wi_iload_n (i := 3) (e := x5) (nx := 145) (r1 := 0) (r2 := 0) (r3 := 0) rfl rfl ?_
                  refine wi_S (rest := []) (as := [vi 0, vi x5]) (nx := 148) (r1 := 111) (r2 := 18) (r3 := 0) rfl rfl rfl (of_decide_eq_true rfl) rfl rfl (of_decide_eq_true rfl) (of_decide_eq_true rfl) ?_
                  refine wi_iload_n (i := 0) (e := 0) (nx := 1) (r1 := 0) (r2 := 0) (r3 := 0) rfl rfl ?_
                  refine wi_if (cd := .ne) (nx := 4) (r1 := 10) (r2 := 0) (r3 := 0) rfl (by omega) (fun (q39 : 0 ≠ 0) => by exfalso; omega) (fun (q39 : ¬ (0 ≠ 0)) => ?_)
                  refine wi_iload_n (i := 1) (e := x5) (nx := 5) (r1 := 0) (r2 := 0) (r3 := 0) rfl rfl ?_
                  refine wi_iconst (n := 1) (nx := 6) (r1 := 0) (r2 := 0) (r3 := 0) rfl ?_
                  refine wr_add (nx := 7) (r1 := 0) (r2 := 0) (r3 := 0) rfl (fun e40 (fe40 : e40 = x5 + 1) => ?_)
                  refine wi_goto (nx := 10) (r1 := 11) (r2 := 0) (r3 := 0) rfl ?_
                  refine wi_ireturn (nx := 12) (r1 := 0) (r2 := 0) (r3 := 0) rfl rfl ?_
                  refine wk_i ?_
                  refine wi_istore_n (i := 3) (e := e40) (lo2 := [(3, vi e40), (1, vi e34), (7, vi (h 19 i24)), (6, vi z21), (5, vi (h 58 i13)), (0, .ref 56), (2, vi x4), (4, vi x6)]) (nx := 149) (r1 := 0) (r2 := 0) (r3 := 0) rfl rfl ?_
                  refine wi_iload (i := 7) (e := h 19 i24) (nx := 151) (r1 := 0) (r2 := 0) (r3 := 0) rfl rfl ?_
                  refine wi_istore_n (i := 2) (e := h 19 i24) (lo2 := [(2, vi (h 19 i24)), (3, vi e40), (1, vi e34), (7, vi (h 19 i24)), (6, vi z21), (5, vi (h 58 i13)), (0, .ref 56), (4, vi x6)]) (nx := 152) (r1 := 0) (r2 := 0) (r3 := 0) rfl rfl ?_
                  refine wr_iinc (i := 4) (n := 1) (v := x6) (fun e41 => [(4, vi e41), (2, vi (h 19 i24)), (3, vi e40), (1, vi e34), (7, vi (h 19 i24)), (6, vi z21), (5, vi (h 58 i13)), (0, .ref 56)]) (nx := 155) (r1 := 0) (r2 := 0) (r3 := 0) rfl rfl (fun _ => rfl) (fun e41 (fe41 : e41 = x6 + 1) => ?_)
                  refine wi_goto (nx := 158) (r1 := 21) (r2 := 0) (r3 := 0) rfl ?_
                  refine wp.lo (lo := [(0, .ref 56), (1, vi e34), (2, vi (h 19 i24)), (3, vi e40), (4, vi e41)]) ⟨rfl, rfl, rfl, rfl, rfl, trivial⟩ rfl ?_
                  exact I7 e34 (h 19 i24) e40 e41 h30 ⟨g30, F31, F32, (show (-2147483648 ≤ e34 ∧ e34 ≤ 2147483647) ∧ (-2147483648 ≤ (h 19 i24) ∧ (h 19 i24) ≤ 2147483647) ∧ (-2147483648 ≤ e40 ∧ e40 ≤ 2147483647) ∧ (0 ≤ e41 ∧ e41 ≤ 48) by omega)⟩ (show ((48 : Int) + 1 - e41).toNat < ((48 : Int) + 1 - x6).toNat by omega)
                ·
                  refine wi_iconst (n := 2) (nx := 23) (r1 := 0) (r2 := 0) (r3 := 0) rfl ?_
                  refine wi_goto (nx := 26) (r1 := 27) (r2 := 0) (r3 := 0) rfl ?_
                  refine wi_ireturn (nx := 28) (r1 := 0) (r2 := 0) (r3 := 0) rfl rfl ?_
                  refine wk_i ?_
                  refine wi_iload_n (i := 3) (e := x5) (nx := 145) (r1 := 0) (r2 := 0) (r3 := 0) rfl rfl ?_
                  refine wi_S (rest := []) (as := [vi 2, vi x5]) (nx := 148) (r1 := 111) (r2 := 18) (r3 := 0) rfl rfl rfl (of_decide_eq_true rfl) rfl rfl (of_decide_eq_true rfl) (of_decide_eq_true rfl) ?_
                  refine wi_iload_n (i := 0) (e := 2) (nx := 1) (r1 := 0) (r2 := 0) (r3 := 0) rfl rfl ?_
                  refine wi_if (cd := .ne) (nx := 4) (r1 := 10) (r2 := 0) (r3 := 0) rfl (by omega) (fun (q39 : 2 ≠ 0) => ?_) (fun (q39 : ¬ (2 ≠ 0)) => by exfalso; omega)
                  refine wi_iconst (n := 1) (nx := 11) (r1 := 0) (r2 := 0) (r3 := 0) rfl ?_
                  refine wi_ireturn (nx := 12) (r1 := 0) (r2 := 0) (r3 := 0) rfl rfl ?_
                  refine wk_i ?_
                  refine wi_istore_n (i := 3) (e := 1) (lo2 := [(3, vi 1), (1, vi e34), (7, vi (h 19 i24)), (6, vi z21), (5, vi (h 58 i13)), (0, .ref 56), (2, vi x4), (4, vi x6)]) (nx := 149) (r1 := 0) (r2 := 0) (r3 := 0) rfl rfl ?_
                  refine wi_iload (i := 7) (e := h 19 i24) (nx := 151) (r1 := 0) (r2 := 0) (r3 := 0) rfl rfl ?_
                  refine wi_istore_n (i := 2) (e := h 19 i24) (lo2 := [(2, vi (h 19 i24)), (3, vi 1), (1, vi e34), (7, vi (h 19 i24)), (6, vi z21), (5, vi (h 58 i13)), (0, .ref 56), (4, vi x6)]) (nx := 152) (r1 := 0) (r2 := 0) (r3 := 0) rfl rfl ?_
                  refine wr_iinc (i := 4) (n := 1) (v := x6) (fun e40 => [(4, vi e40), (2, vi (h 19 i24)), (3, vi 1), (1, vi e34), (7, vi (h 19 i24)), (6, vi z21), (5, vi (h 58 i13)), (0, .ref 56)]) (nx := 155) (r1 := 0) (r2 := 0) (r3 := 0) rfl rfl (fun _ => rfl) (fun e40 (fe40 : e40 = x6 + 1) => ?_)
                  refine wi_goto (nx := 158) (r1 := 21) (r2 := 0) (r3 := 0) rfl ?_
                  refine wp.lo (lo := [(0, .ref 56), (1, vi e34), (2, vi (h 19 i24)), (3, vi 1), (4, vi e40)]) ⟨rfl, rfl, rfl, rfl, rfl, trivial⟩ rfl ?_
                  exact I7 e34 (h 19 i24) 1 e40 h30 ⟨g30, F31, F32, (show (-2147483648 ≤ e34 ∧ e34 ≤ 2147483647) ∧ (-2147483648 ≤ (h 19 i24) ∧ (h 19 i24) ≤ 2147483647) ∧ (-2147483648 ≤ 1 ∧ 1 ≤ 2147483647) ∧ (0 ≤ e40 ∧ e40 ≤ 48) by omega)⟩ (show ((48 : Int) + 1 - e40).toNat < ((48 : Int) + 1 - x6).toNat by omega)
              ·
                refine wi_iconst (n := 1) (nx := 13) (r1 := 0) (r2 := 0) (r3 := 0) rfl ?_
                refine wi_ireturn (nx := 14) (r1 := 0) (r2 := 0) (r3 := 0) rfl rfl ?_
                refine wk_i ?_
                refine wi_iload_n (i := 3) (e := x5) (nx := 145) (r1 := 0) (r2 := 0) (r3 := 0) rfl rfl ?_
                refine wi_S (rest := []) (as := [vi 1, vi x5]) (nx := 148) (r1 := 111) (r2 := 18) (r3 := 0) rfl rfl rfl (of_decide_eq_true rfl) rfl rfl (of_decide_eq_true rfl) (of_decide_eq_true rfl) ?_
                refine wi_iload_n (i := 0) (e := 1) (nx := 1) (r1 := 0) (r2 := 0) (r3 := 0) rfl rfl ?_
                refine wi_if (cd := .ne) (nx := 4) (r1 := 10) (r2 := 0) (r3 := 0) rfl (by omega) (fun (q37 : 1 ≠ 0) => ?_) (fun (q37 : ¬ (1 ≠ 0)) => by exfalso; omega)
                refine wi_iconst (n := 1) (nx := 11) (r1 := 0) (r2 := 0) (r3 := 0) rfl ?_
                refine wi_ireturn (nx := 12) (r1 := 0) (r2 := 0) (r3 := 0) rfl rfl ?_
                refine wk_i ?_
                refine wi_istore_n (i := 3) (e := 1) (lo2 := [(3, vi 1), (1, vi e34), (7, vi (h 19 i24)), (6, vi z21), (5, vi (h 58 i13)), (0, .ref 56), (2, vi x4), (4, vi x6)]) (nx := 149) (r1 := 0) (r2 := 0) (r3 := 0) rfl rfl ?_
                refine wi_iload (i := 7) (e := h 19 i24) (nx := 151) (r1 := 0) (r2 := 0) (r3 := 0) rfl rfl ?_
                refine wi_istore_n (i := 2) (e := h 19 i24) (lo2 := [(2, vi (h 19 i24)), (3, vi 1), (1, vi e34), (7, vi (h 19 i24)), (6, vi z21), (5, vi (h 58 i13)), (0, .ref 56), (4, vi x6)]) (nx := 152) (r1 := 0) (r2 := 0) (r3 := 0) rfl rfl ?_
                refine wr_iinc (i := 4) (n := 1) (v := x6) (fun e38 => [(4, vi e38), (2, vi (h 19 i24)), (3, vi 1), (1, vi e34), (7, vi (h 19 i24)), (6, vi z21), (5, vi (h 58 i13)), (0, .ref 56)]) (nx := 155) (r1 := 0) (r2 := 0) (r3 := 0) rfl rfl (fun _ => rfl) (fun e38 (fe38 : e38 = x6 + 1) => ?_)
                refine wi_goto (nx := 158) (r1 := 21) (r2 := 0) (r3 := 0) rfl ?_
                refine wp.lo (lo := [(0, .ref 56), (1, vi e34), (2, vi (h 19 i24)), (3, vi 1), (4, vi e38)]) ⟨rfl, rfl, rfl, rfl, rfl, trivial⟩ rfl ?_
                exact I7 e34 (h 19 i24) 1 e38 h30 ⟨g30, F31, F32, (show (-2147483648 ≤ e34 ∧ e34 ≤ 2147483647) ∧ (-2147483648 ≤ (h 19 i24) ∧ (h 19 i24) ≤ 2147483647) ∧ (-2147483648 ≤ 1 ∧ 1 ≤ 2147483647) ∧ (0 ≤ e38 ∧ e38 ≤ 48) by omega)⟩ (show ((48 : Int) + 1 - e38).toNat < ((48 : Int) + 1 - x6).toNat by omega)
            ·
              refine wi_iconst (n := 0) (nx := 6) (r1 := 0) (r2 := 0) (r3 := 0) rfl ?_
              refine wi_ireturn (nx := 7) (r1 := 0) (r2 := 0) (r3 := 0) rfl rfl ?_
              refine wk_i ?_
              refine wi_iload_n (i := 3) (e := x5) (nx := 145) (r1 := 0) (r2 := 0) (r3 := 0) rfl rfl ?_
              refine wi_S (rest := []) (as := [vi 0, vi x5]) (nx := 148) (r1 := 111) (r2 := 18) (r3 := 0) rfl rfl rfl (of_decide_eq_true rfl) rfl rfl (of_decide_eq_true rfl) (of_decide_eq_true rfl) ?_
              refine wi_iload_n (i := 0) (e := 0) (nx := 1) (r1 := 0) (r2 := 0) (r3 := 0) rfl rfl ?_
              refine wi_if (cd := .ne) (nx := 4) (r1 := 10) (r2 := 0) (r3 := 0) rfl (by omega) (fun (q36 : 0 ≠ 0) => by exfalso; omega) (fun (q36 : ¬ (0 ≠ 0)) => ?_)
              refine wi_iload_n (i := 1) (e := x5) (nx := 5) (r1 := 0) (r2 := 0) (r3 := 0) rfl rfl ?_
              refine wi_iconst (n := 1) (nx := 6) (r1 := 0) (r2 := 0) (r3 := 0) rfl ?_
              refine wr_addW (nx := 7) (r1 := 0) (r2 := 0) (r3 := 0) rfl (fun e37 (fe37 : -2147483648 ≤ e37 ∧ e37 ≤ 2147483647) => ?_)
              refine wi_goto (nx := 10) (r1 := 11) (r2 := 0) (r3 := 0) rfl ?_
              refine wi_ireturn (nx := 12) (r1 := 0) (r2 := 0) (r3 := 0) rfl rfl ?_
              refine wk_i ?_
              refine wi_istore_n (i := 3) (e := e37) (lo2 := [(3, vi e37), (1, vi e34), (7, vi (h 19 i24)), (6, vi z21), (5, vi (h 58 i13)), (0, .ref 56), (2, vi x4), (4, vi x6)]) (nx := 149) (r1 := 0) (r2 := 0) (r3 := 0) rfl rfl ?_
              refine wi_iload (i := 7) (e := h 19 i24) (nx := 151) (r1 := 0) (r2 := 0) (r3 := 0) rfl rfl ?_
              refine wi_istore_n (i := 2) (e := h 19 i24) (lo2 := [(2, vi (h 19 i24)), (3, vi e37), (1, vi e34), (7, vi (h 19 i24)), (6, vi z21), (5, vi (h 58 i13)), (0, .ref 56), (4, vi x6)]) (nx := 152) (r1 := 0) (r2 := 0) (r3 := 0) rfl rfl ?_
              refine wr_iinc (i := 4) (n := 1) (v := x6) (fun e38 => [(4, vi e38), (2, vi (h 19 i24)), (3, vi e37), (1, vi e34), (7, vi (h 19 i24)), (6, vi z21), (5, vi (h 58 i13)), (0, .ref 56)]) (nx := 155) (r1 := 0) (r2 := 0) (r3 := 0) rfl rfl (fun _ => rfl) (fun e38 (fe38 : e38 = x6 + 1) => ?_)
              refine wi_goto (nx := 158) (r1 := 21) (r2 := 0) (r3 := 0) rfl ?_
              refine wp.lo (lo := [(0, .ref 56), (1, vi e34), (2, vi (h 19 i24)), (3, vi e37), (4, vi e38)]) ⟨rfl, rfl, rfl, rfl, rfl, trivial⟩ rfl ?_
              exact I7 e34 (h 19 i24) e37 e38 h30 ⟨g30, F31, F32, (show (-2147483648 ≤ e34 ∧ e34 ≤ 2147483647) ∧ (-2147483648 ≤ (h 19 i24) ∧ (h 19 i24) ≤ 2147483647) ∧ (-2147483648 ≤ e37 ∧ e37 ≤ 2147483647) ∧ (0 ≤ e38 ∧ e38 ≤ 48) by omega)⟩ (show ((48 : Int) + 1 - e38).toNat < ((48 : Int) + 1 - x6).toNat by omega)
          ·
            refine wi_return (nx := 91) (r1 := 0) (r2 := 0) (r3 := 0) rfl rfl ?_
            exact k h7 g7 F8
      ·
        refine wi_return (nx := 56) (r1 := 0) (r2 := 0) (r3 := 0) rfl rfl ?_
        exact k h7 g7 F8
-- method 161: Unloading.plan()V
set_option maxRecDepth 100000 in
set_option maxHeartbeats 100000000 in
theorem ct_161_56 {L : Nat} {xs : Nat → Int32} {d b c : Nat} {h : hp} {cr : Nat → Nat → Option Nat} {Q : hp_Q} (hcr : CR cr)  (g : GI h)    (k : ∀ (h2 : hp) , GI h2 → FR [(57, 57, none), (58, 58, none), (59, 59, none), (60, 60, none), (61, 62, none), (56, 56, some (6, 6)), (56, 56, some (7, 7)), (56, 56, some (9, 9)), (56, 56, some (11, 11)), (56, 56, some (12, 12))] h h2 → Q (.inl none) (hp_w h2 cr) b c) : wp (md_xa (L, xs)) (d + 102) 161 (0, [(0, .ref 56)], [], hp_w h cr, b, c) Q := by
  have F0 : FR [(57, 57, none), (58, 58, none), (59, 59, none), (60, 60, none), (61, 62, none), (56, 56, some (6, 6)), (56, 56, some (7, 7)), (56, 56, some (9, 9)), (56, 56, some (11, 11)), (56, 56, some (12, 12))] h h := FR.refl
  refine wi_aload_n (i := 0) (x := 56) (nx := 1) (r1 := 0) (r2 := 0) (r3 := 0) rfl rfl ?_
  have b1 := gi_b (lo := -2147483648) (hi := 2147483647) g 56 7 rfl
  refine wr_gi0 (k0 := 56) (x := h 56 7) (nx := 4) (r1 := 6) (r2 := 7) (r3 := 0) rfl rfl (by decide) rfl ⟨rfl, rfl⟩ rfl rfl ?_
  refine wi_aload_n (i := 0) (x := 56) (nx := 5) (r1 := 0) (r2 := 0) (r3 := 0) rfl rfl ?_
  refine wr_gr (k0 := 56) (x := 18) (nx := 8) (r1 := 6) (r2 := 1) (r3 := 0) rfl rfl (by decide) rfl ⟨rfl, rfl⟩ rfl ?_
  have b2 := gi_b (lo := -2147483648) (hi := 2147483647) g 18 16 rfl
  refine wr_gi0 (k0 := 18) (x := h 18 16) (nx := 11) (r1 := 4) (r2 := 16) (r3 := 0) rfl rfl (by decide) rfl ⟨rfl, rfl⟩ rfl rfl ?_
  refine wi_icmp (cd := .ne) (nx := 14) (r1 := 15) (r2 := 0) (r3 := 0) rfl (by omega) (by omega) (fun (q3 : (h 56 7) ≠ (h 18 16)) => ?_) (fun (q3 : ¬ ((h 56 7) ≠ (h 18 16))) => ?_)
  ·
    refine wi_aload_n (i := 0) (x := 56) (nx := 16) (r1 := 0) (r2 := 0) (r3 := 0) rfl rfl ?_
    refine wi_aload_n (i := 0) (x := 56) (nx := 17) (r1 := 0) (r2 := 0) (r3 := 0) rfl rfl ?_
    refine wr_gr (k0 := 56) (x := 18) (nx := 20) (r1 := 6) (r2 := 1) (r3 := 0) rfl rfl (by decide) rfl ⟨rfl, rfl⟩ rfl ?_
    refine wr_gi0 (k0 := 18) (x := h 18 16) (nx := 23) (r1 := 4) (r2 := 16) (r3 := 0) rfl rfl (by decide) rfl ⟨rfl, rfl⟩ rfl rfl ?_
    refine wr_pf0 (k0 := 56) (x := h 18 16) (bl := -2147483648) (bh := 2147483647) (nx := 26) (r1 := 6) (r2 := 7) (r3 := 0) rfl (by decide) rfl ⟨rfl, rfl⟩ rfl rfl g rfl (by omega) (fun h4 g4 w4 u4 => ?_)
    have F5 := F0.then rfl u4
    refine wi_aload_n (i := 0) (x := 56) (nx := 27) (r1 := 0) (r2 := 0) (r3 := 0) rfl rfl ?_
    refine wi_aload_n (i := 0) (x := 56) (nx := 28) (r1 := 0) (r2 := 0) (r3 := 0) rfl rfl ?_
    refine wr_gr (k0 := 56) (x := 18) (nx := 31) (r1 := 6) (r2 := 1) (r3 := 0) rfl rfl (by decide) rfl ⟨rfl, rfl⟩ rfl ?_
    refine wr_V (k0 := 18) (rest := [.ref 56]) (as := [.ref 18]) (nx := 34) (r1 := 145) (r2 := 0) (r3 := 4) rfl rfl rfl (of_decide_eq_true rfl) rfl rfl (by decide) rfl rfl (of_decide_eq_true rfl) (of_decide_eq_true rfl) ?_
    refine ct_145_18 hcr  g4    (fun z7  (fz7 : 0 ≤ z7 ∧ z7 ≤ 48) => ?_)
    refine wk_i ?_
    refine wr_pf0 (k0 := 56) (x := z7) (bl := 0) (bh := 48) (nx := 37) (r1 := 6) (r2 := 6) (r3 := 0) rfl (by decide) rfl ⟨rfl, rfl⟩ rfl rfl g4 rfl (by omega) (fun h8 g8 w8 u8 => ?_)
    have F9 := F5.then rfl u8
    refine wi_aload_n (i := 0) (x := 56) (nx := 38) (r1 := 0) (r2 := 0) (r3 := 0) rfl rfl ?_
    refine wi_aload_n (i := 0) (x := 56) (nx := 39) (r1 := 0) (r2 := 0) (r3 := 0) rfl rfl ?_
    refine wr_V (k0 := 56) (rest := [.ref 56]) (as := [.ref 56]) (nx := 42) (r1 := 162) (r2 := 0) (r3 := 6) rfl rfl rfl (of_decide_eq_true rfl) rfl rfl (by decide) rfl rfl (of_decide_eq_true rfl) (of_decide_eq_true rfl) ?_
    refine ct_162_56 hcr  g8    (fun h10 z11 g10 u10 (fz11 : -2147483648 ≤ z11 ∧ z11 ≤ 2147483647) => ?_)
    have F12 := F9.then (by decide +kernel) u10
    refine wk_i ?_
    refine wr_V (k0 := 56) (rest := []) (as := [.ref 56, vi z11]) (nx := 45) (r1 := 163) (r2 := 1) (r3 := 6) rfl rfl rfl (of_decide_eq_true rfl) rfl rfl (by decide) rfl rfl (of_decide_eq_true rfl) (of_decide_eq_true rfl) ?_
    refine ct_163_56 hcr  g10 z11 (by omega)  (fun h13 g13 u13 => ?_)
    have F14 := F12.then (by decide +kernel) u13
    refine wk_n ?_
    refine wi_aload_n (i := 0) (x := 56) (nx := 46) (r1 := 0) (r2 := 0) (r3 := 0) rfl rfl ?_
    refine wi_iconst (n := 0) (nx := 47) (r1 := 0) (r2 := 0) (r3 := 0) rfl ?_
    refine wi_iconst (n := 0) (nx := 48) (r1 := 0) (r2 := 0) (r3 := 0) rfl ?_
    refine wi_aload_n (i := 0) (x := 56) (nx := 49) (r1 := 0) (r2 := 0) (r3 := 0) rfl rfl ?_
    refine wr_gr (k0 := 56) (x := 18) (nx := 52) (r1 := 6) (r2 := 1) (r3 := 0) rfl rfl (by decide) rfl ⟨rfl, rfl⟩ rfl ?_
    have b15 := gi_b (lo := -2147483648) (hi := 2147483647) g 18 8 rfl
    refine wr_gi0 (k0 := 18) (x := h 18 8) (nx := 55) (r1 := 4) (r2 := 8) (r3 := 0) rfl rfl (by decide) rfl ⟨rfl, rfl⟩ rfl ((u13 18 8 rfl).trans ((u10 18 8 rfl).trans ((u8 18 8 rfl).trans (u4 18 8 rfl)))) ?_
    refine wi_aload_n (i := 0) (x := 56) (nx := 56) (r1 := 0) (r2 := 0) (r3 := 0) rfl rfl ?_
    refine wr_gr (k0 := 56) (x := 18) (nx := 59) (r1 := 6) (r2 := 1) (r3 := 0) rfl rfl (by decide) rfl ⟨rfl, rfl⟩ rfl ?_
    have b16 := gi_b (lo := -2147483648) (hi := 2147483647) g 18 9 rfl
    refine wr_gi0 (k0 := 18) (x := h 18 9) (nx := 62) (r1 := 4) (r2 := 9) (r3 := 0) rfl rfl (by decide) rfl ⟨rfl, rfl⟩ rfl ((u13 18 9 rfl).trans ((u10 18 9 rfl).trans ((u8 18 9 rfl).trans (u4 18 9 rfl)))) ?_
    refine wr_V (k0 := 56) (rest := []) (as := [.ref 56, vi 0, vi 0, vi (h 18 8), vi (h 18 9)]) (nx := 65) (r1 := 164) (r2 := 4) (r3 := 6) rfl rfl rfl (of_decide_eq_true rfl) rfl rfl (by decide) rfl rfl (of_decide_eq_true rfl) (of_decide_eq_true rfl) ?_
    refine ct_164_56 hcr  g13 0 0 (h 18 8) (h 18 9) (by omega) (by omega) (by omega) (by omega)  (fun h17 z18 g17 u17 (fz18 : -2147483648 ≤ z18 ∧ z18 ≤ 2147483647) => ?_)
    have F19 := F14.then (by decide +kernel) u17
    refine wk_i ?_
    refine wi_istore_n (i := 1) (e := z18) (lo2 := [(1, vi z18), (0, .ref 56)]) (nx := 66) (r1 := 0) (r2 := 0) (r3 := 0) rfl rfl ?_
    refine wi_aload_n (i := 0) (x := 56) (nx := 67) (r1 := 0) (r2 := 0) (r3 := 0) rfl rfl ?_
    refine wi_iload_n (i := 1) (e := z18) (nx := 68) (r1 := 0) (r2 := 0) (r3 := 0) rfl rfl ?_
    refine wi_ldc (e := 1048576) (nx := 70) (r1 := 0) (r2 := 1048576) (r3 := 0) rfl rfl (by decide) ?_
    refine wi_icmp (cd := .ge) (nx := 73) (r1 := 77) (r2 := 0) (r3 := 0) rfl (by omega) (by omega) (fun (q20 : 1048576 ≤ z18) => ?_) (fun (q20 : ¬ (1048576 ≤ z18)) => ?_)
    ·
      refine wi_iconst (n := 0) (nx := 78) (r1 := 0) (r2 := 0) (r3 := 0) rfl ?_
      refine wr_pf2 (k0 := 56) (x := 0) (bl := 0) (bh := 1) (nx := 81) (r1 := 6) (r2 := 9) (r3 := 2) rfl (by decide) rfl ⟨rfl, rfl⟩ rfl (by omega) rfl g17 rfl (by omega) (fun h21 g21 w21 u21 => ?_)
      have F22 := F19.then rfl u21
      refine wi_aload_n (i := 0) (x := 56) (nx := 82) (r1 := 0) (r2 := 0) (r3 := 0) rfl rfl ?_
      refine wi_iload_n (i := 1) (e := z18) (nx := 83) (r1 := 0) (r2 := 0) (r3 := 0) rfl rfl ?_
      refine wi_bipush (n := 16) (nx := 85) (r1 := 0) (r2 := 0) (r3 := 0) rfl (by decide) ?_
      refine wr_idivC (nx := 86) (r1 := 0) (r2 := 0) (r3 := 0) rfl (by omega) (by decide) (fun e23 (fe23 : e23 = z18 / 16) => ?_)
      refine wr_pf0 (k0 := 56) (x := e23) (bl := -2147483648) (bh := 2147483647) (nx := 89) (r1 := 6) (r2 := 11) (r3 := 0) rfl (by decide) rfl ⟨rfl, rfl⟩ rfl rfl g21 rfl (by omega) (fun h24 g24 w24 u24 => ?_)
      have F25 := F22.then rfl u24
      refine wi_aload_n (i := 0) (x := 56) (nx := 90) (r1 := 0) (r2 := 0) (r3 := 0) rfl rfl ?_
      refine wi_iload_n (i := 1) (e := z18) (nx := 91) (r1 := 0) (r2 := 0) (r3 := 0) rfl rfl ?_
      refine wi_bipush (n := 16) (nx := 93) (r1 := 0) (r2 := 0) (r3 := 0) rfl (by decide) ?_
      refine wr_iremC (nx := 94) (r1 := 0) (r2 := 0) (r3 := 0) rfl (by omega) (by decide) (fun e26 (fe26 : e26 = z18 % 16) => ?_)
      refine wr_pf0 (k0 := 56) (x := e26) (bl := -2147483648) (bh := 2147483647) (nx := 97) (r1 := 6) (r2 := 12) (r3 := 0) rfl (by decide) rfl ⟨rfl, rfl⟩ rfl rfl g24 rfl (by omega) (fun h27 g27 w27 u27 => ?_)
      have F28 := F25.then rfl u27
      refine wi_aload_n (i := 0) (x := 56) (nx := 98) (r1 := 0) (r2 := 0) (r3 := 0) rfl rfl ?_
      refine wr_gr (k0 := 56) (x := 61) (nx := 101) (r1 := 6) (r2 := 8) (r3 := 0) rfl rfl (by decide) rfl ⟨rfl, rfl⟩ rfl ?_
      refine wi_iconst (n := 0) (nx := 102) (r1 := 0) (r2 := 0) (r3 := 0) rfl ?_
      refine wr_pf0 (k0 := 61) (x := 0) (bl := 0) (bh := 12) (nx := 105) (r1 := 5) (r2 := 1) (r3 := 0) rfl (by decide) rfl ⟨rfl, rfl⟩ rfl rfl g27 rfl (by omega) (fun h29 g29 w29 u29 => ?_)
      have F30 := F28.then rfl u29
      refine wi_aload_n (i := 0) (x := 56) (nx := 106) (r1 := 0) (r2 := 0) (r3 := 0) rfl rfl ?_
      refine wr_gi2 (k0 := 56) (x := 0) (nx := 109) (r1 := 6) (r2 := 9) (r3 := 0) rfl rfl (by decide) rfl ⟨rfl, rfl⟩ rfl ((u29 56 9 rfl).trans ((u27 56 9 rfl).trans ((u24 56 9 rfl).trans w21))) ?_
      refine wi_if (cd := .eq) (nx := 112) (r1 := 116) (r2 := 0) (r3 := 0) rfl (by omega) (fun (q31 : 0 = 0) => ?_) (fun (q31 : ¬ (0 = 0)) => by exfalso; omega)
      refine wi_return (nx := 117) (r1 := 0) (r2 := 0) (r3 := 0) rfl rfl ?_
      exact k h29 g29 F30
    ·
      refine wi_iconst (n := 1) (nx := 74) (r1 := 0) (r2 := 0) (r3 := 0) rfl ?_
      refine wi_goto (nx := 77) (r1 := 78) (r2 := 0) (r3 := 0) rfl ?_
      refine wr_pf2 (k0 := 56) (x := 1) (bl := 0) (bh := 1) (nx := 81) (r1 := 6) (r2 := 9) (r3 := 2) rfl (by decide) rfl ⟨rfl, rfl⟩ rfl (by omega) rfl g17 rfl (by omega) (fun h21 g21 w21 u21 => ?_)
      have F22 := F19.then rfl u21
      refine wi_aload_n (i := 0) (x := 56) (nx := 82) (r1 := 0) (r2 := 0) (r3 := 0) rfl rfl ?_
      refine wi_iload_n (i := 1) (e := z18) (nx := 83) (r1 := 0) (r2 := 0) (r3 := 0) rfl rfl ?_
      refine wi_bipush (n := 16) (nx := 85) (r1 := 0) (r2 := 0) (r3 := 0) rfl (by decide) ?_
      refine wr_idivA (nx := 86) (r1 := 0) (r2 := 0) (r3 := 0) rfl (by decide) (fun e23 (fe23 : -2147483648 ≤ e23 ∧ e23 ≤ 2147483647) => ?_)
      refine wr_pf0 (k0 := 56) (x := e23) (bl := -2147483648) (bh := 2147483647) (nx := 89) (r1 := 6) (r2 := 11) (r3 := 0) rfl (by decide) rfl ⟨rfl, rfl⟩ rfl rfl g21 rfl (by omega) (fun h24 g24 w24 u24 => ?_)
      have F25 := F22.then rfl u24
      refine wi_aload_n (i := 0) (x := 56) (nx := 90) (r1 := 0) (r2 := 0) (r3 := 0) rfl rfl ?_
      refine wi_iload_n (i := 1) (e := z18) (nx := 91) (r1 := 0) (r2 := 0) (r3 := 0) rfl rfl ?_
      refine wi_bipush (n := 16) (nx := 93) (r1 := 0) (r2 := 0) (r3 := 0) rfl (by decide) ?_
      refine wr_iremA (nx := 94) (r1 := 0) (r2 := 0) (r3 := 0) rfl (by decide) (fun e26 (fe26 : -2147483648 ≤ e26 ∧ e26 ≤ 2147483647) => ?_)
      refine wr_pf0 (k0 := 56) (x := e26) (bl := -2147483648) (bh := 2147483647) (nx := 97) (r1 := 6) (r2 := 12) (r3 := 0) rfl (by decide) rfl ⟨rfl, rfl⟩ rfl rfl g24 rfl (by omega) (fun h27 g27 w27 u27 => ?_)
      have F28 := F25.then rfl u27
      refine wi_aload_n (i := 0) (x := 56) (nx := 98) (r1 := 0) (r2 := 0) (r3 := 0) rfl rfl ?_
      refine wr_gr (k0 := 56) (x := 61) (nx := 101) (r1 := 6) (r2 := 8) (r3 := 0) rfl rfl (by decide) rfl ⟨rfl, rfl⟩ rfl ?_
      refine wi_iconst (n := 0) (nx := 102) (r1 := 0) (r2 := 0) (r3 := 0) rfl ?_
      refine wr_pf0 (k0 := 61) (x := 0) (bl := 0) (bh := 12) (nx := 105) (r1 := 5) (r2 := 1) (r3 := 0) rfl (by decide) rfl ⟨rfl, rfl⟩ rfl rfl g27 rfl (by omega) (fun h29 g29 w29 u29 => ?_)
      have F30 := F28.then rfl u29
      refine wi_aload_n (i := 0) (x := 56) (nx := 106) (r1 := 0) (r2 := 0) (r3 := 0) rfl rfl ?_
      refine wr_gi2 (k0 := 56) (x := 1) (nx := 109) (r1 := 6) (r2 := 9) (r3 := 0) rfl rfl (by decide) rfl ⟨rfl, rfl⟩ rfl ((u29 56 9 rfl).trans ((u27 56 9 rfl).trans ((u24 56 9 rfl).trans w21))) ?_
      refine wi_if (cd := .eq) (nx := 112) (r1 := 116) (r2 := 0) (r3 := 0) rfl (by omega) (fun (q31 : 1 = 0) => by exfalso; omega) (fun (q31 : ¬ (1 = 0)) => ?_)
      refine wi_aload_n (i := 0) (x := 56) (nx := 113) (r1 := 0) (r2 := 0) (r3 := 0) rfl rfl ?_
      refine wr_V (k0 := 56) (rest := []) (as := [.ref 56]) (nx := 116) (r1 := 168) (r2 := 0) (r3 := 6) rfl rfl rfl (of_decide_eq_true rfl) rfl rfl (by decide) rfl rfl (of_decide_eq_true rfl) (of_decide_eq_true rfl) ?_
      refine ct_168_56 hcr  g29    (fun h32 g32 u32 => ?_)
      have F33 := F30.then (by decide +kernel) u32
      refine wk_n ?_
      refine wi_return (nx := 117) (r1 := 0) (r2 := 0) (r3 := 0) rfl rfl ?_
      exact k h32 g32 F33
  ·
    refine wi_return (nx := 15) (r1 := 0) (r2 := 0) (r3 := 0) rfl rfl ?_
    exact k h g F0
-- method 169: Unloading.carryOut()I
set_option maxRecDepth 100000 in
set_option maxHeartbeats 100000000 in
theorem ct_169_56 {L : Nat} {xs : Nat → Int32} {d b c : Nat} {h : hp} {cr : Nat → Nat → Option Nat} {Q : hp_Q} (hcr : CR cr)  (g : GI h)    (k : ∀ (h2 : hp) (z0 : Int) , GI h2 → FR [(18, 36, none), (56, 56, some (10, 10))] h h2 → (0 ≤ z0 ∧ z0 ≤ 12) → Q (.inl (some (vi z0))) (hp_w h2 cr) b c) : wp (md_xa (L, xs)) (d + 3) 169 (0, [(0, .ref 56)], [], hp_w h cr, b, c) Q := by
  have F0 : FR [(18, 36, none), (56, 56, some (10, 10))] h h := FR.refl
  refine wi_aload_n (i := 0) (x := 56) (nx := 1) (r1 := 0) (r2 := 0) (r3 := 0) rfl rfl ?_
  refine wi_iconst (n := 0) (nx := 2) (r1 := 0) (r2 := 0) (r3 := 0) rfl ?_
  refine wr_pf2 (k0 := 56) (x := 0) (bl := 0) (bh := 1) (nx := 5) (r1 := 6) (r2 := 10) (r3 := 2) rfl (by decide) rfl ⟨rfl, rfl⟩ rfl (by omega) rfl g rfl (by omega) (fun h1 g1 w1 u1 => ?_)
  have F2 := F0.then rfl u1
  refine wi_iconst (n := 0) (nx := 6) (r1 := 0) (r2 := 0) (r3 := 0) rfl ?_
  refine wi_istore_n (i := 1) (e := 0) (lo2 := [(1, vi 0), (0, .ref 56)]) (nx := 7) (r1 := 0) (r2 := 0) (r3 := 0) rfl rfl ?_
  refine wp.lo (lo := [(0, .ref 56), (1, vi 0)]) ⟨rfl, rfl, trivial⟩ rfl ?_
  refine wl_1 (fun x3 h4 => GI h4 ∧ FR [(18, 36, none), (56, 56, some (10, 10))] h h4 ∧ FR [(18, 36, none)] h1 h4 ∧ ((0 ≤ x3 ∧ x3 ≤ 12))) (fun x3 h4 => ((12 : Int) + 1 - x3).toNat) (fun x3 h4 => (7, [(0, .ref 56), (1, vi x3)], [], hp_w h4 cr, b, c)) ?_ 0 h1 ⟨g1, F2, FR.refl, (show (0 ≤ 0 ∧ 0 ≤ 12) by omega)⟩
  intro x3 h4 ⟨g4, F5, u4, f4⟩ I4
  refine wi_iload_n (i := 1) (e := x3) (nx := 8) (r1 := 0) (r2 := 0) (r3 := 0) rfl rfl ?_
  refine wi_aload_n (i := 0) (x := 56) (nx := 9) (r1 := 0) (r2 := 0) (r3 := 0) rfl rfl ?_
  refine wr_gr (k0 := 56) (x := 61) (nx := 12) (r1 := 6) (r2 := 8) (r3 := 0) rfl rfl (by decide) rfl ⟨rfl, rfl⟩ rfl ?_
  have b6 := gi_b (lo := 0) (hi := 12) g 61 1 rfl
  refine wr_gi0 (k0 := 61) (x := h 61 1) (nx := 15) (r1 := 5) (r2 := 1) (r3 := 0) rfl rfl (by decide) rfl ⟨rfl, rfl⟩ rfl ((u4 61 1 rfl).trans (u1 61 1 rfl)) ?_
  refine wi_icmp (cd := .ge) (nx := 18) (r1 := 65) (r2 := 0) (r3 := 0) rfl (by omega) (by omega) (fun (q7 : (h 61 1) ≤ x3) => ?_) (fun (q7 : ¬ ((h 61 1) ≤ x3)) => ?_)
  ·
    refine wi_aload_n (i := 0) (x := 56) (nx := 66) (r1 := 0) (r2 := 0) (r3 := 0) rfl rfl ?_
    refine wi_iconst (n := 1) (nx := 67) (r1 := 0) (r2 := 0) (r3 := 0) rfl ?_
    refine wr_pf2 (k0 := 56) (x := 1) (bl := 0) (bh := 1) (nx := 70) (r1 := 6) (r2 := 10) (r3 := 2) rfl (by decide) rfl ⟨rfl, rfl⟩ rfl (by omega) rfl g4 rfl (by omega) (fun h8 g8 w8 u8 => ?_)
    have F9 := F5.then rfl u8
    refine wi_aload_n (i := 0) (x := 56) (nx := 71) (r1 := 0) (r2 := 0) (r3 := 0) rfl rfl ?_
    refine wr_gr (k0 := 56) (x := 61) (nx := 74) (r1 := 6) (r2 := 8) (r3 := 0) rfl rfl (by decide) rfl ⟨rfl, rfl⟩ rfl ?_
    refine wr_gi0 (k0 := 61) (x := h 61 1) (nx := 77) (r1 := 5) (r2 := 1) (r3 := 0) rfl rfl (by decide) rfl ⟨rfl, rfl⟩ rfl ((u8 61 1 rfl).trans ((u4 61 1 rfl).trans (u1 61 1 rfl))) ?_
    refine wi_ireturn (nx := 78) (r1 := 0) (r2 := 0) (r3 := 0) rfl rfl ?_
    exact k h8 (h 61 1) g8 F9 (by omega)
  ·
    refine wi_aload_n (i := 0) (x := 56) (nx := 19) (r1 := 0) (r2 := 0) (r3 := 0) rfl rfl ?_
    refine wr_gr (k0 := 56) (x := 18) (nx := 22) (r1 := 6) (r2 := 1) (r3 := 0) rfl rfl (by decide) rfl ⟨rfl, rfl⟩ rfl ?_
    refine wi_aload_n (i := 0) (x := 56) (nx := 23) (r1 := 0) (r2 := 0) (r3 := 0) rfl rfl ?_
    refine wr_gr (k0 := 56) (x := 61) (nx := 26) (r1 := 6) (r2 := 8) (r3 := 0) rfl rfl (by decide) rfl ⟨rfl, rfl⟩ rfl ?_
    refine wi_iload_n (i := 1) (e := x3) (nx := 27) (r1 := 0) (r2 := 0) (r3 := 0) rfl rfl ?_
    refine wr_V (k0 := 61) (rest := [.ref 18]) (as := [.ref 61, vi x3]) (nx := 30) (r1 := 154) (r2 := 1) (r3 := 5) rfl rfl rfl (of_decide_eq_true rfl) rfl rfl (by decide) rfl rfl (of_decide_eq_true rfl) (of_decide_eq_true rfl) ?_
    refine ct_154_R hcr rw_61 g4 x3 (by omega)  (fun z9  (fz9 : -2147483648 ≤ z9 ∧ z9 ≤ 2147483647) => ?_)
    refine wk_i ?_
    refine wr_V (k0 := 18) (rest := []) (as := [.ref 18, vi z9]) (nx := 33) (r1 := 142) (r2 := 1) (r3 := 4) rfl rfl rfl (of_decide_eq_true rfl) rfl rfl (by decide) rfl rfl (of_decide_eq_true rfl) (of_decide_eq_true rfl) ?_
    refine ct_142_18 hcr  g4 z9 (by omega)  (fun h10 z11 g10 u10 (fz11 : -1 ≤ z11 ∧ z11 ≤ 11) => ?_)
    have F12 := F5.then (by decide +kernel) u10
    have F13 := u4.then (by decide +kernel) u10
    refine wk_i ?_
    refine wi_istore_n (i := 2) (e := z11) (lo2 := [(2, vi z11), (0, .ref 56), (1, vi x3)]) (nx := 34) (r1 := 0) (r2 := 0) (r3 := 0) rfl rfl ?_
    refine wi_iload_n (i := 2) (e := z11) (nx := 35) (r1 := 0) (r2 := 0) (r3 := 0) rfl rfl ?_
    refine wi_iconst (n := (-1)) (nx := 36) (r1 := 0) (r2 := 0) (r3 := 0) rfl ?_
    refine wi_icmp (cd := .ne) (nx := 39) (r1 := 41) (r2 := 0) (r3 := 0) rfl (by omega) (by omega) (fun (q14 : z11 ≠ (-1)) => ?_) (fun (q14 : ¬ (z11 ≠ (-1))) => ?_)
    ·
      refine wi_aload_n (i := 0) (x := 56) (nx := 42) (r1 := 0) (r2 := 0) (r3 := 0) rfl rfl ?_
      refine wr_gr (k0 := 56) (x := 18) (nx := 45) (r1 := 6) (r2 := 1) (r3 := 0) rfl rfl (by decide) rfl ⟨rfl, rfl⟩ rfl ?_
      refine wr_gr (k0 := 18) (x := 26) (nx := 48) (r1 := 4) (r2 := 6) (r3 := 0) rfl rfl (by decide) rfl ⟨rfl, rfl⟩ rfl ?_
      refine wr_V (k0 := 26) (rest := []) (as := [.ref 26]) (nx := 51) (r1 := 156) (r2 := 0) (r3 := 5) rfl rfl rfl (of_decide_eq_true rfl) rfl rfl (by decide) rfl rfl (of_decide_eq_true rfl) (of_decide_eq_true rfl) ?_
      refine ct_156_R hcr rw_26 g10    (fun z16  (fz16 : -2147483648 ≤ z16 ∧ z16 ≤ 2147483647) => ?_)
      refine wk_i ?_
      refine wi_iload_n (i := 2) (e := z11) (nx := 52) (r1 := 0) (r2 := 0) (r3 := 0) rfl rfl ?_
      refine wi_icmp (cd := .eq) (nx := 55) (r1 := 59) (r2 := 0) (r3 := 0) rfl (by omega) (by omega) (fun (q17 : z16 = z11) => ?_) (fun (q17 : ¬ (z16 = z11)) => ?_)
      ·
        refine wr_iinc (i := 1) (n := 1) (v := x3) (fun e18 => [(1, vi e18), (2, vi z11), (0, .ref 56)]) (nx := 62) (r1 := 0) (r2 := 0) (r3 := 0) rfl rfl (fun _ => rfl) (fun e18 (fe18 : e18 = x3 + 1) => ?_)
        refine wi_goto (nx := 65) (r1 := 7) (r2 := 0) (r3 := 0) rfl ?_
        refine wp.lo (lo := [(0, .ref 56), (1, vi e18)]) ⟨rfl, rfl, trivial⟩ rfl ?_
        exact I4 e18 h10 ⟨g10, F12, F13, (show (0 ≤ e18 ∧ e18 ≤ 12) by omega)⟩ (show ((12 : Int) + 1 - e18).toNat < ((12 : Int) + 1 - x3).toNat by omega)
      ·
        refine wi_iload_n (i := 1) (e := x3) (nx := 56) (r1 := 0) (r2 := 0) (r3 := 0) rfl rfl ?_
        refine wi_iconst (n := 1) (nx := 57) (r1 := 0) (r2 := 0) (r3 := 0) rfl ?_
        refine wr_add (nx := 58) (r1 := 0) (r2 := 0) (r3 := 0) rfl (fun e18 (fe18 : e18 = x3 + 1) => ?_)
        refine wi_ireturn (nx := 59) (r1 := 0) (r2 := 0) (r3 := 0) rfl rfl ?_
        exact k h10 e18 g10 F12 (by omega)
    ·
      refine wi_iload_n (i := 1) (e := x3) (nx := 40) (r1 := 0) (r2 := 0) (r3 := 0) rfl rfl ?_
      refine wi_ireturn (nx := 41) (r1 := 0) (r2 := 0) (r3 := 0) rfl rfl ?_
      exact k h10 x3 g10 F12 (by omega)
-- method 128: Line.waitingCount()I
set_option maxRecDepth 100000 in
set_option maxHeartbeats 100000000 in
theorem ct_128_18 {L : Nat} {xs : Nat → Int32} {d b c : Nat} {h : hp} {cr : Nat → Nat → Option Nat} {Q : hp_Q} (hcr : CR cr)  (g : GI h)    (k : ∀ (z0 : Int), (-12 ≤ z0 ∧ z0 ≤ 12) → Q (.inl (some (vi z0))) (hp_w h cr) b c) : wp (md_xa (L, xs)) d 128 (0, [(0, .ref 18)], [], hp_w h cr, b, c) Q := by
  have F0 : FR [] h h := FR.refl
  refine wi_aload_n (i := 0) (x := 18) (nx := 1) (r1 := 0) (r2 := 0) (r3 := 0) rfl rfl ?_
  refine wr_gr (k0 := 18) (x := 3) (nx := 4) (r1 := 4) (r2 := 0) (r3 := 0) rfl rfl (by decide) rfl ⟨rfl, rfl⟩ rfl ?_
  have b1 := gi_b (lo := 0) (hi := 12) g 3 2 rfl
  refine wr_gi0 (k0 := 3) (x := h 3 2) (nx := 7) (r1 := 2) (r2 := 2) (r3 := 0) rfl rfl (by decide) rfl ⟨rfl, rfl⟩ rfl rfl ?_
  refine wi_aload_n (i := 0) (x := 18) (nx := 8) (r1 := 0) (r2 := 0) (r3 := 0) rfl rfl ?_
  have b2 := gi_b (lo := 0) (hi := 12) g 18 7 rfl
  refine wr_gi0 (k0 := 18) (x := h 18 7) (nx := 11) (r1 := 4) (r2 := 7) (r3 := 0) rfl rfl (by decide) rfl ⟨rfl, rfl⟩ rfl rfl ?_
  refine wr_sub (nx := 12) (r1 := 0) (r2 := 0) (r3 := 0) rfl (fun e3 (fe3 : e3 = (h 3 2) - (h 18 7)) => ?_)
  refine wi_ireturn (nx := 13) (r1 := 0) (r2 := 0) (r3 := 0) rfl rfl ?_
  exact k e3 (by omega)
-- method 172: Exchange.forgetWays()V
set_option maxRecDepth 100000 in
set_option maxHeartbeats 100000000 in
theorem ct_172_63 {L : Nat} {xs : Nat → Int32} {d b c : Nat} {h : hp} {cr : Nat → Nat → Option Nat} {Q : hp_Q} (hcr : CR cr)  (g : GI h)    (k : ∀ (h2 : hp) , GI h2 → FR [(64, 64, none)] h h2 → Q (.inl none) (hp_w h2 cr) b c) : wp (md_xa (L, xs)) (d + 1) 172 (0, [(0, .ref 63)], [], hp_w h cr, b, c) Q := by
  have F0 : FR [(64, 64, none)] h h := FR.refl
  refine wi_iconst (n := 1) (nx := 1) (r1 := 0) (r2 := 0) (r3 := 0) rfl ?_
  refine wi_aload_n (i := 0) (x := 63) (nx := 2) (r1 := 0) (r2 := 0) (r3 := 0) rfl rfl ?_
  have b1 := gi_b (lo := -12) (hi := 12) g 63 4 rfl
  refine wr_gi0 (k0 := 63) (x := h 63 4) (nx := 5) (r1 := 7) (r2 := 4) (r3 := 0) rfl rfl (by decide) rfl ⟨rfl, rfl⟩ rfl rfl ?_
  refine wr_ishlA (nx := 6) (r1 := 0) (r2 := 0) (r3 := 0) rfl (fun e2 (fe2 : -2147483648 ≤ e2 ∧ e2 ≤ 2147483647) => ?_)
  refine wi_aload_n (i := 0) (x := 63) (nx := 7) (r1 := 0) (r2 := 0) (r3 := 0) rfl rfl ?_
  refine wr_gr (k0 := 63) (x := 64) (nx := 10) (r1 := 7) (r2 := 2) (r3 := 0) rfl rfl (by decide) rfl ⟨rfl, rfl⟩ rfl ?_
  refine wr_al (k0 := 64) (e := 4096) (nx := 11) (r1 := 0) (r2 := 0) (r3 := 0) rfl (by decide) rfl rfl ?_
  refine wi_S (rest := []) (as := [vi e2, vi 4096]) (nx := 14) (r1 := 355) (r2 := 18) (r3 := 0) rfl rfl rfl (of_decide_eq_true rfl) rfl rfl (of_decide_eq_true rfl) (of_decide_eq_true rfl) ?_
  refine wi_iload_n (i := 0) (e := e2) (nx := 1) (r1 := 0) (r2 := 0) (r3 := 0) rfl rfl ?_
  refine wi_iload_n (i := 1) (e := 4096) (nx := 2) (r1 := 0) (r2 := 0) (r3 := 0) rfl rfl ?_
  refine wi_icmp (cd := .gt) (nx := 5) (r1 := 9) (r2 := 0) (r3 := 0) rfl (by omega) (by omega) (fun (q3 : 4096 < e2) => ?_) (fun (q3 : ¬ (4096 < e2)) => ?_)
  ·
    refine wi_iload_n (i := 1) (e := 4096) (nx := 10) (r1 := 0) (r2 := 0) (r3 := 0) rfl rfl ?_
    refine wi_ireturn (nx := 11) (r1 := 0) (r2 := 0) (r3 := 0) rfl rfl ?_
    refine wk_i ?_
    refine wi_istore_n (i := 1) (e := 4096) (lo2 := [(1, vi 4096), (0, .ref 63)]) (nx := 15) (r1 := 0) (r2 := 0) (r3 := 0) rfl rfl ?_
    refine wi_iconst (n := 0) (nx := 16) (r1 := 0) (r2 := 0) (r3 := 0) rfl ?_
    refine wi_istore_n (i := 2) (e := 0) (lo2 := [(2, vi 0), (1, vi 4096), (0, .ref 63)]) (nx := 17) (r1 := 0) (r2 := 0) (r3 := 0) rfl rfl ?_
    refine wp.lo (lo := [(0, .ref 63), (1, vi 4096), (2, vi 0)]) ⟨rfl, rfl, rfl, trivial⟩ rfl ?_
    refine wl_1 (fun x4 h5 => GI h5 ∧ FR [(64, 64, none)] h h5 ∧ FR [(64, 64, none)] h h5 ∧ ((0 ≤ x4 ∧ x4 ≤ 4096))) (fun x4 h5 => ((4096 : Int) + 1 - x4).toNat) (fun x4 h5 => (17, [(0, .ref 63), (1, vi 4096), (2, vi x4)], [], hp_w h5 cr, b, c)) ?_ 0 h ⟨g, F0, FR.refl, (show (0 ≤ 0 ∧ 0 ≤ 4096) by omega)⟩
    intro x4 h5 ⟨g5, F6, u5, f5⟩ I5
    refine wi_iload_n (i := 2) (e := x4) (nx := 18) (r1 := 0) (r2 := 0) (r3 := 0) rfl rfl ?_
    refine wi_iload_n (i := 1) (e := 4096) (nx := 19) (r1 := 0) (r2 := 0) (r3 := 0) rfl rfl ?_
    refine wi_icmp (cd := .ge) (nx := 22) (r1 := 35) (r2 := 0) (r3 := 0) rfl (by omega) (by omega) (fun (q7 : 4096 ≤ x4) => ?_) (fun (q7 : ¬ (4096 ≤ x4)) => ?_)
    ·
      refine wi_return (nx := 36) (r1 := 0) (r2 := 0) (r3 := 0) rfl rfl ?_
      exact k h5 g5 F6
    ·
      refine wi_aload_n (i := 0) (x := 63) (nx := 23) (r1 := 0) (r2 := 0) (r3 := 0) rfl rfl ?_
      refine wr_gr (k0 := 63) (x := 64) (nx := 26) (r1 := 7) (r2 := 2) (r3 := 0) rfl rfl (by decide) rfl ⟨rfl, rfl⟩ rfl ?_
      refine wi_iload_n (i := 2) (e := x4) (nx := 27) (r1 := 0) (r2 := 0) (r3 := 0) rfl rfl ?_
      refine wi_iconst (n := (-1)) (nx := 28) (r1 := 0) (r2 := 0) (r3 := 0) rfl ?_
      obtain ⟨i8, ei8⟩ : ∃ q : Nat, x4 = (q : Int) := ⟨(x4).toNat, by omega⟩
      refine wr_is (k0 := 64) (a := x4) (f := i8) (x := -1) (bl := -2147483648) (bh := 2147483647) (nx := 29) (r1 := 0) (r2 := 0) (r3 := 0) rfl (by decide) rfl (by omega) (by omega) (by decide) g5 rfl (by omega) (fun h9 g9 w9 u9 => ?_)
      have F10 := F6.then rfl (FR.rngp (lo := 64) (hi := 64) u9 (by decide))
      have F11 := u5.then rfl (FR.rngp (lo := 64) (hi := 64) u9 (by decide))
      refine wr_iinc (i := 2) (n := 1) (v := x4) (fun e12 => [(2, vi e12), (0, .ref 63), (1, vi 4096)]) (nx := 32) (r1 := 0) (r2 := 0) (r3 := 0) rfl rfl (fun _ => rfl) (fun e12 (fe12 : e12 = x4 + 1) => ?_)
      refine wi_goto (nx := 35) (r1 := 17) (r2 := 0) (r3 := 0) rfl ?_
      refine wp.lo (lo := [(0, .ref 63), (1, vi 4096), (2, vi e12)]) ⟨rfl, rfl, rfl, trivial⟩ rfl ?_
      exact I5 e12 h9 ⟨g9, F10, F11, (show (0 ≤ e12 ∧ e12 ≤ 4096) by omega)⟩ (show ((4096 : Int) + 1 - e12).toNat < ((4096 : Int) + 1 - x4).toNat by omega)
  ·
    refine wi_iload_n (i := 0) (e := e2) (nx := 6) (r1 := 0) (r2 := 0) (r3 := 0) rfl rfl ?_
    refine wi_goto (nx := 9) (r1 := 10) (r2 := 0) (r3 := 0) rfl ?_
    refine wi_ireturn (nx := 11) (r1 := 0) (r2 := 0) (r3 := 0) rfl rfl ?_
    refine wk_i ?_
    refine wi_istore_n (i := 1) (e := e2) (lo2 := [(1, vi e2), (0, .ref 63)]) (nx := 15) (r1 := 0) (r2 := 0) (r3 := 0) rfl rfl ?_
    refine wi_iconst (n := 0) (nx := 16) (r1 := 0) (r2 := 0) (r3 := 0) rfl ?_
    refine wi_istore_n (i := 2) (e := 0) (lo2 := [(2, vi 0), (1, vi e2), (0, .ref 63)]) (nx := 17) (r1 := 0) (r2 := 0) (r3 := 0) rfl rfl ?_
    refine wp.lo (lo := [(0, .ref 63), (1, vi e2), (2, vi 0)]) ⟨rfl, rfl, rfl, trivial⟩ rfl ?_
    refine wl_1 (fun x4 h5 => GI h5 ∧ FR [(64, 64, none)] h h5 ∧ FR [(64, 64, none)] h h5 ∧ ((0 ≤ x4 ∧ x4 ≤ 4096))) (fun x4 h5 => ((4096 : Int) + 1 - x4).toNat) (fun x4 h5 => (17, [(0, .ref 63), (1, vi e2), (2, vi x4)], [], hp_w h5 cr, b, c)) ?_ 0 h ⟨g, F0, FR.refl, (show (0 ≤ 0 ∧ 0 ≤ 4096) by omega)⟩
    intro x4 h5 ⟨g5, F6, u5, f5⟩ I5
    refine wi_iload_n (i := 2) (e := x4) (nx := 18) (r1 := 0) (r2 := 0) (r3 := 0) rfl rfl ?_
    refine wi_iload_n (i := 1) (e := e2) (nx := 19) (r1 := 0) (r2 := 0) (r3 := 0) rfl rfl ?_
    refine wi_icmp (cd := .ge) (nx := 22) (r1 := 35) (r2 := 0) (r3 := 0) rfl (by omega) (by omega) (fun (q7 : e2 ≤ x4) => ?_) (fun (q7 : ¬ (e2 ≤ x4)) => ?_)
    ·
      refine wi_return (nx := 36) (r1 := 0) (r2 := 0) (r3 := 0) rfl rfl ?_
      exact k h5 g5 F6
    ·
      refine wi_aload_n (i := 0) (x := 63) (nx := 23) (r1 := 0) (r2 := 0) (r3 := 0) rfl rfl ?_
      refine wr_gr (k0 := 63) (x := 64) (nx := 26) (r1 := 7) (r2 := 2) (r3 := 0) rfl rfl (by decide) rfl ⟨rfl, rfl⟩ rfl ?_
      refine wi_iload_n (i := 2) (e := x4) (nx := 27) (r1 := 0) (r2 := 0) (r3 := 0) rfl rfl ?_
      refine wi_iconst (n := (-1)) (nx := 28) (r1 := 0) (r2 := 0) (r3 := 0) rfl ?_
      obtain ⟨i8, ei8⟩ : ∃ q : Nat, x4 = (q : Int) := ⟨(x4).toNat, by omega⟩
      refine wr_is (k0 := 64) (a := x4) (f := i8) (x := -1) (bl := -2147483648) (bh := 2147483647) (nx := 29) (r1 := 0) (r2 := 0) (r3 := 0) rfl (by decide) rfl (by omega) (by omega) (by decide) g5 rfl (by omega) (fun h9 g9 w9 u9 => ?_)
      have F10 := F6.then rfl (FR.rngp (lo := 64) (hi := 64) u9 (by decide))
      have F11 := u5.then rfl (FR.rngp (lo := 64) (hi := 64) u9 (by decide))
      refine wr_iinc (i := 2) (n := 1) (v := x4) (fun e12 => [(2, vi e12), (0, .ref 63), (1, vi e2)]) (nx := 32) (r1 := 0) (r2 := 0) (r3 := 0) rfl rfl (fun _ => rfl) (fun e12 (fe12 : e12 = x4 + 1) => ?_)
      refine wi_goto (nx := 35) (r1 := 17) (r2 := 0) (r3 := 0) rfl ?_
      refine wp.lo (lo := [(0, .ref 63), (1, vi e2), (2, vi e12)]) ⟨rfl, rfl, rfl, trivial⟩ rfl ?_
      exact I5 e12 h9 ⟨g9, F10, F11, (show (0 ≤ e12 ∧ e12 ≤ 4096) by omega)⟩ (show ((4096 : Int) + 1 - e12).toNat < ((4096 : Int) + 1 - x4).toNat by omega)
-- method 357: Arrays.fill([II)V
set_option maxRecDepth 100000 in
set_option maxHeartbeats 100000000 in
theorem ct_357_65 {L : Nat} {xs : Nat → Int32} {d b c : Nat} {h : hp} {cr : Nat → Nat → Option Nat} {Q : hp_Q} (hcr : CR cr)  (g : GI h) (a0 : Int) (q0_ : -2147483648 ≤ a0 ∧ a0 ≤ 2147483647)  (k : ∀ (h2 : hp) , GI h2 → FR [(65, 65, none)] h h2 → Q (.inl none) (hp_w h2 cr) b c) : wp (md_xa (L, xs)) d 357 (0, [(0, .ref 65), (1, vi a0)], [], hp_w h cr, b, c) Q := by
  have F0 : FR [(65, 65, none)] h h := FR.refl
  refine wi_iconst (n := 0) (nx := 1) (r1 := 0) (r2 := 0) (r3 := 0) rfl ?_
  refine wi_istore_n (i := 2) (e := 0) (lo2 := [(2, vi 0), (0, .ref 65), (1, vi a0)]) (nx := 2) (r1 := 0) (r2 := 0) (r3 := 0) rfl rfl ?_
  refine wi_aload_n (i := 0) (x := 65) (nx := 3) (r1 := 0) (r2 := 0) (r3 := 0) rfl rfl ?_
  refine wr_al (k0 := 65) (e := 60) (nx := 4) (r1 := 0) (r2 := 0) (r3 := 0) rfl (by decide) rfl rfl ?_
  refine wi_istore_n (i := 3) (e := 60) (lo2 := [(3, vi 60), (2, vi 0), (0, .ref 65), (1, vi a0)]) (nx := 5) (r1 := 0) (r2 := 0) (r3 := 0) rfl rfl ?_
  refine wp.lo (lo := [(0, .ref 65), (1, vi a0), (2, vi 0), (3, vi 60)]) ⟨rfl, rfl, rfl, rfl, trivial⟩ rfl ?_
  refine wl_1 (fun x1 h2 => GI h2 ∧ FR [(65, 65, none)] h h2 ∧ FR [(65, 65, none)] h h2 ∧ ((0 ≤ x1 ∧ x1 ≤ 60))) (fun x1 h2 => ((60 : Int) + 1 - x1).toNat) (fun x1 h2 => (5, [(0, .ref 65), (1, vi a0), (2, vi x1), (3, vi 60)], [], hp_w h2 cr, b, c)) ?_ 0 h ⟨g, F0, FR.refl, (show (0 ≤ 0 ∧ 0 ≤ 60) by omega)⟩
  intro x1 h2 ⟨g2, F3, u2, f2⟩ I2
  refine wi_iload_n (i := 2) (e := x1) (nx := 6) (r1 := 0) (r2 := 0) (r3 := 0) rfl rfl ?_
  refine wi_iload_n (i := 3) (e := 60) (nx := 7) (r1 := 0) (r2 := 0) (r3 := 0) rfl rfl ?_
  refine wi_icmp (cd := .ge) (nx := 10) (r1 := 20) (r2 := 0) (r3 := 0) rfl (by omega) (by omega) (fun (q4 : 60 ≤ x1) => ?_) (fun (q4 : ¬ (60 ≤ x1)) => ?_)
  ·
    refine wi_return (nx := 21) (r1 := 0) (r2 := 0) (r3 := 0) rfl rfl ?_
    exact k h2 g2 F3
  ·
    refine wi_aload_n (i := 0) (x := 65) (nx := 11) (r1 := 0) (r2 := 0) (r3 := 0) rfl rfl ?_
    refine wi_iload_n (i := 2) (e := x1) (nx := 12) (r1 := 0) (r2 := 0) (r3 := 0) rfl rfl ?_
    refine wi_iload_n (i := 1) (e := a0) (nx := 13) (r1 := 0) (r2 := 0) (r3 := 0) rfl rfl ?_
    obtain ⟨i5, ei5⟩ : ∃ q : Nat, x1 = (q : Int) := ⟨(x1).toNat, by omega⟩
    refine wr_is (k0 := 65) (a := x1) (f := i5) (x := a0) (bl := -2147483648) (bh := 2147483647) (nx := 14) (r1 := 0) (r2 := 0) (r3 := 0) rfl (by decide) rfl (by omega) (by omega) (by decide) g2 rfl (by omega) (fun h6 g6 w6 u6 => ?_)
    have F7 := F3.then rfl (FR.rngp (lo := 65) (hi := 65) u6 (by decide))
    have F8 := u2.then rfl (FR.rngp (lo := 65) (hi := 65) u6 (by decide))
    refine wr_iinc (i := 2) (n := 1) (v := x1) (fun e9 => [(2, vi e9), (0, .ref 65), (1, vi a0), (3, vi 60)]) (nx := 17) (r1 := 0) (r2 := 0) (r3 := 0) rfl rfl (fun _ => rfl) (fun e9 (fe9 : e9 = x1 + 1) => ?_)
    refine wi_goto (nx := 20) (r1 := 5) (r2 := 0) (r3 := 0) rfl ?_
    refine wp.lo (lo := [(0, .ref 65), (1, vi a0), (2, vi e9), (3, vi 60)]) ⟨rfl, rfl, rfl, rfl, trivial⟩ rfl ?_
    exact I2 e9 h6 ⟨g6, F7, F8, (show (0 ≤ e9 ∧ e9 ≤ 60) by omega)⟩ (show ((60 : Int) + 1 - e9).toNat < ((60 : Int) + 1 - x1).toNat by omega)
-- method 173: Exchange.offerJob(II)V
set_option maxRecDepth 100000 in
set_option maxHeartbeats 100000000 in
theorem ct_173_63 {L : Nat} {xs : Nat → Int32} {d b c : Nat} {h : hp} {cr : Nat → Nat → Option Nat} {Q : hp_Q} (hcr : CR cr)  (g : GI h) (a0 : Int) (a1 : Int) (q0_ : -2147483648 ≤ a0 ∧ a0 ≤ 2147483647) (q1_ : -2147483648 ≤ a1 ∧ a1 ≤ 2147483647)  (k : ∀ (h2 : hp) , GI h2 → FR [(65, 65, none)] h h2 → Q (.inl none) (hp_w h2 cr) b c) : wp (md_xa (L, xs)) (d + 1) 173 (0, [(0, .ref 63), (1, vi a0), (2, vi a1)], [], hp_w h cr, b, c) Q := by
  have F0 : FR [(65, 65, none)] h h := FR.refl
  refine wi_aload_n (i := 0) (x := 63) (nx := 1) (r1 := 0) (r2 := 0) (r3 := 0) rfl rfl ?_
  refine wr_gr (k0 := 63) (x := 18) (nx := 4) (r1 := 7) (r2 := 1) (r3 := 0) rfl rfl (by decide) rfl ⟨rfl, rfl⟩ rfl ?_
  refine wi_aload_n (i := 0) (x := 63) (nx := 5) (r1 := 0) (r2 := 0) (r3 := 0) rfl rfl ?_
  refine wr_gr (k0 := 63) (x := 18) (nx := 8) (r1 := 7) (r2 := 1) (r3 := 0) rfl rfl (by decide) rfl ⟨rfl, rfl⟩ rfl ?_
  have b1 := gi_b (lo := 0) (hi := 12) g 18 7 rfl
  refine wr_gi0 (k0 := 18) (x := h 18 7) (nx := 11) (r1 := 4) (r2 := 7) (r3 := 0) rfl rfl (by decide) rfl ⟨rfl, rfl⟩ rfl rfl ?_
  refine wi_iload_n (i := 2) (e := a1) (nx := 12) (r1 := 0) (r2 := 0) (r3 := 0) rfl rfl ?_
  refine wr_addW (nx := 13) (r1 := 0) (r2 := 0) (r3 := 0) rfl (fun e2 (fe2 : -2147483648 ≤ e2 ∧ e2 ≤ 2147483647) => ?_)
  refine wr_V (k0 := 18) (rest := []) (as := [.ref 18, vi e2]) (nx := 16) (r1 := 131) (r2 := 1) (r3 := 4) rfl rfl rfl (of_decide_eq_true rfl) rfl rfl (by decide) rfl rfl (of_decide_eq_true rfl) (of_decide_eq_true rfl) ?_
  refine ct_131_18 hcr  g e2 (by omega)  (fun z4  (fz4 : -2147483648 ≤ z4 ∧ z4 ≤ 2147483647) => ?_)
  refine wk_i ?_
  refine wi_istore_n (i := 3) (e := z4) (lo2 := [(3, vi z4), (0, .ref 63), (1, vi a0), (2, vi a1)]) (nx := 17) (r1 := 0) (r2 := 0) (r3 := 0) rfl rfl ?_
  refine wi_aload_n (i := 0) (x := 63) (nx := 18) (r1 := 0) (r2 := 0) (r3 := 0) rfl rfl ?_
  refine wr_gr (k0 := 63) (x := 3) (nx := 21) (r1 := 7) (r2 := 0) (r3 := 0) rfl rfl (by decide) rfl ⟨rfl, rfl⟩ rfl ?_
  refine wi_aload_n (i := 0) (x := 63) (nx := 22) (r1 := 0) (r2 := 0) (r3 := 0) rfl rfl ?_
  refine wr_gr (k0 := 63) (x := 18) (nx := 25) (r1 := 7) (r2 := 1) (r3 := 0) rfl rfl (by decide) rfl ⟨rfl, rfl⟩ rfl ?_
  refine wr_gi0 (k0 := 18) (x := h 18 7) (nx := 28) (r1 := 4) (r2 := 7) (r3 := 0) rfl rfl (by decide) rfl ⟨rfl, rfl⟩ rfl rfl ?_
  refine wi_iload_n (i := 2) (e := a1) (nx := 29) (r1 := 0) (r2 := 0) (r3 := 0) rfl rfl ?_
  refine wr_addW (nx := 30) (r1 := 0) (r2 := 0) (r3 := 0) rfl (fun e5 (fe5 : -2147483648 ≤ e5 ∧ e5 ≤ 2147483647) => ?_)
  refine wr_V (k0 := 3) (rest := []) (as := [.ref 3, vi e5]) (nx := 33) (r1 := 112) (r2 := 1) (r3 := 2) rfl rfl rfl (of_decide_eq_true rfl) rfl rfl (by decide) rfl rfl (of_decide_eq_true rfl) (of_decide_eq_true rfl) ?_
  refine ct_112_3 hcr  g e5 (by omega)  (fun z7  (fz7 : -2147483648 ≤ z7 ∧ z7 ≤ 2147483647) => ?_)
  refine wk_i ?_
  refine wi_istore (i := 4) (e := z7) (lo2 := [(4, vi z7), (3, vi z4), (0, .ref 63), (1, vi a0), (2, vi a1)]) (nx := 35) (r1 := 0) (r2 := 0) (r3 := 0) rfl rfl ?_
  refine wi_iload_n (i := 1) (e := a0) (nx := 36) (r1 := 0) (r2 := 0) (r3 := 0) rfl rfl ?_
  refine wi_iconst (n := 5) (nx := 37) (r1 := 0) (r2 := 0) (r3 := 0) rfl ?_
  refine wr_mulW (nx := 38) (r1 := 0) (r2 := 0) (r3 := 0) rfl (fun e8 (fe8 : -2147483648 ≤ e8 ∧ e8 ≤ 2147483647) => ?_)
  refine wi_iload_n (i := 3) (e := z4) (nx := 39) (r1 := 0) (r2 := 0) (r3 := 0) rfl rfl ?_
  refine wr_addW (nx := 40) (r1 := 0) (r2 := 0) (r3 := 0) rfl (fun e9 (fe9 : -2147483648 ≤ e9 ∧ e9 ≤ 2147483647) => ?_)
  refine wi_istore (i := 5) (e := e9) (lo2 := [(5, vi e9), (4, vi z7), (3, vi z4), (0, .ref 63), (1, vi a0), (2, vi a1)]) (nx := 42) (r1 := 0) (r2 := 0) (r3 := 0) rfl rfl ?_
  refine wi_iload_n (i := 3) (e := z4) (nx := 43) (r1 := 0) (r2 := 0) (r3 := 0) rfl rfl ?_
  refine wi_iconst (n := (-1)) (nx := 44) (r1 := 0) (r2 := 0) (r3 := 0) rfl ?_
  refine wi_icmp (cd := .eq) (nx := 47) (r1 := 72) (r2 := 0) (r3 := 0) rfl (by omega) (by omega) (fun (q10 : z4 = (-1)) => ?_) (fun (q10 : ¬ (z4 = (-1))) => ?_)
  ·
    refine wi_iconst (n := 0) (nx := 73) (r1 := 0) (r2 := 0) (r3 := 0) rfl ?_
    refine wi_istore (i := 6) (e := 0) (lo2 := [(6, vi 0), (5, vi e9), (4, vi z7), (3, vi z4), (0, .ref 63), (1, vi a0), (2, vi a1)]) (nx := 75) (r1 := 0) (r2 := 0) (r3 := 0) rfl rfl ?_
    refine wi_iload (i := 6) (e := 0) (nx := 77) (r1 := 0) (r2 := 0) (r3 := 0) rfl rfl ?_
    refine wi_if (cd := .eq) (nx := 80) (r1 := 108) (r2 := 0) (r3 := 0) rfl (by omega) (fun (q11 : 0 = 0) => ?_) (fun (q11 : ¬ (0 = 0)) => by exfalso; omega)
    refine wi_return (nx := 109) (r1 := 0) (r2 := 0) (r3 := 0) rfl rfl ?_
    exact k h g F0
  ·
    refine wi_iload (i := 4) (e := z7) (nx := 49) (r1 := 0) (r2 := 0) (r3 := 0) rfl rfl ?_
    refine wi_aload_n (i := 0) (x := 63) (nx := 50) (r1 := 0) (r2 := 0) (r3 := 0) rfl rfl ?_
    refine wr_gr (k0 := 63) (x := 3) (nx := 53) (r1 := 7) (r2 := 0) (r3 := 0) rfl rfl (by decide) rfl ⟨rfl, rfl⟩ rfl ?_
    refine wi_aload_n (i := 0) (x := 63) (nx := 54) (r1 := 0) (r2 := 0) (r3 := 0) rfl rfl ?_
    refine wr_gr (k0 := 63) (x := 18) (nx := 57) (r1 := 7) (r2 := 1) (r3 := 0) rfl rfl (by decide) rfl ⟨rfl, rfl⟩ rfl ?_
    refine wr_gi0 (k0 := 18) (x := h 18 7) (nx := 60) (r1 := 4) (r2 := 7) (r3 := 0) rfl rfl (by decide) rfl ⟨rfl, rfl⟩ rfl rfl ?_
    refine wi_iload_n (i := 1) (e := a0) (nx := 61) (r1 := 0) (r2 := 0) (r3 := 0) rfl rfl ?_
    refine wr_addW (nx := 62) (r1 := 0) (r2 := 0) (r3 := 0) rfl (fun e11 (fe11 : -2147483648 ≤ e11 ∧ e11 ≤ 2147483647) => ?_)
    refine wr_V (k0 := 3) (rest := [vi z7]) (as := [.ref 3, vi e11]) (nx := 65) (r1 := 112) (r2 := 1) (r3 := 2) rfl rfl rfl (of_decide_eq_true rfl) rfl rfl (by decide) rfl rfl (of_decide_eq_true rfl) (of_decide_eq_true rfl) ?_
    refine ct_112_3 hcr  g e11 (by omega)  (fun z13  (fz13 : -2147483648 ≤ z13 ∧ z13 ≤ 2147483647) => ?_)
    refine wk_i ?_
    refine wi_icmp (cd := .ne) (nx := 68) (r1 := 72) (r2 := 0) (r3 := 0) rfl (by omega) (by omega) (fun (q14 : z7 ≠ z13) => ?_) (fun (q14 : ¬ (z7 ≠ z13)) => ?_)
    ·
      refine wi_iconst (n := 0) (nx := 73) (r1 := 0) (r2 := 0) (r3 := 0) rfl ?_
      refine wi_istore (i := 6) (e := 0) (lo2 := [(6, vi 0), (5, vi e9), (4, vi z7), (3, vi z4), (0, .ref 63), (1, vi a0), (2, vi a1)]) (nx := 75) (r1 := 0) (r2 := 0) (r3 := 0) rfl rfl ?_
      refine wi_iload (i := 6) (e := 0) (nx := 77) (r1 := 0) (r2 := 0) (r3 := 0) rfl rfl ?_
      refine wi_if (cd := .eq) (nx := 80) (r1 := 108) (r2 := 0) (r3 := 0) rfl (by omega) (fun (q15 : 0 = 0) => ?_) (fun (q15 : ¬ (0 = 0)) => by exfalso; omega)
      refine wi_return (nx := 109) (r1 := 0) (r2 := 0) (r3 := 0) rfl rfl ?_
      exact k h g F0
    ·
      refine wi_iconst (n := 1) (nx := 69) (r1 := 0) (r2 := 0) (r3 := 0) rfl ?_
      refine wi_goto (nx := 72) (r1 := 73) (r2 := 0) (r3 := 0) rfl ?_
      refine wi_istore (i := 6) (e := 1) (lo2 := [(6, vi 1), (5, vi e9), (4, vi z7), (3, vi z4), (0, .ref 63), (1, vi a0), (2, vi a1)]) (nx := 75) (r1 := 0) (r2 := 0) (r3 := 0) rfl rfl ?_
      refine wi_iload (i := 6) (e := 1) (nx := 77) (r1 := 0) (r2 := 0) (r3 := 0) rfl rfl ?_
      refine wi_if (cd := .eq) (nx := 80) (r1 := 108) (r2 := 0) (r3 := 0) rfl (by omega) (fun (q15 : 1 = 0) => by exfalso; omega) (fun (q15 : ¬ (1 = 0)) => ?_)
      refine wi_iload (i := 5) (e := e9) (nx := 82) (r1 := 0) (r2 := 0) (r3 := 0) rfl rfl ?_
      refine wi_if (cd := .lt) (nx := 85) (r1 := 108) (r2 := 0) (r3 := 0) rfl (by omega) (fun (q16 : e9 < 0) => ?_) (fun (q16 : ¬ (e9 < 0)) => ?_)
      ·
        refine wi_return (nx := 109) (r1 := 0) (r2 := 0) (r3 := 0) rfl rfl ?_
        exact k h g F0
      ·
        refine wi_iload (i := 5) (e := e9) (nx := 87) (r1 := 0) (r2 := 0) (r3 := 0) rfl rfl ?_
        refine wi_aload_n (i := 0) (x := 63) (nx := 88) (r1 := 0) (r2 := 0) (r3 := 0) rfl rfl ?_
        refine wr_gr (k0 := 63) (x := 65) (nx := 91) (r1 := 7) (r2 := 3) (r3 := 0) rfl rfl (by decide) rfl ⟨rfl, rfl⟩ rfl ?_
        refine wr_al (k0 := 65) (e := 60) (nx := 92) (r1 := 0) (r2 := 0) (r3 := 0) rfl (by decide) rfl rfl ?_
        refine wi_icmp (cd := .ge) (nx := 95) (r1 := 108) (r2 := 0) (r3 := 0) rfl (by omega) (by omega) (fun (q17 : 60 ≤ e9) => ?_) (fun (q17 : ¬ (60 ≤ e9)) => ?_)
        ·
          refine wi_return (nx := 109) (r1 := 0) (r2 := 0) (r3 := 0) rfl rfl ?_
          exact k h g F0
        ·
          refine wi_aload_n (i := 0) (x := 63) (nx := 96) (r1 := 0) (r2 := 0) (r3 := 0) rfl rfl ?_
          refine wr_gr (k0 := 63) (x := 65) (nx := 99) (r1 := 7) (r2 := 3) (r3 := 0) rfl rfl (by decide) rfl ⟨rfl, rfl⟩ rfl ?_
          refine wi_iload (i := 5) (e := e9) (nx := 101) (r1 := 0) (r2 := 0) (r3 := 0) rfl rfl ?_
          refine wi_dup2 (nx := 102) (r1 := 0) (r2 := 0) (r3 := 0) rfl rfl rfl ?_
          obtain ⟨i18, ei18⟩ : ∃ q : Nat, e9 = (q : Int) := ⟨(e9).toNat, by omega⟩
          have b19 := gi_b (lo := -2147483648) (hi := 2147483647) g 65 i18 rfl
          refine wr_ia (k0 := 65) (a := e9) (f := i18) (x := h 65 i18) (nx := 103) (r1 := 0) (r2 := 0) (r3 := 0) rfl (by decide) rfl (by omega) (by omega) (by decide) rfl ?_
          refine wi_iconst (n := 1) (nx := 104) (r1 := 0) (r2 := 0) (r3 := 0) rfl ?_
          refine wi_iload_n (i := 2) (e := a1) (nx := 105) (r1 := 0) (r2 := 0) (r3 := 0) rfl rfl ?_
          refine wr_ishlA (nx := 106) (r1 := 0) (r2 := 0) (r3 := 0) rfl (fun e20 (fe20 : -2147483648 ≤ e20 ∧ e20 ≤ 2147483647) => ?_)
          refine wr_iorA (nx := 107) (r1 := 0) (r2 := 0) (r3 := 0) rfl (fun e21 (fe21 : -2147483648 ≤ e21 ∧ e21 ≤ 2147483647) => ?_)
          refine wr_is (k0 := 65) (a := e9) (f := i18) (x := e21) (bl := -2147483648) (bh := 2147483647) (nx := 108) (r1 := 0) (r2 := 0) (r3 := 0) rfl (by decide) rfl (by omega) (by omega) (by decide) g rfl (by omega) (fun h22 g22 w22 u22 => ?_)
          have F23 := F0.then rfl (FR.rngp (lo := 65) (hi := 65) u22 (by decide))
          refine wi_return (nx := 109) (r1 := 0) (r2 := 0) (r3 := 0) rfl rfl ?_
          exact k h22 g22 F23
-- method 358: Integer.bitCount(I)I
set_option maxRecDepth 100000 in
set_option maxHeartbeats 100000000 in
theorem ct_358 {L : Nat} {xs : Nat → Int32} {d b c : Nat} {h : hp} {cr : Nat → Nat → Option Nat} {Q : hp_Q} (hcr : CR cr)  (g : GI h) (a0 : Int) (q0_ : -2147483648 ≤ a0 ∧ a0 ≤ 2147483647)  (k : ∀ (z0 : Int), (0 ≤ z0 ∧ z0 ≤ 63) → Q (.inl (some (vi z0))) (hp_w h cr) b c) : wp (md_xa (L, xs)) d 358 (0, [(0, vi a0)], [], hp_w h cr, b, c) Q := by
  have F0 : FR [] h h := FR.refl
  refine wi_iload_n (i := 0) (e := a0) (nx := 1) (r1 := 0) (r2 := 0) (r3 := 0) rfl rfl ?_
  refine wi_iload_n (i := 0) (e := a0) (nx := 2) (r1 := 0) (r2 := 0) (r3 := 0) rfl rfl ?_
  refine wi_iconst (n := 1) (nx := 3) (r1 := 0) (r2 := 0) (r3 := 0) rfl ?_
  refine wr_iushrA (nx := 4) (r1 := 0) (r2 := 0) (r3 := 0) rfl (fun e1 (fe1 : -2147483648 ≤ e1 ∧ e1 ≤ 2147483647) => ?_)
  refine wi_ldc_w (e := 1431655765) (nx := 7) (r1 := 0) (r2 := 1431655765) (r3 := 0) rfl (by decide) ?_
  refine wi_iandm (m := 1431655765) (nx := 8) (r1 := 0) (r2 := 0) (r3 := 0) rfl (by decide) (by decide) (fun e2 (fe2 : 0 ≤ e2 ∧ e2 ≤ 1431655765) => ?_)
  refine wr_subW (nx := 9) (r1 := 0) (r2 := 0) (r3 := 0) rfl (fun e3 (fe3 : -2147483648 ≤ e3 ∧ e3 ≤ 2147483647) => ?_)
  refine wi_istore_n (i := 0) (e := e3) (lo2 := [(0, vi e3)]) (nx := 10) (r1 := 0) (r2 := 0) (r3 := 0) rfl rfl ?_
  refine wi_iload_n (i := 0) (e := e3) (nx := 11) (r1 := 0) (r2 := 0) (r3 := 0) rfl rfl ?_
  refine wi_ldc_w (e := 858993459) (nx := 14) (r1 := 0) (r2 := 858993459) (r3 := 0) rfl (by decide) ?_
  refine wi_iandm (m := 858993459) (nx := 15) (r1 := 0) (r2 := 0) (r3 := 0) rfl (by decide) (by decide) (fun e4 (fe4 : 0 ≤ e4 ∧ e4 ≤ 858993459) => ?_)
  refine wi_iload_n (i := 0) (e := e3) (nx := 16) (r1 := 0) (r2 := 0) (r3 := 0) rfl rfl ?_
  refine wi_iconst (n := 2) (nx := 17) (r1 := 0) (r2 := 0) (r3 := 0) rfl ?_
  refine wr_iushrA (nx := 18) (r1 := 0) (r2 := 0) (r3 := 0) rfl (fun e5 (fe5 : -2147483648 ≤ e5 ∧ e5 ≤ 2147483647) => ?_)
  refine wi_ldc_w (e := 858993459) (nx := 21) (r1 := 0) (r2 := 858993459) (r3 := 0) rfl (by decide) ?_
  refine wi_iandm (m := 858993459) (nx := 22) (r1 := 0) (r2 := 0) (r3 := 0) rfl (by decide) (by decide) (fun e6 (fe6 : 0 ≤ e6 ∧ e6 ≤ 858993459) => ?_)
  refine wr_add (nx := 23) (r1 := 0) (r2 := 0) (r3 := 0) rfl (fun e7 (fe7 : e7 = e4 + e6) => ?_)
  refine wi_istore_n (i := 0) (e := e7) (lo2 := [(0, vi e7)]) (nx := 24) (r1 := 0) (r2 := 0) (r3 := 0) rfl rfl ?_
  refine wi_iload_n (i := 0) (e := e7) (nx := 25) (r1 := 0) (r2 := 0) (r3 := 0) rfl rfl ?_
  refine wi_iload_n (i := 0) (e := e7) (nx := 26) (r1 := 0) (r2 := 0) (r3 := 0) rfl rfl ?_
  refine wi_iconst (n := 4) (nx := 27) (r1 := 0) (r2 := 0) (r3 := 0) rfl ?_
  refine wr_iushrA (nx := 28) (r1 := 0) (r2 := 0) (r3 := 0) rfl (fun e8 (fe8 : -2147483648 ≤ e8 ∧ e8 ≤ 2147483647) => ?_)
  refine wr_addW (nx := 29) (r1 := 0) (r2 := 0) (r3 := 0) rfl (fun e9 (fe9 : -2147483648 ≤ e9 ∧ e9 ≤ 2147483647) => ?_)
  refine wi_ldc_w (e := 252645135) (nx := 32) (r1 := 0) (r2 := 252645135) (r3 := 0) rfl (by decide) ?_
  refine wi_iandm (m := 252645135) (nx := 33) (r1 := 0) (r2 := 0) (r3 := 0) rfl (by decide) (by decide) (fun e10 (fe10 : 0 ≤ e10 ∧ e10 ≤ 252645135) => ?_)
  refine wi_istore_n (i := 0) (e := e10) (lo2 := [(0, vi e10)]) (nx := 34) (r1 := 0) (r2 := 0) (r3 := 0) rfl rfl ?_
  refine wi_iload_n (i := 0) (e := e10) (nx := 35) (r1 := 0) (r2 := 0) (r3 := 0) rfl rfl ?_
  refine wi_iload_n (i := 0) (e := e10) (nx := 36) (r1 := 0) (r2 := 0) (r3 := 0) rfl rfl ?_
  refine wi_bipush (n := 8) (nx := 38) (r1 := 0) (r2 := 0) (r3 := 0) rfl (by decide) ?_
  refine wr_iushrA (nx := 39) (r1 := 0) (r2 := 0) (r3 := 0) rfl (fun e11 (fe11 : -2147483648 ≤ e11 ∧ e11 ≤ 2147483647) => ?_)
  refine wr_addW (nx := 40) (r1 := 0) (r2 := 0) (r3 := 0) rfl (fun e12 (fe12 : -2147483648 ≤ e12 ∧ e12 ≤ 2147483647) => ?_)
  refine wi_istore_n (i := 0) (e := e12) (lo2 := [(0, vi e12)]) (nx := 41) (r1 := 0) (r2 := 0) (r3 := 0) rfl rfl ?_
  refine wi_iload_n (i := 0) (e := e12) (nx := 42) (r1 := 0) (r2 := 0) (r3 := 0) rfl rfl ?_
  refine wi_iload_n (i := 0) (e := e12) (nx := 43) (r1 := 0) (r2 := 0) (r3 := 0) rfl rfl ?_
  refine wi_bipush (n := 16) (nx := 45) (r1 := 0) (r2 := 0) (r3 := 0) rfl (by decide) ?_
  refine wr_iushrA (nx := 46) (r1 := 0) (r2 := 0) (r3 := 0) rfl (fun e13 (fe13 : -2147483648 ≤ e13 ∧ e13 ≤ 2147483647) => ?_)
  refine wr_addW (nx := 47) (r1 := 0) (r2 := 0) (r3 := 0) rfl (fun e14 (fe14 : -2147483648 ≤ e14 ∧ e14 ≤ 2147483647) => ?_)
  refine wi_istore_n (i := 0) (e := e14) (lo2 := [(0, vi e14)]) (nx := 48) (r1 := 0) (r2 := 0) (r3 := 0) rfl rfl ?_
  refine wi_iload_n (i := 0) (e := e14) (nx := 49) (r1 := 0) (r2 := 0) (r3 := 0) rfl rfl ?_
  refine wi_bipush (n := 63) (nx := 51) (r1 := 0) (r2 := 0) (r3 := 0) rfl (by decide) ?_
  refine wi_iandm (m := 63) (nx := 52) (r1 := 0) (r2 := 0) (r3 := 0) rfl (by decide) (by decide) (fun e15 (fe15 : 0 ≤ e15 ∧ e15 ≤ 63) => ?_)
  refine wi_ireturn (nx := 53) (r1 := 0) (r2 := 0) (r3 := 0) rfl rfl ?_
  exact k e15 (by omega)
-- method 175: Exchange.firstJob(III)I
set_option maxRecDepth 100000 in
set_option maxHeartbeats 100000000 in
theorem ct_175_63 {L : Nat} {xs : Nat → Int32} {d b c : Nat} {h : hp} {cr : Nat → Nat → Option Nat} {Q : hp_Q} (hcr : CR cr)  (g : GI h) (a0 : Int) (a1 : Int) (a2 : Int) (q0_ : -2147483648 ≤ a0 ∧ a0 ≤ 2147483647) (q1_ : -2147483648 ≤ a1 ∧ a1 ≤ 2147483647) (q2_ : -2147483648 ≤ a2 ∧ a2 ≤ 2147483647)  (k : ∀ (z0 : Int), (-1 ≤ z0 ∧ z0 ≤ 63) → Q (.inl (some (vi z0))) (hp_w h cr) b c) : wp (md_xa (L, xs)) (d + 1) 175 (0, [(0, .ref 63), (1, vi a0), (2, vi a1), (3, vi a2)], [], hp_w h cr, b, c) Q := by
  have F0 : FR [] h h := FR.refl
  refine wi_iload_n (i := 1) (e := a0) (nx := 1) (r1 := 0) (r2 := 0) (r3 := 0) rfl rfl ?_
  refine wi_if (cd := .lt) (nx := 4) (r1 := 19) (r2 := 0) (r3 := 0) rfl (by omega) (fun (q1 : a0 < 0) => ?_) (fun (q1 : ¬ (a0 < 0)) => ?_)
  ·
    refine wi_iconst (n := (-1)) (nx := 20) (r1 := 0) (r2 := 0) (r3 := 0) rfl ?_
    refine wi_ireturn (nx := 21) (r1 := 0) (r2 := 0) (r3 := 0) rfl rfl ?_
    exact k (-1) (by omega)
  ·
    refine wi_iload_n (i := 1) (e := a0) (nx := 5) (r1 := 0) (r2 := 0) (r3 := 0) rfl rfl ?_
    refine wi_iconst (n := 5) (nx := 6) (r1 := 0) (r2 := 0) (r3 := 0) rfl ?_
    refine wi_icmp (cd := .ge) (nx := 9) (r1 := 19) (r2 := 0) (r3 := 0) rfl (by omega) (by omega) (fun (q2 : 5 ≤ a0) => ?_) (fun (q2 : ¬ (5 ≤ a0)) => ?_)
    ·
      refine wi_iconst (n := (-1)) (nx := 20) (r1 := 0) (r2 := 0) (r3 := 0) rfl ?_
      refine wi_ireturn (nx := 21) (r1 := 0) (r2 := 0) (r3 := 0) rfl rfl ?_
      exact k (-1) (by omega)
    ·
      refine wi_iload_n (i := 2) (e := a1) (nx := 10) (r1 := 0) (r2 := 0) (r3 := 0) rfl rfl ?_
      refine wi_if (cd := .lt) (nx := 13) (r1 := 19) (r2 := 0) (r3 := 0) rfl (by omega) (fun (q3 : a1 < 0) => ?_) (fun (q3 : ¬ (a1 < 0)) => ?_)
      ·
        refine wi_iconst (n := (-1)) (nx := 20) (r1 := 0) (r2 := 0) (r3 := 0) rfl ?_
        refine wi_ireturn (nx := 21) (r1 := 0) (r2 := 0) (r3 := 0) rfl rfl ?_
        exact k (-1) (by omega)
      ·
        refine wi_iload_n (i := 2) (e := a1) (nx := 14) (r1 := 0) (r2 := 0) (r3 := 0) rfl rfl ?_
        refine wi_bipush (n := 12) (nx := 16) (r1 := 0) (r2 := 0) (r3 := 0) rfl (by decide) ?_
        refine wi_icmp (cd := .lt) (nx := 19) (r1 := 21) (r2 := 0) (r3 := 0) rfl (by omega) (by omega) (fun (q4 : a1 < 12) => ?_) (fun (q4 : ¬ (a1 < 12)) => ?_)
        ·
          refine wi_aload_n (i := 0) (x := 63) (nx := 22) (r1 := 0) (r2 := 0) (r3 := 0) rfl rfl ?_
          refine wr_gr (k0 := 63) (x := 65) (nx := 25) (r1 := 7) (r2 := 3) (r3 := 0) rfl rfl (by decide) rfl ⟨rfl, rfl⟩ rfl ?_
          refine wi_iload_n (i := 2) (e := a1) (nx := 26) (r1 := 0) (r2 := 0) (r3 := 0) rfl rfl ?_
          refine wi_iconst (n := 5) (nx := 27) (r1 := 0) (r2 := 0) (r3 := 0) rfl ?_
          refine wr_mul (nx := 28) (r1 := 0) (r2 := 0) (r3 := 0) rfl (fun e5 (fe5 : e5 = a1 * 5) => ?_)
          refine wi_iload_n (i := 1) (e := a0) (nx := 29) (r1 := 0) (r2 := 0) (r3 := 0) rfl rfl ?_
          refine wr_add (nx := 30) (r1 := 0) (r2 := 0) (r3 := 0) rfl (fun e6 (fe6 : e6 = e5 + a0) => ?_)
          obtain ⟨i7, ei7⟩ : ∃ q : Nat, e6 = (q : Int) := ⟨(e6).toNat, by omega⟩
          have b8 := gi_b (lo := -2147483648) (hi := 2147483647) g 65 i7 rfl
          refine wr_ia (k0 := 65) (a := e6) (f := i7) (x := h 65 i7) (nx := 31) (r1 := 0) (r2 := 0) (r3 := 0) rfl (by decide) rfl (by omega) (by omega) (by decide) rfl ?_
          refine wi_iload_n (i := 3) (e := a2) (nx := 32) (r1 := 0) (r2 := 0) (r3 := 0) rfl rfl ?_
          refine wi_iconst (n := (-1)) (nx := 33) (r1 := 0) (r2 := 0) (r3 := 0) rfl ?_
          refine wr_ixorA (nx := 34) (r1 := 0) (r2 := 0) (r3 := 0) rfl (fun e9 (fe9 : -2147483648 ≤ e9 ∧ e9 ≤ 2147483647) => ?_)
          refine wr_iandA (nx := 35) (r1 := 0) (r2 := 0) (r3 := 0) rfl (fun e10 (fe10 : -2147483648 ≤ e10 ∧ e10 ≤ 2147483647) => ?_)
          refine wi_istore (i := 4) (e := e10) (lo2 := [(4, vi e10), (0, .ref 63), (1, vi a0), (2, vi a1), (3, vi a2)]) (nx := 37) (r1 := 0) (r2 := 0) (r3 := 0) rfl rfl ?_
          refine wi_iload (i := 4) (e := e10) (nx := 39) (r1 := 0) (r2 := 0) (r3 := 0) rfl rfl ?_
          refine wi_if (cd := .ne) (nx := 42) (r1 := 44) (r2 := 0) (r3 := 0) rfl (by omega) (fun (q11 : e10 ≠ 0) => ?_) (fun (q11 : ¬ (e10 ≠ 0)) => ?_)
          ·
            refine wi_iload (i := 4) (e := e10) (nx := 46) (r1 := 0) (r2 := 0) (r3 := 0) rfl rfl ?_
            refine wi_iload (i := 4) (e := e10) (nx := 48) (r1 := 0) (r2 := 0) (r3 := 0) rfl rfl ?_
            refine wr_neg (nx := 49) (r1 := 0) (r2 := 0) (r3 := 0) rfl (fun e12 (fe12 : -2147483648 ≤ e12 ∧ e12 ≤ 2147483647) => ?_)
            refine wr_iandA (nx := 50) (r1 := 0) (r2 := 0) (r3 := 0) rfl (fun e13 (fe13 : -2147483648 ≤ e13 ∧ e13 ≤ 2147483647) => ?_)
            refine wi_iconst (n := 1) (nx := 51) (r1 := 0) (r2 := 0) (r3 := 0) rfl ?_
            refine wr_subW (nx := 52) (r1 := 0) (r2 := 0) (r3 := 0) rfl (fun e14 (fe14 : -2147483648 ≤ e14 ∧ e14 ≤ 2147483647) => ?_)
            refine wi_S (rest := []) (as := [vi e14]) (nx := 55) (r1 := 358) (r2 := 17) (r3 := 0) rfl rfl rfl (of_decide_eq_true rfl) rfl rfl (of_decide_eq_true rfl) (of_decide_eq_true rfl) ?_
            refine ct_358 hcr  g e14 (by omega)  (fun z16  (fz16 : 0 ≤ z16 ∧ z16 ≤ 63) => ?_)
            refine wk_i ?_
            refine wi_istore (i := 5) (e := z16) (lo2 := [(5, vi z16), (4, vi e10), (0, .ref 63), (1, vi a0), (2, vi a1), (3, vi a2)]) (nx := 57) (r1 := 0) (r2 := 0) (r3 := 0) rfl rfl ?_
            refine wi_iload (i := 5) (e := z16) (nx := 59) (r1 := 0) (r2 := 0) (r3 := 0) rfl rfl ?_
            refine wi_iload_n (i := 2) (e := a1) (nx := 60) (r1 := 0) (r2 := 0) (r3 := 0) rfl rfl ?_
            refine wr_sub (nx := 61) (r1 := 0) (r2 := 0) (r3 := 0) rfl (fun e17 (fe17 : e17 = z16 - a1) => ?_)
            refine wi_S (rest := []) (as := [vi e17]) (nx := 64) (r1 := 356) (r2 := 17) (r3 := 0) rfl rfl rfl (of_decide_eq_true rfl) rfl rfl (of_decide_eq_true rfl) (of_decide_eq_true rfl) ?_
            refine wi_iload_n (i := 0) (e := e17) (nx := 1) (r1 := 0) (r2 := 0) (r3 := 0) rfl rfl ?_
            refine wi_if (cd := .ge) (nx := 4) (r1 := 9) (r2 := 0) (r3 := 0) rfl (by omega) (fun (q18 : 0 ≤ e17) => ?_) (fun (q18 : ¬ (0 ≤ e17)) => ?_)
            ·
              refine wi_iload_n (i := 0) (e := e17) (nx := 10) (r1 := 0) (r2 := 0) (r3 := 0) rfl rfl ?_
              refine wi_ireturn (nx := 11) (r1 := 0) (r2 := 0) (r3 := 0) rfl rfl ?_
              refine wk_i ?_
              refine wi_aload_n (i := 0) (x := 63) (nx := 65) (r1 := 0) (r2 := 0) (r3 := 0) rfl rfl ?_
              refine wr_gr (k0 := 63) (x := 3) (nx := 68) (r1 := 7) (r2 := 0) (r3 := 0) rfl rfl (by decide) rfl ⟨rfl, rfl⟩ rfl ?_
              have b19 := gi_b (lo := -2147483648) (hi := 2147483647) g 3 9 rfl
              refine wr_gi0 (k0 := 3) (x := h 3 9) (nx := 71) (r1 := 2) (r2 := 9) (r3 := 0) rfl rfl (by decide) rfl ⟨rfl, rfl⟩ rfl rfl ?_
              refine wi_icmp (cd := .gt) (nx := 74) (r1 := 79) (r2 := 0) (r3 := 0) rfl (by omega) (by omega) (fun (q20 : (h 3 9) < e17) => ?_) (fun (q20 : ¬ ((h 3 9) < e17)) => ?_)
              ·
                refine wi_iconst (n := (-1)) (nx := 80) (r1 := 0) (r2 := 0) (r3 := 0) rfl ?_
                refine wi_ireturn (nx := 81) (r1 := 0) (r2 := 0) (r3 := 0) rfl rfl ?_
                exact k (-1) (by omega)
              ·
                refine wi_iload (i := 5) (e := z16) (nx := 76) (r1 := 0) (r2 := 0) (r3 := 0) rfl rfl ?_
                refine wi_goto (nx := 79) (r1 := 80) (r2 := 0) (r3 := 0) rfl ?_
                refine wi_ireturn (nx := 81) (r1 := 0) (r2 := 0) (r3 := 0) rfl rfl ?_
                exact k z16 (by omega)
            ·
              refine wi_iload_n (i := 0) (e := e17) (nx := 5) (r1 := 0) (r2 := 0) (r3 := 0) rfl rfl ?_
              refine wr_neg (nx := 6) (r1 := 0) (r2 := 0) (r3 := 0) rfl (fun e19 (fe19 : -2147483648 ≤ e19 ∧ e19 ≤ 2147483647) => ?_)
              refine wi_goto (nx := 9) (r1 := 10) (r2 := 0) (r3 := 0) rfl ?_
              refine wi_ireturn (nx := 11) (r1 := 0) (r2 := 0) (r3 := 0) rfl rfl ?_
              refine wk_i ?_
              refine wi_aload_n (i := 0) (x := 63) (nx := 65) (r1 := 0) (r2 := 0) (r3 := 0) rfl rfl ?_
              refine wr_gr (k0 := 63) (x := 3) (nx := 68) (r1 := 7) (r2 := 0) (r3 := 0) rfl rfl (by decide) rfl ⟨rfl, rfl⟩ rfl ?_
              have b20 := gi_b (lo := -2147483648) (hi := 2147483647) g 3 9 rfl
              refine wr_gi0 (k0 := 3) (x := h 3 9) (nx := 71) (r1 := 2) (r2 := 9) (r3 := 0) rfl rfl (by decide) rfl ⟨rfl, rfl⟩ rfl rfl ?_
              refine wi_icmp (cd := .gt) (nx := 74) (r1 := 79) (r2 := 0) (r3 := 0) rfl (by omega) (by omega) (fun (q21 : (h 3 9) < e19) => ?_) (fun (q21 : ¬ ((h 3 9) < e19)) => ?_)
              ·
                refine wi_iconst (n := (-1)) (nx := 80) (r1 := 0) (r2 := 0) (r3 := 0) rfl ?_
                refine wi_ireturn (nx := 81) (r1 := 0) (r2 := 0) (r3 := 0) rfl rfl ?_
                exact k (-1) (by omega)
              ·
                refine wi_iload (i := 5) (e := z16) (nx := 76) (r1 := 0) (r2 := 0) (r3 := 0) rfl rfl ?_
                refine wi_goto (nx := 79) (r1 := 80) (r2 := 0) (r3 := 0) rfl ?_
                refine wi_ireturn (nx := 81) (r1 := 0) (r2 := 0) (r3 := 0) rfl rfl ?_
                exact k z16 (by omega)
          ·
            refine wi_iconst (n := (-1)) (nx := 43) (r1 := 0) (r2 := 0) (r3 := 0) rfl ?_
            refine wi_ireturn (nx := 44) (r1 := 0) (r2 := 0) (r3 := 0) rfl rfl ?_
            exact k (-1) (by omega)
        ·
          refine wi_iconst (n := (-1)) (nx := 20) (r1 := 0) (r2 := 0) (r3 := 0) rfl ?_
          refine wi_ireturn (nx := 21) (r1 := 0) (r2 := 0) (r3 := 0) rfl rfl ?_
          exact k (-1) (by omega)
-- method 176: Exchange.fewestOf(II)I
set_option maxRecDepth 100000 in
set_option maxHeartbeats 100000000 in
theorem ct_176 {L : Nat} {xs : Nat → Int32} {d b c : Nat} {h : hp} {cr : Nat → Nat → Option Nat} {Q : hp_Q} (hcr : CR cr)  (g : GI h) (a0 : Int) (a1 : Int) (q0_ : -2147483648 ≤ a0 ∧ a0 ≤ 2147483647) (q1_ : -2147483648 ≤ a1 ∧ a1 ≤ 2147483647)  (k : ∀ (z0 : Int), (0 ≤ z0 ∧ z0 ≤ 15) → Q (.inl (some (vi z0))) (hp_w h cr) b c) : wp (md_xa (L, xs)) d 176 (0, [(0, vi a0), (1, vi a1)], [], hp_w h cr, b, c) Q := by
  have F0 : FR [] h h := FR.refl
  refine wi_iload_n (i := 0) (e := a0) (nx := 1) (r1 := 0) (r2 := 0) (r3 := 0) rfl rfl ?_
  refine wi_iload_n (i := 1) (e := a1) (nx := 2) (r1 := 0) (r2 := 0) (r3 := 0) rfl rfl ?_
  refine wi_iconst (n := 4) (nx := 3) (r1 := 0) (r2 := 0) (r3 := 0) rfl ?_
  refine wr_mulW (nx := 4) (r1 := 0) (r2 := 0) (r3 := 0) rfl (fun e1 (fe1 : -2147483648 ≤ e1 ∧ e1 ≤ 2147483647) => ?_)
  refine wr_ishrA (nx := 5) (r1 := 0) (r2 := 0) (r3 := 0) rfl (fun e2 (fe2 : -2147483648 ≤ e2 ∧ e2 ≤ 2147483647) => ?_)
  refine wi_bipush (n := 15) (nx := 7) (r1 := 0) (r2 := 0) (r3 := 0) rfl (by decide) ?_
  refine wi_iandm (m := 15) (nx := 8) (r1 := 0) (r2 := 0) (r3 := 0) rfl (by decide) (by decide) (fun e3 (fe3 : 0 ≤ e3 ∧ e3 ≤ 15) => ?_)
  refine wi_ireturn (nx := 9) (r1 := 0) (r2 := 0) (r3 := 0) rfl rfl ?_
  exact k e3 (by omega)
-- method 177: Exchange.fewestOfAll(I)I
set_option maxRecDepth 100000 in
set_option maxHeartbeats 100000000 in
theorem ct_177 {L : Nat} {xs : Nat → Int32} {d b c : Nat} {h : hp} {cr : Nat → Nat → Option Nat} {Q : hp_Q} (hcr : CR cr)  (g : GI h) (a0 : Int) (q0_ : -2147483648 ≤ a0 ∧ a0 ≤ 2147483647)  (k : ∀ (z0 : Int), (0 ≤ z0 ∧ z0 ≤ 15) → Q (.inl (some (vi z0))) (hp_w h cr) b c) : wp (md_xa (L, xs)) (d + 1) 177 (0, [(0, vi a0)], [], hp_w h cr, b, c) Q := by
  have F0 : FR [] h h := FR.refl
  refine wi_bipush (n := 15) (nx := 2) (r1 := 0) (r2 := 0) (r3 := 0) rfl (by decide) ?_
  refine wi_istore_n (i := 1) (e := 15) (lo2 := [(1, vi 15), (0, vi a0)]) (nx := 3) (r1 := 0) (r2 := 0) (r3 := 0) rfl rfl ?_
  refine wi_iconst (n := 0) (nx := 4) (r1 := 0) (r2 := 0) (r3 := 0) rfl ?_
  refine wi_istore_n (i := 2) (e := 0) (lo2 := [(2, vi 0), (1, vi 15), (0, vi a0)]) (nx := 5) (r1 := 0) (r2 := 0) (r3 := 0) rfl rfl ?_
  refine wp.lo (lo := [(0, vi a0), (1, vi 15), (2, vi 0)]) ⟨rfl, rfl, rfl, trivial⟩ rfl ?_
  refine wl_2 (fun x1 x2 h3 => h = h3 ∧ ((0 ≤ x1 ∧ x1 ≤ 15) ∧ (0 ≤ x2 ∧ x2 ≤ 5))) (fun x1 x2 h3 => ((5 : Int) + 1 - x2).toNat) (fun x1 x2 h3 => (5, [(0, vi a0), (1, vi x1), (2, vi x2)], [], hp_w h3 cr, b, c)) ?_ 15 0 h ⟨rfl, (show (0 ≤ 15 ∧ 15 ≤ 15) ∧ (0 ≤ 0 ∧ 0 ≤ 5) by omega)⟩
  intro x1 x2 h3 ⟨e3, f3⟩ I3
  subst e3
  refine wi_iload_n (i := 2) (e := x2) (nx := 6) (r1 := 0) (r2 := 0) (r3 := 0) rfl rfl ?_
  refine wi_iconst (n := 5) (nx := 7) (r1 := 0) (r2 := 0) (r3 := 0) rfl ?_
  refine wi_icmp (cd := .ge) (nx := 10) (r1 := 29) (r2 := 0) (r3 := 0) rfl (by omega) (by omega) (fun (q5 : 5 ≤ x2) => ?_) (fun (q5 : ¬ (5 ≤ x2)) => ?_)
  ·
    refine wi_iload_n (i := 1) (e := x1) (nx := 30) (r1 := 0) (r2 := 0) (r3 := 0) rfl rfl ?_
    refine wi_ireturn (nx := 31) (r1 := 0) (r2 := 0) (r3 := 0) rfl rfl ?_
    exact k x1 (by omega)
  ·
    refine wi_iload_n (i := 1) (e := x1) (nx := 11) (r1 := 0) (r2 := 0) (r3 := 0) rfl rfl ?_
    refine wi_iload_n (i := 0) (e := a0) (nx := 12) (r1 := 0) (r2 := 0) (r3 := 0) rfl rfl ?_
    refine wi_iload_n (i := 2) (e := x2) (nx := 13) (r1 := 0) (r2 := 0) (r3 := 0) rfl rfl ?_
    refine wi_iconst (n := 4) (nx := 14) (r1 := 0) (r2 := 0) (r3 := 0) rfl ?_
    refine wr_mul (nx := 15) (r1 := 0) (r2 := 0) (r3 := 0) rfl (fun e6 (fe6 : e6 = x2 * 4) => ?_)
    refine wr_ishrA (nx := 16) (r1 := 0) (r2 := 0) (r3 := 0) rfl (fun e7 (fe7 : -2147483648 ≤ e7 ∧ e7 ≤ 2147483647) => ?_)
    refine wi_bipush (n := 15) (nx := 18) (r1 := 0) (r2 := 0) (r3 := 0) rfl (by decide) ?_
    refine wi_iandm (m := 15) (nx := 19) (r1 := 0) (r2 := 0) (r3 := 0) rfl (by decide) (by decide) (fun e8 (fe8 : 0 ≤ e8 ∧ e8 ≤ 15) => ?_)
    refine wi_S (rest := []) (as := [vi x1, vi e8]) (nx := 22) (r1 := 355) (r2 := 18) (r3 := 0) rfl rfl rfl (of_decide_eq_true rfl) rfl rfl (of_decide_eq_true rfl) (of_decide_eq_true rfl) ?_
    refine wi_iload_n (i := 0) (e := x1) (nx := 1) (r1 := 0) (r2 := 0) (r3 := 0) rfl rfl ?_
    refine wi_iload_n (i := 1) (e := e8) (nx := 2) (r1 := 0) (r2 := 0) (r3 := 0) rfl rfl ?_
    refine wi_icmp (cd := .gt) (nx := 5) (r1 := 9) (r2 := 0) (r3 := 0) rfl (by omega) (by omega) (fun (q9 : e8 < x1) => ?_) (fun (q9 : ¬ (e8 < x1)) => ?_)
    ·
      refine wi_iload_n (i := 1) (e := e8) (nx := 10) (r1 := 0) (r2 := 0) (r3 := 0) rfl rfl ?_
      refine wi_ireturn (nx := 11) (r1 := 0) (r2 := 0) (r3 := 0) rfl rfl ?_
      refine wk_i ?_
      refine wi_istore_n (i := 1) (e := e8) (lo2 := [(1, vi e8), (0, vi a0), (2, vi x2)]) (nx := 23) (r1 := 0) (r2 := 0) (r3 := 0) rfl rfl ?_
      refine wr_iinc (i := 2) (n := 1) (v := x2) (fun e10 => [(2, vi e10), (1, vi e8), (0, vi a0)]) (nx := 26) (r1 := 0) (r2 := 0) (r3 := 0) rfl rfl (fun _ => rfl) (fun e10 (fe10 : e10 = x2 + 1) => ?_)
      refine wi_goto (nx := 29) (r1 := 5) (r2 := 0) (r3 := 0) rfl ?_
      refine wp.lo (lo := [(0, vi a0), (1, vi e8), (2, vi e10)]) ⟨rfl, rfl, rfl, trivial⟩ rfl ?_
      exact I3 e8 e10 h ⟨rfl, (show (0 ≤ e8 ∧ e8 ≤ 15) ∧ (0 ≤ e10 ∧ e10 ≤ 5) by omega)⟩ (show ((5 : Int) + 1 - e10).toNat < ((5 : Int) + 1 - x2).toNat by omega)
    ·
      refine wi_iload_n (i := 0) (e := x1) (nx := 6) (r1 := 0) (r2 := 0) (r3 := 0) rfl rfl ?_
      refine wi_goto (nx := 9) (r1 := 10) (r2 := 0) (r3 := 0) rfl ?_
      refine wi_ireturn (nx := 11) (r1 := 0) (r2 := 0) (r3 := 0) rfl rfl ?_
      refine wk_i ?_
      refine wi_istore_n (i := 1) (e := x1) (lo2 := [(1, vi x1), (0, vi a0), (2, vi x2)]) (nx := 23) (r1 := 0) (r2 := 0) (r3 := 0) rfl rfl ?_
      refine wr_iinc (i := 2) (n := 1) (v := x2) (fun e10 => [(2, vi e10), (1, vi x1), (0, vi a0)]) (nx := 26) (r1 := 0) (r2 := 0) (r3 := 0) rfl rfl (fun _ => rfl) (fun e10 (fe10 : e10 = x2 + 1) => ?_)
      refine wi_goto (nx := 29) (r1 := 5) (r2 := 0) (r3 := 0) rfl ?_
      refine wp.lo (lo := [(0, vi a0), (1, vi x1), (2, vi e10)]) ⟨rfl, rfl, rfl, trivial⟩ rfl ?_
      exact I3 x1 e10 h ⟨rfl, (show (0 ≤ x1 ∧ x1 ≤ 15) ∧ (0 ≤ e10 ∧ e10 ≤ 5) by omega)⟩ (show ((5 : Int) + 1 - e10).toNat < ((5 : Int) + 1 - x2).toNat by omega)
-- method 174: Exchange.waysFrom(II)I
set_option maxRecDepth 100000 in
set_option maxHeartbeats 100000000 in
theorem cr_174_63 {L : Nat} {xs : Nat → Int32} {b c : Nat} {cr : Nat → Nat → Option Nat} (hcr : CR cr) (n : Nat) : ∀ {d : Nat} {h : hp} {Q : hp_Q} (g : GI h) (a0 : Int) (a1 : Int) (q0_ : 0 ≤ a0 ∧ a0 ≤ 12) (q1_ : -2147483648 ≤ a1 ∧ a1 ≤ 2147483647)  (hn : 12 - a0 ≤ n) (k : ∀ (h2 : hp) (z0 : Int) , GI h2 → FR [(64, 64, none)] h h2 → (-2147483648 ≤ z0 ∧ z0 ≤ 2147483647) → Q (.inl (some (vi z0))) (hp_w h2 cr) b c), wp (md_xa (L, xs)) (d + 1 * n + 5) 174 (0, [(0, .ref 63), (1, vi a0), (2, vi a1)], [], hp_w h cr, b, c) Q := by
  induction n using Nat.strongRecOn with
  | _ n IH =>
  intro d h Q g a0 a1 q0_ q1_  hn k
  have F0 : FR [(64, 64, none)] h h := FR.refl
  refine wi_iload_n (i := 1) (e := a0) (nx := 1) (r1 := 0) (r2 := 0) (r3 := 0) rfl rfl ?_
  refine wi_aload_n (i := 0) (x := 63) (nx := 2) (r1 := 0) (r2 := 0) (r3 := 0) rfl rfl ?_
  have b1 := gi_b (lo := -12) (hi := 12) g 63 4 rfl
  refine wr_gi0 (k0 := 63) (x := h 63 4) (nx := 5) (r1 := 7) (r2 := 4) (r3 := 0) rfl rfl (by decide) rfl ⟨rfl, rfl⟩ rfl rfl ?_
  refine wi_icmp (cd := .ge) (nx := 8) (r1 := 21) (r2 := 0) (r3 := 0) rfl (by omega) (by omega) (fun (q2 : (h 63 4) ≤ a0) => ?_) (fun (q2 : ¬ ((h 63 4) ≤ a0)) => ?_)
  ·
    refine wi_iconst (n := 0) (nx := 22) (r1 := 0) (r2 := 0) (r3 := 0) rfl ?_
    refine wi_ireturn (nx := 23) (r1 := 0) (r2 := 0) (r3 := 0) rfl rfl ?_
    exact k h 0 g F0 (by omega)
  ·
    refine wi_iload_n (i := 2) (e := a1) (nx := 9) (r1 := 0) (r2 := 0) (r3 := 0) rfl rfl ?_
    refine wi_if (cd := .lt) (nx := 12) (r1 := 21) (r2 := 0) (r3 := 0) rfl (by omega) (fun (q3 : a1 < 0) => ?_) (fun (q3 : ¬ (a1 < 0)) => ?_)
    ·
      refine wi_iconst (n := 0) (nx := 22) (r1 := 0) (r2 := 0) (r3 := 0) rfl ?_
      refine wi_ireturn (nx := 23) (r1 := 0) (r2 := 0) (r3 := 0) rfl rfl ?_
      exact k h 0 g F0 (by omega)
    ·
      refine wi_iload_n (i := 2) (e := a1) (nx := 13) (r1 := 0) (r2 := 0) (r3 := 0) rfl rfl ?_
      refine wi_aload_n (i := 0) (x := 63) (nx := 14) (r1 := 0) (r2 := 0) (r3 := 0) rfl rfl ?_
      refine wr_gr (k0 := 63) (x := 64) (nx := 17) (r1 := 7) (r2 := 2) (r3 := 0) rfl rfl (by decide) rfl ⟨rfl, rfl⟩ rfl ?_
      refine wr_al (k0 := 64) (e := 4096) (nx := 18) (r1 := 0) (r2 := 0) (r3 := 0) rfl (by decide) rfl rfl ?_
      refine wi_icmp (cd := .lt) (nx := 21) (r1 := 23) (r2 := 0) (r3 := 0) rfl (by omega) (by omega) (fun (q4 : a1 < 4096) => ?_) (fun (q4 : ¬ (a1 < 4096)) => ?_)
      ·
        refine wi_aload_n (i := 0) (x := 63) (nx := 24) (r1 := 0) (r2 := 0) (r3 := 0) rfl rfl ?_
        refine wr_gr (k0 := 63) (x := 64) (nx := 27) (r1 := 7) (r2 := 2) (r3 := 0) rfl rfl (by decide) rfl ⟨rfl, rfl⟩ rfl ?_
        refine wi_iload_n (i := 2) (e := a1) (nx := 28) (r1 := 0) (r2 := 0) (r3 := 0) rfl rfl ?_
        obtain ⟨i5, ei5⟩ : ∃ q : Nat, a1 = (q : Int) := ⟨(a1).toNat, by omega⟩
        have b6 := gi_b (lo := -2147483648) (hi := 2147483647) g 64 i5 rfl
        refine wr_ia (k0 := 64) (a := a1) (f := i5) (x := h 64 i5) (nx := 29) (r1 := 0) (r2 := 0) (r3 := 0) rfl (by decide) rfl (by omega) (by omega) (by decide) rfl ?_
        refine wi_iconst (n := (-1)) (nx := 30) (r1 := 0) (r2 := 0) (r3 := 0) rfl ?_
        refine wi_icmp (cd := .eq) (nx := 33) (r1 := 40) (r2 := 0) (r3 := 0) rfl (by omega) (by omega) (fun (q7 : (h 64 i5) = (-1)) => ?_) (fun (q7 : ¬ ((h 64 i5) = (-1))) => ?_)
        ·
          refine wi_iconst (n := 0) (nx := 41) (r1 := 0) (r2 := 0) (r3 := 0) rfl ?_
          refine wi_istore_n (i := 3) (e := 0) (lo2 := [(3, vi 0), (0, .ref 63), (1, vi a0), (2, vi a1)]) (nx := 42) (r1 := 0) (r2 := 0) (r3 := 0) rfl rfl ?_
          refine wi_iconst (n := 0) (nx := 43) (r1 := 0) (r2 := 0) (r3 := 0) rfl ?_
          refine wi_istore (i := 4) (e := 0) (lo2 := [(4, vi 0), (3, vi 0), (0, .ref 63), (1, vi a0), (2, vi a1)]) (nx := 45) (r1 := 0) (r2 := 0) (r3 := 0) rfl rfl ?_
          refine wp.lo (lo := [(0, .ref 63), (1, vi a0), (2, vi a1), (3, vi 0), (4, vi 0)]) ⟨rfl, rfl, rfl, rfl, rfl, trivial⟩ rfl ?_
          refine wl_2 (fun x8 x9 h10 => GI h10 ∧ FR [(64, 64, none)] h h10 ∧ FR [(64, 64, none)] h h10 ∧ ((-2147483648 ≤ x8 ∧ x8 ≤ 2147483647) ∧ (0 ≤ x9 ∧ x9 ≤ 5))) (fun x8 x9 h10 => ((5 : Int) + 1 - x9).toNat) (fun x8 x9 h10 => (45, [(0, .ref 63), (1, vi a0), (2, vi a1), (3, vi x8), (4, vi x9)], [], hp_w h10 cr, b, c)) ?_ 0 0 h ⟨g, F0, FR.refl, (show (-2147483648 ≤ 0 ∧ 0 ≤ 2147483647) ∧ (0 ≤ 0 ∧ 0 ≤ 5) by omega)⟩
          intro x8 x9 h10 ⟨g10, F11, u10, f10⟩ I10
          refine wi_iload (i := 4) (e := x9) (nx := 47) (r1 := 0) (r2 := 0) (r3 := 0) rfl rfl ?_
          refine wi_iconst (n := 5) (nx := 48) (r1 := 0) (r2 := 0) (r3 := 0) rfl ?_
          refine wi_icmp (cd := .ge) (nx := 51) (r1 := 121) (r2 := 0) (r3 := 0) rfl (by omega) (by omega) (fun (q12 : 5 ≤ x9) => ?_) (fun (q12 : ¬ (5 ≤ x9)) => ?_)
          ·
            refine wi_aload_n (i := 0) (x := 63) (nx := 122) (r1 := 0) (r2 := 0) (r3 := 0) rfl rfl ?_
            refine wr_gr (k0 := 63) (x := 64) (nx := 125) (r1 := 7) (r2 := 2) (r3 := 0) rfl rfl (by decide) rfl ⟨rfl, rfl⟩ rfl ?_
            refine wi_iload_n (i := 2) (e := a1) (nx := 126) (r1 := 0) (r2 := 0) (r3 := 0) rfl rfl ?_
            refine wi_iload_n (i := 3) (e := x8) (nx := 127) (r1 := 0) (r2 := 0) (r3 := 0) rfl rfl ?_
            refine wr_is (k0 := 64) (a := a1) (f := i5) (x := x8) (bl := -2147483648) (bh := 2147483647) (nx := 128) (r1 := 0) (r2 := 0) (r3 := 0) rfl (by decide) rfl (by omega) (by omega) (by decide) g10 rfl (by omega) (fun h13 g13 w13 u13 => ?_)
            have F14 := F11.then rfl (FR.rngp (lo := 64) (hi := 64) u13 (by decide))
            refine wi_iload_n (i := 3) (e := x8) (nx := 129) (r1 := 0) (r2 := 0) (r3 := 0) rfl rfl ?_
            refine wi_ireturn (nx := 130) (r1 := 0) (r2 := 0) (r3 := 0) rfl rfl ?_
            exact k h13 x8 g13 F14 (by omega)
          ·
            refine wi_aload_n (i := 0) (x := 63) (nx := 52) (r1 := 0) (r2 := 0) (r3 := 0) rfl rfl ?_
            refine wi_iload (i := 4) (e := x9) (nx := 54) (r1 := 0) (r2 := 0) (r3 := 0) rfl rfl ?_
            refine wi_iload_n (i := 1) (e := a0) (nx := 55) (r1 := 0) (r2 := 0) (r3 := 0) rfl rfl ?_
            refine wi_iload_n (i := 2) (e := a1) (nx := 56) (r1 := 0) (r2 := 0) (r3 := 0) rfl rfl ?_
            refine wr_V (k0 := 63) (rest := []) (as := [.ref 63, vi x9, vi a0, vi a1]) (nx := 59) (r1 := 175) (r2 := 3) (r3 := 7) rfl rfl rfl (of_decide_eq_true rfl) rfl rfl (by decide) rfl rfl (of_decide_eq_true rfl) (of_decide_eq_true rfl) ?_
            refine ct_175_63 hcr  g10 x9 a0 a1 (by omega) (by omega) (by omega)  (fun z14  (fz14 : -1 ≤ z14 ∧ z14 ≤ 63) => ?_)
            refine wk_i ?_
            refine wi_istore (i := 5) (e := z14) (lo2 := [(5, vi z14), (0, .ref 63), (1, vi a0), (2, vi a1), (3, vi x8), (4, vi x9)]) (nx := 61) (r1 := 0) (r2 := 0) (r3 := 0) rfl rfl ?_
            refine wi_bipush (n := 15) (nx := 63) (r1 := 0) (r2 := 0) (r3 := 0) rfl (by decide) ?_
            refine wi_istore (i := 6) (e := 15) (lo2 := [(6, vi 15), (5, vi z14), (0, .ref 63), (1, vi a0), (2, vi a1), (3, vi x8), (4, vi x9)]) (nx := 65) (r1 := 0) (r2 := 0) (r3 := 0) rfl rfl ?_
            refine wi_iload (i := 5) (e := z14) (nx := 67) (r1 := 0) (r2 := 0) (r3 := 0) rfl rfl ?_
            refine wi_iconst (n := (-1)) (nx := 68) (r1 := 0) (r2 := 0) (r3 := 0) rfl ?_
            refine wi_icmp (cd := .eq) (nx := 71) (r1 := 105) (r2 := 0) (r3 := 0) rfl (by omega) (by omega) (fun (q15 : z14 = (-1)) => ?_) (fun (q15 : ¬ (z14 = (-1))) => ?_)
            ·
              refine wi_iload_n (i := 3) (e := x8) (nx := 106) (r1 := 0) (r2 := 0) (r3 := 0) rfl rfl ?_
              refine wi_iload (i := 6) (e := 15) (nx := 108) (r1 := 0) (r2 := 0) (r3 := 0) rfl rfl ?_
              refine wi_iload (i := 4) (e := x9) (nx := 110) (r1 := 0) (r2 := 0) (r3 := 0) rfl rfl ?_
              refine wi_iconst (n := 4) (nx := 111) (r1 := 0) (r2 := 0) (r3 := 0) rfl ?_
              refine wr_mul (nx := 112) (r1 := 0) (r2 := 0) (r3 := 0) rfl (fun e16 (fe16 : e16 = x9 * 4) => ?_)
              refine wr_ishlA (nx := 113) (r1 := 0) (r2 := 0) (r3 := 0) rfl (fun e17 (fe17 : -2147483648 ≤ e17 ∧ e17 ≤ 2147483647) => ?_)
              refine wr_iorA (nx := 114) (r1 := 0) (r2 := 0) (r3 := 0) rfl (fun e18 (fe18 : -2147483648 ≤ e18 ∧ e18 ≤ 2147483647) => ?_)
              refine wi_istore_n (i := 3) (e := e18) (lo2 := [(3, vi e18), (6, vi 15), (5, vi z14), (0, .ref 63), (1, vi a0), (2, vi a1), (4, vi x9)]) (nx := 115) (r1 := 0) (r2 := 0) (r3 := 0) rfl rfl ?_
              refine wr_iinc (i := 4) (n := 1) (v := x9) (fun e19 => [(4, vi e19), (3, vi e18), (6, vi 15), (5, vi z14), (0, .ref 63), (1, vi a0), (2, vi a1)]) (nx := 118) (r1 := 0) (r2 := 0) (r3 := 0) rfl rfl (fun _ => rfl) (fun e19 (fe19 : e19 = x9 + 1) => ?_)
              refine wi_goto (nx := 121) (r1 := 45) (r2 := 0) (r3 := 0) rfl ?_
              refine wp.lo (lo := [(0, .ref 63), (1, vi a0), (2, vi a1), (3, vi e18), (4, vi e19)]) ⟨rfl, rfl, rfl, rfl, rfl, trivial⟩ rfl ?_
              exact I10 e18 e19 h10 ⟨g10, F11, u10, (show (-2147483648 ≤ e18 ∧ e18 ≤ 2147483647) ∧ (0 ≤ e19 ∧ e19 ≤ 5) by omega)⟩ (show ((5 : Int) + 1 - e19).toNat < ((5 : Int) + 1 - x9).toNat by omega)
            ·
              refine wi_aload_n (i := 0) (x := 63) (nx := 72) (r1 := 0) (r2 := 0) (r3 := 0) rfl rfl ?_
              refine wi_iload_n (i := 1) (e := a0) (nx := 73) (r1 := 0) (r2 := 0) (r3 := 0) rfl rfl ?_
              refine wi_iconst (n := 1) (nx := 74) (r1 := 0) (r2 := 0) (r3 := 0) rfl ?_
              refine wr_add (nx := 75) (r1 := 0) (r2 := 0) (r3 := 0) rfl (fun e16 (fe16 : e16 = a0 + 1) => ?_)
              refine wi_iload_n (i := 2) (e := a1) (nx := 76) (r1 := 0) (r2 := 0) (r3 := 0) rfl rfl ?_
              refine wi_iconst (n := 1) (nx := 77) (r1 := 0) (r2 := 0) (r3 := 0) rfl ?_
              refine wi_iload (i := 5) (e := z14) (nx := 79) (r1 := 0) (r2 := 0) (r3 := 0) rfl rfl ?_
              refine wr_ishlA (nx := 80) (r1 := 0) (r2 := 0) (r3 := 0) rfl (fun e17 (fe17 : -2147483648 ≤ e17 ∧ e17 ≤ 2147483647) => ?_)
              refine wr_iorA (nx := 81) (r1 := 0) (r2 := 0) (r3 := 0) rfl (fun e18 (fe18 : -2147483648 ≤ e18 ∧ e18 ≤ 2147483647) => ?_)
              refine wr_V (k0 := 63) (rest := []) (as := [.ref 63, vi e16, vi e18]) (nx := 84) (r1 := 174) (r2 := 2) (r3 := 7) rfl rfl rfl (of_decide_eq_true rfl) rfl rfl (by decide) rfl rfl (of_decide_eq_true rfl) (of_decide_eq_true rfl) ?_
              refine wp_eq (e := d + 1 * (n - 1) + 5) (by omega) ?_
              refine IH (n - 1) (by omega) g10 e16 e18 (by omega) (by omega)  (by omega) (fun h19 z20 g19 u19 (fz20 : -2147483648 ≤ z20 ∧ z20 ≤ 2147483647) => ?_)
              have F21 := F11.then (by decide +kernel) u19
              have F22 := u10.then (by decide +kernel) u19
              refine wk_i ?_
              refine wi_istore (i := 7) (e := z20) (lo2 := [(7, vi z20), (6, vi 15), (5, vi z14), (0, .ref 63), (1, vi a0), (2, vi a1), (3, vi x8), (4, vi x9)]) (nx := 86) (r1 := 0) (r2 := 0) (r3 := 0) rfl rfl ?_
              refine wi_iload (i := 7) (e := z20) (nx := 88) (r1 := 0) (r2 := 0) (r3 := 0) rfl rfl ?_
              refine wi_iload (i := 4) (e := x9) (nx := 90) (r1 := 0) (r2 := 0) (r3 := 0) rfl rfl ?_
              refine wi_S (rest := []) (as := [vi z20, vi x9]) (nx := 93) (r1 := 176) (r2 := 18) (r3 := 0) rfl rfl rfl (of_decide_eq_true rfl) rfl rfl (of_decide_eq_true rfl) (of_decide_eq_true rfl) ?_
              refine ct_176 hcr  g19 z20 x9 (by omega) (by omega)  (fun z24  (fz24 : 0 ≤ z24 ∧ z24 ≤ 15) => ?_)
              refine wk_i ?_
              refine wi_iload (i := 7) (e := z20) (nx := 95) (r1 := 0) (r2 := 0) (r3 := 0) rfl rfl ?_
              refine wi_S (rest := [vi z24]) (as := [vi z20]) (nx := 98) (r1 := 177) (r2 := 17) (r3 := 0) rfl rfl rfl (of_decide_eq_true rfl) rfl rfl (of_decide_eq_true rfl) (of_decide_eq_true rfl) ?_
              refine ct_177 hcr  g19 z20 (by omega)  (fun z26  (fz26 : 0 ≤ z26 ∧ z26 ≤ 15) => ?_)
              refine wk_i ?_
              refine wi_iconst (n := 1) (nx := 99) (r1 := 0) (r2 := 0) (r3 := 0) rfl ?_
              refine wr_add (nx := 100) (r1 := 0) (r2 := 0) (r3 := 0) rfl (fun e27 (fe27 : e27 = z26 + 1) => ?_)
              refine wi_S (rest := []) (as := [vi z24, vi e27]) (nx := 103) (r1 := 355) (r2 := 18) (r3 := 0) rfl rfl rfl (of_decide_eq_true rfl) rfl rfl (of_decide_eq_true rfl) (of_decide_eq_true rfl) ?_
              refine wi_iload_n (i := 0) (e := z24) (nx := 1) (r1 := 0) (r2 := 0) (r3 := 0) rfl rfl ?_
              refine wi_iload_n (i := 1) (e := e27) (nx := 2) (r1 := 0) (r2 := 0) (r3 := 0) rfl rfl ?_
              refine wi_icmp (cd := .gt) (nx := 5) (r1 := 9) (r2 := 0) (r3 := 0) rfl (by omega) (by omega) (fun (q28 : e27 < z24) => ?_) (fun (q28 : ¬ (e27 < z24)) => ?_)
              ·
                refine wi_iload_n (i := 1) (e := e27) (nx := 10) (r1 := 0) (r2 := 0) (r3 := 0) rfl rfl ?_
                refine wi_ireturn (nx := 11) (r1 := 0) (r2 := 0) (r3 := 0) rfl rfl ?_
                refine wk_i ?_
                refine wi_istore (i := 6) (e := e27) (lo2 := [(6, vi e27), (7, vi z20), (5, vi z14), (0, .ref 63), (1, vi a0), (2, vi a1), (3, vi x8), (4, vi x9)]) (nx := 105) (r1 := 0) (r2 := 0) (r3 := 0) rfl rfl ?_
                refine wi_iload_n (i := 3) (e := x8) (nx := 106) (r1 := 0) (r2 := 0) (r3 := 0) rfl rfl ?_
                refine wi_iload (i := 6) (e := e27) (nx := 108) (r1 := 0) (r2 := 0) (r3 := 0) rfl rfl ?_
                refine wi_iload (i := 4) (e := x9) (nx := 110) (r1 := 0) (r2 := 0) (r3 := 0) rfl rfl ?_
                refine wi_iconst (n := 4) (nx := 111) (r1 := 0) (r2 := 0) (r3 := 0) rfl ?_
                refine wr_mul (nx := 112) (r1 := 0) (r2 := 0) (r3 := 0) rfl (fun e29 (fe29 : e29 = x9 * 4) => ?_)
                refine wr_ishlA (nx := 113) (r1 := 0) (r2 := 0) (r3 := 0) rfl (fun e30 (fe30 : -2147483648 ≤ e30 ∧ e30 ≤ 2147483647) => ?_)
                refine wr_iorA (nx := 114) (r1 := 0) (r2 := 0) (r3 := 0) rfl (fun e31 (fe31 : -2147483648 ≤ e31 ∧ e31 ≤ 2147483647) => ?_)
                refine wi_istore_n (i := 3) (e := e31) (lo2 := [(3, vi e31), (6, vi e27), (7, vi z20), (5, vi z14), (0, .ref 63), (1, vi a0), (2, vi a1), (4, vi x9)]) (nx := 115) (r1 := 0) (r2 := 0) (r3 := 0) rfl rfl ?_
                refine wr_iinc (i := 4) (n := 1) (v := x9) (fun e32 => [(4, vi e32), (3, vi e31), (6, vi e27), (7, vi z20), (5, vi z14), (0, .ref 63), (1, vi a0), (2, vi a1)]) (nx := 118) (r1 := 0) (r2 := 0) (r3 := 0) rfl rfl (fun _ => rfl) (fun e32 (fe32 : e32 = x9 + 1) => ?_)
                refine wi_goto (nx := 121) (r1 := 45) (r2 := 0) (r3 := 0) rfl ?_
                refine wp.lo (lo := [(0, .ref 63), (1, vi a0), (2, vi a1), (3, vi e31), (4, vi e32)]) ⟨rfl, rfl, rfl, rfl, rfl, trivial⟩ rfl ?_
                exact I10 e31 e32 h19 ⟨g19, F21, F22, (show (-2147483648 ≤ e31 ∧ e31 ≤ 2147483647) ∧ (0 ≤ e32 ∧ e32 ≤ 5) by omega)⟩ (show ((5 : Int) + 1 - e32).toNat < ((5 : Int) + 1 - x9).toNat by omega)
              ·
                refine wi_iload_n (i := 0) (e := z24) (nx := 6) (r1 := 0) (r2 := 0) (r3 := 0) rfl rfl ?_
                refine wi_goto (nx := 9) (r1 := 10) (r2 := 0) (r3 := 0) rfl ?_
                refine wi_ireturn (nx := 11) (r1 := 0) (r2 := 0) (r3 := 0) rfl rfl ?_
                refine wk_i ?_
                refine wi_istore (i := 6) (e := z24) (lo2 := [(6, vi z24), (7, vi z20), (5, vi z14), (0, .ref 63), (1, vi a0), (2, vi a1), (3, vi x8), (4, vi x9)]) (nx := 105) (r1 := 0) (r2 := 0) (r3 := 0) rfl rfl ?_
                refine wi_iload_n (i := 3) (e := x8) (nx := 106) (r1 := 0) (r2 := 0) (r3 := 0) rfl rfl ?_
                refine wi_iload (i := 6) (e := z24) (nx := 108) (r1 := 0) (r2 := 0) (r3 := 0) rfl rfl ?_
                refine wi_iload (i := 4) (e := x9) (nx := 110) (r1 := 0) (r2 := 0) (r3 := 0) rfl rfl ?_
                refine wi_iconst (n := 4) (nx := 111) (r1 := 0) (r2 := 0) (r3 := 0) rfl ?_
                refine wr_mul (nx := 112) (r1 := 0) (r2 := 0) (r3 := 0) rfl (fun e29 (fe29 : e29 = x9 * 4) => ?_)
                refine wr_ishlA (nx := 113) (r1 := 0) (r2 := 0) (r3 := 0) rfl (fun e30 (fe30 : -2147483648 ≤ e30 ∧ e30 ≤ 2147483647) => ?_)
                refine wr_iorA (nx := 114) (r1 := 0) (r2 := 0) (r3 := 0) rfl (fun e31 (fe31 : -2147483648 ≤ e31 ∧ e31 ≤ 2147483647) => ?_)
                refine wi_istore_n (i := 3) (e := e31) (lo2 := [(3, vi e31), (6, vi z24), (7, vi z20), (5, vi z14), (0, .ref 63), (1, vi a0), (2, vi a1), (4, vi x9)]) (nx := 115) (r1 := 0) (r2 := 0) (r3 := 0) rfl rfl ?_
                refine wr_iinc (i := 4) (n := 1) (v := x9) (fun e32 => [(4, vi e32), (3, vi e31), (6, vi z24), (7, vi z20), (5, vi z14), (0, .ref 63), (1, vi a0), (2, vi a1)]) (nx := 118) (r1 := 0) (r2 := 0) (r3 := 0) rfl rfl (fun _ => rfl) (fun e32 (fe32 : e32 = x9 + 1) => ?_)
                refine wi_goto (nx := 121) (r1 := 45) (r2 := 0) (r3 := 0) rfl ?_
                refine wp.lo (lo := [(0, .ref 63), (1, vi a0), (2, vi a1), (3, vi e31), (4, vi e32)]) ⟨rfl, rfl, rfl, rfl, rfl, trivial⟩ rfl ?_
                exact I10 e31 e32 h19 ⟨g19, F21, F22, (show (-2147483648 ≤ e31 ∧ e31 ≤ 2147483647) ∧ (0 ≤ e32 ∧ e32 ≤ 5) by omega)⟩ (show ((5 : Int) + 1 - e32).toNat < ((5 : Int) + 1 - x9).toNat by omega)
        ·
          refine wi_aload_n (i := 0) (x := 63) (nx := 34) (r1 := 0) (r2 := 0) (r3 := 0) rfl rfl ?_
          refine wr_gr (k0 := 63) (x := 64) (nx := 37) (r1 := 7) (r2 := 2) (r3 := 0) rfl rfl (by decide) rfl ⟨rfl, rfl⟩ rfl ?_
          refine wi_iload_n (i := 2) (e := a1) (nx := 38) (r1 := 0) (r2 := 0) (r3 := 0) rfl rfl ?_
          refine wr_ia (k0 := 64) (a := a1) (f := i5) (x := h 64 i5) (nx := 39) (r1 := 0) (r2 := 0) (r3 := 0) rfl (by decide) rfl (by omega) (by omega) (by decide) rfl ?_
          refine wi_ireturn (nx := 40) (r1 := 0) (r2 := 0) (r3 := 0) rfl rfl ?_
          exact k h (h 64 i5) g F0 (by omega)
      ·
        refine wi_iconst (n := 0) (nx := 22) (r1 := 0) (r2 := 0) (r3 := 0) rfl ?_
        refine wi_ireturn (nx := 23) (r1 := 0) (r2 := 0) (r3 := 0) rfl rfl ?_
        exact k h 0 g F0 (by omega)
theorem ct_174_63 {L : Nat} {xs : Nat → Int32} {d b c : Nat} {h : hp} {cr : Nat → Nat → Option Nat} {Q : hp_Q} (hcr : CR cr) (g : GI h) (a0 : Int) (a1 : Int) (q0_ : 0 ≤ a0 ∧ a0 ≤ 12) (q1_ : -2147483648 ≤ a1 ∧ a1 ≤ 2147483647)  (k : ∀ (h2 : hp) (z0 : Int) , GI h2 → FR [(64, 64, none)] h h2 → (-2147483648 ≤ z0 ∧ z0 ≤ 2147483647) → Q (.inl (some (vi z0))) (hp_w h2 cr) b c) : wp (md_xa (L, xs)) (d + 17) 174 (0, [(0, .ref 63), (1, vi a0), (2, vi a1)], [], hp_w h cr, b, c) Q := cr_174_63 hcr 12 g a0 a1 q0_ q1_  (by omega) k
-- method 179: Exchange.lowestColor(III)I
set_option maxRecDepth 100000 in
set_option maxHeartbeats 100000000 in
theorem ct_179 {L : Nat} {xs : Nat → Int32} {d b c : Nat} {h : hp} {cr : Nat → Nat → Option Nat} {Q : hp_Q} (hcr : CR cr)  (g : GI h) (a0 : Int) (a1 : Int) (a2 : Int) (q0_ : -2147483648 ≤ a0 ∧ a0 ≤ 2147483647) (q1_ : -2147483648 ≤ a1 ∧ a1 ≤ 2147483647) (q2_ : -2147483648 ≤ a2 ∧ a2 ≤ 2147483647)  (k : ∀ (z0 : Int), (-1 ≤ z0 ∧ z0 ≤ 4) → Q (.inl (some (vi z0))) (hp_w h cr) b c) : wp (md_xa (L, xs)) (d + 1) 179 (0, [(0, vi a0), (1, vi a1), (2, vi a2)], [], hp_w h cr, b, c) Q := by
  have F0 : FR [] h h := FR.refl
  refine wi_iconst (n := 0) (nx := 1) (r1 := 0) (r2 := 0) (r3 := 0) rfl ?_
  refine wi_istore_n (i := 3) (e := 0) (lo2 := [(3, vi 0), (0, vi a0), (1, vi a1), (2, vi a2)]) (nx := 2) (r1 := 0) (r2 := 0) (r3 := 0) rfl rfl ?_
  refine wp.lo (lo := [(0, vi a0), (1, vi a1), (2, vi a2), (3, vi 0)]) ⟨rfl, rfl, rfl, rfl, trivial⟩ rfl ?_
  refine wl_1 (fun x1 h2 => h = h2 ∧ ((0 ≤ x1 ∧ x1 ≤ 5))) (fun x1 h2 => ((5 : Int) + 1 - x1).toNat) (fun x1 h2 => (2, [(0, vi a0), (1, vi a1), (2, vi a2), (3, vi x1)], [], hp_w h2 cr, b, c)) ?_ 0 h ⟨rfl, (show (0 ≤ 0 ∧ 0 ≤ 5) by omega)⟩
  intro x1 h2 ⟨e2, f2⟩ I2
  subst e2
  refine wi_iload_n (i := 3) (e := x1) (nx := 3) (r1 := 0) (r2 := 0) (r3 := 0) rfl rfl ?_
  refine wi_iconst (n := 5) (nx := 4) (r1 := 0) (r2 := 0) (r3 := 0) rfl ?_
  refine wi_icmp (cd := .ge) (nx := 7) (r1 := 44) (r2 := 0) (r3 := 0) rfl (by omega) (by omega) (fun (q4 : 5 ≤ x1) => ?_) (fun (q4 : ¬ (5 ≤ x1)) => ?_)
  ·
    refine wi_iconst (n := (-1)) (nx := 45) (r1 := 0) (r2 := 0) (r3 := 0) rfl ?_
    refine wi_ireturn (nx := 46) (r1 := 0) (r2 := 0) (r3 := 0) rfl rfl ?_
    exact k (-1) (by omega)
  ·
    refine wi_iload_n (i := 1) (e := a1) (nx := 8) (r1 := 0) (r2 := 0) (r3 := 0) rfl rfl ?_
    refine wi_iconst (n := (-1)) (nx := 9) (r1 := 0) (r2 := 0) (r3 := 0) rfl ?_
    refine wi_icmp (cd := .eq) (nx := 12) (r1 := 17) (r2 := 0) (r3 := 0) rfl (by omega) (by omega) (fun (q5 : a1 = (-1)) => ?_) (fun (q5 : ¬ (a1 = (-1))) => ?_)
    ·
      refine wi_iconst (n := 0) (nx := 18) (r1 := 0) (r2 := 0) (r3 := 0) rfl ?_
      refine wi_goto (nx := 21) (r1 := 22) (r2 := 0) (r3 := 0) rfl ?_
      refine wi_istore (i := 4) (e := 0) (lo2 := [(4, vi 0), (0, vi a0), (1, vi a1), (2, vi a2), (3, vi x1)]) (nx := 24) (r1 := 0) (r2 := 0) (r3 := 0) rfl rfl ?_
      refine wi_iload_n (i := 0) (e := a0) (nx := 25) (r1 := 0) (r2 := 0) (r3 := 0) rfl rfl ?_
      refine wi_iload_n (i := 3) (e := x1) (nx := 26) (r1 := 0) (r2 := 0) (r3 := 0) rfl rfl ?_
      refine wi_S (rest := []) (as := [vi a0, vi x1]) (nx := 29) (r1 := 176) (r2 := 18) (r3 := 0) rfl rfl rfl (of_decide_eq_true rfl) rfl rfl (of_decide_eq_true rfl) (of_decide_eq_true rfl) ?_
      refine ct_176 hcr  g a0 x1 (by omega) (by omega)  (fun z7  (fz7 : 0 ≤ z7 ∧ z7 ≤ 15) => ?_)
      refine wk_i ?_
      refine wi_iload (i := 4) (e := 0) (nx := 31) (r1 := 0) (r2 := 0) (r3 := 0) rfl rfl ?_
      refine wr_add (nx := 32) (r1 := 0) (r2 := 0) (r3 := 0) rfl (fun e8 (fe8 : e8 = z7 + 0) => ?_)
      refine wi_iload_n (i := 2) (e := a2) (nx := 33) (r1 := 0) (r2 := 0) (r3 := 0) rfl rfl ?_
      refine wi_icmp (cd := .ne) (nx := 36) (r1 := 38) (r2 := 0) (r3 := 0) rfl (by omega) (by omega) (fun (q9 : e8 ≠ a2) => ?_) (fun (q9 : ¬ (e8 ≠ a2)) => ?_)
      ·
        refine wr_iinc (i := 3) (n := 1) (v := x1) (fun e10 => [(3, vi e10), (4, vi 0), (0, vi a0), (1, vi a1), (2, vi a2)]) (nx := 41) (r1 := 0) (r2 := 0) (r3 := 0) rfl rfl (fun _ => rfl) (fun e10 (fe10 : e10 = x1 + 1) => ?_)
        refine wi_goto (nx := 44) (r1 := 2) (r2 := 0) (r3 := 0) rfl ?_
        refine wp.lo (lo := [(0, vi a0), (1, vi a1), (2, vi a2), (3, vi e10)]) ⟨rfl, rfl, rfl, rfl, trivial⟩ rfl ?_
        exact I2 e10 h ⟨rfl, (show (0 ≤ e10 ∧ e10 ≤ 5) by omega)⟩ (show ((5 : Int) + 1 - e10).toNat < ((5 : Int) + 1 - x1).toNat by omega)
      ·
        refine wi_iload_n (i := 3) (e := x1) (nx := 37) (r1 := 0) (r2 := 0) (r3 := 0) rfl rfl ?_
        refine wi_ireturn (nx := 38) (r1 := 0) (r2 := 0) (r3 := 0) rfl rfl ?_
        exact k x1 (by omega)
    ·
      refine wi_iload_n (i := 1) (e := a1) (nx := 13) (r1 := 0) (r2 := 0) (r3 := 0) rfl rfl ?_
      refine wi_iload_n (i := 3) (e := x1) (nx := 14) (r1 := 0) (r2 := 0) (r3 := 0) rfl rfl ?_
      refine wi_icmp (cd := .ne) (nx := 17) (r1 := 21) (r2 := 0) (r3 := 0) rfl (by omega) (by omega) (fun (q6 : a1 ≠ x1) => ?_) (fun (q6 : ¬ (a1 ≠ x1)) => ?_)
      ·
        refine wi_iconst (n := 1) (nx := 22) (r1 := 0) (r2 := 0) (r3 := 0) rfl ?_
        refine wi_istore (i := 4) (e := 1) (lo2 := [(4, vi 1), (0, vi a0), (1, vi a1), (2, vi a2), (3, vi x1)]) (nx := 24) (r1 := 0) (r2 := 0) (r3 := 0) rfl rfl ?_
        refine wi_iload_n (i := 0) (e := a0) (nx := 25) (r1 := 0) (r2 := 0) (r3 := 0) rfl rfl ?_
        refine wi_iload_n (i := 3) (e := x1) (nx := 26) (r1 := 0) (r2 := 0) (r3 := 0) rfl rfl ?_
        refine wi_S (rest := []) (as := [vi a0, vi x1]) (nx := 29) (r1 := 176) (r2 := 18) (r3 := 0) rfl rfl rfl (of_decide_eq_true rfl) rfl rfl (of_decide_eq_true rfl) (of_decide_eq_true rfl) ?_
        refine ct_176 hcr  g a0 x1 (by omega) (by omega)  (fun z8  (fz8 : 0 ≤ z8 ∧ z8 ≤ 15) => ?_)
        refine wk_i ?_
        refine wi_iload (i := 4) (e := 1) (nx := 31) (r1 := 0) (r2 := 0) (r3 := 0) rfl rfl ?_
        refine wr_add (nx := 32) (r1 := 0) (r2 := 0) (r3 := 0) rfl (fun e9 (fe9 : e9 = z8 + 1) => ?_)
        refine wi_iload_n (i := 2) (e := a2) (nx := 33) (r1 := 0) (r2 := 0) (r3 := 0) rfl rfl ?_
        refine wi_icmp (cd := .ne) (nx := 36) (r1 := 38) (r2 := 0) (r3 := 0) rfl (by omega) (by omega) (fun (q10 : e9 ≠ a2) => ?_) (fun (q10 : ¬ (e9 ≠ a2)) => ?_)
        ·
          refine wr_iinc (i := 3) (n := 1) (v := x1) (fun e11 => [(3, vi e11), (4, vi 1), (0, vi a0), (1, vi a1), (2, vi a2)]) (nx := 41) (r1 := 0) (r2 := 0) (r3 := 0) rfl rfl (fun _ => rfl) (fun e11 (fe11 : e11 = x1 + 1) => ?_)
          refine wi_goto (nx := 44) (r1 := 2) (r2 := 0) (r3 := 0) rfl ?_
          refine wp.lo (lo := [(0, vi a0), (1, vi a1), (2, vi a2), (3, vi e11)]) ⟨rfl, rfl, rfl, rfl, trivial⟩ rfl ?_
          exact I2 e11 h ⟨rfl, (show (0 ≤ e11 ∧ e11 ≤ 5) by omega)⟩ (show ((5 : Int) + 1 - e11).toNat < ((5 : Int) + 1 - x1).toNat by omega)
        ·
          refine wi_iload_n (i := 3) (e := x1) (nx := 37) (r1 := 0) (r2 := 0) (r3 := 0) rfl rfl ?_
          refine wi_ireturn (nx := 38) (r1 := 0) (r2 := 0) (r3 := 0) rfl rfl ?_
          exact k x1 (by omega)
      ·
        refine wi_iconst (n := 0) (nx := 18) (r1 := 0) (r2 := 0) (r3 := 0) rfl ?_
        refine wi_goto (nx := 21) (r1 := 22) (r2 := 0) (r3 := 0) rfl ?_
        refine wi_istore (i := 4) (e := 0) (lo2 := [(4, vi 0), (0, vi a0), (1, vi a1), (2, vi a2), (3, vi x1)]) (nx := 24) (r1 := 0) (r2 := 0) (r3 := 0) rfl rfl ?_
        refine wi_iload_n (i := 0) (e := a0) (nx := 25) (r1 := 0) (r2 := 0) (r3 := 0) rfl rfl ?_
        refine wi_iload_n (i := 3) (e := x1) (nx := 26) (r1 := 0) (r2 := 0) (r3 := 0) rfl rfl ?_
        refine wi_S (rest := []) (as := [vi a0, vi x1]) (nx := 29) (r1 := 176) (r2 := 18) (r3 := 0) rfl rfl rfl (of_decide_eq_true rfl) rfl rfl (of_decide_eq_true rfl) (of_decide_eq_true rfl) ?_
        refine ct_176 hcr  g a0 x1 (by omega) (by omega)  (fun z8  (fz8 : 0 ≤ z8 ∧ z8 ≤ 15) => ?_)
        refine wk_i ?_
        refine wi_iload (i := 4) (e := 0) (nx := 31) (r1 := 0) (r2 := 0) (r3 := 0) rfl rfl ?_
        refine wr_add (nx := 32) (r1 := 0) (r2 := 0) (r3 := 0) rfl (fun e9 (fe9 : e9 = z8 + 0) => ?_)
        refine wi_iload_n (i := 2) (e := a2) (nx := 33) (r1 := 0) (r2 := 0) (r3 := 0) rfl rfl ?_
        refine wi_icmp (cd := .ne) (nx := 36) (r1 := 38) (r2 := 0) (r3 := 0) rfl (by omega) (by omega) (fun (q10 : e9 ≠ a2) => ?_) (fun (q10 : ¬ (e9 ≠ a2)) => ?_)
        ·
          refine wr_iinc (i := 3) (n := 1) (v := x1) (fun e11 => [(3, vi e11), (4, vi 0), (0, vi a0), (1, vi a1), (2, vi a2)]) (nx := 41) (r1 := 0) (r2 := 0) (r3 := 0) rfl rfl (fun _ => rfl) (fun e11 (fe11 : e11 = x1 + 1) => ?_)
          refine wi_goto (nx := 44) (r1 := 2) (r2 := 0) (r3 := 0) rfl ?_
          refine wp.lo (lo := [(0, vi a0), (1, vi a1), (2, vi a2), (3, vi e11)]) ⟨rfl, rfl, rfl, rfl, trivial⟩ rfl ?_
          exact I2 e11 h ⟨rfl, (show (0 ≤ e11 ∧ e11 ≤ 5) by omega)⟩ (show ((5 : Int) + 1 - e11).toNat < ((5 : Int) + 1 - x1).toNat by omega)
        ·
          refine wi_iload_n (i := 3) (e := x1) (nx := 37) (r1 := 0) (r2 := 0) (r3 := 0) rfl rfl ?_
          refine wi_ireturn (nx := 38) (r1 := 0) (r2 := 0) (r3 := 0) rfl rfl ?_
          exact k x1 (by omega)
-- method 178: Exchange.collectColors()V
set_option maxRecDepth 100000 in
set_option maxHeartbeats 100000000 in
theorem ct_178_63 {L : Nat} {xs : Nat → Int32} {d b c : Nat} {h : hp} {cr : Nat → Nat → Option Nat} {Q : hp_Q} (hcr : CR cr)  (g : GI h)    (k : ∀ (h2 : hp) , GI h2 → FR [(64, 64, none), (66, 67, none)] h h2 → Q (.inl none) (hp_w h2 cr) b c) : wp (md_xa (L, xs)) (d + 18) 178 (0, [(0, .ref 63)], [], hp_w h cr, b, c) Q := by
  have F0 : FR [(64, 64, none), (66, 67, none)] h h := FR.refl
  refine wi_iconst (n := 0) (nx := 1) (r1 := 0) (r2 := 0) (r3 := 0) rfl ?_
  refine wi_istore_n (i := 1) (e := 0) (lo2 := [(1, vi 0), (0, .ref 63)]) (nx := 2) (r1 := 0) (r2 := 0) (r3 := 0) rfl rfl ?_
  refine wi_aload_n (i := 0) (x := 63) (nx := 3) (r1 := 0) (r2 := 0) (r3 := 0) rfl rfl ?_
  have b1 := gi_b (lo := -2147483648) (hi := 2147483647) g 63 7 rfl
  refine wr_gi0 (k0 := 63) (x := h 63 7) (nx := 6) (r1 := 7) (r2 := 7) (r3 := 0) rfl rfl (by decide) rfl ⟨rfl, rfl⟩ rfl rfl ?_
  refine wi_istore_n (i := 2) (e := h 63 7) (lo2 := [(2, vi (h 63 7)), (1, vi 0), (0, .ref 63)]) (nx := 7) (r1 := 0) (r2 := 0) (r3 := 0) rfl rfl ?_
  refine wi_iconst (n := 0) (nx := 8) (r1 := 0) (r2 := 0) (r3 := 0) rfl ?_
  refine wi_istore_n (i := 3) (e := 0) (lo2 := [(3, vi 0), (2, vi (h 63 7)), (1, vi 0), (0, .ref 63)]) (nx := 9) (r1 := 0) (r2 := 0) (r3 := 0) rfl rfl ?_
  refine wp.lo (lo := [(0, .ref 63), (1, vi 0), (2, vi (h 63 7)), (3, vi 0)]) ⟨rfl, rfl, rfl, rfl, trivial⟩ rfl ?_
  refine wl_3 (fun x2 x3 x4 h5 => GI h5 ∧ FR [(64, 64, none), (66, 67, none)] h h5 ∧ FR [(64, 64, none), (66, 67, none)] h h5 ∧ ((-2147483648 ≤ x2 ∧ x2 ≤ 2147483647) ∧ (-2147483648 ≤ x3 ∧ x3 ≤ 2147483647) ∧ (0 ≤ x4 ∧ x4 ≤ 12))) (fun x2 x3 x4 h5 => ((12 : Int) + 1 - x4).toNat) (fun x2 x3 x4 h5 => (9, [(0, .ref 63), (1, vi x2), (2, vi x3), (3, vi x4)], [], hp_w h5 cr, b, c)) ?_ 0 (h 63 7) 0 h ⟨g, F0, FR.refl, (show (-2147483648 ≤ 0 ∧ 0 ≤ 2147483647) ∧ (-2147483648 ≤ (h 63 7) ∧ (h 63 7) ≤ 2147483647) ∧ (0 ≤ 0 ∧ 0 ≤ 12) by omega)⟩
  intro x2 x3 x4 h5 ⟨g5, F6, u5, f5⟩ I5
  refine wi_iload_n (i := 3) (e := x4) (nx := 10) (r1 := 0) (r2 := 0) (r3 := 0) rfl rfl ?_
  refine wi_aload_n (i := 0) (x := 63) (nx := 11) (r1 := 0) (r2 := 0) (r3 := 0) rfl rfl ?_
  have b7 := gi_b (lo := -12) (hi := 12) g 63 4 rfl
  refine wr_gi0 (k0 := 63) (x := h 63 4) (nx := 14) (r1 := 7) (r2 := 4) (r3 := 0) rfl rfl (by decide) rfl ⟨rfl, rfl⟩ rfl (u5 63 4 rfl) ?_
  refine wi_icmp (cd := .ge) (nx := 17) (r1 := 87) (r2 := 0) (r3 := 0) rfl (by omega) (by omega) (fun (q8 : (h 63 4) ≤ x4) => ?_) (fun (q8 : ¬ ((h 63 4) ≤ x4)) => ?_)
  ·
    refine wi_return (nx := 88) (r1 := 0) (r2 := 0) (r3 := 0) rfl rfl ?_
    exact k h5 g5 F6
  ·
    refine wi_aload_n (i := 0) (x := 63) (nx := 18) (r1 := 0) (r2 := 0) (r3 := 0) rfl rfl ?_
    refine wi_iload_n (i := 3) (e := x4) (nx := 19) (r1 := 0) (r2 := 0) (r3 := 0) rfl rfl ?_
    refine wi_iload_n (i := 1) (e := x2) (nx := 20) (r1 := 0) (r2 := 0) (r3 := 0) rfl rfl ?_
    refine wr_V (k0 := 63) (rest := []) (as := [.ref 63, vi x4, vi x2]) (nx := 23) (r1 := 174) (r2 := 2) (r3 := 7) rfl rfl rfl (of_decide_eq_true rfl) rfl rfl (by decide) rfl rfl (of_decide_eq_true rfl) (of_decide_eq_true rfl) ?_
    refine ct_174_63 hcr  g5 x4 x2 (by omega) (by omega)  (fun h9 z10 g9 u9 (fz10 : -2147483648 ≤ z10 ∧ z10 ≤ 2147483647) => ?_)
    have F11 := F6.then (by decide +kernel) u9
    have F12 := u5.then (by decide +kernel) u9
    refine wk_i ?_
    refine wi_istore (i := 4) (e := z10) (lo2 := [(4, vi z10), (0, .ref 63), (1, vi x2), (2, vi x3), (3, vi x4)]) (nx := 25) (r1 := 0) (r2 := 0) (r3 := 0) rfl rfl ?_
    refine wi_iload (i := 4) (e := z10) (nx := 27) (r1 := 0) (r2 := 0) (r3 := 0) rfl rfl ?_
    refine wi_aload_n (i := 0) (x := 63) (nx := 28) (r1 := 0) (r2 := 0) (r3 := 0) rfl rfl ?_
    refine wr_gr (k0 := 63) (x := 66) (nx := 31) (r1 := 7) (r2 := 6) (r3 := 0) rfl rfl (by decide) rfl ⟨rfl, rfl⟩ rfl ?_
    refine wr_V (k0 := 66) (rest := [vi z10]) (as := [.ref 66]) (nx := 34) (r1 := 156) (r2 := 0) (r3 := 5) rfl rfl rfl (of_decide_eq_true rfl) rfl rfl (by decide) rfl rfl (of_decide_eq_true rfl) (of_decide_eq_true rfl) ?_
    refine ct_156_R hcr rw_66 g9    (fun z14  (fz14 : -2147483648 ≤ z14 ∧ z14 ≤ 2147483647) => ?_)
    refine wk_i ?_
    refine wi_iload_n (i := 2) (e := x3) (nx := 35) (r1 := 0) (r2 := 0) (r3 := 0) rfl rfl ?_
    refine wi_S (rest := []) (as := [vi z10, vi z14, vi x3]) (nx := 38) (r1 := 179) (r2 := 19) (r3 := 0) rfl rfl rfl (of_decide_eq_true rfl) rfl rfl (of_decide_eq_true rfl) (of_decide_eq_true rfl) ?_
    refine ct_179 hcr  g9 z10 z14 x3 (by omega) (by omega) (by omega)  (fun z16  (fz16 : -1 ≤ z16 ∧ z16 ≤ 4) => ?_)
    refine wk_i ?_
    refine wi_istore (i := 5) (e := z16) (lo2 := [(5, vi z16), (4, vi z10), (0, .ref 63), (1, vi x2), (2, vi x3), (3, vi x4)]) (nx := 40) (r1 := 0) (r2 := 0) (r3 := 0) rfl rfl ?_
    refine wi_aload_n (i := 0) (x := 63) (nx := 41) (r1 := 0) (r2 := 0) (r3 := 0) rfl rfl ?_
    refine wi_iload (i := 5) (e := z16) (nx := 43) (r1 := 0) (r2 := 0) (r3 := 0) rfl rfl ?_
    refine wi_iload_n (i := 3) (e := x4) (nx := 44) (r1 := 0) (r2 := 0) (r3 := 0) rfl rfl ?_
    refine wi_iload_n (i := 1) (e := x2) (nx := 45) (r1 := 0) (r2 := 0) (r3 := 0) rfl rfl ?_
    refine wr_V (k0 := 63) (rest := []) (as := [.ref 63, vi z16, vi x4, vi x2]) (nx := 48) (r1 := 175) (r2 := 3) (r3 := 7) rfl rfl rfl (of_decide_eq_true rfl) rfl rfl (by decide) rfl rfl (of_decide_eq_true rfl) (of_decide_eq_true rfl) ?_
    refine ct_175_63 hcr  g9 z16 x4 x2 (by omega) (by omega) (by omega)  (fun z18  (fz18 : -1 ≤ z18 ∧ z18 ≤ 63) => ?_)
    refine wk_i ?_
    refine wi_istore (i := 6) (e := z18) (lo2 := [(6, vi z18), (5, vi z16), (4, vi z10), (0, .ref 63), (1, vi x2), (2, vi x3), (3, vi x4)]) (nx := 50) (r1 := 0) (r2 := 0) (r3 := 0) rfl rfl ?_
    refine wi_iload (i := 6) (e := z18) (nx := 52) (r1 := 0) (r2 := 0) (r3 := 0) rfl rfl ?_
    refine wi_iconst (n := (-1)) (nx := 53) (r1 := 0) (r2 := 0) (r3 := 0) rfl ?_
    refine wi_icmp (cd := .ne) (nx := 56) (r1 := 57) (r2 := 0) (r3 := 0) rfl (by omega) (by omega) (fun (q19 : z18 ≠ (-1)) => ?_) (fun (q19 : ¬ (z18 ≠ (-1))) => ?_)
    ·
      refine wi_aload_n (i := 0) (x := 63) (nx := 58) (r1 := 0) (r2 := 0) (r3 := 0) rfl rfl ?_
      refine wr_gr (k0 := 63) (x := 66) (nx := 61) (r1 := 7) (r2 := 6) (r3 := 0) rfl rfl (by decide) rfl ⟨rfl, rfl⟩ rfl ?_
      refine wi_iload (i := 5) (e := z16) (nx := 63) (r1 := 0) (r2 := 0) (r3 := 0) rfl rfl ?_
      refine wr_V (k0 := 66) (rest := []) (as := [.ref 66, vi z16]) (nx := 66) (r1 := 158) (r2 := 1) (r3 := 5) rfl rfl rfl (of_decide_eq_true rfl) rfl rfl (by decide) rfl rfl (of_decide_eq_true rfl) (of_decide_eq_true rfl) ?_
      refine ct_158_R hcr rw_66 g9 z16 (by omega)  (fun h20 g20 u20 => ?_)
      have F21 := F11.then rfl u20
      have F22 := F12.then rfl u20
      refine wk_n ?_
      refine wi_iload_n (i := 1) (e := x2) (nx := 67) (r1 := 0) (r2 := 0) (r3 := 0) rfl rfl ?_
      refine wi_iconst (n := 1) (nx := 68) (r1 := 0) (r2 := 0) (r3 := 0) rfl ?_
      refine wi_iload (i := 6) (e := z18) (nx := 70) (r1 := 0) (r2 := 0) (r3 := 0) rfl rfl ?_
      refine wr_ishlA (nx := 71) (r1 := 0) (r2 := 0) (r3 := 0) rfl (fun e23 (fe23 : -2147483648 ≤ e23 ∧ e23 ≤ 2147483647) => ?_)
      refine wr_iorA (nx := 72) (r1 := 0) (r2 := 0) (r3 := 0) rfl (fun e24 (fe24 : -2147483648 ≤ e24 ∧ e24 ≤ 2147483647) => ?_)
      refine wi_istore_n (i := 1) (e := e24) (lo2 := [(1, vi e24), (6, vi z18), (5, vi z16), (4, vi z10), (0, .ref 63), (2, vi x3), (3, vi x4)]) (nx := 73) (r1 := 0) (r2 := 0) (r3 := 0) rfl rfl ?_
      refine wi_iload (i := 4) (e := z10) (nx := 75) (r1 := 0) (r2 := 0) (r3 := 0) rfl rfl ?_
      refine wi_iload (i := 5) (e := z16) (nx := 77) (r1 := 0) (r2 := 0) (r3 := 0) rfl rfl ?_
      refine wi_S (rest := []) (as := [vi z10, vi z16]) (nx := 80) (r1 := 176) (r2 := 18) (r3 := 0) rfl rfl rfl (of_decide_eq_true rfl) rfl rfl (of_decide_eq_true rfl) (of_decide_eq_true rfl) ?_
      refine ct_176 hcr  g20 z10 z16 (by omega) (by omega)  (fun z26  (fz26 : 0 ≤ z26 ∧ z26 ≤ 15) => ?_)
      refine wk_i ?_
      refine wi_istore_n (i := 2) (e := z26) (lo2 := [(2, vi z26), (1, vi e24), (6, vi z18), (5, vi z16), (4, vi z10), (0, .ref 63), (3, vi x4)]) (nx := 81) (r1 := 0) (r2 := 0) (r3 := 0) rfl rfl ?_
      refine wr_iinc (i := 3) (n := 1) (v := x4) (fun e27 => [(3, vi e27), (2, vi z26), (1, vi e24), (6, vi z18), (5, vi z16), (4, vi z10), (0, .ref 63)]) (nx := 84) (r1 := 0) (r2 := 0) (r3 := 0) rfl rfl (fun _ => rfl) (fun e27 (fe27 : e27 = x4 + 1) => ?_)
      refine wi_goto (nx := 87) (r1 := 9) (r2 := 0) (r3 := 0) rfl ?_
      refine wp.lo (lo := [(0, .ref 63), (1, vi e24), (2, vi z26), (3, vi e27)]) ⟨rfl, rfl, rfl, rfl, trivial⟩ rfl ?_
      exact I5 e24 z26 e27 h20 ⟨g20, F21, F22, (show (-2147483648 ≤ e24 ∧ e24 ≤ 2147483647) ∧ (-2147483648 ≤ z26 ∧ z26 ≤ 2147483647) ∧ (0 ≤ e27 ∧ e27 ≤ 12) by omega)⟩ (show ((12 : Int) + 1 - e27).toNat < ((12 : Int) + 1 - x4).toNat by omega)
    ·
      refine wi_return (nx := 57) (r1 := 0) (r2 := 0) (r3 := 0) rfl rfl ?_
      exact k h9 g9 F11
-- method 171: Exchange.plan()V
set_option maxRecDepth 100000 in
set_option maxHeartbeats 100000000 in
theorem ct_171_63 {L : Nat} {xs : Nat → Int32} {d b c : Nat} {h : hp} {cr : Nat → Nat → Option Nat} {Q : hp_Q} (hcr : CR cr)  (g : GI h)    (k : ∀ (h2 : hp) , GI h2 → FR [(64, 64, none), (65, 65, none), (66, 67, none), (63, 63, some (4, 4)), (63, 63, some (5, 5)), (63, 63, some (7, 7))] h h2 → Q (.inl none) (hp_w h2 cr) b c) : wp (md_xa (L, xs)) (d + 19) 171 (0, [(0, .ref 63)], [], hp_w h cr, b, c) Q := by
  have F0 : FR [(64, 64, none), (65, 65, none), (66, 67, none), (63, 63, some (4, 4)), (63, 63, some (5, 5)), (63, 63, some (7, 7))] h h := FR.refl
  refine wi_aload_n (i := 0) (x := 63) (nx := 1) (r1 := 0) (r2 := 0) (r3 := 0) rfl rfl ?_
  have b1 := gi_b (lo := -2147483648) (hi := 2147483647) g 63 5 rfl
  refine wr_gi0 (k0 := 63) (x := h 63 5) (nx := 4) (r1 := 7) (r2 := 5) (r3 := 0) rfl rfl (by decide) rfl ⟨rfl, rfl⟩ rfl rfl ?_
  refine wi_aload_n (i := 0) (x := 63) (nx := 5) (r1 := 0) (r2 := 0) (r3 := 0) rfl rfl ?_
  refine wr_gr (k0 := 63) (x := 18) (nx := 8) (r1 := 7) (r2 := 1) (r3 := 0) rfl rfl (by decide) rfl ⟨rfl, rfl⟩ rfl ?_
  have b2 := gi_b (lo := -2147483648) (hi := 2147483647) g 18 16 rfl
  refine wr_gi0 (k0 := 18) (x := h 18 16) (nx := 11) (r1 := 4) (r2 := 16) (r3 := 0) rfl rfl (by decide) rfl ⟨rfl, rfl⟩ rfl rfl ?_
  refine wi_icmp (cd := .ne) (nx := 14) (r1 := 15) (r2 := 0) (r3 := 0) rfl (by omega) (by omega) (fun (q3 : (h 63 5) ≠ (h 18 16)) => ?_) (fun (q3 : ¬ ((h 63 5) ≠ (h 18 16))) => ?_)
  ·
    refine wi_aload_n (i := 0) (x := 63) (nx := 16) (r1 := 0) (r2 := 0) (r3 := 0) rfl rfl ?_
    refine wi_aload_n (i := 0) (x := 63) (nx := 17) (r1 := 0) (r2 := 0) (r3 := 0) rfl rfl ?_
    refine wr_gr (k0 := 63) (x := 18) (nx := 20) (r1 := 7) (r2 := 1) (r3 := 0) rfl rfl (by decide) rfl ⟨rfl, rfl⟩ rfl ?_
    refine wr_gi0 (k0 := 18) (x := h 18 16) (nx := 23) (r1 := 4) (r2 := 16) (r3 := 0) rfl rfl (by decide) rfl ⟨rfl, rfl⟩ rfl rfl ?_
    refine wr_pf0 (k0 := 63) (x := h 18 16) (bl := -2147483648) (bh := 2147483647) (nx := 26) (r1 := 7) (r2 := 5) (r3 := 0) rfl (by decide) rfl ⟨rfl, rfl⟩ rfl rfl g rfl (by omega) (fun h4 g4 w4 u4 => ?_)
    have F5 := F0.then rfl u4
    refine wi_aload_n (i := 0) (x := 63) (nx := 27) (r1 := 0) (r2 := 0) (r3 := 0) rfl rfl ?_
    refine wi_aload_n (i := 0) (x := 63) (nx := 28) (r1 := 0) (r2 := 0) (r3 := 0) rfl rfl ?_
    refine wr_gr (k0 := 63) (x := 18) (nx := 31) (r1 := 7) (r2 := 1) (r3 := 0) rfl rfl (by decide) rfl ⟨rfl, rfl⟩ rfl ?_
    refine wr_V (k0 := 18) (rest := [.ref 63]) (as := [.ref 18]) (nx := 34) (r1 := 128) (r2 := 0) (r3 := 4) rfl rfl rfl (of_decide_eq_true rfl) rfl rfl (by decide) rfl rfl (of_decide_eq_true rfl) (of_decide_eq_true rfl) ?_
    refine ct_128_18 hcr  g4    (fun z7  (fz7 : -12 ≤ z7 ∧ z7 ≤ 12) => ?_)
    refine wk_i ?_
    refine wi_bipush (n := 12) (nx := 36) (r1 := 0) (r2 := 0) (r3 := 0) rfl (by decide) ?_
    refine wi_S (rest := [.ref 63]) (as := [vi z7, vi 12]) (nx := 39) (r1 := 355) (r2 := 18) (r3 := 0) rfl rfl rfl (of_decide_eq_true rfl) rfl rfl (of_decide_eq_true rfl) (of_decide_eq_true rfl) ?_
    refine wi_iload_n (i := 0) (e := z7) (nx := 1) (r1 := 0) (r2 := 0) (r3 := 0) rfl rfl ?_
    refine wi_iload_n (i := 1) (e := 12) (nx := 2) (r1 := 0) (r2 := 0) (r3 := 0) rfl rfl ?_
    refine wi_icmp (cd := .gt) (nx := 5) (r1 := 9) (r2 := 0) (r3 := 0) rfl (by omega) (by omega) (fun (q8 : 12 < z7) => by exfalso; omega) (fun (q8 : ¬ (12 < z7)) => ?_)
    refine wi_iload_n (i := 0) (e := z7) (nx := 6) (r1 := 0) (r2 := 0) (r3 := 0) rfl rfl ?_
    refine wi_goto (nx := 9) (r1 := 10) (r2 := 0) (r3 := 0) rfl ?_
    refine wi_ireturn (nx := 11) (r1 := 0) (r2 := 0) (r3 := 0) rfl rfl ?_
    refine wk_i ?_
    refine wr_pf0 (k0 := 63) (x := z7) (bl := -12) (bh := 12) (nx := 42) (r1 := 7) (r2 := 4) (r3 := 0) rfl (by decide) rfl ⟨rfl, rfl⟩ rfl rfl g4 rfl (by omega) (fun h9 g9 w9 u9 => ?_)
    have F10 := F5.then rfl u9
    refine wi_aload_n (i := 0) (x := 63) (nx := 43) (r1 := 0) (r2 := 0) (r3 := 0) rfl rfl ?_
    refine wr_V (k0 := 63) (rest := []) (as := [.ref 63]) (nx := 46) (r1 := 172) (r2 := 0) (r3 := 7) rfl rfl rfl (of_decide_eq_true rfl) rfl rfl (by decide) rfl rfl (of_decide_eq_true rfl) (of_decide_eq_true rfl) ?_
    refine ct_172_63 hcr  g9    (fun h11 g11 u11 => ?_)
    have F12 := F10.then (by decide +kernel) u11
    refine wk_n ?_
    refine wi_aload_n (i := 0) (x := 63) (nx := 47) (r1 := 0) (r2 := 0) (r3 := 0) rfl rfl ?_
    refine wr_gr (k0 := 63) (x := 65) (nx := 50) (r1 := 7) (r2 := 3) (r3 := 0) rfl rfl (by decide) rfl ⟨rfl, rfl⟩ rfl ?_
    refine wi_iconst (n := 0) (nx := 51) (r1 := 0) (r2 := 0) (r3 := 0) rfl ?_
    refine wi_S (rest := []) (as := [.ref 65, vi 0]) (nx := 54) (r1 := 357) (r2 := 18) (r3 := 0) rfl rfl rfl (of_decide_eq_true rfl) rfl rfl (of_decide_eq_true rfl) (of_decide_eq_true rfl) ?_
    refine ct_357_65 hcr  g11 0 (by omega)  (fun h13 g13 u13 => ?_)
    have F14 := F12.then (by decide +kernel) u13
    refine wk_n ?_
    refine wi_iconst (n := 0) (nx := 55) (r1 := 0) (r2 := 0) (r3 := 0) rfl ?_
    refine wi_istore_n (i := 1) (e := 0) (lo2 := [(1, vi 0), (0, .ref 63)]) (nx := 56) (r1 := 0) (r2 := 0) (r3 := 0) rfl rfl ?_
    refine wp.lo (lo := [(0, .ref 63), (1, vi 0)]) ⟨rfl, rfl, trivial⟩ rfl ?_
    refine wl_1 (fun x15 h16 => GI h16 ∧ FR [(64, 64, none), (65, 65, none), (66, 67, none), (63, 63, some (4, 4)), (63, 63, some (5, 5)), (63, 63, some (7, 7))] h h16 ∧ FR [(65, 65, none)] h13 h16 ∧ ((0 ≤ x15 ∧ x15 ≤ 12))) (fun x15 h16 => ((12 : Int) + 1 - x15).toNat) (fun x15 h16 => (56, [(0, .ref 63), (1, vi x15)], [], hp_w h16 cr, b, c)) ?_ 0 h13 ⟨g13, F14, FR.refl, (show (0 ≤ 0 ∧ 0 ≤ 12) by omega)⟩
    intro x15 h16 ⟨g16, F17, u16, f16⟩ I16
    refine wi_iload_n (i := 1) (e := x15) (nx := 57) (r1 := 0) (r2 := 0) (r3 := 0) rfl rfl ?_
    refine wi_aload_n (i := 0) (x := 63) (nx := 58) (r1 := 0) (r2 := 0) (r3 := 0) rfl rfl ?_
    refine wr_gi0 (k0 := 63) (x := z7) (nx := 61) (r1 := 7) (r2 := 4) (r3 := 0) rfl rfl (by decide) rfl ⟨rfl, rfl⟩ rfl ((u16 63 4 rfl).trans ((u13 63 4 rfl).trans ((u11 63 4 rfl).trans w9))) ?_
    refine wi_icmp (cd := .ge) (nx := 64) (r1 := 92) (r2 := 0) (r3 := 0) rfl (by omega) (by omega) (fun (q18 : z7 ≤ x15) => ?_) (fun (q18 : ¬ (z7 ≤ x15)) => ?_)
    ·
      refine wi_aload_n (i := 0) (x := 63) (nx := 93) (r1 := 0) (r2 := 0) (r3 := 0) rfl rfl ?_
      refine wi_aload_n (i := 0) (x := 63) (nx := 94) (r1 := 0) (r2 := 0) (r3 := 0) rfl rfl ?_
      refine wi_iconst (n := 0) (nx := 95) (r1 := 0) (r2 := 0) (r3 := 0) rfl ?_
      refine wi_iconst (n := 0) (nx := 96) (r1 := 0) (r2 := 0) (r3 := 0) rfl ?_
      refine wr_V (k0 := 63) (rest := [.ref 63]) (as := [.ref 63, vi 0, vi 0]) (nx := 99) (r1 := 174) (r2 := 2) (r3 := 7) rfl rfl rfl (of_decide_eq_true rfl) rfl rfl (by decide) rfl rfl (of_decide_eq_true rfl) (of_decide_eq_true rfl) ?_
      refine ct_174_63 hcr  g16 0 0 (by omega) (by omega)  (fun h19 z20 g19 u19 (fz20 : -2147483648 ≤ z20 ∧ z20 ≤ 2147483647) => ?_)
      have F21 := F17.then (by decide +kernel) u19
      refine wk_i ?_
      refine wi_S (rest := [.ref 63]) (as := [vi z20]) (nx := 102) (r1 := 177) (r2 := 17) (r3 := 0) rfl rfl rfl (of_decide_eq_true rfl) rfl rfl (of_decide_eq_true rfl) (of_decide_eq_true rfl) ?_
      refine ct_177 hcr  g19 z20 (by omega)  (fun z23  (fz23 : 0 ≤ z23 ∧ z23 ≤ 15) => ?_)
      refine wk_i ?_
      refine wr_pf0 (k0 := 63) (x := z23) (bl := -2147483648) (bh := 2147483647) (nx := 105) (r1 := 7) (r2 := 7) (r3 := 0) rfl (by decide) rfl ⟨rfl, rfl⟩ rfl rfl g19 rfl (by omega) (fun h24 g24 w24 u24 => ?_)
      have F25 := F21.then rfl u24
      refine wi_aload_n (i := 0) (x := 63) (nx := 106) (r1 := 0) (r2 := 0) (r3 := 0) rfl rfl ?_
      refine wr_gr (k0 := 63) (x := 66) (nx := 109) (r1 := 7) (r2 := 6) (r3 := 0) rfl rfl (by decide) rfl ⟨rfl, rfl⟩ rfl ?_
      refine wi_iconst (n := 0) (nx := 110) (r1 := 0) (r2 := 0) (r3 := 0) rfl ?_
      refine wr_pf0 (k0 := 66) (x := 0) (bl := 0) (bh := 12) (nx := 113) (r1 := 5) (r2 := 1) (r3 := 0) rfl (by decide) rfl ⟨rfl, rfl⟩ rfl rfl g24 rfl (by omega) (fun h26 g26 w26 u26 => ?_)
      have F27 := F25.then rfl u26
      refine wi_aload_n (i := 0) (x := 63) (nx := 114) (r1 := 0) (r2 := 0) (r3 := 0) rfl rfl ?_
      refine wr_V (k0 := 63) (rest := []) (as := [.ref 63]) (nx := 117) (r1 := 178) (r2 := 0) (r3 := 7) rfl rfl rfl (of_decide_eq_true rfl) rfl rfl (by decide) rfl rfl (of_decide_eq_true rfl) (of_decide_eq_true rfl) ?_
      refine ct_178_63 hcr  g26    (fun h28 g28 u28 => ?_)
      have F29 := F27.then (by decide +kernel) u28
      refine wk_n ?_
      refine wi_return (nx := 118) (r1 := 0) (r2 := 0) (r3 := 0) rfl rfl ?_
      exact k h28 g28 F29
    ·
      refine wi_iconst (n := 0) (nx := 65) (r1 := 0) (r2 := 0) (r3 := 0) rfl ?_
      refine wi_istore_n (i := 2) (e := 0) (lo2 := [(2, vi 0), (0, .ref 63), (1, vi x15)]) (nx := 66) (r1 := 0) (r2 := 0) (r3 := 0) rfl rfl ?_
      refine wp.lo (lo := [(0, .ref 63), (1, vi x15), (2, vi 0)]) ⟨rfl, rfl, rfl, trivial⟩ rfl ?_
      refine wl_1 (fun x19 h20 => GI h20 ∧ FR [(64, 64, none), (65, 65, none), (66, 67, none), (63, 63, some (4, 4)), (63, 63, some (5, 5)), (63, 63, some (7, 7))] h h20 ∧ FR [(65, 65, none)] h13 h20 ∧ FR [(65, 65, none)] h16 h20 ∧ ((0 ≤ x19 ∧ x19 ≤ 12))) (fun x19 h20 => ((12 : Int) + 1 - x19).toNat) (fun x19 h20 => (66, [(0, .ref 63), (1, vi x15), (2, vi x19)], [], hp_w h20 cr, b, c)) ?_ 0 h16 ⟨g16, F17, u16, FR.refl, (show (0 ≤ 0 ∧ 0 ≤ 12) by omega)⟩
      intro x19 h20 ⟨g20, F21, F22, u20, f20⟩ I20
      refine wi_iload_n (i := 2) (e := x19) (nx := 67) (r1 := 0) (r2 := 0) (r3 := 0) rfl rfl ?_
      refine wi_aload_n (i := 0) (x := 63) (nx := 68) (r1 := 0) (r2 := 0) (r3 := 0) rfl rfl ?_
      refine wr_gi0 (k0 := 63) (x := z7) (nx := 71) (r1 := 7) (r2 := 4) (r3 := 0) rfl rfl (by decide) rfl ⟨rfl, rfl⟩ rfl ((u20 63 4 rfl).trans ((u16 63 4 rfl).trans ((u13 63 4 rfl).trans ((u11 63 4 rfl).trans w9)))) ?_
      refine wi_icmp (cd := .ge) (nx := 74) (r1 := 86) (r2 := 0) (r3 := 0) rfl (by omega) (by omega) (fun (q23 : z7 ≤ x19) => ?_) (fun (q23 : ¬ (z7 ≤ x19)) => ?_)
      ·
        refine wr_iinc (i := 1) (n := 1) (v := x15) (fun e24 => [(1, vi e24), (0, .ref 63), (2, vi x19)]) (nx := 89) (r1 := 0) (r2 := 0) (r3 := 0) rfl rfl (fun _ => rfl) (fun e24 (fe24 : e24 = x15 + 1) => ?_)
        refine wi_goto (nx := 92) (r1 := 56) (r2 := 0) (r3 := 0) rfl ?_
        refine wp.lo (lo := [(0, .ref 63), (1, vi e24)]) ⟨rfl, rfl, trivial⟩ rfl ?_
        exact I16 e24 h20 ⟨g20, F21, F22, (show (0 ≤ e24 ∧ e24 ≤ 12) by omega)⟩ (show ((12 : Int) + 1 - e24).toNat < ((12 : Int) + 1 - x15).toNat by omega)
      ·
        refine wi_aload_n (i := 0) (x := 63) (nx := 75) (r1 := 0) (r2 := 0) (r3 := 0) rfl rfl ?_
        refine wi_iload_n (i := 1) (e := x15) (nx := 76) (r1 := 0) (r2 := 0) (r3 := 0) rfl rfl ?_
        refine wi_iload_n (i := 2) (e := x19) (nx := 77) (r1 := 0) (r2 := 0) (r3 := 0) rfl rfl ?_
        refine wr_V (k0 := 63) (rest := []) (as := [.ref 63, vi x15, vi x19]) (nx := 80) (r1 := 173) (r2 := 2) (r3 := 7) rfl rfl rfl (of_decide_eq_true rfl) rfl rfl (by decide) rfl rfl (of_decide_eq_true rfl) (of_decide_eq_true rfl) ?_
        refine ct_173_63 hcr  g20 x15 x19 (by omega) (by omega)  (fun h24 g24 u24 => ?_)
        have F25 := F21.then (by decide +kernel) u24
        have F26 := F22.then (by decide +kernel) u24
        have F27 := u20.then (by decide +kernel) u24
        refine wk_n ?_
        refine wr_iinc (i := 2) (n := 1) (v := x19) (fun e28 => [(2, vi e28), (0, .ref 63), (1, vi x15)]) (nx := 83) (r1 := 0) (r2 := 0) (r3 := 0) rfl rfl (fun _ => rfl) (fun e28 (fe28 : e28 = x19 + 1) => ?_)
        refine wi_goto (nx := 86) (r1 := 66) (r2 := 0) (r3 := 0) rfl ?_
        refine wp.lo (lo := [(0, .ref 63), (1, vi x15), (2, vi e28)]) ⟨rfl, rfl, rfl, trivial⟩ rfl ?_
        exact I20 e28 h24 ⟨g24, F25, F26, F27, (show (0 ≤ e28 ∧ e28 ≤ 12) by omega)⟩ (show ((12 : Int) + 1 - e28).toNat < ((12 : Int) + 1 - x19).toNat by omega)
  ·
    refine wi_return (nx := 15) (r1 := 0) (r2 := 0) (r3 := 0) rfl rfl ?_
    exact k h g F0
-- method 146: Line.recolor(II)Z
set_option maxRecDepth 100000 in
set_option maxHeartbeats 100000000 in
theorem ct_146_18 {L : Nat} {xs : Nat → Int32} {d b c : Nat} {h : hp} {cr : Nat → Nat → Option Nat} {Q : hp_Q} (hcr : CR cr)  (g : GI h) (a0 : Int) (a1 : Int) (q0_ : -2147483648 ≤ a0 ∧ a0 ≤ 2147483647) (q1_ : -2147483648 ≤ a1 ∧ a1 ≤ 2147483647)  (k : ∀ (h2 : hp) (z0 : Int) , GI h2 → FR [(19, 19, none), (18, 18, some (16, 16))] h h2 → (0 ≤ z0 ∧ z0 ≤ 1) → (z0 = 1 → 0 ≤ a0 ∧ a0 ≤ 11) → Q (.inl (some (vi z0))) (hp_w h2 cr) b c) : wp (md_xa (L, xs)) d 146 (0, [(0, .ref 18), (1, vi a0), (2, vi a1)], [], hp_w h cr, b, c) Q := by
  have F0 : FR [(19, 19, none), (18, 18, some (16, 16))] h h := FR.refl
  refine wi_iload_n (i := 1) (e := a0) (nx := 1) (r1 := 0) (r2 := 0) (r3 := 0) rfl rfl ?_
  refine wi_if (cd := .lt) (nx := 4) (r1 := 20) (r2 := 0) (r3 := 0) rfl (by omega) (fun (q1 : a0 < 0) => ?_) (fun (q1 : ¬ (a0 < 0)) => ?_)
  ·
    refine wi_iconst (n := 0) (nx := 21) (r1 := 0) (r2 := 0) (r3 := 0) rfl ?_
    refine wi_zreturn (nx := 22) (r1 := 0) (r2 := 0) (r3 := 0) rfl rfl (by omega) ?_
    exact k h 0 g F0 (by omega) (fun _ => by omega)
  ·
    refine wi_iload_n (i := 1) (e := a0) (nx := 5) (r1 := 0) (r2 := 0) (r3 := 0) rfl rfl ?_
    refine wi_bipush (n := 12) (nx := 7) (r1 := 0) (r2 := 0) (r3 := 0) rfl (by decide) ?_
    refine wi_icmp (cd := .ge) (nx := 10) (r1 := 20) (r2 := 0) (r3 := 0) rfl (by omega) (by omega) (fun (q2 : 12 ≤ a0) => ?_) (fun (q2 : ¬ (12 ≤ a0)) => ?_)
    ·
      refine wi_iconst (n := 0) (nx := 21) (r1 := 0) (r2 := 0) (r3 := 0) rfl ?_
      refine wi_zreturn (nx := 22) (r1 := 0) (r2 := 0) (r3 := 0) rfl rfl (by omega) ?_
      exact k h 0 g F0 (by omega) (fun _ => by omega)
    ·
      refine wi_aload_n (i := 0) (x := 18) (nx := 11) (r1 := 0) (r2 := 0) (r3 := 0) rfl rfl ?_
      refine wr_gr (k0 := 18) (x := 19) (nx := 14) (r1 := 4) (r2 := 1) (r3 := 0) rfl rfl (by decide) rfl ⟨rfl, rfl⟩ rfl ?_
      refine wi_iload_n (i := 1) (e := a0) (nx := 15) (r1 := 0) (r2 := 0) (r3 := 0) rfl rfl ?_
      obtain ⟨i3, ei3⟩ : ∃ q : Nat, a0 = (q : Int) := ⟨(a0).toNat, by omega⟩
      have b4 := gi_b (lo := -2147483648) (hi := 2147483647) g 19 i3 rfl
      refine wr_ia (k0 := 19) (a := a0) (f := i3) (x := h 19 i3) (nx := 16) (r1 := 0) (r2 := 0) (r3 := 0) rfl (by decide) rfl (by omega) (by omega) (by decide) rfl ?_
      refine wi_iload_n (i := 2) (e := a1) (nx := 17) (r1 := 0) (r2 := 0) (r3 := 0) rfl rfl ?_
      refine wi_icmp (cd := .ne) (nx := 20) (r1 := 22) (r2 := 0) (r3 := 0) rfl (by omega) (by omega) (fun (q5 : (h 19 i3) ≠ a1) => ?_) (fun (q5 : ¬ ((h 19 i3) ≠ a1)) => ?_)
      ·
        refine wi_aload_n (i := 0) (x := 18) (nx := 23) (r1 := 0) (r2 := 0) (r3 := 0) rfl rfl ?_
        refine wr_gr (k0 := 18) (x := 19) (nx := 26) (r1 := 4) (r2 := 1) (r3 := 0) rfl rfl (by decide) rfl ⟨rfl, rfl⟩ rfl ?_
        refine wi_iload_n (i := 1) (e := a0) (nx := 27) (r1 := 0) (r2 := 0) (r3 := 0) rfl rfl ?_
        refine wi_iload_n (i := 2) (e := a1) (nx := 28) (r1 := 0) (r2 := 0) (r3 := 0) rfl rfl ?_
        refine wr_is (k0 := 19) (a := a0) (f := i3) (x := a1) (bl := -2147483648) (bh := 2147483647) (nx := 29) (r1 := 0) (r2 := 0) (r3 := 0) rfl (by decide) rfl (by omega) (by omega) (by decide) g rfl (by omega) (fun h6 g6 w6 u6 => ?_)
        have F7 := F0.then rfl (FR.rngp (lo := 19) (hi := 19) u6 (by decide))
        refine wi_aload_n (i := 0) (x := 18) (nx := 30) (r1 := 0) (r2 := 0) (r3 := 0) rfl rfl ?_
        refine wi_dup (nx := 31) (r1 := 0) (r2 := 0) (r3 := 0) rfl rfl ?_
        have b8 := gi_b (lo := -2147483648) (hi := 2147483647) g 18 16 rfl
        refine wr_gi0 (k0 := 18) (x := h 18 16) (nx := 34) (r1 := 4) (r2 := 16) (r3 := 0) rfl rfl (by decide) rfl ⟨rfl, rfl⟩ rfl (u6 18 16 (fn_a (by omega) fn_0)) ?_
        refine wi_iconst (n := 1) (nx := 35) (r1 := 0) (r2 := 0) (r3 := 0) rfl ?_
        refine wr_addW (nx := 36) (r1 := 0) (r2 := 0) (r3 := 0) rfl (fun e9 (fe9 : -2147483648 ≤ e9 ∧ e9 ≤ 2147483647) => ?_)
        refine wr_pf0 (k0 := 18) (x := e9) (bl := -2147483648) (bh := 2147483647) (nx := 39) (r1 := 4) (r2 := 16) (r3 := 0) rfl (by decide) rfl ⟨rfl, rfl⟩ rfl rfl g6 rfl (by omega) (fun h10 g10 w10 u10 => ?_)
        have F11 := F7.then rfl u10
        refine wi_iconst (n := 1) (nx := 40) (r1 := 0) (r2 := 0) (r3 := 0) rfl ?_
        refine wi_zreturn (nx := 41) (r1 := 0) (r2 := 0) (r3 := 0) rfl rfl (by omega) ?_
        exact k h10 1 g10 F11 (by omega) (fun _ => by omega)
      ·
        refine wi_iconst (n := 0) (nx := 21) (r1 := 0) (r2 := 0) (r3 := 0) rfl ?_
        refine wi_zreturn (nx := 22) (r1 := 0) (r2 := 0) (r3 := 0) rfl rfl (by omega) ?_
        exact k h 0 g F0 (by omega) (fun _ => by omega)
-- method 180: Exchange.carryOut()I
set_option maxRecDepth 100000 in
set_option maxHeartbeats 100000000 in
theorem ct_180_63 {L : Nat} {xs : Nat → Int32} {d b c : Nat} {h : hp} {cr : Nat → Nat → Option Nat} {Q : hp_Q} (hcr : CR cr)  (g : GI h)    (k : ∀ (h2 : hp) (z0 : Int) , GI h2 → FR [(19, 19, none), (18, 18, some (16, 16))] h h2 → (-2147483648 ≤ z0 ∧ z0 ≤ 2147483647) → Q (.inl (some (vi z0))) (hp_w h2 cr) b c) : wp (md_xa (L, xs)) (d + 1) 180 (0, [(0, .ref 63)], [], hp_w h cr, b, c) Q := by
  have F0 : FR [(19, 19, none), (18, 18, some (16, 16))] h h := FR.refl
  refine wi_iconst (n := 0) (nx := 1) (r1 := 0) (r2 := 0) (r3 := 0) rfl ?_
  refine wi_istore_n (i := 1) (e := 0) (lo2 := [(1, vi 0), (0, .ref 63)]) (nx := 2) (r1 := 0) (r2 := 0) (r3 := 0) rfl rfl ?_
  refine wi_iconst (n := 0) (nx := 3) (r1 := 0) (r2 := 0) (r3 := 0) rfl ?_
  refine wi_istore_n (i := 2) (e := 0) (lo2 := [(2, vi 0), (1, vi 0), (0, .ref 63)]) (nx := 4) (r1 := 0) (r2 := 0) (r3 := 0) rfl rfl ?_
  refine wp.lo (lo := [(0, .ref 63), (1, vi 0), (2, vi 0)]) ⟨rfl, rfl, rfl, trivial⟩ rfl ?_
  refine wl_2 (fun x1 x2 h3 => GI h3 ∧ FR [(19, 19, none), (18, 18, some (16, 16))] h h3 ∧ FR [(19, 19, none), (18, 18, some (16, 16))] h h3 ∧ ((-2147483648 ≤ x1 ∧ x1 ≤ 2147483647) ∧ (0 ≤ x2 ∧ x2 ≤ 12))) (fun x1 x2 h3 => ((12 : Int) + 1 - x2).toNat) (fun x1 x2 h3 => (4, [(0, .ref 63), (1, vi x1), (2, vi x2)], [], hp_w h3 cr, b, c)) ?_ 0 0 h ⟨g, F0, FR.refl, (show (-2147483648 ≤ 0 ∧ 0 ≤ 2147483647) ∧ (0 ≤ 0 ∧ 0 ≤ 12) by omega)⟩
  intro x1 x2 h3 ⟨g3, F4, u3, f3⟩ I3
  refine wi_iload_n (i := 2) (e := x2) (nx := 5) (r1 := 0) (r2 := 0) (r3 := 0) rfl rfl ?_
  refine wi_aload_n (i := 0) (x := 63) (nx := 6) (r1 := 0) (r2 := 0) (r3 := 0) rfl rfl ?_
  refine wr_gr (k0 := 63) (x := 66) (nx := 9) (r1 := 7) (r2 := 6) (r3 := 0) rfl rfl (by decide) rfl ⟨rfl, rfl⟩ rfl ?_
  have b5 := gi_b (lo := 0) (hi := 12) g 66 1 rfl
  refine wr_gi0 (k0 := 66) (x := h 66 1) (nx := 12) (r1 := 5) (r2 := 1) (r3 := 0) rfl rfl (by decide) rfl ⟨rfl, rfl⟩ rfl (u3 66 1 rfl) ?_
  refine wi_icmp (cd := .ge) (nx := 15) (r1 := 51) (r2 := 0) (r3 := 0) rfl (by omega) (by omega) (fun (q6 : (h 66 1) ≤ x2) => ?_) (fun (q6 : ¬ ((h 66 1) ≤ x2)) => ?_)
  ·
    refine wi_iload_n (i := 1) (e := x1) (nx := 52) (r1 := 0) (r2 := 0) (r3 := 0) rfl rfl ?_
    refine wi_ireturn (nx := 53) (r1 := 0) (r2 := 0) (r3 := 0) rfl rfl ?_
    exact k h3 x1 g3 F4 (by omega)
  ·
    refine wi_aload_n (i := 0) (x := 63) (nx := 16) (r1 := 0) (r2 := 0) (r3 := 0) rfl rfl ?_
    refine wr_gr (k0 := 63) (x := 18) (nx := 19) (r1 := 7) (r2 := 1) (r3 := 0) rfl rfl (by decide) rfl ⟨rfl, rfl⟩ rfl ?_
    refine wi_aload_n (i := 0) (x := 63) (nx := 20) (r1 := 0) (r2 := 0) (r3 := 0) rfl rfl ?_
    refine wr_gr (k0 := 63) (x := 18) (nx := 23) (r1 := 7) (r2 := 1) (r3 := 0) rfl rfl (by decide) rfl ⟨rfl, rfl⟩ rfl ?_
    have b7 := gi_b (lo := 0) (hi := 12) g 18 7 rfl
    refine wr_gi0 (k0 := 18) (x := h 18 7) (nx := 26) (r1 := 4) (r2 := 7) (r3 := 0) rfl rfl (by decide) rfl ⟨rfl, rfl⟩ rfl (u3 18 7 rfl) ?_
    refine wi_iload_n (i := 2) (e := x2) (nx := 27) (r1 := 0) (r2 := 0) (r3 := 0) rfl rfl ?_
    refine wr_add (nx := 28) (r1 := 0) (r2 := 0) (r3 := 0) rfl (fun e8 (fe8 : e8 = (h 18 7) + x2) => ?_)
    refine wi_aload_n (i := 0) (x := 63) (nx := 29) (r1 := 0) (r2 := 0) (r3 := 0) rfl rfl ?_
    refine wr_gr (k0 := 63) (x := 66) (nx := 32) (r1 := 7) (r2 := 6) (r3 := 0) rfl rfl (by decide) rfl ⟨rfl, rfl⟩ rfl ?_
    refine wi_iload_n (i := 2) (e := x2) (nx := 33) (r1 := 0) (r2 := 0) (r3 := 0) rfl rfl ?_
    refine wr_V (k0 := 66) (rest := [vi e8, .ref 18]) (as := [.ref 66, vi x2]) (nx := 36) (r1 := 154) (r2 := 1) (r3 := 5) rfl rfl rfl (of_decide_eq_true rfl) rfl rfl (by decide) rfl rfl (of_decide_eq_true rfl) (of_decide_eq_true rfl) ?_
    refine ct_154_R hcr rw_66 g3 x2 (by omega)  (fun z10  (fz10 : -2147483648 ≤ z10 ∧ z10 ≤ 2147483647) => ?_)
    refine wk_i ?_
    refine wr_V (k0 := 18) (rest := []) (as := [.ref 18, vi e8, vi z10]) (nx := 39) (r1 := 146) (r2 := 2) (r3 := 4) rfl rfl rfl (of_decide_eq_true rfl) rfl rfl (by decide) rfl rfl (of_decide_eq_true rfl) (of_decide_eq_true rfl) ?_
    refine ct_146_18 hcr  g3 e8 z10 (by omega) (by omega)  (fun h11 z12 g11 u11 (fz12 : 0 ≤ z12 ∧ z12 ≤ 1) m11_0 => ?_)
    have F13 := F4.then (by decide +kernel) u11
    have F14 := u3.then (by decide +kernel) u11
    refine wk_i ?_
    refine wi_if (cd := .eq) (nx := 42) (r1 := 45) (r2 := 0) (r3 := 0) rfl (by omega) (fun (q15 : z12 = 0) => ?_) (fun (q15 : ¬ (z12 = 0)) => ?_)
    ·
      refine wr_iinc (i := 2) (n := 1) (v := x2) (fun e16 => [(2, vi e16), (0, .ref 63), (1, vi x1)]) (nx := 48) (r1 := 0) (r2 := 0) (r3 := 0) rfl rfl (fun _ => rfl) (fun e16 (fe16 : e16 = x2 + 1) => ?_)
      refine wi_goto (nx := 51) (r1 := 4) (r2 := 0) (r3 := 0) rfl ?_
      refine wp.lo (lo := [(0, .ref 63), (1, vi x1), (2, vi e16)]) ⟨rfl, rfl, rfl, trivial⟩ rfl ?_
      exact I3 x1 e16 h11 ⟨g11, F13, F14, (show (-2147483648 ≤ x1 ∧ x1 ≤ 2147483647) ∧ (0 ≤ e16 ∧ e16 ≤ 12) by omega)⟩ (show ((12 : Int) + 1 - e16).toNat < ((12 : Int) + 1 - x2).toNat by omega)
    ·
      have f16 : 0 ≤ e8 ∧ e8 ≤ 11 := m11_0 (by omega)
      refine wr_iincW (i := 1) (n := 1) (v := x1) (fun e17 => [(1, vi e17), (0, .ref 63), (2, vi x2)]) (nx := 45) (r1 := 0) (r2 := 0) (r3 := 0) rfl rfl (fun _ => rfl) (fun e17 (fe17 : -2147483648 ≤ e17 ∧ e17 ≤ 2147483647) => ?_)
      refine wr_iinc (i := 2) (n := 1) (v := x2) (fun e18 => [(2, vi e18), (1, vi e17), (0, .ref 63)]) (nx := 48) (r1 := 0) (r2 := 0) (r3 := 0) rfl rfl (fun _ => rfl) (fun e18 (fe18 : e18 = x2 + 1) => ?_)
      refine wi_goto (nx := 51) (r1 := 4) (r2 := 0) (r3 := 0) rfl ?_
      refine wp.lo (lo := [(0, .ref 63), (1, vi e17), (2, vi e18)]) ⟨rfl, rfl, rfl, trivial⟩ rfl ?_
      exact I3 e17 e18 h11 ⟨g11, F13, F14, (show (-2147483648 ≤ e17 ∧ e17 ≤ 2147483647) ∧ (0 ≤ e18 ∧ e18 ≤ 12) by omega)⟩ (show ((12 : Int) + 1 - e18).toNat < ((12 : Int) + 1 - x2).toNat by omega)
-- method 188: Script.carryOut(LPaintBank$Word;I)Z
set_option maxRecDepth 100000 in
set_option maxHeartbeats 100000000 in
theorem ct_188_68 {L : Nat} {xs : Nat → Int32} {d b c : Nat} {h : hp} {cr : Nat → Nat → Option Nat} {Q : hp_Q} (hcr : CR cr)  (g : GI h) (a0 : Int) (a1 : Int) (q0_ : 1 ≤ a0 ∧ a0 ≤ 21) (q1_ : -2147483648 ≤ a1 ∧ a1 ≤ 2147483647)  (k : ∀ (h2 : hp) (z0 : Int) , GI h2 → FR [(18, 36, none), (57, 57, none), (58, 58, none), (59, 59, none), (60, 60, none), (61, 62, none), (64, 64, none), (65, 65, none), (66, 67, none), (56, 56, some (6, 6)), (56, 56, some (7, 7)), (56, 56, some (9, 9)), (56, 56, some (10, 10)), (56, 56, some (11, 11)), (56, 56, some (12, 12)), (63, 63, some (4, 4)), (63, 63, some (5, 5)), (63, 63, some (7, 7))] h h2 → (0 ≤ z0 ∧ z0 ≤ 1) → (z0 = 1 → 13 ≤ a0 ∧ a0 ≤ 19) → Q (.inl (some (vi z0))) (hp_w h2 cr) b c) : wp (md_xa (L, xs)) (d + 103) 188 (0, [(0, .ref 68), (1, wv a0), (2, vi a1)], [], hp_w h cr, b, c) Q := by
  have F0 : FR [(18, 36, none), (57, 57, none), (58, 58, none), (59, 59, none), (60, 60, none), (61, 62, none), (64, 64, none), (65, 65, none), (66, 67, none), (56, 56, some (6, 6)), (56, 56, some (7, 7)), (56, 56, some (9, 9)), (56, 56, some (10, 10)), (56, 56, some (11, 11)), (56, 56, some (12, 12)), (63, 63, some (4, 4)), (63, 63, some (5, 5)), (63, 63, some (7, 7))] h h := FR.refl
  obtain rfl | rfl | rfl | rfl | rfl | rfl | rfl | rfl | rfl | rfl | rfl | rfl | rfl | rfl | rfl | rfl | rfl | rfl | rfl | rfl | rfl : a0 = 1 ∨ a0 = 2 ∨ a0 = 3 ∨ a0 = 4 ∨ a0 = 5 ∨ a0 = 6 ∨ a0 = 7 ∨ a0 = 8 ∨ a0 = 9 ∨ a0 = 10 ∨ a0 = 11 ∨ a0 = 12 ∨ a0 = 13 ∨ a0 = 14 ∨ a0 = 15 ∨ a0 = 16 ∨ a0 = 17 ∨ a0 = 18 ∨ a0 = 19 ∨ a0 = 20 ∨ a0 = 21 := by omega
  ·
    refine wr_gst (v := .ref 1000023) (nx := 3) (r1 := 22) (r2 := 0) (r3 := 0) rfl rfl rfl ?_
    refine wi_aload_n (i := 1) (x := mm_XB + (1 : Int).toNat) (nx := 4) (r1 := 0) (r2 := 0) (r3 := 0) rfl rfl ?_
    refine wr_UX (k0 := mm_XB + (1 : Int).toNat) (m := 0) (rest := [.ref 1000023]) (as := [wv 1]) (nx := 7) (r1 := 359) (r2 := 32) (r3 := 1000) rfl rfl rfl (of_decide_eq_true rfl) rfl rfl (by decide) rfl rfl (of_decide_eq_true rfl) (of_decide_eq_true rfl) ?_
    refine wi_aload_n (i := 0) (x := mm_XB + (1 : Int).toNat) (nx := 1) (r1 := 0) (r2 := 0) (r3 := 0) rfl rfl ?_
    refine wr_gx (k0 := mm_XB + (1 : Int).toNat) (v := vi 0) (nx := 4) (r1 := 4) (r2 := 0) (r3 := 1) rfl (by decide) (by decide) rfl ?_
    refine wi_ireturn (nx := 5) (r1 := 0) (r2 := 0) (r3 := 0) rfl rfl ?_
    refine wk_i ?_
    refine wr_xa (k0 := 1000023) (a := 0) (f := 0) (v := vi 1) .iaload (Or.inl ⟨rfl, rfl⟩) (nx := 8) (r1 := 0) (r2 := 0) (r3 := 0) rfl (by decide) rfl rfl (by decide) (by decide) rfl ?_
    refine wr_tsw (x := 1) 186 (nx := 44) (r1 := 0) (r2 := 0) (r3 := 0) rfl rfl ?_
    refine wi_iconst (n := 0) (nx := 187) (r1 := 0) (r2 := 0) (r3 := 0) rfl ?_
    refine wi_zreturn (nx := 188) (r1 := 0) (r2 := 0) (r3 := 0) rfl rfl (by omega) ?_
    exact k h 0 g F0 (by omega) (fun _ => by omega)
  ·
    refine wr_gst (v := .ref 1000023) (nx := 3) (r1 := 22) (r2 := 0) (r3 := 0) rfl rfl rfl ?_
    refine wi_aload_n (i := 1) (x := mm_XB + (2 : Int).toNat) (nx := 4) (r1 := 0) (r2 := 0) (r3 := 0) rfl rfl ?_
    refine wr_UX (k0 := mm_XB + (2 : Int).toNat) (m := 0) (rest := [.ref 1000023]) (as := [wv 2]) (nx := 7) (r1 := 359) (r2 := 32) (r3 := 1000) rfl rfl rfl (of_decide_eq_true rfl) rfl rfl (by decide) rfl rfl (of_decide_eq_true rfl) (of_decide_eq_true rfl) ?_
    refine wi_aload_n (i := 0) (x := mm_XB + (2 : Int).toNat) (nx := 1) (r1 := 0) (r2 := 0) (r3 := 0) rfl rfl ?_
    refine wr_gx (k0 := mm_XB + (2 : Int).toNat) (v := vi 1) (nx := 4) (r1 := 4) (r2 := 0) (r3 := 1) rfl (by decide) (by decide) rfl ?_
    refine wi_ireturn (nx := 5) (r1 := 0) (r2 := 0) (r3 := 0) rfl rfl ?_
    refine wk_i ?_
    refine wr_xa (k0 := 1000023) (a := 1) (f := 1) (v := vi 0) .iaload (Or.inl ⟨rfl, rfl⟩) (nx := 8) (r1 := 0) (r2 := 0) (r3 := 0) rfl (by decide) rfl rfl (by decide) (by decide) rfl ?_
    refine wr_tsw (x := 0) 186 (nx := 44) (r1 := 0) (r2 := 0) (r3 := 0) rfl rfl ?_
    refine wi_iconst (n := 0) (nx := 187) (r1 := 0) (r2 := 0) (r3 := 0) rfl ?_
    refine wi_zreturn (nx := 188) (r1 := 0) (r2 := 0) (r3 := 0) rfl rfl (by omega) ?_
    exact k h 0 g F0 (by omega) (fun _ => by omega)
  ·
    refine wr_gst (v := .ref 1000023) (nx := 3) (r1 := 22) (r2 := 0) (r3 := 0) rfl rfl rfl ?_
    refine wi_aload_n (i := 1) (x := mm_XB + (3 : Int).toNat) (nx := 4) (r1 := 0) (r2 := 0) (r3 := 0) rfl rfl ?_
    refine wr_UX (k0 := mm_XB + (3 : Int).toNat) (m := 0) (rest := [.ref 1000023]) (as := [wv 3]) (nx := 7) (r1 := 359) (r2 := 32) (r3 := 1000) rfl rfl rfl (of_decide_eq_true rfl) rfl rfl (by decide) rfl rfl (of_decide_eq_true rfl) (of_decide_eq_true rfl) ?_
    refine wi_aload_n (i := 0) (x := mm_XB + (3 : Int).toNat) (nx := 1) (r1 := 0) (r2 := 0) (r3 := 0) rfl rfl ?_
    refine wr_gx (k0 := mm_XB + (3 : Int).toNat) (v := vi 2) (nx := 4) (r1 := 4) (r2 := 0) (r3 := 1) rfl (by decide) (by decide) rfl ?_
    refine wi_ireturn (nx := 5) (r1 := 0) (r2 := 0) (r3 := 0) rfl rfl ?_
    refine wk_i ?_
    refine wr_xa (k0 := 1000023) (a := 2) (f := 2) (v := vi 2) .iaload (Or.inl ⟨rfl, rfl⟩) (nx := 8) (r1 := 0) (r2 := 0) (r3 := 0) rfl (by decide) rfl rfl (by decide) (by decide) rfl ?_
    refine wr_tsw (x := 2) 186 (nx := 44) (r1 := 0) (r2 := 0) (r3 := 0) rfl rfl ?_
    refine wi_iconst (n := 0) (nx := 187) (r1 := 0) (r2 := 0) (r3 := 0) rfl ?_
    refine wi_zreturn (nx := 188) (r1 := 0) (r2 := 0) (r3 := 0) rfl rfl (by omega) ?_
    exact k h 0 g F0 (by omega) (fun _ => by omega)
  ·
    refine wr_gst (v := .ref 1000023) (nx := 3) (r1 := 22) (r2 := 0) (r3 := 0) rfl rfl rfl ?_
    refine wi_aload_n (i := 1) (x := mm_XB + (4 : Int).toNat) (nx := 4) (r1 := 0) (r2 := 0) (r3 := 0) rfl rfl ?_
    refine wr_UX (k0 := mm_XB + (4 : Int).toNat) (m := 0) (rest := [.ref 1000023]) (as := [wv 4]) (nx := 7) (r1 := 359) (r2 := 32) (r3 := 1000) rfl rfl rfl (of_decide_eq_true rfl) rfl rfl (by decide) rfl rfl (of_decide_eq_true rfl) (of_decide_eq_true rfl) ?_
    refine wi_aload_n (i := 0) (x := mm_XB + (4 : Int).toNat) (nx := 1) (r1 := 0) (r2 := 0) (r3 := 0) rfl rfl ?_
    refine wr_gx (k0 := mm_XB + (4 : Int).toNat) (v := vi 3) (nx := 4) (r1 := 4) (r2 := 0) (r3 := 1) rfl (by decide) (by decide) rfl ?_
    refine wi_ireturn (nx := 5) (r1 := 0) (r2 := 0) (r3 := 0) rfl rfl ?_
    refine wk_i ?_
    refine wr_xa (k0 := 1000023) (a := 3) (f := 3) (v := vi 3) .iaload (Or.inl ⟨rfl, rfl⟩) (nx := 8) (r1 := 0) (r2 := 0) (r3 := 0) rfl (by decide) rfl rfl (by decide) (by decide) rfl ?_
    refine wr_tsw (x := 3) 186 (nx := 44) (r1 := 0) (r2 := 0) (r3 := 0) rfl rfl ?_
    refine wi_iconst (n := 0) (nx := 187) (r1 := 0) (r2 := 0) (r3 := 0) rfl ?_
    refine wi_zreturn (nx := 188) (r1 := 0) (r2 := 0) (r3 := 0) rfl rfl (by omega) ?_
    exact k h 0 g F0 (by omega) (fun _ => by omega)
  ·
    refine wr_gst (v := .ref 1000023) (nx := 3) (r1 := 22) (r2 := 0) (r3 := 0) rfl rfl rfl ?_
    refine wi_aload_n (i := 1) (x := mm_XB + (5 : Int).toNat) (nx := 4) (r1 := 0) (r2 := 0) (r3 := 0) rfl rfl ?_
    refine wr_UX (k0 := mm_XB + (5 : Int).toNat) (m := 0) (rest := [.ref 1000023]) (as := [wv 5]) (nx := 7) (r1 := 359) (r2 := 32) (r3 := 1000) rfl rfl rfl (of_decide_eq_true rfl) rfl rfl (by decide) rfl rfl (of_decide_eq_true rfl) (of_decide_eq_true rfl) ?_
    refine wi_aload_n (i := 0) (x := mm_XB + (5 : Int).toNat) (nx := 1) (r1 := 0) (r2 := 0) (r3 := 0) rfl rfl ?_
    refine wr_gx (k0 := mm_XB + (5 : Int).toNat) (v := vi 4) (nx := 4) (r1 := 4) (r2 := 0) (r3 := 1) rfl (by decide) (by decide) rfl ?_
    refine wi_ireturn (nx := 5) (r1 := 0) (r2 := 0) (r3 := 0) rfl rfl ?_
    refine wk_i ?_
    refine wr_xa (k0 := 1000023) (a := 4) (f := 4) (v := vi 0) .iaload (Or.inl ⟨rfl, rfl⟩) (nx := 8) (r1 := 0) (r2 := 0) (r3 := 0) rfl (by decide) rfl rfl (by decide) (by decide) rfl ?_
    refine wr_tsw (x := 0) 186 (nx := 44) (r1 := 0) (r2 := 0) (r3 := 0) rfl rfl ?_
    refine wi_iconst (n := 0) (nx := 187) (r1 := 0) (r2 := 0) (r3 := 0) rfl ?_
    refine wi_zreturn (nx := 188) (r1 := 0) (r2 := 0) (r3 := 0) rfl rfl (by omega) ?_
    exact k h 0 g F0 (by omega) (fun _ => by omega)
  ·
    refine wr_gst (v := .ref 1000023) (nx := 3) (r1 := 22) (r2 := 0) (r3 := 0) rfl rfl rfl ?_
    refine wi_aload_n (i := 1) (x := mm_XB + (6 : Int).toNat) (nx := 4) (r1 := 0) (r2 := 0) (r3 := 0) rfl rfl ?_
    refine wr_UX (k0 := mm_XB + (6 : Int).toNat) (m := 0) (rest := [.ref 1000023]) (as := [wv 6]) (nx := 7) (r1 := 359) (r2 := 32) (r3 := 1000) rfl rfl rfl (of_decide_eq_true rfl) rfl rfl (by decide) rfl rfl (of_decide_eq_true rfl) (of_decide_eq_true rfl) ?_
    refine wi_aload_n (i := 0) (x := mm_XB + (6 : Int).toNat) (nx := 1) (r1 := 0) (r2 := 0) (r3 := 0) rfl rfl ?_
    refine wr_gx (k0 := mm_XB + (6 : Int).toNat) (v := vi 5) (nx := 4) (r1 := 4) (r2 := 0) (r3 := 1) rfl (by decide) (by decide) rfl ?_
    refine wi_ireturn (nx := 5) (r1 := 0) (r2 := 0) (r3 := 0) rfl rfl ?_
    refine wk_i ?_
    refine wr_xa (k0 := 1000023) (a := 5) (f := 5) (v := vi 0) .iaload (Or.inl ⟨rfl, rfl⟩) (nx := 8) (r1 := 0) (r2 := 0) (r3 := 0) rfl (by decide) rfl rfl (by decide) (by decide) rfl ?_
    refine wr_tsw (x := 0) 186 (nx := 44) (r1 := 0) (r2 := 0) (r3 := 0) rfl rfl ?_
    refine wi_iconst (n := 0) (nx := 187) (r1 := 0) (r2 := 0) (r3 := 0) rfl ?_
    refine wi_zreturn (nx := 188) (r1 := 0) (r2 := 0) (r3 := 0) rfl rfl (by omega) ?_
    exact k h 0 g F0 (by omega) (fun _ => by omega)
  ·
    refine wr_gst (v := .ref 1000023) (nx := 3) (r1 := 22) (r2 := 0) (r3 := 0) rfl rfl rfl ?_
    refine wi_aload_n (i := 1) (x := mm_XB + (7 : Int).toNat) (nx := 4) (r1 := 0) (r2 := 0) (r3 := 0) rfl rfl ?_
    refine wr_UX (k0 := mm_XB + (7 : Int).toNat) (m := 0) (rest := [.ref 1000023]) (as := [wv 7]) (nx := 7) (r1 := 359) (r2 := 32) (r3 := 1000) rfl rfl rfl (of_decide_eq_true rfl) rfl rfl (by decide) rfl rfl (of_decide_eq_true rfl) (of_decide_eq_true rfl) ?_
    refine wi_aload_n (i := 0) (x := mm_XB + (7 : Int).toNat) (nx := 1) (r1 := 0) (r2 := 0) (r3 := 0) rfl rfl ?_
    refine wr_gx (k0 := mm_XB + (7 : Int).toNat) (v := vi 6) (nx := 4) (r1 := 4) (r2 := 0) (r3 := 1) rfl (by decide) (by decide) rfl ?_
    refine wi_ireturn (nx := 5) (r1 := 0) (r2 := 0) (r3 := 0) rfl rfl ?_
    refine wk_i ?_
    refine wr_xa (k0 := 1000023) (a := 6) (f := 6) (v := vi 4) .iaload (Or.inl ⟨rfl, rfl⟩) (nx := 8) (r1 := 0) (r2 := 0) (r3 := 0) rfl (by decide) rfl rfl (by decide) (by decide) rfl ?_
    refine wr_tsw (x := 4) 186 (nx := 44) (r1 := 0) (r2 := 0) (r3 := 0) rfl rfl ?_
    refine wi_iconst (n := 0) (nx := 187) (r1 := 0) (r2 := 0) (r3 := 0) rfl ?_
    refine wi_zreturn (nx := 188) (r1 := 0) (r2 := 0) (r3 := 0) rfl rfl (by omega) ?_
    exact k h 0 g F0 (by omega) (fun _ => by omega)
  ·
    refine wr_gst (v := .ref 1000023) (nx := 3) (r1 := 22) (r2 := 0) (r3 := 0) rfl rfl rfl ?_
    refine wi_aload_n (i := 1) (x := mm_XB + (8 : Int).toNat) (nx := 4) (r1 := 0) (r2 := 0) (r3 := 0) rfl rfl ?_
    refine wr_UX (k0 := mm_XB + (8 : Int).toNat) (m := 0) (rest := [.ref 1000023]) (as := [wv 8]) (nx := 7) (r1 := 359) (r2 := 32) (r3 := 1000) rfl rfl rfl (of_decide_eq_true rfl) rfl rfl (by decide) rfl rfl (of_decide_eq_true rfl) (of_decide_eq_true rfl) ?_
    refine wi_aload_n (i := 0) (x := mm_XB + (8 : Int).toNat) (nx := 1) (r1 := 0) (r2 := 0) (r3 := 0) rfl rfl ?_
    refine wr_gx (k0 := mm_XB + (8 : Int).toNat) (v := vi 7) (nx := 4) (r1 := 4) (r2 := 0) (r3 := 1) rfl (by decide) (by decide) rfl ?_
    refine wi_ireturn (nx := 5) (r1 := 0) (r2 := 0) (r3 := 0) rfl rfl ?_
    refine wk_i ?_
    refine wr_xa (k0 := 1000023) (a := 7) (f := 7) (v := vi 5) .iaload (Or.inl ⟨rfl, rfl⟩) (nx := 8) (r1 := 0) (r2 := 0) (r3 := 0) rfl (by decide) rfl rfl (by decide) (by decide) rfl ?_
    refine wr_tsw (x := 5) 186 (nx := 44) (r1 := 0) (r2 := 0) (r3 := 0) rfl rfl ?_
    refine wi_iconst (n := 0) (nx := 187) (r1 := 0) (r2 := 0) (r3 := 0) rfl ?_
    refine wi_zreturn (nx := 188) (r1 := 0) (r2 := 0) (r3 := 0) rfl rfl (by omega) ?_
    exact k h 0 g F0 (by omega) (fun _ => by omega)
  ·
    refine wr_gst (v := .ref 1000023) (nx := 3) (r1 := 22) (r2 := 0) (r3 := 0) rfl rfl rfl ?_
    refine wi_aload_n (i := 1) (x := mm_XB + (9 : Int).toNat) (nx := 4) (r1 := 0) (r2 := 0) (r3 := 0) rfl rfl ?_
    refine wr_UX (k0 := mm_XB + (9 : Int).toNat) (m := 0) (rest := [.ref 1000023]) (as := [wv 9]) (nx := 7) (r1 := 359) (r2 := 32) (r3 := 1000) rfl rfl rfl (of_decide_eq_true rfl) rfl rfl (by decide) rfl rfl (of_decide_eq_true rfl) (of_decide_eq_true rfl) ?_
    refine wi_aload_n (i := 0) (x := mm_XB + (9 : Int).toNat) (nx := 1) (r1 := 0) (r2 := 0) (r3 := 0) rfl rfl ?_
    refine wr_gx (k0 := mm_XB + (9 : Int).toNat) (v := vi 8) (nx := 4) (r1 := 4) (r2 := 0) (r3 := 1) rfl (by decide) (by decide) rfl ?_
    refine wi_ireturn (nx := 5) (r1 := 0) (r2 := 0) (r3 := 0) rfl rfl ?_
    refine wk_i ?_
    refine wr_xa (k0 := 1000023) (a := 8) (f := 8) (v := vi 0) .iaload (Or.inl ⟨rfl, rfl⟩) (nx := 8) (r1 := 0) (r2 := 0) (r3 := 0) rfl (by decide) rfl rfl (by decide) (by decide) rfl ?_
    refine wr_tsw (x := 0) 186 (nx := 44) (r1 := 0) (r2 := 0) (r3 := 0) rfl rfl ?_
    refine wi_iconst (n := 0) (nx := 187) (r1 := 0) (r2 := 0) (r3 := 0) rfl ?_
    refine wi_zreturn (nx := 188) (r1 := 0) (r2 := 0) (r3 := 0) rfl rfl (by omega) ?_
    exact k h 0 g F0 (by omega) (fun _ => by omega)
  ·
    refine wr_gst (v := .ref 1000023) (nx := 3) (r1 := 22) (r2 := 0) (r3 := 0) rfl rfl rfl ?_
    refine wi_aload_n (i := 1) (x := mm_XB + (10 : Int).toNat) (nx := 4) (r1 := 0) (r2 := 0) (r3 := 0) rfl rfl ?_
    refine wr_UX (k0 := mm_XB + (10 : Int).toNat) (m := 0) (rest := [.ref 1000023]) (as := [wv 10]) (nx := 7) (r1 := 359) (r2 := 32) (r3 := 1000) rfl rfl rfl (of_decide_eq_true rfl) rfl rfl (by decide) rfl rfl (of_decide_eq_true rfl) (of_decide_eq_true rfl) ?_
    refine wi_aload_n (i := 0) (x := mm_XB + (10 : Int).toNat) (nx := 1) (r1 := 0) (r2 := 0) (r3 := 0) rfl rfl ?_
    refine wr_gx (k0 := mm_XB + (10 : Int).toNat) (v := vi 9) (nx := 4) (r1 := 4) (r2 := 0) (r3 := 1) rfl (by decide) (by decide) rfl ?_
    refine wi_ireturn (nx := 5) (r1 := 0) (r2 := 0) (r3 := 0) rfl rfl ?_
    refine wk_i ?_
    refine wr_xa (k0 := 1000023) (a := 9) (f := 9) (v := vi 6) .iaload (Or.inl ⟨rfl, rfl⟩) (nx := 8) (r1 := 0) (r2 := 0) (r3 := 0) rfl (by decide) rfl rfl (by decide) (by decide) rfl ?_
    refine wr_tsw (x := 6) 186 (nx := 44) (r1 := 0) (r2 := 0) (r3 := 0) rfl rfl ?_
    refine wi_iconst (n := 0) (nx := 187) (r1 := 0) (r2 := 0) (r3 := 0) rfl ?_
    refine wi_zreturn (nx := 188) (r1 := 0) (r2 := 0) (r3 := 0) rfl rfl (by omega) ?_
    exact k h 0 g F0 (by omega) (fun _ => by omega)
  ·
    refine wr_gst (v := .ref 1000023) (nx := 3) (r1 := 22) (r2 := 0) (r3 := 0) rfl rfl rfl ?_
    refine wi_aload_n (i := 1) (x := mm_XB + (11 : Int).toNat) (nx := 4) (r1 := 0) (r2 := 0) (r3 := 0) rfl rfl ?_
    refine wr_UX (k0 := mm_XB + (11 : Int).toNat) (m := 0) (rest := [.ref 1000023]) (as := [wv 11]) (nx := 7) (r1 := 359) (r2 := 32) (r3 := 1000) rfl rfl rfl (of_decide_eq_true rfl) rfl rfl (by decide) rfl rfl (of_decide_eq_true rfl) (of_decide_eq_true rfl) ?_
    refine wi_aload_n (i := 0) (x := mm_XB + (11 : Int).toNat) (nx := 1) (r1 := 0) (r2 := 0) (r3 := 0) rfl rfl ?_
    refine wr_gx (k0 := mm_XB + (11 : Int).toNat) (v := vi 10) (nx := 4) (r1 := 4) (r2 := 0) (r3 := 1) rfl (by decide) (by decide) rfl ?_
    refine wi_ireturn (nx := 5) (r1 := 0) (r2 := 0) (r3 := 0) rfl rfl ?_
    refine wk_i ?_
    refine wr_xa (k0 := 1000023) (a := 10) (f := 10) (v := vi 0) .iaload (Or.inl ⟨rfl, rfl⟩) (nx := 8) (r1 := 0) (r2 := 0) (r3 := 0) rfl (by decide) rfl rfl (by decide) (by decide) rfl ?_
    refine wr_tsw (x := 0) 186 (nx := 44) (r1 := 0) (r2 := 0) (r3 := 0) rfl rfl ?_
    refine wi_iconst (n := 0) (nx := 187) (r1 := 0) (r2 := 0) (r3 := 0) rfl ?_
    refine wi_zreturn (nx := 188) (r1 := 0) (r2 := 0) (r3 := 0) rfl rfl (by omega) ?_
    exact k h 0 g F0 (by omega) (fun _ => by omega)
  ·
    refine wr_gst (v := .ref 1000023) (nx := 3) (r1 := 22) (r2 := 0) (r3 := 0) rfl rfl rfl ?_
    refine wi_aload_n (i := 1) (x := mm_XB + (12 : Int).toNat) (nx := 4) (r1 := 0) (r2 := 0) (r3 := 0) rfl rfl ?_
    refine wr_UX (k0 := mm_XB + (12 : Int).toNat) (m := 0) (rest := [.ref 1000023]) (as := [wv 12]) (nx := 7) (r1 := 359) (r2 := 32) (r3 := 1000) rfl rfl rfl (of_decide_eq_true rfl) rfl rfl (by decide) rfl rfl (of_decide_eq_true rfl) (of_decide_eq_true rfl) ?_
    refine wi_aload_n (i := 0) (x := mm_XB + (12 : Int).toNat) (nx := 1) (r1 := 0) (r2 := 0) (r3 := 0) rfl rfl ?_
    refine wr_gx (k0 := mm_XB + (12 : Int).toNat) (v := vi 11) (nx := 4) (r1 := 4) (r2 := 0) (r3 := 1) rfl (by decide) (by decide) rfl ?_
    refine wi_ireturn (nx := 5) (r1 := 0) (r2 := 0) (r3 := 0) rfl rfl ?_
    refine wk_i ?_
    refine wr_xa (k0 := 1000023) (a := 11) (f := 11) (v := vi 7) .iaload (Or.inl ⟨rfl, rfl⟩) (nx := 8) (r1 := 0) (r2 := 0) (r3 := 0) rfl (by decide) rfl rfl (by decide) (by decide) rfl ?_
    refine wr_tsw (x := 7) 186 (nx := 44) (r1 := 0) (r2 := 0) (r3 := 0) rfl rfl ?_
    refine wi_iconst (n := 0) (nx := 187) (r1 := 0) (r2 := 0) (r3 := 0) rfl ?_
    refine wi_zreturn (nx := 188) (r1 := 0) (r2 := 0) (r3 := 0) rfl rfl (by omega) ?_
    exact k h 0 g F0 (by omega) (fun _ => by omega)
  ·
    refine wr_gst (v := .ref 1000023) (nx := 3) (r1 := 22) (r2 := 0) (r3 := 0) rfl rfl rfl ?_
    refine wi_aload_n (i := 1) (x := mm_XB + (13 : Int).toNat) (nx := 4) (r1 := 0) (r2 := 0) (r3 := 0) rfl rfl ?_
    refine wr_UX (k0 := mm_XB + (13 : Int).toNat) (m := 0) (rest := [.ref 1000023]) (as := [wv 13]) (nx := 7) (r1 := 359) (r2 := 32) (r3 := 1000) rfl rfl rfl (of_decide_eq_true rfl) rfl rfl (by decide) rfl rfl (of_decide_eq_true rfl) (of_decide_eq_true rfl) ?_
    refine wi_aload_n (i := 0) (x := mm_XB + (13 : Int).toNat) (nx := 1) (r1 := 0) (r2 := 0) (r3 := 0) rfl rfl ?_
    refine wr_gx (k0 := mm_XB + (13 : Int).toNat) (v := vi 12) (nx := 4) (r1 := 4) (r2 := 0) (r3 := 1) rfl (by decide) (by decide) rfl ?_
    refine wi_ireturn (nx := 5) (r1 := 0) (r2 := 0) (r3 := 0) rfl rfl ?_
    refine wk_i ?_
    refine wr_xa (k0 := 1000023) (a := 12) (f := 12) (v := vi 8) .iaload (Or.inl ⟨rfl, rfl⟩) (nx := 8) (r1 := 0) (r2 := 0) (r3 := 0) rfl (by decide) rfl rfl (by decide) (by decide) rfl ?_
    refine wr_tsw (x := 8) 52 (nx := 44) (r1 := 0) (r2 := 0) (r3 := 0) rfl rfl ?_
    refine wi_aload_n (i := 0) (x := 68) (nx := 53) (r1 := 0) (r2 := 0) (r3 := 0) rfl rfl ?_
    refine wr_gr (k0 := 68) (x := 18) (nx := 56) (r1 := 8) (r2 := 1) (r3 := 0) rfl rfl (by decide) rfl ⟨rfl, rfl⟩ rfl ?_
    refine wi_iload_n (i := 2) (e := a1) (nx := 57) (r1 := 0) (r2 := 0) (r3 := 0) rfl rfl ?_
    refine wr_V (k0 := 18) (rest := []) (as := [.ref 18, vi a1]) (nx := 60) (r1 := 139) (r2 := 1) (r3 := 4) rfl rfl rfl (of_decide_eq_true rfl) rfl rfl (by decide) rfl rfl (of_decide_eq_true rfl) (of_decide_eq_true rfl) ?_
    refine ct_139_18 hcr  g a1 (by omega)  (fun h1 z2 g1 u1 (fz2 : -1 ≤ z2 ∧ z2 ≤ 11) => ?_)
    have F3 := F0.then (by decide +kernel) u1
    refine wk_i ?_
    refine wi_iconst (n := (-1)) (nx := 61) (r1 := 0) (r2 := 0) (r3 := 0) rfl ?_
    refine wi_icmp (cd := .eq) (nx := 64) (r1 := 68) (r2 := 0) (r3 := 0) rfl (by omega) (by omega) (fun (q4 : z2 = (-1)) => ?_) (fun (q4 : ¬ (z2 = (-1))) => ?_)
    ·
      refine wi_iconst (n := 0) (nx := 69) (r1 := 0) (r2 := 0) (r3 := 0) rfl ?_
      refine wi_zreturn (nx := 70) (r1 := 0) (r2 := 0) (r3 := 0) rfl rfl (by omega) ?_
      exact k h1 0 g1 F3 (by omega) (fun _ => by omega)
    ·
      refine wi_iconst (n := 1) (nx := 65) (r1 := 0) (r2 := 0) (r3 := 0) rfl ?_
      refine wi_goto (nx := 68) (r1 := 69) (r2 := 0) (r3 := 0) rfl ?_
      refine wi_zreturn (nx := 70) (r1 := 0) (r2 := 0) (r3 := 0) rfl rfl (by omega) ?_
      exact k h1 1 g1 F3 (by omega) (fun _ => by omega)
  ·
    refine wr_gst (v := .ref 1000023) (nx := 3) (r1 := 22) (r2 := 0) (r3 := 0) rfl rfl rfl ?_
    refine wi_aload_n (i := 1) (x := mm_XB + (14 : Int).toNat) (nx := 4) (r1 := 0) (r2 := 0) (r3 := 0) rfl rfl ?_
    refine wr_UX (k0 := mm_XB + (14 : Int).toNat) (m := 0) (rest := [.ref 1000023]) (as := [wv 14]) (nx := 7) (r1 := 359) (r2 := 32) (r3 := 1000) rfl rfl rfl (of_decide_eq_true rfl) rfl rfl (by decide) rfl rfl (of_decide_eq_true rfl) (of_decide_eq_true rfl) ?_
    refine wi_aload_n (i := 0) (x := mm_XB + (14 : Int).toNat) (nx := 1) (r1 := 0) (r2 := 0) (r3 := 0) rfl rfl ?_
    refine wr_gx (k0 := mm_XB + (14 : Int).toNat) (v := vi 13) (nx := 4) (r1 := 4) (r2 := 0) (r3 := 1) rfl (by decide) (by decide) rfl ?_
    refine wi_ireturn (nx := 5) (r1 := 0) (r2 := 0) (r3 := 0) rfl rfl ?_
    refine wk_i ?_
    refine wr_xa (k0 := 1000023) (a := 13) (f := 13) (v := vi 9) .iaload (Or.inl ⟨rfl, rfl⟩) (nx := 8) (r1 := 0) (r2 := 0) (r3 := 0) rfl (by decide) rfl rfl (by decide) (by decide) rfl ?_
    refine wr_tsw (x := 9) 70 (nx := 44) (r1 := 0) (r2 := 0) (r3 := 0) rfl rfl ?_
    refine wi_aload_n (i := 0) (x := 68) (nx := 71) (r1 := 0) (r2 := 0) (r3 := 0) rfl rfl ?_
    refine wr_gr (k0 := 68) (x := 18) (nx := 74) (r1 := 8) (r2 := 1) (r3 := 0) rfl rfl (by decide) rfl ⟨rfl, rfl⟩ rfl ?_
    refine wi_iload_n (i := 2) (e := a1) (nx := 75) (r1 := 0) (r2 := 0) (r3 := 0) rfl rfl ?_
    refine wr_V (k0 := 18) (rest := []) (as := [.ref 18, vi a1]) (nx := 78) (r1 := 142) (r2 := 1) (r3 := 4) rfl rfl rfl (of_decide_eq_true rfl) rfl rfl (by decide) rfl rfl (of_decide_eq_true rfl) (of_decide_eq_true rfl) ?_
    refine ct_142_18 hcr  g a1 (by omega)  (fun h1 z2 g1 u1 (fz2 : -1 ≤ z2 ∧ z2 ≤ 11) => ?_)
    have F3 := F0.then (by decide +kernel) u1
    refine wk_i ?_
    refine wi_iconst (n := (-1)) (nx := 79) (r1 := 0) (r2 := 0) (r3 := 0) rfl ?_
    refine wi_icmp (cd := .eq) (nx := 82) (r1 := 86) (r2 := 0) (r3 := 0) rfl (by omega) (by omega) (fun (q4 : z2 = (-1)) => ?_) (fun (q4 : ¬ (z2 = (-1))) => ?_)
    ·
      refine wi_iconst (n := 0) (nx := 87) (r1 := 0) (r2 := 0) (r3 := 0) rfl ?_
      refine wi_zreturn (nx := 88) (r1 := 0) (r2 := 0) (r3 := 0) rfl rfl (by omega) ?_
      exact k h1 0 g1 F3 (by omega) (fun _ => by omega)
    ·
      refine wi_iconst (n := 1) (nx := 83) (r1 := 0) (r2 := 0) (r3 := 0) rfl ?_
      refine wi_goto (nx := 86) (r1 := 87) (r2 := 0) (r3 := 0) rfl ?_
      refine wi_zreturn (nx := 88) (r1 := 0) (r2 := 0) (r3 := 0) rfl rfl (by omega) ?_
      exact k h1 1 g1 F3 (by omega) (fun _ => by omega)
  ·
    refine wr_gst (v := .ref 1000023) (nx := 3) (r1 := 22) (r2 := 0) (r3 := 0) rfl rfl rfl ?_
    refine wi_aload_n (i := 1) (x := mm_XB + (15 : Int).toNat) (nx := 4) (r1 := 0) (r2 := 0) (r3 := 0) rfl rfl ?_
    refine wr_UX (k0 := mm_XB + (15 : Int).toNat) (m := 0) (rest := [.ref 1000023]) (as := [wv 15]) (nx := 7) (r1 := 359) (r2 := 32) (r3 := 1000) rfl rfl rfl (of_decide_eq_true rfl) rfl rfl (by decide) rfl rfl (of_decide_eq_true rfl) (of_decide_eq_true rfl) ?_
    refine wi_aload_n (i := 0) (x := mm_XB + (15 : Int).toNat) (nx := 1) (r1 := 0) (r2 := 0) (r3 := 0) rfl rfl ?_
    refine wr_gx (k0 := mm_XB + (15 : Int).toNat) (v := vi 14) (nx := 4) (r1 := 4) (r2 := 0) (r3 := 1) rfl (by decide) (by decide) rfl ?_
    refine wi_ireturn (nx := 5) (r1 := 0) (r2 := 0) (r3 := 0) rfl rfl ?_
    refine wk_i ?_
    refine wr_xa (k0 := 1000023) (a := 14) (f := 14) (v := vi 10) .iaload (Or.inl ⟨rfl, rfl⟩) (nx := 8) (r1 := 0) (r2 := 0) (r3 := 0) rfl (by decide) rfl rfl (by decide) (by decide) rfl ?_
    refine wr_tsw (x := 10) 88 (nx := 44) (r1 := 0) (r2 := 0) (r3 := 0) rfl rfl ?_
    refine wi_aload_n (i := 0) (x := 68) (nx := 89) (r1 := 0) (r2 := 0) (r3 := 0) rfl rfl ?_
    refine wr_gr (k0 := 68) (x := 18) (nx := 92) (r1 := 8) (r2 := 1) (r3 := 0) rfl rfl (by decide) rfl ⟨rfl, rfl⟩ rfl ?_
    refine wi_iload_n (i := 2) (e := a1) (nx := 93) (r1 := 0) (r2 := 0) (r3 := 0) rfl rfl ?_
    refine wr_V (k0 := 18) (rest := []) (as := [.ref 18, vi a1]) (nx := 96) (r1 := 138) (r2 := 1) (r3 := 4) rfl rfl rfl (of_decide_eq_true rfl) rfl rfl (by decide) rfl rfl (of_decide_eq_true rfl) (of_decide_eq_true rfl) ?_
    refine ct_138_18 hcr  g a1 (by omega)  (fun h1 z2 g1 u1 (fz2 : -2147483648 ≤ z2 ∧ z2 ≤ 2147483647) => ?_)
    have F3 := F0.then (by decide +kernel) u1
    refine wk_i ?_
    refine wi_iconst (n := (-1)) (nx := 97) (r1 := 0) (r2 := 0) (r3 := 0) rfl ?_
    refine wi_icmp (cd := .eq) (nx := 100) (r1 := 104) (r2 := 0) (r3 := 0) rfl (by omega) (by omega) (fun (q4 : z2 = (-1)) => ?_) (fun (q4 : ¬ (z2 = (-1))) => ?_)
    ·
      refine wi_iconst (n := 0) (nx := 105) (r1 := 0) (r2 := 0) (r3 := 0) rfl ?_
      refine wi_zreturn (nx := 106) (r1 := 0) (r2 := 0) (r3 := 0) rfl rfl (by omega) ?_
      exact k h1 0 g1 F3 (by omega) (fun _ => by omega)
    ·
      refine wi_iconst (n := 1) (nx := 101) (r1 := 0) (r2 := 0) (r3 := 0) rfl ?_
      refine wi_goto (nx := 104) (r1 := 105) (r2 := 0) (r3 := 0) rfl ?_
      refine wi_zreturn (nx := 106) (r1 := 0) (r2 := 0) (r3 := 0) rfl rfl (by omega) ?_
      exact k h1 1 g1 F3 (by omega) (fun _ => by omega)
  ·
    refine wr_gst (v := .ref 1000023) (nx := 3) (r1 := 22) (r2 := 0) (r3 := 0) rfl rfl rfl ?_
    refine wi_aload_n (i := 1) (x := mm_XB + (16 : Int).toNat) (nx := 4) (r1 := 0) (r2 := 0) (r3 := 0) rfl rfl ?_
    refine wr_UX (k0 := mm_XB + (16 : Int).toNat) (m := 0) (rest := [.ref 1000023]) (as := [wv 16]) (nx := 7) (r1 := 359) (r2 := 32) (r3 := 1000) rfl rfl rfl (of_decide_eq_true rfl) rfl rfl (by decide) rfl rfl (of_decide_eq_true rfl) (of_decide_eq_true rfl) ?_
    refine wi_aload_n (i := 0) (x := mm_XB + (16 : Int).toNat) (nx := 1) (r1 := 0) (r2 := 0) (r3 := 0) rfl rfl ?_
    refine wr_gx (k0 := mm_XB + (16 : Int).toNat) (v := vi 15) (nx := 4) (r1 := 4) (r2 := 0) (r3 := 1) rfl (by decide) (by decide) rfl ?_
    refine wi_ireturn (nx := 5) (r1 := 0) (r2 := 0) (r3 := 0) rfl rfl ?_
    refine wk_i ?_
    refine wr_xa (k0 := 1000023) (a := 15) (f := 15) (v := vi 11) .iaload (Or.inl ⟨rfl, rfl⟩) (nx := 8) (r1 := 0) (r2 := 0) (r3 := 0) rfl (by decide) rfl rfl (by decide) (by decide) rfl ?_
    refine wr_tsw (x := 11) 106 (nx := 44) (r1 := 0) (r2 := 0) (r3 := 0) rfl rfl ?_
    refine wi_aload_n (i := 0) (x := 68) (nx := 107) (r1 := 0) (r2 := 0) (r3 := 0) rfl rfl ?_
    refine wi_iload_n (i := 2) (e := a1) (nx := 108) (r1 := 0) (r2 := 0) (r3 := 0) rfl rfl ?_
    refine wr_V (k0 := 68) (rest := []) (as := [.ref 68, vi a1]) (nx := 111) (r1 := 189) (r2 := 1) (r3 := 8) rfl rfl rfl (of_decide_eq_true rfl) rfl rfl (by decide) rfl rfl (of_decide_eq_true rfl) (of_decide_eq_true rfl) ?_
    refine ct_189_68 hcr  g a1 (by omega)  (fun h1 z2 g1 u1 (fz2 : 0 ≤ z2 ∧ z2 ≤ 1) m1_0 => ?_)
    have F3 := F0.then (by decide +kernel) u1
    refine wk_i ?_
    refine wi_zreturn (nx := 112) (r1 := 0) (r2 := 0) (r3 := 0) rfl rfl (by omega) ?_
    exact k h1 z2 g1 F3 (by omega) (fun _ => by omega)
  ·
    refine wr_gst (v := .ref 1000023) (nx := 3) (r1 := 22) (r2 := 0) (r3 := 0) rfl rfl rfl ?_
    refine wi_aload_n (i := 1) (x := mm_XB + (17 : Int).toNat) (nx := 4) (r1 := 0) (r2 := 0) (r3 := 0) rfl rfl ?_
    refine wr_UX (k0 := mm_XB + (17 : Int).toNat) (m := 0) (rest := [.ref 1000023]) (as := [wv 17]) (nx := 7) (r1 := 359) (r2 := 32) (r3 := 1000) rfl rfl rfl (of_decide_eq_true rfl) rfl rfl (by decide) rfl rfl (of_decide_eq_true rfl) (of_decide_eq_true rfl) ?_
    refine wi_aload_n (i := 0) (x := mm_XB + (17 : Int).toNat) (nx := 1) (r1 := 0) (r2 := 0) (r3 := 0) rfl rfl ?_
    refine wr_gx (k0 := mm_XB + (17 : Int).toNat) (v := vi 16) (nx := 4) (r1 := 4) (r2 := 0) (r3 := 1) rfl (by decide) (by decide) rfl ?_
    refine wi_ireturn (nx := 5) (r1 := 0) (r2 := 0) (r3 := 0) rfl rfl ?_
    refine wk_i ?_
    refine wr_xa (k0 := 1000023) (a := 16) (f := 16) (v := vi 12) .iaload (Or.inl ⟨rfl, rfl⟩) (nx := 8) (r1 := 0) (r2 := 0) (r3 := 0) rfl (by decide) rfl rfl (by decide) (by decide) rfl ?_
    refine wr_tsw (x := 12) 112 (nx := 44) (r1 := 0) (r2 := 0) (r3 := 0) rfl rfl ?_
    refine wi_aload_n (i := 0) (x := 68) (nx := 113) (r1 := 0) (r2 := 0) (r3 := 0) rfl rfl ?_
    refine wi_iload_n (i := 2) (e := a1) (nx := 114) (r1 := 0) (r2 := 0) (r3 := 0) rfl rfl ?_
    refine wr_V (k0 := 68) (rest := []) (as := [.ref 68, vi a1]) (nx := 117) (r1 := 190) (r2 := 1) (r3 := 8) rfl rfl rfl (of_decide_eq_true rfl) rfl rfl (by decide) rfl rfl (of_decide_eq_true rfl) (of_decide_eq_true rfl) ?_
    refine ct_190_68 hcr  g a1 (by omega)  (fun h1 z2 g1 u1 (fz2 : 0 ≤ z2 ∧ z2 ≤ 1) m1_0 => ?_)
    have F3 := F0.then (by decide +kernel) u1
    refine wk_i ?_
    refine wi_zreturn (nx := 118) (r1 := 0) (r2 := 0) (r3 := 0) rfl rfl (by omega) ?_
    exact k h1 z2 g1 F3 (by omega) (fun _ => by omega)
  ·
    refine wr_gst (v := .ref 1000023) (nx := 3) (r1 := 22) (r2 := 0) (r3 := 0) rfl rfl rfl ?_
    refine wi_aload_n (i := 1) (x := mm_XB + (18 : Int).toNat) (nx := 4) (r1 := 0) (r2 := 0) (r3 := 0) rfl rfl ?_
    refine wr_UX (k0 := mm_XB + (18 : Int).toNat) (m := 0) (rest := [.ref 1000023]) (as := [wv 18]) (nx := 7) (r1 := 359) (r2 := 32) (r3 := 1000) rfl rfl rfl (of_decide_eq_true rfl) rfl rfl (by decide) rfl rfl (of_decide_eq_true rfl) (of_decide_eq_true rfl) ?_
    refine wi_aload_n (i := 0) (x := mm_XB + (18 : Int).toNat) (nx := 1) (r1 := 0) (r2 := 0) (r3 := 0) rfl rfl ?_
    refine wr_gx (k0 := mm_XB + (18 : Int).toNat) (v := vi 17) (nx := 4) (r1 := 4) (r2 := 0) (r3 := 1) rfl (by decide) (by decide) rfl ?_
    refine wi_ireturn (nx := 5) (r1 := 0) (r2 := 0) (r3 := 0) rfl rfl ?_
    refine wk_i ?_
    refine wr_xa (k0 := 1000023) (a := 17) (f := 17) (v := vi 13) .iaload (Or.inl ⟨rfl, rfl⟩) (nx := 8) (r1 := 0) (r2 := 0) (r3 := 0) rfl (by decide) rfl rfl (by decide) (by decide) rfl ?_
    refine wr_tsw (x := 13) 118 (nx := 44) (r1 := 0) (r2 := 0) (r3 := 0) rfl rfl ?_
    refine wi_aload_n (i := 0) (x := 68) (nx := 119) (r1 := 0) (r2 := 0) (r3 := 0) rfl rfl ?_
    refine wr_gr (k0 := 68) (x := 56) (nx := 122) (r1 := 8) (r2 := 2) (r3 := 0) rfl rfl (by decide) rfl ⟨rfl, rfl⟩ rfl ?_
    refine wr_V (k0 := 56) (rest := []) (as := [.ref 56]) (nx := 125) (r1 := 161) (r2 := 0) (r3 := 6) rfl rfl rfl (of_decide_eq_true rfl) rfl rfl (by decide) rfl rfl (of_decide_eq_true rfl) (of_decide_eq_true rfl) ?_
    refine ct_161_56 hcr  g    (fun h1 g1 u1 => ?_)
    have F2 := F0.then (by decide +kernel) u1
    refine wk_n ?_
    refine wi_aload_n (i := 0) (x := 68) (nx := 126) (r1 := 0) (r2 := 0) (r3 := 0) rfl rfl ?_
    refine wr_gr (k0 := 68) (x := 56) (nx := 129) (r1 := 8) (r2 := 2) (r3 := 0) rfl rfl (by decide) rfl ⟨rfl, rfl⟩ rfl ?_
    have b3 := gi_b (lo := 0) (hi := 1) g1 56 9 rfl
    refine wr_gi2 (k0 := 56) (x := h1 56 9) (nx := 132) (r1 := 6) (r2 := 9) (r3 := 0) rfl rfl (by decide) rfl ⟨rfl, rfl⟩ rfl rfl ?_
    refine wi_if (cd := .eq) (nx := 135) (r1 := 143) (r2 := 0) (r3 := 0) rfl (by omega) (fun (q4 : (h1 56 9) = 0) => ?_) (fun (q4 : ¬ ((h1 56 9) = 0)) => ?_)
    ·
      refine wi_aload_n (i := 0) (x := 68) (nx := 144) (r1 := 0) (r2 := 0) (r3 := 0) rfl rfl ?_
      refine wr_gr (k0 := 68) (x := 56) (nx := 147) (r1 := 8) (r2 := 2) (r3 := 0) rfl rfl (by decide) rfl ⟨rfl, rfl⟩ rfl ?_
      refine wr_gi2 (k0 := 56) (x := h1 56 9) (nx := 150) (r1 := 6) (r2 := 9) (r3 := 0) rfl rfl (by decide) rfl ⟨rfl, rfl⟩ rfl rfl ?_
      refine wi_if (cd := .eq) (nx := 153) (r1 := 167) (r2 := 0) (r3 := 0) rfl (by omega) (fun (q5 : (h1 56 9) = 0) => ?_) (fun (q5 : ¬ ((h1 56 9) = 0)) => by exfalso; omega)
      refine wi_iconst (n := 0) (nx := 168) (r1 := 0) (r2 := 0) (r3 := 0) rfl ?_
      refine wi_zreturn (nx := 169) (r1 := 0) (r2 := 0) (r3 := 0) rfl rfl (by omega) ?_
      exact k h1 0 g1 F2 (by omega) (fun _ => by omega)
    ·
      refine wi_aload_n (i := 0) (x := 68) (nx := 136) (r1 := 0) (r2 := 0) (r3 := 0) rfl rfl ?_
      refine wr_gr (k0 := 68) (x := 56) (nx := 139) (r1 := 8) (r2 := 2) (r3 := 0) rfl rfl (by decide) rfl ⟨rfl, rfl⟩ rfl ?_
      refine wr_V (k0 := 56) (rest := []) (as := [.ref 56]) (nx := 142) (r1 := 169) (r2 := 0) (r3 := 6) rfl rfl rfl (of_decide_eq_true rfl) rfl rfl (by decide) rfl rfl (of_decide_eq_true rfl) (of_decide_eq_true rfl) ?_
      refine ct_169_56 hcr  g1    (fun h5 z6 g5 u5 (fz6 : 0 ≤ z6 ∧ z6 ≤ 12) => ?_)
      have F7 := F2.then (by decide +kernel) u5
      refine wk_i ?_
      refine wi_pop (nx := 143) (r1 := 0) (r2 := 0) (r3 := 0) rfl rfl ?_
      refine wi_aload_n (i := 0) (x := 68) (nx := 144) (r1 := 0) (r2 := 0) (r3 := 0) rfl rfl ?_
      refine wr_gr (k0 := 68) (x := 56) (nx := 147) (r1 := 8) (r2 := 2) (r3 := 0) rfl rfl (by decide) rfl ⟨rfl, rfl⟩ rfl ?_
      refine wr_gi2 (k0 := 56) (x := h1 56 9) (nx := 150) (r1 := 6) (r2 := 9) (r3 := 0) rfl rfl (by decide) rfl ⟨rfl, rfl⟩ rfl (u5 56 9 rfl) ?_
      refine wi_if (cd := .eq) (nx := 153) (r1 := 167) (r2 := 0) (r3 := 0) rfl (by omega) (fun (q8 : (h1 56 9) = 0) => by exfalso; omega) (fun (q8 : ¬ ((h1 56 9) = 0)) => ?_)
      refine wi_aload_n (i := 0) (x := 68) (nx := 154) (r1 := 0) (r2 := 0) (r3 := 0) rfl rfl ?_
      refine wr_gr (k0 := 68) (x := 56) (nx := 157) (r1 := 8) (r2 := 2) (r3 := 0) rfl rfl (by decide) rfl ⟨rfl, rfl⟩ rfl ?_
      have b9 := gi_b (lo := 0) (hi := 1) g5 56 10 rfl
      refine wr_gi2 (k0 := 56) (x := h5 56 10) (nx := 160) (r1 := 6) (r2 := 10) (r3 := 0) rfl rfl (by decide) rfl ⟨rfl, rfl⟩ rfl rfl ?_
      refine wi_if (cd := .eq) (nx := 163) (r1 := 167) (r2 := 0) (r3 := 0) rfl (by omega) (fun (q10 : (h5 56 10) = 0) => ?_) (fun (q10 : ¬ ((h5 56 10) = 0)) => ?_)
      ·
        refine wi_iconst (n := 0) (nx := 168) (r1 := 0) (r2 := 0) (r3 := 0) rfl ?_
        refine wi_zreturn (nx := 169) (r1 := 0) (r2 := 0) (r3 := 0) rfl rfl (by omega) ?_
        exact k h5 0 g5 F7 (by omega) (fun _ => by omega)
      ·
        refine wi_iconst (n := 1) (nx := 164) (r1 := 0) (r2 := 0) (r3 := 0) rfl ?_
        refine wi_goto (nx := 167) (r1 := 168) (r2 := 0) (r3 := 0) rfl ?_
        refine wi_zreturn (nx := 169) (r1 := 0) (r2 := 0) (r3 := 0) rfl rfl (by omega) ?_
        exact k h5 1 g5 F7 (by omega) (fun _ => by omega)
  ·
    refine wr_gst (v := .ref 1000023) (nx := 3) (r1 := 22) (r2 := 0) (r3 := 0) rfl rfl rfl ?_
    refine wi_aload_n (i := 1) (x := mm_XB + (19 : Int).toNat) (nx := 4) (r1 := 0) (r2 := 0) (r3 := 0) rfl rfl ?_
    refine wr_UX (k0 := mm_XB + (19 : Int).toNat) (m := 0) (rest := [.ref 1000023]) (as := [wv 19]) (nx := 7) (r1 := 359) (r2 := 32) (r3 := 1000) rfl rfl rfl (of_decide_eq_true rfl) rfl rfl (by decide) rfl rfl (of_decide_eq_true rfl) (of_decide_eq_true rfl) ?_
    refine wi_aload_n (i := 0) (x := mm_XB + (19 : Int).toNat) (nx := 1) (r1 := 0) (r2 := 0) (r3 := 0) rfl rfl ?_
    refine wr_gx (k0 := mm_XB + (19 : Int).toNat) (v := vi 18) (nx := 4) (r1 := 4) (r2 := 0) (r3 := 1) rfl (by decide) (by decide) rfl ?_
    refine wi_ireturn (nx := 5) (r1 := 0) (r2 := 0) (r3 := 0) rfl rfl ?_
    refine wk_i ?_
    refine wr_xa (k0 := 1000023) (a := 18) (f := 18) (v := vi 14) .iaload (Or.inl ⟨rfl, rfl⟩) (nx := 8) (r1 := 0) (r2 := 0) (r3 := 0) rfl (by decide) rfl rfl (by decide) (by decide) rfl ?_
    refine wr_tsw (x := 14) 169 (nx := 44) (r1 := 0) (r2 := 0) (r3 := 0) rfl rfl ?_
    refine wi_aload_n (i := 0) (x := 68) (nx := 170) (r1 := 0) (r2 := 0) (r3 := 0) rfl rfl ?_
    refine wr_gr (k0 := 68) (x := 63) (nx := 173) (r1 := 8) (r2 := 3) (r3 := 0) rfl rfl (by decide) rfl ⟨rfl, rfl⟩ rfl ?_
    refine wr_V (k0 := 63) (rest := []) (as := [.ref 63]) (nx := 176) (r1 := 171) (r2 := 0) (r3 := 7) rfl rfl rfl (of_decide_eq_true rfl) rfl rfl (by decide) rfl rfl (of_decide_eq_true rfl) (of_decide_eq_true rfl) ?_
    refine ct_171_63 hcr  g    (fun h1 g1 u1 => ?_)
    have F2 := F0.then (by decide +kernel) u1
    refine wk_n ?_
    refine wi_aload_n (i := 0) (x := 68) (nx := 177) (r1 := 0) (r2 := 0) (r3 := 0) rfl rfl ?_
    refine wr_gr (k0 := 68) (x := 63) (nx := 180) (r1 := 8) (r2 := 3) (r3 := 0) rfl rfl (by decide) rfl ⟨rfl, rfl⟩ rfl ?_
    refine wr_V (k0 := 63) (rest := []) (as := [.ref 63]) (nx := 183) (r1 := 180) (r2 := 0) (r3 := 7) rfl rfl rfl (of_decide_eq_true rfl) rfl rfl (by decide) rfl rfl (of_decide_eq_true rfl) (of_decide_eq_true rfl) ?_
    refine ct_180_63 hcr  g1    (fun h3 z4 g3 u3 (fz4 : -2147483648 ≤ z4 ∧ z4 ≤ 2147483647) => ?_)
    have F5 := F2.then (by decide +kernel) u3
    refine wk_i ?_
    refine wi_pop (nx := 184) (r1 := 0) (r2 := 0) (r3 := 0) rfl rfl ?_
    refine wi_iconst (n := 1) (nx := 185) (r1 := 0) (r2 := 0) (r3 := 0) rfl ?_
    refine wi_zreturn (nx := 186) (r1 := 0) (r2 := 0) (r3 := 0) rfl rfl (by omega) ?_
    exact k h3 1 g3 F5 (by omega) (fun _ => by omega)
  ·
    refine wr_gst (v := .ref 1000023) (nx := 3) (r1 := 22) (r2 := 0) (r3 := 0) rfl rfl rfl ?_
    refine wi_aload_n (i := 1) (x := mm_XB + (20 : Int).toNat) (nx := 4) (r1 := 0) (r2 := 0) (r3 := 0) rfl rfl ?_
    refine wr_UX (k0 := mm_XB + (20 : Int).toNat) (m := 0) (rest := [.ref 1000023]) (as := [wv 20]) (nx := 7) (r1 := 359) (r2 := 32) (r3 := 1000) rfl rfl rfl (of_decide_eq_true rfl) rfl rfl (by decide) rfl rfl (of_decide_eq_true rfl) (of_decide_eq_true rfl) ?_
    refine wi_aload_n (i := 0) (x := mm_XB + (20 : Int).toNat) (nx := 1) (r1 := 0) (r2 := 0) (r3 := 0) rfl rfl ?_
    refine wr_gx (k0 := mm_XB + (20 : Int).toNat) (v := vi 19) (nx := 4) (r1 := 4) (r2 := 0) (r3 := 1) rfl (by decide) (by decide) rfl ?_
    refine wi_ireturn (nx := 5) (r1 := 0) (r2 := 0) (r3 := 0) rfl rfl ?_
    refine wk_i ?_
    refine wr_xa (k0 := 1000023) (a := 19) (f := 19) (v := vi 0) .iaload (Or.inl ⟨rfl, rfl⟩) (nx := 8) (r1 := 0) (r2 := 0) (r3 := 0) rfl (by decide) rfl rfl (by decide) (by decide) rfl ?_
    refine wr_tsw (x := 0) 186 (nx := 44) (r1 := 0) (r2 := 0) (r3 := 0) rfl rfl ?_
    refine wi_iconst (n := 0) (nx := 187) (r1 := 0) (r2 := 0) (r3 := 0) rfl ?_
    refine wi_zreturn (nx := 188) (r1 := 0) (r2 := 0) (r3 := 0) rfl rfl (by omega) ?_
    exact k h 0 g F0 (by omega) (fun _ => by omega)
  ·
    refine wr_gst (v := .ref 1000023) (nx := 3) (r1 := 22) (r2 := 0) (r3 := 0) rfl rfl rfl ?_
    refine wi_aload_n (i := 1) (x := mm_XB + (21 : Int).toNat) (nx := 4) (r1 := 0) (r2 := 0) (r3 := 0) rfl rfl ?_
    refine wr_UX (k0 := mm_XB + (21 : Int).toNat) (m := 0) (rest := [.ref 1000023]) (as := [wv 21]) (nx := 7) (r1 := 359) (r2 := 32) (r3 := 1000) rfl rfl rfl (of_decide_eq_true rfl) rfl rfl (by decide) rfl rfl (of_decide_eq_true rfl) (of_decide_eq_true rfl) ?_
    refine wi_aload_n (i := 0) (x := mm_XB + (21 : Int).toNat) (nx := 1) (r1 := 0) (r2 := 0) (r3 := 0) rfl rfl ?_
    refine wr_gx (k0 := mm_XB + (21 : Int).toNat) (v := vi 20) (nx := 4) (r1 := 4) (r2 := 0) (r3 := 1) rfl (by decide) (by decide) rfl ?_
    refine wi_ireturn (nx := 5) (r1 := 0) (r2 := 0) (r3 := 0) rfl rfl ?_
    refine wk_i ?_
    refine wr_xa (k0 := 1000023) (a := 20) (f := 20) (v := vi 0) .iaload (Or.inl ⟨rfl, rfl⟩) (nx := 8) (r1 := 0) (r2 := 0) (r3 := 0) rfl (by decide) rfl rfl (by decide) (by decide) rfl ?_
    refine wr_tsw (x := 0) 186 (nx := 44) (r1 := 0) (r2 := 0) (r3 := 0) rfl rfl ?_
    refine wi_iconst (n := 0) (nx := 187) (r1 := 0) (r2 := 0) (r3 := 0) rfl ?_
    refine wi_zreturn (nx := 188) (r1 := 0) (r2 := 0) (r3 := 0) rfl rfl (by omega) ?_
    exact k h 0 g F0 (by omega) (fun _ => by omega)
-- method 187: Script.behindBracket(I)I
set_option maxRecDepth 100000 in
set_option maxHeartbeats 100000000 in
theorem ct_187_68 {L : Nat} {xs : Nat → Int32} {d b c : Nat} {h : hp} {cr : Nat → Nat → Option Nat} {Q : hp_Q} (hcr : CR cr)  (g : GI h) (a0 : Int) (q0_ : 0 ≤ a0 ∧ a0 ≤ 79)  (k : ∀ (h2 : hp) (z0 : Int) , GI h2 → FR [(71, 71, none)] h h2 → (1 ≤ z0 ∧ z0 ≤ 80) → Q (.inl (some (vi z0))) (hp_w h2 cr) b c) : wp (md_xa (L, xs)) d 187 (0, [(0, .ref 68), (1, vi a0)], [], hp_w h cr, b, c) Q := by
  have F0 : FR [(71, 71, none)] h h := FR.refl
  refine wi_aload_n (i := 0) (x := 68) (nx := 1) (r1 := 0) (r2 := 0) (r3 := 0) rfl rfl ?_
  refine wr_gr (k0 := 68) (x := 70) (nx := 4) (r1 := 8) (r2 := 5) (r3 := 0) rfl rfl (by decide) rfl ⟨rfl, rfl⟩ rfl ?_
  refine wi_iload_n (i := 1) (e := a0) (nx := 5) (r1 := 0) (r2 := 0) (r3 := 0) rfl rfl ?_
  obtain ⟨i1, ei1⟩ : ∃ q : Nat, a0 = (q : Int) := ⟨(a0).toNat, by omega⟩
  have b2 := gi_b (lo := -2147483648) (hi := 2147483647) g 70 i1 rfl
  refine wr_ia (k0 := 70) (a := a0) (f := i1) (x := h 70 i1) (nx := 6) (r1 := 0) (r2 := 0) (r3 := 0) rfl (by decide) rfl (by omega) (by omega) (by decide) rfl ?_
  refine wi_istore_n (i := 2) (e := h 70 i1) (lo2 := [(2, vi (h 70 i1)), (0, .ref 68), (1, vi a0)]) (nx := 7) (r1 := 0) (r2 := 0) (r3 := 0) rfl rfl ?_
  refine wi_iload_n (i := 2) (e := h 70 i1) (nx := 8) (r1 := 0) (r2 := 0) (r3 := 0) rfl rfl ?_
  refine wi_if (cd := .lt) (nx := 11) (r1 := 16) (r2 := 0) (r3 := 0) rfl (by omega) (fun (q3 : (h 70 i1) < 0) => ?_) (fun (q3 : ¬ ((h 70 i1) < 0)) => ?_)
  ·
    refine wi_iload_n (i := 1) (e := a0) (nx := 17) (r1 := 0) (r2 := 0) (r3 := 0) rfl rfl ?_
    refine wi_iconst (n := 1) (nx := 18) (r1 := 0) (r2 := 0) (r3 := 0) rfl ?_
    refine wr_add (nx := 19) (r1 := 0) (r2 := 0) (r3 := 0) rfl (fun e4 (fe4 : e4 = a0 + 1) => ?_)
    refine wi_ireturn (nx := 20) (r1 := 0) (r2 := 0) (r3 := 0) rfl rfl ?_
    exact k h e4 g F0 (by omega)
  ·
    refine wi_iload_n (i := 2) (e := h 70 i1) (nx := 12) (r1 := 0) (r2 := 0) (r3 := 0) rfl rfl ?_
    refine wi_iload_n (i := 1) (e := a0) (nx := 13) (r1 := 0) (r2 := 0) (r3 := 0) rfl rfl ?_
    refine wi_icmp (cd := .lt) (nx := 16) (r1 := 20) (r2 := 0) (r3 := 0) rfl (by omega) (by omega) (fun (q4 : (h 70 i1) < a0) => ?_) (fun (q4 : ¬ ((h 70 i1) < a0)) => ?_)
    ·
      refine wi_aload_n (i := 0) (x := 68) (nx := 21) (r1 := 0) (r2 := 0) (r3 := 0) rfl rfl ?_
      refine wr_gr (k0 := 68) (x := 71) (nx := 24) (r1 := 8) (r2 := 6) (r3 := 0) rfl rfl (by decide) rfl ⟨rfl, rfl⟩ rfl ?_
      refine wi_iload_n (i := 2) (e := h 70 i1) (nx := 25) (r1 := 0) (r2 := 0) (r3 := 0) rfl rfl ?_
      refine wi_dup2 (nx := 26) (r1 := 0) (r2 := 0) (r3 := 0) rfl rfl rfl ?_
      obtain ⟨i5, ei5⟩ : ∃ q : Nat, (h 70 i1) = (q : Int) := ⟨(h 70 i1).toNat, by omega⟩
      have b6 := gi_b (lo := -2147483648) (hi := 2147483647) g 71 i5 rfl
      refine wr_ia (k0 := 71) (a := h 70 i1) (f := i5) (x := h 71 i5) (nx := 27) (r1 := 0) (r2 := 0) (r3 := 0) rfl (by decide) rfl (by omega) (by omega) (by decide) rfl ?_
      refine wi_iconst (n := 1) (nx := 28) (r1 := 0) (r2 := 0) (r3 := 0) rfl ?_
      refine wr_subW (nx := 29) (r1 := 0) (r2 := 0) (r3 := 0) rfl (fun e7 (fe7 : -2147483648 ≤ e7 ∧ e7 ≤ 2147483647) => ?_)
      refine wr_is (k0 := 71) (a := h 70 i1) (f := i5) (x := e7) (bl := -2147483648) (bh := 2147483647) (nx := 30) (r1 := 0) (r2 := 0) (r3 := 0) rfl (by decide) rfl (by omega) (by omega) (by decide) g rfl (by omega) (fun h8 g8 w8 u8 => ?_)
      have F9 := F0.then rfl (FR.rngp (lo := 71) (hi := 71) u8 (by decide))
      refine wi_aload_n (i := 0) (x := 68) (nx := 31) (r1 := 0) (r2 := 0) (r3 := 0) rfl rfl ?_
      refine wr_gr (k0 := 68) (x := 71) (nx := 34) (r1 := 8) (r2 := 6) (r3 := 0) rfl rfl (by decide) rfl ⟨rfl, rfl⟩ rfl ?_
      refine wi_iload_n (i := 2) (e := h 70 i1) (nx := 35) (r1 := 0) (r2 := 0) (r3 := 0) rfl rfl ?_
      refine wr_ia (k0 := 71) (a := h 70 i1) (f := i5) (x := e7) (nx := 36) (r1 := 0) (r2 := 0) (r3 := 0) rfl (by decide) rfl (by omega) (by omega) (by decide) w8 ?_
      refine wi_if (cd := .le) (nx := 39) (r1 := 45) (r2 := 0) (r3 := 0) rfl (by omega) (fun (q10 : e7 ≤ 0) => ?_) (fun (q10 : ¬ (e7 ≤ 0)) => ?_)
      ·
        refine wi_iload_n (i := 1) (e := a0) (nx := 46) (r1 := 0) (r2 := 0) (r3 := 0) rfl rfl ?_
        refine wi_iconst (n := 1) (nx := 47) (r1 := 0) (r2 := 0) (r3 := 0) rfl ?_
        refine wr_add (nx := 48) (r1 := 0) (r2 := 0) (r3 := 0) rfl (fun e11 (fe11 : e11 = a0 + 1) => ?_)
        refine wi_ireturn (nx := 49) (r1 := 0) (r2 := 0) (r3 := 0) rfl rfl ?_
        exact k h8 e11 g8 F9 (by omega)
      ·
        refine wi_iload_n (i := 2) (e := h 70 i1) (nx := 40) (r1 := 0) (r2 := 0) (r3 := 0) rfl rfl ?_
        refine wi_iconst (n := 1) (nx := 41) (r1 := 0) (r2 := 0) (r3 := 0) rfl ?_
        refine wr_add (nx := 42) (r1 := 0) (r2 := 0) (r3 := 0) rfl (fun e11 (fe11 : e11 = (h 70 i1) + 1) => ?_)
        refine wi_goto (nx := 45) (r1 := 48) (r2 := 0) (r3 := 0) rfl ?_
        refine wi_ireturn (nx := 49) (r1 := 0) (r2 := 0) (r3 := 0) rfl rfl ?_
        exact k h8 e11 g8 F9 (by omega)
    ·
      refine wi_iload_n (i := 1) (e := a0) (nx := 17) (r1 := 0) (r2 := 0) (r3 := 0) rfl rfl ?_
      refine wi_iconst (n := 1) (nx := 18) (r1 := 0) (r2 := 0) (r3 := 0) rfl ?_
      refine wr_add (nx := 19) (r1 := 0) (r2 := 0) (r3 := 0) rfl (fun e5 (fe5 : e5 = a0 + 1) => ?_)
      refine wi_ireturn (nx := 20) (r1 := 0) (r2 := 0) (r3 := 0) rfl rfl ?_
      exact k h e5 g F0 (by omega)
-- method 186: Script.play()I
set_option maxRecDepth 100000 in
set_option maxHeartbeats 100000000 in
theorem ct_186_68 {L : Nat} {xs : Nat → Int32} {d b c : Nat} {h : hp} {cr : Nat → Nat → Option Nat} {Q : hp_Q} (hcr : CR cr)  (g : GI h)    (k : ∀ (h2 : hp) (z0 : Int) , GI h2 → FR [(18, 36, none), (57, 57, none), (58, 58, none), (59, 59, none), (60, 60, none), (61, 62, none), (64, 64, none), (65, 65, none), (66, 67, none), (71, 71, none), (56, 56, some (6, 6)), (56, 56, some (7, 7)), (56, 56, some (9, 9)), (56, 56, some (10, 10)), (56, 56, some (11, 11)), (56, 56, some (12, 12)), (63, 63, some (4, 4)), (63, 63, some (5, 5)), (63, 63, some (7, 7))] h h2 → (0 ≤ z0 ∧ z0 ≤ 100) → Q (.inl (some (vi z0))) (hp_w h2 cr) b c) : wp (md_xa (L, xs)) (d + 104) 186 (0, [(0, .ref 68)], [], hp_w h cr, b, c) Q := by
  have F0 : FR [(18, 36, none), (57, 57, none), (58, 58, none), (59, 59, none), (60, 60, none), (61, 62, none), (64, 64, none), (65, 65, none), (66, 67, none), (71, 71, none), (56, 56, some (6, 6)), (56, 56, some (7, 7)), (56, 56, some (9, 9)), (56, 56, some (10, 10)), (56, 56, some (11, 11)), (56, 56, some (12, 12)), (63, 63, some (4, 4)), (63, 63, some (5, 5)), (63, 63, some (7, 7))] h h := FR.refl
  refine wi_iconst (n := 0) (nx := 1) (r1 := 0) (r2 := 0) (r3 := 0) rfl ?_
  refine wi_istore_n (i := 1) (e := 0) (lo2 := [(1, vi 0), (0, .ref 68)]) (nx := 2) (r1 := 0) (r2 := 0) (r3 := 0) rfl rfl ?_
  refine wi_iconst (n := 0) (nx := 3) (r1 := 0) (r2 := 0) (r3 := 0) rfl ?_
  refine wi_istore_n (i := 2) (e := 0) (lo2 := [(2, vi 0), (1, vi 0), (0, .ref 68)]) (nx := 4) (r1 := 0) (r2 := 0) (r3 := 0) rfl rfl ?_
  refine wi_iconst (n := 0) (nx := 5) (r1 := 0) (r2 := 0) (r3 := 0) rfl ?_
  refine wi_istore_n (i := 3) (e := 0) (lo2 := [(3, vi 0), (2, vi 0), (1, vi 0), (0, .ref 68)]) (nx := 6) (r1 := 0) (r2 := 0) (r3 := 0) rfl rfl ?_
  refine wp.lo (lo := [(0, .ref 68), (1, vi 0), (2, vi 0), (3, vi 0)]) ⟨rfl, rfl, rfl, rfl, trivial⟩ rfl ?_
  refine wl_3 (fun x1 x2 x3 h4 => GI h4 ∧ FR [(18, 36, none), (57, 57, none), (58, 58, none), (59, 59, none), (60, 60, none), (61, 62, none), (64, 64, none), (65, 65, none), (66, 67, none), (71, 71, none), (56, 56, some (6, 6)), (56, 56, some (7, 7)), (56, 56, some (9, 9)), (56, 56, some (10, 10)), (56, 56, some (11, 11)), (56, 56, some (12, 12)), (63, 63, some (4, 4)), (63, 63, some (5, 5)), (63, 63, some (7, 7))] h h4 ∧ FR [(18, 36, none), (57, 57, none), (58, 58, none), (59, 59, none), (60, 60, none), (61, 62, none), (64, 64, none), (65, 65, none), (66, 67, none), (71, 71, none), (56, 56, some (6, 6)), (56, 56, some (7, 7)), (56, 56, some (9, 9)), (56, 56, some (10, 10)), (56, 56, some (11, 11)), (56, 56, some (12, 12)), (63, 63, some (4, 4)), (63, 63, some (5, 5)), (63, 63, some (7, 7))] h h4 ∧ ((0 ≤ x1 ∧ x1 ≤ 100) ∧ (0 ≤ x2 ∧ x2 ≤ 80) ∧ (0 ≤ x3 ∧ x3 ≤ 1000000))) (fun x1 x2 x3 h4 => ((1000000 : Int) + 1 - x3).toNat) (fun x1 x2 x3 h4 => (6, [(0, .ref 68), (1, vi x1), (2, vi x2), (3, vi x3)], [], hp_w h4 cr, b, c)) ?_ 0 0 0 h ⟨g, F0, FR.refl, (show (0 ≤ 0 ∧ 0 ≤ 100) ∧ (0 ≤ 0 ∧ 0 ≤ 80) ∧ (0 ≤ 0 ∧ 0 ≤ 1000000) by omega)⟩
  intro x1 x2 x3 h4 ⟨g4, F5, u4, f4⟩ I4
  refine wi_iload_n (i := 3) (e := x3) (nx := 7) (r1 := 0) (r2 := 0) (r3 := 0) rfl rfl ?_
  refine wi_ldc (e := 1000000) (nx := 9) (r1 := 0) (r2 := 1000000) (r3 := 0) rfl rfl (by decide) ?_
  refine wi_icmp (cd := .ge) (nx := 12) (r1 := 110) (r2 := 0) (r3 := 0) rfl (by omega) (by omega) (fun (q6 : 1000000 ≤ x3) => ?_) (fun (q6 : ¬ (1000000 ≤ x3)) => ?_)
  ·
    refine wi_iload_n (i := 1) (e := x1) (nx := 111) (r1 := 0) (r2 := 0) (r3 := 0) rfl rfl ?_
    refine wi_ireturn (nx := 112) (r1 := 0) (r2 := 0) (r3 := 0) rfl rfl ?_
    exact k h4 x1 g4 F5 (by omega)
  ·
    refine wi_iload_n (i := 2) (e := x2) (nx := 13) (r1 := 0) (r2 := 0) (r3 := 0) rfl rfl ?_
    refine wi_aload_n (i := 0) (x := 68) (nx := 14) (r1 := 0) (r2 := 0) (r3 := 0) rfl rfl ?_
    have b7 := gi_b (lo := 0) (hi := 80) g 68 10 rfl
    refine wr_gi0 (k0 := 68) (x := h 68 10) (nx := 17) (r1 := 8) (r2 := 10) (r3 := 0) rfl rfl (by decide) rfl ⟨rfl, rfl⟩ rfl (u4 68 10 rfl) ?_
    refine wi_icmp (cd := .ge) (nx := 20) (r1 := 110) (r2 := 0) (r3 := 0) rfl (by omega) (by omega) (fun (q8 : (h 68 10) ≤ x2) => ?_) (fun (q8 : ¬ ((h 68 10) ≤ x2)) => ?_)
    ·
      refine wi_iload_n (i := 1) (e := x1) (nx := 111) (r1 := 0) (r2 := 0) (r3 := 0) rfl rfl ?_
      refine wi_ireturn (nx := 112) (r1 := 0) (r2 := 0) (r3 := 0) rfl rfl ?_
      exact k h4 x1 g4 F5 (by omega)
    ·
      refine wi_aload_n (i := 0) (x := 68) (nx := 21) (r1 := 0) (r2 := 0) (r3 := 0) rfl rfl ?_
      refine wr_gr (k0 := 68) (x := 69) (nx := 24) (r1 := 8) (r2 := 4) (r3 := 0) rfl rfl (by decide) rfl ⟨rfl, rfl⟩ rfl ?_
      refine wi_iload_n (i := 2) (e := x2) (nx := 25) (r1 := 0) (r2 := 0) (r3 := 0) rfl rfl ?_
      obtain ⟨i9, ei9⟩ : ∃ q : Nat, x2 = (q : Int) := ⟨(x2).toNat, by omega⟩
      have b10 := gi_b (lo := 1) (hi := 21) g 69 i9 rfl
      refine wr_aw (k0 := 69) (a := x2) (f := i9) (x := h 69 i9) (nx := 26) (r1 := 0) (r2 := 0) (r3 := 0) rfl (by decide) rfl (by omega) (by omega) (by decide) (u4 69 i9 (fo_nk rfl)) ?_
      refine wr_gst (v := wv 20) (nx := 29) (r1 := 19) (r2 := 0) (r3 := 0) rfl rfl rfl ?_
      refine wr_acmp (cd := .ne) (x := h 69 i9) (y := 20) (nx := 32) (r1 := 50) (r2 := 0) (r3 := 0) rfl (by omega) (by omega) (fun (q11 : ((h 69 i9) = 20 ↔ Jvm.ClassFile.ACond.ne = .eq)) => ?_) (fun (q11 : ¬ ((h 69 i9) = 20 ↔ Jvm.ClassFile.ACond.ne = .eq)) => ?_)
      ·
        have q11 : ¬ ((h 69 i9) = 20) := by simpa using q11
        refine wi_aload_n (i := 0) (x := 68) (nx := 51) (r1 := 0) (r2 := 0) (r3 := 0) rfl rfl ?_
        refine wr_gr (k0 := 68) (x := 69) (nx := 54) (r1 := 8) (r2 := 4) (r3 := 0) rfl rfl (by decide) rfl ⟨rfl, rfl⟩ rfl ?_
        refine wi_iload_n (i := 2) (e := x2) (nx := 55) (r1 := 0) (r2 := 0) (r3 := 0) rfl rfl ?_
        refine wr_aw (k0 := 69) (a := x2) (f := i9) (x := h 69 i9) (nx := 56) (r1 := 0) (r2 := 0) (r3 := 0) rfl (by decide) rfl (by omega) (by omega) (by decide) (u4 69 i9 (fo_nk rfl)) ?_
        refine wr_gst (v := wv 21) (nx := 59) (r1 := 20) (r2 := 0) (r3 := 0) rfl rfl rfl ?_
        refine wr_acmp (cd := .ne) (x := h 69 i9) (y := 21) (nx := 62) (r1 := 71) (r2 := 0) (r3 := 0) rfl (by omega) (by omega) (fun (q12 : ((h 69 i9) = 21 ↔ Jvm.ClassFile.ACond.ne = .eq)) => ?_) (fun (q12 : ¬ ((h 69 i9) = 21 ↔ Jvm.ClassFile.ACond.ne = .eq)) => ?_)
        ·
          have q12 : ¬ ((h 69 i9) = 21) := by simpa using q12
          refine wi_iload_n (i := 1) (e := x1) (nx := 72) (r1 := 0) (r2 := 0) (r3 := 0) rfl rfl ?_
          refine wi_bipush (n := 100) (nx := 74) (r1 := 0) (r2 := 0) (r3 := 0) rfl (by decide) ?_
          refine wi_icmp (cd := .ge) (nx := 77) (r1 := 96) (r2 := 0) (r3 := 0) rfl (by omega) (by omega) (fun (q13 : 100 ≤ x1) => ?_) (fun (q13 : ¬ (100 ≤ x1)) => ?_)
          ·
            refine wi_iload_n (i := 1) (e := x1) (nx := 97) (r1 := 0) (r2 := 0) (r3 := 0) rfl rfl ?_
            refine wi_ireturn (nx := 98) (r1 := 0) (r2 := 0) (r3 := 0) rfl rfl ?_
            exact k h4 x1 g4 F5 (by omega)
          ·
            refine wi_aload_n (i := 0) (x := 68) (nx := 78) (r1 := 0) (r2 := 0) (r3 := 0) rfl rfl ?_
            refine wi_aload_n (i := 0) (x := 68) (nx := 79) (r1 := 0) (r2 := 0) (r3 := 0) rfl rfl ?_
            refine wr_gr (k0 := 68) (x := 69) (nx := 82) (r1 := 8) (r2 := 4) (r3 := 0) rfl rfl (by decide) rfl ⟨rfl, rfl⟩ rfl ?_
            refine wi_iload_n (i := 2) (e := x2) (nx := 83) (r1 := 0) (r2 := 0) (r3 := 0) rfl rfl ?_
            refine wr_aw (k0 := 69) (a := x2) (f := i9) (x := h 69 i9) (nx := 84) (r1 := 0) (r2 := 0) (r3 := 0) rfl (by decide) rfl (by omega) (by omega) (by decide) (u4 69 i9 (fo_nk rfl)) ?_
            refine wi_aload_n (i := 0) (x := 68) (nx := 85) (r1 := 0) (r2 := 0) (r3 := 0) rfl rfl ?_
            refine wr_gr (k0 := 68) (x := 70) (nx := 88) (r1 := 8) (r2 := 5) (r3 := 0) rfl rfl (by decide) rfl ⟨rfl, rfl⟩ rfl ?_
            refine wi_iload_n (i := 2) (e := x2) (nx := 89) (r1 := 0) (r2 := 0) (r3 := 0) rfl rfl ?_
            have b14 := gi_b (lo := -2147483648) (hi := 2147483647) g 70 i9 rfl
            refine wr_ia (k0 := 70) (a := x2) (f := i9) (x := h 70 i9) (nx := 90) (r1 := 0) (r2 := 0) (r3 := 0) rfl (by decide) rfl (by omega) (by omega) (by decide) (u4 70 i9 (fo_nk rfl)) ?_
            refine wr_V (k0 := 68) (rest := []) (as := [.ref 68, wv (h 69 i9), vi (h 70 i9)]) (nx := 93) (r1 := 188) (r2 := 2) (r3 := 8) rfl rfl rfl (of_decide_eq_true rfl) rfl rfl (by decide) rfl rfl (of_decide_eq_true rfl) (of_decide_eq_true rfl) ?_
            refine ct_188_68 hcr  g4 (h 69 i9) (h 70 i9) (by omega) (by omega)  (fun h15 z16 g15 u15 (fz16 : 0 ≤ z16 ∧ z16 ≤ 1) m15_0 => ?_)
            have F17 := F5.then (by decide +kernel) u15
            have F18 := u4.then (by decide +kernel) u15
            refine wk_i ?_
            refine wi_if (cd := .ne) (nx := 96) (r1 := 98) (r2 := 0) (r3 := 0) rfl (by omega) (fun (q19 : z16 ≠ 0) => ?_) (fun (q19 : ¬ (z16 ≠ 0)) => ?_)
            ·
              have f20 : 13 ≤ (h 69 i9) ∧ (h 69 i9) ≤ 19 := m15_0 (by omega)
              refine wr_iinc (i := 1) (n := 1) (v := x1) (fun e21 => [(1, vi e21), (0, .ref 68), (2, vi x2), (3, vi x3)]) (nx := 101) (r1 := 0) (r2 := 0) (r3 := 0) rfl rfl (fun _ => rfl) (fun e21 (fe21 : e21 = x1 + 1) => ?_)
              refine wr_iinc (i := 2) (n := 1) (v := x2) (fun e22 => [(2, vi e22), (1, vi e21), (0, .ref 68), (3, vi x3)]) (nx := 104) (r1 := 0) (r2 := 0) (r3 := 0) rfl rfl (fun _ => rfl) (fun e22 (fe22 : e22 = x2 + 1) => ?_)
              refine wr_iinc (i := 3) (n := 1) (v := x3) (fun e23 => [(3, vi e23), (2, vi e22), (1, vi e21), (0, .ref 68)]) (nx := 107) (r1 := 0) (r2 := 0) (r3 := 0) rfl rfl (fun _ => rfl) (fun e23 (fe23 : e23 = x3 + 1) => ?_)
              refine wi_goto (nx := 110) (r1 := 6) (r2 := 0) (r3 := 0) rfl ?_
              refine wp.lo (lo := [(0, .ref 68), (1, vi e21), (2, vi e22), (3, vi e23)]) ⟨rfl, rfl, rfl, rfl, trivial⟩ rfl ?_
              exact I4 e21 e22 e23 h15 ⟨g15, F17, F18, (show (0 ≤ e21 ∧ e21 ≤ 100) ∧ (0 ≤ e22 ∧ e22 ≤ 80) ∧ (0 ≤ e23 ∧ e23 ≤ 1000000) by omega)⟩ (show ((1000000 : Int) + 1 - e23).toNat < ((1000000 : Int) + 1 - x3).toNat by omega)
            ·
              refine wi_iload_n (i := 1) (e := x1) (nx := 97) (r1 := 0) (r2 := 0) (r3 := 0) rfl rfl ?_
              refine wi_ireturn (nx := 98) (r1 := 0) (r2 := 0) (r3 := 0) rfl rfl ?_
              exact k h15 x1 g15 F17 (by omega)
        ·
          have q12 : ((h 69 i9) = 21) := by simpa using q12
          refine wi_aload_n (i := 0) (x := 68) (nx := 63) (r1 := 0) (r2 := 0) (r3 := 0) rfl rfl ?_
          refine wi_iload_n (i := 2) (e := x2) (nx := 64) (r1 := 0) (r2 := 0) (r3 := 0) rfl rfl ?_
          refine wr_V (k0 := 68) (rest := []) (as := [.ref 68, vi x2]) (nx := 67) (r1 := 187) (r2 := 1) (r3 := 8) rfl rfl rfl (of_decide_eq_true rfl) rfl rfl (by decide) rfl rfl (of_decide_eq_true rfl) (of_decide_eq_true rfl) ?_
          refine ct_187_68 hcr  g4 x2 (by omega)  (fun h13 z14 g13 u13 (fz14 : 1 ≤ z14 ∧ z14 ≤ 80) => ?_)
          have F15 := F5.then (by decide +kernel) u13
          have F16 := u4.then (by decide +kernel) u13
          refine wk_i ?_
          refine wi_istore_n (i := 2) (e := z14) (lo2 := [(2, vi z14), (0, .ref 68), (1, vi x1), (3, vi x3)]) (nx := 68) (r1 := 0) (r2 := 0) (r3 := 0) rfl rfl ?_
          refine wi_goto (nx := 71) (r1 := 104) (r2 := 0) (r3 := 0) rfl ?_
          refine wr_iinc (i := 3) (n := 1) (v := x3) (fun e17 => [(3, vi e17), (2, vi z14), (0, .ref 68), (1, vi x1)]) (nx := 107) (r1 := 0) (r2 := 0) (r3 := 0) rfl rfl (fun _ => rfl) (fun e17 (fe17 : e17 = x3 + 1) => ?_)
          refine wi_goto (nx := 110) (r1 := 6) (r2 := 0) (r3 := 0) rfl ?_
          refine wp.lo (lo := [(0, .ref 68), (1, vi x1), (2, vi z14), (3, vi e17)]) ⟨rfl, rfl, rfl, rfl, trivial⟩ rfl ?_
          exact I4 x1 z14 e17 h13 ⟨g13, F15, F16, (show (0 ≤ x1 ∧ x1 ≤ 100) ∧ (0 ≤ z14 ∧ z14 ≤ 80) ∧ (0 ≤ e17 ∧ e17 ≤ 1000000) by omega)⟩ (show ((1000000 : Int) + 1 - e17).toNat < ((1000000 : Int) + 1 - x3).toNat by omega)
      ·
        have q11 : ((h 69 i9) = 20) := by simpa using q11
        refine wi_aload_n (i := 0) (x := 68) (nx := 33) (r1 := 0) (r2 := 0) (r3 := 0) rfl rfl ?_
        refine wr_gr (k0 := 68) (x := 71) (nx := 36) (r1 := 8) (r2 := 6) (r3 := 0) rfl rfl (by decide) rfl ⟨rfl, rfl⟩ rfl ?_
        refine wi_iload_n (i := 2) (e := x2) (nx := 37) (r1 := 0) (r2 := 0) (r3 := 0) rfl rfl ?_
        refine wi_aload_n (i := 0) (x := 68) (nx := 38) (r1 := 0) (r2 := 0) (r3 := 0) rfl rfl ?_
        refine wr_gr (k0 := 68) (x := 70) (nx := 41) (r1 := 8) (r2 := 5) (r3 := 0) rfl rfl (by decide) rfl ⟨rfl, rfl⟩ rfl ?_
        refine wi_iload_n (i := 2) (e := x2) (nx := 42) (r1 := 0) (r2 := 0) (r3 := 0) rfl rfl ?_
        have b12 := gi_b (lo := -2147483648) (hi := 2147483647) g 70 i9 rfl
        refine wr_ia (k0 := 70) (a := x2) (f := i9) (x := h 70 i9) (nx := 43) (r1 := 0) (r2 := 0) (r3 := 0) rfl (by decide) rfl (by omega) (by omega) (by decide) (u4 70 i9 (fo_nk rfl)) ?_
        refine wr_is (k0 := 71) (a := x2) (f := i9) (x := h 70 i9) (bl := -2147483648) (bh := 2147483647) (nx := 44) (r1 := 0) (r2 := 0) (r3 := 0) rfl (by decide) rfl (by omega) (by omega) (by decide) g4 rfl (by omega) (fun h13 g13 w13 u13 => ?_)
        have F14 := F5.then rfl (FR.rngp (lo := 71) (hi := 71) u13 (by decide))
        have F15 := u4.then rfl (FR.rngp (lo := 71) (hi := 71) u13 (by decide))
        refine wr_iinc (i := 2) (n := 1) (v := x2) (fun e16 => [(2, vi e16), (0, .ref 68), (1, vi x1), (3, vi x3)]) (nx := 47) (r1 := 0) (r2 := 0) (r3 := 0) rfl rfl (fun _ => rfl) (fun e16 (fe16 : e16 = x2 + 1) => ?_)
        refine wi_goto (nx := 50) (r1 := 104) (r2 := 0) (r3 := 0) rfl ?_
        refine wr_iinc (i := 3) (n := 1) (v := x3) (fun e17 => [(3, vi e17), (2, vi e16), (0, .ref 68), (1, vi x1)]) (nx := 107) (r1 := 0) (r2 := 0) (r3 := 0) rfl rfl (fun _ => rfl) (fun e17 (fe17 : e17 = x3 + 1) => ?_)
        refine wi_goto (nx := 110) (r1 := 6) (r2 := 0) (r3 := 0) rfl ?_
        refine wp.lo (lo := [(0, .ref 68), (1, vi x1), (2, vi e16), (3, vi e17)]) ⟨rfl, rfl, rfl, rfl, trivial⟩ rfl ?_
        exact I4 x1 e16 e17 h13 ⟨g13, F14, F15, (show (0 ≤ x1 ∧ x1 ≤ 100) ∧ (0 ≤ e16 ∧ e16 ≤ 80) ∧ (0 ≤ e17 ∧ e17 ≤ 1000000) by omega)⟩ (show ((1000000 : Int) + 1 - e17).toNat < ((1000000 : Int) + 1 - x3).toNat by omega)
-- method 64: Bank.runScript()I
set_option maxRecDepth 100000 in
set_option maxHeartbeats 100000000 in
theorem ct_64_0 {L : Nat} {xs : Nat → Int32} {d b c : Nat} {h : hp} {cr : Nat → Nat → Option Nat} {Q : hp_Q} (hcr : CR cr) (hr : 1 ≤ b ∧ 6 ≤ c)  {tB : Nat → Int} {tn  : Int} (g : GI h)    (xq0 : BufC tB tn h) (k : ∀ (h2 : hp) (z0 : Int) , GI h2 → FR [(18, 36, none), (57, 57, none), (58, 58, none), (59, 59, none), (60, 60, none), (61, 62, none), (64, 64, none), (65, 65, none), (66, 67, none), (69, 69, none), (70, 70, none), (71, 71, none), (72, 72, none), (75, 207, none), (1, 1, some (1, 1)), (1, 1, some (2, 2)), (1, 1, some (3, 3)), (1, 1, some (4, 4)), (1, 1, some (5, 5)), (1, 1, some (6, 6)), (1, 1, some (7, 7)), (1, 1, some (8, 8)), (1, 1, some (9, 9)), (56, 56, some (6, 6)), (56, 56, some (7, 7)), (56, 56, some (9, 9)), (56, 56, some (10, 10)), (56, 56, some (11, 11)), (56, 56, some (12, 12)), (63, 63, some (4, 4)), (63, 63, some (5, 5)), (63, 63, some (7, 7)), (68, 68, some (8, 8)), (68, 68, some (9, 9)), (68, 68, some (10, 10)), (73, 73, some (1, 1)), (73, 73, some (2, 2))] h h2 → (0 ≤ z0 ∧ z0 ≤ 100) → (h2 1 1 = 0) → (h2 1 2 = sc_ec tB tn) → (h2 1 3 = sc_ep tB tn) → Q (.inl (some (vi z0))) (hp_w h2 cr) b c) (kx1 : ∀ (h2 : hp), GI h2 → FR [(18, 36, none), (57, 57, none), (58, 58, none), (59, 59, none), (60, 60, none), (61, 62, none), (64, 64, none), (65, 65, none), (66, 67, none), (69, 69, none), (70, 70, none), (71, 71, none), (72, 72, none), (75, 207, none), (1, 1, some (1, 1)), (1, 1, some (2, 2)), (1, 1, some (3, 3)), (1, 1, some (4, 4)), (1, 1, some (5, 5)), (1, 1, some (6, 6)), (1, 1, some (7, 7)), (1, 1, some (8, 8)), (1, 1, some (9, 9)), (56, 56, some (6, 6)), (56, 56, some (7, 7)), (56, 56, some (9, 9)), (56, 56, some (10, 10)), (56, 56, some (11, 11)), (56, 56, some (12, 12)), (63, 63, some (4, 4)), (63, 63, some (5, 5)), (63, 63, some (7, 7)), (68, 68, some (8, 8)), (68, 68, some (9, 9)), (68, 68, some (10, 10)), (73, 73, some (1, 1)), (73, 73, some (2, 2))] h h2 → (h2 1 1 = 0) → (h2 1 2 = sc_ec tB tn) → (h2 1 3 = sc_ep tB tn) → Q (.inr 1) (hp_w h2 cr) (b - 1) (c - 6)) : wp (md_xa (L, xs)) (d + 105) 64 (0, [(0, .ref 0)], [], hp_w h cr, b, c) Q := by
  have F0 : FR [(18, 36, none), (57, 57, none), (58, 58, none), (59, 59, none), (60, 60, none), (61, 62, none), (64, 64, none), (65, 65, none), (66, 67, none), (69, 69, none), (70, 70, none), (71, 71, none), (72, 72, none), (75, 207, none), (1, 1, some (1, 1)), (1, 1, some (2, 2)), (1, 1, some (3, 3)), (1, 1, some (4, 4)), (1, 1, some (5, 5)), (1, 1, some (6, 6)), (1, 1, some (7, 7)), (1, 1, some (8, 8)), (1, 1, some (9, 9)), (56, 56, some (6, 6)), (56, 56, some (7, 7)), (56, 56, some (9, 9)), (56, 56, some (10, 10)), (56, 56, some (11, 11)), (56, 56, some (12, 12)), (63, 63, some (4, 4)), (63, 63, some (5, 5)), (63, 63, some (7, 7)), (68, 68, some (8, 8)), (68, 68, some (9, 9)), (68, 68, some (10, 10)), (73, 73, some (1, 1)), (73, 73, some (2, 2))] h h := FR.refl
  have tb_1 : h 1 1 = tn := xq0.2.1
  have tb_2 : 0 ≤ tn ∧ tn ≤ 800 := xq0.2.2
  refine wi_aload_n (i := 0) (x := 0) (nx := 1) (r1 := 0) (r2 := 0) (r3 := 0) rfl rfl ?_
  refine wr_gr (k0 := 0) (x := 68) (nx := 4) (r1 := 0) (r2 := 7) (r3 := 0) rfl rfl (by decide) rfl ⟨rfl, rfl⟩ rfl ?_
  refine wr_V (k0 := 68) (rest := []) (as := [.ref 68]) (nx := 7) (r1 := 182) (r2 := 0) (r3 := 8) rfl rfl rfl (of_decide_eq_true rfl) rfl rfl (by decide) rfl rfl (of_decide_eq_true rfl) (of_decide_eq_true rfl) ?_
  refine ct_182_68 hcr  g    xq0 (fun h1 z2 g1 u1 (fz2 : 0 ≤ z2 ∧ z2 ≤ 1) (p1_0 : (z2 = 1 ∧ sc_ec tB tn = 0) ∨ (z2 = 0 ∧ 1 ≤ sc_ec tB tn)) (p1_1 : (h1 1 2) = sc_ec tB tn) (p1_2 : (h1 1 3) = sc_ep tB tn) => ?_)
  have F3 := F0.then (by decide +kernel) u1
  have b4 := gi_b (lo := -2147483648) (hi := 2147483647) g1 1 2 rfl
  have b5 := gi_b (lo := -2147483648) (hi := 2147483647) g1 1 3 rfl
  refine wk_i ?_
  refine wi_istore_n (i := 1) (e := z2) (lo2 := [(1, vi z2), (0, .ref 0)]) (nx := 8) (r1 := 0) (r2 := 0) (r3 := 0) rfl rfl ?_
  refine wi_aload_n (i := 0) (x := 0) (nx := 9) (r1 := 0) (r2 := 0) (r3 := 0) rfl rfl ?_
  refine wr_gr (k0 := 0) (x := 1) (nx := 12) (r1 := 0) (r2 := 0) (r3 := 0) rfl rfl (by decide) rfl ⟨rfl, rfl⟩ rfl ?_
  refine wi_iconst (n := 0) (nx := 13) (r1 := 0) (r2 := 0) (r3 := 0) rfl ?_
  refine wr_pf0 (k0 := 1) (x := 0) (bl := 0) (bh := 800) (nx := 16) (r1 := 1) (r2 := 1) (r3 := 0) rfl (by decide) rfl ⟨rfl, rfl⟩ rfl rfl g1 rfl (by omega) (fun h6 g6 w6 u6 => ?_)
  have F7 := F3.then rfl u6
  refine wi_iload_n (i := 1) (e := z2) (nx := 17) (r1 := 0) (r2 := 0) (r3 := 0) rfl rfl ?_
  refine wi_if (cd := .ne) (nx := 20) (r1 := 30) (r2 := 0) (r3 := 0) rfl (by omega) (fun (q8 : z2 ≠ 0) => ?_) (fun (q8 : ¬ (z2 ≠ 0)) => ?_)
  ·
    refine wi_aload_n (i := 0) (x := 0) (nx := 31) (r1 := 0) (r2 := 0) (r3 := 0) rfl rfl ?_
    refine wr_gr (k0 := 0) (x := 73) (nx := 34) (r1 := 0) (r2 := 8) (r3 := 0) rfl rfl (by decide) rfl ⟨rfl, rfl⟩ rfl ?_
    refine wi_aload_n (i := 0) (x := 0) (nx := 35) (r1 := 0) (r2 := 0) (r3 := 0) rfl rfl ?_
    refine wr_gr (k0 := 0) (x := 18) (nx := 38) (r1 := 0) (r2 := 3) (r3 := 0) rfl rfl (by decide) rfl ⟨rfl, rfl⟩ rfl ?_
    refine wr_V (k0 := 73) (rest := []) (as := [.ref 73, .ref 18]) (nx := 41) (r1 := 192) (r2 := 1) (r3 := 9) rfl rfl rfl (of_decide_eq_true rfl) rfl rfl (by decide) rfl rfl (of_decide_eq_true rfl) (of_decide_eq_true rfl) ?_
    refine ct_192_73_18 hcr  g6    (fun h9 g9 u9 => ?_)
    have F10 := F7.then (by decide +kernel) u9
    refine wk_n ?_
    refine wi_aload_n (i := 0) (x := 0) (nx := 42) (r1 := 0) (r2 := 0) (r3 := 0) rfl rfl ?_
    refine wr_gr (k0 := 0) (x := 18) (nx := 45) (r1 := 0) (r2 := 3) (r3 := 0) rfl rfl (by decide) rfl ⟨rfl, rfl⟩ rfl ?_
    have b11 := gi_b (lo := -2147483648) (hi := 2147483647) g 18 16 rfl
    refine wr_gi0 (k0 := 18) (x := h 18 16) (nx := 48) (r1 := 4) (r2 := 16) (r3 := 0) rfl rfl (by decide) rfl ⟨rfl, rfl⟩ rfl ((u9 18 16 rfl).trans ((u6 18 16 rfl).trans (u1 18 16 rfl))) ?_
    refine wi_istore_n (i := 2) (e := h 18 16) (lo2 := [(2, vi (h 18 16)), (1, vi z2), (0, .ref 0)]) (nx := 49) (r1 := 0) (r2 := 0) (r3 := 0) rfl rfl ?_
    refine wi_aload_n (i := 0) (x := 0) (nx := 50) (r1 := 0) (r2 := 0) (r3 := 0) rfl rfl ?_
    refine wr_gr (k0 := 0) (x := 68) (nx := 53) (r1 := 0) (r2 := 7) (r3 := 0) rfl rfl (by decide) rfl ⟨rfl, rfl⟩ rfl ?_
    refine wr_V (k0 := 68) (rest := []) (as := [.ref 68]) (nx := 56) (r1 := 186) (r2 := 0) (r3 := 8) rfl rfl rfl (of_decide_eq_true rfl) rfl rfl (by decide) rfl rfl (of_decide_eq_true rfl) (of_decide_eq_true rfl) ?_
    refine ct_186_68 hcr  g9    (fun h12 z13 g12 u12 (fz13 : 0 ≤ z13 ∧ z13 ≤ 100) => ?_)
    have F14 := F10.then (by decide +kernel) u12
    refine wk_i ?_
    refine wi_istore_n (i := 3) (e := z13) (lo2 := [(3, vi z13), (2, vi (h 18 16)), (1, vi z2), (0, .ref 0)]) (nx := 57) (r1 := 0) (r2 := 0) (r3 := 0) rfl rfl ?_
    refine wi_iload_n (i := 3) (e := z13) (nx := 58) (r1 := 0) (r2 := 0) (r3 := 0) rfl rfl ?_
    refine wi_if (cd := .gt) (nx := 61) (r1 := 72) (r2 := 0) (r3 := 0) rfl (by omega) (fun (q15 : 0 < z13) => ?_) (fun (q15 : ¬ (0 < z13)) => ?_)
    ·
      refine wi_aload_n (i := 0) (x := 0) (nx := 73) (r1 := 0) (r2 := 0) (r3 := 0) rfl rfl ?_
      refine wr_gr (k0 := 0) (x := 73) (nx := 76) (r1 := 0) (r2 := 8) (r3 := 0) rfl rfl (by decide) rfl ⟨rfl, rfl⟩ rfl ?_
      refine wr_V (k0 := 73) (rest := []) (as := [.ref 73]) (nx := 79) (r1 := 193) (r2 := 0) (r3 := 9) rfl rfl rfl (of_decide_eq_true rfl) rfl rfl (by decide) rfl rfl (of_decide_eq_true rfl) (of_decide_eq_true rfl) ?_
      refine ct_193_73 hcr  g12    (fun h16 g16 u16 => ?_)
      have F17 := F14.then (by decide +kernel) u16
      refine wk_n ?_
      refine wi_iload_n (i := 3) (e := z13) (nx := 80) (r1 := 0) (r2 := 0) (r3 := 0) rfl rfl ?_
      refine wi_ireturn (nx := 81) (r1 := 0) (r2 := 0) (r3 := 0) rfl rfl ?_
      have e18 : h16 1 1 = 0 := ((u16 1 1 rfl).trans ((u12 1 1 rfl).trans ((u9 1 1 rfl).trans w6)))
      have e19 : h16 1 2 = h1 1 2 := ((u16 1 2 rfl).trans ((u12 1 2 rfl).trans ((u9 1 2 rfl).trans (u6 1 2 rfl))))
      have e20 : h16 1 3 = h1 1 3 := ((u16 1 3 rfl).trans ((u12 1 3 rfl).trans ((u9 1 3 rfl).trans (u6 1 3 rfl))))
      exact k h16 z13 g16 F17 (by omega) (show (h16 1 1) = 0 by omega) (show (h16 1 2) = sc_ec tB tn by omega) (show (h16 1 3) = sc_ep tB tn by omega)
    ·
      refine wi_aload_n (i := 0) (x := 0) (nx := 62) (r1 := 0) (r2 := 0) (r3 := 0) rfl rfl ?_
      refine wr_gr (k0 := 0) (x := 18) (nx := 65) (r1 := 0) (r2 := 3) (r3 := 0) rfl rfl (by decide) rfl ⟨rfl, rfl⟩ rfl ?_
      have b16 := gi_b (lo := -2147483648) (hi := 2147483647) g12 18 16 rfl
      refine wr_gi0 (k0 := 18) (x := h12 18 16) (nx := 68) (r1 := 4) (r2 := 16) (r3 := 0) rfl rfl (by decide) rfl ⟨rfl, rfl⟩ rfl rfl ?_
      refine wi_iload_n (i := 2) (e := h 18 16) (nx := 69) (r1 := 0) (r2 := 0) (r3 := 0) rfl rfl ?_
      refine wi_icmp (cd := .eq) (nx := 72) (r1 := 79) (r2 := 0) (r3 := 0) rfl (by omega) (by omega) (fun (q17 : (h12 18 16) = (h 18 16)) => ?_) (fun (q17 : ¬ ((h12 18 16) = (h 18 16))) => ?_)
      ·
        refine wi_iload_n (i := 3) (e := z13) (nx := 80) (r1 := 0) (r2 := 0) (r3 := 0) rfl rfl ?_
        refine wi_ireturn (nx := 81) (r1 := 0) (r2 := 0) (r3 := 0) rfl rfl ?_
        have e18 : h12 1 1 = 0 := ((u12 1 1 rfl).trans ((u9 1 1 rfl).trans w6))
        have e19 : h12 1 2 = h1 1 2 := ((u12 1 2 rfl).trans ((u9 1 2 rfl).trans (u6 1 2 rfl)))
        have e20 : h12 1 3 = h1 1 3 := ((u12 1 3 rfl).trans ((u9 1 3 rfl).trans (u6 1 3 rfl)))
        exact k h12 z13 g12 F14 (by omega) (show (h12 1 1) = 0 by omega) (show (h12 1 2) = sc_ec tB tn by omega) (show (h12 1 3) = sc_ep tB tn by omega)
      ·
        refine wi_aload_n (i := 0) (x := 0) (nx := 73) (r1 := 0) (r2 := 0) (r3 := 0) rfl rfl ?_
        refine wr_gr (k0 := 0) (x := 73) (nx := 76) (r1 := 0) (r2 := 8) (r3 := 0) rfl rfl (by decide) rfl ⟨rfl, rfl⟩ rfl ?_
        refine wr_V (k0 := 73) (rest := []) (as := [.ref 73]) (nx := 79) (r1 := 193) (r2 := 0) (r3 := 9) rfl rfl rfl (of_decide_eq_true rfl) rfl rfl (by decide) rfl rfl (of_decide_eq_true rfl) (of_decide_eq_true rfl) ?_
        refine ct_193_73 hcr  g12    (fun h18 g18 u18 => ?_)
        have F19 := F14.then (by decide +kernel) u18
        refine wk_n ?_
        refine wi_iload_n (i := 3) (e := z13) (nx := 80) (r1 := 0) (r2 := 0) (r3 := 0) rfl rfl ?_
        refine wi_ireturn (nx := 81) (r1 := 0) (r2 := 0) (r3 := 0) rfl rfl ?_
        have e20 : h18 1 1 = 0 := ((u18 1 1 rfl).trans ((u12 1 1 rfl).trans ((u9 1 1 rfl).trans w6)))
        have e21 : h18 1 2 = h1 1 2 := ((u18 1 2 rfl).trans ((u12 1 2 rfl).trans ((u9 1 2 rfl).trans (u6 1 2 rfl))))
        have e22 : h18 1 3 = h1 1 3 := ((u18 1 3 rfl).trans ((u12 1 3 rfl).trans ((u9 1 3 rfl).trans (u6 1 3 rfl))))
        exact k h18 z13 g18 F19 (by omega) (show (h18 1 1) = 0 by omega) (show (h18 1 2) = sc_ec tB tn by omega) (show (h18 1 3) = sc_ep tB tn by omega)
  ·
    refine wr_throw (Ex := 1) (nx := 23) (r1 := 1) (r2 := 0) (r3 := 1) rfl (by decide) rfl hr (by decide) ?_
    have e9 : h6 1 1 = 0 := w6
    have e10 : h6 1 2 = h1 1 2 := (u6 1 2 rfl)
    have e11 : h6 1 3 = h1 1 3 := (u6 1 3 rfl)
    exact kx1 h6 g6 F7 (show (h6 1 1) = 0 by omega) (show (h6 1 2) = sc_ec tB tn by omega) (show (h6 1 3) = sc_ep tB tn by omega)
-- method 114: Setup.copyFrom(LPaintBank$Setup;)V
set_option maxRecDepth 100000 in
set_option maxHeartbeats 100000000 in
theorem ct_114_210_3 {L : Nat} {xs : Nat → Int32} {d b c : Nat} {h : hp} {cr : Nat → Nat → Option Nat} {Q : hp_Q} (hcr : CR cr)  (g : GI h)    (k : ∀ (h2 : hp) , GI h2 → FR [(211, 211, none), (212, 212, none), (213, 213, none), (214, 214, none), (215, 215, none), (216, 216, none), (210, 210, some (0, 0)), (210, 210, some (1, 1)), (210, 210, some (2, 2)), (210, 210, some (3, 3)), (210, 210, some (4, 4)), (210, 210, some (5, 5)), (210, 210, some (6, 6)), (210, 210, some (7, 7)), (210, 210, some (8, 8)), (210, 210, some (9, 9))] h h2 → (CPs h h2 210 3) → Q (.inl none) (hp_w h2 cr) b c) : wp (md_xa (L, xs)) d 114 (0, [(0, .ref 210), (1, .ref 3)], [], hp_w h cr, b, c) Q := by
  have F0 : FR [(211, 211, none), (212, 212, none), (213, 213, none), (214, 214, none), (215, 215, none), (216, 216, none), (210, 210, some (0, 0)), (210, 210, some (1, 1)), (210, 210, some (2, 2)), (210, 210, some (3, 3)), (210, 210, some (4, 4)), (210, 210, some (5, 5)), (210, 210, some (6, 6)), (210, 210, some (7, 7)), (210, 210, some (8, 8)), (210, 210, some (9, 9))] h h := FR.refl
  refine wi_aload_n (i := 0) (x := 210) (nx := 1) (r1 := 0) (r2 := 0) (r3 := 0) rfl rfl ?_
  refine wi_aload_n (i := 1) (x := 3) (nx := 2) (r1 := 0) (r2 := 0) (r3 := 0) rfl rfl ?_
  have b1 := gi_b (lo := 0) (hi := 5) g 3 0 rfl
  refine wr_gi0 (k0 := 3) (x := h 3 0) (nx := 5) (r1 := 2) (r2 := 0) (r3 := 0) rfl rfl (by decide) rfl ⟨rfl, rfl⟩ rfl rfl ?_
  refine wr_pf0 (k0 := 210) (x := h 3 0) (bl := 0) (bh := 5) (nx := 8) (r1 := 2) (r2 := 0) (r3 := 0) rfl (by decide) rfl ⟨rfl, rfl⟩ rfl rfl g rfl (by omega) (fun h2 g2 w2 u2 => ?_)
  have F3 := F0.then rfl u2
  refine wi_aload_n (i := 0) (x := 210) (nx := 9) (r1 := 0) (r2 := 0) (r3 := 0) rfl rfl ?_
  refine wi_aload_n (i := 1) (x := 3) (nx := 10) (r1 := 0) (r2 := 0) (r3 := 0) rfl rfl ?_
  have b4 := gi_b (lo := 0) (hi := 4) g 3 1 rfl
  refine wr_gi0 (k0 := 3) (x := h 3 1) (nx := 13) (r1 := 2) (r2 := 1) (r3 := 0) rfl rfl (by decide) rfl ⟨rfl, rfl⟩ rfl (u2 3 1 rfl) ?_
  refine wr_pf0 (k0 := 210) (x := h 3 1) (bl := 0) (bh := 4) (nx := 16) (r1 := 2) (r2 := 1) (r3 := 0) rfl (by decide) rfl ⟨rfl, rfl⟩ rfl rfl g2 rfl (by omega) (fun h5 g5 w5 u5 => ?_)
  have F6 := F3.then rfl u5
  refine wi_aload_n (i := 0) (x := 210) (nx := 17) (r1 := 0) (r2 := 0) (r3 := 0) rfl rfl ?_
  refine wi_aload_n (i := 1) (x := 3) (nx := 18) (r1 := 0) (r2 := 0) (r3 := 0) rfl rfl ?_
  have b7 := gi_b (lo := 0) (hi := 12) g 3 2 rfl
  refine wr_gi0 (k0 := 3) (x := h 3 2) (nx := 21) (r1 := 2) (r2 := 2) (r3 := 0) rfl rfl (by decide) rfl ⟨rfl, rfl⟩ rfl ((u5 3 2 rfl).trans (u2 3 2 rfl)) ?_
  refine wr_pf0 (k0 := 210) (x := h 3 2) (bl := 0) (bh := 12) (nx := 24) (r1 := 2) (r2 := 2) (r3 := 0) rfl (by decide) rfl ⟨rfl, rfl⟩ rfl rfl g5 rfl (by omega) (fun h8 g8 w8 u8 => ?_)
  have F9 := F6.then rfl u8
  refine wi_aload_n (i := 0) (x := 210) (nx := 25) (r1 := 0) (r2 := 0) (r3 := 0) rfl rfl ?_
  refine wi_aload_n (i := 1) (x := 3) (nx := 26) (r1 := 0) (r2 := 0) (r3 := 0) rfl rfl ?_
  have b10 := gi_b (lo := -2147483648) (hi := 2147483647) g 3 3 rfl
  refine wr_gi0 (k0 := 3) (x := h 3 3) (nx := 29) (r1 := 2) (r2 := 3) (r3 := 0) rfl rfl (by decide) rfl ⟨rfl, rfl⟩ rfl ((u8 3 3 rfl).trans ((u5 3 3 rfl).trans (u2 3 3 rfl))) ?_
  refine wr_pf0 (k0 := 210) (x := h 3 3) (bl := -2147483648) (bh := 2147483647) (nx := 32) (r1 := 2) (r2 := 3) (r3 := 0) rfl (by decide) rfl ⟨rfl, rfl⟩ rfl rfl g8 rfl (by omega) (fun h11 g11 w11 u11 => ?_)
  have F12 := F9.then rfl u11
  refine wi_aload_n (i := 0) (x := 210) (nx := 33) (r1 := 0) (r2 := 0) (r3 := 0) rfl rfl ?_
  refine wi_aload_n (i := 1) (x := 3) (nx := 34) (r1 := 0) (r2 := 0) (r3 := 0) rfl rfl ?_
  have b13 := gi_b (lo := -2147483648) (hi := 2147483647) g 3 4 rfl
  refine wr_gi0 (k0 := 3) (x := h 3 4) (nx := 37) (r1 := 2) (r2 := 4) (r3 := 0) rfl rfl (by decide) rfl ⟨rfl, rfl⟩ rfl ((u11 3 4 rfl).trans ((u8 3 4 rfl).trans ((u5 3 4 rfl).trans (u2 3 4 rfl)))) ?_
  refine wr_pf0 (k0 := 210) (x := h 3 4) (bl := -2147483648) (bh := 2147483647) (nx := 40) (r1 := 2) (r2 := 4) (r3 := 0) rfl (by decide) rfl ⟨rfl, rfl⟩ rfl rfl g11 rfl (by omega) (fun h14 g14 w14 u14 => ?_)
  have F15 := F12.then rfl u14
  refine wi_aload_n (i := 0) (x := 210) (nx := 41) (r1 := 0) (r2 := 0) (r3 := 0) rfl rfl ?_
  refine wi_aload_n (i := 1) (x := 3) (nx := 42) (r1 := 0) (r2 := 0) (r3 := 0) rfl rfl ?_
  have b16 := gi_b (lo := -2147483648) (hi := 2147483647) g 3 5 rfl
  refine wr_gi0 (k0 := 3) (x := h 3 5) (nx := 45) (r1 := 2) (r2 := 5) (r3 := 0) rfl rfl (by decide) rfl ⟨rfl, rfl⟩ rfl ((u14 3 5 rfl).trans ((u11 3 5 rfl).trans ((u8 3 5 rfl).trans ((u5 3 5 rfl).trans (u2 3 5 rfl))))) ?_
  refine wr_pf0 (k0 := 210) (x := h 3 5) (bl := -2147483648) (bh := 2147483647) (nx := 48) (r1 := 2) (r2 := 5) (r3 := 0) rfl (by decide) rfl ⟨rfl, rfl⟩ rfl rfl g14 rfl (by omega) (fun h17 g17 w17 u17 => ?_)
  have F18 := F15.then rfl u17
  refine wi_aload_n (i := 0) (x := 210) (nx := 49) (r1 := 0) (r2 := 0) (r3 := 0) rfl rfl ?_
  refine wi_aload_n (i := 1) (x := 3) (nx := 50) (r1 := 0) (r2 := 0) (r3 := 0) rfl rfl ?_
  have b19 := gi_b (lo := -2147483648) (hi := 2147483647) g 3 6 rfl
  refine wr_gi0 (k0 := 3) (x := h 3 6) (nx := 53) (r1 := 2) (r2 := 6) (r3 := 0) rfl rfl (by decide) rfl ⟨rfl, rfl⟩ rfl ((u17 3 6 rfl).trans ((u14 3 6 rfl).trans ((u11 3 6 rfl).trans ((u8 3 6 rfl).trans ((u5 3 6 rfl).trans (u2 3 6 rfl)))))) ?_
  refine wr_pf0 (k0 := 210) (x := h 3 6) (bl := -2147483648) (bh := 2147483647) (nx := 56) (r1 := 2) (r2 := 6) (r3 := 0) rfl (by decide) rfl ⟨rfl, rfl⟩ rfl rfl g17 rfl (by omega) (fun h20 g20 w20 u20 => ?_)
  have F21 := F18.then rfl u20
  refine wi_aload_n (i := 0) (x := 210) (nx := 57) (r1 := 0) (r2 := 0) (r3 := 0) rfl rfl ?_
  refine wi_aload_n (i := 1) (x := 3) (nx := 58) (r1 := 0) (r2 := 0) (r3 := 0) rfl rfl ?_
  have b22 := gi_b (lo := -2147483648) (hi := 2147483647) g 3 7 rfl
  refine wr_gi0 (k0 := 3) (x := h 3 7) (nx := 61) (r1 := 2) (r2 := 7) (r3 := 0) rfl rfl (by decide) rfl ⟨rfl, rfl⟩ rfl ((u20 3 7 rfl).trans ((u17 3 7 rfl).trans ((u14 3 7 rfl).trans ((u11 3 7 rfl).trans ((u8 3 7 rfl).trans ((u5 3 7 rfl).trans (u2 3 7 rfl))))))) ?_
  refine wr_pf0 (k0 := 210) (x := h 3 7) (bl := -2147483648) (bh := 2147483647) (nx := 64) (r1 := 2) (r2 := 7) (r3 := 0) rfl (by decide) rfl ⟨rfl, rfl⟩ rfl rfl g20 rfl (by omega) (fun h23 g23 w23 u23 => ?_)
  have F24 := F21.then rfl u23
  refine wi_aload_n (i := 0) (x := 210) (nx := 65) (r1 := 0) (r2 := 0) (r3 := 0) rfl rfl ?_
  refine wi_aload_n (i := 1) (x := 3) (nx := 66) (r1 := 0) (r2 := 0) (r3 := 0) rfl rfl ?_
  have b25 := gi_b (lo := -2147483648) (hi := 2147483647) g 3 8 rfl
  refine wr_gi0 (k0 := 3) (x := h 3 8) (nx := 69) (r1 := 2) (r2 := 8) (r3 := 0) rfl rfl (by decide) rfl ⟨rfl, rfl⟩ rfl ((u23 3 8 rfl).trans ((u20 3 8 rfl).trans ((u17 3 8 rfl).trans ((u14 3 8 rfl).trans ((u11 3 8 rfl).trans ((u8 3 8 rfl).trans ((u5 3 8 rfl).trans (u2 3 8 rfl)))))))) ?_
  refine wr_pf0 (k0 := 210) (x := h 3 8) (bl := -2147483648) (bh := 2147483647) (nx := 72) (r1 := 2) (r2 := 8) (r3 := 0) rfl (by decide) rfl ⟨rfl, rfl⟩ rfl rfl g23 rfl (by omega) (fun h26 g26 w26 u26 => ?_)
  have F27 := F24.then rfl u26
  refine wi_aload_n (i := 0) (x := 210) (nx := 73) (r1 := 0) (r2 := 0) (r3 := 0) rfl rfl ?_
  refine wi_aload_n (i := 1) (x := 3) (nx := 74) (r1 := 0) (r2 := 0) (r3 := 0) rfl rfl ?_
  have b28 := gi_b (lo := -2147483648) (hi := 2147483647) g 3 9 rfl
  refine wr_gi0 (k0 := 3) (x := h 3 9) (nx := 77) (r1 := 2) (r2 := 9) (r3 := 0) rfl rfl (by decide) rfl ⟨rfl, rfl⟩ rfl ((u26 3 9 rfl).trans ((u23 3 9 rfl).trans ((u20 3 9 rfl).trans ((u17 3 9 rfl).trans ((u14 3 9 rfl).trans ((u11 3 9 rfl).trans ((u8 3 9 rfl).trans ((u5 3 9 rfl).trans (u2 3 9 rfl))))))))) ?_
  refine wr_pf0 (k0 := 210) (x := h 3 9) (bl := -2147483648) (bh := 2147483647) (nx := 80) (r1 := 2) (r2 := 9) (r3 := 0) rfl (by decide) rfl ⟨rfl, rfl⟩ rfl rfl g26 rfl (by omega) (fun h29 g29 w29 u29 => ?_)
  have F30 := F27.then rfl u29
  refine wi_aload_n (i := 1) (x := 3) (nx := 81) (r1 := 0) (r2 := 0) (r3 := 0) rfl rfl ?_
  refine wr_gr (k0 := 3) (x := 4) (nx := 84) (r1 := 2) (r2 := 10) (r3 := 0) rfl rfl (by decide) rfl ⟨rfl, rfl⟩ rfl ?_
  refine wi_iconst (n := 0) (nx := 85) (r1 := 0) (r2 := 0) (r3 := 0) rfl ?_
  refine wi_aload_n (i := 0) (x := 210) (nx := 86) (r1 := 0) (r2 := 0) (r3 := 0) rfl rfl ?_
  refine wr_gr (k0 := 210) (x := 211) (nx := 89) (r1 := 2) (r2 := 10) (r3 := 0) rfl rfl (by decide) rfl ⟨rfl, rfl⟩ rfl ?_
  refine wi_iconst (n := 0) (nx := 90) (r1 := 0) (r2 := 0) (r3 := 0) rfl ?_
  refine wi_iconst (n := 5) (nx := 91) (r1 := 0) (r2 := 0) (r3 := 0) rfl ?_
  refine wr_cpyl (s0 := 4) (d0 := 211) (n0 := 5) (n1 := 5) (sp := 0) (dp := 0) (n := 5) (sl := -9223372036854775808) (sh := 9223372036854775807) (dl := -9223372036854775808) (dh := 9223372036854775807) (nx := 94) (r1 := 0) (r2 := 101) (r3 := 0) rfl rfl (of_decide_eq_true rfl) (by decide) (by decide) rfl rfl (by omega) (fun _ => rfl) (fun _ => rfl) (by omega) g29 (fun h31 g31 y31 u31 => ?_)
  have F32 := F30.then rfl u31
  refine wi_aload_n (i := 1) (x := 3) (nx := 95) (r1 := 0) (r2 := 0) (r3 := 0) rfl rfl ?_
  refine wr_gr (k0 := 3) (x := 5) (nx := 98) (r1 := 2) (r2 := 11) (r3 := 0) rfl rfl (by decide) rfl ⟨rfl, rfl⟩ rfl ?_
  refine wi_iconst (n := 0) (nx := 99) (r1 := 0) (r2 := 0) (r3 := 0) rfl ?_
  refine wi_aload_n (i := 0) (x := 210) (nx := 100) (r1 := 0) (r2 := 0) (r3 := 0) rfl rfl ?_
  refine wr_gr (k0 := 210) (x := 212) (nx := 103) (r1 := 2) (r2 := 11) (r3 := 0) rfl rfl (by decide) rfl ⟨rfl, rfl⟩ rfl ?_
  refine wi_iconst (n := 0) (nx := 104) (r1 := 0) (r2 := 0) (r3 := 0) rfl ?_
  refine wi_iconst (n := 5) (nx := 105) (r1 := 0) (r2 := 0) (r3 := 0) rfl ?_
  refine wr_cpy (s0 := 5) (d0 := 212) (n0 := 5) (n1 := 5) (sp := 0) (dp := 0) (n := 5) (sl := -2147483648) (sh := 2147483647) (dl := -2147483648) (dh := 2147483647) (nx := 108) (r1 := 0) (r2 := 101) (r3 := 0) rfl rfl (of_decide_eq_true rfl) (by decide) (by decide) rfl rfl (by omega) (fun _ => rfl) (fun _ => rfl) (by omega) g31 (fun h33 g33 y33 u33 => ?_)
  have F34 := F32.then rfl u33
  refine wi_aload_n (i := 1) (x := 3) (nx := 109) (r1 := 0) (r2 := 0) (r3 := 0) rfl rfl ?_
  refine wr_gr (k0 := 3) (x := 6) (nx := 112) (r1 := 2) (r2 := 12) (r3 := 0) rfl rfl (by decide) rfl ⟨rfl, rfl⟩ rfl ?_
  refine wi_iconst (n := 0) (nx := 113) (r1 := 0) (r2 := 0) (r3 := 0) rfl ?_
  refine wi_aload_n (i := 0) (x := 210) (nx := 114) (r1 := 0) (r2 := 0) (r3 := 0) rfl rfl ?_
  refine wr_gr (k0 := 210) (x := 213) (nx := 117) (r1 := 2) (r2 := 12) (r3 := 0) rfl rfl (by decide) rfl ⟨rfl, rfl⟩ rfl ?_
  refine wi_iconst (n := 0) (nx := 118) (r1 := 0) (r2 := 0) (r3 := 0) rfl ?_
  refine wi_iconst (n := 4) (nx := 119) (r1 := 0) (r2 := 0) (r3 := 0) rfl ?_
  refine wr_cpy (s0 := 6) (d0 := 213) (n0 := 4) (n1 := 4) (sp := 0) (dp := 0) (n := 4) (sl := -2147483648) (sh := 2147483647) (dl := -2147483648) (dh := 2147483647) (nx := 122) (r1 := 0) (r2 := 101) (r3 := 0) rfl rfl (of_decide_eq_true rfl) (by decide) (by decide) rfl rfl (by omega) (fun _ => rfl) (fun _ => rfl) (by omega) g33 (fun h35 g35 y35 u35 => ?_)
  have F36 := F34.then rfl u35
  refine wi_aload_n (i := 1) (x := 3) (nx := 123) (r1 := 0) (r2 := 0) (r3 := 0) rfl rfl ?_
  refine wr_gr (k0 := 3) (x := 7) (nx := 126) (r1 := 2) (r2 := 13) (r3 := 0) rfl rfl (by decide) rfl ⟨rfl, rfl⟩ rfl ?_
  refine wi_iconst (n := 0) (nx := 127) (r1 := 0) (r2 := 0) (r3 := 0) rfl ?_
  refine wi_aload_n (i := 0) (x := 210) (nx := 128) (r1 := 0) (r2 := 0) (r3 := 0) rfl rfl ?_
  refine wr_gr (k0 := 210) (x := 214) (nx := 131) (r1 := 2) (r2 := 13) (r3 := 0) rfl rfl (by decide) rfl ⟨rfl, rfl⟩ rfl ?_
  refine wi_iconst (n := 0) (nx := 132) (r1 := 0) (r2 := 0) (r3 := 0) rfl ?_
  refine wi_bipush (n := 12) (nx := 134) (r1 := 0) (r2 := 0) (r3 := 0) rfl (by decide) ?_
  refine wr_cpy (s0 := 7) (d0 := 214) (n0 := 12) (n1 := 12) (sp := 0) (dp := 0) (n := 12) (sl := -2147483648) (sh := 2147483647) (dl := -2147483648) (dh := 2147483647) (nx := 137) (r1 := 0) (r2 := 101) (r3 := 0) rfl rfl (of_decide_eq_true rfl) (by decide) (by decide) rfl rfl (by omega) (fun _ => rfl) (fun _ => rfl) (by omega) g35 (fun h37 g37 y37 u37 => ?_)
  have F38 := F36.then rfl u37
  refine wi_aload_n (i := 1) (x := 3) (nx := 138) (r1 := 0) (r2 := 0) (r3 := 0) rfl rfl ?_
  refine wr_gr (k0 := 3) (x := 8) (nx := 141) (r1 := 2) (r2 := 14) (r3 := 0) rfl rfl (by decide) rfl ⟨rfl, rfl⟩ rfl ?_
  refine wi_iconst (n := 0) (nx := 142) (r1 := 0) (r2 := 0) (r3 := 0) rfl ?_
  refine wi_aload_n (i := 0) (x := 210) (nx := 143) (r1 := 0) (r2 := 0) (r3 := 0) rfl rfl ?_
  refine wr_gr (k0 := 210) (x := 215) (nx := 146) (r1 := 2) (r2 := 14) (r3 := 0) rfl rfl (by decide) rfl ⟨rfl, rfl⟩ rfl ?_
  refine wi_iconst (n := 0) (nx := 147) (r1 := 0) (r2 := 0) (r3 := 0) rfl ?_
  refine wi_bipush (n := 12) (nx := 149) (r1 := 0) (r2 := 0) (r3 := 0) rfl (by decide) ?_
  refine wr_cpy (s0 := 8) (d0 := 215) (n0 := 12) (n1 := 12) (sp := 0) (dp := 0) (n := 12) (sl := -2147483648) (sh := 2147483647) (dl := -2147483648) (dh := 2147483647) (nx := 152) (r1 := 0) (r2 := 101) (r3 := 0) rfl rfl (of_decide_eq_true rfl) (by decide) (by decide) rfl rfl (by omega) (fun _ => rfl) (fun _ => rfl) (by omega) g37 (fun h39 g39 y39 u39 => ?_)
  have F40 := F38.then rfl u39
  refine wi_aload_n (i := 1) (x := 3) (nx := 153) (r1 := 0) (r2 := 0) (r3 := 0) rfl rfl ?_
  refine wr_gr (k0 := 3) (x := 9) (nx := 156) (r1 := 2) (r2 := 15) (r3 := 0) rfl rfl (by decide) rfl ⟨rfl, rfl⟩ rfl ?_
  refine wi_iconst (n := 0) (nx := 157) (r1 := 0) (r2 := 0) (r3 := 0) rfl ?_
  refine wi_aload_n (i := 0) (x := 210) (nx := 158) (r1 := 0) (r2 := 0) (r3 := 0) rfl rfl ?_
  refine wr_gr (k0 := 210) (x := 216) (nx := 161) (r1 := 2) (r2 := 15) (r3 := 0) rfl rfl (by decide) rfl ⟨rfl, rfl⟩ rfl ?_
  refine wi_iconst (n := 0) (nx := 162) (r1 := 0) (r2 := 0) (r3 := 0) rfl ?_
  refine wi_bipush (n := 12) (nx := 164) (r1 := 0) (r2 := 0) (r3 := 0) rfl (by decide) ?_
  refine wr_cpy (s0 := 9) (d0 := 216) (n0 := 12) (n1 := 12) (sp := 0) (dp := 0) (n := 12) (sl := -2147483648) (sh := 2147483647) (dl := -2147483648) (dh := 2147483647) (nx := 167) (r1 := 0) (r2 := 101) (r3 := 0) rfl rfl (of_decide_eq_true rfl) (by decide) (by decide) rfl rfl (by omega) (fun _ => rfl) (fun _ => rfl) (by omega) g39 (fun h41 g41 y41 u41 => ?_)
  have F42 := F40.then rfl u41
  refine wi_return (nx := 168) (r1 := 0) (r2 := 0) (r3 := 0) rfl rfl ?_
  exact k h41 g41 F42 ⟨sv_ten (P := fun i => h41 210 i = h 3 i) ((u41 210 0 rfl).trans ((u39 210 0 rfl).trans ((u37 210 0 rfl).trans ((u35 210 0 rfl).trans ((u33 210 0 rfl).trans ((u31 210 0 rfl).trans ((u29 210 0 rfl).trans ((u26 210 0 rfl).trans ((u23 210 0 rfl).trans ((u20 210 0 rfl).trans ((u17 210 0 rfl).trans ((u14 210 0 rfl).trans ((u11 210 0 rfl).trans ((u8 210 0 rfl).trans ((u5 210 0 rfl).trans w2))))))))))))))) ((u41 210 1 rfl).trans ((u39 210 1 rfl).trans ((u37 210 1 rfl).trans ((u35 210 1 rfl).trans ((u33 210 1 rfl).trans ((u31 210 1 rfl).trans ((u29 210 1 rfl).trans ((u26 210 1 rfl).trans ((u23 210 1 rfl).trans ((u20 210 1 rfl).trans ((u17 210 1 rfl).trans ((u14 210 1 rfl).trans ((u11 210 1 rfl).trans ((u8 210 1 rfl).trans w5)))))))))))))) ((u41 210 2 rfl).trans ((u39 210 2 rfl).trans ((u37 210 2 rfl).trans ((u35 210 2 rfl).trans ((u33 210 2 rfl).trans ((u31 210 2 rfl).trans ((u29 210 2 rfl).trans ((u26 210 2 rfl).trans ((u23 210 2 rfl).trans ((u20 210 2 rfl).trans ((u17 210 2 rfl).trans ((u14 210 2 rfl).trans ((u11 210 2 rfl).trans w8))))))))))))) ((u41 210 3 rfl).trans ((u39 210 3 rfl).trans ((u37 210 3 rfl).trans ((u35 210 3 rfl).trans ((u33 210 3 rfl).trans ((u31 210 3 rfl).trans ((u29 210 3 rfl).trans ((u26 210 3 rfl).trans ((u23 210 3 rfl).trans ((u20 210 3 rfl).trans ((u17 210 3 rfl).trans ((u14 210 3 rfl).trans w11)))))))))))) ((u41 210 4 rfl).trans ((u39 210 4 rfl).trans ((u37 210 4 rfl).trans ((u35 210 4 rfl).trans ((u33 210 4 rfl).trans ((u31 210 4 rfl).trans ((u29 210 4 rfl).trans ((u26 210 4 rfl).trans ((u23 210 4 rfl).trans ((u20 210 4 rfl).trans ((u17 210 4 rfl).trans w14))))))))))) ((u41 210 5 rfl).trans ((u39 210 5 rfl).trans ((u37 210 5 rfl).trans ((u35 210 5 rfl).trans ((u33 210 5 rfl).trans ((u31 210 5 rfl).trans ((u29 210 5 rfl).trans ((u26 210 5 rfl).trans ((u23 210 5 rfl).trans ((u20 210 5 rfl).trans w17)))))))))) ((u41 210 6 rfl).trans ((u39 210 6 rfl).trans ((u37 210 6 rfl).trans ((u35 210 6 rfl).trans ((u33 210 6 rfl).trans ((u31 210 6 rfl).trans ((u29 210 6 rfl).trans ((u26 210 6 rfl).trans ((u23 210 6 rfl).trans w20))))))))) ((u41 210 7 rfl).trans ((u39 210 7 rfl).trans ((u37 210 7 rfl).trans ((u35 210 7 rfl).trans ((u33 210 7 rfl).trans ((u31 210 7 rfl).trans ((u29 210 7 rfl).trans ((u26 210 7 rfl).trans w23)))))))) ((u41 210 8 rfl).trans ((u39 210 8 rfl).trans ((u37 210 8 rfl).trans ((u35 210 8 rfl).trans ((u33 210 8 rfl).trans ((u31 210 8 rfl).trans ((u29 210 8 rfl).trans w26))))))) ((u41 210 9 rfl).trans ((u39 210 9 rfl).trans ((u37 210 9 rfl).trans ((u35 210 9 rfl).trans ((u33 210 9 rfl).trans ((u31 210 9 rfl).trans w29)))))), (fun q e => (((u41 212 q (fn_a (by omega) fn_0)).trans ((u39 212 q (fn_a (by omega) fn_0)).trans ((u37 212 q (fn_a (by omega) fn_0)).trans (u35 212 q (fn_a (by omega) fn_0))))).trans ((cy_0 y33 (by omega)).trans ((u31 5 q (fn_a (by omega) fn_0)).trans ((u29 5 q (fn_a (by omega) fn_0)).trans ((u26 5 q (fn_a (by omega) fn_0)).trans ((u23 5 q (fn_a (by omega) fn_0)).trans ((u20 5 q (fn_a (by omega) fn_0)).trans ((u17 5 q (fn_a (by omega) fn_0)).trans ((u14 5 q (fn_a (by omega) fn_0)).trans ((u11 5 q (fn_a (by omega) fn_0)).trans ((u8 5 q (fn_a (by omega) fn_0)).trans ((u5 5 q (fn_a (by omega) fn_0)).trans (u2 5 q (fn_a (by omega) fn_0))))))))))))))), (fun q e => (((u41 213 q (fn_a (by omega) fn_0)).trans ((u39 213 q (fn_a (by omega) fn_0)).trans (u37 213 q (fn_a (by omega) fn_0)))).trans ((cy_0 y35 (by omega)).trans ((u33 6 q (fn_a (by omega) fn_0)).trans ((u31 6 q (fn_a (by omega) fn_0)).trans ((u29 6 q (fn_a (by omega) fn_0)).trans ((u26 6 q (fn_a (by omega) fn_0)).trans ((u23 6 q (fn_a (by omega) fn_0)).trans ((u20 6 q (fn_a (by omega) fn_0)).trans ((u17 6 q (fn_a (by omega) fn_0)).trans ((u14 6 q (fn_a (by omega) fn_0)).trans ((u11 6 q (fn_a (by omega) fn_0)).trans ((u8 6 q (fn_a (by omega) fn_0)).trans ((u5 6 q (fn_a (by omega) fn_0)).trans (u2 6 q (fn_a (by omega) fn_0)))))))))))))))), (fun q e => ((u41 215 q (fn_a (by omega) fn_0)).trans ((cy_0 y39 (by omega)).trans ((u37 8 q (fn_a (by omega) fn_0)).trans ((u35 8 q (fn_a (by omega) fn_0)).trans ((u33 8 q (fn_a (by omega) fn_0)).trans ((u31 8 q (fn_a (by omega) fn_0)).trans ((u29 8 q (fn_a (by omega) fn_0)).trans ((u26 8 q (fn_a (by omega) fn_0)).trans ((u23 8 q (fn_a (by omega) fn_0)).trans ((u20 8 q (fn_a (by omega) fn_0)).trans ((u17 8 q (fn_a (by omega) fn_0)).trans ((u14 8 q (fn_a (by omega) fn_0)).trans ((u11 8 q (fn_a (by omega) fn_0)).trans ((u8 8 q (fn_a (by omega) fn_0)).trans ((u5 8 q (fn_a (by omega) fn_0)).trans (u2 8 q (fn_a (by omega) fn_0))))))))))))))))))⟩
