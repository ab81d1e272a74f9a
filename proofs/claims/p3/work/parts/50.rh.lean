-- method 238: Model.copies([I[I)V
set_option maxRecDepth 100000 in
set_option maxHeartbeats 100000000 in
theorem ct_238_239_238 {L : Nat} {xs : Nat → Int32} {d b c : Nat} {h : hp} {cr : Nat → Nat → Option Nat} {Q : hp_Q} (hcr : CR cr)  (g : GI h)    (xq0 : ∀ j : Nat, j < 200 → (md_bd 238 j).1 ≤ h 239 j ∧ h 239 j ≤ (md_bd 238 j).2) (k : ∀ (h2 : hp) , GI h2 → FR [(238, 238, none)] h h2 → (∀ q : Nat, q < 200 → h2 238 q = h 239 q) → Q (.inl none) (hp_w h2 cr) b c) : wp (md_xa (L, xs)) d 238 (0, [(0, .ref 239), (1, .ref 238)], [], hp_w h cr, b, c) Q := by
  have F0 : FR [(238, 238, none)] h h := FR.refl
  refine wi_iconst (n := 0) (nx := 1) (r1 := 0) (r2 := 0) (r3 := 0) rfl ?_
  refine wi_istore_n (i := 2) (e := 0) (lo2 := [(2, vi 0), (0, .ref 239), (1, .ref 238)]) (nx := 2) (r1 := 0) (r2 := 0) (r3 := 0) rfl rfl ?_
  refine wp.lo (lo := [(0, .ref 239), (1, .ref 238), (2, vi 0)]) ⟨rfl, rfl, rfl, trivial⟩ rfl ?_
  refine wl_1 (fun x1 h2 => GI h2 ∧ FR [(238, 238, none)] h h2 ∧ FR [(238, 238, none)] h h2 ∧ ((0 ≤ x1 ∧ x1 ≤ 200)) ∧ (∀ q : Nat, (q : Int) < x1 → h2 238 q = h 239 q) ∧ (∀ q : Nat, x1 ≤ (q : Int) → h2 238 q = h 238 q)) (fun x1 h2 => ((200 : Int) + 1 - x1).toNat) (fun x1 h2 => (2, [(0, .ref 239), (1, .ref 238), (2, vi x1)], [], hp_w h2 cr, b, c)) ?_ 0 h ⟨g, F0, FR.refl, (show (0 ≤ 0 ∧ 0 ≤ 200) by omega), (fun q e => absurd e (by omega)), (fun _ _ => rfl)⟩
  intro x1 h2 ⟨g2, F3, u2, f2, XA2, XB2⟩ I2
  refine wi_iload_n (i := 2) (e := x1) (nx := 3) (r1 := 0) (r2 := 0) (r3 := 0) rfl rfl ?_
  refine wi_sipush (n := 200) (nx := 6) (r1 := 0) (r2 := 0) (r3 := 0) rfl (by decide) ?_
  refine wi_icmp (cd := .ge) (nx := 9) (r1 := 21) (r2 := 0) (r3 := 0) rfl (by omega) (by omega) (fun (q4 : 200 ≤ x1) => ?_) (fun (q4 : ¬ (200 ≤ x1)) => ?_)
  ·
    refine wi_return (nx := 22) (r1 := 0) (r2 := 0) (r3 := 0) rfl rfl ?_
    exact k h2 g2 F3 (fun q e => XA2 q (by omega))
  ·
    refine wi_aload_n (i := 1) (x := 238) (nx := 10) (r1 := 0) (r2 := 0) (r3 := 0) rfl rfl ?_
    refine wi_iload_n (i := 2) (e := x1) (nx := 11) (r1 := 0) (r2 := 0) (r3 := 0) rfl rfl ?_
    refine wi_aload_n (i := 0) (x := 239) (nx := 12) (r1 := 0) (r2 := 0) (r3 := 0) rfl rfl ?_
    refine wi_iload_n (i := 2) (e := x1) (nx := 13) (r1 := 0) (r2 := 0) (r3 := 0) rfl rfl ?_
    obtain ⟨i5, ei5⟩ : ∃ q : Nat, x1 = (q : Int) := ⟨(x1).toNat, by omega⟩
    refine wr_ia (k0 := 239) (a := x1) (f := i5) (x := h 239 i5) (nx := 14) (r1 := 0) (r2 := 0) (r3 := 0) rfl (by decide) rfl (by omega) (by omega) (by decide) (u2 239 i5 (fn_a (by omega) fn_0)) ?_
    refine wr_iv (k0 := 238) (a := x1) (f := i5) (x := h 239 i5) (nx := 15) (r1 := 0) (r2 := 0) (r3 := 0) rfl (by decide) rfl (by omega) (by omega) (by decide) g2 (xq0 i5 (by omega)) (fun h6 g6 w6 u6 => ?_)
    have F7 := F3.then rfl (FR.rngp (lo := 238) (hi := 238) u6 (by decide))
    have F8 := u2.then rfl (FR.rngp (lo := 238) (hi := 238) u6 (by decide))
    refine wr_iinc (i := 2) (n := 1) (v := x1) (fun e9 => [(2, vi e9), (0, .ref 239), (1, .ref 238)]) (nx := 18) (r1 := 0) (r2 := 0) (r3 := 0) rfl rfl (fun _ => rfl) (fun e9 (fe9 : e9 = x1 + 1) => ?_)
    refine wi_goto (nx := 21) (r1 := 2) (r2 := 0) (r3 := 0) rfl ?_
    refine wp.lo (lo := [(0, .ref 239), (1, .ref 238), (2, vi e9)]) ⟨rfl, rfl, rfl, trivial⟩ rfl ?_
    exact I2 e9 h6 ⟨g6, F7, F8, (show (0 ≤ e9 ∧ e9 ≤ 200) by omega), (fun q e => by
        by_cases e1 : (q : Int) < x1
        · exact (u6 238 _ (fn_i (by omega) fn_0)).trans (XA2 q e1)
        · have e2 : q = i5 := by omega
          have e3 : q = i5 := by omega
          exact (congrArg (h6 238) e2).trans (w6.trans ((Eq.refl _).trans (congrArg (h 239) e3).symm))), (fun q e => (u6 238 q (fn_i (by omega) fn_0)).trans (XB2 q (by omega)))⟩ (show ((200 : Int) + 1 - e9).toNat < ((200 : Int) + 1 - x1).toNat by omega)
-- method 224: Model.wrong(I)V
set_option maxRecDepth 100000 in
set_option maxHeartbeats 100000000 in
theorem ct_224_236 {L : Nat} {xs : Nat → Int32} {d b c : Nat} {h : hp} {cr : Nat → Nat → Option Nat} {Q : hp_Q} (hcr : CR cr)  (g : GI h) (a0 : Int) (q0_ : 1 ≤ a0 ∧ a0 ≤ 5)  (k : ∀ (h2 : hp) , GI h2 → FR [(236, 236, some (8, 8)), (236, 236, some (9, 9))] h h2 → (1 ≤ h2 236 8) → Q (.inl none) (hp_w h2 cr) b c) : wp (md_xa (L, xs)) d 224 (0, [(0, .ref 236), (1, vi a0)], [], hp_w h cr, b, c) Q := by
  have F0 : FR [(236, 236, some (8, 8)), (236, 236, some (9, 9))] h h := FR.refl
  refine wi_aload_n (i := 0) (x := 236) (nx := 1) (r1 := 0) (r2 := 0) (r3 := 0) rfl rfl ?_
  have b1 := gi_b (lo := 0) (hi := 5) g 236 8 rfl
  refine wr_gi0 (k0 := 236) (x := h 236 8) (nx := 4) (r1 := 11) (r2 := 8) (r3 := 0) rfl rfl (by decide) rfl ⟨rfl, rfl⟩ rfl rfl ?_
  refine wi_if (cd := .le) (nx := 7) (r1 := 8) (r2 := 0) (r3 := 0) rfl (by omega) (fun (q2 : (h 236 8) ≤ 0) => ?_) (fun (q2 : ¬ ((h 236 8) ≤ 0)) => ?_)
  ·
    refine wi_aload_n (i := 0) (x := 236) (nx := 9) (r1 := 0) (r2 := 0) (r3 := 0) rfl rfl ?_
    refine wi_aload_n (i := 0) (x := 236) (nx := 10) (r1 := 0) (r2 := 0) (r3 := 0) rfl rfl ?_
    have b3 := gi_b (lo := 0) (hi := 4) g 236 6 rfl
    refine wr_gi0 (k0 := 236) (x := h 236 6) (nx := 13) (r1 := 11) (r2 := 6) (r3 := 0) rfl rfl (by decide) rfl ⟨rfl, rfl⟩ rfl rfl ?_
    refine wi_iconst (n := 4) (nx := 14) (r1 := 0) (r2 := 0) (r3 := 0) rfl ?_
    refine wi_icmp (cd := .ne) (nx := 17) (r1 := 21) (r2 := 0) (r3 := 0) rfl (by omega) (by omega) (fun (q4 : (h 236 6) ≠ 4) => ?_) (fun (q4 : ¬ ((h 236 6) ≠ 4)) => ?_)
    ·
      refine wi_iload_n (i := 1) (e := a0) (nx := 22) (r1 := 0) (r2 := 0) (r3 := 0) rfl rfl ?_
      refine wr_pf0 (k0 := 236) (x := a0) (bl := 0) (bh := 5) (nx := 25) (r1 := 11) (r2 := 8) (r3 := 0) rfl (by decide) rfl ⟨rfl, rfl⟩ rfl rfl g rfl (by omega) (fun h5 g5 w5 u5 => ?_)
      have F6 := F0.then rfl u5
      refine wi_aload_n (i := 0) (x := 236) (nx := 26) (r1 := 0) (r2 := 0) (r3 := 0) rfl rfl ?_
      refine wi_aload_n (i := 0) (x := 236) (nx := 27) (r1 := 0) (r2 := 0) (r3 := 0) rfl rfl ?_
      have b7 := gi_b (lo := 0) (hi := 800) g 236 5 rfl
      refine wr_gi0 (k0 := 236) (x := h 236 5) (nx := 30) (r1 := 11) (r2 := 5) (r3 := 0) rfl rfl (by decide) rfl ⟨rfl, rfl⟩ rfl (u5 236 5 rfl) ?_
      refine wr_pf0 (k0 := 236) (x := h 236 5) (bl := -2147483648) (bh := 2147483647) (nx := 33) (r1 := 11) (r2 := 9) (r3 := 0) rfl (by decide) rfl ⟨rfl, rfl⟩ rfl rfl g5 rfl (by omega) (fun h8 g8 w8 u8 => ?_)
      have F9 := F6.then rfl u8
      refine wi_return (nx := 34) (r1 := 0) (r2 := 0) (r3 := 0) rfl rfl ?_
      have e10 : h8 236 8 = a0 := ((u8 236 8 rfl).trans w5)
      exact k h8 g8 F9 (show 1 ≤ (h8 236 8) by omega)
    ·
      refine wi_iconst (n := 1) (nx := 18) (r1 := 0) (r2 := 0) (r3 := 0) rfl ?_
      refine wi_goto (nx := 21) (r1 := 22) (r2 := 0) (r3 := 0) rfl ?_
      refine wr_pf0 (k0 := 236) (x := 1) (bl := 0) (bh := 5) (nx := 25) (r1 := 11) (r2 := 8) (r3 := 0) rfl (by decide) rfl ⟨rfl, rfl⟩ rfl rfl g rfl (by omega) (fun h5 g5 w5 u5 => ?_)
      have F6 := F0.then rfl u5
      refine wi_aload_n (i := 0) (x := 236) (nx := 26) (r1 := 0) (r2 := 0) (r3 := 0) rfl rfl ?_
      refine wi_aload_n (i := 0) (x := 236) (nx := 27) (r1 := 0) (r2 := 0) (r3 := 0) rfl rfl ?_
      have b7 := gi_b (lo := 0) (hi := 800) g 236 5 rfl
      refine wr_gi0 (k0 := 236) (x := h 236 5) (nx := 30) (r1 := 11) (r2 := 5) (r3 := 0) rfl rfl (by decide) rfl ⟨rfl, rfl⟩ rfl (u5 236 5 rfl) ?_
      refine wr_pf0 (k0 := 236) (x := h 236 5) (bl := -2147483648) (bh := 2147483647) (nx := 33) (r1 := 11) (r2 := 9) (r3 := 0) rfl (by decide) rfl ⟨rfl, rfl⟩ rfl rfl g5 rfl (by omega) (fun h8 g8 w8 u8 => ?_)
      have F9 := F6.then rfl u8
      refine wi_return (nx := 34) (r1 := 0) (r2 := 0) (r3 := 0) rfl rfl ?_
      have e10 : h8 236 8 = 1 := ((u8 236 8 rfl).trans w5)
      exact k h8 g8 F9 (show 1 ≤ (h8 236 8) by omega)
  ·
    refine wi_return (nx := 8) (r1 := 0) (r2 := 0) (r3 := 0) rfl rfl ?_
    exact k h g F0 (show 1 ≤ (h 236 8) by omega)
-- method 234: Model.once(Z)Z
set_option maxRecDepth 100000 in
set_option maxHeartbeats 100000000 in
theorem ct_234_236 {L : Nat} {xs : Nat → Int32} {d b c : Nat} {h : hp} {cr : Nat → Nat → Option Nat} {Q : hp_Q} (hcr : CR cr)  (g : GI h) (a0 : Int) (q0_ : 0 ≤ a0 ∧ a0 ≤ 1) (pp0 : h 236 4 ≤ h 236 3) (k : ∀ (h2 : hp) (z0 : Int) , GI h2 → FR [(236, 236, some (4, 4)), (236, 236, some (5, 5)), (236, 236, some (6, 6)), (236, 236, some (7, 7)), (236, 236, some (8, 8)), (236, 236, some (9, 9)), (236, 236, some (12, 12))] h h2 → (1 ≤ z0 ∧ z0 ≤ 1) → (h 236 4 ≤ h2 236 4) → (h2 236 4 ≤ h 236 3) → (1 ≤ h2 236 8 ∨ h 236 8 = 0) → Q (.inl (some (vi z0))) (hp_w h2 cr) b c) : wp (md_xa (L, xs)) (d + 2) 234 (0, [(0, .ref 236), (1, vi a0)], [], hp_w h cr, b, c) Q := by
  have F0 : FR [(236, 236, some (4, 4)), (236, 236, some (5, 5)), (236, 236, some (6, 6)), (236, 236, some (7, 7)), (236, 236, some (8, 8)), (236, 236, some (9, 9)), (236, 236, some (12, 12))] h h := FR.refl
  have b1 := gi_b (lo := 0) (hi := 800) g 236 4 rfl
  have b2 := gi_b (lo := 0) (hi := 800) g 236 3 rfl
  refine wi_iload_n (i := 1) (e := a0) (nx := 1) (r1 := 0) (r2 := 0) (r3 := 0) rfl rfl ?_
  refine wi_if (cd := .eq) (nx := 4) (r1 := 9) (r2 := 0) (r3 := 0) rfl (by omega) (fun (q3 : a0 = 0) => ?_) (fun (q3 : ¬ (a0 = 0)) => ?_)
  ·
    refine wi_aload_n (i := 0) (x := 236) (nx := 10) (r1 := 0) (r2 := 0) (r3 := 0) rfl rfl ?_
    refine wr_V (k0 := 236) (rest := []) (as := [.ref 236]) (nx := 13) (r1 := 219) (r2 := 0) (r3 := 11) rfl rfl rfl (of_decide_eq_true rfl) rfl rfl (by decide) rfl rfl (of_decide_eq_true rfl) (of_decide_eq_true rfl) ?_
    refine wi_aload_n (i := 0) (x := 236) (nx := 1) (r1 := 0) (r2 := 0) (r3 := 0) rfl rfl ?_
    have b4 := gi_b (lo := 0) (hi := 5) g 236 8 rfl
    refine wr_gi0 (k0 := 236) (x := h 236 8) (nx := 4) (r1 := 11) (r2 := 8) (r3 := 0) rfl rfl (by decide) rfl ⟨rfl, rfl⟩ rfl rfl ?_
    refine wi_if (cd := .ne) (nx := 7) (r1 := 11) (r2 := 0) (r3 := 0) rfl (by omega) (fun (q5 : (h 236 8) ≠ 0) => ?_) (fun (q5 : ¬ ((h 236 8) ≠ 0)) => ?_)
    ·
      refine wi_iconst (n := 0) (nx := 12) (r1 := 0) (r2 := 0) (r3 := 0) rfl ?_
      refine wi_zreturn (nx := 13) (r1 := 0) (r2 := 0) (r3 := 0) rfl rfl (by omega) ?_
      refine wk_i ?_
      refine wi_if (cd := .eq) (nx := 16) (r1 := 20) (r2 := 0) (r3 := 0) rfl (by omega) (fun (q6 : 0 = 0) => ?_) (fun (q6 : ¬ (0 = 0)) => by exfalso; omega)
      refine wi_iconst (n := 1) (nx := 21) (r1 := 0) (r2 := 0) (r3 := 0) rfl ?_
      refine wi_zreturn (nx := 22) (r1 := 0) (r2 := 0) (r3 := 0) rfl rfl (by omega) ?_
      exact k h 1 g F0 (by omega) (show (h 236 4) ≤ (h 236 4) by omega) (show (h 236 4) ≤ (h 236 3) by omega) (show 1 ≤ (h 236 8) ∨ (h 236 8) = 0 by omega)
    ·
      refine wi_iconst (n := 1) (nx := 8) (r1 := 0) (r2 := 0) (r3 := 0) rfl ?_
      refine wi_goto (nx := 11) (r1 := 12) (r2 := 0) (r3 := 0) rfl ?_
      refine wi_zreturn (nx := 13) (r1 := 0) (r2 := 0) (r3 := 0) rfl rfl (by omega) ?_
      refine wk_i ?_
      refine wi_if (cd := .eq) (nx := 16) (r1 := 20) (r2 := 0) (r3 := 0) rfl (by omega) (fun (q6 : 1 = 0) => by exfalso; omega) (fun (q6 : ¬ (1 = 0)) => ?_)
      refine wi_aload_n (i := 0) (x := 236) (nx := 17) (r1 := 0) (r2 := 0) (r3 := 0) rfl rfl ?_
      refine wr_V (k0 := 236) (rest := []) (as := [.ref 236]) (nx := 20) (r1 := 215) (r2 := 0) (r3 := 11) rfl rfl rfl (of_decide_eq_true rfl) rfl rfl (by decide) rfl rfl (of_decide_eq_true rfl) (of_decide_eq_true rfl) ?_
      refine ct_215_236 hcr  g   (show (h 236 4) ≤ (h 236 3) by omega) (fun h7 g7 u7 (p7_0 : (h 236 4) ≤ (h7 236 4)) (p7_1 : (h7 236 4) ≤ (h 236 3)) (p7_2 : (h7 236 6) = 0 ∨ (h 236 4) + 1 ≤ (h7 236 4)) => ?_)
      have F8 := F0.then (by decide +kernel) u7
      have b9 := gi_b (lo := 0) (hi := 800) g7 236 4 rfl
      have b10 := gi_b (lo := 0) (hi := 4) g7 236 6 rfl
      refine wk_n ?_
      refine wi_iconst (n := 1) (nx := 21) (r1 := 0) (r2 := 0) (r3 := 0) rfl ?_
      refine wi_zreturn (nx := 22) (r1 := 0) (r2 := 0) (r3 := 0) rfl rfl (by omega) ?_
      have e11 : h7 236 8 = h 236 8 := (u7 236 8 rfl)
      exact k h7 1 g7 F8 (by omega) (show (h 236 4) ≤ (h7 236 4) by omega) (show (h7 236 4) ≤ (h 236 3) by omega) (show 1 ≤ (h7 236 8) ∨ (h 236 8) = 0 by omega)
  ·
    refine wi_aload_n (i := 0) (x := 236) (nx := 5) (r1 := 0) (r2 := 0) (r3 := 0) rfl rfl ?_
    refine wi_iconst (n := 3) (nx := 6) (r1 := 0) (r2 := 0) (r3 := 0) rfl ?_
    refine wr_V (k0 := 236) (rest := []) (as := [.ref 236, vi 3]) (nx := 9) (r1 := 224) (r2 := 1) (r3 := 11) rfl rfl rfl (of_decide_eq_true rfl) rfl rfl (by decide) rfl rfl (of_decide_eq_true rfl) (of_decide_eq_true rfl) ?_
    refine ct_224_236 hcr  g 3 (by omega)  (fun h4 g4 u4 (p4_0 : 1 ≤ (h4 236 8)) => ?_)
    have F5 := F0.then (by decide +kernel) u4
    have b6 := gi_b (lo := 0) (hi := 5) g4 236 8 rfl
    refine wk_n ?_
    refine wi_aload_n (i := 0) (x := 236) (nx := 10) (r1 := 0) (r2 := 0) (r3 := 0) rfl rfl ?_
    refine wr_V (k0 := 236) (rest := []) (as := [.ref 236]) (nx := 13) (r1 := 219) (r2 := 0) (r3 := 11) rfl rfl rfl (of_decide_eq_true rfl) rfl rfl (by decide) rfl rfl (of_decide_eq_true rfl) (of_decide_eq_true rfl) ?_
    refine wi_aload_n (i := 0) (x := 236) (nx := 1) (r1 := 0) (r2 := 0) (r3 := 0) rfl rfl ?_
    refine wr_gi0 (k0 := 236) (x := h4 236 8) (nx := 4) (r1 := 11) (r2 := 8) (r3 := 0) rfl rfl (by decide) rfl ⟨rfl, rfl⟩ rfl rfl ?_
    refine wi_if (cd := .ne) (nx := 7) (r1 := 11) (r2 := 0) (r3 := 0) rfl (by omega) (fun (q7 : (h4 236 8) ≠ 0) => ?_) (fun (q7 : ¬ ((h4 236 8) ≠ 0)) => by exfalso; omega)
    refine wi_iconst (n := 0) (nx := 12) (r1 := 0) (r2 := 0) (r3 := 0) rfl ?_
    refine wi_zreturn (nx := 13) (r1 := 0) (r2 := 0) (r3 := 0) rfl rfl (by omega) ?_
    refine wk_i ?_
    refine wi_if (cd := .eq) (nx := 16) (r1 := 20) (r2 := 0) (r3 := 0) rfl (by omega) (fun (q8 : 0 = 0) => ?_) (fun (q8 : ¬ (0 = 0)) => by exfalso; omega)
    refine wi_iconst (n := 1) (nx := 21) (r1 := 0) (r2 := 0) (r3 := 0) rfl ?_
    refine wi_zreturn (nx := 22) (r1 := 0) (r2 := 0) (r3 := 0) rfl rfl (by omega) ?_
    have e9 : h4 236 4 = h 236 4 := (u4 236 4 rfl)
    have b10 := gi_b (lo := 0) (hi := 5) g 236 8 rfl
    exact k h4 1 g4 F5 (by omega) (show (h 236 4) ≤ (h4 236 4) by omega) (show (h4 236 4) ≤ (h 236 3) by omega) (show 1 ≤ (h4 236 8) ∨ (h 236 8) = 0 by omega)
-- method 231: Model.number(II)I
set_option maxRecDepth 100000 in
set_option maxHeartbeats 100000000 in
theorem ct_231_236 {L : Nat} {xs : Nat → Int32} {d b c : Nat} {h : hp} {cr : Nat → Nat → Option Nat} {Q : hp_Q} (hcr : CR cr)  (g : GI h) (a0 : Int) (a1 : Int) (q0_ : -2147483648 ≤ a0 ∧ a0 ≤ 2147483647) (q1_ : -2147483648 ≤ a1 ∧ a1 ≤ 2147483647) (pp0 : h 236 4 ≤ h 236 3) (k : ∀ (h2 : hp) (z0 : Int) , GI h2 → FR [(236, 236, some (4, 4)), (236, 236, some (5, 5)), (236, 236, some (6, 6)), (236, 236, some (7, 7)), (236, 236, some (8, 8)), (236, 236, some (9, 9)), (236, 236, some (12, 12))] h h2 → (0 ≤ z0 ∧ z0 ≤ 999) → (h 236 4 ≤ h2 236 4) → (h2 236 4 ≤ h 236 3) → (1 ≤ h2 236 8 ∨ h 236 8 = 0) → (1 ≤ h2 236 8 ∨ (a0 ≤ z0 ∧ z0 ≤ a1)) → (1 ≤ h2 236 8 ∨ h 236 6 = 2) → Q (.inl (some (vi z0))) (hp_w h2 cr) b c) : wp (md_xa (L, xs)) (d + 2) 231 (0, [(0, .ref 236), (1, vi a0), (2, vi a1)], [], hp_w h cr, b, c) Q := by
  have F0 : FR [(236, 236, some (4, 4)), (236, 236, some (5, 5)), (236, 236, some (6, 6)), (236, 236, some (7, 7)), (236, 236, some (8, 8)), (236, 236, some (9, 9)), (236, 236, some (12, 12))] h h := FR.refl
  have b1 := gi_b (lo := 0) (hi := 800) g 236 4 rfl
  have b2 := gi_b (lo := 0) (hi := 800) g 236 3 rfl
  refine wi_aload_n (i := 0) (x := 236) (nx := 1) (r1 := 0) (r2 := 0) (r3 := 0) rfl rfl ?_
  refine wr_V (k0 := 236) (rest := []) (as := [.ref 236]) (nx := 4) (r1 := 219) (r2 := 0) (r3 := 11) rfl rfl rfl (of_decide_eq_true rfl) rfl rfl (by decide) rfl rfl (of_decide_eq_true rfl) (of_decide_eq_true rfl) ?_
  refine wi_aload_n (i := 0) (x := 236) (nx := 1) (r1 := 0) (r2 := 0) (r3 := 0) rfl rfl ?_
  have b3 := gi_b (lo := 0) (hi := 5) g 236 8 rfl
  refine wr_gi0 (k0 := 236) (x := h 236 8) (nx := 4) (r1 := 11) (r2 := 8) (r3 := 0) rfl rfl (by decide) rfl ⟨rfl, rfl⟩ rfl rfl ?_
  refine wi_if (cd := .ne) (nx := 7) (r1 := 11) (r2 := 0) (r3 := 0) rfl (by omega) (fun (q4 : (h 236 8) ≠ 0) => ?_) (fun (q4 : ¬ ((h 236 8) ≠ 0)) => ?_)
  ·
    refine wi_iconst (n := 0) (nx := 12) (r1 := 0) (r2 := 0) (r3 := 0) rfl ?_
    refine wi_zreturn (nx := 13) (r1 := 0) (r2 := 0) (r3 := 0) rfl rfl (by omega) ?_
    refine wk_i ?_
    refine wi_if (cd := .eq) (nx := 7) (r1 := 20) (r2 := 0) (r3 := 0) rfl (by omega) (fun (q5 : 0 = 0) => ?_) (fun (q5 : ¬ (0 = 0)) => by exfalso; omega)
    refine wi_aload_n (i := 0) (x := 236) (nx := 21) (r1 := 0) (r2 := 0) (r3 := 0) rfl rfl ?_
    have b6 := gi_b (lo := 0) (hi := 999) g 236 7 rfl
    refine wr_gi0 (k0 := 236) (x := h 236 7) (nx := 24) (r1 := 11) (r2 := 7) (r3 := 0) rfl rfl (by decide) rfl ⟨rfl, rfl⟩ rfl rfl ?_
    refine wi_istore_n (i := 3) (e := h 236 7) (lo2 := [(3, vi (h 236 7)), (0, .ref 236), (1, vi a0), (2, vi a1)]) (nx := 25) (r1 := 0) (r2 := 0) (r3 := 0) rfl rfl ?_
    refine wi_aload_n (i := 0) (x := 236) (nx := 26) (r1 := 0) (r2 := 0) (r3 := 0) rfl rfl ?_
    refine wr_V (k0 := 236) (rest := []) (as := [.ref 236]) (nx := 29) (r1 := 219) (r2 := 0) (r3 := 11) rfl rfl rfl (of_decide_eq_true rfl) rfl rfl (by decide) rfl rfl (of_decide_eq_true rfl) (of_decide_eq_true rfl) ?_
    refine wi_aload_n (i := 0) (x := 236) (nx := 1) (r1 := 0) (r2 := 0) (r3 := 0) rfl rfl ?_
    refine wr_gi0 (k0 := 236) (x := h 236 8) (nx := 4) (r1 := 11) (r2 := 8) (r3 := 0) rfl rfl (by decide) rfl ⟨rfl, rfl⟩ rfl rfl ?_
    refine wi_if (cd := .ne) (nx := 7) (r1 := 11) (r2 := 0) (r3 := 0) rfl (by omega) (fun (q7 : (h 236 8) ≠ 0) => ?_) (fun (q7 : ¬ ((h 236 8) ≠ 0)) => by exfalso; omega)
    refine wi_iconst (n := 0) (nx := 12) (r1 := 0) (r2 := 0) (r3 := 0) rfl ?_
    refine wi_zreturn (nx := 13) (r1 := 0) (r2 := 0) (r3 := 0) rfl rfl (by omega) ?_
    refine wk_i ?_
    refine wi_if (cd := .eq) (nx := 32) (r1 := 49) (r2 := 0) (r3 := 0) rfl (by omega) (fun (q8 : 0 = 0) => ?_) (fun (q8 : ¬ (0 = 0)) => by exfalso; omega)
    refine wi_aload_n (i := 0) (x := 236) (nx := 50) (r1 := 0) (r2 := 0) (r3 := 0) rfl rfl ?_
    refine wr_V (k0 := 236) (rest := []) (as := [.ref 236]) (nx := 53) (r1 := 219) (r2 := 0) (r3 := 11) rfl rfl rfl (of_decide_eq_true rfl) rfl rfl (by decide) rfl rfl (of_decide_eq_true rfl) (of_decide_eq_true rfl) ?_
    refine wi_aload_n (i := 0) (x := 236) (nx := 1) (r1 := 0) (r2 := 0) (r3 := 0) rfl rfl ?_
    refine wr_gi0 (k0 := 236) (x := h 236 8) (nx := 4) (r1 := 11) (r2 := 8) (r3 := 0) rfl rfl (by decide) rfl ⟨rfl, rfl⟩ rfl rfl ?_
    refine wi_if (cd := .ne) (nx := 7) (r1 := 11) (r2 := 0) (r3 := 0) rfl (by omega) (fun (q9 : (h 236 8) ≠ 0) => ?_) (fun (q9 : ¬ ((h 236 8) ≠ 0)) => by exfalso; omega)
    refine wi_iconst (n := 0) (nx := 12) (r1 := 0) (r2 := 0) (r3 := 0) rfl ?_
    refine wi_zreturn (nx := 13) (r1 := 0) (r2 := 0) (r3 := 0) rfl rfl (by omega) ?_
    refine wk_i ?_
    refine wi_if (cd := .eq) (nx := 56) (r1 := 60) (r2 := 0) (r3 := 0) rfl (by omega) (fun (q10 : 0 = 0) => ?_) (fun (q10 : ¬ (0 = 0)) => by exfalso; omega)
    refine wi_iload_n (i := 3) (e := h 236 7) (nx := 61) (r1 := 0) (r2 := 0) (r3 := 0) rfl rfl ?_
    refine wi_ireturn (nx := 62) (r1 := 0) (r2 := 0) (r3 := 0) rfl rfl ?_
    have b11 := gi_b (lo := 0) (hi := 4) g 236 6 rfl
    exact k h (h 236 7) g F0 (by omega) (show (h 236 4) ≤ (h 236 4) by omega) (show (h 236 4) ≤ (h 236 3) by omega) (show 1 ≤ (h 236 8) ∨ (h 236 8) = 0 by omega) (show 1 ≤ (h 236 8) ∨ (a0 ≤ (h 236 7) ∧ (h 236 7) ≤ a1) by omega) (show 1 ≤ (h 236 8) ∨ (h 236 6) = 2 by omega)
  ·
    refine wi_iconst (n := 1) (nx := 8) (r1 := 0) (r2 := 0) (r3 := 0) rfl ?_
    refine wi_goto (nx := 11) (r1 := 12) (r2 := 0) (r3 := 0) rfl ?_
    refine wi_zreturn (nx := 13) (r1 := 0) (r2 := 0) (r3 := 0) rfl rfl (by omega) ?_
    refine wk_i ?_
    refine wi_if (cd := .eq) (nx := 7) (r1 := 20) (r2 := 0) (r3 := 0) rfl (by omega) (fun (q5 : 1 = 0) => by exfalso; omega) (fun (q5 : ¬ (1 = 0)) => ?_)
    refine wi_aload_n (i := 0) (x := 236) (nx := 8) (r1 := 0) (r2 := 0) (r3 := 0) rfl rfl ?_
    have b6 := gi_b (lo := 0) (hi := 4) g 236 6 rfl
    refine wr_gi0 (k0 := 236) (x := h 236 6) (nx := 11) (r1 := 11) (r2 := 6) (r3 := 0) rfl rfl (by decide) rfl ⟨rfl, rfl⟩ rfl rfl ?_
    refine wi_iconst (n := 2) (nx := 12) (r1 := 0) (r2 := 0) (r3 := 0) rfl ?_
    refine wi_icmp (cd := .eq) (nx := 15) (r1 := 20) (r2 := 0) (r3 := 0) rfl (by omega) (by omega) (fun (q7 : (h 236 6) = 2) => ?_) (fun (q7 : ¬ ((h 236 6) = 2)) => ?_)
    ·
      refine wi_aload_n (i := 0) (x := 236) (nx := 21) (r1 := 0) (r2 := 0) (r3 := 0) rfl rfl ?_
      have b8 := gi_b (lo := 0) (hi := 999) g 236 7 rfl
      refine wr_gi0 (k0 := 236) (x := h 236 7) (nx := 24) (r1 := 11) (r2 := 7) (r3 := 0) rfl rfl (by decide) rfl ⟨rfl, rfl⟩ rfl rfl ?_
      refine wi_istore_n (i := 3) (e := h 236 7) (lo2 := [(3, vi (h 236 7)), (0, .ref 236), (1, vi a0), (2, vi a1)]) (nx := 25) (r1 := 0) (r2 := 0) (r3 := 0) rfl rfl ?_
      refine wi_aload_n (i := 0) (x := 236) (nx := 26) (r1 := 0) (r2 := 0) (r3 := 0) rfl rfl ?_
      refine wr_V (k0 := 236) (rest := []) (as := [.ref 236]) (nx := 29) (r1 := 219) (r2 := 0) (r3 := 11) rfl rfl rfl (of_decide_eq_true rfl) rfl rfl (by decide) rfl rfl (of_decide_eq_true rfl) (of_decide_eq_true rfl) ?_
      refine wi_aload_n (i := 0) (x := 236) (nx := 1) (r1 := 0) (r2 := 0) (r3 := 0) rfl rfl ?_
      refine wr_gi0 (k0 := 236) (x := h 236 8) (nx := 4) (r1 := 11) (r2 := 8) (r3 := 0) rfl rfl (by decide) rfl ⟨rfl, rfl⟩ rfl rfl ?_
      refine wi_if (cd := .ne) (nx := 7) (r1 := 11) (r2 := 0) (r3 := 0) rfl (by omega) (fun (q9 : (h 236 8) ≠ 0) => by exfalso; omega) (fun (q9 : ¬ ((h 236 8) ≠ 0)) => ?_)
      refine wi_iconst (n := 1) (nx := 8) (r1 := 0) (r2 := 0) (r3 := 0) rfl ?_
      refine wi_goto (nx := 11) (r1 := 12) (r2 := 0) (r3 := 0) rfl ?_
      refine wi_zreturn (nx := 13) (r1 := 0) (r2 := 0) (r3 := 0) rfl rfl (by omega) ?_
      refine wk_i ?_
      refine wi_if (cd := .eq) (nx := 32) (r1 := 49) (r2 := 0) (r3 := 0) rfl (by omega) (fun (q10 : 1 = 0) => by exfalso; omega) (fun (q10 : ¬ (1 = 0)) => ?_)
      refine wi_iload_n (i := 3) (e := h 236 7) (nx := 33) (r1 := 0) (r2 := 0) (r3 := 0) rfl rfl ?_
      refine wi_i2l (nx := 34) (r1 := 0) (r2 := 0) (r3 := 0) rfl (by omega) ?_
      refine wi_iload_n (i := 1) (e := a0) (nx := 35) (r1 := 0) (r2 := 0) (r3 := 0) rfl rfl ?_
      refine wi_i2l (nx := 36) (r1 := 0) (r2 := 0) (r3 := 0) rfl (by omega) ?_
      refine wi_iload_n (i := 2) (e := a1) (nx := 37) (r1 := 0) (r2 := 0) (r3 := 0) rfl rfl ?_
      refine wi_i2l (nx := 38) (r1 := 0) (r2 := 0) (r3 := 0) rfl (by omega) ?_
      refine wi_S (rest := []) (as := [vl (h 236 7), vl a0, vl a1]) (nx := 41) (r1 := 210) (r2 := 19) (r3 := 0) rfl rfl rfl (of_decide_eq_true rfl) rfl rfl (of_decide_eq_true rfl) (of_decide_eq_true rfl) ?_
      refine wi_lload_n (i := 0) (e := h 236 7) (nx := 1) (r1 := 0) (r2 := 0) (r3 := 0) rfl rfl ?_
      refine wi_lload_n (i := 2) (e := a0) (nx := 2) (r1 := 0) (r2 := 0) (r3 := 0) rfl rfl ?_
      refine wi_lcmp (a := h 236 7) (e := a0) (nx := 3) (r1 := 0) (r2 := 0) (r3 := 0) rfl (by omega) (by omega) (fun r11 (fr11 : (r11 = -1 ∧ (h 236 7) < a0) ∨ (r11 = 0 ∧ (h 236 7) = a0) ∨ (r11 = 1 ∧ a0 < (h 236 7))) => ?_)
      refine wi_if (cd := .lt) (nx := 6) (r1 := 17) (r2 := 0) (r3 := 0) rfl (by omega) (fun (q12 : r11 < 0) => ?_) (fun (q12 : ¬ (r11 < 0)) => ?_)
      ·
        refine wi_iconst (n := 0) (nx := 18) (r1 := 0) (r2 := 0) (r3 := 0) rfl ?_
        refine wi_zreturn (nx := 19) (r1 := 0) (r2 := 0) (r3 := 0) rfl rfl (by omega) ?_
        refine wk_i ?_
        refine wi_if (cd := .ne) (nx := 44) (r1 := 49) (r2 := 0) (r3 := 0) rfl (by omega) (fun (q13 : 0 ≠ 0) => by exfalso; omega) (fun (q13 : ¬ (0 ≠ 0)) => ?_)
        refine wi_aload_n (i := 0) (x := 236) (nx := 45) (r1 := 0) (r2 := 0) (r3 := 0) rfl rfl ?_
        refine wi_iconst (n := 2) (nx := 46) (r1 := 0) (r2 := 0) (r3 := 0) rfl ?_
        refine wr_V (k0 := 236) (rest := []) (as := [.ref 236, vi 2]) (nx := 49) (r1 := 224) (r2 := 1) (r3 := 11) rfl rfl rfl (of_decide_eq_true rfl) rfl rfl (by decide) rfl rfl (of_decide_eq_true rfl) (of_decide_eq_true rfl) ?_
        refine ct_224_236 hcr  g 2 (by omega)  (fun h14 g14 u14 (p14_0 : 1 ≤ (h14 236 8)) => ?_)
        have F15 := F0.then (by decide +kernel) u14
        have b16 := gi_b (lo := 0) (hi := 5) g14 236 8 rfl
        refine wk_n ?_
        refine wi_aload_n (i := 0) (x := 236) (nx := 50) (r1 := 0) (r2 := 0) (r3 := 0) rfl rfl ?_
        refine wr_V (k0 := 236) (rest := []) (as := [.ref 236]) (nx := 53) (r1 := 219) (r2 := 0) (r3 := 11) rfl rfl rfl (of_decide_eq_true rfl) rfl rfl (by decide) rfl rfl (of_decide_eq_true rfl) (of_decide_eq_true rfl) ?_
        refine wi_aload_n (i := 0) (x := 236) (nx := 1) (r1 := 0) (r2 := 0) (r3 := 0) rfl rfl ?_
        refine wr_gi0 (k0 := 236) (x := h14 236 8) (nx := 4) (r1 := 11) (r2 := 8) (r3 := 0) rfl rfl (by decide) rfl ⟨rfl, rfl⟩ rfl rfl ?_
        refine wi_if (cd := .ne) (nx := 7) (r1 := 11) (r2 := 0) (r3 := 0) rfl (by omega) (fun (q17 : (h14 236 8) ≠ 0) => ?_) (fun (q17 : ¬ ((h14 236 8) ≠ 0)) => by exfalso; omega)
        refine wi_iconst (n := 0) (nx := 12) (r1 := 0) (r2 := 0) (r3 := 0) rfl ?_
        refine wi_zreturn (nx := 13) (r1 := 0) (r2 := 0) (r3 := 0) rfl rfl (by omega) ?_
        refine wk_i ?_
        refine wi_if (cd := .eq) (nx := 56) (r1 := 60) (r2 := 0) (r3 := 0) rfl (by omega) (fun (q18 : 0 = 0) => ?_) (fun (q18 : ¬ (0 = 0)) => by exfalso; omega)
        refine wi_iload_n (i := 3) (e := h 236 7) (nx := 61) (r1 := 0) (r2 := 0) (r3 := 0) rfl rfl ?_
        refine wi_ireturn (nx := 62) (r1 := 0) (r2 := 0) (r3 := 0) rfl rfl ?_
        have e19 : h14 236 4 = h 236 4 := (u14 236 4 rfl)
        exact k h14 (h 236 7) g14 F15 (by omega) (show (h 236 4) ≤ (h14 236 4) by omega) (show (h14 236 4) ≤ (h 236 3) by omega) (show 1 ≤ (h14 236 8) ∨ (h 236 8) = 0 by omega) (show 1 ≤ (h14 236 8) ∨ (a0 ≤ (h 236 7) ∧ (h 236 7) ≤ a1) by omega) (show 1 ≤ (h14 236 8) ∨ (h 236 6) = 2 by omega)
      ·
        refine wi_lload_n (i := 0) (e := h 236 7) (nx := 7) (r1 := 0) (r2 := 0) (r3 := 0) rfl rfl ?_
        refine wi_lload (i := 4) (e := a1) (nx := 9) (r1 := 0) (r2 := 0) (r3 := 0) rfl rfl ?_
        refine wi_lcmp (a := h 236 7) (e := a1) (nx := 10) (r1 := 0) (r2 := 0) (r3 := 0) rfl (by omega) (by omega) (fun r13 (fr13 : (r13 = -1 ∧ (h 236 7) < a1) ∨ (r13 = 0 ∧ (h 236 7) = a1) ∨ (r13 = 1 ∧ a1 < (h 236 7))) => ?_)
        refine wi_if (cd := .gt) (nx := 13) (r1 := 17) (r2 := 0) (r3 := 0) rfl (by omega) (fun (q14 : 0 < r13) => ?_) (fun (q14 : ¬ (0 < r13)) => ?_)
        ·
          refine wi_iconst (n := 0) (nx := 18) (r1 := 0) (r2 := 0) (r3 := 0) rfl ?_
          refine wi_zreturn (nx := 19) (r1 := 0) (r2 := 0) (r3 := 0) rfl rfl (by omega) ?_
          refine wk_i ?_
          refine wi_if (cd := .ne) (nx := 44) (r1 := 49) (r2 := 0) (r3 := 0) rfl (by omega) (fun (q15 : 0 ≠ 0) => by exfalso; omega) (fun (q15 : ¬ (0 ≠ 0)) => ?_)
          refine wi_aload_n (i := 0) (x := 236) (nx := 45) (r1 := 0) (r2 := 0) (r3 := 0) rfl rfl ?_
          refine wi_iconst (n := 2) (nx := 46) (r1 := 0) (r2 := 0) (r3 := 0) rfl ?_
          refine wr_V (k0 := 236) (rest := []) (as := [.ref 236, vi 2]) (nx := 49) (r1 := 224) (r2 := 1) (r3 := 11) rfl rfl rfl (of_decide_eq_true rfl) rfl rfl (by decide) rfl rfl (of_decide_eq_true rfl) (of_decide_eq_true rfl) ?_
          refine ct_224_236 hcr  g 2 (by omega)  (fun h16 g16 u16 (p16_0 : 1 ≤ (h16 236 8)) => ?_)
          have F17 := F0.then (by decide +kernel) u16
          have b18 := gi_b (lo := 0) (hi := 5) g16 236 8 rfl
          refine wk_n ?_
          refine wi_aload_n (i := 0) (x := 236) (nx := 50) (r1 := 0) (r2 := 0) (r3 := 0) rfl rfl ?_
          refine wr_V (k0 := 236) (rest := []) (as := [.ref 236]) (nx := 53) (r1 := 219) (r2 := 0) (r3 := 11) rfl rfl rfl (of_decide_eq_true rfl) rfl rfl (by decide) rfl rfl (of_decide_eq_true rfl) (of_decide_eq_true rfl) ?_
          refine wi_aload_n (i := 0) (x := 236) (nx := 1) (r1 := 0) (r2 := 0) (r3 := 0) rfl rfl ?_
          refine wr_gi0 (k0 := 236) (x := h16 236 8) (nx := 4) (r1 := 11) (r2 := 8) (r3 := 0) rfl rfl (by decide) rfl ⟨rfl, rfl⟩ rfl rfl ?_
          refine wi_if (cd := .ne) (nx := 7) (r1 := 11) (r2 := 0) (r3 := 0) rfl (by omega) (fun (q19 : (h16 236 8) ≠ 0) => ?_) (fun (q19 : ¬ ((h16 236 8) ≠ 0)) => by exfalso; omega)
          refine wi_iconst (n := 0) (nx := 12) (r1 := 0) (r2 := 0) (r3 := 0) rfl ?_
          refine wi_zreturn (nx := 13) (r1 := 0) (r2 := 0) (r3 := 0) rfl rfl (by omega) ?_
          refine wk_i ?_
          refine wi_if (cd := .eq) (nx := 56) (r1 := 60) (r2 := 0) (r3 := 0) rfl (by omega) (fun (q20 : 0 = 0) => ?_) (fun (q20 : ¬ (0 = 0)) => by exfalso; omega)
          refine wi_iload_n (i := 3) (e := h 236 7) (nx := 61) (r1 := 0) (r2 := 0) (r3 := 0) rfl rfl ?_
          refine wi_ireturn (nx := 62) (r1 := 0) (r2 := 0) (r3 := 0) rfl rfl ?_
          have e21 : h16 236 4 = h 236 4 := (u16 236 4 rfl)
          exact k h16 (h 236 7) g16 F17 (by omega) (show (h 236 4) ≤ (h16 236 4) by omega) (show (h16 236 4) ≤ (h 236 3) by omega) (show 1 ≤ (h16 236 8) ∨ (h 236 8) = 0 by omega) (show 1 ≤ (h16 236 8) ∨ (a0 ≤ (h 236 7) ∧ (h 236 7) ≤ a1) by omega) (show 1 ≤ (h16 236 8) ∨ (h 236 6) = 2 by omega)
        ·
          refine wi_iconst (n := 1) (nx := 14) (r1 := 0) (r2 := 0) (r3 := 0) rfl ?_
          refine wi_goto (nx := 17) (r1 := 18) (r2 := 0) (r3 := 0) rfl ?_
          refine wi_zreturn (nx := 19) (r1 := 0) (r2 := 0) (r3 := 0) rfl rfl (by omega) ?_
          refine wk_i ?_
          refine wi_if (cd := .ne) (nx := 44) (r1 := 49) (r2 := 0) (r3 := 0) rfl (by omega) (fun (q15 : 1 ≠ 0) => ?_) (fun (q15 : ¬ (1 ≠ 0)) => by exfalso; omega)
          refine wi_aload_n (i := 0) (x := 236) (nx := 50) (r1 := 0) (r2 := 0) (r3 := 0) rfl rfl ?_
          refine wr_V (k0 := 236) (rest := []) (as := [.ref 236]) (nx := 53) (r1 := 219) (r2 := 0) (r3 := 11) rfl rfl rfl (of_decide_eq_true rfl) rfl rfl (by decide) rfl rfl (of_decide_eq_true rfl) (of_decide_eq_true rfl) ?_
          refine wi_aload_n (i := 0) (x := 236) (nx := 1) (r1 := 0) (r2 := 0) (r3 := 0) rfl rfl ?_
          refine wr_gi0 (k0 := 236) (x := h 236 8) (nx := 4) (r1 := 11) (r2 := 8) (r3 := 0) rfl rfl (by decide) rfl ⟨rfl, rfl⟩ rfl rfl ?_
          refine wi_if (cd := .ne) (nx := 7) (r1 := 11) (r2 := 0) (r3 := 0) rfl (by omega) (fun (q16 : (h 236 8) ≠ 0) => by exfalso; omega) (fun (q16 : ¬ ((h 236 8) ≠ 0)) => ?_)
          refine wi_iconst (n := 1) (nx := 8) (r1 := 0) (r2 := 0) (r3 := 0) rfl ?_
          refine wi_goto (nx := 11) (r1 := 12) (r2 := 0) (r3 := 0) rfl ?_
          refine wi_zreturn (nx := 13) (r1 := 0) (r2 := 0) (r3 := 0) rfl rfl (by omega) ?_
          refine wk_i ?_
          refine wi_if (cd := .eq) (nx := 56) (r1 := 60) (r2 := 0) (r3 := 0) rfl (by omega) (fun (q17 : 1 = 0) => by exfalso; omega) (fun (q17 : ¬ (1 = 0)) => ?_)
          refine wi_aload_n (i := 0) (x := 236) (nx := 57) (r1 := 0) (r2 := 0) (r3 := 0) rfl rfl ?_
          refine wr_V (k0 := 236) (rest := []) (as := [.ref 236]) (nx := 60) (r1 := 215) (r2 := 0) (r3 := 11) rfl rfl rfl (of_decide_eq_true rfl) rfl rfl (by decide) rfl rfl (of_decide_eq_true rfl) (of_decide_eq_true rfl) ?_
          refine ct_215_236 hcr  g   (show (h 236 4) ≤ (h 236 3) by omega) (fun h18 g18 u18 (p18_0 : (h 236 4) ≤ (h18 236 4)) (p18_1 : (h18 236 4) ≤ (h 236 3)) (p18_2 : (h18 236 6) = 0 ∨ (h 236 4) + 1 ≤ (h18 236 4)) => ?_)
          have F19 := F0.then (by decide +kernel) u18
          have b20 := gi_b (lo := 0) (hi := 800) g18 236 4 rfl
          have b21 := gi_b (lo := 0) (hi := 4) g18 236 6 rfl
          refine wk_n ?_
          refine wi_iload_n (i := 3) (e := h 236 7) (nx := 61) (r1 := 0) (r2 := 0) (r3 := 0) rfl rfl ?_
          refine wi_ireturn (nx := 62) (r1 := 0) (r2 := 0) (r3 := 0) rfl rfl ?_
          have e22 : h18 236 8 = h 236 8 := (u18 236 8 rfl)
          exact k h18 (h 236 7) g18 F19 (by omega) (show (h 236 4) ≤ (h18 236 4) by omega) (show (h18 236 4) ≤ (h 236 3) by omega) (show 1 ≤ (h18 236 8) ∨ (h 236 8) = 0 by omega) (show 1 ≤ (h18 236 8) ∨ (a0 ≤ (h 236 7) ∧ (h 236 7) ≤ a1) by omega) (show 1 ≤ (h18 236 8) ∨ (h 236 6) = 2 by omega)
    ·
      refine wi_aload_n (i := 0) (x := 236) (nx := 16) (r1 := 0) (r2 := 0) (r3 := 0) rfl rfl ?_
      refine wi_iconst (n := 1) (nx := 17) (r1 := 0) (r2 := 0) (r3 := 0) rfl ?_
      refine wr_V (k0 := 236) (rest := []) (as := [.ref 236, vi 1]) (nx := 20) (r1 := 224) (r2 := 1) (r3 := 11) rfl rfl rfl (of_decide_eq_true rfl) rfl rfl (by decide) rfl rfl (of_decide_eq_true rfl) (of_decide_eq_true rfl) ?_
      refine ct_224_236 hcr  g 1 (by omega)  (fun h8 g8 u8 (p8_0 : 1 ≤ (h8 236 8)) => ?_)
      have F9 := F0.then (by decide +kernel) u8
      have b10 := gi_b (lo := 0) (hi := 5) g8 236 8 rfl
      refine wk_n ?_
      refine wi_aload_n (i := 0) (x := 236) (nx := 21) (r1 := 0) (r2 := 0) (r3 := 0) rfl rfl ?_
      have b11 := gi_b (lo := 0) (hi := 999) g 236 7 rfl
      refine wr_gi0 (k0 := 236) (x := h 236 7) (nx := 24) (r1 := 11) (r2 := 7) (r3 := 0) rfl rfl (by decide) rfl ⟨rfl, rfl⟩ rfl (u8 236 7 rfl) ?_
      refine wi_istore_n (i := 3) (e := h 236 7) (lo2 := [(3, vi (h 236 7)), (0, .ref 236), (1, vi a0), (2, vi a1)]) (nx := 25) (r1 := 0) (r2 := 0) (r3 := 0) rfl rfl ?_
      refine wi_aload_n (i := 0) (x := 236) (nx := 26) (r1 := 0) (r2 := 0) (r3 := 0) rfl rfl ?_
      refine wr_V (k0 := 236) (rest := []) (as := [.ref 236]) (nx := 29) (r1 := 219) (r2 := 0) (r3 := 11) rfl rfl rfl (of_decide_eq_true rfl) rfl rfl (by decide) rfl rfl (of_decide_eq_true rfl) (of_decide_eq_true rfl) ?_
      refine wi_aload_n (i := 0) (x := 236) (nx := 1) (r1 := 0) (r2 := 0) (r3 := 0) rfl rfl ?_
      refine wr_gi0 (k0 := 236) (x := h8 236 8) (nx := 4) (r1 := 11) (r2 := 8) (r3 := 0) rfl rfl (by decide) rfl ⟨rfl, rfl⟩ rfl rfl ?_
      refine wi_if (cd := .ne) (nx := 7) (r1 := 11) (r2 := 0) (r3 := 0) rfl (by omega) (fun (q12 : (h8 236 8) ≠ 0) => ?_) (fun (q12 : ¬ ((h8 236 8) ≠ 0)) => by exfalso; omega)
      refine wi_iconst (n := 0) (nx := 12) (r1 := 0) (r2 := 0) (r3 := 0) rfl ?_
      refine wi_zreturn (nx := 13) (r1 := 0) (r2 := 0) (r3 := 0) rfl rfl (by omega) ?_
      refine wk_i ?_
      refine wi_if (cd := .eq) (nx := 32) (r1 := 49) (r2 := 0) (r3 := 0) rfl (by omega) (fun (q13 : 0 = 0) => ?_) (fun (q13 : ¬ (0 = 0)) => by exfalso; omega)
      refine wi_aload_n (i := 0) (x := 236) (nx := 50) (r1 := 0) (r2 := 0) (r3 := 0) rfl rfl ?_
      refine wr_V (k0 := 236) (rest := []) (as := [.ref 236]) (nx := 53) (r1 := 219) (r2 := 0) (r3 := 11) rfl rfl rfl (of_decide_eq_true rfl) rfl rfl (by decide) rfl rfl (of_decide_eq_true rfl) (of_decide_eq_true rfl) ?_
      refine wi_aload_n (i := 0) (x := 236) (nx := 1) (r1 := 0) (r2 := 0) (r3 := 0) rfl rfl ?_
      refine wr_gi0 (k0 := 236) (x := h8 236 8) (nx := 4) (r1 := 11) (r2 := 8) (r3 := 0) rfl rfl (by decide) rfl ⟨rfl, rfl⟩ rfl rfl ?_
      refine wi_if (cd := .ne) (nx := 7) (r1 := 11) (r2 := 0) (r3 := 0) rfl (by omega) (fun (q14 : (h8 236 8) ≠ 0) => ?_) (fun (q14 : ¬ ((h8 236 8) ≠ 0)) => by exfalso; omega)
      refine wi_iconst (n := 0) (nx := 12) (r1 := 0) (r2 := 0) (r3 := 0) rfl ?_
      refine wi_zreturn (nx := 13) (r1 := 0) (r2 := 0) (r3 := 0) rfl rfl (by omega) ?_
      refine wk_i ?_
      refine wi_if (cd := .eq) (nx := 56) (r1 := 60) (r2 := 0) (r3 := 0) rfl (by omega) (fun (q15 : 0 = 0) => ?_) (fun (q15 : ¬ (0 = 0)) => by exfalso; omega)
      refine wi_iload_n (i := 3) (e := h 236 7) (nx := 61) (r1 := 0) (r2 := 0) (r3 := 0) rfl rfl ?_
      refine wi_ireturn (nx := 62) (r1 := 0) (r2 := 0) (r3 := 0) rfl rfl ?_
      have e16 : h8 236 4 = h 236 4 := (u8 236 4 rfl)
      exact k h8 (h 236 7) g8 F9 (by omega) (show (h 236 4) ≤ (h8 236 4) by omega) (show (h8 236 4) ≤ (h 236 3) by omega) (show 1 ≤ (h8 236 8) ∨ (h 236 8) = 0 by omega) (show 1 ≤ (h8 236 8) ∨ (a0 ≤ (h 236 7) ∧ (h 236 7) ≤ a1) by omega) (show 1 ≤ (h8 236 8) ∨ (h 236 6) = 2 by omega)
-- method 228: Model.numberBehind(JII)I
set_option maxRecDepth 100000 in
set_option maxHeartbeats 100000000 in
theorem ct_228_236 {L : Nat} {xs : Nat → Int32} {d b c : Nat} {h : hp} {cr : Nat → Nat → Option Nat} {Q : hp_Q} (hcr : CR cr)  (g : GI h) (a0 : Int) (a1 : Int) (a2 : Int) (q0_ : -9223372036854775808 ≤ a0 ∧ a0 ≤ 9223372036854775807) (q1_ : -2147483648 ≤ a1 ∧ a1 ≤ 2147483647) (q2_ : -2147483648 ≤ a2 ∧ a2 ≤ 2147483647) (pp0 : h 236 4 ≤ h 236 3) (k : ∀ (h2 : hp) (z0 : Int) , GI h2 → FR [(236, 236, some (4, 4)), (236, 236, some (5, 5)), (236, 236, some (6, 6)), (236, 236, some (7, 7)), (236, 236, some (8, 8)), (236, 236, some (9, 9)), (236, 236, some (12, 12))] h h2 → (0 ≤ z0 ∧ z0 ≤ 999) → (h 236 4 ≤ h2 236 4) → (h2 236 4 ≤ h 236 3) → (1 ≤ h2 236 8 ∨ h 236 8 = 0) → (1 ≤ h2 236 8 ∨ (a1 ≤ z0 ∧ z0 ≤ a2)) → Q (.inl (some (vi z0))) (hp_w h2 cr) b c) : wp (md_xa (L, xs)) (d + 4) 228 (0, [(0, .ref 236), (1, vl a0), (3, vi a1), (4, vi a2)], [], hp_w h cr, b, c) Q := by
  have F0 : FR [(236, 236, some (4, 4)), (236, 236, some (5, 5)), (236, 236, some (6, 6)), (236, 236, some (7, 7)), (236, 236, some (8, 8)), (236, 236, some (9, 9)), (236, 236, some (12, 12))] h h := FR.refl
  have b1 := gi_b (lo := 0) (hi := 800) g 236 4 rfl
  have b2 := gi_b (lo := 0) (hi := 800) g 236 3 rfl
  refine wi_aload_n (i := 0) (x := 236) (nx := 1) (r1 := 0) (r2 := 0) (r3 := 0) rfl rfl ?_
  refine wi_lload_n (i := 1) (e := a0) (nx := 2) (r1 := 0) (r2 := 0) (r3 := 0) rfl rfl ?_
  refine wr_V (k0 := 236) (rest := []) (as := [.ref 236, vl a0]) (nx := 5) (r1 := 229) (r2 := 1) (r3 := 11) rfl rfl rfl (of_decide_eq_true rfl) rfl rfl (by decide) rfl rfl (of_decide_eq_true rfl) (of_decide_eq_true rfl) ?_
  refine wi_aload_n (i := 0) (x := 236) (nx := 1) (r1 := 0) (r2 := 0) (r3 := 0) rfl rfl ?_
  refine wr_V (k0 := 236) (rest := []) (as := [.ref 236]) (nx := 4) (r1 := 219) (r2 := 0) (r3 := 11) rfl rfl rfl (of_decide_eq_true rfl) rfl rfl (by decide) rfl rfl (of_decide_eq_true rfl) (of_decide_eq_true rfl) ?_
  refine wi_aload_n (i := 0) (x := 236) (nx := 1) (r1 := 0) (r2 := 0) (r3 := 0) rfl rfl ?_
  have b3 := gi_b (lo := 0) (hi := 5) g 236 8 rfl
  refine wr_gi0 (k0 := 236) (x := h 236 8) (nx := 4) (r1 := 11) (r2 := 8) (r3 := 0) rfl rfl (by decide) rfl ⟨rfl, rfl⟩ rfl rfl ?_
  refine wi_if (cd := .ne) (nx := 7) (r1 := 11) (r2 := 0) (r3 := 0) rfl (by omega) (fun (q4 : (h 236 8) ≠ 0) => ?_) (fun (q4 : ¬ ((h 236 8) ≠ 0)) => ?_)
  ·
    refine wi_iconst (n := 0) (nx := 12) (r1 := 0) (r2 := 0) (r3 := 0) rfl ?_
    refine wi_zreturn (nx := 13) (r1 := 0) (r2 := 0) (r3 := 0) rfl rfl (by omega) ?_
    refine wk_i ?_
    refine wi_if (cd := .eq) (nx := 7) (r1 := 20) (r2 := 0) (r3 := 0) rfl (by omega) (fun (q5 : 0 = 0) => ?_) (fun (q5 : ¬ (0 = 0)) => by exfalso; omega)
    refine wi_return (nx := 21) (r1 := 0) (r2 := 0) (r3 := 0) rfl rfl ?_
    refine wk_n ?_
    refine wi_aload_n (i := 0) (x := 236) (nx := 6) (r1 := 0) (r2 := 0) (r3 := 0) rfl rfl ?_
    refine wi_iload_n (i := 3) (e := a1) (nx := 7) (r1 := 0) (r2 := 0) (r3 := 0) rfl rfl ?_
    refine wi_iload (i := 4) (e := a2) (nx := 9) (r1 := 0) (r2 := 0) (r3 := 0) rfl rfl ?_
    refine wr_V (k0 := 236) (rest := []) (as := [.ref 236, vi a1, vi a2]) (nx := 12) (r1 := 231) (r2 := 2) (r3 := 11) rfl rfl rfl (of_decide_eq_true rfl) rfl rfl (by decide) rfl rfl (of_decide_eq_true rfl) (of_decide_eq_true rfl) ?_
    refine ct_231_236 hcr  g a1 a2 (by omega) (by omega) (show (h 236 4) ≤ (h 236 3) by omega) (fun h6 z7 g6 u6 (fz7 : 0 ≤ z7 ∧ z7 ≤ 999) (p6_0 : (h 236 4) ≤ (h6 236 4)) (p6_1 : (h6 236 4) ≤ (h 236 3)) (p6_2 : 1 ≤ (h6 236 8) ∨ (h 236 8) = 0) (p6_3 : 1 ≤ (h6 236 8) ∨ (a1 ≤ z7 ∧ z7 ≤ a2)) (p6_4 : 1 ≤ (h6 236 8) ∨ (h 236 6) = 2) => ?_)
    have F8 := F0.then (by decide +kernel) u6
    have b9 := gi_b (lo := 0) (hi := 800) g6 236 4 rfl
    have b10 := gi_b (lo := 0) (hi := 5) g6 236 8 rfl
    have b11 := gi_b (lo := 0) (hi := 4) g 236 6 rfl
    refine wk_i ?_
    refine wi_ireturn (nx := 13) (r1 := 0) (r2 := 0) (r3 := 0) rfl rfl ?_
    exact k h6 z7 g6 F8 (by omega) (show (h 236 4) ≤ (h6 236 4) by omega) (show (h6 236 4) ≤ (h 236 3) by omega) (show 1 ≤ (h6 236 8) ∨ (h 236 8) = 0 by omega) (show 1 ≤ (h6 236 8) ∨ (a1 ≤ z7 ∧ z7 ≤ a2) by omega)
  ·
    refine wi_iconst (n := 1) (nx := 8) (r1 := 0) (r2 := 0) (r3 := 0) rfl ?_
    refine wi_goto (nx := 11) (r1 := 12) (r2 := 0) (r3 := 0) rfl ?_
    refine wi_zreturn (nx := 13) (r1 := 0) (r2 := 0) (r3 := 0) rfl rfl (by omega) ?_
    refine wk_i ?_
    refine wi_if (cd := .eq) (nx := 7) (r1 := 20) (r2 := 0) (r3 := 0) rfl (by omega) (fun (q5 : 1 = 0) => by exfalso; omega) (fun (q5 : ¬ (1 = 0)) => ?_)
    refine wi_aload_n (i := 0) (x := 236) (nx := 8) (r1 := 0) (r2 := 0) (r3 := 0) rfl rfl ?_
    refine wi_lload_n (i := 1) (e := a0) (nx := 9) (r1 := 0) (r2 := 0) (r3 := 0) rfl rfl ?_
    refine wr_V (k0 := 236) (rest := []) (as := [.ref 236, vl a0]) (nx := 12) (r1 := 230) (r2 := 1) (r3 := 11) rfl rfl rfl (of_decide_eq_true rfl) rfl rfl (by decide) rfl rfl (of_decide_eq_true rfl) (of_decide_eq_true rfl) ?_
    refine wi_aload_n (i := 0) (x := 236) (nx := 1) (r1 := 0) (r2 := 0) (r3 := 0) rfl rfl ?_
    refine wi_lload_n (i := 1) (e := a0) (nx := 2) (r1 := 0) (r2 := 0) (r3 := 0) rfl rfl ?_
    refine wr_V (k0 := 236) (rest := []) (as := [.ref 236, vl a0]) (nx := 5) (r1 := 221) (r2 := 1) (r3 := 11) rfl rfl rfl (of_decide_eq_true rfl) rfl rfl (by decide) rfl rfl (of_decide_eq_true rfl) (of_decide_eq_true rfl) ?_
    refine wi_aload_n (i := 0) (x := 236) (nx := 1) (r1 := 0) (r2 := 0) (r3 := 0) rfl rfl ?_
    refine wr_gi0 (k0 := 236) (x := h 236 8) (nx := 4) (r1 := 11) (r2 := 8) (r3 := 0) rfl rfl (by decide) rfl ⟨rfl, rfl⟩ rfl rfl ?_
    refine wi_if (cd := .ne) (nx := 7) (r1 := 28) (r2 := 0) (r3 := 0) rfl (by omega) (fun (q6 : (h 236 8) ≠ 0) => by exfalso; omega) (fun (q6 : ¬ ((h 236 8) ≠ 0)) => ?_)
    refine wi_aload_n (i := 0) (x := 236) (nx := 8) (r1 := 0) (r2 := 0) (r3 := 0) rfl rfl ?_
    have b7 := gi_b (lo := 0) (hi := 4) g 236 6 rfl
    refine wr_gi0 (k0 := 236) (x := h 236 6) (nx := 11) (r1 := 11) (r2 := 6) (r3 := 0) rfl rfl (by decide) rfl ⟨rfl, rfl⟩ rfl rfl ?_
    refine wi_iconst (n := 1) (nx := 12) (r1 := 0) (r2 := 0) (r3 := 0) rfl ?_
    refine wi_icmp (cd := .ne) (nx := 15) (r1 := 28) (r2 := 0) (r3 := 0) rfl (by omega) (by omega) (fun (q8 : (h 236 6) ≠ 1) => ?_) (fun (q8 : ¬ ((h 236 6) ≠ 1)) => ?_)
    ·
      refine wi_iconst (n := 0) (nx := 29) (r1 := 0) (r2 := 0) (r3 := 0) rfl ?_
      refine wi_zreturn (nx := 30) (r1 := 0) (r2 := 0) (r3 := 0) rfl rfl (by omega) ?_
      refine wk_i ?_
      refine wi_istore_n (i := 3) (e := 0) (lo2 := [(3, vi 0), (0, .ref 236), (1, vl a0)]) (nx := 6) (r1 := 0) (r2 := 0) (r3 := 0) rfl rfl ?_
      refine wi_iload_n (i := 3) (e := 0) (nx := 7) (r1 := 0) (r2 := 0) (r3 := 0) rfl rfl ?_
      refine wi_if (cd := .eq) (nx := 10) (r1 := 14) (r2 := 0) (r3 := 0) rfl (by omega) (fun (q9 : 0 = 0) => ?_) (fun (q9 : ¬ (0 = 0)) => by exfalso; omega)
      refine wi_iload_n (i := 3) (e := 0) (nx := 15) (r1 := 0) (r2 := 0) (r3 := 0) rfl rfl ?_
      refine wi_zreturn (nx := 16) (r1 := 0) (r2 := 0) (r3 := 0) rfl rfl (by omega) ?_
      refine wk_i ?_
      refine wi_if (cd := .ne) (nx := 15) (r1 := 20) (r2 := 0) (r3 := 0) rfl (by omega) (fun (q10 : 0 ≠ 0) => by exfalso; omega) (fun (q10 : ¬ (0 ≠ 0)) => ?_)
      refine wi_aload_n (i := 0) (x := 236) (nx := 16) (r1 := 0) (r2 := 0) (r3 := 0) rfl rfl ?_
      refine wi_iconst (n := 1) (nx := 17) (r1 := 0) (r2 := 0) (r3 := 0) rfl ?_
      refine wr_V (k0 := 236) (rest := []) (as := [.ref 236, vi 1]) (nx := 20) (r1 := 224) (r2 := 1) (r3 := 11) rfl rfl rfl (of_decide_eq_true rfl) rfl rfl (by decide) rfl rfl (of_decide_eq_true rfl) (of_decide_eq_true rfl) ?_
      refine ct_224_236 hcr  g 1 (by omega)  (fun h11 g11 u11 (p11_0 : 1 ≤ (h11 236 8)) => ?_)
      have F12 := F0.then (by decide +kernel) u11
      have b13 := gi_b (lo := 0) (hi := 5) g11 236 8 rfl
      refine wk_n ?_
      refine wi_return (nx := 21) (r1 := 0) (r2 := 0) (r3 := 0) rfl rfl ?_
      refine wk_n ?_
      refine wi_aload_n (i := 0) (x := 236) (nx := 6) (r1 := 0) (r2 := 0) (r3 := 0) rfl rfl ?_
      refine wi_iload_n (i := 3) (e := a1) (nx := 7) (r1 := 0) (r2 := 0) (r3 := 0) rfl rfl ?_
      refine wi_iload (i := 4) (e := a2) (nx := 9) (r1 := 0) (r2 := 0) (r3 := 0) rfl rfl ?_
      refine wr_V (k0 := 236) (rest := []) (as := [.ref 236, vi a1, vi a2]) (nx := 12) (r1 := 231) (r2 := 2) (r3 := 11) rfl rfl rfl (of_decide_eq_true rfl) rfl rfl (by decide) rfl rfl (of_decide_eq_true rfl) (of_decide_eq_true rfl) ?_
      have e15 : h11 236 4 = h 236 4 := (u11 236 4 rfl)
      have e16 : h11 236 3 = h 236 3 := (u11 236 3 rfl)
      refine ct_231_236 hcr  g11 a1 a2 (by omega) (by omega) (show (h11 236 4) ≤ (h11 236 3) by omega) (fun h14 z17 g14 u14 (fz17 : 0 ≤ z17 ∧ z17 ≤ 999) (p14_0 : (h11 236 4) ≤ (h14 236 4)) (p14_1 : (h14 236 4) ≤ (h11 236 3)) (p14_2 : 1 ≤ (h14 236 8) ∨ (h11 236 8) = 0) (p14_3 : 1 ≤ (h14 236 8) ∨ (a1 ≤ z17 ∧ z17 ≤ a2)) (p14_4 : 1 ≤ (h14 236 8) ∨ (h11 236 6) = 2) => ?_)
      have F18 := F12.then (by decide +kernel) u14
      have b19 := gi_b (lo := 0) (hi := 800) g14 236 4 rfl
      have b20 := gi_b (lo := 0) (hi := 5) g14 236 8 rfl
      have e21 : h11 236 6 = h 236 6 := (u11 236 6 rfl)
      refine wk_i ?_
      refine wi_ireturn (nx := 13) (r1 := 0) (r2 := 0) (r3 := 0) rfl rfl ?_
      exact k h14 z17 g14 F18 (by omega) (show (h 236 4) ≤ (h14 236 4) by omega) (show (h14 236 4) ≤ (h 236 3) by omega) (show 1 ≤ (h14 236 8) ∨ (h 236 8) = 0 by omega) (show 1 ≤ (h14 236 8) ∨ (a1 ≤ z17 ∧ z17 ≤ a2) by omega)
    ·
      refine wi_aload_n (i := 0) (x := 236) (nx := 16) (r1 := 0) (r2 := 0) (r3 := 0) rfl rfl ?_
      have b9 := gi_b (lo := -9223372036854775808) (hi := 9223372036854775807) g 236 12 rfl
      refine wr_gi1 (k0 := 236) (x := h 236 12) (nx := 19) (r1 := 11) (r2 := 12) (r3 := 0) rfl rfl (by decide) rfl ⟨rfl, rfl⟩ rfl rfl ?_
      refine wi_lload_n (i := 1) (e := a0) (nx := 20) (r1 := 0) (r2 := 0) (r3 := 0) rfl rfl ?_
      refine wi_lcmp (a := h 236 12) (e := a0) (nx := 21) (r1 := 0) (r2 := 0) (r3 := 0) rfl (by omega) (by omega) (fun r10 (fr10 : (r10 = -1 ∧ (h 236 12) < a0) ∨ (r10 = 0 ∧ (h 236 12) = a0) ∨ (r10 = 1 ∧ a0 < (h 236 12))) => ?_)
      refine wi_if (cd := .ne) (nx := 24) (r1 := 28) (r2 := 0) (r3 := 0) rfl (by omega) (fun (q11 : r10 ≠ 0) => ?_) (fun (q11 : ¬ (r10 ≠ 0)) => ?_)
      ·
        refine wi_iconst (n := 0) (nx := 29) (r1 := 0) (r2 := 0) (r3 := 0) rfl ?_
        refine wi_zreturn (nx := 30) (r1 := 0) (r2 := 0) (r3 := 0) rfl rfl (by omega) ?_
        refine wk_i ?_
        refine wi_istore_n (i := 3) (e := 0) (lo2 := [(3, vi 0), (0, .ref 236), (1, vl a0)]) (nx := 6) (r1 := 0) (r2 := 0) (r3 := 0) rfl rfl ?_
        refine wi_iload_n (i := 3) (e := 0) (nx := 7) (r1 := 0) (r2 := 0) (r3 := 0) rfl rfl ?_
        refine wi_if (cd := .eq) (nx := 10) (r1 := 14) (r2 := 0) (r3 := 0) rfl (by omega) (fun (q12 : 0 = 0) => ?_) (fun (q12 : ¬ (0 = 0)) => by exfalso; omega)
        refine wi_iload_n (i := 3) (e := 0) (nx := 15) (r1 := 0) (r2 := 0) (r3 := 0) rfl rfl ?_
        refine wi_zreturn (nx := 16) (r1 := 0) (r2 := 0) (r3 := 0) rfl rfl (by omega) ?_
        refine wk_i ?_
        refine wi_if (cd := .ne) (nx := 15) (r1 := 20) (r2 := 0) (r3 := 0) rfl (by omega) (fun (q13 : 0 ≠ 0) => by exfalso; omega) (fun (q13 : ¬ (0 ≠ 0)) => ?_)
        refine wi_aload_n (i := 0) (x := 236) (nx := 16) (r1 := 0) (r2 := 0) (r3 := 0) rfl rfl ?_
        refine wi_iconst (n := 1) (nx := 17) (r1 := 0) (r2 := 0) (r3 := 0) rfl ?_
        refine wr_V (k0 := 236) (rest := []) (as := [.ref 236, vi 1]) (nx := 20) (r1 := 224) (r2 := 1) (r3 := 11) rfl rfl rfl (of_decide_eq_true rfl) rfl rfl (by decide) rfl rfl (of_decide_eq_true rfl) (of_decide_eq_true rfl) ?_
        refine ct_224_236 hcr  g 1 (by omega)  (fun h14 g14 u14 (p14_0 : 1 ≤ (h14 236 8)) => ?_)
        have F15 := F0.then (by decide +kernel) u14
        have b16 := gi_b (lo := 0) (hi := 5) g14 236 8 rfl
        refine wk_n ?_
        refine wi_return (nx := 21) (r1 := 0) (r2 := 0) (r3 := 0) rfl rfl ?_
        refine wk_n ?_
        refine wi_aload_n (i := 0) (x := 236) (nx := 6) (r1 := 0) (r2 := 0) (r3 := 0) rfl rfl ?_
        refine wi_iload_n (i := 3) (e := a1) (nx := 7) (r1 := 0) (r2 := 0) (r3 := 0) rfl rfl ?_
        refine wi_iload (i := 4) (e := a2) (nx := 9) (r1 := 0) (r2 := 0) (r3 := 0) rfl rfl ?_
        refine wr_V (k0 := 236) (rest := []) (as := [.ref 236, vi a1, vi a2]) (nx := 12) (r1 := 231) (r2 := 2) (r3 := 11) rfl rfl rfl (of_decide_eq_true rfl) rfl rfl (by decide) rfl rfl (of_decide_eq_true rfl) (of_decide_eq_true rfl) ?_
        have e18 : h14 236 4 = h 236 4 := (u14 236 4 rfl)
        have e19 : h14 236 3 = h 236 3 := (u14 236 3 rfl)
        refine ct_231_236 hcr  g14 a1 a2 (by omega) (by omega) (show (h14 236 4) ≤ (h14 236 3) by omega) (fun h17 z20 g17 u17 (fz20 : 0 ≤ z20 ∧ z20 ≤ 999) (p17_0 : (h14 236 4) ≤ (h17 236 4)) (p17_1 : (h17 236 4) ≤ (h14 236 3)) (p17_2 : 1 ≤ (h17 236 8) ∨ (h14 236 8) = 0) (p17_3 : 1 ≤ (h17 236 8) ∨ (a1 ≤ z20 ∧ z20 ≤ a2)) (p17_4 : 1 ≤ (h17 236 8) ∨ (h14 236 6) = 2) => ?_)
        have F21 := F15.then (by decide +kernel) u17
        have b22 := gi_b (lo := 0) (hi := 800) g17 236 4 rfl
        have b23 := gi_b (lo := 0) (hi := 5) g17 236 8 rfl
        have e24 : h14 236 6 = h 236 6 := (u14 236 6 rfl)
        refine wk_i ?_
        refine wi_ireturn (nx := 13) (r1 := 0) (r2 := 0) (r3 := 0) rfl rfl ?_
        exact k h17 z20 g17 F21 (by omega) (show (h 236 4) ≤ (h17 236 4) by omega) (show (h17 236 4) ≤ (h 236 3) by omega) (show 1 ≤ (h17 236 8) ∨ (h 236 8) = 0 by omega) (show 1 ≤ (h17 236 8) ∨ (a1 ≤ z20 ∧ z20 ≤ a2) by omega)
      ·
        refine wi_iconst (n := 1) (nx := 25) (r1 := 0) (r2 := 0) (r3 := 0) rfl ?_
        refine wi_goto (nx := 28) (r1 := 29) (r2 := 0) (r3 := 0) rfl ?_
        refine wi_zreturn (nx := 30) (r1 := 0) (r2 := 0) (r3 := 0) rfl rfl (by omega) ?_
        refine wk_i ?_
        refine wi_istore_n (i := 3) (e := 1) (lo2 := [(3, vi 1), (0, .ref 236), (1, vl a0)]) (nx := 6) (r1 := 0) (r2 := 0) (r3 := 0) rfl rfl ?_
        refine wi_iload_n (i := 3) (e := 1) (nx := 7) (r1 := 0) (r2 := 0) (r3 := 0) rfl rfl ?_
        refine wi_if (cd := .eq) (nx := 10) (r1 := 14) (r2 := 0) (r3 := 0) rfl (by omega) (fun (q12 : 1 = 0) => by exfalso; omega) (fun (q12 : ¬ (1 = 0)) => ?_)
        refine wi_aload_n (i := 0) (x := 236) (nx := 11) (r1 := 0) (r2 := 0) (r3 := 0) rfl rfl ?_
        refine wr_V (k0 := 236) (rest := []) (as := [.ref 236]) (nx := 14) (r1 := 215) (r2 := 0) (r3 := 11) rfl rfl rfl (of_decide_eq_true rfl) rfl rfl (by decide) rfl rfl (of_decide_eq_true rfl) (of_decide_eq_true rfl) ?_
        refine ct_215_236 hcr  g   (show (h 236 4) ≤ (h 236 3) by omega) (fun h13 g13 u13 (p13_0 : (h 236 4) ≤ (h13 236 4)) (p13_1 : (h13 236 4) ≤ (h 236 3)) (p13_2 : (h13 236 6) = 0 ∨ (h 236 4) + 1 ≤ (h13 236 4)) => ?_)
        have F14 := F0.then (by decide +kernel) u13
        have b15 := gi_b (lo := 0) (hi := 800) g13 236 4 rfl
        have b16 := gi_b (lo := 0) (hi := 4) g13 236 6 rfl
        refine wk_n ?_
        refine wi_iload_n (i := 3) (e := 1) (nx := 15) (r1 := 0) (r2 := 0) (r3 := 0) rfl rfl ?_
        refine wi_zreturn (nx := 16) (r1 := 0) (r2 := 0) (r3 := 0) rfl rfl (by omega) ?_
        refine wk_i ?_
        refine wi_if (cd := .ne) (nx := 15) (r1 := 20) (r2 := 0) (r3 := 0) rfl (by omega) (fun (q17 : 1 ≠ 0) => ?_) (fun (q17 : ¬ (1 ≠ 0)) => by exfalso; omega)
        refine wi_return (nx := 21) (r1 := 0) (r2 := 0) (r3 := 0) rfl rfl ?_
        refine wk_n ?_
        refine wi_aload_n (i := 0) (x := 236) (nx := 6) (r1 := 0) (r2 := 0) (r3 := 0) rfl rfl ?_
        refine wi_iload_n (i := 3) (e := a1) (nx := 7) (r1 := 0) (r2 := 0) (r3 := 0) rfl rfl ?_
        refine wi_iload (i := 4) (e := a2) (nx := 9) (r1 := 0) (r2 := 0) (r3 := 0) rfl rfl ?_
        refine wr_V (k0 := 236) (rest := []) (as := [.ref 236, vi a1, vi a2]) (nx := 12) (r1 := 231) (r2 := 2) (r3 := 11) rfl rfl rfl (of_decide_eq_true rfl) rfl rfl (by decide) rfl rfl (of_decide_eq_true rfl) (of_decide_eq_true rfl) ?_
        have e19 : h13 236 3 = h 236 3 := (u13 236 3 rfl)
        refine ct_231_236 hcr  g13 a1 a2 (by omega) (by omega) (show (h13 236 4) ≤ (h13 236 3) by omega) (fun h18 z20 g18 u18 (fz20 : 0 ≤ z20 ∧ z20 ≤ 999) (p18_0 : (h13 236 4) ≤ (h18 236 4)) (p18_1 : (h18 236 4) ≤ (h13 236 3)) (p18_2 : 1 ≤ (h18 236 8) ∨ (h13 236 8) = 0) (p18_3 : 1 ≤ (h18 236 8) ∨ (a1 ≤ z20 ∧ z20 ≤ a2)) (p18_4 : 1 ≤ (h18 236 8) ∨ (h13 236 6) = 2) => ?_)
        have F21 := F14.then (by decide +kernel) u18
        have b22 := gi_b (lo := 0) (hi := 800) g18 236 4 rfl
        have e23 : h13 236 8 = h 236 8 := (u13 236 8 rfl)
        have b24 := gi_b (lo := 0) (hi := 5) g18 236 8 rfl
        refine wk_i ?_
        refine wi_ireturn (nx := 13) (r1 := 0) (r2 := 0) (r3 := 0) rfl rfl ?_
        exact k h18 z20 g18 F21 (by omega) (show (h 236 4) ≤ (h18 236 4) by omega) (show (h18 236 4) ≤ (h 236 3) by omega) (show 1 ≤ (h18 236 8) ∨ (h 236 8) = 0 by omega) (show 1 ≤ (h18 236 8) ∨ (a1 ≤ z20 ∧ z20 ≤ a2) by omega)
-- method 226: Model.isName()Z
set_option maxRecDepth 100000 in
set_option maxHeartbeats 100000000 in
theorem ct_226_236 {L : Nat} {xs : Nat → Int32} {d b c : Nat} {h : hp} {cr : Nat → Nat → Option Nat} {Q : hp_Q} (hcr : CR cr)  (g : GI h)    (k : ∀ (z0 : Int), (0 ≤ z0 ∧ z0 ≤ 1) → Q (.inl (some (vi z0))) (hp_w h cr) b c) : wp (md_xa (L, xs)) d 226 (0, [(0, .ref 236)], [], hp_w h cr, b, c) Q := by
  have F0 : FR [] h h := FR.refl
  refine wi_aload_n (i := 0) (x := 236) (nx := 1) (r1 := 0) (r2 := 0) (r3 := 0) rfl rfl ?_
  have b1 := gi_b (lo := -9223372036854775808) (hi := 9223372036854775807) g 236 12 rfl
  refine wr_gi1 (k0 := 236) (x := h 236 12) (nx := 4) (r1 := 11) (r2 := 12) (r3 := 0) rfl rfl (by decide) rfl ⟨rfl, rfl⟩ rfl rfl ?_
  refine wi_ldc2_w (e := 3650034) (nx := 7) (r1 := 3650034) (r2 := 0) (r3 := 0) rfl (by decide) ?_
  refine wi_lcmp (a := h 236 12) (e := 3650034) (nx := 8) (r1 := 0) (r2 := 0) (r3 := 0) rfl (by omega) (by omega) (fun r2 (fr2 : (r2 = -1 ∧ (h 236 12) < 3650034) ∨ (r2 = 0 ∧ (h 236 12) = 3650034) ∨ (r2 = 1 ∧ 3650034 < (h 236 12))) => ?_)
  refine wi_if (cd := .eq) (nx := 11) (r1 := 110) (r2 := 0) (r3 := 0) rfl (by omega) (fun (q3 : r2 = 0) => ?_) (fun (q3 : ¬ (r2 = 0)) => ?_)
  ·
    refine wi_iconst (n := 1) (nx := 111) (r1 := 0) (r2 := 0) (r3 := 0) rfl ?_
    refine wi_goto (nx := 114) (r1 := 115) (r2 := 0) (r3 := 0) rfl ?_
    refine wi_istore_n (i := 1) (e := 1) (lo2 := [(1, vi 1), (0, .ref 236)]) (nx := 116) (r1 := 0) (r2 := 0) (r3 := 0) rfl rfl ?_
    refine wi_iload_n (i := 1) (e := 1) (nx := 117) (r1 := 0) (r2 := 0) (r3 := 0) rfl rfl ?_
    refine wi_if (cd := .ne) (nx := 120) (r1 := 230) (r2 := 0) (r3 := 0) rfl (by omega) (fun (q4 : 1 ≠ 0) => ?_) (fun (q4 : ¬ (1 ≠ 0)) => by exfalso; omega)
    refine wi_iconst (n := 1) (nx := 231) (r1 := 0) (r2 := 0) (r3 := 0) rfl ?_
    refine wi_goto (nx := 234) (r1 := 235) (r2 := 0) (r3 := 0) rfl ?_
    refine wi_istore_n (i := 1) (e := 1) (lo2 := [(1, vi 1), (0, .ref 236)]) (nx := 236) (r1 := 0) (r2 := 0) (r3 := 0) rfl rfl ?_
    refine wi_aload_n (i := 0) (x := 236) (nx := 237) (r1 := 0) (r2 := 0) (r3 := 0) rfl rfl ?_
    have b5 := gi_b (lo := 0) (hi := 4) g 236 6 rfl
    refine wr_gi0 (k0 := 236) (x := h 236 6) (nx := 240) (r1 := 11) (r2 := 6) (r3 := 0) rfl rfl (by decide) rfl ⟨rfl, rfl⟩ rfl rfl ?_
    refine wi_iconst (n := 1) (nx := 241) (r1 := 0) (r2 := 0) (r3 := 0) rfl ?_
    refine wi_icmp (cd := .ne) (nx := 244) (r1 := 252) (r2 := 0) (r3 := 0) rfl (by omega) (by omega) (fun (q6 : (h 236 6) ≠ 1) => ?_) (fun (q6 : ¬ ((h 236 6) ≠ 1)) => ?_)
    ·
      refine wi_iconst (n := 0) (nx := 253) (r1 := 0) (r2 := 0) (r3 := 0) rfl ?_
      refine wi_zreturn (nx := 254) (r1 := 0) (r2 := 0) (r3 := 0) rfl rfl (by omega) ?_
      exact k 0 (by omega)
    ·
      refine wi_iload_n (i := 1) (e := 1) (nx := 245) (r1 := 0) (r2 := 0) (r3 := 0) rfl rfl ?_
      refine wi_if (cd := .ne) (nx := 248) (r1 := 252) (r2 := 0) (r3 := 0) rfl (by omega) (fun (q7 : 1 ≠ 0) => ?_) (fun (q7 : ¬ (1 ≠ 0)) => by exfalso; omega)
      refine wi_iconst (n := 0) (nx := 253) (r1 := 0) (r2 := 0) (r3 := 0) rfl ?_
      refine wi_zreturn (nx := 254) (r1 := 0) (r2 := 0) (r3 := 0) rfl rfl (by omega) ?_
      exact k 0 (by omega)
  ·
    refine wi_aload_n (i := 0) (x := 236) (nx := 12) (r1 := 0) (r2 := 0) (r3 := 0) rfl rfl ?_
    refine wr_gi1 (k0 := 236) (x := h 236 12) (nx := 15) (r1 := 11) (r2 := 12) (r3 := 0) rfl rfl (by decide) rfl ⟨rfl, rfl⟩ rfl rfl ?_
    refine wi_ldc2_w (e := 109099237) (nx := 18) (r1 := 109099237) (r2 := 0) (r3 := 0) rfl (by decide) ?_
    refine wi_lcmp (a := h 236 12) (e := 109099237) (nx := 19) (r1 := 0) (r2 := 0) (r3 := 0) rfl (by omega) (by omega) (fun r4 (fr4 : (r4 = -1 ∧ (h 236 12) < 109099237) ∨ (r4 = 0 ∧ (h 236 12) = 109099237) ∨ (r4 = 1 ∧ 109099237 < (h 236 12))) => ?_)
    refine wi_if (cd := .eq) (nx := 22) (r1 := 110) (r2 := 0) (r3 := 0) rfl (by omega) (fun (q5 : r4 = 0) => ?_) (fun (q5 : ¬ (r4 = 0)) => ?_)
    ·
      refine wi_iconst (n := 1) (nx := 111) (r1 := 0) (r2 := 0) (r3 := 0) rfl ?_
      refine wi_goto (nx := 114) (r1 := 115) (r2 := 0) (r3 := 0) rfl ?_
      refine wi_istore_n (i := 1) (e := 1) (lo2 := [(1, vi 1), (0, .ref 236)]) (nx := 116) (r1 := 0) (r2 := 0) (r3 := 0) rfl rfl ?_
      refine wi_iload_n (i := 1) (e := 1) (nx := 117) (r1 := 0) (r2 := 0) (r3 := 0) rfl rfl ?_
      refine wi_if (cd := .ne) (nx := 120) (r1 := 230) (r2 := 0) (r3 := 0) rfl (by omega) (fun (q6 : 1 ≠ 0) => ?_) (fun (q6 : ¬ (1 ≠ 0)) => by exfalso; omega)
      refine wi_iconst (n := 1) (nx := 231) (r1 := 0) (r2 := 0) (r3 := 0) rfl ?_
      refine wi_goto (nx := 234) (r1 := 235) (r2 := 0) (r3 := 0) rfl ?_
      refine wi_istore_n (i := 1) (e := 1) (lo2 := [(1, vi 1), (0, .ref 236)]) (nx := 236) (r1 := 0) (r2 := 0) (r3 := 0) rfl rfl ?_
      refine wi_aload_n (i := 0) (x := 236) (nx := 237) (r1 := 0) (r2 := 0) (r3 := 0) rfl rfl ?_
      have b7 := gi_b (lo := 0) (hi := 4) g 236 6 rfl
      refine wr_gi0 (k0 := 236) (x := h 236 6) (nx := 240) (r1 := 11) (r2 := 6) (r3 := 0) rfl rfl (by decide) rfl ⟨rfl, rfl⟩ rfl rfl ?_
      refine wi_iconst (n := 1) (nx := 241) (r1 := 0) (r2 := 0) (r3 := 0) rfl ?_
      refine wi_icmp (cd := .ne) (nx := 244) (r1 := 252) (r2 := 0) (r3 := 0) rfl (by omega) (by omega) (fun (q8 : (h 236 6) ≠ 1) => ?_) (fun (q8 : ¬ ((h 236 6) ≠ 1)) => ?_)
      ·
        refine wi_iconst (n := 0) (nx := 253) (r1 := 0) (r2 := 0) (r3 := 0) rfl ?_
        refine wi_zreturn (nx := 254) (r1 := 0) (r2 := 0) (r3 := 0) rfl rfl (by omega) ?_
        exact k 0 (by omega)
      ·
        refine wi_iload_n (i := 1) (e := 1) (nx := 245) (r1 := 0) (r2 := 0) (r3 := 0) rfl rfl ?_
        refine wi_if (cd := .ne) (nx := 248) (r1 := 252) (r2 := 0) (r3 := 0) rfl (by omega) (fun (q9 : 1 ≠ 0) => ?_) (fun (q9 : ¬ (1 ≠ 0)) => by exfalso; omega)
        refine wi_iconst (n := 0) (nx := 253) (r1 := 0) (r2 := 0) (r3 := 0) rfl ?_
        refine wi_zreturn (nx := 254) (r1 := 0) (r2 := 0) (r3 := 0) rfl rfl (by omega) ?_
        exact k 0 (by omega)
    ·
      refine wi_aload_n (i := 0) (x := 236) (nx := 23) (r1 := 0) (r2 := 0) (r3 := 0) rfl rfl ?_
      refine wr_gi1 (k0 := 236) (x := h 236 12) (nx := 26) (r1 := 11) (r2 := 12) (r3 := 0) rfl rfl (by decide) rfl ⟨rfl, rfl⟩ rfl rfl ?_
      refine wi_ldc2_w (e := 394693) (nx := 29) (r1 := 394693) (r2 := 0) (r3 := 0) rfl (by decide) ?_
      refine wi_lcmp (a := h 236 12) (e := 394693) (nx := 30) (r1 := 0) (r2 := 0) (r3 := 0) rfl (by omega) (by omega) (fun r6 (fr6 : (r6 = -1 ∧ (h 236 12) < 394693) ∨ (r6 = 0 ∧ (h 236 12) = 394693) ∨ (r6 = 1 ∧ 394693 < (h 236 12))) => ?_)
      refine wi_if (cd := .eq) (nx := 33) (r1 := 110) (r2 := 0) (r3 := 0) rfl (by omega) (fun (q7 : r6 = 0) => ?_) (fun (q7 : ¬ (r6 = 0)) => ?_)
      ·
        refine wi_iconst (n := 1) (nx := 111) (r1 := 0) (r2 := 0) (r3 := 0) rfl ?_
        refine wi_goto (nx := 114) (r1 := 115) (r2 := 0) (r3 := 0) rfl ?_
        refine wi_istore_n (i := 1) (e := 1) (lo2 := [(1, vi 1), (0, .ref 236)]) (nx := 116) (r1 := 0) (r2 := 0) (r3 := 0) rfl rfl ?_
        refine wi_iload_n (i := 1) (e := 1) (nx := 117) (r1 := 0) (r2 := 0) (r3 := 0) rfl rfl ?_
        refine wi_if (cd := .ne) (nx := 120) (r1 := 230) (r2 := 0) (r3 := 0) rfl (by omega) (fun (q8 : 1 ≠ 0) => ?_) (fun (q8 : ¬ (1 ≠ 0)) => by exfalso; omega)
        refine wi_iconst (n := 1) (nx := 231) (r1 := 0) (r2 := 0) (r3 := 0) rfl ?_
        refine wi_goto (nx := 234) (r1 := 235) (r2 := 0) (r3 := 0) rfl ?_
        refine wi_istore_n (i := 1) (e := 1) (lo2 := [(1, vi 1), (0, .ref 236)]) (nx := 236) (r1 := 0) (r2 := 0) (r3 := 0) rfl rfl ?_
        refine wi_aload_n (i := 0) (x := 236) (nx := 237) (r1 := 0) (r2 := 0) (r3 := 0) rfl rfl ?_
        have b9 := gi_b (lo := 0) (hi := 4) g 236 6 rfl
        refine wr_gi0 (k0 := 236) (x := h 236 6) (nx := 240) (r1 := 11) (r2 := 6) (r3 := 0) rfl rfl (by decide) rfl ⟨rfl, rfl⟩ rfl rfl ?_
        refine wi_iconst (n := 1) (nx := 241) (r1 := 0) (r2 := 0) (r3 := 0) rfl ?_
        refine wi_icmp (cd := .ne) (nx := 244) (r1 := 252) (r2 := 0) (r3 := 0) rfl (by omega) (by omega) (fun (q10 : (h 236 6) ≠ 1) => ?_) (fun (q10 : ¬ ((h 236 6) ≠ 1)) => ?_)
        ·
          refine wi_iconst (n := 0) (nx := 253) (r1 := 0) (r2 := 0) (r3 := 0) rfl ?_
          refine wi_zreturn (nx := 254) (r1 := 0) (r2 := 0) (r3 := 0) rfl rfl (by omega) ?_
          exact k 0 (by omega)
        ·
          refine wi_iload_n (i := 1) (e := 1) (nx := 245) (r1 := 0) (r2 := 0) (r3 := 0) rfl rfl ?_
          refine wi_if (cd := .ne) (nx := 248) (r1 := 252) (r2 := 0) (r3 := 0) rfl (by omega) (fun (q11 : 1 ≠ 0) => ?_) (fun (q11 : ¬ (1 ≠ 0)) => by exfalso; omega)
          refine wi_iconst (n := 0) (nx := 253) (r1 := 0) (r2 := 0) (r3 := 0) rfl ?_
          refine wi_zreturn (nx := 254) (r1 := 0) (r2 := 0) (r3 := 0) rfl rfl (by omega) ?_
          exact k 0 (by omega)
      ·
        refine wi_aload_n (i := 0) (x := 236) (nx := 34) (r1 := 0) (r2 := 0) (r3 := 0) rfl rfl ?_
        refine wr_gi1 (k0 := 236) (x := h 236 12) (nx := 37) (r1 := 11) (r2 := 12) (r3 := 0) rfl rfl (by decide) rfl ⟨rfl, rfl⟩ rfl rfl ?_
        refine wi_ldc2_w (e := 3122) (nx := 40) (r1 := 3122) (r2 := 0) (r3 := 0) rfl (by decide) ?_
        refine wi_lcmp (a := h 236 12) (e := 3122) (nx := 41) (r1 := 0) (r2 := 0) (r3 := 0) rfl (by omega) (by omega) (fun r8 (fr8 : (r8 = -1 ∧ (h 236 12) < 3122) ∨ (r8 = 0 ∧ (h 236 12) = 3122) ∨ (r8 = 1 ∧ 3122 < (h 236 12))) => ?_)
        refine wi_if (cd := .eq) (nx := 44) (r1 := 110) (r2 := 0) (r3 := 0) rfl (by omega) (fun (q9 : r8 = 0) => ?_) (fun (q9 : ¬ (r8 = 0)) => ?_)
        ·
          refine wi_iconst (n := 1) (nx := 111) (r1 := 0) (r2 := 0) (r3 := 0) rfl ?_
          refine wi_goto (nx := 114) (r1 := 115) (r2 := 0) (r3 := 0) rfl ?_
          refine wi_istore_n (i := 1) (e := 1) (lo2 := [(1, vi 1), (0, .ref 236)]) (nx := 116) (r1 := 0) (r2 := 0) (r3 := 0) rfl rfl ?_
          refine wi_iload_n (i := 1) (e := 1) (nx := 117) (r1 := 0) (r2 := 0) (r3 := 0) rfl rfl ?_
          refine wi_if (cd := .ne) (nx := 120) (r1 := 230) (r2 := 0) (r3 := 0) rfl (by omega) (fun (q10 : 1 ≠ 0) => ?_) (fun (q10 : ¬ (1 ≠ 0)) => by exfalso; omega)
          refine wi_iconst (n := 1) (nx := 231) (r1 := 0) (r2 := 0) (r3 := 0) rfl ?_
          refine wi_goto (nx := 234) (r1 := 235) (r2 := 0) (r3 := 0) rfl ?_
          refine wi_istore_n (i := 1) (e := 1) (lo2 := [(1, vi 1), (0, .ref 236)]) (nx := 236) (r1 := 0) (r2 := 0) (r3 := 0) rfl rfl ?_
          refine wi_aload_n (i := 0) (x := 236) (nx := 237) (r1 := 0) (r2 := 0) (r3 := 0) rfl rfl ?_
          have b11 := gi_b (lo := 0) (hi := 4) g 236 6 rfl
          refine wr_gi0 (k0 := 236) (x := h 236 6) (nx := 240) (r1 := 11) (r2 := 6) (r3 := 0) rfl rfl (by decide) rfl ⟨rfl, rfl⟩ rfl rfl ?_
          refine wi_iconst (n := 1) (nx := 241) (r1 := 0) (r2 := 0) (r3 := 0) rfl ?_
          refine wi_icmp (cd := .ne) (nx := 244) (r1 := 252) (r2 := 0) (r3 := 0) rfl (by omega) (by omega) (fun (q12 : (h 236 6) ≠ 1) => ?_) (fun (q12 : ¬ ((h 236 6) ≠ 1)) => ?_)
          ·
            refine wi_iconst (n := 0) (nx := 253) (r1 := 0) (r2 := 0) (r3 := 0) rfl ?_
            refine wi_zreturn (nx := 254) (r1 := 0) (r2 := 0) (r3 := 0) rfl rfl (by omega) ?_
            exact k 0 (by omega)
          ·
            refine wi_iload_n (i := 1) (e := 1) (nx := 245) (r1 := 0) (r2 := 0) (r3 := 0) rfl rfl ?_
            refine wi_if (cd := .ne) (nx := 248) (r1 := 252) (r2 := 0) (r3 := 0) rfl (by omega) (fun (q13 : 1 ≠ 0) => ?_) (fun (q13 : ¬ (1 ≠ 0)) => by exfalso; omega)
            refine wi_iconst (n := 0) (nx := 253) (r1 := 0) (r2 := 0) (r3 := 0) rfl ?_
            refine wi_zreturn (nx := 254) (r1 := 0) (r2 := 0) (r3 := 0) rfl rfl (by omega) ?_
            exact k 0 (by omega)
        ·
          refine wi_aload_n (i := 0) (x := 236) (nx := 45) (r1 := 0) (r2 := 0) (r3 := 0) rfl rfl ?_
          refine wr_gi1 (k0 := 236) (x := h 236 12) (nx := 48) (r1 := 11) (r2 := 12) (r3 := 0) rfl rfl (by decide) rfl ⟨rfl, rfl⟩ rfl rfl ?_
          refine wi_ldc2_w (e := 81049) (nx := 51) (r1 := 81049) (r2 := 0) (r3 := 0) rfl (by decide) ?_
          refine wi_lcmp (a := h 236 12) (e := 81049) (nx := 52) (r1 := 0) (r2 := 0) (r3 := 0) rfl (by omega) (by omega) (fun r10 (fr10 : (r10 = -1 ∧ (h 236 12) < 81049) ∨ (r10 = 0 ∧ (h 236 12) = 81049) ∨ (r10 = 1 ∧ 81049 < (h 236 12))) => ?_)
          refine wi_if (cd := .eq) (nx := 55) (r1 := 110) (r2 := 0) (r3 := 0) rfl (by omega) (fun (q11 : r10 = 0) => ?_) (fun (q11 : ¬ (r10 = 0)) => ?_)
          ·
            refine wi_iconst (n := 1) (nx := 111) (r1 := 0) (r2 := 0) (r3 := 0) rfl ?_
            refine wi_goto (nx := 114) (r1 := 115) (r2 := 0) (r3 := 0) rfl ?_
            refine wi_istore_n (i := 1) (e := 1) (lo2 := [(1, vi 1), (0, .ref 236)]) (nx := 116) (r1 := 0) (r2 := 0) (r3 := 0) rfl rfl ?_
            refine wi_iload_n (i := 1) (e := 1) (nx := 117) (r1 := 0) (r2 := 0) (r3 := 0) rfl rfl ?_
            refine wi_if (cd := .ne) (nx := 120) (r1 := 230) (r2 := 0) (r3 := 0) rfl (by omega) (fun (q12 : 1 ≠ 0) => ?_) (fun (q12 : ¬ (1 ≠ 0)) => by exfalso; omega)
            refine wi_iconst (n := 1) (nx := 231) (r1 := 0) (r2 := 0) (r3 := 0) rfl ?_
            refine wi_goto (nx := 234) (r1 := 235) (r2 := 0) (r3 := 0) rfl ?_
            refine wi_istore_n (i := 1) (e := 1) (lo2 := [(1, vi 1), (0, .ref 236)]) (nx := 236) (r1 := 0) (r2 := 0) (r3 := 0) rfl rfl ?_
            refine wi_aload_n (i := 0) (x := 236) (nx := 237) (r1 := 0) (r2 := 0) (r3 := 0) rfl rfl ?_
            have b13 := gi_b (lo := 0) (hi := 4) g 236 6 rfl
            refine wr_gi0 (k0 := 236) (x := h 236 6) (nx := 240) (r1 := 11) (r2 := 6) (r3 := 0) rfl rfl (by decide) rfl ⟨rfl, rfl⟩ rfl rfl ?_
            refine wi_iconst (n := 1) (nx := 241) (r1 := 0) (r2 := 0) (r3 := 0) rfl ?_
            refine wi_icmp (cd := .ne) (nx := 244) (r1 := 252) (r2 := 0) (r3 := 0) rfl (by omega) (by omega) (fun (q14 : (h 236 6) ≠ 1) => ?_) (fun (q14 : ¬ ((h 236 6) ≠ 1)) => ?_)
            ·
              refine wi_iconst (n := 0) (nx := 253) (r1 := 0) (r2 := 0) (r3 := 0) rfl ?_
              refine wi_zreturn (nx := 254) (r1 := 0) (r2 := 0) (r3 := 0) rfl rfl (by omega) ?_
              exact k 0 (by omega)
            ·
              refine wi_iload_n (i := 1) (e := 1) (nx := 245) (r1 := 0) (r2 := 0) (r3 := 0) rfl rfl ?_
              refine wi_if (cd := .ne) (nx := 248) (r1 := 252) (r2 := 0) (r3 := 0) rfl (by omega) (fun (q15 : 1 ≠ 0) => ?_) (fun (q15 : ¬ (1 ≠ 0)) => by exfalso; omega)
              refine wi_iconst (n := 0) (nx := 253) (r1 := 0) (r2 := 0) (r3 := 0) rfl ?_
              refine wi_zreturn (nx := 254) (r1 := 0) (r2 := 0) (r3 := 0) rfl rfl (by omega) ?_
              exact k 0 (by omega)
          ·
            refine wi_aload_n (i := 0) (x := 236) (nx := 56) (r1 := 0) (r2 := 0) (r3 := 0) rfl rfl ?_
            refine wr_gi1 (k0 := 236) (x := h 236 12) (nx := 59) (r1 := 11) (r2 := 12) (r3 := 0) rfl rfl (by decide) rfl ⟨rfl, rfl⟩ rfl rfl ?_
            refine wi_ldc2_w (e := 2084) (nx := 62) (r1 := 2084) (r2 := 0) (r3 := 0) rfl (by decide) ?_
            refine wi_lcmp (a := h 236 12) (e := 2084) (nx := 63) (r1 := 0) (r2 := 0) (r3 := 0) rfl (by omega) (by omega) (fun r12 (fr12 : (r12 = -1 ∧ (h 236 12) < 2084) ∨ (r12 = 0 ∧ (h 236 12) = 2084) ∨ (r12 = 1 ∧ 2084 < (h 236 12))) => ?_)
            refine wi_if (cd := .eq) (nx := 66) (r1 := 110) (r2 := 0) (r3 := 0) rfl (by omega) (fun (q13 : r12 = 0) => ?_) (fun (q13 : ¬ (r12 = 0)) => ?_)
            ·
              refine wi_iconst (n := 1) (nx := 111) (r1 := 0) (r2 := 0) (r3 := 0) rfl ?_
              refine wi_goto (nx := 114) (r1 := 115) (r2 := 0) (r3 := 0) rfl ?_
              refine wi_istore_n (i := 1) (e := 1) (lo2 := [(1, vi 1), (0, .ref 236)]) (nx := 116) (r1 := 0) (r2 := 0) (r3 := 0) rfl rfl ?_
              refine wi_iload_n (i := 1) (e := 1) (nx := 117) (r1 := 0) (r2 := 0) (r3 := 0) rfl rfl ?_
              refine wi_if (cd := .ne) (nx := 120) (r1 := 230) (r2 := 0) (r3 := 0) rfl (by omega) (fun (q14 : 1 ≠ 0) => ?_) (fun (q14 : ¬ (1 ≠ 0)) => by exfalso; omega)
              refine wi_iconst (n := 1) (nx := 231) (r1 := 0) (r2 := 0) (r3 := 0) rfl ?_
              refine wi_goto (nx := 234) (r1 := 235) (r2 := 0) (r3 := 0) rfl ?_
              refine wi_istore_n (i := 1) (e := 1) (lo2 := [(1, vi 1), (0, .ref 236)]) (nx := 236) (r1 := 0) (r2 := 0) (r3 := 0) rfl rfl ?_
              refine wi_aload_n (i := 0) (x := 236) (nx := 237) (r1 := 0) (r2 := 0) (r3 := 0) rfl rfl ?_
              have b15 := gi_b (lo := 0) (hi := 4) g 236 6 rfl
              refine wr_gi0 (k0 := 236) (x := h 236 6) (nx := 240) (r1 := 11) (r2 := 6) (r3 := 0) rfl rfl (by decide) rfl ⟨rfl, rfl⟩ rfl rfl ?_
              refine wi_iconst (n := 1) (nx := 241) (r1 := 0) (r2 := 0) (r3 := 0) rfl ?_
              refine wi_icmp (cd := .ne) (nx := 244) (r1 := 252) (r2 := 0) (r3 := 0) rfl (by omega) (by omega) (fun (q16 : (h 236 6) ≠ 1) => ?_) (fun (q16 : ¬ ((h 236 6) ≠ 1)) => ?_)
              ·
                refine wi_iconst (n := 0) (nx := 253) (r1 := 0) (r2 := 0) (r3 := 0) rfl ?_
                refine wi_zreturn (nx := 254) (r1 := 0) (r2 := 0) (r3 := 0) rfl rfl (by omega) ?_
                exact k 0 (by omega)
              ·
                refine wi_iload_n (i := 1) (e := 1) (nx := 245) (r1 := 0) (r2 := 0) (r3 := 0) rfl rfl ?_
                refine wi_if (cd := .ne) (nx := 248) (r1 := 252) (r2 := 0) (r3 := 0) rfl (by omega) (fun (q17 : 1 ≠ 0) => ?_) (fun (q17 : ¬ (1 ≠ 0)) => by exfalso; omega)
                refine wi_iconst (n := 0) (nx := 253) (r1 := 0) (r2 := 0) (r3 := 0) rfl ?_
                refine wi_zreturn (nx := 254) (r1 := 0) (r2 := 0) (r3 := 0) rfl rfl (by omega) ?_
                exact k 0 (by omega)
            ·
              refine wi_aload_n (i := 0) (x := 236) (nx := 67) (r1 := 0) (r2 := 0) (r3 := 0) rfl rfl ?_
              refine wr_gi1 (k0 := 236) (x := h 236 12) (nx := 70) (r1 := 11) (r2 := 12) (r3 := 0) rfl rfl (by decide) rfl ⟨rfl, rfl⟩ rfl rfl ?_
              refine wi_ldc2_w (e := 781652471) (nx := 73) (r1 := 781652471) (r2 := 0) (r3 := 0) rfl (by decide) ?_
              refine wi_lcmp (a := h 236 12) (e := 781652471) (nx := 74) (r1 := 0) (r2 := 0) (r3 := 0) rfl (by omega) (by omega) (fun r14 (fr14 : (r14 = -1 ∧ (h 236 12) < 781652471) ∨ (r14 = 0 ∧ (h 236 12) = 781652471) ∨ (r14 = 1 ∧ 781652471 < (h 236 12))) => ?_)
              refine wi_if (cd := .eq) (nx := 77) (r1 := 110) (r2 := 0) (r3 := 0) rfl (by omega) (fun (q15 : r14 = 0) => ?_) (fun (q15 : ¬ (r14 = 0)) => ?_)
              ·
                refine wi_iconst (n := 1) (nx := 111) (r1 := 0) (r2 := 0) (r3 := 0) rfl ?_
                refine wi_goto (nx := 114) (r1 := 115) (r2 := 0) (r3 := 0) rfl ?_
                refine wi_istore_n (i := 1) (e := 1) (lo2 := [(1, vi 1), (0, .ref 236)]) (nx := 116) (r1 := 0) (r2 := 0) (r3 := 0) rfl rfl ?_
                refine wi_iload_n (i := 1) (e := 1) (nx := 117) (r1 := 0) (r2 := 0) (r3 := 0) rfl rfl ?_
                refine wi_if (cd := .ne) (nx := 120) (r1 := 230) (r2 := 0) (r3 := 0) rfl (by omega) (fun (q16 : 1 ≠ 0) => ?_) (fun (q16 : ¬ (1 ≠ 0)) => by exfalso; omega)
                refine wi_iconst (n := 1) (nx := 231) (r1 := 0) (r2 := 0) (r3 := 0) rfl ?_
                refine wi_goto (nx := 234) (r1 := 235) (r2 := 0) (r3 := 0) rfl ?_
                refine wi_istore_n (i := 1) (e := 1) (lo2 := [(1, vi 1), (0, .ref 236)]) (nx := 236) (r1 := 0) (r2 := 0) (r3 := 0) rfl rfl ?_
                refine wi_aload_n (i := 0) (x := 236) (nx := 237) (r1 := 0) (r2 := 0) (r3 := 0) rfl rfl ?_
                have b17 := gi_b (lo := 0) (hi := 4) g 236 6 rfl
                refine wr_gi0 (k0 := 236) (x := h 236 6) (nx := 240) (r1 := 11) (r2 := 6) (r3 := 0) rfl rfl (by decide) rfl ⟨rfl, rfl⟩ rfl rfl ?_
                refine wi_iconst (n := 1) (nx := 241) (r1 := 0) (r2 := 0) (r3 := 0) rfl ?_
                refine wi_icmp (cd := .ne) (nx := 244) (r1 := 252) (r2 := 0) (r3 := 0) rfl (by omega) (by omega) (fun (q18 : (h 236 6) ≠ 1) => ?_) (fun (q18 : ¬ ((h 236 6) ≠ 1)) => ?_)
                ·
                  refine wi_iconst (n := 0) (nx := 253) (r1 := 0) (r2 := 0) (r3 := 0) rfl ?_
                  refine wi_zreturn (nx := 254) (r1 := 0) (r2 := 0) (r3 := 0) rfl rfl (by omega) ?_
                  exact k 0 (by omega)
                ·
                  refine wi_iload_n (i := 1) (e := 1) (nx := 245) (r1 := 0) (r2 := 0) (r3 := 0) rfl rfl ?_
                  refine wi_if (cd := .ne) (nx := 248) (r1 := 252) (r2 := 0) (r3 := 0) rfl (by omega) (fun (q19 : 1 ≠ 0) => ?_) (fun (q19 : ¬ (1 ≠ 0)) => by exfalso; omega)
                  refine wi_iconst (n := 0) (nx := 253) (r1 := 0) (r2 := 0) (r3 := 0) rfl ?_
                  refine wi_zreturn (nx := 254) (r1 := 0) (r2 := 0) (r3 := 0) rfl rfl (by omega) ?_
                  exact k 0 (by omega)
              ·
                refine wi_aload_n (i := 0) (x := 236) (nx := 78) (r1 := 0) (r2 := 0) (r3 := 0) rfl rfl ?_
                refine wr_gi1 (k0 := 236) (x := h 236 12) (nx := 81) (r1 := 11) (r2 := 12) (r3 := 0) rfl rfl (by decide) rfl ⟨rfl, rfl⟩ rfl rfl ?_
                refine wi_ldc2_w (e := 2150504) (nx := 84) (r1 := 2150504) (r2 := 0) (r3 := 0) rfl (by decide) ?_
                refine wi_lcmp (a := h 236 12) (e := 2150504) (nx := 85) (r1 := 0) (r2 := 0) (r3 := 0) rfl (by omega) (by omega) (fun r16 (fr16 : (r16 = -1 ∧ (h 236 12) < 2150504) ∨ (r16 = 0 ∧ (h 236 12) = 2150504) ∨ (r16 = 1 ∧ 2150504 < (h 236 12))) => ?_)
                refine wi_if (cd := .eq) (nx := 88) (r1 := 110) (r2 := 0) (r3 := 0) rfl (by omega) (fun (q17 : r16 = 0) => ?_) (fun (q17 : ¬ (r16 = 0)) => ?_)
                ·
                  refine wi_iconst (n := 1) (nx := 111) (r1 := 0) (r2 := 0) (r3 := 0) rfl ?_
                  refine wi_goto (nx := 114) (r1 := 115) (r2 := 0) (r3 := 0) rfl ?_
                  refine wi_istore_n (i := 1) (e := 1) (lo2 := [(1, vi 1), (0, .ref 236)]) (nx := 116) (r1 := 0) (r2 := 0) (r3 := 0) rfl rfl ?_
                  refine wi_iload_n (i := 1) (e := 1) (nx := 117) (r1 := 0) (r2 := 0) (r3 := 0) rfl rfl ?_
                  refine wi_if (cd := .ne) (nx := 120) (r1 := 230) (r2 := 0) (r3 := 0) rfl (by omega) (fun (q18 : 1 ≠ 0) => ?_) (fun (q18 : ¬ (1 ≠ 0)) => by exfalso; omega)
                  refine wi_iconst (n := 1) (nx := 231) (r1 := 0) (r2 := 0) (r3 := 0) rfl ?_
                  refine wi_goto (nx := 234) (r1 := 235) (r2 := 0) (r3 := 0) rfl ?_
                  refine wi_istore_n (i := 1) (e := 1) (lo2 := [(1, vi 1), (0, .ref 236)]) (nx := 236) (r1 := 0) (r2 := 0) (r3 := 0) rfl rfl ?_
                  refine wi_aload_n (i := 0) (x := 236) (nx := 237) (r1 := 0) (r2 := 0) (r3 := 0) rfl rfl ?_
                  have b19 := gi_b (lo := 0) (hi := 4) g 236 6 rfl
                  refine wr_gi0 (k0 := 236) (x := h 236 6) (nx := 240) (r1 := 11) (r2 := 6) (r3 := 0) rfl rfl (by decide) rfl ⟨rfl, rfl⟩ rfl rfl ?_
                  refine wi_iconst (n := 1) (nx := 241) (r1 := 0) (r2 := 0) (r3 := 0) rfl ?_
                  refine wi_icmp (cd := .ne) (nx := 244) (r1 := 252) (r2 := 0) (r3 := 0) rfl (by omega) (by omega) (fun (q20 : (h 236 6) ≠ 1) => ?_) (fun (q20 : ¬ ((h 236 6) ≠ 1)) => ?_)
                  ·
                    refine wi_iconst (n := 0) (nx := 253) (r1 := 0) (r2 := 0) (r3 := 0) rfl ?_
                    refine wi_zreturn (nx := 254) (r1 := 0) (r2 := 0) (r3 := 0) rfl rfl (by omega) ?_
                    exact k 0 (by omega)
                  ·
                    refine wi_iload_n (i := 1) (e := 1) (nx := 245) (r1 := 0) (r2 := 0) (r3 := 0) rfl rfl ?_
                    refine wi_if (cd := .ne) (nx := 248) (r1 := 252) (r2 := 0) (r3 := 0) rfl (by omega) (fun (q21 : 1 ≠ 0) => ?_) (fun (q21 : ¬ (1 ≠ 0)) => by exfalso; omega)
                    refine wi_iconst (n := 0) (nx := 253) (r1 := 0) (r2 := 0) (r3 := 0) rfl ?_
                    refine wi_zreturn (nx := 254) (r1 := 0) (r2 := 0) (r3 := 0) rfl rfl (by omega) ?_
                    exact k 0 (by omega)
                ·
                  refine wi_aload_n (i := 0) (x := 236) (nx := 89) (r1 := 0) (r2 := 0) (r3 := 0) rfl rfl ?_
                  refine wr_gi1 (k0 := 236) (x := h 236 12) (nx := 92) (r1 := 11) (r2 := 12) (r3 := 0) rfl rfl (by decide) rfl ⟨rfl, rfl⟩ rfl rfl ?_
                  refine wi_ldc2_w (e := 17484005) (nx := 95) (r1 := 17484005) (r2 := 0) (r3 := 0) rfl (by decide) ?_
                  refine wi_lcmp (a := h 236 12) (e := 17484005) (nx := 96) (r1 := 0) (r2 := 0) (r3 := 0) rfl (by omega) (by omega) (fun r18 (fr18 : (r18 = -1 ∧ (h 236 12) < 17484005) ∨ (r18 = 0 ∧ (h 236 12) = 17484005) ∨ (r18 = 1 ∧ 17484005 < (h 236 12))) => ?_)
                  refine wi_if (cd := .eq) (nx := 99) (r1 := 110) (r2 := 0) (r3 := 0) rfl (by omega) (fun (q19 : r18 = 0) => ?_) (fun (q19 : ¬ (r18 = 0)) => ?_)
                  ·
                    refine wi_iconst (n := 1) (nx := 111) (r1 := 0) (r2 := 0) (r3 := 0) rfl ?_
                    refine wi_goto (nx := 114) (r1 := 115) (r2 := 0) (r3 := 0) rfl ?_
                    refine wi_istore_n (i := 1) (e := 1) (lo2 := [(1, vi 1), (0, .ref 236)]) (nx := 116) (r1 := 0) (r2 := 0) (r3 := 0) rfl rfl ?_
                    refine wi_iload_n (i := 1) (e := 1) (nx := 117) (r1 := 0) (r2 := 0) (r3 := 0) rfl rfl ?_
                    refine wi_if (cd := .ne) (nx := 120) (r1 := 230) (r2 := 0) (r3 := 0) rfl (by omega) (fun (q20 : 1 ≠ 0) => ?_) (fun (q20 : ¬ (1 ≠ 0)) => by exfalso; omega)
                    refine wi_iconst (n := 1) (nx := 231) (r1 := 0) (r2 := 0) (r3 := 0) rfl ?_
                    refine wi_goto (nx := 234) (r1 := 235) (r2 := 0) (r3 := 0) rfl ?_
                    refine wi_istore_n (i := 1) (e := 1) (lo2 := [(1, vi 1), (0, .ref 236)]) (nx := 236) (r1 := 0) (r2 := 0) (r3 := 0) rfl rfl ?_
                    refine wi_aload_n (i := 0) (x := 236) (nx := 237) (r1 := 0) (r2 := 0) (r3 := 0) rfl rfl ?_
                    have b21 := gi_b (lo := 0) (hi := 4) g 236 6 rfl
                    refine wr_gi0 (k0 := 236) (x := h 236 6) (nx := 240) (r1 := 11) (r2 := 6) (r3 := 0) rfl rfl (by decide) rfl ⟨rfl, rfl⟩ rfl rfl ?_
                    refine wi_iconst (n := 1) (nx := 241) (r1 := 0) (r2 := 0) (r3 := 0) rfl ?_
                    refine wi_icmp (cd := .ne) (nx := 244) (r1 := 252) (r2 := 0) (r3 := 0) rfl (by omega) (by omega) (fun (q22 : (h 236 6) ≠ 1) => ?_) (fun (q22 : ¬ ((h 236 6) ≠ 1)) => ?_)
                    ·
                      refine wi_iconst (n := 0) (nx := 253) (r1 := 0) (r2 := 0) (r3 := 0) rfl ?_
                      refine wi_zreturn (nx := 254) (r1 := 0) (r2 := 0) (r3 := 0) rfl rfl (by omega) ?_
                      exact k 0 (by omega)
                    ·
                      refine wi_iload_n (i := 1) (e := 1) (nx := 245) (r1 := 0) (r2 := 0) (r3 := 0) rfl rfl ?_
                      refine wi_if (cd := .ne) (nx := 248) (r1 := 252) (r2 := 0) (r3 := 0) rfl (by omega) (fun (q23 : 1 ≠ 0) => ?_) (fun (q23 : ¬ (1 ≠ 0)) => by exfalso; omega)
                      refine wi_iconst (n := 0) (nx := 253) (r1 := 0) (r2 := 0) (r3 := 0) rfl ?_
                      refine wi_zreturn (nx := 254) (r1 := 0) (r2 := 0) (r3 := 0) rfl rfl (by omega) ?_
                      exact k 0 (by omega)
                  ·
                    refine wi_aload_n (i := 0) (x := 236) (nx := 100) (r1 := 0) (r2 := 0) (r3 := 0) rfl rfl ?_
                    refine wr_gi1 (k0 := 236) (x := h 236 12) (nx := 103) (r1 := 11) (r2 := 12) (r3 := 0) rfl rfl (by decide) rfl ⟨rfl, rfl⟩ rfl rfl ?_
                    refine wi_ldc2_w (e := 609992267) (nx := 106) (r1 := 609992267) (r2 := 0) (r3 := 0) rfl (by decide) ?_
                    refine wi_lcmp (a := h 236 12) (e := 609992267) (nx := 107) (r1 := 0) (r2 := 0) (r3 := 0) rfl (by omega) (by omega) (fun r20 (fr20 : (r20 = -1 ∧ (h 236 12) < 609992267) ∨ (r20 = 0 ∧ (h 236 12) = 609992267) ∨ (r20 = 1 ∧ 609992267 < (h 236 12))) => ?_)
                    refine wi_if (cd := .ne) (nx := 110) (r1 := 114) (r2 := 0) (r3 := 0) rfl (by omega) (fun (q21 : r20 ≠ 0) => ?_) (fun (q21 : ¬ (r20 ≠ 0)) => ?_)
                    ·
                      refine wi_iconst (n := 0) (nx := 115) (r1 := 0) (r2 := 0) (r3 := 0) rfl ?_
                      refine wi_istore_n (i := 1) (e := 0) (lo2 := [(1, vi 0), (0, .ref 236)]) (nx := 116) (r1 := 0) (r2 := 0) (r3 := 0) rfl rfl ?_
                      refine wi_iload_n (i := 1) (e := 0) (nx := 117) (r1 := 0) (r2 := 0) (r3 := 0) rfl rfl ?_
                      refine wi_if (cd := .ne) (nx := 120) (r1 := 230) (r2 := 0) (r3 := 0) rfl (by omega) (fun (q22 : 0 ≠ 0) => by exfalso; omega) (fun (q22 : ¬ (0 ≠ 0)) => ?_)
                      refine wi_aload_n (i := 0) (x := 236) (nx := 121) (r1 := 0) (r2 := 0) (r3 := 0) rfl rfl ?_
                      refine wr_gi1 (k0 := 236) (x := h 236 12) (nx := 124) (r1 := 11) (r2 := 12) (r3 := 0) rfl rfl (by decide) rfl ⟨rfl, rfl⟩ rfl rfl ?_
                      refine wi_ldc2_w (e := 4370489) (nx := 127) (r1 := 4370489) (r2 := 0) (r3 := 0) rfl (by decide) ?_
                      refine wi_lcmp (a := h 236 12) (e := 4370489) (nx := 128) (r1 := 0) (r2 := 0) (r3 := 0) rfl (by omega) (by omega) (fun r23 (fr23 : (r23 = -1 ∧ (h 236 12) < 4370489) ∨ (r23 = 0 ∧ (h 236 12) = 4370489) ∨ (r23 = 1 ∧ 4370489 < (h 236 12))) => ?_)
                      refine wi_if (cd := .eq) (nx := 131) (r1 := 230) (r2 := 0) (r3 := 0) rfl (by omega) (fun (q24 : r23 = 0) => ?_) (fun (q24 : ¬ (r23 = 0)) => ?_)
                      ·
                        refine wi_iconst (n := 1) (nx := 231) (r1 := 0) (r2 := 0) (r3 := 0) rfl ?_
                        refine wi_goto (nx := 234) (r1 := 235) (r2 := 0) (r3 := 0) rfl ?_
                        refine wi_istore_n (i := 1) (e := 1) (lo2 := [(1, vi 1), (0, .ref 236)]) (nx := 236) (r1 := 0) (r2 := 0) (r3 := 0) rfl rfl ?_
                        refine wi_aload_n (i := 0) (x := 236) (nx := 237) (r1 := 0) (r2 := 0) (r3 := 0) rfl rfl ?_
                        have b25 := gi_b (lo := 0) (hi := 4) g 236 6 rfl
                        refine wr_gi0 (k0 := 236) (x := h 236 6) (nx := 240) (r1 := 11) (r2 := 6) (r3 := 0) rfl rfl (by decide) rfl ⟨rfl, rfl⟩ rfl rfl ?_
                        refine wi_iconst (n := 1) (nx := 241) (r1 := 0) (r2 := 0) (r3 := 0) rfl ?_
                        refine wi_icmp (cd := .ne) (nx := 244) (r1 := 252) (r2 := 0) (r3 := 0) rfl (by omega) (by omega) (fun (q26 : (h 236 6) ≠ 1) => ?_) (fun (q26 : ¬ ((h 236 6) ≠ 1)) => ?_)
                        ·
                          refine wi_iconst (n := 0) (nx := 253) (r1 := 0) (r2 := 0) (r3 := 0) rfl ?_
                          refine wi_zreturn (nx := 254) (r1 := 0) (r2 := 0) (r3 := 0) rfl rfl (by omega) ?_
                          exact k 0 (by omega)
                        ·
                          refine wi_iload_n (i := 1) (e := 1) (nx := 245) (r1 := 0) (r2 := 0) (r3 := 0) rfl rfl ?_
                          refine wi_if (cd := .ne) (nx := 248) (r1 := 252) (r2 := 0) (r3 := 0) rfl (by omega) (fun (q27 : 1 ≠ 0) => ?_) (fun (q27 : ¬ (1 ≠ 0)) => by exfalso; omega)
                          refine wi_iconst (n := 0) (nx := 253) (r1 := 0) (r2 := 0) (r3 := 0) rfl ?_
                          refine wi_zreturn (nx := 254) (r1 := 0) (r2 := 0) (r3 := 0) rfl rfl (by omega) ?_
                          exact k 0 (by omega)
                      ·
                        refine wi_aload_n (i := 0) (x := 236) (nx := 132) (r1 := 0) (r2 := 0) (r3 := 0) rfl rfl ?_
                        refine wr_gi1 (k0 := 236) (x := h 236 12) (nx := 135) (r1 := 11) (r2 := 12) (r3 := 0) rfl rfl (by decide) rfl ⟨rfl, rfl⟩ rfl rfl ?_
                        refine wi_ldc2_w (e := 639022) (nx := 138) (r1 := 639022) (r2 := 0) (r3 := 0) rfl (by decide) ?_
                        refine wi_lcmp (a := h 236 12) (e := 639022) (nx := 139) (r1 := 0) (r2 := 0) (r3 := 0) rfl (by omega) (by omega) (fun r25 (fr25 : (r25 = -1 ∧ (h 236 12) < 639022) ∨ (r25 = 0 ∧ (h 236 12) = 639022) ∨ (r25 = 1 ∧ 639022 < (h 236 12))) => ?_)
                        refine wi_if (cd := .eq) (nx := 142) (r1 := 230) (r2 := 0) (r3 := 0) rfl (by omega) (fun (q26 : r25 = 0) => ?_) (fun (q26 : ¬ (r25 = 0)) => ?_)
                        ·
                          refine wi_iconst (n := 1) (nx := 231) (r1 := 0) (r2 := 0) (r3 := 0) rfl ?_
                          refine wi_goto (nx := 234) (r1 := 235) (r2 := 0) (r3 := 0) rfl ?_
                          refine wi_istore_n (i := 1) (e := 1) (lo2 := [(1, vi 1), (0, .ref 236)]) (nx := 236) (r1 := 0) (r2 := 0) (r3 := 0) rfl rfl ?_
                          refine wi_aload_n (i := 0) (x := 236) (nx := 237) (r1 := 0) (r2 := 0) (r3 := 0) rfl rfl ?_
                          have b27 := gi_b (lo := 0) (hi := 4) g 236 6 rfl
                          refine wr_gi0 (k0 := 236) (x := h 236 6) (nx := 240) (r1 := 11) (r2 := 6) (r3 := 0) rfl rfl (by decide) rfl ⟨rfl, rfl⟩ rfl rfl ?_
                          refine wi_iconst (n := 1) (nx := 241) (r1 := 0) (r2 := 0) (r3 := 0) rfl ?_
                          refine wi_icmp (cd := .ne) (nx := 244) (r1 := 252) (r2 := 0) (r3 := 0) rfl (by omega) (by omega) (fun (q28 : (h 236 6) ≠ 1) => ?_) (fun (q28 : ¬ ((h 236 6) ≠ 1)) => ?_)
                          ·
                            refine wi_iconst (n := 0) (nx := 253) (r1 := 0) (r2 := 0) (r3 := 0) rfl ?_
                            refine wi_zreturn (nx := 254) (r1 := 0) (r2 := 0) (r3 := 0) rfl rfl (by omega) ?_
                            exact k 0 (by omega)
                          ·
                            refine wi_iload_n (i := 1) (e := 1) (nx := 245) (r1 := 0) (r2 := 0) (r3 := 0) rfl rfl ?_
                            refine wi_if (cd := .ne) (nx := 248) (r1 := 252) (r2 := 0) (r3 := 0) rfl (by omega) (fun (q29 : 1 ≠ 0) => ?_) (fun (q29 : ¬ (1 ≠ 0)) => by exfalso; omega)
                            refine wi_iconst (n := 0) (nx := 253) (r1 := 0) (r2 := 0) (r3 := 0) rfl ?_
                            refine wi_zreturn (nx := 254) (r1 := 0) (r2 := 0) (r3 := 0) rfl rfl (by omega) ?_
                            exact k 0 (by omega)
                        ·
                          refine wi_aload_n (i := 0) (x := 236) (nx := 143) (r1 := 0) (r2 := 0) (r3 := 0) rfl rfl ?_
                          refine wr_gi1 (k0 := 236) (x := h 236 12) (nx := 146) (r1 := 11) (r2 := 12) (r3 := 0) rfl rfl (by decide) rfl ⟨rfl, rfl⟩ rfl rfl ?_
                          refine wi_ldc2_w (e := 5722290) (nx := 149) (r1 := 5722290) (r2 := 0) (r3 := 0) rfl (by decide) ?_
                          refine wi_lcmp (a := h 236 12) (e := 5722290) (nx := 150) (r1 := 0) (r2 := 0) (r3 := 0) rfl (by omega) (by omega) (fun r27 (fr27 : (r27 = -1 ∧ (h 236 12) < 5722290) ∨ (r27 = 0 ∧ (h 236 12) = 5722290) ∨ (r27 = 1 ∧ 5722290 < (h 236 12))) => ?_)
                          refine wi_if (cd := .eq) (nx := 153) (r1 := 230) (r2 := 0) (r3 := 0) rfl (by omega) (fun (q28 : r27 = 0) => ?_) (fun (q28 : ¬ (r27 = 0)) => ?_)
                          ·
                            refine wi_iconst (n := 1) (nx := 231) (r1 := 0) (r2 := 0) (r3 := 0) rfl ?_
                            refine wi_goto (nx := 234) (r1 := 235) (r2 := 0) (r3 := 0) rfl ?_
                            refine wi_istore_n (i := 1) (e := 1) (lo2 := [(1, vi 1), (0, .ref 236)]) (nx := 236) (r1 := 0) (r2 := 0) (r3 := 0) rfl rfl ?_
                            refine wi_aload_n (i := 0) (x := 236) (nx := 237) (r1 := 0) (r2 := 0) (r3 := 0) rfl rfl ?_
                            have b29 := gi_b (lo := 0) (hi := 4) g 236 6 rfl
                            refine wr_gi0 (k0 := 236) (x := h 236 6) (nx := 240) (r1 := 11) (r2 := 6) (r3 := 0) rfl rfl (by decide) rfl ⟨rfl, rfl⟩ rfl rfl ?_
                            refine wi_iconst (n := 1) (nx := 241) (r1 := 0) (r2 := 0) (r3 := 0) rfl ?_
                            refine wi_icmp (cd := .ne) (nx := 244) (r1 := 252) (r2 := 0) (r3 := 0) rfl (by omega) (by omega) (fun (q30 : (h 236 6) ≠ 1) => ?_) (fun (q30 : ¬ ((h 236 6) ≠ 1)) => ?_)
                            ·
                              refine wi_iconst (n := 0) (nx := 253) (r1 := 0) (r2 := 0) (r3 := 0) rfl ?_
                              refine wi_zreturn (nx := 254) (r1 := 0) (r2 := 0) (r3 := 0) rfl rfl (by omega) ?_
                              exact k 0 (by omega)
                            ·
                              refine wi_iload_n (i := 1) (e := 1) (nx := 245) (r1 := 0) (r2 := 0) (r3 := 0) rfl rfl ?_
                              refine wi_if (cd := .ne) (nx := 248) (r1 := 252) (r2 := 0) (r3 := 0) rfl (by omega) (fun (q31 : 1 ≠ 0) => ?_) (fun (q31 : ¬ (1 ≠ 0)) => by exfalso; omega)
                              refine wi_iconst (n := 0) (nx := 253) (r1 := 0) (r2 := 0) (r3 := 0) rfl ?_
                              refine wi_zreturn (nx := 254) (r1 := 0) (r2 := 0) (r3 := 0) rfl rfl (by omega) ?_
                              exact k 0 (by omega)
                          ·
                            refine wi_aload_n (i := 0) (x := 236) (nx := 154) (r1 := 0) (r2 := 0) (r3 := 0) rfl rfl ?_
                            refine wr_gi1 (k0 := 236) (x := h 236 12) (nx := 157) (r1 := 11) (r2 := 12) (r3 := 0) rfl rfl (by decide) rfl ⟨rfl, rfl⟩ rfl rfl ?_
                            refine wi_ldc2_w (e := 12748485) (nx := 160) (r1 := 12748485) (r2 := 0) (r3 := 0) rfl (by decide) ?_
                            refine wi_lcmp (a := h 236 12) (e := 12748485) (nx := 161) (r1 := 0) (r2 := 0) (r3 := 0) rfl (by omega) (by omega) (fun r29 (fr29 : (r29 = -1 ∧ (h 236 12) < 12748485) ∨ (r29 = 0 ∧ (h 236 12) = 12748485) ∨ (r29 = 1 ∧ 12748485 < (h 236 12))) => ?_)
                            refine wi_if (cd := .eq) (nx := 164) (r1 := 230) (r2 := 0) (r3 := 0) rfl (by omega) (fun (q30 : r29 = 0) => ?_) (fun (q30 : ¬ (r29 = 0)) => ?_)
                            ·
                              refine wi_iconst (n := 1) (nx := 231) (r1 := 0) (r2 := 0) (r3 := 0) rfl ?_
                              refine wi_goto (nx := 234) (r1 := 235) (r2 := 0) (r3 := 0) rfl ?_
                              refine wi_istore_n (i := 1) (e := 1) (lo2 := [(1, vi 1), (0, .ref 236)]) (nx := 236) (r1 := 0) (r2 := 0) (r3 := 0) rfl rfl ?_
                              refine wi_aload_n (i := 0) (x := 236) (nx := 237) (r1 := 0) (r2 := 0) (r3 := 0) rfl rfl ?_
                              have b31 := gi_b (lo := 0) (hi := 4) g 236 6 rfl
                              refine wr_gi0 (k0 := 236) (x := h 236 6) (nx := 240) (r1 := 11) (r2 := 6) (r3 := 0) rfl rfl (by decide) rfl ⟨rfl, rfl⟩ rfl rfl ?_
                              refine wi_iconst (n := 1) (nx := 241) (r1 := 0) (r2 := 0) (r3 := 0) rfl ?_
                              refine wi_icmp (cd := .ne) (nx := 244) (r1 := 252) (r2 := 0) (r3 := 0) rfl (by omega) (by omega) (fun (q32 : (h 236 6) ≠ 1) => ?_) (fun (q32 : ¬ ((h 236 6) ≠ 1)) => ?_)
                              ·
                                refine wi_iconst (n := 0) (nx := 253) (r1 := 0) (r2 := 0) (r3 := 0) rfl ?_
                                refine wi_zreturn (nx := 254) (r1 := 0) (r2 := 0) (r3 := 0) rfl rfl (by omega) ?_
                                exact k 0 (by omega)
                              ·
                                refine wi_iload_n (i := 1) (e := 1) (nx := 245) (r1 := 0) (r2 := 0) (r3 := 0) rfl rfl ?_
                                refine wi_if (cd := .ne) (nx := 248) (r1 := 252) (r2 := 0) (r3 := 0) rfl (by omega) (fun (q33 : 1 ≠ 0) => ?_) (fun (q33 : ¬ (1 ≠ 0)) => by exfalso; omega)
                                refine wi_iconst (n := 0) (nx := 253) (r1 := 0) (r2 := 0) (r3 := 0) rfl ?_
                                refine wi_zreturn (nx := 254) (r1 := 0) (r2 := 0) (r3 := 0) rfl rfl (by omega) ?_
                                exact k 0 (by omega)
                            ·
                              refine wi_aload_n (i := 0) (x := 236) (nx := 165) (r1 := 0) (r2 := 0) (r3 := 0) rfl rfl ?_
                              refine wr_gi1 (k0 := 236) (x := h 236 12) (nx := 168) (r1 := 11) (r2 := 12) (r3 := 0) rfl rfl (by decide) rfl ⟨rfl, rfl⟩ rfl rfl ?_
                              refine wi_ldc2_w (e := 66667) (nx := 171) (r1 := 66667) (r2 := 0) (r3 := 0) rfl (by decide) ?_
                              refine wi_lcmp (a := h 236 12) (e := 66667) (nx := 172) (r1 := 0) (r2 := 0) (r3 := 0) rfl (by omega) (by omega) (fun r31 (fr31 : (r31 = -1 ∧ (h 236 12) < 66667) ∨ (r31 = 0 ∧ (h 236 12) = 66667) ∨ (r31 = 1 ∧ 66667 < (h 236 12))) => ?_)
                              refine wi_if (cd := .eq) (nx := 175) (r1 := 230) (r2 := 0) (r3 := 0) rfl (by omega) (fun (q32 : r31 = 0) => ?_) (fun (q32 : ¬ (r31 = 0)) => ?_)
                              ·
                                refine wi_iconst (n := 1) (nx := 231) (r1 := 0) (r2 := 0) (r3 := 0) rfl ?_
                                refine wi_goto (nx := 234) (r1 := 235) (r2 := 0) (r3 := 0) rfl ?_
                                refine wi_istore_n (i := 1) (e := 1) (lo2 := [(1, vi 1), (0, .ref 236)]) (nx := 236) (r1 := 0) (r2 := 0) (r3 := 0) rfl rfl ?_
                                refine wi_aload_n (i := 0) (x := 236) (nx := 237) (r1 := 0) (r2 := 0) (r3 := 0) rfl rfl ?_
                                have b33 := gi_b (lo := 0) (hi := 4) g 236 6 rfl
                                refine wr_gi0 (k0 := 236) (x := h 236 6) (nx := 240) (r1 := 11) (r2 := 6) (r3 := 0) rfl rfl (by decide) rfl ⟨rfl, rfl⟩ rfl rfl ?_
                                refine wi_iconst (n := 1) (nx := 241) (r1 := 0) (r2 := 0) (r3 := 0) rfl ?_
                                refine wi_icmp (cd := .ne) (nx := 244) (r1 := 252) (r2 := 0) (r3 := 0) rfl (by omega) (by omega) (fun (q34 : (h 236 6) ≠ 1) => ?_) (fun (q34 : ¬ ((h 236 6) ≠ 1)) => ?_)
                                ·
                                  refine wi_iconst (n := 0) (nx := 253) (r1 := 0) (r2 := 0) (r3 := 0) rfl ?_
                                  refine wi_zreturn (nx := 254) (r1 := 0) (r2 := 0) (r3 := 0) rfl rfl (by omega) ?_
                                  exact k 0 (by omega)
                                ·
                                  refine wi_iload_n (i := 1) (e := 1) (nx := 245) (r1 := 0) (r2 := 0) (r3 := 0) rfl rfl ?_
                                  refine wi_if (cd := .ne) (nx := 248) (r1 := 252) (r2 := 0) (r3 := 0) rfl (by omega) (fun (q35 : 1 ≠ 0) => ?_) (fun (q35 : ¬ (1 ≠ 0)) => by exfalso; omega)
                                  refine wi_iconst (n := 0) (nx := 253) (r1 := 0) (r2 := 0) (r3 := 0) rfl ?_
                                  refine wi_zreturn (nx := 254) (r1 := 0) (r2 := 0) (r3 := 0) rfl rfl (by omega) ?_
                                  exact k 0 (by omega)
                              ·
                                refine wi_aload_n (i := 0) (x := 236) (nx := 176) (r1 := 0) (r2 := 0) (r3 := 0) rfl rfl ?_
                                refine wr_gi1 (k0 := 236) (x := h 236 12) (nx := 179) (r1 := 11) (r2 := 12) (r3 := 0) rfl rfl (by decide) rfl ⟨rfl, rfl⟩ rfl rfl ?_
                                refine wi_ldc2_w (e := 754996) (nx := 182) (r1 := 754996) (r2 := 0) (r3 := 0) rfl (by decide) ?_
                                refine wi_lcmp (a := h 236 12) (e := 754996) (nx := 183) (r1 := 0) (r2 := 0) (r3 := 0) rfl (by omega) (by omega) (fun r33 (fr33 : (r33 = -1 ∧ (h 236 12) < 754996) ∨ (r33 = 0 ∧ (h 236 12) = 754996) ∨ (r33 = 1 ∧ 754996 < (h 236 12))) => ?_)
                                refine wi_if (cd := .eq) (nx := 186) (r1 := 230) (r2 := 0) (r3 := 0) rfl (by omega) (fun (q34 : r33 = 0) => ?_) (fun (q34 : ¬ (r33 = 0)) => ?_)
                                ·
                                  refine wi_iconst (n := 1) (nx := 231) (r1 := 0) (r2 := 0) (r3 := 0) rfl ?_
                                  refine wi_goto (nx := 234) (r1 := 235) (r2 := 0) (r3 := 0) rfl ?_
                                  refine wi_istore_n (i := 1) (e := 1) (lo2 := [(1, vi 1), (0, .ref 236)]) (nx := 236) (r1 := 0) (r2 := 0) (r3 := 0) rfl rfl ?_
                                  refine wi_aload_n (i := 0) (x := 236) (nx := 237) (r1 := 0) (r2 := 0) (r3 := 0) rfl rfl ?_
                                  have b35 := gi_b (lo := 0) (hi := 4) g 236 6 rfl
                                  refine wr_gi0 (k0 := 236) (x := h 236 6) (nx := 240) (r1 := 11) (r2 := 6) (r3 := 0) rfl rfl (by decide) rfl ⟨rfl, rfl⟩ rfl rfl ?_
                                  refine wi_iconst (n := 1) (nx := 241) (r1 := 0) (r2 := 0) (r3 := 0) rfl ?_
                                  refine wi_icmp (cd := .ne) (nx := 244) (r1 := 252) (r2 := 0) (r3 := 0) rfl (by omega) (by omega) (fun (q36 : (h 236 6) ≠ 1) => ?_) (fun (q36 : ¬ ((h 236 6) ≠ 1)) => ?_)
                                  ·
                                    refine wi_iconst (n := 0) (nx := 253) (r1 := 0) (r2 := 0) (r3 := 0) rfl ?_
                                    refine wi_zreturn (nx := 254) (r1 := 0) (r2 := 0) (r3 := 0) rfl rfl (by omega) ?_
                                    exact k 0 (by omega)
                                  ·
                                    refine wi_iload_n (i := 1) (e := 1) (nx := 245) (r1 := 0) (r2 := 0) (r3 := 0) rfl rfl ?_
                                    refine wi_if (cd := .ne) (nx := 248) (r1 := 252) (r2 := 0) (r3 := 0) rfl (by omega) (fun (q37 : 1 ≠ 0) => ?_) (fun (q37 : ¬ (1 ≠ 0)) => by exfalso; omega)
                                    refine wi_iconst (n := 0) (nx := 253) (r1 := 0) (r2 := 0) (r3 := 0) rfl ?_
                                    refine wi_zreturn (nx := 254) (r1 := 0) (r2 := 0) (r3 := 0) rfl rfl (by omega) ?_
                                    exact k 0 (by omega)
                                ·
                                  refine wi_aload_n (i := 0) (x := 236) (nx := 187) (r1 := 0) (r2 := 0) (r3 := 0) rfl rfl ?_
                                  refine wr_gi1 (k0 := 236) (x := h 236 12) (nx := 190) (r1 := 11) (r2 := 12) (r3 := 0) rfl rfl (by decide) rfl ⟨rfl, rfl⟩ rfl rfl ?_
                                  refine wi_ldc2_w (e := 643248) (nx := 193) (r1 := 643248) (r2 := 0) (r3 := 0) rfl (by decide) ?_
                                  refine wi_lcmp (a := h 236 12) (e := 643248) (nx := 194) (r1 := 0) (r2 := 0) (r3 := 0) rfl (by omega) (by omega) (fun r35 (fr35 : (r35 = -1 ∧ (h 236 12) < 643248) ∨ (r35 = 0 ∧ (h 236 12) = 643248) ∨ (r35 = 1 ∧ 643248 < (h 236 12))) => ?_)
                                  refine wi_if (cd := .eq) (nx := 197) (r1 := 230) (r2 := 0) (r3 := 0) rfl (by omega) (fun (q36 : r35 = 0) => ?_) (fun (q36 : ¬ (r35 = 0)) => ?_)
                                  ·
                                    refine wi_iconst (n := 1) (nx := 231) (r1 := 0) (r2 := 0) (r3 := 0) rfl ?_
                                    refine wi_goto (nx := 234) (r1 := 235) (r2 := 0) (r3 := 0) rfl ?_
                                    refine wi_istore_n (i := 1) (e := 1) (lo2 := [(1, vi 1), (0, .ref 236)]) (nx := 236) (r1 := 0) (r2 := 0) (r3 := 0) rfl rfl ?_
                                    refine wi_aload_n (i := 0) (x := 236) (nx := 237) (r1 := 0) (r2 := 0) (r3 := 0) rfl rfl ?_
                                    have b37 := gi_b (lo := 0) (hi := 4) g 236 6 rfl
                                    refine wr_gi0 (k0 := 236) (x := h 236 6) (nx := 240) (r1 := 11) (r2 := 6) (r3 := 0) rfl rfl (by decide) rfl ⟨rfl, rfl⟩ rfl rfl ?_
                                    refine wi_iconst (n := 1) (nx := 241) (r1 := 0) (r2 := 0) (r3 := 0) rfl ?_
                                    refine wi_icmp (cd := .ne) (nx := 244) (r1 := 252) (r2 := 0) (r3 := 0) rfl (by omega) (by omega) (fun (q38 : (h 236 6) ≠ 1) => ?_) (fun (q38 : ¬ ((h 236 6) ≠ 1)) => ?_)
                                    ·
                                      refine wi_iconst (n := 0) (nx := 253) (r1 := 0) (r2 := 0) (r3 := 0) rfl ?_
                                      refine wi_zreturn (nx := 254) (r1 := 0) (r2 := 0) (r3 := 0) rfl rfl (by omega) ?_
                                      exact k 0 (by omega)
                                    ·
                                      refine wi_iload_n (i := 1) (e := 1) (nx := 245) (r1 := 0) (r2 := 0) (r3 := 0) rfl rfl ?_
                                      refine wi_if (cd := .ne) (nx := 248) (r1 := 252) (r2 := 0) (r3 := 0) rfl (by omega) (fun (q39 : 1 ≠ 0) => ?_) (fun (q39 : ¬ (1 ≠ 0)) => by exfalso; omega)
                                      refine wi_iconst (n := 0) (nx := 253) (r1 := 0) (r2 := 0) (r3 := 0) rfl ?_
                                      refine wi_zreturn (nx := 254) (r1 := 0) (r2 := 0) (r3 := 0) rfl rfl (by omega) ?_
                                      exact k 0 (by omega)
                                  ·
                                    refine wi_aload_n (i := 0) (x := 236) (nx := 198) (r1 := 0) (r2 := 0) (r3 := 0) rfl rfl ?_
                                    refine wr_gi1 (k0 := 236) (x := h 236 12) (nx := 201) (r1 := 11) (r2 := 12) (r3 := 0) rfl rfl (by decide) rfl ⟨rfl, rfl⟩ rfl rfl ?_
                                    refine wi_ldc2_w (e := 719731748) (nx := 204) (r1 := 719731748) (r2 := 0) (r3 := 0) rfl (by decide) ?_
                                    refine wi_lcmp (a := h 236 12) (e := 719731748) (nx := 205) (r1 := 0) (r2 := 0) (r3 := 0) rfl (by omega) (by omega) (fun r37 (fr37 : (r37 = -1 ∧ (h 236 12) < 719731748) ∨ (r37 = 0 ∧ (h 236 12) = 719731748) ∨ (r37 = 1 ∧ 719731748 < (h 236 12))) => ?_)
                                    refine wi_if (cd := .eq) (nx := 208) (r1 := 230) (r2 := 0) (r3 := 0) rfl (by omega) (fun (q38 : r37 = 0) => ?_) (fun (q38 : ¬ (r37 = 0)) => ?_)
                                    ·
                                      refine wi_iconst (n := 1) (nx := 231) (r1 := 0) (r2 := 0) (r3 := 0) rfl ?_
                                      refine wi_goto (nx := 234) (r1 := 235) (r2 := 0) (r3 := 0) rfl ?_
                                      refine wi_istore_n (i := 1) (e := 1) (lo2 := [(1, vi 1), (0, .ref 236)]) (nx := 236) (r1 := 0) (r2 := 0) (r3 := 0) rfl rfl ?_
                                      refine wi_aload_n (i := 0) (x := 236) (nx := 237) (r1 := 0) (r2 := 0) (r3 := 0) rfl rfl ?_
                                      have b39 := gi_b (lo := 0) (hi := 4) g 236 6 rfl
                                      refine wr_gi0 (k0 := 236) (x := h 236 6) (nx := 240) (r1 := 11) (r2 := 6) (r3 := 0) rfl rfl (by decide) rfl ⟨rfl, rfl⟩ rfl rfl ?_
                                      refine wi_iconst (n := 1) (nx := 241) (r1 := 0) (r2 := 0) (r3 := 0) rfl ?_
                                      refine wi_icmp (cd := .ne) (nx := 244) (r1 := 252) (r2 := 0) (r3 := 0) rfl (by omega) (by omega) (fun (q40 : (h 236 6) ≠ 1) => ?_) (fun (q40 : ¬ ((h 236 6) ≠ 1)) => ?_)
                                      ·
                                        refine wi_iconst (n := 0) (nx := 253) (r1 := 0) (r2 := 0) (r3 := 0) rfl ?_
                                        refine wi_zreturn (nx := 254) (r1 := 0) (r2 := 0) (r3 := 0) rfl rfl (by omega) ?_
                                        exact k 0 (by omega)
                                      ·
                                        refine wi_iload_n (i := 1) (e := 1) (nx := 245) (r1 := 0) (r2 := 0) (r3 := 0) rfl rfl ?_
                                        refine wi_if (cd := .ne) (nx := 248) (r1 := 252) (r2 := 0) (r3 := 0) rfl (by omega) (fun (q41 : 1 ≠ 0) => ?_) (fun (q41 : ¬ (1 ≠ 0)) => by exfalso; omega)
                                        refine wi_iconst (n := 0) (nx := 253) (r1 := 0) (r2 := 0) (r3 := 0) rfl ?_
                                        refine wi_zreturn (nx := 254) (r1 := 0) (r2 := 0) (r3 := 0) rfl rfl (by omega) ?_
                                        exact k 0 (by omega)
                                    ·
                                      refine wi_aload_n (i := 0) (x := 236) (nx := 209) (r1 := 0) (r2 := 0) (r3 := 0) rfl rfl ?_
                                      refine wr_gi1 (k0 := 236) (x := h 236 12) (nx := 212) (r1 := 11) (r2 := 12) (r3 := 0) rfl rfl (by decide) rfl ⟨rfl, rfl⟩ rfl rfl ?_
                                      refine wi_ldc2_w (e := 646192) (nx := 215) (r1 := 646192) (r2 := 0) (r3 := 0) rfl (by decide) ?_
                                      refine wi_lcmp (a := h 236 12) (e := 646192) (nx := 216) (r1 := 0) (r2 := 0) (r3 := 0) rfl (by omega) (by omega) (fun r39 (fr39 : (r39 = -1 ∧ (h 236 12) < 646192) ∨ (r39 = 0 ∧ (h 236 12) = 646192) ∨ (r39 = 1 ∧ 646192 < (h 236 12))) => ?_)
                                      refine wi_if (cd := .eq) (nx := 219) (r1 := 230) (r2 := 0) (r3 := 0) rfl (by omega) (fun (q40 : r39 = 0) => ?_) (fun (q40 : ¬ (r39 = 0)) => ?_)
                                      ·
                                        refine wi_iconst (n := 1) (nx := 231) (r1 := 0) (r2 := 0) (r3 := 0) rfl ?_
                                        refine wi_goto (nx := 234) (r1 := 235) (r2 := 0) (r3 := 0) rfl ?_
                                        refine wi_istore_n (i := 1) (e := 1) (lo2 := [(1, vi 1), (0, .ref 236)]) (nx := 236) (r1 := 0) (r2 := 0) (r3 := 0) rfl rfl ?_
                                        refine wi_aload_n (i := 0) (x := 236) (nx := 237) (r1 := 0) (r2 := 0) (r3 := 0) rfl rfl ?_
                                        have b41 := gi_b (lo := 0) (hi := 4) g 236 6 rfl
                                        refine wr_gi0 (k0 := 236) (x := h 236 6) (nx := 240) (r1 := 11) (r2 := 6) (r3 := 0) rfl rfl (by decide) rfl ⟨rfl, rfl⟩ rfl rfl ?_
                                        refine wi_iconst (n := 1) (nx := 241) (r1 := 0) (r2 := 0) (r3 := 0) rfl ?_
                                        refine wi_icmp (cd := .ne) (nx := 244) (r1 := 252) (r2 := 0) (r3 := 0) rfl (by omega) (by omega) (fun (q42 : (h 236 6) ≠ 1) => ?_) (fun (q42 : ¬ ((h 236 6) ≠ 1)) => ?_)
                                        ·
                                          refine wi_iconst (n := 0) (nx := 253) (r1 := 0) (r2 := 0) (r3 := 0) rfl ?_
                                          refine wi_zreturn (nx := 254) (r1 := 0) (r2 := 0) (r3 := 0) rfl rfl (by omega) ?_
                                          exact k 0 (by omega)
                                        ·
                                          refine wi_iload_n (i := 1) (e := 1) (nx := 245) (r1 := 0) (r2 := 0) (r3 := 0) rfl rfl ?_
                                          refine wi_if (cd := .ne) (nx := 248) (r1 := 252) (r2 := 0) (r3 := 0) rfl (by omega) (fun (q43 : 1 ≠ 0) => ?_) (fun (q43 : ¬ (1 ≠ 0)) => by exfalso; omega)
                                          refine wi_iconst (n := 0) (nx := 253) (r1 := 0) (r2 := 0) (r3 := 0) rfl ?_
                                          refine wi_zreturn (nx := 254) (r1 := 0) (r2 := 0) (r3 := 0) rfl rfl (by omega) ?_
                                          exact k 0 (by omega)
                                      ·
                                        refine wi_aload_n (i := 0) (x := 236) (nx := 220) (r1 := 0) (r2 := 0) (r3 := 0) rfl rfl ?_
                                        refine wr_gi1 (k0 := 236) (x := h 236 12) (nx := 223) (r1 := 11) (r2 := 12) (r3 := 0) rfl rfl (by decide) rfl ⟨rfl, rfl⟩ rfl rfl ?_
                                        refine wi_ldc2_w (e := 609752116) (nx := 226) (r1 := 609752116) (r2 := 0) (r3 := 0) rfl (by decide) ?_
                                        refine wi_lcmp (a := h 236 12) (e := 609752116) (nx := 227) (r1 := 0) (r2 := 0) (r3 := 0) rfl (by omega) (by omega) (fun r41 (fr41 : (r41 = -1 ∧ (h 236 12) < 609752116) ∨ (r41 = 0 ∧ (h 236 12) = 609752116) ∨ (r41 = 1 ∧ 609752116 < (h 236 12))) => ?_)
                                        refine wi_if (cd := .ne) (nx := 230) (r1 := 234) (r2 := 0) (r3 := 0) rfl (by omega) (fun (q42 : r41 ≠ 0) => ?_) (fun (q42 : ¬ (r41 ≠ 0)) => ?_)
                                        ·
                                          refine wi_iconst (n := 0) (nx := 235) (r1 := 0) (r2 := 0) (r3 := 0) rfl ?_
                                          refine wi_istore_n (i := 1) (e := 0) (lo2 := [(1, vi 0), (0, .ref 236)]) (nx := 236) (r1 := 0) (r2 := 0) (r3 := 0) rfl rfl ?_
                                          refine wi_aload_n (i := 0) (x := 236) (nx := 237) (r1 := 0) (r2 := 0) (r3 := 0) rfl rfl ?_
                                          have b43 := gi_b (lo := 0) (hi := 4) g 236 6 rfl
                                          refine wr_gi0 (k0 := 236) (x := h 236 6) (nx := 240) (r1 := 11) (r2 := 6) (r3 := 0) rfl rfl (by decide) rfl ⟨rfl, rfl⟩ rfl rfl ?_
                                          refine wi_iconst (n := 1) (nx := 241) (r1 := 0) (r2 := 0) (r3 := 0) rfl ?_
                                          refine wi_icmp (cd := .ne) (nx := 244) (r1 := 252) (r2 := 0) (r3 := 0) rfl (by omega) (by omega) (fun (q44 : (h 236 6) ≠ 1) => ?_) (fun (q44 : ¬ ((h 236 6) ≠ 1)) => ?_)
                                          ·
                                            refine wi_iconst (n := 0) (nx := 253) (r1 := 0) (r2 := 0) (r3 := 0) rfl ?_
                                            refine wi_zreturn (nx := 254) (r1 := 0) (r2 := 0) (r3 := 0) rfl rfl (by omega) ?_
                                            exact k 0 (by omega)
                                          ·
                                            refine wi_iload_n (i := 1) (e := 0) (nx := 245) (r1 := 0) (r2 := 0) (r3 := 0) rfl rfl ?_
                                            refine wi_if (cd := .ne) (nx := 248) (r1 := 252) (r2 := 0) (r3 := 0) rfl (by omega) (fun (q45 : 0 ≠ 0) => by exfalso; omega) (fun (q45 : ¬ (0 ≠ 0)) => ?_)
                                            refine wi_iconst (n := 1) (nx := 249) (r1 := 0) (r2 := 0) (r3 := 0) rfl ?_
                                            refine wi_goto (nx := 252) (r1 := 253) (r2 := 0) (r3 := 0) rfl ?_
                                            refine wi_zreturn (nx := 254) (r1 := 0) (r2 := 0) (r3 := 0) rfl rfl (by omega) ?_
                                            exact k 1 (by omega)
                                        ·
                                          refine wi_iconst (n := 1) (nx := 231) (r1 := 0) (r2 := 0) (r3 := 0) rfl ?_
                                          refine wi_goto (nx := 234) (r1 := 235) (r2 := 0) (r3 := 0) rfl ?_
                                          refine wi_istore_n (i := 1) (e := 1) (lo2 := [(1, vi 1), (0, .ref 236)]) (nx := 236) (r1 := 0) (r2 := 0) (r3 := 0) rfl rfl ?_
                                          refine wi_aload_n (i := 0) (x := 236) (nx := 237) (r1 := 0) (r2 := 0) (r3 := 0) rfl rfl ?_
                                          have b43 := gi_b (lo := 0) (hi := 4) g 236 6 rfl
                                          refine wr_gi0 (k0 := 236) (x := h 236 6) (nx := 240) (r1 := 11) (r2 := 6) (r3 := 0) rfl rfl (by decide) rfl ⟨rfl, rfl⟩ rfl rfl ?_
                                          refine wi_iconst (n := 1) (nx := 241) (r1 := 0) (r2 := 0) (r3 := 0) rfl ?_
                                          refine wi_icmp (cd := .ne) (nx := 244) (r1 := 252) (r2 := 0) (r3 := 0) rfl (by omega) (by omega) (fun (q44 : (h 236 6) ≠ 1) => ?_) (fun (q44 : ¬ ((h 236 6) ≠ 1)) => ?_)
                                          ·
                                            refine wi_iconst (n := 0) (nx := 253) (r1 := 0) (r2 := 0) (r3 := 0) rfl ?_
                                            refine wi_zreturn (nx := 254) (r1 := 0) (r2 := 0) (r3 := 0) rfl rfl (by omega) ?_
                                            exact k 0 (by omega)
                                          ·
                                            refine wi_iload_n (i := 1) (e := 1) (nx := 245) (r1 := 0) (r2 := 0) (r3 := 0) rfl rfl ?_
                                            refine wi_if (cd := .ne) (nx := 248) (r1 := 252) (r2 := 0) (r3 := 0) rfl (by omega) (fun (q45 : 1 ≠ 0) => ?_) (fun (q45 : ¬ (1 ≠ 0)) => by exfalso; omega)
                                            refine wi_iconst (n := 0) (nx := 253) (r1 := 0) (r2 := 0) (r3 := 0) rfl ?_
                                            refine wi_zreturn (nx := 254) (r1 := 0) (r2 := 0) (r3 := 0) rfl rfl (by omega) ?_
                                            exact k 0 (by omega)
                    ·
                      refine wi_iconst (n := 1) (nx := 111) (r1 := 0) (r2 := 0) (r3 := 0) rfl ?_
                      refine wi_goto (nx := 114) (r1 := 115) (r2 := 0) (r3 := 0) rfl ?_
                      refine wi_istore_n (i := 1) (e := 1) (lo2 := [(1, vi 1), (0, .ref 236)]) (nx := 116) (r1 := 0) (r2 := 0) (r3 := 0) rfl rfl ?_
                      refine wi_iload_n (i := 1) (e := 1) (nx := 117) (r1 := 0) (r2 := 0) (r3 := 0) rfl rfl ?_
                      refine wi_if (cd := .ne) (nx := 120) (r1 := 230) (r2 := 0) (r3 := 0) rfl (by omega) (fun (q22 : 1 ≠ 0) => ?_) (fun (q22 : ¬ (1 ≠ 0)) => by exfalso; omega)
                      refine wi_iconst (n := 1) (nx := 231) (r1 := 0) (r2 := 0) (r3 := 0) rfl ?_
                      refine wi_goto (nx := 234) (r1 := 235) (r2 := 0) (r3 := 0) rfl ?_
                      refine wi_istore_n (i := 1) (e := 1) (lo2 := [(1, vi 1), (0, .ref 236)]) (nx := 236) (r1 := 0) (r2 := 0) (r3 := 0) rfl rfl ?_
                      refine wi_aload_n (i := 0) (x := 236) (nx := 237) (r1 := 0) (r2 := 0) (r3 := 0) rfl rfl ?_
                      have b23 := gi_b (lo := 0) (hi := 4) g 236 6 rfl
                      refine wr_gi0 (k0 := 236) (x := h 236 6) (nx := 240) (r1 := 11) (r2 := 6) (r3 := 0) rfl rfl (by decide) rfl ⟨rfl, rfl⟩ rfl rfl ?_
                      refine wi_iconst (n := 1) (nx := 241) (r1 := 0) (r2 := 0) (r3 := 0) rfl ?_
                      refine wi_icmp (cd := .ne) (nx := 244) (r1 := 252) (r2 := 0) (r3 := 0) rfl (by omega) (by omega) (fun (q24 : (h 236 6) ≠ 1) => ?_) (fun (q24 : ¬ ((h 236 6) ≠ 1)) => ?_)
                      ·
                        refine wi_iconst (n := 0) (nx := 253) (r1 := 0) (r2 := 0) (r3 := 0) rfl ?_
                        refine wi_zreturn (nx := 254) (r1 := 0) (r2 := 0) (r3 := 0) rfl rfl (by omega) ?_
                        exact k 0 (by omega)
                      ·
                        refine wi_iload_n (i := 1) (e := 1) (nx := 245) (r1 := 0) (r2 := 0) (r3 := 0) rfl rfl ?_
                        refine wi_if (cd := .ne) (nx := 248) (r1 := 252) (r2 := 0) (r3 := 0) rfl (by omega) (fun (q25 : 1 ≠ 0) => ?_) (fun (q25 : ¬ (1 ≠ 0)) => by exfalso; omega)
                        refine wi_iconst (n := 0) (nx := 253) (r1 := 0) (r2 := 0) (r3 := 0) rfl ?_
                        refine wi_zreturn (nx := 254) (r1 := 0) (r2 := 0) (r3 := 0) rfl rfl (by omega) ?_
                        exact k 0 (by omega)
-- method 225: Model.nameHere()V
set_option maxRecDepth 100000 in
set_option maxHeartbeats 100000000 in
theorem ct_225_236 {L : Nat} {xs : Nat → Int32} {d b c : Nat} {h : hp} {cr : Nat → Nat → Option Nat} {Q : hp_Q} (hcr : CR cr)  (g : GI h)    (k : ∀ (h2 : hp) , GI h2 → FR [(236, 236, some (8, 8)), (236, 236, some (9, 9))] h h2 → (1 ≤ h2 236 8 ∨ h 236 8 = 0) → Q (.inl none) (hp_w h2 cr) b c) : wp (md_xa (L, xs)) (d + 1) 225 (0, [(0, .ref 236)], [], hp_w h cr, b, c) Q := by
  have F0 : FR [(236, 236, some (8, 8)), (236, 236, some (9, 9))] h h := FR.refl
  refine wi_aload_n (i := 0) (x := 236) (nx := 1) (r1 := 0) (r2 := 0) (r3 := 0) rfl rfl ?_
  refine wr_V (k0 := 236) (rest := []) (as := [.ref 236]) (nx := 4) (r1 := 219) (r2 := 0) (r3 := 11) rfl rfl rfl (of_decide_eq_true rfl) rfl rfl (by decide) rfl rfl (of_decide_eq_true rfl) (of_decide_eq_true rfl) ?_
  refine wi_aload_n (i := 0) (x := 236) (nx := 1) (r1 := 0) (r2 := 0) (r3 := 0) rfl rfl ?_
  have b1 := gi_b (lo := 0) (hi := 5) g 236 8 rfl
  refine wr_gi0 (k0 := 236) (x := h 236 8) (nx := 4) (r1 := 11) (r2 := 8) (r3 := 0) rfl rfl (by decide) rfl ⟨rfl, rfl⟩ rfl rfl ?_
  refine wi_if (cd := .ne) (nx := 7) (r1 := 11) (r2 := 0) (r3 := 0) rfl (by omega) (fun (q2 : (h 236 8) ≠ 0) => ?_) (fun (q2 : ¬ ((h 236 8) ≠ 0)) => ?_)
  ·
    refine wi_iconst (n := 0) (nx := 12) (r1 := 0) (r2 := 0) (r3 := 0) rfl ?_
    refine wi_zreturn (nx := 13) (r1 := 0) (r2 := 0) (r3 := 0) rfl rfl (by omega) ?_
    refine wk_i ?_
    refine wi_if (cd := .eq) (nx := 7) (r1 := 19) (r2 := 0) (r3 := 0) rfl (by omega) (fun (q3 : 0 = 0) => ?_) (fun (q3 : ¬ (0 = 0)) => by exfalso; omega)
    refine wi_return (nx := 20) (r1 := 0) (r2 := 0) (r3 := 0) rfl rfl ?_
    exact k h g F0 (show 1 ≤ (h 236 8) ∨ (h 236 8) = 0 by omega)
  ·
    refine wi_iconst (n := 1) (nx := 8) (r1 := 0) (r2 := 0) (r3 := 0) rfl ?_
    refine wi_goto (nx := 11) (r1 := 12) (r2 := 0) (r3 := 0) rfl ?_
    refine wi_zreturn (nx := 13) (r1 := 0) (r2 := 0) (r3 := 0) rfl rfl (by omega) ?_
    refine wk_i ?_
    refine wi_if (cd := .eq) (nx := 7) (r1 := 19) (r2 := 0) (r3 := 0) rfl (by omega) (fun (q3 : 1 = 0) => by exfalso; omega) (fun (q3 : ¬ (1 = 0)) => ?_)
    refine wi_aload_n (i := 0) (x := 236) (nx := 8) (r1 := 0) (r2 := 0) (r3 := 0) rfl rfl ?_
    refine wr_V (k0 := 236) (rest := []) (as := [.ref 236]) (nx := 11) (r1 := 226) (r2 := 0) (r3 := 11) rfl rfl rfl (of_decide_eq_true rfl) rfl rfl (by decide) rfl rfl (of_decide_eq_true rfl) (of_decide_eq_true rfl) ?_
    refine ct_226_236 hcr  g    (fun z5  (fz5 : 0 ≤ z5 ∧ z5 ≤ 1) => ?_)
    refine wk_i ?_
    refine wi_if (cd := .ne) (nx := 14) (r1 := 19) (r2 := 0) (r3 := 0) rfl (by omega) (fun (q6 : z5 ≠ 0) => ?_) (fun (q6 : ¬ (z5 ≠ 0)) => ?_)
    ·
      refine wi_return (nx := 20) (r1 := 0) (r2 := 0) (r3 := 0) rfl rfl ?_
      exact k h g F0 (show 1 ≤ (h 236 8) ∨ (h 236 8) = 0 by omega)
    ·
      refine wi_aload_n (i := 0) (x := 236) (nx := 15) (r1 := 0) (r2 := 0) (r3 := 0) rfl rfl ?_
      refine wi_iconst (n := 1) (nx := 16) (r1 := 0) (r2 := 0) (r3 := 0) rfl ?_
      refine wr_V (k0 := 236) (rest := []) (as := [.ref 236, vi 1]) (nx := 19) (r1 := 224) (r2 := 1) (r3 := 11) rfl rfl rfl (of_decide_eq_true rfl) rfl rfl (by decide) rfl rfl (of_decide_eq_true rfl) (of_decide_eq_true rfl) ?_
      refine ct_224_236 hcr  g 1 (by omega)  (fun h7 g7 u7 (p7_0 : 1 ≤ (h7 236 8)) => ?_)
      have F8 := F0.then (by decide +kernel) u7
      have b9 := gi_b (lo := 0) (hi := 5) g7 236 8 rfl
      refine wk_n ?_
      refine wi_return (nx := 20) (r1 := 0) (r2 := 0) (r3 := 0) rfl rfl ?_
      exact k h7 g7 F8 (show 1 ≤ (h7 236 8) ∨ (h 236 8) = 0 by omega)
-- method 227: Model.named()I
set_option maxRecDepth 100000 in
set_option maxHeartbeats 100000000 in
theorem ct_227_236 {L : Nat} {xs : Nat → Int32} {d b c : Nat} {h : hp} {cr : Nat → Nat → Option Nat} {Q : hp_Q} (hcr : CR cr)  (g : GI h)    (k : ∀ (z0 : Int), (0 ≤ z0 ∧ z0 ≤ 5) → (z0 ≤ h 239 0) → Q (.inl (some (vi z0))) (hp_w h cr) b c) : wp (md_xa (L, xs)) d 227 (0, [(0, .ref 236)], [], hp_w h cr, b, c) Q := by
  have F0 : FR [] h h := FR.refl
  refine wi_iconst (n := 0) (nx := 1) (r1 := 0) (r2 := 0) (r3 := 0) rfl ?_
  refine wi_istore_n (i := 1) (e := 0) (lo2 := [(1, vi 0), (0, .ref 236)]) (nx := 2) (r1 := 0) (r2 := 0) (r3 := 0) rfl rfl ?_
  have b3 := gi_b (lo := 0) (hi := 5) g 239 0 rfl
  refine wp.lo (lo := [(0, .ref 236), (1, vi 0)]) ⟨rfl, rfl, trivial⟩ rfl ?_
  refine wl_1 (fun x1 h2 => h = h2 ∧ ((0 ≤ x1 ∧ x1 ≤ 5) ∧ (x1 ≤ (h 239 0)))) (fun x1 h2 => ((5 : Int) + 1 - x1).toNat) (fun x1 h2 => (2, [(0, .ref 236), (1, vi x1)], [], hp_w h2 cr, b, c)) ?_ 0 h ⟨rfl, (show (0 ≤ 0 ∧ 0 ≤ 5) ∧ (0 ≤ (h 239 0)) by omega)⟩
  intro x1 h2 ⟨e2, f2⟩ I2
  subst e2
  refine wi_iload_n (i := 1) (e := x1) (nx := 3) (r1 := 0) (r2 := 0) (r3 := 0) rfl rfl ?_
  refine wi_aload_n (i := 0) (x := 236) (nx := 4) (r1 := 0) (r2 := 0) (r3 := 0) rfl rfl ?_
  refine wr_gr (k0 := 236) (x := 239) (nx := 7) (r1 := 11) (r2 := 14) (r3 := 0) rfl rfl (by decide) rfl ⟨rfl, rfl⟩ rfl ?_
  refine wi_iconst (n := 0) (nx := 8) (r1 := 0) (r2 := 0) (r3 := 0) rfl ?_
  refine wr_ia (k0 := 239) (a := 0) (f := 0) (x := h 239 0) (nx := 9) (r1 := 0) (r2 := 0) (r3 := 0) rfl (by decide) rfl (by omega) (by omega) (by decide) rfl ?_
  refine wi_icmp (cd := .ge) (nx := 12) (r1 := 32) (r2 := 0) (r3 := 0) rfl (by omega) (by omega) (fun (q5 : (h 239 0) ≤ x1) => ?_) (fun (q5 : ¬ ((h 239 0) ≤ x1)) => ?_)
  ·
    refine wi_iload_n (i := 1) (e := x1) (nx := 33) (r1 := 0) (r2 := 0) (r3 := 0) rfl rfl ?_
    refine wi_ireturn (nx := 34) (r1 := 0) (r2 := 0) (r3 := 0) rfl rfl ?_
    exact k x1 (by omega) (show x1 ≤ (h 239 0) by omega)
  ·
    refine wi_aload_n (i := 0) (x := 236) (nx := 13) (r1 := 0) (r2 := 0) (r3 := 0) rfl rfl ?_
    refine wr_gr (k0 := 236) (x := 244) (nx := 16) (r1 := 11) (r2 := 19) (r3 := 0) rfl rfl (by decide) rfl ⟨rfl, rfl⟩ rfl ?_
    refine wi_iload_n (i := 1) (e := x1) (nx := 17) (r1 := 0) (r2 := 0) (r3 := 0) rfl rfl ?_
    obtain ⟨i6, ei6⟩ : ∃ q : Nat, x1 = (q : Int) := ⟨(x1).toNat, by omega⟩
    have b7 := gi_b (lo := -9223372036854775808) (hi := 9223372036854775807) g 244 i6 rfl
    refine wr_la (k0 := 244) (a := x1) (f := i6) (x := h 244 i6) (nx := 18) (r1 := 0) (r2 := 0) (r3 := 0) rfl (by decide) rfl (by omega) (by omega) (by decide) rfl ?_
    refine wi_aload_n (i := 0) (x := 236) (nx := 19) (r1 := 0) (r2 := 0) (r3 := 0) rfl rfl ?_
    have b8 := gi_b (lo := -9223372036854775808) (hi := 9223372036854775807) g 236 12 rfl
    refine wr_gi1 (k0 := 236) (x := h 236 12) (nx := 22) (r1 := 11) (r2 := 12) (r3 := 0) rfl rfl (by decide) rfl ⟨rfl, rfl⟩ rfl rfl ?_
    refine wi_lcmp (a := h 244 i6) (e := h 236 12) (nx := 23) (r1 := 0) (r2 := 0) (r3 := 0) rfl (by omega) (by omega) (fun r9 (fr9 : (r9 = -1 ∧ (h 244 i6) < (h 236 12)) ∨ (r9 = 0 ∧ (h 244 i6) = (h 236 12)) ∨ (r9 = 1 ∧ (h 236 12) < (h 244 i6))) => ?_)
    refine wi_if (cd := .eq) (nx := 26) (r1 := 32) (r2 := 0) (r3 := 0) rfl (by omega) (fun (q10 : r9 = 0) => ?_) (fun (q10 : ¬ (r9 = 0)) => ?_)
    ·
      refine wi_iload_n (i := 1) (e := x1) (nx := 33) (r1 := 0) (r2 := 0) (r3 := 0) rfl rfl ?_
      refine wi_ireturn (nx := 34) (r1 := 0) (r2 := 0) (r3 := 0) rfl rfl ?_
      exact k x1 (by omega) (show x1 ≤ (h 239 0) by omega)
    ·
      refine wr_iinc (i := 1) (n := 1) (v := x1) (fun e11 => [(1, vi e11), (0, .ref 236)]) (nx := 29) (r1 := 0) (r2 := 0) (r3 := 0) rfl rfl (fun _ => rfl) (fun e11 (fe11 : e11 = x1 + 1) => ?_)
      refine wi_goto (nx := 32) (r1 := 2) (r2 := 0) (r3 := 0) rfl ?_
      refine wp.lo (lo := [(0, .ref 236), (1, vi e11)]) ⟨rfl, rfl, trivial⟩ rfl ?_
      exact I2 e11 h ⟨rfl, (show (0 ≤ e11 ∧ e11 ≤ 5) ∧ (e11 ≤ (h 239 0)) by omega)⟩ (show ((5 : Int) + 1 - e11).toNat < ((5 : Int) + 1 - x1).toNat by omega)
-- method 233: Model.readsCar()V
set_option maxRecDepth 100000 in
set_option maxHeartbeats 100000000 in
theorem ct_233_236 {L : Nat} {xs : Nat → Int32} {d b c : Nat} {h : hp} {cr : Nat → Nat → Option Nat} {Q : hp_Q} (hcr : CR cr)  (g : GI h)   (pp0 : h 236 4 ≤ h 236 3) (pp1 : h 236 8 = 0) (pp2 : h 239 5 ≤ 9) (pp3 : 1 ≤ h 239 5) (pp4 : h 239 7 ≤ 3) (pp5 : h 239 15 ≤ 6) (pp6 : h 239 16 ≤ 6) (pp7 : h 239 17 ≤ 6) (pp8 : h 239 18 ≤ 6) (k : ∀ (h2 : hp) , GI h2 → FR [(236, 236, some (4, 4)), (236, 236, some (5, 5)), (236, 236, some (6, 6)), (236, 236, some (7, 7)), (236, 236, some (8, 8)), (236, 236, some (9, 9)), (236, 236, some (12, 12)), (239, 239, some (2, 2)), (239, 239, some (19, 30)), (239, 239, some (31, 42)), (239, 239, some (43, 54))] h h2 → (h 236 4 ≤ h2 236 4) → (h2 236 4 ≤ h 236 3) → (1 ≤ h2 236 8 ∨ (h2 239 5 ≤ 9 ∧ 1 ≤ h2 239 5 ∧ h2 239 7 ≤ 3 ∧ h2 239 15 ≤ 6 ∧ h2 239 16 ≤ 6 ∧ h2 239 17 ≤ 6 ∧ h2 239 18 ≤ 6)) → Q (.inl none) (hp_w h2 cr) b c) : wp (md_xa (L, xs)) (d + 5) 233 (0, [(0, .ref 236)], [], hp_w h cr, b, c) Q := by
  have F0 : FR [(236, 236, some (4, 4)), (236, 236, some (5, 5)), (236, 236, some (6, 6)), (236, 236, some (7, 7)), (236, 236, some (8, 8)), (236, 236, some (9, 9)), (236, 236, some (12, 12)), (239, 239, some (2, 2)), (239, 239, some (19, 30)), (239, 239, some (31, 42)), (239, 239, some (43, 54))] h h := FR.refl
  have b1 := gi_b (lo := 0) (hi := 800) g 236 4 rfl
  have b2 := gi_b (lo := 0) (hi := 800) g 236 3 rfl
  have b3 := gi_b (lo := 0) (hi := 5) g 236 8 rfl
  have b4 := gi_b (lo := 0) (hi := 999) g 239 5 rfl
  have b5 := gi_b (lo := 0) (hi := 999) g 239 7 rfl
  have b6 := gi_b (lo := 0) (hi := 999) g 239 15 rfl
  have b7 := gi_b (lo := 0) (hi := 999) g 239 16 rfl
  have b8 := gi_b (lo := 0) (hi := 999) g 239 17 rfl
  have b9 := gi_b (lo := 0) (hi := 999) g 239 18 rfl
  refine wi_aload_n (i := 0) (x := 236) (nx := 1) (r1 := 0) (r2 := 0) (r3 := 0) rfl rfl ?_
  refine wr_gr (k0 := 236) (x := 239) (nx := 4) (r1 := 11) (r2 := 14) (r3 := 0) rfl rfl (by decide) rfl ⟨rfl, rfl⟩ rfl ?_
  refine wi_iconst (n := 2) (nx := 5) (r1 := 0) (r2 := 0) (r3 := 0) rfl ?_
  have b10 := gi_b (lo := 0) (hi := 12) g 239 2 rfl
  refine wr_ia (k0 := 239) (a := 2) (f := 2) (x := h 239 2) (nx := 6) (r1 := 0) (r2 := 0) (r3 := 0) rfl (by decide) rfl (by omega) (by omega) (by decide) rfl ?_
  refine wi_istore_n (i := 1) (e := h 239 2) (lo2 := [(1, vi (h 239 2)), (0, .ref 236)]) (nx := 7) (r1 := 0) (r2 := 0) (r3 := 0) rfl rfl ?_
  refine wi_aload_n (i := 0) (x := 236) (nx := 8) (r1 := 0) (r2 := 0) (r3 := 0) rfl rfl ?_
  refine wi_iconst (n := 2) (nx := 9) (r1 := 0) (r2 := 0) (r3 := 0) rfl ?_
  refine wi_bipush (n := 12) (nx := 11) (r1 := 0) (r2 := 0) (r3 := 0) rfl (by decide) ?_
  refine wr_V (k0 := 236) (rest := []) (as := [.ref 236, vi 2, vi 12]) (nx := 14) (r1 := 223) (r2 := 2) (r3 := 11) rfl rfl rfl (of_decide_eq_true rfl) rfl rfl (by decide) rfl rfl (of_decide_eq_true rfl) (of_decide_eq_true rfl) ?_
  refine wi_aload_n (i := 0) (x := 236) (nx := 1) (r1 := 0) (r2 := 0) (r3 := 0) rfl rfl ?_
  refine wr_gr (k0 := 236) (x := 239) (nx := 4) (r1 := 11) (r2 := 14) (r3 := 0) rfl rfl (by decide) rfl ⟨rfl, rfl⟩ rfl ?_
  refine wi_iload_n (i := 1) (e := 2) (nx := 5) (r1 := 0) (r2 := 0) (r3 := 0) rfl rfl ?_
  refine wr_ia (k0 := 239) (a := 2) (f := 2) (x := h 239 2) (nx := 6) (r1 := 0) (r2 := 0) (r3 := 0) rfl (by decide) rfl (by omega) (by omega) (by decide) rfl ?_
  refine wi_iload_n (i := 2) (e := 12) (nx := 7) (r1 := 0) (r2 := 0) (r3 := 0) rfl rfl ?_
  refine wi_icmp (cd := .ne) (nx := 10) (r1 := 15) (r2 := 0) (r3 := 0) rfl (by omega) (by omega) (fun (q11 : (h 239 2) ≠ 12) => ?_) (fun (q11 : ¬ ((h 239 2) ≠ 12)) => ?_)
  ·
    refine wi_aload_n (i := 0) (x := 236) (nx := 16) (r1 := 0) (r2 := 0) (r3 := 0) rfl rfl ?_
    refine wr_V (k0 := 236) (rest := []) (as := [.ref 236]) (nx := 19) (r1 := 219) (r2 := 0) (r3 := 11) rfl rfl rfl (of_decide_eq_true rfl) rfl rfl (by decide) rfl rfl (of_decide_eq_true rfl) (of_decide_eq_true rfl) ?_
    refine wi_aload_n (i := 0) (x := 236) (nx := 1) (r1 := 0) (r2 := 0) (r3 := 0) rfl rfl ?_
    refine wr_gi0 (k0 := 236) (x := h 236 8) (nx := 4) (r1 := 11) (r2 := 8) (r3 := 0) rfl rfl (by decide) rfl ⟨rfl, rfl⟩ rfl rfl ?_
    refine wi_if (cd := .ne) (nx := 7) (r1 := 11) (r2 := 0) (r3 := 0) rfl (by omega) (fun (q12 : (h 236 8) ≠ 0) => by exfalso; omega) (fun (q12 : ¬ ((h 236 8) ≠ 0)) => ?_)
    refine wi_iconst (n := 1) (nx := 8) (r1 := 0) (r2 := 0) (r3 := 0) rfl ?_
    refine wi_goto (nx := 11) (r1 := 12) (r2 := 0) (r3 := 0) rfl ?_
    refine wi_zreturn (nx := 13) (r1 := 0) (r2 := 0) (r3 := 0) rfl rfl (by omega) ?_
    refine wk_i ?_
    refine wi_if (cd := .eq) (nx := 22) (r1 := 26) (r2 := 0) (r3 := 0) rfl (by omega) (fun (q13 : 1 = 0) => by exfalso; omega) (fun (q13 : ¬ (1 = 0)) => ?_)
    refine wi_aload_n (i := 0) (x := 236) (nx := 23) (r1 := 0) (r2 := 0) (r3 := 0) rfl rfl ?_
    refine wr_V (k0 := 236) (rest := []) (as := [.ref 236]) (nx := 26) (r1 := 215) (r2 := 0) (r3 := 11) rfl rfl rfl (of_decide_eq_true rfl) rfl rfl (by decide) rfl rfl (of_decide_eq_true rfl) (of_decide_eq_true rfl) ?_
    refine ct_215_236 hcr  g   (show (h 236 4) ≤ (h 236 3) by omega) (fun h14 g14 u14 (p14_0 : (h 236 4) ≤ (h14 236 4)) (p14_1 : (h14 236 4) ≤ (h 236 3)) (p14_2 : (h14 236 6) = 0 ∨ (h 236 4) + 1 ≤ (h14 236 4)) => ?_)
    have F15 := F0.then (by decide +kernel) u14
    have b16 := gi_b (lo := 0) (hi := 800) g14 236 4 rfl
    have b17 := gi_b (lo := 0) (hi := 4) g14 236 6 rfl
    refine wk_n ?_
    refine wi_aload_n (i := 0) (x := 236) (nx := 27) (r1 := 0) (r2 := 0) (r3 := 0) rfl rfl ?_
    refine wr_V (k0 := 236) (rest := []) (as := [.ref 236]) (nx := 30) (r1 := 219) (r2 := 0) (r3 := 11) rfl rfl rfl (of_decide_eq_true rfl) rfl rfl (by decide) rfl rfl (of_decide_eq_true rfl) (of_decide_eq_true rfl) ?_
    refine wi_aload_n (i := 0) (x := 236) (nx := 1) (r1 := 0) (r2 := 0) (r3 := 0) rfl rfl ?_
    refine wr_gi0 (k0 := 236) (x := h 236 8) (nx := 4) (r1 := 11) (r2 := 8) (r3 := 0) rfl rfl (by decide) rfl ⟨rfl, rfl⟩ rfl (u14 236 8 rfl) ?_
    refine wi_if (cd := .ne) (nx := 7) (r1 := 11) (r2 := 0) (r3 := 0) rfl (by omega) (fun (q18 : (h 236 8) ≠ 0) => by exfalso; omega) (fun (q18 : ¬ ((h 236 8) ≠ 0)) => ?_)
    refine wi_iconst (n := 1) (nx := 8) (r1 := 0) (r2 := 0) (r3 := 0) rfl ?_
    refine wi_goto (nx := 11) (r1 := 12) (r2 := 0) (r3 := 0) rfl ?_
    refine wi_zreturn (nx := 13) (r1 := 0) (r2 := 0) (r3 := 0) rfl rfl (by omega) ?_
    refine wk_i ?_
    refine wi_zreturn (nx := 31) (r1 := 0) (r2 := 0) (r3 := 0) rfl rfl (by omega) ?_
    refine wk_i ?_
    refine wi_if (cd := .ne) (nx := 17) (r1 := 18) (r2 := 0) (r3 := 0) rfl (by omega) (fun (q19 : 1 ≠ 0) => ?_) (fun (q19 : ¬ (1 ≠ 0)) => by exfalso; omega)
    refine wi_aload_n (i := 0) (x := 236) (nx := 19) (r1 := 0) (r2 := 0) (r3 := 0) rfl rfl ?_
    refine wr_V (k0 := 236) (rest := []) (as := [.ref 236]) (nx := 22) (r1 := 225) (r2 := 0) (r3 := 11) rfl rfl rfl (of_decide_eq_true rfl) rfl rfl (by decide) rfl rfl (of_decide_eq_true rfl) (of_decide_eq_true rfl) ?_
    refine ct_225_236 hcr  g14    (fun h20 g20 u20 (p20_0 : 1 ≤ (h20 236 8) ∨ (h14 236 8) = 0) => ?_)
    have F21 := F15.then (by decide +kernel) u20
    have e22 : h14 236 8 = h 236 8 := (u14 236 8 rfl)
    have b23 := gi_b (lo := 0) (hi := 5) g20 236 8 rfl
    refine wk_n ?_
    refine wi_aload_n (i := 0) (x := 236) (nx := 23) (r1 := 0) (r2 := 0) (r3 := 0) rfl rfl ?_
    refine wr_V (k0 := 236) (rest := []) (as := [.ref 236]) (nx := 26) (r1 := 227) (r2 := 0) (r3 := 11) rfl rfl rfl (of_decide_eq_true rfl) rfl rfl (by decide) rfl rfl (of_decide_eq_true rfl) (of_decide_eq_true rfl) ?_
    refine ct_227_236 hcr  g20    (fun z25  (fz25 : 0 ≤ z25 ∧ z25 ≤ 5) (p24_0 : z25 ≤ (h20 239 0)) => ?_)
    have b26 := gi_b (lo := 0) (hi := 5) g 239 0 rfl
    have e27 : h20 239 0 = h 239 0 := ((u20 239 0 rfl).trans (u14 239 0 rfl))
    refine wk_i ?_
    refine wi_istore_n (i := 2) (e := z25) (lo2 := [(2, vi z25), (1, vi (h 239 2)), (0, .ref 236)]) (nx := 27) (r1 := 0) (r2 := 0) (r3 := 0) rfl rfl ?_
    refine wi_aload_n (i := 0) (x := 236) (nx := 28) (r1 := 0) (r2 := 0) (r3 := 0) rfl rfl ?_
    refine wr_V (k0 := 236) (rest := []) (as := [.ref 236]) (nx := 31) (r1 := 219) (r2 := 0) (r3 := 11) rfl rfl rfl (of_decide_eq_true rfl) rfl rfl (by decide) rfl rfl (of_decide_eq_true rfl) (of_decide_eq_true rfl) ?_
    refine wi_aload_n (i := 0) (x := 236) (nx := 1) (r1 := 0) (r2 := 0) (r3 := 0) rfl rfl ?_
    refine wr_gi0 (k0 := 236) (x := h20 236 8) (nx := 4) (r1 := 11) (r2 := 8) (r3 := 0) rfl rfl (by decide) rfl ⟨rfl, rfl⟩ rfl rfl ?_
    refine wi_if (cd := .ne) (nx := 7) (r1 := 11) (r2 := 0) (r3 := 0) rfl (by omega) (fun (q28 : (h20 236 8) ≠ 0) => ?_) (fun (q28 : ¬ ((h20 236 8) ≠ 0)) => ?_)
    ·
      refine wi_iconst (n := 0) (nx := 12) (r1 := 0) (r2 := 0) (r3 := 0) rfl ?_
      refine wi_zreturn (nx := 13) (r1 := 0) (r2 := 0) (r3 := 0) rfl rfl (by omega) ?_
      refine wk_i ?_
      refine wi_if (cd := .eq) (nx := 34) (r1 := 49) (r2 := 0) (r3 := 0) rfl (by omega) (fun (q29 : 0 = 0) => ?_) (fun (q29 : ¬ (0 = 0)) => by exfalso; omega)
      refine wi_aload_n (i := 0) (x := 236) (nx := 50) (r1 := 0) (r2 := 0) (r3 := 0) rfl rfl ?_
      refine wr_V (k0 := 236) (rest := []) (as := [.ref 236]) (nx := 53) (r1 := 219) (r2 := 0) (r3 := 11) rfl rfl rfl (of_decide_eq_true rfl) rfl rfl (by decide) rfl rfl (of_decide_eq_true rfl) (of_decide_eq_true rfl) ?_
      refine wi_aload_n (i := 0) (x := 236) (nx := 1) (r1 := 0) (r2 := 0) (r3 := 0) rfl rfl ?_
      refine wr_gi0 (k0 := 236) (x := h20 236 8) (nx := 4) (r1 := 11) (r2 := 8) (r3 := 0) rfl rfl (by decide) rfl ⟨rfl, rfl⟩ rfl rfl ?_
      refine wi_if (cd := .ne) (nx := 7) (r1 := 11) (r2 := 0) (r3 := 0) rfl (by omega) (fun (q30 : (h20 236 8) ≠ 0) => ?_) (fun (q30 : ¬ ((h20 236 8) ≠ 0)) => by exfalso; omega)
      refine wi_iconst (n := 0) (nx := 12) (r1 := 0) (r2 := 0) (r3 := 0) rfl ?_
      refine wi_zreturn (nx := 13) (r1 := 0) (r2 := 0) (r3 := 0) rfl rfl (by omega) ?_
      refine wk_i ?_
      refine wi_if (cd := .ne) (nx := 56) (r1 := 57) (r2 := 0) (r3 := 0) rfl (by omega) (fun (q31 : 0 ≠ 0) => by exfalso; omega) (fun (q31 : ¬ (0 ≠ 0)) => ?_)
      refine wi_return (nx := 57) (r1 := 0) (r2 := 0) (r3 := 0) rfl rfl ?_
      have e32 : h20 236 4 = h14 236 4 := (u20 236 4 rfl)
      have e33 : h20 239 5 = h 239 5 := ((u20 239 5 rfl).trans (u14 239 5 rfl))
      have e34 : h20 239 7 = h 239 7 := ((u20 239 7 rfl).trans (u14 239 7 rfl))
      have e35 : h20 239 15 = h 239 15 := ((u20 239 15 rfl).trans (u14 239 15 rfl))
      have e36 : h20 239 16 = h 239 16 := ((u20 239 16 rfl).trans (u14 239 16 rfl))
      have e37 : h20 239 17 = h 239 17 := ((u20 239 17 rfl).trans (u14 239 17 rfl))
      have e38 : h20 239 18 = h 239 18 := ((u20 239 18 rfl).trans (u14 239 18 rfl))
      exact k h20 g20 F21 (show (h 236 4) ≤ (h20 236 4) by omega) (show (h20 236 4) ≤ (h 236 3) by omega) (show 1 ≤ (h20 236 8) ∨ ((h20 239 5) ≤ 9 ∧ 1 ≤ (h20 239 5) ∧ (h20 239 7) ≤ 3 ∧ (h20 239 15) ≤ 6 ∧ (h20 239 16) ≤ 6 ∧ (h20 239 17) ≤ 6 ∧ (h20 239 18) ≤ 6) by omega)
    ·
      refine wi_iconst (n := 1) (nx := 8) (r1 := 0) (r2 := 0) (r3 := 0) rfl ?_
      refine wi_goto (nx := 11) (r1 := 12) (r2 := 0) (r3 := 0) rfl ?_
      refine wi_zreturn (nx := 13) (r1 := 0) (r2 := 0) (r3 := 0) rfl rfl (by omega) ?_
      refine wk_i ?_
      refine wi_if (cd := .eq) (nx := 34) (r1 := 49) (r2 := 0) (r3 := 0) rfl (by omega) (fun (q29 : 1 = 0) => by exfalso; omega) (fun (q29 : ¬ (1 = 0)) => ?_)
      refine wi_iload_n (i := 2) (e := z25) (nx := 35) (r1 := 0) (r2 := 0) (r3 := 0) rfl rfl ?_
      refine wi_aload_n (i := 0) (x := 236) (nx := 36) (r1 := 0) (r2 := 0) (r3 := 0) rfl rfl ?_
      refine wr_gr (k0 := 236) (x := 239) (nx := 39) (r1 := 11) (r2 := 14) (r3 := 0) rfl rfl (by decide) rfl ⟨rfl, rfl⟩ rfl ?_
      refine wi_iconst (n := 0) (nx := 40) (r1 := 0) (r2 := 0) (r3 := 0) rfl ?_
      refine wr_ia (k0 := 239) (a := 0) (f := 0) (x := h 239 0) (nx := 41) (r1 := 0) (r2 := 0) (r3 := 0) rfl (by decide) rfl (by omega) (by omega) (by decide) ((u20 239 0 rfl).trans (u14 239 0 rfl)) ?_
      refine wi_icmp (cd := .ne) (nx := 44) (r1 := 49) (r2 := 0) (r3 := 0) rfl (by omega) (by omega) (fun (q30 : z25 ≠ (h 239 0)) => ?_) (fun (q30 : ¬ (z25 ≠ (h 239 0))) => ?_)
      ·
        refine wi_aload_n (i := 0) (x := 236) (nx := 50) (r1 := 0) (r2 := 0) (r3 := 0) rfl rfl ?_
        refine wr_V (k0 := 236) (rest := []) (as := [.ref 236]) (nx := 53) (r1 := 219) (r2 := 0) (r3 := 11) rfl rfl rfl (of_decide_eq_true rfl) rfl rfl (by decide) rfl rfl (of_decide_eq_true rfl) (of_decide_eq_true rfl) ?_
        refine wi_aload_n (i := 0) (x := 236) (nx := 1) (r1 := 0) (r2 := 0) (r3 := 0) rfl rfl ?_
        refine wr_gi0 (k0 := 236) (x := h20 236 8) (nx := 4) (r1 := 11) (r2 := 8) (r3 := 0) rfl rfl (by decide) rfl ⟨rfl, rfl⟩ rfl rfl ?_
        refine wi_if (cd := .ne) (nx := 7) (r1 := 11) (r2 := 0) (r3 := 0) rfl (by omega) (fun (q31 : (h20 236 8) ≠ 0) => by exfalso; omega) (fun (q31 : ¬ ((h20 236 8) ≠ 0)) => ?_)
        refine wi_iconst (n := 1) (nx := 8) (r1 := 0) (r2 := 0) (r3 := 0) rfl ?_
        refine wi_goto (nx := 11) (r1 := 12) (r2 := 0) (r3 := 0) rfl ?_
        refine wi_zreturn (nx := 13) (r1 := 0) (r2 := 0) (r3 := 0) rfl rfl (by omega) ?_
        refine wk_i ?_
        refine wi_if (cd := .ne) (nx := 56) (r1 := 57) (r2 := 0) (r3 := 0) rfl (by omega) (fun (q32 : 1 ≠ 0) => ?_) (fun (q32 : ¬ (1 ≠ 0)) => by exfalso; omega)
        refine wi_aload_n (i := 0) (x := 236) (nx := 58) (r1 := 0) (r2 := 0) (r3 := 0) rfl rfl ?_
        refine wr_V (k0 := 236) (rest := []) (as := [.ref 236]) (nx := 61) (r1 := 215) (r2 := 0) (r3 := 11) rfl rfl rfl (of_decide_eq_true rfl) rfl rfl (by decide) rfl rfl (of_decide_eq_true rfl) (of_decide_eq_true rfl) ?_
        have e34 : h20 236 4 = h14 236 4 := (u20 236 4 rfl)
        have e35 : h20 236 3 = h 236 3 := ((u20 236 3 rfl).trans (u14 236 3 rfl))
        refine ct_215_236 hcr  g20   (show (h20 236 4) ≤ (h20 236 3) by omega) (fun h33 g33 u33 (p33_0 : (h20 236 4) ≤ (h33 236 4)) (p33_1 : (h33 236 4) ≤ (h20 236 3)) (p33_2 : (h33 236 6) = 0 ∨ (h20 236 4) + 1 ≤ (h33 236 4)) => ?_)
        have F36 := F21.then (by decide +kernel) u33
        have b37 := gi_b (lo := 0) (hi := 800) g33 236 4 rfl
        have b38 := gi_b (lo := 0) (hi := 4) g33 236 6 rfl
        refine wk_n ?_
        refine wi_aload_n (i := 0) (x := 236) (nx := 62) (r1 := 0) (r2 := 0) (r3 := 0) rfl rfl ?_
        refine wr_gr (k0 := 236) (x := 239) (nx := 65) (r1 := 11) (r2 := 14) (r3 := 0) rfl rfl (by decide) rfl ⟨rfl, rfl⟩ rfl ?_
        refine wi_bipush (n := 31) (nx := 67) (r1 := 0) (r2 := 0) (r3 := 0) rfl (by decide) ?_
        refine wi_iload_n (i := 1) (e := h 239 2) (nx := 68) (r1 := 0) (r2 := 0) (r3 := 0) rfl rfl ?_
        refine wr_add (nx := 69) (r1 := 0) (r2 := 0) (r3 := 0) rfl (fun e39 (fe39 : e39 = 31 + (h 239 2)) => ?_)
        refine wi_iload_n (i := 2) (e := z25) (nx := 70) (r1 := 0) (r2 := 0) (r3 := 0) rfl rfl ?_
        obtain ⟨i40, ei40⟩ : ∃ q : Nat, e39 = (q : Int) := ⟨(e39).toNat, by omega⟩
        refine wr_is (k0 := 239) (a := e39) (f := i40) (x := z25) (bl := 0) (bh := 4) (nx := 71) (r1 := 0) (r2 := 0) (r3 := 0) rfl (by decide) rfl (by omega) (by omega) (by decide) g33 (gi_rq 31 12 (fun _ => rfl) (by decide +kernel) (by omega)) (by omega) (fun h41 g41 w41 u41 => ?_)
        have F42 := F36.then rfl (FR.idx (p := 31) (q := 42) u41 (by omega))
        refine wi_aload_n (i := 0) (x := 236) (nx := 72) (r1 := 0) (r2 := 0) (r3 := 0) rfl rfl ?_
        refine wr_gr (k0 := 236) (x := 239) (nx := 75) (r1 := 11) (r2 := 14) (r3 := 0) rfl rfl (by decide) rfl ⟨rfl, rfl⟩ rfl ?_
        refine wi_bipush (n := 19) (nx := 77) (r1 := 0) (r2 := 0) (r3 := 0) rfl (by decide) ?_
        refine wi_iload_n (i := 1) (e := h 239 2) (nx := 78) (r1 := 0) (r2 := 0) (r3 := 0) rfl rfl ?_
        refine wr_add (nx := 79) (r1 := 0) (r2 := 0) (r3 := 0) rfl (fun e43 (fe43 : e43 = 19 + (h 239 2)) => ?_)
        refine wi_aload_n (i := 0) (x := 236) (nx := 80) (r1 := 0) (r2 := 0) (r3 := 0) rfl rfl ?_
        refine wi_ldc2_w (e := 81049) (nx := 83) (r1 := 81049) (r2 := 0) (r3 := 0) rfl (by decide) ?_
        refine wi_iconst (n := 0) (nx := 84) (r1 := 0) (r2 := 0) (r3 := 0) rfl ?_
        refine wi_iconst (n := 3) (nx := 85) (r1 := 0) (r2 := 0) (r3 := 0) rfl ?_
        refine wr_V (k0 := 236) (rest := [vi e43, .ref 239]) (as := [.ref 236, vl 81049, vi 0, vi 3]) (nx := 88) (r1 := 228) (r2 := 3) (r3 := 11) rfl rfl rfl (of_decide_eq_true rfl) rfl rfl (by decide) rfl rfl (of_decide_eq_true rfl) (of_decide_eq_true rfl) ?_
        have e45 : h41 236 4 = h33 236 4 := (u41 236 4 (fn_a (by omega) fn_0))
        have e46 : h41 236 3 = h 236 3 := ((u41 236 3 (fn_a (by omega) fn_0)).trans ((u33 236 3 rfl).trans ((u20 236 3 rfl).trans (u14 236 3 rfl))))
        refine ct_228_236 hcr  g41 81049 0 3 (by omega) (by omega) (by omega) (show (h41 236 4) ≤ (h41 236 3) by omega) (fun h44 z47 g44 u44 (fz47 : 0 ≤ z47 ∧ z47 ≤ 999) (p44_0 : (h41 236 4) ≤ (h44 236 4)) (p44_1 : (h44 236 4) ≤ (h41 236 3)) (p44_2 : 1 ≤ (h44 236 8) ∨ (h41 236 8) = 0) (p44_3 : 1 ≤ (h44 236 8) ∨ (0 ≤ z47 ∧ z47 ≤ 3)) => ?_)
        have F48 := F42.then (by decide +kernel) u44
        have b49 := gi_b (lo := 0) (hi := 800) g44 236 4 rfl
        have e50 : h41 236 8 = h20 236 8 := ((u41 236 8 (fn_a (by omega) fn_0)).trans (u33 236 8 rfl))
        have b51 := gi_b (lo := 0) (hi := 5) g44 236 8 rfl
        refine wk_i ?_
        obtain ⟨i52, ei52⟩ : ∃ q : Nat, e43 = (q : Int) := ⟨(e43).toNat, by omega⟩
        refine wr_is (k0 := 239) (a := e43) (f := i52) (x := z47) (bl := 0) (bh := 999) (nx := 89) (r1 := 0) (r2 := 0) (r3 := 0) rfl (by decide) rfl (by omega) (by omega) (by decide) g44 (gi_rq 19 12 (fun _ => rfl) (by decide +kernel) (by omega)) (by omega) (fun h53 g53 w53 u53 => ?_)
        have F54 := F48.then rfl (FR.idx (p := 19) (q := 30) u53 (by omega))
        refine wi_aload_n (i := 0) (x := 236) (nx := 90) (r1 := 0) (r2 := 0) (r3 := 0) rfl rfl ?_
        refine wr_gr (k0 := 236) (x := 239) (nx := 93) (r1 := 11) (r2 := 14) (r3 := 0) rfl rfl (by decide) rfl ⟨rfl, rfl⟩ rfl ?_
        refine wi_bipush (n := 43) (nx := 95) (r1 := 0) (r2 := 0) (r3 := 0) rfl (by decide) ?_
        refine wi_iload_n (i := 1) (e := h 239 2) (nx := 96) (r1 := 0) (r2 := 0) (r3 := 0) rfl rfl ?_
        refine wr_add (nx := 97) (r1 := 0) (r2 := 0) (r3 := 0) rfl (fun e55 (fe55 : e55 = 43 + (h 239 2)) => ?_)
        refine wi_aload_n (i := 0) (x := 236) (nx := 98) (r1 := 0) (r2 := 0) (r3 := 0) rfl rfl ?_
        refine wi_ldc2_w (e := 2084) (nx := 101) (r1 := 2084) (r2 := 0) (r3 := 0) rfl (by decide) ?_
        refine wr_V (k0 := 236) (rest := [vi e55, .ref 239]) (as := [.ref 236, vl 2084]) (nx := 104) (r1 := 230) (r2 := 1) (r3 := 11) rfl rfl rfl (of_decide_eq_true rfl) rfl rfl (by decide) rfl rfl (of_decide_eq_true rfl) (of_decide_eq_true rfl) ?_
        refine wi_aload_n (i := 0) (x := 236) (nx := 1) (r1 := 0) (r2 := 0) (r3 := 0) rfl rfl ?_
        refine wi_lload_n (i := 1) (e := 2084) (nx := 2) (r1 := 0) (r2 := 0) (r3 := 0) rfl rfl ?_
        refine wr_V (k0 := 236) (rest := []) (as := [.ref 236, vl 2084]) (nx := 5) (r1 := 221) (r2 := 1) (r3 := 11) rfl rfl rfl (of_decide_eq_true rfl) rfl rfl (by decide) rfl rfl (of_decide_eq_true rfl) (of_decide_eq_true rfl) ?_
        refine wi_aload_n (i := 0) (x := 236) (nx := 1) (r1 := 0) (r2 := 0) (r3 := 0) rfl rfl ?_
        refine wr_gi0 (k0 := 236) (x := h44 236 8) (nx := 4) (r1 := 11) (r2 := 8) (r3 := 0) rfl rfl (by decide) rfl ⟨rfl, rfl⟩ rfl (u53 236 8 (fn_a (by omega) fn_0)) ?_
        refine wi_if (cd := .ne) (nx := 7) (r1 := 28) (r2 := 0) (r3 := 0) rfl (by omega) (fun (q56 : (h44 236 8) ≠ 0) => ?_) (fun (q56 : ¬ ((h44 236 8) ≠ 0)) => ?_)
        ·
          refine wi_iconst (n := 0) (nx := 29) (r1 := 0) (r2 := 0) (r3 := 0) rfl ?_
          refine wi_zreturn (nx := 30) (r1 := 0) (r2 := 0) (r3 := 0) rfl rfl (by omega) ?_
          refine wk_i ?_
          refine wi_istore_n (i := 3) (e := 0) (lo2 := [(3, vi 0), (0, .ref 236), (1, vl 2084)]) (nx := 6) (r1 := 0) (r2 := 0) (r3 := 0) rfl rfl ?_
          refine wi_iload_n (i := 3) (e := 0) (nx := 7) (r1 := 0) (r2 := 0) (r3 := 0) rfl rfl ?_
          refine wi_if (cd := .eq) (nx := 10) (r1 := 14) (r2 := 0) (r3 := 0) rfl (by omega) (fun (q57 : 0 = 0) => ?_) (fun (q57 : ¬ (0 = 0)) => by exfalso; omega)
          refine wi_iload_n (i := 3) (e := 0) (nx := 15) (r1 := 0) (r2 := 0) (r3 := 0) rfl rfl ?_
          refine wi_zreturn (nx := 16) (r1 := 0) (r2 := 0) (r3 := 0) rfl rfl (by omega) ?_
          refine wk_i ?_
          refine wi_if (cd := .eq) (nx := 107) (r1 := 116) (r2 := 0) (r3 := 0) rfl (by omega) (fun (q58 : 0 = 0) => ?_) (fun (q58 : ¬ (0 = 0)) => by exfalso; omega)
          refine wi_iconst (n := 0) (nx := 117) (r1 := 0) (r2 := 0) (r3 := 0) rfl ?_
          obtain ⟨i59, ei59⟩ : ∃ q : Nat, e55 = (q : Int) := ⟨(e55).toNat, by omega⟩
          refine wr_is (k0 := 239) (a := e55) (f := i59) (x := 0) (bl := 0) (bh := 999) (nx := 118) (r1 := 0) (r2 := 0) (r3 := 0) rfl (by decide) rfl (by omega) (by omega) (by decide) g53 (gi_rq 43 12 (fun _ => rfl) (by decide +kernel) (by omega)) (by omega) (fun h60 g60 w60 u60 => ?_)
          have F61 := F54.then rfl (FR.idx (p := 43) (q := 54) u60 (by omega))
          refine wi_aload_n (i := 0) (x := 236) (nx := 119) (r1 := 0) (r2 := 0) (r3 := 0) rfl rfl ?_
          refine wr_V (k0 := 236) (rest := []) (as := [.ref 236]) (nx := 122) (r1 := 219) (r2 := 0) (r3 := 11) rfl rfl rfl (of_decide_eq_true rfl) rfl rfl (by decide) rfl rfl (of_decide_eq_true rfl) (of_decide_eq_true rfl) ?_
          refine wi_aload_n (i := 0) (x := 236) (nx := 1) (r1 := 0) (r2 := 0) (r3 := 0) rfl rfl ?_
          refine wr_gi0 (k0 := 236) (x := h44 236 8) (nx := 4) (r1 := 11) (r2 := 8) (r3 := 0) rfl rfl (by decide) rfl ⟨rfl, rfl⟩ rfl ((u60 236 8 (fn_a (by omega) fn_0)).trans (u53 236 8 (fn_a (by omega) fn_0))) ?_
          refine wi_if (cd := .ne) (nx := 7) (r1 := 11) (r2 := 0) (r3 := 0) rfl (by omega) (fun (q62 : (h44 236 8) ≠ 0) => ?_) (fun (q62 : ¬ ((h44 236 8) ≠ 0)) => by exfalso; omega)
          refine wi_iconst (n := 0) (nx := 12) (r1 := 0) (r2 := 0) (r3 := 0) rfl ?_
          refine wi_zreturn (nx := 13) (r1 := 0) (r2 := 0) (r3 := 0) rfl rfl (by omega) ?_
          refine wk_i ?_
          refine wi_if (cd := .eq) (nx := 125) (r1 := 135) (r2 := 0) (r3 := 0) rfl (by omega) (fun (q63 : 0 = 0) => ?_) (fun (q63 : ¬ (0 = 0)) => by exfalso; omega)
          refine wi_return (nx := 136) (r1 := 0) (r2 := 0) (r3 := 0) rfl rfl ?_
          have e64 : h60 236 4 = h44 236 4 := ((u60 236 4 (fn_a (by omega) fn_0)).trans (u53 236 4 (fn_a (by omega) fn_0)))
          have e65 : h60 236 8 = h44 236 8 := ((u60 236 8 (fn_a (by omega) fn_0)).trans (u53 236 8 (fn_a (by omega) fn_0)))
          have e66 : h60 239 5 = h 239 5 := ((u60 239 5 (fn_i (by omega) fn_0)).trans ((u53 239 5 (fn_i (by omega) fn_0)).trans ((u44 239 5 rfl).trans ((u41 239 5 (fn_i (by omega) fn_0)).trans ((u33 239 5 rfl).trans ((u20 239 5 rfl).trans (u14 239 5 rfl)))))))
          have e67 : h60 239 7 = h 239 7 := ((u60 239 7 (fn_i (by omega) fn_0)).trans ((u53 239 7 (fn_i (by omega) fn_0)).trans ((u44 239 7 rfl).trans ((u41 239 7 (fn_i (by omega) fn_0)).trans ((u33 239 7 rfl).trans ((u20 239 7 rfl).trans (u14 239 7 rfl)))))))
          have e68 : h60 239 15 = h 239 15 := ((u60 239 15 (fn_i (by omega) fn_0)).trans ((u53 239 15 (fn_i (by omega) fn_0)).trans ((u44 239 15 rfl).trans ((u41 239 15 (fn_i (by omega) fn_0)).trans ((u33 239 15 rfl).trans ((u20 239 15 rfl).trans (u14 239 15 rfl)))))))
          have e69 : h60 239 16 = h 239 16 := ((u60 239 16 (fn_i (by omega) fn_0)).trans ((u53 239 16 (fn_i (by omega) fn_0)).trans ((u44 239 16 rfl).trans ((u41 239 16 (fn_i (by omega) fn_0)).trans ((u33 239 16 rfl).trans ((u20 239 16 rfl).trans (u14 239 16 rfl)))))))
          have e70 : h60 239 17 = h 239 17 := ((u60 239 17 (fn_i (by omega) fn_0)).trans ((u53 239 17 (fn_i (by omega) fn_0)).trans ((u44 239 17 rfl).trans ((u41 239 17 (fn_i (by omega) fn_0)).trans ((u33 239 17 rfl).trans ((u20 239 17 rfl).trans (u14 239 17 rfl)))))))
          have e71 : h60 239 18 = h 239 18 := ((u60 239 18 (fn_i (by omega) fn_0)).trans ((u53 239 18 (fn_i (by omega) fn_0)).trans ((u44 239 18 rfl).trans ((u41 239 18 (fn_i (by omega) fn_0)).trans ((u33 239 18 rfl).trans ((u20 239 18 rfl).trans (u14 239 18 rfl)))))))
          exact k h60 g60 F61 (show (h 236 4) ≤ (h60 236 4) by omega) (show (h60 236 4) ≤ (h 236 3) by omega) (show 1 ≤ (h60 236 8) ∨ ((h60 239 5) ≤ 9 ∧ 1 ≤ (h60 239 5) ∧ (h60 239 7) ≤ 3 ∧ (h60 239 15) ≤ 6 ∧ (h60 239 16) ≤ 6 ∧ (h60 239 17) ≤ 6 ∧ (h60 239 18) ≤ 6) by omega)
        ·
          refine wi_aload_n (i := 0) (x := 236) (nx := 8) (r1 := 0) (r2 := 0) (r3 := 0) rfl rfl ?_
          have b57 := gi_b (lo := 0) (hi := 4) g44 236 6 rfl
          refine wr_gi0 (k0 := 236) (x := h44 236 6) (nx := 11) (r1 := 11) (r2 := 6) (r3 := 0) rfl rfl (by decide) rfl ⟨rfl, rfl⟩ rfl (u53 236 6 (fn_a (by omega) fn_0)) ?_
          refine wi_iconst (n := 1) (nx := 12) (r1 := 0) (r2 := 0) (r3 := 0) rfl ?_
          refine wi_icmp (cd := .ne) (nx := 15) (r1 := 28) (r2 := 0) (r3 := 0) rfl (by omega) (by omega) (fun (q58 : (h44 236 6) ≠ 1) => ?_) (fun (q58 : ¬ ((h44 236 6) ≠ 1)) => ?_)
          ·
            refine wi_iconst (n := 0) (nx := 29) (r1 := 0) (r2 := 0) (r3 := 0) rfl ?_
            refine wi_zreturn (nx := 30) (r1 := 0) (r2 := 0) (r3 := 0) rfl rfl (by omega) ?_
            refine wk_i ?_
            refine wi_istore_n (i := 3) (e := 0) (lo2 := [(3, vi 0), (0, .ref 236), (1, vl 2084)]) (nx := 6) (r1 := 0) (r2 := 0) (r3 := 0) rfl rfl ?_
            refine wi_iload_n (i := 3) (e := 0) (nx := 7) (r1 := 0) (r2 := 0) (r3 := 0) rfl rfl ?_
            refine wi_if (cd := .eq) (nx := 10) (r1 := 14) (r2 := 0) (r3 := 0) rfl (by omega) (fun (q59 : 0 = 0) => ?_) (fun (q59 : ¬ (0 = 0)) => by exfalso; omega)
            refine wi_iload_n (i := 3) (e := 0) (nx := 15) (r1 := 0) (r2 := 0) (r3 := 0) rfl rfl ?_
            refine wi_zreturn (nx := 16) (r1 := 0) (r2 := 0) (r3 := 0) rfl rfl (by omega) ?_
            refine wk_i ?_
            refine wi_if (cd := .eq) (nx := 107) (r1 := 116) (r2 := 0) (r3 := 0) rfl (by omega) (fun (q60 : 0 = 0) => ?_) (fun (q60 : ¬ (0 = 0)) => by exfalso; omega)
            refine wi_iconst (n := 0) (nx := 117) (r1 := 0) (r2 := 0) (r3 := 0) rfl ?_
            obtain ⟨i61, ei61⟩ : ∃ q : Nat, e55 = (q : Int) := ⟨(e55).toNat, by omega⟩
            refine wr_is (k0 := 239) (a := e55) (f := i61) (x := 0) (bl := 0) (bh := 999) (nx := 118) (r1 := 0) (r2 := 0) (r3 := 0) rfl (by decide) rfl (by omega) (by omega) (by decide) g53 (gi_rq 43 12 (fun _ => rfl) (by decide +kernel) (by omega)) (by omega) (fun h62 g62 w62 u62 => ?_)
            have F63 := F54.then rfl (FR.idx (p := 43) (q := 54) u62 (by omega))
            refine wi_aload_n (i := 0) (x := 236) (nx := 119) (r1 := 0) (r2 := 0) (r3 := 0) rfl rfl ?_
            refine wr_V (k0 := 236) (rest := []) (as := [.ref 236]) (nx := 122) (r1 := 219) (r2 := 0) (r3 := 11) rfl rfl rfl (of_decide_eq_true rfl) rfl rfl (by decide) rfl rfl (of_decide_eq_true rfl) (of_decide_eq_true rfl) ?_
            refine wi_aload_n (i := 0) (x := 236) (nx := 1) (r1 := 0) (r2 := 0) (r3 := 0) rfl rfl ?_
            refine wr_gi0 (k0 := 236) (x := h44 236 8) (nx := 4) (r1 := 11) (r2 := 8) (r3 := 0) rfl rfl (by decide) rfl ⟨rfl, rfl⟩ rfl ((u62 236 8 (fn_a (by omega) fn_0)).trans (u53 236 8 (fn_a (by omega) fn_0))) ?_
            refine wi_if (cd := .ne) (nx := 7) (r1 := 11) (r2 := 0) (r3 := 0) rfl (by omega) (fun (q64 : (h44 236 8) ≠ 0) => by exfalso; omega) (fun (q64 : ¬ ((h44 236 8) ≠ 0)) => ?_)
            refine wi_iconst (n := 1) (nx := 8) (r1 := 0) (r2 := 0) (r3 := 0) rfl ?_
            refine wi_goto (nx := 11) (r1 := 12) (r2 := 0) (r3 := 0) rfl ?_
            refine wi_zreturn (nx := 13) (r1 := 0) (r2 := 0) (r3 := 0) rfl rfl (by omega) ?_
            refine wk_i ?_
            refine wi_if (cd := .eq) (nx := 125) (r1 := 135) (r2 := 0) (r3 := 0) rfl (by omega) (fun (q65 : 1 = 0) => by exfalso; omega) (fun (q65 : ¬ (1 = 0)) => ?_)
            refine wi_aload_n (i := 0) (x := 236) (nx := 126) (r1 := 0) (r2 := 0) (r3 := 0) rfl rfl ?_
            refine wr_gr (k0 := 236) (x := 239) (nx := 129) (r1 := 11) (r2 := 14) (r3 := 0) rfl rfl (by decide) rfl ⟨rfl, rfl⟩ rfl ?_
            refine wi_iconst (n := 2) (nx := 130) (r1 := 0) (r2 := 0) (r3 := 0) rfl ?_
            refine wi_dup2 (nx := 131) (r1 := 0) (r2 := 0) (r3 := 0) rfl rfl rfl ?_
            refine wr_ia (k0 := 239) (a := 2) (f := 2) (x := h 239 2) (nx := 132) (r1 := 0) (r2 := 0) (r3 := 0) rfl (by decide) rfl (by omega) (by omega) (by decide) ((u62 239 2 (fn_i (by omega) fn_0)).trans ((u53 239 2 (fn_i (by omega) fn_0)).trans ((u44 239 2 rfl).trans ((u41 239 2 (fn_i (by omega) fn_0)).trans ((u33 239 2 rfl).trans ((u20 239 2 rfl).trans (u14 239 2 rfl))))))) ?_
            refine wi_iconst (n := 1) (nx := 133) (r1 := 0) (r2 := 0) (r3 := 0) rfl ?_
            refine wr_add (nx := 134) (r1 := 0) (r2 := 0) (r3 := 0) rfl (fun e66 (fe66 : e66 = (h 239 2) + 1) => ?_)
            refine wr_is (k0 := 239) (a := 2) (f := 2) (x := e66) (bl := 0) (bh := 12) (nx := 135) (r1 := 0) (r2 := 0) (r3 := 0) rfl (by decide) rfl (by omega) (by omega) (by decide) g62 rfl (by omega) (fun h67 g67 w67 u67 => ?_)
            have F68 := F63.then rfl u67
            refine wi_return (nx := 136) (r1 := 0) (r2 := 0) (r3 := 0) rfl rfl ?_
            have e69 : h67 236 4 = h44 236 4 := ((u67 236 4 rfl).trans ((u62 236 4 (fn_a (by omega) fn_0)).trans (u53 236 4 (fn_a (by omega) fn_0))))
            have e70 : h67 236 8 = h44 236 8 := ((u67 236 8 rfl).trans ((u62 236 8 (fn_a (by omega) fn_0)).trans (u53 236 8 (fn_a (by omega) fn_0))))
            have e71 : h67 239 5 = h 239 5 := ((u67 239 5 rfl).trans ((u62 239 5 (fn_i (by omega) fn_0)).trans ((u53 239 5 (fn_i (by omega) fn_0)).trans ((u44 239 5 rfl).trans ((u41 239 5 (fn_i (by omega) fn_0)).trans ((u33 239 5 rfl).trans ((u20 239 5 rfl).trans (u14 239 5 rfl))))))))
            have e72 : h67 239 7 = h 239 7 := ((u67 239 7 rfl).trans ((u62 239 7 (fn_i (by omega) fn_0)).trans ((u53 239 7 (fn_i (by omega) fn_0)).trans ((u44 239 7 rfl).trans ((u41 239 7 (fn_i (by omega) fn_0)).trans ((u33 239 7 rfl).trans ((u20 239 7 rfl).trans (u14 239 7 rfl))))))))
            have e73 : h67 239 15 = h 239 15 := ((u67 239 15 rfl).trans ((u62 239 15 (fn_i (by omega) fn_0)).trans ((u53 239 15 (fn_i (by omega) fn_0)).trans ((u44 239 15 rfl).trans ((u41 239 15 (fn_i (by omega) fn_0)).trans ((u33 239 15 rfl).trans ((u20 239 15 rfl).trans (u14 239 15 rfl))))))))
            have e74 : h67 239 16 = h 239 16 := ((u67 239 16 rfl).trans ((u62 239 16 (fn_i (by omega) fn_0)).trans ((u53 239 16 (fn_i (by omega) fn_0)).trans ((u44 239 16 rfl).trans ((u41 239 16 (fn_i (by omega) fn_0)).trans ((u33 239 16 rfl).trans ((u20 239 16 rfl).trans (u14 239 16 rfl))))))))
            have e75 : h67 239 17 = h 239 17 := ((u67 239 17 rfl).trans ((u62 239 17 (fn_i (by omega) fn_0)).trans ((u53 239 17 (fn_i (by omega) fn_0)).trans ((u44 239 17 rfl).trans ((u41 239 17 (fn_i (by omega) fn_0)).trans ((u33 239 17 rfl).trans ((u20 239 17 rfl).trans (u14 239 17 rfl))))))))
            have e76 : h67 239 18 = h 239 18 := ((u67 239 18 rfl).trans ((u62 239 18 (fn_i (by omega) fn_0)).trans ((u53 239 18 (fn_i (by omega) fn_0)).trans ((u44 239 18 rfl).trans ((u41 239 18 (fn_i (by omega) fn_0)).trans ((u33 239 18 rfl).trans ((u20 239 18 rfl).trans (u14 239 18 rfl))))))))
            exact k h67 g67 F68 (show (h 236 4) ≤ (h67 236 4) by omega) (show (h67 236 4) ≤ (h 236 3) by omega) (show 1 ≤ (h67 236 8) ∨ ((h67 239 5) ≤ 9 ∧ 1 ≤ (h67 239 5) ∧ (h67 239 7) ≤ 3 ∧ (h67 239 15) ≤ 6 ∧ (h67 239 16) ≤ 6 ∧ (h67 239 17) ≤ 6 ∧ (h67 239 18) ≤ 6) by omega)
          ·
            refine wi_aload_n (i := 0) (x := 236) (nx := 16) (r1 := 0) (r2 := 0) (r3 := 0) rfl rfl ?_
            have b59 := gi_b (lo := -9223372036854775808) (hi := 9223372036854775807) g44 236 12 rfl
            refine wr_gi1 (k0 := 236) (x := h44 236 12) (nx := 19) (r1 := 11) (r2 := 12) (r3 := 0) rfl rfl (by decide) rfl ⟨rfl, rfl⟩ rfl (u53 236 12 (fn_a (by omega) fn_0)) ?_
            refine wi_lload_n (i := 1) (e := 2084) (nx := 20) (r1 := 0) (r2 := 0) (r3 := 0) rfl rfl ?_
            refine wi_lcmp (a := h44 236 12) (e := 2084) (nx := 21) (r1 := 0) (r2 := 0) (r3 := 0) rfl (by omega) (by omega) (fun r60 (fr60 : (r60 = -1 ∧ (h44 236 12) < 2084) ∨ (r60 = 0 ∧ (h44 236 12) = 2084) ∨ (r60 = 1 ∧ 2084 < (h44 236 12))) => ?_)
            refine wi_if (cd := .ne) (nx := 24) (r1 := 28) (r2 := 0) (r3 := 0) rfl (by omega) (fun (q61 : r60 ≠ 0) => ?_) (fun (q61 : ¬ (r60 ≠ 0)) => ?_)
            ·
              refine wi_iconst (n := 0) (nx := 29) (r1 := 0) (r2 := 0) (r3 := 0) rfl ?_
              refine wi_zreturn (nx := 30) (r1 := 0) (r2 := 0) (r3 := 0) rfl rfl (by omega) ?_
              refine wk_i ?_
              refine wi_istore_n (i := 3) (e := 0) (lo2 := [(3, vi 0), (0, .ref 236), (1, vl 2084)]) (nx := 6) (r1 := 0) (r2 := 0) (r3 := 0) rfl rfl ?_
              refine wi_iload_n (i := 3) (e := 0) (nx := 7) (r1 := 0) (r2 := 0) (r3 := 0) rfl rfl ?_
              refine wi_if (cd := .eq) (nx := 10) (r1 := 14) (r2 := 0) (r3 := 0) rfl (by omega) (fun (q62 : 0 = 0) => ?_) (fun (q62 : ¬ (0 = 0)) => by exfalso; omega)
              refine wi_iload_n (i := 3) (e := 0) (nx := 15) (r1 := 0) (r2 := 0) (r3 := 0) rfl rfl ?_
              refine wi_zreturn (nx := 16) (r1 := 0) (r2 := 0) (r3 := 0) rfl rfl (by omega) ?_
              refine wk_i ?_
              refine wi_if (cd := .eq) (nx := 107) (r1 := 116) (r2 := 0) (r3 := 0) rfl (by omega) (fun (q63 : 0 = 0) => ?_) (fun (q63 : ¬ (0 = 0)) => by exfalso; omega)
              refine wi_iconst (n := 0) (nx := 117) (r1 := 0) (r2 := 0) (r3 := 0) rfl ?_
              obtain ⟨i64, ei64⟩ : ∃ q : Nat, e55 = (q : Int) := ⟨(e55).toNat, by omega⟩
              refine wr_is (k0 := 239) (a := e55) (f := i64) (x := 0) (bl := 0) (bh := 999) (nx := 118) (r1 := 0) (r2 := 0) (r3 := 0) rfl (by decide) rfl (by omega) (by omega) (by decide) g53 (gi_rq 43 12 (fun _ => rfl) (by decide +kernel) (by omega)) (by omega) (fun h65 g65 w65 u65 => ?_)
              have F66 := F54.then rfl (FR.idx (p := 43) (q := 54) u65 (by omega))
              refine wi_aload_n (i := 0) (x := 236) (nx := 119) (r1 := 0) (r2 := 0) (r3 := 0) rfl rfl ?_
              refine wr_V (k0 := 236) (rest := []) (as := [.ref 236]) (nx := 122) (r1 := 219) (r2 := 0) (r3 := 11) rfl rfl rfl (of_decide_eq_true rfl) rfl rfl (by decide) rfl rfl (of_decide_eq_true rfl) (of_decide_eq_true rfl) ?_
              refine wi_aload_n (i := 0) (x := 236) (nx := 1) (r1 := 0) (r2 := 0) (r3 := 0) rfl rfl ?_
              refine wr_gi0 (k0 := 236) (x := h44 236 8) (nx := 4) (r1 := 11) (r2 := 8) (r3 := 0) rfl rfl (by decide) rfl ⟨rfl, rfl⟩ rfl ((u65 236 8 (fn_a (by omega) fn_0)).trans (u53 236 8 (fn_a (by omega) fn_0))) ?_
              refine wi_if (cd := .ne) (nx := 7) (r1 := 11) (r2 := 0) (r3 := 0) rfl (by omega) (fun (q67 : (h44 236 8) ≠ 0) => by exfalso; omega) (fun (q67 : ¬ ((h44 236 8) ≠ 0)) => ?_)
              refine wi_iconst (n := 1) (nx := 8) (r1 := 0) (r2 := 0) (r3 := 0) rfl ?_
              refine wi_goto (nx := 11) (r1 := 12) (r2 := 0) (r3 := 0) rfl ?_
              refine wi_zreturn (nx := 13) (r1 := 0) (r2 := 0) (r3 := 0) rfl rfl (by omega) ?_
              refine wk_i ?_
              refine wi_if (cd := .eq) (nx := 125) (r1 := 135) (r2 := 0) (r3 := 0) rfl (by omega) (fun (q68 : 1 = 0) => by exfalso; omega) (fun (q68 : ¬ (1 = 0)) => ?_)
              refine wi_aload_n (i := 0) (x := 236) (nx := 126) (r1 := 0) (r2 := 0) (r3 := 0) rfl rfl ?_
              refine wr_gr (k0 := 236) (x := 239) (nx := 129) (r1 := 11) (r2 := 14) (r3 := 0) rfl rfl (by decide) rfl ⟨rfl, rfl⟩ rfl ?_
              refine wi_iconst (n := 2) (nx := 130) (r1 := 0) (r2 := 0) (r3 := 0) rfl ?_
              refine wi_dup2 (nx := 131) (r1 := 0) (r2 := 0) (r3 := 0) rfl rfl rfl ?_
              refine wr_ia (k0 := 239) (a := 2) (f := 2) (x := h 239 2) (nx := 132) (r1 := 0) (r2 := 0) (r3 := 0) rfl (by decide) rfl (by omega) (by omega) (by decide) ((u65 239 2 (fn_i (by omega) fn_0)).trans ((u53 239 2 (fn_i (by omega) fn_0)).trans ((u44 239 2 rfl).trans ((u41 239 2 (fn_i (by omega) fn_0)).trans ((u33 239 2 rfl).trans ((u20 239 2 rfl).trans (u14 239 2 rfl))))))) ?_
              refine wi_iconst (n := 1) (nx := 133) (r1 := 0) (r2 := 0) (r3 := 0) rfl ?_
              refine wr_add (nx := 134) (r1 := 0) (r2 := 0) (r3 := 0) rfl (fun e69 (fe69 : e69 = (h 239 2) + 1) => ?_)
              refine wr_is (k0 := 239) (a := 2) (f := 2) (x := e69) (bl := 0) (bh := 12) (nx := 135) (r1 := 0) (r2 := 0) (r3 := 0) rfl (by decide) rfl (by omega) (by omega) (by decide) g65 rfl (by omega) (fun h70 g70 w70 u70 => ?_)
              have F71 := F66.then rfl u70
              refine wi_return (nx := 136) (r1 := 0) (r2 := 0) (r3 := 0) rfl rfl ?_
              have e72 : h70 236 4 = h44 236 4 := ((u70 236 4 rfl).trans ((u65 236 4 (fn_a (by omega) fn_0)).trans (u53 236 4 (fn_a (by omega) fn_0))))
              have e73 : h70 236 8 = h44 236 8 := ((u70 236 8 rfl).trans ((u65 236 8 (fn_a (by omega) fn_0)).trans (u53 236 8 (fn_a (by omega) fn_0))))
              have e74 : h70 239 5 = h 239 5 := ((u70 239 5 rfl).trans ((u65 239 5 (fn_i (by omega) fn_0)).trans ((u53 239 5 (fn_i (by omega) fn_0)).trans ((u44 239 5 rfl).trans ((u41 239 5 (fn_i (by omega) fn_0)).trans ((u33 239 5 rfl).trans ((u20 239 5 rfl).trans (u14 239 5 rfl))))))))
              have e75 : h70 239 7 = h 239 7 := ((u70 239 7 rfl).trans ((u65 239 7 (fn_i (by omega) fn_0)).trans ((u53 239 7 (fn_i (by omega) fn_0)).trans ((u44 239 7 rfl).trans ((u41 239 7 (fn_i (by omega) fn_0)).trans ((u33 239 7 rfl).trans ((u20 239 7 rfl).trans (u14 239 7 rfl))))))))
              have e76 : h70 239 15 = h 239 15 := ((u70 239 15 rfl).trans ((u65 239 15 (fn_i (by omega) fn_0)).trans ((u53 239 15 (fn_i (by omega) fn_0)).trans ((u44 239 15 rfl).trans ((u41 239 15 (fn_i (by omega) fn_0)).trans ((u33 239 15 rfl).trans ((u20 239 15 rfl).trans (u14 239 15 rfl))))))))
              have e77 : h70 239 16 = h 239 16 := ((u70 239 16 rfl).trans ((u65 239 16 (fn_i (by omega) fn_0)).trans ((u53 239 16 (fn_i (by omega) fn_0)).trans ((u44 239 16 rfl).trans ((u41 239 16 (fn_i (by omega) fn_0)).trans ((u33 239 16 rfl).trans ((u20 239 16 rfl).trans (u14 239 16 rfl))))))))
              have e78 : h70 239 17 = h 239 17 := ((u70 239 17 rfl).trans ((u65 239 17 (fn_i (by omega) fn_0)).trans ((u53 239 17 (fn_i (by omega) fn_0)).trans ((u44 239 17 rfl).trans ((u41 239 17 (fn_i (by omega) fn_0)).trans ((u33 239 17 rfl).trans ((u20 239 17 rfl).trans (u14 239 17 rfl))))))))
              have e79 : h70 239 18 = h 239 18 := ((u70 239 18 rfl).trans ((u65 239 18 (fn_i (by omega) fn_0)).trans ((u53 239 18 (fn_i (by omega) fn_0)).trans ((u44 239 18 rfl).trans ((u41 239 18 (fn_i (by omega) fn_0)).trans ((u33 239 18 rfl).trans ((u20 239 18 rfl).trans (u14 239 18 rfl))))))))
              exact k h70 g70 F71 (show (h 236 4) ≤ (h70 236 4) by omega) (show (h70 236 4) ≤ (h 236 3) by omega) (show 1 ≤ (h70 236 8) ∨ ((h70 239 5) ≤ 9 ∧ 1 ≤ (h70 239 5) ∧ (h70 239 7) ≤ 3 ∧ (h70 239 15) ≤ 6 ∧ (h70 239 16) ≤ 6 ∧ (h70 239 17) ≤ 6 ∧ (h70 239 18) ≤ 6) by omega)
            ·
              refine wi_iconst (n := 1) (nx := 25) (r1 := 0) (r2 := 0) (r3 := 0) rfl ?_
              refine wi_goto (nx := 28) (r1 := 29) (r2 := 0) (r3 := 0) rfl ?_
              refine wi_zreturn (nx := 30) (r1 := 0) (r2 := 0) (r3 := 0) rfl rfl (by omega) ?_
              refine wk_i ?_
              refine wi_istore_n (i := 3) (e := 1) (lo2 := [(3, vi 1), (0, .ref 236), (1, vl 2084)]) (nx := 6) (r1 := 0) (r2 := 0) (r3 := 0) rfl rfl ?_
              refine wi_iload_n (i := 3) (e := 1) (nx := 7) (r1 := 0) (r2 := 0) (r3 := 0) rfl rfl ?_
              refine wi_if (cd := .eq) (nx := 10) (r1 := 14) (r2 := 0) (r3 := 0) rfl (by omega) (fun (q62 : 1 = 0) => by exfalso; omega) (fun (q62 : ¬ (1 = 0)) => ?_)
              refine wi_aload_n (i := 0) (x := 236) (nx := 11) (r1 := 0) (r2 := 0) (r3 := 0) rfl rfl ?_
              refine wr_V (k0 := 236) (rest := []) (as := [.ref 236]) (nx := 14) (r1 := 215) (r2 := 0) (r3 := 11) rfl rfl rfl (of_decide_eq_true rfl) rfl rfl (by decide) rfl rfl (of_decide_eq_true rfl) (of_decide_eq_true rfl) ?_
              have e64 : h53 236 4 = h44 236 4 := (u53 236 4 (fn_a (by omega) fn_0))
              have e65 : h53 236 3 = h 236 3 := ((u53 236 3 (fn_a (by omega) fn_0)).trans ((u44 236 3 rfl).trans ((u41 236 3 (fn_a (by omega) fn_0)).trans ((u33 236 3 rfl).trans ((u20 236 3 rfl).trans (u14 236 3 rfl))))))
              refine ct_215_236 hcr  g53   (show (h53 236 4) ≤ (h53 236 3) by omega) (fun h63 g63 u63 (p63_0 : (h53 236 4) ≤ (h63 236 4)) (p63_1 : (h63 236 4) ≤ (h53 236 3)) (p63_2 : (h63 236 6) = 0 ∨ (h53 236 4) + 1 ≤ (h63 236 4)) => ?_)
              have F66 := F54.then (by decide +kernel) u63
              have b67 := gi_b (lo := 0) (hi := 800) g63 236 4 rfl
              have b68 := gi_b (lo := 0) (hi := 4) g63 236 6 rfl
              refine wk_n ?_
              refine wi_iload_n (i := 3) (e := 1) (nx := 15) (r1 := 0) (r2 := 0) (r3 := 0) rfl rfl ?_
              refine wi_zreturn (nx := 16) (r1 := 0) (r2 := 0) (r3 := 0) rfl rfl (by omega) ?_
              refine wk_i ?_
              refine wi_if (cd := .eq) (nx := 107) (r1 := 116) (r2 := 0) (r3 := 0) rfl (by omega) (fun (q69 : 1 = 0) => by exfalso; omega) (fun (q69 : ¬ (1 = 0)) => ?_)
              refine wi_aload_n (i := 0) (x := 236) (nx := 108) (r1 := 0) (r2 := 0) (r3 := 0) rfl rfl ?_
              refine wi_iconst (n := 0) (nx := 109) (r1 := 0) (r2 := 0) (r3 := 0) rfl ?_
              refine wi_iconst (n := 2) (nx := 110) (r1 := 0) (r2 := 0) (r3 := 0) rfl ?_
              refine wr_V (k0 := 236) (rest := [vi e55, .ref 239]) (as := [.ref 236, vi 0, vi 2]) (nx := 113) (r1 := 231) (r2 := 2) (r3 := 11) rfl rfl rfl (of_decide_eq_true rfl) rfl rfl (by decide) rfl rfl (of_decide_eq_true rfl) (of_decide_eq_true rfl) ?_
              have e71 : h63 236 3 = h 236 3 := ((u63 236 3 rfl).trans ((u53 236 3 (fn_a (by omega) fn_0)).trans ((u44 236 3 rfl).trans ((u41 236 3 (fn_a (by omega) fn_0)).trans ((u33 236 3 rfl).trans ((u20 236 3 rfl).trans (u14 236 3 rfl)))))))
              refine ct_231_236 hcr  g63 0 2 (by omega) (by omega) (show (h63 236 4) ≤ (h63 236 3) by omega) (fun h70 z72 g70 u70 (fz72 : 0 ≤ z72 ∧ z72 ≤ 999) (p70_0 : (h63 236 4) ≤ (h70 236 4)) (p70_1 : (h70 236 4) ≤ (h63 236 3)) (p70_2 : 1 ≤ (h70 236 8) ∨ (h63 236 8) = 0) (p70_3 : 1 ≤ (h70 236 8) ∨ (0 ≤ z72 ∧ z72 ≤ 2)) (p70_4 : 1 ≤ (h70 236 8) ∨ (h63 236 6) = 2) => ?_)
              have F73 := F66.then (by decide +kernel) u70
              have b74 := gi_b (lo := 0) (hi := 800) g70 236 4 rfl
              have e75 : h63 236 8 = h44 236 8 := ((u63 236 8 rfl).trans (u53 236 8 (fn_a (by omega) fn_0)))
              have b76 := gi_b (lo := 0) (hi := 5) g70 236 8 rfl
              refine wk_i ?_
              refine wi_goto (nx := 116) (r1 := 117) (r2 := 0) (r3 := 0) rfl ?_
              obtain ⟨i77, ei77⟩ : ∃ q : Nat, e55 = (q : Int) := ⟨(e55).toNat, by omega⟩
              refine wr_is (k0 := 239) (a := e55) (f := i77) (x := z72) (bl := 0) (bh := 999) (nx := 118) (r1 := 0) (r2 := 0) (r3 := 0) rfl (by decide) rfl (by omega) (by omega) (by decide) g70 (gi_rq 43 12 (fun _ => rfl) (by decide +kernel) (by omega)) (by omega) (fun h78 g78 w78 u78 => ?_)
              have F79 := F73.then rfl (FR.idx (p := 43) (q := 54) u78 (by omega))
              refine wi_aload_n (i := 0) (x := 236) (nx := 119) (r1 := 0) (r2 := 0) (r3 := 0) rfl rfl ?_
              refine wr_V (k0 := 236) (rest := []) (as := [.ref 236]) (nx := 122) (r1 := 219) (r2 := 0) (r3 := 11) rfl rfl rfl (of_decide_eq_true rfl) rfl rfl (by decide) rfl rfl (of_decide_eq_true rfl) (of_decide_eq_true rfl) ?_
              refine wi_aload_n (i := 0) (x := 236) (nx := 1) (r1 := 0) (r2 := 0) (r3 := 0) rfl rfl ?_
              refine wr_gi0 (k0 := 236) (x := h70 236 8) (nx := 4) (r1 := 11) (r2 := 8) (r3 := 0) rfl rfl (by decide) rfl ⟨rfl, rfl⟩ rfl (u78 236 8 (fn_a (by omega) fn_0)) ?_
              refine wi_if (cd := .ne) (nx := 7) (r1 := 11) (r2 := 0) (r3 := 0) rfl (by omega) (fun (q80 : (h70 236 8) ≠ 0) => ?_) (fun (q80 : ¬ ((h70 236 8) ≠ 0)) => ?_)
              ·
                refine wi_iconst (n := 0) (nx := 12) (r1 := 0) (r2 := 0) (r3 := 0) rfl ?_
                refine wi_zreturn (nx := 13) (r1 := 0) (r2 := 0) (r3 := 0) rfl rfl (by omega) ?_
                refine wk_i ?_
                refine wi_if (cd := .eq) (nx := 125) (r1 := 135) (r2 := 0) (r3 := 0) rfl (by omega) (fun (q81 : 0 = 0) => ?_) (fun (q81 : ¬ (0 = 0)) => by exfalso; omega)
                refine wi_return (nx := 136) (r1 := 0) (r2 := 0) (r3 := 0) rfl rfl ?_
                have e82 : h78 236 4 = h70 236 4 := (u78 236 4 (fn_a (by omega) fn_0))
                have e83 : h78 236 8 = h70 236 8 := (u78 236 8 (fn_a (by omega) fn_0))
                have e84 : h78 239 5 = h 239 5 := ((u78 239 5 (fn_i (by omega) fn_0)).trans ((u70 239 5 rfl).trans ((u63 239 5 rfl).trans ((u53 239 5 (fn_i (by omega) fn_0)).trans ((u44 239 5 rfl).trans ((u41 239 5 (fn_i (by omega) fn_0)).trans ((u33 239 5 rfl).trans ((u20 239 5 rfl).trans (u14 239 5 rfl)))))))))
                have e85 : h78 239 7 = h 239 7 := ((u78 239 7 (fn_i (by omega) fn_0)).trans ((u70 239 7 rfl).trans ((u63 239 7 rfl).trans ((u53 239 7 (fn_i (by omega) fn_0)).trans ((u44 239 7 rfl).trans ((u41 239 7 (fn_i (by omega) fn_0)).trans ((u33 239 7 rfl).trans ((u20 239 7 rfl).trans (u14 239 7 rfl)))))))))
                have e86 : h78 239 15 = h 239 15 := ((u78 239 15 (fn_i (by omega) fn_0)).trans ((u70 239 15 rfl).trans ((u63 239 15 rfl).trans ((u53 239 15 (fn_i (by omega) fn_0)).trans ((u44 239 15 rfl).trans ((u41 239 15 (fn_i (by omega) fn_0)).trans ((u33 239 15 rfl).trans ((u20 239 15 rfl).trans (u14 239 15 rfl)))))))))
                have e87 : h78 239 16 = h 239 16 := ((u78 239 16 (fn_i (by omega) fn_0)).trans ((u70 239 16 rfl).trans ((u63 239 16 rfl).trans ((u53 239 16 (fn_i (by omega) fn_0)).trans ((u44 239 16 rfl).trans ((u41 239 16 (fn_i (by omega) fn_0)).trans ((u33 239 16 rfl).trans ((u20 239 16 rfl).trans (u14 239 16 rfl)))))))))
                have e88 : h78 239 17 = h 239 17 := ((u78 239 17 (fn_i (by omega) fn_0)).trans ((u70 239 17 rfl).trans ((u63 239 17 rfl).trans ((u53 239 17 (fn_i (by omega) fn_0)).trans ((u44 239 17 rfl).trans ((u41 239 17 (fn_i (by omega) fn_0)).trans ((u33 239 17 rfl).trans ((u20 239 17 rfl).trans (u14 239 17 rfl)))))))))
                have e89 : h78 239 18 = h 239 18 := ((u78 239 18 (fn_i (by omega) fn_0)).trans ((u70 239 18 rfl).trans ((u63 239 18 rfl).trans ((u53 239 18 (fn_i (by omega) fn_0)).trans ((u44 239 18 rfl).trans ((u41 239 18 (fn_i (by omega) fn_0)).trans ((u33 239 18 rfl).trans ((u20 239 18 rfl).trans (u14 239 18 rfl)))))))))
                exact k h78 g78 F79 (show (h 236 4) ≤ (h78 236 4) by omega) (show (h78 236 4) ≤ (h 236 3) by omega) (show 1 ≤ (h78 236 8) ∨ ((h78 239 5) ≤ 9 ∧ 1 ≤ (h78 239 5) ∧ (h78 239 7) ≤ 3 ∧ (h78 239 15) ≤ 6 ∧ (h78 239 16) ≤ 6 ∧ (h78 239 17) ≤ 6 ∧ (h78 239 18) ≤ 6) by omega)
              ·
                refine wi_iconst (n := 1) (nx := 8) (r1 := 0) (r2 := 0) (r3 := 0) rfl ?_
                refine wi_goto (nx := 11) (r1 := 12) (r2 := 0) (r3 := 0) rfl ?_
                refine wi_zreturn (nx := 13) (r1 := 0) (r2 := 0) (r3 := 0) rfl rfl (by omega) ?_
                refine wk_i ?_
                refine wi_if (cd := .eq) (nx := 125) (r1 := 135) (r2 := 0) (r3 := 0) rfl (by omega) (fun (q81 : 1 = 0) => by exfalso; omega) (fun (q81 : ¬ (1 = 0)) => ?_)
                refine wi_aload_n (i := 0) (x := 236) (nx := 126) (r1 := 0) (r2 := 0) (r3 := 0) rfl rfl ?_
                refine wr_gr (k0 := 236) (x := 239) (nx := 129) (r1 := 11) (r2 := 14) (r3 := 0) rfl rfl (by decide) rfl ⟨rfl, rfl⟩ rfl ?_
                refine wi_iconst (n := 2) (nx := 130) (r1 := 0) (r2 := 0) (r3 := 0) rfl ?_
                refine wi_dup2 (nx := 131) (r1 := 0) (r2 := 0) (r3 := 0) rfl rfl rfl ?_
                refine wr_ia (k0 := 239) (a := 2) (f := 2) (x := h 239 2) (nx := 132) (r1 := 0) (r2 := 0) (r3 := 0) rfl (by decide) rfl (by omega) (by omega) (by decide) ((u78 239 2 (fn_i (by omega) fn_0)).trans ((u70 239 2 rfl).trans ((u63 239 2 rfl).trans ((u53 239 2 (fn_i (by omega) fn_0)).trans ((u44 239 2 rfl).trans ((u41 239 2 (fn_i (by omega) fn_0)).trans ((u33 239 2 rfl).trans ((u20 239 2 rfl).trans (u14 239 2 rfl))))))))) ?_
                refine wi_iconst (n := 1) (nx := 133) (r1 := 0) (r2 := 0) (r3 := 0) rfl ?_
                refine wr_add (nx := 134) (r1 := 0) (r2 := 0) (r3 := 0) rfl (fun e82 (fe82 : e82 = (h 239 2) + 1) => ?_)
                refine wr_is (k0 := 239) (a := 2) (f := 2) (x := e82) (bl := 0) (bh := 12) (nx := 135) (r1 := 0) (r2 := 0) (r3 := 0) rfl (by decide) rfl (by omega) (by omega) (by decide) g78 rfl (by omega) (fun h83 g83 w83 u83 => ?_)
                have F84 := F79.then rfl u83
                refine wi_return (nx := 136) (r1 := 0) (r2 := 0) (r3 := 0) rfl rfl ?_
                have e85 : h83 236 4 = h70 236 4 := ((u83 236 4 rfl).trans (u78 236 4 (fn_a (by omega) fn_0)))
                have e86 : h83 236 8 = h70 236 8 := ((u83 236 8 rfl).trans (u78 236 8 (fn_a (by omega) fn_0)))
                have e87 : h83 239 5 = h 239 5 := ((u83 239 5 rfl).trans ((u78 239 5 (fn_i (by omega) fn_0)).trans ((u70 239 5 rfl).trans ((u63 239 5 rfl).trans ((u53 239 5 (fn_i (by omega) fn_0)).trans ((u44 239 5 rfl).trans ((u41 239 5 (fn_i (by omega) fn_0)).trans ((u33 239 5 rfl).trans ((u20 239 5 rfl).trans (u14 239 5 rfl))))))))))
                have e88 : h83 239 7 = h 239 7 := ((u83 239 7 rfl).trans ((u78 239 7 (fn_i (by omega) fn_0)).trans ((u70 239 7 rfl).trans ((u63 239 7 rfl).trans ((u53 239 7 (fn_i (by omega) fn_0)).trans ((u44 239 7 rfl).trans ((u41 239 7 (fn_i (by omega) fn_0)).trans ((u33 239 7 rfl).trans ((u20 239 7 rfl).trans (u14 239 7 rfl))))))))))
                have e89 : h83 239 15 = h 239 15 := ((u83 239 15 rfl).trans ((u78 239 15 (fn_i (by omega) fn_0)).trans ((u70 239 15 rfl).trans ((u63 239 15 rfl).trans ((u53 239 15 (fn_i (by omega) fn_0)).trans ((u44 239 15 rfl).trans ((u41 239 15 (fn_i (by omega) fn_0)).trans ((u33 239 15 rfl).trans ((u20 239 15 rfl).trans (u14 239 15 rfl))))))))))
                have e90 : h83 239 16 = h 239 16 := ((u83 239 16 rfl).trans ((u78 239 16 (fn_i (by omega) fn_0)).trans ((u70 239 16 rfl).trans ((u63 239 16 rfl).trans ((u53 239 16 (fn_i (by omega) fn_0)).trans ((u44 239 16 rfl).trans ((u41 239 16 (fn_i (by omega) fn_0)).trans ((u33 239 16 rfl).trans ((u20 239 16 rfl).trans (u14 239 16 rfl))))))))))
                have e91 : h83 239 17 = h 239 17 := ((u83 239 17 rfl).trans ((u78 239 17 (fn_i (by omega) fn_0)).trans ((u70 239 17 rfl).trans ((u63 239 17 rfl).trans ((u53 239 17 (fn_i (by omega) fn_0)).trans ((u44 239 17 rfl).trans ((u41 239 17 (fn_i (by omega) fn_0)).trans ((u33 239 17 rfl).trans ((u20 239 17 rfl).trans (u14 239 17 rfl))))))))))
                have e92 : h83 239 18 = h 239 18 := ((u83 239 18 rfl).trans ((u78 239 18 (fn_i (by omega) fn_0)).trans ((u70 239 18 rfl).trans ((u63 239 18 rfl).trans ((u53 239 18 (fn_i (by omega) fn_0)).trans ((u44 239 18 rfl).trans ((u41 239 18 (fn_i (by omega) fn_0)).trans ((u33 239 18 rfl).trans ((u20 239 18 rfl).trans (u14 239 18 rfl))))))))))
                exact k h83 g83 F84 (show (h 236 4) ≤ (h83 236 4) by omega) (show (h83 236 4) ≤ (h 236 3) by omega) (show 1 ≤ (h83 236 8) ∨ ((h83 239 5) ≤ 9 ∧ 1 ≤ (h83 239 5) ∧ (h83 239 7) ≤ 3 ∧ (h83 239 15) ≤ 6 ∧ (h83 239 16) ≤ 6 ∧ (h83 239 17) ≤ 6 ∧ (h83 239 18) ≤ 6) by omega)
      ·
        refine wi_aload_n (i := 0) (x := 236) (nx := 45) (r1 := 0) (r2 := 0) (r3 := 0) rfl rfl ?_
        refine wi_iconst (n := 4) (nx := 46) (r1 := 0) (r2 := 0) (r3 := 0) rfl ?_
        refine wr_V (k0 := 236) (rest := []) (as := [.ref 236, vi 4]) (nx := 49) (r1 := 224) (r2 := 1) (r3 := 11) rfl rfl rfl (of_decide_eq_true rfl) rfl rfl (by decide) rfl rfl (of_decide_eq_true rfl) (of_decide_eq_true rfl) ?_
        refine ct_224_236 hcr  g20 4 (by omega)  (fun h31 g31 u31 (p31_0 : 1 ≤ (h31 236 8)) => ?_)
        have F32 := F21.then (by decide +kernel) u31
        have b33 := gi_b (lo := 0) (hi := 5) g31 236 8 rfl
        refine wk_n ?_
        refine wi_aload_n (i := 0) (x := 236) (nx := 50) (r1 := 0) (r2 := 0) (r3 := 0) rfl rfl ?_
        refine wr_V (k0 := 236) (rest := []) (as := [.ref 236]) (nx := 53) (r1 := 219) (r2 := 0) (r3 := 11) rfl rfl rfl (of_decide_eq_true rfl) rfl rfl (by decide) rfl rfl (of_decide_eq_true rfl) (of_decide_eq_true rfl) ?_
        refine wi_aload_n (i := 0) (x := 236) (nx := 1) (r1 := 0) (r2 := 0) (r3 := 0) rfl rfl ?_
        refine wr_gi0 (k0 := 236) (x := h31 236 8) (nx := 4) (r1 := 11) (r2 := 8) (r3 := 0) rfl rfl (by decide) rfl ⟨rfl, rfl⟩ rfl rfl ?_
        refine wi_if (cd := .ne) (nx := 7) (r1 := 11) (r2 := 0) (r3 := 0) rfl (by omega) (fun (q34 : (h31 236 8) ≠ 0) => ?_) (fun (q34 : ¬ ((h31 236 8) ≠ 0)) => by exfalso; omega)
        refine wi_iconst (n := 0) (nx := 12) (r1 := 0) (r2 := 0) (r3 := 0) rfl ?_
        refine wi_zreturn (nx := 13) (r1 := 0) (r2 := 0) (r3 := 0) rfl rfl (by omega) ?_
        refine wk_i ?_
        refine wi_if (cd := .ne) (nx := 56) (r1 := 57) (r2 := 0) (r3 := 0) rfl (by omega) (fun (q35 : 0 ≠ 0) => by exfalso; omega) (fun (q35 : ¬ (0 ≠ 0)) => ?_)
        refine wi_return (nx := 57) (r1 := 0) (r2 := 0) (r3 := 0) rfl rfl ?_
        have e36 : h31 236 4 = h14 236 4 := ((u31 236 4 rfl).trans (u20 236 4 rfl))
        have e37 : h31 239 5 = h 239 5 := ((u31 239 5 rfl).trans ((u20 239 5 rfl).trans (u14 239 5 rfl)))
        have e38 : h31 239 7 = h 239 7 := ((u31 239 7 rfl).trans ((u20 239 7 rfl).trans (u14 239 7 rfl)))
        have e39 : h31 239 15 = h 239 15 := ((u31 239 15 rfl).trans ((u20 239 15 rfl).trans (u14 239 15 rfl)))
        have e40 : h31 239 16 = h 239 16 := ((u31 239 16 rfl).trans ((u20 239 16 rfl).trans (u14 239 16 rfl)))
        have e41 : h31 239 17 = h 239 17 := ((u31 239 17 rfl).trans ((u20 239 17 rfl).trans (u14 239 17 rfl)))
        have e42 : h31 239 18 = h 239 18 := ((u31 239 18 rfl).trans ((u20 239 18 rfl).trans (u14 239 18 rfl)))
        exact k h31 g31 F32 (show (h 236 4) ≤ (h31 236 4) by omega) (show (h31 236 4) ≤ (h 236 3) by omega) (show 1 ≤ (h31 236 8) ∨ ((h31 239 5) ≤ 9 ∧ 1 ≤ (h31 239 5) ∧ (h31 239 7) ≤ 3 ∧ (h31 239 15) ≤ 6 ∧ (h31 239 16) ≤ 6 ∧ (h31 239 17) ≤ 6 ∧ (h31 239 18) ≤ 6) by omega)
  ·
    refine wi_aload_n (i := 0) (x := 236) (nx := 11) (r1 := 0) (r2 := 0) (r3 := 0) rfl rfl ?_
    refine wi_iconst (n := 5) (nx := 12) (r1 := 0) (r2 := 0) (r3 := 0) rfl ?_
    refine wr_V (k0 := 236) (rest := []) (as := [.ref 236, vi 5]) (nx := 15) (r1 := 224) (r2 := 1) (r3 := 11) rfl rfl rfl (of_decide_eq_true rfl) rfl rfl (by decide) rfl rfl (of_decide_eq_true rfl) (of_decide_eq_true rfl) ?_
    refine ct_224_236 hcr  g 5 (by omega)  (fun h12 g12 u12 (p12_0 : 1 ≤ (h12 236 8)) => ?_)
    have F13 := F0.then (by decide +kernel) u12
    have b14 := gi_b (lo := 0) (hi := 5) g12 236 8 rfl
    refine wk_n ?_
    refine wi_aload_n (i := 0) (x := 236) (nx := 16) (r1 := 0) (r2 := 0) (r3 := 0) rfl rfl ?_
    refine wr_V (k0 := 236) (rest := []) (as := [.ref 236]) (nx := 19) (r1 := 219) (r2 := 0) (r3 := 11) rfl rfl rfl (of_decide_eq_true rfl) rfl rfl (by decide) rfl rfl (of_decide_eq_true rfl) (of_decide_eq_true rfl) ?_
    refine wi_aload_n (i := 0) (x := 236) (nx := 1) (r1 := 0) (r2 := 0) (r3 := 0) rfl rfl ?_
    refine wr_gi0 (k0 := 236) (x := h12 236 8) (nx := 4) (r1 := 11) (r2 := 8) (r3 := 0) rfl rfl (by decide) rfl ⟨rfl, rfl⟩ rfl rfl ?_
    refine wi_if (cd := .ne) (nx := 7) (r1 := 11) (r2 := 0) (r3 := 0) rfl (by omega) (fun (q15 : (h12 236 8) ≠ 0) => ?_) (fun (q15 : ¬ ((h12 236 8) ≠ 0)) => by exfalso; omega)
    refine wi_iconst (n := 0) (nx := 12) (r1 := 0) (r2 := 0) (r3 := 0) rfl ?_
    refine wi_zreturn (nx := 13) (r1 := 0) (r2 := 0) (r3 := 0) rfl rfl (by omega) ?_
    refine wk_i ?_
    refine wi_if (cd := .eq) (nx := 22) (r1 := 26) (r2 := 0) (r3 := 0) rfl (by omega) (fun (q16 : 0 = 0) => ?_) (fun (q16 : ¬ (0 = 0)) => by exfalso; omega)
    refine wi_aload_n (i := 0) (x := 236) (nx := 27) (r1 := 0) (r2 := 0) (r3 := 0) rfl rfl ?_
    refine wr_V (k0 := 236) (rest := []) (as := [.ref 236]) (nx := 30) (r1 := 219) (r2 := 0) (r3 := 11) rfl rfl rfl (of_decide_eq_true rfl) rfl rfl (by decide) rfl rfl (of_decide_eq_true rfl) (of_decide_eq_true rfl) ?_
    refine wi_aload_n (i := 0) (x := 236) (nx := 1) (r1 := 0) (r2 := 0) (r3 := 0) rfl rfl ?_
    refine wr_gi0 (k0 := 236) (x := h12 236 8) (nx := 4) (r1 := 11) (r2 := 8) (r3 := 0) rfl rfl (by decide) rfl ⟨rfl, rfl⟩ rfl rfl ?_
    refine wi_if (cd := .ne) (nx := 7) (r1 := 11) (r2 := 0) (r3 := 0) rfl (by omega) (fun (q17 : (h12 236 8) ≠ 0) => ?_) (fun (q17 : ¬ ((h12 236 8) ≠ 0)) => by exfalso; omega)
    refine wi_iconst (n := 0) (nx := 12) (r1 := 0) (r2 := 0) (r3 := 0) rfl ?_
    refine wi_zreturn (nx := 13) (r1 := 0) (r2 := 0) (r3 := 0) rfl rfl (by omega) ?_
    refine wk_i ?_
    refine wi_zreturn (nx := 31) (r1 := 0) (r2 := 0) (r3 := 0) rfl rfl (by omega) ?_
    refine wk_i ?_
    refine wi_if (cd := .ne) (nx := 17) (r1 := 18) (r2 := 0) (r3 := 0) rfl (by omega) (fun (q18 : 0 ≠ 0) => by exfalso; omega) (fun (q18 : ¬ (0 ≠ 0)) => ?_)
    refine wi_return (nx := 18) (r1 := 0) (r2 := 0) (r3 := 0) rfl rfl ?_
    have e19 : h12 236 4 = h 236 4 := (u12 236 4 rfl)
    have e20 : h12 239 5 = h 239 5 := (u12 239 5 rfl)
    have e21 : h12 239 7 = h 239 7 := (u12 239 7 rfl)
    have e22 : h12 239 15 = h 239 15 := (u12 239 15 rfl)
    have e23 : h12 239 16 = h 239 16 := (u12 239 16 rfl)
    have e24 : h12 239 17 = h 239 17 := (u12 239 17 rfl)
    have e25 : h12 239 18 = h 239 18 := (u12 239 18 rfl)
    exact k h12 g12 F13 (show (h 236 4) ≤ (h12 236 4) by omega) (show (h12 236 4) ≤ (h 236 3) by omega) (show 1 ≤ (h12 236 8) ∨ ((h12 239 5) ≤ 9 ∧ 1 ≤ (h12 239 5) ∧ (h12 239 7) ≤ 3 ∧ (h12 239 15) ≤ 6 ∧ (h12 239 16) ≤ 6 ∧ (h12 239 17) ≤ 6 ∧ (h12 239 18) ≤ 6) by omega)
