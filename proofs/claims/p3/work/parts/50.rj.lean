-- method 347: Model.tellName(J)V
set_option maxRecDepth 100000 in
set_option maxHeartbeats 100000000 in
theorem ct_347_236 {L : Nat} {xs : Nat → Int32} {d b c : Nat} {h : hp} {cr : Nat → Nat → Option Nat} {Q : hp_Q} (hcr : CR cr)  (g : GI h) (a0 : Int) (q0_ : -9223372036854775808 ≤ a0 ∧ a0 ≤ 9223372036854775807) (pp0 : h 236 47 ≤ 291) (k : ∀ (h2 : hp) , GI h2 → FR [(258, 258, none), (236, 236, some (47, 47))] h h2 → (h2 236 47 ≤ h 236 47 + 8) → Q (.inl none) (hp_w h2 cr) b c) : wp (md_xa (L, xs)) (d + 1) 347 (0, [(0, .ref 236), (1, vl a0)], [], hp_w h cr, b, c) Q := by
  have F0 : FR [(258, 258, none), (236, 236, some (47, 47))] h h := FR.refl
  have b1 := gi_b (lo := 0) (hi := 300) g 236 47 rfl
  refine wi_iconst (n := 0) (nx := 1) (r1 := 0) (r2 := 0) (r3 := 0) rfl ?_
  refine wi_istore_n (i := 3) (e := 0) (lo2 := [(3, vi 0), (0, .ref 236), (1, vl a0)]) (nx := 2) (r1 := 0) (r2 := 0) (r3 := 0) rfl rfl ?_
  refine wi_bipush (n := 35) (nx := 4) (r1 := 0) (r2 := 0) (r3 := 0) rfl (by decide) ?_
  refine wi_istore (i := 4) (e := 35) (lo2 := [(4, vi 35), (3, vi 0), (0, .ref 236), (1, vl a0)]) (nx := 6) (r1 := 0) (r2 := 0) (r3 := 0) rfl rfl ?_
  refine wp.lo (lo := [(0, .ref 236), (1, vl a0), (3, vi 0), (4, vi 35)]) ⟨rfl, rfl, rfl, rfl, trivial⟩ rfl ?_
  refine wl_2 (fun x2 x3 h4 => GI h4 ∧ FR [(258, 258, none), (236, 236, some (47, 47))] h h4 ∧ FR [(258, 258, none), (236, 236, some (47, 47))] h h4 ∧ ((0 ≤ x2 ∧ x2 ≤ 1) ∧ (-5 ≤ x3 ∧ x3 ≤ 35) ∧ (5 * (h4 236 47) - 5 * (h 236 47) ≤ 35 - x3))) (fun x2 x3 h4 => ((x3 : Int) - (-5)).toNat) (fun x2 x3 h4 => (6, [(0, .ref 236), (1, vl a0), (3, vi x2), (4, vi x3)], [], hp_w h4 cr, b, c)) ?_ 0 35 h ⟨g, F0, FR.refl, (show (0 ≤ 0 ∧ 0 ≤ 1) ∧ (-5 ≤ 35 ∧ 35 ≤ 35) ∧ (5 * (h 236 47) - 5 * (h 236 47) ≤ 35 - 35) by omega)⟩
  intro x2 x3 h4 ⟨g4, F5, u4, f4⟩ I4
  have b6 := gi_b (lo := 0) (hi := 300) g4 236 47 rfl
  refine wi_iload (i := 4) (e := x3) (nx := 8) (r1 := 0) (r2 := 0) (r3 := 0) rfl rfl ?_
  refine wi_if (cd := .lt) (nx := 11) (r1 := 58) (r2 := 0) (r3 := 0) rfl (by omega) (fun (q7 : x3 < 0) => ?_) (fun (q7 : ¬ (x3 < 0)) => ?_)
  ·
    refine wi_return (nx := 59) (r1 := 0) (r2 := 0) (r3 := 0) rfl rfl ?_
    exact k h4 g4 F5 (show (h4 236 47) ≤ (h 236 47) + 8 by omega)
  ·
    refine wi_lload_n (i := 1) (e := a0) (nx := 12) (r1 := 0) (r2 := 0) (r3 := 0) rfl rfl ?_
    refine wi_iload (i := 4) (e := x3) (nx := 14) (r1 := 0) (r2 := 0) (r3 := 0) rfl rfl ?_
    refine wr_lshrA (nx := 15) (r1 := 0) (r2 := 0) (r3 := 0) rfl (fun e8 (fe8 : -9223372036854775808 ≤ e8 ∧ e8 ≤ 9223372036854775807) => ?_)
    refine wi_ldc2_w (e := 31) (nx := 18) (r1 := 31) (r2 := 0) (r3 := 0) rfl (by decide) ?_
    refine wr_landA (nx := 19) (r1 := 0) (r2 := 0) (r3 := 0) rfl (fun e9 (fe9 : -9223372036854775808 ≤ e9 ∧ e9 ≤ 9223372036854775807) => ?_)
    refine wr_l2iA (nx := 20) (r1 := 0) (r2 := 0) (r3 := 0) rfl (fun e10 (fe10 : -2147483648 ≤ e10 ∧ e10 ≤ 2147483647) => ?_)
    refine wi_istore (i := 5) (e := e10) (lo2 := [(5, vi e10), (0, .ref 236), (1, vl a0), (3, vi x2), (4, vi x3)]) (nx := 22) (r1 := 0) (r2 := 0) (r3 := 0) rfl rfl ?_
    refine wi_iload_n (i := 3) (e := x2) (nx := 23) (r1 := 0) (r2 := 0) (r3 := 0) rfl rfl ?_
    refine wi_if (cd := .ne) (nx := 26) (r1 := 31) (r2 := 0) (r3 := 0) rfl (by omega) (fun (q11 : x2 ≠ 0) => ?_) (fun (q11 : ¬ (x2 ≠ 0)) => ?_)
    ·
      refine wi_iconst (n := 1) (nx := 32) (r1 := 0) (r2 := 0) (r3 := 0) rfl ?_
      refine wi_goto (nx := 35) (r1 := 36) (r2 := 0) (r3 := 0) rfl ?_
      refine wi_istore_n (i := 3) (e := 1) (lo2 := [(3, vi 1), (5, vi e10), (0, .ref 236), (1, vl a0), (4, vi x3)]) (nx := 37) (r1 := 0) (r2 := 0) (r3 := 0) rfl rfl ?_
      refine wi_iload_n (i := 3) (e := 1) (nx := 38) (r1 := 0) (r2 := 0) (r3 := 0) rfl rfl ?_
      refine wi_if (cd := .eq) (nx := 41) (r1 := 52) (r2 := 0) (r3 := 0) rfl (by omega) (fun (q12 : 1 = 0) => by exfalso; omega) (fun (q12 : ¬ (1 = 0)) => ?_)
      refine wi_aload_n (i := 0) (x := 236) (nx := 42) (r1 := 0) (r2 := 0) (r3 := 0) rfl rfl ?_
      refine wi_bipush (n := 97) (nx := 44) (r1 := 0) (r2 := 0) (r3 := 0) rfl (by decide) ?_
      refine wi_iload (i := 5) (e := e10) (nx := 46) (r1 := 0) (r2 := 0) (r3 := 0) rfl rfl ?_
      refine wr_addW (nx := 47) (r1 := 0) (r2 := 0) (r3 := 0) rfl (fun e13 (fe13 : -2147483648 ≤ e13 ∧ e13 ≤ 2147483647) => ?_)
      refine wi_iconst (n := 1) (nx := 48) (r1 := 0) (r2 := 0) (r3 := 0) rfl ?_
      refine wr_subW (nx := 49) (r1 := 0) (r2 := 0) (r3 := 0) rfl (fun e14 (fe14 : -2147483648 ≤ e14 ∧ e14 ≤ 2147483647) => ?_)
      refine wr_V (k0 := 236) (rest := []) (as := [.ref 236, vi e14]) (nx := 52) (r1 := 348) (r2 := 1) (r3 := 11) rfl rfl rfl (of_decide_eq_true rfl) rfl rfl (by decide) rfl rfl (of_decide_eq_true rfl) (of_decide_eq_true rfl) ?_
      refine wi_aload_n (i := 0) (x := 236) (nx := 1) (r1 := 0) (r2 := 0) (r3 := 0) rfl rfl ?_
      refine wr_gr (k0 := 236) (x := 258) (nx := 4) (r1 := 11) (r2 := 46) (r3 := 0) rfl rfl (by decide) rfl ⟨rfl, rfl⟩ rfl ?_
      refine wi_aload_n (i := 0) (x := 236) (nx := 5) (r1 := 0) (r2 := 0) (r3 := 0) rfl rfl ?_
      refine wr_gi0 (k0 := 236) (x := h4 236 47) (nx := 8) (r1 := 11) (r2 := 47) (r3 := 0) rfl rfl (by decide) rfl ⟨rfl, rfl⟩ rfl rfl ?_
      refine wi_iload_n (i := 1) (e := e14) (nx := 9) (r1 := 0) (r2 := 0) (r3 := 0) rfl rfl ?_
      obtain ⟨i15, ei15⟩ : ∃ q : Nat, (h4 236 47) = (q : Int) := ⟨(h4 236 47).toNat, by omega⟩
      refine wr_is (k0 := 258) (a := h4 236 47) (f := i15) (x := e14) (bl := -2147483648) (bh := 2147483647) (nx := 10) (r1 := 0) (r2 := 0) (r3 := 0) rfl (by decide) rfl (by omega) (by omega) (by decide) g4 rfl (by omega) (fun h16 g16 w16 u16 => ?_)
      have F17 := F5.then rfl (FR.rngp (lo := 258) (hi := 258) u16 (by decide))
      have F18 := u4.then rfl (FR.rngp (lo := 258) (hi := 258) u16 (by decide))
      refine wi_aload_n (i := 0) (x := 236) (nx := 11) (r1 := 0) (r2 := 0) (r3 := 0) rfl rfl ?_
      refine wi_dup (nx := 12) (r1 := 0) (r2 := 0) (r3 := 0) rfl rfl ?_
      refine wr_gi0 (k0 := 236) (x := h4 236 47) (nx := 15) (r1 := 11) (r2 := 47) (r3 := 0) rfl rfl (by decide) rfl ⟨rfl, rfl⟩ rfl (u16 236 47 (fn_a (by omega) fn_0)) ?_
      refine wi_iconst (n := 1) (nx := 16) (r1 := 0) (r2 := 0) (r3 := 0) rfl ?_
      refine wr_add (nx := 17) (r1 := 0) (r2 := 0) (r3 := 0) rfl (fun e19 (fe19 : e19 = (h4 236 47) + 1) => ?_)
      refine wr_pf0 (k0 := 236) (x := e19) (bl := 0) (bh := 300) (nx := 20) (r1 := 11) (r2 := 47) (r3 := 0) rfl (by decide) rfl ⟨rfl, rfl⟩ rfl rfl g16 rfl (by omega) (fun h20 g20 w20 u20 => ?_)
      have F21 := F17.then rfl u20
      have F22 := F18.then rfl u20
      refine wi_return (nx := 21) (r1 := 0) (r2 := 0) (r3 := 0) rfl rfl ?_
      refine wk_n ?_
      refine wr_iinc (i := 4) (n := (-5)) (v := x3) (fun e23 => [(4, vi e23), (3, vi 1), (5, vi e10), (0, .ref 236), (1, vl a0)]) (nx := 55) (r1 := 0) (r2 := 0) (r3 := 0) rfl rfl (fun _ => rfl) (fun e23 (fe23 : e23 = x3 + (-5)) => ?_)
      refine wi_goto (nx := 58) (r1 := 6) (r2 := 0) (r3 := 0) rfl ?_
      have e24 : h20 236 47 = e19 := w20
      refine wp.lo (lo := [(0, .ref 236), (1, vl a0), (3, vi 1), (4, vi e23)]) ⟨rfl, rfl, rfl, rfl, trivial⟩ rfl ?_
      exact I4 1 e23 h20 ⟨g20, F21, F22, (show (0 ≤ 1 ∧ 1 ≤ 1) ∧ (-5 ≤ e23 ∧ e23 ≤ 35) ∧ (5 * (h20 236 47) - 5 * (h 236 47) ≤ 35 - e23) by omega)⟩ (show ((e23 : Int) - (-5)).toNat < ((x3 : Int) - (-5)).toNat by omega)
    ·
      refine wi_iload (i := 5) (e := e10) (nx := 28) (r1 := 0) (r2 := 0) (r3 := 0) rfl rfl ?_
      refine wi_if (cd := .le) (nx := 31) (r1 := 35) (r2 := 0) (r3 := 0) rfl (by omega) (fun (q12 : e10 ≤ 0) => ?_) (fun (q12 : ¬ (e10 ≤ 0)) => ?_)
      ·
        refine wi_iconst (n := 0) (nx := 36) (r1 := 0) (r2 := 0) (r3 := 0) rfl ?_
        refine wi_istore_n (i := 3) (e := 0) (lo2 := [(3, vi 0), (5, vi e10), (0, .ref 236), (1, vl a0), (4, vi x3)]) (nx := 37) (r1 := 0) (r2 := 0) (r3 := 0) rfl rfl ?_
        refine wi_iload_n (i := 3) (e := 0) (nx := 38) (r1 := 0) (r2 := 0) (r3 := 0) rfl rfl ?_
        refine wi_if (cd := .eq) (nx := 41) (r1 := 52) (r2 := 0) (r3 := 0) rfl (by omega) (fun (q13 : 0 = 0) => ?_) (fun (q13 : ¬ (0 = 0)) => by exfalso; omega)
        refine wr_iinc (i := 4) (n := (-5)) (v := x3) (fun e14 => [(4, vi e14), (3, vi 0), (5, vi e10), (0, .ref 236), (1, vl a0)]) (nx := 55) (r1 := 0) (r2 := 0) (r3 := 0) rfl rfl (fun _ => rfl) (fun e14 (fe14 : e14 = x3 + (-5)) => ?_)
        refine wi_goto (nx := 58) (r1 := 6) (r2 := 0) (r3 := 0) rfl ?_
        refine wp.lo (lo := [(0, .ref 236), (1, vl a0), (3, vi 0), (4, vi e14)]) ⟨rfl, rfl, rfl, rfl, trivial⟩ rfl ?_
        exact I4 0 e14 h4 ⟨g4, F5, u4, (show (0 ≤ 0 ∧ 0 ≤ 1) ∧ (-5 ≤ e14 ∧ e14 ≤ 35) ∧ (5 * (h4 236 47) - 5 * (h 236 47) ≤ 35 - e14) by omega)⟩ (show ((e14 : Int) - (-5)).toNat < ((x3 : Int) - (-5)).toNat by omega)
      ·
        refine wi_iconst (n := 1) (nx := 32) (r1 := 0) (r2 := 0) (r3 := 0) rfl ?_
        refine wi_goto (nx := 35) (r1 := 36) (r2 := 0) (r3 := 0) rfl ?_
        refine wi_istore_n (i := 3) (e := 1) (lo2 := [(3, vi 1), (5, vi e10), (0, .ref 236), (1, vl a0), (4, vi x3)]) (nx := 37) (r1 := 0) (r2 := 0) (r3 := 0) rfl rfl ?_
        refine wi_iload_n (i := 3) (e := 1) (nx := 38) (r1 := 0) (r2 := 0) (r3 := 0) rfl rfl ?_
        refine wi_if (cd := .eq) (nx := 41) (r1 := 52) (r2 := 0) (r3 := 0) rfl (by omega) (fun (q13 : 1 = 0) => by exfalso; omega) (fun (q13 : ¬ (1 = 0)) => ?_)
        refine wi_aload_n (i := 0) (x := 236) (nx := 42) (r1 := 0) (r2 := 0) (r3 := 0) rfl rfl ?_
        refine wi_bipush (n := 97) (nx := 44) (r1 := 0) (r2 := 0) (r3 := 0) rfl (by decide) ?_
        refine wi_iload (i := 5) (e := e10) (nx := 46) (r1 := 0) (r2 := 0) (r3 := 0) rfl rfl ?_
        refine wr_addW (nx := 47) (r1 := 0) (r2 := 0) (r3 := 0) rfl (fun e14 (fe14 : -2147483648 ≤ e14 ∧ e14 ≤ 2147483647) => ?_)
        refine wi_iconst (n := 1) (nx := 48) (r1 := 0) (r2 := 0) (r3 := 0) rfl ?_
        refine wr_subW (nx := 49) (r1 := 0) (r2 := 0) (r3 := 0) rfl (fun e15 (fe15 : -2147483648 ≤ e15 ∧ e15 ≤ 2147483647) => ?_)
        refine wr_V (k0 := 236) (rest := []) (as := [.ref 236, vi e15]) (nx := 52) (r1 := 348) (r2 := 1) (r3 := 11) rfl rfl rfl (of_decide_eq_true rfl) rfl rfl (by decide) rfl rfl (of_decide_eq_true rfl) (of_decide_eq_true rfl) ?_
        refine wi_aload_n (i := 0) (x := 236) (nx := 1) (r1 := 0) (r2 := 0) (r3 := 0) rfl rfl ?_
        refine wr_gr (k0 := 236) (x := 258) (nx := 4) (r1 := 11) (r2 := 46) (r3 := 0) rfl rfl (by decide) rfl ⟨rfl, rfl⟩ rfl ?_
        refine wi_aload_n (i := 0) (x := 236) (nx := 5) (r1 := 0) (r2 := 0) (r3 := 0) rfl rfl ?_
        refine wr_gi0 (k0 := 236) (x := h4 236 47) (nx := 8) (r1 := 11) (r2 := 47) (r3 := 0) rfl rfl (by decide) rfl ⟨rfl, rfl⟩ rfl rfl ?_
        refine wi_iload_n (i := 1) (e := e15) (nx := 9) (r1 := 0) (r2 := 0) (r3 := 0) rfl rfl ?_
        obtain ⟨i16, ei16⟩ : ∃ q : Nat, (h4 236 47) = (q : Int) := ⟨(h4 236 47).toNat, by omega⟩
        refine wr_is (k0 := 258) (a := h4 236 47) (f := i16) (x := e15) (bl := -2147483648) (bh := 2147483647) (nx := 10) (r1 := 0) (r2 := 0) (r3 := 0) rfl (by decide) rfl (by omega) (by omega) (by decide) g4 rfl (by omega) (fun h17 g17 w17 u17 => ?_)
        have F18 := F5.then rfl (FR.rngp (lo := 258) (hi := 258) u17 (by decide))
        have F19 := u4.then rfl (FR.rngp (lo := 258) (hi := 258) u17 (by decide))
        refine wi_aload_n (i := 0) (x := 236) (nx := 11) (r1 := 0) (r2 := 0) (r3 := 0) rfl rfl ?_
        refine wi_dup (nx := 12) (r1 := 0) (r2 := 0) (r3 := 0) rfl rfl ?_
        refine wr_gi0 (k0 := 236) (x := h4 236 47) (nx := 15) (r1 := 11) (r2 := 47) (r3 := 0) rfl rfl (by decide) rfl ⟨rfl, rfl⟩ rfl (u17 236 47 (fn_a (by omega) fn_0)) ?_
        refine wi_iconst (n := 1) (nx := 16) (r1 := 0) (r2 := 0) (r3 := 0) rfl ?_
        refine wr_add (nx := 17) (r1 := 0) (r2 := 0) (r3 := 0) rfl (fun e20 (fe20 : e20 = (h4 236 47) + 1) => ?_)
        refine wr_pf0 (k0 := 236) (x := e20) (bl := 0) (bh := 300) (nx := 20) (r1 := 11) (r2 := 47) (r3 := 0) rfl (by decide) rfl ⟨rfl, rfl⟩ rfl rfl g17 rfl (by omega) (fun h21 g21 w21 u21 => ?_)
        have F22 := F18.then rfl u21
        have F23 := F19.then rfl u21
        refine wi_return (nx := 21) (r1 := 0) (r2 := 0) (r3 := 0) rfl rfl ?_
        refine wk_n ?_
        refine wr_iinc (i := 4) (n := (-5)) (v := x3) (fun e24 => [(4, vi e24), (3, vi 1), (5, vi e10), (0, .ref 236), (1, vl a0)]) (nx := 55) (r1 := 0) (r2 := 0) (r3 := 0) rfl rfl (fun _ => rfl) (fun e24 (fe24 : e24 = x3 + (-5)) => ?_)
        refine wi_goto (nx := 58) (r1 := 6) (r2 := 0) (r3 := 0) rfl ?_
        have e25 : h21 236 47 = e20 := w21
        refine wp.lo (lo := [(0, .ref 236), (1, vl a0), (3, vi 1), (4, vi e24)]) ⟨rfl, rfl, rfl, rfl, trivial⟩ rfl ?_
        exact I4 1 e24 h21 ⟨g21, F22, F23, (show (0 ≤ 1 ∧ 1 ≤ 1) ∧ (-5 ≤ e24 ∧ e24 ≤ 35) ∧ (5 * (h21 236 47) - 5 * (h 236 47) ≤ 35 - e24) by omega)⟩ (show ((e24 : Int) - (-5)).toNat < ((x3 : Int) - (-5)).toNat by omega)
-- method 349: Model.tellCar(I)V
set_option maxRecDepth 100000 in
set_option maxHeartbeats 100000000 in
theorem ct_349_236 {L : Nat} {xs : Nat → Int32} {d b c : Nat} {h : hp} {cr : Nat → Nat → Option Nat} {Q : hp_Q} (hcr : CR cr)  (g : GI h) (a0 : Int) (q0_ : 0 ≤ a0 ∧ a0 ≤ 11) (pp0 : h 236 47 ≤ 289) (k : ∀ (h2 : hp) , GI h2 → FR [(258, 258, none), (236, 236, some (47, 47))] h h2 → (h2 236 47 ≤ h 236 47 + 10) → Q (.inl none) (hp_w h2 cr) b c) : wp (md_xa (L, xs)) (d + 2) 349 (0, [(0, .ref 236), (1, vi a0)], [], hp_w h cr, b, c) Q := by
  have F0 : FR [(258, 258, none), (236, 236, some (47, 47))] h h := FR.refl
  have b1 := gi_b (lo := 0) (hi := 300) g 236 47 rfl
  refine wi_aload_n (i := 0) (x := 236) (nx := 1) (r1 := 0) (r2 := 0) (r3 := 0) rfl rfl ?_
  refine wi_bipush (n := 32) (nx := 3) (r1 := 0) (r2 := 0) (r3 := 0) rfl (by decide) ?_
  refine wr_V (k0 := 236) (rest := []) (as := [.ref 236, vi 32]) (nx := 6) (r1 := 348) (r2 := 1) (r3 := 11) rfl rfl rfl (of_decide_eq_true rfl) rfl rfl (by decide) rfl rfl (of_decide_eq_true rfl) (of_decide_eq_true rfl) ?_
  refine wi_aload_n (i := 0) (x := 236) (nx := 1) (r1 := 0) (r2 := 0) (r3 := 0) rfl rfl ?_
  refine wr_gr (k0 := 236) (x := 258) (nx := 4) (r1 := 11) (r2 := 46) (r3 := 0) rfl rfl (by decide) rfl ⟨rfl, rfl⟩ rfl ?_
  refine wi_aload_n (i := 0) (x := 236) (nx := 5) (r1 := 0) (r2 := 0) (r3 := 0) rfl rfl ?_
  refine wr_gi0 (k0 := 236) (x := h 236 47) (nx := 8) (r1 := 11) (r2 := 47) (r3 := 0) rfl rfl (by decide) rfl ⟨rfl, rfl⟩ rfl rfl ?_
  refine wi_iload_n (i := 1) (e := 32) (nx := 9) (r1 := 0) (r2 := 0) (r3 := 0) rfl rfl ?_
  obtain ⟨i2, ei2⟩ : ∃ q : Nat, (h 236 47) = (q : Int) := ⟨(h 236 47).toNat, by omega⟩
  refine wr_is (k0 := 258) (a := h 236 47) (f := i2) (x := 32) (bl := -2147483648) (bh := 2147483647) (nx := 10) (r1 := 0) (r2 := 0) (r3 := 0) rfl (by decide) rfl (by omega) (by omega) (by decide) g rfl (by omega) (fun h3 g3 w3 u3 => ?_)
  have F4 := F0.then rfl (FR.rngp (lo := 258) (hi := 258) u3 (by decide))
  refine wi_aload_n (i := 0) (x := 236) (nx := 11) (r1 := 0) (r2 := 0) (r3 := 0) rfl rfl ?_
  refine wi_dup (nx := 12) (r1 := 0) (r2 := 0) (r3 := 0) rfl rfl ?_
  refine wr_gi0 (k0 := 236) (x := h 236 47) (nx := 15) (r1 := 11) (r2 := 47) (r3 := 0) rfl rfl (by decide) rfl ⟨rfl, rfl⟩ rfl (u3 236 47 (fn_a (by omega) fn_0)) ?_
  refine wi_iconst (n := 1) (nx := 16) (r1 := 0) (r2 := 0) (r3 := 0) rfl ?_
  refine wr_add (nx := 17) (r1 := 0) (r2 := 0) (r3 := 0) rfl (fun e5 (fe5 : e5 = (h 236 47) + 1) => ?_)
  refine wr_pf0 (k0 := 236) (x := e5) (bl := 0) (bh := 300) (nx := 20) (r1 := 11) (r2 := 47) (r3 := 0) rfl (by decide) rfl ⟨rfl, rfl⟩ rfl rfl g3 rfl (by omega) (fun h6 g6 w6 u6 => ?_)
  have F7 := F4.then rfl u6
  refine wi_return (nx := 21) (r1 := 0) (r2 := 0) (r3 := 0) rfl rfl ?_
  refine wk_n ?_
  refine wi_aload_n (i := 0) (x := 236) (nx := 7) (r1 := 0) (r2 := 0) (r3 := 0) rfl rfl ?_
  refine wi_aload_n (i := 0) (x := 236) (nx := 8) (r1 := 0) (r2 := 0) (r3 := 0) rfl rfl ?_
  refine wr_gr (k0 := 236) (x := 243) (nx := 11) (r1 := 11) (r2 := 18) (r3 := 0) rfl rfl (by decide) rfl ⟨rfl, rfl⟩ rfl ?_
  refine wi_aload_n (i := 0) (x := 236) (nx := 12) (r1 := 0) (r2 := 0) (r3 := 0) rfl rfl ?_
  refine wr_gr (k0 := 236) (x := 238) (nx := 15) (r1 := 11) (r2 := 13) (r3 := 0) rfl rfl (by decide) rfl ⟨rfl, rfl⟩ rfl ?_
  refine wi_bipush (n := 31) (nx := 17) (r1 := 0) (r2 := 0) (r3 := 0) rfl (by decide) ?_
  refine wi_iload_n (i := 1) (e := a0) (nx := 18) (r1 := 0) (r2 := 0) (r3 := 0) rfl rfl ?_
  refine wr_add (nx := 19) (r1 := 0) (r2 := 0) (r3 := 0) rfl (fun e8 (fe8 : e8 = 31 + a0) => ?_)
  obtain ⟨i9, ei9⟩ : ∃ q : Nat, e8 = (q : Int) := ⟨(e8).toNat, by omega⟩
  have b10 := gi_b (lo := 0) (hi := 4) g 238 i9 (gi_rg 31 12 (fun _ => rfl) (by decide +kernel) (by omega))
  refine wr_ia (k0 := 238) (a := e8) (f := i9) (x := h 238 i9) (nx := 20) (r1 := 0) (r2 := 0) (r3 := 0) rfl (by decide) rfl (by omega) (by omega) (by decide) ((u6 238 i9 (fn_a (by omega) fn_0)).trans (u3 238 i9 (fn_a (by omega) fn_0))) ?_
  obtain ⟨i11, ei11⟩ : ∃ q : Nat, (h 238 i9) = (q : Int) := ⟨(h 238 i9).toNat, by omega⟩
  have b12 := gi_b (lo := -9223372036854775808) (hi := 9223372036854775807) g 243 i11 rfl
  refine wr_la (k0 := 243) (a := h 238 i9) (f := i11) (x := h 243 i11) (nx := 21) (r1 := 0) (r2 := 0) (r3 := 0) rfl (by decide) rfl (by omega) (by omega) (by decide) ((u6 243 i11 (fn_a (by omega) fn_0)).trans (u3 243 i11 (fn_a (by omega) fn_0))) ?_
  refine wr_V (k0 := 236) (rest := []) (as := [.ref 236, vl (h 243 i11)]) (nx := 24) (r1 := 347) (r2 := 1) (r3 := 11) rfl rfl rfl (of_decide_eq_true rfl) rfl rfl (by decide) rfl rfl (of_decide_eq_true rfl) (of_decide_eq_true rfl) ?_
  have e14 : h6 236 47 = e5 := w6
  refine ct_347_236 hcr  g6 (h 243 i11) (by omega) (show (h6 236 47) ≤ 291 by omega) (fun h13 g13 u13 (p13_0 : (h13 236 47) ≤ (h6 236 47) + 8) => ?_)
  have F15 := F7.then (by decide +kernel) u13
  have b16 := gi_b (lo := 0) (hi := 300) g13 236 47 rfl
  refine wk_n ?_
  refine wi_aload_n (i := 0) (x := 236) (nx := 25) (r1 := 0) (r2 := 0) (r3 := 0) rfl rfl ?_
  refine wi_bipush (n := 48) (nx := 27) (r1 := 0) (r2 := 0) (r3 := 0) rfl (by decide) ?_
  refine wi_aload_n (i := 0) (x := 236) (nx := 28) (r1 := 0) (r2 := 0) (r3 := 0) rfl rfl ?_
  refine wr_gr (k0 := 236) (x := 238) (nx := 31) (r1 := 11) (r2 := 13) (r3 := 0) rfl rfl (by decide) rfl ⟨rfl, rfl⟩ rfl ?_
  refine wi_bipush (n := 19) (nx := 33) (r1 := 0) (r2 := 0) (r3 := 0) rfl (by decide) ?_
  refine wi_iload_n (i := 1) (e := a0) (nx := 34) (r1 := 0) (r2 := 0) (r3 := 0) rfl rfl ?_
  refine wr_add (nx := 35) (r1 := 0) (r2 := 0) (r3 := 0) rfl (fun e17 (fe17 : e17 = 19 + a0) => ?_)
  obtain ⟨i18, ei18⟩ : ∃ q : Nat, e17 = (q : Int) := ⟨(e17).toNat, by omega⟩
  have b19 := gi_b (lo := 0) (hi := 999) g 238 i18 (gi_rg 19 12 (fun _ => rfl) (by decide +kernel) (by omega))
  refine wr_ia (k0 := 238) (a := e17) (f := i18) (x := h 238 i18) (nx := 36) (r1 := 0) (r2 := 0) (r3 := 0) rfl (by decide) rfl (by omega) (by omega) (by decide) ((u13 238 i18 (fn_a (by omega) (fn_a (by omega) fn_0))).trans ((u6 238 i18 (fn_a (by omega) fn_0)).trans (u3 238 i18 (fn_a (by omega) fn_0)))) ?_
  refine wr_add (nx := 37) (r1 := 0) (r2 := 0) (r3 := 0) rfl (fun e20 (fe20 : e20 = 48 + (h 238 i18)) => ?_)
  refine wr_V (k0 := 236) (rest := []) (as := [.ref 236, vi e20]) (nx := 40) (r1 := 348) (r2 := 1) (r3 := 11) rfl rfl rfl (of_decide_eq_true rfl) rfl rfl (by decide) rfl rfl (of_decide_eq_true rfl) (of_decide_eq_true rfl) ?_
  refine wi_aload_n (i := 0) (x := 236) (nx := 1) (r1 := 0) (r2 := 0) (r3 := 0) rfl rfl ?_
  refine wr_gr (k0 := 236) (x := 258) (nx := 4) (r1 := 11) (r2 := 46) (r3 := 0) rfl rfl (by decide) rfl ⟨rfl, rfl⟩ rfl ?_
  refine wi_aload_n (i := 0) (x := 236) (nx := 5) (r1 := 0) (r2 := 0) (r3 := 0) rfl rfl ?_
  refine wr_gi0 (k0 := 236) (x := h13 236 47) (nx := 8) (r1 := 11) (r2 := 47) (r3 := 0) rfl rfl (by decide) rfl ⟨rfl, rfl⟩ rfl rfl ?_
  refine wi_iload_n (i := 1) (e := e20) (nx := 9) (r1 := 0) (r2 := 0) (r3 := 0) rfl rfl ?_
  obtain ⟨i21, ei21⟩ : ∃ q : Nat, (h13 236 47) = (q : Int) := ⟨(h13 236 47).toNat, by omega⟩
  refine wr_is (k0 := 258) (a := h13 236 47) (f := i21) (x := e20) (bl := -2147483648) (bh := 2147483647) (nx := 10) (r1 := 0) (r2 := 0) (r3 := 0) rfl (by decide) rfl (by omega) (by omega) (by decide) g13 rfl (by omega) (fun h22 g22 w22 u22 => ?_)
  have F23 := F15.then rfl (FR.rngp (lo := 258) (hi := 258) u22 (by decide))
  refine wi_aload_n (i := 0) (x := 236) (nx := 11) (r1 := 0) (r2 := 0) (r3 := 0) rfl rfl ?_
  refine wi_dup (nx := 12) (r1 := 0) (r2 := 0) (r3 := 0) rfl rfl ?_
  refine wr_gi0 (k0 := 236) (x := h13 236 47) (nx := 15) (r1 := 11) (r2 := 47) (r3 := 0) rfl rfl (by decide) rfl ⟨rfl, rfl⟩ rfl (u22 236 47 (fn_a (by omega) fn_0)) ?_
  refine wi_iconst (n := 1) (nx := 16) (r1 := 0) (r2 := 0) (r3 := 0) rfl ?_
  refine wr_add (nx := 17) (r1 := 0) (r2 := 0) (r3 := 0) rfl (fun e24 (fe24 : e24 = (h13 236 47) + 1) => ?_)
  refine wr_pf0 (k0 := 236) (x := e24) (bl := 0) (bh := 300) (nx := 20) (r1 := 11) (r2 := 47) (r3 := 0) rfl (by decide) rfl ⟨rfl, rfl⟩ rfl rfl g22 rfl (by omega) (fun h25 g25 w25 u25 => ?_)
  have F26 := F23.then rfl u25
  refine wi_return (nx := 21) (r1 := 0) (r2 := 0) (r3 := 0) rfl rfl ?_
  refine wk_n ?_
  refine wi_return (nx := 41) (r1 := 0) (r2 := 0) (r3 := 0) rfl rfl ?_
  have e27 : h25 236 47 = e24 := w25
  exact k h25 g25 F26 (show (h25 236 47) ≤ (h 236 47) + 10 by omega)
-- method 346: Model.report()I
set_option maxRecDepth 100000 in
set_option maxHeartbeats 100000000 in
theorem ct_346_236 {L : Nat} {xs : Nat → Int32} {d b c : Nat} {h : hp} {cr : Nat → Nat → Option Nat} {Q : hp_Q} (hcr : CR cr)  (g : GI h)   (pp0 : h 238 98 + h 238 99 + h 238 100 + h 238 101 + h 238 102 + h 238 106 = h 238 73) (pp1 : h 238 73 ≤ h 238 2) (pp2 : h 238 119 ≤ h 238 67) (pp3 : h 238 69 ≤ h 238 5) (pp4 : h 238 2 ≤ 12 * h 238 5) (k : ∀ (h2 : hp) (z0 : Int) , GI h2 → FR [(258, 258, none), (236, 236, some (0, 0)), (236, 236, some (47, 47)), (236, 236, some (48, 48))] h h2 → (1 ≤ z0 ∧ z0 ≤ 301) → Q (.inl (some (vi z0))) (hp_w h2 cr) b c) : wp (md_xa (L, xs)) (d + 3) 346 (0, [(0, .ref 236)], [], hp_w h cr, b, c) Q := by
  have F0 : FR [(258, 258, none), (236, 236, some (0, 0)), (236, 236, some (47, 47)), (236, 236, some (48, 48))] h h := FR.refl
  have b1 := gi_b (lo := 0) (hi := 6) g 238 98 rfl
  have b2 := gi_b (lo := 0) (hi := 6) g 238 99 rfl
  have b3 := gi_b (lo := 0) (hi := 6) g 238 100 rfl
  have b4 := gi_b (lo := 0) (hi := 6) g 238 101 rfl
  have b5 := gi_b (lo := 0) (hi := 3) g 238 102 rfl
  have b6 := gi_b (lo := 0) (hi := 12) g 238 106 rfl
  have b7 := gi_b (lo := 0) (hi := 12) g 238 73 rfl
  have b8 := gi_b (lo := 0) (hi := 12) g 238 2 rfl
  have b9 := gi_b (lo := 0) (hi := 9999) g 238 119 rfl
  have b10 := gi_b (lo := 0) (hi := 9999) g 238 67 rfl
  have b11 := gi_b (lo := 0) (hi := 9) g 238 69 rfl
  have b12 := gi_b (lo := 0) (hi := 9) g 238 5 rfl
  refine wi_aload_n (i := 0) (x := 236) (nx := 1) (r1 := 0) (r2 := 0) (r3 := 0) rfl rfl ?_
  refine wi_iconst (n := 0) (nx := 2) (r1 := 0) (r2 := 0) (r3 := 0) rfl ?_
  refine wr_pf0 (k0 := 236) (x := 0) (bl := 0) (bh := 2) (nx := 5) (r1 := 11) (r2 := 0) (r3 := 0) rfl (by decide) rfl ⟨rfl, rfl⟩ rfl rfl g rfl (by omega) (fun h13 g13 w13 u13 => ?_)
  have F14 := F0.then rfl u13
  refine wi_aload_n (i := 0) (x := 236) (nx := 6) (r1 := 0) (r2 := 0) (r3 := 0) rfl rfl ?_
  refine wi_iconst (n := 0) (nx := 7) (r1 := 0) (r2 := 0) (r3 := 0) rfl ?_
  refine wr_pf0 (k0 := 236) (x := 0) (bl := 0) (bh := 300) (nx := 10) (r1 := 11) (r2 := 47) (r3 := 0) rfl (by decide) rfl ⟨rfl, rfl⟩ rfl rfl g13 rfl (by omega) (fun h15 g15 w15 u15 => ?_)
  have F16 := F14.then rfl u15
  refine wi_aload_n (i := 0) (x := 236) (nx := 11) (r1 := 0) (r2 := 0) (r3 := 0) rfl rfl ?_
  refine wi_iconst (n := 1) (nx := 12) (r1 := 0) (r2 := 0) (r3 := 0) rfl ?_
  refine wr_pf2 (k0 := 236) (x := 1) (bl := 0) (bh := 1) (nx := 15) (r1 := 11) (r2 := 48) (r3 := 2) rfl (by decide) rfl ⟨rfl, rfl⟩ rfl (by omega) rfl g15 rfl (by omega) (fun h17 g17 w17 u17 => ?_)
  have F18 := F16.then rfl u17
  refine wi_iconst (n := 0) (nx := 16) (r1 := 0) (r2 := 0) (r3 := 0) rfl ?_
  refine wi_istore_n (i := 1) (e := 0) (lo2 := [(1, vi 0), (0, .ref 236)]) (nx := 17) (r1 := 0) (r2 := 0) (r3 := 0) rfl rfl ?_
  refine wi_iload_n (i := 1) (e := 0) (nx := 18) (r1 := 0) (r2 := 0) (r3 := 0) rfl rfl ?_
  refine wi_aload_n (i := 0) (x := 236) (nx := 19) (r1 := 0) (r2 := 0) (r3 := 0) rfl rfl ?_
  refine wr_gr (k0 := 236) (x := 238) (nx := 22) (r1 := 11) (r2 := 13) (r3 := 0) rfl rfl (by decide) rfl ⟨rfl, rfl⟩ rfl ?_
  refine wi_iconst (n := 1) (nx := 23) (r1 := 0) (r2 := 0) (r3 := 0) rfl ?_
  have b19 := gi_b (lo := 0) (hi := 4) g 238 1 rfl
  refine wr_ia (k0 := 238) (a := 1) (f := 1) (x := h 238 1) (nx := 24) (r1 := 0) (r2 := 0) (r3 := 0) rfl (by decide) rfl (by omega) (by omega) (by decide) ((u17 238 1 rfl).trans ((u15 238 1 rfl).trans (u13 238 1 rfl))) ?_
  refine wi_icmp (cd := .ge) (nx := 27) (r1 := 91) (r2 := 0) (r3 := 0) rfl (by omega) (by omega) (fun (q20 : (h 238 1) ≤ 0) => ?_) (fun (q20 : ¬ ((h 238 1) ≤ 0)) => ?_)
  ·
    refine wi_aload_n (i := 0) (x := 236) (nx := 92) (r1 := 0) (r2 := 0) (r3 := 0) rfl rfl ?_
    refine wi_ldc2_w (e := 16052) (nx := 95) (r1 := 16052) (r2 := 0) (r3 := 0) rfl (by decide) ?_
    refine wr_V (k0 := 236) (rest := []) (as := [.ref 236, vl 16052]) (nx := 98) (r1 := 347) (r2 := 1) (r3 := 11) rfl rfl rfl (of_decide_eq_true rfl) rfl rfl (by decide) rfl rfl (of_decide_eq_true rfl) (of_decide_eq_true rfl) ?_
    have e22 : h17 236 47 = 0 := ((u17 236 47 rfl).trans w15)
    refine ct_347_236 hcr  g17 16052 (by omega) (show (h17 236 47) ≤ 291 by omega) (fun h21 g21 u21 (p21_0 : (h21 236 47) ≤ (h17 236 47) + 8) => ?_)
    have F23 := F18.then (by decide +kernel) u21
    have b24 := gi_b (lo := 0) (hi := 300) g21 236 47 rfl
    refine wk_n ?_
    refine wi_iconst (n := 0) (nx := 99) (r1 := 0) (r2 := 0) (r3 := 0) rfl ?_
    refine wi_istore_n (i := 1) (e := 0) (lo2 := [(1, vi 0), (0, .ref 236)]) (nx := 100) (r1 := 0) (r2 := 0) (r3 := 0) rfl rfl ?_
    have e27 : h21 238 106 = h 238 106 := ((u21 238 106 rfl).trans ((u17 238 106 rfl).trans ((u15 238 106 rfl).trans (u13 238 106 rfl))))
    refine wp.lo (lo := [(0, .ref 236), (1, vi 0)]) ⟨rfl, rfl, trivial⟩ rfl ?_
    refine wl_1 (fun x25 h26 => GI h26 ∧ FR [(258, 258, none), (236, 236, some (0, 0)), (236, 236, some (47, 47)), (236, 236, some (48, 48))] h h26 ∧ FR [(258, 258, none), (236, 236, some (47, 47))] h21 h26 ∧ ((0 ≤ x25 ∧ x25 ≤ 12) ∧ ((h26 236 47) ≤ (h21 236 47) + 10 * x25) ∧ (x25 ≤ (h21 238 106)))) (fun x25 h26 => ((12 : Int) + 1 - x25).toNat) (fun x25 h26 => (100, [(0, .ref 236), (1, vi x25)], [], hp_w h26 cr, b, c)) ?_ 0 h21 ⟨g21, F23, FR.refl, (show (0 ≤ 0 ∧ 0 ≤ 12) ∧ ((h21 236 47) ≤ (h21 236 47) + 10 * 0) ∧ (0 ≤ (h21 238 106)) by omega)⟩
    intro x25 h26 ⟨g26, F28, u26, f26⟩ I26
    have b29 := gi_b (lo := 0) (hi := 300) g26 236 47 rfl
    refine wi_iload_n (i := 1) (e := x25) (nx := 101) (r1 := 0) (r2 := 0) (r3 := 0) rfl rfl ?_
    refine wi_aload_n (i := 0) (x := 236) (nx := 102) (r1 := 0) (r2 := 0) (r3 := 0) rfl rfl ?_
    refine wr_gr (k0 := 236) (x := 238) (nx := 105) (r1 := 11) (r2 := 13) (r3 := 0) rfl rfl (by decide) rfl ⟨rfl, rfl⟩ rfl ?_
    refine wi_bipush (n := 106) (nx := 107) (r1 := 0) (r2 := 0) (r3 := 0) rfl (by decide) ?_
    refine wr_ia (k0 := 238) (a := 106) (f := 106) (x := h 238 106) (nx := 108) (r1 := 0) (r2 := 0) (r3 := 0) rfl (by decide) rfl (by omega) (by omega) (by decide) ((u26 238 106 rfl).trans ((u21 238 106 rfl).trans ((u17 238 106 rfl).trans ((u15 238 106 rfl).trans (u13 238 106 rfl))))) ?_
    refine wi_icmp (cd := .ge) (nx := 111) (r1 := 130) (r2 := 0) (r3 := 0) rfl (by omega) (by omega) (fun (q30 : (h 238 106) ≤ x25) => ?_) (fun (q30 : ¬ ((h 238 106) ≤ x25)) => ?_)
    ·
      refine wi_aload_n (i := 0) (x := 236) (nx := 131) (r1 := 0) (r2 := 0) (r3 := 0) rfl rfl ?_
      refine wi_bipush (n := 10) (nx := 133) (r1 := 0) (r2 := 0) (r3 := 0) rfl (by decide) ?_
      refine wr_V (k0 := 236) (rest := []) (as := [.ref 236, vi 10]) (nx := 136) (r1 := 348) (r2 := 1) (r3 := 11) rfl rfl rfl (of_decide_eq_true rfl) rfl rfl (by decide) rfl rfl (of_decide_eq_true rfl) (of_decide_eq_true rfl) ?_
      refine wi_aload_n (i := 0) (x := 236) (nx := 1) (r1 := 0) (r2 := 0) (r3 := 0) rfl rfl ?_
      refine wr_gr (k0 := 236) (x := 258) (nx := 4) (r1 := 11) (r2 := 46) (r3 := 0) rfl rfl (by decide) rfl ⟨rfl, rfl⟩ rfl ?_
      refine wi_aload_n (i := 0) (x := 236) (nx := 5) (r1 := 0) (r2 := 0) (r3 := 0) rfl rfl ?_
      refine wr_gi0 (k0 := 236) (x := h26 236 47) (nx := 8) (r1 := 11) (r2 := 47) (r3 := 0) rfl rfl (by decide) rfl ⟨rfl, rfl⟩ rfl rfl ?_
      refine wi_iload_n (i := 1) (e := 10) (nx := 9) (r1 := 0) (r2 := 0) (r3 := 0) rfl rfl ?_
      obtain ⟨i31, ei31⟩ : ∃ q : Nat, (h26 236 47) = (q : Int) := ⟨(h26 236 47).toNat, by omega⟩
      refine wr_is (k0 := 258) (a := h26 236 47) (f := i31) (x := 10) (bl := -2147483648) (bh := 2147483647) (nx := 10) (r1 := 0) (r2 := 0) (r3 := 0) rfl (by decide) rfl (by omega) (by omega) (by decide) g26 rfl (by omega) (fun h32 g32 w32 u32 => ?_)
      have F33 := F28.then rfl (FR.rngp (lo := 258) (hi := 258) u32 (by decide))
      refine wi_aload_n (i := 0) (x := 236) (nx := 11) (r1 := 0) (r2 := 0) (r3 := 0) rfl rfl ?_
      refine wi_dup (nx := 12) (r1 := 0) (r2 := 0) (r3 := 0) rfl rfl ?_
      refine wr_gi0 (k0 := 236) (x := h26 236 47) (nx := 15) (r1 := 11) (r2 := 47) (r3 := 0) rfl rfl (by decide) rfl ⟨rfl, rfl⟩ rfl (u32 236 47 (fn_a (by omega) fn_0)) ?_
      refine wi_iconst (n := 1) (nx := 16) (r1 := 0) (r2 := 0) (r3 := 0) rfl ?_
      refine wr_add (nx := 17) (r1 := 0) (r2 := 0) (r3 := 0) rfl (fun e34 (fe34 : e34 = (h26 236 47) + 1) => ?_)
      refine wr_pf0 (k0 := 236) (x := e34) (bl := 0) (bh := 300) (nx := 20) (r1 := 11) (r2 := 47) (r3 := 0) rfl (by decide) rfl ⟨rfl, rfl⟩ rfl rfl g32 rfl (by omega) (fun h35 g35 w35 u35 => ?_)
      have F36 := F33.then rfl u35
      refine wi_return (nx := 21) (r1 := 0) (r2 := 0) (r3 := 0) rfl rfl ?_
      refine wk_n ?_
      refine wi_aload_n (i := 0) (x := 236) (nx := 137) (r1 := 0) (r2 := 0) (r3 := 0) rfl rfl ?_
      refine wr_gi0 (k0 := 236) (x := e34) (nx := 140) (r1 := 11) (r2 := 47) (r3 := 0) rfl rfl (by decide) rfl ⟨rfl, rfl⟩ rfl w35 ?_
      refine wi_ireturn (nx := 141) (r1 := 0) (r2 := 0) (r3 := 0) rfl rfl ?_
      exact k h35 e34 g35 F36 (by omega)
    ·
      refine wi_aload_n (i := 0) (x := 236) (nx := 112) (r1 := 0) (r2 := 0) (r3 := 0) rfl rfl ?_
      refine wi_aload_n (i := 0) (x := 236) (nx := 113) (r1 := 0) (r2 := 0) (r3 := 0) rfl rfl ?_
      refine wr_gr (k0 := 236) (x := 238) (nx := 116) (r1 := 11) (r2 := 13) (r3 := 0) rfl rfl (by decide) rfl ⟨rfl, rfl⟩ rfl ?_
      refine wi_bipush (n := 107) (nx := 118) (r1 := 0) (r2 := 0) (r3 := 0) rfl (by decide) ?_
      refine wi_iload_n (i := 1) (e := x25) (nx := 119) (r1 := 0) (r2 := 0) (r3 := 0) rfl rfl ?_
      refine wr_add (nx := 120) (r1 := 0) (r2 := 0) (r3 := 0) rfl (fun e31 (fe31 : e31 = 107 + x25) => ?_)
      obtain ⟨i32, ei32⟩ : ∃ q : Nat, e31 = (q : Int) := ⟨(e31).toNat, by omega⟩
      have b33 := gi_b (lo := 0) (hi := 11) g 238 i32 (gi_rg 107 12 (fun _ => rfl) (by decide +kernel) (by omega))
      refine wr_ia (k0 := 238) (a := e31) (f := i32) (x := h 238 i32) (nx := 121) (r1 := 0) (r2 := 0) (r3 := 0) rfl (by decide) rfl (by omega) (by omega) (by decide) ((u26 238 i32 (fn_a (by omega) (fn_a (by omega) fn_0))).trans ((u21 238 i32 (fn_a (by omega) (fn_a (by omega) fn_0))).trans ((u17 238 i32 (fn_a (by omega) fn_0)).trans ((u15 238 i32 (fn_a (by omega) fn_0)).trans (u13 238 i32 (fn_a (by omega) fn_0)))))) ?_
      refine wr_V (k0 := 236) (rest := []) (as := [.ref 236, vi (h 238 i32)]) (nx := 124) (r1 := 349) (r2 := 1) (r3 := 11) rfl rfl rfl (of_decide_eq_true rfl) rfl rfl (by decide) rfl rfl (of_decide_eq_true rfl) (of_decide_eq_true rfl) ?_
      refine ct_349_236 hcr  g26 (h 238 i32) (by omega) (show (h26 236 47) ≤ 289 by omega) (fun h34 g34 u34 (p34_0 : (h34 236 47) ≤ (h26 236 47) + 10) => ?_)
      have F35 := F28.then (by decide +kernel) u34
      have F36 := u26.then (by decide +kernel) u34
      have b37 := gi_b (lo := 0) (hi := 300) g34 236 47 rfl
      refine wk_n ?_
      refine wr_iinc (i := 1) (n := 1) (v := x25) (fun e38 => [(1, vi e38), (0, .ref 236)]) (nx := 127) (r1 := 0) (r2 := 0) (r3 := 0) rfl rfl (fun _ => rfl) (fun e38 (fe38 : e38 = x25 + 1) => ?_)
      refine wi_goto (nx := 130) (r1 := 100) (r2 := 0) (r3 := 0) rfl ?_
      refine wp.lo (lo := [(0, .ref 236), (1, vi e38)]) ⟨rfl, rfl, trivial⟩ rfl ?_
      exact I26 e38 h34 ⟨g34, F35, F36, (show (0 ≤ e38 ∧ e38 ≤ 12) ∧ ((h34 236 47) ≤ (h21 236 47) + 10 * e38) ∧ (e38 ≤ (h21 238 106)) by omega)⟩ (show ((12 : Int) + 1 - e38).toNat < ((12 : Int) + 1 - x25).toNat by omega)
  ·
    refine wi_aload_n (i := 0) (x := 236) (nx := 28) (r1 := 0) (r2 := 0) (r3 := 0) rfl rfl ?_
    refine wi_ldc2_w (e := 394693) (nx := 31) (r1 := 394693) (r2 := 0) (r3 := 0) rfl (by decide) ?_
    refine wr_V (k0 := 236) (rest := []) (as := [.ref 236, vl 394693]) (nx := 34) (r1 := 347) (r2 := 1) (r3 := 11) rfl rfl rfl (of_decide_eq_true rfl) rfl rfl (by decide) rfl rfl (of_decide_eq_true rfl) (of_decide_eq_true rfl) ?_
    have e22 : h17 236 47 = 0 := ((u17 236 47 rfl).trans w15)
    refine ct_347_236 hcr  g17 394693 (by omega) (show (h17 236 47) ≤ 291 by omega) (fun h21 g21 u21 (p21_0 : (h21 236 47) ≤ (h17 236 47) + 8) => ?_)
    have F23 := F18.then (by decide +kernel) u21
    have b24 := gi_b (lo := 0) (hi := 300) g21 236 47 rfl
    refine wk_n ?_
    refine wi_aload_n (i := 0) (x := 236) (nx := 35) (r1 := 0) (r2 := 0) (r3 := 0) rfl rfl ?_
    refine wi_bipush (n := 32) (nx := 37) (r1 := 0) (r2 := 0) (r3 := 0) rfl (by decide) ?_
    refine wr_V (k0 := 236) (rest := []) (as := [.ref 236, vi 32]) (nx := 40) (r1 := 348) (r2 := 1) (r3 := 11) rfl rfl rfl (of_decide_eq_true rfl) rfl rfl (by decide) rfl rfl (of_decide_eq_true rfl) (of_decide_eq_true rfl) ?_
    refine wi_aload_n (i := 0) (x := 236) (nx := 1) (r1 := 0) (r2 := 0) (r3 := 0) rfl rfl ?_
    refine wr_gr (k0 := 236) (x := 258) (nx := 4) (r1 := 11) (r2 := 46) (r3 := 0) rfl rfl (by decide) rfl ⟨rfl, rfl⟩ rfl ?_
    refine wi_aload_n (i := 0) (x := 236) (nx := 5) (r1 := 0) (r2 := 0) (r3 := 0) rfl rfl ?_
    refine wr_gi0 (k0 := 236) (x := h21 236 47) (nx := 8) (r1 := 11) (r2 := 47) (r3 := 0) rfl rfl (by decide) rfl ⟨rfl, rfl⟩ rfl rfl ?_
    refine wi_iload_n (i := 1) (e := 32) (nx := 9) (r1 := 0) (r2 := 0) (r3 := 0) rfl rfl ?_
    obtain ⟨i25, ei25⟩ : ∃ q : Nat, (h21 236 47) = (q : Int) := ⟨(h21 236 47).toNat, by omega⟩
    refine wr_is (k0 := 258) (a := h21 236 47) (f := i25) (x := 32) (bl := -2147483648) (bh := 2147483647) (nx := 10) (r1 := 0) (r2 := 0) (r3 := 0) rfl (by decide) rfl (by omega) (by omega) (by decide) g21 rfl (by omega) (fun h26 g26 w26 u26 => ?_)
    have F27 := F23.then rfl (FR.rngp (lo := 258) (hi := 258) u26 (by decide))
    refine wi_aload_n (i := 0) (x := 236) (nx := 11) (r1 := 0) (r2 := 0) (r3 := 0) rfl rfl ?_
    refine wi_dup (nx := 12) (r1 := 0) (r2 := 0) (r3 := 0) rfl rfl ?_
    refine wr_gi0 (k0 := 236) (x := h21 236 47) (nx := 15) (r1 := 11) (r2 := 47) (r3 := 0) rfl rfl (by decide) rfl ⟨rfl, rfl⟩ rfl (u26 236 47 (fn_a (by omega) fn_0)) ?_
    refine wi_iconst (n := 1) (nx := 16) (r1 := 0) (r2 := 0) (r3 := 0) rfl ?_
    refine wr_add (nx := 17) (r1 := 0) (r2 := 0) (r3 := 0) rfl (fun e28 (fe28 : e28 = (h21 236 47) + 1) => ?_)
    refine wr_pf0 (k0 := 236) (x := e28) (bl := 0) (bh := 300) (nx := 20) (r1 := 11) (r2 := 47) (r3 := 0) rfl (by decide) rfl ⟨rfl, rfl⟩ rfl rfl g26 rfl (by omega) (fun h29 g29 w29 u29 => ?_)
    have F30 := F27.then rfl u29
    refine wi_return (nx := 21) (r1 := 0) (r2 := 0) (r3 := 0) rfl rfl ?_
    refine wk_n ?_
    refine wi_aload_n (i := 0) (x := 236) (nx := 41) (r1 := 0) (r2 := 0) (r3 := 0) rfl rfl ?_
    refine wi_bipush (n := 48) (nx := 43) (r1 := 0) (r2 := 0) (r3 := 0) rfl (by decide) ?_
    refine wi_iload_n (i := 1) (e := 0) (nx := 44) (r1 := 0) (r2 := 0) (r3 := 0) rfl rfl ?_
    refine wr_addL (48) (nx := 45) (r1 := 0) (r2 := 0) (r3 := 0) rfl (by decide) ?_
    refine wr_V (k0 := 236) (rest := []) (as := [.ref 236, vi 48]) (nx := 48) (r1 := 348) (r2 := 1) (r3 := 11) rfl rfl rfl (of_decide_eq_true rfl) rfl rfl (by decide) rfl rfl (of_decide_eq_true rfl) (of_decide_eq_true rfl) ?_
    refine wi_aload_n (i := 0) (x := 236) (nx := 1) (r1 := 0) (r2 := 0) (r3 := 0) rfl rfl ?_
    refine wr_gr (k0 := 236) (x := 258) (nx := 4) (r1 := 11) (r2 := 46) (r3 := 0) rfl rfl (by decide) rfl ⟨rfl, rfl⟩ rfl ?_
    refine wi_aload_n (i := 0) (x := 236) (nx := 5) (r1 := 0) (r2 := 0) (r3 := 0) rfl rfl ?_
    refine wr_gi0 (k0 := 236) (x := e28) (nx := 8) (r1 := 11) (r2 := 47) (r3 := 0) rfl rfl (by decide) rfl ⟨rfl, rfl⟩ rfl w29 ?_
    refine wi_iload_n (i := 1) (e := 48) (nx := 9) (r1 := 0) (r2 := 0) (r3 := 0) rfl rfl ?_
    obtain ⟨i31, ei31⟩ : ∃ q : Nat, e28 = (q : Int) := ⟨(e28).toNat, by omega⟩
    refine wr_is (k0 := 258) (a := e28) (f := i31) (x := 48) (bl := -2147483648) (bh := 2147483647) (nx := 10) (r1 := 0) (r2 := 0) (r3 := 0) rfl (by decide) rfl (by omega) (by omega) (by decide) g29 rfl (by omega) (fun h32 g32 w32 u32 => ?_)
    have F33 := F30.then rfl (FR.rngp (lo := 258) (hi := 258) u32 (by decide))
    refine wi_aload_n (i := 0) (x := 236) (nx := 11) (r1 := 0) (r2 := 0) (r3 := 0) rfl rfl ?_
    refine wi_dup (nx := 12) (r1 := 0) (r2 := 0) (r3 := 0) rfl rfl ?_
    refine wr_gi0 (k0 := 236) (x := e28) (nx := 15) (r1 := 11) (r2 := 47) (r3 := 0) rfl rfl (by decide) rfl ⟨rfl, rfl⟩ rfl ((u32 236 47 (fn_a (by omega) fn_0)).trans w29) ?_
    refine wi_iconst (n := 1) (nx := 16) (r1 := 0) (r2 := 0) (r3 := 0) rfl ?_
    refine wr_add (nx := 17) (r1 := 0) (r2 := 0) (r3 := 0) rfl (fun e34 (fe34 : e34 = e28 + 1) => ?_)
    refine wr_pf0 (k0 := 236) (x := e34) (bl := 0) (bh := 300) (nx := 20) (r1 := 11) (r2 := 47) (r3 := 0) rfl (by decide) rfl ⟨rfl, rfl⟩ rfl rfl g32 rfl (by omega) (fun h35 g35 w35 u35 => ?_)
    have F36 := F33.then rfl u35
    refine wi_return (nx := 21) (r1 := 0) (r2 := 0) (r3 := 0) rfl rfl ?_
    refine wk_n ?_
    refine wi_iconst (n := 0) (nx := 49) (r1 := 0) (r2 := 0) (r3 := 0) rfl ?_
    refine wi_istore_n (i := 2) (e := 0) (lo2 := [(2, vi 0), (1, vi 0), (0, .ref 236)]) (nx := 50) (r1 := 0) (r2 := 0) (r3 := 0) rfl rfl ?_
    have e39 : h35 236 47 = e34 := w35
    have e40 : h35 238 98 = h 238 98 := ((u35 238 98 rfl).trans ((u32 238 98 (fn_a (by omega) fn_0)).trans ((u29 238 98 rfl).trans ((u26 238 98 (fn_a (by omega) fn_0)).trans ((u21 238 98 rfl).trans ((u17 238 98 rfl).trans ((u15 238 98 rfl).trans (u13 238 98 rfl))))))))
    refine wp.lo (lo := [(0, .ref 236), (1, vi 0), (2, vi 0)]) ⟨rfl, rfl, rfl, trivial⟩ rfl ?_
    refine wl_1 (fun x37 h38 => GI h38 ∧ FR [(258, 258, none), (236, 236, some (0, 0)), (236, 236, some (47, 47)), (236, 236, some (48, 48))] h h38 ∧ FR [(258, 258, none), (236, 236, some (47, 47))] h35 h38 ∧ ((0 ≤ x37 ∧ x37 ≤ 6) ∧ ((h38 236 47) ≤ (h35 236 47) + 10 * x37) ∧ (x37 ≤ (h35 238 98)))) (fun x37 h38 => ((6 : Int) + 1 - x37).toNat) (fun x37 h38 => (50, [(0, .ref 236), (1, vi 0), (2, vi x37)], [], hp_w h38 cr, b, c)) ?_ 0 h35 ⟨g35, F36, FR.refl, (show (0 ≤ 0 ∧ 0 ≤ 6) ∧ ((h35 236 47) ≤ (h35 236 47) + 10 * 0) ∧ (0 ≤ (h35 238 98)) by omega)⟩
    intro x37 h38 ⟨g38, F41, u38, f38⟩ I38
    have b42 := gi_b (lo := 0) (hi := 300) g38 236 47 rfl
    refine wi_iload_n (i := 2) (e := x37) (nx := 51) (r1 := 0) (r2 := 0) (r3 := 0) rfl rfl ?_
    refine wi_aload_n (i := 0) (x := 236) (nx := 52) (r1 := 0) (r2 := 0) (r3 := 0) rfl rfl ?_
    refine wr_gr (k0 := 236) (x := 238) (nx := 55) (r1 := 11) (r2 := 13) (r3 := 0) rfl rfl (by decide) rfl ⟨rfl, rfl⟩ rfl ?_
    refine wi_bipush (n := 98) (nx := 57) (r1 := 0) (r2 := 0) (r3 := 0) rfl (by decide) ?_
    refine wi_iload_n (i := 1) (e := 0) (nx := 58) (r1 := 0) (r2 := 0) (r3 := 0) rfl rfl ?_
    refine wr_addL (98) (nx := 59) (r1 := 0) (r2 := 0) (r3 := 0) rfl (by decide) ?_
    refine wr_ia (k0 := 238) (a := 98) (f := 98) (x := h 238 98) (nx := 60) (r1 := 0) (r2 := 0) (r3 := 0) rfl (by decide) rfl (by omega) (by omega) (by decide) ((u38 238 98 rfl).trans ((u35 238 98 rfl).trans ((u32 238 98 (fn_a (by omega) fn_0)).trans ((u29 238 98 rfl).trans ((u26 238 98 (fn_a (by omega) fn_0)).trans ((u21 238 98 rfl).trans ((u17 238 98 rfl).trans ((u15 238 98 rfl).trans (u13 238 98 rfl))))))))) ?_
    refine wi_icmp (cd := .ge) (nx := 63) (r1 := 79) (r2 := 0) (r3 := 0) rfl (by omega) (by omega) (fun (q43 : (h 238 98) ≤ x37) => ?_) (fun (q43 : ¬ ((h 238 98) ≤ x37)) => ?_)
    ·
      refine wi_aload_n (i := 0) (x := 236) (nx := 80) (r1 := 0) (r2 := 0) (r3 := 0) rfl rfl ?_
      refine wi_bipush (n := 10) (nx := 82) (r1 := 0) (r2 := 0) (r3 := 0) rfl (by decide) ?_
      refine wr_V (k0 := 236) (rest := []) (as := [.ref 236, vi 10]) (nx := 85) (r1 := 348) (r2 := 1) (r3 := 11) rfl rfl rfl (of_decide_eq_true rfl) rfl rfl (by decide) rfl rfl (of_decide_eq_true rfl) (of_decide_eq_true rfl) ?_
      refine wi_aload_n (i := 0) (x := 236) (nx := 1) (r1 := 0) (r2 := 0) (r3 := 0) rfl rfl ?_
      refine wr_gr (k0 := 236) (x := 258) (nx := 4) (r1 := 11) (r2 := 46) (r3 := 0) rfl rfl (by decide) rfl ⟨rfl, rfl⟩ rfl ?_
      refine wi_aload_n (i := 0) (x := 236) (nx := 5) (r1 := 0) (r2 := 0) (r3 := 0) rfl rfl ?_
      refine wr_gi0 (k0 := 236) (x := h38 236 47) (nx := 8) (r1 := 11) (r2 := 47) (r3 := 0) rfl rfl (by decide) rfl ⟨rfl, rfl⟩ rfl rfl ?_
      refine wi_iload_n (i := 1) (e := 10) (nx := 9) (r1 := 0) (r2 := 0) (r3 := 0) rfl rfl ?_
      obtain ⟨i44, ei44⟩ : ∃ q : Nat, (h38 236 47) = (q : Int) := ⟨(h38 236 47).toNat, by omega⟩
      refine wr_is (k0 := 258) (a := h38 236 47) (f := i44) (x := 10) (bl := -2147483648) (bh := 2147483647) (nx := 10) (r1 := 0) (r2 := 0) (r3 := 0) rfl (by decide) rfl (by omega) (by omega) (by decide) g38 rfl (by omega) (fun h45 g45 w45 u45 => ?_)
      have F46 := F41.then rfl (FR.rngp (lo := 258) (hi := 258) u45 (by decide))
      refine wi_aload_n (i := 0) (x := 236) (nx := 11) (r1 := 0) (r2 := 0) (r3 := 0) rfl rfl ?_
      refine wi_dup (nx := 12) (r1 := 0) (r2 := 0) (r3 := 0) rfl rfl ?_
      refine wr_gi0 (k0 := 236) (x := h38 236 47) (nx := 15) (r1 := 11) (r2 := 47) (r3 := 0) rfl rfl (by decide) rfl ⟨rfl, rfl⟩ rfl (u45 236 47 (fn_a (by omega) fn_0)) ?_
      refine wi_iconst (n := 1) (nx := 16) (r1 := 0) (r2 := 0) (r3 := 0) rfl ?_
      refine wr_add (nx := 17) (r1 := 0) (r2 := 0) (r3 := 0) rfl (fun e47 (fe47 : e47 = (h38 236 47) + 1) => ?_)
      refine wr_pf0 (k0 := 236) (x := e47) (bl := 0) (bh := 300) (nx := 20) (r1 := 11) (r2 := 47) (r3 := 0) rfl (by decide) rfl ⟨rfl, rfl⟩ rfl rfl g45 rfl (by omega) (fun h48 g48 w48 u48 => ?_)
      have F49 := F46.then rfl u48
      refine wi_return (nx := 21) (r1 := 0) (r2 := 0) (r3 := 0) rfl rfl ?_
      refine wk_n ?_
      refine wr_iincL (i := 1) (n := 1) (v := 0) (1) ([(1, vi 1), (0, .ref 236), (2, vi x37)]) (nx := 88) (r1 := 0) (r2 := 0) (r3 := 0) rfl rfl (by decide) rfl ?_
      refine wi_goto (nx := 91) (r1 := 17) (r2 := 0) (r3 := 0) rfl ?_
      refine wi_iload_n (i := 1) (e := 1) (nx := 18) (r1 := 0) (r2 := 0) (r3 := 0) rfl rfl ?_
      refine wi_aload_n (i := 0) (x := 236) (nx := 19) (r1 := 0) (r2 := 0) (r3 := 0) rfl rfl ?_
      refine wr_gr (k0 := 236) (x := 238) (nx := 22) (r1 := 11) (r2 := 13) (r3 := 0) rfl rfl (by decide) rfl ⟨rfl, rfl⟩ rfl ?_
      refine wi_iconst (n := 1) (nx := 23) (r1 := 0) (r2 := 0) (r3 := 0) rfl ?_
      refine wr_ia (k0 := 238) (a := 1) (f := 1) (x := h 238 1) (nx := 24) (r1 := 0) (r2 := 0) (r3 := 0) rfl (by decide) rfl (by omega) (by omega) (by decide) ((u48 238 1 rfl).trans ((u45 238 1 (fn_a (by omega) fn_0)).trans ((u38 238 1 rfl).trans ((u35 238 1 rfl).trans ((u32 238 1 (fn_a (by omega) fn_0)).trans ((u29 238 1 rfl).trans ((u26 238 1 (fn_a (by omega) fn_0)).trans ((u21 238 1 rfl).trans ((u17 238 1 rfl).trans ((u15 238 1 rfl).trans (u13 238 1 rfl))))))))))) ?_
      refine wi_icmp (cd := .ge) (nx := 27) (r1 := 91) (r2 := 0) (r3 := 0) rfl (by omega) (by omega) (fun (q50 : (h 238 1) ≤ 1) => ?_) (fun (q50 : ¬ ((h 238 1) ≤ 1)) => ?_)
      ·
        refine wi_aload_n (i := 0) (x := 236) (nx := 92) (r1 := 0) (r2 := 0) (r3 := 0) rfl rfl ?_
        refine wi_ldc2_w (e := 16052) (nx := 95) (r1 := 16052) (r2 := 0) (r3 := 0) rfl (by decide) ?_
        refine wr_V (k0 := 236) (rest := []) (as := [.ref 236, vl 16052]) (nx := 98) (r1 := 347) (r2 := 1) (r3 := 11) rfl rfl rfl (of_decide_eq_true rfl) rfl rfl (by decide) rfl rfl (of_decide_eq_true rfl) (of_decide_eq_true rfl) ?_
        have e52 : h48 236 47 = e47 := w48
        refine ct_347_236 hcr  g48 16052 (by omega) (show (h48 236 47) ≤ 291 by omega) (fun h51 g51 u51 (p51_0 : (h51 236 47) ≤ (h48 236 47) + 8) => ?_)
        have F53 := F49.then (by decide +kernel) u51
        have b54 := gi_b (lo := 0) (hi := 300) g51 236 47 rfl
        refine wk_n ?_
        refine wi_iconst (n := 0) (nx := 99) (r1 := 0) (r2 := 0) (r3 := 0) rfl ?_
        refine wi_istore_n (i := 1) (e := 0) (lo2 := [(1, vi 0), (0, .ref 236), (2, vi x37)]) (nx := 100) (r1 := 0) (r2 := 0) (r3 := 0) rfl rfl ?_
        have e57 : h51 238 106 = h 238 106 := ((u51 238 106 rfl).trans ((u48 238 106 rfl).trans ((u45 238 106 (fn_a (by omega) fn_0)).trans ((u38 238 106 rfl).trans ((u35 238 106 rfl).trans ((u32 238 106 (fn_a (by omega) fn_0)).trans ((u29 238 106 rfl).trans ((u26 238 106 (fn_a (by omega) fn_0)).trans ((u21 238 106 rfl).trans ((u17 238 106 rfl).trans ((u15 238 106 rfl).trans (u13 238 106 rfl))))))))))))
        refine wp.lo (lo := [(0, .ref 236), (1, vi 0)]) ⟨rfl, rfl, trivial⟩ rfl ?_
        refine wl_1 (fun x55 h56 => GI h56 ∧ FR [(258, 258, none), (236, 236, some (0, 0)), (236, 236, some (47, 47)), (236, 236, some (48, 48))] h h56 ∧ FR [(258, 258, none), (236, 236, some (47, 47))] h51 h56 ∧ ((0 ≤ x55 ∧ x55 ≤ 12) ∧ ((h56 236 47) ≤ (h51 236 47) + 10 * x55) ∧ (x55 ≤ (h51 238 106)))) (fun x55 h56 => ((12 : Int) + 1 - x55).toNat) (fun x55 h56 => (100, [(0, .ref 236), (1, vi x55)], [], hp_w h56 cr, b, c)) ?_ 0 h51 ⟨g51, F53, FR.refl, (show (0 ≤ 0 ∧ 0 ≤ 12) ∧ ((h51 236 47) ≤ (h51 236 47) + 10 * 0) ∧ (0 ≤ (h51 238 106)) by omega)⟩
        intro x55 h56 ⟨g56, F58, u56, f56⟩ I56
        have b59 := gi_b (lo := 0) (hi := 300) g56 236 47 rfl
        refine wi_iload_n (i := 1) (e := x55) (nx := 101) (r1 := 0) (r2 := 0) (r3 := 0) rfl rfl ?_
        refine wi_aload_n (i := 0) (x := 236) (nx := 102) (r1 := 0) (r2 := 0) (r3 := 0) rfl rfl ?_
        refine wr_gr (k0 := 236) (x := 238) (nx := 105) (r1 := 11) (r2 := 13) (r3 := 0) rfl rfl (by decide) rfl ⟨rfl, rfl⟩ rfl ?_
        refine wi_bipush (n := 106) (nx := 107) (r1 := 0) (r2 := 0) (r3 := 0) rfl (by decide) ?_
        refine wr_ia (k0 := 238) (a := 106) (f := 106) (x := h 238 106) (nx := 108) (r1 := 0) (r2 := 0) (r3 := 0) rfl (by decide) rfl (by omega) (by omega) (by decide) ((u56 238 106 rfl).trans ((u51 238 106 rfl).trans ((u48 238 106 rfl).trans ((u45 238 106 (fn_a (by omega) fn_0)).trans ((u38 238 106 rfl).trans ((u35 238 106 rfl).trans ((u32 238 106 (fn_a (by omega) fn_0)).trans ((u29 238 106 rfl).trans ((u26 238 106 (fn_a (by omega) fn_0)).trans ((u21 238 106 rfl).trans ((u17 238 106 rfl).trans ((u15 238 106 rfl).trans (u13 238 106 rfl))))))))))))) ?_
        refine wi_icmp (cd := .ge) (nx := 111) (r1 := 130) (r2 := 0) (r3 := 0) rfl (by omega) (by omega) (fun (q60 : (h 238 106) ≤ x55) => ?_) (fun (q60 : ¬ ((h 238 106) ≤ x55)) => ?_)
        ·
          refine wi_aload_n (i := 0) (x := 236) (nx := 131) (r1 := 0) (r2 := 0) (r3 := 0) rfl rfl ?_
          refine wi_bipush (n := 10) (nx := 133) (r1 := 0) (r2 := 0) (r3 := 0) rfl (by decide) ?_
          refine wr_V (k0 := 236) (rest := []) (as := [.ref 236, vi 10]) (nx := 136) (r1 := 348) (r2 := 1) (r3 := 11) rfl rfl rfl (of_decide_eq_true rfl) rfl rfl (by decide) rfl rfl (of_decide_eq_true rfl) (of_decide_eq_true rfl) ?_
          refine wi_aload_n (i := 0) (x := 236) (nx := 1) (r1 := 0) (r2 := 0) (r3 := 0) rfl rfl ?_
          refine wr_gr (k0 := 236) (x := 258) (nx := 4) (r1 := 11) (r2 := 46) (r3 := 0) rfl rfl (by decide) rfl ⟨rfl, rfl⟩ rfl ?_
          refine wi_aload_n (i := 0) (x := 236) (nx := 5) (r1 := 0) (r2 := 0) (r3 := 0) rfl rfl ?_
          refine wr_gi0 (k0 := 236) (x := h56 236 47) (nx := 8) (r1 := 11) (r2 := 47) (r3 := 0) rfl rfl (by decide) rfl ⟨rfl, rfl⟩ rfl rfl ?_
          refine wi_iload_n (i := 1) (e := 10) (nx := 9) (r1 := 0) (r2 := 0) (r3 := 0) rfl rfl ?_
          obtain ⟨i61, ei61⟩ : ∃ q : Nat, (h56 236 47) = (q : Int) := ⟨(h56 236 47).toNat, by omega⟩
          refine wr_is (k0 := 258) (a := h56 236 47) (f := i61) (x := 10) (bl := -2147483648) (bh := 2147483647) (nx := 10) (r1 := 0) (r2 := 0) (r3 := 0) rfl (by decide) rfl (by omega) (by omega) (by decide) g56 rfl (by omega) (fun h62 g62 w62 u62 => ?_)
          have F63 := F58.then rfl (FR.rngp (lo := 258) (hi := 258) u62 (by decide))
          refine wi_aload_n (i := 0) (x := 236) (nx := 11) (r1 := 0) (r2 := 0) (r3 := 0) rfl rfl ?_
          refine wi_dup (nx := 12) (r1 := 0) (r2 := 0) (r3 := 0) rfl rfl ?_
          refine wr_gi0 (k0 := 236) (x := h56 236 47) (nx := 15) (r1 := 11) (r2 := 47) (r3 := 0) rfl rfl (by decide) rfl ⟨rfl, rfl⟩ rfl (u62 236 47 (fn_a (by omega) fn_0)) ?_
          refine wi_iconst (n := 1) (nx := 16) (r1 := 0) (r2 := 0) (r3 := 0) rfl ?_
          refine wr_add (nx := 17) (r1 := 0) (r2 := 0) (r3 := 0) rfl (fun e64 (fe64 : e64 = (h56 236 47) + 1) => ?_)
          refine wr_pf0 (k0 := 236) (x := e64) (bl := 0) (bh := 300) (nx := 20) (r1 := 11) (r2 := 47) (r3 := 0) rfl (by decide) rfl ⟨rfl, rfl⟩ rfl rfl g62 rfl (by omega) (fun h65 g65 w65 u65 => ?_)
          have F66 := F63.then rfl u65
          refine wi_return (nx := 21) (r1 := 0) (r2 := 0) (r3 := 0) rfl rfl ?_
          refine wk_n ?_
          refine wi_aload_n (i := 0) (x := 236) (nx := 137) (r1 := 0) (r2 := 0) (r3 := 0) rfl rfl ?_
          refine wr_gi0 (k0 := 236) (x := e64) (nx := 140) (r1 := 11) (r2 := 47) (r3 := 0) rfl rfl (by decide) rfl ⟨rfl, rfl⟩ rfl w65 ?_
          refine wi_ireturn (nx := 141) (r1 := 0) (r2 := 0) (r3 := 0) rfl rfl ?_
          exact k h65 e64 g65 F66 (by omega)
        ·
          refine wi_aload_n (i := 0) (x := 236) (nx := 112) (r1 := 0) (r2 := 0) (r3 := 0) rfl rfl ?_
          refine wi_aload_n (i := 0) (x := 236) (nx := 113) (r1 := 0) (r2 := 0) (r3 := 0) rfl rfl ?_
          refine wr_gr (k0 := 236) (x := 238) (nx := 116) (r1 := 11) (r2 := 13) (r3 := 0) rfl rfl (by decide) rfl ⟨rfl, rfl⟩ rfl ?_
          refine wi_bipush (n := 107) (nx := 118) (r1 := 0) (r2 := 0) (r3 := 0) rfl (by decide) ?_
          refine wi_iload_n (i := 1) (e := x55) (nx := 119) (r1 := 0) (r2 := 0) (r3 := 0) rfl rfl ?_
          refine wr_add (nx := 120) (r1 := 0) (r2 := 0) (r3 := 0) rfl (fun e61 (fe61 : e61 = 107 + x55) => ?_)
          obtain ⟨i62, ei62⟩ : ∃ q : Nat, e61 = (q : Int) := ⟨(e61).toNat, by omega⟩
          have b63 := gi_b (lo := 0) (hi := 11) g 238 i62 (gi_rg 107 12 (fun _ => rfl) (by decide +kernel) (by omega))
          refine wr_ia (k0 := 238) (a := e61) (f := i62) (x := h 238 i62) (nx := 121) (r1 := 0) (r2 := 0) (r3 := 0) rfl (by decide) rfl (by omega) (by omega) (by decide) ((u56 238 i62 (fn_a (by omega) (fn_a (by omega) fn_0))).trans ((u51 238 i62 (fn_a (by omega) (fn_a (by omega) fn_0))).trans ((u48 238 i62 (fn_a (by omega) fn_0)).trans ((u45 238 i62 (fn_a (by omega) fn_0)).trans ((u38 238 i62 (fn_a (by omega) (fn_a (by omega) fn_0))).trans ((u35 238 i62 (fn_a (by omega) fn_0)).trans ((u32 238 i62 (fn_a (by omega) fn_0)).trans ((u29 238 i62 (fn_a (by omega) fn_0)).trans ((u26 238 i62 (fn_a (by omega) fn_0)).trans ((u21 238 i62 (fn_a (by omega) (fn_a (by omega) fn_0))).trans ((u17 238 i62 (fn_a (by omega) fn_0)).trans ((u15 238 i62 (fn_a (by omega) fn_0)).trans (u13 238 i62 (fn_a (by omega) fn_0)))))))))))))) ?_
          refine wr_V (k0 := 236) (rest := []) (as := [.ref 236, vi (h 238 i62)]) (nx := 124) (r1 := 349) (r2 := 1) (r3 := 11) rfl rfl rfl (of_decide_eq_true rfl) rfl rfl (by decide) rfl rfl (of_decide_eq_true rfl) (of_decide_eq_true rfl) ?_
          refine ct_349_236 hcr  g56 (h 238 i62) (by omega) (show (h56 236 47) ≤ 289 by omega) (fun h64 g64 u64 (p64_0 : (h64 236 47) ≤ (h56 236 47) + 10) => ?_)
          have F65 := F58.then (by decide +kernel) u64
          have F66 := u56.then (by decide +kernel) u64
          have b67 := gi_b (lo := 0) (hi := 300) g64 236 47 rfl
          refine wk_n ?_
          refine wr_iinc (i := 1) (n := 1) (v := x55) (fun e68 => [(1, vi e68), (0, .ref 236)]) (nx := 127) (r1 := 0) (r2 := 0) (r3 := 0) rfl rfl (fun _ => rfl) (fun e68 (fe68 : e68 = x55 + 1) => ?_)
          refine wi_goto (nx := 130) (r1 := 100) (r2 := 0) (r3 := 0) rfl ?_
          refine wp.lo (lo := [(0, .ref 236), (1, vi e68)]) ⟨rfl, rfl, trivial⟩ rfl ?_
          exact I56 e68 h64 ⟨g64, F65, F66, (show (0 ≤ e68 ∧ e68 ≤ 12) ∧ ((h64 236 47) ≤ (h51 236 47) + 10 * e68) ∧ (e68 ≤ (h51 238 106)) by omega)⟩ (show ((12 : Int) + 1 - e68).toNat < ((12 : Int) + 1 - x55).toNat by omega)
      ·
        refine wi_aload_n (i := 0) (x := 236) (nx := 28) (r1 := 0) (r2 := 0) (r3 := 0) rfl rfl ?_
        refine wi_ldc2_w (e := 394693) (nx := 31) (r1 := 394693) (r2 := 0) (r3 := 0) rfl (by decide) ?_
        refine wr_V (k0 := 236) (rest := []) (as := [.ref 236, vl 394693]) (nx := 34) (r1 := 347) (r2 := 1) (r3 := 11) rfl rfl rfl (of_decide_eq_true rfl) rfl rfl (by decide) rfl rfl (of_decide_eq_true rfl) (of_decide_eq_true rfl) ?_
        have e52 : h48 236 47 = e47 := w48
        refine ct_347_236 hcr  g48 394693 (by omega) (show (h48 236 47) ≤ 291 by omega) (fun h51 g51 u51 (p51_0 : (h51 236 47) ≤ (h48 236 47) + 8) => ?_)
        have F53 := F49.then (by decide +kernel) u51
        have b54 := gi_b (lo := 0) (hi := 300) g51 236 47 rfl
        refine wk_n ?_
        refine wi_aload_n (i := 0) (x := 236) (nx := 35) (r1 := 0) (r2 := 0) (r3 := 0) rfl rfl ?_
        refine wi_bipush (n := 32) (nx := 37) (r1 := 0) (r2 := 0) (r3 := 0) rfl (by decide) ?_
        refine wr_V (k0 := 236) (rest := []) (as := [.ref 236, vi 32]) (nx := 40) (r1 := 348) (r2 := 1) (r3 := 11) rfl rfl rfl (of_decide_eq_true rfl) rfl rfl (by decide) rfl rfl (of_decide_eq_true rfl) (of_decide_eq_true rfl) ?_
        refine wi_aload_n (i := 0) (x := 236) (nx := 1) (r1 := 0) (r2 := 0) (r3 := 0) rfl rfl ?_
        refine wr_gr (k0 := 236) (x := 258) (nx := 4) (r1 := 11) (r2 := 46) (r3 := 0) rfl rfl (by decide) rfl ⟨rfl, rfl⟩ rfl ?_
        refine wi_aload_n (i := 0) (x := 236) (nx := 5) (r1 := 0) (r2 := 0) (r3 := 0) rfl rfl ?_
        refine wr_gi0 (k0 := 236) (x := h51 236 47) (nx := 8) (r1 := 11) (r2 := 47) (r3 := 0) rfl rfl (by decide) rfl ⟨rfl, rfl⟩ rfl rfl ?_
        refine wi_iload_n (i := 1) (e := 32) (nx := 9) (r1 := 0) (r2 := 0) (r3 := 0) rfl rfl ?_
        obtain ⟨i55, ei55⟩ : ∃ q : Nat, (h51 236 47) = (q : Int) := ⟨(h51 236 47).toNat, by omega⟩
        refine wr_is (k0 := 258) (a := h51 236 47) (f := i55) (x := 32) (bl := -2147483648) (bh := 2147483647) (nx := 10) (r1 := 0) (r2 := 0) (r3 := 0) rfl (by decide) rfl (by omega) (by omega) (by decide) g51 rfl (by omega) (fun h56 g56 w56 u56 => ?_)
        have F57 := F53.then rfl (FR.rngp (lo := 258) (hi := 258) u56 (by decide))
        refine wi_aload_n (i := 0) (x := 236) (nx := 11) (r1 := 0) (r2 := 0) (r3 := 0) rfl rfl ?_
        refine wi_dup (nx := 12) (r1 := 0) (r2 := 0) (r3 := 0) rfl rfl ?_
        refine wr_gi0 (k0 := 236) (x := h51 236 47) (nx := 15) (r1 := 11) (r2 := 47) (r3 := 0) rfl rfl (by decide) rfl ⟨rfl, rfl⟩ rfl (u56 236 47 (fn_a (by omega) fn_0)) ?_
        refine wi_iconst (n := 1) (nx := 16) (r1 := 0) (r2 := 0) (r3 := 0) rfl ?_
        refine wr_add (nx := 17) (r1 := 0) (r2 := 0) (r3 := 0) rfl (fun e58 (fe58 : e58 = (h51 236 47) + 1) => ?_)
        refine wr_pf0 (k0 := 236) (x := e58) (bl := 0) (bh := 300) (nx := 20) (r1 := 11) (r2 := 47) (r3 := 0) rfl (by decide) rfl ⟨rfl, rfl⟩ rfl rfl g56 rfl (by omega) (fun h59 g59 w59 u59 => ?_)
        have F60 := F57.then rfl u59
        refine wi_return (nx := 21) (r1 := 0) (r2 := 0) (r3 := 0) rfl rfl ?_
        refine wk_n ?_
        refine wi_aload_n (i := 0) (x := 236) (nx := 41) (r1 := 0) (r2 := 0) (r3 := 0) rfl rfl ?_
        refine wi_bipush (n := 48) (nx := 43) (r1 := 0) (r2 := 0) (r3 := 0) rfl (by decide) ?_
        refine wi_iload_n (i := 1) (e := 1) (nx := 44) (r1 := 0) (r2 := 0) (r3 := 0) rfl rfl ?_
        refine wr_addL (49) (nx := 45) (r1 := 0) (r2 := 0) (r3 := 0) rfl (by decide) ?_
        refine wr_V (k0 := 236) (rest := []) (as := [.ref 236, vi 49]) (nx := 48) (r1 := 348) (r2 := 1) (r3 := 11) rfl rfl rfl (of_decide_eq_true rfl) rfl rfl (by decide) rfl rfl (of_decide_eq_true rfl) (of_decide_eq_true rfl) ?_
        refine wi_aload_n (i := 0) (x := 236) (nx := 1) (r1 := 0) (r2 := 0) (r3 := 0) rfl rfl ?_
        refine wr_gr (k0 := 236) (x := 258) (nx := 4) (r1 := 11) (r2 := 46) (r3 := 0) rfl rfl (by decide) rfl ⟨rfl, rfl⟩ rfl ?_
        refine wi_aload_n (i := 0) (x := 236) (nx := 5) (r1 := 0) (r2 := 0) (r3 := 0) rfl rfl ?_
        refine wr_gi0 (k0 := 236) (x := e58) (nx := 8) (r1 := 11) (r2 := 47) (r3 := 0) rfl rfl (by decide) rfl ⟨rfl, rfl⟩ rfl w59 ?_
        refine wi_iload_n (i := 1) (e := 49) (nx := 9) (r1 := 0) (r2 := 0) (r3 := 0) rfl rfl ?_
        obtain ⟨i61, ei61⟩ : ∃ q : Nat, e58 = (q : Int) := ⟨(e58).toNat, by omega⟩
        refine wr_is (k0 := 258) (a := e58) (f := i61) (x := 49) (bl := -2147483648) (bh := 2147483647) (nx := 10) (r1 := 0) (r2 := 0) (r3 := 0) rfl (by decide) rfl (by omega) (by omega) (by decide) g59 rfl (by omega) (fun h62 g62 w62 u62 => ?_)
        have F63 := F60.then rfl (FR.rngp (lo := 258) (hi := 258) u62 (by decide))
        refine wi_aload_n (i := 0) (x := 236) (nx := 11) (r1 := 0) (r2 := 0) (r3 := 0) rfl rfl ?_
        refine wi_dup (nx := 12) (r1 := 0) (r2 := 0) (r3 := 0) rfl rfl ?_
        refine wr_gi0 (k0 := 236) (x := e58) (nx := 15) (r1 := 11) (r2 := 47) (r3 := 0) rfl rfl (by decide) rfl ⟨rfl, rfl⟩ rfl ((u62 236 47 (fn_a (by omega) fn_0)).trans w59) ?_
        refine wi_iconst (n := 1) (nx := 16) (r1 := 0) (r2 := 0) (r3 := 0) rfl ?_
        refine wr_add (nx := 17) (r1 := 0) (r2 := 0) (r3 := 0) rfl (fun e64 (fe64 : e64 = e58 + 1) => ?_)
        refine wr_pf0 (k0 := 236) (x := e64) (bl := 0) (bh := 300) (nx := 20) (r1 := 11) (r2 := 47) (r3 := 0) rfl (by decide) rfl ⟨rfl, rfl⟩ rfl rfl g62 rfl (by omega) (fun h65 g65 w65 u65 => ?_)
        have F66 := F63.then rfl u65
        refine wi_return (nx := 21) (r1 := 0) (r2 := 0) (r3 := 0) rfl rfl ?_
        refine wk_n ?_
        refine wi_iconst (n := 0) (nx := 49) (r1 := 0) (r2 := 0) (r3 := 0) rfl ?_
        refine wi_istore_n (i := 2) (e := 0) (lo2 := [(2, vi 0), (1, vi 1), (0, .ref 236)]) (nx := 50) (r1 := 0) (r2 := 0) (r3 := 0) rfl rfl ?_
        have e69 : h65 236 47 = e64 := w65
        have e70 : h65 238 99 = h 238 99 := ((u65 238 99 rfl).trans ((u62 238 99 (fn_a (by omega) fn_0)).trans ((u59 238 99 rfl).trans ((u56 238 99 (fn_a (by omega) fn_0)).trans ((u51 238 99 rfl).trans ((u48 238 99 rfl).trans ((u45 238 99 (fn_a (by omega) fn_0)).trans ((u38 238 99 rfl).trans ((u35 238 99 rfl).trans ((u32 238 99 (fn_a (by omega) fn_0)).trans ((u29 238 99 rfl).trans ((u26 238 99 (fn_a (by omega) fn_0)).trans ((u21 238 99 rfl).trans ((u17 238 99 rfl).trans ((u15 238 99 rfl).trans (u13 238 99 rfl))))))))))))))))
        refine wp.lo (lo := [(0, .ref 236), (1, vi 1), (2, vi 0)]) ⟨rfl, rfl, rfl, trivial⟩ rfl ?_
        refine wl_1 (fun x67 h68 => GI h68 ∧ FR [(258, 258, none), (236, 236, some (0, 0)), (236, 236, some (47, 47)), (236, 236, some (48, 48))] h h68 ∧ FR [(258, 258, none), (236, 236, some (47, 47))] h65 h68 ∧ ((0 ≤ x67 ∧ x67 ≤ 6) ∧ ((h68 236 47) ≤ (h65 236 47) + 10 * x67) ∧ (x67 ≤ (h65 238 99)))) (fun x67 h68 => ((6 : Int) + 1 - x67).toNat) (fun x67 h68 => (50, [(0, .ref 236), (1, vi 1), (2, vi x67)], [], hp_w h68 cr, b, c)) ?_ 0 h65 ⟨g65, F66, FR.refl, (show (0 ≤ 0 ∧ 0 ≤ 6) ∧ ((h65 236 47) ≤ (h65 236 47) + 10 * 0) ∧ (0 ≤ (h65 238 99)) by omega)⟩
        intro x67 h68 ⟨g68, F71, u68, f68⟩ I68
        have b72 := gi_b (lo := 0) (hi := 300) g68 236 47 rfl
        refine wi_iload_n (i := 2) (e := x67) (nx := 51) (r1 := 0) (r2 := 0) (r3 := 0) rfl rfl ?_
        refine wi_aload_n (i := 0) (x := 236) (nx := 52) (r1 := 0) (r2 := 0) (r3 := 0) rfl rfl ?_
        refine wr_gr (k0 := 236) (x := 238) (nx := 55) (r1 := 11) (r2 := 13) (r3 := 0) rfl rfl (by decide) rfl ⟨rfl, rfl⟩ rfl ?_
        refine wi_bipush (n := 98) (nx := 57) (r1 := 0) (r2 := 0) (r3 := 0) rfl (by decide) ?_
        refine wi_iload_n (i := 1) (e := 1) (nx := 58) (r1 := 0) (r2 := 0) (r3 := 0) rfl rfl ?_
        refine wr_addL (99) (nx := 59) (r1 := 0) (r2 := 0) (r3 := 0) rfl (by decide) ?_
        refine wr_ia (k0 := 238) (a := 99) (f := 99) (x := h 238 99) (nx := 60) (r1 := 0) (r2 := 0) (r3 := 0) rfl (by decide) rfl (by omega) (by omega) (by decide) ((u68 238 99 rfl).trans ((u65 238 99 rfl).trans ((u62 238 99 (fn_a (by omega) fn_0)).trans ((u59 238 99 rfl).trans ((u56 238 99 (fn_a (by omega) fn_0)).trans ((u51 238 99 rfl).trans ((u48 238 99 rfl).trans ((u45 238 99 (fn_a (by omega) fn_0)).trans ((u38 238 99 rfl).trans ((u35 238 99 rfl).trans ((u32 238 99 (fn_a (by omega) fn_0)).trans ((u29 238 99 rfl).trans ((u26 238 99 (fn_a (by omega) fn_0)).trans ((u21 238 99 rfl).trans ((u17 238 99 rfl).trans ((u15 238 99 rfl).trans (u13 238 99 rfl))))))))))))))))) ?_
        refine wi_icmp (cd := .ge) (nx := 63) (r1 := 79) (r2 := 0) (r3 := 0) rfl (by omega) (by omega) (fun (q73 : (h 238 99) ≤ x67) => ?_) (fun (q73 : ¬ ((h 238 99) ≤ x67)) => ?_)
        ·
          refine wi_aload_n (i := 0) (x := 236) (nx := 80) (r1 := 0) (r2 := 0) (r3 := 0) rfl rfl ?_
          refine wi_bipush (n := 10) (nx := 82) (r1 := 0) (r2 := 0) (r3 := 0) rfl (by decide) ?_
          refine wr_V (k0 := 236) (rest := []) (as := [.ref 236, vi 10]) (nx := 85) (r1 := 348) (r2 := 1) (r3 := 11) rfl rfl rfl (of_decide_eq_true rfl) rfl rfl (by decide) rfl rfl (of_decide_eq_true rfl) (of_decide_eq_true rfl) ?_
          refine wi_aload_n (i := 0) (x := 236) (nx := 1) (r1 := 0) (r2 := 0) (r3 := 0) rfl rfl ?_
          refine wr_gr (k0 := 236) (x := 258) (nx := 4) (r1 := 11) (r2 := 46) (r3 := 0) rfl rfl (by decide) rfl ⟨rfl, rfl⟩ rfl ?_
          refine wi_aload_n (i := 0) (x := 236) (nx := 5) (r1 := 0) (r2 := 0) (r3 := 0) rfl rfl ?_
          refine wr_gi0 (k0 := 236) (x := h68 236 47) (nx := 8) (r1 := 11) (r2 := 47) (r3 := 0) rfl rfl (by decide) rfl ⟨rfl, rfl⟩ rfl rfl ?_
          refine wi_iload_n (i := 1) (e := 10) (nx := 9) (r1 := 0) (r2 := 0) (r3 := 0) rfl rfl ?_
          obtain ⟨i74, ei74⟩ : ∃ q : Nat, (h68 236 47) = (q : Int) := ⟨(h68 236 47).toNat, by omega⟩
          refine wr_is (k0 := 258) (a := h68 236 47) (f := i74) (x := 10) (bl := -2147483648) (bh := 2147483647) (nx := 10) (r1 := 0) (r2 := 0) (r3 := 0) rfl (by decide) rfl (by omega) (by omega) (by decide) g68 rfl (by omega) (fun h75 g75 w75 u75 => ?_)
          have F76 := F71.then rfl (FR.rngp (lo := 258) (hi := 258) u75 (by decide))
          refine wi_aload_n (i := 0) (x := 236) (nx := 11) (r1 := 0) (r2 := 0) (r3 := 0) rfl rfl ?_
          refine wi_dup (nx := 12) (r1 := 0) (r2 := 0) (r3 := 0) rfl rfl ?_
          refine wr_gi0 (k0 := 236) (x := h68 236 47) (nx := 15) (r1 := 11) (r2 := 47) (r3 := 0) rfl rfl (by decide) rfl ⟨rfl, rfl⟩ rfl (u75 236 47 (fn_a (by omega) fn_0)) ?_
          refine wi_iconst (n := 1) (nx := 16) (r1 := 0) (r2 := 0) (r3 := 0) rfl ?_
          refine wr_add (nx := 17) (r1 := 0) (r2 := 0) (r3 := 0) rfl (fun e77 (fe77 : e77 = (h68 236 47) + 1) => ?_)
          refine wr_pf0 (k0 := 236) (x := e77) (bl := 0) (bh := 300) (nx := 20) (r1 := 11) (r2 := 47) (r3 := 0) rfl (by decide) rfl ⟨rfl, rfl⟩ rfl rfl g75 rfl (by omega) (fun h78 g78 w78 u78 => ?_)
          have F79 := F76.then rfl u78
          refine wi_return (nx := 21) (r1 := 0) (r2 := 0) (r3 := 0) rfl rfl ?_
          refine wk_n ?_
          refine wr_iincL (i := 1) (n := 1) (v := 1) (2) ([(1, vi 2), (0, .ref 236), (2, vi x67)]) (nx := 88) (r1 := 0) (r2 := 0) (r3 := 0) rfl rfl (by decide) rfl ?_
          refine wi_goto (nx := 91) (r1 := 17) (r2 := 0) (r3 := 0) rfl ?_
          refine wi_iload_n (i := 1) (e := 2) (nx := 18) (r1 := 0) (r2 := 0) (r3 := 0) rfl rfl ?_
          refine wi_aload_n (i := 0) (x := 236) (nx := 19) (r1 := 0) (r2 := 0) (r3 := 0) rfl rfl ?_
          refine wr_gr (k0 := 236) (x := 238) (nx := 22) (r1 := 11) (r2 := 13) (r3 := 0) rfl rfl (by decide) rfl ⟨rfl, rfl⟩ rfl ?_
          refine wi_iconst (n := 1) (nx := 23) (r1 := 0) (r2 := 0) (r3 := 0) rfl ?_
          refine wr_ia (k0 := 238) (a := 1) (f := 1) (x := h 238 1) (nx := 24) (r1 := 0) (r2 := 0) (r3 := 0) rfl (by decide) rfl (by omega) (by omega) (by decide) ((u78 238 1 rfl).trans ((u75 238 1 (fn_a (by omega) fn_0)).trans ((u68 238 1 rfl).trans ((u65 238 1 rfl).trans ((u62 238 1 (fn_a (by omega) fn_0)).trans ((u59 238 1 rfl).trans ((u56 238 1 (fn_a (by omega) fn_0)).trans ((u51 238 1 rfl).trans ((u48 238 1 rfl).trans ((u45 238 1 (fn_a (by omega) fn_0)).trans ((u38 238 1 rfl).trans ((u35 238 1 rfl).trans ((u32 238 1 (fn_a (by omega) fn_0)).trans ((u29 238 1 rfl).trans ((u26 238 1 (fn_a (by omega) fn_0)).trans ((u21 238 1 rfl).trans ((u17 238 1 rfl).trans ((u15 238 1 rfl).trans (u13 238 1 rfl))))))))))))))))))) ?_
          refine wi_icmp (cd := .ge) (nx := 27) (r1 := 91) (r2 := 0) (r3 := 0) rfl (by omega) (by omega) (fun (q80 : (h 238 1) ≤ 2) => ?_) (fun (q80 : ¬ ((h 238 1) ≤ 2)) => ?_)
          ·
            refine wi_aload_n (i := 0) (x := 236) (nx := 92) (r1 := 0) (r2 := 0) (r3 := 0) rfl rfl ?_
            refine wi_ldc2_w (e := 16052) (nx := 95) (r1 := 16052) (r2 := 0) (r3 := 0) rfl (by decide) ?_
            refine wr_V (k0 := 236) (rest := []) (as := [.ref 236, vl 16052]) (nx := 98) (r1 := 347) (r2 := 1) (r3 := 11) rfl rfl rfl (of_decide_eq_true rfl) rfl rfl (by decide) rfl rfl (of_decide_eq_true rfl) (of_decide_eq_true rfl) ?_
            have e82 : h78 236 47 = e77 := w78
            refine ct_347_236 hcr  g78 16052 (by omega) (show (h78 236 47) ≤ 291 by omega) (fun h81 g81 u81 (p81_0 : (h81 236 47) ≤ (h78 236 47) + 8) => ?_)
            have F83 := F79.then (by decide +kernel) u81
            have b84 := gi_b (lo := 0) (hi := 300) g81 236 47 rfl
            refine wk_n ?_
            refine wi_iconst (n := 0) (nx := 99) (r1 := 0) (r2 := 0) (r3 := 0) rfl ?_
            refine wi_istore_n (i := 1) (e := 0) (lo2 := [(1, vi 0), (0, .ref 236), (2, vi x67)]) (nx := 100) (r1 := 0) (r2 := 0) (r3 := 0) rfl rfl ?_
            have e87 : h81 238 106 = h 238 106 := ((u81 238 106 rfl).trans ((u78 238 106 rfl).trans ((u75 238 106 (fn_a (by omega) fn_0)).trans ((u68 238 106 rfl).trans ((u65 238 106 rfl).trans ((u62 238 106 (fn_a (by omega) fn_0)).trans ((u59 238 106 rfl).trans ((u56 238 106 (fn_a (by omega) fn_0)).trans ((u51 238 106 rfl).trans ((u48 238 106 rfl).trans ((u45 238 106 (fn_a (by omega) fn_0)).trans ((u38 238 106 rfl).trans ((u35 238 106 rfl).trans ((u32 238 106 (fn_a (by omega) fn_0)).trans ((u29 238 106 rfl).trans ((u26 238 106 (fn_a (by omega) fn_0)).trans ((u21 238 106 rfl).trans ((u17 238 106 rfl).trans ((u15 238 106 rfl).trans (u13 238 106 rfl))))))))))))))))))))
            refine wp.lo (lo := [(0, .ref 236), (1, vi 0)]) ⟨rfl, rfl, trivial⟩ rfl ?_
            refine wl_1 (fun x85 h86 => GI h86 ∧ FR [(258, 258, none), (236, 236, some (0, 0)), (236, 236, some (47, 47)), (236, 236, some (48, 48))] h h86 ∧ FR [(258, 258, none), (236, 236, some (47, 47))] h81 h86 ∧ ((0 ≤ x85 ∧ x85 ≤ 12) ∧ ((h86 236 47) ≤ (h81 236 47) + 10 * x85) ∧ (x85 ≤ (h81 238 106)))) (fun x85 h86 => ((12 : Int) + 1 - x85).toNat) (fun x85 h86 => (100, [(0, .ref 236), (1, vi x85)], [], hp_w h86 cr, b, c)) ?_ 0 h81 ⟨g81, F83, FR.refl, (show (0 ≤ 0 ∧ 0 ≤ 12) ∧ ((h81 236 47) ≤ (h81 236 47) + 10 * 0) ∧ (0 ≤ (h81 238 106)) by omega)⟩
            intro x85 h86 ⟨g86, F88, u86, f86⟩ I86
            have b89 := gi_b (lo := 0) (hi := 300) g86 236 47 rfl
            refine wi_iload_n (i := 1) (e := x85) (nx := 101) (r1 := 0) (r2 := 0) (r3 := 0) rfl rfl ?_
            refine wi_aload_n (i := 0) (x := 236) (nx := 102) (r1 := 0) (r2 := 0) (r3 := 0) rfl rfl ?_
            refine wr_gr (k0 := 236) (x := 238) (nx := 105) (r1 := 11) (r2 := 13) (r3 := 0) rfl rfl (by decide) rfl ⟨rfl, rfl⟩ rfl ?_
            refine wi_bipush (n := 106) (nx := 107) (r1 := 0) (r2 := 0) (r3 := 0) rfl (by decide) ?_
            refine wr_ia (k0 := 238) (a := 106) (f := 106) (x := h 238 106) (nx := 108) (r1 := 0) (r2 := 0) (r3 := 0) rfl (by decide) rfl (by omega) (by omega) (by decide) ((u86 238 106 rfl).trans ((u81 238 106 rfl).trans ((u78 238 106 rfl).trans ((u75 238 106 (fn_a (by omega) fn_0)).trans ((u68 238 106 rfl).trans ((u65 238 106 rfl).trans ((u62 238 106 (fn_a (by omega) fn_0)).trans ((u59 238 106 rfl).trans ((u56 238 106 (fn_a (by omega) fn_0)).trans ((u51 238 106 rfl).trans ((u48 238 106 rfl).trans ((u45 238 106 (fn_a (by omega) fn_0)).trans ((u38 238 106 rfl).trans ((u35 238 106 rfl).trans ((u32 238 106 (fn_a (by omega) fn_0)).trans ((u29 238 106 rfl).trans ((u26 238 106 (fn_a (by omega) fn_0)).trans ((u21 238 106 rfl).trans ((u17 238 106 rfl).trans ((u15 238 106 rfl).trans (u13 238 106 rfl))))))))))))))))))))) ?_
            refine wi_icmp (cd := .ge) (nx := 111) (r1 := 130) (r2 := 0) (r3 := 0) rfl (by omega) (by omega) (fun (q90 : (h 238 106) ≤ x85) => ?_) (fun (q90 : ¬ ((h 238 106) ≤ x85)) => ?_)
            ·
              refine wi_aload_n (i := 0) (x := 236) (nx := 131) (r1 := 0) (r2 := 0) (r3 := 0) rfl rfl ?_
              refine wi_bipush (n := 10) (nx := 133) (r1 := 0) (r2 := 0) (r3 := 0) rfl (by decide) ?_
              refine wr_V (k0 := 236) (rest := []) (as := [.ref 236, vi 10]) (nx := 136) (r1 := 348) (r2 := 1) (r3 := 11) rfl rfl rfl (of_decide_eq_true rfl) rfl rfl (by decide) rfl rfl (of_decide_eq_true rfl) (of_decide_eq_true rfl) ?_
              refine wi_aload_n (i := 0) (x := 236) (nx := 1) (r1 := 0) (r2 := 0) (r3 := 0) rfl rfl ?_
              refine wr_gr (k0 := 236) (x := 258) (nx := 4) (r1 := 11) (r2 := 46) (r3 := 0) rfl rfl (by decide) rfl ⟨rfl, rfl⟩ rfl ?_
              refine wi_aload_n (i := 0) (x := 236) (nx := 5) (r1 := 0) (r2 := 0) (r3 := 0) rfl rfl ?_
              refine wr_gi0 (k0 := 236) (x := h86 236 47) (nx := 8) (r1 := 11) (r2 := 47) (r3 := 0) rfl rfl (by decide) rfl ⟨rfl, rfl⟩ rfl rfl ?_
              refine wi_iload_n (i := 1) (e := 10) (nx := 9) (r1 := 0) (r2 := 0) (r3 := 0) rfl rfl ?_
              obtain ⟨i91, ei91⟩ : ∃ q : Nat, (h86 236 47) = (q : Int) := ⟨(h86 236 47).toNat, by omega⟩
              refine wr_is (k0 := 258) (a := h86 236 47) (f := i91) (x := 10) (bl := -2147483648) (bh := 2147483647) (nx := 10) (r1 := 0) (r2 := 0) (r3 := 0) rfl (by decide) rfl (by omega) (by omega) (by decide) g86 rfl (by omega) (fun h92 g92 w92 u92 => ?_)
              have F93 := F88.then rfl (FR.rngp (lo := 258) (hi := 258) u92 (by decide))
              refine wi_aload_n (i := 0) (x := 236) (nx := 11) (r1 := 0) (r2 := 0) (r3 := 0) rfl rfl ?_
              refine wi_dup (nx := 12) (r1 := 0) (r2 := 0) (r3 := 0) rfl rfl ?_
              refine wr_gi0 (k0 := 236) (x := h86 236 47) (nx := 15) (r1 := 11) (r2 := 47) (r3 := 0) rfl rfl (by decide) rfl ⟨rfl, rfl⟩ rfl (u92 236 47 (fn_a (by omega) fn_0)) ?_
              refine wi_iconst (n := 1) (nx := 16) (r1 := 0) (r2 := 0) (r3 := 0) rfl ?_
              refine wr_add (nx := 17) (r1 := 0) (r2 := 0) (r3 := 0) rfl (fun e94 (fe94 : e94 = (h86 236 47) + 1) => ?_)
              refine wr_pf0 (k0 := 236) (x := e94) (bl := 0) (bh := 300) (nx := 20) (r1 := 11) (r2 := 47) (r3 := 0) rfl (by decide) rfl ⟨rfl, rfl⟩ rfl rfl g92 rfl (by omega) (fun h95 g95 w95 u95 => ?_)
              have F96 := F93.then rfl u95
              refine wi_return (nx := 21) (r1 := 0) (r2 := 0) (r3 := 0) rfl rfl ?_
              refine wk_n ?_
              refine wi_aload_n (i := 0) (x := 236) (nx := 137) (r1 := 0) (r2 := 0) (r3 := 0) rfl rfl ?_
              refine wr_gi0 (k0 := 236) (x := e94) (nx := 140) (r1 := 11) (r2 := 47) (r3 := 0) rfl rfl (by decide) rfl ⟨rfl, rfl⟩ rfl w95 ?_
              refine wi_ireturn (nx := 141) (r1 := 0) (r2 := 0) (r3 := 0) rfl rfl ?_
              exact k h95 e94 g95 F96 (by omega)
            ·
              refine wi_aload_n (i := 0) (x := 236) (nx := 112) (r1 := 0) (r2 := 0) (r3 := 0) rfl rfl ?_
              refine wi_aload_n (i := 0) (x := 236) (nx := 113) (r1 := 0) (r2 := 0) (r3 := 0) rfl rfl ?_
              refine wr_gr (k0 := 236) (x := 238) (nx := 116) (r1 := 11) (r2 := 13) (r3 := 0) rfl rfl (by decide) rfl ⟨rfl, rfl⟩ rfl ?_
              refine wi_bipush (n := 107) (nx := 118) (r1 := 0) (r2 := 0) (r3 := 0) rfl (by decide) ?_
              refine wi_iload_n (i := 1) (e := x85) (nx := 119) (r1 := 0) (r2 := 0) (r3 := 0) rfl rfl ?_
              refine wr_add (nx := 120) (r1 := 0) (r2 := 0) (r3 := 0) rfl (fun e91 (fe91 : e91 = 107 + x85) => ?_)
              obtain ⟨i92, ei92⟩ : ∃ q : Nat, e91 = (q : Int) := ⟨(e91).toNat, by omega⟩
              have b93 := gi_b (lo := 0) (hi := 11) g 238 i92 (gi_rg 107 12 (fun _ => rfl) (by decide +kernel) (by omega))
              refine wr_ia (k0 := 238) (a := e91) (f := i92) (x := h 238 i92) (nx := 121) (r1 := 0) (r2 := 0) (r3 := 0) rfl (by decide) rfl (by omega) (by omega) (by decide) ((u86 238 i92 (fn_a (by omega) (fn_a (by omega) fn_0))).trans ((u81 238 i92 (fn_a (by omega) (fn_a (by omega) fn_0))).trans ((u78 238 i92 (fn_a (by omega) fn_0)).trans ((u75 238 i92 (fn_a (by omega) fn_0)).trans ((u68 238 i92 (fn_a (by omega) (fn_a (by omega) fn_0))).trans ((u65 238 i92 (fn_a (by omega) fn_0)).trans ((u62 238 i92 (fn_a (by omega) fn_0)).trans ((u59 238 i92 (fn_a (by omega) fn_0)).trans ((u56 238 i92 (fn_a (by omega) fn_0)).trans ((u51 238 i92 (fn_a (by omega) (fn_a (by omega) fn_0))).trans ((u48 238 i92 (fn_a (by omega) fn_0)).trans ((u45 238 i92 (fn_a (by omega) fn_0)).trans ((u38 238 i92 (fn_a (by omega) (fn_a (by omega) fn_0))).trans ((u35 238 i92 (fn_a (by omega) fn_0)).trans ((u32 238 i92 (fn_a (by omega) fn_0)).trans ((u29 238 i92 (fn_a (by omega) fn_0)).trans ((u26 238 i92 (fn_a (by omega) fn_0)).trans ((u21 238 i92 (fn_a (by omega) (fn_a (by omega) fn_0))).trans ((u17 238 i92 (fn_a (by omega) fn_0)).trans ((u15 238 i92 (fn_a (by omega) fn_0)).trans (u13 238 i92 (fn_a (by omega) fn_0)))))))))))))))))))))) ?_
              refine wr_V (k0 := 236) (rest := []) (as := [.ref 236, vi (h 238 i92)]) (nx := 124) (r1 := 349) (r2 := 1) (r3 := 11) rfl rfl rfl (of_decide_eq_true rfl) rfl rfl (by decide) rfl rfl (of_decide_eq_true rfl) (of_decide_eq_true rfl) ?_
              refine ct_349_236 hcr  g86 (h 238 i92) (by omega) (show (h86 236 47) ≤ 289 by omega) (fun h94 g94 u94 (p94_0 : (h94 236 47) ≤ (h86 236 47) + 10) => ?_)
              have F95 := F88.then (by decide +kernel) u94
              have F96 := u86.then (by decide +kernel) u94
              have b97 := gi_b (lo := 0) (hi := 300) g94 236 47 rfl
              refine wk_n ?_
              refine wr_iinc (i := 1) (n := 1) (v := x85) (fun e98 => [(1, vi e98), (0, .ref 236)]) (nx := 127) (r1 := 0) (r2 := 0) (r3 := 0) rfl rfl (fun _ => rfl) (fun e98 (fe98 : e98 = x85 + 1) => ?_)
              refine wi_goto (nx := 130) (r1 := 100) (r2 := 0) (r3 := 0) rfl ?_
              refine wp.lo (lo := [(0, .ref 236), (1, vi e98)]) ⟨rfl, rfl, trivial⟩ rfl ?_
              exact I86 e98 h94 ⟨g94, F95, F96, (show (0 ≤ e98 ∧ e98 ≤ 12) ∧ ((h94 236 47) ≤ (h81 236 47) + 10 * e98) ∧ (e98 ≤ (h81 238 106)) by omega)⟩ (show ((12 : Int) + 1 - e98).toNat < ((12 : Int) + 1 - x85).toNat by omega)
          ·
            refine wi_aload_n (i := 0) (x := 236) (nx := 28) (r1 := 0) (r2 := 0) (r3 := 0) rfl rfl ?_
            refine wi_ldc2_w (e := 394693) (nx := 31) (r1 := 394693) (r2 := 0) (r3 := 0) rfl (by decide) ?_
            refine wr_V (k0 := 236) (rest := []) (as := [.ref 236, vl 394693]) (nx := 34) (r1 := 347) (r2 := 1) (r3 := 11) rfl rfl rfl (of_decide_eq_true rfl) rfl rfl (by decide) rfl rfl (of_decide_eq_true rfl) (of_decide_eq_true rfl) ?_
            have e82 : h78 236 47 = e77 := w78
            refine ct_347_236 hcr  g78 394693 (by omega) (show (h78 236 47) ≤ 291 by omega) (fun h81 g81 u81 (p81_0 : (h81 236 47) ≤ (h78 236 47) + 8) => ?_)
            have F83 := F79.then (by decide +kernel) u81
            have b84 := gi_b (lo := 0) (hi := 300) g81 236 47 rfl
            refine wk_n ?_
            refine wi_aload_n (i := 0) (x := 236) (nx := 35) (r1 := 0) (r2 := 0) (r3 := 0) rfl rfl ?_
            refine wi_bipush (n := 32) (nx := 37) (r1 := 0) (r2 := 0) (r3 := 0) rfl (by decide) ?_
            refine wr_V (k0 := 236) (rest := []) (as := [.ref 236, vi 32]) (nx := 40) (r1 := 348) (r2 := 1) (r3 := 11) rfl rfl rfl (of_decide_eq_true rfl) rfl rfl (by decide) rfl rfl (of_decide_eq_true rfl) (of_decide_eq_true rfl) ?_
            refine wi_aload_n (i := 0) (x := 236) (nx := 1) (r1 := 0) (r2 := 0) (r3 := 0) rfl rfl ?_
            refine wr_gr (k0 := 236) (x := 258) (nx := 4) (r1 := 11) (r2 := 46) (r3 := 0) rfl rfl (by decide) rfl ⟨rfl, rfl⟩ rfl ?_
            refine wi_aload_n (i := 0) (x := 236) (nx := 5) (r1 := 0) (r2 := 0) (r3 := 0) rfl rfl ?_
            refine wr_gi0 (k0 := 236) (x := h81 236 47) (nx := 8) (r1 := 11) (r2 := 47) (r3 := 0) rfl rfl (by decide) rfl ⟨rfl, rfl⟩ rfl rfl ?_
            refine wi_iload_n (i := 1) (e := 32) (nx := 9) (r1 := 0) (r2 := 0) (r3 := 0) rfl rfl ?_
            obtain ⟨i85, ei85⟩ : ∃ q : Nat, (h81 236 47) = (q : Int) := ⟨(h81 236 47).toNat, by omega⟩
            refine wr_is (k0 := 258) (a := h81 236 47) (f := i85) (x := 32) (bl := -2147483648) (bh := 2147483647) (nx := 10) (r1 := 0) (r2 := 0) (r3 := 0) rfl (by decide) rfl (by omega) (by omega) (by decide) g81 rfl (by omega) (fun h86 g86 w86 u86 => ?_)
            have F87 := F83.then rfl (FR.rngp (lo := 258) (hi := 258) u86 (by decide))
            refine wi_aload_n (i := 0) (x := 236) (nx := 11) (r1 := 0) (r2 := 0) (r3 := 0) rfl rfl ?_
            refine wi_dup (nx := 12) (r1 := 0) (r2 := 0) (r3 := 0) rfl rfl ?_
            refine wr_gi0 (k0 := 236) (x := h81 236 47) (nx := 15) (r1 := 11) (r2 := 47) (r3 := 0) rfl rfl (by decide) rfl ⟨rfl, rfl⟩ rfl (u86 236 47 (fn_a (by omega) fn_0)) ?_
            refine wi_iconst (n := 1) (nx := 16) (r1 := 0) (r2 := 0) (r3 := 0) rfl ?_
            refine wr_add (nx := 17) (r1 := 0) (r2 := 0) (r3 := 0) rfl (fun e88 (fe88 : e88 = (h81 236 47) + 1) => ?_)
            refine wr_pf0 (k0 := 236) (x := e88) (bl := 0) (bh := 300) (nx := 20) (r1 := 11) (r2 := 47) (r3 := 0) rfl (by decide) rfl ⟨rfl, rfl⟩ rfl rfl g86 rfl (by omega) (fun h89 g89 w89 u89 => ?_)
            have F90 := F87.then rfl u89
            refine wi_return (nx := 21) (r1 := 0) (r2 := 0) (r3 := 0) rfl rfl ?_
            refine wk_n ?_
            refine wi_aload_n (i := 0) (x := 236) (nx := 41) (r1 := 0) (r2 := 0) (r3 := 0) rfl rfl ?_
            refine wi_bipush (n := 48) (nx := 43) (r1 := 0) (r2 := 0) (r3 := 0) rfl (by decide) ?_
            refine wi_iload_n (i := 1) (e := 2) (nx := 44) (r1 := 0) (r2 := 0) (r3 := 0) rfl rfl ?_
            refine wr_addL (50) (nx := 45) (r1 := 0) (r2 := 0) (r3 := 0) rfl (by decide) ?_
            refine wr_V (k0 := 236) (rest := []) (as := [.ref 236, vi 50]) (nx := 48) (r1 := 348) (r2 := 1) (r3 := 11) rfl rfl rfl (of_decide_eq_true rfl) rfl rfl (by decide) rfl rfl (of_decide_eq_true rfl) (of_decide_eq_true rfl) ?_
            refine wi_aload_n (i := 0) (x := 236) (nx := 1) (r1 := 0) (r2 := 0) (r3 := 0) rfl rfl ?_
            refine wr_gr (k0 := 236) (x := 258) (nx := 4) (r1 := 11) (r2 := 46) (r3 := 0) rfl rfl (by decide) rfl ⟨rfl, rfl⟩ rfl ?_
            refine wi_aload_n (i := 0) (x := 236) (nx := 5) (r1 := 0) (r2 := 0) (r3 := 0) rfl rfl ?_
            refine wr_gi0 (k0 := 236) (x := e88) (nx := 8) (r1 := 11) (r2 := 47) (r3 := 0) rfl rfl (by decide) rfl ⟨rfl, rfl⟩ rfl w89 ?_
            refine wi_iload_n (i := 1) (e := 50) (nx := 9) (r1 := 0) (r2 := 0) (r3 := 0) rfl rfl ?_
            obtain ⟨i91, ei91⟩ : ∃ q : Nat, e88 = (q : Int) := ⟨(e88).toNat, by omega⟩
            refine wr_is (k0 := 258) (a := e88) (f := i91) (x := 50) (bl := -2147483648) (bh := 2147483647) (nx := 10) (r1 := 0) (r2 := 0) (r3 := 0) rfl (by decide) rfl (by omega) (by omega) (by decide) g89 rfl (by omega) (fun h92 g92 w92 u92 => ?_)
            have F93 := F90.then rfl (FR.rngp (lo := 258) (hi := 258) u92 (by decide))
            refine wi_aload_n (i := 0) (x := 236) (nx := 11) (r1 := 0) (r2 := 0) (r3 := 0) rfl rfl ?_
            refine wi_dup (nx := 12) (r1 := 0) (r2 := 0) (r3 := 0) rfl rfl ?_
            refine wr_gi0 (k0 := 236) (x := e88) (nx := 15) (r1 := 11) (r2 := 47) (r3 := 0) rfl rfl (by decide) rfl ⟨rfl, rfl⟩ rfl ((u92 236 47 (fn_a (by omega) fn_0)).trans w89) ?_
            refine wi_iconst (n := 1) (nx := 16) (r1 := 0) (r2 := 0) (r3 := 0) rfl ?_
            refine wr_add (nx := 17) (r1 := 0) (r2 := 0) (r3 := 0) rfl (fun e94 (fe94 : e94 = e88 + 1) => ?_)
            refine wr_pf0 (k0 := 236) (x := e94) (bl := 0) (bh := 300) (nx := 20) (r1 := 11) (r2 := 47) (r3 := 0) rfl (by decide) rfl ⟨rfl, rfl⟩ rfl rfl g92 rfl (by omega) (fun h95 g95 w95 u95 => ?_)
            have F96 := F93.then rfl u95
            refine wi_return (nx := 21) (r1 := 0) (r2 := 0) (r3 := 0) rfl rfl ?_
            refine wk_n ?_
            refine wi_iconst (n := 0) (nx := 49) (r1 := 0) (r2 := 0) (r3 := 0) rfl ?_
            refine wi_istore_n (i := 2) (e := 0) (lo2 := [(2, vi 0), (1, vi 2), (0, .ref 236)]) (nx := 50) (r1 := 0) (r2 := 0) (r3 := 0) rfl rfl ?_
            have e99 : h95 236 47 = e94 := w95
            have e100 : h95 238 100 = h 238 100 := ((u95 238 100 rfl).trans ((u92 238 100 (fn_a (by omega) fn_0)).trans ((u89 238 100 rfl).trans ((u86 238 100 (fn_a (by omega) fn_0)).trans ((u81 238 100 rfl).trans ((u78 238 100 rfl).trans ((u75 238 100 (fn_a (by omega) fn_0)).trans ((u68 238 100 rfl).trans ((u65 238 100 rfl).trans ((u62 238 100 (fn_a (by omega) fn_0)).trans ((u59 238 100 rfl).trans ((u56 238 100 (fn_a (by omega) fn_0)).trans ((u51 238 100 rfl).trans ((u48 238 100 rfl).trans ((u45 238 100 (fn_a (by omega) fn_0)).trans ((u38 238 100 rfl).trans ((u35 238 100 rfl).trans ((u32 238 100 (fn_a (by omega) fn_0)).trans ((u29 238 100 rfl).trans ((u26 238 100 (fn_a (by omega) fn_0)).trans ((u21 238 100 rfl).trans ((u17 238 100 rfl).trans ((u15 238 100 rfl).trans (u13 238 100 rfl))))))))))))))))))))))))
            refine wp.lo (lo := [(0, .ref 236), (1, vi 2), (2, vi 0)]) ⟨rfl, rfl, rfl, trivial⟩ rfl ?_
            refine wl_1 (fun x97 h98 => GI h98 ∧ FR [(258, 258, none), (236, 236, some (0, 0)), (236, 236, some (47, 47)), (236, 236, some (48, 48))] h h98 ∧ FR [(258, 258, none), (236, 236, some (47, 47))] h95 h98 ∧ ((0 ≤ x97 ∧ x97 ≤ 6) ∧ ((h98 236 47) ≤ (h95 236 47) + 10 * x97) ∧ (x97 ≤ (h95 238 100)))) (fun x97 h98 => ((6 : Int) + 1 - x97).toNat) (fun x97 h98 => (50, [(0, .ref 236), (1, vi 2), (2, vi x97)], [], hp_w h98 cr, b, c)) ?_ 0 h95 ⟨g95, F96, FR.refl, (show (0 ≤ 0 ∧ 0 ≤ 6) ∧ ((h95 236 47) ≤ (h95 236 47) + 10 * 0) ∧ (0 ≤ (h95 238 100)) by omega)⟩
            intro x97 h98 ⟨g98, F101, u98, f98⟩ I98
            have b102 := gi_b (lo := 0) (hi := 300) g98 236 47 rfl
            refine wi_iload_n (i := 2) (e := x97) (nx := 51) (r1 := 0) (r2 := 0) (r3 := 0) rfl rfl ?_
            refine wi_aload_n (i := 0) (x := 236) (nx := 52) (r1 := 0) (r2 := 0) (r3 := 0) rfl rfl ?_
            refine wr_gr (k0 := 236) (x := 238) (nx := 55) (r1 := 11) (r2 := 13) (r3 := 0) rfl rfl (by decide) rfl ⟨rfl, rfl⟩ rfl ?_
            refine wi_bipush (n := 98) (nx := 57) (r1 := 0) (r2 := 0) (r3 := 0) rfl (by decide) ?_
            refine wi_iload_n (i := 1) (e := 2) (nx := 58) (r1 := 0) (r2 := 0) (r3 := 0) rfl rfl ?_
            refine wr_addL (100) (nx := 59) (r1 := 0) (r2 := 0) (r3 := 0) rfl (by decide) ?_
            refine wr_ia (k0 := 238) (a := 100) (f := 100) (x := h 238 100) (nx := 60) (r1 := 0) (r2 := 0) (r3 := 0) rfl (by decide) rfl (by omega) (by omega) (by decide) ((u98 238 100 rfl).trans ((u95 238 100 rfl).trans ((u92 238 100 (fn_a (by omega) fn_0)).trans ((u89 238 100 rfl).trans ((u86 238 100 (fn_a (by omega) fn_0)).trans ((u81 238 100 rfl).trans ((u78 238 100 rfl).trans ((u75 238 100 (fn_a (by omega) fn_0)).trans ((u68 238 100 rfl).trans ((u65 238 100 rfl).trans ((u62 238 100 (fn_a (by omega) fn_0)).trans ((u59 238 100 rfl).trans ((u56 238 100 (fn_a (by omega) fn_0)).trans ((u51 238 100 rfl).trans ((u48 238 100 rfl).trans ((u45 238 100 (fn_a (by omega) fn_0)).trans ((u38 238 100 rfl).trans ((u35 238 100 rfl).trans ((u32 238 100 (fn_a (by omega) fn_0)).trans ((u29 238 100 rfl).trans ((u26 238 100 (fn_a (by omega) fn_0)).trans ((u21 238 100 rfl).trans ((u17 238 100 rfl).trans ((u15 238 100 rfl).trans (u13 238 100 rfl))))))))))))))))))))))))) ?_
            refine wi_icmp (cd := .ge) (nx := 63) (r1 := 79) (r2 := 0) (r3 := 0) rfl (by omega) (by omega) (fun (q103 : (h 238 100) ≤ x97) => ?_) (fun (q103 : ¬ ((h 238 100) ≤ x97)) => ?_)
            ·
              refine wi_aload_n (i := 0) (x := 236) (nx := 80) (r1 := 0) (r2 := 0) (r3 := 0) rfl rfl ?_
              refine wi_bipush (n := 10) (nx := 82) (r1 := 0) (r2 := 0) (r3 := 0) rfl (by decide) ?_
              refine wr_V (k0 := 236) (rest := []) (as := [.ref 236, vi 10]) (nx := 85) (r1 := 348) (r2 := 1) (r3 := 11) rfl rfl rfl (of_decide_eq_true rfl) rfl rfl (by decide) rfl rfl (of_decide_eq_true rfl) (of_decide_eq_true rfl) ?_
              refine wi_aload_n (i := 0) (x := 236) (nx := 1) (r1 := 0) (r2 := 0) (r3 := 0) rfl rfl ?_
              refine wr_gr (k0 := 236) (x := 258) (nx := 4) (r1 := 11) (r2 := 46) (r3 := 0) rfl rfl (by decide) rfl ⟨rfl, rfl⟩ rfl ?_
              refine wi_aload_n (i := 0) (x := 236) (nx := 5) (r1 := 0) (r2 := 0) (r3 := 0) rfl rfl ?_
              refine wr_gi0 (k0 := 236) (x := h98 236 47) (nx := 8) (r1 := 11) (r2 := 47) (r3 := 0) rfl rfl (by decide) rfl ⟨rfl, rfl⟩ rfl rfl ?_
              refine wi_iload_n (i := 1) (e := 10) (nx := 9) (r1 := 0) (r2 := 0) (r3 := 0) rfl rfl ?_
              obtain ⟨i104, ei104⟩ : ∃ q : Nat, (h98 236 47) = (q : Int) := ⟨(h98 236 47).toNat, by omega⟩
              refine wr_is (k0 := 258) (a := h98 236 47) (f := i104) (x := 10) (bl := -2147483648) (bh := 2147483647) (nx := 10) (r1 := 0) (r2 := 0) (r3 := 0) rfl (by decide) rfl (by omega) (by omega) (by decide) g98 rfl (by omega) (fun h105 g105 w105 u105 => ?_)
              have F106 := F101.then rfl (FR.rngp (lo := 258) (hi := 258) u105 (by decide))
              refine wi_aload_n (i := 0) (x := 236) (nx := 11) (r1 := 0) (r2 := 0) (r3 := 0) rfl rfl ?_
              refine wi_dup (nx := 12) (r1 := 0) (r2 := 0) (r3 := 0) rfl rfl ?_
              refine wr_gi0 (k0 := 236) (x := h98 236 47) (nx := 15) (r1 := 11) (r2 := 47) (r3 := 0) rfl rfl (by decide) rfl ⟨rfl, rfl⟩ rfl (u105 236 47 (fn_a (by omega) fn_0)) ?_
              refine wi_iconst (n := 1) (nx := 16) (r1 := 0) (r2 := 0) (r3 := 0) rfl ?_
              refine wr_add (nx := 17) (r1 := 0) (r2 := 0) (r3 := 0) rfl (fun e107 (fe107 : e107 = (h98 236 47) + 1) => ?_)
              refine wr_pf0 (k0 := 236) (x := e107) (bl := 0) (bh := 300) (nx := 20) (r1 := 11) (r2 := 47) (r3 := 0) rfl (by decide) rfl ⟨rfl, rfl⟩ rfl rfl g105 rfl (by omega) (fun h108 g108 w108 u108 => ?_)
              have F109 := F106.then rfl u108
              refine wi_return (nx := 21) (r1 := 0) (r2 := 0) (r3 := 0) rfl rfl ?_
              refine wk_n ?_
              refine wr_iincL (i := 1) (n := 1) (v := 2) (3) ([(1, vi 3), (0, .ref 236), (2, vi x97)]) (nx := 88) (r1 := 0) (r2 := 0) (r3 := 0) rfl rfl (by decide) rfl ?_
              refine wi_goto (nx := 91) (r1 := 17) (r2 := 0) (r3 := 0) rfl ?_
              refine wi_iload_n (i := 1) (e := 3) (nx := 18) (r1 := 0) (r2 := 0) (r3 := 0) rfl rfl ?_
              refine wi_aload_n (i := 0) (x := 236) (nx := 19) (r1 := 0) (r2 := 0) (r3 := 0) rfl rfl ?_
              refine wr_gr (k0 := 236) (x := 238) (nx := 22) (r1 := 11) (r2 := 13) (r3 := 0) rfl rfl (by decide) rfl ⟨rfl, rfl⟩ rfl ?_
              refine wi_iconst (n := 1) (nx := 23) (r1 := 0) (r2 := 0) (r3 := 0) rfl ?_
              refine wr_ia (k0 := 238) (a := 1) (f := 1) (x := h 238 1) (nx := 24) (r1 := 0) (r2 := 0) (r3 := 0) rfl (by decide) rfl (by omega) (by omega) (by decide) ((u108 238 1 rfl).trans ((u105 238 1 (fn_a (by omega) fn_0)).trans ((u98 238 1 rfl).trans ((u95 238 1 rfl).trans ((u92 238 1 (fn_a (by omega) fn_0)).trans ((u89 238 1 rfl).trans ((u86 238 1 (fn_a (by omega) fn_0)).trans ((u81 238 1 rfl).trans ((u78 238 1 rfl).trans ((u75 238 1 (fn_a (by omega) fn_0)).trans ((u68 238 1 rfl).trans ((u65 238 1 rfl).trans ((u62 238 1 (fn_a (by omega) fn_0)).trans ((u59 238 1 rfl).trans ((u56 238 1 (fn_a (by omega) fn_0)).trans ((u51 238 1 rfl).trans ((u48 238 1 rfl).trans ((u45 238 1 (fn_a (by omega) fn_0)).trans ((u38 238 1 rfl).trans ((u35 238 1 rfl).trans ((u32 238 1 (fn_a (by omega) fn_0)).trans ((u29 238 1 rfl).trans ((u26 238 1 (fn_a (by omega) fn_0)).trans ((u21 238 1 rfl).trans ((u17 238 1 rfl).trans ((u15 238 1 rfl).trans (u13 238 1 rfl))))))))))))))))))))))))))) ?_
              refine wi_icmp (cd := .ge) (nx := 27) (r1 := 91) (r2 := 0) (r3 := 0) rfl (by omega) (by omega) (fun (q110 : (h 238 1) ≤ 3) => ?_) (fun (q110 : ¬ ((h 238 1) ≤ 3)) => ?_)
              ·
                refine wi_aload_n (i := 0) (x := 236) (nx := 92) (r1 := 0) (r2 := 0) (r3 := 0) rfl rfl ?_
                refine wi_ldc2_w (e := 16052) (nx := 95) (r1 := 16052) (r2 := 0) (r3 := 0) rfl (by decide) ?_
                refine wr_V (k0 := 236) (rest := []) (as := [.ref 236, vl 16052]) (nx := 98) (r1 := 347) (r2 := 1) (r3 := 11) rfl rfl rfl (of_decide_eq_true rfl) rfl rfl (by decide) rfl rfl (of_decide_eq_true rfl) (of_decide_eq_true rfl) ?_
                have e112 : h108 236 47 = e107 := w108
                refine ct_347_236 hcr  g108 16052 (by omega) (show (h108 236 47) ≤ 291 by omega) (fun h111 g111 u111 (p111_0 : (h111 236 47) ≤ (h108 236 47) + 8) => ?_)
                have F113 := F109.then (by decide +kernel) u111
                have b114 := gi_b (lo := 0) (hi := 300) g111 236 47 rfl
                refine wk_n ?_
                refine wi_iconst (n := 0) (nx := 99) (r1 := 0) (r2 := 0) (r3 := 0) rfl ?_
                refine wi_istore_n (i := 1) (e := 0) (lo2 := [(1, vi 0), (0, .ref 236), (2, vi x97)]) (nx := 100) (r1 := 0) (r2 := 0) (r3 := 0) rfl rfl ?_
                have e117 : h111 238 106 = h 238 106 := ((u111 238 106 rfl).trans ((u108 238 106 rfl).trans ((u105 238 106 (fn_a (by omega) fn_0)).trans ((u98 238 106 rfl).trans ((u95 238 106 rfl).trans ((u92 238 106 (fn_a (by omega) fn_0)).trans ((u89 238 106 rfl).trans ((u86 238 106 (fn_a (by omega) fn_0)).trans ((u81 238 106 rfl).trans ((u78 238 106 rfl).trans ((u75 238 106 (fn_a (by omega) fn_0)).trans ((u68 238 106 rfl).trans ((u65 238 106 rfl).trans ((u62 238 106 (fn_a (by omega) fn_0)).trans ((u59 238 106 rfl).trans ((u56 238 106 (fn_a (by omega) fn_0)).trans ((u51 238 106 rfl).trans ((u48 238 106 rfl).trans ((u45 238 106 (fn_a (by omega) fn_0)).trans ((u38 238 106 rfl).trans ((u35 238 106 rfl).trans ((u32 238 106 (fn_a (by omega) fn_0)).trans ((u29 238 106 rfl).trans ((u26 238 106 (fn_a (by omega) fn_0)).trans ((u21 238 106 rfl).trans ((u17 238 106 rfl).trans ((u15 238 106 rfl).trans (u13 238 106 rfl))))))))))))))))))))))))))))
                refine wp.lo (lo := [(0, .ref 236), (1, vi 0)]) ⟨rfl, rfl, trivial⟩ rfl ?_
                refine wl_1 (fun x115 h116 => GI h116 ∧ FR [(258, 258, none), (236, 236, some (0, 0)), (236, 236, some (47, 47)), (236, 236, some (48, 48))] h h116 ∧ FR [(258, 258, none), (236, 236, some (47, 47))] h111 h116 ∧ ((0 ≤ x115 ∧ x115 ≤ 12) ∧ ((h116 236 47) ≤ (h111 236 47) + 10 * x115) ∧ (x115 ≤ (h111 238 106)))) (fun x115 h116 => ((12 : Int) + 1 - x115).toNat) (fun x115 h116 => (100, [(0, .ref 236), (1, vi x115)], [], hp_w h116 cr, b, c)) ?_ 0 h111 ⟨g111, F113, FR.refl, (show (0 ≤ 0 ∧ 0 ≤ 12) ∧ ((h111 236 47) ≤ (h111 236 47) + 10 * 0) ∧ (0 ≤ (h111 238 106)) by omega)⟩
                intro x115 h116 ⟨g116, F118, u116, f116⟩ I116
                have b119 := gi_b (lo := 0) (hi := 300) g116 236 47 rfl
                refine wi_iload_n (i := 1) (e := x115) (nx := 101) (r1 := 0) (r2 := 0) (r3 := 0) rfl rfl ?_
                refine wi_aload_n (i := 0) (x := 236) (nx := 102) (r1 := 0) (r2 := 0) (r3 := 0) rfl rfl ?_
                refine wr_gr (k0 := 236) (x := 238) (nx := 105) (r1 := 11) (r2 := 13) (r3 := 0) rfl rfl (by decide) rfl ⟨rfl, rfl⟩ rfl ?_
                refine wi_bipush (n := 106) (nx := 107) (r1 := 0) (r2 := 0) (r3 := 0) rfl (by decide) ?_
                refine wr_ia (k0 := 238) (a := 106) (f := 106) (x := h 238 106) (nx := 108) (r1 := 0) (r2 := 0) (r3 := 0) rfl (by decide) rfl (by omega) (by omega) (by decide) ((u116 238 106 rfl).trans ((u111 238 106 rfl).trans ((u108 238 106 rfl).trans ((u105 238 106 (fn_a (by omega) fn_0)).trans ((u98 238 106 rfl).trans ((u95 238 106 rfl).trans ((u92 238 106 (fn_a (by omega) fn_0)).trans ((u89 238 106 rfl).trans ((u86 238 106 (fn_a (by omega) fn_0)).trans ((u81 238 106 rfl).trans ((u78 238 106 rfl).trans ((u75 238 106 (fn_a (by omega) fn_0)).trans ((u68 238 106 rfl).trans ((u65 238 106 rfl).trans ((u62 238 106 (fn_a (by omega) fn_0)).trans ((u59 238 106 rfl).trans ((u56 238 106 (fn_a (by omega) fn_0)).trans ((u51 238 106 rfl).trans ((u48 238 106 rfl).trans ((u45 238 106 (fn_a (by omega) fn_0)).trans ((u38 238 106 rfl).trans ((u35 238 106 rfl).trans ((u32 238 106 (fn_a (by omega) fn_0)).trans ((u29 238 106 rfl).trans ((u26 238 106 (fn_a (by omega) fn_0)).trans ((u21 238 106 rfl).trans ((u17 238 106 rfl).trans ((u15 238 106 rfl).trans (u13 238 106 rfl))))))))))))))))))))))))))))) ?_
                refine wi_icmp (cd := .ge) (nx := 111) (r1 := 130) (r2 := 0) (r3 := 0) rfl (by omega) (by omega) (fun (q120 : (h 238 106) ≤ x115) => ?_) (fun (q120 : ¬ ((h 238 106) ≤ x115)) => ?_)
                ·
                  refine wi_aload_n (i := 0) (x := 236) (nx := 131) (r1 := 0) (r2 := 0) (r3 := 0) rfl rfl ?_
                  refine wi_bipush (n := 10) (nx := 133) (r1 := 0) (r2 := 0) (r3 := 0) rfl (by decide) ?_
                  refine wr_V (k0 := 236) (rest := []) (as := [.ref 236, vi 10]) (nx := 136) (r1 := 348) (r2 := 1) (r3 := 11) rfl rfl rfl (of_decide_eq_true rfl) rfl rfl (by decide) rfl rfl (of_decide_eq_true rfl) (of_decide_eq_true rfl) ?_
                  refine wi_aload_n (i := 0) (x := 236) (nx := 1) (r1 := 0) (r2 := 0) (r3 := 0) rfl rfl ?_
                  refine wr_gr (k0 := 236) (x := 258) (nx := 4) (r1 := 11) (r2 := 46) (r3 := 0) rfl rfl (by decide) rfl ⟨rfl, rfl⟩ rfl ?_
                  refine wi_aload_n (i := 0) (x := 236) (nx := 5) (r1 := 0) (r2 := 0) (r3 := 0) rfl rfl ?_
                  refine wr_gi0 (k0 := 236) (x := h116 236 47) (nx := 8) (r1 := 11) (r2 := 47) (r3 := 0) rfl rfl (by decide) rfl ⟨rfl, rfl⟩ rfl rfl ?_
                  refine wi_iload_n (i := 1) (e := 10) (nx := 9) (r1 := 0) (r2 := 0) (r3 := 0) rfl rfl ?_
                  obtain ⟨i121, ei121⟩ : ∃ q : Nat, (h116 236 47) = (q : Int) := ⟨(h116 236 47).toNat, by omega⟩
                  refine wr_is (k0 := 258) (a := h116 236 47) (f := i121) (x := 10) (bl := -2147483648) (bh := 2147483647) (nx := 10) (r1 := 0) (r2 := 0) (r3 := 0) rfl (by decide) rfl (by omega) (by omega) (by decide) g116 rfl (by omega) (fun h122 g122 w122 u122 => ?_)
                  have F123 := F118.then rfl (FR.rngp (lo := 258) (hi := 258) u122 (by decide))
                  refine wi_aload_n (i := 0) (x := 236) (nx := 11) (r1 := 0) (r2 := 0) (r3 := 0) rfl rfl ?_
                  refine wi_dup (nx := 12) (r1 := 0) (r2 := 0) (r3 := 0) rfl rfl ?_
                  refine wr_gi0 (k0 := 236) (x := h116 236 47) (nx := 15) (r1 := 11) (r2 := 47) (r3 := 0) rfl rfl (by decide) rfl ⟨rfl, rfl⟩ rfl (u122 236 47 (fn_a (by omega) fn_0)) ?_
                  refine wi_iconst (n := 1) (nx := 16) (r1 := 0) (r2 := 0) (r3 := 0) rfl ?_
                  refine wr_add (nx := 17) (r1 := 0) (r2 := 0) (r3 := 0) rfl (fun e124 (fe124 : e124 = (h116 236 47) + 1) => ?_)
                  refine wr_pf0 (k0 := 236) (x := e124) (bl := 0) (bh := 300) (nx := 20) (r1 := 11) (r2 := 47) (r3 := 0) rfl (by decide) rfl ⟨rfl, rfl⟩ rfl rfl g122 rfl (by omega) (fun h125 g125 w125 u125 => ?_)
                  have F126 := F123.then rfl u125
                  refine wi_return (nx := 21) (r1 := 0) (r2 := 0) (r3 := 0) rfl rfl ?_
                  refine wk_n ?_
                  refine wi_aload_n (i := 0) (x := 236) (nx := 137) (r1 := 0) (r2 := 0) (r3 := 0) rfl rfl ?_
                  refine wr_gi0 (k0 := 236) (x := e124) (nx := 140) (r1 := 11) (r2 := 47) (r3 := 0) rfl rfl (by decide) rfl ⟨rfl, rfl⟩ rfl w125 ?_
                  refine wi_ireturn (nx := 141) (r1 := 0) (r2 := 0) (r3 := 0) rfl rfl ?_
                  exact k h125 e124 g125 F126 (by omega)
                ·
                  refine wi_aload_n (i := 0) (x := 236) (nx := 112) (r1 := 0) (r2 := 0) (r3 := 0) rfl rfl ?_
                  refine wi_aload_n (i := 0) (x := 236) (nx := 113) (r1 := 0) (r2 := 0) (r3 := 0) rfl rfl ?_
                  refine wr_gr (k0 := 236) (x := 238) (nx := 116) (r1 := 11) (r2 := 13) (r3 := 0) rfl rfl (by decide) rfl ⟨rfl, rfl⟩ rfl ?_
                  refine wi_bipush (n := 107) (nx := 118) (r1 := 0) (r2 := 0) (r3 := 0) rfl (by decide) ?_
                  refine wi_iload_n (i := 1) (e := x115) (nx := 119) (r1 := 0) (r2 := 0) (r3 := 0) rfl rfl ?_
                  refine wr_add (nx := 120) (r1 := 0) (r2 := 0) (r3 := 0) rfl (fun e121 (fe121 : e121 = 107 + x115) => ?_)
                  obtain ⟨i122, ei122⟩ : ∃ q : Nat, e121 = (q : Int) := ⟨(e121).toNat, by omega⟩
                  have b123 := gi_b (lo := 0) (hi := 11) g 238 i122 (gi_rg 107 12 (fun _ => rfl) (by decide +kernel) (by omega))
                  refine wr_ia (k0 := 238) (a := e121) (f := i122) (x := h 238 i122) (nx := 121) (r1 := 0) (r2 := 0) (r3 := 0) rfl (by decide) rfl (by omega) (by omega) (by decide) ((u116 238 i122 (fn_a (by omega) (fn_a (by omega) fn_0))).trans ((u111 238 i122 (fn_a (by omega) (fn_a (by omega) fn_0))).trans ((u108 238 i122 (fn_a (by omega) fn_0)).trans ((u105 238 i122 (fn_a (by omega) fn_0)).trans ((u98 238 i122 (fn_a (by omega) (fn_a (by omega) fn_0))).trans ((u95 238 i122 (fn_a (by omega) fn_0)).trans ((u92 238 i122 (fn_a (by omega) fn_0)).trans ((u89 238 i122 (fn_a (by omega) fn_0)).trans ((u86 238 i122 (fn_a (by omega) fn_0)).trans ((u81 238 i122 (fn_a (by omega) (fn_a (by omega) fn_0))).trans ((u78 238 i122 (fn_a (by omega) fn_0)).trans ((u75 238 i122 (fn_a (by omega) fn_0)).trans ((u68 238 i122 (fn_a (by omega) (fn_a (by omega) fn_0))).trans ((u65 238 i122 (fn_a (by omega) fn_0)).trans ((u62 238 i122 (fn_a (by omega) fn_0)).trans ((u59 238 i122 (fn_a (by omega) fn_0)).trans ((u56 238 i122 (fn_a (by omega) fn_0)).trans ((u51 238 i122 (fn_a (by omega) (fn_a (by omega) fn_0))).trans ((u48 238 i122 (fn_a (by omega) fn_0)).trans ((u45 238 i122 (fn_a (by omega) fn_0)).trans ((u38 238 i122 (fn_a (by omega) (fn_a (by omega) fn_0))).trans ((u35 238 i122 (fn_a (by omega) fn_0)).trans ((u32 238 i122 (fn_a (by omega) fn_0)).trans ((u29 238 i122 (fn_a (by omega) fn_0)).trans ((u26 238 i122 (fn_a (by omega) fn_0)).trans ((u21 238 i122 (fn_a (by omega) (fn_a (by omega) fn_0))).trans ((u17 238 i122 (fn_a (by omega) fn_0)).trans ((u15 238 i122 (fn_a (by omega) fn_0)).trans (u13 238 i122 (fn_a (by omega) fn_0)))))))))))))))))))))))))))))) ?_
                  refine wr_V (k0 := 236) (rest := []) (as := [.ref 236, vi (h 238 i122)]) (nx := 124) (r1 := 349) (r2 := 1) (r3 := 11) rfl rfl rfl (of_decide_eq_true rfl) rfl rfl (by decide) rfl rfl (of_decide_eq_true rfl) (of_decide_eq_true rfl) ?_
                  refine ct_349_236 hcr  g116 (h 238 i122) (by omega) (show (h116 236 47) ≤ 289 by omega) (fun h124 g124 u124 (p124_0 : (h124 236 47) ≤ (h116 236 47) + 10) => ?_)
                  have F125 := F118.then (by decide +kernel) u124
                  have F126 := u116.then (by decide +kernel) u124
                  have b127 := gi_b (lo := 0) (hi := 300) g124 236 47 rfl
                  refine wk_n ?_
                  refine wr_iinc (i := 1) (n := 1) (v := x115) (fun e128 => [(1, vi e128), (0, .ref 236)]) (nx := 127) (r1 := 0) (r2 := 0) (r3 := 0) rfl rfl (fun _ => rfl) (fun e128 (fe128 : e128 = x115 + 1) => ?_)
                  refine wi_goto (nx := 130) (r1 := 100) (r2 := 0) (r3 := 0) rfl ?_
                  refine wp.lo (lo := [(0, .ref 236), (1, vi e128)]) ⟨rfl, rfl, trivial⟩ rfl ?_
                  exact I116 e128 h124 ⟨g124, F125, F126, (show (0 ≤ e128 ∧ e128 ≤ 12) ∧ ((h124 236 47) ≤ (h111 236 47) + 10 * e128) ∧ (e128 ≤ (h111 238 106)) by omega)⟩ (show ((12 : Int) + 1 - e128).toNat < ((12 : Int) + 1 - x115).toNat by omega)
              ·
                refine wi_aload_n (i := 0) (x := 236) (nx := 28) (r1 := 0) (r2 := 0) (r3 := 0) rfl rfl ?_
                refine wi_ldc2_w (e := 394693) (nx := 31) (r1 := 394693) (r2 := 0) (r3 := 0) rfl (by decide) ?_
                refine wr_V (k0 := 236) (rest := []) (as := [.ref 236, vl 394693]) (nx := 34) (r1 := 347) (r2 := 1) (r3 := 11) rfl rfl rfl (of_decide_eq_true rfl) rfl rfl (by decide) rfl rfl (of_decide_eq_true rfl) (of_decide_eq_true rfl) ?_
                have e112 : h108 236 47 = e107 := w108
                refine ct_347_236 hcr  g108 394693 (by omega) (show (h108 236 47) ≤ 291 by omega) (fun h111 g111 u111 (p111_0 : (h111 236 47) ≤ (h108 236 47) + 8) => ?_)
                have F113 := F109.then (by decide +kernel) u111
                have b114 := gi_b (lo := 0) (hi := 300) g111 236 47 rfl
                refine wk_n ?_
                refine wi_aload_n (i := 0) (x := 236) (nx := 35) (r1 := 0) (r2 := 0) (r3 := 0) rfl rfl ?_
                refine wi_bipush (n := 32) (nx := 37) (r1 := 0) (r2 := 0) (r3 := 0) rfl (by decide) ?_
                refine wr_V (k0 := 236) (rest := []) (as := [.ref 236, vi 32]) (nx := 40) (r1 := 348) (r2 := 1) (r3 := 11) rfl rfl rfl (of_decide_eq_true rfl) rfl rfl (by decide) rfl rfl (of_decide_eq_true rfl) (of_decide_eq_true rfl) ?_
                refine wi_aload_n (i := 0) (x := 236) (nx := 1) (r1 := 0) (r2 := 0) (r3 := 0) rfl rfl ?_
                refine wr_gr (k0 := 236) (x := 258) (nx := 4) (r1 := 11) (r2 := 46) (r3 := 0) rfl rfl (by decide) rfl ⟨rfl, rfl⟩ rfl ?_
                refine wi_aload_n (i := 0) (x := 236) (nx := 5) (r1 := 0) (r2 := 0) (r3 := 0) rfl rfl ?_
                refine wr_gi0 (k0 := 236) (x := h111 236 47) (nx := 8) (r1 := 11) (r2 := 47) (r3 := 0) rfl rfl (by decide) rfl ⟨rfl, rfl⟩ rfl rfl ?_
                refine wi_iload_n (i := 1) (e := 32) (nx := 9) (r1 := 0) (r2 := 0) (r3 := 0) rfl rfl ?_
                obtain ⟨i115, ei115⟩ : ∃ q : Nat, (h111 236 47) = (q : Int) := ⟨(h111 236 47).toNat, by omega⟩
                refine wr_is (k0 := 258) (a := h111 236 47) (f := i115) (x := 32) (bl := -2147483648) (bh := 2147483647) (nx := 10) (r1 := 0) (r2 := 0) (r3 := 0) rfl (by decide) rfl (by omega) (by omega) (by decide) g111 rfl (by omega) (fun h116 g116 w116 u116 => ?_)
                have F117 := F113.then rfl (FR.rngp (lo := 258) (hi := 258) u116 (by decide))
                refine wi_aload_n (i := 0) (x := 236) (nx := 11) (r1 := 0) (r2 := 0) (r3 := 0) rfl rfl ?_
                refine wi_dup (nx := 12) (r1 := 0) (r2 := 0) (r3 := 0) rfl rfl ?_
                refine wr_gi0 (k0 := 236) (x := h111 236 47) (nx := 15) (r1 := 11) (r2 := 47) (r3 := 0) rfl rfl (by decide) rfl ⟨rfl, rfl⟩ rfl (u116 236 47 (fn_a (by omega) fn_0)) ?_
                refine wi_iconst (n := 1) (nx := 16) (r1 := 0) (r2 := 0) (r3 := 0) rfl ?_
                refine wr_add (nx := 17) (r1 := 0) (r2 := 0) (r3 := 0) rfl (fun e118 (fe118 : e118 = (h111 236 47) + 1) => ?_)
                refine wr_pf0 (k0 := 236) (x := e118) (bl := 0) (bh := 300) (nx := 20) (r1 := 11) (r2 := 47) (r3 := 0) rfl (by decide) rfl ⟨rfl, rfl⟩ rfl rfl g116 rfl (by omega) (fun h119 g119 w119 u119 => ?_)
                have F120 := F117.then rfl u119
                refine wi_return (nx := 21) (r1 := 0) (r2 := 0) (r3 := 0) rfl rfl ?_
                refine wk_n ?_
                refine wi_aload_n (i := 0) (x := 236) (nx := 41) (r1 := 0) (r2 := 0) (r3 := 0) rfl rfl ?_
                refine wi_bipush (n := 48) (nx := 43) (r1 := 0) (r2 := 0) (r3 := 0) rfl (by decide) ?_
                refine wi_iload_n (i := 1) (e := 3) (nx := 44) (r1 := 0) (r2 := 0) (r3 := 0) rfl rfl ?_
                refine wr_addL (51) (nx := 45) (r1 := 0) (r2 := 0) (r3 := 0) rfl (by decide) ?_
                refine wr_V (k0 := 236) (rest := []) (as := [.ref 236, vi 51]) (nx := 48) (r1 := 348) (r2 := 1) (r3 := 11) rfl rfl rfl (of_decide_eq_true rfl) rfl rfl (by decide) rfl rfl (of_decide_eq_true rfl) (of_decide_eq_true rfl) ?_
                refine wi_aload_n (i := 0) (x := 236) (nx := 1) (r1 := 0) (r2 := 0) (r3 := 0) rfl rfl ?_
                refine wr_gr (k0 := 236) (x := 258) (nx := 4) (r1 := 11) (r2 := 46) (r3 := 0) rfl rfl (by decide) rfl ⟨rfl, rfl⟩ rfl ?_
                refine wi_aload_n (i := 0) (x := 236) (nx := 5) (r1 := 0) (r2 := 0) (r3 := 0) rfl rfl ?_
                refine wr_gi0 (k0 := 236) (x := e118) (nx := 8) (r1 := 11) (r2 := 47) (r3 := 0) rfl rfl (by decide) rfl ⟨rfl, rfl⟩ rfl w119 ?_
                refine wi_iload_n (i := 1) (e := 51) (nx := 9) (r1 := 0) (r2 := 0) (r3 := 0) rfl rfl ?_
                obtain ⟨i121, ei121⟩ : ∃ q : Nat, e118 = (q : Int) := ⟨(e118).toNat, by omega⟩
                refine wr_is (k0 := 258) (a := e118) (f := i121) (x := 51) (bl := -2147483648) (bh := 2147483647) (nx := 10) (r1 := 0) (r2 := 0) (r3 := 0) rfl (by decide) rfl (by omega) (by omega) (by decide) g119 rfl (by omega) (fun h122 g122 w122 u122 => ?_)
                have F123 := F120.then rfl (FR.rngp (lo := 258) (hi := 258) u122 (by decide))
                refine wi_aload_n (i := 0) (x := 236) (nx := 11) (r1 := 0) (r2 := 0) (r3 := 0) rfl rfl ?_
                refine wi_dup (nx := 12) (r1 := 0) (r2 := 0) (r3 := 0) rfl rfl ?_
                refine wr_gi0 (k0 := 236) (x := e118) (nx := 15) (r1 := 11) (r2 := 47) (r3 := 0) rfl rfl (by decide) rfl ⟨rfl, rfl⟩ rfl ((u122 236 47 (fn_a (by omega) fn_0)).trans w119) ?_
                refine wi_iconst (n := 1) (nx := 16) (r1 := 0) (r2 := 0) (r3 := 0) rfl ?_
                refine wr_add (nx := 17) (r1 := 0) (r2 := 0) (r3 := 0) rfl (fun e124 (fe124 : e124 = e118 + 1) => ?_)
                refine wr_pf0 (k0 := 236) (x := e124) (bl := 0) (bh := 300) (nx := 20) (r1 := 11) (r2 := 47) (r3 := 0) rfl (by decide) rfl ⟨rfl, rfl⟩ rfl rfl g122 rfl (by omega) (fun h125 g125 w125 u125 => ?_)
                have F126 := F123.then rfl u125
                refine wi_return (nx := 21) (r1 := 0) (r2 := 0) (r3 := 0) rfl rfl ?_
                refine wk_n ?_
                refine wi_iconst (n := 0) (nx := 49) (r1 := 0) (r2 := 0) (r3 := 0) rfl ?_
                refine wi_istore_n (i := 2) (e := 0) (lo2 := [(2, vi 0), (1, vi 3), (0, .ref 236)]) (nx := 50) (r1 := 0) (r2 := 0) (r3 := 0) rfl rfl ?_
                have e129 : h125 236 47 = e124 := w125
                have e130 : h125 238 101 = h 238 101 := ((u125 238 101 rfl).trans ((u122 238 101 (fn_a (by omega) fn_0)).trans ((u119 238 101 rfl).trans ((u116 238 101 (fn_a (by omega) fn_0)).trans ((u111 238 101 rfl).trans ((u108 238 101 rfl).trans ((u105 238 101 (fn_a (by omega) fn_0)).trans ((u98 238 101 rfl).trans ((u95 238 101 rfl).trans ((u92 238 101 (fn_a (by omega) fn_0)).trans ((u89 238 101 rfl).trans ((u86 238 101 (fn_a (by omega) fn_0)).trans ((u81 238 101 rfl).trans ((u78 238 101 rfl).trans ((u75 238 101 (fn_a (by omega) fn_0)).trans ((u68 238 101 rfl).trans ((u65 238 101 rfl).trans ((u62 238 101 (fn_a (by omega) fn_0)).trans ((u59 238 101 rfl).trans ((u56 238 101 (fn_a (by omega) fn_0)).trans ((u51 238 101 rfl).trans ((u48 238 101 rfl).trans ((u45 238 101 (fn_a (by omega) fn_0)).trans ((u38 238 101 rfl).trans ((u35 238 101 rfl).trans ((u32 238 101 (fn_a (by omega) fn_0)).trans ((u29 238 101 rfl).trans ((u26 238 101 (fn_a (by omega) fn_0)).trans ((u21 238 101 rfl).trans ((u17 238 101 rfl).trans ((u15 238 101 rfl).trans (u13 238 101 rfl))))))))))))))))))))))))))))))))
                refine wp.lo (lo := [(0, .ref 236), (1, vi 3), (2, vi 0)]) ⟨rfl, rfl, rfl, trivial⟩ rfl ?_
                refine wl_1 (fun x127 h128 => GI h128 ∧ FR [(258, 258, none), (236, 236, some (0, 0)), (236, 236, some (47, 47)), (236, 236, some (48, 48))] h h128 ∧ FR [(258, 258, none), (236, 236, some (47, 47))] h125 h128 ∧ ((0 ≤ x127 ∧ x127 ≤ 6) ∧ ((h128 236 47) ≤ (h125 236 47) + 10 * x127) ∧ (x127 ≤ (h125 238 101)))) (fun x127 h128 => ((6 : Int) + 1 - x127).toNat) (fun x127 h128 => (50, [(0, .ref 236), (1, vi 3), (2, vi x127)], [], hp_w h128 cr, b, c)) ?_ 0 h125 ⟨g125, F126, FR.refl, (show (0 ≤ 0 ∧ 0 ≤ 6) ∧ ((h125 236 47) ≤ (h125 236 47) + 10 * 0) ∧ (0 ≤ (h125 238 101)) by omega)⟩
                intro x127 h128 ⟨g128, F131, u128, f128⟩ I128
                have b132 := gi_b (lo := 0) (hi := 300) g128 236 47 rfl
                refine wi_iload_n (i := 2) (e := x127) (nx := 51) (r1 := 0) (r2 := 0) (r3 := 0) rfl rfl ?_
                refine wi_aload_n (i := 0) (x := 236) (nx := 52) (r1 := 0) (r2 := 0) (r3 := 0) rfl rfl ?_
                refine wr_gr (k0 := 236) (x := 238) (nx := 55) (r1 := 11) (r2 := 13) (r3 := 0) rfl rfl (by decide) rfl ⟨rfl, rfl⟩ rfl ?_
                refine wi_bipush (n := 98) (nx := 57) (r1 := 0) (r2 := 0) (r3 := 0) rfl (by decide) ?_
                refine wi_iload_n (i := 1) (e := 3) (nx := 58) (r1 := 0) (r2 := 0) (r3 := 0) rfl rfl ?_
                refine wr_addL (101) (nx := 59) (r1 := 0) (r2 := 0) (r3 := 0) rfl (by decide) ?_
                refine wr_ia (k0 := 238) (a := 101) (f := 101) (x := h 238 101) (nx := 60) (r1 := 0) (r2 := 0) (r3 := 0) rfl (by decide) rfl (by omega) (by omega) (by decide) ((u128 238 101 rfl).trans ((u125 238 101 rfl).trans ((u122 238 101 (fn_a (by omega) fn_0)).trans ((u119 238 101 rfl).trans ((u116 238 101 (fn_a (by omega) fn_0)).trans ((u111 238 101 rfl).trans ((u108 238 101 rfl).trans ((u105 238 101 (fn_a (by omega) fn_0)).trans ((u98 238 101 rfl).trans ((u95 238 101 rfl).trans ((u92 238 101 (fn_a (by omega) fn_0)).trans ((u89 238 101 rfl).trans ((u86 238 101 (fn_a (by omega) fn_0)).trans ((u81 238 101 rfl).trans ((u78 238 101 rfl).trans ((u75 238 101 (fn_a (by omega) fn_0)).trans ((u68 238 101 rfl).trans ((u65 238 101 rfl).trans ((u62 238 101 (fn_a (by omega) fn_0)).trans ((u59 238 101 rfl).trans ((u56 238 101 (fn_a (by omega) fn_0)).trans ((u51 238 101 rfl).trans ((u48 238 101 rfl).trans ((u45 238 101 (fn_a (by omega) fn_0)).trans ((u38 238 101 rfl).trans ((u35 238 101 rfl).trans ((u32 238 101 (fn_a (by omega) fn_0)).trans ((u29 238 101 rfl).trans ((u26 238 101 (fn_a (by omega) fn_0)).trans ((u21 238 101 rfl).trans ((u17 238 101 rfl).trans ((u15 238 101 rfl).trans (u13 238 101 rfl))))))))))))))))))))))))))))))))) ?_
                refine wi_icmp (cd := .ge) (nx := 63) (r1 := 79) (r2 := 0) (r3 := 0) rfl (by omega) (by omega) (fun (q133 : (h 238 101) ≤ x127) => ?_) (fun (q133 : ¬ ((h 238 101) ≤ x127)) => ?_)
                ·
                  refine wi_aload_n (i := 0) (x := 236) (nx := 80) (r1 := 0) (r2 := 0) (r3 := 0) rfl rfl ?_
                  refine wi_bipush (n := 10) (nx := 82) (r1 := 0) (r2 := 0) (r3 := 0) rfl (by decide) ?_
                  refine wr_V (k0 := 236) (rest := []) (as := [.ref 236, vi 10]) (nx := 85) (r1 := 348) (r2 := 1) (r3 := 11) rfl rfl rfl (of_decide_eq_true rfl) rfl rfl (by decide) rfl rfl (of_decide_eq_true rfl) (of_decide_eq_true rfl) ?_
                  refine wi_aload_n (i := 0) (x := 236) (nx := 1) (r1 := 0) (r2 := 0) (r3 := 0) rfl rfl ?_
                  refine wr_gr (k0 := 236) (x := 258) (nx := 4) (r1 := 11) (r2 := 46) (r3 := 0) rfl rfl (by decide) rfl ⟨rfl, rfl⟩ rfl ?_
                  refine wi_aload_n (i := 0) (x := 236) (nx := 5) (r1 := 0) (r2 := 0) (r3 := 0) rfl rfl ?_
                  refine wr_gi0 (k0 := 236) (x := h128 236 47) (nx := 8) (r1 := 11) (r2 := 47) (r3 := 0) rfl rfl (by decide) rfl ⟨rfl, rfl⟩ rfl rfl ?_
                  refine wi_iload_n (i := 1) (e := 10) (nx := 9) (r1 := 0) (r2 := 0) (r3 := 0) rfl rfl ?_
                  obtain ⟨i134, ei134⟩ : ∃ q : Nat, (h128 236 47) = (q : Int) := ⟨(h128 236 47).toNat, by omega⟩
                  refine wr_is (k0 := 258) (a := h128 236 47) (f := i134) (x := 10) (bl := -2147483648) (bh := 2147483647) (nx := 10) (r1 := 0) (r2 := 0) (r3 := 0) rfl (by decide) rfl (by omega) (by omega) (by decide) g128 rfl (by omega) (fun h135 g135 w135 u135 => ?_)
                  have F136 := F131.then rfl (FR.rngp (lo := 258) (hi := 258) u135 (by decide))
                  refine wi_aload_n (i := 0) (x := 236) (nx := 11) (r1 := 0) (r2 := 0) (r3 := 0) rfl rfl ?_
                  refine wi_dup (nx := 12) (r1 := 0) (r2 := 0) (r3 := 0) rfl rfl ?_
                  refine wr_gi0 (k0 := 236) (x := h128 236 47) (nx := 15) (r1 := 11) (r2 := 47) (r3 := 0) rfl rfl (by decide) rfl ⟨rfl, rfl⟩ rfl (u135 236 47 (fn_a (by omega) fn_0)) ?_
                  refine wi_iconst (n := 1) (nx := 16) (r1 := 0) (r2 := 0) (r3 := 0) rfl ?_
                  refine wr_add (nx := 17) (r1 := 0) (r2 := 0) (r3 := 0) rfl (fun e137 (fe137 : e137 = (h128 236 47) + 1) => ?_)
                  refine wr_pf0 (k0 := 236) (x := e137) (bl := 0) (bh := 300) (nx := 20) (r1 := 11) (r2 := 47) (r3 := 0) rfl (by decide) rfl ⟨rfl, rfl⟩ rfl rfl g135 rfl (by omega) (fun h138 g138 w138 u138 => ?_)
                  have F139 := F136.then rfl u138
                  refine wi_return (nx := 21) (r1 := 0) (r2 := 0) (r3 := 0) rfl rfl ?_
                  refine wk_n ?_
                  refine wr_iincL (i := 1) (n := 1) (v := 3) (4) ([(1, vi 4), (0, .ref 236), (2, vi x127)]) (nx := 88) (r1 := 0) (r2 := 0) (r3 := 0) rfl rfl (by decide) rfl ?_
                  refine wi_goto (nx := 91) (r1 := 17) (r2 := 0) (r3 := 0) rfl ?_
                  refine wi_iload_n (i := 1) (e := 4) (nx := 18) (r1 := 0) (r2 := 0) (r3 := 0) rfl rfl ?_
                  refine wi_aload_n (i := 0) (x := 236) (nx := 19) (r1 := 0) (r2 := 0) (r3 := 0) rfl rfl ?_
                  refine wr_gr (k0 := 236) (x := 238) (nx := 22) (r1 := 11) (r2 := 13) (r3 := 0) rfl rfl (by decide) rfl ⟨rfl, rfl⟩ rfl ?_
                  refine wi_iconst (n := 1) (nx := 23) (r1 := 0) (r2 := 0) (r3 := 0) rfl ?_
                  refine wr_ia (k0 := 238) (a := 1) (f := 1) (x := h 238 1) (nx := 24) (r1 := 0) (r2 := 0) (r3 := 0) rfl (by decide) rfl (by omega) (by omega) (by decide) ((u138 238 1 rfl).trans ((u135 238 1 (fn_a (by omega) fn_0)).trans ((u128 238 1 rfl).trans ((u125 238 1 rfl).trans ((u122 238 1 (fn_a (by omega) fn_0)).trans ((u119 238 1 rfl).trans ((u116 238 1 (fn_a (by omega) fn_0)).trans ((u111 238 1 rfl).trans ((u108 238 1 rfl).trans ((u105 238 1 (fn_a (by omega) fn_0)).trans ((u98 238 1 rfl).trans ((u95 238 1 rfl).trans ((u92 238 1 (fn_a (by omega) fn_0)).trans ((u89 238 1 rfl).trans ((u86 238 1 (fn_a (by omega) fn_0)).trans ((u81 238 1 rfl).trans ((u78 238 1 rfl).trans ((u75 238 1 (fn_a (by omega) fn_0)).trans ((u68 238 1 rfl).trans ((u65 238 1 rfl).trans ((u62 238 1 (fn_a (by omega) fn_0)).trans ((u59 238 1 rfl).trans ((u56 238 1 (fn_a (by omega) fn_0)).trans ((u51 238 1 rfl).trans ((u48 238 1 rfl).trans ((u45 238 1 (fn_a (by omega) fn_0)).trans ((u38 238 1 rfl).trans ((u35 238 1 rfl).trans ((u32 238 1 (fn_a (by omega) fn_0)).trans ((u29 238 1 rfl).trans ((u26 238 1 (fn_a (by omega) fn_0)).trans ((u21 238 1 rfl).trans ((u17 238 1 rfl).trans ((u15 238 1 rfl).trans (u13 238 1 rfl))))))))))))))))))))))))))))))))))) ?_
                  refine wi_icmp (cd := .ge) (nx := 27) (r1 := 91) (r2 := 0) (r3 := 0) rfl (by omega) (by omega) (fun (q140 : (h 238 1) ≤ 4) => ?_) (fun (q140 : ¬ ((h 238 1) ≤ 4)) => by exfalso; omega)
                  refine wi_aload_n (i := 0) (x := 236) (nx := 92) (r1 := 0) (r2 := 0) (r3 := 0) rfl rfl ?_
                  refine wi_ldc2_w (e := 16052) (nx := 95) (r1 := 16052) (r2 := 0) (r3 := 0) rfl (by decide) ?_
                  refine wr_V (k0 := 236) (rest := []) (as := [.ref 236, vl 16052]) (nx := 98) (r1 := 347) (r2 := 1) (r3 := 11) rfl rfl rfl (of_decide_eq_true rfl) rfl rfl (by decide) rfl rfl (of_decide_eq_true rfl) (of_decide_eq_true rfl) ?_
                  have e142 : h138 236 47 = e137 := w138
                  refine ct_347_236 hcr  g138 16052 (by omega) (show (h138 236 47) ≤ 291 by omega) (fun h141 g141 u141 (p141_0 : (h141 236 47) ≤ (h138 236 47) + 8) => ?_)
                  have F143 := F139.then (by decide +kernel) u141
                  have b144 := gi_b (lo := 0) (hi := 300) g141 236 47 rfl
                  refine wk_n ?_
                  refine wi_iconst (n := 0) (nx := 99) (r1 := 0) (r2 := 0) (r3 := 0) rfl ?_
                  refine wi_istore_n (i := 1) (e := 0) (lo2 := [(1, vi 0), (0, .ref 236), (2, vi x127)]) (nx := 100) (r1 := 0) (r2 := 0) (r3 := 0) rfl rfl ?_
                  have e147 : h141 238 106 = h 238 106 := ((u141 238 106 rfl).trans ((u138 238 106 rfl).trans ((u135 238 106 (fn_a (by omega) fn_0)).trans ((u128 238 106 rfl).trans ((u125 238 106 rfl).trans ((u122 238 106 (fn_a (by omega) fn_0)).trans ((u119 238 106 rfl).trans ((u116 238 106 (fn_a (by omega) fn_0)).trans ((u111 238 106 rfl).trans ((u108 238 106 rfl).trans ((u105 238 106 (fn_a (by omega) fn_0)).trans ((u98 238 106 rfl).trans ((u95 238 106 rfl).trans ((u92 238 106 (fn_a (by omega) fn_0)).trans ((u89 238 106 rfl).trans ((u86 238 106 (fn_a (by omega) fn_0)).trans ((u81 238 106 rfl).trans ((u78 238 106 rfl).trans ((u75 238 106 (fn_a (by omega) fn_0)).trans ((u68 238 106 rfl).trans ((u65 238 106 rfl).trans ((u62 238 106 (fn_a (by omega) fn_0)).trans ((u59 238 106 rfl).trans ((u56 238 106 (fn_a (by omega) fn_0)).trans ((u51 238 106 rfl).trans ((u48 238 106 rfl).trans ((u45 238 106 (fn_a (by omega) fn_0)).trans ((u38 238 106 rfl).trans ((u35 238 106 rfl).trans ((u32 238 106 (fn_a (by omega) fn_0)).trans ((u29 238 106 rfl).trans ((u26 238 106 (fn_a (by omega) fn_0)).trans ((u21 238 106 rfl).trans ((u17 238 106 rfl).trans ((u15 238 106 rfl).trans (u13 238 106 rfl))))))))))))))))))))))))))))))))))))
                  refine wp.lo (lo := [(0, .ref 236), (1, vi 0)]) ⟨rfl, rfl, trivial⟩ rfl ?_
                  refine wl_1 (fun x145 h146 => GI h146 ∧ FR [(258, 258, none), (236, 236, some (0, 0)), (236, 236, some (47, 47)), (236, 236, some (48, 48))] h h146 ∧ FR [(258, 258, none), (236, 236, some (47, 47))] h141 h146 ∧ ((0 ≤ x145 ∧ x145 ≤ 12) ∧ ((h146 236 47) ≤ (h141 236 47) + 10 * x145) ∧ (x145 ≤ (h141 238 106)))) (fun x145 h146 => ((12 : Int) + 1 - x145).toNat) (fun x145 h146 => (100, [(0, .ref 236), (1, vi x145)], [], hp_w h146 cr, b, c)) ?_ 0 h141 ⟨g141, F143, FR.refl, (show (0 ≤ 0 ∧ 0 ≤ 12) ∧ ((h141 236 47) ≤ (h141 236 47) + 10 * 0) ∧ (0 ≤ (h141 238 106)) by omega)⟩
                  intro x145 h146 ⟨g146, F148, u146, f146⟩ I146
                  have b149 := gi_b (lo := 0) (hi := 300) g146 236 47 rfl
                  refine wi_iload_n (i := 1) (e := x145) (nx := 101) (r1 := 0) (r2 := 0) (r3 := 0) rfl rfl ?_
                  refine wi_aload_n (i := 0) (x := 236) (nx := 102) (r1 := 0) (r2 := 0) (r3 := 0) rfl rfl ?_
                  refine wr_gr (k0 := 236) (x := 238) (nx := 105) (r1 := 11) (r2 := 13) (r3 := 0) rfl rfl (by decide) rfl ⟨rfl, rfl⟩ rfl ?_
                  refine wi_bipush (n := 106) (nx := 107) (r1 := 0) (r2 := 0) (r3 := 0) rfl (by decide) ?_
                  refine wr_ia (k0 := 238) (a := 106) (f := 106) (x := h 238 106) (nx := 108) (r1 := 0) (r2 := 0) (r3 := 0) rfl (by decide) rfl (by omega) (by omega) (by decide) ((u146 238 106 rfl).trans ((u141 238 106 rfl).trans ((u138 238 106 rfl).trans ((u135 238 106 (fn_a (by omega) fn_0)).trans ((u128 238 106 rfl).trans ((u125 238 106 rfl).trans ((u122 238 106 (fn_a (by omega) fn_0)).trans ((u119 238 106 rfl).trans ((u116 238 106 (fn_a (by omega) fn_0)).trans ((u111 238 106 rfl).trans ((u108 238 106 rfl).trans ((u105 238 106 (fn_a (by omega) fn_0)).trans ((u98 238 106 rfl).trans ((u95 238 106 rfl).trans ((u92 238 106 (fn_a (by omega) fn_0)).trans ((u89 238 106 rfl).trans ((u86 238 106 (fn_a (by omega) fn_0)).trans ((u81 238 106 rfl).trans ((u78 238 106 rfl).trans ((u75 238 106 (fn_a (by omega) fn_0)).trans ((u68 238 106 rfl).trans ((u65 238 106 rfl).trans ((u62 238 106 (fn_a (by omega) fn_0)).trans ((u59 238 106 rfl).trans ((u56 238 106 (fn_a (by omega) fn_0)).trans ((u51 238 106 rfl).trans ((u48 238 106 rfl).trans ((u45 238 106 (fn_a (by omega) fn_0)).trans ((u38 238 106 rfl).trans ((u35 238 106 rfl).trans ((u32 238 106 (fn_a (by omega) fn_0)).trans ((u29 238 106 rfl).trans ((u26 238 106 (fn_a (by omega) fn_0)).trans ((u21 238 106 rfl).trans ((u17 238 106 rfl).trans ((u15 238 106 rfl).trans (u13 238 106 rfl))))))))))))))))))))))))))))))))))))) ?_
                  refine wi_icmp (cd := .ge) (nx := 111) (r1 := 130) (r2 := 0) (r3 := 0) rfl (by omega) (by omega) (fun (q150 : (h 238 106) ≤ x145) => ?_) (fun (q150 : ¬ ((h 238 106) ≤ x145)) => ?_)
                  ·
                    refine wi_aload_n (i := 0) (x := 236) (nx := 131) (r1 := 0) (r2 := 0) (r3 := 0) rfl rfl ?_
                    refine wi_bipush (n := 10) (nx := 133) (r1 := 0) (r2 := 0) (r3 := 0) rfl (by decide) ?_
                    refine wr_V (k0 := 236) (rest := []) (as := [.ref 236, vi 10]) (nx := 136) (r1 := 348) (r2 := 1) (r3 := 11) rfl rfl rfl (of_decide_eq_true rfl) rfl rfl (by decide) rfl rfl (of_decide_eq_true rfl) (of_decide_eq_true rfl) ?_
                    refine wi_aload_n (i := 0) (x := 236) (nx := 1) (r1 := 0) (r2 := 0) (r3 := 0) rfl rfl ?_
                    refine wr_gr (k0 := 236) (x := 258) (nx := 4) (r1 := 11) (r2 := 46) (r3 := 0) rfl rfl (by decide) rfl ⟨rfl, rfl⟩ rfl ?_
                    refine wi_aload_n (i := 0) (x := 236) (nx := 5) (r1 := 0) (r2 := 0) (r3 := 0) rfl rfl ?_
                    refine wr_gi0 (k0 := 236) (x := h146 236 47) (nx := 8) (r1 := 11) (r2 := 47) (r3 := 0) rfl rfl (by decide) rfl ⟨rfl, rfl⟩ rfl rfl ?_
                    refine wi_iload_n (i := 1) (e := 10) (nx := 9) (r1 := 0) (r2 := 0) (r3 := 0) rfl rfl ?_
                    obtain ⟨i151, ei151⟩ : ∃ q : Nat, (h146 236 47) = (q : Int) := ⟨(h146 236 47).toNat, by omega⟩
                    refine wr_is (k0 := 258) (a := h146 236 47) (f := i151) (x := 10) (bl := -2147483648) (bh := 2147483647) (nx := 10) (r1 := 0) (r2 := 0) (r3 := 0) rfl (by decide) rfl (by omega) (by omega) (by decide) g146 rfl (by omega) (fun h152 g152 w152 u152 => ?_)
                    have F153 := F148.then rfl (FR.rngp (lo := 258) (hi := 258) u152 (by decide))
                    refine wi_aload_n (i := 0) (x := 236) (nx := 11) (r1 := 0) (r2 := 0) (r3 := 0) rfl rfl ?_
                    refine wi_dup (nx := 12) (r1 := 0) (r2 := 0) (r3 := 0) rfl rfl ?_
                    refine wr_gi0 (k0 := 236) (x := h146 236 47) (nx := 15) (r1 := 11) (r2 := 47) (r3 := 0) rfl rfl (by decide) rfl ⟨rfl, rfl⟩ rfl (u152 236 47 (fn_a (by omega) fn_0)) ?_
                    refine wi_iconst (n := 1) (nx := 16) (r1 := 0) (r2 := 0) (r3 := 0) rfl ?_
                    refine wr_add (nx := 17) (r1 := 0) (r2 := 0) (r3 := 0) rfl (fun e154 (fe154 : e154 = (h146 236 47) + 1) => ?_)
                    refine wr_pf0 (k0 := 236) (x := e154) (bl := 0) (bh := 300) (nx := 20) (r1 := 11) (r2 := 47) (r3 := 0) rfl (by decide) rfl ⟨rfl, rfl⟩ rfl rfl g152 rfl (by omega) (fun h155 g155 w155 u155 => ?_)
                    have F156 := F153.then rfl u155
                    refine wi_return (nx := 21) (r1 := 0) (r2 := 0) (r3 := 0) rfl rfl ?_
                    refine wk_n ?_
                    refine wi_aload_n (i := 0) (x := 236) (nx := 137) (r1 := 0) (r2 := 0) (r3 := 0) rfl rfl ?_
                    refine wr_gi0 (k0 := 236) (x := e154) (nx := 140) (r1 := 11) (r2 := 47) (r3 := 0) rfl rfl (by decide) rfl ⟨rfl, rfl⟩ rfl w155 ?_
                    refine wi_ireturn (nx := 141) (r1 := 0) (r2 := 0) (r3 := 0) rfl rfl ?_
                    exact k h155 e154 g155 F156 (by omega)
                  ·
                    refine wi_aload_n (i := 0) (x := 236) (nx := 112) (r1 := 0) (r2 := 0) (r3 := 0) rfl rfl ?_
                    refine wi_aload_n (i := 0) (x := 236) (nx := 113) (r1 := 0) (r2 := 0) (r3 := 0) rfl rfl ?_
                    refine wr_gr (k0 := 236) (x := 238) (nx := 116) (r1 := 11) (r2 := 13) (r3 := 0) rfl rfl (by decide) rfl ⟨rfl, rfl⟩ rfl ?_
                    refine wi_bipush (n := 107) (nx := 118) (r1 := 0) (r2 := 0) (r3 := 0) rfl (by decide) ?_
                    refine wi_iload_n (i := 1) (e := x145) (nx := 119) (r1 := 0) (r2 := 0) (r3 := 0) rfl rfl ?_
                    refine wr_add (nx := 120) (r1 := 0) (r2 := 0) (r3 := 0) rfl (fun e151 (fe151 : e151 = 107 + x145) => ?_)
                    obtain ⟨i152, ei152⟩ : ∃ q : Nat, e151 = (q : Int) := ⟨(e151).toNat, by omega⟩
                    have b153 := gi_b (lo := 0) (hi := 11) g 238 i152 (gi_rg 107 12 (fun _ => rfl) (by decide +kernel) (by omega))
                    refine wr_ia (k0 := 238) (a := e151) (f := i152) (x := h 238 i152) (nx := 121) (r1 := 0) (r2 := 0) (r3 := 0) rfl (by decide) rfl (by omega) (by omega) (by decide) ((u146 238 i152 (fn_a (by omega) (fn_a (by omega) fn_0))).trans ((u141 238 i152 (fn_a (by omega) (fn_a (by omega) fn_0))).trans ((u138 238 i152 (fn_a (by omega) fn_0)).trans ((u135 238 i152 (fn_a (by omega) fn_0)).trans ((u128 238 i152 (fn_a (by omega) (fn_a (by omega) fn_0))).trans ((u125 238 i152 (fn_a (by omega) fn_0)).trans ((u122 238 i152 (fn_a (by omega) fn_0)).trans ((u119 238 i152 (fn_a (by omega) fn_0)).trans ((u116 238 i152 (fn_a (by omega) fn_0)).trans ((u111 238 i152 (fn_a (by omega) (fn_a (by omega) fn_0))).trans ((u108 238 i152 (fn_a (by omega) fn_0)).trans ((u105 238 i152 (fn_a (by omega) fn_0)).trans ((u98 238 i152 (fn_a (by omega) (fn_a (by omega) fn_0))).trans ((u95 238 i152 (fn_a (by omega) fn_0)).trans ((u92 238 i152 (fn_a (by omega) fn_0)).trans ((u89 238 i152 (fn_a (by omega) fn_0)).trans ((u86 238 i152 (fn_a (by omega) fn_0)).trans ((u81 238 i152 (fn_a (by omega) (fn_a (by omega) fn_0))).trans ((u78 238 i152 (fn_a (by omega) fn_0)).trans ((u75 238 i152 (fn_a (by omega) fn_0)).trans ((u68 238 i152 (fn_a (by omega) (fn_a (by omega) fn_0))).trans ((u65 238 i152 (fn_a (by omega) fn_0)).trans ((u62 238 i152 (fn_a (by omega) fn_0)).trans ((u59 238 i152 (fn_a (by omega) fn_0)).trans ((u56 238 i152 (fn_a (by omega) fn_0)).trans ((u51 238 i152 (fn_a (by omega) (fn_a (by omega) fn_0))).trans ((u48 238 i152 (fn_a (by omega) fn_0)).trans ((u45 238 i152 (fn_a (by omega) fn_0)).trans ((u38 238 i152 (fn_a (by omega) (fn_a (by omega) fn_0))).trans ((u35 238 i152 (fn_a (by omega) fn_0)).trans ((u32 238 i152 (fn_a (by omega) fn_0)).trans ((u29 238 i152 (fn_a (by omega) fn_0)).trans ((u26 238 i152 (fn_a (by omega) fn_0)).trans ((u21 238 i152 (fn_a (by omega) (fn_a (by omega) fn_0))).trans ((u17 238 i152 (fn_a (by omega) fn_0)).trans ((u15 238 i152 (fn_a (by omega) fn_0)).trans (u13 238 i152 (fn_a (by omega) fn_0)))))))))))))))))))))))))))))))))))))) ?_
                    refine wr_V (k0 := 236) (rest := []) (as := [.ref 236, vi (h 238 i152)]) (nx := 124) (r1 := 349) (r2 := 1) (r3 := 11) rfl rfl rfl (of_decide_eq_true rfl) rfl rfl (by decide) rfl rfl (of_decide_eq_true rfl) (of_decide_eq_true rfl) ?_
                    refine ct_349_236 hcr  g146 (h 238 i152) (by omega) (show (h146 236 47) ≤ 289 by omega) (fun h154 g154 u154 (p154_0 : (h154 236 47) ≤ (h146 236 47) + 10) => ?_)
                    have F155 := F148.then (by decide +kernel) u154
                    have F156 := u146.then (by decide +kernel) u154
                    have b157 := gi_b (lo := 0) (hi := 300) g154 236 47 rfl
                    refine wk_n ?_
                    refine wr_iinc (i := 1) (n := 1) (v := x145) (fun e158 => [(1, vi e158), (0, .ref 236)]) (nx := 127) (r1 := 0) (r2 := 0) (r3 := 0) rfl rfl (fun _ => rfl) (fun e158 (fe158 : e158 = x145 + 1) => ?_)
                    refine wi_goto (nx := 130) (r1 := 100) (r2 := 0) (r3 := 0) rfl ?_
                    refine wp.lo (lo := [(0, .ref 236), (1, vi e158)]) ⟨rfl, rfl, trivial⟩ rfl ?_
                    exact I146 e158 h154 ⟨g154, F155, F156, (show (0 ≤ e158 ∧ e158 ≤ 12) ∧ ((h154 236 47) ≤ (h141 236 47) + 10 * e158) ∧ (e158 ≤ (h141 238 106)) by omega)⟩ (show ((12 : Int) + 1 - e158).toNat < ((12 : Int) + 1 - x145).toNat by omega)
                ·
                  refine wi_aload_n (i := 0) (x := 236) (nx := 64) (r1 := 0) (r2 := 0) (r3 := 0) rfl rfl ?_
                  refine wi_aload_n (i := 0) (x := 236) (nx := 65) (r1 := 0) (r2 := 0) (r3 := 0) rfl rfl ?_
                  refine wi_iload_n (i := 1) (e := 3) (nx := 66) (r1 := 0) (r2 := 0) (r3 := 0) rfl rfl ?_
                  refine wi_iload_n (i := 2) (e := x127) (nx := 67) (r1 := 0) (r2 := 0) (r3 := 0) rfl rfl ?_
                  refine wr_V (k0 := 236) (rest := [.ref 236]) (as := [.ref 236, vi 3, vi x127]) (nx := 70) (r1 := 258) (r2 := 2) (r3 := 11) rfl rfl rfl (of_decide_eq_true rfl) rfl rfl (by decide) rfl rfl (of_decide_eq_true rfl) (of_decide_eq_true rfl) ?_
                  refine wi_aload_n (i := 0) (x := 236) (nx := 1) (r1 := 0) (r2 := 0) (r3 := 0) rfl rfl ?_
                  refine wr_gr (k0 := 236) (x := 238) (nx := 4) (r1 := 11) (r2 := 13) (r3 := 0) rfl rfl (by decide) rfl ⟨rfl, rfl⟩ rfl ?_
                  refine wi_bipush (n := 74) (nx := 6) (r1 := 0) (r2 := 0) (r3 := 0) rfl (by decide) ?_
                  refine wi_bipush (n := 6) (nx := 8) (r1 := 0) (r2 := 0) (r3 := 0) rfl (by decide) ?_
                  refine wi_iload_n (i := 1) (e := 3) (nx := 9) (r1 := 0) (r2 := 0) (r3 := 0) rfl rfl ?_
                  refine wr_mulL (18) (nx := 10) (r1 := 0) (r2 := 0) (r3 := 0) rfl (by decide) ?_
                  refine wr_addL (92) (nx := 11) (r1 := 0) (r2 := 0) (r3 := 0) rfl (by decide) ?_
                  refine wi_iload_n (i := 2) (e := x127) (nx := 12) (r1 := 0) (r2 := 0) (r3 := 0) rfl rfl ?_
                  refine wr_add (nx := 13) (r1 := 0) (r2 := 0) (r3 := 0) rfl (fun e134 (fe134 : e134 = 92 + x127) => ?_)
                  obtain ⟨i135, ei135⟩ : ∃ q : Nat, e134 = (q : Int) := ⟨(e134).toNat, by omega⟩
                  have b136 := gi_b (lo := 0) (hi := 11) g 238 i135 (gi_rg 92 6 (fun _ => rfl) (by decide +kernel) (by omega))
                  refine wr_ia (k0 := 238) (a := e134) (f := i135) (x := h 238 i135) (nx := 14) (r1 := 0) (r2 := 0) (r3 := 0) rfl (by decide) rfl (by omega) (by omega) (by decide) ((u128 238 i135 (fn_a (by omega) (fn_a (by omega) fn_0))).trans ((u125 238 i135 (fn_a (by omega) fn_0)).trans ((u122 238 i135 (fn_a (by omega) fn_0)).trans ((u119 238 i135 (fn_a (by omega) fn_0)).trans ((u116 238 i135 (fn_a (by omega) fn_0)).trans ((u111 238 i135 (fn_a (by omega) (fn_a (by omega) fn_0))).trans ((u108 238 i135 (fn_a (by omega) fn_0)).trans ((u105 238 i135 (fn_a (by omega) fn_0)).trans ((u98 238 i135 (fn_a (by omega) (fn_a (by omega) fn_0))).trans ((u95 238 i135 (fn_a (by omega) fn_0)).trans ((u92 238 i135 (fn_a (by omega) fn_0)).trans ((u89 238 i135 (fn_a (by omega) fn_0)).trans ((u86 238 i135 (fn_a (by omega) fn_0)).trans ((u81 238 i135 (fn_a (by omega) (fn_a (by omega) fn_0))).trans ((u78 238 i135 (fn_a (by omega) fn_0)).trans ((u75 238 i135 (fn_a (by omega) fn_0)).trans ((u68 238 i135 (fn_a (by omega) (fn_a (by omega) fn_0))).trans ((u65 238 i135 (fn_a (by omega) fn_0)).trans ((u62 238 i135 (fn_a (by omega) fn_0)).trans ((u59 238 i135 (fn_a (by omega) fn_0)).trans ((u56 238 i135 (fn_a (by omega) fn_0)).trans ((u51 238 i135 (fn_a (by omega) (fn_a (by omega) fn_0))).trans ((u48 238 i135 (fn_a (by omega) fn_0)).trans ((u45 238 i135 (fn_a (by omega) fn_0)).trans ((u38 238 i135 (fn_a (by omega) (fn_a (by omega) fn_0))).trans ((u35 238 i135 (fn_a (by omega) fn_0)).trans ((u32 238 i135 (fn_a (by omega) fn_0)).trans ((u29 238 i135 (fn_a (by omega) fn_0)).trans ((u26 238 i135 (fn_a (by omega) fn_0)).trans ((u21 238 i135 (fn_a (by omega) (fn_a (by omega) fn_0))).trans ((u17 238 i135 (fn_a (by omega) fn_0)).trans ((u15 238 i135 (fn_a (by omega) fn_0)).trans (u13 238 i135 (fn_a (by omega) fn_0)))))))))))))))))))))))))))))))))) ?_
                  refine wi_ireturn (nx := 15) (r1 := 0) (r2 := 0) (r3 := 0) rfl rfl ?_
                  refine wk_i ?_
                  refine wr_V (k0 := 236) (rest := []) (as := [.ref 236, vi (h 238 i135)]) (nx := 73) (r1 := 349) (r2 := 1) (r3 := 11) rfl rfl rfl (of_decide_eq_true rfl) rfl rfl (by decide) rfl rfl (of_decide_eq_true rfl) (of_decide_eq_true rfl) ?_
                  refine ct_349_236 hcr  g128 (h 238 i135) (by omega) (show (h128 236 47) ≤ 289 by omega) (fun h137 g137 u137 (p137_0 : (h137 236 47) ≤ (h128 236 47) + 10) => ?_)
                  have F138 := F131.then (by decide +kernel) u137
                  have F139 := u128.then (by decide +kernel) u137
                  have b140 := gi_b (lo := 0) (hi := 300) g137 236 47 rfl
                  refine wk_n ?_
                  refine wr_iinc (i := 2) (n := 1) (v := x127) (fun e141 => [(2, vi e141), (0, .ref 236), (1, vi 3)]) (nx := 76) (r1 := 0) (r2 := 0) (r3 := 0) rfl rfl (fun _ => rfl) (fun e141 (fe141 : e141 = x127 + 1) => ?_)
                  refine wi_goto (nx := 79) (r1 := 50) (r2 := 0) (r3 := 0) rfl ?_
                  refine wp.lo (lo := [(0, .ref 236), (1, vi 3), (2, vi e141)]) ⟨rfl, rfl, rfl, trivial⟩ rfl ?_
                  exact I128 e141 h137 ⟨g137, F138, F139, (show (0 ≤ e141 ∧ e141 ≤ 6) ∧ ((h137 236 47) ≤ (h125 236 47) + 10 * e141) ∧ (e141 ≤ (h125 238 101)) by omega)⟩ (show ((6 : Int) + 1 - e141).toNat < ((6 : Int) + 1 - x127).toNat by omega)
            ·
              refine wi_aload_n (i := 0) (x := 236) (nx := 64) (r1 := 0) (r2 := 0) (r3 := 0) rfl rfl ?_
              refine wi_aload_n (i := 0) (x := 236) (nx := 65) (r1 := 0) (r2 := 0) (r3 := 0) rfl rfl ?_
              refine wi_iload_n (i := 1) (e := 2) (nx := 66) (r1 := 0) (r2 := 0) (r3 := 0) rfl rfl ?_
              refine wi_iload_n (i := 2) (e := x97) (nx := 67) (r1 := 0) (r2 := 0) (r3 := 0) rfl rfl ?_
              refine wr_V (k0 := 236) (rest := [.ref 236]) (as := [.ref 236, vi 2, vi x97]) (nx := 70) (r1 := 258) (r2 := 2) (r3 := 11) rfl rfl rfl (of_decide_eq_true rfl) rfl rfl (by decide) rfl rfl (of_decide_eq_true rfl) (of_decide_eq_true rfl) ?_
              refine wi_aload_n (i := 0) (x := 236) (nx := 1) (r1 := 0) (r2 := 0) (r3 := 0) rfl rfl ?_
              refine wr_gr (k0 := 236) (x := 238) (nx := 4) (r1 := 11) (r2 := 13) (r3 := 0) rfl rfl (by decide) rfl ⟨rfl, rfl⟩ rfl ?_
              refine wi_bipush (n := 74) (nx := 6) (r1 := 0) (r2 := 0) (r3 := 0) rfl (by decide) ?_
              refine wi_bipush (n := 6) (nx := 8) (r1 := 0) (r2 := 0) (r3 := 0) rfl (by decide) ?_
              refine wi_iload_n (i := 1) (e := 2) (nx := 9) (r1 := 0) (r2 := 0) (r3 := 0) rfl rfl ?_
              refine wr_mulL (12) (nx := 10) (r1 := 0) (r2 := 0) (r3 := 0) rfl (by decide) ?_
              refine wr_addL (86) (nx := 11) (r1 := 0) (r2 := 0) (r3 := 0) rfl (by decide) ?_
              refine wi_iload_n (i := 2) (e := x97) (nx := 12) (r1 := 0) (r2 := 0) (r3 := 0) rfl rfl ?_
              refine wr_add (nx := 13) (r1 := 0) (r2 := 0) (r3 := 0) rfl (fun e104 (fe104 : e104 = 86 + x97) => ?_)
              obtain ⟨i105, ei105⟩ : ∃ q : Nat, e104 = (q : Int) := ⟨(e104).toNat, by omega⟩
              have b106 := gi_b (lo := 0) (hi := 11) g 238 i105 (gi_rg 86 6 (fun _ => rfl) (by decide +kernel) (by omega))
              refine wr_ia (k0 := 238) (a := e104) (f := i105) (x := h 238 i105) (nx := 14) (r1 := 0) (r2 := 0) (r3 := 0) rfl (by decide) rfl (by omega) (by omega) (by decide) ((u98 238 i105 (fn_a (by omega) (fn_a (by omega) fn_0))).trans ((u95 238 i105 (fn_a (by omega) fn_0)).trans ((u92 238 i105 (fn_a (by omega) fn_0)).trans ((u89 238 i105 (fn_a (by omega) fn_0)).trans ((u86 238 i105 (fn_a (by omega) fn_0)).trans ((u81 238 i105 (fn_a (by omega) (fn_a (by omega) fn_0))).trans ((u78 238 i105 (fn_a (by omega) fn_0)).trans ((u75 238 i105 (fn_a (by omega) fn_0)).trans ((u68 238 i105 (fn_a (by omega) (fn_a (by omega) fn_0))).trans ((u65 238 i105 (fn_a (by omega) fn_0)).trans ((u62 238 i105 (fn_a (by omega) fn_0)).trans ((u59 238 i105 (fn_a (by omega) fn_0)).trans ((u56 238 i105 (fn_a (by omega) fn_0)).trans ((u51 238 i105 (fn_a (by omega) (fn_a (by omega) fn_0))).trans ((u48 238 i105 (fn_a (by omega) fn_0)).trans ((u45 238 i105 (fn_a (by omega) fn_0)).trans ((u38 238 i105 (fn_a (by omega) (fn_a (by omega) fn_0))).trans ((u35 238 i105 (fn_a (by omega) fn_0)).trans ((u32 238 i105 (fn_a (by omega) fn_0)).trans ((u29 238 i105 (fn_a (by omega) fn_0)).trans ((u26 238 i105 (fn_a (by omega) fn_0)).trans ((u21 238 i105 (fn_a (by omega) (fn_a (by omega) fn_0))).trans ((u17 238 i105 (fn_a (by omega) fn_0)).trans ((u15 238 i105 (fn_a (by omega) fn_0)).trans (u13 238 i105 (fn_a (by omega) fn_0)))))))))))))))))))))))))) ?_
              refine wi_ireturn (nx := 15) (r1 := 0) (r2 := 0) (r3 := 0) rfl rfl ?_
              refine wk_i ?_
              refine wr_V (k0 := 236) (rest := []) (as := [.ref 236, vi (h 238 i105)]) (nx := 73) (r1 := 349) (r2 := 1) (r3 := 11) rfl rfl rfl (of_decide_eq_true rfl) rfl rfl (by decide) rfl rfl (of_decide_eq_true rfl) (of_decide_eq_true rfl) ?_
              refine ct_349_236 hcr  g98 (h 238 i105) (by omega) (show (h98 236 47) ≤ 289 by omega) (fun h107 g107 u107 (p107_0 : (h107 236 47) ≤ (h98 236 47) + 10) => ?_)
              have F108 := F101.then (by decide +kernel) u107
              have F109 := u98.then (by decide +kernel) u107
              have b110 := gi_b (lo := 0) (hi := 300) g107 236 47 rfl
              refine wk_n ?_
              refine wr_iinc (i := 2) (n := 1) (v := x97) (fun e111 => [(2, vi e111), (0, .ref 236), (1, vi 2)]) (nx := 76) (r1 := 0) (r2 := 0) (r3 := 0) rfl rfl (fun _ => rfl) (fun e111 (fe111 : e111 = x97 + 1) => ?_)
              refine wi_goto (nx := 79) (r1 := 50) (r2 := 0) (r3 := 0) rfl ?_
              refine wp.lo (lo := [(0, .ref 236), (1, vi 2), (2, vi e111)]) ⟨rfl, rfl, rfl, trivial⟩ rfl ?_
              exact I98 e111 h107 ⟨g107, F108, F109, (show (0 ≤ e111 ∧ e111 ≤ 6) ∧ ((h107 236 47) ≤ (h95 236 47) + 10 * e111) ∧ (e111 ≤ (h95 238 100)) by omega)⟩ (show ((6 : Int) + 1 - e111).toNat < ((6 : Int) + 1 - x97).toNat by omega)
        ·
          refine wi_aload_n (i := 0) (x := 236) (nx := 64) (r1 := 0) (r2 := 0) (r3 := 0) rfl rfl ?_
          refine wi_aload_n (i := 0) (x := 236) (nx := 65) (r1 := 0) (r2 := 0) (r3 := 0) rfl rfl ?_
          refine wi_iload_n (i := 1) (e := 1) (nx := 66) (r1 := 0) (r2 := 0) (r3 := 0) rfl rfl ?_
          refine wi_iload_n (i := 2) (e := x67) (nx := 67) (r1 := 0) (r2 := 0) (r3 := 0) rfl rfl ?_
          refine wr_V (k0 := 236) (rest := [.ref 236]) (as := [.ref 236, vi 1, vi x67]) (nx := 70) (r1 := 258) (r2 := 2) (r3 := 11) rfl rfl rfl (of_decide_eq_true rfl) rfl rfl (by decide) rfl rfl (of_decide_eq_true rfl) (of_decide_eq_true rfl) ?_
          refine wi_aload_n (i := 0) (x := 236) (nx := 1) (r1 := 0) (r2 := 0) (r3 := 0) rfl rfl ?_
          refine wr_gr (k0 := 236) (x := 238) (nx := 4) (r1 := 11) (r2 := 13) (r3 := 0) rfl rfl (by decide) rfl ⟨rfl, rfl⟩ rfl ?_
          refine wi_bipush (n := 74) (nx := 6) (r1 := 0) (r2 := 0) (r3 := 0) rfl (by decide) ?_
          refine wi_bipush (n := 6) (nx := 8) (r1 := 0) (r2 := 0) (r3 := 0) rfl (by decide) ?_
          refine wi_iload_n (i := 1) (e := 1) (nx := 9) (r1 := 0) (r2 := 0) (r3 := 0) rfl rfl ?_
          refine wr_mulL (6) (nx := 10) (r1 := 0) (r2 := 0) (r3 := 0) rfl (by decide) ?_
          refine wr_addL (80) (nx := 11) (r1 := 0) (r2 := 0) (r3 := 0) rfl (by decide) ?_
          refine wi_iload_n (i := 2) (e := x67) (nx := 12) (r1 := 0) (r2 := 0) (r3 := 0) rfl rfl ?_
          refine wr_add (nx := 13) (r1 := 0) (r2 := 0) (r3 := 0) rfl (fun e74 (fe74 : e74 = 80 + x67) => ?_)
          obtain ⟨i75, ei75⟩ : ∃ q : Nat, e74 = (q : Int) := ⟨(e74).toNat, by omega⟩
          have b76 := gi_b (lo := 0) (hi := 11) g 238 i75 (gi_rg 80 6 (fun _ => rfl) (by decide +kernel) (by omega))
          refine wr_ia (k0 := 238) (a := e74) (f := i75) (x := h 238 i75) (nx := 14) (r1 := 0) (r2 := 0) (r3 := 0) rfl (by decide) rfl (by omega) (by omega) (by decide) ((u68 238 i75 (fn_a (by omega) (fn_a (by omega) fn_0))).trans ((u65 238 i75 (fn_a (by omega) fn_0)).trans ((u62 238 i75 (fn_a (by omega) fn_0)).trans ((u59 238 i75 (fn_a (by omega) fn_0)).trans ((u56 238 i75 (fn_a (by omega) fn_0)).trans ((u51 238 i75 (fn_a (by omega) (fn_a (by omega) fn_0))).trans ((u48 238 i75 (fn_a (by omega) fn_0)).trans ((u45 238 i75 (fn_a (by omega) fn_0)).trans ((u38 238 i75 (fn_a (by omega) (fn_a (by omega) fn_0))).trans ((u35 238 i75 (fn_a (by omega) fn_0)).trans ((u32 238 i75 (fn_a (by omega) fn_0)).trans ((u29 238 i75 (fn_a (by omega) fn_0)).trans ((u26 238 i75 (fn_a (by omega) fn_0)).trans ((u21 238 i75 (fn_a (by omega) (fn_a (by omega) fn_0))).trans ((u17 238 i75 (fn_a (by omega) fn_0)).trans ((u15 238 i75 (fn_a (by omega) fn_0)).trans (u13 238 i75 (fn_a (by omega) fn_0)))))))))))))))))) ?_
          refine wi_ireturn (nx := 15) (r1 := 0) (r2 := 0) (r3 := 0) rfl rfl ?_
          refine wk_i ?_
          refine wr_V (k0 := 236) (rest := []) (as := [.ref 236, vi (h 238 i75)]) (nx := 73) (r1 := 349) (r2 := 1) (r3 := 11) rfl rfl rfl (of_decide_eq_true rfl) rfl rfl (by decide) rfl rfl (of_decide_eq_true rfl) (of_decide_eq_true rfl) ?_
          refine ct_349_236 hcr  g68 (h 238 i75) (by omega) (show (h68 236 47) ≤ 289 by omega) (fun h77 g77 u77 (p77_0 : (h77 236 47) ≤ (h68 236 47) + 10) => ?_)
          have F78 := F71.then (by decide +kernel) u77
          have F79 := u68.then (by decide +kernel) u77
          have b80 := gi_b (lo := 0) (hi := 300) g77 236 47 rfl
          refine wk_n ?_
          refine wr_iinc (i := 2) (n := 1) (v := x67) (fun e81 => [(2, vi e81), (0, .ref 236), (1, vi 1)]) (nx := 76) (r1 := 0) (r2 := 0) (r3 := 0) rfl rfl (fun _ => rfl) (fun e81 (fe81 : e81 = x67 + 1) => ?_)
          refine wi_goto (nx := 79) (r1 := 50) (r2 := 0) (r3 := 0) rfl ?_
          refine wp.lo (lo := [(0, .ref 236), (1, vi 1), (2, vi e81)]) ⟨rfl, rfl, rfl, trivial⟩ rfl ?_
          exact I68 e81 h77 ⟨g77, F78, F79, (show (0 ≤ e81 ∧ e81 ≤ 6) ∧ ((h77 236 47) ≤ (h65 236 47) + 10 * e81) ∧ (e81 ≤ (h65 238 99)) by omega)⟩ (show ((6 : Int) + 1 - e81).toNat < ((6 : Int) + 1 - x67).toNat by omega)
    ·
      refine wi_aload_n (i := 0) (x := 236) (nx := 64) (r1 := 0) (r2 := 0) (r3 := 0) rfl rfl ?_
      refine wi_aload_n (i := 0) (x := 236) (nx := 65) (r1 := 0) (r2 := 0) (r3 := 0) rfl rfl ?_
      refine wi_iload_n (i := 1) (e := 0) (nx := 66) (r1 := 0) (r2 := 0) (r3 := 0) rfl rfl ?_
      refine wi_iload_n (i := 2) (e := x37) (nx := 67) (r1 := 0) (r2 := 0) (r3 := 0) rfl rfl ?_
      refine wr_V (k0 := 236) (rest := [.ref 236]) (as := [.ref 236, vi 0, vi x37]) (nx := 70) (r1 := 258) (r2 := 2) (r3 := 11) rfl rfl rfl (of_decide_eq_true rfl) rfl rfl (by decide) rfl rfl (of_decide_eq_true rfl) (of_decide_eq_true rfl) ?_
      refine wi_aload_n (i := 0) (x := 236) (nx := 1) (r1 := 0) (r2 := 0) (r3 := 0) rfl rfl ?_
      refine wr_gr (k0 := 236) (x := 238) (nx := 4) (r1 := 11) (r2 := 13) (r3 := 0) rfl rfl (by decide) rfl ⟨rfl, rfl⟩ rfl ?_
      refine wi_bipush (n := 74) (nx := 6) (r1 := 0) (r2 := 0) (r3 := 0) rfl (by decide) ?_
      refine wi_bipush (n := 6) (nx := 8) (r1 := 0) (r2 := 0) (r3 := 0) rfl (by decide) ?_
      refine wi_iload_n (i := 1) (e := 0) (nx := 9) (r1 := 0) (r2 := 0) (r3 := 0) rfl rfl ?_
      refine wr_mulL (0) (nx := 10) (r1 := 0) (r2 := 0) (r3 := 0) rfl (by decide) ?_
      refine wr_addL (74) (nx := 11) (r1 := 0) (r2 := 0) (r3 := 0) rfl (by decide) ?_
      refine wi_iload_n (i := 2) (e := x37) (nx := 12) (r1 := 0) (r2 := 0) (r3 := 0) rfl rfl ?_
      refine wr_add (nx := 13) (r1 := 0) (r2 := 0) (r3 := 0) rfl (fun e44 (fe44 : e44 = 74 + x37) => ?_)
      obtain ⟨i45, ei45⟩ : ∃ q : Nat, e44 = (q : Int) := ⟨(e44).toNat, by omega⟩
      have b46 := gi_b (lo := 0) (hi := 11) g 238 i45 (gi_rg 74 6 (fun _ => rfl) (by decide +kernel) (by omega))
      refine wr_ia (k0 := 238) (a := e44) (f := i45) (x := h 238 i45) (nx := 14) (r1 := 0) (r2 := 0) (r3 := 0) rfl (by decide) rfl (by omega) (by omega) (by decide) ((u38 238 i45 (fn_a (by omega) (fn_a (by omega) fn_0))).trans ((u35 238 i45 (fn_a (by omega) fn_0)).trans ((u32 238 i45 (fn_a (by omega) fn_0)).trans ((u29 238 i45 (fn_a (by omega) fn_0)).trans ((u26 238 i45 (fn_a (by omega) fn_0)).trans ((u21 238 i45 (fn_a (by omega) (fn_a (by omega) fn_0))).trans ((u17 238 i45 (fn_a (by omega) fn_0)).trans ((u15 238 i45 (fn_a (by omega) fn_0)).trans (u13 238 i45 (fn_a (by omega) fn_0)))))))))) ?_
      refine wi_ireturn (nx := 15) (r1 := 0) (r2 := 0) (r3 := 0) rfl rfl ?_
      refine wk_i ?_
      refine wr_V (k0 := 236) (rest := []) (as := [.ref 236, vi (h 238 i45)]) (nx := 73) (r1 := 349) (r2 := 1) (r3 := 11) rfl rfl rfl (of_decide_eq_true rfl) rfl rfl (by decide) rfl rfl (of_decide_eq_true rfl) (of_decide_eq_true rfl) ?_
      refine ct_349_236 hcr  g38 (h 238 i45) (by omega) (show (h38 236 47) ≤ 289 by omega) (fun h47 g47 u47 (p47_0 : (h47 236 47) ≤ (h38 236 47) + 10) => ?_)
      have F48 := F41.then (by decide +kernel) u47
      have F49 := u38.then (by decide +kernel) u47
      have b50 := gi_b (lo := 0) (hi := 300) g47 236 47 rfl
      refine wk_n ?_
      refine wr_iinc (i := 2) (n := 1) (v := x37) (fun e51 => [(2, vi e51), (0, .ref 236), (1, vi 0)]) (nx := 76) (r1 := 0) (r2 := 0) (r3 := 0) rfl rfl (fun _ => rfl) (fun e51 (fe51 : e51 = x37 + 1) => ?_)
      refine wi_goto (nx := 79) (r1 := 50) (r2 := 0) (r3 := 0) rfl ?_
      refine wp.lo (lo := [(0, .ref 236), (1, vi 0), (2, vi e51)]) ⟨rfl, rfl, rfl, trivial⟩ rfl ?_
      exact I38 e51 h47 ⟨g47, F48, F49, (show (0 ≤ e51 ∧ e51 ≤ 6) ∧ ((h47 236 47) ≤ (h35 236 47) + 10 * e51) ∧ (e51 ≤ (h35 238 98)) by omega)⟩ (show ((6 : Int) + 1 - e51).toNat < ((6 : Int) + 1 - x37).toNat by omega)
-- method 350: Model.reportByte(I)I
set_option maxRecDepth 100000 in
set_option maxHeartbeats 100000000 in
theorem ct_350_236 {L : Nat} {xs : Nat → Int32} {d b c : Nat} {h : hp} {cr : Nat → Nat → Option Nat} {Q : hp_Q} (hcr : CR cr)  (g : GI h) (a0 : Int) (q0_ : -2147483648 ≤ a0 ∧ a0 ≤ 2147483647)  (k : ∀ (h2 : hp) (z0 : Int) , GI h2 → FR [(236, 236, some (0, 0))] h h2 → (-2147483648 ≤ z0 ∧ z0 ≤ 2147483647) → Q (.inl (some (vi z0))) (hp_w h2 cr) b c) : wp (md_xa (L, xs)) (d + 2) 350 (0, [(0, .ref 236), (1, vi a0)], [], hp_w h cr, b, c) Q := by
  have F0 : FR [(236, 236, some (0, 0))] h h := FR.refl
  refine wi_aload_n (i := 0) (x := 236) (nx := 1) (r1 := 0) (r2 := 0) (r3 := 0) rfl rfl ?_
  refine wi_aload_n (i := 0) (x := 236) (nx := 2) (r1 := 0) (r2 := 0) (r3 := 0) rfl rfl ?_
  have b1 := gi_b (lo := 0) (hi := 1) g 236 48 rfl
  refine wr_gi2 (k0 := 236) (x := h 236 48) (nx := 5) (r1 := 11) (r2 := 48) (r3 := 0) rfl rfl (by decide) rfl ⟨rfl, rfl⟩ rfl rfl ?_
  refine wi_if (cd := .eq) (nx := 8) (r1 := 28) (r2 := 0) (r3 := 0) rfl (by omega) (fun (q2 : (h 236 48) = 0) => ?_) (fun (q2 : ¬ ((h 236 48) = 0)) => ?_)
  ·
    refine wi_iconst (n := 0) (nx := 29) (r1 := 0) (r2 := 0) (r3 := 0) rfl ?_
    refine wr_V (k0 := 236) (rest := []) (as := [.ref 236, vi 0]) (nx := 32) (r1 := 206) (r2 := 1) (r3 := 11) rfl rfl rfl (of_decide_eq_true rfl) rfl rfl (by decide) rfl rfl (of_decide_eq_true rfl) (of_decide_eq_true rfl) ?_
    refine wi_aload_n (i := 0) (x := 236) (nx := 1) (r1 := 0) (r2 := 0) (r3 := 0) rfl rfl ?_
    refine wi_iload_n (i := 1) (e := 0) (nx := 2) (r1 := 0) (r2 := 0) (r3 := 0) rfl rfl ?_
    refine wi_if (cd := .ne) (nx := 5) (r1 := 9) (r2 := 0) (r3 := 0) rfl (by omega) (fun (q3 : 0 ≠ 0) => by exfalso; omega) (fun (q3 : ¬ (0 ≠ 0)) => ?_)
    refine wi_iconst (n := 1) (nx := 6) (r1 := 0) (r2 := 0) (r3 := 0) rfl ?_
    refine wi_goto (nx := 9) (r1 := 10) (r2 := 0) (r3 := 0) rfl ?_
    refine wi_S (rest := [.ref 236]) (as := [vi 1]) (nx := 13) (r1 := 207) (r2 := 17) (r3 := 0) rfl rfl rfl (of_decide_eq_true rfl) rfl rfl (of_decide_eq_true rfl) (of_decide_eq_true rfl) ?_
    refine wi_iload_n (i := 0) (e := 1) (nx := 1) (r1 := 0) (r2 := 0) (r3 := 0) rfl rfl ?_
    refine wi_if (cd := .eq) (nx := 4) (r1 := 8) (r2 := 0) (r3 := 0) rfl (by omega) (fun (q4 : 1 = 0) => by exfalso; omega) (fun (q4 : ¬ (1 = 0)) => ?_)
    refine wi_iconst (n := 1) (nx := 5) (r1 := 0) (r2 := 0) (r3 := 0) rfl ?_
    refine wi_goto (nx := 8) (r1 := 9) (r2 := 0) (r3 := 0) rfl ?_
    refine wi_ireturn (nx := 10) (r1 := 0) (r2 := 0) (r3 := 0) rfl rfl ?_
    refine wk_i ?_
    refine wr_pf0 (k0 := 236) (x := 1) (bl := 0) (bh := 2) (nx := 16) (r1 := 11) (r2 := 0) (r3 := 0) rfl (by decide) rfl ⟨rfl, rfl⟩ rfl rfl g rfl (by omega) (fun h5 g5 w5 u5 => ?_)
    have F6 := F0.then rfl u5
    refine wi_iload_n (i := 1) (e := 0) (nx := 17) (r1 := 0) (r2 := 0) (r3 := 0) rfl rfl ?_
    refine wi_zreturn (nx := 18) (r1 := 0) (r2 := 0) (r3 := 0) rfl rfl (by omega) ?_
    refine wk_i ?_
    refine wi_if (cd := .eq) (nx := 35) (r1 := 44) (r2 := 0) (r3 := 0) rfl (by omega) (fun (q7 : 0 = 0) => ?_) (fun (q7 : ¬ (0 = 0)) => by exfalso; omega)
    refine wi_iconst (n := 0) (nx := 45) (r1 := 0) (r2 := 0) (r3 := 0) rfl ?_
    refine wi_ireturn (nx := 46) (r1 := 0) (r2 := 0) (r3 := 0) rfl rfl ?_
    exact k h5 0 g5 F6 (by omega)
  ·
    refine wi_iload_n (i := 1) (e := a0) (nx := 9) (r1 := 0) (r2 := 0) (r3 := 0) rfl rfl ?_
    refine wi_i2l (nx := 10) (r1 := 0) (r2 := 0) (r3 := 0) rfl (by omega) ?_
    refine wi_lconst (n := 0) (e := 0) (nx := 11) (r1 := 0) (r2 := 0) (r3 := 0) rfl (by decide) ?_
    refine wi_aload_n (i := 0) (x := 236) (nx := 12) (r1 := 0) (r2 := 0) (r3 := 0) rfl rfl ?_
    have b3 := gi_b (lo := 0) (hi := 300) g 236 47 rfl
    refine wr_gi0 (k0 := 236) (x := h 236 47) (nx := 15) (r1 := 11) (r2 := 47) (r3 := 0) rfl rfl (by decide) rfl ⟨rfl, rfl⟩ rfl rfl ?_
    refine wi_iconst (n := 1) (nx := 16) (r1 := 0) (r2 := 0) (r3 := 0) rfl ?_
    refine wr_sub (nx := 17) (r1 := 0) (r2 := 0) (r3 := 0) rfl (fun e4 (fe4 : e4 = (h 236 47) - 1) => ?_)
    refine wi_i2l (nx := 18) (r1 := 0) (r2 := 0) (r3 := 0) rfl (by omega) ?_
    refine wi_S (rest := [.ref 236]) (as := [vl a0, vl 0, vl e4]) (nx := 21) (r1 := 210) (r2 := 19) (r3 := 0) rfl rfl rfl (of_decide_eq_true rfl) rfl rfl (of_decide_eq_true rfl) (of_decide_eq_true rfl) ?_
    refine wi_lload_n (i := 0) (e := a0) (nx := 1) (r1 := 0) (r2 := 0) (r3 := 0) rfl rfl ?_
    refine wi_lload_n (i := 2) (e := 0) (nx := 2) (r1 := 0) (r2 := 0) (r3 := 0) rfl rfl ?_
    refine wi_lcmp (a := a0) (e := 0) (nx := 3) (r1 := 0) (r2 := 0) (r3 := 0) rfl (by omega) (by omega) (fun r5 (fr5 : (r5 = -1 ∧ a0 < 0) ∨ (r5 = 0 ∧ a0 = 0) ∨ (r5 = 1 ∧ 0 < a0)) => ?_)
    refine wi_if (cd := .lt) (nx := 6) (r1 := 17) (r2 := 0) (r3 := 0) rfl (by omega) (fun (q6 : r5 < 0) => ?_) (fun (q6 : ¬ (r5 < 0)) => ?_)
    ·
      refine wi_iconst (n := 0) (nx := 18) (r1 := 0) (r2 := 0) (r3 := 0) rfl ?_
      refine wi_zreturn (nx := 19) (r1 := 0) (r2 := 0) (r3 := 0) rfl rfl (by omega) ?_
      refine wk_i ?_
      refine wi_if (cd := .eq) (nx := 24) (r1 := 28) (r2 := 0) (r3 := 0) rfl (by omega) (fun (q7 : 0 = 0) => ?_) (fun (q7 : ¬ (0 = 0)) => by exfalso; omega)
      refine wi_iconst (n := 0) (nx := 29) (r1 := 0) (r2 := 0) (r3 := 0) rfl ?_
      refine wr_V (k0 := 236) (rest := []) (as := [.ref 236, vi 0]) (nx := 32) (r1 := 206) (r2 := 1) (r3 := 11) rfl rfl rfl (of_decide_eq_true rfl) rfl rfl (by decide) rfl rfl (of_decide_eq_true rfl) (of_decide_eq_true rfl) ?_
      refine wi_aload_n (i := 0) (x := 236) (nx := 1) (r1 := 0) (r2 := 0) (r3 := 0) rfl rfl ?_
      refine wi_iload_n (i := 1) (e := 0) (nx := 2) (r1 := 0) (r2 := 0) (r3 := 0) rfl rfl ?_
      refine wi_if (cd := .ne) (nx := 5) (r1 := 9) (r2 := 0) (r3 := 0) rfl (by omega) (fun (q8 : 0 ≠ 0) => by exfalso; omega) (fun (q8 : ¬ (0 ≠ 0)) => ?_)
      refine wi_iconst (n := 1) (nx := 6) (r1 := 0) (r2 := 0) (r3 := 0) rfl ?_
      refine wi_goto (nx := 9) (r1 := 10) (r2 := 0) (r3 := 0) rfl ?_
      refine wi_S (rest := [.ref 236]) (as := [vi 1]) (nx := 13) (r1 := 207) (r2 := 17) (r3 := 0) rfl rfl rfl (of_decide_eq_true rfl) rfl rfl (of_decide_eq_true rfl) (of_decide_eq_true rfl) ?_
      refine wi_iload_n (i := 0) (e := 1) (nx := 1) (r1 := 0) (r2 := 0) (r3 := 0) rfl rfl ?_
      refine wi_if (cd := .eq) (nx := 4) (r1 := 8) (r2 := 0) (r3 := 0) rfl (by omega) (fun (q9 : 1 = 0) => by exfalso; omega) (fun (q9 : ¬ (1 = 0)) => ?_)
      refine wi_iconst (n := 1) (nx := 5) (r1 := 0) (r2 := 0) (r3 := 0) rfl ?_
      refine wi_goto (nx := 8) (r1 := 9) (r2 := 0) (r3 := 0) rfl ?_
      refine wi_ireturn (nx := 10) (r1 := 0) (r2 := 0) (r3 := 0) rfl rfl ?_
      refine wk_i ?_
      refine wr_pf0 (k0 := 236) (x := 1) (bl := 0) (bh := 2) (nx := 16) (r1 := 11) (r2 := 0) (r3 := 0) rfl (by decide) rfl ⟨rfl, rfl⟩ rfl rfl g rfl (by omega) (fun h10 g10 w10 u10 => ?_)
      have F11 := F0.then rfl u10
      refine wi_iload_n (i := 1) (e := 0) (nx := 17) (r1 := 0) (r2 := 0) (r3 := 0) rfl rfl ?_
      refine wi_zreturn (nx := 18) (r1 := 0) (r2 := 0) (r3 := 0) rfl rfl (by omega) ?_
      refine wk_i ?_
      refine wi_if (cd := .eq) (nx := 35) (r1 := 44) (r2 := 0) (r3 := 0) rfl (by omega) (fun (q12 : 0 = 0) => ?_) (fun (q12 : ¬ (0 = 0)) => by exfalso; omega)
      refine wi_iconst (n := 0) (nx := 45) (r1 := 0) (r2 := 0) (r3 := 0) rfl ?_
      refine wi_ireturn (nx := 46) (r1 := 0) (r2 := 0) (r3 := 0) rfl rfl ?_
      exact k h10 0 g10 F11 (by omega)
    ·
      refine wi_lload_n (i := 0) (e := a0) (nx := 7) (r1 := 0) (r2 := 0) (r3 := 0) rfl rfl ?_
      refine wi_lload (i := 4) (e := e4) (nx := 9) (r1 := 0) (r2 := 0) (r3 := 0) rfl rfl ?_
      refine wi_lcmp (a := a0) (e := e4) (nx := 10) (r1 := 0) (r2 := 0) (r3 := 0) rfl (by omega) (by omega) (fun r7 (fr7 : (r7 = -1 ∧ a0 < e4) ∨ (r7 = 0 ∧ a0 = e4) ∨ (r7 = 1 ∧ e4 < a0)) => ?_)
      refine wi_if (cd := .gt) (nx := 13) (r1 := 17) (r2 := 0) (r3 := 0) rfl (by omega) (fun (q8 : 0 < r7) => ?_) (fun (q8 : ¬ (0 < r7)) => ?_)
      ·
        refine wi_iconst (n := 0) (nx := 18) (r1 := 0) (r2 := 0) (r3 := 0) rfl ?_
        refine wi_zreturn (nx := 19) (r1 := 0) (r2 := 0) (r3 := 0) rfl rfl (by omega) ?_
        refine wk_i ?_
        refine wi_if (cd := .eq) (nx := 24) (r1 := 28) (r2 := 0) (r3 := 0) rfl (by omega) (fun (q9 : 0 = 0) => ?_) (fun (q9 : ¬ (0 = 0)) => by exfalso; omega)
        refine wi_iconst (n := 0) (nx := 29) (r1 := 0) (r2 := 0) (r3 := 0) rfl ?_
        refine wr_V (k0 := 236) (rest := []) (as := [.ref 236, vi 0]) (nx := 32) (r1 := 206) (r2 := 1) (r3 := 11) rfl rfl rfl (of_decide_eq_true rfl) rfl rfl (by decide) rfl rfl (of_decide_eq_true rfl) (of_decide_eq_true rfl) ?_
        refine wi_aload_n (i := 0) (x := 236) (nx := 1) (r1 := 0) (r2 := 0) (r3 := 0) rfl rfl ?_
        refine wi_iload_n (i := 1) (e := 0) (nx := 2) (r1 := 0) (r2 := 0) (r3 := 0) rfl rfl ?_
        refine wi_if (cd := .ne) (nx := 5) (r1 := 9) (r2 := 0) (r3 := 0) rfl (by omega) (fun (q10 : 0 ≠ 0) => by exfalso; omega) (fun (q10 : ¬ (0 ≠ 0)) => ?_)
        refine wi_iconst (n := 1) (nx := 6) (r1 := 0) (r2 := 0) (r3 := 0) rfl ?_
        refine wi_goto (nx := 9) (r1 := 10) (r2 := 0) (r3 := 0) rfl ?_
        refine wi_S (rest := [.ref 236]) (as := [vi 1]) (nx := 13) (r1 := 207) (r2 := 17) (r3 := 0) rfl rfl rfl (of_decide_eq_true rfl) rfl rfl (of_decide_eq_true rfl) (of_decide_eq_true rfl) ?_
        refine wi_iload_n (i := 0) (e := 1) (nx := 1) (r1 := 0) (r2 := 0) (r3 := 0) rfl rfl ?_
        refine wi_if (cd := .eq) (nx := 4) (r1 := 8) (r2 := 0) (r3 := 0) rfl (by omega) (fun (q11 : 1 = 0) => by exfalso; omega) (fun (q11 : ¬ (1 = 0)) => ?_)
        refine wi_iconst (n := 1) (nx := 5) (r1 := 0) (r2 := 0) (r3 := 0) rfl ?_
        refine wi_goto (nx := 8) (r1 := 9) (r2 := 0) (r3 := 0) rfl ?_
        refine wi_ireturn (nx := 10) (r1 := 0) (r2 := 0) (r3 := 0) rfl rfl ?_
        refine wk_i ?_
        refine wr_pf0 (k0 := 236) (x := 1) (bl := 0) (bh := 2) (nx := 16) (r1 := 11) (r2 := 0) (r3 := 0) rfl (by decide) rfl ⟨rfl, rfl⟩ rfl rfl g rfl (by omega) (fun h12 g12 w12 u12 => ?_)
        have F13 := F0.then rfl u12
        refine wi_iload_n (i := 1) (e := 0) (nx := 17) (r1 := 0) (r2 := 0) (r3 := 0) rfl rfl ?_
        refine wi_zreturn (nx := 18) (r1 := 0) (r2 := 0) (r3 := 0) rfl rfl (by omega) ?_
        refine wk_i ?_
        refine wi_if (cd := .eq) (nx := 35) (r1 := 44) (r2 := 0) (r3 := 0) rfl (by omega) (fun (q14 : 0 = 0) => ?_) (fun (q14 : ¬ (0 = 0)) => by exfalso; omega)
        refine wi_iconst (n := 0) (nx := 45) (r1 := 0) (r2 := 0) (r3 := 0) rfl ?_
        refine wi_ireturn (nx := 46) (r1 := 0) (r2 := 0) (r3 := 0) rfl rfl ?_
        exact k h12 0 g12 F13 (by omega)
      ·
        refine wi_iconst (n := 1) (nx := 14) (r1 := 0) (r2 := 0) (r3 := 0) rfl ?_
        refine wi_goto (nx := 17) (r1 := 18) (r2 := 0) (r3 := 0) rfl ?_
        refine wi_zreturn (nx := 19) (r1 := 0) (r2 := 0) (r3 := 0) rfl rfl (by omega) ?_
        refine wk_i ?_
        refine wi_if (cd := .eq) (nx := 24) (r1 := 28) (r2 := 0) (r3 := 0) rfl (by omega) (fun (q9 : 1 = 0) => by exfalso; omega) (fun (q9 : ¬ (1 = 0)) => ?_)
        refine wi_iconst (n := 1) (nx := 25) (r1 := 0) (r2 := 0) (r3 := 0) rfl ?_
        refine wi_goto (nx := 28) (r1 := 29) (r2 := 0) (r3 := 0) rfl ?_
        refine wr_V (k0 := 236) (rest := []) (as := [.ref 236, vi 1]) (nx := 32) (r1 := 206) (r2 := 1) (r3 := 11) rfl rfl rfl (of_decide_eq_true rfl) rfl rfl (by decide) rfl rfl (of_decide_eq_true rfl) (of_decide_eq_true rfl) ?_
        refine wi_aload_n (i := 0) (x := 236) (nx := 1) (r1 := 0) (r2 := 0) (r3 := 0) rfl rfl ?_
        refine wi_iload_n (i := 1) (e := 1) (nx := 2) (r1 := 0) (r2 := 0) (r3 := 0) rfl rfl ?_
        refine wi_if (cd := .ne) (nx := 5) (r1 := 9) (r2 := 0) (r3 := 0) rfl (by omega) (fun (q10 : 1 ≠ 0) => ?_) (fun (q10 : ¬ (1 ≠ 0)) => by exfalso; omega)
        refine wi_iconst (n := 0) (nx := 10) (r1 := 0) (r2 := 0) (r3 := 0) rfl ?_
        refine wi_S (rest := [.ref 236]) (as := [vi 0]) (nx := 13) (r1 := 207) (r2 := 17) (r3 := 0) rfl rfl rfl (of_decide_eq_true rfl) rfl rfl (of_decide_eq_true rfl) (of_decide_eq_true rfl) ?_
        refine wi_iload_n (i := 0) (e := 0) (nx := 1) (r1 := 0) (r2 := 0) (r3 := 0) rfl rfl ?_
        refine wi_if (cd := .eq) (nx := 4) (r1 := 8) (r2 := 0) (r3 := 0) rfl (by omega) (fun (q11 : 0 = 0) => ?_) (fun (q11 : ¬ (0 = 0)) => by exfalso; omega)
        refine wi_iconst (n := 0) (nx := 9) (r1 := 0) (r2 := 0) (r3 := 0) rfl ?_
        refine wi_ireturn (nx := 10) (r1 := 0) (r2 := 0) (r3 := 0) rfl rfl ?_
        refine wk_i ?_
        refine wr_pf0 (k0 := 236) (x := 0) (bl := 0) (bh := 2) (nx := 16) (r1 := 11) (r2 := 0) (r3 := 0) rfl (by decide) rfl ⟨rfl, rfl⟩ rfl rfl g rfl (by omega) (fun h12 g12 w12 u12 => ?_)
        have F13 := F0.then rfl u12
        refine wi_iload_n (i := 1) (e := 1) (nx := 17) (r1 := 0) (r2 := 0) (r3 := 0) rfl rfl ?_
        refine wi_zreturn (nx := 18) (r1 := 0) (r2 := 0) (r3 := 0) rfl rfl (by omega) ?_
        refine wk_i ?_
        refine wi_if (cd := .eq) (nx := 35) (r1 := 44) (r2 := 0) (r3 := 0) rfl (by omega) (fun (q14 : 1 = 0) => by exfalso; omega) (fun (q14 : ¬ (1 = 0)) => ?_)
        refine wi_aload_n (i := 0) (x := 236) (nx := 36) (r1 := 0) (r2 := 0) (r3 := 0) rfl rfl ?_
        refine wr_gr (k0 := 236) (x := 258) (nx := 39) (r1 := 11) (r2 := 46) (r3 := 0) rfl rfl (by decide) rfl ⟨rfl, rfl⟩ rfl ?_
        refine wi_iload_n (i := 1) (e := a0) (nx := 40) (r1 := 0) (r2 := 0) (r3 := 0) rfl rfl ?_
        obtain ⟨i15, ei15⟩ : ∃ q : Nat, a0 = (q : Int) := ⟨(a0).toNat, by omega⟩
        have b16 := gi_b (lo := -2147483648) (hi := 2147483647) g 258 i15 rfl
        refine wr_ia (k0 := 258) (a := a0) (f := i15) (x := h 258 i15) (nx := 41) (r1 := 0) (r2 := 0) (r3 := 0) rfl (by decide) rfl (by omega) (by omega) (by decide) (u12 258 i15 (fn_a (by omega) fn_0)) ?_
        refine wi_goto (nx := 44) (r1 := 45) (r2 := 0) (r3 := 0) rfl ?_
        refine wi_ireturn (nx := 46) (r1 := 0) (r2 := 0) (r3 := 0) rfl rfl ?_
        exact k h12 (h 258 i15) g12 F13 (by omega)
-- method 238: Model.copies([I[I)V
set_option maxRecDepth 100000 in
set_option maxHeartbeats 100000000 in
theorem ct_238_241_238 {L : Nat} {xs : Nat → Int32} {d b c : Nat} {h : hp} {cr : Nat → Nat → Option Nat} {Q : hp_Q} (hcr : CR cr)  (g : GI h)    (k : ∀ (h2 : hp) , GI h2 → FR [(238, 238, none)] h h2 → (∀ q : Nat, q < 200 → h2 238 q = h 241 q) → Q (.inl none) (hp_w h2 cr) b c) : wp (md_xa (L, xs)) d 238 (0, [(0, .ref 241), (1, .ref 238)], [], hp_w h cr, b, c) Q := by
  have F0 : FR [(238, 238, none)] h h := FR.refl
  refine wi_iconst (n := 0) (nx := 1) (r1 := 0) (r2 := 0) (r3 := 0) rfl ?_
  refine wi_istore_n (i := 2) (e := 0) (lo2 := [(2, vi 0), (0, .ref 241), (1, .ref 238)]) (nx := 2) (r1 := 0) (r2 := 0) (r3 := 0) rfl rfl ?_
  refine wp.lo (lo := [(0, .ref 241), (1, .ref 238), (2, vi 0)]) ⟨rfl, rfl, rfl, trivial⟩ rfl ?_
  refine wl_1 (fun x1 h2 => GI h2 ∧ FR [(238, 238, none)] h h2 ∧ FR [(238, 238, none)] h h2 ∧ ((0 ≤ x1 ∧ x1 ≤ 200)) ∧ (∀ q : Nat, (q : Int) < x1 → h2 238 q = h 241 q) ∧ (∀ q : Nat, x1 ≤ (q : Int) → h2 238 q = h 238 q)) (fun x1 h2 => ((200 : Int) + 1 - x1).toNat) (fun x1 h2 => (2, [(0, .ref 241), (1, .ref 238), (2, vi x1)], [], hp_w h2 cr, b, c)) ?_ 0 h ⟨g, F0, FR.refl, (show (0 ≤ 0 ∧ 0 ≤ 200) by omega), (fun q e => absurd e (by omega)), (fun _ _ => rfl)⟩
  intro x1 h2 ⟨g2, F3, u2, f2, XA2, XB2⟩ I2
  refine wi_iload_n (i := 2) (e := x1) (nx := 3) (r1 := 0) (r2 := 0) (r3 := 0) rfl rfl ?_
  refine wi_sipush (n := 200) (nx := 6) (r1 := 0) (r2 := 0) (r3 := 0) rfl (by decide) ?_
  refine wi_icmp (cd := .ge) (nx := 9) (r1 := 21) (r2 := 0) (r3 := 0) rfl (by omega) (by omega) (fun (q4 : 200 ≤ x1) => ?_) (fun (q4 : ¬ (200 ≤ x1)) => ?_)
  ·
    refine wi_return (nx := 22) (r1 := 0) (r2 := 0) (r3 := 0) rfl rfl ?_
    exact k h2 g2 F3 (fun q e => XA2 q (by omega))
  ·
    refine wi_aload_n (i := 1) (x := 238) (nx := 10) (r1 := 0) (r2 := 0) (r3 := 0) rfl rfl ?_
    refine wi_iload_n (i := 2) (e := x1) (nx := 11) (r1 := 0) (r2 := 0) (r3 := 0) rfl rfl ?_
    refine wi_aload_n (i := 0) (x := 241) (nx := 12) (r1 := 0) (r2 := 0) (r3 := 0) rfl rfl ?_
    refine wi_iload_n (i := 2) (e := x1) (nx := 13) (r1 := 0) (r2 := 0) (r3 := 0) rfl rfl ?_
    obtain ⟨i5, ei5⟩ : ∃ q : Nat, x1 = (q : Int) := ⟨(x1).toNat, by omega⟩
    refine wr_ia (k0 := 241) (a := x1) (f := i5) (x := h 241 i5) (nx := 14) (r1 := 0) (r2 := 0) (r3 := 0) rfl (by decide) rfl (by omega) (by omega) (by decide) (u2 241 i5 (fn_a (by omega) fn_0)) ?_
    refine wr_iv (k0 := 238) (a := x1) (f := i5) (x := h 241 i5) (nx := 15) (r1 := 0) (r2 := 0) (r3 := 0) rfl (by decide) rfl (by omega) (by omega) (by decide) g2 (g 241 i5) (fun h6 g6 w6 u6 => ?_)
    have F7 := F3.then rfl (FR.rngp (lo := 238) (hi := 238) u6 (by decide))
    have F8 := u2.then rfl (FR.rngp (lo := 238) (hi := 238) u6 (by decide))
    refine wr_iinc (i := 2) (n := 1) (v := x1) (fun e9 => [(2, vi e9), (0, .ref 241), (1, .ref 238)]) (nx := 18) (r1 := 0) (r2 := 0) (r3 := 0) rfl rfl (fun _ => rfl) (fun e9 (fe9 : e9 = x1 + 1) => ?_)
    refine wi_goto (nx := 21) (r1 := 2) (r2 := 0) (r3 := 0) rfl ?_
    refine wp.lo (lo := [(0, .ref 241), (1, .ref 238), (2, vi e9)]) ⟨rfl, rfl, rfl, trivial⟩ rfl ?_
    exact I2 e9 h6 ⟨g6, F7, F8, (show (0 ≤ e9 ∧ e9 ≤ 200) by omega), (fun q e => by
        by_cases e1 : (q : Int) < x1
        · exact (u6 238 _ (fn_i (by omega) fn_0)).trans (XA2 q e1)
        · have e2 : q = i5 := by omega
          have e3 : q = i5 := by omega
          exact (congrArg (h6 238) e2).trans (w6.trans ((Eq.refl _).trans (congrArg (h 241) e3).symm))), (fun q e => (u6 238 q (fn_i (by omega) fn_0)).trans (XB2 q (by omega)))⟩ (show ((200 : Int) + 1 - e9).toNat < ((200 : Int) + 1 - x1).toNat by omega)
-- method 353: Model.restore()I
set_option maxRecDepth 100000 in
set_option maxHeartbeats 100000000 in
theorem ct_353_236 {L : Nat} {xs : Nat → Int32} {d b c : Nat} {h : hp} {cr : Nat → Nat → Option Nat} {Q : hp_Q} (hcr : CR cr)  (g : GI h)   (pp0 : h 238 98 + h 238 99 + h 238 100 + h 238 101 + h 238 102 + h 238 106 = h 238 73) (pp1 : h 238 73 ≤ h 238 2) (pp2 : h 238 119 ≤ h 238 67) (pp3 : h 238 69 ≤ h 238 5) (pp4 : h 238 2 ≤ 12 * h 238 5) (pp5 : h 241 98 + h 241 99 + h 241 100 + h 241 101 + h 241 102 + h 241 106 = h 241 73) (pp6 : h 241 73 ≤ h 241 2) (pp7 : h 241 119 ≤ h 241 67) (pp8 : h 241 69 ≤ h 241 5) (pp9 : h 241 2 ≤ 12 * h 241 5) (k : ∀ (h2 : hp) (z0 : Int) , GI h2 → FR [(238, 238, none), (243, 243, none), (236, 236, some (0, 0)), (236, 236, some (22, 22))] h h2 → (0 ≤ z0 ∧ z0 ≤ 9999) → (h2 238 98 + h2 238 99 + h2 238 100 + h2 238 101 + h2 238 102 + h2 238 106 = h2 238 73) → (h2 238 73 ≤ h2 238 2) → (h2 238 119 ≤ h2 238 67) → (h2 238 69 ≤ h2 238 5) → (h2 238 2 ≤ 12 * h2 238 5) → Q (.inl (some (vi z0))) (hp_w h2 cr) b c) : wp (md_xa (L, xs)) (d + 2) 353 (0, [(0, .ref 236)], [], hp_w h cr, b, c) Q := by
  have F0 : FR [(238, 238, none), (243, 243, none), (236, 236, some (0, 0)), (236, 236, some (22, 22))] h h := FR.refl
  have b1 := gi_b (lo := 0) (hi := 6) g 238 98 rfl
  have b2 := gi_b (lo := 0) (hi := 6) g 238 99 rfl
  have b3 := gi_b (lo := 0) (hi := 6) g 238 100 rfl
  have b4 := gi_b (lo := 0) (hi := 6) g 238 101 rfl
  have b5 := gi_b (lo := 0) (hi := 3) g 238 102 rfl
  have b6 := gi_b (lo := 0) (hi := 12) g 238 106 rfl
  have b7 := gi_b (lo := 0) (hi := 12) g 238 73 rfl
  have b8 := gi_b (lo := 0) (hi := 12) g 238 2 rfl
  have b9 := gi_b (lo := 0) (hi := 9999) g 238 119 rfl
  have b10 := gi_b (lo := 0) (hi := 9999) g 238 67 rfl
  have b11 := gi_b (lo := 0) (hi := 9) g 238 69 rfl
  have b12 := gi_b (lo := 0) (hi := 9) g 238 5 rfl
  have b13 := gi_b (lo := 0) (hi := 6) g 241 98 rfl
  have b14 := gi_b (lo := 0) (hi := 6) g 241 99 rfl
  have b15 := gi_b (lo := 0) (hi := 6) g 241 100 rfl
  have b16 := gi_b (lo := 0) (hi := 6) g 241 101 rfl
  have b17 := gi_b (lo := 0) (hi := 3) g 241 102 rfl
  have b18 := gi_b (lo := 0) (hi := 12) g 241 106 rfl
  have b19 := gi_b (lo := 0) (hi := 12) g 241 73 rfl
  have b20 := gi_b (lo := 0) (hi := 12) g 241 2 rfl
  have b21 := gi_b (lo := 0) (hi := 9999) g 241 119 rfl
  have b22 := gi_b (lo := 0) (hi := 9999) g 241 67 rfl
  have b23 := gi_b (lo := 0) (hi := 9) g 241 69 rfl
  have b24 := gi_b (lo := 0) (hi := 9) g 241 5 rfl
  refine wi_aload_n (i := 0) (x := 236) (nx := 1) (r1 := 0) (r2 := 0) (r3 := 0) rfl rfl ?_
  refine wi_aload_n (i := 0) (x := 236) (nx := 2) (r1 := 0) (r2 := 0) (r3 := 0) rfl rfl ?_
  have b25 := gi_b (lo := 0) (hi := 1) g 236 21 rfl
  refine wr_gi2 (k0 := 236) (x := h 236 21) (nx := 5) (r1 := 11) (r2 := 21) (r3 := 0) rfl rfl (by decide) rfl ⟨rfl, rfl⟩ rfl rfl ?_
  refine wr_V (k0 := 236) (rest := []) (as := [.ref 236, vi (h 236 21)]) (nx := 8) (r1 := 206) (r2 := 1) (r3 := 11) rfl rfl rfl (of_decide_eq_true rfl) rfl rfl (by decide) rfl rfl (of_decide_eq_true rfl) (of_decide_eq_true rfl) ?_
  refine wi_aload_n (i := 0) (x := 236) (nx := 1) (r1 := 0) (r2 := 0) (r3 := 0) rfl rfl ?_
  refine wi_iload_n (i := 1) (e := h 236 21) (nx := 2) (r1 := 0) (r2 := 0) (r3 := 0) rfl rfl ?_
  refine wi_if (cd := .ne) (nx := 5) (r1 := 9) (r2 := 0) (r3 := 0) rfl (by omega) (fun (q26 : (h 236 21) ≠ 0) => ?_) (fun (q26 : ¬ ((h 236 21) ≠ 0)) => ?_)
  ·
    refine wi_iconst (n := 0) (nx := 10) (r1 := 0) (r2 := 0) (r3 := 0) rfl ?_
    refine wi_S (rest := [.ref 236]) (as := [vi 0]) (nx := 13) (r1 := 207) (r2 := 17) (r3 := 0) rfl rfl rfl (of_decide_eq_true rfl) rfl rfl (of_decide_eq_true rfl) (of_decide_eq_true rfl) ?_
    refine wi_iload_n (i := 0) (e := 0) (nx := 1) (r1 := 0) (r2 := 0) (r3 := 0) rfl rfl ?_
    refine wi_if (cd := .eq) (nx := 4) (r1 := 8) (r2 := 0) (r3 := 0) rfl (by omega) (fun (q27 : 0 = 0) => ?_) (fun (q27 : ¬ (0 = 0)) => by exfalso; omega)
    refine wi_iconst (n := 0) (nx := 9) (r1 := 0) (r2 := 0) (r3 := 0) rfl ?_
    refine wi_ireturn (nx := 10) (r1 := 0) (r2 := 0) (r3 := 0) rfl rfl ?_
    refine wk_i ?_
    refine wr_pf0 (k0 := 236) (x := 0) (bl := 0) (bh := 2) (nx := 16) (r1 := 11) (r2 := 0) (r3 := 0) rfl (by decide) rfl ⟨rfl, rfl⟩ rfl rfl g rfl (by omega) (fun h28 g28 w28 u28 => ?_)
    have F29 := F0.then rfl u28
    refine wi_iload_n (i := 1) (e := h 236 21) (nx := 17) (r1 := 0) (r2 := 0) (r3 := 0) rfl rfl ?_
    refine wi_zreturn (nx := 18) (r1 := 0) (r2 := 0) (r3 := 0) rfl rfl (by omega) ?_
    refine wk_i ?_
    refine wi_if (cd := .ne) (nx := 11) (r1 := 13) (r2 := 0) (r3 := 0) rfl (by omega) (fun (q30 : (h 236 21) ≠ 0) => ?_) (fun (q30 : ¬ ((h 236 21) ≠ 0)) => by exfalso; omega)
    refine wi_aload_n (i := 0) (x := 236) (nx := 14) (r1 := 0) (r2 := 0) (r3 := 0) rfl rfl ?_
    refine wr_gr (k0 := 236) (x := 241) (nx := 17) (r1 := 11) (r2 := 16) (r3 := 0) rfl rfl (by decide) rfl ⟨rfl, rfl⟩ rfl ?_
    refine wi_aload_n (i := 0) (x := 236) (nx := 18) (r1 := 0) (r2 := 0) (r3 := 0) rfl rfl ?_
    refine wr_gr (k0 := 236) (x := 238) (nx := 21) (r1 := 11) (r2 := 13) (r3 := 0) rfl rfl (by decide) rfl ⟨rfl, rfl⟩ rfl ?_
    refine wi_S (rest := []) (as := [.ref 241, .ref 238]) (nx := 24) (r1 := 238) (r2 := 18) (r3 := 0) rfl rfl rfl (of_decide_eq_true rfl) rfl rfl (of_decide_eq_true rfl) (of_decide_eq_true rfl) ?_
    refine ct_238_241_238 hcr  g28    (fun h31 g31 u31 y31_0 => ?_)
    have F32 := F29.then (by decide +kernel) u31
    refine wk_n ?_
    refine wi_iconst (n := 0) (nx := 25) (r1 := 0) (r2 := 0) (r3 := 0) rfl ?_
    refine wi_istore_n (i := 1) (e := 0) (lo2 := [(1, vi 0), (0, .ref 236)]) (nx := 26) (r1 := 0) (r2 := 0) (r3 := 0) rfl rfl ?_
    refine wp.lo (lo := [(0, .ref 236), (1, vi 0)]) ⟨rfl, rfl, trivial⟩ rfl ?_
    refine wl_1 (fun x33 h34 => GI h34 ∧ FR [(238, 238, none), (243, 243, none), (236, 236, some (0, 0)), (236, 236, some (22, 22))] h h34 ∧ FR [(243, 243, none)] h31 h34 ∧ ((0 ≤ x33 ∧ x33 ≤ 5))) (fun x33 h34 => ((5 : Int) + 1 - x33).toNat) (fun x33 h34 => (26, [(0, .ref 236), (1, vi x33)], [], hp_w h34 cr, b, c)) ?_ 0 h31 ⟨g31, F32, FR.refl, (show (0 ≤ 0 ∧ 0 ≤ 5) by omega)⟩
    intro x33 h34 ⟨g34, F35, u34, f34⟩ I34
    refine wi_iload_n (i := 1) (e := x33) (nx := 27) (r1 := 0) (r2 := 0) (r3 := 0) rfl rfl ?_
    refine wi_iconst (n := 5) (nx := 28) (r1 := 0) (r2 := 0) (r3 := 0) rfl ?_
    refine wi_icmp (cd := .ge) (nx := 31) (r1 := 49) (r2 := 0) (r3 := 0) rfl (by omega) (by omega) (fun (q36 : 5 ≤ x33) => ?_) (fun (q36 : ¬ (5 ≤ x33)) => ?_)
    ·
      refine wi_aload_n (i := 0) (x := 236) (nx := 50) (r1 := 0) (r2 := 0) (r3 := 0) rfl rfl ?_
      refine wi_iconst (n := 0) (nx := 51) (r1 := 0) (r2 := 0) (r3 := 0) rfl ?_
      refine wr_pf0 (k0 := 236) (x := 0) (bl := 0) (bh := 6) (nx := 54) (r1 := 11) (r2 := 22) (r3 := 0) rfl (by decide) rfl ⟨rfl, rfl⟩ rfl rfl g34 rfl (by omega) (fun h37 g37 w37 u37 => ?_)
      have F38 := F35.then rfl u37
      refine wi_aload_n (i := 0) (x := 236) (nx := 55) (r1 := 0) (r2 := 0) (r3 := 0) rfl rfl ?_
      refine wr_gr (k0 := 236) (x := 238) (nx := 58) (r1 := 11) (r2 := 13) (r3 := 0) rfl rfl (by decide) rfl ⟨rfl, rfl⟩ rfl ?_
      refine wi_bipush (n := 67) (nx := 60) (r1 := 0) (r2 := 0) (r3 := 0) rfl (by decide) ?_
      refine wr_ia (k0 := 238) (a := 67) (f := 67) (x := h 241 67) (nx := 61) (r1 := 0) (r2 := 0) (r3 := 0) rfl (by decide) rfl (by omega) (by omega) (by decide) ((u37 238 67 rfl).trans ((u34 238 67 rfl).trans ((y31_0 67 (by decide)).trans (u28 241 67 rfl)))) ?_
      refine wi_ireturn (nx := 62) (r1 := 0) (r2 := 0) (r3 := 0) rfl rfl ?_
      have e39 : h37 238 98 = h 241 98 := ((u37 238 98 rfl).trans ((u34 238 98 rfl).trans ((y31_0 98 (by decide)).trans (u28 241 98 rfl))))
      have e40 : h37 238 99 = h 241 99 := ((u37 238 99 rfl).trans ((u34 238 99 rfl).trans ((y31_0 99 (by decide)).trans (u28 241 99 rfl))))
      have e41 : h37 238 100 = h 241 100 := ((u37 238 100 rfl).trans ((u34 238 100 rfl).trans ((y31_0 100 (by decide)).trans (u28 241 100 rfl))))
      have e42 : h37 238 101 = h 241 101 := ((u37 238 101 rfl).trans ((u34 238 101 rfl).trans ((y31_0 101 (by decide)).trans (u28 241 101 rfl))))
      have e43 : h37 238 102 = h 241 102 := ((u37 238 102 rfl).trans ((u34 238 102 rfl).trans ((y31_0 102 (by decide)).trans (u28 241 102 rfl))))
      have e44 : h37 238 106 = h 241 106 := ((u37 238 106 rfl).trans ((u34 238 106 rfl).trans ((y31_0 106 (by decide)).trans (u28 241 106 rfl))))
      have e45 : h37 238 73 = h 241 73 := ((u37 238 73 rfl).trans ((u34 238 73 rfl).trans ((y31_0 73 (by decide)).trans (u28 241 73 rfl))))
      have e46 : h37 238 2 = h 241 2 := ((u37 238 2 rfl).trans ((u34 238 2 rfl).trans ((y31_0 2 (by decide)).trans (u28 241 2 rfl))))
      have e47 : h37 238 119 = h 241 119 := ((u37 238 119 rfl).trans ((u34 238 119 rfl).trans ((y31_0 119 (by decide)).trans (u28 241 119 rfl))))
      have e48 : h37 238 67 = h 241 67 := ((u37 238 67 rfl).trans ((u34 238 67 rfl).trans ((y31_0 67 (by decide)).trans (u28 241 67 rfl))))
      have e49 : h37 238 69 = h 241 69 := ((u37 238 69 rfl).trans ((u34 238 69 rfl).trans ((y31_0 69 (by decide)).trans (u28 241 69 rfl))))
      have e50 : h37 238 5 = h 241 5 := ((u37 238 5 rfl).trans ((u34 238 5 rfl).trans ((y31_0 5 (by decide)).trans (u28 241 5 rfl))))
      exact k h37 (h 241 67) g37 F38 (by omega) (show (h37 238 98) + (h37 238 99) + (h37 238 100) + (h37 238 101) + (h37 238 102) + (h37 238 106) = (h37 238 73) by omega) (show (h37 238 73) ≤ (h37 238 2) by omega) (show (h37 238 119) ≤ (h37 238 67) by omega) (show (h37 238 69) ≤ (h37 238 5) by omega) (show (h37 238 2) ≤ 12 * (h37 238 5) by omega)
    ·
      refine wi_aload_n (i := 0) (x := 236) (nx := 32) (r1 := 0) (r2 := 0) (r3 := 0) rfl rfl ?_
      refine wr_gr (k0 := 236) (x := 243) (nx := 35) (r1 := 11) (r2 := 18) (r3 := 0) rfl rfl (by decide) rfl ⟨rfl, rfl⟩ rfl ?_
      refine wi_iload_n (i := 1) (e := x33) (nx := 36) (r1 := 0) (r2 := 0) (r3 := 0) rfl rfl ?_
      refine wi_aload_n (i := 0) (x := 236) (nx := 37) (r1 := 0) (r2 := 0) (r3 := 0) rfl rfl ?_
      refine wr_gr (k0 := 236) (x := 245) (nx := 40) (r1 := 11) (r2 := 20) (r3 := 0) rfl rfl (by decide) rfl ⟨rfl, rfl⟩ rfl ?_
      refine wi_iload_n (i := 1) (e := x33) (nx := 41) (r1 := 0) (r2 := 0) (r3 := 0) rfl rfl ?_
      obtain ⟨i37, ei37⟩ : ∃ q : Nat, x33 = (q : Int) := ⟨(x33).toNat, by omega⟩
      have b38 := gi_b (lo := -9223372036854775808) (hi := 9223372036854775807) g 245 i37 rfl
      refine wr_la (k0 := 245) (a := x33) (f := i37) (x := h 245 i37) (nx := 42) (r1 := 0) (r2 := 0) (r3 := 0) rfl (by decide) rfl (by omega) (by omega) (by decide) ((u34 245 i37 (fn_a (by omega) fn_0)).trans ((u31 245 i37 (fn_a (by omega) fn_0)).trans (u28 245 i37 (fn_a (by omega) fn_0)))) ?_
      refine wr_ls (k0 := 243) (a := x33) (f := i37) (x := h 245 i37) (bl := -9223372036854775808) (bh := 9223372036854775807) (nx := 43) (r1 := 0) (r2 := 0) (r3 := 0) rfl (by decide) rfl (by omega) (by omega) (by decide) g34 rfl (by omega) (fun h39 g39 w39 u39 => ?_)
      have F40 := F35.then rfl (FR.rngp (lo := 243) (hi := 243) u39 (by decide))
      have F41 := u34.then rfl (FR.rngp (lo := 243) (hi := 243) u39 (by decide))
      refine wr_iinc (i := 1) (n := 1) (v := x33) (fun e42 => [(1, vi e42), (0, .ref 236)]) (nx := 46) (r1 := 0) (r2 := 0) (r3 := 0) rfl rfl (fun _ => rfl) (fun e42 (fe42 : e42 = x33 + 1) => ?_)
      refine wi_goto (nx := 49) (r1 := 26) (r2 := 0) (r3 := 0) rfl ?_
      refine wp.lo (lo := [(0, .ref 236), (1, vi e42)]) ⟨rfl, rfl, trivial⟩ rfl ?_
      exact I34 e42 h39 ⟨g39, F40, F41, (show (0 ≤ e42 ∧ e42 ≤ 5) by omega)⟩ (show ((5 : Int) + 1 - e42).toNat < ((5 : Int) + 1 - x33).toNat by omega)
  ·
    refine wi_iconst (n := 1) (nx := 6) (r1 := 0) (r2 := 0) (r3 := 0) rfl ?_
    refine wi_goto (nx := 9) (r1 := 10) (r2 := 0) (r3 := 0) rfl ?_
    refine wi_S (rest := [.ref 236]) (as := [vi 1]) (nx := 13) (r1 := 207) (r2 := 17) (r3 := 0) rfl rfl rfl (of_decide_eq_true rfl) rfl rfl (of_decide_eq_true rfl) (of_decide_eq_true rfl) ?_
    refine wi_iload_n (i := 0) (e := 1) (nx := 1) (r1 := 0) (r2 := 0) (r3 := 0) rfl rfl ?_
    refine wi_if (cd := .eq) (nx := 4) (r1 := 8) (r2 := 0) (r3 := 0) rfl (by omega) (fun (q27 : 1 = 0) => by exfalso; omega) (fun (q27 : ¬ (1 = 0)) => ?_)
    refine wi_iconst (n := 1) (nx := 5) (r1 := 0) (r2 := 0) (r3 := 0) rfl ?_
    refine wi_goto (nx := 8) (r1 := 9) (r2 := 0) (r3 := 0) rfl ?_
    refine wi_ireturn (nx := 10) (r1 := 0) (r2 := 0) (r3 := 0) rfl rfl ?_
    refine wk_i ?_
    refine wr_pf0 (k0 := 236) (x := 1) (bl := 0) (bh := 2) (nx := 16) (r1 := 11) (r2 := 0) (r3 := 0) rfl (by decide) rfl ⟨rfl, rfl⟩ rfl rfl g rfl (by omega) (fun h28 g28 w28 u28 => ?_)
    have F29 := F0.then rfl u28
    refine wi_iload_n (i := 1) (e := h 236 21) (nx := 17) (r1 := 0) (r2 := 0) (r3 := 0) rfl rfl ?_
    refine wi_zreturn (nx := 18) (r1 := 0) (r2 := 0) (r3 := 0) rfl rfl (by omega) ?_
    refine wk_i ?_
    refine wi_if (cd := .ne) (nx := 11) (r1 := 13) (r2 := 0) (r3 := 0) rfl (by omega) (fun (q30 : (h 236 21) ≠ 0) => by exfalso; omega) (fun (q30 : ¬ ((h 236 21) ≠ 0)) => ?_)
    refine wi_iconst (n := 0) (nx := 12) (r1 := 0) (r2 := 0) (r3 := 0) rfl ?_
    refine wi_ireturn (nx := 13) (r1 := 0) (r2 := 0) (r3 := 0) rfl rfl ?_
    have e31 : h28 238 98 = h 238 98 := (u28 238 98 rfl)
    have e32 : h28 238 99 = h 238 99 := (u28 238 99 rfl)
    have e33 : h28 238 100 = h 238 100 := (u28 238 100 rfl)
    have e34 : h28 238 101 = h 238 101 := (u28 238 101 rfl)
    have e35 : h28 238 102 = h 238 102 := (u28 238 102 rfl)
    have e36 : h28 238 106 = h 238 106 := (u28 238 106 rfl)
    have e37 : h28 238 73 = h 238 73 := (u28 238 73 rfl)
    have e38 : h28 238 2 = h 238 2 := (u28 238 2 rfl)
    have e39 : h28 238 119 = h 238 119 := (u28 238 119 rfl)
    have e40 : h28 238 67 = h 238 67 := (u28 238 67 rfl)
    have e41 : h28 238 69 = h 238 69 := (u28 238 69 rfl)
    have e42 : h28 238 5 = h 238 5 := (u28 238 5 rfl)
    exact k h28 0 g28 F29 (by omega) (show (h28 238 98) + (h28 238 99) + (h28 238 100) + (h28 238 101) + (h28 238 102) + (h28 238 106) = (h28 238 73) by omega) (show (h28 238 73) ≤ (h28 238 2) by omega) (show (h28 238 119) ≤ (h28 238 67) by omega) (show (h28 238 69) ≤ (h28 238 5) by omega) (show (h28 238 2) ≤ 12 * (h28 238 5) by omega)
-- method 241: Model.room(I)I
set_option maxRecDepth 100000 in
set_option maxHeartbeats 100000000 in
theorem ct_241_236 {L : Nat} {xs : Nat → Int32} {d b c : Nat} {h : hp} {cr : Nat → Nat → Option Nat} {Q : hp_Q} (hcr : CR cr)  (g : GI h) (a0 : Int) (q0_ : -2147483648 ≤ a0 ∧ a0 ≤ 2147483647)  (k : ∀ (h2 : hp) (z0 : Int) , GI h2 → FR [(236, 236, some (0, 0))] h h2 → (0 ≤ z0 ∧ z0 ≤ 6) → Q (.inl (some (vi z0))) (hp_w h2 cr) b c) : wp (md_xa (L, xs)) (d + 2) 241 (0, [(0, .ref 236), (1, vi a0)], [], hp_w h cr, b, c) Q := by
  have F0 : FR [(236, 236, some (0, 0))] h h := FR.refl
  refine wi_aload_n (i := 0) (x := 236) (nx := 1) (r1 := 0) (r2 := 0) (r3 := 0) rfl rfl ?_
  refine wi_aload_n (i := 0) (x := 236) (nx := 2) (r1 := 0) (r2 := 0) (r3 := 0) rfl rfl ?_
  refine wi_iload_n (i := 1) (e := a0) (nx := 3) (r1 := 0) (r2 := 0) (r3 := 0) rfl rfl ?_
  refine wr_V (k0 := 236) (rest := [.ref 236]) (as := [.ref 236, vi a0]) (nx := 6) (r1 := 242) (r2 := 1) (r3 := 11) rfl rfl rfl (of_decide_eq_true rfl) rfl rfl (by decide) rfl rfl (of_decide_eq_true rfl) (of_decide_eq_true rfl) ?_
  refine wi_iload_n (i := 1) (e := a0) (nx := 1) (r1 := 0) (r2 := 0) (r3 := 0) rfl rfl ?_
  refine wi_i2l (nx := 2) (r1 := 0) (r2 := 0) (r3 := 0) rfl (by omega) ?_
  refine wi_lconst (n := 0) (e := 0) (nx := 3) (r1 := 0) (r2 := 0) (r3 := 0) rfl (by decide) ?_
  refine wi_aload_n (i := 0) (x := 236) (nx := 4) (r1 := 0) (r2 := 0) (r3 := 0) rfl rfl ?_
  refine wr_gr (k0 := 236) (x := 238) (nx := 7) (r1 := 11) (r2 := 13) (r3 := 0) rfl rfl (by decide) rfl ⟨rfl, rfl⟩ rfl ?_
  refine wi_iconst (n := 1) (nx := 8) (r1 := 0) (r2 := 0) (r3 := 0) rfl ?_
  have b1 := gi_b (lo := 0) (hi := 4) g 238 1 rfl
  refine wr_ia (k0 := 238) (a := 1) (f := 1) (x := h 238 1) (nx := 9) (r1 := 0) (r2 := 0) (r3 := 0) rfl (by decide) rfl (by omega) (by omega) (by decide) rfl ?_
  refine wi_iconst (n := 1) (nx := 10) (r1 := 0) (r2 := 0) (r3 := 0) rfl ?_
  refine wr_sub (nx := 11) (r1 := 0) (r2 := 0) (r3 := 0) rfl (fun e2 (fe2 : e2 = (h 238 1) - 1) => ?_)
  refine wi_i2l (nx := 12) (r1 := 0) (r2 := 0) (r3 := 0) rfl (by omega) ?_
  refine wi_S (rest := []) (as := [vl a0, vl 0, vl e2]) (nx := 15) (r1 := 210) (r2 := 19) (r3 := 0) rfl rfl rfl (of_decide_eq_true rfl) rfl rfl (of_decide_eq_true rfl) (of_decide_eq_true rfl) ?_
  refine wi_lload_n (i := 0) (e := a0) (nx := 1) (r1 := 0) (r2 := 0) (r3 := 0) rfl rfl ?_
  refine wi_lload_n (i := 2) (e := 0) (nx := 2) (r1 := 0) (r2 := 0) (r3 := 0) rfl rfl ?_
  refine wi_lcmp (a := a0) (e := 0) (nx := 3) (r1 := 0) (r2 := 0) (r3 := 0) rfl (by omega) (by omega) (fun r3 (fr3 : (r3 = -1 ∧ a0 < 0) ∨ (r3 = 0 ∧ a0 = 0) ∨ (r3 = 1 ∧ 0 < a0)) => ?_)
  refine wi_if (cd := .lt) (nx := 6) (r1 := 17) (r2 := 0) (r3 := 0) rfl (by omega) (fun (q4 : r3 < 0) => ?_) (fun (q4 : ¬ (r3 < 0)) => ?_)
  ·
    refine wi_iconst (n := 0) (nx := 18) (r1 := 0) (r2 := 0) (r3 := 0) rfl ?_
    refine wi_zreturn (nx := 19) (r1 := 0) (r2 := 0) (r3 := 0) rfl rfl (by omega) ?_
    refine wk_i ?_
    refine wi_zreturn (nx := 16) (r1 := 0) (r2 := 0) (r3 := 0) rfl rfl (by omega) ?_
    refine wk_i ?_
    refine wr_V (k0 := 236) (rest := []) (as := [.ref 236, vi 0]) (nx := 9) (r1 := 206) (r2 := 1) (r3 := 11) rfl rfl rfl (of_decide_eq_true rfl) rfl rfl (by decide) rfl rfl (of_decide_eq_true rfl) (of_decide_eq_true rfl) ?_
    refine wi_aload_n (i := 0) (x := 236) (nx := 1) (r1 := 0) (r2 := 0) (r3 := 0) rfl rfl ?_
    refine wi_iload_n (i := 1) (e := 0) (nx := 2) (r1 := 0) (r2 := 0) (r3 := 0) rfl rfl ?_
    refine wi_if (cd := .ne) (nx := 5) (r1 := 9) (r2 := 0) (r3 := 0) rfl (by omega) (fun (q5 : 0 ≠ 0) => by exfalso; omega) (fun (q5 : ¬ (0 ≠ 0)) => ?_)
    refine wi_iconst (n := 1) (nx := 6) (r1 := 0) (r2 := 0) (r3 := 0) rfl ?_
    refine wi_goto (nx := 9) (r1 := 10) (r2 := 0) (r3 := 0) rfl ?_
    refine wi_S (rest := [.ref 236]) (as := [vi 1]) (nx := 13) (r1 := 207) (r2 := 17) (r3 := 0) rfl rfl rfl (of_decide_eq_true rfl) rfl rfl (of_decide_eq_true rfl) (of_decide_eq_true rfl) ?_
    refine wi_iload_n (i := 0) (e := 1) (nx := 1) (r1 := 0) (r2 := 0) (r3 := 0) rfl rfl ?_
    refine wi_if (cd := .eq) (nx := 4) (r1 := 8) (r2 := 0) (r3 := 0) rfl (by omega) (fun (q6 : 1 = 0) => by exfalso; omega) (fun (q6 : ¬ (1 = 0)) => ?_)
    refine wi_iconst (n := 1) (nx := 5) (r1 := 0) (r2 := 0) (r3 := 0) rfl ?_
    refine wi_goto (nx := 8) (r1 := 9) (r2 := 0) (r3 := 0) rfl ?_
    refine wi_ireturn (nx := 10) (r1 := 0) (r2 := 0) (r3 := 0) rfl rfl ?_
    refine wk_i ?_
    refine wr_pf0 (k0 := 236) (x := 1) (bl := 0) (bh := 2) (nx := 16) (r1 := 11) (r2 := 0) (r3 := 0) rfl (by decide) rfl ⟨rfl, rfl⟩ rfl rfl g rfl (by omega) (fun h7 g7 w7 u7 => ?_)
    have F8 := F0.then rfl u7
    refine wi_iload_n (i := 1) (e := 0) (nx := 17) (r1 := 0) (r2 := 0) (r3 := 0) rfl rfl ?_
    refine wi_zreturn (nx := 18) (r1 := 0) (r2 := 0) (r3 := 0) rfl rfl (by omega) ?_
    refine wk_i ?_
    refine wi_if (cd := .eq) (nx := 12) (r1 := 24) (r2 := 0) (r3 := 0) rfl (by omega) (fun (q9 : 0 = 0) => ?_) (fun (q9 : ¬ (0 = 0)) => by exfalso; omega)
    refine wi_iconst (n := 0) (nx := 25) (r1 := 0) (r2 := 0) (r3 := 0) rfl ?_
    refine wi_ireturn (nx := 26) (r1 := 0) (r2 := 0) (r3 := 0) rfl rfl ?_
    exact k h7 0 g7 F8 (by omega)
  ·
    refine wi_lload_n (i := 0) (e := a0) (nx := 7) (r1 := 0) (r2 := 0) (r3 := 0) rfl rfl ?_
    refine wi_lload (i := 4) (e := e2) (nx := 9) (r1 := 0) (r2 := 0) (r3 := 0) rfl rfl ?_
    refine wi_lcmp (a := a0) (e := e2) (nx := 10) (r1 := 0) (r2 := 0) (r3 := 0) rfl (by omega) (by omega) (fun r5 (fr5 : (r5 = -1 ∧ a0 < e2) ∨ (r5 = 0 ∧ a0 = e2) ∨ (r5 = 1 ∧ e2 < a0)) => ?_)
    refine wi_if (cd := .gt) (nx := 13) (r1 := 17) (r2 := 0) (r3 := 0) rfl (by omega) (fun (q6 : 0 < r5) => ?_) (fun (q6 : ¬ (0 < r5)) => ?_)
    ·
      refine wi_iconst (n := 0) (nx := 18) (r1 := 0) (r2 := 0) (r3 := 0) rfl ?_
      refine wi_zreturn (nx := 19) (r1 := 0) (r2 := 0) (r3 := 0) rfl rfl (by omega) ?_
      refine wk_i ?_
      refine wi_zreturn (nx := 16) (r1 := 0) (r2 := 0) (r3 := 0) rfl rfl (by omega) ?_
      refine wk_i ?_
      refine wr_V (k0 := 236) (rest := []) (as := [.ref 236, vi 0]) (nx := 9) (r1 := 206) (r2 := 1) (r3 := 11) rfl rfl rfl (of_decide_eq_true rfl) rfl rfl (by decide) rfl rfl (of_decide_eq_true rfl) (of_decide_eq_true rfl) ?_
      refine wi_aload_n (i := 0) (x := 236) (nx := 1) (r1 := 0) (r2 := 0) (r3 := 0) rfl rfl ?_
      refine wi_iload_n (i := 1) (e := 0) (nx := 2) (r1 := 0) (r2 := 0) (r3 := 0) rfl rfl ?_
      refine wi_if (cd := .ne) (nx := 5) (r1 := 9) (r2 := 0) (r3 := 0) rfl (by omega) (fun (q7 : 0 ≠ 0) => by exfalso; omega) (fun (q7 : ¬ (0 ≠ 0)) => ?_)
      refine wi_iconst (n := 1) (nx := 6) (r1 := 0) (r2 := 0) (r3 := 0) rfl ?_
      refine wi_goto (nx := 9) (r1 := 10) (r2 := 0) (r3 := 0) rfl ?_
      refine wi_S (rest := [.ref 236]) (as := [vi 1]) (nx := 13) (r1 := 207) (r2 := 17) (r3 := 0) rfl rfl rfl (of_decide_eq_true rfl) rfl rfl (of_decide_eq_true rfl) (of_decide_eq_true rfl) ?_
      refine wi_iload_n (i := 0) (e := 1) (nx := 1) (r1 := 0) (r2 := 0) (r3 := 0) rfl rfl ?_
      refine wi_if (cd := .eq) (nx := 4) (r1 := 8) (r2 := 0) (r3 := 0) rfl (by omega) (fun (q8 : 1 = 0) => by exfalso; omega) (fun (q8 : ¬ (1 = 0)) => ?_)
      refine wi_iconst (n := 1) (nx := 5) (r1 := 0) (r2 := 0) (r3 := 0) rfl ?_
      refine wi_goto (nx := 8) (r1 := 9) (r2 := 0) (r3 := 0) rfl ?_
      refine wi_ireturn (nx := 10) (r1 := 0) (r2 := 0) (r3 := 0) rfl rfl ?_
      refine wk_i ?_
      refine wr_pf0 (k0 := 236) (x := 1) (bl := 0) (bh := 2) (nx := 16) (r1 := 11) (r2 := 0) (r3 := 0) rfl (by decide) rfl ⟨rfl, rfl⟩ rfl rfl g rfl (by omega) (fun h9 g9 w9 u9 => ?_)
      have F10 := F0.then rfl u9
      refine wi_iload_n (i := 1) (e := 0) (nx := 17) (r1 := 0) (r2 := 0) (r3 := 0) rfl rfl ?_
      refine wi_zreturn (nx := 18) (r1 := 0) (r2 := 0) (r3 := 0) rfl rfl (by omega) ?_
      refine wk_i ?_
      refine wi_if (cd := .eq) (nx := 12) (r1 := 24) (r2 := 0) (r3 := 0) rfl (by omega) (fun (q11 : 0 = 0) => ?_) (fun (q11 : ¬ (0 = 0)) => by exfalso; omega)
      refine wi_iconst (n := 0) (nx := 25) (r1 := 0) (r2 := 0) (r3 := 0) rfl ?_
      refine wi_ireturn (nx := 26) (r1 := 0) (r2 := 0) (r3 := 0) rfl rfl ?_
      exact k h9 0 g9 F10 (by omega)
    ·
      refine wi_iconst (n := 1) (nx := 14) (r1 := 0) (r2 := 0) (r3 := 0) rfl ?_
      refine wi_goto (nx := 17) (r1 := 18) (r2 := 0) (r3 := 0) rfl ?_
      refine wi_zreturn (nx := 19) (r1 := 0) (r2 := 0) (r3 := 0) rfl rfl (by omega) ?_
      refine wk_i ?_
      refine wi_zreturn (nx := 16) (r1 := 0) (r2 := 0) (r3 := 0) rfl rfl (by omega) ?_
      refine wk_i ?_
      refine wr_V (k0 := 236) (rest := []) (as := [.ref 236, vi 1]) (nx := 9) (r1 := 206) (r2 := 1) (r3 := 11) rfl rfl rfl (of_decide_eq_true rfl) rfl rfl (by decide) rfl rfl (of_decide_eq_true rfl) (of_decide_eq_true rfl) ?_
      refine wi_aload_n (i := 0) (x := 236) (nx := 1) (r1 := 0) (r2 := 0) (r3 := 0) rfl rfl ?_
      refine wi_iload_n (i := 1) (e := 1) (nx := 2) (r1 := 0) (r2 := 0) (r3 := 0) rfl rfl ?_
      refine wi_if (cd := .ne) (nx := 5) (r1 := 9) (r2 := 0) (r3 := 0) rfl (by omega) (fun (q7 : 1 ≠ 0) => ?_) (fun (q7 : ¬ (1 ≠ 0)) => by exfalso; omega)
      refine wi_iconst (n := 0) (nx := 10) (r1 := 0) (r2 := 0) (r3 := 0) rfl ?_
      refine wi_S (rest := [.ref 236]) (as := [vi 0]) (nx := 13) (r1 := 207) (r2 := 17) (r3 := 0) rfl rfl rfl (of_decide_eq_true rfl) rfl rfl (of_decide_eq_true rfl) (of_decide_eq_true rfl) ?_
      refine wi_iload_n (i := 0) (e := 0) (nx := 1) (r1 := 0) (r2 := 0) (r3 := 0) rfl rfl ?_
      refine wi_if (cd := .eq) (nx := 4) (r1 := 8) (r2 := 0) (r3 := 0) rfl (by omega) (fun (q8 : 0 = 0) => ?_) (fun (q8 : ¬ (0 = 0)) => by exfalso; omega)
      refine wi_iconst (n := 0) (nx := 9) (r1 := 0) (r2 := 0) (r3 := 0) rfl ?_
      refine wi_ireturn (nx := 10) (r1 := 0) (r2 := 0) (r3 := 0) rfl rfl ?_
      refine wk_i ?_
      refine wr_pf0 (k0 := 236) (x := 0) (bl := 0) (bh := 2) (nx := 16) (r1 := 11) (r2 := 0) (r3 := 0) rfl (by decide) rfl ⟨rfl, rfl⟩ rfl rfl g rfl (by omega) (fun h9 g9 w9 u9 => ?_)
      have F10 := F0.then rfl u9
      refine wi_iload_n (i := 1) (e := 1) (nx := 17) (r1 := 0) (r2 := 0) (r3 := 0) rfl rfl ?_
      refine wi_zreturn (nx := 18) (r1 := 0) (r2 := 0) (r3 := 0) rfl rfl (by omega) ?_
      refine wk_i ?_
      refine wi_if (cd := .eq) (nx := 12) (r1 := 24) (r2 := 0) (r3 := 0) rfl (by omega) (fun (q11 : 1 = 0) => by exfalso; omega) (fun (q11 : ¬ (1 = 0)) => ?_)
      refine wi_aload_n (i := 0) (x := 236) (nx := 13) (r1 := 0) (r2 := 0) (r3 := 0) rfl rfl ?_
      refine wr_gr (k0 := 236) (x := 238) (nx := 16) (r1 := 11) (r2 := 13) (r3 := 0) rfl rfl (by decide) rfl ⟨rfl, rfl⟩ rfl ?_
      refine wi_bipush (n := 15) (nx := 18) (r1 := 0) (r2 := 0) (r3 := 0) rfl (by decide) ?_
      refine wi_iload_n (i := 1) (e := a0) (nx := 19) (r1 := 0) (r2 := 0) (r3 := 0) rfl rfl ?_
      refine wr_add (nx := 20) (r1 := 0) (r2 := 0) (r3 := 0) rfl (fun e12 (fe12 : e12 = 15 + a0) => ?_)
      obtain ⟨i13, ei13⟩ : ∃ q : Nat, e12 = (q : Int) := ⟨(e12).toNat, by omega⟩
      have b14 := gi_b (lo := 0) (hi := 6) g 238 i13 (gi_rg 15 4 (fun _ => rfl) (by decide +kernel) (by omega))
      refine wr_ia (k0 := 238) (a := e12) (f := i13) (x := h 238 i13) (nx := 21) (r1 := 0) (r2 := 0) (r3 := 0) rfl (by decide) rfl (by omega) (by omega) (by decide) (u9 238 i13 (fn_a (by omega) fn_0)) ?_
      refine wi_goto (nx := 24) (r1 := 25) (r2 := 0) (r3 := 0) rfl ?_
      refine wi_ireturn (nx := 26) (r1 := 0) (r2 := 0) (r3 := 0) rfl rfl ?_
      exact k h9 (h 238 i13) g9 F10 (by omega)
-- method 238: Model.copies([I[I)V
set_option maxRecDepth 100000 in
set_option maxHeartbeats 100000000 in
theorem ct_238_238_240 {L : Nat} {xs : Nat → Int32} {d b c : Nat} {h : hp} {cr : Nat → Nat → Option Nat} {Q : hp_Q} (hcr : CR cr)  (g : GI h)    (k : ∀ (h2 : hp) , GI h2 → FR [(240, 240, none)] h h2 → (∀ q : Nat, q < 200 → h2 240 q = h 238 q) → Q (.inl none) (hp_w h2 cr) b c) : wp (md_xa (L, xs)) d 238 (0, [(0, .ref 238), (1, .ref 240)], [], hp_w h cr, b, c) Q := by
  have F0 : FR [(240, 240, none)] h h := FR.refl
  refine wi_iconst (n := 0) (nx := 1) (r1 := 0) (r2 := 0) (r3 := 0) rfl ?_
  refine wi_istore_n (i := 2) (e := 0) (lo2 := [(2, vi 0), (0, .ref 238), (1, .ref 240)]) (nx := 2) (r1 := 0) (r2 := 0) (r3 := 0) rfl rfl ?_
  refine wp.lo (lo := [(0, .ref 238), (1, .ref 240), (2, vi 0)]) ⟨rfl, rfl, rfl, trivial⟩ rfl ?_
  refine wl_1 (fun x1 h2 => GI h2 ∧ FR [(240, 240, none)] h h2 ∧ FR [(240, 240, none)] h h2 ∧ ((0 ≤ x1 ∧ x1 ≤ 200)) ∧ (∀ q : Nat, (q : Int) < x1 → h2 240 q = h 238 q) ∧ (∀ q : Nat, x1 ≤ (q : Int) → h2 240 q = h 240 q)) (fun x1 h2 => ((200 : Int) + 1 - x1).toNat) (fun x1 h2 => (2, [(0, .ref 238), (1, .ref 240), (2, vi x1)], [], hp_w h2 cr, b, c)) ?_ 0 h ⟨g, F0, FR.refl, (show (0 ≤ 0 ∧ 0 ≤ 200) by omega), (fun q e => absurd e (by omega)), (fun _ _ => rfl)⟩
  intro x1 h2 ⟨g2, F3, u2, f2, XA2, XB2⟩ I2
  refine wi_iload_n (i := 2) (e := x1) (nx := 3) (r1 := 0) (r2 := 0) (r3 := 0) rfl rfl ?_
  refine wi_sipush (n := 200) (nx := 6) (r1 := 0) (r2 := 0) (r3 := 0) rfl (by decide) ?_
  refine wi_icmp (cd := .ge) (nx := 9) (r1 := 21) (r2 := 0) (r3 := 0) rfl (by omega) (by omega) (fun (q4 : 200 ≤ x1) => ?_) (fun (q4 : ¬ (200 ≤ x1)) => ?_)
  ·
    refine wi_return (nx := 22) (r1 := 0) (r2 := 0) (r3 := 0) rfl rfl ?_
    exact k h2 g2 F3 (fun q e => XA2 q (by omega))
  ·
    refine wi_aload_n (i := 1) (x := 240) (nx := 10) (r1 := 0) (r2 := 0) (r3 := 0) rfl rfl ?_
    refine wi_iload_n (i := 2) (e := x1) (nx := 11) (r1 := 0) (r2 := 0) (r3 := 0) rfl rfl ?_
    refine wi_aload_n (i := 0) (x := 238) (nx := 12) (r1 := 0) (r2 := 0) (r3 := 0) rfl rfl ?_
    refine wi_iload_n (i := 2) (e := x1) (nx := 13) (r1 := 0) (r2 := 0) (r3 := 0) rfl rfl ?_
    obtain ⟨i5, ei5⟩ : ∃ q : Nat, x1 = (q : Int) := ⟨(x1).toNat, by omega⟩
    refine wr_ia (k0 := 238) (a := x1) (f := i5) (x := h 238 i5) (nx := 14) (r1 := 0) (r2 := 0) (r3 := 0) rfl (by decide) rfl (by omega) (by omega) (by decide) (u2 238 i5 (fn_a (by omega) fn_0)) ?_
    refine wr_iv (k0 := 240) (a := x1) (f := i5) (x := h 238 i5) (nx := 15) (r1 := 0) (r2 := 0) (r3 := 0) rfl (by decide) rfl (by omega) (by omega) (by decide) g2 (g 238 i5) (fun h6 g6 w6 u6 => ?_)
    have F7 := F3.then rfl (FR.rngp (lo := 240) (hi := 240) u6 (by decide))
    have F8 := u2.then rfl (FR.rngp (lo := 240) (hi := 240) u6 (by decide))
    refine wr_iinc (i := 2) (n := 1) (v := x1) (fun e9 => [(2, vi e9), (0, .ref 238), (1, .ref 240)]) (nx := 18) (r1 := 0) (r2 := 0) (r3 := 0) rfl rfl (fun _ => rfl) (fun e9 (fe9 : e9 = x1 + 1) => ?_)
    refine wi_goto (nx := 21) (r1 := 2) (r2 := 0) (r3 := 0) rfl ?_
    refine wp.lo (lo := [(0, .ref 238), (1, .ref 240), (2, vi e9)]) ⟨rfl, rfl, rfl, trivial⟩ rfl ?_
    exact I2 e9 h6 ⟨g6, F7, F8, (show (0 ≤ e9 ∧ e9 ≤ 200) by omega), (fun q e => by
        by_cases e1 : (q : Int) < x1
        · exact (u6 240 _ (fn_i (by omega) fn_0)).trans (XA2 q e1)
        · have e2 : q = i5 := by omega
          have e3 : q = i5 := by omega
          exact (congrArg (h6 240) e2).trans (w6.trans ((Eq.refl _).trans (congrArg (h 238) e3).symm))), (fun q e => (u6 240 q (fn_i (by omega) fn_0)).trans (XB2 q (by omega)))⟩ (show ((200 : Int) + 1 - e9).toNat < ((200 : Int) + 1 - x1).toNat by omega)
