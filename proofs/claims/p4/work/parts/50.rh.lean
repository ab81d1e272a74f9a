-- method 238: Model.copies([I[I)V
set_option maxRecDepth 100000 in
set_option maxHeartbeats 100000000 in
theorem ct_238_239_238 {L : Nat} {xs : Nat → Int32} {d b c : Nat} {h : hp} {cr : Nat → Nat → Option Nat} {Q : hp_Q} (hcr : CR cr)  (g : GI h)    (xq0 : ∀ j : Nat, j < 200 → (md_bd 238 j).1 ≤ h 239 j ∧ h 239 j ≤ (md_bd 238 j).2) (k : ∀ (h2 : hp) , GI h2 → FR [(238, 238, none)] h h2 → (∀ q : Nat, q < 200 → h2 238 q = h 239 q) → Q (.inl none) (hp_w h2 cr) b c) : wp (md_xa (L, xs)) d 238 (0, [(0, .ref 239), (1, .ref 238)], [], hp_w h cr, b, c) Q := by
  have F0 : FR [(238, 238, none)] h h := FR.refl
  refine wi_iconst (n := 0) (nx := 1) (r1 := 0) (r2 := 0) (r3 := 0) rfl ?_
  refine wi_istore_n (i := 2) (e := 0) (lo2 := [(2, vi 0), (0, .ref 239), (1, .ref 238)]) (nx := 2) (r1 := 0) (r2 := 0) (r3 := 0) rfl rfl ?_
  refine wp.lo (lo := [(0, .ref 239), (1, .ref 238), (2, vi 0)]) ⟨rfl, rfl, rfl, trivial⟩ rfl ?_
  refine wl_1 (fun x1 h2 => GI h2 ∧ FR [(238, 238, none)] h h2 ∧ FR [(238, 238, none)] h h2 ∧ ((0 ≤ x1 ∧ x1 ≤ 200)) ∧ (∀ q : Nat, (q : Int) < x1 → h2 238 q = h 239 q) ∧ (∀ q : Nat, x1 ≤ (q : Int) → h2 238 q = h 238 q)) (fun x1 h2 => ((200 : Int) + 1 - x1).toNat) (fun x1 h2 => (2, [(0, .ref 239), (1, .ref 238), (2, vi x1)], [], hp_w h2 cr, b, c)) ?_ 0 h ⟨g, F0, FR.refl, (show (0 ≤ 0 ∧ 0 ≤ 200) by omega), (fun q e => absurd e (by omega)), (fun _ _ => rfl)⟩
  intro x1 h2 ⟨g2, F3, u2, f2, XA2, XB2⟩ I2
  refine wi_iload_n (i := 2) (e := x1) (nx := 3) (r1 := 0) (r2 := 0) (r3 := 0) rfl rfl ?_
  refine wi_sipush (n := 200) (nx := 6) (r1 := 0) (r2 := 0) (r3 := 0) rfl (by decide) ?_
  refine wi_icmp (cd := .ge) (nx := 9) (r1 := 21) (r2 := 0) (r3 := 0) rfl (by omega) (by omega) (fun (q4 : 200 ≤ x1) => ?_) (fun (q4 : ¬ (200 ≤ x1)) => ?_)
  ·
    refine wi_return (nx := 22) (r1 := 0) (r2 := 0) (r3 := 0) rfl rfl ?_
    exact k h2 g2 F3 (fun q e => XA2 q (by omega))
  ·
    refine wi_aload_n (i := 1) (x := 238) (nx := 10) (r1 := 0) (r2 := 0) (r3 := 0) rfl rfl ?_
    refine wi_iload_n (i := 2) (e := x1) (nx := 11) (r1 := 0) (r2 := 0) (r3 := 0) rfl rfl ?_
    refine wi_aload_n (i := 0) (x := 239) (nx := 12) (r1 := 0) (r2 := 0) (r3 := 0) rfl rfl ?_
    refine wi_iload_n (i := 2) (e := x1) (nx := 13) (r1 := 0) (r2 := 0) (r3 := 0) rfl rfl ?_
    obtain ⟨i5, ei5⟩ : ∃ q : Nat, x1 = (q : Int) := ⟨(x1).toNat, by omega⟩
    refine wr_ia (k0 := 239) (a := x1) (f := i5) (x := h 239 i5) (nx := 14) (r1 := 0) (r2 := 0) (r3 := 0) rfl (by decide) rfl (by omega) (by omega) (by decide) (u2 239 i5 (fn_a (by decide) fn_0)) ?_
    refine wr_iv (k0 := 238) (a := x1) (f := i5) (x := h 239 i5) (nx := 15) (r1 := 0) (r2 := 0) (r3 := 0) rfl (by decide) rfl (by omega) (by omega) (by decide) g2 (xq0 i5 (by omega)) (fun h6 g6 w6 u6 => ?_)
    have F7 := F3.then rfl (FR.rngp (lo := 238) (hi := 238) u6 (by decide))
    have F8 := u2.then rfl (FR.rngp (lo := 238) (hi := 238) u6 (by decide))
    refine wr_iinc (i := 2) (n := 1) (v := x1) (fun e9 => [(2, vi e9), (0, .ref 239), (1, .ref 238)]) (nx := 18) (r1 := 0) (r2 := 0) (r3 := 0) rfl rfl (fun _ => rfl) (fun e9 (fe9 : e9 = x1 + 1) => ?_)
    refine wi_goto (nx := 21) (r1 := 2) (r2 := 0) (r3 := 0) rfl ?_
    refine wp.lo (lo := [(0, .ref 239), (1, .ref 238), (2, vi e9)]) ⟨rfl, rfl, rfl, trivial⟩ rfl ?_
    exact I2 e9 h6 ⟨g6, F7, F8, (show (0 ≤ e9 ∧ e9 ≤ 200) by omega), (fun q e => by
        by_cases e1 : (q : Int) < x1
        · exact (u6 238 _ (fn_i (by omega) fn_0)).trans (XA2 q e1)
        · have e2 : q = i5 := by omega
          have e3 : q = i5 := by omega
          exact (congrArg (h6 238) e2).trans (w6.trans ((Eq.refl _).trans (congrArg (h 239) e3).symm))), (fun q e => (u6 238 q (fn_i (by omega) fn_0)).trans (XB2 q (by omega)))⟩ (show ((200 : Int) + 1 - e9).toNat < ((200 : Int) + 1 - x1).toNat by omega)
-- method 224: Model.wrong(I)V
set_option maxRecDepth 100000 in
set_option maxHeartbeats 100000000 in
theorem ct_224_236 {L : Nat} {xs : Nat → Int32} {d b c : Nat} {h : hp} {cr : Nat → Nat → Option Nat} {Q : hp_Q} (hcr : CR cr)  (g : GI h) (a0 : Int) (q0_ : 1 ≤ a0 ∧ a0 ≤ 5)  (k : ∀ (h2 : hp) , GI h2 → FR [(236, 236, some (8, 8)), (236, 236, some (9, 9))] h h2 → (1 ≤ h2 236 8) → ((1 ≤ h 236 8 ∧ h2 236 8 = h 236 8 ∧ h2 236 9 = h 236 9) ∨ (h 236 8 = 0 ∧ h2 236 9 = h 236 5 ∧ ((h 236 6 = 4 ∧ h2 236 8 = 1) ∨ (h 236 6 ≠ 4 ∧ h2 236 8 = a0)))) → Q (.inl none) (hp_w h2 cr) b c) : wp (md_xa (L, xs)) d 224 (0, [(0, .ref 236), (1, vi a0)], [], hp_w h cr, b, c) Q := by
  have F0 : FR [(236, 236, some (8, 8)), (236, 236, some (9, 9))] h h := FR.refl
  refine wi_aload_n (i := 0) (x := 236) (nx := 1) (r1 := 0) (r2 := 0) (r3 := 0) rfl rfl ?_
  have b1 := gi_b (lo := 0) (hi := 5) g 236 8 rfl
  refine wr_gi0 (k0 := 236) (x := h 236 8) (nx := 4) (r1 := 11) (r2 := 8) (r3 := 0) rfl rfl (by decide) rfl ⟨rfl, rfl⟩ rfl rfl ?_
  refine wi_if (cd := .le) (nx := 7) (r1 := 8) (r2 := 0) (r3 := 0) rfl (by omega) (fun (q2 : (h 236 8) ≤ 0) => ?_) (fun (q2 : ¬ ((h 236 8) ≤ 0)) => ?_)
  ·
    refine wi_aload_n (i := 0) (x := 236) (nx := 9) (r1 := 0) (r2 := 0) (r3 := 0) rfl rfl ?_
    refine wi_aload_n (i := 0) (x := 236) (nx := 10) (r1 := 0) (r2 := 0) (r3 := 0) rfl rfl ?_
    have b3 := gi_b (lo := 0) (hi := 4) g 236 6 rfl
    refine wr_gi0 (k0 := 236) (x := h 236 6) (nx := 13) (r1 := 11) (r2 := 6) (r3 := 0) rfl rfl (by decide) rfl ⟨rfl, rfl⟩ rfl rfl ?_
    refine wi_iconst (n := 4) (nx := 14) (r1 := 0) (r2 := 0) (r3 := 0) rfl ?_
    refine wi_icmp (cd := .ne) (nx := 17) (r1 := 21) (r2 := 0) (r3 := 0) rfl (by omega) (by omega) (fun (q4 : (h 236 6) ≠ 4) => ?_) (fun (q4 : ¬ ((h 236 6) ≠ 4)) => ?_)
    ·
      refine wi_iload_n (i := 1) (e := a0) (nx := 22) (r1 := 0) (r2 := 0) (r3 := 0) rfl rfl ?_
      refine wr_pf0 (k0 := 236) (x := a0) (bl := 0) (bh := 5) (nx := 25) (r1 := 11) (r2 := 8) (r3 := 0) rfl (by decide) rfl ⟨rfl, rfl⟩ rfl rfl g rfl (by omega) (fun h5 g5 w5 u5 => ?_)
      have F6 := F0.then rfl u5
      refine wi_aload_n (i := 0) (x := 236) (nx := 26) (r1 := 0) (r2 := 0) (r3 := 0) rfl rfl ?_
      refine wi_aload_n (i := 0) (x := 236) (nx := 27) (r1 := 0) (r2 := 0) (r3 := 0) rfl rfl ?_
      have b7 := gi_b (lo := 0) (hi := 800) g 236 5 rfl
      refine wr_gi0 (k0 := 236) (x := h 236 5) (nx := 30) (r1 := 11) (r2 := 5) (r3 := 0) rfl rfl (by decide) rfl ⟨rfl, rfl⟩ rfl (u5 236 5 rfl) ?_
      refine wr_pf0 (k0 := 236) (x := h 236 5) (bl := -2147483648) (bh := 2147483647) (nx := 33) (r1 := 11) (r2 := 9) (r3 := 0) rfl (by decide) rfl ⟨rfl, rfl⟩ rfl rfl g5 rfl (by omega) (fun h8 g8 w8 u8 => ?_)
      have F9 := F6.then rfl u8
      refine wi_return (nx := 34) (r1 := 0) (r2 := 0) (r3 := 0) rfl rfl ?_
      have e10 : h8 236 8 = a0 := ((u8 236 8 rfl).trans w5)
      have e11 : h8 236 9 = h 236 5 := w8
      have b12 := gi_b (lo := -2147483648) (hi := 2147483647) g 236 9 rfl
      exact k h8 g8 F9 (show 1 ≤ (h8 236 8) by omega) (show (1 ≤ (h 236 8) ∧ (h8 236 8) = (h 236 8) ∧ (h8 236 9) = (h 236 9)) ∨ ((h 236 8) = 0 ∧ (h8 236 9) = (h 236 5) ∧ (((h 236 6) = 4 ∧ (h8 236 8) = 1) ∨ ((h 236 6) ≠ 4 ∧ (h8 236 8) = a0))) by omega)
    ·
      refine wi_iconst (n := 1) (nx := 18) (r1 := 0) (r2 := 0) (r3 := 0) rfl ?_
      refine wi_goto (nx := 21) (r1 := 22) (r2 := 0) (r3 := 0) rfl ?_
      refine wr_pf0 (k0 := 236) (x := 1) (bl := 0) (bh := 5) (nx := 25) (r1 := 11) (r2 := 8) (r3 := 0) rfl (by decide) rfl ⟨rfl, rfl⟩ rfl rfl g rfl (by omega) (fun h5 g5 w5 u5 => ?_)
      have F6 := F0.then rfl u5
      refine wi_aload_n (i := 0) (x := 236) (nx := 26) (r1 := 0) (r2 := 0) (r3 := 0) rfl rfl ?_
      refine wi_aload_n (i := 0) (x := 236) (nx := 27) (r1 := 0) (r2 := 0) (r3 := 0) rfl rfl ?_
      have b7 := gi_b (lo := 0) (hi := 800) g 236 5 rfl
      refine wr_gi0 (k0 := 236) (x := h 236 5) (nx := 30) (r1 := 11) (r2 := 5) (r3 := 0) rfl rfl (by decide) rfl ⟨rfl, rfl⟩ rfl (u5 236 5 rfl) ?_
      refine wr_pf0 (k0 := 236) (x := h 236 5) (bl := -2147483648) (bh := 2147483647) (nx := 33) (r1 := 11) (r2 := 9) (r3 := 0) rfl (by decide) rfl ⟨rfl, rfl⟩ rfl rfl g5 rfl (by omega) (fun h8 g8 w8 u8 => ?_)
      have F9 := F6.then rfl u8
      refine wi_return (nx := 34) (r1 := 0) (r2 := 0) (r3 := 0) rfl rfl ?_
      have e10 : h8 236 8 = 1 := ((u8 236 8 rfl).trans w5)
      have e11 : h8 236 9 = h 236 5 := w8
      have b12 := gi_b (lo := -2147483648) (hi := 2147483647) g 236 9 rfl
      exact k h8 g8 F9 (show 1 ≤ (h8 236 8) by omega) (show (1 ≤ (h 236 8) ∧ (h8 236 8) = (h 236 8) ∧ (h8 236 9) = (h 236 9)) ∨ ((h 236 8) = 0 ∧ (h8 236 9) = (h 236 5) ∧ (((h 236 6) = 4 ∧ (h8 236 8) = 1) ∨ ((h 236 6) ≠ 4 ∧ (h8 236 8) = a0))) by omega)
  ·
    refine wi_return (nx := 8) (r1 := 0) (r2 := 0) (r3 := 0) rfl rfl ?_
    have b3 := gi_b (lo := -2147483648) (hi := 2147483647) g 236 9 rfl
    have b4 := gi_b (lo := 0) (hi := 800) g 236 5 rfl
    have b5 := gi_b (lo := 0) (hi := 4) g 236 6 rfl
    exact k h g F0 (show 1 ≤ (h 236 8) by omega) (show (1 ≤ (h 236 8) ∧ (h 236 8) = (h 236 8) ∧ (h 236 9) = (h 236 9)) ∨ ((h 236 8) = 0 ∧ (h 236 9) = (h 236 5) ∧ (((h 236 6) = 4 ∧ (h 236 8) = 1) ∨ ((h 236 6) ≠ 4 ∧ (h 236 8) = a0))) by omega)
-- method 234: Model.once(Z)Z
set_option maxRecDepth 100000 in
set_option maxHeartbeats 100000000 in
theorem ct_234_236 {L : Nat} {xs : Nat → Int32} {d b c : Nat} {h : hp} {cr : Nat → Nat → Option Nat} {Q : hp_Q} (hcr : CR cr)  {tB : Nat → Int} {tn tp : Int} (g : GI h) (a0 : Int) (q0_ : 0 ≤ a0 ∧ a0 ≤ 1) (pp0 : h 236 4 ≤ h 236 3) (pp1 : 0 ≤ tp) (pp2 : tp ≤ tn) (pp3 : tp ≤ tk_nx tB tn tp ∧ tk_nx tB tn tp ≤ tn) (pp4 : 1 ≤ h 236 8 ∨ (h 236 4 = tk_nx tB tn tp ∧ h 236 5 = tk_st tB tn tp ∧ TKk tB tn tp (h 236 6) (h 236 7) (h 236 12))) (pp5 : tk_kd tB tn tp = 1) (xq0 : RefB tB tn h) (k : ∀ (h2 : hp) (z0 : Int) , GI h2 → FR [(236, 236, some (4, 4)), (236, 236, some (5, 5)), (236, 236, some (6, 6)), (236, 236, some (7, 7)), (236, 236, some (8, 8)), (236, 236, some (9, 9)), (236, 236, some (12, 12))] h h2 → (1 ≤ z0 ∧ z0 ≤ 1) → ((1 ≤ h 236 8 ∧ h2 236 8 = h 236 8 ∧ h2 236 9 = h 236 9) ∨ (h 236 8 = 0 ∧ a0 = 0 ∧ h2 236 8 = h 236 8 ∧ h2 236 9 = h 236 9 ∧ (h2 236 4 = tk_nx tB tn (tk_nx tB tn tp) ∧ h2 236 5 = tk_st tB tn (tk_nx tB tn tp) ∧ TKk tB tn (tk_nx tB tn tp) (h2 236 6) (h2 236 7) (h2 236 12))) ∨ (h 236 8 = 0 ∧ a0 = 1 ∧ h2 236 8 = 3 ∧ h2 236 9 = tk_st tB tn tp)) → (h 236 4 ≤ h2 236 4) → (h2 236 4 ≤ h 236 3) → (1 ≤ h2 236 8 ∨ h 236 8 = 0) → (z0 = 1) → Q (.inl (some (vi z0))) (hp_w h2 cr) b c) : wp (md_xa (L, xs)) (d + 2) 234 (0, [(0, .ref 236), (1, vi a0)], [], hp_w h cr, b, c) Q := by
  have F0 : FR [(236, 236, some (4, 4)), (236, 236, some (5, 5)), (236, 236, some (6, 6)), (236, 236, some (7, 7)), (236, 236, some (8, 8)), (236, 236, some (9, 9)), (236, 236, some (12, 12))] h h := FR.refl
  have tb_1 : h 236 3 = tn := xq0.2.1
  have tb_2 : 0 ≤ tn ∧ tn ≤ 800 := xq0.2.2
  have b1 := gi_b (lo := 0) (hi := 800) g 236 4 rfl
  have b2 := gi_b (lo := 0) (hi := 800) g 236 3 rfl
  have b3 := gi_b (lo := 0) (hi := 5) g 236 8 rfl
  have b4 := gi_b (lo := 0) (hi := 800) g 236 5 rfl
  have b5 := gi_b (lo := 0) (hi := 4) g 236 6 rfl
  have b6 := gi_b (lo := 0) (hi := 999) g 236 7 rfl
  have b7 := gi_b (lo := -9223372036854775808) (hi := 9223372036854775807) g 236 12 rfl
  refine wi_iload_n (i := 1) (e := a0) (nx := 1) (r1 := 0) (r2 := 0) (r3 := 0) rfl rfl ?_
  refine wi_if (cd := .eq) (nx := 4) (r1 := 9) (r2 := 0) (r3 := 0) rfl (by omega) (fun (q8 : a0 = 0) => ?_) (fun (q8 : ¬ (a0 = 0)) => ?_)
  ·
    refine wi_aload_n (i := 0) (x := 236) (nx := 10) (r1 := 0) (r2 := 0) (r3 := 0) rfl rfl ?_
    refine wr_V (k0 := 236) (rest := []) (as := [.ref 236]) (nx := 13) (r1 := 219) (r2 := 0) (r3 := 11) rfl rfl rfl (of_decide_eq_true rfl) rfl rfl (by decide) rfl rfl (of_decide_eq_true rfl) (of_decide_eq_true rfl) ?_
    refine wi_aload_n (i := 0) (x := 236) (nx := 1) (r1 := 0) (r2 := 0) (r3 := 0) rfl rfl ?_
    refine wr_gi0 (k0 := 236) (x := h 236 8) (nx := 4) (r1 := 11) (r2 := 8) (r3 := 0) rfl rfl (by decide) rfl ⟨rfl, rfl⟩ rfl rfl ?_
    refine wi_if (cd := .ne) (nx := 7) (r1 := 11) (r2 := 0) (r3 := 0) rfl (by omega) (fun (q9 : (h 236 8) ≠ 0) => ?_) (fun (q9 : ¬ ((h 236 8) ≠ 0)) => ?_)
    ·
      refine wi_iconst (n := 0) (nx := 12) (r1 := 0) (r2 := 0) (r3 := 0) rfl ?_
      refine wi_zreturn (nx := 13) (r1 := 0) (r2 := 0) (r3 := 0) rfl rfl (by omega) ?_
      refine wk_i ?_
      refine wi_if (cd := .eq) (nx := 16) (r1 := 20) (r2 := 0) (r3 := 0) rfl (by omega) (fun (q11 : 0 = 0) => ?_) (fun (q11 : ¬ (0 = 0)) => by exfalso; omega)
      refine wi_iconst (n := 1) (nx := 21) (r1 := 0) (r2 := 0) (r3 := 0) rfl ?_
      refine wi_zreturn (nx := 22) (r1 := 0) (r2 := 0) (r3 := 0) rfl rfl (by omega) ?_
      have b12 := gi_b (lo := -2147483648) (hi := 2147483647) g 236 9 rfl
      exact k h 1 g F0 (by omega) (show (1 ≤ (h 236 8) ∧ (h 236 8) = (h 236 8) ∧ (h 236 9) = (h 236 9)) ∨ ((h 236 8) = 0 ∧ a0 = 0 ∧ (h 236 8) = (h 236 8) ∧ (h 236 9) = (h 236 9) ∧ ((h 236 4) = tk_nx tB tn (tk_nx tB tn tp) ∧ (h 236 5) = tk_st tB tn (tk_nx tB tn tp) ∧ TKk tB tn (tk_nx tB tn tp) ((h 236 6)) ((h 236 7)) ((h 236 12)))) ∨ ((h 236 8) = 0 ∧ a0 = 1 ∧ (h 236 8) = 3 ∧ (h 236 9) = tk_st tB tn tp) from (Or.inl (by omega))) (show (h 236 4) ≤ (h 236 4) by omega) (show (h 236 4) ≤ (h 236 3) by omega) (show 1 ≤ (h 236 8) ∨ (h 236 8) = 0 by omega) (show 1 = 1 by omega)
    ·
      have kf10 := (pp4.resolve_left (by omega)).2.2
      refine wi_iconst (n := 1) (nx := 8) (r1 := 0) (r2 := 0) (r3 := 0) rfl ?_
      refine wi_goto (nx := 11) (r1 := 12) (r2 := 0) (r3 := 0) rfl ?_
      refine wi_zreturn (nx := 13) (r1 := 0) (r2 := 0) (r3 := 0) rfl rfl (by omega) ?_
      refine wk_i ?_
      refine wi_if (cd := .eq) (nx := 16) (r1 := 20) (r2 := 0) (r3 := 0) rfl (by omega) (fun (q11 : 1 = 0) => by exfalso; omega) (fun (q11 : ¬ (1 = 0)) => ?_)
      refine wi_aload_n (i := 0) (x := 236) (nx := 17) (r1 := 0) (r2 := 0) (r3 := 0) rfl rfl ?_
      refine wr_V (k0 := 236) (rest := []) (as := [.ref 236]) (nx := 20) (r1 := 215) (r2 := 0) (r3 := 11) rfl rfl rfl (of_decide_eq_true rfl) rfl rfl (by decide) rfl rfl (of_decide_eq_true rfl) (of_decide_eq_true rfl) ?_
      refine ct_215_236 hcr  g   (show (h 236 4) ≤ (h 236 3) by omega) (show (h 236 4) = (tk_nx tB tn tp) by omega) (show 0 ≤ (tk_nx tB tn tp) by omega) (show (tk_nx tB tn tp) ≤ tn by omega) xq0 (fun h12 g12 u12 (p12_0 : (h 236 4) ≤ (h12 236 4)) (p12_1 : (h12 236 4) ≤ (h 236 3)) (p12_2 : ((h12 236 4) = tk_nx tB tn (tk_nx tB tn tp) ∧ (h12 236 5) = tk_st tB tn (tk_nx tB tn tp) ∧ TKk tB tn (tk_nx tB tn tp) ((h12 236 6)) ((h12 236 7)) ((h12 236 12)))) (p12_3 : (tk_nx tB tn tp) ≤ tk_nx tB tn (tk_nx tB tn tp) ∧ tk_nx tB tn (tk_nx tB tn tp) ≤ tn) => ?_)
      have F13 := F0.then (by decide +kernel) u12
      have b14 := gi_b (lo := 0) (hi := 800) g12 236 4 rfl
      have b15 := gi_b (lo := 0) (hi := 800) g12 236 5 rfl
      have b16 := gi_b (lo := 0) (hi := 4) g12 236 6 rfl
      have b17 := gi_b (lo := 0) (hi := 999) g12 236 7 rfl
      have b18 := gi_b (lo := -9223372036854775808) (hi := 9223372036854775807) g12 236 12 rfl
      have tkk19 := p12_2.2.2
      have tN20 := @tk_nx_b tB tn (tk_nx tB tn tp) (by omega) (by omega)
      refine wk_n ?_
      refine wi_iconst (n := 1) (nx := 21) (r1 := 0) (r2 := 0) (r3 := 0) rfl ?_
      refine wi_zreturn (nx := 22) (r1 := 0) (r2 := 0) (r3 := 0) rfl rfl (by omega) ?_
      have e21 : h12 236 8 = h 236 8 := (u12 236 8 rfl)
      have b22 := gi_b (lo := -2147483648) (hi := 2147483647) g 236 9 rfl
      have e23 : h12 236 9 = h 236 9 := (u12 236 9 rfl)
      exact k h12 1 g12 F13 (by omega) (show (1 ≤ (h 236 8) ∧ (h12 236 8) = (h 236 8) ∧ (h12 236 9) = (h 236 9)) ∨ ((h 236 8) = 0 ∧ a0 = 0 ∧ (h12 236 8) = (h 236 8) ∧ (h12 236 9) = (h 236 9) ∧ ((h12 236 4) = tk_nx tB tn (tk_nx tB tn tp) ∧ (h12 236 5) = tk_st tB tn (tk_nx tB tn tp) ∧ TKk tB tn (tk_nx tB tn tp) ((h12 236 6)) ((h12 236 7)) ((h12 236 12)))) ∨ ((h 236 8) = 0 ∧ a0 = 1 ∧ (h12 236 8) = 3 ∧ (h12 236 9) = tk_st tB tn tp) from (Or.inr (Or.inl ⟨(by omega), (by omega), (by omega), (by omega), (show ((h12 236 4) = tk_nx tB tn (tk_nx tB tn tp) ∧ (h12 236 5) = tk_st tB tn (tk_nx tB tn tp) ∧ TKk tB tn (tk_nx tB tn tp) ((h12 236 6)) ((h12 236 7)) ((h12 236 12))) by first | assumption | exact ⟨by omega, by omega, TKk.mv (by assumption) (by omega) (by omega) (by omega)⟩)⟩))) (show (h 236 4) ≤ (h12 236 4) by omega) (show (h12 236 4) ≤ (h 236 3) by omega) (show 1 ≤ (h12 236 8) ∨ (h 236 8) = 0 by omega) (show 1 = 1 by omega)
  ·
    refine wi_aload_n (i := 0) (x := 236) (nx := 5) (r1 := 0) (r2 := 0) (r3 := 0) rfl rfl ?_
    have oh9 : 1 ≤ h 236 8 ∨ (h 236 5 = tk_st tB tn tp ∧ h 236 6 ≠ 4) := pp4.imp id (fun x => ⟨x.2.1, fun e => by have x_ := TKk.e4 x.2.2 e; omega⟩)
    refine wi_iconst (n := 3) (nx := 6) (r1 := 0) (r2 := 0) (r3 := 0) rfl ?_
    refine wr_V (k0 := 236) (rest := []) (as := [.ref 236, vi 3]) (nx := 9) (r1 := 224) (r2 := 1) (r3 := 11) rfl rfl rfl (of_decide_eq_true rfl) rfl rfl (by decide) rfl rfl (of_decide_eq_true rfl) (of_decide_eq_true rfl) ?_
    refine ct_224_236 hcr  g 3 (by omega)  (fun h10 g10 u10 (p10_0 : 1 ≤ (h10 236 8)) (p10_1 : (1 ≤ (h 236 8) ∧ (h10 236 8) = (h 236 8) ∧ (h10 236 9) = (h 236 9)) ∨ ((h 236 8) = 0 ∧ (h10 236 9) = (h 236 5) ∧ (((h 236 6) = 4 ∧ (h10 236 8) = 1) ∨ ((h 236 6) ≠ 4 ∧ (h10 236 8) = 3)))) => ?_)
    have F11 := F0.then (by decide +kernel) u10
    have b12 := gi_b (lo := 0) (hi := 5) g10 236 8 rfl
    have b13 := gi_b (lo := -2147483648) (hi := 2147483647) g 236 9 rfl
    have b14 := gi_b (lo := -2147483648) (hi := 2147483647) g10 236 9 rfl
    refine wk_n ?_
    refine wi_aload_n (i := 0) (x := 236) (nx := 10) (r1 := 0) (r2 := 0) (r3 := 0) rfl rfl ?_
    refine wr_V (k0 := 236) (rest := []) (as := [.ref 236]) (nx := 13) (r1 := 219) (r2 := 0) (r3 := 11) rfl rfl rfl (of_decide_eq_true rfl) rfl rfl (by decide) rfl rfl (of_decide_eq_true rfl) (of_decide_eq_true rfl) ?_
    refine wi_aload_n (i := 0) (x := 236) (nx := 1) (r1 := 0) (r2 := 0) (r3 := 0) rfl rfl ?_
    refine wr_gi0 (k0 := 236) (x := h10 236 8) (nx := 4) (r1 := 11) (r2 := 8) (r3 := 0) rfl rfl (by decide) rfl ⟨rfl, rfl⟩ rfl rfl ?_
    refine wi_if (cd := .ne) (nx := 7) (r1 := 11) (r2 := 0) (r3 := 0) rfl (by omega) (fun (q15 : (h10 236 8) ≠ 0) => ?_) (fun (q15 : ¬ ((h10 236 8) ≠ 0)) => by exfalso; omega)
    refine wi_iconst (n := 0) (nx := 12) (r1 := 0) (r2 := 0) (r3 := 0) rfl ?_
    refine wi_zreturn (nx := 13) (r1 := 0) (r2 := 0) (r3 := 0) rfl rfl (by omega) ?_
    refine wk_i ?_
    refine wi_if (cd := .eq) (nx := 16) (r1 := 20) (r2 := 0) (r3 := 0) rfl (by omega) (fun (q17 : 0 = 0) => ?_) (fun (q17 : ¬ (0 = 0)) => by exfalso; omega)
    refine wi_iconst (n := 1) (nx := 21) (r1 := 0) (r2 := 0) (r3 := 0) rfl ?_
    refine wi_zreturn (nx := 22) (r1 := 0) (r2 := 0) (r3 := 0) rfl rfl (by omega) ?_
    have e18 : h10 236 4 = h 236 4 := (u10 236 4 rfl)
    have e19 : h10 236 5 = h 236 5 := (u10 236 5 rfl)
    have e20 : h10 236 6 = h 236 6 := (u10 236 6 rfl)
    have e21 : h10 236 7 = h 236 7 := (u10 236 7 rfl)
    have e22 : h10 236 12 = h 236 12 := (u10 236 12 rfl)
    exact k h10 1 g10 F11 (by omega) (show (1 ≤ (h 236 8) ∧ (h10 236 8) = (h 236 8) ∧ (h10 236 9) = (h 236 9)) ∨ ((h 236 8) = 0 ∧ a0 = 0 ∧ (h10 236 8) = (h 236 8) ∧ (h10 236 9) = (h 236 9) ∧ ((h10 236 4) = tk_nx tB tn (tk_nx tB tn tp) ∧ (h10 236 5) = tk_st tB tn (tk_nx tB tn tp) ∧ TKk tB tn (tk_nx tB tn tp) ((h10 236 6)) ((h10 236 7)) ((h10 236 12)))) ∨ ((h 236 8) = 0 ∧ a0 = 1 ∧ (h10 236 8) = 3 ∧ (h10 236 9) = tk_st tB tn tp) from (fun x => x.elim (fun x => (Or.inl x)) (fun x => (Or.inr (Or.inr x)))) (show (1 ≤ (h 236 8) ∧ (h10 236 8) = (h 236 8) ∧ (h10 236 9) = (h 236 9)) ∨ ((h 236 8) = 0 ∧ a0 = 1 ∧ (h10 236 8) = 3 ∧ (h10 236 9) = tk_st tB tn tp) by omega)) (show (h 236 4) ≤ (h10 236 4) by omega) (show (h10 236 4) ≤ (h 236 3) by omega) (show 1 ≤ (h10 236 8) ∨ (h 236 8) = 0 by omega) (show 1 = 1 by omega)
-- method 231: Model.number(II)I
set_option maxRecDepth 100000 in
set_option maxHeartbeats 100000000 in
theorem ct_231_236 {L : Nat} {xs : Nat → Int32} {d b c : Nat} {h : hp} {cr : Nat → Nat → Option Nat} {Q : hp_Q} (hcr : CR cr)  {tB : Nat → Int} {tn tp : Int} (g : GI h) (a0 : Int) (a1 : Int) (q0_ : -2147483648 ≤ a0 ∧ a0 ≤ 2147483647) (q1_ : -2147483648 ≤ a1 ∧ a1 ≤ 2147483647) (pp0 : h 236 4 ≤ h 236 3) (pp1 : 0 ≤ tp) (pp2 : tp ≤ tn) (pp3 : tp ≤ tk_nx tB tn tp ∧ tk_nx tB tn tp ≤ tn) (pp4 : 1 ≤ h 236 8 ∨ (h 236 4 = tk_nx tB tn tp ∧ h 236 5 = tk_st tB tn tp ∧ TKk tB tn tp (h 236 6) (h 236 7) (h 236 12))) (xq0 : RefB tB tn h) (k : ∀ (h2 : hp) (z0 : Int) , GI h2 → FR [(236, 236, some (4, 4)), (236, 236, some (5, 5)), (236, 236, some (6, 6)), (236, 236, some (7, 7)), (236, 236, some (8, 8)), (236, 236, some (9, 9)), (236, 236, some (12, 12))] h h2 → (0 ≤ z0 ∧ z0 ≤ 999) → ((1 ≤ h 236 8 ∧ h2 236 8 = h 236 8 ∧ h2 236 9 = h 236 9) ∨ (h 236 8 = 0 ∧ tk_kd tB tn tp = 2 ∧ a0 ≤ tk_nb tB tn tp ∧ tk_nb tB tn tp ≤ a1 ∧ z0 = tk_nb tB tn tp ∧ h2 236 8 = h 236 8 ∧ h2 236 9 = h 236 9 ∧ (h2 236 4 = tk_nx tB tn (tk_nx tB tn tp) ∧ h2 236 5 = tk_st tB tn (tk_nx tB tn tp) ∧ TKk tB tn (tk_nx tB tn tp) (h2 236 6) (h2 236 7) (h2 236 12))) ∨ (h 236 8 = 0 ∧ tk_kd tB tn tp ≠ 2 ∧ h2 236 8 = 1 ∧ h2 236 9 = tk_st tB tn tp) ∨ (h 236 8 = 0 ∧ tk_kd tB tn tp = 2 ∧ (tk_nb tB tn tp < a0 ∨ a1 < tk_nb tB tn tp) ∧ h2 236 8 = 2 ∧ h2 236 9 = tk_st tB tn tp)) → (h 236 4 ≤ h2 236 4) → (h2 236 4 ≤ h 236 3) → (1 ≤ h2 236 8 ∨ h 236 8 = 0) → (1 ≤ h2 236 8 ∨ (a0 ≤ z0 ∧ z0 ≤ a1)) → (1 ≤ h2 236 8 ∨ h 236 6 = 2) → Q (.inl (some (vi z0))) (hp_w h2 cr) b c) : wp (md_xa (L, xs)) (d + 2) 231 (0, [(0, .ref 236), (1, vi a0), (2, vi a1)], [], hp_w h cr, b, c) Q := by
  have F0 : FR [(236, 236, some (4, 4)), (236, 236, some (5, 5)), (236, 236, some (6, 6)), (236, 236, some (7, 7)), (236, 236, some (8, 8)), (236, 236, some (9, 9)), (236, 236, some (12, 12))] h h := FR.refl
  have tb_1 : h 236 3 = tn := xq0.2.1
  have tb_2 : 0 ≤ tn ∧ tn ≤ 800 := xq0.2.2
  have b1 := gi_b (lo := 0) (hi := 800) g 236 4 rfl
  have b2 := gi_b (lo := 0) (hi := 800) g 236 3 rfl
  have b3 := gi_b (lo := 0) (hi := 5) g 236 8 rfl
  have b4 := gi_b (lo := 0) (hi := 800) g 236 5 rfl
  have b5 := gi_b (lo := 0) (hi := 4) g 236 6 rfl
  have b6 := gi_b (lo := 0) (hi := 999) g 236 7 rfl
  have b7 := gi_b (lo := -9223372036854775808) (hi := 9223372036854775807) g 236 12 rfl
  refine wi_aload_n (i := 0) (x := 236) (nx := 1) (r1 := 0) (r2 := 0) (r3 := 0) rfl rfl ?_
  refine wr_V (k0 := 236) (rest := []) (as := [.ref 236]) (nx := 4) (r1 := 219) (r2 := 0) (r3 := 11) rfl rfl rfl (of_decide_eq_true rfl) rfl rfl (by decide) rfl rfl (of_decide_eq_true rfl) (of_decide_eq_true rfl) ?_
  refine wi_aload_n (i := 0) (x := 236) (nx := 1) (r1 := 0) (r2 := 0) (r3 := 0) rfl rfl ?_
  refine wr_gi0 (k0 := 236) (x := h 236 8) (nx := 4) (r1 := 11) (r2 := 8) (r3 := 0) rfl rfl (by decide) rfl ⟨rfl, rfl⟩ rfl rfl ?_
  refine wi_if (cd := .ne) (nx := 7) (r1 := 11) (r2 := 0) (r3 := 0) rfl (by omega) (fun (q8 : (h 236 8) ≠ 0) => ?_) (fun (q8 : ¬ ((h 236 8) ≠ 0)) => ?_)
  ·
    refine wi_iconst (n := 0) (nx := 12) (r1 := 0) (r2 := 0) (r3 := 0) rfl ?_
    refine wi_zreturn (nx := 13) (r1 := 0) (r2 := 0) (r3 := 0) rfl rfl (by omega) ?_
    refine wk_i ?_
    refine wi_if (cd := .eq) (nx := 7) (r1 := 20) (r2 := 0) (r3 := 0) rfl (by omega) (fun (q10 : 0 = 0) => ?_) (fun (q10 : ¬ (0 = 0)) => by exfalso; omega)
    refine wi_aload_n (i := 0) (x := 236) (nx := 21) (r1 := 0) (r2 := 0) (r3 := 0) rfl rfl ?_
    refine wr_gi0 (k0 := 236) (x := h 236 7) (nx := 24) (r1 := 11) (r2 := 7) (r3 := 0) rfl rfl (by decide) rfl ⟨rfl, rfl⟩ rfl rfl ?_
    refine wi_istore_n (i := 3) (e := h 236 7) (lo2 := [(3, vi (h 236 7)), (0, .ref 236), (1, vi a0), (2, vi a1)]) (nx := 25) (r1 := 0) (r2 := 0) (r3 := 0) rfl rfl ?_
    refine wi_aload_n (i := 0) (x := 236) (nx := 26) (r1 := 0) (r2 := 0) (r3 := 0) rfl rfl ?_
    refine wr_V (k0 := 236) (rest := []) (as := [.ref 236]) (nx := 29) (r1 := 219) (r2 := 0) (r3 := 11) rfl rfl rfl (of_decide_eq_true rfl) rfl rfl (by decide) rfl rfl (of_decide_eq_true rfl) (of_decide_eq_true rfl) ?_
    refine wi_aload_n (i := 0) (x := 236) (nx := 1) (r1 := 0) (r2 := 0) (r3 := 0) rfl rfl ?_
    refine wr_gi0 (k0 := 236) (x := h 236 8) (nx := 4) (r1 := 11) (r2 := 8) (r3 := 0) rfl rfl (by decide) rfl ⟨rfl, rfl⟩ rfl rfl ?_
    refine wi_if (cd := .ne) (nx := 7) (r1 := 11) (r2 := 0) (r3 := 0) rfl (by omega) (fun (q11 : (h 236 8) ≠ 0) => ?_) (fun (q11 : ¬ ((h 236 8) ≠ 0)) => by exfalso; omega)
    refine wi_iconst (n := 0) (nx := 12) (r1 := 0) (r2 := 0) (r3 := 0) rfl ?_
    refine wi_zreturn (nx := 13) (r1 := 0) (r2 := 0) (r3 := 0) rfl rfl (by omega) ?_
    refine wk_i ?_
    refine wi_if (cd := .eq) (nx := 32) (r1 := 49) (r2 := 0) (r3 := 0) rfl (by omega) (fun (q13 : 0 = 0) => ?_) (fun (q13 : ¬ (0 = 0)) => by exfalso; omega)
    refine wi_aload_n (i := 0) (x := 236) (nx := 50) (r1 := 0) (r2 := 0) (r3 := 0) rfl rfl ?_
    refine wr_V (k0 := 236) (rest := []) (as := [.ref 236]) (nx := 53) (r1 := 219) (r2 := 0) (r3 := 11) rfl rfl rfl (of_decide_eq_true rfl) rfl rfl (by decide) rfl rfl (of_decide_eq_true rfl) (of_decide_eq_true rfl) ?_
    refine wi_aload_n (i := 0) (x := 236) (nx := 1) (r1 := 0) (r2 := 0) (r3 := 0) rfl rfl ?_
    refine wr_gi0 (k0 := 236) (x := h 236 8) (nx := 4) (r1 := 11) (r2 := 8) (r3 := 0) rfl rfl (by decide) rfl ⟨rfl, rfl⟩ rfl rfl ?_
    refine wi_if (cd := .ne) (nx := 7) (r1 := 11) (r2 := 0) (r3 := 0) rfl (by omega) (fun (q14 : (h 236 8) ≠ 0) => ?_) (fun (q14 : ¬ ((h 236 8) ≠ 0)) => by exfalso; omega)
    refine wi_iconst (n := 0) (nx := 12) (r1 := 0) (r2 := 0) (r3 := 0) rfl ?_
    refine wi_zreturn (nx := 13) (r1 := 0) (r2 := 0) (r3 := 0) rfl rfl (by omega) ?_
    refine wk_i ?_
    refine wi_if (cd := .eq) (nx := 56) (r1 := 60) (r2 := 0) (r3 := 0) rfl (by omega) (fun (q16 : 0 = 0) => ?_) (fun (q16 : ¬ (0 = 0)) => by exfalso; omega)
    refine wi_iload_n (i := 3) (e := h 236 7) (nx := 61) (r1 := 0) (r2 := 0) (r3 := 0) rfl rfl ?_
    refine wi_ireturn (nx := 62) (r1 := 0) (r2 := 0) (r3 := 0) rfl rfl ?_
    have b17 := gi_b (lo := -2147483648) (hi := 2147483647) g 236 9 rfl
    exact k h (h 236 7) g F0 (by omega) (show (1 ≤ (h 236 8) ∧ (h 236 8) = (h 236 8) ∧ (h 236 9) = (h 236 9)) ∨ ((h 236 8) = 0 ∧ tk_kd tB tn tp = 2 ∧ a0 ≤ tk_nb tB tn tp ∧ tk_nb tB tn tp ≤ a1 ∧ (h 236 7) = tk_nb tB tn tp ∧ (h 236 8) = (h 236 8) ∧ (h 236 9) = (h 236 9) ∧ ((h 236 4) = tk_nx tB tn (tk_nx tB tn tp) ∧ (h 236 5) = tk_st tB tn (tk_nx tB tn tp) ∧ TKk tB tn (tk_nx tB tn tp) ((h 236 6)) ((h 236 7)) ((h 236 12)))) ∨ ((h 236 8) = 0 ∧ tk_kd tB tn tp ≠ 2 ∧ (h 236 8) = 1 ∧ (h 236 9) = tk_st tB tn tp) ∨ ((h 236 8) = 0 ∧ tk_kd tB tn tp = 2 ∧ (tk_nb tB tn tp < a0 ∨ a1 < tk_nb tB tn tp) ∧ (h 236 8) = 2 ∧ (h 236 9) = tk_st tB tn tp) from (Or.inl (by omega))) (show (h 236 4) ≤ (h 236 4) by omega) (show (h 236 4) ≤ (h 236 3) by omega) (show 1 ≤ (h 236 8) ∨ (h 236 8) = 0 by omega) (show 1 ≤ (h 236 8) ∨ (a0 ≤ (h 236 7) ∧ (h 236 7) ≤ a1) by omega) (show 1 ≤ (h 236 8) ∨ (h 236 6) = 2 by omega)
  ·
    have kf9 := (pp4.resolve_left (by omega)).2.2
    refine wi_iconst (n := 1) (nx := 8) (r1 := 0) (r2 := 0) (r3 := 0) rfl ?_
    refine wi_goto (nx := 11) (r1 := 12) (r2 := 0) (r3 := 0) rfl ?_
    refine wi_zreturn (nx := 13) (r1 := 0) (r2 := 0) (r3 := 0) rfl rfl (by omega) ?_
    refine wk_i ?_
    refine wi_if (cd := .eq) (nx := 7) (r1 := 20) (r2 := 0) (r3 := 0) rfl (by omega) (fun (q10 : 1 = 0) => by exfalso; omega) (fun (q10 : ¬ (1 = 0)) => ?_)
    refine wi_aload_n (i := 0) (x := 236) (nx := 8) (r1 := 0) (r2 := 0) (r3 := 0) rfl rfl ?_
    refine wr_gi0 (k0 := 236) (x := h 236 6) (nx := 11) (r1 := 11) (r2 := 6) (r3 := 0) rfl rfl (by decide) rfl ⟨rfl, rfl⟩ rfl rfl ?_
    refine wi_iconst (n := 2) (nx := 12) (r1 := 0) (r2 := 0) (r3 := 0) rfl ?_
    refine wi_icmp (cd := .eq) (nx := 15) (r1 := 20) (r2 := 0) (r3 := 0) rfl (by omega) (by omega) (fun (q11 : (h 236 6) = 2) => ?_) (fun (q11 : ¬ ((h 236 6) = 2)) => ?_)
    ·
      try have kf12 := TKk.e2 (B := tB) (n := tn) (p := tp) (a6 := h 236 6) (by assumption) (by omega)
      refine wi_aload_n (i := 0) (x := 236) (nx := 21) (r1 := 0) (r2 := 0) (r3 := 0) rfl rfl ?_
      refine wr_gi0 (k0 := 236) (x := h 236 7) (nx := 24) (r1 := 11) (r2 := 7) (r3 := 0) rfl rfl (by decide) rfl ⟨rfl, rfl⟩ rfl rfl ?_
      refine wi_istore_n (i := 3) (e := h 236 7) (lo2 := [(3, vi (h 236 7)), (0, .ref 236), (1, vi a0), (2, vi a1)]) (nx := 25) (r1 := 0) (r2 := 0) (r3 := 0) rfl rfl ?_
      refine wi_aload_n (i := 0) (x := 236) (nx := 26) (r1 := 0) (r2 := 0) (r3 := 0) rfl rfl ?_
      refine wr_V (k0 := 236) (rest := []) (as := [.ref 236]) (nx := 29) (r1 := 219) (r2 := 0) (r3 := 11) rfl rfl rfl (of_decide_eq_true rfl) rfl rfl (by decide) rfl rfl (of_decide_eq_true rfl) (of_decide_eq_true rfl) ?_
      refine wi_aload_n (i := 0) (x := 236) (nx := 1) (r1 := 0) (r2 := 0) (r3 := 0) rfl rfl ?_
      refine wr_gi0 (k0 := 236) (x := h 236 8) (nx := 4) (r1 := 11) (r2 := 8) (r3 := 0) rfl rfl (by decide) rfl ⟨rfl, rfl⟩ rfl rfl ?_
      refine wi_if (cd := .ne) (nx := 7) (r1 := 11) (r2 := 0) (r3 := 0) rfl (by omega) (fun (q13 : (h 236 8) ≠ 0) => by exfalso; omega) (fun (q13 : ¬ ((h 236 8) ≠ 0)) => ?_)
      have kf14 := (pp4.resolve_left (by omega)).2.2
      refine wi_iconst (n := 1) (nx := 8) (r1 := 0) (r2 := 0) (r3 := 0) rfl ?_
      refine wi_goto (nx := 11) (r1 := 12) (r2 := 0) (r3 := 0) rfl ?_
      refine wi_zreturn (nx := 13) (r1 := 0) (r2 := 0) (r3 := 0) rfl rfl (by omega) ?_
      refine wk_i ?_
      refine wi_if (cd := .eq) (nx := 32) (r1 := 49) (r2 := 0) (r3 := 0) rfl (by omega) (fun (q15 : 1 = 0) => by exfalso; omega) (fun (q15 : ¬ (1 = 0)) => ?_)
      refine wi_iload_n (i := 3) (e := h 236 7) (nx := 33) (r1 := 0) (r2 := 0) (r3 := 0) rfl rfl ?_
      refine wi_i2l (nx := 34) (r1 := 0) (r2 := 0) (r3 := 0) rfl (by omega) ?_
      refine wi_iload_n (i := 1) (e := a0) (nx := 35) (r1 := 0) (r2 := 0) (r3 := 0) rfl rfl ?_
      refine wi_i2l (nx := 36) (r1 := 0) (r2 := 0) (r3 := 0) rfl (by omega) ?_
      refine wi_iload_n (i := 2) (e := a1) (nx := 37) (r1 := 0) (r2 := 0) (r3 := 0) rfl rfl ?_
      refine wi_i2l (nx := 38) (r1 := 0) (r2 := 0) (r3 := 0) rfl (by omega) ?_
      refine wi_S (rest := []) (as := [vl (h 236 7), vl a0, vl a1]) (nx := 41) (r1 := 210) (r2 := 19) (r3 := 0) rfl rfl rfl (of_decide_eq_true rfl) rfl rfl (of_decide_eq_true rfl) (of_decide_eq_true rfl) ?_
      refine wi_lload_n (i := 0) (e := h 236 7) (nx := 1) (r1 := 0) (r2 := 0) (r3 := 0) rfl rfl ?_
      refine wi_lload_n (i := 2) (e := a0) (nx := 2) (r1 := 0) (r2 := 0) (r3 := 0) rfl rfl ?_
      refine wi_lcmp (a := h 236 7) (e := a0) (nx := 3) (r1 := 0) (r2 := 0) (r3 := 0) rfl (by omega) (by omega) (fun r16 (fr16 : (r16 = -1 ∧ (h 236 7) < a0) ∨ (r16 = 0 ∧ (h 236 7) = a0) ∨ (r16 = 1 ∧ a0 < (h 236 7))) => ?_)
      refine wi_if (cd := .lt) (nx := 6) (r1 := 17) (r2 := 0) (r3 := 0) rfl (by omega) (fun (q17 : r16 < 0) => ?_) (fun (q17 : ¬ (r16 < 0)) => ?_)
      ·
        refine wi_iconst (n := 0) (nx := 18) (r1 := 0) (r2 := 0) (r3 := 0) rfl ?_
        refine wi_zreturn (nx := 19) (r1 := 0) (r2 := 0) (r3 := 0) rfl rfl (by omega) ?_
        refine wk_i ?_
        refine wi_if (cd := .ne) (nx := 44) (r1 := 49) (r2 := 0) (r3 := 0) rfl (by omega) (fun (q18 : 0 ≠ 0) => by exfalso; omega) (fun (q18 : ¬ (0 ≠ 0)) => ?_)
        refine wi_aload_n (i := 0) (x := 236) (nx := 45) (r1 := 0) (r2 := 0) (r3 := 0) rfl rfl ?_
        refine wi_iconst (n := 2) (nx := 46) (r1 := 0) (r2 := 0) (r3 := 0) rfl ?_
        refine wr_V (k0 := 236) (rest := []) (as := [.ref 236, vi 2]) (nx := 49) (r1 := 224) (r2 := 1) (r3 := 11) rfl rfl rfl (of_decide_eq_true rfl) rfl rfl (by decide) rfl rfl (of_decide_eq_true rfl) (of_decide_eq_true rfl) ?_
        refine ct_224_236 hcr  g 2 (by omega)  (fun h19 g19 u19 (p19_0 : 1 ≤ (h19 236 8)) (p19_1 : (1 ≤ (h 236 8) ∧ (h19 236 8) = (h 236 8) ∧ (h19 236 9) = (h 236 9)) ∨ ((h 236 8) = 0 ∧ (h19 236 9) = (h 236 5) ∧ (((h 236 6) = 4 ∧ (h19 236 8) = 1) ∨ ((h 236 6) ≠ 4 ∧ (h19 236 8) = 2)))) => ?_)
        have F20 := F0.then (by decide +kernel) u19
        have b21 := gi_b (lo := 0) (hi := 5) g19 236 8 rfl
        have b22 := gi_b (lo := -2147483648) (hi := 2147483647) g 236 9 rfl
        have b23 := gi_b (lo := -2147483648) (hi := 2147483647) g19 236 9 rfl
        refine wk_n ?_
        refine wi_aload_n (i := 0) (x := 236) (nx := 50) (r1 := 0) (r2 := 0) (r3 := 0) rfl rfl ?_
        refine wr_V (k0 := 236) (rest := []) (as := [.ref 236]) (nx := 53) (r1 := 219) (r2 := 0) (r3 := 11) rfl rfl rfl (of_decide_eq_true rfl) rfl rfl (by decide) rfl rfl (of_decide_eq_true rfl) (of_decide_eq_true rfl) ?_
        refine wi_aload_n (i := 0) (x := 236) (nx := 1) (r1 := 0) (r2 := 0) (r3 := 0) rfl rfl ?_
        refine wr_gi0 (k0 := 236) (x := h19 236 8) (nx := 4) (r1 := 11) (r2 := 8) (r3 := 0) rfl rfl (by decide) rfl ⟨rfl, rfl⟩ rfl rfl ?_
        refine wi_if (cd := .ne) (nx := 7) (r1 := 11) (r2 := 0) (r3 := 0) rfl (by omega) (fun (q24 : (h19 236 8) ≠ 0) => ?_) (fun (q24 : ¬ ((h19 236 8) ≠ 0)) => by exfalso; omega)
        refine wi_iconst (n := 0) (nx := 12) (r1 := 0) (r2 := 0) (r3 := 0) rfl ?_
        refine wi_zreturn (nx := 13) (r1 := 0) (r2 := 0) (r3 := 0) rfl rfl (by omega) ?_
        refine wk_i ?_
        refine wi_if (cd := .eq) (nx := 56) (r1 := 60) (r2 := 0) (r3 := 0) rfl (by omega) (fun (q26 : 0 = 0) => ?_) (fun (q26 : ¬ (0 = 0)) => by exfalso; omega)
        refine wi_iload_n (i := 3) (e := h 236 7) (nx := 61) (r1 := 0) (r2 := 0) (r3 := 0) rfl rfl ?_
        refine wi_ireturn (nx := 62) (r1 := 0) (r2 := 0) (r3 := 0) rfl rfl ?_
        have e27 : h19 236 4 = h 236 4 := (u19 236 4 rfl)
        have e28 : h19 236 5 = h 236 5 := (u19 236 5 rfl)
        have e29 : h19 236 6 = h 236 6 := (u19 236 6 rfl)
        have e30 : h19 236 7 = h 236 7 := (u19 236 7 rfl)
        have e31 : h19 236 12 = h 236 12 := (u19 236 12 rfl)
        exact k h19 (h 236 7) g19 F20 (by omega) (show (1 ≤ (h 236 8) ∧ (h19 236 8) = (h 236 8) ∧ (h19 236 9) = (h 236 9)) ∨ ((h 236 8) = 0 ∧ tk_kd tB tn tp = 2 ∧ a0 ≤ tk_nb tB tn tp ∧ tk_nb tB tn tp ≤ a1 ∧ (h 236 7) = tk_nb tB tn tp ∧ (h19 236 8) = (h 236 8) ∧ (h19 236 9) = (h 236 9) ∧ ((h19 236 4) = tk_nx tB tn (tk_nx tB tn tp) ∧ (h19 236 5) = tk_st tB tn (tk_nx tB tn tp) ∧ TKk tB tn (tk_nx tB tn tp) ((h19 236 6)) ((h19 236 7)) ((h19 236 12)))) ∨ ((h 236 8) = 0 ∧ tk_kd tB tn tp ≠ 2 ∧ (h19 236 8) = 1 ∧ (h19 236 9) = tk_st tB tn tp) ∨ ((h 236 8) = 0 ∧ tk_kd tB tn tp = 2 ∧ (tk_nb tB tn tp < a0 ∨ a1 < tk_nb tB tn tp) ∧ (h19 236 8) = 2 ∧ (h19 236 9) = tk_st tB tn tp) from (Or.inr (Or.inr (Or.inr (by omega))))) (show (h 236 4) ≤ (h19 236 4) by omega) (show (h19 236 4) ≤ (h 236 3) by omega) (show 1 ≤ (h19 236 8) ∨ (h 236 8) = 0 by omega) (show 1 ≤ (h19 236 8) ∨ (a0 ≤ (h 236 7) ∧ (h 236 7) ≤ a1) by omega) (show 1 ≤ (h19 236 8) ∨ (h 236 6) = 2 by omega)
      ·
        refine wi_lload_n (i := 0) (e := h 236 7) (nx := 7) (r1 := 0) (r2 := 0) (r3 := 0) rfl rfl ?_
        refine wi_lload (i := 4) (e := a1) (nx := 9) (r1 := 0) (r2 := 0) (r3 := 0) rfl rfl ?_
        refine wi_lcmp (a := h 236 7) (e := a1) (nx := 10) (r1 := 0) (r2 := 0) (r3 := 0) rfl (by omega) (by omega) (fun r18 (fr18 : (r18 = -1 ∧ (h 236 7) < a1) ∨ (r18 = 0 ∧ (h 236 7) = a1) ∨ (r18 = 1 ∧ a1 < (h 236 7))) => ?_)
        refine wi_if (cd := .gt) (nx := 13) (r1 := 17) (r2 := 0) (r3 := 0) rfl (by omega) (fun (q19 : 0 < r18) => ?_) (fun (q19 : ¬ (0 < r18)) => ?_)
        ·
          refine wi_iconst (n := 0) (nx := 18) (r1 := 0) (r2 := 0) (r3 := 0) rfl ?_
          refine wi_zreturn (nx := 19) (r1 := 0) (r2 := 0) (r3 := 0) rfl rfl (by omega) ?_
          refine wk_i ?_
          refine wi_if (cd := .ne) (nx := 44) (r1 := 49) (r2 := 0) (r3 := 0) rfl (by omega) (fun (q20 : 0 ≠ 0) => by exfalso; omega) (fun (q20 : ¬ (0 ≠ 0)) => ?_)
          refine wi_aload_n (i := 0) (x := 236) (nx := 45) (r1 := 0) (r2 := 0) (r3 := 0) rfl rfl ?_
          refine wi_iconst (n := 2) (nx := 46) (r1 := 0) (r2 := 0) (r3 := 0) rfl ?_
          refine wr_V (k0 := 236) (rest := []) (as := [.ref 236, vi 2]) (nx := 49) (r1 := 224) (r2 := 1) (r3 := 11) rfl rfl rfl (of_decide_eq_true rfl) rfl rfl (by decide) rfl rfl (of_decide_eq_true rfl) (of_decide_eq_true rfl) ?_
          refine ct_224_236 hcr  g 2 (by omega)  (fun h21 g21 u21 (p21_0 : 1 ≤ (h21 236 8)) (p21_1 : (1 ≤ (h 236 8) ∧ (h21 236 8) = (h 236 8) ∧ (h21 236 9) = (h 236 9)) ∨ ((h 236 8) = 0 ∧ (h21 236 9) = (h 236 5) ∧ (((h 236 6) = 4 ∧ (h21 236 8) = 1) ∨ ((h 236 6) ≠ 4 ∧ (h21 236 8) = 2)))) => ?_)
          have F22 := F0.then (by decide +kernel) u21
          have b23 := gi_b (lo := 0) (hi := 5) g21 236 8 rfl
          have b24 := gi_b (lo := -2147483648) (hi := 2147483647) g 236 9 rfl
          have b25 := gi_b (lo := -2147483648) (hi := 2147483647) g21 236 9 rfl
          refine wk_n ?_
          refine wi_aload_n (i := 0) (x := 236) (nx := 50) (r1 := 0) (r2 := 0) (r3 := 0) rfl rfl ?_
          refine wr_V (k0 := 236) (rest := []) (as := [.ref 236]) (nx := 53) (r1 := 219) (r2 := 0) (r3 := 11) rfl rfl rfl (of_decide_eq_true rfl) rfl rfl (by decide) rfl rfl (of_decide_eq_true rfl) (of_decide_eq_true rfl) ?_
          refine wi_aload_n (i := 0) (x := 236) (nx := 1) (r1 := 0) (r2 := 0) (r3 := 0) rfl rfl ?_
          refine wr_gi0 (k0 := 236) (x := h21 236 8) (nx := 4) (r1 := 11) (r2 := 8) (r3 := 0) rfl rfl (by decide) rfl ⟨rfl, rfl⟩ rfl rfl ?_
          refine wi_if (cd := .ne) (nx := 7) (r1 := 11) (r2 := 0) (r3 := 0) rfl (by omega) (fun (q26 : (h21 236 8) ≠ 0) => ?_) (fun (q26 : ¬ ((h21 236 8) ≠ 0)) => by exfalso; omega)
          refine wi_iconst (n := 0) (nx := 12) (r1 := 0) (r2 := 0) (r3 := 0) rfl ?_
          refine wi_zreturn (nx := 13) (r1 := 0) (r2 := 0) (r3 := 0) rfl rfl (by omega) ?_
          refine wk_i ?_
          refine wi_if (cd := .eq) (nx := 56) (r1 := 60) (r2 := 0) (r3 := 0) rfl (by omega) (fun (q28 : 0 = 0) => ?_) (fun (q28 : ¬ (0 = 0)) => by exfalso; omega)
          refine wi_iload_n (i := 3) (e := h 236 7) (nx := 61) (r1 := 0) (r2 := 0) (r3 := 0) rfl rfl ?_
          refine wi_ireturn (nx := 62) (r1 := 0) (r2 := 0) (r3 := 0) rfl rfl ?_
          have e29 : h21 236 4 = h 236 4 := (u21 236 4 rfl)
          have e30 : h21 236 5 = h 236 5 := (u21 236 5 rfl)
          have e31 : h21 236 6 = h 236 6 := (u21 236 6 rfl)
          have e32 : h21 236 7 = h 236 7 := (u21 236 7 rfl)
          have e33 : h21 236 12 = h 236 12 := (u21 236 12 rfl)
          exact k h21 (h 236 7) g21 F22 (by omega) (show (1 ≤ (h 236 8) ∧ (h21 236 8) = (h 236 8) ∧ (h21 236 9) = (h 236 9)) ∨ ((h 236 8) = 0 ∧ tk_kd tB tn tp = 2 ∧ a0 ≤ tk_nb tB tn tp ∧ tk_nb tB tn tp ≤ a1 ∧ (h 236 7) = tk_nb tB tn tp ∧ (h21 236 8) = (h 236 8) ∧ (h21 236 9) = (h 236 9) ∧ ((h21 236 4) = tk_nx tB tn (tk_nx tB tn tp) ∧ (h21 236 5) = tk_st tB tn (tk_nx tB tn tp) ∧ TKk tB tn (tk_nx tB tn tp) ((h21 236 6)) ((h21 236 7)) ((h21 236 12)))) ∨ ((h 236 8) = 0 ∧ tk_kd tB tn tp ≠ 2 ∧ (h21 236 8) = 1 ∧ (h21 236 9) = tk_st tB tn tp) ∨ ((h 236 8) = 0 ∧ tk_kd tB tn tp = 2 ∧ (tk_nb tB tn tp < a0 ∨ a1 < tk_nb tB tn tp) ∧ (h21 236 8) = 2 ∧ (h21 236 9) = tk_st tB tn tp) from (Or.inr (Or.inr (Or.inr (by omega))))) (show (h 236 4) ≤ (h21 236 4) by omega) (show (h21 236 4) ≤ (h 236 3) by omega) (show 1 ≤ (h21 236 8) ∨ (h 236 8) = 0 by omega) (show 1 ≤ (h21 236 8) ∨ (a0 ≤ (h 236 7) ∧ (h 236 7) ≤ a1) by omega) (show 1 ≤ (h21 236 8) ∨ (h 236 6) = 2 by omega)
        ·
          refine wi_iconst (n := 1) (nx := 14) (r1 := 0) (r2 := 0) (r3 := 0) rfl ?_
          refine wi_goto (nx := 17) (r1 := 18) (r2 := 0) (r3 := 0) rfl ?_
          refine wi_zreturn (nx := 19) (r1 := 0) (r2 := 0) (r3 := 0) rfl rfl (by omega) ?_
          refine wk_i ?_
          refine wi_if (cd := .ne) (nx := 44) (r1 := 49) (r2 := 0) (r3 := 0) rfl (by omega) (fun (q20 : 1 ≠ 0) => ?_) (fun (q20 : ¬ (1 ≠ 0)) => by exfalso; omega)
          refine wi_aload_n (i := 0) (x := 236) (nx := 50) (r1 := 0) (r2 := 0) (r3 := 0) rfl rfl ?_
          refine wr_V (k0 := 236) (rest := []) (as := [.ref 236]) (nx := 53) (r1 := 219) (r2 := 0) (r3 := 11) rfl rfl rfl (of_decide_eq_true rfl) rfl rfl (by decide) rfl rfl (of_decide_eq_true rfl) (of_decide_eq_true rfl) ?_
          refine wi_aload_n (i := 0) (x := 236) (nx := 1) (r1 := 0) (r2 := 0) (r3 := 0) rfl rfl ?_
          refine wr_gi0 (k0 := 236) (x := h 236 8) (nx := 4) (r1 := 11) (r2 := 8) (r3 := 0) rfl rfl (by decide) rfl ⟨rfl, rfl⟩ rfl rfl ?_
          refine wi_if (cd := .ne) (nx := 7) (r1 := 11) (r2 := 0) (r3 := 0) rfl (by omega) (fun (q21 : (h 236 8) ≠ 0) => by exfalso; omega) (fun (q21 : ¬ ((h 236 8) ≠ 0)) => ?_)
          have kf22 := (pp4.resolve_left (by omega)).2.2
          refine wi_iconst (n := 1) (nx := 8) (r1 := 0) (r2 := 0) (r3 := 0) rfl ?_
          refine wi_goto (nx := 11) (r1 := 12) (r2 := 0) (r3 := 0) rfl ?_
          refine wi_zreturn (nx := 13) (r1 := 0) (r2 := 0) (r3 := 0) rfl rfl (by omega) ?_
          refine wk_i ?_
          refine wi_if (cd := .eq) (nx := 56) (r1 := 60) (r2 := 0) (r3 := 0) rfl (by omega) (fun (q23 : 1 = 0) => by exfalso; omega) (fun (q23 : ¬ (1 = 0)) => ?_)
          refine wi_aload_n (i := 0) (x := 236) (nx := 57) (r1 := 0) (r2 := 0) (r3 := 0) rfl rfl ?_
          refine wr_V (k0 := 236) (rest := []) (as := [.ref 236]) (nx := 60) (r1 := 215) (r2 := 0) (r3 := 11) rfl rfl rfl (of_decide_eq_true rfl) rfl rfl (by decide) rfl rfl (of_decide_eq_true rfl) (of_decide_eq_true rfl) ?_
          refine ct_215_236 hcr  g   (show (h 236 4) ≤ (h 236 3) by omega) (show (h 236 4) = (tk_nx tB tn tp) by omega) (show 0 ≤ (tk_nx tB tn tp) by omega) (show (tk_nx tB tn tp) ≤ tn by omega) xq0 (fun h24 g24 u24 (p24_0 : (h 236 4) ≤ (h24 236 4)) (p24_1 : (h24 236 4) ≤ (h 236 3)) (p24_2 : ((h24 236 4) = tk_nx tB tn (tk_nx tB tn tp) ∧ (h24 236 5) = tk_st tB tn (tk_nx tB tn tp) ∧ TKk tB tn (tk_nx tB tn tp) ((h24 236 6)) ((h24 236 7)) ((h24 236 12)))) (p24_3 : (tk_nx tB tn tp) ≤ tk_nx tB tn (tk_nx tB tn tp) ∧ tk_nx tB tn (tk_nx tB tn tp) ≤ tn) => ?_)
          have F25 := F0.then (by decide +kernel) u24
          have b26 := gi_b (lo := 0) (hi := 800) g24 236 4 rfl
          have b27 := gi_b (lo := 0) (hi := 800) g24 236 5 rfl
          have b28 := gi_b (lo := 0) (hi := 4) g24 236 6 rfl
          have b29 := gi_b (lo := 0) (hi := 999) g24 236 7 rfl
          have b30 := gi_b (lo := -9223372036854775808) (hi := 9223372036854775807) g24 236 12 rfl
          have tkk31 := p24_2.2.2
          have tN32 := @tk_nx_b tB tn (tk_nx tB tn tp) (by omega) (by omega)
          refine wk_n ?_
          refine wi_iload_n (i := 3) (e := h 236 7) (nx := 61) (r1 := 0) (r2 := 0) (r3 := 0) rfl rfl ?_
          refine wi_ireturn (nx := 62) (r1 := 0) (r2 := 0) (r3 := 0) rfl rfl ?_
          have e33 : h24 236 8 = h 236 8 := (u24 236 8 rfl)
          have b34 := gi_b (lo := -2147483648) (hi := 2147483647) g 236 9 rfl
          have e35 : h24 236 9 = h 236 9 := (u24 236 9 rfl)
          exact k h24 (h 236 7) g24 F25 (by omega) (show (1 ≤ (h 236 8) ∧ (h24 236 8) = (h 236 8) ∧ (h24 236 9) = (h 236 9)) ∨ ((h 236 8) = 0 ∧ tk_kd tB tn tp = 2 ∧ a0 ≤ tk_nb tB tn tp ∧ tk_nb tB tn tp ≤ a1 ∧ (h 236 7) = tk_nb tB tn tp ∧ (h24 236 8) = (h 236 8) ∧ (h24 236 9) = (h 236 9) ∧ ((h24 236 4) = tk_nx tB tn (tk_nx tB tn tp) ∧ (h24 236 5) = tk_st tB tn (tk_nx tB tn tp) ∧ TKk tB tn (tk_nx tB tn tp) ((h24 236 6)) ((h24 236 7)) ((h24 236 12)))) ∨ ((h 236 8) = 0 ∧ tk_kd tB tn tp ≠ 2 ∧ (h24 236 8) = 1 ∧ (h24 236 9) = tk_st tB tn tp) ∨ ((h 236 8) = 0 ∧ tk_kd tB tn tp = 2 ∧ (tk_nb tB tn tp < a0 ∨ a1 < tk_nb tB tn tp) ∧ (h24 236 8) = 2 ∧ (h24 236 9) = tk_st tB tn tp) from (Or.inr (Or.inl ⟨(by omega), (by omega), (by omega), (by omega), (by omega), (by omega), (by omega), (show ((h24 236 4) = tk_nx tB tn (tk_nx tB tn tp) ∧ (h24 236 5) = tk_st tB tn (tk_nx tB tn tp) ∧ TKk tB tn (tk_nx tB tn tp) ((h24 236 6)) ((h24 236 7)) ((h24 236 12))) by first | assumption | exact ⟨by omega, by omega, TKk.mv (by assumption) (by omega) (by omega) (by omega)⟩)⟩))) (show (h 236 4) ≤ (h24 236 4) by omega) (show (h24 236 4) ≤ (h 236 3) by omega) (show 1 ≤ (h24 236 8) ∨ (h 236 8) = 0 by omega) (show 1 ≤ (h24 236 8) ∨ (a0 ≤ (h 236 7) ∧ (h 236 7) ≤ a1) by omega) (show 1 ≤ (h24 236 8) ∨ (h 236 6) = 2 by omega)
    ·
      try have kf12 := TKk.n2 (B := tB) (n := tn) (p := tp) (a6 := h 236 6) (by assumption) (by omega)
      refine wi_aload_n (i := 0) (x := 236) (nx := 16) (r1 := 0) (r2 := 0) (r3 := 0) rfl rfl ?_
      refine wi_iconst (n := 1) (nx := 17) (r1 := 0) (r2 := 0) (r3 := 0) rfl ?_
      refine wr_V (k0 := 236) (rest := []) (as := [.ref 236, vi 1]) (nx := 20) (r1 := 224) (r2 := 1) (r3 := 11) rfl rfl rfl (of_decide_eq_true rfl) rfl rfl (by decide) rfl rfl (of_decide_eq_true rfl) (of_decide_eq_true rfl) ?_
      refine ct_224_236 hcr  g 1 (by omega)  (fun h13 g13 u13 (p13_0 : 1 ≤ (h13 236 8)) (p13_1 : (1 ≤ (h 236 8) ∧ (h13 236 8) = (h 236 8) ∧ (h13 236 9) = (h 236 9)) ∨ ((h 236 8) = 0 ∧ (h13 236 9) = (h 236 5) ∧ (((h 236 6) = 4 ∧ (h13 236 8) = 1) ∨ ((h 236 6) ≠ 4 ∧ (h13 236 8) = 1)))) => ?_)
      have F14 := F0.then (by decide +kernel) u13
      have b15 := gi_b (lo := 0) (hi := 5) g13 236 8 rfl
      have b16 := gi_b (lo := -2147483648) (hi := 2147483647) g 236 9 rfl
      have b17 := gi_b (lo := -2147483648) (hi := 2147483647) g13 236 9 rfl
      refine wk_n ?_
      refine wi_aload_n (i := 0) (x := 236) (nx := 21) (r1 := 0) (r2 := 0) (r3 := 0) rfl rfl ?_
      refine wr_gi0 (k0 := 236) (x := h 236 7) (nx := 24) (r1 := 11) (r2 := 7) (r3 := 0) rfl rfl (by decide) rfl ⟨rfl, rfl⟩ rfl (u13 236 7 rfl) ?_
      refine wi_istore_n (i := 3) (e := h 236 7) (lo2 := [(3, vi (h 236 7)), (0, .ref 236), (1, vi a0), (2, vi a1)]) (nx := 25) (r1 := 0) (r2 := 0) (r3 := 0) rfl rfl ?_
      refine wi_aload_n (i := 0) (x := 236) (nx := 26) (r1 := 0) (r2 := 0) (r3 := 0) rfl rfl ?_
      refine wr_V (k0 := 236) (rest := []) (as := [.ref 236]) (nx := 29) (r1 := 219) (r2 := 0) (r3 := 11) rfl rfl rfl (of_decide_eq_true rfl) rfl rfl (by decide) rfl rfl (of_decide_eq_true rfl) (of_decide_eq_true rfl) ?_
      refine wi_aload_n (i := 0) (x := 236) (nx := 1) (r1 := 0) (r2 := 0) (r3 := 0) rfl rfl ?_
      refine wr_gi0 (k0 := 236) (x := h13 236 8) (nx := 4) (r1 := 11) (r2 := 8) (r3 := 0) rfl rfl (by decide) rfl ⟨rfl, rfl⟩ rfl rfl ?_
      refine wi_if (cd := .ne) (nx := 7) (r1 := 11) (r2 := 0) (r3 := 0) rfl (by omega) (fun (q18 : (h13 236 8) ≠ 0) => ?_) (fun (q18 : ¬ ((h13 236 8) ≠ 0)) => by exfalso; omega)
      refine wi_iconst (n := 0) (nx := 12) (r1 := 0) (r2 := 0) (r3 := 0) rfl ?_
      refine wi_zreturn (nx := 13) (r1 := 0) (r2 := 0) (r3 := 0) rfl rfl (by omega) ?_
      refine wk_i ?_
      refine wi_if (cd := .eq) (nx := 32) (r1 := 49) (r2 := 0) (r3 := 0) rfl (by omega) (fun (q20 : 0 = 0) => ?_) (fun (q20 : ¬ (0 = 0)) => by exfalso; omega)
      refine wi_aload_n (i := 0) (x := 236) (nx := 50) (r1 := 0) (r2 := 0) (r3 := 0) rfl rfl ?_
      refine wr_V (k0 := 236) (rest := []) (as := [.ref 236]) (nx := 53) (r1 := 219) (r2 := 0) (r3 := 11) rfl rfl rfl (of_decide_eq_true rfl) rfl rfl (by decide) rfl rfl (of_decide_eq_true rfl) (of_decide_eq_true rfl) ?_
      refine wi_aload_n (i := 0) (x := 236) (nx := 1) (r1 := 0) (r2 := 0) (r3 := 0) rfl rfl ?_
      refine wr_gi0 (k0 := 236) (x := h13 236 8) (nx := 4) (r1 := 11) (r2 := 8) (r3 := 0) rfl rfl (by decide) rfl ⟨rfl, rfl⟩ rfl rfl ?_
      refine wi_if (cd := .ne) (nx := 7) (r1 := 11) (r2 := 0) (r3 := 0) rfl (by omega) (fun (q21 : (h13 236 8) ≠ 0) => ?_) (fun (q21 : ¬ ((h13 236 8) ≠ 0)) => by exfalso; omega)
      refine wi_iconst (n := 0) (nx := 12) (r1 := 0) (r2 := 0) (r3 := 0) rfl ?_
      refine wi_zreturn (nx := 13) (r1 := 0) (r2 := 0) (r3 := 0) rfl rfl (by omega) ?_
      refine wk_i ?_
      refine wi_if (cd := .eq) (nx := 56) (r1 := 60) (r2 := 0) (r3 := 0) rfl (by omega) (fun (q23 : 0 = 0) => ?_) (fun (q23 : ¬ (0 = 0)) => by exfalso; omega)
      refine wi_iload_n (i := 3) (e := h 236 7) (nx := 61) (r1 := 0) (r2 := 0) (r3 := 0) rfl rfl ?_
      refine wi_ireturn (nx := 62) (r1 := 0) (r2 := 0) (r3 := 0) rfl rfl ?_
      have e24 : h13 236 4 = h 236 4 := (u13 236 4 rfl)
      have e25 : h13 236 5 = h 236 5 := (u13 236 5 rfl)
      have e26 : h13 236 6 = h 236 6 := (u13 236 6 rfl)
      have e27 : h13 236 7 = h 236 7 := (u13 236 7 rfl)
      have e28 : h13 236 12 = h 236 12 := (u13 236 12 rfl)
      exact k h13 (h 236 7) g13 F14 (by omega) (show (1 ≤ (h 236 8) ∧ (h13 236 8) = (h 236 8) ∧ (h13 236 9) = (h 236 9)) ∨ ((h 236 8) = 0 ∧ tk_kd tB tn tp = 2 ∧ a0 ≤ tk_nb tB tn tp ∧ tk_nb tB tn tp ≤ a1 ∧ (h 236 7) = tk_nb tB tn tp ∧ (h13 236 8) = (h 236 8) ∧ (h13 236 9) = (h 236 9) ∧ ((h13 236 4) = tk_nx tB tn (tk_nx tB tn tp) ∧ (h13 236 5) = tk_st tB tn (tk_nx tB tn tp) ∧ TKk tB tn (tk_nx tB tn tp) ((h13 236 6)) ((h13 236 7)) ((h13 236 12)))) ∨ ((h 236 8) = 0 ∧ tk_kd tB tn tp ≠ 2 ∧ (h13 236 8) = 1 ∧ (h13 236 9) = tk_st tB tn tp) ∨ ((h 236 8) = 0 ∧ tk_kd tB tn tp = 2 ∧ (tk_nb tB tn tp < a0 ∨ a1 < tk_nb tB tn tp) ∧ (h13 236 8) = 2 ∧ (h13 236 9) = tk_st tB tn tp) from (fun x => x.elim (fun x => (Or.inr (Or.inr (Or.inl x)))) (fun x => (Or.inr (Or.inr (Or.inr x))))) (show ((h 236 8) = 0 ∧ tk_kd tB tn tp ≠ 2 ∧ (h13 236 8) = 1 ∧ (h13 236 9) = tk_st tB tn tp) ∨ ((h 236 8) = 0 ∧ tk_kd tB tn tp = 2 ∧ (tk_nb tB tn tp < a0 ∨ a1 < tk_nb tB tn tp) ∧ (h13 236 8) = 2 ∧ (h13 236 9) = tk_st tB tn tp) by omega)) (show (h 236 4) ≤ (h13 236 4) by omega) (show (h13 236 4) ≤ (h 236 3) by omega) (show 1 ≤ (h13 236 8) ∨ (h 236 8) = 0 by omega) (show 1 ≤ (h13 236 8) ∨ (a0 ≤ (h 236 7) ∧ (h 236 7) ≤ a1) by omega) (show 1 ≤ (h13 236 8) ∨ (h 236 6) = 2 by omega)
-- method 228: Model.numberBehind(JII)I
set_option maxRecDepth 100000 in
set_option maxHeartbeats 100000000 in
theorem ct_228_236 {L : Nat} {xs : Nat → Int32} {d b c : Nat} {h : hp} {cr : Nat → Nat → Option Nat} {Q : hp_Q} (hcr : CR cr)  {tB : Nat → Int} {tn tp : Int} (g : GI h) (a0 : Int) (a1 : Int) (a2 : Int) (q0_ : -9223372036854775808 ≤ a0 ∧ a0 ≤ 9223372036854775807) (q1_ : -2147483648 ≤ a1 ∧ a1 ≤ 2147483647) (q2_ : -2147483648 ≤ a2 ∧ a2 ≤ 2147483647) (pp0 : h 236 4 ≤ h 236 3) (pp1 : 0 ≤ tp) (pp2 : tp ≤ tn) (pp3 : tp ≤ tk_nx tB tn tp ∧ tk_nx tB tn tp ≤ tn) (pp4 : 1 ≤ h 236 8 ∨ (h 236 4 = tk_nx tB tn tp ∧ h 236 5 = tk_st tB tn tp ∧ TKk tB tn tp (h 236 6) (h 236 7) (h 236 12))) (xq0 : RefB tB tn h) (k : ∀ (h2 : hp) (z0 : Int) , GI h2 → FR [(236, 236, some (4, 4)), (236, 236, some (5, 5)), (236, 236, some (6, 6)), (236, 236, some (7, 7)), (236, 236, some (8, 8)), (236, 236, some (9, 9)), (236, 236, some (12, 12))] h h2 → (0 ≤ z0 ∧ z0 ≤ 999) → ((1 ≤ h 236 8 ∧ h2 236 8 = h 236 8 ∧ h2 236 9 = h 236 9) ∨ (h 236 8 = 0 ∧ tk_kd tB tn tp = 1 ∧ tk_sw tB tn tp = a0 ∧ tk_kd tB tn (tk_nx tB tn tp) = 2 ∧ a1 ≤ tk_nb tB tn (tk_nx tB tn tp) ∧ tk_nb tB tn (tk_nx tB tn tp) ≤ a2 ∧ z0 = tk_nb tB tn (tk_nx tB tn tp) ∧ h2 236 8 = h 236 8 ∧ h2 236 9 = h 236 9 ∧ (h2 236 4 = tk_nx tB tn (tk_nx tB tn (tk_nx tB tn tp)) ∧ h2 236 5 = tk_st tB tn (tk_nx tB tn (tk_nx tB tn tp)) ∧ TKk tB tn (tk_nx tB tn (tk_nx tB tn tp)) (h2 236 6) (h2 236 7) (h2 236 12))) ∨ (h 236 8 = 0 ∧ (tk_kd tB tn tp ≠ 1 ∨ tk_sw tB tn tp ≠ a0) ∧ h2 236 8 = 1 ∧ h2 236 9 = tk_st tB tn tp) ∨ (h 236 8 = 0 ∧ tk_kd tB tn tp = 1 ∧ tk_sw tB tn tp = a0 ∧ tk_kd tB tn (tk_nx tB tn tp) ≠ 2 ∧ h2 236 8 = 1 ∧ h2 236 9 = tk_st tB tn (tk_nx tB tn tp)) ∨ (h 236 8 = 0 ∧ tk_kd tB tn tp = 1 ∧ tk_sw tB tn tp = a0 ∧ tk_kd tB tn (tk_nx tB tn tp) = 2 ∧ (tk_nb tB tn (tk_nx tB tn tp) < a1 ∨ a2 < tk_nb tB tn (tk_nx tB tn tp)) ∧ h2 236 8 = 2 ∧ h2 236 9 = tk_st tB tn (tk_nx tB tn tp))) → (h 236 4 ≤ h2 236 4) → (h2 236 4 ≤ h 236 3) → (1 ≤ h2 236 8 ∨ h 236 8 = 0) → (1 ≤ h2 236 8 ∨ (a1 ≤ z0 ∧ z0 ≤ a2)) → Q (.inl (some (vi z0))) (hp_w h2 cr) b c) : wp (md_xa (L, xs)) (d + 4) 228 (0, [(0, .ref 236), (1, vl a0), (3, vi a1), (4, vi a2)], [], hp_w h cr, b, c) Q := by
  have F0 : FR [(236, 236, some (4, 4)), (236, 236, some (5, 5)), (236, 236, some (6, 6)), (236, 236, some (7, 7)), (236, 236, some (8, 8)), (236, 236, some (9, 9)), (236, 236, some (12, 12))] h h := FR.refl
  have tb_1 : h 236 3 = tn := xq0.2.1
  have tb_2 : 0 ≤ tn ∧ tn ≤ 800 := xq0.2.2
  have b1 := gi_b (lo := 0) (hi := 800) g 236 4 rfl
  have b2 := gi_b (lo := 0) (hi := 800) g 236 3 rfl
  have b3 := gi_b (lo := 0) (hi := 5) g 236 8 rfl
  have b4 := gi_b (lo := 0) (hi := 800) g 236 5 rfl
  have b5 := gi_b (lo := 0) (hi := 4) g 236 6 rfl
  have b6 := gi_b (lo := 0) (hi := 999) g 236 7 rfl
  have b7 := gi_b (lo := -9223372036854775808) (hi := 9223372036854775807) g 236 12 rfl
  refine wi_aload_n (i := 0) (x := 236) (nx := 1) (r1 := 0) (r2 := 0) (r3 := 0) rfl rfl ?_
  refine wi_lload_n (i := 1) (e := a0) (nx := 2) (r1 := 0) (r2 := 0) (r3 := 0) rfl rfl ?_
  refine wr_V (k0 := 236) (rest := []) (as := [.ref 236, vl a0]) (nx := 5) (r1 := 229) (r2 := 1) (r3 := 11) rfl rfl rfl (of_decide_eq_true rfl) rfl rfl (by decide) rfl rfl (of_decide_eq_true rfl) (of_decide_eq_true rfl) ?_
  refine wi_aload_n (i := 0) (x := 236) (nx := 1) (r1 := 0) (r2 := 0) (r3 := 0) rfl rfl ?_
  refine wr_V (k0 := 236) (rest := []) (as := [.ref 236]) (nx := 4) (r1 := 219) (r2 := 0) (r3 := 11) rfl rfl rfl (of_decide_eq_true rfl) rfl rfl (by decide) rfl rfl (of_decide_eq_true rfl) (of_decide_eq_true rfl) ?_
  refine wi_aload_n (i := 0) (x := 236) (nx := 1) (r1 := 0) (r2 := 0) (r3 := 0) rfl rfl ?_
  refine wr_gi0 (k0 := 236) (x := h 236 8) (nx := 4) (r1 := 11) (r2 := 8) (r3 := 0) rfl rfl (by decide) rfl ⟨rfl, rfl⟩ rfl rfl ?_
  refine wi_if (cd := .ne) (nx := 7) (r1 := 11) (r2 := 0) (r3 := 0) rfl (by omega) (fun (q8 : (h 236 8) ≠ 0) => ?_) (fun (q8 : ¬ ((h 236 8) ≠ 0)) => ?_)
  ·
    refine wi_iconst (n := 0) (nx := 12) (r1 := 0) (r2 := 0) (r3 := 0) rfl ?_
    refine wi_zreturn (nx := 13) (r1 := 0) (r2 := 0) (r3 := 0) rfl rfl (by omega) ?_
    refine wk_i ?_
    refine wi_if (cd := .eq) (nx := 7) (r1 := 20) (r2 := 0) (r3 := 0) rfl (by omega) (fun (q10 : 0 = 0) => ?_) (fun (q10 : ¬ (0 = 0)) => by exfalso; omega)
    refine wi_return (nx := 21) (r1 := 0) (r2 := 0) (r3 := 0) rfl rfl ?_
    refine wk_n ?_
    refine wi_aload_n (i := 0) (x := 236) (nx := 6) (r1 := 0) (r2 := 0) (r3 := 0) rfl rfl ?_
    refine wi_iload_n (i := 3) (e := a1) (nx := 7) (r1 := 0) (r2 := 0) (r3 := 0) rfl rfl ?_
    refine wi_iload (i := 4) (e := a2) (nx := 9) (r1 := 0) (r2 := 0) (r3 := 0) rfl rfl ?_
    refine wr_V (k0 := 236) (rest := []) (as := [.ref 236, vi a1, vi a2]) (nx := 12) (r1 := 231) (r2 := 2) (r3 := 11) rfl rfl rfl (of_decide_eq_true rfl) rfl rfl (by decide) rfl rfl (of_decide_eq_true rfl) (of_decide_eq_true rfl) ?_
    refine ct_231_236 hcr  g a1 a2 (by omega) (by omega) (show (h 236 4) ≤ (h 236 3) by omega) (show 0 ≤ tp by omega) (show tp ≤ tn by omega) (show tp ≤ tk_nx tB tn tp ∧ tk_nx tB tn tp ≤ tn by omega) (show 1 ≤ (h 236 8) ∨ ((h 236 4) = tk_nx tB tn tp ∧ (h 236 5) = tk_st tB tn tp ∧ TKk tB tn tp ((h 236 6)) ((h 236 7)) ((h 236 12))) from (Or.inl (by omega))) xq0 (fun h11 z12 g11 u11 (fz12 : 0 ≤ z12 ∧ z12 ≤ 999) (p11_0 : (1 ≤ (h 236 8) ∧ (h11 236 8) = (h 236 8) ∧ (h11 236 9) = (h 236 9)) ∨ ((h 236 8) = 0 ∧ tk_kd tB tn tp = 2 ∧ a1 ≤ tk_nb tB tn tp ∧ tk_nb tB tn tp ≤ a2 ∧ z12 = tk_nb tB tn tp ∧ (h11 236 8) = (h 236 8) ∧ (h11 236 9) = (h 236 9) ∧ ((h11 236 4) = tk_nx tB tn (tk_nx tB tn tp) ∧ (h11 236 5) = tk_st tB tn (tk_nx tB tn tp) ∧ TKk tB tn (tk_nx tB tn tp) ((h11 236 6)) ((h11 236 7)) ((h11 236 12)))) ∨ ((h 236 8) = 0 ∧ tk_kd tB tn tp ≠ 2 ∧ (h11 236 8) = 1 ∧ (h11 236 9) = tk_st tB tn tp) ∨ ((h 236 8) = 0 ∧ tk_kd tB tn tp = 2 ∧ (tk_nb tB tn tp < a1 ∨ a2 < tk_nb tB tn tp) ∧ (h11 236 8) = 2 ∧ (h11 236 9) = tk_st tB tn tp)) (p11_1 : (h 236 4) ≤ (h11 236 4)) (p11_2 : (h11 236 4) ≤ (h 236 3)) (p11_3 : 1 ≤ (h11 236 8) ∨ (h 236 8) = 0) (p11_4 : 1 ≤ (h11 236 8) ∨ (a1 ≤ z12 ∧ z12 ≤ a2)) (p11_5 : 1 ≤ (h11 236 8) ∨ (h 236 6) = 2) => ?_)
    have F13 := F0.then (by decide +kernel) u11
    have b14 := gi_b (lo := -2147483648) (hi := 2147483647) g 236 9 rfl
    have b15 := gi_b (lo := 0) (hi := 5) g11 236 8 rfl
    have b16 := gi_b (lo := -2147483648) (hi := 2147483647) g11 236 9 rfl
    have b17 := gi_b (lo := 0) (hi := 800) g11 236 4 rfl
    have b18 := gi_b (lo := 0) (hi := 800) g11 236 5 rfl
    have b19 := gi_b (lo := 0) (hi := 4) g11 236 6 rfl
    have b20 := gi_b (lo := 0) (hi := 999) g11 236 7 rfl
    have b21 := gi_b (lo := -9223372036854775808) (hi := 9223372036854775807) g11 236 12 rfl
    refine wk_i ?_
    rcases p11_0 with p11_0 | p11_0 | p11_0 | p11_0
    ·
      refine wi_ireturn (nx := 13) (r1 := 0) (r2 := 0) (r3 := 0) rfl rfl ?_
      exact k h11 z12 g11 F13 (by omega) (show (1 ≤ (h 236 8) ∧ (h11 236 8) = (h 236 8) ∧ (h11 236 9) = (h 236 9)) ∨ ((h 236 8) = 0 ∧ tk_kd tB tn tp = 1 ∧ tk_sw tB tn tp = a0 ∧ tk_kd tB tn (tk_nx tB tn tp) = 2 ∧ a1 ≤ tk_nb tB tn (tk_nx tB tn tp) ∧ tk_nb tB tn (tk_nx tB tn tp) ≤ a2 ∧ z12 = tk_nb tB tn (tk_nx tB tn tp) ∧ (h11 236 8) = (h 236 8) ∧ (h11 236 9) = (h 236 9) ∧ ((h11 236 4) = tk_nx tB tn (tk_nx tB tn (tk_nx tB tn tp)) ∧ (h11 236 5) = tk_st tB tn (tk_nx tB tn (tk_nx tB tn tp)) ∧ TKk tB tn (tk_nx tB tn (tk_nx tB tn tp)) ((h11 236 6)) ((h11 236 7)) ((h11 236 12)))) ∨ ((h 236 8) = 0 ∧ (tk_kd tB tn tp ≠ 1 ∨ tk_sw tB tn tp ≠ a0) ∧ (h11 236 8) = 1 ∧ (h11 236 9) = tk_st tB tn tp) ∨ ((h 236 8) = 0 ∧ tk_kd tB tn tp = 1 ∧ tk_sw tB tn tp = a0 ∧ tk_kd tB tn (tk_nx tB tn tp) ≠ 2 ∧ (h11 236 8) = 1 ∧ (h11 236 9) = tk_st tB tn (tk_nx tB tn tp)) ∨ ((h 236 8) = 0 ∧ tk_kd tB tn tp = 1 ∧ tk_sw tB tn tp = a0 ∧ tk_kd tB tn (tk_nx tB tn tp) = 2 ∧ (tk_nb tB tn (tk_nx tB tn tp) < a1 ∨ a2 < tk_nb tB tn (tk_nx tB tn tp)) ∧ (h11 236 8) = 2 ∧ (h11 236 9) = tk_st tB tn (tk_nx tB tn tp)) from (Or.inl (by omega))) (show (h 236 4) ≤ (h11 236 4) by omega) (show (h11 236 4) ≤ (h 236 3) by omega) (show 1 ≤ (h11 236 8) ∨ (h 236 8) = 0 by omega) (show 1 ≤ (h11 236 8) ∨ (a1 ≤ z12 ∧ z12 ≤ a2) by omega)
    ·
      have tkk22 := (p11_0.2.2.2.2.2.2.2).2.2
      have tN23 := @tk_nx_b tB tn (tk_nx tB tn tp) (by omega) (by omega)
      exfalso; omega
    ·
      exfalso; omega
    ·
      exfalso; omega
  ·
    have kf9 := (pp4.resolve_left (by omega)).2.2
    refine wi_iconst (n := 1) (nx := 8) (r1 := 0) (r2 := 0) (r3 := 0) rfl ?_
    refine wi_goto (nx := 11) (r1 := 12) (r2 := 0) (r3 := 0) rfl ?_
    refine wi_zreturn (nx := 13) (r1 := 0) (r2 := 0) (r3 := 0) rfl rfl (by omega) ?_
    refine wk_i ?_
    refine wi_if (cd := .eq) (nx := 7) (r1 := 20) (r2 := 0) (r3 := 0) rfl (by omega) (fun (q10 : 1 = 0) => by exfalso; omega) (fun (q10 : ¬ (1 = 0)) => ?_)
    refine wi_aload_n (i := 0) (x := 236) (nx := 8) (r1 := 0) (r2 := 0) (r3 := 0) rfl rfl ?_
    refine wi_lload_n (i := 1) (e := a0) (nx := 9) (r1 := 0) (r2 := 0) (r3 := 0) rfl rfl ?_
    refine wr_V (k0 := 236) (rest := []) (as := [.ref 236, vl a0]) (nx := 12) (r1 := 230) (r2 := 1) (r3 := 11) rfl rfl rfl (of_decide_eq_true rfl) rfl rfl (by decide) rfl rfl (of_decide_eq_true rfl) (of_decide_eq_true rfl) ?_
    refine wi_aload_n (i := 0) (x := 236) (nx := 1) (r1 := 0) (r2 := 0) (r3 := 0) rfl rfl ?_
    refine wi_lload_n (i := 1) (e := a0) (nx := 2) (r1 := 0) (r2 := 0) (r3 := 0) rfl rfl ?_
    refine wr_V (k0 := 236) (rest := []) (as := [.ref 236, vl a0]) (nx := 5) (r1 := 221) (r2 := 1) (r3 := 11) rfl rfl rfl (of_decide_eq_true rfl) rfl rfl (by decide) rfl rfl (of_decide_eq_true rfl) (of_decide_eq_true rfl) ?_
    refine wi_aload_n (i := 0) (x := 236) (nx := 1) (r1 := 0) (r2 := 0) (r3 := 0) rfl rfl ?_
    refine wr_gi0 (k0 := 236) (x := h 236 8) (nx := 4) (r1 := 11) (r2 := 8) (r3 := 0) rfl rfl (by decide) rfl ⟨rfl, rfl⟩ rfl rfl ?_
    refine wi_if (cd := .ne) (nx := 7) (r1 := 28) (r2 := 0) (r3 := 0) rfl (by omega) (fun (q11 : (h 236 8) ≠ 0) => by exfalso; omega) (fun (q11 : ¬ ((h 236 8) ≠ 0)) => ?_)
    have kf12 := (pp4.resolve_left (by omega)).2.2
    refine wi_aload_n (i := 0) (x := 236) (nx := 8) (r1 := 0) (r2 := 0) (r3 := 0) rfl rfl ?_
    refine wr_gi0 (k0 := 236) (x := h 236 6) (nx := 11) (r1 := 11) (r2 := 6) (r3 := 0) rfl rfl (by decide) rfl ⟨rfl, rfl⟩ rfl rfl ?_
    refine wi_iconst (n := 1) (nx := 12) (r1 := 0) (r2 := 0) (r3 := 0) rfl ?_
    refine wi_icmp (cd := .ne) (nx := 15) (r1 := 28) (r2 := 0) (r3 := 0) rfl (by omega) (by omega) (fun (q13 : (h 236 6) ≠ 1) => ?_) (fun (q13 : ¬ ((h 236 6) ≠ 1)) => ?_)
    ·
      try have kf14 := TKk.n1 (B := tB) (n := tn) (p := tp) (a6 := h 236 6) (by assumption) (by omega)
      refine wi_iconst (n := 0) (nx := 29) (r1 := 0) (r2 := 0) (r3 := 0) rfl ?_
      refine wi_zreturn (nx := 30) (r1 := 0) (r2 := 0) (r3 := 0) rfl rfl (by omega) ?_
      refine wk_i ?_
      refine wi_istore_n (i := 3) (e := 0) (lo2 := [(3, vi 0), (0, .ref 236), (1, vl a0)]) (nx := 6) (r1 := 0) (r2 := 0) (r3 := 0) rfl rfl ?_
      refine wi_iload_n (i := 3) (e := 0) (nx := 7) (r1 := 0) (r2 := 0) (r3 := 0) rfl rfl ?_
      refine wi_if (cd := .eq) (nx := 10) (r1 := 14) (r2 := 0) (r3 := 0) rfl (by omega) (fun (q15 : 0 = 0) => ?_) (fun (q15 : ¬ (0 = 0)) => by exfalso; omega)
      refine wi_iload_n (i := 3) (e := 0) (nx := 15) (r1 := 0) (r2 := 0) (r3 := 0) rfl rfl ?_
      refine wi_zreturn (nx := 16) (r1 := 0) (r2 := 0) (r3 := 0) rfl rfl (by omega) ?_
      refine wk_i ?_
      refine wi_if (cd := .ne) (nx := 15) (r1 := 20) (r2 := 0) (r3 := 0) rfl (by omega) (fun (q16 : 0 ≠ 0) => by exfalso; omega) (fun (q16 : ¬ (0 ≠ 0)) => ?_)
      refine wi_aload_n (i := 0) (x := 236) (nx := 16) (r1 := 0) (r2 := 0) (r3 := 0) rfl rfl ?_
      refine wi_iconst (n := 1) (nx := 17) (r1 := 0) (r2 := 0) (r3 := 0) rfl ?_
      refine wr_V (k0 := 236) (rest := []) (as := [.ref 236, vi 1]) (nx := 20) (r1 := 224) (r2 := 1) (r3 := 11) rfl rfl rfl (of_decide_eq_true rfl) rfl rfl (by decide) rfl rfl (of_decide_eq_true rfl) (of_decide_eq_true rfl) ?_
      refine ct_224_236 hcr  g 1 (by omega)  (fun h17 g17 u17 (p17_0 : 1 ≤ (h17 236 8)) (p17_1 : (1 ≤ (h 236 8) ∧ (h17 236 8) = (h 236 8) ∧ (h17 236 9) = (h 236 9)) ∨ ((h 236 8) = 0 ∧ (h17 236 9) = (h 236 5) ∧ (((h 236 6) = 4 ∧ (h17 236 8) = 1) ∨ ((h 236 6) ≠ 4 ∧ (h17 236 8) = 1)))) => ?_)
      have F18 := F0.then (by decide +kernel) u17
      have b19 := gi_b (lo := 0) (hi := 5) g17 236 8 rfl
      have b20 := gi_b (lo := -2147483648) (hi := 2147483647) g 236 9 rfl
      have b21 := gi_b (lo := -2147483648) (hi := 2147483647) g17 236 9 rfl
      refine wk_n ?_
      refine wi_return (nx := 21) (r1 := 0) (r2 := 0) (r3 := 0) rfl rfl ?_
      refine wk_n ?_
      refine wi_aload_n (i := 0) (x := 236) (nx := 6) (r1 := 0) (r2 := 0) (r3 := 0) rfl rfl ?_
      refine wi_iload_n (i := 3) (e := a1) (nx := 7) (r1 := 0) (r2 := 0) (r3 := 0) rfl rfl ?_
      refine wi_iload (i := 4) (e := a2) (nx := 9) (r1 := 0) (r2 := 0) (r3 := 0) rfl rfl ?_
      refine wr_V (k0 := 236) (rest := []) (as := [.ref 236, vi a1, vi a2]) (nx := 12) (r1 := 231) (r2 := 2) (r3 := 11) rfl rfl rfl (of_decide_eq_true rfl) rfl rfl (by decide) rfl rfl (of_decide_eq_true rfl) (of_decide_eq_true rfl) ?_
      have e23 : h17 236 4 = h 236 4 := (u17 236 4 rfl)
      have e24 : h17 236 3 = h 236 3 := (u17 236 3 rfl)
      have e25 : h17 236 5 = h 236 5 := (u17 236 5 rfl)
      have e26 : h17 236 6 = h 236 6 := (u17 236 6 rfl)
      have e27 : h17 236 7 = h 236 7 := (u17 236 7 rfl)
      have e28 : h17 236 12 = h 236 12 := (u17 236 12 rfl)
      have rb30 := RefB.fr u17 rfl xq0
      refine ct_231_236 hcr  g17 a1 a2 (by omega) (by omega) (show (h17 236 4) ≤ (h17 236 3) by omega) (show 0 ≤ tp by omega) (show tp ≤ tn by omega) (show tp ≤ tk_nx tB tn tp ∧ tk_nx tB tn tp ≤ tn by omega) (show 1 ≤ (h17 236 8) ∨ ((h17 236 4) = tk_nx tB tn tp ∧ (h17 236 5) = tk_st tB tn tp ∧ TKk tB tn tp ((h17 236 6)) ((h17 236 7)) ((h17 236 12))) from (Or.inl (by omega))) rb30 (fun h22 z29 g22 u22 (fz29 : 0 ≤ z29 ∧ z29 ≤ 999) (p22_0 : (1 ≤ (h17 236 8) ∧ (h22 236 8) = (h17 236 8) ∧ (h22 236 9) = (h17 236 9)) ∨ ((h17 236 8) = 0 ∧ tk_kd tB tn tp = 2 ∧ a1 ≤ tk_nb tB tn tp ∧ tk_nb tB tn tp ≤ a2 ∧ z29 = tk_nb tB tn tp ∧ (h22 236 8) = (h17 236 8) ∧ (h22 236 9) = (h17 236 9) ∧ ((h22 236 4) = tk_nx tB tn (tk_nx tB tn tp) ∧ (h22 236 5) = tk_st tB tn (tk_nx tB tn tp) ∧ TKk tB tn (tk_nx tB tn tp) ((h22 236 6)) ((h22 236 7)) ((h22 236 12)))) ∨ ((h17 236 8) = 0 ∧ tk_kd tB tn tp ≠ 2 ∧ (h22 236 8) = 1 ∧ (h22 236 9) = tk_st tB tn tp) ∨ ((h17 236 8) = 0 ∧ tk_kd tB tn tp = 2 ∧ (tk_nb tB tn tp < a1 ∨ a2 < tk_nb tB tn tp) ∧ (h22 236 8) = 2 ∧ (h22 236 9) = tk_st tB tn tp)) (p22_1 : (h17 236 4) ≤ (h22 236 4)) (p22_2 : (h22 236 4) ≤ (h17 236 3)) (p22_3 : 1 ≤ (h22 236 8) ∨ (h17 236 8) = 0) (p22_4 : 1 ≤ (h22 236 8) ∨ (a1 ≤ z29 ∧ z29 ≤ a2)) (p22_5 : 1 ≤ (h22 236 8) ∨ (h17 236 6) = 2) => ?_)
      have F31 := F18.then (by decide +kernel) u22
      have b32 := gi_b (lo := 0) (hi := 5) g22 236 8 rfl
      have b33 := gi_b (lo := -2147483648) (hi := 2147483647) g22 236 9 rfl
      have b34 := gi_b (lo := 0) (hi := 800) g22 236 4 rfl
      have b35 := gi_b (lo := 0) (hi := 800) g22 236 5 rfl
      have b36 := gi_b (lo := 0) (hi := 4) g22 236 6 rfl
      have b37 := gi_b (lo := 0) (hi := 999) g22 236 7 rfl
      have b38 := gi_b (lo := -9223372036854775808) (hi := 9223372036854775807) g22 236 12 rfl
      refine wk_i ?_
      rcases p22_0 with p22_0 | p22_0 | p22_0 | p22_0
      ·
        refine wi_ireturn (nx := 13) (r1 := 0) (r2 := 0) (r3 := 0) rfl rfl ?_
        exact k h22 z29 g22 F31 (by omega) (show (1 ≤ (h 236 8) ∧ (h22 236 8) = (h 236 8) ∧ (h22 236 9) = (h 236 9)) ∨ ((h 236 8) = 0 ∧ tk_kd tB tn tp = 1 ∧ tk_sw tB tn tp = a0 ∧ tk_kd tB tn (tk_nx tB tn tp) = 2 ∧ a1 ≤ tk_nb tB tn (tk_nx tB tn tp) ∧ tk_nb tB tn (tk_nx tB tn tp) ≤ a2 ∧ z29 = tk_nb tB tn (tk_nx tB tn tp) ∧ (h22 236 8) = (h 236 8) ∧ (h22 236 9) = (h 236 9) ∧ ((h22 236 4) = tk_nx tB tn (tk_nx tB tn (tk_nx tB tn tp)) ∧ (h22 236 5) = tk_st tB tn (tk_nx tB tn (tk_nx tB tn tp)) ∧ TKk tB tn (tk_nx tB tn (tk_nx tB tn tp)) ((h22 236 6)) ((h22 236 7)) ((h22 236 12)))) ∨ ((h 236 8) = 0 ∧ (tk_kd tB tn tp ≠ 1 ∨ tk_sw tB tn tp ≠ a0) ∧ (h22 236 8) = 1 ∧ (h22 236 9) = tk_st tB tn tp) ∨ ((h 236 8) = 0 ∧ tk_kd tB tn tp = 1 ∧ tk_sw tB tn tp = a0 ∧ tk_kd tB tn (tk_nx tB tn tp) ≠ 2 ∧ (h22 236 8) = 1 ∧ (h22 236 9) = tk_st tB tn (tk_nx tB tn tp)) ∨ ((h 236 8) = 0 ∧ tk_kd tB tn tp = 1 ∧ tk_sw tB tn tp = a0 ∧ tk_kd tB tn (tk_nx tB tn tp) = 2 ∧ (tk_nb tB tn (tk_nx tB tn tp) < a1 ∨ a2 < tk_nb tB tn (tk_nx tB tn tp)) ∧ (h22 236 8) = 2 ∧ (h22 236 9) = tk_st tB tn (tk_nx tB tn tp)) from (fun x => x.elim (fun x => (Or.inr (Or.inr (Or.inl x)))) (fun x => x.elim (fun x => (Or.inr (Or.inr (Or.inr (Or.inl x))))) (fun x => (Or.inr (Or.inr (Or.inr (Or.inr x))))))) (show ((h 236 8) = 0 ∧ (tk_kd tB tn tp ≠ 1 ∨ tk_sw tB tn tp ≠ a0) ∧ (h22 236 8) = 1 ∧ (h22 236 9) = tk_st tB tn tp) ∨ ((h 236 8) = 0 ∧ tk_kd tB tn tp = 1 ∧ tk_sw tB tn tp = a0 ∧ tk_kd tB tn (tk_nx tB tn tp) ≠ 2 ∧ (h22 236 8) = 1 ∧ (h22 236 9) = tk_st tB tn (tk_nx tB tn tp)) ∨ ((h 236 8) = 0 ∧ tk_kd tB tn tp = 1 ∧ tk_sw tB tn tp = a0 ∧ tk_kd tB tn (tk_nx tB tn tp) = 2 ∧ (tk_nb tB tn (tk_nx tB tn tp) < a1 ∨ a2 < tk_nb tB tn (tk_nx tB tn tp)) ∧ (h22 236 8) = 2 ∧ (h22 236 9) = tk_st tB tn (tk_nx tB tn tp)) by omega)) (show (h 236 4) ≤ (h22 236 4) by omega) (show (h22 236 4) ≤ (h 236 3) by omega) (show 1 ≤ (h22 236 8) ∨ (h 236 8) = 0 by omega) (show 1 ≤ (h22 236 8) ∨ (a1 ≤ z29 ∧ z29 ≤ a2) by omega)
      ·
        have tkk39 := (p22_0.2.2.2.2.2.2.2).2.2
        have tN40 := @tk_nx_b tB tn (tk_nx tB tn tp) (by omega) (by omega)
        exfalso; omega
      ·
        exfalso; omega
      ·
        exfalso; omega
    ·
      try have kf14 := TKk.e1 (B := tB) (n := tn) (p := tp) (a6 := h 236 6) (by assumption) (by omega)
      refine wi_aload_n (i := 0) (x := 236) (nx := 16) (r1 := 0) (r2 := 0) (r3 := 0) rfl rfl ?_
      refine wr_gi1 (k0 := 236) (x := h 236 12) (nx := 19) (r1 := 11) (r2 := 12) (r3 := 0) rfl rfl (by decide) rfl ⟨rfl, rfl⟩ rfl rfl ?_
      refine wi_lload_n (i := 1) (e := a0) (nx := 20) (r1 := 0) (r2 := 0) (r3 := 0) rfl rfl ?_
      refine wi_lcmp (a := h 236 12) (e := a0) (nx := 21) (r1 := 0) (r2 := 0) (r3 := 0) rfl (by omega) (by omega) (fun r15 (fr15 : (r15 = -1 ∧ (h 236 12) < a0) ∨ (r15 = 0 ∧ (h 236 12) = a0) ∨ (r15 = 1 ∧ a0 < (h 236 12))) => ?_)
      refine wi_if (cd := .ne) (nx := 24) (r1 := 28) (r2 := 0) (r3 := 0) rfl (by omega) (fun (q16 : r15 ≠ 0) => ?_) (fun (q16 : ¬ (r15 ≠ 0)) => ?_)
      ·
        refine wi_iconst (n := 0) (nx := 29) (r1 := 0) (r2 := 0) (r3 := 0) rfl ?_
        refine wi_zreturn (nx := 30) (r1 := 0) (r2 := 0) (r3 := 0) rfl rfl (by omega) ?_
        refine wk_i ?_
        refine wi_istore_n (i := 3) (e := 0) (lo2 := [(3, vi 0), (0, .ref 236), (1, vl a0)]) (nx := 6) (r1 := 0) (r2 := 0) (r3 := 0) rfl rfl ?_
        refine wi_iload_n (i := 3) (e := 0) (nx := 7) (r1 := 0) (r2 := 0) (r3 := 0) rfl rfl ?_
        refine wi_if (cd := .eq) (nx := 10) (r1 := 14) (r2 := 0) (r3 := 0) rfl (by omega) (fun (q17 : 0 = 0) => ?_) (fun (q17 : ¬ (0 = 0)) => by exfalso; omega)
        refine wi_iload_n (i := 3) (e := 0) (nx := 15) (r1 := 0) (r2 := 0) (r3 := 0) rfl rfl ?_
        refine wi_zreturn (nx := 16) (r1 := 0) (r2 := 0) (r3 := 0) rfl rfl (by omega) ?_
        refine wk_i ?_
        refine wi_if (cd := .ne) (nx := 15) (r1 := 20) (r2 := 0) (r3 := 0) rfl (by omega) (fun (q18 : 0 ≠ 0) => by exfalso; omega) (fun (q18 : ¬ (0 ≠ 0)) => ?_)
        refine wi_aload_n (i := 0) (x := 236) (nx := 16) (r1 := 0) (r2 := 0) (r3 := 0) rfl rfl ?_
        refine wi_iconst (n := 1) (nx := 17) (r1 := 0) (r2 := 0) (r3 := 0) rfl ?_
        refine wr_V (k0 := 236) (rest := []) (as := [.ref 236, vi 1]) (nx := 20) (r1 := 224) (r2 := 1) (r3 := 11) rfl rfl rfl (of_decide_eq_true rfl) rfl rfl (by decide) rfl rfl (of_decide_eq_true rfl) (of_decide_eq_true rfl) ?_
        refine ct_224_236 hcr  g 1 (by omega)  (fun h19 g19 u19 (p19_0 : 1 ≤ (h19 236 8)) (p19_1 : (1 ≤ (h 236 8) ∧ (h19 236 8) = (h 236 8) ∧ (h19 236 9) = (h 236 9)) ∨ ((h 236 8) = 0 ∧ (h19 236 9) = (h 236 5) ∧ (((h 236 6) = 4 ∧ (h19 236 8) = 1) ∨ ((h 236 6) ≠ 4 ∧ (h19 236 8) = 1)))) => ?_)
        have F20 := F0.then (by decide +kernel) u19
        have b21 := gi_b (lo := 0) (hi := 5) g19 236 8 rfl
        have b22 := gi_b (lo := -2147483648) (hi := 2147483647) g 236 9 rfl
        have b23 := gi_b (lo := -2147483648) (hi := 2147483647) g19 236 9 rfl
        refine wk_n ?_
        refine wi_return (nx := 21) (r1 := 0) (r2 := 0) (r3 := 0) rfl rfl ?_
        refine wk_n ?_
        refine wi_aload_n (i := 0) (x := 236) (nx := 6) (r1 := 0) (r2 := 0) (r3 := 0) rfl rfl ?_
        refine wi_iload_n (i := 3) (e := a1) (nx := 7) (r1 := 0) (r2 := 0) (r3 := 0) rfl rfl ?_
        refine wi_iload (i := 4) (e := a2) (nx := 9) (r1 := 0) (r2 := 0) (r3 := 0) rfl rfl ?_
        refine wr_V (k0 := 236) (rest := []) (as := [.ref 236, vi a1, vi a2]) (nx := 12) (r1 := 231) (r2 := 2) (r3 := 11) rfl rfl rfl (of_decide_eq_true rfl) rfl rfl (by decide) rfl rfl (of_decide_eq_true rfl) (of_decide_eq_true rfl) ?_
        have e25 : h19 236 4 = h 236 4 := (u19 236 4 rfl)
        have e26 : h19 236 3 = h 236 3 := (u19 236 3 rfl)
        have e27 : h19 236 5 = h 236 5 := (u19 236 5 rfl)
        have e28 : h19 236 6 = h 236 6 := (u19 236 6 rfl)
        have e29 : h19 236 7 = h 236 7 := (u19 236 7 rfl)
        have e30 : h19 236 12 = h 236 12 := (u19 236 12 rfl)
        have rb32 := RefB.fr u19 rfl xq0
        refine ct_231_236 hcr  g19 a1 a2 (by omega) (by omega) (show (h19 236 4) ≤ (h19 236 3) by omega) (show 0 ≤ tp by omega) (show tp ≤ tn by omega) (show tp ≤ tk_nx tB tn tp ∧ tk_nx tB tn tp ≤ tn by omega) (show 1 ≤ (h19 236 8) ∨ ((h19 236 4) = tk_nx tB tn tp ∧ (h19 236 5) = tk_st tB tn tp ∧ TKk tB tn tp ((h19 236 6)) ((h19 236 7)) ((h19 236 12))) from (Or.inl (by omega))) rb32 (fun h24 z31 g24 u24 (fz31 : 0 ≤ z31 ∧ z31 ≤ 999) (p24_0 : (1 ≤ (h19 236 8) ∧ (h24 236 8) = (h19 236 8) ∧ (h24 236 9) = (h19 236 9)) ∨ ((h19 236 8) = 0 ∧ tk_kd tB tn tp = 2 ∧ a1 ≤ tk_nb tB tn tp ∧ tk_nb tB tn tp ≤ a2 ∧ z31 = tk_nb tB tn tp ∧ (h24 236 8) = (h19 236 8) ∧ (h24 236 9) = (h19 236 9) ∧ ((h24 236 4) = tk_nx tB tn (tk_nx tB tn tp) ∧ (h24 236 5) = tk_st tB tn (tk_nx tB tn tp) ∧ TKk tB tn (tk_nx tB tn tp) ((h24 236 6)) ((h24 236 7)) ((h24 236 12)))) ∨ ((h19 236 8) = 0 ∧ tk_kd tB tn tp ≠ 2 ∧ (h24 236 8) = 1 ∧ (h24 236 9) = tk_st tB tn tp) ∨ ((h19 236 8) = 0 ∧ tk_kd tB tn tp = 2 ∧ (tk_nb tB tn tp < a1 ∨ a2 < tk_nb tB tn tp) ∧ (h24 236 8) = 2 ∧ (h24 236 9) = tk_st tB tn tp)) (p24_1 : (h19 236 4) ≤ (h24 236 4)) (p24_2 : (h24 236 4) ≤ (h19 236 3)) (p24_3 : 1 ≤ (h24 236 8) ∨ (h19 236 8) = 0) (p24_4 : 1 ≤ (h24 236 8) ∨ (a1 ≤ z31 ∧ z31 ≤ a2)) (p24_5 : 1 ≤ (h24 236 8) ∨ (h19 236 6) = 2) => ?_)
        have F33 := F20.then (by decide +kernel) u24
        have b34 := gi_b (lo := 0) (hi := 5) g24 236 8 rfl
        have b35 := gi_b (lo := -2147483648) (hi := 2147483647) g24 236 9 rfl
        have b36 := gi_b (lo := 0) (hi := 800) g24 236 4 rfl
        have b37 := gi_b (lo := 0) (hi := 800) g24 236 5 rfl
        have b38 := gi_b (lo := 0) (hi := 4) g24 236 6 rfl
        have b39 := gi_b (lo := 0) (hi := 999) g24 236 7 rfl
        have b40 := gi_b (lo := -9223372036854775808) (hi := 9223372036854775807) g24 236 12 rfl
        refine wk_i ?_
        rcases p24_0 with p24_0 | p24_0 | p24_0 | p24_0
        ·
          refine wi_ireturn (nx := 13) (r1 := 0) (r2 := 0) (r3 := 0) rfl rfl ?_
          exact k h24 z31 g24 F33 (by omega) (show (1 ≤ (h 236 8) ∧ (h24 236 8) = (h 236 8) ∧ (h24 236 9) = (h 236 9)) ∨ ((h 236 8) = 0 ∧ tk_kd tB tn tp = 1 ∧ tk_sw tB tn tp = a0 ∧ tk_kd tB tn (tk_nx tB tn tp) = 2 ∧ a1 ≤ tk_nb tB tn (tk_nx tB tn tp) ∧ tk_nb tB tn (tk_nx tB tn tp) ≤ a2 ∧ z31 = tk_nb tB tn (tk_nx tB tn tp) ∧ (h24 236 8) = (h 236 8) ∧ (h24 236 9) = (h 236 9) ∧ ((h24 236 4) = tk_nx tB tn (tk_nx tB tn (tk_nx tB tn tp)) ∧ (h24 236 5) = tk_st tB tn (tk_nx tB tn (tk_nx tB tn tp)) ∧ TKk tB tn (tk_nx tB tn (tk_nx tB tn tp)) ((h24 236 6)) ((h24 236 7)) ((h24 236 12)))) ∨ ((h 236 8) = 0 ∧ (tk_kd tB tn tp ≠ 1 ∨ tk_sw tB tn tp ≠ a0) ∧ (h24 236 8) = 1 ∧ (h24 236 9) = tk_st tB tn tp) ∨ ((h 236 8) = 0 ∧ tk_kd tB tn tp = 1 ∧ tk_sw tB tn tp = a0 ∧ tk_kd tB tn (tk_nx tB tn tp) ≠ 2 ∧ (h24 236 8) = 1 ∧ (h24 236 9) = tk_st tB tn (tk_nx tB tn tp)) ∨ ((h 236 8) = 0 ∧ tk_kd tB tn tp = 1 ∧ tk_sw tB tn tp = a0 ∧ tk_kd tB tn (tk_nx tB tn tp) = 2 ∧ (tk_nb tB tn (tk_nx tB tn tp) < a1 ∨ a2 < tk_nb tB tn (tk_nx tB tn tp)) ∧ (h24 236 8) = 2 ∧ (h24 236 9) = tk_st tB tn (tk_nx tB tn tp)) from (fun x => x.elim (fun x => (Or.inr (Or.inr (Or.inl x)))) (fun x => (Or.inr (Or.inr (Or.inr (Or.inl x)))))) (show ((h 236 8) = 0 ∧ (tk_kd tB tn tp ≠ 1 ∨ tk_sw tB tn tp ≠ a0) ∧ (h24 236 8) = 1 ∧ (h24 236 9) = tk_st tB tn tp) ∨ ((h 236 8) = 0 ∧ tk_kd tB tn tp = 1 ∧ tk_sw tB tn tp = a0 ∧ tk_kd tB tn (tk_nx tB tn tp) ≠ 2 ∧ (h24 236 8) = 1 ∧ (h24 236 9) = tk_st tB tn (tk_nx tB tn tp)) by omega)) (show (h 236 4) ≤ (h24 236 4) by omega) (show (h24 236 4) ≤ (h 236 3) by omega) (show 1 ≤ (h24 236 8) ∨ (h 236 8) = 0 by omega) (show 1 ≤ (h24 236 8) ∨ (a1 ≤ z31 ∧ z31 ≤ a2) by omega)
        ·
          have tkk41 := (p24_0.2.2.2.2.2.2.2).2.2
          have tN42 := @tk_nx_b tB tn (tk_nx tB tn tp) (by omega) (by omega)
          exfalso; omega
        ·
          exfalso; omega
        ·
          exfalso; omega
      ·
        refine wi_iconst (n := 1) (nx := 25) (r1 := 0) (r2 := 0) (r3 := 0) rfl ?_
        refine wi_goto (nx := 28) (r1 := 29) (r2 := 0) (r3 := 0) rfl ?_
        refine wi_zreturn (nx := 30) (r1 := 0) (r2 := 0) (r3 := 0) rfl rfl (by omega) ?_
        refine wk_i ?_
        refine wi_istore_n (i := 3) (e := 1) (lo2 := [(3, vi 1), (0, .ref 236), (1, vl a0)]) (nx := 6) (r1 := 0) (r2 := 0) (r3 := 0) rfl rfl ?_
        refine wi_iload_n (i := 3) (e := 1) (nx := 7) (r1 := 0) (r2 := 0) (r3 := 0) rfl rfl ?_
        refine wi_if (cd := .eq) (nx := 10) (r1 := 14) (r2 := 0) (r3 := 0) rfl (by omega) (fun (q17 : 1 = 0) => by exfalso; omega) (fun (q17 : ¬ (1 = 0)) => ?_)
        refine wi_aload_n (i := 0) (x := 236) (nx := 11) (r1 := 0) (r2 := 0) (r3 := 0) rfl rfl ?_
        refine wr_V (k0 := 236) (rest := []) (as := [.ref 236]) (nx := 14) (r1 := 215) (r2 := 0) (r3 := 11) rfl rfl rfl (of_decide_eq_true rfl) rfl rfl (by decide) rfl rfl (of_decide_eq_true rfl) (of_decide_eq_true rfl) ?_
        refine ct_215_236 hcr  g   (show (h 236 4) ≤ (h 236 3) by omega) (show (h 236 4) = (tk_nx tB tn tp) by omega) (show 0 ≤ (tk_nx tB tn tp) by omega) (show (tk_nx tB tn tp) ≤ tn by omega) xq0 (fun h18 g18 u18 (p18_0 : (h 236 4) ≤ (h18 236 4)) (p18_1 : (h18 236 4) ≤ (h 236 3)) (p18_2 : ((h18 236 4) = tk_nx tB tn (tk_nx tB tn tp) ∧ (h18 236 5) = tk_st tB tn (tk_nx tB tn tp) ∧ TKk tB tn (tk_nx tB tn tp) ((h18 236 6)) ((h18 236 7)) ((h18 236 12)))) (p18_3 : (tk_nx tB tn tp) ≤ tk_nx tB tn (tk_nx tB tn tp) ∧ tk_nx tB tn (tk_nx tB tn tp) ≤ tn) => ?_)
        have F19 := F0.then (by decide +kernel) u18
        have b20 := gi_b (lo := 0) (hi := 800) g18 236 4 rfl
        have b21 := gi_b (lo := 0) (hi := 800) g18 236 5 rfl
        have b22 := gi_b (lo := 0) (hi := 4) g18 236 6 rfl
        have b23 := gi_b (lo := 0) (hi := 999) g18 236 7 rfl
        have b24 := gi_b (lo := -9223372036854775808) (hi := 9223372036854775807) g18 236 12 rfl
        have tkk25 := p18_2.2.2
        have tN26 := @tk_nx_b tB tn (tk_nx tB tn tp) (by omega) (by omega)
        refine wk_n ?_
        refine wi_iload_n (i := 3) (e := 1) (nx := 15) (r1 := 0) (r2 := 0) (r3 := 0) rfl rfl ?_
        refine wi_zreturn (nx := 16) (r1 := 0) (r2 := 0) (r3 := 0) rfl rfl (by omega) ?_
        refine wk_i ?_
        refine wi_if (cd := .ne) (nx := 15) (r1 := 20) (r2 := 0) (r3 := 0) rfl (by omega) (fun (q27 : 1 ≠ 0) => ?_) (fun (q27 : ¬ (1 ≠ 0)) => by exfalso; omega)
        refine wi_return (nx := 21) (r1 := 0) (r2 := 0) (r3 := 0) rfl rfl ?_
        refine wk_n ?_
        refine wi_aload_n (i := 0) (x := 236) (nx := 6) (r1 := 0) (r2 := 0) (r3 := 0) rfl rfl ?_
        refine wi_iload_n (i := 3) (e := a1) (nx := 7) (r1 := 0) (r2 := 0) (r3 := 0) rfl rfl ?_
        refine wi_iload (i := 4) (e := a2) (nx := 9) (r1 := 0) (r2 := 0) (r3 := 0) rfl rfl ?_
        refine wr_V (k0 := 236) (rest := []) (as := [.ref 236, vi a1, vi a2]) (nx := 12) (r1 := 231) (r2 := 2) (r3 := 11) rfl rfl rfl (of_decide_eq_true rfl) rfl rfl (by decide) rfl rfl (of_decide_eq_true rfl) (of_decide_eq_true rfl) ?_
        have e29 : h18 236 3 = h 236 3 := (u18 236 3 rfl)
        have e30 : h18 236 8 = h 236 8 := (u18 236 8 rfl)
        have rb32 := RefB.fr u18 rfl xq0
        refine ct_231_236 hcr  g18 a1 a2 (by omega) (by omega) (show (h18 236 4) ≤ (h18 236 3) by omega) (show 0 ≤ (tk_nx tB tn tp) by omega) (show (tk_nx tB tn tp) ≤ tn by omega) (show (tk_nx tB tn tp) ≤ tk_nx tB tn (tk_nx tB tn tp) ∧ tk_nx tB tn (tk_nx tB tn tp) ≤ tn by omega) (show 1 ≤ (h18 236 8) ∨ ((h18 236 4) = tk_nx tB tn (tk_nx tB tn tp) ∧ (h18 236 5) = tk_st tB tn (tk_nx tB tn tp) ∧ TKk tB tn (tk_nx tB tn tp) ((h18 236 6)) ((h18 236 7)) ((h18 236 12))) from (Or.inr (show ((h18 236 4) = tk_nx tB tn (tk_nx tB tn tp) ∧ (h18 236 5) = tk_st tB tn (tk_nx tB tn tp) ∧ TKk tB tn (tk_nx tB tn tp) ((h18 236 6)) ((h18 236 7)) ((h18 236 12))) by first | assumption | exact ⟨by omega, by omega, TKk.mv (by assumption) (by omega) (by omega) (by omega)⟩))) rb32 (fun h28 z31 g28 u28 (fz31 : 0 ≤ z31 ∧ z31 ≤ 999) (p28_0 : (1 ≤ (h18 236 8) ∧ (h28 236 8) = (h18 236 8) ∧ (h28 236 9) = (h18 236 9)) ∨ ((h18 236 8) = 0 ∧ tk_kd tB tn (tk_nx tB tn tp) = 2 ∧ a1 ≤ tk_nb tB tn (tk_nx tB tn tp) ∧ tk_nb tB tn (tk_nx tB tn tp) ≤ a2 ∧ z31 = tk_nb tB tn (tk_nx tB tn tp) ∧ (h28 236 8) = (h18 236 8) ∧ (h28 236 9) = (h18 236 9) ∧ ((h28 236 4) = tk_nx tB tn (tk_nx tB tn (tk_nx tB tn tp)) ∧ (h28 236 5) = tk_st tB tn (tk_nx tB tn (tk_nx tB tn tp)) ∧ TKk tB tn (tk_nx tB tn (tk_nx tB tn tp)) ((h28 236 6)) ((h28 236 7)) ((h28 236 12)))) ∨ ((h18 236 8) = 0 ∧ tk_kd tB tn (tk_nx tB tn tp) ≠ 2 ∧ (h28 236 8) = 1 ∧ (h28 236 9) = tk_st tB tn (tk_nx tB tn tp)) ∨ ((h18 236 8) = 0 ∧ tk_kd tB tn (tk_nx tB tn tp) = 2 ∧ (tk_nb tB tn (tk_nx tB tn tp) < a1 ∨ a2 < tk_nb tB tn (tk_nx tB tn tp)) ∧ (h28 236 8) = 2 ∧ (h28 236 9) = tk_st tB tn (tk_nx tB tn tp))) (p28_1 : (h18 236 4) ≤ (h28 236 4)) (p28_2 : (h28 236 4) ≤ (h18 236 3)) (p28_3 : 1 ≤ (h28 236 8) ∨ (h18 236 8) = 0) (p28_4 : 1 ≤ (h28 236 8) ∨ (a1 ≤ z31 ∧ z31 ≤ a2)) (p28_5 : 1 ≤ (h28 236 8) ∨ (h18 236 6) = 2) => ?_)
        have F33 := F19.then (by decide +kernel) u28
        have b34 := gi_b (lo := -2147483648) (hi := 2147483647) g 236 9 rfl
        have e35 : h18 236 9 = h 236 9 := (u18 236 9 rfl)
        have b36 := gi_b (lo := 0) (hi := 5) g28 236 8 rfl
        have b37 := gi_b (lo := -2147483648) (hi := 2147483647) g28 236 9 rfl
        have b38 := gi_b (lo := 0) (hi := 800) g28 236 4 rfl
        have b39 := gi_b (lo := 0) (hi := 800) g28 236 5 rfl
        have b40 := gi_b (lo := 0) (hi := 4) g28 236 6 rfl
        have b41 := gi_b (lo := 0) (hi := 999) g28 236 7 rfl
        have b42 := gi_b (lo := -9223372036854775808) (hi := 9223372036854775807) g28 236 12 rfl
        refine wk_i ?_
        rcases p28_0 with p28_0 | p28_0 | p28_0 | p28_0
        ·
          exfalso; omega
        ·
          have tkk43 := (p28_0.2.2.2.2.2.2.2).2.2
          have tN44 := @tk_nx_b tB tn (tk_nx tB tn (tk_nx tB tn tp)) (by omega) (by omega)
          refine wi_ireturn (nx := 13) (r1 := 0) (r2 := 0) (r3 := 0) rfl rfl ?_
          exact k h28 z31 g28 F33 (by omega) (show (1 ≤ (h 236 8) ∧ (h28 236 8) = (h 236 8) ∧ (h28 236 9) = (h 236 9)) ∨ ((h 236 8) = 0 ∧ tk_kd tB tn tp = 1 ∧ tk_sw tB tn tp = a0 ∧ tk_kd tB tn (tk_nx tB tn tp) = 2 ∧ a1 ≤ tk_nb tB tn (tk_nx tB tn tp) ∧ tk_nb tB tn (tk_nx tB tn tp) ≤ a2 ∧ z31 = tk_nb tB tn (tk_nx tB tn tp) ∧ (h28 236 8) = (h 236 8) ∧ (h28 236 9) = (h 236 9) ∧ ((h28 236 4) = tk_nx tB tn (tk_nx tB tn (tk_nx tB tn tp)) ∧ (h28 236 5) = tk_st tB tn (tk_nx tB tn (tk_nx tB tn tp)) ∧ TKk tB tn (tk_nx tB tn (tk_nx tB tn tp)) ((h28 236 6)) ((h28 236 7)) ((h28 236 12)))) ∨ ((h 236 8) = 0 ∧ (tk_kd tB tn tp ≠ 1 ∨ tk_sw tB tn tp ≠ a0) ∧ (h28 236 8) = 1 ∧ (h28 236 9) = tk_st tB tn tp) ∨ ((h 236 8) = 0 ∧ tk_kd tB tn tp = 1 ∧ tk_sw tB tn tp = a0 ∧ tk_kd tB tn (tk_nx tB tn tp) ≠ 2 ∧ (h28 236 8) = 1 ∧ (h28 236 9) = tk_st tB tn (tk_nx tB tn tp)) ∨ ((h 236 8) = 0 ∧ tk_kd tB tn tp = 1 ∧ tk_sw tB tn tp = a0 ∧ tk_kd tB tn (tk_nx tB tn tp) = 2 ∧ (tk_nb tB tn (tk_nx tB tn tp) < a1 ∨ a2 < tk_nb tB tn (tk_nx tB tn tp)) ∧ (h28 236 8) = 2 ∧ (h28 236 9) = tk_st tB tn (tk_nx tB tn tp)) from (Or.inr (Or.inl ⟨(by omega), (by omega), (by omega), (by omega), (by omega), (by omega), (by omega), (by omega), (by omega), (show ((h28 236 4) = tk_nx tB tn (tk_nx tB tn (tk_nx tB tn tp)) ∧ (h28 236 5) = tk_st tB tn (tk_nx tB tn (tk_nx tB tn tp)) ∧ TKk tB tn (tk_nx tB tn (tk_nx tB tn tp)) ((h28 236 6)) ((h28 236 7)) ((h28 236 12))) by first | assumption | exact ⟨by omega, by omega, TKk.mv (by assumption) (by omega) (by omega) (by omega)⟩)⟩))) (show (h 236 4) ≤ (h28 236 4) by omega) (show (h28 236 4) ≤ (h 236 3) by omega) (show 1 ≤ (h28 236 8) ∨ (h 236 8) = 0 by omega) (show 1 ≤ (h28 236 8) ∨ (a1 ≤ z31 ∧ z31 ≤ a2) by omega)
        ·
          refine wi_ireturn (nx := 13) (r1 := 0) (r2 := 0) (r3 := 0) rfl rfl ?_
          exact k h28 z31 g28 F33 (by omega) (show (1 ≤ (h 236 8) ∧ (h28 236 8) = (h 236 8) ∧ (h28 236 9) = (h 236 9)) ∨ ((h 236 8) = 0 ∧ tk_kd tB tn tp = 1 ∧ tk_sw tB tn tp = a0 ∧ tk_kd tB tn (tk_nx tB tn tp) = 2 ∧ a1 ≤ tk_nb tB tn (tk_nx tB tn tp) ∧ tk_nb tB tn (tk_nx tB tn tp) ≤ a2 ∧ z31 = tk_nb tB tn (tk_nx tB tn tp) ∧ (h28 236 8) = (h 236 8) ∧ (h28 236 9) = (h 236 9) ∧ ((h28 236 4) = tk_nx tB tn (tk_nx tB tn (tk_nx tB tn tp)) ∧ (h28 236 5) = tk_st tB tn (tk_nx tB tn (tk_nx tB tn tp)) ∧ TKk tB tn (tk_nx tB tn (tk_nx tB tn tp)) ((h28 236 6)) ((h28 236 7)) ((h28 236 12)))) ∨ ((h 236 8) = 0 ∧ (tk_kd tB tn tp ≠ 1 ∨ tk_sw tB tn tp ≠ a0) ∧ (h28 236 8) = 1 ∧ (h28 236 9) = tk_st tB tn tp) ∨ ((h 236 8) = 0 ∧ tk_kd tB tn tp = 1 ∧ tk_sw tB tn tp = a0 ∧ tk_kd tB tn (tk_nx tB tn tp) ≠ 2 ∧ (h28 236 8) = 1 ∧ (h28 236 9) = tk_st tB tn (tk_nx tB tn tp)) ∨ ((h 236 8) = 0 ∧ tk_kd tB tn tp = 1 ∧ tk_sw tB tn tp = a0 ∧ tk_kd tB tn (tk_nx tB tn tp) = 2 ∧ (tk_nb tB tn (tk_nx tB tn tp) < a1 ∨ a2 < tk_nb tB tn (tk_nx tB tn tp)) ∧ (h28 236 8) = 2 ∧ (h28 236 9) = tk_st tB tn (tk_nx tB tn tp)) from (fun x => x.elim (fun x => (Or.inr (Or.inr (Or.inl x)))) (fun x => (Or.inr (Or.inr (Or.inr (Or.inl x)))))) (show ((h 236 8) = 0 ∧ (tk_kd tB tn tp ≠ 1 ∨ tk_sw tB tn tp ≠ a0) ∧ (h28 236 8) = 1 ∧ (h28 236 9) = tk_st tB tn tp) ∨ ((h 236 8) = 0 ∧ tk_kd tB tn tp = 1 ∧ tk_sw tB tn tp = a0 ∧ tk_kd tB tn (tk_nx tB tn tp) ≠ 2 ∧ (h28 236 8) = 1 ∧ (h28 236 9) = tk_st tB tn (tk_nx tB tn tp)) by omega)) (show (h 236 4) ≤ (h28 236 4) by omega) (show (h28 236 4) ≤ (h 236 3) by omega) (show 1 ≤ (h28 236 8) ∨ (h 236 8) = 0 by omega) (show 1 ≤ (h28 236 8) ∨ (a1 ≤ z31 ∧ z31 ≤ a2) by omega)
        ·
          refine wi_ireturn (nx := 13) (r1 := 0) (r2 := 0) (r3 := 0) rfl rfl ?_
          exact k h28 z31 g28 F33 (by omega) (show (1 ≤ (h 236 8) ∧ (h28 236 8) = (h 236 8) ∧ (h28 236 9) = (h 236 9)) ∨ ((h 236 8) = 0 ∧ tk_kd tB tn tp = 1 ∧ tk_sw tB tn tp = a0 ∧ tk_kd tB tn (tk_nx tB tn tp) = 2 ∧ a1 ≤ tk_nb tB tn (tk_nx tB tn tp) ∧ tk_nb tB tn (tk_nx tB tn tp) ≤ a2 ∧ z31 = tk_nb tB tn (tk_nx tB tn tp) ∧ (h28 236 8) = (h 236 8) ∧ (h28 236 9) = (h 236 9) ∧ ((h28 236 4) = tk_nx tB tn (tk_nx tB tn (tk_nx tB tn tp)) ∧ (h28 236 5) = tk_st tB tn (tk_nx tB tn (tk_nx tB tn tp)) ∧ TKk tB tn (tk_nx tB tn (tk_nx tB tn tp)) ((h28 236 6)) ((h28 236 7)) ((h28 236 12)))) ∨ ((h 236 8) = 0 ∧ (tk_kd tB tn tp ≠ 1 ∨ tk_sw tB tn tp ≠ a0) ∧ (h28 236 8) = 1 ∧ (h28 236 9) = tk_st tB tn tp) ∨ ((h 236 8) = 0 ∧ tk_kd tB tn tp = 1 ∧ tk_sw tB tn tp = a0 ∧ tk_kd tB tn (tk_nx tB tn tp) ≠ 2 ∧ (h28 236 8) = 1 ∧ (h28 236 9) = tk_st tB tn (tk_nx tB tn tp)) ∨ ((h 236 8) = 0 ∧ tk_kd tB tn tp = 1 ∧ tk_sw tB tn tp = a0 ∧ tk_kd tB tn (tk_nx tB tn tp) = 2 ∧ (tk_nb tB tn (tk_nx tB tn tp) < a1 ∨ a2 < tk_nb tB tn (tk_nx tB tn tp)) ∧ (h28 236 8) = 2 ∧ (h28 236 9) = tk_st tB tn (tk_nx tB tn tp)) from (Or.inr (Or.inr (Or.inr (Or.inr (by omega)))))) (show (h 236 4) ≤ (h28 236 4) by omega) (show (h28 236 4) ≤ (h 236 3) by omega) (show 1 ≤ (h28 236 8) ∨ (h 236 8) = 0 by omega) (show 1 ≤ (h28 236 8) ∨ (a1 ≤ z31 ∧ z31 ≤ a2) by omega)
-- method 226: Model.isName()Z
set_option maxRecDepth 100000 in
set_option maxHeartbeats 100000000 in
theorem ct_226_236 {L : Nat} {xs : Nat → Int32} {d b c : Nat} {h : hp} {cr : Nat → Nat → Option Nat} {Q : hp_Q} (hcr : CR cr)  (g : GI h)    (k : ∀ (z0 : Int), (0 ≤ z0 ∧ z0 ≤ 1) → ((z0 = 1 ∧ h 236 6 = 1 ∧ tk_wd5 (h 236 12) = 21) ∨ (z0 = 0 ∧ (h 236 6 ≠ 1 ∨ tk_wd5 (h 236 12) ≠ 21))) → Q (.inl (some (vi z0))) (hp_w h cr) b c) : wp (md_xa (L, xs)) d 226 (0, [(0, .ref 236)], [], hp_w h cr, b, c) Q := by
  have F0 : FR [] h h := FR.refl
  refine wi_aload_n (i := 0) (x := 236) (nx := 1) (r1 := 0) (r2 := 0) (r3 := 0) rfl rfl ?_
  have b1 := gi_b (lo := -9223372036854775808) (hi := 9223372036854775807) g 236 12 rfl
  refine wr_gi1 (k0 := 236) (x := h 236 12) (nx := 4) (r1 := 11) (r2 := 12) (r3 := 0) rfl rfl (by decide) rfl ⟨rfl, rfl⟩ rfl rfl ?_
  refine wi_ldc2_w (e := 3650034) (nx := 7) (r1 := 3650034) (r2 := 0) (r3 := 0) rfl (by decide) ?_
  refine wi_lcmp (a := h 236 12) (e := 3650034) (nx := 8) (r1 := 0) (r2 := 0) (r3 := 0) rfl (by omega) (by omega) (fun r2 (fr2 : (r2 = -1 ∧ (h 236 12) < 3650034) ∨ (r2 = 0 ∧ (h 236 12) = 3650034) ∨ (r2 = 1 ∧ 3650034 < (h 236 12))) => ?_)
  refine wi_if (cd := .eq) (nx := 11) (r1 := 110) (r2 := 0) (r3 := 0) rfl (by omega) (fun (q3 : r2 = 0) => ?_) (fun (q3 : ¬ (r2 = 0)) => ?_)
  ·
    refine wi_iconst (n := 1) (nx := 111) (r1 := 0) (r2 := 0) (r3 := 0) rfl ?_
    refine wi_goto (nx := 114) (r1 := 115) (r2 := 0) (r3 := 0) rfl ?_
    refine wi_istore_n (i := 1) (e := 1) (lo2 := [(1, vi 1), (0, .ref 236)]) (nx := 116) (r1 := 0) (r2 := 0) (r3 := 0) rfl rfl ?_
    refine wi_iload_n (i := 1) (e := 1) (nx := 117) (r1 := 0) (r2 := 0) (r3 := 0) rfl rfl ?_
    refine wi_if (cd := .ne) (nx := 120) (r1 := 230) (r2 := 0) (r3 := 0) rfl (by omega) (fun (q4 : 1 ≠ 0) => ?_) (fun (q4 : ¬ (1 ≠ 0)) => by exfalso; omega)
    refine wi_iconst (n := 1) (nx := 231) (r1 := 0) (r2 := 0) (r3 := 0) rfl ?_
    refine wi_goto (nx := 234) (r1 := 235) (r2 := 0) (r3 := 0) rfl ?_
    refine wi_istore_n (i := 1) (e := 1) (lo2 := [(1, vi 1), (0, .ref 236)]) (nx := 236) (r1 := 0) (r2 := 0) (r3 := 0) rfl rfl ?_
    refine wi_aload_n (i := 0) (x := 236) (nx := 237) (r1 := 0) (r2 := 0) (r3 := 0) rfl rfl ?_
    have b5 := gi_b (lo := 0) (hi := 4) g 236 6 rfl
    refine wr_gi0 (k0 := 236) (x := h 236 6) (nx := 240) (r1 := 11) (r2 := 6) (r3 := 0) rfl rfl (by decide) rfl ⟨rfl, rfl⟩ rfl rfl ?_
    refine wi_iconst (n := 1) (nx := 241) (r1 := 0) (r2 := 0) (r3 := 0) rfl ?_
    refine wi_icmp (cd := .ne) (nx := 244) (r1 := 252) (r2 := 0) (r3 := 0) rfl (by omega) (by omega) (fun (q6 : (h 236 6) ≠ 1) => ?_) (fun (q6 : ¬ ((h 236 6) ≠ 1)) => ?_)
    ·
      refine wi_iconst (n := 0) (nx := 253) (r1 := 0) (r2 := 0) (r3 := 0) rfl ?_
      refine wi_zreturn (nx := 254) (r1 := 0) (r2 := 0) (r3 := 0) rfl rfl (by omega) ?_
      exact k 0 (by omega) (Or.inr ⟨rfl, Or.inl (show h 236 6 ≠ 1 by omega)⟩)
    ·
      refine wi_iload_n (i := 1) (e := 1) (nx := 245) (r1 := 0) (r2 := 0) (r3 := 0) rfl rfl ?_
      refine wi_if (cd := .ne) (nx := 248) (r1 := 252) (r2 := 0) (r3 := 0) rfl (by omega) (fun (q7 : 1 ≠ 0) => ?_) (fun (q7 : ¬ (1 ≠ 0)) => by exfalso; omega)
      refine wi_iconst (n := 0) (nx := 253) (r1 := 0) (r2 := 0) (r3 := 0) rfl ?_
      refine wi_zreturn (nx := 254) (r1 := 0) (r2 := 0) (r3 := 0) rfl rfl (by omega) ?_
      exact k 0 (by omega) (Or.inr ⟨rfl, Or.inr (by unfold tk_wd5 tk_K5; simp only [tk_ix]; rw [if_pos (by omega)]; decide)⟩)
  ·
    refine wi_aload_n (i := 0) (x := 236) (nx := 12) (r1 := 0) (r2 := 0) (r3 := 0) rfl rfl ?_
    refine wr_gi1 (k0 := 236) (x := h 236 12) (nx := 15) (r1 := 11) (r2 := 12) (r3 := 0) rfl rfl (by decide) rfl ⟨rfl, rfl⟩ rfl rfl ?_
    refine wi_ldc2_w (e := 109099237) (nx := 18) (r1 := 109099237) (r2 := 0) (r3 := 0) rfl (by decide) ?_
    refine wi_lcmp (a := h 236 12) (e := 109099237) (nx := 19) (r1 := 0) (r2 := 0) (r3 := 0) rfl (by omega) (by omega) (fun r4 (fr4 : (r4 = -1 ∧ (h 236 12) < 109099237) ∨ (r4 = 0 ∧ (h 236 12) = 109099237) ∨ (r4 = 1 ∧ 109099237 < (h 236 12))) => ?_)
    refine wi_if (cd := .eq) (nx := 22) (r1 := 110) (r2 := 0) (r3 := 0) rfl (by omega) (fun (q5 : r4 = 0) => ?_) (fun (q5 : ¬ (r4 = 0)) => ?_)
    ·
      refine wi_iconst (n := 1) (nx := 111) (r1 := 0) (r2 := 0) (r3 := 0) rfl ?_
      refine wi_goto (nx := 114) (r1 := 115) (r2 := 0) (r3 := 0) rfl ?_
      refine wi_istore_n (i := 1) (e := 1) (lo2 := [(1, vi 1), (0, .ref 236)]) (nx := 116) (r1 := 0) (r2 := 0) (r3 := 0) rfl rfl ?_
      refine wi_iload_n (i := 1) (e := 1) (nx := 117) (r1 := 0) (r2 := 0) (r3 := 0) rfl rfl ?_
      refine wi_if (cd := .ne) (nx := 120) (r1 := 230) (r2 := 0) (r3 := 0) rfl (by omega) (fun (q6 : 1 ≠ 0) => ?_) (fun (q6 : ¬ (1 ≠ 0)) => by exfalso; omega)
      refine wi_iconst (n := 1) (nx := 231) (r1 := 0) (r2 := 0) (r3 := 0) rfl ?_
      refine wi_goto (nx := 234) (r1 := 235) (r2 := 0) (r3 := 0) rfl ?_
      refine wi_istore_n (i := 1) (e := 1) (lo2 := [(1, vi 1), (0, .ref 236)]) (nx := 236) (r1 := 0) (r2 := 0) (r3 := 0) rfl rfl ?_
      refine wi_aload_n (i := 0) (x := 236) (nx := 237) (r1 := 0) (r2 := 0) (r3 := 0) rfl rfl ?_
      have b7 := gi_b (lo := 0) (hi := 4) g 236 6 rfl
      refine wr_gi0 (k0 := 236) (x := h 236 6) (nx := 240) (r1 := 11) (r2 := 6) (r3 := 0) rfl rfl (by decide) rfl ⟨rfl, rfl⟩ rfl rfl ?_
      refine wi_iconst (n := 1) (nx := 241) (r1 := 0) (r2 := 0) (r3 := 0) rfl ?_
      refine wi_icmp (cd := .ne) (nx := 244) (r1 := 252) (r2 := 0) (r3 := 0) rfl (by omega) (by omega) (fun (q8 : (h 236 6) ≠ 1) => ?_) (fun (q8 : ¬ ((h 236 6) ≠ 1)) => ?_)
      ·
        refine wi_iconst (n := 0) (nx := 253) (r1 := 0) (r2 := 0) (r3 := 0) rfl ?_
        refine wi_zreturn (nx := 254) (r1 := 0) (r2 := 0) (r3 := 0) rfl rfl (by omega) ?_
        exact k 0 (by omega) (Or.inr ⟨rfl, Or.inl (show h 236 6 ≠ 1 by omega)⟩)
      ·
        refine wi_iload_n (i := 1) (e := 1) (nx := 245) (r1 := 0) (r2 := 0) (r3 := 0) rfl rfl ?_
        refine wi_if (cd := .ne) (nx := 248) (r1 := 252) (r2 := 0) (r3 := 0) rfl (by omega) (fun (q9 : 1 ≠ 0) => ?_) (fun (q9 : ¬ (1 ≠ 0)) => by exfalso; omega)
        refine wi_iconst (n := 0) (nx := 253) (r1 := 0) (r2 := 0) (r3 := 0) rfl ?_
        refine wi_zreturn (nx := 254) (r1 := 0) (r2 := 0) (r3 := 0) rfl rfl (by omega) ?_
        exact k 0 (by omega) (Or.inr ⟨rfl, Or.inr (by unfold tk_wd5 tk_K5; simp only [tk_ix]; rw [if_neg (by omega), if_pos (by omega)]; decide)⟩)
    ·
      refine wi_aload_n (i := 0) (x := 236) (nx := 23) (r1 := 0) (r2 := 0) (r3 := 0) rfl rfl ?_
      refine wr_gi1 (k0 := 236) (x := h 236 12) (nx := 26) (r1 := 11) (r2 := 12) (r3 := 0) rfl rfl (by decide) rfl ⟨rfl, rfl⟩ rfl rfl ?_
      refine wi_ldc2_w (e := 394693) (nx := 29) (r1 := 394693) (r2 := 0) (r3 := 0) rfl (by decide) ?_
      refine wi_lcmp (a := h 236 12) (e := 394693) (nx := 30) (r1 := 0) (r2 := 0) (r3 := 0) rfl (by omega) (by omega) (fun r6 (fr6 : (r6 = -1 ∧ (h 236 12) < 394693) ∨ (r6 = 0 ∧ (h 236 12) = 394693) ∨ (r6 = 1 ∧ 394693 < (h 236 12))) => ?_)
      refine wi_if (cd := .eq) (nx := 33) (r1 := 110) (r2 := 0) (r3 := 0) rfl (by omega) (fun (q7 : r6 = 0) => ?_) (fun (q7 : ¬ (r6 = 0)) => ?_)
      ·
        refine wi_iconst (n := 1) (nx := 111) (r1 := 0) (r2 := 0) (r3 := 0) rfl ?_
        refine wi_goto (nx := 114) (r1 := 115) (r2 := 0) (r3 := 0) rfl ?_
        refine wi_istore_n (i := 1) (e := 1) (lo2 := [(1, vi 1), (0, .ref 236)]) (nx := 116) (r1 := 0) (r2 := 0) (r3 := 0) rfl rfl ?_
        refine wi_iload_n (i := 1) (e := 1) (nx := 117) (r1 := 0) (r2 := 0) (r3 := 0) rfl rfl ?_
        refine wi_if (cd := .ne) (nx := 120) (r1 := 230) (r2 := 0) (r3 := 0) rfl (by omega) (fun (q8 : 1 ≠ 0) => ?_) (fun (q8 : ¬ (1 ≠ 0)) => by exfalso; omega)
        refine wi_iconst (n := 1) (nx := 231) (r1 := 0) (r2 := 0) (r3 := 0) rfl ?_
        refine wi_goto (nx := 234) (r1 := 235) (r2 := 0) (r3 := 0) rfl ?_
        refine wi_istore_n (i := 1) (e := 1) (lo2 := [(1, vi 1), (0, .ref 236)]) (nx := 236) (r1 := 0) (r2 := 0) (r3 := 0) rfl rfl ?_
        refine wi_aload_n (i := 0) (x := 236) (nx := 237) (r1 := 0) (r2 := 0) (r3 := 0) rfl rfl ?_
        have b9 := gi_b (lo := 0) (hi := 4) g 236 6 rfl
        refine wr_gi0 (k0 := 236) (x := h 236 6) (nx := 240) (r1 := 11) (r2 := 6) (r3 := 0) rfl rfl (by decide) rfl ⟨rfl, rfl⟩ rfl rfl ?_
        refine wi_iconst (n := 1) (nx := 241) (r1 := 0) (r2 := 0) (r3 := 0) rfl ?_
        refine wi_icmp (cd := .ne) (nx := 244) (r1 := 252) (r2 := 0) (r3 := 0) rfl (by omega) (by omega) (fun (q10 : (h 236 6) ≠ 1) => ?_) (fun (q10 : ¬ ((h 236 6) ≠ 1)) => ?_)
        ·
          refine wi_iconst (n := 0) (nx := 253) (r1 := 0) (r2 := 0) (r3 := 0) rfl ?_
          refine wi_zreturn (nx := 254) (r1 := 0) (r2 := 0) (r3 := 0) rfl rfl (by omega) ?_
          exact k 0 (by omega) (Or.inr ⟨rfl, Or.inl (show h 236 6 ≠ 1 by omega)⟩)
        ·
          refine wi_iload_n (i := 1) (e := 1) (nx := 245) (r1 := 0) (r2 := 0) (r3 := 0) rfl rfl ?_
          refine wi_if (cd := .ne) (nx := 248) (r1 := 252) (r2 := 0) (r3 := 0) rfl (by omega) (fun (q11 : 1 ≠ 0) => ?_) (fun (q11 : ¬ (1 ≠ 0)) => by exfalso; omega)
          refine wi_iconst (n := 0) (nx := 253) (r1 := 0) (r2 := 0) (r3 := 0) rfl ?_
          refine wi_zreturn (nx := 254) (r1 := 0) (r2 := 0) (r3 := 0) rfl rfl (by omega) ?_
          exact k 0 (by omega) (Or.inr ⟨rfl, Or.inr (by unfold tk_wd5 tk_K5; simp only [tk_ix]; rw [if_neg (by omega), if_neg (by omega), if_pos (by omega)]; decide)⟩)
      ·
        refine wi_aload_n (i := 0) (x := 236) (nx := 34) (r1 := 0) (r2 := 0) (r3 := 0) rfl rfl ?_
        refine wr_gi1 (k0 := 236) (x := h 236 12) (nx := 37) (r1 := 11) (r2 := 12) (r3 := 0) rfl rfl (by decide) rfl ⟨rfl, rfl⟩ rfl rfl ?_
        refine wi_ldc2_w (e := 3122) (nx := 40) (r1 := 3122) (r2 := 0) (r3 := 0) rfl (by decide) ?_
        refine wi_lcmp (a := h 236 12) (e := 3122) (nx := 41) (r1 := 0) (r2 := 0) (r3 := 0) rfl (by omega) (by omega) (fun r8 (fr8 : (r8 = -1 ∧ (h 236 12) < 3122) ∨ (r8 = 0 ∧ (h 236 12) = 3122) ∨ (r8 = 1 ∧ 3122 < (h 236 12))) => ?_)
        refine wi_if (cd := .eq) (nx := 44) (r1 := 110) (r2 := 0) (r3 := 0) rfl (by omega) (fun (q9 : r8 = 0) => ?_) (fun (q9 : ¬ (r8 = 0)) => ?_)
        ·
          refine wi_iconst (n := 1) (nx := 111) (r1 := 0) (r2 := 0) (r3 := 0) rfl ?_
          refine wi_goto (nx := 114) (r1 := 115) (r2 := 0) (r3 := 0) rfl ?_
          refine wi_istore_n (i := 1) (e := 1) (lo2 := [(1, vi 1), (0, .ref 236)]) (nx := 116) (r1 := 0) (r2 := 0) (r3 := 0) rfl rfl ?_
          refine wi_iload_n (i := 1) (e := 1) (nx := 117) (r1 := 0) (r2 := 0) (r3 := 0) rfl rfl ?_
          refine wi_if (cd := .ne) (nx := 120) (r1 := 230) (r2 := 0) (r3 := 0) rfl (by omega) (fun (q10 : 1 ≠ 0) => ?_) (fun (q10 : ¬ (1 ≠ 0)) => by exfalso; omega)
          refine wi_iconst (n := 1) (nx := 231) (r1 := 0) (r2 := 0) (r3 := 0) rfl ?_
          refine wi_goto (nx := 234) (r1 := 235) (r2 := 0) (r3 := 0) rfl ?_
          refine wi_istore_n (i := 1) (e := 1) (lo2 := [(1, vi 1), (0, .ref 236)]) (nx := 236) (r1 := 0) (r2 := 0) (r3 := 0) rfl rfl ?_
          refine wi_aload_n (i := 0) (x := 236) (nx := 237) (r1 := 0) (r2 := 0) (r3 := 0) rfl rfl ?_
          have b11 := gi_b (lo := 0) (hi := 4) g 236 6 rfl
          refine wr_gi0 (k0 := 236) (x := h 236 6) (nx := 240) (r1 := 11) (r2 := 6) (r3 := 0) rfl rfl (by decide) rfl ⟨rfl, rfl⟩ rfl rfl ?_
          refine wi_iconst (n := 1) (nx := 241) (r1 := 0) (r2 := 0) (r3 := 0) rfl ?_
          refine wi_icmp (cd := .ne) (nx := 244) (r1 := 252) (r2 := 0) (r3 := 0) rfl (by omega) (by omega) (fun (q12 : (h 236 6) ≠ 1) => ?_) (fun (q12 : ¬ ((h 236 6) ≠ 1)) => ?_)
          ·
            refine wi_iconst (n := 0) (nx := 253) (r1 := 0) (r2 := 0) (r3 := 0) rfl ?_
            refine wi_zreturn (nx := 254) (r1 := 0) (r2 := 0) (r3 := 0) rfl rfl (by omega) ?_
            exact k 0 (by omega) (Or.inr ⟨rfl, Or.inl (show h 236 6 ≠ 1 by omega)⟩)
          ·
            refine wi_iload_n (i := 1) (e := 1) (nx := 245) (r1 := 0) (r2 := 0) (r3 := 0) rfl rfl ?_
            refine wi_if (cd := .ne) (nx := 248) (r1 := 252) (r2 := 0) (r3 := 0) rfl (by omega) (fun (q13 : 1 ≠ 0) => ?_) (fun (q13 : ¬ (1 ≠ 0)) => by exfalso; omega)
            refine wi_iconst (n := 0) (nx := 253) (r1 := 0) (r2 := 0) (r3 := 0) rfl ?_
            refine wi_zreturn (nx := 254) (r1 := 0) (r2 := 0) (r3 := 0) rfl rfl (by omega) ?_
            exact k 0 (by omega) (Or.inr ⟨rfl, Or.inr (by unfold tk_wd5 tk_K5; simp only [tk_ix]; rw [if_neg (by omega), if_neg (by omega), if_neg (by omega), if_pos (by omega)]; decide)⟩)
        ·
          refine wi_aload_n (i := 0) (x := 236) (nx := 45) (r1 := 0) (r2 := 0) (r3 := 0) rfl rfl ?_
          refine wr_gi1 (k0 := 236) (x := h 236 12) (nx := 48) (r1 := 11) (r2 := 12) (r3 := 0) rfl rfl (by decide) rfl ⟨rfl, rfl⟩ rfl rfl ?_
          refine wi_ldc2_w (e := 81049) (nx := 51) (r1 := 81049) (r2 := 0) (r3 := 0) rfl (by decide) ?_
          refine wi_lcmp (a := h 236 12) (e := 81049) (nx := 52) (r1 := 0) (r2 := 0) (r3 := 0) rfl (by omega) (by omega) (fun r10 (fr10 : (r10 = -1 ∧ (h 236 12) < 81049) ∨ (r10 = 0 ∧ (h 236 12) = 81049) ∨ (r10 = 1 ∧ 81049 < (h 236 12))) => ?_)
          refine wi_if (cd := .eq) (nx := 55) (r1 := 110) (r2 := 0) (r3 := 0) rfl (by omega) (fun (q11 : r10 = 0) => ?_) (fun (q11 : ¬ (r10 = 0)) => ?_)
          ·
            refine wi_iconst (n := 1) (nx := 111) (r1 := 0) (r2 := 0) (r3 := 0) rfl ?_
            refine wi_goto (nx := 114) (r1 := 115) (r2 := 0) (r3 := 0) rfl ?_
            refine wi_istore_n (i := 1) (e := 1) (lo2 := [(1, vi 1), (0, .ref 236)]) (nx := 116) (r1 := 0) (r2 := 0) (r3 := 0) rfl rfl ?_
            refine wi_iload_n (i := 1) (e := 1) (nx := 117) (r1 := 0) (r2 := 0) (r3 := 0) rfl rfl ?_
            refine wi_if (cd := .ne) (nx := 120) (r1 := 230) (r2 := 0) (r3 := 0) rfl (by omega) (fun (q12 : 1 ≠ 0) => ?_) (fun (q12 : ¬ (1 ≠ 0)) => by exfalso; omega)
            refine wi_iconst (n := 1) (nx := 231) (r1 := 0) (r2 := 0) (r3 := 0) rfl ?_
            refine wi_goto (nx := 234) (r1 := 235) (r2 := 0) (r3 := 0) rfl ?_
            refine wi_istore_n (i := 1) (e := 1) (lo2 := [(1, vi 1), (0, .ref 236)]) (nx := 236) (r1 := 0) (r2 := 0) (r3 := 0) rfl rfl ?_
            refine wi_aload_n (i := 0) (x := 236) (nx := 237) (r1 := 0) (r2 := 0) (r3 := 0) rfl rfl ?_
            have b13 := gi_b (lo := 0) (hi := 4) g 236 6 rfl
            refine wr_gi0 (k0 := 236) (x := h 236 6) (nx := 240) (r1 := 11) (r2 := 6) (r3 := 0) rfl rfl (by decide) rfl ⟨rfl, rfl⟩ rfl rfl ?_
            refine wi_iconst (n := 1) (nx := 241) (r1 := 0) (r2 := 0) (r3 := 0) rfl ?_
            refine wi_icmp (cd := .ne) (nx := 244) (r1 := 252) (r2 := 0) (r3 := 0) rfl (by omega) (by omega) (fun (q14 : (h 236 6) ≠ 1) => ?_) (fun (q14 : ¬ ((h 236 6) ≠ 1)) => ?_)
            ·
              refine wi_iconst (n := 0) (nx := 253) (r1 := 0) (r2 := 0) (r3 := 0) rfl ?_
              refine wi_zreturn (nx := 254) (r1 := 0) (r2 := 0) (r3 := 0) rfl rfl (by omega) ?_
              exact k 0 (by omega) (Or.inr ⟨rfl, Or.inl (show h 236 6 ≠ 1 by omega)⟩)
            ·
              refine wi_iload_n (i := 1) (e := 1) (nx := 245) (r1 := 0) (r2 := 0) (r3 := 0) rfl rfl ?_
              refine wi_if (cd := .ne) (nx := 248) (r1 := 252) (r2 := 0) (r3 := 0) rfl (by omega) (fun (q15 : 1 ≠ 0) => ?_) (fun (q15 : ¬ (1 ≠ 0)) => by exfalso; omega)
              refine wi_iconst (n := 0) (nx := 253) (r1 := 0) (r2 := 0) (r3 := 0) rfl ?_
              refine wi_zreturn (nx := 254) (r1 := 0) (r2 := 0) (r3 := 0) rfl rfl (by omega) ?_
              exact k 0 (by omega) (Or.inr ⟨rfl, Or.inr (by unfold tk_wd5 tk_K5; simp only [tk_ix]; rw [if_neg (by omega), if_neg (by omega), if_neg (by omega), if_neg (by omega), if_pos (by omega)]; decide)⟩)
          ·
            refine wi_aload_n (i := 0) (x := 236) (nx := 56) (r1 := 0) (r2 := 0) (r3 := 0) rfl rfl ?_
            refine wr_gi1 (k0 := 236) (x := h 236 12) (nx := 59) (r1 := 11) (r2 := 12) (r3 := 0) rfl rfl (by decide) rfl ⟨rfl, rfl⟩ rfl rfl ?_
            refine wi_ldc2_w (e := 2084) (nx := 62) (r1 := 2084) (r2 := 0) (r3 := 0) rfl (by decide) ?_
            refine wi_lcmp (a := h 236 12) (e := 2084) (nx := 63) (r1 := 0) (r2 := 0) (r3 := 0) rfl (by omega) (by omega) (fun r12 (fr12 : (r12 = -1 ∧ (h 236 12) < 2084) ∨ (r12 = 0 ∧ (h 236 12) = 2084) ∨ (r12 = 1 ∧ 2084 < (h 236 12))) => ?_)
            refine wi_if (cd := .eq) (nx := 66) (r1 := 110) (r2 := 0) (r3 := 0) rfl (by omega) (fun (q13 : r12 = 0) => ?_) (fun (q13 : ¬ (r12 = 0)) => ?_)
            ·
              refine wi_iconst (n := 1) (nx := 111) (r1 := 0) (r2 := 0) (r3 := 0) rfl ?_
              refine wi_goto (nx := 114) (r1 := 115) (r2 := 0) (r3 := 0) rfl ?_
              refine wi_istore_n (i := 1) (e := 1) (lo2 := [(1, vi 1), (0, .ref 236)]) (nx := 116) (r1 := 0) (r2 := 0) (r3 := 0) rfl rfl ?_
              refine wi_iload_n (i := 1) (e := 1) (nx := 117) (r1 := 0) (r2 := 0) (r3 := 0) rfl rfl ?_
              refine wi_if (cd := .ne) (nx := 120) (r1 := 230) (r2 := 0) (r3 := 0) rfl (by omega) (fun (q14 : 1 ≠ 0) => ?_) (fun (q14 : ¬ (1 ≠ 0)) => by exfalso; omega)
              refine wi_iconst (n := 1) (nx := 231) (r1 := 0) (r2 := 0) (r3 := 0) rfl ?_
              refine wi_goto (nx := 234) (r1 := 235) (r2 := 0) (r3 := 0) rfl ?_
              refine wi_istore_n (i := 1) (e := 1) (lo2 := [(1, vi 1), (0, .ref 236)]) (nx := 236) (r1 := 0) (r2 := 0) (r3 := 0) rfl rfl ?_
              refine wi_aload_n (i := 0) (x := 236) (nx := 237) (r1 := 0) (r2 := 0) (r3 := 0) rfl rfl ?_
              have b15 := gi_b (lo := 0) (hi := 4) g 236 6 rfl
              refine wr_gi0 (k0 := 236) (x := h 236 6) (nx := 240) (r1 := 11) (r2 := 6) (r3 := 0) rfl rfl (by decide) rfl ⟨rfl, rfl⟩ rfl rfl ?_
              refine wi_iconst (n := 1) (nx := 241) (r1 := 0) (r2 := 0) (r3 := 0) rfl ?_
              refine wi_icmp (cd := .ne) (nx := 244) (r1 := 252) (r2 := 0) (r3 := 0) rfl (by omega) (by omega) (fun (q16 : (h 236 6) ≠ 1) => ?_) (fun (q16 : ¬ ((h 236 6) ≠ 1)) => ?_)
              ·
                refine wi_iconst (n := 0) (nx := 253) (r1 := 0) (r2 := 0) (r3 := 0) rfl ?_
                refine wi_zreturn (nx := 254) (r1 := 0) (r2 := 0) (r3 := 0) rfl rfl (by omega) ?_
                exact k 0 (by omega) (Or.inr ⟨rfl, Or.inl (show h 236 6 ≠ 1 by omega)⟩)
              ·
                refine wi_iload_n (i := 1) (e := 1) (nx := 245) (r1 := 0) (r2 := 0) (r3 := 0) rfl rfl ?_
                refine wi_if (cd := .ne) (nx := 248) (r1 := 252) (r2 := 0) (r3 := 0) rfl (by omega) (fun (q17 : 1 ≠ 0) => ?_) (fun (q17 : ¬ (1 ≠ 0)) => by exfalso; omega)
                refine wi_iconst (n := 0) (nx := 253) (r1 := 0) (r2 := 0) (r3 := 0) rfl ?_
                refine wi_zreturn (nx := 254) (r1 := 0) (r2 := 0) (r3 := 0) rfl rfl (by omega) ?_
                exact k 0 (by omega) (Or.inr ⟨rfl, Or.inr (by unfold tk_wd5 tk_K5; simp only [tk_ix]; rw [if_neg (by omega), if_neg (by omega), if_neg (by omega), if_neg (by omega), if_neg (by omega), if_pos (by omega)]; decide)⟩)
            ·
              refine wi_aload_n (i := 0) (x := 236) (nx := 67) (r1 := 0) (r2 := 0) (r3 := 0) rfl rfl ?_
              refine wr_gi1 (k0 := 236) (x := h 236 12) (nx := 70) (r1 := 11) (r2 := 12) (r3 := 0) rfl rfl (by decide) rfl ⟨rfl, rfl⟩ rfl rfl ?_
              refine wi_ldc2_w (e := 781652471) (nx := 73) (r1 := 781652471) (r2 := 0) (r3 := 0) rfl (by decide) ?_
              refine wi_lcmp (a := h 236 12) (e := 781652471) (nx := 74) (r1 := 0) (r2 := 0) (r3 := 0) rfl (by omega) (by omega) (fun r14 (fr14 : (r14 = -1 ∧ (h 236 12) < 781652471) ∨ (r14 = 0 ∧ (h 236 12) = 781652471) ∨ (r14 = 1 ∧ 781652471 < (h 236 12))) => ?_)
              refine wi_if (cd := .eq) (nx := 77) (r1 := 110) (r2 := 0) (r3 := 0) rfl (by omega) (fun (q15 : r14 = 0) => ?_) (fun (q15 : ¬ (r14 = 0)) => ?_)
              ·
                refine wi_iconst (n := 1) (nx := 111) (r1 := 0) (r2 := 0) (r3 := 0) rfl ?_
                refine wi_goto (nx := 114) (r1 := 115) (r2 := 0) (r3 := 0) rfl ?_
                refine wi_istore_n (i := 1) (e := 1) (lo2 := [(1, vi 1), (0, .ref 236)]) (nx := 116) (r1 := 0) (r2 := 0) (r3 := 0) rfl rfl ?_
                refine wi_iload_n (i := 1) (e := 1) (nx := 117) (r1 := 0) (r2 := 0) (r3 := 0) rfl rfl ?_
                refine wi_if (cd := .ne) (nx := 120) (r1 := 230) (r2 := 0) (r3 := 0) rfl (by omega) (fun (q16 : 1 ≠ 0) => ?_) (fun (q16 : ¬ (1 ≠ 0)) => by exfalso; omega)
                refine wi_iconst (n := 1) (nx := 231) (r1 := 0) (r2 := 0) (r3 := 0) rfl ?_
                refine wi_goto (nx := 234) (r1 := 235) (r2 := 0) (r3 := 0) rfl ?_
                refine wi_istore_n (i := 1) (e := 1) (lo2 := [(1, vi 1), (0, .ref 236)]) (nx := 236) (r1 := 0) (r2 := 0) (r3 := 0) rfl rfl ?_
                refine wi_aload_n (i := 0) (x := 236) (nx := 237) (r1 := 0) (r2 := 0) (r3 := 0) rfl rfl ?_
                have b17 := gi_b (lo := 0) (hi := 4) g 236 6 rfl
                refine wr_gi0 (k0 := 236) (x := h 236 6) (nx := 240) (r1 := 11) (r2 := 6) (r3 := 0) rfl rfl (by decide) rfl ⟨rfl, rfl⟩ rfl rfl ?_
                refine wi_iconst (n := 1) (nx := 241) (r1 := 0) (r2 := 0) (r3 := 0) rfl ?_
                refine wi_icmp (cd := .ne) (nx := 244) (r1 := 252) (r2 := 0) (r3 := 0) rfl (by omega) (by omega) (fun (q18 : (h 236 6) ≠ 1) => ?_) (fun (q18 : ¬ ((h 236 6) ≠ 1)) => ?_)
                ·
                  refine wi_iconst (n := 0) (nx := 253) (r1 := 0) (r2 := 0) (r3 := 0) rfl ?_
                  refine wi_zreturn (nx := 254) (r1 := 0) (r2 := 0) (r3 := 0) rfl rfl (by omega) ?_
                  exact k 0 (by omega) (Or.inr ⟨rfl, Or.inl (show h 236 6 ≠ 1 by omega)⟩)
                ·
                  refine wi_iload_n (i := 1) (e := 1) (nx := 245) (r1 := 0) (r2 := 0) (r3 := 0) rfl rfl ?_
                  refine wi_if (cd := .ne) (nx := 248) (r1 := 252) (r2 := 0) (r3 := 0) rfl (by omega) (fun (q19 : 1 ≠ 0) => ?_) (fun (q19 : ¬ (1 ≠ 0)) => by exfalso; omega)
                  refine wi_iconst (n := 0) (nx := 253) (r1 := 0) (r2 := 0) (r3 := 0) rfl ?_
                  refine wi_zreturn (nx := 254) (r1 := 0) (r2 := 0) (r3 := 0) rfl rfl (by omega) ?_
                  exact k 0 (by omega) (Or.inr ⟨rfl, Or.inr (by unfold tk_wd5 tk_K5; simp only [tk_ix]; rw [if_neg (by omega), if_neg (by omega), if_neg (by omega), if_neg (by omega), if_neg (by omega), if_neg (by omega), if_pos (by omega)]; decide)⟩)
              ·
                refine wi_aload_n (i := 0) (x := 236) (nx := 78) (r1 := 0) (r2 := 0) (r3 := 0) rfl rfl ?_
                refine wr_gi1 (k0 := 236) (x := h 236 12) (nx := 81) (r1 := 11) (r2 := 12) (r3 := 0) rfl rfl (by decide) rfl ⟨rfl, rfl⟩ rfl rfl ?_
                refine wi_ldc2_w (e := 2150504) (nx := 84) (r1 := 2150504) (r2 := 0) (r3 := 0) rfl (by decide) ?_
                refine wi_lcmp (a := h 236 12) (e := 2150504) (nx := 85) (r1 := 0) (r2 := 0) (r3 := 0) rfl (by omega) (by omega) (fun r16 (fr16 : (r16 = -1 ∧ (h 236 12) < 2150504) ∨ (r16 = 0 ∧ (h 236 12) = 2150504) ∨ (r16 = 1 ∧ 2150504 < (h 236 12))) => ?_)
                refine wi_if (cd := .eq) (nx := 88) (r1 := 110) (r2 := 0) (r3 := 0) rfl (by omega) (fun (q17 : r16 = 0) => ?_) (fun (q17 : ¬ (r16 = 0)) => ?_)
                ·
                  refine wi_iconst (n := 1) (nx := 111) (r1 := 0) (r2 := 0) (r3 := 0) rfl ?_
                  refine wi_goto (nx := 114) (r1 := 115) (r2 := 0) (r3 := 0) rfl ?_
                  refine wi_istore_n (i := 1) (e := 1) (lo2 := [(1, vi 1), (0, .ref 236)]) (nx := 116) (r1 := 0) (r2 := 0) (r3 := 0) rfl rfl ?_
                  refine wi_iload_n (i := 1) (e := 1) (nx := 117) (r1 := 0) (r2 := 0) (r3 := 0) rfl rfl ?_
                  refine wi_if (cd := .ne) (nx := 120) (r1 := 230) (r2 := 0) (r3 := 0) rfl (by omega) (fun (q18 : 1 ≠ 0) => ?_) (fun (q18 : ¬ (1 ≠ 0)) => by exfalso; omega)
                  refine wi_iconst (n := 1) (nx := 231) (r1 := 0) (r2 := 0) (r3 := 0) rfl ?_
                  refine wi_goto (nx := 234) (r1 := 235) (r2 := 0) (r3 := 0) rfl ?_
                  refine wi_istore_n (i := 1) (e := 1) (lo2 := [(1, vi 1), (0, .ref 236)]) (nx := 236) (r1 := 0) (r2 := 0) (r3 := 0) rfl rfl ?_
                  refine wi_aload_n (i := 0) (x := 236) (nx := 237) (r1 := 0) (r2 := 0) (r3 := 0) rfl rfl ?_
                  have b19 := gi_b (lo := 0) (hi := 4) g 236 6 rfl
                  refine wr_gi0 (k0 := 236) (x := h 236 6) (nx := 240) (r1 := 11) (r2 := 6) (r3 := 0) rfl rfl (by decide) rfl ⟨rfl, rfl⟩ rfl rfl ?_
                  refine wi_iconst (n := 1) (nx := 241) (r1 := 0) (r2 := 0) (r3 := 0) rfl ?_
                  refine wi_icmp (cd := .ne) (nx := 244) (r1 := 252) (r2 := 0) (r3 := 0) rfl (by omega) (by omega) (fun (q20 : (h 236 6) ≠ 1) => ?_) (fun (q20 : ¬ ((h 236 6) ≠ 1)) => ?_)
                  ·
                    refine wi_iconst (n := 0) (nx := 253) (r1 := 0) (r2 := 0) (r3 := 0) rfl ?_
                    refine wi_zreturn (nx := 254) (r1 := 0) (r2 := 0) (r3 := 0) rfl rfl (by omega) ?_
                    exact k 0 (by omega) (Or.inr ⟨rfl, Or.inl (show h 236 6 ≠ 1 by omega)⟩)
                  ·
                    refine wi_iload_n (i := 1) (e := 1) (nx := 245) (r1 := 0) (r2 := 0) (r3 := 0) rfl rfl ?_
                    refine wi_if (cd := .ne) (nx := 248) (r1 := 252) (r2 := 0) (r3 := 0) rfl (by omega) (fun (q21 : 1 ≠ 0) => ?_) (fun (q21 : ¬ (1 ≠ 0)) => by exfalso; omega)
                    refine wi_iconst (n := 0) (nx := 253) (r1 := 0) (r2 := 0) (r3 := 0) rfl ?_
                    refine wi_zreturn (nx := 254) (r1 := 0) (r2 := 0) (r3 := 0) rfl rfl (by omega) ?_
                    exact k 0 (by omega) (Or.inr ⟨rfl, Or.inr (by unfold tk_wd5 tk_K5; simp only [tk_ix]; rw [if_neg (by omega), if_neg (by omega), if_neg (by omega), if_neg (by omega), if_neg (by omega), if_neg (by omega), if_neg (by omega), if_pos (by omega)]; decide)⟩)
                ·
                  refine wi_aload_n (i := 0) (x := 236) (nx := 89) (r1 := 0) (r2 := 0) (r3 := 0) rfl rfl ?_
                  refine wr_gi1 (k0 := 236) (x := h 236 12) (nx := 92) (r1 := 11) (r2 := 12) (r3 := 0) rfl rfl (by decide) rfl ⟨rfl, rfl⟩ rfl rfl ?_
                  refine wi_ldc2_w (e := 17484005) (nx := 95) (r1 := 17484005) (r2 := 0) (r3 := 0) rfl (by decide) ?_
                  refine wi_lcmp (a := h 236 12) (e := 17484005) (nx := 96) (r1 := 0) (r2 := 0) (r3 := 0) rfl (by omega) (by omega) (fun r18 (fr18 : (r18 = -1 ∧ (h 236 12) < 17484005) ∨ (r18 = 0 ∧ (h 236 12) = 17484005) ∨ (r18 = 1 ∧ 17484005 < (h 236 12))) => ?_)
                  refine wi_if (cd := .eq) (nx := 99) (r1 := 110) (r2 := 0) (r3 := 0) rfl (by omega) (fun (q19 : r18 = 0) => ?_) (fun (q19 : ¬ (r18 = 0)) => ?_)
                  ·
                    refine wi_iconst (n := 1) (nx := 111) (r1 := 0) (r2 := 0) (r3 := 0) rfl ?_
                    refine wi_goto (nx := 114) (r1 := 115) (r2 := 0) (r3 := 0) rfl ?_
                    refine wi_istore_n (i := 1) (e := 1) (lo2 := [(1, vi 1), (0, .ref 236)]) (nx := 116) (r1 := 0) (r2 := 0) (r3 := 0) rfl rfl ?_
                    refine wi_iload_n (i := 1) (e := 1) (nx := 117) (r1 := 0) (r2 := 0) (r3 := 0) rfl rfl ?_
                    refine wi_if (cd := .ne) (nx := 120) (r1 := 230) (r2 := 0) (r3 := 0) rfl (by omega) (fun (q20 : 1 ≠ 0) => ?_) (fun (q20 : ¬ (1 ≠ 0)) => by exfalso; omega)
                    refine wi_iconst (n := 1) (nx := 231) (r1 := 0) (r2 := 0) (r3 := 0) rfl ?_
                    refine wi_goto (nx := 234) (r1 := 235) (r2 := 0) (r3 := 0) rfl ?_
                    refine wi_istore_n (i := 1) (e := 1) (lo2 := [(1, vi 1), (0, .ref 236)]) (nx := 236) (r1 := 0) (r2 := 0) (r3 := 0) rfl rfl ?_
                    refine wi_aload_n (i := 0) (x := 236) (nx := 237) (r1 := 0) (r2 := 0) (r3 := 0) rfl rfl ?_
                    have b21 := gi_b (lo := 0) (hi := 4) g 236 6 rfl
                    refine wr_gi0 (k0 := 236) (x := h 236 6) (nx := 240) (r1 := 11) (r2 := 6) (r3 := 0) rfl rfl (by decide) rfl ⟨rfl, rfl⟩ rfl rfl ?_
                    refine wi_iconst (n := 1) (nx := 241) (r1 := 0) (r2 := 0) (r3 := 0) rfl ?_
                    refine wi_icmp (cd := .ne) (nx := 244) (r1 := 252) (r2 := 0) (r3 := 0) rfl (by omega) (by omega) (fun (q22 : (h 236 6) ≠ 1) => ?_) (fun (q22 : ¬ ((h 236 6) ≠ 1)) => ?_)
                    ·
                      refine wi_iconst (n := 0) (nx := 253) (r1 := 0) (r2 := 0) (r3 := 0) rfl ?_
                      refine wi_zreturn (nx := 254) (r1 := 0) (r2 := 0) (r3 := 0) rfl rfl (by omega) ?_
                      exact k 0 (by omega) (Or.inr ⟨rfl, Or.inl (show h 236 6 ≠ 1 by omega)⟩)
                    ·
                      refine wi_iload_n (i := 1) (e := 1) (nx := 245) (r1 := 0) (r2 := 0) (r3 := 0) rfl rfl ?_
                      refine wi_if (cd := .ne) (nx := 248) (r1 := 252) (r2 := 0) (r3 := 0) rfl (by omega) (fun (q23 : 1 ≠ 0) => ?_) (fun (q23 : ¬ (1 ≠ 0)) => by exfalso; omega)
                      refine wi_iconst (n := 0) (nx := 253) (r1 := 0) (r2 := 0) (r3 := 0) rfl ?_
                      refine wi_zreturn (nx := 254) (r1 := 0) (r2 := 0) (r3 := 0) rfl rfl (by omega) ?_
                      exact k 0 (by omega) (Or.inr ⟨rfl, Or.inr (by unfold tk_wd5 tk_K5; simp only [tk_ix]; rw [if_neg (by omega), if_neg (by omega), if_neg (by omega), if_neg (by omega), if_neg (by omega), if_neg (by omega), if_neg (by omega), if_neg (by omega), if_pos (by omega)]; decide)⟩)
                  ·
                    refine wi_aload_n (i := 0) (x := 236) (nx := 100) (r1 := 0) (r2 := 0) (r3 := 0) rfl rfl ?_
                    refine wr_gi1 (k0 := 236) (x := h 236 12) (nx := 103) (r1 := 11) (r2 := 12) (r3 := 0) rfl rfl (by decide) rfl ⟨rfl, rfl⟩ rfl rfl ?_
                    refine wi_ldc2_w (e := 609992267) (nx := 106) (r1 := 609992267) (r2 := 0) (r3 := 0) rfl (by decide) ?_
                    refine wi_lcmp (a := h 236 12) (e := 609992267) (nx := 107) (r1 := 0) (r2 := 0) (r3 := 0) rfl (by omega) (by omega) (fun r20 (fr20 : (r20 = -1 ∧ (h 236 12) < 609992267) ∨ (r20 = 0 ∧ (h 236 12) = 609992267) ∨ (r20 = 1 ∧ 609992267 < (h 236 12))) => ?_)
                    refine wi_if (cd := .ne) (nx := 110) (r1 := 114) (r2 := 0) (r3 := 0) rfl (by omega) (fun (q21 : r20 ≠ 0) => ?_) (fun (q21 : ¬ (r20 ≠ 0)) => ?_)
                    ·
                      refine wi_iconst (n := 0) (nx := 115) (r1 := 0) (r2 := 0) (r3 := 0) rfl ?_
                      refine wi_istore_n (i := 1) (e := 0) (lo2 := [(1, vi 0), (0, .ref 236)]) (nx := 116) (r1 := 0) (r2 := 0) (r3 := 0) rfl rfl ?_
                      refine wi_iload_n (i := 1) (e := 0) (nx := 117) (r1 := 0) (r2 := 0) (r3 := 0) rfl rfl ?_
                      refine wi_if (cd := .ne) (nx := 120) (r1 := 230) (r2 := 0) (r3 := 0) rfl (by omega) (fun (q22 : 0 ≠ 0) => by exfalso; omega) (fun (q22 : ¬ (0 ≠ 0)) => ?_)
                      refine wi_aload_n (i := 0) (x := 236) (nx := 121) (r1 := 0) (r2 := 0) (r3 := 0) rfl rfl ?_
                      refine wr_gi1 (k0 := 236) (x := h 236 12) (nx := 124) (r1 := 11) (r2 := 12) (r3 := 0) rfl rfl (by decide) rfl ⟨rfl, rfl⟩ rfl rfl ?_
                      refine wi_ldc2_w (e := 4370489) (nx := 127) (r1 := 4370489) (r2 := 0) (r3 := 0) rfl (by decide) ?_
                      refine wi_lcmp (a := h 236 12) (e := 4370489) (nx := 128) (r1 := 0) (r2 := 0) (r3 := 0) rfl (by omega) (by omega) (fun r23 (fr23 : (r23 = -1 ∧ (h 236 12) < 4370489) ∨ (r23 = 0 ∧ (h 236 12) = 4370489) ∨ (r23 = 1 ∧ 4370489 < (h 236 12))) => ?_)
                      refine wi_if (cd := .eq) (nx := 131) (r1 := 230) (r2 := 0) (r3 := 0) rfl (by omega) (fun (q24 : r23 = 0) => ?_) (fun (q24 : ¬ (r23 = 0)) => ?_)
                      ·
                        refine wi_iconst (n := 1) (nx := 231) (r1 := 0) (r2 := 0) (r3 := 0) rfl ?_
                        refine wi_goto (nx := 234) (r1 := 235) (r2 := 0) (r3 := 0) rfl ?_
                        refine wi_istore_n (i := 1) (e := 1) (lo2 := [(1, vi 1), (0, .ref 236)]) (nx := 236) (r1 := 0) (r2 := 0) (r3 := 0) rfl rfl ?_
                        refine wi_aload_n (i := 0) (x := 236) (nx := 237) (r1 := 0) (r2 := 0) (r3 := 0) rfl rfl ?_
                        have b25 := gi_b (lo := 0) (hi := 4) g 236 6 rfl
                        refine wr_gi0 (k0 := 236) (x := h 236 6) (nx := 240) (r1 := 11) (r2 := 6) (r3 := 0) rfl rfl (by decide) rfl ⟨rfl, rfl⟩ rfl rfl ?_
                        refine wi_iconst (n := 1) (nx := 241) (r1 := 0) (r2 := 0) (r3 := 0) rfl ?_
                        refine wi_icmp (cd := .ne) (nx := 244) (r1 := 252) (r2 := 0) (r3 := 0) rfl (by omega) (by omega) (fun (q26 : (h 236 6) ≠ 1) => ?_) (fun (q26 : ¬ ((h 236 6) ≠ 1)) => ?_)
                        ·
                          refine wi_iconst (n := 0) (nx := 253) (r1 := 0) (r2 := 0) (r3 := 0) rfl ?_
                          refine wi_zreturn (nx := 254) (r1 := 0) (r2 := 0) (r3 := 0) rfl rfl (by omega) ?_
                          exact k 0 (by omega) (Or.inr ⟨rfl, Or.inl (show h 236 6 ≠ 1 by omega)⟩)
                        ·
                          refine wi_iload_n (i := 1) (e := 1) (nx := 245) (r1 := 0) (r2 := 0) (r3 := 0) rfl rfl ?_
                          refine wi_if (cd := .ne) (nx := 248) (r1 := 252) (r2 := 0) (r3 := 0) rfl (by omega) (fun (q27 : 1 ≠ 0) => ?_) (fun (q27 : ¬ (1 ≠ 0)) => by exfalso; omega)
                          refine wi_iconst (n := 0) (nx := 253) (r1 := 0) (r2 := 0) (r3 := 0) rfl ?_
                          refine wi_zreturn (nx := 254) (r1 := 0) (r2 := 0) (r3 := 0) rfl rfl (by omega) ?_
                          exact k 0 (by omega) (Or.inr ⟨rfl, Or.inr (by unfold tk_wd5 tk_K5; simp only [tk_ix]; rw [if_neg (by omega), if_neg (by omega), if_neg (by omega), if_neg (by omega), if_neg (by omega), if_neg (by omega), if_neg (by omega), if_neg (by omega), if_neg (by omega), if_neg (by omega), if_pos (by omega)]; decide)⟩)
                      ·
                        refine wi_aload_n (i := 0) (x := 236) (nx := 132) (r1 := 0) (r2 := 0) (r3 := 0) rfl rfl ?_
                        refine wr_gi1 (k0 := 236) (x := h 236 12) (nx := 135) (r1 := 11) (r2 := 12) (r3 := 0) rfl rfl (by decide) rfl ⟨rfl, rfl⟩ rfl rfl ?_
                        refine wi_ldc2_w (e := 639022) (nx := 138) (r1 := 639022) (r2 := 0) (r3 := 0) rfl (by decide) ?_
                        refine wi_lcmp (a := h 236 12) (e := 639022) (nx := 139) (r1 := 0) (r2 := 0) (r3 := 0) rfl (by omega) (by omega) (fun r25 (fr25 : (r25 = -1 ∧ (h 236 12) < 639022) ∨ (r25 = 0 ∧ (h 236 12) = 639022) ∨ (r25 = 1 ∧ 639022 < (h 236 12))) => ?_)
                        refine wi_if (cd := .eq) (nx := 142) (r1 := 230) (r2 := 0) (r3 := 0) rfl (by omega) (fun (q26 : r25 = 0) => ?_) (fun (q26 : ¬ (r25 = 0)) => ?_)
                        ·
                          refine wi_iconst (n := 1) (nx := 231) (r1 := 0) (r2 := 0) (r3 := 0) rfl ?_
                          refine wi_goto (nx := 234) (r1 := 235) (r2 := 0) (r3 := 0) rfl ?_
                          refine wi_istore_n (i := 1) (e := 1) (lo2 := [(1, vi 1), (0, .ref 236)]) (nx := 236) (r1 := 0) (r2 := 0) (r3 := 0) rfl rfl ?_
                          refine wi_aload_n (i := 0) (x := 236) (nx := 237) (r1 := 0) (r2 := 0) (r3 := 0) rfl rfl ?_
                          have b27 := gi_b (lo := 0) (hi := 4) g 236 6 rfl
                          refine wr_gi0 (k0 := 236) (x := h 236 6) (nx := 240) (r1 := 11) (r2 := 6) (r3 := 0) rfl rfl (by decide) rfl ⟨rfl, rfl⟩ rfl rfl ?_
                          refine wi_iconst (n := 1) (nx := 241) (r1 := 0) (r2 := 0) (r3 := 0) rfl ?_
                          refine wi_icmp (cd := .ne) (nx := 244) (r1 := 252) (r2 := 0) (r3 := 0) rfl (by omega) (by omega) (fun (q28 : (h 236 6) ≠ 1) => ?_) (fun (q28 : ¬ ((h 236 6) ≠ 1)) => ?_)
                          ·
                            refine wi_iconst (n := 0) (nx := 253) (r1 := 0) (r2 := 0) (r3 := 0) rfl ?_
                            refine wi_zreturn (nx := 254) (r1 := 0) (r2 := 0) (r3 := 0) rfl rfl (by omega) ?_
                            exact k 0 (by omega) (Or.inr ⟨rfl, Or.inl (show h 236 6 ≠ 1 by omega)⟩)
                          ·
                            refine wi_iload_n (i := 1) (e := 1) (nx := 245) (r1 := 0) (r2 := 0) (r3 := 0) rfl rfl ?_
                            refine wi_if (cd := .ne) (nx := 248) (r1 := 252) (r2 := 0) (r3 := 0) rfl (by omega) (fun (q29 : 1 ≠ 0) => ?_) (fun (q29 : ¬ (1 ≠ 0)) => by exfalso; omega)
                            refine wi_iconst (n := 0) (nx := 253) (r1 := 0) (r2 := 0) (r3 := 0) rfl ?_
                            refine wi_zreturn (nx := 254) (r1 := 0) (r2 := 0) (r3 := 0) rfl rfl (by omega) ?_
                            exact k 0 (by omega) (Or.inr ⟨rfl, Or.inr (by unfold tk_wd5 tk_K5; simp only [tk_ix]; rw [if_neg (by omega), if_neg (by omega), if_neg (by omega), if_neg (by omega), if_neg (by omega), if_neg (by omega), if_neg (by omega), if_neg (by omega), if_neg (by omega), if_neg (by omega), if_neg (by omega), if_pos (by omega)]; decide)⟩)
                        ·
                          refine wi_aload_n (i := 0) (x := 236) (nx := 143) (r1 := 0) (r2 := 0) (r3 := 0) rfl rfl ?_
                          refine wr_gi1 (k0 := 236) (x := h 236 12) (nx := 146) (r1 := 11) (r2 := 12) (r3 := 0) rfl rfl (by decide) rfl ⟨rfl, rfl⟩ rfl rfl ?_
                          refine wi_ldc2_w (e := 5722290) (nx := 149) (r1 := 5722290) (r2 := 0) (r3 := 0) rfl (by decide) ?_
                          refine wi_lcmp (a := h 236 12) (e := 5722290) (nx := 150) (r1 := 0) (r2 := 0) (r3 := 0) rfl (by omega) (by omega) (fun r27 (fr27 : (r27 = -1 ∧ (h 236 12) < 5722290) ∨ (r27 = 0 ∧ (h 236 12) = 5722290) ∨ (r27 = 1 ∧ 5722290 < (h 236 12))) => ?_)
                          refine wi_if (cd := .eq) (nx := 153) (r1 := 230) (r2 := 0) (r3 := 0) rfl (by omega) (fun (q28 : r27 = 0) => ?_) (fun (q28 : ¬ (r27 = 0)) => ?_)
                          ·
                            refine wi_iconst (n := 1) (nx := 231) (r1 := 0) (r2 := 0) (r3 := 0) rfl ?_
                            refine wi_goto (nx := 234) (r1 := 235) (r2 := 0) (r3 := 0) rfl ?_
                            refine wi_istore_n (i := 1) (e := 1) (lo2 := [(1, vi 1), (0, .ref 236)]) (nx := 236) (r1 := 0) (r2 := 0) (r3 := 0) rfl rfl ?_
                            refine wi_aload_n (i := 0) (x := 236) (nx := 237) (r1 := 0) (r2 := 0) (r3 := 0) rfl rfl ?_
                            have b29 := gi_b (lo := 0) (hi := 4) g 236 6 rfl
                            refine wr_gi0 (k0 := 236) (x := h 236 6) (nx := 240) (r1 := 11) (r2 := 6) (r3 := 0) rfl rfl (by decide) rfl ⟨rfl, rfl⟩ rfl rfl ?_
                            refine wi_iconst (n := 1) (nx := 241) (r1 := 0) (r2 := 0) (r3 := 0) rfl ?_
                            refine wi_icmp (cd := .ne) (nx := 244) (r1 := 252) (r2 := 0) (r3 := 0) rfl (by omega) (by omega) (fun (q30 : (h 236 6) ≠ 1) => ?_) (fun (q30 : ¬ ((h 236 6) ≠ 1)) => ?_)
                            ·
                              refine wi_iconst (n := 0) (nx := 253) (r1 := 0) (r2 := 0) (r3 := 0) rfl ?_
                              refine wi_zreturn (nx := 254) (r1 := 0) (r2 := 0) (r3 := 0) rfl rfl (by omega) ?_
                              exact k 0 (by omega) (Or.inr ⟨rfl, Or.inl (show h 236 6 ≠ 1 by omega)⟩)
                            ·
                              refine wi_iload_n (i := 1) (e := 1) (nx := 245) (r1 := 0) (r2 := 0) (r3 := 0) rfl rfl ?_
                              refine wi_if (cd := .ne) (nx := 248) (r1 := 252) (r2 := 0) (r3 := 0) rfl (by omega) (fun (q31 : 1 ≠ 0) => ?_) (fun (q31 : ¬ (1 ≠ 0)) => by exfalso; omega)
                              refine wi_iconst (n := 0) (nx := 253) (r1 := 0) (r2 := 0) (r3 := 0) rfl ?_
                              refine wi_zreturn (nx := 254) (r1 := 0) (r2 := 0) (r3 := 0) rfl rfl (by omega) ?_
                              exact k 0 (by omega) (Or.inr ⟨rfl, Or.inr (by unfold tk_wd5 tk_K5; simp only [tk_ix]; rw [if_neg (by omega), if_neg (by omega), if_neg (by omega), if_neg (by omega), if_neg (by omega), if_neg (by omega), if_neg (by omega), if_neg (by omega), if_neg (by omega), if_neg (by omega), if_neg (by omega), if_neg (by omega), if_pos (by omega)]; decide)⟩)
                          ·
                            refine wi_aload_n (i := 0) (x := 236) (nx := 154) (r1 := 0) (r2 := 0) (r3 := 0) rfl rfl ?_
                            refine wr_gi1 (k0 := 236) (x := h 236 12) (nx := 157) (r1 := 11) (r2 := 12) (r3 := 0) rfl rfl (by decide) rfl ⟨rfl, rfl⟩ rfl rfl ?_
                            refine wi_ldc2_w (e := 12748485) (nx := 160) (r1 := 12748485) (r2 := 0) (r3 := 0) rfl (by decide) ?_
                            refine wi_lcmp (a := h 236 12) (e := 12748485) (nx := 161) (r1 := 0) (r2 := 0) (r3 := 0) rfl (by omega) (by omega) (fun r29 (fr29 : (r29 = -1 ∧ (h 236 12) < 12748485) ∨ (r29 = 0 ∧ (h 236 12) = 12748485) ∨ (r29 = 1 ∧ 12748485 < (h 236 12))) => ?_)
                            refine wi_if (cd := .eq) (nx := 164) (r1 := 230) (r2 := 0) (r3 := 0) rfl (by omega) (fun (q30 : r29 = 0) => ?_) (fun (q30 : ¬ (r29 = 0)) => ?_)
                            ·
                              refine wi_iconst (n := 1) (nx := 231) (r1 := 0) (r2 := 0) (r3 := 0) rfl ?_
                              refine wi_goto (nx := 234) (r1 := 235) (r2 := 0) (r3 := 0) rfl ?_
                              refine wi_istore_n (i := 1) (e := 1) (lo2 := [(1, vi 1), (0, .ref 236)]) (nx := 236) (r1 := 0) (r2 := 0) (r3 := 0) rfl rfl ?_
                              refine wi_aload_n (i := 0) (x := 236) (nx := 237) (r1 := 0) (r2 := 0) (r3 := 0) rfl rfl ?_
                              have b31 := gi_b (lo := 0) (hi := 4) g 236 6 rfl
                              refine wr_gi0 (k0 := 236) (x := h 236 6) (nx := 240) (r1 := 11) (r2 := 6) (r3 := 0) rfl rfl (by decide) rfl ⟨rfl, rfl⟩ rfl rfl ?_
                              refine wi_iconst (n := 1) (nx := 241) (r1 := 0) (r2 := 0) (r3 := 0) rfl ?_
                              refine wi_icmp (cd := .ne) (nx := 244) (r1 := 252) (r2 := 0) (r3 := 0) rfl (by omega) (by omega) (fun (q32 : (h 236 6) ≠ 1) => ?_) (fun (q32 : ¬ ((h 236 6) ≠ 1)) => ?_)
                              ·
                                refine wi_iconst (n := 0) (nx := 253) (r1 := 0) (r2 := 0) (r3 := 0) rfl ?_
                                refine wi_zreturn (nx := 254) (r1 := 0) (r2 := 0) (r3 := 0) rfl rfl (by omega) ?_
                                exact k 0 (by omega) (Or.inr ⟨rfl, Or.inl (show h 236 6 ≠ 1 by omega)⟩)
                              ·
                                refine wi_iload_n (i := 1) (e := 1) (nx := 245) (r1 := 0) (r2 := 0) (r3 := 0) rfl rfl ?_
                                refine wi_if (cd := .ne) (nx := 248) (r1 := 252) (r2 := 0) (r3 := 0) rfl (by omega) (fun (q33 : 1 ≠ 0) => ?_) (fun (q33 : ¬ (1 ≠ 0)) => by exfalso; omega)
                                refine wi_iconst (n := 0) (nx := 253) (r1 := 0) (r2 := 0) (r3 := 0) rfl ?_
                                refine wi_zreturn (nx := 254) (r1 := 0) (r2 := 0) (r3 := 0) rfl rfl (by omega) ?_
                                exact k 0 (by omega) (Or.inr ⟨rfl, Or.inr (by unfold tk_wd5 tk_K5; simp only [tk_ix]; rw [if_neg (by omega), if_neg (by omega), if_neg (by omega), if_neg (by omega), if_neg (by omega), if_neg (by omega), if_neg (by omega), if_neg (by omega), if_neg (by omega), if_neg (by omega), if_neg (by omega), if_neg (by omega), if_neg (by omega), if_pos (by omega)]; decide)⟩)
                            ·
                              refine wi_aload_n (i := 0) (x := 236) (nx := 165) (r1 := 0) (r2 := 0) (r3 := 0) rfl rfl ?_
                              refine wr_gi1 (k0 := 236) (x := h 236 12) (nx := 168) (r1 := 11) (r2 := 12) (r3 := 0) rfl rfl (by decide) rfl ⟨rfl, rfl⟩ rfl rfl ?_
                              refine wi_ldc2_w (e := 66667) (nx := 171) (r1 := 66667) (r2 := 0) (r3 := 0) rfl (by decide) ?_
                              refine wi_lcmp (a := h 236 12) (e := 66667) (nx := 172) (r1 := 0) (r2 := 0) (r3 := 0) rfl (by omega) (by omega) (fun r31 (fr31 : (r31 = -1 ∧ (h 236 12) < 66667) ∨ (r31 = 0 ∧ (h 236 12) = 66667) ∨ (r31 = 1 ∧ 66667 < (h 236 12))) => ?_)
                              refine wi_if (cd := .eq) (nx := 175) (r1 := 230) (r2 := 0) (r3 := 0) rfl (by omega) (fun (q32 : r31 = 0) => ?_) (fun (q32 : ¬ (r31 = 0)) => ?_)
                              ·
                                refine wi_iconst (n := 1) (nx := 231) (r1 := 0) (r2 := 0) (r3 := 0) rfl ?_
                                refine wi_goto (nx := 234) (r1 := 235) (r2 := 0) (r3 := 0) rfl ?_
                                refine wi_istore_n (i := 1) (e := 1) (lo2 := [(1, vi 1), (0, .ref 236)]) (nx := 236) (r1 := 0) (r2 := 0) (r3 := 0) rfl rfl ?_
                                refine wi_aload_n (i := 0) (x := 236) (nx := 237) (r1 := 0) (r2 := 0) (r3 := 0) rfl rfl ?_
                                have b33 := gi_b (lo := 0) (hi := 4) g 236 6 rfl
                                refine wr_gi0 (k0 := 236) (x := h 236 6) (nx := 240) (r1 := 11) (r2 := 6) (r3 := 0) rfl rfl (by decide) rfl ⟨rfl, rfl⟩ rfl rfl ?_
                                refine wi_iconst (n := 1) (nx := 241) (r1 := 0) (r2 := 0) (r3 := 0) rfl ?_
                                refine wi_icmp (cd := .ne) (nx := 244) (r1 := 252) (r2 := 0) (r3 := 0) rfl (by omega) (by omega) (fun (q34 : (h 236 6) ≠ 1) => ?_) (fun (q34 : ¬ ((h 236 6) ≠ 1)) => ?_)
                                ·
                                  refine wi_iconst (n := 0) (nx := 253) (r1 := 0) (r2 := 0) (r3 := 0) rfl ?_
                                  refine wi_zreturn (nx := 254) (r1 := 0) (r2 := 0) (r3 := 0) rfl rfl (by omega) ?_
                                  exact k 0 (by omega) (Or.inr ⟨rfl, Or.inl (show h 236 6 ≠ 1 by omega)⟩)
                                ·
                                  refine wi_iload_n (i := 1) (e := 1) (nx := 245) (r1 := 0) (r2 := 0) (r3 := 0) rfl rfl ?_
                                  refine wi_if (cd := .ne) (nx := 248) (r1 := 252) (r2 := 0) (r3 := 0) rfl (by omega) (fun (q35 : 1 ≠ 0) => ?_) (fun (q35 : ¬ (1 ≠ 0)) => by exfalso; omega)
                                  refine wi_iconst (n := 0) (nx := 253) (r1 := 0) (r2 := 0) (r3 := 0) rfl ?_
                                  refine wi_zreturn (nx := 254) (r1 := 0) (r2 := 0) (r3 := 0) rfl rfl (by omega) ?_
                                  exact k 0 (by omega) (Or.inr ⟨rfl, Or.inr (by unfold tk_wd5 tk_K5; simp only [tk_ix]; rw [if_neg (by omega), if_neg (by omega), if_neg (by omega), if_neg (by omega), if_neg (by omega), if_neg (by omega), if_neg (by omega), if_neg (by omega), if_neg (by omega), if_neg (by omega), if_neg (by omega), if_neg (by omega), if_neg (by omega), if_neg (by omega), if_pos (by omega)]; decide)⟩)
                              ·
                                refine wi_aload_n (i := 0) (x := 236) (nx := 176) (r1 := 0) (r2 := 0) (r3 := 0) rfl rfl ?_
                                refine wr_gi1 (k0 := 236) (x := h 236 12) (nx := 179) (r1 := 11) (r2 := 12) (r3 := 0) rfl rfl (by decide) rfl ⟨rfl, rfl⟩ rfl rfl ?_
                                refine wi_ldc2_w (e := 754996) (nx := 182) (r1 := 754996) (r2 := 0) (r3 := 0) rfl (by decide) ?_
                                refine wi_lcmp (a := h 236 12) (e := 754996) (nx := 183) (r1 := 0) (r2 := 0) (r3 := 0) rfl (by omega) (by omega) (fun r33 (fr33 : (r33 = -1 ∧ (h 236 12) < 754996) ∨ (r33 = 0 ∧ (h 236 12) = 754996) ∨ (r33 = 1 ∧ 754996 < (h 236 12))) => ?_)
                                refine wi_if (cd := .eq) (nx := 186) (r1 := 230) (r2 := 0) (r3 := 0) rfl (by omega) (fun (q34 : r33 = 0) => ?_) (fun (q34 : ¬ (r33 = 0)) => ?_)
                                ·
                                  refine wi_iconst (n := 1) (nx := 231) (r1 := 0) (r2 := 0) (r3 := 0) rfl ?_
                                  refine wi_goto (nx := 234) (r1 := 235) (r2 := 0) (r3 := 0) rfl ?_
                                  refine wi_istore_n (i := 1) (e := 1) (lo2 := [(1, vi 1), (0, .ref 236)]) (nx := 236) (r1 := 0) (r2 := 0) (r3 := 0) rfl rfl ?_
                                  refine wi_aload_n (i := 0) (x := 236) (nx := 237) (r1 := 0) (r2 := 0) (r3 := 0) rfl rfl ?_
                                  have b35 := gi_b (lo := 0) (hi := 4) g 236 6 rfl
                                  refine wr_gi0 (k0 := 236) (x := h 236 6) (nx := 240) (r1 := 11) (r2 := 6) (r3 := 0) rfl rfl (by decide) rfl ⟨rfl, rfl⟩ rfl rfl ?_
                                  refine wi_iconst (n := 1) (nx := 241) (r1 := 0) (r2 := 0) (r3 := 0) rfl ?_
                                  refine wi_icmp (cd := .ne) (nx := 244) (r1 := 252) (r2 := 0) (r3 := 0) rfl (by omega) (by omega) (fun (q36 : (h 236 6) ≠ 1) => ?_) (fun (q36 : ¬ ((h 236 6) ≠ 1)) => ?_)
                                  ·
                                    refine wi_iconst (n := 0) (nx := 253) (r1 := 0) (r2 := 0) (r3 := 0) rfl ?_
                                    refine wi_zreturn (nx := 254) (r1 := 0) (r2 := 0) (r3 := 0) rfl rfl (by omega) ?_
                                    exact k 0 (by omega) (Or.inr ⟨rfl, Or.inl (show h 236 6 ≠ 1 by omega)⟩)
                                  ·
                                    refine wi_iload_n (i := 1) (e := 1) (nx := 245) (r1 := 0) (r2 := 0) (r3 := 0) rfl rfl ?_
                                    refine wi_if (cd := .ne) (nx := 248) (r1 := 252) (r2 := 0) (r3 := 0) rfl (by omega) (fun (q37 : 1 ≠ 0) => ?_) (fun (q37 : ¬ (1 ≠ 0)) => by exfalso; omega)
                                    refine wi_iconst (n := 0) (nx := 253) (r1 := 0) (r2 := 0) (r3 := 0) rfl ?_
                                    refine wi_zreturn (nx := 254) (r1 := 0) (r2 := 0) (r3 := 0) rfl rfl (by omega) ?_
                                    exact k 0 (by omega) (Or.inr ⟨rfl, Or.inr (by unfold tk_wd5 tk_K5; simp only [tk_ix]; rw [if_neg (by omega), if_neg (by omega), if_neg (by omega), if_neg (by omega), if_neg (by omega), if_neg (by omega), if_neg (by omega), if_neg (by omega), if_neg (by omega), if_neg (by omega), if_neg (by omega), if_neg (by omega), if_neg (by omega), if_neg (by omega), if_neg (by omega), if_pos (by omega)]; decide)⟩)
                                ·
                                  refine wi_aload_n (i := 0) (x := 236) (nx := 187) (r1 := 0) (r2 := 0) (r3 := 0) rfl rfl ?_
                                  refine wr_gi1 (k0 := 236) (x := h 236 12) (nx := 190) (r1 := 11) (r2 := 12) (r3 := 0) rfl rfl (by decide) rfl ⟨rfl, rfl⟩ rfl rfl ?_
                                  refine wi_ldc2_w (e := 643248) (nx := 193) (r1 := 643248) (r2 := 0) (r3 := 0) rfl (by decide) ?_
                                  refine wi_lcmp (a := h 236 12) (e := 643248) (nx := 194) (r1 := 0) (r2 := 0) (r3 := 0) rfl (by omega) (by omega) (fun r35 (fr35 : (r35 = -1 ∧ (h 236 12) < 643248) ∨ (r35 = 0 ∧ (h 236 12) = 643248) ∨ (r35 = 1 ∧ 643248 < (h 236 12))) => ?_)
                                  refine wi_if (cd := .eq) (nx := 197) (r1 := 230) (r2 := 0) (r3 := 0) rfl (by omega) (fun (q36 : r35 = 0) => ?_) (fun (q36 : ¬ (r35 = 0)) => ?_)
                                  ·
                                    refine wi_iconst (n := 1) (nx := 231) (r1 := 0) (r2 := 0) (r3 := 0) rfl ?_
                                    refine wi_goto (nx := 234) (r1 := 235) (r2 := 0) (r3 := 0) rfl ?_
                                    refine wi_istore_n (i := 1) (e := 1) (lo2 := [(1, vi 1), (0, .ref 236)]) (nx := 236) (r1 := 0) (r2 := 0) (r3 := 0) rfl rfl ?_
                                    refine wi_aload_n (i := 0) (x := 236) (nx := 237) (r1 := 0) (r2 := 0) (r3 := 0) rfl rfl ?_
                                    have b37 := gi_b (lo := 0) (hi := 4) g 236 6 rfl
                                    refine wr_gi0 (k0 := 236) (x := h 236 6) (nx := 240) (r1 := 11) (r2 := 6) (r3 := 0) rfl rfl (by decide) rfl ⟨rfl, rfl⟩ rfl rfl ?_
                                    refine wi_iconst (n := 1) (nx := 241) (r1 := 0) (r2 := 0) (r3 := 0) rfl ?_
                                    refine wi_icmp (cd := .ne) (nx := 244) (r1 := 252) (r2 := 0) (r3 := 0) rfl (by omega) (by omega) (fun (q38 : (h 236 6) ≠ 1) => ?_) (fun (q38 : ¬ ((h 236 6) ≠ 1)) => ?_)
                                    ·
                                      refine wi_iconst (n := 0) (nx := 253) (r1 := 0) (r2 := 0) (r3 := 0) rfl ?_
                                      refine wi_zreturn (nx := 254) (r1 := 0) (r2 := 0) (r3 := 0) rfl rfl (by omega) ?_
                                      exact k 0 (by omega) (Or.inr ⟨rfl, Or.inl (show h 236 6 ≠ 1 by omega)⟩)
                                    ·
                                      refine wi_iload_n (i := 1) (e := 1) (nx := 245) (r1 := 0) (r2 := 0) (r3 := 0) rfl rfl ?_
                                      refine wi_if (cd := .ne) (nx := 248) (r1 := 252) (r2 := 0) (r3 := 0) rfl (by omega) (fun (q39 : 1 ≠ 0) => ?_) (fun (q39 : ¬ (1 ≠ 0)) => by exfalso; omega)
                                      refine wi_iconst (n := 0) (nx := 253) (r1 := 0) (r2 := 0) (r3 := 0) rfl ?_
                                      refine wi_zreturn (nx := 254) (r1 := 0) (r2 := 0) (r3 := 0) rfl rfl (by omega) ?_
                                      exact k 0 (by omega) (Or.inr ⟨rfl, Or.inr (by unfold tk_wd5 tk_K5; simp only [tk_ix]; rw [if_neg (by omega), if_neg (by omega), if_neg (by omega), if_neg (by omega), if_neg (by omega), if_neg (by omega), if_neg (by omega), if_neg (by omega), if_neg (by omega), if_neg (by omega), if_neg (by omega), if_neg (by omega), if_neg (by omega), if_neg (by omega), if_neg (by omega), if_neg (by omega), if_pos (by omega)]; decide)⟩)
                                  ·
                                    refine wi_aload_n (i := 0) (x := 236) (nx := 198) (r1 := 0) (r2 := 0) (r3 := 0) rfl rfl ?_
                                    refine wr_gi1 (k0 := 236) (x := h 236 12) (nx := 201) (r1 := 11) (r2 := 12) (r3 := 0) rfl rfl (by decide) rfl ⟨rfl, rfl⟩ rfl rfl ?_
                                    refine wi_ldc2_w (e := 719731748) (nx := 204) (r1 := 719731748) (r2 := 0) (r3 := 0) rfl (by decide) ?_
                                    refine wi_lcmp (a := h 236 12) (e := 719731748) (nx := 205) (r1 := 0) (r2 := 0) (r3 := 0) rfl (by omega) (by omega) (fun r37 (fr37 : (r37 = -1 ∧ (h 236 12) < 719731748) ∨ (r37 = 0 ∧ (h 236 12) = 719731748) ∨ (r37 = 1 ∧ 719731748 < (h 236 12))) => ?_)
                                    refine wi_if (cd := .eq) (nx := 208) (r1 := 230) (r2 := 0) (r3 := 0) rfl (by omega) (fun (q38 : r37 = 0) => ?_) (fun (q38 : ¬ (r37 = 0)) => ?_)
                                    ·
                                      refine wi_iconst (n := 1) (nx := 231) (r1 := 0) (r2 := 0) (r3 := 0) rfl ?_
                                      refine wi_goto (nx := 234) (r1 := 235) (r2 := 0) (r3 := 0) rfl ?_
                                      refine wi_istore_n (i := 1) (e := 1) (lo2 := [(1, vi 1), (0, .ref 236)]) (nx := 236) (r1 := 0) (r2 := 0) (r3 := 0) rfl rfl ?_
                                      refine wi_aload_n (i := 0) (x := 236) (nx := 237) (r1 := 0) (r2 := 0) (r3 := 0) rfl rfl ?_
                                      have b39 := gi_b (lo := 0) (hi := 4) g 236 6 rfl
                                      refine wr_gi0 (k0 := 236) (x := h 236 6) (nx := 240) (r1 := 11) (r2 := 6) (r3 := 0) rfl rfl (by decide) rfl ⟨rfl, rfl⟩ rfl rfl ?_
                                      refine wi_iconst (n := 1) (nx := 241) (r1 := 0) (r2 := 0) (r3 := 0) rfl ?_
                                      refine wi_icmp (cd := .ne) (nx := 244) (r1 := 252) (r2 := 0) (r3 := 0) rfl (by omega) (by omega) (fun (q40 : (h 236 6) ≠ 1) => ?_) (fun (q40 : ¬ ((h 236 6) ≠ 1)) => ?_)
                                      ·
                                        refine wi_iconst (n := 0) (nx := 253) (r1 := 0) (r2 := 0) (r3 := 0) rfl ?_
                                        refine wi_zreturn (nx := 254) (r1 := 0) (r2 := 0) (r3 := 0) rfl rfl (by omega) ?_
                                        exact k 0 (by omega) (Or.inr ⟨rfl, Or.inl (show h 236 6 ≠ 1 by omega)⟩)
                                      ·
                                        refine wi_iload_n (i := 1) (e := 1) (nx := 245) (r1 := 0) (r2 := 0) (r3 := 0) rfl rfl ?_
                                        refine wi_if (cd := .ne) (nx := 248) (r1 := 252) (r2 := 0) (r3 := 0) rfl (by omega) (fun (q41 : 1 ≠ 0) => ?_) (fun (q41 : ¬ (1 ≠ 0)) => by exfalso; omega)
                                        refine wi_iconst (n := 0) (nx := 253) (r1 := 0) (r2 := 0) (r3 := 0) rfl ?_
                                        refine wi_zreturn (nx := 254) (r1 := 0) (r2 := 0) (r3 := 0) rfl rfl (by omega) ?_
                                        exact k 0 (by omega) (Or.inr ⟨rfl, Or.inr (by unfold tk_wd5 tk_K5; simp only [tk_ix]; rw [if_neg (by omega), if_neg (by omega), if_neg (by omega), if_neg (by omega), if_neg (by omega), if_neg (by omega), if_neg (by omega), if_neg (by omega), if_neg (by omega), if_neg (by omega), if_neg (by omega), if_neg (by omega), if_neg (by omega), if_neg (by omega), if_neg (by omega), if_neg (by omega), if_neg (by omega), if_pos (by omega)]; decide)⟩)
                                    ·
                                      refine wi_aload_n (i := 0) (x := 236) (nx := 209) (r1 := 0) (r2 := 0) (r3 := 0) rfl rfl ?_
                                      refine wr_gi1 (k0 := 236) (x := h 236 12) (nx := 212) (r1 := 11) (r2 := 12) (r3 := 0) rfl rfl (by decide) rfl ⟨rfl, rfl⟩ rfl rfl ?_
                                      refine wi_ldc2_w (e := 646192) (nx := 215) (r1 := 646192) (r2 := 0) (r3 := 0) rfl (by decide) ?_
                                      refine wi_lcmp (a := h 236 12) (e := 646192) (nx := 216) (r1 := 0) (r2 := 0) (r3 := 0) rfl (by omega) (by omega) (fun r39 (fr39 : (r39 = -1 ∧ (h 236 12) < 646192) ∨ (r39 = 0 ∧ (h 236 12) = 646192) ∨ (r39 = 1 ∧ 646192 < (h 236 12))) => ?_)
                                      refine wi_if (cd := .eq) (nx := 219) (r1 := 230) (r2 := 0) (r3 := 0) rfl (by omega) (fun (q40 : r39 = 0) => ?_) (fun (q40 : ¬ (r39 = 0)) => ?_)
                                      ·
                                        refine wi_iconst (n := 1) (nx := 231) (r1 := 0) (r2 := 0) (r3 := 0) rfl ?_
                                        refine wi_goto (nx := 234) (r1 := 235) (r2 := 0) (r3 := 0) rfl ?_
                                        refine wi_istore_n (i := 1) (e := 1) (lo2 := [(1, vi 1), (0, .ref 236)]) (nx := 236) (r1 := 0) (r2 := 0) (r3 := 0) rfl rfl ?_
                                        refine wi_aload_n (i := 0) (x := 236) (nx := 237) (r1 := 0) (r2 := 0) (r3 := 0) rfl rfl ?_
                                        have b41 := gi_b (lo := 0) (hi := 4) g 236 6 rfl
                                        refine wr_gi0 (k0 := 236) (x := h 236 6) (nx := 240) (r1 := 11) (r2 := 6) (r3 := 0) rfl rfl (by decide) rfl ⟨rfl, rfl⟩ rfl rfl ?_
                                        refine wi_iconst (n := 1) (nx := 241) (r1 := 0) (r2 := 0) (r3 := 0) rfl ?_
                                        refine wi_icmp (cd := .ne) (nx := 244) (r1 := 252) (r2 := 0) (r3 := 0) rfl (by omega) (by omega) (fun (q42 : (h 236 6) ≠ 1) => ?_) (fun (q42 : ¬ ((h 236 6) ≠ 1)) => ?_)
                                        ·
                                          refine wi_iconst (n := 0) (nx := 253) (r1 := 0) (r2 := 0) (r3 := 0) rfl ?_
                                          refine wi_zreturn (nx := 254) (r1 := 0) (r2 := 0) (r3 := 0) rfl rfl (by omega) ?_
                                          exact k 0 (by omega) (Or.inr ⟨rfl, Or.inl (show h 236 6 ≠ 1 by omega)⟩)
                                        ·
                                          refine wi_iload_n (i := 1) (e := 1) (nx := 245) (r1 := 0) (r2 := 0) (r3 := 0) rfl rfl ?_
                                          refine wi_if (cd := .ne) (nx := 248) (r1 := 252) (r2 := 0) (r3 := 0) rfl (by omega) (fun (q43 : 1 ≠ 0) => ?_) (fun (q43 : ¬ (1 ≠ 0)) => by exfalso; omega)
                                          refine wi_iconst (n := 0) (nx := 253) (r1 := 0) (r2 := 0) (r3 := 0) rfl ?_
                                          refine wi_zreturn (nx := 254) (r1 := 0) (r2 := 0) (r3 := 0) rfl rfl (by omega) ?_
                                          exact k 0 (by omega) (Or.inr ⟨rfl, Or.inr (by unfold tk_wd5 tk_K5; simp only [tk_ix]; rw [if_neg (by omega), if_neg (by omega), if_neg (by omega), if_neg (by omega), if_neg (by omega), if_neg (by omega), if_neg (by omega), if_neg (by omega), if_neg (by omega), if_neg (by omega), if_neg (by omega), if_neg (by omega), if_neg (by omega), if_neg (by omega), if_neg (by omega), if_neg (by omega), if_neg (by omega), if_neg (by omega), if_pos (by omega)]; decide)⟩)
                                      ·
                                        refine wi_aload_n (i := 0) (x := 236) (nx := 220) (r1 := 0) (r2 := 0) (r3 := 0) rfl rfl ?_
                                        refine wr_gi1 (k0 := 236) (x := h 236 12) (nx := 223) (r1 := 11) (r2 := 12) (r3 := 0) rfl rfl (by decide) rfl ⟨rfl, rfl⟩ rfl rfl ?_
                                        refine wi_ldc2_w (e := 609752116) (nx := 226) (r1 := 609752116) (r2 := 0) (r3 := 0) rfl (by decide) ?_
                                        refine wi_lcmp (a := h 236 12) (e := 609752116) (nx := 227) (r1 := 0) (r2 := 0) (r3 := 0) rfl (by omega) (by omega) (fun r41 (fr41 : (r41 = -1 ∧ (h 236 12) < 609752116) ∨ (r41 = 0 ∧ (h 236 12) = 609752116) ∨ (r41 = 1 ∧ 609752116 < (h 236 12))) => ?_)
                                        refine wi_if (cd := .ne) (nx := 230) (r1 := 234) (r2 := 0) (r3 := 0) rfl (by omega) (fun (q42 : r41 ≠ 0) => ?_) (fun (q42 : ¬ (r41 ≠ 0)) => ?_)
                                        ·
                                          refine wi_iconst (n := 0) (nx := 235) (r1 := 0) (r2 := 0) (r3 := 0) rfl ?_
                                          refine wi_istore_n (i := 1) (e := 0) (lo2 := [(1, vi 0), (0, .ref 236)]) (nx := 236) (r1 := 0) (r2 := 0) (r3 := 0) rfl rfl ?_
                                          refine wi_aload_n (i := 0) (x := 236) (nx := 237) (r1 := 0) (r2 := 0) (r3 := 0) rfl rfl ?_
                                          have b43 := gi_b (lo := 0) (hi := 4) g 236 6 rfl
                                          refine wr_gi0 (k0 := 236) (x := h 236 6) (nx := 240) (r1 := 11) (r2 := 6) (r3 := 0) rfl rfl (by decide) rfl ⟨rfl, rfl⟩ rfl rfl ?_
                                          refine wi_iconst (n := 1) (nx := 241) (r1 := 0) (r2 := 0) (r3 := 0) rfl ?_
                                          refine wi_icmp (cd := .ne) (nx := 244) (r1 := 252) (r2 := 0) (r3 := 0) rfl (by omega) (by omega) (fun (q44 : (h 236 6) ≠ 1) => ?_) (fun (q44 : ¬ ((h 236 6) ≠ 1)) => ?_)
                                          ·
                                            refine wi_iconst (n := 0) (nx := 253) (r1 := 0) (r2 := 0) (r3 := 0) rfl ?_
                                            refine wi_zreturn (nx := 254) (r1 := 0) (r2 := 0) (r3 := 0) rfl rfl (by omega) ?_
                                            exact k 0 (by omega) (Or.inr ⟨rfl, Or.inl (show h 236 6 ≠ 1 by omega)⟩)
                                          ·
                                            refine wi_iload_n (i := 1) (e := 0) (nx := 245) (r1 := 0) (r2 := 0) (r3 := 0) rfl rfl ?_
                                            refine wi_if (cd := .ne) (nx := 248) (r1 := 252) (r2 := 0) (r3 := 0) rfl (by omega) (fun (q45 : 0 ≠ 0) => by exfalso; omega) (fun (q45 : ¬ (0 ≠ 0)) => ?_)
                                            refine wi_iconst (n := 1) (nx := 249) (r1 := 0) (r2 := 0) (r3 := 0) rfl ?_
                                            refine wi_goto (nx := 252) (r1 := 253) (r2 := 0) (r3 := 0) rfl ?_
                                            refine wi_zreturn (nx := 254) (r1 := 0) (r2 := 0) (r3 := 0) rfl rfl (by omega) ?_
                                            exact k 1 (by omega) (Or.inl ⟨rfl, (show h 236 6 = 1 by omega), (by unfold tk_wd5 tk_K5; simp only [tk_ix]; rw [if_neg (by omega), if_neg (by omega), if_neg (by omega), if_neg (by omega), if_neg (by omega), if_neg (by omega), if_neg (by omega), if_neg (by omega), if_neg (by omega), if_neg (by omega), if_neg (by omega), if_neg (by omega), if_neg (by omega), if_neg (by omega), if_neg (by omega), if_neg (by omega), if_neg (by omega), if_neg (by omega), if_neg (by omega), if_neg (by omega)])⟩)
                                        ·
                                          refine wi_iconst (n := 1) (nx := 231) (r1 := 0) (r2 := 0) (r3 := 0) rfl ?_
                                          refine wi_goto (nx := 234) (r1 := 235) (r2 := 0) (r3 := 0) rfl ?_
                                          refine wi_istore_n (i := 1) (e := 1) (lo2 := [(1, vi 1), (0, .ref 236)]) (nx := 236) (r1 := 0) (r2 := 0) (r3 := 0) rfl rfl ?_
                                          refine wi_aload_n (i := 0) (x := 236) (nx := 237) (r1 := 0) (r2 := 0) (r3 := 0) rfl rfl ?_
                                          have b43 := gi_b (lo := 0) (hi := 4) g 236 6 rfl
                                          refine wr_gi0 (k0 := 236) (x := h 236 6) (nx := 240) (r1 := 11) (r2 := 6) (r3 := 0) rfl rfl (by decide) rfl ⟨rfl, rfl⟩ rfl rfl ?_
                                          refine wi_iconst (n := 1) (nx := 241) (r1 := 0) (r2 := 0) (r3 := 0) rfl ?_
                                          refine wi_icmp (cd := .ne) (nx := 244) (r1 := 252) (r2 := 0) (r3 := 0) rfl (by omega) (by omega) (fun (q44 : (h 236 6) ≠ 1) => ?_) (fun (q44 : ¬ ((h 236 6) ≠ 1)) => ?_)
                                          ·
                                            refine wi_iconst (n := 0) (nx := 253) (r1 := 0) (r2 := 0) (r3 := 0) rfl ?_
                                            refine wi_zreturn (nx := 254) (r1 := 0) (r2 := 0) (r3 := 0) rfl rfl (by omega) ?_
                                            exact k 0 (by omega) (Or.inr ⟨rfl, Or.inl (show h 236 6 ≠ 1 by omega)⟩)
                                          ·
                                            refine wi_iload_n (i := 1) (e := 1) (nx := 245) (r1 := 0) (r2 := 0) (r3 := 0) rfl rfl ?_
                                            refine wi_if (cd := .ne) (nx := 248) (r1 := 252) (r2 := 0) (r3 := 0) rfl (by omega) (fun (q45 : 1 ≠ 0) => ?_) (fun (q45 : ¬ (1 ≠ 0)) => by exfalso; omega)
                                            refine wi_iconst (n := 0) (nx := 253) (r1 := 0) (r2 := 0) (r3 := 0) rfl ?_
                                            refine wi_zreturn (nx := 254) (r1 := 0) (r2 := 0) (r3 := 0) rfl rfl (by omega) ?_
                                            exact k 0 (by omega) (Or.inr ⟨rfl, Or.inr (by unfold tk_wd5 tk_K5; simp only [tk_ix]; rw [if_neg (by omega), if_neg (by omega), if_neg (by omega), if_neg (by omega), if_neg (by omega), if_neg (by omega), if_neg (by omega), if_neg (by omega), if_neg (by omega), if_neg (by omega), if_neg (by omega), if_neg (by omega), if_neg (by omega), if_neg (by omega), if_neg (by omega), if_neg (by omega), if_neg (by omega), if_neg (by omega), if_neg (by omega), if_pos (by omega)]; decide)⟩)
                    ·
                      refine wi_iconst (n := 1) (nx := 111) (r1 := 0) (r2 := 0) (r3 := 0) rfl ?_
                      refine wi_goto (nx := 114) (r1 := 115) (r2 := 0) (r3 := 0) rfl ?_
                      refine wi_istore_n (i := 1) (e := 1) (lo2 := [(1, vi 1), (0, .ref 236)]) (nx := 116) (r1 := 0) (r2 := 0) (r3 := 0) rfl rfl ?_
                      refine wi_iload_n (i := 1) (e := 1) (nx := 117) (r1 := 0) (r2 := 0) (r3 := 0) rfl rfl ?_
                      refine wi_if (cd := .ne) (nx := 120) (r1 := 230) (r2 := 0) (r3 := 0) rfl (by omega) (fun (q22 : 1 ≠ 0) => ?_) (fun (q22 : ¬ (1 ≠ 0)) => by exfalso; omega)
                      refine wi_iconst (n := 1) (nx := 231) (r1 := 0) (r2 := 0) (r3 := 0) rfl ?_
                      refine wi_goto (nx := 234) (r1 := 235) (r2 := 0) (r3 := 0) rfl ?_
                      refine wi_istore_n (i := 1) (e := 1) (lo2 := [(1, vi 1), (0, .ref 236)]) (nx := 236) (r1 := 0) (r2 := 0) (r3 := 0) rfl rfl ?_
                      refine wi_aload_n (i := 0) (x := 236) (nx := 237) (r1 := 0) (r2 := 0) (r3 := 0) rfl rfl ?_
                      have b23 := gi_b (lo := 0) (hi := 4) g 236 6 rfl
                      refine wr_gi0 (k0 := 236) (x := h 236 6) (nx := 240) (r1 := 11) (r2 := 6) (r3 := 0) rfl rfl (by decide) rfl ⟨rfl, rfl⟩ rfl rfl ?_
                      refine wi_iconst (n := 1) (nx := 241) (r1 := 0) (r2 := 0) (r3 := 0) rfl ?_
                      refine wi_icmp (cd := .ne) (nx := 244) (r1 := 252) (r2 := 0) (r3 := 0) rfl (by omega) (by omega) (fun (q24 : (h 236 6) ≠ 1) => ?_) (fun (q24 : ¬ ((h 236 6) ≠ 1)) => ?_)
                      ·
                        refine wi_iconst (n := 0) (nx := 253) (r1 := 0) (r2 := 0) (r3 := 0) rfl ?_
                        refine wi_zreturn (nx := 254) (r1 := 0) (r2 := 0) (r3 := 0) rfl rfl (by omega) ?_
                        exact k 0 (by omega) (Or.inr ⟨rfl, Or.inl (show h 236 6 ≠ 1 by omega)⟩)
                      ·
                        refine wi_iload_n (i := 1) (e := 1) (nx := 245) (r1 := 0) (r2 := 0) (r3 := 0) rfl rfl ?_
                        refine wi_if (cd := .ne) (nx := 248) (r1 := 252) (r2 := 0) (r3 := 0) rfl (by omega) (fun (q25 : 1 ≠ 0) => ?_) (fun (q25 : ¬ (1 ≠ 0)) => by exfalso; omega)
                        refine wi_iconst (n := 0) (nx := 253) (r1 := 0) (r2 := 0) (r3 := 0) rfl ?_
                        refine wi_zreturn (nx := 254) (r1 := 0) (r2 := 0) (r3 := 0) rfl rfl (by omega) ?_
                        exact k 0 (by omega) (Or.inr ⟨rfl, Or.inr (by unfold tk_wd5 tk_K5; simp only [tk_ix]; rw [if_neg (by omega), if_neg (by omega), if_neg (by omega), if_neg (by omega), if_neg (by omega), if_neg (by omega), if_neg (by omega), if_neg (by omega), if_neg (by omega), if_pos (by omega)]; decide)⟩)
-- method 225: Model.nameHere()V
set_option maxRecDepth 100000 in
set_option maxHeartbeats 100000000 in
theorem ct_225_236 {L : Nat} {xs : Nat → Int32} {d b c : Nat} {h : hp} {cr : Nat → Nat → Option Nat} {Q : hp_Q} (hcr : CR cr)  {tB : Nat → Int} {tn tp : Int} (g : GI h)   (pp0 : 0 ≤ tp) (pp1 : tp ≤ tn) (pp2 : tp ≤ tk_nx tB tn tp ∧ tk_nx tB tn tp ≤ tn) (pp3 : 1 ≤ h 236 8 ∨ (h 236 4 = tk_nx tB tn tp ∧ h 236 5 = tk_st tB tn tp ∧ TKk tB tn tp (h 236 6) (h 236 7) (h 236 12))) (xq0 : RefB tB tn h) (k : ∀ (h2 : hp) , GI h2 → FR [(236, 236, some (8, 8)), (236, 236, some (9, 9))] h h2 → ((1 ≤ h 236 8 ∧ h2 236 8 = h 236 8 ∧ h2 236 9 = h 236 9) ∨ (h 236 8 = 0 ∧ tk_kd tB tn tp = 1 ∧ tk_wd (tk_lw tB tn tp) = 21 ∧ h2 236 8 = h 236 8 ∧ h2 236 9 = h 236 9) ∨ (h 236 8 = 0 ∧ (tk_kd tB tn tp ≠ 1 ∨ tk_wd (tk_lw tB tn tp) ≠ 21) ∧ h2 236 8 = 1 ∧ h2 236 9 = tk_st tB tn tp)) → (1 ≤ h2 236 8 ∨ h 236 8 = 0) → Q (.inl none) (hp_w h2 cr) b c) : wp (md_xa (L, xs)) (d + 1) 225 (0, [(0, .ref 236)], [], hp_w h cr, b, c) Q := by
  have F0 : FR [(236, 236, some (8, 8)), (236, 236, some (9, 9))] h h := FR.refl
  have tb_1 : h 236 3 = tn := xq0.2.1
  have tb_2 : 0 ≤ tn ∧ tn ≤ 800 := xq0.2.2
  have b1 := gi_b (lo := 0) (hi := 5) g 236 8 rfl
  have b2 := gi_b (lo := 0) (hi := 800) g 236 4 rfl
  have b3 := gi_b (lo := 0) (hi := 800) g 236 5 rfl
  have b4 := gi_b (lo := 0) (hi := 4) g 236 6 rfl
  have b5 := gi_b (lo := 0) (hi := 999) g 236 7 rfl
  have b6 := gi_b (lo := -9223372036854775808) (hi := 9223372036854775807) g 236 12 rfl
  refine wi_aload_n (i := 0) (x := 236) (nx := 1) (r1 := 0) (r2 := 0) (r3 := 0) rfl rfl ?_
  refine wr_V (k0 := 236) (rest := []) (as := [.ref 236]) (nx := 4) (r1 := 219) (r2 := 0) (r3 := 11) rfl rfl rfl (of_decide_eq_true rfl) rfl rfl (by decide) rfl rfl (of_decide_eq_true rfl) (of_decide_eq_true rfl) ?_
  refine wi_aload_n (i := 0) (x := 236) (nx := 1) (r1 := 0) (r2 := 0) (r3 := 0) rfl rfl ?_
  refine wr_gi0 (k0 := 236) (x := h 236 8) (nx := 4) (r1 := 11) (r2 := 8) (r3 := 0) rfl rfl (by decide) rfl ⟨rfl, rfl⟩ rfl rfl ?_
  refine wi_if (cd := .ne) (nx := 7) (r1 := 11) (r2 := 0) (r3 := 0) rfl (by omega) (fun (q7 : (h 236 8) ≠ 0) => ?_) (fun (q7 : ¬ ((h 236 8) ≠ 0)) => ?_)
  ·
    refine wi_iconst (n := 0) (nx := 12) (r1 := 0) (r2 := 0) (r3 := 0) rfl ?_
    refine wi_zreturn (nx := 13) (r1 := 0) (r2 := 0) (r3 := 0) rfl rfl (by omega) ?_
    refine wk_i ?_
    refine wi_if (cd := .eq) (nx := 7) (r1 := 19) (r2 := 0) (r3 := 0) rfl (by omega) (fun (q9 : 0 = 0) => ?_) (fun (q9 : ¬ (0 = 0)) => by exfalso; omega)
    refine wi_return (nx := 20) (r1 := 0) (r2 := 0) (r3 := 0) rfl rfl ?_
    have b10 := gi_b (lo := -2147483648) (hi := 2147483647) g 236 9 rfl
    exact k h g F0 (show (1 ≤ (h 236 8) ∧ (h 236 8) = (h 236 8) ∧ (h 236 9) = (h 236 9)) ∨ ((h 236 8) = 0 ∧ tk_kd tB tn tp = 1 ∧ tk_wd (tk_lw tB tn tp) = 21 ∧ (h 236 8) = (h 236 8) ∧ (h 236 9) = (h 236 9)) ∨ ((h 236 8) = 0 ∧ (tk_kd tB tn tp ≠ 1 ∨ tk_wd (tk_lw tB tn tp) ≠ 21) ∧ (h 236 8) = 1 ∧ (h 236 9) = tk_st tB tn tp) by omega) (show 1 ≤ (h 236 8) ∨ (h 236 8) = 0 by omega)
  ·
    have kf8 := (pp3.resolve_left (by omega)).2.2
    refine wi_iconst (n := 1) (nx := 8) (r1 := 0) (r2 := 0) (r3 := 0) rfl ?_
    refine wi_goto (nx := 11) (r1 := 12) (r2 := 0) (r3 := 0) rfl ?_
    refine wi_zreturn (nx := 13) (r1 := 0) (r2 := 0) (r3 := 0) rfl rfl (by omega) ?_
    refine wk_i ?_
    refine wi_if (cd := .eq) (nx := 7) (r1 := 19) (r2 := 0) (r3 := 0) rfl (by omega) (fun (q9 : 1 = 0) => by exfalso; omega) (fun (q9 : ¬ (1 = 0)) => ?_)
    refine wi_aload_n (i := 0) (x := 236) (nx := 8) (r1 := 0) (r2 := 0) (r3 := 0) rfl rfl ?_
    refine wr_V (k0 := 236) (rest := []) (as := [.ref 236]) (nx := 11) (r1 := 226) (r2 := 0) (r3 := 11) rfl rfl rfl (of_decide_eq_true rfl) rfl rfl (by decide) rfl rfl (of_decide_eq_true rfl) (of_decide_eq_true rfl) ?_
    refine ct_226_236 hcr  g    (fun z11  (fz11 : 0 ≤ z11 ∧ z11 ≤ 1) y10_0 => ?_)
    refine wk_i ?_
    have nw12 : tk_kd tB tn tp = 1 → tk_wd5 (h 236 12) = tk_wd (tk_lw tB tn tp) := fun e => by rw [show h 236 12 = tk_sw tB tn tp from (by have x_ := TKk.w (show TKk tB tn tp (h 236 6) (h 236 7) (h 236 12) by assumption) e; omega)]; exact (tk_wde (tk_sm8 (by omega) (by omega) e)).symm
    have nk13 : h 236 6 = 1 → tk_kd tB tn tp = 1 := fun e => (TKk.e1 (show TKk tB tn tp (h 236 6) (h 236 7) (h 236 12) by assumption) e).1
    have nl14 : h 236 6 ≠ 1 → tk_kd tB tn tp ≠ 1 := fun e => TKk.n1 (show TKk tB tn tp (h 236 6) (h 236 7) (h 236 12) by assumption) e
    have nz15 := y10_0
    refine wi_if (cd := .ne) (nx := 14) (r1 := 19) (r2 := 0) (r3 := 0) rfl (by omega) (fun (q16 : z11 ≠ 0) => ?_) (fun (q16 : ¬ (z11 ≠ 0)) => ?_)
    ·
      refine wi_return (nx := 20) (r1 := 0) (r2 := 0) (r3 := 0) rfl rfl ?_
      have b17 := gi_b (lo := -2147483648) (hi := 2147483647) g 236 9 rfl
      exact k h g F0 (show (1 ≤ (h 236 8) ∧ (h 236 8) = (h 236 8) ∧ (h 236 9) = (h 236 9)) ∨ ((h 236 8) = 0 ∧ tk_kd tB tn tp = 1 ∧ tk_wd (tk_lw tB tn tp) = 21 ∧ (h 236 8) = (h 236 8) ∧ (h 236 9) = (h 236 9)) ∨ ((h 236 8) = 0 ∧ (tk_kd tB tn tp ≠ 1 ∨ tk_wd (tk_lw tB tn tp) ≠ 21) ∧ (h 236 8) = 1 ∧ (h 236 9) = tk_st tB tn tp) by omega) (show 1 ≤ (h 236 8) ∨ (h 236 8) = 0 by omega)
    ·
      refine wi_aload_n (i := 0) (x := 236) (nx := 15) (r1 := 0) (r2 := 0) (r3 := 0) rfl rfl ?_
      refine wi_iconst (n := 1) (nx := 16) (r1 := 0) (r2 := 0) (r3 := 0) rfl ?_
      refine wr_V (k0 := 236) (rest := []) (as := [.ref 236, vi 1]) (nx := 19) (r1 := 224) (r2 := 1) (r3 := 11) rfl rfl rfl (of_decide_eq_true rfl) rfl rfl (by decide) rfl rfl (of_decide_eq_true rfl) (of_decide_eq_true rfl) ?_
      refine ct_224_236 hcr  g 1 (by omega)  (fun h17 g17 u17 (p17_0 : 1 ≤ (h17 236 8)) (p17_1 : (1 ≤ (h 236 8) ∧ (h17 236 8) = (h 236 8) ∧ (h17 236 9) = (h 236 9)) ∨ ((h 236 8) = 0 ∧ (h17 236 9) = (h 236 5) ∧ (((h 236 6) = 4 ∧ (h17 236 8) = 1) ∨ ((h 236 6) ≠ 4 ∧ (h17 236 8) = 1)))) => ?_)
      have F18 := F0.then (by decide +kernel) u17
      have b19 := gi_b (lo := 0) (hi := 5) g17 236 8 rfl
      have b20 := gi_b (lo := -2147483648) (hi := 2147483647) g 236 9 rfl
      have b21 := gi_b (lo := -2147483648) (hi := 2147483647) g17 236 9 rfl
      refine wk_n ?_
      refine wi_return (nx := 20) (r1 := 0) (r2 := 0) (r3 := 0) rfl rfl ?_
      exact k h17 g17 F18 (show (1 ≤ (h 236 8) ∧ (h17 236 8) = (h 236 8) ∧ (h17 236 9) = (h 236 9)) ∨ ((h 236 8) = 0 ∧ tk_kd tB tn tp = 1 ∧ tk_wd (tk_lw tB tn tp) = 21 ∧ (h17 236 8) = (h 236 8) ∧ (h17 236 9) = (h 236 9)) ∨ ((h 236 8) = 0 ∧ (tk_kd tB tn tp ≠ 1 ∨ tk_wd (tk_lw tB tn tp) ≠ 21) ∧ (h17 236 8) = 1 ∧ (h17 236 9) = tk_st tB tn tp) by omega) (show 1 ≤ (h17 236 8) ∨ (h 236 8) = 0 by omega)
-- method 227: Model.named()I
set_option maxRecDepth 100000 in
set_option maxHeartbeats 100000000 in
theorem ct_227_236 {L : Nat} {xs : Nat → Int32} {d b c : Nat} {h : hp} {cr : Nat → Nat → Option Nat} {Q : hp_Q} (hcr : CR cr)  {tB : Nat → Int} {tn tp : Int} {tS : tk_S} (g : GI h)   (pp0 : 0 ≤ tp) (pp1 : tp ≤ tn) (pp2 : tp ≤ tk_nx tB tn tp ∧ tk_nx tB tn tp ≤ tn) (pp3 : tk_kd tB tn tp = 1 → h 236 12 = tk_sw tB tn tp) (xq0 : RefB tB tn h) (xq1 : CVr tS h) (k : ∀ (z0 : Int), (0 ≤ z0 ∧ z0 ≤ 5) → (z0 ≤ h 239 0) → (tk_kd tB tn tp = 1 → z0 = tk_fi tS (tk_lw tB tn tp)) → Q (.inl (some (vi z0))) (hp_w h cr) b c) : wp (md_xa (L, xs)) d 227 (0, [(0, .ref 236)], [], hp_w h cr, b, c) Q := by
  have F0 : FR [] h h := FR.refl
  have tb_1 : h 236 3 = tn := xq0.2.1
  have tb_2 : 0 ≤ tn ∧ tn ≤ 800 := xq0.2.2
  obtain ⟨⟨rv_0, rv_1, rv_2, rv_3, rv_4, rv_5, rv_6, rv_7, rv_8, rv_9⟩, ⟨rf_0, rf_1, rf_2, rf_3⟩, -⟩ := id xq1
  have b1 := gi_b (lo := 0) (hi := 5) g 239 0 rfl
  have b2 := gi_b (lo := 0) (hi := 4) g 239 1 rfl
  have b3 := gi_b (lo := 0) (hi := 12) g 239 2 rfl
  have b4 := gi_b (lo := -9223372036854775808) (hi := 9223372036854775807) g 236 12 rfl
  refine wi_iconst (n := 0) (nx := 1) (r1 := 0) (r2 := 0) (r3 := 0) rfl ?_
  refine wi_istore_n (i := 1) (e := 0) (lo2 := [(1, vi 0), (0, .ref 236)]) (nx := 2) (r1 := 0) (r2 := 0) (r3 := 0) rfl rfl ?_
  refine wp.lo (lo := [(0, .ref 236), (1, vi 0)]) ⟨rfl, rfl, trivial⟩ rfl ?_
  refine wl_1 (fun x5 h6 => h = h6 ∧ ((0 ≤ x5 ∧ x5 ≤ 5) ∧ (x5 ≤ (h 239 0)) ∧ (0 ≤ x5)) ∧ (tk_kd tB tn tp = 1 → tk_fc (fun i => tS (70 + i)) (tS 0) (tk_lw tB tn tp) x5 = tk_fi tS (tk_lw tB tn tp))) (fun x5 h6 => ((5 : Int) + 1 - x5).toNat) (fun x5 h6 => (2, [(0, .ref 236), (1, vi x5)], [], hp_w h6 cr, b, c)) ?_ 0 h ⟨rfl, (show (0 ≤ 0 ∧ 0 ≤ 5) ∧ (0 ≤ (h 239 0)) ∧ (0 ≤ 0) by omega), (fun _ => rfl)⟩
  intro x5 h6 ⟨e6, f6, X6_0⟩ I6
  subst e6
  refine wi_iload_n (i := 1) (e := x5) (nx := 3) (r1 := 0) (r2 := 0) (r3 := 0) rfl rfl ?_
  refine wi_aload_n (i := 0) (x := 236) (nx := 4) (r1 := 0) (r2 := 0) (r3 := 0) rfl rfl ?_
  refine wr_gr (k0 := 236) (x := 239) (nx := 7) (r1 := 11) (r2 := 14) (r3 := 0) rfl rfl (by decide) rfl ⟨rfl, rfl⟩ rfl ?_
  refine wi_iconst (n := 0) (nx := 8) (r1 := 0) (r2 := 0) (r3 := 0) rfl ?_
  refine wr_ia (k0 := 239) (a := 0) (f := 0) (x := h 239 0) (nx := 9) (r1 := 0) (r2 := 0) (r3 := 0) rfl (by decide) rfl (by omega) (by omega) (by decide) rfl ?_
  refine wi_icmp (cd := .ge) (nx := 12) (r1 := 32) (r2 := 0) (r3 := 0) rfl (by omega) (by omega) (fun (q8 : (h 239 0) ≤ x5) => ?_) (fun (q8 : ¬ ((h 239 0) ≤ x5)) => ?_)
  ·
    refine wi_iload_n (i := 1) (e := x5) (nx := 33) (r1 := 0) (r2 := 0) (r3 := 0) rfl rfl ?_
    refine wi_ireturn (nx := 34) (r1 := 0) (r2 := 0) (r3 := 0) rfl rfl ?_
    exact k x5 (by omega) (show x5 ≤ (h 239 0) by omega) (fun e => ((fun e => ((X6_0 e).symm.trans (tk_fce (by omega) (by omega))).trans (by omega)) e).symm)
  ·
    refine wi_aload_n (i := 0) (x := 236) (nx := 13) (r1 := 0) (r2 := 0) (r3 := 0) rfl rfl ?_
    refine wr_gr (k0 := 236) (x := 244) (nx := 16) (r1 := 11) (r2 := 19) (r3 := 0) rfl rfl (by decide) rfl ⟨rfl, rfl⟩ rfl ?_
    refine wi_iload_n (i := 1) (e := x5) (nx := 17) (r1 := 0) (r2 := 0) (r3 := 0) rfl rfl ?_
    obtain ⟨i9, ei9⟩ : ∃ q : Nat, x5 = (q : Int) := ⟨(x5).toNat, by omega⟩
    have b10 := gi_b (lo := -9223372036854775808) (hi := 9223372036854775807) g 244 i9 rfl
    refine wr_la (k0 := 244) (a := x5) (f := i9) (x := h 244 i9) (nx := 18) (r1 := 0) (r2 := 0) (r3 := 0) rfl (by decide) rfl (by omega) (by omega) (by decide) rfl ?_
    refine wi_aload_n (i := 0) (x := 236) (nx := 19) (r1 := 0) (r2 := 0) (r3 := 0) rfl rfl ?_
    refine wr_gi1 (k0 := 236) (x := h 236 12) (nx := 22) (r1 := 11) (r2 := 12) (r3 := 0) rfl rfl (by decide) rfl ⟨rfl, rfl⟩ rfl rfl ?_
    refine wi_lcmp (a := h 244 i9) (e := h 236 12) (nx := 23) (r1 := 0) (r2 := 0) (r3 := 0) rfl (by omega) (by omega) (fun r11 (fr11 : (r11 = -1 ∧ (h 244 i9) < (h 236 12)) ∨ (r11 = 0 ∧ (h 244 i9) = (h 236 12)) ∨ (r11 = 1 ∧ (h 236 12) < (h 244 i9))) => ?_)
    refine wi_if (cd := .eq) (nx := 26) (r1 := 32) (r2 := 0) (r3 := 0) rfl (by omega) (fun (q12 : r11 = 0) => ?_) (fun (q12 : ¬ (r11 = 0)) => ?_)
    ·
      refine wi_iload_n (i := 1) (e := x5) (nx := 33) (r1 := 0) (r2 := 0) (r3 := 0) rfl rfl ?_
      refine wi_ireturn (nx := 34) (r1 := 0) (r2 := 0) (r3 := 0) rfl rfl ?_
      exact k x5 (by omega) (show x5 ≤ (h 239 0) by omega) (fun e => ((fun e => ((X6_0 e).symm.trans (tk_fcf (by omega) (by omega) (show x5 = (i9 : Int) by omega) rfl ((tk_sm_eq (xq1.2.2.1 i9 (by omega)).1 (tk_sm8 (by omega) (by omega) e)).mpr (show h 244 i9 = tk_sw tB tn tp by omega))))) e).symm)
    ·
      refine wr_iinc (i := 1) (n := 1) (v := x5) (fun e13 => [(1, vi e13), (0, .ref 236)]) (nx := 29) (r1 := 0) (r2 := 0) (r3 := 0) rfl rfl (fun _ => rfl) (fun e13 (fe13 : e13 = x5 + 1) => ?_)
      refine wi_goto (nx := 32) (r1 := 2) (r2 := 0) (r3 := 0) rfl ?_
      refine wp.lo (lo := [(0, .ref 236), (1, vi e13)]) ⟨rfl, rfl, trivial⟩ rfl ?_
      exact I6 e13 h ⟨rfl, (show (0 ≤ e13 ∧ e13 ≤ 5) ∧ (e13 ≤ (h 239 0)) ∧ (0 ≤ e13) by omega), (fun e => (tk_fcs (by omega) (by omega) (show x5 = (i9 : Int) by omega) (by omega) (fun e2 => absurd ((tk_sm_eq (xq1.2.2.1 i9 (by omega)).1 (tk_sm8 (by omega) (by omega) e)).mp e2) (show h 244 i9 ≠ tk_sw tB tn tp by omega))).symm.trans (X6_0 e))⟩ (show ((5 : Int) + 1 - e13).toNat < ((5 : Int) + 1 - x5).toNat by omega)
