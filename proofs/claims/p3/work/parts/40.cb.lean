-- method 74: Bank.laneLength(I)I
set_option maxRecDepth 100000 in
set_option maxHeartbeats 100000000 in
theorem ct_74_0 {L : Nat} {xs : Nat → Int32} {d b c : Nat} {h : hp} {cr : Nat → Nat → Option Nat} {Q : hp_Q} (hcr : CR cr) (hr : 1 ≤ b ∧ 6 ≤ c)  (g : GI h) (a0 : Int) (q0_ : -2147483648 ≤ a0 ∧ a0 ≤ 2147483647)  (k : ∀ (z0 : Int), (0 ≤ z0 ∧ z0 ≤ 12) → Q (.inl (some (vi z0))) (hp_w h cr) b c) (kx2 : Q (.inr 2) (hp_w h cr) (b - 1) (c - 6)) : wp (md_xa (L, xs)) (d + 1) 74 (0, [(0, .ref 0), (1, vi a0)], [], hp_w h cr, b, c) Q := by
  have F0 : FR [] h h := FR.refl
  refine wi_aload_n (i := 0) (x := 0) (nx := 1) (r1 := 0) (r2 := 0) (r3 := 0) rfl rfl ?_
  refine wi_iload_n (i := 1) (e := a0) (nx := 2) (r1 := 0) (r2 := 0) (r3 := 0) rfl rfl ?_
  refine wr_V (k0 := 0) (rest := []) (as := [.ref 0, vi a0]) (nx := 5) (r1 := 68) (r2 := 1) (r3 := 0) rfl rfl rfl (of_decide_eq_true rfl) rfl rfl (by decide) rfl rfl (of_decide_eq_true rfl) (of_decide_eq_true rfl) ?_
  refine wi_iload_n (i := 1) (e := a0) (nx := 1) (r1 := 0) (r2 := 0) (r3 := 0) rfl rfl ?_
  refine wi_if (cd := .lt) (nx := 4) (r1 := 15) (r2 := 0) (r3 := 0) rfl (by omega) (fun (q1 : a0 < 0) => ?_) (fun (q1 : ¬ (a0 < 0)) => ?_)
  ·
    refine wr_throw (Ex := 2) (nx := 18) (r1 := 2) (r2 := 0) (r3 := 1) rfl (by decide) rfl hr (by decide) ?_
    refine wk_x rfl ?_
    exact kx2
  ·
    refine wi_iload_n (i := 1) (e := a0) (nx := 5) (r1 := 0) (r2 := 0) (r3 := 0) rfl rfl ?_
    refine wi_aload_n (i := 0) (x := 0) (nx := 6) (r1 := 0) (r2 := 0) (r3 := 0) rfl rfl ?_
    refine wr_gr (k0 := 0) (x := 3) (nx := 9) (r1 := 0) (r2 := 1) (r3 := 0) rfl rfl (by decide) rfl ⟨rfl, rfl⟩ rfl ?_
    have b2 := gi_b (lo := 0) (hi := 4) g 3 1 rfl
    refine wr_gi0 (k0 := 3) (x := h 3 1) (nx := 12) (r1 := 2) (r2 := 1) (r3 := 0) rfl rfl (by decide) rfl ⟨rfl, rfl⟩ rfl rfl ?_
    refine wi_icmp (cd := .lt) (nx := 15) (r1 := 26) (r2 := 0) (r3 := 0) rfl (by omega) (by omega) (fun (q3 : a0 < (h 3 1)) => ?_) (fun (q3 : ¬ (a0 < (h 3 1))) => ?_)
    ·
      refine wi_return (nx := 27) (r1 := 0) (r2 := 0) (r3 := 0) rfl rfl ?_
      refine wk_n ?_
      refine wi_aload_n (i := 0) (x := 0) (nx := 6) (r1 := 0) (r2 := 0) (r3 := 0) rfl rfl ?_
      refine wr_gr (k0 := 0) (x := 18) (nx := 9) (r1 := 0) (r2 := 3) (r3 := 0) rfl rfl (by decide) rfl ⟨rfl, rfl⟩ rfl ?_
      refine wr_gr (k0 := 18) (x := 21) (nx := 12) (r1 := 4) (r2 := 3) (r3 := 0) rfl rfl (by decide) rfl ⟨rfl, rfl⟩ rfl ?_
      refine wi_iload_n (i := 1) (e := a0) (nx := 13) (r1 := 0) (r2 := 0) (r3 := 0) rfl rfl ?_
      obtain ⟨i4, ei4⟩ : ∃ q : Nat, a0 = (q : Int) := ⟨(a0).toNat, by omega⟩
      refine wr_aa (k0 := 21) (a := a0) (f := i4) (x := 21 + 8 + 2 * i4) (nx := 14) (r1 := 0) (r2 := 0) (r3 := 0) rfl (by decide) rfl (Or.inl rfl) (by omega) (by omega) (by decide) (hcr.1 21 (by decide) i4 (by omega)) ?_
      obtain ⟨k5, kk5, mk5⟩ : ∃ q, Rw q ∧ q = 21 + 8 + 2 * i4 := ⟨_, rw_lane 21 (by decide) i4 (by omega), rfl⟩
      rw [← mk5]
      have b6 := gi_b (lo := 0) (hi := 12) g k5 1 kk5.2.2.2.1
      refine wr_gi0 (k0 := k5) (x := h k5 1) (nx := 17) (r1 := 5) (r2 := 1) (r3 := 0) rfl rfl kk5.k kk5.1 ⟨rfl, rfl⟩ rfl rfl ?_
      refine wi_ireturn (nx := 18) (r1 := 0) (r2 := 0) (r3 := 0) rfl rfl ?_
      exact k (h k5 1) (by omega)
    ·
      refine wr_throw (Ex := 2) (nx := 18) (r1 := 2) (r2 := 0) (r3 := 1) rfl (by decide) rfl hr (by decide) ?_
      refine wk_x rfl ?_
      exact kx2
-- method 36: Bank.late()I
set_option maxRecDepth 100000 in
set_option maxHeartbeats 100000000 in
theorem ct_36_0 {L : Nat} {xs : Nat → Int32} {d b c : Nat} {h : hp} {cr : Nat → Nat → Option Nat} {Q : hp_Q} (hcr : CR cr)  (g : GI h)    (k : ∀ (z0 : Int), (-2147483648 ≤ z0 ∧ z0 ≤ 2147483647) → Q (.inl (some (vi z0))) (hp_w h cr) b c) : wp (md_xa (L, xs)) (d + 1) 36 (0, [(0, .ref 0)], [], hp_w h cr, b, c) Q := by
  have F0 : FR [] h h := FR.refl
  refine wi_iconst (n := 0) (nx := 1) (r1 := 0) (r2 := 0) (r3 := 0) rfl ?_
  refine wi_istore_n (i := 1) (e := 0) (lo2 := [(1, vi 0), (0, .ref 0)]) (nx := 2) (r1 := 0) (r2 := 0) (r3 := 0) rfl rfl ?_
  refine wi_iconst (n := 0) (nx := 3) (r1 := 0) (r2 := 0) (r3 := 0) rfl ?_
  refine wi_istore_n (i := 2) (e := 0) (lo2 := [(2, vi 0), (1, vi 0), (0, .ref 0)]) (nx := 4) (r1 := 0) (r2 := 0) (r3 := 0) rfl rfl ?_
  refine wp.lo (lo := [(0, .ref 0), (1, vi 0), (2, vi 0)]) ⟨rfl, rfl, rfl, trivial⟩ rfl ?_
  refine wl_2 (fun x1 x2 h3 => h = h3 ∧ ((-2147483648 ≤ x1 ∧ x1 ≤ 2147483647) ∧ (0 ≤ x2 ∧ x2 ≤ 12))) (fun x1 x2 h3 => ((12 : Int) + 1 - x2).toNat) (fun x1 x2 h3 => (4, [(0, .ref 0), (1, vi x1), (2, vi x2)], [], hp_w h3 cr, b, c)) ?_ 0 0 h ⟨rfl, (show (-2147483648 ≤ 0 ∧ 0 ≤ 2147483647) ∧ (0 ≤ 0 ∧ 0 ≤ 12) by omega)⟩
  intro x1 x2 h3 ⟨e3, f3⟩ I3
  subst e3
  refine wi_iload_n (i := 2) (e := x2) (nx := 5) (r1 := 0) (r2 := 0) (r3 := 0) rfl rfl ?_
  refine wi_aload_n (i := 0) (x := 0) (nx := 6) (r1 := 0) (r2 := 0) (r3 := 0) rfl rfl ?_
  refine wr_gr (k0 := 0) (x := 18) (nx := 9) (r1 := 0) (r2 := 3) (r3 := 0) rfl rfl (by decide) rfl ⟨rfl, rfl⟩ rfl ?_
  refine wr_gr (k0 := 18) (x := 26) (nx := 12) (r1 := 4) (r2 := 6) (r3 := 0) rfl rfl (by decide) rfl ⟨rfl, rfl⟩ rfl ?_
  have b5 := gi_b (lo := 0) (hi := 12) g 26 1 rfl
  refine wr_gi0 (k0 := 26) (x := h 26 1) (nx := 15) (r1 := 5) (r2 := 1) (r3 := 0) rfl rfl (by decide) rfl ⟨rfl, rfl⟩ rfl rfl ?_
  refine wi_icmp (cd := .ge) (nx := 18) (r1 := 50) (r2 := 0) (r3 := 0) rfl (by omega) (by omega) (fun (q6 : (h 26 1) ≤ x2) => ?_) (fun (q6 : ¬ ((h 26 1) ≤ x2)) => ?_)
  ·
    refine wi_iload_n (i := 1) (e := x1) (nx := 51) (r1 := 0) (r2 := 0) (r3 := 0) rfl rfl ?_
    refine wi_ireturn (nx := 52) (r1 := 0) (r2 := 0) (r3 := 0) rfl rfl ?_
    exact k x1 (by omega)
  ·
    refine wi_iload_n (i := 2) (e := x2) (nx := 19) (r1 := 0) (r2 := 0) (r3 := 0) rfl rfl ?_
    refine wi_aload_n (i := 0) (x := 0) (nx := 20) (r1 := 0) (r2 := 0) (r3 := 0) rfl rfl ?_
    refine wr_gr (k0 := 0) (x := 18) (nx := 23) (r1 := 0) (r2 := 3) (r3 := 0) rfl rfl (by decide) rfl ⟨rfl, rfl⟩ rfl ?_
    refine wr_gr (k0 := 18) (x := 26) (nx := 26) (r1 := 4) (r2 := 6) (r3 := 0) rfl rfl (by decide) rfl ⟨rfl, rfl⟩ rfl ?_
    refine wi_iload_n (i := 2) (e := x2) (nx := 27) (r1 := 0) (r2 := 0) (r3 := 0) rfl rfl ?_
    refine wr_V (k0 := 26) (rest := [vi x2]) (as := [.ref 26, vi x2]) (nx := 30) (r1 := 154) (r2 := 1) (r3 := 5) rfl rfl rfl (of_decide_eq_true rfl) rfl rfl (by decide) rfl rfl (of_decide_eq_true rfl) (of_decide_eq_true rfl) ?_
    refine ct_154_R hcr rw_26 g x2 (by omega)  (fun z8  (fz8 : -2147483648 ≤ z8 ∧ z8 ≤ 2147483647) => ?_)
    refine wk_i ?_
    refine wr_subW (nx := 31) (r1 := 0) (r2 := 0) (r3 := 0) rfl (fun e9 (fe9 : -2147483648 ≤ e9 ∧ e9 ≤ 2147483647) => ?_)
    refine wi_aload_n (i := 0) (x := 0) (nx := 32) (r1 := 0) (r2 := 0) (r3 := 0) rfl rfl ?_
    refine wr_gr (k0 := 0) (x := 3) (nx := 35) (r1 := 0) (r2 := 1) (r3 := 0) rfl rfl (by decide) rfl ⟨rfl, rfl⟩ rfl ?_
    have b10 := gi_b (lo := -2147483648) (hi := 2147483647) g 3 4 rfl
    refine wr_gi0 (k0 := 3) (x := h 3 4) (nx := 38) (r1 := 2) (r2 := 4) (r3 := 0) rfl rfl (by decide) rfl ⟨rfl, rfl⟩ rfl rfl ?_
    refine wi_icmp (cd := .le) (nx := 41) (r1 := 44) (r2 := 0) (r3 := 0) rfl (by omega) (by omega) (fun (q11 : e9 ≤ (h 3 4)) => ?_) (fun (q11 : ¬ (e9 ≤ (h 3 4))) => ?_)
    ·
      refine wr_iinc (i := 2) (n := 1) (v := x2) (fun e12 => [(2, vi e12), (0, .ref 0), (1, vi x1)]) (nx := 47) (r1 := 0) (r2 := 0) (r3 := 0) rfl rfl (fun _ => rfl) (fun e12 (fe12 : e12 = x2 + 1) => ?_)
      refine wi_goto (nx := 50) (r1 := 4) (r2 := 0) (r3 := 0) rfl ?_
      refine wp.lo (lo := [(0, .ref 0), (1, vi x1), (2, vi e12)]) ⟨rfl, rfl, rfl, trivial⟩ rfl ?_
      exact I3 x1 e12 h ⟨rfl, (show (-2147483648 ≤ x1 ∧ x1 ≤ 2147483647) ∧ (0 ≤ e12 ∧ e12 ≤ 12) by omega)⟩ (show ((12 : Int) + 1 - e12).toNat < ((12 : Int) + 1 - x2).toNat by omega)
    ·
      refine wr_iincW (i := 1) (n := 1) (v := x1) (fun e12 => [(1, vi e12), (0, .ref 0), (2, vi x2)]) (nx := 44) (r1 := 0) (r2 := 0) (r3 := 0) rfl rfl (fun _ => rfl) (fun e12 (fe12 : -2147483648 ≤ e12 ∧ e12 ≤ 2147483647) => ?_)
      refine wr_iinc (i := 2) (n := 1) (v := x2) (fun e13 => [(2, vi e13), (1, vi e12), (0, .ref 0)]) (nx := 47) (r1 := 0) (r2 := 0) (r3 := 0) rfl rfl (fun _ => rfl) (fun e13 (fe13 : e13 = x2 + 1) => ?_)
      refine wi_goto (nx := 50) (r1 := 4) (r2 := 0) (r3 := 0) rfl ?_
      refine wp.lo (lo := [(0, .ref 0), (1, vi e12), (2, vi e13)]) ⟨rfl, rfl, rfl, trivial⟩ rfl ?_
      exact I3 e12 e13 h ⟨rfl, (show (-2147483648 ≤ e12 ∧ e12 ≤ 2147483647) ∧ (0 ≤ e13 ∧ e13 ≤ 12) by omega)⟩ (show ((12 : Int) + 1 - e13).toNat < ((12 : Int) + 1 - x2).toNat by omega)
-- method 110: Setup.priceOf(II)I
set_option maxRecDepth 100000 in
set_option maxHeartbeats 100000000 in
theorem ct_110_3 {L : Nat} {xs : Nat → Int32} {d b c : Nat} {h : hp} {cr : Nat → Nat → Option Nat} {Q : hp_Q} (hcr : CR cr)  (g : GI h) (a0 : Int) (a1 : Int) (q0_ : -2147483648 ≤ a0 ∧ a0 ≤ 2147483647) (q1_ : -2147483648 ≤ a1 ∧ a1 ≤ 2147483647)  (k : ∀ (z0 : Int), (-2147483648 ≤ z0 ∧ z0 ≤ 2147483647) → Q (.inl (some (vi z0))) (hp_w h cr) b c) : wp (md_xa (L, xs)) d 110 (0, [(0, .ref 3), (1, vi a0), (2, vi a1)], [], hp_w h cr, b, c) Q := by
  have F0 : FR [] h h := FR.refl
  refine wi_iload_n (i := 1) (e := a0) (nx := 1) (r1 := 0) (r2 := 0) (r3 := 0) rfl rfl ?_
  refine wi_iconst (n := 1) (nx := 2) (r1 := 0) (r2 := 0) (r3 := 0) rfl ?_
  refine wi_iandm (m := 1) (nx := 3) (r1 := 0) (r2 := 0) (r3 := 0) rfl (by decide) (by decide) (fun e1 (fe1 : 0 ≤ e1 ∧ e1 ≤ 1) => ?_)
  refine wi_if (cd := .eq) (nx := 6) (r1 := 26) (r2 := 0) (r3 := 0) rfl (by omega) (fun (q2 : e1 = 0) => ?_) (fun (q2 : ¬ (e1 = 0)) => ?_)
  ·
    refine wi_iload_n (i := 1) (e := a0) (nx := 27) (r1 := 0) (r2 := 0) (r3 := 0) rfl rfl ?_
    refine wi_iconst (n := 2) (nx := 28) (r1 := 0) (r2 := 0) (r3 := 0) rfl ?_
    refine wi_iandm (m := 2) (nx := 29) (r1 := 0) (r2 := 0) (r3 := 0) rfl (by decide) (by decide) (fun e3 (fe3 : 0 ≤ e3 ∧ e3 ≤ 2) => ?_)
    refine wi_if (cd := .eq) (nx := 32) (r1 := 39) (r2 := 0) (r3 := 0) rfl (by omega) (fun (q4 : e3 = 0) => ?_) (fun (q4 : ¬ (e3 = 0)) => ?_)
    ·
      refine wi_iconst (n := 0) (nx := 40) (r1 := 0) (r2 := 0) (r3 := 0) rfl ?_
      refine wi_ireturn (nx := 41) (r1 := 0) (r2 := 0) (r3 := 0) rfl rfl ?_
      exact k 0 (by omega)
    ·
      refine wi_aload_n (i := 0) (x := 3) (nx := 33) (r1 := 0) (r2 := 0) (r3 := 0) rfl rfl ?_
      have b5 := gi_b (lo := -2147483648) (hi := 2147483647) g 3 6 rfl
      refine wr_gi0 (k0 := 3) (x := h 3 6) (nx := 36) (r1 := 2) (r2 := 6) (r3 := 0) rfl rfl (by decide) rfl ⟨rfl, rfl⟩ rfl rfl ?_
      refine wi_goto (nx := 39) (r1 := 40) (r2 := 0) (r3 := 0) rfl ?_
      refine wi_ireturn (nx := 41) (r1 := 0) (r2 := 0) (r3 := 0) rfl rfl ?_
      exact k (h 3 6) (by omega)
  ·
    refine wi_iload_n (i := 2) (e := a1) (nx := 7) (r1 := 0) (r2 := 0) (r3 := 0) rfl rfl ?_
    refine wi_if (cd := .lt) (nx := 10) (r1 := 15) (r2 := 0) (r3 := 0) rfl (by omega) (fun (q3 : a1 < 0) => ?_) (fun (q3 : ¬ (a1 < 0)) => ?_)
    ·
      refine wi_iconst (n := 0) (nx := 16) (r1 := 0) (r2 := 0) (r3 := 0) rfl ?_
      refine wi_goto (nx := 19) (r1 := 25) (r2 := 0) (r3 := 0) rfl ?_
      refine wi_ireturn (nx := 26) (r1 := 0) (r2 := 0) (r3 := 0) rfl rfl ?_
      exact k 0 (by omega)
    ·
      refine wi_iload_n (i := 2) (e := a1) (nx := 11) (r1 := 0) (r2 := 0) (r3 := 0) rfl rfl ?_
      refine wi_iconst (n := 5) (nx := 12) (r1 := 0) (r2 := 0) (r3 := 0) rfl ?_
      refine wi_icmp (cd := .lt) (nx := 15) (r1 := 19) (r2 := 0) (r3 := 0) rfl (by omega) (by omega) (fun (q4 : a1 < 5) => ?_) (fun (q4 : ¬ (a1 < 5)) => ?_)
      ·
        refine wi_aload_n (i := 0) (x := 3) (nx := 20) (r1 := 0) (r2 := 0) (r3 := 0) rfl rfl ?_
        refine wr_gr (k0 := 3) (x := 5) (nx := 23) (r1 := 2) (r2 := 11) (r3 := 0) rfl rfl (by decide) rfl ⟨rfl, rfl⟩ rfl ?_
        refine wi_iload_n (i := 2) (e := a1) (nx := 24) (r1 := 0) (r2 := 0) (r3 := 0) rfl rfl ?_
        obtain ⟨i5, ei5⟩ : ∃ q : Nat, a1 = (q : Int) := ⟨(a1).toNat, by omega⟩
        have b6 := gi_b (lo := -2147483648) (hi := 2147483647) g 5 i5 rfl
        refine wr_ia (k0 := 5) (a := a1) (f := i5) (x := h 5 i5) (nx := 25) (r1 := 0) (r2 := 0) (r3 := 0) rfl (by decide) rfl (by omega) (by omega) (by decide) rfl ?_
        refine wi_ireturn (nx := 26) (r1 := 0) (r2 := 0) (r3 := 0) rfl rfl ?_
        exact k (h 5 i5) (by omega)
      ·
        refine wi_iconst (n := 0) (nx := 16) (r1 := 0) (r2 := 0) (r3 := 0) rfl ?_
        refine wi_goto (nx := 19) (r1 := 25) (r2 := 0) (r3 := 0) rfl ?_
        refine wi_ireturn (nx := 26) (r1 := 0) (r2 := 0) (r3 := 0) rfl rfl ?_
        exact k 0 (by omega)
-- method 144: Line.note(III)V
set_option maxRecDepth 100000 in
set_option maxHeartbeats 100000000 in
theorem ct_144_18 {L : Nat} {xs : Nat → Int32} {d b c : Nat} {h : hp} {cr : Nat → Nat → Option Nat} {Q : hp_Q} (hcr : CR cr)  (g : GI h) (a0 : Int) (a1 : Int) (a2 : Int) (q0_ : 0 ≤ a0 ∧ a0 ≤ 11) (q1_ : -2147483648 ≤ a1 ∧ a1 ≤ 2147483647) (q2_ : -2147483648 ≤ a2 ∧ a2 ≤ 2147483647)  (k : ∀ (h2 : hp) , GI h2 → FR [(28, 28, none), (18, 18, some (15, 15))] h h2 → Q (.inl none) (hp_w h2 cr) b c) : wp (md_xa (L, xs)) d 144 (0, [(0, .ref 18), (1, vi a0), (2, vi a1), (3, vi a2)], [], hp_w h cr, b, c) Q := by
  have F0 : FR [(28, 28, none), (18, 18, some (15, 15))] h h := FR.refl
  refine wi_aload_n (i := 0) (x := 18) (nx := 1) (r1 := 0) (r2 := 0) (r3 := 0) rfl rfl ?_
  have b1 := gi_b (lo := 0) (hi := 36) g 18 15 rfl
  refine wr_gi0 (k0 := 18) (x := h 18 15) (nx := 4) (r1 := 4) (r2 := 15) (r3 := 0) rfl rfl (by decide) rfl ⟨rfl, rfl⟩ rfl rfl ?_
  refine wi_bipush (n := 36) (nx := 6) (r1 := 0) (r2 := 0) (r3 := 0) rfl (by decide) ?_
  refine wi_icmp (cd := .lt) (nx := 9) (r1 := 10) (r2 := 0) (r3 := 0) rfl (by omega) (by omega) (fun (q2 : (h 18 15) < 36) => ?_) (fun (q2 : ¬ ((h 18 15) < 36)) => ?_)
  ·
    refine wi_aload_n (i := 0) (x := 18) (nx := 11) (r1 := 0) (r2 := 0) (r3 := 0) rfl rfl ?_
    refine wr_gi0 (k0 := 18) (x := h 18 15) (nx := 14) (r1 := 4) (r2 := 15) (r3 := 0) rfl rfl (by decide) rfl ⟨rfl, rfl⟩ rfl rfl ?_
    refine wi_iconst (n := 4) (nx := 15) (r1 := 0) (r2 := 0) (r3 := 0) rfl ?_
    refine wr_mul (nx := 16) (r1 := 0) (r2 := 0) (r3 := 0) rfl (fun e3 (fe3 : e3 = (h 18 15) * 4) => ?_)
    refine wi_istore (i := 4) (e := e3) (lo2 := [(4, vi e3), (0, .ref 18), (1, vi a0), (2, vi a1), (3, vi a2)]) (nx := 18) (r1 := 0) (r2 := 0) (r3 := 0) rfl rfl ?_
    refine wi_aload_n (i := 0) (x := 18) (nx := 19) (r1 := 0) (r2 := 0) (r3 := 0) rfl rfl ?_
    refine wr_gr (k0 := 18) (x := 28) (nx := 22) (r1 := 4) (r2 := 14) (r3 := 0) rfl rfl (by decide) rfl ⟨rfl, rfl⟩ rfl ?_
    refine wi_iload (i := 4) (e := e3) (nx := 24) (r1 := 0) (r2 := 0) (r3 := 0) rfl rfl ?_
    refine wi_iconst (n := 0) (nx := 25) (r1 := 0) (r2 := 0) (r3 := 0) rfl ?_
    refine wr_add (nx := 26) (r1 := 0) (r2 := 0) (r3 := 0) rfl (fun e4 (fe4 : e4 = e3 + 0) => ?_)
    refine wi_iload_n (i := 1) (e := a0) (nx := 27) (r1 := 0) (r2 := 0) (r3 := 0) rfl rfl ?_
    obtain ⟨i5, ei5⟩ : ∃ q : Nat, e4 = (q : Int) := ⟨(e4).toNat, by omega⟩
    refine wr_is (k0 := 28) (a := e4) (f := i5) (x := a0) (bl := -2147483648) (bh := 2147483647) (nx := 28) (r1 := 0) (r2 := 0) (r3 := 0) rfl (by decide) rfl (by omega) (by omega) (by decide) g rfl (by omega) (fun h6 g6 w6 u6 => ?_)
    have F7 := F0.then rfl (FR.rngp (lo := 28) (hi := 28) u6 (by decide))
    refine wi_aload_n (i := 0) (x := 18) (nx := 29) (r1 := 0) (r2 := 0) (r3 := 0) rfl rfl ?_
    refine wr_gr (k0 := 18) (x := 28) (nx := 32) (r1 := 4) (r2 := 14) (r3 := 0) rfl rfl (by decide) rfl ⟨rfl, rfl⟩ rfl ?_
    refine wi_iload (i := 4) (e := e3) (nx := 34) (r1 := 0) (r2 := 0) (r3 := 0) rfl rfl ?_
    refine wi_iconst (n := 1) (nx := 35) (r1 := 0) (r2 := 0) (r3 := 0) rfl ?_
    refine wr_add (nx := 36) (r1 := 0) (r2 := 0) (r3 := 0) rfl (fun e8 (fe8 : e8 = e3 + 1) => ?_)
    refine wi_aload_n (i := 0) (x := 18) (nx := 37) (r1 := 0) (r2 := 0) (r3 := 0) rfl rfl ?_
    refine wr_gr (k0 := 18) (x := 19) (nx := 40) (r1 := 4) (r2 := 1) (r3 := 0) rfl rfl (by decide) rfl ⟨rfl, rfl⟩ rfl ?_
    refine wi_iload_n (i := 1) (e := a0) (nx := 41) (r1 := 0) (r2 := 0) (r3 := 0) rfl rfl ?_
    obtain ⟨i9, ei9⟩ : ∃ q : Nat, a0 = (q : Int) := ⟨(a0).toNat, by omega⟩
    have b10 := gi_b (lo := -2147483648) (hi := 2147483647) g 19 i9 rfl
    refine wr_ia (k0 := 19) (a := a0) (f := i9) (x := h 19 i9) (nx := 42) (r1 := 0) (r2 := 0) (r3 := 0) rfl (by decide) rfl (by omega) (by omega) (by decide) (u6 19 i9 (fn_a (by omega) fn_0)) ?_
    obtain ⟨i11, ei11⟩ : ∃ q : Nat, e8 = (q : Int) := ⟨(e8).toNat, by omega⟩
    refine wr_is (k0 := 28) (a := e8) (f := i11) (x := h 19 i9) (bl := -2147483648) (bh := 2147483647) (nx := 43) (r1 := 0) (r2 := 0) (r3 := 0) rfl (by decide) rfl (by omega) (by omega) (by decide) g6 rfl (by omega) (fun h12 g12 w12 u12 => ?_)
    have F13 := F7.then rfl (FR.rngp (lo := 28) (hi := 28) u12 (by decide))
    refine wi_aload_n (i := 0) (x := 18) (nx := 44) (r1 := 0) (r2 := 0) (r3 := 0) rfl rfl ?_
    refine wr_gr (k0 := 18) (x := 28) (nx := 47) (r1 := 4) (r2 := 14) (r3 := 0) rfl rfl (by decide) rfl ⟨rfl, rfl⟩ rfl ?_
    refine wi_iload (i := 4) (e := e3) (nx := 49) (r1 := 0) (r2 := 0) (r3 := 0) rfl rfl ?_
    refine wi_iconst (n := 2) (nx := 50) (r1 := 0) (r2 := 0) (r3 := 0) rfl ?_
    refine wr_add (nx := 51) (r1 := 0) (r2 := 0) (r3 := 0) rfl (fun e14 (fe14 : e14 = e3 + 2) => ?_)
    refine wi_iload_n (i := 2) (e := a1) (nx := 52) (r1 := 0) (r2 := 0) (r3 := 0) rfl rfl ?_
    obtain ⟨i15, ei15⟩ : ∃ q : Nat, e14 = (q : Int) := ⟨(e14).toNat, by omega⟩
    refine wr_is (k0 := 28) (a := e14) (f := i15) (x := a1) (bl := -2147483648) (bh := 2147483647) (nx := 53) (r1 := 0) (r2 := 0) (r3 := 0) rfl (by decide) rfl (by omega) (by omega) (by decide) g12 rfl (by omega) (fun h16 g16 w16 u16 => ?_)
    have F17 := F13.then rfl (FR.rngp (lo := 28) (hi := 28) u16 (by decide))
    refine wi_aload_n (i := 0) (x := 18) (nx := 54) (r1 := 0) (r2 := 0) (r3 := 0) rfl rfl ?_
    refine wr_gr (k0 := 18) (x := 28) (nx := 57) (r1 := 4) (r2 := 14) (r3 := 0) rfl rfl (by decide) rfl ⟨rfl, rfl⟩ rfl ?_
    refine wi_iload (i := 4) (e := e3) (nx := 59) (r1 := 0) (r2 := 0) (r3 := 0) rfl rfl ?_
    refine wi_iconst (n := 3) (nx := 60) (r1 := 0) (r2 := 0) (r3 := 0) rfl ?_
    refine wr_add (nx := 61) (r1 := 0) (r2 := 0) (r3 := 0) rfl (fun e18 (fe18 : e18 = e3 + 3) => ?_)
    refine wi_iload_n (i := 3) (e := a2) (nx := 62) (r1 := 0) (r2 := 0) (r3 := 0) rfl rfl ?_
    obtain ⟨i19, ei19⟩ : ∃ q : Nat, e18 = (q : Int) := ⟨(e18).toNat, by omega⟩
    refine wr_is (k0 := 28) (a := e18) (f := i19) (x := a2) (bl := -2147483648) (bh := 2147483647) (nx := 63) (r1 := 0) (r2 := 0) (r3 := 0) rfl (by decide) rfl (by omega) (by omega) (by decide) g16 rfl (by omega) (fun h20 g20 w20 u20 => ?_)
    have F21 := F17.then rfl (FR.rngp (lo := 28) (hi := 28) u20 (by decide))
    refine wi_aload_n (i := 0) (x := 18) (nx := 64) (r1 := 0) (r2 := 0) (r3 := 0) rfl rfl ?_
    refine wi_dup (nx := 65) (r1 := 0) (r2 := 0) (r3 := 0) rfl rfl ?_
    refine wr_gi0 (k0 := 18) (x := h 18 15) (nx := 68) (r1 := 4) (r2 := 15) (r3 := 0) rfl rfl (by decide) rfl ⟨rfl, rfl⟩ rfl ((u20 18 15 (fn_a (by omega) fn_0)).trans ((u16 18 15 (fn_a (by omega) fn_0)).trans ((u12 18 15 (fn_a (by omega) fn_0)).trans (u6 18 15 (fn_a (by omega) fn_0))))) ?_
    refine wi_iconst (n := 1) (nx := 69) (r1 := 0) (r2 := 0) (r3 := 0) rfl ?_
    refine wr_add (nx := 70) (r1 := 0) (r2 := 0) (r3 := 0) rfl (fun e22 (fe22 : e22 = (h 18 15) + 1) => ?_)
    refine wr_pf0 (k0 := 18) (x := e22) (bl := 0) (bh := 36) (nx := 73) (r1 := 4) (r2 := 15) (r3 := 0) rfl (by decide) rfl ⟨rfl, rfl⟩ rfl rfl g20 rfl (by omega) (fun h23 g23 w23 u23 => ?_)
    have F24 := F21.then rfl u23
    refine wi_return (nx := 74) (r1 := 0) (r2 := 0) (r3 := 0) rfl rfl ?_
    exact k h23 g23 F24
  ·
    refine wi_return (nx := 10) (r1 := 0) (r2 := 0) (r3 := 0) rfl rfl ?_
    exact k h g F0
-- method 143: Line.paint(IZ)V
set_option maxRecDepth 100000 in
set_option maxHeartbeats 100000000 in
theorem ct_143_18 {L : Nat} {xs : Nat → Int32} {d b c : Nat} {h : hp} {cr : Nat → Nat → Option Nat} {Q : hp_Q} (hcr : CR cr)  (g : GI h) (a0 : Int) (a1 : Int) (q0_ : 0 ≤ a0 ∧ a0 ≤ 11) (q1_ : 0 ≤ a1 ∧ a1 ≤ 1)  (k : ∀ (h2 : hp) , GI h2 → FR [(18, 36, none)] h h2 → Q (.inl none) (hp_w h2 cr) b c) : wp (md_xa (L, xs)) (d + 1) 143 (0, [(0, .ref 18), (1, vi a0), (2, vi a1)], [], hp_w h cr, b, c) Q := by
  have F0 : FR [(18, 36, none)] h h := FR.refl
  refine wi_aload_n (i := 0) (x := 18) (nx := 1) (r1 := 0) (r2 := 0) (r3 := 0) rfl rfl ?_
  refine wr_gr (k0 := 18) (x := 3) (nx := 4) (r1 := 4) (r2 := 0) (r3 := 0) rfl rfl (by decide) rfl ⟨rfl, rfl⟩ rfl ?_
  refine wi_aload_n (i := 0) (x := 18) (nx := 5) (r1 := 0) (r2 := 0) (r3 := 0) rfl rfl ?_
  have b1 := gi_b (lo := -2147483648) (hi := 2147483647) g 18 8 rfl
  refine wr_gi0 (k0 := 18) (x := h 18 8) (nx := 8) (r1 := 4) (r2 := 8) (r3 := 0) rfl rfl (by decide) rfl ⟨rfl, rfl⟩ rfl rfl ?_
  refine wi_aload_n (i := 0) (x := 18) (nx := 9) (r1 := 0) (r2 := 0) (r3 := 0) rfl rfl ?_
  have b2 := gi_b (lo := -2147483648) (hi := 2147483647) g 18 9 rfl
  refine wr_gi0 (k0 := 18) (x := h 18 9) (nx := 12) (r1 := 4) (r2 := 9) (r3 := 0) rfl rfl (by decide) rfl ⟨rfl, rfl⟩ rfl rfl ?_
  refine wi_aload_n (i := 0) (x := 18) (nx := 13) (r1 := 0) (r2 := 0) (r3 := 0) rfl rfl ?_
  refine wr_gr (k0 := 18) (x := 19) (nx := 16) (r1 := 4) (r2 := 1) (r3 := 0) rfl rfl (by decide) rfl ⟨rfl, rfl⟩ rfl ?_
  refine wi_iload_n (i := 1) (e := a0) (nx := 17) (r1 := 0) (r2 := 0) (r3 := 0) rfl rfl ?_
  obtain ⟨i3, ei3⟩ : ∃ q : Nat, a0 = (q : Int) := ⟨(a0).toNat, by omega⟩
  have b4 := gi_b (lo := -2147483648) (hi := 2147483647) g 19 i3 rfl
  refine wr_ia (k0 := 19) (a := a0) (f := i3) (x := h 19 i3) (nx := 18) (r1 := 0) (r2 := 0) (r3 := 0) rfl (by decide) rfl (by omega) (by omega) (by decide) rfl ?_
  refine wr_V (k0 := 3) (rest := []) (as := [.ref 3, vi (h 18 8), vi (h 18 9), vi (h 19 i3)]) (nx := 21) (r1 := 109) (r2 := 3) (r3 := 2) rfl rfl rfl (of_decide_eq_true rfl) rfl rfl (by decide) rfl rfl (of_decide_eq_true rfl) (of_decide_eq_true rfl) ?_
  refine wi_iload_n (i := 1) (e := h 18 8) (nx := 1) (r1 := 0) (r2 := 0) (r3 := 0) rfl rfl ?_
  refine wi_iconst (n := (-1)) (nx := 2) (r1 := 0) (r2 := 0) (r3 := 0) rfl ?_
  refine wi_icmp (cd := .ne) (nx := 5) (r1 := 7) (r2 := 0) (r3 := 0) rfl (by omega) (by omega) (fun (q5 : (h 18 8) ≠ (-1)) => ?_) (fun (q5 : ¬ ((h 18 8) ≠ (-1))) => ?_)
  ·
    refine wi_iload_n (i := 1) (e := h 18 8) (nx := 8) (r1 := 0) (r2 := 0) (r3 := 0) rfl rfl ?_
    refine wi_iload_n (i := 3) (e := h 19 i3) (nx := 9) (r1 := 0) (r2 := 0) (r3 := 0) rfl rfl ?_
    refine wi_icmp (cd := .eq) (nx := 12) (r1 := 14) (r2 := 0) (r3 := 0) rfl (by omega) (by omega) (fun (q6 : (h 18 8) = (h 19 i3)) => ?_) (fun (q6 : ¬ ((h 18 8) = (h 19 i3))) => ?_)
    ·
      refine wi_iload_n (i := 2) (e := h 18 9) (nx := 15) (r1 := 0) (r2 := 0) (r3 := 0) rfl rfl ?_
      refine wi_aload_n (i := 0) (x := 3) (nx := 16) (r1 := 0) (r2 := 0) (r3 := 0) rfl rfl ?_
      have b7 := gi_b (lo := -2147483648) (hi := 2147483647) g 3 5 rfl
      refine wr_gi0 (k0 := 3) (x := h 3 5) (nx := 19) (r1 := 2) (r2 := 5) (r3 := 0) rfl rfl (by decide) rfl ⟨rfl, rfl⟩ rfl rfl ?_
      refine wi_icmp (cd := .lt) (nx := 22) (r1 := 26) (r2 := 0) (r3 := 0) rfl (by omega) (by omega) (fun (q8 : (h 18 9) < (h 3 5)) => ?_) (fun (q8 : ¬ ((h 18 9) < (h 3 5))) => ?_)
      ·
        refine wi_iconst (n := 0) (nx := 27) (r1 := 0) (r2 := 0) (r3 := 0) rfl ?_
        refine wi_ireturn (nx := 28) (r1 := 0) (r2 := 0) (r3 := 0) rfl rfl ?_
        refine wk_i ?_
        refine wi_istore_n (i := 3) (e := 0) (lo2 := [(3, vi 0), (0, .ref 18), (1, vi a0), (2, vi a1)]) (nx := 22) (r1 := 0) (r2 := 0) (r3 := 0) rfl rfl ?_
        refine wi_aload_n (i := 0) (x := 18) (nx := 23) (r1 := 0) (r2 := 0) (r3 := 0) rfl rfl ?_
        refine wr_gr (k0 := 18) (x := 3) (nx := 26) (r1 := 4) (r2 := 0) (r3 := 0) rfl rfl (by decide) rfl ⟨rfl, rfl⟩ rfl ?_
        refine wi_iload_n (i := 3) (e := 0) (nx := 27) (r1 := 0) (r2 := 0) (r3 := 0) rfl rfl ?_
        refine wi_aload_n (i := 0) (x := 18) (nx := 28) (r1 := 0) (r2 := 0) (r3 := 0) rfl rfl ?_
        refine wr_gr (k0 := 18) (x := 19) (nx := 31) (r1 := 4) (r2 := 1) (r3 := 0) rfl rfl (by decide) rfl ⟨rfl, rfl⟩ rfl ?_
        refine wi_iload_n (i := 1) (e := a0) (nx := 32) (r1 := 0) (r2 := 0) (r3 := 0) rfl rfl ?_
        refine wr_ia (k0 := 19) (a := a0) (f := i3) (x := h 19 i3) (nx := 33) (r1 := 0) (r2 := 0) (r3 := 0) rfl (by decide) rfl (by omega) (by omega) (by decide) rfl ?_
        refine wr_V (k0 := 3) (rest := []) (as := [.ref 3, vi 0, vi (h 19 i3)]) (nx := 36) (r1 := 110) (r2 := 2) (r3 := 2) rfl rfl rfl (of_decide_eq_true rfl) rfl rfl (by decide) rfl rfl (of_decide_eq_true rfl) (of_decide_eq_true rfl) ?_
        refine ct_110_3 hcr  g 0 (h 19 i3) (by omega) (by omega)  (fun z10  (fz10 : -2147483648 ≤ z10 ∧ z10 ≤ 2147483647) => ?_)
        refine wk_i ?_
        refine wi_istore (i := 4) (e := z10) (lo2 := [(4, vi z10), (3, vi 0), (0, .ref 18), (1, vi a0), (2, vi a1)]) (nx := 38) (r1 := 0) (r2 := 0) (r3 := 0) rfl rfl ?_
        refine wi_aload_n (i := 0) (x := 18) (nx := 39) (r1 := 0) (r2 := 0) (r3 := 0) rfl rfl ?_
        refine wi_aload_n (i := 0) (x := 18) (nx := 40) (r1 := 0) (r2 := 0) (r3 := 0) rfl rfl ?_
        refine wr_gr (k0 := 18) (x := 19) (nx := 43) (r1 := 4) (r2 := 1) (r3 := 0) rfl rfl (by decide) rfl ⟨rfl, rfl⟩ rfl ?_
        refine wi_iload_n (i := 1) (e := a0) (nx := 44) (r1 := 0) (r2 := 0) (r3 := 0) rfl rfl ?_
        refine wr_ia (k0 := 19) (a := a0) (f := i3) (x := h 19 i3) (nx := 45) (r1 := 0) (r2 := 0) (r3 := 0) rfl (by decide) rfl (by omega) (by omega) (by decide) rfl ?_
        refine wr_pf0 (k0 := 18) (x := h 19 i3) (bl := -2147483648) (bh := 2147483647) (nx := 48) (r1 := 4) (r2 := 8) (r3 := 0) rfl (by decide) rfl ⟨rfl, rfl⟩ rfl rfl g rfl (by omega) (fun h11 g11 w11 u11 => ?_)
        have F12 := F0.then rfl u11
        refine wi_aload_n (i := 0) (x := 18) (nx := 49) (r1 := 0) (r2 := 0) (r3 := 0) rfl rfl ?_
        refine wi_iload_n (i := 3) (e := 0) (nx := 50) (r1 := 0) (r2 := 0) (r3 := 0) rfl rfl ?_
        refine wi_aload_n (i := 0) (x := 18) (nx := 51) (r1 := 0) (r2 := 0) (r3 := 0) rfl rfl ?_
        refine wr_gi0 (k0 := 18) (x := h 18 9) (nx := 54) (r1 := 4) (r2 := 9) (r3 := 0) rfl rfl (by decide) rfl ⟨rfl, rfl⟩ rfl (u11 18 9 rfl) ?_
        refine wi_S (rest := [.ref 18]) (as := [vi 0, vi (h 18 9)]) (nx := 57) (r1 := 111) (r2 := 18) (r3 := 0) rfl rfl rfl (of_decide_eq_true rfl) rfl rfl (of_decide_eq_true rfl) (of_decide_eq_true rfl) ?_
        refine wi_iload_n (i := 0) (e := 0) (nx := 1) (r1 := 0) (r2 := 0) (r3 := 0) rfl rfl ?_
        refine wi_if (cd := .ne) (nx := 4) (r1 := 10) (r2 := 0) (r3 := 0) rfl (by omega) (fun (q13 : 0 ≠ 0) => by exfalso; omega) (fun (q13 : ¬ (0 ≠ 0)) => ?_)
        refine wi_iload_n (i := 1) (e := h 18 9) (nx := 5) (r1 := 0) (r2 := 0) (r3 := 0) rfl rfl ?_
        refine wi_iconst (n := 1) (nx := 6) (r1 := 0) (r2 := 0) (r3 := 0) rfl ?_
        refine wr_add (nx := 7) (r1 := 0) (r2 := 0) (r3 := 0) rfl (fun e14 (fe14 : e14 = (h 18 9) + 1) => ?_)
        refine wi_goto (nx := 10) (r1 := 11) (r2 := 0) (r3 := 0) rfl ?_
        refine wi_ireturn (nx := 12) (r1 := 0) (r2 := 0) (r3 := 0) rfl rfl ?_
        refine wk_i ?_
        refine wr_pf0 (k0 := 18) (x := e14) (bl := -2147483648) (bh := 2147483647) (nx := 60) (r1 := 4) (r2 := 9) (r3 := 0) rfl (by decide) rfl ⟨rfl, rfl⟩ rfl rfl g11 rfl (by omega) (fun h15 g15 w15 u15 => ?_)
        have F16 := F12.then rfl u15
        refine wi_aload_n (i := 0) (x := 18) (nx := 61) (r1 := 0) (r2 := 0) (r3 := 0) rfl rfl ?_
        refine wi_dup (nx := 62) (r1 := 0) (r2 := 0) (r3 := 0) rfl rfl ?_
        have b17 := gi_b (lo := -2147483648) (hi := 2147483647) g 18 13 rfl
        refine wr_gi0 (k0 := 18) (x := h 18 13) (nx := 65) (r1 := 4) (r2 := 13) (r3 := 0) rfl rfl (by decide) rfl ⟨rfl, rfl⟩ rfl ((u15 18 13 rfl).trans (u11 18 13 rfl)) ?_
        refine wi_iload (i := 4) (e := z10) (nx := 67) (r1 := 0) (r2 := 0) (r3 := 0) rfl rfl ?_
        refine wr_addW (nx := 68) (r1 := 0) (r2 := 0) (r3 := 0) rfl (fun e18 (fe18 : -2147483648 ≤ e18 ∧ e18 ≤ 2147483647) => ?_)
        refine wr_pf0 (k0 := 18) (x := e18) (bl := -2147483648) (bh := 2147483647) (nx := 71) (r1 := 4) (r2 := 13) (r3 := 0) rfl (by decide) rfl ⟨rfl, rfl⟩ rfl rfl g15 rfl (by omega) (fun h19 g19 w19 u19 => ?_)
        have F20 := F16.then rfl u19
        refine wi_iload_n (i := 3) (e := 0) (nx := 72) (r1 := 0) (r2 := 0) (r3 := 0) rfl rfl ?_
        refine wi_iconst (n := 1) (nx := 73) (r1 := 0) (r2 := 0) (r3 := 0) rfl ?_
        refine wi_iand (e := 0) (nx := 74) (r1 := 0) (r2 := 0) (r3 := 0) rfl (by decide) ?_
        refine wi_if (cd := .eq) (nx := 77) (r1 := 87) (r2 := 0) (r3 := 0) rfl (by omega) (fun (q21 : 0 = 0) => ?_) (fun (q21 : ¬ (0 = 0)) => by exfalso; omega)
        refine wi_iload_n (i := 3) (e := 0) (nx := 88) (r1 := 0) (r2 := 0) (r3 := 0) rfl rfl ?_
        refine wi_iconst (n := 2) (nx := 89) (r1 := 0) (r2 := 0) (r3 := 0) rfl ?_
        refine wi_iand (e := 0) (nx := 90) (r1 := 0) (r2 := 0) (r3 := 0) rfl (by decide) ?_
        refine wi_if (cd := .eq) (nx := 93) (r1 := 103) (r2 := 0) (r3 := 0) rfl (by omega) (fun (q22 : 0 = 0) => ?_) (fun (q22 : ¬ (0 = 0)) => by exfalso; omega)
        refine wi_aload_n (i := 0) (x := 18) (nx := 104) (r1 := 0) (r2 := 0) (r3 := 0) rfl rfl ?_
        refine wi_dup (nx := 105) (r1 := 0) (r2 := 0) (r3 := 0) rfl rfl ?_
        have b23 := gi_b (lo := -2147483648) (hi := 2147483647) g 18 10 rfl
        refine wr_gi0 (k0 := 18) (x := h 18 10) (nx := 108) (r1 := 4) (r2 := 10) (r3 := 0) rfl rfl (by decide) rfl ⟨rfl, rfl⟩ rfl ((u19 18 10 rfl).trans ((u15 18 10 rfl).trans (u11 18 10 rfl))) ?_
        refine wi_iconst (n := 1) (nx := 109) (r1 := 0) (r2 := 0) (r3 := 0) rfl ?_
        refine wr_addW (nx := 110) (r1 := 0) (r2 := 0) (r3 := 0) rfl (fun e24 (fe24 : -2147483648 ≤ e24 ∧ e24 ≤ 2147483647) => ?_)
        refine wr_pf0 (k0 := 18) (x := e24) (bl := -2147483648) (bh := 2147483647) (nx := 113) (r1 := 4) (r2 := 10) (r3 := 0) rfl (by decide) rfl ⟨rfl, rfl⟩ rfl rfl g19 rfl (by omega) (fun h25 g25 w25 u25 => ?_)
        have F26 := F20.then rfl u25
        refine wi_aload_n (i := 0) (x := 18) (nx := 114) (r1 := 0) (r2 := 0) (r3 := 0) rfl rfl ?_
        refine wi_iload_n (i := 1) (e := a0) (nx := 115) (r1 := 0) (r2 := 0) (r3 := 0) rfl rfl ?_
        refine wi_iload (i := 4) (e := z10) (nx := 117) (r1 := 0) (r2 := 0) (r3 := 0) rfl rfl ?_
        refine wi_iload_n (i := 2) (e := a1) (nx := 118) (r1 := 0) (r2 := 0) (r3 := 0) rfl rfl ?_
        refine wi_if (cd := .eq) (nx := 121) (r1 := 127) (r2 := 0) (r3 := 0) rfl (by omega) (fun (q27 : a1 = 0) => ?_) (fun (q27 : ¬ (a1 = 0)) => ?_)
        ·
          refine wi_iload_n (i := 3) (e := 0) (nx := 128) (r1 := 0) (r2 := 0) (r3 := 0) rfl rfl ?_
          refine wr_V (k0 := 18) (rest := []) (as := [.ref 18, vi a0, vi z10, vi 0]) (nx := 131) (r1 := 144) (r2 := 3) (r3 := 4) rfl rfl rfl (of_decide_eq_true rfl) rfl rfl (by decide) rfl rfl (of_decide_eq_true rfl) (of_decide_eq_true rfl) ?_
          refine ct_144_18 hcr  g25 a0 z10 0 (by omega) (by omega) (by omega)  (fun h28 g28 u28 => ?_)
          have F29 := F26.then (by decide +kernel) u28
          refine wk_n ?_
          refine wi_return (nx := 132) (r1 := 0) (r2 := 0) (r3 := 0) rfl rfl ?_
          exact k h28 g28 F29
        ·
          refine wi_iload_n (i := 3) (e := 0) (nx := 122) (r1 := 0) (r2 := 0) (r3 := 0) rfl rfl ?_
          refine wi_iconst (n := 4) (nx := 123) (r1 := 0) (r2 := 0) (r3 := 0) rfl ?_
          refine wi_ior (e := 4) (nx := 124) (r1 := 0) (r2 := 0) (r3 := 0) rfl (by decide) ?_
          refine wi_goto (nx := 127) (r1 := 128) (r2 := 0) (r3 := 0) rfl ?_
          refine wr_V (k0 := 18) (rest := []) (as := [.ref 18, vi a0, vi z10, vi 4]) (nx := 131) (r1 := 144) (r2 := 3) (r3 := 4) rfl rfl rfl (of_decide_eq_true rfl) rfl rfl (by decide) rfl rfl (of_decide_eq_true rfl) (of_decide_eq_true rfl) ?_
          refine ct_144_18 hcr  g25 a0 z10 4 (by omega) (by omega) (by omega)  (fun h28 g28 u28 => ?_)
          have F29 := F26.then (by decide +kernel) u28
          refine wk_n ?_
          refine wi_return (nx := 132) (r1 := 0) (r2 := 0) (r3 := 0) rfl rfl ?_
          exact k h28 g28 F29
      ·
        refine wi_iconst (n := 2) (nx := 23) (r1 := 0) (r2 := 0) (r3 := 0) rfl ?_
        refine wi_goto (nx := 26) (r1 := 27) (r2 := 0) (r3 := 0) rfl ?_
        refine wi_ireturn (nx := 28) (r1 := 0) (r2 := 0) (r3 := 0) rfl rfl ?_
        refine wk_i ?_
        refine wi_istore_n (i := 3) (e := 2) (lo2 := [(3, vi 2), (0, .ref 18), (1, vi a0), (2, vi a1)]) (nx := 22) (r1 := 0) (r2 := 0) (r3 := 0) rfl rfl ?_
        refine wi_aload_n (i := 0) (x := 18) (nx := 23) (r1 := 0) (r2 := 0) (r3 := 0) rfl rfl ?_
        refine wr_gr (k0 := 18) (x := 3) (nx := 26) (r1 := 4) (r2 := 0) (r3 := 0) rfl rfl (by decide) rfl ⟨rfl, rfl⟩ rfl ?_
        refine wi_iload_n (i := 3) (e := 2) (nx := 27) (r1 := 0) (r2 := 0) (r3 := 0) rfl rfl ?_
        refine wi_aload_n (i := 0) (x := 18) (nx := 28) (r1 := 0) (r2 := 0) (r3 := 0) rfl rfl ?_
        refine wr_gr (k0 := 18) (x := 19) (nx := 31) (r1 := 4) (r2 := 1) (r3 := 0) rfl rfl (by decide) rfl ⟨rfl, rfl⟩ rfl ?_
        refine wi_iload_n (i := 1) (e := a0) (nx := 32) (r1 := 0) (r2 := 0) (r3 := 0) rfl rfl ?_
        refine wr_ia (k0 := 19) (a := a0) (f := i3) (x := h 19 i3) (nx := 33) (r1 := 0) (r2 := 0) (r3 := 0) rfl (by decide) rfl (by omega) (by omega) (by decide) rfl ?_
        refine wr_V (k0 := 3) (rest := []) (as := [.ref 3, vi 2, vi (h 19 i3)]) (nx := 36) (r1 := 110) (r2 := 2) (r3 := 2) rfl rfl rfl (of_decide_eq_true rfl) rfl rfl (by decide) rfl rfl (of_decide_eq_true rfl) (of_decide_eq_true rfl) ?_
        refine ct_110_3 hcr  g 2 (h 19 i3) (by omega) (by omega)  (fun z10  (fz10 : -2147483648 ≤ z10 ∧ z10 ≤ 2147483647) => ?_)
        refine wk_i ?_
        refine wi_istore (i := 4) (e := z10) (lo2 := [(4, vi z10), (3, vi 2), (0, .ref 18), (1, vi a0), (2, vi a1)]) (nx := 38) (r1 := 0) (r2 := 0) (r3 := 0) rfl rfl ?_
        refine wi_aload_n (i := 0) (x := 18) (nx := 39) (r1 := 0) (r2 := 0) (r3 := 0) rfl rfl ?_
        refine wi_aload_n (i := 0) (x := 18) (nx := 40) (r1 := 0) (r2 := 0) (r3 := 0) rfl rfl ?_
        refine wr_gr (k0 := 18) (x := 19) (nx := 43) (r1 := 4) (r2 := 1) (r3 := 0) rfl rfl (by decide) rfl ⟨rfl, rfl⟩ rfl ?_
        refine wi_iload_n (i := 1) (e := a0) (nx := 44) (r1 := 0) (r2 := 0) (r3 := 0) rfl rfl ?_
        refine wr_ia (k0 := 19) (a := a0) (f := i3) (x := h 19 i3) (nx := 45) (r1 := 0) (r2 := 0) (r3 := 0) rfl (by decide) rfl (by omega) (by omega) (by decide) rfl ?_
        refine wr_pf0 (k0 := 18) (x := h 19 i3) (bl := -2147483648) (bh := 2147483647) (nx := 48) (r1 := 4) (r2 := 8) (r3 := 0) rfl (by decide) rfl ⟨rfl, rfl⟩ rfl rfl g rfl (by omega) (fun h11 g11 w11 u11 => ?_)
        have F12 := F0.then rfl u11
        refine wi_aload_n (i := 0) (x := 18) (nx := 49) (r1 := 0) (r2 := 0) (r3 := 0) rfl rfl ?_
        refine wi_iload_n (i := 3) (e := 2) (nx := 50) (r1 := 0) (r2 := 0) (r3 := 0) rfl rfl ?_
        refine wi_aload_n (i := 0) (x := 18) (nx := 51) (r1 := 0) (r2 := 0) (r3 := 0) rfl rfl ?_
        refine wr_gi0 (k0 := 18) (x := h 18 9) (nx := 54) (r1 := 4) (r2 := 9) (r3 := 0) rfl rfl (by decide) rfl ⟨rfl, rfl⟩ rfl (u11 18 9 rfl) ?_
        refine wi_S (rest := [.ref 18]) (as := [vi 2, vi (h 18 9)]) (nx := 57) (r1 := 111) (r2 := 18) (r3 := 0) rfl rfl rfl (of_decide_eq_true rfl) rfl rfl (of_decide_eq_true rfl) (of_decide_eq_true rfl) ?_
        refine wi_iload_n (i := 0) (e := 2) (nx := 1) (r1 := 0) (r2 := 0) (r3 := 0) rfl rfl ?_
        refine wi_if (cd := .ne) (nx := 4) (r1 := 10) (r2 := 0) (r3 := 0) rfl (by omega) (fun (q13 : 2 ≠ 0) => ?_) (fun (q13 : ¬ (2 ≠ 0)) => by exfalso; omega)
        refine wi_iconst (n := 1) (nx := 11) (r1 := 0) (r2 := 0) (r3 := 0) rfl ?_
        refine wi_ireturn (nx := 12) (r1 := 0) (r2 := 0) (r3 := 0) rfl rfl ?_
        refine wk_i ?_
        refine wr_pf0 (k0 := 18) (x := 1) (bl := -2147483648) (bh := 2147483647) (nx := 60) (r1 := 4) (r2 := 9) (r3 := 0) rfl (by decide) rfl ⟨rfl, rfl⟩ rfl rfl g11 rfl (by omega) (fun h14 g14 w14 u14 => ?_)
        have F15 := F12.then rfl u14
        refine wi_aload_n (i := 0) (x := 18) (nx := 61) (r1 := 0) (r2 := 0) (r3 := 0) rfl rfl ?_
        refine wi_dup (nx := 62) (r1 := 0) (r2 := 0) (r3 := 0) rfl rfl ?_
        have b16 := gi_b (lo := -2147483648) (hi := 2147483647) g 18 13 rfl
        refine wr_gi0 (k0 := 18) (x := h 18 13) (nx := 65) (r1 := 4) (r2 := 13) (r3 := 0) rfl rfl (by decide) rfl ⟨rfl, rfl⟩ rfl ((u14 18 13 rfl).trans (u11 18 13 rfl)) ?_
        refine wi_iload (i := 4) (e := z10) (nx := 67) (r1 := 0) (r2 := 0) (r3 := 0) rfl rfl ?_
        refine wr_addW (nx := 68) (r1 := 0) (r2 := 0) (r3 := 0) rfl (fun e17 (fe17 : -2147483648 ≤ e17 ∧ e17 ≤ 2147483647) => ?_)
        refine wr_pf0 (k0 := 18) (x := e17) (bl := -2147483648) (bh := 2147483647) (nx := 71) (r1 := 4) (r2 := 13) (r3 := 0) rfl (by decide) rfl ⟨rfl, rfl⟩ rfl rfl g14 rfl (by omega) (fun h18 g18 w18 u18 => ?_)
        have F19 := F15.then rfl u18
        refine wi_iload_n (i := 3) (e := 2) (nx := 72) (r1 := 0) (r2 := 0) (r3 := 0) rfl rfl ?_
        refine wi_iconst (n := 1) (nx := 73) (r1 := 0) (r2 := 0) (r3 := 0) rfl ?_
        refine wi_iand (e := 0) (nx := 74) (r1 := 0) (r2 := 0) (r3 := 0) rfl (by decide) ?_
        refine wi_if (cd := .eq) (nx := 77) (r1 := 87) (r2 := 0) (r3 := 0) rfl (by omega) (fun (q20 : 0 = 0) => ?_) (fun (q20 : ¬ (0 = 0)) => by exfalso; omega)
        refine wi_iload_n (i := 3) (e := 2) (nx := 88) (r1 := 0) (r2 := 0) (r3 := 0) rfl rfl ?_
        refine wi_iconst (n := 2) (nx := 89) (r1 := 0) (r2 := 0) (r3 := 0) rfl ?_
        refine wi_iand (e := 2) (nx := 90) (r1 := 0) (r2 := 0) (r3 := 0) rfl (by decide) ?_
        refine wi_if (cd := .eq) (nx := 93) (r1 := 103) (r2 := 0) (r3 := 0) rfl (by omega) (fun (q21 : 2 = 0) => by exfalso; omega) (fun (q21 : ¬ (2 = 0)) => ?_)
        refine wi_aload_n (i := 0) (x := 18) (nx := 94) (r1 := 0) (r2 := 0) (r3 := 0) rfl rfl ?_
        refine wi_dup (nx := 95) (r1 := 0) (r2 := 0) (r3 := 0) rfl rfl ?_
        have b22 := gi_b (lo := -2147483648) (hi := 2147483647) g 18 12 rfl
        refine wr_gi0 (k0 := 18) (x := h 18 12) (nx := 98) (r1 := 4) (r2 := 12) (r3 := 0) rfl rfl (by decide) rfl ⟨rfl, rfl⟩ rfl ((u18 18 12 rfl).trans ((u14 18 12 rfl).trans (u11 18 12 rfl))) ?_
        refine wi_iconst (n := 1) (nx := 99) (r1 := 0) (r2 := 0) (r3 := 0) rfl ?_
        refine wr_addW (nx := 100) (r1 := 0) (r2 := 0) (r3 := 0) rfl (fun e23 (fe23 : -2147483648 ≤ e23 ∧ e23 ≤ 2147483647) => ?_)
        refine wr_pf0 (k0 := 18) (x := e23) (bl := -2147483648) (bh := 2147483647) (nx := 103) (r1 := 4) (r2 := 12) (r3 := 0) rfl (by decide) rfl ⟨rfl, rfl⟩ rfl rfl g18 rfl (by omega) (fun h24 g24 w24 u24 => ?_)
        have F25 := F19.then rfl u24
        refine wi_aload_n (i := 0) (x := 18) (nx := 104) (r1 := 0) (r2 := 0) (r3 := 0) rfl rfl ?_
        refine wi_dup (nx := 105) (r1 := 0) (r2 := 0) (r3 := 0) rfl rfl ?_
        have b26 := gi_b (lo := -2147483648) (hi := 2147483647) g 18 10 rfl
        refine wr_gi0 (k0 := 18) (x := h 18 10) (nx := 108) (r1 := 4) (r2 := 10) (r3 := 0) rfl rfl (by decide) rfl ⟨rfl, rfl⟩ rfl ((u24 18 10 rfl).trans ((u18 18 10 rfl).trans ((u14 18 10 rfl).trans (u11 18 10 rfl)))) ?_
        refine wi_iconst (n := 1) (nx := 109) (r1 := 0) (r2 := 0) (r3 := 0) rfl ?_
        refine wr_addW (nx := 110) (r1 := 0) (r2 := 0) (r3 := 0) rfl (fun e27 (fe27 : -2147483648 ≤ e27 ∧ e27 ≤ 2147483647) => ?_)
        refine wr_pf0 (k0 := 18) (x := e27) (bl := -2147483648) (bh := 2147483647) (nx := 113) (r1 := 4) (r2 := 10) (r3 := 0) rfl (by decide) rfl ⟨rfl, rfl⟩ rfl rfl g24 rfl (by omega) (fun h28 g28 w28 u28 => ?_)
        have F29 := F25.then rfl u28
        refine wi_aload_n (i := 0) (x := 18) (nx := 114) (r1 := 0) (r2 := 0) (r3 := 0) rfl rfl ?_
        refine wi_iload_n (i := 1) (e := a0) (nx := 115) (r1 := 0) (r2 := 0) (r3 := 0) rfl rfl ?_
        refine wi_iload (i := 4) (e := z10) (nx := 117) (r1 := 0) (r2 := 0) (r3 := 0) rfl rfl ?_
        refine wi_iload_n (i := 2) (e := a1) (nx := 118) (r1 := 0) (r2 := 0) (r3 := 0) rfl rfl ?_
        refine wi_if (cd := .eq) (nx := 121) (r1 := 127) (r2 := 0) (r3 := 0) rfl (by omega) (fun (q30 : a1 = 0) => ?_) (fun (q30 : ¬ (a1 = 0)) => ?_)
        ·
          refine wi_iload_n (i := 3) (e := 2) (nx := 128) (r1 := 0) (r2 := 0) (r3 := 0) rfl rfl ?_
          refine wr_V (k0 := 18) (rest := []) (as := [.ref 18, vi a0, vi z10, vi 2]) (nx := 131) (r1 := 144) (r2 := 3) (r3 := 4) rfl rfl rfl (of_decide_eq_true rfl) rfl rfl (by decide) rfl rfl (of_decide_eq_true rfl) (of_decide_eq_true rfl) ?_
          refine ct_144_18 hcr  g28 a0 z10 2 (by omega) (by omega) (by omega)  (fun h31 g31 u31 => ?_)
          have F32 := F29.then (by decide +kernel) u31
          refine wk_n ?_
          refine wi_return (nx := 132) (r1 := 0) (r2 := 0) (r3 := 0) rfl rfl ?_
          exact k h31 g31 F32
        ·
          refine wi_iload_n (i := 3) (e := 2) (nx := 122) (r1 := 0) (r2 := 0) (r3 := 0) rfl rfl ?_
          refine wi_iconst (n := 4) (nx := 123) (r1 := 0) (r2 := 0) (r3 := 0) rfl ?_
          refine wi_ior (e := 6) (nx := 124) (r1 := 0) (r2 := 0) (r3 := 0) rfl (by decide) ?_
          refine wi_goto (nx := 127) (r1 := 128) (r2 := 0) (r3 := 0) rfl ?_
          refine wr_V (k0 := 18) (rest := []) (as := [.ref 18, vi a0, vi z10, vi 6]) (nx := 131) (r1 := 144) (r2 := 3) (r3 := 4) rfl rfl rfl (of_decide_eq_true rfl) rfl rfl (by decide) rfl rfl (of_decide_eq_true rfl) (of_decide_eq_true rfl) ?_
          refine ct_144_18 hcr  g28 a0 z10 6 (by omega) (by omega) (by omega)  (fun h31 g31 u31 => ?_)
          have F32 := F29.then (by decide +kernel) u31
          refine wk_n ?_
          refine wi_return (nx := 132) (r1 := 0) (r2 := 0) (r3 := 0) rfl rfl ?_
          exact k h31 g31 F32
    ·
      refine wi_iconst (n := 1) (nx := 13) (r1 := 0) (r2 := 0) (r3 := 0) rfl ?_
      refine wi_ireturn (nx := 14) (r1 := 0) (r2 := 0) (r3 := 0) rfl rfl ?_
      refine wk_i ?_
      refine wi_istore_n (i := 3) (e := 1) (lo2 := [(3, vi 1), (0, .ref 18), (1, vi a0), (2, vi a1)]) (nx := 22) (r1 := 0) (r2 := 0) (r3 := 0) rfl rfl ?_
      refine wi_aload_n (i := 0) (x := 18) (nx := 23) (r1 := 0) (r2 := 0) (r3 := 0) rfl rfl ?_
      refine wr_gr (k0 := 18) (x := 3) (nx := 26) (r1 := 4) (r2 := 0) (r3 := 0) rfl rfl (by decide) rfl ⟨rfl, rfl⟩ rfl ?_
      refine wi_iload_n (i := 3) (e := 1) (nx := 27) (r1 := 0) (r2 := 0) (r3 := 0) rfl rfl ?_
      refine wi_aload_n (i := 0) (x := 18) (nx := 28) (r1 := 0) (r2 := 0) (r3 := 0) rfl rfl ?_
      refine wr_gr (k0 := 18) (x := 19) (nx := 31) (r1 := 4) (r2 := 1) (r3 := 0) rfl rfl (by decide) rfl ⟨rfl, rfl⟩ rfl ?_
      refine wi_iload_n (i := 1) (e := a0) (nx := 32) (r1 := 0) (r2 := 0) (r3 := 0) rfl rfl ?_
      refine wr_ia (k0 := 19) (a := a0) (f := i3) (x := h 19 i3) (nx := 33) (r1 := 0) (r2 := 0) (r3 := 0) rfl (by decide) rfl (by omega) (by omega) (by decide) rfl ?_
      refine wr_V (k0 := 3) (rest := []) (as := [.ref 3, vi 1, vi (h 19 i3)]) (nx := 36) (r1 := 110) (r2 := 2) (r3 := 2) rfl rfl rfl (of_decide_eq_true rfl) rfl rfl (by decide) rfl rfl (of_decide_eq_true rfl) (of_decide_eq_true rfl) ?_
      refine ct_110_3 hcr  g 1 (h 19 i3) (by omega) (by omega)  (fun z8  (fz8 : -2147483648 ≤ z8 ∧ z8 ≤ 2147483647) => ?_)
      refine wk_i ?_
      refine wi_istore (i := 4) (e := z8) (lo2 := [(4, vi z8), (3, vi 1), (0, .ref 18), (1, vi a0), (2, vi a1)]) (nx := 38) (r1 := 0) (r2 := 0) (r3 := 0) rfl rfl ?_
      refine wi_aload_n (i := 0) (x := 18) (nx := 39) (r1 := 0) (r2 := 0) (r3 := 0) rfl rfl ?_
      refine wi_aload_n (i := 0) (x := 18) (nx := 40) (r1 := 0) (r2 := 0) (r3 := 0) rfl rfl ?_
      refine wr_gr (k0 := 18) (x := 19) (nx := 43) (r1 := 4) (r2 := 1) (r3 := 0) rfl rfl (by decide) rfl ⟨rfl, rfl⟩ rfl ?_
      refine wi_iload_n (i := 1) (e := a0) (nx := 44) (r1 := 0) (r2 := 0) (r3 := 0) rfl rfl ?_
      refine wr_ia (k0 := 19) (a := a0) (f := i3) (x := h 19 i3) (nx := 45) (r1 := 0) (r2 := 0) (r3 := 0) rfl (by decide) rfl (by omega) (by omega) (by decide) rfl ?_
      refine wr_pf0 (k0 := 18) (x := h 19 i3) (bl := -2147483648) (bh := 2147483647) (nx := 48) (r1 := 4) (r2 := 8) (r3 := 0) rfl (by decide) rfl ⟨rfl, rfl⟩ rfl rfl g rfl (by omega) (fun h9 g9 w9 u9 => ?_)
      have F10 := F0.then rfl u9
      refine wi_aload_n (i := 0) (x := 18) (nx := 49) (r1 := 0) (r2 := 0) (r3 := 0) rfl rfl ?_
      refine wi_iload_n (i := 3) (e := 1) (nx := 50) (r1 := 0) (r2 := 0) (r3 := 0) rfl rfl ?_
      refine wi_aload_n (i := 0) (x := 18) (nx := 51) (r1 := 0) (r2 := 0) (r3 := 0) rfl rfl ?_
      refine wr_gi0 (k0 := 18) (x := h 18 9) (nx := 54) (r1 := 4) (r2 := 9) (r3 := 0) rfl rfl (by decide) rfl ⟨rfl, rfl⟩ rfl (u9 18 9 rfl) ?_
      refine wi_S (rest := [.ref 18]) (as := [vi 1, vi (h 18 9)]) (nx := 57) (r1 := 111) (r2 := 18) (r3 := 0) rfl rfl rfl (of_decide_eq_true rfl) rfl rfl (of_decide_eq_true rfl) (of_decide_eq_true rfl) ?_
      refine wi_iload_n (i := 0) (e := 1) (nx := 1) (r1 := 0) (r2 := 0) (r3 := 0) rfl rfl ?_
      refine wi_if (cd := .ne) (nx := 4) (r1 := 10) (r2 := 0) (r3 := 0) rfl (by omega) (fun (q11 : 1 ≠ 0) => ?_) (fun (q11 : ¬ (1 ≠ 0)) => by exfalso; omega)
      refine wi_iconst (n := 1) (nx := 11) (r1 := 0) (r2 := 0) (r3 := 0) rfl ?_
      refine wi_ireturn (nx := 12) (r1 := 0) (r2 := 0) (r3 := 0) rfl rfl ?_
      refine wk_i ?_
      refine wr_pf0 (k0 := 18) (x := 1) (bl := -2147483648) (bh := 2147483647) (nx := 60) (r1 := 4) (r2 := 9) (r3 := 0) rfl (by decide) rfl ⟨rfl, rfl⟩ rfl rfl g9 rfl (by omega) (fun h12 g12 w12 u12 => ?_)
      have F13 := F10.then rfl u12
      refine wi_aload_n (i := 0) (x := 18) (nx := 61) (r1 := 0) (r2 := 0) (r3 := 0) rfl rfl ?_
      refine wi_dup (nx := 62) (r1 := 0) (r2 := 0) (r3 := 0) rfl rfl ?_
      have b14 := gi_b (lo := -2147483648) (hi := 2147483647) g 18 13 rfl
      refine wr_gi0 (k0 := 18) (x := h 18 13) (nx := 65) (r1 := 4) (r2 := 13) (r3 := 0) rfl rfl (by decide) rfl ⟨rfl, rfl⟩ rfl ((u12 18 13 rfl).trans (u9 18 13 rfl)) ?_
      refine wi_iload (i := 4) (e := z8) (nx := 67) (r1 := 0) (r2 := 0) (r3 := 0) rfl rfl ?_
      refine wr_addW (nx := 68) (r1 := 0) (r2 := 0) (r3 := 0) rfl (fun e15 (fe15 : -2147483648 ≤ e15 ∧ e15 ≤ 2147483647) => ?_)
      refine wr_pf0 (k0 := 18) (x := e15) (bl := -2147483648) (bh := 2147483647) (nx := 71) (r1 := 4) (r2 := 13) (r3 := 0) rfl (by decide) rfl ⟨rfl, rfl⟩ rfl rfl g12 rfl (by omega) (fun h16 g16 w16 u16 => ?_)
      have F17 := F13.then rfl u16
      refine wi_iload_n (i := 3) (e := 1) (nx := 72) (r1 := 0) (r2 := 0) (r3 := 0) rfl rfl ?_
      refine wi_iconst (n := 1) (nx := 73) (r1 := 0) (r2 := 0) (r3 := 0) rfl ?_
      refine wi_iand (e := 1) (nx := 74) (r1 := 0) (r2 := 0) (r3 := 0) rfl (by decide) ?_
      refine wi_if (cd := .eq) (nx := 77) (r1 := 87) (r2 := 0) (r3 := 0) rfl (by omega) (fun (q18 : 1 = 0) => by exfalso; omega) (fun (q18 : ¬ (1 = 0)) => ?_)
      refine wi_aload_n (i := 0) (x := 18) (nx := 78) (r1 := 0) (r2 := 0) (r3 := 0) rfl rfl ?_
      refine wi_dup (nx := 79) (r1 := 0) (r2 := 0) (r3 := 0) rfl rfl ?_
      have b19 := gi_b (lo := -2147483648) (hi := 2147483647) g 18 11 rfl
      refine wr_gi0 (k0 := 18) (x := h 18 11) (nx := 82) (r1 := 4) (r2 := 11) (r3 := 0) rfl rfl (by decide) rfl ⟨rfl, rfl⟩ rfl ((u16 18 11 rfl).trans ((u12 18 11 rfl).trans (u9 18 11 rfl))) ?_
      refine wi_iconst (n := 1) (nx := 83) (r1 := 0) (r2 := 0) (r3 := 0) rfl ?_
      refine wr_addW (nx := 84) (r1 := 0) (r2 := 0) (r3 := 0) rfl (fun e20 (fe20 : -2147483648 ≤ e20 ∧ e20 ≤ 2147483647) => ?_)
      refine wr_pf0 (k0 := 18) (x := e20) (bl := -2147483648) (bh := 2147483647) (nx := 87) (r1 := 4) (r2 := 11) (r3 := 0) rfl (by decide) rfl ⟨rfl, rfl⟩ rfl rfl g16 rfl (by omega) (fun h21 g21 w21 u21 => ?_)
      have F22 := F17.then rfl u21
      refine wi_iload_n (i := 3) (e := 1) (nx := 88) (r1 := 0) (r2 := 0) (r3 := 0) rfl rfl ?_
      refine wi_iconst (n := 2) (nx := 89) (r1 := 0) (r2 := 0) (r3 := 0) rfl ?_
      refine wi_iand (e := 0) (nx := 90) (r1 := 0) (r2 := 0) (r3 := 0) rfl (by decide) ?_
      refine wi_if (cd := .eq) (nx := 93) (r1 := 103) (r2 := 0) (r3 := 0) rfl (by omega) (fun (q23 : 0 = 0) => ?_) (fun (q23 : ¬ (0 = 0)) => by exfalso; omega)
      refine wi_aload_n (i := 0) (x := 18) (nx := 104) (r1 := 0) (r2 := 0) (r3 := 0) rfl rfl ?_
      refine wi_dup (nx := 105) (r1 := 0) (r2 := 0) (r3 := 0) rfl rfl ?_
      have b24 := gi_b (lo := -2147483648) (hi := 2147483647) g 18 10 rfl
      refine wr_gi0 (k0 := 18) (x := h 18 10) (nx := 108) (r1 := 4) (r2 := 10) (r3 := 0) rfl rfl (by decide) rfl ⟨rfl, rfl⟩ rfl ((u21 18 10 rfl).trans ((u16 18 10 rfl).trans ((u12 18 10 rfl).trans (u9 18 10 rfl)))) ?_
      refine wi_iconst (n := 1) (nx := 109) (r1 := 0) (r2 := 0) (r3 := 0) rfl ?_
      refine wr_addW (nx := 110) (r1 := 0) (r2 := 0) (r3 := 0) rfl (fun e25 (fe25 : -2147483648 ≤ e25 ∧ e25 ≤ 2147483647) => ?_)
      refine wr_pf0 (k0 := 18) (x := e25) (bl := -2147483648) (bh := 2147483647) (nx := 113) (r1 := 4) (r2 := 10) (r3 := 0) rfl (by decide) rfl ⟨rfl, rfl⟩ rfl rfl g21 rfl (by omega) (fun h26 g26 w26 u26 => ?_)
      have F27 := F22.then rfl u26
      refine wi_aload_n (i := 0) (x := 18) (nx := 114) (r1 := 0) (r2 := 0) (r3 := 0) rfl rfl ?_
      refine wi_iload_n (i := 1) (e := a0) (nx := 115) (r1 := 0) (r2 := 0) (r3 := 0) rfl rfl ?_
      refine wi_iload (i := 4) (e := z8) (nx := 117) (r1 := 0) (r2 := 0) (r3 := 0) rfl rfl ?_
      refine wi_iload_n (i := 2) (e := a1) (nx := 118) (r1 := 0) (r2 := 0) (r3 := 0) rfl rfl ?_
      refine wi_if (cd := .eq) (nx := 121) (r1 := 127) (r2 := 0) (r3 := 0) rfl (by omega) (fun (q28 : a1 = 0) => ?_) (fun (q28 : ¬ (a1 = 0)) => ?_)
      ·
        refine wi_iload_n (i := 3) (e := 1) (nx := 128) (r1 := 0) (r2 := 0) (r3 := 0) rfl rfl ?_
        refine wr_V (k0 := 18) (rest := []) (as := [.ref 18, vi a0, vi z8, vi 1]) (nx := 131) (r1 := 144) (r2 := 3) (r3 := 4) rfl rfl rfl (of_decide_eq_true rfl) rfl rfl (by decide) rfl rfl (of_decide_eq_true rfl) (of_decide_eq_true rfl) ?_
        refine ct_144_18 hcr  g26 a0 z8 1 (by omega) (by omega) (by omega)  (fun h29 g29 u29 => ?_)
        have F30 := F27.then (by decide +kernel) u29
        refine wk_n ?_
        refine wi_return (nx := 132) (r1 := 0) (r2 := 0) (r3 := 0) rfl rfl ?_
        exact k h29 g29 F30
      ·
        refine wi_iload_n (i := 3) (e := 1) (nx := 122) (r1 := 0) (r2 := 0) (r3 := 0) rfl rfl ?_
        refine wi_iconst (n := 4) (nx := 123) (r1 := 0) (r2 := 0) (r3 := 0) rfl ?_
        refine wi_ior (e := 5) (nx := 124) (r1 := 0) (r2 := 0) (r3 := 0) rfl (by decide) ?_
        refine wi_goto (nx := 127) (r1 := 128) (r2 := 0) (r3 := 0) rfl ?_
        refine wr_V (k0 := 18) (rest := []) (as := [.ref 18, vi a0, vi z8, vi 5]) (nx := 131) (r1 := 144) (r2 := 3) (r3 := 4) rfl rfl rfl (of_decide_eq_true rfl) rfl rfl (by decide) rfl rfl (of_decide_eq_true rfl) (of_decide_eq_true rfl) ?_
        refine ct_144_18 hcr  g26 a0 z8 5 (by omega) (by omega) (by omega)  (fun h29 g29 u29 => ?_)
        have F30 := F27.then (by decide +kernel) u29
        refine wk_n ?_
        refine wi_return (nx := 132) (r1 := 0) (r2 := 0) (r3 := 0) rfl rfl ?_
        exact k h29 g29 F30
  ·
    refine wi_iconst (n := 0) (nx := 6) (r1 := 0) (r2 := 0) (r3 := 0) rfl ?_
    refine wi_ireturn (nx := 7) (r1 := 0) (r2 := 0) (r3 := 0) rfl rfl ?_
    refine wk_i ?_
    refine wi_istore_n (i := 3) (e := 0) (lo2 := [(3, vi 0), (0, .ref 18), (1, vi a0), (2, vi a1)]) (nx := 22) (r1 := 0) (r2 := 0) (r3 := 0) rfl rfl ?_
    refine wi_aload_n (i := 0) (x := 18) (nx := 23) (r1 := 0) (r2 := 0) (r3 := 0) rfl rfl ?_
    refine wr_gr (k0 := 18) (x := 3) (nx := 26) (r1 := 4) (r2 := 0) (r3 := 0) rfl rfl (by decide) rfl ⟨rfl, rfl⟩ rfl ?_
    refine wi_iload_n (i := 3) (e := 0) (nx := 27) (r1 := 0) (r2 := 0) (r3 := 0) rfl rfl ?_
    refine wi_aload_n (i := 0) (x := 18) (nx := 28) (r1 := 0) (r2 := 0) (r3 := 0) rfl rfl ?_
    refine wr_gr (k0 := 18) (x := 19) (nx := 31) (r1 := 4) (r2 := 1) (r3 := 0) rfl rfl (by decide) rfl ⟨rfl, rfl⟩ rfl ?_
    refine wi_iload_n (i := 1) (e := a0) (nx := 32) (r1 := 0) (r2 := 0) (r3 := 0) rfl rfl ?_
    refine wr_ia (k0 := 19) (a := a0) (f := i3) (x := h 19 i3) (nx := 33) (r1 := 0) (r2 := 0) (r3 := 0) rfl (by decide) rfl (by omega) (by omega) (by decide) rfl ?_
    refine wr_V (k0 := 3) (rest := []) (as := [.ref 3, vi 0, vi (h 19 i3)]) (nx := 36) (r1 := 110) (r2 := 2) (r3 := 2) rfl rfl rfl (of_decide_eq_true rfl) rfl rfl (by decide) rfl rfl (of_decide_eq_true rfl) (of_decide_eq_true rfl) ?_
    refine ct_110_3 hcr  g 0 (h 19 i3) (by omega) (by omega)  (fun z7  (fz7 : -2147483648 ≤ z7 ∧ z7 ≤ 2147483647) => ?_)
    refine wk_i ?_
    refine wi_istore (i := 4) (e := z7) (lo2 := [(4, vi z7), (3, vi 0), (0, .ref 18), (1, vi a0), (2, vi a1)]) (nx := 38) (r1 := 0) (r2 := 0) (r3 := 0) rfl rfl ?_
    refine wi_aload_n (i := 0) (x := 18) (nx := 39) (r1 := 0) (r2 := 0) (r3 := 0) rfl rfl ?_
    refine wi_aload_n (i := 0) (x := 18) (nx := 40) (r1 := 0) (r2 := 0) (r3 := 0) rfl rfl ?_
    refine wr_gr (k0 := 18) (x := 19) (nx := 43) (r1 := 4) (r2 := 1) (r3 := 0) rfl rfl (by decide) rfl ⟨rfl, rfl⟩ rfl ?_
    refine wi_iload_n (i := 1) (e := a0) (nx := 44) (r1 := 0) (r2 := 0) (r3 := 0) rfl rfl ?_
    refine wr_ia (k0 := 19) (a := a0) (f := i3) (x := h 19 i3) (nx := 45) (r1 := 0) (r2 := 0) (r3 := 0) rfl (by decide) rfl (by omega) (by omega) (by decide) rfl ?_
    refine wr_pf0 (k0 := 18) (x := h 19 i3) (bl := -2147483648) (bh := 2147483647) (nx := 48) (r1 := 4) (r2 := 8) (r3 := 0) rfl (by decide) rfl ⟨rfl, rfl⟩ rfl rfl g rfl (by omega) (fun h8 g8 w8 u8 => ?_)
    have F9 := F0.then rfl u8
    refine wi_aload_n (i := 0) (x := 18) (nx := 49) (r1 := 0) (r2 := 0) (r3 := 0) rfl rfl ?_
    refine wi_iload_n (i := 3) (e := 0) (nx := 50) (r1 := 0) (r2 := 0) (r3 := 0) rfl rfl ?_
    refine wi_aload_n (i := 0) (x := 18) (nx := 51) (r1 := 0) (r2 := 0) (r3 := 0) rfl rfl ?_
    refine wr_gi0 (k0 := 18) (x := h 18 9) (nx := 54) (r1 := 4) (r2 := 9) (r3 := 0) rfl rfl (by decide) rfl ⟨rfl, rfl⟩ rfl (u8 18 9 rfl) ?_
    refine wi_S (rest := [.ref 18]) (as := [vi 0, vi (h 18 9)]) (nx := 57) (r1 := 111) (r2 := 18) (r3 := 0) rfl rfl rfl (of_decide_eq_true rfl) rfl rfl (of_decide_eq_true rfl) (of_decide_eq_true rfl) ?_
    refine wi_iload_n (i := 0) (e := 0) (nx := 1) (r1 := 0) (r2 := 0) (r3 := 0) rfl rfl ?_
    refine wi_if (cd := .ne) (nx := 4) (r1 := 10) (r2 := 0) (r3 := 0) rfl (by omega) (fun (q10 : 0 ≠ 0) => by exfalso; omega) (fun (q10 : ¬ (0 ≠ 0)) => ?_)
    refine wi_iload_n (i := 1) (e := h 18 9) (nx := 5) (r1 := 0) (r2 := 0) (r3 := 0) rfl rfl ?_
    refine wi_iconst (n := 1) (nx := 6) (r1 := 0) (r2 := 0) (r3 := 0) rfl ?_
    refine wr_addW (nx := 7) (r1 := 0) (r2 := 0) (r3 := 0) rfl (fun e11 (fe11 : -2147483648 ≤ e11 ∧ e11 ≤ 2147483647) => ?_)
    refine wi_goto (nx := 10) (r1 := 11) (r2 := 0) (r3 := 0) rfl ?_
    refine wi_ireturn (nx := 12) (r1 := 0) (r2 := 0) (r3 := 0) rfl rfl ?_
    refine wk_i ?_
    refine wr_pf0 (k0 := 18) (x := e11) (bl := -2147483648) (bh := 2147483647) (nx := 60) (r1 := 4) (r2 := 9) (r3 := 0) rfl (by decide) rfl ⟨rfl, rfl⟩ rfl rfl g8 rfl (by omega) (fun h12 g12 w12 u12 => ?_)
    have F13 := F9.then rfl u12
    refine wi_aload_n (i := 0) (x := 18) (nx := 61) (r1 := 0) (r2 := 0) (r3 := 0) rfl rfl ?_
    refine wi_dup (nx := 62) (r1 := 0) (r2 := 0) (r3 := 0) rfl rfl ?_
    have b14 := gi_b (lo := -2147483648) (hi := 2147483647) g 18 13 rfl
    refine wr_gi0 (k0 := 18) (x := h 18 13) (nx := 65) (r1 := 4) (r2 := 13) (r3 := 0) rfl rfl (by decide) rfl ⟨rfl, rfl⟩ rfl ((u12 18 13 rfl).trans (u8 18 13 rfl)) ?_
    refine wi_iload (i := 4) (e := z7) (nx := 67) (r1 := 0) (r2 := 0) (r3 := 0) rfl rfl ?_
    refine wr_addW (nx := 68) (r1 := 0) (r2 := 0) (r3 := 0) rfl (fun e15 (fe15 : -2147483648 ≤ e15 ∧ e15 ≤ 2147483647) => ?_)
    refine wr_pf0 (k0 := 18) (x := e15) (bl := -2147483648) (bh := 2147483647) (nx := 71) (r1 := 4) (r2 := 13) (r3 := 0) rfl (by decide) rfl ⟨rfl, rfl⟩ rfl rfl g12 rfl (by omega) (fun h16 g16 w16 u16 => ?_)
    have F17 := F13.then rfl u16
    refine wi_iload_n (i := 3) (e := 0) (nx := 72) (r1 := 0) (r2 := 0) (r3 := 0) rfl rfl ?_
    refine wi_iconst (n := 1) (nx := 73) (r1 := 0) (r2 := 0) (r3 := 0) rfl ?_
    refine wi_iand (e := 0) (nx := 74) (r1 := 0) (r2 := 0) (r3 := 0) rfl (by decide) ?_
    refine wi_if (cd := .eq) (nx := 77) (r1 := 87) (r2 := 0) (r3 := 0) rfl (by omega) (fun (q18 : 0 = 0) => ?_) (fun (q18 : ¬ (0 = 0)) => by exfalso; omega)
    refine wi_iload_n (i := 3) (e := 0) (nx := 88) (r1 := 0) (r2 := 0) (r3 := 0) rfl rfl ?_
    refine wi_iconst (n := 2) (nx := 89) (r1 := 0) (r2 := 0) (r3 := 0) rfl ?_
    refine wi_iand (e := 0) (nx := 90) (r1 := 0) (r2 := 0) (r3 := 0) rfl (by decide) ?_
    refine wi_if (cd := .eq) (nx := 93) (r1 := 103) (r2 := 0) (r3 := 0) rfl (by omega) (fun (q19 : 0 = 0) => ?_) (fun (q19 : ¬ (0 = 0)) => by exfalso; omega)
    refine wi_aload_n (i := 0) (x := 18) (nx := 104) (r1 := 0) (r2 := 0) (r3 := 0) rfl rfl ?_
    refine wi_dup (nx := 105) (r1 := 0) (r2 := 0) (r3 := 0) rfl rfl ?_
    have b20 := gi_b (lo := -2147483648) (hi := 2147483647) g 18 10 rfl
    refine wr_gi0 (k0 := 18) (x := h 18 10) (nx := 108) (r1 := 4) (r2 := 10) (r3 := 0) rfl rfl (by decide) rfl ⟨rfl, rfl⟩ rfl ((u16 18 10 rfl).trans ((u12 18 10 rfl).trans (u8 18 10 rfl))) ?_
    refine wi_iconst (n := 1) (nx := 109) (r1 := 0) (r2 := 0) (r3 := 0) rfl ?_
    refine wr_addW (nx := 110) (r1 := 0) (r2 := 0) (r3 := 0) rfl (fun e21 (fe21 : -2147483648 ≤ e21 ∧ e21 ≤ 2147483647) => ?_)
    refine wr_pf0 (k0 := 18) (x := e21) (bl := -2147483648) (bh := 2147483647) (nx := 113) (r1 := 4) (r2 := 10) (r3 := 0) rfl (by decide) rfl ⟨rfl, rfl⟩ rfl rfl g16 rfl (by omega) (fun h22 g22 w22 u22 => ?_)
    have F23 := F17.then rfl u22
    refine wi_aload_n (i := 0) (x := 18) (nx := 114) (r1 := 0) (r2 := 0) (r3 := 0) rfl rfl ?_
    refine wi_iload_n (i := 1) (e := a0) (nx := 115) (r1 := 0) (r2 := 0) (r3 := 0) rfl rfl ?_
    refine wi_iload (i := 4) (e := z7) (nx := 117) (r1 := 0) (r2 := 0) (r3 := 0) rfl rfl ?_
    refine wi_iload_n (i := 2) (e := a1) (nx := 118) (r1 := 0) (r2 := 0) (r3 := 0) rfl rfl ?_
    refine wi_if (cd := .eq) (nx := 121) (r1 := 127) (r2 := 0) (r3 := 0) rfl (by omega) (fun (q24 : a1 = 0) => ?_) (fun (q24 : ¬ (a1 = 0)) => ?_)
    ·
      refine wi_iload_n (i := 3) (e := 0) (nx := 128) (r1 := 0) (r2 := 0) (r3 := 0) rfl rfl ?_
      refine wr_V (k0 := 18) (rest := []) (as := [.ref 18, vi a0, vi z7, vi 0]) (nx := 131) (r1 := 144) (r2 := 3) (r3 := 4) rfl rfl rfl (of_decide_eq_true rfl) rfl rfl (by decide) rfl rfl (of_decide_eq_true rfl) (of_decide_eq_true rfl) ?_
      refine ct_144_18 hcr  g22 a0 z7 0 (by omega) (by omega) (by omega)  (fun h25 g25 u25 => ?_)
      have F26 := F23.then (by decide +kernel) u25
      refine wk_n ?_
      refine wi_return (nx := 132) (r1 := 0) (r2 := 0) (r3 := 0) rfl rfl ?_
      exact k h25 g25 F26
    ·
      refine wi_iload_n (i := 3) (e := 0) (nx := 122) (r1 := 0) (r2 := 0) (r3 := 0) rfl rfl ?_
      refine wi_iconst (n := 4) (nx := 123) (r1 := 0) (r2 := 0) (r3 := 0) rfl ?_
      refine wi_ior (e := 4) (nx := 124) (r1 := 0) (r2 := 0) (r3 := 0) rfl (by decide) ?_
      refine wi_goto (nx := 127) (r1 := 128) (r2 := 0) (r3 := 0) rfl ?_
      refine wr_V (k0 := 18) (rest := []) (as := [.ref 18, vi a0, vi z7, vi 4]) (nx := 131) (r1 := 144) (r2 := 3) (r3 := 4) rfl rfl rfl (of_decide_eq_true rfl) rfl rfl (by decide) rfl rfl (of_decide_eq_true rfl) (of_decide_eq_true rfl) ?_
      refine ct_144_18 hcr  g22 a0 z7 4 (by omega) (by omega) (by omega)  (fun h25 g25 u25 => ?_)
      have F26 := F23.then (by decide +kernel) u25
      refine wk_n ?_
      refine wi_return (nx := 132) (r1 := 0) (r2 := 0) (r3 := 0) rfl rfl ?_
      exact k h25 g25 F26
-- method 142: Line.paintFrom(I)I
set_option maxRecDepth 100000 in
set_option maxHeartbeats 100000000 in
theorem ct_142_18 {L : Nat} {xs : Nat → Int32} {d b c : Nat} {h : hp} {cr : Nat → Nat → Option Nat} {Q : hp_Q} (hcr : CR cr)  (g : GI h) (a0 : Int) (q0_ : -2147483648 ≤ a0 ∧ a0 ≤ 2147483647)  (k : ∀ (h2 : hp) (z0 : Int) , GI h2 → FR [(18, 36, none)] h h2 → (-1 ≤ z0 ∧ z0 ≤ 11) → Q (.inl (some (vi z0))) (hp_w h2 cr) b c) : wp (md_xa (L, xs)) (d + 2) 142 (0, [(0, .ref 18), (1, vi a0)], [], hp_w h cr, b, c) Q := by
  have F0 : FR [(18, 36, none)] h h := FR.refl
  refine wi_aload_n (i := 0) (x := 18) (nx := 1) (r1 := 0) (r2 := 0) (r3 := 0) rfl rfl ?_
  refine wi_iload_n (i := 1) (e := a0) (nx := 2) (r1 := 0) (r2 := 0) (r3 := 0) rfl rfl ?_
  refine wr_V (k0 := 18) (rest := []) (as := [.ref 18, vi a0]) (nx := 5) (r1 := 141) (r2 := 1) (r3 := 4) rfl rfl rfl (of_decide_eq_true rfl) rfl rfl (by decide) rfl rfl (of_decide_eq_true rfl) (of_decide_eq_true rfl) ?_
  refine ct_141_18 hcr  g a0 (by omega)  (fun z2  (fz2 : 0 ≤ z2 ∧ z2 ≤ 1) m1_0 => ?_)
  refine wk_i ?_
  refine wi_if (cd := .ne) (nx := 8) (r1 := 10) (r2 := 0) (r3 := 0) rfl (by omega) (fun (q3 : z2 ≠ 0) => ?_) (fun (q3 : ¬ (z2 ≠ 0)) => ?_)
  ·
    have f4 : 0 ≤ a0 ∧ a0 ≤ 3 := m1_0 (by omega)
    refine wi_aload_n (i := 0) (x := 18) (nx := 11) (r1 := 0) (r2 := 0) (r3 := 0) rfl rfl ?_
    refine wr_gr (k0 := 18) (x := 21) (nx := 14) (r1 := 4) (r2 := 3) (r3 := 0) rfl rfl (by decide) rfl ⟨rfl, rfl⟩ rfl ?_
    refine wi_iload_n (i := 1) (e := a0) (nx := 15) (r1 := 0) (r2 := 0) (r3 := 0) rfl rfl ?_
    obtain ⟨i5, ei5⟩ : ∃ q : Nat, a0 = (q : Int) := ⟨(a0).toNat, by omega⟩
    refine wr_aa (k0 := 21) (a := a0) (f := i5) (x := 21 + 8 + 2 * i5) (nx := 16) (r1 := 0) (r2 := 0) (r3 := 0) rfl (by decide) rfl (Or.inl rfl) (by omega) (by omega) (by decide) (hcr.1 21 (by decide) i5 (by omega)) ?_
    obtain ⟨k6, kk6, mk6⟩ : ∃ q, Rw q ∧ q = 21 + 8 + 2 * i5 := ⟨_, rw_lane 21 (by decide) i5 (by omega), rfl⟩
    rw [← mk6]
    refine wi_iconst (n := 0) (nx := 17) (r1 := 0) (r2 := 0) (r3 := 0) rfl ?_
    refine wr_V (k0 := k6) (rest := []) (as := [.ref k6, vi 0]) (nx := 20) (r1 := 154) (r2 := 1) (r3 := 5) rfl rfl rfl (of_decide_eq_true rfl) rfl rfl kk6.k kk6.1 rfl (of_decide_eq_true rfl) (of_decide_eq_true rfl) ?_
    refine ct_154_R hcr kk6 g 0 (by omega)  (fun z8  (fz8 : -2147483648 ≤ z8 ∧ z8 ≤ 2147483647) => ?_)
    refine wk_i ?_
    refine wi_istore_n (i := 2) (e := z8) (lo2 := [(2, vi z8), (0, .ref 18), (1, vi a0)]) (nx := 21) (r1 := 0) (r2 := 0) (r3 := 0) rfl rfl ?_
    refine wi_iload_n (i := 2) (e := z8) (nx := 22) (r1 := 0) (r2 := 0) (r3 := 0) rfl rfl ?_
    refine wi_if (cd := .lt) (nx := 25) (r1 := 31) (r2 := 0) (r3 := 0) rfl (by omega) (fun (q9 : z8 < 0) => ?_) (fun (q9 : ¬ (z8 < 0)) => ?_)
    ·
      refine wi_iconst (n := (-1)) (nx := 32) (r1 := 0) (r2 := 0) (r3 := 0) rfl ?_
      refine wi_ireturn (nx := 33) (r1 := 0) (r2 := 0) (r3 := 0) rfl rfl ?_
      exact k h (-1) g F0 (by omega)
    ·
      refine wi_iload_n (i := 2) (e := z8) (nx := 26) (r1 := 0) (r2 := 0) (r3 := 0) rfl rfl ?_
      refine wi_bipush (n := 12) (nx := 28) (r1 := 0) (r2 := 0) (r3 := 0) rfl (by decide) ?_
      refine wi_icmp (cd := .lt) (nx := 31) (r1 := 33) (r2 := 0) (r3 := 0) rfl (by omega) (by omega) (fun (q10 : z8 < 12) => ?_) (fun (q10 : ¬ (z8 < 12)) => ?_)
      ·
        refine wi_aload_n (i := 0) (x := 18) (nx := 34) (r1 := 0) (r2 := 0) (r3 := 0) rfl rfl ?_
        refine wr_gr (k0 := 18) (x := 21) (nx := 37) (r1 := 4) (r2 := 3) (r3 := 0) rfl rfl (by decide) rfl ⟨rfl, rfl⟩ rfl ?_
        refine wi_iload_n (i := 1) (e := a0) (nx := 38) (r1 := 0) (r2 := 0) (r3 := 0) rfl rfl ?_
        refine wr_aa (k0 := 21) (a := a0) (f := i5) (x := 21 + 8 + 2 * i5) (nx := 39) (r1 := 0) (r2 := 0) (r3 := 0) rfl (by decide) rfl (Or.inl rfl) (by omega) (by omega) (by decide) (hcr.1 21 (by decide) i5 (by omega)) ?_
        obtain ⟨k11, kk11, mk11⟩ : ∃ q, Rw q ∧ q = 21 + 8 + 2 * i5 := ⟨_, rw_lane 21 (by decide) i5 (by omega), rfl⟩
        rw [← mk11]
        refine wr_V (k0 := k11) (rest := []) (as := [.ref k11]) (nx := 42) (r1 := 157) (r2 := 0) (r3 := 5) rfl rfl rfl (of_decide_eq_true rfl) rfl rfl kk11.k kk11.1 rfl (of_decide_eq_true rfl) (of_decide_eq_true rfl) ?_
        refine ct_157_R hcr kk11 g    (fun h12 g12 u12 => ?_)
        have v12 := FR.rngp (lo := 29) (hi := 36) u12 (by omega)
        have F13 := F0.then rfl (FR.rngp (lo := 29) (hi := 36) u12 (by omega))
        refine wk_n ?_
        refine wi_aload_n (i := 0) (x := 18) (nx := 43) (r1 := 0) (r2 := 0) (r3 := 0) rfl rfl ?_
        refine wr_gr (k0 := 18) (x := 20) (nx := 46) (r1 := 4) (r2 := 2) (r3 := 0) rfl rfl (by decide) rfl ⟨rfl, rfl⟩ rfl ?_
        refine wi_iload_n (i := 2) (e := z8) (nx := 47) (r1 := 0) (r2 := 0) (r3 := 0) rfl rfl ?_
        obtain ⟨i14, ei14⟩ : ∃ q : Nat, z8 = (q : Int) := ⟨(z8).toNat, by omega⟩
        have b15 := gi_b (lo := -2147483648) (hi := 2147483647) g 20 i14 rfl
        refine wr_ia (k0 := 20) (a := z8) (f := i14) (x := h 20 i14) (nx := 48) (r1 := 0) (r2 := 0) (r3 := 0) rfl (by decide) rfl (by omega) (by omega) (by decide) (v12 20 i14 (fn_a (by omega) fn_0)) ?_
        refine wi_if (cd := .le) (nx := 51) (r1 := 55) (r2 := 0) (r3 := 0) rfl (by omega) (fun (q16 : (h 20 i14) ≤ 0) => ?_) (fun (q16 : ¬ ((h 20 i14) ≤ 0)) => ?_)
        ·
          refine wi_iconst (n := 0) (nx := 56) (r1 := 0) (r2 := 0) (r3 := 0) rfl ?_
          refine wi_istore_n (i := 3) (e := 0) (lo2 := [(3, vi 0), (2, vi z8), (0, .ref 18), (1, vi a0)]) (nx := 57) (r1 := 0) (r2 := 0) (r3 := 0) rfl rfl ?_
          refine wi_aload_n (i := 0) (x := 18) (nx := 58) (r1 := 0) (r2 := 0) (r3 := 0) rfl rfl ?_
          refine wi_iload_n (i := 2) (e := z8) (nx := 59) (r1 := 0) (r2 := 0) (r3 := 0) rfl rfl ?_
          refine wi_iload_n (i := 3) (e := 0) (nx := 60) (r1 := 0) (r2 := 0) (r3 := 0) rfl rfl ?_
          refine wr_V (k0 := 18) (rest := []) (as := [.ref 18, vi z8, vi 0]) (nx := 63) (r1 := 143) (r2 := 2) (r3 := 4) rfl rfl rfl (of_decide_eq_true rfl) rfl rfl (by decide) rfl rfl (of_decide_eq_true rfl) (of_decide_eq_true rfl) ?_
          refine ct_143_18 hcr  g12 z8 0 (by omega) (by omega)  (fun h17 g17 u17 => ?_)
          have F18 := F13.then (by decide +kernel) u17
          refine wk_n ?_
          refine wi_iload_n (i := 3) (e := 0) (nx := 64) (r1 := 0) (r2 := 0) (r3 := 0) rfl rfl ?_
          refine wi_if (cd := .eq) (nx := 67) (r1 := 107) (r2 := 0) (r3 := 0) rfl (by omega) (fun (q19 : 0 = 0) => ?_) (fun (q19 : ¬ (0 = 0)) => by exfalso; omega)
          refine wi_aload_n (i := 0) (x := 18) (nx := 108) (r1 := 0) (r2 := 0) (r3 := 0) rfl rfl ?_
          refine wr_gr (k0 := 18) (x := 26) (nx := 111) (r1 := 4) (r2 := 6) (r3 := 0) rfl rfl (by decide) rfl ⟨rfl, rfl⟩ rfl ?_
          refine wi_iload_n (i := 2) (e := z8) (nx := 112) (r1 := 0) (r2 := 0) (r3 := 0) rfl rfl ?_
          refine wr_V (k0 := 26) (rest := []) (as := [.ref 26, vi z8]) (nx := 115) (r1 := 158) (r2 := 1) (r3 := 5) rfl rfl rfl (of_decide_eq_true rfl) rfl rfl (by decide) rfl rfl (of_decide_eq_true rfl) (of_decide_eq_true rfl) ?_
          refine ct_158_R hcr rw_26 g17 z8 (by omega)  (fun h20 g20 u20 => ?_)
          have F21 := F18.then rfl u20
          refine wk_n ?_
          refine wi_aload_n (i := 0) (x := 18) (nx := 116) (r1 := 0) (r2 := 0) (r3 := 0) rfl rfl ?_
          refine wi_dup (nx := 117) (r1 := 0) (r2 := 0) (r3 := 0) rfl rfl ?_
          have b22 := gi_b (lo := -2147483648) (hi := 2147483647) g17 18 16 rfl
          refine wr_gi0 (k0 := 18) (x := h17 18 16) (nx := 120) (r1 := 4) (r2 := 16) (r3 := 0) rfl rfl (by decide) rfl ⟨rfl, rfl⟩ rfl (u20 18 16 rfl) ?_
          refine wi_iconst (n := 1) (nx := 121) (r1 := 0) (r2 := 0) (r3 := 0) rfl ?_
          refine wr_addW (nx := 122) (r1 := 0) (r2 := 0) (r3 := 0) rfl (fun e23 (fe23 : -2147483648 ≤ e23 ∧ e23 ≤ 2147483647) => ?_)
          refine wr_pf0 (k0 := 18) (x := e23) (bl := -2147483648) (bh := 2147483647) (nx := 125) (r1 := 4) (r2 := 16) (r3 := 0) rfl (by decide) rfl ⟨rfl, rfl⟩ rfl rfl g20 rfl (by omega) (fun h24 g24 w24 u24 => ?_)
          have F25 := F21.then rfl u24
          refine wi_iload_n (i := 2) (e := z8) (nx := 126) (r1 := 0) (r2 := 0) (r3 := 0) rfl rfl ?_
          refine wi_ireturn (nx := 127) (r1 := 0) (r2 := 0) (r3 := 0) rfl rfl ?_
          exact k h24 z8 g24 F25 (by omega)
        ·
          refine wi_iconst (n := 1) (nx := 52) (r1 := 0) (r2 := 0) (r3 := 0) rfl ?_
          refine wi_goto (nx := 55) (r1 := 56) (r2 := 0) (r3 := 0) rfl ?_
          refine wi_istore_n (i := 3) (e := 1) (lo2 := [(3, vi 1), (2, vi z8), (0, .ref 18), (1, vi a0)]) (nx := 57) (r1 := 0) (r2 := 0) (r3 := 0) rfl rfl ?_
          refine wi_aload_n (i := 0) (x := 18) (nx := 58) (r1 := 0) (r2 := 0) (r3 := 0) rfl rfl ?_
          refine wi_iload_n (i := 2) (e := z8) (nx := 59) (r1 := 0) (r2 := 0) (r3 := 0) rfl rfl ?_
          refine wi_iload_n (i := 3) (e := 1) (nx := 60) (r1 := 0) (r2 := 0) (r3 := 0) rfl rfl ?_
          refine wr_V (k0 := 18) (rest := []) (as := [.ref 18, vi z8, vi 1]) (nx := 63) (r1 := 143) (r2 := 2) (r3 := 4) rfl rfl rfl (of_decide_eq_true rfl) rfl rfl (by decide) rfl rfl (of_decide_eq_true rfl) (of_decide_eq_true rfl) ?_
          refine ct_143_18 hcr  g12 z8 1 (by omega) (by omega)  (fun h17 g17 u17 => ?_)
          have F18 := F13.then (by decide +kernel) u17
          refine wk_n ?_
          refine wi_iload_n (i := 3) (e := 1) (nx := 64) (r1 := 0) (r2 := 0) (r3 := 0) rfl rfl ?_
          refine wi_if (cd := .eq) (nx := 67) (r1 := 107) (r2 := 0) (r3 := 0) rfl (by omega) (fun (q19 : 1 = 0) => by exfalso; omega) (fun (q19 : ¬ (1 = 0)) => ?_)
          refine wi_aload_n (i := 0) (x := 18) (nx := 68) (r1 := 0) (r2 := 0) (r3 := 0) rfl rfl ?_
          refine wr_gr (k0 := 18) (x := 20) (nx := 71) (r1 := 4) (r2 := 2) (r3 := 0) rfl rfl (by decide) rfl ⟨rfl, rfl⟩ rfl ?_
          refine wi_iload_n (i := 2) (e := z8) (nx := 72) (r1 := 0) (r2 := 0) (r3 := 0) rfl rfl ?_
          refine wi_dup2 (nx := 73) (r1 := 0) (r2 := 0) (r3 := 0) rfl rfl rfl ?_
          have b20 := gi_b (lo := -2147483648) (hi := 2147483647) g17 20 i14 rfl
          refine wr_ia (k0 := 20) (a := z8) (f := i14) (x := h17 20 i14) (nx := 74) (r1 := 0) (r2 := 0) (r3 := 0) rfl (by decide) rfl (by omega) (by omega) (by decide) rfl ?_
          refine wi_iconst (n := 1) (nx := 75) (r1 := 0) (r2 := 0) (r3 := 0) rfl ?_
          refine wr_subW (nx := 76) (r1 := 0) (r2 := 0) (r3 := 0) rfl (fun e21 (fe21 : -2147483648 ≤ e21 ∧ e21 ≤ 2147483647) => ?_)
          refine wr_is (k0 := 20) (a := z8) (f := i14) (x := e21) (bl := -2147483648) (bh := 2147483647) (nx := 77) (r1 := 0) (r2 := 0) (r3 := 0) rfl (by decide) rfl (by omega) (by omega) (by decide) g17 rfl (by omega) (fun h22 g22 w22 u22 => ?_)
          have F23 := F18.then rfl (FR.rngp (lo := 20) (hi := 20) u22 (by decide))
          refine wi_aload_n (i := 0) (x := 18) (nx := 78) (r1 := 0) (r2 := 0) (r3 := 0) rfl rfl ?_
          refine wr_gr (k0 := 18) (x := 22) (nx := 81) (r1 := 4) (r2 := 4) (r3 := 0) rfl rfl (by decide) rfl ⟨rfl, rfl⟩ rfl ?_
          refine wi_iload_n (i := 2) (e := z8) (nx := 82) (r1 := 0) (r2 := 0) (r3 := 0) rfl rfl ?_
          refine wr_V (k0 := 22) (rest := []) (as := [.ref 22, vi z8]) (nx := 85) (r1 := 158) (r2 := 1) (r3 := 5) rfl rfl rfl (of_decide_eq_true rfl) rfl rfl (by decide) rfl rfl (of_decide_eq_true rfl) (of_decide_eq_true rfl) ?_
          refine ct_158_R hcr rw_22 g22 z8 (by omega)  (fun h24 g24 u24 => ?_)
          have F25 := F23.then rfl u24
          refine wk_n ?_
          refine wi_aload_n (i := 0) (x := 18) (nx := 86) (r1 := 0) (r2 := 0) (r3 := 0) rfl rfl ?_
          refine wr_gr (k0 := 18) (x := 24) (nx := 89) (r1 := 4) (r2 := 5) (r3 := 0) rfl rfl (by decide) rfl ⟨rfl, rfl⟩ rfl ?_
          refine wi_aload_n (i := 0) (x := 18) (nx := 90) (r1 := 0) (r2 := 0) (r3 := 0) rfl rfl ?_
          have b26 := gi_b (lo := -2147483648) (hi := 2147483647) g17 18 10 rfl
          refine wr_gi0 (k0 := 18) (x := h17 18 10) (nx := 93) (r1 := 4) (r2 := 10) (r3 := 0) rfl rfl (by decide) rfl ⟨rfl, rfl⟩ rfl ((u24 18 10 rfl).trans (u22 18 10 (fn_a (by omega) fn_0))) ?_
          refine wi_aload_n (i := 0) (x := 18) (nx := 94) (r1 := 0) (r2 := 0) (r3 := 0) rfl rfl ?_
          refine wr_gr (k0 := 18) (x := 3) (nx := 97) (r1 := 4) (r2 := 0) (r3 := 0) rfl rfl (by decide) rfl ⟨rfl, rfl⟩ rfl ?_
          have b27 := gi_b (lo := -2147483648) (hi := 2147483647) g 3 8 rfl
          refine wr_gi0 (k0 := 3) (x := h 3 8) (nx := 100) (r1 := 2) (r2 := 8) (r3 := 0) rfl rfl (by decide) rfl ⟨rfl, rfl⟩ rfl ((u24 3 8 rfl).trans ((u22 3 8 (fn_a (by omega) fn_0)).trans ((u17 3 8 rfl).trans (v12 3 8 rfl)))) ?_
          refine wr_addW (nx := 101) (r1 := 0) (r2 := 0) (r3 := 0) rfl (fun e28 (fe28 : -2147483648 ≤ e28 ∧ e28 ≤ 2147483647) => ?_)
          refine wr_V (k0 := 24) (rest := []) (as := [.ref 24, vi e28]) (nx := 104) (r1 := 158) (r2 := 1) (r3 := 5) rfl rfl rfl (of_decide_eq_true rfl) rfl rfl (by decide) rfl rfl (of_decide_eq_true rfl) (of_decide_eq_true rfl) ?_
          refine ct_158_R hcr rw_24 g24 e28 (by omega)  (fun h29 g29 u29 => ?_)
          have F30 := F25.then rfl u29
          refine wk_n ?_
          refine wi_goto (nx := 107) (r1 := 115) (r2 := 0) (r3 := 0) rfl ?_
          refine wi_aload_n (i := 0) (x := 18) (nx := 116) (r1 := 0) (r2 := 0) (r3 := 0) rfl rfl ?_
          refine wi_dup (nx := 117) (r1 := 0) (r2 := 0) (r3 := 0) rfl rfl ?_
          have b31 := gi_b (lo := -2147483648) (hi := 2147483647) g17 18 16 rfl
          refine wr_gi0 (k0 := 18) (x := h17 18 16) (nx := 120) (r1 := 4) (r2 := 16) (r3 := 0) rfl rfl (by decide) rfl ⟨rfl, rfl⟩ rfl ((u29 18 16 rfl).trans ((u24 18 16 rfl).trans (u22 18 16 (fn_a (by omega) fn_0)))) ?_
          refine wi_iconst (n := 1) (nx := 121) (r1 := 0) (r2 := 0) (r3 := 0) rfl ?_
          refine wr_addW (nx := 122) (r1 := 0) (r2 := 0) (r3 := 0) rfl (fun e32 (fe32 : -2147483648 ≤ e32 ∧ e32 ≤ 2147483647) => ?_)
          refine wr_pf0 (k0 := 18) (x := e32) (bl := -2147483648) (bh := 2147483647) (nx := 125) (r1 := 4) (r2 := 16) (r3 := 0) rfl (by decide) rfl ⟨rfl, rfl⟩ rfl rfl g29 rfl (by omega) (fun h33 g33 w33 u33 => ?_)
          have F34 := F30.then rfl u33
          refine wi_iload_n (i := 2) (e := z8) (nx := 126) (r1 := 0) (r2 := 0) (r3 := 0) rfl rfl ?_
          refine wi_ireturn (nx := 127) (r1 := 0) (r2 := 0) (r3 := 0) rfl rfl ?_
          exact k h33 z8 g33 F34 (by omega)
      ·
        refine wi_iconst (n := (-1)) (nx := 32) (r1 := 0) (r2 := 0) (r3 := 0) rfl ?_
        refine wi_ireturn (nx := 33) (r1 := 0) (r2 := 0) (r3 := 0) rfl rfl ?_
        exact k h (-1) g F0 (by omega)
  ·
    refine wi_iconst (n := (-1)) (nx := 9) (r1 := 0) (r2 := 0) (r3 := 0) rfl ?_
    refine wi_ireturn (nx := 10) (r1 := 0) (r2 := 0) (r3 := 0) rfl rfl ?_
    exact k h (-1) g F0 (by omega)
-- method 79: Bank.leave(I)I
set_option maxRecDepth 100000 in
set_option maxHeartbeats 100000000 in
theorem ct_79_0 {L : Nat} {xs : Nat → Int32} {d b c : Nat} {h : hp} {cr : Nat → Nat → Option Nat} {Q : hp_Q} (hcr : CR cr) (hr : 1 ≤ b ∧ 6 ≤ c)  (g : GI h) (a0 : Int) (q0_ : -2147483648 ≤ a0 ∧ a0 ≤ 2147483647)  (k : ∀ (h2 : hp) (z0 : Int) , GI h2 → FR [(18, 36, none), (75, 207, none), (73, 73, some (1, 1)), (73, 73, some (2, 2))] h h2 → (-2147483648 ≤ z0 ∧ z0 ≤ 2147483647) → Q (.inl (some (vi z0))) (hp_w h2 cr) b c) (kx2 : ∀ (h2 : hp), GI h2 → FR [(18, 36, none), (75, 207, none), (73, 73, some (1, 1)), (73, 73, some (2, 2))] h h2 → Q (.inr 2) (hp_w h2 cr) (b - 1) (c - 6)) : wp (md_xa (L, xs)) (d + 3) 79 (0, [(0, .ref 0), (1, vi a0)], [], hp_w h cr, b, c) Q := by
  have F0 : FR [(18, 36, none), (75, 207, none), (73, 73, some (1, 1)), (73, 73, some (2, 2))] h h := FR.refl
  refine wi_aload_n (i := 0) (x := 0) (nx := 1) (r1 := 0) (r2 := 0) (r3 := 0) rfl rfl ?_
  refine wi_iload_n (i := 1) (e := a0) (nx := 2) (r1 := 0) (r2 := 0) (r3 := 0) rfl rfl ?_
  refine wr_V (k0 := 0) (rest := []) (as := [.ref 0, vi a0]) (nx := 5) (r1 := 68) (r2 := 1) (r3 := 0) rfl rfl rfl (of_decide_eq_true rfl) rfl rfl (by decide) rfl rfl (of_decide_eq_true rfl) (of_decide_eq_true rfl) ?_
  refine wi_iload_n (i := 1) (e := a0) (nx := 1) (r1 := 0) (r2 := 0) (r3 := 0) rfl rfl ?_
  refine wi_if (cd := .lt) (nx := 4) (r1 := 15) (r2 := 0) (r3 := 0) rfl (by omega) (fun (q1 : a0 < 0) => ?_) (fun (q1 : ¬ (a0 < 0)) => ?_)
  ·
    refine wr_throw (Ex := 2) (nx := 18) (r1 := 2) (r2 := 0) (r3 := 1) rfl (by decide) rfl hr (by decide) ?_
    refine wk_x rfl ?_
    exact kx2 h g F0
  ·
    refine wi_iload_n (i := 1) (e := a0) (nx := 5) (r1 := 0) (r2 := 0) (r3 := 0) rfl rfl ?_
    refine wi_aload_n (i := 0) (x := 0) (nx := 6) (r1 := 0) (r2 := 0) (r3 := 0) rfl rfl ?_
    refine wr_gr (k0 := 0) (x := 3) (nx := 9) (r1 := 0) (r2 := 1) (r3 := 0) rfl rfl (by decide) rfl ⟨rfl, rfl⟩ rfl ?_
    have b2 := gi_b (lo := 0) (hi := 4) g 3 1 rfl
    refine wr_gi0 (k0 := 3) (x := h 3 1) (nx := 12) (r1 := 2) (r2 := 1) (r3 := 0) rfl rfl (by decide) rfl ⟨rfl, rfl⟩ rfl rfl ?_
    refine wi_icmp (cd := .lt) (nx := 15) (r1 := 26) (r2 := 0) (r3 := 0) rfl (by omega) (by omega) (fun (q3 : a0 < (h 3 1)) => ?_) (fun (q3 : ¬ (a0 < (h 3 1))) => ?_)
    ·
      refine wi_return (nx := 27) (r1 := 0) (r2 := 0) (r3 := 0) rfl rfl ?_
      refine wk_n ?_
      refine wi_aload_n (i := 0) (x := 0) (nx := 6) (r1 := 0) (r2 := 0) (r3 := 0) rfl rfl ?_
      refine wr_gr (k0 := 0) (x := 73) (nx := 9) (r1 := 0) (r2 := 8) (r3 := 0) rfl rfl (by decide) rfl ⟨rfl, rfl⟩ rfl ?_
      refine wi_aload_n (i := 0) (x := 0) (nx := 10) (r1 := 0) (r2 := 0) (r3 := 0) rfl rfl ?_
      refine wr_gr (k0 := 0) (x := 18) (nx := 13) (r1 := 0) (r2 := 3) (r3 := 0) rfl rfl (by decide) rfl ⟨rfl, rfl⟩ rfl ?_
      refine wr_V (k0 := 73) (rest := []) (as := [.ref 73, .ref 18]) (nx := 16) (r1 := 192) (r2 := 1) (r3 := 9) rfl rfl rfl (of_decide_eq_true rfl) rfl rfl (by decide) rfl rfl (of_decide_eq_true rfl) (of_decide_eq_true rfl) ?_
      refine ct_192_73_18 hcr  g    (fun h4 g4 u4 => ?_)
      have F5 := F0.then (by decide +kernel) u4
      refine wk_n ?_
      refine wi_aload_n (i := 0) (x := 0) (nx := 17) (r1 := 0) (r2 := 0) (r3 := 0) rfl rfl ?_
      refine wi_aload_n (i := 0) (x := 0) (nx := 18) (r1 := 0) (r2 := 0) (r3 := 0) rfl rfl ?_
      refine wr_gr (k0 := 0) (x := 18) (nx := 21) (r1 := 0) (r2 := 3) (r3 := 0) rfl rfl (by decide) rfl ⟨rfl, rfl⟩ rfl ?_
      refine wi_iload_n (i := 1) (e := a0) (nx := 22) (r1 := 0) (r2 := 0) (r3 := 0) rfl rfl ?_
      refine wr_V (k0 := 18) (rest := [.ref 0]) (as := [.ref 18, vi a0]) (nx := 25) (r1 := 142) (r2 := 1) (r3 := 4) rfl rfl rfl (of_decide_eq_true rfl) rfl rfl (by decide) rfl rfl (of_decide_eq_true rfl) (of_decide_eq_true rfl) ?_
      refine ct_142_18 hcr  g4 a0 (by omega)  (fun h6 z7 g6 u6 (fz7 : -1 ≤ z7 ∧ z7 ≤ 11) => ?_)
      have F8 := F5.then (by decide +kernel) u6
      refine wk_i ?_
      refine wr_V (k0 := 0) (rest := []) (as := [.ref 0, vi z7]) (nx := 28) (r1 := 45) (r2 := 1) (r3 := 0) rfl rfl rfl (of_decide_eq_true rfl) rfl rfl (by decide) rfl rfl (of_decide_eq_true rfl) (of_decide_eq_true rfl) ?_
      refine ct_45_0 hcr  g6 z7 (by omega)  (fun h9 z10 g9 u9 (fz10 : -2147483648 ≤ z10 ∧ z10 ≤ 2147483647) => ?_)
      have F11 := F8.then (by decide +kernel) u9
      refine wk_i ?_
      refine wi_ireturn (nx := 29) (r1 := 0) (r2 := 0) (r3 := 0) rfl rfl ?_
      exact k h9 z10 g9 F11 (by omega)
    ·
      refine wr_throw (Ex := 2) (nx := 18) (r1 := 2) (r2 := 0) (r3 := 1) rfl (by decide) rfl hr (by decide) ?_
      refine wk_x rfl ?_
      exact kx2 h g F0
-- method 87: Bank.log(II)I
set_option maxRecDepth 100000 in
set_option maxHeartbeats 100000000 in
theorem ct_87_0 {L : Nat} {xs : Nat → Int32} {d b c : Nat} {h : hp} {cr : Nat → Nat → Option Nat} {Q : hp_Q} (hcr : CR cr) (hr : 1 ≤ b ∧ 6 ≤ c)  (g : GI h) (a0 : Int) (a1 : Int) (q0_ : -2147483648 ≤ a0 ∧ a0 ≤ 2147483647) (q1_ : -2147483648 ≤ a1 ∧ a1 ≤ 2147483647)  (k : ∀ (z0 : Int), (-2147483648 ≤ z0 ∧ z0 ≤ 2147483647) → Q (.inl (some (vi z0))) (hp_w h cr) b c) (kx1 : Q (.inr 1) (hp_w h cr) (b - 1) (c - 6)) (kx2 : Q (.inr 2) (hp_w h cr) (b - 1) (c - 6)) : wp (md_xa (L, xs)) (d + 1) 87 (0, [(0, .ref 0), (1, vi a0), (2, vi a1)], [], hp_w h cr, b, c) Q := by
  have F0 : FR [] h h := FR.refl
  refine wi_iload_n (i := 1) (e := a0) (nx := 1) (r1 := 0) (r2 := 0) (r3 := 0) rfl rfl ?_
  refine wi_if (cd := .lt) (nx := 4) (r1 := 20) (r2 := 0) (r3 := 0) rfl (by omega) (fun (q1 : a0 < 0) => ?_) (fun (q1 : ¬ (a0 < 0)) => ?_)
  ·
    refine wr_throw (Ex := 2) (nx := 23) (r1 := 2) (r2 := 0) (r3 := 1) rfl (by decide) rfl hr (by decide) ?_
    exact kx2
  ·
    refine wi_iload_n (i := 1) (e := a0) (nx := 5) (r1 := 0) (r2 := 0) (r3 := 0) rfl rfl ?_
    refine wi_aload_n (i := 0) (x := 0) (nx := 6) (r1 := 0) (r2 := 0) (r3 := 0) rfl rfl ?_
    refine wr_gr (k0 := 0) (x := 18) (nx := 9) (r1 := 0) (r2 := 3) (r3 := 0) rfl rfl (by decide) rfl ⟨rfl, rfl⟩ rfl ?_
    have b2 := gi_b (lo := 0) (hi := 36) g 18 15 rfl
    refine wr_gi0 (k0 := 18) (x := h 18 15) (nx := 12) (r1 := 4) (r2 := 15) (r3 := 0) rfl rfl (by decide) rfl ⟨rfl, rfl⟩ rfl rfl ?_
    refine wi_bipush (n := 20) (nx := 14) (r1 := 0) (r2 := 0) (r3 := 0) rfl (by decide) ?_
    refine wi_S (rest := [vi a0]) (as := [vi (h 18 15), vi 20]) (nx := 17) (r1 := 355) (r2 := 18) (r3 := 0) rfl rfl rfl (of_decide_eq_true rfl) rfl rfl (of_decide_eq_true rfl) (of_decide_eq_true rfl) ?_
    refine wi_iload_n (i := 0) (e := h 18 15) (nx := 1) (r1 := 0) (r2 := 0) (r3 := 0) rfl rfl ?_
    refine wi_iload_n (i := 1) (e := 20) (nx := 2) (r1 := 0) (r2 := 0) (r3 := 0) rfl rfl ?_
    refine wi_icmp (cd := .gt) (nx := 5) (r1 := 9) (r2 := 0) (r3 := 0) rfl (by omega) (by omega) (fun (q3 : 20 < (h 18 15)) => ?_) (fun (q3 : ¬ (20 < (h 18 15))) => ?_)
    ·
      refine wi_iload_n (i := 1) (e := 20) (nx := 10) (r1 := 0) (r2 := 0) (r3 := 0) rfl rfl ?_
      refine wi_ireturn (nx := 11) (r1 := 0) (r2 := 0) (r3 := 0) rfl rfl ?_
      refine wk_i ?_
      refine wi_icmp (cd := .lt) (nx := 20) (r1 := 31) (r2 := 0) (r3 := 0) rfl (by omega) (by omega) (fun (q4 : a0 < 20) => ?_) (fun (q4 : ¬ (a0 < 20)) => ?_)
      ·
        refine wi_iload_n (i := 2) (e := a1) (nx := 32) (r1 := 0) (r2 := 0) (r3 := 0) rfl rfl ?_
        refine wi_if (cd := .lt) (nx := 35) (r1 := 40) (r2 := 0) (r3 := 0) rfl (by omega) (fun (q5 : a1 < 0) => ?_) (fun (q5 : ¬ (a1 < 0)) => ?_)
        ·
          refine wr_throw (Ex := 1) (nx := 43) (r1 := 1) (r2 := 0) (r3 := 1) rfl (by decide) rfl hr (by decide) ?_
          exact kx1
        ·
          refine wi_iload_n (i := 2) (e := a1) (nx := 36) (r1 := 0) (r2 := 0) (r3 := 0) rfl rfl ?_
          refine wi_iconst (n := 4) (nx := 37) (r1 := 0) (r2 := 0) (r3 := 0) rfl ?_
          refine wi_icmp (cd := .lt) (nx := 40) (r1 := 51) (r2 := 0) (r3 := 0) rfl (by omega) (by omega) (fun (q6 : a1 < 4) => ?_) (fun (q6 : ¬ (a1 < 4)) => ?_)
          ·
            refine wi_aload_n (i := 0) (x := 0) (nx := 52) (r1 := 0) (r2 := 0) (r3 := 0) rfl rfl ?_
            refine wr_gr (k0 := 0) (x := 18) (nx := 55) (r1 := 0) (r2 := 3) (r3 := 0) rfl rfl (by decide) rfl ⟨rfl, rfl⟩ rfl ?_
            refine wr_gr (k0 := 18) (x := 28) (nx := 58) (r1 := 4) (r2 := 14) (r3 := 0) rfl rfl (by decide) rfl ⟨rfl, rfl⟩ rfl ?_
            refine wi_aload_n (i := 0) (x := 0) (nx := 59) (r1 := 0) (r2 := 0) (r3 := 0) rfl rfl ?_
            refine wr_gr (k0 := 0) (x := 18) (nx := 62) (r1 := 0) (r2 := 3) (r3 := 0) rfl rfl (by decide) rfl ⟨rfl, rfl⟩ rfl ?_
            refine wr_gi0 (k0 := 18) (x := h 18 15) (nx := 65) (r1 := 4) (r2 := 15) (r3 := 0) rfl rfl (by decide) rfl ⟨rfl, rfl⟩ rfl rfl ?_
            refine wi_iconst (n := 1) (nx := 66) (r1 := 0) (r2 := 0) (r3 := 0) rfl ?_
            refine wr_sub (nx := 67) (r1 := 0) (r2 := 0) (r3 := 0) rfl (fun e7 (fe7 : e7 = (h 18 15) - 1) => ?_)
            refine wi_iload_n (i := 1) (e := a0) (nx := 68) (r1 := 0) (r2 := 0) (r3 := 0) rfl rfl ?_
            refine wr_sub (nx := 69) (r1 := 0) (r2 := 0) (r3 := 0) rfl (fun e8 (fe8 : e8 = e7 - a0) => ?_)
            refine wi_iconst (n := 4) (nx := 70) (r1 := 0) (r2 := 0) (r3 := 0) rfl ?_
            refine wr_mul (nx := 71) (r1 := 0) (r2 := 0) (r3 := 0) rfl (fun e9 (fe9 : e9 = e8 * 4) => ?_)
            refine wi_iload_n (i := 2) (e := a1) (nx := 72) (r1 := 0) (r2 := 0) (r3 := 0) rfl rfl ?_
            refine wr_add (nx := 73) (r1 := 0) (r2 := 0) (r3 := 0) rfl (fun e10 (fe10 : e10 = e9 + a1) => ?_)
            obtain ⟨i11, ei11⟩ : ∃ q : Nat, e10 = (q : Int) := ⟨(e10).toNat, by omega⟩
            have b12 := gi_b (lo := -2147483648) (hi := 2147483647) g 28 i11 rfl
            refine wr_ia (k0 := 28) (a := e10) (f := i11) (x := h 28 i11) (nx := 74) (r1 := 0) (r2 := 0) (r3 := 0) rfl (by decide) rfl (by omega) (by omega) (by decide) rfl ?_
            refine wi_ireturn (nx := 75) (r1 := 0) (r2 := 0) (r3 := 0) rfl rfl ?_
            exact k (h 28 i11) (by omega)
          ·
            refine wr_throw (Ex := 1) (nx := 43) (r1 := 1) (r2 := 0) (r3 := 1) rfl (by decide) rfl hr (by decide) ?_
            exact kx1
      ·
        refine wr_throw (Ex := 2) (nx := 23) (r1 := 2) (r2 := 0) (r3 := 1) rfl (by decide) rfl hr (by decide) ?_
        exact kx2
    ·
      refine wi_iload_n (i := 0) (e := h 18 15) (nx := 6) (r1 := 0) (r2 := 0) (r3 := 0) rfl rfl ?_
      refine wi_goto (nx := 9) (r1 := 10) (r2 := 0) (r3 := 0) rfl ?_
      refine wi_ireturn (nx := 11) (r1 := 0) (r2 := 0) (r3 := 0) rfl rfl ?_
      refine wk_i ?_
      refine wi_icmp (cd := .lt) (nx := 20) (r1 := 31) (r2 := 0) (r3 := 0) rfl (by omega) (by omega) (fun (q4 : a0 < (h 18 15)) => ?_) (fun (q4 : ¬ (a0 < (h 18 15))) => ?_)
      ·
        refine wi_iload_n (i := 2) (e := a1) (nx := 32) (r1 := 0) (r2 := 0) (r3 := 0) rfl rfl ?_
        refine wi_if (cd := .lt) (nx := 35) (r1 := 40) (r2 := 0) (r3 := 0) rfl (by omega) (fun (q5 : a1 < 0) => ?_) (fun (q5 : ¬ (a1 < 0)) => ?_)
        ·
          refine wr_throw (Ex := 1) (nx := 43) (r1 := 1) (r2 := 0) (r3 := 1) rfl (by decide) rfl hr (by decide) ?_
          exact kx1
        ·
          refine wi_iload_n (i := 2) (e := a1) (nx := 36) (r1 := 0) (r2 := 0) (r3 := 0) rfl rfl ?_
          refine wi_iconst (n := 4) (nx := 37) (r1 := 0) (r2 := 0) (r3 := 0) rfl ?_
          refine wi_icmp (cd := .lt) (nx := 40) (r1 := 51) (r2 := 0) (r3 := 0) rfl (by omega) (by omega) (fun (q6 : a1 < 4) => ?_) (fun (q6 : ¬ (a1 < 4)) => ?_)
          ·
            refine wi_aload_n (i := 0) (x := 0) (nx := 52) (r1 := 0) (r2 := 0) (r3 := 0) rfl rfl ?_
            refine wr_gr (k0 := 0) (x := 18) (nx := 55) (r1 := 0) (r2 := 3) (r3 := 0) rfl rfl (by decide) rfl ⟨rfl, rfl⟩ rfl ?_
            refine wr_gr (k0 := 18) (x := 28) (nx := 58) (r1 := 4) (r2 := 14) (r3 := 0) rfl rfl (by decide) rfl ⟨rfl, rfl⟩ rfl ?_
            refine wi_aload_n (i := 0) (x := 0) (nx := 59) (r1 := 0) (r2 := 0) (r3 := 0) rfl rfl ?_
            refine wr_gr (k0 := 0) (x := 18) (nx := 62) (r1 := 0) (r2 := 3) (r3 := 0) rfl rfl (by decide) rfl ⟨rfl, rfl⟩ rfl ?_
            refine wr_gi0 (k0 := 18) (x := h 18 15) (nx := 65) (r1 := 4) (r2 := 15) (r3 := 0) rfl rfl (by decide) rfl ⟨rfl, rfl⟩ rfl rfl ?_
            refine wi_iconst (n := 1) (nx := 66) (r1 := 0) (r2 := 0) (r3 := 0) rfl ?_
            refine wr_sub (nx := 67) (r1 := 0) (r2 := 0) (r3 := 0) rfl (fun e7 (fe7 : e7 = (h 18 15) - 1) => ?_)
            refine wi_iload_n (i := 1) (e := a0) (nx := 68) (r1 := 0) (r2 := 0) (r3 := 0) rfl rfl ?_
            refine wr_sub (nx := 69) (r1 := 0) (r2 := 0) (r3 := 0) rfl (fun e8 (fe8 : e8 = e7 - a0) => ?_)
            refine wi_iconst (n := 4) (nx := 70) (r1 := 0) (r2 := 0) (r3 := 0) rfl ?_
            refine wr_mul (nx := 71) (r1 := 0) (r2 := 0) (r3 := 0) rfl (fun e9 (fe9 : e9 = e8 * 4) => ?_)
            refine wi_iload_n (i := 2) (e := a1) (nx := 72) (r1 := 0) (r2 := 0) (r3 := 0) rfl rfl ?_
            refine wr_add (nx := 73) (r1 := 0) (r2 := 0) (r3 := 0) rfl (fun e10 (fe10 : e10 = e9 + a1) => ?_)
            obtain ⟨i11, ei11⟩ : ∃ q : Nat, e10 = (q : Int) := ⟨(e10).toNat, by omega⟩
            have b12 := gi_b (lo := -2147483648) (hi := 2147483647) g 28 i11 rfl
            refine wr_ia (k0 := 28) (a := e10) (f := i11) (x := h 28 i11) (nx := 74) (r1 := 0) (r2 := 0) (r3 := 0) rfl (by decide) rfl (by omega) (by omega) (by decide) rfl ?_
            refine wi_ireturn (nx := 75) (r1 := 0) (r2 := 0) (r3 := 0) rfl rfl ?_
            exact k (h 28 i11) (by omega)
          ·
            refine wr_throw (Ex := 1) (nx := 43) (r1 := 1) (r2 := 0) (r3 := 1) rfl (by decide) rfl hr (by decide) ?_
            exact kx1
      ·
        refine wr_throw (Ex := 2) (nx := 23) (r1 := 2) (r2 := 0) (r3 := 1) rfl (by decide) rfl hr (by decide) ?_
        exact kx2
-- method 57: Bank.logCount()I
set_option maxRecDepth 100000 in
set_option maxHeartbeats 100000000 in
theorem ct_57_0 {L : Nat} {xs : Nat → Int32} {d b c : Nat} {h : hp} {cr : Nat → Nat → Option Nat} {Q : hp_Q} (hcr : CR cr)  (g : GI h)    (k : ∀ (z0 : Int), (0 ≤ z0 ∧ z0 ≤ 20) → Q (.inl (some (vi z0))) (hp_w h cr) b c) : wp (md_xa (L, xs)) (d + 1) 57 (0, [(0, .ref 0)], [], hp_w h cr, b, c) Q := by
  have F0 : FR [] h h := FR.refl
  refine wi_aload_n (i := 0) (x := 0) (nx := 1) (r1 := 0) (r2 := 0) (r3 := 0) rfl rfl ?_
  refine wr_gr (k0 := 0) (x := 18) (nx := 4) (r1 := 0) (r2 := 3) (r3 := 0) rfl rfl (by decide) rfl ⟨rfl, rfl⟩ rfl ?_
  have b1 := gi_b (lo := 0) (hi := 36) g 18 15 rfl
  refine wr_gi0 (k0 := 18) (x := h 18 15) (nx := 7) (r1 := 4) (r2 := 15) (r3 := 0) rfl rfl (by decide) rfl ⟨rfl, rfl⟩ rfl rfl ?_
  refine wi_bipush (n := 20) (nx := 9) (r1 := 0) (r2 := 0) (r3 := 0) rfl (by decide) ?_
  refine wi_S (rest := []) (as := [vi (h 18 15), vi 20]) (nx := 12) (r1 := 355) (r2 := 18) (r3 := 0) rfl rfl rfl (of_decide_eq_true rfl) rfl rfl (of_decide_eq_true rfl) (of_decide_eq_true rfl) ?_
  refine wi_iload_n (i := 0) (e := h 18 15) (nx := 1) (r1 := 0) (r2 := 0) (r3 := 0) rfl rfl ?_
  refine wi_iload_n (i := 1) (e := 20) (nx := 2) (r1 := 0) (r2 := 0) (r3 := 0) rfl rfl ?_
  refine wi_icmp (cd := .gt) (nx := 5) (r1 := 9) (r2 := 0) (r3 := 0) rfl (by omega) (by omega) (fun (q2 : 20 < (h 18 15)) => ?_) (fun (q2 : ¬ (20 < (h 18 15))) => ?_)
  ·
    refine wi_iload_n (i := 1) (e := 20) (nx := 10) (r1 := 0) (r2 := 0) (r3 := 0) rfl rfl ?_
    refine wi_ireturn (nx := 11) (r1 := 0) (r2 := 0) (r3 := 0) rfl rfl ?_
    refine wk_i ?_
    refine wi_ireturn (nx := 13) (r1 := 0) (r2 := 0) (r3 := 0) rfl rfl ?_
    exact k 20 (by omega)
  ·
    refine wi_iload_n (i := 0) (e := h 18 15) (nx := 6) (r1 := 0) (r2 := 0) (r3 := 0) rfl rfl ?_
    refine wi_goto (nx := 9) (r1 := 10) (r2 := 0) (r3 := 0) rfl ?_
    refine wi_ireturn (nx := 11) (r1 := 0) (r2 := 0) (r3 := 0) rfl rfl ?_
    refine wk_i ?_
    refine wi_ireturn (nx := 13) (r1 := 0) (r2 := 0) (r3 := 0) rfl rfl ?_
    exact k (h 18 15) (by omega)
-- method 130: Line.longestRowOut()I
set_option maxRecDepth 100000 in
set_option maxHeartbeats 100000000 in
theorem ct_130_18 {L : Nat} {xs : Nat → Int32} {d b c : Nat} {h : hp} {cr : Nat → Nat → Option Nat} {Q : hp_Q} (hcr : CR cr)  (g : GI h)    (k : ∀ (z0 : Int), (0 ≤ z0 ∧ z0 ≤ 2147483647) → Q (.inl (some (vi z0))) (hp_w h cr) b c) : wp (md_xa (L, xs)) (d + 1) 130 (0, [(0, .ref 18)], [], hp_w h cr, b, c) Q := by
  have F0 : FR [] h h := FR.refl
  refine wi_iconst (n := 0) (nx := 1) (r1 := 0) (r2 := 0) (r3 := 0) rfl ?_
  refine wi_istore_n (i := 1) (e := 0) (lo2 := [(1, vi 0), (0, .ref 18)]) (nx := 2) (r1 := 0) (r2 := 0) (r3 := 0) rfl rfl ?_
  refine wi_iconst (n := 0) (nx := 3) (r1 := 0) (r2 := 0) (r3 := 0) rfl ?_
  refine wi_istore_n (i := 2) (e := 0) (lo2 := [(2, vi 0), (1, vi 0), (0, .ref 18)]) (nx := 4) (r1 := 0) (r2 := 0) (r3 := 0) rfl rfl ?_
  refine wi_iconst (n := 0) (nx := 5) (r1 := 0) (r2 := 0) (r3 := 0) rfl ?_
  refine wi_istore_n (i := 3) (e := 0) (lo2 := [(3, vi 0), (2, vi 0), (1, vi 0), (0, .ref 18)]) (nx := 6) (r1 := 0) (r2 := 0) (r3 := 0) rfl rfl ?_
  refine wp.lo (lo := [(0, .ref 18), (1, vi 0), (2, vi 0), (3, vi 0)]) ⟨rfl, rfl, rfl, rfl, trivial⟩ rfl ?_
  refine wl_3 (fun x1 x2 x3 h4 => h = h4 ∧ ((0 ≤ x1 ∧ x1 ≤ 2147483647) ∧ (-2147483648 ≤ x2 ∧ x2 ≤ 2147483647) ∧ (0 ≤ x3 ∧ x3 ≤ 12))) (fun x1 x2 x3 h4 => ((12 : Int) + 1 - x3).toNat) (fun x1 x2 x3 h4 => (6, [(0, .ref 18), (1, vi x1), (2, vi x2), (3, vi x3)], [], hp_w h4 cr, b, c)) ?_ 0 0 0 h ⟨rfl, (show (0 ≤ 0 ∧ 0 ≤ 2147483647) ∧ (-2147483648 ≤ 0 ∧ 0 ≤ 2147483647) ∧ (0 ≤ 0 ∧ 0 ≤ 12) by omega)⟩
  intro x1 x2 x3 h4 ⟨e4, f4⟩ I4
  subst e4
  refine wi_iload_n (i := 3) (e := x3) (nx := 7) (r1 := 0) (r2 := 0) (r3 := 0) rfl rfl ?_
  refine wi_aload_n (i := 0) (x := 18) (nx := 8) (r1 := 0) (r2 := 0) (r3 := 0) rfl rfl ?_
  refine wr_gr (k0 := 18) (x := 26) (nx := 11) (r1 := 4) (r2 := 6) (r3 := 0) rfl rfl (by decide) rfl ⟨rfl, rfl⟩ rfl ?_
  have b6 := gi_b (lo := 0) (hi := 12) g 26 1 rfl
  refine wr_gi0 (k0 := 26) (x := h 26 1) (nx := 14) (r1 := 5) (r2 := 1) (r3 := 0) rfl rfl (by decide) rfl ⟨rfl, rfl⟩ rfl rfl ?_
  refine wi_icmp (cd := .ge) (nx := 17) (r1 := 78) (r2 := 0) (r3 := 0) rfl (by omega) (by omega) (fun (q7 : (h 26 1) ≤ x3) => ?_) (fun (q7 : ¬ ((h 26 1) ≤ x3)) => ?_)
  ·
    refine wi_iload_n (i := 1) (e := x1) (nx := 79) (r1 := 0) (r2 := 0) (r3 := 0) rfl rfl ?_
    refine wi_ireturn (nx := 80) (r1 := 0) (r2 := 0) (r3 := 0) rfl rfl ?_
    exact k x1 (by omega)
  ·
    refine wi_aload_n (i := 0) (x := 18) (nx := 18) (r1 := 0) (r2 := 0) (r3 := 0) rfl rfl ?_
    refine wi_aload_n (i := 0) (x := 18) (nx := 19) (r1 := 0) (r2 := 0) (r3 := 0) rfl rfl ?_
    refine wr_gr (k0 := 18) (x := 26) (nx := 22) (r1 := 4) (r2 := 6) (r3 := 0) rfl rfl (by decide) rfl ⟨rfl, rfl⟩ rfl ?_
    refine wi_iload_n (i := 3) (e := x3) (nx := 23) (r1 := 0) (r2 := 0) (r3 := 0) rfl rfl ?_
    refine wr_V (k0 := 26) (rest := [.ref 18]) (as := [.ref 26, vi x3]) (nx := 26) (r1 := 154) (r2 := 1) (r3 := 5) rfl rfl rfl (of_decide_eq_true rfl) rfl rfl (by decide) rfl rfl (of_decide_eq_true rfl) (of_decide_eq_true rfl) ?_
    refine ct_154_R hcr rw_26 g x3 (by omega)  (fun z9  (fz9 : -2147483648 ≤ z9 ∧ z9 ≤ 2147483647) => ?_)
    refine wk_i ?_
    refine wr_V (k0 := 18) (rest := []) (as := [.ref 18, vi z9]) (nx := 29) (r1 := 131) (r2 := 1) (r3 := 4) rfl rfl rfl (of_decide_eq_true rfl) rfl rfl (by decide) rfl rfl (of_decide_eq_true rfl) (of_decide_eq_true rfl) ?_
    refine ct_131_18 hcr  g z9 (by omega)  (fun z11  (fz11 : -2147483648 ≤ z11 ∧ z11 ≤ 2147483647) => ?_)
    refine wk_i ?_
    refine wi_aload_n (i := 0) (x := 18) (nx := 30) (r1 := 0) (r2 := 0) (r3 := 0) rfl rfl ?_
    refine wi_aload_n (i := 0) (x := 18) (nx := 31) (r1 := 0) (r2 := 0) (r3 := 0) rfl rfl ?_
    refine wr_gr (k0 := 18) (x := 26) (nx := 34) (r1 := 4) (r2 := 6) (r3 := 0) rfl rfl (by decide) rfl ⟨rfl, rfl⟩ rfl ?_
    refine wi_iload_n (i := 3) (e := x3) (nx := 35) (r1 := 0) (r2 := 0) (r3 := 0) rfl rfl ?_
    refine wi_iconst (n := 1) (nx := 36) (r1 := 0) (r2 := 0) (r3 := 0) rfl ?_
    refine wr_sub (nx := 37) (r1 := 0) (r2 := 0) (r3 := 0) rfl (fun e12 (fe12 : e12 = x3 - 1) => ?_)
    refine wr_V (k0 := 26) (rest := [.ref 18, vi z11]) (as := [.ref 26, vi e12]) (nx := 40) (r1 := 154) (r2 := 1) (r3 := 5) rfl rfl rfl (of_decide_eq_true rfl) rfl rfl (by decide) rfl rfl (of_decide_eq_true rfl) (of_decide_eq_true rfl) ?_
    refine ct_154_R hcr rw_26 g e12 (by omega)  (fun z14  (fz14 : -2147483648 ≤ z14 ∧ z14 ≤ 2147483647) => ?_)
    refine wk_i ?_
    refine wr_V (k0 := 18) (rest := [vi z11]) (as := [.ref 18, vi z14]) (nx := 43) (r1 := 131) (r2 := 1) (r3 := 4) rfl rfl rfl (of_decide_eq_true rfl) rfl rfl (by decide) rfl rfl (of_decide_eq_true rfl) (of_decide_eq_true rfl) ?_
    refine ct_131_18 hcr  g z14 (by omega)  (fun z16  (fz16 : -2147483648 ≤ z16 ∧ z16 ≤ 2147483647) => ?_)
    refine wk_i ?_
    refine wi_icmp (cd := .ne) (nx := 46) (r1 := 50) (r2 := 0) (r3 := 0) rfl (by omega) (by omega) (fun (q17 : z11 ≠ z16) => ?_) (fun (q17 : ¬ (z11 ≠ z16)) => ?_)
    ·
      refine wi_iconst (n := 0) (nx := 51) (r1 := 0) (r2 := 0) (r3 := 0) rfl ?_
      refine wi_istore (i := 4) (e := 0) (lo2 := [(4, vi 0), (0, .ref 18), (1, vi x1), (2, vi x2), (3, vi x3)]) (nx := 53) (r1 := 0) (r2 := 0) (r3 := 0) rfl rfl ?_
      refine wi_iload (i := 4) (e := 0) (nx := 55) (r1 := 0) (r2 := 0) (r3 := 0) rfl rfl ?_
      refine wi_if (cd := .eq) (nx := 58) (r1 := 64) (r2 := 0) (r3 := 0) rfl (by omega) (fun (q18 : 0 = 0) => ?_) (fun (q18 : ¬ (0 = 0)) => by exfalso; omega)
      refine wi_iconst (n := 1) (nx := 65) (r1 := 0) (r2 := 0) (r3 := 0) rfl ?_
      refine wi_istore_n (i := 2) (e := 1) (lo2 := [(2, vi 1), (4, vi 0), (0, .ref 18), (1, vi x1), (3, vi x3)]) (nx := 66) (r1 := 0) (r2 := 0) (r3 := 0) rfl rfl ?_
      refine wi_iload_n (i := 1) (e := x1) (nx := 67) (r1 := 0) (r2 := 0) (r3 := 0) rfl rfl ?_
      refine wi_iload_n (i := 2) (e := 1) (nx := 68) (r1 := 0) (r2 := 0) (r3 := 0) rfl rfl ?_
      refine wi_S (rest := []) (as := [vi x1, vi 1]) (nx := 71) (r1 := 354) (r2 := 18) (r3 := 0) rfl rfl rfl (of_decide_eq_true rfl) rfl rfl (of_decide_eq_true rfl) (of_decide_eq_true rfl) ?_
      refine wi_iload_n (i := 0) (e := x1) (nx := 1) (r1 := 0) (r2 := 0) (r3 := 0) rfl rfl ?_
      refine wi_iload_n (i := 1) (e := 1) (nx := 2) (r1 := 0) (r2 := 0) (r3 := 0) rfl rfl ?_
      refine wi_icmp (cd := .lt) (nx := 5) (r1 := 9) (r2 := 0) (r3 := 0) rfl (by omega) (by omega) (fun (q19 : x1 < 1) => ?_) (fun (q19 : ¬ (x1 < 1)) => ?_)
      ·
        refine wi_iload_n (i := 1) (e := 1) (nx := 10) (r1 := 0) (r2 := 0) (r3 := 0) rfl rfl ?_
        refine wi_ireturn (nx := 11) (r1 := 0) (r2 := 0) (r3 := 0) rfl rfl ?_
        refine wk_i ?_
        refine wi_istore_n (i := 1) (e := 1) (lo2 := [(1, vi 1), (2, vi 1), (4, vi 0), (0, .ref 18), (3, vi x3)]) (nx := 72) (r1 := 0) (r2 := 0) (r3 := 0) rfl rfl ?_
        refine wr_iinc (i := 3) (n := 1) (v := x3) (fun e20 => [(3, vi e20), (1, vi 1), (2, vi 1), (4, vi 0), (0, .ref 18)]) (nx := 75) (r1 := 0) (r2 := 0) (r3 := 0) rfl rfl (fun _ => rfl) (fun e20 (fe20 : e20 = x3 + 1) => ?_)
        refine wi_goto (nx := 78) (r1 := 6) (r2 := 0) (r3 := 0) rfl ?_
        refine wp.lo (lo := [(0, .ref 18), (1, vi 1), (2, vi 1), (3, vi e20)]) ⟨rfl, rfl, rfl, rfl, trivial⟩ rfl ?_
        exact I4 1 1 e20 h ⟨rfl, (show (0 ≤ 1 ∧ 1 ≤ 2147483647) ∧ (-2147483648 ≤ 1 ∧ 1 ≤ 2147483647) ∧ (0 ≤ e20 ∧ e20 ≤ 12) by omega)⟩ (show ((12 : Int) + 1 - e20).toNat < ((12 : Int) + 1 - x3).toNat by omega)
      ·
        refine wi_iload_n (i := 0) (e := x1) (nx := 6) (r1 := 0) (r2 := 0) (r3 := 0) rfl rfl ?_
        refine wi_goto (nx := 9) (r1 := 10) (r2 := 0) (r3 := 0) rfl ?_
        refine wi_ireturn (nx := 11) (r1 := 0) (r2 := 0) (r3 := 0) rfl rfl ?_
        refine wk_i ?_
        refine wi_istore_n (i := 1) (e := x1) (lo2 := [(1, vi x1), (2, vi 1), (4, vi 0), (0, .ref 18), (3, vi x3)]) (nx := 72) (r1 := 0) (r2 := 0) (r3 := 0) rfl rfl ?_
        refine wr_iinc (i := 3) (n := 1) (v := x3) (fun e20 => [(3, vi e20), (1, vi x1), (2, vi 1), (4, vi 0), (0, .ref 18)]) (nx := 75) (r1 := 0) (r2 := 0) (r3 := 0) rfl rfl (fun _ => rfl) (fun e20 (fe20 : e20 = x3 + 1) => ?_)
        refine wi_goto (nx := 78) (r1 := 6) (r2 := 0) (r3 := 0) rfl ?_
        refine wp.lo (lo := [(0, .ref 18), (1, vi x1), (2, vi 1), (3, vi e20)]) ⟨rfl, rfl, rfl, rfl, trivial⟩ rfl ?_
        exact I4 x1 1 e20 h ⟨rfl, (show (0 ≤ x1 ∧ x1 ≤ 2147483647) ∧ (-2147483648 ≤ 1 ∧ 1 ≤ 2147483647) ∧ (0 ≤ e20 ∧ e20 ≤ 12) by omega)⟩ (show ((12 : Int) + 1 - e20).toNat < ((12 : Int) + 1 - x3).toNat by omega)
    ·
      refine wi_iconst (n := 1) (nx := 47) (r1 := 0) (r2 := 0) (r3 := 0) rfl ?_
      refine wi_goto (nx := 50) (r1 := 51) (r2 := 0) (r3 := 0) rfl ?_
      refine wi_istore (i := 4) (e := 1) (lo2 := [(4, vi 1), (0, .ref 18), (1, vi x1), (2, vi x2), (3, vi x3)]) (nx := 53) (r1 := 0) (r2 := 0) (r3 := 0) rfl rfl ?_
      refine wi_iload (i := 4) (e := 1) (nx := 55) (r1 := 0) (r2 := 0) (r3 := 0) rfl rfl ?_
      refine wi_if (cd := .eq) (nx := 58) (r1 := 64) (r2 := 0) (r3 := 0) rfl (by omega) (fun (q18 : 1 = 0) => by exfalso; omega) (fun (q18 : ¬ (1 = 0)) => ?_)
      refine wi_iload_n (i := 2) (e := x2) (nx := 59) (r1 := 0) (r2 := 0) (r3 := 0) rfl rfl ?_
      refine wi_iconst (n := 1) (nx := 60) (r1 := 0) (r2 := 0) (r3 := 0) rfl ?_
      refine wr_addW (nx := 61) (r1 := 0) (r2 := 0) (r3 := 0) rfl (fun e19 (fe19 : -2147483648 ≤ e19 ∧ e19 ≤ 2147483647) => ?_)
      refine wi_goto (nx := 64) (r1 := 65) (r2 := 0) (r3 := 0) rfl ?_
      refine wi_istore_n (i := 2) (e := e19) (lo2 := [(2, vi e19), (4, vi 1), (0, .ref 18), (1, vi x1), (3, vi x3)]) (nx := 66) (r1 := 0) (r2 := 0) (r3 := 0) rfl rfl ?_
      refine wi_iload_n (i := 1) (e := x1) (nx := 67) (r1 := 0) (r2 := 0) (r3 := 0) rfl rfl ?_
      refine wi_iload_n (i := 2) (e := e19) (nx := 68) (r1 := 0) (r2 := 0) (r3 := 0) rfl rfl ?_
      refine wi_S (rest := []) (as := [vi x1, vi e19]) (nx := 71) (r1 := 354) (r2 := 18) (r3 := 0) rfl rfl rfl (of_decide_eq_true rfl) rfl rfl (of_decide_eq_true rfl) (of_decide_eq_true rfl) ?_
      refine wi_iload_n (i := 0) (e := x1) (nx := 1) (r1 := 0) (r2 := 0) (r3 := 0) rfl rfl ?_
      refine wi_iload_n (i := 1) (e := e19) (nx := 2) (r1 := 0) (r2 := 0) (r3 := 0) rfl rfl ?_
      refine wi_icmp (cd := .lt) (nx := 5) (r1 := 9) (r2 := 0) (r3 := 0) rfl (by omega) (by omega) (fun (q20 : x1 < e19) => ?_) (fun (q20 : ¬ (x1 < e19)) => ?_)
      ·
        refine wi_iload_n (i := 1) (e := e19) (nx := 10) (r1 := 0) (r2 := 0) (r3 := 0) rfl rfl ?_
        refine wi_ireturn (nx := 11) (r1 := 0) (r2 := 0) (r3 := 0) rfl rfl ?_
        refine wk_i ?_
        refine wi_istore_n (i := 1) (e := e19) (lo2 := [(1, vi e19), (2, vi e19), (4, vi 1), (0, .ref 18), (3, vi x3)]) (nx := 72) (r1 := 0) (r2 := 0) (r3 := 0) rfl rfl ?_
        refine wr_iinc (i := 3) (n := 1) (v := x3) (fun e21 => [(3, vi e21), (1, vi e19), (2, vi e19), (4, vi 1), (0, .ref 18)]) (nx := 75) (r1 := 0) (r2 := 0) (r3 := 0) rfl rfl (fun _ => rfl) (fun e21 (fe21 : e21 = x3 + 1) => ?_)
        refine wi_goto (nx := 78) (r1 := 6) (r2 := 0) (r3 := 0) rfl ?_
        refine wp.lo (lo := [(0, .ref 18), (1, vi e19), (2, vi e19), (3, vi e21)]) ⟨rfl, rfl, rfl, rfl, trivial⟩ rfl ?_
        exact I4 e19 e19 e21 h ⟨rfl, (show (0 ≤ e19 ∧ e19 ≤ 2147483647) ∧ (-2147483648 ≤ e19 ∧ e19 ≤ 2147483647) ∧ (0 ≤ e21 ∧ e21 ≤ 12) by omega)⟩ (show ((12 : Int) + 1 - e21).toNat < ((12 : Int) + 1 - x3).toNat by omega)
      ·
        refine wi_iload_n (i := 0) (e := x1) (nx := 6) (r1 := 0) (r2 := 0) (r3 := 0) rfl rfl ?_
        refine wi_goto (nx := 9) (r1 := 10) (r2 := 0) (r3 := 0) rfl ?_
        refine wi_ireturn (nx := 11) (r1 := 0) (r2 := 0) (r3 := 0) rfl rfl ?_
        refine wk_i ?_
        refine wi_istore_n (i := 1) (e := x1) (lo2 := [(1, vi x1), (2, vi e19), (4, vi 1), (0, .ref 18), (3, vi x3)]) (nx := 72) (r1 := 0) (r2 := 0) (r3 := 0) rfl rfl ?_
        refine wr_iinc (i := 3) (n := 1) (v := x3) (fun e21 => [(3, vi e21), (1, vi x1), (2, vi e19), (4, vi 1), (0, .ref 18)]) (nx := 75) (r1 := 0) (r2 := 0) (r3 := 0) rfl rfl (fun _ => rfl) (fun e21 (fe21 : e21 = x3 + 1) => ?_)
        refine wi_goto (nx := 78) (r1 := 6) (r2 := 0) (r3 := 0) rfl ?_
        refine wp.lo (lo := [(0, .ref 18), (1, vi x1), (2, vi e19), (3, vi e21)]) ⟨rfl, rfl, rfl, rfl, trivial⟩ rfl ?_
        exact I4 x1 e19 e21 h ⟨rfl, (show (0 ≤ x1 ∧ x1 ≤ 2147483647) ∧ (-2147483648 ≤ e19 ∧ e19 ≤ 2147483647) ∧ (0 ≤ e21 ∧ e21 ≤ 12) by omega)⟩ (show ((12 : Int) + 1 - e21).toNat < ((12 : Int) + 1 - x3).toNat by omega)
-- method 37: Bank.longestBatch()I
set_option maxRecDepth 100000 in
set_option maxHeartbeats 100000000 in
theorem ct_37_0 {L : Nat} {xs : Nat → Int32} {d b c : Nat} {h : hp} {cr : Nat → Nat → Option Nat} {Q : hp_Q} (hcr : CR cr)  (g : GI h)    (k : ∀ (z0 : Int), (0 ≤ z0 ∧ z0 ≤ 2147483647) → Q (.inl (some (vi z0))) (hp_w h cr) b c) : wp (md_xa (L, xs)) (d + 2) 37 (0, [(0, .ref 0)], [], hp_w h cr, b, c) Q := by
  have F0 : FR [] h h := FR.refl
  refine wi_aload_n (i := 0) (x := 0) (nx := 1) (r1 := 0) (r2 := 0) (r3 := 0) rfl rfl ?_
  refine wr_gr (k0 := 0) (x := 18) (nx := 4) (r1 := 0) (r2 := 3) (r3 := 0) rfl rfl (by decide) rfl ⟨rfl, rfl⟩ rfl ?_
  refine wr_V (k0 := 18) (rest := []) (as := [.ref 18]) (nx := 7) (r1 := 130) (r2 := 0) (r3 := 4) rfl rfl rfl (of_decide_eq_true rfl) rfl rfl (by decide) rfl rfl (of_decide_eq_true rfl) (of_decide_eq_true rfl) ?_
  refine ct_130_18 hcr  g    (fun z2  (fz2 : 0 ≤ z2 ∧ z2 ≤ 2147483647) => ?_)
  refine wk_i ?_
  refine wi_ireturn (nx := 8) (r1 := 0) (r2 := 0) (r3 := 0) rfl rfl ?_
  exact k z2 (by omega)
-- method 76: Bank.move(I)I
set_option maxRecDepth 100000 in
set_option maxHeartbeats 100000000 in
theorem ct_76_0 {L : Nat} {xs : Nat → Int32} {d b c : Nat} {h : hp} {cr : Nat → Nat → Option Nat} {Q : hp_Q} (hcr : CR cr) (hr : 1 ≤ b ∧ 6 ≤ c)  (g : GI h) (a0 : Int) (q0_ : -2147483648 ≤ a0 ∧ a0 ≤ 2147483647)  (k : ∀ (z0 : Int), (-11 ≤ z0 ∧ z0 ≤ 11) → Q (.inl (some (vi z0))) (hp_w h cr) b c) (kx0 : Q (.inr 0) (hp_w h cr) (b - 1) (c - 6)) (kx2 : Q (.inr 2) (hp_w h cr) (b - 1) (c - 6)) : wp (md_xa (L, xs)) (d + 1) 76 (0, [(0, .ref 0), (1, vi a0)], [], hp_w h cr, b, c) Q := by
  have F0 : FR [] h h := FR.refl
  refine wi_aload_n (i := 0) (x := 0) (nx := 1) (r1 := 0) (r2 := 0) (r3 := 0) rfl rfl ?_
  refine wi_iload_n (i := 1) (e := a0) (nx := 2) (r1 := 0) (r2 := 0) (r3 := 0) rfl rfl ?_
  refine wr_V (k0 := 0) (rest := []) (as := [.ref 0, vi a0]) (nx := 5) (r1 := 70) (r2 := 1) (r3 := 0) rfl rfl rfl (of_decide_eq_true rfl) rfl rfl (by decide) rfl rfl (of_decide_eq_true rfl) (of_decide_eq_true rfl) ?_
  refine wi_iload_n (i := 1) (e := a0) (nx := 1) (r1 := 0) (r2 := 0) (r3 := 0) rfl rfl ?_
  refine wi_if (cd := .lt) (nx := 4) (r1 := 15) (r2 := 0) (r3 := 0) rfl (by omega) (fun (q1 : a0 < 0) => ?_) (fun (q1 : ¬ (a0 < 0)) => ?_)
  ·
    refine wr_throw (Ex := 2) (nx := 18) (r1 := 2) (r2 := 0) (r3 := 1) rfl (by decide) rfl hr (by decide) ?_
    refine wk_x rfl ?_
    exact kx2
  ·
    refine wi_iload_n (i := 1) (e := a0) (nx := 5) (r1 := 0) (r2 := 0) (r3 := 0) rfl rfl ?_
    refine wi_aload_n (i := 0) (x := 0) (nx := 6) (r1 := 0) (r2 := 0) (r3 := 0) rfl rfl ?_
    refine wr_gr (k0 := 0) (x := 3) (nx := 9) (r1 := 0) (r2 := 1) (r3 := 0) rfl rfl (by decide) rfl ⟨rfl, rfl⟩ rfl ?_
    have b2 := gi_b (lo := 0) (hi := 12) g 3 2 rfl
    refine wr_gi0 (k0 := 3) (x := h 3 2) (nx := 12) (r1 := 2) (r2 := 2) (r3 := 0) rfl rfl (by decide) rfl ⟨rfl, rfl⟩ rfl rfl ?_
    refine wi_icmp (cd := .lt) (nx := 15) (r1 := 26) (r2 := 0) (r3 := 0) rfl (by omega) (by omega) (fun (q3 : a0 < (h 3 2)) => ?_) (fun (q3 : ¬ (a0 < (h 3 2))) => ?_)
    ·
      refine wi_return (nx := 27) (r1 := 0) (r2 := 0) (r3 := 0) rfl rfl ?_
      refine wk_n ?_
      refine wi_aload_n (i := 0) (x := 0) (nx := 6) (r1 := 0) (r2 := 0) (r3 := 0) rfl rfl ?_
      refine wr_gr (k0 := 0) (x := 18) (nx := 9) (r1 := 0) (r2 := 3) (r3 := 0) rfl rfl (by decide) rfl ⟨rfl, rfl⟩ rfl ?_
      refine wr_gr (k0 := 18) (x := 26) (nx := 12) (r1 := 4) (r2 := 6) (r3 := 0) rfl rfl (by decide) rfl ⟨rfl, rfl⟩ rfl ?_
      refine wi_iload_n (i := 1) (e := a0) (nx := 13) (r1 := 0) (r2 := 0) (r3 := 0) rfl rfl ?_
      refine wr_V (k0 := 26) (rest := []) (as := [.ref 26, vi a0]) (nx := 16) (r1 := 159) (r2 := 1) (r3 := 5) rfl rfl rfl (of_decide_eq_true rfl) rfl rfl (by decide) rfl rfl (of_decide_eq_true rfl) (of_decide_eq_true rfl) ?_
      refine ct_159_R hcr rw_26 g a0 (by omega)  (fun z5  (fz5 : -1 ≤ z5 ∧ z5 ≤ 11) => ?_)
      refine wk_i ?_
      refine wi_istore_n (i := 2) (e := z5) (lo2 := [(2, vi z5), (0, .ref 0), (1, vi a0)]) (nx := 17) (r1 := 0) (r2 := 0) (r3 := 0) rfl rfl ?_
      refine wi_iload_n (i := 2) (e := z5) (nx := 18) (r1 := 0) (r2 := 0) (r3 := 0) rfl rfl ?_
      refine wi_iconst (n := (-1)) (nx := 19) (r1 := 0) (r2 := 0) (r3 := 0) rfl ?_
      refine wi_icmp (cd := .ne) (nx := 22) (r1 := 32) (r2 := 0) (r3 := 0) rfl (by omega) (by omega) (fun (q6 : z5 ≠ (-1)) => ?_) (fun (q6 : ¬ (z5 ≠ (-1))) => ?_)
      ·
        refine wi_iload_n (i := 2) (e := z5) (nx := 33) (r1 := 0) (r2 := 0) (r3 := 0) rfl rfl ?_
        refine wi_iload_n (i := 1) (e := a0) (nx := 34) (r1 := 0) (r2 := 0) (r3 := 0) rfl rfl ?_
        refine wr_sub (nx := 35) (r1 := 0) (r2 := 0) (r3 := 0) rfl (fun e7 (fe7 : e7 = z5 - a0) => ?_)
        refine wi_ireturn (nx := 36) (r1 := 0) (r2 := 0) (r3 := 0) rfl rfl ?_
        exact k e7 (by omega)
      ·
        refine wr_throw (Ex := 0) (nx := 25) (r1 := 0) (r2 := 0) (r3 := 1) rfl (by decide) rfl hr (by decide) ?_
        exact kx0
    ·
      refine wr_throw (Ex := 2) (nx := 18) (r1 := 2) (r2 := 0) (r3 := 1) rfl (by decide) rfl hr (by decide) ?_
      refine wk_x rfl ?_
      exact kx2
-- method 35: Bank.out(I)I
set_option maxRecDepth 100000 in
set_option maxHeartbeats 100000000 in
theorem ct_35_0 {L : Nat} {xs : Nat → Int32} {d b c : Nat} {h : hp} {cr : Nat → Nat → Option Nat} {Q : hp_Q} (hcr : CR cr)  (g : GI h) (a0 : Int) (q0_ : -2147483648 ≤ a0 ∧ a0 ≤ 2147483647)  (k : ∀ (z0 : Int), (-2147483648 ≤ z0 ∧ z0 ≤ 2147483647) → Q (.inl (some (vi z0))) (hp_w h cr) b c) : wp (md_xa (L, xs)) (d + 1) 35 (0, [(0, .ref 0), (1, vi a0)], [], hp_w h cr, b, c) Q := by
  have F0 : FR [] h h := FR.refl
  refine wi_aload_n (i := 0) (x := 0) (nx := 1) (r1 := 0) (r2 := 0) (r3 := 0) rfl rfl ?_
  refine wr_gr (k0 := 0) (x := 18) (nx := 4) (r1 := 0) (r2 := 3) (r3 := 0) rfl rfl (by decide) rfl ⟨rfl, rfl⟩ rfl ?_
  refine wr_gr (k0 := 18) (x := 26) (nx := 7) (r1 := 4) (r2 := 6) (r3 := 0) rfl rfl (by decide) rfl ⟨rfl, rfl⟩ rfl ?_
  refine wi_iload_n (i := 1) (e := a0) (nx := 8) (r1 := 0) (r2 := 0) (r3 := 0) rfl rfl ?_
  refine wr_V (k0 := 26) (rest := []) (as := [.ref 26, vi a0]) (nx := 11) (r1 := 154) (r2 := 1) (r3 := 5) rfl rfl rfl (of_decide_eq_true rfl) rfl rfl (by decide) rfl rfl (of_decide_eq_true rfl) (of_decide_eq_true rfl) ?_
  refine ct_154_R hcr rw_26 g a0 (by omega)  (fun z2  (fz2 : -2147483648 ≤ z2 ∧ z2 ≤ 2147483647) => ?_)
  refine wk_i ?_
  refine wi_ireturn (nx := 12) (r1 := 0) (r2 := 0) (r3 := 0) rfl rfl ?_
  exact k z2 (by omega)
-- method 34: Bank.outCount()I
set_option maxRecDepth 100000 in
set_option maxHeartbeats 100000000 in
theorem ct_34_0 {L : Nat} {xs : Nat → Int32} {d b c : Nat} {h : hp} {cr : Nat → Nat → Option Nat} {Q : hp_Q} (hcr : CR cr)  (g : GI h)    (k : ∀ (z0 : Int), (0 ≤ z0 ∧ z0 ≤ 12) → Q (.inl (some (vi z0))) (hp_w h cr) b c) : wp (md_xa (L, xs)) d 34 (0, [(0, .ref 0)], [], hp_w h cr, b, c) Q := by
  have F0 : FR [] h h := FR.refl
  refine wi_aload_n (i := 0) (x := 0) (nx := 1) (r1 := 0) (r2 := 0) (r3 := 0) rfl rfl ?_
  refine wr_gr (k0 := 0) (x := 18) (nx := 4) (r1 := 0) (r2 := 3) (r3 := 0) rfl rfl (by decide) rfl ⟨rfl, rfl⟩ rfl ?_
  refine wr_gr (k0 := 18) (x := 26) (nx := 7) (r1 := 4) (r2 := 6) (r3 := 0) rfl rfl (by decide) rfl ⟨rfl, rfl⟩ rfl ?_
  have b1 := gi_b (lo := 0) (hi := 12) g 26 1 rfl
  refine wr_gi0 (k0 := 26) (x := h 26 1) (nx := 10) (r1 := 5) (r2 := 1) (r3 := 0) rfl rfl (by decide) rfl ⟨rfl, rfl⟩ rfl rfl ?_
  refine wi_ireturn (nx := 11) (r1 := 0) (r2 := 0) (r3 := 0) rfl rfl ?_
  exact k (h 26 1) (by omega)
-- method 42: Bank.purges()I
set_option maxRecDepth 100000 in
set_option maxHeartbeats 100000000 in
theorem ct_42_0 {L : Nat} {xs : Nat → Int32} {d b c : Nat} {h : hp} {cr : Nat → Nat → Option Nat} {Q : hp_Q} (hcr : CR cr)  (g : GI h)    (k : ∀ (z0 : Int), (-2147483648 ≤ z0 ∧ z0 ≤ 2147483647) → Q (.inl (some (vi z0))) (hp_w h cr) b c) : wp (md_xa (L, xs)) d 42 (0, [(0, .ref 0)], [], hp_w h cr, b, c) Q := by
  have F0 : FR [] h h := FR.refl
  refine wi_aload_n (i := 0) (x := 0) (nx := 1) (r1 := 0) (r2 := 0) (r3 := 0) rfl rfl ?_
  refine wr_gr (k0 := 0) (x := 18) (nx := 4) (r1 := 0) (r2 := 3) (r3 := 0) rfl rfl (by decide) rfl ⟨rfl, rfl⟩ rfl ?_
  have b1 := gi_b (lo := -2147483648) (hi := 2147483647) g 18 12 rfl
  refine wr_gi0 (k0 := 18) (x := h 18 12) (nx := 7) (r1 := 4) (r2 := 12) (r3 := 0) rfl rfl (by decide) rfl ⟨rfl, rfl⟩ rfl rfl ?_
  refine wi_ireturn (nx := 8) (r1 := 0) (r2 := 0) (r3 := 0) rfl rfl ?_
  exact k (h 18 12) (by omega)
-- method 108: Setup.clear()V
set_option maxRecDepth 100000 in
set_option maxHeartbeats 100000000 in
theorem ct_108_11 {L : Nat} {xs : Nat → Int32} {d b c : Nat} {h : hp} {cr : Nat → Nat → Option Nat} {Q : hp_Q} (hcr : CR cr)  (g : GI h)    (k : ∀ (h2 : hp) , GI h2 → FR [(11, 11, some (0, 0)), (11, 11, some (1, 1)), (11, 11, some (2, 2)), (11, 11, some (3, 3)), (11, 11, some (4, 4)), (11, 11, some (5, 5)), (11, 11, some (6, 6)), (11, 11, some (7, 7)), (11, 11, some (8, 8)), (11, 11, some (9, 9))] h h2 → Q (.inl none) (hp_w h2 cr) b c) : wp (md_xa (L, xs)) d 108 (0, [(0, .ref 11)], [], hp_w h cr, b, c) Q := by
  have F0 : FR [(11, 11, some (0, 0)), (11, 11, some (1, 1)), (11, 11, some (2, 2)), (11, 11, some (3, 3)), (11, 11, some (4, 4)), (11, 11, some (5, 5)), (11, 11, some (6, 6)), (11, 11, some (7, 7)), (11, 11, some (8, 8)), (11, 11, some (9, 9))] h h := FR.refl
  refine wi_aload_n (i := 0) (x := 11) (nx := 1) (r1 := 0) (r2 := 0) (r3 := 0) rfl rfl ?_
  refine wi_iconst (n := 0) (nx := 2) (r1 := 0) (r2 := 0) (r3 := 0) rfl ?_
  refine wr_pf0 (k0 := 11) (x := 0) (bl := 0) (bh := 5) (nx := 5) (r1 := 2) (r2 := 0) (r3 := 0) rfl (by decide) rfl ⟨rfl, rfl⟩ rfl rfl g rfl (by omega) (fun h1 g1 w1 u1 => ?_)
  have F2 := F0.then rfl u1
  refine wi_aload_n (i := 0) (x := 11) (nx := 6) (r1 := 0) (r2 := 0) (r3 := 0) rfl rfl ?_
  refine wi_iconst (n := 0) (nx := 7) (r1 := 0) (r2 := 0) (r3 := 0) rfl ?_
  refine wr_pf0 (k0 := 11) (x := 0) (bl := 0) (bh := 4) (nx := 10) (r1 := 2) (r2 := 1) (r3 := 0) rfl (by decide) rfl ⟨rfl, rfl⟩ rfl rfl g1 rfl (by omega) (fun h3 g3 w3 u3 => ?_)
  have F4 := F2.then rfl u3
  refine wi_aload_n (i := 0) (x := 11) (nx := 11) (r1 := 0) (r2 := 0) (r3 := 0) rfl rfl ?_
  refine wi_iconst (n := 0) (nx := 12) (r1 := 0) (r2 := 0) (r3 := 0) rfl ?_
  refine wr_pf0 (k0 := 11) (x := 0) (bl := 0) (bh := 12) (nx := 15) (r1 := 2) (r2 := 2) (r3 := 0) rfl (by decide) rfl ⟨rfl, rfl⟩ rfl rfl g3 rfl (by omega) (fun h5 g5 w5 u5 => ?_)
  have F6 := F4.then rfl u5
  refine wi_aload_n (i := 0) (x := 11) (nx := 16) (r1 := 0) (r2 := 0) (r3 := 0) rfl rfl ?_
  refine wi_bipush (n := 11) (nx := 18) (r1 := 0) (r2 := 0) (r3 := 0) rfl (by decide) ?_
  refine wr_pf0 (k0 := 11) (x := 11) (bl := -2147483648) (bh := 2147483647) (nx := 21) (r1 := 2) (r2 := 3) (r3 := 0) rfl (by decide) rfl ⟨rfl, rfl⟩ rfl rfl g5 rfl (by omega) (fun h7 g7 w7 u7 => ?_)
  have F8 := F6.then rfl u7
  refine wi_aload_n (i := 0) (x := 11) (nx := 22) (r1 := 0) (r2 := 0) (r3 := 0) rfl rfl ?_
  refine wi_bipush (n := 11) (nx := 24) (r1 := 0) (r2 := 0) (r3 := 0) rfl (by decide) ?_
  refine wr_pf0 (k0 := 11) (x := 11) (bl := -2147483648) (bh := 2147483647) (nx := 27) (r1 := 2) (r2 := 4) (r3 := 0) rfl (by decide) rfl ⟨rfl, rfl⟩ rfl rfl g7 rfl (by omega) (fun h9 g9 w9 u9 => ?_)
  have F10 := F8.then rfl u9
  refine wi_aload_n (i := 0) (x := 11) (nx := 28) (r1 := 0) (r2 := 0) (r3 := 0) rfl rfl ?_
  refine wi_bipush (n := 9) (nx := 30) (r1 := 0) (r2 := 0) (r3 := 0) rfl (by decide) ?_
  refine wr_pf0 (k0 := 11) (x := 9) (bl := -2147483648) (bh := 2147483647) (nx := 33) (r1 := 2) (r2 := 5) (r3 := 0) rfl (by decide) rfl ⟨rfl, rfl⟩ rfl rfl g9 rfl (by omega) (fun h11 g11 w11 u11 => ?_)
  have F12 := F10.then rfl u11
  refine wi_aload_n (i := 0) (x := 11) (nx := 34) (r1 := 0) (r2 := 0) (r3 := 0) rfl rfl ?_
  refine wi_iconst (n := 0) (nx := 35) (r1 := 0) (r2 := 0) (r3 := 0) rfl ?_
  refine wr_pf0 (k0 := 11) (x := 0) (bl := -2147483648) (bh := 2147483647) (nx := 38) (r1 := 2) (r2 := 6) (r3 := 0) rfl (by decide) rfl ⟨rfl, rfl⟩ rfl rfl g11 rfl (by omega) (fun h13 g13 w13 u13 => ?_)
  have F14 := F12.then rfl u13
  refine wi_aload_n (i := 0) (x := 11) (nx := 39) (r1 := 0) (r2 := 0) (r3 := 0) rfl rfl ?_
  refine wi_iconst (n := 1) (nx := 40) (r1 := 0) (r2 := 0) (r3 := 0) rfl ?_
  refine wr_pf0 (k0 := 11) (x := 1) (bl := -2147483648) (bh := 2147483647) (nx := 43) (r1 := 2) (r2 := 7) (r3 := 0) rfl (by decide) rfl ⟨rfl, rfl⟩ rfl rfl g13 rfl (by omega) (fun h15 g15 w15 u15 => ?_)
  have F16 := F14.then rfl u15
  refine wi_aload_n (i := 0) (x := 11) (nx := 44) (r1 := 0) (r2 := 0) (r3 := 0) rfl rfl ?_
  refine wi_iconst (n := 3) (nx := 45) (r1 := 0) (r2 := 0) (r3 := 0) rfl ?_
  refine wr_pf0 (k0 := 11) (x := 3) (bl := -2147483648) (bh := 2147483647) (nx := 48) (r1 := 2) (r2 := 8) (r3 := 0) rfl (by decide) rfl ⟨rfl, rfl⟩ rfl rfl g15 rfl (by omega) (fun h17 g17 w17 u17 => ?_)
  have F18 := F16.then rfl u17
  refine wi_aload_n (i := 0) (x := 11) (nx := 49) (r1 := 0) (r2 := 0) (r3 := 0) rfl rfl ?_
  refine wi_iconst (n := 2) (nx := 50) (r1 := 0) (r2 := 0) (r3 := 0) rfl ?_
  refine wr_pf0 (k0 := 11) (x := 2) (bl := -2147483648) (bh := 2147483647) (nx := 53) (r1 := 2) (r2 := 9) (r3 := 0) rfl (by decide) rfl ⟨rfl, rfl⟩ rfl rfl g17 rfl (by omega) (fun h19 g19 w19 u19 => ?_)
  have F20 := F18.then rfl u19
  refine wi_return (nx := 54) (r1 := 0) (r2 := 0) (r3 := 0) rfl rfl ?_
  exact k h19 g19 F20
-- method 93: Text.rewind()V
set_option maxRecDepth 100000 in
set_option maxHeartbeats 100000000 in
theorem ct_93_1 {L : Nat} {xs : Nat → Int32} {d b c : Nat} {h : hp} {cr : Nat → Nat → Option Nat} {Q : hp_Q} (hcr : CR cr)  (g : GI h)    (k : ∀ (h2 : hp) , GI h2 → FR [(1, 1, some (2, 2)), (1, 1, some (3, 3)), (1, 1, some (4, 4))] h h2 → Q (.inl none) (hp_w h2 cr) b c) : wp (md_xa (L, xs)) d 93 (0, [(0, .ref 1)], [], hp_w h cr, b, c) Q := by
  have F0 : FR [(1, 1, some (2, 2)), (1, 1, some (3, 3)), (1, 1, some (4, 4))] h h := FR.refl
  refine wi_aload_n (i := 0) (x := 1) (nx := 1) (r1 := 0) (r2 := 0) (r3 := 0) rfl rfl ?_
  refine wi_iconst (n := 0) (nx := 2) (r1 := 0) (r2 := 0) (r3 := 0) rfl ?_
  refine wr_pf0 (k0 := 1) (x := 0) (bl := 0) (bh := 800) (nx := 5) (r1 := 1) (r2 := 4) (r3 := 0) rfl (by decide) rfl ⟨rfl, rfl⟩ rfl rfl g rfl (by omega) (fun h1 g1 w1 u1 => ?_)
  have F2 := F0.then rfl u1
  refine wi_aload_n (i := 0) (x := 1) (nx := 6) (r1 := 0) (r2 := 0) (r3 := 0) rfl rfl ?_
  refine wi_iconst (n := 0) (nx := 7) (r1 := 0) (r2 := 0) (r3 := 0) rfl ?_
  refine wr_pf0 (k0 := 1) (x := 0) (bl := -2147483648) (bh := 2147483647) (nx := 10) (r1 := 1) (r2 := 2) (r3 := 0) rfl (by decide) rfl ⟨rfl, rfl⟩ rfl rfl g1 rfl (by omega) (fun h3 g3 w3 u3 => ?_)
  have F4 := F2.then rfl u3
  refine wi_aload_n (i := 0) (x := 1) (nx := 11) (r1 := 0) (r2 := 0) (r3 := 0) rfl rfl ?_
  refine wi_iconst (n := (-1)) (nx := 12) (r1 := 0) (r2 := 0) (r3 := 0) rfl ?_
  refine wr_pf0 (k0 := 1) (x := -1) (bl := -2147483648) (bh := 2147483647) (nx := 15) (r1 := 1) (r2 := 3) (r3 := 0) rfl (by decide) rfl ⟨rfl, rfl⟩ rfl rfl g3 rfl (by omega) (fun h5 g5 w5 u5 => ?_)
  have F6 := F4.then rfl u5
  refine wi_return (nx := 16) (r1 := 0) (r2 := 0) (r3 := 0) rfl rfl ?_
  exact k h5 g5 F6
-- method 95: Text.isBlank(B)Z
set_option maxRecDepth 100000 in
set_option maxHeartbeats 100000000 in
theorem ct_95 {L : Nat} {xs : Nat → Int32} {d b c : Nat} {h : hp} {cr : Nat → Nat → Option Nat} {Q : hp_Q} (hcr : CR cr)  (g : GI h) (a0 : Int) (q0_ : -128 ≤ a0 ∧ a0 ≤ 127)  (k : ∀ (z0 : Int), (0 ≤ z0 ∧ z0 ≤ 1) → (z0 = 1 → 10 ≤ a0 ∧ a0 ≤ 32) → Q (.inl (some (vi z0))) (hp_w h cr) b c) : wp (md_xa (L, xs)) d 95 (0, [(0, vi a0)], [], hp_w h cr, b, c) Q := by
  have F0 : FR [] h h := FR.refl
  refine wi_iload_n (i := 0) (e := a0) (nx := 1) (r1 := 0) (r2 := 0) (r3 := 0) rfl rfl ?_
  refine wi_bipush (n := 32) (nx := 3) (r1 := 0) (r2 := 0) (r3 := 0) rfl (by decide) ?_
  refine wi_icmp (cd := .eq) (nx := 6) (r1 := 12) (r2 := 0) (r3 := 0) rfl (by omega) (by omega) (fun (q1 : a0 = 32) => ?_) (fun (q1 : ¬ (a0 = 32)) => ?_)
  ·
    refine wi_iconst (n := 1) (nx := 13) (r1 := 0) (r2 := 0) (r3 := 0) rfl ?_
    refine wi_goto (nx := 16) (r1 := 17) (r2 := 0) (r3 := 0) rfl ?_
    refine wi_zreturn (nx := 18) (r1 := 0) (r2 := 0) (r3 := 0) rfl rfl (by omega) ?_
    exact k 1 (by omega) (fun _ => by omega)
  ·
    refine wi_iload_n (i := 0) (e := a0) (nx := 7) (r1 := 0) (r2 := 0) (r3 := 0) rfl rfl ?_
    refine wi_bipush (n := 10) (nx := 9) (r1 := 0) (r2 := 0) (r3 := 0) rfl (by decide) ?_
    refine wi_icmp (cd := .ne) (nx := 12) (r1 := 16) (r2 := 0) (r3 := 0) rfl (by omega) (by omega) (fun (q2 : a0 ≠ 10) => ?_) (fun (q2 : ¬ (a0 ≠ 10)) => ?_)
    ·
      refine wi_iconst (n := 0) (nx := 17) (r1 := 0) (r2 := 0) (r3 := 0) rfl ?_
      refine wi_zreturn (nx := 18) (r1 := 0) (r2 := 0) (r3 := 0) rfl rfl (by omega) ?_
      exact k 0 (by omega) (fun _ => by omega)
    ·
      refine wi_iconst (n := 1) (nx := 13) (r1 := 0) (r2 := 0) (r3 := 0) rfl ?_
      refine wi_goto (nx := 16) (r1 := 17) (r2 := 0) (r3 := 0) rfl ?_
      refine wi_zreturn (nx := 18) (r1 := 0) (r2 := 0) (r3 := 0) rfl rfl (by omega) ?_
      exact k 1 (by omega) (fun _ => by omega)
-- method 96: Text.isLetter(B)Z
set_option maxRecDepth 100000 in
set_option maxHeartbeats 100000000 in
theorem ct_96 {L : Nat} {xs : Nat → Int32} {d b c : Nat} {h : hp} {cr : Nat → Nat → Option Nat} {Q : hp_Q} (hcr : CR cr)  (g : GI h) (a0 : Int) (q0_ : -128 ≤ a0 ∧ a0 ≤ 127)  (k : ∀ (z0 : Int), (0 ≤ z0 ∧ z0 ≤ 1) → (z0 = 1 → 97 ≤ a0 ∧ a0 ≤ 122) → Q (.inl (some (vi z0))) (hp_w h cr) b c) : wp (md_xa (L, xs)) d 96 (0, [(0, vi a0)], [], hp_w h cr, b, c) Q := by
  have F0 : FR [] h h := FR.refl
  refine wi_iload_n (i := 0) (e := a0) (nx := 1) (r1 := 0) (r2 := 0) (r3 := 0) rfl rfl ?_
  refine wi_bipush (n := 97) (nx := 3) (r1 := 0) (r2 := 0) (r3 := 0) rfl (by decide) ?_
  refine wi_icmp (cd := .lt) (nx := 6) (r1 := 16) (r2 := 0) (r3 := 0) rfl (by omega) (by omega) (fun (q1 : a0 < 97) => ?_) (fun (q1 : ¬ (a0 < 97)) => ?_)
  ·
    refine wi_iconst (n := 0) (nx := 17) (r1 := 0) (r2 := 0) (r3 := 0) rfl ?_
    refine wi_zreturn (nx := 18) (r1 := 0) (r2 := 0) (r3 := 0) rfl rfl (by omega) ?_
    exact k 0 (by omega) (fun _ => by omega)
  ·
    refine wi_iload_n (i := 0) (e := a0) (nx := 7) (r1 := 0) (r2 := 0) (r3 := 0) rfl rfl ?_
    refine wi_bipush (n := 122) (nx := 9) (r1 := 0) (r2 := 0) (r3 := 0) rfl (by decide) ?_
    refine wi_icmp (cd := .gt) (nx := 12) (r1 := 16) (r2 := 0) (r3 := 0) rfl (by omega) (by omega) (fun (q2 : 122 < a0) => ?_) (fun (q2 : ¬ (122 < a0)) => ?_)
    ·
      refine wi_iconst (n := 0) (nx := 17) (r1 := 0) (r2 := 0) (r3 := 0) rfl ?_
      refine wi_zreturn (nx := 18) (r1 := 0) (r2 := 0) (r3 := 0) rfl rfl (by omega) ?_
      exact k 0 (by omega) (fun _ => by omega)
    ·
      refine wi_iconst (n := 1) (nx := 13) (r1 := 0) (r2 := 0) (r3 := 0) rfl ?_
      refine wi_goto (nx := 16) (r1 := 17) (r2 := 0) (r3 := 0) rfl ?_
      refine wi_zreturn (nx := 18) (r1 := 0) (r2 := 0) (r3 := 0) rfl rfl (by omega) ?_
      exact k 1 (by omega) (fun _ => by omega)
-- method 98: Text.isDigit(B)Z
set_option maxRecDepth 100000 in
set_option maxHeartbeats 100000000 in
theorem ct_98 {L : Nat} {xs : Nat → Int32} {d b c : Nat} {h : hp} {cr : Nat → Nat → Option Nat} {Q : hp_Q} (hcr : CR cr)  (g : GI h) (a0 : Int) (q0_ : -128 ≤ a0 ∧ a0 ≤ 127)  (k : ∀ (z0 : Int), (0 ≤ z0 ∧ z0 ≤ 1) → (z0 = 1 → 48 ≤ a0 ∧ a0 ≤ 57) → Q (.inl (some (vi z0))) (hp_w h cr) b c) : wp (md_xa (L, xs)) d 98 (0, [(0, vi a0)], [], hp_w h cr, b, c) Q := by
  have F0 : FR [] h h := FR.refl
  refine wi_iload_n (i := 0) (e := a0) (nx := 1) (r1 := 0) (r2 := 0) (r3 := 0) rfl rfl ?_
  refine wi_bipush (n := 48) (nx := 3) (r1 := 0) (r2 := 0) (r3 := 0) rfl (by decide) ?_
  refine wi_icmp (cd := .lt) (nx := 6) (r1 := 16) (r2 := 0) (r3 := 0) rfl (by omega) (by omega) (fun (q1 : a0 < 48) => ?_) (fun (q1 : ¬ (a0 < 48)) => ?_)
  ·
    refine wi_iconst (n := 0) (nx := 17) (r1 := 0) (r2 := 0) (r3 := 0) rfl ?_
    refine wi_zreturn (nx := 18) (r1 := 0) (r2 := 0) (r3 := 0) rfl rfl (by omega) ?_
    exact k 0 (by omega) (fun _ => by omega)
  ·
    refine wi_iload_n (i := 0) (e := a0) (nx := 7) (r1 := 0) (r2 := 0) (r3 := 0) rfl rfl ?_
    refine wi_bipush (n := 57) (nx := 9) (r1 := 0) (r2 := 0) (r3 := 0) rfl (by decide) ?_
    refine wi_icmp (cd := .gt) (nx := 12) (r1 := 16) (r2 := 0) (r3 := 0) rfl (by omega) (by omega) (fun (q2 : 57 < a0) => ?_) (fun (q2 : ¬ (57 < a0)) => ?_)
    ·
      refine wi_iconst (n := 0) (nx := 17) (r1 := 0) (r2 := 0) (r3 := 0) rfl ?_
      refine wi_zreturn (nx := 18) (r1 := 0) (r2 := 0) (r3 := 0) rfl rfl (by omega) ?_
      exact k 0 (by omega) (fun _ => by omega)
    ·
      refine wi_iconst (n := 1) (nx := 13) (r1 := 0) (r2 := 0) (r3 := 0) rfl ?_
      refine wi_goto (nx := 16) (r1 := 17) (r2 := 0) (r3 := 0) rfl ?_
      refine wi_zreturn (nx := 18) (r1 := 0) (r2 := 0) (r3 := 0) rfl rfl (by omega) ?_
      exact k 1 (by omega) (fun _ => by omega)
-- method 100: Text.kindOfMark(I)I
set_option maxRecDepth 100000 in
set_option maxHeartbeats 100000000 in
theorem ct_100 {L : Nat} {xs : Nat → Int32} {d b c : Nat} {h : hp} {cr : Nat → Nat → Option Nat} {Q : hp_Q} (hcr : CR cr)  (g : GI h) (a0 : Int) (q0_ : -2147483648 ≤ a0 ∧ a0 ≤ 2147483647)  (k : ∀ (z0 : Int), (3 ≤ z0 ∧ z0 ≤ 6) → Q (.inl (some (vi z0))) (hp_w h cr) b c) : wp (md_xa (L, xs)) d 100 (0, [(0, vi a0)], [], hp_w h cr, b, c) Q := by
  have F0 : FR [] h h := FR.refl
  refine wi_iload_n (i := 0) (e := a0) (nx := 1) (r1 := 0) (r2 := 0) (r3 := 0) rfl rfl ?_
  rcases (show a0 = 40 ∨ a0 = 41 ∨ a0 = 59 ∨ (a0 ≠ 40 ∧ a0 ≠ 41 ∧ a0 ≠ 59) by omega) with q1 | q1 | q1 | q1
  ·
    refine wr_lsw 38 (nx := 35) (r1 := 0) (r2 := 0) (r3 := 0) rfl (by rw [q1]; rfl) ?_
    refine wi_iconst (n := 4) (nx := 39) (r1 := 0) (r2 := 0) (r3 := 0) rfl ?_
    refine wi_ireturn (nx := 40) (r1 := 0) (r2 := 0) (r3 := 0) rfl rfl ?_
    exact k 4 (by omega)
  ·
    refine wr_lsw 40 (nx := 35) (r1 := 0) (r2 := 0) (r3 := 0) rfl (by rw [q1]; rfl) ?_
    refine wi_iconst (n := 5) (nx := 41) (r1 := 0) (r2 := 0) (r3 := 0) rfl ?_
    refine wi_ireturn (nx := 42) (r1 := 0) (r2 := 0) (r3 := 0) rfl rfl ?_
    exact k 5 (by omega)
  ·
    refine wr_lsw 36 (nx := 35) (r1 := 0) (r2 := 0) (r3 := 0) rfl (by rw [q1]; rfl) ?_
    refine wi_iconst (n := 3) (nx := 37) (r1 := 0) (r2 := 0) (r3 := 0) rfl ?_
    refine wi_ireturn (nx := 38) (r1 := 0) (r2 := 0) (r3 := 0) rfl rfl ?_
    exact k 3 (by omega)
  ·
    refine wr_lsw 42 (nx := 35) (r1 := 0) (r2 := 0) (r3 := 0) rfl (by rw [ii_r (by omega) (by omega)]; simp only [Op.lookupswitch.offset]; (repeat rw [if_neg (by omega)]); rfl) ?_
    refine wi_bipush (n := 6) (nx := 44) (r1 := 0) (r2 := 0) (r3 := 0) rfl (by decide) ?_
    refine wi_ireturn (nx := 45) (r1 := 0) (r2 := 0) (r3 := 0) rfl rfl ?_
    exact k 6 (by omega)
-- method 99: Text.readNumber()V
set_option maxRecDepth 100000 in
set_option maxHeartbeats 100000000 in
theorem ct_99_1 {L : Nat} {xs : Nat → Int32} {d b c : Nat} {h : hp} {cr : Nat → Nat → Option Nat} {Q : hp_Q} (hcr : CR cr)  (g : GI h)    (k : ∀ (h2 : hp) , GI h2 → FR [(1, 1, some (4, 4)), (1, 1, some (5, 5)), (1, 1, some (7, 7))] h h2 → Q (.inl none) (hp_w h2 cr) b c) : wp (md_xa (L, xs)) (d + 1) 99 (0, [(0, .ref 1)], [], hp_w h cr, b, c) Q := by
  have F0 : FR [(1, 1, some (4, 4)), (1, 1, some (5, 5)), (1, 1, some (7, 7))] h h := FR.refl
  refine wi_aload_n (i := 0) (x := 1) (nx := 1) (r1 := 0) (r2 := 0) (r3 := 0) rfl rfl ?_
  refine wi_iconst (n := 0) (nx := 2) (r1 := 0) (r2 := 0) (r3 := 0) rfl ?_
  refine wr_pf0 (k0 := 1) (x := 0) (bl := -2147483648) (bh := 2147483647) (nx := 5) (r1 := 1) (r2 := 7) (r3 := 0) rfl (by decide) rfl ⟨rfl, rfl⟩ rfl rfl g rfl (by omega) (fun h1 g1 w1 u1 => ?_)
  have F2 := F0.then rfl u1
  have b4 := gi_b (lo := 0) (hi := 800) g 1 1 rfl
  have e5 : h1 1 1 = h 1 1 := (u1 1 1 rfl)
  have b6 := gi_b (lo := 0) (hi := 800) g 1 4 rfl
  have e7 : h1 1 4 = h 1 4 := (u1 1 4 rfl)
  refine wl_0 (fun h3 => GI h3 ∧ FR [(1, 1, some (4, 4)), (1, 1, some (5, 5)), (1, 1, some (7, 7))] h h3 ∧ FR [(1, 1, some (4, 4)), (1, 1, some (7, 7))] h1 h3 ∧ (True)) (fun h3 => ((h3 1 1) - (h3 1 4)).toNat) (fun h3 => (5, [(0, .ref 1)], [], hp_w h3 cr, b, c)) ?_ h1 ⟨g1, F2, FR.refl, trivial⟩
  intro h3 ⟨g3, F8, u3, f3⟩ I3
  have e9 : h3 1 1 = h 1 1 := ((u3 1 1 rfl).trans (u1 1 1 rfl))
  have b10 := gi_b (lo := 0) (hi := 800) g3 1 4 rfl
  refine wi_aload_n (i := 0) (x := 1) (nx := 6) (r1 := 0) (r2 := 0) (r3 := 0) rfl rfl ?_
  refine wr_gi0 (k0 := 1) (x := h3 1 4) (nx := 9) (r1 := 1) (r2 := 4) (r3 := 0) rfl rfl (by decide) rfl ⟨rfl, rfl⟩ rfl rfl ?_
  refine wi_aload_n (i := 0) (x := 1) (nx := 10) (r1 := 0) (r2 := 0) (r3 := 0) rfl rfl ?_
  refine wr_gi0 (k0 := 1) (x := h 1 1) (nx := 13) (r1 := 1) (r2 := 1) (r3 := 0) rfl rfl (by decide) rfl ⟨rfl, rfl⟩ rfl ((u3 1 1 rfl).trans (u1 1 1 rfl)) ?_
  refine wi_icmp (cd := .ge) (nx := 16) (r1 := 68) (r2 := 0) (r3 := 0) rfl (by omega) (by omega) (fun (q11 : (h 1 1) ≤ (h3 1 4)) => ?_) (fun (q11 : ¬ ((h 1 1) ≤ (h3 1 4))) => ?_)
  ·
    refine wi_aload_n (i := 0) (x := 1) (nx := 69) (r1 := 0) (r2 := 0) (r3 := 0) rfl rfl ?_
    refine wi_aload_n (i := 0) (x := 1) (nx := 70) (r1 := 0) (r2 := 0) (r3 := 0) rfl rfl ?_
    refine wr_gi0 (k0 := 1) (x := h3 1 4) (nx := 73) (r1 := 1) (r2 := 4) (r3 := 0) rfl rfl (by decide) rfl ⟨rfl, rfl⟩ rfl rfl ?_
    refine wi_aload_n (i := 0) (x := 1) (nx := 74) (r1 := 0) (r2 := 0) (r3 := 0) rfl rfl ?_
    have b12 := gi_b (lo := 0) (hi := 800) g 1 6 rfl
    refine wr_gi0 (k0 := 1) (x := h 1 6) (nx := 77) (r1 := 1) (r2 := 6) (r3 := 0) rfl rfl (by decide) rfl ⟨rfl, rfl⟩ rfl ((u3 1 6 rfl).trans (u1 1 6 rfl)) ?_
    refine wr_sub (nx := 78) (r1 := 0) (r2 := 0) (r3 := 0) rfl (fun e13 (fe13 : e13 = (h3 1 4) - (h 1 6)) => ?_)
    refine wi_iconst (n := 3) (nx := 79) (r1 := 0) (r2 := 0) (r3 := 0) rfl ?_
    refine wi_icmp (cd := .gt) (nx := 82) (r1 := 86) (r2 := 0) (r3 := 0) rfl (by omega) (by omega) (fun (q14 : 3 < e13) => ?_) (fun (q14 : ¬ (3 < e13)) => ?_)
    ·
      refine wi_bipush (n := 6) (nx := 88) (r1 := 0) (r2 := 0) (r3 := 0) rfl (by decide) ?_
      refine wr_pf0 (k0 := 1) (x := 6) (bl := 0) (bh := 6) (nx := 91) (r1 := 1) (r2 := 5) (r3 := 0) rfl (by decide) rfl ⟨rfl, rfl⟩ rfl rfl g3 rfl (by omega) (fun h15 g15 w15 u15 => ?_)
      have F16 := F8.then rfl u15
      refine wi_return (nx := 92) (r1 := 0) (r2 := 0) (r3 := 0) rfl rfl ?_
      exact k h15 g15 F16
    ·
      refine wi_iconst (n := 2) (nx := 83) (r1 := 0) (r2 := 0) (r3 := 0) rfl ?_
      refine wi_goto (nx := 86) (r1 := 88) (r2 := 0) (r3 := 0) rfl ?_
      refine wr_pf0 (k0 := 1) (x := 2) (bl := 0) (bh := 6) (nx := 91) (r1 := 1) (r2 := 5) (r3 := 0) rfl (by decide) rfl ⟨rfl, rfl⟩ rfl rfl g3 rfl (by omega) (fun h15 g15 w15 u15 => ?_)
      have F16 := F8.then rfl u15
      refine wi_return (nx := 92) (r1 := 0) (r2 := 0) (r3 := 0) rfl rfl ?_
      exact k h15 g15 F16
  ·
    refine wi_aload_n (i := 0) (x := 1) (nx := 17) (r1 := 0) (r2 := 0) (r3 := 0) rfl rfl ?_
    refine wr_gr (k0 := 1) (x := 2) (nx := 20) (r1 := 1) (r2 := 0) (r3 := 0) rfl rfl (by decide) rfl ⟨rfl, rfl⟩ rfl ?_
    refine wi_aload_n (i := 0) (x := 1) (nx := 21) (r1 := 0) (r2 := 0) (r3 := 0) rfl rfl ?_
    refine wr_gi0 (k0 := 1) (x := h3 1 4) (nx := 24) (r1 := 1) (r2 := 4) (r3 := 0) rfl rfl (by decide) rfl ⟨rfl, rfl⟩ rfl rfl ?_
    obtain ⟨i12, ei12⟩ : ∃ q : Nat, (h3 1 4) = (q : Int) := ⟨(h3 1 4).toNat, by omega⟩
    have b13 := gi_b (lo := -128) (hi := 127) g 2 i12 rfl
    refine wr_ba (k0 := 2) (a := h3 1 4) (f := i12) (x := h 2 i12) (nx := 25) (r1 := 0) (r2 := 0) (r3 := 0) rfl (by decide) rfl (by decide) (by omega) (by omega) (by decide) ((u3 2 i12 (fn_a (by omega) (fn_a (by omega) fn_0))).trans (u1 2 i12 (fn_a (by omega) fn_0))) ?_
    refine wi_S (rest := []) (as := [vi (h 2 i12)]) (nx := 28) (r1 := 98) (r2 := 17) (r3 := 0) rfl rfl rfl (of_decide_eq_true rfl) rfl rfl (of_decide_eq_true rfl) (of_decide_eq_true rfl) ?_
    refine ct_98 hcr  g3 (h 2 i12) (by omega)  (fun z15  (fz15 : 0 ≤ z15 ∧ z15 ≤ 1) m14_0 => ?_)
    refine wk_i ?_
    refine wi_if (cd := .eq) (nx := 31) (r1 := 68) (r2 := 0) (r3 := 0) rfl (by omega) (fun (q16 : z15 = 0) => ?_) (fun (q16 : ¬ (z15 = 0)) => ?_)
    ·
      refine wi_aload_n (i := 0) (x := 1) (nx := 69) (r1 := 0) (r2 := 0) (r3 := 0) rfl rfl ?_
      refine wi_aload_n (i := 0) (x := 1) (nx := 70) (r1 := 0) (r2 := 0) (r3 := 0) rfl rfl ?_
      refine wr_gi0 (k0 := 1) (x := h3 1 4) (nx := 73) (r1 := 1) (r2 := 4) (r3 := 0) rfl rfl (by decide) rfl ⟨rfl, rfl⟩ rfl rfl ?_
      refine wi_aload_n (i := 0) (x := 1) (nx := 74) (r1 := 0) (r2 := 0) (r3 := 0) rfl rfl ?_
      have b17 := gi_b (lo := 0) (hi := 800) g 1 6 rfl
      refine wr_gi0 (k0 := 1) (x := h 1 6) (nx := 77) (r1 := 1) (r2 := 6) (r3 := 0) rfl rfl (by decide) rfl ⟨rfl, rfl⟩ rfl ((u3 1 6 rfl).trans (u1 1 6 rfl)) ?_
      refine wr_sub (nx := 78) (r1 := 0) (r2 := 0) (r3 := 0) rfl (fun e18 (fe18 : e18 = (h3 1 4) - (h 1 6)) => ?_)
      refine wi_iconst (n := 3) (nx := 79) (r1 := 0) (r2 := 0) (r3 := 0) rfl ?_
      refine wi_icmp (cd := .gt) (nx := 82) (r1 := 86) (r2 := 0) (r3 := 0) rfl (by omega) (by omega) (fun (q19 : 3 < e18) => ?_) (fun (q19 : ¬ (3 < e18)) => ?_)
      ·
        refine wi_bipush (n := 6) (nx := 88) (r1 := 0) (r2 := 0) (r3 := 0) rfl (by decide) ?_
        refine wr_pf0 (k0 := 1) (x := 6) (bl := 0) (bh := 6) (nx := 91) (r1 := 1) (r2 := 5) (r3 := 0) rfl (by decide) rfl ⟨rfl, rfl⟩ rfl rfl g3 rfl (by omega) (fun h20 g20 w20 u20 => ?_)
        have F21 := F8.then rfl u20
        refine wi_return (nx := 92) (r1 := 0) (r2 := 0) (r3 := 0) rfl rfl ?_
        exact k h20 g20 F21
      ·
        refine wi_iconst (n := 2) (nx := 83) (r1 := 0) (r2 := 0) (r3 := 0) rfl ?_
        refine wi_goto (nx := 86) (r1 := 88) (r2 := 0) (r3 := 0) rfl ?_
        refine wr_pf0 (k0 := 1) (x := 2) (bl := 0) (bh := 6) (nx := 91) (r1 := 1) (r2 := 5) (r3 := 0) rfl (by decide) rfl ⟨rfl, rfl⟩ rfl rfl g3 rfl (by omega) (fun h20 g20 w20 u20 => ?_)
        have F21 := F8.then rfl u20
        refine wi_return (nx := 92) (r1 := 0) (r2 := 0) (r3 := 0) rfl rfl ?_
        exact k h20 g20 F21
    ·
      have f17 : 48 ≤ (h 2 i12) ∧ (h 2 i12) ≤ 57 := m14_0 (by omega)
      refine wi_aload_n (i := 0) (x := 1) (nx := 32) (r1 := 0) (r2 := 0) (r3 := 0) rfl rfl ?_
      refine wi_aload_n (i := 0) (x := 1) (nx := 33) (r1 := 0) (r2 := 0) (r3 := 0) rfl rfl ?_
      have b18 := gi_b (lo := -2147483648) (hi := 2147483647) g3 1 7 rfl
      refine wr_gi0 (k0 := 1) (x := h3 1 7) (nx := 36) (r1 := 1) (r2 := 7) (r3 := 0) rfl rfl (by decide) rfl ⟨rfl, rfl⟩ rfl rfl ?_
      refine wi_bipush (n := 10) (nx := 38) (r1 := 0) (r2 := 0) (r3 := 0) rfl (by decide) ?_
      refine wr_mulW (nx := 39) (r1 := 0) (r2 := 0) (r3 := 0) rfl (fun e19 (fe19 : -2147483648 ≤ e19 ∧ e19 ≤ 2147483647) => ?_)
      refine wi_aload_n (i := 0) (x := 1) (nx := 40) (r1 := 0) (r2 := 0) (r3 := 0) rfl rfl ?_
      refine wr_gr (k0 := 1) (x := 2) (nx := 43) (r1 := 1) (r2 := 0) (r3 := 0) rfl rfl (by decide) rfl ⟨rfl, rfl⟩ rfl ?_
      refine wi_aload_n (i := 0) (x := 1) (nx := 44) (r1 := 0) (r2 := 0) (r3 := 0) rfl rfl ?_
      refine wr_gi0 (k0 := 1) (x := h3 1 4) (nx := 47) (r1 := 1) (r2 := 4) (r3 := 0) rfl rfl (by decide) rfl ⟨rfl, rfl⟩ rfl rfl ?_
      refine wr_ba (k0 := 2) (a := h3 1 4) (f := i12) (x := h 2 i12) (nx := 48) (r1 := 0) (r2 := 0) (r3 := 0) rfl (by decide) rfl (by decide) (by omega) (by omega) (by decide) ((u3 2 i12 (fn_a (by omega) (fn_a (by omega) fn_0))).trans (u1 2 i12 (fn_a (by omega) fn_0))) ?_
      refine wi_bipush (n := 48) (nx := 50) (r1 := 0) (r2 := 0) (r3 := 0) rfl (by decide) ?_
      refine wr_sub (nx := 51) (r1 := 0) (r2 := 0) (r3 := 0) rfl (fun e20 (fe20 : e20 = (h 2 i12) - 48) => ?_)
      refine wr_addW (nx := 52) (r1 := 0) (r2 := 0) (r3 := 0) rfl (fun e21 (fe21 : -2147483648 ≤ e21 ∧ e21 ≤ 2147483647) => ?_)
      refine wr_pf0 (k0 := 1) (x := e21) (bl := -2147483648) (bh := 2147483647) (nx := 55) (r1 := 1) (r2 := 7) (r3 := 0) rfl (by decide) rfl ⟨rfl, rfl⟩ rfl rfl g3 rfl (by omega) (fun h22 g22 w22 u22 => ?_)
      have F23 := F8.then rfl u22
      have F24 := u3.then rfl u22
      refine wi_aload_n (i := 0) (x := 1) (nx := 56) (r1 := 0) (r2 := 0) (r3 := 0) rfl rfl ?_
      refine wi_dup (nx := 57) (r1 := 0) (r2 := 0) (r3 := 0) rfl rfl ?_
      refine wr_gi0 (k0 := 1) (x := h3 1 4) (nx := 60) (r1 := 1) (r2 := 4) (r3 := 0) rfl rfl (by decide) rfl ⟨rfl, rfl⟩ rfl (u22 1 4 rfl) ?_
      refine wi_iconst (n := 1) (nx := 61) (r1 := 0) (r2 := 0) (r3 := 0) rfl ?_
      refine wr_add (nx := 62) (r1 := 0) (r2 := 0) (r3 := 0) rfl (fun e25 (fe25 : e25 = (h3 1 4) + 1) => ?_)
      refine wr_pf0 (k0 := 1) (x := e25) (bl := 0) (bh := 800) (nx := 65) (r1 := 1) (r2 := 4) (r3 := 0) rfl (by decide) rfl ⟨rfl, rfl⟩ rfl rfl g22 rfl (by omega) (fun h26 g26 w26 u26 => ?_)
      have F27 := F23.then rfl u26
      have F28 := F24.then rfl u26
      refine wi_goto (nx := 68) (r1 := 5) (r2 := 0) (r3 := 0) rfl ?_
      have e29 : h26 1 1 = h 1 1 := ((u26 1 1 rfl).trans ((u22 1 1 rfl).trans ((u3 1 1 rfl).trans (u1 1 1 rfl))))
      have e30 : h26 1 4 = e25 := w26
      exact I3 h26 ⟨g26, F27, F28, trivial⟩ (show ((h26 1 1) - (h26 1 4)).toNat < ((h3 1 1) - (h3 1 4)).toNat by omega)
-- method 90: Word.spelled(J)LPaintBank$Word;
set_option maxRecDepth 100000 in
set_option maxHeartbeats 100000000 in
theorem ct_90 {L : Nat} {xs : Nat → Int32} {d b c : Nat} {h : hp} {cr : Nat → Nat → Option Nat} {Q : hp_Q} (hcr : CR cr)  (g : GI h) (a0 : Int) (q0_ : -9223372036854775808 ≤ a0 ∧ a0 ≤ 9223372036854775807)  (k : ∀ (z0 : Int), (1 ≤ z0 ∧ z0 ≤ 21) → Q (.inl (some (wv z0))) (hp_w h cr) b c) : wp (md_xa (L, xs)) d 90 (0, [(0, vl a0)], [], hp_w h cr, b, c) Q := by
  have F0 : FR [] h h := FR.refl
  refine wi_iconst (n := 0) (nx := 1) (r1 := 0) (r2 := 0) (r3 := 0) rfl ?_
  refine wi_istore_n (i := 2) (e := 0) (lo2 := [(2, vi 0), (0, vl a0)]) (nx := 2) (r1 := 0) (r2 := 0) (r3 := 0) rfl rfl ?_
  refine wi_iload_n (i := 2) (e := 0) (nx := 3) (r1 := 0) (r2 := 0) (r3 := 0) rfl rfl ?_
  refine wr_gst (v := .ref 1000022) (nx := 6) (r1 := 21) (r2 := 0) (r3 := 0) rfl rfl rfl ?_
  refine wr_xl (k0 := 1000022) (e := 21) (nx := 7) (r1 := 0) (r2 := 0) (r3 := 0) rfl (by decide) rfl rfl ?_
  refine wi_icmp (cd := .ge) (nx := 10) (r1 := 35) (r2 := 0) (r3 := 0) rfl (by omega) (by omega) (fun (q1 : 21 ≤ 0) => by exfalso; omega) (fun (q1 : ¬ (21 ≤ 0)) => ?_)
  refine wr_gst (v := .ref 1000022) (nx := 13) (r1 := 21) (r2 := 0) (r3 := 0) rfl rfl rfl ?_
  refine wi_iload_n (i := 2) (e := 0) (nx := 14) (r1 := 0) (r2 := 0) (r3 := 0) rfl rfl ?_
  refine wr_xa (k0 := 1000022) (a := 0) (f := 0) (v := wv 1) .aaload (Or.inr (Or.inr ⟨rfl, by decide⟩)) (nx := 15) (r1 := 0) (r2 := 0) (r3 := 0) rfl (by decide) rfl rfl (by decide) (by decide) rfl ?_
  refine wr_gx (k0 := mm_XB + (1 : Int).toNat) (v := vl 427071139698) (nx := 18) (r1 := 0) (r2 := 0) (r3 := 1) rfl (by decide) (by decide) rfl ?_
  refine wi_lload_n (i := 0) (e := a0) (nx := 19) (r1 := 0) (r2 := 0) (r3 := 0) rfl rfl ?_
  refine wi_lcmp (a := 427071139698) (e := a0) (nx := 20) (r1 := 0) (r2 := 0) (r3 := 0) rfl (by omega) (by omega) (fun r2 (fr2 : (r2 = -1 ∧ 427071139698 < a0) ∨ (r2 = 0 ∧ 427071139698 = a0) ∨ (r2 = 1 ∧ a0 < 427071139698)) => ?_)
  refine wi_if (cd := .ne) (nx := 23) (r1 := 29) (r2 := 0) (r3 := 0) rfl (by omega) (fun (q3 : r2 ≠ 0) => ?_) (fun (q3 : ¬ (r2 ≠ 0)) => ?_)
  ·
    refine wr_iincL (i := 2) (n := 1) (v := 0) (1) ([(2, vi 1), (0, vl a0)]) (nx := 32) (r1 := 0) (r2 := 0) (r3 := 0) rfl rfl (by decide) rfl ?_
    refine wi_goto (nx := 35) (r1 := 2) (r2 := 0) (r3 := 0) rfl ?_
    refine wi_iload_n (i := 2) (e := 1) (nx := 3) (r1 := 0) (r2 := 0) (r3 := 0) rfl rfl ?_
    refine wr_gst (v := .ref 1000022) (nx := 6) (r1 := 21) (r2 := 0) (r3 := 0) rfl rfl rfl ?_
    refine wr_xl (k0 := 1000022) (e := 21) (nx := 7) (r1 := 0) (r2 := 0) (r3 := 0) rfl (by decide) rfl rfl ?_
    refine wi_icmp (cd := .ge) (nx := 10) (r1 := 35) (r2 := 0) (r3 := 0) rfl (by omega) (by omega) (fun (q4 : 21 ≤ 1) => by exfalso; omega) (fun (q4 : ¬ (21 ≤ 1)) => ?_)
    refine wr_gst (v := .ref 1000022) (nx := 13) (r1 := 21) (r2 := 0) (r3 := 0) rfl rfl rfl ?_
    refine wi_iload_n (i := 2) (e := 1) (nx := 14) (r1 := 0) (r2 := 0) (r3 := 0) rfl rfl ?_
    refine wr_xa (k0 := 1000022) (a := 1) (f := 1) (v := wv 2) .aaload (Or.inr (Or.inr ⟨rfl, by decide⟩)) (nx := 15) (r1 := 0) (r2 := 0) (r3 := 0) rfl (by decide) rfl rfl (by decide) (by decide) rfl ?_
    refine wr_gx (k0 := mm_XB + (2 : Int).toNat) (v := vl 109299962373989) (nx := 18) (r1 := 0) (r2 := 0) (r3 := 1) rfl (by decide) (by decide) rfl ?_
    refine wi_lload_n (i := 0) (e := a0) (nx := 19) (r1 := 0) (r2 := 0) (r3 := 0) rfl rfl ?_
    refine wi_lcmp (a := 109299962373989) (e := a0) (nx := 20) (r1 := 0) (r2 := 0) (r3 := 0) rfl (by omega) (by omega) (fun r5 (fr5 : (r5 = -1 ∧ 109299962373989 < a0) ∨ (r5 = 0 ∧ 109299962373989 = a0) ∨ (r5 = 1 ∧ a0 < 109299962373989)) => ?_)
    refine wi_if (cd := .ne) (nx := 23) (r1 := 29) (r2 := 0) (r3 := 0) rfl (by omega) (fun (q6 : r5 ≠ 0) => ?_) (fun (q6 : ¬ (r5 ≠ 0)) => ?_)
    ·
      refine wr_iincL (i := 2) (n := 1) (v := 1) (2) ([(2, vi 2), (0, vl a0)]) (nx := 32) (r1 := 0) (r2 := 0) (r3 := 0) rfl rfl (by decide) rfl ?_
      refine wi_goto (nx := 35) (r1 := 2) (r2 := 0) (r3 := 0) rfl ?_
      refine wi_iload_n (i := 2) (e := 2) (nx := 3) (r1 := 0) (r2 := 0) (r3 := 0) rfl rfl ?_
      refine wr_gst (v := .ref 1000022) (nx := 6) (r1 := 21) (r2 := 0) (r3 := 0) rfl rfl rfl ?_
      refine wr_xl (k0 := 1000022) (e := 21) (nx := 7) (r1 := 0) (r2 := 0) (r3 := 0) rfl (by decide) rfl rfl ?_
      refine wi_icmp (cd := .ge) (nx := 10) (r1 := 35) (r2 := 0) (r3 := 0) rfl (by omega) (by omega) (fun (q7 : 21 ≤ 2) => by exfalso; omega) (fun (q7 : ¬ (21 ≤ 2)) => ?_)
      refine wr_gst (v := .ref 1000022) (nx := 13) (r1 := 21) (r2 := 0) (r3 := 0) rfl rfl rfl ?_
      refine wi_iload_n (i := 2) (e := 2) (nx := 14) (r1 := 0) (r2 := 0) (r3 := 0) rfl rfl ?_
      refine wr_xa (k0 := 1000022) (a := 2) (f := 2) (v := wv 3) .aaload (Or.inr (Or.inr ⟨rfl, by decide⟩)) (nx := 15) (r1 := 0) (r2 := 0) (r3 := 0) rfl (by decide) rfl rfl (by decide) (by decide) rfl ?_
      refine wr_gx (k0 := mm_XB + (3 : Int).toNat) (v := vl 1818324581) (nx := 18) (r1 := 0) (r2 := 0) (r3 := 1) rfl (by decide) (by decide) rfl ?_
      refine wi_lload_n (i := 0) (e := a0) (nx := 19) (r1 := 0) (r2 := 0) (r3 := 0) rfl rfl ?_
      refine wi_lcmp (a := 1818324581) (e := a0) (nx := 20) (r1 := 0) (r2 := 0) (r3 := 0) rfl (by omega) (by omega) (fun r8 (fr8 : (r8 = -1 ∧ 1818324581 < a0) ∨ (r8 = 0 ∧ 1818324581 = a0) ∨ (r8 = 1 ∧ a0 < 1818324581)) => ?_)
      refine wi_if (cd := .ne) (nx := 23) (r1 := 29) (r2 := 0) (r3 := 0) rfl (by omega) (fun (q9 : r8 ≠ 0) => ?_) (fun (q9 : ¬ (r8 ≠ 0)) => ?_)
      ·
        refine wr_iincL (i := 2) (n := 1) (v := 2) (3) ([(2, vi 3), (0, vl a0)]) (nx := 32) (r1 := 0) (r2 := 0) (r3 := 0) rfl rfl (by decide) rfl ?_
        refine wi_goto (nx := 35) (r1 := 2) (r2 := 0) (r3 := 0) rfl ?_
        refine wi_iload_n (i := 2) (e := 3) (nx := 3) (r1 := 0) (r2 := 0) (r3 := 0) rfl rfl ?_
        refine wr_gst (v := .ref 1000022) (nx := 6) (r1 := 21) (r2 := 0) (r3 := 0) rfl rfl rfl ?_
        refine wr_xl (k0 := 1000022) (e := 21) (nx := 7) (r1 := 0) (r2 := 0) (r3 := 0) rfl (by decide) rfl rfl ?_
        refine wi_icmp (cd := .ge) (nx := 10) (r1 := 35) (r2 := 0) (r3 := 0) rfl (by omega) (by omega) (fun (q10 : 21 ≤ 3) => by exfalso; omega) (fun (q10 : ¬ (21 ≤ 3)) => ?_)
        refine wr_gst (v := .ref 1000022) (nx := 13) (r1 := 21) (r2 := 0) (r3 := 0) rfl rfl rfl ?_
        refine wi_iload_n (i := 2) (e := 3) (nx := 14) (r1 := 0) (r2 := 0) (r3 := 0) rfl rfl ?_
        refine wr_xa (k0 := 1000022) (a := 3) (f := 3) (v := wv 4) .aaload (Or.inr (Or.inr ⟨rfl, by decide⟩)) (nx := 15) (r1 := 0) (r2 := 0) (r3 := 0) rfl (by decide) rfl rfl (by decide) (by decide) rfl ?_
        refine wr_gx (k0 := mm_XB + (4 : Int).toNat) (v := vl 6513010) (nx := 18) (r1 := 0) (r2 := 0) (r3 := 1) rfl (by decide) (by decide) rfl ?_
        refine wi_lload_n (i := 0) (e := a0) (nx := 19) (r1 := 0) (r2 := 0) (r3 := 0) rfl rfl ?_
        refine wi_lcmp (a := 6513010) (e := a0) (nx := 20) (r1 := 0) (r2 := 0) (r3 := 0) rfl (by omega) (by omega) (fun r11 (fr11 : (r11 = -1 ∧ 6513010 < a0) ∨ (r11 = 0 ∧ 6513010 = a0) ∨ (r11 = 1 ∧ a0 < 6513010)) => ?_)
        refine wi_if (cd := .ne) (nx := 23) (r1 := 29) (r2 := 0) (r3 := 0) rfl (by omega) (fun (q12 : r11 ≠ 0) => ?_) (fun (q12 : ¬ (r11 ≠ 0)) => ?_)
        ·
          refine wr_iincL (i := 2) (n := 1) (v := 3) (4) ([(2, vi 4), (0, vl a0)]) (nx := 32) (r1 := 0) (r2 := 0) (r3 := 0) rfl rfl (by decide) rfl ?_
          refine wi_goto (nx := 35) (r1 := 2) (r2 := 0) (r3 := 0) rfl ?_
          refine wi_iload_n (i := 2) (e := 4) (nx := 3) (r1 := 0) (r2 := 0) (r3 := 0) rfl rfl ?_
          refine wr_gst (v := .ref 1000022) (nx := 6) (r1 := 21) (r2 := 0) (r3 := 0) rfl rfl rfl ?_
          refine wr_xl (k0 := 1000022) (e := 21) (nx := 7) (r1 := 0) (r2 := 0) (r3 := 0) rfl (by decide) rfl rfl ?_
          refine wi_icmp (cd := .ge) (nx := 10) (r1 := 35) (r2 := 0) (r3 := 0) rfl (by omega) (by omega) (fun (q13 : 21 ≤ 4) => by exfalso; omega) (fun (q13 : ¬ (21 ≤ 4)) => ?_)
          refine wr_gst (v := .ref 1000022) (nx := 13) (r1 := 21) (r2 := 0) (r3 := 0) rfl rfl rfl ?_
          refine wi_iload_n (i := 2) (e := 4) (nx := 14) (r1 := 0) (r2 := 0) (r3 := 0) rfl rfl ?_
          refine wr_xa (k0 := 1000022) (a := 4) (f := 4) (v := wv 5) .aaload (Or.inr (Or.inr ⟨rfl, by decide⟩)) (nx := 15) (r1 := 0) (r2 := 0) (r3 := 0) rfl (by decide) rfl rfl (by decide) (by decide) rfl ?_
          refine wr_gx (k0 := mm_XB + (5 : Int).toNat) (v := vl 1651467385) (nx := 18) (r1 := 0) (r2 := 0) (r3 := 1) rfl (by decide) (by decide) rfl ?_
          refine wi_lload_n (i := 0) (e := a0) (nx := 19) (r1 := 0) (r2 := 0) (r3 := 0) rfl rfl ?_
          refine wi_lcmp (a := 1651467385) (e := a0) (nx := 20) (r1 := 0) (r2 := 0) (r3 := 0) rfl (by omega) (by omega) (fun r14 (fr14 : (r14 = -1 ∧ 1651467385 < a0) ∨ (r14 = 0 ∧ 1651467385 = a0) ∨ (r14 = 1 ∧ a0 < 1651467385)) => ?_)
          refine wi_if (cd := .ne) (nx := 23) (r1 := 29) (r2 := 0) (r3 := 0) rfl (by omega) (fun (q15 : r14 ≠ 0) => ?_) (fun (q15 : ¬ (r14 ≠ 0)) => ?_)
          ·
            refine wr_iincL (i := 2) (n := 1) (v := 4) (5) ([(2, vi 5), (0, vl a0)]) (nx := 32) (r1 := 0) (r2 := 0) (r3 := 0) rfl rfl (by decide) rfl ?_
            refine wi_goto (nx := 35) (r1 := 2) (r2 := 0) (r3 := 0) rfl ?_
            refine wi_iload_n (i := 2) (e := 5) (nx := 3) (r1 := 0) (r2 := 0) (r3 := 0) rfl rfl ?_
            refine wr_gst (v := .ref 1000022) (nx := 6) (r1 := 21) (r2 := 0) (r3 := 0) rfl rfl rfl ?_
            refine wr_xl (k0 := 1000022) (e := 21) (nx := 7) (r1 := 0) (r2 := 0) (r3 := 0) rfl (by decide) rfl rfl ?_
            refine wi_icmp (cd := .ge) (nx := 10) (r1 := 35) (r2 := 0) (r3 := 0) rfl (by omega) (by omega) (fun (q16 : 21 ≤ 5) => by exfalso; omega) (fun (q16 : ¬ (21 ≤ 5)) => ?_)
            refine wr_gst (v := .ref 1000022) (nx := 13) (r1 := 21) (r2 := 0) (r3 := 0) rfl rfl rfl ?_
            refine wi_iload_n (i := 2) (e := 5) (nx := 14) (r1 := 0) (r2 := 0) (r3 := 0) rfl rfl ?_
            refine wr_xa (k0 := 1000022) (a := 5) (f := 5) (v := wv 6) .aaload (Or.inr (Or.inr ⟨rfl, by decide⟩)) (nx := 15) (r1 := 0) (r2 := 0) (r3 := 0) rfl (by decide) rfl rfl (by decide) (by decide) rfl ?_
            refine wr_gx (k0 := mm_XB + (6 : Int).toNat) (v := vl 6447460) (nx := 18) (r1 := 0) (r2 := 0) (r3 := 1) rfl (by decide) (by decide) rfl ?_
            refine wi_lload_n (i := 0) (e := a0) (nx := 19) (r1 := 0) (r2 := 0) (r3 := 0) rfl rfl ?_
            refine wi_lcmp (a := 6447460) (e := a0) (nx := 20) (r1 := 0) (r2 := 0) (r3 := 0) rfl (by omega) (by omega) (fun r17 (fr17 : (r17 = -1 ∧ 6447460 < a0) ∨ (r17 = 0 ∧ 6447460 = a0) ∨ (r17 = 1 ∧ a0 < 6447460)) => ?_)
            refine wi_if (cd := .ne) (nx := 23) (r1 := 29) (r2 := 0) (r3 := 0) rfl (by omega) (fun (q18 : r17 ≠ 0) => ?_) (fun (q18 : ¬ (r17 ≠ 0)) => ?_)
            ·
              refine wr_iincL (i := 2) (n := 1) (v := 5) (6) ([(2, vi 6), (0, vl a0)]) (nx := 32) (r1 := 0) (r2 := 0) (r3 := 0) rfl rfl (by decide) rfl ?_
              refine wi_goto (nx := 35) (r1 := 2) (r2 := 0) (r3 := 0) rfl ?_
              refine wi_iload_n (i := 2) (e := 6) (nx := 3) (r1 := 0) (r2 := 0) (r3 := 0) rfl rfl ?_
              refine wr_gst (v := .ref 1000022) (nx := 6) (r1 := 21) (r2 := 0) (r3 := 0) rfl rfl rfl ?_
              refine wr_xl (k0 := 1000022) (e := 21) (nx := 7) (r1 := 0) (r2 := 0) (r3 := 0) rfl (by decide) rfl rfl ?_
              refine wi_icmp (cd := .ge) (nx := 10) (r1 := 35) (r2 := 0) (r3 := 0) rfl (by omega) (by omega) (fun (q19 : 21 ≤ 6) => by exfalso; omega) (fun (q19 : ¬ (21 ≤ 6)) => ?_)
              refine wr_gst (v := .ref 1000022) (nx := 13) (r1 := 21) (r2 := 0) (r3 := 0) rfl rfl rfl ?_
              refine wi_iload_n (i := 2) (e := 6) (nx := 14) (r1 := 0) (r2 := 0) (r3 := 0) rfl rfl ?_
              refine wr_xa (k0 := 1000022) (a := 6) (f := 6) (v := wv 7) .aaload (Or.inr (Or.inr ⟨rfl, by decide⟩)) (nx := 15) (r1 := 0) (r2 := 0) (r3 := 0) rfl (by decide) rfl rfl (by decide) (by decide) rfl ?_
              refine wr_gx (k0 := mm_XB + (7 : Int).toNat) (v := vl 131294707347319) (nx := 18) (r1 := 0) (r2 := 0) (r3 := 1) rfl (by decide) (by decide) rfl ?_
              refine wi_lload_n (i := 0) (e := a0) (nx := 19) (r1 := 0) (r2 := 0) (r3 := 0) rfl rfl ?_
              refine wi_lcmp (a := 131294707347319) (e := a0) (nx := 20) (r1 := 0) (r2 := 0) (r3 := 0) rfl (by omega) (by omega) (fun r20 (fr20 : (r20 = -1 ∧ 131294707347319 < a0) ∨ (r20 = 0 ∧ 131294707347319 = a0) ∨ (r20 = 1 ∧ a0 < 131294707347319)) => ?_)
              refine wi_if (cd := .ne) (nx := 23) (r1 := 29) (r2 := 0) (r3 := 0) rfl (by omega) (fun (q21 : r20 ≠ 0) => ?_) (fun (q21 : ¬ (r20 ≠ 0)) => ?_)
              ·
                refine wr_iincL (i := 2) (n := 1) (v := 6) (7) ([(2, vi 7), (0, vl a0)]) (nx := 32) (r1 := 0) (r2 := 0) (r3 := 0) rfl rfl (by decide) rfl ?_
                refine wi_goto (nx := 35) (r1 := 2) (r2 := 0) (r3 := 0) rfl ?_
                refine wi_iload_n (i := 2) (e := 7) (nx := 3) (r1 := 0) (r2 := 0) (r3 := 0) rfl rfl ?_
                refine wr_gst (v := .ref 1000022) (nx := 6) (r1 := 21) (r2 := 0) (r3 := 0) rfl rfl rfl ?_
                refine wr_xl (k0 := 1000022) (e := 21) (nx := 7) (r1 := 0) (r2 := 0) (r3 := 0) rfl (by decide) rfl rfl ?_
                refine wi_icmp (cd := .ge) (nx := 10) (r1 := 35) (r2 := 0) (r3 := 0) rfl (by omega) (by omega) (fun (q22 : 21 ≤ 7) => by exfalso; omega) (fun (q22 : ¬ (21 ≤ 7)) => ?_)
                refine wr_gst (v := .ref 1000022) (nx := 13) (r1 := 21) (r2 := 0) (r3 := 0) rfl rfl rfl ?_
                refine wi_iload_n (i := 2) (e := 7) (nx := 14) (r1 := 0) (r2 := 0) (r3 := 0) rfl rfl ?_
                refine wr_xa (k0 := 1000022) (a := 7) (f := 7) (v := wv 8) .aaload (Or.inr (Or.inr ⟨rfl, by decide⟩)) (nx := 15) (r1 := 0) (r2 := 0) (r3 := 0) rfl (by decide) rfl rfl (by decide) (by decide) rfl ?_
                refine wr_gx (k0 := mm_XB + (8 : Int).toNat) (v := vl 422541812584) (nx := 18) (r1 := 0) (r2 := 0) (r3 := 1) rfl (by decide) (by decide) rfl ?_
                refine wi_lload_n (i := 0) (e := a0) (nx := 19) (r1 := 0) (r2 := 0) (r3 := 0) rfl rfl ?_
                refine wi_lcmp (a := 422541812584) (e := a0) (nx := 20) (r1 := 0) (r2 := 0) (r3 := 0) rfl (by omega) (by omega) (fun r23 (fr23 : (r23 = -1 ∧ 422541812584 < a0) ∨ (r23 = 0 ∧ 422541812584 = a0) ∨ (r23 = 1 ∧ a0 < 422541812584)) => ?_)
                refine wi_if (cd := .ne) (nx := 23) (r1 := 29) (r2 := 0) (r3 := 0) rfl (by omega) (fun (q24 : r23 ≠ 0) => ?_) (fun (q24 : ¬ (r23 ≠ 0)) => ?_)
                ·
                  refine wr_iincL (i := 2) (n := 1) (v := 7) (8) ([(2, vi 8), (0, vl a0)]) (nx := 32) (r1 := 0) (r2 := 0) (r3 := 0) rfl rfl (by decide) rfl ?_
                  refine wi_goto (nx := 35) (r1 := 2) (r2 := 0) (r3 := 0) rfl ?_
                  refine wi_iload_n (i := 2) (e := 8) (nx := 3) (r1 := 0) (r2 := 0) (r3 := 0) rfl rfl ?_
                  refine wr_gst (v := .ref 1000022) (nx := 6) (r1 := 21) (r2 := 0) (r3 := 0) rfl rfl rfl ?_
                  refine wr_xl (k0 := 1000022) (e := 21) (nx := 7) (r1 := 0) (r2 := 0) (r3 := 0) rfl (by decide) rfl rfl ?_
                  refine wi_icmp (cd := .ge) (nx := 10) (r1 := 35) (r2 := 0) (r3 := 0) rfl (by omega) (by omega) (fun (q25 : 21 ≤ 8) => by exfalso; omega) (fun (q25 : ¬ (21 ≤ 8)) => ?_)
                  refine wr_gst (v := .ref 1000022) (nx := 13) (r1 := 21) (r2 := 0) (r3 := 0) rfl rfl rfl ?_
                  refine wi_iload_n (i := 2) (e := 8) (nx := 14) (r1 := 0) (r2 := 0) (r3 := 0) rfl rfl ?_
                  refine wr_xa (k0 := 1000022) (a := 8) (f := 8) (v := wv 9) .aaload (Or.inr (Or.inr ⟨rfl, by decide⟩)) (nx := 15) (r1 := 0) (r2 := 0) (r3 := 0) rfl (by decide) rfl rfl (by decide) (by decide) rfl ?_
                  refine wr_gx (k0 := mm_XB + (9 : Int).toNat) (v := vl 483006768997) (nx := 18) (r1 := 0) (r2 := 0) (r3 := 1) rfl (by decide) (by decide) rfl ?_
                  refine wi_lload_n (i := 0) (e := a0) (nx := 19) (r1 := 0) (r2 := 0) (r3 := 0) rfl rfl ?_
                  refine wi_lcmp (a := 483006768997) (e := a0) (nx := 20) (r1 := 0) (r2 := 0) (r3 := 0) rfl (by omega) (by omega) (fun r26 (fr26 : (r26 = -1 ∧ 483006768997 < a0) ∨ (r26 = 0 ∧ 483006768997 = a0) ∨ (r26 = 1 ∧ a0 < 483006768997)) => ?_)
                  refine wi_if (cd := .ne) (nx := 23) (r1 := 29) (r2 := 0) (r3 := 0) rfl (by omega) (fun (q27 : r26 ≠ 0) => ?_) (fun (q27 : ¬ (r26 ≠ 0)) => ?_)
                  ·
                    refine wr_iincL (i := 2) (n := 1) (v := 8) (9) ([(2, vi 9), (0, vl a0)]) (nx := 32) (r1 := 0) (r2 := 0) (r3 := 0) rfl rfl (by decide) rfl ?_
                    refine wi_goto (nx := 35) (r1 := 2) (r2 := 0) (r3 := 0) rfl ?_
                    refine wi_iload_n (i := 2) (e := 9) (nx := 3) (r1 := 0) (r2 := 0) (r3 := 0) rfl rfl ?_
                    refine wr_gst (v := .ref 1000022) (nx := 6) (r1 := 21) (r2 := 0) (r3 := 0) rfl rfl rfl ?_
                    refine wr_xl (k0 := 1000022) (e := 21) (nx := 7) (r1 := 0) (r2 := 0) (r3 := 0) rfl (by decide) rfl rfl ?_
                    refine wi_icmp (cd := .ge) (nx := 10) (r1 := 35) (r2 := 0) (r3 := 0) rfl (by omega) (by omega) (fun (q28 : 21 ≤ 9) => by exfalso; omega) (fun (q28 : ¬ (21 ≤ 9)) => ?_)
                    refine wr_gst (v := .ref 1000022) (nx := 13) (r1 := 21) (r2 := 0) (r3 := 0) rfl rfl rfl ?_
                    refine wi_iload_n (i := 2) (e := 9) (nx := 14) (r1 := 0) (r2 := 0) (r3 := 0) rfl rfl ?_
                    refine wr_xa (k0 := 1000022) (a := 9) (f := 9) (v := wv 10) .aaload (Or.inr (Or.inr ⟨rfl, by decide⟩)) (nx := 15) (r1 := 0) (r2 := 0) (r3 := 0) rfl (by decide) rfl rfl (by decide) (by decide) rfl ?_
                    refine wr_gx (k0 := mm_XB + (10 : Int).toNat) (v := vl 125780121055851) (nx := 18) (r1 := 0) (r2 := 0) (r3 := 1) rfl (by decide) (by decide) rfl ?_
                    refine wi_lload_n (i := 0) (e := a0) (nx := 19) (r1 := 0) (r2 := 0) (r3 := 0) rfl rfl ?_
                    refine wi_lcmp (a := 125780121055851) (e := a0) (nx := 20) (r1 := 0) (r2 := 0) (r3 := 0) rfl (by omega) (by omega) (fun r29 (fr29 : (r29 = -1 ∧ 125780121055851 < a0) ∨ (r29 = 0 ∧ 125780121055851 = a0) ∨ (r29 = 1 ∧ a0 < 125780121055851)) => ?_)
                    refine wi_if (cd := .ne) (nx := 23) (r1 := 29) (r2 := 0) (r3 := 0) rfl (by omega) (fun (q30 : r29 ≠ 0) => ?_) (fun (q30 : ¬ (r29 ≠ 0)) => ?_)
                    ·
                      refine wr_iincL (i := 2) (n := 1) (v := 9) (10) ([(2, vi 10), (0, vl a0)]) (nx := 32) (r1 := 0) (r2 := 0) (r3 := 0) rfl rfl (by decide) rfl ?_
                      refine wi_goto (nx := 35) (r1 := 2) (r2 := 0) (r3 := 0) rfl ?_
                      refine wi_iload_n (i := 2) (e := 10) (nx := 3) (r1 := 0) (r2 := 0) (r3 := 0) rfl rfl ?_
                      refine wr_gst (v := .ref 1000022) (nx := 6) (r1 := 21) (r2 := 0) (r3 := 0) rfl rfl rfl ?_
                      refine wr_xl (k0 := 1000022) (e := 21) (nx := 7) (r1 := 0) (r2 := 0) (r3 := 0) rfl (by decide) rfl rfl ?_
                      refine wi_icmp (cd := .ge) (nx := 10) (r1 := 35) (r2 := 0) (r3 := 0) rfl (by omega) (by omega) (fun (q31 : 21 ≤ 10) => by exfalso; omega) (fun (q31 : ¬ (21 ≤ 10)) => ?_)
                      refine wr_gst (v := .ref 1000022) (nx := 13) (r1 := 21) (r2 := 0) (r3 := 0) rfl rfl rfl ?_
                      refine wi_iload_n (i := 2) (e := 10) (nx := 14) (r1 := 0) (r2 := 0) (r3 := 0) rfl rfl ?_
                      refine wr_xa (k0 := 1000022) (a := 10) (f := 10) (v := wv 11) .aaload (Or.inr (Or.inr ⟨rfl, by decide⟩)) (nx := 15) (r1 := 0) (r2 := 0) (r3 := 0) rfl (by decide) rfl rfl (by decide) (by decide) rfl ?_
                      refine wr_gx (k0 := mm_XB + (11 : Int).toNat) (v := vl 431198331257) (nx := 18) (r1 := 0) (r2 := 0) (r3 := 1) rfl (by decide) (by decide) rfl ?_
                      refine wi_lload_n (i := 0) (e := a0) (nx := 19) (r1 := 0) (r2 := 0) (r3 := 0) rfl rfl ?_
                      refine wi_lcmp (a := 431198331257) (e := a0) (nx := 20) (r1 := 0) (r2 := 0) (r3 := 0) rfl (by omega) (by omega) (fun r32 (fr32 : (r32 = -1 ∧ 431198331257 < a0) ∨ (r32 = 0 ∧ 431198331257 = a0) ∨ (r32 = 1 ∧ a0 < 431198331257)) => ?_)
                      refine wi_if (cd := .ne) (nx := 23) (r1 := 29) (r2 := 0) (r3 := 0) rfl (by omega) (fun (q33 : r32 ≠ 0) => ?_) (fun (q33 : ¬ (r32 ≠ 0)) => ?_)
                      ·
                        refine wr_iincL (i := 2) (n := 1) (v := 10) (11) ([(2, vi 11), (0, vl a0)]) (nx := 32) (r1 := 0) (r2 := 0) (r3 := 0) rfl rfl (by decide) rfl ?_
                        refine wi_goto (nx := 35) (r1 := 2) (r2 := 0) (r3 := 0) rfl ?_
                        refine wi_iload_n (i := 2) (e := 11) (nx := 3) (r1 := 0) (r2 := 0) (r3 := 0) rfl rfl ?_
                        refine wr_gst (v := .ref 1000022) (nx := 6) (r1 := 21) (r2 := 0) (r3 := 0) rfl rfl rfl ?_
                        refine wr_xl (k0 := 1000022) (e := 21) (nx := 7) (r1 := 0) (r2 := 0) (r3 := 0) rfl (by decide) rfl rfl ?_
                        refine wi_icmp (cd := .ge) (nx := 10) (r1 := 35) (r2 := 0) (r3 := 0) rfl (by omega) (by omega) (fun (q34 : 21 ≤ 11) => by exfalso; omega) (fun (q34 : ¬ (21 ≤ 11)) => ?_)
                        refine wr_gst (v := .ref 1000022) (nx := 13) (r1 := 21) (r2 := 0) (r3 := 0) rfl rfl rfl ?_
                        refine wi_iload_n (i := 2) (e := 11) (nx := 14) (r1 := 0) (r2 := 0) (r3 := 0) rfl rfl ?_
                        refine wr_xa (k0 := 1000022) (a := 11) (f := 11) (v := wv 12) .aaload (Or.inr (Or.inr ⟨rfl, by decide⟩)) (nx := 15) (r1 := 0) (r2 := 0) (r3 := 0) rfl (by decide) rfl rfl (by decide) (by decide) rfl ?_
                        refine wr_gx (k0 := mm_XB + (12 : Int).toNat) (v := vl 1936744814) (nx := 18) (r1 := 0) (r2 := 0) (r3 := 1) rfl (by decide) (by decide) rfl ?_
                        refine wi_lload_n (i := 0) (e := a0) (nx := 19) (r1 := 0) (r2 := 0) (r3 := 0) rfl rfl ?_
                        refine wi_lcmp (a := 1936744814) (e := a0) (nx := 20) (r1 := 0) (r2 := 0) (r3 := 0) rfl (by omega) (by omega) (fun r35 (fr35 : (r35 = -1 ∧ 1936744814 < a0) ∨ (r35 = 0 ∧ 1936744814 = a0) ∨ (r35 = 1 ∧ a0 < 1936744814)) => ?_)
                        refine wi_if (cd := .ne) (nx := 23) (r1 := 29) (r2 := 0) (r3 := 0) rfl (by omega) (fun (q36 : r35 ≠ 0) => ?_) (fun (q36 : ¬ (r35 ≠ 0)) => ?_)
                        ·
                          refine wr_iincL (i := 2) (n := 1) (v := 11) (12) ([(2, vi 12), (0, vl a0)]) (nx := 32) (r1 := 0) (r2 := 0) (r3 := 0) rfl rfl (by decide) rfl ?_
                          refine wi_goto (nx := 35) (r1 := 2) (r2 := 0) (r3 := 0) rfl ?_
                          refine wi_iload_n (i := 2) (e := 12) (nx := 3) (r1 := 0) (r2 := 0) (r3 := 0) rfl rfl ?_
                          refine wr_gst (v := .ref 1000022) (nx := 6) (r1 := 21) (r2 := 0) (r3 := 0) rfl rfl rfl ?_
                          refine wr_xl (k0 := 1000022) (e := 21) (nx := 7) (r1 := 0) (r2 := 0) (r3 := 0) rfl (by decide) rfl rfl ?_
                          refine wi_icmp (cd := .ge) (nx := 10) (r1 := 35) (r2 := 0) (r3 := 0) rfl (by omega) (by omega) (fun (q37 : 21 ≤ 12) => by exfalso; omega) (fun (q37 : ¬ (21 ≤ 12)) => ?_)
                          refine wr_gst (v := .ref 1000022) (nx := 13) (r1 := 21) (r2 := 0) (r3 := 0) rfl rfl rfl ?_
                          refine wi_iload_n (i := 2) (e := 12) (nx := 14) (r1 := 0) (r2 := 0) (r3 := 0) rfl rfl ?_
                          refine wr_xa (k0 := 1000022) (a := 12) (f := 12) (v := wv 13) .aaload (Or.inr (Or.inr ⟨rfl, by decide⟩)) (nx := 15) (r1 := 0) (r2 := 0) (r3 := 0) rfl (by decide) rfl rfl (by decide) (by decide) rfl ?_
                          refine wr_gx (k0 := mm_XB + (13 : Int).toNat) (v := vl 435644818802) (nx := 18) (r1 := 0) (r2 := 0) (r3 := 1) rfl (by decide) (by decide) rfl ?_
                          refine wi_lload_n (i := 0) (e := a0) (nx := 19) (r1 := 0) (r2 := 0) (r3 := 0) rfl rfl ?_
                          refine wi_lcmp (a := 435644818802) (e := a0) (nx := 20) (r1 := 0) (r2 := 0) (r3 := 0) rfl (by omega) (by omega) (fun r38 (fr38 : (r38 = -1 ∧ 435644818802 < a0) ∨ (r38 = 0 ∧ 435644818802 = a0) ∨ (r38 = 1 ∧ a0 < 435644818802)) => ?_)
                          refine wi_if (cd := .ne) (nx := 23) (r1 := 29) (r2 := 0) (r3 := 0) rfl (by omega) (fun (q39 : r38 ≠ 0) => ?_) (fun (q39 : ¬ (r38 ≠ 0)) => ?_)
                          ·
                            refine wr_iincL (i := 2) (n := 1) (v := 12) (13) ([(2, vi 13), (0, vl a0)]) (nx := 32) (r1 := 0) (r2 := 0) (r3 := 0) rfl rfl (by decide) rfl ?_
                            refine wi_goto (nx := 35) (r1 := 2) (r2 := 0) (r3 := 0) rfl ?_
                            refine wi_iload_n (i := 2) (e := 13) (nx := 3) (r1 := 0) (r2 := 0) (r3 := 0) rfl rfl ?_
                            refine wr_gst (v := .ref 1000022) (nx := 6) (r1 := 21) (r2 := 0) (r3 := 0) rfl rfl rfl ?_
                            refine wr_xl (k0 := 1000022) (e := 21) (nx := 7) (r1 := 0) (r2 := 0) (r3 := 0) rfl (by decide) rfl rfl ?_
                            refine wi_icmp (cd := .ge) (nx := 10) (r1 := 35) (r2 := 0) (r3 := 0) rfl (by omega) (by omega) (fun (q40 : 21 ≤ 13) => by exfalso; omega) (fun (q40 : ¬ (21 ≤ 13)) => ?_)
                            refine wr_gst (v := .ref 1000022) (nx := 13) (r1 := 21) (r2 := 0) (r3 := 0) rfl rfl rfl ?_
                            refine wi_iload_n (i := 2) (e := 13) (nx := 14) (r1 := 0) (r2 := 0) (r3 := 0) rfl rfl ?_
                            refine wr_xa (k0 := 1000022) (a := 13) (f := 13) (v := wv 14) .aaload (Or.inr (Or.inr ⟨rfl, by decide⟩)) (nx := 15) (r1 := 0) (r2 := 0) (r3 := 0) rfl (by decide) rfl rfl (by decide) (by decide) rfl ?_
                            refine wr_gx (k0 := mm_XB + (14 : Int).toNat) (v := vl 465557354085) (nx := 18) (r1 := 0) (r2 := 0) (r3 := 1) rfl (by decide) (by decide) rfl ?_
                            refine wi_lload_n (i := 0) (e := a0) (nx := 19) (r1 := 0) (r2 := 0) (r3 := 0) rfl rfl ?_
                            refine wi_lcmp (a := 465557354085) (e := a0) (nx := 20) (r1 := 0) (r2 := 0) (r3 := 0) rfl (by omega) (by omega) (fun r41 (fr41 : (r41 = -1 ∧ 465557354085 < a0) ∨ (r41 = 0 ∧ 465557354085 = a0) ∨ (r41 = 1 ∧ a0 < 465557354085)) => ?_)
                            refine wi_if (cd := .ne) (nx := 23) (r1 := 29) (r2 := 0) (r3 := 0) rfl (by omega) (fun (q42 : r41 ≠ 0) => ?_) (fun (q42 : ¬ (r41 ≠ 0)) => ?_)
                            ·
                              refine wr_iincL (i := 2) (n := 1) (v := 13) (14) ([(2, vi 14), (0, vl a0)]) (nx := 32) (r1 := 0) (r2 := 0) (r3 := 0) rfl rfl (by decide) rfl ?_
                              refine wi_goto (nx := 35) (r1 := 2) (r2 := 0) (r3 := 0) rfl ?_
                              refine wi_iload_n (i := 2) (e := 14) (nx := 3) (r1 := 0) (r2 := 0) (r3 := 0) rfl rfl ?_
                              refine wr_gst (v := .ref 1000022) (nx := 6) (r1 := 21) (r2 := 0) (r3 := 0) rfl rfl rfl ?_
                              refine wr_xl (k0 := 1000022) (e := 21) (nx := 7) (r1 := 0) (r2 := 0) (r3 := 0) rfl (by decide) rfl rfl ?_
                              refine wi_icmp (cd := .ge) (nx := 10) (r1 := 35) (r2 := 0) (r3 := 0) rfl (by omega) (by omega) (fun (q43 : 21 ≤ 14) => by exfalso; omega) (fun (q43 : ¬ (21 ≤ 14)) => ?_)
                              refine wr_gst (v := .ref 1000022) (nx := 13) (r1 := 21) (r2 := 0) (r3 := 0) rfl rfl rfl ?_
                              refine wi_iload_n (i := 2) (e := 14) (nx := 14) (r1 := 0) (r2 := 0) (r3 := 0) rfl rfl ?_
                              refine wr_xa (k0 := 1000022) (a := 14) (f := 14) (v := wv 15) .aaload (Or.inr (Or.inr ⟨rfl, by decide⟩)) (nx := 15) (r1 := 0) (r2 := 0) (r3 := 0) rfl (by decide) rfl rfl (by decide) (by decide) rfl ?_
                              refine wr_gx (k0 := mm_XB + (15 : Int).toNat) (v := vl 1650549611) (nx := 18) (r1 := 0) (r2 := 0) (r3 := 1) rfl (by decide) (by decide) rfl ?_
                              refine wi_lload_n (i := 0) (e := a0) (nx := 19) (r1 := 0) (r2 := 0) (r3 := 0) rfl rfl ?_
                              refine wi_lcmp (a := 1650549611) (e := a0) (nx := 20) (r1 := 0) (r2 := 0) (r3 := 0) rfl (by omega) (by omega) (fun r44 (fr44 : (r44 = -1 ∧ 1650549611 < a0) ∨ (r44 = 0 ∧ 1650549611 = a0) ∨ (r44 = 1 ∧ a0 < 1650549611)) => ?_)
                              refine wi_if (cd := .ne) (nx := 23) (r1 := 29) (r2 := 0) (r3 := 0) rfl (by omega) (fun (q45 : r44 ≠ 0) => ?_) (fun (q45 : ¬ (r44 ≠ 0)) => ?_)
                              ·
                                refine wr_iincL (i := 2) (n := 1) (v := 14) (15) ([(2, vi 15), (0, vl a0)]) (nx := 32) (r1 := 0) (r2 := 0) (r3 := 0) rfl rfl (by decide) rfl ?_
                                refine wi_goto (nx := 35) (r1 := 2) (r2 := 0) (r3 := 0) rfl ?_
                                refine wi_iload_n (i := 2) (e := 15) (nx := 3) (r1 := 0) (r2 := 0) (r3 := 0) rfl rfl ?_
                                refine wr_gst (v := .ref 1000022) (nx := 6) (r1 := 21) (r2 := 0) (r3 := 0) rfl rfl rfl ?_
                                refine wr_xl (k0 := 1000022) (e := 21) (nx := 7) (r1 := 0) (r2 := 0) (r3 := 0) rfl (by decide) rfl rfl ?_
                                refine wi_icmp (cd := .ge) (nx := 10) (r1 := 35) (r2 := 0) (r3 := 0) rfl (by omega) (by omega) (fun (q46 : 21 ≤ 15) => by exfalso; omega) (fun (q46 : ¬ (21 ≤ 15)) => ?_)
                                refine wr_gst (v := .ref 1000022) (nx := 13) (r1 := 21) (r2 := 0) (r3 := 0) rfl rfl rfl ?_
                                refine wi_iload_n (i := 2) (e := 15) (nx := 14) (r1 := 0) (r2 := 0) (r3 := 0) rfl rfl ?_
                                refine wr_xa (k0 := 1000022) (a := 15) (f := 15) (v := wv 16) .aaload (Or.inr (Or.inr ⟨rfl, by decide⟩)) (nx := 15) (r1 := 0) (r2 := 0) (r3 := 0) rfl (by decide) rfl rfl (by decide) (by decide) rfl ?_
                                refine wr_gx (k0 := mm_XB + (16 : Int).toNat) (v := vl 2002872692) (nx := 18) (r1 := 0) (r2 := 0) (r3 := 1) rfl (by decide) (by decide) rfl ?_
                                refine wi_lload_n (i := 0) (e := a0) (nx := 19) (r1 := 0) (r2 := 0) (r3 := 0) rfl rfl ?_
                                refine wi_lcmp (a := 2002872692) (e := a0) (nx := 20) (r1 := 0) (r2 := 0) (r3 := 0) rfl (by omega) (by omega) (fun r47 (fr47 : (r47 = -1 ∧ 2002872692 < a0) ∨ (r47 = 0 ∧ 2002872692 = a0) ∨ (r47 = 1 ∧ a0 < 2002872692)) => ?_)
                                refine wi_if (cd := .ne) (nx := 23) (r1 := 29) (r2 := 0) (r3 := 0) rfl (by omega) (fun (q48 : r47 ≠ 0) => ?_) (fun (q48 : ¬ (r47 ≠ 0)) => ?_)
                                ·
                                  refine wr_iincL (i := 2) (n := 1) (v := 15) (16) ([(2, vi 16), (0, vl a0)]) (nx := 32) (r1 := 0) (r2 := 0) (r3 := 0) rfl rfl (by decide) rfl ?_
                                  refine wi_goto (nx := 35) (r1 := 2) (r2 := 0) (r3 := 0) rfl ?_
                                  refine wi_iload_n (i := 2) (e := 16) (nx := 3) (r1 := 0) (r2 := 0) (r3 := 0) rfl rfl ?_
                                  refine wr_gst (v := .ref 1000022) (nx := 6) (r1 := 21) (r2 := 0) (r3 := 0) rfl rfl rfl ?_
                                  refine wr_xl (k0 := 1000022) (e := 21) (nx := 7) (r1 := 0) (r2 := 0) (r3 := 0) rfl (by decide) rfl rfl ?_
                                  refine wi_icmp (cd := .ge) (nx := 10) (r1 := 35) (r2 := 0) (r3 := 0) rfl (by omega) (by omega) (fun (q49 : 21 ≤ 16) => by exfalso; omega) (fun (q49 : ¬ (21 ≤ 16)) => ?_)
                                  refine wr_gst (v := .ref 1000022) (nx := 13) (r1 := 21) (r2 := 0) (r3 := 0) rfl rfl rfl ?_
                                  refine wi_iload_n (i := 2) (e := 16) (nx := 14) (r1 := 0) (r2 := 0) (r3 := 0) rfl rfl ?_
                                  refine wr_xa (k0 := 1000022) (a := 16) (f := 16) (v := wv 17) .aaload (Or.inr (Or.inr ⟨rfl, by decide⟩)) (nx := 15) (r1 := 0) (r2 := 0) (r3 := 0) rfl (by decide) rfl rfl (by decide) (by decide) rfl ?_
                                  refine wr_gx (k0 := mm_XB + (17 : Int).toNat) (v := vl 1937007984) (nx := 18) (r1 := 0) (r2 := 0) (r3 := 1) rfl (by decide) (by decide) rfl ?_
                                  refine wi_lload_n (i := 0) (e := a0) (nx := 19) (r1 := 0) (r2 := 0) (r3 := 0) rfl rfl ?_
                                  refine wi_lcmp (a := 1937007984) (e := a0) (nx := 20) (r1 := 0) (r2 := 0) (r3 := 0) rfl (by omega) (by omega) (fun r50 (fr50 : (r50 = -1 ∧ 1937007984 < a0) ∨ (r50 = 0 ∧ 1937007984 = a0) ∨ (r50 = 1 ∧ a0 < 1937007984)) => ?_)
                                  refine wi_if (cd := .ne) (nx := 23) (r1 := 29) (r2 := 0) (r3 := 0) rfl (by omega) (fun (q51 : r50 ≠ 0) => ?_) (fun (q51 : ¬ (r50 ≠ 0)) => ?_)
                                  ·
                                    refine wr_iincL (i := 2) (n := 1) (v := 16) (17) ([(2, vi 17), (0, vl a0)]) (nx := 32) (r1 := 0) (r2 := 0) (r3 := 0) rfl rfl (by decide) rfl ?_
                                    refine wi_goto (nx := 35) (r1 := 2) (r2 := 0) (r3 := 0) rfl ?_
                                    refine wi_iload_n (i := 2) (e := 17) (nx := 3) (r1 := 0) (r2 := 0) (r3 := 0) rfl rfl ?_
                                    refine wr_gst (v := .ref 1000022) (nx := 6) (r1 := 21) (r2 := 0) (r3 := 0) rfl rfl rfl ?_
                                    refine wr_xl (k0 := 1000022) (e := 21) (nx := 7) (r1 := 0) (r2 := 0) (r3 := 0) rfl (by decide) rfl rfl ?_
                                    refine wi_icmp (cd := .ge) (nx := 10) (r1 := 35) (r2 := 0) (r3 := 0) rfl (by omega) (by omega) (fun (q52 : 21 ≤ 17) => by exfalso; omega) (fun (q52 : ¬ (21 ≤ 17)) => ?_)
                                    refine wr_gst (v := .ref 1000022) (nx := 13) (r1 := 21) (r2 := 0) (r3 := 0) rfl rfl rfl ?_
                                    refine wi_iload_n (i := 2) (e := 17) (nx := 14) (r1 := 0) (r2 := 0) (r3 := 0) rfl rfl ?_
                                    refine wr_xa (k0 := 1000022) (a := 17) (f := 17) (v := wv 18) .aaload (Or.inr (Or.inr ⟨rfl, by decide⟩)) (nx := 15) (r1 := 0) (r2 := 0) (r3 := 0) rfl (by decide) rfl rfl (by decide) (by decide) rfl ?_
                                    refine wr_gx (k0 := mm_XB + (18 : Int).toNat) (v := vl 129117126091108) (nx := 18) (r1 := 0) (r2 := 0) (r3 := 1) rfl (by decide) (by decide) rfl ?_
                                    refine wi_lload_n (i := 0) (e := a0) (nx := 19) (r1 := 0) (r2 := 0) (r3 := 0) rfl rfl ?_
                                    refine wi_lcmp (a := 129117126091108) (e := a0) (nx := 20) (r1 := 0) (r2 := 0) (r3 := 0) rfl (by omega) (by omega) (fun r53 (fr53 : (r53 = -1 ∧ 129117126091108 < a0) ∨ (r53 = 0 ∧ 129117126091108 = a0) ∨ (r53 = 1 ∧ a0 < 129117126091108)) => ?_)
                                    refine wi_if (cd := .ne) (nx := 23) (r1 := 29) (r2 := 0) (r3 := 0) rfl (by omega) (fun (q54 : r53 ≠ 0) => ?_) (fun (q54 : ¬ (r53 ≠ 0)) => ?_)
                                    ·
                                      refine wr_iincL (i := 2) (n := 1) (v := 17) (18) ([(2, vi 18), (0, vl a0)]) (nx := 32) (r1 := 0) (r2 := 0) (r3 := 0) rfl rfl (by decide) rfl ?_
                                      refine wi_goto (nx := 35) (r1 := 2) (r2 := 0) (r3 := 0) rfl ?_
                                      refine wi_iload_n (i := 2) (e := 18) (nx := 3) (r1 := 0) (r2 := 0) (r3 := 0) rfl rfl ?_
                                      refine wr_gst (v := .ref 1000022) (nx := 6) (r1 := 21) (r2 := 0) (r3 := 0) rfl rfl rfl ?_
                                      refine wr_xl (k0 := 1000022) (e := 21) (nx := 7) (r1 := 0) (r2 := 0) (r3 := 0) rfl (by decide) rfl rfl ?_
                                      refine wi_icmp (cd := .ge) (nx := 10) (r1 := 35) (r2 := 0) (r3 := 0) rfl (by omega) (by omega) (fun (q55 : 21 ≤ 18) => by exfalso; omega) (fun (q55 : ¬ (21 ≤ 18)) => ?_)
                                      refine wr_gst (v := .ref 1000022) (nx := 13) (r1 := 21) (r2 := 0) (r3 := 0) rfl rfl rfl ?_
                                      refine wi_iload_n (i := 2) (e := 18) (nx := 14) (r1 := 0) (r2 := 0) (r3 := 0) rfl rfl ?_
                                      refine wr_xa (k0 := 1000022) (a := 18) (f := 18) (v := wv 19) .aaload (Or.inr (Or.inr ⟨rfl, by decide⟩)) (nx := 15) (r1 := 0) (r2 := 0) (r3 := 0) rfl (by decide) rfl rfl (by decide) (by decide) rfl ?_
                                      refine wr_gx (k0 := mm_XB + (19 : Int).toNat) (v := vl 1937203568) (nx := 18) (r1 := 0) (r2 := 0) (r3 := 1) rfl (by decide) (by decide) rfl ?_
                                      refine wi_lload_n (i := 0) (e := a0) (nx := 19) (r1 := 0) (r2 := 0) (r3 := 0) rfl rfl ?_
                                      refine wi_lcmp (a := 1937203568) (e := a0) (nx := 20) (r1 := 0) (r2 := 0) (r3 := 0) rfl (by omega) (by omega) (fun r56 (fr56 : (r56 = -1 ∧ 1937203568 < a0) ∨ (r56 = 0 ∧ 1937203568 = a0) ∨ (r56 = 1 ∧ a0 < 1937203568)) => ?_)
                                      refine wi_if (cd := .ne) (nx := 23) (r1 := 29) (r2 := 0) (r3 := 0) rfl (by omega) (fun (q57 : r56 ≠ 0) => ?_) (fun (q57 : ¬ (r56 ≠ 0)) => ?_)
                                      ·
                                        refine wr_iincL (i := 2) (n := 1) (v := 18) (19) ([(2, vi 19), (0, vl a0)]) (nx := 32) (r1 := 0) (r2 := 0) (r3 := 0) rfl rfl (by decide) rfl ?_
                                        refine wi_goto (nx := 35) (r1 := 2) (r2 := 0) (r3 := 0) rfl ?_
                                        refine wi_iload_n (i := 2) (e := 19) (nx := 3) (r1 := 0) (r2 := 0) (r3 := 0) rfl rfl ?_
                                        refine wr_gst (v := .ref 1000022) (nx := 6) (r1 := 21) (r2 := 0) (r3 := 0) rfl rfl rfl ?_
                                        refine wr_xl (k0 := 1000022) (e := 21) (nx := 7) (r1 := 0) (r2 := 0) (r3 := 0) rfl (by decide) rfl rfl ?_
                                        refine wi_icmp (cd := .ge) (nx := 10) (r1 := 35) (r2 := 0) (r3 := 0) rfl (by omega) (by omega) (fun (q58 : 21 ≤ 19) => by exfalso; omega) (fun (q58 : ¬ (21 ≤ 19)) => ?_)
                                        refine wr_gst (v := .ref 1000022) (nx := 13) (r1 := 21) (r2 := 0) (r3 := 0) rfl rfl rfl ?_
                                        refine wi_iload_n (i := 2) (e := 19) (nx := 14) (r1 := 0) (r2 := 0) (r3 := 0) rfl rfl ?_
                                        refine wr_xa (k0 := 1000022) (a := 19) (f := 19) (v := wv 20) .aaload (Or.inr (Or.inr ⟨rfl, by decide⟩)) (nx := 15) (r1 := 0) (r2 := 0) (r3 := 0) rfl (by decide) rfl rfl (by decide) (by decide) rfl ?_
                                        refine wr_gx (k0 := mm_XB + (20 : Int).toNat) (v := vl 125780002955636) (nx := 18) (r1 := 0) (r2 := 0) (r3 := 1) rfl (by decide) (by decide) rfl ?_
                                        refine wi_lload_n (i := 0) (e := a0) (nx := 19) (r1 := 0) (r2 := 0) (r3 := 0) rfl rfl ?_
                                        refine wi_lcmp (a := 125780002955636) (e := a0) (nx := 20) (r1 := 0) (r2 := 0) (r3 := 0) rfl (by omega) (by omega) (fun r59 (fr59 : (r59 = -1 ∧ 125780002955636 < a0) ∨ (r59 = 0 ∧ 125780002955636 = a0) ∨ (r59 = 1 ∧ a0 < 125780002955636)) => ?_)
                                        refine wi_if (cd := .ne) (nx := 23) (r1 := 29) (r2 := 0) (r3 := 0) rfl (by omega) (fun (q60 : r59 ≠ 0) => ?_) (fun (q60 : ¬ (r59 ≠ 0)) => ?_)
                                        ·
                                          refine wr_iincL (i := 2) (n := 1) (v := 19) (20) ([(2, vi 20), (0, vl a0)]) (nx := 32) (r1 := 0) (r2 := 0) (r3 := 0) rfl rfl (by decide) rfl ?_
                                          refine wi_goto (nx := 35) (r1 := 2) (r2 := 0) (r3 := 0) rfl ?_
                                          refine wi_iload_n (i := 2) (e := 20) (nx := 3) (r1 := 0) (r2 := 0) (r3 := 0) rfl rfl ?_
                                          refine wr_gst (v := .ref 1000022) (nx := 6) (r1 := 21) (r2 := 0) (r3 := 0) rfl rfl rfl ?_
                                          refine wr_xl (k0 := 1000022) (e := 21) (nx := 7) (r1 := 0) (r2 := 0) (r3 := 0) rfl (by decide) rfl rfl ?_
                                          refine wi_icmp (cd := .ge) (nx := 10) (r1 := 35) (r2 := 0) (r3 := 0) rfl (by omega) (by omega) (fun (q61 : 21 ≤ 20) => by exfalso; omega) (fun (q61 : ¬ (21 ≤ 20)) => ?_)
                                          refine wr_gst (v := .ref 1000022) (nx := 13) (r1 := 21) (r2 := 0) (r3 := 0) rfl rfl rfl ?_
                                          refine wi_iload_n (i := 2) (e := 20) (nx := 14) (r1 := 0) (r2 := 0) (r3 := 0) rfl rfl ?_
                                          refine wr_xa (k0 := 1000022) (a := 20) (f := 20) (v := wv 21) .aaload (Or.inr (Or.inr ⟨rfl, by decide⟩)) (nx := 15) (r1 := 0) (r2 := 0) (r3 := 0) rfl (by decide) rfl rfl (by decide) (by decide) rfl ?_
                                          refine wr_gx (k0 := mm_XB + (21 : Int).toNat) (v := vl 0) (nx := 18) (r1 := 0) (r2 := 0) (r3 := 1) rfl (by decide) (by decide) rfl ?_
                                          refine wi_lload_n (i := 0) (e := a0) (nx := 19) (r1 := 0) (r2 := 0) (r3 := 0) rfl rfl ?_
                                          refine wi_lcmp (a := 0) (e := a0) (nx := 20) (r1 := 0) (r2 := 0) (r3 := 0) rfl (by omega) (by omega) (fun r62 (fr62 : (r62 = -1 ∧ 0 < a0) ∨ (r62 = 0 ∧ 0 = a0) ∨ (r62 = 1 ∧ a0 < 0)) => ?_)
                                          refine wi_if (cd := .ne) (nx := 23) (r1 := 29) (r2 := 0) (r3 := 0) rfl (by omega) (fun (q63 : r62 ≠ 0) => ?_) (fun (q63 : ¬ (r62 ≠ 0)) => ?_)
                                          ·
                                            refine wr_iincL (i := 2) (n := 1) (v := 20) (21) ([(2, vi 21), (0, vl a0)]) (nx := 32) (r1 := 0) (r2 := 0) (r3 := 0) rfl rfl (by decide) rfl ?_
                                            refine wi_goto (nx := 35) (r1 := 2) (r2 := 0) (r3 := 0) rfl ?_
                                            refine wi_iload_n (i := 2) (e := 21) (nx := 3) (r1 := 0) (r2 := 0) (r3 := 0) rfl rfl ?_
                                            refine wr_gst (v := .ref 1000022) (nx := 6) (r1 := 21) (r2 := 0) (r3 := 0) rfl rfl rfl ?_
                                            refine wr_xl (k0 := 1000022) (e := 21) (nx := 7) (r1 := 0) (r2 := 0) (r3 := 0) rfl (by decide) rfl rfl ?_
                                            refine wi_icmp (cd := .ge) (nx := 10) (r1 := 35) (r2 := 0) (r3 := 0) rfl (by omega) (by omega) (fun (q64 : 21 ≤ 21) => ?_) (fun (q64 : ¬ (21 ≤ 21)) => by exfalso; omega)
                                            refine wr_gst (v := wv 21) (nx := 38) (r1 := 20) (r2 := 0) (r3 := 0) rfl rfl rfl ?_
                                            refine wr_areturn (x := 21) (nx := 39) (r1 := 0) (r2 := 0) (r3 := 0) rfl _ rfl ?_
                                            exact k 21 (by omega)
                                          ·
                                            refine wr_gst (v := .ref 1000022) (nx := 26) (r1 := 21) (r2 := 0) (r3 := 0) rfl rfl rfl ?_
                                            refine wi_iload_n (i := 2) (e := 20) (nx := 27) (r1 := 0) (r2 := 0) (r3 := 0) rfl rfl ?_
                                            refine wr_xa (k0 := 1000022) (a := 20) (f := 20) (v := wv 21) .aaload (Or.inr (Or.inr ⟨rfl, by decide⟩)) (nx := 28) (r1 := 0) (r2 := 0) (r3 := 0) rfl (by decide) rfl rfl (by decide) (by decide) rfl ?_
                                            refine wr_areturn (x := 21) (nx := 29) (r1 := 0) (r2 := 0) (r3 := 0) rfl _ rfl ?_
                                            exact k 21 (by omega)
                                        ·
                                          refine wr_gst (v := .ref 1000022) (nx := 26) (r1 := 21) (r2 := 0) (r3 := 0) rfl rfl rfl ?_
                                          refine wi_iload_n (i := 2) (e := 19) (nx := 27) (r1 := 0) (r2 := 0) (r3 := 0) rfl rfl ?_
                                          refine wr_xa (k0 := 1000022) (a := 19) (f := 19) (v := wv 20) .aaload (Or.inr (Or.inr ⟨rfl, by decide⟩)) (nx := 28) (r1 := 0) (r2 := 0) (r3 := 0) rfl (by decide) rfl rfl (by decide) (by decide) rfl ?_
                                          refine wr_areturn (x := 20) (nx := 29) (r1 := 0) (r2 := 0) (r3 := 0) rfl _ rfl ?_
                                          exact k 20 (by omega)
                                      ·
                                        refine wr_gst (v := .ref 1000022) (nx := 26) (r1 := 21) (r2 := 0) (r3 := 0) rfl rfl rfl ?_
                                        refine wi_iload_n (i := 2) (e := 18) (nx := 27) (r1 := 0) (r2 := 0) (r3 := 0) rfl rfl ?_
                                        refine wr_xa (k0 := 1000022) (a := 18) (f := 18) (v := wv 19) .aaload (Or.inr (Or.inr ⟨rfl, by decide⟩)) (nx := 28) (r1 := 0) (r2 := 0) (r3 := 0) rfl (by decide) rfl rfl (by decide) (by decide) rfl ?_
                                        refine wr_areturn (x := 19) (nx := 29) (r1 := 0) (r2 := 0) (r3 := 0) rfl _ rfl ?_
                                        exact k 19 (by omega)
                                    ·
                                      refine wr_gst (v := .ref 1000022) (nx := 26) (r1 := 21) (r2 := 0) (r3 := 0) rfl rfl rfl ?_
                                      refine wi_iload_n (i := 2) (e := 17) (nx := 27) (r1 := 0) (r2 := 0) (r3 := 0) rfl rfl ?_
                                      refine wr_xa (k0 := 1000022) (a := 17) (f := 17) (v := wv 18) .aaload (Or.inr (Or.inr ⟨rfl, by decide⟩)) (nx := 28) (r1 := 0) (r2 := 0) (r3 := 0) rfl (by decide) rfl rfl (by decide) (by decide) rfl ?_
                                      refine wr_areturn (x := 18) (nx := 29) (r1 := 0) (r2 := 0) (r3 := 0) rfl _ rfl ?_
                                      exact k 18 (by omega)
                                  ·
                                    refine wr_gst (v := .ref 1000022) (nx := 26) (r1 := 21) (r2 := 0) (r3 := 0) rfl rfl rfl ?_
                                    refine wi_iload_n (i := 2) (e := 16) (nx := 27) (r1 := 0) (r2 := 0) (r3 := 0) rfl rfl ?_
                                    refine wr_xa (k0 := 1000022) (a := 16) (f := 16) (v := wv 17) .aaload (Or.inr (Or.inr ⟨rfl, by decide⟩)) (nx := 28) (r1 := 0) (r2 := 0) (r3 := 0) rfl (by decide) rfl rfl (by decide) (by decide) rfl ?_
                                    refine wr_areturn (x := 17) (nx := 29) (r1 := 0) (r2 := 0) (r3 := 0) rfl _ rfl ?_
                                    exact k 17 (by omega)
                                ·
                                  refine wr_gst (v := .ref 1000022) (nx := 26) (r1 := 21) (r2 := 0) (r3 := 0) rfl rfl rfl ?_
                                  refine wi_iload_n (i := 2) (e := 15) (nx := 27) (r1 := 0) (r2 := 0) (r3 := 0) rfl rfl ?_
                                  refine wr_xa (k0 := 1000022) (a := 15) (f := 15) (v := wv 16) .aaload (Or.inr (Or.inr ⟨rfl, by decide⟩)) (nx := 28) (r1 := 0) (r2 := 0) (r3 := 0) rfl (by decide) rfl rfl (by decide) (by decide) rfl ?_
                                  refine wr_areturn (x := 16) (nx := 29) (r1 := 0) (r2 := 0) (r3 := 0) rfl _ rfl ?_
                                  exact k 16 (by omega)
                              ·
                                refine wr_gst (v := .ref 1000022) (nx := 26) (r1 := 21) (r2 := 0) (r3 := 0) rfl rfl rfl ?_
                                refine wi_iload_n (i := 2) (e := 14) (nx := 27) (r1 := 0) (r2 := 0) (r3 := 0) rfl rfl ?_
                                refine wr_xa (k0 := 1000022) (a := 14) (f := 14) (v := wv 15) .aaload (Or.inr (Or.inr ⟨rfl, by decide⟩)) (nx := 28) (r1 := 0) (r2 := 0) (r3 := 0) rfl (by decide) rfl rfl (by decide) (by decide) rfl ?_
                                refine wr_areturn (x := 15) (nx := 29) (r1 := 0) (r2 := 0) (r3 := 0) rfl _ rfl ?_
                                exact k 15 (by omega)
                            ·
                              refine wr_gst (v := .ref 1000022) (nx := 26) (r1 := 21) (r2 := 0) (r3 := 0) rfl rfl rfl ?_
                              refine wi_iload_n (i := 2) (e := 13) (nx := 27) (r1 := 0) (r2 := 0) (r3 := 0) rfl rfl ?_
                              refine wr_xa (k0 := 1000022) (a := 13) (f := 13) (v := wv 14) .aaload (Or.inr (Or.inr ⟨rfl, by decide⟩)) (nx := 28) (r1 := 0) (r2 := 0) (r3 := 0) rfl (by decide) rfl rfl (by decide) (by decide) rfl ?_
                              refine wr_areturn (x := 14) (nx := 29) (r1 := 0) (r2 := 0) (r3 := 0) rfl _ rfl ?_
                              exact k 14 (by omega)
                          ·
                            refine wr_gst (v := .ref 1000022) (nx := 26) (r1 := 21) (r2 := 0) (r3 := 0) rfl rfl rfl ?_
                            refine wi_iload_n (i := 2) (e := 12) (nx := 27) (r1 := 0) (r2 := 0) (r3 := 0) rfl rfl ?_
                            refine wr_xa (k0 := 1000022) (a := 12) (f := 12) (v := wv 13) .aaload (Or.inr (Or.inr ⟨rfl, by decide⟩)) (nx := 28) (r1 := 0) (r2 := 0) (r3 := 0) rfl (by decide) rfl rfl (by decide) (by decide) rfl ?_
                            refine wr_areturn (x := 13) (nx := 29) (r1 := 0) (r2 := 0) (r3 := 0) rfl _ rfl ?_
                            exact k 13 (by omega)
                        ·
                          refine wr_gst (v := .ref 1000022) (nx := 26) (r1 := 21) (r2 := 0) (r3 := 0) rfl rfl rfl ?_
                          refine wi_iload_n (i := 2) (e := 11) (nx := 27) (r1 := 0) (r2 := 0) (r3 := 0) rfl rfl ?_
                          refine wr_xa (k0 := 1000022) (a := 11) (f := 11) (v := wv 12) .aaload (Or.inr (Or.inr ⟨rfl, by decide⟩)) (nx := 28) (r1 := 0) (r2 := 0) (r3 := 0) rfl (by decide) rfl rfl (by decide) (by decide) rfl ?_
                          refine wr_areturn (x := 12) (nx := 29) (r1 := 0) (r2 := 0) (r3 := 0) rfl _ rfl ?_
                          exact k 12 (by omega)
                      ·
                        refine wr_gst (v := .ref 1000022) (nx := 26) (r1 := 21) (r2 := 0) (r3 := 0) rfl rfl rfl ?_
                        refine wi_iload_n (i := 2) (e := 10) (nx := 27) (r1 := 0) (r2 := 0) (r3 := 0) rfl rfl ?_
                        refine wr_xa (k0 := 1000022) (a := 10) (f := 10) (v := wv 11) .aaload (Or.inr (Or.inr ⟨rfl, by decide⟩)) (nx := 28) (r1 := 0) (r2 := 0) (r3 := 0) rfl (by decide) rfl rfl (by decide) (by decide) rfl ?_
                        refine wr_areturn (x := 11) (nx := 29) (r1 := 0) (r2 := 0) (r3 := 0) rfl _ rfl ?_
                        exact k 11 (by omega)
                    ·
                      refine wr_gst (v := .ref 1000022) (nx := 26) (r1 := 21) (r2 := 0) (r3 := 0) rfl rfl rfl ?_
                      refine wi_iload_n (i := 2) (e := 9) (nx := 27) (r1 := 0) (r2 := 0) (r3 := 0) rfl rfl ?_
                      refine wr_xa (k0 := 1000022) (a := 9) (f := 9) (v := wv 10) .aaload (Or.inr (Or.inr ⟨rfl, by decide⟩)) (nx := 28) (r1 := 0) (r2 := 0) (r3 := 0) rfl (by decide) rfl rfl (by decide) (by decide) rfl ?_
                      refine wr_areturn (x := 10) (nx := 29) (r1 := 0) (r2 := 0) (r3 := 0) rfl _ rfl ?_
                      exact k 10 (by omega)
                  ·
                    refine wr_gst (v := .ref 1000022) (nx := 26) (r1 := 21) (r2 := 0) (r3 := 0) rfl rfl rfl ?_
                    refine wi_iload_n (i := 2) (e := 8) (nx := 27) (r1 := 0) (r2 := 0) (r3 := 0) rfl rfl ?_
                    refine wr_xa (k0 := 1000022) (a := 8) (f := 8) (v := wv 9) .aaload (Or.inr (Or.inr ⟨rfl, by decide⟩)) (nx := 28) (r1 := 0) (r2 := 0) (r3 := 0) rfl (by decide) rfl rfl (by decide) (by decide) rfl ?_
                    refine wr_areturn (x := 9) (nx := 29) (r1 := 0) (r2 := 0) (r3 := 0) rfl _ rfl ?_
                    exact k 9 (by omega)
                ·
                  refine wr_gst (v := .ref 1000022) (nx := 26) (r1 := 21) (r2 := 0) (r3 := 0) rfl rfl rfl ?_
                  refine wi_iload_n (i := 2) (e := 7) (nx := 27) (r1 := 0) (r2 := 0) (r3 := 0) rfl rfl ?_
                  refine wr_xa (k0 := 1000022) (a := 7) (f := 7) (v := wv 8) .aaload (Or.inr (Or.inr ⟨rfl, by decide⟩)) (nx := 28) (r1 := 0) (r2 := 0) (r3 := 0) rfl (by decide) rfl rfl (by decide) (by decide) rfl ?_
                  refine wr_areturn (x := 8) (nx := 29) (r1 := 0) (r2 := 0) (r3 := 0) rfl _ rfl ?_
                  exact k 8 (by omega)
              ·
                refine wr_gst (v := .ref 1000022) (nx := 26) (r1 := 21) (r2 := 0) (r3 := 0) rfl rfl rfl ?_
                refine wi_iload_n (i := 2) (e := 6) (nx := 27) (r1 := 0) (r2 := 0) (r3 := 0) rfl rfl ?_
                refine wr_xa (k0 := 1000022) (a := 6) (f := 6) (v := wv 7) .aaload (Or.inr (Or.inr ⟨rfl, by decide⟩)) (nx := 28) (r1 := 0) (r2 := 0) (r3 := 0) rfl (by decide) rfl rfl (by decide) (by decide) rfl ?_
                refine wr_areturn (x := 7) (nx := 29) (r1 := 0) (r2 := 0) (r3 := 0) rfl _ rfl ?_
                exact k 7 (by omega)
            ·
              refine wr_gst (v := .ref 1000022) (nx := 26) (r1 := 21) (r2 := 0) (r3 := 0) rfl rfl rfl ?_
              refine wi_iload_n (i := 2) (e := 5) (nx := 27) (r1 := 0) (r2 := 0) (r3 := 0) rfl rfl ?_
              refine wr_xa (k0 := 1000022) (a := 5) (f := 5) (v := wv 6) .aaload (Or.inr (Or.inr ⟨rfl, by decide⟩)) (nx := 28) (r1 := 0) (r2 := 0) (r3 := 0) rfl (by decide) rfl rfl (by decide) (by decide) rfl ?_
              refine wr_areturn (x := 6) (nx := 29) (r1 := 0) (r2 := 0) (r3 := 0) rfl _ rfl ?_
              exact k 6 (by omega)
          ·
            refine wr_gst (v := .ref 1000022) (nx := 26) (r1 := 21) (r2 := 0) (r3 := 0) rfl rfl rfl ?_
            refine wi_iload_n (i := 2) (e := 4) (nx := 27) (r1 := 0) (r2 := 0) (r3 := 0) rfl rfl ?_
            refine wr_xa (k0 := 1000022) (a := 4) (f := 4) (v := wv 5) .aaload (Or.inr (Or.inr ⟨rfl, by decide⟩)) (nx := 28) (r1 := 0) (r2 := 0) (r3 := 0) rfl (by decide) rfl rfl (by decide) (by decide) rfl ?_
            refine wr_areturn (x := 5) (nx := 29) (r1 := 0) (r2 := 0) (r3 := 0) rfl _ rfl ?_
            exact k 5 (by omega)
        ·
          refine wr_gst (v := .ref 1000022) (nx := 26) (r1 := 21) (r2 := 0) (r3 := 0) rfl rfl rfl ?_
          refine wi_iload_n (i := 2) (e := 3) (nx := 27) (r1 := 0) (r2 := 0) (r3 := 0) rfl rfl ?_
          refine wr_xa (k0 := 1000022) (a := 3) (f := 3) (v := wv 4) .aaload (Or.inr (Or.inr ⟨rfl, by decide⟩)) (nx := 28) (r1 := 0) (r2 := 0) (r3 := 0) rfl (by decide) rfl rfl (by decide) (by decide) rfl ?_
          refine wr_areturn (x := 4) (nx := 29) (r1 := 0) (r2 := 0) (r3 := 0) rfl _ rfl ?_
          exact k 4 (by omega)
      ·
        refine wr_gst (v := .ref 1000022) (nx := 26) (r1 := 21) (r2 := 0) (r3 := 0) rfl rfl rfl ?_
        refine wi_iload_n (i := 2) (e := 2) (nx := 27) (r1 := 0) (r2 := 0) (r3 := 0) rfl rfl ?_
        refine wr_xa (k0 := 1000022) (a := 2) (f := 2) (v := wv 3) .aaload (Or.inr (Or.inr ⟨rfl, by decide⟩)) (nx := 28) (r1 := 0) (r2 := 0) (r3 := 0) rfl (by decide) rfl rfl (by decide) (by decide) rfl ?_
        refine wr_areturn (x := 3) (nx := 29) (r1 := 0) (r2 := 0) (r3 := 0) rfl _ rfl ?_
        exact k 3 (by omega)
    ·
      refine wr_gst (v := .ref 1000022) (nx := 26) (r1 := 21) (r2 := 0) (r3 := 0) rfl rfl rfl ?_
      refine wi_iload_n (i := 2) (e := 1) (nx := 27) (r1 := 0) (r2 := 0) (r3 := 0) rfl rfl ?_
      refine wr_xa (k0 := 1000022) (a := 1) (f := 1) (v := wv 2) .aaload (Or.inr (Or.inr ⟨rfl, by decide⟩)) (nx := 28) (r1 := 0) (r2 := 0) (r3 := 0) rfl (by decide) rfl rfl (by decide) (by decide) rfl ?_
      refine wr_areturn (x := 2) (nx := 29) (r1 := 0) (r2 := 0) (r3 := 0) rfl _ rfl ?_
      exact k 2 (by omega)
  ·
    refine wr_gst (v := .ref 1000022) (nx := 26) (r1 := 21) (r2 := 0) (r3 := 0) rfl rfl rfl ?_
    refine wi_iload_n (i := 2) (e := 0) (nx := 27) (r1 := 0) (r2 := 0) (r3 := 0) rfl rfl ?_
    refine wr_xa (k0 := 1000022) (a := 0) (f := 0) (v := wv 1) .aaload (Or.inr (Or.inr ⟨rfl, by decide⟩)) (nx := 28) (r1 := 0) (r2 := 0) (r3 := 0) rfl (by decide) rfl rfl (by decide) (by decide) rfl ?_
    refine wr_areturn (x := 1) (nx := 29) (r1 := 0) (r2 := 0) (r3 := 0) rfl _ rfl ?_
    exact k 1 (by omega)
-- method 97: Text.readWord()V
set_option maxRecDepth 100000 in
set_option maxHeartbeats 100000000 in
theorem ct_97_1 {L : Nat} {xs : Nat → Int32} {d b c : Nat} {h : hp} {cr : Nat → Nat → Option Nat} {Q : hp_Q} (hcr : CR cr)  (g : GI h)    (k : ∀ (h2 : hp) , GI h2 → FR [(1, 1, some (4, 4)), (1, 1, some (5, 5)), (1, 1, some (8, 8)), (1, 1, some (9, 9))] h h2 → Q (.inl none) (hp_w h2 cr) b c) : wp (md_xa (L, xs)) (d + 1) 97 (0, [(0, .ref 1)], [], hp_w h cr, b, c) Q := by
  have F0 : FR [(1, 1, some (4, 4)), (1, 1, some (5, 5)), (1, 1, some (8, 8)), (1, 1, some (9, 9))] h h := FR.refl
  refine wi_aload_n (i := 0) (x := 1) (nx := 1) (r1 := 0) (r2 := 0) (r3 := 0) rfl rfl ?_
  refine wi_lconst (n := 0) (e := 0) (nx := 2) (r1 := 0) (r2 := 0) (r3 := 0) rfl (by decide) ?_
  refine wr_pf1 (k0 := 1) (x := 0) (bl := -9223372036854775808) (bh := 9223372036854775807) (nx := 5) (r1 := 1) (r2 := 8) (r3 := 1) rfl (by decide) rfl ⟨rfl, rfl⟩ rfl rfl g rfl (by omega) (fun h1 g1 w1 u1 => ?_)
  have F2 := F0.then rfl u1
  have b4 := gi_b (lo := 0) (hi := 800) g 1 1 rfl
  have e5 : h1 1 1 = h 1 1 := (u1 1 1 rfl)
  have b6 := gi_b (lo := 0) (hi := 800) g 1 4 rfl
  have e7 : h1 1 4 = h 1 4 := (u1 1 4 rfl)
  refine wl_0 (fun h3 => GI h3 ∧ FR [(1, 1, some (4, 4)), (1, 1, some (5, 5)), (1, 1, some (8, 8)), (1, 1, some (9, 9))] h h3 ∧ FR [(1, 1, some (4, 4)), (1, 1, some (8, 8))] h1 h3 ∧ (True)) (fun h3 => ((h3 1 1) - (h3 1 4)).toNat) (fun h3 => (5, [(0, .ref 1)], [], hp_w h3 cr, b, c)) ?_ h1 ⟨g1, F2, FR.refl, trivial⟩
  intro h3 ⟨g3, F8, u3, f3⟩ I3
  have e9 : h3 1 1 = h 1 1 := ((u3 1 1 rfl).trans (u1 1 1 rfl))
  have b10 := gi_b (lo := 0) (hi := 800) g3 1 4 rfl
  refine wi_aload_n (i := 0) (x := 1) (nx := 6) (r1 := 0) (r2 := 0) (r3 := 0) rfl rfl ?_
  refine wr_gi0 (k0 := 1) (x := h3 1 4) (nx := 9) (r1 := 1) (r2 := 4) (r3 := 0) rfl rfl (by decide) rfl ⟨rfl, rfl⟩ rfl rfl ?_
  refine wi_aload_n (i := 0) (x := 1) (nx := 10) (r1 := 0) (r2 := 0) (r3 := 0) rfl rfl ?_
  refine wr_gi0 (k0 := 1) (x := h 1 1) (nx := 13) (r1 := 1) (r2 := 1) (r3 := 0) rfl rfl (by decide) rfl ⟨rfl, rfl⟩ rfl ((u3 1 1 rfl).trans (u1 1 1 rfl)) ?_
  refine wi_icmp (cd := .ge) (nx := 16) (r1 := 66) (r2 := 0) (r3 := 0) rfl (by omega) (by omega) (fun (q11 : (h 1 1) ≤ (h3 1 4)) => ?_) (fun (q11 : ¬ ((h 1 1) ≤ (h3 1 4))) => ?_)
  ·
    refine wi_aload_n (i := 0) (x := 1) (nx := 67) (r1 := 0) (r2 := 0) (r3 := 0) rfl rfl ?_
    refine wi_aload_n (i := 0) (x := 1) (nx := 68) (r1 := 0) (r2 := 0) (r3 := 0) rfl rfl ?_
    refine wr_gi0 (k0 := 1) (x := h3 1 4) (nx := 71) (r1 := 1) (r2 := 4) (r3 := 0) rfl rfl (by decide) rfl ⟨rfl, rfl⟩ rfl rfl ?_
    refine wi_aload_n (i := 0) (x := 1) (nx := 72) (r1 := 0) (r2 := 0) (r3 := 0) rfl rfl ?_
    have b12 := gi_b (lo := 0) (hi := 800) g 1 6 rfl
    refine wr_gi0 (k0 := 1) (x := h 1 6) (nx := 75) (r1 := 1) (r2 := 6) (r3 := 0) rfl rfl (by decide) rfl ⟨rfl, rfl⟩ rfl ((u3 1 6 rfl).trans (u1 1 6 rfl)) ?_
    refine wr_sub (nx := 76) (r1 := 0) (r2 := 0) (r3 := 0) rfl (fun e13 (fe13 : e13 = (h3 1 4) - (h 1 6)) => ?_)
    refine wi_bipush (n := 8) (nx := 78) (r1 := 0) (r2 := 0) (r3 := 0) rfl (by decide) ?_
    refine wi_icmp (cd := .gt) (nx := 81) (r1 := 85) (r2 := 0) (r3 := 0) rfl (by omega) (by omega) (fun (q14 : 8 < e13) => ?_) (fun (q14 : ¬ (8 < e13)) => ?_)
    ·
      refine wi_bipush (n := 6) (nx := 87) (r1 := 0) (r2 := 0) (r3 := 0) rfl (by decide) ?_
      refine wr_pf0 (k0 := 1) (x := 6) (bl := 0) (bh := 6) (nx := 90) (r1 := 1) (r2 := 5) (r3 := 0) rfl (by decide) rfl ⟨rfl, rfl⟩ rfl rfl g3 rfl (by omega) (fun h15 g15 w15 u15 => ?_)
      have F16 := F8.then rfl u15
      refine wi_aload_n (i := 0) (x := 1) (nx := 91) (r1 := 0) (r2 := 0) (r3 := 0) rfl rfl ?_
      refine wi_aload_n (i := 0) (x := 1) (nx := 92) (r1 := 0) (r2 := 0) (r3 := 0) rfl rfl ?_
      have b17 := gi_b (lo := -9223372036854775808) (hi := 9223372036854775807) g3 1 8 rfl
      refine wr_gi1 (k0 := 1) (x := h3 1 8) (nx := 95) (r1 := 1) (r2 := 8) (r3 := 0) rfl rfl (by decide) rfl ⟨rfl, rfl⟩ rfl (u15 1 8 rfl) ?_
      refine wi_S (rest := [.ref 1]) (as := [vl (h3 1 8)]) (nx := 98) (r1 := 90) (r2 := 17) (r3 := 0) rfl rfl rfl (of_decide_eq_true rfl) rfl rfl (of_decide_eq_true rfl) (of_decide_eq_true rfl) ?_
      refine ct_90 hcr  g15 (h3 1 8) (by omega)  (fun z19  (fz19 : 1 ≤ z19 ∧ z19 ≤ 21) => ?_)
      refine wk_i ?_
      refine wr_pf3 (k0 := 1) (x := z19) (bl := 1) (bh := 21) (nx := 101) (r1 := 1) (r2 := 9) (r3 := 3) rfl (by decide) rfl ⟨rfl, rfl⟩ rfl rfl g15 rfl (by omega) (fun h20 g20 w20 u20 => ?_)
      have F21 := F16.then rfl u20
      refine wi_return (nx := 102) (r1 := 0) (r2 := 0) (r3 := 0) rfl rfl ?_
      exact k h20 g20 F21
    ·
      refine wi_iconst (n := 1) (nx := 82) (r1 := 0) (r2 := 0) (r3 := 0) rfl ?_
      refine wi_goto (nx := 85) (r1 := 87) (r2 := 0) (r3 := 0) rfl ?_
      refine wr_pf0 (k0 := 1) (x := 1) (bl := 0) (bh := 6) (nx := 90) (r1 := 1) (r2 := 5) (r3 := 0) rfl (by decide) rfl ⟨rfl, rfl⟩ rfl rfl g3 rfl (by omega) (fun h15 g15 w15 u15 => ?_)
      have F16 := F8.then rfl u15
      refine wi_aload_n (i := 0) (x := 1) (nx := 91) (r1 := 0) (r2 := 0) (r3 := 0) rfl rfl ?_
      refine wi_aload_n (i := 0) (x := 1) (nx := 92) (r1 := 0) (r2 := 0) (r3 := 0) rfl rfl ?_
      have b17 := gi_b (lo := -9223372036854775808) (hi := 9223372036854775807) g3 1 8 rfl
      refine wr_gi1 (k0 := 1) (x := h3 1 8) (nx := 95) (r1 := 1) (r2 := 8) (r3 := 0) rfl rfl (by decide) rfl ⟨rfl, rfl⟩ rfl (u15 1 8 rfl) ?_
      refine wi_S (rest := [.ref 1]) (as := [vl (h3 1 8)]) (nx := 98) (r1 := 90) (r2 := 17) (r3 := 0) rfl rfl rfl (of_decide_eq_true rfl) rfl rfl (of_decide_eq_true rfl) (of_decide_eq_true rfl) ?_
      refine ct_90 hcr  g15 (h3 1 8) (by omega)  (fun z19  (fz19 : 1 ≤ z19 ∧ z19 ≤ 21) => ?_)
      refine wk_i ?_
      refine wr_pf3 (k0 := 1) (x := z19) (bl := 1) (bh := 21) (nx := 101) (r1 := 1) (r2 := 9) (r3 := 3) rfl (by decide) rfl ⟨rfl, rfl⟩ rfl rfl g15 rfl (by omega) (fun h20 g20 w20 u20 => ?_)
      have F21 := F16.then rfl u20
      refine wi_return (nx := 102) (r1 := 0) (r2 := 0) (r3 := 0) rfl rfl ?_
      exact k h20 g20 F21
  ·
    refine wi_aload_n (i := 0) (x := 1) (nx := 17) (r1 := 0) (r2 := 0) (r3 := 0) rfl rfl ?_
    refine wr_gr (k0 := 1) (x := 2) (nx := 20) (r1 := 1) (r2 := 0) (r3 := 0) rfl rfl (by decide) rfl ⟨rfl, rfl⟩ rfl ?_
    refine wi_aload_n (i := 0) (x := 1) (nx := 21) (r1 := 0) (r2 := 0) (r3 := 0) rfl rfl ?_
    refine wr_gi0 (k0 := 1) (x := h3 1 4) (nx := 24) (r1 := 1) (r2 := 4) (r3 := 0) rfl rfl (by decide) rfl ⟨rfl, rfl⟩ rfl rfl ?_
    obtain ⟨i12, ei12⟩ : ∃ q : Nat, (h3 1 4) = (q : Int) := ⟨(h3 1 4).toNat, by omega⟩
    have b13 := gi_b (lo := -128) (hi := 127) g 2 i12 rfl
    refine wr_ba (k0 := 2) (a := h3 1 4) (f := i12) (x := h 2 i12) (nx := 25) (r1 := 0) (r2 := 0) (r3 := 0) rfl (by decide) rfl (by decide) (by omega) (by omega) (by decide) ((u3 2 i12 (fn_a (by omega) (fn_a (by omega) fn_0))).trans (u1 2 i12 (fn_a (by omega) fn_0))) ?_
    refine wi_S (rest := []) (as := [vi (h 2 i12)]) (nx := 28) (r1 := 96) (r2 := 17) (r3 := 0) rfl rfl rfl (of_decide_eq_true rfl) rfl rfl (of_decide_eq_true rfl) (of_decide_eq_true rfl) ?_
    refine ct_96 hcr  g3 (h 2 i12) (by omega)  (fun z15  (fz15 : 0 ≤ z15 ∧ z15 ≤ 1) m14_0 => ?_)
    refine wk_i ?_
    refine wi_if (cd := .eq) (nx := 31) (r1 := 66) (r2 := 0) (r3 := 0) rfl (by omega) (fun (q16 : z15 = 0) => ?_) (fun (q16 : ¬ (z15 = 0)) => ?_)
    ·
      refine wi_aload_n (i := 0) (x := 1) (nx := 67) (r1 := 0) (r2 := 0) (r3 := 0) rfl rfl ?_
      refine wi_aload_n (i := 0) (x := 1) (nx := 68) (r1 := 0) (r2 := 0) (r3 := 0) rfl rfl ?_
      refine wr_gi0 (k0 := 1) (x := h3 1 4) (nx := 71) (r1 := 1) (r2 := 4) (r3 := 0) rfl rfl (by decide) rfl ⟨rfl, rfl⟩ rfl rfl ?_
      refine wi_aload_n (i := 0) (x := 1) (nx := 72) (r1 := 0) (r2 := 0) (r3 := 0) rfl rfl ?_
      have b17 := gi_b (lo := 0) (hi := 800) g 1 6 rfl
      refine wr_gi0 (k0 := 1) (x := h 1 6) (nx := 75) (r1 := 1) (r2 := 6) (r3 := 0) rfl rfl (by decide) rfl ⟨rfl, rfl⟩ rfl ((u3 1 6 rfl).trans (u1 1 6 rfl)) ?_
      refine wr_sub (nx := 76) (r1 := 0) (r2 := 0) (r3 := 0) rfl (fun e18 (fe18 : e18 = (h3 1 4) - (h 1 6)) => ?_)
      refine wi_bipush (n := 8) (nx := 78) (r1 := 0) (r2 := 0) (r3 := 0) rfl (by decide) ?_
      refine wi_icmp (cd := .gt) (nx := 81) (r1 := 85) (r2 := 0) (r3 := 0) rfl (by omega) (by omega) (fun (q19 : 8 < e18) => ?_) (fun (q19 : ¬ (8 < e18)) => ?_)
      ·
        refine wi_bipush (n := 6) (nx := 87) (r1 := 0) (r2 := 0) (r3 := 0) rfl (by decide) ?_
        refine wr_pf0 (k0 := 1) (x := 6) (bl := 0) (bh := 6) (nx := 90) (r1 := 1) (r2 := 5) (r3 := 0) rfl (by decide) rfl ⟨rfl, rfl⟩ rfl rfl g3 rfl (by omega) (fun h20 g20 w20 u20 => ?_)
        have F21 := F8.then rfl u20
        refine wi_aload_n (i := 0) (x := 1) (nx := 91) (r1 := 0) (r2 := 0) (r3 := 0) rfl rfl ?_
        refine wi_aload_n (i := 0) (x := 1) (nx := 92) (r1 := 0) (r2 := 0) (r3 := 0) rfl rfl ?_
        have b22 := gi_b (lo := -9223372036854775808) (hi := 9223372036854775807) g3 1 8 rfl
        refine wr_gi1 (k0 := 1) (x := h3 1 8) (nx := 95) (r1 := 1) (r2 := 8) (r3 := 0) rfl rfl (by decide) rfl ⟨rfl, rfl⟩ rfl (u20 1 8 rfl) ?_
        refine wi_S (rest := [.ref 1]) (as := [vl (h3 1 8)]) (nx := 98) (r1 := 90) (r2 := 17) (r3 := 0) rfl rfl rfl (of_decide_eq_true rfl) rfl rfl (of_decide_eq_true rfl) (of_decide_eq_true rfl) ?_
        refine ct_90 hcr  g20 (h3 1 8) (by omega)  (fun z24  (fz24 : 1 ≤ z24 ∧ z24 ≤ 21) => ?_)
        refine wk_i ?_
        refine wr_pf3 (k0 := 1) (x := z24) (bl := 1) (bh := 21) (nx := 101) (r1 := 1) (r2 := 9) (r3 := 3) rfl (by decide) rfl ⟨rfl, rfl⟩ rfl rfl g20 rfl (by omega) (fun h25 g25 w25 u25 => ?_)
        have F26 := F21.then rfl u25
        refine wi_return (nx := 102) (r1 := 0) (r2 := 0) (r3 := 0) rfl rfl ?_
        exact k h25 g25 F26
      ·
        refine wi_iconst (n := 1) (nx := 82) (r1 := 0) (r2 := 0) (r3 := 0) rfl ?_
        refine wi_goto (nx := 85) (r1 := 87) (r2 := 0) (r3 := 0) rfl ?_
        refine wr_pf0 (k0 := 1) (x := 1) (bl := 0) (bh := 6) (nx := 90) (r1 := 1) (r2 := 5) (r3 := 0) rfl (by decide) rfl ⟨rfl, rfl⟩ rfl rfl g3 rfl (by omega) (fun h20 g20 w20 u20 => ?_)
        have F21 := F8.then rfl u20
        refine wi_aload_n (i := 0) (x := 1) (nx := 91) (r1 := 0) (r2 := 0) (r3 := 0) rfl rfl ?_
        refine wi_aload_n (i := 0) (x := 1) (nx := 92) (r1 := 0) (r2 := 0) (r3 := 0) rfl rfl ?_
        have b22 := gi_b (lo := -9223372036854775808) (hi := 9223372036854775807) g3 1 8 rfl
        refine wr_gi1 (k0 := 1) (x := h3 1 8) (nx := 95) (r1 := 1) (r2 := 8) (r3 := 0) rfl rfl (by decide) rfl ⟨rfl, rfl⟩ rfl (u20 1 8 rfl) ?_
        refine wi_S (rest := [.ref 1]) (as := [vl (h3 1 8)]) (nx := 98) (r1 := 90) (r2 := 17) (r3 := 0) rfl rfl rfl (of_decide_eq_true rfl) rfl rfl (of_decide_eq_true rfl) (of_decide_eq_true rfl) ?_
        refine ct_90 hcr  g20 (h3 1 8) (by omega)  (fun z24  (fz24 : 1 ≤ z24 ∧ z24 ≤ 21) => ?_)
        refine wk_i ?_
        refine wr_pf3 (k0 := 1) (x := z24) (bl := 1) (bh := 21) (nx := 101) (r1 := 1) (r2 := 9) (r3 := 3) rfl (by decide) rfl ⟨rfl, rfl⟩ rfl rfl g20 rfl (by omega) (fun h25 g25 w25 u25 => ?_)
        have F26 := F21.then rfl u25
        refine wi_return (nx := 102) (r1 := 0) (r2 := 0) (r3 := 0) rfl rfl ?_
        exact k h25 g25 F26
    ·
      have f17 : 97 ≤ (h 2 i12) ∧ (h 2 i12) ≤ 122 := m14_0 (by omega)
      refine wi_aload_n (i := 0) (x := 1) (nx := 32) (r1 := 0) (r2 := 0) (r3 := 0) rfl rfl ?_
      refine wi_aload_n (i := 0) (x := 1) (nx := 33) (r1 := 0) (r2 := 0) (r3 := 0) rfl rfl ?_
      have b18 := gi_b (lo := -9223372036854775808) (hi := 9223372036854775807) g3 1 8 rfl
      refine wr_gi1 (k0 := 1) (x := h3 1 8) (nx := 36) (r1 := 1) (r2 := 8) (r3 := 0) rfl rfl (by decide) rfl ⟨rfl, rfl⟩ rfl rfl ?_
      refine wi_bipush (n := 8) (nx := 38) (r1 := 0) (r2 := 0) (r3 := 0) rfl (by decide) ?_
      refine wr_lshlA (nx := 39) (r1 := 0) (r2 := 0) (r3 := 0) rfl (fun e19 (fe19 : -9223372036854775808 ≤ e19 ∧ e19 ≤ 9223372036854775807) => ?_)
      refine wi_aload_n (i := 0) (x := 1) (nx := 40) (r1 := 0) (r2 := 0) (r3 := 0) rfl rfl ?_
      refine wr_gr (k0 := 1) (x := 2) (nx := 43) (r1 := 1) (r2 := 0) (r3 := 0) rfl rfl (by decide) rfl ⟨rfl, rfl⟩ rfl ?_
      refine wi_aload_n (i := 0) (x := 1) (nx := 44) (r1 := 0) (r2 := 0) (r3 := 0) rfl rfl ?_
      refine wr_gi0 (k0 := 1) (x := h3 1 4) (nx := 47) (r1 := 1) (r2 := 4) (r3 := 0) rfl rfl (by decide) rfl ⟨rfl, rfl⟩ rfl rfl ?_
      refine wr_ba (k0 := 2) (a := h3 1 4) (f := i12) (x := h 2 i12) (nx := 48) (r1 := 0) (r2 := 0) (r3 := 0) rfl (by decide) rfl (by decide) (by omega) (by omega) (by decide) ((u3 2 i12 (fn_a (by omega) (fn_a (by omega) fn_0))).trans (u1 2 i12 (fn_a (by omega) fn_0))) ?_
      refine wi_i2l (nx := 49) (r1 := 0) (r2 := 0) (r3 := 0) rfl (by omega) ?_
      refine wr_lorA (nx := 50) (r1 := 0) (r2 := 0) (r3 := 0) rfl (fun e20 (fe20 : -9223372036854775808 ≤ e20 ∧ e20 ≤ 9223372036854775807) => ?_)
      refine wr_pf1 (k0 := 1) (x := e20) (bl := -9223372036854775808) (bh := 9223372036854775807) (nx := 53) (r1 := 1) (r2 := 8) (r3 := 1) rfl (by decide) rfl ⟨rfl, rfl⟩ rfl rfl g3 rfl (by omega) (fun h21 g21 w21 u21 => ?_)
      have F22 := F8.then rfl u21
      have F23 := u3.then rfl u21
      refine wi_aload_n (i := 0) (x := 1) (nx := 54) (r1 := 0) (r2 := 0) (r3 := 0) rfl rfl ?_
      refine wi_dup (nx := 55) (r1 := 0) (r2 := 0) (r3 := 0) rfl rfl ?_
      refine wr_gi0 (k0 := 1) (x := h3 1 4) (nx := 58) (r1 := 1) (r2 := 4) (r3 := 0) rfl rfl (by decide) rfl ⟨rfl, rfl⟩ rfl (u21 1 4 rfl) ?_
      refine wi_iconst (n := 1) (nx := 59) (r1 := 0) (r2 := 0) (r3 := 0) rfl ?_
      refine wr_add (nx := 60) (r1 := 0) (r2 := 0) (r3 := 0) rfl (fun e24 (fe24 : e24 = (h3 1 4) + 1) => ?_)
      refine wr_pf0 (k0 := 1) (x := e24) (bl := 0) (bh := 800) (nx := 63) (r1 := 1) (r2 := 4) (r3 := 0) rfl (by decide) rfl ⟨rfl, rfl⟩ rfl rfl g21 rfl (by omega) (fun h25 g25 w25 u25 => ?_)
      have F26 := F22.then rfl u25
      have F27 := F23.then rfl u25
      refine wi_goto (nx := 66) (r1 := 5) (r2 := 0) (r3 := 0) rfl ?_
      have e28 : h25 1 1 = h 1 1 := ((u25 1 1 rfl).trans ((u21 1 1 rfl).trans ((u3 1 1 rfl).trans (u1 1 1 rfl))))
      have e29 : h25 1 4 = e24 := w25
      exact I3 h25 ⟨g25, F26, F27, trivial⟩ (show ((h25 1 1) - (h25 1 4)).toNat < ((h3 1 1) - (h3 1 4)).toNat by omega)
-- method 94: Text.advance()V
set_option maxRecDepth 100000 in
set_option maxHeartbeats 100000000 in
theorem ct_94_1 {L : Nat} {xs : Nat → Int32} {d b c : Nat} {h : hp} {cr : Nat → Nat → Option Nat} {Q : hp_Q} (hcr : CR cr)  (g : GI h)    (k : ∀ (h2 : hp) , GI h2 → FR [(1, 1, some (4, 4)), (1, 1, some (5, 5)), (1, 1, some (6, 6)), (1, 1, some (7, 7)), (1, 1, some (8, 8)), (1, 1, some (9, 9))] h h2 → Q (.inl none) (hp_w h2 cr) b c) : wp (md_xa (L, xs)) (d + 2) 94 (0, [(0, .ref 1)], [], hp_w h cr, b, c) Q := by
  have F0 : FR [(1, 1, some (4, 4)), (1, 1, some (5, 5)), (1, 1, some (6, 6)), (1, 1, some (7, 7)), (1, 1, some (8, 8)), (1, 1, some (9, 9))] h h := FR.refl
  have b2 := gi_b (lo := 0) (hi := 800) g 1 1 rfl
  have b3 := gi_b (lo := 0) (hi := 800) g 1 4 rfl
  refine wl_0 (fun h1 => GI h1 ∧ FR [(1, 1, some (4, 4)), (1, 1, some (5, 5)), (1, 1, some (6, 6)), (1, 1, some (7, 7)), (1, 1, some (8, 8)), (1, 1, some (9, 9))] h h1 ∧ FR [(1, 1, some (4, 4))] h h1 ∧ (True)) (fun h1 => ((h1 1 1) - (h1 1 4)).toNat) (fun h1 => (0, [(0, .ref 1)], [], hp_w h1 cr, b, c)) ?_ h ⟨g, F0, FR.refl, trivial⟩
  intro h1 ⟨g1, F4, u1, f1⟩ I1
  have e5 : h1 1 1 = h 1 1 := (u1 1 1 rfl)
  have b6 := gi_b (lo := 0) (hi := 800) g1 1 4 rfl
  refine wi_aload_n (i := 0) (x := 1) (nx := 1) (r1 := 0) (r2 := 0) (r3 := 0) rfl rfl ?_
  refine wr_gi0 (k0 := 1) (x := h1 1 4) (nx := 4) (r1 := 1) (r2 := 4) (r3 := 0) rfl rfl (by decide) rfl ⟨rfl, rfl⟩ rfl rfl ?_
  refine wi_aload_n (i := 0) (x := 1) (nx := 5) (r1 := 0) (r2 := 0) (r3 := 0) rfl rfl ?_
  refine wr_gi0 (k0 := 1) (x := h 1 1) (nx := 8) (r1 := 1) (r2 := 1) (r3 := 0) rfl rfl (by decide) rfl ⟨rfl, rfl⟩ rfl (u1 1 1 rfl) ?_
  refine wi_icmp (cd := .ge) (nx := 11) (r1 := 39) (r2 := 0) (r3 := 0) rfl (by omega) (by omega) (fun (q7 : (h 1 1) ≤ (h1 1 4)) => ?_) (fun (q7 : ¬ ((h 1 1) ≤ (h1 1 4))) => ?_)
  ·
    refine wi_aload_n (i := 0) (x := 1) (nx := 40) (r1 := 0) (r2 := 0) (r3 := 0) rfl rfl ?_
    refine wi_aload_n (i := 0) (x := 1) (nx := 41) (r1 := 0) (r2 := 0) (r3 := 0) rfl rfl ?_
    refine wr_gi0 (k0 := 1) (x := h1 1 4) (nx := 44) (r1 := 1) (r2 := 4) (r3 := 0) rfl rfl (by decide) rfl ⟨rfl, rfl⟩ rfl rfl ?_
    refine wr_pf0 (k0 := 1) (x := h1 1 4) (bl := 0) (bh := 800) (nx := 47) (r1 := 1) (r2 := 6) (r3 := 0) rfl (by decide) rfl ⟨rfl, rfl⟩ rfl rfl g1 rfl (by omega) (fun h8 g8 w8 u8 => ?_)
    have F9 := F4.then rfl u8
    refine wi_aload_n (i := 0) (x := 1) (nx := 48) (r1 := 0) (r2 := 0) (r3 := 0) rfl rfl ?_
    refine wr_gi0 (k0 := 1) (x := h1 1 4) (nx := 51) (r1 := 1) (r2 := 4) (r3 := 0) rfl rfl (by decide) rfl ⟨rfl, rfl⟩ rfl (u8 1 4 rfl) ?_
    refine wi_aload_n (i := 0) (x := 1) (nx := 52) (r1 := 0) (r2 := 0) (r3 := 0) rfl rfl ?_
    refine wr_gi0 (k0 := 1) (x := h 1 1) (nx := 55) (r1 := 1) (r2 := 1) (r3 := 0) rfl rfl (by decide) rfl ⟨rfl, rfl⟩ rfl ((u8 1 1 rfl).trans (u1 1 1 rfl)) ?_
    refine wi_icmp (cd := .lt) (nx := 58) (r1 := 66) (r2 := 0) (r3 := 0) rfl (by omega) (by omega) (fun (q10 : (h1 1 4) < (h 1 1)) => by exfalso; omega) (fun (q10 : ¬ ((h1 1 4) < (h 1 1))) => ?_)
    refine wi_aload_n (i := 0) (x := 1) (nx := 59) (r1 := 0) (r2 := 0) (r3 := 0) rfl rfl ?_
    refine wi_iconst (n := 0) (nx := 60) (r1 := 0) (r2 := 0) (r3 := 0) rfl ?_
    refine wr_pf0 (k0 := 1) (x := 0) (bl := 0) (bh := 6) (nx := 63) (r1 := 1) (r2 := 5) (r3 := 0) rfl (by decide) rfl ⟨rfl, rfl⟩ rfl rfl g8 rfl (by omega) (fun h11 g11 w11 u11 => ?_)
    have F12 := F9.then rfl u11
    refine wi_goto (nx := 66) (r1 := 136) (r2 := 0) (r3 := 0) rfl ?_
    refine wi_return (nx := 137) (r1 := 0) (r2 := 0) (r3 := 0) rfl rfl ?_
    exact k h11 g11 F12
  ·
    refine wi_aload_n (i := 0) (x := 1) (nx := 12) (r1 := 0) (r2 := 0) (r3 := 0) rfl rfl ?_
    refine wr_gr (k0 := 1) (x := 2) (nx := 15) (r1 := 1) (r2 := 0) (r3 := 0) rfl rfl (by decide) rfl ⟨rfl, rfl⟩ rfl ?_
    refine wi_aload_n (i := 0) (x := 1) (nx := 16) (r1 := 0) (r2 := 0) (r3 := 0) rfl rfl ?_
    refine wr_gi0 (k0 := 1) (x := h1 1 4) (nx := 19) (r1 := 1) (r2 := 4) (r3 := 0) rfl rfl (by decide) rfl ⟨rfl, rfl⟩ rfl rfl ?_
    obtain ⟨i8, ei8⟩ : ∃ q : Nat, (h1 1 4) = (q : Int) := ⟨(h1 1 4).toNat, by omega⟩
    have b9 := gi_b (lo := -128) (hi := 127) g 2 i8 rfl
    refine wr_ba (k0 := 2) (a := h1 1 4) (f := i8) (x := h 2 i8) (nx := 20) (r1 := 0) (r2 := 0) (r3 := 0) rfl (by decide) rfl (by decide) (by omega) (by omega) (by decide) (u1 2 i8 (fn_a (by omega) fn_0)) ?_
    refine wi_S (rest := []) (as := [vi (h 2 i8)]) (nx := 23) (r1 := 95) (r2 := 17) (r3 := 0) rfl rfl rfl (of_decide_eq_true rfl) rfl rfl (of_decide_eq_true rfl) (of_decide_eq_true rfl) ?_
    refine ct_95 hcr  g1 (h 2 i8) (by omega)  (fun z11  (fz11 : 0 ≤ z11 ∧ z11 ≤ 1) m10_0 => ?_)
    refine wk_i ?_
    refine wi_if (cd := .eq) (nx := 26) (r1 := 39) (r2 := 0) (r3 := 0) rfl (by omega) (fun (q12 : z11 = 0) => ?_) (fun (q12 : ¬ (z11 = 0)) => ?_)
    ·
      refine wi_aload_n (i := 0) (x := 1) (nx := 40) (r1 := 0) (r2 := 0) (r3 := 0) rfl rfl ?_
      refine wi_aload_n (i := 0) (x := 1) (nx := 41) (r1 := 0) (r2 := 0) (r3 := 0) rfl rfl ?_
      refine wr_gi0 (k0 := 1) (x := h1 1 4) (nx := 44) (r1 := 1) (r2 := 4) (r3 := 0) rfl rfl (by decide) rfl ⟨rfl, rfl⟩ rfl rfl ?_
      refine wr_pf0 (k0 := 1) (x := h1 1 4) (bl := 0) (bh := 800) (nx := 47) (r1 := 1) (r2 := 6) (r3 := 0) rfl (by decide) rfl ⟨rfl, rfl⟩ rfl rfl g1 rfl (by omega) (fun h13 g13 w13 u13 => ?_)
      have F14 := F4.then rfl u13
      refine wi_aload_n (i := 0) (x := 1) (nx := 48) (r1 := 0) (r2 := 0) (r3 := 0) rfl rfl ?_
      refine wr_gi0 (k0 := 1) (x := h1 1 4) (nx := 51) (r1 := 1) (r2 := 4) (r3 := 0) rfl rfl (by decide) rfl ⟨rfl, rfl⟩ rfl (u13 1 4 rfl) ?_
      refine wi_aload_n (i := 0) (x := 1) (nx := 52) (r1 := 0) (r2 := 0) (r3 := 0) rfl rfl ?_
      refine wr_gi0 (k0 := 1) (x := h 1 1) (nx := 55) (r1 := 1) (r2 := 1) (r3 := 0) rfl rfl (by decide) rfl ⟨rfl, rfl⟩ rfl ((u13 1 1 rfl).trans (u1 1 1 rfl)) ?_
      refine wi_icmp (cd := .lt) (nx := 58) (r1 := 66) (r2 := 0) (r3 := 0) rfl (by omega) (by omega) (fun (q15 : (h1 1 4) < (h 1 1)) => ?_) (fun (q15 : ¬ ((h1 1 4) < (h 1 1))) => by exfalso; omega)
      refine wi_aload_n (i := 0) (x := 1) (nx := 67) (r1 := 0) (r2 := 0) (r3 := 0) rfl rfl ?_
      refine wr_gr (k0 := 1) (x := 2) (nx := 70) (r1 := 1) (r2 := 0) (r3 := 0) rfl rfl (by decide) rfl ⟨rfl, rfl⟩ rfl ?_
      refine wi_aload_n (i := 0) (x := 1) (nx := 71) (r1 := 0) (r2 := 0) (r3 := 0) rfl rfl ?_
      refine wr_gi0 (k0 := 1) (x := h1 1 4) (nx := 74) (r1 := 1) (r2 := 4) (r3 := 0) rfl rfl (by decide) rfl ⟨rfl, rfl⟩ rfl (u13 1 4 rfl) ?_
      refine wr_ba (k0 := 2) (a := h1 1 4) (f := i8) (x := h 2 i8) (nx := 75) (r1 := 0) (r2 := 0) (r3 := 0) rfl (by decide) rfl (by decide) (by omega) (by omega) (by decide) ((u13 2 i8 (fn_a (by omega) fn_0)).trans (u1 2 i8 (fn_a (by omega) fn_0))) ?_
      refine wi_S (rest := []) (as := [vi (h 2 i8)]) (nx := 78) (r1 := 96) (r2 := 17) (r3 := 0) rfl rfl rfl (of_decide_eq_true rfl) rfl rfl (of_decide_eq_true rfl) (of_decide_eq_true rfl) ?_
      refine ct_96 hcr  g13 (h 2 i8) (by omega)  (fun z17  (fz17 : 0 ≤ z17 ∧ z17 ≤ 1) m16_0 => ?_)
      refine wk_i ?_
      refine wi_if (cd := .eq) (nx := 81) (r1 := 88) (r2 := 0) (r3 := 0) rfl (by omega) (fun (q18 : z17 = 0) => ?_) (fun (q18 : ¬ (z17 = 0)) => ?_)
      ·
        refine wi_aload_n (i := 0) (x := 1) (nx := 89) (r1 := 0) (r2 := 0) (r3 := 0) rfl rfl ?_
        refine wr_gr (k0 := 1) (x := 2) (nx := 92) (r1 := 1) (r2 := 0) (r3 := 0) rfl rfl (by decide) rfl ⟨rfl, rfl⟩ rfl ?_
        refine wi_aload_n (i := 0) (x := 1) (nx := 93) (r1 := 0) (r2 := 0) (r3 := 0) rfl rfl ?_
        refine wr_gi0 (k0 := 1) (x := h1 1 4) (nx := 96) (r1 := 1) (r2 := 4) (r3 := 0) rfl rfl (by decide) rfl ⟨rfl, rfl⟩ rfl (u13 1 4 rfl) ?_
        refine wr_ba (k0 := 2) (a := h1 1 4) (f := i8) (x := h 2 i8) (nx := 97) (r1 := 0) (r2 := 0) (r3 := 0) rfl (by decide) rfl (by decide) (by omega) (by omega) (by decide) ((u13 2 i8 (fn_a (by omega) fn_0)).trans (u1 2 i8 (fn_a (by omega) fn_0))) ?_
        refine wi_S (rest := []) (as := [vi (h 2 i8)]) (nx := 100) (r1 := 98) (r2 := 17) (r3 := 0) rfl rfl rfl (of_decide_eq_true rfl) rfl rfl (of_decide_eq_true rfl) (of_decide_eq_true rfl) ?_
        refine ct_98 hcr  g13 (h 2 i8) (by omega)  (fun z20  (fz20 : 0 ≤ z20 ∧ z20 ≤ 1) m19_0 => ?_)
        refine wk_i ?_
        refine wi_if (cd := .eq) (nx := 103) (r1 := 110) (r2 := 0) (r3 := 0) rfl (by omega) (fun (q21 : z20 = 0) => ?_) (fun (q21 : ¬ (z20 = 0)) => ?_)
        ·
          refine wi_aload_n (i := 0) (x := 1) (nx := 111) (r1 := 0) (r2 := 0) (r3 := 0) rfl rfl ?_
          refine wi_aload_n (i := 0) (x := 1) (nx := 112) (r1 := 0) (r2 := 0) (r3 := 0) rfl rfl ?_
          refine wr_gr (k0 := 1) (x := 2) (nx := 115) (r1 := 1) (r2 := 0) (r3 := 0) rfl rfl (by decide) rfl ⟨rfl, rfl⟩ rfl ?_
          refine wi_aload_n (i := 0) (x := 1) (nx := 116) (r1 := 0) (r2 := 0) (r3 := 0) rfl rfl ?_
          refine wr_gi0 (k0 := 1) (x := h1 1 4) (nx := 119) (r1 := 1) (r2 := 4) (r3 := 0) rfl rfl (by decide) rfl ⟨rfl, rfl⟩ rfl (u13 1 4 rfl) ?_
          refine wr_ba (k0 := 2) (a := h1 1 4) (f := i8) (x := h 2 i8) (nx := 120) (r1 := 0) (r2 := 0) (r3 := 0) rfl (by decide) rfl (by decide) (by omega) (by omega) (by decide) ((u13 2 i8 (fn_a (by omega) fn_0)).trans (u1 2 i8 (fn_a (by omega) fn_0))) ?_
          refine wi_S (rest := [.ref 1]) (as := [vi (h 2 i8)]) (nx := 123) (r1 := 100) (r2 := 17) (r3 := 0) rfl rfl rfl (of_decide_eq_true rfl) rfl rfl (of_decide_eq_true rfl) (of_decide_eq_true rfl) ?_
          refine ct_100 hcr  g13 (h 2 i8) (by omega)  (fun z23  (fz23 : 3 ≤ z23 ∧ z23 ≤ 6) => ?_)
          refine wk_i ?_
          refine wr_pf0 (k0 := 1) (x := z23) (bl := 0) (bh := 6) (nx := 126) (r1 := 1) (r2 := 5) (r3 := 0) rfl (by decide) rfl ⟨rfl, rfl⟩ rfl rfl g13 rfl (by omega) (fun h24 g24 w24 u24 => ?_)
          have F25 := F14.then rfl u24
          refine wi_aload_n (i := 0) (x := 1) (nx := 127) (r1 := 0) (r2 := 0) (r3 := 0) rfl rfl ?_
          refine wi_dup (nx := 128) (r1 := 0) (r2 := 0) (r3 := 0) rfl rfl ?_
          refine wr_gi0 (k0 := 1) (x := h1 1 4) (nx := 131) (r1 := 1) (r2 := 4) (r3 := 0) rfl rfl (by decide) rfl ⟨rfl, rfl⟩ rfl ((u24 1 4 rfl).trans (u13 1 4 rfl)) ?_
          refine wi_iconst (n := 1) (nx := 132) (r1 := 0) (r2 := 0) (r3 := 0) rfl ?_
          refine wr_add (nx := 133) (r1 := 0) (r2 := 0) (r3 := 0) rfl (fun e26 (fe26 : e26 = (h1 1 4) + 1) => ?_)
          refine wr_pf0 (k0 := 1) (x := e26) (bl := 0) (bh := 800) (nx := 136) (r1 := 1) (r2 := 4) (r3 := 0) rfl (by decide) rfl ⟨rfl, rfl⟩ rfl rfl g24 rfl (by omega) (fun h27 g27 w27 u27 => ?_)
          have F28 := F25.then rfl u27
          refine wi_return (nx := 137) (r1 := 0) (r2 := 0) (r3 := 0) rfl rfl ?_
          exact k h27 g27 F28
        ·
          have f22 : 48 ≤ (h 2 i8) ∧ (h 2 i8) ≤ 57 := m19_0 (by omega)
          refine wi_aload_n (i := 0) (x := 1) (nx := 104) (r1 := 0) (r2 := 0) (r3 := 0) rfl rfl ?_
          refine wr_V (k0 := 1) (rest := []) (as := [.ref 1]) (nx := 107) (r1 := 99) (r2 := 0) (r3 := 1) rfl rfl rfl (of_decide_eq_true rfl) rfl rfl (by decide) rfl rfl (of_decide_eq_true rfl) (of_decide_eq_true rfl) ?_
          refine ct_99_1 hcr  g13    (fun h23 g23 u23 => ?_)
          have F24 := F14.then (by decide +kernel) u23
          refine wk_n ?_
          refine wi_goto (nx := 110) (r1 := 136) (r2 := 0) (r3 := 0) rfl ?_
          refine wi_return (nx := 137) (r1 := 0) (r2 := 0) (r3 := 0) rfl rfl ?_
          exact k h23 g23 F24
      ·
        have f19 : 97 ≤ (h 2 i8) ∧ (h 2 i8) ≤ 122 := m16_0 (by omega)
        refine wi_aload_n (i := 0) (x := 1) (nx := 82) (r1 := 0) (r2 := 0) (r3 := 0) rfl rfl ?_
        refine wr_V (k0 := 1) (rest := []) (as := [.ref 1]) (nx := 85) (r1 := 97) (r2 := 0) (r3 := 1) rfl rfl rfl (of_decide_eq_true rfl) rfl rfl (by decide) rfl rfl (of_decide_eq_true rfl) (of_decide_eq_true rfl) ?_
        refine ct_97_1 hcr  g13    (fun h20 g20 u20 => ?_)
        have F21 := F14.then (by decide +kernel) u20
        refine wk_n ?_
        refine wi_goto (nx := 88) (r1 := 136) (r2 := 0) (r3 := 0) rfl ?_
        refine wi_return (nx := 137) (r1 := 0) (r2 := 0) (r3 := 0) rfl rfl ?_
        exact k h20 g20 F21
    ·
      have f13 : 10 ≤ (h 2 i8) ∧ (h 2 i8) ≤ 32 := m10_0 (by omega)
      refine wi_aload_n (i := 0) (x := 1) (nx := 27) (r1 := 0) (r2 := 0) (r3 := 0) rfl rfl ?_
      refine wi_dup (nx := 28) (r1 := 0) (r2 := 0) (r3 := 0) rfl rfl ?_
      refine wr_gi0 (k0 := 1) (x := h1 1 4) (nx := 31) (r1 := 1) (r2 := 4) (r3 := 0) rfl rfl (by decide) rfl ⟨rfl, rfl⟩ rfl rfl ?_
      refine wi_iconst (n := 1) (nx := 32) (r1 := 0) (r2 := 0) (r3 := 0) rfl ?_
      refine wr_add (nx := 33) (r1 := 0) (r2 := 0) (r3 := 0) rfl (fun e14 (fe14 : e14 = (h1 1 4) + 1) => ?_)
      refine wr_pf0 (k0 := 1) (x := e14) (bl := 0) (bh := 800) (nx := 36) (r1 := 1) (r2 := 4) (r3 := 0) rfl (by decide) rfl ⟨rfl, rfl⟩ rfl rfl g1 rfl (by omega) (fun h15 g15 w15 u15 => ?_)
      have F16 := F4.then rfl u15
      have F17 := u1.then rfl u15
      refine wi_goto (nx := 39) (r1 := 0) (r2 := 0) (r3 := 0) rfl ?_
      have e18 : h15 1 1 = h 1 1 := ((u15 1 1 rfl).trans (u1 1 1 rfl))
      have e19 : h15 1 4 = e14 := w15
      exact I1 h15 ⟨g15, F16, F17, trivial⟩ (show ((h15 1 1) - (h15 1 4)).toNat < ((h1 1 1) - (h1 1 4)).toNat by omega)
-- method 101: Text.fail(I)Z
set_option maxRecDepth 100000 in
set_option maxHeartbeats 100000000 in
theorem ct_101_1 {L : Nat} {xs : Nat → Int32} {d b c : Nat} {h : hp} {cr : Nat → Nat → Option Nat} {Q : hp_Q} (hcr : CR cr)  (g : GI h) (a0 : Int) (q0_ : -2147483648 ≤ a0 ∧ a0 ≤ 2147483647)  (k : ∀ (h2 : hp) (z0 : Int) , GI h2 → FR [(1, 1, some (2, 2)), (1, 1, some (3, 3))] h h2 → (0 ≤ z0 ∧ z0 ≤ 0) → Q (.inl (some (vi z0))) (hp_w h2 cr) b c) : wp (md_xa (L, xs)) d 101 (0, [(0, .ref 1), (1, vi a0)], [], hp_w h cr, b, c) Q := by
  have F0 : FR [(1, 1, some (2, 2)), (1, 1, some (3, 3))] h h := FR.refl
  refine wi_aload_n (i := 0) (x := 1) (nx := 1) (r1 := 0) (r2 := 0) (r3 := 0) rfl rfl ?_
  refine wi_iload_n (i := 1) (e := a0) (nx := 2) (r1 := 0) (r2 := 0) (r3 := 0) rfl rfl ?_
  refine wr_pf0 (k0 := 1) (x := a0) (bl := -2147483648) (bh := 2147483647) (nx := 5) (r1 := 1) (r2 := 2) (r3 := 0) rfl (by decide) rfl ⟨rfl, rfl⟩ rfl rfl g rfl (by omega) (fun h1 g1 w1 u1 => ?_)
  have F2 := F0.then rfl u1
  refine wi_aload_n (i := 0) (x := 1) (nx := 6) (r1 := 0) (r2 := 0) (r3 := 0) rfl rfl ?_
  refine wi_aload_n (i := 0) (x := 1) (nx := 7) (r1 := 0) (r2 := 0) (r3 := 0) rfl rfl ?_
  have b3 := gi_b (lo := 0) (hi := 800) g 1 6 rfl
  refine wr_gi0 (k0 := 1) (x := h 1 6) (nx := 10) (r1 := 1) (r2 := 6) (r3 := 0) rfl rfl (by decide) rfl ⟨rfl, rfl⟩ rfl (u1 1 6 rfl) ?_
  refine wr_pf0 (k0 := 1) (x := h 1 6) (bl := -2147483648) (bh := 2147483647) (nx := 13) (r1 := 1) (r2 := 3) (r3 := 0) rfl (by decide) rfl ⟨rfl, rfl⟩ rfl rfl g1 rfl (by omega) (fun h4 g4 w4 u4 => ?_)
  have F5 := F2.then rfl u4
  refine wi_iconst (n := 0) (nx := 14) (r1 := 0) (r2 := 0) (r3 := 0) rfl ?_
  refine wi_zreturn (nx := 15) (r1 := 0) (r2 := 0) (r3 := 0) rfl rfl (by omega) ?_
  exact k h4 0 g4 F5 (by omega)
-- method 102: Text.takeWord(LPaintBank$Word;)Z
set_option maxRecDepth 100000 in
set_option maxHeartbeats 100000000 in
theorem ct_102_1 {L : Nat} {xs : Nat → Int32} {d b c : Nat} {h : hp} {cr : Nat → Nat → Option Nat} {Q : hp_Q} (hcr : CR cr)  (g : GI h) (a0 : Int) (q0_ : 1 ≤ a0 ∧ a0 ≤ 21)  (k : ∀ (h2 : hp) (z0 : Int) , GI h2 → FR [(1, 1, some (2, 2)), (1, 1, some (3, 3)), (1, 1, some (4, 4)), (1, 1, some (5, 5)), (1, 1, some (6, 6)), (1, 1, some (7, 7)), (1, 1, some (8, 8)), (1, 1, some (9, 9))] h h2 → (0 ≤ z0 ∧ z0 ≤ 1) → Q (.inl (some (vi z0))) (hp_w h2 cr) b c) : wp (md_xa (L, xs)) (d + 3) 102 (0, [(0, .ref 1), (1, wv a0)], [], hp_w h cr, b, c) Q := by
  have F0 : FR [(1, 1, some (2, 2)), (1, 1, some (3, 3)), (1, 1, some (4, 4)), (1, 1, some (5, 5)), (1, 1, some (6, 6)), (1, 1, some (7, 7)), (1, 1, some (8, 8)), (1, 1, some (9, 9))] h h := FR.refl
  refine wi_aload_n (i := 0) (x := 1) (nx := 1) (r1 := 0) (r2 := 0) (r3 := 0) rfl rfl ?_
  refine wr_V (k0 := 1) (rest := []) (as := [.ref 1]) (nx := 4) (r1 := 94) (r2 := 0) (r3 := 1) rfl rfl rfl (of_decide_eq_true rfl) rfl rfl (by decide) rfl rfl (of_decide_eq_true rfl) (of_decide_eq_true rfl) ?_
  refine ct_94_1 hcr  g    (fun h1 g1 u1 => ?_)
  have F2 := F0.then (by decide +kernel) u1
  refine wk_n ?_
  refine wi_aload_n (i := 0) (x := 1) (nx := 5) (r1 := 0) (r2 := 0) (r3 := 0) rfl rfl ?_
  have b3 := gi_b (lo := 0) (hi := 6) g1 1 5 rfl
  refine wr_gi0 (k0 := 1) (x := h1 1 5) (nx := 8) (r1 := 1) (r2 := 5) (r3 := 0) rfl rfl (by decide) rfl ⟨rfl, rfl⟩ rfl rfl ?_
  refine wi_iconst (n := 1) (nx := 9) (r1 := 0) (r2 := 0) (r3 := 0) rfl ?_
  refine wi_icmp (cd := .ne) (nx := 12) (r1 := 20) (r2 := 0) (r3 := 0) rfl (by omega) (by omega) (fun (q4 : (h1 1 5) ≠ 1) => ?_) (fun (q4 : ¬ ((h1 1 5) ≠ 1)) => ?_)
  ·
    refine wi_aload_n (i := 0) (x := 1) (nx := 21) (r1 := 0) (r2 := 0) (r3 := 0) rfl rfl ?_
    refine wi_iconst (n := 1) (nx := 22) (r1 := 0) (r2 := 0) (r3 := 0) rfl ?_
    refine wr_V (k0 := 1) (rest := []) (as := [.ref 1, vi 1]) (nx := 25) (r1 := 101) (r2 := 1) (r3 := 1) rfl rfl rfl (of_decide_eq_true rfl) rfl rfl (by decide) rfl rfl (of_decide_eq_true rfl) (of_decide_eq_true rfl) ?_
    refine ct_101_1 hcr  g1 1 (by omega)  (fun h5 z6 g5 u5 (fz6 : 0 ≤ z6 ∧ z6 ≤ 0) => ?_)
    have F7 := F2.then (by decide +kernel) u5
    refine wk_i ?_
    refine wi_if (cd := .eq) (nx := 28) (r1 := 32) (r2 := 0) (r3 := 0) rfl (by omega) (fun (q8 : z6 = 0) => ?_) (fun (q8 : ¬ (z6 = 0)) => by exfalso; omega)
    refine wi_iconst (n := 0) (nx := 33) (r1 := 0) (r2 := 0) (r3 := 0) rfl ?_
    refine wi_zreturn (nx := 34) (r1 := 0) (r2 := 0) (r3 := 0) rfl rfl (by omega) ?_
    exact k h5 0 g5 F7 (by omega)
  ·
    refine wi_aload_n (i := 0) (x := 1) (nx := 13) (r1 := 0) (r2 := 0) (r3 := 0) rfl rfl ?_
    have b5 := gi_b (lo := 1) (hi := 21) g1 1 9 rfl
    refine wr_gi3 (k0 := 1) (x := h1 1 9) (nx := 16) (r1 := 1) (r2 := 9) (r3 := 0) rfl rfl (by decide) rfl ⟨rfl, rfl⟩ rfl rfl ?_
    refine wi_aload_n (i := 1) (x := mm_XB + (a0 : Int).toNat) (nx := 17) (r1 := 0) (r2 := 0) (r3 := 0) rfl rfl ?_
    refine wr_acmp (cd := .eq) (x := h1 1 9) (y := a0) (nx := 20) (r1 := 28) (r2 := 0) (r3 := 0) rfl (by omega) (by omega) (fun (q6 : ((h1 1 9) = a0 ↔ Jvm.ClassFile.ACond.eq = .eq)) => ?_) (fun (q6 : ¬ ((h1 1 9) = a0 ↔ Jvm.ClassFile.ACond.eq = .eq)) => ?_)
    ·
      have q6 : ((h1 1 9) = a0) := by simpa using q6
      refine wi_iconst (n := 1) (nx := 29) (r1 := 0) (r2 := 0) (r3 := 0) rfl ?_
      refine wi_goto (nx := 32) (r1 := 33) (r2 := 0) (r3 := 0) rfl ?_
      refine wi_zreturn (nx := 34) (r1 := 0) (r2 := 0) (r3 := 0) rfl rfl (by omega) ?_
      exact k h1 1 g1 F2 (by omega)
    ·
      have q6 : ¬ ((h1 1 9) = a0) := by simpa using q6
      refine wi_aload_n (i := 0) (x := 1) (nx := 21) (r1 := 0) (r2 := 0) (r3 := 0) rfl rfl ?_
      refine wi_iconst (n := 1) (nx := 22) (r1 := 0) (r2 := 0) (r3 := 0) rfl ?_
      refine wr_V (k0 := 1) (rest := []) (as := [.ref 1, vi 1]) (nx := 25) (r1 := 101) (r2 := 1) (r3 := 1) rfl rfl rfl (of_decide_eq_true rfl) rfl rfl (by decide) rfl rfl (of_decide_eq_true rfl) (of_decide_eq_true rfl) ?_
      refine ct_101_1 hcr  g1 1 (by omega)  (fun h7 z8 g7 u7 (fz8 : 0 ≤ z8 ∧ z8 ≤ 0) => ?_)
      have F9 := F2.then (by decide +kernel) u7
      refine wk_i ?_
      refine wi_if (cd := .eq) (nx := 28) (r1 := 32) (r2 := 0) (r3 := 0) rfl (by omega) (fun (q10 : z8 = 0) => ?_) (fun (q10 : ¬ (z8 = 0)) => by exfalso; omega)
      refine wi_iconst (n := 0) (nx := 33) (r1 := 0) (r2 := 0) (r3 := 0) rfl ?_
      refine wi_zreturn (nx := 34) (r1 := 0) (r2 := 0) (r3 := 0) rfl rfl (by omega) ?_
      exact k h7 0 g7 F9 (by omega)
-- method 115: Setup.colorNamed(J)I
set_option maxRecDepth 100000 in
set_option maxHeartbeats 100000000 in
theorem ct_115_11 {L : Nat} {xs : Nat → Int32} {d b c : Nat} {h : hp} {cr : Nat → Nat → Option Nat} {Q : hp_Q} (hcr : CR cr)  (g : GI h) (a0 : Int) (q0_ : -9223372036854775808 ≤ a0 ∧ a0 ≤ 9223372036854775807)  (k : ∀ (z0 : Int), (-1 ≤ z0 ∧ z0 ≤ 4) → Q (.inl (some (vi z0))) (hp_w h cr) b c) : wp (md_xa (L, xs)) d 115 (0, [(0, .ref 11), (1, vl a0)], [], hp_w h cr, b, c) Q := by
  have F0 : FR [] h h := FR.refl
  refine wi_iconst (n := 0) (nx := 1) (r1 := 0) (r2 := 0) (r3 := 0) rfl ?_
  refine wi_istore_n (i := 3) (e := 0) (lo2 := [(3, vi 0), (0, .ref 11), (1, vl a0)]) (nx := 2) (r1 := 0) (r2 := 0) (r3 := 0) rfl rfl ?_
  refine wp.lo (lo := [(0, .ref 11), (1, vl a0), (3, vi 0)]) ⟨rfl, rfl, rfl, trivial⟩ rfl ?_
  refine wl_1 (fun x1 h2 => h = h2 ∧ ((0 ≤ x1 ∧ x1 ≤ 5))) (fun x1 h2 => ((5 : Int) + 1 - x1).toNat) (fun x1 h2 => (2, [(0, .ref 11), (1, vl a0), (3, vi x1)], [], hp_w h2 cr, b, c)) ?_ 0 h ⟨rfl, (show (0 ≤ 0 ∧ 0 ≤ 5) by omega)⟩
  intro x1 h2 ⟨e2, f2⟩ I2
  subst e2
  refine wi_iload_n (i := 3) (e := x1) (nx := 3) (r1 := 0) (r2 := 0) (r3 := 0) rfl rfl ?_
  refine wi_aload_n (i := 0) (x := 11) (nx := 4) (r1 := 0) (r2 := 0) (r3 := 0) rfl rfl ?_
  have b4 := gi_b (lo := 0) (hi := 5) g 11 0 rfl
  refine wr_gi0 (k0 := 11) (x := h 11 0) (nx := 7) (r1 := 2) (r2 := 0) (r3 := 0) rfl rfl (by decide) rfl ⟨rfl, rfl⟩ rfl rfl ?_
  refine wi_icmp (cd := .ge) (nx := 10) (r1 := 29) (r2 := 0) (r3 := 0) rfl (by omega) (by omega) (fun (q5 : (h 11 0) ≤ x1) => ?_) (fun (q5 : ¬ ((h 11 0) ≤ x1)) => ?_)
  ·
    refine wi_iconst (n := (-1)) (nx := 30) (r1 := 0) (r2 := 0) (r3 := 0) rfl ?_
    refine wi_ireturn (nx := 31) (r1 := 0) (r2 := 0) (r3 := 0) rfl rfl ?_
    exact k (-1) (by omega)
  ·
    refine wi_aload_n (i := 0) (x := 11) (nx := 11) (r1 := 0) (r2 := 0) (r3 := 0) rfl rfl ?_
    refine wr_gr (k0 := 11) (x := 12) (nx := 14) (r1 := 2) (r2 := 10) (r3 := 0) rfl rfl (by decide) rfl ⟨rfl, rfl⟩ rfl ?_
    refine wi_iload_n (i := 3) (e := x1) (nx := 15) (r1 := 0) (r2 := 0) (r3 := 0) rfl rfl ?_
    obtain ⟨i6, ei6⟩ : ∃ q : Nat, x1 = (q : Int) := ⟨(x1).toNat, by omega⟩
    have b7 := gi_b (lo := -9223372036854775808) (hi := 9223372036854775807) g 12 i6 rfl
    refine wr_la (k0 := 12) (a := x1) (f := i6) (x := h 12 i6) (nx := 16) (r1 := 0) (r2 := 0) (r3 := 0) rfl (by decide) rfl (by omega) (by omega) (by decide) rfl ?_
    refine wi_lload_n (i := 1) (e := a0) (nx := 17) (r1 := 0) (r2 := 0) (r3 := 0) rfl rfl ?_
    refine wi_lcmp (a := h 12 i6) (e := a0) (nx := 18) (r1 := 0) (r2 := 0) (r3 := 0) rfl (by omega) (by omega) (fun r8 (fr8 : (r8 = -1 ∧ (h 12 i6) < a0) ∨ (r8 = 0 ∧ (h 12 i6) = a0) ∨ (r8 = 1 ∧ a0 < (h 12 i6))) => ?_)
    refine wi_if (cd := .ne) (nx := 21) (r1 := 23) (r2 := 0) (r3 := 0) rfl (by omega) (fun (q9 : r8 ≠ 0) => ?_) (fun (q9 : ¬ (r8 ≠ 0)) => ?_)
    ·
      refine wr_iinc (i := 3) (n := 1) (v := x1) (fun e10 => [(3, vi e10), (0, .ref 11), (1, vl a0)]) (nx := 26) (r1 := 0) (r2 := 0) (r3 := 0) rfl rfl (fun _ => rfl) (fun e10 (fe10 : e10 = x1 + 1) => ?_)
      refine wi_goto (nx := 29) (r1 := 2) (r2 := 0) (r3 := 0) rfl ?_
      refine wp.lo (lo := [(0, .ref 11), (1, vl a0), (3, vi e10)]) ⟨rfl, rfl, rfl, trivial⟩ rfl ?_
      exact I2 e10 h ⟨rfl, (show (0 ≤ e10 ∧ e10 ≤ 5) by omega)⟩ (show ((5 : Int) + 1 - e10).toNat < ((5 : Int) + 1 - x1).toNat by omega)
    ·
      refine wi_iload_n (i := 3) (e := x1) (nx := 22) (r1 := 0) (r2 := 0) (r3 := 0) rfl rfl ?_
      refine wi_ireturn (nx := 23) (r1 := 0) (r2 := 0) (r3 := 0) rfl rfl ?_
      exact k x1 (by omega)
-- method 103: Text.takeNumber(II)Z
set_option maxRecDepth 100000 in
set_option maxHeartbeats 100000000 in
theorem ct_103_1 {L : Nat} {xs : Nat → Int32} {d b c : Nat} {h : hp} {cr : Nat → Nat → Option Nat} {Q : hp_Q} (hcr : CR cr)  (g : GI h) (a0 : Int) (a1 : Int) (q0_ : -2147483648 ≤ a0 ∧ a0 ≤ 2147483647) (q1_ : -2147483648 ≤ a1 ∧ a1 ≤ 2147483647)  (k : ∀ (h2 : hp) (z0 : Int) , GI h2 → FR [(1, 1, some (2, 2)), (1, 1, some (3, 3)), (1, 1, some (4, 4)), (1, 1, some (5, 5)), (1, 1, some (6, 6)), (1, 1, some (7, 7)), (1, 1, some (8, 8)), (1, 1, some (9, 9))] h h2 → (0 ≤ z0 ∧ z0 ≤ 1) → Q (.inl (some (vi z0))) (hp_w h2 cr) b c) : wp (md_xa (L, xs)) (d + 3) 103 (0, [(0, .ref 1), (1, vi a0), (2, vi a1)], [], hp_w h cr, b, c) Q := by
  have F0 : FR [(1, 1, some (2, 2)), (1, 1, some (3, 3)), (1, 1, some (4, 4)), (1, 1, some (5, 5)), (1, 1, some (6, 6)), (1, 1, some (7, 7)), (1, 1, some (8, 8)), (1, 1, some (9, 9))] h h := FR.refl
  refine wi_aload_n (i := 0) (x := 1) (nx := 1) (r1 := 0) (r2 := 0) (r3 := 0) rfl rfl ?_
  refine wr_V (k0 := 1) (rest := []) (as := [.ref 1]) (nx := 4) (r1 := 94) (r2 := 0) (r3 := 1) rfl rfl rfl (of_decide_eq_true rfl) rfl rfl (by decide) rfl rfl (of_decide_eq_true rfl) (of_decide_eq_true rfl) ?_
  refine ct_94_1 hcr  g    (fun h1 g1 u1 => ?_)
  have F2 := F0.then (by decide +kernel) u1
  refine wk_n ?_
  refine wi_aload_n (i := 0) (x := 1) (nx := 5) (r1 := 0) (r2 := 0) (r3 := 0) rfl rfl ?_
  have b3 := gi_b (lo := 0) (hi := 6) g1 1 5 rfl
  refine wr_gi0 (k0 := 1) (x := h1 1 5) (nx := 8) (r1 := 1) (r2 := 5) (r3 := 0) rfl rfl (by decide) rfl ⟨rfl, rfl⟩ rfl rfl ?_
  refine wi_iconst (n := 2) (nx := 9) (r1 := 0) (r2 := 0) (r3 := 0) rfl ?_
  refine wi_icmp (cd := .eq) (nx := 12) (r1 := 18) (r2 := 0) (r3 := 0) rfl (by omega) (by omega) (fun (q4 : (h1 1 5) = 2) => ?_) (fun (q4 : ¬ ((h1 1 5) = 2)) => ?_)
  ·
    refine wi_aload_n (i := 0) (x := 1) (nx := 19) (r1 := 0) (r2 := 0) (r3 := 0) rfl rfl ?_
    have b5 := gi_b (lo := -2147483648) (hi := 2147483647) g1 1 7 rfl
    refine wr_gi0 (k0 := 1) (x := h1 1 7) (nx := 22) (r1 := 1) (r2 := 7) (r3 := 0) rfl rfl (by decide) rfl ⟨rfl, rfl⟩ rfl rfl ?_
    refine wi_iload_n (i := 1) (e := a0) (nx := 23) (r1 := 0) (r2 := 0) (r3 := 0) rfl rfl ?_
    refine wi_icmp (cd := .lt) (nx := 26) (r1 := 34) (r2 := 0) (r3 := 0) rfl (by omega) (by omega) (fun (q6 : (h1 1 7) < a0) => ?_) (fun (q6 : ¬ ((h1 1 7) < a0)) => ?_)
    ·
      refine wi_aload_n (i := 0) (x := 1) (nx := 35) (r1 := 0) (r2 := 0) (r3 := 0) rfl rfl ?_
      refine wi_iconst (n := 2) (nx := 36) (r1 := 0) (r2 := 0) (r3 := 0) rfl ?_
      refine wr_V (k0 := 1) (rest := []) (as := [.ref 1, vi 2]) (nx := 39) (r1 := 101) (r2 := 1) (r3 := 1) rfl rfl rfl (of_decide_eq_true rfl) rfl rfl (by decide) rfl rfl (of_decide_eq_true rfl) (of_decide_eq_true rfl) ?_
      refine ct_101_1 hcr  g1 2 (by omega)  (fun h7 z8 g7 u7 (fz8 : 0 ≤ z8 ∧ z8 ≤ 0) => ?_)
      have F9 := F2.then (by decide +kernel) u7
      refine wk_i ?_
      refine wi_if (cd := .eq) (nx := 42) (r1 := 46) (r2 := 0) (r3 := 0) rfl (by omega) (fun (q10 : z8 = 0) => ?_) (fun (q10 : ¬ (z8 = 0)) => by exfalso; omega)
      refine wi_iconst (n := 0) (nx := 47) (r1 := 0) (r2 := 0) (r3 := 0) rfl ?_
      refine wi_zreturn (nx := 48) (r1 := 0) (r2 := 0) (r3 := 0) rfl rfl (by omega) ?_
      exact k h7 0 g7 F9 (by omega)
    ·
      refine wi_aload_n (i := 0) (x := 1) (nx := 27) (r1 := 0) (r2 := 0) (r3 := 0) rfl rfl ?_
      refine wr_gi0 (k0 := 1) (x := h1 1 7) (nx := 30) (r1 := 1) (r2 := 7) (r3 := 0) rfl rfl (by decide) rfl ⟨rfl, rfl⟩ rfl rfl ?_
      refine wi_iload_n (i := 2) (e := a1) (nx := 31) (r1 := 0) (r2 := 0) (r3 := 0) rfl rfl ?_
      refine wi_icmp (cd := .le) (nx := 34) (r1 := 42) (r2 := 0) (r3 := 0) rfl (by omega) (by omega) (fun (q7 : (h1 1 7) ≤ a1) => ?_) (fun (q7 : ¬ ((h1 1 7) ≤ a1)) => ?_)
      ·
        refine wi_iconst (n := 1) (nx := 43) (r1 := 0) (r2 := 0) (r3 := 0) rfl ?_
        refine wi_goto (nx := 46) (r1 := 47) (r2 := 0) (r3 := 0) rfl ?_
        refine wi_zreturn (nx := 48) (r1 := 0) (r2 := 0) (r3 := 0) rfl rfl (by omega) ?_
        exact k h1 1 g1 F2 (by omega)
      ·
        refine wi_aload_n (i := 0) (x := 1) (nx := 35) (r1 := 0) (r2 := 0) (r3 := 0) rfl rfl ?_
        refine wi_iconst (n := 2) (nx := 36) (r1 := 0) (r2 := 0) (r3 := 0) rfl ?_
        refine wr_V (k0 := 1) (rest := []) (as := [.ref 1, vi 2]) (nx := 39) (r1 := 101) (r2 := 1) (r3 := 1) rfl rfl rfl (of_decide_eq_true rfl) rfl rfl (by decide) rfl rfl (of_decide_eq_true rfl) (of_decide_eq_true rfl) ?_
        refine ct_101_1 hcr  g1 2 (by omega)  (fun h8 z9 g8 u8 (fz9 : 0 ≤ z9 ∧ z9 ≤ 0) => ?_)
        have F10 := F2.then (by decide +kernel) u8
        refine wk_i ?_
        refine wi_if (cd := .eq) (nx := 42) (r1 := 46) (r2 := 0) (r3 := 0) rfl (by omega) (fun (q11 : z9 = 0) => ?_) (fun (q11 : ¬ (z9 = 0)) => by exfalso; omega)
        refine wi_iconst (n := 0) (nx := 47) (r1 := 0) (r2 := 0) (r3 := 0) rfl ?_
        refine wi_zreturn (nx := 48) (r1 := 0) (r2 := 0) (r3 := 0) rfl rfl (by omega) ?_
        exact k h8 0 g8 F10 (by omega)
  ·
    refine wi_aload_n (i := 0) (x := 1) (nx := 13) (r1 := 0) (r2 := 0) (r3 := 0) rfl rfl ?_
    refine wi_iconst (n := 1) (nx := 14) (r1 := 0) (r2 := 0) (r3 := 0) rfl ?_
    refine wr_V (k0 := 1) (rest := []) (as := [.ref 1, vi 1]) (nx := 17) (r1 := 101) (r2 := 1) (r3 := 1) rfl rfl rfl (of_decide_eq_true rfl) rfl rfl (by decide) rfl rfl (of_decide_eq_true rfl) (of_decide_eq_true rfl) ?_
    refine ct_101_1 hcr  g1 1 (by omega)  (fun h5 z6 g5 u5 (fz6 : 0 ≤ z6 ∧ z6 ≤ 0) => ?_)
    have F7 := F2.then (by decide +kernel) u5
    refine wk_i ?_
    refine wi_zreturn (nx := 18) (r1 := 0) (r2 := 0) (r3 := 0) rfl rfl (by omega) ?_
    exact k h5 z6 g5 F7 (by omega)
-- method 119: SetupReader.readColor()Z
set_option maxRecDepth 100000 in
set_option maxHeartbeats 100000000 in
theorem ct_119_10 {L : Nat} {xs : Nat → Int32} {d b c : Nat} {h : hp} {cr : Nat → Nat → Option Nat} {Q : hp_Q} (hcr : CR cr)  (g : GI h)    (k : ∀ (h2 : hp) (z0 : Int) , GI h2 → FR [(12, 12, none), (13, 13, none), (1, 1, some (2, 2)), (1, 1, some (3, 3)), (1, 1, some (4, 4)), (1, 1, some (5, 5)), (1, 1, some (6, 6)), (1, 1, some (7, 7)), (1, 1, some (8, 8)), (1, 1, some (9, 9)), (11, 11, some (0, 0))] h h2 → (0 ≤ z0 ∧ z0 ≤ 1) → Q (.inl (some (vi z0))) (hp_w h2 cr) b c) : wp (md_xa (L, xs)) (d + 4) 119 (0, [(0, .ref 10)], [], hp_w h cr, b, c) Q := by
  have F0 : FR [(12, 12, none), (13, 13, none), (1, 1, some (2, 2)), (1, 1, some (3, 3)), (1, 1, some (4, 4)), (1, 1, some (5, 5)), (1, 1, some (6, 6)), (1, 1, some (7, 7)), (1, 1, some (8, 8)), (1, 1, some (9, 9)), (11, 11, some (0, 0))] h h := FR.refl
  refine wi_aload_n (i := 0) (x := 10) (nx := 1) (r1 := 0) (r2 := 0) (r3 := 0) rfl rfl ?_
  refine wr_gr (k0 := 10) (x := 11) (nx := 4) (r1 := 3) (r2 := 0) (r3 := 0) rfl rfl (by decide) rfl ⟨rfl, rfl⟩ rfl ?_
  have b1 := gi_b (lo := 0) (hi := 5) g 11 0 rfl
  refine wr_gi0 (k0 := 11) (x := h 11 0) (nx := 7) (r1 := 2) (r2 := 0) (r3 := 0) rfl rfl (by decide) rfl ⟨rfl, rfl⟩ rfl rfl ?_
  refine wi_istore_n (i := 1) (e := h 11 0) (lo2 := [(1, vi (h 11 0)), (0, .ref 10)]) (nx := 8) (r1 := 0) (r2 := 0) (r3 := 0) rfl rfl ?_
  refine wi_iload_n (i := 1) (e := h 11 0) (nx := 9) (r1 := 0) (r2 := 0) (r3 := 0) rfl rfl ?_
  refine wi_iconst (n := 5) (nx := 10) (r1 := 0) (r2 := 0) (r3 := 0) rfl ?_
  refine wi_icmp (cd := .lt) (nx := 13) (r1 := 22) (r2 := 0) (r3 := 0) rfl (by omega) (by omega) (fun (q2 : (h 11 0) < 5) => ?_) (fun (q2 : ¬ ((h 11 0) < 5)) => ?_)
  ·
    refine wi_aload_n (i := 0) (x := 10) (nx := 23) (r1 := 0) (r2 := 0) (r3 := 0) rfl rfl ?_
    refine wr_gr (k0 := 10) (x := 1) (nx := 26) (r1 := 3) (r2 := 1) (r3 := 0) rfl rfl (by decide) rfl ⟨rfl, rfl⟩ rfl ?_
    refine wr_gst (v := wv 21) (nx := 29) (r1 := 20) (r2 := 0) (r3 := 0) rfl rfl rfl ?_
    refine wr_V (k0 := 1) (rest := []) (as := [.ref 1, wv 21]) (nx := 32) (r1 := 102) (r2 := 1) (r3 := 1) rfl rfl rfl (of_decide_eq_true rfl) rfl rfl (by decide) rfl rfl (of_decide_eq_true rfl) (of_decide_eq_true rfl) ?_
    refine ct_102_1 hcr  g 21 (by omega)  (fun h3 z4 g3 u3 (fz4 : 0 ≤ z4 ∧ z4 ≤ 1) => ?_)
    have F5 := F0.then (by decide +kernel) u3
    refine wk_i ?_
    refine wi_if (cd := .ne) (nx := 35) (r1 := 37) (r2 := 0) (r3 := 0) rfl (by omega) (fun (q6 : z4 ≠ 0) => ?_) (fun (q6 : ¬ (z4 ≠ 0)) => ?_)
    ·
      refine wi_aload_n (i := 0) (x := 10) (nx := 38) (r1 := 0) (r2 := 0) (r3 := 0) rfl rfl ?_
      refine wr_gr (k0 := 10) (x := 11) (nx := 41) (r1 := 3) (r2 := 0) (r3 := 0) rfl rfl (by decide) rfl ⟨rfl, rfl⟩ rfl ?_
      refine wi_aload_n (i := 0) (x := 10) (nx := 42) (r1 := 0) (r2 := 0) (r3 := 0) rfl rfl ?_
      refine wr_gr (k0 := 10) (x := 1) (nx := 45) (r1 := 3) (r2 := 1) (r3 := 0) rfl rfl (by decide) rfl ⟨rfl, rfl⟩ rfl ?_
      have b7 := gi_b (lo := -9223372036854775808) (hi := 9223372036854775807) g3 1 8 rfl
      refine wr_gi1 (k0 := 1) (x := h3 1 8) (nx := 48) (r1 := 1) (r2 := 8) (r3 := 0) rfl rfl (by decide) rfl ⟨rfl, rfl⟩ rfl rfl ?_
      refine wr_V (k0 := 11) (rest := []) (as := [.ref 11, vl (h3 1 8)]) (nx := 51) (r1 := 115) (r2 := 1) (r3 := 2) rfl rfl rfl (of_decide_eq_true rfl) rfl rfl (by decide) rfl rfl (of_decide_eq_true rfl) (of_decide_eq_true rfl) ?_
      refine ct_115_11 hcr  g3 (h3 1 8) (by omega)  (fun z9  (fz9 : -1 ≤ z9 ∧ z9 ≤ 4) => ?_)
      refine wk_i ?_
      refine wi_iconst (n := (-1)) (nx := 52) (r1 := 0) (r2 := 0) (r3 := 0) rfl ?_
      refine wi_icmp (cd := .eq) (nx := 55) (r1 := 64) (r2 := 0) (r3 := 0) rfl (by omega) (by omega) (fun (q10 : z9 = (-1)) => ?_) (fun (q10 : ¬ (z9 = (-1))) => ?_)
      ·
        refine wi_aload_n (i := 0) (x := 10) (nx := 65) (r1 := 0) (r2 := 0) (r3 := 0) rfl rfl ?_
        refine wr_gr (k0 := 10) (x := 11) (nx := 68) (r1 := 3) (r2 := 0) (r3 := 0) rfl rfl (by decide) rfl ⟨rfl, rfl⟩ rfl ?_
        refine wr_gr (k0 := 11) (x := 12) (nx := 71) (r1 := 2) (r2 := 10) (r3 := 0) rfl rfl (by decide) rfl ⟨rfl, rfl⟩ rfl ?_
        refine wi_iload_n (i := 1) (e := h 11 0) (nx := 72) (r1 := 0) (r2 := 0) (r3 := 0) rfl rfl ?_
        refine wi_aload_n (i := 0) (x := 10) (nx := 73) (r1 := 0) (r2 := 0) (r3 := 0) rfl rfl ?_
        refine wr_gr (k0 := 10) (x := 1) (nx := 76) (r1 := 3) (r2 := 1) (r3 := 0) rfl rfl (by decide) rfl ⟨rfl, rfl⟩ rfl ?_
        refine wr_gi1 (k0 := 1) (x := h3 1 8) (nx := 79) (r1 := 1) (r2 := 8) (r3 := 0) rfl rfl (by decide) rfl ⟨rfl, rfl⟩ rfl rfl ?_
        obtain ⟨i11, ei11⟩ : ∃ q : Nat, (h 11 0) = (q : Int) := ⟨(h 11 0).toNat, by omega⟩
        refine wr_ls (k0 := 12) (a := h 11 0) (f := i11) (x := h3 1 8) (bl := -9223372036854775808) (bh := 9223372036854775807) (nx := 80) (r1 := 0) (r2 := 0) (r3 := 0) rfl (by decide) rfl (by omega) (by omega) (by decide) g3 rfl (by omega) (fun h12 g12 w12 u12 => ?_)
        have F13 := F5.then rfl (FR.rngp (lo := 12) (hi := 12) u12 (by decide))
        refine wi_aload_n (i := 0) (x := 10) (nx := 81) (r1 := 0) (r2 := 0) (r3 := 0) rfl rfl ?_
        refine wr_gr (k0 := 10) (x := 1) (nx := 84) (r1 := 3) (r2 := 1) (r3 := 0) rfl rfl (by decide) rfl ⟨rfl, rfl⟩ rfl ?_
        refine wr_gst (v := wv 2) (nx := 87) (r1 := 1) (r2 := 0) (r3 := 0) rfl rfl rfl ?_
        refine wr_V (k0 := 1) (rest := []) (as := [.ref 1, wv 2]) (nx := 90) (r1 := 102) (r2 := 1) (r3 := 1) rfl rfl rfl (of_decide_eq_true rfl) rfl rfl (by decide) rfl rfl (of_decide_eq_true rfl) (of_decide_eq_true rfl) ?_
        refine ct_102_1 hcr  g12 2 (by omega)  (fun h14 z15 g14 u14 (fz15 : 0 ≤ z15 ∧ z15 ≤ 1) => ?_)
        have F16 := F13.then (by decide +kernel) u14
        refine wk_i ?_
        refine wi_if (cd := .eq) (nx := 93) (r1 := 106) (r2 := 0) (r3 := 0) rfl (by omega) (fun (q17 : z15 = 0) => ?_) (fun (q17 : ¬ (z15 = 0)) => ?_)
        ·
          refine wi_iconst (n := 0) (nx := 107) (r1 := 0) (r2 := 0) (r3 := 0) rfl ?_
          refine wi_zreturn (nx := 108) (r1 := 0) (r2 := 0) (r3 := 0) rfl rfl (by omega) ?_
          exact k h14 0 g14 F16 (by omega)
        ·
          refine wi_aload_n (i := 0) (x := 10) (nx := 94) (r1 := 0) (r2 := 0) (r3 := 0) rfl rfl ?_
          refine wr_gr (k0 := 10) (x := 1) (nx := 97) (r1 := 3) (r2 := 1) (r3 := 0) rfl rfl (by decide) rfl ⟨rfl, rfl⟩ rfl ?_
          refine wi_iconst (n := 0) (nx := 98) (r1 := 0) (r2 := 0) (r3 := 0) rfl ?_
          refine wi_bipush (n := 99) (nx := 100) (r1 := 0) (r2 := 0) (r3 := 0) rfl (by decide) ?_
          refine wr_V (k0 := 1) (rest := []) (as := [.ref 1, vi 0, vi 99]) (nx := 103) (r1 := 103) (r2 := 2) (r3 := 1) rfl rfl rfl (of_decide_eq_true rfl) rfl rfl (by decide) rfl rfl (of_decide_eq_true rfl) (of_decide_eq_true rfl) ?_
          refine ct_103_1 hcr  g14 0 99 (by omega) (by omega)  (fun h18 z19 g18 u18 (fz19 : 0 ≤ z19 ∧ z19 ≤ 1) => ?_)
          have F20 := F16.then (by decide +kernel) u18
          refine wk_i ?_
          refine wi_if (cd := .ne) (nx := 106) (r1 := 108) (r2 := 0) (r3 := 0) rfl (by omega) (fun (q21 : z19 ≠ 0) => ?_) (fun (q21 : ¬ (z19 ≠ 0)) => ?_)
          ·
            refine wi_aload_n (i := 0) (x := 10) (nx := 109) (r1 := 0) (r2 := 0) (r3 := 0) rfl rfl ?_
            refine wr_gr (k0 := 10) (x := 11) (nx := 112) (r1 := 3) (r2 := 0) (r3 := 0) rfl rfl (by decide) rfl ⟨rfl, rfl⟩ rfl ?_
            refine wr_gr (k0 := 11) (x := 13) (nx := 115) (r1 := 2) (r2 := 11) (r3 := 0) rfl rfl (by decide) rfl ⟨rfl, rfl⟩ rfl ?_
            refine wi_iload_n (i := 1) (e := h 11 0) (nx := 116) (r1 := 0) (r2 := 0) (r3 := 0) rfl rfl ?_
            refine wi_aload_n (i := 0) (x := 10) (nx := 117) (r1 := 0) (r2 := 0) (r3 := 0) rfl rfl ?_
            refine wr_gr (k0 := 10) (x := 1) (nx := 120) (r1 := 3) (r2 := 1) (r3 := 0) rfl rfl (by decide) rfl ⟨rfl, rfl⟩ rfl ?_
            have b22 := gi_b (lo := -2147483648) (hi := 2147483647) g18 1 7 rfl
            refine wr_gi0 (k0 := 1) (x := h18 1 7) (nx := 123) (r1 := 1) (r2 := 7) (r3 := 0) rfl rfl (by decide) rfl ⟨rfl, rfl⟩ rfl rfl ?_
            refine wr_is (k0 := 13) (a := h 11 0) (f := i11) (x := h18 1 7) (bl := -2147483648) (bh := 2147483647) (nx := 124) (r1 := 0) (r2 := 0) (r3 := 0) rfl (by decide) rfl (by omega) (by omega) (by decide) g18 rfl (by omega) (fun h23 g23 w23 u23 => ?_)
            have F24 := F20.then rfl (FR.rngp (lo := 13) (hi := 13) u23 (by decide))
            refine wi_aload_n (i := 0) (x := 10) (nx := 125) (r1 := 0) (r2 := 0) (r3 := 0) rfl rfl ?_
            refine wr_gr (k0 := 10) (x := 11) (nx := 128) (r1 := 3) (r2 := 0) (r3 := 0) rfl rfl (by decide) rfl ⟨rfl, rfl⟩ rfl ?_
            refine wi_iload_n (i := 1) (e := h 11 0) (nx := 129) (r1 := 0) (r2 := 0) (r3 := 0) rfl rfl ?_
            refine wi_iconst (n := 1) (nx := 130) (r1 := 0) (r2 := 0) (r3 := 0) rfl ?_
            refine wr_add (nx := 131) (r1 := 0) (r2 := 0) (r3 := 0) rfl (fun e25 (fe25 : e25 = (h 11 0) + 1) => ?_)
            refine wr_pf0 (k0 := 11) (x := e25) (bl := 0) (bh := 5) (nx := 134) (r1 := 2) (r2 := 0) (r3 := 0) rfl (by decide) rfl ⟨rfl, rfl⟩ rfl rfl g23 rfl (by omega) (fun h26 g26 w26 u26 => ?_)
            have F27 := F24.then rfl u26
            refine wi_iconst (n := 1) (nx := 135) (r1 := 0) (r2 := 0) (r3 := 0) rfl ?_
            refine wi_zreturn (nx := 136) (r1 := 0) (r2 := 0) (r3 := 0) rfl rfl (by omega) ?_
            exact k h26 1 g26 F27 (by omega)
          ·
            refine wi_iconst (n := 0) (nx := 107) (r1 := 0) (r2 := 0) (r3 := 0) rfl ?_
            refine wi_zreturn (nx := 108) (r1 := 0) (r2 := 0) (r3 := 0) rfl rfl (by omega) ?_
            exact k h18 0 g18 F20 (by omega)
      ·
        refine wi_aload_n (i := 0) (x := 10) (nx := 56) (r1 := 0) (r2 := 0) (r3 := 0) rfl rfl ?_
        refine wr_gr (k0 := 10) (x := 1) (nx := 59) (r1 := 3) (r2 := 1) (r3 := 0) rfl rfl (by decide) rfl ⟨rfl, rfl⟩ rfl ?_
        refine wi_iconst (n := 3) (nx := 60) (r1 := 0) (r2 := 0) (r3 := 0) rfl ?_
        refine wr_V (k0 := 1) (rest := []) (as := [.ref 1, vi 3]) (nx := 63) (r1 := 101) (r2 := 1) (r3 := 1) rfl rfl rfl (of_decide_eq_true rfl) rfl rfl (by decide) rfl rfl (of_decide_eq_true rfl) (of_decide_eq_true rfl) ?_
        refine ct_101_1 hcr  g3 3 (by omega)  (fun h11 z12 g11 u11 (fz12 : 0 ≤ z12 ∧ z12 ≤ 0) => ?_)
        have F13 := F5.then (by decide +kernel) u11
        refine wk_i ?_
        refine wi_zreturn (nx := 64) (r1 := 0) (r2 := 0) (r3 := 0) rfl rfl (by omega) ?_
        exact k h11 z12 g11 F13 (by omega)
    ·
      refine wi_iconst (n := 0) (nx := 36) (r1 := 0) (r2 := 0) (r3 := 0) rfl ?_
      refine wi_zreturn (nx := 37) (r1 := 0) (r2 := 0) (r3 := 0) rfl rfl (by omega) ?_
      exact k h3 0 g3 F5 (by omega)
  ·
    refine wi_aload_n (i := 0) (x := 10) (nx := 14) (r1 := 0) (r2 := 0) (r3 := 0) rfl rfl ?_
    refine wr_gr (k0 := 10) (x := 1) (nx := 17) (r1 := 3) (r2 := 1) (r3 := 0) rfl rfl (by decide) rfl ⟨rfl, rfl⟩ rfl ?_
    refine wi_iconst (n := 5) (nx := 18) (r1 := 0) (r2 := 0) (r3 := 0) rfl ?_
    refine wr_V (k0 := 1) (rest := []) (as := [.ref 1, vi 5]) (nx := 21) (r1 := 101) (r2 := 1) (r3 := 1) rfl rfl rfl (of_decide_eq_true rfl) rfl rfl (by decide) rfl rfl (of_decide_eq_true rfl) (of_decide_eq_true rfl) ?_
    refine ct_101_1 hcr  g 5 (by omega)  (fun h3 z4 g3 u3 (fz4 : 0 ≤ z4 ∧ z4 ≤ 0) => ?_)
    have F5 := F0.then (by decide +kernel) u3
    refine wk_i ?_
    refine wi_zreturn (nx := 22) (r1 := 0) (r2 := 0) (r3 := 0) rfl rfl (by omega) ?_
    exact k h3 z4 g3 F5 (by omega)
-- method 120: SetupReader.readLane()Z
set_option maxRecDepth 100000 in
set_option maxHeartbeats 100000000 in
theorem ct_120_10 {L : Nat} {xs : Nat → Int32} {d b c : Nat} {h : hp} {cr : Nat → Nat → Option Nat} {Q : hp_Q} (hcr : CR cr)  (g : GI h)    (k : ∀ (h2 : hp) (z0 : Int) , GI h2 → FR [(14, 14, none), (1, 1, some (2, 2)), (1, 1, some (3, 3)), (1, 1, some (4, 4)), (1, 1, some (5, 5)), (1, 1, some (6, 6)), (1, 1, some (7, 7)), (1, 1, some (8, 8)), (1, 1, some (9, 9)), (11, 11, some (1, 1))] h h2 → (0 ≤ z0 ∧ z0 ≤ 1) → Q (.inl (some (vi z0))) (hp_w h2 cr) b c) : wp (md_xa (L, xs)) (d + 4) 120 (0, [(0, .ref 10)], [], hp_w h cr, b, c) Q := by
  have F0 : FR [(14, 14, none), (1, 1, some (2, 2)), (1, 1, some (3, 3)), (1, 1, some (4, 4)), (1, 1, some (5, 5)), (1, 1, some (6, 6)), (1, 1, some (7, 7)), (1, 1, some (8, 8)), (1, 1, some (9, 9)), (11, 11, some (1, 1))] h h := FR.refl
  refine wi_aload_n (i := 0) (x := 10) (nx := 1) (r1 := 0) (r2 := 0) (r3 := 0) rfl rfl ?_
  refine wr_gr (k0 := 10) (x := 11) (nx := 4) (r1 := 3) (r2 := 0) (r3 := 0) rfl rfl (by decide) rfl ⟨rfl, rfl⟩ rfl ?_
  have b1 := gi_b (lo := 0) (hi := 4) g 11 1 rfl
  refine wr_gi0 (k0 := 11) (x := h 11 1) (nx := 7) (r1 := 2) (r2 := 1) (r3 := 0) rfl rfl (by decide) rfl ⟨rfl, rfl⟩ rfl rfl ?_
  refine wi_istore_n (i := 1) (e := h 11 1) (lo2 := [(1, vi (h 11 1)), (0, .ref 10)]) (nx := 8) (r1 := 0) (r2 := 0) (r3 := 0) rfl rfl ?_
  refine wi_iload_n (i := 1) (e := h 11 1) (nx := 9) (r1 := 0) (r2 := 0) (r3 := 0) rfl rfl ?_
  refine wi_iconst (n := 4) (nx := 10) (r1 := 0) (r2 := 0) (r3 := 0) rfl ?_
  refine wi_icmp (cd := .lt) (nx := 13) (r1 := 22) (r2 := 0) (r3 := 0) rfl (by omega) (by omega) (fun (q2 : (h 11 1) < 4) => ?_) (fun (q2 : ¬ ((h 11 1) < 4)) => ?_)
  ·
    refine wi_aload_n (i := 0) (x := 10) (nx := 23) (r1 := 0) (r2 := 0) (r3 := 0) rfl rfl ?_
    refine wr_gr (k0 := 10) (x := 1) (nx := 26) (r1 := 3) (r2 := 1) (r3 := 0) rfl rfl (by decide) rfl ⟨rfl, rfl⟩ rfl ?_
    refine wi_iconst (n := 1) (nx := 27) (r1 := 0) (r2 := 0) (r3 := 0) rfl ?_
    refine wi_bipush (n := 6) (nx := 29) (r1 := 0) (r2 := 0) (r3 := 0) rfl (by decide) ?_
    refine wr_V (k0 := 1) (rest := []) (as := [.ref 1, vi 1, vi 6]) (nx := 32) (r1 := 103) (r2 := 2) (r3 := 1) rfl rfl rfl (of_decide_eq_true rfl) rfl rfl (by decide) rfl rfl (of_decide_eq_true rfl) (of_decide_eq_true rfl) ?_
    refine ct_103_1 hcr  g 1 6 (by omega) (by omega)  (fun h3 z4 g3 u3 (fz4 : 0 ≤ z4 ∧ z4 ≤ 1) => ?_)
    have F5 := F0.then (by decide +kernel) u3
    refine wk_i ?_
    refine wi_if (cd := .ne) (nx := 35) (r1 := 37) (r2 := 0) (r3 := 0) rfl (by omega) (fun (q6 : z4 ≠ 0) => ?_) (fun (q6 : ¬ (z4 ≠ 0)) => ?_)
    ·
      refine wi_aload_n (i := 0) (x := 10) (nx := 38) (r1 := 0) (r2 := 0) (r3 := 0) rfl rfl ?_
      refine wr_gr (k0 := 10) (x := 11) (nx := 41) (r1 := 3) (r2 := 0) (r3 := 0) rfl rfl (by decide) rfl ⟨rfl, rfl⟩ rfl ?_
      refine wr_gr (k0 := 11) (x := 14) (nx := 44) (r1 := 2) (r2 := 12) (r3 := 0) rfl rfl (by decide) rfl ⟨rfl, rfl⟩ rfl ?_
      refine wi_iload_n (i := 1) (e := h 11 1) (nx := 45) (r1 := 0) (r2 := 0) (r3 := 0) rfl rfl ?_
      refine wi_aload_n (i := 0) (x := 10) (nx := 46) (r1 := 0) (r2 := 0) (r3 := 0) rfl rfl ?_
      refine wr_gr (k0 := 10) (x := 1) (nx := 49) (r1 := 3) (r2 := 1) (r3 := 0) rfl rfl (by decide) rfl ⟨rfl, rfl⟩ rfl ?_
      have b7 := gi_b (lo := -2147483648) (hi := 2147483647) g3 1 7 rfl
      refine wr_gi0 (k0 := 1) (x := h3 1 7) (nx := 52) (r1 := 1) (r2 := 7) (r3 := 0) rfl rfl (by decide) rfl ⟨rfl, rfl⟩ rfl rfl ?_
      obtain ⟨i8, ei8⟩ : ∃ q : Nat, (h 11 1) = (q : Int) := ⟨(h 11 1).toNat, by omega⟩
      refine wr_is (k0 := 14) (a := h 11 1) (f := i8) (x := h3 1 7) (bl := -2147483648) (bh := 2147483647) (nx := 53) (r1 := 0) (r2 := 0) (r3 := 0) rfl (by decide) rfl (by omega) (by omega) (by decide) g3 rfl (by omega) (fun h9 g9 w9 u9 => ?_)
      have F10 := F5.then rfl (FR.rngp (lo := 14) (hi := 14) u9 (by decide))
      refine wi_aload_n (i := 0) (x := 10) (nx := 54) (r1 := 0) (r2 := 0) (r3 := 0) rfl rfl ?_
      refine wr_gr (k0 := 10) (x := 11) (nx := 57) (r1 := 3) (r2 := 0) (r3 := 0) rfl rfl (by decide) rfl ⟨rfl, rfl⟩ rfl ?_
      refine wi_iload_n (i := 1) (e := h 11 1) (nx := 58) (r1 := 0) (r2 := 0) (r3 := 0) rfl rfl ?_
      refine wi_iconst (n := 1) (nx := 59) (r1 := 0) (r2 := 0) (r3 := 0) rfl ?_
      refine wr_add (nx := 60) (r1 := 0) (r2 := 0) (r3 := 0) rfl (fun e11 (fe11 : e11 = (h 11 1) + 1) => ?_)
      refine wr_pf0 (k0 := 11) (x := e11) (bl := 0) (bh := 4) (nx := 63) (r1 := 2) (r2 := 1) (r3 := 0) rfl (by decide) rfl ⟨rfl, rfl⟩ rfl rfl g9 rfl (by omega) (fun h12 g12 w12 u12 => ?_)
      have F13 := F10.then rfl u12
      refine wi_iconst (n := 1) (nx := 64) (r1 := 0) (r2 := 0) (r3 := 0) rfl ?_
      refine wi_zreturn (nx := 65) (r1 := 0) (r2 := 0) (r3 := 0) rfl rfl (by omega) ?_
      exact k h12 1 g12 F13 (by omega)
    ·
      refine wi_iconst (n := 0) (nx := 36) (r1 := 0) (r2 := 0) (r3 := 0) rfl ?_
      refine wi_zreturn (nx := 37) (r1 := 0) (r2 := 0) (r3 := 0) rfl rfl (by omega) ?_
      exact k h3 0 g3 F5 (by omega)
  ·
    refine wi_aload_n (i := 0) (x := 10) (nx := 14) (r1 := 0) (r2 := 0) (r3 := 0) rfl rfl ?_
    refine wr_gr (k0 := 10) (x := 1) (nx := 17) (r1 := 3) (r2 := 1) (r3 := 0) rfl rfl (by decide) rfl ⟨rfl, rfl⟩ rfl ?_
    refine wi_iconst (n := 5) (nx := 18) (r1 := 0) (r2 := 0) (r3 := 0) rfl ?_
    refine wr_V (k0 := 1) (rest := []) (as := [.ref 1, vi 5]) (nx := 21) (r1 := 101) (r2 := 1) (r3 := 1) rfl rfl rfl (of_decide_eq_true rfl) rfl rfl (by decide) rfl rfl (of_decide_eq_true rfl) (of_decide_eq_true rfl) ?_
    refine ct_101_1 hcr  g 5 (by omega)  (fun h3 z4 g3 u3 (fz4 : 0 ≤ z4 ∧ z4 ≤ 0) => ?_)
    have F5 := F0.then (by decide +kernel) u3
    refine wk_i ?_
    refine wi_zreturn (nx := 22) (r1 := 0) (r2 := 0) (r3 := 0) rfl rfl (by omega) ?_
    exact k h3 z4 g3 F5 (by omega)
-- method 104: Text.takeIfNext(LPaintBank$Word;)Z
set_option maxRecDepth 100000 in
set_option maxHeartbeats 100000000 in
theorem ct_104_1 {L : Nat} {xs : Nat → Int32} {d b c : Nat} {h : hp} {cr : Nat → Nat → Option Nat} {Q : hp_Q} (hcr : CR cr)  (g : GI h) (a0 : Int) (q0_ : 1 ≤ a0 ∧ a0 ≤ 21)  (k : ∀ (h2 : hp) (z0 : Int) , GI h2 → FR [(1, 1, some (4, 4)), (1, 1, some (5, 5)), (1, 1, some (6, 6)), (1, 1, some (7, 7)), (1, 1, some (8, 8)), (1, 1, some (9, 9))] h h2 → (0 ≤ z0 ∧ z0 ≤ 1) → Q (.inl (some (vi z0))) (hp_w h2 cr) b c) : wp (md_xa (L, xs)) (d + 3) 104 (0, [(0, .ref 1), (1, wv a0)], [], hp_w h cr, b, c) Q := by
  have F0 : FR [(1, 1, some (4, 4)), (1, 1, some (5, 5)), (1, 1, some (6, 6)), (1, 1, some (7, 7)), (1, 1, some (8, 8)), (1, 1, some (9, 9))] h h := FR.refl
  refine wi_aload_n (i := 0) (x := 1) (nx := 1) (r1 := 0) (r2 := 0) (r3 := 0) rfl rfl ?_
  have b1 := gi_b (lo := 0) (hi := 800) g 1 4 rfl
  refine wr_gi0 (k0 := 1) (x := h 1 4) (nx := 4) (r1 := 1) (r2 := 4) (r3 := 0) rfl rfl (by decide) rfl ⟨rfl, rfl⟩ rfl rfl ?_
  refine wi_istore_n (i := 2) (e := h 1 4) (lo2 := [(2, vi (h 1 4)), (0, .ref 1), (1, wv a0)]) (nx := 5) (r1 := 0) (r2 := 0) (r3 := 0) rfl rfl ?_
  refine wi_aload_n (i := 0) (x := 1) (nx := 6) (r1 := 0) (r2 := 0) (r3 := 0) rfl rfl ?_
  refine wr_V (k0 := 1) (rest := []) (as := [.ref 1]) (nx := 9) (r1 := 94) (r2 := 0) (r3 := 1) rfl rfl rfl (of_decide_eq_true rfl) rfl rfl (by decide) rfl rfl (of_decide_eq_true rfl) (of_decide_eq_true rfl) ?_
  refine ct_94_1 hcr  g    (fun h2 g2 u2 => ?_)
  have F3 := F0.then (by decide +kernel) u2
  refine wk_n ?_
  refine wi_aload_n (i := 0) (x := 1) (nx := 10) (r1 := 0) (r2 := 0) (r3 := 0) rfl rfl ?_
  have b4 := gi_b (lo := 0) (hi := 6) g2 1 5 rfl
  refine wr_gi0 (k0 := 1) (x := h2 1 5) (nx := 13) (r1 := 1) (r2 := 5) (r3 := 0) rfl rfl (by decide) rfl ⟨rfl, rfl⟩ rfl rfl ?_
  refine wi_iconst (n := 1) (nx := 14) (r1 := 0) (r2 := 0) (r3 := 0) rfl ?_
  refine wi_icmp (cd := .ne) (nx := 17) (r1 := 27) (r2 := 0) (r3 := 0) rfl (by omega) (by omega) (fun (q5 : (h2 1 5) ≠ 1) => ?_) (fun (q5 : ¬ ((h2 1 5) ≠ 1)) => ?_)
  ·
    refine wi_aload_n (i := 0) (x := 1) (nx := 28) (r1 := 0) (r2 := 0) (r3 := 0) rfl rfl ?_
    refine wi_iload_n (i := 2) (e := h 1 4) (nx := 29) (r1 := 0) (r2 := 0) (r3 := 0) rfl rfl ?_
    refine wr_pf0 (k0 := 1) (x := h 1 4) (bl := 0) (bh := 800) (nx := 32) (r1 := 1) (r2 := 4) (r3 := 0) rfl (by decide) rfl ⟨rfl, rfl⟩ rfl rfl g2 rfl (by omega) (fun h6 g6 w6 u6 => ?_)
    have F7 := F3.then rfl u6
    refine wi_iconst (n := 0) (nx := 33) (r1 := 0) (r2 := 0) (r3 := 0) rfl ?_
    refine wi_zreturn (nx := 34) (r1 := 0) (r2 := 0) (r3 := 0) rfl rfl (by omega) ?_
    exact k h6 0 g6 F7 (by omega)
  ·
    refine wi_aload_n (i := 0) (x := 1) (nx := 18) (r1 := 0) (r2 := 0) (r3 := 0) rfl rfl ?_
    have b6 := gi_b (lo := 1) (hi := 21) g2 1 9 rfl
    refine wr_gi3 (k0 := 1) (x := h2 1 9) (nx := 21) (r1 := 1) (r2 := 9) (r3 := 0) rfl rfl (by decide) rfl ⟨rfl, rfl⟩ rfl rfl ?_
    refine wi_aload_n (i := 1) (x := mm_XB + (a0 : Int).toNat) (nx := 22) (r1 := 0) (r2 := 0) (r3 := 0) rfl rfl ?_
    refine wr_acmp (cd := .ne) (x := h2 1 9) (y := a0) (nx := 25) (r1 := 27) (r2 := 0) (r3 := 0) rfl (by omega) (by omega) (fun (q7 : ((h2 1 9) = a0 ↔ Jvm.ClassFile.ACond.ne = .eq)) => ?_) (fun (q7 : ¬ ((h2 1 9) = a0 ↔ Jvm.ClassFile.ACond.ne = .eq)) => ?_)
    ·
      have q7 : ¬ ((h2 1 9) = a0) := by simpa using q7
      refine wi_aload_n (i := 0) (x := 1) (nx := 28) (r1 := 0) (r2 := 0) (r3 := 0) rfl rfl ?_
      refine wi_iload_n (i := 2) (e := h 1 4) (nx := 29) (r1 := 0) (r2 := 0) (r3 := 0) rfl rfl ?_
      refine wr_pf0 (k0 := 1) (x := h 1 4) (bl := 0) (bh := 800) (nx := 32) (r1 := 1) (r2 := 4) (r3 := 0) rfl (by decide) rfl ⟨rfl, rfl⟩ rfl rfl g2 rfl (by omega) (fun h8 g8 w8 u8 => ?_)
      have F9 := F3.then rfl u8
      refine wi_iconst (n := 0) (nx := 33) (r1 := 0) (r2 := 0) (r3 := 0) rfl ?_
      refine wi_zreturn (nx := 34) (r1 := 0) (r2 := 0) (r3 := 0) rfl rfl (by omega) ?_
      exact k h8 0 g8 F9 (by omega)
    ·
      have q7 : ((h2 1 9) = a0) := by simpa using q7
      refine wi_iconst (n := 1) (nx := 26) (r1 := 0) (r2 := 0) (r3 := 0) rfl ?_
      refine wi_zreturn (nx := 27) (r1 := 0) (r2 := 0) (r3 := 0) rfl rfl (by omega) ?_
      exact k h2 1 g2 F3 (by omega)
-- method 121: SetupReader.readCar()Z
set_option maxRecDepth 100000 in
set_option maxHeartbeats 100000000 in
theorem ct_121_10 {L : Nat} {xs : Nat → Int32} {d b c : Nat} {h : hp} {cr : Nat → Nat → Option Nat} {Q : hp_Q} (hcr : CR cr)  (g : GI h)    (k : ∀ (h2 : hp) (z0 : Int) , GI h2 → FR [(15, 15, none), (16, 16, none), (17, 17, none), (1, 1, some (2, 2)), (1, 1, some (3, 3)), (1, 1, some (4, 4)), (1, 1, some (5, 5)), (1, 1, some (6, 6)), (1, 1, some (7, 7)), (1, 1, some (8, 8)), (1, 1, some (9, 9)), (11, 11, some (2, 2))] h h2 → (0 ≤ z0 ∧ z0 ≤ 1) → Q (.inl (some (vi z0))) (hp_w h2 cr) b c) : wp (md_xa (L, xs)) (d + 4) 121 (0, [(0, .ref 10)], [], hp_w h cr, b, c) Q := by
  have F0 : FR [(15, 15, none), (16, 16, none), (17, 17, none), (1, 1, some (2, 2)), (1, 1, some (3, 3)), (1, 1, some (4, 4)), (1, 1, some (5, 5)), (1, 1, some (6, 6)), (1, 1, some (7, 7)), (1, 1, some (8, 8)), (1, 1, some (9, 9)), (11, 11, some (2, 2))] h h := FR.refl
  refine wi_aload_n (i := 0) (x := 10) (nx := 1) (r1 := 0) (r2 := 0) (r3 := 0) rfl rfl ?_
  refine wr_gr (k0 := 10) (x := 11) (nx := 4) (r1 := 3) (r2 := 0) (r3 := 0) rfl rfl (by decide) rfl ⟨rfl, rfl⟩ rfl ?_
  have b1 := gi_b (lo := 0) (hi := 12) g 11 2 rfl
  refine wr_gi0 (k0 := 11) (x := h 11 2) (nx := 7) (r1 := 2) (r2 := 2) (r3 := 0) rfl rfl (by decide) rfl ⟨rfl, rfl⟩ rfl rfl ?_
  refine wi_istore_n (i := 1) (e := h 11 2) (lo2 := [(1, vi (h 11 2)), (0, .ref 10)]) (nx := 8) (r1 := 0) (r2 := 0) (r3 := 0) rfl rfl ?_
  refine wi_iload_n (i := 1) (e := h 11 2) (nx := 9) (r1 := 0) (r2 := 0) (r3 := 0) rfl rfl ?_
  refine wi_bipush (n := 12) (nx := 11) (r1 := 0) (r2 := 0) (r3 := 0) rfl (by decide) ?_
  refine wi_icmp (cd := .lt) (nx := 14) (r1 := 23) (r2 := 0) (r3 := 0) rfl (by omega) (by omega) (fun (q2 : (h 11 2) < 12) => ?_) (fun (q2 : ¬ ((h 11 2) < 12)) => ?_)
  ·
    refine wi_aload_n (i := 0) (x := 10) (nx := 24) (r1 := 0) (r2 := 0) (r3 := 0) rfl rfl ?_
    refine wr_gr (k0 := 10) (x := 1) (nx := 27) (r1 := 3) (r2 := 1) (r3 := 0) rfl rfl (by decide) rfl ⟨rfl, rfl⟩ rfl ?_
    refine wr_gst (v := wv 21) (nx := 30) (r1 := 20) (r2 := 0) (r3 := 0) rfl rfl rfl ?_
    refine wr_V (k0 := 1) (rest := []) (as := [.ref 1, wv 21]) (nx := 33) (r1 := 102) (r2 := 1) (r3 := 1) rfl rfl rfl (of_decide_eq_true rfl) rfl rfl (by decide) rfl rfl (of_decide_eq_true rfl) (of_decide_eq_true rfl) ?_
    refine ct_102_1 hcr  g 21 (by omega)  (fun h3 z4 g3 u3 (fz4 : 0 ≤ z4 ∧ z4 ≤ 1) => ?_)
    have F5 := F0.then (by decide +kernel) u3
    refine wk_i ?_
    refine wi_if (cd := .ne) (nx := 36) (r1 := 38) (r2 := 0) (r3 := 0) rfl (by omega) (fun (q6 : z4 ≠ 0) => ?_) (fun (q6 : ¬ (z4 ≠ 0)) => ?_)
    ·
      refine wi_aload_n (i := 0) (x := 10) (nx := 39) (r1 := 0) (r2 := 0) (r3 := 0) rfl rfl ?_
      refine wr_gr (k0 := 10) (x := 11) (nx := 42) (r1 := 3) (r2 := 0) (r3 := 0) rfl rfl (by decide) rfl ⟨rfl, rfl⟩ rfl ?_
      refine wi_aload_n (i := 0) (x := 10) (nx := 43) (r1 := 0) (r2 := 0) (r3 := 0) rfl rfl ?_
      refine wr_gr (k0 := 10) (x := 1) (nx := 46) (r1 := 3) (r2 := 1) (r3 := 0) rfl rfl (by decide) rfl ⟨rfl, rfl⟩ rfl ?_
      have b7 := gi_b (lo := -9223372036854775808) (hi := 9223372036854775807) g3 1 8 rfl
      refine wr_gi1 (k0 := 1) (x := h3 1 8) (nx := 49) (r1 := 1) (r2 := 8) (r3 := 0) rfl rfl (by decide) rfl ⟨rfl, rfl⟩ rfl rfl ?_
      refine wr_V (k0 := 11) (rest := []) (as := [.ref 11, vl (h3 1 8)]) (nx := 52) (r1 := 115) (r2 := 1) (r3 := 2) rfl rfl rfl (of_decide_eq_true rfl) rfl rfl (by decide) rfl rfl (of_decide_eq_true rfl) (of_decide_eq_true rfl) ?_
      refine ct_115_11 hcr  g3 (h3 1 8) (by omega)  (fun z9  (fz9 : -1 ≤ z9 ∧ z9 ≤ 4) => ?_)
      refine wk_i ?_
      refine wi_istore_n (i := 2) (e := z9) (lo2 := [(2, vi z9), (1, vi (h 11 2)), (0, .ref 10)]) (nx := 53) (r1 := 0) (r2 := 0) (r3 := 0) rfl rfl ?_
      refine wi_iload_n (i := 2) (e := z9) (nx := 54) (r1 := 0) (r2 := 0) (r3 := 0) rfl rfl ?_
      refine wi_iconst (n := (-1)) (nx := 55) (r1 := 0) (r2 := 0) (r3 := 0) rfl ?_
      refine wi_icmp (cd := .ne) (nx := 58) (r1 := 67) (r2 := 0) (r3 := 0) rfl (by omega) (by omega) (fun (q10 : z9 ≠ (-1)) => ?_) (fun (q10 : ¬ (z9 ≠ (-1))) => ?_)
      ·
        refine wi_aload_n (i := 0) (x := 10) (nx := 68) (r1 := 0) (r2 := 0) (r3 := 0) rfl rfl ?_
        refine wr_gr (k0 := 10) (x := 11) (nx := 71) (r1 := 3) (r2 := 0) (r3 := 0) rfl rfl (by decide) rfl ⟨rfl, rfl⟩ rfl ?_
        refine wr_gr (k0 := 11) (x := 15) (nx := 74) (r1 := 2) (r2 := 13) (r3 := 0) rfl rfl (by decide) rfl ⟨rfl, rfl⟩ rfl ?_
        refine wi_iload_n (i := 1) (e := h 11 2) (nx := 75) (r1 := 0) (r2 := 0) (r3 := 0) rfl rfl ?_
        refine wi_iload_n (i := 2) (e := z9) (nx := 76) (r1 := 0) (r2 := 0) (r3 := 0) rfl rfl ?_
        obtain ⟨i11, ei11⟩ : ∃ q : Nat, (h 11 2) = (q : Int) := ⟨(h 11 2).toNat, by omega⟩
        refine wr_is (k0 := 15) (a := h 11 2) (f := i11) (x := z9) (bl := -2147483648) (bh := 2147483647) (nx := 77) (r1 := 0) (r2 := 0) (r3 := 0) rfl (by decide) rfl (by omega) (by omega) (by decide) g3 rfl (by omega) (fun h12 g12 w12 u12 => ?_)
        have F13 := F5.then rfl (FR.rngp (lo := 15) (hi := 15) u12 (by decide))
        refine wi_aload_n (i := 0) (x := 10) (nx := 78) (r1 := 0) (r2 := 0) (r3 := 0) rfl rfl ?_
        refine wr_gr (k0 := 10) (x := 1) (nx := 81) (r1 := 3) (r2 := 1) (r3 := 0) rfl rfl (by decide) rfl ⟨rfl, rfl⟩ rfl ?_
        refine wr_gst (v := wv 5) (nx := 84) (r1 := 4) (r2 := 0) (r3 := 0) rfl rfl rfl ?_
        refine wr_V (k0 := 1) (rest := []) (as := [.ref 1, wv 5]) (nx := 87) (r1 := 102) (r2 := 1) (r3 := 1) rfl rfl rfl (of_decide_eq_true rfl) rfl rfl (by decide) rfl rfl (of_decide_eq_true rfl) (of_decide_eq_true rfl) ?_
        refine ct_102_1 hcr  g12 5 (by omega)  (fun h14 z15 g14 u14 (fz15 : 0 ≤ z15 ∧ z15 ≤ 1) => ?_)
        have F16 := F13.then (by decide +kernel) u14
        refine wk_i ?_
        refine wi_if (cd := .eq) (nx := 90) (r1 := 102) (r2 := 0) (r3 := 0) rfl (by omega) (fun (q17 : z15 = 0) => ?_) (fun (q17 : ¬ (z15 = 0)) => ?_)
        ·
          refine wi_iconst (n := 0) (nx := 103) (r1 := 0) (r2 := 0) (r3 := 0) rfl ?_
          refine wi_zreturn (nx := 104) (r1 := 0) (r2 := 0) (r3 := 0) rfl rfl (by omega) ?_
          exact k h14 0 g14 F16 (by omega)
        ·
          refine wi_aload_n (i := 0) (x := 10) (nx := 91) (r1 := 0) (r2 := 0) (r3 := 0) rfl rfl ?_
          refine wr_gr (k0 := 10) (x := 1) (nx := 94) (r1 := 3) (r2 := 1) (r3 := 0) rfl rfl (by decide) rfl ⟨rfl, rfl⟩ rfl ?_
          refine wi_iconst (n := 0) (nx := 95) (r1 := 0) (r2 := 0) (r3 := 0) rfl ?_
          refine wi_iconst (n := 3) (nx := 96) (r1 := 0) (r2 := 0) (r3 := 0) rfl ?_
          refine wr_V (k0 := 1) (rest := []) (as := [.ref 1, vi 0, vi 3]) (nx := 99) (r1 := 103) (r2 := 2) (r3 := 1) rfl rfl rfl (of_decide_eq_true rfl) rfl rfl (by decide) rfl rfl (of_decide_eq_true rfl) (of_decide_eq_true rfl) ?_
          refine ct_103_1 hcr  g14 0 3 (by omega) (by omega)  (fun h18 z19 g18 u18 (fz19 : 0 ≤ z19 ∧ z19 ≤ 1) => ?_)
          have F20 := F16.then (by decide +kernel) u18
          refine wk_i ?_
          refine wi_if (cd := .ne) (nx := 102) (r1 := 104) (r2 := 0) (r3 := 0) rfl (by omega) (fun (q21 : z19 ≠ 0) => ?_) (fun (q21 : ¬ (z19 ≠ 0)) => ?_)
          ·
            refine wi_aload_n (i := 0) (x := 10) (nx := 105) (r1 := 0) (r2 := 0) (r3 := 0) rfl rfl ?_
            refine wr_gr (k0 := 10) (x := 11) (nx := 108) (r1 := 3) (r2 := 0) (r3 := 0) rfl rfl (by decide) rfl ⟨rfl, rfl⟩ rfl ?_
            refine wr_gr (k0 := 11) (x := 16) (nx := 111) (r1 := 2) (r2 := 14) (r3 := 0) rfl rfl (by decide) rfl ⟨rfl, rfl⟩ rfl ?_
            refine wi_iload_n (i := 1) (e := h 11 2) (nx := 112) (r1 := 0) (r2 := 0) (r3 := 0) rfl rfl ?_
            refine wi_aload_n (i := 0) (x := 10) (nx := 113) (r1 := 0) (r2 := 0) (r3 := 0) rfl rfl ?_
            refine wr_gr (k0 := 10) (x := 1) (nx := 116) (r1 := 3) (r2 := 1) (r3 := 0) rfl rfl (by decide) rfl ⟨rfl, rfl⟩ rfl ?_
            have b22 := gi_b (lo := -2147483648) (hi := 2147483647) g18 1 7 rfl
            refine wr_gi0 (k0 := 1) (x := h18 1 7) (nx := 119) (r1 := 1) (r2 := 7) (r3 := 0) rfl rfl (by decide) rfl ⟨rfl, rfl⟩ rfl rfl ?_
            refine wr_is (k0 := 16) (a := h 11 2) (f := i11) (x := h18 1 7) (bl := -2147483648) (bh := 2147483647) (nx := 120) (r1 := 0) (r2 := 0) (r3 := 0) rfl (by decide) rfl (by omega) (by omega) (by decide) g18 rfl (by omega) (fun h23 g23 w23 u23 => ?_)
            have F24 := F20.then rfl (FR.rngp (lo := 16) (hi := 16) u23 (by decide))
            refine wi_aload_n (i := 0) (x := 10) (nx := 121) (r1 := 0) (r2 := 0) (r3 := 0) rfl rfl ?_
            refine wr_gr (k0 := 10) (x := 11) (nx := 124) (r1 := 3) (r2 := 0) (r3 := 0) rfl rfl (by decide) rfl ⟨rfl, rfl⟩ rfl ?_
            refine wr_gr (k0 := 11) (x := 17) (nx := 127) (r1 := 2) (r2 := 15) (r3 := 0) rfl rfl (by decide) rfl ⟨rfl, rfl⟩ rfl ?_
            refine wi_iload_n (i := 1) (e := h 11 2) (nx := 128) (r1 := 0) (r2 := 0) (r3 := 0) rfl rfl ?_
            refine wi_iconst (n := 0) (nx := 129) (r1 := 0) (r2 := 0) (r3 := 0) rfl ?_
            refine wr_is (k0 := 17) (a := h 11 2) (f := i11) (x := 0) (bl := -2147483648) (bh := 2147483647) (nx := 130) (r1 := 0) (r2 := 0) (r3 := 0) rfl (by decide) rfl (by omega) (by omega) (by decide) g23 rfl (by omega) (fun h25 g25 w25 u25 => ?_)
            have F26 := F24.then rfl (FR.rngp (lo := 17) (hi := 17) u25 (by decide))
            refine wi_aload_n (i := 0) (x := 10) (nx := 131) (r1 := 0) (r2 := 0) (r3 := 0) rfl rfl ?_
            refine wr_gr (k0 := 10) (x := 1) (nx := 134) (r1 := 3) (r2 := 1) (r3 := 0) rfl rfl (by decide) rfl ⟨rfl, rfl⟩ rfl ?_
            refine wr_gst (v := wv 6) (nx := 137) (r1 := 5) (r2 := 0) (r3 := 0) rfl rfl rfl ?_
            refine wr_V (k0 := 1) (rest := []) (as := [.ref 1, wv 6]) (nx := 140) (r1 := 104) (r2 := 1) (r3 := 1) rfl rfl rfl (of_decide_eq_true rfl) rfl rfl (by decide) rfl rfl (of_decide_eq_true rfl) (of_decide_eq_true rfl) ?_
            refine ct_104_1 hcr  g25 6 (by omega)  (fun h27 z28 g27 u27 (fz28 : 0 ≤ z28 ∧ z28 ≤ 1) => ?_)
            have F29 := F26.then (by decide +kernel) u27
            refine wk_i ?_
            refine wi_if (cd := .eq) (nx := 143) (r1 := 173) (r2 := 0) (r3 := 0) rfl (by omega) (fun (q30 : z28 = 0) => ?_) (fun (q30 : ¬ (z28 = 0)) => ?_)
            ·
              refine wi_aload_n (i := 0) (x := 10) (nx := 174) (r1 := 0) (r2 := 0) (r3 := 0) rfl rfl ?_
              refine wr_gr (k0 := 10) (x := 11) (nx := 177) (r1 := 3) (r2 := 0) (r3 := 0) rfl rfl (by decide) rfl ⟨rfl, rfl⟩ rfl ?_
              refine wi_iload_n (i := 1) (e := h 11 2) (nx := 178) (r1 := 0) (r2 := 0) (r3 := 0) rfl rfl ?_
              refine wi_iconst (n := 1) (nx := 179) (r1 := 0) (r2 := 0) (r3 := 0) rfl ?_
              refine wr_add (nx := 180) (r1 := 0) (r2 := 0) (r3 := 0) rfl (fun e31 (fe31 : e31 = (h 11 2) + 1) => ?_)
              refine wr_pf0 (k0 := 11) (x := e31) (bl := 0) (bh := 12) (nx := 183) (r1 := 2) (r2 := 2) (r3 := 0) rfl (by decide) rfl ⟨rfl, rfl⟩ rfl rfl g27 rfl (by omega) (fun h32 g32 w32 u32 => ?_)
              have F33 := F29.then rfl u32
              refine wi_iconst (n := 1) (nx := 184) (r1 := 0) (r2 := 0) (r3 := 0) rfl ?_
              refine wi_zreturn (nx := 185) (r1 := 0) (r2 := 0) (r3 := 0) rfl rfl (by omega) ?_
              exact k h32 1 g32 F33 (by omega)
            ·
              refine wi_aload_n (i := 0) (x := 10) (nx := 144) (r1 := 0) (r2 := 0) (r3 := 0) rfl rfl ?_
              refine wr_gr (k0 := 10) (x := 1) (nx := 147) (r1 := 3) (r2 := 1) (r3 := 0) rfl rfl (by decide) rfl ⟨rfl, rfl⟩ rfl ?_
              refine wi_iconst (n := 0) (nx := 148) (r1 := 0) (r2 := 0) (r3 := 0) rfl ?_
              refine wi_iconst (n := 2) (nx := 149) (r1 := 0) (r2 := 0) (r3 := 0) rfl ?_
              refine wr_V (k0 := 1) (rest := []) (as := [.ref 1, vi 0, vi 2]) (nx := 152) (r1 := 103) (r2 := 2) (r3 := 1) rfl rfl rfl (of_decide_eq_true rfl) rfl rfl (by decide) rfl rfl (of_decide_eq_true rfl) (of_decide_eq_true rfl) ?_
              refine ct_103_1 hcr  g27 0 2 (by omega) (by omega)  (fun h31 z32 g31 u31 (fz32 : 0 ≤ z32 ∧ z32 ≤ 1) => ?_)
              have F33 := F29.then (by decide +kernel) u31
              refine wk_i ?_
              refine wi_if (cd := .ne) (nx := 155) (r1 := 157) (r2 := 0) (r3 := 0) rfl (by omega) (fun (q34 : z32 ≠ 0) => ?_) (fun (q34 : ¬ (z32 ≠ 0)) => ?_)
              ·
                refine wi_aload_n (i := 0) (x := 10) (nx := 158) (r1 := 0) (r2 := 0) (r3 := 0) rfl rfl ?_
                refine wr_gr (k0 := 10) (x := 11) (nx := 161) (r1 := 3) (r2 := 0) (r3 := 0) rfl rfl (by decide) rfl ⟨rfl, rfl⟩ rfl ?_
                refine wr_gr (k0 := 11) (x := 17) (nx := 164) (r1 := 2) (r2 := 15) (r3 := 0) rfl rfl (by decide) rfl ⟨rfl, rfl⟩ rfl ?_
                refine wi_iload_n (i := 1) (e := h 11 2) (nx := 165) (r1 := 0) (r2 := 0) (r3 := 0) rfl rfl ?_
                refine wi_aload_n (i := 0) (x := 10) (nx := 166) (r1 := 0) (r2 := 0) (r3 := 0) rfl rfl ?_
                refine wr_gr (k0 := 10) (x := 1) (nx := 169) (r1 := 3) (r2 := 1) (r3 := 0) rfl rfl (by decide) rfl ⟨rfl, rfl⟩ rfl ?_
                have b35 := gi_b (lo := -2147483648) (hi := 2147483647) g31 1 7 rfl
                refine wr_gi0 (k0 := 1) (x := h31 1 7) (nx := 172) (r1 := 1) (r2 := 7) (r3 := 0) rfl rfl (by decide) rfl ⟨rfl, rfl⟩ rfl rfl ?_
                refine wr_is (k0 := 17) (a := h 11 2) (f := i11) (x := h31 1 7) (bl := -2147483648) (bh := 2147483647) (nx := 173) (r1 := 0) (r2 := 0) (r3 := 0) rfl (by decide) rfl (by omega) (by omega) (by decide) g31 rfl (by omega) (fun h36 g36 w36 u36 => ?_)
                have F37 := F33.then rfl (FR.rngp (lo := 17) (hi := 17) u36 (by decide))
                refine wi_aload_n (i := 0) (x := 10) (nx := 174) (r1 := 0) (r2 := 0) (r3 := 0) rfl rfl ?_
                refine wr_gr (k0 := 10) (x := 11) (nx := 177) (r1 := 3) (r2 := 0) (r3 := 0) rfl rfl (by decide) rfl ⟨rfl, rfl⟩ rfl ?_
                refine wi_iload_n (i := 1) (e := h 11 2) (nx := 178) (r1 := 0) (r2 := 0) (r3 := 0) rfl rfl ?_
                refine wi_iconst (n := 1) (nx := 179) (r1 := 0) (r2 := 0) (r3 := 0) rfl ?_
                refine wr_add (nx := 180) (r1 := 0) (r2 := 0) (r3 := 0) rfl (fun e38 (fe38 : e38 = (h 11 2) + 1) => ?_)
                refine wr_pf0 (k0 := 11) (x := e38) (bl := 0) (bh := 12) (nx := 183) (r1 := 2) (r2 := 2) (r3 := 0) rfl (by decide) rfl ⟨rfl, rfl⟩ rfl rfl g36 rfl (by omega) (fun h39 g39 w39 u39 => ?_)
                have F40 := F37.then rfl u39
                refine wi_iconst (n := 1) (nx := 184) (r1 := 0) (r2 := 0) (r3 := 0) rfl ?_
                refine wi_zreturn (nx := 185) (r1 := 0) (r2 := 0) (r3 := 0) rfl rfl (by omega) ?_
                exact k h39 1 g39 F40 (by omega)
              ·
                refine wi_iconst (n := 0) (nx := 156) (r1 := 0) (r2 := 0) (r3 := 0) rfl ?_
                refine wi_zreturn (nx := 157) (r1 := 0) (r2 := 0) (r3 := 0) rfl rfl (by omega) ?_
                exact k h31 0 g31 F33 (by omega)
          ·
            refine wi_iconst (n := 0) (nx := 103) (r1 := 0) (r2 := 0) (r3 := 0) rfl ?_
            refine wi_zreturn (nx := 104) (r1 := 0) (r2 := 0) (r3 := 0) rfl rfl (by omega) ?_
            exact k h18 0 g18 F20 (by omega)
      ·
        refine wi_aload_n (i := 0) (x := 10) (nx := 59) (r1 := 0) (r2 := 0) (r3 := 0) rfl rfl ?_
        refine wr_gr (k0 := 10) (x := 1) (nx := 62) (r1 := 3) (r2 := 1) (r3 := 0) rfl rfl (by decide) rfl ⟨rfl, rfl⟩ rfl ?_
        refine wi_iconst (n := 4) (nx := 63) (r1 := 0) (r2 := 0) (r3 := 0) rfl ?_
        refine wr_V (k0 := 1) (rest := []) (as := [.ref 1, vi 4]) (nx := 66) (r1 := 101) (r2 := 1) (r3 := 1) rfl rfl rfl (of_decide_eq_true rfl) rfl rfl (by decide) rfl rfl (of_decide_eq_true rfl) (of_decide_eq_true rfl) ?_
        refine ct_101_1 hcr  g3 4 (by omega)  (fun h11 z12 g11 u11 (fz12 : 0 ≤ z12 ∧ z12 ≤ 0) => ?_)
        have F13 := F5.then (by decide +kernel) u11
        refine wk_i ?_
        refine wi_zreturn (nx := 67) (r1 := 0) (r2 := 0) (r3 := 0) rfl rfl (by omega) ?_
        exact k h11 z12 g11 F13 (by omega)
    ·
      refine wi_iconst (n := 0) (nx := 37) (r1 := 0) (r2 := 0) (r3 := 0) rfl ?_
      refine wi_zreturn (nx := 38) (r1 := 0) (r2 := 0) (r3 := 0) rfl rfl (by omega) ?_
      exact k h3 0 g3 F5 (by omega)
  ·
    refine wi_aload_n (i := 0) (x := 10) (nx := 15) (r1 := 0) (r2 := 0) (r3 := 0) rfl rfl ?_
    refine wr_gr (k0 := 10) (x := 1) (nx := 18) (r1 := 3) (r2 := 1) (r3 := 0) rfl rfl (by decide) rfl ⟨rfl, rfl⟩ rfl ?_
    refine wi_iconst (n := 5) (nx := 19) (r1 := 0) (r2 := 0) (r3 := 0) rfl ?_
    refine wr_V (k0 := 1) (rest := []) (as := [.ref 1, vi 5]) (nx := 22) (r1 := 101) (r2 := 1) (r3 := 1) rfl rfl rfl (of_decide_eq_true rfl) rfl rfl (by decide) rfl rfl (of_decide_eq_true rfl) (of_decide_eq_true rfl) ?_
    refine ct_101_1 hcr  g 5 (by omega)  (fun h3 z4 g3 u3 (fz4 : 0 ≤ z4 ∧ z4 ≤ 0) => ?_)
    have F5 := F0.then (by decide +kernel) u3
    refine wk_i ?_
    refine wi_zreturn (nx := 23) (r1 := 0) (r2 := 0) (r3 := 0) rfl rfl (by omega) ?_
    exact k h3 z4 g3 F5 (by omega)
-- method 122: SetupReader.readWindow()Z
set_option maxRecDepth 100000 in
set_option maxHeartbeats 100000000 in
theorem ct_122_10 {L : Nat} {xs : Nat → Int32} {d b c : Nat} {h : hp} {cr : Nat → Nat → Option Nat} {Q : hp_Q} (hcr : CR cr)  (g : GI h)    (k : ∀ (h2 : hp) (z0 : Int) , GI h2 → FR [(1, 1, some (2, 2)), (1, 1, some (3, 3)), (1, 1, some (4, 4)), (1, 1, some (5, 5)), (1, 1, some (6, 6)), (1, 1, some (7, 7)), (1, 1, some (8, 8)), (1, 1, some (9, 9)), (10, 10, some (2, 2)), (11, 11, some (3, 3)), (11, 11, some (4, 4))] h h2 → (0 ≤ z0 ∧ z0 ≤ 1) → Q (.inl (some (vi z0))) (hp_w h2 cr) b c) : wp (md_xa (L, xs)) (d + 4) 122 (0, [(0, .ref 10)], [], hp_w h cr, b, c) Q := by
  have F0 : FR [(1, 1, some (2, 2)), (1, 1, some (3, 3)), (1, 1, some (4, 4)), (1, 1, some (5, 5)), (1, 1, some (6, 6)), (1, 1, some (7, 7)), (1, 1, some (8, 8)), (1, 1, some (9, 9)), (10, 10, some (2, 2)), (11, 11, some (3, 3)), (11, 11, some (4, 4))] h h := FR.refl
  refine wi_aload_n (i := 0) (x := 10) (nx := 1) (r1 := 0) (r2 := 0) (r3 := 0) rfl rfl ?_
  have b1 := gi_b (lo := 0) (hi := 1) g 10 2 rfl
  refine wr_gi2 (k0 := 10) (x := h 10 2) (nx := 4) (r1 := 3) (r2 := 2) (r3 := 0) rfl rfl (by decide) rfl ⟨rfl, rfl⟩ rfl rfl ?_
  refine wi_if (cd := .eq) (nx := 7) (r1 := 16) (r2 := 0) (r3 := 0) rfl (by omega) (fun (q2 : (h 10 2) = 0) => ?_) (fun (q2 : ¬ ((h 10 2) = 0)) => ?_)
  ·
    refine wi_aload_n (i := 0) (x := 10) (nx := 17) (r1 := 0) (r2 := 0) (r3 := 0) rfl rfl ?_
    refine wi_iconst (n := 1) (nx := 18) (r1 := 0) (r2 := 0) (r3 := 0) rfl ?_
    refine wr_pf2 (k0 := 10) (x := 1) (bl := 0) (bh := 1) (nx := 21) (r1 := 3) (r2 := 2) (r3 := 2) rfl (by decide) rfl ⟨rfl, rfl⟩ rfl (by omega) rfl g rfl (by omega) (fun h3 g3 w3 u3 => ?_)
    have F4 := F0.then rfl u3
    refine wi_aload_n (i := 0) (x := 10) (nx := 22) (r1 := 0) (r2 := 0) (r3 := 0) rfl rfl ?_
    refine wr_gr (k0 := 10) (x := 1) (nx := 25) (r1 := 3) (r2 := 1) (r3 := 0) rfl rfl (by decide) rfl ⟨rfl, rfl⟩ rfl ?_
    refine wi_iconst (n := 0) (nx := 26) (r1 := 0) (r2 := 0) (r3 := 0) rfl ?_
    refine wi_bipush (n := 11) (nx := 28) (r1 := 0) (r2 := 0) (r3 := 0) rfl (by decide) ?_
    refine wr_V (k0 := 1) (rest := []) (as := [.ref 1, vi 0, vi 11]) (nx := 31) (r1 := 103) (r2 := 2) (r3 := 1) rfl rfl rfl (of_decide_eq_true rfl) rfl rfl (by decide) rfl rfl (of_decide_eq_true rfl) (of_decide_eq_true rfl) ?_
    refine ct_103_1 hcr  g3 0 11 (by omega) (by omega)  (fun h5 z6 g5 u5 (fz6 : 0 ≤ z6 ∧ z6 ≤ 1) => ?_)
    have F7 := F4.then (by decide +kernel) u5
    refine wk_i ?_
    refine wi_if (cd := .ne) (nx := 34) (r1 := 36) (r2 := 0) (r3 := 0) rfl (by omega) (fun (q8 : z6 ≠ 0) => ?_) (fun (q8 : ¬ (z6 ≠ 0)) => ?_)
    ·
      refine wi_aload_n (i := 0) (x := 10) (nx := 37) (r1 := 0) (r2 := 0) (r3 := 0) rfl rfl ?_
      refine wr_gr (k0 := 10) (x := 11) (nx := 40) (r1 := 3) (r2 := 0) (r3 := 0) rfl rfl (by decide) rfl ⟨rfl, rfl⟩ rfl ?_
      refine wi_aload_n (i := 0) (x := 10) (nx := 41) (r1 := 0) (r2 := 0) (r3 := 0) rfl rfl ?_
      refine wr_gr (k0 := 10) (x := 1) (nx := 44) (r1 := 3) (r2 := 1) (r3 := 0) rfl rfl (by decide) rfl ⟨rfl, rfl⟩ rfl ?_
      have b9 := gi_b (lo := -2147483648) (hi := 2147483647) g5 1 7 rfl
      refine wr_gi0 (k0 := 1) (x := h5 1 7) (nx := 47) (r1 := 1) (r2 := 7) (r3 := 0) rfl rfl (by decide) rfl ⟨rfl, rfl⟩ rfl rfl ?_
      refine wr_pf0 (k0 := 11) (x := h5 1 7) (bl := -2147483648) (bh := 2147483647) (nx := 50) (r1 := 2) (r2 := 3) (r3 := 0) rfl (by decide) rfl ⟨rfl, rfl⟩ rfl rfl g5 rfl (by omega) (fun h10 g10 w10 u10 => ?_)
      have F11 := F7.then rfl u10
      refine wi_aload_n (i := 0) (x := 10) (nx := 51) (r1 := 0) (r2 := 0) (r3 := 0) rfl rfl ?_
      refine wr_gr (k0 := 10) (x := 1) (nx := 54) (r1 := 3) (r2 := 1) (r3 := 0) rfl rfl (by decide) rfl ⟨rfl, rfl⟩ rfl ?_
      refine wi_iconst (n := 0) (nx := 55) (r1 := 0) (r2 := 0) (r3 := 0) rfl ?_
      refine wi_bipush (n := 11) (nx := 57) (r1 := 0) (r2 := 0) (r3 := 0) rfl (by decide) ?_
      refine wr_V (k0 := 1) (rest := []) (as := [.ref 1, vi 0, vi 11]) (nx := 60) (r1 := 103) (r2 := 2) (r3 := 1) rfl rfl rfl (of_decide_eq_true rfl) rfl rfl (by decide) rfl rfl (of_decide_eq_true rfl) (of_decide_eq_true rfl) ?_
      refine ct_103_1 hcr  g10 0 11 (by omega) (by omega)  (fun h12 z13 g12 u12 (fz13 : 0 ≤ z13 ∧ z13 ≤ 1) => ?_)
      have F14 := F11.then (by decide +kernel) u12
      refine wk_i ?_
      refine wi_if (cd := .ne) (nx := 63) (r1 := 65) (r2 := 0) (r3 := 0) rfl (by omega) (fun (q15 : z13 ≠ 0) => ?_) (fun (q15 : ¬ (z13 ≠ 0)) => ?_)
      ·
        refine wi_aload_n (i := 0) (x := 10) (nx := 66) (r1 := 0) (r2 := 0) (r3 := 0) rfl rfl ?_
        refine wr_gr (k0 := 10) (x := 11) (nx := 69) (r1 := 3) (r2 := 0) (r3 := 0) rfl rfl (by decide) rfl ⟨rfl, rfl⟩ rfl ?_
        refine wi_aload_n (i := 0) (x := 10) (nx := 70) (r1 := 0) (r2 := 0) (r3 := 0) rfl rfl ?_
        refine wr_gr (k0 := 10) (x := 1) (nx := 73) (r1 := 3) (r2 := 1) (r3 := 0) rfl rfl (by decide) rfl ⟨rfl, rfl⟩ rfl ?_
        have b16 := gi_b (lo := -2147483648) (hi := 2147483647) g12 1 7 rfl
        refine wr_gi0 (k0 := 1) (x := h12 1 7) (nx := 76) (r1 := 1) (r2 := 7) (r3 := 0) rfl rfl (by decide) rfl ⟨rfl, rfl⟩ rfl rfl ?_
        refine wr_pf0 (k0 := 11) (x := h12 1 7) (bl := -2147483648) (bh := 2147483647) (nx := 79) (r1 := 2) (r2 := 4) (r3 := 0) rfl (by decide) rfl ⟨rfl, rfl⟩ rfl rfl g12 rfl (by omega) (fun h17 g17 w17 u17 => ?_)
        have F18 := F14.then rfl u17
        refine wi_iconst (n := 1) (nx := 80) (r1 := 0) (r2 := 0) (r3 := 0) rfl ?_
        refine wi_zreturn (nx := 81) (r1 := 0) (r2 := 0) (r3 := 0) rfl rfl (by omega) ?_
        exact k h17 1 g17 F18 (by omega)
      ·
        refine wi_iconst (n := 0) (nx := 64) (r1 := 0) (r2 := 0) (r3 := 0) rfl ?_
        refine wi_zreturn (nx := 65) (r1 := 0) (r2 := 0) (r3 := 0) rfl rfl (by omega) ?_
        exact k h12 0 g12 F14 (by omega)
    ·
      refine wi_iconst (n := 0) (nx := 35) (r1 := 0) (r2 := 0) (r3 := 0) rfl ?_
      refine wi_zreturn (nx := 36) (r1 := 0) (r2 := 0) (r3 := 0) rfl rfl (by omega) ?_
      exact k h5 0 g5 F7 (by omega)
  ·
    refine wi_aload_n (i := 0) (x := 10) (nx := 8) (r1 := 0) (r2 := 0) (r3 := 0) rfl rfl ?_
    refine wr_gr (k0 := 10) (x := 1) (nx := 11) (r1 := 3) (r2 := 1) (r3 := 0) rfl rfl (by decide) rfl ⟨rfl, rfl⟩ rfl ?_
    refine wi_iconst (n := 3) (nx := 12) (r1 := 0) (r2 := 0) (r3 := 0) rfl ?_
    refine wr_V (k0 := 1) (rest := []) (as := [.ref 1, vi 3]) (nx := 15) (r1 := 101) (r2 := 1) (r3 := 1) rfl rfl rfl (of_decide_eq_true rfl) rfl rfl (by decide) rfl rfl (of_decide_eq_true rfl) (of_decide_eq_true rfl) ?_
    refine ct_101_1 hcr  g 3 (by omega)  (fun h3 z4 g3 u3 (fz4 : 0 ≤ z4 ∧ z4 ≤ 0) => ?_)
    have F5 := F0.then (by decide +kernel) u3
    refine wk_i ?_
    refine wi_zreturn (nx := 16) (r1 := 0) (r2 := 0) (r3 := 0) rfl rfl (by omega) ?_
    exact k h3 z4 g3 F5 (by omega)
-- method 123: SetupReader.readBatch()Z
set_option maxRecDepth 100000 in
set_option maxHeartbeats 100000000 in
theorem ct_123_10 {L : Nat} {xs : Nat → Int32} {d b c : Nat} {h : hp} {cr : Nat → Nat → Option Nat} {Q : hp_Q} (hcr : CR cr)  (g : GI h)    (k : ∀ (h2 : hp) (z0 : Int) , GI h2 → FR [(1, 1, some (2, 2)), (1, 1, some (3, 3)), (1, 1, some (4, 4)), (1, 1, some (5, 5)), (1, 1, some (6, 6)), (1, 1, some (7, 7)), (1, 1, some (8, 8)), (1, 1, some (9, 9)), (10, 10, some (3, 3)), (11, 11, some (5, 5)), (11, 11, some (6, 6))] h h2 → (0 ≤ z0 ∧ z0 ≤ 1) → Q (.inl (some (vi z0))) (hp_w h2 cr) b c) : wp (md_xa (L, xs)) (d + 4) 123 (0, [(0, .ref 10)], [], hp_w h cr, b, c) Q := by
  have F0 : FR [(1, 1, some (2, 2)), (1, 1, some (3, 3)), (1, 1, some (4, 4)), (1, 1, some (5, 5)), (1, 1, some (6, 6)), (1, 1, some (7, 7)), (1, 1, some (8, 8)), (1, 1, some (9, 9)), (10, 10, some (3, 3)), (11, 11, some (5, 5)), (11, 11, some (6, 6))] h h := FR.refl
  refine wi_aload_n (i := 0) (x := 10) (nx := 1) (r1 := 0) (r2 := 0) (r3 := 0) rfl rfl ?_
  have b1 := gi_b (lo := 0) (hi := 1) g 10 3 rfl
  refine wr_gi2 (k0 := 10) (x := h 10 3) (nx := 4) (r1 := 3) (r2 := 3) (r3 := 0) rfl rfl (by decide) rfl ⟨rfl, rfl⟩ rfl rfl ?_
  refine wi_if (cd := .eq) (nx := 7) (r1 := 16) (r2 := 0) (r3 := 0) rfl (by omega) (fun (q2 : (h 10 3) = 0) => ?_) (fun (q2 : ¬ ((h 10 3) = 0)) => ?_)
  ·
    refine wi_aload_n (i := 0) (x := 10) (nx := 17) (r1 := 0) (r2 := 0) (r3 := 0) rfl rfl ?_
    refine wi_iconst (n := 1) (nx := 18) (r1 := 0) (r2 := 0) (r3 := 0) rfl ?_
    refine wr_pf2 (k0 := 10) (x := 1) (bl := 0) (bh := 1) (nx := 21) (r1 := 3) (r2 := 3) (r3 := 2) rfl (by decide) rfl ⟨rfl, rfl⟩ rfl (by omega) rfl g rfl (by omega) (fun h3 g3 w3 u3 => ?_)
    have F4 := F0.then rfl u3
    refine wi_aload_n (i := 0) (x := 10) (nx := 22) (r1 := 0) (r2 := 0) (r3 := 0) rfl rfl ?_
    refine wr_gr (k0 := 10) (x := 1) (nx := 25) (r1 := 3) (r2 := 1) (r3 := 0) rfl rfl (by decide) rfl ⟨rfl, rfl⟩ rfl ?_
    refine wi_iconst (n := 1) (nx := 26) (r1 := 0) (r2 := 0) (r3 := 0) rfl ?_
    refine wi_bipush (n := 9) (nx := 28) (r1 := 0) (r2 := 0) (r3 := 0) rfl (by decide) ?_
    refine wr_V (k0 := 1) (rest := []) (as := [.ref 1, vi 1, vi 9]) (nx := 31) (r1 := 103) (r2 := 2) (r3 := 1) rfl rfl rfl (of_decide_eq_true rfl) rfl rfl (by decide) rfl rfl (of_decide_eq_true rfl) (of_decide_eq_true rfl) ?_
    refine ct_103_1 hcr  g3 1 9 (by omega) (by omega)  (fun h5 z6 g5 u5 (fz6 : 0 ≤ z6 ∧ z6 ≤ 1) => ?_)
    have F7 := F4.then (by decide +kernel) u5
    refine wk_i ?_
    refine wi_if (cd := .ne) (nx := 34) (r1 := 36) (r2 := 0) (r3 := 0) rfl (by omega) (fun (q8 : z6 ≠ 0) => ?_) (fun (q8 : ¬ (z6 ≠ 0)) => ?_)
    ·
      refine wi_aload_n (i := 0) (x := 10) (nx := 37) (r1 := 0) (r2 := 0) (r3 := 0) rfl rfl ?_
      refine wr_gr (k0 := 10) (x := 11) (nx := 40) (r1 := 3) (r2 := 0) (r3 := 0) rfl rfl (by decide) rfl ⟨rfl, rfl⟩ rfl ?_
      refine wi_aload_n (i := 0) (x := 10) (nx := 41) (r1 := 0) (r2 := 0) (r3 := 0) rfl rfl ?_
      refine wr_gr (k0 := 10) (x := 1) (nx := 44) (r1 := 3) (r2 := 1) (r3 := 0) rfl rfl (by decide) rfl ⟨rfl, rfl⟩ rfl ?_
      have b9 := gi_b (lo := -2147483648) (hi := 2147483647) g5 1 7 rfl
      refine wr_gi0 (k0 := 1) (x := h5 1 7) (nx := 47) (r1 := 1) (r2 := 7) (r3 := 0) rfl rfl (by decide) rfl ⟨rfl, rfl⟩ rfl rfl ?_
      refine wr_pf0 (k0 := 11) (x := h5 1 7) (bl := -2147483648) (bh := 2147483647) (nx := 50) (r1 := 2) (r2 := 5) (r3 := 0) rfl (by decide) rfl ⟨rfl, rfl⟩ rfl rfl g5 rfl (by omega) (fun h10 g10 w10 u10 => ?_)
      have F11 := F7.then rfl u10
      refine wi_aload_n (i := 0) (x := 10) (nx := 51) (r1 := 0) (r2 := 0) (r3 := 0) rfl rfl ?_
      refine wr_gr (k0 := 10) (x := 1) (nx := 54) (r1 := 3) (r2 := 1) (r3 := 0) rfl rfl (by decide) rfl ⟨rfl, rfl⟩ rfl ?_
      refine wr_gst (v := wv 9) (nx := 57) (r1 := 8) (r2 := 0) (r3 := 0) rfl rfl rfl ?_
      refine wr_V (k0 := 1) (rest := []) (as := [.ref 1, wv 9]) (nx := 60) (r1 := 102) (r2 := 1) (r3 := 1) rfl rfl rfl (of_decide_eq_true rfl) rfl rfl (by decide) rfl rfl (of_decide_eq_true rfl) (of_decide_eq_true rfl) ?_
      refine ct_102_1 hcr  g10 9 (by omega)  (fun h12 z13 g12 u12 (fz13 : 0 ≤ z13 ∧ z13 ≤ 1) => ?_)
      have F14 := F11.then (by decide +kernel) u12
      refine wk_i ?_
      refine wi_if (cd := .eq) (nx := 63) (r1 := 76) (r2 := 0) (r3 := 0) rfl (by omega) (fun (q15 : z13 = 0) => ?_) (fun (q15 : ¬ (z13 = 0)) => ?_)
      ·
        refine wi_iconst (n := 0) (nx := 77) (r1 := 0) (r2 := 0) (r3 := 0) rfl ?_
        refine wi_zreturn (nx := 78) (r1 := 0) (r2 := 0) (r3 := 0) rfl rfl (by omega) ?_
        exact k h12 0 g12 F14 (by omega)
      ·
        refine wi_aload_n (i := 0) (x := 10) (nx := 64) (r1 := 0) (r2 := 0) (r3 := 0) rfl rfl ?_
        refine wr_gr (k0 := 10) (x := 1) (nx := 67) (r1 := 3) (r2 := 1) (r3 := 0) rfl rfl (by decide) rfl ⟨rfl, rfl⟩ rfl ?_
        refine wi_iconst (n := 0) (nx := 68) (r1 := 0) (r2 := 0) (r3 := 0) rfl ?_
        refine wi_bipush (n := 99) (nx := 70) (r1 := 0) (r2 := 0) (r3 := 0) rfl (by decide) ?_
        refine wr_V (k0 := 1) (rest := []) (as := [.ref 1, vi 0, vi 99]) (nx := 73) (r1 := 103) (r2 := 2) (r3 := 1) rfl rfl rfl (of_decide_eq_true rfl) rfl rfl (by decide) rfl rfl (of_decide_eq_true rfl) (of_decide_eq_true rfl) ?_
        refine ct_103_1 hcr  g12 0 99 (by omega) (by omega)  (fun h16 z17 g16 u16 (fz17 : 0 ≤ z17 ∧ z17 ≤ 1) => ?_)
        have F18 := F14.then (by decide +kernel) u16
        refine wk_i ?_
        refine wi_if (cd := .ne) (nx := 76) (r1 := 78) (r2 := 0) (r3 := 0) rfl (by omega) (fun (q19 : z17 ≠ 0) => ?_) (fun (q19 : ¬ (z17 ≠ 0)) => ?_)
        ·
          refine wi_aload_n (i := 0) (x := 10) (nx := 79) (r1 := 0) (r2 := 0) (r3 := 0) rfl rfl ?_
          refine wr_gr (k0 := 10) (x := 11) (nx := 82) (r1 := 3) (r2 := 0) (r3 := 0) rfl rfl (by decide) rfl ⟨rfl, rfl⟩ rfl ?_
          refine wi_aload_n (i := 0) (x := 10) (nx := 83) (r1 := 0) (r2 := 0) (r3 := 0) rfl rfl ?_
          refine wr_gr (k0 := 10) (x := 1) (nx := 86) (r1 := 3) (r2 := 1) (r3 := 0) rfl rfl (by decide) rfl ⟨rfl, rfl⟩ rfl ?_
          have b20 := gi_b (lo := -2147483648) (hi := 2147483647) g16 1 7 rfl
          refine wr_gi0 (k0 := 1) (x := h16 1 7) (nx := 89) (r1 := 1) (r2 := 7) (r3 := 0) rfl rfl (by decide) rfl ⟨rfl, rfl⟩ rfl rfl ?_
          refine wr_pf0 (k0 := 11) (x := h16 1 7) (bl := -2147483648) (bh := 2147483647) (nx := 92) (r1 := 2) (r2 := 6) (r3 := 0) rfl (by decide) rfl ⟨rfl, rfl⟩ rfl rfl g16 rfl (by omega) (fun h21 g21 w21 u21 => ?_)
          have F22 := F18.then rfl u21
          refine wi_iconst (n := 1) (nx := 93) (r1 := 0) (r2 := 0) (r3 := 0) rfl ?_
          refine wi_zreturn (nx := 94) (r1 := 0) (r2 := 0) (r3 := 0) rfl rfl (by omega) ?_
          exact k h21 1 g21 F22 (by omega)
        ·
          refine wi_iconst (n := 0) (nx := 77) (r1 := 0) (r2 := 0) (r3 := 0) rfl ?_
          refine wi_zreturn (nx := 78) (r1 := 0) (r2 := 0) (r3 := 0) rfl rfl (by omega) ?_
          exact k h16 0 g16 F18 (by omega)
    ·
      refine wi_iconst (n := 0) (nx := 35) (r1 := 0) (r2 := 0) (r3 := 0) rfl ?_
      refine wi_zreturn (nx := 36) (r1 := 0) (r2 := 0) (r3 := 0) rfl rfl (by omega) ?_
      exact k h5 0 g5 F7 (by omega)
  ·
    refine wi_aload_n (i := 0) (x := 10) (nx := 8) (r1 := 0) (r2 := 0) (r3 := 0) rfl rfl ?_
    refine wr_gr (k0 := 10) (x := 1) (nx := 11) (r1 := 3) (r2 := 1) (r3 := 0) rfl rfl (by decide) rfl ⟨rfl, rfl⟩ rfl ?_
    refine wi_iconst (n := 3) (nx := 12) (r1 := 0) (r2 := 0) (r3 := 0) rfl ?_
    refine wr_V (k0 := 1) (rest := []) (as := [.ref 1, vi 3]) (nx := 15) (r1 := 101) (r2 := 1) (r3 := 1) rfl rfl rfl (of_decide_eq_true rfl) rfl rfl (by decide) rfl rfl (of_decide_eq_true rfl) (of_decide_eq_true rfl) ?_
    refine ct_101_1 hcr  g 3 (by omega)  (fun h3 z4 g3 u3 (fz4 : 0 ≤ z4 ∧ z4 ≤ 0) => ?_)
    have F5 := F0.then (by decide +kernel) u3
    refine wk_i ?_
    refine wi_zreturn (nx := 16) (r1 := 0) (r2 := 0) (r3 := 0) rfl rfl (by omega) ?_
    exact k h3 z4 g3 F5 (by omega)
-- method 124: SetupReader.readRework()Z
set_option maxRecDepth 100000 in
set_option maxHeartbeats 100000000 in
theorem ct_124_10 {L : Nat} {xs : Nat → Int32} {d b c : Nat} {h : hp} {cr : Nat → Nat → Option Nat} {Q : hp_Q} (hcr : CR cr)  (g : GI h)    (k : ∀ (h2 : hp) (z0 : Int) , GI h2 → FR [(1, 1, some (2, 2)), (1, 1, some (3, 3)), (1, 1, some (4, 4)), (1, 1, some (5, 5)), (1, 1, some (6, 6)), (1, 1, some (7, 7)), (1, 1, some (8, 8)), (1, 1, some (9, 9)), (10, 10, some (4, 4)), (11, 11, some (7, 7)), (11, 11, some (8, 8))] h h2 → (0 ≤ z0 ∧ z0 ≤ 1) → Q (.inl (some (vi z0))) (hp_w h2 cr) b c) : wp (md_xa (L, xs)) (d + 4) 124 (0, [(0, .ref 10)], [], hp_w h cr, b, c) Q := by
  have F0 : FR [(1, 1, some (2, 2)), (1, 1, some (3, 3)), (1, 1, some (4, 4)), (1, 1, some (5, 5)), (1, 1, some (6, 6)), (1, 1, some (7, 7)), (1, 1, some (8, 8)), (1, 1, some (9, 9)), (10, 10, some (4, 4)), (11, 11, some (7, 7)), (11, 11, some (8, 8))] h h := FR.refl
  refine wi_aload_n (i := 0) (x := 10) (nx := 1) (r1 := 0) (r2 := 0) (r3 := 0) rfl rfl ?_
  have b1 := gi_b (lo := 0) (hi := 1) g 10 4 rfl
  refine wr_gi2 (k0 := 10) (x := h 10 4) (nx := 4) (r1 := 3) (r2 := 4) (r3 := 0) rfl rfl (by decide) rfl ⟨rfl, rfl⟩ rfl rfl ?_
  refine wi_if (cd := .eq) (nx := 7) (r1 := 16) (r2 := 0) (r3 := 0) rfl (by omega) (fun (q2 : (h 10 4) = 0) => ?_) (fun (q2 : ¬ ((h 10 4) = 0)) => ?_)
  ·
    refine wi_aload_n (i := 0) (x := 10) (nx := 17) (r1 := 0) (r2 := 0) (r3 := 0) rfl rfl ?_
    refine wi_iconst (n := 1) (nx := 18) (r1 := 0) (r2 := 0) (r3 := 0) rfl ?_
    refine wr_pf2 (k0 := 10) (x := 1) (bl := 0) (bh := 1) (nx := 21) (r1 := 3) (r2 := 4) (r3 := 2) rfl (by decide) rfl ⟨rfl, rfl⟩ rfl (by omega) rfl g rfl (by omega) (fun h3 g3 w3 u3 => ?_)
    have F4 := F0.then rfl u3
    refine wi_aload_n (i := 0) (x := 10) (nx := 22) (r1 := 0) (r2 := 0) (r3 := 0) rfl rfl ?_
    refine wr_gr (k0 := 10) (x := 1) (nx := 25) (r1 := 3) (r2 := 1) (r3 := 0) rfl rfl (by decide) rfl ⟨rfl, rfl⟩ rfl ?_
    refine wi_iconst (n := 0) (nx := 26) (r1 := 0) (r2 := 0) (r3 := 0) rfl ?_
    refine wi_iconst (n := 3) (nx := 27) (r1 := 0) (r2 := 0) (r3 := 0) rfl ?_
    refine wr_V (k0 := 1) (rest := []) (as := [.ref 1, vi 0, vi 3]) (nx := 30) (r1 := 103) (r2 := 2) (r3 := 1) rfl rfl rfl (of_decide_eq_true rfl) rfl rfl (by decide) rfl rfl (of_decide_eq_true rfl) (of_decide_eq_true rfl) ?_
    refine ct_103_1 hcr  g3 0 3 (by omega) (by omega)  (fun h5 z6 g5 u5 (fz6 : 0 ≤ z6 ∧ z6 ≤ 1) => ?_)
    have F7 := F4.then (by decide +kernel) u5
    refine wk_i ?_
    refine wi_if (cd := .ne) (nx := 33) (r1 := 35) (r2 := 0) (r3 := 0) rfl (by omega) (fun (q8 : z6 ≠ 0) => ?_) (fun (q8 : ¬ (z6 ≠ 0)) => ?_)
    ·
      refine wi_aload_n (i := 0) (x := 10) (nx := 36) (r1 := 0) (r2 := 0) (r3 := 0) rfl rfl ?_
      refine wr_gr (k0 := 10) (x := 11) (nx := 39) (r1 := 3) (r2 := 0) (r3 := 0) rfl rfl (by decide) rfl ⟨rfl, rfl⟩ rfl ?_
      refine wi_aload_n (i := 0) (x := 10) (nx := 40) (r1 := 0) (r2 := 0) (r3 := 0) rfl rfl ?_
      refine wr_gr (k0 := 10) (x := 1) (nx := 43) (r1 := 3) (r2 := 1) (r3 := 0) rfl rfl (by decide) rfl ⟨rfl, rfl⟩ rfl ?_
      have b9 := gi_b (lo := -2147483648) (hi := 2147483647) g5 1 7 rfl
      refine wr_gi0 (k0 := 1) (x := h5 1 7) (nx := 46) (r1 := 1) (r2 := 7) (r3 := 0) rfl rfl (by decide) rfl ⟨rfl, rfl⟩ rfl rfl ?_
      refine wr_pf0 (k0 := 11) (x := h5 1 7) (bl := -2147483648) (bh := 2147483647) (nx := 49) (r1 := 2) (r2 := 7) (r3 := 0) rfl (by decide) rfl ⟨rfl, rfl⟩ rfl rfl g5 rfl (by omega) (fun h10 g10 w10 u10 => ?_)
      have F11 := F7.then rfl u10
      refine wi_aload_n (i := 0) (x := 10) (nx := 50) (r1 := 0) (r2 := 0) (r3 := 0) rfl rfl ?_
      refine wr_gr (k0 := 10) (x := 1) (nx := 53) (r1 := 3) (r2 := 1) (r3 := 0) rfl rfl (by decide) rfl ⟨rfl, rfl⟩ rfl ?_
      refine wr_gst (v := wv 11) (nx := 56) (r1 := 10) (r2 := 0) (r3 := 0) rfl rfl rfl ?_
      refine wr_V (k0 := 1) (rest := []) (as := [.ref 1, wv 11]) (nx := 59) (r1 := 102) (r2 := 1) (r3 := 1) rfl rfl rfl (of_decide_eq_true rfl) rfl rfl (by decide) rfl rfl (of_decide_eq_true rfl) (of_decide_eq_true rfl) ?_
      refine ct_102_1 hcr  g10 11 (by omega)  (fun h12 z13 g12 u12 (fz13 : 0 ≤ z13 ∧ z13 ≤ 1) => ?_)
      have F14 := F11.then (by decide +kernel) u12
      refine wk_i ?_
      refine wi_if (cd := .eq) (nx := 62) (r1 := 75) (r2 := 0) (r3 := 0) rfl (by omega) (fun (q15 : z13 = 0) => ?_) (fun (q15 : ¬ (z13 = 0)) => ?_)
      ·
        refine wi_iconst (n := 0) (nx := 76) (r1 := 0) (r2 := 0) (r3 := 0) rfl ?_
        refine wi_zreturn (nx := 77) (r1 := 0) (r2 := 0) (r3 := 0) rfl rfl (by omega) ?_
        exact k h12 0 g12 F14 (by omega)
      ·
        refine wi_aload_n (i := 0) (x := 10) (nx := 63) (r1 := 0) (r2 := 0) (r3 := 0) rfl rfl ?_
        refine wr_gr (k0 := 10) (x := 1) (nx := 66) (r1 := 3) (r2 := 1) (r3 := 0) rfl rfl (by decide) rfl ⟨rfl, rfl⟩ rfl ?_
        refine wi_iconst (n := 0) (nx := 67) (r1 := 0) (r2 := 0) (r3 := 0) rfl ?_
        refine wi_bipush (n := 9) (nx := 69) (r1 := 0) (r2 := 0) (r3 := 0) rfl (by decide) ?_
        refine wr_V (k0 := 1) (rest := []) (as := [.ref 1, vi 0, vi 9]) (nx := 72) (r1 := 103) (r2 := 2) (r3 := 1) rfl rfl rfl (of_decide_eq_true rfl) rfl rfl (by decide) rfl rfl (of_decide_eq_true rfl) (of_decide_eq_true rfl) ?_
        refine ct_103_1 hcr  g12 0 9 (by omega) (by omega)  (fun h16 z17 g16 u16 (fz17 : 0 ≤ z17 ∧ z17 ≤ 1) => ?_)
        have F18 := F14.then (by decide +kernel) u16
        refine wk_i ?_
        refine wi_if (cd := .ne) (nx := 75) (r1 := 77) (r2 := 0) (r3 := 0) rfl (by omega) (fun (q19 : z17 ≠ 0) => ?_) (fun (q19 : ¬ (z17 ≠ 0)) => ?_)
        ·
          refine wi_aload_n (i := 0) (x := 10) (nx := 78) (r1 := 0) (r2 := 0) (r3 := 0) rfl rfl ?_
          refine wr_gr (k0 := 10) (x := 11) (nx := 81) (r1 := 3) (r2 := 0) (r3 := 0) rfl rfl (by decide) rfl ⟨rfl, rfl⟩ rfl ?_
          refine wi_aload_n (i := 0) (x := 10) (nx := 82) (r1 := 0) (r2 := 0) (r3 := 0) rfl rfl ?_
          refine wr_gr (k0 := 10) (x := 1) (nx := 85) (r1 := 3) (r2 := 1) (r3 := 0) rfl rfl (by decide) rfl ⟨rfl, rfl⟩ rfl ?_
          have b20 := gi_b (lo := -2147483648) (hi := 2147483647) g16 1 7 rfl
          refine wr_gi0 (k0 := 1) (x := h16 1 7) (nx := 88) (r1 := 1) (r2 := 7) (r3 := 0) rfl rfl (by decide) rfl ⟨rfl, rfl⟩ rfl rfl ?_
          refine wr_pf0 (k0 := 11) (x := h16 1 7) (bl := -2147483648) (bh := 2147483647) (nx := 91) (r1 := 2) (r2 := 8) (r3 := 0) rfl (by decide) rfl ⟨rfl, rfl⟩ rfl rfl g16 rfl (by omega) (fun h21 g21 w21 u21 => ?_)
          have F22 := F18.then rfl u21
          refine wi_iconst (n := 1) (nx := 92) (r1 := 0) (r2 := 0) (r3 := 0) rfl ?_
          refine wi_zreturn (nx := 93) (r1 := 0) (r2 := 0) (r3 := 0) rfl rfl (by omega) ?_
          exact k h21 1 g21 F22 (by omega)
        ·
          refine wi_iconst (n := 0) (nx := 76) (r1 := 0) (r2 := 0) (r3 := 0) rfl ?_
          refine wi_zreturn (nx := 77) (r1 := 0) (r2 := 0) (r3 := 0) rfl rfl (by omega) ?_
          exact k h16 0 g16 F18 (by omega)
    ·
      refine wi_iconst (n := 0) (nx := 34) (r1 := 0) (r2 := 0) (r3 := 0) rfl ?_
      refine wi_zreturn (nx := 35) (r1 := 0) (r2 := 0) (r3 := 0) rfl rfl (by omega) ?_
      exact k h5 0 g5 F7 (by omega)
  ·
    refine wi_aload_n (i := 0) (x := 10) (nx := 8) (r1 := 0) (r2 := 0) (r3 := 0) rfl rfl ?_
    refine wr_gr (k0 := 10) (x := 1) (nx := 11) (r1 := 3) (r2 := 1) (r3 := 0) rfl rfl (by decide) rfl ⟨rfl, rfl⟩ rfl ?_
    refine wi_iconst (n := 3) (nx := 12) (r1 := 0) (r2 := 0) (r3 := 0) rfl ?_
    refine wr_V (k0 := 1) (rest := []) (as := [.ref 1, vi 3]) (nx := 15) (r1 := 101) (r2 := 1) (r3 := 1) rfl rfl rfl (of_decide_eq_true rfl) rfl rfl (by decide) rfl rfl (of_decide_eq_true rfl) (of_decide_eq_true rfl) ?_
    refine ct_101_1 hcr  g 3 (by omega)  (fun h3 z4 g3 u3 (fz4 : 0 ≤ z4 ∧ z4 ≤ 0) => ?_)
    have F5 := F0.then (by decide +kernel) u3
    refine wk_i ?_
    refine wi_zreturn (nx := 16) (r1 := 0) (r2 := 0) (r3 := 0) rfl rfl (by omega) ?_
    exact k h3 z4 g3 F5 (by omega)
-- method 125: SetupReader.readSpan()Z
set_option maxRecDepth 100000 in
set_option maxHeartbeats 100000000 in
theorem ct_125_10 {L : Nat} {xs : Nat → Int32} {d b c : Nat} {h : hp} {cr : Nat → Nat → Option Nat} {Q : hp_Q} (hcr : CR cr)  (g : GI h)    (k : ∀ (h2 : hp) (z0 : Int) , GI h2 → FR [(1, 1, some (2, 2)), (1, 1, some (3, 3)), (1, 1, some (4, 4)), (1, 1, some (5, 5)), (1, 1, some (6, 6)), (1, 1, some (7, 7)), (1, 1, some (8, 8)), (1, 1, some (9, 9)), (10, 10, some (5, 5)), (11, 11, some (9, 9))] h h2 → (0 ≤ z0 ∧ z0 ≤ 1) → Q (.inl (some (vi z0))) (hp_w h2 cr) b c) : wp (md_xa (L, xs)) (d + 4) 125 (0, [(0, .ref 10)], [], hp_w h cr, b, c) Q := by
  have F0 : FR [(1, 1, some (2, 2)), (1, 1, some (3, 3)), (1, 1, some (4, 4)), (1, 1, some (5, 5)), (1, 1, some (6, 6)), (1, 1, some (7, 7)), (1, 1, some (8, 8)), (1, 1, some (9, 9)), (10, 10, some (5, 5)), (11, 11, some (9, 9))] h h := FR.refl
  refine wi_aload_n (i := 0) (x := 10) (nx := 1) (r1 := 0) (r2 := 0) (r3 := 0) rfl rfl ?_
  have b1 := gi_b (lo := 0) (hi := 1) g 10 5 rfl
  refine wr_gi2 (k0 := 10) (x := h 10 5) (nx := 4) (r1 := 3) (r2 := 5) (r3 := 0) rfl rfl (by decide) rfl ⟨rfl, rfl⟩ rfl rfl ?_
  refine wi_if (cd := .eq) (nx := 7) (r1 := 16) (r2 := 0) (r3 := 0) rfl (by omega) (fun (q2 : (h 10 5) = 0) => ?_) (fun (q2 : ¬ ((h 10 5) = 0)) => ?_)
  ·
    refine wi_aload_n (i := 0) (x := 10) (nx := 17) (r1 := 0) (r2 := 0) (r3 := 0) rfl rfl ?_
    refine wi_iconst (n := 1) (nx := 18) (r1 := 0) (r2 := 0) (r3 := 0) rfl ?_
    refine wr_pf2 (k0 := 10) (x := 1) (bl := 0) (bh := 1) (nx := 21) (r1 := 3) (r2 := 5) (r3 := 2) rfl (by decide) rfl ⟨rfl, rfl⟩ rfl (by omega) rfl g rfl (by omega) (fun h3 g3 w3 u3 => ?_)
    have F4 := F0.then rfl u3
    refine wi_aload_n (i := 0) (x := 10) (nx := 22) (r1 := 0) (r2 := 0) (r3 := 0) rfl rfl ?_
    refine wr_gr (k0 := 10) (x := 1) (nx := 25) (r1 := 3) (r2 := 1) (r3 := 0) rfl rfl (by decide) rfl ⟨rfl, rfl⟩ rfl ?_
    refine wi_iconst (n := 0) (nx := 26) (r1 := 0) (r2 := 0) (r3 := 0) rfl ?_
    refine wi_bipush (n := 11) (nx := 28) (r1 := 0) (r2 := 0) (r3 := 0) rfl (by decide) ?_
    refine wr_V (k0 := 1) (rest := []) (as := [.ref 1, vi 0, vi 11]) (nx := 31) (r1 := 103) (r2 := 2) (r3 := 1) rfl rfl rfl (of_decide_eq_true rfl) rfl rfl (by decide) rfl rfl (of_decide_eq_true rfl) (of_decide_eq_true rfl) ?_
    refine ct_103_1 hcr  g3 0 11 (by omega) (by omega)  (fun h5 z6 g5 u5 (fz6 : 0 ≤ z6 ∧ z6 ≤ 1) => ?_)
    have F7 := F4.then (by decide +kernel) u5
    refine wk_i ?_
    refine wi_if (cd := .ne) (nx := 34) (r1 := 36) (r2 := 0) (r3 := 0) rfl (by omega) (fun (q8 : z6 ≠ 0) => ?_) (fun (q8 : ¬ (z6 ≠ 0)) => ?_)
    ·
      refine wi_aload_n (i := 0) (x := 10) (nx := 37) (r1 := 0) (r2 := 0) (r3 := 0) rfl rfl ?_
      refine wr_gr (k0 := 10) (x := 11) (nx := 40) (r1 := 3) (r2 := 0) (r3 := 0) rfl rfl (by decide) rfl ⟨rfl, rfl⟩ rfl ?_
      refine wi_aload_n (i := 0) (x := 10) (nx := 41) (r1 := 0) (r2 := 0) (r3 := 0) rfl rfl ?_
      refine wr_gr (k0 := 10) (x := 1) (nx := 44) (r1 := 3) (r2 := 1) (r3 := 0) rfl rfl (by decide) rfl ⟨rfl, rfl⟩ rfl ?_
      have b9 := gi_b (lo := -2147483648) (hi := 2147483647) g5 1 7 rfl
      refine wr_gi0 (k0 := 1) (x := h5 1 7) (nx := 47) (r1 := 1) (r2 := 7) (r3 := 0) rfl rfl (by decide) rfl ⟨rfl, rfl⟩ rfl rfl ?_
      refine wr_pf0 (k0 := 11) (x := h5 1 7) (bl := -2147483648) (bh := 2147483647) (nx := 50) (r1 := 2) (r2 := 9) (r3 := 0) rfl (by decide) rfl ⟨rfl, rfl⟩ rfl rfl g5 rfl (by omega) (fun h10 g10 w10 u10 => ?_)
      have F11 := F7.then rfl u10
      refine wi_iconst (n := 1) (nx := 51) (r1 := 0) (r2 := 0) (r3 := 0) rfl ?_
      refine wi_zreturn (nx := 52) (r1 := 0) (r2 := 0) (r3 := 0) rfl rfl (by omega) ?_
      exact k h10 1 g10 F11 (by omega)
    ·
      refine wi_iconst (n := 0) (nx := 35) (r1 := 0) (r2 := 0) (r3 := 0) rfl ?_
      refine wi_zreturn (nx := 36) (r1 := 0) (r2 := 0) (r3 := 0) rfl rfl (by omega) ?_
      exact k h5 0 g5 F7 (by omega)
  ·
    refine wi_aload_n (i := 0) (x := 10) (nx := 8) (r1 := 0) (r2 := 0) (r3 := 0) rfl rfl ?_
    refine wr_gr (k0 := 10) (x := 1) (nx := 11) (r1 := 3) (r2 := 1) (r3 := 0) rfl rfl (by decide) rfl ⟨rfl, rfl⟩ rfl ?_
    refine wi_iconst (n := 3) (nx := 12) (r1 := 0) (r2 := 0) (r3 := 0) rfl ?_
    refine wr_V (k0 := 1) (rest := []) (as := [.ref 1, vi 3]) (nx := 15) (r1 := 101) (r2 := 1) (r3 := 1) rfl rfl rfl (of_decide_eq_true rfl) rfl rfl (by decide) rfl rfl (of_decide_eq_true rfl) (of_decide_eq_true rfl) ?_
    refine ct_101_1 hcr  g 3 (by omega)  (fun h3 z4 g3 u3 (fz4 : 0 ≤ z4 ∧ z4 ≤ 0) => ?_)
    have F5 := F0.then (by decide +kernel) u3
    refine wk_i ?_
    refine wi_zreturn (nx := 16) (r1 := 0) (r2 := 0) (r3 := 0) rfl rfl (by omega) ?_
    exact k h3 z4 g3 F5 (by omega)
