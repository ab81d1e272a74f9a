-- method 74: Bank.laneLength(I)I
set_option maxRecDepth 100000 in
set_option maxHeartbeats 100000000 in
theorem ct_74_0 {L : Nat} {xs : Nat → Int32} {d b c : Nat} {h : hp} {cr : Nat → Nat → Option Nat} {Q : hp_Q} (hcr : CR cr) (hr : 1 ≤ b ∧ 6 ≤ c)  (g : GI h) (a0 : Int) (q0_ : -2147483648 ≤ a0 ∧ a0 ≤ 2147483647)  (k : ∀ (z0 : Int), (0 ≤ z0 ∧ z0 ≤ 12) → Q (.inl (some (vi z0))) (hp_w h cr) b c) (kx2 : Q (.inr 2) (hp_w h cr) (b - 1) (c - 6)) : wp (md_xa (L, xs)) (d + 1) 74 (0, [(0, .ref 0), (1, vi a0)], [], hp_w h cr, b, c) Q := by
  have F0 : FR [] h h := FR.refl
  refine wi_aload_n (i := 0) (x := 0) (nx := 1) (r1 := 0) (r2 := 0) (r3 := 0) rfl rfl ?_
  refine wi_iload_n (i := 1) (e := a0) (nx := 2) (r1 := 0) (r2 := 0) (r3 := 0) rfl rfl ?_
  refine wr_V (k0 := 0) (rest := []) (as := [.ref 0, vi a0]) (nx := 5) (r1 := 68) (r2 := 1) (r3 := 0) rfl rfl rfl (of_decide_eq_true rfl) rfl rfl (by decide) rfl rfl (of_decide_eq_true rfl) (of_decide_eq_true rfl) ?_
  refine wi_iload_n (i := 1) (e := a0) (nx := 1) (r1 := 0) (r2 := 0) (r3 := 0) rfl rfl ?_
  refine wi_if (cd := .lt) (nx := 4) (r1 := 15) (r2 := 0) (r3 := 0) rfl (by omega) (fun (q1 : a0 < 0) => ?_) (fun (q1 : ¬ (a0 < 0)) => ?_)
  ·
    refine wr_throw (Ex := 2) (nx := 18) (r1 := 2) (r2 := 0) (r3 := 1) rfl (by decide) rfl hr (by decide) ?_
    refine wk_x rfl ?_
    exact kx2
  ·
    refine wi_iload_n (i := 1) (e := a0) (nx := 5) (r1 := 0) (r2 := 0) (r3 := 0) rfl rfl ?_
    refine wi_aload_n (i := 0) (x := 0) (nx := 6) (r1 := 0) (r2 := 0) (r3 := 0) rfl rfl ?_
    refine wr_gr (k0 := 0) (x := 3) (nx := 9) (r1 := 0) (r2 := 1) (r3 := 0) rfl rfl (by decide) rfl ⟨rfl, rfl⟩ rfl ?_
    have b2 := gi_b (lo := 0) (hi := 4) g 3 1 rfl
    refine wr_gi0 (k0 := 3) (x := h 3 1) (nx := 12) (r1 := 2) (r2 := 1) (r3 := 0) rfl rfl (by decide) rfl ⟨rfl, rfl⟩ rfl rfl ?_
    refine wi_icmp (cd := .lt) (nx := 15) (r1 := 26) (r2 := 0) (r3 := 0) rfl (by omega) (by omega) (fun (q3 : a0 < (h 3 1)) => ?_) (fun (q3 : ¬ (a0 < (h 3 1))) => ?_)
    ·
      refine wi_return (nx := 27) (r1 := 0) (r2 := 0) (r3 := 0) rfl rfl ?_
      refine wk_n ?_
      refine wi_aload_n (i := 0) (x := 0) (nx := 6) (r1 := 0) (r2 := 0) (r3 := 0) rfl rfl ?_
      refine wr_gr (k0 := 0) (x := 18) (nx := 9) (r1 := 0) (r2 := 3) (r3 := 0) rfl rfl (by decide) rfl ⟨rfl, rfl⟩ rfl ?_
      refine wr_gr (k0 := 18) (x := 21) (nx := 12) (r1 := 4) (r2 := 3) (r3 := 0) rfl rfl (by decide) rfl ⟨rfl, rfl⟩ rfl ?_
      refine wi_iload_n (i := 1) (e := a0) (nx := 13) (r1 := 0) (r2 := 0) (r3 := 0) rfl rfl ?_
      obtain ⟨i4, ei4⟩ : ∃ q : Nat, a0 = (q : Int) := ⟨(a0).toNat, by omega⟩
      refine wr_aa (k0 := 21) (a := a0) (f := i4) (x := 21 + 8 + 2 * i4) (nx := 14) (r1 := 0) (r2 := 0) (r3 := 0) rfl (by decide) rfl (Or.inl rfl) (by omega) (by omega) (by decide) (hcr.1 21 (by decide) i4 (by omega)) ?_
      obtain ⟨k5, kk5, mk5⟩ : ∃ q, Rw q ∧ q = 21 + 8 + 2 * i4 := ⟨_, rw_lane 21 (by decide) i4 (by omega), rfl⟩
      rw [← mk5]
      have b6 := gi_b (lo := 0) (hi := 12) g k5 1 kk5.2.2.2.1
      refine wr_gi0 (k0 := k5) (x := h k5 1) (nx := 17) (r1 := 5) (r2 := 1) (r3 := 0) rfl rfl kk5.k kk5.1 ⟨rfl, rfl⟩ rfl rfl ?_
      refine wi_ireturn (nx := 18) (r1 := 0) (r2 := 0) (r3 := 0) rfl rfl ?_
      exact k (h k5 1) (by omega)
    ·
      refine wr_throw (Ex := 2) (nx := 18) (r1 := 2) (r2 := 0) (r3 := 1) rfl (by decide) rfl hr (by decide) ?_
      refine wk_x rfl ?_
      exact kx2
-- method 36: Bank.late()I
set_option maxRecDepth 100000 in
set_option maxHeartbeats 100000000 in
theorem ct_36_0 {L : Nat} {xs : Nat → Int32} {d b c : Nat} {h : hp} {cr : Nat → Nat → Option Nat} {Q : hp_Q} (hcr : CR cr)  (g : GI h)    (k : ∀ (z0 : Int), (-2147483648 ≤ z0 ∧ z0 ≤ 2147483647) → Q (.inl (some (vi z0))) (hp_w h cr) b c) : wp (md_xa (L, xs)) (d + 1) 36 (0, [(0, .ref 0)], [], hp_w h cr, b, c) Q := by
  have F0 : FR [] h h := FR.refl
  refine wi_iconst (n := 0) (nx := 1) (r1 := 0) (r2 := 0) (r3 := 0) rfl ?_
  refine wi_istore_n (i := 1) (e := 0) (lo2 := [(1, vi 0), (0, .ref 0)]) (nx := 2) (r1 := 0) (r2 := 0) (r3 := 0) rfl rfl ?_
  refine wi_iconst (n := 0) (nx := 3) (r1 := 0) (r2 := 0) (r3 := 0) rfl ?_
  refine wi_istore_n (i := 2) (e := 0) (lo2 := [(2, vi 0), (1, vi 0), (0, .ref 0)]) (nx := 4) (r1 := 0) (r2 := 0) (r3 := 0) rfl rfl ?_
  refine wp.lo (lo := [(0, .ref 0), (1, vi 0), (2, vi 0)]) ⟨rfl, rfl, rfl, trivial⟩ rfl ?_
  refine wl_2 (fun x1 x2 h3 => h = h3 ∧ ((-2147483648 ≤ x1 ∧ x1 ≤ 2147483647) ∧ (0 ≤ x2 ∧ x2 ≤ 12))) (fun x1 x2 h3 => ((12 : Int) + 1 - x2).toNat) (fun x1 x2 h3 => (4, [(0, .ref 0), (1, vi x1), (2, vi x2)], [], hp_w h3 cr, b, c)) ?_ 0 0 h ⟨rfl, (show (-2147483648 ≤ 0 ∧ 0 ≤ 2147483647) ∧ (0 ≤ 0 ∧ 0 ≤ 12) by omega)⟩
  intro x1 x2 h3 ⟨e3, f3⟩ I3
  subst e3
  refine wi_iload_n (i := 2) (e := x2) (nx := 5) (r1 := 0) (r2 := 0) (r3 := 0) rfl rfl ?_
  refine wi_aload_n (i := 0) (x := 0) (nx := 6) (r1 := 0) (r2 := 0) (r3 := 0) rfl rfl ?_
  refine wr_gr (k0 := 0) (x := 18) (nx := 9) (r1 := 0) (r2 := 3) (r3 := 0) rfl rfl (by decide) rfl ⟨rfl, rfl⟩ rfl ?_
  refine wr_gr (k0 := 18) (x := 26) (nx := 12) (r1 := 4) (r2 := 6) (r3 := 0) rfl rfl (by decide) rfl ⟨rfl, rfl⟩ rfl ?_
  have b5 := gi_b (lo := 0) (hi := 12) g 26 1 rfl
  refine wr_gi0 (k0 := 26) (x := h 26 1) (nx := 15) (r1 := 5) (r2 := 1) (r3 := 0) rfl rfl (by decide) rfl ⟨rfl, rfl⟩ rfl rfl ?_
  refine wi_icmp (cd := .ge) (nx := 18) (r1 := 50) (r2 := 0) (r3 := 0) rfl (by omega) (by omega) (fun (q6 : (h 26 1) ≤ x2) => ?_) (fun (q6 : ¬ ((h 26 1) ≤ x2)) => ?_)
  ·
    refine wi_iload_n (i := 1) (e := x1) (nx := 51) (r1 := 0) (r2 := 0) (r3 := 0) rfl rfl ?_
    refine wi_ireturn (nx := 52) (r1 := 0) (r2 := 0) (r3 := 0) rfl rfl ?_
    exact k x1 (by omega)
  ·
    refine wi_iload_n (i := 2) (e := x2) (nx := 19) (r1 := 0) (r2 := 0) (r3 := 0) rfl rfl ?_
    refine wi_aload_n (i := 0) (x := 0) (nx := 20) (r1 := 0) (r2 := 0) (r3 := 0) rfl rfl ?_
    refine wr_gr (k0 := 0) (x := 18) (nx := 23) (r1 := 0) (r2 := 3) (r3 := 0) rfl rfl (by decide) rfl ⟨rfl, rfl⟩ rfl ?_
    refine wr_gr (k0 := 18) (x := 26) (nx := 26) (r1 := 4) (r2 := 6) (r3 := 0) rfl rfl (by decide) rfl ⟨rfl, rfl⟩ rfl ?_
    refine wi_iload_n (i := 2) (e := x2) (nx := 27) (r1 := 0) (r2 := 0) (r3 := 0) rfl rfl ?_
    refine wr_V (k0 := 26) (rest := [vi x2]) (as := [.ref 26, vi x2]) (nx := 30) (r1 := 154) (r2 := 1) (r3 := 5) rfl rfl rfl (of_decide_eq_true rfl) rfl rfl (by decide) rfl rfl (of_decide_eq_true rfl) (of_decide_eq_true rfl) ?_
    refine ct_154_R hcr rw_26 g x2 (by omega)  (fun z8  (fz8 : -2147483648 ≤ z8 ∧ z8 ≤ 2147483647) => ?_)
    refine wk_i ?_
    refine wr_subW (nx := 31) (r1 := 0) (r2 := 0) (r3 := 0) rfl (fun e9 (fe9 : -2147483648 ≤ e9 ∧ e9 ≤ 2147483647) => ?_)
    refine wi_aload_n (i := 0) (x := 0) (nx := 32) (r1 := 0) (r2 := 0) (r3 := 0) rfl rfl ?_
    refine wr_gr (k0 := 0) (x := 3) (nx := 35) (r1 := 0) (r2 := 1) (r3 := 0) rfl rfl (by decide) rfl ⟨rfl, rfl⟩ rfl ?_
    have b10 := gi_b (lo := -2147483648) (hi := 2147483647) g 3 4 rfl
    refine wr_gi0 (k0 := 3) (x := h 3 4) (nx := 38) (r1 := 2) (r2 := 4) (r3 := 0) rfl rfl (by decide) rfl ⟨rfl, rfl⟩ rfl rfl ?_
    refine wi_icmp (cd := .le) (nx := 41) (r1 := 44) (r2 := 0) (r3 := 0) rfl (by omega) (by omega) (fun (q11 : e9 ≤ (h 3 4)) => ?_) (fun (q11 : ¬ (e9 ≤ (h 3 4))) => ?_)
    ·
      refine wr_iinc (i := 2) (n := 1) (v := x2) (fun e12 => [(2, vi e12), (0, .ref 0), (1, vi x1)]) (nx := 47) (r1 := 0) (r2 := 0) (r3 := 0) rfl rfl (fun _ => rfl) (fun e12 (fe12 : e12 = x2 + 1) => ?_)
      refine wi_goto (nx := 50) (r1 := 4) (r2 := 0) (r3 := 0) rfl ?_
      refine wp.lo (lo := [(0, .ref 0), (1, vi x1), (2, vi e12)]) ⟨rfl, rfl, rfl, trivial⟩ rfl ?_
      exact I3 x1 e12 h ⟨rfl, (show (-2147483648 ≤ x1 ∧ x1 ≤ 2147483647) ∧ (0 ≤ e12 ∧ e12 ≤ 12) by omega)⟩ (show ((12 : Int) + 1 - e12).toNat < ((12 : Int) + 1 - x2).toNat by omega)
    ·
      refine wr_iincW (i := 1) (n := 1) (v := x1) (fun e12 => [(1, vi e12), (0, .ref 0), (2, vi x2)]) (nx := 44) (r1 := 0) (r2 := 0) (r3 := 0) rfl rfl (fun _ => rfl) (fun e12 (fe12 : -2147483648 ≤ e12 ∧ e12 ≤ 2147483647) => ?_)
      refine wr_iinc (i := 2) (n := 1) (v := x2) (fun e13 => [(2, vi e13), (1, vi e12), (0, .ref 0)]) (nx := 47) (r1 := 0) (r2 := 0) (r3 := 0) rfl rfl (fun _ => rfl) (fun e13 (fe13 : e13 = x2 + 1) => ?_)
      refine wi_goto (nx := 50) (r1 := 4) (r2 := 0) (r3 := 0) rfl ?_
      refine wp.lo (lo := [(0, .ref 0), (1, vi e12), (2, vi e13)]) ⟨rfl, rfl, rfl, trivial⟩ rfl ?_
      exact I3 e12 e13 h ⟨rfl, (show (-2147483648 ≤ e12 ∧ e12 ≤ 2147483647) ∧ (0 ≤ e13 ∧ e13 ≤ 12) by omega)⟩ (show ((12 : Int) + 1 - e13).toNat < ((12 : Int) + 1 - x2).toNat by omega)
-- method 110: Setup.priceOf(II)I
set_option maxRecDepth 100000 in
set_option maxHeartbeats 100000000 in
theorem ct_110_3 {L : Nat} {xs : Nat → Int32} {d b c : Nat} {h : hp} {cr : Nat → Nat → Option Nat} {Q : hp_Q} (hcr : CR cr)  (g : GI h) (a0 : Int) (a1 : Int) (q0_ : -2147483648 ≤ a0 ∧ a0 ≤ 2147483647) (q1_ : -2147483648 ≤ a1 ∧ a1 ≤ 2147483647)  (k : ∀ (z0 : Int), (-2147483648 ≤ z0 ∧ z0 ≤ 2147483647) → Q (.inl (some (vi z0))) (hp_w h cr) b c) : wp (md_xa (L, xs)) d 110 (0, [(0, .ref 3), (1, vi a0), (2, vi a1)], [], hp_w h cr, b, c) Q := by
  have F0 : FR [] h h := FR.refl
  refine wi_iload_n (i := 1) (e := a0) (nx := 1) (r1 := 0) (r2 := 0) (r3 := 0) rfl rfl ?_
  refine wi_iconst (n := 1) (nx := 2) (r1 := 0) (r2 := 0) (r3 := 0) rfl ?_
  refine wi_iandm (m := 1) (nx := 3) (r1 := 0) (r2 := 0) (r3 := 0) rfl (by decide) (by decide) (fun e1 (fe1 : 0 ≤ e1 ∧ e1 ≤ 1) => ?_)
  refine wi_if (cd := .eq) (nx := 6) (r1 := 26) (r2 := 0) (r3 := 0) rfl (by omega) (fun (q2 : e1 = 0) => ?_) (fun (q2 : ¬ (e1 = 0)) => ?_)
  ·
    refine wi_iload_n (i := 1) (e := a0) (nx := 27) (r1 := 0) (r2 := 0) (r3 := 0) rfl rfl ?_
    refine wi_iconst (n := 2) (nx := 28) (r1 := 0) (r2 := 0) (r3 := 0) rfl ?_
    refine wi_iandm (m := 2) (nx := 29) (r1 := 0) (r2 := 0) (r3 := 0) rfl (by decide) (by decide) (fun e3 (fe3 : 0 ≤ e3 ∧ e3 ≤ 2) => ?_)
    refine wi_if (cd := .eq) (nx := 32) (r1 := 39) (r2 := 0) (r3 := 0) rfl (by omega) (fun (q4 : e3 = 0) => ?_) (fun (q4 : ¬ (e3 = 0)) => ?_)
    ·
      refine wi_iconst (n := 0) (nx := 40) (r1 := 0) (r2 := 0) (r3 := 0) rfl ?_
      refine wi_ireturn (nx := 41) (r1 := 0) (r2 := 0) (r3 := 0) rfl rfl ?_
      exact k 0 (by omega)
    ·
      refine wi_aload_n (i := 0) (x := 3) (nx := 33) (r1 := 0) (r2 := 0) (r3 := 0) rfl rfl ?_
      have b5 := gi_b (lo := -2147483648) (hi := 2147483647) g 3 6 rfl
      refine wr_gi0 (k0 := 3) (x := h 3 6) (nx := 36) (r1 := 2) (r2 := 6) (r3 := 0) rfl rfl (by decide) rfl ⟨rfl, rfl⟩ rfl rfl ?_
      refine wi_goto (nx := 39) (r1 := 40) (r2 := 0) (r3 := 0) rfl ?_
      refine wi_ireturn (nx := 41) (r1 := 0) (r2 := 0) (r3 := 0) rfl rfl ?_
      exact k (h 3 6) (by omega)
  ·
    refine wi_iload_n (i := 2) (e := a1) (nx := 7) (r1 := 0) (r2 := 0) (r3 := 0) rfl rfl ?_
    refine wi_if (cd := .lt) (nx := 10) (r1 := 15) (r2 := 0) (r3 := 0) rfl (by omega) (fun (q3 : a1 < 0) => ?_) (fun (q3 : ¬ (a1 < 0)) => ?_)
    ·
      refine wi_iconst (n := 0) (nx := 16) (r1 := 0) (r2 := 0) (r3 := 0) rfl ?_
      refine wi_goto (nx := 19) (r1 := 25) (r2 := 0) (r3 := 0) rfl ?_
      refine wi_ireturn (nx := 26) (r1 := 0) (r2 := 0) (r3 := 0) rfl rfl ?_
      exact k 0 (by omega)
    ·
      refine wi_iload_n (i := 2) (e := a1) (nx := 11) (r1 := 0) (r2 := 0) (r3 := 0) rfl rfl ?_
      refine wi_iconst (n := 5) (nx := 12) (r1 := 0) (r2 := 0) (r3 := 0) rfl ?_
      refine wi_icmp (cd := .lt) (nx := 15) (r1 := 19) (r2 := 0) (r3 := 0) rfl (by omega) (by omega) (fun (q4 : a1 < 5) => ?_) (fun (q4 : ¬ (a1 < 5)) => ?_)
      ·
        refine wi_aload_n (i := 0) (x := 3) (nx := 20) (r1 := 0) (r2 := 0) (r3 := 0) rfl rfl ?_
        refine wr_gr (k0 := 3) (x := 5) (nx := 23) (r1 := 2) (r2 := 11) (r3 := 0) rfl rfl (by decide) rfl ⟨rfl, rfl⟩ rfl ?_
        refine wi_iload_n (i := 2) (e := a1) (nx := 24) (r1 := 0) (r2 := 0) (r3 := 0) rfl rfl ?_
        obtain ⟨i5, ei5⟩ : ∃ q : Nat, a1 = (q : Int) := ⟨(a1).toNat, by omega⟩
        have b6 := gi_b (lo := -2147483648) (hi := 2147483647) g 5 i5 rfl
        refine wr_ia (k0 := 5) (a := a1) (f := i5) (x := h 5 i5) (nx := 25) (r1 := 0) (r2 := 0) (r3 := 0) rfl (by decide) rfl (by omega) (by omega) (by decide) rfl ?_
        refine wi_ireturn (nx := 26) (r1 := 0) (r2 := 0) (r3 := 0) rfl rfl ?_
        exact k (h 5 i5) (by omega)
      ·
        refine wi_iconst (n := 0) (nx := 16) (r1 := 0) (r2 := 0) (r3 := 0) rfl ?_
        refine wi_goto (nx := 19) (r1 := 25) (r2 := 0) (r3 := 0) rfl ?_
        refine wi_ireturn (nx := 26) (r1 := 0) (r2 := 0) (r3 := 0) rfl rfl ?_
        exact k 0 (by omega)
-- method 144: Line.note(III)V
set_option maxRecDepth 100000 in
set_option maxHeartbeats 100000000 in
theorem ct_144_18 {L : Nat} {xs : Nat → Int32} {d b c : Nat} {h : hp} {cr : Nat → Nat → Option Nat} {Q : hp_Q} (hcr : CR cr)  (g : GI h) (a0 : Int) (a1 : Int) (a2 : Int) (q0_ : 0 ≤ a0 ∧ a0 ≤ 11) (q1_ : -2147483648 ≤ a1 ∧ a1 ≤ 2147483647) (q2_ : -2147483648 ≤ a2 ∧ a2 ≤ 2147483647)  (k : ∀ (h2 : hp) , GI h2 → FR [(28, 28, none), (18, 18, some (15, 15))] h h2 → Q (.inl none) (hp_w h2 cr) b c) : wp (md_xa (L, xs)) d 144 (0, [(0, .ref 18), (1, vi a0), (2, vi a1), (3, vi a2)], [], hp_w h cr, b, c) Q := by
  have F0 : FR [(28, 28, none), (18, 18, some (15, 15))] h h := FR.refl
  refine wi_aload_n (i := 0) (x := 18) (nx := 1) (r1 := 0) (r2 := 0) (r3 := 0) rfl rfl ?_
  have b1 := gi_b (lo := 0) (hi := 36) g 18 15 rfl
  refine wr_gi0 (k0 := 18) (x := h 18 15) (nx := 4) (r1 := 4) (r2 := 15) (r3 := 0) rfl rfl (by decide) rfl ⟨rfl, rfl⟩ rfl rfl ?_
  refine wi_bipush (n := 36) (nx := 6) (r1 := 0) (r2 := 0) (r3 := 0) rfl (by decide) ?_
  refine wi_icmp (cd := .lt) (nx := 9) (r1 := 10) (r2 := 0) (r3 := 0) rfl (by omega) (by omega) (fun (q2 : (h 18 15) < 36) => ?_) (fun (q2 : ¬ ((h 18 15) < 36)) => ?_)
  ·
    refine wi_aload_n (i := 0) (x := 18) (nx := 11) (r1 := 0) (r2 := 0) (r3 := 0) rfl rfl ?_
    refine wr_gi0 (k0 := 18) (x := h 18 15) (nx := 14) (r1 := 4) (r2 := 15) (r3 := 0) rfl rfl (by decide) rfl ⟨rfl, rfl⟩ rfl rfl ?_
    refine wi_iconst (n := 4) (nx := 15) (r1 := 0) (r2 := 0) (r3 := 0) rfl ?_
    refine wr_mul (nx := 16) (r1 := 0) (r2 := 0) (r3 := 0) rfl (fun e3 (fe3 : e3 = (h 18 15) * 4) => ?_)
    refine wi_istore (i := 4) (e := e3) (lo2 := [(4, vi e3), (0, .ref 18), (1, vi a0), (2, vi a1), (3, vi a2)]) (nx := 18) (r1 := 0) (r2 := 0) (r3 := 0) rfl rfl ?_
    refine wi_aload_n (i := 0) (x := 18) (nx := 19) (r1 := 0) (r2 := 0) (r3 := 0) rfl rfl ?_
    refine wr_gr (k0 := 18) (x := 28) (nx := 22) (r1 := 4) (r2 := 14) (r3 := 0) rfl rfl (by decide) rfl ⟨rfl, rfl⟩ rfl ?_
    refine wi_iload (i := 4) (e := e3) (nx := 24) (r1 := 0) (r2 := 0) (r3 := 0) rfl rfl ?_
    refine wi_iconst (n := 0) (nx := 25) (r1 := 0) (r2 := 0) (r3 := 0) rfl ?_
    refine wr_add (nx := 26) (r1 := 0) (r2 := 0) (r3 := 0) rfl (fun e4 (fe4 : e4 = e3 + 0) => ?_)
    refine wi_iload_n (i := 1) (e := a0) (nx := 27) (r1 := 0) (r2 := 0) (r3 := 0) rfl rfl ?_
    obtain ⟨i5, ei5⟩ : ∃ q : Nat, e4 = (q : Int) := ⟨(e4).toNat, by omega⟩
    refine wr_is (k0 := 28) (a := e4) (f := i5) (x := a0) (bl := -2147483648) (bh := 2147483647) (nx := 28) (r1 := 0) (r2 := 0) (r3 := 0) rfl (by decide) rfl (by omega) (by omega) (by decide) g rfl (by omega) (fun h6 g6 w6 u6 => ?_)
    have F7 := F0.then rfl (FR.rngp (lo := 28) (hi := 28) u6 (by decide))
    refine wi_aload_n (i := 0) (x := 18) (nx := 29) (r1 := 0) (r2 := 0) (r3 := 0) rfl rfl ?_
    refine wr_gr (k0 := 18) (x := 28) (nx := 32) (r1 := 4) (r2 := 14) (r3 := 0) rfl rfl (by decide) rfl ⟨rfl, rfl⟩ rfl ?_
    refine wi_iload (i := 4) (e := e3) (nx := 34) (r1 := 0) (r2 := 0) (r3 := 0) rfl rfl ?_
    refine wi_iconst (n := 1) (nx := 35) (r1 := 0) (r2 := 0) (r3 := 0) rfl ?_
    refine wr_add (nx := 36) (r1 := 0) (r2 := 0) (r3 := 0) rfl (fun e8 (fe8 : e8 = e3 + 1) => ?_)
    refine wi_aload_n (i := 0) (x := 18) (nx := 37) (r1 := 0) (r2 := 0) (r3 := 0) rfl rfl ?_
    refine wr_gr (k0 := 18) (x := 19) (nx := 40) (r1 := 4) (r2 := 1) (r3 := 0) rfl rfl (by decide) rfl ⟨rfl, rfl⟩ rfl ?_
    refine wi_iload_n (i := 1) (e := a0) (nx := 41) (r1 := 0) (r2 := 0) (r3 := 0) rfl rfl ?_
    obtain ⟨i9, ei9⟩ : ∃ q : Nat, a0 = (q : Int) := ⟨(a0).toNat, by omega⟩
    have b10 := gi_b (lo := -2147483648) (hi := 2147483647) g 19 i9 rfl
    refine wr_ia (k0 := 19) (a := a0) (f := i9) (x := h 19 i9) (nx := 42) (r1 := 0) (r2 := 0) (r3 := 0) rfl (by decide) rfl (by omega) (by omega) (by decide) (u6 19 i9 (fn_a (by omega) fn_0)) ?_
    obtain ⟨i11, ei11⟩ : ∃ q : Nat, e8 = (q : Int) := ⟨(e8).toNat, by omega⟩
    refine wr_is (k0 := 28) (a := e8) (f := i11) (x := h 19 i9) (bl := -2147483648) (bh := 2147483647) (nx := 43) (r1 := 0) (r2 := 0) (r3 := 0) rfl (by decide) rfl (by omega) (by omega) (by decide) g6 rfl (by omega) (fun h12 g12 w12 u12 => ?_)
    have F13 := F7.then rfl (FR.rngp (lo := 28) (hi := 28) u12 (by decide))
    refine wi_aload_n (i := 0) (x := 18) (nx := 44) (r1 := 0) (r2 := 0) (r3 := 0) rfl rfl ?_
    refine wr_gr (k0 := 18) (x := 28) (nx := 47) (r1 := 4) (r2 := 14) (r3 := 0) rfl rfl (by decide) rfl ⟨rfl, rfl⟩ rfl ?_
    refine wi_iload (i := 4) (e := e3) (nx := 49) (r1 := 0) (r2 := 0) (r3 := 0) rfl rfl ?_
    refine wi_iconst (n := 2) (nx := 50) (r1 := 0) (r2 := 0) (r3 := 0) rfl ?_
    refine wr_add (nx := 51) (r1 := 0) (r2 := 0) (r3 := 0) rfl (fun e14 (fe14 : e14 = e3 + 2) => ?_)
    refine wi_iload_n (i := 2) (e := a1) (nx := 52) (r1 := 0) (r2 := 0) (r3 := 0) rfl rfl ?_
    obtain ⟨i15, ei15⟩ : ∃ q : Nat, e14 = (q : Int) := ⟨(e14).toNat, by omega⟩
    refine wr_is (k0 := 28) (a := e14) (f := i15) (x := a1) (bl := -2147483648) (bh := 2147483647) (nx := 53) (r1 := 0) (r2 := 0) (r3 := 0) rfl (by decide) rfl (by omega) (by omega) (by decide) g12 rfl (by omega) (fun h16 g16 w16 u16 => ?_)
    have F17 := F13.then rfl (FR.rngp (lo := 28) (hi := 28) u16 (by decide))
    refine wi_aload_n (i := 0) (x := 18) (nx := 54) (r1 := 0) (r2 := 0) (r3 := 0) rfl rfl ?_
    refine wr_gr (k0 := 18) (x := 28) (nx := 57) (r1 := 4) (r2 := 14) (r3 := 0) rfl rfl (by decide) rfl ⟨rfl, rfl⟩ rfl ?_
    refine wi_iload (i := 4) (e := e3) (nx := 59) (r1 := 0) (r2 := 0) (r3 := 0) rfl rfl ?_
    refine wi_iconst (n := 3) (nx := 60) (r1 := 0) (r2 := 0) (r3 := 0) rfl ?_
    refine wr_add (nx := 61) (r1 := 0) (r2 := 0) (r3 := 0) rfl (fun e18 (fe18 : e18 = e3 + 3) => ?_)
    refine wi_iload_n (i := 3) (e := a2) (nx := 62) (r1 := 0) (r2 := 0) (r3 := 0) rfl rfl ?_
    obtain ⟨i19, ei19⟩ : ∃ q : Nat, e18 = (q : Int) := ⟨(e18).toNat, by omega⟩
    refine wr_is (k0 := 28) (a := e18) (f := i19) (x := a2) (bl := -2147483648) (bh := 2147483647) (nx := 63) (r1 := 0) (r2 := 0) (r3 := 0) rfl (by decide) rfl (by omega) (by omega) (by decide) g16 rfl (by omega) (fun h20 g20 w20 u20 => ?_)
    have F21 := F17.then rfl (FR.rngp (lo := 28) (hi := 28) u20 (by decide))
    refine wi_aload_n (i := 0) (x := 18) (nx := 64) (r1 := 0) (r2 := 0) (r3 := 0) rfl rfl ?_
    refine wi_dup (nx := 65) (r1 := 0) (r2 := 0) (r3 := 0) rfl rfl ?_
    refine wr_gi0 (k0 := 18) (x := h 18 15) (nx := 68) (r1 := 4) (r2 := 15) (r3 := 0) rfl rfl (by decide) rfl ⟨rfl, rfl⟩ rfl ((u20 18 15 (fn_a (by omega) fn_0)).trans ((u16 18 15 (fn_a (by omega) fn_0)).trans ((u12 18 15 (fn_a (by omega) fn_0)).trans (u6 18 15 (fn_a (by omega) fn_0))))) ?_
    refine wi_iconst (n := 1) (nx := 69) (r1 := 0) (r2 := 0) (r3 := 0) rfl ?_
    refine wr_add (nx := 70) (r1 := 0) (r2 := 0) (r3 := 0) rfl (fun e22 (fe22 : e22 = (h 18 15) + 1) => ?_)
    refine wr_pf0 (k0 := 18) (x := e22) (bl := 0) (bh := 36) (nx := 73) (r1 := 4) (r2 := 15) (r3 := 0) rfl (by decide) rfl ⟨rfl, rfl⟩ rfl rfl g20 rfl (by omega) (fun h23 g23 w23 u23 => ?_)
    have F24 := F21.then rfl u23
    refine wi_return (nx := 74) (r1 := 0) (r2 := 0) (r3 := 0) rfl rfl ?_
    exact k h23 g23 F24
  ·
    refine wi_return (nx := 10) (r1 := 0) (r2 := 0) (r3 := 0) rfl rfl ?_
    exact k h g F0
-- method 143: Line.paint(IZ)V
set_option maxRecDepth 100000 in
set_option maxHeartbeats 100000000 in
theorem ct_143_18 {L : Nat} {xs : Nat → Int32} {d b c : Nat} {h : hp} {cr : Nat → Nat → Option Nat} {Q : hp_Q} (hcr : CR cr)  (g : GI h) (a0 : Int) (a1 : Int) (q0_ : 0 ≤ a0 ∧ a0 ≤ 11) (q1_ : 0 ≤ a1 ∧ a1 ≤ 1)  (k : ∀ (h2 : hp) , GI h2 → FR [(18, 36, none)] h h2 → Q (.inl none) (hp_w h2 cr) b c) : wp (md_xa (L, xs)) (d + 1) 143 (0, [(0, .ref 18), (1, vi a0), (2, vi a1)], [], hp_w h cr, b, c) Q := by
  have F0 : FR [(18, 36, none)] h h := FR.refl
  refine wi_aload_n (i := 0) (x := 18) (nx := 1) (r1 := 0) (r2 := 0) (r3 := 0) rfl rfl ?_
  refine wr_gr (k0 := 18) (x := 3) (nx := 4) (r1 := 4) (r2 := 0) (r3 := 0) rfl rfl (by decide) rfl ⟨rfl, rfl⟩ rfl ?_
  refine wi_aload_n (i := 0) (x := 18) (nx := 5) (r1 := 0) (r2 := 0) (r3 := 0) rfl rfl ?_
  have b1 := gi_b (lo := -2147483648) (hi := 2147483647) g 18 8 rfl
  refine wr_gi0 (k0 := 18) (x := h 18 8) (nx := 8) (r1 := 4) (r2 := 8) (r3 := 0) rfl rfl (by decide) rfl ⟨rfl, rfl⟩ rfl rfl ?_
  refine wi_aload_n (i := 0) (x := 18) (nx := 9) (r1 := 0) (r2 := 0) (r3 := 0) rfl rfl ?_
  have b2 := gi_b (lo := -2147483648) (hi := 2147483647) g 18 9 rfl
  refine wr_gi0 (k0 := 18) (x := h 18 9) (nx := 12) (r1 := 4) (r2 := 9) (r3 := 0) rfl rfl (by decide) rfl ⟨rfl, rfl⟩ rfl rfl ?_
  refine wi_aload_n (i := 0) (x := 18) (nx := 13) (r1 := 0) (r2 := 0) (r3 := 0) rfl rfl ?_
  refine wr_gr (k0 := 18) (x := 19) (nx := 16) (r1 := 4) (r2 := 1) (r3 := 0) rfl rfl (by decide) rfl ⟨rfl, rfl⟩ rfl ?_
  refine wi_iload_n (i := 1) (e := a0) (nx := 17) (r1 := 0) (r2 := 0) (r3 := 0) rfl rfl ?_
  obtain ⟨i3, ei3⟩ : ∃ q : Nat, a0 = (q : Int) := ⟨(a0).toNat, by omega⟩
  have b4 := gi_b (lo := -2147483648) (hi := 2147483647) g 19 i3 rfl
  refine wr_ia (k0 := 19) (a := a0) (f := i3) (x := h 19 i3) (nx := 18) (r1 := 0) (r2 := 0) (r3 := 0) rfl (by decide) rfl (by omega) (by omega) (by decide) rfl ?_
  refine wr_V (k0 := 3) (rest := []) (as := [.ref 3, vi (h 18 8), vi (h 18 9), vi (h 19 i3)]) (nx := 21) (r1 := 109) (r2 := 3) (r3 := 2) rfl rfl rfl (of_decide_eq_true rfl) rfl rfl (by decide) rfl rfl (of_decide_eq_true rfl) (of_decide_eq_true rfl) ?_
  refine wi_iload_n (i := 1) (e := h 18 8) (nx := 1) (r1 := 0) (r2 := 0) (r3 := 0) rfl rfl ?_
  refine wi_iconst (n := (-1)) (nx := 2) (r1 := 0) (r2 := 0) (r3 := 0) rfl ?_
  refine wi_icmp (cd := .ne) (nx := 5) (r1 := 7) (r2 := 0) (r3 := 0) rfl (by omega) (by omega) (fun (q5 : (h 18 8) ≠ (-1)) => ?_) (fun (q5 : ¬ ((h 18 8) ≠ (-1))) => ?_)
  ·
    refine wi_iload_n (i := 1) (e := h 18 8) (nx := 8) (r1 := 0) (r2 := 0) (r3 := 0) rfl rfl ?_
    refine wi_iload_n (i := 3) (e := h 19 i3) (nx := 9) (r1 := 0) (r2 := 0) (r3 := 0) rfl rfl ?_
    refine wi_icmp (cd := .eq) (nx := 12) (r1 := 14) (r2 := 0) (r3 := 0) rfl (by omega) (by omega) (fun (q6 : (h 18 8) = (h 19 i3)) => ?_) (fun (q6 : ¬ ((h 18 8) = (h 19 i3))) => ?_)
    ·
      refine wi_iload_n (i := 2) (e := h 18 9) (nx := 15) (r1 := 0) (r2 := 0) (r3 := 0) rfl rfl ?_
      refine wi_aload_n (i := 0) (x := 3) (nx := 16) (r1 := 0) (r2 := 0) (r3 := 0) rfl rfl ?_
      have b7 := gi_b (lo := -2147483648) (hi := 2147483647) g 3 5 rfl
      refine wr_gi0 (k0 := 3) (x := h 3 5) (nx := 19) (r1 := 2) (r2 := 5) (r3 := 0) rfl rfl (by decide) rfl ⟨rfl, rfl⟩ rfl rfl ?_
      refine wi_icmp (cd := .lt) (nx := 22) (r1 := 26) (r2 := 0) (r3 := 0) rfl (by omega) (by omega) (fun (q8 : (h 18 9) < (h 3 5)) => ?_) (fun (q8 : ¬ ((h 18 9) < (h 3 5))) => ?_)
      ·
        refine wi_iconst (n := 0) (nx := 27) (r1 := 0) (r2 := 0) (r3 := 0) rfl ?_
        refine wi_ireturn (nx := 28) (r1 := 0) (r2 := 0) (r3 := 0) rfl rfl ?_
        refine wk_i ?_
        refine wi_istore_n (i := 3) (e := 0) (lo2 := [(3, vi 0), (0, .ref 18), (1, vi a0), (2, vi a1)]) (nx := 22) (r1 := 0) (r2 := 0) (r3 := 0) rfl rfl ?_
        refine wi_aload_n (i := 0) (x := 18) (nx := 23) (r1 := 0) (r2 := 0) (r3 := 0) rfl rfl ?_
        refine wr_gr (k0 := 18) (x := 3) (nx := 26) (r1 := 4) (r2 := 0) (r3 := 0) rfl rfl (by decide) rfl ⟨rfl, rfl⟩ rfl ?_
        refine wi_iload_n (i := 3) (e := 0) (nx := 27) (r1 := 0) (r2 := 0) (r3 := 0) rfl rfl ?_
        refine wi_aload_n (i := 0) (x := 18) (nx := 28) (r1 := 0) (r2 := 0) (r3 := 0) rfl rfl ?_
        refine wr_gr (k0 := 18) (x := 19) (nx := 31) (r1 := 4) (r2 := 1) (r3 := 0) rfl rfl (by decide) rfl ⟨rfl, rfl⟩ rfl ?_
        refine wi_iload_n (i := 1) (e := a0) (nx := 32) (r1 := 0) (r2 := 0) (r3 := 0) rfl rfl ?_
        refine wr_ia (k0 := 19) (a := a0) (f := i3) (x := h 19 i3) (nx := 33) (r1 := 0) (r2 := 0) (r3 := 0) rfl (by decide) rfl (by omega) (by omega) (by decide) rfl ?_
        refine wr_V (k0 := 3) (rest := []) (as := [.ref 3, vi 0, vi (h 19 i3)]) (nx := 36) (r1 := 110) (r2 := 2) (r3 := 2) rfl rfl rfl (of_decide_eq_true rfl) rfl rfl (by decide) rfl rfl (of_decide_eq_true rfl) (of_decide_eq_true rfl) ?_
        refine ct_110_3 hcr  g 0 (h 19 i3) (by omega) (by omega)  (fun z10  (fz10 : -2147483648 ≤ z10 ∧ z10 ≤ 2147483647) => ?_)
        refine wk_i ?_
        refine wi_istore (i := 4) (e := z10) (lo2 := [(4, vi z10), (3, vi 0), (0, .ref 18), (1, vi a0), (2, vi a1)]) (nx := 38) (r1 := 0) (r2 := 0) (r3 := 0) rfl rfl ?_
        refine wi_aload_n (i := 0) (x := 18) (nx := 39) (r1 := 0) (r2 := 0) (r3 := 0) rfl rfl ?_
        refine wi_aload_n (i := 0) (x := 18) (nx := 40) (r1 := 0) (r2 := 0) (r3 := 0) rfl rfl ?_
        refine wr_gr (k0 := 18) (x := 19) (nx := 43) (r1 := 4) (r2 := 1) (r3 := 0) rfl rfl (by decide) rfl ⟨rfl, rfl⟩ rfl ?_
        refine wi_iload_n (i := 1) (e := a0) (nx := 44) (r1 := 0) (r2 := 0) (r3 := 0) rfl rfl ?_
        refine wr_ia (k0 := 19) (a := a0) (f := i3) (x := h 19 i3) (nx := 45) (r1 := 0) (r2 := 0) (r3 := 0) rfl (by decide) rfl (by omega) (by omega) (by decide) rfl ?_
        refine wr_pf0 (k0 := 18) (x := h 19 i3) (bl := -2147483648) (bh := 2147483647) (nx := 48) (r1 := 4) (r2 := 8) (r3 := 0) rfl (by decide) rfl ⟨rfl, rfl⟩ rfl rfl g rfl (by omega) (fun h11 g11 w11 u11 => ?_)
        have F12 := F0.then rfl u11
        refine wi_aload_n (i := 0) (x := 18) (nx := 49) (r1 := 0) (r2 := 0) (r3 := 0) rfl rfl ?_
        refine wi_iload_n (i := 3) (e := 0) (nx := 50) (r1 := 0) (r2 := 0) (r3 := 0) rfl rfl ?_
        refine wi_aload_n (i := 0) (x := 18) (nx := 51) (r1 := 0) (r2 := 0) (r3 := 0) rfl rfl ?_
        refine wr_gi0 (k0 := 18) (x := h 18 9) (nx := 54) (r1 := 4) (r2 := 9) (r3 := 0) rfl rfl (by decide) rfl ⟨rfl, rfl⟩ rfl (u11 18 9 rfl) ?_
        refine wi_S (rest := [.ref 18]) (as := [vi 0, vi (h 18 9)]) (nx := 57) (r1 := 111) (r2 := 18) (r3 := 0) rfl rfl rfl (of_decide_eq_true rfl) rfl rfl (of_decide_eq_true rfl) (of_decide_eq_true rfl) ?_
        refine wi_iload_n (i := 0) (e := 0) (nx := 1) (r1 := 0) (r2 := 0) (r3 := 0) rfl rfl ?_
        refine wi_if (cd := .ne) (nx := 4) (r1 := 10) (r2 := 0) (r3 := 0) rfl (by omega) (fun (q13 : 0 ≠ 0) => by exfalso; omega) (fun (q13 : ¬ (0 ≠ 0)) => ?_)
        refine wi_iload_n (i := 1) (e := h 18 9) (nx := 5) (r1 := 0) (r2 := 0) (r3 := 0) rfl rfl ?_
        refine wi_iconst (n := 1) (nx := 6) (r1 := 0) (r2 := 0) (r3 := 0) rfl ?_
        refine wr_add (nx := 7) (r1 := 0) (r2 := 0) (r3 := 0) rfl (fun e14 (fe14 : e14 = (h 18 9) + 1) => ?_)
        refine wi_goto (nx := 10) (r1 := 11) (r2 := 0) (r3 := 0) rfl ?_
        refine wi_ireturn (nx := 12) (r1 := 0) (r2 := 0) (r3 := 0) rfl rfl ?_
        refine wk_i ?_
        refine wr_pf0 (k0 := 18) (x := e14) (bl := -2147483648) (bh := 2147483647) (nx := 60) (r1 := 4) (r2 := 9) (r3 := 0) rfl (by decide) rfl ⟨rfl, rfl⟩ rfl rfl g11 rfl (by omega) (fun h15 g15 w15 u15 => ?_)
        have F16 := F12.then rfl u15
        refine wi_aload_n (i := 0) (x := 18) (nx := 61) (r1 := 0) (r2 := 0) (r3 := 0) rfl rfl ?_
        refine wi_dup (nx := 62) (r1 := 0) (r2 := 0) (r3 := 0) rfl rfl ?_
        have b17 := gi_b (lo := -2147483648) (hi := 2147483647) g 18 13 rfl
        refine wr_gi0 (k0 := 18) (x := h 18 13) (nx := 65) (r1 := 4) (r2 := 13) (r3 := 0) rfl rfl (by decide) rfl ⟨rfl, rfl⟩ rfl ((u15 18 13 rfl).trans (u11 18 13 rfl)) ?_
        refine wi_iload (i := 4) (e := z10) (nx := 67) (r1 := 0) (r2 := 0) (r3 := 0) rfl rfl ?_
        refine wr_addW (nx := 68) (r1 := 0) (r2 := 0) (r3 := 0) rfl (fun e18 (fe18 : -2147483648 ≤ e18 ∧ e18 ≤ 2147483647) => ?_)
        refine wr_pf0 (k0 := 18) (x := e18) (bl := -2147483648) (bh := 2147483647) (nx := 71) (r1 := 4) (r2 := 13) (r3 := 0) rfl (by decide) rfl ⟨rfl, rfl⟩ rfl rfl g15 rfl (by omega) (fun h19 g19 w19 u19 => ?_)
        have F20 := F16.then rfl u19
        refine wi_iload_n (i := 3) (e := 0) (nx := 72) (r1 := 0) (r2 := 0) (r3 := 0) rfl rfl ?_
        refine wi_iconst (n := 1) (nx := 73) (r1 := 0) (r2 := 0) (r3 := 0) rfl ?_
        refine wi_iand (e := 0) (nx := 74) (r1 := 0) (r2 := 0) (r3 := 0) rfl (by decide) ?_
        refine wi_if (cd := .eq) (nx := 77) (r1 := 87) (r2 := 0) (r3 := 0) rfl (by omega) (fun (q21 : 0 = 0) => ?_) (fun (q21 : ¬ (0 = 0)) => by exfalso; omega)
        refine wi_iload_n (i := 3) (e := 0) (nx := 88) (r1 := 0) (r2 := 0) (r3 := 0) rfl rfl ?_
        refine wi_iconst (n := 2) (nx := 89) (r1 := 0) (r2 := 0) (r3 := 0) rfl ?_
        refine wi_iand (e := 0) (nx := 90) (r1 := 0) (r2 := 0) (r3 := 0) rfl (by decide) ?_
        refine wi_if (cd := .eq) (nx := 93) (r1 := 103) (r2 := 0) (r3 := 0) rfl (by omega) (fun (q22 : 0 = 0) => ?_) (fun (q22 : ¬ (0 = 0)) => by exfalso; omega)
        refine wi_aload_n (i := 0) (x := 18) (nx := 104) (r1 := 0) (r2 := 0) (r3 := 0) rfl rfl ?_
        refine wi_dup (nx := 105) (r1 := 0) (r2 := 0) (r3 := 0) rfl rfl ?_
        have b23 := gi_b (lo := -2147483648) (hi := 2147483647) g 18 10 rfl
        refine wr_gi0 (k0 := 18) (x := h 18 10) (nx := 108) (r1 := 4) (r2 := 10) (r3 := 0) rfl rfl (by decide) rfl ⟨rfl, rfl⟩ rfl ((u19 18 10 rfl).trans ((u15 18 10 rfl).trans (u11 18 10 rfl))) ?_
        refine wi_iconst (n := 1) (nx := 109) (r1 := 0) (r2 := 0) (r3 := 0) rfl ?_
        refine wr_addW (nx := 110) (r1 := 0) (r2 := 0) (r3 := 0) rfl (fun e24 (fe24 : -2147483648 ≤ e24 ∧ e24 ≤ 2147483647) => ?_)
        refine wr_pf0 (k0 := 18) (x := e24) (bl := -2147483648) (bh := 2147483647) (nx := 113) (r1 := 4) (r2 := 10) (r3 := 0) rfl (by decide) rfl ⟨rfl, rfl⟩ rfl rfl g19 rfl (by omega) (fun h25 g25 w25 u25 => ?_)
        have F26 := F20.then rfl u25
        refine wi_aload_n (i := 0) (x := 18) (nx := 114) (r1 := 0) (r2 := 0) (r3 := 0) rfl rfl ?_
        refine wi_iload_n (i := 1) (e := a0) (nx := 115) (r1 := 0) (r2 := 0) (r3 := 0) rfl rfl ?_
        refine wi_iload (i := 4) (e := z10) (nx := 117) (r1 := 0) (r2 := 0) (r3 := 0) rfl rfl ?_
        refine wi_iload_n (i := 2) (e := a1) (nx := 118) (r1 := 0) (r2 := 0) (r3 := 0) rfl rfl ?_
        refine wi_if (cd := .eq) (nx := 121) (r1 := 127) (r2 := 0) (r3 := 0) rfl (by omega) (fun (q27 : a1 = 0) => ?_) (fun (q27 : ¬ (a1 = 0)) => ?_)
        ·
          refine wi_iload_n (i := 3) (e := 0) (nx := 128) (r1 := 0) (r2 := 0) (r3 := 0) rfl rfl ?_
          refine wr_V (k0 := 18) (rest := []) (as := [.ref 18, vi a0, vi z10, vi 0]) (nx := 131) (r1 := 144) (r2 := 3) (r3 := 4) rfl rfl rfl (of_decide_eq_true rfl) rfl rfl (by decide) rfl rfl (of_decide_eq_true rfl) (of_decide_eq_true rfl) ?_
          refine ct_144_18 hcr  g25 a0 z10 0 (by omega) (by omega) (by omega)  (fun h28 g28 u28 => ?_)
          have F29 := F26.then (by decide +kernel) u28
          refine wk_n ?_
          refine wi_return (nx := 132) (r1 := 0) (r2 := 0) (r3 := 0) rfl rfl ?_
          exact k h28 g28 F29
        ·
          refine wi_iload_n (i := 3) (e := 0) (nx := 122) (r1 := 0) (r2 := 0) (r3 := 0) rfl rfl ?_
          refine wi_iconst (n := 4) (nx := 123) (r1 := 0) (r2 := 0) (r3 := 0) rfl ?_
          refine wi_ior (e := 4) (nx := 124) (r1 := 0) (r2 := 0) (r3 := 0) rfl (by decide) ?_
          refine wi_goto (nx := 127) (r1 := 128) (r2 := 0) (r3 := 0) rfl ?_
          refine wr_V (k0 := 18) (rest := []) (as := [.ref 18, vi a0, vi z10, vi 4]) (nx := 131) (r1 := 144) (r2 := 3) (r3 := 4) rfl rfl rfl (of_decide_eq_true rfl) rfl rfl (by decide) rfl rfl (of_decide_eq_true rfl) (of_decide_eq_true rfl) ?_
          refine ct_144_18 hcr  g25 a0 z10 4 (by omega) (by omega) (by omega)  (fun h28 g28 u28 => ?_)
          have F29 := F26.then (by decide +kernel) u28
          refine wk_n ?_
          refine wi_return (nx := 132) (r1 := 0) (r2 := 0) (r3 := 0) rfl rfl ?_
          exact k h28 g28 F29
      ·
        refine wi_iconst (n := 2) (nx := 23) (r1 := 0) (r2 := 0) (r3 := 0) rfl ?_
        refine wi_goto (nx := 26) (r1 := 27) (r2 := 0) (r3 := 0) rfl ?_
        refine wi_ireturn (nx := 28) (r1 := 0) (r2 := 0) (r3 := 0) rfl rfl ?_
        refine wk_i ?_
        refine wi_istore_n (i := 3) (e := 2) (lo2 := [(3, vi 2), (0, .ref 18), (1, vi a0), (2, vi a1)]) (nx := 22) (r1 := 0) (r2 := 0) (r3 := 0) rfl rfl ?_
        refine wi_aload_n (i := 0) (x := 18) (nx := 23) (r1 := 0) (r2 := 0) (r3 := 0) rfl rfl ?_
        refine wr_gr (k0 := 18) (x := 3) (nx := 26) (r1 := 4) (r2 := 0) (r3 := 0) rfl rfl (by decide) rfl ⟨rfl, rfl⟩ rfl ?_
        refine wi_iload_n (i := 3) (e := 2) (nx := 27) (r1 := 0) (r2 := 0) (r3 := 0) rfl rfl ?_
        refine wi_aload_n (i := 0) (x := 18) (nx := 28) (r1 := 0) (r2 := 0) (r3 := 0) rfl rfl ?_
        refine wr_gr (k0 := 18) (x := 19) (nx := 31) (r1 := 4) (r2 := 1) (r3 := 0) rfl rfl (by decide) rfl ⟨rfl, rfl⟩ rfl ?_
        refine wi_iload_n (i := 1) (e := a0) (nx := 32) (r1 := 0) (r2 := 0) (r3 := 0) rfl rfl ?_
        refine wr_ia (k0 := 19) (a := a0) (f := i3) (x := h 19 i3) (nx := 33) (r1 := 0) (r2 := 0) (r3 := 0) rfl (by decide) rfl (by omega) (by omega) (by decide) rfl ?_
        refine wr_V (k0 := 3) (rest := []) (as := [.ref 3, vi 2, vi (h 19 i3)]) (nx := 36) (r1 := 110) (r2 := 2) (r3 := 2) rfl rfl rfl (of_decide_eq_true rfl) rfl rfl (by decide) rfl rfl (of_decide_eq_true rfl) (of_decide_eq_true rfl) ?_
        refine ct_110_3 hcr  g 2 (h 19 i3) (by omega) (by omega)  (fun z10  (fz10 : -2147483648 ≤ z10 ∧ z10 ≤ 2147483647) => ?_)
        refine wk_i ?_
        refine wi_istore (i := 4) (e := z10) (lo2 := [(4, vi z10), (3, vi 2), (0, .ref 18), (1, vi a0), (2, vi a1)]) (nx := 38) (r1 := 0) (r2 := 0) (r3 := 0) rfl rfl ?_
        refine wi_aload_n (i := 0) (x := 18) (nx := 39) (r1 := 0) (r2 := 0) (r3 := 0) rfl rfl ?_
        refine wi_aload_n (i := 0) (x := 18) (nx := 40) (r1 := 0) (r2 := 0) (r3 := 0) rfl rfl ?_
        refine wr_gr (k0 := 18) (x := 19) (nx := 43) (r1 := 4) (r2 := 1) (r3 := 0) rfl rfl (by decide) rfl ⟨rfl, rfl⟩ rfl ?_
        refine wi_iload_n (i := 1) (e := a0) (nx := 44) (r1 := 0) (r2 := 0) (r3 := 0) rfl rfl ?_
        refine wr_ia (k0 := 19) (a := a0) (f := i3) (x := h 19 i3) (nx := 45) (r1 := 0) (r2 := 0) (r3 := 0) rfl (by decide) rfl (by omega) (by omega) (by decide) rfl ?_
        refine wr_pf0 (k0 := 18) (x := h 19 i3) (bl := -2147483648) (bh := 2147483647) (nx := 48) (r1 := 4) (r2 := 8) (r3 := 0) rfl (by decide) rfl ⟨rfl, rfl⟩ rfl rfl g rfl (by omega) (fun h11 g11 w11 u11 => ?_)
        have F12 := F0.then rfl u11
        refine wi_aload_n (i := 0) (x := 18) (nx := 49) (r1 := 0) (r2 := 0) (r3 := 0) rfl rfl ?_
        refine wi_iload_n (i := 3) (e := 2) (nx := 50) (r1 := 0) (r2 := 0) (r3 := 0) rfl rfl ?_
        refine wi_aload_n (i := 0) (x := 18) (nx := 51) (r1 := 0) (r2 := 0) (r3 := 0) rfl rfl ?_
        refine wr_gi0 (k0 := 18) (x := h 18 9) (nx := 54) (r1 := 4) (r2 := 9) (r3 := 0) rfl rfl (by decide) rfl ⟨rfl, rfl⟩ rfl (u11 18 9 rfl) ?_
        refine wi_S (rest := [.ref 18]) (as := [vi 2, vi (h 18 9)]) (nx := 57) (r1 := 111) (r2 := 18) (r3 := 0) rfl rfl rfl (of_decide_eq_true rfl) rfl rfl (of_decide_eq_true rfl) (of_decide_eq_true rfl) ?_
        refine wi_iload_n (i := 0) (e := 2) (nx := 1) (r1 := 0) (r2 := 0) (r3 := 0) rfl rfl ?_
        refine wi_if (cd := .ne) (nx := 4) (r1 := 10) (r2 := 0) (r3 := 0) rfl (by omega) (fun (q13 : 2 ≠ 0) => ?_) (fun (q13 : ¬ (2 ≠ 0)) => by exfalso; omega)
        refine wi_iconst (n := 1) (nx := 11) (r1 := 0) (r2 := 0) (r3 := 0) rfl ?_
        refine wi_ireturn (nx := 12) (r1 := 0) (r2 := 0) (r3 := 0) rfl rfl ?_
        refine wk_i ?_
        refine wr_pf0 (k0 := 18) (x := 1) (bl := -2147483648) (bh := 2147483647) (nx := 60) (r1 := 4) (r2 := 9) (r3 := 0) rfl (by decide) rfl ⟨rfl, rfl⟩ rfl rfl g11 rfl (by omega) (fun h14 g14 w14 u14 => ?_)
        have F15 := F12.then rfl u14
        refine wi_aload_n (i := 0) (x := 18) (nx := 61) (r1 := 0) (r2 := 0) (r3 := 0) rfl rfl ?_
        refine wi_dup (nx := 62) (r1 := 0) (r2 := 0) (r3 := 0) rfl rfl ?_
        have b16 := gi_b (lo := -2147483648) (hi := 2147483647) g 18 13 rfl
        refine wr_gi0 (k0 := 18) (x := h 18 13) (nx := 65) (r1 := 4) (r2 := 13) (r3 := 0) rfl rfl (by decide) rfl ⟨rfl, rfl⟩ rfl ((u14 18 13 rfl).trans (u11 18 13 rfl)) ?_
        refine wi_iload (i := 4) (e := z10) (nx := 67) (r1 := 0) (r2 := 0) (r3 := 0) rfl rfl ?_
        refine wr_addW (nx := 68) (r1 := 0) (r2 := 0) (r3 := 0) rfl (fun e17 (fe17 : -2147483648 ≤ e17 ∧ e17 ≤ 2147483647) => ?_)
        refine wr_pf0 (k0 := 18) (x := e17) (bl := -2147483648) (bh := 2147483647) (nx := 71) (r1 := 4) (r2 := 13) (r3 := 0) rfl (by decide) rfl ⟨rfl, rfl⟩ rfl rfl g14 rfl (by omega) (fun h18 g18 w18 u18 => ?_)
        have F19 := F15.then rfl u18
        refine wi_iload_n (i := 3) (e := 2) (nx := 72) (r1 := 0) (r2 := 0) (r3 := 0) rfl rfl ?_
        refine wi_iconst (n := 1) (nx := 73) (r1 := 0) (r2 := 0) (r3 := 0) rfl ?_
        refine wi_iand (e := 0) (nx := 74) (r1 := 0) (r2 := 0) (r3 := 0) rfl (by decide) ?_
        refine wi_if (cd := .eq) (nx := 77) (r1 := 87) (r2 := 0) (r3 := 0) rfl (by omega) (fun (q20 : 0 = 0) => ?_) (fun (q20 : ¬ (0 = 0)) => by exfalso; omega)
        refine wi_iload_n (i := 3) (e := 2) (nx := 88) (r1 := 0) (r2 := 0) (r3 := 0) rfl rfl ?_
        refine wi_iconst (n := 2) (nx := 89) (r1 := 0) (r2 := 0) (r3 := 0) rfl ?_
        refine wi_iand (e := 2) (nx := 90) (r1 := 0) (r2 := 0) (r3 := 0) rfl (by decide) ?_
        refine wi_if (cd := .eq) (nx := 93) (r1 := 103) (r2 := 0) (r3 := 0) rfl (by omega) (fun (q21 : 2 = 0) => by exfalso; omega) (fun (q21 : ¬ (2 = 0)) => ?_)
        refine wi_aload_n (i := 0) (x := 18) (nx := 94) (r1 := 0) (r2 := 0) (r3 := 0) rfl rfl ?_
        refine wi_dup (nx := 95) (r1 := 0) (r2 := 0) (r3 := 0) rfl rfl ?_
        have b22 := gi_b (lo := -2147483648) (hi := 2147483647) g 18 12 rfl
        refine wr_gi0 (k0 := 18) (x := h 18 12) (nx := 98) (r1 := 4) (r2 := 12) (r3 := 0) rfl rfl (by decide) rfl ⟨rfl, rfl⟩ rfl ((u18 18 12 rfl).trans ((u14 18 12 rfl).trans (u11 18 12 rfl))) ?_
        refine wi_iconst (n := 1) (nx := 99) (r1 := 0) (r2 := 0) (r3 := 0) rfl ?_
        refine wr_addW (nx := 100) (r1 := 0) (r2 := 0) (r3 := 0) rfl (fun e23 (fe23 : -2147483648 ≤ e23 ∧ e23 ≤ 2147483647) => ?_)
        refine wr_pf0 (k0 := 18) (x := e23) (bl := -2147483648) (bh := 2147483647) (nx := 103) (r1 := 4) (r2 := 12) (r3 := 0) rfl (by decide) rfl ⟨rfl, rfl⟩ rfl rfl g18 rfl (by omega) (fun h24 g24 w24 u24 => ?_)
        have F25 := F19.then rfl u24
        refine wi_aload_n (i := 0) (x := 18) (nx := 104) (r1 := 0) (r2 := 0) (r3 := 0) rfl rfl ?_
        refine wi_dup (nx := 105) (r1 := 0) (r2 := 0) (r3 := 0) rfl rfl ?_
        have b26 := gi_b (lo := -2147483648) (hi := 2147483647) g 18 10 rfl
        refine wr_gi0 (k0 := 18) (x := h 18 10) (nx := 108) (r1 := 4) (r2 := 10) (r3 := 0) rfl rfl (by decide) rfl ⟨rfl, rfl⟩ rfl ((u24 18 10 rfl).trans ((u18 18 10 rfl).trans ((u14 18 10 rfl).trans (u11 18 10 rfl)))) ?_
        refine wi_iconst (n := 1) (nx := 109) (r1 := 0) (r2 := 0) (r3 := 0) rfl ?_
        refine wr_addW (nx := 110) (r1 := 0) (r2 := 0) (r3 := 0) rfl (fun e27 (fe27 : -2147483648 ≤ e27 ∧ e27 ≤ 2147483647) => ?_)
        refine wr_pf0 (k0 := 18) (x := e27) (bl := -2147483648) (bh := 2147483647) (nx := 113) (r1 := 4) (r2 := 10) (r3 := 0) rfl (by decide) rfl ⟨rfl, rfl⟩ rfl rfl g24 rfl (by omega) (fun h28 g28 w28 u28 => ?_)
        have F29 := F25.then rfl u28
        refine wi_aload_n (i := 0) (x := 18) (nx := 114) (r1 := 0) (r2 := 0) (r3 := 0) rfl rfl ?_
        refine wi_iload_n (i := 1) (e := a0) (nx := 115) (r1 := 0) (r2 := 0) (r3 := 0) rfl rfl ?_
        refine wi_iload (i := 4) (e := z10) (nx := 117) (r1 := 0) (r2 := 0) (r3 := 0) rfl rfl ?_
        refine wi_iload_n (i := 2) (e := a1) (nx := 118) (r1 := 0) (r2 := 0) (r3 := 0) rfl rfl ?_
        refine wi_if (cd := .eq) (nx := 121) (r1 := 127) (r2 := 0) (r3 := 0) rfl (by omega) (fun (q30 : a1 = 0) => ?_) (fun (q30 : ¬ (a1 = 0)) => ?_)
        ·
          refine wi_iload_n (i := 3) (e := 2) (nx := 128) (r1 := 0) (r2 := 0) (r3 := 0) rfl rfl ?_
          refine wr_V (k0 := 18) (rest := []) (as := [.ref 18, vi a0, vi z10, vi 2]) (nx := 131) (r1 := 144) (r2 := 3) (r3 := 4) rfl rfl rfl (of_decide_eq_true rfl) rfl rfl (by decide) rfl rfl (of_decide_eq_true rfl) (of_decide_eq_true rfl) ?_
          refine ct_144_18 hcr  g28 a0 z10 2 (by omega) (by omega) (by omega)  (fun h31 g31 u31 => ?_)
          have F32 := F29.then (by decide +kernel) u31
          refine wk_n ?_
          refine wi_return (nx := 132) (r1 := 0) (r2 := 0) (r3 := 0) rfl rfl ?_
          exact k h31 g31 F32
        ·
          refine wi_iload_n (i := 3) (e := 2) (nx := 122) (r1 := 0) (r2 := 0) (r3 := 0) rfl rfl ?_
          refine wi_iconst (n := 4) (nx := 123) (r1 := 0) (r2 := 0) (r3 := 0) rfl ?_
          refine wi_ior (e := 6) (nx := 124) (r1 := 0) (r2 := 0) (r3 := 0) rfl (by decide) ?_
          refine wi_goto (nx := 127) (r1 := 128) (r2 := 0) (r3 := 0) rfl ?_
          refine wr_V (k0 := 18) (rest := []) (as := [.ref 18, vi a0, vi z10, vi 6]) (nx := 131) (r1 := 144) (r2 := 3) (r3 := 4) rfl rfl rfl (of_decide_eq_true rfl) rfl rfl (by decide) rfl rfl (of_decide_eq_true rfl) (of_decide_eq_true rfl) ?_
          refine ct_144_18 hcr  g28 a0 z10 6 (by omega) (by omega) (by omega)  (fun h31 g31 u31 => ?_)
          have F32 := F29.then (by decide +kernel) u31
          refine wk_n ?_
          refine wi_return (nx := 132) (r1 := 0) (r2 := 0) (r3 := 0) rfl rfl ?_
          exact k h31 g31 F32
    ·
      refine wi_iconst (n := 1) (nx := 13) (r1 := 0) (r2 := 0) (r3 := 0) rfl ?_
      refine wi_ireturn (nx := 14) (r1 := 0) (r2 := 0) (r3 := 0) rfl rfl ?_
      refine wk_i ?_
      refine wi_istore_n (i := 3) (e := 1) (lo2 := [(3, vi 1), (0, .ref 18), (1, vi a0), (2, vi a1)]) (nx := 22) (r1 := 0) (r2 := 0) (r3 := 0) rfl rfl ?_
      refine wi_aload_n (i := 0) (x := 18) (nx := 23) (r1 := 0) (r2 := 0) (r3 := 0) rfl rfl ?_
      refine wr_gr (k0 := 18) (x := 3) (nx := 26) (r1 := 4) (r2 := 0) (r3 := 0) rfl rfl (by decide) rfl ⟨rfl, rfl⟩ rfl ?_
      refine wi_iload_n (i := 3) (e := 1) (nx := 27) (r1 := 0) (r2 := 0) (r3 := 0) rfl rfl ?_
      refine wi_aload_n (i := 0) (x := 18) (nx := 28) (r1 := 0) (r2 := 0) (r3 := 0) rfl rfl ?_
      refine wr_gr (k0 := 18) (x := 19) (nx := 31) (r1 := 4) (r2 := 1) (r3 := 0) rfl rfl (by decide) rfl ⟨rfl, rfl⟩ rfl ?_
      refine wi_iload_n (i := 1) (e := a0) (nx := 32) (r1 := 0) (r2 := 0) (r3 := 0) rfl rfl ?_
      refine wr_ia (k0 := 19) (a := a0) (f := i3) (x := h 19 i3) (nx := 33) (r1 := 0) (r2 := 0) (r3 := 0) rfl (by decide) rfl (by omega) (by omega) (by decide) rfl ?_
      refine wr_V (k0 := 3) (rest := []) (as := [.ref 3, vi 1, vi (h 19 i3)]) (nx := 36) (r1 := 110) (r2 := 2) (r3 := 2) rfl rfl rfl (of_decide_eq_true rfl) rfl rfl (by decide) rfl rfl (of_decide_eq_true rfl) (of_decide_eq_true rfl) ?_
      refine ct_110_3 hcr  g 1 (h 19 i3) (by omega) (by omega)  (fun z8  (fz8 : -2147483648 ≤ z8 ∧ z8 ≤ 2147483647) => ?_)
      refine wk_i ?_
      refine wi_istore (i := 4) (e := z8) (lo2 := [(4, vi z8), (3, vi 1), (0, .ref 18), (1, vi a0), (2, vi a1)]) (nx := 38) (r1 := 0) (r2 := 0) (r3 := 0) rfl rfl ?_
      refine wi_aload_n (i := 0) (x := 18) (nx := 39) (r1 := 0) (r2 := 0) (r3 := 0) rfl rfl ?_
      refine wi_aload_n (i := 0) (x := 18) (nx := 40) (r1 := 0) (r2 := 0) (r3 := 0) rfl rfl ?_
      refine wr_gr (k0 := 18) (x := 19) (nx := 43) (r1 := 4) (r2 := 1) (r3 := 0) rfl rfl (by decide) rfl ⟨rfl, rfl⟩ rfl ?_
      refine wi_iload_n (i := 1) (e := a0) (nx := 44) (r1 := 0) (r2 := 0) (r3 := 0) rfl rfl ?_
      refine wr_ia (k0 := 19) (a := a0) (f := i3) (x := h 19 i3) (nx := 45) (r1 := 0) (r2 := 0) (r3 := 0) rfl (by decide) rfl (by omega) (by omega) (by decide) rfl ?_
      refine wr_pf0 (k0 := 18) (x := h 19 i3) (bl := -2147483648) (bh := 2147483647) (nx := 48) (r1 := 4) (r2 := 8) (r3 := 0) rfl (by decide) rfl ⟨rfl, rfl⟩ rfl rfl g rfl (by omega) (fun h9 g9 w9 u9 => ?_)
      have F10 := F0.then rfl u9
      refine wi_aload_n (i := 0) (x := 18) (nx := 49) (r1 := 0) (r2 := 0) (r3 := 0) rfl rfl ?_
      refine wi_iload_n (i := 3) (e := 1) (nx := 50) (r1 := 0) (r2 := 0) (r3 := 0) rfl rfl ?_
      refine wi_aload_n (i := 0) (x := 18) (nx := 51) (r1 := 0) (r2 := 0) (r3 := 0) rfl rfl ?_
      refine wr_gi0 (k0 := 18) (x := h 18 9) (nx := 54) (r1 := 4) (r2 := 9) (r3 := 0) rfl rfl (by decide) rfl ⟨rfl, rfl⟩ rfl (u9 18 9 rfl) ?_
      refine wi_S (rest := [.ref 18]) (as := [vi 1, vi (h 18 9)]) (nx := 57) (r1 := 111) (r2 := 18) (r3 := 0) rfl rfl rfl (of_decide_eq_true rfl) rfl rfl (of_decide_eq_true rfl) (of_decide_eq_true rfl) ?_
      refine wi_iload_n (i := 0) (e := 1) (nx := 1) (r1 := 0) (r2 := 0) (r3 := 0) rfl rfl ?_
      refine wi_if (cd := .ne) (nx := 4) (r1 := 10) (r2 := 0) (r3 := 0) rfl (by omega) (fun (q11 : 1 ≠ 0) => ?_) (fun (q11 : ¬ (1 ≠ 0)) => by exfalso; omega)
      refine wi_iconst (n := 1) (nx := 11) (r1 := 0) (r2 := 0) (r3 := 0) rfl ?_
      refine wi_ireturn (nx := 12) (r1 := 0) (r2 := 0) (r3 := 0) rfl rfl ?_
      refine wk_i ?_
      refine wr_pf0 (k0 := 18) (x := 1) (bl := -2147483648) (bh := 2147483647) (nx := 60) (r1 := 4) (r2 := 9) (r3 := 0) rfl (by decide) rfl ⟨rfl, rfl⟩ rfl rfl g9 rfl (by omega) (fun h12 g12 w12 u12 => ?_)
      have F13 := F10.then rfl u12
      refine wi_aload_n (i := 0) (x := 18) (nx := 61) (r1 := 0) (r2 := 0) (r3 := 0) rfl rfl ?_
      refine wi_dup (nx := 62) (r1 := 0) (r2 := 0) (r3 := 0) rfl rfl ?_
      have b14 := gi_b (lo := -2147483648) (hi := 2147483647) g 18 13 rfl
      refine wr_gi0 (k0 := 18) (x := h 18 13) (nx := 65) (r1 := 4) (r2 := 13) (r3 := 0) rfl rfl (by decide) rfl ⟨rfl, rfl⟩ rfl ((u12 18 13 rfl).trans (u9 18 13 rfl)) ?_
      refine wi_iload (i := 4) (e := z8) (nx := 67) (r1 := 0) (r2 := 0) (r3 := 0) rfl rfl ?_
      refine wr_addW (nx := 68) (r1 := 0) (r2 := 0) (r3 := 0) rfl (fun e15 (fe15 : -2147483648 ≤ e15 ∧ e15 ≤ 2147483647) => ?_)
      refine wr_pf0 (k0 := 18) (x := e15) (bl := -2147483648) (bh := 2147483647) (nx := 71) (r1 := 4) (r2 := 13) (r3 := 0) rfl (by decide) rfl ⟨rfl, rfl⟩ rfl rfl g12 rfl (by omega) (fun h16 g16 w16 u16 => ?_)
      have F17 := F13.then rfl u16
      refine wi_iload_n (i := 3) (e := 1) (nx := 72) (r1 := 0) (r2 := 0) (r3 := 0) rfl rfl ?_
      refine wi_iconst (n := 1) (nx := 73) (r1 := 0) (r2 := 0) (r3 := 0) rfl ?_
      refine wi_iand (e := 1) (nx := 74) (r1 := 0) (r2 := 0) (r3 := 0) rfl (by decide) ?_
      refine wi_if (cd := .eq) (nx := 77) (r1 := 87) (r2 := 0) (r3 := 0) rfl (by omega) (fun (q18 : 1 = 0) => by exfalso; omega) (fun (q18 : ¬ (1 = 0)) => ?_)
      refine wi_aload_n (i := 0) (x := 18) (nx := 78) (r1 := 0) (r2 := 0) (r3 := 0) rfl rfl ?_
      refine wi_dup (nx := 79) (r1 := 0) (r2 := 0) (r3 := 0) rfl rfl ?_
      have b19 := gi_b (lo := -2147483648) (hi := 2147483647) g 18 11 rfl
      refine wr_gi0 (k0 := 18) (x := h 18 11) (nx := 82) (r1 := 4) (r2 := 11) (r3 := 0) rfl rfl (by decide) rfl ⟨rfl, rfl⟩ rfl ((u16 18 11 rfl).trans ((u12 18 11 rfl).trans (u9 18 11 rfl))) ?_
      refine wi_iconst (n := 1) (nx := 83) (r1 := 0) (r2 := 0) (r3 := 0) rfl ?_
      refine wr_addW (nx := 84) (r1 := 0) (r2 := 0) (r3 := 0) rfl (fun e20 (fe20 : -2147483648 ≤ e20 ∧ e20 ≤ 2147483647) => ?_)
      refine wr_pf0 (k0 := 18) (x := e20) (bl := -2147483648) (bh := 2147483647) (nx := 87) (r1 := 4) (r2 := 11) (r3 := 0) rfl (by decide) rfl ⟨rfl, rfl⟩ rfl rfl g16 rfl (by omega) (fun h21 g21 w21 u21 => ?_)
      have F22 := F17.then rfl u21
      refine wi_iload_n (i := 3) (e := 1) (nx := 88) (r1 := 0) (r2 := 0) (r3 := 0) rfl rfl ?_
      refine wi_iconst (n := 2) (nx := 89) (r1 := 0) (r2 := 0) (r3 := 0) rfl ?_
      refine wi_iand (e := 0) (nx := 90) (r1 := 0) (r2 := 0) (r3 := 0) rfl (by decide) ?_
      refine wi_if (cd := .eq) (nx := 93) (r1 := 103) (r2 := 0) (r3 := 0) rfl (by omega) (fun (q23 : 0 = 0) => ?_) (fun (q23 : ¬ (0 = 0)) => by exfalso; omega)
      refine wi_aload_n (i := 0) (x := 18) (nx := 104) (r1 := 0) (r2 := 0) (r3 := 0) rfl rfl ?_
      refine wi_dup (nx := 105) (r1 := 0) (r2 := 0) (r3 := 0) rfl rfl ?_
      have b24 := gi_b (lo := -2147483648) (hi := 2147483647) g 18 10 rfl
      refine wr_gi0 (k0 := 18) (x := h 18 10) (nx := 108) (r1 := 4) (r2 := 10) (r3 := 0) rfl rfl (by decide) rfl ⟨rfl, rfl⟩ rfl ((u21 18 10 rfl).trans ((u16 18 10 rfl).trans ((u12 18 10 rfl).trans (u9 18 10 rfl)))) ?_
      refine wi_iconst (n := 1) (nx := 109) (r1 := 0) (r2 := 0) (r3 := 0) rfl ?_
      refine wr_addW (nx := 110) (r1 := 0) (r2 := 0) (r3 := 0) rfl (fun e25 (fe25 : -2147483648 ≤ e25 ∧ e25 ≤ 2147483647) => ?_)
      refine wr_pf0 (k0 := 18) (x := e25) (bl := -2147483648) (bh := 2147483647) (nx := 113) (r1 := 4) (r2 := 10) (r3 := 0) rfl (by decide) rfl ⟨rfl, rfl⟩ rfl rfl g21 rfl (by omega) (fun h26 g26 w26 u26 => ?_)
      have F27 := F22.then rfl u26
      refine wi_aload_n (i := 0) (x := 18) (nx := 114) (r1 := 0) (r2 := 0) (r3 := 0) rfl rfl ?_
      refine wi_iload_n (i := 1) (e := a0) (nx := 115) (r1 := 0) (r2 := 0) (r3 := 0) rfl rfl ?_
      refine wi_iload (i := 4) (e := z8) (nx := 117) (r1 := 0) (r2 := 0) (r3 := 0) rfl rfl ?_
      refine wi_iload_n (i := 2) (e := a1) (nx := 118) (r1 := 0) (r2 := 0) (r3 := 0) rfl rfl ?_
      refine wi_if (cd := .eq) (nx := 121) (r1 := 127) (r2 := 0) (r3 := 0) rfl (by omega) (fun (q28 : a1 = 0) => ?_) (fun (q28 : ¬ (a1 = 0)) => ?_)
      ·
        refine wi_iload_n (i := 3) (e := 1) (nx := 128) (r1 := 0) (r2 := 0) (r3 := 0) rfl rfl ?_
        refine wr_V (k0 := 18) (rest := []) (as := [.ref 18, vi a0, vi z8, vi 1]) (nx := 131) (r1 := 144) (r2 := 3) (r3 := 4) rfl rfl rfl (of_decide_eq_true rfl) rfl rfl (by decide) rfl rfl (of_decide_eq_true rfl) (of_decide_eq_true rfl) ?_
        refine ct_144_18 hcr  g26 a0 z8 1 (by omega) (by omega) (by omega)  (fun h29 g29 u29 => ?_)
        have F30 := F27.then (by decide +kernel) u29
        refine wk_n ?_
        refine wi_return (nx := 132) (r1 := 0) (r2 := 0) (r3 := 0) rfl rfl ?_
        exact k h29 g29 F30
      ·
        refine wi_iload_n (i := 3) (e := 1) (nx := 122) (r1 := 0) (r2 := 0) (r3 := 0) rfl rfl ?_
        refine wi_iconst (n := 4) (nx := 123) (r1 := 0) (r2 := 0) (r3 := 0) rfl ?_
        refine wi_ior (e := 5) (nx := 124) (r1 := 0) (r2 := 0) (r3 := 0) rfl (by decide) ?_
        refine wi_goto (nx := 127) (r1 := 128) (r2 := 0) (r3 := 0) rfl ?_
        refine wr_V (k0 := 18) (rest := []) (as := [.ref 18, vi a0, vi z8, vi 5]) (nx := 131) (r1 := 144) (r2 := 3) (r3 := 4) rfl rfl rfl (of_decide_eq_true rfl) rfl rfl (by decide) rfl rfl (of_decide_eq_true rfl) (of_decide_eq_true rfl) ?_
        refine ct_144_18 hcr  g26 a0 z8 5 (by omega) (by omega) (by omega)  (fun h29 g29 u29 => ?_)
        have F30 := F27.then (by decide +kernel) u29
        refine wk_n ?_
        refine wi_return (nx := 132) (r1 := 0) (r2 := 0) (r3 := 0) rfl rfl ?_
        exact k h29 g29 F30
  ·
    refine wi_iconst (n := 0) (nx := 6) (r1 := 0) (r2 := 0) (r3 := 0) rfl ?_
    refine wi_ireturn (nx := 7) (r1 := 0) (r2 := 0) (r3 := 0) rfl rfl ?_
    refine wk_i ?_
    refine wi_istore_n (i := 3) (e := 0) (lo2 := [(3, vi 0), (0, .ref 18), (1, vi a0), (2, vi a1)]) (nx := 22) (r1 := 0) (r2 := 0) (r3 := 0) rfl rfl ?_
    refine wi_aload_n (i := 0) (x := 18) (nx := 23) (r1 := 0) (r2 := 0) (r3 := 0) rfl rfl ?_
    refine wr_gr (k0 := 18) (x := 3) (nx := 26) (r1 := 4) (r2 := 0) (r3 := 0) rfl rfl (by decide) rfl ⟨rfl, rfl⟩ rfl ?_
    refine wi_iload_n (i := 3) (e := 0) (nx := 27) (r1 := 0) (r2 := 0) (r3 := 0) rfl rfl ?_
    refine wi_aload_n (i := 0) (x := 18) (nx := 28) (r1 := 0) (r2 := 0) (r3 := 0) rfl rfl ?_
    refine wr_gr (k0 := 18) (x := 19) (nx := 31) (r1 := 4) (r2 := 1) (r3 := 0) rfl rfl (by decide) rfl ⟨rfl, rfl⟩ rfl ?_
    refine wi_iload_n (i := 1) (e := a0) (nx := 32) (r1 := 0) (r2 := 0) (r3 := 0) rfl rfl ?_
    refine wr_ia (k0 := 19) (a := a0) (f := i3) (x := h 19 i3) (nx := 33) (r1 := 0) (r2 := 0) (r3 := 0) rfl (by decide) rfl (by omega) (by omega) (by decide) rfl ?_
    refine wr_V (k0 := 3) (rest := []) (as := [.ref 3, vi 0, vi (h 19 i3)]) (nx := 36) (r1 := 110) (r2 := 2) (r3 := 2) rfl rfl rfl (of_decide_eq_true rfl) rfl rfl (by decide) rfl rfl (of_decide_eq_true rfl) (of_decide_eq_true rfl) ?_
    refine ct_110_3 hcr  g 0 (h 19 i3) (by omega) (by omega)  (fun z7  (fz7 : -2147483648 ≤ z7 ∧ z7 ≤ 2147483647) => ?_)
    refine wk_i ?_
    refine wi_istore (i := 4) (e := z7) (lo2 := [(4, vi z7), (3, vi 0), (0, .ref 18), (1, vi a0), (2, vi a1)]) (nx := 38) (r1 := 0) (r2 := 0) (r3 := 0) rfl rfl ?_
    refine wi_aload_n (i := 0) (x := 18) (nx := 39) (r1 := 0) (r2 := 0) (r3 := 0) rfl rfl ?_
    refine wi_aload_n (i := 0) (x := 18) (nx := 40) (r1 := 0) (r2 := 0) (r3 := 0) rfl rfl ?_
    refine wr_gr (k0 := 18) (x := 19) (nx := 43) (r1 := 4) (r2 := 1) (r3 := 0) rfl rfl (by decide) rfl ⟨rfl, rfl⟩ rfl ?_
    refine wi_iload_n (i := 1) (e := a0) (nx := 44) (r1 := 0) (r2 := 0) (r3 := 0) rfl rfl ?_
    refine wr_ia (k0 := 19) (a := a0) (f := i3) (x := h 19 i3) (nx := 45) (r1 := 0) (r2 := 0) (r3 := 0) rfl (by decide) rfl (by omega) (by omega) (by decide) rfl ?_
    refine wr_pf0 (k0 := 18) (x := h 19 i3) (bl := -2147483648) (bh := 2147483647) (nx := 48) (r1 := 4) (r2 := 8) (r3 := 0) rfl (by decide) rfl ⟨rfl, rfl⟩ rfl rfl g rfl (by omega) (fun h8 g8 w8 u8 => ?_)
    have F9 := F0.then rfl u8
    refine wi_aload_n (i := 0) (x := 18) (nx := 49) (r1 := 0) (r2 := 0) (r3 := 0) rfl rfl ?_
    refine wi_iload_n (i := 3) (e := 0) (nx := 50) (r1 := 0) (r2 := 0) (r3 := 0) rfl rfl ?_
    refine wi_aload_n (i := 0) (x := 18) (nx := 51) (r1 := 0) (r2 := 0) (r3 := 0) rfl rfl ?_
    refine wr_gi0 (k0 := 18) (x := h 18 9) (nx := 54) (r1 := 4) (r2 := 9) (r3 := 0) rfl rfl (by decide) rfl ⟨rfl, rfl⟩ rfl (u8 18 9 rfl) ?_
    refine wi_S (rest := [.ref 18]) (as := [vi 0, vi (h 18 9)]) (nx := 57) (r1 := 111) (r2 := 18) (r3 := 0) rfl rfl rfl (of_decide_eq_true rfl) rfl rfl (of_decide_eq_true rfl) (of_decide_eq_true rfl) ?_
    refine wi_iload_n (i := 0) (e := 0) (nx := 1) (r1 := 0) (r2 := 0) (r3 := 0) rfl rfl ?_
    refine wi_if (cd := .ne) (nx := 4) (r1 := 10) (r2 := 0) (r3 := 0) rfl (by omega) (fun (q10 : 0 ≠ 0) => by exfalso; omega) (fun (q10 : ¬ (0 ≠ 0)) => ?_)
    refine wi_iload_n (i := 1) (e := h 18 9) (nx := 5) (r1 := 0) (r2 := 0) (r3 := 0) rfl rfl ?_
    refine wi_iconst (n := 1) (nx := 6) (r1 := 0) (r2 := 0) (r3 := 0) rfl ?_
    refine wr_addW (nx := 7) (r1 := 0) (r2 := 0) (r3 := 0) rfl (fun e11 (fe11 : -2147483648 ≤ e11 ∧ e11 ≤ 2147483647) => ?_)
    refine wi_goto (nx := 10) (r1 := 11) (r2 := 0) (r3 := 0) rfl ?_
    refine wi_ireturn (nx := 12) (r1 := 0) (r2 := 0) (r3 := 0) rfl rfl ?_
    refine wk_i ?_
    refine wr_pf0 (k0 := 18) (x := e11) (bl := -2147483648) (bh := 2147483647) (nx := 60) (r1 := 4) (r2 := 9) (r3 := 0) rfl (by decide) rfl ⟨rfl, rfl⟩ rfl rfl g8 rfl (by omega) (fun h12 g12 w12 u12 => ?_)
    have F13 := F9.then rfl u12
    refine wi_aload_n (i := 0) (x := 18) (nx := 61) (r1 := 0) (r2 := 0) (r3 := 0) rfl rfl ?_
    refine wi_dup (nx := 62) (r1 := 0) (r2 := 0) (r3 := 0) rfl rfl ?_
    have b14 := gi_b (lo := -2147483648) (hi := 2147483647) g 18 13 rfl
    refine wr_gi0 (k0 := 18) (x := h 18 13) (nx := 65) (r1 := 4) (r2 := 13) (r3 := 0) rfl rfl (by decide) rfl ⟨rfl, rfl⟩ rfl ((u12 18 13 rfl).trans (u8 18 13 rfl)) ?_
    refine wi_iload (i := 4) (e := z7) (nx := 67) (r1 := 0) (r2 := 0) (r3 := 0) rfl rfl ?_
    refine wr_addW (nx := 68) (r1 := 0) (r2 := 0) (r3 := 0) rfl (fun e15 (fe15 : -2147483648 ≤ e15 ∧ e15 ≤ 2147483647) => ?_)
    refine wr_pf0 (k0 := 18) (x := e15) (bl := -2147483648) (bh := 2147483647) (nx := 71) (r1 := 4) (r2 := 13) (r3 := 0) rfl (by decide) rfl ⟨rfl, rfl⟩ rfl rfl g12 rfl (by omega) (fun h16 g16 w16 u16 => ?_)
    have F17 := F13.then rfl u16
    refine wi_iload_n (i := 3) (e := 0) (nx := 72) (r1 := 0) (r2 := 0) (r3 := 0) rfl rfl ?_
    refine wi_iconst (n := 1) (nx := 73) (r1 := 0) (r2 := 0) (r3 := 0) rfl ?_
    refine wi_iand (e := 0) (nx := 74) (r1 := 0) (r2 := 0) (r3 := 0) rfl (by decide) ?_
    refine wi_if (cd := .eq) (nx := 77) (r1 := 87) (r2 := 0) (r3 := 0) rfl (by omega) (fun (q18 : 0 = 0) => ?_) (fun (q18 : ¬ (0 = 0)) => by exfalso; omega)
    refine wi_iload_n (i := 3) (e := 0) (nx := 88) (r1 := 0) (r2 := 0) (r3 := 0) rfl rfl ?_
    refine wi_iconst (n := 2) (nx := 89) (r1 := 0) (r2 := 0) (r3 := 0) rfl ?_
    refine wi_iand (e := 0) (nx := 90) (r1 := 0) (r2 := 0) (r3 := 0) rfl (by decide) ?_
    refine wi_if (cd := .eq) (nx := 93) (r1 := 103) (r2 := 0) (r3 := 0) rfl (by omega) (fun (q19 : 0 = 0) => ?_) (fun (q19 : ¬ (0 = 0)) => by exfalso; omega)
    refine wi_aload_n (i := 0) (x := 18) (nx := 104) (r1 := 0) (r2 := 0) (r3 := 0) rfl rfl ?_
    refine wi_dup (nx := 105) (r1 := 0) (r2 := 0) (r3 := 0) rfl rfl ?_
    have b20 := gi_b (lo := -2147483648) (hi := 2147483647) g 18 10 rfl
    refine wr_gi0 (k0 := 18) (x := h 18 10) (nx := 108) (r1 := 4) (r2 := 10) (r3 := 0) rfl rfl (by decide) rfl ⟨rfl, rfl⟩ rfl ((u16 18 10 rfl).trans ((u12 18 10 rfl).trans (u8 18 10 rfl))) ?_
    refine wi_iconst (n := 1) (nx := 109) (r1 := 0) (r2 := 0) (r3 := 0) rfl ?_
    refine wr_addW (nx := 110) (r1 := 0) (r2 := 0) (r3 := 0) rfl (fun e21 (fe21 : -2147483648 ≤ e21 ∧ e21 ≤ 2147483647) => ?_)
    refine wr_pf0 (k0 := 18) (x := e21) (bl := -2147483648) (bh := 2147483647) (nx := 113) (r1 := 4) (r2 := 10) (r3 := 0) rfl (by decide) rfl ⟨rfl, rfl⟩ rfl rfl g16 rfl (by omega) (fun h22 g22 w22 u22 => ?_)
    have F23 := F17.then rfl u22
    refine wi_aload_n (i := 0) (x := 18) (nx := 114) (r1 := 0) (r2 := 0) (r3 := 0) rfl rfl ?_
    refine wi_iload_n (i := 1) (e := a0) (nx := 115) (r1 := 0) (r2 := 0) (r3 := 0) rfl rfl ?_
    refine wi_iload (i := 4) (e := z7) (nx := 117) (r1 := 0) (r2 := 0) (r3 := 0) rfl rfl ?_
    refine wi_iload_n (i := 2) (e := a1) (nx := 118) (r1 := 0) (r2 := 0) (r3 := 0) rfl rfl ?_
    refine wi_if (cd := .eq) (nx := 121) (r1 := 127) (r2 := 0) (r3 := 0) rfl (by omega) (fun (q24 : a1 = 0) => ?_) (fun (q24 : ¬ (a1 = 0)) => ?_)
    ·
      refine wi_iload_n (i := 3) (e := 0) (nx := 128) (r1 := 0) (r2 := 0) (r3 := 0) rfl rfl ?_
      refine wr_V (k0 := 18) (rest := []) (as := [.ref 18, vi a0, vi z7, vi 0]) (nx := 131) (r1 := 144) (r2 := 3) (r3 := 4) rfl rfl rfl (of_decide_eq_true rfl) rfl rfl (by decide) rfl rfl (of_decide_eq_true rfl) (of_decide_eq_true rfl) ?_
      refine ct_144_18 hcr  g22 a0 z7 0 (by omega) (by omega) (by omega)  (fun h25 g25 u25 => ?_)
      have F26 := F23.then (by decide +kernel) u25
      refine wk_n ?_
      refine wi_return (nx := 132) (r1 := 0) (r2 := 0) (r3 := 0) rfl rfl ?_
      exact k h25 g25 F26
    ·
      refine wi_iload_n (i := 3) (e := 0) (nx := 122) (r1 := 0) (r2 := 0) (r3 := 0) rfl rfl ?_
      refine wi_iconst (n := 4) (nx := 123) (r1 := 0) (r2 := 0) (r3 := 0) rfl ?_
      refine wi_ior (e := 4) (nx := 124) (r1 := 0) (r2 := 0) (r3 := 0) rfl (by decide) ?_
      refine wi_goto (nx := 127) (r1 := 128) (r2 := 0) (r3 := 0) rfl ?_
      refine wr_V (k0 := 18) (rest := []) (as := [.ref 18, vi a0, vi z7, vi 4]) (nx := 131) (r1 := 144) (r2 := 3) (r3 := 4) rfl rfl rfl (of_decide_eq_true rfl) rfl rfl (by decide) rfl rfl (of_decide_eq_true rfl) (of_decide_eq_true rfl) ?_
      refine ct_144_18 hcr  g22 a0 z7 4 (by omega) (by omega) (by omega)  (fun h25 g25 u25 => ?_)
      have F26 := F23.then (by decide +kernel) u25
      refine wk_n ?_
      refine wi_return (nx := 132) (r1 := 0) (r2 := 0) (r3 := 0) rfl rfl ?_
      exact k h25 g25 F26
-- method 142: Line.paintFrom(I)I
set_option maxRecDepth 100000 in
set_option maxHeartbeats 100000000 in
theorem ct_142_18 {L : Nat} {xs : Nat → Int32} {d b c : Nat} {h : hp} {cr : Nat → Nat → Option Nat} {Q : hp_Q} (hcr : CR cr)  (g : GI h) (a0 : Int) (q0_ : -2147483648 ≤ a0 ∧ a0 ≤ 2147483647)  (k : ∀ (h2 : hp) (z0 : Int) , GI h2 → FR [(18, 36, none)] h h2 → (-1 ≤ z0 ∧ z0 ≤ 11) → Q (.inl (some (vi z0))) (hp_w h2 cr) b c) : wp (md_xa (L, xs)) (d + 2) 142 (0, [(0, .ref 18), (1, vi a0)], [], hp_w h cr, b, c) Q := by
  have F0 : FR [(18, 36, none)] h h := FR.refl
  refine wi_aload_n (i := 0) (x := 18) (nx := 1) (r1 := 0) (r2 := 0) (r3 := 0) rfl rfl ?_
  refine wi_iload_n (i := 1) (e := a0) (nx := 2) (r1 := 0) (r2 := 0) (r3 := 0) rfl rfl ?_
  refine wr_V (k0 := 18) (rest := []) (as := [.ref 18, vi a0]) (nx := 5) (r1 := 141) (r2 := 1) (r3 := 4) rfl rfl rfl (of_decide_eq_true rfl) rfl rfl (by decide) rfl rfl (of_decide_eq_true rfl) (of_decide_eq_true rfl) ?_
  refine ct_141_18 hcr  g a0 (by omega)  (fun z2  (fz2 : 0 ≤ z2 ∧ z2 ≤ 1) m1_0 => ?_)
  refine wk_i ?_
  refine wi_if (cd := .ne) (nx := 8) (r1 := 10) (r2 := 0) (r3 := 0) rfl (by omega) (fun (q3 : z2 ≠ 0) => ?_) (fun (q3 : ¬ (z2 ≠ 0)) => ?_)
  ·
    have f4 : 0 ≤ a0 ∧ a0 ≤ 3 := m1_0 (by omega)
    refine wi_aload_n (i := 0) (x := 18) (nx := 11) (r1 := 0) (r2 := 0) (r3 := 0) rfl rfl ?_
    refine wr_gr (k0 := 18) (x := 21) (nx := 14) (r1 := 4) (r2 := 3) (r3 := 0) rfl rfl (by decide) rfl ⟨rfl, rfl⟩ rfl ?_
    refine wi_iload_n (i := 1) (e := a0) (nx := 15) (r1 := 0) (r2 := 0) (r3 := 0) rfl rfl ?_
    obtain ⟨i5, ei5⟩ : ∃ q : Nat, a0 = (q : Int) := ⟨(a0).toNat, by omega⟩
    refine wr_aa (k0 := 21) (a := a0) (f := i5) (x := 21 + 8 + 2 * i5) (nx := 16) (r1 := 0) (r2 := 0) (r3 := 0) rfl (by decide) rfl (Or.inl rfl) (by omega) (by omega) (by decide) (hcr.1 21 (by decide) i5 (by omega)) ?_
    obtain ⟨k6, kk6, mk6⟩ : ∃ q, Rw q ∧ q = 21 + 8 + 2 * i5 := ⟨_, rw_lane 21 (by decide) i5 (by omega), rfl⟩
    rw [← mk6]
    refine wi_iconst (n := 0) (nx := 17) (r1 := 0) (r2 := 0) (r3 := 0) rfl ?_
    refine wr_V (k0 := k6) (rest := []) (as := [.ref k6, vi 0]) (nx := 20) (r1 := 154) (r2 := 1) (r3 := 5) rfl rfl rfl (of_decide_eq_true rfl) rfl rfl kk6.k kk6.1 rfl (of_decide_eq_true rfl) (of_decide_eq_true rfl) ?_
    refine ct_154_R hcr kk6 g 0 (by omega)  (fun z8  (fz8 : -2147483648 ≤ z8 ∧ z8 ≤ 2147483647) => ?_)
    refine wk_i ?_
    refine wi_istore_n (i := 2) (e := z8) (lo2 := [(2, vi z8), (0, .ref 18), (1, vi a0)]) (nx := 21) (r1 := 0) (r2 := 0) (r3 := 0) rfl rfl ?_
    refine wi_iload_n (i := 2) (e := z8) (nx := 22) (r1 := 0) (r2 := 0) (r3 := 0) rfl rfl ?_
    refine wi_if (cd := .lt) (nx := 25) (r1 := 31) (r2 := 0) (r3 := 0) rfl (by omega) (fun (q9 : z8 < 0) => ?_) (fun (q9 : ¬ (z8 < 0)) => ?_)
    ·
      refine wi_iconst (n := (-1)) (nx := 32) (r1 := 0) (r2 := 0) (r3 := 0) rfl ?_
      refine wi_ireturn (nx := 33) (r1 := 0) (r2 := 0) (r3 := 0) rfl rfl ?_
      exact k h (-1) g F0 (by omega)
    ·
      refine wi_iload_n (i := 2) (e := z8) (nx := 26) (r1 := 0) (r2 := 0) (r3 := 0) rfl rfl ?_
      refine wi_bipush (n := 12) (nx := 28) (r1 := 0) (r2 := 0) (r3 := 0) rfl (by decide) ?_
      refine wi_icmp (cd := .lt) (nx := 31) (r1 := 33) (r2 := 0) (r3 := 0) rfl (by omega) (by omega) (fun (q10 : z8 < 12) => ?_) (fun (q10 : ¬ (z8 < 12)) => ?_)
      ·
        refine wi_aload_n (i := 0) (x := 18) (nx := 34) (r1 := 0) (r2 := 0) (r3 := 0) rfl rfl ?_
        refine wr_gr (k0 := 18) (x := 21) (nx := 37) (r1 := 4) (r2 := 3) (r3 := 0) rfl rfl (by decide) rfl ⟨rfl, rfl⟩ rfl ?_
        refine wi_iload_n (i := 1) (e := a0) (nx := 38) (r1 := 0) (r2 := 0) (r3 := 0) rfl rfl ?_
        refine wr_aa (k0 := 21) (a := a0) (f := i5) (x := 21 + 8 + 2 * i5) (nx := 39) (r1 := 0) (r2 := 0) (r3 := 0) rfl (by decide) rfl (Or.inl rfl) (by omega) (by omega) (by decide) (hcr.1 21 (by decide) i5 (by omega)) ?_
        obtain ⟨k11, kk11, mk11⟩ : ∃ q, Rw q ∧ q = 21 + 8 + 2 * i5 := ⟨_, rw_lane 21 (by decide) i5 (by omega), rfl⟩
        rw [← mk11]
        refine wr_V (k0 := k11) (rest := []) (as := [.ref k11]) (nx := 42) (r1 := 157) (r2 := 0) (r3 := 5) rfl rfl rfl (of_decide_eq_true rfl) rfl rfl kk11.k kk11.1 rfl (of_decide_eq_true rfl) (of_decide_eq_true rfl) ?_
        refine ct_157_R hcr kk11 g    (fun h12 g12 u12 => ?_)
        have v12 := FR.rngp (lo := 29) (hi := 36) u12 (by omega)
        have F13 := F0.then rfl (FR.rngp (lo := 29) (hi := 36) u12 (by omega))
        refine wk_n ?_
        refine wi_aload_n (i := 0) (x := 18) (nx := 43) (r1 := 0) (r2 := 0) (r3 := 0) rfl rfl ?_
        refine wr_gr (k0 := 18) (x := 20) (nx := 46) (r1 := 4) (r2 := 2) (r3 := 0) rfl rfl (by decide) rfl ⟨rfl, rfl⟩ rfl ?_
        refine wi_iload_n (i := 2) (e := z8) (nx := 47) (r1 := 0) (r2 := 0) (r3 := 0) rfl rfl ?_
        obtain ⟨i14, ei14⟩ : ∃ q : Nat, z8 = (q : Int) := ⟨(z8).toNat, by omega⟩
        have b15 := gi_b (lo := -2147483648) (hi := 2147483647) g 20 i14 rfl
        refine wr_ia (k0 := 20) (a := z8) (f := i14) (x := h 20 i14) (nx := 48) (r1 := 0) (r2 := 0) (r3 := 0) rfl (by decide) rfl (by omega) (by omega) (by decide) (v12 20 i14 (fn_a (by omega) fn_0)) ?_
        refine wi_if (cd := .le) (nx := 51) (r1 := 55) (r2 := 0) (r3 := 0) rfl (by omega) (fun (q16 : (h 20 i14) ≤ 0) => ?_) (fun (q16 : ¬ ((h 20 i14) ≤ 0)) => ?_)
        ·
          refine wi_iconst (n := 0) (nx := 56) (r1 := 0) (r2 := 0) (r3 := 0) rfl ?_
          refine wi_istore_n (i := 3) (e := 0) (lo2 := [(3, vi 0), (2, vi z8), (0, .ref 18), (1, vi a0)]) (nx := 57) (r1 := 0) (r2 := 0) (r3 := 0) rfl rfl ?_
          refine wi_aload_n (i := 0) (x := 18) (nx := 58) (r1 := 0) (r2 := 0) (r3 := 0) rfl rfl ?_
          refine wi_iload_n (i := 2) (e := z8) (nx := 59) (r1 := 0) (r2 := 0) (r3 := 0) rfl rfl ?_
          refine wi_iload_n (i := 3) (e := 0) (nx := 60) (r1 := 0) (r2 := 0) (r3 := 0) rfl rfl ?_
          refine wr_V (k0 := 18) (rest := []) (as := [.ref 18, vi z8, vi 0]) (nx := 63) (r1 := 143) (r2 := 2) (r3 := 4) rfl rfl rfl (of_decide_eq_true rfl) rfl rfl (by decide) rfl rfl (of_decide_eq_true rfl) (of_decide_eq_true rfl) ?_
          refine ct_143_18 hcr  g12 z8 0 (by omega) (by omega)  (fun h17 g17 u17 => ?_)
          have F18 := F13.then (by decide +kernel) u17
          refine wk_n ?_
          refine wi_iload_n (i := 3) (e := 0) (nx := 64) (r1 := 0) (r2 := 0) (r3 := 0) rfl rfl ?_
          refine wi_if (cd := .eq) (nx := 67) (r1 := 107) (r2 := 0) (r3 := 0) rfl (by omega) (fun (q19 : 0 = 0) => ?_) (fun (q19 : ¬ (0 = 0)) => by exfalso; omega)
          refine wi_aload_n (i := 0) (x := 18) (nx := 108) (r1 := 0) (r2 := 0) (r3 := 0) rfl rfl ?_
          refine wr_gr (k0 := 18) (x := 26) (nx := 111) (r1 := 4) (r2 := 6) (r3 := 0) rfl rfl (by decide) rfl ⟨rfl, rfl⟩ rfl ?_
          refine wi_iload_n (i := 2) (e := z8) (nx := 112) (r1 := 0) (r2 := 0) (r3 := 0) rfl rfl ?_
          refine wr_V (k0 := 26) (rest := []) (as := [.ref 26, vi z8]) (nx := 115) (r1 := 158) (r2 := 1) (r3 := 5) rfl rfl rfl (of_decide_eq_true rfl) rfl rfl (by decide) rfl rfl (of_decide_eq_true rfl) (of_decide_eq_true rfl) ?_
          refine ct_158_R hcr rw_26 g17 z8 (by omega)  (fun h20 g20 u20 => ?_)
          have F21 := F18.then rfl u20
          refine wk_n ?_
          refine wi_aload_n (i := 0) (x := 18) (nx := 116) (r1 := 0) (r2 := 0) (r3 := 0) rfl rfl ?_
          refine wi_dup (nx := 117) (r1 := 0) (r2 := 0) (r3 := 0) rfl rfl ?_
          have b22 := gi_b (lo := -2147483648) (hi := 2147483647) g17 18 16 rfl
          refine wr_gi0 (k0 := 18) (x := h17 18 16) (nx := 120) (r1 := 4) (r2 := 16) (r3 := 0) rfl rfl (by decide) rfl ⟨rfl, rfl⟩ rfl (u20 18 16 rfl) ?_
          refine wi_iconst (n := 1) (nx := 121) (r1 := 0) (r2 := 0) (r3 := 0) rfl ?_
          refine wr_addW (nx := 122) (r1 := 0) (r2 := 0) (r3 := 0) rfl (fun e23 (fe23 : -2147483648 ≤ e23 ∧ e23 ≤ 2147483647) => ?_)
          refine wr_pf0 (k0 := 18) (x := e23) (bl := -2147483648) (bh := 2147483647) (nx := 125) (r1 := 4) (r2 := 16) (r3 := 0) rfl (by decide) rfl ⟨rfl, rfl⟩ rfl rfl g20 rfl (by omega) (fun h24 g24 w24 u24 => ?_)
          have F25 := F21.then rfl u24
          refine wi_iload_n (i := 2) (e := z8) (nx := 126) (r1 := 0) (r2 := 0) (r3 := 0) rfl rfl ?_
          refine wi_ireturn (nx := 127) (r1 := 0) (r2 := 0) (r3 := 0) rfl rfl ?_
          exact k h24 z8 g24 F25 (by omega)
        ·
          refine wi_iconst (n := 1) (nx := 52) (r1 := 0) (r2 := 0) (r3 := 0) rfl ?_
          refine wi_goto (nx := 55) (r1 := 56) (r2 := 0) (r3 := 0) rfl ?_
          refine wi_istore_n (i := 3) (e := 1) (lo2 := [(3, vi 1), (2, vi z8), (0, .ref 18), (1, vi a0)]) (nx := 57) (r1 := 0) (r2 := 0) (r3 := 0) rfl rfl ?_
          refine wi_aload_n (i := 0) (x := 18) (nx := 58) (r1 := 0) (r2 := 0) (r3 := 0) rfl rfl ?_
          refine wi_iload_n (i := 2) (e := z8) (nx := 59) (r1 := 0) (r2 := 0) (r3 := 0) rfl rfl ?_
          refine wi_iload_n (i := 3) (e := 1) (nx := 60) (r1 := 0) (r2 := 0) (r3 := 0) rfl rfl ?_
          refine wr_V (k0 := 18) (rest := []) (as := [.ref 18, vi z8, vi 1]) (nx := 63) (r1 := 143) (r2 := 2) (r3 := 4) rfl rfl rfl (of_decide_eq_true rfl) rfl rfl (by decide) rfl rfl (of_decide_eq_true rfl) (of_decide_eq_true rfl) ?_
          refine ct_143_18 hcr  g12 z8 1 (by omega) (by omega)  (fun h17 g17 u17 => ?_)
          have F18 := F13.then (by decide +kernel) u17
          refine wk_n ?_
          refine wi_iload_n (i := 3) (e := 1) (nx := 64) (r1 := 0) (r2 := 0) (r3 := 0) rfl rfl ?_
          refine wi_if (cd := .eq) (nx := 67) (r1 := 107) (r2 := 0) (r3 := 0) rfl (by omega) (fun (q19 : 1 = 0) => by exfalso; omega) (fun (q19 : ¬ (1 = 0)) => ?_)
          refine wi_aload_n (i := 0) (x := 18) (nx := 68) (r1 := 0) (r2 := 0) (r3 := 0) rfl rfl ?_
          refine wr_gr (k0 := 18) (x := 20) (nx := 71) (r1 := 4) (r2 := 2) (r3 := 0) rfl rfl (by decide) rfl ⟨rfl, rfl⟩ rfl ?_
          refine wi_iload_n (i := 2) (e := z8) (nx := 72) (r1 := 0) (r2 := 0) (r3 := 0) rfl rfl ?_
          refine wi_dup2 (nx := 73) (r1 := 0) (r2 := 0) (r3 := 0) rfl rfl rfl ?_
          have b20 := gi_b (lo := -2147483648) (hi := 2147483647) g17 20 i14 rfl
          refine wr_ia (k0 := 20) (a := z8) (f := i14) (x := h17 20 i14) (nx := 74) (r1 := 0) (r2 := 0) (r3 := 0) rfl (by decide) rfl (by omega) (by omega) (by decide) rfl ?_
          refine wi_iconst (n := 1) (nx := 75) (r1 := 0) (r2 := 0) (r3 := 0) rfl ?_
          refine wr_subW (nx := 76) (r1 := 0) (r2 := 0) (r3 := 0) rfl (fun e21 (fe21 : -2147483648 ≤ e21 ∧ e21 ≤ 2147483647) => ?_)
          refine wr_is (k0 := 20) (a := z8) (f := i14) (x := e21) (bl := -2147483648) (bh := 2147483647) (nx := 77) (r1 := 0) (r2 := 0) (r3 := 0) rfl (by decide) rfl (by omega) (by omega) (by decide) g17 rfl (by omega) (fun h22 g22 w22 u22 => ?_)
          have F23 := F18.then rfl (FR.rngp (lo := 20) (hi := 20) u22 (by decide))
          refine wi_aload_n (i := 0) (x := 18) (nx := 78) (r1 := 0) (r2 := 0) (r3 := 0) rfl rfl ?_
          refine wr_gr (k0 := 18) (x := 22) (nx := 81) (r1 := 4) (r2 := 4) (r3 := 0) rfl rfl (by decide) rfl ⟨rfl, rfl⟩ rfl ?_
          refine wi_iload_n (i := 2) (e := z8) (nx := 82) (r1 := 0) (r2 := 0) (r3 := 0) rfl rfl ?_
          refine wr_V (k0 := 22) (rest := []) (as := [.ref 22, vi z8]) (nx := 85) (r1 := 158) (r2 := 1) (r3 := 5) rfl rfl rfl (of_decide_eq_true rfl) rfl rfl (by decide) rfl rfl (of_decide_eq_true rfl) (of_decide_eq_true rfl) ?_
          refine ct_158_R hcr rw_22 g22 z8 (by omega)  (fun h24 g24 u24 => ?_)
          have F25 := F23.then rfl u24
          refine wk_n ?_
          refine wi_aload_n (i := 0) (x := 18) (nx := 86) (r1 := 0) (r2 := 0) (r3 := 0) rfl rfl ?_
          refine wr_gr (k0 := 18) (x := 24) (nx := 89) (r1 := 4) (r2 := 5) (r3 := 0) rfl rfl (by decide) rfl ⟨rfl, rfl⟩ rfl ?_
          refine wi_aload_n (i := 0) (x := 18) (nx := 90) (r1 := 0) (r2 := 0) (r3 := 0) rfl rfl ?_
          have b26 := gi_b (lo := -2147483648) (hi := 2147483647) g17 18 10 rfl
          refine wr_gi0 (k0 := 18) (x := h17 18 10) (nx := 93) (r1 := 4) (r2 := 10) (r3 := 0) rfl rfl (by decide) rfl ⟨rfl, rfl⟩ rfl ((u24 18 10 rfl).trans (u22 18 10 (fn_a (by omega) fn_0))) ?_
          refine wi_aload_n (i := 0) (x := 18) (nx := 94) (r1 := 0) (r2 := 0) (r3 := 0) rfl rfl ?_
          refine wr_gr (k0 := 18) (x := 3) (nx := 97) (r1 := 4) (r2 := 0) (r3 := 0) rfl rfl (by decide) rfl ⟨rfl, rfl⟩ rfl ?_
          have b27 := gi_b (lo := -2147483648) (hi := 2147483647) g 3 8 rfl
          refine wr_gi0 (k0 := 3) (x := h 3 8) (nx := 100) (r1 := 2) (r2 := 8) (r3 := 0) rfl rfl (by decide) rfl ⟨rfl, rfl⟩ rfl ((u24 3 8 rfl).trans ((u22 3 8 (fn_a (by omega) fn_0)).trans ((u17 3 8 rfl).trans (v12 3 8 rfl)))) ?_
          refine wr_addW (nx := 101) (r1 := 0) (r2 := 0) (r3 := 0) rfl (fun e28 (fe28 : -2147483648 ≤ e28 ∧ e28 ≤ 2147483647) => ?_)
          refine wr_V (k0 := 24) (rest := []) (as := [.ref 24, vi e28]) (nx := 104) (r1 := 158) (r2 := 1) (r3 := 5) rfl rfl rfl (of_decide_eq_true rfl) rfl rfl (by decide) rfl rfl (of_decide_eq_true rfl) (of_decide_eq_true rfl) ?_
          refine ct_158_R hcr rw_24 g24 e28 (by omega)  (fun h29 g29 u29 => ?_)
          have F30 := F25.then rfl u29
          refine wk_n ?_
          refine wi_goto (nx := 107) (r1 := 115) (r2 := 0) (r3 := 0) rfl ?_
          refine wi_aload_n (i := 0) (x := 18) (nx := 116) (r1 := 0) (r2 := 0) (r3 := 0) rfl rfl ?_
          refine wi_dup (nx := 117) (r1 := 0) (r2 := 0) (r3 := 0) rfl rfl ?_
          have b31 := gi_b (lo := -2147483648) (hi := 2147483647) g17 18 16 rfl
          refine wr_gi0 (k0 := 18) (x := h17 18 16) (nx := 120) (r1 := 4) (r2 := 16) (r3 := 0) rfl rfl (by decide) rfl ⟨rfl, rfl⟩ rfl ((u29 18 16 rfl).trans ((u24 18 16 rfl).trans (u22 18 16 (fn_a (by omega) fn_0)))) ?_
          refine wi_iconst (n := 1) (nx := 121) (r1 := 0) (r2 := 0) (r3 := 0) rfl ?_
          refine wr_addW (nx := 122) (r1 := 0) (r2 := 0) (r3 := 0) rfl (fun e32 (fe32 : -2147483648 ≤ e32 ∧ e32 ≤ 2147483647) => ?_)
          refine wr_pf0 (k0 := 18) (x := e32) (bl := -2147483648) (bh := 2147483647) (nx := 125) (r1 := 4) (r2 := 16) (r3 := 0) rfl (by decide) rfl ⟨rfl, rfl⟩ rfl rfl g29 rfl (by omega) (fun h33 g33 w33 u33 => ?_)
          have F34 := F30.then rfl u33
          refine wi_iload_n (i := 2) (e := z8) (nx := 126) (r1 := 0) (r2 := 0) (r3 := 0) rfl rfl ?_
          refine wi_ireturn (nx := 127) (r1 := 0) (r2 := 0) (r3 := 0) rfl rfl ?_
          exact k h33 z8 g33 F34 (by omega)
      ·
        refine wi_iconst (n := (-1)) (nx := 32) (r1 := 0) (r2 := 0) (r3 := 0) rfl ?_
        refine wi_ireturn (nx := 33) (r1 := 0) (r2 := 0) (r3 := 0) rfl rfl ?_
        exact k h (-1) g F0 (by omega)
  ·
    refine wi_iconst (n := (-1)) (nx := 9) (r1 := 0) (r2 := 0) (r3 := 0) rfl ?_
    refine wi_ireturn (nx := 10) (r1 := 0) (r2 := 0) (r3 := 0) rfl rfl ?_
    exact k h (-1) g F0 (by omega)
-- method 79: Bank.leave(I)I
set_option maxRecDepth 100000 in
set_option maxHeartbeats 100000000 in
theorem ct_79_0 {L : Nat} {xs : Nat → Int32} {d b c : Nat} {h : hp} {cr : Nat → Nat → Option Nat} {Q : hp_Q} (hcr : CR cr) (hr : 1 ≤ b ∧ 6 ≤ c)  (g : GI h) (a0 : Int) (q0_ : -2147483648 ≤ a0 ∧ a0 ≤ 2147483647)  (k : ∀ (h2 : hp) (z0 : Int) , GI h2 → FR [(18, 36, none), (75, 207, none), (73, 73, some (1, 1)), (73, 73, some (2, 2))] h h2 → (-2147483648 ≤ z0 ∧ z0 ≤ 2147483647) → Q (.inl (some (vi z0))) (hp_w h2 cr) b c) (kx2 : ∀ (h2 : hp), GI h2 → FR [(18, 36, none), (75, 207, none), (73, 73, some (1, 1)), (73, 73, some (2, 2))] h h2 → Q (.inr 2) (hp_w h2 cr) (b - 1) (c - 6)) : wp (md_xa (L, xs)) (d + 3) 79 (0, [(0, .ref 0), (1, vi a0)], [], hp_w h cr, b, c) Q := by
  have F0 : FR [(18, 36, none), (75, 207, none), (73, 73, some (1, 1)), (73, 73, some (2, 2))] h h := FR.refl
  refine wi_aload_n (i := 0) (x := 0) (nx := 1) (r1 := 0) (r2 := 0) (r3 := 0) rfl rfl ?_
  refine wi_iload_n (i := 1) (e := a0) (nx := 2) (r1 := 0) (r2 := 0) (r3 := 0) rfl rfl ?_
  refine wr_V (k0 := 0) (rest := []) (as := [.ref 0, vi a0]) (nx := 5) (r1 := 68) (r2 := 1) (r3 := 0) rfl rfl rfl (of_decide_eq_true rfl) rfl rfl (by decide) rfl rfl (of_decide_eq_true rfl) (of_decide_eq_true rfl) ?_
  refine wi_iload_n (i := 1) (e := a0) (nx := 1) (r1 := 0) (r2 := 0) (r3 := 0) rfl rfl ?_
  refine wi_if (cd := .lt) (nx := 4) (r1 := 15) (r2 := 0) (r3 := 0) rfl (by omega) (fun (q1 : a0 < 0) => ?_) (fun (q1 : ¬ (a0 < 0)) => ?_)
  ·
    refine wr_throw (Ex := 2) (nx := 18) (r1 := 2) (r2 := 0) (r3 := 1) rfl (by decide) rfl hr (by decide) ?_
    refine wk_x rfl ?_
    exact kx2 h g F0
  ·
    refine wi_iload_n (i := 1) (e := a0) (nx := 5) (r1 := 0) (r2 := 0) (r3 := 0) rfl rfl ?_
    refine wi_aload_n (i := 0) (x := 0) (nx := 6) (r1 := 0) (r2 := 0) (r3 := 0) rfl rfl ?_
    refine wr_gr (k0 := 0) (x := 3) (nx := 9) (r1 := 0) (r2 := 1) (r3 := 0) rfl rfl (by decide) rfl ⟨rfl, rfl⟩ rfl ?_
    have b2 := gi_b (lo := 0) (hi := 4) g 3 1 rfl
    refine wr_gi0 (k0 := 3) (x := h 3 1) (nx := 12) (r1 := 2) (r2 := 1) (r3 := 0) rfl rfl (by decide) rfl ⟨rfl, rfl⟩ rfl rfl ?_
    refine wi_icmp (cd := .lt) (nx := 15) (r1 := 26) (r2 := 0) (r3 := 0) rfl (by omega) (by omega) (fun (q3 : a0 < (h 3 1)) => ?_) (fun (q3 : ¬ (a0 < (h 3 1))) => ?_)
    ·
      refine wi_return (nx := 27) (r1 := 0) (r2 := 0) (r3 := 0) rfl rfl ?_
      refine wk_n ?_
      refine wi_aload_n (i := 0) (x := 0) (nx := 6) (r1 := 0) (r2 := 0) (r3 := 0) rfl rfl ?_
      refine wr_gr (k0 := 0) (x := 73) (nx := 9) (r1 := 0) (r2 := 8) (r3 := 0) rfl rfl (by decide) rfl ⟨rfl, rfl⟩ rfl ?_
      refine wi_aload_n (i := 0) (x := 0) (nx := 10) (r1 := 0) (r2 := 0) (r3 := 0) rfl rfl ?_
      refine wr_gr (k0 := 0) (x := 18) (nx := 13) (r1 := 0) (r2 := 3) (r3 := 0) rfl rfl (by decide) rfl ⟨rfl, rfl⟩ rfl ?_
      refine wr_V (k0 := 73) (rest := []) (as := [.ref 73, .ref 18]) (nx := 16) (r1 := 192) (r2 := 1) (r3 := 9) rfl rfl rfl (of_decide_eq_true rfl) rfl rfl (by decide) rfl rfl (of_decide_eq_true rfl) (of_decide_eq_true rfl) ?_
      refine ct_192_73_18 hcr  g    (fun h4 g4 u4 => ?_)
      have F5 := F0.then (by decide +kernel) u4
      refine wk_n ?_
      refine wi_aload_n (i := 0) (x := 0) (nx := 17) (r1 := 0) (r2 := 0) (r3 := 0) rfl rfl ?_
      refine wi_aload_n (i := 0) (x := 0) (nx := 18) (r1 := 0) (r2 := 0) (r3 := 0) rfl rfl ?_
      refine wr_gr (k0 := 0) (x := 18) (nx := 21) (r1 := 0) (r2 := 3) (r3 := 0) rfl rfl (by decide) rfl ⟨rfl, rfl⟩ rfl ?_
      refine wi_iload_n (i := 1) (e := a0) (nx := 22) (r1 := 0) (r2 := 0) (r3 := 0) rfl rfl ?_
      refine wr_V (k0 := 18) (rest := [.ref 0]) (as := [.ref 18, vi a0]) (nx := 25) (r1 := 142) (r2 := 1) (r3 := 4) rfl rfl rfl (of_decide_eq_true rfl) rfl rfl (by decide) rfl rfl (of_decide_eq_true rfl) (of_decide_eq_true rfl) ?_
      refine ct_142_18 hcr  g4 a0 (by omega)  (fun h6 z7 g6 u6 (fz7 : -1 ≤ z7 ∧ z7 ≤ 11) => ?_)
      have F8 := F5.then (by decide +kernel) u6
      refine wk_i ?_
      refine wr_V (k0 := 0) (rest := []) (as := [.ref 0, vi z7]) (nx := 28) (r1 := 45) (r2 := 1) (r3 := 0) rfl rfl rfl (of_decide_eq_true rfl) rfl rfl (by decide) rfl rfl (of_decide_eq_true rfl) (of_decide_eq_true rfl) ?_
      refine ct_45_0 hcr  g6 z7 (by omega)  (fun h9 z10 g9 u9 (fz10 : -2147483648 ≤ z10 ∧ z10 ≤ 2147483647) => ?_)
      have F11 := F8.then (by decide +kernel) u9
      refine wk_i ?_
      refine wi_ireturn (nx := 29) (r1 := 0) (r2 := 0) (r3 := 0) rfl rfl ?_
      exact k h9 z10 g9 F11 (by omega)
    ·
      refine wr_throw (Ex := 2) (nx := 18) (r1 := 2) (r2 := 0) (r3 := 1) rfl (by decide) rfl hr (by decide) ?_
      refine wk_x rfl ?_
      exact kx2 h g F0
-- method 87: Bank.log(II)I
set_option maxRecDepth 100000 in
set_option maxHeartbeats 100000000 in
theorem ct_87_0 {L : Nat} {xs : Nat → Int32} {d b c : Nat} {h : hp} {cr : Nat → Nat → Option Nat} {Q : hp_Q} (hcr : CR cr) (hr : 1 ≤ b ∧ 6 ≤ c)  (g : GI h) (a0 : Int) (a1 : Int) (q0_ : -2147483648 ≤ a0 ∧ a0 ≤ 2147483647) (q1_ : -2147483648 ≤ a1 ∧ a1 ≤ 2147483647)  (k : ∀ (z0 : Int), (-2147483648 ≤ z0 ∧ z0 ≤ 2147483647) → Q (.inl (some (vi z0))) (hp_w h cr) b c) (kx1 : Q (.inr 1) (hp_w h cr) (b - 1) (c - 6)) (kx2 : Q (.inr 2) (hp_w h cr) (b - 1) (c - 6)) : wp (md_xa (L, xs)) (d + 1) 87 (0, [(0, .ref 0), (1, vi a0), (2, vi a1)], [], hp_w h cr, b, c) Q := by
  have F0 : FR [] h h := FR.refl
  refine wi_iload_n (i := 1) (e := a0) (nx := 1) (r1 := 0) (r2 := 0) (r3 := 0) rfl rfl ?_
  refine wi_if (cd := .lt) (nx := 4) (r1 := 20) (r2 := 0) (r3 := 0) rfl (by omega) (fun (q1 : a0 < 0) => ?_) (fun (q1 : ¬ (a0 < 0)) => ?_)
  ·
    refine wr_throw (Ex := 2) (nx := 23) (r1 := 2) (r2 := 0) (r3 := 1) rfl (by decide) rfl hr (by decide) ?_
    exact kx2
  ·
    refine wi_iload_n (i := 1) (e := a0) (nx := 5) (r1 := 0) (r2 := 0) (r3 := 0) rfl rfl ?_
    refine wi_aload_n (i := 0) (x := 0) (nx := 6) (r1 := 0) (r2 := 0) (r3 := 0) rfl rfl ?_
    refine wr_gr (k0 := 0) (x := 18) (nx := 9) (r1 := 0) (r2 := 3) (r3 := 0) rfl rfl (by decide) rfl ⟨rfl, rfl⟩ rfl ?_
    have b2 := gi_b (lo := 0) (hi := 36) g 18 15 rfl
    refine wr_gi0 (k0 := 18) (x := h 18 15) (nx := 12) (r1 := 4) (r2 := 15) (r3 := 0) rfl rfl (by decide) rfl ⟨rfl, rfl⟩ rfl rfl ?_
    refine wi_bipush (n := 20) (nx := 14) (r1 := 0) (r2 := 0) (r3 := 0) rfl (by decide) ?_
    refine wi_S (rest := [vi a0]) (as := [vi (h 18 15), vi 20]) (nx := 17) (r1 := 355) (r2 := 18) (r3 := 0) rfl rfl rfl (of_decide_eq_true rfl) rfl rfl (of_decide_eq_true rfl) (of_decide_eq_true rfl) ?_
    refine wi_iload_n (i := 0) (e := h 18 15) (nx := 1) (r1 := 0) (r2 := 0) (r3 := 0) rfl rfl ?_
    refine wi_iload_n (i := 1) (e := 20) (nx := 2) (r1 := 0) (r2 := 0) (r3 := 0) rfl rfl ?_
    refine wi_icmp (cd := .gt) (nx := 5) (r1 := 9) (r2 := 0) (r3 := 0) rfl (by omega) (by omega) (fun (q3 : 20 < (h 18 15)) => ?_) (fun (q3 : ¬ (20 < (h 18 15))) => ?_)
    ·
      refine wi_iload_n (i := 1) (e := 20) (nx := 10) (r1 := 0) (r2 := 0) (r3 := 0) rfl rfl ?_
      refine wi_ireturn (nx := 11) (r1 := 0) (r2 := 0) (r3 := 0) rfl rfl ?_
      refine wk_i ?_
      refine wi_icmp (cd := .lt) (nx := 20) (r1 := 31) (r2 := 0) (r3 := 0) rfl (by omega) (by omega) (fun (q4 : a0 < 20) => ?_) (fun (q4 : ¬ (a0 < 20)) => ?_)
      ·
        refine wi_iload_n (i := 2) (e := a1) (nx := 32) (r1 := 0) (r2 := 0) (r3 := 0) rfl rfl ?_
        refine wi_if (cd := .lt) (nx := 35) (r1 := 40) (r2 := 0) (r3 := 0) rfl (by omega) (fun (q5 : a1 < 0) => ?_) (fun (q5 : ¬ (a1 < 0)) => ?_)
        ·
          refine wr_throw (Ex := 1) (nx := 43) (r1 := 1) (r2 := 0) (r3 := 1) rfl (by decide) rfl hr (by decide) ?_
          exact kx1
        ·
          refine wi_iload_n (i := 2) (e := a1) (nx := 36) (r1 := 0) (r2 := 0) (r3 := 0) rfl rfl ?_
          refine wi_iconst (n := 4) (nx := 37) (r1 := 0) (r2 := 0) (r3 := 0) rfl ?_
          refine wi_icmp (cd := .lt) (nx := 40) (r1 := 51) (r2 := 0) (r3 := 0) rfl (by omega) (by omega) (fun (q6 : a1 < 4) => ?_) (fun (q6 : ¬ (a1 < 4)) => ?_)
          ·
            refine wi_aload_n (i := 0) (x := 0) (nx := 52) (r1 := 0) (r2 := 0) (r3 := 0) rfl rfl ?_
            refine wr_gr (k0 := 0) (x := 18) (nx := 55) (r1 := 0) (r2 := 3) (r3 := 0) rfl rfl (by decide) rfl ⟨rfl, rfl⟩ rfl ?_
            refine wr_gr (k0 := 18) (x := 28) (nx := 58) (r1 := 4) (r2 := 14) (r3 := 0) rfl rfl (by decide) rfl ⟨rfl, rfl⟩ rfl ?_
            refine wi_aload_n (i := 0) (x := 0) (nx := 59) (r1 := 0) (r2 := 0) (r3 := 0) rfl rfl ?_
            refine wr_gr (k0 := 0) (x := 18) (nx := 62) (r1 := 0) (r2 := 3) (r3 := 0) rfl rfl (by decide) rfl ⟨rfl, rfl⟩ rfl ?_
            refine wr_gi0 (k0 := 18) (x := h 18 15) (nx := 65) (r1 := 4) (r2 := 15) (r3 := 0) rfl rfl (by decide) rfl ⟨rfl, rfl⟩ rfl rfl ?_
            refine wi_iconst (n := 1) (nx := 66) (r1 := 0) (r2 := 0) (r3 := 0) rfl ?_
            refine wr_sub (nx := 67) (r1 := 0) (r2 := 0) (r3 := 0) rfl (fun e7 (fe7 : e7 = (h 18 15) - 1) => ?_)
            refine wi_iload_n (i := 1) (e := a0) (nx := 68) (r1 := 0) (r2 := 0) (r3 := 0) rfl rfl ?_
            refine wr_sub (nx := 69) (r1 := 0) (r2 := 0) (r3 := 0) rfl (fun e8 (fe8 : e8 = e7 - a0) => ?_)
            refine wi_iconst (n := 4) (nx := 70) (r1 := 0) (r2 := 0) (r3 := 0) rfl ?_
            refine wr_mul (nx := 71) (r1 := 0) (r2 := 0) (r3 := 0) rfl (fun e9 (fe9 : e9 = e8 * 4) => ?_)
            refine wi_iload_n (i := 2) (e := a1) (nx := 72) (r1 := 0) (r2 := 0) (r3 := 0) rfl rfl ?_
            refine wr_add (nx := 73) (r1 := 0) (r2 := 0) (r3 := 0) rfl (fun e10 (fe10 : e10 = e9 + a1) => ?_)
            obtain ⟨i11, ei11⟩ : ∃ q : Nat, e10 = (q : Int) := ⟨(e10).toNat, by omega⟩
            have b12 := gi_b (lo := -2147483648) (hi := 2147483647) g 28 i11 rfl
            refine wr_ia (k0 := 28) (a := e10) (f := i11) (x := h 28 i11) (nx := 74) (r1 := 0) (r2 := 0) (r3 := 0) rfl (by decide) rfl (by omega) (by omega) (by decide) rfl ?_
            refine wi_ireturn (nx := 75) (r1 := 0) (r2 := 0) (r3 := 0) rfl rfl ?_
            exact k (h 28 i11) (by omega)
          ·
            refine wr_throw (Ex := 1) (nx := 43) (r1 := 1) (r2 := 0) (r3 := 1) rfl (by decide) rfl hr (by decide) ?_
            exact kx1
      ·
        refine wr_throw (Ex := 2) (nx := 23) (r1 := 2) (r2 := 0) (r3 := 1) rfl (by decide) rfl hr (by decide) ?_
        exact kx2
    ·
      refine wi_iload_n (i := 0) (e := h 18 15) (nx := 6) (r1 := 0) (r2 := 0) (r3 := 0) rfl rfl ?_
      refine wi_goto (nx := 9) (r1 := 10) (r2 := 0) (r3 := 0) rfl ?_
      refine wi_ireturn (nx := 11) (r1 := 0) (r2 := 0) (r3 := 0) rfl rfl ?_
      refine wk_i ?_
      refine wi_icmp (cd := .lt) (nx := 20) (r1 := 31) (r2 := 0) (r3 := 0) rfl (by omega) (by omega) (fun (q4 : a0 < (h 18 15)) => ?_) (fun (q4 : ¬ (a0 < (h 18 15))) => ?_)
      ·
        refine wi_iload_n (i := 2) (e := a1) (nx := 32) (r1 := 0) (r2 := 0) (r3 := 0) rfl rfl ?_
        refine wi_if (cd := .lt) (nx := 35) (r1 := 40) (r2 := 0) (r3 := 0) rfl (by omega) (fun (q5 : a1 < 0) => ?_) (fun (q5 : ¬ (a1 < 0)) => ?_)
        ·
          refine wr_throw (Ex := 1) (nx := 43) (r1 := 1) (r2 := 0) (r3 := 1) rfl (by decide) rfl hr (by decide) ?_
          exact kx1
        ·
          refine wi_iload_n (i := 2) (e := a1) (nx := 36) (r1 := 0) (r2 := 0) (r3 := 0) rfl rfl ?_
          refine wi_iconst (n := 4) (nx := 37) (r1 := 0) (r2 := 0) (r3 := 0) rfl ?_
          refine wi_icmp (cd := .lt) (nx := 40) (r1 := 51) (r2 := 0) (r3 := 0) rfl (by omega) (by omega) (fun (q6 : a1 < 4) => ?_) (fun (q6 : ¬ (a1 < 4)) => ?_)
          ·
            refine wi_aload_n (i := 0) (x := 0) (nx := 52) (r1 := 0) (r2 := 0) (r3 := 0) rfl rfl ?_
            refine wr_gr (k0 := 0) (x := 18) (nx := 55) (r1 := 0) (r2 := 3) (r3 := 0) rfl rfl (by decide) rfl ⟨rfl, rfl⟩ rfl ?_
            refine wr_gr (k0 := 18) (x := 28) (nx := 58) (r1 := 4) (r2 := 14) (r3 := 0) rfl rfl (by decide) rfl ⟨rfl, rfl⟩ rfl ?_
            refine wi_aload_n (i := 0) (x := 0) (nx := 59) (r1 := 0) (r2 := 0) (r3 := 0) rfl rfl ?_
            refine wr_gr (k0 := 0) (x := 18) (nx := 62) (r1 := 0) (r2 := 3) (r3 := 0) rfl rfl (by decide) rfl ⟨rfl, rfl⟩ rfl ?_
            refine wr_gi0 (k0 := 18) (x := h 18 15) (nx := 65) (r1 := 4) (r2 := 15) (r3 := 0) rfl rfl (by decide) rfl ⟨rfl, rfl⟩ rfl rfl ?_
            refine wi_iconst (n := 1) (nx := 66) (r1 := 0) (r2 := 0) (r3 := 0) rfl ?_
            refine wr_sub (nx := 67) (r1 := 0) (r2 := 0) (r3 := 0) rfl (fun e7 (fe7 : e7 = (h 18 15) - 1) => ?_)
            refine wi_iload_n (i := 1) (e := a0) (nx := 68) (r1 := 0) (r2 := 0) (r3 := 0) rfl rfl ?_
            refine wr_sub (nx := 69) (r1 := 0) (r2 := 0) (r3 := 0) rfl (fun e8 (fe8 : e8 = e7 - a0) => ?_)
            refine wi_iconst (n := 4) (nx := 70) (r1 := 0) (r2 := 0) (r3 := 0) rfl ?_
            refine wr_mul (nx := 71) (r1 := 0) (r2 := 0) (r3 := 0) rfl (fun e9 (fe9 : e9 = e8 * 4) => ?_)
            refine wi_iload_n (i := 2) (e := a1) (nx := 72) (r1 := 0) (r2 := 0) (r3 := 0) rfl rfl ?_
            refine wr_add (nx := 73) (r1 := 0) (r2 := 0) (r3 := 0) rfl (fun e10 (fe10 : e10 = e9 + a1) => ?_)
            obtain ⟨i11, ei11⟩ : ∃ q : Nat, e10 = (q : Int) := ⟨(e10).toNat, by omega⟩
            have b12 := gi_b (lo := -2147483648) (hi := 2147483647) g 28 i11 rfl
            refine wr_ia (k0 := 28) (a := e10) (f := i11) (x := h 28 i11) (nx := 74) (r1 := 0) (r2 := 0) (r3 := 0) rfl (by decide) rfl (by omega) (by omega) (by decide) rfl ?_
            refine wi_ireturn (nx := 75) (r1 := 0) (r2 := 0) (r3 := 0) rfl rfl ?_
            exact k (h 28 i11) (by omega)
          ·
            refine wr_throw (Ex := 1) (nx := 43) (r1 := 1) (r2 := 0) (r3 := 1) rfl (by decide) rfl hr (by decide) ?_
            exact kx1
      ·
        refine wr_throw (Ex := 2) (nx := 23) (r1 := 2) (r2 := 0) (r3 := 1) rfl (by decide) rfl hr (by decide) ?_
        exact kx2
-- method 57: Bank.logCount()I
set_option maxRecDepth 100000 in
set_option maxHeartbeats 100000000 in
theorem ct_57_0 {L : Nat} {xs : Nat → Int32} {d b c : Nat} {h : hp} {cr : Nat → Nat → Option Nat} {Q : hp_Q} (hcr : CR cr)  (g : GI h)    (k : ∀ (z0 : Int), (0 ≤ z0 ∧ z0 ≤ 20) → Q (.inl (some (vi z0))) (hp_w h cr) b c) : wp (md_xa (L, xs)) (d + 1) 57 (0, [(0, .ref 0)], [], hp_w h cr, b, c) Q := by
  have F0 : FR [] h h := FR.refl
  refine wi_aload_n (i := 0) (x := 0) (nx := 1) (r1 := 0) (r2 := 0) (r3 := 0) rfl rfl ?_
  refine wr_gr (k0 := 0) (x := 18) (nx := 4) (r1 := 0) (r2 := 3) (r3 := 0) rfl rfl (by decide) rfl ⟨rfl, rfl⟩ rfl ?_
  have b1 := gi_b (lo := 0) (hi := 36) g 18 15 rfl
  refine wr_gi0 (k0 := 18) (x := h 18 15) (nx := 7) (r1 := 4) (r2 := 15) (r3 := 0) rfl rfl (by decide) rfl ⟨rfl, rfl⟩ rfl rfl ?_
  refine wi_bipush (n := 20) (nx := 9) (r1 := 0) (r2 := 0) (r3 := 0) rfl (by decide) ?_
  refine wi_S (rest := []) (as := [vi (h 18 15), vi 20]) (nx := 12) (r1 := 355) (r2 := 18) (r3 := 0) rfl rfl rfl (of_decide_eq_true rfl) rfl rfl (of_decide_eq_true rfl) (of_decide_eq_true rfl) ?_
  refine wi_iload_n (i := 0) (e := h 18 15) (nx := 1) (r1 := 0) (r2 := 0) (r3 := 0) rfl rfl ?_
  refine wi_iload_n (i := 1) (e := 20) (nx := 2) (r1 := 0) (r2 := 0) (r3 := 0) rfl rfl ?_
  refine wi_icmp (cd := .gt) (nx := 5) (r1 := 9) (r2 := 0) (r3 := 0) rfl (by omega) (by omega) (fun (q2 : 20 < (h 18 15)) => ?_) (fun (q2 : ¬ (20 < (h 18 15))) => ?_)
  ·
    refine wi_iload_n (i := 1) (e := 20) (nx := 10) (r1 := 0) (r2 := 0) (r3 := 0) rfl rfl ?_
    refine wi_ireturn (nx := 11) (r1 := 0) (r2 := 0) (r3 := 0) rfl rfl ?_
    refine wk_i ?_
    refine wi_ireturn (nx := 13) (r1 := 0) (r2 := 0) (r3 := 0) rfl rfl ?_
    exact k 20 (by omega)
  ·
    refine wi_iload_n (i := 0) (e := h 18 15) (nx := 6) (r1 := 0) (r2 := 0) (r3 := 0) rfl rfl ?_
    refine wi_goto (nx := 9) (r1 := 10) (r2 := 0) (r3 := 0) rfl ?_
    refine wi_ireturn (nx := 11) (r1 := 0) (r2 := 0) (r3 := 0) rfl rfl ?_
    refine wk_i ?_
    refine wi_ireturn (nx := 13) (r1 := 0) (r2 := 0) (r3 := 0) rfl rfl ?_
    exact k (h 18 15) (by omega)
-- method 130: Line.longestRowOut()I
set_option maxRecDepth 100000 in
set_option maxHeartbeats 100000000 in
theorem ct_130_18 {L : Nat} {xs : Nat → Int32} {d b c : Nat} {h : hp} {cr : Nat → Nat → Option Nat} {Q : hp_Q} (hcr : CR cr)  (g : GI h)    (k : ∀ (z0 : Int), (0 ≤ z0 ∧ z0 ≤ 2147483647) → Q (.inl (some (vi z0))) (hp_w h cr) b c) : wp (md_xa (L, xs)) (d + 1) 130 (0, [(0, .ref 18)], [], hp_w h cr, b, c) Q := by
  have F0 : FR [] h h := FR.refl
  refine wi_iconst (n := 0) (nx := 1) (r1 := 0) (r2 := 0) (r3 := 0) rfl ?_
  refine wi_istore_n (i := 1) (e := 0) (lo2 := [(1, vi 0), (0, .ref 18)]) (nx := 2) (r1 := 0) (r2 := 0) (r3 := 0) rfl rfl ?_
  refine wi_iconst (n := 0) (nx := 3) (r1 := 0) (r2 := 0) (r3 := 0) rfl ?_
  refine wi_istore_n (i := 2) (e := 0) (lo2 := [(2, vi 0), (1, vi 0), (0, .ref 18)]) (nx := 4) (r1 := 0) (r2 := 0) (r3 := 0) rfl rfl ?_
  refine wi_iconst (n := 0) (nx := 5) (r1 := 0) (r2 := 0) (r3 := 0) rfl ?_
  refine wi_istore_n (i := 3) (e := 0) (lo2 := [(3, vi 0), (2, vi 0), (1, vi 0), (0, .ref 18)]) (nx := 6) (r1 := 0) (r2 := 0) (r3 := 0) rfl rfl ?_
  refine wp.lo (lo := [(0, .ref 18), (1, vi 0), (2, vi 0), (3, vi 0)]) ⟨rfl, rfl, rfl, rfl, trivial⟩ rfl ?_
  refine wl_3 (fun x1 x2 x3 h4 => h = h4 ∧ ((0 ≤ x1 ∧ x1 ≤ 2147483647) ∧ (-2147483648 ≤ x2 ∧ x2 ≤ 2147483647) ∧ (0 ≤ x3 ∧ x3 ≤ 12))) (fun x1 x2 x3 h4 => ((12 : Int) + 1 - x3).toNat) (fun x1 x2 x3 h4 => (6, [(0, .ref 18), (1, vi x1), (2, vi x2), (3, vi x3)], [], hp_w h4 cr, b, c)) ?_ 0 0 0 h ⟨rfl, (show (0 ≤ 0 ∧ 0 ≤ 2147483647) ∧ (-2147483648 ≤ 0 ∧ 0 ≤ 2147483647) ∧ (0 ≤ 0 ∧ 0 ≤ 12) by omega)⟩
  intro x1 x2 x3 h4 ⟨e4, f4⟩ I4
  subst e4
  refine wi_iload_n (i := 3) (e := x3) (nx := 7) (r1 := 0) (r2 := 0) (r3 := 0) rfl rfl ?_
  refine wi_aload_n (i := 0) (x := 18) (nx := 8) (r1 := 0) (r2 := 0) (r3 := 0) rfl rfl ?_
  refine wr_gr (k0 := 18) (x := 26) (nx := 11) (r1 := 4) (r2 := 6) (r3 := 0) rfl rfl (by decide) rfl ⟨rfl, rfl⟩ rfl ?_
  have b6 := gi_b (lo := 0) (hi := 12) g 26 1 rfl
  refine wr_gi0 (k0 := 26) (x := h 26 1) (nx := 14) (r1 := 5) (r2 := 1) (r3 := 0) rfl rfl (by decide) rfl ⟨rfl, rfl⟩ rfl rfl ?_
  refine wi_icmp (cd := .ge) (nx := 17) (r1 := 78) (r2 := 0) (r3 := 0) rfl (by omega) (by omega) (fun (q7 : (h 26 1) ≤ x3) => ?_) (fun (q7 : ¬ ((h 26 1) ≤ x3)) => ?_)
  ·
    refine wi_iload_n (i := 1) (e := x1) (nx := 79) (r1 := 0) (r2 := 0) (r3 := 0) rfl rfl ?_
    refine wi_ireturn (nx := 80) (r1 := 0) (r2 := 0) (r3 := 0) rfl rfl ?_
    exact k x1 (by omega)
  ·
    refine wi_aload_n (i := 0) (x := 18) (nx := 18) (r1 := 0) (r2 := 0) (r3 := 0) rfl rfl ?_
    refine wi_aload_n (i := 0) (x := 18) (nx := 19) (r1 := 0) (r2 := 0) (r3 := 0) rfl rfl ?_
    refine wr_gr (k0 := 18) (x := 26) (nx := 22) (r1 := 4) (r2 := 6) (r3 := 0) rfl rfl (by decide) rfl ⟨rfl, rfl⟩ rfl ?_
    refine wi_iload_n (i := 3) (e := x3) (nx := 23) (r1 := 0) (r2 := 0) (r3 := 0) rfl rfl ?_
    refine wr_V (k0 := 26) (rest := [.ref 18]) (as := [.ref 26, vi x3]) (nx := 26) (r1 := 154) (r2 := 1) (r3 := 5) rfl rfl rfl (of_decide_eq_true rfl) rfl rfl (by decide) rfl rfl (of_decide_eq_true rfl) (of_decide_eq_true rfl) ?_
    refine ct_154_R hcr rw_26 g x3 (by omega)  (fun z9  (fz9 : -2147483648 ≤ z9 ∧ z9 ≤ 2147483647) => ?_)
    refine wk_i ?_
    refine wr_V (k0 := 18) (rest := []) (as := [.ref 18, vi z9]) (nx := 29) (r1 := 131) (r2 := 1) (r3 := 4) rfl rfl rfl (of_decide_eq_true rfl) rfl rfl (by decide) rfl rfl (of_decide_eq_true rfl) (of_decide_eq_true rfl) ?_
    refine ct_131_18 hcr  g z9 (by omega)  (fun z11  (fz11 : -2147483648 ≤ z11 ∧ z11 ≤ 2147483647) => ?_)
    refine wk_i ?_
    refine wi_aload_n (i := 0) (x := 18) (nx := 30) (r1 := 0) (r2 := 0) (r3 := 0) rfl rfl ?_
    refine wi_aload_n (i := 0) (x := 18) (nx := 31) (r1 := 0) (r2 := 0) (r3 := 0) rfl rfl ?_
    refine wr_gr (k0 := 18) (x := 26) (nx := 34) (r1 := 4) (r2 := 6) (r3 := 0) rfl rfl (by decide) rfl ⟨rfl, rfl⟩ rfl ?_
    refine wi_iload_n (i := 3) (e := x3) (nx := 35) (r1 := 0) (r2 := 0) (r3 := 0) rfl rfl ?_
    refine wi_iconst (n := 1) (nx := 36) (r1 := 0) (r2 := 0) (r3 := 0) rfl ?_
    refine wr_sub (nx := 37) (r1 := 0) (r2 := 0) (r3 := 0) rfl (fun e12 (fe12 : e12 = x3 - 1) => ?_)
    refine wr_V (k0 := 26) (rest := [.ref 18, vi z11]) (as := [.ref 26, vi e12]) (nx := 40) (r1 := 154) (r2 := 1) (r3 := 5) rfl rfl rfl (of_decide_eq_true rfl) rfl rfl (by decide) rfl rfl (of_decide_eq_true rfl) (of_decide_eq_true rfl) ?_
    refine ct_154_R hcr rw_26 g e12 (by omega)  (fun z14  (fz14 : -2147483648 ≤ z14 ∧ z14 ≤ 2147483647) => ?_)
    refine wk_i ?_
    refine wr_V (k0 := 18) (rest := [vi z11]) (as := [.ref 18, vi z14]) (nx := 43) (r1 := 131) (r2 := 1) (r3 := 4) rfl rfl rfl (of_decide_eq_true rfl) rfl rfl (by decide) rfl rfl (of_decide_eq_true rfl) (of_decide_eq_true rfl) ?_
    refine ct_131_18 hcr  g z14 (by omega)  (fun z16  (fz16 : -2147483648 ≤ z16 ∧ z16 ≤ 2147483647) => ?_)
    refine wk_i ?_
    refine wi_icmp (cd := .ne) (nx := 46) (r1 := 50) (r2 := 0) (r3 := 0) rfl (by omega) (by omega) (fun (q17 : z11 ≠ z16) => ?_) (fun (q17 : ¬ (z11 ≠ z16)) => ?_)
    ·
      refine wi_iconst (n := 0) (nx := 51) (r1 := 0) (r2 := 0) (r3 := 0) rfl ?_
      refine wi_istore (i := 4) (e := 0) (lo2 := [(4, vi 0), (0, .ref 18), (1, vi x1), (2, vi x2), (3, vi x3)]) (nx := 53) (r1 := 0) (r2 := 0) (r3 := 0) rfl rfl ?_
      refine wi_iload (i := 4) (e := 0) (nx := 55) (r1 := 0) (r2 := 0) (r3 := 0) rfl rfl ?_
      refine wi_if (cd := .eq) (nx := 58) (r1 := 64) (r2 := 0) (r3 := 0) rfl (by omega) (fun (q18 : 0 = 0) => ?_) (fun (q18 : ¬ (0 = 0)) => by exfalso; omega)
      refine wi_iconst (n := 1) (nx := 65) (r1 := 0) (r2 := 0) (r3 := 0) rfl ?_
      refine wi_istore_n (i := 2) (e := 1) (lo2 := [(2, vi 1), (4, vi 0), (0, .ref 18), (1, vi x1), (3, vi x3)]) (nx := 66) (r1 := 0) (r2 := 0) (r3 := 0) rfl rfl ?_
      refine wi_iload_n (i := 1) (e := x1) (nx := 67) (r1 := 0) (r2 := 0) (r3 := 0) rfl rfl ?_
      refine wi_iload_n (i := 2) (e := 1) (nx := 68) (r1 := 0) (r2 := 0) (r3 := 0) rfl rfl ?_
      refine wi_S (rest := []) (as := [vi x1, vi 1]) (nx := 71) (r1 := 354) (r2 := 18) (r3 := 0) rfl rfl rfl (of_decide_eq_true rfl) rfl rfl (of_decide_eq_true rfl) (of_decide_eq_true rfl) ?_
      refine wi_iload_n (i := 0) (e := x1) (nx := 1) (r1 := 0) (r2 := 0) (r3 := 0) rfl rfl ?_
      refine wi_iload_n (i := 1) (e := 1) (nx := 2) (r1 := 0) (r2 := 0) (r3 := 0) rfl rfl ?_
      refine wi_icmp (cd := .lt) (nx := 5) (r1 := 9) (r2 := 0) (r3 := 0) rfl (by omega) (by omega) (fun (q19 : x1 < 1) => ?_) (fun (q19 : ¬ (x1 < 1)) => ?_)
      ·
        refine wi_iload_n (i := 1) (e := 1) (nx := 10) (r1 := 0) (r2 := 0) (r3 := 0) rfl rfl ?_
        refine wi_ireturn (nx := 11) (r1 := 0) (r2 := 0) (r3 := 0) rfl rfl ?_
        refine wk_i ?_
        refine wi_istore_n (i := 1) (e := 1) (lo2 := [(1, vi 1), (2, vi 1), (4, vi 0), (0, .ref 18), (3, vi x3)]) (nx := 72) (r1 := 0) (r2 := 0) (r3 := 0) rfl rfl ?_
        refine wr_iinc (i := 3) (n := 1) (v := x3) (fun e20 => [(3, vi e20), (1, vi 1), (2, vi 1), (4, vi 0), (0, .ref 18)]) (nx := 75) (r1 := 0) (r2 := 0) (r3 := 0) rfl rfl (fun _ => rfl) (fun e20 (fe20 : e20 = x3 + 1) => ?_)
        refine wi_goto (nx := 78) (r1 := 6) (r2 := 0) (r3 := 0) rfl ?_
        refine wp.lo (lo := [(0, .ref 18), (1, vi 1), (2, vi 1), (3, vi e20)]) ⟨rfl, rfl, rfl, rfl, trivial⟩ rfl ?_
        exact I4 1 1 e20 h ⟨rfl, (show (0 ≤ 1 ∧ 1 ≤ 2147483647) ∧ (-2147483648 ≤ 1 ∧ 1 ≤ 2147483647) ∧ (0 ≤ e20 ∧ e20 ≤ 12) by omega)⟩ (show ((12 : Int) + 1 - e20).toNat < ((12 : Int) + 1 - x3).toNat by omega)
      ·
        refine wi_iload_n (i := 0) (e := x1) (nx := 6) (r1 := 0) (r2 := 0) (r3 := 0) rfl rfl ?_
        refine wi_goto (nx := 9) (r1 := 10) (r2 := 0) (r3 := 0) rfl ?_
        refine wi_ireturn (nx := 11) (r1 := 0) (r2 := 0) (r3 := 0) rfl rfl ?_
        refine wk_i ?_
        refine wi_istore_n (i := 1) (e := x1) (lo2 := [(1, vi x1), (2, vi 1), (4, vi 0), (0, .ref 18), (3, vi x3)]) (nx := 72) (r1 := 0) (r2 := 0) (r3 := 0) rfl rfl ?_
        refine wr_iinc (i := 3) (n := 1) (v := x3) (fun e20 => [(3, vi e20), (1, vi x1), (2, vi 1), (4, vi 0), (0, .ref 18)]) (nx := 75) (r1 := 0) (r2 := 0) (r3 := 0) rfl rfl (fun _ => rfl) (fun e20 (fe20 : e20 = x3 + 1) => ?_)
        refine wi_goto (nx := 78) (r1 := 6) (r2 := 0) (r3 := 0) rfl ?_
        refine wp.lo (lo := [(0, .ref 18), (1, vi x1), (2, vi 1), (3, vi e20)]) ⟨rfl, rfl, rfl, rfl, trivial⟩ rfl ?_
        exact I4 x1 1 e20 h ⟨rfl, (show (0 ≤ x1 ∧ x1 ≤ 2147483647) ∧ (-2147483648 ≤ 1 ∧ 1 ≤ 2147483647) ∧ (0 ≤ e20 ∧ e20 ≤ 12) by omega)⟩ (show ((12 : Int) + 1 - e20).toNat < ((12 : Int) + 1 - x3).toNat by omega)
    ·
      refine wi_iconst (n := 1) (nx := 47) (r1 := 0) (r2 := 0) (r3 := 0) rfl ?_
      refine wi_goto (nx := 50) (r1 := 51) (r2 := 0) (r3 := 0) rfl ?_
      refine wi_istore (i := 4) (e := 1) (lo2 := [(4, vi 1), (0, .ref 18), (1, vi x1), (2, vi x2), (3, vi x3)]) (nx := 53) (r1 := 0) (r2 := 0) (r3 := 0) rfl rfl ?_
      refine wi_iload (i := 4) (e := 1) (nx := 55) (r1 := 0) (r2 := 0) (r3 := 0) rfl rfl ?_
      refine wi_if (cd := .eq) (nx := 58) (r1 := 64) (r2 := 0) (r3 := 0) rfl (by omega) (fun (q18 : 1 = 0) => by exfalso; omega) (fun (q18 : ¬ (1 = 0)) => ?_)
      refine wi_iload_n (i := 2) (e := x2) (nx := 59) (r1 := 0) (r2 := 0) (r3 := 0) rfl rfl ?_
      refine wi_iconst (n := 1) (nx := 60) (r1 := 0) (r2 := 0) (r3 := 0) rfl ?_
      refine wr_addW (nx := 61) (r1 := 0) (r2 := 0) (r3 := 0) rfl (fun e19 (fe19 : -2147483648 ≤ e19 ∧ e19 ≤ 2147483647) => ?_)
      refine wi_goto (nx := 64) (r1 := 65) (r2 := 0) (r3 := 0) rfl ?_
      refine wi_istore_n (i := 2) (e := e19) (lo2 := [(2, vi e19), (4, vi 1), (0, .ref 18), (1, vi x1), (3, vi x3)]) (nx := 66) (r1 := 0) (r2 := 0) (r3 := 0) rfl rfl ?_
      refine wi_iload_n (i := 1) (e := x1) (nx := 67) (r1 := 0) (r2 := 0) (r3 := 0) rfl rfl ?_
      refine wi_iload_n (i := 2) (e := e19) (nx := 68) (r1 := 0) (r2 := 0) (r3 := 0) rfl rfl ?_
      refine wi_S (rest := []) (as := [vi x1, vi e19]) (nx := 71) (r1 := 354) (r2 := 18) (r3 := 0) rfl rfl rfl (of_decide_eq_true rfl) rfl rfl (of_decide_eq_true rfl) (of_decide_eq_true rfl) ?_
      refine wi_iload_n (i := 0) (e := x1) (nx := 1) (r1 := 0) (r2 := 0) (r3 := 0) rfl rfl ?_
      refine wi_iload_n (i := 1) (e := e19) (nx := 2) (r1 := 0) (r2 := 0) (r3 := 0) rfl rfl ?_
      refine wi_icmp (cd := .lt) (nx := 5) (r1 := 9) (r2 := 0) (r3 := 0) rfl (by omega) (by omega) (fun (q20 : x1 < e19) => ?_) (fun (q20 : ¬ (x1 < e19)) => ?_)
      ·
        refine wi_iload_n (i := 1) (e := e19) (nx := 10) (r1 := 0) (r2 := 0) (r3 := 0) rfl rfl ?_
        refine wi_ireturn (nx := 11) (r1 := 0) (r2 := 0) (r3 := 0) rfl rfl ?_
        refine wk_i ?_
        refine wi_istore_n (i := 1) (e := e19) (lo2 := [(1, vi e19), (2, vi e19), (4, vi 1), (0, .ref 18), (3, vi x3)]) (nx := 72) (r1 := 0) (r2 := 0) (r3 := 0) rfl rfl ?_
        refine wr_iinc (i := 3) (n := 1) (v := x3) (fun e21 => [(3, vi e21), (1, vi e19), (2, vi e19), (4, vi 1), (0, .ref 18)]) (nx := 75) (r1 := 0) (r2 := 0) (r3 := 0) rfl rfl (fun _ => rfl) (fun e21 (fe21 : e21 = x3 + 1) => ?_)
        refine wi_goto (nx := 78) (r1 := 6) (r2 := 0) (r3 := 0) rfl ?_
        refine wp.lo (lo := [(0, .ref 18), (1, vi e19), (2, vi e19), (3, vi e21)]) ⟨rfl, rfl, rfl, rfl, trivial⟩ rfl ?_
        exact I4 e19 e19 e21 h ⟨rfl, (show (0 ≤ e19 ∧ e19 ≤ 2147483647) ∧ (-2147483648 ≤ e19 ∧ e19 ≤ 2147483647) ∧ (0 ≤ e21 ∧ e21 ≤ 12) by omega)⟩ (show ((12 : Int) + 1 - e21).toNat < ((12 : Int) + 1 - x3).toNat by omega)
      ·
        refine wi_iload_n (i := 0) (e := x1) (nx := 6) (r1 := 0) (r2 := 0) (r3 := 0) rfl rfl ?_
        refine wi_goto (nx := 9) (r1 := 10) (r2 := 0) (r3 := 0) rfl ?_
        refine wi_ireturn (nx := 11) (r1 := 0) (r2 := 0) (r3 := 0) rfl rfl ?_
        refine wk_i ?_
        refine wi_istore_n (i := 1) (e := x1) (lo2 := [(1, vi x1), (2, vi e19), (4, vi 1), (0, .ref 18), (3, vi x3)]) (nx := 72) (r1 := 0) (r2 := 0) (r3 := 0) rfl rfl ?_
        refine wr_iinc (i := 3) (n := 1) (v := x3) (fun e21 => [(3, vi e21), (1, vi x1), (2, vi e19), (4, vi 1), (0, .ref 18)]) (nx := 75) (r1 := 0) (r2 := 0) (r3 := 0) rfl rfl (fun _ => rfl) (fun e21 (fe21 : e21 = x3 + 1) => ?_)
        refine wi_goto (nx := 78) (r1 := 6) (r2 := 0) (r3 := 0) rfl ?_
        refine wp.lo (lo := [(0, .ref 18), (1, vi x1), (2, vi e19), (3, vi e21)]) ⟨rfl, rfl, rfl, rfl, trivial⟩ rfl ?_
        exact I4 x1 e19 e21 h ⟨rfl, (show (0 ≤ x1 ∧ x1 ≤ 2147483647) ∧ (-2147483648 ≤ e19 ∧ e19 ≤ 2147483647) ∧ (0 ≤ e21 ∧ e21 ≤ 12) by omega)⟩ (show ((12 : Int) + 1 - e21).toNat < ((12 : Int) + 1 - x3).toNat by omega)
-- method 37: Bank.longestBatch()I
set_option maxRecDepth 100000 in
set_option maxHeartbeats 100000000 in
theorem ct_37_0 {L : Nat} {xs : Nat → Int32} {d b c : Nat} {h : hp} {cr : Nat → Nat → Option Nat} {Q : hp_Q} (hcr : CR cr)  (g : GI h)    (k : ∀ (z0 : Int), (0 ≤ z0 ∧ z0 ≤ 2147483647) → Q (.inl (some (vi z0))) (hp_w h cr) b c) : wp (md_xa (L, xs)) (d + 2) 37 (0, [(0, .ref 0)], [], hp_w h cr, b, c) Q := by
  have F0 : FR [] h h := FR.refl
  refine wi_aload_n (i := 0) (x := 0) (nx := 1) (r1 := 0) (r2 := 0) (r3 := 0) rfl rfl ?_
  refine wr_gr (k0 := 0) (x := 18) (nx := 4) (r1 := 0) (r2 := 3) (r3 := 0) rfl rfl (by decide) rfl ⟨rfl, rfl⟩ rfl ?_
  refine wr_V (k0 := 18) (rest := []) (as := [.ref 18]) (nx := 7) (r1 := 130) (r2 := 0) (r3 := 4) rfl rfl rfl (of_decide_eq_true rfl) rfl rfl (by decide) rfl rfl (of_decide_eq_true rfl) (of_decide_eq_true rfl) ?_
  refine ct_130_18 hcr  g    (fun z2  (fz2 : 0 ≤ z2 ∧ z2 ≤ 2147483647) => ?_)
  refine wk_i ?_
  refine wi_ireturn (nx := 8) (r1 := 0) (r2 := 0) (r3 := 0) rfl rfl ?_
  exact k z2 (by omega)
-- method 76: Bank.move(I)I
set_option maxRecDepth 100000 in
set_option maxHeartbeats 100000000 in
theorem ct_76_0 {L : Nat} {xs : Nat → Int32} {d b c : Nat} {h : hp} {cr : Nat → Nat → Option Nat} {Q : hp_Q} (hcr : CR cr) (hr : 1 ≤ b ∧ 6 ≤ c)  (g : GI h) (a0 : Int) (q0_ : -2147483648 ≤ a0 ∧ a0 ≤ 2147483647)  (k : ∀ (z0 : Int), (-11 ≤ z0 ∧ z0 ≤ 11) → Q (.inl (some (vi z0))) (hp_w h cr) b c) (kx0 : Q (.inr 0) (hp_w h cr) (b - 1) (c - 6)) (kx2 : Q (.inr 2) (hp_w h cr) (b - 1) (c - 6)) : wp (md_xa (L, xs)) (d + 1) 76 (0, [(0, .ref 0), (1, vi a0)], [], hp_w h cr, b, c) Q := by
  have F0 : FR [] h h := FR.refl
  refine wi_aload_n (i := 0) (x := 0) (nx := 1) (r1 := 0) (r2 := 0) (r3 := 0) rfl rfl ?_
  refine wi_iload_n (i := 1) (e := a0) (nx := 2) (r1 := 0) (r2 := 0) (r3 := 0) rfl rfl ?_
  refine wr_V (k0 := 0) (rest := []) (as := [.ref 0, vi a0]) (nx := 5) (r1 := 70) (r2 := 1) (r3 := 0) rfl rfl rfl (of_decide_eq_true rfl) rfl rfl (by decide) rfl rfl (of_decide_eq_true rfl) (of_decide_eq_true rfl) ?_
  refine wi_iload_n (i := 1) (e := a0) (nx := 1) (r1 := 0) (r2 := 0) (r3 := 0) rfl rfl ?_
  refine wi_if (cd := .lt) (nx := 4) (r1 := 15) (r2 := 0) (r3 := 0) rfl (by omega) (fun (q1 : a0 < 0) => ?_) (fun (q1 : ¬ (a0 < 0)) => ?_)
  ·
    refine wr_throw (Ex := 2) (nx := 18) (r1 := 2) (r2 := 0) (r3 := 1) rfl (by decide) rfl hr (by decide) ?_
    refine wk_x rfl ?_
    exact kx2
  ·
    refine wi_iload_n (i := 1) (e := a0) (nx := 5) (r1 := 0) (r2 := 0) (r3 := 0) rfl rfl ?_
    refine wi_aload_n (i := 0) (x := 0) (nx := 6) (r1 := 0) (r2 := 0) (r3 := 0) rfl rfl ?_
    refine wr_gr (k0 := 0) (x := 3) (nx := 9) (r1 := 0) (r2 := 1) (r3 := 0) rfl rfl (by decide) rfl ⟨rfl, rfl⟩ rfl ?_
    have b2 := gi_b (lo := 0) (hi := 12) g 3 2 rfl
    refine wr_gi0 (k0 := 3) (x := h 3 2) (nx := 12) (r1 := 2) (r2 := 2) (r3 := 0) rfl rfl (by decide) rfl ⟨rfl, rfl⟩ rfl rfl ?_
    refine wi_icmp (cd := .lt) (nx := 15) (r1 := 26) (r2 := 0) (r3 := 0) rfl (by omega) (by omega) (fun (q3 : a0 < (h 3 2)) => ?_) (fun (q3 : ¬ (a0 < (h 3 2))) => ?_)
    ·
      refine wi_return (nx := 27) (r1 := 0) (r2 := 0) (r3 := 0) rfl rfl ?_
      refine wk_n ?_
      refine wi_aload_n (i := 0) (x := 0) (nx := 6) (r1 := 0) (r2 := 0) (r3 := 0) rfl rfl ?_
      refine wr_gr (k0 := 0) (x := 18) (nx := 9) (r1 := 0) (r2 := 3) (r3 := 0) rfl rfl (by decide) rfl ⟨rfl, rfl⟩ rfl ?_
      refine wr_gr (k0 := 18) (x := 26) (nx := 12) (r1 := 4) (r2 := 6) (r3 := 0) rfl rfl (by decide) rfl ⟨rfl, rfl⟩ rfl ?_
      refine wi_iload_n (i := 1) (e := a0) (nx := 13) (r1 := 0) (r2 := 0) (r3 := 0) rfl rfl ?_
      refine wr_V (k0 := 26) (rest := []) (as := [.ref 26, vi a0]) (nx := 16) (r1 := 159) (r2 := 1) (r3 := 5) rfl rfl rfl (of_decide_eq_true rfl) rfl rfl (by decide) rfl rfl (of_decide_eq_true rfl) (of_decide_eq_true rfl) ?_
      refine ct_159_R hcr rw_26 g a0 (by omega)  (fun z5  (fz5 : -1 ≤ z5 ∧ z5 ≤ 11) => ?_)
      refine wk_i ?_
      refine wi_istore_n (i := 2) (e := z5) (lo2 := [(2, vi z5), (0, .ref 0), (1, vi a0)]) (nx := 17) (r1 := 0) (r2 := 0) (r3 := 0) rfl rfl ?_
      refine wi_iload_n (i := 2) (e := z5) (nx := 18) (r1 := 0) (r2 := 0) (r3 := 0) rfl rfl ?_
      refine wi_iconst (n := (-1)) (nx := 19) (r1 := 0) (r2 := 0) (r3 := 0) rfl ?_
      refine wi_icmp (cd := .ne) (nx := 22) (r1 := 32) (r2 := 0) (r3 := 0) rfl (by omega) (by omega) (fun (q6 : z5 ≠ (-1)) => ?_) (fun (q6 : ¬ (z5 ≠ (-1))) => ?_)
      ·
        refine wi_iload_n (i := 2) (e := z5) (nx := 33) (r1 := 0) (r2 := 0) (r3 := 0) rfl rfl ?_
        refine wi_iload_n (i := 1) (e := a0) (nx := 34) (r1 := 0) (r2 := 0) (r3 := 0) rfl rfl ?_
        refine wr_sub (nx := 35) (r1 := 0) (r2 := 0) (r3 := 0) rfl (fun e7 (fe7 : e7 = z5 - a0) => ?_)
        refine wi_ireturn (nx := 36) (r1 := 0) (r2 := 0) (r3 := 0) rfl rfl ?_
        exact k e7 (by omega)
      ·
        refine wr_throw (Ex := 0) (nx := 25) (r1 := 0) (r2 := 0) (r3 := 1) rfl (by decide) rfl hr (by decide) ?_
        exact kx0
    ·
      refine wr_throw (Ex := 2) (nx := 18) (r1 := 2) (r2 := 0) (r3 := 1) rfl (by decide) rfl hr (by decide) ?_
      refine wk_x rfl ?_
      exact kx2
-- method 35: Bank.out(I)I
set_option maxRecDepth 100000 in
set_option maxHeartbeats 100000000 in
theorem ct_35_0 {L : Nat} {xs : Nat → Int32} {d b c : Nat} {h : hp} {cr : Nat → Nat → Option Nat} {Q : hp_Q} (hcr : CR cr)  (g : GI h) (a0 : Int) (q0_ : -2147483648 ≤ a0 ∧ a0 ≤ 2147483647)  (k : ∀ (z0 : Int), (-2147483648 ≤ z0 ∧ z0 ≤ 2147483647) → Q (.inl (some (vi z0))) (hp_w h cr) b c) : wp (md_xa (L, xs)) (d + 1) 35 (0, [(0, .ref 0), (1, vi a0)], [], hp_w h cr, b, c) Q := by
  have F0 : FR [] h h := FR.refl
  refine wi_aload_n (i := 0) (x := 0) (nx := 1) (r1 := 0) (r2 := 0) (r3 := 0) rfl rfl ?_
  refine wr_gr (k0 := 0) (x := 18) (nx := 4) (r1 := 0) (r2 := 3) (r3 := 0) rfl rfl (by decide) rfl ⟨rfl, rfl⟩ rfl ?_
  refine wr_gr (k0 := 18) (x := 26) (nx := 7) (r1 := 4) (r2 := 6) (r3 := 0) rfl rfl (by decide) rfl ⟨rfl, rfl⟩ rfl ?_
  refine wi_iload_n (i := 1) (e := a0) (nx := 8) (r1 := 0) (r2 := 0) (r3 := 0) rfl rfl ?_
  refine wr_V (k0 := 26) (rest := []) (as := [.ref 26, vi a0]) (nx := 11) (r1 := 154) (r2 := 1) (r3 := 5) rfl rfl rfl (of_decide_eq_true rfl) rfl rfl (by decide) rfl rfl (of_decide_eq_true rfl) (of_decide_eq_true rfl) ?_
  refine ct_154_R hcr rw_26 g a0 (by omega)  (fun z2  (fz2 : -2147483648 ≤ z2 ∧ z2 ≤ 2147483647) => ?_)
  refine wk_i ?_
  refine wi_ireturn (nx := 12) (r1 := 0) (r2 := 0) (r3 := 0) rfl rfl ?_
  exact k z2 (by omega)
-- method 34: Bank.outCount()I
set_option maxRecDepth 100000 in
set_option maxHeartbeats 100000000 in
theorem ct_34_0 {L : Nat} {xs : Nat → Int32} {d b c : Nat} {h : hp} {cr : Nat → Nat → Option Nat} {Q : hp_Q} (hcr : CR cr)  (g : GI h)    (k : ∀ (z0 : Int), (0 ≤ z0 ∧ z0 ≤ 12) → Q (.inl (some (vi z0))) (hp_w h cr) b c) : wp (md_xa (L, xs)) d 34 (0, [(0, .ref 0)], [], hp_w h cr, b, c) Q := by
  have F0 : FR [] h h := FR.refl
  refine wi_aload_n (i := 0) (x := 0) (nx := 1) (r1 := 0) (r2 := 0) (r3 := 0) rfl rfl ?_
  refine wr_gr (k0 := 0) (x := 18) (nx := 4) (r1 := 0) (r2 := 3) (r3 := 0) rfl rfl (by decide) rfl ⟨rfl, rfl⟩ rfl ?_
  refine wr_gr (k0 := 18) (x := 26) (nx := 7) (r1 := 4) (r2 := 6) (r3 := 0) rfl rfl (by decide) rfl ⟨rfl, rfl⟩ rfl ?_
  have b1 := gi_b (lo := 0) (hi := 12) g 26 1 rfl
  refine wr_gi0 (k0 := 26) (x := h 26 1) (nx := 10) (r1 := 5) (r2 := 1) (r3 := 0) rfl rfl (by decide) rfl ⟨rfl, rfl⟩ rfl rfl ?_
  refine wi_ireturn (nx := 11) (r1 := 0) (r2 := 0) (r3 := 0) rfl rfl ?_
  exact k (h 26 1) (by omega)
-- method 42: Bank.purges()I
set_option maxRecDepth 100000 in
set_option maxHeartbeats 100000000 in
theorem ct_42_0 {L : Nat} {xs : Nat → Int32} {d b c : Nat} {h : hp} {cr : Nat → Nat → Option Nat} {Q : hp_Q} (hcr : CR cr)  (g : GI h)    (k : ∀ (z0 : Int), (-2147483648 ≤ z0 ∧ z0 ≤ 2147483647) → Q (.inl (some (vi z0))) (hp_w h cr) b c) : wp (md_xa (L, xs)) d 42 (0, [(0, .ref 0)], [], hp_w h cr, b, c) Q := by
  have F0 : FR [] h h := FR.refl
  refine wi_aload_n (i := 0) (x := 0) (nx := 1) (r1 := 0) (r2 := 0) (r3 := 0) rfl rfl ?_
  refine wr_gr (k0 := 0) (x := 18) (nx := 4) (r1 := 0) (r2 := 3) (r3 := 0) rfl rfl (by decide) rfl ⟨rfl, rfl⟩ rfl ?_
  have b1 := gi_b (lo := -2147483648) (hi := 2147483647) g 18 12 rfl
  refine wr_gi0 (k0 := 18) (x := h 18 12) (nx := 7) (r1 := 4) (r2 := 12) (r3 := 0) rfl rfl (by decide) rfl ⟨rfl, rfl⟩ rfl rfl ?_
  refine wi_ireturn (nx := 8) (r1 := 0) (r2 := 0) (r3 := 0) rfl rfl ?_
  exact k (h 18 12) (by omega)
-- method 108: Setup.clear()V
set_option maxRecDepth 100000 in
set_option maxHeartbeats 100000000 in
theorem ct_108_11 {L : Nat} {xs : Nat → Int32} {d b c : Nat} {h : hp} {cr : Nat → Nat → Option Nat} {Q : hp_Q} (hcr : CR cr)  (g : GI h)    (k : ∀ (h2 : hp) , GI h2 → FR [(11, 11, some (0, 0)), (11, 11, some (1, 1)), (11, 11, some (2, 2)), (11, 11, some (3, 3)), (11, 11, some (4, 4)), (11, 11, some (5, 5)), (11, 11, some (6, 6)), (11, 11, some (7, 7)), (11, 11, some (8, 8)), (11, 11, some (9, 9))] h h2 → (h2 11 0 = 0) → (h2 11 1 = 0) → (h2 11 2 = 0) → (h2 11 3 = 11) → (h2 11 4 = 11) → (h2 11 5 = 9) → (h2 11 6 = 0) → (h2 11 7 = 1) → (h2 11 8 = 3) → (h2 11 9 = 2) → Q (.inl none) (hp_w h2 cr) b c) : wp (md_xa (L, xs)) d 108 (0, [(0, .ref 11)], [], hp_w h cr, b, c) Q := by
  have F0 : FR [(11, 11, some (0, 0)), (11, 11, some (1, 1)), (11, 11, some (2, 2)), (11, 11, some (3, 3)), (11, 11, some (4, 4)), (11, 11, some (5, 5)), (11, 11, some (6, 6)), (11, 11, some (7, 7)), (11, 11, some (8, 8)), (11, 11, some (9, 9))] h h := FR.refl
  refine wi_aload_n (i := 0) (x := 11) (nx := 1) (r1 := 0) (r2 := 0) (r3 := 0) rfl rfl ?_
  refine wi_iconst (n := 0) (nx := 2) (r1 := 0) (r2 := 0) (r3 := 0) rfl ?_
  refine wr_pf0 (k0 := 11) (x := 0) (bl := 0) (bh := 5) (nx := 5) (r1 := 2) (r2 := 0) (r3 := 0) rfl (by decide) rfl ⟨rfl, rfl⟩ rfl rfl g rfl (by omega) (fun h1 g1 w1 u1 => ?_)
  have F2 := F0.then rfl u1
  refine wi_aload_n (i := 0) (x := 11) (nx := 6) (r1 := 0) (r2 := 0) (r3 := 0) rfl rfl ?_
  refine wi_iconst (n := 0) (nx := 7) (r1 := 0) (r2 := 0) (r3 := 0) rfl ?_
  refine wr_pf0 (k0 := 11) (x := 0) (bl := 0) (bh := 4) (nx := 10) (r1 := 2) (r2 := 1) (r3 := 0) rfl (by decide) rfl ⟨rfl, rfl⟩ rfl rfl g1 rfl (by omega) (fun h3 g3 w3 u3 => ?_)
  have F4 := F2.then rfl u3
  refine wi_aload_n (i := 0) (x := 11) (nx := 11) (r1 := 0) (r2 := 0) (r3 := 0) rfl rfl ?_
  refine wi_iconst (n := 0) (nx := 12) (r1 := 0) (r2 := 0) (r3 := 0) rfl ?_
  refine wr_pf0 (k0 := 11) (x := 0) (bl := 0) (bh := 12) (nx := 15) (r1 := 2) (r2 := 2) (r3 := 0) rfl (by decide) rfl ⟨rfl, rfl⟩ rfl rfl g3 rfl (by omega) (fun h5 g5 w5 u5 => ?_)
  have F6 := F4.then rfl u5
  refine wi_aload_n (i := 0) (x := 11) (nx := 16) (r1 := 0) (r2 := 0) (r3 := 0) rfl rfl ?_
  refine wi_bipush (n := 11) (nx := 18) (r1 := 0) (r2 := 0) (r3 := 0) rfl (by decide) ?_
  refine wr_pf0 (k0 := 11) (x := 11) (bl := -2147483648) (bh := 2147483647) (nx := 21) (r1 := 2) (r2 := 3) (r3 := 0) rfl (by decide) rfl ⟨rfl, rfl⟩ rfl rfl g5 rfl (by omega) (fun h7 g7 w7 u7 => ?_)
  have F8 := F6.then rfl u7
  refine wi_aload_n (i := 0) (x := 11) (nx := 22) (r1 := 0) (r2 := 0) (r3 := 0) rfl rfl ?_
  refine wi_bipush (n := 11) (nx := 24) (r1 := 0) (r2 := 0) (r3 := 0) rfl (by decide) ?_
  refine wr_pf0 (k0 := 11) (x := 11) (bl := -2147483648) (bh := 2147483647) (nx := 27) (r1 := 2) (r2 := 4) (r3 := 0) rfl (by decide) rfl ⟨rfl, rfl⟩ rfl rfl g7 rfl (by omega) (fun h9 g9 w9 u9 => ?_)
  have F10 := F8.then rfl u9
  refine wi_aload_n (i := 0) (x := 11) (nx := 28) (r1 := 0) (r2 := 0) (r3 := 0) rfl rfl ?_
  refine wi_bipush (n := 9) (nx := 30) (r1 := 0) (r2 := 0) (r3 := 0) rfl (by decide) ?_
  refine wr_pf0 (k0 := 11) (x := 9) (bl := -2147483648) (bh := 2147483647) (nx := 33) (r1 := 2) (r2 := 5) (r3 := 0) rfl (by decide) rfl ⟨rfl, rfl⟩ rfl rfl g9 rfl (by omega) (fun h11 g11 w11 u11 => ?_)
  have F12 := F10.then rfl u11
  refine wi_aload_n (i := 0) (x := 11) (nx := 34) (r1 := 0) (r2 := 0) (r3 := 0) rfl rfl ?_
  refine wi_iconst (n := 0) (nx := 35) (r1 := 0) (r2 := 0) (r3 := 0) rfl ?_
  refine wr_pf0 (k0 := 11) (x := 0) (bl := -2147483648) (bh := 2147483647) (nx := 38) (r1 := 2) (r2 := 6) (r3 := 0) rfl (by decide) rfl ⟨rfl, rfl⟩ rfl rfl g11 rfl (by omega) (fun h13 g13 w13 u13 => ?_)
  have F14 := F12.then rfl u13
  refine wi_aload_n (i := 0) (x := 11) (nx := 39) (r1 := 0) (r2 := 0) (r3 := 0) rfl rfl ?_
  refine wi_iconst (n := 1) (nx := 40) (r1 := 0) (r2 := 0) (r3 := 0) rfl ?_
  refine wr_pf0 (k0 := 11) (x := 1) (bl := -2147483648) (bh := 2147483647) (nx := 43) (r1 := 2) (r2 := 7) (r3 := 0) rfl (by decide) rfl ⟨rfl, rfl⟩ rfl rfl g13 rfl (by omega) (fun h15 g15 w15 u15 => ?_)
  have F16 := F14.then rfl u15
  refine wi_aload_n (i := 0) (x := 11) (nx := 44) (r1 := 0) (r2 := 0) (r3 := 0) rfl rfl ?_
  refine wi_iconst (n := 3) (nx := 45) (r1 := 0) (r2 := 0) (r3 := 0) rfl ?_
  refine wr_pf0 (k0 := 11) (x := 3) (bl := -2147483648) (bh := 2147483647) (nx := 48) (r1 := 2) (r2 := 8) (r3 := 0) rfl (by decide) rfl ⟨rfl, rfl⟩ rfl rfl g15 rfl (by omega) (fun h17 g17 w17 u17 => ?_)
  have F18 := F16.then rfl u17
  refine wi_aload_n (i := 0) (x := 11) (nx := 49) (r1 := 0) (r2 := 0) (r3 := 0) rfl rfl ?_
  refine wi_iconst (n := 2) (nx := 50) (r1 := 0) (r2 := 0) (r3 := 0) rfl ?_
  refine wr_pf0 (k0 := 11) (x := 2) (bl := -2147483648) (bh := 2147483647) (nx := 53) (r1 := 2) (r2 := 9) (r3 := 0) rfl (by decide) rfl ⟨rfl, rfl⟩ rfl rfl g17 rfl (by omega) (fun h19 g19 w19 u19 => ?_)
  have F20 := F18.then rfl u19
  refine wi_return (nx := 54) (r1 := 0) (r2 := 0) (r3 := 0) rfl rfl ?_
  have e21 : h19 11 0 = 0 := ((u19 11 0 rfl).trans ((u17 11 0 rfl).trans ((u15 11 0 rfl).trans ((u13 11 0 rfl).trans ((u11 11 0 rfl).trans ((u9 11 0 rfl).trans ((u7 11 0 rfl).trans ((u5 11 0 rfl).trans ((u3 11 0 rfl).trans w1)))))))))
  have e22 : h19 11 1 = 0 := ((u19 11 1 rfl).trans ((u17 11 1 rfl).trans ((u15 11 1 rfl).trans ((u13 11 1 rfl).trans ((u11 11 1 rfl).trans ((u9 11 1 rfl).trans ((u7 11 1 rfl).trans ((u5 11 1 rfl).trans w3))))))))
  have e23 : h19 11 2 = 0 := ((u19 11 2 rfl).trans ((u17 11 2 rfl).trans ((u15 11 2 rfl).trans ((u13 11 2 rfl).trans ((u11 11 2 rfl).trans ((u9 11 2 rfl).trans ((u7 11 2 rfl).trans w5)))))))
  have e24 : h19 11 3 = 11 := ((u19 11 3 rfl).trans ((u17 11 3 rfl).trans ((u15 11 3 rfl).trans ((u13 11 3 rfl).trans ((u11 11 3 rfl).trans ((u9 11 3 rfl).trans w7))))))
  have e25 : h19 11 4 = 11 := ((u19 11 4 rfl).trans ((u17 11 4 rfl).trans ((u15 11 4 rfl).trans ((u13 11 4 rfl).trans ((u11 11 4 rfl).trans w9)))))
  have e26 : h19 11 5 = 9 := ((u19 11 5 rfl).trans ((u17 11 5 rfl).trans ((u15 11 5 rfl).trans ((u13 11 5 rfl).trans w11))))
  have e27 : h19 11 6 = 0 := ((u19 11 6 rfl).trans ((u17 11 6 rfl).trans ((u15 11 6 rfl).trans w13)))
  have e28 : h19 11 7 = 1 := ((u19 11 7 rfl).trans ((u17 11 7 rfl).trans w15))
  have e29 : h19 11 8 = 3 := ((u19 11 8 rfl).trans w17)
  have e30 : h19 11 9 = 2 := w19
  exact k h19 g19 F20 (show (h19 11 0) = 0 by omega) (show (h19 11 1) = 0 by omega) (show (h19 11 2) = 0 by omega) (show (h19 11 3) = 11 by omega) (show (h19 11 4) = 11 by omega) (show (h19 11 5) = 9 by omega) (show (h19 11 6) = 0 by omega) (show (h19 11 7) = 1 by omega) (show (h19 11 8) = 3 by omega) (show (h19 11 9) = 2 by omega)
-- method 93: Text.rewind()V
set_option maxRecDepth 100000 in
set_option maxHeartbeats 100000000 in
theorem ct_93_1 {L : Nat} {xs : Nat → Int32} {d b c : Nat} {h : hp} {cr : Nat → Nat → Option Nat} {Q : hp_Q} (hcr : CR cr)  (g : GI h)    (k : ∀ (h2 : hp) , GI h2 → FR [(1, 1, some (2, 2)), (1, 1, some (3, 3)), (1, 1, some (4, 4))] h h2 → (h2 1 4 = 0) → (h2 1 2 = 0) → (h2 1 3 = -1) → Q (.inl none) (hp_w h2 cr) b c) : wp (md_xa (L, xs)) d 93 (0, [(0, .ref 1)], [], hp_w h cr, b, c) Q := by
  have F0 : FR [(1, 1, some (2, 2)), (1, 1, some (3, 3)), (1, 1, some (4, 4))] h h := FR.refl
  refine wi_aload_n (i := 0) (x := 1) (nx := 1) (r1 := 0) (r2 := 0) (r3 := 0) rfl rfl ?_
  refine wi_iconst (n := 0) (nx := 2) (r1 := 0) (r2 := 0) (r3 := 0) rfl ?_
  refine wr_pf0 (k0 := 1) (x := 0) (bl := 0) (bh := 800) (nx := 5) (r1 := 1) (r2 := 4) (r3 := 0) rfl (by decide) rfl ⟨rfl, rfl⟩ rfl rfl g rfl (by omega) (fun h1 g1 w1 u1 => ?_)
  have F2 := F0.then rfl u1
  refine wi_aload_n (i := 0) (x := 1) (nx := 6) (r1 := 0) (r2 := 0) (r3 := 0) rfl rfl ?_
  refine wi_iconst (n := 0) (nx := 7) (r1 := 0) (r2 := 0) (r3 := 0) rfl ?_
  refine wr_pf0 (k0 := 1) (x := 0) (bl := -2147483648) (bh := 2147483647) (nx := 10) (r1 := 1) (r2 := 2) (r3 := 0) rfl (by decide) rfl ⟨rfl, rfl⟩ rfl rfl g1 rfl (by omega) (fun h3 g3 w3 u3 => ?_)
  have F4 := F2.then rfl u3
  refine wi_aload_n (i := 0) (x := 1) (nx := 11) (r1 := 0) (r2 := 0) (r3 := 0) rfl rfl ?_
  refine wi_iconst (n := (-1)) (nx := 12) (r1 := 0) (r2 := 0) (r3 := 0) rfl ?_
  refine wr_pf0 (k0 := 1) (x := -1) (bl := -2147483648) (bh := 2147483647) (nx := 15) (r1 := 1) (r2 := 3) (r3 := 0) rfl (by decide) rfl ⟨rfl, rfl⟩ rfl rfl g3 rfl (by omega) (fun h5 g5 w5 u5 => ?_)
  have F6 := F4.then rfl u5
  refine wi_return (nx := 16) (r1 := 0) (r2 := 0) (r3 := 0) rfl rfl ?_
  have e7 : h5 1 4 = 0 := ((u5 1 4 rfl).trans ((u3 1 4 rfl).trans w1))
  have e8 : h5 1 2 = 0 := ((u5 1 2 rfl).trans w3)
  have e9 : h5 1 3 = -1 := w5
  exact k h5 g5 F6 (show (h5 1 4) = 0 by omega) (show (h5 1 2) = 0 by omega) (show (h5 1 3) = -1 by omega)
-- method 99: Text.readNumber()V
set_option maxRecDepth 100000 in
set_option maxHeartbeats 100000000 in
theorem ct_99_1 {L : Nat} {xs : Nat → Int32} {d b c : Nat} {h : hp} {cr : Nat → Nat → Option Nat} {Q : hp_Q} (hcr : CR cr)  {tB : Nat → Int} {tn ts : Int} (g : GI h)   (pp0 : h 1 4 = ts) (pp1 : h 1 6 = ts) (pp2 : 0 ≤ ts) (pp3 : ts ≤ tn) (xq0 : BufC tB tn h) (k : ∀ (h2 : hp) , GI h2 → FR [(1, 1, some (4, 4)), (1, 1, some (5, 5)), (1, 1, some (7, 7))] h h2 → (h2 1 4 = tk_de tB tn ts) → ((3 < tk_de tB tn ts - ts ∧ h2 1 5 = 6) ∨ (tk_de tB tn ts - ts ≤ 3 ∧ h2 1 5 = 2 ∧ h2 1 7 = tk_nu tB tn ts 0)) → Q (.inl none) (hp_w h2 cr) b c) : wp (md_xa (L, xs)) (d + 1) 99 (0, [(0, .ref 1)], [], hp_w h cr, b, c) Q := by
  have F0 : FR [(1, 1, some (4, 4)), (1, 1, some (5, 5)), (1, 1, some (7, 7))] h h := FR.refl
  have tb_1 : h 1 1 = tn := xq0.2.1
  have tb_2 : 0 ≤ tn ∧ tn ≤ 800 := xq0.2.2
  have b1 := gi_b (lo := 0) (hi := 800) g 1 4 rfl
  have b2 := gi_b (lo := 0) (hi := 800) g 1 6 rfl
  refine wi_aload_n (i := 0) (x := 1) (nx := 1) (r1 := 0) (r2 := 0) (r3 := 0) rfl rfl ?_
  refine wi_iconst (n := 0) (nx := 2) (r1 := 0) (r2 := 0) (r3 := 0) rfl ?_
  refine wr_pf0 (k0 := 1) (x := 0) (bl := -2147483648) (bh := 2147483647) (nx := 5) (r1 := 1) (r2 := 7) (r3 := 0) rfl (by decide) rfl ⟨rfl, rfl⟩ rfl rfl g rfl (by omega) (fun h3 g3 w3 u3 => ?_)
  have F4 := F0.then rfl u3
  have e6 : h3 1 4 = h 1 4 := (u3 1 4 rfl)
  have e7 : h3 1 7 = 0 := w3
  have b8 := gi_b (lo := 0) (hi := 800) g 1 1 rfl
  have e9 : h3 1 1 = h 1 1 := (u3 1 1 rfl)
  refine wl_0 (fun h5 => GI h5 ∧ FR [(1, 1, some (4, 4)), (1, 1, some (5, 5)), (1, 1, some (7, 7))] h h5 ∧ FR [(1, 1, some (4, 4)), (1, 1, some (7, 7))] h3 h5 ∧ (((h5 1 4) ≤ (h5 1 1))) ∧ tk_I tk_dg tB 10 48 3 1 tn ts (h5 1 4) (h5 1 7)) (fun h5 => ((h5 1 1) - (h5 1 4)).toNat) (fun h5 => (5, [(0, .ref 1)], [], hp_w h5 cr, b, c)) ?_ h3 ⟨g3, F4, FR.refl, (show ((h3 1 4) ≤ (h3 1 1)) by omega), (tk_I0 (by omega) (by omega) (show h3 1 4 = ts by omega) (show h3 1 7 = 0 by omega))⟩
  intro h5 ⟨g5, F10, u5, f5, X5_0⟩ I5
  have e11 : h5 1 1 = h 1 1 := ((u5 1 1 rfl).trans (u3 1 1 rfl))
  have b12 := gi_b (lo := 0) (hi := 800) g5 1 4 rfl
  refine wi_aload_n (i := 0) (x := 1) (nx := 6) (r1 := 0) (r2 := 0) (r3 := 0) rfl rfl ?_
  refine wr_gi0 (k0 := 1) (x := h5 1 4) (nx := 9) (r1 := 1) (r2 := 4) (r3 := 0) rfl rfl (by decide) rfl ⟨rfl, rfl⟩ rfl rfl ?_
  refine wi_aload_n (i := 0) (x := 1) (nx := 10) (r1 := 0) (r2 := 0) (r3 := 0) rfl rfl ?_
  refine wr_gi0 (k0 := 1) (x := h 1 1) (nx := 13) (r1 := 1) (r2 := 1) (r3 := 0) rfl rfl (by decide) rfl ⟨rfl, rfl⟩ rfl ((u5 1 1 rfl).trans (u3 1 1 rfl)) ?_
  refine wi_icmp (cd := .ge) (nx := 16) (r1 := 68) (r2 := 0) (r3 := 0) rfl (by omega) (by omega) (fun (q13 : (h 1 1) ≤ (h5 1 4)) => ?_) (fun (q13 : ¬ ((h 1 1) ≤ (h5 1 4))) => ?_)
  ·
    have tI14 : tk_de tB tn ts = h5 1 4 ∧ (h5 1 4 - ts ≤ 3 → tk_nu tB tn ts 0 = h5 1 7) := tk_Ie X5_0 (Or.inl (by omega))
    refine wi_aload_n (i := 0) (x := 1) (nx := 69) (r1 := 0) (r2 := 0) (r3 := 0) rfl rfl ?_
    refine wi_aload_n (i := 0) (x := 1) (nx := 70) (r1 := 0) (r2 := 0) (r3 := 0) rfl rfl ?_
    refine wr_gi0 (k0 := 1) (x := h5 1 4) (nx := 73) (r1 := 1) (r2 := 4) (r3 := 0) rfl rfl (by decide) rfl ⟨rfl, rfl⟩ rfl rfl ?_
    refine wi_aload_n (i := 0) (x := 1) (nx := 74) (r1 := 0) (r2 := 0) (r3 := 0) rfl rfl ?_
    refine wr_gi0 (k0 := 1) (x := h 1 6) (nx := 77) (r1 := 1) (r2 := 6) (r3 := 0) rfl rfl (by decide) rfl ⟨rfl, rfl⟩ rfl ((u5 1 6 rfl).trans (u3 1 6 rfl)) ?_
    refine wr_sub (nx := 78) (r1 := 0) (r2 := 0) (r3 := 0) rfl (fun e15 (fe15 : e15 = (h5 1 4) - (h 1 6)) => ?_)
    refine wi_iconst (n := 3) (nx := 79) (r1 := 0) (r2 := 0) (r3 := 0) rfl ?_
    refine wi_icmp (cd := .gt) (nx := 82) (r1 := 86) (r2 := 0) (r3 := 0) rfl (by omega) (by omega) (fun (q16 : 3 < e15) => ?_) (fun (q16 : ¬ (3 < e15)) => ?_)
    ·
      refine wi_bipush (n := 6) (nx := 88) (r1 := 0) (r2 := 0) (r3 := 0) rfl (by decide) ?_
      refine wr_pf0 (k0 := 1) (x := 6) (bl := 0) (bh := 6) (nx := 91) (r1 := 1) (r2 := 5) (r3 := 0) rfl (by decide) rfl ⟨rfl, rfl⟩ rfl rfl g5 rfl (by omega) (fun h17 g17 w17 u17 => ?_)
      have F18 := F10.then rfl u17
      refine wi_return (nx := 92) (r1 := 0) (r2 := 0) (r3 := 0) rfl rfl ?_
      have e19 : h17 1 4 = h5 1 4 := (u17 1 4 rfl)
      have e20 : h17 1 5 = 6 := w17
      have b21 := gi_b (lo := -2147483648) (hi := 2147483647) g5 1 7 rfl
      have e22 : h17 1 7 = h5 1 7 := (u17 1 7 rfl)
      exact k h17 g17 F18 (show (h17 1 4) = tk_de tB tn ts by omega) (show (3 < tk_de tB tn ts - ts ∧ (h17 1 5) = 6) ∨ (tk_de tB tn ts - ts ≤ 3 ∧ (h17 1 5) = 2 ∧ (h17 1 7) = tk_nu tB tn ts 0) by omega)
    ·
      refine wi_iconst (n := 2) (nx := 83) (r1 := 0) (r2 := 0) (r3 := 0) rfl ?_
      refine wi_goto (nx := 86) (r1 := 88) (r2 := 0) (r3 := 0) rfl ?_
      refine wr_pf0 (k0 := 1) (x := 2) (bl := 0) (bh := 6) (nx := 91) (r1 := 1) (r2 := 5) (r3 := 0) rfl (by decide) rfl ⟨rfl, rfl⟩ rfl rfl g5 rfl (by omega) (fun h17 g17 w17 u17 => ?_)
      have F18 := F10.then rfl u17
      refine wi_return (nx := 92) (r1 := 0) (r2 := 0) (r3 := 0) rfl rfl ?_
      have e19 : h17 1 4 = h5 1 4 := (u17 1 4 rfl)
      have e20 : h17 1 5 = 2 := w17
      have b21 := gi_b (lo := -2147483648) (hi := 2147483647) g5 1 7 rfl
      have e22 : h17 1 7 = h5 1 7 := (u17 1 7 rfl)
      exact k h17 g17 F18 (show (h17 1 4) = tk_de tB tn ts by omega) (show (3 < tk_de tB tn ts - ts ∧ (h17 1 5) = 6) ∨ (tk_de tB tn ts - ts ≤ 3 ∧ (h17 1 5) = 2 ∧ (h17 1 7) = tk_nu tB tn ts 0) by omega)
  ·
    refine wi_aload_n (i := 0) (x := 1) (nx := 17) (r1 := 0) (r2 := 0) (r3 := 0) rfl rfl ?_
    refine wr_gr (k0 := 1) (x := 2) (nx := 20) (r1 := 1) (r2 := 0) (r3 := 0) rfl rfl (by decide) rfl ⟨rfl, rfl⟩ rfl ?_
    refine wi_aload_n (i := 0) (x := 1) (nx := 21) (r1 := 0) (r2 := 0) (r3 := 0) rfl rfl ?_
    refine wr_gi0 (k0 := 1) (x := h5 1 4) (nx := 24) (r1 := 1) (r2 := 4) (r3 := 0) rfl rfl (by decide) rfl ⟨rfl, rfl⟩ rfl rfl ?_
    obtain ⟨i14, ei14⟩ : ∃ q : Nat, (h5 1 4) = (q : Int) := ⟨(h5 1 4).toNat, by omega⟩
    have b15 := gi_b (lo := -128) (hi := 127) g 2 i14 rfl
    have ty16 : tB i14 = h 2 i14 := (xq0.1 i14).symm
    refine wr_ba (k0 := 2) (a := h5 1 4) (f := i14) (x := h 2 i14) (nx := 25) (r1 := 0) (r2 := 0) (r3 := 0) rfl (by decide) rfl (by decide) (by omega) (by omega) (by decide) ((u5 2 i14 (fn_a (by omega) (fn_a (by omega) fn_0))).trans (u3 2 i14 (fn_a (by omega) fn_0))) ?_
    refine wi_S (rest := []) (as := [vi (h 2 i14)]) (nx := 28) (r1 := 98) (r2 := 17) (r3 := 0) rfl rfl rfl (of_decide_eq_true rfl) rfl rfl (of_decide_eq_true rfl) (of_decide_eq_true rfl) ?_
    refine wi_iload_n (i := 0) (e := h 2 i14) (nx := 1) (r1 := 0) (r2 := 0) (r3 := 0) rfl rfl ?_
    refine wi_bipush (n := 48) (nx := 3) (r1 := 0) (r2 := 0) (r3 := 0) rfl (by decide) ?_
    refine wi_icmp (cd := .lt) (nx := 6) (r1 := 16) (r2 := 0) (r3 := 0) rfl (by omega) (by omega) (fun (q17 : (h 2 i14) < 48) => ?_) (fun (q17 : ¬ ((h 2 i14) < 48)) => ?_)
    ·
      refine wi_iconst (n := 0) (nx := 17) (r1 := 0) (r2 := 0) (r3 := 0) rfl ?_
      refine wi_zreturn (nx := 18) (r1 := 0) (r2 := 0) (r3 := 0) rfl rfl (by omega) ?_
      refine wk_i ?_
      refine wi_if (cd := .eq) (nx := 31) (r1 := 68) (r2 := 0) (r3 := 0) rfl (by omega) (fun (q18 : 0 = 0) => ?_) (fun (q18 : ¬ (0 = 0)) => by exfalso; omega)
      have tI19 : tk_de tB tn ts = h5 1 4 ∧ (h5 1 4 - ts ≤ 3 → tk_nu tB tn ts 0 = h5 1 7) := tk_Ie2 X5_0 ei14 ty16 (tk_dg_f (by omega))
      refine wi_aload_n (i := 0) (x := 1) (nx := 69) (r1 := 0) (r2 := 0) (r3 := 0) rfl rfl ?_
      refine wi_aload_n (i := 0) (x := 1) (nx := 70) (r1 := 0) (r2 := 0) (r3 := 0) rfl rfl ?_
      refine wr_gi0 (k0 := 1) (x := h5 1 4) (nx := 73) (r1 := 1) (r2 := 4) (r3 := 0) rfl rfl (by decide) rfl ⟨rfl, rfl⟩ rfl rfl ?_
      refine wi_aload_n (i := 0) (x := 1) (nx := 74) (r1 := 0) (r2 := 0) (r3 := 0) rfl rfl ?_
      refine wr_gi0 (k0 := 1) (x := h 1 6) (nx := 77) (r1 := 1) (r2 := 6) (r3 := 0) rfl rfl (by decide) rfl ⟨rfl, rfl⟩ rfl ((u5 1 6 rfl).trans (u3 1 6 rfl)) ?_
      refine wr_sub (nx := 78) (r1 := 0) (r2 := 0) (r3 := 0) rfl (fun e20 (fe20 : e20 = (h5 1 4) - (h 1 6)) => ?_)
      refine wi_iconst (n := 3) (nx := 79) (r1 := 0) (r2 := 0) (r3 := 0) rfl ?_
      refine wi_icmp (cd := .gt) (nx := 82) (r1 := 86) (r2 := 0) (r3 := 0) rfl (by omega) (by omega) (fun (q21 : 3 < e20) => ?_) (fun (q21 : ¬ (3 < e20)) => ?_)
      ·
        refine wi_bipush (n := 6) (nx := 88) (r1 := 0) (r2 := 0) (r3 := 0) rfl (by decide) ?_
        refine wr_pf0 (k0 := 1) (x := 6) (bl := 0) (bh := 6) (nx := 91) (r1 := 1) (r2 := 5) (r3 := 0) rfl (by decide) rfl ⟨rfl, rfl⟩ rfl rfl g5 rfl (by omega) (fun h22 g22 w22 u22 => ?_)
        have F23 := F10.then rfl u22
        refine wi_return (nx := 92) (r1 := 0) (r2 := 0) (r3 := 0) rfl rfl ?_
        have e24 : h22 1 4 = h5 1 4 := (u22 1 4 rfl)
        have e25 : h22 1 5 = 6 := w22
        have b26 := gi_b (lo := -2147483648) (hi := 2147483647) g5 1 7 rfl
        have e27 : h22 1 7 = h5 1 7 := (u22 1 7 rfl)
        exact k h22 g22 F23 (show (h22 1 4) = tk_de tB tn ts by omega) (show (3 < tk_de tB tn ts - ts ∧ (h22 1 5) = 6) ∨ (tk_de tB tn ts - ts ≤ 3 ∧ (h22 1 5) = 2 ∧ (h22 1 7) = tk_nu tB tn ts 0) by omega)
      ·
        refine wi_iconst (n := 2) (nx := 83) (r1 := 0) (r2 := 0) (r3 := 0) rfl ?_
        refine wi_goto (nx := 86) (r1 := 88) (r2 := 0) (r3 := 0) rfl ?_
        refine wr_pf0 (k0 := 1) (x := 2) (bl := 0) (bh := 6) (nx := 91) (r1 := 1) (r2 := 5) (r3 := 0) rfl (by decide) rfl ⟨rfl, rfl⟩ rfl rfl g5 rfl (by omega) (fun h22 g22 w22 u22 => ?_)
        have F23 := F10.then rfl u22
        refine wi_return (nx := 92) (r1 := 0) (r2 := 0) (r3 := 0) rfl rfl ?_
        have e24 : h22 1 4 = h5 1 4 := (u22 1 4 rfl)
        have e25 : h22 1 5 = 2 := w22
        have b26 := gi_b (lo := -2147483648) (hi := 2147483647) g5 1 7 rfl
        have e27 : h22 1 7 = h5 1 7 := (u22 1 7 rfl)
        exact k h22 g22 F23 (show (h22 1 4) = tk_de tB tn ts by omega) (show (3 < tk_de tB tn ts - ts ∧ (h22 1 5) = 6) ∨ (tk_de tB tn ts - ts ≤ 3 ∧ (h22 1 5) = 2 ∧ (h22 1 7) = tk_nu tB tn ts 0) by omega)
    ·
      refine wi_iload_n (i := 0) (e := h 2 i14) (nx := 7) (r1 := 0) (r2 := 0) (r3 := 0) rfl rfl ?_
      refine wi_bipush (n := 57) (nx := 9) (r1 := 0) (r2 := 0) (r3 := 0) rfl (by decide) ?_
      refine wi_icmp (cd := .gt) (nx := 12) (r1 := 16) (r2 := 0) (r3 := 0) rfl (by omega) (by omega) (fun (q18 : 57 < (h 2 i14)) => ?_) (fun (q18 : ¬ (57 < (h 2 i14))) => ?_)
      ·
        refine wi_iconst (n := 0) (nx := 17) (r1 := 0) (r2 := 0) (r3 := 0) rfl ?_
        refine wi_zreturn (nx := 18) (r1 := 0) (r2 := 0) (r3 := 0) rfl rfl (by omega) ?_
        refine wk_i ?_
        refine wi_if (cd := .eq) (nx := 31) (r1 := 68) (r2 := 0) (r3 := 0) rfl (by omega) (fun (q19 : 0 = 0) => ?_) (fun (q19 : ¬ (0 = 0)) => by exfalso; omega)
        have tI20 : tk_de tB tn ts = h5 1 4 ∧ (h5 1 4 - ts ≤ 3 → tk_nu tB tn ts 0 = h5 1 7) := tk_Ie2 X5_0 ei14 ty16 (tk_dg_f (by omega))
        refine wi_aload_n (i := 0) (x := 1) (nx := 69) (r1 := 0) (r2 := 0) (r3 := 0) rfl rfl ?_
        refine wi_aload_n (i := 0) (x := 1) (nx := 70) (r1 := 0) (r2 := 0) (r3 := 0) rfl rfl ?_
        refine wr_gi0 (k0 := 1) (x := h5 1 4) (nx := 73) (r1 := 1) (r2 := 4) (r3 := 0) rfl rfl (by decide) rfl ⟨rfl, rfl⟩ rfl rfl ?_
        refine wi_aload_n (i := 0) (x := 1) (nx := 74) (r1 := 0) (r2 := 0) (r3 := 0) rfl rfl ?_
        refine wr_gi0 (k0 := 1) (x := h 1 6) (nx := 77) (r1 := 1) (r2 := 6) (r3 := 0) rfl rfl (by decide) rfl ⟨rfl, rfl⟩ rfl ((u5 1 6 rfl).trans (u3 1 6 rfl)) ?_
        refine wr_sub (nx := 78) (r1 := 0) (r2 := 0) (r3 := 0) rfl (fun e21 (fe21 : e21 = (h5 1 4) - (h 1 6)) => ?_)
        refine wi_iconst (n := 3) (nx := 79) (r1 := 0) (r2 := 0) (r3 := 0) rfl ?_
        refine wi_icmp (cd := .gt) (nx := 82) (r1 := 86) (r2 := 0) (r3 := 0) rfl (by omega) (by omega) (fun (q22 : 3 < e21) => ?_) (fun (q22 : ¬ (3 < e21)) => ?_)
        ·
          refine wi_bipush (n := 6) (nx := 88) (r1 := 0) (r2 := 0) (r3 := 0) rfl (by decide) ?_
          refine wr_pf0 (k0 := 1) (x := 6) (bl := 0) (bh := 6) (nx := 91) (r1 := 1) (r2 := 5) (r3 := 0) rfl (by decide) rfl ⟨rfl, rfl⟩ rfl rfl g5 rfl (by omega) (fun h23 g23 w23 u23 => ?_)
          have F24 := F10.then rfl u23
          refine wi_return (nx := 92) (r1 := 0) (r2 := 0) (r3 := 0) rfl rfl ?_
          have e25 : h23 1 4 = h5 1 4 := (u23 1 4 rfl)
          have e26 : h23 1 5 = 6 := w23
          have b27 := gi_b (lo := -2147483648) (hi := 2147483647) g5 1 7 rfl
          have e28 : h23 1 7 = h5 1 7 := (u23 1 7 rfl)
          exact k h23 g23 F24 (show (h23 1 4) = tk_de tB tn ts by omega) (show (3 < tk_de tB tn ts - ts ∧ (h23 1 5) = 6) ∨ (tk_de tB tn ts - ts ≤ 3 ∧ (h23 1 5) = 2 ∧ (h23 1 7) = tk_nu tB tn ts 0) by omega)
        ·
          refine wi_iconst (n := 2) (nx := 83) (r1 := 0) (r2 := 0) (r3 := 0) rfl ?_
          refine wi_goto (nx := 86) (r1 := 88) (r2 := 0) (r3 := 0) rfl ?_
          refine wr_pf0 (k0 := 1) (x := 2) (bl := 0) (bh := 6) (nx := 91) (r1 := 1) (r2 := 5) (r3 := 0) rfl (by decide) rfl ⟨rfl, rfl⟩ rfl rfl g5 rfl (by omega) (fun h23 g23 w23 u23 => ?_)
          have F24 := F10.then rfl u23
          refine wi_return (nx := 92) (r1 := 0) (r2 := 0) (r3 := 0) rfl rfl ?_
          have e25 : h23 1 4 = h5 1 4 := (u23 1 4 rfl)
          have e26 : h23 1 5 = 2 := w23
          have b27 := gi_b (lo := -2147483648) (hi := 2147483647) g5 1 7 rfl
          have e28 : h23 1 7 = h5 1 7 := (u23 1 7 rfl)
          exact k h23 g23 F24 (show (h23 1 4) = tk_de tB tn ts by omega) (show (3 < tk_de tB tn ts - ts ∧ (h23 1 5) = 6) ∨ (tk_de tB tn ts - ts ≤ 3 ∧ (h23 1 5) = 2 ∧ (h23 1 7) = tk_nu tB tn ts 0) by omega)
      ·
        refine wi_iconst (n := 1) (nx := 13) (r1 := 0) (r2 := 0) (r3 := 0) rfl ?_
        refine wi_goto (nx := 16) (r1 := 17) (r2 := 0) (r3 := 0) rfl ?_
        refine wi_zreturn (nx := 18) (r1 := 0) (r2 := 0) (r3 := 0) rfl rfl (by omega) ?_
        refine wk_i ?_
        refine wi_if (cd := .eq) (nx := 31) (r1 := 68) (r2 := 0) (r3 := 0) rfl (by omega) (fun (q19 : 1 = 0) => by exfalso; omega) (fun (q19 : ¬ (1 = 0)) => ?_)
        refine wi_aload_n (i := 0) (x := 1) (nx := 32) (r1 := 0) (r2 := 0) (r3 := 0) rfl rfl ?_
        refine wi_aload_n (i := 0) (x := 1) (nx := 33) (r1 := 0) (r2 := 0) (r3 := 0) rfl rfl ?_
        have b20 := gi_b (lo := -2147483648) (hi := 2147483647) g5 1 7 rfl
        refine wr_gi0 (k0 := 1) (x := h5 1 7) (nx := 36) (r1 := 1) (r2 := 7) (r3 := 0) rfl rfl (by decide) rfl ⟨rfl, rfl⟩ rfl rfl ?_
        refine wi_bipush (n := 10) (nx := 38) (r1 := 0) (r2 := 0) (r3 := 0) rfl (by decide) ?_
        refine wr_mulV (nx := 39) (r1 := 0) (r2 := 0) (r3 := 0) rfl (fun e21 (fe21 : -2147483648 ≤ e21 ∧ e21 ≤ 2147483647) (ve21 : -2147483648 ≤ (h5 1 7) * 10 ∧ (h5 1 7) * 10 ≤ 2147483647 → e21 = (h5 1 7) * 10) => ?_)
        refine wi_aload_n (i := 0) (x := 1) (nx := 40) (r1 := 0) (r2 := 0) (r3 := 0) rfl rfl ?_
        refine wr_gr (k0 := 1) (x := 2) (nx := 43) (r1 := 1) (r2 := 0) (r3 := 0) rfl rfl (by decide) rfl ⟨rfl, rfl⟩ rfl ?_
        refine wi_aload_n (i := 0) (x := 1) (nx := 44) (r1 := 0) (r2 := 0) (r3 := 0) rfl rfl ?_
        refine wr_gi0 (k0 := 1) (x := h5 1 4) (nx := 47) (r1 := 1) (r2 := 4) (r3 := 0) rfl rfl (by decide) rfl ⟨rfl, rfl⟩ rfl rfl ?_
        refine wr_ba (k0 := 2) (a := h5 1 4) (f := i14) (x := h 2 i14) (nx := 48) (r1 := 0) (r2 := 0) (r3 := 0) rfl (by decide) rfl (by decide) (by omega) (by omega) (by decide) ((u5 2 i14 (fn_a (by omega) (fn_a (by omega) fn_0))).trans (u3 2 i14 (fn_a (by omega) fn_0))) ?_
        refine wi_bipush (n := 48) (nx := 50) (r1 := 0) (r2 := 0) (r3 := 0) rfl (by decide) ?_
        refine wr_sub (nx := 51) (r1 := 0) (r2 := 0) (r3 := 0) rfl (fun e22 (fe22 : e22 = (h 2 i14) - 48) => ?_)
        refine wr_addV (nx := 52) (r1 := 0) (r2 := 0) (r3 := 0) rfl (fun e23 (fe23 : -2147483648 ≤ e23 ∧ e23 ≤ 2147483647) (ve23 : -2147483648 ≤ e21 + e22 ∧ e21 + e22 ≤ 2147483647 → e23 = e21 + e22) => ?_)
        refine wr_pf0 (k0 := 1) (x := e23) (bl := -2147483648) (bh := 2147483647) (nx := 55) (r1 := 1) (r2 := 7) (r3 := 0) rfl (by decide) rfl ⟨rfl, rfl⟩ rfl rfl g5 rfl (by omega) (fun h24 g24 w24 u24 => ?_)
        have F25 := F10.then rfl u24
        have F26 := u5.then rfl u24
        refine wi_aload_n (i := 0) (x := 1) (nx := 56) (r1 := 0) (r2 := 0) (r3 := 0) rfl rfl ?_
        refine wi_dup (nx := 57) (r1 := 0) (r2 := 0) (r3 := 0) rfl rfl ?_
        refine wr_gi0 (k0 := 1) (x := h5 1 4) (nx := 60) (r1 := 1) (r2 := 4) (r3 := 0) rfl rfl (by decide) rfl ⟨rfl, rfl⟩ rfl (u24 1 4 rfl) ?_
        refine wi_iconst (n := 1) (nx := 61) (r1 := 0) (r2 := 0) (r3 := 0) rfl ?_
        refine wr_add (nx := 62) (r1 := 0) (r2 := 0) (r3 := 0) rfl (fun e27 (fe27 : e27 = (h5 1 4) + 1) => ?_)
        refine wr_pf0 (k0 := 1) (x := e27) (bl := 0) (bh := 800) (nx := 65) (r1 := 1) (r2 := 4) (r3 := 0) rfl (by decide) rfl ⟨rfl, rfl⟩ rfl rfl g24 rfl (by omega) (fun h28 g28 w28 u28 => ?_)
        have F29 := F25.then rfl u28
        have F30 := F26.then rfl u28
        refine wi_goto (nx := 68) (r1 := 5) (r2 := 0) (r3 := 0) rfl ?_
        have e31 : h28 1 4 = e27 := w28
        have e32 : h28 1 1 = h 1 1 := ((u28 1 1 rfl).trans ((u24 1 1 rfl).trans ((u5 1 1 rfl).trans (u3 1 1 rfl))))
        have e33 : h28 1 7 = e23 := ((u28 1 7 rfl).trans w24)
        exact I5 h28 ⟨g28, F29, F30, (show ((h28 1 4) ≤ (h28 1 1)) by omega), (tk_Is 100 2 (by decide) (by decide) (by decide) (by decide) X5_0 (by omega) (show h28 1 4 = h5 1 4 + 1 by omega) ei14 ty16 (tk_dg_t (by omega)) (by omega) (fun v0 v1 => by omega))⟩ (show ((h28 1 1) - (h28 1 4)).toNat < ((h5 1 1) - (h5 1 4)).toNat by omega)
-- method 90: Word.spelled(J)LPaintBank$Word;
set_option maxRecDepth 100000 in
set_option maxHeartbeats 100000000 in
theorem ct_90 {L : Nat} {xs : Nat → Int32} {d b c : Nat} {h : hp} {cr : Nat → Nat → Option Nat} {Q : hp_Q} (hcr : CR cr)  (g : GI h) (a0 : Int) (q0_ : -9223372036854775808 ≤ a0 ∧ a0 ≤ 9223372036854775807)  (k : ∀ (z0 : Int), (1 ≤ z0 ∧ z0 ≤ 21) → (z0 = tk_wd a0) → Q (.inl (some (wv z0))) (hp_w h cr) b c) : wp (md_xa (L, xs)) d 90 (0, [(0, vl a0)], [], hp_w h cr, b, c) Q := by
  have F0 : FR [] h h := FR.refl
  refine wi_iconst (n := 0) (nx := 1) (r1 := 0) (r2 := 0) (r3 := 0) rfl ?_
  refine wi_istore_n (i := 2) (e := 0) (lo2 := [(2, vi 0), (0, vl a0)]) (nx := 2) (r1 := 0) (r2 := 0) (r3 := 0) rfl rfl ?_
  refine wi_iload_n (i := 2) (e := 0) (nx := 3) (r1 := 0) (r2 := 0) (r3 := 0) rfl rfl ?_
  refine wr_gst (v := .ref 1000022) (nx := 6) (r1 := 21) (r2 := 0) (r3 := 0) rfl rfl rfl ?_
  refine wr_xl (k0 := 1000022) (e := 21) (nx := 7) (r1 := 0) (r2 := 0) (r3 := 0) rfl (by decide) rfl rfl ?_
  refine wi_icmp (cd := .ge) (nx := 10) (r1 := 35) (r2 := 0) (r3 := 0) rfl (by omega) (by omega) (fun (q1 : 21 ≤ 0) => by exfalso; omega) (fun (q1 : ¬ (21 ≤ 0)) => ?_)
  refine wr_gst (v := .ref 1000022) (nx := 13) (r1 := 21) (r2 := 0) (r3 := 0) rfl rfl rfl ?_
  refine wi_iload_n (i := 2) (e := 0) (nx := 14) (r1 := 0) (r2 := 0) (r3 := 0) rfl rfl ?_
  refine wr_xa (k0 := 1000022) (a := 0) (f := 0) (v := wv 1) .aaload (Or.inr (Or.inr ⟨rfl, by decide⟩)) (nx := 15) (r1 := 0) (r2 := 0) (r3 := 0) rfl (by decide) rfl rfl (by decide) (by decide) rfl ?_
  refine wr_gx (k0 := mm_XB + (1 : Int).toNat) (v := vl 427071139698) (nx := 18) (r1 := 0) (r2 := 0) (r3 := 1) rfl (by decide) (by decide) rfl ?_
  refine wi_lload_n (i := 0) (e := a0) (nx := 19) (r1 := 0) (r2 := 0) (r3 := 0) rfl rfl ?_
  refine wi_lcmp (a := 427071139698) (e := a0) (nx := 20) (r1 := 0) (r2 := 0) (r3 := 0) rfl (by omega) (by omega) (fun r2 (fr2 : (r2 = -1 ∧ 427071139698 < a0) ∨ (r2 = 0 ∧ 427071139698 = a0) ∨ (r2 = 1 ∧ a0 < 427071139698)) => ?_)
  refine wi_if (cd := .ne) (nx := 23) (r1 := 29) (r2 := 0) (r3 := 0) rfl (by omega) (fun (q3 : r2 ≠ 0) => ?_) (fun (q3 : ¬ (r2 ≠ 0)) => ?_)
  ·
    refine wr_iincL (i := 2) (n := 1) (v := 0) (1) ([(2, vi 1), (0, vl a0)]) (nx := 32) (r1 := 0) (r2 := 0) (r3 := 0) rfl rfl (by decide) rfl ?_
    refine wi_goto (nx := 35) (r1 := 2) (r2 := 0) (r3 := 0) rfl ?_
    refine wi_iload_n (i := 2) (e := 1) (nx := 3) (r1 := 0) (r2 := 0) (r3 := 0) rfl rfl ?_
    refine wr_gst (v := .ref 1000022) (nx := 6) (r1 := 21) (r2 := 0) (r3 := 0) rfl rfl rfl ?_
    refine wr_xl (k0 := 1000022) (e := 21) (nx := 7) (r1 := 0) (r2 := 0) (r3 := 0) rfl (by decide) rfl rfl ?_
    refine wi_icmp (cd := .ge) (nx := 10) (r1 := 35) (r2 := 0) (r3 := 0) rfl (by omega) (by omega) (fun (q4 : 21 ≤ 1) => by exfalso; omega) (fun (q4 : ¬ (21 ≤ 1)) => ?_)
    refine wr_gst (v := .ref 1000022) (nx := 13) (r1 := 21) (r2 := 0) (r3 := 0) rfl rfl rfl ?_
    refine wi_iload_n (i := 2) (e := 1) (nx := 14) (r1 := 0) (r2 := 0) (r3 := 0) rfl rfl ?_
    refine wr_xa (k0 := 1000022) (a := 1) (f := 1) (v := wv 2) .aaload (Or.inr (Or.inr ⟨rfl, by decide⟩)) (nx := 15) (r1 := 0) (r2 := 0) (r3 := 0) rfl (by decide) rfl rfl (by decide) (by decide) rfl ?_
    refine wr_gx (k0 := mm_XB + (2 : Int).toNat) (v := vl 109299962373989) (nx := 18) (r1 := 0) (r2 := 0) (r3 := 1) rfl (by decide) (by decide) rfl ?_
    refine wi_lload_n (i := 0) (e := a0) (nx := 19) (r1 := 0) (r2 := 0) (r3 := 0) rfl rfl ?_
    refine wi_lcmp (a := 109299962373989) (e := a0) (nx := 20) (r1 := 0) (r2 := 0) (r3 := 0) rfl (by omega) (by omega) (fun r5 (fr5 : (r5 = -1 ∧ 109299962373989 < a0) ∨ (r5 = 0 ∧ 109299962373989 = a0) ∨ (r5 = 1 ∧ a0 < 109299962373989)) => ?_)
    refine wi_if (cd := .ne) (nx := 23) (r1 := 29) (r2 := 0) (r3 := 0) rfl (by omega) (fun (q6 : r5 ≠ 0) => ?_) (fun (q6 : ¬ (r5 ≠ 0)) => ?_)
    ·
      refine wr_iincL (i := 2) (n := 1) (v := 1) (2) ([(2, vi 2), (0, vl a0)]) (nx := 32) (r1 := 0) (r2 := 0) (r3 := 0) rfl rfl (by decide) rfl ?_
      refine wi_goto (nx := 35) (r1 := 2) (r2 := 0) (r3 := 0) rfl ?_
      refine wi_iload_n (i := 2) (e := 2) (nx := 3) (r1 := 0) (r2 := 0) (r3 := 0) rfl rfl ?_
      refine wr_gst (v := .ref 1000022) (nx := 6) (r1 := 21) (r2 := 0) (r3 := 0) rfl rfl rfl ?_
      refine wr_xl (k0 := 1000022) (e := 21) (nx := 7) (r1 := 0) (r2 := 0) (r3 := 0) rfl (by decide) rfl rfl ?_
      refine wi_icmp (cd := .ge) (nx := 10) (r1 := 35) (r2 := 0) (r3 := 0) rfl (by omega) (by omega) (fun (q7 : 21 ≤ 2) => by exfalso; omega) (fun (q7 : ¬ (21 ≤ 2)) => ?_)
      refine wr_gst (v := .ref 1000022) (nx := 13) (r1 := 21) (r2 := 0) (r3 := 0) rfl rfl rfl ?_
      refine wi_iload_n (i := 2) (e := 2) (nx := 14) (r1 := 0) (r2 := 0) (r3 := 0) rfl rfl ?_
      refine wr_xa (k0 := 1000022) (a := 2) (f := 2) (v := wv 3) .aaload (Or.inr (Or.inr ⟨rfl, by decide⟩)) (nx := 15) (r1 := 0) (r2 := 0) (r3 := 0) rfl (by decide) rfl rfl (by decide) (by decide) rfl ?_
      refine wr_gx (k0 := mm_XB + (3 : Int).toNat) (v := vl 1818324581) (nx := 18) (r1 := 0) (r2 := 0) (r3 := 1) rfl (by decide) (by decide) rfl ?_
      refine wi_lload_n (i := 0) (e := a0) (nx := 19) (r1 := 0) (r2 := 0) (r3 := 0) rfl rfl ?_
      refine wi_lcmp (a := 1818324581) (e := a0) (nx := 20) (r1 := 0) (r2 := 0) (r3 := 0) rfl (by omega) (by omega) (fun r8 (fr8 : (r8 = -1 ∧ 1818324581 < a0) ∨ (r8 = 0 ∧ 1818324581 = a0) ∨ (r8 = 1 ∧ a0 < 1818324581)) => ?_)
      refine wi_if (cd := .ne) (nx := 23) (r1 := 29) (r2 := 0) (r3 := 0) rfl (by omega) (fun (q9 : r8 ≠ 0) => ?_) (fun (q9 : ¬ (r8 ≠ 0)) => ?_)
      ·
        refine wr_iincL (i := 2) (n := 1) (v := 2) (3) ([(2, vi 3), (0, vl a0)]) (nx := 32) (r1 := 0) (r2 := 0) (r3 := 0) rfl rfl (by decide) rfl ?_
        refine wi_goto (nx := 35) (r1 := 2) (r2 := 0) (r3 := 0) rfl ?_
        refine wi_iload_n (i := 2) (e := 3) (nx := 3) (r1 := 0) (r2 := 0) (r3 := 0) rfl rfl ?_
        refine wr_gst (v := .ref 1000022) (nx := 6) (r1 := 21) (r2 := 0) (r3 := 0) rfl rfl rfl ?_
        refine wr_xl (k0 := 1000022) (e := 21) (nx := 7) (r1 := 0) (r2 := 0) (r3 := 0) rfl (by decide) rfl rfl ?_
        refine wi_icmp (cd := .ge) (nx := 10) (r1 := 35) (r2 := 0) (r3 := 0) rfl (by omega) (by omega) (fun (q10 : 21 ≤ 3) => by exfalso; omega) (fun (q10 : ¬ (21 ≤ 3)) => ?_)
        refine wr_gst (v := .ref 1000022) (nx := 13) (r1 := 21) (r2 := 0) (r3 := 0) rfl rfl rfl ?_
        refine wi_iload_n (i := 2) (e := 3) (nx := 14) (r1 := 0) (r2 := 0) (r3 := 0) rfl rfl ?_
        refine wr_xa (k0 := 1000022) (a := 3) (f := 3) (v := wv 4) .aaload (Or.inr (Or.inr ⟨rfl, by decide⟩)) (nx := 15) (r1 := 0) (r2 := 0) (r3 := 0) rfl (by decide) rfl rfl (by decide) (by decide) rfl ?_
        refine wr_gx (k0 := mm_XB + (4 : Int).toNat) (v := vl 6513010) (nx := 18) (r1 := 0) (r2 := 0) (r3 := 1) rfl (by decide) (by decide) rfl ?_
        refine wi_lload_n (i := 0) (e := a0) (nx := 19) (r1 := 0) (r2 := 0) (r3 := 0) rfl rfl ?_
        refine wi_lcmp (a := 6513010) (e := a0) (nx := 20) (r1 := 0) (r2 := 0) (r3 := 0) rfl (by omega) (by omega) (fun r11 (fr11 : (r11 = -1 ∧ 6513010 < a0) ∨ (r11 = 0 ∧ 6513010 = a0) ∨ (r11 = 1 ∧ a0 < 6513010)) => ?_)
        refine wi_if (cd := .ne) (nx := 23) (r1 := 29) (r2 := 0) (r3 := 0) rfl (by omega) (fun (q12 : r11 ≠ 0) => ?_) (fun (q12 : ¬ (r11 ≠ 0)) => ?_)
        ·
          refine wr_iincL (i := 2) (n := 1) (v := 3) (4) ([(2, vi 4), (0, vl a0)]) (nx := 32) (r1 := 0) (r2 := 0) (r3 := 0) rfl rfl (by decide) rfl ?_
          refine wi_goto (nx := 35) (r1 := 2) (r2 := 0) (r3 := 0) rfl ?_
          refine wi_iload_n (i := 2) (e := 4) (nx := 3) (r1 := 0) (r2 := 0) (r3 := 0) rfl rfl ?_
          refine wr_gst (v := .ref 1000022) (nx := 6) (r1 := 21) (r2 := 0) (r3 := 0) rfl rfl rfl ?_
          refine wr_xl (k0 := 1000022) (e := 21) (nx := 7) (r1 := 0) (r2 := 0) (r3 := 0) rfl (by decide) rfl rfl ?_
          refine wi_icmp (cd := .ge) (nx := 10) (r1 := 35) (r2 := 0) (r3 := 0) rfl (by omega) (by omega) (fun (q13 : 21 ≤ 4) => by exfalso; omega) (fun (q13 : ¬ (21 ≤ 4)) => ?_)
          refine wr_gst (v := .ref 1000022) (nx := 13) (r1 := 21) (r2 := 0) (r3 := 0) rfl rfl rfl ?_
          refine wi_iload_n (i := 2) (e := 4) (nx := 14) (r1 := 0) (r2 := 0) (r3 := 0) rfl rfl ?_
          refine wr_xa (k0 := 1000022) (a := 4) (f := 4) (v := wv 5) .aaload (Or.inr (Or.inr ⟨rfl, by decide⟩)) (nx := 15) (r1 := 0) (r2 := 0) (r3 := 0) rfl (by decide) rfl rfl (by decide) (by decide) rfl ?_
          refine wr_gx (k0 := mm_XB + (5 : Int).toNat) (v := vl 1651467385) (nx := 18) (r1 := 0) (r2 := 0) (r3 := 1) rfl (by decide) (by decide) rfl ?_
          refine wi_lload_n (i := 0) (e := a0) (nx := 19) (r1 := 0) (r2 := 0) (r3 := 0) rfl rfl ?_
          refine wi_lcmp (a := 1651467385) (e := a0) (nx := 20) (r1 := 0) (r2 := 0) (r3 := 0) rfl (by omega) (by omega) (fun r14 (fr14 : (r14 = -1 ∧ 1651467385 < a0) ∨ (r14 = 0 ∧ 1651467385 = a0) ∨ (r14 = 1 ∧ a0 < 1651467385)) => ?_)
          refine wi_if (cd := .ne) (nx := 23) (r1 := 29) (r2 := 0) (r3 := 0) rfl (by omega) (fun (q15 : r14 ≠ 0) => ?_) (fun (q15 : ¬ (r14 ≠ 0)) => ?_)
          ·
            refine wr_iincL (i := 2) (n := 1) (v := 4) (5) ([(2, vi 5), (0, vl a0)]) (nx := 32) (r1 := 0) (r2 := 0) (r3 := 0) rfl rfl (by decide) rfl ?_
            refine wi_goto (nx := 35) (r1 := 2) (r2 := 0) (r3 := 0) rfl ?_
            refine wi_iload_n (i := 2) (e := 5) (nx := 3) (r1 := 0) (r2 := 0) (r3 := 0) rfl rfl ?_
            refine wr_gst (v := .ref 1000022) (nx := 6) (r1 := 21) (r2 := 0) (r3 := 0) rfl rfl rfl ?_
            refine wr_xl (k0 := 1000022) (e := 21) (nx := 7) (r1 := 0) (r2 := 0) (r3 := 0) rfl (by decide) rfl rfl ?_
            refine wi_icmp (cd := .ge) (nx := 10) (r1 := 35) (r2 := 0) (r3 := 0) rfl (by omega) (by omega) (fun (q16 : 21 ≤ 5) => by exfalso; omega) (fun (q16 : ¬ (21 ≤ 5)) => ?_)
            refine wr_gst (v := .ref 1000022) (nx := 13) (r1 := 21) (r2 := 0) (r3 := 0) rfl rfl rfl ?_
            refine wi_iload_n (i := 2) (e := 5) (nx := 14) (r1 := 0) (r2 := 0) (r3 := 0) rfl rfl ?_
            refine wr_xa (k0 := 1000022) (a := 5) (f := 5) (v := wv 6) .aaload (Or.inr (Or.inr ⟨rfl, by decide⟩)) (nx := 15) (r1 := 0) (r2 := 0) (r3 := 0) rfl (by decide) rfl rfl (by decide) (by decide) rfl ?_
            refine wr_gx (k0 := mm_XB + (6 : Int).toNat) (v := vl 6447460) (nx := 18) (r1 := 0) (r2 := 0) (r3 := 1) rfl (by decide) (by decide) rfl ?_
            refine wi_lload_n (i := 0) (e := a0) (nx := 19) (r1 := 0) (r2 := 0) (r3 := 0) rfl rfl ?_
            refine wi_lcmp (a := 6447460) (e := a0) (nx := 20) (r1 := 0) (r2 := 0) (r3 := 0) rfl (by omega) (by omega) (fun r17 (fr17 : (r17 = -1 ∧ 6447460 < a0) ∨ (r17 = 0 ∧ 6447460 = a0) ∨ (r17 = 1 ∧ a0 < 6447460)) => ?_)
            refine wi_if (cd := .ne) (nx := 23) (r1 := 29) (r2 := 0) (r3 := 0) rfl (by omega) (fun (q18 : r17 ≠ 0) => ?_) (fun (q18 : ¬ (r17 ≠ 0)) => ?_)
            ·
              refine wr_iincL (i := 2) (n := 1) (v := 5) (6) ([(2, vi 6), (0, vl a0)]) (nx := 32) (r1 := 0) (r2 := 0) (r3 := 0) rfl rfl (by decide) rfl ?_
              refine wi_goto (nx := 35) (r1 := 2) (r2 := 0) (r3 := 0) rfl ?_
              refine wi_iload_n (i := 2) (e := 6) (nx := 3) (r1 := 0) (r2 := 0) (r3 := 0) rfl rfl ?_
              refine wr_gst (v := .ref 1000022) (nx := 6) (r1 := 21) (r2 := 0) (r3 := 0) rfl rfl rfl ?_
              refine wr_xl (k0 := 1000022) (e := 21) (nx := 7) (r1 := 0) (r2 := 0) (r3 := 0) rfl (by decide) rfl rfl ?_
              refine wi_icmp (cd := .ge) (nx := 10) (r1 := 35) (r2 := 0) (r3 := 0) rfl (by omega) (by omega) (fun (q19 : 21 ≤ 6) => by exfalso; omega) (fun (q19 : ¬ (21 ≤ 6)) => ?_)
              refine wr_gst (v := .ref 1000022) (nx := 13) (r1 := 21) (r2 := 0) (r3 := 0) rfl rfl rfl ?_
              refine wi_iload_n (i := 2) (e := 6) (nx := 14) (r1 := 0) (r2 := 0) (r3 := 0) rfl rfl ?_
              refine wr_xa (k0 := 1000022) (a := 6) (f := 6) (v := wv 7) .aaload (Or.inr (Or.inr ⟨rfl, by decide⟩)) (nx := 15) (r1 := 0) (r2 := 0) (r3 := 0) rfl (by decide) rfl rfl (by decide) (by decide) rfl ?_
              refine wr_gx (k0 := mm_XB + (7 : Int).toNat) (v := vl 131294707347319) (nx := 18) (r1 := 0) (r2 := 0) (r3 := 1) rfl (by decide) (by decide) rfl ?_
              refine wi_lload_n (i := 0) (e := a0) (nx := 19) (r1 := 0) (r2 := 0) (r3 := 0) rfl rfl ?_
              refine wi_lcmp (a := 131294707347319) (e := a0) (nx := 20) (r1 := 0) (r2 := 0) (r3 := 0) rfl (by omega) (by omega) (fun r20 (fr20 : (r20 = -1 ∧ 131294707347319 < a0) ∨ (r20 = 0 ∧ 131294707347319 = a0) ∨ (r20 = 1 ∧ a0 < 131294707347319)) => ?_)
              refine wi_if (cd := .ne) (nx := 23) (r1 := 29) (r2 := 0) (r3 := 0) rfl (by omega) (fun (q21 : r20 ≠ 0) => ?_) (fun (q21 : ¬ (r20 ≠ 0)) => ?_)
              ·
                refine wr_iincL (i := 2) (n := 1) (v := 6) (7) ([(2, vi 7), (0, vl a0)]) (nx := 32) (r1 := 0) (r2 := 0) (r3 := 0) rfl rfl (by decide) rfl ?_
                refine wi_goto (nx := 35) (r1 := 2) (r2 := 0) (r3 := 0) rfl ?_
                refine wi_iload_n (i := 2) (e := 7) (nx := 3) (r1 := 0) (r2 := 0) (r3 := 0) rfl rfl ?_
                refine wr_gst (v := .ref 1000022) (nx := 6) (r1 := 21) (r2 := 0) (r3 := 0) rfl rfl rfl ?_
                refine wr_xl (k0 := 1000022) (e := 21) (nx := 7) (r1 := 0) (r2 := 0) (r3 := 0) rfl (by decide) rfl rfl ?_
                refine wi_icmp (cd := .ge) (nx := 10) (r1 := 35) (r2 := 0) (r3 := 0) rfl (by omega) (by omega) (fun (q22 : 21 ≤ 7) => by exfalso; omega) (fun (q22 : ¬ (21 ≤ 7)) => ?_)
                refine wr_gst (v := .ref 1000022) (nx := 13) (r1 := 21) (r2 := 0) (r3 := 0) rfl rfl rfl ?_
                refine wi_iload_n (i := 2) (e := 7) (nx := 14) (r1 := 0) (r2 := 0) (r3 := 0) rfl rfl ?_
                refine wr_xa (k0 := 1000022) (a := 7) (f := 7) (v := wv 8) .aaload (Or.inr (Or.inr ⟨rfl, by decide⟩)) (nx := 15) (r1 := 0) (r2 := 0) (r3 := 0) rfl (by decide) rfl rfl (by decide) (by decide) rfl ?_
                refine wr_gx (k0 := mm_XB + (8 : Int).toNat) (v := vl 422541812584) (nx := 18) (r1 := 0) (r2 := 0) (r3 := 1) rfl (by decide) (by decide) rfl ?_
                refine wi_lload_n (i := 0) (e := a0) (nx := 19) (r1 := 0) (r2 := 0) (r3 := 0) rfl rfl ?_
                refine wi_lcmp (a := 422541812584) (e := a0) (nx := 20) (r1 := 0) (r2 := 0) (r3 := 0) rfl (by omega) (by omega) (fun r23 (fr23 : (r23 = -1 ∧ 422541812584 < a0) ∨ (r23 = 0 ∧ 422541812584 = a0) ∨ (r23 = 1 ∧ a0 < 422541812584)) => ?_)
                refine wi_if (cd := .ne) (nx := 23) (r1 := 29) (r2 := 0) (r3 := 0) rfl (by omega) (fun (q24 : r23 ≠ 0) => ?_) (fun (q24 : ¬ (r23 ≠ 0)) => ?_)
                ·
                  refine wr_iincL (i := 2) (n := 1) (v := 7) (8) ([(2, vi 8), (0, vl a0)]) (nx := 32) (r1 := 0) (r2 := 0) (r3 := 0) rfl rfl (by decide) rfl ?_
                  refine wi_goto (nx := 35) (r1 := 2) (r2 := 0) (r3 := 0) rfl ?_
                  refine wi_iload_n (i := 2) (e := 8) (nx := 3) (r1 := 0) (r2 := 0) (r3 := 0) rfl rfl ?_
                  refine wr_gst (v := .ref 1000022) (nx := 6) (r1 := 21) (r2 := 0) (r3 := 0) rfl rfl rfl ?_
                  refine wr_xl (k0 := 1000022) (e := 21) (nx := 7) (r1 := 0) (r2 := 0) (r3 := 0) rfl (by decide) rfl rfl ?_
                  refine wi_icmp (cd := .ge) (nx := 10) (r1 := 35) (r2 := 0) (r3 := 0) rfl (by omega) (by omega) (fun (q25 : 21 ≤ 8) => by exfalso; omega) (fun (q25 : ¬ (21 ≤ 8)) => ?_)
                  refine wr_gst (v := .ref 1000022) (nx := 13) (r1 := 21) (r2 := 0) (r3 := 0) rfl rfl rfl ?_
                  refine wi_iload_n (i := 2) (e := 8) (nx := 14) (r1 := 0) (r2 := 0) (r3 := 0) rfl rfl ?_
                  refine wr_xa (k0 := 1000022) (a := 8) (f := 8) (v := wv 9) .aaload (Or.inr (Or.inr ⟨rfl, by decide⟩)) (nx := 15) (r1 := 0) (r2 := 0) (r3 := 0) rfl (by decide) rfl rfl (by decide) (by decide) rfl ?_
                  refine wr_gx (k0 := mm_XB + (9 : Int).toNat) (v := vl 483006768997) (nx := 18) (r1 := 0) (r2 := 0) (r3 := 1) rfl (by decide) (by decide) rfl ?_
                  refine wi_lload_n (i := 0) (e := a0) (nx := 19) (r1 := 0) (r2 := 0) (r3 := 0) rfl rfl ?_
                  refine wi_lcmp (a := 483006768997) (e := a0) (nx := 20) (r1 := 0) (r2 := 0) (r3 := 0) rfl (by omega) (by omega) (fun r26 (fr26 : (r26 = -1 ∧ 483006768997 < a0) ∨ (r26 = 0 ∧ 483006768997 = a0) ∨ (r26 = 1 ∧ a0 < 483006768997)) => ?_)
                  refine wi_if (cd := .ne) (nx := 23) (r1 := 29) (r2 := 0) (r3 := 0) rfl (by omega) (fun (q27 : r26 ≠ 0) => ?_) (fun (q27 : ¬ (r26 ≠ 0)) => ?_)
                  ·
                    refine wr_iincL (i := 2) (n := 1) (v := 8) (9) ([(2, vi 9), (0, vl a0)]) (nx := 32) (r1 := 0) (r2 := 0) (r3 := 0) rfl rfl (by decide) rfl ?_
                    refine wi_goto (nx := 35) (r1 := 2) (r2 := 0) (r3 := 0) rfl ?_
                    refine wi_iload_n (i := 2) (e := 9) (nx := 3) (r1 := 0) (r2 := 0) (r3 := 0) rfl rfl ?_
                    refine wr_gst (v := .ref 1000022) (nx := 6) (r1 := 21) (r2 := 0) (r3 := 0) rfl rfl rfl ?_
                    refine wr_xl (k0 := 1000022) (e := 21) (nx := 7) (r1 := 0) (r2 := 0) (r3 := 0) rfl (by decide) rfl rfl ?_
                    refine wi_icmp (cd := .ge) (nx := 10) (r1 := 35) (r2 := 0) (r3 := 0) rfl (by omega) (by omega) (fun (q28 : 21 ≤ 9) => by exfalso; omega) (fun (q28 : ¬ (21 ≤ 9)) => ?_)
                    refine wr_gst (v := .ref 1000022) (nx := 13) (r1 := 21) (r2 := 0) (r3 := 0) rfl rfl rfl ?_
                    refine wi_iload_n (i := 2) (e := 9) (nx := 14) (r1 := 0) (r2 := 0) (r3 := 0) rfl rfl ?_
                    refine wr_xa (k0 := 1000022) (a := 9) (f := 9) (v := wv 10) .aaload (Or.inr (Or.inr ⟨rfl, by decide⟩)) (nx := 15) (r1 := 0) (r2 := 0) (r3 := 0) rfl (by decide) rfl rfl (by decide) (by decide) rfl ?_
                    refine wr_gx (k0 := mm_XB + (10 : Int).toNat) (v := vl 125780121055851) (nx := 18) (r1 := 0) (r2 := 0) (r3 := 1) rfl (by decide) (by decide) rfl ?_
                    refine wi_lload_n (i := 0) (e := a0) (nx := 19) (r1 := 0) (r2 := 0) (r3 := 0) rfl rfl ?_
                    refine wi_lcmp (a := 125780121055851) (e := a0) (nx := 20) (r1 := 0) (r2 := 0) (r3 := 0) rfl (by omega) (by omega) (fun r29 (fr29 : (r29 = -1 ∧ 125780121055851 < a0) ∨ (r29 = 0 ∧ 125780121055851 = a0) ∨ (r29 = 1 ∧ a0 < 125780121055851)) => ?_)
                    refine wi_if (cd := .ne) (nx := 23) (r1 := 29) (r2 := 0) (r3 := 0) rfl (by omega) (fun (q30 : r29 ≠ 0) => ?_) (fun (q30 : ¬ (r29 ≠ 0)) => ?_)
                    ·
                      refine wr_iincL (i := 2) (n := 1) (v := 9) (10) ([(2, vi 10), (0, vl a0)]) (nx := 32) (r1 := 0) (r2 := 0) (r3 := 0) rfl rfl (by decide) rfl ?_
                      refine wi_goto (nx := 35) (r1 := 2) (r2 := 0) (r3 := 0) rfl ?_
                      refine wi_iload_n (i := 2) (e := 10) (nx := 3) (r1 := 0) (r2 := 0) (r3 := 0) rfl rfl ?_
                      refine wr_gst (v := .ref 1000022) (nx := 6) (r1 := 21) (r2 := 0) (r3 := 0) rfl rfl rfl ?_
                      refine wr_xl (k0 := 1000022) (e := 21) (nx := 7) (r1 := 0) (r2 := 0) (r3 := 0) rfl (by decide) rfl rfl ?_
                      refine wi_icmp (cd := .ge) (nx := 10) (r1 := 35) (r2 := 0) (r3 := 0) rfl (by omega) (by omega) (fun (q31 : 21 ≤ 10) => by exfalso; omega) (fun (q31 : ¬ (21 ≤ 10)) => ?_)
                      refine wr_gst (v := .ref 1000022) (nx := 13) (r1 := 21) (r2 := 0) (r3 := 0) rfl rfl rfl ?_
                      refine wi_iload_n (i := 2) (e := 10) (nx := 14) (r1 := 0) (r2 := 0) (r3 := 0) rfl rfl ?_
                      refine wr_xa (k0 := 1000022) (a := 10) (f := 10) (v := wv 11) .aaload (Or.inr (Or.inr ⟨rfl, by decide⟩)) (nx := 15) (r1 := 0) (r2 := 0) (r3 := 0) rfl (by decide) rfl rfl (by decide) (by decide) rfl ?_
                      refine wr_gx (k0 := mm_XB + (11 : Int).toNat) (v := vl 431198331257) (nx := 18) (r1 := 0) (r2 := 0) (r3 := 1) rfl (by decide) (by decide) rfl ?_
                      refine wi_lload_n (i := 0) (e := a0) (nx := 19) (r1 := 0) (r2 := 0) (r3 := 0) rfl rfl ?_
                      refine wi_lcmp (a := 431198331257) (e := a0) (nx := 20) (r1 := 0) (r2 := 0) (r3 := 0) rfl (by omega) (by omega) (fun r32 (fr32 : (r32 = -1 ∧ 431198331257 < a0) ∨ (r32 = 0 ∧ 431198331257 = a0) ∨ (r32 = 1 ∧ a0 < 431198331257)) => ?_)
                      refine wi_if (cd := .ne) (nx := 23) (r1 := 29) (r2 := 0) (r3 := 0) rfl (by omega) (fun (q33 : r32 ≠ 0) => ?_) (fun (q33 : ¬ (r32 ≠ 0)) => ?_)
                      ·
                        refine wr_iincL (i := 2) (n := 1) (v := 10) (11) ([(2, vi 11), (0, vl a0)]) (nx := 32) (r1 := 0) (r2 := 0) (r3 := 0) rfl rfl (by decide) rfl ?_
                        refine wi_goto (nx := 35) (r1 := 2) (r2 := 0) (r3 := 0) rfl ?_
                        refine wi_iload_n (i := 2) (e := 11) (nx := 3) (r1 := 0) (r2 := 0) (r3 := 0) rfl rfl ?_
                        refine wr_gst (v := .ref 1000022) (nx := 6) (r1 := 21) (r2 := 0) (r3 := 0) rfl rfl rfl ?_
                        refine wr_xl (k0 := 1000022) (e := 21) (nx := 7) (r1 := 0) (r2 := 0) (r3 := 0) rfl (by decide) rfl rfl ?_
                        refine wi_icmp (cd := .ge) (nx := 10) (r1 := 35) (r2 := 0) (r3 := 0) rfl (by omega) (by omega) (fun (q34 : 21 ≤ 11) => by exfalso; omega) (fun (q34 : ¬ (21 ≤ 11)) => ?_)
                        refine wr_gst (v := .ref 1000022) (nx := 13) (r1 := 21) (r2 := 0) (r3 := 0) rfl rfl rfl ?_
                        refine wi_iload_n (i := 2) (e := 11) (nx := 14) (r1 := 0) (r2 := 0) (r3 := 0) rfl rfl ?_
                        refine wr_xa (k0 := 1000022) (a := 11) (f := 11) (v := wv 12) .aaload (Or.inr (Or.inr ⟨rfl, by decide⟩)) (nx := 15) (r1 := 0) (r2 := 0) (r3 := 0) rfl (by decide) rfl rfl (by decide) (by decide) rfl ?_
                        refine wr_gx (k0 := mm_XB + (12 : Int).toNat) (v := vl 1936744814) (nx := 18) (r1 := 0) (r2 := 0) (r3 := 1) rfl (by decide) (by decide) rfl ?_
                        refine wi_lload_n (i := 0) (e := a0) (nx := 19) (r1 := 0) (r2 := 0) (r3 := 0) rfl rfl ?_
                        refine wi_lcmp (a := 1936744814) (e := a0) (nx := 20) (r1 := 0) (r2 := 0) (r3 := 0) rfl (by omega) (by omega) (fun r35 (fr35 : (r35 = -1 ∧ 1936744814 < a0) ∨ (r35 = 0 ∧ 1936744814 = a0) ∨ (r35 = 1 ∧ a0 < 1936744814)) => ?_)
                        refine wi_if (cd := .ne) (nx := 23) (r1 := 29) (r2 := 0) (r3 := 0) rfl (by omega) (fun (q36 : r35 ≠ 0) => ?_) (fun (q36 : ¬ (r35 ≠ 0)) => ?_)
                        ·
                          refine wr_iincL (i := 2) (n := 1) (v := 11) (12) ([(2, vi 12), (0, vl a0)]) (nx := 32) (r1 := 0) (r2 := 0) (r3 := 0) rfl rfl (by decide) rfl ?_
                          refine wi_goto (nx := 35) (r1 := 2) (r2 := 0) (r3 := 0) rfl ?_
                          refine wi_iload_n (i := 2) (e := 12) (nx := 3) (r1 := 0) (r2 := 0) (r3 := 0) rfl rfl ?_
                          refine wr_gst (v := .ref 1000022) (nx := 6) (r1 := 21) (r2 := 0) (r3 := 0) rfl rfl rfl ?_
                          refine wr_xl (k0 := 1000022) (e := 21) (nx := 7) (r1 := 0) (r2 := 0) (r3 := 0) rfl (by decide) rfl rfl ?_
                          refine wi_icmp (cd := .ge) (nx := 10) (r1 := 35) (r2 := 0) (r3 := 0) rfl (by omega) (by omega) (fun (q37 : 21 ≤ 12) => by exfalso; omega) (fun (q37 : ¬ (21 ≤ 12)) => ?_)
                          refine wr_gst (v := .ref 1000022) (nx := 13) (r1 := 21) (r2 := 0) (r3 := 0) rfl rfl rfl ?_
                          refine wi_iload_n (i := 2) (e := 12) (nx := 14) (r1 := 0) (r2 := 0) (r3 := 0) rfl rfl ?_
                          refine wr_xa (k0 := 1000022) (a := 12) (f := 12) (v := wv 13) .aaload (Or.inr (Or.inr ⟨rfl, by decide⟩)) (nx := 15) (r1 := 0) (r2 := 0) (r3 := 0) rfl (by decide) rfl rfl (by decide) (by decide) rfl ?_
                          refine wr_gx (k0 := mm_XB + (13 : Int).toNat) (v := vl 435644818802) (nx := 18) (r1 := 0) (r2 := 0) (r3 := 1) rfl (by decide) (by decide) rfl ?_
                          refine wi_lload_n (i := 0) (e := a0) (nx := 19) (r1 := 0) (r2 := 0) (r3 := 0) rfl rfl ?_
                          refine wi_lcmp (a := 435644818802) (e := a0) (nx := 20) (r1 := 0) (r2 := 0) (r3 := 0) rfl (by omega) (by omega) (fun r38 (fr38 : (r38 = -1 ∧ 435644818802 < a0) ∨ (r38 = 0 ∧ 435644818802 = a0) ∨ (r38 = 1 ∧ a0 < 435644818802)) => ?_)
                          refine wi_if (cd := .ne) (nx := 23) (r1 := 29) (r2 := 0) (r3 := 0) rfl (by omega) (fun (q39 : r38 ≠ 0) => ?_) (fun (q39 : ¬ (r38 ≠ 0)) => ?_)
                          ·
                            refine wr_iincL (i := 2) (n := 1) (v := 12) (13) ([(2, vi 13), (0, vl a0)]) (nx := 32) (r1 := 0) (r2 := 0) (r3 := 0) rfl rfl (by decide) rfl ?_
                            refine wi_goto (nx := 35) (r1 := 2) (r2 := 0) (r3 := 0) rfl ?_
                            refine wi_iload_n (i := 2) (e := 13) (nx := 3) (r1 := 0) (r2 := 0) (r3 := 0) rfl rfl ?_
                            refine wr_gst (v := .ref 1000022) (nx := 6) (r1 := 21) (r2 := 0) (r3 := 0) rfl rfl rfl ?_
                            refine wr_xl (k0 := 1000022) (e := 21) (nx := 7) (r1 := 0) (r2 := 0) (r3 := 0) rfl (by decide) rfl rfl ?_
                            refine wi_icmp (cd := .ge) (nx := 10) (r1 := 35) (r2 := 0) (r3 := 0) rfl (by omega) (by omega) (fun (q40 : 21 ≤ 13) => by exfalso; omega) (fun (q40 : ¬ (21 ≤ 13)) => ?_)
                            refine wr_gst (v := .ref 1000022) (nx := 13) (r1 := 21) (r2 := 0) (r3 := 0) rfl rfl rfl ?_
                            refine wi_iload_n (i := 2) (e := 13) (nx := 14) (r1 := 0) (r2 := 0) (r3 := 0) rfl rfl ?_
                            refine wr_xa (k0 := 1000022) (a := 13) (f := 13) (v := wv 14) .aaload (Or.inr (Or.inr ⟨rfl, by decide⟩)) (nx := 15) (r1 := 0) (r2 := 0) (r3 := 0) rfl (by decide) rfl rfl (by decide) (by decide) rfl ?_
                            refine wr_gx (k0 := mm_XB + (14 : Int).toNat) (v := vl 465557354085) (nx := 18) (r1 := 0) (r2 := 0) (r3 := 1) rfl (by decide) (by decide) rfl ?_
                            refine wi_lload_n (i := 0) (e := a0) (nx := 19) (r1 := 0) (r2 := 0) (r3 := 0) rfl rfl ?_
                            refine wi_lcmp (a := 465557354085) (e := a0) (nx := 20) (r1 := 0) (r2 := 0) (r3 := 0) rfl (by omega) (by omega) (fun r41 (fr41 : (r41 = -1 ∧ 465557354085 < a0) ∨ (r41 = 0 ∧ 465557354085 = a0) ∨ (r41 = 1 ∧ a0 < 465557354085)) => ?_)
                            refine wi_if (cd := .ne) (nx := 23) (r1 := 29) (r2 := 0) (r3 := 0) rfl (by omega) (fun (q42 : r41 ≠ 0) => ?_) (fun (q42 : ¬ (r41 ≠ 0)) => ?_)
                            ·
                              refine wr_iincL (i := 2) (n := 1) (v := 13) (14) ([(2, vi 14), (0, vl a0)]) (nx := 32) (r1 := 0) (r2 := 0) (r3 := 0) rfl rfl (by decide) rfl ?_
                              refine wi_goto (nx := 35) (r1 := 2) (r2 := 0) (r3 := 0) rfl ?_
                              refine wi_iload_n (i := 2) (e := 14) (nx := 3) (r1 := 0) (r2 := 0) (r3 := 0) rfl rfl ?_
                              refine wr_gst (v := .ref 1000022) (nx := 6) (r1 := 21) (r2 := 0) (r3 := 0) rfl rfl rfl ?_
                              refine wr_xl (k0 := 1000022) (e := 21) (nx := 7) (r1 := 0) (r2 := 0) (r3 := 0) rfl (by decide) rfl rfl ?_
                              refine wi_icmp (cd := .ge) (nx := 10) (r1 := 35) (r2 := 0) (r3 := 0) rfl (by omega) (by omega) (fun (q43 : 21 ≤ 14) => by exfalso; omega) (fun (q43 : ¬ (21 ≤ 14)) => ?_)
                              refine wr_gst (v := .ref 1000022) (nx := 13) (r1 := 21) (r2 := 0) (r3 := 0) rfl rfl rfl ?_
                              refine wi_iload_n (i := 2) (e := 14) (nx := 14) (r1 := 0) (r2 := 0) (r3 := 0) rfl rfl ?_
                              refine wr_xa (k0 := 1000022) (a := 14) (f := 14) (v := wv 15) .aaload (Or.inr (Or.inr ⟨rfl, by decide⟩)) (nx := 15) (r1 := 0) (r2 := 0) (r3 := 0) rfl (by decide) rfl rfl (by decide) (by decide) rfl ?_
                              refine wr_gx (k0 := mm_XB + (15 : Int).toNat) (v := vl 1650549611) (nx := 18) (r1 := 0) (r2 := 0) (r3 := 1) rfl (by decide) (by decide) rfl ?_
                              refine wi_lload_n (i := 0) (e := a0) (nx := 19) (r1 := 0) (r2 := 0) (r3 := 0) rfl rfl ?_
                              refine wi_lcmp (a := 1650549611) (e := a0) (nx := 20) (r1 := 0) (r2 := 0) (r3 := 0) rfl (by omega) (by omega) (fun r44 (fr44 : (r44 = -1 ∧ 1650549611 < a0) ∨ (r44 = 0 ∧ 1650549611 = a0) ∨ (r44 = 1 ∧ a0 < 1650549611)) => ?_)
                              refine wi_if (cd := .ne) (nx := 23) (r1 := 29) (r2 := 0) (r3 := 0) rfl (by omega) (fun (q45 : r44 ≠ 0) => ?_) (fun (q45 : ¬ (r44 ≠ 0)) => ?_)
                              ·
                                refine wr_iincL (i := 2) (n := 1) (v := 14) (15) ([(2, vi 15), (0, vl a0)]) (nx := 32) (r1 := 0) (r2 := 0) (r3 := 0) rfl rfl (by decide) rfl ?_
                                refine wi_goto (nx := 35) (r1 := 2) (r2 := 0) (r3 := 0) rfl ?_
                                refine wi_iload_n (i := 2) (e := 15) (nx := 3) (r1 := 0) (r2 := 0) (r3 := 0) rfl rfl ?_
                                refine wr_gst (v := .ref 1000022) (nx := 6) (r1 := 21) (r2 := 0) (r3 := 0) rfl rfl rfl ?_
                                refine wr_xl (k0 := 1000022) (e := 21) (nx := 7) (r1 := 0) (r2 := 0) (r3 := 0) rfl (by decide) rfl rfl ?_
                                refine wi_icmp (cd := .ge) (nx := 10) (r1 := 35) (r2 := 0) (r3 := 0) rfl (by omega) (by omega) (fun (q46 : 21 ≤ 15) => by exfalso; omega) (fun (q46 : ¬ (21 ≤ 15)) => ?_)
                                refine wr_gst (v := .ref 1000022) (nx := 13) (r1 := 21) (r2 := 0) (r3 := 0) rfl rfl rfl ?_
                                refine wi_iload_n (i := 2) (e := 15) (nx := 14) (r1 := 0) (r2 := 0) (r3 := 0) rfl rfl ?_
                                refine wr_xa (k0 := 1000022) (a := 15) (f := 15) (v := wv 16) .aaload (Or.inr (Or.inr ⟨rfl, by decide⟩)) (nx := 15) (r1 := 0) (r2 := 0) (r3 := 0) rfl (by decide) rfl rfl (by decide) (by decide) rfl ?_
                                refine wr_gx (k0 := mm_XB + (16 : Int).toNat) (v := vl 2002872692) (nx := 18) (r1 := 0) (r2 := 0) (r3 := 1) rfl (by decide) (by decide) rfl ?_
                                refine wi_lload_n (i := 0) (e := a0) (nx := 19) (r1 := 0) (r2 := 0) (r3 := 0) rfl rfl ?_
                                refine wi_lcmp (a := 2002872692) (e := a0) (nx := 20) (r1 := 0) (r2 := 0) (r3 := 0) rfl (by omega) (by omega) (fun r47 (fr47 : (r47 = -1 ∧ 2002872692 < a0) ∨ (r47 = 0 ∧ 2002872692 = a0) ∨ (r47 = 1 ∧ a0 < 2002872692)) => ?_)
                                refine wi_if (cd := .ne) (nx := 23) (r1 := 29) (r2 := 0) (r3 := 0) rfl (by omega) (fun (q48 : r47 ≠ 0) => ?_) (fun (q48 : ¬ (r47 ≠ 0)) => ?_)
                                ·
                                  refine wr_iincL (i := 2) (n := 1) (v := 15) (16) ([(2, vi 16), (0, vl a0)]) (nx := 32) (r1 := 0) (r2 := 0) (r3 := 0) rfl rfl (by decide) rfl ?_
                                  refine wi_goto (nx := 35) (r1 := 2) (r2 := 0) (r3 := 0) rfl ?_
                                  refine wi_iload_n (i := 2) (e := 16) (nx := 3) (r1 := 0) (r2 := 0) (r3 := 0) rfl rfl ?_
                                  refine wr_gst (v := .ref 1000022) (nx := 6) (r1 := 21) (r2 := 0) (r3 := 0) rfl rfl rfl ?_
                                  refine wr_xl (k0 := 1000022) (e := 21) (nx := 7) (r1 := 0) (r2 := 0) (r3 := 0) rfl (by decide) rfl rfl ?_
                                  refine wi_icmp (cd := .ge) (nx := 10) (r1 := 35) (r2 := 0) (r3 := 0) rfl (by omega) (by omega) (fun (q49 : 21 ≤ 16) => by exfalso; omega) (fun (q49 : ¬ (21 ≤ 16)) => ?_)
                                  refine wr_gst (v := .ref 1000022) (nx := 13) (r1 := 21) (r2 := 0) (r3 := 0) rfl rfl rfl ?_
                                  refine wi_iload_n (i := 2) (e := 16) (nx := 14) (r1 := 0) (r2 := 0) (r3 := 0) rfl rfl ?_
                                  refine wr_xa (k0 := 1000022) (a := 16) (f := 16) (v := wv 17) .aaload (Or.inr (Or.inr ⟨rfl, by decide⟩)) (nx := 15) (r1 := 0) (r2 := 0) (r3 := 0) rfl (by decide) rfl rfl (by decide) (by decide) rfl ?_
                                  refine wr_gx (k0 := mm_XB + (17 : Int).toNat) (v := vl 1937007984) (nx := 18) (r1 := 0) (r2 := 0) (r3 := 1) rfl (by decide) (by decide) rfl ?_
                                  refine wi_lload_n (i := 0) (e := a0) (nx := 19) (r1 := 0) (r2 := 0) (r3 := 0) rfl rfl ?_
                                  refine wi_lcmp (a := 1937007984) (e := a0) (nx := 20) (r1 := 0) (r2 := 0) (r3 := 0) rfl (by omega) (by omega) (fun r50 (fr50 : (r50 = -1 ∧ 1937007984 < a0) ∨ (r50 = 0 ∧ 1937007984 = a0) ∨ (r50 = 1 ∧ a0 < 1937007984)) => ?_)
                                  refine wi_if (cd := .ne) (nx := 23) (r1 := 29) (r2 := 0) (r3 := 0) rfl (by omega) (fun (q51 : r50 ≠ 0) => ?_) (fun (q51 : ¬ (r50 ≠ 0)) => ?_)
                                  ·
                                    refine wr_iincL (i := 2) (n := 1) (v := 16) (17) ([(2, vi 17), (0, vl a0)]) (nx := 32) (r1 := 0) (r2 := 0) (r3 := 0) rfl rfl (by decide) rfl ?_
                                    refine wi_goto (nx := 35) (r1 := 2) (r2 := 0) (r3 := 0) rfl ?_
                                    refine wi_iload_n (i := 2) (e := 17) (nx := 3) (r1 := 0) (r2 := 0) (r3 := 0) rfl rfl ?_
                                    refine wr_gst (v := .ref 1000022) (nx := 6) (r1 := 21) (r2 := 0) (r3 := 0) rfl rfl rfl ?_
                                    refine wr_xl (k0 := 1000022) (e := 21) (nx := 7) (r1 := 0) (r2 := 0) (r3 := 0) rfl (by decide) rfl rfl ?_
                                    refine wi_icmp (cd := .ge) (nx := 10) (r1 := 35) (r2 := 0) (r3 := 0) rfl (by omega) (by omega) (fun (q52 : 21 ≤ 17) => by exfalso; omega) (fun (q52 : ¬ (21 ≤ 17)) => ?_)
                                    refine wr_gst (v := .ref 1000022) (nx := 13) (r1 := 21) (r2 := 0) (r3 := 0) rfl rfl rfl ?_
                                    refine wi_iload_n (i := 2) (e := 17) (nx := 14) (r1 := 0) (r2 := 0) (r3 := 0) rfl rfl ?_
                                    refine wr_xa (k0 := 1000022) (a := 17) (f := 17) (v := wv 18) .aaload (Or.inr (Or.inr ⟨rfl, by decide⟩)) (nx := 15) (r1 := 0) (r2 := 0) (r3 := 0) rfl (by decide) rfl rfl (by decide) (by decide) rfl ?_
                                    refine wr_gx (k0 := mm_XB + (18 : Int).toNat) (v := vl 129117126091108) (nx := 18) (r1 := 0) (r2 := 0) (r3 := 1) rfl (by decide) (by decide) rfl ?_
                                    refine wi_lload_n (i := 0) (e := a0) (nx := 19) (r1 := 0) (r2 := 0) (r3 := 0) rfl rfl ?_
                                    refine wi_lcmp (a := 129117126091108) (e := a0) (nx := 20) (r1 := 0) (r2 := 0) (r3 := 0) rfl (by omega) (by omega) (fun r53 (fr53 : (r53 = -1 ∧ 129117126091108 < a0) ∨ (r53 = 0 ∧ 129117126091108 = a0) ∨ (r53 = 1 ∧ a0 < 129117126091108)) => ?_)
                                    refine wi_if (cd := .ne) (nx := 23) (r1 := 29) (r2 := 0) (r3 := 0) rfl (by omega) (fun (q54 : r53 ≠ 0) => ?_) (fun (q54 : ¬ (r53 ≠ 0)) => ?_)
                                    ·
                                      refine wr_iincL (i := 2) (n := 1) (v := 17) (18) ([(2, vi 18), (0, vl a0)]) (nx := 32) (r1 := 0) (r2 := 0) (r3 := 0) rfl rfl (by decide) rfl ?_
                                      refine wi_goto (nx := 35) (r1 := 2) (r2 := 0) (r3 := 0) rfl ?_
                                      refine wi_iload_n (i := 2) (e := 18) (nx := 3) (r1 := 0) (r2 := 0) (r3 := 0) rfl rfl ?_
                                      refine wr_gst (v := .ref 1000022) (nx := 6) (r1 := 21) (r2 := 0) (r3 := 0) rfl rfl rfl ?_
                                      refine wr_xl (k0 := 1000022) (e := 21) (nx := 7) (r1 := 0) (r2 := 0) (r3 := 0) rfl (by decide) rfl rfl ?_
                                      refine wi_icmp (cd := .ge) (nx := 10) (r1 := 35) (r2 := 0) (r3 := 0) rfl (by omega) (by omega) (fun (q55 : 21 ≤ 18) => by exfalso; omega) (fun (q55 : ¬ (21 ≤ 18)) => ?_)
                                      refine wr_gst (v := .ref 1000022) (nx := 13) (r1 := 21) (r2 := 0) (r3 := 0) rfl rfl rfl ?_
                                      refine wi_iload_n (i := 2) (e := 18) (nx := 14) (r1 := 0) (r2 := 0) (r3 := 0) rfl rfl ?_
                                      refine wr_xa (k0 := 1000022) (a := 18) (f := 18) (v := wv 19) .aaload (Or.inr (Or.inr ⟨rfl, by decide⟩)) (nx := 15) (r1 := 0) (r2 := 0) (r3 := 0) rfl (by decide) rfl rfl (by decide) (by decide) rfl ?_
                                      refine wr_gx (k0 := mm_XB + (19 : Int).toNat) (v := vl 1937203568) (nx := 18) (r1 := 0) (r2 := 0) (r3 := 1) rfl (by decide) (by decide) rfl ?_
                                      refine wi_lload_n (i := 0) (e := a0) (nx := 19) (r1 := 0) (r2 := 0) (r3 := 0) rfl rfl ?_
                                      refine wi_lcmp (a := 1937203568) (e := a0) (nx := 20) (r1 := 0) (r2 := 0) (r3 := 0) rfl (by omega) (by omega) (fun r56 (fr56 : (r56 = -1 ∧ 1937203568 < a0) ∨ (r56 = 0 ∧ 1937203568 = a0) ∨ (r56 = 1 ∧ a0 < 1937203568)) => ?_)
                                      refine wi_if (cd := .ne) (nx := 23) (r1 := 29) (r2 := 0) (r3 := 0) rfl (by omega) (fun (q57 : r56 ≠ 0) => ?_) (fun (q57 : ¬ (r56 ≠ 0)) => ?_)
                                      ·
                                        refine wr_iincL (i := 2) (n := 1) (v := 18) (19) ([(2, vi 19), (0, vl a0)]) (nx := 32) (r1 := 0) (r2 := 0) (r3 := 0) rfl rfl (by decide) rfl ?_
                                        refine wi_goto (nx := 35) (r1 := 2) (r2 := 0) (r3 := 0) rfl ?_
                                        refine wi_iload_n (i := 2) (e := 19) (nx := 3) (r1 := 0) (r2 := 0) (r3 := 0) rfl rfl ?_
                                        refine wr_gst (v := .ref 1000022) (nx := 6) (r1 := 21) (r2 := 0) (r3 := 0) rfl rfl rfl ?_
                                        refine wr_xl (k0 := 1000022) (e := 21) (nx := 7) (r1 := 0) (r2 := 0) (r3 := 0) rfl (by decide) rfl rfl ?_
                                        refine wi_icmp (cd := .ge) (nx := 10) (r1 := 35) (r2 := 0) (r3 := 0) rfl (by omega) (by omega) (fun (q58 : 21 ≤ 19) => by exfalso; omega) (fun (q58 : ¬ (21 ≤ 19)) => ?_)
                                        refine wr_gst (v := .ref 1000022) (nx := 13) (r1 := 21) (r2 := 0) (r3 := 0) rfl rfl rfl ?_
                                        refine wi_iload_n (i := 2) (e := 19) (nx := 14) (r1 := 0) (r2 := 0) (r3 := 0) rfl rfl ?_
                                        refine wr_xa (k0 := 1000022) (a := 19) (f := 19) (v := wv 20) .aaload (Or.inr (Or.inr ⟨rfl, by decide⟩)) (nx := 15) (r1 := 0) (r2 := 0) (r3 := 0) rfl (by decide) rfl rfl (by decide) (by decide) rfl ?_
                                        refine wr_gx (k0 := mm_XB + (20 : Int).toNat) (v := vl 125780002955636) (nx := 18) (r1 := 0) (r2 := 0) (r3 := 1) rfl (by decide) (by decide) rfl ?_
                                        refine wi_lload_n (i := 0) (e := a0) (nx := 19) (r1 := 0) (r2 := 0) (r3 := 0) rfl rfl ?_
                                        refine wi_lcmp (a := 125780002955636) (e := a0) (nx := 20) (r1 := 0) (r2 := 0) (r3 := 0) rfl (by omega) (by omega) (fun r59 (fr59 : (r59 = -1 ∧ 125780002955636 < a0) ∨ (r59 = 0 ∧ 125780002955636 = a0) ∨ (r59 = 1 ∧ a0 < 125780002955636)) => ?_)
                                        refine wi_if (cd := .ne) (nx := 23) (r1 := 29) (r2 := 0) (r3 := 0) rfl (by omega) (fun (q60 : r59 ≠ 0) => ?_) (fun (q60 : ¬ (r59 ≠ 0)) => ?_)
                                        ·
                                          refine wr_iincL (i := 2) (n := 1) (v := 19) (20) ([(2, vi 20), (0, vl a0)]) (nx := 32) (r1 := 0) (r2 := 0) (r3 := 0) rfl rfl (by decide) rfl ?_
                                          refine wi_goto (nx := 35) (r1 := 2) (r2 := 0) (r3 := 0) rfl ?_
                                          refine wi_iload_n (i := 2) (e := 20) (nx := 3) (r1 := 0) (r2 := 0) (r3 := 0) rfl rfl ?_
                                          refine wr_gst (v := .ref 1000022) (nx := 6) (r1 := 21) (r2 := 0) (r3 := 0) rfl rfl rfl ?_
                                          refine wr_xl (k0 := 1000022) (e := 21) (nx := 7) (r1 := 0) (r2 := 0) (r3 := 0) rfl (by decide) rfl rfl ?_
                                          refine wi_icmp (cd := .ge) (nx := 10) (r1 := 35) (r2 := 0) (r3 := 0) rfl (by omega) (by omega) (fun (q61 : 21 ≤ 20) => by exfalso; omega) (fun (q61 : ¬ (21 ≤ 20)) => ?_)
                                          refine wr_gst (v := .ref 1000022) (nx := 13) (r1 := 21) (r2 := 0) (r3 := 0) rfl rfl rfl ?_
                                          refine wi_iload_n (i := 2) (e := 20) (nx := 14) (r1 := 0) (r2 := 0) (r3 := 0) rfl rfl ?_
                                          refine wr_xa (k0 := 1000022) (a := 20) (f := 20) (v := wv 21) .aaload (Or.inr (Or.inr ⟨rfl, by decide⟩)) (nx := 15) (r1 := 0) (r2 := 0) (r3 := 0) rfl (by decide) rfl rfl (by decide) (by decide) rfl ?_
                                          refine wr_gx (k0 := mm_XB + (21 : Int).toNat) (v := vl 0) (nx := 18) (r1 := 0) (r2 := 0) (r3 := 1) rfl (by decide) (by decide) rfl ?_
                                          refine wi_lload_n (i := 0) (e := a0) (nx := 19) (r1 := 0) (r2 := 0) (r3 := 0) rfl rfl ?_
                                          refine wi_lcmp (a := 0) (e := a0) (nx := 20) (r1 := 0) (r2 := 0) (r3 := 0) rfl (by omega) (by omega) (fun r62 (fr62 : (r62 = -1 ∧ 0 < a0) ∨ (r62 = 0 ∧ 0 = a0) ∨ (r62 = 1 ∧ a0 < 0)) => ?_)
                                          refine wi_if (cd := .ne) (nx := 23) (r1 := 29) (r2 := 0) (r3 := 0) rfl (by omega) (fun (q63 : r62 ≠ 0) => ?_) (fun (q63 : ¬ (r62 ≠ 0)) => ?_)
                                          ·
                                            refine wr_iincL (i := 2) (n := 1) (v := 20) (21) ([(2, vi 21), (0, vl a0)]) (nx := 32) (r1 := 0) (r2 := 0) (r3 := 0) rfl rfl (by decide) rfl ?_
                                            refine wi_goto (nx := 35) (r1 := 2) (r2 := 0) (r3 := 0) rfl ?_
                                            refine wi_iload_n (i := 2) (e := 21) (nx := 3) (r1 := 0) (r2 := 0) (r3 := 0) rfl rfl ?_
                                            refine wr_gst (v := .ref 1000022) (nx := 6) (r1 := 21) (r2 := 0) (r3 := 0) rfl rfl rfl ?_
                                            refine wr_xl (k0 := 1000022) (e := 21) (nx := 7) (r1 := 0) (r2 := 0) (r3 := 0) rfl (by decide) rfl rfl ?_
                                            refine wi_icmp (cd := .ge) (nx := 10) (r1 := 35) (r2 := 0) (r3 := 0) rfl (by omega) (by omega) (fun (q64 : 21 ≤ 21) => ?_) (fun (q64 : ¬ (21 ≤ 21)) => by exfalso; omega)
                                            refine wr_gst (v := wv 21) (nx := 38) (r1 := 20) (r2 := 0) (r3 := 0) rfl rfl rfl ?_
                                            refine wr_areturn (x := 21) (nx := 39) (r1 := 0) (r2 := 0) (r3 := 0) rfl _ rfl ?_
                                            exact k 21 (by omega) (by unfold tk_wd tk_K8; simp only [tk_ix]; rw [if_neg (by omega), if_neg (by omega), if_neg (by omega), if_neg (by omega), if_neg (by omega), if_neg (by omega), if_neg (by omega), if_neg (by omega), if_neg (by omega), if_neg (by omega), if_neg (by omega), if_neg (by omega), if_neg (by omega), if_neg (by omega), if_neg (by omega), if_neg (by omega), if_neg (by omega), if_neg (by omega), if_neg (by omega), if_neg (by omega)]; try rfl)
                                          ·
                                            refine wr_gst (v := .ref 1000022) (nx := 26) (r1 := 21) (r2 := 0) (r3 := 0) rfl rfl rfl ?_
                                            refine wi_iload_n (i := 2) (e := 20) (nx := 27) (r1 := 0) (r2 := 0) (r3 := 0) rfl rfl ?_
                                            refine wr_xa (k0 := 1000022) (a := 20) (f := 20) (v := wv 21) .aaload (Or.inr (Or.inr ⟨rfl, by decide⟩)) (nx := 28) (r1 := 0) (r2 := 0) (r3 := 0) rfl (by decide) rfl rfl (by decide) (by decide) rfl ?_
                                            refine wr_areturn (x := 21) (nx := 29) (r1 := 0) (r2 := 0) (r3 := 0) rfl _ rfl ?_
                                            exact k 21 (by omega) (by unfold tk_wd tk_K8; simp only [tk_ix]; rw [if_neg (by omega), if_neg (by omega), if_neg (by omega), if_neg (by omega), if_neg (by omega), if_neg (by omega), if_neg (by omega), if_neg (by omega), if_neg (by omega), if_neg (by omega), if_neg (by omega), if_neg (by omega), if_neg (by omega), if_neg (by omega), if_neg (by omega), if_neg (by omega), if_neg (by omega), if_neg (by omega), if_neg (by omega), if_neg (by omega)]; try rfl)
                                        ·
                                          refine wr_gst (v := .ref 1000022) (nx := 26) (r1 := 21) (r2 := 0) (r3 := 0) rfl rfl rfl ?_
                                          refine wi_iload_n (i := 2) (e := 19) (nx := 27) (r1 := 0) (r2 := 0) (r3 := 0) rfl rfl ?_
                                          refine wr_xa (k0 := 1000022) (a := 19) (f := 19) (v := wv 20) .aaload (Or.inr (Or.inr ⟨rfl, by decide⟩)) (nx := 28) (r1 := 0) (r2 := 0) (r3 := 0) rfl (by decide) rfl rfl (by decide) (by decide) rfl ?_
                                          refine wr_areturn (x := 20) (nx := 29) (r1 := 0) (r2 := 0) (r3 := 0) rfl _ rfl ?_
                                          exact k 20 (by omega) (by unfold tk_wd tk_K8; simp only [tk_ix]; rw [if_neg (by omega), if_neg (by omega), if_neg (by omega), if_neg (by omega), if_neg (by omega), if_neg (by omega), if_neg (by omega), if_neg (by omega), if_neg (by omega), if_neg (by omega), if_neg (by omega), if_neg (by omega), if_neg (by omega), if_neg (by omega), if_neg (by omega), if_neg (by omega), if_neg (by omega), if_neg (by omega), if_neg (by omega), if_pos (by omega)]; try rfl)
                                      ·
                                        refine wr_gst (v := .ref 1000022) (nx := 26) (r1 := 21) (r2 := 0) (r3 := 0) rfl rfl rfl ?_
                                        refine wi_iload_n (i := 2) (e := 18) (nx := 27) (r1 := 0) (r2 := 0) (r3 := 0) rfl rfl ?_
                                        refine wr_xa (k0 := 1000022) (a := 18) (f := 18) (v := wv 19) .aaload (Or.inr (Or.inr ⟨rfl, by decide⟩)) (nx := 28) (r1 := 0) (r2 := 0) (r3 := 0) rfl (by decide) rfl rfl (by decide) (by decide) rfl ?_
                                        refine wr_areturn (x := 19) (nx := 29) (r1 := 0) (r2 := 0) (r3 := 0) rfl _ rfl ?_
                                        exact k 19 (by omega) (by unfold tk_wd tk_K8; simp only [tk_ix]; rw [if_neg (by omega), if_neg (by omega), if_neg (by omega), if_neg (by omega), if_neg (by omega), if_neg (by omega), if_neg (by omega), if_neg (by omega), if_neg (by omega), if_neg (by omega), if_neg (by omega), if_neg (by omega), if_neg (by omega), if_neg (by omega), if_neg (by omega), if_neg (by omega), if_neg (by omega), if_neg (by omega), if_pos (by omega)]; try rfl)
                                    ·
                                      refine wr_gst (v := .ref 1000022) (nx := 26) (r1 := 21) (r2 := 0) (r3 := 0) rfl rfl rfl ?_
                                      refine wi_iload_n (i := 2) (e := 17) (nx := 27) (r1 := 0) (r2 := 0) (r3 := 0) rfl rfl ?_
                                      refine wr_xa (k0 := 1000022) (a := 17) (f := 17) (v := wv 18) .aaload (Or.inr (Or.inr ⟨rfl, by decide⟩)) (nx := 28) (r1 := 0) (r2 := 0) (r3 := 0) rfl (by decide) rfl rfl (by decide) (by decide) rfl ?_
                                      refine wr_areturn (x := 18) (nx := 29) (r1 := 0) (r2 := 0) (r3 := 0) rfl _ rfl ?_
                                      exact k 18 (by omega) (by unfold tk_wd tk_K8; simp only [tk_ix]; rw [if_neg (by omega), if_neg (by omega), if_neg (by omega), if_neg (by omega), if_neg (by omega), if_neg (by omega), if_neg (by omega), if_neg (by omega), if_neg (by omega), if_neg (by omega), if_neg (by omega), if_neg (by omega), if_neg (by omega), if_neg (by omega), if_neg (by omega), if_neg (by omega), if_neg (by omega), if_pos (by omega)]; try rfl)
                                  ·
                                    refine wr_gst (v := .ref 1000022) (nx := 26) (r1 := 21) (r2 := 0) (r3 := 0) rfl rfl rfl ?_
                                    refine wi_iload_n (i := 2) (e := 16) (nx := 27) (r1 := 0) (r2 := 0) (r3 := 0) rfl rfl ?_
                                    refine wr_xa (k0 := 1000022) (a := 16) (f := 16) (v := wv 17) .aaload (Or.inr (Or.inr ⟨rfl, by decide⟩)) (nx := 28) (r1 := 0) (r2 := 0) (r3 := 0) rfl (by decide) rfl rfl (by decide) (by decide) rfl ?_
                                    refine wr_areturn (x := 17) (nx := 29) (r1 := 0) (r2 := 0) (r3 := 0) rfl _ rfl ?_
                                    exact k 17 (by omega) (by unfold tk_wd tk_K8; simp only [tk_ix]; rw [if_neg (by omega), if_neg (by omega), if_neg (by omega), if_neg (by omega), if_neg (by omega), if_neg (by omega), if_neg (by omega), if_neg (by omega), if_neg (by omega), if_neg (by omega), if_neg (by omega), if_neg (by omega), if_neg (by omega), if_neg (by omega), if_neg (by omega), if_neg (by omega), if_pos (by omega)]; try rfl)
                                ·
                                  refine wr_gst (v := .ref 1000022) (nx := 26) (r1 := 21) (r2 := 0) (r3 := 0) rfl rfl rfl ?_
                                  refine wi_iload_n (i := 2) (e := 15) (nx := 27) (r1 := 0) (r2 := 0) (r3 := 0) rfl rfl ?_
                                  refine wr_xa (k0 := 1000022) (a := 15) (f := 15) (v := wv 16) .aaload (Or.inr (Or.inr ⟨rfl, by decide⟩)) (nx := 28) (r1 := 0) (r2 := 0) (r3 := 0) rfl (by decide) rfl rfl (by decide) (by decide) rfl ?_
                                  refine wr_areturn (x := 16) (nx := 29) (r1 := 0) (r2 := 0) (r3 := 0) rfl _ rfl ?_
                                  exact k 16 (by omega) (by unfold tk_wd tk_K8; simp only [tk_ix]; rw [if_neg (by omega), if_neg (by omega), if_neg (by omega), if_neg (by omega), if_neg (by omega), if_neg (by omega), if_neg (by omega), if_neg (by omega), if_neg (by omega), if_neg (by omega), if_neg (by omega), if_neg (by omega), if_neg (by omega), if_neg (by omega), if_neg (by omega), if_pos (by omega)]; try rfl)
                              ·
                                refine wr_gst (v := .ref 1000022) (nx := 26) (r1 := 21) (r2 := 0) (r3 := 0) rfl rfl rfl ?_
                                refine wi_iload_n (i := 2) (e := 14) (nx := 27) (r1 := 0) (r2 := 0) (r3 := 0) rfl rfl ?_
                                refine wr_xa (k0 := 1000022) (a := 14) (f := 14) (v := wv 15) .aaload (Or.inr (Or.inr ⟨rfl, by decide⟩)) (nx := 28) (r1 := 0) (r2 := 0) (r3 := 0) rfl (by decide) rfl rfl (by decide) (by decide) rfl ?_
                                refine wr_areturn (x := 15) (nx := 29) (r1 := 0) (r2 := 0) (r3 := 0) rfl _ rfl ?_
                                exact k 15 (by omega) (by unfold tk_wd tk_K8; simp only [tk_ix]; rw [if_neg (by omega), if_neg (by omega), if_neg (by omega), if_neg (by omega), if_neg (by omega), if_neg (by omega), if_neg (by omega), if_neg (by omega), if_neg (by omega), if_neg (by omega), if_neg (by omega), if_neg (by omega), if_neg (by omega), if_neg (by omega), if_pos (by omega)]; try rfl)
                            ·
                              refine wr_gst (v := .ref 1000022) (nx := 26) (r1 := 21) (r2 := 0) (r3 := 0) rfl rfl rfl ?_
                              refine wi_iload_n (i := 2) (e := 13) (nx := 27) (r1 := 0) (r2 := 0) (r3 := 0) rfl rfl ?_
                              refine wr_xa (k0 := 1000022) (a := 13) (f := 13) (v := wv 14) .aaload (Or.inr (Or.inr ⟨rfl, by decide⟩)) (nx := 28) (r1 := 0) (r2 := 0) (r3 := 0) rfl (by decide) rfl rfl (by decide) (by decide) rfl ?_
                              refine wr_areturn (x := 14) (nx := 29) (r1 := 0) (r2 := 0) (r3 := 0) rfl _ rfl ?_
                              exact k 14 (by omega) (by unfold tk_wd tk_K8; simp only [tk_ix]; rw [if_neg (by omega), if_neg (by omega), if_neg (by omega), if_neg (by omega), if_neg (by omega), if_neg (by omega), if_neg (by omega), if_neg (by omega), if_neg (by omega), if_neg (by omega), if_neg (by omega), if_neg (by omega), if_neg (by omega), if_pos (by omega)]; try rfl)
                          ·
                            refine wr_gst (v := .ref 1000022) (nx := 26) (r1 := 21) (r2 := 0) (r3 := 0) rfl rfl rfl ?_
                            refine wi_iload_n (i := 2) (e := 12) (nx := 27) (r1 := 0) (r2 := 0) (r3 := 0) rfl rfl ?_
                            refine wr_xa (k0 := 1000022) (a := 12) (f := 12) (v := wv 13) .aaload (Or.inr (Or.inr ⟨rfl, by decide⟩)) (nx := 28) (r1 := 0) (r2 := 0) (r3 := 0) rfl (by decide) rfl rfl (by decide) (by decide) rfl ?_
                            refine wr_areturn (x := 13) (nx := 29) (r1 := 0) (r2 := 0) (r3 := 0) rfl _ rfl ?_
                            exact k 13 (by omega) (by unfold tk_wd tk_K8; simp only [tk_ix]; rw [if_neg (by omega), if_neg (by omega), if_neg (by omega), if_neg (by omega), if_neg (by omega), if_neg (by omega), if_neg (by omega), if_neg (by omega), if_neg (by omega), if_neg (by omega), if_neg (by omega), if_neg (by omega), if_pos (by omega)]; try rfl)
                        ·
                          refine wr_gst (v := .ref 1000022) (nx := 26) (r1 := 21) (r2 := 0) (r3 := 0) rfl rfl rfl ?_
                          refine wi_iload_n (i := 2) (e := 11) (nx := 27) (r1 := 0) (r2 := 0) (r3 := 0) rfl rfl ?_
                          refine wr_xa (k0 := 1000022) (a := 11) (f := 11) (v := wv 12) .aaload (Or.inr (Or.inr ⟨rfl, by decide⟩)) (nx := 28) (r1 := 0) (r2 := 0) (r3 := 0) rfl (by decide) rfl rfl (by decide) (by decide) rfl ?_
                          refine wr_areturn (x := 12) (nx := 29) (r1 := 0) (r2 := 0) (r3 := 0) rfl _ rfl ?_
                          exact k 12 (by omega) (by unfold tk_wd tk_K8; simp only [tk_ix]; rw [if_neg (by omega), if_neg (by omega), if_neg (by omega), if_neg (by omega), if_neg (by omega), if_neg (by omega), if_neg (by omega), if_neg (by omega), if_neg (by omega), if_neg (by omega), if_neg (by omega), if_pos (by omega)]; try rfl)
                      ·
                        refine wr_gst (v := .ref 1000022) (nx := 26) (r1 := 21) (r2 := 0) (r3 := 0) rfl rfl rfl ?_
                        refine wi_iload_n (i := 2) (e := 10) (nx := 27) (r1 := 0) (r2 := 0) (r3 := 0) rfl rfl ?_
                        refine wr_xa (k0 := 1000022) (a := 10) (f := 10) (v := wv 11) .aaload (Or.inr (Or.inr ⟨rfl, by decide⟩)) (nx := 28) (r1 := 0) (r2 := 0) (r3 := 0) rfl (by decide) rfl rfl (by decide) (by decide) rfl ?_
                        refine wr_areturn (x := 11) (nx := 29) (r1 := 0) (r2 := 0) (r3 := 0) rfl _ rfl ?_
                        exact k 11 (by omega) (by unfold tk_wd tk_K8; simp only [tk_ix]; rw [if_neg (by omega), if_neg (by omega), if_neg (by omega), if_neg (by omega), if_neg (by omega), if_neg (by omega), if_neg (by omega), if_neg (by omega), if_neg (by omega), if_neg (by omega), if_pos (by omega)]; try rfl)
                    ·
                      refine wr_gst (v := .ref 1000022) (nx := 26) (r1 := 21) (r2 := 0) (r3 := 0) rfl rfl rfl ?_
                      refine wi_iload_n (i := 2) (e := 9) (nx := 27) (r1 := 0) (r2 := 0) (r3 := 0) rfl rfl ?_
                      refine wr_xa (k0 := 1000022) (a := 9) (f := 9) (v := wv 10) .aaload (Or.inr (Or.inr ⟨rfl, by decide⟩)) (nx := 28) (r1 := 0) (r2 := 0) (r3 := 0) rfl (by decide) rfl rfl (by decide) (by decide) rfl ?_
                      refine wr_areturn (x := 10) (nx := 29) (r1 := 0) (r2 := 0) (r3 := 0) rfl _ rfl ?_
                      exact k 10 (by omega) (by unfold tk_wd tk_K8; simp only [tk_ix]; rw [if_neg (by omega), if_neg (by omega), if_neg (by omega), if_neg (by omega), if_neg (by omega), if_neg (by omega), if_neg (by omega), if_neg (by omega), if_neg (by omega), if_pos (by omega)]; try rfl)
                  ·
                    refine wr_gst (v := .ref 1000022) (nx := 26) (r1 := 21) (r2 := 0) (r3 := 0) rfl rfl rfl ?_
                    refine wi_iload_n (i := 2) (e := 8) (nx := 27) (r1 := 0) (r2 := 0) (r3 := 0) rfl rfl ?_
                    refine wr_xa (k0 := 1000022) (a := 8) (f := 8) (v := wv 9) .aaload (Or.inr (Or.inr ⟨rfl, by decide⟩)) (nx := 28) (r1 := 0) (r2 := 0) (r3 := 0) rfl (by decide) rfl rfl (by decide) (by decide) rfl ?_
                    refine wr_areturn (x := 9) (nx := 29) (r1 := 0) (r2 := 0) (r3 := 0) rfl _ rfl ?_
                    exact k 9 (by omega) (by unfold tk_wd tk_K8; simp only [tk_ix]; rw [if_neg (by omega), if_neg (by omega), if_neg (by omega), if_neg (by omega), if_neg (by omega), if_neg (by omega), if_neg (by omega), if_neg (by omega), if_pos (by omega)]; try rfl)
                ·
                  refine wr_gst (v := .ref 1000022) (nx := 26) (r1 := 21) (r2 := 0) (r3 := 0) rfl rfl rfl ?_
                  refine wi_iload_n (i := 2) (e := 7) (nx := 27) (r1 := 0) (r2 := 0) (r3 := 0) rfl rfl ?_
                  refine wr_xa (k0 := 1000022) (a := 7) (f := 7) (v := wv 8) .aaload (Or.inr (Or.inr ⟨rfl, by decide⟩)) (nx := 28) (r1 := 0) (r2 := 0) (r3 := 0) rfl (by decide) rfl rfl (by decide) (by decide) rfl ?_
                  refine wr_areturn (x := 8) (nx := 29) (r1 := 0) (r2 := 0) (r3 := 0) rfl _ rfl ?_
                  exact k 8 (by omega) (by unfold tk_wd tk_K8; simp only [tk_ix]; rw [if_neg (by omega), if_neg (by omega), if_neg (by omega), if_neg (by omega), if_neg (by omega), if_neg (by omega), if_neg (by omega), if_pos (by omega)]; try rfl)
              ·
                refine wr_gst (v := .ref 1000022) (nx := 26) (r1 := 21) (r2 := 0) (r3 := 0) rfl rfl rfl ?_
                refine wi_iload_n (i := 2) (e := 6) (nx := 27) (r1 := 0) (r2 := 0) (r3 := 0) rfl rfl ?_
                refine wr_xa (k0 := 1000022) (a := 6) (f := 6) (v := wv 7) .aaload (Or.inr (Or.inr ⟨rfl, by decide⟩)) (nx := 28) (r1 := 0) (r2 := 0) (r3 := 0) rfl (by decide) rfl rfl (by decide) (by decide) rfl ?_
                refine wr_areturn (x := 7) (nx := 29) (r1 := 0) (r2 := 0) (r3 := 0) rfl _ rfl ?_
                exact k 7 (by omega) (by unfold tk_wd tk_K8; simp only [tk_ix]; rw [if_neg (by omega), if_neg (by omega), if_neg (by omega), if_neg (by omega), if_neg (by omega), if_neg (by omega), if_pos (by omega)]; try rfl)
            ·
              refine wr_gst (v := .ref 1000022) (nx := 26) (r1 := 21) (r2 := 0) (r3 := 0) rfl rfl rfl ?_
              refine wi_iload_n (i := 2) (e := 5) (nx := 27) (r1 := 0) (r2 := 0) (r3 := 0) rfl rfl ?_
              refine wr_xa (k0 := 1000022) (a := 5) (f := 5) (v := wv 6) .aaload (Or.inr (Or.inr ⟨rfl, by decide⟩)) (nx := 28) (r1 := 0) (r2 := 0) (r3 := 0) rfl (by decide) rfl rfl (by decide) (by decide) rfl ?_
              refine wr_areturn (x := 6) (nx := 29) (r1 := 0) (r2 := 0) (r3 := 0) rfl _ rfl ?_
              exact k 6 (by omega) (by unfold tk_wd tk_K8; simp only [tk_ix]; rw [if_neg (by omega), if_neg (by omega), if_neg (by omega), if_neg (by omega), if_neg (by omega), if_pos (by omega)]; try rfl)
          ·
            refine wr_gst (v := .ref 1000022) (nx := 26) (r1 := 21) (r2 := 0) (r3 := 0) rfl rfl rfl ?_
            refine wi_iload_n (i := 2) (e := 4) (nx := 27) (r1 := 0) (r2 := 0) (r3 := 0) rfl rfl ?_
            refine wr_xa (k0 := 1000022) (a := 4) (f := 4) (v := wv 5) .aaload (Or.inr (Or.inr ⟨rfl, by decide⟩)) (nx := 28) (r1 := 0) (r2 := 0) (r3 := 0) rfl (by decide) rfl rfl (by decide) (by decide) rfl ?_
            refine wr_areturn (x := 5) (nx := 29) (r1 := 0) (r2 := 0) (r3 := 0) rfl _ rfl ?_
            exact k 5 (by omega) (by unfold tk_wd tk_K8; simp only [tk_ix]; rw [if_neg (by omega), if_neg (by omega), if_neg (by omega), if_neg (by omega), if_pos (by omega)]; try rfl)
        ·
          refine wr_gst (v := .ref 1000022) (nx := 26) (r1 := 21) (r2 := 0) (r3 := 0) rfl rfl rfl ?_
          refine wi_iload_n (i := 2) (e := 3) (nx := 27) (r1 := 0) (r2 := 0) (r3 := 0) rfl rfl ?_
          refine wr_xa (k0 := 1000022) (a := 3) (f := 3) (v := wv 4) .aaload (Or.inr (Or.inr ⟨rfl, by decide⟩)) (nx := 28) (r1 := 0) (r2 := 0) (r3 := 0) rfl (by decide) rfl rfl (by decide) (by decide) rfl ?_
          refine wr_areturn (x := 4) (nx := 29) (r1 := 0) (r2 := 0) (r3 := 0) rfl _ rfl ?_
          exact k 4 (by omega) (by unfold tk_wd tk_K8; simp only [tk_ix]; rw [if_neg (by omega), if_neg (by omega), if_neg (by omega), if_pos (by omega)]; try rfl)
      ·
        refine wr_gst (v := .ref 1000022) (nx := 26) (r1 := 21) (r2 := 0) (r3 := 0) rfl rfl rfl ?_
        refine wi_iload_n (i := 2) (e := 2) (nx := 27) (r1 := 0) (r2 := 0) (r3 := 0) rfl rfl ?_
        refine wr_xa (k0 := 1000022) (a := 2) (f := 2) (v := wv 3) .aaload (Or.inr (Or.inr ⟨rfl, by decide⟩)) (nx := 28) (r1 := 0) (r2 := 0) (r3 := 0) rfl (by decide) rfl rfl (by decide) (by decide) rfl ?_
        refine wr_areturn (x := 3) (nx := 29) (r1 := 0) (r2 := 0) (r3 := 0) rfl _ rfl ?_
        exact k 3 (by omega) (by unfold tk_wd tk_K8; simp only [tk_ix]; rw [if_neg (by omega), if_neg (by omega), if_pos (by omega)]; try rfl)
    ·
      refine wr_gst (v := .ref 1000022) (nx := 26) (r1 := 21) (r2 := 0) (r3 := 0) rfl rfl rfl ?_
      refine wi_iload_n (i := 2) (e := 1) (nx := 27) (r1 := 0) (r2 := 0) (r3 := 0) rfl rfl ?_
      refine wr_xa (k0 := 1000022) (a := 1) (f := 1) (v := wv 2) .aaload (Or.inr (Or.inr ⟨rfl, by decide⟩)) (nx := 28) (r1 := 0) (r2 := 0) (r3 := 0) rfl (by decide) rfl rfl (by decide) (by decide) rfl ?_
      refine wr_areturn (x := 2) (nx := 29) (r1 := 0) (r2 := 0) (r3 := 0) rfl _ rfl ?_
      exact k 2 (by omega) (by unfold tk_wd tk_K8; simp only [tk_ix]; rw [if_neg (by omega), if_pos (by omega)]; try rfl)
  ·
    refine wr_gst (v := .ref 1000022) (nx := 26) (r1 := 21) (r2 := 0) (r3 := 0) rfl rfl rfl ?_
    refine wi_iload_n (i := 2) (e := 0) (nx := 27) (r1 := 0) (r2 := 0) (r3 := 0) rfl rfl ?_
    refine wr_xa (k0 := 1000022) (a := 0) (f := 0) (v := wv 1) .aaload (Or.inr (Or.inr ⟨rfl, by decide⟩)) (nx := 28) (r1 := 0) (r2 := 0) (r3 := 0) rfl (by decide) rfl rfl (by decide) (by decide) rfl ?_
    refine wr_areturn (x := 1) (nx := 29) (r1 := 0) (r2 := 0) (r3 := 0) rfl _ rfl ?_
    exact k 1 (by omega) (by unfold tk_wd tk_K8; simp only [tk_ix]; rw [if_pos (by omega)]; try rfl)
-- method 97: Text.readWord()V
set_option maxRecDepth 100000 in
set_option maxHeartbeats 100000000 in
theorem ct_97_1 {L : Nat} {xs : Nat → Int32} {d b c : Nat} {h : hp} {cr : Nat → Nat → Option Nat} {Q : hp_Q} (hcr : CR cr)  {tB : Nat → Int} {tn ts : Int} (g : GI h)   (pp0 : h 1 4 = ts) (pp1 : h 1 6 = ts) (pp2 : 0 ≤ ts) (pp3 : ts ≤ tn) (xq0 : BufC tB tn h) (k : ∀ (h2 : hp) , GI h2 → FR [(1, 1, some (4, 4)), (1, 1, some (5, 5)), (1, 1, some (8, 8)), (1, 1, some (9, 9))] h h2 → (h2 1 4 = tk_le tB tn ts) → ((8 < tk_le tB tn ts - ts ∧ h2 1 5 = 6) ∨ (tk_le tB tn ts - ts ≤ 8 ∧ h2 1 5 = 1 ∧ h2 1 8 = tk_w8 tB tn ts 0 ∧ h2 1 9 = tk_wd (tk_w8 tB tn ts 0))) → Q (.inl none) (hp_w h2 cr) b c) : wp (md_xa (L, xs)) (d + 1) 97 (0, [(0, .ref 1)], [], hp_w h cr, b, c) Q := by
  have F0 : FR [(1, 1, some (4, 4)), (1, 1, some (5, 5)), (1, 1, some (8, 8)), (1, 1, some (9, 9))] h h := FR.refl
  have tb_1 : h 1 1 = tn := xq0.2.1
  have tb_2 : 0 ≤ tn ∧ tn ≤ 800 := xq0.2.2
  have b1 := gi_b (lo := 0) (hi := 800) g 1 4 rfl
  have b2 := gi_b (lo := 0) (hi := 800) g 1 6 rfl
  refine wi_aload_n (i := 0) (x := 1) (nx := 1) (r1 := 0) (r2 := 0) (r3 := 0) rfl rfl ?_
  refine wi_lconst (n := 0) (e := 0) (nx := 2) (r1 := 0) (r2 := 0) (r3 := 0) rfl (by decide) ?_
  refine wr_pf1 (k0 := 1) (x := 0) (bl := -9223372036854775808) (bh := 9223372036854775807) (nx := 5) (r1 := 1) (r2 := 8) (r3 := 1) rfl (by decide) rfl ⟨rfl, rfl⟩ rfl rfl g rfl (by omega) (fun h3 g3 w3 u3 => ?_)
  have F4 := F0.then rfl u3
  have e6 : h3 1 4 = h 1 4 := (u3 1 4 rfl)
  have e7 : h3 1 8 = 0 := w3
  have b8 := gi_b (lo := 0) (hi := 800) g 1 1 rfl
  have e9 : h3 1 1 = h 1 1 := (u3 1 1 rfl)
  refine wl_0 (fun h5 => GI h5 ∧ FR [(1, 1, some (4, 4)), (1, 1, some (5, 5)), (1, 1, some (8, 8)), (1, 1, some (9, 9))] h h5 ∧ FR [(1, 1, some (4, 4)), (1, 1, some (8, 8))] h3 h5 ∧ (((h5 1 4) ≤ (h5 1 1))) ∧ tk_I tk_lt tB 256 0 8 2 tn ts (h5 1 4) (h5 1 8)) (fun h5 => ((h5 1 1) - (h5 1 4)).toNat) (fun h5 => (5, [(0, .ref 1)], [], hp_w h5 cr, b, c)) ?_ h3 ⟨g3, F4, FR.refl, (show ((h3 1 4) ≤ (h3 1 1)) by omega), (tk_I0 (by omega) (by omega) (show h3 1 4 = ts by omega) (show h3 1 8 = 0 by omega))⟩
  intro h5 ⟨g5, F10, u5, f5, X5_0⟩ I5
  have e11 : h5 1 1 = h 1 1 := ((u5 1 1 rfl).trans (u3 1 1 rfl))
  have b12 := gi_b (lo := 0) (hi := 800) g5 1 4 rfl
  refine wi_aload_n (i := 0) (x := 1) (nx := 6) (r1 := 0) (r2 := 0) (r3 := 0) rfl rfl ?_
  refine wr_gi0 (k0 := 1) (x := h5 1 4) (nx := 9) (r1 := 1) (r2 := 4) (r3 := 0) rfl rfl (by decide) rfl ⟨rfl, rfl⟩ rfl rfl ?_
  refine wi_aload_n (i := 0) (x := 1) (nx := 10) (r1 := 0) (r2 := 0) (r3 := 0) rfl rfl ?_
  refine wr_gi0 (k0 := 1) (x := h 1 1) (nx := 13) (r1 := 1) (r2 := 1) (r3 := 0) rfl rfl (by decide) rfl ⟨rfl, rfl⟩ rfl ((u5 1 1 rfl).trans (u3 1 1 rfl)) ?_
  refine wi_icmp (cd := .ge) (nx := 16) (r1 := 66) (r2 := 0) (r3 := 0) rfl (by omega) (by omega) (fun (q13 : (h 1 1) ≤ (h5 1 4)) => ?_) (fun (q13 : ¬ ((h 1 1) ≤ (h5 1 4))) => ?_)
  ·
    have tI14 : tk_le tB tn ts = h5 1 4 ∧ (h5 1 4 - ts ≤ 8 → tk_w8 tB tn ts 0 = h5 1 8) := tk_Ie X5_0 (Or.inl (by omega))
    refine wi_aload_n (i := 0) (x := 1) (nx := 67) (r1 := 0) (r2 := 0) (r3 := 0) rfl rfl ?_
    refine wi_aload_n (i := 0) (x := 1) (nx := 68) (r1 := 0) (r2 := 0) (r3 := 0) rfl rfl ?_
    refine wr_gi0 (k0 := 1) (x := h5 1 4) (nx := 71) (r1 := 1) (r2 := 4) (r3 := 0) rfl rfl (by decide) rfl ⟨rfl, rfl⟩ rfl rfl ?_
    refine wi_aload_n (i := 0) (x := 1) (nx := 72) (r1 := 0) (r2 := 0) (r3 := 0) rfl rfl ?_
    refine wr_gi0 (k0 := 1) (x := h 1 6) (nx := 75) (r1 := 1) (r2 := 6) (r3 := 0) rfl rfl (by decide) rfl ⟨rfl, rfl⟩ rfl ((u5 1 6 rfl).trans (u3 1 6 rfl)) ?_
    refine wr_sub (nx := 76) (r1 := 0) (r2 := 0) (r3 := 0) rfl (fun e15 (fe15 : e15 = (h5 1 4) - (h 1 6)) => ?_)
    refine wi_bipush (n := 8) (nx := 78) (r1 := 0) (r2 := 0) (r3 := 0) rfl (by decide) ?_
    refine wi_icmp (cd := .gt) (nx := 81) (r1 := 85) (r2 := 0) (r3 := 0) rfl (by omega) (by omega) (fun (q16 : 8 < e15) => ?_) (fun (q16 : ¬ (8 < e15)) => ?_)
    ·
      refine wi_bipush (n := 6) (nx := 87) (r1 := 0) (r2 := 0) (r3 := 0) rfl (by decide) ?_
      refine wr_pf0 (k0 := 1) (x := 6) (bl := 0) (bh := 6) (nx := 90) (r1 := 1) (r2 := 5) (r3 := 0) rfl (by decide) rfl ⟨rfl, rfl⟩ rfl rfl g5 rfl (by omega) (fun h17 g17 w17 u17 => ?_)
      have F18 := F10.then rfl u17
      refine wi_aload_n (i := 0) (x := 1) (nx := 91) (r1 := 0) (r2 := 0) (r3 := 0) rfl rfl ?_
      refine wi_aload_n (i := 0) (x := 1) (nx := 92) (r1 := 0) (r2 := 0) (r3 := 0) rfl rfl ?_
      have b19 := gi_b (lo := -9223372036854775808) (hi := 9223372036854775807) g5 1 8 rfl
      refine wr_gi1 (k0 := 1) (x := h5 1 8) (nx := 95) (r1 := 1) (r2 := 8) (r3 := 0) rfl rfl (by decide) rfl ⟨rfl, rfl⟩ rfl (u17 1 8 rfl) ?_
      refine wi_S (rest := [.ref 1]) (as := [vl (h5 1 8)]) (nx := 98) (r1 := 90) (r2 := 17) (r3 := 0) rfl rfl rfl (of_decide_eq_true rfl) rfl rfl (of_decide_eq_true rfl) (of_decide_eq_true rfl) ?_
      refine ct_90 hcr  g17 (h5 1 8) (by omega)  (fun z21  (fz21 : 1 ≤ z21 ∧ z21 ≤ 21) y20_0 => ?_)
      refine wk_i ?_
      have tW22 : h5 1 4 - ts ≤ 8 → z21 = tk_wd (tk_w8 tB tn ts 0) := fun e => by rw [tI14.2 e]; exact y20_0
      refine wr_pf3 (k0 := 1) (x := z21) (bl := 1) (bh := 21) (nx := 101) (r1 := 1) (r2 := 9) (r3 := 3) rfl (by decide) rfl ⟨rfl, rfl⟩ rfl rfl g17 rfl (by omega) (fun h23 g23 w23 u23 => ?_)
      have F24 := F18.then rfl u23
      refine wi_return (nx := 102) (r1 := 0) (r2 := 0) (r3 := 0) rfl rfl ?_
      have e25 : h23 1 4 = h5 1 4 := ((u23 1 4 rfl).trans (u17 1 4 rfl))
      have e26 : h23 1 5 = 6 := ((u23 1 5 rfl).trans w17)
      have e27 : h23 1 8 = h5 1 8 := ((u23 1 8 rfl).trans (u17 1 8 rfl))
      have e28 : h23 1 9 = z21 := w23
      exact k h23 g23 F24 (show (h23 1 4) = tk_le tB tn ts by omega) (show (8 < tk_le tB tn ts - ts ∧ (h23 1 5) = 6) ∨ (tk_le tB tn ts - ts ≤ 8 ∧ (h23 1 5) = 1 ∧ (h23 1 8) = tk_w8 tB tn ts 0 ∧ (h23 1 9) = tk_wd (tk_w8 tB tn ts 0)) by omega)
    ·
      refine wi_iconst (n := 1) (nx := 82) (r1 := 0) (r2 := 0) (r3 := 0) rfl ?_
      refine wi_goto (nx := 85) (r1 := 87) (r2 := 0) (r3 := 0) rfl ?_
      refine wr_pf0 (k0 := 1) (x := 1) (bl := 0) (bh := 6) (nx := 90) (r1 := 1) (r2 := 5) (r3 := 0) rfl (by decide) rfl ⟨rfl, rfl⟩ rfl rfl g5 rfl (by omega) (fun h17 g17 w17 u17 => ?_)
      have F18 := F10.then rfl u17
      refine wi_aload_n (i := 0) (x := 1) (nx := 91) (r1 := 0) (r2 := 0) (r3 := 0) rfl rfl ?_
      refine wi_aload_n (i := 0) (x := 1) (nx := 92) (r1 := 0) (r2 := 0) (r3 := 0) rfl rfl ?_
      have b19 := gi_b (lo := -9223372036854775808) (hi := 9223372036854775807) g5 1 8 rfl
      refine wr_gi1 (k0 := 1) (x := h5 1 8) (nx := 95) (r1 := 1) (r2 := 8) (r3 := 0) rfl rfl (by decide) rfl ⟨rfl, rfl⟩ rfl (u17 1 8 rfl) ?_
      refine wi_S (rest := [.ref 1]) (as := [vl (h5 1 8)]) (nx := 98) (r1 := 90) (r2 := 17) (r3 := 0) rfl rfl rfl (of_decide_eq_true rfl) rfl rfl (of_decide_eq_true rfl) (of_decide_eq_true rfl) ?_
      refine ct_90 hcr  g17 (h5 1 8) (by omega)  (fun z21  (fz21 : 1 ≤ z21 ∧ z21 ≤ 21) y20_0 => ?_)
      refine wk_i ?_
      have tW22 : h5 1 4 - ts ≤ 8 → z21 = tk_wd (tk_w8 tB tn ts 0) := fun e => by rw [tI14.2 e]; exact y20_0
      refine wr_pf3 (k0 := 1) (x := z21) (bl := 1) (bh := 21) (nx := 101) (r1 := 1) (r2 := 9) (r3 := 3) rfl (by decide) rfl ⟨rfl, rfl⟩ rfl rfl g17 rfl (by omega) (fun h23 g23 w23 u23 => ?_)
      have F24 := F18.then rfl u23
      refine wi_return (nx := 102) (r1 := 0) (r2 := 0) (r3 := 0) rfl rfl ?_
      have e25 : h23 1 4 = h5 1 4 := ((u23 1 4 rfl).trans (u17 1 4 rfl))
      have e26 : h23 1 5 = 1 := ((u23 1 5 rfl).trans w17)
      have e27 : h23 1 8 = h5 1 8 := ((u23 1 8 rfl).trans (u17 1 8 rfl))
      have e28 : h23 1 9 = z21 := w23
      exact k h23 g23 F24 (show (h23 1 4) = tk_le tB tn ts by omega) (show (8 < tk_le tB tn ts - ts ∧ (h23 1 5) = 6) ∨ (tk_le tB tn ts - ts ≤ 8 ∧ (h23 1 5) = 1 ∧ (h23 1 8) = tk_w8 tB tn ts 0 ∧ (h23 1 9) = tk_wd (tk_w8 tB tn ts 0)) by omega)
  ·
    refine wi_aload_n (i := 0) (x := 1) (nx := 17) (r1 := 0) (r2 := 0) (r3 := 0) rfl rfl ?_
    refine wr_gr (k0 := 1) (x := 2) (nx := 20) (r1 := 1) (r2 := 0) (r3 := 0) rfl rfl (by decide) rfl ⟨rfl, rfl⟩ rfl ?_
    refine wi_aload_n (i := 0) (x := 1) (nx := 21) (r1 := 0) (r2 := 0) (r3 := 0) rfl rfl ?_
    refine wr_gi0 (k0 := 1) (x := h5 1 4) (nx := 24) (r1 := 1) (r2 := 4) (r3 := 0) rfl rfl (by decide) rfl ⟨rfl, rfl⟩ rfl rfl ?_
    obtain ⟨i14, ei14⟩ : ∃ q : Nat, (h5 1 4) = (q : Int) := ⟨(h5 1 4).toNat, by omega⟩
    have b15 := gi_b (lo := -128) (hi := 127) g 2 i14 rfl
    have ty16 : tB i14 = h 2 i14 := (xq0.1 i14).symm
    refine wr_ba (k0 := 2) (a := h5 1 4) (f := i14) (x := h 2 i14) (nx := 25) (r1 := 0) (r2 := 0) (r3 := 0) rfl (by decide) rfl (by decide) (by omega) (by omega) (by decide) ((u5 2 i14 (fn_a (by omega) (fn_a (by omega) fn_0))).trans (u3 2 i14 (fn_a (by omega) fn_0))) ?_
    refine wi_S (rest := []) (as := [vi (h 2 i14)]) (nx := 28) (r1 := 96) (r2 := 17) (r3 := 0) rfl rfl rfl (of_decide_eq_true rfl) rfl rfl (of_decide_eq_true rfl) (of_decide_eq_true rfl) ?_
    refine wi_iload_n (i := 0) (e := h 2 i14) (nx := 1) (r1 := 0) (r2 := 0) (r3 := 0) rfl rfl ?_
    refine wi_bipush (n := 97) (nx := 3) (r1 := 0) (r2 := 0) (r3 := 0) rfl (by decide) ?_
    refine wi_icmp (cd := .lt) (nx := 6) (r1 := 16) (r2 := 0) (r3 := 0) rfl (by omega) (by omega) (fun (q17 : (h 2 i14) < 97) => ?_) (fun (q17 : ¬ ((h 2 i14) < 97)) => ?_)
    ·
      refine wi_iconst (n := 0) (nx := 17) (r1 := 0) (r2 := 0) (r3 := 0) rfl ?_
      refine wi_zreturn (nx := 18) (r1 := 0) (r2 := 0) (r3 := 0) rfl rfl (by omega) ?_
      refine wk_i ?_
      refine wi_if (cd := .eq) (nx := 31) (r1 := 66) (r2 := 0) (r3 := 0) rfl (by omega) (fun (q18 : 0 = 0) => ?_) (fun (q18 : ¬ (0 = 0)) => by exfalso; omega)
      have tI19 : tk_le tB tn ts = h5 1 4 ∧ (h5 1 4 - ts ≤ 8 → tk_w8 tB tn ts 0 = h5 1 8) := tk_Ie2 X5_0 ei14 ty16 (tk_lt_f (by omega))
      refine wi_aload_n (i := 0) (x := 1) (nx := 67) (r1 := 0) (r2 := 0) (r3 := 0) rfl rfl ?_
      refine wi_aload_n (i := 0) (x := 1) (nx := 68) (r1 := 0) (r2 := 0) (r3 := 0) rfl rfl ?_
      refine wr_gi0 (k0 := 1) (x := h5 1 4) (nx := 71) (r1 := 1) (r2 := 4) (r3 := 0) rfl rfl (by decide) rfl ⟨rfl, rfl⟩ rfl rfl ?_
      refine wi_aload_n (i := 0) (x := 1) (nx := 72) (r1 := 0) (r2 := 0) (r3 := 0) rfl rfl ?_
      refine wr_gi0 (k0 := 1) (x := h 1 6) (nx := 75) (r1 := 1) (r2 := 6) (r3 := 0) rfl rfl (by decide) rfl ⟨rfl, rfl⟩ rfl ((u5 1 6 rfl).trans (u3 1 6 rfl)) ?_
      refine wr_sub (nx := 76) (r1 := 0) (r2 := 0) (r3 := 0) rfl (fun e20 (fe20 : e20 = (h5 1 4) - (h 1 6)) => ?_)
      refine wi_bipush (n := 8) (nx := 78) (r1 := 0) (r2 := 0) (r3 := 0) rfl (by decide) ?_
      refine wi_icmp (cd := .gt) (nx := 81) (r1 := 85) (r2 := 0) (r3 := 0) rfl (by omega) (by omega) (fun (q21 : 8 < e20) => ?_) (fun (q21 : ¬ (8 < e20)) => ?_)
      ·
        refine wi_bipush (n := 6) (nx := 87) (r1 := 0) (r2 := 0) (r3 := 0) rfl (by decide) ?_
        refine wr_pf0 (k0 := 1) (x := 6) (bl := 0) (bh := 6) (nx := 90) (r1 := 1) (r2 := 5) (r3 := 0) rfl (by decide) rfl ⟨rfl, rfl⟩ rfl rfl g5 rfl (by omega) (fun h22 g22 w22 u22 => ?_)
        have F23 := F10.then rfl u22
        refine wi_aload_n (i := 0) (x := 1) (nx := 91) (r1 := 0) (r2 := 0) (r3 := 0) rfl rfl ?_
        refine wi_aload_n (i := 0) (x := 1) (nx := 92) (r1 := 0) (r2 := 0) (r3 := 0) rfl rfl ?_
        have b24 := gi_b (lo := -9223372036854775808) (hi := 9223372036854775807) g5 1 8 rfl
        refine wr_gi1 (k0 := 1) (x := h5 1 8) (nx := 95) (r1 := 1) (r2 := 8) (r3 := 0) rfl rfl (by decide) rfl ⟨rfl, rfl⟩ rfl (u22 1 8 rfl) ?_
        refine wi_S (rest := [.ref 1]) (as := [vl (h5 1 8)]) (nx := 98) (r1 := 90) (r2 := 17) (r3 := 0) rfl rfl rfl (of_decide_eq_true rfl) rfl rfl (of_decide_eq_true rfl) (of_decide_eq_true rfl) ?_
        refine ct_90 hcr  g22 (h5 1 8) (by omega)  (fun z26  (fz26 : 1 ≤ z26 ∧ z26 ≤ 21) y25_0 => ?_)
        refine wk_i ?_
        have tW27 : h5 1 4 - ts ≤ 8 → z26 = tk_wd (tk_w8 tB tn ts 0) := fun e => by rw [tI19.2 e]; exact y25_0
        refine wr_pf3 (k0 := 1) (x := z26) (bl := 1) (bh := 21) (nx := 101) (r1 := 1) (r2 := 9) (r3 := 3) rfl (by decide) rfl ⟨rfl, rfl⟩ rfl rfl g22 rfl (by omega) (fun h28 g28 w28 u28 => ?_)
        have F29 := F23.then rfl u28
        refine wi_return (nx := 102) (r1 := 0) (r2 := 0) (r3 := 0) rfl rfl ?_
        have e30 : h28 1 4 = h5 1 4 := ((u28 1 4 rfl).trans (u22 1 4 rfl))
        have e31 : h28 1 5 = 6 := ((u28 1 5 rfl).trans w22)
        have e32 : h28 1 8 = h5 1 8 := ((u28 1 8 rfl).trans (u22 1 8 rfl))
        have e33 : h28 1 9 = z26 := w28
        exact k h28 g28 F29 (show (h28 1 4) = tk_le tB tn ts by omega) (show (8 < tk_le tB tn ts - ts ∧ (h28 1 5) = 6) ∨ (tk_le tB tn ts - ts ≤ 8 ∧ (h28 1 5) = 1 ∧ (h28 1 8) = tk_w8 tB tn ts 0 ∧ (h28 1 9) = tk_wd (tk_w8 tB tn ts 0)) by omega)
      ·
        refine wi_iconst (n := 1) (nx := 82) (r1 := 0) (r2 := 0) (r3 := 0) rfl ?_
        refine wi_goto (nx := 85) (r1 := 87) (r2 := 0) (r3 := 0) rfl ?_
        refine wr_pf0 (k0 := 1) (x := 1) (bl := 0) (bh := 6) (nx := 90) (r1 := 1) (r2 := 5) (r3 := 0) rfl (by decide) rfl ⟨rfl, rfl⟩ rfl rfl g5 rfl (by omega) (fun h22 g22 w22 u22 => ?_)
        have F23 := F10.then rfl u22
        refine wi_aload_n (i := 0) (x := 1) (nx := 91) (r1 := 0) (r2 := 0) (r3 := 0) rfl rfl ?_
        refine wi_aload_n (i := 0) (x := 1) (nx := 92) (r1 := 0) (r2 := 0) (r3 := 0) rfl rfl ?_
        have b24 := gi_b (lo := -9223372036854775808) (hi := 9223372036854775807) g5 1 8 rfl
        refine wr_gi1 (k0 := 1) (x := h5 1 8) (nx := 95) (r1 := 1) (r2 := 8) (r3 := 0) rfl rfl (by decide) rfl ⟨rfl, rfl⟩ rfl (u22 1 8 rfl) ?_
        refine wi_S (rest := [.ref 1]) (as := [vl (h5 1 8)]) (nx := 98) (r1 := 90) (r2 := 17) (r3 := 0) rfl rfl rfl (of_decide_eq_true rfl) rfl rfl (of_decide_eq_true rfl) (of_decide_eq_true rfl) ?_
        refine ct_90 hcr  g22 (h5 1 8) (by omega)  (fun z26  (fz26 : 1 ≤ z26 ∧ z26 ≤ 21) y25_0 => ?_)
        refine wk_i ?_
        have tW27 : h5 1 4 - ts ≤ 8 → z26 = tk_wd (tk_w8 tB tn ts 0) := fun e => by rw [tI19.2 e]; exact y25_0
        refine wr_pf3 (k0 := 1) (x := z26) (bl := 1) (bh := 21) (nx := 101) (r1 := 1) (r2 := 9) (r3 := 3) rfl (by decide) rfl ⟨rfl, rfl⟩ rfl rfl g22 rfl (by omega) (fun h28 g28 w28 u28 => ?_)
        have F29 := F23.then rfl u28
        refine wi_return (nx := 102) (r1 := 0) (r2 := 0) (r3 := 0) rfl rfl ?_
        have e30 : h28 1 4 = h5 1 4 := ((u28 1 4 rfl).trans (u22 1 4 rfl))
        have e31 : h28 1 5 = 1 := ((u28 1 5 rfl).trans w22)
        have e32 : h28 1 8 = h5 1 8 := ((u28 1 8 rfl).trans (u22 1 8 rfl))
        have e33 : h28 1 9 = z26 := w28
        exact k h28 g28 F29 (show (h28 1 4) = tk_le tB tn ts by omega) (show (8 < tk_le tB tn ts - ts ∧ (h28 1 5) = 6) ∨ (tk_le tB tn ts - ts ≤ 8 ∧ (h28 1 5) = 1 ∧ (h28 1 8) = tk_w8 tB tn ts 0 ∧ (h28 1 9) = tk_wd (tk_w8 tB tn ts 0)) by omega)
    ·
      refine wi_iload_n (i := 0) (e := h 2 i14) (nx := 7) (r1 := 0) (r2 := 0) (r3 := 0) rfl rfl ?_
      refine wi_bipush (n := 122) (nx := 9) (r1 := 0) (r2 := 0) (r3 := 0) rfl (by decide) ?_
      refine wi_icmp (cd := .gt) (nx := 12) (r1 := 16) (r2 := 0) (r3 := 0) rfl (by omega) (by omega) (fun (q18 : 122 < (h 2 i14)) => ?_) (fun (q18 : ¬ (122 < (h 2 i14))) => ?_)
      ·
        refine wi_iconst (n := 0) (nx := 17) (r1 := 0) (r2 := 0) (r3 := 0) rfl ?_
        refine wi_zreturn (nx := 18) (r1 := 0) (r2 := 0) (r3 := 0) rfl rfl (by omega) ?_
        refine wk_i ?_
        refine wi_if (cd := .eq) (nx := 31) (r1 := 66) (r2 := 0) (r3 := 0) rfl (by omega) (fun (q19 : 0 = 0) => ?_) (fun (q19 : ¬ (0 = 0)) => by exfalso; omega)
        have tI20 : tk_le tB tn ts = h5 1 4 ∧ (h5 1 4 - ts ≤ 8 → tk_w8 tB tn ts 0 = h5 1 8) := tk_Ie2 X5_0 ei14 ty16 (tk_lt_f (by omega))
        refine wi_aload_n (i := 0) (x := 1) (nx := 67) (r1 := 0) (r2 := 0) (r3 := 0) rfl rfl ?_
        refine wi_aload_n (i := 0) (x := 1) (nx := 68) (r1 := 0) (r2 := 0) (r3 := 0) rfl rfl ?_
        refine wr_gi0 (k0 := 1) (x := h5 1 4) (nx := 71) (r1 := 1) (r2 := 4) (r3 := 0) rfl rfl (by decide) rfl ⟨rfl, rfl⟩ rfl rfl ?_
        refine wi_aload_n (i := 0) (x := 1) (nx := 72) (r1 := 0) (r2 := 0) (r3 := 0) rfl rfl ?_
        refine wr_gi0 (k0 := 1) (x := h 1 6) (nx := 75) (r1 := 1) (r2 := 6) (r3 := 0) rfl rfl (by decide) rfl ⟨rfl, rfl⟩ rfl ((u5 1 6 rfl).trans (u3 1 6 rfl)) ?_
        refine wr_sub (nx := 76) (r1 := 0) (r2 := 0) (r3 := 0) rfl (fun e21 (fe21 : e21 = (h5 1 4) - (h 1 6)) => ?_)
        refine wi_bipush (n := 8) (nx := 78) (r1 := 0) (r2 := 0) (r3 := 0) rfl (by decide) ?_
        refine wi_icmp (cd := .gt) (nx := 81) (r1 := 85) (r2 := 0) (r3 := 0) rfl (by omega) (by omega) (fun (q22 : 8 < e21) => ?_) (fun (q22 : ¬ (8 < e21)) => ?_)
        ·
          refine wi_bipush (n := 6) (nx := 87) (r1 := 0) (r2 := 0) (r3 := 0) rfl (by decide) ?_
          refine wr_pf0 (k0 := 1) (x := 6) (bl := 0) (bh := 6) (nx := 90) (r1 := 1) (r2 := 5) (r3 := 0) rfl (by decide) rfl ⟨rfl, rfl⟩ rfl rfl g5 rfl (by omega) (fun h23 g23 w23 u23 => ?_)
          have F24 := F10.then rfl u23
          refine wi_aload_n (i := 0) (x := 1) (nx := 91) (r1 := 0) (r2 := 0) (r3 := 0) rfl rfl ?_
          refine wi_aload_n (i := 0) (x := 1) (nx := 92) (r1 := 0) (r2 := 0) (r3 := 0) rfl rfl ?_
          have b25 := gi_b (lo := -9223372036854775808) (hi := 9223372036854775807) g5 1 8 rfl
          refine wr_gi1 (k0 := 1) (x := h5 1 8) (nx := 95) (r1 := 1) (r2 := 8) (r3 := 0) rfl rfl (by decide) rfl ⟨rfl, rfl⟩ rfl (u23 1 8 rfl) ?_
          refine wi_S (rest := [.ref 1]) (as := [vl (h5 1 8)]) (nx := 98) (r1 := 90) (r2 := 17) (r3 := 0) rfl rfl rfl (of_decide_eq_true rfl) rfl rfl (of_decide_eq_true rfl) (of_decide_eq_true rfl) ?_
          refine ct_90 hcr  g23 (h5 1 8) (by omega)  (fun z27  (fz27 : 1 ≤ z27 ∧ z27 ≤ 21) y26_0 => ?_)
          refine wk_i ?_
          have tW28 : h5 1 4 - ts ≤ 8 → z27 = tk_wd (tk_w8 tB tn ts 0) := fun e => by rw [tI20.2 e]; exact y26_0
          refine wr_pf3 (k0 := 1) (x := z27) (bl := 1) (bh := 21) (nx := 101) (r1 := 1) (r2 := 9) (r3 := 3) rfl (by decide) rfl ⟨rfl, rfl⟩ rfl rfl g23 rfl (by omega) (fun h29 g29 w29 u29 => ?_)
          have F30 := F24.then rfl u29
          refine wi_return (nx := 102) (r1 := 0) (r2 := 0) (r3 := 0) rfl rfl ?_
          have e31 : h29 1 4 = h5 1 4 := ((u29 1 4 rfl).trans (u23 1 4 rfl))
          have e32 : h29 1 5 = 6 := ((u29 1 5 rfl).trans w23)
          have e33 : h29 1 8 = h5 1 8 := ((u29 1 8 rfl).trans (u23 1 8 rfl))
          have e34 : h29 1 9 = z27 := w29
          exact k h29 g29 F30 (show (h29 1 4) = tk_le tB tn ts by omega) (show (8 < tk_le tB tn ts - ts ∧ (h29 1 5) = 6) ∨ (tk_le tB tn ts - ts ≤ 8 ∧ (h29 1 5) = 1 ∧ (h29 1 8) = tk_w8 tB tn ts 0 ∧ (h29 1 9) = tk_wd (tk_w8 tB tn ts 0)) by omega)
        ·
          refine wi_iconst (n := 1) (nx := 82) (r1 := 0) (r2 := 0) (r3 := 0) rfl ?_
          refine wi_goto (nx := 85) (r1 := 87) (r2 := 0) (r3 := 0) rfl ?_
          refine wr_pf0 (k0 := 1) (x := 1) (bl := 0) (bh := 6) (nx := 90) (r1 := 1) (r2 := 5) (r3 := 0) rfl (by decide) rfl ⟨rfl, rfl⟩ rfl rfl g5 rfl (by omega) (fun h23 g23 w23 u23 => ?_)
          have F24 := F10.then rfl u23
          refine wi_aload_n (i := 0) (x := 1) (nx := 91) (r1 := 0) (r2 := 0) (r3 := 0) rfl rfl ?_
          refine wi_aload_n (i := 0) (x := 1) (nx := 92) (r1 := 0) (r2 := 0) (r3 := 0) rfl rfl ?_
          have b25 := gi_b (lo := -9223372036854775808) (hi := 9223372036854775807) g5 1 8 rfl
          refine wr_gi1 (k0 := 1) (x := h5 1 8) (nx := 95) (r1 := 1) (r2 := 8) (r3 := 0) rfl rfl (by decide) rfl ⟨rfl, rfl⟩ rfl (u23 1 8 rfl) ?_
          refine wi_S (rest := [.ref 1]) (as := [vl (h5 1 8)]) (nx := 98) (r1 := 90) (r2 := 17) (r3 := 0) rfl rfl rfl (of_decide_eq_true rfl) rfl rfl (of_decide_eq_true rfl) (of_decide_eq_true rfl) ?_
          refine ct_90 hcr  g23 (h5 1 8) (by omega)  (fun z27  (fz27 : 1 ≤ z27 ∧ z27 ≤ 21) y26_0 => ?_)
          refine wk_i ?_
          have tW28 : h5 1 4 - ts ≤ 8 → z27 = tk_wd (tk_w8 tB tn ts 0) := fun e => by rw [tI20.2 e]; exact y26_0
          refine wr_pf3 (k0 := 1) (x := z27) (bl := 1) (bh := 21) (nx := 101) (r1 := 1) (r2 := 9) (r3 := 3) rfl (by decide) rfl ⟨rfl, rfl⟩ rfl rfl g23 rfl (by omega) (fun h29 g29 w29 u29 => ?_)
          have F30 := F24.then rfl u29
          refine wi_return (nx := 102) (r1 := 0) (r2 := 0) (r3 := 0) rfl rfl ?_
          have e31 : h29 1 4 = h5 1 4 := ((u29 1 4 rfl).trans (u23 1 4 rfl))
          have e32 : h29 1 5 = 1 := ((u29 1 5 rfl).trans w23)
          have e33 : h29 1 8 = h5 1 8 := ((u29 1 8 rfl).trans (u23 1 8 rfl))
          have e34 : h29 1 9 = z27 := w29
          exact k h29 g29 F30 (show (h29 1 4) = tk_le tB tn ts by omega) (show (8 < tk_le tB tn ts - ts ∧ (h29 1 5) = 6) ∨ (tk_le tB tn ts - ts ≤ 8 ∧ (h29 1 5) = 1 ∧ (h29 1 8) = tk_w8 tB tn ts 0 ∧ (h29 1 9) = tk_wd (tk_w8 tB tn ts 0)) by omega)
      ·
        refine wi_iconst (n := 1) (nx := 13) (r1 := 0) (r2 := 0) (r3 := 0) rfl ?_
        refine wi_goto (nx := 16) (r1 := 17) (r2 := 0) (r3 := 0) rfl ?_
        refine wi_zreturn (nx := 18) (r1 := 0) (r2 := 0) (r3 := 0) rfl rfl (by omega) ?_
        refine wk_i ?_
        refine wi_if (cd := .eq) (nx := 31) (r1 := 66) (r2 := 0) (r3 := 0) rfl (by omega) (fun (q19 : 1 = 0) => by exfalso; omega) (fun (q19 : ¬ (1 = 0)) => ?_)
        refine wi_aload_n (i := 0) (x := 1) (nx := 32) (r1 := 0) (r2 := 0) (r3 := 0) rfl rfl ?_
        refine wi_aload_n (i := 0) (x := 1) (nx := 33) (r1 := 0) (r2 := 0) (r3 := 0) rfl rfl ?_
        have b20 := gi_b (lo := -9223372036854775808) (hi := 9223372036854775807) g5 1 8 rfl
        refine wr_gi1 (k0 := 1) (x := h5 1 8) (nx := 36) (r1 := 1) (r2 := 8) (r3 := 0) rfl rfl (by decide) rfl ⟨rfl, rfl⟩ rfl rfl ?_
        refine wi_bipush (n := 8) (nx := 38) (r1 := 0) (r2 := 0) (r3 := 0) rfl (by decide) ?_
        refine wr_lshl8 (nx := 39) (r1 := 0) (r2 := 0) (r3 := 0) rfl (fun e21 (fe21 : -9223372036854775808 ≤ e21 ∧ e21 ≤ 9223372036854775807) (ve21 : 0 ≤ (h5 1 8) → (h5 1 8) < 36028797018963968 → e21 = (h5 1 8) * 256) => ?_)
        refine wi_aload_n (i := 0) (x := 1) (nx := 40) (r1 := 0) (r2 := 0) (r3 := 0) rfl rfl ?_
        refine wr_gr (k0 := 1) (x := 2) (nx := 43) (r1 := 1) (r2 := 0) (r3 := 0) rfl rfl (by decide) rfl ⟨rfl, rfl⟩ rfl ?_
        refine wi_aload_n (i := 0) (x := 1) (nx := 44) (r1 := 0) (r2 := 0) (r3 := 0) rfl rfl ?_
        refine wr_gi0 (k0 := 1) (x := h5 1 4) (nx := 47) (r1 := 1) (r2 := 4) (r3 := 0) rfl rfl (by decide) rfl ⟨rfl, rfl⟩ rfl rfl ?_
        refine wr_ba (k0 := 2) (a := h5 1 4) (f := i14) (x := h 2 i14) (nx := 48) (r1 := 0) (r2 := 0) (r3 := 0) rfl (by decide) rfl (by decide) (by omega) (by omega) (by decide) ((u5 2 i14 (fn_a (by omega) (fn_a (by omega) fn_0))).trans (u3 2 i14 (fn_a (by omega) fn_0))) ?_
        refine wi_i2l (nx := 49) (r1 := 0) (r2 := 0) (r3 := 0) rfl (by omega) ?_
        refine wr_lorS 256 8 (by decide) (nx := 50) (r1 := 0) (r2 := 0) (r3 := 0) rfl (fun e22 (fe22 : -9223372036854775808 ≤ e22 ∧ e22 ≤ 9223372036854775807) ve22 => ?_)
        refine wr_pf1 (k0 := 1) (x := e22) (bl := -9223372036854775808) (bh := 9223372036854775807) (nx := 53) (r1 := 1) (r2 := 8) (r3 := 1) rfl (by decide) rfl ⟨rfl, rfl⟩ rfl rfl g5 rfl (by omega) (fun h23 g23 w23 u23 => ?_)
        have F24 := F10.then rfl u23
        have F25 := u5.then rfl u23
        refine wi_aload_n (i := 0) (x := 1) (nx := 54) (r1 := 0) (r2 := 0) (r3 := 0) rfl rfl ?_
        refine wi_dup (nx := 55) (r1 := 0) (r2 := 0) (r3 := 0) rfl rfl ?_
        refine wr_gi0 (k0 := 1) (x := h5 1 4) (nx := 58) (r1 := 1) (r2 := 4) (r3 := 0) rfl rfl (by decide) rfl ⟨rfl, rfl⟩ rfl (u23 1 4 rfl) ?_
        refine wi_iconst (n := 1) (nx := 59) (r1 := 0) (r2 := 0) (r3 := 0) rfl ?_
        refine wr_add (nx := 60) (r1 := 0) (r2 := 0) (r3 := 0) rfl (fun e26 (fe26 : e26 = (h5 1 4) + 1) => ?_)
        refine wr_pf0 (k0 := 1) (x := e26) (bl := 0) (bh := 800) (nx := 63) (r1 := 1) (r2 := 4) (r3 := 0) rfl (by decide) rfl ⟨rfl, rfl⟩ rfl rfl g23 rfl (by omega) (fun h27 g27 w27 u27 => ?_)
        have F28 := F24.then rfl u27
        have F29 := F25.then rfl u27
        refine wi_goto (nx := 66) (r1 := 5) (r2 := 0) (r3 := 0) rfl ?_
        have e30 : h27 1 4 = e26 := w27
        have e31 : h27 1 1 = h 1 1 := ((u27 1 1 rfl).trans ((u23 1 1 rfl).trans ((u5 1 1 rfl).trans (u3 1 1 rfl))))
        have e32 : h27 1 8 = e22 := ((u27 1 8 rfl).trans w23)
        exact I5 h27 ⟨g27, F28, F29, (show ((h27 1 4) ≤ (h27 1 1)) by omega), (tk_Is 72057594037927936 7 (by decide) (by decide) (by decide) (by decide) X5_0 (by omega) (show h27 1 4 = h5 1 4 + 1 by omega) ei14 ty16 (tk_lt_t (by omega)) (by omega) (fun v0 v1 => by have l1 := ve21 v0 (by omega); have l2 := ve22 (h5 1 8) l1 v0 (by omega) (by omega); omega))⟩ (show ((h27 1 1) - (h27 1 4)).toNat < ((h5 1 1) - (h5 1 4)).toNat by omega)
-- method 94: Text.advance()V
set_option maxRecDepth 100000 in
set_option maxHeartbeats 100000000 in
theorem ct_94_1 {L : Nat} {xs : Nat → Int32} {d b c : Nat} {h : hp} {cr : Nat → Nat → Option Nat} {Q : hp_Q} (hcr : CR cr)  {tB : Nat → Int} {tn tp : Int} (g : GI h)   (pp0 : h 1 4 = tp) (pp1 : 0 ≤ tp) (pp2 : tp ≤ tn) (xq0 : BufC tB tn h) (k : ∀ (h2 : hp) , GI h2 → FR [(1, 1, some (4, 4)), (1, 1, some (5, 5)), (1, 1, some (6, 6)), (1, 1, some (7, 7)), (1, 1, some (8, 8)), (1, 1, some (9, 9))] h h2 → (h2 1 4 = tk_nx tB tn tp) → (h2 1 5 = tk_kd tB tn tp) → (h2 1 6 = tk_st tB tn tp) → (tk_kd tB tn tp = 1 → (h2 1 8 = tk_lw tB tn tp ∧ h2 1 9 = tk_wd (tk_lw tB tn tp))) → (tk_kd tB tn tp = 2 → h2 1 7 = tk_nb tB tn tp) → Q (.inl none) (hp_w h2 cr) b c) : wp (md_xa (L, xs)) (d + 2) 94 (0, [(0, .ref 1)], [], hp_w h cr, b, c) Q := by
  have F0 : FR [(1, 1, some (4, 4)), (1, 1, some (5, 5)), (1, 1, some (6, 6)), (1, 1, some (7, 7)), (1, 1, some (8, 8)), (1, 1, some (9, 9))] h h := FR.refl
  have tb_1 : h 1 1 = tn := xq0.2.1
  have tb_2 : 0 ≤ tn ∧ tn ≤ 800 := xq0.2.2
  have b1 := gi_b (lo := 0) (hi := 800) g 1 4 rfl
  have b3 := gi_b (lo := 0) (hi := 800) g 1 1 rfl
  refine wl_0 (fun h2 => GI h2 ∧ FR [(1, 1, some (4, 4)), (1, 1, some (5, 5)), (1, 1, some (6, 6)), (1, 1, some (7, 7)), (1, 1, some (8, 8)), (1, 1, some (9, 9))] h h2 ∧ FR [(1, 1, some (4, 4))] h h2 ∧ (((h2 1 4) ≤ (h2 1 1)) ∧ (tp ≤ (h2 1 4))) ∧ tk_st tB tn (h2 1 4) = tk_st tB tn tp) (fun h2 => ((h2 1 1) - (h2 1 4)).toNat) (fun h2 => (0, [(0, .ref 1)], [], hp_w h2 cr, b, c)) ?_ h ⟨g, F0, FR.refl, (show ((h 1 4) ≤ (h 1 1)) ∧ (tp ≤ (h 1 4)) by omega), (congrArg (tk_st tB tn) (show h 1 4 = tp by omega))⟩
  intro h2 ⟨g2, F4, u2, f2, X2_0⟩ I2
  have e5 : h2 1 1 = h 1 1 := (u2 1 1 rfl)
  have b6 := gi_b (lo := 0) (hi := 800) g2 1 4 rfl
  refine wi_aload_n (i := 0) (x := 1) (nx := 1) (r1 := 0) (r2 := 0) (r3 := 0) rfl rfl ?_
  refine wr_gi0 (k0 := 1) (x := h2 1 4) (nx := 4) (r1 := 1) (r2 := 4) (r3 := 0) rfl rfl (by decide) rfl ⟨rfl, rfl⟩ rfl rfl ?_
  refine wi_aload_n (i := 0) (x := 1) (nx := 5) (r1 := 0) (r2 := 0) (r3 := 0) rfl rfl ?_
  refine wr_gi0 (k0 := 1) (x := h 1 1) (nx := 8) (r1 := 1) (r2 := 1) (r3 := 0) rfl rfl (by decide) rfl ⟨rfl, rfl⟩ rfl (u2 1 1 rfl) ?_
  refine wi_icmp (cd := .ge) (nx := 11) (r1 := 39) (r2 := 0) (r3 := 0) rfl (by omega) (by omega) (fun (q7 : (h 1 1) ≤ (h2 1 4)) => ?_) (fun (q7 : ¬ ((h 1 1) ≤ (h2 1 4))) => ?_)
  ·
    have tS8 : tk_st tB tn tp = h2 1 4 := tk_ste1 X2_0 (by omega) (by omega)
    refine wi_aload_n (i := 0) (x := 1) (nx := 40) (r1 := 0) (r2 := 0) (r3 := 0) rfl rfl ?_
    refine wi_aload_n (i := 0) (x := 1) (nx := 41) (r1 := 0) (r2 := 0) (r3 := 0) rfl rfl ?_
    refine wr_gi0 (k0 := 1) (x := h2 1 4) (nx := 44) (r1 := 1) (r2 := 4) (r3 := 0) rfl rfl (by decide) rfl ⟨rfl, rfl⟩ rfl rfl ?_
    refine wr_pf0 (k0 := 1) (x := h2 1 4) (bl := 0) (bh := 800) (nx := 47) (r1 := 1) (r2 := 6) (r3 := 0) rfl (by decide) rfl ⟨rfl, rfl⟩ rfl rfl g2 rfl (by omega) (fun h9 g9 w9 u9 => ?_)
    have F10 := F4.then rfl u9
    refine wi_aload_n (i := 0) (x := 1) (nx := 48) (r1 := 0) (r2 := 0) (r3 := 0) rfl rfl ?_
    refine wr_gi0 (k0 := 1) (x := h2 1 4) (nx := 51) (r1 := 1) (r2 := 4) (r3 := 0) rfl rfl (by decide) rfl ⟨rfl, rfl⟩ rfl (u9 1 4 rfl) ?_
    refine wi_aload_n (i := 0) (x := 1) (nx := 52) (r1 := 0) (r2 := 0) (r3 := 0) rfl rfl ?_
    refine wr_gi0 (k0 := 1) (x := h 1 1) (nx := 55) (r1 := 1) (r2 := 1) (r3 := 0) rfl rfl (by decide) rfl ⟨rfl, rfl⟩ rfl ((u9 1 1 rfl).trans (u2 1 1 rfl)) ?_
    refine wi_icmp (cd := .lt) (nx := 58) (r1 := 66) (r2 := 0) (r3 := 0) rfl (by omega) (by omega) (fun (q11 : (h2 1 4) < (h 1 1)) => by exfalso; omega) (fun (q11 : ¬ ((h2 1 4) < (h 1 1))) => ?_)
    have tA12 := tk_at0 tS8 (by omega)
    refine wi_aload_n (i := 0) (x := 1) (nx := 59) (r1 := 0) (r2 := 0) (r3 := 0) rfl rfl ?_
    refine wi_iconst (n := 0) (nx := 60) (r1 := 0) (r2 := 0) (r3 := 0) rfl ?_
    refine wr_pf0 (k0 := 1) (x := 0) (bl := 0) (bh := 6) (nx := 63) (r1 := 1) (r2 := 5) (r3 := 0) rfl (by decide) rfl ⟨rfl, rfl⟩ rfl rfl g9 rfl (by omega) (fun h13 g13 w13 u13 => ?_)
    have F14 := F10.then rfl u13
    refine wi_goto (nx := 66) (r1 := 136) (r2 := 0) (r3 := 0) rfl ?_
    refine wi_return (nx := 137) (r1 := 0) (r2 := 0) (r3 := 0) rfl rfl ?_
    have e15 : h13 1 4 = h2 1 4 := ((u13 1 4 rfl).trans (u9 1 4 rfl))
    have e16 : h13 1 5 = 0 := w13
    have e17 : h13 1 6 = h2 1 4 := ((u13 1 6 rfl).trans w9)
    have b18 := gi_b (lo := -9223372036854775808) (hi := 9223372036854775807) g 1 8 rfl
    have e19 : h13 1 8 = h 1 8 := ((u13 1 8 rfl).trans ((u9 1 8 rfl).trans (u2 1 8 rfl)))
    have b20 := gi_b (lo := 1) (hi := 21) g 1 9 rfl
    have e21 : h13 1 9 = h 1 9 := ((u13 1 9 rfl).trans ((u9 1 9 rfl).trans (u2 1 9 rfl)))
    have b22 := gi_b (lo := -2147483648) (hi := 2147483647) g 1 7 rfl
    have e23 : h13 1 7 = h 1 7 := ((u13 1 7 rfl).trans ((u9 1 7 rfl).trans (u2 1 7 rfl)))
    exact k h13 g13 F14 (show (h13 1 4) = tk_nx tB tn tp by omega) (show (h13 1 5) = tk_kd tB tn tp by omega) (show (h13 1 6) = tk_st tB tn tp by omega) (show tk_kd tB tn tp = 1 → ((h13 1 8) = tk_lw tB tn tp ∧ (h13 1 9) = tk_wd (tk_lw tB tn tp)) by omega) (show tk_kd tB tn tp = 2 → (h13 1 7) = tk_nb tB tn tp by omega)
  ·
    refine wi_aload_n (i := 0) (x := 1) (nx := 12) (r1 := 0) (r2 := 0) (r3 := 0) rfl rfl ?_
    refine wr_gr (k0 := 1) (x := 2) (nx := 15) (r1 := 1) (r2 := 0) (r3 := 0) rfl rfl (by decide) rfl ⟨rfl, rfl⟩ rfl ?_
    refine wi_aload_n (i := 0) (x := 1) (nx := 16) (r1 := 0) (r2 := 0) (r3 := 0) rfl rfl ?_
    refine wr_gi0 (k0 := 1) (x := h2 1 4) (nx := 19) (r1 := 1) (r2 := 4) (r3 := 0) rfl rfl (by decide) rfl ⟨rfl, rfl⟩ rfl rfl ?_
    obtain ⟨i8, ei8⟩ : ∃ q : Nat, (h2 1 4) = (q : Int) := ⟨(h2 1 4).toNat, by omega⟩
    have b9 := gi_b (lo := -128) (hi := 127) g 2 i8 rfl
    have ty10 : tB i8 = h 2 i8 := (xq0.1 i8).symm
    refine wr_ba (k0 := 2) (a := h2 1 4) (f := i8) (x := h 2 i8) (nx := 20) (r1 := 0) (r2 := 0) (r3 := 0) rfl (by decide) rfl (by decide) (by omega) (by omega) (by decide) (u2 2 i8 (fn_a (by omega) fn_0)) ?_
    refine wi_S (rest := []) (as := [vi (h 2 i8)]) (nx := 23) (r1 := 95) (r2 := 17) (r3 := 0) rfl rfl rfl (of_decide_eq_true rfl) rfl rfl (of_decide_eq_true rfl) (of_decide_eq_true rfl) ?_
    refine wi_iload_n (i := 0) (e := h 2 i8) (nx := 1) (r1 := 0) (r2 := 0) (r3 := 0) rfl rfl ?_
    refine wi_bipush (n := 32) (nx := 3) (r1 := 0) (r2 := 0) (r3 := 0) rfl (by decide) ?_
    refine wi_icmp (cd := .eq) (nx := 6) (r1 := 12) (r2 := 0) (r3 := 0) rfl (by omega) (by omega) (fun (q11 : (h 2 i8) = 32) => ?_) (fun (q11 : ¬ ((h 2 i8) = 32)) => ?_)
    ·
      refine wi_iconst (n := 1) (nx := 13) (r1 := 0) (r2 := 0) (r3 := 0) rfl ?_
      refine wi_goto (nx := 16) (r1 := 17) (r2 := 0) (r3 := 0) rfl ?_
      refine wi_zreturn (nx := 18) (r1 := 0) (r2 := 0) (r3 := 0) rfl rfl (by omega) ?_
      refine wk_i ?_
      refine wi_if (cd := .eq) (nx := 26) (r1 := 39) (r2 := 0) (r3 := 0) rfl (by omega) (fun (q12 : 1 = 0) => by exfalso; omega) (fun (q12 : ¬ (1 = 0)) => ?_)
      refine wi_aload_n (i := 0) (x := 1) (nx := 27) (r1 := 0) (r2 := 0) (r3 := 0) rfl rfl ?_
      refine wi_dup (nx := 28) (r1 := 0) (r2 := 0) (r3 := 0) rfl rfl ?_
      refine wr_gi0 (k0 := 1) (x := h2 1 4) (nx := 31) (r1 := 1) (r2 := 4) (r3 := 0) rfl rfl (by decide) rfl ⟨rfl, rfl⟩ rfl rfl ?_
      refine wi_iconst (n := 1) (nx := 32) (r1 := 0) (r2 := 0) (r3 := 0) rfl ?_
      refine wr_add (nx := 33) (r1 := 0) (r2 := 0) (r3 := 0) rfl (fun e13 (fe13 : e13 = (h2 1 4) + 1) => ?_)
      refine wr_pf0 (k0 := 1) (x := e13) (bl := 0) (bh := 800) (nx := 36) (r1 := 1) (r2 := 4) (r3 := 0) rfl (by decide) rfl ⟨rfl, rfl⟩ rfl rfl g2 rfl (by omega) (fun h14 g14 w14 u14 => ?_)
      have F15 := F4.then rfl u14
      have F16 := u2.then rfl u14
      refine wi_goto (nx := 39) (r1 := 0) (r2 := 0) (r3 := 0) rfl ?_
      have e17 : h14 1 4 = e13 := w14
      have e18 : h14 1 1 = h 1 1 := ((u14 1 1 rfl).trans (u2 1 1 rfl))
      exact I2 h14 ⟨g14, F15, F16, (show ((h14 1 4) ≤ (h14 1 1)) ∧ (tp ≤ (h14 1 4)) by omega), (tk_stb X2_0 (by omega) (by omega) (show h14 1 4 = h2 1 4 + 1 by omega) ei8 ty10 (by omega))⟩ (show ((h14 1 1) - (h14 1 4)).toNat < ((h2 1 1) - (h2 1 4)).toNat by omega)
    ·
      refine wi_iload_n (i := 0) (e := h 2 i8) (nx := 7) (r1 := 0) (r2 := 0) (r3 := 0) rfl rfl ?_
      refine wi_bipush (n := 10) (nx := 9) (r1 := 0) (r2 := 0) (r3 := 0) rfl (by decide) ?_
      refine wi_icmp (cd := .ne) (nx := 12) (r1 := 16) (r2 := 0) (r3 := 0) rfl (by omega) (by omega) (fun (q12 : (h 2 i8) ≠ 10) => ?_) (fun (q12 : ¬ ((h 2 i8) ≠ 10)) => ?_)
      ·
        refine wi_iconst (n := 0) (nx := 17) (r1 := 0) (r2 := 0) (r3 := 0) rfl ?_
        refine wi_zreturn (nx := 18) (r1 := 0) (r2 := 0) (r3 := 0) rfl rfl (by omega) ?_
        refine wk_i ?_
        refine wi_if (cd := .eq) (nx := 26) (r1 := 39) (r2 := 0) (r3 := 0) rfl (by omega) (fun (q13 : 0 = 0) => ?_) (fun (q13 : ¬ (0 = 0)) => by exfalso; omega)
        have tS14 : tk_st tB tn tp = h2 1 4 := tk_ste2 X2_0 (by omega) ei8 ty10 (by omega)
        refine wi_aload_n (i := 0) (x := 1) (nx := 40) (r1 := 0) (r2 := 0) (r3 := 0) rfl rfl ?_
        refine wi_aload_n (i := 0) (x := 1) (nx := 41) (r1 := 0) (r2 := 0) (r3 := 0) rfl rfl ?_
        refine wr_gi0 (k0 := 1) (x := h2 1 4) (nx := 44) (r1 := 1) (r2 := 4) (r3 := 0) rfl rfl (by decide) rfl ⟨rfl, rfl⟩ rfl rfl ?_
        refine wr_pf0 (k0 := 1) (x := h2 1 4) (bl := 0) (bh := 800) (nx := 47) (r1 := 1) (r2 := 6) (r3 := 0) rfl (by decide) rfl ⟨rfl, rfl⟩ rfl rfl g2 rfl (by omega) (fun h15 g15 w15 u15 => ?_)
        have F16 := F4.then rfl u15
        refine wi_aload_n (i := 0) (x := 1) (nx := 48) (r1 := 0) (r2 := 0) (r3 := 0) rfl rfl ?_
        refine wr_gi0 (k0 := 1) (x := h2 1 4) (nx := 51) (r1 := 1) (r2 := 4) (r3 := 0) rfl rfl (by decide) rfl ⟨rfl, rfl⟩ rfl (u15 1 4 rfl) ?_
        refine wi_aload_n (i := 0) (x := 1) (nx := 52) (r1 := 0) (r2 := 0) (r3 := 0) rfl rfl ?_
        refine wr_gi0 (k0 := 1) (x := h 1 1) (nx := 55) (r1 := 1) (r2 := 1) (r3 := 0) rfl rfl (by decide) rfl ⟨rfl, rfl⟩ rfl ((u15 1 1 rfl).trans (u2 1 1 rfl)) ?_
        refine wi_icmp (cd := .lt) (nx := 58) (r1 := 66) (r2 := 0) (r3 := 0) rfl (by omega) (by omega) (fun (q17 : (h2 1 4) < (h 1 1)) => ?_) (fun (q17 : ¬ ((h2 1 4) < (h 1 1))) => by exfalso; omega)
        refine wi_aload_n (i := 0) (x := 1) (nx := 67) (r1 := 0) (r2 := 0) (r3 := 0) rfl rfl ?_
        refine wr_gr (k0 := 1) (x := 2) (nx := 70) (r1 := 1) (r2 := 0) (r3 := 0) rfl rfl (by decide) rfl ⟨rfl, rfl⟩ rfl ?_
        refine wi_aload_n (i := 0) (x := 1) (nx := 71) (r1 := 0) (r2 := 0) (r3 := 0) rfl rfl ?_
        refine wr_gi0 (k0 := 1) (x := h2 1 4) (nx := 74) (r1 := 1) (r2 := 4) (r3 := 0) rfl rfl (by decide) rfl ⟨rfl, rfl⟩ rfl (u15 1 4 rfl) ?_
        refine wr_ba (k0 := 2) (a := h2 1 4) (f := i8) (x := h 2 i8) (nx := 75) (r1 := 0) (r2 := 0) (r3 := 0) rfl (by decide) rfl (by decide) (by omega) (by omega) (by decide) ((u15 2 i8 (fn_a (by omega) fn_0)).trans (u2 2 i8 (fn_a (by omega) fn_0))) ?_
        refine wi_S (rest := []) (as := [vi (h 2 i8)]) (nx := 78) (r1 := 96) (r2 := 17) (r3 := 0) rfl rfl rfl (of_decide_eq_true rfl) rfl rfl (of_decide_eq_true rfl) (of_decide_eq_true rfl) ?_
        refine wi_iload_n (i := 0) (e := h 2 i8) (nx := 1) (r1 := 0) (r2 := 0) (r3 := 0) rfl rfl ?_
        refine wi_bipush (n := 97) (nx := 3) (r1 := 0) (r2 := 0) (r3 := 0) rfl (by decide) ?_
        refine wi_icmp (cd := .lt) (nx := 6) (r1 := 16) (r2 := 0) (r3 := 0) rfl (by omega) (by omega) (fun (q18 : (h 2 i8) < 97) => ?_) (fun (q18 : ¬ ((h 2 i8) < 97)) => ?_)
        ·
          refine wi_iconst (n := 0) (nx := 17) (r1 := 0) (r2 := 0) (r3 := 0) rfl ?_
          refine wi_zreturn (nx := 18) (r1 := 0) (r2 := 0) (r3 := 0) rfl rfl (by omega) ?_
          refine wk_i ?_
          refine wi_if (cd := .eq) (nx := 81) (r1 := 88) (r2 := 0) (r3 := 0) rfl (by omega) (fun (q19 : 0 = 0) => ?_) (fun (q19 : ¬ (0 = 0)) => by exfalso; omega)
          refine wi_aload_n (i := 0) (x := 1) (nx := 89) (r1 := 0) (r2 := 0) (r3 := 0) rfl rfl ?_
          refine wr_gr (k0 := 1) (x := 2) (nx := 92) (r1 := 1) (r2 := 0) (r3 := 0) rfl rfl (by decide) rfl ⟨rfl, rfl⟩ rfl ?_
          refine wi_aload_n (i := 0) (x := 1) (nx := 93) (r1 := 0) (r2 := 0) (r3 := 0) rfl rfl ?_
          refine wr_gi0 (k0 := 1) (x := h2 1 4) (nx := 96) (r1 := 1) (r2 := 4) (r3 := 0) rfl rfl (by decide) rfl ⟨rfl, rfl⟩ rfl (u15 1 4 rfl) ?_
          refine wr_ba (k0 := 2) (a := h2 1 4) (f := i8) (x := h 2 i8) (nx := 97) (r1 := 0) (r2 := 0) (r3 := 0) rfl (by decide) rfl (by decide) (by omega) (by omega) (by decide) ((u15 2 i8 (fn_a (by omega) fn_0)).trans (u2 2 i8 (fn_a (by omega) fn_0))) ?_
          refine wi_S (rest := []) (as := [vi (h 2 i8)]) (nx := 100) (r1 := 98) (r2 := 17) (r3 := 0) rfl rfl rfl (of_decide_eq_true rfl) rfl rfl (of_decide_eq_true rfl) (of_decide_eq_true rfl) ?_
          refine wi_iload_n (i := 0) (e := h 2 i8) (nx := 1) (r1 := 0) (r2 := 0) (r3 := 0) rfl rfl ?_
          refine wi_bipush (n := 48) (nx := 3) (r1 := 0) (r2 := 0) (r3 := 0) rfl (by decide) ?_
          refine wi_icmp (cd := .lt) (nx := 6) (r1 := 16) (r2 := 0) (r3 := 0) rfl (by omega) (by omega) (fun (q20 : (h 2 i8) < 48) => ?_) (fun (q20 : ¬ ((h 2 i8) < 48)) => ?_)
          ·
            refine wi_iconst (n := 0) (nx := 17) (r1 := 0) (r2 := 0) (r3 := 0) rfl ?_
            refine wi_zreturn (nx := 18) (r1 := 0) (r2 := 0) (r3 := 0) rfl rfl (by omega) ?_
            refine wk_i ?_
            refine wi_if (cd := .eq) (nx := 103) (r1 := 110) (r2 := 0) (r3 := 0) rfl (by omega) (fun (q21 : 0 = 0) => ?_) (fun (q21 : ¬ (0 = 0)) => by exfalso; omega)
            refine wi_aload_n (i := 0) (x := 1) (nx := 111) (r1 := 0) (r2 := 0) (r3 := 0) rfl rfl ?_
            have tA22 := tk_atM tS14 (by omega) ei8 ty10 (by omega) (by omega)
            refine wi_aload_n (i := 0) (x := 1) (nx := 112) (r1 := 0) (r2 := 0) (r3 := 0) rfl rfl ?_
            refine wr_gr (k0 := 1) (x := 2) (nx := 115) (r1 := 1) (r2 := 0) (r3 := 0) rfl rfl (by decide) rfl ⟨rfl, rfl⟩ rfl ?_
            refine wi_aload_n (i := 0) (x := 1) (nx := 116) (r1 := 0) (r2 := 0) (r3 := 0) rfl rfl ?_
            refine wr_gi0 (k0 := 1) (x := h2 1 4) (nx := 119) (r1 := 1) (r2 := 4) (r3 := 0) rfl rfl (by decide) rfl ⟨rfl, rfl⟩ rfl (u15 1 4 rfl) ?_
            refine wr_ba (k0 := 2) (a := h2 1 4) (f := i8) (x := h 2 i8) (nx := 120) (r1 := 0) (r2 := 0) (r3 := 0) rfl (by decide) rfl (by decide) (by omega) (by omega) (by decide) ((u15 2 i8 (fn_a (by omega) fn_0)).trans (u2 2 i8 (fn_a (by omega) fn_0))) ?_
            refine wi_S (rest := [.ref 1]) (as := [vi (h 2 i8)]) (nx := 123) (r1 := 100) (r2 := 17) (r3 := 0) rfl rfl rfl (of_decide_eq_true rfl) rfl rfl (of_decide_eq_true rfl) (of_decide_eq_true rfl) ?_
            refine wi_iload_n (i := 0) (e := h 2 i8) (nx := 1) (r1 := 0) (r2 := 0) (r3 := 0) rfl rfl ?_
            rcases (show (h 2 i8) = 40 ∨ (h 2 i8) = 41 ∨ ((h 2 i8) ≠ 40 ∧ (h 2 i8) ≠ 41) by omega) with q23 | q23 | q23
            ·
              refine wr_lsw 38 (nx := 35) (r1 := 0) (r2 := 0) (r3 := 0) rfl (by rw [q23]; rfl) ?_
              refine wi_iconst (n := 4) (nx := 39) (r1 := 0) (r2 := 0) (r3 := 0) rfl ?_
              refine wi_ireturn (nx := 40) (r1 := 0) (r2 := 0) (r3 := 0) rfl rfl ?_
              refine wk_i ?_
              refine wr_pf0 (k0 := 1) (x := 4) (bl := 0) (bh := 6) (nx := 126) (r1 := 1) (r2 := 5) (r3 := 0) rfl (by decide) rfl ⟨rfl, rfl⟩ rfl rfl g15 rfl (by omega) (fun h24 g24 w24 u24 => ?_)
              have F25 := F16.then rfl u24
              refine wi_aload_n (i := 0) (x := 1) (nx := 127) (r1 := 0) (r2 := 0) (r3 := 0) rfl rfl ?_
              refine wi_dup (nx := 128) (r1 := 0) (r2 := 0) (r3 := 0) rfl rfl ?_
              refine wr_gi0 (k0 := 1) (x := h2 1 4) (nx := 131) (r1 := 1) (r2 := 4) (r3 := 0) rfl rfl (by decide) rfl ⟨rfl, rfl⟩ rfl ((u24 1 4 rfl).trans (u15 1 4 rfl)) ?_
              refine wi_iconst (n := 1) (nx := 132) (r1 := 0) (r2 := 0) (r3 := 0) rfl ?_
              refine wr_add (nx := 133) (r1 := 0) (r2 := 0) (r3 := 0) rfl (fun e26 (fe26 : e26 = (h2 1 4) + 1) => ?_)
              refine wr_pf0 (k0 := 1) (x := e26) (bl := 0) (bh := 800) (nx := 136) (r1 := 1) (r2 := 4) (r3 := 0) rfl (by decide) rfl ⟨rfl, rfl⟩ rfl rfl g24 rfl (by omega) (fun h27 g27 w27 u27 => ?_)
              have F28 := F25.then rfl u27
              refine wi_return (nx := 137) (r1 := 0) (r2 := 0) (r3 := 0) rfl rfl ?_
              have e29 : h27 1 4 = e26 := w27
              have e30 : h27 1 5 = 4 := ((u27 1 5 rfl).trans w24)
              have e31 : h27 1 6 = h2 1 4 := ((u27 1 6 rfl).trans ((u24 1 6 rfl).trans w15))
              have b32 := gi_b (lo := -9223372036854775808) (hi := 9223372036854775807) g 1 8 rfl
              have e33 : h27 1 8 = h 1 8 := ((u27 1 8 rfl).trans ((u24 1 8 rfl).trans ((u15 1 8 rfl).trans (u2 1 8 rfl))))
              have b34 := gi_b (lo := 1) (hi := 21) g 1 9 rfl
              have e35 : h27 1 9 = h 1 9 := ((u27 1 9 rfl).trans ((u24 1 9 rfl).trans ((u15 1 9 rfl).trans (u2 1 9 rfl))))
              have b36 := gi_b (lo := -2147483648) (hi := 2147483647) g 1 7 rfl
              have e37 : h27 1 7 = h 1 7 := ((u27 1 7 rfl).trans ((u24 1 7 rfl).trans ((u15 1 7 rfl).trans (u2 1 7 rfl))))
              exact k h27 g27 F28 (show (h27 1 4) = tk_nx tB tn tp by omega) (show (h27 1 5) = tk_kd tB tn tp by omega) (show (h27 1 6) = tk_st tB tn tp by omega) (show tk_kd tB tn tp = 1 → ((h27 1 8) = tk_lw tB tn tp ∧ (h27 1 9) = tk_wd (tk_lw tB tn tp)) by omega) (show tk_kd tB tn tp = 2 → (h27 1 7) = tk_nb tB tn tp by omega)
            ·
              refine wr_lsw 40 (nx := 35) (r1 := 0) (r2 := 0) (r3 := 0) rfl (by rw [q23]; rfl) ?_
              refine wi_iconst (n := 5) (nx := 41) (r1 := 0) (r2 := 0) (r3 := 0) rfl ?_
              refine wi_ireturn (nx := 42) (r1 := 0) (r2 := 0) (r3 := 0) rfl rfl ?_
              refine wk_i ?_
              refine wr_pf0 (k0 := 1) (x := 5) (bl := 0) (bh := 6) (nx := 126) (r1 := 1) (r2 := 5) (r3 := 0) rfl (by decide) rfl ⟨rfl, rfl⟩ rfl rfl g15 rfl (by omega) (fun h24 g24 w24 u24 => ?_)
              have F25 := F16.then rfl u24
              refine wi_aload_n (i := 0) (x := 1) (nx := 127) (r1 := 0) (r2 := 0) (r3 := 0) rfl rfl ?_
              refine wi_dup (nx := 128) (r1 := 0) (r2 := 0) (r3 := 0) rfl rfl ?_
              refine wr_gi0 (k0 := 1) (x := h2 1 4) (nx := 131) (r1 := 1) (r2 := 4) (r3 := 0) rfl rfl (by decide) rfl ⟨rfl, rfl⟩ rfl ((u24 1 4 rfl).trans (u15 1 4 rfl)) ?_
              refine wi_iconst (n := 1) (nx := 132) (r1 := 0) (r2 := 0) (r3 := 0) rfl ?_
              refine wr_add (nx := 133) (r1 := 0) (r2 := 0) (r3 := 0) rfl (fun e26 (fe26 : e26 = (h2 1 4) + 1) => ?_)
              refine wr_pf0 (k0 := 1) (x := e26) (bl := 0) (bh := 800) (nx := 136) (r1 := 1) (r2 := 4) (r3 := 0) rfl (by decide) rfl ⟨rfl, rfl⟩ rfl rfl g24 rfl (by omega) (fun h27 g27 w27 u27 => ?_)
              have F28 := F25.then rfl u27
              refine wi_return (nx := 137) (r1 := 0) (r2 := 0) (r3 := 0) rfl rfl ?_
              have e29 : h27 1 4 = e26 := w27
              have e30 : h27 1 5 = 5 := ((u27 1 5 rfl).trans w24)
              have e31 : h27 1 6 = h2 1 4 := ((u27 1 6 rfl).trans ((u24 1 6 rfl).trans w15))
              have b32 := gi_b (lo := -9223372036854775808) (hi := 9223372036854775807) g 1 8 rfl
              have e33 : h27 1 8 = h 1 8 := ((u27 1 8 rfl).trans ((u24 1 8 rfl).trans ((u15 1 8 rfl).trans (u2 1 8 rfl))))
              have b34 := gi_b (lo := 1) (hi := 21) g 1 9 rfl
              have e35 : h27 1 9 = h 1 9 := ((u27 1 9 rfl).trans ((u24 1 9 rfl).trans ((u15 1 9 rfl).trans (u2 1 9 rfl))))
              have b36 := gi_b (lo := -2147483648) (hi := 2147483647) g 1 7 rfl
              have e37 : h27 1 7 = h 1 7 := ((u27 1 7 rfl).trans ((u24 1 7 rfl).trans ((u15 1 7 rfl).trans (u2 1 7 rfl))))
              exact k h27 g27 F28 (show (h27 1 4) = tk_nx tB tn tp by omega) (show (h27 1 5) = tk_kd tB tn tp by omega) (show (h27 1 6) = tk_st tB tn tp by omega) (show tk_kd tB tn tp = 1 → ((h27 1 8) = tk_lw tB tn tp ∧ (h27 1 9) = tk_wd (tk_lw tB tn tp)) by omega) (show tk_kd tB tn tp = 2 → (h27 1 7) = tk_nb tB tn tp by omega)
            ·
              refine wr_lsw 42 (nx := 35) (r1 := 0) (r2 := 0) (r3 := 0) rfl (by rw [ii_r (by omega) (by omega)]; simp only [Op.lookupswitch.offset]; (repeat rw [if_neg (by omega)]); rfl) ?_
              refine wi_bipush (n := 6) (nx := 44) (r1 := 0) (r2 := 0) (r3 := 0) rfl (by decide) ?_
              refine wi_ireturn (nx := 45) (r1 := 0) (r2 := 0) (r3 := 0) rfl rfl ?_
              refine wk_i ?_
              refine wr_pf0 (k0 := 1) (x := 6) (bl := 0) (bh := 6) (nx := 126) (r1 := 1) (r2 := 5) (r3 := 0) rfl (by decide) rfl ⟨rfl, rfl⟩ rfl rfl g15 rfl (by omega) (fun h24 g24 w24 u24 => ?_)
              have F25 := F16.then rfl u24
              refine wi_aload_n (i := 0) (x := 1) (nx := 127) (r1 := 0) (r2 := 0) (r3 := 0) rfl rfl ?_
              refine wi_dup (nx := 128) (r1 := 0) (r2 := 0) (r3 := 0) rfl rfl ?_
              refine wr_gi0 (k0 := 1) (x := h2 1 4) (nx := 131) (r1 := 1) (r2 := 4) (r3 := 0) rfl rfl (by decide) rfl ⟨rfl, rfl⟩ rfl ((u24 1 4 rfl).trans (u15 1 4 rfl)) ?_
              refine wi_iconst (n := 1) (nx := 132) (r1 := 0) (r2 := 0) (r3 := 0) rfl ?_
              refine wr_add (nx := 133) (r1 := 0) (r2 := 0) (r3 := 0) rfl (fun e26 (fe26 : e26 = (h2 1 4) + 1) => ?_)
              refine wr_pf0 (k0 := 1) (x := e26) (bl := 0) (bh := 800) (nx := 136) (r1 := 1) (r2 := 4) (r3 := 0) rfl (by decide) rfl ⟨rfl, rfl⟩ rfl rfl g24 rfl (by omega) (fun h27 g27 w27 u27 => ?_)
              have F28 := F25.then rfl u27
              refine wi_return (nx := 137) (r1 := 0) (r2 := 0) (r3 := 0) rfl rfl ?_
              have e29 : h27 1 4 = e26 := w27
              have e30 : h27 1 5 = 6 := ((u27 1 5 rfl).trans w24)
              have e31 : h27 1 6 = h2 1 4 := ((u27 1 6 rfl).trans ((u24 1 6 rfl).trans w15))
              have b32 := gi_b (lo := -9223372036854775808) (hi := 9223372036854775807) g 1 8 rfl
              have e33 : h27 1 8 = h 1 8 := ((u27 1 8 rfl).trans ((u24 1 8 rfl).trans ((u15 1 8 rfl).trans (u2 1 8 rfl))))
              have b34 := gi_b (lo := 1) (hi := 21) g 1 9 rfl
              have e35 : h27 1 9 = h 1 9 := ((u27 1 9 rfl).trans ((u24 1 9 rfl).trans ((u15 1 9 rfl).trans (u2 1 9 rfl))))
              have b36 := gi_b (lo := -2147483648) (hi := 2147483647) g 1 7 rfl
              have e37 : h27 1 7 = h 1 7 := ((u27 1 7 rfl).trans ((u24 1 7 rfl).trans ((u15 1 7 rfl).trans (u2 1 7 rfl))))
              exact k h27 g27 F28 (show (h27 1 4) = tk_nx tB tn tp by omega) (show (h27 1 5) = tk_kd tB tn tp by omega) (show (h27 1 6) = tk_st tB tn tp by omega) (show tk_kd tB tn tp = 1 → ((h27 1 8) = tk_lw tB tn tp ∧ (h27 1 9) = tk_wd (tk_lw tB tn tp)) by omega) (show tk_kd tB tn tp = 2 → (h27 1 7) = tk_nb tB tn tp by omega)
          ·
            refine wi_iload_n (i := 0) (e := h 2 i8) (nx := 7) (r1 := 0) (r2 := 0) (r3 := 0) rfl rfl ?_
            refine wi_bipush (n := 57) (nx := 9) (r1 := 0) (r2 := 0) (r3 := 0) rfl (by decide) ?_
            refine wi_icmp (cd := .gt) (nx := 12) (r1 := 16) (r2 := 0) (r3 := 0) rfl (by omega) (by omega) (fun (q21 : 57 < (h 2 i8)) => ?_) (fun (q21 : ¬ (57 < (h 2 i8))) => ?_)
            ·
              refine wi_iconst (n := 0) (nx := 17) (r1 := 0) (r2 := 0) (r3 := 0) rfl ?_
              refine wi_zreturn (nx := 18) (r1 := 0) (r2 := 0) (r3 := 0) rfl rfl (by omega) ?_
              refine wk_i ?_
              refine wi_if (cd := .eq) (nx := 103) (r1 := 110) (r2 := 0) (r3 := 0) rfl (by omega) (fun (q22 : 0 = 0) => ?_) (fun (q22 : ¬ (0 = 0)) => by exfalso; omega)
              refine wi_aload_n (i := 0) (x := 1) (nx := 111) (r1 := 0) (r2 := 0) (r3 := 0) rfl rfl ?_
              have tA23 := tk_atM tS14 (by omega) ei8 ty10 (by omega) (by omega)
              refine wi_aload_n (i := 0) (x := 1) (nx := 112) (r1 := 0) (r2 := 0) (r3 := 0) rfl rfl ?_
              refine wr_gr (k0 := 1) (x := 2) (nx := 115) (r1 := 1) (r2 := 0) (r3 := 0) rfl rfl (by decide) rfl ⟨rfl, rfl⟩ rfl ?_
              refine wi_aload_n (i := 0) (x := 1) (nx := 116) (r1 := 0) (r2 := 0) (r3 := 0) rfl rfl ?_
              refine wr_gi0 (k0 := 1) (x := h2 1 4) (nx := 119) (r1 := 1) (r2 := 4) (r3 := 0) rfl rfl (by decide) rfl ⟨rfl, rfl⟩ rfl (u15 1 4 rfl) ?_
              refine wr_ba (k0 := 2) (a := h2 1 4) (f := i8) (x := h 2 i8) (nx := 120) (r1 := 0) (r2 := 0) (r3 := 0) rfl (by decide) rfl (by decide) (by omega) (by omega) (by decide) ((u15 2 i8 (fn_a (by omega) fn_0)).trans (u2 2 i8 (fn_a (by omega) fn_0))) ?_
              refine wi_S (rest := [.ref 1]) (as := [vi (h 2 i8)]) (nx := 123) (r1 := 100) (r2 := 17) (r3 := 0) rfl rfl rfl (of_decide_eq_true rfl) rfl rfl (of_decide_eq_true rfl) (of_decide_eq_true rfl) ?_
              refine wi_iload_n (i := 0) (e := h 2 i8) (nx := 1) (r1 := 0) (r2 := 0) (r3 := 0) rfl rfl ?_
              rcases (show (h 2 i8) = 59 ∨ ((h 2 i8) ≠ 59) by omega) with q24 | q24
              ·
                refine wr_lsw 36 (nx := 35) (r1 := 0) (r2 := 0) (r3 := 0) rfl (by rw [q24]; rfl) ?_
                refine wi_iconst (n := 3) (nx := 37) (r1 := 0) (r2 := 0) (r3 := 0) rfl ?_
                refine wi_ireturn (nx := 38) (r1 := 0) (r2 := 0) (r3 := 0) rfl rfl ?_
                refine wk_i ?_
                refine wr_pf0 (k0 := 1) (x := 3) (bl := 0) (bh := 6) (nx := 126) (r1 := 1) (r2 := 5) (r3 := 0) rfl (by decide) rfl ⟨rfl, rfl⟩ rfl rfl g15 rfl (by omega) (fun h25 g25 w25 u25 => ?_)
                have F26 := F16.then rfl u25
                refine wi_aload_n (i := 0) (x := 1) (nx := 127) (r1 := 0) (r2 := 0) (r3 := 0) rfl rfl ?_
                refine wi_dup (nx := 128) (r1 := 0) (r2 := 0) (r3 := 0) rfl rfl ?_
                refine wr_gi0 (k0 := 1) (x := h2 1 4) (nx := 131) (r1 := 1) (r2 := 4) (r3 := 0) rfl rfl (by decide) rfl ⟨rfl, rfl⟩ rfl ((u25 1 4 rfl).trans (u15 1 4 rfl)) ?_
                refine wi_iconst (n := 1) (nx := 132) (r1 := 0) (r2 := 0) (r3 := 0) rfl ?_
                refine wr_add (nx := 133) (r1 := 0) (r2 := 0) (r3 := 0) rfl (fun e27 (fe27 : e27 = (h2 1 4) + 1) => ?_)
                refine wr_pf0 (k0 := 1) (x := e27) (bl := 0) (bh := 800) (nx := 136) (r1 := 1) (r2 := 4) (r3 := 0) rfl (by decide) rfl ⟨rfl, rfl⟩ rfl rfl g25 rfl (by omega) (fun h28 g28 w28 u28 => ?_)
                have F29 := F26.then rfl u28
                refine wi_return (nx := 137) (r1 := 0) (r2 := 0) (r3 := 0) rfl rfl ?_
                have e30 : h28 1 4 = e27 := w28
                have e31 : h28 1 5 = 3 := ((u28 1 5 rfl).trans w25)
                have e32 : h28 1 6 = h2 1 4 := ((u28 1 6 rfl).trans ((u25 1 6 rfl).trans w15))
                have b33 := gi_b (lo := -9223372036854775808) (hi := 9223372036854775807) g 1 8 rfl
                have e34 : h28 1 8 = h 1 8 := ((u28 1 8 rfl).trans ((u25 1 8 rfl).trans ((u15 1 8 rfl).trans (u2 1 8 rfl))))
                have b35 := gi_b (lo := 1) (hi := 21) g 1 9 rfl
                have e36 : h28 1 9 = h 1 9 := ((u28 1 9 rfl).trans ((u25 1 9 rfl).trans ((u15 1 9 rfl).trans (u2 1 9 rfl))))
                have b37 := gi_b (lo := -2147483648) (hi := 2147483647) g 1 7 rfl
                have e38 : h28 1 7 = h 1 7 := ((u28 1 7 rfl).trans ((u25 1 7 rfl).trans ((u15 1 7 rfl).trans (u2 1 7 rfl))))
                exact k h28 g28 F29 (show (h28 1 4) = tk_nx tB tn tp by omega) (show (h28 1 5) = tk_kd tB tn tp by omega) (show (h28 1 6) = tk_st tB tn tp by omega) (show tk_kd tB tn tp = 1 → ((h28 1 8) = tk_lw tB tn tp ∧ (h28 1 9) = tk_wd (tk_lw tB tn tp)) by omega) (show tk_kd tB tn tp = 2 → (h28 1 7) = tk_nb tB tn tp by omega)
              ·
                refine wr_lsw 42 (nx := 35) (r1 := 0) (r2 := 0) (r3 := 0) rfl (by rw [ii_r (by omega) (by omega)]; simp only [Op.lookupswitch.offset]; (repeat rw [if_neg (by omega)]); rfl) ?_
                refine wi_bipush (n := 6) (nx := 44) (r1 := 0) (r2 := 0) (r3 := 0) rfl (by decide) ?_
                refine wi_ireturn (nx := 45) (r1 := 0) (r2 := 0) (r3 := 0) rfl rfl ?_
                refine wk_i ?_
                refine wr_pf0 (k0 := 1) (x := 6) (bl := 0) (bh := 6) (nx := 126) (r1 := 1) (r2 := 5) (r3 := 0) rfl (by decide) rfl ⟨rfl, rfl⟩ rfl rfl g15 rfl (by omega) (fun h25 g25 w25 u25 => ?_)
                have F26 := F16.then rfl u25
                refine wi_aload_n (i := 0) (x := 1) (nx := 127) (r1 := 0) (r2 := 0) (r3 := 0) rfl rfl ?_
                refine wi_dup (nx := 128) (r1 := 0) (r2 := 0) (r3 := 0) rfl rfl ?_
                refine wr_gi0 (k0 := 1) (x := h2 1 4) (nx := 131) (r1 := 1) (r2 := 4) (r3 := 0) rfl rfl (by decide) rfl ⟨rfl, rfl⟩ rfl ((u25 1 4 rfl).trans (u15 1 4 rfl)) ?_
                refine wi_iconst (n := 1) (nx := 132) (r1 := 0) (r2 := 0) (r3 := 0) rfl ?_
                refine wr_add (nx := 133) (r1 := 0) (r2 := 0) (r3 := 0) rfl (fun e27 (fe27 : e27 = (h2 1 4) + 1) => ?_)
                refine wr_pf0 (k0 := 1) (x := e27) (bl := 0) (bh := 800) (nx := 136) (r1 := 1) (r2 := 4) (r3 := 0) rfl (by decide) rfl ⟨rfl, rfl⟩ rfl rfl g25 rfl (by omega) (fun h28 g28 w28 u28 => ?_)
                have F29 := F26.then rfl u28
                refine wi_return (nx := 137) (r1 := 0) (r2 := 0) (r3 := 0) rfl rfl ?_
                have e30 : h28 1 4 = e27 := w28
                have e31 : h28 1 5 = 6 := ((u28 1 5 rfl).trans w25)
                have e32 : h28 1 6 = h2 1 4 := ((u28 1 6 rfl).trans ((u25 1 6 rfl).trans w15))
                have b33 := gi_b (lo := -9223372036854775808) (hi := 9223372036854775807) g 1 8 rfl
                have e34 : h28 1 8 = h 1 8 := ((u28 1 8 rfl).trans ((u25 1 8 rfl).trans ((u15 1 8 rfl).trans (u2 1 8 rfl))))
                have b35 := gi_b (lo := 1) (hi := 21) g 1 9 rfl
                have e36 : h28 1 9 = h 1 9 := ((u28 1 9 rfl).trans ((u25 1 9 rfl).trans ((u15 1 9 rfl).trans (u2 1 9 rfl))))
                have b37 := gi_b (lo := -2147483648) (hi := 2147483647) g 1 7 rfl
                have e38 : h28 1 7 = h 1 7 := ((u28 1 7 rfl).trans ((u25 1 7 rfl).trans ((u15 1 7 rfl).trans (u2 1 7 rfl))))
                exact k h28 g28 F29 (show (h28 1 4) = tk_nx tB tn tp by omega) (show (h28 1 5) = tk_kd tB tn tp by omega) (show (h28 1 6) = tk_st tB tn tp by omega) (show tk_kd tB tn tp = 1 → ((h28 1 8) = tk_lw tB tn tp ∧ (h28 1 9) = tk_wd (tk_lw tB tn tp)) by omega) (show tk_kd tB tn tp = 2 → (h28 1 7) = tk_nb tB tn tp by omega)
            ·
              refine wi_iconst (n := 1) (nx := 13) (r1 := 0) (r2 := 0) (r3 := 0) rfl ?_
              refine wi_goto (nx := 16) (r1 := 17) (r2 := 0) (r3 := 0) rfl ?_
              refine wi_zreturn (nx := 18) (r1 := 0) (r2 := 0) (r3 := 0) rfl rfl (by omega) ?_
              refine wk_i ?_
              refine wi_if (cd := .eq) (nx := 103) (r1 := 110) (r2 := 0) (r3 := 0) rfl (by omega) (fun (q22 : 1 = 0) => by exfalso; omega) (fun (q22 : ¬ (1 = 0)) => ?_)
              refine wi_aload_n (i := 0) (x := 1) (nx := 104) (r1 := 0) (r2 := 0) (r3 := 0) rfl rfl ?_
              have tA23 := tk_atD tS14 (by omega) ei8 ty10 (by omega)
              refine wr_V (k0 := 1) (rest := []) (as := [.ref 1]) (nx := 107) (r1 := 99) (r2 := 0) (r3 := 1) rfl rfl rfl (of_decide_eq_true rfl) rfl rfl (by decide) rfl rfl (of_decide_eq_true rfl) (of_decide_eq_true rfl) ?_
              have e25 : h15 1 4 = h2 1 4 := (u15 1 4 rfl)
              have e26 : h15 1 6 = h2 1 4 := w15
              have tb27 := BufC.fr u2 rfl xq0
              have tb28 := BufC.fr u15 rfl tb27
              refine ct_99_1 hcr  g15   (show (h15 1 4) = (h2 1 4) by omega) (show (h15 1 6) = (h2 1 4) by omega) (show 0 ≤ (h2 1 4) by omega) (show (h2 1 4) ≤ tn by omega) tb28 (fun h24 g24 u24 (p24_0 : (h24 1 4) = tk_de tB tn (h2 1 4)) (p24_1 : (3 < tk_de tB tn (h2 1 4) - (h2 1 4) ∧ (h24 1 5) = 6) ∨ (tk_de tB tn (h2 1 4) - (h2 1 4) ≤ 3 ∧ (h24 1 5) = 2 ∧ (h24 1 7) = tk_nu tB tn (h2 1 4) 0)) => ?_)
              have F29 := F16.then (by decide +kernel) u24
              have b30 := gi_b (lo := 0) (hi := 800) g24 1 4 rfl
              have b31 := gi_b (lo := 0) (hi := 6) g24 1 5 rfl
              have b32 := gi_b (lo := -2147483648) (hi := 2147483647) g24 1 7 rfl
              refine wk_n ?_
              refine wi_goto (nx := 110) (r1 := 136) (r2 := 0) (r3 := 0) rfl ?_
              refine wi_return (nx := 137) (r1 := 0) (r2 := 0) (r3 := 0) rfl rfl ?_
              have e33 : h24 1 6 = h2 1 4 := ((u24 1 6 rfl).trans w15)
              have b34 := gi_b (lo := -9223372036854775808) (hi := 9223372036854775807) g 1 8 rfl
              have e35 : h24 1 8 = h 1 8 := ((u24 1 8 rfl).trans ((u15 1 8 rfl).trans (u2 1 8 rfl)))
              have b36 := gi_b (lo := 1) (hi := 21) g 1 9 rfl
              have e37 : h24 1 9 = h 1 9 := ((u24 1 9 rfl).trans ((u15 1 9 rfl).trans (u2 1 9 rfl)))
              exact k h24 g24 F29 (show (h24 1 4) = tk_nx tB tn tp by omega) (show (h24 1 5) = tk_kd tB tn tp by omega) (show (h24 1 6) = tk_st tB tn tp by omega) (show tk_kd tB tn tp = 1 → ((h24 1 8) = tk_lw tB tn tp ∧ (h24 1 9) = tk_wd (tk_lw tB tn tp)) by omega) (show tk_kd tB tn tp = 2 → (h24 1 7) = tk_nb tB tn tp by omega)
        ·
          refine wi_iload_n (i := 0) (e := h 2 i8) (nx := 7) (r1 := 0) (r2 := 0) (r3 := 0) rfl rfl ?_
          refine wi_bipush (n := 122) (nx := 9) (r1 := 0) (r2 := 0) (r3 := 0) rfl (by decide) ?_
          refine wi_icmp (cd := .gt) (nx := 12) (r1 := 16) (r2 := 0) (r3 := 0) rfl (by omega) (by omega) (fun (q19 : 122 < (h 2 i8)) => ?_) (fun (q19 : ¬ (122 < (h 2 i8))) => ?_)
          ·
            refine wi_iconst (n := 0) (nx := 17) (r1 := 0) (r2 := 0) (r3 := 0) rfl ?_
            refine wi_zreturn (nx := 18) (r1 := 0) (r2 := 0) (r3 := 0) rfl rfl (by omega) ?_
            refine wk_i ?_
            refine wi_if (cd := .eq) (nx := 81) (r1 := 88) (r2 := 0) (r3 := 0) rfl (by omega) (fun (q20 : 0 = 0) => ?_) (fun (q20 : ¬ (0 = 0)) => by exfalso; omega)
            refine wi_aload_n (i := 0) (x := 1) (nx := 89) (r1 := 0) (r2 := 0) (r3 := 0) rfl rfl ?_
            refine wr_gr (k0 := 1) (x := 2) (nx := 92) (r1 := 1) (r2 := 0) (r3 := 0) rfl rfl (by decide) rfl ⟨rfl, rfl⟩ rfl ?_
            refine wi_aload_n (i := 0) (x := 1) (nx := 93) (r1 := 0) (r2 := 0) (r3 := 0) rfl rfl ?_
            refine wr_gi0 (k0 := 1) (x := h2 1 4) (nx := 96) (r1 := 1) (r2 := 4) (r3 := 0) rfl rfl (by decide) rfl ⟨rfl, rfl⟩ rfl (u15 1 4 rfl) ?_
            refine wr_ba (k0 := 2) (a := h2 1 4) (f := i8) (x := h 2 i8) (nx := 97) (r1 := 0) (r2 := 0) (r3 := 0) rfl (by decide) rfl (by decide) (by omega) (by omega) (by decide) ((u15 2 i8 (fn_a (by omega) fn_0)).trans (u2 2 i8 (fn_a (by omega) fn_0))) ?_
            refine wi_S (rest := []) (as := [vi (h 2 i8)]) (nx := 100) (r1 := 98) (r2 := 17) (r3 := 0) rfl rfl rfl (of_decide_eq_true rfl) rfl rfl (of_decide_eq_true rfl) (of_decide_eq_true rfl) ?_
            refine wi_iload_n (i := 0) (e := h 2 i8) (nx := 1) (r1 := 0) (r2 := 0) (r3 := 0) rfl rfl ?_
            refine wi_bipush (n := 48) (nx := 3) (r1 := 0) (r2 := 0) (r3 := 0) rfl (by decide) ?_
            refine wi_icmp (cd := .lt) (nx := 6) (r1 := 16) (r2 := 0) (r3 := 0) rfl (by omega) (by omega) (fun (q21 : (h 2 i8) < 48) => by exfalso; omega) (fun (q21 : ¬ ((h 2 i8) < 48)) => ?_)
            refine wi_iload_n (i := 0) (e := h 2 i8) (nx := 7) (r1 := 0) (r2 := 0) (r3 := 0) rfl rfl ?_
            refine wi_bipush (n := 57) (nx := 9) (r1 := 0) (r2 := 0) (r3 := 0) rfl (by decide) ?_
            refine wi_icmp (cd := .gt) (nx := 12) (r1 := 16) (r2 := 0) (r3 := 0) rfl (by omega) (by omega) (fun (q22 : 57 < (h 2 i8)) => ?_) (fun (q22 : ¬ (57 < (h 2 i8))) => by exfalso; omega)
            refine wi_iconst (n := 0) (nx := 17) (r1 := 0) (r2 := 0) (r3 := 0) rfl ?_
            refine wi_zreturn (nx := 18) (r1 := 0) (r2 := 0) (r3 := 0) rfl rfl (by omega) ?_
            refine wk_i ?_
            refine wi_if (cd := .eq) (nx := 103) (r1 := 110) (r2 := 0) (r3 := 0) rfl (by omega) (fun (q23 : 0 = 0) => ?_) (fun (q23 : ¬ (0 = 0)) => by exfalso; omega)
            refine wi_aload_n (i := 0) (x := 1) (nx := 111) (r1 := 0) (r2 := 0) (r3 := 0) rfl rfl ?_
            have tA24 := tk_atM tS14 (by omega) ei8 ty10 (by omega) (by omega)
            refine wi_aload_n (i := 0) (x := 1) (nx := 112) (r1 := 0) (r2 := 0) (r3 := 0) rfl rfl ?_
            refine wr_gr (k0 := 1) (x := 2) (nx := 115) (r1 := 1) (r2 := 0) (r3 := 0) rfl rfl (by decide) rfl ⟨rfl, rfl⟩ rfl ?_
            refine wi_aload_n (i := 0) (x := 1) (nx := 116) (r1 := 0) (r2 := 0) (r3 := 0) rfl rfl ?_
            refine wr_gi0 (k0 := 1) (x := h2 1 4) (nx := 119) (r1 := 1) (r2 := 4) (r3 := 0) rfl rfl (by decide) rfl ⟨rfl, rfl⟩ rfl (u15 1 4 rfl) ?_
            refine wr_ba (k0 := 2) (a := h2 1 4) (f := i8) (x := h 2 i8) (nx := 120) (r1 := 0) (r2 := 0) (r3 := 0) rfl (by decide) rfl (by decide) (by omega) (by omega) (by decide) ((u15 2 i8 (fn_a (by omega) fn_0)).trans (u2 2 i8 (fn_a (by omega) fn_0))) ?_
            refine wi_S (rest := [.ref 1]) (as := [vi (h 2 i8)]) (nx := 123) (r1 := 100) (r2 := 17) (r3 := 0) rfl rfl rfl (of_decide_eq_true rfl) rfl rfl (of_decide_eq_true rfl) (of_decide_eq_true rfl) ?_
            refine wi_iload_n (i := 0) (e := h 2 i8) (nx := 1) (r1 := 0) (r2 := 0) (r3 := 0) rfl rfl ?_
            refine wr_lsw 42 (nx := 35) (r1 := 0) (r2 := 0) (r3 := 0) rfl (by rw [ii_r (by omega) (by omega)]; simp only [Op.lookupswitch.offset]; (repeat rw [if_neg (by omega)]); rfl) ?_
            refine wi_bipush (n := 6) (nx := 44) (r1 := 0) (r2 := 0) (r3 := 0) rfl (by decide) ?_
            refine wi_ireturn (nx := 45) (r1 := 0) (r2 := 0) (r3 := 0) rfl rfl ?_
            refine wk_i ?_
            refine wr_pf0 (k0 := 1) (x := 6) (bl := 0) (bh := 6) (nx := 126) (r1 := 1) (r2 := 5) (r3 := 0) rfl (by decide) rfl ⟨rfl, rfl⟩ rfl rfl g15 rfl (by omega) (fun h26 g26 w26 u26 => ?_)
            have F27 := F16.then rfl u26
            refine wi_aload_n (i := 0) (x := 1) (nx := 127) (r1 := 0) (r2 := 0) (r3 := 0) rfl rfl ?_
            refine wi_dup (nx := 128) (r1 := 0) (r2 := 0) (r3 := 0) rfl rfl ?_
            refine wr_gi0 (k0 := 1) (x := h2 1 4) (nx := 131) (r1 := 1) (r2 := 4) (r3 := 0) rfl rfl (by decide) rfl ⟨rfl, rfl⟩ rfl ((u26 1 4 rfl).trans (u15 1 4 rfl)) ?_
            refine wi_iconst (n := 1) (nx := 132) (r1 := 0) (r2 := 0) (r3 := 0) rfl ?_
            refine wr_add (nx := 133) (r1 := 0) (r2 := 0) (r3 := 0) rfl (fun e28 (fe28 : e28 = (h2 1 4) + 1) => ?_)
            refine wr_pf0 (k0 := 1) (x := e28) (bl := 0) (bh := 800) (nx := 136) (r1 := 1) (r2 := 4) (r3 := 0) rfl (by decide) rfl ⟨rfl, rfl⟩ rfl rfl g26 rfl (by omega) (fun h29 g29 w29 u29 => ?_)
            have F30 := F27.then rfl u29
            refine wi_return (nx := 137) (r1 := 0) (r2 := 0) (r3 := 0) rfl rfl ?_
            have e31 : h29 1 4 = e28 := w29
            have e32 : h29 1 5 = 6 := ((u29 1 5 rfl).trans w26)
            have e33 : h29 1 6 = h2 1 4 := ((u29 1 6 rfl).trans ((u26 1 6 rfl).trans w15))
            have b34 := gi_b (lo := -9223372036854775808) (hi := 9223372036854775807) g 1 8 rfl
            have e35 : h29 1 8 = h 1 8 := ((u29 1 8 rfl).trans ((u26 1 8 rfl).trans ((u15 1 8 rfl).trans (u2 1 8 rfl))))
            have b36 := gi_b (lo := 1) (hi := 21) g 1 9 rfl
            have e37 : h29 1 9 = h 1 9 := ((u29 1 9 rfl).trans ((u26 1 9 rfl).trans ((u15 1 9 rfl).trans (u2 1 9 rfl))))
            have b38 := gi_b (lo := -2147483648) (hi := 2147483647) g 1 7 rfl
            have e39 : h29 1 7 = h 1 7 := ((u29 1 7 rfl).trans ((u26 1 7 rfl).trans ((u15 1 7 rfl).trans (u2 1 7 rfl))))
            exact k h29 g29 F30 (show (h29 1 4) = tk_nx tB tn tp by omega) (show (h29 1 5) = tk_kd tB tn tp by omega) (show (h29 1 6) = tk_st tB tn tp by omega) (show tk_kd tB tn tp = 1 → ((h29 1 8) = tk_lw tB tn tp ∧ (h29 1 9) = tk_wd (tk_lw tB tn tp)) by omega) (show tk_kd tB tn tp = 2 → (h29 1 7) = tk_nb tB tn tp by omega)
          ·
            refine wi_iconst (n := 1) (nx := 13) (r1 := 0) (r2 := 0) (r3 := 0) rfl ?_
            refine wi_goto (nx := 16) (r1 := 17) (r2 := 0) (r3 := 0) rfl ?_
            refine wi_zreturn (nx := 18) (r1 := 0) (r2 := 0) (r3 := 0) rfl rfl (by omega) ?_
            refine wk_i ?_
            refine wi_if (cd := .eq) (nx := 81) (r1 := 88) (r2 := 0) (r3 := 0) rfl (by omega) (fun (q20 : 1 = 0) => by exfalso; omega) (fun (q20 : ¬ (1 = 0)) => ?_)
            refine wi_aload_n (i := 0) (x := 1) (nx := 82) (r1 := 0) (r2 := 0) (r3 := 0) rfl rfl ?_
            have tA21 := tk_atW tS14 (by omega) ei8 ty10 (by omega)
            have tA21w := congrArg tk_wd tA21.2.2.2.1
            refine wr_V (k0 := 1) (rest := []) (as := [.ref 1]) (nx := 85) (r1 := 97) (r2 := 0) (r3 := 1) rfl rfl rfl (of_decide_eq_true rfl) rfl rfl (by decide) rfl rfl (of_decide_eq_true rfl) (of_decide_eq_true rfl) ?_
            have e23 : h15 1 4 = h2 1 4 := (u15 1 4 rfl)
            have e24 : h15 1 6 = h2 1 4 := w15
            have tb25 := BufC.fr u2 rfl xq0
            have tb26 := BufC.fr u15 rfl tb25
            refine ct_97_1 hcr  g15   (show (h15 1 4) = (h2 1 4) by omega) (show (h15 1 6) = (h2 1 4) by omega) (show 0 ≤ (h2 1 4) by omega) (show (h2 1 4) ≤ tn by omega) tb26 (fun h22 g22 u22 (p22_0 : (h22 1 4) = tk_le tB tn (h2 1 4)) (p22_1 : (8 < tk_le tB tn (h2 1 4) - (h2 1 4) ∧ (h22 1 5) = 6) ∨ (tk_le tB tn (h2 1 4) - (h2 1 4) ≤ 8 ∧ (h22 1 5) = 1 ∧ (h22 1 8) = tk_w8 tB tn (h2 1 4) 0 ∧ (h22 1 9) = tk_wd (tk_w8 tB tn (h2 1 4) 0))) => ?_)
            have F27 := F16.then (by decide +kernel) u22
            have b28 := gi_b (lo := 0) (hi := 800) g22 1 4 rfl
            have b29 := gi_b (lo := 0) (hi := 6) g22 1 5 rfl
            have b30 := gi_b (lo := -9223372036854775808) (hi := 9223372036854775807) g22 1 8 rfl
            have b31 := gi_b (lo := 1) (hi := 21) g22 1 9 rfl
            refine wk_n ?_
            refine wi_goto (nx := 88) (r1 := 136) (r2 := 0) (r3 := 0) rfl ?_
            refine wi_return (nx := 137) (r1 := 0) (r2 := 0) (r3 := 0) rfl rfl ?_
            have e32 : h22 1 6 = h2 1 4 := ((u22 1 6 rfl).trans w15)
            have b33 := gi_b (lo := -2147483648) (hi := 2147483647) g 1 7 rfl
            have e34 : h22 1 7 = h 1 7 := ((u22 1 7 rfl).trans ((u15 1 7 rfl).trans (u2 1 7 rfl)))
            exact k h22 g22 F27 (show (h22 1 4) = tk_nx tB tn tp by omega) (show (h22 1 5) = tk_kd tB tn tp by omega) (show (h22 1 6) = tk_st tB tn tp by omega) (show tk_kd tB tn tp = 1 → ((h22 1 8) = tk_lw tB tn tp ∧ (h22 1 9) = tk_wd (tk_lw tB tn tp)) by omega) (show tk_kd tB tn tp = 2 → (h22 1 7) = tk_nb tB tn tp by omega)
      ·
        refine wi_iconst (n := 1) (nx := 13) (r1 := 0) (r2 := 0) (r3 := 0) rfl ?_
        refine wi_goto (nx := 16) (r1 := 17) (r2 := 0) (r3 := 0) rfl ?_
        refine wi_zreturn (nx := 18) (r1 := 0) (r2 := 0) (r3 := 0) rfl rfl (by omega) ?_
        refine wk_i ?_
        refine wi_if (cd := .eq) (nx := 26) (r1 := 39) (r2 := 0) (r3 := 0) rfl (by omega) (fun (q13 : 1 = 0) => by exfalso; omega) (fun (q13 : ¬ (1 = 0)) => ?_)
        refine wi_aload_n (i := 0) (x := 1) (nx := 27) (r1 := 0) (r2 := 0) (r3 := 0) rfl rfl ?_
        refine wi_dup (nx := 28) (r1 := 0) (r2 := 0) (r3 := 0) rfl rfl ?_
        refine wr_gi0 (k0 := 1) (x := h2 1 4) (nx := 31) (r1 := 1) (r2 := 4) (r3 := 0) rfl rfl (by decide) rfl ⟨rfl, rfl⟩ rfl rfl ?_
        refine wi_iconst (n := 1) (nx := 32) (r1 := 0) (r2 := 0) (r3 := 0) rfl ?_
        refine wr_add (nx := 33) (r1 := 0) (r2 := 0) (r3 := 0) rfl (fun e14 (fe14 : e14 = (h2 1 4) + 1) => ?_)
        refine wr_pf0 (k0 := 1) (x := e14) (bl := 0) (bh := 800) (nx := 36) (r1 := 1) (r2 := 4) (r3 := 0) rfl (by decide) rfl ⟨rfl, rfl⟩ rfl rfl g2 rfl (by omega) (fun h15 g15 w15 u15 => ?_)
        have F16 := F4.then rfl u15
        have F17 := u2.then rfl u15
        refine wi_goto (nx := 39) (r1 := 0) (r2 := 0) (r3 := 0) rfl ?_
        have e18 : h15 1 4 = e14 := w15
        have e19 : h15 1 1 = h 1 1 := ((u15 1 1 rfl).trans (u2 1 1 rfl))
        exact I2 h15 ⟨g15, F16, F17, (show ((h15 1 4) ≤ (h15 1 1)) ∧ (tp ≤ (h15 1 4)) by omega), (tk_stb X2_0 (by omega) (by omega) (show h15 1 4 = h2 1 4 + 1 by omega) ei8 ty10 (by omega))⟩ (show ((h15 1 1) - (h15 1 4)).toNat < ((h2 1 1) - (h2 1 4)).toNat by omega)
-- method 101: Text.fail(I)Z
set_option maxRecDepth 100000 in
set_option maxHeartbeats 100000000 in
theorem ct_101_1 {L : Nat} {xs : Nat → Int32} {d b c : Nat} {h : hp} {cr : Nat → Nat → Option Nat} {Q : hp_Q} (hcr : CR cr)  (g : GI h) (a0 : Int) (q0_ : -2147483648 ≤ a0 ∧ a0 ≤ 2147483647)  (k : ∀ (h2 : hp) (z0 : Int) , GI h2 → FR [(1, 1, some (2, 2)), (1, 1, some (3, 3))] h h2 → (0 ≤ z0 ∧ z0 ≤ 0) → (z0 = 0) → (h2 1 2 = a0) → (h2 1 3 = h 1 6) → Q (.inl (some (vi z0))) (hp_w h2 cr) b c) : wp (md_xa (L, xs)) d 101 (0, [(0, .ref 1), (1, vi a0)], [], hp_w h cr, b, c) Q := by
  have F0 : FR [(1, 1, some (2, 2)), (1, 1, some (3, 3))] h h := FR.refl
  refine wi_aload_n (i := 0) (x := 1) (nx := 1) (r1 := 0) (r2 := 0) (r3 := 0) rfl rfl ?_
  refine wi_iload_n (i := 1) (e := a0) (nx := 2) (r1 := 0) (r2 := 0) (r3 := 0) rfl rfl ?_
  refine wr_pf0 (k0 := 1) (x := a0) (bl := -2147483648) (bh := 2147483647) (nx := 5) (r1 := 1) (r2 := 2) (r3 := 0) rfl (by decide) rfl ⟨rfl, rfl⟩ rfl rfl g rfl (by omega) (fun h1 g1 w1 u1 => ?_)
  have F2 := F0.then rfl u1
  refine wi_aload_n (i := 0) (x := 1) (nx := 6) (r1 := 0) (r2 := 0) (r3 := 0) rfl rfl ?_
  refine wi_aload_n (i := 0) (x := 1) (nx := 7) (r1 := 0) (r2 := 0) (r3 := 0) rfl rfl ?_
  have b3 := gi_b (lo := 0) (hi := 800) g 1 6 rfl
  refine wr_gi0 (k0 := 1) (x := h 1 6) (nx := 10) (r1 := 1) (r2 := 6) (r3 := 0) rfl rfl (by decide) rfl ⟨rfl, rfl⟩ rfl (u1 1 6 rfl) ?_
  refine wr_pf0 (k0 := 1) (x := h 1 6) (bl := -2147483648) (bh := 2147483647) (nx := 13) (r1 := 1) (r2 := 3) (r3 := 0) rfl (by decide) rfl ⟨rfl, rfl⟩ rfl rfl g1 rfl (by omega) (fun h4 g4 w4 u4 => ?_)
  have F5 := F2.then rfl u4
  refine wi_iconst (n := 0) (nx := 14) (r1 := 0) (r2 := 0) (r3 := 0) rfl ?_
  refine wi_zreturn (nx := 15) (r1 := 0) (r2 := 0) (r3 := 0) rfl rfl (by omega) ?_
  have e6 : h4 1 2 = a0 := ((u4 1 2 rfl).trans w1)
  have e7 : h4 1 3 = h 1 6 := w4
  exact k h4 0 g4 F5 (by omega) (show 0 = 0 by omega) (show (h4 1 2) = a0 by omega) (show (h4 1 3) = (h 1 6) by omega)
-- method 102: Text.takeWord(LPaintBank$Word;)Z
set_option maxRecDepth 100000 in
set_option maxHeartbeats 100000000 in
theorem ct_102_1 {L : Nat} {xs : Nat → Int32} {d b c : Nat} {h : hp} {cr : Nat → Nat → Option Nat} {Q : hp_Q} (hcr : CR cr)  {tB : Nat → Int} {tn tp : Int} (g : GI h) (a0 : Int) (q0_ : 1 ≤ a0 ∧ a0 ≤ 21) (pp0 : h 1 4 = tp) (pp1 : 0 ≤ tp) (pp2 : tp ≤ tn) (xq0 : BufC tB tn h) (k : ∀ (h2 : hp) (z0 : Int) , GI h2 → FR [(1, 1, some (2, 2)), (1, 1, some (3, 3)), (1, 1, some (4, 4)), (1, 1, some (5, 5)), (1, 1, some (6, 6)), (1, 1, some (7, 7)), (1, 1, some (8, 8)), (1, 1, some (9, 9))] h h2 → (0 ≤ z0 ∧ z0 ≤ 1) → ((z0 = 1 ∧ tk_kd tB tn tp = 1 ∧ tk_wd (tk_lw tB tn tp) = a0 ∧ h2 1 4 = tk_nx tB tn tp ∧ h2 1 6 = tk_st tB tn tp ∧ h2 1 8 = tk_lw tB tn tp ∧ h2 1 2 = h 1 2 ∧ h2 1 3 = h 1 3) ∨ (z0 = 0 ∧ (tk_kd tB tn tp ≠ 1 ∨ tk_wd (tk_lw tB tn tp) ≠ a0) ∧ h2 1 2 = 1 ∧ h2 1 3 = tk_st tB tn tp)) → Q (.inl (some (vi z0))) (hp_w h2 cr) b c) : wp (md_xa (L, xs)) (d + 3) 102 (0, [(0, .ref 1), (1, wv a0)], [], hp_w h cr, b, c) Q := by
  have F0 : FR [(1, 1, some (2, 2)), (1, 1, some (3, 3)), (1, 1, some (4, 4)), (1, 1, some (5, 5)), (1, 1, some (6, 6)), (1, 1, some (7, 7)), (1, 1, some (8, 8)), (1, 1, some (9, 9))] h h := FR.refl
  have tb_1 : h 1 1 = tn := xq0.2.1
  have tb_2 : 0 ≤ tn ∧ tn ≤ 800 := xq0.2.2
  have b1 := gi_b (lo := 0) (hi := 800) g 1 4 rfl
  refine wi_aload_n (i := 0) (x := 1) (nx := 1) (r1 := 0) (r2 := 0) (r3 := 0) rfl rfl ?_
  refine wr_V (k0 := 1) (rest := []) (as := [.ref 1]) (nx := 4) (r1 := 94) (r2 := 0) (r3 := 1) rfl rfl rfl (of_decide_eq_true rfl) rfl rfl (by decide) rfl rfl (of_decide_eq_true rfl) (of_decide_eq_true rfl) ?_
  refine ct_94_1 hcr  g   (show (h 1 4) = tp by omega) (show 0 ≤ tp by omega) (show tp ≤ tn by omega) xq0 (fun h2 g2 u2 (p2_0 : (h2 1 4) = tk_nx tB tn tp) (p2_1 : (h2 1 5) = tk_kd tB tn tp) (p2_2 : (h2 1 6) = tk_st tB tn tp) (p2_3 : tk_kd tB tn tp = 1 → ((h2 1 8) = tk_lw tB tn tp ∧ (h2 1 9) = tk_wd (tk_lw tB tn tp))) (p2_4 : tk_kd tB tn tp = 2 → (h2 1 7) = tk_nb tB tn tp) => ?_)
  have F3 := F0.then (by decide +kernel) u2
  have b4 := gi_b (lo := 0) (hi := 800) g2 1 4 rfl
  have b5 := gi_b (lo := 0) (hi := 6) g2 1 5 rfl
  have b6 := gi_b (lo := 0) (hi := 800) g2 1 6 rfl
  have b7 := gi_b (lo := -9223372036854775808) (hi := 9223372036854775807) g2 1 8 rfl
  have b8 := gi_b (lo := 1) (hi := 21) g2 1 9 rfl
  have b9 := gi_b (lo := -2147483648) (hi := 2147483647) g2 1 7 rfl
  have tN10 := @tk_nx_b tB tn tp (by omega) (by omega)
  refine wk_n ?_
  refine wi_aload_n (i := 0) (x := 1) (nx := 5) (r1 := 0) (r2 := 0) (r3 := 0) rfl rfl ?_
  refine wr_gi0 (k0 := 1) (x := h2 1 5) (nx := 8) (r1 := 1) (r2 := 5) (r3 := 0) rfl rfl (by decide) rfl ⟨rfl, rfl⟩ rfl rfl ?_
  refine wi_iconst (n := 1) (nx := 9) (r1 := 0) (r2 := 0) (r3 := 0) rfl ?_
  refine wi_icmp (cd := .ne) (nx := 12) (r1 := 20) (r2 := 0) (r3 := 0) rfl (by omega) (by omega) (fun (q11 : (h2 1 5) ≠ 1) => ?_) (fun (q11 : ¬ ((h2 1 5) ≠ 1)) => ?_)
  ·
    refine wi_aload_n (i := 0) (x := 1) (nx := 21) (r1 := 0) (r2 := 0) (r3 := 0) rfl rfl ?_
    refine wi_iconst (n := 1) (nx := 22) (r1 := 0) (r2 := 0) (r3 := 0) rfl ?_
    refine wr_V (k0 := 1) (rest := []) (as := [.ref 1, vi 1]) (nx := 25) (r1 := 101) (r2 := 1) (r3 := 1) rfl rfl rfl (of_decide_eq_true rfl) rfl rfl (by decide) rfl rfl (of_decide_eq_true rfl) (of_decide_eq_true rfl) ?_
    refine ct_101_1 hcr  g2 1 (by omega)  (fun h12 z13 g12 u12 (fz13 : 0 ≤ z13 ∧ z13 ≤ 0) (p12_0 : z13 = 0) (p12_1 : (h12 1 2) = 1) (p12_2 : (h12 1 3) = (h2 1 6)) => ?_)
    have F14 := F3.then (by decide +kernel) u12
    have b15 := gi_b (lo := -2147483648) (hi := 2147483647) g12 1 2 rfl
    have b16 := gi_b (lo := -2147483648) (hi := 2147483647) g12 1 3 rfl
    refine wk_i ?_
    refine wi_if (cd := .eq) (nx := 28) (r1 := 32) (r2 := 0) (r3 := 0) rfl (by omega) (fun (q17 : z13 = 0) => ?_) (fun (q17 : ¬ (z13 = 0)) => by exfalso; omega)
    refine wi_iconst (n := 0) (nx := 33) (r1 := 0) (r2 := 0) (r3 := 0) rfl ?_
    refine wi_zreturn (nx := 34) (r1 := 0) (r2 := 0) (r3 := 0) rfl rfl (by omega) ?_
    have e18 : h12 1 4 = h2 1 4 := (u12 1 4 rfl)
    have e19 : h12 1 6 = h2 1 6 := (u12 1 6 rfl)
    have e20 : h12 1 8 = h2 1 8 := (u12 1 8 rfl)
    have b21 := gi_b (lo := -2147483648) (hi := 2147483647) g 1 2 rfl
    have b22 := gi_b (lo := -2147483648) (hi := 2147483647) g 1 3 rfl
    exact k h12 0 g12 F14 (by omega) (show (0 = 1 ∧ tk_kd tB tn tp = 1 ∧ tk_wd (tk_lw tB tn tp) = a0 ∧ (h12 1 4) = tk_nx tB tn tp ∧ (h12 1 6) = tk_st tB tn tp ∧ (h12 1 8) = tk_lw tB tn tp ∧ (h12 1 2) = (h 1 2) ∧ (h12 1 3) = (h 1 3)) ∨ (0 = 0 ∧ (tk_kd tB tn tp ≠ 1 ∨ tk_wd (tk_lw tB tn tp) ≠ a0) ∧ (h12 1 2) = 1 ∧ (h12 1 3) = tk_st tB tn tp) by omega)
  ·
    refine wi_aload_n (i := 0) (x := 1) (nx := 13) (r1 := 0) (r2 := 0) (r3 := 0) rfl rfl ?_
    refine wr_gi3 (k0 := 1) (x := h2 1 9) (nx := 16) (r1 := 1) (r2 := 9) (r3 := 0) rfl rfl (by decide) rfl ⟨rfl, rfl⟩ rfl rfl ?_
    refine wi_aload_n (i := 1) (x := mm_XB + (a0 : Int).toNat) (nx := 17) (r1 := 0) (r2 := 0) (r3 := 0) rfl rfl ?_
    refine wr_acmp (cd := .eq) (x := h2 1 9) (y := a0) (nx := 20) (r1 := 28) (r2 := 0) (r3 := 0) rfl (by omega) (by omega) (fun (q12 : ((h2 1 9) = a0 ↔ Jvm.ClassFile.ACond.eq = .eq)) => ?_) (fun (q12 : ¬ ((h2 1 9) = a0 ↔ Jvm.ClassFile.ACond.eq = .eq)) => ?_)
    ·
      have q12 : ((h2 1 9) = a0) := by simpa using q12
      refine wi_iconst (n := 1) (nx := 29) (r1 := 0) (r2 := 0) (r3 := 0) rfl ?_
      refine wi_goto (nx := 32) (r1 := 33) (r2 := 0) (r3 := 0) rfl ?_
      refine wi_zreturn (nx := 34) (r1 := 0) (r2 := 0) (r3 := 0) rfl rfl (by omega) ?_
      have b13 := gi_b (lo := -2147483648) (hi := 2147483647) g 1 2 rfl
      have e14 : h2 1 2 = h 1 2 := (u2 1 2 rfl)
      have b15 := gi_b (lo := -2147483648) (hi := 2147483647) g 1 3 rfl
      have e16 : h2 1 3 = h 1 3 := (u2 1 3 rfl)
      exact k h2 1 g2 F3 (by omega) (show (1 = 1 ∧ tk_kd tB tn tp = 1 ∧ tk_wd (tk_lw tB tn tp) = a0 ∧ (h2 1 4) = tk_nx tB tn tp ∧ (h2 1 6) = tk_st tB tn tp ∧ (h2 1 8) = tk_lw tB tn tp ∧ (h2 1 2) = (h 1 2) ∧ (h2 1 3) = (h 1 3)) ∨ (1 = 0 ∧ (tk_kd tB tn tp ≠ 1 ∨ tk_wd (tk_lw tB tn tp) ≠ a0) ∧ (h2 1 2) = 1 ∧ (h2 1 3) = tk_st tB tn tp) by omega)
    ·
      have q12 : ¬ ((h2 1 9) = a0) := by simpa using q12
      refine wi_aload_n (i := 0) (x := 1) (nx := 21) (r1 := 0) (r2 := 0) (r3 := 0) rfl rfl ?_
      refine wi_iconst (n := 1) (nx := 22) (r1 := 0) (r2 := 0) (r3 := 0) rfl ?_
      refine wr_V (k0 := 1) (rest := []) (as := [.ref 1, vi 1]) (nx := 25) (r1 := 101) (r2 := 1) (r3 := 1) rfl rfl rfl (of_decide_eq_true rfl) rfl rfl (by decide) rfl rfl (of_decide_eq_true rfl) (of_decide_eq_true rfl) ?_
      refine ct_101_1 hcr  g2 1 (by omega)  (fun h13 z14 g13 u13 (fz14 : 0 ≤ z14 ∧ z14 ≤ 0) (p13_0 : z14 = 0) (p13_1 : (h13 1 2) = 1) (p13_2 : (h13 1 3) = (h2 1 6)) => ?_)
      have F15 := F3.then (by decide +kernel) u13
      have b16 := gi_b (lo := -2147483648) (hi := 2147483647) g13 1 2 rfl
      have b17 := gi_b (lo := -2147483648) (hi := 2147483647) g13 1 3 rfl
      refine wk_i ?_
      refine wi_if (cd := .eq) (nx := 28) (r1 := 32) (r2 := 0) (r3 := 0) rfl (by omega) (fun (q18 : z14 = 0) => ?_) (fun (q18 : ¬ (z14 = 0)) => by exfalso; omega)
      refine wi_iconst (n := 0) (nx := 33) (r1 := 0) (r2 := 0) (r3 := 0) rfl ?_
      refine wi_zreturn (nx := 34) (r1 := 0) (r2 := 0) (r3 := 0) rfl rfl (by omega) ?_
      have e19 : h13 1 4 = h2 1 4 := (u13 1 4 rfl)
      have e20 : h13 1 6 = h2 1 6 := (u13 1 6 rfl)
      have e21 : h13 1 8 = h2 1 8 := (u13 1 8 rfl)
      have b22 := gi_b (lo := -2147483648) (hi := 2147483647) g 1 2 rfl
      have b23 := gi_b (lo := -2147483648) (hi := 2147483647) g 1 3 rfl
      exact k h13 0 g13 F15 (by omega) (show (0 = 1 ∧ tk_kd tB tn tp = 1 ∧ tk_wd (tk_lw tB tn tp) = a0 ∧ (h13 1 4) = tk_nx tB tn tp ∧ (h13 1 6) = tk_st tB tn tp ∧ (h13 1 8) = tk_lw tB tn tp ∧ (h13 1 2) = (h 1 2) ∧ (h13 1 3) = (h 1 3)) ∨ (0 = 0 ∧ (tk_kd tB tn tp ≠ 1 ∨ tk_wd (tk_lw tB tn tp) ≠ a0) ∧ (h13 1 2) = 1 ∧ (h13 1 3) = tk_st tB tn tp) by omega)
-- method 115: Setup.colorNamed(J)I
set_option maxRecDepth 100000 in
set_option maxHeartbeats 100000000 in
theorem ct_115_11 {L : Nat} {xs : Nat → Int32} {d b c : Nat} {h : hp} {cr : Nat → Nat → Option Nat} {Q : hp_Q} (hcr : CR cr)  {tB : Nat → Int} {tn  : Int} {tS : tk_S} (g : GI h) (a0 : Int) (q0_ : -9223372036854775808 ≤ a0 ∧ a0 ≤ 9223372036854775807)  (xq0 : BufC tB tn h) (xq1 : CVc tS h) (k : ∀ (z0 : Int), (-1 ≤ z0 ∧ z0 ≤ 4) → ((z0 = -1 ∧ tk_fi tS a0 = tS 0) ∨ (0 ≤ z0 ∧ z0 < tS 0 ∧ tk_fi tS a0 = z0)) → Q (.inl (some (vi z0))) (hp_w h cr) b c) : wp (md_xa (L, xs)) d 115 (0, [(0, .ref 11), (1, vl a0)], [], hp_w h cr, b, c) Q := by
  have F0 : FR [] h h := FR.refl
  have tb_1 : h 1 1 = tn := xq0.2.1
  have tb_2 : 0 ≤ tn ∧ tn ≤ 800 := xq0.2.2
  obtain ⟨⟨cv_0, cv_1, cv_2, cv_3, cv_4, cv_5, cv_6, cv_7, cv_8, cv_9⟩, ⟨cf_2, cf_3, cf_4, cf_5⟩, -⟩ := id xq1
  have b1 := gi_b (lo := 0) (hi := 5) g 11 0 rfl
  have b2 := gi_b (lo := 0) (hi := 4) g 11 1 rfl
  have b3 := gi_b (lo := 0) (hi := 12) g 11 2 rfl
  refine wi_iconst (n := 0) (nx := 1) (r1 := 0) (r2 := 0) (r3 := 0) rfl ?_
  refine wi_istore_n (i := 3) (e := 0) (lo2 := [(3, vi 0), (0, .ref 11), (1, vl a0)]) (nx := 2) (r1 := 0) (r2 := 0) (r3 := 0) rfl rfl ?_
  refine wp.lo (lo := [(0, .ref 11), (1, vl a0), (3, vi 0)]) ⟨rfl, rfl, rfl, trivial⟩ rfl ?_
  refine wl_1 (fun x4 h5 => h = h5 ∧ ((0 ≤ x4 ∧ x4 ≤ 5) ∧ (x4 ≤ (h 11 0))) ∧ tk_fc (fun i => tS (70 + i)) (tS 0) a0 x4 = tk_fi tS a0) (fun x4 h5 => ((5 : Int) + 1 - x4).toNat) (fun x4 h5 => (2, [(0, .ref 11), (1, vl a0), (3, vi x4)], [], hp_w h5 cr, b, c)) ?_ 0 h ⟨rfl, (show (0 ≤ 0 ∧ 0 ≤ 5) ∧ (0 ≤ (h 11 0)) by omega), rfl⟩
  intro x4 h5 ⟨e5, f5, X5_0⟩ I5
  subst e5
  refine wi_iload_n (i := 3) (e := x4) (nx := 3) (r1 := 0) (r2 := 0) (r3 := 0) rfl rfl ?_
  refine wi_aload_n (i := 0) (x := 11) (nx := 4) (r1 := 0) (r2 := 0) (r3 := 0) rfl rfl ?_
  refine wr_gi0 (k0 := 11) (x := h 11 0) (nx := 7) (r1 := 2) (r2 := 0) (r3 := 0) rfl rfl (by decide) rfl ⟨rfl, rfl⟩ rfl rfl ?_
  refine wi_icmp (cd := .ge) (nx := 10) (r1 := 29) (r2 := 0) (r3 := 0) rfl (by omega) (by omega) (fun (q7 : (h 11 0) ≤ x4) => ?_) (fun (q7 : ¬ ((h 11 0) ≤ x4)) => ?_)
  ·
    refine wi_iconst (n := (-1)) (nx := 30) (r1 := 0) (r2 := 0) (r3 := 0) rfl ?_
    refine wi_ireturn (nx := 31) (r1 := 0) (r2 := 0) (r3 := 0) rfl rfl ?_
    exact k (-1) (by omega) (Or.inl ⟨rfl, X5_0.symm.trans (tk_fce (by omega) (by omega))⟩)
  ·
    refine wi_aload_n (i := 0) (x := 11) (nx := 11) (r1 := 0) (r2 := 0) (r3 := 0) rfl rfl ?_
    refine wr_gr (k0 := 11) (x := 12) (nx := 14) (r1 := 2) (r2 := 10) (r3 := 0) rfl rfl (by decide) rfl ⟨rfl, rfl⟩ rfl ?_
    refine wi_iload_n (i := 3) (e := x4) (nx := 15) (r1 := 0) (r2 := 0) (r3 := 0) rfl rfl ?_
    obtain ⟨i8, ei8⟩ : ∃ q : Nat, x4 = (q : Int) := ⟨(x4).toNat, by omega⟩
    have b9 := gi_b (lo := -9223372036854775808) (hi := 9223372036854775807) g 12 i8 rfl
    refine wr_la (k0 := 12) (a := x4) (f := i8) (x := h 12 i8) (nx := 16) (r1 := 0) (r2 := 0) (r3 := 0) rfl (by decide) rfl (by omega) (by omega) (by decide) rfl ?_
    have cn10 : h 12 i8 = tS (70 + i8) := (xq1.2.2.1 i8 (by omega)).1
    refine wi_lload_n (i := 1) (e := a0) (nx := 17) (r1 := 0) (r2 := 0) (r3 := 0) rfl rfl ?_
    refine wi_lcmp (a := h 12 i8) (e := a0) (nx := 18) (r1 := 0) (r2 := 0) (r3 := 0) rfl (by omega) (by omega) (fun r11 (fr11 : (r11 = -1 ∧ (h 12 i8) < a0) ∨ (r11 = 0 ∧ (h 12 i8) = a0) ∨ (r11 = 1 ∧ a0 < (h 12 i8))) => ?_)
    refine wi_if (cd := .ne) (nx := 21) (r1 := 23) (r2 := 0) (r3 := 0) rfl (by omega) (fun (q12 : r11 ≠ 0) => ?_) (fun (q12 : ¬ (r11 ≠ 0)) => ?_)
    ·
      refine wr_iinc (i := 3) (n := 1) (v := x4) (fun e13 => [(3, vi e13), (0, .ref 11), (1, vl a0)]) (nx := 26) (r1 := 0) (r2 := 0) (r3 := 0) rfl rfl (fun _ => rfl) (fun e13 (fe13 : e13 = x4 + 1) => ?_)
      refine wi_goto (nx := 29) (r1 := 2) (r2 := 0) (r3 := 0) rfl ?_
      refine wp.lo (lo := [(0, .ref 11), (1, vl a0), (3, vi e13)]) ⟨rfl, rfl, rfl, trivial⟩ rfl ?_
      exact I5 e13 h ⟨rfl, (show (0 ≤ e13 ∧ e13 ≤ 5) ∧ (e13 ≤ (h 11 0)) by omega), ((tk_fcs (by omega) (by omega) ei8 (by omega) (show ¬ tS (70 + i8) = a0 by omega)).symm.trans X5_0)⟩ (show ((5 : Int) + 1 - e13).toNat < ((5 : Int) + 1 - x4).toNat by omega)
    ·
      refine wi_iload_n (i := 3) (e := x4) (nx := 22) (r1 := 0) (r2 := 0) (r3 := 0) rfl rfl ?_
      refine wi_ireturn (nx := 23) (r1 := 0) (r2 := 0) (r3 := 0) rfl rfl ?_
      exact k x4 (by omega) (Or.inr ⟨by omega, by omega, X5_0.symm.trans (tk_fcf (by omega) (by omega) ei8 (by omega) (show tS (70 + i8) = a0 by omega))⟩)
-- method 103: Text.takeNumber(II)Z
set_option maxRecDepth 100000 in
set_option maxHeartbeats 100000000 in
theorem ct_103_1 {L : Nat} {xs : Nat → Int32} {d b c : Nat} {h : hp} {cr : Nat → Nat → Option Nat} {Q : hp_Q} (hcr : CR cr)  {tB : Nat → Int} {tn tp : Int} (g : GI h) (a0 : Int) (a1 : Int) (q0_ : -2147483648 ≤ a0 ∧ a0 ≤ 2147483647) (q1_ : -2147483648 ≤ a1 ∧ a1 ≤ 2147483647) (pp0 : h 1 4 = tp) (pp1 : 0 ≤ tp) (pp2 : tp ≤ tn) (xq0 : BufC tB tn h) (k : ∀ (h2 : hp) (z0 : Int) , GI h2 → FR [(1, 1, some (2, 2)), (1, 1, some (3, 3)), (1, 1, some (4, 4)), (1, 1, some (5, 5)), (1, 1, some (6, 6)), (1, 1, some (7, 7)), (1, 1, some (8, 8)), (1, 1, some (9, 9))] h h2 → (0 ≤ z0 ∧ z0 ≤ 1) → ((z0 = 1 ∧ tk_kd tB tn tp = 2 ∧ a0 ≤ tk_nb tB tn tp ∧ tk_nb tB tn tp ≤ a1 ∧ h2 1 4 = tk_nx tB tn tp ∧ h2 1 7 = tk_nb tB tn tp ∧ h2 1 2 = h 1 2 ∧ h2 1 3 = h 1 3) ∨ (z0 = 0 ∧ h2 1 3 = tk_st tB tn tp ∧ ((tk_kd tB tn tp ≠ 2 ∧ h2 1 2 = 1) ∨ (tk_kd tB tn tp = 2 ∧ (tk_nb tB tn tp < a0 ∨ a1 < tk_nb tB tn tp) ∧ h2 1 2 = 2)))) → Q (.inl (some (vi z0))) (hp_w h2 cr) b c) : wp (md_xa (L, xs)) (d + 3) 103 (0, [(0, .ref 1), (1, vi a0), (2, vi a1)], [], hp_w h cr, b, c) Q := by
  have F0 : FR [(1, 1, some (2, 2)), (1, 1, some (3, 3)), (1, 1, some (4, 4)), (1, 1, some (5, 5)), (1, 1, some (6, 6)), (1, 1, some (7, 7)), (1, 1, some (8, 8)), (1, 1, some (9, 9))] h h := FR.refl
  have tb_1 : h 1 1 = tn := xq0.2.1
  have tb_2 : 0 ≤ tn ∧ tn ≤ 800 := xq0.2.2
  have b1 := gi_b (lo := 0) (hi := 800) g 1 4 rfl
  refine wi_aload_n (i := 0) (x := 1) (nx := 1) (r1 := 0) (r2 := 0) (r3 := 0) rfl rfl ?_
  refine wr_V (k0 := 1) (rest := []) (as := [.ref 1]) (nx := 4) (r1 := 94) (r2 := 0) (r3 := 1) rfl rfl rfl (of_decide_eq_true rfl) rfl rfl (by decide) rfl rfl (of_decide_eq_true rfl) (of_decide_eq_true rfl) ?_
  refine ct_94_1 hcr  g   (show (h 1 4) = tp by omega) (show 0 ≤ tp by omega) (show tp ≤ tn by omega) xq0 (fun h2 g2 u2 (p2_0 : (h2 1 4) = tk_nx tB tn tp) (p2_1 : (h2 1 5) = tk_kd tB tn tp) (p2_2 : (h2 1 6) = tk_st tB tn tp) (p2_3 : tk_kd tB tn tp = 1 → ((h2 1 8) = tk_lw tB tn tp ∧ (h2 1 9) = tk_wd (tk_lw tB tn tp))) (p2_4 : tk_kd tB tn tp = 2 → (h2 1 7) = tk_nb tB tn tp) => ?_)
  have F3 := F0.then (by decide +kernel) u2
  have b4 := gi_b (lo := 0) (hi := 800) g2 1 4 rfl
  have b5 := gi_b (lo := 0) (hi := 6) g2 1 5 rfl
  have b6 := gi_b (lo := 0) (hi := 800) g2 1 6 rfl
  have b7 := gi_b (lo := -9223372036854775808) (hi := 9223372036854775807) g2 1 8 rfl
  have b8 := gi_b (lo := 1) (hi := 21) g2 1 9 rfl
  have b9 := gi_b (lo := -2147483648) (hi := 2147483647) g2 1 7 rfl
  have tN10 := @tk_nx_b tB tn tp (by omega) (by omega)
  refine wk_n ?_
  refine wi_aload_n (i := 0) (x := 1) (nx := 5) (r1 := 0) (r2 := 0) (r3 := 0) rfl rfl ?_
  refine wr_gi0 (k0 := 1) (x := h2 1 5) (nx := 8) (r1 := 1) (r2 := 5) (r3 := 0) rfl rfl (by decide) rfl ⟨rfl, rfl⟩ rfl rfl ?_
  refine wi_iconst (n := 2) (nx := 9) (r1 := 0) (r2 := 0) (r3 := 0) rfl ?_
  refine wi_icmp (cd := .eq) (nx := 12) (r1 := 18) (r2 := 0) (r3 := 0) rfl (by omega) (by omega) (fun (q11 : (h2 1 5) = 2) => ?_) (fun (q11 : ¬ ((h2 1 5) = 2)) => ?_)
  ·
    refine wi_aload_n (i := 0) (x := 1) (nx := 19) (r1 := 0) (r2 := 0) (r3 := 0) rfl rfl ?_
    refine wr_gi0 (k0 := 1) (x := h2 1 7) (nx := 22) (r1 := 1) (r2 := 7) (r3 := 0) rfl rfl (by decide) rfl ⟨rfl, rfl⟩ rfl rfl ?_
    refine wi_iload_n (i := 1) (e := a0) (nx := 23) (r1 := 0) (r2 := 0) (r3 := 0) rfl rfl ?_
    refine wi_icmp (cd := .lt) (nx := 26) (r1 := 34) (r2 := 0) (r3 := 0) rfl (by omega) (by omega) (fun (q12 : (h2 1 7) < a0) => ?_) (fun (q12 : ¬ ((h2 1 7) < a0)) => ?_)
    ·
      refine wi_aload_n (i := 0) (x := 1) (nx := 35) (r1 := 0) (r2 := 0) (r3 := 0) rfl rfl ?_
      refine wi_iconst (n := 2) (nx := 36) (r1 := 0) (r2 := 0) (r3 := 0) rfl ?_
      refine wr_V (k0 := 1) (rest := []) (as := [.ref 1, vi 2]) (nx := 39) (r1 := 101) (r2 := 1) (r3 := 1) rfl rfl rfl (of_decide_eq_true rfl) rfl rfl (by decide) rfl rfl (of_decide_eq_true rfl) (of_decide_eq_true rfl) ?_
      refine ct_101_1 hcr  g2 2 (by omega)  (fun h13 z14 g13 u13 (fz14 : 0 ≤ z14 ∧ z14 ≤ 0) (p13_0 : z14 = 0) (p13_1 : (h13 1 2) = 2) (p13_2 : (h13 1 3) = (h2 1 6)) => ?_)
      have F15 := F3.then (by decide +kernel) u13
      have b16 := gi_b (lo := -2147483648) (hi := 2147483647) g13 1 2 rfl
      have b17 := gi_b (lo := -2147483648) (hi := 2147483647) g13 1 3 rfl
      refine wk_i ?_
      refine wi_if (cd := .eq) (nx := 42) (r1 := 46) (r2 := 0) (r3 := 0) rfl (by omega) (fun (q18 : z14 = 0) => ?_) (fun (q18 : ¬ (z14 = 0)) => by exfalso; omega)
      refine wi_iconst (n := 0) (nx := 47) (r1 := 0) (r2 := 0) (r3 := 0) rfl ?_
      refine wi_zreturn (nx := 48) (r1 := 0) (r2 := 0) (r3 := 0) rfl rfl (by omega) ?_
      have e19 : h13 1 4 = h2 1 4 := (u13 1 4 rfl)
      have e20 : h13 1 7 = h2 1 7 := (u13 1 7 rfl)
      have b21 := gi_b (lo := -2147483648) (hi := 2147483647) g 1 2 rfl
      have b22 := gi_b (lo := -2147483648) (hi := 2147483647) g 1 3 rfl
      exact k h13 0 g13 F15 (by omega) (show (0 = 1 ∧ tk_kd tB tn tp = 2 ∧ a0 ≤ tk_nb tB tn tp ∧ tk_nb tB tn tp ≤ a1 ∧ (h13 1 4) = tk_nx tB tn tp ∧ (h13 1 7) = tk_nb tB tn tp ∧ (h13 1 2) = (h 1 2) ∧ (h13 1 3) = (h 1 3)) ∨ (0 = 0 ∧ (h13 1 3) = tk_st tB tn tp ∧ ((tk_kd tB tn tp ≠ 2 ∧ (h13 1 2) = 1) ∨ (tk_kd tB tn tp = 2 ∧ (tk_nb tB tn tp < a0 ∨ a1 < tk_nb tB tn tp) ∧ (h13 1 2) = 2))) by omega)
    ·
      refine wi_aload_n (i := 0) (x := 1) (nx := 27) (r1 := 0) (r2 := 0) (r3 := 0) rfl rfl ?_
      refine wr_gi0 (k0 := 1) (x := h2 1 7) (nx := 30) (r1 := 1) (r2 := 7) (r3 := 0) rfl rfl (by decide) rfl ⟨rfl, rfl⟩ rfl rfl ?_
      refine wi_iload_n (i := 2) (e := a1) (nx := 31) (r1 := 0) (r2 := 0) (r3 := 0) rfl rfl ?_
      refine wi_icmp (cd := .le) (nx := 34) (r1 := 42) (r2 := 0) (r3 := 0) rfl (by omega) (by omega) (fun (q13 : (h2 1 7) ≤ a1) => ?_) (fun (q13 : ¬ ((h2 1 7) ≤ a1)) => ?_)
      ·
        refine wi_iconst (n := 1) (nx := 43) (r1 := 0) (r2 := 0) (r3 := 0) rfl ?_
        refine wi_goto (nx := 46) (r1 := 47) (r2 := 0) (r3 := 0) rfl ?_
        refine wi_zreturn (nx := 48) (r1 := 0) (r2 := 0) (r3 := 0) rfl rfl (by omega) ?_
        have b14 := gi_b (lo := -2147483648) (hi := 2147483647) g 1 2 rfl
        have e15 : h2 1 2 = h 1 2 := (u2 1 2 rfl)
        have b16 := gi_b (lo := -2147483648) (hi := 2147483647) g 1 3 rfl
        have e17 : h2 1 3 = h 1 3 := (u2 1 3 rfl)
        exact k h2 1 g2 F3 (by omega) (show (1 = 1 ∧ tk_kd tB tn tp = 2 ∧ a0 ≤ tk_nb tB tn tp ∧ tk_nb tB tn tp ≤ a1 ∧ (h2 1 4) = tk_nx tB tn tp ∧ (h2 1 7) = tk_nb tB tn tp ∧ (h2 1 2) = (h 1 2) ∧ (h2 1 3) = (h 1 3)) ∨ (1 = 0 ∧ (h2 1 3) = tk_st tB tn tp ∧ ((tk_kd tB tn tp ≠ 2 ∧ (h2 1 2) = 1) ∨ (tk_kd tB tn tp = 2 ∧ (tk_nb tB tn tp < a0 ∨ a1 < tk_nb tB tn tp) ∧ (h2 1 2) = 2))) by omega)
      ·
        refine wi_aload_n (i := 0) (x := 1) (nx := 35) (r1 := 0) (r2 := 0) (r3 := 0) rfl rfl ?_
        refine wi_iconst (n := 2) (nx := 36) (r1 := 0) (r2 := 0) (r3 := 0) rfl ?_
        refine wr_V (k0 := 1) (rest := []) (as := [.ref 1, vi 2]) (nx := 39) (r1 := 101) (r2 := 1) (r3 := 1) rfl rfl rfl (of_decide_eq_true rfl) rfl rfl (by decide) rfl rfl (of_decide_eq_true rfl) (of_decide_eq_true rfl) ?_
        refine ct_101_1 hcr  g2 2 (by omega)  (fun h14 z15 g14 u14 (fz15 : 0 ≤ z15 ∧ z15 ≤ 0) (p14_0 : z15 = 0) (p14_1 : (h14 1 2) = 2) (p14_2 : (h14 1 3) = (h2 1 6)) => ?_)
        have F16 := F3.then (by decide +kernel) u14
        have b17 := gi_b (lo := -2147483648) (hi := 2147483647) g14 1 2 rfl
        have b18 := gi_b (lo := -2147483648) (hi := 2147483647) g14 1 3 rfl
        refine wk_i ?_
        refine wi_if (cd := .eq) (nx := 42) (r1 := 46) (r2 := 0) (r3 := 0) rfl (by omega) (fun (q19 : z15 = 0) => ?_) (fun (q19 : ¬ (z15 = 0)) => by exfalso; omega)
        refine wi_iconst (n := 0) (nx := 47) (r1 := 0) (r2 := 0) (r3 := 0) rfl ?_
        refine wi_zreturn (nx := 48) (r1 := 0) (r2 := 0) (r3 := 0) rfl rfl (by omega) ?_
        have e20 : h14 1 4 = h2 1 4 := (u14 1 4 rfl)
        have e21 : h14 1 7 = h2 1 7 := (u14 1 7 rfl)
        have b22 := gi_b (lo := -2147483648) (hi := 2147483647) g 1 2 rfl
        have b23 := gi_b (lo := -2147483648) (hi := 2147483647) g 1 3 rfl
        exact k h14 0 g14 F16 (by omega) (show (0 = 1 ∧ tk_kd tB tn tp = 2 ∧ a0 ≤ tk_nb tB tn tp ∧ tk_nb tB tn tp ≤ a1 ∧ (h14 1 4) = tk_nx tB tn tp ∧ (h14 1 7) = tk_nb tB tn tp ∧ (h14 1 2) = (h 1 2) ∧ (h14 1 3) = (h 1 3)) ∨ (0 = 0 ∧ (h14 1 3) = tk_st tB tn tp ∧ ((tk_kd tB tn tp ≠ 2 ∧ (h14 1 2) = 1) ∨ (tk_kd tB tn tp = 2 ∧ (tk_nb tB tn tp < a0 ∨ a1 < tk_nb tB tn tp) ∧ (h14 1 2) = 2))) by omega)
  ·
    refine wi_aload_n (i := 0) (x := 1) (nx := 13) (r1 := 0) (r2 := 0) (r3 := 0) rfl rfl ?_
    refine wi_iconst (n := 1) (nx := 14) (r1 := 0) (r2 := 0) (r3 := 0) rfl ?_
    refine wr_V (k0 := 1) (rest := []) (as := [.ref 1, vi 1]) (nx := 17) (r1 := 101) (r2 := 1) (r3 := 1) rfl rfl rfl (of_decide_eq_true rfl) rfl rfl (by decide) rfl rfl (of_decide_eq_true rfl) (of_decide_eq_true rfl) ?_
    refine ct_101_1 hcr  g2 1 (by omega)  (fun h12 z13 g12 u12 (fz13 : 0 ≤ z13 ∧ z13 ≤ 0) (p12_0 : z13 = 0) (p12_1 : (h12 1 2) = 1) (p12_2 : (h12 1 3) = (h2 1 6)) => ?_)
    have F14 := F3.then (by decide +kernel) u12
    have b15 := gi_b (lo := -2147483648) (hi := 2147483647) g12 1 2 rfl
    have b16 := gi_b (lo := -2147483648) (hi := 2147483647) g12 1 3 rfl
    refine wk_i ?_
    refine wi_zreturn (nx := 18) (r1 := 0) (r2 := 0) (r3 := 0) rfl rfl (by omega) ?_
    have e17 : h12 1 4 = h2 1 4 := (u12 1 4 rfl)
    have e18 : h12 1 7 = h2 1 7 := (u12 1 7 rfl)
    have b19 := gi_b (lo := -2147483648) (hi := 2147483647) g 1 2 rfl
    have b20 := gi_b (lo := -2147483648) (hi := 2147483647) g 1 3 rfl
    exact k h12 z13 g12 F14 (by omega) (show (z13 = 1 ∧ tk_kd tB tn tp = 2 ∧ a0 ≤ tk_nb tB tn tp ∧ tk_nb tB tn tp ≤ a1 ∧ (h12 1 4) = tk_nx tB tn tp ∧ (h12 1 7) = tk_nb tB tn tp ∧ (h12 1 2) = (h 1 2) ∧ (h12 1 3) = (h 1 3)) ∨ (z13 = 0 ∧ (h12 1 3) = tk_st tB tn tp ∧ ((tk_kd tB tn tp ≠ 2 ∧ (h12 1 2) = 1) ∨ (tk_kd tB tn tp = 2 ∧ (tk_nb tB tn tp < a0 ∨ a1 < tk_nb tB tn tp) ∧ (h12 1 2) = 2))) by omega)
