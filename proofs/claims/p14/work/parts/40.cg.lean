-- method 179: Exchange.lowestColor(III)I
set_option maxRecDepth 100000 in
set_option maxHeartbeats 100000000 in
theorem ct_179 {L : Nat} {xs : Nat → Int32} {d b c : Nat} {h : hp} {cr : Nat → Nat → Option Nat} {Q : hp_Q} (hcr : CR cr)  (g : GI h) (a0 : Int) (a1 : Int) (a2 : Int) (q0_ : 0 ≤ a0 ∧ a0 ≤ 1048575) (q1_ : -2147483648 ≤ a1 ∧ a1 ≤ 2147483647) (q2_ : 0 ≤ a2 ∧ a2 ≤ 15)  (k : ∀ (z0 : Int), (-1 ≤ z0 ∧ z0 ≤ 4) → (-1 ≤ z0 ∧ z0 ≤ 4) → ((z0 = -1 ∧ ∀ c : Nat, c < 5 → ((((fun c => a0.toNat / 16 ^ c % 16) c : Nat)) : Int) + xc a1 c ≠ a2) ∨ (0 ≤ z0 ∧ z0 ≤ 4 ∧ ((((fun c => a0.toNat / 16 ^ c % 16) z0.toNat : Nat)) : Int) + xc a1 z0.toNat = a2)) → Q (.inl (some (vi z0))) (hp_w h cr) b c) : wp (md_xa (L, xs)) (d + 1) 179 (0, [(0, vi a0), (1, vi a1), (2, vi a2)], [], hp_w h cr, b, c) Q := by
  have F0 : FR [] h h := FR.refl
  refine wi_iconst (n := 0) (nx := 1) (r1 := 0) (r2 := 0) (r3 := 0) rfl ?_
  refine wi_istore_n (i := 3) (e := 0) (lo2 := [(3, vi 0), (0, vi a0), (1, vi a1), (2, vi a2)]) (nx := 2) (r1 := 0) (r2 := 0) (r3 := 0) rfl rfl ?_
  refine wp.lo (lo := [(0, vi a0), (1, vi a1), (2, vi a2), (3, vi 0)]) ⟨rfl, rfl, rfl, rfl, trivial⟩ rfl ?_
  refine wl_1 (fun x1 h2 => h = h2 ∧ ((0 ≤ x1 ∧ x1 ≤ 5)) ∧ (∀ c : Nat, (c : Int) < x1 → ((((fun c => a0.toNat / 16 ^ c % 16) c : Nat)) : Int) + xc a1 c ≠ a2)) (fun x1 h2 => ((5 : Int) + 1 - x1).toNat) (fun x1 h2 => (2, [(0, vi a0), (1, vi a1), (2, vi a2), (3, vi x1)], [], hp_w h2 cr, b, c)) ?_ 0 h ⟨rfl, (show (0 ≤ 0 ∧ 0 ≤ 5) by omega), (fun c e => absurd e (by omega))⟩
  intro x1 h2 ⟨e2, f2, X2_0⟩ I2
  subst e2
  refine wi_iload_n (i := 3) (e := x1) (nx := 3) (r1 := 0) (r2 := 0) (r3 := 0) rfl rfl ?_
  refine wi_iconst (n := 5) (nx := 4) (r1 := 0) (r2 := 0) (r3 := 0) rfl ?_
  refine wi_icmp (cd := .ge) (nx := 7) (r1 := 44) (r2 := 0) (r3 := 0) rfl (by omega) (by omega) (fun (q4 : 5 ≤ x1) => ?_) (fun (q4 : ¬ (5 ≤ x1)) => ?_)
  ·
    refine wi_iconst (n := (-1)) (nx := 45) (r1 := 0) (r2 := 0) (r3 := 0) rfl ?_
    refine wi_ireturn (nx := 46) (r1 := 0) (r2 := 0) (r3 := 0) rfl rfl ?_
    exact k (-1) (by omega) (show -1 ≤ (-1) ∧ (-1) ≤ 4 by omega) (Or.inl ⟨rfl, fun c hc => X2_0 c (by omega)⟩)
  ·
    refine wi_iload_n (i := 1) (e := a1) (nx := 8) (r1 := 0) (r2 := 0) (r3 := 0) rfl rfl ?_
    refine wi_iconst (n := (-1)) (nx := 9) (r1 := 0) (r2 := 0) (r3 := 0) rfl ?_
    refine wi_icmp (cd := .eq) (nx := 12) (r1 := 17) (r2 := 0) (r3 := 0) rfl (by omega) (by omega) (fun (q5 : a1 = (-1)) => ?_) (fun (q5 : ¬ (a1 = (-1))) => ?_)
    ·
      refine wi_iconst (n := 0) (nx := 18) (r1 := 0) (r2 := 0) (r3 := 0) rfl ?_
      refine wi_goto (nx := 21) (r1 := 22) (r2 := 0) (r3 := 0) rfl ?_
      refine wi_istore (i := 4) (e := 0) (lo2 := [(4, vi 0), (0, vi a0), (1, vi a1), (2, vi a2), (3, vi x1)]) (nx := 24) (r1 := 0) (r2 := 0) (r3 := 0) rfl rfl ?_
      refine wi_iload_n (i := 0) (e := a0) (nx := 25) (r1 := 0) (r2 := 0) (r3 := 0) rfl rfl ?_
      refine wi_iload_n (i := 3) (e := x1) (nx := 26) (r1 := 0) (r2 := 0) (r3 := 0) rfl rfl ?_
      refine wi_S (rest := []) (as := [vi a0, vi x1]) (nx := 29) (r1 := 176) (r2 := 18) (r3 := 0) rfl rfl rfl (of_decide_eq_true rfl) rfl rfl (of_decide_eq_true rfl) (of_decide_eq_true rfl) ?_
      refine ct_176 hcr  g a0 x1 (by omega) (by omega)  (fun z7  (fz7 : 0 ≤ z7 ∧ z7 ≤ 15) (p6_0 : 0 ≤ z7 ∧ z7 ≤ 15) y6_0 => ?_)
      refine wk_i ?_
      refine wi_iload (i := 4) (e := 0) (nx := 31) (r1 := 0) (r2 := 0) (r3 := 0) rfl rfl ?_
      refine wr_add (nx := 32) (r1 := 0) (r2 := 0) (r3 := 0) rfl (fun e8 (fe8 : e8 = z7 + 0) => ?_)
      refine wi_iload_n (i := 2) (e := a2) (nx := 33) (r1 := 0) (r2 := 0) (r3 := 0) rfl rfl ?_
      refine wi_icmp (cd := .ne) (nx := 36) (r1 := 38) (r2 := 0) (r3 := 0) rfl (by omega) (by omega) (fun (q9 : e8 ≠ a2) => ?_) (fun (q9 : ¬ (e8 ≠ a2)) => ?_)
      ·
        refine wr_iinc (i := 3) (n := 1) (v := x1) (fun e10 => [(3, vi e10), (4, vi 0), (0, vi a0), (1, vi a1), (2, vi a2)]) (nx := 41) (r1 := 0) (r2 := 0) (r3 := 0) rfl rfl (fun _ => rfl) (fun e10 (fe10 : e10 = x1 + 1) => ?_)
        refine wi_goto (nx := 44) (r1 := 2) (r2 := 0) (r3 := 0) rfl ?_
        refine wp.lo (lo := [(0, vi a0), (1, vi a1), (2, vi a2), (3, vi e10)]) ⟨rfl, rfl, rfl, rfl, trivial⟩ rfl ?_
        exact I2 e10 h ⟨rfl, (show (0 ≤ e10 ∧ e10 ≤ 5) by omega), (fun c h1 => by
            by_cases e1 : (c : Int) = x1
            · have y1 := y6_0
              rw [show (x1).toNat = c by omega] at y1
              unfold xc
              show ((a0.toNat / 16 ^ c % 16 : Nat) : Int) + _ ≠ a2
              rw [← y1]
              split <;> omega
            · exact X2_0 c (by omega))⟩ (show ((5 : Int) + 1 - e10).toNat < ((5 : Int) + 1 - x1).toNat by omega)
      ·
        refine wi_iload_n (i := 3) (e := x1) (nx := 37) (r1 := 0) (r2 := 0) (r3 := 0) rfl rfl ?_
        refine wi_ireturn (nx := 38) (r1 := 0) (r2 := 0) (r3 := 0) rfl rfl ?_
        exact k x1 (by omega) (show -1 ≤ x1 ∧ x1 ≤ 4 by omega) (Or.inr ⟨by omega, by omega, by
            show ((a0.toNat / 16 ^ (x1).toNat % 16 : Nat) : Int) + _ = a2
            rw [← y6_0]
            unfold xc
            split <;> omega⟩)
    ·
      refine wi_iload_n (i := 1) (e := a1) (nx := 13) (r1 := 0) (r2 := 0) (r3 := 0) rfl rfl ?_
      refine wi_iload_n (i := 3) (e := x1) (nx := 14) (r1 := 0) (r2 := 0) (r3 := 0) rfl rfl ?_
      refine wi_icmp (cd := .ne) (nx := 17) (r1 := 21) (r2 := 0) (r3 := 0) rfl (by omega) (by omega) (fun (q6 : a1 ≠ x1) => ?_) (fun (q6 : ¬ (a1 ≠ x1)) => ?_)
      ·
        refine wi_iconst (n := 1) (nx := 22) (r1 := 0) (r2 := 0) (r3 := 0) rfl ?_
        refine wi_istore (i := 4) (e := 1) (lo2 := [(4, vi 1), (0, vi a0), (1, vi a1), (2, vi a2), (3, vi x1)]) (nx := 24) (r1 := 0) (r2 := 0) (r3 := 0) rfl rfl ?_
        refine wi_iload_n (i := 0) (e := a0) (nx := 25) (r1 := 0) (r2 := 0) (r3 := 0) rfl rfl ?_
        refine wi_iload_n (i := 3) (e := x1) (nx := 26) (r1 := 0) (r2 := 0) (r3 := 0) rfl rfl ?_
        refine wi_S (rest := []) (as := [vi a0, vi x1]) (nx := 29) (r1 := 176) (r2 := 18) (r3 := 0) rfl rfl rfl (of_decide_eq_true rfl) rfl rfl (of_decide_eq_true rfl) (of_decide_eq_true rfl) ?_
        refine ct_176 hcr  g a0 x1 (by omega) (by omega)  (fun z8  (fz8 : 0 ≤ z8 ∧ z8 ≤ 15) (p7_0 : 0 ≤ z8 ∧ z8 ≤ 15) y7_0 => ?_)
        refine wk_i ?_
        refine wi_iload (i := 4) (e := 1) (nx := 31) (r1 := 0) (r2 := 0) (r3 := 0) rfl rfl ?_
        refine wr_add (nx := 32) (r1 := 0) (r2 := 0) (r3 := 0) rfl (fun e9 (fe9 : e9 = z8 + 1) => ?_)
        refine wi_iload_n (i := 2) (e := a2) (nx := 33) (r1 := 0) (r2 := 0) (r3 := 0) rfl rfl ?_
        refine wi_icmp (cd := .ne) (nx := 36) (r1 := 38) (r2 := 0) (r3 := 0) rfl (by omega) (by omega) (fun (q10 : e9 ≠ a2) => ?_) (fun (q10 : ¬ (e9 ≠ a2)) => ?_)
        ·
          refine wr_iinc (i := 3) (n := 1) (v := x1) (fun e11 => [(3, vi e11), (4, vi 1), (0, vi a0), (1, vi a1), (2, vi a2)]) (nx := 41) (r1 := 0) (r2 := 0) (r3 := 0) rfl rfl (fun _ => rfl) (fun e11 (fe11 : e11 = x1 + 1) => ?_)
          refine wi_goto (nx := 44) (r1 := 2) (r2 := 0) (r3 := 0) rfl ?_
          refine wp.lo (lo := [(0, vi a0), (1, vi a1), (2, vi a2), (3, vi e11)]) ⟨rfl, rfl, rfl, rfl, trivial⟩ rfl ?_
          exact I2 e11 h ⟨rfl, (show (0 ≤ e11 ∧ e11 ≤ 5) by omega), (fun c h1 => by
              by_cases e1 : (c : Int) = x1
              · have y1 := y7_0
                rw [show (x1).toNat = c by omega] at y1
                unfold xc
                show ((a0.toNat / 16 ^ c % 16 : Nat) : Int) + _ ≠ a2
                rw [← y1]
                split <;> omega
              · exact X2_0 c (by omega))⟩ (show ((5 : Int) + 1 - e11).toNat < ((5 : Int) + 1 - x1).toNat by omega)
        ·
          refine wi_iload_n (i := 3) (e := x1) (nx := 37) (r1 := 0) (r2 := 0) (r3 := 0) rfl rfl ?_
          refine wi_ireturn (nx := 38) (r1 := 0) (r2 := 0) (r3 := 0) rfl rfl ?_
          exact k x1 (by omega) (show -1 ≤ x1 ∧ x1 ≤ 4 by omega) (Or.inr ⟨by omega, by omega, by
              show ((a0.toNat / 16 ^ (x1).toNat % 16 : Nat) : Int) + _ = a2
              rw [← y7_0]
              unfold xc
              split <;> omega⟩)
      ·
        refine wi_iconst (n := 0) (nx := 18) (r1 := 0) (r2 := 0) (r3 := 0) rfl ?_
        refine wi_goto (nx := 21) (r1 := 22) (r2 := 0) (r3 := 0) rfl ?_
        refine wi_istore (i := 4) (e := 0) (lo2 := [(4, vi 0), (0, vi a0), (1, vi a1), (2, vi a2), (3, vi x1)]) (nx := 24) (r1 := 0) (r2 := 0) (r3 := 0) rfl rfl ?_
        refine wi_iload_n (i := 0) (e := a0) (nx := 25) (r1 := 0) (r2 := 0) (r3 := 0) rfl rfl ?_
        refine wi_iload_n (i := 3) (e := x1) (nx := 26) (r1 := 0) (r2 := 0) (r3 := 0) rfl rfl ?_
        refine wi_S (rest := []) (as := [vi a0, vi x1]) (nx := 29) (r1 := 176) (r2 := 18) (r3 := 0) rfl rfl rfl (of_decide_eq_true rfl) rfl rfl (of_decide_eq_true rfl) (of_decide_eq_true rfl) ?_
        refine ct_176 hcr  g a0 x1 (by omega) (by omega)  (fun z8  (fz8 : 0 ≤ z8 ∧ z8 ≤ 15) (p7_0 : 0 ≤ z8 ∧ z8 ≤ 15) y7_0 => ?_)
        refine wk_i ?_
        refine wi_iload (i := 4) (e := 0) (nx := 31) (r1 := 0) (r2 := 0) (r3 := 0) rfl rfl ?_
        refine wr_add (nx := 32) (r1 := 0) (r2 := 0) (r3 := 0) rfl (fun e9 (fe9 : e9 = z8 + 0) => ?_)
        refine wi_iload_n (i := 2) (e := a2) (nx := 33) (r1 := 0) (r2 := 0) (r3 := 0) rfl rfl ?_
        refine wi_icmp (cd := .ne) (nx := 36) (r1 := 38) (r2 := 0) (r3 := 0) rfl (by omega) (by omega) (fun (q10 : e9 ≠ a2) => ?_) (fun (q10 : ¬ (e9 ≠ a2)) => ?_)
        ·
          refine wr_iinc (i := 3) (n := 1) (v := x1) (fun e11 => [(3, vi e11), (4, vi 0), (0, vi a0), (1, vi a1), (2, vi a2)]) (nx := 41) (r1 := 0) (r2 := 0) (r3 := 0) rfl rfl (fun _ => rfl) (fun e11 (fe11 : e11 = x1 + 1) => ?_)
          refine wi_goto (nx := 44) (r1 := 2) (r2 := 0) (r3 := 0) rfl ?_
          refine wp.lo (lo := [(0, vi a0), (1, vi a1), (2, vi a2), (3, vi e11)]) ⟨rfl, rfl, rfl, rfl, trivial⟩ rfl ?_
          exact I2 e11 h ⟨rfl, (show (0 ≤ e11 ∧ e11 ≤ 5) by omega), (fun c h1 => by
              by_cases e1 : (c : Int) = x1
              · have y1 := y7_0
                rw [show (x1).toNat = c by omega] at y1
                unfold xc
                show ((a0.toNat / 16 ^ c % 16 : Nat) : Int) + _ ≠ a2
                rw [← y1]
                split <;> omega
              · exact X2_0 c (by omega))⟩ (show ((5 : Int) + 1 - e11).toNat < ((5 : Int) + 1 - x1).toNat by omega)
        ·
          refine wi_iload_n (i := 3) (e := x1) (nx := 37) (r1 := 0) (r2 := 0) (r3 := 0) rfl rfl ?_
          refine wi_ireturn (nx := 38) (r1 := 0) (r2 := 0) (r3 := 0) rfl rfl ?_
          exact k x1 (by omega) (show -1 ≤ x1 ∧ x1 ≤ 4 by omega) (Or.inr ⟨by omega, by omega, by
              show ((a0.toNat / 16 ^ (x1).toNat % 16 : Nat) : Int) + _ = a2
              rw [← y7_0]
              unfold xc
              split <;> omega⟩)
-- method 178: Exchange.collectColors()V
set_option maxRecDepth 100000 in
set_option maxHeartbeats 100000000 in
theorem ct_178_63 {L : Nat} {xs : Nat → Int32} {d b c : Nat} {h : hp} {cr : Nat → Nat → Option Nat} {Q : hp_Q} (hcr : CR cr)  (g : GI h)   (pp0 : h 63 4 ≤ 12) (pp1 : h 66 1 = 0) (pp2 : 0 ≤ h 3 9) (xq0 : XG h) (xq1 : (∀ j, j < xK h → 0 ≤ xC h j ∧ xC h j ≤ 4)) (xq2 : h 63 7 = ((xm (xW h 0) : Nat) : Int)) (k : ∀ (h2 : hp) , GI h2 → FR [(64, 64, none), (67, 67, none), (66, 66, some (1, 1))] h h2 → ((0 ≤ h 63 4 ∧ h2 66 1 = h 63 4) ∨ (h 63 4 < 0 ∧ h2 66 1 = 0)) → (MSE (xB h) (h2 67) (xB h) (xC h) (xK h)) → Q (.inl none) (hp_w h2 cr) b c) : wp (md_xa (L, xs)) (d + 18) 178 (0, [(0, .ref 63)], [], hp_w h cr, b, c) Q := by
  have F0 : FR [(64, 64, none), (67, 67, none), (66, 66, some (1, 1))] h h := FR.refl
  have b1 := gi_b (lo := -12) (hi := 12) g 63 4 rfl
  have b2 := gi_b (lo := 0) (hi := 12) g 66 1 rfl
  have b3 := gi_b (lo := -2147483648) (hi := 2147483647) g 3 9 rfl
  have xm15 := (xm_le (xW h 0)).1
  refine wi_iconst (n := 0) (nx := 1) (r1 := 0) (r2 := 0) (r3 := 0) rfl ?_
  refine wi_istore_n (i := 1) (e := 0) (lo2 := [(1, vi 0), (0, .ref 63)]) (nx := 2) (r1 := 0) (r2 := 0) (r3 := 0) rfl rfl ?_
  refine wi_aload_n (i := 0) (x := 63) (nx := 3) (r1 := 0) (r2 := 0) (r3 := 0) rfl rfl ?_
  have b4 := gi_b (lo := -2147483648) (hi := 2147483647) g 63 7 rfl
  refine wr_gi0 (k0 := 63) (x := h 63 7) (nx := 6) (r1 := 7) (r2 := 7) (r3 := 0) rfl rfl (by decide) rfl ⟨rfl, rfl⟩ rfl rfl ?_
  refine wi_istore_n (i := 2) (e := h 63 7) (lo2 := [(2, vi (h 63 7)), (1, vi 0), (0, .ref 63)]) (nx := 7) (r1 := 0) (r2 := 0) (r3 := 0) rfl rfl ?_
  refine wi_iconst (n := 0) (nx := 8) (r1 := 0) (r2 := 0) (r3 := 0) rfl ?_
  refine wi_istore_n (i := 3) (e := 0) (lo2 := [(3, vi 0), (2, vi (h 63 7)), (1, vi 0), (0, .ref 63)]) (nx := 9) (r1 := 0) (r2 := 0) (r3 := 0) rfl rfl ?_
  refine wp.lo (lo := [(0, .ref 63), (1, vi 0), (2, vi (h 63 7)), (3, vi 0)]) ⟨rfl, rfl, rfl, rfl, trivial⟩ rfl ?_
  refine wl_3 (fun x5 x6 x7 h8 => GI h8 ∧ FR [(64, 64, none), (67, 67, none), (66, 66, some (1, 1))] h h8 ∧ FR [(64, 64, none), (67, 67, none), (66, 66, some (1, 1))] h h8 ∧ ((0 ≤ x5 ∧ x5 ≤ 4095) ∧ (0 ≤ x6 ∧ x6 ≤ 15) ∧ (0 ≤ x7 ∧ x7 ≤ 12) ∧ (0 ≤ x7) ∧ (x7 = 0 ∨ x7 ≤ (h8 63 4)) ∧ ((h8 66 1) = x7)) ∧ (XU (xB h) (xC h) (h8 67) (xK h) (x7).toNat (x5).toNat) ∧ (XMp (xC h) (xB h) (xK h) (h 3 9) (h8 64)) ∧ (((x7).toNat < xK h) → XE (xw (xC h) (xB h) (xK h) (h 3 9) (xK h - (x7).toNat) (x5).toNat) (xl (h8 67) (x7).toNat) x6)) (fun x5 x6 x7 h8 => ((12 : Int) + 1 - x7).toNat) (fun x5 x6 x7 h8 => (9, [(0, .ref 63), (1, vi x5), (2, vi x6), (3, vi x7)], [], hp_w h8 cr, b, c)) ?_ 0 (h 63 7) 0 h ⟨g, F0, FR.refl, (show (0 ≤ 0 ∧ 0 ≤ 4095) ∧ (0 ≤ (h 63 7) ∧ (h 63 7) ≤ 15) ∧ (0 ≤ 0 ∧ 0 ≤ 12) ∧ (0 ≤ 0) ∧ (0 = 0 ∨ 0 ≤ (h 63 4)) ∧ ((h 66 1) = 0) by omega), XU.zero, xq0.2, (fun _ => XE_first (h := h) (by unfold xK; omega) (by omega) xq1 (show h 63 7 = _ from xq2))⟩
  intro x5 x6 x7 h8 ⟨g8, F9, u8, f8, X8_0, X8_1, X8_2⟩ I8
  have e10 : h8 63 4 = h 63 4 := (u8 63 4 rfl)
  have b11 := gi_b (lo := 0) (hi := 12) g8 66 1 rfl
  refine wi_iload_n (i := 3) (e := x7) (nx := 10) (r1 := 0) (r2 := 0) (r3 := 0) rfl rfl ?_
  refine wi_aload_n (i := 0) (x := 63) (nx := 11) (r1 := 0) (r2 := 0) (r3 := 0) rfl rfl ?_
  refine wr_gi0 (k0 := 63) (x := h 63 4) (nx := 14) (r1 := 7) (r2 := 4) (r3 := 0) rfl rfl (by decide) rfl ⟨rfl, rfl⟩ rfl (u8 63 4 rfl) ?_
  refine wi_icmp (cd := .ge) (nx := 17) (r1 := 87) (r2 := 0) (r3 := 0) rfl (by omega) (by omega) (fun (q12 : (h 63 4) ≤ x7) => ?_) (fun (q12 : ¬ ((h 63 4) ≤ x7)) => ?_)
  ·
    refine wi_return (nx := 88) (r1 := 0) (r2 := 0) (r3 := 0) rfl rfl ?_
    have q13 : h8 67 = h8 67 := funext (fun i => rfl)
    exact k h8 g8 F9 (show (0 ≤ (h 63 4) ∧ (h8 66 1) = (h 63 4)) ∨ ((h 63 4) < 0 ∧ (h8 66 1) = 0) by omega) (by rw [q13]; have xh1 := X8_0; rw [show (x7).toNat = xK h by unfold xK; omega] at xh1; exact XU.all xh1)
  ·
    have jk : xK h ≤ 12 := by unfold xK; omega
    have jc : (x7).toNat < xK h := by unfold xK; omega
    have xe := X8_2 jc
    obtain ⟨xu1, xu2, -⟩ := id X8_0
    have h12 : (2 : Nat) ^ 12 = 4096 := by decide
    have xpc : pc (x5).toNat = (x7).toNat := (pc_xn (by omega)).trans ((xn_ext jk xu1).trans xu2)
    have jr : xK h - (x7).toNat = xK h - ((x7).toNat + 1) + 1 := by omega
    refine wi_aload_n (i := 0) (x := 63) (nx := 18) (r1 := 0) (r2 := 0) (r3 := 0) rfl rfl ?_
    refine wi_iload_n (i := 3) (e := x7) (nx := 19) (r1 := 0) (r2 := 0) (r3 := 0) rfl rfl ?_
    refine wi_iload_n (i := 1) (e := x5) (nx := 20) (r1 := 0) (r2 := 0) (r3 := 0) rfl rfl ?_
    refine wr_V (k0 := 63) (rest := []) (as := [.ref 63, vi x7, vi x5]) (nx := 23) (r1 := 174) (r2 := 2) (r3 := 7) rfl rfl rfl (of_decide_eq_true rfl) rfl rfl (by decide) rfl rfl (of_decide_eq_true rfl) (of_decide_eq_true rfl) ?_
    have q16 : h8 19 = h 19 := funext (fun i => (u8 19 i (fo_no_ok (by decide) i)))
    have q17 : h8 8 = h 8 := funext (fun i => (u8 8 i (fo_no_ok (by decide) i)))
    have q18 : h8 65 = h 65 := funext (fun i => (u8 65 i (fo_no_ok (by decide) i)))
    have q19 : h8 64 = h8 64 := funext (fun i => rfl)
    have xg15 : XG h8 := XG.at q16 q17 (u8 18 7 rfl) (u8 63 4 rfl) (u8 3 9 rfl) q18 xq0.1 (by rw [q19]; exact X8_1)
    have ck20 : xK h8 = xK h := xK_eq (u8 63 4 rfl)
    refine ct_174_63 hcr  g8 x7 x5 (by omega) (by omega) (show (h8 63 4) ≤ 12 by omega) (show x7 = 0 ∨ x7 ≤ (h8 63 4) by omega) xg15 ⟨by rw [xpc], by rw [ck20]; exact xu1⟩ (fun h13 z14 g13 u13 (fz14 : -2147483648 ≤ z14 ∧ z14 ≤ 2147483647) y13_0 y13_1 => ?_)
    have F21 := F9.then (by decide +kernel) u13
    have F22 := u8.then (by decide +kernel) u13
    have q24 : h8 19 = h 19 := funext (fun i => (u8 19 i (fo_no_ok (by decide) i)))
    have q25 : h8 8 = h 8 := funext (fun i => (u8 8 i (fo_no_ok (by decide) i)))
    have q26 : h13 19 = h 19 := funext (fun i => ((u13 19 i (fo_no_ok (by decide) i)).trans (u8 19 i (fo_no_ok (by decide) i))))
    have q27 : h13 8 = h 8 := funext (fun i => ((u13 8 i (fo_no_ok (by decide) i)).trans (u8 8 i (fo_no_ok (by decide) i))))
    have wv23 : z14 = ((xp (xW h (x5).toNat) 5 : Nat) : Int) := by rw [← xW_eq q24 q25 (u8 18 7 rfl) (u8 63 4 rfl) (u8 3 9 rfl)]; exact y13_0
    have wv23m := XG.to q26 q27 ((u13 18 7 rfl).trans (u8 18 7 rfl)) ((u13 63 4 rfl).trans (u8 63 4 rfl)) ((u13 3 9 rfl).trans (u8 3 9 rfl)) y13_1
    have wv23l := xp_lt (f := xW h (x5).toNat) (fun c => xW_le _ _ c) 5
    have wv23b : 0 ≤ z14 ∧ z14 ≤ 1048575 := by rw [wv23]; have h16 : 16 ^ 5 = 1048576 := (by decide); omega
    refine wk_i ?_
    refine wi_istore (i := 4) (e := z14) (lo2 := [(4, vi z14), (0, .ref 63), (1, vi x5), (2, vi x6), (3, vi x7)]) (nx := 25) (r1 := 0) (r2 := 0) (r3 := 0) rfl rfl ?_
    refine wi_iload (i := 4) (e := z14) (nx := 27) (r1 := 0) (r2 := 0) (r3 := 0) rfl rfl ?_
    refine wi_aload_n (i := 0) (x := 63) (nx := 28) (r1 := 0) (r2 := 0) (r3 := 0) rfl rfl ?_
    refine wr_gr (k0 := 63) (x := 66) (nx := 31) (r1 := 7) (r2 := 6) (r3 := 0) rfl rfl (by decide) rfl ⟨rfl, rfl⟩ rfl ?_
    refine wr_V (k0 := 66) (rest := [vi z14]) (as := [.ref 66]) (nx := 34) (r1 := 156) (r2 := 0) (r3 := 5) rfl rfl rfl (of_decide_eq_true rfl) rfl rfl (by decide) rfl rfl (of_decide_eq_true rfl) (of_decide_eq_true rfl) ?_
    refine wi_aload_n (i := 0) (x := 66) (nx := 1) (r1 := 0) (r2 := 0) (r3 := 0) rfl rfl ?_
    refine wr_gi0 (k0 := 66) (x := h8 66 1) (nx := 4) (r1 := 5) (r2 := 1) (r3 := 0) rfl rfl (by decide) rfl ⟨rfl, rfl⟩ rfl (u13 66 1 rfl) ?_
    refine wi_if (cd := .le) (nx := 7) (r1 := 21) (r2 := 0) (r3 := 0) rfl (by omega) (fun (q28 : (h8 66 1) ≤ 0) => ?_) (fun (q28 : ¬ ((h8 66 1) ≤ 0)) => ?_)
    ·
      refine wi_iconst (n := (-1)) (nx := 22) (r1 := 0) (r2 := 0) (r3 := 0) rfl ?_
      refine wi_ireturn (nx := 23) (r1 := 0) (r2 := 0) (r3 := 0) rfl rfl ?_
      refine wk_i ?_
      refine wi_iload_n (i := 2) (e := x6) (nx := 35) (r1 := 0) (r2 := 0) (r3 := 0) rfl rfl ?_
      refine wi_S (rest := []) (as := [vi z14, vi (-1), vi x6]) (nx := 38) (r1 := 179) (r2 := 19) (r3 := 0) rfl rfl rfl (of_decide_eq_true rfl) rfl rfl (of_decide_eq_true rfl) (of_decide_eq_true rfl) ?_
      refine ct_179 hcr  g13 z14 (-1) x6 (by omega) (by omega) (by omega)  (fun z30  (fz30 : -1 ≤ z30 ∧ z30 ≤ 4) (p29_0 : -1 ≤ z30 ∧ z30 ≤ 4) y29_0 => ?_)
      refine wk_i ?_
      have lc31w : ∀ c : Nat, c < 5 → (z14).toNat / 16 ^ c % 16 = xW h (x5).toNat c := fun c hc => by rw [wv23]; exact xp_at (f := xW h (x5).toNat) (fun c => xW_le _ _ c) c 5 hc
      have lc31x : XE (xW h (x5).toNat) (-1 : Int) x6 := by rw [show xW h (x5).toNat = xw (xC h) (xB h) (xK h) (h 3 9) (xK h - (x7).toNat) (x5).toNat by unfold xW; rw [xpc]]; rw [show (-1 : Int) = xl (h8 67) (x7).toNat from (by rw [show (x7).toNat = 0 by omega]; rfl)]; exact xe
      have lc31 := XE.low lc31x lc31w y29_0
      refine wi_istore (i := 5) (e := z30) (lo2 := [(5, vi z30), (4, vi z14), (0, .ref 63), (1, vi x5), (2, vi x6), (3, vi x7)]) (nx := 40) (r1 := 0) (r2 := 0) (r3 := 0) rfl rfl ?_
      refine wi_aload_n (i := 0) (x := 63) (nx := 41) (r1 := 0) (r2 := 0) (r3 := 0) rfl rfl ?_
      refine wi_iload (i := 5) (e := z30) (nx := 43) (r1 := 0) (r2 := 0) (r3 := 0) rfl rfl ?_
      refine wi_iload_n (i := 3) (e := x7) (nx := 44) (r1 := 0) (r2 := 0) (r3 := 0) rfl rfl ?_
      refine wi_iload_n (i := 1) (e := x5) (nx := 45) (r1 := 0) (r2 := 0) (r3 := 0) rfl rfl ?_
      refine wr_V (k0 := 63) (rest := []) (as := [.ref 63, vi z30, vi x7, vi x5]) (nx := 48) (r1 := 175) (r2 := 3) (r3 := 7) rfl rfl rfl (of_decide_eq_true rfl) rfl rfl (by decide) rfl rfl (of_decide_eq_true rfl) (of_decide_eq_true rfl) ?_
      have e33 : h13 63 4 = h 63 4 := ((u13 63 4 rfl).trans (u8 63 4 rfl))
      have q36 : h13 19 = h 19 := funext (fun i => ((u13 19 i (fo_no_ok (by decide) i)).trans (u8 19 i (fo_no_ok (by decide) i))))
      have q37 : h13 8 = h 8 := funext (fun i => ((u13 8 i (fo_no_ok (by decide) i)).trans (u8 8 i (fo_no_ok (by decide) i))))
      have q38 : h13 65 = h 65 := funext (fun i => ((u13 65 i (fo_no_ok (by decide) i)).trans (u8 65 i (fo_no_ok (by decide) i))))
      have xj35 : XJp (xC h13) (xB h13) (xK h13) (h13 65) := XJp.at q36 q37 ((u13 18 7 rfl).trans (u8 18 7 rfl)) ((u13 63 4 rfl).trans (u8 63 4 rfl)) ((u13 3 9 rfl).trans (u8 3 9 rfl)) q38 xq0.1
      refine ct_175_63 hcr  g13 z30 x7 x5 (by omega) (by omega) (by omega) (show x7 < (h13 63 4) by omega) (show (h13 63 4) ≤ 12 by omega) xj35 (fun z34  (fz34 : -1 ≤ z34 ∧ z34 ≤ 11) (p32_0 : -1 ≤ z34 ∧ z34 ≤ 11) (p32_1 : 0 ≤ z30 ∨ z34 = -1) y32_0 => ?_)
      refine wk_i ?_
      have q40 : h13 19 = h 19 := funext (fun i => ((u13 19 i (fo_no_ok (by decide) i)).trans (u8 19 i (fo_no_ok (by decide) i))))
      have q41 : h13 8 = h 8 := funext (fun i => ((u13 8 i (fo_no_ok (by decide) i)).trans (u8 8 i (fo_no_ok (by decide) i))))
      have jv39 : z34 = xj (xC h) (xB h) (xK h) (h 3 9) (x7).toNat (((z30).toNat : Nat) : Int) (x5).toNat := by rw [show (((z30).toNat : Nat) : Int) = z30 by omega, ← xj_eq q40 q41 ((u13 18 7 rfl).trans (u8 18 7 rfl)) ((u13 63 4 rfl).trans (u8 63 4 rfl)) ((u13 3 9 rfl).trans (u8 3 9 rfl))]; exact y32_0 (by omega)
      have jv39n := XE.go (h := h) (u := (x5).toNat) (p := (x7).toNat) (c := (z30).toNat) (v := x6) jr xpc (by omega) lc31.2.2 xe.1
      have jv39m : z34 ≠ -1 := by rw [jv39]; exact jv39n.1
      refine wi_istore (i := 6) (e := z34) (lo2 := [(6, vi z34), (5, vi z30), (4, vi z14), (0, .ref 63), (1, vi x5), (2, vi x6), (3, vi x7)]) (nx := 50) (r1 := 0) (r2 := 0) (r3 := 0) rfl rfl ?_
      refine wi_iload (i := 6) (e := z34) (nx := 52) (r1 := 0) (r2 := 0) (r3 := 0) rfl rfl ?_
      refine wi_iconst (n := (-1)) (nx := 53) (r1 := 0) (r2 := 0) (r3 := 0) rfl ?_
      refine wi_icmp (cd := .ne) (nx := 56) (r1 := 57) (r2 := 0) (r3 := 0) rfl (by omega) (by omega) (fun (q42 : z34 ≠ (-1)) => ?_) (fun (q42 : ¬ (z34 ≠ (-1))) => ?_)
      ·
        obtain ⟨jv39j, jv39e, jv39k, jv39c, jv39b, jv39u⟩ := xj_ok jk jv39n.1
        have jv39z : (z34).toNat = jv39j := by rw [jv39, jv39e]; rfl
        have jv39o := bit_or (s := (x5).toNat) (j := jv39j) (by omega) (by omega) jv39u
        refine wi_aload_n (i := 0) (x := 63) (nx := 58) (r1 := 0) (r2 := 0) (r3 := 0) rfl rfl ?_
        refine wr_gr (k0 := 63) (x := 66) (nx := 61) (r1 := 7) (r2 := 6) (r3 := 0) rfl rfl (by decide) rfl ⟨rfl, rfl⟩ rfl ?_
        refine wi_iload (i := 5) (e := z30) (nx := 63) (r1 := 0) (r2 := 0) (r3 := 0) rfl rfl ?_
        refine wr_V (k0 := 66) (rest := []) (as := [.ref 66, vi z30]) (nx := 66) (r1 := 158) (r2 := 1) (r3 := 5) rfl rfl rfl (of_decide_eq_true rfl) rfl rfl (by decide) rfl rfl (of_decide_eq_true rfl) (of_decide_eq_true rfl) ?_
        refine wi_aload_n (i := 0) (x := 66) (nx := 1) (r1 := 0) (r2 := 0) (r3 := 0) rfl rfl ?_
        refine wr_gi0 (k0 := 66) (x := h8 66 1) (nx := 4) (r1 := 5) (r2 := 1) (r3 := 0) rfl rfl (by decide) rfl ⟨rfl, rfl⟩ rfl (u13 66 1 rfl) ?_
        refine wi_aload_n (i := 0) (x := 66) (nx := 5) (r1 := 0) (r2 := 0) (r3 := 0) rfl rfl ?_
        refine wr_gr (k0 := 66) (x := 67) (nx := 8) (r1 := 5) (r2 := 0) (r3 := 0) rfl rfl (by decide) rfl ⟨rfl, rfl⟩ rfl ?_
        refine wr_al (k0 := 67) (e := 12) (nx := 9) (r1 := 0) (r2 := 0) (r3 := 0) rfl (by decide) rfl rfl ?_
        refine wi_icmp (cd := .ge) (nx := 12) (r1 := 32) (r2 := 0) (r3 := 0) rfl (by omega) (by omega) (fun (q43 : 12 ≤ (h8 66 1)) => by exfalso; omega) (fun (q43 : ¬ (12 ≤ (h8 66 1))) => ?_)
        refine wi_aload_n (i := 0) (x := 66) (nx := 13) (r1 := 0) (r2 := 0) (r3 := 0) rfl rfl ?_
        refine wr_gr (k0 := 66) (x := 67) (nx := 16) (r1 := 5) (r2 := 0) (r3 := 0) rfl rfl (by decide) rfl ⟨rfl, rfl⟩ rfl ?_
        refine wi_aload_n (i := 0) (x := 66) (nx := 17) (r1 := 0) (r2 := 0) (r3 := 0) rfl rfl ?_
        refine wr_gi0 (k0 := 66) (x := h8 66 1) (nx := 20) (r1 := 5) (r2 := 1) (r3 := 0) rfl rfl (by decide) rfl ⟨rfl, rfl⟩ rfl (u13 66 1 rfl) ?_
        refine wi_iload_n (i := 1) (e := z30) (nx := 21) (r1 := 0) (r2 := 0) (r3 := 0) rfl rfl ?_
        obtain ⟨i44, ei44⟩ : ∃ q : Nat, (h8 66 1) = (q : Int) := ⟨(h8 66 1).toNat, by omega⟩
        refine wr_is (k0 := 67) (a := h8 66 1) (f := i44) (x := z30) (bl := -2147483648) (bh := 2147483647) (nx := 22) (r1 := 0) (r2 := 0) (r3 := 0) rfl (by decide) rfl (by omega) (by omega) (by decide) g13 rfl (by omega) (fun h45 g45 w45 u45 => ?_)
        have F46 := F21.then rfl (FR.rngp (lo := 67) (hi := 67) u45 (by decide))
        have F47 := F22.then rfl (FR.rngp (lo := 67) (hi := 67) u45 (by decide))
        refine wi_aload_n (i := 0) (x := 66) (nx := 23) (r1 := 0) (r2 := 0) (r3 := 0) rfl rfl ?_
        refine wi_dup (nx := 24) (r1 := 0) (r2 := 0) (r3 := 0) rfl rfl ?_
        refine wr_gi0 (k0 := 66) (x := h8 66 1) (nx := 27) (r1 := 5) (r2 := 1) (r3 := 0) rfl rfl (by decide) rfl ⟨rfl, rfl⟩ rfl ((u45 66 1 (fn_a (by omega) fn_0)).trans (u13 66 1 rfl)) ?_
        refine wi_iconst (n := 1) (nx := 28) (r1 := 0) (r2 := 0) (r3 := 0) rfl ?_
        refine wr_add (nx := 29) (r1 := 0) (r2 := 0) (r3 := 0) rfl (fun e48 (fe48 : e48 = (h8 66 1) + 1) => ?_)
        refine wr_pf0 (k0 := 66) (x := e48) (bl := 0) (bh := 12) (nx := 32) (r1 := 5) (r2 := 1) (r3 := 0) rfl (by decide) rfl ⟨rfl, rfl⟩ rfl rfl g45 rfl (by omega) (fun h49 g49 w49 u49 => ?_)
        have F50 := F46.then rfl u49
        have F51 := F47.then rfl u49
        refine wi_return (nx := 33) (r1 := 0) (r2 := 0) (r3 := 0) rfl rfl ?_
        refine wk_n ?_
        refine wi_iload_n (i := 1) (e := x5) (nx := 67) (r1 := 0) (r2 := 0) (r3 := 0) rfl rfl ?_
        refine wi_iconst (n := 1) (nx := 68) (r1 := 0) (r2 := 0) (r3 := 0) rfl ?_
        refine wi_iload (i := 6) (e := z34) (nx := 70) (r1 := 0) (r2 := 0) (r3 := 0) rfl rfl ?_
        refine wr_ishl1 (y := z34) (nx := 71) (r1 := 0) (r2 := 0) (r3 := 0) rfl (by omega) (fun e52 (fe52 : 1 ≤ e52 ∧ e52 ≤ 4096) ve52 => ?_)
        have ke52 : e52 ≤ 2048 := by rw [ve52]; have := Nat.pow_le_pow_right (show 0 < 2 by decide) (show (z34).toNat ≤ 11 by omega); omega
        refine wr_iorN (x := x5) (y := e52) 12 4096 (by decide) (by decide) (nx := 72) (r1 := 0) (r2 := 0) (r3 := 0) rfl (by omega) (by omega) (fun e53 (fe53 : 0 ≤ e53 ∧ e53 < 4096) ve53 => ?_)
        have we53 : (e53).toNat = (x5).toNat ||| 2 ^ jv39j := by rw [ve53, ve52, jv39z]; rfl
        refine wi_istore_n (i := 1) (e := e53) (lo2 := [(1, vi e53), (6, vi z34), (5, vi z30), (4, vi z14), (0, .ref 63), (2, vi x6), (3, vi x7)]) (nx := 73) (r1 := 0) (r2 := 0) (r3 := 0) rfl rfl ?_
        refine wi_iload (i := 4) (e := z14) (nx := 75) (r1 := 0) (r2 := 0) (r3 := 0) rfl rfl ?_
        refine wi_iload (i := 5) (e := z30) (nx := 77) (r1 := 0) (r2 := 0) (r3 := 0) rfl rfl ?_
        refine wi_S (rest := []) (as := [vi z14, vi z30]) (nx := 80) (r1 := 176) (r2 := 18) (r3 := 0) rfl rfl rfl (of_decide_eq_true rfl) rfl rfl (of_decide_eq_true rfl) (of_decide_eq_true rfl) ?_
        refine ct_176 hcr  g49 z14 z30 (by omega) (by omega)  (fun z55  (fz55 : 0 ≤ z55 ∧ z55 ≤ 15) (p54_0 : 0 ≤ z55 ∧ z55 ≤ 15) y54_0 => ?_)
        refine wk_i ?_
        refine wi_istore_n (i := 2) (e := z55) (lo2 := [(2, vi z55), (1, vi e53), (6, vi z34), (5, vi z30), (4, vi z14), (0, .ref 63), (3, vi x7)]) (nx := 81) (r1 := 0) (r2 := 0) (r3 := 0) rfl rfl ?_
        refine wr_iinc (i := 3) (n := 1) (v := x7) (fun e56 => [(3, vi e56), (2, vi z55), (1, vi e53), (6, vi z34), (5, vi z30), (4, vi z14), (0, .ref 63)]) (nx := 84) (r1 := 0) (r2 := 0) (r3 := 0) rfl rfl (fun _ => rfl) (fun e56 (fe56 : e56 = x7 + 1) => ?_)
        refine wi_goto (nx := 87) (r1 := 9) (r2 := 0) (r3 := 0) rfl ?_
        have e57 : h49 63 4 = h 63 4 := ((u49 63 4 rfl).trans ((u45 63 4 (fn_a (by omega) fn_0)).trans ((u13 63 4 rfl).trans (u8 63 4 rfl))))
        have e58 : h49 66 1 = e48 := w49
        refine wp.lo (lo := [(0, .ref 63), (1, vi e53), (2, vi z55), (3, vi e56)]) ⟨rfl, rfl, rfl, rfl, trivial⟩ rfl ?_
        have q59 : h49 67 = h45 67 := funext (fun i => (u49 67 i rfl))
        have q60 : h13 67 = h8 67 := funext (fun i => (u13 67 i (fo_no_ok (by decide) i)))
        have dd61 : h49 67 (x7).toNat = z30 ∧ ∀ i, i < (x7).toNat → h49 67 i = h8 67 i := ⟨by rw [q59, show (x7).toNat = i44 by omega]; exact w45, fun i hi => by rw [q59, u45 67 i (fn_i (by omega) fn_0), q60]⟩
        have q62 : h49 64 = h13 64 := funext (fun i => ((u49 64 i rfl).trans (u45 64 i (fn_a (by omega) fn_0))))
        have q63 : h49 67 = h45 67 := funext (fun i => (u49 67 i rfl))
        have q64 : h13 67 = h8 67 := funext (fun i => (u13 67 i (fo_no_ok (by decide) i)))
        have dd65 : h49 67 (x7).toNat = z30 ∧ ∀ i, i < (x7).toNat → h49 67 i = h8 67 i := ⟨by rw [q63, show (x7).toNat = i44 by omega]; exact w45, fun i hi => by rw [q63, u45 67 i (fn_i (by omega) fn_0), q64]⟩
        exact I8 e53 z55 e56 h49 ⟨g49, F50, F51, (show (0 ≤ e53 ∧ e53 ≤ 4095) ∧ (0 ≤ z55 ∧ z55 ≤ 15) ∧ (0 ≤ e56 ∧ e56 ≤ 12) ∧ (0 ≤ e56) ∧ (e56 = 0 ∨ e56 ≤ (h49 63 4)) ∧ ((h49 66 1) = e56) by omega), (by rw [show (e56).toNat = (x7).toNat + 1 by omega, show (e53).toNat = (x5).toNat ||| 2 ^ jv39j from we53]; exact XU.add (XU.congr X8_0 dd61.2) jk jv39k jv39u jv39b (by rw [dd61.1, jv39c]; omega)), (by rw [q62]; exact wv23m), (fun h1 => by
            rw [show (e56).toNat = (x7).toNat + 1 by omega, show (e53).toNat = (x5).toNat ||| 2 ^ jv39j from we53]
            show XE _ (h49 67 (x7).toNat) _
            have xh1 := jv39n.2
            rw [jv39e] at xh1
            rw [dd65.1, show z55 = ((xW h (x5).toNat (z30).toNat : Nat) : Int) by rw [y54_0]; exact congrArg Int.ofNat (lc31w (z30).toNat (by omega)), show z30 = (((z30).toNat : Nat) : Int) by omega]
            exact xh1)⟩ (show ((12 : Int) + 1 - e56).toNat < ((12 : Int) + 1 - x7).toNat by omega)
      ·
        exfalso; omega
    ·
      refine wi_aload_n (i := 0) (x := 66) (nx := 8) (r1 := 0) (r2 := 0) (r3 := 0) rfl rfl ?_
      refine wr_gr (k0 := 66) (x := 67) (nx := 11) (r1 := 5) (r2 := 0) (r3 := 0) rfl rfl (by decide) rfl ⟨rfl, rfl⟩ rfl ?_
      refine wi_aload_n (i := 0) (x := 66) (nx := 12) (r1 := 0) (r2 := 0) (r3 := 0) rfl rfl ?_
      refine wr_gi0 (k0 := 66) (x := h8 66 1) (nx := 15) (r1 := 5) (r2 := 1) (r3 := 0) rfl rfl (by decide) rfl ⟨rfl, rfl⟩ rfl (u13 66 1 rfl) ?_
      refine wi_iconst (n := 1) (nx := 16) (r1 := 0) (r2 := 0) (r3 := 0) rfl ?_
      refine wr_sub (nx := 17) (r1 := 0) (r2 := 0) (r3 := 0) rfl (fun e29 (fe29 : e29 = (h8 66 1) - 1) => ?_)
      obtain ⟨i30, ei30⟩ : ∃ q : Nat, e29 = (q : Int) := ⟨(e29).toNat, by omega⟩
      have b31 := gi_b (lo := -2147483648) (hi := 2147483647) g8 67 i30 rfl
      refine wr_ia (k0 := 67) (a := e29) (f := i30) (x := h8 67 i30) (nx := 18) (r1 := 0) (r2 := 0) (r3 := 0) rfl (by decide) rfl (by omega) (by omega) (by decide) (u13 67 i30 (fn_a (by omega) fn_0)) ?_
      refine wi_goto (nx := 21) (r1 := 22) (r2 := 0) (r3 := 0) rfl ?_
      refine wi_ireturn (nx := 23) (r1 := 0) (r2 := 0) (r3 := 0) rfl rfl ?_
      refine wk_i ?_
      refine wi_iload_n (i := 2) (e := x6) (nx := 35) (r1 := 0) (r2 := 0) (r3 := 0) rfl rfl ?_
      refine wi_S (rest := []) (as := [vi z14, vi (h8 67 i30), vi x6]) (nx := 38) (r1 := 179) (r2 := 19) (r3 := 0) rfl rfl rfl (of_decide_eq_true rfl) rfl rfl (of_decide_eq_true rfl) (of_decide_eq_true rfl) ?_
      refine ct_179 hcr  g13 z14 (h8 67 i30) x6 (by omega) (by omega) (by omega)  (fun z33  (fz33 : -1 ≤ z33 ∧ z33 ≤ 4) (p32_0 : -1 ≤ z33 ∧ z33 ≤ 4) y32_0 => ?_)
      refine wk_i ?_
      have lc34w : ∀ c : Nat, c < 5 → (z14).toNat / 16 ^ c % 16 = xW h (x5).toNat c := fun c hc => by rw [wv23]; exact xp_at (f := xW h (x5).toNat) (fun c => xW_le _ _ c) c 5 hc
      have lc34x : XE (xW h (x5).toNat) (h8 67 i30) x6 := by rw [show xW h (x5).toNat = xw (xC h) (xB h) (xK h) (h 3 9) (xK h - (x7).toNat) (x5).toNat by unfold xW; rw [xpc]]; rw [show (h8 67 i30) = xl (h8 67) (x7).toNat from (by rw [show (x7).toNat = i30 + 1 by omega]; rfl)]; exact xe
      have lc34 := XE.low lc34x lc34w y32_0
      refine wi_istore (i := 5) (e := z33) (lo2 := [(5, vi z33), (4, vi z14), (0, .ref 63), (1, vi x5), (2, vi x6), (3, vi x7)]) (nx := 40) (r1 := 0) (r2 := 0) (r3 := 0) rfl rfl ?_
      refine wi_aload_n (i := 0) (x := 63) (nx := 41) (r1 := 0) (r2 := 0) (r3 := 0) rfl rfl ?_
      refine wi_iload (i := 5) (e := z33) (nx := 43) (r1 := 0) (r2 := 0) (r3 := 0) rfl rfl ?_
      refine wi_iload_n (i := 3) (e := x7) (nx := 44) (r1 := 0) (r2 := 0) (r3 := 0) rfl rfl ?_
      refine wi_iload_n (i := 1) (e := x5) (nx := 45) (r1 := 0) (r2 := 0) (r3 := 0) rfl rfl ?_
      refine wr_V (k0 := 63) (rest := []) (as := [.ref 63, vi z33, vi x7, vi x5]) (nx := 48) (r1 := 175) (r2 := 3) (r3 := 7) rfl rfl rfl (of_decide_eq_true rfl) rfl rfl (by decide) rfl rfl (of_decide_eq_true rfl) (of_decide_eq_true rfl) ?_
      have e36 : h13 63 4 = h 63 4 := ((u13 63 4 rfl).trans (u8 63 4 rfl))
      have q39 : h13 19 = h 19 := funext (fun i => ((u13 19 i (fo_no_ok (by decide) i)).trans (u8 19 i (fo_no_ok (by decide) i))))
      have q40 : h13 8 = h 8 := funext (fun i => ((u13 8 i (fo_no_ok (by decide) i)).trans (u8 8 i (fo_no_ok (by decide) i))))
      have q41 : h13 65 = h 65 := funext (fun i => ((u13 65 i (fo_no_ok (by decide) i)).trans (u8 65 i (fo_no_ok (by decide) i))))
      have xj38 : XJp (xC h13) (xB h13) (xK h13) (h13 65) := XJp.at q39 q40 ((u13 18 7 rfl).trans (u8 18 7 rfl)) ((u13 63 4 rfl).trans (u8 63 4 rfl)) ((u13 3 9 rfl).trans (u8 3 9 rfl)) q41 xq0.1
      refine ct_175_63 hcr  g13 z33 x7 x5 (by omega) (by omega) (by omega) (show x7 < (h13 63 4) by omega) (show (h13 63 4) ≤ 12 by omega) xj38 (fun z37  (fz37 : -1 ≤ z37 ∧ z37 ≤ 11) (p35_0 : -1 ≤ z37 ∧ z37 ≤ 11) (p35_1 : 0 ≤ z33 ∨ z37 = -1) y35_0 => ?_)
      refine wk_i ?_
      have q43 : h13 19 = h 19 := funext (fun i => ((u13 19 i (fo_no_ok (by decide) i)).trans (u8 19 i (fo_no_ok (by decide) i))))
      have q44 : h13 8 = h 8 := funext (fun i => ((u13 8 i (fo_no_ok (by decide) i)).trans (u8 8 i (fo_no_ok (by decide) i))))
      have jv42 : z37 = xj (xC h) (xB h) (xK h) (h 3 9) (x7).toNat (((z33).toNat : Nat) : Int) (x5).toNat := by rw [show (((z33).toNat : Nat) : Int) = z33 by omega, ← xj_eq q43 q44 ((u13 18 7 rfl).trans (u8 18 7 rfl)) ((u13 63 4 rfl).trans (u8 63 4 rfl)) ((u13 3 9 rfl).trans (u8 3 9 rfl))]; exact y35_0 (by omega)
      have jv42n := XE.go (h := h) (u := (x5).toNat) (p := (x7).toNat) (c := (z33).toNat) (v := x6) jr xpc (by omega) lc34.2.2 xe.1
      have jv42m : z37 ≠ -1 := by rw [jv42]; exact jv42n.1
      refine wi_istore (i := 6) (e := z37) (lo2 := [(6, vi z37), (5, vi z33), (4, vi z14), (0, .ref 63), (1, vi x5), (2, vi x6), (3, vi x7)]) (nx := 50) (r1 := 0) (r2 := 0) (r3 := 0) rfl rfl ?_
      refine wi_iload (i := 6) (e := z37) (nx := 52) (r1 := 0) (r2 := 0) (r3 := 0) rfl rfl ?_
      refine wi_iconst (n := (-1)) (nx := 53) (r1 := 0) (r2 := 0) (r3 := 0) rfl ?_
      refine wi_icmp (cd := .ne) (nx := 56) (r1 := 57) (r2 := 0) (r3 := 0) rfl (by omega) (by omega) (fun (q45 : z37 ≠ (-1)) => ?_) (fun (q45 : ¬ (z37 ≠ (-1))) => ?_)
      ·
        obtain ⟨jv42j, jv42e, jv42k, jv42c, jv42b, jv42u⟩ := xj_ok jk jv42n.1
        have jv42z : (z37).toNat = jv42j := by rw [jv42, jv42e]; rfl
        have jv42o := bit_or (s := (x5).toNat) (j := jv42j) (by omega) (by omega) jv42u
        refine wi_aload_n (i := 0) (x := 63) (nx := 58) (r1 := 0) (r2 := 0) (r3 := 0) rfl rfl ?_
        refine wr_gr (k0 := 63) (x := 66) (nx := 61) (r1 := 7) (r2 := 6) (r3 := 0) rfl rfl (by decide) rfl ⟨rfl, rfl⟩ rfl ?_
        refine wi_iload (i := 5) (e := z33) (nx := 63) (r1 := 0) (r2 := 0) (r3 := 0) rfl rfl ?_
        refine wr_V (k0 := 66) (rest := []) (as := [.ref 66, vi z33]) (nx := 66) (r1 := 158) (r2 := 1) (r3 := 5) rfl rfl rfl (of_decide_eq_true rfl) rfl rfl (by decide) rfl rfl (of_decide_eq_true rfl) (of_decide_eq_true rfl) ?_
        refine wi_aload_n (i := 0) (x := 66) (nx := 1) (r1 := 0) (r2 := 0) (r3 := 0) rfl rfl ?_
        refine wr_gi0 (k0 := 66) (x := h8 66 1) (nx := 4) (r1 := 5) (r2 := 1) (r3 := 0) rfl rfl (by decide) rfl ⟨rfl, rfl⟩ rfl (u13 66 1 rfl) ?_
        refine wi_aload_n (i := 0) (x := 66) (nx := 5) (r1 := 0) (r2 := 0) (r3 := 0) rfl rfl ?_
        refine wr_gr (k0 := 66) (x := 67) (nx := 8) (r1 := 5) (r2 := 0) (r3 := 0) rfl rfl (by decide) rfl ⟨rfl, rfl⟩ rfl ?_
        refine wr_al (k0 := 67) (e := 12) (nx := 9) (r1 := 0) (r2 := 0) (r3 := 0) rfl (by decide) rfl rfl ?_
        refine wi_icmp (cd := .ge) (nx := 12) (r1 := 32) (r2 := 0) (r3 := 0) rfl (by omega) (by omega) (fun (q46 : 12 ≤ (h8 66 1)) => by exfalso; omega) (fun (q46 : ¬ (12 ≤ (h8 66 1))) => ?_)
        refine wi_aload_n (i := 0) (x := 66) (nx := 13) (r1 := 0) (r2 := 0) (r3 := 0) rfl rfl ?_
        refine wr_gr (k0 := 66) (x := 67) (nx := 16) (r1 := 5) (r2 := 0) (r3 := 0) rfl rfl (by decide) rfl ⟨rfl, rfl⟩ rfl ?_
        refine wi_aload_n (i := 0) (x := 66) (nx := 17) (r1 := 0) (r2 := 0) (r3 := 0) rfl rfl ?_
        refine wr_gi0 (k0 := 66) (x := h8 66 1) (nx := 20) (r1 := 5) (r2 := 1) (r3 := 0) rfl rfl (by decide) rfl ⟨rfl, rfl⟩ rfl (u13 66 1 rfl) ?_
        refine wi_iload_n (i := 1) (e := z33) (nx := 21) (r1 := 0) (r2 := 0) (r3 := 0) rfl rfl ?_
        obtain ⟨i47, ei47⟩ : ∃ q : Nat, (h8 66 1) = (q : Int) := ⟨(h8 66 1).toNat, by omega⟩
        refine wr_is (k0 := 67) (a := h8 66 1) (f := i47) (x := z33) (bl := -2147483648) (bh := 2147483647) (nx := 22) (r1 := 0) (r2 := 0) (r3 := 0) rfl (by decide) rfl (by omega) (by omega) (by decide) g13 rfl (by omega) (fun h48 g48 w48 u48 => ?_)
        have F49 := F21.then rfl (FR.rngp (lo := 67) (hi := 67) u48 (by decide))
        have F50 := F22.then rfl (FR.rngp (lo := 67) (hi := 67) u48 (by decide))
        refine wi_aload_n (i := 0) (x := 66) (nx := 23) (r1 := 0) (r2 := 0) (r3 := 0) rfl rfl ?_
        refine wi_dup (nx := 24) (r1 := 0) (r2 := 0) (r3 := 0) rfl rfl ?_
        refine wr_gi0 (k0 := 66) (x := h8 66 1) (nx := 27) (r1 := 5) (r2 := 1) (r3 := 0) rfl rfl (by decide) rfl ⟨rfl, rfl⟩ rfl ((u48 66 1 (fn_a (by omega) fn_0)).trans (u13 66 1 rfl)) ?_
        refine wi_iconst (n := 1) (nx := 28) (r1 := 0) (r2 := 0) (r3 := 0) rfl ?_
        refine wr_add (nx := 29) (r1 := 0) (r2 := 0) (r3 := 0) rfl (fun e51 (fe51 : e51 = (h8 66 1) + 1) => ?_)
        refine wr_pf0 (k0 := 66) (x := e51) (bl := 0) (bh := 12) (nx := 32) (r1 := 5) (r2 := 1) (r3 := 0) rfl (by decide) rfl ⟨rfl, rfl⟩ rfl rfl g48 rfl (by omega) (fun h52 g52 w52 u52 => ?_)
        have F53 := F49.then rfl u52
        have F54 := F50.then rfl u52
        refine wi_return (nx := 33) (r1 := 0) (r2 := 0) (r3 := 0) rfl rfl ?_
        refine wk_n ?_
        refine wi_iload_n (i := 1) (e := x5) (nx := 67) (r1 := 0) (r2 := 0) (r3 := 0) rfl rfl ?_
        refine wi_iconst (n := 1) (nx := 68) (r1 := 0) (r2 := 0) (r3 := 0) rfl ?_
        refine wi_iload (i := 6) (e := z37) (nx := 70) (r1 := 0) (r2 := 0) (r3 := 0) rfl rfl ?_
        refine wr_ishl1 (y := z37) (nx := 71) (r1 := 0) (r2 := 0) (r3 := 0) rfl (by omega) (fun e55 (fe55 : 1 ≤ e55 ∧ e55 ≤ 4096) ve55 => ?_)
        have ke55 : e55 ≤ 2048 := by rw [ve55]; have := Nat.pow_le_pow_right (show 0 < 2 by decide) (show (z37).toNat ≤ 11 by omega); omega
        refine wr_iorN (x := x5) (y := e55) 12 4096 (by decide) (by decide) (nx := 72) (r1 := 0) (r2 := 0) (r3 := 0) rfl (by omega) (by omega) (fun e56 (fe56 : 0 ≤ e56 ∧ e56 < 4096) ve56 => ?_)
        have we56 : (e56).toNat = (x5).toNat ||| 2 ^ jv42j := by rw [ve56, ve55, jv42z]; rfl
        refine wi_istore_n (i := 1) (e := e56) (lo2 := [(1, vi e56), (6, vi z37), (5, vi z33), (4, vi z14), (0, .ref 63), (2, vi x6), (3, vi x7)]) (nx := 73) (r1 := 0) (r2 := 0) (r3 := 0) rfl rfl ?_
        refine wi_iload (i := 4) (e := z14) (nx := 75) (r1 := 0) (r2 := 0) (r3 := 0) rfl rfl ?_
        refine wi_iload (i := 5) (e := z33) (nx := 77) (r1 := 0) (r2 := 0) (r3 := 0) rfl rfl ?_
        refine wi_S (rest := []) (as := [vi z14, vi z33]) (nx := 80) (r1 := 176) (r2 := 18) (r3 := 0) rfl rfl rfl (of_decide_eq_true rfl) rfl rfl (of_decide_eq_true rfl) (of_decide_eq_true rfl) ?_
        refine ct_176 hcr  g52 z14 z33 (by omega) (by omega)  (fun z58  (fz58 : 0 ≤ z58 ∧ z58 ≤ 15) (p57_0 : 0 ≤ z58 ∧ z58 ≤ 15) y57_0 => ?_)
        refine wk_i ?_
        refine wi_istore_n (i := 2) (e := z58) (lo2 := [(2, vi z58), (1, vi e56), (6, vi z37), (5, vi z33), (4, vi z14), (0, .ref 63), (3, vi x7)]) (nx := 81) (r1 := 0) (r2 := 0) (r3 := 0) rfl rfl ?_
        refine wr_iinc (i := 3) (n := 1) (v := x7) (fun e59 => [(3, vi e59), (2, vi z58), (1, vi e56), (6, vi z37), (5, vi z33), (4, vi z14), (0, .ref 63)]) (nx := 84) (r1 := 0) (r2 := 0) (r3 := 0) rfl rfl (fun _ => rfl) (fun e59 (fe59 : e59 = x7 + 1) => ?_)
        refine wi_goto (nx := 87) (r1 := 9) (r2 := 0) (r3 := 0) rfl ?_
        have e60 : h52 63 4 = h 63 4 := ((u52 63 4 rfl).trans ((u48 63 4 (fn_a (by omega) fn_0)).trans ((u13 63 4 rfl).trans (u8 63 4 rfl))))
        have e61 : h52 66 1 = e51 := w52
        refine wp.lo (lo := [(0, .ref 63), (1, vi e56), (2, vi z58), (3, vi e59)]) ⟨rfl, rfl, rfl, rfl, trivial⟩ rfl ?_
        have q62 : h52 67 = h48 67 := funext (fun i => (u52 67 i rfl))
        have q63 : h13 67 = h8 67 := funext (fun i => (u13 67 i (fo_no_ok (by decide) i)))
        have dd64 : h52 67 (x7).toNat = z33 ∧ ∀ i, i < (x7).toNat → h52 67 i = h8 67 i := ⟨by rw [q62, show (x7).toNat = i47 by omega]; exact w48, fun i hi => by rw [q62, u48 67 i (fn_i (by omega) fn_0), q63]⟩
        have q65 : h52 64 = h13 64 := funext (fun i => ((u52 64 i rfl).trans (u48 64 i (fn_a (by omega) fn_0))))
        have q66 : h52 67 = h48 67 := funext (fun i => (u52 67 i rfl))
        have q67 : h13 67 = h8 67 := funext (fun i => (u13 67 i (fo_no_ok (by decide) i)))
        have dd68 : h52 67 (x7).toNat = z33 ∧ ∀ i, i < (x7).toNat → h52 67 i = h8 67 i := ⟨by rw [q66, show (x7).toNat = i47 by omega]; exact w48, fun i hi => by rw [q66, u48 67 i (fn_i (by omega) fn_0), q67]⟩
        exact I8 e56 z58 e59 h52 ⟨g52, F53, F54, (show (0 ≤ e56 ∧ e56 ≤ 4095) ∧ (0 ≤ z58 ∧ z58 ≤ 15) ∧ (0 ≤ e59 ∧ e59 ≤ 12) ∧ (0 ≤ e59) ∧ (e59 = 0 ∨ e59 ≤ (h52 63 4)) ∧ ((h52 66 1) = e59) by omega), (by rw [show (e59).toNat = (x7).toNat + 1 by omega, show (e56).toNat = (x5).toNat ||| 2 ^ jv42j from we56]; exact XU.add (XU.congr X8_0 dd64.2) jk jv42k jv42u jv42b (by rw [dd64.1, jv42c]; omega)), (by rw [q65]; exact wv23m), (fun h1 => by
            rw [show (e59).toNat = (x7).toNat + 1 by omega, show (e56).toNat = (x5).toNat ||| 2 ^ jv42j from we56]
            show XE _ (h52 67 (x7).toNat) _
            have xh1 := jv42n.2
            rw [jv42e] at xh1
            rw [dd68.1, show z58 = ((xW h (x5).toNat (z33).toNat : Nat) : Int) by rw [y57_0]; exact congrArg Int.ofNat (lc34w (z33).toNat (by omega)), show z33 = (((z33).toNat : Nat) : Int) by omega]
            exact xh1)⟩ (show ((12 : Int) + 1 - e59).toNat < ((12 : Int) + 1 - x7).toNat by omega)
      ·
        exfalso; omega
-- method 171: Exchange.plan()V
set_option maxRecDepth 100000 in
set_option maxHeartbeats 100000000 in
theorem ct_171_63 {L : Nat} {xs : Nat → Int32} {d b c : Nat} {h : hp} {cr : Nat → Nat → Option Nat} {Q : hp_Q} (hcr : CR cr)  (g : GI h)   (pp0 : h 63 5 ≤ h 18 16) (pp1 : h 63 5 < h 18 16 ∨ (h 18 7 ≤ h 3 2 ∧ h 66 1 = h 3 2 - h 18 7) ∨ (h 3 2 < h 18 7 ∧ h 66 1 = 0)) (pp2 : 0 ≤ h 3 9) (xq0 : MCL h) (k : ∀ (h2 : hp) , GI h2 → FR [(64, 64, none), (65, 65, none), (67, 67, none), (63, 63, some (4, 5)), (63, 63, some (7, 7)), (66, 66, some (1, 1))] h h2 → (h2 63 5 = h2 18 16) → ((h2 18 7 ≤ h2 3 2 ∧ h2 66 1 = h2 3 2 - h2 18 7) ∨ (h2 3 2 < h2 18 7 ∧ h2 66 1 = 0)) → (XBe h2) → Q (.inl none) (hp_w h2 cr) b c) : wp (md_xa (L, xs)) (d + 19) 171 (0, [(0, .ref 63)], [], hp_w h cr, b, c) Q := by
  have F0 : FR [(64, 64, none), (65, 65, none), (67, 67, none), (63, 63, some (4, 5)), (63, 63, some (7, 7)), (66, 66, some (1, 1))] h h := FR.refl
  have b1 := gi_b (lo := -2147483648) (hi := 2147483647) g 63 5 rfl
  have b2 := gi_b (lo := -2147483648) (hi := 2147483647) g 18 16 rfl
  have b3 := gi_b (lo := 0) (hi := 12) g 18 7 rfl
  have b4 := gi_b (lo := 0) (hi := 12) g 3 2 rfl
  have b5 := gi_b (lo := 0) (hi := 12) g 66 1 rfl
  have b6 := gi_b (lo := -2147483648) (hi := 2147483647) g 3 9 rfl
  refine wi_aload_n (i := 0) (x := 63) (nx := 1) (r1 := 0) (r2 := 0) (r3 := 0) rfl rfl ?_
  refine wr_gi0 (k0 := 63) (x := h 63 5) (nx := 4) (r1 := 7) (r2 := 5) (r3 := 0) rfl rfl (by decide) rfl ⟨rfl, rfl⟩ rfl rfl ?_
  refine wi_aload_n (i := 0) (x := 63) (nx := 5) (r1 := 0) (r2 := 0) (r3 := 0) rfl rfl ?_
  refine wr_gr (k0 := 63) (x := 18) (nx := 8) (r1 := 7) (r2 := 1) (r3 := 0) rfl rfl (by decide) rfl ⟨rfl, rfl⟩ rfl ?_
  refine wr_gi0 (k0 := 18) (x := h 18 16) (nx := 11) (r1 := 4) (r2 := 16) (r3 := 0) rfl rfl (by decide) rfl ⟨rfl, rfl⟩ rfl rfl ?_
  refine wi_icmp (cd := .ne) (nx := 14) (r1 := 15) (r2 := 0) (r3 := 0) rfl (by omega) (by omega) (fun (q7 : (h 63 5) ≠ (h 18 16)) => ?_) (fun (q7 : ¬ ((h 63 5) ≠ (h 18 16))) => ?_)
  ·
    refine wi_aload_n (i := 0) (x := 63) (nx := 16) (r1 := 0) (r2 := 0) (r3 := 0) rfl rfl ?_
    refine wi_aload_n (i := 0) (x := 63) (nx := 17) (r1 := 0) (r2 := 0) (r3 := 0) rfl rfl ?_
    refine wr_gr (k0 := 63) (x := 18) (nx := 20) (r1 := 7) (r2 := 1) (r3 := 0) rfl rfl (by decide) rfl ⟨rfl, rfl⟩ rfl ?_
    refine wr_gi0 (k0 := 18) (x := h 18 16) (nx := 23) (r1 := 4) (r2 := 16) (r3 := 0) rfl rfl (by decide) rfl ⟨rfl, rfl⟩ rfl rfl ?_
    refine wr_pf0 (k0 := 63) (x := h 18 16) (bl := -2147483648) (bh := 2147483647) (nx := 26) (r1 := 7) (r2 := 5) (r3 := 0) rfl (by decide) rfl ⟨rfl, rfl⟩ rfl rfl g rfl (by omega) (fun h8 g8 w8 u8 => ?_)
    have F9 := F0.then rfl u8
    refine wi_aload_n (i := 0) (x := 63) (nx := 27) (r1 := 0) (r2 := 0) (r3 := 0) rfl rfl ?_
    refine wi_aload_n (i := 0) (x := 63) (nx := 28) (r1 := 0) (r2 := 0) (r3 := 0) rfl rfl ?_
    refine wr_gr (k0 := 63) (x := 18) (nx := 31) (r1 := 7) (r2 := 1) (r3 := 0) rfl rfl (by decide) rfl ⟨rfl, rfl⟩ rfl ?_
    refine wr_V (k0 := 18) (rest := [.ref 63]) (as := [.ref 18]) (nx := 34) (r1 := 128) (r2 := 0) (r3 := 4) rfl rfl rfl (of_decide_eq_true rfl) rfl rfl (by decide) rfl rfl (of_decide_eq_true rfl) (of_decide_eq_true rfl) ?_
    refine wi_aload_n (i := 0) (x := 18) (nx := 1) (r1 := 0) (r2 := 0) (r3 := 0) rfl rfl ?_
    refine wr_gr (k0 := 18) (x := 3) (nx := 4) (r1 := 4) (r2 := 0) (r3 := 0) rfl rfl (by decide) rfl ⟨rfl, rfl⟩ rfl ?_
    refine wr_gi0 (k0 := 3) (x := h 3 2) (nx := 7) (r1 := 2) (r2 := 2) (r3 := 0) rfl rfl (by decide) rfl ⟨rfl, rfl⟩ rfl (u8 3 2 rfl) ?_
    refine wi_aload_n (i := 0) (x := 18) (nx := 8) (r1 := 0) (r2 := 0) (r3 := 0) rfl rfl ?_
    refine wr_gi0 (k0 := 18) (x := h 18 7) (nx := 11) (r1 := 4) (r2 := 7) (r3 := 0) rfl rfl (by decide) rfl ⟨rfl, rfl⟩ rfl (u8 18 7 rfl) ?_
    refine wr_sub (nx := 12) (r1 := 0) (r2 := 0) (r3 := 0) rfl (fun e10 (fe10 : e10 = (h 3 2) - (h 18 7)) => ?_)
    refine wi_ireturn (nx := 13) (r1 := 0) (r2 := 0) (r3 := 0) rfl rfl ?_
    refine wk_i ?_
    refine wi_bipush (n := 12) (nx := 36) (r1 := 0) (r2 := 0) (r3 := 0) rfl (by decide) ?_
    refine wi_S (rest := [.ref 63]) (as := [vi e10, vi 12]) (nx := 39) (r1 := 354) (r2 := 18) (r3 := 0) rfl rfl rfl (of_decide_eq_true rfl) rfl rfl (of_decide_eq_true rfl) (of_decide_eq_true rfl) ?_
    refine wi_iload_n (i := 0) (e := e10) (nx := 1) (r1 := 0) (r2 := 0) (r3 := 0) rfl rfl ?_
    refine wi_iload_n (i := 1) (e := 12) (nx := 2) (r1 := 0) (r2 := 0) (r3 := 0) rfl rfl ?_
    refine wi_icmp (cd := .gt) (nx := 5) (r1 := 9) (r2 := 0) (r3 := 0) rfl (by omega) (by omega) (fun (q11 : 12 < e10) => by exfalso; omega) (fun (q11 : ¬ (12 < e10)) => ?_)
    refine wi_iload_n (i := 0) (e := e10) (nx := 6) (r1 := 0) (r2 := 0) (r3 := 0) rfl rfl ?_
    refine wi_goto (nx := 9) (r1 := 10) (r2 := 0) (r3 := 0) rfl ?_
    refine wi_ireturn (nx := 11) (r1 := 0) (r2 := 0) (r3 := 0) rfl rfl ?_
    refine wk_i ?_
    refine wr_pf0 (k0 := 63) (x := e10) (bl := -12) (bh := 12) (nx := 42) (r1 := 7) (r2 := 4) (r3 := 0) rfl (by decide) rfl ⟨rfl, rfl⟩ rfl rfl g8 rfl (by omega) (fun h12 g12 w12 u12 => ?_)
    have F13 := F9.then rfl u12
    refine wi_aload_n (i := 0) (x := 63) (nx := 43) (r1 := 0) (r2 := 0) (r3 := 0) rfl rfl ?_
    refine wr_V (k0 := 63) (rest := []) (as := [.ref 63]) (nx := 46) (r1 := 172) (r2 := 0) (r3 := 7) rfl rfl rfl (of_decide_eq_true rfl) rfl rfl (by decide) rfl rfl (of_decide_eq_true rfl) (of_decide_eq_true rfl) ?_
    have e15 : h12 63 4 = e10 := w12
    refine ct_172_63 hcr  g12   (show (h12 63 4) ≤ 12 by omega) (fun h14 g14 u14 y14_0 => ?_)
    have F16 := F13.then (by decide +kernel) u14
    refine wk_n ?_
    refine wi_aload_n (i := 0) (x := 63) (nx := 47) (r1 := 0) (r2 := 0) (r3 := 0) rfl rfl ?_
    refine wr_gr (k0 := 63) (x := 65) (nx := 50) (r1 := 7) (r2 := 3) (r3 := 0) rfl rfl (by decide) rfl ⟨rfl, rfl⟩ rfl ?_
    refine wi_iconst (n := 0) (nx := 51) (r1 := 0) (r2 := 0) (r3 := 0) rfl ?_
    refine wi_S (rest := []) (as := [.ref 65, vi 0]) (nx := 54) (r1 := 356) (r2 := 18) (r3 := 0) rfl rfl rfl (of_decide_eq_true rfl) rfl rfl (of_decide_eq_true rfl) (of_decide_eq_true rfl) ?_
    refine ct_356_65 hcr  g14 0 (by omega)  (fun h17 g17 u17 y17_0 => ?_)
    have F18 := F16.then (by decide +kernel) u17
    refine wk_n ?_
    have q20 : h17 19 = h12 19 := funext (fun i => ((u17 19 i (fo_no_ok (by decide) i)).trans (u14 19 i (fo_no_ok (by decide) i))))
    have q21 : h17 8 = h12 8 := funext (fun i => ((u17 8 i (fo_no_ok (by decide) i)).trans (u14 8 i (fo_no_ok (by decide) i))))
    have ce22c : xC h17 = xC h12 := xC_eq q20 (((u17 18 7 rfl).trans ((u14 18 7 rfl).trans ((u12 18 7 rfl).trans (u8 18 7 rfl)))).trans (((u12 18 7 rfl).trans (u8 18 7 rfl))).symm)
    have ce22b : xB h17 = xB h12 := xB_eq q21 (((u17 18 7 rfl).trans ((u14 18 7 rfl).trans ((u12 18 7 rfl).trans (u8 18 7 rfl)))).trans (((u12 18 7 rfl).trans (u8 18 7 rfl))).symm)
    have ce22k : xK h17 = xK h12 := xK_eq (((u17 63 4 rfl).trans ((u14 63 4 rfl).trans w12)).trans (w12).symm)
    have q23 : h17 64 = h14 64 := funext (fun i => (u17 64 i (fo_no_ok (by decide) i)))
    have fm19 : XMp (xC h17) (xB h17) (xK h17) (h17 3 9) (h17 64) := XMp.none (by rw [ce22k, q23]; exact y14_0)
    have e24 : h17 63 4 = e10 := ((u17 63 4 rfl).trans ((u14 63 4 rfl).trans w12))
    have e25 : h17 18 7 = h 18 7 := ((u17 18 7 rfl).trans ((u14 18 7 rfl).trans ((u12 18 7 rfl).trans (u8 18 7 rfl))))
    have e26 : h17 3 2 = h 3 2 := ((u17 3 2 rfl).trans ((u14 3 2 rfl).trans ((u12 3 2 rfl).trans (u8 3 2 rfl))))
    have q28 : h17 19 = h 19 := funext (fun i => ((u17 19 i (fo_no_ok (by decide) i)).trans ((u14 19 i (fo_no_ok (by decide) i)).trans ((u12 19 i rfl).trans (u8 19 i rfl)))))
    have ce29c : xC h17 = xC h := xC_eq q28 ((u17 18 7 rfl).trans ((u14 18 7 rfl).trans ((u12 18 7 rfl).trans (u8 18 7 rfl))))
    have cb27 : (∀ j, j < xK h17 → 0 ≤ xC h17 j ∧ xC h17 j ≤ 4) := fun j hj => by rw [ce29c]; exact xq0.col j (by unfold xK at hj; omega) (by omega)
    refine wi_iconst (n := 0) (nx := 55) (r1 := 0) (r2 := 0) (r3 := 0) rfl ?_
    refine wi_istore_n (i := 1) (e := 0) (lo2 := [(1, vi 0), (0, .ref 63)]) (nx := 56) (r1 := 0) (r2 := 0) (r3 := 0) rfl rfl ?_
    refine wp.lo (lo := [(0, .ref 63), (1, vi 0)]) ⟨rfl, rfl, trivial⟩ rfl ?_
    refine wl_1 (fun x30 h31 => GI h31 ∧ FR [(64, 64, none), (65, 65, none), (67, 67, none), (63, 63, some (4, 5)), (63, 63, some (7, 7)), (66, 66, some (1, 1))] h h31 ∧ FR [(65, 65, none)] h17 h31 ∧ ((0 ≤ x30 ∧ x30 ≤ 12) ∧ (x30 = 0 ∨ x30 ≤ (h31 63 4))) ∧ (XJd (xC h17) (xB h17) (xK h17) (x30).toNat 0 (h31 65))) (fun x30 h31 => ((12 : Int) + 1 - x30).toNat) (fun x30 h31 => (56, [(0, .ref 63), (1, vi x30)], [], hp_w h31 cr, b, c)) ?_ 0 h17 ⟨g17, F18, FR.refl, (show (0 ≤ 0 ∧ 0 ≤ 12) ∧ (0 = 0 ∨ 0 ≤ (h17 63 4)) by omega), (XJd.zero y17_0)⟩
    intro x30 h31 ⟨g31, F32, u31, f31, X31_0⟩ I31
    have e33 : h31 63 4 = e10 := ((u31 63 4 rfl).trans ((u17 63 4 rfl).trans ((u14 63 4 rfl).trans w12)))
    refine wi_iload_n (i := 1) (e := x30) (nx := 57) (r1 := 0) (r2 := 0) (r3 := 0) rfl rfl ?_
    refine wi_aload_n (i := 0) (x := 63) (nx := 58) (r1 := 0) (r2 := 0) (r3 := 0) rfl rfl ?_
    refine wr_gi0 (k0 := 63) (x := e10) (nx := 61) (r1 := 7) (r2 := 4) (r3 := 0) rfl rfl (by decide) rfl ⟨rfl, rfl⟩ rfl ((u31 63 4 rfl).trans ((u17 63 4 rfl).trans ((u14 63 4 rfl).trans w12))) ?_
    refine wi_icmp (cd := .ge) (nx := 64) (r1 := 92) (r2 := 0) (r3 := 0) rfl (by omega) (by omega) (fun (q34 : e10 ≤ x30) => ?_) (fun (q34 : ¬ (e10 ≤ x30)) => ?_)
    ·
      have q36 : h31 19 = h17 19 := funext (fun i => (u31 19 i (fo_no_ok (by decide) i)))
      have q37 : h31 8 = h17 8 := funext (fun i => (u31 8 i (fo_no_ok (by decide) i)))
      have ce38c : xC h31 = xC h17 := xC_eq q36 (((u31 18 7 rfl).trans ((u17 18 7 rfl).trans ((u14 18 7 rfl).trans ((u12 18 7 rfl).trans (u8 18 7 rfl))))).trans (((u17 18 7 rfl).trans ((u14 18 7 rfl).trans ((u12 18 7 rfl).trans (u8 18 7 rfl))))).symm)
      have ce38b : xB h31 = xB h17 := xB_eq q37 (((u31 18 7 rfl).trans ((u17 18 7 rfl).trans ((u14 18 7 rfl).trans ((u12 18 7 rfl).trans (u8 18 7 rfl))))).trans (((u17 18 7 rfl).trans ((u14 18 7 rfl).trans ((u12 18 7 rfl).trans (u8 18 7 rfl))))).symm)
      have ce38k : xK h31 = xK h17 := xK_eq (((u31 63 4 rfl).trans ((u17 63 4 rfl).trans ((u14 63 4 rfl).trans w12))).trans (((u17 63 4 rfl).trans ((u14 63 4 rfl).trans w12))).symm)
      have q39 : h31 64 = h17 64 := funext (fun i => (u31 64 i (fo_no_ok (by decide) i)))
      have e40 : h31 3 9 = h 3 9 := ((u31 3 9 rfl).trans ((u17 3 9 rfl).trans ((u14 3 9 rfl).trans ((u12 3 9 rfl).trans (u8 3 9 rfl)))))
      have e41 : h17 3 9 = h 3 9 := ((u17 3 9 rfl).trans ((u14 3 9 rfl).trans ((u12 3 9 rfl).trans (u8 3 9 rfl))))
      have xj35 : XJp (xC h31) (xB h31) (xK h31) (h31 65) := (by rw [ce38c, ce38b, ce38k]; exact (XJd.done X31_0 (by unfold xK; omega)))
      have xj35m : XMp (xC h31) (xB h31) (xK h31) (h31 3 9) (h31 64) := by rw [ce38c, ce38b, ce38k, q39, show h31 3 9 = h17 3 9 by omega]; exact fm19
      refine wi_aload_n (i := 0) (x := 63) (nx := 93) (r1 := 0) (r2 := 0) (r3 := 0) rfl rfl ?_
      refine wi_aload_n (i := 0) (x := 63) (nx := 94) (r1 := 0) (r2 := 0) (r3 := 0) rfl rfl ?_
      refine wi_iconst (n := 0) (nx := 95) (r1 := 0) (r2 := 0) (r3 := 0) rfl ?_
      refine wi_iconst (n := 0) (nx := 96) (r1 := 0) (r2 := 0) (r3 := 0) rfl ?_
      refine wr_V (k0 := 63) (rest := [.ref 63]) (as := [.ref 63, vi 0, vi 0]) (nx := 99) (r1 := 174) (r2 := 2) (r3 := 7) rfl rfl rfl (of_decide_eq_true rfl) rfl rfl (by decide) rfl rfl (of_decide_eq_true rfl) (of_decide_eq_true rfl) ?_
      have q45 : h31 65 = h31 65 := funext (fun i => rfl)
      have q46 : h31 64 = h31 64 := funext (fun i => rfl)
      have xg44 : XG h31 := XG.at rfl rfl rfl rfl rfl q45 xj35 (by rw [q46]; exact xj35m)
      refine ct_174_63 hcr  g31 0 0 (by omega) (by omega) (show (h31 63 4) ≤ 12 by omega) (show 0 = 0 ∨ 0 ≤ (h31 63 4) by omega) xg44 ⟨rfl, Nat.two_pow_pos _⟩ (fun h42 z43 g42 u42 (fz43 : -2147483648 ≤ z43 ∧ z43 ≤ 2147483647) y42_0 y42_1 => ?_)
      have F47 := F32.then (by decide +kernel) u42
      have q49 : h42 19 = h31 19 := funext (fun i => (u42 19 i (fo_no_ok (by decide) i)))
      have q50 : h42 8 = h31 8 := funext (fun i => (u42 8 i (fo_no_ok (by decide) i)))
      have wv48 : z43 = ((xp (xW h31 ((0 : Int)).toNat) 5 : Nat) : Int) := by rw [← xW_eq rfl rfl rfl rfl rfl]; exact y42_0
      have wv48m := XG.to q49 q50 (((u42 18 7 rfl).trans ((u31 18 7 rfl).trans ((u17 18 7 rfl).trans ((u14 18 7 rfl).trans ((u12 18 7 rfl).trans (u8 18 7 rfl)))))).trans (((u31 18 7 rfl).trans ((u17 18 7 rfl).trans ((u14 18 7 rfl).trans ((u12 18 7 rfl).trans (u8 18 7 rfl)))))).symm) (((u42 63 4 rfl).trans ((u31 63 4 rfl).trans ((u17 63 4 rfl).trans ((u14 63 4 rfl).trans w12)))).trans (((u31 63 4 rfl).trans ((u17 63 4 rfl).trans ((u14 63 4 rfl).trans w12)))).symm) (((u42 3 9 rfl).trans ((u31 3 9 rfl).trans ((u17 3 9 rfl).trans ((u14 3 9 rfl).trans ((u12 3 9 rfl).trans (u8 3 9 rfl)))))).trans (((u31 3 9 rfl).trans ((u17 3 9 rfl).trans ((u14 3 9 rfl).trans ((u12 3 9 rfl).trans (u8 3 9 rfl)))))).symm) y42_1
      have wv48l := xp_lt (f := xW h31 ((0 : Int)).toNat) (fun c => xW_le _ _ c) 5
      have wv48b : 0 ≤ z43 ∧ z43 ≤ 1048575 := by rw [wv48]; have h16 : 16 ^ 5 = 1048576 := (by decide); omega
      refine wk_i ?_
      refine wi_S (rest := [.ref 63]) (as := [vi z43]) (nx := 102) (r1 := 177) (r2 := 17) (r3 := 0) rfl rfl rfl (of_decide_eq_true rfl) rfl rfl (of_decide_eq_true rfl) (of_decide_eq_true rfl) ?_
      refine ct_177 hcr  g42 z43 (by omega)  (fun z52  (fz52 : 0 ≤ z52 ∧ z52 ≤ 15) (p51_0 : 0 ≤ z52 ∧ z52 ≤ 15) y51_0 => ?_)
      refine wk_i ?_
      refine wr_pf0 (k0 := 63) (x := z52) (bl := -2147483648) (bh := 2147483647) (nx := 105) (r1 := 7) (r2 := 7) (r3 := 0) rfl (by decide) rfl ⟨rfl, rfl⟩ rfl rfl g42 rfl (by omega) (fun h53 g53 w53 u53 => ?_)
      have F54 := F47.then rfl u53
      refine wi_aload_n (i := 0) (x := 63) (nx := 106) (r1 := 0) (r2 := 0) (r3 := 0) rfl rfl ?_
      refine wr_gr (k0 := 63) (x := 66) (nx := 109) (r1 := 7) (r2 := 6) (r3 := 0) rfl rfl (by decide) rfl ⟨rfl, rfl⟩ rfl ?_
      refine wi_iconst (n := 0) (nx := 110) (r1 := 0) (r2 := 0) (r3 := 0) rfl ?_
      refine wr_pf0 (k0 := 66) (x := 0) (bl := 0) (bh := 12) (nx := 113) (r1 := 5) (r2 := 1) (r3 := 0) rfl (by decide) rfl ⟨rfl, rfl⟩ rfl rfl g53 rfl (by omega) (fun h55 g55 w55 u55 => ?_)
      have F56 := F54.then rfl u55
      refine wi_aload_n (i := 0) (x := 63) (nx := 114) (r1 := 0) (r2 := 0) (r3 := 0) rfl rfl ?_
      refine wr_V (k0 := 63) (rest := []) (as := [.ref 63]) (nx := 117) (r1 := 178) (r2 := 0) (r3 := 7) rfl rfl rfl (of_decide_eq_true rfl) rfl rfl (by decide) rfl rfl (of_decide_eq_true rfl) (of_decide_eq_true rfl) ?_
      have e58 : h55 63 4 = e10 := ((u55 63 4 rfl).trans ((u53 63 4 rfl).trans ((u42 63 4 rfl).trans ((u31 63 4 rfl).trans ((u17 63 4 rfl).trans ((u14 63 4 rfl).trans w12))))))
      have e59 : h55 66 1 = 0 := w55
      have e60 : h55 3 9 = h 3 9 := ((u55 3 9 rfl).trans ((u53 3 9 rfl).trans ((u42 3 9 rfl).trans ((u31 3 9 rfl).trans ((u17 3 9 rfl).trans ((u14 3 9 rfl).trans ((u12 3 9 rfl).trans (u8 3 9 rfl))))))))
      have q62 : h55 19 = h31 19 := funext (fun i => ((u55 19 i rfl).trans ((u53 19 i rfl).trans (u42 19 i (fo_no_ok (by decide) i)))))
      have q63 : h55 8 = h31 8 := funext (fun i => ((u55 8 i rfl).trans ((u53 8 i rfl).trans (u42 8 i (fo_no_ok (by decide) i)))))
      have q64 : h55 65 = h31 65 := funext (fun i => ((u55 65 i rfl).trans ((u53 65 i rfl).trans (u42 65 i (fo_no_ok (by decide) i)))))
      have q65 : h55 64 = h42 64 := funext (fun i => ((u55 64 i rfl).trans (u53 64 i rfl)))
      have xg61 : XG h55 := XG.at q62 q63 (((u55 18 7 rfl).trans ((u53 18 7 rfl).trans ((u42 18 7 rfl).trans ((u31 18 7 rfl).trans ((u17 18 7 rfl).trans ((u14 18 7 rfl).trans ((u12 18 7 rfl).trans (u8 18 7 rfl)))))))).trans (((u31 18 7 rfl).trans ((u17 18 7 rfl).trans ((u14 18 7 rfl).trans ((u12 18 7 rfl).trans (u8 18 7 rfl)))))).symm) (((u55 63 4 rfl).trans ((u53 63 4 rfl).trans ((u42 63 4 rfl).trans ((u31 63 4 rfl).trans ((u17 63 4 rfl).trans ((u14 63 4 rfl).trans w12)))))).trans (((u31 63 4 rfl).trans ((u17 63 4 rfl).trans ((u14 63 4 rfl).trans w12)))).symm) (((u55 3 9 rfl).trans ((u53 3 9 rfl).trans ((u42 3 9 rfl).trans ((u31 3 9 rfl).trans ((u17 3 9 rfl).trans ((u14 3 9 rfl).trans ((u12 3 9 rfl).trans (u8 3 9 rfl)))))))).trans (((u31 3 9 rfl).trans ((u17 3 9 rfl).trans ((u14 3 9 rfl).trans ((u12 3 9 rfl).trans (u8 3 9 rfl)))))).symm) q64 xj35 (by rw [q65]; exact wv48m)
      have q67 : h55 19 = h17 19 := funext (fun i => ((u55 19 i rfl).trans ((u53 19 i rfl).trans ((u42 19 i (fo_no_ok (by decide) i)).trans (u31 19 i (fo_no_ok (by decide) i))))))
      have q68 : h55 8 = h17 8 := funext (fun i => ((u55 8 i rfl).trans ((u53 8 i rfl).trans ((u42 8 i (fo_no_ok (by decide) i)).trans (u31 8 i (fo_no_ok (by decide) i))))))
      have ce69c : xC h55 = xC h17 := xC_eq q67 (((u55 18 7 rfl).trans ((u53 18 7 rfl).trans ((u42 18 7 rfl).trans ((u31 18 7 rfl).trans ((u17 18 7 rfl).trans ((u14 18 7 rfl).trans ((u12 18 7 rfl).trans (u8 18 7 rfl)))))))).trans (((u17 18 7 rfl).trans ((u14 18 7 rfl).trans ((u12 18 7 rfl).trans (u8 18 7 rfl))))).symm)
      have ce69b : xB h55 = xB h17 := xB_eq q68 (((u55 18 7 rfl).trans ((u53 18 7 rfl).trans ((u42 18 7 rfl).trans ((u31 18 7 rfl).trans ((u17 18 7 rfl).trans ((u14 18 7 rfl).trans ((u12 18 7 rfl).trans (u8 18 7 rfl)))))))).trans (((u17 18 7 rfl).trans ((u14 18 7 rfl).trans ((u12 18 7 rfl).trans (u8 18 7 rfl))))).symm)
      have ce69k : xK h55 = xK h17 := xK_eq (((u55 63 4 rfl).trans ((u53 63 4 rfl).trans ((u42 63 4 rfl).trans ((u31 63 4 rfl).trans ((u17 63 4 rfl).trans ((u14 63 4 rfl).trans w12)))))).trans (((u17 63 4 rfl).trans ((u14 63 4 rfl).trans w12))).symm)
      have cb66 : (∀ j, j < xK h55 → 0 ≤ xC h55 j ∧ xC h55 j ≤ 4) := (by rw [ce69k, ce69c]; exact cb27)
      have q71 : h55 19 = h31 19 := funext (fun i => ((u55 19 i rfl).trans ((u53 19 i rfl).trans (u42 19 i (fo_no_ok (by decide) i)))))
      have q72 : h55 8 = h31 8 := funext (fun i => ((u55 8 i rfl).trans ((u53 8 i rfl).trans (u42 8 i (fo_no_ok (by decide) i)))))
      have e73 : h55 63 7 = z52 := ((u55 63 7 rfl).trans w53)
      have fa70 : h55 63 7 = ((xm (xW h55 0) : Nat) : Int) := by rw [xW_eq q71 q72 (((u55 18 7 rfl).trans ((u53 18 7 rfl).trans ((u42 18 7 rfl).trans ((u31 18 7 rfl).trans ((u17 18 7 rfl).trans ((u14 18 7 rfl).trans ((u12 18 7 rfl).trans (u8 18 7 rfl)))))))).trans (((u31 18 7 rfl).trans ((u17 18 7 rfl).trans ((u14 18 7 rfl).trans ((u12 18 7 rfl).trans (u8 18 7 rfl)))))).symm) (((u55 63 4 rfl).trans ((u53 63 4 rfl).trans ((u42 63 4 rfl).trans ((u31 63 4 rfl).trans ((u17 63 4 rfl).trans ((u14 63 4 rfl).trans w12)))))).trans (((u31 63 4 rfl).trans ((u17 63 4 rfl).trans ((u14 63 4 rfl).trans w12)))).symm) (((u55 3 9 rfl).trans ((u53 3 9 rfl).trans ((u42 3 9 rfl).trans ((u31 3 9 rfl).trans ((u17 3 9 rfl).trans ((u14 3 9 rfl).trans ((u12 3 9 rfl).trans (u8 3 9 rfl)))))))).trans (((u31 3 9 rfl).trans ((u17 3 9 rfl).trans ((u14 3 9 rfl).trans ((u12 3 9 rfl).trans (u8 3 9 rfl)))))).symm), show h55 63 7 = z52 by omega, y51_0, wv48]; rw [show ((((xp (xW h31 (((0 : Int)).toNat)) 5 : Nat) : Int)).toNat) = xp (xW h31 (((0 : Int)).toNat)) 5 from rfl, xm_congr (fun c hc => xp_at (f := xW h31 (((0 : Int)).toNat)) (fun c => xW_le _ _ c) c 5 hc)]; rfl
      refine ct_178_63 hcr  g55   (show (h55 63 4) ≤ 12 by omega) (show (h55 66 1) = 0 by omega) (show 0 ≤ (h55 3 9) by omega) xg61 cb66 fa70 (fun h57 g57 u57 (p57_0 : (0 ≤ (h55 63 4) ∧ (h57 66 1) = (h55 63 4)) ∨ ((h55 63 4) < 0 ∧ (h57 66 1) = 0)) y57_0 => ?_)
      have F74 := F56.then (by decide +kernel) u57
      have b75 := gi_b (lo := 0) (hi := 12) g57 66 1 rfl
      refine wk_n ?_
      refine wi_return (nx := 118) (r1 := 0) (r2 := 0) (r3 := 0) rfl rfl ?_
      have e76 : h57 63 5 = h 18 16 := ((u57 63 5 rfl).trans ((u55 63 5 rfl).trans ((u53 63 5 rfl).trans ((u42 63 5 rfl).trans ((u31 63 5 rfl).trans ((u17 63 5 rfl).trans ((u14 63 5 rfl).trans ((u12 63 5 rfl).trans w8))))))))
      have e77 : h57 18 16 = h 18 16 := ((u57 18 16 rfl).trans ((u55 18 16 rfl).trans ((u53 18 16 rfl).trans ((u42 18 16 rfl).trans ((u31 18 16 rfl).trans ((u17 18 16 rfl).trans ((u14 18 16 rfl).trans ((u12 18 16 rfl).trans (u8 18 16 rfl)))))))))
      have e78 : h57 18 7 = h 18 7 := ((u57 18 7 rfl).trans ((u55 18 7 rfl).trans ((u53 18 7 rfl).trans ((u42 18 7 rfl).trans ((u31 18 7 rfl).trans ((u17 18 7 rfl).trans ((u14 18 7 rfl).trans ((u12 18 7 rfl).trans (u8 18 7 rfl)))))))))
      have e79 : h57 3 2 = h 3 2 := ((u57 3 2 rfl).trans ((u55 3 2 rfl).trans ((u53 3 2 rfl).trans ((u42 3 2 rfl).trans ((u31 3 2 rfl).trans ((u17 3 2 rfl).trans ((u14 3 2 rfl).trans ((u12 3 2 rfl).trans (u8 3 2 rfl)))))))))
      have q80 : h57 19 = h55 19 := funext (fun i => (u57 19 i (fo_no_ok (by decide) i)))
      have q81 : h57 8 = h55 8 := funext (fun i => (u57 8 i (fo_no_ok (by decide) i)))
      have ce82c : xC h57 = xC h55 := xC_eq q80 (((u57 18 7 rfl).trans ((u55 18 7 rfl).trans ((u53 18 7 rfl).trans ((u42 18 7 rfl).trans ((u31 18 7 rfl).trans ((u17 18 7 rfl).trans ((u14 18 7 rfl).trans ((u12 18 7 rfl).trans (u8 18 7 rfl))))))))).trans (((u55 18 7 rfl).trans ((u53 18 7 rfl).trans ((u42 18 7 rfl).trans ((u31 18 7 rfl).trans ((u17 18 7 rfl).trans ((u14 18 7 rfl).trans ((u12 18 7 rfl).trans (u8 18 7 rfl))))))))).symm)
      have ce82b : xB h57 = xB h55 := xB_eq q81 (((u57 18 7 rfl).trans ((u55 18 7 rfl).trans ((u53 18 7 rfl).trans ((u42 18 7 rfl).trans ((u31 18 7 rfl).trans ((u17 18 7 rfl).trans ((u14 18 7 rfl).trans ((u12 18 7 rfl).trans (u8 18 7 rfl))))))))).trans (((u55 18 7 rfl).trans ((u53 18 7 rfl).trans ((u42 18 7 rfl).trans ((u31 18 7 rfl).trans ((u17 18 7 rfl).trans ((u14 18 7 rfl).trans ((u12 18 7 rfl).trans (u8 18 7 rfl))))))))).symm)
      have q83 : h57 67 = h57 67 := funext (fun i => rfl)
      have e84 : h57 63 4 = e10 := ((u57 63 4 rfl).trans ((u55 63 4 rfl).trans ((u53 63 4 rfl).trans ((u42 63 4 rfl).trans ((u31 63 4 rfl).trans ((u17 63 4 rfl).trans ((u14 63 4 rfl).trans w12)))))))
      have e85 : h55 18 7 = h 18 7 := ((u55 18 7 rfl).trans ((u53 18 7 rfl).trans ((u42 18 7 rfl).trans ((u31 18 7 rfl).trans ((u17 18 7 rfl).trans ((u14 18 7 rfl).trans ((u12 18 7 rfl).trans (u8 18 7 rfl))))))))
      have e86 : h55 3 2 = h 3 2 := ((u55 3 2 rfl).trans ((u53 3 2 rfl).trans ((u42 3 2 rfl).trans ((u31 3 2 rfl).trans ((u17 3 2 rfl).trans ((u14 3 2 rfl).trans ((u12 3 2 rfl).trans (u8 3 2 rfl))))))))
      exact k h57 g57 F74 (show (h57 63 5) = (h57 18 16) by omega) (show ((h57 18 7) ≤ (h57 3 2) ∧ (h57 66 1) = (h57 3 2) - (h57 18 7)) ∨ ((h57 3 2) < (h57 18 7) ∧ (h57 66 1) = 0) by omega) (by unfold XBe; rw [ce82c, ce82b, q83, show (h57 3 2 - h57 18 7).toNat = xK h55 by unfold xK; omega]; exact y57_0)
    ·
      refine wi_iconst (n := 0) (nx := 65) (r1 := 0) (r2 := 0) (r3 := 0) rfl ?_
      refine wi_istore_n (i := 2) (e := 0) (lo2 := [(2, vi 0), (0, .ref 63), (1, vi x30)]) (nx := 66) (r1 := 0) (r2 := 0) (r3 := 0) rfl rfl ?_
      refine wp.lo (lo := [(0, .ref 63), (1, vi x30), (2, vi 0)]) ⟨rfl, rfl, rfl, trivial⟩ rfl ?_
      refine wl_1 (fun x35 h36 => GI h36 ∧ FR [(64, 64, none), (65, 65, none), (67, 67, none), (63, 63, some (4, 5)), (63, 63, some (7, 7)), (66, 66, some (1, 1))] h h36 ∧ FR [(65, 65, none)] h17 h36 ∧ FR [(65, 65, none)] h31 h36 ∧ ((0 ≤ x35 ∧ x35 ≤ 12) ∧ (x35 = 0 ∨ x35 ≤ (h36 63 4))) ∧ (XJd (xC h17) (xB h17) (xK h17) (x30).toNat (x35).toNat (h36 65))) (fun x35 h36 => ((12 : Int) + 1 - x35).toNat) (fun x35 h36 => (66, [(0, .ref 63), (1, vi x30), (2, vi x35)], [], hp_w h36 cr, b, c)) ?_ 0 h31 ⟨g31, F32, u31, FR.refl, (show (0 ≤ 0 ∧ 0 ≤ 12) ∧ (0 = 0 ∨ 0 ≤ (h31 63 4)) by omega), X31_0⟩
      intro x35 h36 ⟨g36, F37, F38, u36, f36, X36_0⟩ I36
      have e39 : h36 63 4 = e10 := ((u36 63 4 rfl).trans ((u31 63 4 rfl).trans ((u17 63 4 rfl).trans ((u14 63 4 rfl).trans w12))))
      refine wi_iload_n (i := 2) (e := x35) (nx := 67) (r1 := 0) (r2 := 0) (r3 := 0) rfl rfl ?_
      refine wi_aload_n (i := 0) (x := 63) (nx := 68) (r1 := 0) (r2 := 0) (r3 := 0) rfl rfl ?_
      refine wr_gi0 (k0 := 63) (x := e10) (nx := 71) (r1 := 7) (r2 := 4) (r3 := 0) rfl rfl (by decide) rfl ⟨rfl, rfl⟩ rfl ((u36 63 4 rfl).trans ((u31 63 4 rfl).trans ((u17 63 4 rfl).trans ((u14 63 4 rfl).trans w12)))) ?_
      refine wi_icmp (cd := .ge) (nx := 74) (r1 := 86) (r2 := 0) (r3 := 0) rfl (by omega) (by omega) (fun (q40 : e10 ≤ x35) => ?_) (fun (q40 : ¬ (e10 ≤ x35)) => ?_)
      ·
        refine wr_iinc (i := 1) (n := 1) (v := x30) (fun e41 => [(1, vi e41), (0, .ref 63), (2, vi x35)]) (nx := 89) (r1 := 0) (r2 := 0) (r3 := 0) rfl rfl (fun _ => rfl) (fun e41 (fe41 : e41 = x30 + 1) => ?_)
        refine wi_goto (nx := 92) (r1 := 56) (r2 := 0) (r3 := 0) rfl ?_
        refine wp.lo (lo := [(0, .ref 63), (1, vi e41)]) ⟨rfl, rfl, trivial⟩ rfl ?_
        exact I31 e41 h36 ⟨g36, F37, F38, (show (0 ≤ e41 ∧ e41 ≤ 12) ∧ (e41 = 0 ∨ e41 ≤ (h36 63 4)) by omega), (by rw [show (e41).toNat = (x30).toNat + 1 by omega]; exact XJd.next X36_0 (by unfold xK; omega) (by omega))⟩ (show ((12 : Int) + 1 - e41).toNat < ((12 : Int) + 1 - x30).toNat by omega)
      ·
        refine wi_aload_n (i := 0) (x := 63) (nx := 75) (r1 := 0) (r2 := 0) (r3 := 0) rfl rfl ?_
        refine wi_iload_n (i := 1) (e := x30) (nx := 76) (r1 := 0) (r2 := 0) (r3 := 0) rfl rfl ?_
        refine wi_iload_n (i := 2) (e := x35) (nx := 77) (r1 := 0) (r2 := 0) (r3 := 0) rfl rfl ?_
        refine wr_V (k0 := 63) (rest := []) (as := [.ref 63, vi x30, vi x35]) (nx := 80) (r1 := 173) (r2 := 2) (r3 := 7) rfl rfl rfl (of_decide_eq_true rfl) rfl rfl (by decide) rfl rfl (of_decide_eq_true rfl) (of_decide_eq_true rfl) ?_
        have e42 : h36 18 7 = h 18 7 := ((u36 18 7 rfl).trans ((u31 18 7 rfl).trans ((u17 18 7 rfl).trans ((u14 18 7 rfl).trans ((u12 18 7 rfl).trans (u8 18 7 rfl))))))
        have q43 : h36 19 = h17 19 := funext (fun i => ((u36 19 i (fo_no_ok (by decide) i)).trans (u31 19 i (fo_no_ok (by decide) i))))
        have q44 : h36 8 = h17 8 := funext (fun i => ((u36 8 i (fo_no_ok (by decide) i)).trans (u31 8 i (fo_no_ok (by decide) i))))
        have ce45c : xC h36 = xC h17 := xC_eq q43 (((u36 18 7 rfl).trans ((u31 18 7 rfl).trans ((u17 18 7 rfl).trans ((u14 18 7 rfl).trans ((u12 18 7 rfl).trans (u8 18 7 rfl)))))).trans (((u17 18 7 rfl).trans ((u14 18 7 rfl).trans ((u12 18 7 rfl).trans (u8 18 7 rfl))))).symm)
        have ce45b : xB h36 = xB h17 := xB_eq q44 (((u36 18 7 rfl).trans ((u31 18 7 rfl).trans ((u17 18 7 rfl).trans ((u14 18 7 rfl).trans ((u12 18 7 rfl).trans (u8 18 7 rfl)))))).trans (((u17 18 7 rfl).trans ((u14 18 7 rfl).trans ((u12 18 7 rfl).trans (u8 18 7 rfl))))).symm)
        have ce45k : xK h36 = xK h17 := xK_eq (((u36 63 4 rfl).trans ((u31 63 4 rfl).trans ((u17 63 4 rfl).trans ((u14 63 4 rfl).trans w12)))).trans (((u17 63 4 rfl).trans ((u14 63 4 rfl).trans w12))).symm)
        have q47 : h36 19 = h17 19 := funext (fun i => ((u36 19 i (fo_no_ok (by decide) i)).trans (u31 19 i (fo_no_ok (by decide) i))))
        have q48 : h36 8 = h17 8 := funext (fun i => ((u36 8 i (fo_no_ok (by decide) i)).trans (u31 8 i (fo_no_ok (by decide) i))))
        have ce49c : xC h36 = xC h17 := xC_eq q47 (((u36 18 7 rfl).trans ((u31 18 7 rfl).trans ((u17 18 7 rfl).trans ((u14 18 7 rfl).trans ((u12 18 7 rfl).trans (u8 18 7 rfl)))))).trans (((u17 18 7 rfl).trans ((u14 18 7 rfl).trans ((u12 18 7 rfl).trans (u8 18 7 rfl))))).symm)
        have ce49b : xB h36 = xB h17 := xB_eq q48 (((u36 18 7 rfl).trans ((u31 18 7 rfl).trans ((u17 18 7 rfl).trans ((u14 18 7 rfl).trans ((u12 18 7 rfl).trans (u8 18 7 rfl)))))).trans (((u17 18 7 rfl).trans ((u14 18 7 rfl).trans ((u12 18 7 rfl).trans (u8 18 7 rfl))))).symm)
        have ce49k : xK h36 = xK h17 := xK_eq (((u36 63 4 rfl).trans ((u31 63 4 rfl).trans ((u17 63 4 rfl).trans ((u14 63 4 rfl).trans w12)))).trans (((u17 63 4 rfl).trans ((u14 63 4 rfl).trans w12))).symm)
        have cb46 : (∀ j, j < xK h36 → 0 ≤ xC h36 j ∧ xC h36 j ≤ 4) := (by rw [ce49k, ce49c]; exact cb27)
        refine ct_173_63 hcr  g36 x30 x35 (by omega) (by omega) (show (h36 63 4) ≤ 12 by omega) (show (h36 18 7) + (h36 63 4) ≤ 12 by omega) (show x30 < (h36 63 4) by omega) (show x35 < (h36 63 4) by omega) (by rw [ce45c, ce45b, ce45k]; exact X36_0) cb46 (fun h41 g41 u41 y41_0 => ?_)
        have F50 := F37.then (by decide +kernel) u41
        have F51 := F38.then (by decide +kernel) u41
        have F52 := u36.then (by decide +kernel) u41
        refine wk_n ?_
        refine wr_iinc (i := 2) (n := 1) (v := x35) (fun e53 => [(2, vi e53), (0, .ref 63), (1, vi x30)]) (nx := 83) (r1 := 0) (r2 := 0) (r3 := 0) rfl rfl (fun _ => rfl) (fun e53 (fe53 : e53 = x35 + 1) => ?_)
        refine wi_goto (nx := 86) (r1 := 66) (r2 := 0) (r3 := 0) rfl ?_
        have e54 : h41 63 4 = e10 := ((u41 63 4 rfl).trans ((u36 63 4 rfl).trans ((u31 63 4 rfl).trans ((u17 63 4 rfl).trans ((u14 63 4 rfl).trans w12)))))
        refine wp.lo (lo := [(0, .ref 63), (1, vi x30), (2, vi e53)]) ⟨rfl, rfl, rfl, trivial⟩ rfl ?_
        have q55 : h36 19 = h17 19 := funext (fun i => ((u36 19 i (fo_no_ok (by decide) i)).trans (u31 19 i (fo_no_ok (by decide) i))))
        have q56 : h36 8 = h17 8 := funext (fun i => ((u36 8 i (fo_no_ok (by decide) i)).trans (u31 8 i (fo_no_ok (by decide) i))))
        have ce57c : xC h36 = xC h17 := xC_eq q55 (((u36 18 7 rfl).trans ((u31 18 7 rfl).trans ((u17 18 7 rfl).trans ((u14 18 7 rfl).trans ((u12 18 7 rfl).trans (u8 18 7 rfl)))))).trans (((u17 18 7 rfl).trans ((u14 18 7 rfl).trans ((u12 18 7 rfl).trans (u8 18 7 rfl))))).symm)
        have ce57b : xB h36 = xB h17 := xB_eq q56 (((u36 18 7 rfl).trans ((u31 18 7 rfl).trans ((u17 18 7 rfl).trans ((u14 18 7 rfl).trans ((u12 18 7 rfl).trans (u8 18 7 rfl)))))).trans (((u17 18 7 rfl).trans ((u14 18 7 rfl).trans ((u12 18 7 rfl).trans (u8 18 7 rfl))))).symm)
        have ce57k : xK h36 = xK h17 := xK_eq (((u36 63 4 rfl).trans ((u31 63 4 rfl).trans ((u17 63 4 rfl).trans ((u14 63 4 rfl).trans w12)))).trans (((u17 63 4 rfl).trans ((u14 63 4 rfl).trans w12))).symm)
        exact I36 e53 h41 ⟨g41, F50, F51, F52, (show (0 ≤ e53 ∧ e53 ≤ 12) ∧ (e53 = 0 ∨ e53 ≤ (h41 63 4)) by omega), (by have x0 := y41_0; rw [ce57c, ce57b, ce57k] at x0; rw [show (e53).toNat = (x35).toNat + 1 by omega]; exact x0)⟩ (show ((12 : Int) + 1 - e53).toNat < ((12 : Int) + 1 - x35).toNat by omega)
  ·
    refine wi_return (nx := 15) (r1 := 0) (r2 := 0) (r3 := 0) rfl rfl ?_
    exact k h g F0 (show (h 63 5) = (h 18 16) by omega) (show ((h 18 7) ≤ (h 3 2) ∧ (h 66 1) = (h 3 2) - (h 18 7)) ∨ ((h 3 2) < (h 18 7) ∧ (h 66 1) = 0) by omega) (xq0.xbe (by omega))
-- method 180: Exchange.carryOut()I
set_option maxRecDepth 100000 in
set_option maxHeartbeats 100000000 in
theorem ct_180_63 {L : Nat} {xs : Nat → Int32} {d b c : Nat} {h : hp} {cr : Nat → Nat → Option Nat} {Q : hp_Q} (hcr : CR cr)  (g : GI h)   (pp0 : h 18 16 ≤ 2000000000) (pp1 : h 63 5 = h 18 16) (pp2 : (h 18 7 ≤ h 3 2 ∧ h 66 1 = h 3 2 - h 18 7) ∨ (h 3 2 < h 18 7 ∧ h 66 1 = 0)) (xq0 : MCL h) (xq1 : XBe h) (k : ∀ (h2 : hp) (z0 : Int) , GI h2 → FR [(19, 19, none), (18, 18, some (16, 16))] h h2 → (0 ≤ z0 ∧ z0 ≤ 12) → (h 18 16 ≤ h2 18 16 ∧ h2 18 16 ≤ h 18 16 + 12) → (MCL h2) → Q (.inl (some (vi z0))) (hp_w h2 cr) b c) : wp (md_xa (L, xs)) (d + 1) 180 (0, [(0, .ref 63)], [], hp_w h cr, b, c) Q := by
  have F0 : FR [(19, 19, none), (18, 18, some (16, 16))] h h := FR.refl
  have b1 := gi_b (lo := -2147483648) (hi := 2147483647) g 18 16 rfl
  have b2 := gi_b (lo := -2147483648) (hi := 2147483647) g 63 5 rfl
  have b3 := gi_b (lo := 0) (hi := 12) g 18 7 rfl
  have b4 := gi_b (lo := 0) (hi := 12) g 3 2 rfl
  have b5 := gi_b (lo := 0) (hi := 12) g 66 1 rfl
  refine wi_iconst (n := 0) (nx := 1) (r1 := 0) (r2 := 0) (r3 := 0) rfl ?_
  refine wi_istore_n (i := 1) (e := 0) (lo2 := [(1, vi 0), (0, .ref 63)]) (nx := 2) (r1 := 0) (r2 := 0) (r3 := 0) rfl rfl ?_
  refine wi_iconst (n := 0) (nx := 3) (r1 := 0) (r2 := 0) (r3 := 0) rfl ?_
  refine wi_istore_n (i := 2) (e := 0) (lo2 := [(2, vi 0), (1, vi 0), (0, .ref 63)]) (nx := 4) (r1 := 0) (r2 := 0) (r3 := 0) rfl rfl ?_
  refine wp.lo (lo := [(0, .ref 63), (1, vi 0), (2, vi 0)]) ⟨rfl, rfl, rfl, trivial⟩ rfl ?_
  refine wl_2 (fun x6 x7 h8 => GI h8 ∧ FR [(19, 19, none), (18, 18, some (16, 16))] h h8 ∧ FR [(19, 19, none), (18, 18, some (16, 16))] h h8 ∧ ((0 ≤ x6 ∧ x6 ≤ 12) ∧ (0 ≤ x7 ∧ x7 ≤ 12) ∧ (x7 ≤ (h8 66 1)) ∧ ((h8 66 1) = (h 66 1)) ∧ (x6 ≤ x7) ∧ ((h8 18 16) = (h 18 16) + x6) ∧ ((h8 18 7) = (h 18 7)) ∧ ((h8 3 2) = (h 3 2))) ∧ (∀ p : Nat, (p : Int) < x7 → h8 19 ((h 18 7).toNat + p) = h 67 p) ∧ (∀ i : Nat, ((i : Int) < h 18 7 ∨ h 18 7 + x7 ≤ (i : Int)) → h8 19 i = h 19 i) ∧ (x6 = 0 → ∀ i : Nat, h8 19 i = h 19 i)) (fun x6 x7 h8 => ((12 : Int) + 1 - x7).toNat) (fun x6 x7 h8 => (4, [(0, .ref 63), (1, vi x6), (2, vi x7)], [], hp_w h8 cr, b, c)) ?_ 0 0 h ⟨g, F0, FR.refl, (show (0 ≤ 0 ∧ 0 ≤ 12) ∧ (0 ≤ 0 ∧ 0 ≤ 12) ∧ (0 ≤ (h 66 1)) ∧ ((h 66 1) = (h 66 1)) ∧ (0 ≤ 0) ∧ ((h 18 16) = (h 18 16) + 0) ∧ ((h 18 7) = (h 18 7)) ∧ ((h 3 2) = (h 3 2)) by omega), (fun p e => absurd e (by omega)), (fun i e => rfl), (fun e i => rfl)⟩
  intro x6 x7 h8 ⟨g8, F9, u8, f8, X8_0, X8_1, X8_2⟩ I8
  have e10 : h8 66 1 = h 66 1 := (u8 66 1 rfl)
  have b11 := gi_b (lo := -2147483648) (hi := 2147483647) g8 18 16 rfl
  have e12 : h8 18 7 = h 18 7 := (u8 18 7 rfl)
  have e13 : h8 3 2 = h 3 2 := (u8 3 2 rfl)
  refine wi_iload_n (i := 2) (e := x7) (nx := 5) (r1 := 0) (r2 := 0) (r3 := 0) rfl rfl ?_
  refine wi_aload_n (i := 0) (x := 63) (nx := 6) (r1 := 0) (r2 := 0) (r3 := 0) rfl rfl ?_
  refine wr_gr (k0 := 63) (x := 66) (nx := 9) (r1 := 7) (r2 := 6) (r3 := 0) rfl rfl (by decide) rfl ⟨rfl, rfl⟩ rfl ?_
  refine wr_gi0 (k0 := 66) (x := h 66 1) (nx := 12) (r1 := 5) (r2 := 1) (r3 := 0) rfl rfl (by decide) rfl ⟨rfl, rfl⟩ rfl (u8 66 1 rfl) ?_
  refine wi_icmp (cd := .ge) (nx := 15) (r1 := 51) (r2 := 0) (r3 := 0) rfl (by omega) (by omega) (fun (q14 : (h 66 1) ≤ x7) => ?_) (fun (q14 : ¬ ((h 66 1) ≤ x7)) => ?_)
  ·
    refine wi_iload_n (i := 1) (e := x6) (nx := 52) (r1 := 0) (r2 := 0) (r3 := 0) rfl rfl ?_
    refine wi_ireturn (nx := 53) (r1 := 0) (r2 := 0) (r3 := 0) rfl rfl ?_
    have q15 : h8 19 = h8 19 := funext (fun i => rfl)
    have q16 : h8 8 = h 8 := funext (fun i => (u8 8 i (fo_no_ok (by decide) i)))
    have q17 : h8 7 = h 7 := funext (fun i => (u8 7 i (fo_no_ok (by decide) i)))
    have q18 : h8 67 = h 67 := funext (fun i => (u8 67 i (fo_no_ok (by decide) i)))
    have e19 : h8 63 5 = h 63 5 := (u8 63 5 rfl)
    exact k h8 x6 g8 F9 (by omega) (show (h 18 16) ≤ (h8 18 16) ∧ (h8 18 16) ≤ (h 18 16) + 12 by omega) (MCL.swap xq0 xq1 q16 q17 q18 (by omega) (by omega) (by omega) (by omega) (fun p e => by rw [q15]; exact X8_0 p (by omega)) (fun i e => by rw [q15]; exact X8_1 i (by omega)) (fun e i => by rw [q15]; exact X8_2 (by omega) i))
  ·
    refine wi_aload_n (i := 0) (x := 63) (nx := 16) (r1 := 0) (r2 := 0) (r3 := 0) rfl rfl ?_
    refine wr_gr (k0 := 63) (x := 18) (nx := 19) (r1 := 7) (r2 := 1) (r3 := 0) rfl rfl (by decide) rfl ⟨rfl, rfl⟩ rfl ?_
    refine wi_aload_n (i := 0) (x := 63) (nx := 20) (r1 := 0) (r2 := 0) (r3 := 0) rfl rfl ?_
    refine wr_gr (k0 := 63) (x := 18) (nx := 23) (r1 := 7) (r2 := 1) (r3 := 0) rfl rfl (by decide) rfl ⟨rfl, rfl⟩ rfl ?_
    refine wr_gi0 (k0 := 18) (x := h 18 7) (nx := 26) (r1 := 4) (r2 := 7) (r3 := 0) rfl rfl (by decide) rfl ⟨rfl, rfl⟩ rfl (u8 18 7 rfl) ?_
    refine wi_iload_n (i := 2) (e := x7) (nx := 27) (r1 := 0) (r2 := 0) (r3 := 0) rfl rfl ?_
    refine wr_add (nx := 28) (r1 := 0) (r2 := 0) (r3 := 0) rfl (fun e15 (fe15 : e15 = (h 18 7) + x7) => ?_)
    refine wi_aload_n (i := 0) (x := 63) (nx := 29) (r1 := 0) (r2 := 0) (r3 := 0) rfl rfl ?_
    refine wr_gr (k0 := 63) (x := 66) (nx := 32) (r1 := 7) (r2 := 6) (r3 := 0) rfl rfl (by decide) rfl ⟨rfl, rfl⟩ rfl ?_
    refine wi_iload_n (i := 2) (e := x7) (nx := 33) (r1 := 0) (r2 := 0) (r3 := 0) rfl rfl ?_
    refine wr_V (k0 := 66) (rest := [vi e15, .ref 18]) (as := [.ref 66, vi x7]) (nx := 36) (r1 := 154) (r2 := 1) (r3 := 5) rfl rfl rfl (of_decide_eq_true rfl) rfl rfl (by decide) rfl rfl (of_decide_eq_true rfl) (of_decide_eq_true rfl) ?_
    refine wi_iload_n (i := 1) (e := x7) (nx := 1) (r1 := 0) (r2 := 0) (r3 := 0) rfl rfl ?_
    refine wi_if (cd := .lt) (nx := 4) (r1 := 12) (r2 := 0) (r3 := 0) rfl (by omega) (fun (q16 : x7 < 0) => by exfalso; omega) (fun (q16 : ¬ (x7 < 0)) => ?_)
    refine wi_iload_n (i := 1) (e := x7) (nx := 5) (r1 := 0) (r2 := 0) (r3 := 0) rfl rfl ?_
    refine wi_aload_n (i := 0) (x := 66) (nx := 6) (r1 := 0) (r2 := 0) (r3 := 0) rfl rfl ?_
    refine wr_gi0 (k0 := 66) (x := h 66 1) (nx := 9) (r1 := 5) (r2 := 1) (r3 := 0) rfl rfl (by decide) rfl ⟨rfl, rfl⟩ rfl (u8 66 1 rfl) ?_
    refine wi_icmp (cd := .lt) (nx := 12) (r1 := 16) (r2 := 0) (r3 := 0) rfl (by omega) (by omega) (fun (q17 : x7 < (h 66 1)) => ?_) (fun (q17 : ¬ (x7 < (h 66 1))) => by exfalso; omega)
    refine wi_aload_n (i := 0) (x := 66) (nx := 17) (r1 := 0) (r2 := 0) (r3 := 0) rfl rfl ?_
    refine wr_gr (k0 := 66) (x := 67) (nx := 20) (r1 := 5) (r2 := 0) (r3 := 0) rfl rfl (by decide) rfl ⟨rfl, rfl⟩ rfl ?_
    refine wi_iload_n (i := 1) (e := x7) (nx := 21) (r1 := 0) (r2 := 0) (r3 := 0) rfl rfl ?_
    obtain ⟨i18, ei18⟩ : ∃ q : Nat, x7 = (q : Int) := ⟨(x7).toNat, by omega⟩
    have b19 := gi_b (lo := -2147483648) (hi := 2147483647) g 67 i18 rfl
    refine wr_ia (k0 := 67) (a := x7) (f := i18) (x := h 67 i18) (nx := 22) (r1 := 0) (r2 := 0) (r3 := 0) rfl (by decide) rfl (by omega) (by omega) (by decide) (u8 67 i18 (fn_a (by omega) (fn_a (by omega) fn_0))) ?_
    refine wi_ireturn (nx := 23) (r1 := 0) (r2 := 0) (r3 := 0) rfl rfl ?_
    refine wk_i ?_
    refine wr_V (k0 := 18) (rest := []) (as := [.ref 18, vi e15, vi (h 67 i18)]) (nx := 39) (r1 := 146) (r2 := 2) (r3 := 4) rfl rfl rfl (of_decide_eq_true rfl) rfl rfl (by decide) rfl rfl (of_decide_eq_true rfl) (of_decide_eq_true rfl) ?_
    refine wi_iload_n (i := 1) (e := e15) (nx := 1) (r1 := 0) (r2 := 0) (r3 := 0) rfl rfl ?_
    refine wi_if (cd := .lt) (nx := 4) (r1 := 20) (r2 := 0) (r3 := 0) rfl (by omega) (fun (q20 : e15 < 0) => by exfalso; omega) (fun (q20 : ¬ (e15 < 0)) => ?_)
    refine wi_iload_n (i := 1) (e := e15) (nx := 5) (r1 := 0) (r2 := 0) (r3 := 0) rfl rfl ?_
    refine wi_bipush (n := 12) (nx := 7) (r1 := 0) (r2 := 0) (r3 := 0) rfl (by decide) ?_
    refine wi_icmp (cd := .ge) (nx := 10) (r1 := 20) (r2 := 0) (r3 := 0) rfl (by omega) (by omega) (fun (q21 : 12 ≤ e15) => by exfalso; omega) (fun (q21 : ¬ (12 ≤ e15)) => ?_)
    refine wi_aload_n (i := 0) (x := 18) (nx := 11) (r1 := 0) (r2 := 0) (r3 := 0) rfl rfl ?_
    refine wr_gr (k0 := 18) (x := 19) (nx := 14) (r1 := 4) (r2 := 1) (r3 := 0) rfl rfl (by decide) rfl ⟨rfl, rfl⟩ rfl ?_
    refine wi_iload_n (i := 1) (e := e15) (nx := 15) (r1 := 0) (r2 := 0) (r3 := 0) rfl rfl ?_
    obtain ⟨i22, ei22⟩ : ∃ q : Nat, e15 = (q : Int) := ⟨(e15).toNat, by omega⟩
    have b23 := gi_b (lo := -2147483648) (hi := 2147483647) g8 19 i22 rfl
    refine wr_ia (k0 := 19) (a := e15) (f := i22) (x := h8 19 i22) (nx := 16) (r1 := 0) (r2 := 0) (r3 := 0) rfl (by decide) rfl (by omega) (by omega) (by decide) rfl ?_
    refine wi_iload_n (i := 2) (e := h 67 i18) (nx := 17) (r1 := 0) (r2 := 0) (r3 := 0) rfl rfl ?_
    refine wi_icmp (cd := .ne) (nx := 20) (r1 := 22) (r2 := 0) (r3 := 0) rfl (by omega) (by omega) (fun (q24 : (h8 19 i22) ≠ (h 67 i18)) => ?_) (fun (q24 : ¬ ((h8 19 i22) ≠ (h 67 i18))) => ?_)
    ·
      refine wi_aload_n (i := 0) (x := 18) (nx := 23) (r1 := 0) (r2 := 0) (r3 := 0) rfl rfl ?_
      refine wr_gr (k0 := 18) (x := 19) (nx := 26) (r1 := 4) (r2 := 1) (r3 := 0) rfl rfl (by decide) rfl ⟨rfl, rfl⟩ rfl ?_
      refine wi_iload_n (i := 1) (e := e15) (nx := 27) (r1 := 0) (r2 := 0) (r3 := 0) rfl rfl ?_
      refine wi_iload_n (i := 2) (e := h 67 i18) (nx := 28) (r1 := 0) (r2 := 0) (r3 := 0) rfl rfl ?_
      refine wr_is (k0 := 19) (a := e15) (f := i22) (x := h 67 i18) (bl := -2147483648) (bh := 2147483647) (nx := 29) (r1 := 0) (r2 := 0) (r3 := 0) rfl (by decide) rfl (by omega) (by omega) (by decide) g8 rfl (by omega) (fun h25 g25 w25 u25 => ?_)
      have F26 := F9.then rfl (FR.rngp (lo := 19) (hi := 19) u25 (by decide))
      have F27 := u8.then rfl (FR.rngp (lo := 19) (hi := 19) u25 (by decide))
      refine wi_aload_n (i := 0) (x := 18) (nx := 30) (r1 := 0) (r2 := 0) (r3 := 0) rfl rfl ?_
      refine wi_dup (nx := 31) (r1 := 0) (r2 := 0) (r3 := 0) rfl rfl ?_
      refine wr_gi0 (k0 := 18) (x := h8 18 16) (nx := 34) (r1 := 4) (r2 := 16) (r3 := 0) rfl rfl (by decide) rfl ⟨rfl, rfl⟩ rfl (u25 18 16 (fn_a (by omega) fn_0)) ?_
      refine wi_iconst (n := 1) (nx := 35) (r1 := 0) (r2 := 0) (r3 := 0) rfl ?_
      refine wr_add (nx := 36) (r1 := 0) (r2 := 0) (r3 := 0) rfl (fun e28 (fe28 : e28 = (h8 18 16) + 1) => ?_)
      refine wr_pf0 (k0 := 18) (x := e28) (bl := -2147483648) (bh := 2147483647) (nx := 39) (r1 := 4) (r2 := 16) (r3 := 0) rfl (by decide) rfl ⟨rfl, rfl⟩ rfl rfl g25 rfl (by omega) (fun h29 g29 w29 u29 => ?_)
      have F30 := F26.then rfl u29
      have F31 := F27.then rfl u29
      refine wi_iconst (n := 1) (nx := 40) (r1 := 0) (r2 := 0) (r3 := 0) rfl ?_
      refine wi_zreturn (nx := 41) (r1 := 0) (r2 := 0) (r3 := 0) rfl rfl (by omega) ?_
      refine wk_i ?_
      refine wi_if (cd := .eq) (nx := 42) (r1 := 45) (r2 := 0) (r3 := 0) rfl (by omega) (fun (q32 : 1 = 0) => by exfalso; omega) (fun (q32 : ¬ (1 = 0)) => ?_)
      refine wr_iinc (i := 1) (n := 1) (v := x6) (fun e33 => [(1, vi e33), (0, .ref 63), (2, vi x7)]) (nx := 45) (r1 := 0) (r2 := 0) (r3 := 0) rfl rfl (fun _ => rfl) (fun e33 (fe33 : e33 = x6 + 1) => ?_)
      refine wr_iinc (i := 2) (n := 1) (v := x7) (fun e34 => [(2, vi e34), (1, vi e33), (0, .ref 63)]) (nx := 48) (r1 := 0) (r2 := 0) (r3 := 0) rfl rfl (fun _ => rfl) (fun e34 (fe34 : e34 = x7 + 1) => ?_)
      refine wi_goto (nx := 51) (r1 := 4) (r2 := 0) (r3 := 0) rfl ?_
      have e35 : h29 66 1 = h 66 1 := ((u29 66 1 rfl).trans ((u25 66 1 (fn_a (by omega) fn_0)).trans (u8 66 1 rfl)))
      have e36 : h29 18 16 = e28 := w29
      have e37 : h29 18 7 = h 18 7 := ((u29 18 7 rfl).trans ((u25 18 7 (fn_a (by omega) fn_0)).trans (u8 18 7 rfl)))
      have e38 : h29 3 2 = h 3 2 := ((u29 3 2 rfl).trans ((u25 3 2 (fn_a (by omega) fn_0)).trans (u8 3 2 rfl)))
      refine wp.lo (lo := [(0, .ref 63), (1, vi e33), (2, vi e34)]) ⟨rfl, rfl, rfl, trivial⟩ rfl ?_
      have q39 : h29 19 = h25 19 := funext (fun i => (u29 19 i rfl))
      have q40 : h8 19 = h8 19 := funext (fun i => rfl)
      have q41 : h29 19 = h25 19 := funext (fun i => (u29 19 i rfl))
      have q42 : h8 19 = h8 19 := funext (fun i => rfl)
      have q43 : h29 19 = h25 19 := funext (fun i => (u29 19 i rfl))
      have q44 : h8 19 = h8 19 := funext (fun i => rfl)
      exact I8 e33 e34 h29 ⟨g29, F30, F31, (show (0 ≤ e33 ∧ e33 ≤ 12) ∧ (0 ≤ e34 ∧ e34 ≤ 12) ∧ (e34 ≤ (h29 66 1)) ∧ ((h29 66 1) = (h 66 1)) ∧ (e33 ≤ e34) ∧ ((h29 18 16) = (h 18 16) + e33) ∧ ((h29 18 7) = (h 18 7)) ∧ ((h29 3 2) = (h 3 2)) by omega), (fun p e => by
          rw [q39]
          by_cases e1 : (p : Int) = x7
          · rw [show (h 18 7).toNat + p = i22 by omega, w25, show p = i18 by omega]
          · rw [u25 19 _ (fn_i (by omega) fn_0), q40]; exact X8_0 p (by omega)), (fun i e => by rw [q41, u25 19 i (fn_i (by omega) fn_0), q42]; exact X8_1 i (by omega)), (fun e => absurd e (by omega))⟩ (show ((12 : Int) + 1 - e34).toNat < ((12 : Int) + 1 - x7).toNat by omega)
    ·
      refine wi_iconst (n := 0) (nx := 21) (r1 := 0) (r2 := 0) (r3 := 0) rfl ?_
      refine wi_zreturn (nx := 22) (r1 := 0) (r2 := 0) (r3 := 0) rfl rfl (by omega) ?_
      refine wk_i ?_
      refine wi_if (cd := .eq) (nx := 42) (r1 := 45) (r2 := 0) (r3 := 0) rfl (by omega) (fun (q25 : 0 = 0) => ?_) (fun (q25 : ¬ (0 = 0)) => by exfalso; omega)
      refine wr_iinc (i := 2) (n := 1) (v := x7) (fun e26 => [(2, vi e26), (0, .ref 63), (1, vi x6)]) (nx := 48) (r1 := 0) (r2 := 0) (r3 := 0) rfl rfl (fun _ => rfl) (fun e26 (fe26 : e26 = x7 + 1) => ?_)
      refine wi_goto (nx := 51) (r1 := 4) (r2 := 0) (r3 := 0) rfl ?_
      refine wp.lo (lo := [(0, .ref 63), (1, vi x6), (2, vi e26)]) ⟨rfl, rfl, rfl, trivial⟩ rfl ?_
      exact I8 x6 e26 h8 ⟨g8, F9, u8, (show (0 ≤ x6 ∧ x6 ≤ 12) ∧ (0 ≤ e26 ∧ e26 ≤ 12) ∧ (e26 ≤ (h8 66 1)) ∧ ((h8 66 1) = (h 66 1)) ∧ (x6 ≤ e26) ∧ ((h8 18 16) = (h 18 16) + x6) ∧ ((h8 18 7) = (h 18 7)) ∧ ((h8 3 2) = (h 3 2)) by omega), (fun p e => by
          by_cases e1 : (p : Int) = x7
          · rw [show (h 18 7).toNat + p = i22 by omega, show p = i18 by omega]; omega
          · exact X8_0 p (by omega)), (fun i e => X8_1 i (by omega)), X8_2⟩ (show ((12 : Int) + 1 - e26).toNat < ((12 : Int) + 1 - x7).toNat by omega)
-- method 188: Script.carryOut(LPaintBank$Word;I)Z
set_option maxRecDepth 100000 in
set_option maxHeartbeats 100000000 in
theorem ct_188_68 {L : Nat} {xs : Nat → Int32} {d b c : Nat} {h : hp} {cr : Nat → Nat → Option Nat} {Q : hp_Q} (hcr : CR cr)  (g : GI h) (a0 : Int) (a1 : Int) (q0_ : 1 ≤ a0 ∧ a0 ≤ 21) (q1_ : -2147483648 ≤ a1 ∧ a1 ≤ 2147483647) (pp0 : h 63 5 ≤ h 18 16) (pp1 : h 63 5 < h 18 16 ∨ (h 18 7 ≤ h 3 2 ∧ h 66 1 = h 3 2 - h 18 7) ∨ (h 3 2 < h 18 7 ∧ h 66 1 = 0)) (pp2 : 0 ≤ h 3 9) (pp3 : h 18 16 ≤ 1999900000) (pp4 : (a0 ≠ 16 ∧ a0 ≠ 17) ∨ (0 ≤ a1 ∧ a1 ≤ 99)) (xq0 : MCL h) (k : ∀ (h2 : hp) (z0 : Int) , GI h2 → FR [(19, 19, none), (20, 20, none), (22, 23, none), (24, 25, none), (26, 27, none), (28, 28, none), (29, 36, none), (57, 57, none), (58, 58, none), (59, 59, none), (60, 60, none), (61, 62, none), (64, 64, none), (65, 65, none), (67, 67, none), (18, 18, some (7, 13)), (18, 18, some (15, 16)), (56, 56, some (6, 7)), (56, 56, some (9, 12)), (63, 63, some (4, 5)), (63, 63, some (7, 7)), (66, 66, some (1, 1))] h h2 → (0 ≤ z0 ∧ z0 ≤ 1) → (z0 = 1 → 13 ≤ a0 ∧ a0 ≤ 19) → (h2 63 5 ≤ h2 18 16) → (h2 63 5 < h2 18 16 ∨ (h2 18 7 ≤ h2 3 2 ∧ h2 66 1 = h2 3 2 - h2 18 7) ∨ (h2 3 2 < h2 18 7 ∧ h2 66 1 = 0)) → (h 18 16 ≤ h2 18 16 ∧ h2 18 16 ≤ h 18 16 + 420) → (MCL h2) → Q (.inl (some (vi z0))) (hp_w h2 cr) b c) : wp (md_xa (L, xs)) (d + 103) 188 (0, [(0, .ref 68), (1, wv a0), (2, vi a1)], [], hp_w h cr, b, c) Q := by
  have F0 : FR [(19, 19, none), (20, 20, none), (22, 23, none), (24, 25, none), (26, 27, none), (28, 28, none), (29, 36, none), (57, 57, none), (58, 58, none), (59, 59, none), (60, 60, none), (61, 62, none), (64, 64, none), (65, 65, none), (67, 67, none), (18, 18, some (7, 13)), (18, 18, some (15, 16)), (56, 56, some (6, 7)), (56, 56, some (9, 12)), (63, 63, some (4, 5)), (63, 63, some (7, 7)), (66, 66, some (1, 1))] h h := FR.refl
  have b1 := gi_b (lo := -2147483648) (hi := 2147483647) g 63 5 rfl
  have b2 := gi_b (lo := -2147483648) (hi := 2147483647) g 18 16 rfl
  have b3 := gi_b (lo := 0) (hi := 12) g 18 7 rfl
  have b4 := gi_b (lo := 0) (hi := 12) g 3 2 rfl
  have b5 := gi_b (lo := 0) (hi := 12) g 66 1 rfl
  have b6 := gi_b (lo := -2147483648) (hi := 2147483647) g 3 9 rfl
  obtain rfl | rfl | rfl | rfl | rfl | rfl | rfl | rfl | rfl | rfl | rfl | rfl | rfl | rfl | rfl | rfl | rfl | rfl | rfl | rfl | rfl : a0 = 1 ∨ a0 = 2 ∨ a0 = 3 ∨ a0 = 4 ∨ a0 = 5 ∨ a0 = 6 ∨ a0 = 7 ∨ a0 = 8 ∨ a0 = 9 ∨ a0 = 10 ∨ a0 = 11 ∨ a0 = 12 ∨ a0 = 13 ∨ a0 = 14 ∨ a0 = 15 ∨ a0 = 16 ∨ a0 = 17 ∨ a0 = 18 ∨ a0 = 19 ∨ a0 = 20 ∨ a0 = 21 := by omega
  ·
    refine wr_gst (v := .ref 1000023) (nx := 3) (r1 := 22) (r2 := 0) (r3 := 0) rfl rfl rfl ?_
    refine wi_aload_n (i := 1) (x := mm_XB + (1 : Int).toNat) (nx := 4) (r1 := 0) (r2 := 0) (r3 := 0) rfl rfl ?_
    refine wr_UX (k0 := mm_XB + (1 : Int).toNat) (m := 0) (rest := [.ref 1000023]) (as := [wv 1]) (nx := 7) (r1 := 358) (r2 := 32) (r3 := 1000) rfl rfl rfl (of_decide_eq_true rfl) rfl rfl (by decide) rfl rfl (of_decide_eq_true rfl) (of_decide_eq_true rfl) ?_
    refine wi_aload_n (i := 0) (x := mm_XB + (1 : Int).toNat) (nx := 1) (r1 := 0) (r2 := 0) (r3 := 0) rfl rfl ?_
    refine wr_gx (k0 := mm_XB + (1 : Int).toNat) (v := vi 0) (nx := 4) (r1 := 4) (r2 := 0) (r3 := 1) rfl (by decide) (by decide) rfl ?_
    refine wi_ireturn (nx := 5) (r1 := 0) (r2 := 0) (r3 := 0) rfl rfl ?_
    refine wk_i ?_
    refine wr_xa (k0 := 1000023) (a := 0) (f := 0) (v := vi 1) .iaload (Or.inl ⟨rfl, rfl⟩) (nx := 8) (r1 := 0) (r2 := 0) (r3 := 0) rfl (by decide) rfl rfl (by decide) (by decide) rfl ?_
    refine wr_tsw (x := 1) 186 (nx := 44) (r1 := 0) (r2 := 0) (r3 := 0) rfl rfl ?_
    refine wi_iconst (n := 0) (nx := 187) (r1 := 0) (r2 := 0) (r3 := 0) rfl ?_
    refine wi_zreturn (nx := 188) (r1 := 0) (r2 := 0) (r3 := 0) rfl rfl (by omega) ?_
    exact k h 0 g F0 (by omega) (fun _ => by omega) (show (h 63 5) ≤ (h 18 16) by omega) (show (h 63 5) < (h 18 16) ∨ ((h 18 7) ≤ (h 3 2) ∧ (h 66 1) = (h 3 2) - (h 18 7)) ∨ ((h 3 2) < (h 18 7) ∧ (h 66 1) = 0) by omega) (show (h 18 16) ≤ (h 18 16) ∧ (h 18 16) ≤ (h 18 16) + 420 by omega) xq0
  ·
    refine wr_gst (v := .ref 1000023) (nx := 3) (r1 := 22) (r2 := 0) (r3 := 0) rfl rfl rfl ?_
    refine wi_aload_n (i := 1) (x := mm_XB + (2 : Int).toNat) (nx := 4) (r1 := 0) (r2 := 0) (r3 := 0) rfl rfl ?_
    refine wr_UX (k0 := mm_XB + (2 : Int).toNat) (m := 0) (rest := [.ref 1000023]) (as := [wv 2]) (nx := 7) (r1 := 358) (r2 := 32) (r3 := 1000) rfl rfl rfl (of_decide_eq_true rfl) rfl rfl (by decide) rfl rfl (of_decide_eq_true rfl) (of_decide_eq_true rfl) ?_
    refine wi_aload_n (i := 0) (x := mm_XB + (2 : Int).toNat) (nx := 1) (r1 := 0) (r2 := 0) (r3 := 0) rfl rfl ?_
    refine wr_gx (k0 := mm_XB + (2 : Int).toNat) (v := vi 1) (nx := 4) (r1 := 4) (r2 := 0) (r3 := 1) rfl (by decide) (by decide) rfl ?_
    refine wi_ireturn (nx := 5) (r1 := 0) (r2 := 0) (r3 := 0) rfl rfl ?_
    refine wk_i ?_
    refine wr_xa (k0 := 1000023) (a := 1) (f := 1) (v := vi 0) .iaload (Or.inl ⟨rfl, rfl⟩) (nx := 8) (r1 := 0) (r2 := 0) (r3 := 0) rfl (by decide) rfl rfl (by decide) (by decide) rfl ?_
    refine wr_tsw (x := 0) 186 (nx := 44) (r1 := 0) (r2 := 0) (r3 := 0) rfl rfl ?_
    refine wi_iconst (n := 0) (nx := 187) (r1 := 0) (r2 := 0) (r3 := 0) rfl ?_
    refine wi_zreturn (nx := 188) (r1 := 0) (r2 := 0) (r3 := 0) rfl rfl (by omega) ?_
    exact k h 0 g F0 (by omega) (fun _ => by omega) (show (h 63 5) ≤ (h 18 16) by omega) (show (h 63 5) < (h 18 16) ∨ ((h 18 7) ≤ (h 3 2) ∧ (h 66 1) = (h 3 2) - (h 18 7)) ∨ ((h 3 2) < (h 18 7) ∧ (h 66 1) = 0) by omega) (show (h 18 16) ≤ (h 18 16) ∧ (h 18 16) ≤ (h 18 16) + 420 by omega) xq0
  ·
    refine wr_gst (v := .ref 1000023) (nx := 3) (r1 := 22) (r2 := 0) (r3 := 0) rfl rfl rfl ?_
    refine wi_aload_n (i := 1) (x := mm_XB + (3 : Int).toNat) (nx := 4) (r1 := 0) (r2 := 0) (r3 := 0) rfl rfl ?_
    refine wr_UX (k0 := mm_XB + (3 : Int).toNat) (m := 0) (rest := [.ref 1000023]) (as := [wv 3]) (nx := 7) (r1 := 358) (r2 := 32) (r3 := 1000) rfl rfl rfl (of_decide_eq_true rfl) rfl rfl (by decide) rfl rfl (of_decide_eq_true rfl) (of_decide_eq_true rfl) ?_
    refine wi_aload_n (i := 0) (x := mm_XB + (3 : Int).toNat) (nx := 1) (r1 := 0) (r2 := 0) (r3 := 0) rfl rfl ?_
    refine wr_gx (k0 := mm_XB + (3 : Int).toNat) (v := vi 2) (nx := 4) (r1 := 4) (r2 := 0) (r3 := 1) rfl (by decide) (by decide) rfl ?_
    refine wi_ireturn (nx := 5) (r1 := 0) (r2 := 0) (r3 := 0) rfl rfl ?_
    refine wk_i ?_
    refine wr_xa (k0 := 1000023) (a := 2) (f := 2) (v := vi 2) .iaload (Or.inl ⟨rfl, rfl⟩) (nx := 8) (r1 := 0) (r2 := 0) (r3 := 0) rfl (by decide) rfl rfl (by decide) (by decide) rfl ?_
    refine wr_tsw (x := 2) 186 (nx := 44) (r1 := 0) (r2 := 0) (r3 := 0) rfl rfl ?_
    refine wi_iconst (n := 0) (nx := 187) (r1 := 0) (r2 := 0) (r3 := 0) rfl ?_
    refine wi_zreturn (nx := 188) (r1 := 0) (r2 := 0) (r3 := 0) rfl rfl (by omega) ?_
    exact k h 0 g F0 (by omega) (fun _ => by omega) (show (h 63 5) ≤ (h 18 16) by omega) (show (h 63 5) < (h 18 16) ∨ ((h 18 7) ≤ (h 3 2) ∧ (h 66 1) = (h 3 2) - (h 18 7)) ∨ ((h 3 2) < (h 18 7) ∧ (h 66 1) = 0) by omega) (show (h 18 16) ≤ (h 18 16) ∧ (h 18 16) ≤ (h 18 16) + 420 by omega) xq0
  ·
    refine wr_gst (v := .ref 1000023) (nx := 3) (r1 := 22) (r2 := 0) (r3 := 0) rfl rfl rfl ?_
    refine wi_aload_n (i := 1) (x := mm_XB + (4 : Int).toNat) (nx := 4) (r1 := 0) (r2 := 0) (r3 := 0) rfl rfl ?_
    refine wr_UX (k0 := mm_XB + (4 : Int).toNat) (m := 0) (rest := [.ref 1000023]) (as := [wv 4]) (nx := 7) (r1 := 358) (r2 := 32) (r3 := 1000) rfl rfl rfl (of_decide_eq_true rfl) rfl rfl (by decide) rfl rfl (of_decide_eq_true rfl) (of_decide_eq_true rfl) ?_
    refine wi_aload_n (i := 0) (x := mm_XB + (4 : Int).toNat) (nx := 1) (r1 := 0) (r2 := 0) (r3 := 0) rfl rfl ?_
    refine wr_gx (k0 := mm_XB + (4 : Int).toNat) (v := vi 3) (nx := 4) (r1 := 4) (r2 := 0) (r3 := 1) rfl (by decide) (by decide) rfl ?_
    refine wi_ireturn (nx := 5) (r1 := 0) (r2 := 0) (r3 := 0) rfl rfl ?_
    refine wk_i ?_
    refine wr_xa (k0 := 1000023) (a := 3) (f := 3) (v := vi 3) .iaload (Or.inl ⟨rfl, rfl⟩) (nx := 8) (r1 := 0) (r2 := 0) (r3 := 0) rfl (by decide) rfl rfl (by decide) (by decide) rfl ?_
    refine wr_tsw (x := 3) 186 (nx := 44) (r1 := 0) (r2 := 0) (r3 := 0) rfl rfl ?_
    refine wi_iconst (n := 0) (nx := 187) (r1 := 0) (r2 := 0) (r3 := 0) rfl ?_
    refine wi_zreturn (nx := 188) (r1 := 0) (r2 := 0) (r3 := 0) rfl rfl (by omega) ?_
    exact k h 0 g F0 (by omega) (fun _ => by omega) (show (h 63 5) ≤ (h 18 16) by omega) (show (h 63 5) < (h 18 16) ∨ ((h 18 7) ≤ (h 3 2) ∧ (h 66 1) = (h 3 2) - (h 18 7)) ∨ ((h 3 2) < (h 18 7) ∧ (h 66 1) = 0) by omega) (show (h 18 16) ≤ (h 18 16) ∧ (h 18 16) ≤ (h 18 16) + 420 by omega) xq0
  ·
    refine wr_gst (v := .ref 1000023) (nx := 3) (r1 := 22) (r2 := 0) (r3 := 0) rfl rfl rfl ?_
    refine wi_aload_n (i := 1) (x := mm_XB + (5 : Int).toNat) (nx := 4) (r1 := 0) (r2 := 0) (r3 := 0) rfl rfl ?_
    refine wr_UX (k0 := mm_XB + (5 : Int).toNat) (m := 0) (rest := [.ref 1000023]) (as := [wv 5]) (nx := 7) (r1 := 358) (r2 := 32) (r3 := 1000) rfl rfl rfl (of_decide_eq_true rfl) rfl rfl (by decide) rfl rfl (of_decide_eq_true rfl) (of_decide_eq_true rfl) ?_
    refine wi_aload_n (i := 0) (x := mm_XB + (5 : Int).toNat) (nx := 1) (r1 := 0) (r2 := 0) (r3 := 0) rfl rfl ?_
    refine wr_gx (k0 := mm_XB + (5 : Int).toNat) (v := vi 4) (nx := 4) (r1 := 4) (r2 := 0) (r3 := 1) rfl (by decide) (by decide) rfl ?_
    refine wi_ireturn (nx := 5) (r1 := 0) (r2 := 0) (r3 := 0) rfl rfl ?_
    refine wk_i ?_
    refine wr_xa (k0 := 1000023) (a := 4) (f := 4) (v := vi 0) .iaload (Or.inl ⟨rfl, rfl⟩) (nx := 8) (r1 := 0) (r2 := 0) (r3 := 0) rfl (by decide) rfl rfl (by decide) (by decide) rfl ?_
    refine wr_tsw (x := 0) 186 (nx := 44) (r1 := 0) (r2 := 0) (r3 := 0) rfl rfl ?_
    refine wi_iconst (n := 0) (nx := 187) (r1 := 0) (r2 := 0) (r3 := 0) rfl ?_
    refine wi_zreturn (nx := 188) (r1 := 0) (r2 := 0) (r3 := 0) rfl rfl (by omega) ?_
    exact k h 0 g F0 (by omega) (fun _ => by omega) (show (h 63 5) ≤ (h 18 16) by omega) (show (h 63 5) < (h 18 16) ∨ ((h 18 7) ≤ (h 3 2) ∧ (h 66 1) = (h 3 2) - (h 18 7)) ∨ ((h 3 2) < (h 18 7) ∧ (h 66 1) = 0) by omega) (show (h 18 16) ≤ (h 18 16) ∧ (h 18 16) ≤ (h 18 16) + 420 by omega) xq0
  ·
    refine wr_gst (v := .ref 1000023) (nx := 3) (r1 := 22) (r2 := 0) (r3 := 0) rfl rfl rfl ?_
    refine wi_aload_n (i := 1) (x := mm_XB + (6 : Int).toNat) (nx := 4) (r1 := 0) (r2 := 0) (r3 := 0) rfl rfl ?_
    refine wr_UX (k0 := mm_XB + (6 : Int).toNat) (m := 0) (rest := [.ref 1000023]) (as := [wv 6]) (nx := 7) (r1 := 358) (r2 := 32) (r3 := 1000) rfl rfl rfl (of_decide_eq_true rfl) rfl rfl (by decide) rfl rfl (of_decide_eq_true rfl) (of_decide_eq_true rfl) ?_
    refine wi_aload_n (i := 0) (x := mm_XB + (6 : Int).toNat) (nx := 1) (r1 := 0) (r2 := 0) (r3 := 0) rfl rfl ?_
    refine wr_gx (k0 := mm_XB + (6 : Int).toNat) (v := vi 5) (nx := 4) (r1 := 4) (r2 := 0) (r3 := 1) rfl (by decide) (by decide) rfl ?_
    refine wi_ireturn (nx := 5) (r1 := 0) (r2 := 0) (r3 := 0) rfl rfl ?_
    refine wk_i ?_
    refine wr_xa (k0 := 1000023) (a := 5) (f := 5) (v := vi 0) .iaload (Or.inl ⟨rfl, rfl⟩) (nx := 8) (r1 := 0) (r2 := 0) (r3 := 0) rfl (by decide) rfl rfl (by decide) (by decide) rfl ?_
    refine wr_tsw (x := 0) 186 (nx := 44) (r1 := 0) (r2 := 0) (r3 := 0) rfl rfl ?_
    refine wi_iconst (n := 0) (nx := 187) (r1 := 0) (r2 := 0) (r3 := 0) rfl ?_
    refine wi_zreturn (nx := 188) (r1 := 0) (r2 := 0) (r3 := 0) rfl rfl (by omega) ?_
    exact k h 0 g F0 (by omega) (fun _ => by omega) (show (h 63 5) ≤ (h 18 16) by omega) (show (h 63 5) < (h 18 16) ∨ ((h 18 7) ≤ (h 3 2) ∧ (h 66 1) = (h 3 2) - (h 18 7)) ∨ ((h 3 2) < (h 18 7) ∧ (h 66 1) = 0) by omega) (show (h 18 16) ≤ (h 18 16) ∧ (h 18 16) ≤ (h 18 16) + 420 by omega) xq0
  ·
    refine wr_gst (v := .ref 1000023) (nx := 3) (r1 := 22) (r2 := 0) (r3 := 0) rfl rfl rfl ?_
    refine wi_aload_n (i := 1) (x := mm_XB + (7 : Int).toNat) (nx := 4) (r1 := 0) (r2 := 0) (r3 := 0) rfl rfl ?_
    refine wr_UX (k0 := mm_XB + (7 : Int).toNat) (m := 0) (rest := [.ref 1000023]) (as := [wv 7]) (nx := 7) (r1 := 358) (r2 := 32) (r3 := 1000) rfl rfl rfl (of_decide_eq_true rfl) rfl rfl (by decide) rfl rfl (of_decide_eq_true rfl) (of_decide_eq_true rfl) ?_
    refine wi_aload_n (i := 0) (x := mm_XB + (7 : Int).toNat) (nx := 1) (r1 := 0) (r2 := 0) (r3 := 0) rfl rfl ?_
    refine wr_gx (k0 := mm_XB + (7 : Int).toNat) (v := vi 6) (nx := 4) (r1 := 4) (r2 := 0) (r3 := 1) rfl (by decide) (by decide) rfl ?_
    refine wi_ireturn (nx := 5) (r1 := 0) (r2 := 0) (r3 := 0) rfl rfl ?_
    refine wk_i ?_
    refine wr_xa (k0 := 1000023) (a := 6) (f := 6) (v := vi 4) .iaload (Or.inl ⟨rfl, rfl⟩) (nx := 8) (r1 := 0) (r2 := 0) (r3 := 0) rfl (by decide) rfl rfl (by decide) (by decide) rfl ?_
    refine wr_tsw (x := 4) 186 (nx := 44) (r1 := 0) (r2 := 0) (r3 := 0) rfl rfl ?_
    refine wi_iconst (n := 0) (nx := 187) (r1 := 0) (r2 := 0) (r3 := 0) rfl ?_
    refine wi_zreturn (nx := 188) (r1 := 0) (r2 := 0) (r3 := 0) rfl rfl (by omega) ?_
    exact k h 0 g F0 (by omega) (fun _ => by omega) (show (h 63 5) ≤ (h 18 16) by omega) (show (h 63 5) < (h 18 16) ∨ ((h 18 7) ≤ (h 3 2) ∧ (h 66 1) = (h 3 2) - (h 18 7)) ∨ ((h 3 2) < (h 18 7) ∧ (h 66 1) = 0) by omega) (show (h 18 16) ≤ (h 18 16) ∧ (h 18 16) ≤ (h 18 16) + 420 by omega) xq0
  ·
    refine wr_gst (v := .ref 1000023) (nx := 3) (r1 := 22) (r2 := 0) (r3 := 0) rfl rfl rfl ?_
    refine wi_aload_n (i := 1) (x := mm_XB + (8 : Int).toNat) (nx := 4) (r1 := 0) (r2 := 0) (r3 := 0) rfl rfl ?_
    refine wr_UX (k0 := mm_XB + (8 : Int).toNat) (m := 0) (rest := [.ref 1000023]) (as := [wv 8]) (nx := 7) (r1 := 358) (r2 := 32) (r3 := 1000) rfl rfl rfl (of_decide_eq_true rfl) rfl rfl (by decide) rfl rfl (of_decide_eq_true rfl) (of_decide_eq_true rfl) ?_
    refine wi_aload_n (i := 0) (x := mm_XB + (8 : Int).toNat) (nx := 1) (r1 := 0) (r2 := 0) (r3 := 0) rfl rfl ?_
    refine wr_gx (k0 := mm_XB + (8 : Int).toNat) (v := vi 7) (nx := 4) (r1 := 4) (r2 := 0) (r3 := 1) rfl (by decide) (by decide) rfl ?_
    refine wi_ireturn (nx := 5) (r1 := 0) (r2 := 0) (r3 := 0) rfl rfl ?_
    refine wk_i ?_
    refine wr_xa (k0 := 1000023) (a := 7) (f := 7) (v := vi 5) .iaload (Or.inl ⟨rfl, rfl⟩) (nx := 8) (r1 := 0) (r2 := 0) (r3 := 0) rfl (by decide) rfl rfl (by decide) (by decide) rfl ?_
    refine wr_tsw (x := 5) 186 (nx := 44) (r1 := 0) (r2 := 0) (r3 := 0) rfl rfl ?_
    refine wi_iconst (n := 0) (nx := 187) (r1 := 0) (r2 := 0) (r3 := 0) rfl ?_
    refine wi_zreturn (nx := 188) (r1 := 0) (r2 := 0) (r3 := 0) rfl rfl (by omega) ?_
    exact k h 0 g F0 (by omega) (fun _ => by omega) (show (h 63 5) ≤ (h 18 16) by omega) (show (h 63 5) < (h 18 16) ∨ ((h 18 7) ≤ (h 3 2) ∧ (h 66 1) = (h 3 2) - (h 18 7)) ∨ ((h 3 2) < (h 18 7) ∧ (h 66 1) = 0) by omega) (show (h 18 16) ≤ (h 18 16) ∧ (h 18 16) ≤ (h 18 16) + 420 by omega) xq0
  ·
    refine wr_gst (v := .ref 1000023) (nx := 3) (r1 := 22) (r2 := 0) (r3 := 0) rfl rfl rfl ?_
    refine wi_aload_n (i := 1) (x := mm_XB + (9 : Int).toNat) (nx := 4) (r1 := 0) (r2 := 0) (r3 := 0) rfl rfl ?_
    refine wr_UX (k0 := mm_XB + (9 : Int).toNat) (m := 0) (rest := [.ref 1000023]) (as := [wv 9]) (nx := 7) (r1 := 358) (r2 := 32) (r3 := 1000) rfl rfl rfl (of_decide_eq_true rfl) rfl rfl (by decide) rfl rfl (of_decide_eq_true rfl) (of_decide_eq_true rfl) ?_
    refine wi_aload_n (i := 0) (x := mm_XB + (9 : Int).toNat) (nx := 1) (r1 := 0) (r2 := 0) (r3 := 0) rfl rfl ?_
    refine wr_gx (k0 := mm_XB + (9 : Int).toNat) (v := vi 8) (nx := 4) (r1 := 4) (r2 := 0) (r3 := 1) rfl (by decide) (by decide) rfl ?_
    refine wi_ireturn (nx := 5) (r1 := 0) (r2 := 0) (r3 := 0) rfl rfl ?_
    refine wk_i ?_
    refine wr_xa (k0 := 1000023) (a := 8) (f := 8) (v := vi 0) .iaload (Or.inl ⟨rfl, rfl⟩) (nx := 8) (r1 := 0) (r2 := 0) (r3 := 0) rfl (by decide) rfl rfl (by decide) (by decide) rfl ?_
    refine wr_tsw (x := 0) 186 (nx := 44) (r1 := 0) (r2 := 0) (r3 := 0) rfl rfl ?_
    refine wi_iconst (n := 0) (nx := 187) (r1 := 0) (r2 := 0) (r3 := 0) rfl ?_
    refine wi_zreturn (nx := 188) (r1 := 0) (r2 := 0) (r3 := 0) rfl rfl (by omega) ?_
    exact k h 0 g F0 (by omega) (fun _ => by omega) (show (h 63 5) ≤ (h 18 16) by omega) (show (h 63 5) < (h 18 16) ∨ ((h 18 7) ≤ (h 3 2) ∧ (h 66 1) = (h 3 2) - (h 18 7)) ∨ ((h 3 2) < (h 18 7) ∧ (h 66 1) = 0) by omega) (show (h 18 16) ≤ (h 18 16) ∧ (h 18 16) ≤ (h 18 16) + 420 by omega) xq0
  ·
    refine wr_gst (v := .ref 1000023) (nx := 3) (r1 := 22) (r2 := 0) (r3 := 0) rfl rfl rfl ?_
    refine wi_aload_n (i := 1) (x := mm_XB + (10 : Int).toNat) (nx := 4) (r1 := 0) (r2 := 0) (r3 := 0) rfl rfl ?_
    refine wr_UX (k0 := mm_XB + (10 : Int).toNat) (m := 0) (rest := [.ref 1000023]) (as := [wv 10]) (nx := 7) (r1 := 358) (r2 := 32) (r3 := 1000) rfl rfl rfl (of_decide_eq_true rfl) rfl rfl (by decide) rfl rfl (of_decide_eq_true rfl) (of_decide_eq_true rfl) ?_
    refine wi_aload_n (i := 0) (x := mm_XB + (10 : Int).toNat) (nx := 1) (r1 := 0) (r2 := 0) (r3 := 0) rfl rfl ?_
    refine wr_gx (k0 := mm_XB + (10 : Int).toNat) (v := vi 9) (nx := 4) (r1 := 4) (r2 := 0) (r3 := 1) rfl (by decide) (by decide) rfl ?_
    refine wi_ireturn (nx := 5) (r1 := 0) (r2 := 0) (r3 := 0) rfl rfl ?_
    refine wk_i ?_
    refine wr_xa (k0 := 1000023) (a := 9) (f := 9) (v := vi 6) .iaload (Or.inl ⟨rfl, rfl⟩) (nx := 8) (r1 := 0) (r2 := 0) (r3 := 0) rfl (by decide) rfl rfl (by decide) (by decide) rfl ?_
    refine wr_tsw (x := 6) 186 (nx := 44) (r1 := 0) (r2 := 0) (r3 := 0) rfl rfl ?_
    refine wi_iconst (n := 0) (nx := 187) (r1 := 0) (r2 := 0) (r3 := 0) rfl ?_
    refine wi_zreturn (nx := 188) (r1 := 0) (r2 := 0) (r3 := 0) rfl rfl (by omega) ?_
    exact k h 0 g F0 (by omega) (fun _ => by omega) (show (h 63 5) ≤ (h 18 16) by omega) (show (h 63 5) < (h 18 16) ∨ ((h 18 7) ≤ (h 3 2) ∧ (h 66 1) = (h 3 2) - (h 18 7)) ∨ ((h 3 2) < (h 18 7) ∧ (h 66 1) = 0) by omega) (show (h 18 16) ≤ (h 18 16) ∧ (h 18 16) ≤ (h 18 16) + 420 by omega) xq0
  ·
    refine wr_gst (v := .ref 1000023) (nx := 3) (r1 := 22) (r2 := 0) (r3 := 0) rfl rfl rfl ?_
    refine wi_aload_n (i := 1) (x := mm_XB + (11 : Int).toNat) (nx := 4) (r1 := 0) (r2 := 0) (r3 := 0) rfl rfl ?_
    refine wr_UX (k0 := mm_XB + (11 : Int).toNat) (m := 0) (rest := [.ref 1000023]) (as := [wv 11]) (nx := 7) (r1 := 358) (r2 := 32) (r3 := 1000) rfl rfl rfl (of_decide_eq_true rfl) rfl rfl (by decide) rfl rfl (of_decide_eq_true rfl) (of_decide_eq_true rfl) ?_
    refine wi_aload_n (i := 0) (x := mm_XB + (11 : Int).toNat) (nx := 1) (r1 := 0) (r2 := 0) (r3 := 0) rfl rfl ?_
    refine wr_gx (k0 := mm_XB + (11 : Int).toNat) (v := vi 10) (nx := 4) (r1 := 4) (r2 := 0) (r3 := 1) rfl (by decide) (by decide) rfl ?_
    refine wi_ireturn (nx := 5) (r1 := 0) (r2 := 0) (r3 := 0) rfl rfl ?_
    refine wk_i ?_
    refine wr_xa (k0 := 1000023) (a := 10) (f := 10) (v := vi 0) .iaload (Or.inl ⟨rfl, rfl⟩) (nx := 8) (r1 := 0) (r2 := 0) (r3 := 0) rfl (by decide) rfl rfl (by decide) (by decide) rfl ?_
    refine wr_tsw (x := 0) 186 (nx := 44) (r1 := 0) (r2 := 0) (r3 := 0) rfl rfl ?_
    refine wi_iconst (n := 0) (nx := 187) (r1 := 0) (r2 := 0) (r3 := 0) rfl ?_
    refine wi_zreturn (nx := 188) (r1 := 0) (r2 := 0) (r3 := 0) rfl rfl (by omega) ?_
    exact k h 0 g F0 (by omega) (fun _ => by omega) (show (h 63 5) ≤ (h 18 16) by omega) (show (h 63 5) < (h 18 16) ∨ ((h 18 7) ≤ (h 3 2) ∧ (h 66 1) = (h 3 2) - (h 18 7)) ∨ ((h 3 2) < (h 18 7) ∧ (h 66 1) = 0) by omega) (show (h 18 16) ≤ (h 18 16) ∧ (h 18 16) ≤ (h 18 16) + 420 by omega) xq0
  ·
    refine wr_gst (v := .ref 1000023) (nx := 3) (r1 := 22) (r2 := 0) (r3 := 0) rfl rfl rfl ?_
    refine wi_aload_n (i := 1) (x := mm_XB + (12 : Int).toNat) (nx := 4) (r1 := 0) (r2 := 0) (r3 := 0) rfl rfl ?_
    refine wr_UX (k0 := mm_XB + (12 : Int).toNat) (m := 0) (rest := [.ref 1000023]) (as := [wv 12]) (nx := 7) (r1 := 358) (r2 := 32) (r3 := 1000) rfl rfl rfl (of_decide_eq_true rfl) rfl rfl (by decide) rfl rfl (of_decide_eq_true rfl) (of_decide_eq_true rfl) ?_
    refine wi_aload_n (i := 0) (x := mm_XB + (12 : Int).toNat) (nx := 1) (r1 := 0) (r2 := 0) (r3 := 0) rfl rfl ?_
    refine wr_gx (k0 := mm_XB + (12 : Int).toNat) (v := vi 11) (nx := 4) (r1 := 4) (r2 := 0) (r3 := 1) rfl (by decide) (by decide) rfl ?_
    refine wi_ireturn (nx := 5) (r1 := 0) (r2 := 0) (r3 := 0) rfl rfl ?_
    refine wk_i ?_
    refine wr_xa (k0 := 1000023) (a := 11) (f := 11) (v := vi 7) .iaload (Or.inl ⟨rfl, rfl⟩) (nx := 8) (r1 := 0) (r2 := 0) (r3 := 0) rfl (by decide) rfl rfl (by decide) (by decide) rfl ?_
    refine wr_tsw (x := 7) 186 (nx := 44) (r1 := 0) (r2 := 0) (r3 := 0) rfl rfl ?_
    refine wi_iconst (n := 0) (nx := 187) (r1 := 0) (r2 := 0) (r3 := 0) rfl ?_
    refine wi_zreturn (nx := 188) (r1 := 0) (r2 := 0) (r3 := 0) rfl rfl (by omega) ?_
    exact k h 0 g F0 (by omega) (fun _ => by omega) (show (h 63 5) ≤ (h 18 16) by omega) (show (h 63 5) < (h 18 16) ∨ ((h 18 7) ≤ (h 3 2) ∧ (h 66 1) = (h 3 2) - (h 18 7)) ∨ ((h 3 2) < (h 18 7) ∧ (h 66 1) = 0) by omega) (show (h 18 16) ≤ (h 18 16) ∧ (h 18 16) ≤ (h 18 16) + 420 by omega) xq0
  ·
    refine wr_gst (v := .ref 1000023) (nx := 3) (r1 := 22) (r2 := 0) (r3 := 0) rfl rfl rfl ?_
    refine wi_aload_n (i := 1) (x := mm_XB + (13 : Int).toNat) (nx := 4) (r1 := 0) (r2 := 0) (r3 := 0) rfl rfl ?_
    refine wr_UX (k0 := mm_XB + (13 : Int).toNat) (m := 0) (rest := [.ref 1000023]) (as := [wv 13]) (nx := 7) (r1 := 358) (r2 := 32) (r3 := 1000) rfl rfl rfl (of_decide_eq_true rfl) rfl rfl (by decide) rfl rfl (of_decide_eq_true rfl) (of_decide_eq_true rfl) ?_
    refine wi_aload_n (i := 0) (x := mm_XB + (13 : Int).toNat) (nx := 1) (r1 := 0) (r2 := 0) (r3 := 0) rfl rfl ?_
    refine wr_gx (k0 := mm_XB + (13 : Int).toNat) (v := vi 12) (nx := 4) (r1 := 4) (r2 := 0) (r3 := 1) rfl (by decide) (by decide) rfl ?_
    refine wi_ireturn (nx := 5) (r1 := 0) (r2 := 0) (r3 := 0) rfl rfl ?_
    refine wk_i ?_
    refine wr_xa (k0 := 1000023) (a := 12) (f := 12) (v := vi 8) .iaload (Or.inl ⟨rfl, rfl⟩) (nx := 8) (r1 := 0) (r2 := 0) (r3 := 0) rfl (by decide) rfl rfl (by decide) (by decide) rfl ?_
    refine wr_tsw (x := 8) 52 (nx := 44) (r1 := 0) (r2 := 0) (r3 := 0) rfl rfl ?_
    refine wi_aload_n (i := 0) (x := 68) (nx := 53) (r1 := 0) (r2 := 0) (r3 := 0) rfl rfl ?_
    refine wr_gr (k0 := 68) (x := 18) (nx := 56) (r1 := 8) (r2 := 1) (r3 := 0) rfl rfl (by decide) rfl ⟨rfl, rfl⟩ rfl ?_
    refine wi_iload_n (i := 2) (e := a1) (nx := 57) (r1 := 0) (r2 := 0) (r3 := 0) rfl rfl ?_
    refine wr_V (k0 := 18) (rest := []) (as := [.ref 18, vi a1]) (nx := 60) (r1 := 139) (r2 := 1) (r3 := 4) rfl rfl rfl (of_decide_eq_true rfl) rfl rfl (by decide) rfl rfl (of_decide_eq_true rfl) (of_decide_eq_true rfl) ?_
    refine ct_139_18 hcr  g a1 (by omega) (show (h 18 16) ≤ 2000000000 by omega) (fun h7 z8 g7 u7 (fz8 : -1 ≤ z8 ∧ z8 ≤ 11) (p7_0 : ((h7 18 16) = (h 18 16) ∧ (h7 18 7) = (h 18 7)) ∨ ((h 18 16) + 1 ≤ (h7 18 16) ∧ (h7 18 16) ≤ (h 18 16) + 1)) => ?_)
    have F9 := F0.then (by decide +kernel) u7
    have b10 := gi_b (lo := -2147483648) (hi := 2147483647) g7 18 16 rfl
    have b11 := gi_b (lo := 0) (hi := 12) g7 18 7 rfl
    refine wk_i ?_
    refine wi_iconst (n := (-1)) (nx := 61) (r1 := 0) (r2 := 0) (r3 := 0) rfl ?_
    refine wi_icmp (cd := .eq) (nx := 64) (r1 := 68) (r2 := 0) (r3 := 0) rfl (by omega) (by omega) (fun (q12 : z8 = (-1)) => ?_) (fun (q12 : ¬ (z8 = (-1))) => ?_)
    ·
      refine wi_iconst (n := 0) (nx := 69) (r1 := 0) (r2 := 0) (r3 := 0) rfl ?_
      refine wi_zreturn (nx := 70) (r1 := 0) (r2 := 0) (r3 := 0) rfl rfl (by omega) ?_
      have e13 : h7 63 5 = h 63 5 := (u7 63 5 rfl)
      have e14 : h7 3 2 = h 3 2 := (u7 3 2 rfl)
      have e15 : h7 66 1 = h 66 1 := (u7 66 1 rfl)
      have q17 : h7 8 = h 8 := funext (fun i => (u7 8 i (fo_no_ok (by decide) i)))
      have q18 : h7 7 = h 7 := funext (fun i => (u7 7 i (fo_no_ok (by decide) i)))
      have q19 : h7 19 = h 19 := funext (fun i => (u7 19 i (fo_no_ok (by decide) i)))
      have q20 : h7 67 = h 67 := funext (fun i => (u7 67 i (fo_no_ok (by decide) i)))
      have ml16 : MCL h7 := MCL.mv xq0 q17 q18 q19 q20 (by omega) (by omega) (by omega) (by omega)
      exact k h7 0 g7 F9 (by omega) (fun _ => by omega) (show (h7 63 5) ≤ (h7 18 16) by omega) (show (h7 63 5) < (h7 18 16) ∨ ((h7 18 7) ≤ (h7 3 2) ∧ (h7 66 1) = (h7 3 2) - (h7 18 7)) ∨ ((h7 3 2) < (h7 18 7) ∧ (h7 66 1) = 0) by omega) (show (h 18 16) ≤ (h7 18 16) ∧ (h7 18 16) ≤ (h 18 16) + 420 by omega) ml16
    ·
      refine wi_iconst (n := 1) (nx := 65) (r1 := 0) (r2 := 0) (r3 := 0) rfl ?_
      refine wi_goto (nx := 68) (r1 := 69) (r2 := 0) (r3 := 0) rfl ?_
      refine wi_zreturn (nx := 70) (r1 := 0) (r2 := 0) (r3 := 0) rfl rfl (by omega) ?_
      have e13 : h7 63 5 = h 63 5 := (u7 63 5 rfl)
      have e14 : h7 3 2 = h 3 2 := (u7 3 2 rfl)
      have e15 : h7 66 1 = h 66 1 := (u7 66 1 rfl)
      have q17 : h7 8 = h 8 := funext (fun i => (u7 8 i (fo_no_ok (by decide) i)))
      have q18 : h7 7 = h 7 := funext (fun i => (u7 7 i (fo_no_ok (by decide) i)))
      have q19 : h7 19 = h 19 := funext (fun i => (u7 19 i (fo_no_ok (by decide) i)))
      have q20 : h7 67 = h 67 := funext (fun i => (u7 67 i (fo_no_ok (by decide) i)))
      have ml16 : MCL h7 := MCL.mv xq0 q17 q18 q19 q20 (by omega) (by omega) (by omega) (by omega)
      exact k h7 1 g7 F9 (by omega) (fun _ => by omega) (show (h7 63 5) ≤ (h7 18 16) by omega) (show (h7 63 5) < (h7 18 16) ∨ ((h7 18 7) ≤ (h7 3 2) ∧ (h7 66 1) = (h7 3 2) - (h7 18 7)) ∨ ((h7 3 2) < (h7 18 7) ∧ (h7 66 1) = 0) by omega) (show (h 18 16) ≤ (h7 18 16) ∧ (h7 18 16) ≤ (h 18 16) + 420 by omega) ml16
  ·
    refine wr_gst (v := .ref 1000023) (nx := 3) (r1 := 22) (r2 := 0) (r3 := 0) rfl rfl rfl ?_
    refine wi_aload_n (i := 1) (x := mm_XB + (14 : Int).toNat) (nx := 4) (r1 := 0) (r2 := 0) (r3 := 0) rfl rfl ?_
    refine wr_UX (k0 := mm_XB + (14 : Int).toNat) (m := 0) (rest := [.ref 1000023]) (as := [wv 14]) (nx := 7) (r1 := 358) (r2 := 32) (r3 := 1000) rfl rfl rfl (of_decide_eq_true rfl) rfl rfl (by decide) rfl rfl (of_decide_eq_true rfl) (of_decide_eq_true rfl) ?_
    refine wi_aload_n (i := 0) (x := mm_XB + (14 : Int).toNat) (nx := 1) (r1 := 0) (r2 := 0) (r3 := 0) rfl rfl ?_
    refine wr_gx (k0 := mm_XB + (14 : Int).toNat) (v := vi 13) (nx := 4) (r1 := 4) (r2 := 0) (r3 := 1) rfl (by decide) (by decide) rfl ?_
    refine wi_ireturn (nx := 5) (r1 := 0) (r2 := 0) (r3 := 0) rfl rfl ?_
    refine wk_i ?_
    refine wr_xa (k0 := 1000023) (a := 13) (f := 13) (v := vi 9) .iaload (Or.inl ⟨rfl, rfl⟩) (nx := 8) (r1 := 0) (r2 := 0) (r3 := 0) rfl (by decide) rfl rfl (by decide) (by decide) rfl ?_
    refine wr_tsw (x := 9) 70 (nx := 44) (r1 := 0) (r2 := 0) (r3 := 0) rfl rfl ?_
    refine wi_aload_n (i := 0) (x := 68) (nx := 71) (r1 := 0) (r2 := 0) (r3 := 0) rfl rfl ?_
    refine wr_gr (k0 := 68) (x := 18) (nx := 74) (r1 := 8) (r2 := 1) (r3 := 0) rfl rfl (by decide) rfl ⟨rfl, rfl⟩ rfl ?_
    refine wi_iload_n (i := 2) (e := a1) (nx := 75) (r1 := 0) (r2 := 0) (r3 := 0) rfl rfl ?_
    refine wr_V (k0 := 18) (rest := []) (as := [.ref 18, vi a1]) (nx := 78) (r1 := 142) (r2 := 1) (r3 := 4) rfl rfl rfl (of_decide_eq_true rfl) rfl rfl (by decide) rfl rfl (of_decide_eq_true rfl) (of_decide_eq_true rfl) ?_
    refine ct_142_18 hcr  g a1 (by omega) (show (h 18 16) ≤ 2000000000 by omega) (fun h7 z8 g7 u7 (fz8 : -1 ≤ z8 ∧ z8 ≤ 11) (p7_0 : ((h7 18 16) = (h 18 16) ∧ (h7 18 7) = (h 18 7)) ∨ ((h 18 16) + 1 ≤ (h7 18 16) ∧ (h7 18 16) ≤ (h 18 16) + 1)) => ?_)
    have F9 := F0.then (by decide +kernel) u7
    have b10 := gi_b (lo := -2147483648) (hi := 2147483647) g7 18 16 rfl
    have e11 : h7 18 7 = h 18 7 := (u7 18 7 rfl)
    refine wk_i ?_
    refine wi_iconst (n := (-1)) (nx := 79) (r1 := 0) (r2 := 0) (r3 := 0) rfl ?_
    refine wi_icmp (cd := .eq) (nx := 82) (r1 := 86) (r2 := 0) (r3 := 0) rfl (by omega) (by omega) (fun (q12 : z8 = (-1)) => ?_) (fun (q12 : ¬ (z8 = (-1))) => ?_)
    ·
      refine wi_iconst (n := 0) (nx := 87) (r1 := 0) (r2 := 0) (r3 := 0) rfl ?_
      refine wi_zreturn (nx := 88) (r1 := 0) (r2 := 0) (r3 := 0) rfl rfl (by omega) ?_
      have e13 : h7 63 5 = h 63 5 := (u7 63 5 rfl)
      have e14 : h7 3 2 = h 3 2 := (u7 3 2 rfl)
      have e15 : h7 66 1 = h 66 1 := (u7 66 1 rfl)
      have q17 : h7 8 = h 8 := funext (fun i => (u7 8 i (fo_no_ok (by decide) i)))
      have q18 : h7 7 = h 7 := funext (fun i => (u7 7 i (fo_no_ok (by decide) i)))
      have q19 : h7 19 = h 19 := funext (fun i => (u7 19 i (fo_no_ok (by decide) i)))
      have q20 : h7 67 = h 67 := funext (fun i => (u7 67 i (fo_no_ok (by decide) i)))
      have ml16 : MCL h7 := MCL.mv xq0 q17 q18 q19 q20 (by omega) (by omega) (by omega) (by omega)
      exact k h7 0 g7 F9 (by omega) (fun _ => by omega) (show (h7 63 5) ≤ (h7 18 16) by omega) (show (h7 63 5) < (h7 18 16) ∨ ((h7 18 7) ≤ (h7 3 2) ∧ (h7 66 1) = (h7 3 2) - (h7 18 7)) ∨ ((h7 3 2) < (h7 18 7) ∧ (h7 66 1) = 0) by omega) (show (h 18 16) ≤ (h7 18 16) ∧ (h7 18 16) ≤ (h 18 16) + 420 by omega) ml16
    ·
      refine wi_iconst (n := 1) (nx := 83) (r1 := 0) (r2 := 0) (r3 := 0) rfl ?_
      refine wi_goto (nx := 86) (r1 := 87) (r2 := 0) (r3 := 0) rfl ?_
      refine wi_zreturn (nx := 88) (r1 := 0) (r2 := 0) (r3 := 0) rfl rfl (by omega) ?_
      have e13 : h7 63 5 = h 63 5 := (u7 63 5 rfl)
      have e14 : h7 3 2 = h 3 2 := (u7 3 2 rfl)
      have e15 : h7 66 1 = h 66 1 := (u7 66 1 rfl)
      have q17 : h7 8 = h 8 := funext (fun i => (u7 8 i (fo_no_ok (by decide) i)))
      have q18 : h7 7 = h 7 := funext (fun i => (u7 7 i (fo_no_ok (by decide) i)))
      have q19 : h7 19 = h 19 := funext (fun i => (u7 19 i (fo_no_ok (by decide) i)))
      have q20 : h7 67 = h 67 := funext (fun i => (u7 67 i (fo_no_ok (by decide) i)))
      have ml16 : MCL h7 := MCL.mv xq0 q17 q18 q19 q20 (by omega) (by omega) (by omega) (by omega)
      exact k h7 1 g7 F9 (by omega) (fun _ => by omega) (show (h7 63 5) ≤ (h7 18 16) by omega) (show (h7 63 5) < (h7 18 16) ∨ ((h7 18 7) ≤ (h7 3 2) ∧ (h7 66 1) = (h7 3 2) - (h7 18 7)) ∨ ((h7 3 2) < (h7 18 7) ∧ (h7 66 1) = 0) by omega) (show (h 18 16) ≤ (h7 18 16) ∧ (h7 18 16) ≤ (h 18 16) + 420 by omega) ml16
  ·
    refine wr_gst (v := .ref 1000023) (nx := 3) (r1 := 22) (r2 := 0) (r3 := 0) rfl rfl rfl ?_
    refine wi_aload_n (i := 1) (x := mm_XB + (15 : Int).toNat) (nx := 4) (r1 := 0) (r2 := 0) (r3 := 0) rfl rfl ?_
    refine wr_UX (k0 := mm_XB + (15 : Int).toNat) (m := 0) (rest := [.ref 1000023]) (as := [wv 15]) (nx := 7) (r1 := 358) (r2 := 32) (r3 := 1000) rfl rfl rfl (of_decide_eq_true rfl) rfl rfl (by decide) rfl rfl (of_decide_eq_true rfl) (of_decide_eq_true rfl) ?_
    refine wi_aload_n (i := 0) (x := mm_XB + (15 : Int).toNat) (nx := 1) (r1 := 0) (r2 := 0) (r3 := 0) rfl rfl ?_
    refine wr_gx (k0 := mm_XB + (15 : Int).toNat) (v := vi 14) (nx := 4) (r1 := 4) (r2 := 0) (r3 := 1) rfl (by decide) (by decide) rfl ?_
    refine wi_ireturn (nx := 5) (r1 := 0) (r2 := 0) (r3 := 0) rfl rfl ?_
    refine wk_i ?_
    refine wr_xa (k0 := 1000023) (a := 14) (f := 14) (v := vi 10) .iaload (Or.inl ⟨rfl, rfl⟩) (nx := 8) (r1 := 0) (r2 := 0) (r3 := 0) rfl (by decide) rfl rfl (by decide) (by decide) rfl ?_
    refine wr_tsw (x := 10) 88 (nx := 44) (r1 := 0) (r2 := 0) (r3 := 0) rfl rfl ?_
    refine wi_aload_n (i := 0) (x := 68) (nx := 89) (r1 := 0) (r2 := 0) (r3 := 0) rfl rfl ?_
    refine wr_gr (k0 := 68) (x := 18) (nx := 92) (r1 := 8) (r2 := 1) (r3 := 0) rfl rfl (by decide) rfl ⟨rfl, rfl⟩ rfl ?_
    refine wi_iload_n (i := 2) (e := a1) (nx := 93) (r1 := 0) (r2 := 0) (r3 := 0) rfl rfl ?_
    refine wr_V (k0 := 18) (rest := []) (as := [.ref 18, vi a1]) (nx := 96) (r1 := 138) (r2 := 1) (r3 := 4) rfl rfl rfl (of_decide_eq_true rfl) rfl rfl (by decide) rfl rfl (of_decide_eq_true rfl) (of_decide_eq_true rfl) ?_
    refine ct_138_18 hcr  g a1 (by omega) (show (h 18 16) ≤ 2000000000 by omega) (fun h7 z8 g7 u7 (fz8 : -2147483648 ≤ z8 ∧ z8 ≤ 2147483647) (p7_0 : ((h7 18 16) = (h 18 16) ∧ (h7 18 7) = (h 18 7)) ∨ ((h 18 16) + 1 ≤ (h7 18 16) ∧ (h7 18 16) ≤ (h 18 16) + 1)) => ?_)
    have F9 := F0.then (by decide +kernel) u7
    have b10 := gi_b (lo := -2147483648) (hi := 2147483647) g7 18 16 rfl
    have e11 : h7 18 7 = h 18 7 := (u7 18 7 rfl)
    refine wk_i ?_
    refine wi_iconst (n := (-1)) (nx := 97) (r1 := 0) (r2 := 0) (r3 := 0) rfl ?_
    refine wi_icmp (cd := .eq) (nx := 100) (r1 := 104) (r2 := 0) (r3 := 0) rfl (by omega) (by omega) (fun (q12 : z8 = (-1)) => ?_) (fun (q12 : ¬ (z8 = (-1))) => ?_)
    ·
      refine wi_iconst (n := 0) (nx := 105) (r1 := 0) (r2 := 0) (r3 := 0) rfl ?_
      refine wi_zreturn (nx := 106) (r1 := 0) (r2 := 0) (r3 := 0) rfl rfl (by omega) ?_
      have e13 : h7 63 5 = h 63 5 := (u7 63 5 rfl)
      have e14 : h7 3 2 = h 3 2 := (u7 3 2 rfl)
      have e15 : h7 66 1 = h 66 1 := (u7 66 1 rfl)
      have q17 : h7 8 = h 8 := funext (fun i => (u7 8 i (fo_no_ok (by decide) i)))
      have q18 : h7 7 = h 7 := funext (fun i => (u7 7 i (fo_no_ok (by decide) i)))
      have q19 : h7 19 = h 19 := funext (fun i => (u7 19 i (fo_no_ok (by decide) i)))
      have q20 : h7 67 = h 67 := funext (fun i => (u7 67 i (fo_no_ok (by decide) i)))
      have ml16 : MCL h7 := MCL.mv xq0 q17 q18 q19 q20 (by omega) (by omega) (by omega) (by omega)
      exact k h7 0 g7 F9 (by omega) (fun _ => by omega) (show (h7 63 5) ≤ (h7 18 16) by omega) (show (h7 63 5) < (h7 18 16) ∨ ((h7 18 7) ≤ (h7 3 2) ∧ (h7 66 1) = (h7 3 2) - (h7 18 7)) ∨ ((h7 3 2) < (h7 18 7) ∧ (h7 66 1) = 0) by omega) (show (h 18 16) ≤ (h7 18 16) ∧ (h7 18 16) ≤ (h 18 16) + 420 by omega) ml16
    ·
      refine wi_iconst (n := 1) (nx := 101) (r1 := 0) (r2 := 0) (r3 := 0) rfl ?_
      refine wi_goto (nx := 104) (r1 := 105) (r2 := 0) (r3 := 0) rfl ?_
      refine wi_zreturn (nx := 106) (r1 := 0) (r2 := 0) (r3 := 0) rfl rfl (by omega) ?_
      have e13 : h7 63 5 = h 63 5 := (u7 63 5 rfl)
      have e14 : h7 3 2 = h 3 2 := (u7 3 2 rfl)
      have e15 : h7 66 1 = h 66 1 := (u7 66 1 rfl)
      have q17 : h7 8 = h 8 := funext (fun i => (u7 8 i (fo_no_ok (by decide) i)))
      have q18 : h7 7 = h 7 := funext (fun i => (u7 7 i (fo_no_ok (by decide) i)))
      have q19 : h7 19 = h 19 := funext (fun i => (u7 19 i (fo_no_ok (by decide) i)))
      have q20 : h7 67 = h 67 := funext (fun i => (u7 67 i (fo_no_ok (by decide) i)))
      have ml16 : MCL h7 := MCL.mv xq0 q17 q18 q19 q20 (by omega) (by omega) (by omega) (by omega)
      exact k h7 1 g7 F9 (by omega) (fun _ => by omega) (show (h7 63 5) ≤ (h7 18 16) by omega) (show (h7 63 5) < (h7 18 16) ∨ ((h7 18 7) ≤ (h7 3 2) ∧ (h7 66 1) = (h7 3 2) - (h7 18 7)) ∨ ((h7 3 2) < (h7 18 7) ∧ (h7 66 1) = 0) by omega) (show (h 18 16) ≤ (h7 18 16) ∧ (h7 18 16) ≤ (h 18 16) + 420 by omega) ml16
  ·
    refine wr_gst (v := .ref 1000023) (nx := 3) (r1 := 22) (r2 := 0) (r3 := 0) rfl rfl rfl ?_
    refine wi_aload_n (i := 1) (x := mm_XB + (16 : Int).toNat) (nx := 4) (r1 := 0) (r2 := 0) (r3 := 0) rfl rfl ?_
    refine wr_UX (k0 := mm_XB + (16 : Int).toNat) (m := 0) (rest := [.ref 1000023]) (as := [wv 16]) (nx := 7) (r1 := 358) (r2 := 32) (r3 := 1000) rfl rfl rfl (of_decide_eq_true rfl) rfl rfl (by decide) rfl rfl (of_decide_eq_true rfl) (of_decide_eq_true rfl) ?_
    refine wi_aload_n (i := 0) (x := mm_XB + (16 : Int).toNat) (nx := 1) (r1 := 0) (r2 := 0) (r3 := 0) rfl rfl ?_
    refine wr_gx (k0 := mm_XB + (16 : Int).toNat) (v := vi 15) (nx := 4) (r1 := 4) (r2 := 0) (r3 := 1) rfl (by decide) (by decide) rfl ?_
    refine wi_ireturn (nx := 5) (r1 := 0) (r2 := 0) (r3 := 0) rfl rfl ?_
    refine wk_i ?_
    refine wr_xa (k0 := 1000023) (a := 15) (f := 15) (v := vi 11) .iaload (Or.inl ⟨rfl, rfl⟩) (nx := 8) (r1 := 0) (r2 := 0) (r3 := 0) rfl (by decide) rfl rfl (by decide) (by decide) rfl ?_
    refine wr_tsw (x := 11) 106 (nx := 44) (r1 := 0) (r2 := 0) (r3 := 0) rfl rfl ?_
    refine wi_aload_n (i := 0) (x := 68) (nx := 107) (r1 := 0) (r2 := 0) (r3 := 0) rfl rfl ?_
    refine wi_iload_n (i := 2) (e := a1) (nx := 108) (r1 := 0) (r2 := 0) (r3 := 0) rfl rfl ?_
    refine wr_V (k0 := 68) (rest := []) (as := [.ref 68, vi a1]) (nx := 111) (r1 := 189) (r2 := 1) (r3 := 8) rfl rfl rfl (of_decide_eq_true rfl) rfl rfl (by decide) rfl rfl (of_decide_eq_true rfl) (of_decide_eq_true rfl) ?_
    refine ct_189_68 hcr  g a1 (by omega) (show (h 18 16) ≤ 1999990000 by omega) (fun h7 z8 g7 u7 (fz8 : 0 ≤ z8 ∧ z8 ≤ 1) m7_0 (p7_0 : ((h7 18 16) = (h 18 16) ∧ (h7 18 7) = (h 18 7)) ∨ ((h 18 16) + 1 ≤ (h7 18 16) ∧ (h7 18 16) ≤ (h 18 16) + 400)) => ?_)
    have F9 := F0.then (by decide +kernel) u7
    have b10 := gi_b (lo := -2147483648) (hi := 2147483647) g7 18 16 rfl
    have e11 : h7 18 7 = h 18 7 := (u7 18 7 rfl)
    refine wk_i ?_
    refine wi_zreturn (nx := 112) (r1 := 0) (r2 := 0) (r3 := 0) rfl rfl (by omega) ?_
    have e12 : h7 63 5 = h 63 5 := (u7 63 5 rfl)
    have e13 : h7 3 2 = h 3 2 := (u7 3 2 rfl)
    have e14 : h7 66 1 = h 66 1 := (u7 66 1 rfl)
    have q16 : h7 8 = h 8 := funext (fun i => (u7 8 i (fo_no_ok (by decide) i)))
    have q17 : h7 7 = h 7 := funext (fun i => (u7 7 i (fo_no_ok (by decide) i)))
    have q18 : h7 19 = h 19 := funext (fun i => (u7 19 i (fo_no_ok (by decide) i)))
    have q19 : h7 67 = h 67 := funext (fun i => (u7 67 i (fo_no_ok (by decide) i)))
    have ml15 : MCL h7 := MCL.mv xq0 q16 q17 q18 q19 (by omega) (by omega) (by omega) (by omega)
    exact k h7 z8 g7 F9 (by omega) (fun _ => by omega) (show (h7 63 5) ≤ (h7 18 16) by omega) (show (h7 63 5) < (h7 18 16) ∨ ((h7 18 7) ≤ (h7 3 2) ∧ (h7 66 1) = (h7 3 2) - (h7 18 7)) ∨ ((h7 3 2) < (h7 18 7) ∧ (h7 66 1) = 0) by omega) (show (h 18 16) ≤ (h7 18 16) ∧ (h7 18 16) ≤ (h 18 16) + 420 by omega) ml15
  ·
    refine wr_gst (v := .ref 1000023) (nx := 3) (r1 := 22) (r2 := 0) (r3 := 0) rfl rfl rfl ?_
    refine wi_aload_n (i := 1) (x := mm_XB + (17 : Int).toNat) (nx := 4) (r1 := 0) (r2 := 0) (r3 := 0) rfl rfl ?_
    refine wr_UX (k0 := mm_XB + (17 : Int).toNat) (m := 0) (rest := [.ref 1000023]) (as := [wv 17]) (nx := 7) (r1 := 358) (r2 := 32) (r3 := 1000) rfl rfl rfl (of_decide_eq_true rfl) rfl rfl (by decide) rfl rfl (of_decide_eq_true rfl) (of_decide_eq_true rfl) ?_
    refine wi_aload_n (i := 0) (x := mm_XB + (17 : Int).toNat) (nx := 1) (r1 := 0) (r2 := 0) (r3 := 0) rfl rfl ?_
    refine wr_gx (k0 := mm_XB + (17 : Int).toNat) (v := vi 16) (nx := 4) (r1 := 4) (r2 := 0) (r3 := 1) rfl (by decide) (by decide) rfl ?_
    refine wi_ireturn (nx := 5) (r1 := 0) (r2 := 0) (r3 := 0) rfl rfl ?_
    refine wk_i ?_
    refine wr_xa (k0 := 1000023) (a := 16) (f := 16) (v := vi 12) .iaload (Or.inl ⟨rfl, rfl⟩) (nx := 8) (r1 := 0) (r2 := 0) (r3 := 0) rfl (by decide) rfl rfl (by decide) (by decide) rfl ?_
    refine wr_tsw (x := 12) 112 (nx := 44) (r1 := 0) (r2 := 0) (r3 := 0) rfl rfl ?_
    refine wi_aload_n (i := 0) (x := 68) (nx := 113) (r1 := 0) (r2 := 0) (r3 := 0) rfl rfl ?_
    refine wi_iload_n (i := 2) (e := a1) (nx := 114) (r1 := 0) (r2 := 0) (r3 := 0) rfl rfl ?_
    refine wr_V (k0 := 68) (rest := []) (as := [.ref 68, vi a1]) (nx := 117) (r1 := 190) (r2 := 1) (r3 := 8) rfl rfl rfl (of_decide_eq_true rfl) rfl rfl (by decide) rfl rfl (of_decide_eq_true rfl) (of_decide_eq_true rfl) ?_
    refine ct_190_68 hcr  g a1 (by omega) (show (h 18 16) ≤ 1999990000 by omega) (fun h7 z8 g7 u7 (fz8 : 0 ≤ z8 ∧ z8 ≤ 1) m7_0 (p7_0 : ((h7 18 16) = (h 18 16) ∧ (h7 18 7) = (h 18 7)) ∨ ((h 18 16) + 1 ≤ (h7 18 16) ∧ (h7 18 16) ≤ (h 18 16) + 400)) => ?_)
    have F9 := F0.then (by decide +kernel) u7
    have b10 := gi_b (lo := -2147483648) (hi := 2147483647) g7 18 16 rfl
    have b11 := gi_b (lo := 0) (hi := 12) g7 18 7 rfl
    refine wk_i ?_
    refine wi_zreturn (nx := 118) (r1 := 0) (r2 := 0) (r3 := 0) rfl rfl (by omega) ?_
    have e12 : h7 63 5 = h 63 5 := (u7 63 5 rfl)
    have e13 : h7 3 2 = h 3 2 := (u7 3 2 rfl)
    have e14 : h7 66 1 = h 66 1 := (u7 66 1 rfl)
    have q16 : h7 8 = h 8 := funext (fun i => (u7 8 i (fo_no_ok (by decide) i)))
    have q17 : h7 7 = h 7 := funext (fun i => (u7 7 i (fo_no_ok (by decide) i)))
    have q18 : h7 19 = h 19 := funext (fun i => (u7 19 i (fo_no_ok (by decide) i)))
    have q19 : h7 67 = h 67 := funext (fun i => (u7 67 i (fo_no_ok (by decide) i)))
    have ml15 : MCL h7 := MCL.mv xq0 q16 q17 q18 q19 (by omega) (by omega) (by omega) (by omega)
    exact k h7 z8 g7 F9 (by omega) (fun _ => by omega) (show (h7 63 5) ≤ (h7 18 16) by omega) (show (h7 63 5) < (h7 18 16) ∨ ((h7 18 7) ≤ (h7 3 2) ∧ (h7 66 1) = (h7 3 2) - (h7 18 7)) ∨ ((h7 3 2) < (h7 18 7) ∧ (h7 66 1) = 0) by omega) (show (h 18 16) ≤ (h7 18 16) ∧ (h7 18 16) ≤ (h 18 16) + 420 by omega) ml15
  ·
    refine wr_gst (v := .ref 1000023) (nx := 3) (r1 := 22) (r2 := 0) (r3 := 0) rfl rfl rfl ?_
    refine wi_aload_n (i := 1) (x := mm_XB + (18 : Int).toNat) (nx := 4) (r1 := 0) (r2 := 0) (r3 := 0) rfl rfl ?_
    refine wr_UX (k0 := mm_XB + (18 : Int).toNat) (m := 0) (rest := [.ref 1000023]) (as := [wv 18]) (nx := 7) (r1 := 358) (r2 := 32) (r3 := 1000) rfl rfl rfl (of_decide_eq_true rfl) rfl rfl (by decide) rfl rfl (of_decide_eq_true rfl) (of_decide_eq_true rfl) ?_
    refine wi_aload_n (i := 0) (x := mm_XB + (18 : Int).toNat) (nx := 1) (r1 := 0) (r2 := 0) (r3 := 0) rfl rfl ?_
    refine wr_gx (k0 := mm_XB + (18 : Int).toNat) (v := vi 17) (nx := 4) (r1 := 4) (r2 := 0) (r3 := 1) rfl (by decide) (by decide) rfl ?_
    refine wi_ireturn (nx := 5) (r1 := 0) (r2 := 0) (r3 := 0) rfl rfl ?_
    refine wk_i ?_
    refine wr_xa (k0 := 1000023) (a := 17) (f := 17) (v := vi 13) .iaload (Or.inl ⟨rfl, rfl⟩) (nx := 8) (r1 := 0) (r2 := 0) (r3 := 0) rfl (by decide) rfl rfl (by decide) (by decide) rfl ?_
    refine wr_tsw (x := 13) 118 (nx := 44) (r1 := 0) (r2 := 0) (r3 := 0) rfl rfl ?_
    refine wi_aload_n (i := 0) (x := 68) (nx := 119) (r1 := 0) (r2 := 0) (r3 := 0) rfl rfl ?_
    refine wr_gr (k0 := 68) (x := 56) (nx := 122) (r1 := 8) (r2 := 2) (r3 := 0) rfl rfl (by decide) rfl ⟨rfl, rfl⟩ rfl ?_
    refine wr_V (k0 := 56) (rest := []) (as := [.ref 56]) (nx := 125) (r1 := 161) (r2 := 0) (r3 := 6) rfl rfl rfl (of_decide_eq_true rfl) rfl rfl (by decide) rfl rfl (of_decide_eq_true rfl) (of_decide_eq_true rfl) ?_
    refine ct_161_56 hcr  g    (fun h7 g7 u7 => ?_)
    have F8 := F0.then (by decide +kernel) u7
    refine wk_n ?_
    refine wi_aload_n (i := 0) (x := 68) (nx := 126) (r1 := 0) (r2 := 0) (r3 := 0) rfl rfl ?_
    refine wr_gr (k0 := 68) (x := 56) (nx := 129) (r1 := 8) (r2 := 2) (r3 := 0) rfl rfl (by decide) rfl ⟨rfl, rfl⟩ rfl ?_
    have b9 := gi_b (lo := 0) (hi := 1) g7 56 9 rfl
    refine wr_gi2 (k0 := 56) (x := h7 56 9) (nx := 132) (r1 := 6) (r2 := 9) (r3 := 0) rfl rfl (by decide) rfl ⟨rfl, rfl⟩ rfl rfl ?_
    refine wi_if (cd := .eq) (nx := 135) (r1 := 143) (r2 := 0) (r3 := 0) rfl (by omega) (fun (q10 : (h7 56 9) = 0) => ?_) (fun (q10 : ¬ ((h7 56 9) = 0)) => ?_)
    ·
      refine wi_aload_n (i := 0) (x := 68) (nx := 144) (r1 := 0) (r2 := 0) (r3 := 0) rfl rfl ?_
      refine wr_gr (k0 := 68) (x := 56) (nx := 147) (r1 := 8) (r2 := 2) (r3 := 0) rfl rfl (by decide) rfl ⟨rfl, rfl⟩ rfl ?_
      refine wr_gi2 (k0 := 56) (x := h7 56 9) (nx := 150) (r1 := 6) (r2 := 9) (r3 := 0) rfl rfl (by decide) rfl ⟨rfl, rfl⟩ rfl rfl ?_
      refine wi_if (cd := .eq) (nx := 153) (r1 := 167) (r2 := 0) (r3 := 0) rfl (by omega) (fun (q11 : (h7 56 9) = 0) => ?_) (fun (q11 : ¬ ((h7 56 9) = 0)) => by exfalso; omega)
      refine wi_iconst (n := 0) (nx := 168) (r1 := 0) (r2 := 0) (r3 := 0) rfl ?_
      refine wi_zreturn (nx := 169) (r1 := 0) (r2 := 0) (r3 := 0) rfl rfl (by omega) ?_
      have e12 : h7 63 5 = h 63 5 := (u7 63 5 rfl)
      have e13 : h7 18 16 = h 18 16 := (u7 18 16 rfl)
      have e14 : h7 18 7 = h 18 7 := (u7 18 7 rfl)
      have e15 : h7 3 2 = h 3 2 := (u7 3 2 rfl)
      have e16 : h7 66 1 = h 66 1 := (u7 66 1 rfl)
      have q18 : h7 8 = h 8 := funext (fun i => (u7 8 i (fo_no_ok (by decide) i)))
      have q19 : h7 7 = h 7 := funext (fun i => (u7 7 i (fo_no_ok (by decide) i)))
      have q20 : h7 19 = h 19 := funext (fun i => (u7 19 i (fo_no_ok (by decide) i)))
      have q21 : h7 67 = h 67 := funext (fun i => (u7 67 i (fo_no_ok (by decide) i)))
      have ml17 : MCL h7 := MCL.mv xq0 q18 q19 q20 q21 (by omega) (by omega) (by omega) (by omega)
      exact k h7 0 g7 F8 (by omega) (fun _ => by omega) (show (h7 63 5) ≤ (h7 18 16) by omega) (show (h7 63 5) < (h7 18 16) ∨ ((h7 18 7) ≤ (h7 3 2) ∧ (h7 66 1) = (h7 3 2) - (h7 18 7)) ∨ ((h7 3 2) < (h7 18 7) ∧ (h7 66 1) = 0) by omega) (show (h 18 16) ≤ (h7 18 16) ∧ (h7 18 16) ≤ (h 18 16) + 420 by omega) ml17
    ·
      refine wi_aload_n (i := 0) (x := 68) (nx := 136) (r1 := 0) (r2 := 0) (r3 := 0) rfl rfl ?_
      refine wr_gr (k0 := 68) (x := 56) (nx := 139) (r1 := 8) (r2 := 2) (r3 := 0) rfl rfl (by decide) rfl ⟨rfl, rfl⟩ rfl ?_
      refine wr_V (k0 := 56) (rest := []) (as := [.ref 56]) (nx := 142) (r1 := 169) (r2 := 0) (r3 := 6) rfl rfl rfl (of_decide_eq_true rfl) rfl rfl (by decide) rfl rfl (of_decide_eq_true rfl) (of_decide_eq_true rfl) ?_
      have e12 : h7 18 16 = h 18 16 := (u7 18 16 rfl)
      refine ct_169_56 hcr  g7   (show (h7 18 16) ≤ 1999999000 by omega) (fun h11 z13 g11 u11 (fz13 : 0 ≤ z13 ∧ z13 ≤ 12) (p11_0 : ((h11 18 16) = (h7 18 16) ∧ (h11 18 7) = (h7 18 7)) ∨ ((h7 18 16) + 1 ≤ (h11 18 16) ∧ (h11 18 16) ≤ (h7 18 16) + 13)) => ?_)
      have F14 := F8.then (by decide +kernel) u11
      have e15 : h7 18 7 = h 18 7 := (u7 18 7 rfl)
      have b16 := gi_b (lo := -2147483648) (hi := 2147483647) g11 18 16 rfl
      have e17 : h11 18 7 = h 18 7 := ((u11 18 7 rfl).trans (u7 18 7 rfl))
      refine wk_i ?_
      refine wi_pop (nx := 143) (r1 := 0) (r2 := 0) (r3 := 0) rfl rfl ?_
      refine wi_aload_n (i := 0) (x := 68) (nx := 144) (r1 := 0) (r2 := 0) (r3 := 0) rfl rfl ?_
      refine wr_gr (k0 := 68) (x := 56) (nx := 147) (r1 := 8) (r2 := 2) (r3 := 0) rfl rfl (by decide) rfl ⟨rfl, rfl⟩ rfl ?_
      refine wr_gi2 (k0 := 56) (x := h7 56 9) (nx := 150) (r1 := 6) (r2 := 9) (r3 := 0) rfl rfl (by decide) rfl ⟨rfl, rfl⟩ rfl (u11 56 9 rfl) ?_
      refine wi_if (cd := .eq) (nx := 153) (r1 := 167) (r2 := 0) (r3 := 0) rfl (by omega) (fun (q18 : (h7 56 9) = 0) => by exfalso; omega) (fun (q18 : ¬ ((h7 56 9) = 0)) => ?_)
      refine wi_aload_n (i := 0) (x := 68) (nx := 154) (r1 := 0) (r2 := 0) (r3 := 0) rfl rfl ?_
      refine wr_gr (k0 := 68) (x := 56) (nx := 157) (r1 := 8) (r2 := 2) (r3 := 0) rfl rfl (by decide) rfl ⟨rfl, rfl⟩ rfl ?_
      have b19 := gi_b (lo := 0) (hi := 1) g11 56 10 rfl
      refine wr_gi2 (k0 := 56) (x := h11 56 10) (nx := 160) (r1 := 6) (r2 := 10) (r3 := 0) rfl rfl (by decide) rfl ⟨rfl, rfl⟩ rfl rfl ?_
      refine wi_if (cd := .eq) (nx := 163) (r1 := 167) (r2 := 0) (r3 := 0) rfl (by omega) (fun (q20 : (h11 56 10) = 0) => ?_) (fun (q20 : ¬ ((h11 56 10) = 0)) => ?_)
      ·
        refine wi_iconst (n := 0) (nx := 168) (r1 := 0) (r2 := 0) (r3 := 0) rfl ?_
        refine wi_zreturn (nx := 169) (r1 := 0) (r2 := 0) (r3 := 0) rfl rfl (by omega) ?_
        have e21 : h11 63 5 = h 63 5 := ((u11 63 5 rfl).trans (u7 63 5 rfl))
        have e22 : h11 3 2 = h 3 2 := ((u11 3 2 rfl).trans (u7 3 2 rfl))
        have e23 : h11 66 1 = h 66 1 := ((u11 66 1 rfl).trans (u7 66 1 rfl))
        have q25 : h11 8 = h 8 := funext (fun i => ((u11 8 i (fo_no_ok (by decide) i)).trans (u7 8 i (fo_no_ok (by decide) i))))
        have q26 : h11 7 = h 7 := funext (fun i => ((u11 7 i (fo_no_ok (by decide) i)).trans (u7 7 i (fo_no_ok (by decide) i))))
        have q27 : h11 19 = h 19 := funext (fun i => ((u11 19 i (fo_no_ok (by decide) i)).trans (u7 19 i (fo_no_ok (by decide) i))))
        have q28 : h11 67 = h 67 := funext (fun i => ((u11 67 i (fo_no_ok (by decide) i)).trans (u7 67 i (fo_no_ok (by decide) i))))
        have ml24 : MCL h11 := MCL.mv xq0 q25 q26 q27 q28 (by omega) (by omega) (by omega) (by omega)
        exact k h11 0 g11 F14 (by omega) (fun _ => by omega) (show (h11 63 5) ≤ (h11 18 16) by omega) (show (h11 63 5) < (h11 18 16) ∨ ((h11 18 7) ≤ (h11 3 2) ∧ (h11 66 1) = (h11 3 2) - (h11 18 7)) ∨ ((h11 3 2) < (h11 18 7) ∧ (h11 66 1) = 0) by omega) (show (h 18 16) ≤ (h11 18 16) ∧ (h11 18 16) ≤ (h 18 16) + 420 by omega) ml24
      ·
        refine wi_iconst (n := 1) (nx := 164) (r1 := 0) (r2 := 0) (r3 := 0) rfl ?_
        refine wi_goto (nx := 167) (r1 := 168) (r2 := 0) (r3 := 0) rfl ?_
        refine wi_zreturn (nx := 169) (r1 := 0) (r2 := 0) (r3 := 0) rfl rfl (by omega) ?_
        have e21 : h11 63 5 = h 63 5 := ((u11 63 5 rfl).trans (u7 63 5 rfl))
        have e22 : h11 3 2 = h 3 2 := ((u11 3 2 rfl).trans (u7 3 2 rfl))
        have e23 : h11 66 1 = h 66 1 := ((u11 66 1 rfl).trans (u7 66 1 rfl))
        have q25 : h11 8 = h 8 := funext (fun i => ((u11 8 i (fo_no_ok (by decide) i)).trans (u7 8 i (fo_no_ok (by decide) i))))
        have q26 : h11 7 = h 7 := funext (fun i => ((u11 7 i (fo_no_ok (by decide) i)).trans (u7 7 i (fo_no_ok (by decide) i))))
        have q27 : h11 19 = h 19 := funext (fun i => ((u11 19 i (fo_no_ok (by decide) i)).trans (u7 19 i (fo_no_ok (by decide) i))))
        have q28 : h11 67 = h 67 := funext (fun i => ((u11 67 i (fo_no_ok (by decide) i)).trans (u7 67 i (fo_no_ok (by decide) i))))
        have ml24 : MCL h11 := MCL.mv xq0 q25 q26 q27 q28 (by omega) (by omega) (by omega) (by omega)
        exact k h11 1 g11 F14 (by omega) (fun _ => by omega) (show (h11 63 5) ≤ (h11 18 16) by omega) (show (h11 63 5) < (h11 18 16) ∨ ((h11 18 7) ≤ (h11 3 2) ∧ (h11 66 1) = (h11 3 2) - (h11 18 7)) ∨ ((h11 3 2) < (h11 18 7) ∧ (h11 66 1) = 0) by omega) (show (h 18 16) ≤ (h11 18 16) ∧ (h11 18 16) ≤ (h 18 16) + 420 by omega) ml24
  ·
    refine wr_gst (v := .ref 1000023) (nx := 3) (r1 := 22) (r2 := 0) (r3 := 0) rfl rfl rfl ?_
    refine wi_aload_n (i := 1) (x := mm_XB + (19 : Int).toNat) (nx := 4) (r1 := 0) (r2 := 0) (r3 := 0) rfl rfl ?_
    refine wr_UX (k0 := mm_XB + (19 : Int).toNat) (m := 0) (rest := [.ref 1000023]) (as := [wv 19]) (nx := 7) (r1 := 358) (r2 := 32) (r3 := 1000) rfl rfl rfl (of_decide_eq_true rfl) rfl rfl (by decide) rfl rfl (of_decide_eq_true rfl) (of_decide_eq_true rfl) ?_
    refine wi_aload_n (i := 0) (x := mm_XB + (19 : Int).toNat) (nx := 1) (r1 := 0) (r2 := 0) (r3 := 0) rfl rfl ?_
    refine wr_gx (k0 := mm_XB + (19 : Int).toNat) (v := vi 18) (nx := 4) (r1 := 4) (r2 := 0) (r3 := 1) rfl (by decide) (by decide) rfl ?_
    refine wi_ireturn (nx := 5) (r1 := 0) (r2 := 0) (r3 := 0) rfl rfl ?_
    refine wk_i ?_
    refine wr_xa (k0 := 1000023) (a := 18) (f := 18) (v := vi 14) .iaload (Or.inl ⟨rfl, rfl⟩) (nx := 8) (r1 := 0) (r2 := 0) (r3 := 0) rfl (by decide) rfl rfl (by decide) (by decide) rfl ?_
    refine wr_tsw (x := 14) 169 (nx := 44) (r1 := 0) (r2 := 0) (r3 := 0) rfl rfl ?_
    refine wi_aload_n (i := 0) (x := 68) (nx := 170) (r1 := 0) (r2 := 0) (r3 := 0) rfl rfl ?_
    refine wr_gr (k0 := 68) (x := 63) (nx := 173) (r1 := 8) (r2 := 3) (r3 := 0) rfl rfl (by decide) rfl ⟨rfl, rfl⟩ rfl ?_
    refine wr_V (k0 := 63) (rest := []) (as := [.ref 63]) (nx := 176) (r1 := 171) (r2 := 0) (r3 := 7) rfl rfl rfl (of_decide_eq_true rfl) rfl rfl (by decide) rfl rfl (of_decide_eq_true rfl) (of_decide_eq_true rfl) ?_
    refine ct_171_63 hcr  g   (show (h 63 5) ≤ (h 18 16) by omega) (show (h 63 5) < (h 18 16) ∨ ((h 18 7) ≤ (h 3 2) ∧ (h 66 1) = (h 3 2) - (h 18 7)) ∨ ((h 3 2) < (h 18 7) ∧ (h 66 1) = 0) by omega) (show 0 ≤ (h 3 9) by omega) xq0 (fun h7 g7 u7 (p7_0 : (h7 63 5) = (h7 18 16)) (p7_1 : ((h7 18 7) ≤ (h7 3 2) ∧ (h7 66 1) = (h7 3 2) - (h7 18 7)) ∨ ((h7 3 2) < (h7 18 7) ∧ (h7 66 1) = 0)) y7_0 => ?_)
    have F8 := F0.then (by decide +kernel) u7
    have b9 := gi_b (lo := -2147483648) (hi := 2147483647) g7 63 5 rfl
    have e10 : h7 18 16 = h 18 16 := (u7 18 16 rfl)
    have e11 : h7 18 7 = h 18 7 := (u7 18 7 rfl)
    have e12 : h7 3 2 = h 3 2 := (u7 3 2 rfl)
    have b13 := gi_b (lo := 0) (hi := 12) g7 66 1 rfl
    have q15 : h7 8 = h 8 := funext (fun i => (u7 8 i (fo_no_ok (by decide) i)))
    have q16 : h7 7 = h 7 := funext (fun i => (u7 7 i (fo_no_ok (by decide) i)))
    have q17 : h7 19 = h 19 := funext (fun i => (u7 19 i (fo_no_ok (by decide) i)))
    have ml14 : MCL h7 := MCL.plan xq0 y7_0 q15 q16 q17 (by omega) (by omega)
    refine wk_n ?_
    refine wi_aload_n (i := 0) (x := 68) (nx := 177) (r1 := 0) (r2 := 0) (r3 := 0) rfl rfl ?_
    refine wr_gr (k0 := 68) (x := 63) (nx := 180) (r1 := 8) (r2 := 3) (r3 := 0) rfl rfl (by decide) rfl ⟨rfl, rfl⟩ rfl ?_
    refine wr_V (k0 := 63) (rest := []) (as := [.ref 63]) (nx := 183) (r1 := 180) (r2 := 0) (r3 := 7) rfl rfl rfl (of_decide_eq_true rfl) rfl rfl (by decide) rfl rfl (of_decide_eq_true rfl) (of_decide_eq_true rfl) ?_
    refine ct_180_63 hcr  g7   (show (h7 18 16) ≤ 2000000000 by omega) (show (h7 63 5) = (h7 18 16) by omega) (show ((h7 18 7) ≤ (h7 3 2) ∧ (h7 66 1) = (h7 3 2) - (h7 18 7)) ∨ ((h7 3 2) < (h7 18 7) ∧ (h7 66 1) = 0) by omega) ml14 y7_0 (fun h18 z19 g18 u18 (fz19 : 0 ≤ z19 ∧ z19 ≤ 12) (p18_0 : (h7 18 16) ≤ (h18 18 16) ∧ (h18 18 16) ≤ (h7 18 16) + 12) y18_0 => ?_)
    have F20 := F8.then (by decide +kernel) u18
    have b21 := gi_b (lo := -2147483648) (hi := 2147483647) g18 18 16 rfl
    refine wk_i ?_
    refine wi_pop (nx := 184) (r1 := 0) (r2 := 0) (r3 := 0) rfl rfl ?_
    refine wi_iconst (n := 1) (nx := 185) (r1 := 0) (r2 := 0) (r3 := 0) rfl ?_
    refine wi_zreturn (nx := 186) (r1 := 0) (r2 := 0) (r3 := 0) rfl rfl (by omega) ?_
    have e22 : h18 63 5 = h7 63 5 := (u18 63 5 rfl)
    have e23 : h18 18 7 = h 18 7 := ((u18 18 7 rfl).trans (u7 18 7 rfl))
    have e24 : h18 3 2 = h 3 2 := ((u18 3 2 rfl).trans (u7 3 2 rfl))
    have e25 : h18 66 1 = h7 66 1 := (u18 66 1 rfl)
    exact k h18 1 g18 F20 (by omega) (fun _ => by omega) (show (h18 63 5) ≤ (h18 18 16) by omega) (show (h18 63 5) < (h18 18 16) ∨ ((h18 18 7) ≤ (h18 3 2) ∧ (h18 66 1) = (h18 3 2) - (h18 18 7)) ∨ ((h18 3 2) < (h18 18 7) ∧ (h18 66 1) = 0) by omega) (show (h 18 16) ≤ (h18 18 16) ∧ (h18 18 16) ≤ (h 18 16) + 420 by omega) y18_0
  ·
    refine wr_gst (v := .ref 1000023) (nx := 3) (r1 := 22) (r2 := 0) (r3 := 0) rfl rfl rfl ?_
    refine wi_aload_n (i := 1) (x := mm_XB + (20 : Int).toNat) (nx := 4) (r1 := 0) (r2 := 0) (r3 := 0) rfl rfl ?_
    refine wr_UX (k0 := mm_XB + (20 : Int).toNat) (m := 0) (rest := [.ref 1000023]) (as := [wv 20]) (nx := 7) (r1 := 358) (r2 := 32) (r3 := 1000) rfl rfl rfl (of_decide_eq_true rfl) rfl rfl (by decide) rfl rfl (of_decide_eq_true rfl) (of_decide_eq_true rfl) ?_
    refine wi_aload_n (i := 0) (x := mm_XB + (20 : Int).toNat) (nx := 1) (r1 := 0) (r2 := 0) (r3 := 0) rfl rfl ?_
    refine wr_gx (k0 := mm_XB + (20 : Int).toNat) (v := vi 19) (nx := 4) (r1 := 4) (r2 := 0) (r3 := 1) rfl (by decide) (by decide) rfl ?_
    refine wi_ireturn (nx := 5) (r1 := 0) (r2 := 0) (r3 := 0) rfl rfl ?_
    refine wk_i ?_
    refine wr_xa (k0 := 1000023) (a := 19) (f := 19) (v := vi 0) .iaload (Or.inl ⟨rfl, rfl⟩) (nx := 8) (r1 := 0) (r2 := 0) (r3 := 0) rfl (by decide) rfl rfl (by decide) (by decide) rfl ?_
    refine wr_tsw (x := 0) 186 (nx := 44) (r1 := 0) (r2 := 0) (r3 := 0) rfl rfl ?_
    refine wi_iconst (n := 0) (nx := 187) (r1 := 0) (r2 := 0) (r3 := 0) rfl ?_
    refine wi_zreturn (nx := 188) (r1 := 0) (r2 := 0) (r3 := 0) rfl rfl (by omega) ?_
    exact k h 0 g F0 (by omega) (fun _ => by omega) (show (h 63 5) ≤ (h 18 16) by omega) (show (h 63 5) < (h 18 16) ∨ ((h 18 7) ≤ (h 3 2) ∧ (h 66 1) = (h 3 2) - (h 18 7)) ∨ ((h 3 2) < (h 18 7) ∧ (h 66 1) = 0) by omega) (show (h 18 16) ≤ (h 18 16) ∧ (h 18 16) ≤ (h 18 16) + 420 by omega) xq0
  ·
    refine wr_gst (v := .ref 1000023) (nx := 3) (r1 := 22) (r2 := 0) (r3 := 0) rfl rfl rfl ?_
    refine wi_aload_n (i := 1) (x := mm_XB + (21 : Int).toNat) (nx := 4) (r1 := 0) (r2 := 0) (r3 := 0) rfl rfl ?_
    refine wr_UX (k0 := mm_XB + (21 : Int).toNat) (m := 0) (rest := [.ref 1000023]) (as := [wv 21]) (nx := 7) (r1 := 358) (r2 := 32) (r3 := 1000) rfl rfl rfl (of_decide_eq_true rfl) rfl rfl (by decide) rfl rfl (of_decide_eq_true rfl) (of_decide_eq_true rfl) ?_
    refine wi_aload_n (i := 0) (x := mm_XB + (21 : Int).toNat) (nx := 1) (r1 := 0) (r2 := 0) (r3 := 0) rfl rfl ?_
    refine wr_gx (k0 := mm_XB + (21 : Int).toNat) (v := vi 20) (nx := 4) (r1 := 4) (r2 := 0) (r3 := 1) rfl (by decide) (by decide) rfl ?_
    refine wi_ireturn (nx := 5) (r1 := 0) (r2 := 0) (r3 := 0) rfl rfl ?_
    refine wk_i ?_
    refine wr_xa (k0 := 1000023) (a := 20) (f := 20) (v := vi 0) .iaload (Or.inl ⟨rfl, rfl⟩) (nx := 8) (r1 := 0) (r2 := 0) (r3 := 0) rfl (by decide) rfl rfl (by decide) (by decide) rfl ?_
    refine wr_tsw (x := 0) 186 (nx := 44) (r1 := 0) (r2 := 0) (r3 := 0) rfl rfl ?_
    refine wi_iconst (n := 0) (nx := 187) (r1 := 0) (r2 := 0) (r3 := 0) rfl ?_
    refine wi_zreturn (nx := 188) (r1 := 0) (r2 := 0) (r3 := 0) rfl rfl (by omega) ?_
    exact k h 0 g F0 (by omega) (fun _ => by omega) (show (h 63 5) ≤ (h 18 16) by omega) (show (h 63 5) < (h 18 16) ∨ ((h 18 7) ≤ (h 3 2) ∧ (h 66 1) = (h 3 2) - (h 18 7)) ∨ ((h 3 2) < (h 18 7) ∧ (h 66 1) = 0) by omega) (show (h 18 16) ≤ (h 18 16) ∧ (h 18 16) ≤ (h 18 16) + 420 by omega) xq0
-- method 187: Script.behindBracket(I)I
set_option maxRecDepth 100000 in
set_option maxHeartbeats 100000000 in
theorem ct_187_68 {L : Nat} {xs : Nat → Int32} {d b c : Nat} {h : hp} {cr : Nat → Nat → Option Nat} {Q : hp_Q} (hcr : CR cr)  (g : GI h) (a0 : Int) (q0_ : 0 ≤ a0 ∧ a0 ≤ 79)  (k : ∀ (h2 : hp) (z0 : Int) , GI h2 → FR [(71, 71, none)] h h2 → (1 ≤ z0 ∧ z0 ≤ 80) → Q (.inl (some (vi z0))) (hp_w h2 cr) b c) : wp (md_xa (L, xs)) d 187 (0, [(0, .ref 68), (1, vi a0)], [], hp_w h cr, b, c) Q := by
  have F0 : FR [(71, 71, none)] h h := FR.refl
  refine wi_aload_n (i := 0) (x := 68) (nx := 1) (r1 := 0) (r2 := 0) (r3 := 0) rfl rfl ?_
  refine wr_gr (k0 := 68) (x := 70) (nx := 4) (r1 := 8) (r2 := 5) (r3 := 0) rfl rfl (by decide) rfl ⟨rfl, rfl⟩ rfl ?_
  refine wi_iload_n (i := 1) (e := a0) (nx := 5) (r1 := 0) (r2 := 0) (r3 := 0) rfl rfl ?_
  obtain ⟨i1, ei1⟩ : ∃ q : Nat, a0 = (q : Int) := ⟨(a0).toNat, by omega⟩
  have b2 := gi_b (lo := -2147483648) (hi := 2147483647) g 70 i1 rfl
  refine wr_ia (k0 := 70) (a := a0) (f := i1) (x := h 70 i1) (nx := 6) (r1 := 0) (r2 := 0) (r3 := 0) rfl (by decide) rfl (by omega) (by omega) (by decide) rfl ?_
  refine wi_istore_n (i := 2) (e := h 70 i1) (lo2 := [(2, vi (h 70 i1)), (0, .ref 68), (1, vi a0)]) (nx := 7) (r1 := 0) (r2 := 0) (r3 := 0) rfl rfl ?_
  refine wi_iload_n (i := 2) (e := h 70 i1) (nx := 8) (r1 := 0) (r2 := 0) (r3 := 0) rfl rfl ?_
  refine wi_if (cd := .lt) (nx := 11) (r1 := 16) (r2 := 0) (r3 := 0) rfl (by omega) (fun (q3 : (h 70 i1) < 0) => ?_) (fun (q3 : ¬ ((h 70 i1) < 0)) => ?_)
  ·
    refine wi_iload_n (i := 1) (e := a0) (nx := 17) (r1 := 0) (r2 := 0) (r3 := 0) rfl rfl ?_
    refine wi_iconst (n := 1) (nx := 18) (r1 := 0) (r2 := 0) (r3 := 0) rfl ?_
    refine wr_add (nx := 19) (r1 := 0) (r2 := 0) (r3 := 0) rfl (fun e4 (fe4 : e4 = a0 + 1) => ?_)
    refine wi_ireturn (nx := 20) (r1 := 0) (r2 := 0) (r3 := 0) rfl rfl ?_
    exact k h e4 g F0 (by omega)
  ·
    refine wi_iload_n (i := 2) (e := h 70 i1) (nx := 12) (r1 := 0) (r2 := 0) (r3 := 0) rfl rfl ?_
    refine wi_iload_n (i := 1) (e := a0) (nx := 13) (r1 := 0) (r2 := 0) (r3 := 0) rfl rfl ?_
    refine wi_icmp (cd := .lt) (nx := 16) (r1 := 20) (r2 := 0) (r3 := 0) rfl (by omega) (by omega) (fun (q4 : (h 70 i1) < a0) => ?_) (fun (q4 : ¬ ((h 70 i1) < a0)) => ?_)
    ·
      refine wi_aload_n (i := 0) (x := 68) (nx := 21) (r1 := 0) (r2 := 0) (r3 := 0) rfl rfl ?_
      refine wr_gr (k0 := 68) (x := 71) (nx := 24) (r1 := 8) (r2 := 6) (r3 := 0) rfl rfl (by decide) rfl ⟨rfl, rfl⟩ rfl ?_
      refine wi_iload_n (i := 2) (e := h 70 i1) (nx := 25) (r1 := 0) (r2 := 0) (r3 := 0) rfl rfl ?_
      refine wi_dup2 (nx := 26) (r1 := 0) (r2 := 0) (r3 := 0) rfl rfl rfl ?_
      obtain ⟨i5, ei5⟩ : ∃ q : Nat, (h 70 i1) = (q : Int) := ⟨(h 70 i1).toNat, by omega⟩
      have b6 := gi_b (lo := -2147483648) (hi := 2147483647) g 71 i5 rfl
      refine wr_ia (k0 := 71) (a := h 70 i1) (f := i5) (x := h 71 i5) (nx := 27) (r1 := 0) (r2 := 0) (r3 := 0) rfl (by decide) rfl (by omega) (by omega) (by decide) rfl ?_
      refine wi_iconst (n := 1) (nx := 28) (r1 := 0) (r2 := 0) (r3 := 0) rfl ?_
      refine wr_subW (nx := 29) (r1 := 0) (r2 := 0) (r3 := 0) rfl (fun e7 (fe7 : -2147483648 ≤ e7 ∧ e7 ≤ 2147483647) => ?_)
      refine wr_is (k0 := 71) (a := h 70 i1) (f := i5) (x := e7) (bl := -2147483648) (bh := 2147483647) (nx := 30) (r1 := 0) (r2 := 0) (r3 := 0) rfl (by decide) rfl (by omega) (by omega) (by decide) g rfl (by omega) (fun h8 g8 w8 u8 => ?_)
      have F9 := F0.then rfl (FR.rngp (lo := 71) (hi := 71) u8 (by decide))
      refine wi_aload_n (i := 0) (x := 68) (nx := 31) (r1 := 0) (r2 := 0) (r3 := 0) rfl rfl ?_
      refine wr_gr (k0 := 68) (x := 71) (nx := 34) (r1 := 8) (r2 := 6) (r3 := 0) rfl rfl (by decide) rfl ⟨rfl, rfl⟩ rfl ?_
      refine wi_iload_n (i := 2) (e := h 70 i1) (nx := 35) (r1 := 0) (r2 := 0) (r3 := 0) rfl rfl ?_
      refine wr_ia (k0 := 71) (a := h 70 i1) (f := i5) (x := e7) (nx := 36) (r1 := 0) (r2 := 0) (r3 := 0) rfl (by decide) rfl (by omega) (by omega) (by decide) w8 ?_
      refine wi_if (cd := .le) (nx := 39) (r1 := 45) (r2 := 0) (r3 := 0) rfl (by omega) (fun (q10 : e7 ≤ 0) => ?_) (fun (q10 : ¬ (e7 ≤ 0)) => ?_)
      ·
        refine wi_iload_n (i := 1) (e := a0) (nx := 46) (r1 := 0) (r2 := 0) (r3 := 0) rfl rfl ?_
        refine wi_iconst (n := 1) (nx := 47) (r1 := 0) (r2 := 0) (r3 := 0) rfl ?_
        refine wr_add (nx := 48) (r1 := 0) (r2 := 0) (r3 := 0) rfl (fun e11 (fe11 : e11 = a0 + 1) => ?_)
        refine wi_ireturn (nx := 49) (r1 := 0) (r2 := 0) (r3 := 0) rfl rfl ?_
        exact k h8 e11 g8 F9 (by omega)
      ·
        refine wi_iload_n (i := 2) (e := h 70 i1) (nx := 40) (r1 := 0) (r2 := 0) (r3 := 0) rfl rfl ?_
        refine wi_iconst (n := 1) (nx := 41) (r1 := 0) (r2 := 0) (r3 := 0) rfl ?_
        refine wr_add (nx := 42) (r1 := 0) (r2 := 0) (r3 := 0) rfl (fun e11 (fe11 : e11 = (h 70 i1) + 1) => ?_)
        refine wi_goto (nx := 45) (r1 := 48) (r2 := 0) (r3 := 0) rfl ?_
        refine wi_ireturn (nx := 49) (r1 := 0) (r2 := 0) (r3 := 0) rfl rfl ?_
        exact k h8 e11 g8 F9 (by omega)
    ·
      refine wi_iload_n (i := 1) (e := a0) (nx := 17) (r1 := 0) (r2 := 0) (r3 := 0) rfl rfl ?_
      refine wi_iconst (n := 1) (nx := 18) (r1 := 0) (r2 := 0) (r3 := 0) rfl ?_
      refine wr_add (nx := 19) (r1 := 0) (r2 := 0) (r3 := 0) rfl (fun e5 (fe5 : e5 = a0 + 1) => ?_)
      refine wi_ireturn (nx := 20) (r1 := 0) (r2 := 0) (r3 := 0) rfl rfl ?_
      exact k h e5 g F0 (by omega)
-- method 186: Script.play()I
set_option maxRecDepth 100000 in
set_option maxHeartbeats 100000000 in
theorem ct_186_68 {L : Nat} {xs : Nat → Int32} {d b c : Nat} {h : hp} {cr : Nat → Nat → Option Nat} {Q : hp_Q} (hcr : CR cr)  (g : GI h)   (pp0 : h 63 5 ≤ h 18 16) (pp1 : h 63 5 < h 18 16 ∨ (h 18 7 ≤ h 3 2 ∧ h 66 1 = h 3 2 - h 18 7) ∨ (h 3 2 < h 18 7 ∧ h 66 1 = 0)) (pp2 : 0 ≤ h 3 9) (pp3 : h 18 16 ≤ 1999000000) (xq0 : MCL h) (xq1 : NBc (h 69) (h 70)) (k : ∀ (h2 : hp) (z0 : Int) , GI h2 → FR [(19, 19, none), (20, 20, none), (22, 23, none), (24, 25, none), (26, 27, none), (28, 28, none), (29, 36, none), (57, 57, none), (58, 58, none), (59, 59, none), (60, 60, none), (61, 62, none), (64, 64, none), (65, 65, none), (67, 67, none), (71, 71, none), (18, 18, some (7, 13)), (18, 18, some (15, 16)), (56, 56, some (6, 7)), (56, 56, some (9, 12)), (63, 63, some (4, 5)), (63, 63, some (7, 7)), (66, 66, some (1, 1))] h h2 → (0 ≤ z0 ∧ z0 ≤ 100) → (h2 63 5 ≤ h2 18 16) → (h2 63 5 < h2 18 16 ∨ (h2 18 7 ≤ h2 3 2 ∧ h2 66 1 = h2 3 2 - h2 18 7) ∨ (h2 3 2 < h2 18 7 ∧ h2 66 1 = 0)) → (h 18 16 ≤ h2 18 16 ∧ h2 18 16 ≤ h 18 16 + 50000) → (MCL h2) → Q (.inl (some (vi z0))) (hp_w h2 cr) b c) : wp (md_xa (L, xs)) (d + 104) 186 (0, [(0, .ref 68)], [], hp_w h cr, b, c) Q := by
  have F0 : FR [(19, 19, none), (20, 20, none), (22, 23, none), (24, 25, none), (26, 27, none), (28, 28, none), (29, 36, none), (57, 57, none), (58, 58, none), (59, 59, none), (60, 60, none), (61, 62, none), (64, 64, none), (65, 65, none), (67, 67, none), (71, 71, none), (18, 18, some (7, 13)), (18, 18, some (15, 16)), (56, 56, some (6, 7)), (56, 56, some (9, 12)), (63, 63, some (4, 5)), (63, 63, some (7, 7)), (66, 66, some (1, 1))] h h := FR.refl
  have b1 := gi_b (lo := -2147483648) (hi := 2147483647) g 63 5 rfl
  have b2 := gi_b (lo := -2147483648) (hi := 2147483647) g 18 16 rfl
  have b3 := gi_b (lo := 0) (hi := 12) g 18 7 rfl
  have b4 := gi_b (lo := 0) (hi := 12) g 3 2 rfl
  have b5 := gi_b (lo := 0) (hi := 12) g 66 1 rfl
  have b6 := gi_b (lo := -2147483648) (hi := 2147483647) g 3 9 rfl
  refine wi_iconst (n := 0) (nx := 1) (r1 := 0) (r2 := 0) (r3 := 0) rfl ?_
  refine wi_istore_n (i := 1) (e := 0) (lo2 := [(1, vi 0), (0, .ref 68)]) (nx := 2) (r1 := 0) (r2 := 0) (r3 := 0) rfl rfl ?_
  refine wi_iconst (n := 0) (nx := 3) (r1 := 0) (r2 := 0) (r3 := 0) rfl ?_
  refine wi_istore_n (i := 2) (e := 0) (lo2 := [(2, vi 0), (1, vi 0), (0, .ref 68)]) (nx := 4) (r1 := 0) (r2 := 0) (r3 := 0) rfl rfl ?_
  refine wi_iconst (n := 0) (nx := 5) (r1 := 0) (r2 := 0) (r3 := 0) rfl ?_
  refine wi_istore_n (i := 3) (e := 0) (lo2 := [(3, vi 0), (2, vi 0), (1, vi 0), (0, .ref 68)]) (nx := 6) (r1 := 0) (r2 := 0) (r3 := 0) rfl rfl ?_
  refine wp.lo (lo := [(0, .ref 68), (1, vi 0), (2, vi 0), (3, vi 0)]) ⟨rfl, rfl, rfl, rfl, trivial⟩ rfl ?_
  refine wl_3 (fun x7 x8 x9 h10 => GI h10 ∧ FR [(19, 19, none), (20, 20, none), (22, 23, none), (24, 25, none), (26, 27, none), (28, 28, none), (29, 36, none), (57, 57, none), (58, 58, none), (59, 59, none), (60, 60, none), (61, 62, none), (64, 64, none), (65, 65, none), (67, 67, none), (71, 71, none), (18, 18, some (7, 13)), (18, 18, some (15, 16)), (56, 56, some (6, 7)), (56, 56, some (9, 12)), (63, 63, some (4, 5)), (63, 63, some (7, 7)), (66, 66, some (1, 1))] h h10 ∧ FR [(19, 19, none), (20, 20, none), (22, 23, none), (24, 25, none), (26, 27, none), (28, 28, none), (29, 36, none), (57, 57, none), (58, 58, none), (59, 59, none), (60, 60, none), (61, 62, none), (64, 64, none), (65, 65, none), (67, 67, none), (71, 71, none), (18, 18, some (7, 13)), (18, 18, some (15, 16)), (56, 56, some (6, 7)), (56, 56, some (9, 12)), (63, 63, some (4, 5)), (63, 63, some (7, 7)), (66, 66, some (1, 1))] h h10 ∧ ((0 ≤ x7 ∧ x7 ≤ 100) ∧ (0 ≤ x8 ∧ x8 ≤ 1000000) ∧ (0 ≤ x9 ∧ x9 ≤ 1000000) ∧ ((h10 63 5) ≤ (h10 18 16)) ∧ ((h10 63 5) < (h10 18 16) ∨ ((h10 18 7) ≤ (h10 3 2) ∧ (h10 66 1) = (h10 3 2) - (h10 18 7)) ∨ ((h10 3 2) < (h10 18 7) ∧ (h10 66 1) = 0)) ∧ ((h 18 16) ≤ (h10 18 16)) ∧ ((h10 18 16) ≤ (h 18 16) + 420 * x7)) ∧ MCL h10) (fun x7 x8 x9 h10 => ((1000000 : Int) + 1 - x9).toNat) (fun x7 x8 x9 h10 => (6, [(0, .ref 68), (1, vi x7), (2, vi x8), (3, vi x9)], [], hp_w h10 cr, b, c)) ?_ 0 0 0 h ⟨g, F0, FR.refl, (show (0 ≤ 0 ∧ 0 ≤ 100) ∧ (0 ≤ 0 ∧ 0 ≤ 1000000) ∧ (0 ≤ 0 ∧ 0 ≤ 1000000) ∧ ((h 63 5) ≤ (h 18 16)) ∧ ((h 63 5) < (h 18 16) ∨ ((h 18 7) ≤ (h 3 2) ∧ (h 66 1) = (h 3 2) - (h 18 7)) ∨ ((h 3 2) < (h 18 7) ∧ (h 66 1) = 0)) ∧ ((h 18 16) ≤ (h 18 16)) ∧ ((h 18 16) ≤ (h 18 16) + 420 * 0) by omega), xq0⟩
  intro x7 x8 x9 h10 ⟨g10, F11, u10, f10, X10_0⟩ I10
  have b12 := gi_b (lo := -2147483648) (hi := 2147483647) g10 63 5 rfl
  have b13 := gi_b (lo := -2147483648) (hi := 2147483647) g10 18 16 rfl
  have b14 := gi_b (lo := 0) (hi := 12) g10 18 7 rfl
  have e15 : h10 3 2 = h 3 2 := (u10 3 2 rfl)
  have b16 := gi_b (lo := 0) (hi := 12) g10 66 1 rfl
  refine wi_iload_n (i := 3) (e := x9) (nx := 7) (r1 := 0) (r2 := 0) (r3 := 0) rfl rfl ?_
  refine wi_ldc (e := 1000000) (nx := 9) (r1 := 0) (r2 := 1000000) (r3 := 0) rfl rfl (by decide) ?_
  refine wi_icmp (cd := .ge) (nx := 12) (r1 := 110) (r2 := 0) (r3 := 0) rfl (by omega) (by omega) (fun (q17 : 1000000 ≤ x9) => ?_) (fun (q17 : ¬ (1000000 ≤ x9)) => ?_)
  ·
    refine wi_iload_n (i := 1) (e := x7) (nx := 111) (r1 := 0) (r2 := 0) (r3 := 0) rfl rfl ?_
    refine wi_ireturn (nx := 112) (r1 := 0) (r2 := 0) (r3 := 0) rfl rfl ?_
    exact k h10 x7 g10 F11 (by omega) (show (h10 63 5) ≤ (h10 18 16) by omega) (show (h10 63 5) < (h10 18 16) ∨ ((h10 18 7) ≤ (h10 3 2) ∧ (h10 66 1) = (h10 3 2) - (h10 18 7)) ∨ ((h10 3 2) < (h10 18 7) ∧ (h10 66 1) = 0) by omega) (show (h 18 16) ≤ (h10 18 16) ∧ (h10 18 16) ≤ (h 18 16) + 50000 by omega) X10_0
  ·
    refine wi_iload_n (i := 2) (e := x8) (nx := 13) (r1 := 0) (r2 := 0) (r3 := 0) rfl rfl ?_
    refine wi_aload_n (i := 0) (x := 68) (nx := 14) (r1 := 0) (r2 := 0) (r3 := 0) rfl rfl ?_
    have b18 := gi_b (lo := 0) (hi := 80) g 68 10 rfl
    refine wr_gi0 (k0 := 68) (x := h 68 10) (nx := 17) (r1 := 8) (r2 := 10) (r3 := 0) rfl rfl (by decide) rfl ⟨rfl, rfl⟩ rfl (u10 68 10 rfl) ?_
    refine wi_icmp (cd := .ge) (nx := 20) (r1 := 110) (r2 := 0) (r3 := 0) rfl (by omega) (by omega) (fun (q19 : (h 68 10) ≤ x8) => ?_) (fun (q19 : ¬ ((h 68 10) ≤ x8)) => ?_)
    ·
      refine wi_iload_n (i := 1) (e := x7) (nx := 111) (r1 := 0) (r2 := 0) (r3 := 0) rfl rfl ?_
      refine wi_ireturn (nx := 112) (r1 := 0) (r2 := 0) (r3 := 0) rfl rfl ?_
      exact k h10 x7 g10 F11 (by omega) (show (h10 63 5) ≤ (h10 18 16) by omega) (show (h10 63 5) < (h10 18 16) ∨ ((h10 18 7) ≤ (h10 3 2) ∧ (h10 66 1) = (h10 3 2) - (h10 18 7)) ∨ ((h10 3 2) < (h10 18 7) ∧ (h10 66 1) = 0) by omega) (show (h 18 16) ≤ (h10 18 16) ∧ (h10 18 16) ≤ (h 18 16) + 50000 by omega) X10_0
    ·
      refine wi_aload_n (i := 0) (x := 68) (nx := 21) (r1 := 0) (r2 := 0) (r3 := 0) rfl rfl ?_
      refine wr_gr (k0 := 68) (x := 69) (nx := 24) (r1 := 8) (r2 := 4) (r3 := 0) rfl rfl (by decide) rfl ⟨rfl, rfl⟩ rfl ?_
      refine wi_iload_n (i := 2) (e := x8) (nx := 25) (r1 := 0) (r2 := 0) (r3 := 0) rfl rfl ?_
      obtain ⟨i20, ei20⟩ : ∃ q : Nat, x8 = (q : Int) := ⟨(x8).toNat, by omega⟩
      have b21 := gi_b (lo := 1) (hi := 21) g 69 i20 rfl
      refine wr_aw (k0 := 69) (a := x8) (f := i20) (x := h 69 i20) (nx := 26) (r1 := 0) (r2 := 0) (r3 := 0) rfl (by decide) rfl (by omega) (by omega) (by decide) (u10 69 i20 (fo_nk rfl)) ?_
      refine wr_gst (v := wv 20) (nx := 29) (r1 := 19) (r2 := 0) (r3 := 0) rfl rfl rfl ?_
      refine wr_acmp (cd := .ne) (x := h 69 i20) (y := 20) (nx := 32) (r1 := 50) (r2 := 0) (r3 := 0) rfl (by omega) (by omega) (fun (q22 : ((h 69 i20) = 20 ↔ Jvm.ClassFile.ACond.ne = .eq)) => ?_) (fun (q22 : ¬ ((h 69 i20) = 20 ↔ Jvm.ClassFile.ACond.ne = .eq)) => ?_)
      ·
        have q22 : ¬ ((h 69 i20) = 20) := by simpa using q22
        refine wi_aload_n (i := 0) (x := 68) (nx := 51) (r1 := 0) (r2 := 0) (r3 := 0) rfl rfl ?_
        refine wr_gr (k0 := 68) (x := 69) (nx := 54) (r1 := 8) (r2 := 4) (r3 := 0) rfl rfl (by decide) rfl ⟨rfl, rfl⟩ rfl ?_
        refine wi_iload_n (i := 2) (e := x8) (nx := 55) (r1 := 0) (r2 := 0) (r3 := 0) rfl rfl ?_
        refine wr_aw (k0 := 69) (a := x8) (f := i20) (x := h 69 i20) (nx := 56) (r1 := 0) (r2 := 0) (r3 := 0) rfl (by decide) rfl (by omega) (by omega) (by decide) (u10 69 i20 (fo_nk rfl)) ?_
        refine wr_gst (v := wv 21) (nx := 59) (r1 := 20) (r2 := 0) (r3 := 0) rfl rfl rfl ?_
        refine wr_acmp (cd := .ne) (x := h 69 i20) (y := 21) (nx := 62) (r1 := 71) (r2 := 0) (r3 := 0) rfl (by omega) (by omega) (fun (q23 : ((h 69 i20) = 21 ↔ Jvm.ClassFile.ACond.ne = .eq)) => ?_) (fun (q23 : ¬ ((h 69 i20) = 21 ↔ Jvm.ClassFile.ACond.ne = .eq)) => ?_)
        ·
          have q23 : ¬ ((h 69 i20) = 21) := by simpa using q23
          refine wi_iload_n (i := 1) (e := x7) (nx := 72) (r1 := 0) (r2 := 0) (r3 := 0) rfl rfl ?_
          refine wi_bipush (n := 100) (nx := 74) (r1 := 0) (r2 := 0) (r3 := 0) rfl (by decide) ?_
          refine wi_icmp (cd := .ge) (nx := 77) (r1 := 96) (r2 := 0) (r3 := 0) rfl (by omega) (by omega) (fun (q24 : 100 ≤ x7) => ?_) (fun (q24 : ¬ (100 ≤ x7)) => ?_)
          ·
            refine wi_iload_n (i := 1) (e := x7) (nx := 97) (r1 := 0) (r2 := 0) (r3 := 0) rfl rfl ?_
            refine wi_ireturn (nx := 98) (r1 := 0) (r2 := 0) (r3 := 0) rfl rfl ?_
            exact k h10 x7 g10 F11 (by omega) (show (h10 63 5) ≤ (h10 18 16) by omega) (show (h10 63 5) < (h10 18 16) ∨ ((h10 18 7) ≤ (h10 3 2) ∧ (h10 66 1) = (h10 3 2) - (h10 18 7)) ∨ ((h10 3 2) < (h10 18 7) ∧ (h10 66 1) = 0) by omega) (show (h 18 16) ≤ (h10 18 16) ∧ (h10 18 16) ≤ (h 18 16) + 50000 by omega) X10_0
          ·
            refine wi_aload_n (i := 0) (x := 68) (nx := 78) (r1 := 0) (r2 := 0) (r3 := 0) rfl rfl ?_
            refine wi_aload_n (i := 0) (x := 68) (nx := 79) (r1 := 0) (r2 := 0) (r3 := 0) rfl rfl ?_
            refine wr_gr (k0 := 68) (x := 69) (nx := 82) (r1 := 8) (r2 := 4) (r3 := 0) rfl rfl (by decide) rfl ⟨rfl, rfl⟩ rfl ?_
            refine wi_iload_n (i := 2) (e := x8) (nx := 83) (r1 := 0) (r2 := 0) (r3 := 0) rfl rfl ?_
            refine wr_aw (k0 := 69) (a := x8) (f := i20) (x := h 69 i20) (nx := 84) (r1 := 0) (r2 := 0) (r3 := 0) rfl (by decide) rfl (by omega) (by omega) (by decide) (u10 69 i20 (fo_nk rfl)) ?_
            refine wi_aload_n (i := 0) (x := 68) (nx := 85) (r1 := 0) (r2 := 0) (r3 := 0) rfl rfl ?_
            refine wr_gr (k0 := 68) (x := 70) (nx := 88) (r1 := 8) (r2 := 5) (r3 := 0) rfl rfl (by decide) rfl ⟨rfl, rfl⟩ rfl ?_
            refine wi_iload_n (i := 2) (e := x8) (nx := 89) (r1 := 0) (r2 := 0) (r3 := 0) rfl rfl ?_
            have b25 := gi_b (lo := -2147483648) (hi := 2147483647) g 70 i20 rfl
            refine wr_ia (k0 := 70) (a := x8) (f := i20) (x := h 70 i20) (nx := 90) (r1 := 0) (r2 := 0) (r3 := 0) rfl (by decide) rfl (by omega) (by omega) (by decide) (u10 70 i20 (fo_nk rfl)) ?_
            have nn26 := xq1 i20 (by omega)
            refine wr_V (k0 := 68) (rest := []) (as := [.ref 68, wv (h 69 i20), vi (h 70 i20)]) (nx := 93) (r1 := 188) (r2 := 2) (r3 := 8) rfl rfl rfl (of_decide_eq_true rfl) rfl rfl (by decide) rfl rfl (of_decide_eq_true rfl) (of_decide_eq_true rfl) ?_
            have e28 : h10 3 9 = h 3 9 := (u10 3 9 rfl)
            refine ct_188_68 hcr  g10 (h 69 i20) (h 70 i20) (by omega) (by omega) (show (h10 63 5) ≤ (h10 18 16) by omega) (show (h10 63 5) < (h10 18 16) ∨ ((h10 18 7) ≤ (h10 3 2) ∧ (h10 66 1) = (h10 3 2) - (h10 18 7)) ∨ ((h10 3 2) < (h10 18 7) ∧ (h10 66 1) = 0) by omega) (show 0 ≤ (h10 3 9) by omega) (show (h10 18 16) ≤ 1999900000 by omega) (show ((h 69 i20) ≠ 16 ∧ (h 69 i20) ≠ 17) ∨ (0 ≤ (h 70 i20) ∧ (h 70 i20) ≤ 99) by omega) X10_0 (fun h27 z29 g27 u27 (fz29 : 0 ≤ z29 ∧ z29 ≤ 1) m27_0 (p27_0 : (h27 63 5) ≤ (h27 18 16)) (p27_1 : (h27 63 5) < (h27 18 16) ∨ ((h27 18 7) ≤ (h27 3 2) ∧ (h27 66 1) = (h27 3 2) - (h27 18 7)) ∨ ((h27 3 2) < (h27 18 7) ∧ (h27 66 1) = 0)) (p27_2 : (h10 18 16) ≤ (h27 18 16) ∧ (h27 18 16) ≤ (h10 18 16) + 420) y27_0 => ?_)
            have F30 := F11.then (by decide +kernel) u27
            have F31 := u10.then (by decide +kernel) u27
            have b32 := gi_b (lo := -2147483648) (hi := 2147483647) g27 63 5 rfl
            have b33 := gi_b (lo := -2147483648) (hi := 2147483647) g27 18 16 rfl
            have b34 := gi_b (lo := 0) (hi := 12) g27 18 7 rfl
            have e35 : h27 3 2 = h 3 2 := ((u27 3 2 rfl).trans (u10 3 2 rfl))
            have b36 := gi_b (lo := 0) (hi := 12) g27 66 1 rfl
            refine wk_i ?_
            refine wi_if (cd := .ne) (nx := 96) (r1 := 98) (r2 := 0) (r3 := 0) rfl (by omega) (fun (q37 : z29 ≠ 0) => ?_) (fun (q37 : ¬ (z29 ≠ 0)) => ?_)
            ·
              have f38 : 13 ≤ (h 69 i20) ∧ (h 69 i20) ≤ 19 := m27_0 (by omega)
              refine wr_iinc (i := 1) (n := 1) (v := x7) (fun e39 => [(1, vi e39), (0, .ref 68), (2, vi x8), (3, vi x9)]) (nx := 101) (r1 := 0) (r2 := 0) (r3 := 0) rfl rfl (fun _ => rfl) (fun e39 (fe39 : e39 = x7 + 1) => ?_)
              refine wr_iinc (i := 2) (n := 1) (v := x8) (fun e40 => [(2, vi e40), (1, vi e39), (0, .ref 68), (3, vi x9)]) (nx := 104) (r1 := 0) (r2 := 0) (r3 := 0) rfl rfl (fun _ => rfl) (fun e40 (fe40 : e40 = x8 + 1) => ?_)
              refine wr_iinc (i := 3) (n := 1) (v := x9) (fun e41 => [(3, vi e41), (2, vi e40), (1, vi e39), (0, .ref 68)]) (nx := 107) (r1 := 0) (r2 := 0) (r3 := 0) rfl rfl (fun _ => rfl) (fun e41 (fe41 : e41 = x9 + 1) => ?_)
              refine wi_goto (nx := 110) (r1 := 6) (r2 := 0) (r3 := 0) rfl ?_
              refine wp.lo (lo := [(0, .ref 68), (1, vi e39), (2, vi e40), (3, vi e41)]) ⟨rfl, rfl, rfl, rfl, trivial⟩ rfl ?_
              exact I10 e39 e40 e41 h27 ⟨g27, F30, F31, (show (0 ≤ e39 ∧ e39 ≤ 100) ∧ (0 ≤ e40 ∧ e40 ≤ 1000000) ∧ (0 ≤ e41 ∧ e41 ≤ 1000000) ∧ ((h27 63 5) ≤ (h27 18 16)) ∧ ((h27 63 5) < (h27 18 16) ∨ ((h27 18 7) ≤ (h27 3 2) ∧ (h27 66 1) = (h27 3 2) - (h27 18 7)) ∨ ((h27 3 2) < (h27 18 7) ∧ (h27 66 1) = 0)) ∧ ((h 18 16) ≤ (h27 18 16)) ∧ ((h27 18 16) ≤ (h 18 16) + 420 * e39) by omega), y27_0⟩ (show ((1000000 : Int) + 1 - e41).toNat < ((1000000 : Int) + 1 - x9).toNat by omega)
            ·
              refine wi_iload_n (i := 1) (e := x7) (nx := 97) (r1 := 0) (r2 := 0) (r3 := 0) rfl rfl ?_
              refine wi_ireturn (nx := 98) (r1 := 0) (r2 := 0) (r3 := 0) rfl rfl ?_
              exact k h27 x7 g27 F30 (by omega) (show (h27 63 5) ≤ (h27 18 16) by omega) (show (h27 63 5) < (h27 18 16) ∨ ((h27 18 7) ≤ (h27 3 2) ∧ (h27 66 1) = (h27 3 2) - (h27 18 7)) ∨ ((h27 3 2) < (h27 18 7) ∧ (h27 66 1) = 0) by omega) (show (h 18 16) ≤ (h27 18 16) ∧ (h27 18 16) ≤ (h 18 16) + 50000 by omega) y27_0
        ·
          have q23 : ((h 69 i20) = 21) := by simpa using q23
          refine wi_aload_n (i := 0) (x := 68) (nx := 63) (r1 := 0) (r2 := 0) (r3 := 0) rfl rfl ?_
          refine wi_iload_n (i := 2) (e := x8) (nx := 64) (r1 := 0) (r2 := 0) (r3 := 0) rfl rfl ?_
          refine wr_V (k0 := 68) (rest := []) (as := [.ref 68, vi x8]) (nx := 67) (r1 := 187) (r2 := 1) (r3 := 8) rfl rfl rfl (of_decide_eq_true rfl) rfl rfl (by decide) rfl rfl (of_decide_eq_true rfl) (of_decide_eq_true rfl) ?_
          refine ct_187_68 hcr  g10 x8 (by omega)  (fun h24 z25 g24 u24 (fz25 : 1 ≤ z25 ∧ z25 ≤ 80) => ?_)
          have F26 := F11.then (by decide +kernel) u24
          have F27 := u10.then (by decide +kernel) u24
          refine wk_i ?_
          refine wi_istore_n (i := 2) (e := z25) (lo2 := [(2, vi z25), (0, .ref 68), (1, vi x7), (3, vi x9)]) (nx := 68) (r1 := 0) (r2 := 0) (r3 := 0) rfl rfl ?_
          refine wi_goto (nx := 71) (r1 := 104) (r2 := 0) (r3 := 0) rfl ?_
          refine wr_iinc (i := 3) (n := 1) (v := x9) (fun e28 => [(3, vi e28), (2, vi z25), (0, .ref 68), (1, vi x7)]) (nx := 107) (r1 := 0) (r2 := 0) (r3 := 0) rfl rfl (fun _ => rfl) (fun e28 (fe28 : e28 = x9 + 1) => ?_)
          refine wi_goto (nx := 110) (r1 := 6) (r2 := 0) (r3 := 0) rfl ?_
          have e29 : h24 63 5 = h10 63 5 := (u24 63 5 rfl)
          have e30 : h24 18 16 = h10 18 16 := (u24 18 16 rfl)
          have e31 : h24 18 7 = h10 18 7 := (u24 18 7 rfl)
          have e32 : h24 3 2 = h 3 2 := ((u24 3 2 rfl).trans (u10 3 2 rfl))
          have e33 : h24 66 1 = h10 66 1 := (u24 66 1 rfl)
          refine wp.lo (lo := [(0, .ref 68), (1, vi x7), (2, vi z25), (3, vi e28)]) ⟨rfl, rfl, rfl, rfl, trivial⟩ rfl ?_
          have q35 : h24 8 = h10 8 := funext (fun i => (u24 8 i (fo_no_ok (by decide) i)))
          have q36 : h24 7 = h10 7 := funext (fun i => (u24 7 i (fo_no_ok (by decide) i)))
          have q37 : h24 19 = h10 19 := funext (fun i => (u24 19 i (fo_no_ok (by decide) i)))
          have q38 : h24 67 = h10 67 := funext (fun i => (u24 67 i (fo_no_ok (by decide) i)))
          have ml34 : MCL h24 := MCL.mv X10_0 q35 q36 q37 q38 (by omega) (by omega) (by omega) (by omega)
          exact I10 x7 z25 e28 h24 ⟨g24, F26, F27, (show (0 ≤ x7 ∧ x7 ≤ 100) ∧ (0 ≤ z25 ∧ z25 ≤ 1000000) ∧ (0 ≤ e28 ∧ e28 ≤ 1000000) ∧ ((h24 63 5) ≤ (h24 18 16)) ∧ ((h24 63 5) < (h24 18 16) ∨ ((h24 18 7) ≤ (h24 3 2) ∧ (h24 66 1) = (h24 3 2) - (h24 18 7)) ∨ ((h24 3 2) < (h24 18 7) ∧ (h24 66 1) = 0)) ∧ ((h 18 16) ≤ (h24 18 16)) ∧ ((h24 18 16) ≤ (h 18 16) + 420 * x7) by omega), ml34⟩ (show ((1000000 : Int) + 1 - e28).toNat < ((1000000 : Int) + 1 - x9).toNat by omega)
      ·
        have q22 : ((h 69 i20) = 20) := by simpa using q22
        refine wi_aload_n (i := 0) (x := 68) (nx := 33) (r1 := 0) (r2 := 0) (r3 := 0) rfl rfl ?_
        refine wr_gr (k0 := 68) (x := 71) (nx := 36) (r1 := 8) (r2 := 6) (r3 := 0) rfl rfl (by decide) rfl ⟨rfl, rfl⟩ rfl ?_
        refine wi_iload_n (i := 2) (e := x8) (nx := 37) (r1 := 0) (r2 := 0) (r3 := 0) rfl rfl ?_
        refine wi_aload_n (i := 0) (x := 68) (nx := 38) (r1 := 0) (r2 := 0) (r3 := 0) rfl rfl ?_
        refine wr_gr (k0 := 68) (x := 70) (nx := 41) (r1 := 8) (r2 := 5) (r3 := 0) rfl rfl (by decide) rfl ⟨rfl, rfl⟩ rfl ?_
        refine wi_iload_n (i := 2) (e := x8) (nx := 42) (r1 := 0) (r2 := 0) (r3 := 0) rfl rfl ?_
        have b23 := gi_b (lo := -2147483648) (hi := 2147483647) g 70 i20 rfl
        refine wr_ia (k0 := 70) (a := x8) (f := i20) (x := h 70 i20) (nx := 43) (r1 := 0) (r2 := 0) (r3 := 0) rfl (by decide) rfl (by omega) (by omega) (by decide) (u10 70 i20 (fo_nk rfl)) ?_
        refine wr_is (k0 := 71) (a := x8) (f := i20) (x := h 70 i20) (bl := -2147483648) (bh := 2147483647) (nx := 44) (r1 := 0) (r2 := 0) (r3 := 0) rfl (by decide) rfl (by omega) (by omega) (by decide) g10 rfl (by omega) (fun h24 g24 w24 u24 => ?_)
        have F25 := F11.then rfl (FR.rngp (lo := 71) (hi := 71) u24 (by decide))
        have F26 := u10.then rfl (FR.rngp (lo := 71) (hi := 71) u24 (by decide))
        refine wr_iinc (i := 2) (n := 1) (v := x8) (fun e27 => [(2, vi e27), (0, .ref 68), (1, vi x7), (3, vi x9)]) (nx := 47) (r1 := 0) (r2 := 0) (r3 := 0) rfl rfl (fun _ => rfl) (fun e27 (fe27 : e27 = x8 + 1) => ?_)
        refine wi_goto (nx := 50) (r1 := 104) (r2 := 0) (r3 := 0) rfl ?_
        refine wr_iinc (i := 3) (n := 1) (v := x9) (fun e28 => [(3, vi e28), (2, vi e27), (0, .ref 68), (1, vi x7)]) (nx := 107) (r1 := 0) (r2 := 0) (r3 := 0) rfl rfl (fun _ => rfl) (fun e28 (fe28 : e28 = x9 + 1) => ?_)
        refine wi_goto (nx := 110) (r1 := 6) (r2 := 0) (r3 := 0) rfl ?_
        have e29 : h24 63 5 = h10 63 5 := (u24 63 5 (fn_a (by omega) fn_0))
        have e30 : h24 18 16 = h10 18 16 := (u24 18 16 (fn_a (by omega) fn_0))
        have e31 : h24 18 7 = h10 18 7 := (u24 18 7 (fn_a (by omega) fn_0))
        have e32 : h24 3 2 = h 3 2 := ((u24 3 2 (fn_a (by omega) fn_0)).trans (u10 3 2 rfl))
        have e33 : h24 66 1 = h10 66 1 := (u24 66 1 (fn_a (by omega) fn_0))
        refine wp.lo (lo := [(0, .ref 68), (1, vi x7), (2, vi e27), (3, vi e28)]) ⟨rfl, rfl, rfl, rfl, trivial⟩ rfl ?_
        have q35 : h24 8 = h10 8 := funext (fun i => (u24 8 i (fn_a (by omega) fn_0)))
        have q36 : h24 7 = h10 7 := funext (fun i => (u24 7 i (fn_a (by omega) fn_0)))
        have q37 : h24 19 = h10 19 := funext (fun i => (u24 19 i (fn_a (by omega) fn_0)))
        have q38 : h24 67 = h10 67 := funext (fun i => (u24 67 i (fn_a (by omega) fn_0)))
        have ml34 : MCL h24 := MCL.mv X10_0 q35 q36 q37 q38 (by omega) (by omega) (by omega) (by omega)
        exact I10 x7 e27 e28 h24 ⟨g24, F25, F26, (show (0 ≤ x7 ∧ x7 ≤ 100) ∧ (0 ≤ e27 ∧ e27 ≤ 1000000) ∧ (0 ≤ e28 ∧ e28 ≤ 1000000) ∧ ((h24 63 5) ≤ (h24 18 16)) ∧ ((h24 63 5) < (h24 18 16) ∨ ((h24 18 7) ≤ (h24 3 2) ∧ (h24 66 1) = (h24 3 2) - (h24 18 7)) ∨ ((h24 3 2) < (h24 18 7) ∧ (h24 66 1) = 0)) ∧ ((h 18 16) ≤ (h24 18 16)) ∧ ((h24 18 16) ≤ (h 18 16) + 420 * x7) by omega), ml34⟩ (show ((1000000 : Int) + 1 - e28).toNat < ((1000000 : Int) + 1 - x9).toNat by omega)
-- method 64: Bank.runScript()I
set_option maxRecDepth 100000 in
set_option maxHeartbeats 100000000 in
theorem ct_64_0 {L : Nat} {xs : Nat → Int32} {d b c : Nat} {h : hp} {cr : Nat → Nat → Option Nat} {Q : hp_Q} (hcr : CR cr) (hr : 1 ≤ b ∧ 6 ≤ c)  {tB : Nat → Int} {tn  : Int} (g : GI h)   (pp0 : h 63 5 ≤ h 18 16) (pp1 : h 63 5 < h 18 16 ∨ (h 18 7 ≤ h 3 2 ∧ h 66 1 = h 3 2 - h 18 7) ∨ (h 3 2 < h 18 7 ∧ h 66 1 = 0)) (pp2 : 0 ≤ h 3 9) (pp3 : h 18 16 ≤ 1900000000) (xq0 : BufC tB tn h) (xq1 : MCI h) (k : ∀ (h2 : hp) (z0 : Int) , GI h2 → FR [(19, 19, none), (20, 20, none), (22, 23, none), (24, 25, none), (26, 27, none), (28, 28, none), (29, 36, none), (57, 57, none), (58, 58, none), (59, 59, none), (60, 60, none), (61, 62, none), (64, 64, none), (65, 65, none), (67, 67, none), (69, 69, none), (70, 70, none), (71, 71, none), (72, 72, none), (75, 93, none), (94, 112, none), (113, 131, none), (132, 150, none), (151, 169, none), (170, 188, none), (189, 207, none), (1, 1, some (1, 9)), (18, 18, some (7, 13)), (18, 18, some (15, 16)), (56, 56, some (6, 7)), (56, 56, some (9, 12)), (63, 63, some (4, 5)), (63, 63, some (7, 7)), (66, 66, some (1, 1)), (68, 68, some (8, 10)), (73, 73, some (1, 2))] h h2 → (0 ≤ z0 ∧ z0 ≤ 100) → (h2 1 1 = 0) → (h2 1 2 = sc_ec tB tn) → (h2 1 3 = sc_ep tB tn) → (h2 63 5 ≤ h2 18 16) → (h2 63 5 < h2 18 16 ∨ (h2 18 7 ≤ h2 3 2 ∧ h2 66 1 = h2 3 2 - h2 18 7) ∨ (h2 3 2 < h2 18 7 ∧ h2 66 1 = 0)) → (h 18 16 ≤ h2 18 16 ∧ h2 18 16 ≤ h 18 16 + 50000) → (MCI h2) → Q (.inl (some (vi z0))) (hp_w h2 cr) b c) (kx1 : ∀ (h2 : hp), GI h2 → FR [(19, 19, none), (20, 20, none), (22, 23, none), (24, 25, none), (26, 27, none), (28, 28, none), (29, 36, none), (57, 57, none), (58, 58, none), (59, 59, none), (60, 60, none), (61, 62, none), (64, 64, none), (65, 65, none), (67, 67, none), (69, 69, none), (70, 70, none), (71, 71, none), (72, 72, none), (75, 93, none), (94, 112, none), (113, 131, none), (132, 150, none), (151, 169, none), (170, 188, none), (189, 207, none), (1, 1, some (1, 9)), (18, 18, some (7, 13)), (18, 18, some (15, 16)), (56, 56, some (6, 7)), (56, 56, some (9, 12)), (63, 63, some (4, 5)), (63, 63, some (7, 7)), (66, 66, some (1, 1)), (68, 68, some (8, 10)), (73, 73, some (1, 2))] h h2 → (h2 1 1 = 0) → (h2 1 2 = sc_ec tB tn) → (h2 1 3 = sc_ep tB tn) → (h2 63 5 ≤ h2 18 16) → (h2 63 5 < h2 18 16 ∨ (h2 18 7 ≤ h2 3 2 ∧ h2 66 1 = h2 3 2 - h2 18 7) ∨ (h2 3 2 < h2 18 7 ∧ h2 66 1 = 0)) → (h2 18 16 = h 18 16) → (MCI h2) → Q (.inr 1) (hp_w h2 cr) (b - 1) (c - 6)) : wp (md_xa (L, xs)) (d + 105) 64 (0, [(0, .ref 0)], [], hp_w h cr, b, c) Q := by
  have F0 : FR [(19, 19, none), (20, 20, none), (22, 23, none), (24, 25, none), (26, 27, none), (28, 28, none), (29, 36, none), (57, 57, none), (58, 58, none), (59, 59, none), (60, 60, none), (61, 62, none), (64, 64, none), (65, 65, none), (67, 67, none), (69, 69, none), (70, 70, none), (71, 71, none), (72, 72, none), (75, 93, none), (94, 112, none), (113, 131, none), (132, 150, none), (151, 169, none), (170, 188, none), (189, 207, none), (1, 1, some (1, 9)), (18, 18, some (7, 13)), (18, 18, some (15, 16)), (56, 56, some (6, 7)), (56, 56, some (9, 12)), (63, 63, some (4, 5)), (63, 63, some (7, 7)), (66, 66, some (1, 1)), (68, 68, some (8, 10)), (73, 73, some (1, 2))] h h := FR.refl
  have tb_1 : h 1 1 = tn := xq0.2.1
  have tb_2 : 0 ≤ tn ∧ tn ≤ 800 := xq0.2.2
  have b1 := gi_b (lo := -2147483648) (hi := 2147483647) g 63 5 rfl
  have b2 := gi_b (lo := -2147483648) (hi := 2147483647) g 18 16 rfl
  have b3 := gi_b (lo := 0) (hi := 12) g 18 7 rfl
  have b4 := gi_b (lo := 0) (hi := 12) g 3 2 rfl
  have b5 := gi_b (lo := 0) (hi := 12) g 66 1 rfl
  have b6 := gi_b (lo := -2147483648) (hi := 2147483647) g 3 9 rfl
  refine wi_aload_n (i := 0) (x := 0) (nx := 1) (r1 := 0) (r2 := 0) (r3 := 0) rfl rfl ?_
  refine wr_gr (k0 := 0) (x := 68) (nx := 4) (r1 := 0) (r2 := 7) (r3 := 0) rfl rfl (by decide) rfl ⟨rfl, rfl⟩ rfl ?_
  refine wr_V (k0 := 68) (rest := []) (as := [.ref 68]) (nx := 7) (r1 := 182) (r2 := 0) (r3 := 8) rfl rfl rfl (of_decide_eq_true rfl) rfl rfl (by decide) rfl rfl (of_decide_eq_true rfl) (of_decide_eq_true rfl) ?_
  refine ct_182_68 hcr  g    xq0 xq1.2.2 (fun h7 z8 g7 u7 (fz8 : 0 ≤ z8 ∧ z8 ≤ 1) (p7_0 : (z8 = 1 ∧ sc_ec tB tn = 0) ∨ (z8 = 0 ∧ 1 ≤ sc_ec tB tn)) (p7_1 : (h7 1 2) = sc_ec tB tn) (p7_2 : (h7 1 3) = sc_ep tB tn) y7_0 => ?_)
  have F9 := F0.then (by decide +kernel) u7
  have b10 := gi_b (lo := -2147483648) (hi := 2147483647) g7 1 2 rfl
  have b11 := gi_b (lo := -2147483648) (hi := 2147483647) g7 1 3 rfl
  refine wk_i ?_
  refine wi_istore_n (i := 1) (e := z8) (lo2 := [(1, vi z8), (0, .ref 0)]) (nx := 8) (r1 := 0) (r2 := 0) (r3 := 0) rfl rfl ?_
  refine wi_aload_n (i := 0) (x := 0) (nx := 9) (r1 := 0) (r2 := 0) (r3 := 0) rfl rfl ?_
  refine wr_gr (k0 := 0) (x := 1) (nx := 12) (r1 := 0) (r2 := 0) (r3 := 0) rfl rfl (by decide) rfl ⟨rfl, rfl⟩ rfl ?_
  refine wi_iconst (n := 0) (nx := 13) (r1 := 0) (r2 := 0) (r3 := 0) rfl ?_
  refine wr_pf0 (k0 := 1) (x := 0) (bl := 0) (bh := 800) (nx := 16) (r1 := 1) (r2 := 1) (r3 := 0) rfl (by decide) rfl ⟨rfl, rfl⟩ rfl rfl g7 rfl (by omega) (fun h12 g12 w12 u12 => ?_)
  have F13 := F9.then rfl u12
  refine wi_iload_n (i := 1) (e := z8) (nx := 17) (r1 := 0) (r2 := 0) (r3 := 0) rfl rfl ?_
  refine wi_if (cd := .ne) (nx := 20) (r1 := 30) (r2 := 0) (r3 := 0) rfl (by omega) (fun (q14 : z8 ≠ 0) => ?_) (fun (q14 : ¬ (z8 ≠ 0)) => ?_)
  ·
    refine wi_aload_n (i := 0) (x := 0) (nx := 31) (r1 := 0) (r2 := 0) (r3 := 0) rfl rfl ?_
    refine wr_gr (k0 := 0) (x := 73) (nx := 34) (r1 := 0) (r2 := 8) (r3 := 0) rfl rfl (by decide) rfl ⟨rfl, rfl⟩ rfl ?_
    refine wi_aload_n (i := 0) (x := 0) (nx := 35) (r1 := 0) (r2 := 0) (r3 := 0) rfl rfl ?_
    refine wr_gr (k0 := 0) (x := 18) (nx := 38) (r1 := 0) (r2 := 3) (r3 := 0) rfl rfl (by decide) rfl ⟨rfl, rfl⟩ rfl ?_
    refine wr_V (k0 := 73) (rest := []) (as := [.ref 73, .ref 18]) (nx := 41) (r1 := 192) (r2 := 1) (r3 := 9) rfl rfl rfl (of_decide_eq_true rfl) rfl rfl (by decide) rfl rfl (of_decide_eq_true rfl) (of_decide_eq_true rfl) ?_
    have e16 : h12 63 5 = h 63 5 := ((u12 63 5 rfl).trans (u7 63 5 rfl))
    have e17 : h12 18 16 = h 18 16 := ((u12 18 16 rfl).trans (u7 18 16 rfl))
    have e18 : h12 18 7 = h 18 7 := ((u12 18 7 rfl).trans (u7 18 7 rfl))
    have e19 : h12 3 2 = h 3 2 := ((u12 3 2 rfl).trans (u7 3 2 rfl))
    have e20 : h12 66 1 = h 66 1 := ((u12 66 1 rfl).trans (u7 66 1 rfl))
    have q22 : h12 8 = h 8 := funext (fun i => ((u12 8 i rfl).trans (u7 8 i (fo_no_ok (by decide) i))))
    have q23 : h12 7 = h 7 := funext (fun i => ((u12 7 i rfl).trans (u7 7 i (fo_no_ok (by decide) i))))
    have q24 : h12 19 = h 19 := funext (fun i => ((u12 19 i rfl).trans (u7 19 i (fo_no_ok (by decide) i))))
    have q25 : h12 67 = h 67 := funext (fun i => ((u12 67 i rfl).trans (u7 67 i (fo_no_ok (by decide) i))))
    have ml21 : MCL h12 := MCL.mv xq1.1 q22 q23 q24 q25 (by omega) (by omega) (by omega) (by omega)
    have q26 : h12 8 = h 8 := funext (fun i => ((u12 8 i rfl).trans (u7 8 i (fo_no_ok (by decide) i))))
    have q27 : h12 7 = h 7 := funext (fun i => ((u12 7 i rfl).trans (u7 7 i (fo_no_ok (by decide) i))))
    have b28 := gi_b (lo := 0) (hi := 6) g 73 1 rfl
    have e29 : h12 73 1 = h 73 1 := ((u12 73 1 rfl).trans (u7 73 1 rfl))
    have b30 := gi_b (lo := 0) (hi := 6) g 73 2 rfl
    have e31 : h12 73 2 = h 73 2 := ((u12 73 2 rfl).trans (u7 73 2 rfl))
    refine ct_192_73_18 hcr  g12    ml21.1 (HIv.mv xq1.2.1 q26 q27 (by omega) (by omega) (sv_seven (P := fun x => ∀ i, h12 (76 + 19 * x) i = h (76 + 19 * x) i) (fun i => ((u12 76 i (fn_a (by omega) fn_0)).trans (u7 76 i (fo_nk rfl)))) (fun i => ((u12 95 i (fn_a (by omega) fn_0)).trans (u7 95 i (fo_nk rfl)))) (fun i => ((u12 114 i (fn_a (by omega) fn_0)).trans (u7 114 i (fo_nk rfl)))) (fun i => ((u12 133 i (fn_a (by omega) fn_0)).trans (u7 133 i (fo_nk rfl)))) (fun i => ((u12 152 i (fn_a (by omega) fn_0)).trans (u7 152 i (fo_nk rfl)))) (fun i => ((u12 171 i (fn_a (by omega) fn_0)).trans (u7 171 i (fo_nk rfl)))) (fun i => ((u12 190 i (fn_a (by omega) fn_0)).trans (u7 190 i (fo_nk rfl))))) (by omega) (by omega)) (fun h15 g15 u15 y15_0 => ?_)
    have F32 := F13.then (by decide +kernel) u15
    refine wk_n ?_
    refine wi_aload_n (i := 0) (x := 0) (nx := 42) (r1 := 0) (r2 := 0) (r3 := 0) rfl rfl ?_
    refine wr_gr (k0 := 0) (x := 18) (nx := 45) (r1 := 0) (r2 := 3) (r3 := 0) rfl rfl (by decide) rfl ⟨rfl, rfl⟩ rfl ?_
    refine wr_gi0 (k0 := 18) (x := h 18 16) (nx := 48) (r1 := 4) (r2 := 16) (r3 := 0) rfl rfl (by decide) rfl ⟨rfl, rfl⟩ rfl ((u15 18 16 rfl).trans ((u12 18 16 rfl).trans (u7 18 16 rfl))) ?_
    refine wi_istore_n (i := 2) (e := h 18 16) (lo2 := [(2, vi (h 18 16)), (1, vi z8), (0, .ref 0)]) (nx := 49) (r1 := 0) (r2 := 0) (r3 := 0) rfl rfl ?_
    refine wi_aload_n (i := 0) (x := 0) (nx := 50) (r1 := 0) (r2 := 0) (r3 := 0) rfl rfl ?_
    refine wr_gr (k0 := 0) (x := 68) (nx := 53) (r1 := 0) (r2 := 7) (r3 := 0) rfl rfl (by decide) rfl ⟨rfl, rfl⟩ rfl ?_
    refine wr_V (k0 := 68) (rest := []) (as := [.ref 68]) (nx := 56) (r1 := 186) (r2 := 0) (r3 := 8) rfl rfl rfl (of_decide_eq_true rfl) rfl rfl (by decide) rfl rfl (of_decide_eq_true rfl) (of_decide_eq_true rfl) ?_
    have e34 : h15 63 5 = h 63 5 := ((u15 63 5 rfl).trans ((u12 63 5 rfl).trans (u7 63 5 rfl)))
    have e35 : h15 18 16 = h 18 16 := ((u15 18 16 rfl).trans ((u12 18 16 rfl).trans (u7 18 16 rfl)))
    have e36 : h15 18 7 = h 18 7 := ((u15 18 7 rfl).trans ((u12 18 7 rfl).trans (u7 18 7 rfl)))
    have e37 : h15 3 2 = h 3 2 := ((u15 3 2 rfl).trans ((u12 3 2 rfl).trans (u7 3 2 rfl)))
    have e38 : h15 66 1 = h 66 1 := ((u15 66 1 rfl).trans ((u12 66 1 rfl).trans (u7 66 1 rfl)))
    have e39 : h15 3 9 = h 3 9 := ((u15 3 9 rfl).trans ((u12 3 9 rfl).trans (u7 3 9 rfl)))
    have q42 : h15 8 = h12 8 := funext (fun i => (u15 8 i (fo_no_ok (by decide) i)))
    have q43 : h15 7 = h12 7 := funext (fun i => (u15 7 i (fo_no_ok (by decide) i)))
    have q44 : h15 19 = h12 19 := funext (fun i => (u15 19 i (fo_no_ok (by decide) i)))
    have q45 : h15 67 = h12 67 := funext (fun i => (u15 67 i (fo_no_ok (by decide) i)))
    have ml41 : MCL h15 := MCL.mv ml21 q42 q43 q44 q45 (by omega) (by omega) (by omega) (by omega)
    have q47 : h15 69 = h7 69 := funext (fun i => ((u15 69 i (fo_no_ok (by decide) i)).trans (u12 69 i rfl)))
    have q48 : h15 70 = h7 70 := funext (fun i => ((u15 70 i (fo_no_ok (by decide) i)).trans (u12 70 i rfl)))
    have nb46 : NBc (h15 69) (h15 70) := by rw [q47, q48]; exact y7_0
    refine ct_186_68 hcr  g15   (show (h15 63 5) ≤ (h15 18 16) by omega) (show (h15 63 5) < (h15 18 16) ∨ ((h15 18 7) ≤ (h15 3 2) ∧ (h15 66 1) = (h15 3 2) - (h15 18 7)) ∨ ((h15 3 2) < (h15 18 7) ∧ (h15 66 1) = 0) by omega) (show 0 ≤ (h15 3 9) by omega) (show (h15 18 16) ≤ 1999000000 by omega) ml41 nb46 (fun h33 z40 g33 u33 (fz40 : 0 ≤ z40 ∧ z40 ≤ 100) (p33_0 : (h33 63 5) ≤ (h33 18 16)) (p33_1 : (h33 63 5) < (h33 18 16) ∨ ((h33 18 7) ≤ (h33 3 2) ∧ (h33 66 1) = (h33 3 2) - (h33 18 7)) ∨ ((h33 3 2) < (h33 18 7) ∧ (h33 66 1) = 0)) (p33_2 : (h15 18 16) ≤ (h33 18 16) ∧ (h33 18 16) ≤ (h15 18 16) + 50000) y33_0 => ?_)
    have F49 := F32.then (by decide +kernel) u33
    have b50 := gi_b (lo := -2147483648) (hi := 2147483647) g33 63 5 rfl
    have b51 := gi_b (lo := -2147483648) (hi := 2147483647) g33 18 16 rfl
    have b52 := gi_b (lo := 0) (hi := 12) g33 18 7 rfl
    have e53 : h33 3 2 = h 3 2 := ((u33 3 2 rfl).trans ((u15 3 2 rfl).trans ((u12 3 2 rfl).trans (u7 3 2 rfl))))
    have b54 := gi_b (lo := 0) (hi := 12) g33 66 1 rfl
    refine wk_i ?_
    refine wi_istore_n (i := 3) (e := z40) (lo2 := [(3, vi z40), (2, vi (h 18 16)), (1, vi z8), (0, .ref 0)]) (nx := 57) (r1 := 0) (r2 := 0) (r3 := 0) rfl rfl ?_
    refine wi_iload_n (i := 3) (e := z40) (nx := 58) (r1 := 0) (r2 := 0) (r3 := 0) rfl rfl ?_
    refine wi_if (cd := .gt) (nx := 61) (r1 := 72) (r2 := 0) (r3 := 0) rfl (by omega) (fun (q55 : 0 < z40) => ?_) (fun (q55 : ¬ (0 < z40)) => ?_)
    ·
      refine wi_aload_n (i := 0) (x := 0) (nx := 73) (r1 := 0) (r2 := 0) (r3 := 0) rfl rfl ?_
      refine wr_gr (k0 := 0) (x := 73) (nx := 76) (r1 := 0) (r2 := 8) (r3 := 0) rfl rfl (by decide) rfl ⟨rfl, rfl⟩ rfl ?_
      refine wr_V (k0 := 73) (rest := []) (as := [.ref 73]) (nx := 79) (r1 := 193) (r2 := 0) (r3 := 9) rfl rfl rfl (of_decide_eq_true rfl) rfl rfl (by decide) rfl rfl (of_decide_eq_true rfl) (of_decide_eq_true rfl) ?_
      refine ct_193_73 hcr  g33    (fun h56 g56 u56 (p56_0 : ((h33 73 1) ≤ 5 ∧ (h56 73 1) = (h33 73 1) + 1) ∨ ((h33 73 1) = 6 ∧ (h56 73 1) = 0)) (p56_1 : ((h33 73 2) ≤ 5 ∧ (h56 73 2) = (h33 73 2) + 1) ∨ ((h33 73 2) = 6 ∧ (h56 73 2) = 6)) => ?_)
      have F57 := F49.then (by decide +kernel) u56
      have e58 : h33 73 1 = h 73 1 := ((u33 73 1 rfl).trans ((u15 73 1 rfl).trans ((u12 73 1 rfl).trans (u7 73 1 rfl))))
      have b59 := gi_b (lo := 0) (hi := 6) g56 73 1 rfl
      have e60 : h33 73 2 = h 73 2 := ((u33 73 2 rfl).trans ((u15 73 2 rfl).trans ((u12 73 2 rfl).trans (u7 73 2 rfl))))
      have b61 := gi_b (lo := 0) (hi := 6) g56 73 2 rfl
      refine wk_n ?_
      refine wi_iload_n (i := 3) (e := z40) (nx := 80) (r1 := 0) (r2 := 0) (r3 := 0) rfl rfl ?_
      refine wi_ireturn (nx := 81) (r1 := 0) (r2 := 0) (r3 := 0) rfl rfl ?_
      have e62 : h56 1 1 = 0 := ((u56 1 1 rfl).trans ((u33 1 1 rfl).trans ((u15 1 1 rfl).trans w12)))
      have e63 : h56 1 2 = h7 1 2 := ((u56 1 2 rfl).trans ((u33 1 2 rfl).trans ((u15 1 2 rfl).trans (u12 1 2 rfl))))
      have e64 : h56 1 3 = h7 1 3 := ((u56 1 3 rfl).trans ((u33 1 3 rfl).trans ((u15 1 3 rfl).trans (u12 1 3 rfl))))
      have e65 : h56 63 5 = h33 63 5 := (u56 63 5 rfl)
      have e66 : h56 18 16 = h33 18 16 := (u56 18 16 rfl)
      have e67 : h56 18 7 = h33 18 7 := (u56 18 7 rfl)
      have e68 : h56 3 2 = h 3 2 := ((u56 3 2 rfl).trans ((u33 3 2 rfl).trans ((u15 3 2 rfl).trans ((u12 3 2 rfl).trans (u7 3 2 rfl)))))
      have e69 : h56 66 1 = h33 66 1 := (u56 66 1 rfl)
      have q71 : h56 8 = h33 8 := funext (fun i => (u56 8 i (fo_no_ok (by decide) i)))
      have q72 : h56 7 = h33 7 := funext (fun i => (u56 7 i (fo_no_ok (by decide) i)))
      have q73 : h56 19 = h33 19 := funext (fun i => (u56 19 i (fo_no_ok (by decide) i)))
      have q74 : h56 67 = h33 67 := funext (fun i => (u56 67 i (fo_no_ok (by decide) i)))
      have ml70 : MCL h56 := MCL.mv y33_0 q71 q72 q73 q74 (by omega) (by omega) (by omega) (by omega)
      have q76 : h56 69 = h15 69 := funext (fun i => ((u56 69 i (fo_no_ok (by decide) i)).trans (u33 69 i (fo_no_ok (by decide) i))))
      have q77 : h56 70 = h15 70 := funext (fun i => ((u56 70 i (fo_no_ok (by decide) i)).trans (u33 70 i (fo_no_ok (by decide) i))))
      have nb75 : NBc (h56 69) (h56 70) := by rw [q76, q77]; exact nb46
      have q78 : h56 8 = h15 8 := funext (fun i => ((u56 8 i (fo_no_ok (by decide) i)).trans (u33 8 i (fo_no_ok (by decide) i))))
      have q79 : h56 7 = h15 7 := funext (fun i => ((u56 7 i (fo_no_ok (by decide) i)).trans (u33 7 i (fo_no_ok (by decide) i))))
      have e80 : h15 73 1 = h 73 1 := ((u15 73 1 rfl).trans ((u12 73 1 rfl).trans (u7 73 1 rfl)))
      have e81 : h15 73 2 = h 73 2 := ((u15 73 2 rfl).trans ((u12 73 2 rfl).trans (u7 73 2 rfl)))
      exact k h56 z40 g56 F57 (by omega) (show (h56 1 1) = 0 by omega) (show (h56 1 2) = sc_ec tB tn by omega) (show (h56 1 3) = sc_ep tB tn by omega) (show (h56 63 5) ≤ (h56 18 16) by omega) (show (h56 63 5) < (h56 18 16) ∨ ((h56 18 7) ≤ (h56 3 2) ∧ (h56 66 1) = (h56 3 2) - (h56 18 7)) ∨ ((h56 3 2) < (h56 18 7) ∧ (h56 66 1) = 0) by omega) (show (h 18 16) ≤ (h56 18 16) ∧ (h56 18 16) ≤ (h 18 16) + 50000 by omega) ⟨ml70, (HIv.k y15_0 q78 q79 (by omega) (by omega) (sv_seven (P := fun x => ∀ i, h56 (76 + 19 * x) i = h15 (76 + 19 * x) i) (fun i => ((u56 76 i (fn_a (by omega) fn_0)).trans (u33 76 i (fo_nk rfl)))) (fun i => ((u56 95 i (fn_a (by omega) fn_0)).trans (u33 95 i (fo_nk rfl)))) (fun i => ((u56 114 i (fn_a (by omega) fn_0)).trans (u33 114 i (fo_nk rfl)))) (fun i => ((u56 133 i (fn_a (by omega) fn_0)).trans (u33 133 i (fo_nk rfl)))) (fun i => ((u56 152 i (fn_a (by omega) fn_0)).trans (u33 152 i (fo_nk rfl)))) (fun i => ((u56 171 i (fn_a (by omega) fn_0)).trans (u33 171 i (fo_nk rfl)))) (fun i => ((u56 190 i (fn_a (by omega) fn_0)).trans (u33 190 i (fo_nk rfl))))) (by omega) (by omega)), nb75⟩
    ·
      refine wi_aload_n (i := 0) (x := 0) (nx := 62) (r1 := 0) (r2 := 0) (r3 := 0) rfl rfl ?_
      refine wr_gr (k0 := 0) (x := 18) (nx := 65) (r1 := 0) (r2 := 3) (r3 := 0) rfl rfl (by decide) rfl ⟨rfl, rfl⟩ rfl ?_
      refine wr_gi0 (k0 := 18) (x := h33 18 16) (nx := 68) (r1 := 4) (r2 := 16) (r3 := 0) rfl rfl (by decide) rfl ⟨rfl, rfl⟩ rfl rfl ?_
      refine wi_iload_n (i := 2) (e := h 18 16) (nx := 69) (r1 := 0) (r2 := 0) (r3 := 0) rfl rfl ?_
      refine wi_icmp (cd := .eq) (nx := 72) (r1 := 79) (r2 := 0) (r3 := 0) rfl (by omega) (by omega) (fun (q56 : (h33 18 16) = (h 18 16)) => ?_) (fun (q56 : ¬ ((h33 18 16) = (h 18 16))) => ?_)
      ·
        refine wi_iload_n (i := 3) (e := z40) (nx := 80) (r1 := 0) (r2 := 0) (r3 := 0) rfl rfl ?_
        refine wi_ireturn (nx := 81) (r1 := 0) (r2 := 0) (r3 := 0) rfl rfl ?_
        have e57 : h33 1 1 = 0 := ((u33 1 1 rfl).trans ((u15 1 1 rfl).trans w12))
        have e58 : h33 1 2 = h7 1 2 := ((u33 1 2 rfl).trans ((u15 1 2 rfl).trans (u12 1 2 rfl)))
        have e59 : h33 1 3 = h7 1 3 := ((u33 1 3 rfl).trans ((u15 1 3 rfl).trans (u12 1 3 rfl)))
        have q61 : h33 69 = h15 69 := funext (fun i => (u33 69 i (fo_no_ok (by decide) i)))
        have q62 : h33 70 = h15 70 := funext (fun i => (u33 70 i (fo_no_ok (by decide) i)))
        have nb60 : NBc (h33 69) (h33 70) := by rw [q61, q62]; exact nb46
        have q63 : h33 8 = h15 8 := funext (fun i => (u33 8 i (fo_no_ok (by decide) i)))
        have q64 : h33 7 = h15 7 := funext (fun i => (u33 7 i (fo_no_ok (by decide) i)))
        have e65 : h33 73 1 = h 73 1 := ((u33 73 1 rfl).trans ((u15 73 1 rfl).trans ((u12 73 1 rfl).trans (u7 73 1 rfl))))
        have e66 : h15 73 1 = h 73 1 := ((u15 73 1 rfl).trans ((u12 73 1 rfl).trans (u7 73 1 rfl)))
        have e67 : h33 73 2 = h 73 2 := ((u33 73 2 rfl).trans ((u15 73 2 rfl).trans ((u12 73 2 rfl).trans (u7 73 2 rfl))))
        have e68 : h15 73 2 = h 73 2 := ((u15 73 2 rfl).trans ((u12 73 2 rfl).trans (u7 73 2 rfl)))
        exact k h33 z40 g33 F49 (by omega) (show (h33 1 1) = 0 by omega) (show (h33 1 2) = sc_ec tB tn by omega) (show (h33 1 3) = sc_ep tB tn by omega) (show (h33 63 5) ≤ (h33 18 16) by omega) (show (h33 63 5) < (h33 18 16) ∨ ((h33 18 7) ≤ (h33 3 2) ∧ (h33 66 1) = (h33 3 2) - (h33 18 7)) ∨ ((h33 3 2) < (h33 18 7) ∧ (h33 66 1) = 0) by omega) (show (h 18 16) ≤ (h33 18 16) ∧ (h33 18 16) ≤ (h 18 16) + 50000 by omega) ⟨y33_0, (HIv.n y15_0 q63 q64 (by omega) (by omega) (sv_seven (P := fun x => ∀ i, h33 (76 + 19 * x) i = h15 (76 + 19 * x) i) (fun i => (u33 76 i (fo_nk rfl))) (fun i => (u33 95 i (fo_nk rfl))) (fun i => (u33 114 i (fo_nk rfl))) (fun i => (u33 133 i (fo_nk rfl))) (fun i => (u33 152 i (fo_nk rfl))) (fun i => (u33 171 i (fo_nk rfl))) (fun i => (u33 190 i (fo_nk rfl)))) (by omega) (by omega)), nb60⟩
      ·
        refine wi_aload_n (i := 0) (x := 0) (nx := 73) (r1 := 0) (r2 := 0) (r3 := 0) rfl rfl ?_
        refine wr_gr (k0 := 0) (x := 73) (nx := 76) (r1 := 0) (r2 := 8) (r3 := 0) rfl rfl (by decide) rfl ⟨rfl, rfl⟩ rfl ?_
        refine wr_V (k0 := 73) (rest := []) (as := [.ref 73]) (nx := 79) (r1 := 193) (r2 := 0) (r3 := 9) rfl rfl rfl (of_decide_eq_true rfl) rfl rfl (by decide) rfl rfl (of_decide_eq_true rfl) (of_decide_eq_true rfl) ?_
        refine ct_193_73 hcr  g33    (fun h57 g57 u57 (p57_0 : ((h33 73 1) ≤ 5 ∧ (h57 73 1) = (h33 73 1) + 1) ∨ ((h33 73 1) = 6 ∧ (h57 73 1) = 0)) (p57_1 : ((h33 73 2) ≤ 5 ∧ (h57 73 2) = (h33 73 2) + 1) ∨ ((h33 73 2) = 6 ∧ (h57 73 2) = 6)) => ?_)
        have F58 := F49.then (by decide +kernel) u57
        have e59 : h33 73 1 = h 73 1 := ((u33 73 1 rfl).trans ((u15 73 1 rfl).trans ((u12 73 1 rfl).trans (u7 73 1 rfl))))
        have b60 := gi_b (lo := 0) (hi := 6) g57 73 1 rfl
        have e61 : h33 73 2 = h 73 2 := ((u33 73 2 rfl).trans ((u15 73 2 rfl).trans ((u12 73 2 rfl).trans (u7 73 2 rfl))))
        have b62 := gi_b (lo := 0) (hi := 6) g57 73 2 rfl
        refine wk_n ?_
        refine wi_iload_n (i := 3) (e := z40) (nx := 80) (r1 := 0) (r2 := 0) (r3 := 0) rfl rfl ?_
        refine wi_ireturn (nx := 81) (r1 := 0) (r2 := 0) (r3 := 0) rfl rfl ?_
        have e63 : h57 1 1 = 0 := ((u57 1 1 rfl).trans ((u33 1 1 rfl).trans ((u15 1 1 rfl).trans w12)))
        have e64 : h57 1 2 = h7 1 2 := ((u57 1 2 rfl).trans ((u33 1 2 rfl).trans ((u15 1 2 rfl).trans (u12 1 2 rfl))))
        have e65 : h57 1 3 = h7 1 3 := ((u57 1 3 rfl).trans ((u33 1 3 rfl).trans ((u15 1 3 rfl).trans (u12 1 3 rfl))))
        have e66 : h57 63 5 = h33 63 5 := (u57 63 5 rfl)
        have e67 : h57 18 16 = h33 18 16 := (u57 18 16 rfl)
        have e68 : h57 18 7 = h33 18 7 := (u57 18 7 rfl)
        have e69 : h57 3 2 = h 3 2 := ((u57 3 2 rfl).trans ((u33 3 2 rfl).trans ((u15 3 2 rfl).trans ((u12 3 2 rfl).trans (u7 3 2 rfl)))))
        have e70 : h57 66 1 = h33 66 1 := (u57 66 1 rfl)
        have q72 : h57 8 = h33 8 := funext (fun i => (u57 8 i (fo_no_ok (by decide) i)))
        have q73 : h57 7 = h33 7 := funext (fun i => (u57 7 i (fo_no_ok (by decide) i)))
        have q74 : h57 19 = h33 19 := funext (fun i => (u57 19 i (fo_no_ok (by decide) i)))
        have q75 : h57 67 = h33 67 := funext (fun i => (u57 67 i (fo_no_ok (by decide) i)))
        have ml71 : MCL h57 := MCL.mv y33_0 q72 q73 q74 q75 (by omega) (by omega) (by omega) (by omega)
        have q77 : h57 69 = h15 69 := funext (fun i => ((u57 69 i (fo_no_ok (by decide) i)).trans (u33 69 i (fo_no_ok (by decide) i))))
        have q78 : h57 70 = h15 70 := funext (fun i => ((u57 70 i (fo_no_ok (by decide) i)).trans (u33 70 i (fo_no_ok (by decide) i))))
        have nb76 : NBc (h57 69) (h57 70) := by rw [q77, q78]; exact nb46
        have q79 : h57 8 = h15 8 := funext (fun i => ((u57 8 i (fo_no_ok (by decide) i)).trans (u33 8 i (fo_no_ok (by decide) i))))
        have q80 : h57 7 = h15 7 := funext (fun i => ((u57 7 i (fo_no_ok (by decide) i)).trans (u33 7 i (fo_no_ok (by decide) i))))
        have e81 : h15 73 1 = h 73 1 := ((u15 73 1 rfl).trans ((u12 73 1 rfl).trans (u7 73 1 rfl)))
        have e82 : h15 73 2 = h 73 2 := ((u15 73 2 rfl).trans ((u12 73 2 rfl).trans (u7 73 2 rfl)))
        exact k h57 z40 g57 F58 (by omega) (show (h57 1 1) = 0 by omega) (show (h57 1 2) = sc_ec tB tn by omega) (show (h57 1 3) = sc_ep tB tn by omega) (show (h57 63 5) ≤ (h57 18 16) by omega) (show (h57 63 5) < (h57 18 16) ∨ ((h57 18 7) ≤ (h57 3 2) ∧ (h57 66 1) = (h57 3 2) - (h57 18 7)) ∨ ((h57 3 2) < (h57 18 7) ∧ (h57 66 1) = 0) by omega) (show (h 18 16) ≤ (h57 18 16) ∧ (h57 18 16) ≤ (h 18 16) + 50000 by omega) ⟨ml71, (HIv.k y15_0 q79 q80 (by omega) (by omega) (sv_seven (P := fun x => ∀ i, h57 (76 + 19 * x) i = h15 (76 + 19 * x) i) (fun i => ((u57 76 i (fn_a (by omega) fn_0)).trans (u33 76 i (fo_nk rfl)))) (fun i => ((u57 95 i (fn_a (by omega) fn_0)).trans (u33 95 i (fo_nk rfl)))) (fun i => ((u57 114 i (fn_a (by omega) fn_0)).trans (u33 114 i (fo_nk rfl)))) (fun i => ((u57 133 i (fn_a (by omega) fn_0)).trans (u33 133 i (fo_nk rfl)))) (fun i => ((u57 152 i (fn_a (by omega) fn_0)).trans (u33 152 i (fo_nk rfl)))) (fun i => ((u57 171 i (fn_a (by omega) fn_0)).trans (u33 171 i (fo_nk rfl)))) (fun i => ((u57 190 i (fn_a (by omega) fn_0)).trans (u33 190 i (fo_nk rfl))))) (by omega) (by omega)), nb76⟩
  ·
    refine wr_throw (Ex := 1) (nx := 23) (r1 := 1) (r2 := 0) (r3 := 1) rfl (by decide) rfl hr (by decide) ?_
    have e15 : h12 1 1 = 0 := w12
    have e16 : h12 1 2 = h7 1 2 := (u12 1 2 rfl)
    have e17 : h12 1 3 = h7 1 3 := (u12 1 3 rfl)
    have e18 : h12 63 5 = h 63 5 := ((u12 63 5 rfl).trans (u7 63 5 rfl))
    have e19 : h12 18 16 = h 18 16 := ((u12 18 16 rfl).trans (u7 18 16 rfl))
    have e20 : h12 18 7 = h 18 7 := ((u12 18 7 rfl).trans (u7 18 7 rfl))
    have e21 : h12 3 2 = h 3 2 := ((u12 3 2 rfl).trans (u7 3 2 rfl))
    have e22 : h12 66 1 = h 66 1 := ((u12 66 1 rfl).trans (u7 66 1 rfl))
    have q24 : h12 8 = h 8 := funext (fun i => ((u12 8 i rfl).trans (u7 8 i (fo_no_ok (by decide) i))))
    have q25 : h12 7 = h 7 := funext (fun i => ((u12 7 i rfl).trans (u7 7 i (fo_no_ok (by decide) i))))
    have q26 : h12 19 = h 19 := funext (fun i => ((u12 19 i rfl).trans (u7 19 i (fo_no_ok (by decide) i))))
    have q27 : h12 67 = h 67 := funext (fun i => ((u12 67 i rfl).trans (u7 67 i (fo_no_ok (by decide) i))))
    have ml23 : MCL h12 := MCL.mv xq1.1 q24 q25 q26 q27 (by omega) (by omega) (by omega) (by omega)
    have q29 : h12 69 = h7 69 := funext (fun i => (u12 69 i rfl))
    have q30 : h12 70 = h7 70 := funext (fun i => (u12 70 i rfl))
    have nb28 : NBc (h12 69) (h12 70) := by rw [q29, q30]; exact y7_0
    have q31 : h12 8 = h 8 := funext (fun i => ((u12 8 i rfl).trans (u7 8 i (fo_no_ok (by decide) i))))
    have q32 : h12 7 = h 7 := funext (fun i => ((u12 7 i rfl).trans (u7 7 i (fo_no_ok (by decide) i))))
    have b33 := gi_b (lo := 0) (hi := 6) g 73 1 rfl
    have e34 : h12 73 1 = h 73 1 := ((u12 73 1 rfl).trans (u7 73 1 rfl))
    have b35 := gi_b (lo := 0) (hi := 6) g 73 2 rfl
    have e36 : h12 73 2 = h 73 2 := ((u12 73 2 rfl).trans (u7 73 2 rfl))
    exact kx1 h12 g12 F13 (show (h12 1 1) = 0 by omega) (show (h12 1 2) = sc_ec tB tn by omega) (show (h12 1 3) = sc_ep tB tn by omega) (show (h12 63 5) ≤ (h12 18 16) by omega) (show (h12 63 5) < (h12 18 16) ∨ ((h12 18 7) ≤ (h12 3 2) ∧ (h12 66 1) = (h12 3 2) - (h12 18 7)) ∨ ((h12 3 2) < (h12 18 7) ∧ (h12 66 1) = 0) by omega) (show (h12 18 16) = (h 18 16) by omega) ⟨ml23, (HIv.mv xq1.2.1 q31 q32 (by omega) (by omega) (sv_seven (P := fun x => ∀ i, h12 (76 + 19 * x) i = h (76 + 19 * x) i) (fun i => ((u12 76 i (fn_a (by omega) fn_0)).trans (u7 76 i (fo_nk rfl)))) (fun i => ((u12 95 i (fn_a (by omega) fn_0)).trans (u7 95 i (fo_nk rfl)))) (fun i => ((u12 114 i (fn_a (by omega) fn_0)).trans (u7 114 i (fo_nk rfl)))) (fun i => ((u12 133 i (fn_a (by omega) fn_0)).trans (u7 133 i (fo_nk rfl)))) (fun i => ((u12 152 i (fn_a (by omega) fn_0)).trans (u7 152 i (fo_nk rfl)))) (fun i => ((u12 171 i (fn_a (by omega) fn_0)).trans (u7 171 i (fo_nk rfl)))) (fun i => ((u12 190 i (fn_a (by omega) fn_0)).trans (u7 190 i (fo_nk rfl))))) (by omega) (by omega)), nb28⟩
-- method 114: Setup.copyFrom(LPaintBank$Setup;)V
set_option maxRecDepth 100000 in
set_option maxHeartbeats 100000000 in
theorem ct_114_210_3 {L : Nat} {xs : Nat → Int32} {d b c : Nat} {h : hp} {cr : Nat → Nat → Option Nat} {Q : hp_Q} (hcr : CR cr)  (g : GI h)    (k : ∀ (h2 : hp) , GI h2 → FR [(211, 211, none), (212, 212, none), (213, 213, none), (214, 214, none), (215, 215, none), (216, 216, none), (210, 210, some (0, 9))] h h2 → (CPs h h2 210 3) → (∀ i : Nat, i < 12 → h2 214 i = h 7 i) → Q (.inl none) (hp_w h2 cr) b c) : wp (md_xa (L, xs)) d 114 (0, [(0, .ref 210), (1, .ref 3)], [], hp_w h cr, b, c) Q := by
  have F0 : FR [(211, 211, none), (212, 212, none), (213, 213, none), (214, 214, none), (215, 215, none), (216, 216, none), (210, 210, some (0, 9))] h h := FR.refl
  refine wi_aload_n (i := 0) (x := 210) (nx := 1) (r1 := 0) (r2 := 0) (r3 := 0) rfl rfl ?_
  refine wi_aload_n (i := 1) (x := 3) (nx := 2) (r1 := 0) (r2 := 0) (r3 := 0) rfl rfl ?_
  have b1 := gi_b (lo := 0) (hi := 5) g 3 0 rfl
  refine wr_gi0 (k0 := 3) (x := h 3 0) (nx := 5) (r1 := 2) (r2 := 0) (r3 := 0) rfl rfl (by decide) rfl ⟨rfl, rfl⟩ rfl rfl ?_
  refine wr_pf0 (k0 := 210) (x := h 3 0) (bl := 0) (bh := 5) (nx := 8) (r1 := 2) (r2 := 0) (r3 := 0) rfl (by decide) rfl ⟨rfl, rfl⟩ rfl rfl g rfl (by omega) (fun h2 g2 w2 u2 => ?_)
  have F3 := F0.then rfl u2
  refine wi_aload_n (i := 0) (x := 210) (nx := 9) (r1 := 0) (r2 := 0) (r3 := 0) rfl rfl ?_
  refine wi_aload_n (i := 1) (x := 3) (nx := 10) (r1 := 0) (r2 := 0) (r3 := 0) rfl rfl ?_
  have b4 := gi_b (lo := 0) (hi := 4) g 3 1 rfl
  refine wr_gi0 (k0 := 3) (x := h 3 1) (nx := 13) (r1 := 2) (r2 := 1) (r3 := 0) rfl rfl (by decide) rfl ⟨rfl, rfl⟩ rfl (u2 3 1 rfl) ?_
  refine wr_pf0 (k0 := 210) (x := h 3 1) (bl := 0) (bh := 4) (nx := 16) (r1 := 2) (r2 := 1) (r3 := 0) rfl (by decide) rfl ⟨rfl, rfl⟩ rfl rfl g2 rfl (by omega) (fun h5 g5 w5 u5 => ?_)
  have F6 := F3.then rfl u5
  refine wi_aload_n (i := 0) (x := 210) (nx := 17) (r1 := 0) (r2 := 0) (r3 := 0) rfl rfl ?_
  refine wi_aload_n (i := 1) (x := 3) (nx := 18) (r1 := 0) (r2 := 0) (r3 := 0) rfl rfl ?_
  have b7 := gi_b (lo := 0) (hi := 12) g 3 2 rfl
  refine wr_gi0 (k0 := 3) (x := h 3 2) (nx := 21) (r1 := 2) (r2 := 2) (r3 := 0) rfl rfl (by decide) rfl ⟨rfl, rfl⟩ rfl ((u5 3 2 rfl).trans (u2 3 2 rfl)) ?_
  refine wr_pf0 (k0 := 210) (x := h 3 2) (bl := 0) (bh := 12) (nx := 24) (r1 := 2) (r2 := 2) (r3 := 0) rfl (by decide) rfl ⟨rfl, rfl⟩ rfl rfl g5 rfl (by omega) (fun h8 g8 w8 u8 => ?_)
  have F9 := F6.then rfl u8
  refine wi_aload_n (i := 0) (x := 210) (nx := 25) (r1 := 0) (r2 := 0) (r3 := 0) rfl rfl ?_
  refine wi_aload_n (i := 1) (x := 3) (nx := 26) (r1 := 0) (r2 := 0) (r3 := 0) rfl rfl ?_
  have b10 := gi_b (lo := -2147483648) (hi := 2147483647) g 3 3 rfl
  refine wr_gi0 (k0 := 3) (x := h 3 3) (nx := 29) (r1 := 2) (r2 := 3) (r3 := 0) rfl rfl (by decide) rfl ⟨rfl, rfl⟩ rfl ((u8 3 3 rfl).trans ((u5 3 3 rfl).trans (u2 3 3 rfl))) ?_
  refine wr_pf0 (k0 := 210) (x := h 3 3) (bl := -2147483648) (bh := 2147483647) (nx := 32) (r1 := 2) (r2 := 3) (r3 := 0) rfl (by decide) rfl ⟨rfl, rfl⟩ rfl rfl g8 rfl (by omega) (fun h11 g11 w11 u11 => ?_)
  have F12 := F9.then rfl u11
  refine wi_aload_n (i := 0) (x := 210) (nx := 33) (r1 := 0) (r2 := 0) (r3 := 0) rfl rfl ?_
  refine wi_aload_n (i := 1) (x := 3) (nx := 34) (r1 := 0) (r2 := 0) (r3 := 0) rfl rfl ?_
  have b13 := gi_b (lo := -2147483648) (hi := 2147483647) g 3 4 rfl
  refine wr_gi0 (k0 := 3) (x := h 3 4) (nx := 37) (r1 := 2) (r2 := 4) (r3 := 0) rfl rfl (by decide) rfl ⟨rfl, rfl⟩ rfl ((u11 3 4 rfl).trans ((u8 3 4 rfl).trans ((u5 3 4 rfl).trans (u2 3 4 rfl)))) ?_
  refine wr_pf0 (k0 := 210) (x := h 3 4) (bl := -2147483648) (bh := 2147483647) (nx := 40) (r1 := 2) (r2 := 4) (r3 := 0) rfl (by decide) rfl ⟨rfl, rfl⟩ rfl rfl g11 rfl (by omega) (fun h14 g14 w14 u14 => ?_)
  have F15 := F12.then rfl u14
  refine wi_aload_n (i := 0) (x := 210) (nx := 41) (r1 := 0) (r2 := 0) (r3 := 0) rfl rfl ?_
  refine wi_aload_n (i := 1) (x := 3) (nx := 42) (r1 := 0) (r2 := 0) (r3 := 0) rfl rfl ?_
  have b16 := gi_b (lo := -2147483648) (hi := 2147483647) g 3 5 rfl
  refine wr_gi0 (k0 := 3) (x := h 3 5) (nx := 45) (r1 := 2) (r2 := 5) (r3 := 0) rfl rfl (by decide) rfl ⟨rfl, rfl⟩ rfl ((u14 3 5 rfl).trans ((u11 3 5 rfl).trans ((u8 3 5 rfl).trans ((u5 3 5 rfl).trans (u2 3 5 rfl))))) ?_
  refine wr_pf0 (k0 := 210) (x := h 3 5) (bl := -2147483648) (bh := 2147483647) (nx := 48) (r1 := 2) (r2 := 5) (r3 := 0) rfl (by decide) rfl ⟨rfl, rfl⟩ rfl rfl g14 rfl (by omega) (fun h17 g17 w17 u17 => ?_)
  have F18 := F15.then rfl u17
  refine wi_aload_n (i := 0) (x := 210) (nx := 49) (r1 := 0) (r2 := 0) (r3 := 0) rfl rfl ?_
  refine wi_aload_n (i := 1) (x := 3) (nx := 50) (r1 := 0) (r2 := 0) (r3 := 0) rfl rfl ?_
  have b19 := gi_b (lo := -2147483648) (hi := 2147483647) g 3 6 rfl
  refine wr_gi0 (k0 := 3) (x := h 3 6) (nx := 53) (r1 := 2) (r2 := 6) (r3 := 0) rfl rfl (by decide) rfl ⟨rfl, rfl⟩ rfl ((u17 3 6 rfl).trans ((u14 3 6 rfl).trans ((u11 3 6 rfl).trans ((u8 3 6 rfl).trans ((u5 3 6 rfl).trans (u2 3 6 rfl)))))) ?_
  refine wr_pf0 (k0 := 210) (x := h 3 6) (bl := -2147483648) (bh := 2147483647) (nx := 56) (r1 := 2) (r2 := 6) (r3 := 0) rfl (by decide) rfl ⟨rfl, rfl⟩ rfl rfl g17 rfl (by omega) (fun h20 g20 w20 u20 => ?_)
  have F21 := F18.then rfl u20
  refine wi_aload_n (i := 0) (x := 210) (nx := 57) (r1 := 0) (r2 := 0) (r3 := 0) rfl rfl ?_
  refine wi_aload_n (i := 1) (x := 3) (nx := 58) (r1 := 0) (r2 := 0) (r3 := 0) rfl rfl ?_
  have b22 := gi_b (lo := -2147483648) (hi := 2147483647) g 3 7 rfl
  refine wr_gi0 (k0 := 3) (x := h 3 7) (nx := 61) (r1 := 2) (r2 := 7) (r3 := 0) rfl rfl (by decide) rfl ⟨rfl, rfl⟩ rfl ((u20 3 7 rfl).trans ((u17 3 7 rfl).trans ((u14 3 7 rfl).trans ((u11 3 7 rfl).trans ((u8 3 7 rfl).trans ((u5 3 7 rfl).trans (u2 3 7 rfl))))))) ?_
  refine wr_pf0 (k0 := 210) (x := h 3 7) (bl := -2147483648) (bh := 2147483647) (nx := 64) (r1 := 2) (r2 := 7) (r3 := 0) rfl (by decide) rfl ⟨rfl, rfl⟩ rfl rfl g20 rfl (by omega) (fun h23 g23 w23 u23 => ?_)
  have F24 := F21.then rfl u23
  refine wi_aload_n (i := 0) (x := 210) (nx := 65) (r1 := 0) (r2 := 0) (r3 := 0) rfl rfl ?_
  refine wi_aload_n (i := 1) (x := 3) (nx := 66) (r1 := 0) (r2 := 0) (r3 := 0) rfl rfl ?_
  have b25 := gi_b (lo := -2147483648) (hi := 2147483647) g 3 8 rfl
  refine wr_gi0 (k0 := 3) (x := h 3 8) (nx := 69) (r1 := 2) (r2 := 8) (r3 := 0) rfl rfl (by decide) rfl ⟨rfl, rfl⟩ rfl ((u23 3 8 rfl).trans ((u20 3 8 rfl).trans ((u17 3 8 rfl).trans ((u14 3 8 rfl).trans ((u11 3 8 rfl).trans ((u8 3 8 rfl).trans ((u5 3 8 rfl).trans (u2 3 8 rfl)))))))) ?_
  refine wr_pf0 (k0 := 210) (x := h 3 8) (bl := -2147483648) (bh := 2147483647) (nx := 72) (r1 := 2) (r2 := 8) (r3 := 0) rfl (by decide) rfl ⟨rfl, rfl⟩ rfl rfl g23 rfl (by omega) (fun h26 g26 w26 u26 => ?_)
  have F27 := F24.then rfl u26
  refine wi_aload_n (i := 0) (x := 210) (nx := 73) (r1 := 0) (r2 := 0) (r3 := 0) rfl rfl ?_
  refine wi_aload_n (i := 1) (x := 3) (nx := 74) (r1 := 0) (r2 := 0) (r3 := 0) rfl rfl ?_
  have b28 := gi_b (lo := -2147483648) (hi := 2147483647) g 3 9 rfl
  refine wr_gi0 (k0 := 3) (x := h 3 9) (nx := 77) (r1 := 2) (r2 := 9) (r3 := 0) rfl rfl (by decide) rfl ⟨rfl, rfl⟩ rfl ((u26 3 9 rfl).trans ((u23 3 9 rfl).trans ((u20 3 9 rfl).trans ((u17 3 9 rfl).trans ((u14 3 9 rfl).trans ((u11 3 9 rfl).trans ((u8 3 9 rfl).trans ((u5 3 9 rfl).trans (u2 3 9 rfl))))))))) ?_
  refine wr_pf0 (k0 := 210) (x := h 3 9) (bl := -2147483648) (bh := 2147483647) (nx := 80) (r1 := 2) (r2 := 9) (r3 := 0) rfl (by decide) rfl ⟨rfl, rfl⟩ rfl rfl g26 rfl (by omega) (fun h29 g29 w29 u29 => ?_)
  have F30 := F27.then rfl u29
  refine wi_aload_n (i := 1) (x := 3) (nx := 81) (r1 := 0) (r2 := 0) (r3 := 0) rfl rfl ?_
  refine wr_gr (k0 := 3) (x := 4) (nx := 84) (r1 := 2) (r2 := 10) (r3 := 0) rfl rfl (by decide) rfl ⟨rfl, rfl⟩ rfl ?_
  refine wi_iconst (n := 0) (nx := 85) (r1 := 0) (r2 := 0) (r3 := 0) rfl ?_
  refine wi_aload_n (i := 0) (x := 210) (nx := 86) (r1 := 0) (r2 := 0) (r3 := 0) rfl rfl ?_
  refine wr_gr (k0 := 210) (x := 211) (nx := 89) (r1 := 2) (r2 := 10) (r3 := 0) rfl rfl (by decide) rfl ⟨rfl, rfl⟩ rfl ?_
  refine wi_iconst (n := 0) (nx := 90) (r1 := 0) (r2 := 0) (r3 := 0) rfl ?_
  refine wi_iconst (n := 5) (nx := 91) (r1 := 0) (r2 := 0) (r3 := 0) rfl ?_
  refine wr_cpyl (s0 := 4) (d0 := 211) (n0 := 5) (n1 := 5) (sp := 0) (dp := 0) (n := 5) (sl := -9223372036854775808) (sh := 9223372036854775807) (dl := -9223372036854775808) (dh := 9223372036854775807) (nx := 94) (r1 := 0) (r2 := 101) (r3 := 0) rfl rfl (of_decide_eq_true rfl) (by decide) (by decide) rfl rfl (by omega) (fun _ => rfl) (fun _ => rfl) (by omega) g29 (fun h31 g31 y31 u31 => ?_)
  have F32 := F30.then rfl u31
  refine wi_aload_n (i := 1) (x := 3) (nx := 95) (r1 := 0) (r2 := 0) (r3 := 0) rfl rfl ?_
  refine wr_gr (k0 := 3) (x := 5) (nx := 98) (r1 := 2) (r2 := 11) (r3 := 0) rfl rfl (by decide) rfl ⟨rfl, rfl⟩ rfl ?_
  refine wi_iconst (n := 0) (nx := 99) (r1 := 0) (r2 := 0) (r3 := 0) rfl ?_
  refine wi_aload_n (i := 0) (x := 210) (nx := 100) (r1 := 0) (r2 := 0) (r3 := 0) rfl rfl ?_
  refine wr_gr (k0 := 210) (x := 212) (nx := 103) (r1 := 2) (r2 := 11) (r3 := 0) rfl rfl (by decide) rfl ⟨rfl, rfl⟩ rfl ?_
  refine wi_iconst (n := 0) (nx := 104) (r1 := 0) (r2 := 0) (r3 := 0) rfl ?_
  refine wi_iconst (n := 5) (nx := 105) (r1 := 0) (r2 := 0) (r3 := 0) rfl ?_
  refine wr_cpy (s0 := 5) (d0 := 212) (n0 := 5) (n1 := 5) (sp := 0) (dp := 0) (n := 5) (sl := -2147483648) (sh := 2147483647) (dl := -2147483648) (dh := 2147483647) (nx := 108) (r1 := 0) (r2 := 101) (r3 := 0) rfl rfl (of_decide_eq_true rfl) (by decide) (by decide) rfl rfl (by omega) (fun _ => rfl) (fun _ => rfl) (by omega) g31 (fun h33 g33 y33 u33 => ?_)
  have F34 := F32.then rfl u33
  refine wi_aload_n (i := 1) (x := 3) (nx := 109) (r1 := 0) (r2 := 0) (r3 := 0) rfl rfl ?_
  refine wr_gr (k0 := 3) (x := 6) (nx := 112) (r1 := 2) (r2 := 12) (r3 := 0) rfl rfl (by decide) rfl ⟨rfl, rfl⟩ rfl ?_
  refine wi_iconst (n := 0) (nx := 113) (r1 := 0) (r2 := 0) (r3 := 0) rfl ?_
  refine wi_aload_n (i := 0) (x := 210) (nx := 114) (r1 := 0) (r2 := 0) (r3 := 0) rfl rfl ?_
  refine wr_gr (k0 := 210) (x := 213) (nx := 117) (r1 := 2) (r2 := 12) (r3 := 0) rfl rfl (by decide) rfl ⟨rfl, rfl⟩ rfl ?_
  refine wi_iconst (n := 0) (nx := 118) (r1 := 0) (r2 := 0) (r3 := 0) rfl ?_
  refine wi_iconst (n := 4) (nx := 119) (r1 := 0) (r2 := 0) (r3 := 0) rfl ?_
  refine wr_cpy (s0 := 6) (d0 := 213) (n0 := 4) (n1 := 4) (sp := 0) (dp := 0) (n := 4) (sl := -2147483648) (sh := 2147483647) (dl := -2147483648) (dh := 2147483647) (nx := 122) (r1 := 0) (r2 := 101) (r3 := 0) rfl rfl (of_decide_eq_true rfl) (by decide) (by decide) rfl rfl (by omega) (fun _ => rfl) (fun _ => rfl) (by omega) g33 (fun h35 g35 y35 u35 => ?_)
  have F36 := F34.then rfl u35
  refine wi_aload_n (i := 1) (x := 3) (nx := 123) (r1 := 0) (r2 := 0) (r3 := 0) rfl rfl ?_
  refine wr_gr (k0 := 3) (x := 7) (nx := 126) (r1 := 2) (r2 := 13) (r3 := 0) rfl rfl (by decide) rfl ⟨rfl, rfl⟩ rfl ?_
  refine wi_iconst (n := 0) (nx := 127) (r1 := 0) (r2 := 0) (r3 := 0) rfl ?_
  refine wi_aload_n (i := 0) (x := 210) (nx := 128) (r1 := 0) (r2 := 0) (r3 := 0) rfl rfl ?_
  refine wr_gr (k0 := 210) (x := 214) (nx := 131) (r1 := 2) (r2 := 13) (r3 := 0) rfl rfl (by decide) rfl ⟨rfl, rfl⟩ rfl ?_
  refine wi_iconst (n := 0) (nx := 132) (r1 := 0) (r2 := 0) (r3 := 0) rfl ?_
  refine wi_bipush (n := 12) (nx := 134) (r1 := 0) (r2 := 0) (r3 := 0) rfl (by decide) ?_
  refine wr_cpy (s0 := 7) (d0 := 214) (n0 := 12) (n1 := 12) (sp := 0) (dp := 0) (n := 12) (sl := -2147483648) (sh := 2147483647) (dl := -2147483648) (dh := 2147483647) (nx := 137) (r1 := 0) (r2 := 101) (r3 := 0) rfl rfl (of_decide_eq_true rfl) (by decide) (by decide) rfl rfl (by omega) (fun _ => rfl) (fun _ => rfl) (by omega) g35 (fun h37 g37 y37 u37 => ?_)
  have F38 := F36.then rfl u37
  refine wi_aload_n (i := 1) (x := 3) (nx := 138) (r1 := 0) (r2 := 0) (r3 := 0) rfl rfl ?_
  refine wr_gr (k0 := 3) (x := 8) (nx := 141) (r1 := 2) (r2 := 14) (r3 := 0) rfl rfl (by decide) rfl ⟨rfl, rfl⟩ rfl ?_
  refine wi_iconst (n := 0) (nx := 142) (r1 := 0) (r2 := 0) (r3 := 0) rfl ?_
  refine wi_aload_n (i := 0) (x := 210) (nx := 143) (r1 := 0) (r2 := 0) (r3 := 0) rfl rfl ?_
  refine wr_gr (k0 := 210) (x := 215) (nx := 146) (r1 := 2) (r2 := 14) (r3 := 0) rfl rfl (by decide) rfl ⟨rfl, rfl⟩ rfl ?_
  refine wi_iconst (n := 0) (nx := 147) (r1 := 0) (r2 := 0) (r3 := 0) rfl ?_
  refine wi_bipush (n := 12) (nx := 149) (r1 := 0) (r2 := 0) (r3 := 0) rfl (by decide) ?_
  refine wr_cpy (s0 := 8) (d0 := 215) (n0 := 12) (n1 := 12) (sp := 0) (dp := 0) (n := 12) (sl := -2147483648) (sh := 2147483647) (dl := -2147483648) (dh := 2147483647) (nx := 152) (r1 := 0) (r2 := 101) (r3 := 0) rfl rfl (of_decide_eq_true rfl) (by decide) (by decide) rfl rfl (by omega) (fun _ => rfl) (fun _ => rfl) (by omega) g37 (fun h39 g39 y39 u39 => ?_)
  have F40 := F38.then rfl u39
  refine wi_aload_n (i := 1) (x := 3) (nx := 153) (r1 := 0) (r2 := 0) (r3 := 0) rfl rfl ?_
  refine wr_gr (k0 := 3) (x := 9) (nx := 156) (r1 := 2) (r2 := 15) (r3 := 0) rfl rfl (by decide) rfl ⟨rfl, rfl⟩ rfl ?_
  refine wi_iconst (n := 0) (nx := 157) (r1 := 0) (r2 := 0) (r3 := 0) rfl ?_
  refine wi_aload_n (i := 0) (x := 210) (nx := 158) (r1 := 0) (r2 := 0) (r3 := 0) rfl rfl ?_
  refine wr_gr (k0 := 210) (x := 216) (nx := 161) (r1 := 2) (r2 := 15) (r3 := 0) rfl rfl (by decide) rfl ⟨rfl, rfl⟩ rfl ?_
  refine wi_iconst (n := 0) (nx := 162) (r1 := 0) (r2 := 0) (r3 := 0) rfl ?_
  refine wi_bipush (n := 12) (nx := 164) (r1 := 0) (r2 := 0) (r3 := 0) rfl (by decide) ?_
  refine wr_cpy (s0 := 9) (d0 := 216) (n0 := 12) (n1 := 12) (sp := 0) (dp := 0) (n := 12) (sl := -2147483648) (sh := 2147483647) (dl := -2147483648) (dh := 2147483647) (nx := 167) (r1 := 0) (r2 := 101) (r3 := 0) rfl rfl (of_decide_eq_true rfl) (by decide) (by decide) rfl rfl (by omega) (fun _ => rfl) (fun _ => rfl) (by omega) g39 (fun h41 g41 y41 u41 => ?_)
  have F42 := F40.then rfl u41
  refine wi_return (nx := 168) (r1 := 0) (r2 := 0) (r3 := 0) rfl rfl ?_
  exact k h41 g41 F42 ⟨sv_ten (P := fun i => h41 210 i = h 3 i) ((u41 210 0 rfl).trans ((u39 210 0 rfl).trans ((u37 210 0 rfl).trans ((u35 210 0 rfl).trans ((u33 210 0 rfl).trans ((u31 210 0 rfl).trans ((u29 210 0 rfl).trans ((u26 210 0 rfl).trans ((u23 210 0 rfl).trans ((u20 210 0 rfl).trans ((u17 210 0 rfl).trans ((u14 210 0 rfl).trans ((u11 210 0 rfl).trans ((u8 210 0 rfl).trans ((u5 210 0 rfl).trans w2))))))))))))))) ((u41 210 1 rfl).trans ((u39 210 1 rfl).trans ((u37 210 1 rfl).trans ((u35 210 1 rfl).trans ((u33 210 1 rfl).trans ((u31 210 1 rfl).trans ((u29 210 1 rfl).trans ((u26 210 1 rfl).trans ((u23 210 1 rfl).trans ((u20 210 1 rfl).trans ((u17 210 1 rfl).trans ((u14 210 1 rfl).trans ((u11 210 1 rfl).trans ((u8 210 1 rfl).trans w5)))))))))))))) ((u41 210 2 rfl).trans ((u39 210 2 rfl).trans ((u37 210 2 rfl).trans ((u35 210 2 rfl).trans ((u33 210 2 rfl).trans ((u31 210 2 rfl).trans ((u29 210 2 rfl).trans ((u26 210 2 rfl).trans ((u23 210 2 rfl).trans ((u20 210 2 rfl).trans ((u17 210 2 rfl).trans ((u14 210 2 rfl).trans ((u11 210 2 rfl).trans w8))))))))))))) ((u41 210 3 rfl).trans ((u39 210 3 rfl).trans ((u37 210 3 rfl).trans ((u35 210 3 rfl).trans ((u33 210 3 rfl).trans ((u31 210 3 rfl).trans ((u29 210 3 rfl).trans ((u26 210 3 rfl).trans ((u23 210 3 rfl).trans ((u20 210 3 rfl).trans ((u17 210 3 rfl).trans ((u14 210 3 rfl).trans w11)))))))))))) ((u41 210 4 rfl).trans ((u39 210 4 rfl).trans ((u37 210 4 rfl).trans ((u35 210 4 rfl).trans ((u33 210 4 rfl).trans ((u31 210 4 rfl).trans ((u29 210 4 rfl).trans ((u26 210 4 rfl).trans ((u23 210 4 rfl).trans ((u20 210 4 rfl).trans ((u17 210 4 rfl).trans w14))))))))))) ((u41 210 5 rfl).trans ((u39 210 5 rfl).trans ((u37 210 5 rfl).trans ((u35 210 5 rfl).trans ((u33 210 5 rfl).trans ((u31 210 5 rfl).trans ((u29 210 5 rfl).trans ((u26 210 5 rfl).trans ((u23 210 5 rfl).trans ((u20 210 5 rfl).trans w17)))))))))) ((u41 210 6 rfl).trans ((u39 210 6 rfl).trans ((u37 210 6 rfl).trans ((u35 210 6 rfl).trans ((u33 210 6 rfl).trans ((u31 210 6 rfl).trans ((u29 210 6 rfl).trans ((u26 210 6 rfl).trans ((u23 210 6 rfl).trans w20))))))))) ((u41 210 7 rfl).trans ((u39 210 7 rfl).trans ((u37 210 7 rfl).trans ((u35 210 7 rfl).trans ((u33 210 7 rfl).trans ((u31 210 7 rfl).trans ((u29 210 7 rfl).trans ((u26 210 7 rfl).trans w23)))))))) ((u41 210 8 rfl).trans ((u39 210 8 rfl).trans ((u37 210 8 rfl).trans ((u35 210 8 rfl).trans ((u33 210 8 rfl).trans ((u31 210 8 rfl).trans ((u29 210 8 rfl).trans w26))))))) ((u41 210 9 rfl).trans ((u39 210 9 rfl).trans ((u37 210 9 rfl).trans ((u35 210 9 rfl).trans ((u33 210 9 rfl).trans ((u31 210 9 rfl).trans w29)))))), (fun q e => (((u41 212 q (fn_a (by omega) fn_0)).trans ((u39 212 q (fn_a (by omega) fn_0)).trans ((u37 212 q (fn_a (by omega) fn_0)).trans (u35 212 q (fn_a (by omega) fn_0))))).trans ((cy_0 y33 (by omega)).trans ((u31 5 q (fn_a (by omega) fn_0)).trans ((u29 5 q (fn_a (by omega) fn_0)).trans ((u26 5 q (fn_a (by omega) fn_0)).trans ((u23 5 q (fn_a (by omega) fn_0)).trans ((u20 5 q (fn_a (by omega) fn_0)).trans ((u17 5 q (fn_a (by omega) fn_0)).trans ((u14 5 q (fn_a (by omega) fn_0)).trans ((u11 5 q (fn_a (by omega) fn_0)).trans ((u8 5 q (fn_a (by omega) fn_0)).trans ((u5 5 q (fn_a (by omega) fn_0)).trans (u2 5 q (fn_a (by omega) fn_0))))))))))))))), (fun q e => (((u41 213 q (fn_a (by omega) fn_0)).trans ((u39 213 q (fn_a (by omega) fn_0)).trans (u37 213 q (fn_a (by omega) fn_0)))).trans ((cy_0 y35 (by omega)).trans ((u33 6 q (fn_a (by omega) fn_0)).trans ((u31 6 q (fn_a (by omega) fn_0)).trans ((u29 6 q (fn_a (by omega) fn_0)).trans ((u26 6 q (fn_a (by omega) fn_0)).trans ((u23 6 q (fn_a (by omega) fn_0)).trans ((u20 6 q (fn_a (by omega) fn_0)).trans ((u17 6 q (fn_a (by omega) fn_0)).trans ((u14 6 q (fn_a (by omega) fn_0)).trans ((u11 6 q (fn_a (by omega) fn_0)).trans ((u8 6 q (fn_a (by omega) fn_0)).trans ((u5 6 q (fn_a (by omega) fn_0)).trans (u2 6 q (fn_a (by omega) fn_0)))))))))))))))), (fun q e => ((u41 215 q (fn_a (by omega) fn_0)).trans ((cy_0 y39 (by omega)).trans ((u37 8 q (fn_a (by omega) fn_0)).trans ((u35 8 q (fn_a (by omega) fn_0)).trans ((u33 8 q (fn_a (by omega) fn_0)).trans ((u31 8 q (fn_a (by omega) fn_0)).trans ((u29 8 q (fn_a (by omega) fn_0)).trans ((u26 8 q (fn_a (by omega) fn_0)).trans ((u23 8 q (fn_a (by omega) fn_0)).trans ((u20 8 q (fn_a (by omega) fn_0)).trans ((u17 8 q (fn_a (by omega) fn_0)).trans ((u14 8 q (fn_a (by omega) fn_0)).trans ((u11 8 q (fn_a (by omega) fn_0)).trans ((u8 8 q (fn_a (by omega) fn_0)).trans ((u5 8 q (fn_a (by omega) fn_0)).trans (u2 8 q (fn_a (by omega) fn_0))))))))))))))))))⟩ (fun q e => (((u41 214 q (fn_a (by omega) fn_0)).trans (u39 214 q (fn_a (by omega) fn_0))).trans ((cy_0 y37 (by omega)).trans ((u35 7 q (fn_a (by omega) fn_0)).trans ((u33 7 q (fn_a (by omega) fn_0)).trans ((u31 7 q (fn_a (by omega) fn_0)).trans ((u29 7 q (fn_a (by omega) fn_0)).trans ((u26 7 q (fn_a (by omega) fn_0)).trans ((u23 7 q (fn_a (by omega) fn_0)).trans ((u20 7 q (fn_a (by omega) fn_0)).trans ((u17 7 q (fn_a (by omega) fn_0)).trans ((u14 7 q (fn_a (by omega) fn_0)).trans ((u11 7 q (fn_a (by omega) fn_0)).trans ((u8 7 q (fn_a (by omega) fn_0)).trans ((u5 7 q (fn_a (by omega) fn_0)).trans (u2 7 q (fn_a (by omega) fn_0)))))))))))))))))
-- method 132: Line.copyFrom(LPaintBank$Line;)V
set_option maxRecDepth 100000 in
set_option maxHeartbeats 100000000 in
theorem ct_132_217_18 {L : Nat} {xs : Nat → Int32} {d b c : Nat} {h : hp} {cr : Nat → Nat → Option Nat} {Q : hp_Q} (hcr : CR cr)  (g : GI h)    (k : ∀ (h2 : hp) , GI h2 → FR [(217, 235, none)] h h2 → (∀ i : Nat, i < 12 → h2 218 i = h 19 i) → Q (.inl none) (hp_w h2 cr) b c) : wp (md_xa (L, xs)) (d + 1) 132 (0, [(0, .ref 217), (1, .ref 18)], [], hp_w h cr, b, c) Q := by
  have F0 : FR [(217, 235, none)] h h := FR.refl
  refine wi_aload_n (i := 1) (x := 18) (nx := 1) (r1 := 0) (r2 := 0) (r3 := 0) rfl rfl ?_
  refine wr_gr (k0 := 18) (x := 19) (nx := 4) (r1 := 4) (r2 := 1) (r3 := 0) rfl rfl (by decide) rfl ⟨rfl, rfl⟩ rfl ?_
  refine wi_iconst (n := 0) (nx := 5) (r1 := 0) (r2 := 0) (r3 := 0) rfl ?_
  refine wi_aload_n (i := 0) (x := 217) (nx := 6) (r1 := 0) (r2 := 0) (r3 := 0) rfl rfl ?_
  refine wr_gr (k0 := 217) (x := 218) (nx := 9) (r1 := 4) (r2 := 1) (r3 := 0) rfl rfl (by decide) rfl ⟨rfl, rfl⟩ rfl ?_
  refine wi_iconst (n := 0) (nx := 10) (r1 := 0) (r2 := 0) (r3 := 0) rfl ?_
  refine wi_bipush (n := 12) (nx := 12) (r1 := 0) (r2 := 0) (r3 := 0) rfl (by decide) ?_
  refine wr_cpy (s0 := 19) (d0 := 218) (n0 := 12) (n1 := 12) (sp := 0) (dp := 0) (n := 12) (sl := -2147483648) (sh := 2147483647) (dl := -2147483648) (dh := 2147483647) (nx := 15) (r1 := 0) (r2 := 101) (r3 := 0) rfl rfl (of_decide_eq_true rfl) (by decide) (by decide) rfl rfl (by omega) (fun _ => rfl) (fun _ => rfl) (by omega) g (fun h1 g1 y1 u1 => ?_)
  have F2 := F0.then rfl u1
  refine wi_aload_n (i := 1) (x := 18) (nx := 16) (r1 := 0) (r2 := 0) (r3 := 0) rfl rfl ?_
  refine wr_gr (k0 := 18) (x := 20) (nx := 19) (r1 := 4) (r2 := 2) (r3 := 0) rfl rfl (by decide) rfl ⟨rfl, rfl⟩ rfl ?_
  refine wi_iconst (n := 0) (nx := 20) (r1 := 0) (r2 := 0) (r3 := 0) rfl ?_
  refine wi_aload_n (i := 0) (x := 217) (nx := 21) (r1 := 0) (r2 := 0) (r3 := 0) rfl rfl ?_
  refine wr_gr (k0 := 217) (x := 219) (nx := 24) (r1 := 4) (r2 := 2) (r3 := 0) rfl rfl (by decide) rfl ⟨rfl, rfl⟩ rfl ?_
  refine wi_iconst (n := 0) (nx := 25) (r1 := 0) (r2 := 0) (r3 := 0) rfl ?_
  refine wi_bipush (n := 12) (nx := 27) (r1 := 0) (r2 := 0) (r3 := 0) rfl (by decide) ?_
  refine wr_cpy (s0 := 20) (d0 := 219) (n0 := 12) (n1 := 12) (sp := 0) (dp := 0) (n := 12) (sl := -2147483648) (sh := 2147483647) (dl := -2147483648) (dh := 2147483647) (nx := 30) (r1 := 0) (r2 := 101) (r3 := 0) rfl rfl (of_decide_eq_true rfl) (by decide) (by decide) rfl rfl (by omega) (fun _ => rfl) (fun _ => rfl) (by omega) g1 (fun h3 g3 y3 u3 => ?_)
  have F4 := F2.then rfl u3
  refine wi_iconst (n := 0) (nx := 31) (r1 := 0) (r2 := 0) (r3 := 0) rfl ?_
  refine wi_istore_n (i := 2) (e := 0) (lo2 := [(2, vi 0), (0, .ref 217), (1, .ref 18)]) (nx := 32) (r1 := 0) (r2 := 0) (r3 := 0) rfl rfl ?_
  refine wp.lo (lo := [(0, .ref 217), (1, .ref 18), (2, vi 0)]) ⟨rfl, rfl, rfl, trivial⟩ rfl ?_
  refine wl_1 (fun x5 h6 => GI h6 ∧ FR [(217, 235, none)] h h6 ∧ FR [(228, 235, none)] h3 h6 ∧ ((0 ≤ x5 ∧ x5 ≤ 4))) (fun x5 h6 => ((4 : Int) + 1 - x5).toNat) (fun x5 h6 => (32, [(0, .ref 217), (1, .ref 18), (2, vi x5)], [], hp_w h6 cr, b, c)) ?_ 0 h3 ⟨g3, F4, FR.refl, (show (0 ≤ 0 ∧ 0 ≤ 4) by omega)⟩
  intro x5 h6 ⟨g6, F7, u6, f6⟩ I6
  refine wi_iload_n (i := 2) (e := x5) (nx := 33) (r1 := 0) (r2 := 0) (r3 := 0) rfl rfl ?_
  refine wi_iconst (n := 4) (nx := 34) (r1 := 0) (r2 := 0) (r3 := 0) rfl ?_
  refine wi_icmp (cd := .ge) (nx := 37) (r1 := 58) (r2 := 0) (r3 := 0) rfl (by omega) (by omega) (fun (q8 : 4 ≤ x5) => ?_) (fun (q8 : ¬ (4 ≤ x5)) => ?_)
  ·
    refine wi_aload_n (i := 0) (x := 217) (nx := 59) (r1 := 0) (r2 := 0) (r3 := 0) rfl rfl ?_
    refine wr_gr (k0 := 217) (x := 221) (nx := 62) (r1 := 4) (r2 := 4) (r3 := 0) rfl rfl (by decide) rfl ⟨rfl, rfl⟩ rfl ?_
    refine wi_aload_n (i := 1) (x := 18) (nx := 63) (r1 := 0) (r2 := 0) (r3 := 0) rfl rfl ?_
    refine wr_gr (k0 := 18) (x := 22) (nx := 66) (r1 := 4) (r2 := 4) (r3 := 0) rfl rfl (by decide) rfl ⟨rfl, rfl⟩ rfl ?_
    refine wr_V (k0 := 221) (rest := []) (as := [.ref 221, .ref 22]) (nx := 69) (r1 := 155) (r2 := 1) (r3 := 5) rfl rfl rfl (of_decide_eq_true rfl) rfl rfl (by decide) rfl rfl (of_decide_eq_true rfl) (of_decide_eq_true rfl) ?_
    refine ct_155_R_R hcr rw_221 rw_22 g6    (fun h9 g9 u9 => ?_)
    have F10 := F7.then rfl u9
    refine wk_n ?_
    refine wi_aload_n (i := 0) (x := 217) (nx := 70) (r1 := 0) (r2 := 0) (r3 := 0) rfl rfl ?_
    refine wr_gr (k0 := 217) (x := 223) (nx := 73) (r1 := 4) (r2 := 5) (r3 := 0) rfl rfl (by decide) rfl ⟨rfl, rfl⟩ rfl ?_
    refine wi_aload_n (i := 1) (x := 18) (nx := 74) (r1 := 0) (r2 := 0) (r3 := 0) rfl rfl ?_
    refine wr_gr (k0 := 18) (x := 24) (nx := 77) (r1 := 4) (r2 := 5) (r3 := 0) rfl rfl (by decide) rfl ⟨rfl, rfl⟩ rfl ?_
    refine wr_V (k0 := 223) (rest := []) (as := [.ref 223, .ref 24]) (nx := 80) (r1 := 155) (r2 := 1) (r3 := 5) rfl rfl rfl (of_decide_eq_true rfl) rfl rfl (by decide) rfl rfl (of_decide_eq_true rfl) (of_decide_eq_true rfl) ?_
    refine ct_155_R_R hcr rw_223 rw_24 g9    (fun h11 g11 u11 => ?_)
    have F12 := F10.then rfl u11
    refine wk_n ?_
    refine wi_aload_n (i := 0) (x := 217) (nx := 81) (r1 := 0) (r2 := 0) (r3 := 0) rfl rfl ?_
    refine wr_gr (k0 := 217) (x := 225) (nx := 84) (r1 := 4) (r2 := 6) (r3 := 0) rfl rfl (by decide) rfl ⟨rfl, rfl⟩ rfl ?_
    refine wi_aload_n (i := 1) (x := 18) (nx := 85) (r1 := 0) (r2 := 0) (r3 := 0) rfl rfl ?_
    refine wr_gr (k0 := 18) (x := 26) (nx := 88) (r1 := 4) (r2 := 6) (r3 := 0) rfl rfl (by decide) rfl ⟨rfl, rfl⟩ rfl ?_
    refine wr_V (k0 := 225) (rest := []) (as := [.ref 225, .ref 26]) (nx := 91) (r1 := 155) (r2 := 1) (r3 := 5) rfl rfl rfl (of_decide_eq_true rfl) rfl rfl (by decide) rfl rfl (of_decide_eq_true rfl) (of_decide_eq_true rfl) ?_
    refine ct_155_R_R hcr rw_225 rw_26 g11    (fun h13 g13 u13 => ?_)
    have F14 := F12.then rfl u13
    refine wk_n ?_
    refine wi_aload_n (i := 0) (x := 217) (nx := 92) (r1 := 0) (r2 := 0) (r3 := 0) rfl rfl ?_
    refine wi_aload_n (i := 1) (x := 18) (nx := 93) (r1 := 0) (r2 := 0) (r3 := 0) rfl rfl ?_
    have b15 := gi_b (lo := 0) (hi := 12) g 18 7 rfl
    refine wr_gi0 (k0 := 18) (x := h 18 7) (nx := 96) (r1 := 4) (r2 := 7) (r3 := 0) rfl rfl (by decide) rfl ⟨rfl, rfl⟩ rfl ((u13 18 7 rfl).trans ((u11 18 7 rfl).trans ((u9 18 7 rfl).trans ((u6 18 7 rfl).trans ((u3 18 7 rfl).trans (u1 18 7 rfl)))))) ?_
    refine wr_pf0 (k0 := 217) (x := h 18 7) (bl := 0) (bh := 12) (nx := 99) (r1 := 4) (r2 := 7) (r3 := 0) rfl (by decide) rfl ⟨rfl, rfl⟩ rfl rfl g13 rfl (by omega) (fun h16 g16 w16 u16 => ?_)
    have F17 := F14.then rfl u16
    refine wi_aload_n (i := 0) (x := 217) (nx := 100) (r1 := 0) (r2 := 0) (r3 := 0) rfl rfl ?_
    refine wi_aload_n (i := 1) (x := 18) (nx := 101) (r1 := 0) (r2 := 0) (r3 := 0) rfl rfl ?_
    have b18 := gi_b (lo := -2147483648) (hi := 2147483647) g 18 8 rfl
    refine wr_gi0 (k0 := 18) (x := h 18 8) (nx := 104) (r1 := 4) (r2 := 8) (r3 := 0) rfl rfl (by decide) rfl ⟨rfl, rfl⟩ rfl ((u16 18 8 rfl).trans ((u13 18 8 rfl).trans ((u11 18 8 rfl).trans ((u9 18 8 rfl).trans ((u6 18 8 rfl).trans ((u3 18 8 rfl).trans (u1 18 8 rfl))))))) ?_
    refine wr_pf0 (k0 := 217) (x := h 18 8) (bl := -2147483648) (bh := 2147483647) (nx := 107) (r1 := 4) (r2 := 8) (r3 := 0) rfl (by decide) rfl ⟨rfl, rfl⟩ rfl rfl g16 rfl (by omega) (fun h19 g19 w19 u19 => ?_)
    have F20 := F17.then rfl u19
    refine wi_aload_n (i := 0) (x := 217) (nx := 108) (r1 := 0) (r2 := 0) (r3 := 0) rfl rfl ?_
    refine wi_aload_n (i := 1) (x := 18) (nx := 109) (r1 := 0) (r2 := 0) (r3 := 0) rfl rfl ?_
    have b21 := gi_b (lo := -2147483648) (hi := 2147483647) g 18 9 rfl
    refine wr_gi0 (k0 := 18) (x := h 18 9) (nx := 112) (r1 := 4) (r2 := 9) (r3 := 0) rfl rfl (by decide) rfl ⟨rfl, rfl⟩ rfl ((u19 18 9 rfl).trans ((u16 18 9 rfl).trans ((u13 18 9 rfl).trans ((u11 18 9 rfl).trans ((u9 18 9 rfl).trans ((u6 18 9 rfl).trans ((u3 18 9 rfl).trans (u1 18 9 rfl)))))))) ?_
    refine wr_pf0 (k0 := 217) (x := h 18 9) (bl := -2147483648) (bh := 2147483647) (nx := 115) (r1 := 4) (r2 := 9) (r3 := 0) rfl (by decide) rfl ⟨rfl, rfl⟩ rfl rfl g19 rfl (by omega) (fun h22 g22 w22 u22 => ?_)
    have F23 := F20.then rfl u22
    refine wi_aload_n (i := 0) (x := 217) (nx := 116) (r1 := 0) (r2 := 0) (r3 := 0) rfl rfl ?_
    refine wi_aload_n (i := 1) (x := 18) (nx := 117) (r1 := 0) (r2 := 0) (r3 := 0) rfl rfl ?_
    have b24 := gi_b (lo := -2147483648) (hi := 2147483647) g 18 10 rfl
    refine wr_gi0 (k0 := 18) (x := h 18 10) (nx := 120) (r1 := 4) (r2 := 10) (r3 := 0) rfl rfl (by decide) rfl ⟨rfl, rfl⟩ rfl ((u22 18 10 rfl).trans ((u19 18 10 rfl).trans ((u16 18 10 rfl).trans ((u13 18 10 rfl).trans ((u11 18 10 rfl).trans ((u9 18 10 rfl).trans ((u6 18 10 rfl).trans ((u3 18 10 rfl).trans (u1 18 10 rfl))))))))) ?_
    refine wr_pf0 (k0 := 217) (x := h 18 10) (bl := -2147483648) (bh := 2147483647) (nx := 123) (r1 := 4) (r2 := 10) (r3 := 0) rfl (by decide) rfl ⟨rfl, rfl⟩ rfl rfl g22 rfl (by omega) (fun h25 g25 w25 u25 => ?_)
    have F26 := F23.then rfl u25
    refine wi_aload_n (i := 0) (x := 217) (nx := 124) (r1 := 0) (r2 := 0) (r3 := 0) rfl rfl ?_
    refine wi_aload_n (i := 1) (x := 18) (nx := 125) (r1 := 0) (r2 := 0) (r3 := 0) rfl rfl ?_
    have b27 := gi_b (lo := -2147483648) (hi := 2147483647) g 18 11 rfl
    refine wr_gi0 (k0 := 18) (x := h 18 11) (nx := 128) (r1 := 4) (r2 := 11) (r3 := 0) rfl rfl (by decide) rfl ⟨rfl, rfl⟩ rfl ((u25 18 11 rfl).trans ((u22 18 11 rfl).trans ((u19 18 11 rfl).trans ((u16 18 11 rfl).trans ((u13 18 11 rfl).trans ((u11 18 11 rfl).trans ((u9 18 11 rfl).trans ((u6 18 11 rfl).trans ((u3 18 11 rfl).trans (u1 18 11 rfl)))))))))) ?_
    refine wr_pf0 (k0 := 217) (x := h 18 11) (bl := -2147483648) (bh := 2147483647) (nx := 131) (r1 := 4) (r2 := 11) (r3 := 0) rfl (by decide) rfl ⟨rfl, rfl⟩ rfl rfl g25 rfl (by omega) (fun h28 g28 w28 u28 => ?_)
    have F29 := F26.then rfl u28
    refine wi_aload_n (i := 0) (x := 217) (nx := 132) (r1 := 0) (r2 := 0) (r3 := 0) rfl rfl ?_
    refine wi_aload_n (i := 1) (x := 18) (nx := 133) (r1 := 0) (r2 := 0) (r3 := 0) rfl rfl ?_
    have b30 := gi_b (lo := -2147483648) (hi := 2147483647) g 18 12 rfl
    refine wr_gi0 (k0 := 18) (x := h 18 12) (nx := 136) (r1 := 4) (r2 := 12) (r3 := 0) rfl rfl (by decide) rfl ⟨rfl, rfl⟩ rfl ((u28 18 12 rfl).trans ((u25 18 12 rfl).trans ((u22 18 12 rfl).trans ((u19 18 12 rfl).trans ((u16 18 12 rfl).trans ((u13 18 12 rfl).trans ((u11 18 12 rfl).trans ((u9 18 12 rfl).trans ((u6 18 12 rfl).trans ((u3 18 12 rfl).trans (u1 18 12 rfl))))))))))) ?_
    refine wr_pf0 (k0 := 217) (x := h 18 12) (bl := -2147483648) (bh := 2147483647) (nx := 139) (r1 := 4) (r2 := 12) (r3 := 0) rfl (by decide) rfl ⟨rfl, rfl⟩ rfl rfl g28 rfl (by omega) (fun h31 g31 w31 u31 => ?_)
    have F32 := F29.then rfl u31
    refine wi_aload_n (i := 0) (x := 217) (nx := 140) (r1 := 0) (r2 := 0) (r3 := 0) rfl rfl ?_
    refine wi_aload_n (i := 1) (x := 18) (nx := 141) (r1 := 0) (r2 := 0) (r3 := 0) rfl rfl ?_
    have b33 := gi_b (lo := -2147483648) (hi := 2147483647) g 18 13 rfl
    refine wr_gi0 (k0 := 18) (x := h 18 13) (nx := 144) (r1 := 4) (r2 := 13) (r3 := 0) rfl rfl (by decide) rfl ⟨rfl, rfl⟩ rfl ((u31 18 13 rfl).trans ((u28 18 13 rfl).trans ((u25 18 13 rfl).trans ((u22 18 13 rfl).trans ((u19 18 13 rfl).trans ((u16 18 13 rfl).trans ((u13 18 13 rfl).trans ((u11 18 13 rfl).trans ((u9 18 13 rfl).trans ((u6 18 13 rfl).trans ((u3 18 13 rfl).trans (u1 18 13 rfl)))))))))))) ?_
    refine wr_pf0 (k0 := 217) (x := h 18 13) (bl := -2147483648) (bh := 2147483647) (nx := 147) (r1 := 4) (r2 := 13) (r3 := 0) rfl (by decide) rfl ⟨rfl, rfl⟩ rfl rfl g31 rfl (by omega) (fun h34 g34 w34 u34 => ?_)
    have F35 := F32.then rfl u34
    refine wi_aload_n (i := 1) (x := 18) (nx := 148) (r1 := 0) (r2 := 0) (r3 := 0) rfl rfl ?_
    refine wr_gr (k0 := 18) (x := 28) (nx := 151) (r1 := 4) (r2 := 14) (r3 := 0) rfl rfl (by decide) rfl ⟨rfl, rfl⟩ rfl ?_
    refine wi_iconst (n := 0) (nx := 152) (r1 := 0) (r2 := 0) (r3 := 0) rfl ?_
    refine wi_aload_n (i := 0) (x := 217) (nx := 153) (r1 := 0) (r2 := 0) (r3 := 0) rfl rfl ?_
    refine wr_gr (k0 := 217) (x := 227) (nx := 156) (r1 := 4) (r2 := 14) (r3 := 0) rfl rfl (by decide) rfl ⟨rfl, rfl⟩ rfl ?_
    refine wi_iconst (n := 0) (nx := 157) (r1 := 0) (r2 := 0) (r3 := 0) rfl ?_
    refine wi_aload_n (i := 0) (x := 217) (nx := 158) (r1 := 0) (r2 := 0) (r3 := 0) rfl rfl ?_
    refine wr_gr (k0 := 217) (x := 227) (nx := 161) (r1 := 4) (r2 := 14) (r3 := 0) rfl rfl (by decide) rfl ⟨rfl, rfl⟩ rfl ?_
    refine wr_al (k0 := 227) (e := 144) (nx := 162) (r1 := 0) (r2 := 0) (r3 := 0) rfl (by decide) rfl rfl ?_
    refine wr_cpy (s0 := 28) (d0 := 227) (n0 := 144) (n1 := 144) (sp := 0) (dp := 0) (n := 144) (sl := -2147483648) (sh := 2147483647) (dl := -2147483648) (dh := 2147483647) (nx := 165) (r1 := 0) (r2 := 101) (r3 := 0) rfl rfl (of_decide_eq_true rfl) (by decide) (by decide) rfl rfl (by omega) (fun _ => rfl) (fun _ => rfl) (by omega) g34 (fun h36 g36 y36 u36 => ?_)
    have F37 := F35.then rfl u36
    refine wi_aload_n (i := 0) (x := 217) (nx := 166) (r1 := 0) (r2 := 0) (r3 := 0) rfl rfl ?_
    refine wi_aload_n (i := 1) (x := 18) (nx := 167) (r1 := 0) (r2 := 0) (r3 := 0) rfl rfl ?_
    have b38 := gi_b (lo := 0) (hi := 36) g 18 15 rfl
    refine wr_gi0 (k0 := 18) (x := h 18 15) (nx := 170) (r1 := 4) (r2 := 15) (r3 := 0) rfl rfl (by decide) rfl ⟨rfl, rfl⟩ rfl ((u36 18 15 rfl).trans ((u34 18 15 rfl).trans ((u31 18 15 rfl).trans ((u28 18 15 rfl).trans ((u25 18 15 rfl).trans ((u22 18 15 rfl).trans ((u19 18 15 rfl).trans ((u16 18 15 rfl).trans ((u13 18 15 rfl).trans ((u11 18 15 rfl).trans ((u9 18 15 rfl).trans ((u6 18 15 rfl).trans ((u3 18 15 rfl).trans (u1 18 15 rfl)))))))))))))) ?_
    refine wr_pf0 (k0 := 217) (x := h 18 15) (bl := 0) (bh := 36) (nx := 173) (r1 := 4) (r2 := 15) (r3 := 0) rfl (by decide) rfl ⟨rfl, rfl⟩ rfl rfl g36 rfl (by omega) (fun h39 g39 w39 u39 => ?_)
    have F40 := F37.then rfl u39
    refine wi_aload_n (i := 0) (x := 217) (nx := 174) (r1 := 0) (r2 := 0) (r3 := 0) rfl rfl ?_
    refine wi_dup (nx := 175) (r1 := 0) (r2 := 0) (r3 := 0) rfl rfl ?_
    have b41 := gi_b (lo := -2147483648) (hi := 2147483647) g 217 16 rfl
    refine wr_gi0 (k0 := 217) (x := h 217 16) (nx := 178) (r1 := 4) (r2 := 16) (r3 := 0) rfl rfl (by decide) rfl ⟨rfl, rfl⟩ rfl ((u39 217 16 rfl).trans ((u36 217 16 rfl).trans ((u34 217 16 rfl).trans ((u31 217 16 rfl).trans ((u28 217 16 rfl).trans ((u25 217 16 rfl).trans ((u22 217 16 rfl).trans ((u19 217 16 rfl).trans ((u16 217 16 rfl).trans ((u13 217 16 rfl).trans ((u11 217 16 rfl).trans ((u9 217 16 rfl).trans ((u6 217 16 rfl).trans ((u3 217 16 rfl).trans (u1 217 16 rfl))))))))))))))) ?_
    refine wi_iconst (n := 1) (nx := 179) (r1 := 0) (r2 := 0) (r3 := 0) rfl ?_
    refine wr_addW (nx := 180) (r1 := 0) (r2 := 0) (r3 := 0) rfl (fun e42 (fe42 : -2147483648 ≤ e42 ∧ e42 ≤ 2147483647) => ?_)
    refine wr_pf0 (k0 := 217) (x := e42) (bl := -2147483648) (bh := 2147483647) (nx := 183) (r1 := 4) (r2 := 16) (r3 := 0) rfl (by decide) rfl ⟨rfl, rfl⟩ rfl rfl g39 rfl (by omega) (fun h43 g43 w43 u43 => ?_)
    have F44 := F40.then rfl u43
    refine wi_return (nx := 184) (r1 := 0) (r2 := 0) (r3 := 0) rfl rfl ?_
    exact k h43 g43 F44 (fun q e => (((u43 218 q (fn_a (by omega) fn_0)).trans ((u39 218 q (fn_a (by omega) fn_0)).trans ((u36 218 q (fn_a (by omega) fn_0)).trans ((u34 218 q (fn_a (by omega) fn_0)).trans ((u31 218 q (fn_a (by omega) fn_0)).trans ((u28 218 q (fn_a (by omega) fn_0)).trans ((u25 218 q (fn_a (by omega) fn_0)).trans ((u22 218 q (fn_a (by omega) fn_0)).trans ((u19 218 q (fn_a (by omega) fn_0)).trans ((u16 218 q (fn_a (by omega) fn_0)).trans ((u13 218 q (fn_a (by omega) fn_0)).trans ((u11 218 q (fn_a (by omega) fn_0)).trans ((u9 218 q (fn_a (by omega) fn_0)).trans ((u6 218 q (fn_a (by omega) fn_0)).trans (u3 218 q (fn_a (by omega) fn_0)))))))))))))))).trans (cy_0 y1 (by omega))))
  ·
    refine wi_aload_n (i := 0) (x := 217) (nx := 38) (r1 := 0) (r2 := 0) (r3 := 0) rfl rfl ?_
    refine wr_gr (k0 := 217) (x := 220) (nx := 41) (r1 := 4) (r2 := 3) (r3 := 0) rfl rfl (by decide) rfl ⟨rfl, rfl⟩ rfl ?_
    refine wi_iload_n (i := 2) (e := x5) (nx := 42) (r1 := 0) (r2 := 0) (r3 := 0) rfl rfl ?_
    obtain ⟨i9, ei9⟩ : ∃ q : Nat, x5 = (q : Int) := ⟨(x5).toNat, by omega⟩
    refine wr_aa (k0 := 220) (a := x5) (f := i9) (x := 220 + 8 + 2 * i9) (nx := 43) (r1 := 0) (r2 := 0) (r3 := 0) rfl (by decide) rfl (Or.inl rfl) (by omega) (by omega) (by decide) (hcr.1 220 (by decide) i9 (by omega)) ?_
    obtain ⟨k10, kk10, mk10⟩ : ∃ q, Rw q ∧ q = 220 + 8 + 2 * i9 := ⟨_, rw_lane 220 (by decide) i9 (by omega), rfl⟩
    rw [← mk10]
    refine wi_aload_n (i := 1) (x := 18) (nx := 44) (r1 := 0) (r2 := 0) (r3 := 0) rfl rfl ?_
    refine wr_gr (k0 := 18) (x := 21) (nx := 47) (r1 := 4) (r2 := 3) (r3 := 0) rfl rfl (by decide) rfl ⟨rfl, rfl⟩ rfl ?_
    refine wi_iload_n (i := 2) (e := x5) (nx := 48) (r1 := 0) (r2 := 0) (r3 := 0) rfl rfl ?_
    refine wr_aa (k0 := 21) (a := x5) (f := i9) (x := 21 + 8 + 2 * i9) (nx := 49) (r1 := 0) (r2 := 0) (r3 := 0) rfl (by decide) rfl (Or.inl rfl) (by omega) (by omega) (by decide) (hcr.1 21 (by decide) i9 (by omega)) ?_
    obtain ⟨k11, kk11, mk11⟩ : ∃ q, Rw q ∧ q = 21 + 8 + 2 * i9 := ⟨_, rw_lane 21 (by decide) i9 (by omega), rfl⟩
    rw [← mk11]
    refine wr_V (k0 := k10) (rest := []) (as := [.ref k10, .ref k11]) (nx := 52) (r1 := 155) (r2 := 1) (r3 := 5) rfl rfl rfl (of_decide_eq_true rfl) rfl rfl kk10.k kk10.1 rfl (of_decide_eq_true rfl) (of_decide_eq_true rfl) ?_
    refine ct_155_R_R hcr kk10 kk11 g6    (fun h12 g12 u12 => ?_)
    have v12 := FR.rngp (lo := 228) (hi := 235) u12 (by omega)
    have F13 := F7.then rfl (FR.rngp (lo := 228) (hi := 235) u12 (by omega))
    have F14 := u6.then rfl (FR.rngp (lo := 228) (hi := 235) u12 (by omega))
    refine wk_n ?_
    refine wr_iinc (i := 2) (n := 1) (v := x5) (fun e15 => [(2, vi e15), (0, .ref 217), (1, .ref 18)]) (nx := 55) (r1 := 0) (r2 := 0) (r3 := 0) rfl rfl (fun _ => rfl) (fun e15 (fe15 : e15 = x5 + 1) => ?_)
    refine wi_goto (nx := 58) (r1 := 32) (r2 := 0) (r3 := 0) rfl ?_
    refine wp.lo (lo := [(0, .ref 217), (1, .ref 18), (2, vi e15)]) ⟨rfl, rfl, rfl, trivial⟩ rfl ?_
    exact I6 e15 h12 ⟨g12, F13, F14, (show (0 ≤ e15 ∧ e15 ≤ 4) by omega)⟩ (show ((4 : Int) + 1 - e15).toNat < ((4 : Int) + 1 - x5).toNat by omega)
-- method 60: Bank.save()I
set_option maxRecDepth 100000 in
set_option maxHeartbeats 100000000 in
theorem ct_60_0 {L : Nat} {xs : Nat → Int32} {d b c : Nat} {h : hp} {cr : Nat → Nat → Option Nat} {Q : hp_Q} (hcr : CR cr)  (g : GI h)    (k : ∀ (h2 : hp) (z0 : Int) , GI h2 → FR [(211, 211, none), (212, 212, none), (213, 213, none), (214, 214, none), (215, 215, none), (216, 216, none), (217, 235, none), (0, 0, some (12, 12)), (210, 210, some (0, 9))] h h2 → (-2147483648 ≤ z0 ∧ z0 ≤ 2147483647) → (h2 0 12 = 1) → (CPs h h2 210 3) → (MSL h 18 → MSE (h2 215) (h2 218) (h2 215) (h2 214) (h2 210 2).toNat) → (∀ i : Nat, i < 12 → h2 214 i = h 7 i) → Q (.inl (some (vi z0))) (hp_w h2 cr) b c) : wp (md_xa (L, xs)) (d + 2) 60 (0, [(0, .ref 0)], [], hp_w h cr, b, c) Q := by
  have F0 : FR [(211, 211, none), (212, 212, none), (213, 213, none), (214, 214, none), (215, 215, none), (216, 216, none), (217, 235, none), (0, 0, some (12, 12)), (210, 210, some (0, 9))] h h := FR.refl
  refine wi_aload_n (i := 0) (x := 0) (nx := 1) (r1 := 0) (r2 := 0) (r3 := 0) rfl rfl ?_
  refine wr_gr (k0 := 0) (x := 210) (nx := 4) (r1 := 0) (r2 := 10) (r3 := 0) rfl rfl (by decide) rfl ⟨rfl, rfl⟩ rfl ?_
  refine wi_aload_n (i := 0) (x := 0) (nx := 5) (r1 := 0) (r2 := 0) (r3 := 0) rfl rfl ?_
  refine wr_gr (k0 := 0) (x := 3) (nx := 8) (r1 := 0) (r2 := 1) (r3 := 0) rfl rfl (by decide) rfl ⟨rfl, rfl⟩ rfl ?_
  refine wr_V (k0 := 210) (rest := []) (as := [.ref 210, .ref 3]) (nx := 11) (r1 := 114) (r2 := 1) (r3 := 2) rfl rfl rfl (of_decide_eq_true rfl) rfl rfl (by decide) rfl rfl (of_decide_eq_true rfl) (of_decide_eq_true rfl) ?_
  refine ct_114_210_3 hcr  g    (fun h1 g1 u1 y1_0 y1_1 => ?_)
  have F2 := F0.then (by decide +kernel) u1
  refine wk_n ?_
  refine wi_aload_n (i := 0) (x := 0) (nx := 12) (r1 := 0) (r2 := 0) (r3 := 0) rfl rfl ?_
  refine wr_gr (k0 := 0) (x := 217) (nx := 15) (r1 := 0) (r2 := 11) (r3 := 0) rfl rfl (by decide) rfl ⟨rfl, rfl⟩ rfl ?_
  refine wi_aload_n (i := 0) (x := 0) (nx := 16) (r1 := 0) (r2 := 0) (r3 := 0) rfl rfl ?_
  refine wr_gr (k0 := 0) (x := 18) (nx := 19) (r1 := 0) (r2 := 3) (r3 := 0) rfl rfl (by decide) rfl ⟨rfl, rfl⟩ rfl ?_
  refine wr_V (k0 := 217) (rest := []) (as := [.ref 217, .ref 18]) (nx := 22) (r1 := 132) (r2 := 1) (r3 := 4) rfl rfl rfl (of_decide_eq_true rfl) rfl rfl (by decide) rfl rfl (of_decide_eq_true rfl) (of_decide_eq_true rfl) ?_
  refine ct_132_217_18 hcr  g1    (fun h3 g3 u3 y3_0 => ?_)
  have F4 := F2.then (by decide +kernel) u3
  refine wk_n ?_
  refine wi_aload_n (i := 0) (x := 0) (nx := 23) (r1 := 0) (r2 := 0) (r3 := 0) rfl rfl ?_
  refine wi_iconst (n := 1) (nx := 24) (r1 := 0) (r2 := 0) (r3 := 0) rfl ?_
  refine wr_pf2 (k0 := 0) (x := 1) (bl := 0) (bh := 1) (nx := 27) (r1 := 0) (r2 := 12) (r3 := 2) rfl (by decide) rfl ⟨rfl, rfl⟩ rfl (by omega) rfl g3 rfl (by omega) (fun h5 g5 w5 u5 => ?_)
  have F6 := F4.then rfl u5
  refine wi_aload_n (i := 0) (x := 0) (nx := 28) (r1 := 0) (r2 := 0) (r3 := 0) rfl rfl ?_
  refine wr_gr (k0 := 0) (x := 18) (nx := 31) (r1 := 0) (r2 := 3) (r3 := 0) rfl rfl (by decide) rfl ⟨rfl, rfl⟩ rfl ?_
  have b7 := gi_b (lo := -2147483648) (hi := 2147483647) g 18 10 rfl
  refine wr_gi0 (k0 := 18) (x := h 18 10) (nx := 34) (r1 := 4) (r2 := 10) (r3 := 0) rfl rfl (by decide) rfl ⟨rfl, rfl⟩ rfl ((u5 18 10 rfl).trans ((u3 18 10 rfl).trans (u1 18 10 rfl))) ?_
  refine wi_ireturn (nx := 35) (r1 := 0) (r2 := 0) (r3 := 0) rfl rfl ?_
  have e8 : h5 0 12 = 1 := w5
  have b9 := gi_b (lo := 0) (hi := 12) g 3 2 rfl
  have e10 : h5 3 2 = h 3 2 := ((u5 3 2 rfl).trans ((u3 3 2 rfl).trans (u1 3 2 rfl)))
  have b11 := gi_b (lo := 0) (hi := 12) g1 210 2 rfl
  have e12 : h5 210 2 = h1 210 2 := ((u5 210 2 rfl).trans (u3 210 2 rfl))
  have b13 := gi_b (lo := 0) (hi := 12) g 210 2 rfl
  exact k h5 (h 18 10) g5 F6 (by omega) (show (h5 0 12) = 1 by omega) ⟨(fun i e => (((u5 210 i (fn_a (by omega) fn_0)).trans (u3 210 i (fn_a (by omega) fn_0))).trans (y1_0.1 i e))), (fun i e => (((u5 212 i (fn_a (by omega) fn_0)).trans (u3 212 i (fn_a (by omega) fn_0))).trans (y1_0.2.1 i e))), (fun i e => (((u5 213 i (fn_a (by omega) fn_0)).trans (u3 213 i (fn_a (by omega) fn_0))).trans (y1_0.2.2.1 i e))), (fun i e => (((u5 215 i (fn_a (by omega) fn_0)).trans (u3 215 i (fn_a (by omega) fn_0))).trans (y1_0.2.2.2 i e)))⟩ (fun m0 => MSE.cp m0 (by have xh_ := y1_0.1 2 (by decide); omega) (by omega) (fun i hi => (((u5 215 i (fn_a (by omega) fn_0)).trans (u3 215 i (fn_a (by omega) fn_0))).trans (y1_0.2.2.2 i hi))) (fun i hi => (((u5 214 i (fn_a (by omega) fn_0)).trans (u3 214 i (fn_a (by omega) fn_0))).trans (y1_1 i hi))) (fun i hi => ((u5 218 i (fn_a (by omega) fn_0)).trans ((y3_0 i hi).trans (u1 19 i (fo_nk rfl)))))) (fun i hi => (((u5 214 i (fn_a (by omega) fn_0)).trans (u3 214 i (fn_a (by omega) fn_0))).trans (y1_1 i hi)))
-- method 65: Bank.setting(I)I
set_option maxRecDepth 100000 in
set_option maxHeartbeats 100000000 in
theorem ct_65_0 {L : Nat} {xs : Nat → Int32} {d b c : Nat} {h : hp} {cr : Nat → Nat → Option Nat} {Q : hp_Q} (hcr : CR cr) (hr : 1 ≤ b ∧ 6 ≤ c)  (g : GI h) (a0 : Int) (q0_ : -2147483648 ≤ a0 ∧ a0 ≤ 2147483647)  (k : ∀ (z0 : Int), (-2147483648 ≤ z0 ∧ z0 ≤ 2147483647) → (0 ≤ a0 ∧ a0 ≤ 9) → (z0 = h 3 a0.toNat) → Q (.inl (some (vi z0))) (hp_w h cr) b c) (kx1 : (a0 < 0 ∨ 9 < a0) → Q (.inr 1) (hp_w h cr) (b - 1) (c - 6)) : wp (md_xa (L, xs)) d 65 (0, [(0, .ref 0), (1, vi a0)], [], hp_w h cr, b, c) Q := by
  have F0 : FR [] h h := FR.refl
  refine wi_iload_n (i := 1) (e := a0) (nx := 1) (r1 := 0) (r2 := 0) (r3 := 0) rfl rfl ?_
  rcases (show a0 = 0 ∨ a0 = 1 ∨ a0 = 2 ∨ a0 = 3 ∨ a0 = 4 ∨ a0 = 5 ∨ a0 = 6 ∨ a0 = 7 ∨ a0 = 8 ∨ a0 = 9 ∨ (a0 ≠ 0 ∧ a0 ≠ 1 ∧ a0 ≠ 2 ∧ a0 ≠ 3 ∧ a0 ≠ 4 ∧ a0 ≠ 5 ∧ a0 ≠ 6 ∧ a0 ≠ 7 ∧ a0 ≠ 8 ∧ a0 ≠ 9) by omega) with q1 | q1 | q1 | q1 | q1 | q1 | q1 | q1 | q1 | q1 | q1
  ·
    refine wr_tsw 56 (nx := 55) (r1 := 0) (r2 := 0) (r3 := 0) rfl (by rw [q1]; rfl) ?_
    refine wi_aload_n (i := 0) (x := 0) (nx := 57) (r1 := 0) (r2 := 0) (r3 := 0) rfl rfl ?_
    refine wr_gr (k0 := 0) (x := 3) (nx := 60) (r1 := 0) (r2 := 1) (r3 := 0) rfl rfl (by decide) rfl ⟨rfl, rfl⟩ rfl ?_
    have b2 := gi_b (lo := 0) (hi := 5) g 3 0 rfl
    refine wr_gi0 (k0 := 3) (x := h 3 0) (nx := 63) (r1 := 2) (r2 := 0) (r3 := 0) rfl rfl (by decide) rfl ⟨rfl, rfl⟩ rfl rfl ?_
    refine wi_ireturn (nx := 64) (r1 := 0) (r2 := 0) (r3 := 0) rfl rfl ?_
    exact k (h 3 0) (by omega) (show 0 ≤ a0 ∧ a0 ≤ 9 by omega) (show h 3 0 = h 3 a0.toNat by rw [show a0.toNat = 0 by omega])
  ·
    refine wr_tsw 64 (nx := 55) (r1 := 0) (r2 := 0) (r3 := 0) rfl (by rw [q1]; rfl) ?_
    refine wi_aload_n (i := 0) (x := 0) (nx := 65) (r1 := 0) (r2 := 0) (r3 := 0) rfl rfl ?_
    refine wr_gr (k0 := 0) (x := 3) (nx := 68) (r1 := 0) (r2 := 1) (r3 := 0) rfl rfl (by decide) rfl ⟨rfl, rfl⟩ rfl ?_
    have b2 := gi_b (lo := 0) (hi := 4) g 3 1 rfl
    refine wr_gi0 (k0 := 3) (x := h 3 1) (nx := 71) (r1 := 2) (r2 := 1) (r3 := 0) rfl rfl (by decide) rfl ⟨rfl, rfl⟩ rfl rfl ?_
    refine wi_ireturn (nx := 72) (r1 := 0) (r2 := 0) (r3 := 0) rfl rfl ?_
    exact k (h 3 1) (by omega) (show 0 ≤ a0 ∧ a0 ≤ 9 by omega) (show h 3 1 = h 3 a0.toNat by rw [show a0.toNat = 1 by omega])
  ·
    refine wr_tsw 72 (nx := 55) (r1 := 0) (r2 := 0) (r3 := 0) rfl (by rw [q1]; rfl) ?_
    refine wi_aload_n (i := 0) (x := 0) (nx := 73) (r1 := 0) (r2 := 0) (r3 := 0) rfl rfl ?_
    refine wr_gr (k0 := 0) (x := 3) (nx := 76) (r1 := 0) (r2 := 1) (r3 := 0) rfl rfl (by decide) rfl ⟨rfl, rfl⟩ rfl ?_
    have b2 := gi_b (lo := 0) (hi := 12) g 3 2 rfl
    refine wr_gi0 (k0 := 3) (x := h 3 2) (nx := 79) (r1 := 2) (r2 := 2) (r3 := 0) rfl rfl (by decide) rfl ⟨rfl, rfl⟩ rfl rfl ?_
    refine wi_ireturn (nx := 80) (r1 := 0) (r2 := 0) (r3 := 0) rfl rfl ?_
    exact k (h 3 2) (by omega) (show 0 ≤ a0 ∧ a0 ≤ 9 by omega) (show h 3 2 = h 3 a0.toNat by rw [show a0.toNat = 2 by omega])
  ·
    refine wr_tsw 80 (nx := 55) (r1 := 0) (r2 := 0) (r3 := 0) rfl (by rw [q1]; rfl) ?_
    refine wi_aload_n (i := 0) (x := 0) (nx := 81) (r1 := 0) (r2 := 0) (r3 := 0) rfl rfl ?_
    refine wr_gr (k0 := 0) (x := 3) (nx := 84) (r1 := 0) (r2 := 1) (r3 := 0) rfl rfl (by decide) rfl ⟨rfl, rfl⟩ rfl ?_
    have b2 := gi_b (lo := -2147483648) (hi := 2147483647) g 3 3 rfl
    refine wr_gi0 (k0 := 3) (x := h 3 3) (nx := 87) (r1 := 2) (r2 := 3) (r3 := 0) rfl rfl (by decide) rfl ⟨rfl, rfl⟩ rfl rfl ?_
    refine wi_ireturn (nx := 88) (r1 := 0) (r2 := 0) (r3 := 0) rfl rfl ?_
    exact k (h 3 3) (by omega) (show 0 ≤ a0 ∧ a0 ≤ 9 by omega) (show h 3 3 = h 3 a0.toNat by rw [show a0.toNat = 3 by omega])
  ·
    refine wr_tsw 88 (nx := 55) (r1 := 0) (r2 := 0) (r3 := 0) rfl (by rw [q1]; rfl) ?_
    refine wi_aload_n (i := 0) (x := 0) (nx := 89) (r1 := 0) (r2 := 0) (r3 := 0) rfl rfl ?_
    refine wr_gr (k0 := 0) (x := 3) (nx := 92) (r1 := 0) (r2 := 1) (r3 := 0) rfl rfl (by decide) rfl ⟨rfl, rfl⟩ rfl ?_
    have b2 := gi_b (lo := -2147483648) (hi := 2147483647) g 3 4 rfl
    refine wr_gi0 (k0 := 3) (x := h 3 4) (nx := 95) (r1 := 2) (r2 := 4) (r3 := 0) rfl rfl (by decide) rfl ⟨rfl, rfl⟩ rfl rfl ?_
    refine wi_ireturn (nx := 96) (r1 := 0) (r2 := 0) (r3 := 0) rfl rfl ?_
    exact k (h 3 4) (by omega) (show 0 ≤ a0 ∧ a0 ≤ 9 by omega) (show h 3 4 = h 3 a0.toNat by rw [show a0.toNat = 4 by omega])
  ·
    refine wr_tsw 96 (nx := 55) (r1 := 0) (r2 := 0) (r3 := 0) rfl (by rw [q1]; rfl) ?_
    refine wi_aload_n (i := 0) (x := 0) (nx := 97) (r1 := 0) (r2 := 0) (r3 := 0) rfl rfl ?_
    refine wr_gr (k0 := 0) (x := 3) (nx := 100) (r1 := 0) (r2 := 1) (r3 := 0) rfl rfl (by decide) rfl ⟨rfl, rfl⟩ rfl ?_
    have b2 := gi_b (lo := -2147483648) (hi := 2147483647) g 3 5 rfl
    refine wr_gi0 (k0 := 3) (x := h 3 5) (nx := 103) (r1 := 2) (r2 := 5) (r3 := 0) rfl rfl (by decide) rfl ⟨rfl, rfl⟩ rfl rfl ?_
    refine wi_ireturn (nx := 104) (r1 := 0) (r2 := 0) (r3 := 0) rfl rfl ?_
    exact k (h 3 5) (by omega) (show 0 ≤ a0 ∧ a0 ≤ 9 by omega) (show h 3 5 = h 3 a0.toNat by rw [show a0.toNat = 5 by omega])
  ·
    refine wr_tsw 104 (nx := 55) (r1 := 0) (r2 := 0) (r3 := 0) rfl (by rw [q1]; rfl) ?_
    refine wi_aload_n (i := 0) (x := 0) (nx := 105) (r1 := 0) (r2 := 0) (r3 := 0) rfl rfl ?_
    refine wr_gr (k0 := 0) (x := 3) (nx := 108) (r1 := 0) (r2 := 1) (r3 := 0) rfl rfl (by decide) rfl ⟨rfl, rfl⟩ rfl ?_
    have b2 := gi_b (lo := -2147483648) (hi := 2147483647) g 3 6 rfl
    refine wr_gi0 (k0 := 3) (x := h 3 6) (nx := 111) (r1 := 2) (r2 := 6) (r3 := 0) rfl rfl (by decide) rfl ⟨rfl, rfl⟩ rfl rfl ?_
    refine wi_ireturn (nx := 112) (r1 := 0) (r2 := 0) (r3 := 0) rfl rfl ?_
    exact k (h 3 6) (by omega) (show 0 ≤ a0 ∧ a0 ≤ 9 by omega) (show h 3 6 = h 3 a0.toNat by rw [show a0.toNat = 6 by omega])
  ·
    refine wr_tsw 112 (nx := 55) (r1 := 0) (r2 := 0) (r3 := 0) rfl (by rw [q1]; rfl) ?_
    refine wi_aload_n (i := 0) (x := 0) (nx := 113) (r1 := 0) (r2 := 0) (r3 := 0) rfl rfl ?_
    refine wr_gr (k0 := 0) (x := 3) (nx := 116) (r1 := 0) (r2 := 1) (r3 := 0) rfl rfl (by decide) rfl ⟨rfl, rfl⟩ rfl ?_
    have b2 := gi_b (lo := -2147483648) (hi := 2147483647) g 3 7 rfl
    refine wr_gi0 (k0 := 3) (x := h 3 7) (nx := 119) (r1 := 2) (r2 := 7) (r3 := 0) rfl rfl (by decide) rfl ⟨rfl, rfl⟩ rfl rfl ?_
    refine wi_ireturn (nx := 120) (r1 := 0) (r2 := 0) (r3 := 0) rfl rfl ?_
    exact k (h 3 7) (by omega) (show 0 ≤ a0 ∧ a0 ≤ 9 by omega) (show h 3 7 = h 3 a0.toNat by rw [show a0.toNat = 7 by omega])
  ·
    refine wr_tsw 120 (nx := 55) (r1 := 0) (r2 := 0) (r3 := 0) rfl (by rw [q1]; rfl) ?_
    refine wi_aload_n (i := 0) (x := 0) (nx := 121) (r1 := 0) (r2 := 0) (r3 := 0) rfl rfl ?_
    refine wr_gr (k0 := 0) (x := 3) (nx := 124) (r1 := 0) (r2 := 1) (r3 := 0) rfl rfl (by decide) rfl ⟨rfl, rfl⟩ rfl ?_
    have b2 := gi_b (lo := -2147483648) (hi := 2147483647) g 3 8 rfl
    refine wr_gi0 (k0 := 3) (x := h 3 8) (nx := 127) (r1 := 2) (r2 := 8) (r3 := 0) rfl rfl (by decide) rfl ⟨rfl, rfl⟩ rfl rfl ?_
    refine wi_ireturn (nx := 128) (r1 := 0) (r2 := 0) (r3 := 0) rfl rfl ?_
    exact k (h 3 8) (by omega) (show 0 ≤ a0 ∧ a0 ≤ 9 by omega) (show h 3 8 = h 3 a0.toNat by rw [show a0.toNat = 8 by omega])
  ·
    refine wr_tsw 128 (nx := 55) (r1 := 0) (r2 := 0) (r3 := 0) rfl (by rw [q1]; rfl) ?_
    refine wi_aload_n (i := 0) (x := 0) (nx := 129) (r1 := 0) (r2 := 0) (r3 := 0) rfl rfl ?_
    refine wr_gr (k0 := 0) (x := 3) (nx := 132) (r1 := 0) (r2 := 1) (r3 := 0) rfl rfl (by decide) rfl ⟨rfl, rfl⟩ rfl ?_
    have b2 := gi_b (lo := -2147483648) (hi := 2147483647) g 3 9 rfl
    refine wr_gi0 (k0 := 3) (x := h 3 9) (nx := 135) (r1 := 2) (r2 := 9) (r3 := 0) rfl rfl (by decide) rfl ⟨rfl, rfl⟩ rfl rfl ?_
    refine wi_ireturn (nx := 136) (r1 := 0) (r2 := 0) (r3 := 0) rfl rfl ?_
    exact k (h 3 9) (by omega) (show 0 ≤ a0 ∧ a0 ≤ 9 by omega) (show h 3 9 = h 3 a0.toNat by rw [show a0.toNat = 9 by omega])
  ·
    refine wr_tswD 136 (nx := 55) (r1 := 0) (r2 := 0) (r3 := 0) rfl (by omega) (by omega) rfl ?_
    refine wr_throw (Ex := 1) (nx := 139) (r1 := 1) (r2 := 0) (r3 := 1) rfl (by decide) rfl hr (by decide) ?_
    exact kx1 (show a0 < 0 ∨ 9 < a0 by omega)
-- method 46: Bank.step()I
set_option maxRecDepth 100000 in
set_option maxHeartbeats 100000000 in
theorem ct_46_0 {L : Nat} {xs : Nat → Int32} {d b c : Nat} {h : hp} {cr : Nat → Nat → Option Nat} {Q : hp_Q} (hcr : CR cr)  (g : GI h)   (pp0 : h 63 5 ≤ h 18 16) (pp1 : h 63 5 < h 18 16 ∨ (h 18 7 ≤ h 3 2 ∧ h 66 1 = h 3 2 - h 18 7) ∨ (h 3 2 < h 18 7 ∧ h 66 1 = 0)) (pp2 : 0 ≤ h 3 9) (pp3 : h 18 16 ≤ 1900000000) (xq0 : MCI h) (k : ∀ (h2 : hp) (z0 : Int) , GI h2 → FR [(20, 20, none), (22, 23, none), (24, 25, none), (26, 27, none), (28, 28, none), (29, 36, none), (75, 93, none), (94, 112, none), (113, 131, none), (132, 150, none), (151, 169, none), (170, 188, none), (189, 207, none), (18, 18, some (7, 13)), (18, 18, some (15, 16)), (73, 73, some (1, 2))] h h2 → (-1 ≤ z0 ∧ z0 ≤ 3) → (h2 63 5 ≤ h2 18 16) → (h2 63 5 < h2 18 16 ∨ (h2 18 7 ≤ h2 3 2 ∧ h2 66 1 = h2 3 2 - h2 18 7) ∨ (h2 3 2 < h2 18 7 ∧ h2 66 1 = 0)) → (h 18 16 ≤ h2 18 16 ∧ h2 18 16 ≤ h 18 16 + 4) → (MCI h2) → Q (.inl (some (vi z0))) (hp_w h2 cr) b c) : wp (md_xa (L, xs)) (d + 4) 46 (0, [(0, .ref 0)], [], hp_w h cr, b, c) Q := by
  have F0 : FR [(20, 20, none), (22, 23, none), (24, 25, none), (26, 27, none), (28, 28, none), (29, 36, none), (75, 93, none), (94, 112, none), (113, 131, none), (132, 150, none), (151, 169, none), (170, 188, none), (189, 207, none), (18, 18, some (7, 13)), (18, 18, some (15, 16)), (73, 73, some (1, 2))] h h := FR.refl
  have b1 := gi_b (lo := -2147483648) (hi := 2147483647) g 63 5 rfl
  have b2 := gi_b (lo := -2147483648) (hi := 2147483647) g 18 16 rfl
  have b3 := gi_b (lo := 0) (hi := 12) g 18 7 rfl
  have b4 := gi_b (lo := 0) (hi := 12) g 3 2 rfl
  have b5 := gi_b (lo := 0) (hi := 12) g 66 1 rfl
  have b6 := gi_b (lo := -2147483648) (hi := 2147483647) g 3 9 rfl
  refine wi_aload_n (i := 0) (x := 0) (nx := 1) (r1 := 0) (r2 := 0) (r3 := 0) rfl rfl ?_
  refine wr_gr (k0 := 0) (x := 73) (nx := 4) (r1 := 0) (r2 := 8) (r3 := 0) rfl rfl (by decide) rfl ⟨rfl, rfl⟩ rfl ?_
  refine wi_aload_n (i := 0) (x := 0) (nx := 5) (r1 := 0) (r2 := 0) (r3 := 0) rfl rfl ?_
  refine wr_gr (k0 := 0) (x := 18) (nx := 8) (r1 := 0) (r2 := 3) (r3 := 0) rfl rfl (by decide) rfl ⟨rfl, rfl⟩ rfl ?_
  refine wr_V (k0 := 73) (rest := []) (as := [.ref 73, .ref 18]) (nx := 11) (r1 := 192) (r2 := 1) (r3 := 9) rfl rfl rfl (of_decide_eq_true rfl) rfl rfl (by decide) rfl rfl (of_decide_eq_true rfl) (of_decide_eq_true rfl) ?_
  refine ct_192_73_18 hcr  g    xq0.1.1 xq0.2.1 (fun h7 g7 u7 y7_0 => ?_)
  have F8 := F0.then (by decide +kernel) u7
  refine wk_n ?_
  refine wi_aload_n (i := 0) (x := 0) (nx := 12) (r1 := 0) (r2 := 0) (r3 := 0) rfl rfl ?_
  refine wi_aload_n (i := 0) (x := 0) (nx := 13) (r1 := 0) (r2 := 0) (r3 := 0) rfl rfl ?_
  refine wr_gr (k0 := 0) (x := 18) (nx := 16) (r1 := 0) (r2 := 3) (r3 := 0) rfl rfl (by decide) rfl ⟨rfl, rfl⟩ rfl ?_
  refine wr_V (k0 := 18) (rest := [.ref 0]) (as := [.ref 18]) (nx := 19) (r1 := 134) (r2 := 0) (r3 := 4) rfl rfl rfl (of_decide_eq_true rfl) rfl rfl (by decide) rfl rfl (of_decide_eq_true rfl) (of_decide_eq_true rfl) ?_
  have e10 : h7 18 16 = h 18 16 := (u7 18 16 rfl)
  refine ct_134_18 hcr  g7   (show (h7 18 16) ≤ 1999999990 by omega) (fun h9 z11 g9 u9 (fz11 : -1 ≤ z11 ∧ z11 ≤ 3) (p9_0 : ((h9 18 16) = (h7 18 16) ∧ (h9 18 7) = (h7 18 7)) ∨ ((h7 18 16) + 1 ≤ (h9 18 16) ∧ (h9 18 16) ≤ (h7 18 16) + 4)) => ?_)
  have F12 := F8.then (by decide +kernel) u9
  have e13 : h7 18 7 = h 18 7 := (u7 18 7 rfl)
  have b14 := gi_b (lo := -2147483648) (hi := 2147483647) g9 18 16 rfl
  have b15 := gi_b (lo := 0) (hi := 12) g9 18 7 rfl
  refine wk_i ?_
  refine wr_V (k0 := 0) (rest := []) (as := [.ref 0, vi z11]) (nx := 22) (r1 := 45) (r2 := 1) (r3 := 0) rfl rfl rfl (of_decide_eq_true rfl) rfl rfl (by decide) rfl rfl (of_decide_eq_true rfl) (of_decide_eq_true rfl) ?_
  refine wi_iload_n (i := 1) (e := z11) (nx := 1) (r1 := 0) (r2 := 0) (r3 := 0) rfl rfl ?_
  refine wi_iconst (n := (-1)) (nx := 2) (r1 := 0) (r2 := 0) (r3 := 0) rfl ?_
  refine wi_icmp (cd := .eq) (nx := 5) (r1 := 12) (r2 := 0) (r3 := 0) rfl (by omega) (by omega) (fun (q16 : z11 = (-1)) => ?_) (fun (q16 : ¬ (z11 = (-1))) => ?_)
  ·
    refine wi_iload_n (i := 1) (e := z11) (nx := 13) (r1 := 0) (r2 := 0) (r3 := 0) rfl rfl ?_
    refine wi_ireturn (nx := 14) (r1 := 0) (r2 := 0) (r3 := 0) rfl rfl ?_
    refine wk_i ?_
    refine wi_ireturn (nx := 23) (r1 := 0) (r2 := 0) (r3 := 0) rfl rfl ?_
    have e17 : h9 63 5 = h 63 5 := ((u9 63 5 rfl).trans (u7 63 5 rfl))
    have e18 : h9 3 2 = h 3 2 := ((u9 3 2 rfl).trans (u7 3 2 rfl))
    have e19 : h9 66 1 = h 66 1 := ((u9 66 1 rfl).trans (u7 66 1 rfl))
    have q21 : h9 8 = h 8 := funext (fun i => ((u9 8 i (fo_no_ok (by decide) i)).trans (u7 8 i (fo_no_ok (by decide) i))))
    have q22 : h9 7 = h 7 := funext (fun i => ((u9 7 i (fo_no_ok (by decide) i)).trans (u7 7 i (fo_no_ok (by decide) i))))
    have q23 : h9 19 = h 19 := funext (fun i => ((u9 19 i (fo_no_ok (by decide) i)).trans (u7 19 i (fo_no_ok (by decide) i))))
    have q24 : h9 67 = h 67 := funext (fun i => ((u9 67 i (fo_no_ok (by decide) i)).trans (u7 67 i (fo_no_ok (by decide) i))))
    have ml20 : MCL h9 := MCL.mv xq0.1 q21 q22 q23 q24 (by omega) (by omega) (by omega) (by omega)
    have q26 : h9 69 = h 69 := funext (fun i => ((u9 69 i (fo_no_ok (by decide) i)).trans (u7 69 i (fo_no_ok (by decide) i))))
    have q27 : h9 70 = h 70 := funext (fun i => ((u9 70 i (fo_no_ok (by decide) i)).trans (u7 70 i (fo_no_ok (by decide) i))))
    have nb25 : NBc (h9 69) (h9 70) := by rw [q26, q27]; exact xq0.2.2
    have q28 : h9 8 = h7 8 := funext (fun i => (u9 8 i (fo_no_ok (by decide) i)))
    have q29 : h9 7 = h7 7 := funext (fun i => (u9 7 i (fo_no_ok (by decide) i)))
    have e30 : h7 3 2 = h 3 2 := (u7 3 2 rfl)
    have b31 := gi_b (lo := 0) (hi := 6) g 73 1 rfl
    have e32 : h9 73 1 = h 73 1 := ((u9 73 1 rfl).trans (u7 73 1 rfl))
    have e33 : h7 73 1 = h 73 1 := (u7 73 1 rfl)
    have b34 := gi_b (lo := 0) (hi := 6) g 73 2 rfl
    have e35 : h9 73 2 = h 73 2 := ((u9 73 2 rfl).trans (u7 73 2 rfl))
    have e36 : h7 73 2 = h 73 2 := (u7 73 2 rfl)
    exact k h9 z11 g9 F12 (by omega) (show (h9 63 5) ≤ (h9 18 16) by omega) (show (h9 63 5) < (h9 18 16) ∨ ((h9 18 7) ≤ (h9 3 2) ∧ (h9 66 1) = (h9 3 2) - (h9 18 7)) ∨ ((h9 3 2) < (h9 18 7) ∧ (h9 66 1) = 0) by omega) (show (h 18 16) ≤ (h9 18 16) ∧ (h9 18 16) ≤ (h 18 16) + 4 by omega) ⟨ml20, (HIv.n y7_0 q28 q29 (by omega) (by omega) (sv_seven (P := fun x => ∀ i, h9 (76 + 19 * x) i = h7 (76 + 19 * x) i) (fun i => (u9 76 i (fo_nk rfl))) (fun i => (u9 95 i (fo_nk rfl))) (fun i => (u9 114 i (fo_nk rfl))) (fun i => (u9 133 i (fo_nk rfl))) (fun i => (u9 152 i (fo_nk rfl))) (fun i => (u9 171 i (fo_nk rfl))) (fun i => (u9 190 i (fo_nk rfl)))) (by omega) (by omega)), nb25⟩
  ·
    refine wi_aload_n (i := 0) (x := 0) (nx := 6) (r1 := 0) (r2 := 0) (r3 := 0) rfl rfl ?_
    refine wr_gr (k0 := 0) (x := 73) (nx := 9) (r1 := 0) (r2 := 8) (r3 := 0) rfl rfl (by decide) rfl ⟨rfl, rfl⟩ rfl ?_
    refine wr_V (k0 := 73) (rest := []) (as := [.ref 73]) (nx := 12) (r1 := 193) (r2 := 0) (r3 := 9) rfl rfl rfl (of_decide_eq_true rfl) rfl rfl (by decide) rfl rfl (of_decide_eq_true rfl) (of_decide_eq_true rfl) ?_
    refine ct_193_73 hcr  g9    (fun h17 g17 u17 (p17_0 : ((h9 73 1) ≤ 5 ∧ (h17 73 1) = (h9 73 1) + 1) ∨ ((h9 73 1) = 6 ∧ (h17 73 1) = 0)) (p17_1 : ((h9 73 2) ≤ 5 ∧ (h17 73 2) = (h9 73 2) + 1) ∨ ((h9 73 2) = 6 ∧ (h17 73 2) = 6)) => ?_)
    have F18 := F12.then (by decide +kernel) u17
    have b19 := gi_b (lo := 0) (hi := 6) g 73 1 rfl
    have e20 : h9 73 1 = h 73 1 := ((u9 73 1 rfl).trans (u7 73 1 rfl))
    have b21 := gi_b (lo := 0) (hi := 6) g17 73 1 rfl
    have b22 := gi_b (lo := 0) (hi := 6) g 73 2 rfl
    have e23 : h9 73 2 = h 73 2 := ((u9 73 2 rfl).trans (u7 73 2 rfl))
    have b24 := gi_b (lo := 0) (hi := 6) g17 73 2 rfl
    refine wk_n ?_
    refine wi_iload_n (i := 1) (e := z11) (nx := 13) (r1 := 0) (r2 := 0) (r3 := 0) rfl rfl ?_
    refine wi_ireturn (nx := 14) (r1 := 0) (r2 := 0) (r3 := 0) rfl rfl ?_
    refine wk_i ?_
    refine wi_ireturn (nx := 23) (r1 := 0) (r2 := 0) (r3 := 0) rfl rfl ?_
    have e25 : h17 63 5 = h 63 5 := ((u17 63 5 rfl).trans ((u9 63 5 rfl).trans (u7 63 5 rfl)))
    have e26 : h17 18 16 = h9 18 16 := (u17 18 16 rfl)
    have e27 : h17 18 7 = h9 18 7 := (u17 18 7 rfl)
    have e28 : h17 3 2 = h 3 2 := ((u17 3 2 rfl).trans ((u9 3 2 rfl).trans (u7 3 2 rfl)))
    have e29 : h17 66 1 = h 66 1 := ((u17 66 1 rfl).trans ((u9 66 1 rfl).trans (u7 66 1 rfl)))
    have q31 : h17 8 = h 8 := funext (fun i => ((u17 8 i (fo_no_ok (by decide) i)).trans ((u9 8 i (fo_no_ok (by decide) i)).trans (u7 8 i (fo_no_ok (by decide) i)))))
    have q32 : h17 7 = h 7 := funext (fun i => ((u17 7 i (fo_no_ok (by decide) i)).trans ((u9 7 i (fo_no_ok (by decide) i)).trans (u7 7 i (fo_no_ok (by decide) i)))))
    have q33 : h17 19 = h 19 := funext (fun i => ((u17 19 i (fo_no_ok (by decide) i)).trans ((u9 19 i (fo_no_ok (by decide) i)).trans (u7 19 i (fo_no_ok (by decide) i)))))
    have q34 : h17 67 = h 67 := funext (fun i => ((u17 67 i (fo_no_ok (by decide) i)).trans ((u9 67 i (fo_no_ok (by decide) i)).trans (u7 67 i (fo_no_ok (by decide) i)))))
    have ml30 : MCL h17 := MCL.mv xq0.1 q31 q32 q33 q34 (by omega) (by omega) (by omega) (by omega)
    have q36 : h17 69 = h 69 := funext (fun i => ((u17 69 i (fo_no_ok (by decide) i)).trans ((u9 69 i (fo_no_ok (by decide) i)).trans (u7 69 i (fo_no_ok (by decide) i)))))
    have q37 : h17 70 = h 70 := funext (fun i => ((u17 70 i (fo_no_ok (by decide) i)).trans ((u9 70 i (fo_no_ok (by decide) i)).trans (u7 70 i (fo_no_ok (by decide) i)))))
    have nb35 : NBc (h17 69) (h17 70) := by rw [q36, q37]; exact xq0.2.2
    have q38 : h17 8 = h7 8 := funext (fun i => ((u17 8 i (fo_no_ok (by decide) i)).trans (u9 8 i (fo_no_ok (by decide) i))))
    have q39 : h17 7 = h7 7 := funext (fun i => ((u17 7 i (fo_no_ok (by decide) i)).trans (u9 7 i (fo_no_ok (by decide) i))))
    have e40 : h7 3 2 = h 3 2 := (u7 3 2 rfl)
    have e41 : h7 73 1 = h 73 1 := (u7 73 1 rfl)
    have e42 : h7 73 2 = h 73 2 := (u7 73 2 rfl)
    exact k h17 z11 g17 F18 (by omega) (show (h17 63 5) ≤ (h17 18 16) by omega) (show (h17 63 5) < (h17 18 16) ∨ ((h17 18 7) ≤ (h17 3 2) ∧ (h17 66 1) = (h17 3 2) - (h17 18 7)) ∨ ((h17 3 2) < (h17 18 7) ∧ (h17 66 1) = 0) by omega) (show (h 18 16) ≤ (h17 18 16) ∧ (h17 18 16) ≤ (h 18 16) + 4 by omega) ⟨ml30, (HIv.k y7_0 q38 q39 (by omega) (by omega) (sv_seven (P := fun x => ∀ i, h17 (76 + 19 * x) i = h7 (76 + 19 * x) i) (fun i => ((u17 76 i (fn_a (by omega) fn_0)).trans (u9 76 i (fo_nk rfl)))) (fun i => ((u17 95 i (fn_a (by omega) fn_0)).trans (u9 95 i (fo_nk rfl)))) (fun i => ((u17 114 i (fn_a (by omega) fn_0)).trans (u9 114 i (fo_nk rfl)))) (fun i => ((u17 133 i (fn_a (by omega) fn_0)).trans (u9 133 i (fo_nk rfl)))) (fun i => ((u17 152 i (fn_a (by omega) fn_0)).trans (u9 152 i (fo_nk rfl)))) (fun i => ((u17 171 i (fn_a (by omega) fn_0)).trans (u9 171 i (fo_nk rfl)))) (fun i => ((u17 190 i (fn_a (by omega) fn_0)).trans (u9 190 i (fo_nk rfl))))) (by omega) (by omega)), nb35⟩
-- method 85: Bank.stepsToOut(I)I
set_option maxRecDepth 100000 in
set_option maxHeartbeats 100000000 in
theorem ct_85_0 {L : Nat} {xs : Nat → Int32} {d b c : Nat} {h : hp} {cr : Nat → Nat → Option Nat} {Q : hp_Q} (hcr : CR cr) (hr : 1 ≤ b ∧ 6 ≤ c)  (g : GI h) (a0 : Int) (q0_ : -2147483648 ≤ a0 ∧ a0 ≤ 2147483647)  (k : ∀ (h2 : hp) (z0 : Int) , GI h2 → FR [(37, 55, none)] h h2 → (-2147483648 ≤ z0 ∧ z0 ≤ 2147483647) → Q (.inl (some (vi z0))) (hp_w h2 cr) b c) (kx2 : ∀ (h2 : hp), GI h2 → FR [(37, 55, none)] h h2 → Q (.inr 2) (hp_w h2 cr) (b - 1) (c - 6)) : wp (md_xa (L, xs)) (d + 5) 85 (0, [(0, .ref 0), (1, vi a0)], [], hp_w h cr, b, c) Q := by
  have F0 : FR [(37, 55, none)] h h := FR.refl
  refine wi_aload_n (i := 0) (x := 0) (nx := 1) (r1 := 0) (r2 := 0) (r3 := 0) rfl rfl ?_
  refine wi_iload_n (i := 1) (e := a0) (nx := 2) (r1 := 0) (r2 := 0) (r3 := 0) rfl rfl ?_
  refine wr_V (k0 := 0) (rest := []) (as := [.ref 0, vi a0]) (nx := 5) (r1 := 70) (r2 := 1) (r3 := 0) rfl rfl rfl (of_decide_eq_true rfl) rfl rfl (by decide) rfl rfl (of_decide_eq_true rfl) (of_decide_eq_true rfl) ?_
  refine wi_iload_n (i := 1) (e := a0) (nx := 1) (r1 := 0) (r2 := 0) (r3 := 0) rfl rfl ?_
  refine wi_if (cd := .lt) (nx := 4) (r1 := 15) (r2 := 0) (r3 := 0) rfl (by omega) (fun (q1 : a0 < 0) => ?_) (fun (q1 : ¬ (a0 < 0)) => ?_)
  ·
    refine wr_throw (Ex := 2) (nx := 18) (r1 := 2) (r2 := 0) (r3 := 1) rfl (by decide) rfl hr (by decide) ?_
    refine wk_x rfl ?_
    exact kx2 h g F0
  ·
    refine wi_iload_n (i := 1) (e := a0) (nx := 5) (r1 := 0) (r2 := 0) (r3 := 0) rfl rfl ?_
    refine wi_aload_n (i := 0) (x := 0) (nx := 6) (r1 := 0) (r2 := 0) (r3 := 0) rfl rfl ?_
    refine wr_gr (k0 := 0) (x := 3) (nx := 9) (r1 := 0) (r2 := 1) (r3 := 0) rfl rfl (by decide) rfl ⟨rfl, rfl⟩ rfl ?_
    have b2 := gi_b (lo := 0) (hi := 12) g 3 2 rfl
    refine wr_gi0 (k0 := 3) (x := h 3 2) (nx := 12) (r1 := 2) (r2 := 2) (r3 := 0) rfl rfl (by decide) rfl ⟨rfl, rfl⟩ rfl rfl ?_
    refine wi_icmp (cd := .lt) (nx := 15) (r1 := 26) (r2 := 0) (r3 := 0) rfl (by omega) (by omega) (fun (q3 : a0 < (h 3 2)) => ?_) (fun (q3 : ¬ (a0 < (h 3 2))) => ?_)
    ·
      refine wi_return (nx := 27) (r1 := 0) (r2 := 0) (r3 := 0) rfl rfl ?_
      refine wk_n ?_
      refine wi_aload_n (i := 0) (x := 0) (nx := 6) (r1 := 0) (r2 := 0) (r3 := 0) rfl rfl ?_
      refine wi_sipush (n := 300) (nx := 9) (r1 := 0) (r2 := 0) (r3 := 0) rfl (by decide) ?_
      refine wi_iload_n (i := 1) (e := a0) (nx := 10) (r1 := 0) (r2 := 0) (r3 := 0) rfl rfl ?_
      refine wr_V (k0 := 0) (rest := []) (as := [.ref 0, vi 300, vi a0]) (nx := 13) (r1 := 83) (r2 := 2) (r3 := 0) rfl rfl rfl (of_decide_eq_true rfl) rfl rfl (by decide) rfl rfl (of_decide_eq_true rfl) (of_decide_eq_true rfl) ?_
      refine ct_83_0 hcr  g 300 a0 (by omega) (by omega)  (fun h4 z5 g4 u4 (fz5 : -2147483648 ≤ z5 ∧ z5 ≤ 2147483647) => ?_)
      have F6 := F0.then (by decide +kernel) u4
      refine wk_i ?_
      refine wi_istore_n (i := 2) (e := z5) (lo2 := [(2, vi z5), (0, .ref 0), (1, vi a0)]) (nx := 14) (r1 := 0) (r2 := 0) (r3 := 0) rfl rfl ?_
      refine wi_aload_n (i := 0) (x := 0) (nx := 15) (r1 := 0) (r2 := 0) (r3 := 0) rfl rfl ?_
      refine wr_gr (k0 := 0) (x := 37) (nx := 18) (r1 := 0) (r2 := 4) (r3 := 0) rfl rfl (by decide) rfl ⟨rfl, rfl⟩ rfl ?_
      refine wr_gr (k0 := 37) (x := 45) (nx := 21) (r1 := 4) (r2 := 6) (r3 := 0) rfl rfl (by decide) rfl ⟨rfl, rfl⟩ rfl ?_
      refine wi_iload_n (i := 1) (e := a0) (nx := 22) (r1 := 0) (r2 := 0) (r3 := 0) rfl rfl ?_
      refine wr_V (k0 := 45) (rest := []) (as := [.ref 45, vi a0]) (nx := 25) (r1 := 159) (r2 := 1) (r3 := 5) rfl rfl rfl (of_decide_eq_true rfl) rfl rfl (by decide) rfl rfl (of_decide_eq_true rfl) (of_decide_eq_true rfl) ?_
      refine ct_159_R hcr rw_45 g4 a0 (by omega)  (fun z8  (fz8 : -1 ≤ z8 ∧ z8 ≤ 11) => ?_)
      refine wk_i ?_
      refine wi_iconst (n := (-1)) (nx := 26) (r1 := 0) (r2 := 0) (r3 := 0) rfl ?_
      refine wi_icmp (cd := .ne) (nx := 29) (r1 := 33) (r2 := 0) (r3 := 0) rfl (by omega) (by omega) (fun (q9 : z8 ≠ (-1)) => ?_) (fun (q9 : ¬ (z8 ≠ (-1))) => ?_)
      ·
        refine wi_iload_n (i := 2) (e := z5) (nx := 34) (r1 := 0) (r2 := 0) (r3 := 0) rfl rfl ?_
        refine wi_ireturn (nx := 35) (r1 := 0) (r2 := 0) (r3 := 0) rfl rfl ?_
        exact k h4 z5 g4 F6 (by omega)
      ·
        refine wi_iconst (n := (-1)) (nx := 30) (r1 := 0) (r2 := 0) (r3 := 0) rfl ?_
        refine wi_goto (nx := 33) (r1 := 34) (r2 := 0) (r3 := 0) rfl ?_
        refine wi_ireturn (nx := 35) (r1 := 0) (r2 := 0) (r3 := 0) rfl rfl ?_
        exact k h4 (-1) g4 F6 (by omega)
    ·
      refine wr_throw (Ex := 2) (nx := 18) (r1 := 2) (r2 := 0) (r3 := 1) rfl (by decide) rfl hr (by decide) ?_
      refine wk_x rfl ?_
      exact kx2 h g F0
-- method 48: Bank.swap()I
set_option maxRecDepth 100000 in
set_option maxHeartbeats 100000000 in
theorem ct_48_0 {L : Nat} {xs : Nat → Int32} {d b c : Nat} {h : hp} {cr : Nat → Nat → Option Nat} {Q : hp_Q} (hcr : CR cr)  (g : GI h)   (pp0 : h 63 5 ≤ h 18 16) (pp1 : h 63 5 < h 18 16 ∨ (h 18 7 ≤ h 3 2 ∧ h 66 1 = h 3 2 - h 18 7) ∨ (h 3 2 < h 18 7 ∧ h 66 1 = 0)) (pp2 : 0 ≤ h 3 9) (pp3 : h 18 16 ≤ 1900000000) (xq0 : MCI h) (k : ∀ (h2 : hp) (z0 : Int) , GI h2 → FR [(19, 19, none), (64, 64, none), (65, 65, none), (67, 67, none), (75, 93, none), (94, 112, none), (113, 131, none), (132, 150, none), (151, 169, none), (170, 188, none), (189, 207, none), (18, 18, some (16, 16)), (63, 63, some (4, 5)), (63, 63, some (7, 7)), (66, 66, some (1, 1)), (73, 73, some (1, 2))] h h2 → (-1 ≤ z0 ∧ z0 ≤ 12) → (h2 63 5 ≤ h2 18 16) → (h2 63 5 < h2 18 16 ∨ (h2 18 7 ≤ h2 3 2 ∧ h2 66 1 = h2 3 2 - h2 18 7) ∨ (h2 3 2 < h2 18 7 ∧ h2 66 1 = 0)) → (h 18 16 ≤ h2 18 16 ∧ h2 18 16 ≤ h 18 16 + 20) → (MCI h2) → Q (.inl (some (vi z0))) (hp_w h2 cr) b c) : wp (md_xa (L, xs)) (d + 20) 48 (0, [(0, .ref 0)], [], hp_w h cr, b, c) Q := by
  have F0 : FR [(19, 19, none), (64, 64, none), (65, 65, none), (67, 67, none), (75, 93, none), (94, 112, none), (113, 131, none), (132, 150, none), (151, 169, none), (170, 188, none), (189, 207, none), (18, 18, some (16, 16)), (63, 63, some (4, 5)), (63, 63, some (7, 7)), (66, 66, some (1, 1)), (73, 73, some (1, 2))] h h := FR.refl
  have b1 := gi_b (lo := -2147483648) (hi := 2147483647) g 63 5 rfl
  have b2 := gi_b (lo := -2147483648) (hi := 2147483647) g 18 16 rfl
  have b3 := gi_b (lo := 0) (hi := 12) g 18 7 rfl
  have b4 := gi_b (lo := 0) (hi := 12) g 3 2 rfl
  have b5 := gi_b (lo := 0) (hi := 12) g 66 1 rfl
  have b6 := gi_b (lo := -2147483648) (hi := 2147483647) g 3 9 rfl
  refine wi_aload_n (i := 0) (x := 0) (nx := 1) (r1 := 0) (r2 := 0) (r3 := 0) rfl rfl ?_
  refine wr_gr (k0 := 0) (x := 73) (nx := 4) (r1 := 0) (r2 := 8) (r3 := 0) rfl rfl (by decide) rfl ⟨rfl, rfl⟩ rfl ?_
  refine wi_aload_n (i := 0) (x := 0) (nx := 5) (r1 := 0) (r2 := 0) (r3 := 0) rfl rfl ?_
  refine wr_gr (k0 := 0) (x := 18) (nx := 8) (r1 := 0) (r2 := 3) (r3 := 0) rfl rfl (by decide) rfl ⟨rfl, rfl⟩ rfl ?_
  refine wr_V (k0 := 73) (rest := []) (as := [.ref 73, .ref 18]) (nx := 11) (r1 := 192) (r2 := 1) (r3 := 9) rfl rfl rfl (of_decide_eq_true rfl) rfl rfl (by decide) rfl rfl (of_decide_eq_true rfl) (of_decide_eq_true rfl) ?_
  refine ct_192_73_18 hcr  g    xq0.1.1 xq0.2.1 (fun h7 g7 u7 y7_0 => ?_)
  have F8 := F0.then (by decide +kernel) u7
  refine wk_n ?_
  refine wi_aload_n (i := 0) (x := 0) (nx := 12) (r1 := 0) (r2 := 0) (r3 := 0) rfl rfl ?_
  refine wr_gr (k0 := 0) (x := 63) (nx := 15) (r1 := 0) (r2 := 6) (r3 := 0) rfl rfl (by decide) rfl ⟨rfl, rfl⟩ rfl ?_
  refine wr_V (k0 := 63) (rest := []) (as := [.ref 63]) (nx := 18) (r1 := 171) (r2 := 0) (r3 := 7) rfl rfl rfl (of_decide_eq_true rfl) rfl rfl (by decide) rfl rfl (of_decide_eq_true rfl) (of_decide_eq_true rfl) ?_
  have e10 : h7 63 5 = h 63 5 := (u7 63 5 rfl)
  have e11 : h7 18 16 = h 18 16 := (u7 18 16 rfl)
  have e12 : h7 18 7 = h 18 7 := (u7 18 7 rfl)
  have e13 : h7 3 2 = h 3 2 := (u7 3 2 rfl)
  have e14 : h7 66 1 = h 66 1 := (u7 66 1 rfl)
  have e15 : h7 3 9 = h 3 9 := (u7 3 9 rfl)
  have q17 : h7 8 = h 8 := funext (fun i => (u7 8 i (fo_no_ok (by decide) i)))
  have q18 : h7 7 = h 7 := funext (fun i => (u7 7 i (fo_no_ok (by decide) i)))
  have q19 : h7 19 = h 19 := funext (fun i => (u7 19 i (fo_no_ok (by decide) i)))
  have q20 : h7 67 = h 67 := funext (fun i => (u7 67 i (fo_no_ok (by decide) i)))
  have ml16 : MCL h7 := MCL.mv xq0.1 q17 q18 q19 q20 (by omega) (by omega) (by omega) (by omega)
  refine ct_171_63 hcr  g7   (show (h7 63 5) ≤ (h7 18 16) by omega) (show (h7 63 5) < (h7 18 16) ∨ ((h7 18 7) ≤ (h7 3 2) ∧ (h7 66 1) = (h7 3 2) - (h7 18 7)) ∨ ((h7 3 2) < (h7 18 7) ∧ (h7 66 1) = 0) by omega) (show 0 ≤ (h7 3 9) by omega) ml16 (fun h9 g9 u9 (p9_0 : (h9 63 5) = (h9 18 16)) (p9_1 : ((h9 18 7) ≤ (h9 3 2) ∧ (h9 66 1) = (h9 3 2) - (h9 18 7)) ∨ ((h9 3 2) < (h9 18 7) ∧ (h9 66 1) = 0)) y9_0 => ?_)
  have F21 := F8.then (by decide +kernel) u9
  have b22 := gi_b (lo := -2147483648) (hi := 2147483647) g9 63 5 rfl
  have e23 : h9 18 16 = h 18 16 := ((u9 18 16 rfl).trans (u7 18 16 rfl))
  have e24 : h9 18 7 = h 18 7 := ((u9 18 7 rfl).trans (u7 18 7 rfl))
  have e25 : h9 3 2 = h 3 2 := ((u9 3 2 rfl).trans (u7 3 2 rfl))
  have b26 := gi_b (lo := 0) (hi := 12) g9 66 1 rfl
  have q28 : h9 8 = h7 8 := funext (fun i => (u9 8 i (fo_no_ok (by decide) i)))
  have q29 : h9 7 = h7 7 := funext (fun i => (u9 7 i (fo_no_ok (by decide) i)))
  have q30 : h9 19 = h7 19 := funext (fun i => (u9 19 i (fo_no_ok (by decide) i)))
  have ml27 : MCL h9 := MCL.plan ml16 y9_0 q28 q29 q30 (by omega) (by omega)
  refine wk_n ?_
  refine wi_aload_n (i := 0) (x := 0) (nx := 19) (r1 := 0) (r2 := 0) (r3 := 0) rfl rfl ?_
  refine wr_gr (k0 := 0) (x := 63) (nx := 22) (r1 := 0) (r2 := 6) (r3 := 0) rfl rfl (by decide) rfl ⟨rfl, rfl⟩ rfl ?_
  refine wr_V (k0 := 63) (rest := []) (as := [.ref 63]) (nx := 25) (r1 := 180) (r2 := 0) (r3 := 7) rfl rfl rfl (of_decide_eq_true rfl) rfl rfl (by decide) rfl rfl (of_decide_eq_true rfl) (of_decide_eq_true rfl) ?_
  refine ct_180_63 hcr  g9   (show (h9 18 16) ≤ 2000000000 by omega) (show (h9 63 5) = (h9 18 16) by omega) (show ((h9 18 7) ≤ (h9 3 2) ∧ (h9 66 1) = (h9 3 2) - (h9 18 7)) ∨ ((h9 3 2) < (h9 18 7) ∧ (h9 66 1) = 0) by omega) ml27 y9_0 (fun h31 z32 g31 u31 (fz32 : 0 ≤ z32 ∧ z32 ≤ 12) (p31_0 : (h9 18 16) ≤ (h31 18 16) ∧ (h31 18 16) ≤ (h9 18 16) + 12) y31_0 => ?_)
  have F33 := F21.then (by decide +kernel) u31
  have b34 := gi_b (lo := -2147483648) (hi := 2147483647) g31 18 16 rfl
  refine wk_i ?_
  refine wi_istore_n (i := 1) (e := z32) (lo2 := [(1, vi z32), (0, .ref 0)]) (nx := 26) (r1 := 0) (r2 := 0) (r3 := 0) rfl rfl ?_
  refine wi_aload_n (i := 0) (x := 0) (nx := 27) (r1 := 0) (r2 := 0) (r3 := 0) rfl rfl ?_
  refine wi_iload_n (i := 1) (e := z32) (nx := 28) (r1 := 0) (r2 := 0) (r3 := 0) rfl rfl ?_
  refine wi_if (cd := .ne) (nx := 31) (r1 := 35) (r2 := 0) (r3 := 0) rfl (by omega) (fun (q35 : z32 ≠ 0) => ?_) (fun (q35 : ¬ (z32 ≠ 0)) => ?_)
  ·
    refine wi_iload_n (i := 1) (e := z32) (nx := 36) (r1 := 0) (r2 := 0) (r3 := 0) rfl rfl ?_
    refine wr_V (k0 := 0) (rest := []) (as := [.ref 0, vi z32]) (nx := 39) (r1 := 45) (r2 := 1) (r3 := 0) rfl rfl rfl (of_decide_eq_true rfl) rfl rfl (by decide) rfl rfl (of_decide_eq_true rfl) (of_decide_eq_true rfl) ?_
    refine wi_iload_n (i := 1) (e := z32) (nx := 1) (r1 := 0) (r2 := 0) (r3 := 0) rfl rfl ?_
    refine wi_iconst (n := (-1)) (nx := 2) (r1 := 0) (r2 := 0) (r3 := 0) rfl ?_
    refine wi_icmp (cd := .eq) (nx := 5) (r1 := 12) (r2 := 0) (r3 := 0) rfl (by omega) (by omega) (fun (q36 : z32 = (-1)) => by exfalso; omega) (fun (q36 : ¬ (z32 = (-1))) => ?_)
    refine wi_aload_n (i := 0) (x := 0) (nx := 6) (r1 := 0) (r2 := 0) (r3 := 0) rfl rfl ?_
    refine wr_gr (k0 := 0) (x := 73) (nx := 9) (r1 := 0) (r2 := 8) (r3 := 0) rfl rfl (by decide) rfl ⟨rfl, rfl⟩ rfl ?_
    refine wr_V (k0 := 73) (rest := []) (as := [.ref 73]) (nx := 12) (r1 := 193) (r2 := 0) (r3 := 9) rfl rfl rfl (of_decide_eq_true rfl) rfl rfl (by decide) rfl rfl (of_decide_eq_true rfl) (of_decide_eq_true rfl) ?_
    refine ct_193_73 hcr  g31    (fun h37 g37 u37 (p37_0 : ((h31 73 1) ≤ 5 ∧ (h37 73 1) = (h31 73 1) + 1) ∨ ((h31 73 1) = 6 ∧ (h37 73 1) = 0)) (p37_1 : ((h31 73 2) ≤ 5 ∧ (h37 73 2) = (h31 73 2) + 1) ∨ ((h31 73 2) = 6 ∧ (h37 73 2) = 6)) => ?_)
    have F38 := F33.then (by decide +kernel) u37
    have b39 := gi_b (lo := 0) (hi := 6) g 73 1 rfl
    have e40 : h31 73 1 = h 73 1 := ((u31 73 1 rfl).trans ((u9 73 1 rfl).trans (u7 73 1 rfl)))
    have b41 := gi_b (lo := 0) (hi := 6) g37 73 1 rfl
    have b42 := gi_b (lo := 0) (hi := 6) g 73 2 rfl
    have e43 : h31 73 2 = h 73 2 := ((u31 73 2 rfl).trans ((u9 73 2 rfl).trans (u7 73 2 rfl)))
    have b44 := gi_b (lo := 0) (hi := 6) g37 73 2 rfl
    refine wk_n ?_
    refine wi_iload_n (i := 1) (e := z32) (nx := 13) (r1 := 0) (r2 := 0) (r3 := 0) rfl rfl ?_
    refine wi_ireturn (nx := 14) (r1 := 0) (r2 := 0) (r3 := 0) rfl rfl ?_
    refine wk_i ?_
    refine wi_ireturn (nx := 40) (r1 := 0) (r2 := 0) (r3 := 0) rfl rfl ?_
    have e45 : h37 63 5 = h9 63 5 := ((u37 63 5 rfl).trans (u31 63 5 rfl))
    have e46 : h37 18 16 = h31 18 16 := (u37 18 16 rfl)
    have e47 : h37 18 7 = h 18 7 := ((u37 18 7 rfl).trans ((u31 18 7 rfl).trans ((u9 18 7 rfl).trans (u7 18 7 rfl))))
    have e48 : h37 3 2 = h 3 2 := ((u37 3 2 rfl).trans ((u31 3 2 rfl).trans ((u9 3 2 rfl).trans (u7 3 2 rfl))))
    have e49 : h37 66 1 = h9 66 1 := ((u37 66 1 rfl).trans (u31 66 1 rfl))
    have e50 : h31 63 5 = h9 63 5 := (u31 63 5 rfl)
    have e51 : h31 18 7 = h 18 7 := ((u31 18 7 rfl).trans ((u9 18 7 rfl).trans (u7 18 7 rfl)))
    have e52 : h31 3 2 = h 3 2 := ((u31 3 2 rfl).trans ((u9 3 2 rfl).trans (u7 3 2 rfl)))
    have e53 : h31 66 1 = h9 66 1 := (u31 66 1 rfl)
    have q55 : h37 8 = h31 8 := funext (fun i => (u37 8 i (fo_no_ok (by decide) i)))
    have q56 : h37 7 = h31 7 := funext (fun i => (u37 7 i (fo_no_ok (by decide) i)))
    have q57 : h37 19 = h31 19 := funext (fun i => (u37 19 i (fo_no_ok (by decide) i)))
    have q58 : h37 67 = h31 67 := funext (fun i => (u37 67 i (fo_no_ok (by decide) i)))
    have ml54 : MCL h37 := MCL.mv y31_0 q55 q56 q57 q58 (by omega) (by omega) (by omega) (by omega)
    have q60 : h37 69 = h 69 := funext (fun i => ((u37 69 i (fo_no_ok (by decide) i)).trans ((u31 69 i (fo_no_ok (by decide) i)).trans ((u9 69 i (fo_no_ok (by decide) i)).trans (u7 69 i (fo_no_ok (by decide) i))))))
    have q61 : h37 70 = h 70 := funext (fun i => ((u37 70 i (fo_no_ok (by decide) i)).trans ((u31 70 i (fo_no_ok (by decide) i)).trans ((u9 70 i (fo_no_ok (by decide) i)).trans (u7 70 i (fo_no_ok (by decide) i))))))
    have nb59 : NBc (h37 69) (h37 70) := by rw [q60, q61]; exact xq0.2.2
    have q62 : h37 8 = h7 8 := funext (fun i => ((u37 8 i (fo_no_ok (by decide) i)).trans ((u31 8 i (fo_no_ok (by decide) i)).trans (u9 8 i (fo_no_ok (by decide) i)))))
    have q63 : h37 7 = h7 7 := funext (fun i => ((u37 7 i (fo_no_ok (by decide) i)).trans ((u31 7 i (fo_no_ok (by decide) i)).trans (u9 7 i (fo_no_ok (by decide) i)))))
    have e64 : h7 73 1 = h 73 1 := (u7 73 1 rfl)
    have e65 : h7 73 2 = h 73 2 := (u7 73 2 rfl)
    exact k h37 z32 g37 F38 (by omega) (show (h37 63 5) ≤ (h37 18 16) by omega) (show (h37 63 5) < (h37 18 16) ∨ ((h37 18 7) ≤ (h37 3 2) ∧ (h37 66 1) = (h37 3 2) - (h37 18 7)) ∨ ((h37 3 2) < (h37 18 7) ∧ (h37 66 1) = 0) by omega) (show (h 18 16) ≤ (h37 18 16) ∧ (h37 18 16) ≤ (h 18 16) + 20 by omega) ⟨ml54, (HIv.k y7_0 q62 q63 (by omega) (by omega) (sv_seven (P := fun x => ∀ i, h37 (76 + 19 * x) i = h7 (76 + 19 * x) i) (fun i => ((u37 76 i (fn_a (by omega) fn_0)).trans ((u31 76 i (fn_a (by omega) (fn_a (by omega) fn_0))).trans (u9 76 i (fo_nk rfl))))) (fun i => ((u37 95 i (fn_a (by omega) fn_0)).trans ((u31 95 i (fn_a (by omega) (fn_a (by omega) fn_0))).trans (u9 95 i (fo_nk rfl))))) (fun i => ((u37 114 i (fn_a (by omega) fn_0)).trans ((u31 114 i (fn_a (by omega) (fn_a (by omega) fn_0))).trans (u9 114 i (fo_nk rfl))))) (fun i => ((u37 133 i (fn_a (by omega) fn_0)).trans ((u31 133 i (fn_a (by omega) (fn_a (by omega) fn_0))).trans (u9 133 i (fo_nk rfl))))) (fun i => ((u37 152 i (fn_a (by omega) fn_0)).trans ((u31 152 i (fn_a (by omega) (fn_a (by omega) fn_0))).trans (u9 152 i (fo_nk rfl))))) (fun i => ((u37 171 i (fn_a (by omega) fn_0)).trans ((u31 171 i (fn_a (by omega) (fn_a (by omega) fn_0))).trans (u9 171 i (fo_nk rfl))))) (fun i => ((u37 190 i (fn_a (by omega) fn_0)).trans ((u31 190 i (fn_a (by omega) (fn_a (by omega) fn_0))).trans (u9 190 i (fo_nk rfl)))))) (by omega) (by omega)), nb59⟩
  ·
    refine wi_iconst (n := (-1)) (nx := 32) (r1 := 0) (r2 := 0) (r3 := 0) rfl ?_
    refine wi_goto (nx := 35) (r1 := 36) (r2 := 0) (r3 := 0) rfl ?_
    refine wr_V (k0 := 0) (rest := []) (as := [.ref 0, vi (-1)]) (nx := 39) (r1 := 45) (r2 := 1) (r3 := 0) rfl rfl rfl (of_decide_eq_true rfl) rfl rfl (by decide) rfl rfl (of_decide_eq_true rfl) (of_decide_eq_true rfl) ?_
    refine wi_iload_n (i := 1) (e := -1) (nx := 1) (r1 := 0) (r2 := 0) (r3 := 0) rfl rfl ?_
    refine wi_iconst (n := (-1)) (nx := 2) (r1 := 0) (r2 := 0) (r3 := 0) rfl ?_
    refine wi_icmp (cd := .eq) (nx := 5) (r1 := 12) (r2 := 0) (r3 := 0) rfl (by omega) (by omega) (fun (q36 : (-1) = (-1)) => ?_) (fun (q36 : ¬ ((-1) = (-1))) => by exfalso; omega)
    refine wi_iload_n (i := 1) (e := -1) (nx := 13) (r1 := 0) (r2 := 0) (r3 := 0) rfl rfl ?_
    refine wi_ireturn (nx := 14) (r1 := 0) (r2 := 0) (r3 := 0) rfl rfl ?_
    refine wk_i ?_
    refine wi_ireturn (nx := 40) (r1 := 0) (r2 := 0) (r3 := 0) rfl rfl ?_
    have e37 : h31 63 5 = h9 63 5 := (u31 63 5 rfl)
    have e38 : h31 18 7 = h 18 7 := ((u31 18 7 rfl).trans ((u9 18 7 rfl).trans (u7 18 7 rfl)))
    have e39 : h31 3 2 = h 3 2 := ((u31 3 2 rfl).trans ((u9 3 2 rfl).trans (u7 3 2 rfl)))
    have e40 : h31 66 1 = h9 66 1 := (u31 66 1 rfl)
    have q42 : h31 69 = h 69 := funext (fun i => ((u31 69 i (fo_no_ok (by decide) i)).trans ((u9 69 i (fo_no_ok (by decide) i)).trans (u7 69 i (fo_no_ok (by decide) i)))))
    have q43 : h31 70 = h 70 := funext (fun i => ((u31 70 i (fo_no_ok (by decide) i)).trans ((u9 70 i (fo_no_ok (by decide) i)).trans (u7 70 i (fo_no_ok (by decide) i)))))
    have nb41 : NBc (h31 69) (h31 70) := by rw [q42, q43]; exact xq0.2.2
    have q44 : h31 8 = h7 8 := funext (fun i => ((u31 8 i (fo_no_ok (by decide) i)).trans (u9 8 i (fo_no_ok (by decide) i))))
    have q45 : h31 7 = h7 7 := funext (fun i => ((u31 7 i (fo_no_ok (by decide) i)).trans (u9 7 i (fo_no_ok (by decide) i))))
    have b46 := gi_b (lo := 0) (hi := 6) g 73 1 rfl
    have e47 : h31 73 1 = h 73 1 := ((u31 73 1 rfl).trans ((u9 73 1 rfl).trans (u7 73 1 rfl)))
    have e48 : h7 73 1 = h 73 1 := (u7 73 1 rfl)
    have b49 := gi_b (lo := 0) (hi := 6) g 73 2 rfl
    have e50 : h31 73 2 = h 73 2 := ((u31 73 2 rfl).trans ((u9 73 2 rfl).trans (u7 73 2 rfl)))
    have e51 : h7 73 2 = h 73 2 := (u7 73 2 rfl)
    exact k h31 (-1) g31 F33 (by omega) (show (h31 63 5) ≤ (h31 18 16) by omega) (show (h31 63 5) < (h31 18 16) ∨ ((h31 18 7) ≤ (h31 3 2) ∧ (h31 66 1) = (h31 3 2) - (h31 18 7)) ∨ ((h31 3 2) < (h31 18 7) ∧ (h31 66 1) = 0) by omega) (show (h 18 16) ≤ (h31 18 16) ∧ (h31 18 16) ≤ (h 18 16) + 20 by omega) ⟨y31_0, (HIv.n y7_0 q44 q45 (by omega) (by omega) (sv_seven (P := fun x => ∀ i, h31 (76 + 19 * x) i = h7 (76 + 19 * x) i) (fun i => ((u31 76 i (fn_a (by omega) (fn_a (by omega) fn_0))).trans (u9 76 i (fo_nk rfl)))) (fun i => ((u31 95 i (fn_a (by omega) (fn_a (by omega) fn_0))).trans (u9 95 i (fo_nk rfl)))) (fun i => ((u31 114 i (fn_a (by omega) (fn_a (by omega) fn_0))).trans (u9 114 i (fo_nk rfl)))) (fun i => ((u31 133 i (fn_a (by omega) (fn_a (by omega) fn_0))).trans (u9 133 i (fo_nk rfl)))) (fun i => ((u31 152 i (fn_a (by omega) (fn_a (by omega) fn_0))).trans (u9 152 i (fo_nk rfl)))) (fun i => ((u31 171 i (fn_a (by omega) (fn_a (by omega) fn_0))).trans (u9 171 i (fo_nk rfl)))) (fun i => ((u31 190 i (fn_a (by omega) (fn_a (by omega) fn_0))).trans (u9 190 i (fo_nk rfl))))) (by omega) (by omega)), nb41⟩
-- method 55: Bank.swapChanges()I
set_option maxRecDepth 100000 in
set_option maxHeartbeats 100000000 in
theorem ct_55_0 {L : Nat} {xs : Nat → Int32} {d b c : Nat} {h : hp} {cr : Nat → Nat → Option Nat} {Q : hp_Q} (hcr : CR cr)  (g : GI h)   (pp0 : h 63 5 ≤ h 18 16) (pp1 : h 63 5 < h 18 16 ∨ (h 18 7 ≤ h 3 2 ∧ h 66 1 = h 3 2 - h 18 7) ∨ (h 3 2 < h 18 7 ∧ h 66 1 = 0)) (pp2 : 0 ≤ h 3 9) (pp3 : h 18 16 ≤ 1900000000) (xq0 : MCI h) (k : ∀ (h2 : hp) (z0 : Int) , GI h2 → FR [(64, 64, none), (65, 65, none), (67, 67, none), (63, 63, some (4, 5)), (63, 63, some (7, 7)), (66, 66, some (1, 1))] h h2 → (-2147483648 ≤ z0 ∧ z0 ≤ 2147483647) → (h2 63 5 ≤ h2 18 16) → (h2 63 5 < h2 18 16 ∨ (h2 18 7 ≤ h2 3 2 ∧ h2 66 1 = h2 3 2 - h2 18 7) ∨ (h2 3 2 < h2 18 7 ∧ h2 66 1 = 0)) → (h 18 16 ≤ h2 18 16 ∧ h2 18 16 ≤ h 18 16 + 0) → (MCI h2) → Q (.inl (some (vi z0))) (hp_w h2 cr) b c) : wp (md_xa (L, xs)) (d + 20) 55 (0, [(0, .ref 0)], [], hp_w h cr, b, c) Q := by
  have F0 : FR [(64, 64, none), (65, 65, none), (67, 67, none), (63, 63, some (4, 5)), (63, 63, some (7, 7)), (66, 66, some (1, 1))] h h := FR.refl
  have b1 := gi_b (lo := -2147483648) (hi := 2147483647) g 63 5 rfl
  have b2 := gi_b (lo := -2147483648) (hi := 2147483647) g 18 16 rfl
  have b3 := gi_b (lo := 0) (hi := 12) g 18 7 rfl
  have b4 := gi_b (lo := 0) (hi := 12) g 3 2 rfl
  have b5 := gi_b (lo := 0) (hi := 12) g 66 1 rfl
  have b6 := gi_b (lo := -2147483648) (hi := 2147483647) g 3 9 rfl
  refine wi_aload_n (i := 0) (x := 0) (nx := 1) (r1 := 0) (r2 := 0) (r3 := 0) rfl rfl ?_
  refine wr_gr (k0 := 0) (x := 63) (nx := 4) (r1 := 0) (r2 := 6) (r3 := 0) rfl rfl (by decide) rfl ⟨rfl, rfl⟩ rfl ?_
  refine wr_V (k0 := 63) (rest := []) (as := [.ref 63]) (nx := 7) (r1 := 171) (r2 := 0) (r3 := 7) rfl rfl rfl (of_decide_eq_true rfl) rfl rfl (by decide) rfl rfl (of_decide_eq_true rfl) (of_decide_eq_true rfl) ?_
  refine ct_171_63 hcr  g   (show (h 63 5) ≤ (h 18 16) by omega) (show (h 63 5) < (h 18 16) ∨ ((h 18 7) ≤ (h 3 2) ∧ (h 66 1) = (h 3 2) - (h 18 7)) ∨ ((h 3 2) < (h 18 7) ∧ (h 66 1) = 0) by omega) (show 0 ≤ (h 3 9) by omega) xq0.1 (fun h7 g7 u7 (p7_0 : (h7 63 5) = (h7 18 16)) (p7_1 : ((h7 18 7) ≤ (h7 3 2) ∧ (h7 66 1) = (h7 3 2) - (h7 18 7)) ∨ ((h7 3 2) < (h7 18 7) ∧ (h7 66 1) = 0)) y7_0 => ?_)
  have F8 := F0.then (by decide +kernel) u7
  have b9 := gi_b (lo := -2147483648) (hi := 2147483647) g7 63 5 rfl
  have e10 : h7 18 16 = h 18 16 := (u7 18 16 rfl)
  have e11 : h7 18 7 = h 18 7 := (u7 18 7 rfl)
  have e12 : h7 3 2 = h 3 2 := (u7 3 2 rfl)
  have b13 := gi_b (lo := 0) (hi := 12) g7 66 1 rfl
  have q15 : h7 8 = h 8 := funext (fun i => (u7 8 i (fo_no_ok (by decide) i)))
  have q16 : h7 7 = h 7 := funext (fun i => (u7 7 i (fo_no_ok (by decide) i)))
  have q17 : h7 19 = h 19 := funext (fun i => (u7 19 i (fo_no_ok (by decide) i)))
  have ml14 : MCL h7 := MCL.plan xq0.1 y7_0 q15 q16 q17 (by omega) (by omega)
  refine wk_n ?_
  refine wi_aload_n (i := 0) (x := 0) (nx := 8) (r1 := 0) (r2 := 0) (r3 := 0) rfl rfl ?_
  refine wr_gr (k0 := 0) (x := 63) (nx := 11) (r1 := 0) (r2 := 6) (r3 := 0) rfl rfl (by decide) rfl ⟨rfl, rfl⟩ rfl ?_
  have b18 := gi_b (lo := -2147483648) (hi := 2147483647) g7 63 7 rfl
  refine wr_gi0 (k0 := 63) (x := h7 63 7) (nx := 14) (r1 := 7) (r2 := 7) (r3 := 0) rfl rfl (by decide) rfl ⟨rfl, rfl⟩ rfl rfl ?_
  refine wi_ireturn (nx := 15) (r1 := 0) (r2 := 0) (r3 := 0) rfl rfl ?_
  have q20 : h7 69 = h 69 := funext (fun i => (u7 69 i (fo_no_ok (by decide) i)))
  have q21 : h7 70 = h 70 := funext (fun i => (u7 70 i (fo_no_ok (by decide) i)))
  have nb19 : NBc (h7 69) (h7 70) := by rw [q20, q21]; exact xq0.2.2
  have q22 : h7 8 = h 8 := funext (fun i => (u7 8 i (fo_no_ok (by decide) i)))
  have q23 : h7 7 = h 7 := funext (fun i => (u7 7 i (fo_no_ok (by decide) i)))
  have b24 := gi_b (lo := 0) (hi := 6) g 73 1 rfl
  have e25 : h7 73 1 = h 73 1 := (u7 73 1 rfl)
  have b26 := gi_b (lo := 0) (hi := 6) g 73 2 rfl
  have e27 : h7 73 2 = h 73 2 := (u7 73 2 rfl)
  exact k h7 (h7 63 7) g7 F8 (by omega) (show (h7 63 5) ≤ (h7 18 16) by omega) (show (h7 63 5) < (h7 18 16) ∨ ((h7 18 7) ≤ (h7 3 2) ∧ (h7 66 1) = (h7 3 2) - (h7 18 7)) ∨ ((h7 3 2) < (h7 18 7) ∧ (h7 66 1) = 0) by omega) (show (h 18 16) ≤ (h7 18 16) ∧ (h7 18 16) ≤ (h 18 16) + 0 by omega) ⟨ml14, (HIv.mv xq0.2.1 q22 q23 (by omega) (by omega) (sv_seven (P := fun x => ∀ i, h7 (76 + 19 * x) i = h (76 + 19 * x) i) (fun i => (u7 76 i (fo_nk rfl))) (fun i => (u7 95 i (fo_nk rfl))) (fun i => (u7 114 i (fo_nk rfl))) (fun i => (u7 133 i (fo_nk rfl))) (fun i => (u7 152 i (fo_nk rfl))) (fun i => (u7 171 i (fo_nk rfl))) (fun i => (u7 190 i (fo_nk rfl)))) (by omega) (by omega)), nb19⟩
-- method 56: Bank.swapColor(I)I
set_option maxRecDepth 100000 in
set_option maxHeartbeats 100000000 in
theorem ct_56_0 {L : Nat} {xs : Nat → Int32} {d b c : Nat} {h : hp} {cr : Nat → Nat → Option Nat} {Q : hp_Q} (hcr : CR cr)  (g : GI h) (a0 : Int) (q0_ : -2147483648 ≤ a0 ∧ a0 ≤ 2147483647) (pp0 : h 63 5 ≤ h 18 16) (pp1 : h 63 5 < h 18 16 ∨ (h 18 7 ≤ h 3 2 ∧ h 66 1 = h 3 2 - h 18 7) ∨ (h 3 2 < h 18 7 ∧ h 66 1 = 0)) (pp2 : 0 ≤ h 3 9) (pp3 : h 18 16 ≤ 1900000000) (xq0 : MCI h) (k : ∀ (h2 : hp) (z0 : Int) , GI h2 → FR [(64, 64, none), (65, 65, none), (67, 67, none), (63, 63, some (4, 5)), (63, 63, some (7, 7)), (66, 66, some (1, 1))] h h2 → (-2147483648 ≤ z0 ∧ z0 ≤ 2147483647) → (h2 63 5 ≤ h2 18 16) → (h2 63 5 < h2 18 16 ∨ (h2 18 7 ≤ h2 3 2 ∧ h2 66 1 = h2 3 2 - h2 18 7) ∨ (h2 3 2 < h2 18 7 ∧ h2 66 1 = 0)) → (h 18 16 ≤ h2 18 16 ∧ h2 18 16 ≤ h 18 16 + 0) → (MCI h2) → Q (.inl (some (vi z0))) (hp_w h2 cr) b c) : wp (md_xa (L, xs)) (d + 20) 56 (0, [(0, .ref 0), (1, vi a0)], [], hp_w h cr, b, c) Q := by
  have F0 : FR [(64, 64, none), (65, 65, none), (67, 67, none), (63, 63, some (4, 5)), (63, 63, some (7, 7)), (66, 66, some (1, 1))] h h := FR.refl
  have b1 := gi_b (lo := -2147483648) (hi := 2147483647) g 63 5 rfl
  have b2 := gi_b (lo := -2147483648) (hi := 2147483647) g 18 16 rfl
  have b3 := gi_b (lo := 0) (hi := 12) g 18 7 rfl
  have b4 := gi_b (lo := 0) (hi := 12) g 3 2 rfl
  have b5 := gi_b (lo := 0) (hi := 12) g 66 1 rfl
  have b6 := gi_b (lo := -2147483648) (hi := 2147483647) g 3 9 rfl
  refine wi_aload_n (i := 0) (x := 0) (nx := 1) (r1 := 0) (r2 := 0) (r3 := 0) rfl rfl ?_
  refine wr_gr (k0 := 0) (x := 63) (nx := 4) (r1 := 0) (r2 := 6) (r3 := 0) rfl rfl (by decide) rfl ⟨rfl, rfl⟩ rfl ?_
  refine wr_V (k0 := 63) (rest := []) (as := [.ref 63]) (nx := 7) (r1 := 171) (r2 := 0) (r3 := 7) rfl rfl rfl (of_decide_eq_true rfl) rfl rfl (by decide) rfl rfl (of_decide_eq_true rfl) (of_decide_eq_true rfl) ?_
  refine ct_171_63 hcr  g   (show (h 63 5) ≤ (h 18 16) by omega) (show (h 63 5) < (h 18 16) ∨ ((h 18 7) ≤ (h 3 2) ∧ (h 66 1) = (h 3 2) - (h 18 7)) ∨ ((h 3 2) < (h 18 7) ∧ (h 66 1) = 0) by omega) (show 0 ≤ (h 3 9) by omega) xq0.1 (fun h7 g7 u7 (p7_0 : (h7 63 5) = (h7 18 16)) (p7_1 : ((h7 18 7) ≤ (h7 3 2) ∧ (h7 66 1) = (h7 3 2) - (h7 18 7)) ∨ ((h7 3 2) < (h7 18 7) ∧ (h7 66 1) = 0)) y7_0 => ?_)
  have F8 := F0.then (by decide +kernel) u7
  have b9 := gi_b (lo := -2147483648) (hi := 2147483647) g7 63 5 rfl
  have e10 : h7 18 16 = h 18 16 := (u7 18 16 rfl)
  have e11 : h7 18 7 = h 18 7 := (u7 18 7 rfl)
  have e12 : h7 3 2 = h 3 2 := (u7 3 2 rfl)
  have b13 := gi_b (lo := 0) (hi := 12) g7 66 1 rfl
  have q15 : h7 8 = h 8 := funext (fun i => (u7 8 i (fo_no_ok (by decide) i)))
  have q16 : h7 7 = h 7 := funext (fun i => (u7 7 i (fo_no_ok (by decide) i)))
  have q17 : h7 19 = h 19 := funext (fun i => (u7 19 i (fo_no_ok (by decide) i)))
  have ml14 : MCL h7 := MCL.plan xq0.1 y7_0 q15 q16 q17 (by omega) (by omega)
  refine wk_n ?_
  refine wi_aload_n (i := 0) (x := 0) (nx := 8) (r1 := 0) (r2 := 0) (r3 := 0) rfl rfl ?_
  refine wr_gr (k0 := 0) (x := 63) (nx := 11) (r1 := 0) (r2 := 6) (r3 := 0) rfl rfl (by decide) rfl ⟨rfl, rfl⟩ rfl ?_
  refine wr_gr (k0 := 63) (x := 66) (nx := 14) (r1 := 7) (r2 := 6) (r3 := 0) rfl rfl (by decide) rfl ⟨rfl, rfl⟩ rfl ?_
  refine wi_iload_n (i := 1) (e := a0) (nx := 15) (r1 := 0) (r2 := 0) (r3 := 0) rfl rfl ?_
  refine wr_V (k0 := 66) (rest := []) (as := [.ref 66, vi a0]) (nx := 18) (r1 := 154) (r2 := 1) (r3 := 5) rfl rfl rfl (of_decide_eq_true rfl) rfl rfl (by decide) rfl rfl (of_decide_eq_true rfl) (of_decide_eq_true rfl) ?_
  refine ct_154_R hcr rw_66 g7 a0 (by omega)  (fun z19  (fz19 : -2147483648 ≤ z19 ∧ z19 ≤ 2147483647) => ?_)
  refine wk_i ?_
  refine wi_ireturn (nx := 19) (r1 := 0) (r2 := 0) (r3 := 0) rfl rfl ?_
  have q21 : h7 69 = h 69 := funext (fun i => (u7 69 i (fo_no_ok (by decide) i)))
  have q22 : h7 70 = h 70 := funext (fun i => (u7 70 i (fo_no_ok (by decide) i)))
  have nb20 : NBc (h7 69) (h7 70) := by rw [q21, q22]; exact xq0.2.2
  have q23 : h7 8 = h 8 := funext (fun i => (u7 8 i (fo_no_ok (by decide) i)))
  have q24 : h7 7 = h 7 := funext (fun i => (u7 7 i (fo_no_ok (by decide) i)))
  have b25 := gi_b (lo := 0) (hi := 6) g 73 1 rfl
  have e26 : h7 73 1 = h 73 1 := (u7 73 1 rfl)
  have b27 := gi_b (lo := 0) (hi := 6) g 73 2 rfl
  have e28 : h7 73 2 = h 73 2 := (u7 73 2 rfl)
  exact k h7 z19 g7 F8 (by omega) (show (h7 63 5) ≤ (h7 18 16) by omega) (show (h7 63 5) < (h7 18 16) ∨ ((h7 18 7) ≤ (h7 3 2) ∧ (h7 66 1) = (h7 3 2) - (h7 18 7)) ∨ ((h7 3 2) < (h7 18 7) ∧ (h7 66 1) = 0) by omega) (show (h 18 16) ≤ (h7 18 16) ∧ (h7 18 16) ≤ (h 18 16) + 0 by omega) ⟨ml14, (HIv.mv xq0.2.1 q23 q24 (by omega) (by omega) (sv_seven (P := fun x => ∀ i, h7 (76 + 19 * x) i = h (76 + 19 * x) i) (fun i => (u7 76 i (fo_nk rfl))) (fun i => (u7 95 i (fo_nk rfl))) (fun i => (u7 114 i (fo_nk rfl))) (fun i => (u7 133 i (fo_nk rfl))) (fun i => (u7 152 i (fo_nk rfl))) (fun i => (u7 171 i (fo_nk rfl))) (fun i => (u7 190 i (fo_nk rfl)))) (by omega) (by omega)), nb20⟩
-- method 40: Bank.time()I
set_option maxRecDepth 100000 in
set_option maxHeartbeats 100000000 in
theorem ct_40_0 {L : Nat} {xs : Nat → Int32} {d b c : Nat} {h : hp} {cr : Nat → Nat → Option Nat} {Q : hp_Q} (hcr : CR cr)  (g : GI h)    (k : ∀ (z0 : Int), (-2147483648 ≤ z0 ∧ z0 ≤ 2147483647) → Q (.inl (some (vi z0))) (hp_w h cr) b c) : wp (md_xa (L, xs)) d 40 (0, [(0, .ref 0)], [], hp_w h cr, b, c) Q := by
  have F0 : FR [] h h := FR.refl
  refine wi_aload_n (i := 0) (x := 0) (nx := 1) (r1 := 0) (r2 := 0) (r3 := 0) rfl rfl ?_
  refine wr_gr (k0 := 0) (x := 18) (nx := 4) (r1 := 0) (r2 := 3) (r3 := 0) rfl rfl (by decide) rfl ⟨rfl, rfl⟩ rfl ?_
  have b1 := gi_b (lo := -2147483648) (hi := 2147483647) g 18 10 rfl
  refine wr_gi0 (k0 := 18) (x := h 18 10) (nx := 7) (r1 := 4) (r2 := 10) (r3 := 0) rfl rfl (by decide) rfl ⟨rfl, rfl⟩ rfl rfl ?_
  refine wi_ireturn (nx := 8) (r1 := 0) (r2 := 0) (r3 := 0) rfl rfl ?_
  exact k (h 18 10) (by omega)
-- method 62: Bank.truncate(I)I
set_option maxRecDepth 100000 in
set_option maxHeartbeats 100000000 in
theorem ct_62_0 {L : Nat} {xs : Nat → Int32} {d b c : Nat} {h : hp} {cr : Nat → Nat → Option Nat} {Q : hp_Q} (hcr : CR cr) (hr : 1 ≤ b ∧ 6 ≤ c)  (g : GI h) (a0 : Int) (q0_ : -2147483648 ≤ a0 ∧ a0 ≤ 2147483647)  (k : ∀ (h2 : hp) (z0 : Int) , GI h2 → FR [(1, 1, some (1, 1))] h h2 → (0 ≤ z0 ∧ z0 ≤ 800) → (0 ≤ a0 ∧ a0 ≤ h 1 1) → (h2 1 1 = a0) → (z0 = a0) → Q (.inl (some (vi z0))) (hp_w h2 cr) b c) (kx1 : ∀ (h2 : hp), GI h2 → FR [(1, 1, some (1, 1))] h h2 → (a0 < 0 ∨ h 1 1 < a0) → (h2 1 1 = h 1 1) → Q (.inr 1) (hp_w h2 cr) (b - 1) (c - 6)) : wp (md_xa (L, xs)) d 62 (0, [(0, .ref 0), (1, vi a0)], [], hp_w h cr, b, c) Q := by
  have F0 : FR [(1, 1, some (1, 1))] h h := FR.refl
  refine wi_iload_n (i := 1) (e := a0) (nx := 1) (r1 := 0) (r2 := 0) (r3 := 0) rfl rfl ?_
  refine wi_if (cd := .lt) (nx := 4) (r1 := 15) (r2 := 0) (r3 := 0) rfl (by omega) (fun (q1 : a0 < 0) => ?_) (fun (q1 : ¬ (a0 < 0)) => ?_)
  ·
    refine wr_throw (Ex := 1) (nx := 18) (r1 := 1) (r2 := 0) (r3 := 1) rfl (by decide) rfl hr (by decide) ?_
    have b2 := gi_b (lo := 0) (hi := 800) g 1 1 rfl
    exact kx1 h g F0 (show a0 < 0 ∨ (h 1 1) < a0 by omega) (show (h 1 1) = (h 1 1) by omega)
  ·
    refine wi_iload_n (i := 1) (e := a0) (nx := 5) (r1 := 0) (r2 := 0) (r3 := 0) rfl rfl ?_
    refine wi_aload_n (i := 0) (x := 0) (nx := 6) (r1 := 0) (r2 := 0) (r3 := 0) rfl rfl ?_
    refine wr_gr (k0 := 0) (x := 1) (nx := 9) (r1 := 0) (r2 := 0) (r3 := 0) rfl rfl (by decide) rfl ⟨rfl, rfl⟩ rfl ?_
    have b2 := gi_b (lo := 0) (hi := 800) g 1 1 rfl
    refine wr_gi0 (k0 := 1) (x := h 1 1) (nx := 12) (r1 := 1) (r2 := 1) (r3 := 0) rfl rfl (by decide) rfl ⟨rfl, rfl⟩ rfl rfl ?_
    refine wi_icmp (cd := .le) (nx := 15) (r1 := 25) (r2 := 0) (r3 := 0) rfl (by omega) (by omega) (fun (q3 : a0 ≤ (h 1 1)) => ?_) (fun (q3 : ¬ (a0 ≤ (h 1 1))) => ?_)
    ·
      refine wi_aload_n (i := 0) (x := 0) (nx := 26) (r1 := 0) (r2 := 0) (r3 := 0) rfl rfl ?_
      refine wr_gr (k0 := 0) (x := 1) (nx := 29) (r1 := 0) (r2 := 0) (r3 := 0) rfl rfl (by decide) rfl ⟨rfl, rfl⟩ rfl ?_
      refine wi_iload_n (i := 1) (e := a0) (nx := 30) (r1 := 0) (r2 := 0) (r3 := 0) rfl rfl ?_
      refine wr_pf0 (k0 := 1) (x := a0) (bl := 0) (bh := 800) (nx := 33) (r1 := 1) (r2 := 1) (r3 := 0) rfl (by decide) rfl ⟨rfl, rfl⟩ rfl rfl g rfl (by omega) (fun h4 g4 w4 u4 => ?_)
      have F5 := F0.then rfl u4
      refine wi_iload_n (i := 1) (e := a0) (nx := 34) (r1 := 0) (r2 := 0) (r3 := 0) rfl rfl ?_
      refine wi_ireturn (nx := 35) (r1 := 0) (r2 := 0) (r3 := 0) rfl rfl ?_
      have e6 : h4 1 1 = a0 := w4
      exact k h4 a0 g4 F5 (by omega) (show 0 ≤ a0 ∧ a0 ≤ (h 1 1) by omega) (show (h4 1 1) = a0 by omega) (show a0 = a0 by omega)
    ·
      refine wr_throw (Ex := 1) (nx := 18) (r1 := 1) (r2 := 0) (r3 := 1) rfl (by decide) rfl hr (by decide) ?_
      exact kx1 h g F0 (show a0 < 0 ∨ (h 1 1) < a0 by omega) (show (h 1 1) = (h 1 1) by omega)
-- method 132: Line.copyFrom(LPaintBank$Line;)V
set_option maxRecDepth 100000 in
set_option maxHeartbeats 100000000 in
theorem ct_132_18_75 {L : Nat} {xs : Nat → Int32} {d b c : Nat} {h : hp} {cr : Nat → Nat → Option Nat} {Q : hp_Q} (hcr : CR cr)  (g : GI h)   (pp0 : h 18 16 ≤ 2000000000) (k : ∀ (h2 : hp) , GI h2 → FR [(19, 19, none), (20, 20, none), (22, 23, none), (24, 25, none), (26, 27, none), (28, 28, none), (29, 36, none), (18, 18, some (7, 13)), (18, 18, some (15, 16))] h h2 → (h2 18 16 = h 18 16 + 1) → (∀ i : Nat, i < 12 → h2 19 i = h 76 i) → Q (.inl none) (hp_w h2 cr) b c) : wp (md_xa (L, xs)) (d + 1) 132 (0, [(0, .ref 18), (1, .ref 75)], [], hp_w h cr, b, c) Q := by
  have F0 : FR [(19, 19, none), (20, 20, none), (22, 23, none), (24, 25, none), (26, 27, none), (28, 28, none), (29, 36, none), (18, 18, some (7, 13)), (18, 18, some (15, 16))] h h := FR.refl
  have b1 := gi_b (lo := -2147483648) (hi := 2147483647) g 18 16 rfl
  refine wi_aload_n (i := 1) (x := 75) (nx := 1) (r1 := 0) (r2 := 0) (r3 := 0) rfl rfl ?_
  refine wr_gr (k0 := 75) (x := 76) (nx := 4) (r1 := 4) (r2 := 1) (r3 := 0) rfl rfl (by decide) rfl ⟨rfl, rfl⟩ rfl ?_
  refine wi_iconst (n := 0) (nx := 5) (r1 := 0) (r2 := 0) (r3 := 0) rfl ?_
  refine wi_aload_n (i := 0) (x := 18) (nx := 6) (r1 := 0) (r2 := 0) (r3 := 0) rfl rfl ?_
  refine wr_gr (k0 := 18) (x := 19) (nx := 9) (r1 := 4) (r2 := 1) (r3 := 0) rfl rfl (by decide) rfl ⟨rfl, rfl⟩ rfl ?_
  refine wi_iconst (n := 0) (nx := 10) (r1 := 0) (r2 := 0) (r3 := 0) rfl ?_
  refine wi_bipush (n := 12) (nx := 12) (r1 := 0) (r2 := 0) (r3 := 0) rfl (by decide) ?_
  refine wr_cpy (s0 := 76) (d0 := 19) (n0 := 12) (n1 := 12) (sp := 0) (dp := 0) (n := 12) (sl := -2147483648) (sh := 2147483647) (dl := -2147483648) (dh := 2147483647) (nx := 15) (r1 := 0) (r2 := 101) (r3 := 0) rfl rfl (of_decide_eq_true rfl) (by decide) (by decide) rfl rfl (by omega) (fun _ => rfl) (fun _ => rfl) (by omega) g (fun h2 g2 y2 u2 => ?_)
  have F3 := F0.then rfl u2
  refine wi_aload_n (i := 1) (x := 75) (nx := 16) (r1 := 0) (r2 := 0) (r3 := 0) rfl rfl ?_
  refine wr_gr (k0 := 75) (x := 77) (nx := 19) (r1 := 4) (r2 := 2) (r3 := 0) rfl rfl (by decide) rfl ⟨rfl, rfl⟩ rfl ?_
  refine wi_iconst (n := 0) (nx := 20) (r1 := 0) (r2 := 0) (r3 := 0) rfl ?_
  refine wi_aload_n (i := 0) (x := 18) (nx := 21) (r1 := 0) (r2 := 0) (r3 := 0) rfl rfl ?_
  refine wr_gr (k0 := 18) (x := 20) (nx := 24) (r1 := 4) (r2 := 2) (r3 := 0) rfl rfl (by decide) rfl ⟨rfl, rfl⟩ rfl ?_
  refine wi_iconst (n := 0) (nx := 25) (r1 := 0) (r2 := 0) (r3 := 0) rfl ?_
  refine wi_bipush (n := 12) (nx := 27) (r1 := 0) (r2 := 0) (r3 := 0) rfl (by decide) ?_
  refine wr_cpy (s0 := 77) (d0 := 20) (n0 := 12) (n1 := 12) (sp := 0) (dp := 0) (n := 12) (sl := -2147483648) (sh := 2147483647) (dl := -2147483648) (dh := 2147483647) (nx := 30) (r1 := 0) (r2 := 101) (r3 := 0) rfl rfl (of_decide_eq_true rfl) (by decide) (by decide) rfl rfl (by omega) (fun _ => rfl) (fun _ => rfl) (by omega) g2 (fun h4 g4 y4 u4 => ?_)
  have F5 := F3.then rfl u4
  refine wi_iconst (n := 0) (nx := 31) (r1 := 0) (r2 := 0) (r3 := 0) rfl ?_
  refine wi_istore_n (i := 2) (e := 0) (lo2 := [(2, vi 0), (0, .ref 18), (1, .ref 75)]) (nx := 32) (r1 := 0) (r2 := 0) (r3 := 0) rfl rfl ?_
  refine wp.lo (lo := [(0, .ref 18), (1, .ref 75), (2, vi 0)]) ⟨rfl, rfl, rfl, trivial⟩ rfl ?_
  refine wl_1 (fun x6 h7 => GI h7 ∧ FR [(19, 19, none), (20, 20, none), (22, 23, none), (24, 25, none), (26, 27, none), (28, 28, none), (29, 36, none), (18, 18, some (7, 13)), (18, 18, some (15, 16))] h h7 ∧ FR [(29, 36, none)] h4 h7 ∧ ((0 ≤ x6 ∧ x6 ≤ 4))) (fun x6 h7 => ((4 : Int) + 1 - x6).toNat) (fun x6 h7 => (32, [(0, .ref 18), (1, .ref 75), (2, vi x6)], [], hp_w h7 cr, b, c)) ?_ 0 h4 ⟨g4, F5, FR.refl, (show (0 ≤ 0 ∧ 0 ≤ 4) by omega)⟩
  intro x6 h7 ⟨g7, F8, u7, f7⟩ I7
  refine wi_iload_n (i := 2) (e := x6) (nx := 33) (r1 := 0) (r2 := 0) (r3 := 0) rfl rfl ?_
  refine wi_iconst (n := 4) (nx := 34) (r1 := 0) (r2 := 0) (r3 := 0) rfl ?_
  refine wi_icmp (cd := .ge) (nx := 37) (r1 := 58) (r2 := 0) (r3 := 0) rfl (by omega) (by omega) (fun (q9 : 4 ≤ x6) => ?_) (fun (q9 : ¬ (4 ≤ x6)) => ?_)
  ·
    refine wi_aload_n (i := 0) (x := 18) (nx := 59) (r1 := 0) (r2 := 0) (r3 := 0) rfl rfl ?_
    refine wr_gr (k0 := 18) (x := 22) (nx := 62) (r1 := 4) (r2 := 4) (r3 := 0) rfl rfl (by decide) rfl ⟨rfl, rfl⟩ rfl ?_
    refine wi_aload_n (i := 1) (x := 75) (nx := 63) (r1 := 0) (r2 := 0) (r3 := 0) rfl rfl ?_
    refine wr_gr (k0 := 75) (x := 79) (nx := 66) (r1 := 4) (r2 := 4) (r3 := 0) rfl rfl (by decide) rfl ⟨rfl, rfl⟩ rfl ?_
    refine wr_V (k0 := 22) (rest := []) (as := [.ref 22, .ref 79]) (nx := 69) (r1 := 155) (r2 := 1) (r3 := 5) rfl rfl rfl (of_decide_eq_true rfl) rfl rfl (by decide) rfl rfl (of_decide_eq_true rfl) (of_decide_eq_true rfl) ?_
    refine ct_155_R_R hcr rw_22 rw_79 g7    (fun h10 g10 u10 => ?_)
    have F11 := F8.then rfl u10
    refine wk_n ?_
    refine wi_aload_n (i := 0) (x := 18) (nx := 70) (r1 := 0) (r2 := 0) (r3 := 0) rfl rfl ?_
    refine wr_gr (k0 := 18) (x := 24) (nx := 73) (r1 := 4) (r2 := 5) (r3 := 0) rfl rfl (by decide) rfl ⟨rfl, rfl⟩ rfl ?_
    refine wi_aload_n (i := 1) (x := 75) (nx := 74) (r1 := 0) (r2 := 0) (r3 := 0) rfl rfl ?_
    refine wr_gr (k0 := 75) (x := 81) (nx := 77) (r1 := 4) (r2 := 5) (r3 := 0) rfl rfl (by decide) rfl ⟨rfl, rfl⟩ rfl ?_
    refine wr_V (k0 := 24) (rest := []) (as := [.ref 24, .ref 81]) (nx := 80) (r1 := 155) (r2 := 1) (r3 := 5) rfl rfl rfl (of_decide_eq_true rfl) rfl rfl (by decide) rfl rfl (of_decide_eq_true rfl) (of_decide_eq_true rfl) ?_
    refine ct_155_R_R hcr rw_24 rw_81 g10    (fun h12 g12 u12 => ?_)
    have F13 := F11.then rfl u12
    refine wk_n ?_
    refine wi_aload_n (i := 0) (x := 18) (nx := 81) (r1 := 0) (r2 := 0) (r3 := 0) rfl rfl ?_
    refine wr_gr (k0 := 18) (x := 26) (nx := 84) (r1 := 4) (r2 := 6) (r3 := 0) rfl rfl (by decide) rfl ⟨rfl, rfl⟩ rfl ?_
    refine wi_aload_n (i := 1) (x := 75) (nx := 85) (r1 := 0) (r2 := 0) (r3 := 0) rfl rfl ?_
    refine wr_gr (k0 := 75) (x := 83) (nx := 88) (r1 := 4) (r2 := 6) (r3 := 0) rfl rfl (by decide) rfl ⟨rfl, rfl⟩ rfl ?_
    refine wr_V (k0 := 26) (rest := []) (as := [.ref 26, .ref 83]) (nx := 91) (r1 := 155) (r2 := 1) (r3 := 5) rfl rfl rfl (of_decide_eq_true rfl) rfl rfl (by decide) rfl rfl (of_decide_eq_true rfl) (of_decide_eq_true rfl) ?_
    refine ct_155_R_R hcr rw_26 rw_83 g12    (fun h14 g14 u14 => ?_)
    have F15 := F13.then rfl u14
    refine wk_n ?_
    refine wi_aload_n (i := 0) (x := 18) (nx := 92) (r1 := 0) (r2 := 0) (r3 := 0) rfl rfl ?_
    refine wi_aload_n (i := 1) (x := 75) (nx := 93) (r1 := 0) (r2 := 0) (r3 := 0) rfl rfl ?_
    have b16 := gi_b (lo := 0) (hi := 12) g 75 7 rfl
    refine wr_gi0 (k0 := 75) (x := h 75 7) (nx := 96) (r1 := 4) (r2 := 7) (r3 := 0) rfl rfl (by decide) rfl ⟨rfl, rfl⟩ rfl ((u14 75 7 rfl).trans ((u12 75 7 rfl).trans ((u10 75 7 rfl).trans ((u7 75 7 rfl).trans ((u4 75 7 rfl).trans (u2 75 7 rfl)))))) ?_
    refine wr_pf0 (k0 := 18) (x := h 75 7) (bl := 0) (bh := 12) (nx := 99) (r1 := 4) (r2 := 7) (r3 := 0) rfl (by decide) rfl ⟨rfl, rfl⟩ rfl rfl g14 rfl (by omega) (fun h17 g17 w17 u17 => ?_)
    have F18 := F15.then rfl u17
    refine wi_aload_n (i := 0) (x := 18) (nx := 100) (r1 := 0) (r2 := 0) (r3 := 0) rfl rfl ?_
    refine wi_aload_n (i := 1) (x := 75) (nx := 101) (r1 := 0) (r2 := 0) (r3 := 0) rfl rfl ?_
    have b19 := gi_b (lo := -2147483648) (hi := 2147483647) g 75 8 rfl
    refine wr_gi0 (k0 := 75) (x := h 75 8) (nx := 104) (r1 := 4) (r2 := 8) (r3 := 0) rfl rfl (by decide) rfl ⟨rfl, rfl⟩ rfl ((u17 75 8 rfl).trans ((u14 75 8 rfl).trans ((u12 75 8 rfl).trans ((u10 75 8 rfl).trans ((u7 75 8 rfl).trans ((u4 75 8 rfl).trans (u2 75 8 rfl))))))) ?_
    refine wr_pf0 (k0 := 18) (x := h 75 8) (bl := -2147483648) (bh := 2147483647) (nx := 107) (r1 := 4) (r2 := 8) (r3 := 0) rfl (by decide) rfl ⟨rfl, rfl⟩ rfl rfl g17 rfl (by omega) (fun h20 g20 w20 u20 => ?_)
    have F21 := F18.then rfl u20
    refine wi_aload_n (i := 0) (x := 18) (nx := 108) (r1 := 0) (r2 := 0) (r3 := 0) rfl rfl ?_
    refine wi_aload_n (i := 1) (x := 75) (nx := 109) (r1 := 0) (r2 := 0) (r3 := 0) rfl rfl ?_
    have b22 := gi_b (lo := -2147483648) (hi := 2147483647) g 75 9 rfl
    refine wr_gi0 (k0 := 75) (x := h 75 9) (nx := 112) (r1 := 4) (r2 := 9) (r3 := 0) rfl rfl (by decide) rfl ⟨rfl, rfl⟩ rfl ((u20 75 9 rfl).trans ((u17 75 9 rfl).trans ((u14 75 9 rfl).trans ((u12 75 9 rfl).trans ((u10 75 9 rfl).trans ((u7 75 9 rfl).trans ((u4 75 9 rfl).trans (u2 75 9 rfl)))))))) ?_
    refine wr_pf0 (k0 := 18) (x := h 75 9) (bl := -2147483648) (bh := 2147483647) (nx := 115) (r1 := 4) (r2 := 9) (r3 := 0) rfl (by decide) rfl ⟨rfl, rfl⟩ rfl rfl g20 rfl (by omega) (fun h23 g23 w23 u23 => ?_)
    have F24 := F21.then rfl u23
    refine wi_aload_n (i := 0) (x := 18) (nx := 116) (r1 := 0) (r2 := 0) (r3 := 0) rfl rfl ?_
    refine wi_aload_n (i := 1) (x := 75) (nx := 117) (r1 := 0) (r2 := 0) (r3 := 0) rfl rfl ?_
    have b25 := gi_b (lo := -2147483648) (hi := 2147483647) g 75 10 rfl
    refine wr_gi0 (k0 := 75) (x := h 75 10) (nx := 120) (r1 := 4) (r2 := 10) (r3 := 0) rfl rfl (by decide) rfl ⟨rfl, rfl⟩ rfl ((u23 75 10 rfl).trans ((u20 75 10 rfl).trans ((u17 75 10 rfl).trans ((u14 75 10 rfl).trans ((u12 75 10 rfl).trans ((u10 75 10 rfl).trans ((u7 75 10 rfl).trans ((u4 75 10 rfl).trans (u2 75 10 rfl))))))))) ?_
    refine wr_pf0 (k0 := 18) (x := h 75 10) (bl := -2147483648) (bh := 2147483647) (nx := 123) (r1 := 4) (r2 := 10) (r3 := 0) rfl (by decide) rfl ⟨rfl, rfl⟩ rfl rfl g23 rfl (by omega) (fun h26 g26 w26 u26 => ?_)
    have F27 := F24.then rfl u26
    refine wi_aload_n (i := 0) (x := 18) (nx := 124) (r1 := 0) (r2 := 0) (r3 := 0) rfl rfl ?_
    refine wi_aload_n (i := 1) (x := 75) (nx := 125) (r1 := 0) (r2 := 0) (r3 := 0) rfl rfl ?_
    have b28 := gi_b (lo := -2147483648) (hi := 2147483647) g 75 11 rfl
    refine wr_gi0 (k0 := 75) (x := h 75 11) (nx := 128) (r1 := 4) (r2 := 11) (r3 := 0) rfl rfl (by decide) rfl ⟨rfl, rfl⟩ rfl ((u26 75 11 rfl).trans ((u23 75 11 rfl).trans ((u20 75 11 rfl).trans ((u17 75 11 rfl).trans ((u14 75 11 rfl).trans ((u12 75 11 rfl).trans ((u10 75 11 rfl).trans ((u7 75 11 rfl).trans ((u4 75 11 rfl).trans (u2 75 11 rfl)))))))))) ?_
    refine wr_pf0 (k0 := 18) (x := h 75 11) (bl := -2147483648) (bh := 2147483647) (nx := 131) (r1 := 4) (r2 := 11) (r3 := 0) rfl (by decide) rfl ⟨rfl, rfl⟩ rfl rfl g26 rfl (by omega) (fun h29 g29 w29 u29 => ?_)
    have F30 := F27.then rfl u29
    refine wi_aload_n (i := 0) (x := 18) (nx := 132) (r1 := 0) (r2 := 0) (r3 := 0) rfl rfl ?_
    refine wi_aload_n (i := 1) (x := 75) (nx := 133) (r1 := 0) (r2 := 0) (r3 := 0) rfl rfl ?_
    have b31 := gi_b (lo := -2147483648) (hi := 2147483647) g 75 12 rfl
    refine wr_gi0 (k0 := 75) (x := h 75 12) (nx := 136) (r1 := 4) (r2 := 12) (r3 := 0) rfl rfl (by decide) rfl ⟨rfl, rfl⟩ rfl ((u29 75 12 rfl).trans ((u26 75 12 rfl).trans ((u23 75 12 rfl).trans ((u20 75 12 rfl).trans ((u17 75 12 rfl).trans ((u14 75 12 rfl).trans ((u12 75 12 rfl).trans ((u10 75 12 rfl).trans ((u7 75 12 rfl).trans ((u4 75 12 rfl).trans (u2 75 12 rfl))))))))))) ?_
    refine wr_pf0 (k0 := 18) (x := h 75 12) (bl := -2147483648) (bh := 2147483647) (nx := 139) (r1 := 4) (r2 := 12) (r3 := 0) rfl (by decide) rfl ⟨rfl, rfl⟩ rfl rfl g29 rfl (by omega) (fun h32 g32 w32 u32 => ?_)
    have F33 := F30.then rfl u32
    refine wi_aload_n (i := 0) (x := 18) (nx := 140) (r1 := 0) (r2 := 0) (r3 := 0) rfl rfl ?_
    refine wi_aload_n (i := 1) (x := 75) (nx := 141) (r1 := 0) (r2 := 0) (r3 := 0) rfl rfl ?_
    have b34 := gi_b (lo := -2147483648) (hi := 2147483647) g 75 13 rfl
    refine wr_gi0 (k0 := 75) (x := h 75 13) (nx := 144) (r1 := 4) (r2 := 13) (r3 := 0) rfl rfl (by decide) rfl ⟨rfl, rfl⟩ rfl ((u32 75 13 rfl).trans ((u29 75 13 rfl).trans ((u26 75 13 rfl).trans ((u23 75 13 rfl).trans ((u20 75 13 rfl).trans ((u17 75 13 rfl).trans ((u14 75 13 rfl).trans ((u12 75 13 rfl).trans ((u10 75 13 rfl).trans ((u7 75 13 rfl).trans ((u4 75 13 rfl).trans (u2 75 13 rfl)))))))))))) ?_
    refine wr_pf0 (k0 := 18) (x := h 75 13) (bl := -2147483648) (bh := 2147483647) (nx := 147) (r1 := 4) (r2 := 13) (r3 := 0) rfl (by decide) rfl ⟨rfl, rfl⟩ rfl rfl g32 rfl (by omega) (fun h35 g35 w35 u35 => ?_)
    have F36 := F33.then rfl u35
    refine wi_aload_n (i := 1) (x := 75) (nx := 148) (r1 := 0) (r2 := 0) (r3 := 0) rfl rfl ?_
    refine wr_gr (k0 := 75) (x := 85) (nx := 151) (r1 := 4) (r2 := 14) (r3 := 0) rfl rfl (by decide) rfl ⟨rfl, rfl⟩ rfl ?_
    refine wi_iconst (n := 0) (nx := 152) (r1 := 0) (r2 := 0) (r3 := 0) rfl ?_
    refine wi_aload_n (i := 0) (x := 18) (nx := 153) (r1 := 0) (r2 := 0) (r3 := 0) rfl rfl ?_
    refine wr_gr (k0 := 18) (x := 28) (nx := 156) (r1 := 4) (r2 := 14) (r3 := 0) rfl rfl (by decide) rfl ⟨rfl, rfl⟩ rfl ?_
    refine wi_iconst (n := 0) (nx := 157) (r1 := 0) (r2 := 0) (r3 := 0) rfl ?_
    refine wi_aload_n (i := 0) (x := 18) (nx := 158) (r1 := 0) (r2 := 0) (r3 := 0) rfl rfl ?_
    refine wr_gr (k0 := 18) (x := 28) (nx := 161) (r1 := 4) (r2 := 14) (r3 := 0) rfl rfl (by decide) rfl ⟨rfl, rfl⟩ rfl ?_
    refine wr_al (k0 := 28) (e := 144) (nx := 162) (r1 := 0) (r2 := 0) (r3 := 0) rfl (by decide) rfl rfl ?_
    refine wr_cpy (s0 := 85) (d0 := 28) (n0 := 144) (n1 := 144) (sp := 0) (dp := 0) (n := 144) (sl := -2147483648) (sh := 2147483647) (dl := -2147483648) (dh := 2147483647) (nx := 165) (r1 := 0) (r2 := 101) (r3 := 0) rfl rfl (of_decide_eq_true rfl) (by decide) (by decide) rfl rfl (by omega) (fun _ => rfl) (fun _ => rfl) (by omega) g35 (fun h37 g37 y37 u37 => ?_)
    have F38 := F36.then rfl u37
    refine wi_aload_n (i := 0) (x := 18) (nx := 166) (r1 := 0) (r2 := 0) (r3 := 0) rfl rfl ?_
    refine wi_aload_n (i := 1) (x := 75) (nx := 167) (r1 := 0) (r2 := 0) (r3 := 0) rfl rfl ?_
    have b39 := gi_b (lo := 0) (hi := 36) g 75 15 rfl
    refine wr_gi0 (k0 := 75) (x := h 75 15) (nx := 170) (r1 := 4) (r2 := 15) (r3 := 0) rfl rfl (by decide) rfl ⟨rfl, rfl⟩ rfl ((u37 75 15 rfl).trans ((u35 75 15 rfl).trans ((u32 75 15 rfl).trans ((u29 75 15 rfl).trans ((u26 75 15 rfl).trans ((u23 75 15 rfl).trans ((u20 75 15 rfl).trans ((u17 75 15 rfl).trans ((u14 75 15 rfl).trans ((u12 75 15 rfl).trans ((u10 75 15 rfl).trans ((u7 75 15 rfl).trans ((u4 75 15 rfl).trans (u2 75 15 rfl)))))))))))))) ?_
    refine wr_pf0 (k0 := 18) (x := h 75 15) (bl := 0) (bh := 36) (nx := 173) (r1 := 4) (r2 := 15) (r3 := 0) rfl (by decide) rfl ⟨rfl, rfl⟩ rfl rfl g37 rfl (by omega) (fun h40 g40 w40 u40 => ?_)
    have F41 := F38.then rfl u40
    refine wi_aload_n (i := 0) (x := 18) (nx := 174) (r1 := 0) (r2 := 0) (r3 := 0) rfl rfl ?_
    refine wi_dup (nx := 175) (r1 := 0) (r2 := 0) (r3 := 0) rfl rfl ?_
    refine wr_gi0 (k0 := 18) (x := h 18 16) (nx := 178) (r1 := 4) (r2 := 16) (r3 := 0) rfl rfl (by decide) rfl ⟨rfl, rfl⟩ rfl ((u40 18 16 rfl).trans ((u37 18 16 rfl).trans ((u35 18 16 rfl).trans ((u32 18 16 rfl).trans ((u29 18 16 rfl).trans ((u26 18 16 rfl).trans ((u23 18 16 rfl).trans ((u20 18 16 rfl).trans ((u17 18 16 rfl).trans ((u14 18 16 rfl).trans ((u12 18 16 rfl).trans ((u10 18 16 rfl).trans ((u7 18 16 rfl).trans ((u4 18 16 rfl).trans (u2 18 16 rfl))))))))))))))) ?_
    refine wi_iconst (n := 1) (nx := 179) (r1 := 0) (r2 := 0) (r3 := 0) rfl ?_
    refine wr_add (nx := 180) (r1 := 0) (r2 := 0) (r3 := 0) rfl (fun e42 (fe42 : e42 = (h 18 16) + 1) => ?_)
    refine wr_pf0 (k0 := 18) (x := e42) (bl := -2147483648) (bh := 2147483647) (nx := 183) (r1 := 4) (r2 := 16) (r3 := 0) rfl (by decide) rfl ⟨rfl, rfl⟩ rfl rfl g40 rfl (by omega) (fun h43 g43 w43 u43 => ?_)
    have F44 := F41.then rfl u43
    refine wi_return (nx := 184) (r1 := 0) (r2 := 0) (r3 := 0) rfl rfl ?_
    have e45 : h43 18 16 = e42 := w43
    exact k h43 g43 F44 (show (h43 18 16) = (h 18 16) + 1 by omega) (fun q e => (((u43 19 q (fn_a (by omega) fn_0)).trans ((u40 19 q (fn_a (by omega) fn_0)).trans ((u37 19 q (fn_a (by omega) fn_0)).trans ((u35 19 q (fn_a (by omega) fn_0)).trans ((u32 19 q (fn_a (by omega) fn_0)).trans ((u29 19 q (fn_a (by omega) fn_0)).trans ((u26 19 q (fn_a (by omega) fn_0)).trans ((u23 19 q (fn_a (by omega) fn_0)).trans ((u20 19 q (fn_a (by omega) fn_0)).trans ((u17 19 q (fn_a (by omega) fn_0)).trans ((u14 19 q (fn_a (by omega) fn_0)).trans ((u12 19 q (fn_a (by omega) fn_0)).trans ((u10 19 q (fn_a (by omega) fn_0)).trans ((u7 19 q (fn_a (by omega) fn_0)).trans (u4 19 q (fn_a (by omega) fn_0)))))))))))))))).trans (cy_0 y2 (by omega))))
  ·
    refine wi_aload_n (i := 0) (x := 18) (nx := 38) (r1 := 0) (r2 := 0) (r3 := 0) rfl rfl ?_
    refine wr_gr (k0 := 18) (x := 21) (nx := 41) (r1 := 4) (r2 := 3) (r3 := 0) rfl rfl (by decide) rfl ⟨rfl, rfl⟩ rfl ?_
    refine wi_iload_n (i := 2) (e := x6) (nx := 42) (r1 := 0) (r2 := 0) (r3 := 0) rfl rfl ?_
    obtain ⟨i10, ei10⟩ : ∃ q : Nat, x6 = (q : Int) := ⟨(x6).toNat, by omega⟩
    refine wr_aa (k0 := 21) (a := x6) (f := i10) (x := 21 + 8 + 2 * i10) (nx := 43) (r1 := 0) (r2 := 0) (r3 := 0) rfl (by decide) rfl (Or.inl rfl) (by omega) (by omega) (by decide) (hcr.1 21 (by decide) i10 (by omega)) ?_
    obtain ⟨k11, kk11, mk11⟩ : ∃ q, Rw q ∧ q = 21 + 8 + 2 * i10 := ⟨_, rw_lane 21 (by decide) i10 (by omega), rfl⟩
    rw [← mk11]
    refine wi_aload_n (i := 1) (x := 75) (nx := 44) (r1 := 0) (r2 := 0) (r3 := 0) rfl rfl ?_
    refine wr_gr (k0 := 75) (x := 78) (nx := 47) (r1 := 4) (r2 := 3) (r3 := 0) rfl rfl (by decide) rfl ⟨rfl, rfl⟩ rfl ?_
    refine wi_iload_n (i := 2) (e := x6) (nx := 48) (r1 := 0) (r2 := 0) (r3 := 0) rfl rfl ?_
    refine wr_aa (k0 := 78) (a := x6) (f := i10) (x := 78 + 8 + 2 * i10) (nx := 49) (r1 := 0) (r2 := 0) (r3 := 0) rfl (by decide) rfl (Or.inl rfl) (by omega) (by omega) (by decide) (hcr.1 78 (by decide) i10 (by omega)) ?_
    obtain ⟨k12, kk12, mk12⟩ : ∃ q, Rw q ∧ q = 78 + 8 + 2 * i10 := ⟨_, rw_lane 78 (by decide) i10 (by omega), rfl⟩
    rw [← mk12]
    refine wr_V (k0 := k11) (rest := []) (as := [.ref k11, .ref k12]) (nx := 52) (r1 := 155) (r2 := 1) (r3 := 5) rfl rfl rfl (of_decide_eq_true rfl) rfl rfl kk11.k kk11.1 rfl (of_decide_eq_true rfl) (of_decide_eq_true rfl) ?_
    refine ct_155_R_R hcr kk11 kk12 g7    (fun h13 g13 u13 => ?_)
    have v13 := FR.rngp (lo := 29) (hi := 36) u13 (by omega)
    have F14 := F8.then rfl (FR.rngp (lo := 29) (hi := 36) u13 (by omega))
    have F15 := u7.then rfl (FR.rngp (lo := 29) (hi := 36) u13 (by omega))
    refine wk_n ?_
    refine wr_iinc (i := 2) (n := 1) (v := x6) (fun e16 => [(2, vi e16), (0, .ref 18), (1, .ref 75)]) (nx := 55) (r1 := 0) (r2 := 0) (r3 := 0) rfl rfl (fun _ => rfl) (fun e16 (fe16 : e16 = x6 + 1) => ?_)
    refine wi_goto (nx := 58) (r1 := 32) (r2 := 0) (r3 := 0) rfl ?_
    refine wp.lo (lo := [(0, .ref 18), (1, .ref 75), (2, vi e16)]) ⟨rfl, rfl, rfl, trivial⟩ rfl ?_
    exact I7 e16 h13 ⟨g13, F14, F15, (show (0 ≤ e16 ∧ e16 ≤ 4) by omega)⟩ (show ((4 : Int) + 1 - e16).toNat < ((4 : Int) + 1 - x6).toNat by omega)
-- method 132: Line.copyFrom(LPaintBank$Line;)V
set_option maxRecDepth 100000 in
set_option maxHeartbeats 100000000 in
theorem ct_132_18_94 {L : Nat} {xs : Nat → Int32} {d b c : Nat} {h : hp} {cr : Nat → Nat → Option Nat} {Q : hp_Q} (hcr : CR cr)  (g : GI h)   (pp0 : h 18 16 ≤ 2000000000) (k : ∀ (h2 : hp) , GI h2 → FR [(19, 19, none), (20, 20, none), (22, 23, none), (24, 25, none), (26, 27, none), (28, 28, none), (29, 36, none), (18, 18, some (7, 13)), (18, 18, some (15, 16))] h h2 → (h2 18 16 = h 18 16 + 1) → (∀ i : Nat, i < 12 → h2 19 i = h 95 i) → Q (.inl none) (hp_w h2 cr) b c) : wp (md_xa (L, xs)) (d + 1) 132 (0, [(0, .ref 18), (1, .ref 94)], [], hp_w h cr, b, c) Q := by
  have F0 : FR [(19, 19, none), (20, 20, none), (22, 23, none), (24, 25, none), (26, 27, none), (28, 28, none), (29, 36, none), (18, 18, some (7, 13)), (18, 18, some (15, 16))] h h := FR.refl
  have b1 := gi_b (lo := -2147483648) (hi := 2147483647) g 18 16 rfl
  refine wi_aload_n (i := 1) (x := 94) (nx := 1) (r1 := 0) (r2 := 0) (r3 := 0) rfl rfl ?_
  refine wr_gr (k0 := 94) (x := 95) (nx := 4) (r1 := 4) (r2 := 1) (r3 := 0) rfl rfl (by decide) rfl ⟨rfl, rfl⟩ rfl ?_
  refine wi_iconst (n := 0) (nx := 5) (r1 := 0) (r2 := 0) (r3 := 0) rfl ?_
  refine wi_aload_n (i := 0) (x := 18) (nx := 6) (r1 := 0) (r2 := 0) (r3 := 0) rfl rfl ?_
  refine wr_gr (k0 := 18) (x := 19) (nx := 9) (r1 := 4) (r2 := 1) (r3 := 0) rfl rfl (by decide) rfl ⟨rfl, rfl⟩ rfl ?_
  refine wi_iconst (n := 0) (nx := 10) (r1 := 0) (r2 := 0) (r3 := 0) rfl ?_
  refine wi_bipush (n := 12) (nx := 12) (r1 := 0) (r2 := 0) (r3 := 0) rfl (by decide) ?_
  refine wr_cpy (s0 := 95) (d0 := 19) (n0 := 12) (n1 := 12) (sp := 0) (dp := 0) (n := 12) (sl := -2147483648) (sh := 2147483647) (dl := -2147483648) (dh := 2147483647) (nx := 15) (r1 := 0) (r2 := 101) (r3 := 0) rfl rfl (of_decide_eq_true rfl) (by decide) (by decide) rfl rfl (by omega) (fun _ => rfl) (fun _ => rfl) (by omega) g (fun h2 g2 y2 u2 => ?_)
  have F3 := F0.then rfl u2
  refine wi_aload_n (i := 1) (x := 94) (nx := 16) (r1 := 0) (r2 := 0) (r3 := 0) rfl rfl ?_
  refine wr_gr (k0 := 94) (x := 96) (nx := 19) (r1 := 4) (r2 := 2) (r3 := 0) rfl rfl (by decide) rfl ⟨rfl, rfl⟩ rfl ?_
  refine wi_iconst (n := 0) (nx := 20) (r1 := 0) (r2 := 0) (r3 := 0) rfl ?_
  refine wi_aload_n (i := 0) (x := 18) (nx := 21) (r1 := 0) (r2 := 0) (r3 := 0) rfl rfl ?_
  refine wr_gr (k0 := 18) (x := 20) (nx := 24) (r1 := 4) (r2 := 2) (r3 := 0) rfl rfl (by decide) rfl ⟨rfl, rfl⟩ rfl ?_
  refine wi_iconst (n := 0) (nx := 25) (r1 := 0) (r2 := 0) (r3 := 0) rfl ?_
  refine wi_bipush (n := 12) (nx := 27) (r1 := 0) (r2 := 0) (r3 := 0) rfl (by decide) ?_
  refine wr_cpy (s0 := 96) (d0 := 20) (n0 := 12) (n1 := 12) (sp := 0) (dp := 0) (n := 12) (sl := -2147483648) (sh := 2147483647) (dl := -2147483648) (dh := 2147483647) (nx := 30) (r1 := 0) (r2 := 101) (r3 := 0) rfl rfl (of_decide_eq_true rfl) (by decide) (by decide) rfl rfl (by omega) (fun _ => rfl) (fun _ => rfl) (by omega) g2 (fun h4 g4 y4 u4 => ?_)
  have F5 := F3.then rfl u4
  refine wi_iconst (n := 0) (nx := 31) (r1 := 0) (r2 := 0) (r3 := 0) rfl ?_
  refine wi_istore_n (i := 2) (e := 0) (lo2 := [(2, vi 0), (0, .ref 18), (1, .ref 94)]) (nx := 32) (r1 := 0) (r2 := 0) (r3 := 0) rfl rfl ?_
  refine wp.lo (lo := [(0, .ref 18), (1, .ref 94), (2, vi 0)]) ⟨rfl, rfl, rfl, trivial⟩ rfl ?_
  refine wl_1 (fun x6 h7 => GI h7 ∧ FR [(19, 19, none), (20, 20, none), (22, 23, none), (24, 25, none), (26, 27, none), (28, 28, none), (29, 36, none), (18, 18, some (7, 13)), (18, 18, some (15, 16))] h h7 ∧ FR [(29, 36, none)] h4 h7 ∧ ((0 ≤ x6 ∧ x6 ≤ 4))) (fun x6 h7 => ((4 : Int) + 1 - x6).toNat) (fun x6 h7 => (32, [(0, .ref 18), (1, .ref 94), (2, vi x6)], [], hp_w h7 cr, b, c)) ?_ 0 h4 ⟨g4, F5, FR.refl, (show (0 ≤ 0 ∧ 0 ≤ 4) by omega)⟩
  intro x6 h7 ⟨g7, F8, u7, f7⟩ I7
  refine wi_iload_n (i := 2) (e := x6) (nx := 33) (r1 := 0) (r2 := 0) (r3 := 0) rfl rfl ?_
  refine wi_iconst (n := 4) (nx := 34) (r1 := 0) (r2 := 0) (r3 := 0) rfl ?_
  refine wi_icmp (cd := .ge) (nx := 37) (r1 := 58) (r2 := 0) (r3 := 0) rfl (by omega) (by omega) (fun (q9 : 4 ≤ x6) => ?_) (fun (q9 : ¬ (4 ≤ x6)) => ?_)
  ·
    refine wi_aload_n (i := 0) (x := 18) (nx := 59) (r1 := 0) (r2 := 0) (r3 := 0) rfl rfl ?_
    refine wr_gr (k0 := 18) (x := 22) (nx := 62) (r1 := 4) (r2 := 4) (r3 := 0) rfl rfl (by decide) rfl ⟨rfl, rfl⟩ rfl ?_
    refine wi_aload_n (i := 1) (x := 94) (nx := 63) (r1 := 0) (r2 := 0) (r3 := 0) rfl rfl ?_
    refine wr_gr (k0 := 94) (x := 98) (nx := 66) (r1 := 4) (r2 := 4) (r3 := 0) rfl rfl (by decide) rfl ⟨rfl, rfl⟩ rfl ?_
    refine wr_V (k0 := 22) (rest := []) (as := [.ref 22, .ref 98]) (nx := 69) (r1 := 155) (r2 := 1) (r3 := 5) rfl rfl rfl (of_decide_eq_true rfl) rfl rfl (by decide) rfl rfl (of_decide_eq_true rfl) (of_decide_eq_true rfl) ?_
    refine ct_155_R_R hcr rw_22 rw_98 g7    (fun h10 g10 u10 => ?_)
    have F11 := F8.then rfl u10
    refine wk_n ?_
    refine wi_aload_n (i := 0) (x := 18) (nx := 70) (r1 := 0) (r2 := 0) (r3 := 0) rfl rfl ?_
    refine wr_gr (k0 := 18) (x := 24) (nx := 73) (r1 := 4) (r2 := 5) (r3 := 0) rfl rfl (by decide) rfl ⟨rfl, rfl⟩ rfl ?_
    refine wi_aload_n (i := 1) (x := 94) (nx := 74) (r1 := 0) (r2 := 0) (r3 := 0) rfl rfl ?_
    refine wr_gr (k0 := 94) (x := 100) (nx := 77) (r1 := 4) (r2 := 5) (r3 := 0) rfl rfl (by decide) rfl ⟨rfl, rfl⟩ rfl ?_
    refine wr_V (k0 := 24) (rest := []) (as := [.ref 24, .ref 100]) (nx := 80) (r1 := 155) (r2 := 1) (r3 := 5) rfl rfl rfl (of_decide_eq_true rfl) rfl rfl (by decide) rfl rfl (of_decide_eq_true rfl) (of_decide_eq_true rfl) ?_
    refine ct_155_R_R hcr rw_24 rw_100 g10    (fun h12 g12 u12 => ?_)
    have F13 := F11.then rfl u12
    refine wk_n ?_
    refine wi_aload_n (i := 0) (x := 18) (nx := 81) (r1 := 0) (r2 := 0) (r3 := 0) rfl rfl ?_
    refine wr_gr (k0 := 18) (x := 26) (nx := 84) (r1 := 4) (r2 := 6) (r3 := 0) rfl rfl (by decide) rfl ⟨rfl, rfl⟩ rfl ?_
    refine wi_aload_n (i := 1) (x := 94) (nx := 85) (r1 := 0) (r2 := 0) (r3 := 0) rfl rfl ?_
    refine wr_gr (k0 := 94) (x := 102) (nx := 88) (r1 := 4) (r2 := 6) (r3 := 0) rfl rfl (by decide) rfl ⟨rfl, rfl⟩ rfl ?_
    refine wr_V (k0 := 26) (rest := []) (as := [.ref 26, .ref 102]) (nx := 91) (r1 := 155) (r2 := 1) (r3 := 5) rfl rfl rfl (of_decide_eq_true rfl) rfl rfl (by decide) rfl rfl (of_decide_eq_true rfl) (of_decide_eq_true rfl) ?_
    refine ct_155_R_R hcr rw_26 rw_102 g12    (fun h14 g14 u14 => ?_)
    have F15 := F13.then rfl u14
    refine wk_n ?_
    refine wi_aload_n (i := 0) (x := 18) (nx := 92) (r1 := 0) (r2 := 0) (r3 := 0) rfl rfl ?_
    refine wi_aload_n (i := 1) (x := 94) (nx := 93) (r1 := 0) (r2 := 0) (r3 := 0) rfl rfl ?_
    have b16 := gi_b (lo := 0) (hi := 12) g 94 7 rfl
    refine wr_gi0 (k0 := 94) (x := h 94 7) (nx := 96) (r1 := 4) (r2 := 7) (r3 := 0) rfl rfl (by decide) rfl ⟨rfl, rfl⟩ rfl ((u14 94 7 rfl).trans ((u12 94 7 rfl).trans ((u10 94 7 rfl).trans ((u7 94 7 rfl).trans ((u4 94 7 rfl).trans (u2 94 7 rfl)))))) ?_
    refine wr_pf0 (k0 := 18) (x := h 94 7) (bl := 0) (bh := 12) (nx := 99) (r1 := 4) (r2 := 7) (r3 := 0) rfl (by decide) rfl ⟨rfl, rfl⟩ rfl rfl g14 rfl (by omega) (fun h17 g17 w17 u17 => ?_)
    have F18 := F15.then rfl u17
    refine wi_aload_n (i := 0) (x := 18) (nx := 100) (r1 := 0) (r2 := 0) (r3 := 0) rfl rfl ?_
    refine wi_aload_n (i := 1) (x := 94) (nx := 101) (r1 := 0) (r2 := 0) (r3 := 0) rfl rfl ?_
    have b19 := gi_b (lo := -2147483648) (hi := 2147483647) g 94 8 rfl
    refine wr_gi0 (k0 := 94) (x := h 94 8) (nx := 104) (r1 := 4) (r2 := 8) (r3 := 0) rfl rfl (by decide) rfl ⟨rfl, rfl⟩ rfl ((u17 94 8 rfl).trans ((u14 94 8 rfl).trans ((u12 94 8 rfl).trans ((u10 94 8 rfl).trans ((u7 94 8 rfl).trans ((u4 94 8 rfl).trans (u2 94 8 rfl))))))) ?_
    refine wr_pf0 (k0 := 18) (x := h 94 8) (bl := -2147483648) (bh := 2147483647) (nx := 107) (r1 := 4) (r2 := 8) (r3 := 0) rfl (by decide) rfl ⟨rfl, rfl⟩ rfl rfl g17 rfl (by omega) (fun h20 g20 w20 u20 => ?_)
    have F21 := F18.then rfl u20
    refine wi_aload_n (i := 0) (x := 18) (nx := 108) (r1 := 0) (r2 := 0) (r3 := 0) rfl rfl ?_
    refine wi_aload_n (i := 1) (x := 94) (nx := 109) (r1 := 0) (r2 := 0) (r3 := 0) rfl rfl ?_
    have b22 := gi_b (lo := -2147483648) (hi := 2147483647) g 94 9 rfl
    refine wr_gi0 (k0 := 94) (x := h 94 9) (nx := 112) (r1 := 4) (r2 := 9) (r3 := 0) rfl rfl (by decide) rfl ⟨rfl, rfl⟩ rfl ((u20 94 9 rfl).trans ((u17 94 9 rfl).trans ((u14 94 9 rfl).trans ((u12 94 9 rfl).trans ((u10 94 9 rfl).trans ((u7 94 9 rfl).trans ((u4 94 9 rfl).trans (u2 94 9 rfl)))))))) ?_
    refine wr_pf0 (k0 := 18) (x := h 94 9) (bl := -2147483648) (bh := 2147483647) (nx := 115) (r1 := 4) (r2 := 9) (r3 := 0) rfl (by decide) rfl ⟨rfl, rfl⟩ rfl rfl g20 rfl (by omega) (fun h23 g23 w23 u23 => ?_)
    have F24 := F21.then rfl u23
    refine wi_aload_n (i := 0) (x := 18) (nx := 116) (r1 := 0) (r2 := 0) (r3 := 0) rfl rfl ?_
    refine wi_aload_n (i := 1) (x := 94) (nx := 117) (r1 := 0) (r2 := 0) (r3 := 0) rfl rfl ?_
    have b25 := gi_b (lo := -2147483648) (hi := 2147483647) g 94 10 rfl
    refine wr_gi0 (k0 := 94) (x := h 94 10) (nx := 120) (r1 := 4) (r2 := 10) (r3 := 0) rfl rfl (by decide) rfl ⟨rfl, rfl⟩ rfl ((u23 94 10 rfl).trans ((u20 94 10 rfl).trans ((u17 94 10 rfl).trans ((u14 94 10 rfl).trans ((u12 94 10 rfl).trans ((u10 94 10 rfl).trans ((u7 94 10 rfl).trans ((u4 94 10 rfl).trans (u2 94 10 rfl))))))))) ?_
    refine wr_pf0 (k0 := 18) (x := h 94 10) (bl := -2147483648) (bh := 2147483647) (nx := 123) (r1 := 4) (r2 := 10) (r3 := 0) rfl (by decide) rfl ⟨rfl, rfl⟩ rfl rfl g23 rfl (by omega) (fun h26 g26 w26 u26 => ?_)
    have F27 := F24.then rfl u26
    refine wi_aload_n (i := 0) (x := 18) (nx := 124) (r1 := 0) (r2 := 0) (r3 := 0) rfl rfl ?_
    refine wi_aload_n (i := 1) (x := 94) (nx := 125) (r1 := 0) (r2 := 0) (r3 := 0) rfl rfl ?_
    have b28 := gi_b (lo := -2147483648) (hi := 2147483647) g 94 11 rfl
    refine wr_gi0 (k0 := 94) (x := h 94 11) (nx := 128) (r1 := 4) (r2 := 11) (r3 := 0) rfl rfl (by decide) rfl ⟨rfl, rfl⟩ rfl ((u26 94 11 rfl).trans ((u23 94 11 rfl).trans ((u20 94 11 rfl).trans ((u17 94 11 rfl).trans ((u14 94 11 rfl).trans ((u12 94 11 rfl).trans ((u10 94 11 rfl).trans ((u7 94 11 rfl).trans ((u4 94 11 rfl).trans (u2 94 11 rfl)))))))))) ?_
    refine wr_pf0 (k0 := 18) (x := h 94 11) (bl := -2147483648) (bh := 2147483647) (nx := 131) (r1 := 4) (r2 := 11) (r3 := 0) rfl (by decide) rfl ⟨rfl, rfl⟩ rfl rfl g26 rfl (by omega) (fun h29 g29 w29 u29 => ?_)
    have F30 := F27.then rfl u29
    refine wi_aload_n (i := 0) (x := 18) (nx := 132) (r1 := 0) (r2 := 0) (r3 := 0) rfl rfl ?_
    refine wi_aload_n (i := 1) (x := 94) (nx := 133) (r1 := 0) (r2 := 0) (r3 := 0) rfl rfl ?_
    have b31 := gi_b (lo := -2147483648) (hi := 2147483647) g 94 12 rfl
    refine wr_gi0 (k0 := 94) (x := h 94 12) (nx := 136) (r1 := 4) (r2 := 12) (r3 := 0) rfl rfl (by decide) rfl ⟨rfl, rfl⟩ rfl ((u29 94 12 rfl).trans ((u26 94 12 rfl).trans ((u23 94 12 rfl).trans ((u20 94 12 rfl).trans ((u17 94 12 rfl).trans ((u14 94 12 rfl).trans ((u12 94 12 rfl).trans ((u10 94 12 rfl).trans ((u7 94 12 rfl).trans ((u4 94 12 rfl).trans (u2 94 12 rfl))))))))))) ?_
    refine wr_pf0 (k0 := 18) (x := h 94 12) (bl := -2147483648) (bh := 2147483647) (nx := 139) (r1 := 4) (r2 := 12) (r3 := 0) rfl (by decide) rfl ⟨rfl, rfl⟩ rfl rfl g29 rfl (by omega) (fun h32 g32 w32 u32 => ?_)
    have F33 := F30.then rfl u32
    refine wi_aload_n (i := 0) (x := 18) (nx := 140) (r1 := 0) (r2 := 0) (r3 := 0) rfl rfl ?_
    refine wi_aload_n (i := 1) (x := 94) (nx := 141) (r1 := 0) (r2 := 0) (r3 := 0) rfl rfl ?_
    have b34 := gi_b (lo := -2147483648) (hi := 2147483647) g 94 13 rfl
    refine wr_gi0 (k0 := 94) (x := h 94 13) (nx := 144) (r1 := 4) (r2 := 13) (r3 := 0) rfl rfl (by decide) rfl ⟨rfl, rfl⟩ rfl ((u32 94 13 rfl).trans ((u29 94 13 rfl).trans ((u26 94 13 rfl).trans ((u23 94 13 rfl).trans ((u20 94 13 rfl).trans ((u17 94 13 rfl).trans ((u14 94 13 rfl).trans ((u12 94 13 rfl).trans ((u10 94 13 rfl).trans ((u7 94 13 rfl).trans ((u4 94 13 rfl).trans (u2 94 13 rfl)))))))))))) ?_
    refine wr_pf0 (k0 := 18) (x := h 94 13) (bl := -2147483648) (bh := 2147483647) (nx := 147) (r1 := 4) (r2 := 13) (r3 := 0) rfl (by decide) rfl ⟨rfl, rfl⟩ rfl rfl g32 rfl (by omega) (fun h35 g35 w35 u35 => ?_)
    have F36 := F33.then rfl u35
    refine wi_aload_n (i := 1) (x := 94) (nx := 148) (r1 := 0) (r2 := 0) (r3 := 0) rfl rfl ?_
    refine wr_gr (k0 := 94) (x := 104) (nx := 151) (r1 := 4) (r2 := 14) (r3 := 0) rfl rfl (by decide) rfl ⟨rfl, rfl⟩ rfl ?_
    refine wi_iconst (n := 0) (nx := 152) (r1 := 0) (r2 := 0) (r3 := 0) rfl ?_
    refine wi_aload_n (i := 0) (x := 18) (nx := 153) (r1 := 0) (r2 := 0) (r3 := 0) rfl rfl ?_
    refine wr_gr (k0 := 18) (x := 28) (nx := 156) (r1 := 4) (r2 := 14) (r3 := 0) rfl rfl (by decide) rfl ⟨rfl, rfl⟩ rfl ?_
    refine wi_iconst (n := 0) (nx := 157) (r1 := 0) (r2 := 0) (r3 := 0) rfl ?_
    refine wi_aload_n (i := 0) (x := 18) (nx := 158) (r1 := 0) (r2 := 0) (r3 := 0) rfl rfl ?_
    refine wr_gr (k0 := 18) (x := 28) (nx := 161) (r1 := 4) (r2 := 14) (r3 := 0) rfl rfl (by decide) rfl ⟨rfl, rfl⟩ rfl ?_
    refine wr_al (k0 := 28) (e := 144) (nx := 162) (r1 := 0) (r2 := 0) (r3 := 0) rfl (by decide) rfl rfl ?_
    refine wr_cpy (s0 := 104) (d0 := 28) (n0 := 144) (n1 := 144) (sp := 0) (dp := 0) (n := 144) (sl := -2147483648) (sh := 2147483647) (dl := -2147483648) (dh := 2147483647) (nx := 165) (r1 := 0) (r2 := 101) (r3 := 0) rfl rfl (of_decide_eq_true rfl) (by decide) (by decide) rfl rfl (by omega) (fun _ => rfl) (fun _ => rfl) (by omega) g35 (fun h37 g37 y37 u37 => ?_)
    have F38 := F36.then rfl u37
    refine wi_aload_n (i := 0) (x := 18) (nx := 166) (r1 := 0) (r2 := 0) (r3 := 0) rfl rfl ?_
    refine wi_aload_n (i := 1) (x := 94) (nx := 167) (r1 := 0) (r2 := 0) (r3 := 0) rfl rfl ?_
    have b39 := gi_b (lo := 0) (hi := 36) g 94 15 rfl
    refine wr_gi0 (k0 := 94) (x := h 94 15) (nx := 170) (r1 := 4) (r2 := 15) (r3 := 0) rfl rfl (by decide) rfl ⟨rfl, rfl⟩ rfl ((u37 94 15 rfl).trans ((u35 94 15 rfl).trans ((u32 94 15 rfl).trans ((u29 94 15 rfl).trans ((u26 94 15 rfl).trans ((u23 94 15 rfl).trans ((u20 94 15 rfl).trans ((u17 94 15 rfl).trans ((u14 94 15 rfl).trans ((u12 94 15 rfl).trans ((u10 94 15 rfl).trans ((u7 94 15 rfl).trans ((u4 94 15 rfl).trans (u2 94 15 rfl)))))))))))))) ?_
    refine wr_pf0 (k0 := 18) (x := h 94 15) (bl := 0) (bh := 36) (nx := 173) (r1 := 4) (r2 := 15) (r3 := 0) rfl (by decide) rfl ⟨rfl, rfl⟩ rfl rfl g37 rfl (by omega) (fun h40 g40 w40 u40 => ?_)
    have F41 := F38.then rfl u40
    refine wi_aload_n (i := 0) (x := 18) (nx := 174) (r1 := 0) (r2 := 0) (r3 := 0) rfl rfl ?_
    refine wi_dup (nx := 175) (r1 := 0) (r2 := 0) (r3 := 0) rfl rfl ?_
    refine wr_gi0 (k0 := 18) (x := h 18 16) (nx := 178) (r1 := 4) (r2 := 16) (r3 := 0) rfl rfl (by decide) rfl ⟨rfl, rfl⟩ rfl ((u40 18 16 rfl).trans ((u37 18 16 rfl).trans ((u35 18 16 rfl).trans ((u32 18 16 rfl).trans ((u29 18 16 rfl).trans ((u26 18 16 rfl).trans ((u23 18 16 rfl).trans ((u20 18 16 rfl).trans ((u17 18 16 rfl).trans ((u14 18 16 rfl).trans ((u12 18 16 rfl).trans ((u10 18 16 rfl).trans ((u7 18 16 rfl).trans ((u4 18 16 rfl).trans (u2 18 16 rfl))))))))))))))) ?_
    refine wi_iconst (n := 1) (nx := 179) (r1 := 0) (r2 := 0) (r3 := 0) rfl ?_
    refine wr_add (nx := 180) (r1 := 0) (r2 := 0) (r3 := 0) rfl (fun e42 (fe42 : e42 = (h 18 16) + 1) => ?_)
    refine wr_pf0 (k0 := 18) (x := e42) (bl := -2147483648) (bh := 2147483647) (nx := 183) (r1 := 4) (r2 := 16) (r3 := 0) rfl (by decide) rfl ⟨rfl, rfl⟩ rfl rfl g40 rfl (by omega) (fun h43 g43 w43 u43 => ?_)
    have F44 := F41.then rfl u43
    refine wi_return (nx := 184) (r1 := 0) (r2 := 0) (r3 := 0) rfl rfl ?_
    have e45 : h43 18 16 = e42 := w43
    exact k h43 g43 F44 (show (h43 18 16) = (h 18 16) + 1 by omega) (fun q e => (((u43 19 q (fn_a (by omega) fn_0)).trans ((u40 19 q (fn_a (by omega) fn_0)).trans ((u37 19 q (fn_a (by omega) fn_0)).trans ((u35 19 q (fn_a (by omega) fn_0)).trans ((u32 19 q (fn_a (by omega) fn_0)).trans ((u29 19 q (fn_a (by omega) fn_0)).trans ((u26 19 q (fn_a (by omega) fn_0)).trans ((u23 19 q (fn_a (by omega) fn_0)).trans ((u20 19 q (fn_a (by omega) fn_0)).trans ((u17 19 q (fn_a (by omega) fn_0)).trans ((u14 19 q (fn_a (by omega) fn_0)).trans ((u12 19 q (fn_a (by omega) fn_0)).trans ((u10 19 q (fn_a (by omega) fn_0)).trans ((u7 19 q (fn_a (by omega) fn_0)).trans (u4 19 q (fn_a (by omega) fn_0)))))))))))))))).trans (cy_0 y2 (by omega))))
  ·
    refine wi_aload_n (i := 0) (x := 18) (nx := 38) (r1 := 0) (r2 := 0) (r3 := 0) rfl rfl ?_
    refine wr_gr (k0 := 18) (x := 21) (nx := 41) (r1 := 4) (r2 := 3) (r3 := 0) rfl rfl (by decide) rfl ⟨rfl, rfl⟩ rfl ?_
    refine wi_iload_n (i := 2) (e := x6) (nx := 42) (r1 := 0) (r2 := 0) (r3 := 0) rfl rfl ?_
    obtain ⟨i10, ei10⟩ : ∃ q : Nat, x6 = (q : Int) := ⟨(x6).toNat, by omega⟩
    refine wr_aa (k0 := 21) (a := x6) (f := i10) (x := 21 + 8 + 2 * i10) (nx := 43) (r1 := 0) (r2 := 0) (r3 := 0) rfl (by decide) rfl (Or.inl rfl) (by omega) (by omega) (by decide) (hcr.1 21 (by decide) i10 (by omega)) ?_
    obtain ⟨k11, kk11, mk11⟩ : ∃ q, Rw q ∧ q = 21 + 8 + 2 * i10 := ⟨_, rw_lane 21 (by decide) i10 (by omega), rfl⟩
    rw [← mk11]
    refine wi_aload_n (i := 1) (x := 94) (nx := 44) (r1 := 0) (r2 := 0) (r3 := 0) rfl rfl ?_
    refine wr_gr (k0 := 94) (x := 97) (nx := 47) (r1 := 4) (r2 := 3) (r3 := 0) rfl rfl (by decide) rfl ⟨rfl, rfl⟩ rfl ?_
    refine wi_iload_n (i := 2) (e := x6) (nx := 48) (r1 := 0) (r2 := 0) (r3 := 0) rfl rfl ?_
    refine wr_aa (k0 := 97) (a := x6) (f := i10) (x := 97 + 8 + 2 * i10) (nx := 49) (r1 := 0) (r2 := 0) (r3 := 0) rfl (by decide) rfl (Or.inl rfl) (by omega) (by omega) (by decide) (hcr.1 97 (by decide) i10 (by omega)) ?_
    obtain ⟨k12, kk12, mk12⟩ : ∃ q, Rw q ∧ q = 97 + 8 + 2 * i10 := ⟨_, rw_lane 97 (by decide) i10 (by omega), rfl⟩
    rw [← mk12]
    refine wr_V (k0 := k11) (rest := []) (as := [.ref k11, .ref k12]) (nx := 52) (r1 := 155) (r2 := 1) (r3 := 5) rfl rfl rfl (of_decide_eq_true rfl) rfl rfl kk11.k kk11.1 rfl (of_decide_eq_true rfl) (of_decide_eq_true rfl) ?_
    refine ct_155_R_R hcr kk11 kk12 g7    (fun h13 g13 u13 => ?_)
    have v13 := FR.rngp (lo := 29) (hi := 36) u13 (by omega)
    have F14 := F8.then rfl (FR.rngp (lo := 29) (hi := 36) u13 (by omega))
    have F15 := u7.then rfl (FR.rngp (lo := 29) (hi := 36) u13 (by omega))
    refine wk_n ?_
    refine wr_iinc (i := 2) (n := 1) (v := x6) (fun e16 => [(2, vi e16), (0, .ref 18), (1, .ref 94)]) (nx := 55) (r1 := 0) (r2 := 0) (r3 := 0) rfl rfl (fun _ => rfl) (fun e16 (fe16 : e16 = x6 + 1) => ?_)
    refine wi_goto (nx := 58) (r1 := 32) (r2 := 0) (r3 := 0) rfl ?_
    refine wp.lo (lo := [(0, .ref 18), (1, .ref 94), (2, vi e16)]) ⟨rfl, rfl, rfl, trivial⟩ rfl ?_
    exact I7 e16 h13 ⟨g13, F14, F15, (show (0 ≤ e16 ∧ e16 ≤ 4) by omega)⟩ (show ((4 : Int) + 1 - e16).toNat < ((4 : Int) + 1 - x6).toNat by omega)
-- method 132: Line.copyFrom(LPaintBank$Line;)V
set_option maxRecDepth 100000 in
set_option maxHeartbeats 100000000 in
theorem ct_132_18_113 {L : Nat} {xs : Nat → Int32} {d b c : Nat} {h : hp} {cr : Nat → Nat → Option Nat} {Q : hp_Q} (hcr : CR cr)  (g : GI h)   (pp0 : h 18 16 ≤ 2000000000) (k : ∀ (h2 : hp) , GI h2 → FR [(19, 19, none), (20, 20, none), (22, 23, none), (24, 25, none), (26, 27, none), (28, 28, none), (29, 36, none), (18, 18, some (7, 13)), (18, 18, some (15, 16))] h h2 → (h2 18 16 = h 18 16 + 1) → (∀ i : Nat, i < 12 → h2 19 i = h 114 i) → Q (.inl none) (hp_w h2 cr) b c) : wp (md_xa (L, xs)) (d + 1) 132 (0, [(0, .ref 18), (1, .ref 113)], [], hp_w h cr, b, c) Q := by
  have F0 : FR [(19, 19, none), (20, 20, none), (22, 23, none), (24, 25, none), (26, 27, none), (28, 28, none), (29, 36, none), (18, 18, some (7, 13)), (18, 18, some (15, 16))] h h := FR.refl
  have b1 := gi_b (lo := -2147483648) (hi := 2147483647) g 18 16 rfl
  refine wi_aload_n (i := 1) (x := 113) (nx := 1) (r1 := 0) (r2 := 0) (r3 := 0) rfl rfl ?_
  refine wr_gr (k0 := 113) (x := 114) (nx := 4) (r1 := 4) (r2 := 1) (r3 := 0) rfl rfl (by decide) rfl ⟨rfl, rfl⟩ rfl ?_
  refine wi_iconst (n := 0) (nx := 5) (r1 := 0) (r2 := 0) (r3 := 0) rfl ?_
  refine wi_aload_n (i := 0) (x := 18) (nx := 6) (r1 := 0) (r2 := 0) (r3 := 0) rfl rfl ?_
  refine wr_gr (k0 := 18) (x := 19) (nx := 9) (r1 := 4) (r2 := 1) (r3 := 0) rfl rfl (by decide) rfl ⟨rfl, rfl⟩ rfl ?_
  refine wi_iconst (n := 0) (nx := 10) (r1 := 0) (r2 := 0) (r3 := 0) rfl ?_
  refine wi_bipush (n := 12) (nx := 12) (r1 := 0) (r2 := 0) (r3 := 0) rfl (by decide) ?_
  refine wr_cpy (s0 := 114) (d0 := 19) (n0 := 12) (n1 := 12) (sp := 0) (dp := 0) (n := 12) (sl := -2147483648) (sh := 2147483647) (dl := -2147483648) (dh := 2147483647) (nx := 15) (r1 := 0) (r2 := 101) (r3 := 0) rfl rfl (of_decide_eq_true rfl) (by decide) (by decide) rfl rfl (by omega) (fun _ => rfl) (fun _ => rfl) (by omega) g (fun h2 g2 y2 u2 => ?_)
  have F3 := F0.then rfl u2
  refine wi_aload_n (i := 1) (x := 113) (nx := 16) (r1 := 0) (r2 := 0) (r3 := 0) rfl rfl ?_
  refine wr_gr (k0 := 113) (x := 115) (nx := 19) (r1 := 4) (r2 := 2) (r3 := 0) rfl rfl (by decide) rfl ⟨rfl, rfl⟩ rfl ?_
  refine wi_iconst (n := 0) (nx := 20) (r1 := 0) (r2 := 0) (r3 := 0) rfl ?_
  refine wi_aload_n (i := 0) (x := 18) (nx := 21) (r1 := 0) (r2 := 0) (r3 := 0) rfl rfl ?_
  refine wr_gr (k0 := 18) (x := 20) (nx := 24) (r1 := 4) (r2 := 2) (r3 := 0) rfl rfl (by decide) rfl ⟨rfl, rfl⟩ rfl ?_
  refine wi_iconst (n := 0) (nx := 25) (r1 := 0) (r2 := 0) (r3 := 0) rfl ?_
  refine wi_bipush (n := 12) (nx := 27) (r1 := 0) (r2 := 0) (r3 := 0) rfl (by decide) ?_
  refine wr_cpy (s0 := 115) (d0 := 20) (n0 := 12) (n1 := 12) (sp := 0) (dp := 0) (n := 12) (sl := -2147483648) (sh := 2147483647) (dl := -2147483648) (dh := 2147483647) (nx := 30) (r1 := 0) (r2 := 101) (r3 := 0) rfl rfl (of_decide_eq_true rfl) (by decide) (by decide) rfl rfl (by omega) (fun _ => rfl) (fun _ => rfl) (by omega) g2 (fun h4 g4 y4 u4 => ?_)
  have F5 := F3.then rfl u4
  refine wi_iconst (n := 0) (nx := 31) (r1 := 0) (r2 := 0) (r3 := 0) rfl ?_
  refine wi_istore_n (i := 2) (e := 0) (lo2 := [(2, vi 0), (0, .ref 18), (1, .ref 113)]) (nx := 32) (r1 := 0) (r2 := 0) (r3 := 0) rfl rfl ?_
  refine wp.lo (lo := [(0, .ref 18), (1, .ref 113), (2, vi 0)]) ⟨rfl, rfl, rfl, trivial⟩ rfl ?_
  refine wl_1 (fun x6 h7 => GI h7 ∧ FR [(19, 19, none), (20, 20, none), (22, 23, none), (24, 25, none), (26, 27, none), (28, 28, none), (29, 36, none), (18, 18, some (7, 13)), (18, 18, some (15, 16))] h h7 ∧ FR [(29, 36, none)] h4 h7 ∧ ((0 ≤ x6 ∧ x6 ≤ 4))) (fun x6 h7 => ((4 : Int) + 1 - x6).toNat) (fun x6 h7 => (32, [(0, .ref 18), (1, .ref 113), (2, vi x6)], [], hp_w h7 cr, b, c)) ?_ 0 h4 ⟨g4, F5, FR.refl, (show (0 ≤ 0 ∧ 0 ≤ 4) by omega)⟩
  intro x6 h7 ⟨g7, F8, u7, f7⟩ I7
  refine wi_iload_n (i := 2) (e := x6) (nx := 33) (r1 := 0) (r2 := 0) (r3 := 0) rfl rfl ?_
  refine wi_iconst (n := 4) (nx := 34) (r1 := 0) (r2 := 0) (r3 := 0) rfl ?_
  refine wi_icmp (cd := .ge) (nx := 37) (r1 := 58) (r2 := 0) (r3 := 0) rfl (by omega) (by omega) (fun (q9 : 4 ≤ x6) => ?_) (fun (q9 : ¬ (4 ≤ x6)) => ?_)
  ·
    refine wi_aload_n (i := 0) (x := 18) (nx := 59) (r1 := 0) (r2 := 0) (r3 := 0) rfl rfl ?_
    refine wr_gr (k0 := 18) (x := 22) (nx := 62) (r1 := 4) (r2 := 4) (r3 := 0) rfl rfl (by decide) rfl ⟨rfl, rfl⟩ rfl ?_
    refine wi_aload_n (i := 1) (x := 113) (nx := 63) (r1 := 0) (r2 := 0) (r3 := 0) rfl rfl ?_
    refine wr_gr (k0 := 113) (x := 117) (nx := 66) (r1 := 4) (r2 := 4) (r3 := 0) rfl rfl (by decide) rfl ⟨rfl, rfl⟩ rfl ?_
    refine wr_V (k0 := 22) (rest := []) (as := [.ref 22, .ref 117]) (nx := 69) (r1 := 155) (r2 := 1) (r3 := 5) rfl rfl rfl (of_decide_eq_true rfl) rfl rfl (by decide) rfl rfl (of_decide_eq_true rfl) (of_decide_eq_true rfl) ?_
    refine ct_155_R_R hcr rw_22 rw_117 g7    (fun h10 g10 u10 => ?_)
    have F11 := F8.then rfl u10
    refine wk_n ?_
    refine wi_aload_n (i := 0) (x := 18) (nx := 70) (r1 := 0) (r2 := 0) (r3 := 0) rfl rfl ?_
    refine wr_gr (k0 := 18) (x := 24) (nx := 73) (r1 := 4) (r2 := 5) (r3 := 0) rfl rfl (by decide) rfl ⟨rfl, rfl⟩ rfl ?_
    refine wi_aload_n (i := 1) (x := 113) (nx := 74) (r1 := 0) (r2 := 0) (r3 := 0) rfl rfl ?_
    refine wr_gr (k0 := 113) (x := 119) (nx := 77) (r1 := 4) (r2 := 5) (r3 := 0) rfl rfl (by decide) rfl ⟨rfl, rfl⟩ rfl ?_
    refine wr_V (k0 := 24) (rest := []) (as := [.ref 24, .ref 119]) (nx := 80) (r1 := 155) (r2 := 1) (r3 := 5) rfl rfl rfl (of_decide_eq_true rfl) rfl rfl (by decide) rfl rfl (of_decide_eq_true rfl) (of_decide_eq_true rfl) ?_
    refine ct_155_R_R hcr rw_24 rw_119 g10    (fun h12 g12 u12 => ?_)
    have F13 := F11.then rfl u12
    refine wk_n ?_
    refine wi_aload_n (i := 0) (x := 18) (nx := 81) (r1 := 0) (r2 := 0) (r3 := 0) rfl rfl ?_
    refine wr_gr (k0 := 18) (x := 26) (nx := 84) (r1 := 4) (r2 := 6) (r3 := 0) rfl rfl (by decide) rfl ⟨rfl, rfl⟩ rfl ?_
    refine wi_aload_n (i := 1) (x := 113) (nx := 85) (r1 := 0) (r2 := 0) (r3 := 0) rfl rfl ?_
    refine wr_gr (k0 := 113) (x := 121) (nx := 88) (r1 := 4) (r2 := 6) (r3 := 0) rfl rfl (by decide) rfl ⟨rfl, rfl⟩ rfl ?_
    refine wr_V (k0 := 26) (rest := []) (as := [.ref 26, .ref 121]) (nx := 91) (r1 := 155) (r2 := 1) (r3 := 5) rfl rfl rfl (of_decide_eq_true rfl) rfl rfl (by decide) rfl rfl (of_decide_eq_true rfl) (of_decide_eq_true rfl) ?_
    refine ct_155_R_R hcr rw_26 rw_121 g12    (fun h14 g14 u14 => ?_)
    have F15 := F13.then rfl u14
    refine wk_n ?_
    refine wi_aload_n (i := 0) (x := 18) (nx := 92) (r1 := 0) (r2 := 0) (r3 := 0) rfl rfl ?_
    refine wi_aload_n (i := 1) (x := 113) (nx := 93) (r1 := 0) (r2 := 0) (r3 := 0) rfl rfl ?_
    have b16 := gi_b (lo := 0) (hi := 12) g 113 7 rfl
    refine wr_gi0 (k0 := 113) (x := h 113 7) (nx := 96) (r1 := 4) (r2 := 7) (r3 := 0) rfl rfl (by decide) rfl ⟨rfl, rfl⟩ rfl ((u14 113 7 rfl).trans ((u12 113 7 rfl).trans ((u10 113 7 rfl).trans ((u7 113 7 rfl).trans ((u4 113 7 rfl).trans (u2 113 7 rfl)))))) ?_
    refine wr_pf0 (k0 := 18) (x := h 113 7) (bl := 0) (bh := 12) (nx := 99) (r1 := 4) (r2 := 7) (r3 := 0) rfl (by decide) rfl ⟨rfl, rfl⟩ rfl rfl g14 rfl (by omega) (fun h17 g17 w17 u17 => ?_)
    have F18 := F15.then rfl u17
    refine wi_aload_n (i := 0) (x := 18) (nx := 100) (r1 := 0) (r2 := 0) (r3 := 0) rfl rfl ?_
    refine wi_aload_n (i := 1) (x := 113) (nx := 101) (r1 := 0) (r2 := 0) (r3 := 0) rfl rfl ?_
    have b19 := gi_b (lo := -2147483648) (hi := 2147483647) g 113 8 rfl
    refine wr_gi0 (k0 := 113) (x := h 113 8) (nx := 104) (r1 := 4) (r2 := 8) (r3 := 0) rfl rfl (by decide) rfl ⟨rfl, rfl⟩ rfl ((u17 113 8 rfl).trans ((u14 113 8 rfl).trans ((u12 113 8 rfl).trans ((u10 113 8 rfl).trans ((u7 113 8 rfl).trans ((u4 113 8 rfl).trans (u2 113 8 rfl))))))) ?_
    refine wr_pf0 (k0 := 18) (x := h 113 8) (bl := -2147483648) (bh := 2147483647) (nx := 107) (r1 := 4) (r2 := 8) (r3 := 0) rfl (by decide) rfl ⟨rfl, rfl⟩ rfl rfl g17 rfl (by omega) (fun h20 g20 w20 u20 => ?_)
    have F21 := F18.then rfl u20
    refine wi_aload_n (i := 0) (x := 18) (nx := 108) (r1 := 0) (r2 := 0) (r3 := 0) rfl rfl ?_
    refine wi_aload_n (i := 1) (x := 113) (nx := 109) (r1 := 0) (r2 := 0) (r3 := 0) rfl rfl ?_
    have b22 := gi_b (lo := -2147483648) (hi := 2147483647) g 113 9 rfl
    refine wr_gi0 (k0 := 113) (x := h 113 9) (nx := 112) (r1 := 4) (r2 := 9) (r3 := 0) rfl rfl (by decide) rfl ⟨rfl, rfl⟩ rfl ((u20 113 9 rfl).trans ((u17 113 9 rfl).trans ((u14 113 9 rfl).trans ((u12 113 9 rfl).trans ((u10 113 9 rfl).trans ((u7 113 9 rfl).trans ((u4 113 9 rfl).trans (u2 113 9 rfl)))))))) ?_
    refine wr_pf0 (k0 := 18) (x := h 113 9) (bl := -2147483648) (bh := 2147483647) (nx := 115) (r1 := 4) (r2 := 9) (r3 := 0) rfl (by decide) rfl ⟨rfl, rfl⟩ rfl rfl g20 rfl (by omega) (fun h23 g23 w23 u23 => ?_)
    have F24 := F21.then rfl u23
    refine wi_aload_n (i := 0) (x := 18) (nx := 116) (r1 := 0) (r2 := 0) (r3 := 0) rfl rfl ?_
    refine wi_aload_n (i := 1) (x := 113) (nx := 117) (r1 := 0) (r2 := 0) (r3 := 0) rfl rfl ?_
    have b25 := gi_b (lo := -2147483648) (hi := 2147483647) g 113 10 rfl
    refine wr_gi0 (k0 := 113) (x := h 113 10) (nx := 120) (r1 := 4) (r2 := 10) (r3 := 0) rfl rfl (by decide) rfl ⟨rfl, rfl⟩ rfl ((u23 113 10 rfl).trans ((u20 113 10 rfl).trans ((u17 113 10 rfl).trans ((u14 113 10 rfl).trans ((u12 113 10 rfl).trans ((u10 113 10 rfl).trans ((u7 113 10 rfl).trans ((u4 113 10 rfl).trans (u2 113 10 rfl))))))))) ?_
    refine wr_pf0 (k0 := 18) (x := h 113 10) (bl := -2147483648) (bh := 2147483647) (nx := 123) (r1 := 4) (r2 := 10) (r3 := 0) rfl (by decide) rfl ⟨rfl, rfl⟩ rfl rfl g23 rfl (by omega) (fun h26 g26 w26 u26 => ?_)
    have F27 := F24.then rfl u26
    refine wi_aload_n (i := 0) (x := 18) (nx := 124) (r1 := 0) (r2 := 0) (r3 := 0) rfl rfl ?_
    refine wi_aload_n (i := 1) (x := 113) (nx := 125) (r1 := 0) (r2 := 0) (r3 := 0) rfl rfl ?_
    have b28 := gi_b (lo := -2147483648) (hi := 2147483647) g 113 11 rfl
    refine wr_gi0 (k0 := 113) (x := h 113 11) (nx := 128) (r1 := 4) (r2 := 11) (r3 := 0) rfl rfl (by decide) rfl ⟨rfl, rfl⟩ rfl ((u26 113 11 rfl).trans ((u23 113 11 rfl).trans ((u20 113 11 rfl).trans ((u17 113 11 rfl).trans ((u14 113 11 rfl).trans ((u12 113 11 rfl).trans ((u10 113 11 rfl).trans ((u7 113 11 rfl).trans ((u4 113 11 rfl).trans (u2 113 11 rfl)))))))))) ?_
    refine wr_pf0 (k0 := 18) (x := h 113 11) (bl := -2147483648) (bh := 2147483647) (nx := 131) (r1 := 4) (r2 := 11) (r3 := 0) rfl (by decide) rfl ⟨rfl, rfl⟩ rfl rfl g26 rfl (by omega) (fun h29 g29 w29 u29 => ?_)
    have F30 := F27.then rfl u29
    refine wi_aload_n (i := 0) (x := 18) (nx := 132) (r1 := 0) (r2 := 0) (r3 := 0) rfl rfl ?_
    refine wi_aload_n (i := 1) (x := 113) (nx := 133) (r1 := 0) (r2 := 0) (r3 := 0) rfl rfl ?_
    have b31 := gi_b (lo := -2147483648) (hi := 2147483647) g 113 12 rfl
    refine wr_gi0 (k0 := 113) (x := h 113 12) (nx := 136) (r1 := 4) (r2 := 12) (r3 := 0) rfl rfl (by decide) rfl ⟨rfl, rfl⟩ rfl ((u29 113 12 rfl).trans ((u26 113 12 rfl).trans ((u23 113 12 rfl).trans ((u20 113 12 rfl).trans ((u17 113 12 rfl).trans ((u14 113 12 rfl).trans ((u12 113 12 rfl).trans ((u10 113 12 rfl).trans ((u7 113 12 rfl).trans ((u4 113 12 rfl).trans (u2 113 12 rfl))))))))))) ?_
    refine wr_pf0 (k0 := 18) (x := h 113 12) (bl := -2147483648) (bh := 2147483647) (nx := 139) (r1 := 4) (r2 := 12) (r3 := 0) rfl (by decide) rfl ⟨rfl, rfl⟩ rfl rfl g29 rfl (by omega) (fun h32 g32 w32 u32 => ?_)
    have F33 := F30.then rfl u32
    refine wi_aload_n (i := 0) (x := 18) (nx := 140) (r1 := 0) (r2 := 0) (r3 := 0) rfl rfl ?_
    refine wi_aload_n (i := 1) (x := 113) (nx := 141) (r1 := 0) (r2 := 0) (r3 := 0) rfl rfl ?_
    have b34 := gi_b (lo := -2147483648) (hi := 2147483647) g 113 13 rfl
    refine wr_gi0 (k0 := 113) (x := h 113 13) (nx := 144) (r1 := 4) (r2 := 13) (r3 := 0) rfl rfl (by decide) rfl ⟨rfl, rfl⟩ rfl ((u32 113 13 rfl).trans ((u29 113 13 rfl).trans ((u26 113 13 rfl).trans ((u23 113 13 rfl).trans ((u20 113 13 rfl).trans ((u17 113 13 rfl).trans ((u14 113 13 rfl).trans ((u12 113 13 rfl).trans ((u10 113 13 rfl).trans ((u7 113 13 rfl).trans ((u4 113 13 rfl).trans (u2 113 13 rfl)))))))))))) ?_
    refine wr_pf0 (k0 := 18) (x := h 113 13) (bl := -2147483648) (bh := 2147483647) (nx := 147) (r1 := 4) (r2 := 13) (r3 := 0) rfl (by decide) rfl ⟨rfl, rfl⟩ rfl rfl g32 rfl (by omega) (fun h35 g35 w35 u35 => ?_)
    have F36 := F33.then rfl u35
    refine wi_aload_n (i := 1) (x := 113) (nx := 148) (r1 := 0) (r2 := 0) (r3 := 0) rfl rfl ?_
    refine wr_gr (k0 := 113) (x := 123) (nx := 151) (r1 := 4) (r2 := 14) (r3 := 0) rfl rfl (by decide) rfl ⟨rfl, rfl⟩ rfl ?_
    refine wi_iconst (n := 0) (nx := 152) (r1 := 0) (r2 := 0) (r3 := 0) rfl ?_
    refine wi_aload_n (i := 0) (x := 18) (nx := 153) (r1 := 0) (r2 := 0) (r3 := 0) rfl rfl ?_
    refine wr_gr (k0 := 18) (x := 28) (nx := 156) (r1 := 4) (r2 := 14) (r3 := 0) rfl rfl (by decide) rfl ⟨rfl, rfl⟩ rfl ?_
    refine wi_iconst (n := 0) (nx := 157) (r1 := 0) (r2 := 0) (r3 := 0) rfl ?_
    refine wi_aload_n (i := 0) (x := 18) (nx := 158) (r1 := 0) (r2 := 0) (r3 := 0) rfl rfl ?_
    refine wr_gr (k0 := 18) (x := 28) (nx := 161) (r1 := 4) (r2 := 14) (r3 := 0) rfl rfl (by decide) rfl ⟨rfl, rfl⟩ rfl ?_
    refine wr_al (k0 := 28) (e := 144) (nx := 162) (r1 := 0) (r2 := 0) (r3 := 0) rfl (by decide) rfl rfl ?_
    refine wr_cpy (s0 := 123) (d0 := 28) (n0 := 144) (n1 := 144) (sp := 0) (dp := 0) (n := 144) (sl := -2147483648) (sh := 2147483647) (dl := -2147483648) (dh := 2147483647) (nx := 165) (r1 := 0) (r2 := 101) (r3 := 0) rfl rfl (of_decide_eq_true rfl) (by decide) (by decide) rfl rfl (by omega) (fun _ => rfl) (fun _ => rfl) (by omega) g35 (fun h37 g37 y37 u37 => ?_)
    have F38 := F36.then rfl u37
    refine wi_aload_n (i := 0) (x := 18) (nx := 166) (r1 := 0) (r2 := 0) (r3 := 0) rfl rfl ?_
    refine wi_aload_n (i := 1) (x := 113) (nx := 167) (r1 := 0) (r2 := 0) (r3 := 0) rfl rfl ?_
    have b39 := gi_b (lo := 0) (hi := 36) g 113 15 rfl
    refine wr_gi0 (k0 := 113) (x := h 113 15) (nx := 170) (r1 := 4) (r2 := 15) (r3 := 0) rfl rfl (by decide) rfl ⟨rfl, rfl⟩ rfl ((u37 113 15 rfl).trans ((u35 113 15 rfl).trans ((u32 113 15 rfl).trans ((u29 113 15 rfl).trans ((u26 113 15 rfl).trans ((u23 113 15 rfl).trans ((u20 113 15 rfl).trans ((u17 113 15 rfl).trans ((u14 113 15 rfl).trans ((u12 113 15 rfl).trans ((u10 113 15 rfl).trans ((u7 113 15 rfl).trans ((u4 113 15 rfl).trans (u2 113 15 rfl)))))))))))))) ?_
    refine wr_pf0 (k0 := 18) (x := h 113 15) (bl := 0) (bh := 36) (nx := 173) (r1 := 4) (r2 := 15) (r3 := 0) rfl (by decide) rfl ⟨rfl, rfl⟩ rfl rfl g37 rfl (by omega) (fun h40 g40 w40 u40 => ?_)
    have F41 := F38.then rfl u40
    refine wi_aload_n (i := 0) (x := 18) (nx := 174) (r1 := 0) (r2 := 0) (r3 := 0) rfl rfl ?_
    refine wi_dup (nx := 175) (r1 := 0) (r2 := 0) (r3 := 0) rfl rfl ?_
    refine wr_gi0 (k0 := 18) (x := h 18 16) (nx := 178) (r1 := 4) (r2 := 16) (r3 := 0) rfl rfl (by decide) rfl ⟨rfl, rfl⟩ rfl ((u40 18 16 rfl).trans ((u37 18 16 rfl).trans ((u35 18 16 rfl).trans ((u32 18 16 rfl).trans ((u29 18 16 rfl).trans ((u26 18 16 rfl).trans ((u23 18 16 rfl).trans ((u20 18 16 rfl).trans ((u17 18 16 rfl).trans ((u14 18 16 rfl).trans ((u12 18 16 rfl).trans ((u10 18 16 rfl).trans ((u7 18 16 rfl).trans ((u4 18 16 rfl).trans (u2 18 16 rfl))))))))))))))) ?_
    refine wi_iconst (n := 1) (nx := 179) (r1 := 0) (r2 := 0) (r3 := 0) rfl ?_
    refine wr_add (nx := 180) (r1 := 0) (r2 := 0) (r3 := 0) rfl (fun e42 (fe42 : e42 = (h 18 16) + 1) => ?_)
    refine wr_pf0 (k0 := 18) (x := e42) (bl := -2147483648) (bh := 2147483647) (nx := 183) (r1 := 4) (r2 := 16) (r3 := 0) rfl (by decide) rfl ⟨rfl, rfl⟩ rfl rfl g40 rfl (by omega) (fun h43 g43 w43 u43 => ?_)
    have F44 := F41.then rfl u43
    refine wi_return (nx := 184) (r1 := 0) (r2 := 0) (r3 := 0) rfl rfl ?_
    have e45 : h43 18 16 = e42 := w43
    exact k h43 g43 F44 (show (h43 18 16) = (h 18 16) + 1 by omega) (fun q e => (((u43 19 q (fn_a (by omega) fn_0)).trans ((u40 19 q (fn_a (by omega) fn_0)).trans ((u37 19 q (fn_a (by omega) fn_0)).trans ((u35 19 q (fn_a (by omega) fn_0)).trans ((u32 19 q (fn_a (by omega) fn_0)).trans ((u29 19 q (fn_a (by omega) fn_0)).trans ((u26 19 q (fn_a (by omega) fn_0)).trans ((u23 19 q (fn_a (by omega) fn_0)).trans ((u20 19 q (fn_a (by omega) fn_0)).trans ((u17 19 q (fn_a (by omega) fn_0)).trans ((u14 19 q (fn_a (by omega) fn_0)).trans ((u12 19 q (fn_a (by omega) fn_0)).trans ((u10 19 q (fn_a (by omega) fn_0)).trans ((u7 19 q (fn_a (by omega) fn_0)).trans (u4 19 q (fn_a (by omega) fn_0)))))))))))))))).trans (cy_0 y2 (by omega))))
  ·
    refine wi_aload_n (i := 0) (x := 18) (nx := 38) (r1 := 0) (r2 := 0) (r3 := 0) rfl rfl ?_
    refine wr_gr (k0 := 18) (x := 21) (nx := 41) (r1 := 4) (r2 := 3) (r3 := 0) rfl rfl (by decide) rfl ⟨rfl, rfl⟩ rfl ?_
    refine wi_iload_n (i := 2) (e := x6) (nx := 42) (r1 := 0) (r2 := 0) (r3 := 0) rfl rfl ?_
    obtain ⟨i10, ei10⟩ : ∃ q : Nat, x6 = (q : Int) := ⟨(x6).toNat, by omega⟩
    refine wr_aa (k0 := 21) (a := x6) (f := i10) (x := 21 + 8 + 2 * i10) (nx := 43) (r1 := 0) (r2 := 0) (r3 := 0) rfl (by decide) rfl (Or.inl rfl) (by omega) (by omega) (by decide) (hcr.1 21 (by decide) i10 (by omega)) ?_
    obtain ⟨k11, kk11, mk11⟩ : ∃ q, Rw q ∧ q = 21 + 8 + 2 * i10 := ⟨_, rw_lane 21 (by decide) i10 (by omega), rfl⟩
    rw [← mk11]
    refine wi_aload_n (i := 1) (x := 113) (nx := 44) (r1 := 0) (r2 := 0) (r3 := 0) rfl rfl ?_
    refine wr_gr (k0 := 113) (x := 116) (nx := 47) (r1 := 4) (r2 := 3) (r3 := 0) rfl rfl (by decide) rfl ⟨rfl, rfl⟩ rfl ?_
    refine wi_iload_n (i := 2) (e := x6) (nx := 48) (r1 := 0) (r2 := 0) (r3 := 0) rfl rfl ?_
    refine wr_aa (k0 := 116) (a := x6) (f := i10) (x := 116 + 8 + 2 * i10) (nx := 49) (r1 := 0) (r2 := 0) (r3 := 0) rfl (by decide) rfl (Or.inl rfl) (by omega) (by omega) (by decide) (hcr.1 116 (by decide) i10 (by omega)) ?_
    obtain ⟨k12, kk12, mk12⟩ : ∃ q, Rw q ∧ q = 116 + 8 + 2 * i10 := ⟨_, rw_lane 116 (by decide) i10 (by omega), rfl⟩
    rw [← mk12]
    refine wr_V (k0 := k11) (rest := []) (as := [.ref k11, .ref k12]) (nx := 52) (r1 := 155) (r2 := 1) (r3 := 5) rfl rfl rfl (of_decide_eq_true rfl) rfl rfl kk11.k kk11.1 rfl (of_decide_eq_true rfl) (of_decide_eq_true rfl) ?_
    refine ct_155_R_R hcr kk11 kk12 g7    (fun h13 g13 u13 => ?_)
    have v13 := FR.rngp (lo := 29) (hi := 36) u13 (by omega)
    have F14 := F8.then rfl (FR.rngp (lo := 29) (hi := 36) u13 (by omega))
    have F15 := u7.then rfl (FR.rngp (lo := 29) (hi := 36) u13 (by omega))
    refine wk_n ?_
    refine wr_iinc (i := 2) (n := 1) (v := x6) (fun e16 => [(2, vi e16), (0, .ref 18), (1, .ref 113)]) (nx := 55) (r1 := 0) (r2 := 0) (r3 := 0) rfl rfl (fun _ => rfl) (fun e16 (fe16 : e16 = x6 + 1) => ?_)
    refine wi_goto (nx := 58) (r1 := 32) (r2 := 0) (r3 := 0) rfl ?_
    refine wp.lo (lo := [(0, .ref 18), (1, .ref 113), (2, vi e16)]) ⟨rfl, rfl, rfl, trivial⟩ rfl ?_
    exact I7 e16 h13 ⟨g13, F14, F15, (show (0 ≤ e16 ∧ e16 ≤ 4) by omega)⟩ (show ((4 : Int) + 1 - e16).toNat < ((4 : Int) + 1 - x6).toNat by omega)
