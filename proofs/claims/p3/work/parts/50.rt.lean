-- method 338: Model.closes()V
set_option maxRecDepth 100000 in
set_option maxHeartbeats 100000000 in
theorem ct_338_236 {L : Nat} {xs : Nat → Int32} {d b c : Nat} {h : hp} {cr : Nat → Nat → Option Nat} {Q : hp_Q} (hcr : CR cr)  (g : GI h)   (pp0 : h 236 4 ≤ h 236 3) (pp1 : 1 ≤ h 236 8 ∨ h 236 42 + h 236 44 ≤ 2 * h 236 43) (xq0 : h 236 8 = 0 → WP (h 253) (h 236 42) (h 236 44)) (k : ∀ (h2 : hp) , GI h2 → FR [(253, 253, none), (254, 254, none), (236, 236, some (4, 4)), (236, 236, some (5, 5)), (236, 236, some (6, 6)), (236, 236, some (7, 7)), (236, 236, some (8, 8)), (236, 236, some (9, 9)), (236, 236, some (12, 12)), (236, 236, some (42, 42)), (236, 236, some (44, 44))] h h2 → (h 236 4 ≤ h2 236 4) → (h2 236 4 ≤ h 236 3) → (1 ≤ h2 236 8 ∨ h 236 8 = 0) → (h 236 6 ≠ 0 ∨ h2 236 6 = 0) → (1 ≤ h2 236 8 ∨ h2 236 42 + h2 236 44 ≤ 2 * h2 236 43) → (h2 236 8 = 0 → WP (h2 253) (h2 236 42) (h2 236 44)) → Q (.inl none) (hp_w h2 cr) b c) : wp (md_xa (L, xs)) (d + 3) 338 (0, [(0, .ref 236)], [], hp_w h cr, b, c) Q := by
  have F0 : FR [(253, 253, none), (254, 254, none), (236, 236, some (4, 4)), (236, 236, some (5, 5)), (236, 236, some (6, 6)), (236, 236, some (7, 7)), (236, 236, some (8, 8)), (236, 236, some (9, 9)), (236, 236, some (12, 12)), (236, 236, some (42, 42)), (236, 236, some (44, 44))] h h := FR.refl
  have b1 := gi_b (lo := 0) (hi := 800) g 236 4 rfl
  have b2 := gi_b (lo := 0) (hi := 800) g 236 3 rfl
  have b3 := gi_b (lo := 0) (hi := 5) g 236 8 rfl
  have b4 := gi_b (lo := 0) (hi := 80) g 236 42 rfl
  have b5 := gi_b (lo := 0) (hi := 2) g 236 44 rfl
  have b6 := gi_b (lo := 0) (hi := 40) g 236 43 rfl
  have b8 := gi_b (lo := 0) (hi := 4) g 236 6 rfl
  refine wl_0 (fun h7 => GI h7 ∧ FR [(253, 253, none), (254, 254, none), (236, 236, some (4, 4)), (236, 236, some (5, 5)), (236, 236, some (6, 6)), (236, 236, some (7, 7)), (236, 236, some (8, 8)), (236, 236, some (9, 9)), (236, 236, some (12, 12)), (236, 236, some (42, 42)), (236, 236, some (44, 44))] h h7 ∧ FR [(253, 253, none), (254, 254, none), (236, 236, some (4, 4)), (236, 236, some (5, 5)), (236, 236, some (6, 6)), (236, 236, some (7, 7)), (236, 236, some (8, 8)), (236, 236, some (9, 9)), (236, 236, some (12, 12)), (236, 236, some (42, 42)), (236, 236, some (44, 44))] h h7 ∧ (((h7 236 4) ≤ (h7 236 3)) ∧ ((h 236 8) = 0 ∨ 1 ≤ (h7 236 8)) ∧ ((h 236 6) ≠ 0 ∨ (h7 236 6) = 0) ∧ ((h 236 4) ≤ (h7 236 4)) ∧ (1 ≤ (h7 236 8) ∨ (h7 236 42) + (h7 236 44) ≤ 2 * (h7 236 43))) ∧ (h7 236 8 = 0 → WP (h7 253) (h7 236 42) (h7 236 44))) (fun h7 => ((h7 236 44)).toNat) (fun h7 => (0, [(0, .ref 236)], [], hp_w h7 cr, b, c)) ?_ h ⟨g, F0, FR.refl, (show ((h 236 4) ≤ (h 236 3)) ∧ ((h 236 8) = 0 ∨ 1 ≤ (h 236 8)) ∧ ((h 236 6) ≠ 0 ∨ (h 236 6) = 0) ∧ ((h 236 4) ≤ (h 236 4)) ∧ (1 ≤ (h 236 8) ∨ (h 236 42) + (h 236 44) ≤ 2 * (h 236 43)) by omega), xq0⟩
  intro h7 ⟨g7, F9, u7, f7, X7_0⟩ I7
  have b10 := gi_b (lo := 0) (hi := 2) g7 236 44 rfl
  have b11 := gi_b (lo := 0) (hi := 800) g7 236 4 rfl
  have e12 : h7 236 3 = h 236 3 := (u7 236 3 rfl)
  have b13 := gi_b (lo := 0) (hi := 5) g7 236 8 rfl
  have b14 := gi_b (lo := 0) (hi := 4) g7 236 6 rfl
  have b15 := gi_b (lo := 0) (hi := 80) g7 236 42 rfl
  have e16 : h7 236 43 = h 236 43 := (u7 236 43 rfl)
  refine wi_aload_n (i := 0) (x := 236) (nx := 1) (r1 := 0) (r2 := 0) (r3 := 0) rfl rfl ?_
  refine wr_gi0 (k0 := 236) (x := h7 236 44) (nx := 4) (r1 := 11) (r2 := 44) (r3 := 0) rfl rfl (by decide) rfl ⟨rfl, rfl⟩ rfl rfl ?_
  refine wi_if (cd := .le) (nx := 7) (r1 := 46) (r2 := 0) (r3 := 0) rfl (by omega) (fun (q17 : (h7 236 44) ≤ 0) => ?_) (fun (q17 : ¬ ((h7 236 44) ≤ 0)) => ?_)
  ·
    refine wi_return (nx := 47) (r1 := 0) (r2 := 0) (r3 := 0) rfl rfl ?_
    have q18 : h7 253 = h7 253 := funext (fun i => rfl)
    exact k h7 g7 F9 (show (h 236 4) ≤ (h7 236 4) by omega) (show (h7 236 4) ≤ (h 236 3) by omega) (show 1 ≤ (h7 236 8) ∨ (h 236 8) = 0 by omega) (show (h 236 6) ≠ 0 ∨ (h7 236 6) = 0 by omega) (show 1 ≤ (h7 236 8) ∨ (h7 236 42) + (h7 236 44) ≤ 2 * (h7 236 43) by omega) (fun e => by rw [q18, show h7 236 42 = h7 236 42 by omega, show h7 236 44 = h7 236 44 by omega]; exact X7_0 (by omega))
  ·
    refine wi_aload_n (i := 0) (x := 236) (nx := 8) (r1 := 0) (r2 := 0) (r3 := 0) rfl rfl ?_
    refine wi_bipush (n := 41) (nx := 10) (r1 := 0) (r2 := 0) (r3 := 0) rfl (by decide) ?_
    refine wr_V (k0 := 236) (rest := []) (as := [.ref 236, vi 41]) (nx := 13) (r1 := 236) (r2 := 1) (r3 := 11) rfl rfl rfl (of_decide_eq_true rfl) rfl rfl (by decide) rfl rfl (of_decide_eq_true rfl) (of_decide_eq_true rfl) ?_
    refine wi_aload_n (i := 0) (x := 236) (nx := 1) (r1 := 0) (r2 := 0) (r3 := 0) rfl rfl ?_
    refine wr_gi0 (k0 := 236) (x := h7 236 8) (nx := 4) (r1 := 11) (r2 := 8) (r3 := 0) rfl rfl (by decide) rfl ⟨rfl, rfl⟩ rfl rfl ?_
    refine wi_if (cd := .ne) (nx := 7) (r1 := 27) (r2 := 0) (r3 := 0) rfl (by omega) (fun (q18 : (h7 236 8) ≠ 0) => ?_) (fun (q18 : ¬ ((h7 236 8) ≠ 0)) => ?_)
    ·
      refine wi_iconst (n := 0) (nx := 28) (r1 := 0) (r2 := 0) (r3 := 0) rfl ?_
      refine wi_zreturn (nx := 29) (r1 := 0) (r2 := 0) (r3 := 0) rfl rfl (by omega) ?_
      refine wk_i ?_
      refine wi_if (cd := .eq) (nx := 16) (r1 := 46) (r2 := 0) (r3 := 0) rfl (by omega) (fun (q19 : 0 = 0) => ?_) (fun (q19 : ¬ (0 = 0)) => by exfalso; omega)
      refine wi_return (nx := 47) (r1 := 0) (r2 := 0) (r3 := 0) rfl rfl ?_
      have q20 : h7 253 = h7 253 := funext (fun i => rfl)
      exact k h7 g7 F9 (show (h 236 4) ≤ (h7 236 4) by omega) (show (h7 236 4) ≤ (h 236 3) by omega) (show 1 ≤ (h7 236 8) ∨ (h 236 8) = 0 by omega) (show (h 236 6) ≠ 0 ∨ (h7 236 6) = 0 by omega) (show 1 ≤ (h7 236 8) ∨ (h7 236 42) + (h7 236 44) ≤ 2 * (h7 236 43) by omega) (fun e => by rw [q20, show h7 236 42 = h7 236 42 by omega, show h7 236 44 = h7 236 44 by omega]; exact X7_0 (by omega))
    ·
      refine wi_aload_n (i := 0) (x := 236) (nx := 8) (r1 := 0) (r2 := 0) (r3 := 0) rfl rfl ?_
      refine wr_gi0 (k0 := 236) (x := h7 236 6) (nx := 11) (r1 := 11) (r2 := 6) (r3 := 0) rfl rfl (by decide) rfl ⟨rfl, rfl⟩ rfl rfl ?_
      refine wi_iconst (n := 3) (nx := 12) (r1 := 0) (r2 := 0) (r3 := 0) rfl ?_
      refine wi_icmp (cd := .ne) (nx := 15) (r1 := 27) (r2 := 0) (r3 := 0) rfl (by omega) (by omega) (fun (q19 : (h7 236 6) ≠ 3) => ?_) (fun (q19 : ¬ ((h7 236 6) ≠ 3)) => ?_)
      ·
        refine wi_iconst (n := 0) (nx := 28) (r1 := 0) (r2 := 0) (r3 := 0) rfl ?_
        refine wi_zreturn (nx := 29) (r1 := 0) (r2 := 0) (r3 := 0) rfl rfl (by omega) ?_
        refine wk_i ?_
        refine wi_if (cd := .eq) (nx := 16) (r1 := 46) (r2 := 0) (r3 := 0) rfl (by omega) (fun (q20 : 0 = 0) => ?_) (fun (q20 : ¬ (0 = 0)) => by exfalso; omega)
        refine wi_return (nx := 47) (r1 := 0) (r2 := 0) (r3 := 0) rfl rfl ?_
        have q21 : h7 253 = h7 253 := funext (fun i => rfl)
        exact k h7 g7 F9 (show (h 236 4) ≤ (h7 236 4) by omega) (show (h7 236 4) ≤ (h 236 3) by omega) (show 1 ≤ (h7 236 8) ∨ (h 236 8) = 0 by omega) (show (h 236 6) ≠ 0 ∨ (h7 236 6) = 0 by omega) (show 1 ≤ (h7 236 8) ∨ (h7 236 42) + (h7 236 44) ≤ 2 * (h7 236 43) by omega) (fun e => by rw [q21, show h7 236 42 = h7 236 42 by omega, show h7 236 44 = h7 236 44 by omega]; exact X7_0 (by omega))
      ·
        refine wi_aload_n (i := 0) (x := 236) (nx := 16) (r1 := 0) (r2 := 0) (r3 := 0) rfl rfl ?_
        have b20 := gi_b (lo := 0) (hi := 999) g7 236 7 rfl
        refine wr_gi0 (k0 := 236) (x := h7 236 7) (nx := 19) (r1 := 11) (r2 := 7) (r3 := 0) rfl rfl (by decide) rfl ⟨rfl, rfl⟩ rfl rfl ?_
        refine wi_iload_n (i := 1) (e := 41) (nx := 20) (r1 := 0) (r2 := 0) (r3 := 0) rfl rfl ?_
        refine wi_icmp (cd := .ne) (nx := 23) (r1 := 27) (r2 := 0) (r3 := 0) rfl (by omega) (by omega) (fun (q21 : (h7 236 7) ≠ 41) => ?_) (fun (q21 : ¬ ((h7 236 7) ≠ 41)) => ?_)
        ·
          refine wi_iconst (n := 0) (nx := 28) (r1 := 0) (r2 := 0) (r3 := 0) rfl ?_
          refine wi_zreturn (nx := 29) (r1 := 0) (r2 := 0) (r3 := 0) rfl rfl (by omega) ?_
          refine wk_i ?_
          refine wi_if (cd := .eq) (nx := 16) (r1 := 46) (r2 := 0) (r3 := 0) rfl (by omega) (fun (q22 : 0 = 0) => ?_) (fun (q22 : ¬ (0 = 0)) => by exfalso; omega)
          refine wi_return (nx := 47) (r1 := 0) (r2 := 0) (r3 := 0) rfl rfl ?_
          have q23 : h7 253 = h7 253 := funext (fun i => rfl)
          exact k h7 g7 F9 (show (h 236 4) ≤ (h7 236 4) by omega) (show (h7 236 4) ≤ (h 236 3) by omega) (show 1 ≤ (h7 236 8) ∨ (h 236 8) = 0 by omega) (show (h 236 6) ≠ 0 ∨ (h7 236 6) = 0 by omega) (show 1 ≤ (h7 236 8) ∨ (h7 236 42) + (h7 236 44) ≤ 2 * (h7 236 43) by omega) (fun e => by rw [q23, show h7 236 42 = h7 236 42 by omega, show h7 236 44 = h7 236 44 by omega]; exact X7_0 (by omega))
        ·
          refine wi_iconst (n := 1) (nx := 24) (r1 := 0) (r2 := 0) (r3 := 0) rfl ?_
          refine wi_goto (nx := 27) (r1 := 28) (r2 := 0) (r3 := 0) rfl ?_
          refine wi_zreturn (nx := 29) (r1 := 0) (r2 := 0) (r3 := 0) rfl rfl (by omega) ?_
          refine wk_i ?_
          refine wi_if (cd := .eq) (nx := 16) (r1 := 46) (r2 := 0) (r3 := 0) rfl (by omega) (fun (q22 : 1 = 0) => by exfalso; omega) (fun (q22 : ¬ (1 = 0)) => ?_)
          refine wi_aload_n (i := 0) (x := 236) (nx := 17) (r1 := 0) (r2 := 0) (r3 := 0) rfl rfl ?_
          refine wi_dup (nx := 18) (r1 := 0) (r2 := 0) (r3 := 0) rfl rfl ?_
          refine wr_gi0 (k0 := 236) (x := h7 236 44) (nx := 21) (r1 := 11) (r2 := 44) (r3 := 0) rfl rfl (by decide) rfl ⟨rfl, rfl⟩ rfl rfl ?_
          refine wi_iconst (n := 1) (nx := 22) (r1 := 0) (r2 := 0) (r3 := 0) rfl ?_
          refine wr_sub (nx := 23) (r1 := 0) (r2 := 0) (r3 := 0) rfl (fun e23 (fe23 : e23 = (h7 236 44) - 1) => ?_)
          refine wr_pf0 (k0 := 236) (x := e23) (bl := 0) (bh := 2) (nx := 26) (r1 := 11) (r2 := 44) (r3 := 0) rfl (by decide) rfl ⟨rfl, rfl⟩ rfl rfl g7 rfl (by omega) (fun h24 g24 w24 u24 => ?_)
          have F25 := F9.then rfl u24
          have F26 := u7.then rfl u24
          refine wi_aload_n (i := 0) (x := 236) (nx := 27) (r1 := 0) (r2 := 0) (r3 := 0) rfl rfl ?_
          refine wi_bipush (n := 8) (nx := 29) (r1 := 0) (r2 := 0) (r3 := 0) rfl (by decide) ?_
          refine wi_iconst (n := 0) (nx := 30) (r1 := 0) (r2 := 0) (r3 := 0) rfl ?_
          refine wr_V (k0 := 236) (rest := []) (as := [.ref 236, vi 8, vi 0]) (nx := 33) (r1 := 337) (r2 := 2) (r3 := 11) rfl rfl rfl (of_decide_eq_true rfl) rfl rfl (by decide) rfl rfl (of_decide_eq_true rfl) (of_decide_eq_true rfl) ?_
          refine wi_aload_n (i := 0) (x := 236) (nx := 1) (r1 := 0) (r2 := 0) (r3 := 0) rfl rfl ?_
          refine wr_V (k0 := 236) (rest := []) (as := [.ref 236]) (nx := 4) (r1 := 219) (r2 := 0) (r3 := 11) rfl rfl rfl (of_decide_eq_true rfl) rfl rfl (by decide) rfl rfl (of_decide_eq_true rfl) (of_decide_eq_true rfl) ?_
          refine wi_aload_n (i := 0) (x := 236) (nx := 1) (r1 := 0) (r2 := 0) (r3 := 0) rfl rfl ?_
          refine wr_gi0 (k0 := 236) (x := h7 236 8) (nx := 4) (r1 := 11) (r2 := 8) (r3 := 0) rfl rfl (by decide) rfl ⟨rfl, rfl⟩ rfl (u24 236 8 rfl) ?_
          refine wi_if (cd := .ne) (nx := 7) (r1 := 11) (r2 := 0) (r3 := 0) rfl (by omega) (fun (q27 : (h7 236 8) ≠ 0) => by exfalso; omega) (fun (q27 : ¬ ((h7 236 8) ≠ 0)) => ?_)
          refine wi_iconst (n := 1) (nx := 8) (r1 := 0) (r2 := 0) (r3 := 0) rfl ?_
          refine wi_goto (nx := 11) (r1 := 12) (r2 := 0) (r3 := 0) rfl ?_
          refine wi_zreturn (nx := 13) (r1 := 0) (r2 := 0) (r3 := 0) rfl rfl (by omega) ?_
          refine wk_i ?_
          refine wi_if (cd := .ne) (nx := 7) (r1 := 8) (r2 := 0) (r3 := 0) rfl (by omega) (fun (q28 : 1 ≠ 0) => ?_) (fun (q28 : ¬ (1 ≠ 0)) => by exfalso; omega)
          refine wi_aload_n (i := 0) (x := 236) (nx := 9) (r1 := 0) (r2 := 0) (r3 := 0) rfl rfl ?_
          refine wr_gr (k0 := 236) (x := 253) (nx := 12) (r1 := 11) (r2 := 37) (r3 := 0) rfl rfl (by decide) rfl ⟨rfl, rfl⟩ rfl ?_
          refine wi_aload_n (i := 0) (x := 236) (nx := 13) (r1 := 0) (r2 := 0) (r3 := 0) rfl rfl ?_
          refine wr_gi0 (k0 := 236) (x := h7 236 42) (nx := 16) (r1 := 11) (r2 := 42) (r3 := 0) rfl rfl (by decide) rfl ⟨rfl, rfl⟩ rfl (u24 236 42 rfl) ?_
          refine wi_iload_n (i := 1) (e := 8) (nx := 17) (r1 := 0) (r2 := 0) (r3 := 0) rfl rfl ?_
          obtain ⟨i29, ei29⟩ : ∃ q : Nat, (h7 236 42) = (q : Int) := ⟨(h7 236 42).toNat, by omega⟩
          refine wr_is (k0 := 253) (a := h7 236 42) (f := i29) (x := 8) (bl := 0) (bh := 8) (nx := 18) (r1 := 0) (r2 := 0) (r3 := 0) rfl (by decide) rfl (by omega) (by omega) (by decide) g24 rfl (by omega) (fun h30 g30 w30 u30 => ?_)
          have F31 := F25.then rfl (FR.rngp (lo := 253) (hi := 253) u30 (by decide))
          have F32 := F26.then rfl (FR.rngp (lo := 253) (hi := 253) u30 (by decide))
          refine wi_aload_n (i := 0) (x := 236) (nx := 19) (r1 := 0) (r2 := 0) (r3 := 0) rfl rfl ?_
          refine wr_gr (k0 := 236) (x := 254) (nx := 22) (r1 := 11) (r2 := 38) (r3 := 0) rfl rfl (by decide) rfl ⟨rfl, rfl⟩ rfl ?_
          refine wi_aload_n (i := 0) (x := 236) (nx := 23) (r1 := 0) (r2 := 0) (r3 := 0) rfl rfl ?_
          refine wr_gi0 (k0 := 236) (x := h7 236 42) (nx := 26) (r1 := 11) (r2 := 42) (r3 := 0) rfl rfl (by decide) rfl ⟨rfl, rfl⟩ rfl ((u30 236 42 (fn_a (by omega) fn_0)).trans (u24 236 42 rfl)) ?_
          refine wi_iload_n (i := 2) (e := 0) (nx := 27) (r1 := 0) (r2 := 0) (r3 := 0) rfl rfl ?_
          refine wr_is (k0 := 254) (a := h7 236 42) (f := i29) (x := 0) (bl := 0) (bh := 999) (nx := 28) (r1 := 0) (r2 := 0) (r3 := 0) rfl (by decide) rfl (by omega) (by omega) (by decide) g30 rfl (by omega) (fun h33 g33 w33 u33 => ?_)
          have F34 := F31.then rfl (FR.rngp (lo := 254) (hi := 254) u33 (by decide))
          have F35 := F32.then rfl (FR.rngp (lo := 254) (hi := 254) u33 (by decide))
          refine wi_aload_n (i := 0) (x := 236) (nx := 29) (r1 := 0) (r2 := 0) (r3 := 0) rfl rfl ?_
          refine wi_dup (nx := 30) (r1 := 0) (r2 := 0) (r3 := 0) rfl rfl ?_
          refine wr_gi0 (k0 := 236) (x := h7 236 42) (nx := 33) (r1 := 11) (r2 := 42) (r3 := 0) rfl rfl (by decide) rfl ⟨rfl, rfl⟩ rfl ((u33 236 42 (fn_a (by omega) fn_0)).trans ((u30 236 42 (fn_a (by omega) fn_0)).trans (u24 236 42 rfl))) ?_
          refine wi_iconst (n := 1) (nx := 34) (r1 := 0) (r2 := 0) (r3 := 0) rfl ?_
          refine wr_add (nx := 35) (r1 := 0) (r2 := 0) (r3 := 0) rfl (fun e36 (fe36 : e36 = (h7 236 42) + 1) => ?_)
          refine wr_pf0 (k0 := 236) (x := e36) (bl := 0) (bh := 80) (nx := 38) (r1 := 11) (r2 := 42) (r3 := 0) rfl (by decide) rfl ⟨rfl, rfl⟩ rfl rfl g33 rfl (by omega) (fun h37 g37 w37 u37 => ?_)
          have F38 := F34.then rfl u37
          have F39 := F35.then rfl u37
          refine wi_return (nx := 39) (r1 := 0) (r2 := 0) (r3 := 0) rfl rfl ?_
          refine wk_n ?_
          refine wi_aload_n (i := 0) (x := 236) (nx := 34) (r1 := 0) (r2 := 0) (r3 := 0) rfl rfl ?_
          refine wr_V (k0 := 236) (rest := []) (as := [.ref 236]) (nx := 37) (r1 := 215) (r2 := 0) (r3 := 11) rfl rfl rfl (of_decide_eq_true rfl) rfl rfl (by decide) rfl rfl (of_decide_eq_true rfl) (of_decide_eq_true rfl) ?_
          have e41 : h37 236 4 = h7 236 4 := ((u37 236 4 rfl).trans ((u33 236 4 (fn_a (by omega) fn_0)).trans ((u30 236 4 (fn_a (by omega) fn_0)).trans (u24 236 4 rfl))))
          have e42 : h37 236 3 = h 236 3 := ((u37 236 3 rfl).trans ((u33 236 3 (fn_a (by omega) fn_0)).trans ((u30 236 3 (fn_a (by omega) fn_0)).trans ((u24 236 3 rfl).trans (u7 236 3 rfl)))))
          refine ct_215_236 hcr  g37   (show (h37 236 4) ≤ (h37 236 3) by omega) (fun h40 g40 u40 (p40_0 : (h37 236 4) ≤ (h40 236 4)) (p40_1 : (h40 236 4) ≤ (h37 236 3)) (p40_2 : (h40 236 6) = 0 ∨ (h37 236 4) + 1 ≤ (h40 236 4)) => ?_)
          have F43 := F38.then (by decide +kernel) u40
          have F44 := F39.then (by decide +kernel) u40
          have b45 := gi_b (lo := 0) (hi := 800) g40 236 4 rfl
          have b46 := gi_b (lo := 0) (hi := 4) g40 236 6 rfl
          refine wk_n ?_
          refine wi_aload_n (i := 0) (x := 236) (nx := 38) (r1 := 0) (r2 := 0) (r3 := 0) rfl rfl ?_
          refine wi_bipush (n := 59) (nx := 40) (r1 := 0) (r2 := 0) (r3 := 0) rfl (by decide) ?_
          refine wr_V (k0 := 236) (rest := []) (as := [.ref 236, vi 59]) (nx := 43) (r1 := 235) (r2 := 1) (r3 := 11) rfl rfl rfl (of_decide_eq_true rfl) rfl rfl (by decide) rfl rfl (of_decide_eq_true rfl) (of_decide_eq_true rfl) ?_
          have e48 : h40 236 3 = h 236 3 := ((u40 236 3 rfl).trans ((u37 236 3 rfl).trans ((u33 236 3 (fn_a (by omega) fn_0)).trans ((u30 236 3 (fn_a (by omega) fn_0)).trans ((u24 236 3 rfl).trans (u7 236 3 rfl))))))
          refine ct_235_236 hcr  g40 59 (by omega) (show (h40 236 4) ≤ (h40 236 3) by omega) (fun h47 g47 u47 (p47_0 : (h40 236 4) ≤ (h47 236 4)) (p47_1 : (h47 236 4) ≤ (h40 236 3)) (p47_2 : 1 ≤ (h47 236 8) ∨ (h40 236 8) = 0) (p47_3 : 1 ≤ (h47 236 8) ∨ (h47 236 6) = 0 ∨ (h40 236 4) + 1 ≤ (h47 236 4)) => ?_)
          have F49 := F43.then (by decide +kernel) u47
          have F50 := F44.then (by decide +kernel) u47
          have b51 := gi_b (lo := 0) (hi := 800) g47 236 4 rfl
          have e52 : h40 236 8 = h7 236 8 := ((u40 236 8 rfl).trans ((u37 236 8 rfl).trans ((u33 236 8 (fn_a (by omega) fn_0)).trans ((u30 236 8 (fn_a (by omega) fn_0)).trans (u24 236 8 rfl)))))
          have b53 := gi_b (lo := 0) (hi := 5) g47 236 8 rfl
          have b54 := gi_b (lo := 0) (hi := 4) g47 236 6 rfl
          refine wk_n ?_
          refine wi_goto (nx := 46) (r1 := 0) (r2 := 0) (r3 := 0) rfl ?_
          have e55 : h47 236 3 = h 236 3 := ((u47 236 3 rfl).trans ((u40 236 3 rfl).trans ((u37 236 3 rfl).trans ((u33 236 3 (fn_a (by omega) fn_0)).trans ((u30 236 3 (fn_a (by omega) fn_0)).trans ((u24 236 3 rfl).trans (u7 236 3 rfl)))))))
          have e56 : h47 236 42 = e36 := ((u47 236 42 rfl).trans ((u40 236 42 rfl).trans w37))
          have e57 : h47 236 44 = e23 := ((u47 236 44 rfl).trans ((u40 236 44 rfl).trans ((u37 236 44 rfl).trans ((u33 236 44 (fn_a (by omega) fn_0)).trans ((u30 236 44 (fn_a (by omega) fn_0)).trans w24)))))
          have e58 : h47 236 43 = h 236 43 := ((u47 236 43 rfl).trans ((u40 236 43 rfl).trans ((u37 236 43 rfl).trans ((u33 236 43 (fn_a (by omega) fn_0)).trans ((u30 236 43 (fn_a (by omega) fn_0)).trans ((u24 236 43 rfl).trans (u7 236 43 rfl)))))))
          have q59 : h47 253 = h30 253 := funext (fun i => ((u47 253 i (fo_no_ok (by decide) i)).trans ((u40 253 i (fo_no_ok (by decide) i)).trans ((u37 253 i rfl).trans (u33 253 i (fn_a (by omega) fn_0))))))
          have q60 : h24 253 = h7 253 := funext (fun i => (u24 253 i rfl))
          exact I7 h47 ⟨g47, F49, F50, (show ((h47 236 4) ≤ (h47 236 3)) ∧ ((h 236 8) = 0 ∨ 1 ≤ (h47 236 8)) ∧ ((h 236 6) ≠ 0 ∨ (h47 236 6) = 0) ∧ ((h 236 4) ≤ (h47 236 4)) ∧ (1 ≤ (h47 236 8) ∨ (h47 236 42) + (h47 236 44) ≤ 2 * (h47 236 43)) by omega), (fun e => by
              rw [q59]
              refine WP.put (S := h7 253) (n := h7 236 42) (o := h7 236 44) (X7_0 (by omega)) (by omega) (fun k hk => (u30 253 k (fn_i (by omega) fn_0)).trans (congrFun q60 k)) ?_ (by omega)
              rw [show (h7 236 42).toNat = i29 by omega, w30]
              omega)⟩ (show ((h47 236 44)).toNat < ((h7 236 44)).toNat by omega)
-- method 334: Model.runScript()I
set_option maxRecDepth 100000 in
set_option maxHeartbeats 100000000 in
theorem ct_334_236 {L : Nat} {xs : Nat → Int32} {d b c : Nat} {h : hp} {cr : Nat → Nat → Option Nat} {Q : hp_Q} (hcr : CR cr)  (g : GI h)   (pp0 : h 238 98 + h 238 99 + h 238 100 + h 238 101 + h 238 102 + h 238 106 = h 238 73) (pp1 : h 238 73 ≤ h 238 2) (pp2 : h 238 119 ≤ h 238 67) (pp3 : h 238 69 ≤ h 238 5) (pp4 : h 238 2 ≤ 12 * h 238 5) (gp0 : GPH h) (k : ∀ (h2 : hp) (z0 : Int) , GI h2 → FR [(240, 240, none), (242, 242, none), (246, 246, none), (248, 248, none), (249, 249, none), (250, 250, none), (251, 251, none), (252, 252, none), (253, 253, none), (254, 254, none), (257, 257, none), (236, 236, some (0, 0)), (236, 236, some (2, 2)), (236, 236, some (3, 3)), (236, 236, some (4, 4)), (236, 236, some (5, 5)), (236, 236, some (6, 6)), (236, 236, some (7, 7)), (236, 236, some (8, 8)), (236, 236, some (9, 9)), (236, 236, some (10, 10)), (236, 236, some (11, 11)), (236, 236, some (12, 12)), (236, 236, some (22, 22)), (236, 236, some (28, 28)), (236, 236, some (32, 32)), (236, 236, some (42, 42)), (236, 236, some (43, 43)), (236, 236, some (44, 44)), (236, 236, some (45, 45)), (238, 238, some (31, 53)), (238, 238, some (43, 54)), (238, 238, some (55, 66)), (238, 238, some (67, 67)), (238, 238, some (68, 68)), (238, 238, some (69, 69)), (238, 238, some (70, 70)), (238, 238, some (71, 71)), (238, 238, some (72, 72)), (238, 238, some (73, 73)), (238, 238, some (74, 79)), (238, 238, some (80, 85)), (238, 238, some (86, 91)), (238, 238, some (92, 97)), (238, 238, some (98, 98)), (238, 238, some (99, 99)), (238, 238, some (100, 100)), (238, 238, some (101, 101)), (238, 238, some (102, 102)), (238, 238, some (103, 105)), (238, 238, some (106, 106)), (238, 238, some (107, 118)), (238, 238, some (119, 119)), (238, 238, some (120, 196)), (238, 238, some (121, 197)), (238, 238, some (122, 198)), (238, 238, some (123, 199)), (247, 247, some (0, 0)), (247, 247, some (1, 1)), (247, 247, some (2, 2)), (247, 247, some (3, 3)), (255, 255, some (0, 0)), (255, 255, some (1, 1)), (256, 256, some (0, 0)), (256, 256, some (1, 1))] h h2 → (0 ≤ z0 ∧ z0 ≤ 100) → (h2 238 98 + h2 238 99 + h2 238 100 + h2 238 101 + h2 238 102 + h2 238 106 = h2 238 73) → (h2 238 73 ≤ h2 238 2) → (h2 238 119 ≤ h2 238 67) → (h2 238 69 ≤ h2 238 5) → (h2 238 2 ≤ 12 * h2 238 5) → (h2 236 2 = 0) → (GPH h2) → Q (.inl (some (vi z0))) (hp_w h2 cr) b c) : wp (md_xa (L, xs)) (d + 8) 334 (0, [(0, .ref 236)], [], hp_w h cr, b, c) Q := by
  have F0 : FR [(240, 240, none), (242, 242, none), (246, 246, none), (248, 248, none), (249, 249, none), (250, 250, none), (251, 251, none), (252, 252, none), (253, 253, none), (254, 254, none), (257, 257, none), (236, 236, some (0, 0)), (236, 236, some (2, 2)), (236, 236, some (3, 3)), (236, 236, some (4, 4)), (236, 236, some (5, 5)), (236, 236, some (6, 6)), (236, 236, some (7, 7)), (236, 236, some (8, 8)), (236, 236, some (9, 9)), (236, 236, some (10, 10)), (236, 236, some (11, 11)), (236, 236, some (12, 12)), (236, 236, some (22, 22)), (236, 236, some (28, 28)), (236, 236, some (32, 32)), (236, 236, some (42, 42)), (236, 236, some (43, 43)), (236, 236, some (44, 44)), (236, 236, some (45, 45)), (238, 238, some (31, 53)), (238, 238, some (43, 54)), (238, 238, some (55, 66)), (238, 238, some (67, 67)), (238, 238, some (68, 68)), (238, 238, some (69, 69)), (238, 238, some (70, 70)), (238, 238, some (71, 71)), (238, 238, some (72, 72)), (238, 238, some (73, 73)), (238, 238, some (74, 79)), (238, 238, some (80, 85)), (238, 238, some (86, 91)), (238, 238, some (92, 97)), (238, 238, some (98, 98)), (238, 238, some (99, 99)), (238, 238, some (100, 100)), (238, 238, some (101, 101)), (238, 238, some (102, 102)), (238, 238, some (103, 105)), (238, 238, some (106, 106)), (238, 238, some (107, 118)), (238, 238, some (119, 119)), (238, 238, some (120, 196)), (238, 238, some (121, 197)), (238, 238, some (122, 198)), (238, 238, some (123, 199)), (247, 247, some (0, 0)), (247, 247, some (1, 1)), (247, 247, some (2, 2)), (247, 247, some (3, 3)), (255, 255, some (0, 0)), (255, 255, some (1, 1)), (256, 256, some (0, 0)), (256, 256, some (1, 1))] h h := FR.refl
  have b1 := gi_b (lo := 0) (hi := 6) g 238 98 rfl
  have b2 := gi_b (lo := 0) (hi := 6) g 238 99 rfl
  have b3 := gi_b (lo := 0) (hi := 6) g 238 100 rfl
  have b4 := gi_b (lo := 0) (hi := 6) g 238 101 rfl
  have b5 := gi_b (lo := 0) (hi := 3) g 238 102 rfl
  have b6 := gi_b (lo := 0) (hi := 12) g 238 106 rfl
  have b7 := gi_b (lo := 0) (hi := 12) g 238 73 rfl
  have b8 := gi_b (lo := 0) (hi := 12) g 238 2 rfl
  have b9 := gi_b (lo := 0) (hi := 9999) g 238 119 rfl
  have b10 := gi_b (lo := 0) (hi := 9999) g 238 67 rfl
  have b11 := gi_b (lo := 0) (hi := 9) g 238 69 rfl
  have b12 := gi_b (lo := 0) (hi := 9) g 238 5 rfl
  refine wi_aload_n (i := 0) (x := 236) (nx := 1) (r1 := 0) (r2 := 0) (r3 := 0) rfl rfl ?_
  refine wr_V (k0 := 236) (rest := []) (as := [.ref 236]) (nx := 4) (r1 := 214) (r2 := 0) (r3 := 11) rfl rfl rfl (of_decide_eq_true rfl) rfl rfl (by decide) rfl rfl (of_decide_eq_true rfl) (of_decide_eq_true rfl) ?_
  refine ct_214_236 hcr  g    (fun h13 g13 u13 (p13_0 : (h13 236 8) = 0) (p13_1 : (h13 236 4) ≤ (h13 236 3)) (p13_2 : (h13 236 2) = 0) => ?_)
  have F14 := F0.then (by decide +kernel) u13
  have b15 := gi_b (lo := 0) (hi := 5) g13 236 8 rfl
  have b16 := gi_b (lo := 0) (hi := 800) g13 236 4 rfl
  have b17 := gi_b (lo := 0) (hi := 800) g13 236 3 rfl
  have b18 := gi_b (lo := 0) (hi := 800) g13 236 2 rfl
  refine wk_n ?_
  refine wi_aload_n (i := 0) (x := 236) (nx := 5) (r1 := 0) (r2 := 0) (r3 := 0) rfl rfl ?_
  refine wi_iconst (n := 0) (nx := 6) (r1 := 0) (r2 := 0) (r3 := 0) rfl ?_
  refine wr_pf0 (k0 := 236) (x := 0) (bl := 0) (bh := 80) (nx := 9) (r1 := 11) (r2 := 42) (r3 := 0) rfl (by decide) rfl ⟨rfl, rfl⟩ rfl rfl g13 rfl (by omega) (fun h19 g19 w19 u19 => ?_)
  have F20 := F14.then rfl u19
  refine wi_aload_n (i := 0) (x := 236) (nx := 10) (r1 := 0) (r2 := 0) (r3 := 0) rfl rfl ?_
  refine wi_iconst (n := 0) (nx := 11) (r1 := 0) (r2 := 0) (r3 := 0) rfl ?_
  refine wr_pf0 (k0 := 236) (x := 0) (bl := 0) (bh := 40) (nx := 14) (r1 := 11) (r2 := 43) (r3 := 0) rfl (by decide) rfl ⟨rfl, rfl⟩ rfl rfl g19 rfl (by omega) (fun h21 g21 w21 u21 => ?_)
  have F22 := F20.then rfl u21
  refine wi_aload_n (i := 0) (x := 236) (nx := 15) (r1 := 0) (r2 := 0) (r3 := 0) rfl rfl ?_
  refine wi_iconst (n := 0) (nx := 16) (r1 := 0) (r2 := 0) (r3 := 0) rfl ?_
  refine wr_pf0 (k0 := 236) (x := 0) (bl := 0) (bh := 2) (nx := 19) (r1 := 11) (r2 := 44) (r3 := 0) rfl (by decide) rfl ⟨rfl, rfl⟩ rfl rfl g21 rfl (by omega) (fun h23 g23 w23 u23 => ?_)
  have F24 := F22.then rfl u23
  refine wi_aload_n (i := 0) (x := 236) (nx := 20) (r1 := 0) (r2 := 0) (r3 := 0) rfl rfl ?_
  refine wr_V (k0 := 236) (rest := []) (as := [.ref 236]) (nx := 23) (r1 := 219) (r2 := 0) (r3 := 11) rfl rfl rfl (of_decide_eq_true rfl) rfl rfl (by decide) rfl rfl (of_decide_eq_true rfl) (of_decide_eq_true rfl) ?_
  refine wi_aload_n (i := 0) (x := 236) (nx := 1) (r1 := 0) (r2 := 0) (r3 := 0) rfl rfl ?_
  refine wr_gi0 (k0 := 236) (x := h13 236 8) (nx := 4) (r1 := 11) (r2 := 8) (r3 := 0) rfl rfl (by decide) rfl ⟨rfl, rfl⟩ rfl ((u23 236 8 rfl).trans ((u21 236 8 rfl).trans (u19 236 8 rfl))) ?_
  refine wi_if (cd := .ne) (nx := 7) (r1 := 11) (r2 := 0) (r3 := 0) rfl (by omega) (fun (q25 : (h13 236 8) ≠ 0) => by exfalso; omega) (fun (q25 : ¬ ((h13 236 8) ≠ 0)) => ?_)
  refine wi_iconst (n := 1) (nx := 8) (r1 := 0) (r2 := 0) (r3 := 0) rfl ?_
  refine wi_goto (nx := 11) (r1 := 12) (r2 := 0) (r3 := 0) rfl ?_
  refine wi_zreturn (nx := 13) (r1 := 0) (r2 := 0) (r3 := 0) rfl rfl (by omega) ?_
  refine wk_i ?_
  refine wi_if (cd := .eq) (nx := 26) (r1 := 63) (r2 := 0) (r3 := 0) rfl (by omega) (fun (q26 : 1 = 0) => by exfalso; omega) (fun (q26 : ¬ (1 = 0)) => ?_)
  refine wi_aload_n (i := 0) (x := 236) (nx := 27) (r1 := 0) (r2 := 0) (r3 := 0) rfl rfl ?_
  have b27 := gi_b (lo := 0) (hi := 4) g13 236 6 rfl
  refine wr_gi0 (k0 := 236) (x := h13 236 6) (nx := 30) (r1 := 11) (r2 := 6) (r3 := 0) rfl rfl (by decide) rfl ⟨rfl, rfl⟩ rfl ((u23 236 6 rfl).trans ((u21 236 6 rfl).trans (u19 236 6 rfl))) ?_
  refine wi_if (cd := .eq) (nx := 33) (r1 := 63) (r2 := 0) (r3 := 0) rfl (by omega) (fun (q28 : (h13 236 6) = 0) => ?_) (fun (q28 : ¬ ((h13 236 6) = 0)) => ?_)
  ·
    refine wi_aload_n (i := 0) (x := 236) (nx := 64) (r1 := 0) (r2 := 0) (r3 := 0) rfl rfl ?_
    refine wr_V (k0 := 236) (rest := []) (as := [.ref 236]) (nx := 67) (r1 := 219) (r2 := 0) (r3 := 11) rfl rfl rfl (of_decide_eq_true rfl) rfl rfl (by decide) rfl rfl (of_decide_eq_true rfl) (of_decide_eq_true rfl) ?_
    refine wi_aload_n (i := 0) (x := 236) (nx := 1) (r1 := 0) (r2 := 0) (r3 := 0) rfl rfl ?_
    refine wr_gi0 (k0 := 236) (x := h13 236 8) (nx := 4) (r1 := 11) (r2 := 8) (r3 := 0) rfl rfl (by decide) rfl ⟨rfl, rfl⟩ rfl ((u23 236 8 rfl).trans ((u21 236 8 rfl).trans (u19 236 8 rfl))) ?_
    refine wi_if (cd := .ne) (nx := 7) (r1 := 11) (r2 := 0) (r3 := 0) rfl (by omega) (fun (q29 : (h13 236 8) ≠ 0) => by exfalso; omega) (fun (q29 : ¬ ((h13 236 8) ≠ 0)) => ?_)
    refine wi_iconst (n := 1) (nx := 8) (r1 := 0) (r2 := 0) (r3 := 0) rfl ?_
    refine wi_goto (nx := 11) (r1 := 12) (r2 := 0) (r3 := 0) rfl ?_
    refine wi_zreturn (nx := 13) (r1 := 0) (r2 := 0) (r3 := 0) rfl rfl (by omega) ?_
    refine wk_i ?_
    refine wi_if (cd := .eq) (nx := 70) (r1 := 82) (r2 := 0) (r3 := 0) rfl (by omega) (fun (q30 : 1 = 0) => by exfalso; omega) (fun (q30 : ¬ (1 = 0)) => ?_)
    refine wi_aload_n (i := 0) (x := 236) (nx := 71) (r1 := 0) (r2 := 0) (r3 := 0) rfl rfl ?_
    refine wr_gi0 (k0 := 236) (x := 0) (nx := 74) (r1 := 11) (r2 := 44) (r3 := 0) rfl rfl (by decide) rfl ⟨rfl, rfl⟩ rfl w23 ?_
    refine wi_if (cd := .le) (nx := 77) (r1 := 82) (r2 := 0) (r3 := 0) rfl (by omega) (fun (q31 : 0 ≤ 0) => ?_) (fun (q31 : ¬ (0 ≤ 0)) => by exfalso; omega)
    refine wi_aload_n (i := 0) (x := 236) (nx := 83) (r1 := 0) (r2 := 0) (r3 := 0) rfl rfl ?_
    refine wr_V (k0 := 236) (rest := []) (as := [.ref 236]) (nx := 86) (r1 := 237) (r2 := 0) (r3 := 11) rfl rfl rfl (of_decide_eq_true rfl) rfl rfl (by decide) rfl rfl (of_decide_eq_true rfl) (of_decide_eq_true rfl) ?_
    refine wi_aload_n (i := 0) (x := 236) (nx := 1) (r1 := 0) (r2 := 0) (r3 := 0) rfl rfl ?_
    refine wi_aload_n (i := 0) (x := 236) (nx := 2) (r1 := 0) (r2 := 0) (r3 := 0) rfl rfl ?_
    refine wr_gi0 (k0 := 236) (x := h13 236 8) (nx := 5) (r1 := 11) (r2 := 8) (r3 := 0) rfl rfl (by decide) rfl ⟨rfl, rfl⟩ rfl ((u23 236 8 rfl).trans ((u21 236 8 rfl).trans (u19 236 8 rfl))) ?_
    refine wr_pf0 (k0 := 236) (x := h13 236 8) (bl := -2147483648) (bh := 2147483647) (nx := 8) (r1 := 11) (r2 := 10) (r3 := 0) rfl (by decide) rfl ⟨rfl, rfl⟩ rfl rfl g23 rfl (by omega) (fun h32 g32 w32 u32 => ?_)
    have F33 := F24.then rfl u32
    refine wi_aload_n (i := 0) (x := 236) (nx := 9) (r1 := 0) (r2 := 0) (r3 := 0) rfl rfl ?_
    refine wi_aload_n (i := 0) (x := 236) (nx := 10) (r1 := 0) (r2 := 0) (r3 := 0) rfl rfl ?_
    have b34 := gi_b (lo := -2147483648) (hi := 2147483647) g13 236 9 rfl
    refine wr_gi0 (k0 := 236) (x := h13 236 9) (nx := 13) (r1 := 11) (r2 := 9) (r3 := 0) rfl rfl (by decide) rfl ⟨rfl, rfl⟩ rfl ((u32 236 9 rfl).trans ((u23 236 9 rfl).trans ((u21 236 9 rfl).trans (u19 236 9 rfl)))) ?_
    refine wr_pf0 (k0 := 236) (x := h13 236 9) (bl := -2147483648) (bh := 2147483647) (nx := 16) (r1 := 11) (r2 := 11) (r3 := 0) rfl (by decide) rfl ⟨rfl, rfl⟩ rfl rfl g32 rfl (by omega) (fun h35 g35 w35 u35 => ?_)
    have F36 := F33.then rfl u35
    refine wi_aload_n (i := 0) (x := 236) (nx := 17) (r1 := 0) (r2 := 0) (r3 := 0) rfl rfl ?_
    refine wi_aload_n (i := 0) (x := 236) (nx := 18) (r1 := 0) (r2 := 0) (r3 := 0) rfl rfl ?_
    refine wr_gi0 (k0 := 236) (x := h13 236 8) (nx := 21) (r1 := 11) (r2 := 8) (r3 := 0) rfl rfl (by decide) rfl ⟨rfl, rfl⟩ rfl ((u35 236 8 rfl).trans ((u32 236 8 rfl).trans ((u23 236 8 rfl).trans ((u21 236 8 rfl).trans (u19 236 8 rfl))))) ?_
    refine wi_if (cd := .ne) (nx := 24) (r1 := 28) (r2 := 0) (r3 := 0) rfl (by omega) (fun (q37 : (h13 236 8) ≠ 0) => by exfalso; omega) (fun (q37 : ¬ ((h13 236 8) ≠ 0)) => ?_)
    refine wi_iconst (n := 1) (nx := 25) (r1 := 0) (r2 := 0) (r3 := 0) rfl ?_
    refine wi_goto (nx := 28) (r1 := 29) (r2 := 0) (r3 := 0) rfl ?_
    refine wr_V (k0 := 236) (rest := []) (as := [.ref 236, vi 1]) (nx := 32) (r1 := 206) (r2 := 1) (r3 := 11) rfl rfl rfl (of_decide_eq_true rfl) rfl rfl (by decide) rfl rfl (of_decide_eq_true rfl) (of_decide_eq_true rfl) ?_
    refine wi_aload_n (i := 0) (x := 236) (nx := 1) (r1 := 0) (r2 := 0) (r3 := 0) rfl rfl ?_
    refine wi_iload_n (i := 1) (e := 1) (nx := 2) (r1 := 0) (r2 := 0) (r3 := 0) rfl rfl ?_
    refine wi_if (cd := .ne) (nx := 5) (r1 := 9) (r2 := 0) (r3 := 0) rfl (by omega) (fun (q38 : 1 ≠ 0) => ?_) (fun (q38 : ¬ (1 ≠ 0)) => by exfalso; omega)
    refine wi_iconst (n := 0) (nx := 10) (r1 := 0) (r2 := 0) (r3 := 0) rfl ?_
    refine wi_S (rest := [.ref 236]) (as := [vi 0]) (nx := 13) (r1 := 207) (r2 := 17) (r3 := 0) rfl rfl rfl (of_decide_eq_true rfl) rfl rfl (of_decide_eq_true rfl) (of_decide_eq_true rfl) ?_
    refine wi_iload_n (i := 0) (e := 0) (nx := 1) (r1 := 0) (r2 := 0) (r3 := 0) rfl rfl ?_
    refine wi_if (cd := .eq) (nx := 4) (r1 := 8) (r2 := 0) (r3 := 0) rfl (by omega) (fun (q39 : 0 = 0) => ?_) (fun (q39 : ¬ (0 = 0)) => by exfalso; omega)
    refine wi_iconst (n := 0) (nx := 9) (r1 := 0) (r2 := 0) (r3 := 0) rfl ?_
    refine wi_ireturn (nx := 10) (r1 := 0) (r2 := 0) (r3 := 0) rfl rfl ?_
    refine wk_i ?_
    refine wr_pf0 (k0 := 236) (x := 0) (bl := 0) (bh := 2) (nx := 16) (r1 := 11) (r2 := 0) (r3 := 0) rfl (by decide) rfl ⟨rfl, rfl⟩ rfl rfl g35 rfl (by omega) (fun h40 g40 w40 u40 => ?_)
    have F41 := F36.then rfl u40
    refine wi_iload_n (i := 1) (e := 1) (nx := 17) (r1 := 0) (r2 := 0) (r3 := 0) rfl rfl ?_
    refine wi_zreturn (nx := 18) (r1 := 0) (r2 := 0) (r3 := 0) rfl rfl (by omega) ?_
    refine wk_i ?_
    refine wi_zreturn (nx := 33) (r1 := 0) (r2 := 0) (r3 := 0) rfl rfl (by omega) ?_
    refine wk_i ?_
    refine wi_if (cd := .ne) (nx := 89) (r1 := 91) (r2 := 0) (r3 := 0) rfl (by omega) (fun (q42 : 1 ≠ 0) => ?_) (fun (q42 : ¬ (1 ≠ 0)) => by exfalso; omega)
    refine wi_aload_n (i := 0) (x := 236) (nx := 92) (r1 := 0) (r2 := 0) (r3 := 0) rfl rfl ?_
    refine wr_gr (k0 := 236) (x := 238) (nx := 95) (r1 := 11) (r2 := 13) (r3 := 0) rfl rfl (by decide) rfl ⟨rfl, rfl⟩ rfl ?_
    refine wi_aload_n (i := 0) (x := 236) (nx := 96) (r1 := 0) (r2 := 0) (r3 := 0) rfl rfl ?_
    refine wr_gr (k0 := 236) (x := 257) (nx := 99) (r1 := 11) (r2 := 41) (r3 := 0) rfl rfl (by decide) rfl ⟨rfl, rfl⟩ rfl ?_
    refine wi_S (rest := []) (as := [.ref 238, .ref 257]) (nx := 102) (r1 := 238) (r2 := 18) (r3 := 0) rfl rfl rfl (of_decide_eq_true rfl) rfl rfl (of_decide_eq_true rfl) (of_decide_eq_true rfl) ?_
    refine ct_238_238_257 hcr  g40    (fun h43 g43 u43 y43_0 => ?_)
    have F44 := F41.then (by decide +kernel) u43
    refine wk_n ?_
    refine wi_aload_n (i := 0) (x := 236) (nx := 103) (r1 := 0) (r2 := 0) (r3 := 0) rfl rfl ?_
    refine wi_iconst (n := 0) (nx := 104) (r1 := 0) (r2 := 0) (r3 := 0) rfl ?_
    refine wr_pf2 (k0 := 236) (x := 0) (bl := 0) (bh := 1) (nx := 107) (r1 := 11) (r2 := 45) (r3 := 2) rfl (by decide) rfl ⟨rfl, rfl⟩ rfl (by omega) rfl g43 rfl (by omega) (fun h45 g45 w45 u45 => ?_)
    have F46 := F44.then rfl u45
    refine wi_aload_n (i := 0) (x := 236) (nx := 108) (r1 := 0) (r2 := 0) (r3 := 0) rfl rfl ?_
    refine wr_V (k0 := 236) (rest := []) (as := [.ref 236]) (nx := 111) (r1 := 339) (r2 := 0) (r3 := 11) rfl rfl rfl (of_decide_eq_true rfl) rfl rfl (by decide) rfl rfl (of_decide_eq_true rfl) (of_decide_eq_true rfl) ?_
    have e48 : h45 238 98 = h 238 98 := ((u45 238 98 rfl).trans ((u43 238 98 rfl).trans ((u40 238 98 rfl).trans ((u35 238 98 rfl).trans ((u32 238 98 rfl).trans ((u23 238 98 rfl).trans ((u21 238 98 rfl).trans ((u19 238 98 rfl).trans (u13 238 98 rfl)))))))))
    have e49 : h45 238 99 = h 238 99 := ((u45 238 99 rfl).trans ((u43 238 99 rfl).trans ((u40 238 99 rfl).trans ((u35 238 99 rfl).trans ((u32 238 99 rfl).trans ((u23 238 99 rfl).trans ((u21 238 99 rfl).trans ((u19 238 99 rfl).trans (u13 238 99 rfl)))))))))
    have e50 : h45 238 100 = h 238 100 := ((u45 238 100 rfl).trans ((u43 238 100 rfl).trans ((u40 238 100 rfl).trans ((u35 238 100 rfl).trans ((u32 238 100 rfl).trans ((u23 238 100 rfl).trans ((u21 238 100 rfl).trans ((u19 238 100 rfl).trans (u13 238 100 rfl)))))))))
    have e51 : h45 238 101 = h 238 101 := ((u45 238 101 rfl).trans ((u43 238 101 rfl).trans ((u40 238 101 rfl).trans ((u35 238 101 rfl).trans ((u32 238 101 rfl).trans ((u23 238 101 rfl).trans ((u21 238 101 rfl).trans ((u19 238 101 rfl).trans (u13 238 101 rfl)))))))))
    have e52 : h45 238 102 = h 238 102 := ((u45 238 102 rfl).trans ((u43 238 102 rfl).trans ((u40 238 102 rfl).trans ((u35 238 102 rfl).trans ((u32 238 102 rfl).trans ((u23 238 102 rfl).trans ((u21 238 102 rfl).trans ((u19 238 102 rfl).trans (u13 238 102 rfl)))))))))
    have e53 : h45 238 106 = h 238 106 := ((u45 238 106 rfl).trans ((u43 238 106 rfl).trans ((u40 238 106 rfl).trans ((u35 238 106 rfl).trans ((u32 238 106 rfl).trans ((u23 238 106 rfl).trans ((u21 238 106 rfl).trans ((u19 238 106 rfl).trans (u13 238 106 rfl)))))))))
    have e54 : h45 238 73 = h 238 73 := ((u45 238 73 rfl).trans ((u43 238 73 rfl).trans ((u40 238 73 rfl).trans ((u35 238 73 rfl).trans ((u32 238 73 rfl).trans ((u23 238 73 rfl).trans ((u21 238 73 rfl).trans ((u19 238 73 rfl).trans (u13 238 73 rfl)))))))))
    have e55 : h45 238 2 = h 238 2 := ((u45 238 2 rfl).trans ((u43 238 2 rfl).trans ((u40 238 2 rfl).trans ((u35 238 2 rfl).trans ((u32 238 2 rfl).trans ((u23 238 2 rfl).trans ((u21 238 2 rfl).trans ((u19 238 2 rfl).trans (u13 238 2 rfl)))))))))
    have e56 : h45 238 119 = h 238 119 := ((u45 238 119 rfl).trans ((u43 238 119 rfl).trans ((u40 238 119 rfl).trans ((u35 238 119 rfl).trans ((u32 238 119 rfl).trans ((u23 238 119 rfl).trans ((u21 238 119 rfl).trans ((u19 238 119 rfl).trans (u13 238 119 rfl)))))))))
    have e57 : h45 238 67 = h 238 67 := ((u45 238 67 rfl).trans ((u43 238 67 rfl).trans ((u40 238 67 rfl).trans ((u35 238 67 rfl).trans ((u32 238 67 rfl).trans ((u23 238 67 rfl).trans ((u21 238 67 rfl).trans ((u19 238 67 rfl).trans (u13 238 67 rfl)))))))))
    have e58 : h45 238 69 = h 238 69 := ((u45 238 69 rfl).trans ((u43 238 69 rfl).trans ((u40 238 69 rfl).trans ((u35 238 69 rfl).trans ((u32 238 69 rfl).trans ((u23 238 69 rfl).trans ((u21 238 69 rfl).trans ((u19 238 69 rfl).trans (u13 238 69 rfl)))))))))
    have e59 : h45 238 5 = h 238 5 := ((u45 238 5 rfl).trans ((u43 238 5 rfl).trans ((u40 238 5 rfl).trans ((u35 238 5 rfl).trans ((u32 238 5 rfl).trans ((u23 238 5 rfl).trans ((u21 238 5 rfl).trans ((u19 238 5 rfl).trans (u13 238 5 rfl)))))))))
    have e61 : h45 236 42 = 0 := ((u45 236 42 rfl).trans ((u43 236 42 rfl).trans ((u40 236 42 rfl).trans ((u35 236 42 rfl).trans ((u32 236 42 rfl).trans ((u23 236 42 rfl).trans ((u21 236 42 rfl).trans w19)))))))
    have e62 : h45 236 44 = 0 := ((u45 236 44 rfl).trans ((u43 236 44 rfl).trans ((u40 236 44 rfl).trans ((u35 236 44 rfl).trans ((u32 236 44 rfl).trans w23)))))
    have e63 : h45 236 8 = h13 236 8 := ((u45 236 8 rfl).trans ((u43 236 8 rfl).trans ((u40 236 8 rfl).trans ((u35 236 8 rfl).trans ((u32 236 8 rfl).trans ((u23 236 8 rfl).trans ((u21 236 8 rfl).trans (u19 236 8 rfl))))))))
    refine ct_339_236 hcr  g45   (show (h45 238 98) + (h45 238 99) + (h45 238 100) + (h45 238 101) + (h45 238 102) + (h45 238 106) = (h45 238 73) by omega) (show (h45 238 73) ≤ (h45 238 2) by omega) (show (h45 238 119) ≤ (h45 238 67) by omega) (show (h45 238 69) ≤ (h45 238 5) by omega) (show (h45 238 2) ≤ 12 * (h45 238 5) by omega) (by rw [show h45 236 42 = 0 by omega, show h45 236 44 = 0 by omega]; exact WP.zero) (fun h47 z60 g47 u47 (fz60 : 0 ≤ z60 ∧ z60 ≤ 100) (p47_0 : (h47 238 98) + (h47 238 99) + (h47 238 100) + (h47 238 101) + (h47 238 102) + (h47 238 106) = (h47 238 73)) (p47_1 : (h47 238 73) ≤ (h47 238 2)) (p47_2 : (h47 238 119) ≤ (h47 238 67)) (p47_3 : (h47 238 69) ≤ (h47 238 5)) (p47_4 : (h47 238 2) ≤ 12 * (h47 238 5)) => ?_)
    have F64 := F46.then (by decide +kernel) u47
    have b65 := gi_b (lo := 0) (hi := 6) g47 238 98 rfl
    have b66 := gi_b (lo := 0) (hi := 6) g47 238 99 rfl
    have b67 := gi_b (lo := 0) (hi := 6) g47 238 100 rfl
    have b68 := gi_b (lo := 0) (hi := 6) g47 238 101 rfl
    have b69 := gi_b (lo := 0) (hi := 3) g47 238 102 rfl
    have b70 := gi_b (lo := 0) (hi := 12) g47 238 106 rfl
    have b71 := gi_b (lo := 0) (hi := 12) g47 238 73 rfl
    have e72 : h47 238 2 = h 238 2 := ((u47 238 2 rfl).trans ((u45 238 2 rfl).trans ((u43 238 2 rfl).trans ((u40 238 2 rfl).trans ((u35 238 2 rfl).trans ((u32 238 2 rfl).trans ((u23 238 2 rfl).trans ((u21 238 2 rfl).trans ((u19 238 2 rfl).trans (u13 238 2 rfl))))))))))
    have b73 := gi_b (lo := 0) (hi := 9999) g47 238 119 rfl
    have b74 := gi_b (lo := 0) (hi := 9999) g47 238 67 rfl
    have b75 := gi_b (lo := 0) (hi := 9) g47 238 69 rfl
    have e76 : h47 238 5 = h 238 5 := ((u47 238 5 rfl).trans ((u45 238 5 rfl).trans ((u43 238 5 rfl).trans ((u40 238 5 rfl).trans ((u35 238 5 rfl).trans ((u32 238 5 rfl).trans ((u23 238 5 rfl).trans ((u21 238 5 rfl).trans ((u19 238 5 rfl).trans (u13 238 5 rfl))))))))))
    refine wk_i ?_
    refine wi_istore_n (i := 1) (e := z60) (lo2 := [(1, vi z60), (0, .ref 236)]) (nx := 112) (r1 := 0) (r2 := 0) (r3 := 0) rfl rfl ?_
    refine wi_aload_n (i := 0) (x := 236) (nx := 113) (r1 := 0) (r2 := 0) (r3 := 0) rfl rfl ?_
    have b77 := gi_b (lo := 0) (hi := 1) g47 236 45 rfl
    refine wr_gi2 (k0 := 236) (x := h47 236 45) (nx := 116) (r1 := 11) (r2 := 45) (r3 := 0) rfl rfl (by decide) rfl ⟨rfl, rfl⟩ rfl rfl ?_
    refine wi_if (cd := .ne) (nx := 119) (r1 := 121) (r2 := 0) (r3 := 0) rfl (by omega) (fun (q78 : (h47 236 45) ≠ 0) => ?_) (fun (q78 : ¬ ((h47 236 45) ≠ 0)) => ?_)
    ·
      refine wi_aload_n (i := 0) (x := 236) (nx := 122) (r1 := 0) (r2 := 0) (r3 := 0) rfl rfl ?_
      refine wr_gr (k0 := 236) (x := 257) (nx := 125) (r1 := 11) (r2 := 41) (r3 := 0) rfl rfl (by decide) rfl ⟨rfl, rfl⟩ rfl ?_
      refine wi_aload_n (i := 0) (x := 236) (nx := 126) (r1 := 0) (r2 := 0) (r3 := 0) rfl rfl ?_
      refine wr_gr (k0 := 236) (x := 240) (nx := 129) (r1 := 11) (r2 := 15) (r3 := 0) rfl rfl (by decide) rfl ⟨rfl, rfl⟩ rfl ?_
      refine wi_S (rest := []) (as := [.ref 257, .ref 240]) (nx := 132) (r1 := 238) (r2 := 18) (r3 := 0) rfl rfl rfl (of_decide_eq_true rfl) rfl rfl (of_decide_eq_true rfl) (of_decide_eq_true rfl) ?_
      refine ct_238_257_240 hcr  g47    (fun h79 g79 u79 y79_0 => ?_)
      have F80 := F64.then (by decide +kernel) u79
      refine wk_n ?_
      refine wi_aload_n (i := 0) (x := 236) (nx := 133) (r1 := 0) (r2 := 0) (r3 := 0) rfl rfl ?_
      refine wr_V (k0 := 236) (rest := []) (as := [.ref 236]) (nx := 136) (r1 := 315) (r2 := 0) (r3 := 11) rfl rfl rfl (of_decide_eq_true rfl) rfl rfl (by decide) rfl rfl (of_decide_eq_true rfl) (of_decide_eq_true rfl) ?_
      have e82 : h79 238 98 = h47 238 98 := (u79 238 98 rfl)
      have e83 : h79 238 99 = h47 238 99 := (u79 238 99 rfl)
      have e84 : h79 238 100 = h47 238 100 := (u79 238 100 rfl)
      have e85 : h79 238 101 = h47 238 101 := (u79 238 101 rfl)
      have e86 : h79 238 102 = h47 238 102 := (u79 238 102 rfl)
      have e87 : h79 238 106 = h47 238 106 := (u79 238 106 rfl)
      have e88 : h79 238 73 = h47 238 73 := (u79 238 73 rfl)
      have e89 : h79 238 2 = h 238 2 := ((u79 238 2 rfl).trans ((u47 238 2 rfl).trans ((u45 238 2 rfl).trans ((u43 238 2 rfl).trans ((u40 238 2 rfl).trans ((u35 238 2 rfl).trans ((u32 238 2 rfl).trans ((u23 238 2 rfl).trans ((u21 238 2 rfl).trans ((u19 238 2 rfl).trans (u13 238 2 rfl)))))))))))
      have e90 : h79 238 119 = h47 238 119 := (u79 238 119 rfl)
      have e91 : h79 238 67 = h47 238 67 := (u79 238 67 rfl)
      have e92 : h79 238 69 = h47 238 69 := (u79 238 69 rfl)
      have e93 : h79 238 5 = h 238 5 := ((u79 238 5 rfl).trans ((u47 238 5 rfl).trans ((u45 238 5 rfl).trans ((u43 238 5 rfl).trans ((u40 238 5 rfl).trans ((u35 238 5 rfl).trans ((u32 238 5 rfl).trans ((u23 238 5 rfl).trans ((u21 238 5 rfl).trans ((u19 238 5 rfl).trans (u13 238 5 rfl)))))))))))
      have e94 : h79 240 98 = h 238 98 := ((y79_0 98 (by decide)).trans ((u47 257 98 rfl).trans ((u45 257 98 rfl).trans ((y43_0 98 (by decide)).trans ((u40 238 98 rfl).trans ((u35 238 98 rfl).trans ((u32 238 98 rfl).trans ((u23 238 98 rfl).trans ((u21 238 98 rfl).trans ((u19 238 98 rfl).trans (u13 238 98 rfl)))))))))))
      have e95 : h79 240 99 = h 238 99 := ((y79_0 99 (by decide)).trans ((u47 257 99 rfl).trans ((u45 257 99 rfl).trans ((y43_0 99 (by decide)).trans ((u40 238 99 rfl).trans ((u35 238 99 rfl).trans ((u32 238 99 rfl).trans ((u23 238 99 rfl).trans ((u21 238 99 rfl).trans ((u19 238 99 rfl).trans (u13 238 99 rfl)))))))))))
      have e96 : h79 240 100 = h 238 100 := ((y79_0 100 (by decide)).trans ((u47 257 100 rfl).trans ((u45 257 100 rfl).trans ((y43_0 100 (by decide)).trans ((u40 238 100 rfl).trans ((u35 238 100 rfl).trans ((u32 238 100 rfl).trans ((u23 238 100 rfl).trans ((u21 238 100 rfl).trans ((u19 238 100 rfl).trans (u13 238 100 rfl)))))))))))
      have e97 : h79 240 101 = h 238 101 := ((y79_0 101 (by decide)).trans ((u47 257 101 rfl).trans ((u45 257 101 rfl).trans ((y43_0 101 (by decide)).trans ((u40 238 101 rfl).trans ((u35 238 101 rfl).trans ((u32 238 101 rfl).trans ((u23 238 101 rfl).trans ((u21 238 101 rfl).trans ((u19 238 101 rfl).trans (u13 238 101 rfl)))))))))))
      have e98 : h79 240 102 = h 238 102 := ((y79_0 102 (by decide)).trans ((u47 257 102 rfl).trans ((u45 257 102 rfl).trans ((y43_0 102 (by decide)).trans ((u40 238 102 rfl).trans ((u35 238 102 rfl).trans ((u32 238 102 rfl).trans ((u23 238 102 rfl).trans ((u21 238 102 rfl).trans ((u19 238 102 rfl).trans (u13 238 102 rfl)))))))))))
      have e99 : h79 240 106 = h 238 106 := ((y79_0 106 (by decide)).trans ((u47 257 106 rfl).trans ((u45 257 106 rfl).trans ((y43_0 106 (by decide)).trans ((u40 238 106 rfl).trans ((u35 238 106 rfl).trans ((u32 238 106 rfl).trans ((u23 238 106 rfl).trans ((u21 238 106 rfl).trans ((u19 238 106 rfl).trans (u13 238 106 rfl)))))))))))
      have e100 : h79 240 73 = h 238 73 := ((y79_0 73 (by decide)).trans ((u47 257 73 rfl).trans ((u45 257 73 rfl).trans ((y43_0 73 (by decide)).trans ((u40 238 73 rfl).trans ((u35 238 73 rfl).trans ((u32 238 73 rfl).trans ((u23 238 73 rfl).trans ((u21 238 73 rfl).trans ((u19 238 73 rfl).trans (u13 238 73 rfl)))))))))))
      have e101 : h79 240 2 = h 238 2 := ((y79_0 2 (by decide)).trans ((u47 257 2 rfl).trans ((u45 257 2 rfl).trans ((y43_0 2 (by decide)).trans ((u40 238 2 rfl).trans ((u35 238 2 rfl).trans ((u32 238 2 rfl).trans ((u23 238 2 rfl).trans ((u21 238 2 rfl).trans ((u19 238 2 rfl).trans (u13 238 2 rfl)))))))))))
      have e102 : h79 240 119 = h 238 119 := ((y79_0 119 (by decide)).trans ((u47 257 119 rfl).trans ((u45 257 119 rfl).trans ((y43_0 119 (by decide)).trans ((u40 238 119 rfl).trans ((u35 238 119 rfl).trans ((u32 238 119 rfl).trans ((u23 238 119 rfl).trans ((u21 238 119 rfl).trans ((u19 238 119 rfl).trans (u13 238 119 rfl)))))))))))
      have e103 : h79 240 67 = h 238 67 := ((y79_0 67 (by decide)).trans ((u47 257 67 rfl).trans ((u45 257 67 rfl).trans ((y43_0 67 (by decide)).trans ((u40 238 67 rfl).trans ((u35 238 67 rfl).trans ((u32 238 67 rfl).trans ((u23 238 67 rfl).trans ((u21 238 67 rfl).trans ((u19 238 67 rfl).trans (u13 238 67 rfl)))))))))))
      have e104 : h79 240 69 = h 238 69 := ((y79_0 69 (by decide)).trans ((u47 257 69 rfl).trans ((u45 257 69 rfl).trans ((y43_0 69 (by decide)).trans ((u40 238 69 rfl).trans ((u35 238 69 rfl).trans ((u32 238 69 rfl).trans ((u23 238 69 rfl).trans ((u21 238 69 rfl).trans ((u19 238 69 rfl).trans (u13 238 69 rfl)))))))))))
      have e105 : h79 240 5 = h 238 5 := ((y79_0 5 (by decide)).trans ((u47 257 5 rfl).trans ((u45 257 5 rfl).trans ((y43_0 5 (by decide)).trans ((u40 238 5 rfl).trans ((u35 238 5 rfl).trans ((u32 238 5 rfl).trans ((u23 238 5 rfl).trans ((u21 238 5 rfl).trans ((u19 238 5 rfl).trans (u13 238 5 rfl)))))))))))
      have gp106 := GPH.fr u13 rfl gp0
      have gp107 := GPH.fr u19 rfl gp106
      have gp108 := GPH.fr u21 rfl gp107
      have gp109 := GPH.fr u23 rfl gp108
      have gp110 := GPH.fr u32 rfl gp109
      have gp111 := GPH.fr u35 rfl gp110
      have gp112 := GPH.fr u40 rfl gp111
      have gp113 := GPH.fr u43 rfl gp112
      have gp114 := GPH.fr u45 rfl gp113
      have gp115 := GPH.fr u47 rfl gp114
      have gp116 := GPH.fr u79 rfl gp115
      refine ct_315_236 hcr  g79   (show (h79 238 98) + (h79 238 99) + (h79 238 100) + (h79 238 101) + (h79 238 102) + (h79 238 106) = (h79 238 73) by omega) (show (h79 238 73) ≤ (h79 238 2) by omega) (show (h79 238 119) ≤ (h79 238 67) by omega) (show (h79 238 69) ≤ (h79 238 5) by omega) (show (h79 238 2) ≤ 12 * (h79 238 5) by omega) (show (h79 240 98) + (h79 240 99) + (h79 240 100) + (h79 240 101) + (h79 240 102) + (h79 240 106) = (h79 240 73) by omega) (show (h79 240 73) ≤ (h79 240 2) by omega) (show (h79 240 119) ≤ (h79 240 67) by omega) (show (h79 240 69) ≤ (h79 240 5) by omega) (show (h79 240 2) ≤ 12 * (h79 240 5) by omega) gp116 (fun h81 g81 u81 y81_0 => ?_)
      have F117 := F80.then (by decide +kernel) u81
      refine wk_n ?_
      refine wi_iload_n (i := 1) (e := z60) (nx := 137) (r1 := 0) (r2 := 0) (r3 := 0) rfl rfl ?_
      refine wi_ireturn (nx := 138) (r1 := 0) (r2 := 0) (r3 := 0) rfl rfl ?_
      have e118 : h81 238 98 = h47 238 98 := ((u81 238 98 rfl).trans (u79 238 98 rfl))
      have e119 : h81 238 99 = h47 238 99 := ((u81 238 99 rfl).trans (u79 238 99 rfl))
      have e120 : h81 238 100 = h47 238 100 := ((u81 238 100 rfl).trans (u79 238 100 rfl))
      have e121 : h81 238 101 = h47 238 101 := ((u81 238 101 rfl).trans (u79 238 101 rfl))
      have e122 : h81 238 102 = h47 238 102 := ((u81 238 102 rfl).trans (u79 238 102 rfl))
      have e123 : h81 238 106 = h47 238 106 := ((u81 238 106 rfl).trans (u79 238 106 rfl))
      have e124 : h81 238 73 = h47 238 73 := ((u81 238 73 rfl).trans (u79 238 73 rfl))
      have e125 : h81 238 2 = h 238 2 := ((u81 238 2 rfl).trans ((u79 238 2 rfl).trans ((u47 238 2 rfl).trans ((u45 238 2 rfl).trans ((u43 238 2 rfl).trans ((u40 238 2 rfl).trans ((u35 238 2 rfl).trans ((u32 238 2 rfl).trans ((u23 238 2 rfl).trans ((u21 238 2 rfl).trans ((u19 238 2 rfl).trans (u13 238 2 rfl))))))))))))
      have e126 : h81 238 119 = h47 238 119 := ((u81 238 119 rfl).trans (u79 238 119 rfl))
      have e127 : h81 238 67 = h47 238 67 := ((u81 238 67 rfl).trans (u79 238 67 rfl))
      have e128 : h81 238 69 = h47 238 69 := ((u81 238 69 rfl).trans (u79 238 69 rfl))
      have e129 : h81 238 5 = h 238 5 := ((u81 238 5 rfl).trans ((u79 238 5 rfl).trans ((u47 238 5 rfl).trans ((u45 238 5 rfl).trans ((u43 238 5 rfl).trans ((u40 238 5 rfl).trans ((u35 238 5 rfl).trans ((u32 238 5 rfl).trans ((u23 238 5 rfl).trans ((u21 238 5 rfl).trans ((u19 238 5 rfl).trans (u13 238 5 rfl))))))))))))
      have e130 : h81 236 2 = h13 236 2 := ((u81 236 2 rfl).trans ((u79 236 2 rfl).trans ((u47 236 2 rfl).trans ((u45 236 2 rfl).trans ((u43 236 2 rfl).trans ((u40 236 2 rfl).trans ((u35 236 2 rfl).trans ((u32 236 2 rfl).trans ((u23 236 2 rfl).trans ((u21 236 2 rfl).trans (u19 236 2 rfl)))))))))))
      exact k h81 z60 g81 F117 (by omega) (show (h81 238 98) + (h81 238 99) + (h81 238 100) + (h81 238 101) + (h81 238 102) + (h81 238 106) = (h81 238 73) by omega) (show (h81 238 73) ≤ (h81 238 2) by omega) (show (h81 238 119) ≤ (h81 238 67) by omega) (show (h81 238 69) ≤ (h81 238 5) by omega) (show (h81 238 2) ≤ 12 * (h81 238 5) by omega) (show (h81 236 2) = 0 by omega) y81_0
    ·
      refine wi_iload_n (i := 1) (e := z60) (nx := 120) (r1 := 0) (r2 := 0) (r3 := 0) rfl rfl ?_
      refine wi_ireturn (nx := 121) (r1 := 0) (r2 := 0) (r3 := 0) rfl rfl ?_
      have e79 : h47 236 2 = h13 236 2 := ((u47 236 2 rfl).trans ((u45 236 2 rfl).trans ((u43 236 2 rfl).trans ((u40 236 2 rfl).trans ((u35 236 2 rfl).trans ((u32 236 2 rfl).trans ((u23 236 2 rfl).trans ((u21 236 2 rfl).trans (u19 236 2 rfl)))))))))
      have gp80 := GPH.fr u13 rfl gp0
      have gp81 := GPH.fr u19 rfl gp80
      have gp82 := GPH.fr u21 rfl gp81
      have gp83 := GPH.fr u23 rfl gp82
      have gp84 := GPH.fr u32 rfl gp83
      have gp85 := GPH.fr u35 rfl gp84
      have gp86 := GPH.fr u40 rfl gp85
      have gp87 := GPH.fr u43 rfl gp86
      have gp88 := GPH.fr u45 rfl gp87
      have gp89 := GPH.fr u47 rfl gp88
      exact k h47 z60 g47 F64 (by omega) (show (h47 238 98) + (h47 238 99) + (h47 238 100) + (h47 238 101) + (h47 238 102) + (h47 238 106) = (h47 238 73) by omega) (show (h47 238 73) ≤ (h47 238 2) by omega) (show (h47 238 119) ≤ (h47 238 67) by omega) (show (h47 238 69) ≤ (h47 238 5) by omega) (show (h47 238 2) ≤ 12 * (h47 238 5) by omega) (show (h47 236 2) = 0 by omega) gp89
  ·
    have e30 : h23 236 42 = 0 := ((u23 236 42 rfl).trans ((u21 236 42 rfl).trans w19))
    have e31 : h23 236 44 = 0 := w23
    have e32 : h23 236 4 = h13 236 4 := ((u23 236 4 rfl).trans ((u21 236 4 rfl).trans (u19 236 4 rfl)))
    have e33 : h23 236 3 = h13 236 3 := ((u23 236 3 rfl).trans ((u21 236 3 rfl).trans (u19 236 3 rfl)))
    have e34 : h23 236 8 = h13 236 8 := ((u23 236 8 rfl).trans ((u21 236 8 rfl).trans (u19 236 8 rfl)))
    have e35 : h23 236 6 = h13 236 6 := ((u23 236 6 rfl).trans ((u21 236 6 rfl).trans (u19 236 6 rfl)))
    have e36 : h23 236 43 = 0 := ((u23 236 43 rfl).trans w21)
    refine wl_0 (fun h29 => GI h29 ∧ FR [(240, 240, none), (242, 242, none), (246, 246, none), (248, 248, none), (249, 249, none), (250, 250, none), (251, 251, none), (252, 252, none), (253, 253, none), (254, 254, none), (257, 257, none), (236, 236, some (0, 0)), (236, 236, some (2, 2)), (236, 236, some (3, 3)), (236, 236, some (4, 4)), (236, 236, some (5, 5)), (236, 236, some (6, 6)), (236, 236, some (7, 7)), (236, 236, some (8, 8)), (236, 236, some (9, 9)), (236, 236, some (10, 10)), (236, 236, some (11, 11)), (236, 236, some (12, 12)), (236, 236, some (22, 22)), (236, 236, some (28, 28)), (236, 236, some (32, 32)), (236, 236, some (42, 42)), (236, 236, some (43, 43)), (236, 236, some (44, 44)), (236, 236, some (45, 45)), (238, 238, some (31, 53)), (238, 238, some (43, 54)), (238, 238, some (55, 66)), (238, 238, some (67, 67)), (238, 238, some (68, 68)), (238, 238, some (69, 69)), (238, 238, some (70, 70)), (238, 238, some (71, 71)), (238, 238, some (72, 72)), (238, 238, some (73, 73)), (238, 238, some (74, 79)), (238, 238, some (80, 85)), (238, 238, some (86, 91)), (238, 238, some (92, 97)), (238, 238, some (98, 98)), (238, 238, some (99, 99)), (238, 238, some (100, 100)), (238, 238, some (101, 101)), (238, 238, some (102, 102)), (238, 238, some (103, 105)), (238, 238, some (106, 106)), (238, 238, some (107, 118)), (238, 238, some (119, 119)), (238, 238, some (120, 196)), (238, 238, some (121, 197)), (238, 238, some (122, 198)), (238, 238, some (123, 199)), (247, 247, some (0, 0)), (247, 247, some (1, 1)), (247, 247, some (2, 2)), (247, 247, some (3, 3)), (255, 255, some (0, 0)), (255, 255, some (1, 1)), (256, 256, some (0, 0)), (256, 256, some (1, 1))] h h29 ∧ FR [(253, 253, none), (254, 254, none), (236, 236, some (4, 4)), (236, 236, some (5, 5)), (236, 236, some (6, 6)), (236, 236, some (7, 7)), (236, 236, some (8, 8)), (236, 236, some (9, 9)), (236, 236, some (12, 12)), (236, 236, some (42, 42)), (236, 236, some (43, 43)), (236, 236, some (44, 44))] h23 h29 ∧ (((h29 236 4) ≤ (h29 236 3)) ∧ ((h29 236 8) = 0) ∧ ((h29 236 6) ≠ 0) ∧ ((h29 236 42) + (h29 236 44) ≤ 2 * (h29 236 43))) ∧ (WP (h29 253) (h29 236 42) (h29 236 44))) (fun h29 => ((h29 236 3) - (h29 236 4)).toNat) (fun h29 => (33, [(0, .ref 236)], [], hp_w h29 cr, b, c)) ?_ h23 ⟨g23, F24, FR.refl, (show ((h23 236 4) ≤ (h23 236 3)) ∧ ((h23 236 8) = 0) ∧ ((h23 236 6) ≠ 0) ∧ ((h23 236 42) + (h23 236 44) ≤ 2 * (h23 236 43)) by omega), (by rw [show h23 236 42 = 0 by omega, show h23 236 44 = 0 by omega]; exact WP.zero)⟩
    intro h29 ⟨g29, F37, u29, f29, X29_0⟩ I29
    have e38 : h29 236 3 = h13 236 3 := ((u29 236 3 rfl).trans ((u23 236 3 rfl).trans ((u21 236 3 rfl).trans (u19 236 3 rfl))))
    have b39 := gi_b (lo := 0) (hi := 800) g29 236 4 rfl
    have b40 := gi_b (lo := 0) (hi := 5) g29 236 8 rfl
    have b41 := gi_b (lo := 0) (hi := 4) g29 236 6 rfl
    have b42 := gi_b (lo := 0) (hi := 80) g29 236 42 rfl
    have b43 := gi_b (lo := 0) (hi := 2) g29 236 44 rfl
    have b44 := gi_b (lo := 0) (hi := 40) g29 236 43 rfl
    refine wi_aload_n (i := 0) (x := 236) (nx := 34) (r1 := 0) (r2 := 0) (r3 := 0) rfl rfl ?_
    refine wr_gi0 (k0 := 236) (x := h29 236 44) (nx := 37) (r1 := 11) (r2 := 44) (r3 := 0) rfl rfl (by decide) rfl ⟨rfl, rfl⟩ rfl rfl ?_
    refine wi_istore_n (i := 1) (e := h29 236 44) (lo2 := [(1, vi (h29 236 44)), (0, .ref 236)]) (nx := 38) (r1 := 0) (r2 := 0) (r3 := 0) rfl rfl ?_
    refine wi_aload_n (i := 0) (x := 236) (nx := 39) (r1 := 0) (r2 := 0) (r3 := 0) rfl rfl ?_
    refine wr_V (k0 := 236) (rest := []) (as := [.ref 236]) (nx := 42) (r1 := 335) (r2 := 0) (r3 := 11) rfl rfl rfl (of_decide_eq_true rfl) rfl rfl (by decide) rfl rfl (of_decide_eq_true rfl) (of_decide_eq_true rfl) ?_
    have q46 : h29 253 = h29 253 := funext (fun i => rfl)
    refine ct_335_236 hcr  g29   (show (h29 236 4) ≤ (h29 236 3) by omega) (show (h29 236 8) = 0 by omega) (show (h29 236 6) ≠ 0 by omega) (show (h29 236 42) + (h29 236 44) ≤ 2 * (h29 236 43) by omega) (by rw [q46, show h29 236 42 = h29 236 42 by omega, show h29 236 44 = h29 236 44 by omega]; exact X29_0) (fun h45 g45 u45 (p45_0 : (h29 236 4) ≤ (h45 236 4)) (p45_1 : (h45 236 4) ≤ (h29 236 3)) (p45_2 : 1 ≤ (h45 236 8) ∨ (h45 236 6) = 0 ∨ (h29 236 4) + 1 ≤ (h45 236 4)) (p45_3 : 1 ≤ (h45 236 8) ∨ (h45 236 42) + (h45 236 44) ≤ 2 * (h45 236 43)) y45_0 => ?_)
    have F47 := F37.then (by decide +kernel) u45
    have F48 := u29.then (by decide +kernel) u45
    have b49 := gi_b (lo := 0) (hi := 800) g45 236 4 rfl
    have b50 := gi_b (lo := 0) (hi := 5) g45 236 8 rfl
    have b51 := gi_b (lo := 0) (hi := 4) g45 236 6 rfl
    have b52 := gi_b (lo := 0) (hi := 80) g45 236 42 rfl
    have b53 := gi_b (lo := 0) (hi := 2) g45 236 44 rfl
    have b54 := gi_b (lo := 0) (hi := 40) g45 236 43 rfl
    refine wk_n ?_
    refine wi_aload_n (i := 0) (x := 236) (nx := 43) (r1 := 0) (r2 := 0) (r3 := 0) rfl rfl ?_
    refine wr_gi0 (k0 := 236) (x := h45 236 44) (nx := 46) (r1 := 11) (r2 := 44) (r3 := 0) rfl rfl (by decide) rfl ⟨rfl, rfl⟩ rfl rfl ?_
    refine wi_iload_n (i := 1) (e := h29 236 44) (nx := 47) (r1 := 0) (r2 := 0) (r3 := 0) rfl rfl ?_
    refine wi_icmp (cd := .ne) (nx := 50) (r1 := 56) (r2 := 0) (r3 := 0) rfl (by omega) (by omega) (fun (q55 : (h45 236 44) ≠ (h29 236 44)) => ?_) (fun (q55 : ¬ ((h45 236 44) ≠ (h29 236 44))) => ?_)
    ·
      refine wi_aload_n (i := 0) (x := 236) (nx := 57) (r1 := 0) (r2 := 0) (r3 := 0) rfl rfl ?_
      refine wr_V (k0 := 236) (rest := []) (as := [.ref 236]) (nx := 60) (r1 := 338) (r2 := 0) (r3 := 11) rfl rfl rfl (of_decide_eq_true rfl) rfl rfl (by decide) rfl rfl (of_decide_eq_true rfl) (of_decide_eq_true rfl) ?_
      have e57 : h45 236 3 = h13 236 3 := ((u45 236 3 rfl).trans ((u29 236 3 rfl).trans ((u23 236 3 rfl).trans ((u21 236 3 rfl).trans (u19 236 3 rfl)))))
      have q58 : h45 253 = h45 253 := funext (fun i => rfl)
      refine ct_338_236 hcr  g45   (show (h45 236 4) ≤ (h45 236 3) by omega) (show 1 ≤ (h45 236 8) ∨ (h45 236 42) + (h45 236 44) ≤ 2 * (h45 236 43) by omega) (fun e => by rw [q58, show h45 236 42 = h45 236 42 by omega, show h45 236 44 = h45 236 44 by omega]; exact y45_0 (by omega)) (fun h56 g56 u56 (p56_0 : (h45 236 4) ≤ (h56 236 4)) (p56_1 : (h56 236 4) ≤ (h45 236 3)) (p56_2 : 1 ≤ (h56 236 8) ∨ (h45 236 8) = 0) (p56_3 : (h45 236 6) ≠ 0 ∨ (h56 236 6) = 0) (p56_4 : 1 ≤ (h56 236 8) ∨ (h56 236 42) + (h56 236 44) ≤ 2 * (h56 236 43)) y56_0 => ?_)
      have F59 := F47.then (by decide +kernel) u56
      have F60 := F48.then (by decide +kernel) u56
      have b61 := gi_b (lo := 0) (hi := 800) g56 236 4 rfl
      have b62 := gi_b (lo := 0) (hi := 5) g56 236 8 rfl
      have b63 := gi_b (lo := 0) (hi := 4) g56 236 6 rfl
      have b64 := gi_b (lo := 0) (hi := 80) g56 236 42 rfl
      have b65 := gi_b (lo := 0) (hi := 2) g56 236 44 rfl
      have e66 : h56 236 43 = h45 236 43 := (u56 236 43 rfl)
      refine wk_n ?_
      refine wi_goto (nx := 63) (r1 := 19) (r2 := 0) (r3 := 0) rfl ?_
      refine wi_aload_n (i := 0) (x := 236) (nx := 20) (r1 := 0) (r2 := 0) (r3 := 0) rfl rfl ?_
      refine wr_V (k0 := 236) (rest := []) (as := [.ref 236]) (nx := 23) (r1 := 219) (r2 := 0) (r3 := 11) rfl rfl rfl (of_decide_eq_true rfl) rfl rfl (by decide) rfl rfl (of_decide_eq_true rfl) (of_decide_eq_true rfl) ?_
      refine wi_aload_n (i := 0) (x := 236) (nx := 1) (r1 := 0) (r2 := 0) (r3 := 0) rfl rfl ?_
      refine wr_gi0 (k0 := 236) (x := h56 236 8) (nx := 4) (r1 := 11) (r2 := 8) (r3 := 0) rfl rfl (by decide) rfl ⟨rfl, rfl⟩ rfl rfl ?_
      refine wi_if (cd := .ne) (nx := 7) (r1 := 11) (r2 := 0) (r3 := 0) rfl (by omega) (fun (q67 : (h56 236 8) ≠ 0) => ?_) (fun (q67 : ¬ ((h56 236 8) ≠ 0)) => ?_)
      ·
        refine wi_iconst (n := 0) (nx := 12) (r1 := 0) (r2 := 0) (r3 := 0) rfl ?_
        refine wi_zreturn (nx := 13) (r1 := 0) (r2 := 0) (r3 := 0) rfl rfl (by omega) ?_
        refine wk_i ?_
        refine wi_if (cd := .eq) (nx := 26) (r1 := 63) (r2 := 0) (r3 := 0) rfl (by omega) (fun (q68 : 0 = 0) => ?_) (fun (q68 : ¬ (0 = 0)) => by exfalso; omega)
        refine wi_aload_n (i := 0) (x := 236) (nx := 64) (r1 := 0) (r2 := 0) (r3 := 0) rfl rfl ?_
        refine wr_V (k0 := 236) (rest := []) (as := [.ref 236]) (nx := 67) (r1 := 219) (r2 := 0) (r3 := 11) rfl rfl rfl (of_decide_eq_true rfl) rfl rfl (by decide) rfl rfl (of_decide_eq_true rfl) (of_decide_eq_true rfl) ?_
        refine wi_aload_n (i := 0) (x := 236) (nx := 1) (r1 := 0) (r2 := 0) (r3 := 0) rfl rfl ?_
        refine wr_gi0 (k0 := 236) (x := h56 236 8) (nx := 4) (r1 := 11) (r2 := 8) (r3 := 0) rfl rfl (by decide) rfl ⟨rfl, rfl⟩ rfl rfl ?_
        refine wi_if (cd := .ne) (nx := 7) (r1 := 11) (r2 := 0) (r3 := 0) rfl (by omega) (fun (q69 : (h56 236 8) ≠ 0) => ?_) (fun (q69 : ¬ ((h56 236 8) ≠ 0)) => by exfalso; omega)
        refine wi_iconst (n := 0) (nx := 12) (r1 := 0) (r2 := 0) (r3 := 0) rfl ?_
        refine wi_zreturn (nx := 13) (r1 := 0) (r2 := 0) (r3 := 0) rfl rfl (by omega) ?_
        refine wk_i ?_
        refine wi_if (cd := .eq) (nx := 70) (r1 := 82) (r2 := 0) (r3 := 0) rfl (by omega) (fun (q70 : 0 = 0) => ?_) (fun (q70 : ¬ (0 = 0)) => by exfalso; omega)
        refine wi_aload_n (i := 0) (x := 236) (nx := 83) (r1 := 0) (r2 := 0) (r3 := 0) rfl rfl ?_
        refine wr_V (k0 := 236) (rest := []) (as := [.ref 236]) (nx := 86) (r1 := 237) (r2 := 0) (r3 := 11) rfl rfl rfl (of_decide_eq_true rfl) rfl rfl (by decide) rfl rfl (of_decide_eq_true rfl) (of_decide_eq_true rfl) ?_
        refine wi_aload_n (i := 0) (x := 236) (nx := 1) (r1 := 0) (r2 := 0) (r3 := 0) rfl rfl ?_
        refine wi_aload_n (i := 0) (x := 236) (nx := 2) (r1 := 0) (r2 := 0) (r3 := 0) rfl rfl ?_
        refine wr_gi0 (k0 := 236) (x := h56 236 8) (nx := 5) (r1 := 11) (r2 := 8) (r3 := 0) rfl rfl (by decide) rfl ⟨rfl, rfl⟩ rfl rfl ?_
        refine wr_pf0 (k0 := 236) (x := h56 236 8) (bl := -2147483648) (bh := 2147483647) (nx := 8) (r1 := 11) (r2 := 10) (r3 := 0) rfl (by decide) rfl ⟨rfl, rfl⟩ rfl rfl g56 rfl (by omega) (fun h71 g71 w71 u71 => ?_)
        have F72 := F59.then rfl u71
        refine wi_aload_n (i := 0) (x := 236) (nx := 9) (r1 := 0) (r2 := 0) (r3 := 0) rfl rfl ?_
        refine wi_aload_n (i := 0) (x := 236) (nx := 10) (r1 := 0) (r2 := 0) (r3 := 0) rfl rfl ?_
        have b73 := gi_b (lo := -2147483648) (hi := 2147483647) g56 236 9 rfl
        refine wr_gi0 (k0 := 236) (x := h56 236 9) (nx := 13) (r1 := 11) (r2 := 9) (r3 := 0) rfl rfl (by decide) rfl ⟨rfl, rfl⟩ rfl (u71 236 9 rfl) ?_
        refine wr_pf0 (k0 := 236) (x := h56 236 9) (bl := -2147483648) (bh := 2147483647) (nx := 16) (r1 := 11) (r2 := 11) (r3 := 0) rfl (by decide) rfl ⟨rfl, rfl⟩ rfl rfl g71 rfl (by omega) (fun h74 g74 w74 u74 => ?_)
        have F75 := F72.then rfl u74
        refine wi_aload_n (i := 0) (x := 236) (nx := 17) (r1 := 0) (r2 := 0) (r3 := 0) rfl rfl ?_
        refine wi_aload_n (i := 0) (x := 236) (nx := 18) (r1 := 0) (r2 := 0) (r3 := 0) rfl rfl ?_
        refine wr_gi0 (k0 := 236) (x := h56 236 8) (nx := 21) (r1 := 11) (r2 := 8) (r3 := 0) rfl rfl (by decide) rfl ⟨rfl, rfl⟩ rfl ((u74 236 8 rfl).trans (u71 236 8 rfl)) ?_
        refine wi_if (cd := .ne) (nx := 24) (r1 := 28) (r2 := 0) (r3 := 0) rfl (by omega) (fun (q76 : (h56 236 8) ≠ 0) => ?_) (fun (q76 : ¬ ((h56 236 8) ≠ 0)) => by exfalso; omega)
        refine wi_iconst (n := 0) (nx := 29) (r1 := 0) (r2 := 0) (r3 := 0) rfl ?_
        refine wr_V (k0 := 236) (rest := []) (as := [.ref 236, vi 0]) (nx := 32) (r1 := 206) (r2 := 1) (r3 := 11) rfl rfl rfl (of_decide_eq_true rfl) rfl rfl (by decide) rfl rfl (of_decide_eq_true rfl) (of_decide_eq_true rfl) ?_
        refine wi_aload_n (i := 0) (x := 236) (nx := 1) (r1 := 0) (r2 := 0) (r3 := 0) rfl rfl ?_
        refine wi_iload_n (i := 1) (e := 0) (nx := 2) (r1 := 0) (r2 := 0) (r3 := 0) rfl rfl ?_
        refine wi_if (cd := .ne) (nx := 5) (r1 := 9) (r2 := 0) (r3 := 0) rfl (by omega) (fun (q77 : 0 ≠ 0) => by exfalso; omega) (fun (q77 : ¬ (0 ≠ 0)) => ?_)
        refine wi_iconst (n := 1) (nx := 6) (r1 := 0) (r2 := 0) (r3 := 0) rfl ?_
        refine wi_goto (nx := 9) (r1 := 10) (r2 := 0) (r3 := 0) rfl ?_
        refine wi_S (rest := [.ref 236]) (as := [vi 1]) (nx := 13) (r1 := 207) (r2 := 17) (r3 := 0) rfl rfl rfl (of_decide_eq_true rfl) rfl rfl (of_decide_eq_true rfl) (of_decide_eq_true rfl) ?_
        refine wi_iload_n (i := 0) (e := 1) (nx := 1) (r1 := 0) (r2 := 0) (r3 := 0) rfl rfl ?_
        refine wi_if (cd := .eq) (nx := 4) (r1 := 8) (r2 := 0) (r3 := 0) rfl (by omega) (fun (q78 : 1 = 0) => by exfalso; omega) (fun (q78 : ¬ (1 = 0)) => ?_)
        refine wi_iconst (n := 1) (nx := 5) (r1 := 0) (r2 := 0) (r3 := 0) rfl ?_
        refine wi_goto (nx := 8) (r1 := 9) (r2 := 0) (r3 := 0) rfl ?_
        refine wi_ireturn (nx := 10) (r1 := 0) (r2 := 0) (r3 := 0) rfl rfl ?_
        refine wk_i ?_
        refine wr_pf0 (k0 := 236) (x := 1) (bl := 0) (bh := 2) (nx := 16) (r1 := 11) (r2 := 0) (r3 := 0) rfl (by decide) rfl ⟨rfl, rfl⟩ rfl rfl g74 rfl (by omega) (fun h79 g79 w79 u79 => ?_)
        have F80 := F75.then rfl u79
        refine wi_iload_n (i := 1) (e := 0) (nx := 17) (r1 := 0) (r2 := 0) (r3 := 0) rfl rfl ?_
        refine wi_zreturn (nx := 18) (r1 := 0) (r2 := 0) (r3 := 0) rfl rfl (by omega) ?_
        refine wk_i ?_
        refine wi_zreturn (nx := 33) (r1 := 0) (r2 := 0) (r3 := 0) rfl rfl (by omega) ?_
        refine wk_i ?_
        refine wi_if (cd := .ne) (nx := 89) (r1 := 91) (r2 := 0) (r3 := 0) rfl (by omega) (fun (q81 : 0 ≠ 0) => by exfalso; omega) (fun (q81 : ¬ (0 ≠ 0)) => ?_)
        refine wi_iconst (n := 0) (nx := 90) (r1 := 0) (r2 := 0) (r3 := 0) rfl ?_
        refine wi_ireturn (nx := 91) (r1 := 0) (r2 := 0) (r3 := 0) rfl rfl ?_
        have e82 : h79 238 98 = h 238 98 := ((u79 238 98 rfl).trans ((u74 238 98 rfl).trans ((u71 238 98 rfl).trans ((u56 238 98 rfl).trans ((u45 238 98 rfl).trans ((u29 238 98 rfl).trans ((u23 238 98 rfl).trans ((u21 238 98 rfl).trans ((u19 238 98 rfl).trans (u13 238 98 rfl))))))))))
        have e83 : h79 238 99 = h 238 99 := ((u79 238 99 rfl).trans ((u74 238 99 rfl).trans ((u71 238 99 rfl).trans ((u56 238 99 rfl).trans ((u45 238 99 rfl).trans ((u29 238 99 rfl).trans ((u23 238 99 rfl).trans ((u21 238 99 rfl).trans ((u19 238 99 rfl).trans (u13 238 99 rfl))))))))))
        have e84 : h79 238 100 = h 238 100 := ((u79 238 100 rfl).trans ((u74 238 100 rfl).trans ((u71 238 100 rfl).trans ((u56 238 100 rfl).trans ((u45 238 100 rfl).trans ((u29 238 100 rfl).trans ((u23 238 100 rfl).trans ((u21 238 100 rfl).trans ((u19 238 100 rfl).trans (u13 238 100 rfl))))))))))
        have e85 : h79 238 101 = h 238 101 := ((u79 238 101 rfl).trans ((u74 238 101 rfl).trans ((u71 238 101 rfl).trans ((u56 238 101 rfl).trans ((u45 238 101 rfl).trans ((u29 238 101 rfl).trans ((u23 238 101 rfl).trans ((u21 238 101 rfl).trans ((u19 238 101 rfl).trans (u13 238 101 rfl))))))))))
        have e86 : h79 238 102 = h 238 102 := ((u79 238 102 rfl).trans ((u74 238 102 rfl).trans ((u71 238 102 rfl).trans ((u56 238 102 rfl).trans ((u45 238 102 rfl).trans ((u29 238 102 rfl).trans ((u23 238 102 rfl).trans ((u21 238 102 rfl).trans ((u19 238 102 rfl).trans (u13 238 102 rfl))))))))))
        have e87 : h79 238 106 = h 238 106 := ((u79 238 106 rfl).trans ((u74 238 106 rfl).trans ((u71 238 106 rfl).trans ((u56 238 106 rfl).trans ((u45 238 106 rfl).trans ((u29 238 106 rfl).trans ((u23 238 106 rfl).trans ((u21 238 106 rfl).trans ((u19 238 106 rfl).trans (u13 238 106 rfl))))))))))
        have e88 : h79 238 73 = h 238 73 := ((u79 238 73 rfl).trans ((u74 238 73 rfl).trans ((u71 238 73 rfl).trans ((u56 238 73 rfl).trans ((u45 238 73 rfl).trans ((u29 238 73 rfl).trans ((u23 238 73 rfl).trans ((u21 238 73 rfl).trans ((u19 238 73 rfl).trans (u13 238 73 rfl))))))))))
        have e89 : h79 238 2 = h 238 2 := ((u79 238 2 rfl).trans ((u74 238 2 rfl).trans ((u71 238 2 rfl).trans ((u56 238 2 rfl).trans ((u45 238 2 rfl).trans ((u29 238 2 rfl).trans ((u23 238 2 rfl).trans ((u21 238 2 rfl).trans ((u19 238 2 rfl).trans (u13 238 2 rfl))))))))))
        have e90 : h79 238 119 = h 238 119 := ((u79 238 119 rfl).trans ((u74 238 119 rfl).trans ((u71 238 119 rfl).trans ((u56 238 119 rfl).trans ((u45 238 119 rfl).trans ((u29 238 119 rfl).trans ((u23 238 119 rfl).trans ((u21 238 119 rfl).trans ((u19 238 119 rfl).trans (u13 238 119 rfl))))))))))
        have e91 : h79 238 67 = h 238 67 := ((u79 238 67 rfl).trans ((u74 238 67 rfl).trans ((u71 238 67 rfl).trans ((u56 238 67 rfl).trans ((u45 238 67 rfl).trans ((u29 238 67 rfl).trans ((u23 238 67 rfl).trans ((u21 238 67 rfl).trans ((u19 238 67 rfl).trans (u13 238 67 rfl))))))))))
        have e92 : h79 238 69 = h 238 69 := ((u79 238 69 rfl).trans ((u74 238 69 rfl).trans ((u71 238 69 rfl).trans ((u56 238 69 rfl).trans ((u45 238 69 rfl).trans ((u29 238 69 rfl).trans ((u23 238 69 rfl).trans ((u21 238 69 rfl).trans ((u19 238 69 rfl).trans (u13 238 69 rfl))))))))))
        have e93 : h79 238 5 = h 238 5 := ((u79 238 5 rfl).trans ((u74 238 5 rfl).trans ((u71 238 5 rfl).trans ((u56 238 5 rfl).trans ((u45 238 5 rfl).trans ((u29 238 5 rfl).trans ((u23 238 5 rfl).trans ((u21 238 5 rfl).trans ((u19 238 5 rfl).trans (u13 238 5 rfl))))))))))
        have e94 : h79 236 2 = h13 236 2 := ((u79 236 2 rfl).trans ((u74 236 2 rfl).trans ((u71 236 2 rfl).trans ((u56 236 2 rfl).trans ((u45 236 2 rfl).trans ((u29 236 2 rfl).trans ((u23 236 2 rfl).trans ((u21 236 2 rfl).trans (u19 236 2 rfl)))))))))
        have gp95 := GPH.fr u13 rfl gp0
        have gp96 := GPH.fr u19 rfl gp95
        have gp97 := GPH.fr u21 rfl gp96
        have gp98 := GPH.fr u23 rfl gp97
        have gp99 := GPH.fr u29 rfl gp98
        have gp100 := GPH.fr u45 rfl gp99
        have gp101 := GPH.fr u56 rfl gp100
        have gp102 := GPH.fr u71 rfl gp101
        have gp103 := GPH.fr u74 rfl gp102
        have gp104 := GPH.fr u79 rfl gp103
        exact k h79 0 g79 F80 (by omega) (show (h79 238 98) + (h79 238 99) + (h79 238 100) + (h79 238 101) + (h79 238 102) + (h79 238 106) = (h79 238 73) by omega) (show (h79 238 73) ≤ (h79 238 2) by omega) (show (h79 238 119) ≤ (h79 238 67) by omega) (show (h79 238 69) ≤ (h79 238 5) by omega) (show (h79 238 2) ≤ 12 * (h79 238 5) by omega) (show (h79 236 2) = 0 by omega) gp104
      ·
        refine wi_iconst (n := 1) (nx := 8) (r1 := 0) (r2 := 0) (r3 := 0) rfl ?_
        refine wi_goto (nx := 11) (r1 := 12) (r2 := 0) (r3 := 0) rfl ?_
        refine wi_zreturn (nx := 13) (r1 := 0) (r2 := 0) (r3 := 0) rfl rfl (by omega) ?_
        refine wk_i ?_
        refine wi_if (cd := .eq) (nx := 26) (r1 := 63) (r2 := 0) (r3 := 0) rfl (by omega) (fun (q68 : 1 = 0) => by exfalso; omega) (fun (q68 : ¬ (1 = 0)) => ?_)
        refine wi_aload_n (i := 0) (x := 236) (nx := 27) (r1 := 0) (r2 := 0) (r3 := 0) rfl rfl ?_
        refine wr_gi0 (k0 := 236) (x := h56 236 6) (nx := 30) (r1 := 11) (r2 := 6) (r3 := 0) rfl rfl (by decide) rfl ⟨rfl, rfl⟩ rfl rfl ?_
        refine wi_if (cd := .eq) (nx := 33) (r1 := 63) (r2 := 0) (r3 := 0) rfl (by omega) (fun (q69 : (h56 236 6) = 0) => ?_) (fun (q69 : ¬ ((h56 236 6) = 0)) => ?_)
        ·
          refine wi_aload_n (i := 0) (x := 236) (nx := 64) (r1 := 0) (r2 := 0) (r3 := 0) rfl rfl ?_
          refine wr_V (k0 := 236) (rest := []) (as := [.ref 236]) (nx := 67) (r1 := 219) (r2 := 0) (r3 := 11) rfl rfl rfl (of_decide_eq_true rfl) rfl rfl (by decide) rfl rfl (of_decide_eq_true rfl) (of_decide_eq_true rfl) ?_
          refine wi_aload_n (i := 0) (x := 236) (nx := 1) (r1 := 0) (r2 := 0) (r3 := 0) rfl rfl ?_
          refine wr_gi0 (k0 := 236) (x := h56 236 8) (nx := 4) (r1 := 11) (r2 := 8) (r3 := 0) rfl rfl (by decide) rfl ⟨rfl, rfl⟩ rfl rfl ?_
          refine wi_if (cd := .ne) (nx := 7) (r1 := 11) (r2 := 0) (r3 := 0) rfl (by omega) (fun (q70 : (h56 236 8) ≠ 0) => by exfalso; omega) (fun (q70 : ¬ ((h56 236 8) ≠ 0)) => ?_)
          refine wi_iconst (n := 1) (nx := 8) (r1 := 0) (r2 := 0) (r3 := 0) rfl ?_
          refine wi_goto (nx := 11) (r1 := 12) (r2 := 0) (r3 := 0) rfl ?_
          refine wi_zreturn (nx := 13) (r1 := 0) (r2 := 0) (r3 := 0) rfl rfl (by omega) ?_
          refine wk_i ?_
          refine wi_if (cd := .eq) (nx := 70) (r1 := 82) (r2 := 0) (r3 := 0) rfl (by omega) (fun (q71 : 1 = 0) => by exfalso; omega) (fun (q71 : ¬ (1 = 0)) => ?_)
          refine wi_aload_n (i := 0) (x := 236) (nx := 71) (r1 := 0) (r2 := 0) (r3 := 0) rfl rfl ?_
          refine wr_gi0 (k0 := 236) (x := h56 236 44) (nx := 74) (r1 := 11) (r2 := 44) (r3 := 0) rfl rfl (by decide) rfl ⟨rfl, rfl⟩ rfl rfl ?_
          refine wi_if (cd := .le) (nx := 77) (r1 := 82) (r2 := 0) (r3 := 0) rfl (by omega) (fun (q72 : (h56 236 44) ≤ 0) => ?_) (fun (q72 : ¬ ((h56 236 44) ≤ 0)) => ?_)
          ·
            refine wi_aload_n (i := 0) (x := 236) (nx := 83) (r1 := 0) (r2 := 0) (r3 := 0) rfl rfl ?_
            refine wr_V (k0 := 236) (rest := []) (as := [.ref 236]) (nx := 86) (r1 := 237) (r2 := 0) (r3 := 11) rfl rfl rfl (of_decide_eq_true rfl) rfl rfl (by decide) rfl rfl (of_decide_eq_true rfl) (of_decide_eq_true rfl) ?_
            refine wi_aload_n (i := 0) (x := 236) (nx := 1) (r1 := 0) (r2 := 0) (r3 := 0) rfl rfl ?_
            refine wi_aload_n (i := 0) (x := 236) (nx := 2) (r1 := 0) (r2 := 0) (r3 := 0) rfl rfl ?_
            refine wr_gi0 (k0 := 236) (x := h56 236 8) (nx := 5) (r1 := 11) (r2 := 8) (r3 := 0) rfl rfl (by decide) rfl ⟨rfl, rfl⟩ rfl rfl ?_
            refine wr_pf0 (k0 := 236) (x := h56 236 8) (bl := -2147483648) (bh := 2147483647) (nx := 8) (r1 := 11) (r2 := 10) (r3 := 0) rfl (by decide) rfl ⟨rfl, rfl⟩ rfl rfl g56 rfl (by omega) (fun h73 g73 w73 u73 => ?_)
            have F74 := F59.then rfl u73
            refine wi_aload_n (i := 0) (x := 236) (nx := 9) (r1 := 0) (r2 := 0) (r3 := 0) rfl rfl ?_
            refine wi_aload_n (i := 0) (x := 236) (nx := 10) (r1 := 0) (r2 := 0) (r3 := 0) rfl rfl ?_
            have b75 := gi_b (lo := -2147483648) (hi := 2147483647) g56 236 9 rfl
            refine wr_gi0 (k0 := 236) (x := h56 236 9) (nx := 13) (r1 := 11) (r2 := 9) (r3 := 0) rfl rfl (by decide) rfl ⟨rfl, rfl⟩ rfl (u73 236 9 rfl) ?_
            refine wr_pf0 (k0 := 236) (x := h56 236 9) (bl := -2147483648) (bh := 2147483647) (nx := 16) (r1 := 11) (r2 := 11) (r3 := 0) rfl (by decide) rfl ⟨rfl, rfl⟩ rfl rfl g73 rfl (by omega) (fun h76 g76 w76 u76 => ?_)
            have F77 := F74.then rfl u76
            refine wi_aload_n (i := 0) (x := 236) (nx := 17) (r1 := 0) (r2 := 0) (r3 := 0) rfl rfl ?_
            refine wi_aload_n (i := 0) (x := 236) (nx := 18) (r1 := 0) (r2 := 0) (r3 := 0) rfl rfl ?_
            refine wr_gi0 (k0 := 236) (x := h56 236 8) (nx := 21) (r1 := 11) (r2 := 8) (r3 := 0) rfl rfl (by decide) rfl ⟨rfl, rfl⟩ rfl ((u76 236 8 rfl).trans (u73 236 8 rfl)) ?_
            refine wi_if (cd := .ne) (nx := 24) (r1 := 28) (r2 := 0) (r3 := 0) rfl (by omega) (fun (q78 : (h56 236 8) ≠ 0) => by exfalso; omega) (fun (q78 : ¬ ((h56 236 8) ≠ 0)) => ?_)
            refine wi_iconst (n := 1) (nx := 25) (r1 := 0) (r2 := 0) (r3 := 0) rfl ?_
            refine wi_goto (nx := 28) (r1 := 29) (r2 := 0) (r3 := 0) rfl ?_
            refine wr_V (k0 := 236) (rest := []) (as := [.ref 236, vi 1]) (nx := 32) (r1 := 206) (r2 := 1) (r3 := 11) rfl rfl rfl (of_decide_eq_true rfl) rfl rfl (by decide) rfl rfl (of_decide_eq_true rfl) (of_decide_eq_true rfl) ?_
            refine wi_aload_n (i := 0) (x := 236) (nx := 1) (r1 := 0) (r2 := 0) (r3 := 0) rfl rfl ?_
            refine wi_iload_n (i := 1) (e := 1) (nx := 2) (r1 := 0) (r2 := 0) (r3 := 0) rfl rfl ?_
            refine wi_if (cd := .ne) (nx := 5) (r1 := 9) (r2 := 0) (r3 := 0) rfl (by omega) (fun (q79 : 1 ≠ 0) => ?_) (fun (q79 : ¬ (1 ≠ 0)) => by exfalso; omega)
            refine wi_iconst (n := 0) (nx := 10) (r1 := 0) (r2 := 0) (r3 := 0) rfl ?_
            refine wi_S (rest := [.ref 236]) (as := [vi 0]) (nx := 13) (r1 := 207) (r2 := 17) (r3 := 0) rfl rfl rfl (of_decide_eq_true rfl) rfl rfl (of_decide_eq_true rfl) (of_decide_eq_true rfl) ?_
            refine wi_iload_n (i := 0) (e := 0) (nx := 1) (r1 := 0) (r2 := 0) (r3 := 0) rfl rfl ?_
            refine wi_if (cd := .eq) (nx := 4) (r1 := 8) (r2 := 0) (r3 := 0) rfl (by omega) (fun (q80 : 0 = 0) => ?_) (fun (q80 : ¬ (0 = 0)) => by exfalso; omega)
            refine wi_iconst (n := 0) (nx := 9) (r1 := 0) (r2 := 0) (r3 := 0) rfl ?_
            refine wi_ireturn (nx := 10) (r1 := 0) (r2 := 0) (r3 := 0) rfl rfl ?_
            refine wk_i ?_
            refine wr_pf0 (k0 := 236) (x := 0) (bl := 0) (bh := 2) (nx := 16) (r1 := 11) (r2 := 0) (r3 := 0) rfl (by decide) rfl ⟨rfl, rfl⟩ rfl rfl g76 rfl (by omega) (fun h81 g81 w81 u81 => ?_)
            have F82 := F77.then rfl u81
            refine wi_iload_n (i := 1) (e := 1) (nx := 17) (r1 := 0) (r2 := 0) (r3 := 0) rfl rfl ?_
            refine wi_zreturn (nx := 18) (r1 := 0) (r2 := 0) (r3 := 0) rfl rfl (by omega) ?_
            refine wk_i ?_
            refine wi_zreturn (nx := 33) (r1 := 0) (r2 := 0) (r3 := 0) rfl rfl (by omega) ?_
            refine wk_i ?_
            refine wi_if (cd := .ne) (nx := 89) (r1 := 91) (r2 := 0) (r3 := 0) rfl (by omega) (fun (q83 : 1 ≠ 0) => ?_) (fun (q83 : ¬ (1 ≠ 0)) => by exfalso; omega)
            refine wi_aload_n (i := 0) (x := 236) (nx := 92) (r1 := 0) (r2 := 0) (r3 := 0) rfl rfl ?_
            refine wr_gr (k0 := 236) (x := 238) (nx := 95) (r1 := 11) (r2 := 13) (r3 := 0) rfl rfl (by decide) rfl ⟨rfl, rfl⟩ rfl ?_
            refine wi_aload_n (i := 0) (x := 236) (nx := 96) (r1 := 0) (r2 := 0) (r3 := 0) rfl rfl ?_
            refine wr_gr (k0 := 236) (x := 257) (nx := 99) (r1 := 11) (r2 := 41) (r3 := 0) rfl rfl (by decide) rfl ⟨rfl, rfl⟩ rfl ?_
            refine wi_S (rest := []) (as := [.ref 238, .ref 257]) (nx := 102) (r1 := 238) (r2 := 18) (r3 := 0) rfl rfl rfl (of_decide_eq_true rfl) rfl rfl (of_decide_eq_true rfl) (of_decide_eq_true rfl) ?_
            refine ct_238_238_257 hcr  g81    (fun h84 g84 u84 y84_0 => ?_)
            have F85 := F82.then (by decide +kernel) u84
            refine wk_n ?_
            refine wi_aload_n (i := 0) (x := 236) (nx := 103) (r1 := 0) (r2 := 0) (r3 := 0) rfl rfl ?_
            refine wi_iconst (n := 0) (nx := 104) (r1 := 0) (r2 := 0) (r3 := 0) rfl ?_
            refine wr_pf2 (k0 := 236) (x := 0) (bl := 0) (bh := 1) (nx := 107) (r1 := 11) (r2 := 45) (r3 := 2) rfl (by decide) rfl ⟨rfl, rfl⟩ rfl (by omega) rfl g84 rfl (by omega) (fun h86 g86 w86 u86 => ?_)
            have F87 := F85.then rfl u86
            refine wi_aload_n (i := 0) (x := 236) (nx := 108) (r1 := 0) (r2 := 0) (r3 := 0) rfl rfl ?_
            refine wr_V (k0 := 236) (rest := []) (as := [.ref 236]) (nx := 111) (r1 := 339) (r2 := 0) (r3 := 11) rfl rfl rfl (of_decide_eq_true rfl) rfl rfl (by decide) rfl rfl (of_decide_eq_true rfl) (of_decide_eq_true rfl) ?_
            have e89 : h86 238 98 = h 238 98 := ((u86 238 98 rfl).trans ((u84 238 98 rfl).trans ((u81 238 98 rfl).trans ((u76 238 98 rfl).trans ((u73 238 98 rfl).trans ((u56 238 98 rfl).trans ((u45 238 98 rfl).trans ((u29 238 98 rfl).trans ((u23 238 98 rfl).trans ((u21 238 98 rfl).trans ((u19 238 98 rfl).trans (u13 238 98 rfl))))))))))))
            have e90 : h86 238 99 = h 238 99 := ((u86 238 99 rfl).trans ((u84 238 99 rfl).trans ((u81 238 99 rfl).trans ((u76 238 99 rfl).trans ((u73 238 99 rfl).trans ((u56 238 99 rfl).trans ((u45 238 99 rfl).trans ((u29 238 99 rfl).trans ((u23 238 99 rfl).trans ((u21 238 99 rfl).trans ((u19 238 99 rfl).trans (u13 238 99 rfl))))))))))))
            have e91 : h86 238 100 = h 238 100 := ((u86 238 100 rfl).trans ((u84 238 100 rfl).trans ((u81 238 100 rfl).trans ((u76 238 100 rfl).trans ((u73 238 100 rfl).trans ((u56 238 100 rfl).trans ((u45 238 100 rfl).trans ((u29 238 100 rfl).trans ((u23 238 100 rfl).trans ((u21 238 100 rfl).trans ((u19 238 100 rfl).trans (u13 238 100 rfl))))))))))))
            have e92 : h86 238 101 = h 238 101 := ((u86 238 101 rfl).trans ((u84 238 101 rfl).trans ((u81 238 101 rfl).trans ((u76 238 101 rfl).trans ((u73 238 101 rfl).trans ((u56 238 101 rfl).trans ((u45 238 101 rfl).trans ((u29 238 101 rfl).trans ((u23 238 101 rfl).trans ((u21 238 101 rfl).trans ((u19 238 101 rfl).trans (u13 238 101 rfl))))))))))))
            have e93 : h86 238 102 = h 238 102 := ((u86 238 102 rfl).trans ((u84 238 102 rfl).trans ((u81 238 102 rfl).trans ((u76 238 102 rfl).trans ((u73 238 102 rfl).trans ((u56 238 102 rfl).trans ((u45 238 102 rfl).trans ((u29 238 102 rfl).trans ((u23 238 102 rfl).trans ((u21 238 102 rfl).trans ((u19 238 102 rfl).trans (u13 238 102 rfl))))))))))))
            have e94 : h86 238 106 = h 238 106 := ((u86 238 106 rfl).trans ((u84 238 106 rfl).trans ((u81 238 106 rfl).trans ((u76 238 106 rfl).trans ((u73 238 106 rfl).trans ((u56 238 106 rfl).trans ((u45 238 106 rfl).trans ((u29 238 106 rfl).trans ((u23 238 106 rfl).trans ((u21 238 106 rfl).trans ((u19 238 106 rfl).trans (u13 238 106 rfl))))))))))))
            have e95 : h86 238 73 = h 238 73 := ((u86 238 73 rfl).trans ((u84 238 73 rfl).trans ((u81 238 73 rfl).trans ((u76 238 73 rfl).trans ((u73 238 73 rfl).trans ((u56 238 73 rfl).trans ((u45 238 73 rfl).trans ((u29 238 73 rfl).trans ((u23 238 73 rfl).trans ((u21 238 73 rfl).trans ((u19 238 73 rfl).trans (u13 238 73 rfl))))))))))))
            have e96 : h86 238 2 = h 238 2 := ((u86 238 2 rfl).trans ((u84 238 2 rfl).trans ((u81 238 2 rfl).trans ((u76 238 2 rfl).trans ((u73 238 2 rfl).trans ((u56 238 2 rfl).trans ((u45 238 2 rfl).trans ((u29 238 2 rfl).trans ((u23 238 2 rfl).trans ((u21 238 2 rfl).trans ((u19 238 2 rfl).trans (u13 238 2 rfl))))))))))))
            have e97 : h86 238 119 = h 238 119 := ((u86 238 119 rfl).trans ((u84 238 119 rfl).trans ((u81 238 119 rfl).trans ((u76 238 119 rfl).trans ((u73 238 119 rfl).trans ((u56 238 119 rfl).trans ((u45 238 119 rfl).trans ((u29 238 119 rfl).trans ((u23 238 119 rfl).trans ((u21 238 119 rfl).trans ((u19 238 119 rfl).trans (u13 238 119 rfl))))))))))))
            have e98 : h86 238 67 = h 238 67 := ((u86 238 67 rfl).trans ((u84 238 67 rfl).trans ((u81 238 67 rfl).trans ((u76 238 67 rfl).trans ((u73 238 67 rfl).trans ((u56 238 67 rfl).trans ((u45 238 67 rfl).trans ((u29 238 67 rfl).trans ((u23 238 67 rfl).trans ((u21 238 67 rfl).trans ((u19 238 67 rfl).trans (u13 238 67 rfl))))))))))))
            have e99 : h86 238 69 = h 238 69 := ((u86 238 69 rfl).trans ((u84 238 69 rfl).trans ((u81 238 69 rfl).trans ((u76 238 69 rfl).trans ((u73 238 69 rfl).trans ((u56 238 69 rfl).trans ((u45 238 69 rfl).trans ((u29 238 69 rfl).trans ((u23 238 69 rfl).trans ((u21 238 69 rfl).trans ((u19 238 69 rfl).trans (u13 238 69 rfl))))))))))))
            have e100 : h86 238 5 = h 238 5 := ((u86 238 5 rfl).trans ((u84 238 5 rfl).trans ((u81 238 5 rfl).trans ((u76 238 5 rfl).trans ((u73 238 5 rfl).trans ((u56 238 5 rfl).trans ((u45 238 5 rfl).trans ((u29 238 5 rfl).trans ((u23 238 5 rfl).trans ((u21 238 5 rfl).trans ((u19 238 5 rfl).trans (u13 238 5 rfl))))))))))))
            have e102 : h86 236 42 = h56 236 42 := ((u86 236 42 rfl).trans ((u84 236 42 rfl).trans ((u81 236 42 rfl).trans ((u76 236 42 rfl).trans (u73 236 42 rfl)))))
            have e103 : h86 236 44 = h56 236 44 := ((u86 236 44 rfl).trans ((u84 236 44 rfl).trans ((u81 236 44 rfl).trans ((u76 236 44 rfl).trans (u73 236 44 rfl)))))
            have e104 : h86 236 8 = h56 236 8 := ((u86 236 8 rfl).trans ((u84 236 8 rfl).trans ((u81 236 8 rfl).trans ((u76 236 8 rfl).trans (u73 236 8 rfl)))))
            have q105 : h86 253 = h56 253 := funext (fun i => ((u86 253 i rfl).trans ((u84 253 i (fo_no_ok (by decide) i)).trans ((u81 253 i rfl).trans ((u76 253 i rfl).trans (u73 253 i rfl))))))
            refine ct_339_236 hcr  g86   (show (h86 238 98) + (h86 238 99) + (h86 238 100) + (h86 238 101) + (h86 238 102) + (h86 238 106) = (h86 238 73) by omega) (show (h86 238 73) ≤ (h86 238 2) by omega) (show (h86 238 119) ≤ (h86 238 67) by omega) (show (h86 238 69) ≤ (h86 238 5) by omega) (show (h86 238 2) ≤ 12 * (h86 238 5) by omega) (by rw [q105, show h86 236 42 = h56 236 42 by omega, show h86 236 44 = h56 236 44 by omega]; exact y56_0 (by omega)) (fun h88 z101 g88 u88 (fz101 : 0 ≤ z101 ∧ z101 ≤ 100) (p88_0 : (h88 238 98) + (h88 238 99) + (h88 238 100) + (h88 238 101) + (h88 238 102) + (h88 238 106) = (h88 238 73)) (p88_1 : (h88 238 73) ≤ (h88 238 2)) (p88_2 : (h88 238 119) ≤ (h88 238 67)) (p88_3 : (h88 238 69) ≤ (h88 238 5)) (p88_4 : (h88 238 2) ≤ 12 * (h88 238 5)) => ?_)
            have F106 := F87.then (by decide +kernel) u88
            have b107 := gi_b (lo := 0) (hi := 6) g88 238 98 rfl
            have b108 := gi_b (lo := 0) (hi := 6) g88 238 99 rfl
            have b109 := gi_b (lo := 0) (hi := 6) g88 238 100 rfl
            have b110 := gi_b (lo := 0) (hi := 6) g88 238 101 rfl
            have b111 := gi_b (lo := 0) (hi := 3) g88 238 102 rfl
            have b112 := gi_b (lo := 0) (hi := 12) g88 238 106 rfl
            have b113 := gi_b (lo := 0) (hi := 12) g88 238 73 rfl
            have e114 : h88 238 2 = h 238 2 := ((u88 238 2 rfl).trans ((u86 238 2 rfl).trans ((u84 238 2 rfl).trans ((u81 238 2 rfl).trans ((u76 238 2 rfl).trans ((u73 238 2 rfl).trans ((u56 238 2 rfl).trans ((u45 238 2 rfl).trans ((u29 238 2 rfl).trans ((u23 238 2 rfl).trans ((u21 238 2 rfl).trans ((u19 238 2 rfl).trans (u13 238 2 rfl)))))))))))))
            have b115 := gi_b (lo := 0) (hi := 9999) g88 238 119 rfl
            have b116 := gi_b (lo := 0) (hi := 9999) g88 238 67 rfl
            have b117 := gi_b (lo := 0) (hi := 9) g88 238 69 rfl
            have e118 : h88 238 5 = h 238 5 := ((u88 238 5 rfl).trans ((u86 238 5 rfl).trans ((u84 238 5 rfl).trans ((u81 238 5 rfl).trans ((u76 238 5 rfl).trans ((u73 238 5 rfl).trans ((u56 238 5 rfl).trans ((u45 238 5 rfl).trans ((u29 238 5 rfl).trans ((u23 238 5 rfl).trans ((u21 238 5 rfl).trans ((u19 238 5 rfl).trans (u13 238 5 rfl)))))))))))))
            refine wk_i ?_
            refine wi_istore_n (i := 1) (e := z101) (lo2 := [(1, vi z101), (0, .ref 236)]) (nx := 112) (r1 := 0) (r2 := 0) (r3 := 0) rfl rfl ?_
            refine wi_aload_n (i := 0) (x := 236) (nx := 113) (r1 := 0) (r2 := 0) (r3 := 0) rfl rfl ?_
            have b119 := gi_b (lo := 0) (hi := 1) g88 236 45 rfl
            refine wr_gi2 (k0 := 236) (x := h88 236 45) (nx := 116) (r1 := 11) (r2 := 45) (r3 := 0) rfl rfl (by decide) rfl ⟨rfl, rfl⟩ rfl rfl ?_
            refine wi_if (cd := .ne) (nx := 119) (r1 := 121) (r2 := 0) (r3 := 0) rfl (by omega) (fun (q120 : (h88 236 45) ≠ 0) => ?_) (fun (q120 : ¬ ((h88 236 45) ≠ 0)) => ?_)
            ·
              refine wi_aload_n (i := 0) (x := 236) (nx := 122) (r1 := 0) (r2 := 0) (r3 := 0) rfl rfl ?_
              refine wr_gr (k0 := 236) (x := 257) (nx := 125) (r1 := 11) (r2 := 41) (r3 := 0) rfl rfl (by decide) rfl ⟨rfl, rfl⟩ rfl ?_
              refine wi_aload_n (i := 0) (x := 236) (nx := 126) (r1 := 0) (r2 := 0) (r3 := 0) rfl rfl ?_
              refine wr_gr (k0 := 236) (x := 240) (nx := 129) (r1 := 11) (r2 := 15) (r3 := 0) rfl rfl (by decide) rfl ⟨rfl, rfl⟩ rfl ?_
              refine wi_S (rest := []) (as := [.ref 257, .ref 240]) (nx := 132) (r1 := 238) (r2 := 18) (r3 := 0) rfl rfl rfl (of_decide_eq_true rfl) rfl rfl (of_decide_eq_true rfl) (of_decide_eq_true rfl) ?_
              refine ct_238_257_240 hcr  g88    (fun h121 g121 u121 y121_0 => ?_)
              have F122 := F106.then (by decide +kernel) u121
              refine wk_n ?_
              refine wi_aload_n (i := 0) (x := 236) (nx := 133) (r1 := 0) (r2 := 0) (r3 := 0) rfl rfl ?_
              refine wr_V (k0 := 236) (rest := []) (as := [.ref 236]) (nx := 136) (r1 := 315) (r2 := 0) (r3 := 11) rfl rfl rfl (of_decide_eq_true rfl) rfl rfl (by decide) rfl rfl (of_decide_eq_true rfl) (of_decide_eq_true rfl) ?_
              have e124 : h121 238 98 = h88 238 98 := (u121 238 98 rfl)
              have e125 : h121 238 99 = h88 238 99 := (u121 238 99 rfl)
              have e126 : h121 238 100 = h88 238 100 := (u121 238 100 rfl)
              have e127 : h121 238 101 = h88 238 101 := (u121 238 101 rfl)
              have e128 : h121 238 102 = h88 238 102 := (u121 238 102 rfl)
              have e129 : h121 238 106 = h88 238 106 := (u121 238 106 rfl)
              have e130 : h121 238 73 = h88 238 73 := (u121 238 73 rfl)
              have e131 : h121 238 2 = h 238 2 := ((u121 238 2 rfl).trans ((u88 238 2 rfl).trans ((u86 238 2 rfl).trans ((u84 238 2 rfl).trans ((u81 238 2 rfl).trans ((u76 238 2 rfl).trans ((u73 238 2 rfl).trans ((u56 238 2 rfl).trans ((u45 238 2 rfl).trans ((u29 238 2 rfl).trans ((u23 238 2 rfl).trans ((u21 238 2 rfl).trans ((u19 238 2 rfl).trans (u13 238 2 rfl))))))))))))))
              have e132 : h121 238 119 = h88 238 119 := (u121 238 119 rfl)
              have e133 : h121 238 67 = h88 238 67 := (u121 238 67 rfl)
              have e134 : h121 238 69 = h88 238 69 := (u121 238 69 rfl)
              have e135 : h121 238 5 = h 238 5 := ((u121 238 5 rfl).trans ((u88 238 5 rfl).trans ((u86 238 5 rfl).trans ((u84 238 5 rfl).trans ((u81 238 5 rfl).trans ((u76 238 5 rfl).trans ((u73 238 5 rfl).trans ((u56 238 5 rfl).trans ((u45 238 5 rfl).trans ((u29 238 5 rfl).trans ((u23 238 5 rfl).trans ((u21 238 5 rfl).trans ((u19 238 5 rfl).trans (u13 238 5 rfl))))))))))))))
              have e136 : h121 240 98 = h 238 98 := ((y121_0 98 (by decide)).trans ((u88 257 98 rfl).trans ((u86 257 98 rfl).trans ((y84_0 98 (by decide)).trans ((u81 238 98 rfl).trans ((u76 238 98 rfl).trans ((u73 238 98 rfl).trans ((u56 238 98 rfl).trans ((u45 238 98 rfl).trans ((u29 238 98 rfl).trans ((u23 238 98 rfl).trans ((u21 238 98 rfl).trans ((u19 238 98 rfl).trans (u13 238 98 rfl))))))))))))))
              have e137 : h121 240 99 = h 238 99 := ((y121_0 99 (by decide)).trans ((u88 257 99 rfl).trans ((u86 257 99 rfl).trans ((y84_0 99 (by decide)).trans ((u81 238 99 rfl).trans ((u76 238 99 rfl).trans ((u73 238 99 rfl).trans ((u56 238 99 rfl).trans ((u45 238 99 rfl).trans ((u29 238 99 rfl).trans ((u23 238 99 rfl).trans ((u21 238 99 rfl).trans ((u19 238 99 rfl).trans (u13 238 99 rfl))))))))))))))
              have e138 : h121 240 100 = h 238 100 := ((y121_0 100 (by decide)).trans ((u88 257 100 rfl).trans ((u86 257 100 rfl).trans ((y84_0 100 (by decide)).trans ((u81 238 100 rfl).trans ((u76 238 100 rfl).trans ((u73 238 100 rfl).trans ((u56 238 100 rfl).trans ((u45 238 100 rfl).trans ((u29 238 100 rfl).trans ((u23 238 100 rfl).trans ((u21 238 100 rfl).trans ((u19 238 100 rfl).trans (u13 238 100 rfl))))))))))))))
              have e139 : h121 240 101 = h 238 101 := ((y121_0 101 (by decide)).trans ((u88 257 101 rfl).trans ((u86 257 101 rfl).trans ((y84_0 101 (by decide)).trans ((u81 238 101 rfl).trans ((u76 238 101 rfl).trans ((u73 238 101 rfl).trans ((u56 238 101 rfl).trans ((u45 238 101 rfl).trans ((u29 238 101 rfl).trans ((u23 238 101 rfl).trans ((u21 238 101 rfl).trans ((u19 238 101 rfl).trans (u13 238 101 rfl))))))))))))))
              have e140 : h121 240 102 = h 238 102 := ((y121_0 102 (by decide)).trans ((u88 257 102 rfl).trans ((u86 257 102 rfl).trans ((y84_0 102 (by decide)).trans ((u81 238 102 rfl).trans ((u76 238 102 rfl).trans ((u73 238 102 rfl).trans ((u56 238 102 rfl).trans ((u45 238 102 rfl).trans ((u29 238 102 rfl).trans ((u23 238 102 rfl).trans ((u21 238 102 rfl).trans ((u19 238 102 rfl).trans (u13 238 102 rfl))))))))))))))
              have e141 : h121 240 106 = h 238 106 := ((y121_0 106 (by decide)).trans ((u88 257 106 rfl).trans ((u86 257 106 rfl).trans ((y84_0 106 (by decide)).trans ((u81 238 106 rfl).trans ((u76 238 106 rfl).trans ((u73 238 106 rfl).trans ((u56 238 106 rfl).trans ((u45 238 106 rfl).trans ((u29 238 106 rfl).trans ((u23 238 106 rfl).trans ((u21 238 106 rfl).trans ((u19 238 106 rfl).trans (u13 238 106 rfl))))))))))))))
              have e142 : h121 240 73 = h 238 73 := ((y121_0 73 (by decide)).trans ((u88 257 73 rfl).trans ((u86 257 73 rfl).trans ((y84_0 73 (by decide)).trans ((u81 238 73 rfl).trans ((u76 238 73 rfl).trans ((u73 238 73 rfl).trans ((u56 238 73 rfl).trans ((u45 238 73 rfl).trans ((u29 238 73 rfl).trans ((u23 238 73 rfl).trans ((u21 238 73 rfl).trans ((u19 238 73 rfl).trans (u13 238 73 rfl))))))))))))))
              have e143 : h121 240 2 = h 238 2 := ((y121_0 2 (by decide)).trans ((u88 257 2 rfl).trans ((u86 257 2 rfl).trans ((y84_0 2 (by decide)).trans ((u81 238 2 rfl).trans ((u76 238 2 rfl).trans ((u73 238 2 rfl).trans ((u56 238 2 rfl).trans ((u45 238 2 rfl).trans ((u29 238 2 rfl).trans ((u23 238 2 rfl).trans ((u21 238 2 rfl).trans ((u19 238 2 rfl).trans (u13 238 2 rfl))))))))))))))
              have e144 : h121 240 119 = h 238 119 := ((y121_0 119 (by decide)).trans ((u88 257 119 rfl).trans ((u86 257 119 rfl).trans ((y84_0 119 (by decide)).trans ((u81 238 119 rfl).trans ((u76 238 119 rfl).trans ((u73 238 119 rfl).trans ((u56 238 119 rfl).trans ((u45 238 119 rfl).trans ((u29 238 119 rfl).trans ((u23 238 119 rfl).trans ((u21 238 119 rfl).trans ((u19 238 119 rfl).trans (u13 238 119 rfl))))))))))))))
              have e145 : h121 240 67 = h 238 67 := ((y121_0 67 (by decide)).trans ((u88 257 67 rfl).trans ((u86 257 67 rfl).trans ((y84_0 67 (by decide)).trans ((u81 238 67 rfl).trans ((u76 238 67 rfl).trans ((u73 238 67 rfl).trans ((u56 238 67 rfl).trans ((u45 238 67 rfl).trans ((u29 238 67 rfl).trans ((u23 238 67 rfl).trans ((u21 238 67 rfl).trans ((u19 238 67 rfl).trans (u13 238 67 rfl))))))))))))))
              have e146 : h121 240 69 = h 238 69 := ((y121_0 69 (by decide)).trans ((u88 257 69 rfl).trans ((u86 257 69 rfl).trans ((y84_0 69 (by decide)).trans ((u81 238 69 rfl).trans ((u76 238 69 rfl).trans ((u73 238 69 rfl).trans ((u56 238 69 rfl).trans ((u45 238 69 rfl).trans ((u29 238 69 rfl).trans ((u23 238 69 rfl).trans ((u21 238 69 rfl).trans ((u19 238 69 rfl).trans (u13 238 69 rfl))))))))))))))
              have e147 : h121 240 5 = h 238 5 := ((y121_0 5 (by decide)).trans ((u88 257 5 rfl).trans ((u86 257 5 rfl).trans ((y84_0 5 (by decide)).trans ((u81 238 5 rfl).trans ((u76 238 5 rfl).trans ((u73 238 5 rfl).trans ((u56 238 5 rfl).trans ((u45 238 5 rfl).trans ((u29 238 5 rfl).trans ((u23 238 5 rfl).trans ((u21 238 5 rfl).trans ((u19 238 5 rfl).trans (u13 238 5 rfl))))))))))))))
              have gp148 := GPH.fr u13 rfl gp0
              have gp149 := GPH.fr u19 rfl gp148
              have gp150 := GPH.fr u21 rfl gp149
              have gp151 := GPH.fr u23 rfl gp150
              have gp152 := GPH.fr u29 rfl gp151
              have gp153 := GPH.fr u45 rfl gp152
              have gp154 := GPH.fr u56 rfl gp153
              have gp155 := GPH.fr u73 rfl gp154
              have gp156 := GPH.fr u76 rfl gp155
              have gp157 := GPH.fr u81 rfl gp156
              have gp158 := GPH.fr u84 rfl gp157
              have gp159 := GPH.fr u86 rfl gp158
              have gp160 := GPH.fr u88 rfl gp159
              have gp161 := GPH.fr u121 rfl gp160
              refine ct_315_236 hcr  g121   (show (h121 238 98) + (h121 238 99) + (h121 238 100) + (h121 238 101) + (h121 238 102) + (h121 238 106) = (h121 238 73) by omega) (show (h121 238 73) ≤ (h121 238 2) by omega) (show (h121 238 119) ≤ (h121 238 67) by omega) (show (h121 238 69) ≤ (h121 238 5) by omega) (show (h121 238 2) ≤ 12 * (h121 238 5) by omega) (show (h121 240 98) + (h121 240 99) + (h121 240 100) + (h121 240 101) + (h121 240 102) + (h121 240 106) = (h121 240 73) by omega) (show (h121 240 73) ≤ (h121 240 2) by omega) (show (h121 240 119) ≤ (h121 240 67) by omega) (show (h121 240 69) ≤ (h121 240 5) by omega) (show (h121 240 2) ≤ 12 * (h121 240 5) by omega) gp161 (fun h123 g123 u123 y123_0 => ?_)
              have F162 := F122.then (by decide +kernel) u123
              refine wk_n ?_
              refine wi_iload_n (i := 1) (e := z101) (nx := 137) (r1 := 0) (r2 := 0) (r3 := 0) rfl rfl ?_
              refine wi_ireturn (nx := 138) (r1 := 0) (r2 := 0) (r3 := 0) rfl rfl ?_
              have e163 : h123 238 98 = h88 238 98 := ((u123 238 98 rfl).trans (u121 238 98 rfl))
              have e164 : h123 238 99 = h88 238 99 := ((u123 238 99 rfl).trans (u121 238 99 rfl))
              have e165 : h123 238 100 = h88 238 100 := ((u123 238 100 rfl).trans (u121 238 100 rfl))
              have e166 : h123 238 101 = h88 238 101 := ((u123 238 101 rfl).trans (u121 238 101 rfl))
              have e167 : h123 238 102 = h88 238 102 := ((u123 238 102 rfl).trans (u121 238 102 rfl))
              have e168 : h123 238 106 = h88 238 106 := ((u123 238 106 rfl).trans (u121 238 106 rfl))
              have e169 : h123 238 73 = h88 238 73 := ((u123 238 73 rfl).trans (u121 238 73 rfl))
              have e170 : h123 238 2 = h 238 2 := ((u123 238 2 rfl).trans ((u121 238 2 rfl).trans ((u88 238 2 rfl).trans ((u86 238 2 rfl).trans ((u84 238 2 rfl).trans ((u81 238 2 rfl).trans ((u76 238 2 rfl).trans ((u73 238 2 rfl).trans ((u56 238 2 rfl).trans ((u45 238 2 rfl).trans ((u29 238 2 rfl).trans ((u23 238 2 rfl).trans ((u21 238 2 rfl).trans ((u19 238 2 rfl).trans (u13 238 2 rfl)))))))))))))))
              have e171 : h123 238 119 = h88 238 119 := ((u123 238 119 rfl).trans (u121 238 119 rfl))
              have e172 : h123 238 67 = h88 238 67 := ((u123 238 67 rfl).trans (u121 238 67 rfl))
              have e173 : h123 238 69 = h88 238 69 := ((u123 238 69 rfl).trans (u121 238 69 rfl))
              have e174 : h123 238 5 = h 238 5 := ((u123 238 5 rfl).trans ((u121 238 5 rfl).trans ((u88 238 5 rfl).trans ((u86 238 5 rfl).trans ((u84 238 5 rfl).trans ((u81 238 5 rfl).trans ((u76 238 5 rfl).trans ((u73 238 5 rfl).trans ((u56 238 5 rfl).trans ((u45 238 5 rfl).trans ((u29 238 5 rfl).trans ((u23 238 5 rfl).trans ((u21 238 5 rfl).trans ((u19 238 5 rfl).trans (u13 238 5 rfl)))))))))))))))
              have e175 : h123 236 2 = h13 236 2 := ((u123 236 2 rfl).trans ((u121 236 2 rfl).trans ((u88 236 2 rfl).trans ((u86 236 2 rfl).trans ((u84 236 2 rfl).trans ((u81 236 2 rfl).trans ((u76 236 2 rfl).trans ((u73 236 2 rfl).trans ((u56 236 2 rfl).trans ((u45 236 2 rfl).trans ((u29 236 2 rfl).trans ((u23 236 2 rfl).trans ((u21 236 2 rfl).trans (u19 236 2 rfl))))))))))))))
              exact k h123 z101 g123 F162 (by omega) (show (h123 238 98) + (h123 238 99) + (h123 238 100) + (h123 238 101) + (h123 238 102) + (h123 238 106) = (h123 238 73) by omega) (show (h123 238 73) ≤ (h123 238 2) by omega) (show (h123 238 119) ≤ (h123 238 67) by omega) (show (h123 238 69) ≤ (h123 238 5) by omega) (show (h123 238 2) ≤ 12 * (h123 238 5) by omega) (show (h123 236 2) = 0 by omega) y123_0
            ·
              refine wi_iload_n (i := 1) (e := z101) (nx := 120) (r1 := 0) (r2 := 0) (r3 := 0) rfl rfl ?_
              refine wi_ireturn (nx := 121) (r1 := 0) (r2 := 0) (r3 := 0) rfl rfl ?_
              have e121 : h88 236 2 = h13 236 2 := ((u88 236 2 rfl).trans ((u86 236 2 rfl).trans ((u84 236 2 rfl).trans ((u81 236 2 rfl).trans ((u76 236 2 rfl).trans ((u73 236 2 rfl).trans ((u56 236 2 rfl).trans ((u45 236 2 rfl).trans ((u29 236 2 rfl).trans ((u23 236 2 rfl).trans ((u21 236 2 rfl).trans (u19 236 2 rfl))))))))))))
              have gp122 := GPH.fr u13 rfl gp0
              have gp123 := GPH.fr u19 rfl gp122
              have gp124 := GPH.fr u21 rfl gp123
              have gp125 := GPH.fr u23 rfl gp124
              have gp126 := GPH.fr u29 rfl gp125
              have gp127 := GPH.fr u45 rfl gp126
              have gp128 := GPH.fr u56 rfl gp127
              have gp129 := GPH.fr u73 rfl gp128
              have gp130 := GPH.fr u76 rfl gp129
              have gp131 := GPH.fr u81 rfl gp130
              have gp132 := GPH.fr u84 rfl gp131
              have gp133 := GPH.fr u86 rfl gp132
              have gp134 := GPH.fr u88 rfl gp133
              exact k h88 z101 g88 F106 (by omega) (show (h88 238 98) + (h88 238 99) + (h88 238 100) + (h88 238 101) + (h88 238 102) + (h88 238 106) = (h88 238 73) by omega) (show (h88 238 73) ≤ (h88 238 2) by omega) (show (h88 238 119) ≤ (h88 238 67) by omega) (show (h88 238 69) ≤ (h88 238 5) by omega) (show (h88 238 2) ≤ 12 * (h88 238 5) by omega) (show (h88 236 2) = 0 by omega) gp134
          ·
            refine wi_aload_n (i := 0) (x := 236) (nx := 78) (r1 := 0) (r2 := 0) (r3 := 0) rfl rfl ?_
            refine wi_iconst (n := 1) (nx := 79) (r1 := 0) (r2 := 0) (r3 := 0) rfl ?_
            refine wr_V (k0 := 236) (rest := []) (as := [.ref 236, vi 1]) (nx := 82) (r1 := 224) (r2 := 1) (r3 := 11) rfl rfl rfl (of_decide_eq_true rfl) rfl rfl (by decide) rfl rfl (of_decide_eq_true rfl) (of_decide_eq_true rfl) ?_
            refine ct_224_236 hcr  g56 1 (by omega)  (fun h73 g73 u73 (p73_0 : 1 ≤ (h73 236 8)) => ?_)
            have F74 := F59.then (by decide +kernel) u73
            have b75 := gi_b (lo := 0) (hi := 5) g73 236 8 rfl
            refine wk_n ?_
            refine wi_aload_n (i := 0) (x := 236) (nx := 83) (r1 := 0) (r2 := 0) (r3 := 0) rfl rfl ?_
            refine wr_V (k0 := 236) (rest := []) (as := [.ref 236]) (nx := 86) (r1 := 237) (r2 := 0) (r3 := 11) rfl rfl rfl (of_decide_eq_true rfl) rfl rfl (by decide) rfl rfl (of_decide_eq_true rfl) (of_decide_eq_true rfl) ?_
            refine wi_aload_n (i := 0) (x := 236) (nx := 1) (r1 := 0) (r2 := 0) (r3 := 0) rfl rfl ?_
            refine wi_aload_n (i := 0) (x := 236) (nx := 2) (r1 := 0) (r2 := 0) (r3 := 0) rfl rfl ?_
            refine wr_gi0 (k0 := 236) (x := h73 236 8) (nx := 5) (r1 := 11) (r2 := 8) (r3 := 0) rfl rfl (by decide) rfl ⟨rfl, rfl⟩ rfl rfl ?_
            refine wr_pf0 (k0 := 236) (x := h73 236 8) (bl := -2147483648) (bh := 2147483647) (nx := 8) (r1 := 11) (r2 := 10) (r3 := 0) rfl (by decide) rfl ⟨rfl, rfl⟩ rfl rfl g73 rfl (by omega) (fun h76 g76 w76 u76 => ?_)
            have F77 := F74.then rfl u76
            refine wi_aload_n (i := 0) (x := 236) (nx := 9) (r1 := 0) (r2 := 0) (r3 := 0) rfl rfl ?_
            refine wi_aload_n (i := 0) (x := 236) (nx := 10) (r1 := 0) (r2 := 0) (r3 := 0) rfl rfl ?_
            have b78 := gi_b (lo := -2147483648) (hi := 2147483647) g73 236 9 rfl
            refine wr_gi0 (k0 := 236) (x := h73 236 9) (nx := 13) (r1 := 11) (r2 := 9) (r3 := 0) rfl rfl (by decide) rfl ⟨rfl, rfl⟩ rfl (u76 236 9 rfl) ?_
            refine wr_pf0 (k0 := 236) (x := h73 236 9) (bl := -2147483648) (bh := 2147483647) (nx := 16) (r1 := 11) (r2 := 11) (r3 := 0) rfl (by decide) rfl ⟨rfl, rfl⟩ rfl rfl g76 rfl (by omega) (fun h79 g79 w79 u79 => ?_)
            have F80 := F77.then rfl u79
            refine wi_aload_n (i := 0) (x := 236) (nx := 17) (r1 := 0) (r2 := 0) (r3 := 0) rfl rfl ?_
            refine wi_aload_n (i := 0) (x := 236) (nx := 18) (r1 := 0) (r2 := 0) (r3 := 0) rfl rfl ?_
            refine wr_gi0 (k0 := 236) (x := h73 236 8) (nx := 21) (r1 := 11) (r2 := 8) (r3 := 0) rfl rfl (by decide) rfl ⟨rfl, rfl⟩ rfl ((u79 236 8 rfl).trans (u76 236 8 rfl)) ?_
            refine wi_if (cd := .ne) (nx := 24) (r1 := 28) (r2 := 0) (r3 := 0) rfl (by omega) (fun (q81 : (h73 236 8) ≠ 0) => ?_) (fun (q81 : ¬ ((h73 236 8) ≠ 0)) => by exfalso; omega)
            refine wi_iconst (n := 0) (nx := 29) (r1 := 0) (r2 := 0) (r3 := 0) rfl ?_
            refine wr_V (k0 := 236) (rest := []) (as := [.ref 236, vi 0]) (nx := 32) (r1 := 206) (r2 := 1) (r3 := 11) rfl rfl rfl (of_decide_eq_true rfl) rfl rfl (by decide) rfl rfl (of_decide_eq_true rfl) (of_decide_eq_true rfl) ?_
            refine wi_aload_n (i := 0) (x := 236) (nx := 1) (r1 := 0) (r2 := 0) (r3 := 0) rfl rfl ?_
            refine wi_iload_n (i := 1) (e := 0) (nx := 2) (r1 := 0) (r2 := 0) (r3 := 0) rfl rfl ?_
            refine wi_if (cd := .ne) (nx := 5) (r1 := 9) (r2 := 0) (r3 := 0) rfl (by omega) (fun (q82 : 0 ≠ 0) => by exfalso; omega) (fun (q82 : ¬ (0 ≠ 0)) => ?_)
            refine wi_iconst (n := 1) (nx := 6) (r1 := 0) (r2 := 0) (r3 := 0) rfl ?_
            refine wi_goto (nx := 9) (r1 := 10) (r2 := 0) (r3 := 0) rfl ?_
            refine wi_S (rest := [.ref 236]) (as := [vi 1]) (nx := 13) (r1 := 207) (r2 := 17) (r3 := 0) rfl rfl rfl (of_decide_eq_true rfl) rfl rfl (of_decide_eq_true rfl) (of_decide_eq_true rfl) ?_
            refine wi_iload_n (i := 0) (e := 1) (nx := 1) (r1 := 0) (r2 := 0) (r3 := 0) rfl rfl ?_
            refine wi_if (cd := .eq) (nx := 4) (r1 := 8) (r2 := 0) (r3 := 0) rfl (by omega) (fun (q83 : 1 = 0) => by exfalso; omega) (fun (q83 : ¬ (1 = 0)) => ?_)
            refine wi_iconst (n := 1) (nx := 5) (r1 := 0) (r2 := 0) (r3 := 0) rfl ?_
            refine wi_goto (nx := 8) (r1 := 9) (r2 := 0) (r3 := 0) rfl ?_
            refine wi_ireturn (nx := 10) (r1 := 0) (r2 := 0) (r3 := 0) rfl rfl ?_
            refine wk_i ?_
            refine wr_pf0 (k0 := 236) (x := 1) (bl := 0) (bh := 2) (nx := 16) (r1 := 11) (r2 := 0) (r3 := 0) rfl (by decide) rfl ⟨rfl, rfl⟩ rfl rfl g79 rfl (by omega) (fun h84 g84 w84 u84 => ?_)
            have F85 := F80.then rfl u84
            refine wi_iload_n (i := 1) (e := 0) (nx := 17) (r1 := 0) (r2 := 0) (r3 := 0) rfl rfl ?_
            refine wi_zreturn (nx := 18) (r1 := 0) (r2 := 0) (r3 := 0) rfl rfl (by omega) ?_
            refine wk_i ?_
            refine wi_zreturn (nx := 33) (r1 := 0) (r2 := 0) (r3 := 0) rfl rfl (by omega) ?_
            refine wk_i ?_
            refine wi_if (cd := .ne) (nx := 89) (r1 := 91) (r2 := 0) (r3 := 0) rfl (by omega) (fun (q86 : 0 ≠ 0) => by exfalso; omega) (fun (q86 : ¬ (0 ≠ 0)) => ?_)
            refine wi_iconst (n := 0) (nx := 90) (r1 := 0) (r2 := 0) (r3 := 0) rfl ?_
            refine wi_ireturn (nx := 91) (r1 := 0) (r2 := 0) (r3 := 0) rfl rfl ?_
            have e87 : h84 238 98 = h 238 98 := ((u84 238 98 rfl).trans ((u79 238 98 rfl).trans ((u76 238 98 rfl).trans ((u73 238 98 rfl).trans ((u56 238 98 rfl).trans ((u45 238 98 rfl).trans ((u29 238 98 rfl).trans ((u23 238 98 rfl).trans ((u21 238 98 rfl).trans ((u19 238 98 rfl).trans (u13 238 98 rfl)))))))))))
            have e88 : h84 238 99 = h 238 99 := ((u84 238 99 rfl).trans ((u79 238 99 rfl).trans ((u76 238 99 rfl).trans ((u73 238 99 rfl).trans ((u56 238 99 rfl).trans ((u45 238 99 rfl).trans ((u29 238 99 rfl).trans ((u23 238 99 rfl).trans ((u21 238 99 rfl).trans ((u19 238 99 rfl).trans (u13 238 99 rfl)))))))))))
            have e89 : h84 238 100 = h 238 100 := ((u84 238 100 rfl).trans ((u79 238 100 rfl).trans ((u76 238 100 rfl).trans ((u73 238 100 rfl).trans ((u56 238 100 rfl).trans ((u45 238 100 rfl).trans ((u29 238 100 rfl).trans ((u23 238 100 rfl).trans ((u21 238 100 rfl).trans ((u19 238 100 rfl).trans (u13 238 100 rfl)))))))))))
            have e90 : h84 238 101 = h 238 101 := ((u84 238 101 rfl).trans ((u79 238 101 rfl).trans ((u76 238 101 rfl).trans ((u73 238 101 rfl).trans ((u56 238 101 rfl).trans ((u45 238 101 rfl).trans ((u29 238 101 rfl).trans ((u23 238 101 rfl).trans ((u21 238 101 rfl).trans ((u19 238 101 rfl).trans (u13 238 101 rfl)))))))))))
            have e91 : h84 238 102 = h 238 102 := ((u84 238 102 rfl).trans ((u79 238 102 rfl).trans ((u76 238 102 rfl).trans ((u73 238 102 rfl).trans ((u56 238 102 rfl).trans ((u45 238 102 rfl).trans ((u29 238 102 rfl).trans ((u23 238 102 rfl).trans ((u21 238 102 rfl).trans ((u19 238 102 rfl).trans (u13 238 102 rfl)))))))))))
            have e92 : h84 238 106 = h 238 106 := ((u84 238 106 rfl).trans ((u79 238 106 rfl).trans ((u76 238 106 rfl).trans ((u73 238 106 rfl).trans ((u56 238 106 rfl).trans ((u45 238 106 rfl).trans ((u29 238 106 rfl).trans ((u23 238 106 rfl).trans ((u21 238 106 rfl).trans ((u19 238 106 rfl).trans (u13 238 106 rfl)))))))))))
            have e93 : h84 238 73 = h 238 73 := ((u84 238 73 rfl).trans ((u79 238 73 rfl).trans ((u76 238 73 rfl).trans ((u73 238 73 rfl).trans ((u56 238 73 rfl).trans ((u45 238 73 rfl).trans ((u29 238 73 rfl).trans ((u23 238 73 rfl).trans ((u21 238 73 rfl).trans ((u19 238 73 rfl).trans (u13 238 73 rfl)))))))))))
            have e94 : h84 238 2 = h 238 2 := ((u84 238 2 rfl).trans ((u79 238 2 rfl).trans ((u76 238 2 rfl).trans ((u73 238 2 rfl).trans ((u56 238 2 rfl).trans ((u45 238 2 rfl).trans ((u29 238 2 rfl).trans ((u23 238 2 rfl).trans ((u21 238 2 rfl).trans ((u19 238 2 rfl).trans (u13 238 2 rfl)))))))))))
            have e95 : h84 238 119 = h 238 119 := ((u84 238 119 rfl).trans ((u79 238 119 rfl).trans ((u76 238 119 rfl).trans ((u73 238 119 rfl).trans ((u56 238 119 rfl).trans ((u45 238 119 rfl).trans ((u29 238 119 rfl).trans ((u23 238 119 rfl).trans ((u21 238 119 rfl).trans ((u19 238 119 rfl).trans (u13 238 119 rfl)))))))))))
            have e96 : h84 238 67 = h 238 67 := ((u84 238 67 rfl).trans ((u79 238 67 rfl).trans ((u76 238 67 rfl).trans ((u73 238 67 rfl).trans ((u56 238 67 rfl).trans ((u45 238 67 rfl).trans ((u29 238 67 rfl).trans ((u23 238 67 rfl).trans ((u21 238 67 rfl).trans ((u19 238 67 rfl).trans (u13 238 67 rfl)))))))))))
            have e97 : h84 238 69 = h 238 69 := ((u84 238 69 rfl).trans ((u79 238 69 rfl).trans ((u76 238 69 rfl).trans ((u73 238 69 rfl).trans ((u56 238 69 rfl).trans ((u45 238 69 rfl).trans ((u29 238 69 rfl).trans ((u23 238 69 rfl).trans ((u21 238 69 rfl).trans ((u19 238 69 rfl).trans (u13 238 69 rfl)))))))))))
            have e98 : h84 238 5 = h 238 5 := ((u84 238 5 rfl).trans ((u79 238 5 rfl).trans ((u76 238 5 rfl).trans ((u73 238 5 rfl).trans ((u56 238 5 rfl).trans ((u45 238 5 rfl).trans ((u29 238 5 rfl).trans ((u23 238 5 rfl).trans ((u21 238 5 rfl).trans ((u19 238 5 rfl).trans (u13 238 5 rfl)))))))))))
            have e99 : h84 236 2 = h13 236 2 := ((u84 236 2 rfl).trans ((u79 236 2 rfl).trans ((u76 236 2 rfl).trans ((u73 236 2 rfl).trans ((u56 236 2 rfl).trans ((u45 236 2 rfl).trans ((u29 236 2 rfl).trans ((u23 236 2 rfl).trans ((u21 236 2 rfl).trans (u19 236 2 rfl))))))))))
            have gp100 := GPH.fr u13 rfl gp0
            have gp101 := GPH.fr u19 rfl gp100
            have gp102 := GPH.fr u21 rfl gp101
            have gp103 := GPH.fr u23 rfl gp102
            have gp104 := GPH.fr u29 rfl gp103
            have gp105 := GPH.fr u45 rfl gp104
            have gp106 := GPH.fr u56 rfl gp105
            have gp107 := GPH.fr u73 rfl gp106
            have gp108 := GPH.fr u76 rfl gp107
            have gp109 := GPH.fr u79 rfl gp108
            have gp110 := GPH.fr u84 rfl gp109
            exact k h84 0 g84 F85 (by omega) (show (h84 238 98) + (h84 238 99) + (h84 238 100) + (h84 238 101) + (h84 238 102) + (h84 238 106) = (h84 238 73) by omega) (show (h84 238 73) ≤ (h84 238 2) by omega) (show (h84 238 119) ≤ (h84 238 67) by omega) (show (h84 238 69) ≤ (h84 238 5) by omega) (show (h84 238 2) ≤ 12 * (h84 238 5) by omega) (show (h84 236 2) = 0 by omega) gp110
        ·
          have e70 : h56 236 3 = h13 236 3 := ((u56 236 3 rfl).trans ((u45 236 3 rfl).trans ((u29 236 3 rfl).trans ((u23 236 3 rfl).trans ((u21 236 3 rfl).trans (u19 236 3 rfl))))))
          refine wp.lo (lo := [(0, .ref 236)]) ⟨rfl, trivial⟩ rfl ?_
          have q71 : h56 253 = h56 253 := funext (fun i => rfl)
          exact I29 h56 ⟨g56, F59, F60, (show ((h56 236 4) ≤ (h56 236 3)) ∧ ((h56 236 8) = 0) ∧ ((h56 236 6) ≠ 0) ∧ ((h56 236 42) + (h56 236 44) ≤ 2 * (h56 236 43)) by omega), (by rw [q71, show h56 236 42 = h56 236 42 by omega, show h56 236 44 = h56 236 44 by omega]; exact y56_0 (by omega))⟩ (show ((h56 236 3) - (h56 236 4)).toNat < ((h29 236 3) - (h29 236 4)).toNat by omega)
    ·
      refine wi_aload_n (i := 0) (x := 236) (nx := 51) (r1 := 0) (r2 := 0) (r3 := 0) rfl rfl ?_
      refine wi_bipush (n := 59) (nx := 53) (r1 := 0) (r2 := 0) (r3 := 0) rfl (by decide) ?_
      refine wr_V (k0 := 236) (rest := []) (as := [.ref 236, vi 59]) (nx := 56) (r1 := 235) (r2 := 1) (r3 := 11) rfl rfl rfl (of_decide_eq_true rfl) rfl rfl (by decide) rfl rfl (of_decide_eq_true rfl) (of_decide_eq_true rfl) ?_
      have e57 : h45 236 3 = h13 236 3 := ((u45 236 3 rfl).trans ((u29 236 3 rfl).trans ((u23 236 3 rfl).trans ((u21 236 3 rfl).trans (u19 236 3 rfl)))))
      refine ct_235_236 hcr  g45 59 (by omega) (show (h45 236 4) ≤ (h45 236 3) by omega) (fun h56 g56 u56 (p56_0 : (h45 236 4) ≤ (h56 236 4)) (p56_1 : (h56 236 4) ≤ (h45 236 3)) (p56_2 : 1 ≤ (h56 236 8) ∨ (h45 236 8) = 0) (p56_3 : 1 ≤ (h56 236 8) ∨ (h56 236 6) = 0 ∨ (h45 236 4) + 1 ≤ (h56 236 4)) => ?_)
      have F58 := F47.then (by decide +kernel) u56
      have F59 := F48.then (by decide +kernel) u56
      have b60 := gi_b (lo := 0) (hi := 800) g56 236 4 rfl
      have b61 := gi_b (lo := 0) (hi := 5) g56 236 8 rfl
      have b62 := gi_b (lo := 0) (hi := 4) g56 236 6 rfl
      refine wk_n ?_
      refine wi_aload_n (i := 0) (x := 236) (nx := 57) (r1 := 0) (r2 := 0) (r3 := 0) rfl rfl ?_
      refine wr_V (k0 := 236) (rest := []) (as := [.ref 236]) (nx := 60) (r1 := 338) (r2 := 0) (r3 := 11) rfl rfl rfl (of_decide_eq_true rfl) rfl rfl (by decide) rfl rfl (of_decide_eq_true rfl) (of_decide_eq_true rfl) ?_
      have e64 : h56 236 3 = h13 236 3 := ((u56 236 3 rfl).trans ((u45 236 3 rfl).trans ((u29 236 3 rfl).trans ((u23 236 3 rfl).trans ((u21 236 3 rfl).trans (u19 236 3 rfl))))))
      have e65 : h56 236 42 = h45 236 42 := (u56 236 42 rfl)
      have e66 : h56 236 44 = h45 236 44 := (u56 236 44 rfl)
      have e67 : h56 236 43 = h45 236 43 := (u56 236 43 rfl)
      have q68 : h56 253 = h45 253 := funext (fun i => (u56 253 i (fo_no_ok (by decide) i)))
      refine ct_338_236 hcr  g56   (show (h56 236 4) ≤ (h56 236 3) by omega) (show 1 ≤ (h56 236 8) ∨ (h56 236 42) + (h56 236 44) ≤ 2 * (h56 236 43) by omega) (fun e => by rw [q68, show h56 236 42 = h45 236 42 by omega, show h56 236 44 = h45 236 44 by omega]; exact y45_0 (by omega)) (fun h63 g63 u63 (p63_0 : (h56 236 4) ≤ (h63 236 4)) (p63_1 : (h63 236 4) ≤ (h56 236 3)) (p63_2 : 1 ≤ (h63 236 8) ∨ (h56 236 8) = 0) (p63_3 : (h56 236 6) ≠ 0 ∨ (h63 236 6) = 0) (p63_4 : 1 ≤ (h63 236 8) ∨ (h63 236 42) + (h63 236 44) ≤ 2 * (h63 236 43)) y63_0 => ?_)
      have F69 := F58.then (by decide +kernel) u63
      have F70 := F59.then (by decide +kernel) u63
      have b71 := gi_b (lo := 0) (hi := 800) g63 236 4 rfl
      have b72 := gi_b (lo := 0) (hi := 5) g63 236 8 rfl
      have b73 := gi_b (lo := 0) (hi := 4) g63 236 6 rfl
      have b74 := gi_b (lo := 0) (hi := 80) g63 236 42 rfl
      have b75 := gi_b (lo := 0) (hi := 2) g63 236 44 rfl
      have e76 : h63 236 43 = h45 236 43 := ((u63 236 43 rfl).trans (u56 236 43 rfl))
      refine wk_n ?_
      refine wi_goto (nx := 63) (r1 := 19) (r2 := 0) (r3 := 0) rfl ?_
      refine wi_aload_n (i := 0) (x := 236) (nx := 20) (r1 := 0) (r2 := 0) (r3 := 0) rfl rfl ?_
      refine wr_V (k0 := 236) (rest := []) (as := [.ref 236]) (nx := 23) (r1 := 219) (r2 := 0) (r3 := 11) rfl rfl rfl (of_decide_eq_true rfl) rfl rfl (by decide) rfl rfl (of_decide_eq_true rfl) (of_decide_eq_true rfl) ?_
      refine wi_aload_n (i := 0) (x := 236) (nx := 1) (r1 := 0) (r2 := 0) (r3 := 0) rfl rfl ?_
      refine wr_gi0 (k0 := 236) (x := h63 236 8) (nx := 4) (r1 := 11) (r2 := 8) (r3 := 0) rfl rfl (by decide) rfl ⟨rfl, rfl⟩ rfl rfl ?_
      refine wi_if (cd := .ne) (nx := 7) (r1 := 11) (r2 := 0) (r3 := 0) rfl (by omega) (fun (q77 : (h63 236 8) ≠ 0) => ?_) (fun (q77 : ¬ ((h63 236 8) ≠ 0)) => ?_)
      ·
        refine wi_iconst (n := 0) (nx := 12) (r1 := 0) (r2 := 0) (r3 := 0) rfl ?_
        refine wi_zreturn (nx := 13) (r1 := 0) (r2 := 0) (r3 := 0) rfl rfl (by omega) ?_
        refine wk_i ?_
        refine wi_if (cd := .eq) (nx := 26) (r1 := 63) (r2 := 0) (r3 := 0) rfl (by omega) (fun (q78 : 0 = 0) => ?_) (fun (q78 : ¬ (0 = 0)) => by exfalso; omega)
        refine wi_aload_n (i := 0) (x := 236) (nx := 64) (r1 := 0) (r2 := 0) (r3 := 0) rfl rfl ?_
        refine wr_V (k0 := 236) (rest := []) (as := [.ref 236]) (nx := 67) (r1 := 219) (r2 := 0) (r3 := 11) rfl rfl rfl (of_decide_eq_true rfl) rfl rfl (by decide) rfl rfl (of_decide_eq_true rfl) (of_decide_eq_true rfl) ?_
        refine wi_aload_n (i := 0) (x := 236) (nx := 1) (r1 := 0) (r2 := 0) (r3 := 0) rfl rfl ?_
        refine wr_gi0 (k0 := 236) (x := h63 236 8) (nx := 4) (r1 := 11) (r2 := 8) (r3 := 0) rfl rfl (by decide) rfl ⟨rfl, rfl⟩ rfl rfl ?_
        refine wi_if (cd := .ne) (nx := 7) (r1 := 11) (r2 := 0) (r3 := 0) rfl (by omega) (fun (q79 : (h63 236 8) ≠ 0) => ?_) (fun (q79 : ¬ ((h63 236 8) ≠ 0)) => by exfalso; omega)
        refine wi_iconst (n := 0) (nx := 12) (r1 := 0) (r2 := 0) (r3 := 0) rfl ?_
        refine wi_zreturn (nx := 13) (r1 := 0) (r2 := 0) (r3 := 0) rfl rfl (by omega) ?_
        refine wk_i ?_
        refine wi_if (cd := .eq) (nx := 70) (r1 := 82) (r2 := 0) (r3 := 0) rfl (by omega) (fun (q80 : 0 = 0) => ?_) (fun (q80 : ¬ (0 = 0)) => by exfalso; omega)
        refine wi_aload_n (i := 0) (x := 236) (nx := 83) (r1 := 0) (r2 := 0) (r3 := 0) rfl rfl ?_
        refine wr_V (k0 := 236) (rest := []) (as := [.ref 236]) (nx := 86) (r1 := 237) (r2 := 0) (r3 := 11) rfl rfl rfl (of_decide_eq_true rfl) rfl rfl (by decide) rfl rfl (of_decide_eq_true rfl) (of_decide_eq_true rfl) ?_
        refine wi_aload_n (i := 0) (x := 236) (nx := 1) (r1 := 0) (r2 := 0) (r3 := 0) rfl rfl ?_
        refine wi_aload_n (i := 0) (x := 236) (nx := 2) (r1 := 0) (r2 := 0) (r3 := 0) rfl rfl ?_
        refine wr_gi0 (k0 := 236) (x := h63 236 8) (nx := 5) (r1 := 11) (r2 := 8) (r3 := 0) rfl rfl (by decide) rfl ⟨rfl, rfl⟩ rfl rfl ?_
        refine wr_pf0 (k0 := 236) (x := h63 236 8) (bl := -2147483648) (bh := 2147483647) (nx := 8) (r1 := 11) (r2 := 10) (r3 := 0) rfl (by decide) rfl ⟨rfl, rfl⟩ rfl rfl g63 rfl (by omega) (fun h81 g81 w81 u81 => ?_)
        have F82 := F69.then rfl u81
        refine wi_aload_n (i := 0) (x := 236) (nx := 9) (r1 := 0) (r2 := 0) (r3 := 0) rfl rfl ?_
        refine wi_aload_n (i := 0) (x := 236) (nx := 10) (r1 := 0) (r2 := 0) (r3 := 0) rfl rfl ?_
        have b83 := gi_b (lo := -2147483648) (hi := 2147483647) g63 236 9 rfl
        refine wr_gi0 (k0 := 236) (x := h63 236 9) (nx := 13) (r1 := 11) (r2 := 9) (r3 := 0) rfl rfl (by decide) rfl ⟨rfl, rfl⟩ rfl (u81 236 9 rfl) ?_
        refine wr_pf0 (k0 := 236) (x := h63 236 9) (bl := -2147483648) (bh := 2147483647) (nx := 16) (r1 := 11) (r2 := 11) (r3 := 0) rfl (by decide) rfl ⟨rfl, rfl⟩ rfl rfl g81 rfl (by omega) (fun h84 g84 w84 u84 => ?_)
        have F85 := F82.then rfl u84
        refine wi_aload_n (i := 0) (x := 236) (nx := 17) (r1 := 0) (r2 := 0) (r3 := 0) rfl rfl ?_
        refine wi_aload_n (i := 0) (x := 236) (nx := 18) (r1 := 0) (r2 := 0) (r3 := 0) rfl rfl ?_
        refine wr_gi0 (k0 := 236) (x := h63 236 8) (nx := 21) (r1 := 11) (r2 := 8) (r3 := 0) rfl rfl (by decide) rfl ⟨rfl, rfl⟩ rfl ((u84 236 8 rfl).trans (u81 236 8 rfl)) ?_
        refine wi_if (cd := .ne) (nx := 24) (r1 := 28) (r2 := 0) (r3 := 0) rfl (by omega) (fun (q86 : (h63 236 8) ≠ 0) => ?_) (fun (q86 : ¬ ((h63 236 8) ≠ 0)) => by exfalso; omega)
        refine wi_iconst (n := 0) (nx := 29) (r1 := 0) (r2 := 0) (r3 := 0) rfl ?_
        refine wr_V (k0 := 236) (rest := []) (as := [.ref 236, vi 0]) (nx := 32) (r1 := 206) (r2 := 1) (r3 := 11) rfl rfl rfl (of_decide_eq_true rfl) rfl rfl (by decide) rfl rfl (of_decide_eq_true rfl) (of_decide_eq_true rfl) ?_
        refine wi_aload_n (i := 0) (x := 236) (nx := 1) (r1 := 0) (r2 := 0) (r3 := 0) rfl rfl ?_
        refine wi_iload_n (i := 1) (e := 0) (nx := 2) (r1 := 0) (r2 := 0) (r3 := 0) rfl rfl ?_
        refine wi_if (cd := .ne) (nx := 5) (r1 := 9) (r2 := 0) (r3 := 0) rfl (by omega) (fun (q87 : 0 ≠ 0) => by exfalso; omega) (fun (q87 : ¬ (0 ≠ 0)) => ?_)
        refine wi_iconst (n := 1) (nx := 6) (r1 := 0) (r2 := 0) (r3 := 0) rfl ?_
        refine wi_goto (nx := 9) (r1 := 10) (r2 := 0) (r3 := 0) rfl ?_
        refine wi_S (rest := [.ref 236]) (as := [vi 1]) (nx := 13) (r1 := 207) (r2 := 17) (r3 := 0) rfl rfl rfl (of_decide_eq_true rfl) rfl rfl (of_decide_eq_true rfl) (of_decide_eq_true rfl) ?_
        refine wi_iload_n (i := 0) (e := 1) (nx := 1) (r1 := 0) (r2 := 0) (r3 := 0) rfl rfl ?_
        refine wi_if (cd := .eq) (nx := 4) (r1 := 8) (r2 := 0) (r3 := 0) rfl (by omega) (fun (q88 : 1 = 0) => by exfalso; omega) (fun (q88 : ¬ (1 = 0)) => ?_)
        refine wi_iconst (n := 1) (nx := 5) (r1 := 0) (r2 := 0) (r3 := 0) rfl ?_
        refine wi_goto (nx := 8) (r1 := 9) (r2 := 0) (r3 := 0) rfl ?_
        refine wi_ireturn (nx := 10) (r1 := 0) (r2 := 0) (r3 := 0) rfl rfl ?_
        refine wk_i ?_
        refine wr_pf0 (k0 := 236) (x := 1) (bl := 0) (bh := 2) (nx := 16) (r1 := 11) (r2 := 0) (r3 := 0) rfl (by decide) rfl ⟨rfl, rfl⟩ rfl rfl g84 rfl (by omega) (fun h89 g89 w89 u89 => ?_)
        have F90 := F85.then rfl u89
        refine wi_iload_n (i := 1) (e := 0) (nx := 17) (r1 := 0) (r2 := 0) (r3 := 0) rfl rfl ?_
        refine wi_zreturn (nx := 18) (r1 := 0) (r2 := 0) (r3 := 0) rfl rfl (by omega) ?_
        refine wk_i ?_
        refine wi_zreturn (nx := 33) (r1 := 0) (r2 := 0) (r3 := 0) rfl rfl (by omega) ?_
        refine wk_i ?_
        refine wi_if (cd := .ne) (nx := 89) (r1 := 91) (r2 := 0) (r3 := 0) rfl (by omega) (fun (q91 : 0 ≠ 0) => by exfalso; omega) (fun (q91 : ¬ (0 ≠ 0)) => ?_)
        refine wi_iconst (n := 0) (nx := 90) (r1 := 0) (r2 := 0) (r3 := 0) rfl ?_
        refine wi_ireturn (nx := 91) (r1 := 0) (r2 := 0) (r3 := 0) rfl rfl ?_
        have e92 : h89 238 98 = h 238 98 := ((u89 238 98 rfl).trans ((u84 238 98 rfl).trans ((u81 238 98 rfl).trans ((u63 238 98 rfl).trans ((u56 238 98 rfl).trans ((u45 238 98 rfl).trans ((u29 238 98 rfl).trans ((u23 238 98 rfl).trans ((u21 238 98 rfl).trans ((u19 238 98 rfl).trans (u13 238 98 rfl)))))))))))
        have e93 : h89 238 99 = h 238 99 := ((u89 238 99 rfl).trans ((u84 238 99 rfl).trans ((u81 238 99 rfl).trans ((u63 238 99 rfl).trans ((u56 238 99 rfl).trans ((u45 238 99 rfl).trans ((u29 238 99 rfl).trans ((u23 238 99 rfl).trans ((u21 238 99 rfl).trans ((u19 238 99 rfl).trans (u13 238 99 rfl)))))))))))
        have e94 : h89 238 100 = h 238 100 := ((u89 238 100 rfl).trans ((u84 238 100 rfl).trans ((u81 238 100 rfl).trans ((u63 238 100 rfl).trans ((u56 238 100 rfl).trans ((u45 238 100 rfl).trans ((u29 238 100 rfl).trans ((u23 238 100 rfl).trans ((u21 238 100 rfl).trans ((u19 238 100 rfl).trans (u13 238 100 rfl)))))))))))
        have e95 : h89 238 101 = h 238 101 := ((u89 238 101 rfl).trans ((u84 238 101 rfl).trans ((u81 238 101 rfl).trans ((u63 238 101 rfl).trans ((u56 238 101 rfl).trans ((u45 238 101 rfl).trans ((u29 238 101 rfl).trans ((u23 238 101 rfl).trans ((u21 238 101 rfl).trans ((u19 238 101 rfl).trans (u13 238 101 rfl)))))))))))
        have e96 : h89 238 102 = h 238 102 := ((u89 238 102 rfl).trans ((u84 238 102 rfl).trans ((u81 238 102 rfl).trans ((u63 238 102 rfl).trans ((u56 238 102 rfl).trans ((u45 238 102 rfl).trans ((u29 238 102 rfl).trans ((u23 238 102 rfl).trans ((u21 238 102 rfl).trans ((u19 238 102 rfl).trans (u13 238 102 rfl)))))))))))
        have e97 : h89 238 106 = h 238 106 := ((u89 238 106 rfl).trans ((u84 238 106 rfl).trans ((u81 238 106 rfl).trans ((u63 238 106 rfl).trans ((u56 238 106 rfl).trans ((u45 238 106 rfl).trans ((u29 238 106 rfl).trans ((u23 238 106 rfl).trans ((u21 238 106 rfl).trans ((u19 238 106 rfl).trans (u13 238 106 rfl)))))))))))
        have e98 : h89 238 73 = h 238 73 := ((u89 238 73 rfl).trans ((u84 238 73 rfl).trans ((u81 238 73 rfl).trans ((u63 238 73 rfl).trans ((u56 238 73 rfl).trans ((u45 238 73 rfl).trans ((u29 238 73 rfl).trans ((u23 238 73 rfl).trans ((u21 238 73 rfl).trans ((u19 238 73 rfl).trans (u13 238 73 rfl)))))))))))
        have e99 : h89 238 2 = h 238 2 := ((u89 238 2 rfl).trans ((u84 238 2 rfl).trans ((u81 238 2 rfl).trans ((u63 238 2 rfl).trans ((u56 238 2 rfl).trans ((u45 238 2 rfl).trans ((u29 238 2 rfl).trans ((u23 238 2 rfl).trans ((u21 238 2 rfl).trans ((u19 238 2 rfl).trans (u13 238 2 rfl)))))))))))
        have e100 : h89 238 119 = h 238 119 := ((u89 238 119 rfl).trans ((u84 238 119 rfl).trans ((u81 238 119 rfl).trans ((u63 238 119 rfl).trans ((u56 238 119 rfl).trans ((u45 238 119 rfl).trans ((u29 238 119 rfl).trans ((u23 238 119 rfl).trans ((u21 238 119 rfl).trans ((u19 238 119 rfl).trans (u13 238 119 rfl)))))))))))
        have e101 : h89 238 67 = h 238 67 := ((u89 238 67 rfl).trans ((u84 238 67 rfl).trans ((u81 238 67 rfl).trans ((u63 238 67 rfl).trans ((u56 238 67 rfl).trans ((u45 238 67 rfl).trans ((u29 238 67 rfl).trans ((u23 238 67 rfl).trans ((u21 238 67 rfl).trans ((u19 238 67 rfl).trans (u13 238 67 rfl)))))))))))
        have e102 : h89 238 69 = h 238 69 := ((u89 238 69 rfl).trans ((u84 238 69 rfl).trans ((u81 238 69 rfl).trans ((u63 238 69 rfl).trans ((u56 238 69 rfl).trans ((u45 238 69 rfl).trans ((u29 238 69 rfl).trans ((u23 238 69 rfl).trans ((u21 238 69 rfl).trans ((u19 238 69 rfl).trans (u13 238 69 rfl)))))))))))
        have e103 : h89 238 5 = h 238 5 := ((u89 238 5 rfl).trans ((u84 238 5 rfl).trans ((u81 238 5 rfl).trans ((u63 238 5 rfl).trans ((u56 238 5 rfl).trans ((u45 238 5 rfl).trans ((u29 238 5 rfl).trans ((u23 238 5 rfl).trans ((u21 238 5 rfl).trans ((u19 238 5 rfl).trans (u13 238 5 rfl)))))))))))
        have e104 : h89 236 2 = h13 236 2 := ((u89 236 2 rfl).trans ((u84 236 2 rfl).trans ((u81 236 2 rfl).trans ((u63 236 2 rfl).trans ((u56 236 2 rfl).trans ((u45 236 2 rfl).trans ((u29 236 2 rfl).trans ((u23 236 2 rfl).trans ((u21 236 2 rfl).trans (u19 236 2 rfl))))))))))
        have gp105 := GPH.fr u13 rfl gp0
        have gp106 := GPH.fr u19 rfl gp105
        have gp107 := GPH.fr u21 rfl gp106
        have gp108 := GPH.fr u23 rfl gp107
        have gp109 := GPH.fr u29 rfl gp108
        have gp110 := GPH.fr u45 rfl gp109
        have gp111 := GPH.fr u56 rfl gp110
        have gp112 := GPH.fr u63 rfl gp111
        have gp113 := GPH.fr u81 rfl gp112
        have gp114 := GPH.fr u84 rfl gp113
        have gp115 := GPH.fr u89 rfl gp114
        exact k h89 0 g89 F90 (by omega) (show (h89 238 98) + (h89 238 99) + (h89 238 100) + (h89 238 101) + (h89 238 102) + (h89 238 106) = (h89 238 73) by omega) (show (h89 238 73) ≤ (h89 238 2) by omega) (show (h89 238 119) ≤ (h89 238 67) by omega) (show (h89 238 69) ≤ (h89 238 5) by omega) (show (h89 238 2) ≤ 12 * (h89 238 5) by omega) (show (h89 236 2) = 0 by omega) gp115
      ·
        refine wi_iconst (n := 1) (nx := 8) (r1 := 0) (r2 := 0) (r3 := 0) rfl ?_
        refine wi_goto (nx := 11) (r1 := 12) (r2 := 0) (r3 := 0) rfl ?_
        refine wi_zreturn (nx := 13) (r1 := 0) (r2 := 0) (r3 := 0) rfl rfl (by omega) ?_
        refine wk_i ?_
        refine wi_if (cd := .eq) (nx := 26) (r1 := 63) (r2 := 0) (r3 := 0) rfl (by omega) (fun (q78 : 1 = 0) => by exfalso; omega) (fun (q78 : ¬ (1 = 0)) => ?_)
        refine wi_aload_n (i := 0) (x := 236) (nx := 27) (r1 := 0) (r2 := 0) (r3 := 0) rfl rfl ?_
        refine wr_gi0 (k0 := 236) (x := h63 236 6) (nx := 30) (r1 := 11) (r2 := 6) (r3 := 0) rfl rfl (by decide) rfl ⟨rfl, rfl⟩ rfl rfl ?_
        refine wi_if (cd := .eq) (nx := 33) (r1 := 63) (r2 := 0) (r3 := 0) rfl (by omega) (fun (q79 : (h63 236 6) = 0) => ?_) (fun (q79 : ¬ ((h63 236 6) = 0)) => ?_)
        ·
          refine wi_aload_n (i := 0) (x := 236) (nx := 64) (r1 := 0) (r2 := 0) (r3 := 0) rfl rfl ?_
          refine wr_V (k0 := 236) (rest := []) (as := [.ref 236]) (nx := 67) (r1 := 219) (r2 := 0) (r3 := 11) rfl rfl rfl (of_decide_eq_true rfl) rfl rfl (by decide) rfl rfl (of_decide_eq_true rfl) (of_decide_eq_true rfl) ?_
          refine wi_aload_n (i := 0) (x := 236) (nx := 1) (r1 := 0) (r2 := 0) (r3 := 0) rfl rfl ?_
          refine wr_gi0 (k0 := 236) (x := h63 236 8) (nx := 4) (r1 := 11) (r2 := 8) (r3 := 0) rfl rfl (by decide) rfl ⟨rfl, rfl⟩ rfl rfl ?_
          refine wi_if (cd := .ne) (nx := 7) (r1 := 11) (r2 := 0) (r3 := 0) rfl (by omega) (fun (q80 : (h63 236 8) ≠ 0) => by exfalso; omega) (fun (q80 : ¬ ((h63 236 8) ≠ 0)) => ?_)
          refine wi_iconst (n := 1) (nx := 8) (r1 := 0) (r2 := 0) (r3 := 0) rfl ?_
          refine wi_goto (nx := 11) (r1 := 12) (r2 := 0) (r3 := 0) rfl ?_
          refine wi_zreturn (nx := 13) (r1 := 0) (r2 := 0) (r3 := 0) rfl rfl (by omega) ?_
          refine wk_i ?_
          refine wi_if (cd := .eq) (nx := 70) (r1 := 82) (r2 := 0) (r3 := 0) rfl (by omega) (fun (q81 : 1 = 0) => by exfalso; omega) (fun (q81 : ¬ (1 = 0)) => ?_)
          refine wi_aload_n (i := 0) (x := 236) (nx := 71) (r1 := 0) (r2 := 0) (r3 := 0) rfl rfl ?_
          refine wr_gi0 (k0 := 236) (x := h63 236 44) (nx := 74) (r1 := 11) (r2 := 44) (r3 := 0) rfl rfl (by decide) rfl ⟨rfl, rfl⟩ rfl rfl ?_
          refine wi_if (cd := .le) (nx := 77) (r1 := 82) (r2 := 0) (r3 := 0) rfl (by omega) (fun (q82 : (h63 236 44) ≤ 0) => ?_) (fun (q82 : ¬ ((h63 236 44) ≤ 0)) => ?_)
          ·
            refine wi_aload_n (i := 0) (x := 236) (nx := 83) (r1 := 0) (r2 := 0) (r3 := 0) rfl rfl ?_
            refine wr_V (k0 := 236) (rest := []) (as := [.ref 236]) (nx := 86) (r1 := 237) (r2 := 0) (r3 := 11) rfl rfl rfl (of_decide_eq_true rfl) rfl rfl (by decide) rfl rfl (of_decide_eq_true rfl) (of_decide_eq_true rfl) ?_
            refine wi_aload_n (i := 0) (x := 236) (nx := 1) (r1 := 0) (r2 := 0) (r3 := 0) rfl rfl ?_
            refine wi_aload_n (i := 0) (x := 236) (nx := 2) (r1 := 0) (r2 := 0) (r3 := 0) rfl rfl ?_
            refine wr_gi0 (k0 := 236) (x := h63 236 8) (nx := 5) (r1 := 11) (r2 := 8) (r3 := 0) rfl rfl (by decide) rfl ⟨rfl, rfl⟩ rfl rfl ?_
            refine wr_pf0 (k0 := 236) (x := h63 236 8) (bl := -2147483648) (bh := 2147483647) (nx := 8) (r1 := 11) (r2 := 10) (r3 := 0) rfl (by decide) rfl ⟨rfl, rfl⟩ rfl rfl g63 rfl (by omega) (fun h83 g83 w83 u83 => ?_)
            have F84 := F69.then rfl u83
            refine wi_aload_n (i := 0) (x := 236) (nx := 9) (r1 := 0) (r2 := 0) (r3 := 0) rfl rfl ?_
            refine wi_aload_n (i := 0) (x := 236) (nx := 10) (r1 := 0) (r2 := 0) (r3 := 0) rfl rfl ?_
            have b85 := gi_b (lo := -2147483648) (hi := 2147483647) g63 236 9 rfl
            refine wr_gi0 (k0 := 236) (x := h63 236 9) (nx := 13) (r1 := 11) (r2 := 9) (r3 := 0) rfl rfl (by decide) rfl ⟨rfl, rfl⟩ rfl (u83 236 9 rfl) ?_
            refine wr_pf0 (k0 := 236) (x := h63 236 9) (bl := -2147483648) (bh := 2147483647) (nx := 16) (r1 := 11) (r2 := 11) (r3 := 0) rfl (by decide) rfl ⟨rfl, rfl⟩ rfl rfl g83 rfl (by omega) (fun h86 g86 w86 u86 => ?_)
            have F87 := F84.then rfl u86
            refine wi_aload_n (i := 0) (x := 236) (nx := 17) (r1 := 0) (r2 := 0) (r3 := 0) rfl rfl ?_
            refine wi_aload_n (i := 0) (x := 236) (nx := 18) (r1 := 0) (r2 := 0) (r3 := 0) rfl rfl ?_
            refine wr_gi0 (k0 := 236) (x := h63 236 8) (nx := 21) (r1 := 11) (r2 := 8) (r3 := 0) rfl rfl (by decide) rfl ⟨rfl, rfl⟩ rfl ((u86 236 8 rfl).trans (u83 236 8 rfl)) ?_
            refine wi_if (cd := .ne) (nx := 24) (r1 := 28) (r2 := 0) (r3 := 0) rfl (by omega) (fun (q88 : (h63 236 8) ≠ 0) => by exfalso; omega) (fun (q88 : ¬ ((h63 236 8) ≠ 0)) => ?_)
            refine wi_iconst (n := 1) (nx := 25) (r1 := 0) (r2 := 0) (r3 := 0) rfl ?_
            refine wi_goto (nx := 28) (r1 := 29) (r2 := 0) (r3 := 0) rfl ?_
            refine wr_V (k0 := 236) (rest := []) (as := [.ref 236, vi 1]) (nx := 32) (r1 := 206) (r2 := 1) (r3 := 11) rfl rfl rfl (of_decide_eq_true rfl) rfl rfl (by decide) rfl rfl (of_decide_eq_true rfl) (of_decide_eq_true rfl) ?_
            refine wi_aload_n (i := 0) (x := 236) (nx := 1) (r1 := 0) (r2 := 0) (r3 := 0) rfl rfl ?_
            refine wi_iload_n (i := 1) (e := 1) (nx := 2) (r1 := 0) (r2 := 0) (r3 := 0) rfl rfl ?_
            refine wi_if (cd := .ne) (nx := 5) (r1 := 9) (r2 := 0) (r3 := 0) rfl (by omega) (fun (q89 : 1 ≠ 0) => ?_) (fun (q89 : ¬ (1 ≠ 0)) => by exfalso; omega)
            refine wi_iconst (n := 0) (nx := 10) (r1 := 0) (r2 := 0) (r3 := 0) rfl ?_
            refine wi_S (rest := [.ref 236]) (as := [vi 0]) (nx := 13) (r1 := 207) (r2 := 17) (r3 := 0) rfl rfl rfl (of_decide_eq_true rfl) rfl rfl (of_decide_eq_true rfl) (of_decide_eq_true rfl) ?_
            refine wi_iload_n (i := 0) (e := 0) (nx := 1) (r1 := 0) (r2 := 0) (r3 := 0) rfl rfl ?_
            refine wi_if (cd := .eq) (nx := 4) (r1 := 8) (r2 := 0) (r3 := 0) rfl (by omega) (fun (q90 : 0 = 0) => ?_) (fun (q90 : ¬ (0 = 0)) => by exfalso; omega)
            refine wi_iconst (n := 0) (nx := 9) (r1 := 0) (r2 := 0) (r3 := 0) rfl ?_
            refine wi_ireturn (nx := 10) (r1 := 0) (r2 := 0) (r3 := 0) rfl rfl ?_
            refine wk_i ?_
            refine wr_pf0 (k0 := 236) (x := 0) (bl := 0) (bh := 2) (nx := 16) (r1 := 11) (r2 := 0) (r3 := 0) rfl (by decide) rfl ⟨rfl, rfl⟩ rfl rfl g86 rfl (by omega) (fun h91 g91 w91 u91 => ?_)
            have F92 := F87.then rfl u91
            refine wi_iload_n (i := 1) (e := 1) (nx := 17) (r1 := 0) (r2 := 0) (r3 := 0) rfl rfl ?_
            refine wi_zreturn (nx := 18) (r1 := 0) (r2 := 0) (r3 := 0) rfl rfl (by omega) ?_
            refine wk_i ?_
            refine wi_zreturn (nx := 33) (r1 := 0) (r2 := 0) (r3 := 0) rfl rfl (by omega) ?_
            refine wk_i ?_
            refine wi_if (cd := .ne) (nx := 89) (r1 := 91) (r2 := 0) (r3 := 0) rfl (by omega) (fun (q93 : 1 ≠ 0) => ?_) (fun (q93 : ¬ (1 ≠ 0)) => by exfalso; omega)
            refine wi_aload_n (i := 0) (x := 236) (nx := 92) (r1 := 0) (r2 := 0) (r3 := 0) rfl rfl ?_
            refine wr_gr (k0 := 236) (x := 238) (nx := 95) (r1 := 11) (r2 := 13) (r3 := 0) rfl rfl (by decide) rfl ⟨rfl, rfl⟩ rfl ?_
            refine wi_aload_n (i := 0) (x := 236) (nx := 96) (r1 := 0) (r2 := 0) (r3 := 0) rfl rfl ?_
            refine wr_gr (k0 := 236) (x := 257) (nx := 99) (r1 := 11) (r2 := 41) (r3 := 0) rfl rfl (by decide) rfl ⟨rfl, rfl⟩ rfl ?_
            refine wi_S (rest := []) (as := [.ref 238, .ref 257]) (nx := 102) (r1 := 238) (r2 := 18) (r3 := 0) rfl rfl rfl (of_decide_eq_true rfl) rfl rfl (of_decide_eq_true rfl) (of_decide_eq_true rfl) ?_
            refine ct_238_238_257 hcr  g91    (fun h94 g94 u94 y94_0 => ?_)
            have F95 := F92.then (by decide +kernel) u94
            refine wk_n ?_
            refine wi_aload_n (i := 0) (x := 236) (nx := 103) (r1 := 0) (r2 := 0) (r3 := 0) rfl rfl ?_
            refine wi_iconst (n := 0) (nx := 104) (r1 := 0) (r2 := 0) (r3 := 0) rfl ?_
            refine wr_pf2 (k0 := 236) (x := 0) (bl := 0) (bh := 1) (nx := 107) (r1 := 11) (r2 := 45) (r3 := 2) rfl (by decide) rfl ⟨rfl, rfl⟩ rfl (by omega) rfl g94 rfl (by omega) (fun h96 g96 w96 u96 => ?_)
            have F97 := F95.then rfl u96
            refine wi_aload_n (i := 0) (x := 236) (nx := 108) (r1 := 0) (r2 := 0) (r3 := 0) rfl rfl ?_
            refine wr_V (k0 := 236) (rest := []) (as := [.ref 236]) (nx := 111) (r1 := 339) (r2 := 0) (r3 := 11) rfl rfl rfl (of_decide_eq_true rfl) rfl rfl (by decide) rfl rfl (of_decide_eq_true rfl) (of_decide_eq_true rfl) ?_
            have e99 : h96 238 98 = h 238 98 := ((u96 238 98 rfl).trans ((u94 238 98 rfl).trans ((u91 238 98 rfl).trans ((u86 238 98 rfl).trans ((u83 238 98 rfl).trans ((u63 238 98 rfl).trans ((u56 238 98 rfl).trans ((u45 238 98 rfl).trans ((u29 238 98 rfl).trans ((u23 238 98 rfl).trans ((u21 238 98 rfl).trans ((u19 238 98 rfl).trans (u13 238 98 rfl)))))))))))))
            have e100 : h96 238 99 = h 238 99 := ((u96 238 99 rfl).trans ((u94 238 99 rfl).trans ((u91 238 99 rfl).trans ((u86 238 99 rfl).trans ((u83 238 99 rfl).trans ((u63 238 99 rfl).trans ((u56 238 99 rfl).trans ((u45 238 99 rfl).trans ((u29 238 99 rfl).trans ((u23 238 99 rfl).trans ((u21 238 99 rfl).trans ((u19 238 99 rfl).trans (u13 238 99 rfl)))))))))))))
            have e101 : h96 238 100 = h 238 100 := ((u96 238 100 rfl).trans ((u94 238 100 rfl).trans ((u91 238 100 rfl).trans ((u86 238 100 rfl).trans ((u83 238 100 rfl).trans ((u63 238 100 rfl).trans ((u56 238 100 rfl).trans ((u45 238 100 rfl).trans ((u29 238 100 rfl).trans ((u23 238 100 rfl).trans ((u21 238 100 rfl).trans ((u19 238 100 rfl).trans (u13 238 100 rfl)))))))))))))
            have e102 : h96 238 101 = h 238 101 := ((u96 238 101 rfl).trans ((u94 238 101 rfl).trans ((u91 238 101 rfl).trans ((u86 238 101 rfl).trans ((u83 238 101 rfl).trans ((u63 238 101 rfl).trans ((u56 238 101 rfl).trans ((u45 238 101 rfl).trans ((u29 238 101 rfl).trans ((u23 238 101 rfl).trans ((u21 238 101 rfl).trans ((u19 238 101 rfl).trans (u13 238 101 rfl)))))))))))))
            have e103 : h96 238 102 = h 238 102 := ((u96 238 102 rfl).trans ((u94 238 102 rfl).trans ((u91 238 102 rfl).trans ((u86 238 102 rfl).trans ((u83 238 102 rfl).trans ((u63 238 102 rfl).trans ((u56 238 102 rfl).trans ((u45 238 102 rfl).trans ((u29 238 102 rfl).trans ((u23 238 102 rfl).trans ((u21 238 102 rfl).trans ((u19 238 102 rfl).trans (u13 238 102 rfl)))))))))))))
            have e104 : h96 238 106 = h 238 106 := ((u96 238 106 rfl).trans ((u94 238 106 rfl).trans ((u91 238 106 rfl).trans ((u86 238 106 rfl).trans ((u83 238 106 rfl).trans ((u63 238 106 rfl).trans ((u56 238 106 rfl).trans ((u45 238 106 rfl).trans ((u29 238 106 rfl).trans ((u23 238 106 rfl).trans ((u21 238 106 rfl).trans ((u19 238 106 rfl).trans (u13 238 106 rfl)))))))))))))
            have e105 : h96 238 73 = h 238 73 := ((u96 238 73 rfl).trans ((u94 238 73 rfl).trans ((u91 238 73 rfl).trans ((u86 238 73 rfl).trans ((u83 238 73 rfl).trans ((u63 238 73 rfl).trans ((u56 238 73 rfl).trans ((u45 238 73 rfl).trans ((u29 238 73 rfl).trans ((u23 238 73 rfl).trans ((u21 238 73 rfl).trans ((u19 238 73 rfl).trans (u13 238 73 rfl)))))))))))))
            have e106 : h96 238 2 = h 238 2 := ((u96 238 2 rfl).trans ((u94 238 2 rfl).trans ((u91 238 2 rfl).trans ((u86 238 2 rfl).trans ((u83 238 2 rfl).trans ((u63 238 2 rfl).trans ((u56 238 2 rfl).trans ((u45 238 2 rfl).trans ((u29 238 2 rfl).trans ((u23 238 2 rfl).trans ((u21 238 2 rfl).trans ((u19 238 2 rfl).trans (u13 238 2 rfl)))))))))))))
            have e107 : h96 238 119 = h 238 119 := ((u96 238 119 rfl).trans ((u94 238 119 rfl).trans ((u91 238 119 rfl).trans ((u86 238 119 rfl).trans ((u83 238 119 rfl).trans ((u63 238 119 rfl).trans ((u56 238 119 rfl).trans ((u45 238 119 rfl).trans ((u29 238 119 rfl).trans ((u23 238 119 rfl).trans ((u21 238 119 rfl).trans ((u19 238 119 rfl).trans (u13 238 119 rfl)))))))))))))
            have e108 : h96 238 67 = h 238 67 := ((u96 238 67 rfl).trans ((u94 238 67 rfl).trans ((u91 238 67 rfl).trans ((u86 238 67 rfl).trans ((u83 238 67 rfl).trans ((u63 238 67 rfl).trans ((u56 238 67 rfl).trans ((u45 238 67 rfl).trans ((u29 238 67 rfl).trans ((u23 238 67 rfl).trans ((u21 238 67 rfl).trans ((u19 238 67 rfl).trans (u13 238 67 rfl)))))))))))))
            have e109 : h96 238 69 = h 238 69 := ((u96 238 69 rfl).trans ((u94 238 69 rfl).trans ((u91 238 69 rfl).trans ((u86 238 69 rfl).trans ((u83 238 69 rfl).trans ((u63 238 69 rfl).trans ((u56 238 69 rfl).trans ((u45 238 69 rfl).trans ((u29 238 69 rfl).trans ((u23 238 69 rfl).trans ((u21 238 69 rfl).trans ((u19 238 69 rfl).trans (u13 238 69 rfl)))))))))))))
            have e110 : h96 238 5 = h 238 5 := ((u96 238 5 rfl).trans ((u94 238 5 rfl).trans ((u91 238 5 rfl).trans ((u86 238 5 rfl).trans ((u83 238 5 rfl).trans ((u63 238 5 rfl).trans ((u56 238 5 rfl).trans ((u45 238 5 rfl).trans ((u29 238 5 rfl).trans ((u23 238 5 rfl).trans ((u21 238 5 rfl).trans ((u19 238 5 rfl).trans (u13 238 5 rfl)))))))))))))
            have e112 : h96 236 42 = h63 236 42 := ((u96 236 42 rfl).trans ((u94 236 42 rfl).trans ((u91 236 42 rfl).trans ((u86 236 42 rfl).trans (u83 236 42 rfl)))))
            have e113 : h96 236 44 = h63 236 44 := ((u96 236 44 rfl).trans ((u94 236 44 rfl).trans ((u91 236 44 rfl).trans ((u86 236 44 rfl).trans (u83 236 44 rfl)))))
            have e114 : h96 236 8 = h63 236 8 := ((u96 236 8 rfl).trans ((u94 236 8 rfl).trans ((u91 236 8 rfl).trans ((u86 236 8 rfl).trans (u83 236 8 rfl)))))
            have q115 : h96 253 = h63 253 := funext (fun i => ((u96 253 i rfl).trans ((u94 253 i (fo_no_ok (by decide) i)).trans ((u91 253 i rfl).trans ((u86 253 i rfl).trans (u83 253 i rfl))))))
            refine ct_339_236 hcr  g96   (show (h96 238 98) + (h96 238 99) + (h96 238 100) + (h96 238 101) + (h96 238 102) + (h96 238 106) = (h96 238 73) by omega) (show (h96 238 73) ≤ (h96 238 2) by omega) (show (h96 238 119) ≤ (h96 238 67) by omega) (show (h96 238 69) ≤ (h96 238 5) by omega) (show (h96 238 2) ≤ 12 * (h96 238 5) by omega) (by rw [q115, show h96 236 42 = h63 236 42 by omega, show h96 236 44 = h63 236 44 by omega]; exact y63_0 (by omega)) (fun h98 z111 g98 u98 (fz111 : 0 ≤ z111 ∧ z111 ≤ 100) (p98_0 : (h98 238 98) + (h98 238 99) + (h98 238 100) + (h98 238 101) + (h98 238 102) + (h98 238 106) = (h98 238 73)) (p98_1 : (h98 238 73) ≤ (h98 238 2)) (p98_2 : (h98 238 119) ≤ (h98 238 67)) (p98_3 : (h98 238 69) ≤ (h98 238 5)) (p98_4 : (h98 238 2) ≤ 12 * (h98 238 5)) => ?_)
            have F116 := F97.then (by decide +kernel) u98
            have b117 := gi_b (lo := 0) (hi := 6) g98 238 98 rfl
            have b118 := gi_b (lo := 0) (hi := 6) g98 238 99 rfl
            have b119 := gi_b (lo := 0) (hi := 6) g98 238 100 rfl
            have b120 := gi_b (lo := 0) (hi := 6) g98 238 101 rfl
            have b121 := gi_b (lo := 0) (hi := 3) g98 238 102 rfl
            have b122 := gi_b (lo := 0) (hi := 12) g98 238 106 rfl
            have b123 := gi_b (lo := 0) (hi := 12) g98 238 73 rfl
            have e124 : h98 238 2 = h 238 2 := ((u98 238 2 rfl).trans ((u96 238 2 rfl).trans ((u94 238 2 rfl).trans ((u91 238 2 rfl).trans ((u86 238 2 rfl).trans ((u83 238 2 rfl).trans ((u63 238 2 rfl).trans ((u56 238 2 rfl).trans ((u45 238 2 rfl).trans ((u29 238 2 rfl).trans ((u23 238 2 rfl).trans ((u21 238 2 rfl).trans ((u19 238 2 rfl).trans (u13 238 2 rfl))))))))))))))
            have b125 := gi_b (lo := 0) (hi := 9999) g98 238 119 rfl
            have b126 := gi_b (lo := 0) (hi := 9999) g98 238 67 rfl
            have b127 := gi_b (lo := 0) (hi := 9) g98 238 69 rfl
            have e128 : h98 238 5 = h 238 5 := ((u98 238 5 rfl).trans ((u96 238 5 rfl).trans ((u94 238 5 rfl).trans ((u91 238 5 rfl).trans ((u86 238 5 rfl).trans ((u83 238 5 rfl).trans ((u63 238 5 rfl).trans ((u56 238 5 rfl).trans ((u45 238 5 rfl).trans ((u29 238 5 rfl).trans ((u23 238 5 rfl).trans ((u21 238 5 rfl).trans ((u19 238 5 rfl).trans (u13 238 5 rfl))))))))))))))
            refine wk_i ?_
            refine wi_istore_n (i := 1) (e := z111) (lo2 := [(1, vi z111), (0, .ref 236)]) (nx := 112) (r1 := 0) (r2 := 0) (r3 := 0) rfl rfl ?_
            refine wi_aload_n (i := 0) (x := 236) (nx := 113) (r1 := 0) (r2 := 0) (r3 := 0) rfl rfl ?_
            have b129 := gi_b (lo := 0) (hi := 1) g98 236 45 rfl
            refine wr_gi2 (k0 := 236) (x := h98 236 45) (nx := 116) (r1 := 11) (r2 := 45) (r3 := 0) rfl rfl (by decide) rfl ⟨rfl, rfl⟩ rfl rfl ?_
            refine wi_if (cd := .ne) (nx := 119) (r1 := 121) (r2 := 0) (r3 := 0) rfl (by omega) (fun (q130 : (h98 236 45) ≠ 0) => ?_) (fun (q130 : ¬ ((h98 236 45) ≠ 0)) => ?_)
            ·
              refine wi_aload_n (i := 0) (x := 236) (nx := 122) (r1 := 0) (r2 := 0) (r3 := 0) rfl rfl ?_
              refine wr_gr (k0 := 236) (x := 257) (nx := 125) (r1 := 11) (r2 := 41) (r3 := 0) rfl rfl (by decide) rfl ⟨rfl, rfl⟩ rfl ?_
              refine wi_aload_n (i := 0) (x := 236) (nx := 126) (r1 := 0) (r2 := 0) (r3 := 0) rfl rfl ?_
              refine wr_gr (k0 := 236) (x := 240) (nx := 129) (r1 := 11) (r2 := 15) (r3 := 0) rfl rfl (by decide) rfl ⟨rfl, rfl⟩ rfl ?_
              refine wi_S (rest := []) (as := [.ref 257, .ref 240]) (nx := 132) (r1 := 238) (r2 := 18) (r3 := 0) rfl rfl rfl (of_decide_eq_true rfl) rfl rfl (of_decide_eq_true rfl) (of_decide_eq_true rfl) ?_
              refine ct_238_257_240 hcr  g98    (fun h131 g131 u131 y131_0 => ?_)
              have F132 := F116.then (by decide +kernel) u131
              refine wk_n ?_
              refine wi_aload_n (i := 0) (x := 236) (nx := 133) (r1 := 0) (r2 := 0) (r3 := 0) rfl rfl ?_
              refine wr_V (k0 := 236) (rest := []) (as := [.ref 236]) (nx := 136) (r1 := 315) (r2 := 0) (r3 := 11) rfl rfl rfl (of_decide_eq_true rfl) rfl rfl (by decide) rfl rfl (of_decide_eq_true rfl) (of_decide_eq_true rfl) ?_
              have e134 : h131 238 98 = h98 238 98 := (u131 238 98 rfl)
              have e135 : h131 238 99 = h98 238 99 := (u131 238 99 rfl)
              have e136 : h131 238 100 = h98 238 100 := (u131 238 100 rfl)
              have e137 : h131 238 101 = h98 238 101 := (u131 238 101 rfl)
              have e138 : h131 238 102 = h98 238 102 := (u131 238 102 rfl)
              have e139 : h131 238 106 = h98 238 106 := (u131 238 106 rfl)
              have e140 : h131 238 73 = h98 238 73 := (u131 238 73 rfl)
              have e141 : h131 238 2 = h 238 2 := ((u131 238 2 rfl).trans ((u98 238 2 rfl).trans ((u96 238 2 rfl).trans ((u94 238 2 rfl).trans ((u91 238 2 rfl).trans ((u86 238 2 rfl).trans ((u83 238 2 rfl).trans ((u63 238 2 rfl).trans ((u56 238 2 rfl).trans ((u45 238 2 rfl).trans ((u29 238 2 rfl).trans ((u23 238 2 rfl).trans ((u21 238 2 rfl).trans ((u19 238 2 rfl).trans (u13 238 2 rfl)))))))))))))))
              have e142 : h131 238 119 = h98 238 119 := (u131 238 119 rfl)
              have e143 : h131 238 67 = h98 238 67 := (u131 238 67 rfl)
              have e144 : h131 238 69 = h98 238 69 := (u131 238 69 rfl)
              have e145 : h131 238 5 = h 238 5 := ((u131 238 5 rfl).trans ((u98 238 5 rfl).trans ((u96 238 5 rfl).trans ((u94 238 5 rfl).trans ((u91 238 5 rfl).trans ((u86 238 5 rfl).trans ((u83 238 5 rfl).trans ((u63 238 5 rfl).trans ((u56 238 5 rfl).trans ((u45 238 5 rfl).trans ((u29 238 5 rfl).trans ((u23 238 5 rfl).trans ((u21 238 5 rfl).trans ((u19 238 5 rfl).trans (u13 238 5 rfl)))))))))))))))
              have e146 : h131 240 98 = h 238 98 := ((y131_0 98 (by decide)).trans ((u98 257 98 rfl).trans ((u96 257 98 rfl).trans ((y94_0 98 (by decide)).trans ((u91 238 98 rfl).trans ((u86 238 98 rfl).trans ((u83 238 98 rfl).trans ((u63 238 98 rfl).trans ((u56 238 98 rfl).trans ((u45 238 98 rfl).trans ((u29 238 98 rfl).trans ((u23 238 98 rfl).trans ((u21 238 98 rfl).trans ((u19 238 98 rfl).trans (u13 238 98 rfl)))))))))))))))
              have e147 : h131 240 99 = h 238 99 := ((y131_0 99 (by decide)).trans ((u98 257 99 rfl).trans ((u96 257 99 rfl).trans ((y94_0 99 (by decide)).trans ((u91 238 99 rfl).trans ((u86 238 99 rfl).trans ((u83 238 99 rfl).trans ((u63 238 99 rfl).trans ((u56 238 99 rfl).trans ((u45 238 99 rfl).trans ((u29 238 99 rfl).trans ((u23 238 99 rfl).trans ((u21 238 99 rfl).trans ((u19 238 99 rfl).trans (u13 238 99 rfl)))))))))))))))
              have e148 : h131 240 100 = h 238 100 := ((y131_0 100 (by decide)).trans ((u98 257 100 rfl).trans ((u96 257 100 rfl).trans ((y94_0 100 (by decide)).trans ((u91 238 100 rfl).trans ((u86 238 100 rfl).trans ((u83 238 100 rfl).trans ((u63 238 100 rfl).trans ((u56 238 100 rfl).trans ((u45 238 100 rfl).trans ((u29 238 100 rfl).trans ((u23 238 100 rfl).trans ((u21 238 100 rfl).trans ((u19 238 100 rfl).trans (u13 238 100 rfl)))))))))))))))
              have e149 : h131 240 101 = h 238 101 := ((y131_0 101 (by decide)).trans ((u98 257 101 rfl).trans ((u96 257 101 rfl).trans ((y94_0 101 (by decide)).trans ((u91 238 101 rfl).trans ((u86 238 101 rfl).trans ((u83 238 101 rfl).trans ((u63 238 101 rfl).trans ((u56 238 101 rfl).trans ((u45 238 101 rfl).trans ((u29 238 101 rfl).trans ((u23 238 101 rfl).trans ((u21 238 101 rfl).trans ((u19 238 101 rfl).trans (u13 238 101 rfl)))))))))))))))
              have e150 : h131 240 102 = h 238 102 := ((y131_0 102 (by decide)).trans ((u98 257 102 rfl).trans ((u96 257 102 rfl).trans ((y94_0 102 (by decide)).trans ((u91 238 102 rfl).trans ((u86 238 102 rfl).trans ((u83 238 102 rfl).trans ((u63 238 102 rfl).trans ((u56 238 102 rfl).trans ((u45 238 102 rfl).trans ((u29 238 102 rfl).trans ((u23 238 102 rfl).trans ((u21 238 102 rfl).trans ((u19 238 102 rfl).trans (u13 238 102 rfl)))))))))))))))
              have e151 : h131 240 106 = h 238 106 := ((y131_0 106 (by decide)).trans ((u98 257 106 rfl).trans ((u96 257 106 rfl).trans ((y94_0 106 (by decide)).trans ((u91 238 106 rfl).trans ((u86 238 106 rfl).trans ((u83 238 106 rfl).trans ((u63 238 106 rfl).trans ((u56 238 106 rfl).trans ((u45 238 106 rfl).trans ((u29 238 106 rfl).trans ((u23 238 106 rfl).trans ((u21 238 106 rfl).trans ((u19 238 106 rfl).trans (u13 238 106 rfl)))))))))))))))
              have e152 : h131 240 73 = h 238 73 := ((y131_0 73 (by decide)).trans ((u98 257 73 rfl).trans ((u96 257 73 rfl).trans ((y94_0 73 (by decide)).trans ((u91 238 73 rfl).trans ((u86 238 73 rfl).trans ((u83 238 73 rfl).trans ((u63 238 73 rfl).trans ((u56 238 73 rfl).trans ((u45 238 73 rfl).trans ((u29 238 73 rfl).trans ((u23 238 73 rfl).trans ((u21 238 73 rfl).trans ((u19 238 73 rfl).trans (u13 238 73 rfl)))))))))))))))
              have e153 : h131 240 2 = h 238 2 := ((y131_0 2 (by decide)).trans ((u98 257 2 rfl).trans ((u96 257 2 rfl).trans ((y94_0 2 (by decide)).trans ((u91 238 2 rfl).trans ((u86 238 2 rfl).trans ((u83 238 2 rfl).trans ((u63 238 2 rfl).trans ((u56 238 2 rfl).trans ((u45 238 2 rfl).trans ((u29 238 2 rfl).trans ((u23 238 2 rfl).trans ((u21 238 2 rfl).trans ((u19 238 2 rfl).trans (u13 238 2 rfl)))))))))))))))
              have e154 : h131 240 119 = h 238 119 := ((y131_0 119 (by decide)).trans ((u98 257 119 rfl).trans ((u96 257 119 rfl).trans ((y94_0 119 (by decide)).trans ((u91 238 119 rfl).trans ((u86 238 119 rfl).trans ((u83 238 119 rfl).trans ((u63 238 119 rfl).trans ((u56 238 119 rfl).trans ((u45 238 119 rfl).trans ((u29 238 119 rfl).trans ((u23 238 119 rfl).trans ((u21 238 119 rfl).trans ((u19 238 119 rfl).trans (u13 238 119 rfl)))))))))))))))
              have e155 : h131 240 67 = h 238 67 := ((y131_0 67 (by decide)).trans ((u98 257 67 rfl).trans ((u96 257 67 rfl).trans ((y94_0 67 (by decide)).trans ((u91 238 67 rfl).trans ((u86 238 67 rfl).trans ((u83 238 67 rfl).trans ((u63 238 67 rfl).trans ((u56 238 67 rfl).trans ((u45 238 67 rfl).trans ((u29 238 67 rfl).trans ((u23 238 67 rfl).trans ((u21 238 67 rfl).trans ((u19 238 67 rfl).trans (u13 238 67 rfl)))))))))))))))
              have e156 : h131 240 69 = h 238 69 := ((y131_0 69 (by decide)).trans ((u98 257 69 rfl).trans ((u96 257 69 rfl).trans ((y94_0 69 (by decide)).trans ((u91 238 69 rfl).trans ((u86 238 69 rfl).trans ((u83 238 69 rfl).trans ((u63 238 69 rfl).trans ((u56 238 69 rfl).trans ((u45 238 69 rfl).trans ((u29 238 69 rfl).trans ((u23 238 69 rfl).trans ((u21 238 69 rfl).trans ((u19 238 69 rfl).trans (u13 238 69 rfl)))))))))))))))
              have e157 : h131 240 5 = h 238 5 := ((y131_0 5 (by decide)).trans ((u98 257 5 rfl).trans ((u96 257 5 rfl).trans ((y94_0 5 (by decide)).trans ((u91 238 5 rfl).trans ((u86 238 5 rfl).trans ((u83 238 5 rfl).trans ((u63 238 5 rfl).trans ((u56 238 5 rfl).trans ((u45 238 5 rfl).trans ((u29 238 5 rfl).trans ((u23 238 5 rfl).trans ((u21 238 5 rfl).trans ((u19 238 5 rfl).trans (u13 238 5 rfl)))))))))))))))
              have gp158 := GPH.fr u13 rfl gp0
              have gp159 := GPH.fr u19 rfl gp158
              have gp160 := GPH.fr u21 rfl gp159
              have gp161 := GPH.fr u23 rfl gp160
              have gp162 := GPH.fr u29 rfl gp161
              have gp163 := GPH.fr u45 rfl gp162
              have gp164 := GPH.fr u56 rfl gp163
              have gp165 := GPH.fr u63 rfl gp164
              have gp166 := GPH.fr u83 rfl gp165
              have gp167 := GPH.fr u86 rfl gp166
              have gp168 := GPH.fr u91 rfl gp167
              have gp169 := GPH.fr u94 rfl gp168
              have gp170 := GPH.fr u96 rfl gp169
              have gp171 := GPH.fr u98 rfl gp170
              have gp172 := GPH.fr u131 rfl gp171
              refine ct_315_236 hcr  g131   (show (h131 238 98) + (h131 238 99) + (h131 238 100) + (h131 238 101) + (h131 238 102) + (h131 238 106) = (h131 238 73) by omega) (show (h131 238 73) ≤ (h131 238 2) by omega) (show (h131 238 119) ≤ (h131 238 67) by omega) (show (h131 238 69) ≤ (h131 238 5) by omega) (show (h131 238 2) ≤ 12 * (h131 238 5) by omega) (show (h131 240 98) + (h131 240 99) + (h131 240 100) + (h131 240 101) + (h131 240 102) + (h131 240 106) = (h131 240 73) by omega) (show (h131 240 73) ≤ (h131 240 2) by omega) (show (h131 240 119) ≤ (h131 240 67) by omega) (show (h131 240 69) ≤ (h131 240 5) by omega) (show (h131 240 2) ≤ 12 * (h131 240 5) by omega) gp172 (fun h133 g133 u133 y133_0 => ?_)
              have F173 := F132.then (by decide +kernel) u133
              refine wk_n ?_
              refine wi_iload_n (i := 1) (e := z111) (nx := 137) (r1 := 0) (r2 := 0) (r3 := 0) rfl rfl ?_
              refine wi_ireturn (nx := 138) (r1 := 0) (r2 := 0) (r3 := 0) rfl rfl ?_
              have e174 : h133 238 98 = h98 238 98 := ((u133 238 98 rfl).trans (u131 238 98 rfl))
              have e175 : h133 238 99 = h98 238 99 := ((u133 238 99 rfl).trans (u131 238 99 rfl))
              have e176 : h133 238 100 = h98 238 100 := ((u133 238 100 rfl).trans (u131 238 100 rfl))
              have e177 : h133 238 101 = h98 238 101 := ((u133 238 101 rfl).trans (u131 238 101 rfl))
              have e178 : h133 238 102 = h98 238 102 := ((u133 238 102 rfl).trans (u131 238 102 rfl))
              have e179 : h133 238 106 = h98 238 106 := ((u133 238 106 rfl).trans (u131 238 106 rfl))
              have e180 : h133 238 73 = h98 238 73 := ((u133 238 73 rfl).trans (u131 238 73 rfl))
              have e181 : h133 238 2 = h 238 2 := ((u133 238 2 rfl).trans ((u131 238 2 rfl).trans ((u98 238 2 rfl).trans ((u96 238 2 rfl).trans ((u94 238 2 rfl).trans ((u91 238 2 rfl).trans ((u86 238 2 rfl).trans ((u83 238 2 rfl).trans ((u63 238 2 rfl).trans ((u56 238 2 rfl).trans ((u45 238 2 rfl).trans ((u29 238 2 rfl).trans ((u23 238 2 rfl).trans ((u21 238 2 rfl).trans ((u19 238 2 rfl).trans (u13 238 2 rfl))))))))))))))))
              have e182 : h133 238 119 = h98 238 119 := ((u133 238 119 rfl).trans (u131 238 119 rfl))
              have e183 : h133 238 67 = h98 238 67 := ((u133 238 67 rfl).trans (u131 238 67 rfl))
              have e184 : h133 238 69 = h98 238 69 := ((u133 238 69 rfl).trans (u131 238 69 rfl))
              have e185 : h133 238 5 = h 238 5 := ((u133 238 5 rfl).trans ((u131 238 5 rfl).trans ((u98 238 5 rfl).trans ((u96 238 5 rfl).trans ((u94 238 5 rfl).trans ((u91 238 5 rfl).trans ((u86 238 5 rfl).trans ((u83 238 5 rfl).trans ((u63 238 5 rfl).trans ((u56 238 5 rfl).trans ((u45 238 5 rfl).trans ((u29 238 5 rfl).trans ((u23 238 5 rfl).trans ((u21 238 5 rfl).trans ((u19 238 5 rfl).trans (u13 238 5 rfl))))))))))))))))
              have e186 : h133 236 2 = h13 236 2 := ((u133 236 2 rfl).trans ((u131 236 2 rfl).trans ((u98 236 2 rfl).trans ((u96 236 2 rfl).trans ((u94 236 2 rfl).trans ((u91 236 2 rfl).trans ((u86 236 2 rfl).trans ((u83 236 2 rfl).trans ((u63 236 2 rfl).trans ((u56 236 2 rfl).trans ((u45 236 2 rfl).trans ((u29 236 2 rfl).trans ((u23 236 2 rfl).trans ((u21 236 2 rfl).trans (u19 236 2 rfl)))))))))))))))
              exact k h133 z111 g133 F173 (by omega) (show (h133 238 98) + (h133 238 99) + (h133 238 100) + (h133 238 101) + (h133 238 102) + (h133 238 106) = (h133 238 73) by omega) (show (h133 238 73) ≤ (h133 238 2) by omega) (show (h133 238 119) ≤ (h133 238 67) by omega) (show (h133 238 69) ≤ (h133 238 5) by omega) (show (h133 238 2) ≤ 12 * (h133 238 5) by omega) (show (h133 236 2) = 0 by omega) y133_0
            ·
              refine wi_iload_n (i := 1) (e := z111) (nx := 120) (r1 := 0) (r2 := 0) (r3 := 0) rfl rfl ?_
              refine wi_ireturn (nx := 121) (r1 := 0) (r2 := 0) (r3 := 0) rfl rfl ?_
              have e131 : h98 236 2 = h13 236 2 := ((u98 236 2 rfl).trans ((u96 236 2 rfl).trans ((u94 236 2 rfl).trans ((u91 236 2 rfl).trans ((u86 236 2 rfl).trans ((u83 236 2 rfl).trans ((u63 236 2 rfl).trans ((u56 236 2 rfl).trans ((u45 236 2 rfl).trans ((u29 236 2 rfl).trans ((u23 236 2 rfl).trans ((u21 236 2 rfl).trans (u19 236 2 rfl)))))))))))))
              have gp132 := GPH.fr u13 rfl gp0
              have gp133 := GPH.fr u19 rfl gp132
              have gp134 := GPH.fr u21 rfl gp133
              have gp135 := GPH.fr u23 rfl gp134
              have gp136 := GPH.fr u29 rfl gp135
              have gp137 := GPH.fr u45 rfl gp136
              have gp138 := GPH.fr u56 rfl gp137
              have gp139 := GPH.fr u63 rfl gp138
              have gp140 := GPH.fr u83 rfl gp139
              have gp141 := GPH.fr u86 rfl gp140
              have gp142 := GPH.fr u91 rfl gp141
              have gp143 := GPH.fr u94 rfl gp142
              have gp144 := GPH.fr u96 rfl gp143
              have gp145 := GPH.fr u98 rfl gp144
              exact k h98 z111 g98 F116 (by omega) (show (h98 238 98) + (h98 238 99) + (h98 238 100) + (h98 238 101) + (h98 238 102) + (h98 238 106) = (h98 238 73) by omega) (show (h98 238 73) ≤ (h98 238 2) by omega) (show (h98 238 119) ≤ (h98 238 67) by omega) (show (h98 238 69) ≤ (h98 238 5) by omega) (show (h98 238 2) ≤ 12 * (h98 238 5) by omega) (show (h98 236 2) = 0 by omega) gp145
          ·
            refine wi_aload_n (i := 0) (x := 236) (nx := 78) (r1 := 0) (r2 := 0) (r3 := 0) rfl rfl ?_
            refine wi_iconst (n := 1) (nx := 79) (r1 := 0) (r2 := 0) (r3 := 0) rfl ?_
            refine wr_V (k0 := 236) (rest := []) (as := [.ref 236, vi 1]) (nx := 82) (r1 := 224) (r2 := 1) (r3 := 11) rfl rfl rfl (of_decide_eq_true rfl) rfl rfl (by decide) rfl rfl (of_decide_eq_true rfl) (of_decide_eq_true rfl) ?_
            refine ct_224_236 hcr  g63 1 (by omega)  (fun h83 g83 u83 (p83_0 : 1 ≤ (h83 236 8)) => ?_)
            have F84 := F69.then (by decide +kernel) u83
            have b85 := gi_b (lo := 0) (hi := 5) g83 236 8 rfl
            refine wk_n ?_
            refine wi_aload_n (i := 0) (x := 236) (nx := 83) (r1 := 0) (r2 := 0) (r3 := 0) rfl rfl ?_
            refine wr_V (k0 := 236) (rest := []) (as := [.ref 236]) (nx := 86) (r1 := 237) (r2 := 0) (r3 := 11) rfl rfl rfl (of_decide_eq_true rfl) rfl rfl (by decide) rfl rfl (of_decide_eq_true rfl) (of_decide_eq_true rfl) ?_
            refine wi_aload_n (i := 0) (x := 236) (nx := 1) (r1 := 0) (r2 := 0) (r3 := 0) rfl rfl ?_
            refine wi_aload_n (i := 0) (x := 236) (nx := 2) (r1 := 0) (r2 := 0) (r3 := 0) rfl rfl ?_
            refine wr_gi0 (k0 := 236) (x := h83 236 8) (nx := 5) (r1 := 11) (r2 := 8) (r3 := 0) rfl rfl (by decide) rfl ⟨rfl, rfl⟩ rfl rfl ?_
            refine wr_pf0 (k0 := 236) (x := h83 236 8) (bl := -2147483648) (bh := 2147483647) (nx := 8) (r1 := 11) (r2 := 10) (r3 := 0) rfl (by decide) rfl ⟨rfl, rfl⟩ rfl rfl g83 rfl (by omega) (fun h86 g86 w86 u86 => ?_)
            have F87 := F84.then rfl u86
            refine wi_aload_n (i := 0) (x := 236) (nx := 9) (r1 := 0) (r2 := 0) (r3 := 0) rfl rfl ?_
            refine wi_aload_n (i := 0) (x := 236) (nx := 10) (r1 := 0) (r2 := 0) (r3 := 0) rfl rfl ?_
            have b88 := gi_b (lo := -2147483648) (hi := 2147483647) g83 236 9 rfl
            refine wr_gi0 (k0 := 236) (x := h83 236 9) (nx := 13) (r1 := 11) (r2 := 9) (r3 := 0) rfl rfl (by decide) rfl ⟨rfl, rfl⟩ rfl (u86 236 9 rfl) ?_
            refine wr_pf0 (k0 := 236) (x := h83 236 9) (bl := -2147483648) (bh := 2147483647) (nx := 16) (r1 := 11) (r2 := 11) (r3 := 0) rfl (by decide) rfl ⟨rfl, rfl⟩ rfl rfl g86 rfl (by omega) (fun h89 g89 w89 u89 => ?_)
            have F90 := F87.then rfl u89
            refine wi_aload_n (i := 0) (x := 236) (nx := 17) (r1 := 0) (r2 := 0) (r3 := 0) rfl rfl ?_
            refine wi_aload_n (i := 0) (x := 236) (nx := 18) (r1 := 0) (r2 := 0) (r3 := 0) rfl rfl ?_
            refine wr_gi0 (k0 := 236) (x := h83 236 8) (nx := 21) (r1 := 11) (r2 := 8) (r3 := 0) rfl rfl (by decide) rfl ⟨rfl, rfl⟩ rfl ((u89 236 8 rfl).trans (u86 236 8 rfl)) ?_
            refine wi_if (cd := .ne) (nx := 24) (r1 := 28) (r2 := 0) (r3 := 0) rfl (by omega) (fun (q91 : (h83 236 8) ≠ 0) => ?_) (fun (q91 : ¬ ((h83 236 8) ≠ 0)) => by exfalso; omega)
            refine wi_iconst (n := 0) (nx := 29) (r1 := 0) (r2 := 0) (r3 := 0) rfl ?_
            refine wr_V (k0 := 236) (rest := []) (as := [.ref 236, vi 0]) (nx := 32) (r1 := 206) (r2 := 1) (r3 := 11) rfl rfl rfl (of_decide_eq_true rfl) rfl rfl (by decide) rfl rfl (of_decide_eq_true rfl) (of_decide_eq_true rfl) ?_
            refine wi_aload_n (i := 0) (x := 236) (nx := 1) (r1 := 0) (r2 := 0) (r3 := 0) rfl rfl ?_
            refine wi_iload_n (i := 1) (e := 0) (nx := 2) (r1 := 0) (r2 := 0) (r3 := 0) rfl rfl ?_
            refine wi_if (cd := .ne) (nx := 5) (r1 := 9) (r2 := 0) (r3 := 0) rfl (by omega) (fun (q92 : 0 ≠ 0) => by exfalso; omega) (fun (q92 : ¬ (0 ≠ 0)) => ?_)
            refine wi_iconst (n := 1) (nx := 6) (r1 := 0) (r2 := 0) (r3 := 0) rfl ?_
            refine wi_goto (nx := 9) (r1 := 10) (r2 := 0) (r3 := 0) rfl ?_
            refine wi_S (rest := [.ref 236]) (as := [vi 1]) (nx := 13) (r1 := 207) (r2 := 17) (r3 := 0) rfl rfl rfl (of_decide_eq_true rfl) rfl rfl (of_decide_eq_true rfl) (of_decide_eq_true rfl) ?_
            refine wi_iload_n (i := 0) (e := 1) (nx := 1) (r1 := 0) (r2 := 0) (r3 := 0) rfl rfl ?_
            refine wi_if (cd := .eq) (nx := 4) (r1 := 8) (r2 := 0) (r3 := 0) rfl (by omega) (fun (q93 : 1 = 0) => by exfalso; omega) (fun (q93 : ¬ (1 = 0)) => ?_)
            refine wi_iconst (n := 1) (nx := 5) (r1 := 0) (r2 := 0) (r3 := 0) rfl ?_
            refine wi_goto (nx := 8) (r1 := 9) (r2 := 0) (r3 := 0) rfl ?_
            refine wi_ireturn (nx := 10) (r1 := 0) (r2 := 0) (r3 := 0) rfl rfl ?_
            refine wk_i ?_
            refine wr_pf0 (k0 := 236) (x := 1) (bl := 0) (bh := 2) (nx := 16) (r1 := 11) (r2 := 0) (r3 := 0) rfl (by decide) rfl ⟨rfl, rfl⟩ rfl rfl g89 rfl (by omega) (fun h94 g94 w94 u94 => ?_)
            have F95 := F90.then rfl u94
            refine wi_iload_n (i := 1) (e := 0) (nx := 17) (r1 := 0) (r2 := 0) (r3 := 0) rfl rfl ?_
            refine wi_zreturn (nx := 18) (r1 := 0) (r2 := 0) (r3 := 0) rfl rfl (by omega) ?_
            refine wk_i ?_
            refine wi_zreturn (nx := 33) (r1 := 0) (r2 := 0) (r3 := 0) rfl rfl (by omega) ?_
            refine wk_i ?_
            refine wi_if (cd := .ne) (nx := 89) (r1 := 91) (r2 := 0) (r3 := 0) rfl (by omega) (fun (q96 : 0 ≠ 0) => by exfalso; omega) (fun (q96 : ¬ (0 ≠ 0)) => ?_)
            refine wi_iconst (n := 0) (nx := 90) (r1 := 0) (r2 := 0) (r3 := 0) rfl ?_
            refine wi_ireturn (nx := 91) (r1 := 0) (r2 := 0) (r3 := 0) rfl rfl ?_
            have e97 : h94 238 98 = h 238 98 := ((u94 238 98 rfl).trans ((u89 238 98 rfl).trans ((u86 238 98 rfl).trans ((u83 238 98 rfl).trans ((u63 238 98 rfl).trans ((u56 238 98 rfl).trans ((u45 238 98 rfl).trans ((u29 238 98 rfl).trans ((u23 238 98 rfl).trans ((u21 238 98 rfl).trans ((u19 238 98 rfl).trans (u13 238 98 rfl))))))))))))
            have e98 : h94 238 99 = h 238 99 := ((u94 238 99 rfl).trans ((u89 238 99 rfl).trans ((u86 238 99 rfl).trans ((u83 238 99 rfl).trans ((u63 238 99 rfl).trans ((u56 238 99 rfl).trans ((u45 238 99 rfl).trans ((u29 238 99 rfl).trans ((u23 238 99 rfl).trans ((u21 238 99 rfl).trans ((u19 238 99 rfl).trans (u13 238 99 rfl))))))))))))
            have e99 : h94 238 100 = h 238 100 := ((u94 238 100 rfl).trans ((u89 238 100 rfl).trans ((u86 238 100 rfl).trans ((u83 238 100 rfl).trans ((u63 238 100 rfl).trans ((u56 238 100 rfl).trans ((u45 238 100 rfl).trans ((u29 238 100 rfl).trans ((u23 238 100 rfl).trans ((u21 238 100 rfl).trans ((u19 238 100 rfl).trans (u13 238 100 rfl))))))))))))
            have e100 : h94 238 101 = h 238 101 := ((u94 238 101 rfl).trans ((u89 238 101 rfl).trans ((u86 238 101 rfl).trans ((u83 238 101 rfl).trans ((u63 238 101 rfl).trans ((u56 238 101 rfl).trans ((u45 238 101 rfl).trans ((u29 238 101 rfl).trans ((u23 238 101 rfl).trans ((u21 238 101 rfl).trans ((u19 238 101 rfl).trans (u13 238 101 rfl))))))))))))
            have e101 : h94 238 102 = h 238 102 := ((u94 238 102 rfl).trans ((u89 238 102 rfl).trans ((u86 238 102 rfl).trans ((u83 238 102 rfl).trans ((u63 238 102 rfl).trans ((u56 238 102 rfl).trans ((u45 238 102 rfl).trans ((u29 238 102 rfl).trans ((u23 238 102 rfl).trans ((u21 238 102 rfl).trans ((u19 238 102 rfl).trans (u13 238 102 rfl))))))))))))
            have e102 : h94 238 106 = h 238 106 := ((u94 238 106 rfl).trans ((u89 238 106 rfl).trans ((u86 238 106 rfl).trans ((u83 238 106 rfl).trans ((u63 238 106 rfl).trans ((u56 238 106 rfl).trans ((u45 238 106 rfl).trans ((u29 238 106 rfl).trans ((u23 238 106 rfl).trans ((u21 238 106 rfl).trans ((u19 238 106 rfl).trans (u13 238 106 rfl))))))))))))
            have e103 : h94 238 73 = h 238 73 := ((u94 238 73 rfl).trans ((u89 238 73 rfl).trans ((u86 238 73 rfl).trans ((u83 238 73 rfl).trans ((u63 238 73 rfl).trans ((u56 238 73 rfl).trans ((u45 238 73 rfl).trans ((u29 238 73 rfl).trans ((u23 238 73 rfl).trans ((u21 238 73 rfl).trans ((u19 238 73 rfl).trans (u13 238 73 rfl))))))))))))
            have e104 : h94 238 2 = h 238 2 := ((u94 238 2 rfl).trans ((u89 238 2 rfl).trans ((u86 238 2 rfl).trans ((u83 238 2 rfl).trans ((u63 238 2 rfl).trans ((u56 238 2 rfl).trans ((u45 238 2 rfl).trans ((u29 238 2 rfl).trans ((u23 238 2 rfl).trans ((u21 238 2 rfl).trans ((u19 238 2 rfl).trans (u13 238 2 rfl))))))))))))
            have e105 : h94 238 119 = h 238 119 := ((u94 238 119 rfl).trans ((u89 238 119 rfl).trans ((u86 238 119 rfl).trans ((u83 238 119 rfl).trans ((u63 238 119 rfl).trans ((u56 238 119 rfl).trans ((u45 238 119 rfl).trans ((u29 238 119 rfl).trans ((u23 238 119 rfl).trans ((u21 238 119 rfl).trans ((u19 238 119 rfl).trans (u13 238 119 rfl))))))))))))
            have e106 : h94 238 67 = h 238 67 := ((u94 238 67 rfl).trans ((u89 238 67 rfl).trans ((u86 238 67 rfl).trans ((u83 238 67 rfl).trans ((u63 238 67 rfl).trans ((u56 238 67 rfl).trans ((u45 238 67 rfl).trans ((u29 238 67 rfl).trans ((u23 238 67 rfl).trans ((u21 238 67 rfl).trans ((u19 238 67 rfl).trans (u13 238 67 rfl))))))))))))
            have e107 : h94 238 69 = h 238 69 := ((u94 238 69 rfl).trans ((u89 238 69 rfl).trans ((u86 238 69 rfl).trans ((u83 238 69 rfl).trans ((u63 238 69 rfl).trans ((u56 238 69 rfl).trans ((u45 238 69 rfl).trans ((u29 238 69 rfl).trans ((u23 238 69 rfl).trans ((u21 238 69 rfl).trans ((u19 238 69 rfl).trans (u13 238 69 rfl))))))))))))
            have e108 : h94 238 5 = h 238 5 := ((u94 238 5 rfl).trans ((u89 238 5 rfl).trans ((u86 238 5 rfl).trans ((u83 238 5 rfl).trans ((u63 238 5 rfl).trans ((u56 238 5 rfl).trans ((u45 238 5 rfl).trans ((u29 238 5 rfl).trans ((u23 238 5 rfl).trans ((u21 238 5 rfl).trans ((u19 238 5 rfl).trans (u13 238 5 rfl))))))))))))
            have e109 : h94 236 2 = h13 236 2 := ((u94 236 2 rfl).trans ((u89 236 2 rfl).trans ((u86 236 2 rfl).trans ((u83 236 2 rfl).trans ((u63 236 2 rfl).trans ((u56 236 2 rfl).trans ((u45 236 2 rfl).trans ((u29 236 2 rfl).trans ((u23 236 2 rfl).trans ((u21 236 2 rfl).trans (u19 236 2 rfl)))))))))))
            have gp110 := GPH.fr u13 rfl gp0
            have gp111 := GPH.fr u19 rfl gp110
            have gp112 := GPH.fr u21 rfl gp111
            have gp113 := GPH.fr u23 rfl gp112
            have gp114 := GPH.fr u29 rfl gp113
            have gp115 := GPH.fr u45 rfl gp114
            have gp116 := GPH.fr u56 rfl gp115
            have gp117 := GPH.fr u63 rfl gp116
            have gp118 := GPH.fr u83 rfl gp117
            have gp119 := GPH.fr u86 rfl gp118
            have gp120 := GPH.fr u89 rfl gp119
            have gp121 := GPH.fr u94 rfl gp120
            exact k h94 0 g94 F95 (by omega) (show (h94 238 98) + (h94 238 99) + (h94 238 100) + (h94 238 101) + (h94 238 102) + (h94 238 106) = (h94 238 73) by omega) (show (h94 238 73) ≤ (h94 238 2) by omega) (show (h94 238 119) ≤ (h94 238 67) by omega) (show (h94 238 69) ≤ (h94 238 5) by omega) (show (h94 238 2) ≤ 12 * (h94 238 5) by omega) (show (h94 236 2) = 0 by omega) gp121
        ·
          have e80 : h63 236 3 = h13 236 3 := ((u63 236 3 rfl).trans ((u56 236 3 rfl).trans ((u45 236 3 rfl).trans ((u29 236 3 rfl).trans ((u23 236 3 rfl).trans ((u21 236 3 rfl).trans (u19 236 3 rfl)))))))
          refine wp.lo (lo := [(0, .ref 236)]) ⟨rfl, trivial⟩ rfl ?_
          have q81 : h63 253 = h63 253 := funext (fun i => rfl)
          exact I29 h63 ⟨g63, F69, F70, (show ((h63 236 4) ≤ (h63 236 3)) ∧ ((h63 236 8) = 0) ∧ ((h63 236 6) ≠ 0) ∧ ((h63 236 42) + (h63 236 44) ≤ 2 * (h63 236 43)) by omega), (by rw [q81, show h63 236 42 = h63 236 42 by omega, show h63 236 44 = h63 236 44 by omega]; exact y63_0 (by omega))⟩ (show ((h63 236 3) - (h63 236 4)).toNat < ((h29 236 3) - (h29 236 4)).toNat by omega)
-- method 238: Model.copies([I[I)V
set_option maxRecDepth 100000 in
set_option maxHeartbeats 100000000 in
theorem ct_238_238_241 {L : Nat} {xs : Nat → Int32} {d b c : Nat} {h : hp} {cr : Nat → Nat → Option Nat} {Q : hp_Q} (hcr : CR cr)  (g : GI h)    (k : ∀ (h2 : hp) , GI h2 → FR [(241, 241, none)] h h2 → (∀ q : Nat, q < 200 → h2 241 q = h 238 q) → Q (.inl none) (hp_w h2 cr) b c) : wp (md_xa (L, xs)) d 238 (0, [(0, .ref 238), (1, .ref 241)], [], hp_w h cr, b, c) Q := by
  have F0 : FR [(241, 241, none)] h h := FR.refl
  refine wi_iconst (n := 0) (nx := 1) (r1 := 0) (r2 := 0) (r3 := 0) rfl ?_
  refine wi_istore_n (i := 2) (e := 0) (lo2 := [(2, vi 0), (0, .ref 238), (1, .ref 241)]) (nx := 2) (r1 := 0) (r2 := 0) (r3 := 0) rfl rfl ?_
  refine wp.lo (lo := [(0, .ref 238), (1, .ref 241), (2, vi 0)]) ⟨rfl, rfl, rfl, trivial⟩ rfl ?_
  refine wl_1 (fun x1 h2 => GI h2 ∧ FR [(241, 241, none)] h h2 ∧ FR [(241, 241, none)] h h2 ∧ ((0 ≤ x1 ∧ x1 ≤ 200)) ∧ (∀ q : Nat, (q : Int) < x1 → h2 241 q = h 238 q) ∧ (∀ q : Nat, x1 ≤ (q : Int) → h2 241 q = h 241 q)) (fun x1 h2 => ((200 : Int) + 1 - x1).toNat) (fun x1 h2 => (2, [(0, .ref 238), (1, .ref 241), (2, vi x1)], [], hp_w h2 cr, b, c)) ?_ 0 h ⟨g, F0, FR.refl, (show (0 ≤ 0 ∧ 0 ≤ 200) by omega), (fun q e => absurd e (by omega)), (fun _ _ => rfl)⟩
  intro x1 h2 ⟨g2, F3, u2, f2, XA2, XB2⟩ I2
  refine wi_iload_n (i := 2) (e := x1) (nx := 3) (r1 := 0) (r2 := 0) (r3 := 0) rfl rfl ?_
  refine wi_sipush (n := 200) (nx := 6) (r1 := 0) (r2 := 0) (r3 := 0) rfl (by decide) ?_
  refine wi_icmp (cd := .ge) (nx := 9) (r1 := 21) (r2 := 0) (r3 := 0) rfl (by omega) (by omega) (fun (q4 : 200 ≤ x1) => ?_) (fun (q4 : ¬ (200 ≤ x1)) => ?_)
  ·
    refine wi_return (nx := 22) (r1 := 0) (r2 := 0) (r3 := 0) rfl rfl ?_
    exact k h2 g2 F3 (fun q e => XA2 q (by omega))
  ·
    refine wi_aload_n (i := 1) (x := 241) (nx := 10) (r1 := 0) (r2 := 0) (r3 := 0) rfl rfl ?_
    refine wi_iload_n (i := 2) (e := x1) (nx := 11) (r1 := 0) (r2 := 0) (r3 := 0) rfl rfl ?_
    refine wi_aload_n (i := 0) (x := 238) (nx := 12) (r1 := 0) (r2 := 0) (r3 := 0) rfl rfl ?_
    refine wi_iload_n (i := 2) (e := x1) (nx := 13) (r1 := 0) (r2 := 0) (r3 := 0) rfl rfl ?_
    obtain ⟨i5, ei5⟩ : ∃ q : Nat, x1 = (q : Int) := ⟨(x1).toNat, by omega⟩
    refine wr_ia (k0 := 238) (a := x1) (f := i5) (x := h 238 i5) (nx := 14) (r1 := 0) (r2 := 0) (r3 := 0) rfl (by decide) rfl (by omega) (by omega) (by decide) (u2 238 i5 (fn_a (by omega) fn_0)) ?_
    refine wr_iv (k0 := 241) (a := x1) (f := i5) (x := h 238 i5) (nx := 15) (r1 := 0) (r2 := 0) (r3 := 0) rfl (by decide) rfl (by omega) (by omega) (by decide) g2 (g 238 i5) (fun h6 g6 w6 u6 => ?_)
    have F7 := F3.then rfl (FR.rngp (lo := 241) (hi := 241) u6 (by decide))
    have F8 := u2.then rfl (FR.rngp (lo := 241) (hi := 241) u6 (by decide))
    refine wr_iinc (i := 2) (n := 1) (v := x1) (fun e9 => [(2, vi e9), (0, .ref 238), (1, .ref 241)]) (nx := 18) (r1 := 0) (r2 := 0) (r3 := 0) rfl rfl (fun _ => rfl) (fun e9 (fe9 : e9 = x1 + 1) => ?_)
    refine wi_goto (nx := 21) (r1 := 2) (r2 := 0) (r3 := 0) rfl ?_
    refine wp.lo (lo := [(0, .ref 238), (1, .ref 241), (2, vi e9)]) ⟨rfl, rfl, rfl, trivial⟩ rfl ?_
    exact I2 e9 h6 ⟨g6, F7, F8, (show (0 ≤ e9 ∧ e9 ≤ 200) by omega), (fun q e => by
        by_cases e1 : (q : Int) < x1
        · exact (u6 241 _ (fn_i (by omega) fn_0)).trans (XA2 q e1)
        · have e2 : q = i5 := by omega
          have e3 : q = i5 := by omega
          exact (congrArg (h6 241) e2).trans (w6.trans ((Eq.refl _).trans (congrArg (h 238) e3).symm))), (fun q e => (u6 241 q (fn_i (by omega) fn_0)).trans (XB2 q (by omega)))⟩ (show ((200 : Int) + 1 - e9).toNat < ((200 : Int) + 1 - x1).toNat by omega)
-- method 352: Model.save()I
set_option maxRecDepth 100000 in
set_option maxHeartbeats 100000000 in
theorem ct_352_236 {L : Nat} {xs : Nat → Int32} {d b c : Nat} {h : hp} {cr : Nat → Nat → Option Nat} {Q : hp_Q} (hcr : CR cr)  (g : GI h)   (pp0 : h 238 98 + h 238 99 + h 238 100 + h 238 101 + h 238 102 + h 238 106 = h 238 73) (pp1 : h 238 73 ≤ h 238 2) (pp2 : h 238 119 ≤ h 238 67) (pp3 : h 238 69 ≤ h 238 5) (pp4 : h 238 2 ≤ 12 * h 238 5) (k : ∀ (h2 : hp) (z0 : Int) , GI h2 → FR [(241, 241, none), (245, 245, none), (236, 236, some (0, 0)), (236, 236, some (21, 21))] h h2 → (0 ≤ z0 ∧ z0 ≤ 9999) → (h2 241 98 + h2 241 99 + h2 241 100 + h2 241 101 + h2 241 102 + h2 241 106 = h2 241 73) → (h2 241 73 ≤ h2 241 2) → (h2 241 119 ≤ h2 241 67) → (h2 241 69 ≤ h2 241 5) → (h2 241 2 ≤ 12 * h2 241 5) → Q (.inl (some (vi z0))) (hp_w h2 cr) b c) : wp (md_xa (L, xs)) (d + 1) 352 (0, [(0, .ref 236)], [], hp_w h cr, b, c) Q := by
  have F0 : FR [(241, 241, none), (245, 245, none), (236, 236, some (0, 0)), (236, 236, some (21, 21))] h h := FR.refl
  have b1 := gi_b (lo := 0) (hi := 6) g 238 98 rfl
  have b2 := gi_b (lo := 0) (hi := 6) g 238 99 rfl
  have b3 := gi_b (lo := 0) (hi := 6) g 238 100 rfl
  have b4 := gi_b (lo := 0) (hi := 6) g 238 101 rfl
  have b5 := gi_b (lo := 0) (hi := 3) g 238 102 rfl
  have b6 := gi_b (lo := 0) (hi := 12) g 238 106 rfl
  have b7 := gi_b (lo := 0) (hi := 12) g 238 73 rfl
  have b8 := gi_b (lo := 0) (hi := 12) g 238 2 rfl
  have b9 := gi_b (lo := 0) (hi := 9999) g 238 119 rfl
  have b10 := gi_b (lo := 0) (hi := 9999) g 238 67 rfl
  have b11 := gi_b (lo := 0) (hi := 9) g 238 69 rfl
  have b12 := gi_b (lo := 0) (hi := 9) g 238 5 rfl
  refine wi_aload_n (i := 0) (x := 236) (nx := 1) (r1 := 0) (r2 := 0) (r3 := 0) rfl rfl ?_
  refine wi_iconst (n := 0) (nx := 2) (r1 := 0) (r2 := 0) (r3 := 0) rfl ?_
  refine wr_pf0 (k0 := 236) (x := 0) (bl := 0) (bh := 2) (nx := 5) (r1 := 11) (r2 := 0) (r3 := 0) rfl (by decide) rfl ⟨rfl, rfl⟩ rfl rfl g rfl (by omega) (fun h13 g13 w13 u13 => ?_)
  have F14 := F0.then rfl u13
  refine wi_aload_n (i := 0) (x := 236) (nx := 6) (r1 := 0) (r2 := 0) (r3 := 0) rfl rfl ?_
  refine wr_gr (k0 := 236) (x := 238) (nx := 9) (r1 := 11) (r2 := 13) (r3 := 0) rfl rfl (by decide) rfl ⟨rfl, rfl⟩ rfl ?_
  refine wi_aload_n (i := 0) (x := 236) (nx := 10) (r1 := 0) (r2 := 0) (r3 := 0) rfl rfl ?_
  refine wr_gr (k0 := 236) (x := 241) (nx := 13) (r1 := 11) (r2 := 16) (r3 := 0) rfl rfl (by decide) rfl ⟨rfl, rfl⟩ rfl ?_
  refine wi_S (rest := []) (as := [.ref 238, .ref 241]) (nx := 16) (r1 := 238) (r2 := 18) (r3 := 0) rfl rfl rfl (of_decide_eq_true rfl) rfl rfl (of_decide_eq_true rfl) (of_decide_eq_true rfl) ?_
  refine ct_238_238_241 hcr  g13    (fun h15 g15 u15 y15_0 => ?_)
  have F16 := F14.then (by decide +kernel) u15
  refine wk_n ?_
  refine wi_iconst (n := 0) (nx := 17) (r1 := 0) (r2 := 0) (r3 := 0) rfl ?_
  refine wi_istore_n (i := 1) (e := 0) (lo2 := [(1, vi 0), (0, .ref 236)]) (nx := 18) (r1 := 0) (r2 := 0) (r3 := 0) rfl rfl ?_
  refine wp.lo (lo := [(0, .ref 236), (1, vi 0)]) ⟨rfl, rfl, trivial⟩ rfl ?_
  refine wl_1 (fun x17 h18 => GI h18 ∧ FR [(241, 241, none), (245, 245, none), (236, 236, some (0, 0)), (236, 236, some (21, 21))] h h18 ∧ FR [(245, 245, none)] h15 h18 ∧ ((0 ≤ x17 ∧ x17 ≤ 5))) (fun x17 h18 => ((5 : Int) + 1 - x17).toNat) (fun x17 h18 => (18, [(0, .ref 236), (1, vi x17)], [], hp_w h18 cr, b, c)) ?_ 0 h15 ⟨g15, F16, FR.refl, (show (0 ≤ 0 ∧ 0 ≤ 5) by omega)⟩
  intro x17 h18 ⟨g18, F19, u18, f18⟩ I18
  refine wi_iload_n (i := 1) (e := x17) (nx := 19) (r1 := 0) (r2 := 0) (r3 := 0) rfl rfl ?_
  refine wi_iconst (n := 5) (nx := 20) (r1 := 0) (r2 := 0) (r3 := 0) rfl ?_
  refine wi_icmp (cd := .ge) (nx := 23) (r1 := 41) (r2 := 0) (r3 := 0) rfl (by omega) (by omega) (fun (q20 : 5 ≤ x17) => ?_) (fun (q20 : ¬ (5 ≤ x17)) => ?_)
  ·
    refine wi_aload_n (i := 0) (x := 236) (nx := 42) (r1 := 0) (r2 := 0) (r3 := 0) rfl rfl ?_
    refine wi_iconst (n := 1) (nx := 43) (r1 := 0) (r2 := 0) (r3 := 0) rfl ?_
    refine wr_pf2 (k0 := 236) (x := 1) (bl := 0) (bh := 1) (nx := 46) (r1 := 11) (r2 := 21) (r3 := 2) rfl (by decide) rfl ⟨rfl, rfl⟩ rfl (by omega) rfl g18 rfl (by omega) (fun h21 g21 w21 u21 => ?_)
    have F22 := F19.then rfl u21
    refine wi_aload_n (i := 0) (x := 236) (nx := 47) (r1 := 0) (r2 := 0) (r3 := 0) rfl rfl ?_
    refine wr_gr (k0 := 236) (x := 238) (nx := 50) (r1 := 11) (r2 := 13) (r3 := 0) rfl rfl (by decide) rfl ⟨rfl, rfl⟩ rfl ?_
    refine wi_bipush (n := 67) (nx := 52) (r1 := 0) (r2 := 0) (r3 := 0) rfl (by decide) ?_
    refine wr_ia (k0 := 238) (a := 67) (f := 67) (x := h 238 67) (nx := 53) (r1 := 0) (r2 := 0) (r3 := 0) rfl (by decide) rfl (by omega) (by omega) (by decide) ((u21 238 67 rfl).trans ((u18 238 67 rfl).trans ((u15 238 67 rfl).trans (u13 238 67 rfl)))) ?_
    refine wi_ireturn (nx := 54) (r1 := 0) (r2 := 0) (r3 := 0) rfl rfl ?_
    have e23 : h21 241 98 = h 238 98 := ((u21 241 98 rfl).trans ((u18 241 98 rfl).trans ((y15_0 98 (by decide)).trans (u13 238 98 rfl))))
    have e24 : h21 241 99 = h 238 99 := ((u21 241 99 rfl).trans ((u18 241 99 rfl).trans ((y15_0 99 (by decide)).trans (u13 238 99 rfl))))
    have e25 : h21 241 100 = h 238 100 := ((u21 241 100 rfl).trans ((u18 241 100 rfl).trans ((y15_0 100 (by decide)).trans (u13 238 100 rfl))))
    have e26 : h21 241 101 = h 238 101 := ((u21 241 101 rfl).trans ((u18 241 101 rfl).trans ((y15_0 101 (by decide)).trans (u13 238 101 rfl))))
    have e27 : h21 241 102 = h 238 102 := ((u21 241 102 rfl).trans ((u18 241 102 rfl).trans ((y15_0 102 (by decide)).trans (u13 238 102 rfl))))
    have e28 : h21 241 106 = h 238 106 := ((u21 241 106 rfl).trans ((u18 241 106 rfl).trans ((y15_0 106 (by decide)).trans (u13 238 106 rfl))))
    have e29 : h21 241 73 = h 238 73 := ((u21 241 73 rfl).trans ((u18 241 73 rfl).trans ((y15_0 73 (by decide)).trans (u13 238 73 rfl))))
    have e30 : h21 241 2 = h 238 2 := ((u21 241 2 rfl).trans ((u18 241 2 rfl).trans ((y15_0 2 (by decide)).trans (u13 238 2 rfl))))
    have e31 : h21 241 119 = h 238 119 := ((u21 241 119 rfl).trans ((u18 241 119 rfl).trans ((y15_0 119 (by decide)).trans (u13 238 119 rfl))))
    have e32 : h21 241 67 = h 238 67 := ((u21 241 67 rfl).trans ((u18 241 67 rfl).trans ((y15_0 67 (by decide)).trans (u13 238 67 rfl))))
    have e33 : h21 241 69 = h 238 69 := ((u21 241 69 rfl).trans ((u18 241 69 rfl).trans ((y15_0 69 (by decide)).trans (u13 238 69 rfl))))
    have e34 : h21 241 5 = h 238 5 := ((u21 241 5 rfl).trans ((u18 241 5 rfl).trans ((y15_0 5 (by decide)).trans (u13 238 5 rfl))))
    exact k h21 (h 238 67) g21 F22 (by omega) (show (h21 241 98) + (h21 241 99) + (h21 241 100) + (h21 241 101) + (h21 241 102) + (h21 241 106) = (h21 241 73) by omega) (show (h21 241 73) ≤ (h21 241 2) by omega) (show (h21 241 119) ≤ (h21 241 67) by omega) (show (h21 241 69) ≤ (h21 241 5) by omega) (show (h21 241 2) ≤ 12 * (h21 241 5) by omega)
  ·
    refine wi_aload_n (i := 0) (x := 236) (nx := 24) (r1 := 0) (r2 := 0) (r3 := 0) rfl rfl ?_
    refine wr_gr (k0 := 236) (x := 245) (nx := 27) (r1 := 11) (r2 := 20) (r3 := 0) rfl rfl (by decide) rfl ⟨rfl, rfl⟩ rfl ?_
    refine wi_iload_n (i := 1) (e := x17) (nx := 28) (r1 := 0) (r2 := 0) (r3 := 0) rfl rfl ?_
    refine wi_aload_n (i := 0) (x := 236) (nx := 29) (r1 := 0) (r2 := 0) (r3 := 0) rfl rfl ?_
    refine wr_gr (k0 := 236) (x := 243) (nx := 32) (r1 := 11) (r2 := 18) (r3 := 0) rfl rfl (by decide) rfl ⟨rfl, rfl⟩ rfl ?_
    refine wi_iload_n (i := 1) (e := x17) (nx := 33) (r1 := 0) (r2 := 0) (r3 := 0) rfl rfl ?_
    obtain ⟨i21, ei21⟩ : ∃ q : Nat, x17 = (q : Int) := ⟨(x17).toNat, by omega⟩
    have b22 := gi_b (lo := -9223372036854775808) (hi := 9223372036854775807) g 243 i21 rfl
    refine wr_la (k0 := 243) (a := x17) (f := i21) (x := h 243 i21) (nx := 34) (r1 := 0) (r2 := 0) (r3 := 0) rfl (by decide) rfl (by omega) (by omega) (by decide) ((u18 243 i21 (fn_a (by omega) fn_0)).trans ((u15 243 i21 (fn_a (by omega) fn_0)).trans (u13 243 i21 (fn_a (by omega) fn_0)))) ?_
    refine wr_ls (k0 := 245) (a := x17) (f := i21) (x := h 243 i21) (bl := -9223372036854775808) (bh := 9223372036854775807) (nx := 35) (r1 := 0) (r2 := 0) (r3 := 0) rfl (by decide) rfl (by omega) (by omega) (by decide) g18 rfl (by omega) (fun h23 g23 w23 u23 => ?_)
    have F24 := F19.then rfl (FR.rngp (lo := 245) (hi := 245) u23 (by decide))
    have F25 := u18.then rfl (FR.rngp (lo := 245) (hi := 245) u23 (by decide))
    refine wr_iinc (i := 1) (n := 1) (v := x17) (fun e26 => [(1, vi e26), (0, .ref 236)]) (nx := 38) (r1 := 0) (r2 := 0) (r3 := 0) rfl rfl (fun _ => rfl) (fun e26 (fe26 : e26 = x17 + 1) => ?_)
    refine wi_goto (nx := 41) (r1 := 18) (r2 := 0) (r3 := 0) rfl ?_
    refine wp.lo (lo := [(0, .ref 236), (1, vi e26)]) ⟨rfl, rfl, trivial⟩ rfl ?_
    exact I18 e26 h23 ⟨g23, F24, F25, (show (0 ≤ e26 ∧ e26 ≤ 5) by omega)⟩ (show ((5 : Int) + 1 - e26).toNat < ((5 : Int) + 1 - x17).toNat by omega)
-- method 239: Model.setting(I)I
set_option maxRecDepth 100000 in
set_option maxHeartbeats 100000000 in
theorem ct_239_236 {L : Nat} {xs : Nat → Int32} {d b c : Nat} {h : hp} {cr : Nat → Nat → Option Nat} {Q : hp_Q} (hcr : CR cr)  (g : GI h) (a0 : Int) (q0_ : -2147483648 ≤ a0 ∧ a0 ≤ 2147483647)  (k : ∀ (h2 : hp) (z0 : Int) , GI h2 → FR [(236, 236, some (0, 0))] h h2 → (0 ≤ z0 ∧ z0 ≤ 999) → Q (.inl (some (vi z0))) (hp_w h2 cr) b c) : wp (md_xa (L, xs)) (d + 2) 239 (0, [(0, .ref 236), (1, vi a0)], [], hp_w h cr, b, c) Q := by
  have F0 : FR [(236, 236, some (0, 0))] h h := FR.refl
  refine wi_aload_n (i := 0) (x := 236) (nx := 1) (r1 := 0) (r2 := 0) (r3 := 0) rfl rfl ?_
  refine wi_iload_n (i := 1) (e := a0) (nx := 2) (r1 := 0) (r2 := 0) (r3 := 0) rfl rfl ?_
  refine wi_i2l (nx := 3) (r1 := 0) (r2 := 0) (r3 := 0) rfl (by omega) ?_
  refine wi_lconst (n := 0) (e := 0) (nx := 4) (r1 := 0) (r2 := 0) (r3 := 0) rfl (by decide) ?_
  refine wi_ldc2_w (e := 9) (nx := 7) (r1 := 9) (r2 := 0) (r3 := 0) rfl (by decide) ?_
  refine wi_S (rest := [.ref 236]) (as := [vl a0, vl 0, vl 9]) (nx := 10) (r1 := 210) (r2 := 19) (r3 := 0) rfl rfl rfl (of_decide_eq_true rfl) rfl rfl (of_decide_eq_true rfl) (of_decide_eq_true rfl) ?_
  refine wi_lload_n (i := 0) (e := a0) (nx := 1) (r1 := 0) (r2 := 0) (r3 := 0) rfl rfl ?_
  refine wi_lload_n (i := 2) (e := 0) (nx := 2) (r1 := 0) (r2 := 0) (r3 := 0) rfl rfl ?_
  refine wi_lcmp (a := a0) (e := 0) (nx := 3) (r1 := 0) (r2 := 0) (r3 := 0) rfl (by omega) (by omega) (fun r1 (fr1 : (r1 = -1 ∧ a0 < 0) ∨ (r1 = 0 ∧ a0 = 0) ∨ (r1 = 1 ∧ 0 < a0)) => ?_)
  refine wi_if (cd := .lt) (nx := 6) (r1 := 17) (r2 := 0) (r3 := 0) rfl (by omega) (fun (q2 : r1 < 0) => ?_) (fun (q2 : ¬ (r1 < 0)) => ?_)
  ·
    refine wi_iconst (n := 0) (nx := 18) (r1 := 0) (r2 := 0) (r3 := 0) rfl ?_
    refine wi_zreturn (nx := 19) (r1 := 0) (r2 := 0) (r3 := 0) rfl rfl (by omega) ?_
    refine wk_i ?_
    refine wr_V (k0 := 236) (rest := []) (as := [.ref 236, vi 0]) (nx := 13) (r1 := 206) (r2 := 1) (r3 := 11) rfl rfl rfl (of_decide_eq_true rfl) rfl rfl (by decide) rfl rfl (of_decide_eq_true rfl) (of_decide_eq_true rfl) ?_
    refine wi_aload_n (i := 0) (x := 236) (nx := 1) (r1 := 0) (r2 := 0) (r3 := 0) rfl rfl ?_
    refine wi_iload_n (i := 1) (e := 0) (nx := 2) (r1 := 0) (r2 := 0) (r3 := 0) rfl rfl ?_
    refine wi_if (cd := .ne) (nx := 5) (r1 := 9) (r2 := 0) (r3 := 0) rfl (by omega) (fun (q3 : 0 ≠ 0) => by exfalso; omega) (fun (q3 : ¬ (0 ≠ 0)) => ?_)
    refine wi_iconst (n := 1) (nx := 6) (r1 := 0) (r2 := 0) (r3 := 0) rfl ?_
    refine wi_goto (nx := 9) (r1 := 10) (r2 := 0) (r3 := 0) rfl ?_
    refine wi_S (rest := [.ref 236]) (as := [vi 1]) (nx := 13) (r1 := 207) (r2 := 17) (r3 := 0) rfl rfl rfl (of_decide_eq_true rfl) rfl rfl (of_decide_eq_true rfl) (of_decide_eq_true rfl) ?_
    refine wi_iload_n (i := 0) (e := 1) (nx := 1) (r1 := 0) (r2 := 0) (r3 := 0) rfl rfl ?_
    refine wi_if (cd := .eq) (nx := 4) (r1 := 8) (r2 := 0) (r3 := 0) rfl (by omega) (fun (q4 : 1 = 0) => by exfalso; omega) (fun (q4 : ¬ (1 = 0)) => ?_)
    refine wi_iconst (n := 1) (nx := 5) (r1 := 0) (r2 := 0) (r3 := 0) rfl ?_
    refine wi_goto (nx := 8) (r1 := 9) (r2 := 0) (r3 := 0) rfl ?_
    refine wi_ireturn (nx := 10) (r1 := 0) (r2 := 0) (r3 := 0) rfl rfl ?_
    refine wk_i ?_
    refine wr_pf0 (k0 := 236) (x := 1) (bl := 0) (bh := 2) (nx := 16) (r1 := 11) (r2 := 0) (r3 := 0) rfl (by decide) rfl ⟨rfl, rfl⟩ rfl rfl g rfl (by omega) (fun h5 g5 w5 u5 => ?_)
    have F6 := F0.then rfl u5
    refine wi_iload_n (i := 1) (e := 0) (nx := 17) (r1 := 0) (r2 := 0) (r3 := 0) rfl rfl ?_
    refine wi_zreturn (nx := 18) (r1 := 0) (r2 := 0) (r3 := 0) rfl rfl (by omega) ?_
    refine wk_i ?_
    refine wi_if (cd := .eq) (nx := 16) (r1 := 25) (r2 := 0) (r3 := 0) rfl (by omega) (fun (q7 : 0 = 0) => ?_) (fun (q7 : ¬ (0 = 0)) => by exfalso; omega)
    refine wi_iconst (n := 0) (nx := 26) (r1 := 0) (r2 := 0) (r3 := 0) rfl ?_
    refine wi_ireturn (nx := 27) (r1 := 0) (r2 := 0) (r3 := 0) rfl rfl ?_
    exact k h5 0 g5 F6 (by omega)
  ·
    refine wi_lload_n (i := 0) (e := a0) (nx := 7) (r1 := 0) (r2 := 0) (r3 := 0) rfl rfl ?_
    refine wi_lload (i := 4) (e := 9) (nx := 9) (r1 := 0) (r2 := 0) (r3 := 0) rfl rfl ?_
    refine wi_lcmp (a := a0) (e := 9) (nx := 10) (r1 := 0) (r2 := 0) (r3 := 0) rfl (by omega) (by omega) (fun r3 (fr3 : (r3 = -1 ∧ a0 < 9) ∨ (r3 = 0 ∧ a0 = 9) ∨ (r3 = 1 ∧ 9 < a0)) => ?_)
    refine wi_if (cd := .gt) (nx := 13) (r1 := 17) (r2 := 0) (r3 := 0) rfl (by omega) (fun (q4 : 0 < r3) => ?_) (fun (q4 : ¬ (0 < r3)) => ?_)
    ·
      refine wi_iconst (n := 0) (nx := 18) (r1 := 0) (r2 := 0) (r3 := 0) rfl ?_
      refine wi_zreturn (nx := 19) (r1 := 0) (r2 := 0) (r3 := 0) rfl rfl (by omega) ?_
      refine wk_i ?_
      refine wr_V (k0 := 236) (rest := []) (as := [.ref 236, vi 0]) (nx := 13) (r1 := 206) (r2 := 1) (r3 := 11) rfl rfl rfl (of_decide_eq_true rfl) rfl rfl (by decide) rfl rfl (of_decide_eq_true rfl) (of_decide_eq_true rfl) ?_
      refine wi_aload_n (i := 0) (x := 236) (nx := 1) (r1 := 0) (r2 := 0) (r3 := 0) rfl rfl ?_
      refine wi_iload_n (i := 1) (e := 0) (nx := 2) (r1 := 0) (r2 := 0) (r3 := 0) rfl rfl ?_
      refine wi_if (cd := .ne) (nx := 5) (r1 := 9) (r2 := 0) (r3 := 0) rfl (by omega) (fun (q5 : 0 ≠ 0) => by exfalso; omega) (fun (q5 : ¬ (0 ≠ 0)) => ?_)
      refine wi_iconst (n := 1) (nx := 6) (r1 := 0) (r2 := 0) (r3 := 0) rfl ?_
      refine wi_goto (nx := 9) (r1 := 10) (r2 := 0) (r3 := 0) rfl ?_
      refine wi_S (rest := [.ref 236]) (as := [vi 1]) (nx := 13) (r1 := 207) (r2 := 17) (r3 := 0) rfl rfl rfl (of_decide_eq_true rfl) rfl rfl (of_decide_eq_true rfl) (of_decide_eq_true rfl) ?_
      refine wi_iload_n (i := 0) (e := 1) (nx := 1) (r1 := 0) (r2 := 0) (r3 := 0) rfl rfl ?_
      refine wi_if (cd := .eq) (nx := 4) (r1 := 8) (r2 := 0) (r3 := 0) rfl (by omega) (fun (q6 : 1 = 0) => by exfalso; omega) (fun (q6 : ¬ (1 = 0)) => ?_)
      refine wi_iconst (n := 1) (nx := 5) (r1 := 0) (r2 := 0) (r3 := 0) rfl ?_
      refine wi_goto (nx := 8) (r1 := 9) (r2 := 0) (r3 := 0) rfl ?_
      refine wi_ireturn (nx := 10) (r1 := 0) (r2 := 0) (r3 := 0) rfl rfl ?_
      refine wk_i ?_
      refine wr_pf0 (k0 := 236) (x := 1) (bl := 0) (bh := 2) (nx := 16) (r1 := 11) (r2 := 0) (r3 := 0) rfl (by decide) rfl ⟨rfl, rfl⟩ rfl rfl g rfl (by omega) (fun h7 g7 w7 u7 => ?_)
      have F8 := F0.then rfl u7
      refine wi_iload_n (i := 1) (e := 0) (nx := 17) (r1 := 0) (r2 := 0) (r3 := 0) rfl rfl ?_
      refine wi_zreturn (nx := 18) (r1 := 0) (r2 := 0) (r3 := 0) rfl rfl (by omega) ?_
      refine wk_i ?_
      refine wi_if (cd := .eq) (nx := 16) (r1 := 25) (r2 := 0) (r3 := 0) rfl (by omega) (fun (q9 : 0 = 0) => ?_) (fun (q9 : ¬ (0 = 0)) => by exfalso; omega)
      refine wi_iconst (n := 0) (nx := 26) (r1 := 0) (r2 := 0) (r3 := 0) rfl ?_
      refine wi_ireturn (nx := 27) (r1 := 0) (r2 := 0) (r3 := 0) rfl rfl ?_
      exact k h7 0 g7 F8 (by omega)
    ·
      refine wi_iconst (n := 1) (nx := 14) (r1 := 0) (r2 := 0) (r3 := 0) rfl ?_
      refine wi_goto (nx := 17) (r1 := 18) (r2 := 0) (r3 := 0) rfl ?_
      refine wi_zreturn (nx := 19) (r1 := 0) (r2 := 0) (r3 := 0) rfl rfl (by omega) ?_
      refine wk_i ?_
      refine wr_V (k0 := 236) (rest := []) (as := [.ref 236, vi 1]) (nx := 13) (r1 := 206) (r2 := 1) (r3 := 11) rfl rfl rfl (of_decide_eq_true rfl) rfl rfl (by decide) rfl rfl (of_decide_eq_true rfl) (of_decide_eq_true rfl) ?_
      refine wi_aload_n (i := 0) (x := 236) (nx := 1) (r1 := 0) (r2 := 0) (r3 := 0) rfl rfl ?_
      refine wi_iload_n (i := 1) (e := 1) (nx := 2) (r1 := 0) (r2 := 0) (r3 := 0) rfl rfl ?_
      refine wi_if (cd := .ne) (nx := 5) (r1 := 9) (r2 := 0) (r3 := 0) rfl (by omega) (fun (q5 : 1 ≠ 0) => ?_) (fun (q5 : ¬ (1 ≠ 0)) => by exfalso; omega)
      refine wi_iconst (n := 0) (nx := 10) (r1 := 0) (r2 := 0) (r3 := 0) rfl ?_
      refine wi_S (rest := [.ref 236]) (as := [vi 0]) (nx := 13) (r1 := 207) (r2 := 17) (r3 := 0) rfl rfl rfl (of_decide_eq_true rfl) rfl rfl (of_decide_eq_true rfl) (of_decide_eq_true rfl) ?_
      refine wi_iload_n (i := 0) (e := 0) (nx := 1) (r1 := 0) (r2 := 0) (r3 := 0) rfl rfl ?_
      refine wi_if (cd := .eq) (nx := 4) (r1 := 8) (r2 := 0) (r3 := 0) rfl (by omega) (fun (q6 : 0 = 0) => ?_) (fun (q6 : ¬ (0 = 0)) => by exfalso; omega)
      refine wi_iconst (n := 0) (nx := 9) (r1 := 0) (r2 := 0) (r3 := 0) rfl ?_
      refine wi_ireturn (nx := 10) (r1 := 0) (r2 := 0) (r3 := 0) rfl rfl ?_
      refine wk_i ?_
      refine wr_pf0 (k0 := 236) (x := 0) (bl := 0) (bh := 2) (nx := 16) (r1 := 11) (r2 := 0) (r3 := 0) rfl (by decide) rfl ⟨rfl, rfl⟩ rfl rfl g rfl (by omega) (fun h7 g7 w7 u7 => ?_)
      have F8 := F0.then rfl u7
      refine wi_iload_n (i := 1) (e := 1) (nx := 17) (r1 := 0) (r2 := 0) (r3 := 0) rfl rfl ?_
      refine wi_zreturn (nx := 18) (r1 := 0) (r2 := 0) (r3 := 0) rfl rfl (by omega) ?_
      refine wk_i ?_
      refine wi_if (cd := .eq) (nx := 16) (r1 := 25) (r2 := 0) (r3 := 0) rfl (by omega) (fun (q9 : 1 = 0) => by exfalso; omega) (fun (q9 : ¬ (1 = 0)) => ?_)
      refine wi_aload_n (i := 0) (x := 236) (nx := 17) (r1 := 0) (r2 := 0) (r3 := 0) rfl rfl ?_
      refine wr_gr (k0 := 236) (x := 238) (nx := 20) (r1 := 11) (r2 := 13) (r3 := 0) rfl rfl (by decide) rfl ⟨rfl, rfl⟩ rfl ?_
      refine wi_iload_n (i := 1) (e := a0) (nx := 21) (r1 := 0) (r2 := 0) (r3 := 0) rfl rfl ?_
      obtain ⟨i10, ei10⟩ : ∃ q : Nat, a0 = (q : Int) := ⟨(a0).toNat, by omega⟩
      have b11 : 0 ≤ h 238 i10 ∧ h 238 i10 ≤ 999 := by
        rcases (show (0 ≤ i10 ∧ i10 < 0 + 1) ∨ (1 ≤ i10 ∧ i10 < 1 + 1) ∨ (2 ≤ i10 ∧ i10 < 2 + 1) ∨ (3 ≤ i10 ∧ i10 < 3 + 2) ∨ (5 ≤ i10 ∧ i10 < 5 + 1) ∨ (6 ≤ i10 ∧ i10 < 6 + 1) ∨ (7 ≤ i10 ∧ i10 < 7 + 1) ∨ (8 ≤ i10 ∧ i10 < 8 + 2) by omega) with bq | bq | bq | bq | bq | bq | bq | bq
        · have bz := gi_b (lo := 0) (hi := 5) g 238 i10 (gi_rg 0 1 (fun _ => rfl) (by decide +kernel) bq); omega
        · have bz := gi_b (lo := 0) (hi := 4) g 238 i10 (gi_rg 1 1 (fun _ => rfl) (by decide +kernel) bq); omega
        · have bz := gi_b (lo := 0) (hi := 12) g 238 i10 (gi_rg 2 1 (fun _ => rfl) (by decide +kernel) bq); omega
        · have bz := gi_b (lo := 0) (hi := 999) g 238 i10 (gi_rg 3 2 (fun _ => rfl) (by decide +kernel) bq); omega
        · have bz := gi_b (lo := 0) (hi := 9) g 238 i10 (gi_rg 5 1 (fun _ => rfl) (by decide +kernel) bq); omega
        · have bz := gi_b (lo := 0) (hi := 999) g 238 i10 (gi_rg 6 1 (fun _ => rfl) (by decide +kernel) bq); omega
        · have bz := gi_b (lo := 0) (hi := 3) g 238 i10 (gi_rg 7 1 (fun _ => rfl) (by decide +kernel) bq); omega
        · have bz := gi_b (lo := 0) (hi := 999) g 238 i10 (gi_rg 8 2 (fun _ => rfl) (by decide +kernel) bq); omega
      refine wr_ia (k0 := 238) (a := a0) (f := i10) (x := h 238 i10) (nx := 22) (r1 := 0) (r2 := 0) (r3 := 0) rfl (by decide) rfl (by omega) (by omega) (by decide) (u7 238 i10 (fn_a (by omega) fn_0)) ?_
      refine wi_goto (nx := 25) (r1 := 26) (r2 := 0) (r3 := 0) rfl ?_
      refine wi_ireturn (nx := 27) (r1 := 0) (r2 := 0) (r3 := 0) rfl rfl ?_
      exact k h7 (h 238 i10) g7 F8 (by omega)
-- method 288: Model.step()I
set_option maxRecDepth 100000 in
set_option maxHeartbeats 100000000 in
theorem ct_288_236 {L : Nat} {xs : Nat → Int32} {d b c : Nat} {h : hp} {cr : Nat → Nat → Option Nat} {Q : hp_Q} (hcr : CR cr)  (g : GI h)   (pp0 : h 238 98 + h 238 99 + h 238 100 + h 238 101 + h 238 102 + h 238 106 = h 238 73) (pp1 : h 238 73 ≤ h 238 2) (pp2 : h 238 119 ≤ h 238 67) (pp3 : h 238 69 ≤ h 238 5) (pp4 : h 238 2 ≤ 12 * h 238 5) (gp0 : GPH h) (k : ∀ (h2 : hp) (z0 : Int) , GI h2 → FR [(236, 236, some (0, 0)), (236, 236, some (22, 22)), (236, 236, some (28, 28)), (238, 238, some (43, 54)), (238, 238, some (55, 66)), (238, 238, some (67, 67)), (238, 238, some (68, 68)), (238, 238, some (69, 69)), (238, 238, some (70, 70)), (238, 238, some (71, 71)), (238, 238, some (72, 72)), (238, 238, some (73, 73)), (238, 238, some (74, 79)), (238, 238, some (80, 85)), (238, 238, some (86, 91)), (238, 238, some (92, 97)), (238, 238, some (98, 98)), (238, 238, some (99, 99)), (238, 238, some (100, 100)), (238, 238, some (101, 101)), (238, 238, some (102, 102)), (238, 238, some (103, 105)), (238, 238, some (106, 106)), (238, 238, some (107, 118)), (238, 238, some (119, 119)), (238, 238, some (120, 196)), (238, 238, some (121, 197)), (238, 238, some (122, 198)), (238, 238, some (123, 199)), (242, 242, some (0, 999)), (242, 242, some (1000, 1199))] h h2 → (-1 ≤ z0 ∧ z0 ≤ 3) → (h2 238 98 + h2 238 99 + h2 238 100 + h2 238 101 + h2 238 102 + h2 238 106 = h2 238 73) → (h2 238 73 ≤ h2 238 2) → (h2 238 119 ≤ h2 238 67) → (h2 238 69 ≤ h2 238 5) → (h2 238 2 ≤ 12 * h2 238 5) → (GPH h2) → Q (.inl (some (vi z0))) (hp_w h2 cr) b c) : wp (md_xa (L, xs)) (d + 5) 288 (0, [(0, .ref 236)], [], hp_w h cr, b, c) Q := by
  have F0 : FR [(236, 236, some (0, 0)), (236, 236, some (22, 22)), (236, 236, some (28, 28)), (238, 238, some (43, 54)), (238, 238, some (55, 66)), (238, 238, some (67, 67)), (238, 238, some (68, 68)), (238, 238, some (69, 69)), (238, 238, some (70, 70)), (238, 238, some (71, 71)), (238, 238, some (72, 72)), (238, 238, some (73, 73)), (238, 238, some (74, 79)), (238, 238, some (80, 85)), (238, 238, some (86, 91)), (238, 238, some (92, 97)), (238, 238, some (98, 98)), (238, 238, some (99, 99)), (238, 238, some (100, 100)), (238, 238, some (101, 101)), (238, 238, some (102, 102)), (238, 238, some (103, 105)), (238, 238, some (106, 106)), (238, 238, some (107, 118)), (238, 238, some (119, 119)), (238, 238, some (120, 196)), (238, 238, some (121, 197)), (238, 238, some (122, 198)), (238, 238, some (123, 199)), (242, 242, some (0, 999)), (242, 242, some (1000, 1199))] h h := FR.refl
  have b1 := gi_b (lo := 0) (hi := 6) g 238 98 rfl
  have b2 := gi_b (lo := 0) (hi := 6) g 238 99 rfl
  have b3 := gi_b (lo := 0) (hi := 6) g 238 100 rfl
  have b4 := gi_b (lo := 0) (hi := 6) g 238 101 rfl
  have b5 := gi_b (lo := 0) (hi := 3) g 238 102 rfl
  have b6 := gi_b (lo := 0) (hi := 12) g 238 106 rfl
  have b7 := gi_b (lo := 0) (hi := 12) g 238 73 rfl
  have b8 := gi_b (lo := 0) (hi := 12) g 238 2 rfl
  have b9 := gi_b (lo := 0) (hi := 9999) g 238 119 rfl
  have b10 := gi_b (lo := 0) (hi := 9999) g 238 67 rfl
  have b11 := gi_b (lo := 0) (hi := 9) g 238 69 rfl
  have b12 := gi_b (lo := 0) (hi := 9) g 238 5 rfl
  refine wi_aload_n (i := 0) (x := 236) (nx := 1) (r1 := 0) (r2 := 0) (r3 := 0) rfl rfl ?_
  refine wi_iconst (n := 0) (nx := 2) (r1 := 0) (r2 := 0) (r3 := 0) rfl ?_
  refine wr_pf0 (k0 := 236) (x := 0) (bl := 0) (bh := 2) (nx := 5) (r1 := 11) (r2 := 0) (r3 := 0) rfl (by decide) rfl ⟨rfl, rfl⟩ rfl rfl g rfl (by omega) (fun h13 g13 w13 u13 => ?_)
  have F14 := F0.then rfl u13
  refine wi_aload_n (i := 0) (x := 236) (nx := 6) (r1 := 0) (r2 := 0) (r3 := 0) rfl rfl ?_
  refine wr_V (k0 := 236) (rest := []) (as := [.ref 236]) (nx := 9) (r1 := 289) (r2 := 0) (r3 := 11) rfl rfl rfl (of_decide_eq_true rfl) rfl rfl (by decide) rfl rfl (of_decide_eq_true rfl) (of_decide_eq_true rfl) ?_
  refine ct_289_236 hcr  g13    (fun z16  (fz16 : -1 ≤ z16 ∧ z16 ≤ 3) y15_0 => ?_)
  refine wk_i ?_
  refine wi_iconst (n := (-1)) (nx := 10) (r1 := 0) (r2 := 0) (r3 := 0) rfl ?_
  refine wi_icmp (cd := .ne) (nx := 13) (r1 := 15) (r2 := 0) (r3 := 0) rfl (by omega) (by omega) (fun (q17 : z16 ≠ (-1)) => ?_) (fun (q17 : ¬ (z16 ≠ (-1))) => ?_)
  ·
    refine wi_aload_n (i := 0) (x := 236) (nx := 16) (r1 := 0) (r2 := 0) (r3 := 0) rfl rfl ?_
    refine wr_V (k0 := 236) (rest := []) (as := [.ref 236]) (nx := 19) (r1 := 278) (r2 := 0) (r3 := 11) rfl rfl rfl (of_decide_eq_true rfl) rfl rfl (by decide) rfl rfl (of_decide_eq_true rfl) (of_decide_eq_true rfl) ?_
    have e19 : h13 238 98 = h 238 98 := (u13 238 98 rfl)
    have e20 : h13 238 99 = h 238 99 := (u13 238 99 rfl)
    have e21 : h13 238 100 = h 238 100 := (u13 238 100 rfl)
    have e22 : h13 238 101 = h 238 101 := (u13 238 101 rfl)
    have e23 : h13 238 102 = h 238 102 := (u13 238 102 rfl)
    have e24 : h13 238 106 = h 238 106 := (u13 238 106 rfl)
    have e25 : h13 238 73 = h 238 73 := (u13 238 73 rfl)
    have e26 : h13 238 2 = h 238 2 := (u13 238 2 rfl)
    have e27 : h13 238 119 = h 238 119 := (u13 238 119 rfl)
    have e28 : h13 238 67 = h 238 67 := (u13 238 67 rfl)
    have e29 : h13 238 69 = h 238 69 := (u13 238 69 rfl)
    have e30 : h13 238 5 = h 238 5 := (u13 238 5 rfl)
    have gp31 := GPH.fr u13 rfl gp0
    refine ct_278_236 hcr  g13   (show (h13 238 98) + (h13 238 99) + (h13 238 100) + (h13 238 101) + (h13 238 102) + (h13 238 106) = (h13 238 73) by omega) (show (h13 238 73) ≤ (h13 238 2) by omega) (show (h13 238 119) ≤ (h13 238 67) by omega) (show (h13 238 69) ≤ (h13 238 5) by omega) (show (h13 238 2) ≤ 12 * (h13 238 5) by omega) gp31 (fun h18 g18 u18 (p18_0 : 1 ≤ (h18 236 22)) y18_0 => ?_)
    have F32 := F14.then (by decide +kernel) u18
    have b33 := gi_b (lo := 0) (hi := 6) g18 236 22 rfl
    refine wk_n ?_
    refine wi_aload_n (i := 0) (x := 236) (nx := 20) (r1 := 0) (r2 := 0) (r3 := 0) rfl rfl ?_
    refine wr_V (k0 := 236) (rest := []) (as := [.ref 236]) (nx := 23) (r1 := 292) (r2 := 0) (r3 := 11) rfl rfl rfl (of_decide_eq_true rfl) rfl rfl (by decide) rfl rfl (of_decide_eq_true rfl) (of_decide_eq_true rfl) ?_
    have e35 : h18 238 98 = h 238 98 := ((u18 238 98 rfl).trans (u13 238 98 rfl))
    have e36 : h18 238 99 = h 238 99 := ((u18 238 99 rfl).trans (u13 238 99 rfl))
    have e37 : h18 238 100 = h 238 100 := ((u18 238 100 rfl).trans (u13 238 100 rfl))
    have e38 : h18 238 101 = h 238 101 := ((u18 238 101 rfl).trans (u13 238 101 rfl))
    have e39 : h18 238 102 = h 238 102 := ((u18 238 102 rfl).trans (u13 238 102 rfl))
    have e40 : h18 238 106 = h 238 106 := ((u18 238 106 rfl).trans (u13 238 106 rfl))
    have e41 : h18 238 73 = h 238 73 := ((u18 238 73 rfl).trans (u13 238 73 rfl))
    have e42 : h18 238 2 = h 238 2 := ((u18 238 2 rfl).trans (u13 238 2 rfl))
    have e43 : h18 238 119 = h 238 119 := ((u18 238 119 rfl).trans (u13 238 119 rfl))
    have e44 : h18 238 67 = h 238 67 := ((u18 238 67 rfl).trans (u13 238 67 rfl))
    have e45 : h18 238 69 = h 238 69 := ((u18 238 69 rfl).trans (u13 238 69 rfl))
    have e46 : h18 238 5 = h 238 5 := ((u18 238 5 rfl).trans (u13 238 5 rfl))
    refine ct_292_236 hcr  g18   (show (h18 238 98) + (h18 238 99) + (h18 238 100) + (h18 238 101) + (h18 238 102) + (h18 238 106) = (h18 238 73) by omega) (show (h18 238 73) ≤ (h18 238 2) by omega) (show (h18 238 119) ≤ (h18 238 67) by omega) (show (h18 238 69) ≤ (h18 238 5) by omega) (show (h18 238 2) ≤ 12 * (h18 238 5) by omega) (fun h34 z47 g34 u34 (fz47 : -1 ≤ z47 ∧ z47 ≤ 3) (p34_0 : (h34 238 98) + (h34 238 99) + (h34 238 100) + (h34 238 101) + (h34 238 102) + (h34 238 106) = (h34 238 73)) (p34_1 : (h34 238 73) ≤ (h34 238 2)) (p34_2 : (h34 238 119) ≤ (h34 238 67)) (p34_3 : (h34 238 69) ≤ (h34 238 5)) (p34_4 : (h34 238 2) ≤ 12 * (h34 238 5)) => ?_)
    have F48 := F32.then (by decide +kernel) u34
    have b49 := gi_b (lo := 0) (hi := 6) g34 238 98 rfl
    have b50 := gi_b (lo := 0) (hi := 6) g34 238 99 rfl
    have b51 := gi_b (lo := 0) (hi := 6) g34 238 100 rfl
    have b52 := gi_b (lo := 0) (hi := 6) g34 238 101 rfl
    have b53 := gi_b (lo := 0) (hi := 3) g34 238 102 rfl
    have b54 := gi_b (lo := 0) (hi := 12) g34 238 106 rfl
    have b55 := gi_b (lo := 0) (hi := 12) g34 238 73 rfl
    have e56 : h34 238 2 = h 238 2 := ((u34 238 2 rfl).trans ((u18 238 2 rfl).trans (u13 238 2 rfl)))
    have b57 := gi_b (lo := 0) (hi := 9999) g34 238 119 rfl
    have b58 := gi_b (lo := 0) (hi := 9999) g34 238 67 rfl
    have b59 := gi_b (lo := 0) (hi := 9) g34 238 69 rfl
    have e60 : h34 238 5 = h 238 5 := ((u34 238 5 rfl).trans ((u18 238 5 rfl).trans (u13 238 5 rfl)))
    refine wk_i ?_
    refine wi_ireturn (nx := 24) (r1 := 0) (r2 := 0) (r3 := 0) rfl rfl ?_
    have gp61 := GPH.fr u34 rfl y18_0
    exact k h34 z47 g34 F48 (by omega) (show (h34 238 98) + (h34 238 99) + (h34 238 100) + (h34 238 101) + (h34 238 102) + (h34 238 106) = (h34 238 73) by omega) (show (h34 238 73) ≤ (h34 238 2) by omega) (show (h34 238 119) ≤ (h34 238 67) by omega) (show (h34 238 69) ≤ (h34 238 5) by omega) (show (h34 238 2) ≤ 12 * (h34 238 5) by omega) gp61
  ·
    refine wi_iconst (n := (-1)) (nx := 14) (r1 := 0) (r2 := 0) (r3 := 0) rfl ?_
    refine wi_ireturn (nx := 15) (r1 := 0) (r2 := 0) (r3 := 0) rfl rfl ?_
    have e18 : h13 238 98 = h 238 98 := (u13 238 98 rfl)
    have e19 : h13 238 99 = h 238 99 := (u13 238 99 rfl)
    have e20 : h13 238 100 = h 238 100 := (u13 238 100 rfl)
    have e21 : h13 238 101 = h 238 101 := (u13 238 101 rfl)
    have e22 : h13 238 102 = h 238 102 := (u13 238 102 rfl)
    have e23 : h13 238 106 = h 238 106 := (u13 238 106 rfl)
    have e24 : h13 238 73 = h 238 73 := (u13 238 73 rfl)
    have e25 : h13 238 2 = h 238 2 := (u13 238 2 rfl)
    have e26 : h13 238 119 = h 238 119 := (u13 238 119 rfl)
    have e27 : h13 238 67 = h 238 67 := (u13 238 67 rfl)
    have e28 : h13 238 69 = h 238 69 := (u13 238 69 rfl)
    have e29 : h13 238 5 = h 238 5 := (u13 238 5 rfl)
    have gp30 := GPH.fr u13 rfl gp0
    exact k h13 (-1) g13 F14 (by omega) (show (h13 238 98) + (h13 238 99) + (h13 238 100) + (h13 238 101) + (h13 238 102) + (h13 238 106) = (h13 238 73) by omega) (show (h13 238 73) ≤ (h13 238 2) by omega) (show (h13 238 119) ≤ (h13 238 67) by omega) (show (h13 238 69) ≤ (h13 238 5) by omega) (show (h13 238 2) ≤ 12 * (h13 238 5) by omega) gp30
