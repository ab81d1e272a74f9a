-- method 343: Model.moves(II)Z
set_option maxRecDepth 100000 in
set_option maxHeartbeats 100000000 in
theorem ct_343_236_L2 {L : Nat} {xs : Nat → Int32} {d b c : Nat} {h : hp} {cr : Nat → Nat → Option Nat} {Q : hp_Q} (hcr : CR cr)  (g : GI h) (a0 : Int) (q0_ : -2147483648 ≤ a0 ∧ a0 ≤ 2147483647) (pp0 : h 238 98 + h 238 99 + h 238 100 + h 238 101 + h 238 102 + h 238 106 = h 238 73) (pp1 : h 238 73 ≤ h 238 2) (pp2 : h 238 119 ≤ h 238 67) (pp3 : h 238 69 ≤ h 238 5) (pp4 : h 238 2 ≤ 12 * h 238 5) (k : ∀ (h2 : hp) (z0 : Int) , GI h2 → FR [(236, 236, some (28, 28)), (236, 236, some (45, 45)), (238, 238, some (74, 79)), (238, 238, some (80, 85)), (238, 238, some (86, 91)), (238, 238, some (92, 97)), (238, 238, some (98, 98)), (238, 238, some (99, 99)), (238, 238, some (100, 100)), (238, 238, some (101, 101)), (238, 238, some (102, 102)), (238, 238, some (103, 104))] h h2 → (0 ≤ z0 ∧ z0 ≤ 1) → (z0 = 1 → 0 ≤ a0 ∧ a0 ≤ 3) → (h2 238 98 + h2 238 99 + h2 238 100 + h2 238 101 + h2 238 102 + h2 238 106 = h2 238 73) → (h2 238 73 ≤ h2 238 2) → (h2 238 119 ≤ h2 238 67) → (h2 238 69 ≤ h2 238 5) → (h2 238 2 ≤ 12 * h2 238 5) → Q (.inl (some (vi z0))) (hp_w h2 cr) b c) : wp (md_xa (L, xs)) (d + 3) 343 (0, [(0, .ref 236), (1, vi 2), (2, vi a0)], [], hp_w h cr, b, c) Q := by
  have F0 : FR [(236, 236, some (28, 28)), (236, 236, some (45, 45)), (238, 238, some (74, 79)), (238, 238, some (80, 85)), (238, 238, some (86, 91)), (238, 238, some (92, 97)), (238, 238, some (98, 98)), (238, 238, some (99, 99)), (238, 238, some (100, 100)), (238, 238, some (101, 101)), (238, 238, some (102, 102)), (238, 238, some (103, 104))] h h := FR.refl
  have b1 := gi_b (lo := 0) (hi := 6) g 238 98 rfl
  have b2 := gi_b (lo := 0) (hi := 6) g 238 99 rfl
  have b3 := gi_b (lo := 0) (hi := 6) g 238 100 rfl
  have b4 := gi_b (lo := 0) (hi := 6) g 238 101 rfl
  have b5 := gi_b (lo := 0) (hi := 3) g 238 102 rfl
  have b6 := gi_b (lo := 0) (hi := 12) g 238 106 rfl
  have b7 := gi_b (lo := 0) (hi := 12) g 238 73 rfl
  have b8 := gi_b (lo := 0) (hi := 12) g 238 2 rfl
  have b9 := gi_b (lo := 0) (hi := 9999) g 238 119 rfl
  have b10 := gi_b (lo := 0) (hi := 9999) g 238 67 rfl
  have b11 := gi_b (lo := 0) (hi := 9) g 238 69 rfl
  have b12 := gi_b (lo := 0) (hi := 9) g 238 5 rfl
  refine wi_aload_n (i := 0) (x := 236) (nx := 1) (r1 := 0) (r2 := 0) (r3 := 0) rfl rfl ?_
  refine wi_iload_n (i := 2) (e := a0) (nx := 2) (r1 := 0) (r2 := 0) (r3 := 0) rfl rfl ?_
  refine wr_V (k0 := 236) (rest := []) (as := [.ref 236, vi a0]) (nx := 5) (r1 := 242) (r2 := 1) (r3 := 11) rfl rfl rfl (of_decide_eq_true rfl) rfl rfl (by decide) rfl rfl (of_decide_eq_true rfl) (of_decide_eq_true rfl) ?_
  refine wi_iload_n (i := 1) (e := a0) (nx := 1) (r1 := 0) (r2 := 0) (r3 := 0) rfl rfl ?_
  refine wi_i2l (nx := 2) (r1 := 0) (r2 := 0) (r3 := 0) rfl (by omega) ?_
  refine wi_lconst (n := 0) (e := 0) (nx := 3) (r1 := 0) (r2 := 0) (r3 := 0) rfl (by decide) ?_
  refine wi_aload_n (i := 0) (x := 236) (nx := 4) (r1 := 0) (r2 := 0) (r3 := 0) rfl rfl ?_
  refine wr_gr (k0 := 236) (x := 238) (nx := 7) (r1 := 11) (r2 := 13) (r3 := 0) rfl rfl (by decide) rfl ⟨rfl, rfl⟩ rfl ?_
  refine wi_iconst (n := 1) (nx := 8) (r1 := 0) (r2 := 0) (r3 := 0) rfl ?_
  have b13 := gi_b (lo := 0) (hi := 4) g 238 1 rfl
  refine wr_ia (k0 := 238) (a := 1) (f := 1) (x := h 238 1) (nx := 9) (r1 := 0) (r2 := 0) (r3 := 0) rfl (by decide) rfl (by omega) (by omega) (by decide) rfl ?_
  refine wi_iconst (n := 1) (nx := 10) (r1 := 0) (r2 := 0) (r3 := 0) rfl ?_
  refine wr_sub (nx := 11) (r1 := 0) (r2 := 0) (r3 := 0) rfl (fun e14 (fe14 : e14 = (h 238 1) - 1) => ?_)
  refine wi_i2l (nx := 12) (r1 := 0) (r2 := 0) (r3 := 0) rfl (by omega) ?_
  refine wi_S (rest := []) (as := [vl a0, vl 0, vl e14]) (nx := 15) (r1 := 210) (r2 := 19) (r3 := 0) rfl rfl rfl (of_decide_eq_true rfl) rfl rfl (of_decide_eq_true rfl) (of_decide_eq_true rfl) ?_
  refine wi_lload_n (i := 0) (e := a0) (nx := 1) (r1 := 0) (r2 := 0) (r3 := 0) rfl rfl ?_
  refine wi_lload_n (i := 2) (e := 0) (nx := 2) (r1 := 0) (r2 := 0) (r3 := 0) rfl rfl ?_
  refine wi_lcmp (a := a0) (e := 0) (nx := 3) (r1 := 0) (r2 := 0) (r3 := 0) rfl (by omega) (by omega) (fun r15 (fr15 : (r15 = -1 ∧ a0 < 0) ∨ (r15 = 0 ∧ a0 = 0) ∨ (r15 = 1 ∧ 0 < a0)) => ?_)
  refine wi_if (cd := .lt) (nx := 6) (r1 := 17) (r2 := 0) (r3 := 0) rfl (by omega) (fun (q16 : r15 < 0) => ?_) (fun (q16 : ¬ (r15 < 0)) => ?_)
  ·
    refine wi_iconst (n := 0) (nx := 18) (r1 := 0) (r2 := 0) (r3 := 0) rfl ?_
    refine wi_zreturn (nx := 19) (r1 := 0) (r2 := 0) (r3 := 0) rfl rfl (by omega) ?_
    refine wk_i ?_
    refine wi_zreturn (nx := 16) (r1 := 0) (r2 := 0) (r3 := 0) rfl rfl (by omega) ?_
    refine wk_i ?_
    refine wi_if (cd := .eq) (nx := 8) (r1 := 58) (r2 := 0) (r3 := 0) rfl (by omega) (fun (q17 : 0 = 0) => ?_) (fun (q17 : ¬ (0 = 0)) => by exfalso; omega)
    refine wi_iconst (n := 0) (nx := 59) (r1 := 0) (r2 := 0) (r3 := 0) rfl ?_
    refine wi_istore_n (i := 3) (e := 0) (lo2 := [(3, vi 0), (0, .ref 236), (1, vi 2), (2, vi a0)]) (nx := 60) (r1 := 0) (r2 := 0) (r3 := 0) rfl rfl ?_
    refine wi_iload_n (i := 3) (e := 0) (nx := 61) (r1 := 0) (r2 := 0) (r3 := 0) rfl rfl ?_
    refine wi_if (cd := .eq) (nx := 64) (r1 := 98) (r2 := 0) (r3 := 0) rfl (by omega) (fun (q18 : 0 = 0) => ?_) (fun (q18 : ¬ (0 = 0)) => by exfalso; omega)
    refine wi_aload_n (i := 0) (x := 236) (nx := 99) (r1 := 0) (r2 := 0) (r3 := 0) rfl rfl ?_
    refine wi_aload_n (i := 0) (x := 236) (nx := 100) (r1 := 0) (r2 := 0) (r3 := 0) rfl rfl ?_
    have b19 := gi_b (lo := 0) (hi := 1) g 236 45 rfl
    refine wr_gi2 (k0 := 236) (x := h 236 45) (nx := 103) (r1 := 11) (r2 := 45) (r3 := 0) rfl rfl (by decide) rfl ⟨rfl, rfl⟩ rfl rfl ?_
    refine wi_if (cd := .ne) (nx := 106) (r1 := 110) (r2 := 0) (r3 := 0) rfl (by omega) (fun (q20 : (h 236 45) ≠ 0) => ?_) (fun (q20 : ¬ ((h 236 45) ≠ 0)) => ?_)
    ·
      refine wi_iconst (n := 1) (nx := 111) (r1 := 0) (r2 := 0) (r3 := 0) rfl ?_
      refine wi_goto (nx := 114) (r1 := 115) (r2 := 0) (r3 := 0) rfl ?_
      refine wr_pf2 (k0 := 236) (x := 1) (bl := 0) (bh := 1) (nx := 118) (r1 := 11) (r2 := 45) (r3 := 2) rfl (by decide) rfl ⟨rfl, rfl⟩ rfl (by omega) rfl g rfl (by omega) (fun h21 g21 w21 u21 => ?_)
      have F22 := F0.then rfl u21
      refine wi_iload_n (i := 3) (e := 0) (nx := 119) (r1 := 0) (r2 := 0) (r3 := 0) rfl rfl ?_
      refine wi_zreturn (nx := 120) (r1 := 0) (r2 := 0) (r3 := 0) rfl rfl (by omega) ?_
      have e23 : h21 238 98 = h 238 98 := (u21 238 98 rfl)
      have e24 : h21 238 99 = h 238 99 := (u21 238 99 rfl)
      have e25 : h21 238 100 = h 238 100 := (u21 238 100 rfl)
      have e26 : h21 238 101 = h 238 101 := (u21 238 101 rfl)
      have e27 : h21 238 102 = h 238 102 := (u21 238 102 rfl)
      have e28 : h21 238 106 = h 238 106 := (u21 238 106 rfl)
      have e29 : h21 238 73 = h 238 73 := (u21 238 73 rfl)
      have e30 : h21 238 2 = h 238 2 := (u21 238 2 rfl)
      have e31 : h21 238 119 = h 238 119 := (u21 238 119 rfl)
      have e32 : h21 238 67 = h 238 67 := (u21 238 67 rfl)
      have e33 : h21 238 69 = h 238 69 := (u21 238 69 rfl)
      have e34 : h21 238 5 = h 238 5 := (u21 238 5 rfl)
      exact k h21 0 g21 F22 (by omega) (fun _ => by omega) (show (h21 238 98) + (h21 238 99) + (h21 238 100) + (h21 238 101) + (h21 238 102) + (h21 238 106) = (h21 238 73) by omega) (show (h21 238 73) ≤ (h21 238 2) by omega) (show (h21 238 119) ≤ (h21 238 67) by omega) (show (h21 238 69) ≤ (h21 238 5) by omega) (show (h21 238 2) ≤ 12 * (h21 238 5) by omega)
    ·
      refine wi_iload_n (i := 3) (e := 0) (nx := 107) (r1 := 0) (r2 := 0) (r3 := 0) rfl rfl ?_
      refine wi_if (cd := .eq) (nx := 110) (r1 := 114) (r2 := 0) (r3 := 0) rfl (by omega) (fun (q21 : 0 = 0) => ?_) (fun (q21 : ¬ (0 = 0)) => by exfalso; omega)
      refine wi_iconst (n := 0) (nx := 115) (r1 := 0) (r2 := 0) (r3 := 0) rfl ?_
      refine wr_pf2 (k0 := 236) (x := 0) (bl := 0) (bh := 1) (nx := 118) (r1 := 11) (r2 := 45) (r3 := 2) rfl (by decide) rfl ⟨rfl, rfl⟩ rfl (by omega) rfl g rfl (by omega) (fun h22 g22 w22 u22 => ?_)
      have F23 := F0.then rfl u22
      refine wi_iload_n (i := 3) (e := 0) (nx := 119) (r1 := 0) (r2 := 0) (r3 := 0) rfl rfl ?_
      refine wi_zreturn (nx := 120) (r1 := 0) (r2 := 0) (r3 := 0) rfl rfl (by omega) ?_
      have e24 : h22 238 98 = h 238 98 := (u22 238 98 rfl)
      have e25 : h22 238 99 = h 238 99 := (u22 238 99 rfl)
      have e26 : h22 238 100 = h 238 100 := (u22 238 100 rfl)
      have e27 : h22 238 101 = h 238 101 := (u22 238 101 rfl)
      have e28 : h22 238 102 = h 238 102 := (u22 238 102 rfl)
      have e29 : h22 238 106 = h 238 106 := (u22 238 106 rfl)
      have e30 : h22 238 73 = h 238 73 := (u22 238 73 rfl)
      have e31 : h22 238 2 = h 238 2 := (u22 238 2 rfl)
      have e32 : h22 238 119 = h 238 119 := (u22 238 119 rfl)
      have e33 : h22 238 67 = h 238 67 := (u22 238 67 rfl)
      have e34 : h22 238 69 = h 238 69 := (u22 238 69 rfl)
      have e35 : h22 238 5 = h 238 5 := (u22 238 5 rfl)
      exact k h22 0 g22 F23 (by omega) (fun _ => by omega) (show (h22 238 98) + (h22 238 99) + (h22 238 100) + (h22 238 101) + (h22 238 102) + (h22 238 106) = (h22 238 73) by omega) (show (h22 238 73) ≤ (h22 238 2) by omega) (show (h22 238 119) ≤ (h22 238 67) by omega) (show (h22 238 69) ≤ (h22 238 5) by omega) (show (h22 238 2) ≤ 12 * (h22 238 5) by omega)
  ·
    refine wi_lload_n (i := 0) (e := a0) (nx := 7) (r1 := 0) (r2 := 0) (r3 := 0) rfl rfl ?_
    refine wi_lload (i := 4) (e := e14) (nx := 9) (r1 := 0) (r2 := 0) (r3 := 0) rfl rfl ?_
    refine wi_lcmp (a := a0) (e := e14) (nx := 10) (r1 := 0) (r2 := 0) (r3 := 0) rfl (by omega) (by omega) (fun r17 (fr17 : (r17 = -1 ∧ a0 < e14) ∨ (r17 = 0 ∧ a0 = e14) ∨ (r17 = 1 ∧ e14 < a0)) => ?_)
    refine wi_if (cd := .gt) (nx := 13) (r1 := 17) (r2 := 0) (r3 := 0) rfl (by omega) (fun (q18 : 0 < r17) => ?_) (fun (q18 : ¬ (0 < r17)) => ?_)
    ·
      refine wi_iconst (n := 0) (nx := 18) (r1 := 0) (r2 := 0) (r3 := 0) rfl ?_
      refine wi_zreturn (nx := 19) (r1 := 0) (r2 := 0) (r3 := 0) rfl rfl (by omega) ?_
      refine wk_i ?_
      refine wi_zreturn (nx := 16) (r1 := 0) (r2 := 0) (r3 := 0) rfl rfl (by omega) ?_
      refine wk_i ?_
      refine wi_if (cd := .eq) (nx := 8) (r1 := 58) (r2 := 0) (r3 := 0) rfl (by omega) (fun (q19 : 0 = 0) => ?_) (fun (q19 : ¬ (0 = 0)) => by exfalso; omega)
      refine wi_iconst (n := 0) (nx := 59) (r1 := 0) (r2 := 0) (r3 := 0) rfl ?_
      refine wi_istore_n (i := 3) (e := 0) (lo2 := [(3, vi 0), (0, .ref 236), (1, vi 2), (2, vi a0)]) (nx := 60) (r1 := 0) (r2 := 0) (r3 := 0) rfl rfl ?_
      refine wi_iload_n (i := 3) (e := 0) (nx := 61) (r1 := 0) (r2 := 0) (r3 := 0) rfl rfl ?_
      refine wi_if (cd := .eq) (nx := 64) (r1 := 98) (r2 := 0) (r3 := 0) rfl (by omega) (fun (q20 : 0 = 0) => ?_) (fun (q20 : ¬ (0 = 0)) => by exfalso; omega)
      refine wi_aload_n (i := 0) (x := 236) (nx := 99) (r1 := 0) (r2 := 0) (r3 := 0) rfl rfl ?_
      refine wi_aload_n (i := 0) (x := 236) (nx := 100) (r1 := 0) (r2 := 0) (r3 := 0) rfl rfl ?_
      have b21 := gi_b (lo := 0) (hi := 1) g 236 45 rfl
      refine wr_gi2 (k0 := 236) (x := h 236 45) (nx := 103) (r1 := 11) (r2 := 45) (r3 := 0) rfl rfl (by decide) rfl ⟨rfl, rfl⟩ rfl rfl ?_
      refine wi_if (cd := .ne) (nx := 106) (r1 := 110) (r2 := 0) (r3 := 0) rfl (by omega) (fun (q22 : (h 236 45) ≠ 0) => ?_) (fun (q22 : ¬ ((h 236 45) ≠ 0)) => ?_)
      ·
        refine wi_iconst (n := 1) (nx := 111) (r1 := 0) (r2 := 0) (r3 := 0) rfl ?_
        refine wi_goto (nx := 114) (r1 := 115) (r2 := 0) (r3 := 0) rfl ?_
        refine wr_pf2 (k0 := 236) (x := 1) (bl := 0) (bh := 1) (nx := 118) (r1 := 11) (r2 := 45) (r3 := 2) rfl (by decide) rfl ⟨rfl, rfl⟩ rfl (by omega) rfl g rfl (by omega) (fun h23 g23 w23 u23 => ?_)
        have F24 := F0.then rfl u23
        refine wi_iload_n (i := 3) (e := 0) (nx := 119) (r1 := 0) (r2 := 0) (r3 := 0) rfl rfl ?_
        refine wi_zreturn (nx := 120) (r1 := 0) (r2 := 0) (r3 := 0) rfl rfl (by omega) ?_
        have e25 : h23 238 98 = h 238 98 := (u23 238 98 rfl)
        have e26 : h23 238 99 = h 238 99 := (u23 238 99 rfl)
        have e27 : h23 238 100 = h 238 100 := (u23 238 100 rfl)
        have e28 : h23 238 101 = h 238 101 := (u23 238 101 rfl)
        have e29 : h23 238 102 = h 238 102 := (u23 238 102 rfl)
        have e30 : h23 238 106 = h 238 106 := (u23 238 106 rfl)
        have e31 : h23 238 73 = h 238 73 := (u23 238 73 rfl)
        have e32 : h23 238 2 = h 238 2 := (u23 238 2 rfl)
        have e33 : h23 238 119 = h 238 119 := (u23 238 119 rfl)
        have e34 : h23 238 67 = h 238 67 := (u23 238 67 rfl)
        have e35 : h23 238 69 = h 238 69 := (u23 238 69 rfl)
        have e36 : h23 238 5 = h 238 5 := (u23 238 5 rfl)
        exact k h23 0 g23 F24 (by omega) (fun _ => by omega) (show (h23 238 98) + (h23 238 99) + (h23 238 100) + (h23 238 101) + (h23 238 102) + (h23 238 106) = (h23 238 73) by omega) (show (h23 238 73) ≤ (h23 238 2) by omega) (show (h23 238 119) ≤ (h23 238 67) by omega) (show (h23 238 69) ≤ (h23 238 5) by omega) (show (h23 238 2) ≤ 12 * (h23 238 5) by omega)
      ·
        refine wi_iload_n (i := 3) (e := 0) (nx := 107) (r1 := 0) (r2 := 0) (r3 := 0) rfl rfl ?_
        refine wi_if (cd := .eq) (nx := 110) (r1 := 114) (r2 := 0) (r3 := 0) rfl (by omega) (fun (q23 : 0 = 0) => ?_) (fun (q23 : ¬ (0 = 0)) => by exfalso; omega)
        refine wi_iconst (n := 0) (nx := 115) (r1 := 0) (r2 := 0) (r3 := 0) rfl ?_
        refine wr_pf2 (k0 := 236) (x := 0) (bl := 0) (bh := 1) (nx := 118) (r1 := 11) (r2 := 45) (r3 := 2) rfl (by decide) rfl ⟨rfl, rfl⟩ rfl (by omega) rfl g rfl (by omega) (fun h24 g24 w24 u24 => ?_)
        have F25 := F0.then rfl u24
        refine wi_iload_n (i := 3) (e := 0) (nx := 119) (r1 := 0) (r2 := 0) (r3 := 0) rfl rfl ?_
        refine wi_zreturn (nx := 120) (r1 := 0) (r2 := 0) (r3 := 0) rfl rfl (by omega) ?_
        have e26 : h24 238 98 = h 238 98 := (u24 238 98 rfl)
        have e27 : h24 238 99 = h 238 99 := (u24 238 99 rfl)
        have e28 : h24 238 100 = h 238 100 := (u24 238 100 rfl)
        have e29 : h24 238 101 = h 238 101 := (u24 238 101 rfl)
        have e30 : h24 238 102 = h 238 102 := (u24 238 102 rfl)
        have e31 : h24 238 106 = h 238 106 := (u24 238 106 rfl)
        have e32 : h24 238 73 = h 238 73 := (u24 238 73 rfl)
        have e33 : h24 238 2 = h 238 2 := (u24 238 2 rfl)
        have e34 : h24 238 119 = h 238 119 := (u24 238 119 rfl)
        have e35 : h24 238 67 = h 238 67 := (u24 238 67 rfl)
        have e36 : h24 238 69 = h 238 69 := (u24 238 69 rfl)
        have e37 : h24 238 5 = h 238 5 := (u24 238 5 rfl)
        exact k h24 0 g24 F25 (by omega) (fun _ => by omega) (show (h24 238 98) + (h24 238 99) + (h24 238 100) + (h24 238 101) + (h24 238 102) + (h24 238 106) = (h24 238 73) by omega) (show (h24 238 73) ≤ (h24 238 2) by omega) (show (h24 238 119) ≤ (h24 238 67) by omega) (show (h24 238 69) ≤ (h24 238 5) by omega) (show (h24 238 2) ≤ 12 * (h24 238 5) by omega)
    ·
      refine wi_iconst (n := 1) (nx := 14) (r1 := 0) (r2 := 0) (r3 := 0) rfl ?_
      refine wi_goto (nx := 17) (r1 := 18) (r2 := 0) (r3 := 0) rfl ?_
      refine wi_zreturn (nx := 19) (r1 := 0) (r2 := 0) (r3 := 0) rfl rfl (by omega) ?_
      refine wk_i ?_
      refine wi_zreturn (nx := 16) (r1 := 0) (r2 := 0) (r3 := 0) rfl rfl (by omega) ?_
      refine wk_i ?_
      refine wi_if (cd := .eq) (nx := 8) (r1 := 58) (r2 := 0) (r3 := 0) rfl (by omega) (fun (q19 : 1 = 0) => by exfalso; omega) (fun (q19 : ¬ (1 = 0)) => ?_)
      refine wi_iload_n (i := 1) (e := 2) (nx := 9) (r1 := 0) (r2 := 0) (r3 := 0) rfl rfl ?_
      refine wi_if (cd := .ne) (nx := 12) (r1 := 23) (r2 := 0) (r3 := 0) rfl (by omega) (fun (q20 : 2 ≠ 0) => ?_) (fun (q20 : ¬ (2 ≠ 0)) => by exfalso; omega)
      refine wi_iload_n (i := 1) (e := 2) (nx := 24) (r1 := 0) (r2 := 0) (r3 := 0) rfl rfl ?_
      refine wi_iconst (n := 1) (nx := 25) (r1 := 0) (r2 := 0) (r3 := 0) rfl ?_
      refine wi_icmp (cd := .ne) (nx := 28) (r1 := 39) (r2 := 0) (r3 := 0) rfl (by omega) (by omega) (fun (q21 : 2 ≠ 1) => ?_) (fun (q21 : ¬ (2 ≠ 1)) => by exfalso; omega)
      refine wi_aload_n (i := 0) (x := 236) (nx := 40) (r1 := 0) (r2 := 0) (r3 := 0) rfl rfl ?_
      refine wr_V (k0 := 236) (rest := []) (as := [.ref 236]) (nx := 43) (r1 := 285) (r2 := 0) (r3 := 11) rfl rfl rfl (of_decide_eq_true rfl) rfl rfl (by decide) rfl rfl (of_decide_eq_true rfl) (of_decide_eq_true rfl) ?_
      refine wi_aload_n (i := 0) (x := 236) (nx := 1) (r1 := 0) (r2 := 0) (r3 := 0) rfl rfl ?_
      refine wr_gr (k0 := 236) (x := 238) (nx := 4) (r1 := 11) (r2 := 13) (r3 := 0) rfl rfl (by decide) rfl ⟨rfl, rfl⟩ rfl ?_
      refine wi_bipush (n := 102) (nx := 6) (r1 := 0) (r2 := 0) (r3 := 0) rfl (by decide) ?_
      refine wr_ia (k0 := 238) (a := 102) (f := 102) (x := h 238 102) (nx := 7) (r1 := 0) (r2 := 0) (r3 := 0) rfl (by decide) rfl (by omega) (by omega) (by decide) rfl ?_
      refine wi_if (cd := .le) (nx := 10) (r1 := 39) (r2 := 0) (r3 := 0) rfl (by omega) (fun (q22 : (h 238 102) ≤ 0) => ?_) (fun (q22 : ¬ ((h 238 102) ≤ 0)) => ?_)
      ·
        refine wi_iconst (n := 0) (nx := 40) (r1 := 0) (r2 := 0) (r3 := 0) rfl ?_
        refine wi_zreturn (nx := 41) (r1 := 0) (r2 := 0) (r3 := 0) rfl rfl (by omega) ?_
        refine wk_i ?_
        refine wi_if (cd := .eq) (nx := 46) (r1 := 58) (r2 := 0) (r3 := 0) rfl (by omega) (fun (q23 : 0 = 0) => ?_) (fun (q23 : ¬ (0 = 0)) => by exfalso; omega)
        refine wi_iconst (n := 0) (nx := 59) (r1 := 0) (r2 := 0) (r3 := 0) rfl ?_
        refine wi_istore_n (i := 3) (e := 0) (lo2 := [(3, vi 0), (0, .ref 236), (1, vi 2), (2, vi a0)]) (nx := 60) (r1 := 0) (r2 := 0) (r3 := 0) rfl rfl ?_
        refine wi_iload_n (i := 3) (e := 0) (nx := 61) (r1 := 0) (r2 := 0) (r3 := 0) rfl rfl ?_
        refine wi_if (cd := .eq) (nx := 64) (r1 := 98) (r2 := 0) (r3 := 0) rfl (by omega) (fun (q24 : 0 = 0) => ?_) (fun (q24 : ¬ (0 = 0)) => by exfalso; omega)
        refine wi_aload_n (i := 0) (x := 236) (nx := 99) (r1 := 0) (r2 := 0) (r3 := 0) rfl rfl ?_
        refine wi_aload_n (i := 0) (x := 236) (nx := 100) (r1 := 0) (r2 := 0) (r3 := 0) rfl rfl ?_
        have b25 := gi_b (lo := 0) (hi := 1) g 236 45 rfl
        refine wr_gi2 (k0 := 236) (x := h 236 45) (nx := 103) (r1 := 11) (r2 := 45) (r3 := 0) rfl rfl (by decide) rfl ⟨rfl, rfl⟩ rfl rfl ?_
        refine wi_if (cd := .ne) (nx := 106) (r1 := 110) (r2 := 0) (r3 := 0) rfl (by omega) (fun (q26 : (h 236 45) ≠ 0) => ?_) (fun (q26 : ¬ ((h 236 45) ≠ 0)) => ?_)
        ·
          refine wi_iconst (n := 1) (nx := 111) (r1 := 0) (r2 := 0) (r3 := 0) rfl ?_
          refine wi_goto (nx := 114) (r1 := 115) (r2 := 0) (r3 := 0) rfl ?_
          refine wr_pf2 (k0 := 236) (x := 1) (bl := 0) (bh := 1) (nx := 118) (r1 := 11) (r2 := 45) (r3 := 2) rfl (by decide) rfl ⟨rfl, rfl⟩ rfl (by omega) rfl g rfl (by omega) (fun h27 g27 w27 u27 => ?_)
          have F28 := F0.then rfl u27
          refine wi_iload_n (i := 3) (e := 0) (nx := 119) (r1 := 0) (r2 := 0) (r3 := 0) rfl rfl ?_
          refine wi_zreturn (nx := 120) (r1 := 0) (r2 := 0) (r3 := 0) rfl rfl (by omega) ?_
          have e29 : h27 238 98 = h 238 98 := (u27 238 98 rfl)
          have e30 : h27 238 99 = h 238 99 := (u27 238 99 rfl)
          have e31 : h27 238 100 = h 238 100 := (u27 238 100 rfl)
          have e32 : h27 238 101 = h 238 101 := (u27 238 101 rfl)
          have e33 : h27 238 102 = h 238 102 := (u27 238 102 rfl)
          have e34 : h27 238 106 = h 238 106 := (u27 238 106 rfl)
          have e35 : h27 238 73 = h 238 73 := (u27 238 73 rfl)
          have e36 : h27 238 2 = h 238 2 := (u27 238 2 rfl)
          have e37 : h27 238 119 = h 238 119 := (u27 238 119 rfl)
          have e38 : h27 238 67 = h 238 67 := (u27 238 67 rfl)
          have e39 : h27 238 69 = h 238 69 := (u27 238 69 rfl)
          have e40 : h27 238 5 = h 238 5 := (u27 238 5 rfl)
          exact k h27 0 g27 F28 (by omega) (fun _ => by omega) (show (h27 238 98) + (h27 238 99) + (h27 238 100) + (h27 238 101) + (h27 238 102) + (h27 238 106) = (h27 238 73) by omega) (show (h27 238 73) ≤ (h27 238 2) by omega) (show (h27 238 119) ≤ (h27 238 67) by omega) (show (h27 238 69) ≤ (h27 238 5) by omega) (show (h27 238 2) ≤ 12 * (h27 238 5) by omega)
        ·
          refine wi_iload_n (i := 3) (e := 0) (nx := 107) (r1 := 0) (r2 := 0) (r3 := 0) rfl rfl ?_
          refine wi_if (cd := .eq) (nx := 110) (r1 := 114) (r2 := 0) (r3 := 0) rfl (by omega) (fun (q27 : 0 = 0) => ?_) (fun (q27 : ¬ (0 = 0)) => by exfalso; omega)
          refine wi_iconst (n := 0) (nx := 115) (r1 := 0) (r2 := 0) (r3 := 0) rfl ?_
          refine wr_pf2 (k0 := 236) (x := 0) (bl := 0) (bh := 1) (nx := 118) (r1 := 11) (r2 := 45) (r3 := 2) rfl (by decide) rfl ⟨rfl, rfl⟩ rfl (by omega) rfl g rfl (by omega) (fun h28 g28 w28 u28 => ?_)
          have F29 := F0.then rfl u28
          refine wi_iload_n (i := 3) (e := 0) (nx := 119) (r1 := 0) (r2 := 0) (r3 := 0) rfl rfl ?_
          refine wi_zreturn (nx := 120) (r1 := 0) (r2 := 0) (r3 := 0) rfl rfl (by omega) ?_
          have e30 : h28 238 98 = h 238 98 := (u28 238 98 rfl)
          have e31 : h28 238 99 = h 238 99 := (u28 238 99 rfl)
          have e32 : h28 238 100 = h 238 100 := (u28 238 100 rfl)
          have e33 : h28 238 101 = h 238 101 := (u28 238 101 rfl)
          have e34 : h28 238 102 = h 238 102 := (u28 238 102 rfl)
          have e35 : h28 238 106 = h 238 106 := (u28 238 106 rfl)
          have e36 : h28 238 73 = h 238 73 := (u28 238 73 rfl)
          have e37 : h28 238 2 = h 238 2 := (u28 238 2 rfl)
          have e38 : h28 238 119 = h 238 119 := (u28 238 119 rfl)
          have e39 : h28 238 67 = h 238 67 := (u28 238 67 rfl)
          have e40 : h28 238 69 = h 238 69 := (u28 238 69 rfl)
          have e41 : h28 238 5 = h 238 5 := (u28 238 5 rfl)
          exact k h28 0 g28 F29 (by omega) (fun _ => by omega) (show (h28 238 98) + (h28 238 99) + (h28 238 100) + (h28 238 101) + (h28 238 102) + (h28 238 106) = (h28 238 73) by omega) (show (h28 238 73) ≤ (h28 238 2) by omega) (show (h28 238 119) ≤ (h28 238 67) by omega) (show (h28 238 69) ≤ (h28 238 5) by omega) (show (h28 238 2) ≤ 12 * (h28 238 5) by omega)
      ·
        refine wi_aload_n (i := 0) (x := 236) (nx := 11) (r1 := 0) (r2 := 0) (r3 := 0) rfl rfl ?_
        refine wr_gr (k0 := 236) (x := 238) (nx := 14) (r1 := 11) (r2 := 13) (r3 := 0) rfl rfl (by decide) rfl ⟨rfl, rfl⟩ rfl ?_
        refine wi_bipush (n := 67) (nx := 16) (r1 := 0) (r2 := 0) (r3 := 0) rfl (by decide) ?_
        refine wr_ia (k0 := 238) (a := 67) (f := 67) (x := h 238 67) (nx := 17) (r1 := 0) (r2 := 0) (r3 := 0) rfl (by decide) rfl (by omega) (by omega) (by decide) rfl ?_
        refine wi_aload_n (i := 0) (x := 236) (nx := 18) (r1 := 0) (r2 := 0) (r3 := 0) rfl rfl ?_
        refine wr_gr (k0 := 236) (x := 238) (nx := 21) (r1 := 11) (r2 := 13) (r3 := 0) rfl rfl (by decide) rfl ⟨rfl, rfl⟩ rfl ?_
        refine wi_bipush (n := 55) (nx := 23) (r1 := 0) (r2 := 0) (r3 := 0) rfl (by decide) ?_
        refine wi_aload_n (i := 0) (x := 236) (nx := 24) (r1 := 0) (r2 := 0) (r3 := 0) rfl rfl ?_
        refine wr_gr (k0 := 236) (x := 238) (nx := 27) (r1 := 11) (r2 := 13) (r3 := 0) rfl rfl (by decide) rfl ⟨rfl, rfl⟩ rfl ?_
        refine wi_bipush (n := 103) (nx := 29) (r1 := 0) (r2 := 0) (r3 := 0) rfl (by decide) ?_
        have b23 := gi_b (lo := 0) (hi := 11) g 238 103 rfl
        refine wr_ia (k0 := 238) (a := 103) (f := 103) (x := h 238 103) (nx := 30) (r1 := 0) (r2 := 0) (r3 := 0) rfl (by decide) rfl (by omega) (by omega) (by decide) rfl ?_
        refine wr_add (nx := 31) (r1 := 0) (r2 := 0) (r3 := 0) rfl (fun e24 (fe24 : e24 = 55 + (h 238 103)) => ?_)
        obtain ⟨i25, ei25⟩ : ∃ q : Nat, e24 = (q : Int) := ⟨(e24).toNat, by omega⟩
        have b26 := gi_b (lo := 0) (hi := 20000) g 238 i25 (gi_rg 55 12 (fun _ => rfl) (by decide +kernel) (by omega))
        refine wr_ia (k0 := 238) (a := e24) (f := i25) (x := h 238 i25) (nx := 32) (r1 := 0) (r2 := 0) (r3 := 0) rfl (by decide) rfl (by omega) (by omega) (by decide) rfl ?_
        refine wi_icmp (cd := .lt) (nx := 35) (r1 := 39) (r2 := 0) (r3 := 0) rfl (by omega) (by omega) (fun (q27 : (h 238 67) < (h 238 i25)) => ?_) (fun (q27 : ¬ ((h 238 67) < (h 238 i25))) => ?_)
        ·
          refine wi_iconst (n := 0) (nx := 40) (r1 := 0) (r2 := 0) (r3 := 0) rfl ?_
          refine wi_zreturn (nx := 41) (r1 := 0) (r2 := 0) (r3 := 0) rfl rfl (by omega) ?_
          refine wk_i ?_
          refine wi_if (cd := .eq) (nx := 46) (r1 := 58) (r2 := 0) (r3 := 0) rfl (by omega) (fun (q28 : 0 = 0) => ?_) (fun (q28 : ¬ (0 = 0)) => by exfalso; omega)
          refine wi_iconst (n := 0) (nx := 59) (r1 := 0) (r2 := 0) (r3 := 0) rfl ?_
          refine wi_istore_n (i := 3) (e := 0) (lo2 := [(3, vi 0), (0, .ref 236), (1, vi 2), (2, vi a0)]) (nx := 60) (r1 := 0) (r2 := 0) (r3 := 0) rfl rfl ?_
          refine wi_iload_n (i := 3) (e := 0) (nx := 61) (r1 := 0) (r2 := 0) (r3 := 0) rfl rfl ?_
          refine wi_if (cd := .eq) (nx := 64) (r1 := 98) (r2 := 0) (r3 := 0) rfl (by omega) (fun (q29 : 0 = 0) => ?_) (fun (q29 : ¬ (0 = 0)) => by exfalso; omega)
          refine wi_aload_n (i := 0) (x := 236) (nx := 99) (r1 := 0) (r2 := 0) (r3 := 0) rfl rfl ?_
          refine wi_aload_n (i := 0) (x := 236) (nx := 100) (r1 := 0) (r2 := 0) (r3 := 0) rfl rfl ?_
          have b30 := gi_b (lo := 0) (hi := 1) g 236 45 rfl
          refine wr_gi2 (k0 := 236) (x := h 236 45) (nx := 103) (r1 := 11) (r2 := 45) (r3 := 0) rfl rfl (by decide) rfl ⟨rfl, rfl⟩ rfl rfl ?_
          refine wi_if (cd := .ne) (nx := 106) (r1 := 110) (r2 := 0) (r3 := 0) rfl (by omega) (fun (q31 : (h 236 45) ≠ 0) => ?_) (fun (q31 : ¬ ((h 236 45) ≠ 0)) => ?_)
          ·
            refine wi_iconst (n := 1) (nx := 111) (r1 := 0) (r2 := 0) (r3 := 0) rfl ?_
            refine wi_goto (nx := 114) (r1 := 115) (r2 := 0) (r3 := 0) rfl ?_
            refine wr_pf2 (k0 := 236) (x := 1) (bl := 0) (bh := 1) (nx := 118) (r1 := 11) (r2 := 45) (r3 := 2) rfl (by decide) rfl ⟨rfl, rfl⟩ rfl (by omega) rfl g rfl (by omega) (fun h32 g32 w32 u32 => ?_)
            have F33 := F0.then rfl u32
            refine wi_iload_n (i := 3) (e := 0) (nx := 119) (r1 := 0) (r2 := 0) (r3 := 0) rfl rfl ?_
            refine wi_zreturn (nx := 120) (r1 := 0) (r2 := 0) (r3 := 0) rfl rfl (by omega) ?_
            have e34 : h32 238 98 = h 238 98 := (u32 238 98 rfl)
            have e35 : h32 238 99 = h 238 99 := (u32 238 99 rfl)
            have e36 : h32 238 100 = h 238 100 := (u32 238 100 rfl)
            have e37 : h32 238 101 = h 238 101 := (u32 238 101 rfl)
            have e38 : h32 238 102 = h 238 102 := (u32 238 102 rfl)
            have e39 : h32 238 106 = h 238 106 := (u32 238 106 rfl)
            have e40 : h32 238 73 = h 238 73 := (u32 238 73 rfl)
            have e41 : h32 238 2 = h 238 2 := (u32 238 2 rfl)
            have e42 : h32 238 119 = h 238 119 := (u32 238 119 rfl)
            have e43 : h32 238 67 = h 238 67 := (u32 238 67 rfl)
            have e44 : h32 238 69 = h 238 69 := (u32 238 69 rfl)
            have e45 : h32 238 5 = h 238 5 := (u32 238 5 rfl)
            exact k h32 0 g32 F33 (by omega) (fun _ => by omega) (show (h32 238 98) + (h32 238 99) + (h32 238 100) + (h32 238 101) + (h32 238 102) + (h32 238 106) = (h32 238 73) by omega) (show (h32 238 73) ≤ (h32 238 2) by omega) (show (h32 238 119) ≤ (h32 238 67) by omega) (show (h32 238 69) ≤ (h32 238 5) by omega) (show (h32 238 2) ≤ 12 * (h32 238 5) by omega)
          ·
            refine wi_iload_n (i := 3) (e := 0) (nx := 107) (r1 := 0) (r2 := 0) (r3 := 0) rfl rfl ?_
            refine wi_if (cd := .eq) (nx := 110) (r1 := 114) (r2 := 0) (r3 := 0) rfl (by omega) (fun (q32 : 0 = 0) => ?_) (fun (q32 : ¬ (0 = 0)) => by exfalso; omega)
            refine wi_iconst (n := 0) (nx := 115) (r1 := 0) (r2 := 0) (r3 := 0) rfl ?_
            refine wr_pf2 (k0 := 236) (x := 0) (bl := 0) (bh := 1) (nx := 118) (r1 := 11) (r2 := 45) (r3 := 2) rfl (by decide) rfl ⟨rfl, rfl⟩ rfl (by omega) rfl g rfl (by omega) (fun h33 g33 w33 u33 => ?_)
            have F34 := F0.then rfl u33
            refine wi_iload_n (i := 3) (e := 0) (nx := 119) (r1 := 0) (r2 := 0) (r3 := 0) rfl rfl ?_
            refine wi_zreturn (nx := 120) (r1 := 0) (r2 := 0) (r3 := 0) rfl rfl (by omega) ?_
            have e35 : h33 238 98 = h 238 98 := (u33 238 98 rfl)
            have e36 : h33 238 99 = h 238 99 := (u33 238 99 rfl)
            have e37 : h33 238 100 = h 238 100 := (u33 238 100 rfl)
            have e38 : h33 238 101 = h 238 101 := (u33 238 101 rfl)
            have e39 : h33 238 102 = h 238 102 := (u33 238 102 rfl)
            have e40 : h33 238 106 = h 238 106 := (u33 238 106 rfl)
            have e41 : h33 238 73 = h 238 73 := (u33 238 73 rfl)
            have e42 : h33 238 2 = h 238 2 := (u33 238 2 rfl)
            have e43 : h33 238 119 = h 238 119 := (u33 238 119 rfl)
            have e44 : h33 238 67 = h 238 67 := (u33 238 67 rfl)
            have e45 : h33 238 69 = h 238 69 := (u33 238 69 rfl)
            have e46 : h33 238 5 = h 238 5 := (u33 238 5 rfl)
            exact k h33 0 g33 F34 (by omega) (fun _ => by omega) (show (h33 238 98) + (h33 238 99) + (h33 238 100) + (h33 238 101) + (h33 238 102) + (h33 238 106) = (h33 238 73) by omega) (show (h33 238 73) ≤ (h33 238 2) by omega) (show (h33 238 119) ≤ (h33 238 67) by omega) (show (h33 238 69) ≤ (h33 238 5) by omega) (show (h33 238 2) ≤ 12 * (h33 238 5) by omega)
        ·
          refine wi_iconst (n := 1) (nx := 36) (r1 := 0) (r2 := 0) (r3 := 0) rfl ?_
          refine wi_goto (nx := 39) (r1 := 40) (r2 := 0) (r3 := 0) rfl ?_
          refine wi_zreturn (nx := 41) (r1 := 0) (r2 := 0) (r3 := 0) rfl rfl (by omega) ?_
          refine wk_i ?_
          refine wi_if (cd := .eq) (nx := 46) (r1 := 58) (r2 := 0) (r3 := 0) rfl (by omega) (fun (q28 : 1 = 0) => by exfalso; omega) (fun (q28 : ¬ (1 = 0)) => ?_)
          refine wi_aload_n (i := 0) (x := 236) (nx := 47) (r1 := 0) (r2 := 0) (r3 := 0) rfl rfl ?_
          refine wi_iload_n (i := 2) (e := a0) (nx := 48) (r1 := 0) (r2 := 0) (r3 := 0) rfl rfl ?_
          rcases (show a0 = 0 ∨ a0 = 1 ∨ a0 = 2 ∨ a0 = 3 by omega) with q29 | q29 | q29 | q29
          ·
            rw [q29]
            refine wr_V (k0 := 236) (rest := []) (as := [.ref 236, vi 0]) (nx := 51) (r1 := 277) (r2 := 1) (r3 := 11) rfl rfl rfl (of_decide_eq_true rfl) rfl rfl (by decide) rfl rfl (of_decide_eq_true rfl) (of_decide_eq_true rfl) ?_
            refine wi_aload_n (i := 0) (x := 236) (nx := 1) (r1 := 0) (r2 := 0) (r3 := 0) rfl rfl ?_
            refine wr_gr (k0 := 236) (x := 238) (nx := 4) (r1 := 11) (r2 := 13) (r3 := 0) rfl rfl (by decide) rfl ⟨rfl, rfl⟩ rfl ?_
            refine wi_bipush (n := 98) (nx := 6) (r1 := 0) (r2 := 0) (r3 := 0) rfl (by decide) ?_
            refine wi_iload_n (i := 1) (e := 0) (nx := 7) (r1 := 0) (r2 := 0) (r3 := 0) rfl rfl ?_
            refine wr_addL (98) (nx := 8) (r1 := 0) (r2 := 0) (r3 := 0) rfl (by decide) ?_
            refine wr_ia (k0 := 238) (a := 98) (f := 98) (x := h 238 98) (nx := 9) (r1 := 0) (r2 := 0) (r3 := 0) rfl (by decide) rfl (by omega) (by omega) (by decide) rfl ?_
            refine wi_aload_n (i := 0) (x := 236) (nx := 10) (r1 := 0) (r2 := 0) (r3 := 0) rfl rfl ?_
            refine wr_gr (k0 := 236) (x := 238) (nx := 13) (r1 := 11) (r2 := 13) (r3 := 0) rfl rfl (by decide) rfl ⟨rfl, rfl⟩ rfl ?_
            refine wi_bipush (n := 15) (nx := 15) (r1 := 0) (r2 := 0) (r3 := 0) rfl (by decide) ?_
            refine wi_iload_n (i := 1) (e := 0) (nx := 16) (r1 := 0) (r2 := 0) (r3 := 0) rfl rfl ?_
            refine wr_addL (15) (nx := 17) (r1 := 0) (r2 := 0) (r3 := 0) rfl (by decide) ?_
            have b30 := gi_b (lo := 0) (hi := 6) g 238 15 rfl
            refine wr_ia (k0 := 238) (a := 15) (f := 15) (x := h 238 15) (nx := 18) (r1 := 0) (r2 := 0) (r3 := 0) rfl (by decide) rfl (by omega) (by omega) (by decide) rfl ?_
            refine wi_icmp (cd := .ge) (nx := 21) (r1 := 25) (r2 := 0) (r3 := 0) rfl (by omega) (by omega) (fun (q31 : (h 238 15) ≤ (h 238 98)) => ?_) (fun (q31 : ¬ ((h 238 15) ≤ (h 238 98))) => ?_)
            ·
              refine wi_iconst (n := 0) (nx := 26) (r1 := 0) (r2 := 0) (r3 := 0) rfl ?_
              refine wi_zreturn (nx := 27) (r1 := 0) (r2 := 0) (r3 := 0) rfl rfl (by omega) ?_
              refine wk_i ?_
              refine wi_if (cd := .eq) (nx := 54) (r1 := 58) (r2 := 0) (r3 := 0) rfl (by omega) (fun (q32 : 0 = 0) => ?_) (fun (q32 : ¬ (0 = 0)) => by exfalso; omega)
              refine wi_iconst (n := 0) (nx := 59) (r1 := 0) (r2 := 0) (r3 := 0) rfl ?_
              refine wi_istore_n (i := 3) (e := 0) (lo2 := [(3, vi 0), (0, .ref 236), (1, vi 2), (2, vi 0)]) (nx := 60) (r1 := 0) (r2 := 0) (r3 := 0) rfl rfl ?_
              refine wi_iload_n (i := 3) (e := 0) (nx := 61) (r1 := 0) (r2 := 0) (r3 := 0) rfl rfl ?_
              refine wi_if (cd := .eq) (nx := 64) (r1 := 98) (r2 := 0) (r3 := 0) rfl (by omega) (fun (q33 : 0 = 0) => ?_) (fun (q33 : ¬ (0 = 0)) => by exfalso; omega)
              refine wi_aload_n (i := 0) (x := 236) (nx := 99) (r1 := 0) (r2 := 0) (r3 := 0) rfl rfl ?_
              refine wi_aload_n (i := 0) (x := 236) (nx := 100) (r1 := 0) (r2 := 0) (r3 := 0) rfl rfl ?_
              have b34 := gi_b (lo := 0) (hi := 1) g 236 45 rfl
              refine wr_gi2 (k0 := 236) (x := h 236 45) (nx := 103) (r1 := 11) (r2 := 45) (r3 := 0) rfl rfl (by decide) rfl ⟨rfl, rfl⟩ rfl rfl ?_
              refine wi_if (cd := .ne) (nx := 106) (r1 := 110) (r2 := 0) (r3 := 0) rfl (by omega) (fun (q35 : (h 236 45) ≠ 0) => ?_) (fun (q35 : ¬ ((h 236 45) ≠ 0)) => ?_)
              ·
                refine wi_iconst (n := 1) (nx := 111) (r1 := 0) (r2 := 0) (r3 := 0) rfl ?_
                refine wi_goto (nx := 114) (r1 := 115) (r2 := 0) (r3 := 0) rfl ?_
                refine wr_pf2 (k0 := 236) (x := 1) (bl := 0) (bh := 1) (nx := 118) (r1 := 11) (r2 := 45) (r3 := 2) rfl (by decide) rfl ⟨rfl, rfl⟩ rfl (by omega) rfl g rfl (by omega) (fun h36 g36 w36 u36 => ?_)
                have F37 := F0.then rfl u36
                refine wi_iload_n (i := 3) (e := 0) (nx := 119) (r1 := 0) (r2 := 0) (r3 := 0) rfl rfl ?_
                refine wi_zreturn (nx := 120) (r1 := 0) (r2 := 0) (r3 := 0) rfl rfl (by omega) ?_
                have e38 : h36 238 98 = h 238 98 := (u36 238 98 rfl)
                have e39 : h36 238 99 = h 238 99 := (u36 238 99 rfl)
                have e40 : h36 238 100 = h 238 100 := (u36 238 100 rfl)
                have e41 : h36 238 101 = h 238 101 := (u36 238 101 rfl)
                have e42 : h36 238 102 = h 238 102 := (u36 238 102 rfl)
                have e43 : h36 238 106 = h 238 106 := (u36 238 106 rfl)
                have e44 : h36 238 73 = h 238 73 := (u36 238 73 rfl)
                have e45 : h36 238 2 = h 238 2 := (u36 238 2 rfl)
                have e46 : h36 238 119 = h 238 119 := (u36 238 119 rfl)
                have e47 : h36 238 67 = h 238 67 := (u36 238 67 rfl)
                have e48 : h36 238 69 = h 238 69 := (u36 238 69 rfl)
                have e49 : h36 238 5 = h 238 5 := (u36 238 5 rfl)
                exact k h36 0 g36 F37 (by omega) (fun _ => by omega) (show (h36 238 98) + (h36 238 99) + (h36 238 100) + (h36 238 101) + (h36 238 102) + (h36 238 106) = (h36 238 73) by omega) (show (h36 238 73) ≤ (h36 238 2) by omega) (show (h36 238 119) ≤ (h36 238 67) by omega) (show (h36 238 69) ≤ (h36 238 5) by omega) (show (h36 238 2) ≤ 12 * (h36 238 5) by omega)
              ·
                refine wi_iload_n (i := 3) (e := 0) (nx := 107) (r1 := 0) (r2 := 0) (r3 := 0) rfl rfl ?_
                refine wi_if (cd := .eq) (nx := 110) (r1 := 114) (r2 := 0) (r3 := 0) rfl (by omega) (fun (q36 : 0 = 0) => ?_) (fun (q36 : ¬ (0 = 0)) => by exfalso; omega)
                refine wi_iconst (n := 0) (nx := 115) (r1 := 0) (r2 := 0) (r3 := 0) rfl ?_
                refine wr_pf2 (k0 := 236) (x := 0) (bl := 0) (bh := 1) (nx := 118) (r1 := 11) (r2 := 45) (r3 := 2) rfl (by decide) rfl ⟨rfl, rfl⟩ rfl (by omega) rfl g rfl (by omega) (fun h37 g37 w37 u37 => ?_)
                have F38 := F0.then rfl u37
                refine wi_iload_n (i := 3) (e := 0) (nx := 119) (r1 := 0) (r2 := 0) (r3 := 0) rfl rfl ?_
                refine wi_zreturn (nx := 120) (r1 := 0) (r2 := 0) (r3 := 0) rfl rfl (by omega) ?_
                have e39 : h37 238 98 = h 238 98 := (u37 238 98 rfl)
                have e40 : h37 238 99 = h 238 99 := (u37 238 99 rfl)
                have e41 : h37 238 100 = h 238 100 := (u37 238 100 rfl)
                have e42 : h37 238 101 = h 238 101 := (u37 238 101 rfl)
                have e43 : h37 238 102 = h 238 102 := (u37 238 102 rfl)
                have e44 : h37 238 106 = h 238 106 := (u37 238 106 rfl)
                have e45 : h37 238 73 = h 238 73 := (u37 238 73 rfl)
                have e46 : h37 238 2 = h 238 2 := (u37 238 2 rfl)
                have e47 : h37 238 119 = h 238 119 := (u37 238 119 rfl)
                have e48 : h37 238 67 = h 238 67 := (u37 238 67 rfl)
                have e49 : h37 238 69 = h 238 69 := (u37 238 69 rfl)
                have e50 : h37 238 5 = h 238 5 := (u37 238 5 rfl)
                exact k h37 0 g37 F38 (by omega) (fun _ => by omega) (show (h37 238 98) + (h37 238 99) + (h37 238 100) + (h37 238 101) + (h37 238 102) + (h37 238 106) = (h37 238 73) by omega) (show (h37 238 73) ≤ (h37 238 2) by omega) (show (h37 238 119) ≤ (h37 238 67) by omega) (show (h37 238 69) ≤ (h37 238 5) by omega) (show (h37 238 2) ≤ 12 * (h37 238 5) by omega)
            ·
              refine wi_iconst (n := 1) (nx := 22) (r1 := 0) (r2 := 0) (r3 := 0) rfl ?_
              refine wi_goto (nx := 25) (r1 := 26) (r2 := 0) (r3 := 0) rfl ?_
              refine wi_zreturn (nx := 27) (r1 := 0) (r2 := 0) (r3 := 0) rfl rfl (by omega) ?_
              refine wk_i ?_
              refine wi_if (cd := .eq) (nx := 54) (r1 := 58) (r2 := 0) (r3 := 0) rfl (by omega) (fun (q32 : 1 = 0) => by exfalso; omega) (fun (q32 : ¬ (1 = 0)) => ?_)
              refine wi_iconst (n := 1) (nx := 55) (r1 := 0) (r2 := 0) (r3 := 0) rfl ?_
              refine wi_goto (nx := 58) (r1 := 59) (r2 := 0) (r3 := 0) rfl ?_
              refine wi_istore_n (i := 3) (e := 1) (lo2 := [(3, vi 1), (0, .ref 236), (1, vi 2), (2, vi 0)]) (nx := 60) (r1 := 0) (r2 := 0) (r3 := 0) rfl rfl ?_
              refine wi_iload_n (i := 3) (e := 1) (nx := 61) (r1 := 0) (r2 := 0) (r3 := 0) rfl rfl ?_
              refine wi_if (cd := .eq) (nx := 64) (r1 := 98) (r2 := 0) (r3 := 0) rfl (by omega) (fun (q33 : 1 = 0) => by exfalso; omega) (fun (q33 : ¬ (1 = 0)) => ?_)
              refine wi_aload_n (i := 0) (x := 236) (nx := 65) (r1 := 0) (r2 := 0) (r3 := 0) rfl rfl ?_
              refine wi_iload_n (i := 1) (e := 2) (nx := 66) (r1 := 0) (r2 := 0) (r3 := 0) rfl rfl ?_
              refine wi_if (cd := .ne) (nx := 69) (r1 := 77) (r2 := 0) (r3 := 0) rfl (by omega) (fun (q34 : 2 ≠ 0) => ?_) (fun (q34 : ¬ (2 ≠ 0)) => by exfalso; omega)
              refine wi_iload_n (i := 1) (e := 2) (nx := 78) (r1 := 0) (r2 := 0) (r3 := 0) rfl rfl ?_
              refine wi_iconst (n := 1) (nx := 79) (r1 := 0) (r2 := 0) (r3 := 0) rfl ?_
              refine wi_icmp (cd := .ne) (nx := 82) (r1 := 90) (r2 := 0) (r3 := 0) rfl (by omega) (by omega) (fun (q35 : 2 ≠ 1) => ?_) (fun (q35 : ¬ (2 ≠ 1)) => by exfalso; omega)
              refine wi_aload_n (i := 0) (x := 236) (nx := 91) (r1 := 0) (r2 := 0) (r3 := 0) rfl rfl ?_
              refine wi_iload_n (i := 2) (e := 0) (nx := 92) (r1 := 0) (r2 := 0) (r3 := 0) rfl rfl ?_
              refine wr_V (k0 := 236) (rest := [.ref 236]) (as := [.ref 236, vi 0]) (nx := 95) (r1 := 286) (r2 := 1) (r3 := 11) rfl rfl rfl (of_decide_eq_true rfl) rfl rfl (by decide) rfl rfl (of_decide_eq_true rfl) (of_decide_eq_true rfl) ?_
              refine ct_286_236_L0 hcr  g   (show (h 238 98) + (h 238 99) + (h 238 100) + (h 238 101) + (h 238 102) + (h 238 106) = (h 238 73) by omega) (show (h 238 73) ≤ (h 238 2) by omega) (show (h 238 119) ≤ (h 238 67) by omega) (show (h 238 69) ≤ (h 238 5) by omega) (show (h 238 2) ≤ 12 * (h 238 5) by omega) (show 1 ≤ (h 238 102) by omega) (show (h 238 98) ≤ 5 by omega) (fun h36 z37 g36 u36 (fz37 : 0 ≤ z37 ∧ z37 ≤ 11) (p36_0 : (h36 238 98) + (h36 238 99) + (h36 238 100) + (h36 238 101) + (h36 238 102) + (h36 238 106) = (h36 238 73)) (p36_1 : (h36 238 73) ≤ (h36 238 2)) (p36_2 : (h36 238 119) ≤ (h36 238 67)) (p36_3 : (h36 238 69) ≤ (h36 238 5)) (p36_4 : (h36 238 2) ≤ 12 * (h36 238 5)) => ?_)
              have F38 := F0.then (by decide +kernel) u36
              have b39 := gi_b (lo := 0) (hi := 6) g36 238 98 rfl
              have e40 : h36 238 99 = h 238 99 := (u36 238 99 rfl)
              have e41 : h36 238 100 = h 238 100 := (u36 238 100 rfl)
              have e42 : h36 238 101 = h 238 101 := (u36 238 101 rfl)
              have b43 := gi_b (lo := 0) (hi := 3) g36 238 102 rfl
              have e44 : h36 238 106 = h 238 106 := (u36 238 106 rfl)
              have e45 : h36 238 73 = h 238 73 := (u36 238 73 rfl)
              have e46 : h36 238 2 = h 238 2 := (u36 238 2 rfl)
              have e47 : h36 238 119 = h 238 119 := (u36 238 119 rfl)
              have e48 : h36 238 67 = h 238 67 := (u36 238 67 rfl)
              have e49 : h36 238 69 = h 238 69 := (u36 238 69 rfl)
              have e50 : h36 238 5 = h 238 5 := (u36 238 5 rfl)
              refine wk_i ?_
              refine wr_pf0 (k0 := 236) (x := z37) (bl := -2147483648) (bh := 2147483647) (nx := 98) (r1 := 11) (r2 := 28) (r3 := 0) rfl (by decide) rfl ⟨rfl, rfl⟩ rfl rfl g36 rfl (by omega) (fun h51 g51 w51 u51 => ?_)
              have F52 := F38.then rfl u51
              refine wi_aload_n (i := 0) (x := 236) (nx := 99) (r1 := 0) (r2 := 0) (r3 := 0) rfl rfl ?_
              refine wi_aload_n (i := 0) (x := 236) (nx := 100) (r1 := 0) (r2 := 0) (r3 := 0) rfl rfl ?_
              have b53 := gi_b (lo := 0) (hi := 1) g 236 45 rfl
              refine wr_gi2 (k0 := 236) (x := h 236 45) (nx := 103) (r1 := 11) (r2 := 45) (r3 := 0) rfl rfl (by decide) rfl ⟨rfl, rfl⟩ rfl ((u51 236 45 rfl).trans (u36 236 45 rfl)) ?_
              refine wi_if (cd := .ne) (nx := 106) (r1 := 110) (r2 := 0) (r3 := 0) rfl (by omega) (fun (q54 : (h 236 45) ≠ 0) => ?_) (fun (q54 : ¬ ((h 236 45) ≠ 0)) => ?_)
              ·
                refine wi_iconst (n := 1) (nx := 111) (r1 := 0) (r2 := 0) (r3 := 0) rfl ?_
                refine wi_goto (nx := 114) (r1 := 115) (r2 := 0) (r3 := 0) rfl ?_
                refine wr_pf2 (k0 := 236) (x := 1) (bl := 0) (bh := 1) (nx := 118) (r1 := 11) (r2 := 45) (r3 := 2) rfl (by decide) rfl ⟨rfl, rfl⟩ rfl (by omega) rfl g51 rfl (by omega) (fun h55 g55 w55 u55 => ?_)
                have F56 := F52.then rfl u55
                refine wi_iload_n (i := 3) (e := 1) (nx := 119) (r1 := 0) (r2 := 0) (r3 := 0) rfl rfl ?_
                refine wi_zreturn (nx := 120) (r1 := 0) (r2 := 0) (r3 := 0) rfl rfl (by omega) ?_
                have e57 : h55 238 98 = h36 238 98 := ((u55 238 98 rfl).trans (u51 238 98 rfl))
                have e58 : h55 238 99 = h 238 99 := ((u55 238 99 rfl).trans ((u51 238 99 rfl).trans (u36 238 99 rfl)))
                have e59 : h55 238 100 = h 238 100 := ((u55 238 100 rfl).trans ((u51 238 100 rfl).trans (u36 238 100 rfl)))
                have e60 : h55 238 101 = h 238 101 := ((u55 238 101 rfl).trans ((u51 238 101 rfl).trans (u36 238 101 rfl)))
                have e61 : h55 238 102 = h36 238 102 := ((u55 238 102 rfl).trans (u51 238 102 rfl))
                have e62 : h55 238 106 = h 238 106 := ((u55 238 106 rfl).trans ((u51 238 106 rfl).trans (u36 238 106 rfl)))
                have e63 : h55 238 73 = h 238 73 := ((u55 238 73 rfl).trans ((u51 238 73 rfl).trans (u36 238 73 rfl)))
                have e64 : h55 238 2 = h 238 2 := ((u55 238 2 rfl).trans ((u51 238 2 rfl).trans (u36 238 2 rfl)))
                have e65 : h55 238 119 = h 238 119 := ((u55 238 119 rfl).trans ((u51 238 119 rfl).trans (u36 238 119 rfl)))
                have e66 : h55 238 67 = h 238 67 := ((u55 238 67 rfl).trans ((u51 238 67 rfl).trans (u36 238 67 rfl)))
                have e67 : h55 238 69 = h 238 69 := ((u55 238 69 rfl).trans ((u51 238 69 rfl).trans (u36 238 69 rfl)))
                have e68 : h55 238 5 = h 238 5 := ((u55 238 5 rfl).trans ((u51 238 5 rfl).trans (u36 238 5 rfl)))
                exact k h55 1 g55 F56 (by omega) (fun _ => by omega) (show (h55 238 98) + (h55 238 99) + (h55 238 100) + (h55 238 101) + (h55 238 102) + (h55 238 106) = (h55 238 73) by omega) (show (h55 238 73) ≤ (h55 238 2) by omega) (show (h55 238 119) ≤ (h55 238 67) by omega) (show (h55 238 69) ≤ (h55 238 5) by omega) (show (h55 238 2) ≤ 12 * (h55 238 5) by omega)
              ·
                refine wi_iload_n (i := 3) (e := 1) (nx := 107) (r1 := 0) (r2 := 0) (r3 := 0) rfl rfl ?_
                refine wi_if (cd := .eq) (nx := 110) (r1 := 114) (r2 := 0) (r3 := 0) rfl (by omega) (fun (q55 : 1 = 0) => by exfalso; omega) (fun (q55 : ¬ (1 = 0)) => ?_)
                refine wi_iconst (n := 1) (nx := 111) (r1 := 0) (r2 := 0) (r3 := 0) rfl ?_
                refine wi_goto (nx := 114) (r1 := 115) (r2 := 0) (r3 := 0) rfl ?_
                refine wr_pf2 (k0 := 236) (x := 1) (bl := 0) (bh := 1) (nx := 118) (r1 := 11) (r2 := 45) (r3 := 2) rfl (by decide) rfl ⟨rfl, rfl⟩ rfl (by omega) rfl g51 rfl (by omega) (fun h56 g56 w56 u56 => ?_)
                have F57 := F52.then rfl u56
                refine wi_iload_n (i := 3) (e := 1) (nx := 119) (r1 := 0) (r2 := 0) (r3 := 0) rfl rfl ?_
                refine wi_zreturn (nx := 120) (r1 := 0) (r2 := 0) (r3 := 0) rfl rfl (by omega) ?_
                have e58 : h56 238 98 = h36 238 98 := ((u56 238 98 rfl).trans (u51 238 98 rfl))
                have e59 : h56 238 99 = h 238 99 := ((u56 238 99 rfl).trans ((u51 238 99 rfl).trans (u36 238 99 rfl)))
                have e60 : h56 238 100 = h 238 100 := ((u56 238 100 rfl).trans ((u51 238 100 rfl).trans (u36 238 100 rfl)))
                have e61 : h56 238 101 = h 238 101 := ((u56 238 101 rfl).trans ((u51 238 101 rfl).trans (u36 238 101 rfl)))
                have e62 : h56 238 102 = h36 238 102 := ((u56 238 102 rfl).trans (u51 238 102 rfl))
                have e63 : h56 238 106 = h 238 106 := ((u56 238 106 rfl).trans ((u51 238 106 rfl).trans (u36 238 106 rfl)))
                have e64 : h56 238 73 = h 238 73 := ((u56 238 73 rfl).trans ((u51 238 73 rfl).trans (u36 238 73 rfl)))
                have e65 : h56 238 2 = h 238 2 := ((u56 238 2 rfl).trans ((u51 238 2 rfl).trans (u36 238 2 rfl)))
                have e66 : h56 238 119 = h 238 119 := ((u56 238 119 rfl).trans ((u51 238 119 rfl).trans (u36 238 119 rfl)))
                have e67 : h56 238 67 = h 238 67 := ((u56 238 67 rfl).trans ((u51 238 67 rfl).trans (u36 238 67 rfl)))
                have e68 : h56 238 69 = h 238 69 := ((u56 238 69 rfl).trans ((u51 238 69 rfl).trans (u36 238 69 rfl)))
                have e69 : h56 238 5 = h 238 5 := ((u56 238 5 rfl).trans ((u51 238 5 rfl).trans (u36 238 5 rfl)))
                exact k h56 1 g56 F57 (by omega) (fun _ => by omega) (show (h56 238 98) + (h56 238 99) + (h56 238 100) + (h56 238 101) + (h56 238 102) + (h56 238 106) = (h56 238 73) by omega) (show (h56 238 73) ≤ (h56 238 2) by omega) (show (h56 238 119) ≤ (h56 238 67) by omega) (show (h56 238 69) ≤ (h56 238 5) by omega) (show (h56 238 2) ≤ 12 * (h56 238 5) by omega)
          ·
            rw [q29]
            refine wr_V (k0 := 236) (rest := []) (as := [.ref 236, vi 1]) (nx := 51) (r1 := 277) (r2 := 1) (r3 := 11) rfl rfl rfl (of_decide_eq_true rfl) rfl rfl (by decide) rfl rfl (of_decide_eq_true rfl) (of_decide_eq_true rfl) ?_
            refine wi_aload_n (i := 0) (x := 236) (nx := 1) (r1 := 0) (r2 := 0) (r3 := 0) rfl rfl ?_
            refine wr_gr (k0 := 236) (x := 238) (nx := 4) (r1 := 11) (r2 := 13) (r3 := 0) rfl rfl (by decide) rfl ⟨rfl, rfl⟩ rfl ?_
            refine wi_bipush (n := 98) (nx := 6) (r1 := 0) (r2 := 0) (r3 := 0) rfl (by decide) ?_
            refine wi_iload_n (i := 1) (e := 1) (nx := 7) (r1 := 0) (r2 := 0) (r3 := 0) rfl rfl ?_
            refine wr_addL (99) (nx := 8) (r1 := 0) (r2 := 0) (r3 := 0) rfl (by decide) ?_
            refine wr_ia (k0 := 238) (a := 99) (f := 99) (x := h 238 99) (nx := 9) (r1 := 0) (r2 := 0) (r3 := 0) rfl (by decide) rfl (by omega) (by omega) (by decide) rfl ?_
            refine wi_aload_n (i := 0) (x := 236) (nx := 10) (r1 := 0) (r2 := 0) (r3 := 0) rfl rfl ?_
            refine wr_gr (k0 := 236) (x := 238) (nx := 13) (r1 := 11) (r2 := 13) (r3 := 0) rfl rfl (by decide) rfl ⟨rfl, rfl⟩ rfl ?_
            refine wi_bipush (n := 15) (nx := 15) (r1 := 0) (r2 := 0) (r3 := 0) rfl (by decide) ?_
            refine wi_iload_n (i := 1) (e := 1) (nx := 16) (r1 := 0) (r2 := 0) (r3 := 0) rfl rfl ?_
            refine wr_addL (16) (nx := 17) (r1 := 0) (r2 := 0) (r3 := 0) rfl (by decide) ?_
            have b30 := gi_b (lo := 0) (hi := 6) g 238 16 rfl
            refine wr_ia (k0 := 238) (a := 16) (f := 16) (x := h 238 16) (nx := 18) (r1 := 0) (r2 := 0) (r3 := 0) rfl (by decide) rfl (by omega) (by omega) (by decide) rfl ?_
            refine wi_icmp (cd := .ge) (nx := 21) (r1 := 25) (r2 := 0) (r3 := 0) rfl (by omega) (by omega) (fun (q31 : (h 238 16) ≤ (h 238 99)) => ?_) (fun (q31 : ¬ ((h 238 16) ≤ (h 238 99))) => ?_)
            ·
              refine wi_iconst (n := 0) (nx := 26) (r1 := 0) (r2 := 0) (r3 := 0) rfl ?_
              refine wi_zreturn (nx := 27) (r1 := 0) (r2 := 0) (r3 := 0) rfl rfl (by omega) ?_
              refine wk_i ?_
              refine wi_if (cd := .eq) (nx := 54) (r1 := 58) (r2 := 0) (r3 := 0) rfl (by omega) (fun (q32 : 0 = 0) => ?_) (fun (q32 : ¬ (0 = 0)) => by exfalso; omega)
              refine wi_iconst (n := 0) (nx := 59) (r1 := 0) (r2 := 0) (r3 := 0) rfl ?_
              refine wi_istore_n (i := 3) (e := 0) (lo2 := [(3, vi 0), (0, .ref 236), (1, vi 2), (2, vi 1)]) (nx := 60) (r1 := 0) (r2 := 0) (r3 := 0) rfl rfl ?_
              refine wi_iload_n (i := 3) (e := 0) (nx := 61) (r1 := 0) (r2 := 0) (r3 := 0) rfl rfl ?_
              refine wi_if (cd := .eq) (nx := 64) (r1 := 98) (r2 := 0) (r3 := 0) rfl (by omega) (fun (q33 : 0 = 0) => ?_) (fun (q33 : ¬ (0 = 0)) => by exfalso; omega)
              refine wi_aload_n (i := 0) (x := 236) (nx := 99) (r1 := 0) (r2 := 0) (r3 := 0) rfl rfl ?_
              refine wi_aload_n (i := 0) (x := 236) (nx := 100) (r1 := 0) (r2 := 0) (r3 := 0) rfl rfl ?_
              have b34 := gi_b (lo := 0) (hi := 1) g 236 45 rfl
              refine wr_gi2 (k0 := 236) (x := h 236 45) (nx := 103) (r1 := 11) (r2 := 45) (r3 := 0) rfl rfl (by decide) rfl ⟨rfl, rfl⟩ rfl rfl ?_
              refine wi_if (cd := .ne) (nx := 106) (r1 := 110) (r2 := 0) (r3 := 0) rfl (by omega) (fun (q35 : (h 236 45) ≠ 0) => ?_) (fun (q35 : ¬ ((h 236 45) ≠ 0)) => ?_)
              ·
                refine wi_iconst (n := 1) (nx := 111) (r1 := 0) (r2 := 0) (r3 := 0) rfl ?_
                refine wi_goto (nx := 114) (r1 := 115) (r2 := 0) (r3 := 0) rfl ?_
                refine wr_pf2 (k0 := 236) (x := 1) (bl := 0) (bh := 1) (nx := 118) (r1 := 11) (r2 := 45) (r3 := 2) rfl (by decide) rfl ⟨rfl, rfl⟩ rfl (by omega) rfl g rfl (by omega) (fun h36 g36 w36 u36 => ?_)
                have F37 := F0.then rfl u36
                refine wi_iload_n (i := 3) (e := 0) (nx := 119) (r1 := 0) (r2 := 0) (r3 := 0) rfl rfl ?_
                refine wi_zreturn (nx := 120) (r1 := 0) (r2 := 0) (r3 := 0) rfl rfl (by omega) ?_
                have e38 : h36 238 98 = h 238 98 := (u36 238 98 rfl)
                have e39 : h36 238 99 = h 238 99 := (u36 238 99 rfl)
                have e40 : h36 238 100 = h 238 100 := (u36 238 100 rfl)
                have e41 : h36 238 101 = h 238 101 := (u36 238 101 rfl)
                have e42 : h36 238 102 = h 238 102 := (u36 238 102 rfl)
                have e43 : h36 238 106 = h 238 106 := (u36 238 106 rfl)
                have e44 : h36 238 73 = h 238 73 := (u36 238 73 rfl)
                have e45 : h36 238 2 = h 238 2 := (u36 238 2 rfl)
                have e46 : h36 238 119 = h 238 119 := (u36 238 119 rfl)
                have e47 : h36 238 67 = h 238 67 := (u36 238 67 rfl)
                have e48 : h36 238 69 = h 238 69 := (u36 238 69 rfl)
                have e49 : h36 238 5 = h 238 5 := (u36 238 5 rfl)
                exact k h36 0 g36 F37 (by omega) (fun _ => by omega) (show (h36 238 98) + (h36 238 99) + (h36 238 100) + (h36 238 101) + (h36 238 102) + (h36 238 106) = (h36 238 73) by omega) (show (h36 238 73) ≤ (h36 238 2) by omega) (show (h36 238 119) ≤ (h36 238 67) by omega) (show (h36 238 69) ≤ (h36 238 5) by omega) (show (h36 238 2) ≤ 12 * (h36 238 5) by omega)
              ·
                refine wi_iload_n (i := 3) (e := 0) (nx := 107) (r1 := 0) (r2 := 0) (r3 := 0) rfl rfl ?_
                refine wi_if (cd := .eq) (nx := 110) (r1 := 114) (r2 := 0) (r3 := 0) rfl (by omega) (fun (q36 : 0 = 0) => ?_) (fun (q36 : ¬ (0 = 0)) => by exfalso; omega)
                refine wi_iconst (n := 0) (nx := 115) (r1 := 0) (r2 := 0) (r3 := 0) rfl ?_
                refine wr_pf2 (k0 := 236) (x := 0) (bl := 0) (bh := 1) (nx := 118) (r1 := 11) (r2 := 45) (r3 := 2) rfl (by decide) rfl ⟨rfl, rfl⟩ rfl (by omega) rfl g rfl (by omega) (fun h37 g37 w37 u37 => ?_)
                have F38 := F0.then rfl u37
                refine wi_iload_n (i := 3) (e := 0) (nx := 119) (r1 := 0) (r2 := 0) (r3 := 0) rfl rfl ?_
                refine wi_zreturn (nx := 120) (r1 := 0) (r2 := 0) (r3 := 0) rfl rfl (by omega) ?_
                have e39 : h37 238 98 = h 238 98 := (u37 238 98 rfl)
                have e40 : h37 238 99 = h 238 99 := (u37 238 99 rfl)
                have e41 : h37 238 100 = h 238 100 := (u37 238 100 rfl)
                have e42 : h37 238 101 = h 238 101 := (u37 238 101 rfl)
                have e43 : h37 238 102 = h 238 102 := (u37 238 102 rfl)
                have e44 : h37 238 106 = h 238 106 := (u37 238 106 rfl)
                have e45 : h37 238 73 = h 238 73 := (u37 238 73 rfl)
                have e46 : h37 238 2 = h 238 2 := (u37 238 2 rfl)
                have e47 : h37 238 119 = h 238 119 := (u37 238 119 rfl)
                have e48 : h37 238 67 = h 238 67 := (u37 238 67 rfl)
                have e49 : h37 238 69 = h 238 69 := (u37 238 69 rfl)
                have e50 : h37 238 5 = h 238 5 := (u37 238 5 rfl)
                exact k h37 0 g37 F38 (by omega) (fun _ => by omega) (show (h37 238 98) + (h37 238 99) + (h37 238 100) + (h37 238 101) + (h37 238 102) + (h37 238 106) = (h37 238 73) by omega) (show (h37 238 73) ≤ (h37 238 2) by omega) (show (h37 238 119) ≤ (h37 238 67) by omega) (show (h37 238 69) ≤ (h37 238 5) by omega) (show (h37 238 2) ≤ 12 * (h37 238 5) by omega)
            ·
              refine wi_iconst (n := 1) (nx := 22) (r1 := 0) (r2 := 0) (r3 := 0) rfl ?_
              refine wi_goto (nx := 25) (r1 := 26) (r2 := 0) (r3 := 0) rfl ?_
              refine wi_zreturn (nx := 27) (r1 := 0) (r2 := 0) (r3 := 0) rfl rfl (by omega) ?_
              refine wk_i ?_
              refine wi_if (cd := .eq) (nx := 54) (r1 := 58) (r2 := 0) (r3 := 0) rfl (by omega) (fun (q32 : 1 = 0) => by exfalso; omega) (fun (q32 : ¬ (1 = 0)) => ?_)
              refine wi_iconst (n := 1) (nx := 55) (r1 := 0) (r2 := 0) (r3 := 0) rfl ?_
              refine wi_goto (nx := 58) (r1 := 59) (r2 := 0) (r3 := 0) rfl ?_
              refine wi_istore_n (i := 3) (e := 1) (lo2 := [(3, vi 1), (0, .ref 236), (1, vi 2), (2, vi 1)]) (nx := 60) (r1 := 0) (r2 := 0) (r3 := 0) rfl rfl ?_
              refine wi_iload_n (i := 3) (e := 1) (nx := 61) (r1 := 0) (r2 := 0) (r3 := 0) rfl rfl ?_
              refine wi_if (cd := .eq) (nx := 64) (r1 := 98) (r2 := 0) (r3 := 0) rfl (by omega) (fun (q33 : 1 = 0) => by exfalso; omega) (fun (q33 : ¬ (1 = 0)) => ?_)
              refine wi_aload_n (i := 0) (x := 236) (nx := 65) (r1 := 0) (r2 := 0) (r3 := 0) rfl rfl ?_
              refine wi_iload_n (i := 1) (e := 2) (nx := 66) (r1 := 0) (r2 := 0) (r3 := 0) rfl rfl ?_
              refine wi_if (cd := .ne) (nx := 69) (r1 := 77) (r2 := 0) (r3 := 0) rfl (by omega) (fun (q34 : 2 ≠ 0) => ?_) (fun (q34 : ¬ (2 ≠ 0)) => by exfalso; omega)
              refine wi_iload_n (i := 1) (e := 2) (nx := 78) (r1 := 0) (r2 := 0) (r3 := 0) rfl rfl ?_
              refine wi_iconst (n := 1) (nx := 79) (r1 := 0) (r2 := 0) (r3 := 0) rfl ?_
              refine wi_icmp (cd := .ne) (nx := 82) (r1 := 90) (r2 := 0) (r3 := 0) rfl (by omega) (by omega) (fun (q35 : 2 ≠ 1) => ?_) (fun (q35 : ¬ (2 ≠ 1)) => by exfalso; omega)
              refine wi_aload_n (i := 0) (x := 236) (nx := 91) (r1 := 0) (r2 := 0) (r3 := 0) rfl rfl ?_
              refine wi_iload_n (i := 2) (e := 1) (nx := 92) (r1 := 0) (r2 := 0) (r3 := 0) rfl rfl ?_
              refine wr_V (k0 := 236) (rest := [.ref 236]) (as := [.ref 236, vi 1]) (nx := 95) (r1 := 286) (r2 := 1) (r3 := 11) rfl rfl rfl (of_decide_eq_true rfl) rfl rfl (by decide) rfl rfl (of_decide_eq_true rfl) (of_decide_eq_true rfl) ?_
              refine ct_286_236_L1 hcr  g   (show (h 238 98) + (h 238 99) + (h 238 100) + (h 238 101) + (h 238 102) + (h 238 106) = (h 238 73) by omega) (show (h 238 73) ≤ (h 238 2) by omega) (show (h 238 119) ≤ (h 238 67) by omega) (show (h 238 69) ≤ (h 238 5) by omega) (show (h 238 2) ≤ 12 * (h 238 5) by omega) (show 1 ≤ (h 238 102) by omega) (show (h 238 99) ≤ 5 by omega) (fun h36 z37 g36 u36 (fz37 : 0 ≤ z37 ∧ z37 ≤ 11) (p36_0 : (h36 238 98) + (h36 238 99) + (h36 238 100) + (h36 238 101) + (h36 238 102) + (h36 238 106) = (h36 238 73)) (p36_1 : (h36 238 73) ≤ (h36 238 2)) (p36_2 : (h36 238 119) ≤ (h36 238 67)) (p36_3 : (h36 238 69) ≤ (h36 238 5)) (p36_4 : (h36 238 2) ≤ 12 * (h36 238 5)) => ?_)
              have F38 := F0.then (by decide +kernel) u36
              have e39 : h36 238 98 = h 238 98 := (u36 238 98 rfl)
              have b40 := gi_b (lo := 0) (hi := 6) g36 238 99 rfl
              have e41 : h36 238 100 = h 238 100 := (u36 238 100 rfl)
              have e42 : h36 238 101 = h 238 101 := (u36 238 101 rfl)
              have b43 := gi_b (lo := 0) (hi := 3) g36 238 102 rfl
              have e44 : h36 238 106 = h 238 106 := (u36 238 106 rfl)
              have e45 : h36 238 73 = h 238 73 := (u36 238 73 rfl)
              have e46 : h36 238 2 = h 238 2 := (u36 238 2 rfl)
              have e47 : h36 238 119 = h 238 119 := (u36 238 119 rfl)
              have e48 : h36 238 67 = h 238 67 := (u36 238 67 rfl)
              have e49 : h36 238 69 = h 238 69 := (u36 238 69 rfl)
              have e50 : h36 238 5 = h 238 5 := (u36 238 5 rfl)
              refine wk_i ?_
              refine wr_pf0 (k0 := 236) (x := z37) (bl := -2147483648) (bh := 2147483647) (nx := 98) (r1 := 11) (r2 := 28) (r3 := 0) rfl (by decide) rfl ⟨rfl, rfl⟩ rfl rfl g36 rfl (by omega) (fun h51 g51 w51 u51 => ?_)
              have F52 := F38.then rfl u51
              refine wi_aload_n (i := 0) (x := 236) (nx := 99) (r1 := 0) (r2 := 0) (r3 := 0) rfl rfl ?_
              refine wi_aload_n (i := 0) (x := 236) (nx := 100) (r1 := 0) (r2 := 0) (r3 := 0) rfl rfl ?_
              have b53 := gi_b (lo := 0) (hi := 1) g 236 45 rfl
              refine wr_gi2 (k0 := 236) (x := h 236 45) (nx := 103) (r1 := 11) (r2 := 45) (r3 := 0) rfl rfl (by decide) rfl ⟨rfl, rfl⟩ rfl ((u51 236 45 rfl).trans (u36 236 45 rfl)) ?_
              refine wi_if (cd := .ne) (nx := 106) (r1 := 110) (r2 := 0) (r3 := 0) rfl (by omega) (fun (q54 : (h 236 45) ≠ 0) => ?_) (fun (q54 : ¬ ((h 236 45) ≠ 0)) => ?_)
              ·
                refine wi_iconst (n := 1) (nx := 111) (r1 := 0) (r2 := 0) (r3 := 0) rfl ?_
                refine wi_goto (nx := 114) (r1 := 115) (r2 := 0) (r3 := 0) rfl ?_
                refine wr_pf2 (k0 := 236) (x := 1) (bl := 0) (bh := 1) (nx := 118) (r1 := 11) (r2 := 45) (r3 := 2) rfl (by decide) rfl ⟨rfl, rfl⟩ rfl (by omega) rfl g51 rfl (by omega) (fun h55 g55 w55 u55 => ?_)
                have F56 := F52.then rfl u55
                refine wi_iload_n (i := 3) (e := 1) (nx := 119) (r1 := 0) (r2 := 0) (r3 := 0) rfl rfl ?_
                refine wi_zreturn (nx := 120) (r1 := 0) (r2 := 0) (r3 := 0) rfl rfl (by omega) ?_
                have e57 : h55 238 98 = h 238 98 := ((u55 238 98 rfl).trans ((u51 238 98 rfl).trans (u36 238 98 rfl)))
                have e58 : h55 238 99 = h36 238 99 := ((u55 238 99 rfl).trans (u51 238 99 rfl))
                have e59 : h55 238 100 = h 238 100 := ((u55 238 100 rfl).trans ((u51 238 100 rfl).trans (u36 238 100 rfl)))
                have e60 : h55 238 101 = h 238 101 := ((u55 238 101 rfl).trans ((u51 238 101 rfl).trans (u36 238 101 rfl)))
                have e61 : h55 238 102 = h36 238 102 := ((u55 238 102 rfl).trans (u51 238 102 rfl))
                have e62 : h55 238 106 = h 238 106 := ((u55 238 106 rfl).trans ((u51 238 106 rfl).trans (u36 238 106 rfl)))
                have e63 : h55 238 73 = h 238 73 := ((u55 238 73 rfl).trans ((u51 238 73 rfl).trans (u36 238 73 rfl)))
                have e64 : h55 238 2 = h 238 2 := ((u55 238 2 rfl).trans ((u51 238 2 rfl).trans (u36 238 2 rfl)))
                have e65 : h55 238 119 = h 238 119 := ((u55 238 119 rfl).trans ((u51 238 119 rfl).trans (u36 238 119 rfl)))
                have e66 : h55 238 67 = h 238 67 := ((u55 238 67 rfl).trans ((u51 238 67 rfl).trans (u36 238 67 rfl)))
                have e67 : h55 238 69 = h 238 69 := ((u55 238 69 rfl).trans ((u51 238 69 rfl).trans (u36 238 69 rfl)))
                have e68 : h55 238 5 = h 238 5 := ((u55 238 5 rfl).trans ((u51 238 5 rfl).trans (u36 238 5 rfl)))
                exact k h55 1 g55 F56 (by omega) (fun _ => by omega) (show (h55 238 98) + (h55 238 99) + (h55 238 100) + (h55 238 101) + (h55 238 102) + (h55 238 106) = (h55 238 73) by omega) (show (h55 238 73) ≤ (h55 238 2) by omega) (show (h55 238 119) ≤ (h55 238 67) by omega) (show (h55 238 69) ≤ (h55 238 5) by omega) (show (h55 238 2) ≤ 12 * (h55 238 5) by omega)
              ·
                refine wi_iload_n (i := 3) (e := 1) (nx := 107) (r1 := 0) (r2 := 0) (r3 := 0) rfl rfl ?_
                refine wi_if (cd := .eq) (nx := 110) (r1 := 114) (r2 := 0) (r3 := 0) rfl (by omega) (fun (q55 : 1 = 0) => by exfalso; omega) (fun (q55 : ¬ (1 = 0)) => ?_)
                refine wi_iconst (n := 1) (nx := 111) (r1 := 0) (r2 := 0) (r3 := 0) rfl ?_
                refine wi_goto (nx := 114) (r1 := 115) (r2 := 0) (r3 := 0) rfl ?_
                refine wr_pf2 (k0 := 236) (x := 1) (bl := 0) (bh := 1) (nx := 118) (r1 := 11) (r2 := 45) (r3 := 2) rfl (by decide) rfl ⟨rfl, rfl⟩ rfl (by omega) rfl g51 rfl (by omega) (fun h56 g56 w56 u56 => ?_)
                have F57 := F52.then rfl u56
                refine wi_iload_n (i := 3) (e := 1) (nx := 119) (r1 := 0) (r2 := 0) (r3 := 0) rfl rfl ?_
                refine wi_zreturn (nx := 120) (r1 := 0) (r2 := 0) (r3 := 0) rfl rfl (by omega) ?_
                have e58 : h56 238 98 = h 238 98 := ((u56 238 98 rfl).trans ((u51 238 98 rfl).trans (u36 238 98 rfl)))
                have e59 : h56 238 99 = h36 238 99 := ((u56 238 99 rfl).trans (u51 238 99 rfl))
                have e60 : h56 238 100 = h 238 100 := ((u56 238 100 rfl).trans ((u51 238 100 rfl).trans (u36 238 100 rfl)))
                have e61 : h56 238 101 = h 238 101 := ((u56 238 101 rfl).trans ((u51 238 101 rfl).trans (u36 238 101 rfl)))
                have e62 : h56 238 102 = h36 238 102 := ((u56 238 102 rfl).trans (u51 238 102 rfl))
                have e63 : h56 238 106 = h 238 106 := ((u56 238 106 rfl).trans ((u51 238 106 rfl).trans (u36 238 106 rfl)))
                have e64 : h56 238 73 = h 238 73 := ((u56 238 73 rfl).trans ((u51 238 73 rfl).trans (u36 238 73 rfl)))
                have e65 : h56 238 2 = h 238 2 := ((u56 238 2 rfl).trans ((u51 238 2 rfl).trans (u36 238 2 rfl)))
                have e66 : h56 238 119 = h 238 119 := ((u56 238 119 rfl).trans ((u51 238 119 rfl).trans (u36 238 119 rfl)))
                have e67 : h56 238 67 = h 238 67 := ((u56 238 67 rfl).trans ((u51 238 67 rfl).trans (u36 238 67 rfl)))
                have e68 : h56 238 69 = h 238 69 := ((u56 238 69 rfl).trans ((u51 238 69 rfl).trans (u36 238 69 rfl)))
                have e69 : h56 238 5 = h 238 5 := ((u56 238 5 rfl).trans ((u51 238 5 rfl).trans (u36 238 5 rfl)))
                exact k h56 1 g56 F57 (by omega) (fun _ => by omega) (show (h56 238 98) + (h56 238 99) + (h56 238 100) + (h56 238 101) + (h56 238 102) + (h56 238 106) = (h56 238 73) by omega) (show (h56 238 73) ≤ (h56 238 2) by omega) (show (h56 238 119) ≤ (h56 238 67) by omega) (show (h56 238 69) ≤ (h56 238 5) by omega) (show (h56 238 2) ≤ 12 * (h56 238 5) by omega)
          ·
            rw [q29]
            refine wr_V (k0 := 236) (rest := []) (as := [.ref 236, vi 2]) (nx := 51) (r1 := 277) (r2 := 1) (r3 := 11) rfl rfl rfl (of_decide_eq_true rfl) rfl rfl (by decide) rfl rfl (of_decide_eq_true rfl) (of_decide_eq_true rfl) ?_
            refine wi_aload_n (i := 0) (x := 236) (nx := 1) (r1 := 0) (r2 := 0) (r3 := 0) rfl rfl ?_
            refine wr_gr (k0 := 236) (x := 238) (nx := 4) (r1 := 11) (r2 := 13) (r3 := 0) rfl rfl (by decide) rfl ⟨rfl, rfl⟩ rfl ?_
            refine wi_bipush (n := 98) (nx := 6) (r1 := 0) (r2 := 0) (r3 := 0) rfl (by decide) ?_
            refine wi_iload_n (i := 1) (e := 2) (nx := 7) (r1 := 0) (r2 := 0) (r3 := 0) rfl rfl ?_
            refine wr_addL (100) (nx := 8) (r1 := 0) (r2 := 0) (r3 := 0) rfl (by decide) ?_
            refine wr_ia (k0 := 238) (a := 100) (f := 100) (x := h 238 100) (nx := 9) (r1 := 0) (r2 := 0) (r3 := 0) rfl (by decide) rfl (by omega) (by omega) (by decide) rfl ?_
            refine wi_aload_n (i := 0) (x := 236) (nx := 10) (r1 := 0) (r2 := 0) (r3 := 0) rfl rfl ?_
            refine wr_gr (k0 := 236) (x := 238) (nx := 13) (r1 := 11) (r2 := 13) (r3 := 0) rfl rfl (by decide) rfl ⟨rfl, rfl⟩ rfl ?_
            refine wi_bipush (n := 15) (nx := 15) (r1 := 0) (r2 := 0) (r3 := 0) rfl (by decide) ?_
            refine wi_iload_n (i := 1) (e := 2) (nx := 16) (r1 := 0) (r2 := 0) (r3 := 0) rfl rfl ?_
            refine wr_addL (17) (nx := 17) (r1 := 0) (r2 := 0) (r3 := 0) rfl (by decide) ?_
            have b30 := gi_b (lo := 0) (hi := 6) g 238 17 rfl
            refine wr_ia (k0 := 238) (a := 17) (f := 17) (x := h 238 17) (nx := 18) (r1 := 0) (r2 := 0) (r3 := 0) rfl (by decide) rfl (by omega) (by omega) (by decide) rfl ?_
            refine wi_icmp (cd := .ge) (nx := 21) (r1 := 25) (r2 := 0) (r3 := 0) rfl (by omega) (by omega) (fun (q31 : (h 238 17) ≤ (h 238 100)) => ?_) (fun (q31 : ¬ ((h 238 17) ≤ (h 238 100))) => ?_)
            ·
              refine wi_iconst (n := 0) (nx := 26) (r1 := 0) (r2 := 0) (r3 := 0) rfl ?_
              refine wi_zreturn (nx := 27) (r1 := 0) (r2 := 0) (r3 := 0) rfl rfl (by omega) ?_
              refine wk_i ?_
              refine wi_if (cd := .eq) (nx := 54) (r1 := 58) (r2 := 0) (r3 := 0) rfl (by omega) (fun (q32 : 0 = 0) => ?_) (fun (q32 : ¬ (0 = 0)) => by exfalso; omega)
              refine wi_iconst (n := 0) (nx := 59) (r1 := 0) (r2 := 0) (r3 := 0) rfl ?_
              refine wi_istore_n (i := 3) (e := 0) (lo2 := [(3, vi 0), (0, .ref 236), (1, vi 2), (2, vi 2)]) (nx := 60) (r1 := 0) (r2 := 0) (r3 := 0) rfl rfl ?_
              refine wi_iload_n (i := 3) (e := 0) (nx := 61) (r1 := 0) (r2 := 0) (r3 := 0) rfl rfl ?_
              refine wi_if (cd := .eq) (nx := 64) (r1 := 98) (r2 := 0) (r3 := 0) rfl (by omega) (fun (q33 : 0 = 0) => ?_) (fun (q33 : ¬ (0 = 0)) => by exfalso; omega)
              refine wi_aload_n (i := 0) (x := 236) (nx := 99) (r1 := 0) (r2 := 0) (r3 := 0) rfl rfl ?_
              refine wi_aload_n (i := 0) (x := 236) (nx := 100) (r1 := 0) (r2 := 0) (r3 := 0) rfl rfl ?_
              have b34 := gi_b (lo := 0) (hi := 1) g 236 45 rfl
              refine wr_gi2 (k0 := 236) (x := h 236 45) (nx := 103) (r1 := 11) (r2 := 45) (r3 := 0) rfl rfl (by decide) rfl ⟨rfl, rfl⟩ rfl rfl ?_
              refine wi_if (cd := .ne) (nx := 106) (r1 := 110) (r2 := 0) (r3 := 0) rfl (by omega) (fun (q35 : (h 236 45) ≠ 0) => ?_) (fun (q35 : ¬ ((h 236 45) ≠ 0)) => ?_)
              ·
                refine wi_iconst (n := 1) (nx := 111) (r1 := 0) (r2 := 0) (r3 := 0) rfl ?_
                refine wi_goto (nx := 114) (r1 := 115) (r2 := 0) (r3 := 0) rfl ?_
                refine wr_pf2 (k0 := 236) (x := 1) (bl := 0) (bh := 1) (nx := 118) (r1 := 11) (r2 := 45) (r3 := 2) rfl (by decide) rfl ⟨rfl, rfl⟩ rfl (by omega) rfl g rfl (by omega) (fun h36 g36 w36 u36 => ?_)
                have F37 := F0.then rfl u36
                refine wi_iload_n (i := 3) (e := 0) (nx := 119) (r1 := 0) (r2 := 0) (r3 := 0) rfl rfl ?_
                refine wi_zreturn (nx := 120) (r1 := 0) (r2 := 0) (r3 := 0) rfl rfl (by omega) ?_
                have e38 : h36 238 98 = h 238 98 := (u36 238 98 rfl)
                have e39 : h36 238 99 = h 238 99 := (u36 238 99 rfl)
                have e40 : h36 238 100 = h 238 100 := (u36 238 100 rfl)
                have e41 : h36 238 101 = h 238 101 := (u36 238 101 rfl)
                have e42 : h36 238 102 = h 238 102 := (u36 238 102 rfl)
                have e43 : h36 238 106 = h 238 106 := (u36 238 106 rfl)
                have e44 : h36 238 73 = h 238 73 := (u36 238 73 rfl)
                have e45 : h36 238 2 = h 238 2 := (u36 238 2 rfl)
                have e46 : h36 238 119 = h 238 119 := (u36 238 119 rfl)
                have e47 : h36 238 67 = h 238 67 := (u36 238 67 rfl)
                have e48 : h36 238 69 = h 238 69 := (u36 238 69 rfl)
                have e49 : h36 238 5 = h 238 5 := (u36 238 5 rfl)
                exact k h36 0 g36 F37 (by omega) (fun _ => by omega) (show (h36 238 98) + (h36 238 99) + (h36 238 100) + (h36 238 101) + (h36 238 102) + (h36 238 106) = (h36 238 73) by omega) (show (h36 238 73) ≤ (h36 238 2) by omega) (show (h36 238 119) ≤ (h36 238 67) by omega) (show (h36 238 69) ≤ (h36 238 5) by omega) (show (h36 238 2) ≤ 12 * (h36 238 5) by omega)
              ·
                refine wi_iload_n (i := 3) (e := 0) (nx := 107) (r1 := 0) (r2 := 0) (r3 := 0) rfl rfl ?_
                refine wi_if (cd := .eq) (nx := 110) (r1 := 114) (r2 := 0) (r3 := 0) rfl (by omega) (fun (q36 : 0 = 0) => ?_) (fun (q36 : ¬ (0 = 0)) => by exfalso; omega)
                refine wi_iconst (n := 0) (nx := 115) (r1 := 0) (r2 := 0) (r3 := 0) rfl ?_
                refine wr_pf2 (k0 := 236) (x := 0) (bl := 0) (bh := 1) (nx := 118) (r1 := 11) (r2 := 45) (r3 := 2) rfl (by decide) rfl ⟨rfl, rfl⟩ rfl (by omega) rfl g rfl (by omega) (fun h37 g37 w37 u37 => ?_)
                have F38 := F0.then rfl u37
                refine wi_iload_n (i := 3) (e := 0) (nx := 119) (r1 := 0) (r2 := 0) (r3 := 0) rfl rfl ?_
                refine wi_zreturn (nx := 120) (r1 := 0) (r2 := 0) (r3 := 0) rfl rfl (by omega) ?_
                have e39 : h37 238 98 = h 238 98 := (u37 238 98 rfl)
                have e40 : h37 238 99 = h 238 99 := (u37 238 99 rfl)
                have e41 : h37 238 100 = h 238 100 := (u37 238 100 rfl)
                have e42 : h37 238 101 = h 238 101 := (u37 238 101 rfl)
                have e43 : h37 238 102 = h 238 102 := (u37 238 102 rfl)
                have e44 : h37 238 106 = h 238 106 := (u37 238 106 rfl)
                have e45 : h37 238 73 = h 238 73 := (u37 238 73 rfl)
                have e46 : h37 238 2 = h 238 2 := (u37 238 2 rfl)
                have e47 : h37 238 119 = h 238 119 := (u37 238 119 rfl)
                have e48 : h37 238 67 = h 238 67 := (u37 238 67 rfl)
                have e49 : h37 238 69 = h 238 69 := (u37 238 69 rfl)
                have e50 : h37 238 5 = h 238 5 := (u37 238 5 rfl)
                exact k h37 0 g37 F38 (by omega) (fun _ => by omega) (show (h37 238 98) + (h37 238 99) + (h37 238 100) + (h37 238 101) + (h37 238 102) + (h37 238 106) = (h37 238 73) by omega) (show (h37 238 73) ≤ (h37 238 2) by omega) (show (h37 238 119) ≤ (h37 238 67) by omega) (show (h37 238 69) ≤ (h37 238 5) by omega) (show (h37 238 2) ≤ 12 * (h37 238 5) by omega)
            ·
              refine wi_iconst (n := 1) (nx := 22) (r1 := 0) (r2 := 0) (r3 := 0) rfl ?_
              refine wi_goto (nx := 25) (r1 := 26) (r2 := 0) (r3 := 0) rfl ?_
              refine wi_zreturn (nx := 27) (r1 := 0) (r2 := 0) (r3 := 0) rfl rfl (by omega) ?_
              refine wk_i ?_
              refine wi_if (cd := .eq) (nx := 54) (r1 := 58) (r2 := 0) (r3 := 0) rfl (by omega) (fun (q32 : 1 = 0) => by exfalso; omega) (fun (q32 : ¬ (1 = 0)) => ?_)
              refine wi_iconst (n := 1) (nx := 55) (r1 := 0) (r2 := 0) (r3 := 0) rfl ?_
              refine wi_goto (nx := 58) (r1 := 59) (r2 := 0) (r3 := 0) rfl ?_
              refine wi_istore_n (i := 3) (e := 1) (lo2 := [(3, vi 1), (0, .ref 236), (1, vi 2), (2, vi 2)]) (nx := 60) (r1 := 0) (r2 := 0) (r3 := 0) rfl rfl ?_
              refine wi_iload_n (i := 3) (e := 1) (nx := 61) (r1 := 0) (r2 := 0) (r3 := 0) rfl rfl ?_
              refine wi_if (cd := .eq) (nx := 64) (r1 := 98) (r2 := 0) (r3 := 0) rfl (by omega) (fun (q33 : 1 = 0) => by exfalso; omega) (fun (q33 : ¬ (1 = 0)) => ?_)
              refine wi_aload_n (i := 0) (x := 236) (nx := 65) (r1 := 0) (r2 := 0) (r3 := 0) rfl rfl ?_
              refine wi_iload_n (i := 1) (e := 2) (nx := 66) (r1 := 0) (r2 := 0) (r3 := 0) rfl rfl ?_
              refine wi_if (cd := .ne) (nx := 69) (r1 := 77) (r2 := 0) (r3 := 0) rfl (by omega) (fun (q34 : 2 ≠ 0) => ?_) (fun (q34 : ¬ (2 ≠ 0)) => by exfalso; omega)
              refine wi_iload_n (i := 1) (e := 2) (nx := 78) (r1 := 0) (r2 := 0) (r3 := 0) rfl rfl ?_
              refine wi_iconst (n := 1) (nx := 79) (r1 := 0) (r2 := 0) (r3 := 0) rfl ?_
              refine wi_icmp (cd := .ne) (nx := 82) (r1 := 90) (r2 := 0) (r3 := 0) rfl (by omega) (by omega) (fun (q35 : 2 ≠ 1) => ?_) (fun (q35 : ¬ (2 ≠ 1)) => by exfalso; omega)
              refine wi_aload_n (i := 0) (x := 236) (nx := 91) (r1 := 0) (r2 := 0) (r3 := 0) rfl rfl ?_
              refine wi_iload_n (i := 2) (e := 2) (nx := 92) (r1 := 0) (r2 := 0) (r3 := 0) rfl rfl ?_
              refine wr_V (k0 := 236) (rest := [.ref 236]) (as := [.ref 236, vi 2]) (nx := 95) (r1 := 286) (r2 := 1) (r3 := 11) rfl rfl rfl (of_decide_eq_true rfl) rfl rfl (by decide) rfl rfl (of_decide_eq_true rfl) (of_decide_eq_true rfl) ?_
              refine ct_286_236_L2 hcr  g   (show (h 238 98) + (h 238 99) + (h 238 100) + (h 238 101) + (h 238 102) + (h 238 106) = (h 238 73) by omega) (show (h 238 73) ≤ (h 238 2) by omega) (show (h 238 119) ≤ (h 238 67) by omega) (show (h 238 69) ≤ (h 238 5) by omega) (show (h 238 2) ≤ 12 * (h 238 5) by omega) (show 1 ≤ (h 238 102) by omega) (show (h 238 100) ≤ 5 by omega) (fun h36 z37 g36 u36 (fz37 : 0 ≤ z37 ∧ z37 ≤ 11) (p36_0 : (h36 238 98) + (h36 238 99) + (h36 238 100) + (h36 238 101) + (h36 238 102) + (h36 238 106) = (h36 238 73)) (p36_1 : (h36 238 73) ≤ (h36 238 2)) (p36_2 : (h36 238 119) ≤ (h36 238 67)) (p36_3 : (h36 238 69) ≤ (h36 238 5)) (p36_4 : (h36 238 2) ≤ 12 * (h36 238 5)) => ?_)
              have F38 := F0.then (by decide +kernel) u36
              have e39 : h36 238 98 = h 238 98 := (u36 238 98 rfl)
              have e40 : h36 238 99 = h 238 99 := (u36 238 99 rfl)
              have b41 := gi_b (lo := 0) (hi := 6) g36 238 100 rfl
              have e42 : h36 238 101 = h 238 101 := (u36 238 101 rfl)
              have b43 := gi_b (lo := 0) (hi := 3) g36 238 102 rfl
              have e44 : h36 238 106 = h 238 106 := (u36 238 106 rfl)
              have e45 : h36 238 73 = h 238 73 := (u36 238 73 rfl)
              have e46 : h36 238 2 = h 238 2 := (u36 238 2 rfl)
              have e47 : h36 238 119 = h 238 119 := (u36 238 119 rfl)
              have e48 : h36 238 67 = h 238 67 := (u36 238 67 rfl)
              have e49 : h36 238 69 = h 238 69 := (u36 238 69 rfl)
              have e50 : h36 238 5 = h 238 5 := (u36 238 5 rfl)
              refine wk_i ?_
              refine wr_pf0 (k0 := 236) (x := z37) (bl := -2147483648) (bh := 2147483647) (nx := 98) (r1 := 11) (r2 := 28) (r3 := 0) rfl (by decide) rfl ⟨rfl, rfl⟩ rfl rfl g36 rfl (by omega) (fun h51 g51 w51 u51 => ?_)
              have F52 := F38.then rfl u51
              refine wi_aload_n (i := 0) (x := 236) (nx := 99) (r1 := 0) (r2 := 0) (r3 := 0) rfl rfl ?_
              refine wi_aload_n (i := 0) (x := 236) (nx := 100) (r1 := 0) (r2 := 0) (r3 := 0) rfl rfl ?_
              have b53 := gi_b (lo := 0) (hi := 1) g 236 45 rfl
              refine wr_gi2 (k0 := 236) (x := h 236 45) (nx := 103) (r1 := 11) (r2 := 45) (r3 := 0) rfl rfl (by decide) rfl ⟨rfl, rfl⟩ rfl ((u51 236 45 rfl).trans (u36 236 45 rfl)) ?_
              refine wi_if (cd := .ne) (nx := 106) (r1 := 110) (r2 := 0) (r3 := 0) rfl (by omega) (fun (q54 : (h 236 45) ≠ 0) => ?_) (fun (q54 : ¬ ((h 236 45) ≠ 0)) => ?_)
              ·
                refine wi_iconst (n := 1) (nx := 111) (r1 := 0) (r2 := 0) (r3 := 0) rfl ?_
                refine wi_goto (nx := 114) (r1 := 115) (r2 := 0) (r3 := 0) rfl ?_
                refine wr_pf2 (k0 := 236) (x := 1) (bl := 0) (bh := 1) (nx := 118) (r1 := 11) (r2 := 45) (r3 := 2) rfl (by decide) rfl ⟨rfl, rfl⟩ rfl (by omega) rfl g51 rfl (by omega) (fun h55 g55 w55 u55 => ?_)
                have F56 := F52.then rfl u55
                refine wi_iload_n (i := 3) (e := 1) (nx := 119) (r1 := 0) (r2 := 0) (r3 := 0) rfl rfl ?_
                refine wi_zreturn (nx := 120) (r1 := 0) (r2 := 0) (r3 := 0) rfl rfl (by omega) ?_
                have e57 : h55 238 98 = h 238 98 := ((u55 238 98 rfl).trans ((u51 238 98 rfl).trans (u36 238 98 rfl)))
                have e58 : h55 238 99 = h 238 99 := ((u55 238 99 rfl).trans ((u51 238 99 rfl).trans (u36 238 99 rfl)))
                have e59 : h55 238 100 = h36 238 100 := ((u55 238 100 rfl).trans (u51 238 100 rfl))
                have e60 : h55 238 101 = h 238 101 := ((u55 238 101 rfl).trans ((u51 238 101 rfl).trans (u36 238 101 rfl)))
                have e61 : h55 238 102 = h36 238 102 := ((u55 238 102 rfl).trans (u51 238 102 rfl))
                have e62 : h55 238 106 = h 238 106 := ((u55 238 106 rfl).trans ((u51 238 106 rfl).trans (u36 238 106 rfl)))
                have e63 : h55 238 73 = h 238 73 := ((u55 238 73 rfl).trans ((u51 238 73 rfl).trans (u36 238 73 rfl)))
                have e64 : h55 238 2 = h 238 2 := ((u55 238 2 rfl).trans ((u51 238 2 rfl).trans (u36 238 2 rfl)))
                have e65 : h55 238 119 = h 238 119 := ((u55 238 119 rfl).trans ((u51 238 119 rfl).trans (u36 238 119 rfl)))
                have e66 : h55 238 67 = h 238 67 := ((u55 238 67 rfl).trans ((u51 238 67 rfl).trans (u36 238 67 rfl)))
                have e67 : h55 238 69 = h 238 69 := ((u55 238 69 rfl).trans ((u51 238 69 rfl).trans (u36 238 69 rfl)))
                have e68 : h55 238 5 = h 238 5 := ((u55 238 5 rfl).trans ((u51 238 5 rfl).trans (u36 238 5 rfl)))
                exact k h55 1 g55 F56 (by omega) (fun _ => by omega) (show (h55 238 98) + (h55 238 99) + (h55 238 100) + (h55 238 101) + (h55 238 102) + (h55 238 106) = (h55 238 73) by omega) (show (h55 238 73) ≤ (h55 238 2) by omega) (show (h55 238 119) ≤ (h55 238 67) by omega) (show (h55 238 69) ≤ (h55 238 5) by omega) (show (h55 238 2) ≤ 12 * (h55 238 5) by omega)
              ·
                refine wi_iload_n (i := 3) (e := 1) (nx := 107) (r1 := 0) (r2 := 0) (r3 := 0) rfl rfl ?_
                refine wi_if (cd := .eq) (nx := 110) (r1 := 114) (r2 := 0) (r3 := 0) rfl (by omega) (fun (q55 : 1 = 0) => by exfalso; omega) (fun (q55 : ¬ (1 = 0)) => ?_)
                refine wi_iconst (n := 1) (nx := 111) (r1 := 0) (r2 := 0) (r3 := 0) rfl ?_
                refine wi_goto (nx := 114) (r1 := 115) (r2 := 0) (r3 := 0) rfl ?_
                refine wr_pf2 (k0 := 236) (x := 1) (bl := 0) (bh := 1) (nx := 118) (r1 := 11) (r2 := 45) (r3 := 2) rfl (by decide) rfl ⟨rfl, rfl⟩ rfl (by omega) rfl g51 rfl (by omega) (fun h56 g56 w56 u56 => ?_)
                have F57 := F52.then rfl u56
                refine wi_iload_n (i := 3) (e := 1) (nx := 119) (r1 := 0) (r2 := 0) (r3 := 0) rfl rfl ?_
                refine wi_zreturn (nx := 120) (r1 := 0) (r2 := 0) (r3 := 0) rfl rfl (by omega) ?_
                have e58 : h56 238 98 = h 238 98 := ((u56 238 98 rfl).trans ((u51 238 98 rfl).trans (u36 238 98 rfl)))
                have e59 : h56 238 99 = h 238 99 := ((u56 238 99 rfl).trans ((u51 238 99 rfl).trans (u36 238 99 rfl)))
                have e60 : h56 238 100 = h36 238 100 := ((u56 238 100 rfl).trans (u51 238 100 rfl))
                have e61 : h56 238 101 = h 238 101 := ((u56 238 101 rfl).trans ((u51 238 101 rfl).trans (u36 238 101 rfl)))
                have e62 : h56 238 102 = h36 238 102 := ((u56 238 102 rfl).trans (u51 238 102 rfl))
                have e63 : h56 238 106 = h 238 106 := ((u56 238 106 rfl).trans ((u51 238 106 rfl).trans (u36 238 106 rfl)))
                have e64 : h56 238 73 = h 238 73 := ((u56 238 73 rfl).trans ((u51 238 73 rfl).trans (u36 238 73 rfl)))
                have e65 : h56 238 2 = h 238 2 := ((u56 238 2 rfl).trans ((u51 238 2 rfl).trans (u36 238 2 rfl)))
                have e66 : h56 238 119 = h 238 119 := ((u56 238 119 rfl).trans ((u51 238 119 rfl).trans (u36 238 119 rfl)))
                have e67 : h56 238 67 = h 238 67 := ((u56 238 67 rfl).trans ((u51 238 67 rfl).trans (u36 238 67 rfl)))
                have e68 : h56 238 69 = h 238 69 := ((u56 238 69 rfl).trans ((u51 238 69 rfl).trans (u36 238 69 rfl)))
                have e69 : h56 238 5 = h 238 5 := ((u56 238 5 rfl).trans ((u51 238 5 rfl).trans (u36 238 5 rfl)))
                exact k h56 1 g56 F57 (by omega) (fun _ => by omega) (show (h56 238 98) + (h56 238 99) + (h56 238 100) + (h56 238 101) + (h56 238 102) + (h56 238 106) = (h56 238 73) by omega) (show (h56 238 73) ≤ (h56 238 2) by omega) (show (h56 238 119) ≤ (h56 238 67) by omega) (show (h56 238 69) ≤ (h56 238 5) by omega) (show (h56 238 2) ≤ 12 * (h56 238 5) by omega)
          ·
            rw [q29]
            refine wr_V (k0 := 236) (rest := []) (as := [.ref 236, vi 3]) (nx := 51) (r1 := 277) (r2 := 1) (r3 := 11) rfl rfl rfl (of_decide_eq_true rfl) rfl rfl (by decide) rfl rfl (of_decide_eq_true rfl) (of_decide_eq_true rfl) ?_
            refine wi_aload_n (i := 0) (x := 236) (nx := 1) (r1 := 0) (r2 := 0) (r3 := 0) rfl rfl ?_
            refine wr_gr (k0 := 236) (x := 238) (nx := 4) (r1 := 11) (r2 := 13) (r3 := 0) rfl rfl (by decide) rfl ⟨rfl, rfl⟩ rfl ?_
            refine wi_bipush (n := 98) (nx := 6) (r1 := 0) (r2 := 0) (r3 := 0) rfl (by decide) ?_
            refine wi_iload_n (i := 1) (e := 3) (nx := 7) (r1 := 0) (r2 := 0) (r3 := 0) rfl rfl ?_
            refine wr_addL (101) (nx := 8) (r1 := 0) (r2 := 0) (r3 := 0) rfl (by decide) ?_
            refine wr_ia (k0 := 238) (a := 101) (f := 101) (x := h 238 101) (nx := 9) (r1 := 0) (r2 := 0) (r3 := 0) rfl (by decide) rfl (by omega) (by omega) (by decide) rfl ?_
            refine wi_aload_n (i := 0) (x := 236) (nx := 10) (r1 := 0) (r2 := 0) (r3 := 0) rfl rfl ?_
            refine wr_gr (k0 := 236) (x := 238) (nx := 13) (r1 := 11) (r2 := 13) (r3 := 0) rfl rfl (by decide) rfl ⟨rfl, rfl⟩ rfl ?_
            refine wi_bipush (n := 15) (nx := 15) (r1 := 0) (r2 := 0) (r3 := 0) rfl (by decide) ?_
            refine wi_iload_n (i := 1) (e := 3) (nx := 16) (r1 := 0) (r2 := 0) (r3 := 0) rfl rfl ?_
            refine wr_addL (18) (nx := 17) (r1 := 0) (r2 := 0) (r3 := 0) rfl (by decide) ?_
            have b30 := gi_b (lo := 0) (hi := 6) g 238 18 rfl
            refine wr_ia (k0 := 238) (a := 18) (f := 18) (x := h 238 18) (nx := 18) (r1 := 0) (r2 := 0) (r3 := 0) rfl (by decide) rfl (by omega) (by omega) (by decide) rfl ?_
            refine wi_icmp (cd := .ge) (nx := 21) (r1 := 25) (r2 := 0) (r3 := 0) rfl (by omega) (by omega) (fun (q31 : (h 238 18) ≤ (h 238 101)) => ?_) (fun (q31 : ¬ ((h 238 18) ≤ (h 238 101))) => ?_)
            ·
              refine wi_iconst (n := 0) (nx := 26) (r1 := 0) (r2 := 0) (r3 := 0) rfl ?_
              refine wi_zreturn (nx := 27) (r1 := 0) (r2 := 0) (r3 := 0) rfl rfl (by omega) ?_
              refine wk_i ?_
              refine wi_if (cd := .eq) (nx := 54) (r1 := 58) (r2 := 0) (r3 := 0) rfl (by omega) (fun (q32 : 0 = 0) => ?_) (fun (q32 : ¬ (0 = 0)) => by exfalso; omega)
              refine wi_iconst (n := 0) (nx := 59) (r1 := 0) (r2 := 0) (r3 := 0) rfl ?_
              refine wi_istore_n (i := 3) (e := 0) (lo2 := [(3, vi 0), (0, .ref 236), (1, vi 2), (2, vi 3)]) (nx := 60) (r1 := 0) (r2 := 0) (r3 := 0) rfl rfl ?_
              refine wi_iload_n (i := 3) (e := 0) (nx := 61) (r1 := 0) (r2 := 0) (r3 := 0) rfl rfl ?_
              refine wi_if (cd := .eq) (nx := 64) (r1 := 98) (r2 := 0) (r3 := 0) rfl (by omega) (fun (q33 : 0 = 0) => ?_) (fun (q33 : ¬ (0 = 0)) => by exfalso; omega)
              refine wi_aload_n (i := 0) (x := 236) (nx := 99) (r1 := 0) (r2 := 0) (r3 := 0) rfl rfl ?_
              refine wi_aload_n (i := 0) (x := 236) (nx := 100) (r1 := 0) (r2 := 0) (r3 := 0) rfl rfl ?_
              have b34 := gi_b (lo := 0) (hi := 1) g 236 45 rfl
              refine wr_gi2 (k0 := 236) (x := h 236 45) (nx := 103) (r1 := 11) (r2 := 45) (r3 := 0) rfl rfl (by decide) rfl ⟨rfl, rfl⟩ rfl rfl ?_
              refine wi_if (cd := .ne) (nx := 106) (r1 := 110) (r2 := 0) (r3 := 0) rfl (by omega) (fun (q35 : (h 236 45) ≠ 0) => ?_) (fun (q35 : ¬ ((h 236 45) ≠ 0)) => ?_)
              ·
                refine wi_iconst (n := 1) (nx := 111) (r1 := 0) (r2 := 0) (r3 := 0) rfl ?_
                refine wi_goto (nx := 114) (r1 := 115) (r2 := 0) (r3 := 0) rfl ?_
                refine wr_pf2 (k0 := 236) (x := 1) (bl := 0) (bh := 1) (nx := 118) (r1 := 11) (r2 := 45) (r3 := 2) rfl (by decide) rfl ⟨rfl, rfl⟩ rfl (by omega) rfl g rfl (by omega) (fun h36 g36 w36 u36 => ?_)
                have F37 := F0.then rfl u36
                refine wi_iload_n (i := 3) (e := 0) (nx := 119) (r1 := 0) (r2 := 0) (r3 := 0) rfl rfl ?_
                refine wi_zreturn (nx := 120) (r1 := 0) (r2 := 0) (r3 := 0) rfl rfl (by omega) ?_
                have e38 : h36 238 98 = h 238 98 := (u36 238 98 rfl)
                have e39 : h36 238 99 = h 238 99 := (u36 238 99 rfl)
                have e40 : h36 238 100 = h 238 100 := (u36 238 100 rfl)
                have e41 : h36 238 101 = h 238 101 := (u36 238 101 rfl)
                have e42 : h36 238 102 = h 238 102 := (u36 238 102 rfl)
                have e43 : h36 238 106 = h 238 106 := (u36 238 106 rfl)
                have e44 : h36 238 73 = h 238 73 := (u36 238 73 rfl)
                have e45 : h36 238 2 = h 238 2 := (u36 238 2 rfl)
                have e46 : h36 238 119 = h 238 119 := (u36 238 119 rfl)
                have e47 : h36 238 67 = h 238 67 := (u36 238 67 rfl)
                have e48 : h36 238 69 = h 238 69 := (u36 238 69 rfl)
                have e49 : h36 238 5 = h 238 5 := (u36 238 5 rfl)
                exact k h36 0 g36 F37 (by omega) (fun _ => by omega) (show (h36 238 98) + (h36 238 99) + (h36 238 100) + (h36 238 101) + (h36 238 102) + (h36 238 106) = (h36 238 73) by omega) (show (h36 238 73) ≤ (h36 238 2) by omega) (show (h36 238 119) ≤ (h36 238 67) by omega) (show (h36 238 69) ≤ (h36 238 5) by omega) (show (h36 238 2) ≤ 12 * (h36 238 5) by omega)
              ·
                refine wi_iload_n (i := 3) (e := 0) (nx := 107) (r1 := 0) (r2 := 0) (r3 := 0) rfl rfl ?_
                refine wi_if (cd := .eq) (nx := 110) (r1 := 114) (r2 := 0) (r3 := 0) rfl (by omega) (fun (q36 : 0 = 0) => ?_) (fun (q36 : ¬ (0 = 0)) => by exfalso; omega)
                refine wi_iconst (n := 0) (nx := 115) (r1 := 0) (r2 := 0) (r3 := 0) rfl ?_
                refine wr_pf2 (k0 := 236) (x := 0) (bl := 0) (bh := 1) (nx := 118) (r1 := 11) (r2 := 45) (r3 := 2) rfl (by decide) rfl ⟨rfl, rfl⟩ rfl (by omega) rfl g rfl (by omega) (fun h37 g37 w37 u37 => ?_)
                have F38 := F0.then rfl u37
                refine wi_iload_n (i := 3) (e := 0) (nx := 119) (r1 := 0) (r2 := 0) (r3 := 0) rfl rfl ?_
                refine wi_zreturn (nx := 120) (r1 := 0) (r2 := 0) (r3 := 0) rfl rfl (by omega) ?_
                have e39 : h37 238 98 = h 238 98 := (u37 238 98 rfl)
                have e40 : h37 238 99 = h 238 99 := (u37 238 99 rfl)
                have e41 : h37 238 100 = h 238 100 := (u37 238 100 rfl)
                have e42 : h37 238 101 = h 238 101 := (u37 238 101 rfl)
                have e43 : h37 238 102 = h 238 102 := (u37 238 102 rfl)
                have e44 : h37 238 106 = h 238 106 := (u37 238 106 rfl)
                have e45 : h37 238 73 = h 238 73 := (u37 238 73 rfl)
                have e46 : h37 238 2 = h 238 2 := (u37 238 2 rfl)
                have e47 : h37 238 119 = h 238 119 := (u37 238 119 rfl)
                have e48 : h37 238 67 = h 238 67 := (u37 238 67 rfl)
                have e49 : h37 238 69 = h 238 69 := (u37 238 69 rfl)
                have e50 : h37 238 5 = h 238 5 := (u37 238 5 rfl)
                exact k h37 0 g37 F38 (by omega) (fun _ => by omega) (show (h37 238 98) + (h37 238 99) + (h37 238 100) + (h37 238 101) + (h37 238 102) + (h37 238 106) = (h37 238 73) by omega) (show (h37 238 73) ≤ (h37 238 2) by omega) (show (h37 238 119) ≤ (h37 238 67) by omega) (show (h37 238 69) ≤ (h37 238 5) by omega) (show (h37 238 2) ≤ 12 * (h37 238 5) by omega)
            ·
              refine wi_iconst (n := 1) (nx := 22) (r1 := 0) (r2 := 0) (r3 := 0) rfl ?_
              refine wi_goto (nx := 25) (r1 := 26) (r2 := 0) (r3 := 0) rfl ?_
              refine wi_zreturn (nx := 27) (r1 := 0) (r2 := 0) (r3 := 0) rfl rfl (by omega) ?_
              refine wk_i ?_
              refine wi_if (cd := .eq) (nx := 54) (r1 := 58) (r2 := 0) (r3 := 0) rfl (by omega) (fun (q32 : 1 = 0) => by exfalso; omega) (fun (q32 : ¬ (1 = 0)) => ?_)
              refine wi_iconst (n := 1) (nx := 55) (r1 := 0) (r2 := 0) (r3 := 0) rfl ?_
              refine wi_goto (nx := 58) (r1 := 59) (r2 := 0) (r3 := 0) rfl ?_
              refine wi_istore_n (i := 3) (e := 1) (lo2 := [(3, vi 1), (0, .ref 236), (1, vi 2), (2, vi 3)]) (nx := 60) (r1 := 0) (r2 := 0) (r3 := 0) rfl rfl ?_
              refine wi_iload_n (i := 3) (e := 1) (nx := 61) (r1 := 0) (r2 := 0) (r3 := 0) rfl rfl ?_
              refine wi_if (cd := .eq) (nx := 64) (r1 := 98) (r2 := 0) (r3 := 0) rfl (by omega) (fun (q33 : 1 = 0) => by exfalso; omega) (fun (q33 : ¬ (1 = 0)) => ?_)
              refine wi_aload_n (i := 0) (x := 236) (nx := 65) (r1 := 0) (r2 := 0) (r3 := 0) rfl rfl ?_
              refine wi_iload_n (i := 1) (e := 2) (nx := 66) (r1 := 0) (r2 := 0) (r3 := 0) rfl rfl ?_
              refine wi_if (cd := .ne) (nx := 69) (r1 := 77) (r2 := 0) (r3 := 0) rfl (by omega) (fun (q34 : 2 ≠ 0) => ?_) (fun (q34 : ¬ (2 ≠ 0)) => by exfalso; omega)
              refine wi_iload_n (i := 1) (e := 2) (nx := 78) (r1 := 0) (r2 := 0) (r3 := 0) rfl rfl ?_
              refine wi_iconst (n := 1) (nx := 79) (r1 := 0) (r2 := 0) (r3 := 0) rfl ?_
              refine wi_icmp (cd := .ne) (nx := 82) (r1 := 90) (r2 := 0) (r3 := 0) rfl (by omega) (by omega) (fun (q35 : 2 ≠ 1) => ?_) (fun (q35 : ¬ (2 ≠ 1)) => by exfalso; omega)
              refine wi_aload_n (i := 0) (x := 236) (nx := 91) (r1 := 0) (r2 := 0) (r3 := 0) rfl rfl ?_
              refine wi_iload_n (i := 2) (e := 3) (nx := 92) (r1 := 0) (r2 := 0) (r3 := 0) rfl rfl ?_
              refine wr_V (k0 := 236) (rest := [.ref 236]) (as := [.ref 236, vi 3]) (nx := 95) (r1 := 286) (r2 := 1) (r3 := 11) rfl rfl rfl (of_decide_eq_true rfl) rfl rfl (by decide) rfl rfl (of_decide_eq_true rfl) (of_decide_eq_true rfl) ?_
              refine ct_286_236_L3 hcr  g   (show (h 238 98) + (h 238 99) + (h 238 100) + (h 238 101) + (h 238 102) + (h 238 106) = (h 238 73) by omega) (show (h 238 73) ≤ (h 238 2) by omega) (show (h 238 119) ≤ (h 238 67) by omega) (show (h 238 69) ≤ (h 238 5) by omega) (show (h 238 2) ≤ 12 * (h 238 5) by omega) (show 1 ≤ (h 238 102) by omega) (show (h 238 101) ≤ 5 by omega) (fun h36 z37 g36 u36 (fz37 : 0 ≤ z37 ∧ z37 ≤ 11) (p36_0 : (h36 238 98) + (h36 238 99) + (h36 238 100) + (h36 238 101) + (h36 238 102) + (h36 238 106) = (h36 238 73)) (p36_1 : (h36 238 73) ≤ (h36 238 2)) (p36_2 : (h36 238 119) ≤ (h36 238 67)) (p36_3 : (h36 238 69) ≤ (h36 238 5)) (p36_4 : (h36 238 2) ≤ 12 * (h36 238 5)) => ?_)
              have F38 := F0.then (by decide +kernel) u36
              have e39 : h36 238 98 = h 238 98 := (u36 238 98 rfl)
              have e40 : h36 238 99 = h 238 99 := (u36 238 99 rfl)
              have e41 : h36 238 100 = h 238 100 := (u36 238 100 rfl)
              have b42 := gi_b (lo := 0) (hi := 6) g36 238 101 rfl
              have b43 := gi_b (lo := 0) (hi := 3) g36 238 102 rfl
              have e44 : h36 238 106 = h 238 106 := (u36 238 106 rfl)
              have e45 : h36 238 73 = h 238 73 := (u36 238 73 rfl)
              have e46 : h36 238 2 = h 238 2 := (u36 238 2 rfl)
              have e47 : h36 238 119 = h 238 119 := (u36 238 119 rfl)
              have e48 : h36 238 67 = h 238 67 := (u36 238 67 rfl)
              have e49 : h36 238 69 = h 238 69 := (u36 238 69 rfl)
              have e50 : h36 238 5 = h 238 5 := (u36 238 5 rfl)
              refine wk_i ?_
              refine wr_pf0 (k0 := 236) (x := z37) (bl := -2147483648) (bh := 2147483647) (nx := 98) (r1 := 11) (r2 := 28) (r3 := 0) rfl (by decide) rfl ⟨rfl, rfl⟩ rfl rfl g36 rfl (by omega) (fun h51 g51 w51 u51 => ?_)
              have F52 := F38.then rfl u51
              refine wi_aload_n (i := 0) (x := 236) (nx := 99) (r1 := 0) (r2 := 0) (r3 := 0) rfl rfl ?_
              refine wi_aload_n (i := 0) (x := 236) (nx := 100) (r1 := 0) (r2 := 0) (r3 := 0) rfl rfl ?_
              have b53 := gi_b (lo := 0) (hi := 1) g 236 45 rfl
              refine wr_gi2 (k0 := 236) (x := h 236 45) (nx := 103) (r1 := 11) (r2 := 45) (r3 := 0) rfl rfl (by decide) rfl ⟨rfl, rfl⟩ rfl ((u51 236 45 rfl).trans (u36 236 45 rfl)) ?_
              refine wi_if (cd := .ne) (nx := 106) (r1 := 110) (r2 := 0) (r3 := 0) rfl (by omega) (fun (q54 : (h 236 45) ≠ 0) => ?_) (fun (q54 : ¬ ((h 236 45) ≠ 0)) => ?_)
              ·
                refine wi_iconst (n := 1) (nx := 111) (r1 := 0) (r2 := 0) (r3 := 0) rfl ?_
                refine wi_goto (nx := 114) (r1 := 115) (r2 := 0) (r3 := 0) rfl ?_
                refine wr_pf2 (k0 := 236) (x := 1) (bl := 0) (bh := 1) (nx := 118) (r1 := 11) (r2 := 45) (r3 := 2) rfl (by decide) rfl ⟨rfl, rfl⟩ rfl (by omega) rfl g51 rfl (by omega) (fun h55 g55 w55 u55 => ?_)
                have F56 := F52.then rfl u55
                refine wi_iload_n (i := 3) (e := 1) (nx := 119) (r1 := 0) (r2 := 0) (r3 := 0) rfl rfl ?_
                refine wi_zreturn (nx := 120) (r1 := 0) (r2 := 0) (r3 := 0) rfl rfl (by omega) ?_
                have e57 : h55 238 98 = h 238 98 := ((u55 238 98 rfl).trans ((u51 238 98 rfl).trans (u36 238 98 rfl)))
                have e58 : h55 238 99 = h 238 99 := ((u55 238 99 rfl).trans ((u51 238 99 rfl).trans (u36 238 99 rfl)))
                have e59 : h55 238 100 = h 238 100 := ((u55 238 100 rfl).trans ((u51 238 100 rfl).trans (u36 238 100 rfl)))
                have e60 : h55 238 101 = h36 238 101 := ((u55 238 101 rfl).trans (u51 238 101 rfl))
                have e61 : h55 238 102 = h36 238 102 := ((u55 238 102 rfl).trans (u51 238 102 rfl))
                have e62 : h55 238 106 = h 238 106 := ((u55 238 106 rfl).trans ((u51 238 106 rfl).trans (u36 238 106 rfl)))
                have e63 : h55 238 73 = h 238 73 := ((u55 238 73 rfl).trans ((u51 238 73 rfl).trans (u36 238 73 rfl)))
                have e64 : h55 238 2 = h 238 2 := ((u55 238 2 rfl).trans ((u51 238 2 rfl).trans (u36 238 2 rfl)))
                have e65 : h55 238 119 = h 238 119 := ((u55 238 119 rfl).trans ((u51 238 119 rfl).trans (u36 238 119 rfl)))
                have e66 : h55 238 67 = h 238 67 := ((u55 238 67 rfl).trans ((u51 238 67 rfl).trans (u36 238 67 rfl)))
                have e67 : h55 238 69 = h 238 69 := ((u55 238 69 rfl).trans ((u51 238 69 rfl).trans (u36 238 69 rfl)))
                have e68 : h55 238 5 = h 238 5 := ((u55 238 5 rfl).trans ((u51 238 5 rfl).trans (u36 238 5 rfl)))
                exact k h55 1 g55 F56 (by omega) (fun _ => by omega) (show (h55 238 98) + (h55 238 99) + (h55 238 100) + (h55 238 101) + (h55 238 102) + (h55 238 106) = (h55 238 73) by omega) (show (h55 238 73) ≤ (h55 238 2) by omega) (show (h55 238 119) ≤ (h55 238 67) by omega) (show (h55 238 69) ≤ (h55 238 5) by omega) (show (h55 238 2) ≤ 12 * (h55 238 5) by omega)
              ·
                refine wi_iload_n (i := 3) (e := 1) (nx := 107) (r1 := 0) (r2 := 0) (r3 := 0) rfl rfl ?_
                refine wi_if (cd := .eq) (nx := 110) (r1 := 114) (r2 := 0) (r3 := 0) rfl (by omega) (fun (q55 : 1 = 0) => by exfalso; omega) (fun (q55 : ¬ (1 = 0)) => ?_)
                refine wi_iconst (n := 1) (nx := 111) (r1 := 0) (r2 := 0) (r3 := 0) rfl ?_
                refine wi_goto (nx := 114) (r1 := 115) (r2 := 0) (r3 := 0) rfl ?_
                refine wr_pf2 (k0 := 236) (x := 1) (bl := 0) (bh := 1) (nx := 118) (r1 := 11) (r2 := 45) (r3 := 2) rfl (by decide) rfl ⟨rfl, rfl⟩ rfl (by omega) rfl g51 rfl (by omega) (fun h56 g56 w56 u56 => ?_)
                have F57 := F52.then rfl u56
                refine wi_iload_n (i := 3) (e := 1) (nx := 119) (r1 := 0) (r2 := 0) (r3 := 0) rfl rfl ?_
                refine wi_zreturn (nx := 120) (r1 := 0) (r2 := 0) (r3 := 0) rfl rfl (by omega) ?_
                have e58 : h56 238 98 = h 238 98 := ((u56 238 98 rfl).trans ((u51 238 98 rfl).trans (u36 238 98 rfl)))
                have e59 : h56 238 99 = h 238 99 := ((u56 238 99 rfl).trans ((u51 238 99 rfl).trans (u36 238 99 rfl)))
                have e60 : h56 238 100 = h 238 100 := ((u56 238 100 rfl).trans ((u51 238 100 rfl).trans (u36 238 100 rfl)))
                have e61 : h56 238 101 = h36 238 101 := ((u56 238 101 rfl).trans (u51 238 101 rfl))
                have e62 : h56 238 102 = h36 238 102 := ((u56 238 102 rfl).trans (u51 238 102 rfl))
                have e63 : h56 238 106 = h 238 106 := ((u56 238 106 rfl).trans ((u51 238 106 rfl).trans (u36 238 106 rfl)))
                have e64 : h56 238 73 = h 238 73 := ((u56 238 73 rfl).trans ((u51 238 73 rfl).trans (u36 238 73 rfl)))
                have e65 : h56 238 2 = h 238 2 := ((u56 238 2 rfl).trans ((u51 238 2 rfl).trans (u36 238 2 rfl)))
                have e66 : h56 238 119 = h 238 119 := ((u56 238 119 rfl).trans ((u51 238 119 rfl).trans (u36 238 119 rfl)))
                have e67 : h56 238 67 = h 238 67 := ((u56 238 67 rfl).trans ((u51 238 67 rfl).trans (u36 238 67 rfl)))
                have e68 : h56 238 69 = h 238 69 := ((u56 238 69 rfl).trans ((u51 238 69 rfl).trans (u36 238 69 rfl)))
                have e69 : h56 238 5 = h 238 5 := ((u56 238 5 rfl).trans ((u51 238 5 rfl).trans (u36 238 5 rfl)))
                exact k h56 1 g56 F57 (by omega) (fun _ => by omega) (show (h56 238 98) + (h56 238 99) + (h56 238 100) + (h56 238 101) + (h56 238 102) + (h56 238 106) = (h56 238 73) by omega) (show (h56 238 73) ≤ (h56 238 2) by omega) (show (h56 238 119) ≤ (h56 238 67) by omega) (show (h56 238 69) ≤ (h56 238 5) by omega) (show (h56 238 2) ≤ 12 * (h56 238 5) by omega)
-- method 340: Model.does(II)Z
set_option maxRecDepth 100000 in
set_option maxHeartbeats 100000000 in
theorem ct_340_236 {L : Nat} {xs : Nat → Int32} {d b c : Nat} {h : hp} {cr : Nat → Nat → Option Nat} {Q : hp_Q} (hcr : CR cr)  (g : GI h) (a0 : Int) (a1 : Int) (q0_ : 0 ≤ a0 ∧ a0 ≤ 6) (q1_ : -2147483648 ≤ a1 ∧ a1 ≤ 2147483647) (pp0 : h 238 98 + h 238 99 + h 238 100 + h 238 101 + h 238 102 + h 238 106 = h 238 73) (pp1 : h 238 73 ≤ h 238 2) (pp2 : h 238 119 ≤ h 238 67) (pp3 : h 238 69 ≤ h 238 5) (pp4 : h 238 2 ≤ 12 * h 238 5) (k : ∀ (h2 : hp) (z0 : Int) , GI h2 → FR [(246, 246, none), (248, 248, none), (249, 249, none), (250, 250, none), (251, 251, none), (252, 252, none), (236, 236, some (28, 28)), (236, 236, some (32, 32)), (236, 236, some (45, 45)), (238, 238, some (31, 53)), (238, 238, some (43, 54)), (238, 238, some (55, 66)), (238, 238, some (67, 67)), (238, 238, some (68, 68)), (238, 238, some (69, 69)), (238, 238, some (70, 70)), (238, 238, some (71, 71)), (238, 238, some (72, 72)), (238, 238, some (73, 73)), (238, 238, some (74, 79)), (238, 238, some (80, 85)), (238, 238, some (86, 91)), (238, 238, some (92, 97)), (238, 238, some (98, 98)), (238, 238, some (99, 99)), (238, 238, some (100, 100)), (238, 238, some (101, 101)), (238, 238, some (102, 102)), (238, 238, some (103, 105)), (238, 238, some (106, 106)), (238, 238, some (107, 118)), (238, 238, some (119, 119)), (238, 238, some (120, 196)), (238, 238, some (121, 197)), (238, 238, some (122, 198)), (238, 238, some (123, 199)), (247, 247, some (0, 0)), (247, 247, some (1, 1)), (247, 247, some (2, 2)), (247, 247, some (3, 3))] h h2 → (0 ≤ z0 ∧ z0 ≤ 1) → (z0 = 0 → 0 ≤ a0 ∧ a0 ≤ 5) → (h2 238 98 + h2 238 99 + h2 238 100 + h2 238 101 + h2 238 102 + h2 238 106 = h2 238 73) → (h2 238 73 ≤ h2 238 2) → (h2 238 119 ≤ h2 238 67) → (h2 238 69 ≤ h2 238 5) → (h2 238 2 ≤ 12 * h2 238 5) → Q (.inl (some (vi z0))) (hp_w h2 cr) b c) : wp (md_xa (L, xs)) (d + 6) 340 (0, [(0, .ref 236), (1, vi a0), (2, vi a1)], [], hp_w h cr, b, c) Q := by
  have F0 : FR [(246, 246, none), (248, 248, none), (249, 249, none), (250, 250, none), (251, 251, none), (252, 252, none), (236, 236, some (28, 28)), (236, 236, some (32, 32)), (236, 236, some (45, 45)), (238, 238, some (31, 53)), (238, 238, some (43, 54)), (238, 238, some (55, 66)), (238, 238, some (67, 67)), (238, 238, some (68, 68)), (238, 238, some (69, 69)), (238, 238, some (70, 70)), (238, 238, some (71, 71)), (238, 238, some (72, 72)), (238, 238, some (73, 73)), (238, 238, some (74, 79)), (238, 238, some (80, 85)), (238, 238, some (86, 91)), (238, 238, some (92, 97)), (238, 238, some (98, 98)), (238, 238, some (99, 99)), (238, 238, some (100, 100)), (238, 238, some (101, 101)), (238, 238, some (102, 102)), (238, 238, some (103, 105)), (238, 238, some (106, 106)), (238, 238, some (107, 118)), (238, 238, some (119, 119)), (238, 238, some (120, 196)), (238, 238, some (121, 197)), (238, 238, some (122, 198)), (238, 238, some (123, 199)), (247, 247, some (0, 0)), (247, 247, some (1, 1)), (247, 247, some (2, 2)), (247, 247, some (3, 3))] h h := FR.refl
  have b1 := gi_b (lo := 0) (hi := 6) g 238 98 rfl
  have b2 := gi_b (lo := 0) (hi := 6) g 238 99 rfl
  have b3 := gi_b (lo := 0) (hi := 6) g 238 100 rfl
  have b4 := gi_b (lo := 0) (hi := 6) g 238 101 rfl
  have b5 := gi_b (lo := 0) (hi := 3) g 238 102 rfl
  have b6 := gi_b (lo := 0) (hi := 12) g 238 106 rfl
  have b7 := gi_b (lo := 0) (hi := 12) g 238 73 rfl
  have b8 := gi_b (lo := 0) (hi := 12) g 238 2 rfl
  have b9 := gi_b (lo := 0) (hi := 9999) g 238 119 rfl
  have b10 := gi_b (lo := 0) (hi := 9999) g 238 67 rfl
  have b11 := gi_b (lo := 0) (hi := 9) g 238 69 rfl
  have b12 := gi_b (lo := 0) (hi := 9) g 238 5 rfl
  refine wi_iload_n (i := 1) (e := a0) (nx := 1) (r1 := 0) (r2 := 0) (r3 := 0) rfl rfl ?_
  rcases (show a0 = 3 ∨ a0 = 4 ∨ a0 = 5 ∨ a0 = 6 ∨ (a0 ≠ 3 ∧ a0 ≠ 4 ∧ a0 ≠ 5 ∧ a0 ≠ 6) by omega) with q13 | q13 | q13 | q13 | q13
  ·
    refine wr_tsw 32 (nx := 31) (r1 := 0) (r2 := 0) (r3 := 0) rfl (by rw [q13]; rfl) ?_
    refine wi_aload_n (i := 0) (x := 236) (nx := 33) (r1 := 0) (r2 := 0) (r3 := 0) rfl rfl ?_
    refine wi_iload_n (i := 2) (e := a1) (nx := 34) (r1 := 0) (r2 := 0) (r3 := 0) rfl rfl ?_
    refine wr_V (k0 := 236) (rest := []) (as := [.ref 236, vi a1]) (nx := 37) (r1 := 341) (r2 := 1) (r3 := 11) rfl rfl rfl (of_decide_eq_true rfl) rfl rfl (by decide) rfl rfl (of_decide_eq_true rfl) (of_decide_eq_true rfl) ?_
    refine ct_341_236 hcr  g a1 (by omega) (show (h 238 98) + (h 238 99) + (h 238 100) + (h 238 101) + (h 238 102) + (h 238 106) = (h 238 73) by omega) (show (h 238 73) ≤ (h 238 2) by omega) (show (h 238 119) ≤ (h 238 67) by omega) (show (h 238 69) ≤ (h 238 5) by omega) (show (h 238 2) ≤ 12 * (h 238 5) by omega) (fun h14 z15 g14 u14 (fz15 : 0 ≤ z15 ∧ z15 ≤ 1) m14_0 (p14_0 : (h14 238 98) + (h14 238 99) + (h14 238 100) + (h14 238 101) + (h14 238 102) + (h14 238 106) = (h14 238 73)) (p14_1 : (h14 238 73) ≤ (h14 238 2)) (p14_2 : (h14 238 119) ≤ (h14 238 67)) (p14_3 : (h14 238 69) ≤ (h14 238 5)) (p14_4 : (h14 238 2) ≤ 12 * (h14 238 5)) => ?_)
    have F16 := F0.then (by decide +kernel) u14
    have e17 : h14 238 98 = h 238 98 := (u14 238 98 rfl)
    have e18 : h14 238 99 = h 238 99 := (u14 238 99 rfl)
    have e19 : h14 238 100 = h 238 100 := (u14 238 100 rfl)
    have e20 : h14 238 101 = h 238 101 := (u14 238 101 rfl)
    have e21 : h14 238 102 = h 238 102 := (u14 238 102 rfl)
    have e22 : h14 238 106 = h 238 106 := (u14 238 106 rfl)
    have e23 : h14 238 73 = h 238 73 := (u14 238 73 rfl)
    have e24 : h14 238 2 = h 238 2 := (u14 238 2 rfl)
    have e25 : h14 238 119 = h 238 119 := (u14 238 119 rfl)
    have b26 := gi_b (lo := 0) (hi := 9999) g14 238 67 rfl
    have e27 : h14 238 69 = h 238 69 := (u14 238 69 rfl)
    have e28 : h14 238 5 = h 238 5 := (u14 238 5 rfl)
    refine wk_i ?_
    refine wi_zreturn (nx := 38) (r1 := 0) (r2 := 0) (r3 := 0) rfl rfl (by omega) ?_
    exact k h14 z15 g14 F16 (by omega) (fun _ => by omega) (show (h14 238 98) + (h14 238 99) + (h14 238 100) + (h14 238 101) + (h14 238 102) + (h14 238 106) = (h14 238 73) by omega) (show (h14 238 73) ≤ (h14 238 2) by omega) (show (h14 238 119) ≤ (h14 238 67) by omega) (show (h14 238 69) ≤ (h14 238 5) by omega) (show (h14 238 2) ≤ 12 * (h14 238 5) by omega)
  ·
    refine wr_tsw 38 (nx := 31) (r1 := 0) (r2 := 0) (r3 := 0) rfl (by rw [q13]; rfl) ?_
    refine wi_aload_n (i := 0) (x := 236) (nx := 39) (r1 := 0) (r2 := 0) (r3 := 0) rfl rfl ?_
    refine wi_iload_n (i := 2) (e := a1) (nx := 40) (r1 := 0) (r2 := 0) (r3 := 0) rfl rfl ?_
    refine wr_V (k0 := 236) (rest := []) (as := [.ref 236, vi a1]) (nx := 43) (r1 := 342) (r2 := 1) (r3 := 11) rfl rfl rfl (of_decide_eq_true rfl) rfl rfl (by decide) rfl rfl (of_decide_eq_true rfl) (of_decide_eq_true rfl) ?_
    refine ct_342_236 hcr  g a1 (by omega) (show (h 238 98) + (h 238 99) + (h 238 100) + (h 238 101) + (h 238 102) + (h 238 106) = (h 238 73) by omega) (show (h 238 73) ≤ (h 238 2) by omega) (show (h 238 119) ≤ (h 238 67) by omega) (show (h 238 69) ≤ (h 238 5) by omega) (show (h 238 2) ≤ 12 * (h 238 5) by omega) (fun h14 z15 g14 u14 (fz15 : 0 ≤ z15 ∧ z15 ≤ 1) m14_0 (p14_0 : (h14 238 98) + (h14 238 99) + (h14 238 100) + (h14 238 101) + (h14 238 102) + (h14 238 106) = (h14 238 73)) (p14_1 : (h14 238 73) ≤ (h14 238 2)) (p14_2 : (h14 238 119) ≤ (h14 238 67)) (p14_3 : (h14 238 69) ≤ (h14 238 5)) (p14_4 : (h14 238 2) ≤ 12 * (h14 238 5)) => ?_)
    have F16 := F0.then (by decide +kernel) u14
    have b17 := gi_b (lo := 0) (hi := 6) g14 238 98 rfl
    have b18 := gi_b (lo := 0) (hi := 6) g14 238 99 rfl
    have b19 := gi_b (lo := 0) (hi := 6) g14 238 100 rfl
    have b20 := gi_b (lo := 0) (hi := 6) g14 238 101 rfl
    have b21 := gi_b (lo := 0) (hi := 3) g14 238 102 rfl
    have b22 := gi_b (lo := 0) (hi := 12) g14 238 106 rfl
    have b23 := gi_b (lo := 0) (hi := 12) g14 238 73 rfl
    have e24 : h14 238 2 = h 238 2 := (u14 238 2 rfl)
    have b25 := gi_b (lo := 0) (hi := 9999) g14 238 119 rfl
    have b26 := gi_b (lo := 0) (hi := 9999) g14 238 67 rfl
    have b27 := gi_b (lo := 0) (hi := 9) g14 238 69 rfl
    have e28 : h14 238 5 = h 238 5 := (u14 238 5 rfl)
    refine wk_i ?_
    refine wi_zreturn (nx := 44) (r1 := 0) (r2 := 0) (r3 := 0) rfl rfl (by omega) ?_
    exact k h14 z15 g14 F16 (by omega) (fun _ => by omega) (show (h14 238 98) + (h14 238 99) + (h14 238 100) + (h14 238 101) + (h14 238 102) + (h14 238 106) = (h14 238 73) by omega) (show (h14 238 73) ≤ (h14 238 2) by omega) (show (h14 238 119) ≤ (h14 238 67) by omega) (show (h14 238 69) ≤ (h14 238 5) by omega) (show (h14 238 2) ≤ 12 * (h14 238 5) by omega)
  ·
    refine wr_tsw 44 (nx := 31) (r1 := 0) (r2 := 0) (r3 := 0) rfl (by rw [q13]; rfl) ?_
    refine wi_aload_n (i := 0) (x := 236) (nx := 45) (r1 := 0) (r2 := 0) (r3 := 0) rfl rfl ?_
    refine wr_V (k0 := 236) (rest := []) (as := [.ref 236]) (nx := 48) (r1 := 300) (r2 := 0) (r3 := 11) rfl rfl rfl (of_decide_eq_true rfl) rfl rfl (by decide) rfl rfl (of_decide_eq_true rfl) (of_decide_eq_true rfl) ?_
    refine ct_300_236 hcr  g   (show (h 238 98) + (h 238 99) + (h 238 100) + (h 238 101) + (h 238 102) + (h 238 106) = (h 238 73) by omega) (show (h 238 73) ≤ (h 238 2) by omega) (show (h 238 119) ≤ (h 238 67) by omega) (show (h 238 69) ≤ (h 238 5) by omega) (show (h 238 2) ≤ 12 * (h 238 5) by omega) (fun z15  (fz15 : 0 ≤ z15 ∧ z15 ≤ 24) (p14_0 : z15 = (h 238 98) + (h 238 99) + (h 238 100) + (h 238 101)) => ?_)
    refine wk_i ?_
    refine wi_istore_n (i := 3) (e := z15) (lo2 := [(3, vi z15), (0, .ref 236), (1, vi a0), (2, vi a1)]) (nx := 49) (r1 := 0) (r2 := 0) (r3 := 0) rfl rfl ?_
    refine wi_aload_n (i := 0) (x := 236) (nx := 50) (r1 := 0) (r2 := 0) (r3 := 0) rfl rfl ?_
    refine wr_gr (k0 := 236) (x := 238) (nx := 53) (r1 := 11) (r2 := 13) (r3 := 0) rfl rfl (by decide) rfl ⟨rfl, rfl⟩ rfl ?_
    refine wi_bipush (n := 106) (nx := 55) (r1 := 0) (r2 := 0) (r3 := 0) rfl (by decide) ?_
    refine wr_ia (k0 := 238) (a := 106) (f := 106) (x := h 238 106) (nx := 56) (r1 := 0) (r2 := 0) (r3 := 0) rfl (by decide) rfl (by omega) (by omega) (by decide) rfl ?_
    refine wi_istore (i := 4) (e := h 238 106) (lo2 := [(4, vi (h 238 106)), (3, vi z15), (0, .ref 236), (1, vi a0), (2, vi a1)]) (nx := 58) (r1 := 0) (r2 := 0) (r3 := 0) rfl rfl ?_
    refine wi_aload_n (i := 0) (x := 236) (nx := 59) (r1 := 0) (r2 := 0) (r3 := 0) rfl rfl ?_
    refine wr_V (k0 := 236) (rest := []) (as := [.ref 236]) (nx := 62) (r1 := 314) (r2 := 0) (r3 := 11) rfl rfl rfl (of_decide_eq_true rfl) rfl rfl (by decide) rfl rfl (of_decide_eq_true rfl) (of_decide_eq_true rfl) ?_
    refine ct_314_236 hcr  g   (show (h 238 98) + (h 238 99) + (h 238 100) + (h 238 101) + (h 238 102) + (h 238 106) = (h 238 73) by omega) (show (h 238 73) ≤ (h 238 2) by omega) (show (h 238 119) ≤ (h 238 67) by omega) (show (h 238 69) ≤ (h 238 5) by omega) (show (h 238 2) ≤ 12 * (h 238 5) by omega) (fun h16 z17 g16 u16 (fz17 : 0 ≤ z17 ∧ z17 ≤ 12) (p16_0 : (h16 238 98) + (h16 238 99) + (h16 238 100) + (h16 238 101) + (h16 238 102) + (h16 238 106) = (h16 238 73)) (p16_1 : (h16 238 73) ≤ (h16 238 2)) (p16_2 : (h16 238 119) ≤ (h16 238 67)) (p16_3 : (h16 238 69) ≤ (h16 238 5)) (p16_4 : (h16 238 2) ≤ 12 * (h16 238 5)) => ?_)
    have F18 := F0.then (by decide +kernel) u16
    have b19 := gi_b (lo := 0) (hi := 6) g16 238 98 rfl
    have b20 := gi_b (lo := 0) (hi := 6) g16 238 99 rfl
    have b21 := gi_b (lo := 0) (hi := 6) g16 238 100 rfl
    have b22 := gi_b (lo := 0) (hi := 6) g16 238 101 rfl
    have b23 := gi_b (lo := 0) (hi := 3) g16 238 102 rfl
    have b24 := gi_b (lo := 0) (hi := 12) g16 238 106 rfl
    have e25 : h16 238 73 = h 238 73 := (u16 238 73 rfl)
    have e26 : h16 238 2 = h 238 2 := (u16 238 2 rfl)
    have b27 := gi_b (lo := 0) (hi := 9999) g16 238 119 rfl
    have b28 := gi_b (lo := 0) (hi := 9999) g16 238 67 rfl
    have b29 := gi_b (lo := 0) (hi := 9) g16 238 69 rfl
    have e30 : h16 238 5 = h 238 5 := (u16 238 5 rfl)
    refine wk_i ?_
    refine wi_istore (i := 5) (e := z17) (lo2 := [(5, vi z17), (4, vi (h 238 106)), (3, vi z15), (0, .ref 236), (1, vi a0), (2, vi a1)]) (nx := 64) (r1 := 0) (r2 := 0) (r3 := 0) rfl rfl ?_
    refine wi_aload_n (i := 0) (x := 236) (nx := 65) (r1 := 0) (r2 := 0) (r3 := 0) rfl rfl ?_
    refine wi_aload_n (i := 0) (x := 236) (nx := 66) (r1 := 0) (r2 := 0) (r3 := 0) rfl rfl ?_
    have b31 := gi_b (lo := 0) (hi := 1) g 236 45 rfl
    refine wr_gi2 (k0 := 236) (x := h 236 45) (nx := 69) (r1 := 11) (r2 := 45) (r3 := 0) rfl rfl (by decide) rfl ⟨rfl, rfl⟩ rfl (u16 236 45 rfl) ?_
    refine wi_if (cd := .ne) (nx := 72) (r1 := 77) (r2 := 0) (r3 := 0) rfl (by omega) (fun (q32 : (h 236 45) ≠ 0) => ?_) (fun (q32 : ¬ ((h 236 45) ≠ 0)) => ?_)
    ·
      refine wi_iconst (n := 1) (nx := 78) (r1 := 0) (r2 := 0) (r3 := 0) rfl ?_
      refine wi_goto (nx := 81) (r1 := 82) (r2 := 0) (r3 := 0) rfl ?_
      refine wr_pf2 (k0 := 236) (x := 1) (bl := 0) (bh := 1) (nx := 85) (r1 := 11) (r2 := 45) (r3 := 2) rfl (by decide) rfl ⟨rfl, rfl⟩ rfl (by omega) rfl g16 rfl (by omega) (fun h33 g33 w33 u33 => ?_)
      have F34 := F18.then rfl u33
      refine wi_iload (i := 5) (e := z17) (nx := 87) (r1 := 0) (r2 := 0) (r3 := 0) rfl rfl ?_
      refine wi_iload_n (i := 3) (e := z15) (nx := 88) (r1 := 0) (r2 := 0) (r3 := 0) rfl rfl ?_
      refine wi_icmp (cd := .ne) (nx := 91) (r1 := 110) (r2 := 0) (r3 := 0) rfl (by omega) (by omega) (fun (q35 : z17 ≠ z15) => ?_) (fun (q35 : ¬ (z17 ≠ z15)) => ?_)
      ·
        refine wi_iconst (n := 0) (nx := 111) (r1 := 0) (r2 := 0) (r3 := 0) rfl ?_
        refine wi_zreturn (nx := 112) (r1 := 0) (r2 := 0) (r3 := 0) rfl rfl (by omega) ?_
        have e36 : h33 238 98 = h16 238 98 := (u33 238 98 rfl)
        have e37 : h33 238 99 = h16 238 99 := (u33 238 99 rfl)
        have e38 : h33 238 100 = h16 238 100 := (u33 238 100 rfl)
        have e39 : h33 238 101 = h16 238 101 := (u33 238 101 rfl)
        have e40 : h33 238 102 = h16 238 102 := (u33 238 102 rfl)
        have e41 : h33 238 106 = h16 238 106 := (u33 238 106 rfl)
        have e42 : h33 238 73 = h 238 73 := ((u33 238 73 rfl).trans (u16 238 73 rfl))
        have e43 : h33 238 2 = h 238 2 := ((u33 238 2 rfl).trans (u16 238 2 rfl))
        have e44 : h33 238 119 = h16 238 119 := (u33 238 119 rfl)
        have e45 : h33 238 67 = h16 238 67 := (u33 238 67 rfl)
        have e46 : h33 238 69 = h16 238 69 := (u33 238 69 rfl)
        have e47 : h33 238 5 = h 238 5 := ((u33 238 5 rfl).trans (u16 238 5 rfl))
        exact k h33 0 g33 F34 (by omega) (fun _ => by omega) (show (h33 238 98) + (h33 238 99) + (h33 238 100) + (h33 238 101) + (h33 238 102) + (h33 238 106) = (h33 238 73) by omega) (show (h33 238 73) ≤ (h33 238 2) by omega) (show (h33 238 119) ≤ (h33 238 67) by omega) (show (h33 238 69) ≤ (h33 238 5) by omega) (show (h33 238 2) ≤ 12 * (h33 238 5) by omega)
      ·
        refine wi_aload_n (i := 0) (x := 236) (nx := 92) (r1 := 0) (r2 := 0) (r3 := 0) rfl rfl ?_
        refine wr_gr (k0 := 236) (x := 238) (nx := 95) (r1 := 11) (r2 := 13) (r3 := 0) rfl rfl (by decide) rfl ⟨rfl, rfl⟩ rfl ?_
        refine wi_bipush (n := 106) (nx := 97) (r1 := 0) (r2 := 0) (r3 := 0) rfl (by decide) ?_
        refine wr_ia (k0 := 238) (a := 106) (f := 106) (x := h16 238 106) (nx := 98) (r1 := 0) (r2 := 0) (r3 := 0) rfl (by decide) rfl (by omega) (by omega) (by decide) (u33 238 106 rfl) ?_
        refine wi_iload (i := 4) (e := h 238 106) (nx := 100) (r1 := 0) (r2 := 0) (r3 := 0) rfl rfl ?_
        refine wi_iload (i := 5) (e := z17) (nx := 102) (r1 := 0) (r2 := 0) (r3 := 0) rfl rfl ?_
        refine wr_add (nx := 103) (r1 := 0) (r2 := 0) (r3 := 0) rfl (fun e36 (fe36 : e36 = (h 238 106) + z17) => ?_)
        refine wi_icmp (cd := .ne) (nx := 106) (r1 := 110) (r2 := 0) (r3 := 0) rfl (by omega) (by omega) (fun (q37 : (h16 238 106) ≠ e36) => ?_) (fun (q37 : ¬ ((h16 238 106) ≠ e36)) => ?_)
        ·
          refine wi_iconst (n := 0) (nx := 111) (r1 := 0) (r2 := 0) (r3 := 0) rfl ?_
          refine wi_zreturn (nx := 112) (r1 := 0) (r2 := 0) (r3 := 0) rfl rfl (by omega) ?_
          have e38 : h33 238 98 = h16 238 98 := (u33 238 98 rfl)
          have e39 : h33 238 99 = h16 238 99 := (u33 238 99 rfl)
          have e40 : h33 238 100 = h16 238 100 := (u33 238 100 rfl)
          have e41 : h33 238 101 = h16 238 101 := (u33 238 101 rfl)
          have e42 : h33 238 102 = h16 238 102 := (u33 238 102 rfl)
          have e43 : h33 238 106 = h16 238 106 := (u33 238 106 rfl)
          have e44 : h33 238 73 = h 238 73 := ((u33 238 73 rfl).trans (u16 238 73 rfl))
          have e45 : h33 238 2 = h 238 2 := ((u33 238 2 rfl).trans (u16 238 2 rfl))
          have e46 : h33 238 119 = h16 238 119 := (u33 238 119 rfl)
          have e47 : h33 238 67 = h16 238 67 := (u33 238 67 rfl)
          have e48 : h33 238 69 = h16 238 69 := (u33 238 69 rfl)
          have e49 : h33 238 5 = h 238 5 := ((u33 238 5 rfl).trans (u16 238 5 rfl))
          exact k h33 0 g33 F34 (by omega) (fun _ => by omega) (show (h33 238 98) + (h33 238 99) + (h33 238 100) + (h33 238 101) + (h33 238 102) + (h33 238 106) = (h33 238 73) by omega) (show (h33 238 73) ≤ (h33 238 2) by omega) (show (h33 238 119) ≤ (h33 238 67) by omega) (show (h33 238 69) ≤ (h33 238 5) by omega) (show (h33 238 2) ≤ 12 * (h33 238 5) by omega)
        ·
          refine wi_iconst (n := 1) (nx := 107) (r1 := 0) (r2 := 0) (r3 := 0) rfl ?_
          refine wi_goto (nx := 110) (r1 := 111) (r2 := 0) (r3 := 0) rfl ?_
          refine wi_zreturn (nx := 112) (r1 := 0) (r2 := 0) (r3 := 0) rfl rfl (by omega) ?_
          have e38 : h33 238 98 = h16 238 98 := (u33 238 98 rfl)
          have e39 : h33 238 99 = h16 238 99 := (u33 238 99 rfl)
          have e40 : h33 238 100 = h16 238 100 := (u33 238 100 rfl)
          have e41 : h33 238 101 = h16 238 101 := (u33 238 101 rfl)
          have e42 : h33 238 102 = h16 238 102 := (u33 238 102 rfl)
          have e43 : h33 238 106 = h16 238 106 := (u33 238 106 rfl)
          have e44 : h33 238 73 = h 238 73 := ((u33 238 73 rfl).trans (u16 238 73 rfl))
          have e45 : h33 238 2 = h 238 2 := ((u33 238 2 rfl).trans (u16 238 2 rfl))
          have e46 : h33 238 119 = h16 238 119 := (u33 238 119 rfl)
          have e47 : h33 238 67 = h16 238 67 := (u33 238 67 rfl)
          have e48 : h33 238 69 = h16 238 69 := (u33 238 69 rfl)
          have e49 : h33 238 5 = h 238 5 := ((u33 238 5 rfl).trans (u16 238 5 rfl))
          exact k h33 1 g33 F34 (by omega) (fun _ => by omega) (show (h33 238 98) + (h33 238 99) + (h33 238 100) + (h33 238 101) + (h33 238 102) + (h33 238 106) = (h33 238 73) by omega) (show (h33 238 73) ≤ (h33 238 2) by omega) (show (h33 238 119) ≤ (h33 238 67) by omega) (show (h33 238 69) ≤ (h33 238 5) by omega) (show (h33 238 2) ≤ 12 * (h33 238 5) by omega)
    ·
      refine wi_iload (i := 5) (e := z17) (nx := 74) (r1 := 0) (r2 := 0) (r3 := 0) rfl rfl ?_
      refine wi_if (cd := .le) (nx := 77) (r1 := 81) (r2 := 0) (r3 := 0) rfl (by omega) (fun (q33 : z17 ≤ 0) => ?_) (fun (q33 : ¬ (z17 ≤ 0)) => ?_)
      ·
        refine wi_iconst (n := 0) (nx := 82) (r1 := 0) (r2 := 0) (r3 := 0) rfl ?_
        refine wr_pf2 (k0 := 236) (x := 0) (bl := 0) (bh := 1) (nx := 85) (r1 := 11) (r2 := 45) (r3 := 2) rfl (by decide) rfl ⟨rfl, rfl⟩ rfl (by omega) rfl g16 rfl (by omega) (fun h34 g34 w34 u34 => ?_)
        have F35 := F18.then rfl u34
        refine wi_iload (i := 5) (e := z17) (nx := 87) (r1 := 0) (r2 := 0) (r3 := 0) rfl rfl ?_
        refine wi_iload_n (i := 3) (e := z15) (nx := 88) (r1 := 0) (r2 := 0) (r3 := 0) rfl rfl ?_
        refine wi_icmp (cd := .ne) (nx := 91) (r1 := 110) (r2 := 0) (r3 := 0) rfl (by omega) (by omega) (fun (q36 : z17 ≠ z15) => ?_) (fun (q36 : ¬ (z17 ≠ z15)) => ?_)
        ·
          refine wi_iconst (n := 0) (nx := 111) (r1 := 0) (r2 := 0) (r3 := 0) rfl ?_
          refine wi_zreturn (nx := 112) (r1 := 0) (r2 := 0) (r3 := 0) rfl rfl (by omega) ?_
          have e37 : h34 238 98 = h16 238 98 := (u34 238 98 rfl)
          have e38 : h34 238 99 = h16 238 99 := (u34 238 99 rfl)
          have e39 : h34 238 100 = h16 238 100 := (u34 238 100 rfl)
          have e40 : h34 238 101 = h16 238 101 := (u34 238 101 rfl)
          have e41 : h34 238 102 = h16 238 102 := (u34 238 102 rfl)
          have e42 : h34 238 106 = h16 238 106 := (u34 238 106 rfl)
          have e43 : h34 238 73 = h 238 73 := ((u34 238 73 rfl).trans (u16 238 73 rfl))
          have e44 : h34 238 2 = h 238 2 := ((u34 238 2 rfl).trans (u16 238 2 rfl))
          have e45 : h34 238 119 = h16 238 119 := (u34 238 119 rfl)
          have e46 : h34 238 67 = h16 238 67 := (u34 238 67 rfl)
          have e47 : h34 238 69 = h16 238 69 := (u34 238 69 rfl)
          have e48 : h34 238 5 = h 238 5 := ((u34 238 5 rfl).trans (u16 238 5 rfl))
          exact k h34 0 g34 F35 (by omega) (fun _ => by omega) (show (h34 238 98) + (h34 238 99) + (h34 238 100) + (h34 238 101) + (h34 238 102) + (h34 238 106) = (h34 238 73) by omega) (show (h34 238 73) ≤ (h34 238 2) by omega) (show (h34 238 119) ≤ (h34 238 67) by omega) (show (h34 238 69) ≤ (h34 238 5) by omega) (show (h34 238 2) ≤ 12 * (h34 238 5) by omega)
        ·
          refine wi_aload_n (i := 0) (x := 236) (nx := 92) (r1 := 0) (r2 := 0) (r3 := 0) rfl rfl ?_
          refine wr_gr (k0 := 236) (x := 238) (nx := 95) (r1 := 11) (r2 := 13) (r3 := 0) rfl rfl (by decide) rfl ⟨rfl, rfl⟩ rfl ?_
          refine wi_bipush (n := 106) (nx := 97) (r1 := 0) (r2 := 0) (r3 := 0) rfl (by decide) ?_
          refine wr_ia (k0 := 238) (a := 106) (f := 106) (x := h16 238 106) (nx := 98) (r1 := 0) (r2 := 0) (r3 := 0) rfl (by decide) rfl (by omega) (by omega) (by decide) (u34 238 106 rfl) ?_
          refine wi_iload (i := 4) (e := h 238 106) (nx := 100) (r1 := 0) (r2 := 0) (r3 := 0) rfl rfl ?_
          refine wi_iload (i := 5) (e := z17) (nx := 102) (r1 := 0) (r2 := 0) (r3 := 0) rfl rfl ?_
          refine wr_add (nx := 103) (r1 := 0) (r2 := 0) (r3 := 0) rfl (fun e37 (fe37 : e37 = (h 238 106) + z17) => ?_)
          refine wi_icmp (cd := .ne) (nx := 106) (r1 := 110) (r2 := 0) (r3 := 0) rfl (by omega) (by omega) (fun (q38 : (h16 238 106) ≠ e37) => ?_) (fun (q38 : ¬ ((h16 238 106) ≠ e37)) => ?_)
          ·
            refine wi_iconst (n := 0) (nx := 111) (r1 := 0) (r2 := 0) (r3 := 0) rfl ?_
            refine wi_zreturn (nx := 112) (r1 := 0) (r2 := 0) (r3 := 0) rfl rfl (by omega) ?_
            have e39 : h34 238 98 = h16 238 98 := (u34 238 98 rfl)
            have e40 : h34 238 99 = h16 238 99 := (u34 238 99 rfl)
            have e41 : h34 238 100 = h16 238 100 := (u34 238 100 rfl)
            have e42 : h34 238 101 = h16 238 101 := (u34 238 101 rfl)
            have e43 : h34 238 102 = h16 238 102 := (u34 238 102 rfl)
            have e44 : h34 238 106 = h16 238 106 := (u34 238 106 rfl)
            have e45 : h34 238 73 = h 238 73 := ((u34 238 73 rfl).trans (u16 238 73 rfl))
            have e46 : h34 238 2 = h 238 2 := ((u34 238 2 rfl).trans (u16 238 2 rfl))
            have e47 : h34 238 119 = h16 238 119 := (u34 238 119 rfl)
            have e48 : h34 238 67 = h16 238 67 := (u34 238 67 rfl)
            have e49 : h34 238 69 = h16 238 69 := (u34 238 69 rfl)
            have e50 : h34 238 5 = h 238 5 := ((u34 238 5 rfl).trans (u16 238 5 rfl))
            exact k h34 0 g34 F35 (by omega) (fun _ => by omega) (show (h34 238 98) + (h34 238 99) + (h34 238 100) + (h34 238 101) + (h34 238 102) + (h34 238 106) = (h34 238 73) by omega) (show (h34 238 73) ≤ (h34 238 2) by omega) (show (h34 238 119) ≤ (h34 238 67) by omega) (show (h34 238 69) ≤ (h34 238 5) by omega) (show (h34 238 2) ≤ 12 * (h34 238 5) by omega)
          ·
            refine wi_iconst (n := 1) (nx := 107) (r1 := 0) (r2 := 0) (r3 := 0) rfl ?_
            refine wi_goto (nx := 110) (r1 := 111) (r2 := 0) (r3 := 0) rfl ?_
            refine wi_zreturn (nx := 112) (r1 := 0) (r2 := 0) (r3 := 0) rfl rfl (by omega) ?_
            have e39 : h34 238 98 = h16 238 98 := (u34 238 98 rfl)
            have e40 : h34 238 99 = h16 238 99 := (u34 238 99 rfl)
            have e41 : h34 238 100 = h16 238 100 := (u34 238 100 rfl)
            have e42 : h34 238 101 = h16 238 101 := (u34 238 101 rfl)
            have e43 : h34 238 102 = h16 238 102 := (u34 238 102 rfl)
            have e44 : h34 238 106 = h16 238 106 := (u34 238 106 rfl)
            have e45 : h34 238 73 = h 238 73 := ((u34 238 73 rfl).trans (u16 238 73 rfl))
            have e46 : h34 238 2 = h 238 2 := ((u34 238 2 rfl).trans (u16 238 2 rfl))
            have e47 : h34 238 119 = h16 238 119 := (u34 238 119 rfl)
            have e48 : h34 238 67 = h16 238 67 := (u34 238 67 rfl)
            have e49 : h34 238 69 = h16 238 69 := (u34 238 69 rfl)
            have e50 : h34 238 5 = h 238 5 := ((u34 238 5 rfl).trans (u16 238 5 rfl))
            exact k h34 1 g34 F35 (by omega) (fun _ => by omega) (show (h34 238 98) + (h34 238 99) + (h34 238 100) + (h34 238 101) + (h34 238 102) + (h34 238 106) = (h34 238 73) by omega) (show (h34 238 73) ≤ (h34 238 2) by omega) (show (h34 238 119) ≤ (h34 238 67) by omega) (show (h34 238 69) ≤ (h34 238 5) by omega) (show (h34 238 2) ≤ 12 * (h34 238 5) by omega)
      ·
        refine wi_iconst (n := 1) (nx := 78) (r1 := 0) (r2 := 0) (r3 := 0) rfl ?_
        refine wi_goto (nx := 81) (r1 := 82) (r2 := 0) (r3 := 0) rfl ?_
        refine wr_pf2 (k0 := 236) (x := 1) (bl := 0) (bh := 1) (nx := 85) (r1 := 11) (r2 := 45) (r3 := 2) rfl (by decide) rfl ⟨rfl, rfl⟩ rfl (by omega) rfl g16 rfl (by omega) (fun h34 g34 w34 u34 => ?_)
        have F35 := F18.then rfl u34
        refine wi_iload (i := 5) (e := z17) (nx := 87) (r1 := 0) (r2 := 0) (r3 := 0) rfl rfl ?_
        refine wi_iload_n (i := 3) (e := z15) (nx := 88) (r1 := 0) (r2 := 0) (r3 := 0) rfl rfl ?_
        refine wi_icmp (cd := .ne) (nx := 91) (r1 := 110) (r2 := 0) (r3 := 0) rfl (by omega) (by omega) (fun (q36 : z17 ≠ z15) => ?_) (fun (q36 : ¬ (z17 ≠ z15)) => ?_)
        ·
          refine wi_iconst (n := 0) (nx := 111) (r1 := 0) (r2 := 0) (r3 := 0) rfl ?_
          refine wi_zreturn (nx := 112) (r1 := 0) (r2 := 0) (r3 := 0) rfl rfl (by omega) ?_
          have e37 : h34 238 98 = h16 238 98 := (u34 238 98 rfl)
          have e38 : h34 238 99 = h16 238 99 := (u34 238 99 rfl)
          have e39 : h34 238 100 = h16 238 100 := (u34 238 100 rfl)
          have e40 : h34 238 101 = h16 238 101 := (u34 238 101 rfl)
          have e41 : h34 238 102 = h16 238 102 := (u34 238 102 rfl)
          have e42 : h34 238 106 = h16 238 106 := (u34 238 106 rfl)
          have e43 : h34 238 73 = h 238 73 := ((u34 238 73 rfl).trans (u16 238 73 rfl))
          have e44 : h34 238 2 = h 238 2 := ((u34 238 2 rfl).trans (u16 238 2 rfl))
          have e45 : h34 238 119 = h16 238 119 := (u34 238 119 rfl)
          have e46 : h34 238 67 = h16 238 67 := (u34 238 67 rfl)
          have e47 : h34 238 69 = h16 238 69 := (u34 238 69 rfl)
          have e48 : h34 238 5 = h 238 5 := ((u34 238 5 rfl).trans (u16 238 5 rfl))
          exact k h34 0 g34 F35 (by omega) (fun _ => by omega) (show (h34 238 98) + (h34 238 99) + (h34 238 100) + (h34 238 101) + (h34 238 102) + (h34 238 106) = (h34 238 73) by omega) (show (h34 238 73) ≤ (h34 238 2) by omega) (show (h34 238 119) ≤ (h34 238 67) by omega) (show (h34 238 69) ≤ (h34 238 5) by omega) (show (h34 238 2) ≤ 12 * (h34 238 5) by omega)
        ·
          refine wi_aload_n (i := 0) (x := 236) (nx := 92) (r1 := 0) (r2 := 0) (r3 := 0) rfl rfl ?_
          refine wr_gr (k0 := 236) (x := 238) (nx := 95) (r1 := 11) (r2 := 13) (r3 := 0) rfl rfl (by decide) rfl ⟨rfl, rfl⟩ rfl ?_
          refine wi_bipush (n := 106) (nx := 97) (r1 := 0) (r2 := 0) (r3 := 0) rfl (by decide) ?_
          refine wr_ia (k0 := 238) (a := 106) (f := 106) (x := h16 238 106) (nx := 98) (r1 := 0) (r2 := 0) (r3 := 0) rfl (by decide) rfl (by omega) (by omega) (by decide) (u34 238 106 rfl) ?_
          refine wi_iload (i := 4) (e := h 238 106) (nx := 100) (r1 := 0) (r2 := 0) (r3 := 0) rfl rfl ?_
          refine wi_iload (i := 5) (e := z17) (nx := 102) (r1 := 0) (r2 := 0) (r3 := 0) rfl rfl ?_
          refine wr_add (nx := 103) (r1 := 0) (r2 := 0) (r3 := 0) rfl (fun e37 (fe37 : e37 = (h 238 106) + z17) => ?_)
          refine wi_icmp (cd := .ne) (nx := 106) (r1 := 110) (r2 := 0) (r3 := 0) rfl (by omega) (by omega) (fun (q38 : (h16 238 106) ≠ e37) => ?_) (fun (q38 : ¬ ((h16 238 106) ≠ e37)) => ?_)
          ·
            refine wi_iconst (n := 0) (nx := 111) (r1 := 0) (r2 := 0) (r3 := 0) rfl ?_
            refine wi_zreturn (nx := 112) (r1 := 0) (r2 := 0) (r3 := 0) rfl rfl (by omega) ?_
            have e39 : h34 238 98 = h16 238 98 := (u34 238 98 rfl)
            have e40 : h34 238 99 = h16 238 99 := (u34 238 99 rfl)
            have e41 : h34 238 100 = h16 238 100 := (u34 238 100 rfl)
            have e42 : h34 238 101 = h16 238 101 := (u34 238 101 rfl)
            have e43 : h34 238 102 = h16 238 102 := (u34 238 102 rfl)
            have e44 : h34 238 106 = h16 238 106 := (u34 238 106 rfl)
            have e45 : h34 238 73 = h 238 73 := ((u34 238 73 rfl).trans (u16 238 73 rfl))
            have e46 : h34 238 2 = h 238 2 := ((u34 238 2 rfl).trans (u16 238 2 rfl))
            have e47 : h34 238 119 = h16 238 119 := (u34 238 119 rfl)
            have e48 : h34 238 67 = h16 238 67 := (u34 238 67 rfl)
            have e49 : h34 238 69 = h16 238 69 := (u34 238 69 rfl)
            have e50 : h34 238 5 = h 238 5 := ((u34 238 5 rfl).trans (u16 238 5 rfl))
            exact k h34 0 g34 F35 (by omega) (fun _ => by omega) (show (h34 238 98) + (h34 238 99) + (h34 238 100) + (h34 238 101) + (h34 238 102) + (h34 238 106) = (h34 238 73) by omega) (show (h34 238 73) ≤ (h34 238 2) by omega) (show (h34 238 119) ≤ (h34 238 67) by omega) (show (h34 238 69) ≤ (h34 238 5) by omega) (show (h34 238 2) ≤ 12 * (h34 238 5) by omega)
          ·
            refine wi_iconst (n := 1) (nx := 107) (r1 := 0) (r2 := 0) (r3 := 0) rfl ?_
            refine wi_goto (nx := 110) (r1 := 111) (r2 := 0) (r3 := 0) rfl ?_
            refine wi_zreturn (nx := 112) (r1 := 0) (r2 := 0) (r3 := 0) rfl rfl (by omega) ?_
            have e39 : h34 238 98 = h16 238 98 := (u34 238 98 rfl)
            have e40 : h34 238 99 = h16 238 99 := (u34 238 99 rfl)
            have e41 : h34 238 100 = h16 238 100 := (u34 238 100 rfl)
            have e42 : h34 238 101 = h16 238 101 := (u34 238 101 rfl)
            have e43 : h34 238 102 = h16 238 102 := (u34 238 102 rfl)
            have e44 : h34 238 106 = h16 238 106 := (u34 238 106 rfl)
            have e45 : h34 238 73 = h 238 73 := ((u34 238 73 rfl).trans (u16 238 73 rfl))
            have e46 : h34 238 2 = h 238 2 := ((u34 238 2 rfl).trans (u16 238 2 rfl))
            have e47 : h34 238 119 = h16 238 119 := (u34 238 119 rfl)
            have e48 : h34 238 67 = h16 238 67 := (u34 238 67 rfl)
            have e49 : h34 238 69 = h16 238 69 := (u34 238 69 rfl)
            have e50 : h34 238 5 = h 238 5 := ((u34 238 5 rfl).trans (u16 238 5 rfl))
            exact k h34 1 g34 F35 (by omega) (fun _ => by omega) (show (h34 238 98) + (h34 238 99) + (h34 238 100) + (h34 238 101) + (h34 238 102) + (h34 238 106) = (h34 238 73) by omega) (show (h34 238 73) ≤ (h34 238 2) by omega) (show (h34 238 119) ≤ (h34 238 67) by omega) (show (h34 238 69) ≤ (h34 238 5) by omega) (show (h34 238 2) ≤ 12 * (h34 238 5) by omega)
  ·
    refine wr_tsw 112 (nx := 31) (r1 := 0) (r2 := 0) (r3 := 0) rfl (by rw [q13]; rfl) ?_
    refine wi_aload_n (i := 0) (x := 236) (nx := 113) (r1 := 0) (r2 := 0) (r3 := 0) rfl rfl ?_
    refine wi_aload_n (i := 0) (x := 236) (nx := 114) (r1 := 0) (r2 := 0) (r3 := 0) rfl rfl ?_
    refine wr_V (k0 := 236) (rest := [.ref 236]) (as := [.ref 236]) (nx := 117) (r1 := 333) (r2 := 0) (r3 := 11) rfl rfl rfl (of_decide_eq_true rfl) rfl rfl (by decide) rfl rfl (of_decide_eq_true rfl) (of_decide_eq_true rfl) ?_
    refine ct_333_236 hcr  g   (show (h 238 98) + (h 238 99) + (h 238 100) + (h 238 101) + (h 238 102) + (h 238 106) = (h 238 73) by omega) (show (h 238 73) ≤ (h 238 2) by omega) (show (h 238 119) ≤ (h 238 67) by omega) (show (h 238 69) ≤ (h 238 5) by omega) (show (h 238 2) ≤ 12 * (h 238 5) by omega) (fun h14 z15 g14 u14 (fz15 : -2147483648 ≤ z15 ∧ z15 ≤ 2147483647) (p14_0 : (h14 238 98) + (h14 238 99) + (h14 238 100) + (h14 238 101) + (h14 238 102) + (h14 238 106) = (h14 238 73)) (p14_1 : (h14 238 73) ≤ (h14 238 2)) (p14_2 : (h14 238 119) ≤ (h14 238 67)) (p14_3 : (h14 238 69) ≤ (h14 238 5)) (p14_4 : (h14 238 2) ≤ 12 * (h14 238 5)) => ?_)
    have F16 := F0.then (by decide +kernel) u14
    have e17 : h14 238 98 = h 238 98 := (u14 238 98 rfl)
    have e18 : h14 238 99 = h 238 99 := (u14 238 99 rfl)
    have e19 : h14 238 100 = h 238 100 := (u14 238 100 rfl)
    have e20 : h14 238 101 = h 238 101 := (u14 238 101 rfl)
    have e21 : h14 238 102 = h 238 102 := (u14 238 102 rfl)
    have e22 : h14 238 106 = h 238 106 := (u14 238 106 rfl)
    have e23 : h14 238 73 = h 238 73 := (u14 238 73 rfl)
    have e24 : h14 238 2 = h 238 2 := (u14 238 2 rfl)
    have e25 : h14 238 119 = h 238 119 := (u14 238 119 rfl)
    have e26 : h14 238 67 = h 238 67 := (u14 238 67 rfl)
    have e27 : h14 238 69 = h 238 69 := (u14 238 69 rfl)
    have e28 : h14 238 5 = h 238 5 := (u14 238 5 rfl)
    refine wk_i ?_
    refine wi_if (cd := .gt) (nx := 120) (r1 := 127) (r2 := 0) (r3 := 0) rfl (by omega) (fun (q29 : 0 < z15) => ?_) (fun (q29 : ¬ (0 < z15)) => ?_)
    ·
      refine wi_iconst (n := 1) (nx := 128) (r1 := 0) (r2 := 0) (r3 := 0) rfl ?_
      refine wi_goto (nx := 131) (r1 := 132) (r2 := 0) (r3 := 0) rfl ?_
      refine wr_pf2 (k0 := 236) (x := 1) (bl := 0) (bh := 1) (nx := 135) (r1 := 11) (r2 := 45) (r3 := 2) rfl (by decide) rfl ⟨rfl, rfl⟩ rfl (by omega) rfl g14 rfl (by omega) (fun h30 g30 w30 u30 => ?_)
      have F31 := F16.then rfl u30
      refine wi_iconst (n := 1) (nx := 136) (r1 := 0) (r2 := 0) (r3 := 0) rfl ?_
      refine wi_zreturn (nx := 137) (r1 := 0) (r2 := 0) (r3 := 0) rfl rfl (by omega) ?_
      have e32 : h30 238 98 = h 238 98 := ((u30 238 98 rfl).trans (u14 238 98 rfl))
      have e33 : h30 238 99 = h 238 99 := ((u30 238 99 rfl).trans (u14 238 99 rfl))
      have e34 : h30 238 100 = h 238 100 := ((u30 238 100 rfl).trans (u14 238 100 rfl))
      have e35 : h30 238 101 = h 238 101 := ((u30 238 101 rfl).trans (u14 238 101 rfl))
      have e36 : h30 238 102 = h 238 102 := ((u30 238 102 rfl).trans (u14 238 102 rfl))
      have e37 : h30 238 106 = h 238 106 := ((u30 238 106 rfl).trans (u14 238 106 rfl))
      have e38 : h30 238 73 = h 238 73 := ((u30 238 73 rfl).trans (u14 238 73 rfl))
      have e39 : h30 238 2 = h 238 2 := ((u30 238 2 rfl).trans (u14 238 2 rfl))
      have e40 : h30 238 119 = h 238 119 := ((u30 238 119 rfl).trans (u14 238 119 rfl))
      have e41 : h30 238 67 = h 238 67 := ((u30 238 67 rfl).trans (u14 238 67 rfl))
      have e42 : h30 238 69 = h 238 69 := ((u30 238 69 rfl).trans (u14 238 69 rfl))
      have e43 : h30 238 5 = h 238 5 := ((u30 238 5 rfl).trans (u14 238 5 rfl))
      exact k h30 1 g30 F31 (by omega) (fun _ => by omega) (show (h30 238 98) + (h30 238 99) + (h30 238 100) + (h30 238 101) + (h30 238 102) + (h30 238 106) = (h30 238 73) by omega) (show (h30 238 73) ≤ (h30 238 2) by omega) (show (h30 238 119) ≤ (h30 238 67) by omega) (show (h30 238 69) ≤ (h30 238 5) by omega) (show (h30 238 2) ≤ 12 * (h30 238 5) by omega)
    ·
      refine wi_aload_n (i := 0) (x := 236) (nx := 121) (r1 := 0) (r2 := 0) (r3 := 0) rfl rfl ?_
      have b30 := gi_b (lo := 0) (hi := 1) g 236 45 rfl
      refine wr_gi2 (k0 := 236) (x := h 236 45) (nx := 124) (r1 := 11) (r2 := 45) (r3 := 0) rfl rfl (by decide) rfl ⟨rfl, rfl⟩ rfl (u14 236 45 rfl) ?_
      refine wi_if (cd := .eq) (nx := 127) (r1 := 131) (r2 := 0) (r3 := 0) rfl (by omega) (fun (q31 : (h 236 45) = 0) => ?_) (fun (q31 : ¬ ((h 236 45) = 0)) => ?_)
      ·
        refine wi_iconst (n := 0) (nx := 132) (r1 := 0) (r2 := 0) (r3 := 0) rfl ?_
        refine wr_pf2 (k0 := 236) (x := 0) (bl := 0) (bh := 1) (nx := 135) (r1 := 11) (r2 := 45) (r3 := 2) rfl (by decide) rfl ⟨rfl, rfl⟩ rfl (by omega) rfl g14 rfl (by omega) (fun h32 g32 w32 u32 => ?_)
        have F33 := F16.then rfl u32
        refine wi_iconst (n := 1) (nx := 136) (r1 := 0) (r2 := 0) (r3 := 0) rfl ?_
        refine wi_zreturn (nx := 137) (r1 := 0) (r2 := 0) (r3 := 0) rfl rfl (by omega) ?_
        have e34 : h32 238 98 = h 238 98 := ((u32 238 98 rfl).trans (u14 238 98 rfl))
        have e35 : h32 238 99 = h 238 99 := ((u32 238 99 rfl).trans (u14 238 99 rfl))
        have e36 : h32 238 100 = h 238 100 := ((u32 238 100 rfl).trans (u14 238 100 rfl))
        have e37 : h32 238 101 = h 238 101 := ((u32 238 101 rfl).trans (u14 238 101 rfl))
        have e38 : h32 238 102 = h 238 102 := ((u32 238 102 rfl).trans (u14 238 102 rfl))
        have e39 : h32 238 106 = h 238 106 := ((u32 238 106 rfl).trans (u14 238 106 rfl))
        have e40 : h32 238 73 = h 238 73 := ((u32 238 73 rfl).trans (u14 238 73 rfl))
        have e41 : h32 238 2 = h 238 2 := ((u32 238 2 rfl).trans (u14 238 2 rfl))
        have e42 : h32 238 119 = h 238 119 := ((u32 238 119 rfl).trans (u14 238 119 rfl))
        have e43 : h32 238 67 = h 238 67 := ((u32 238 67 rfl).trans (u14 238 67 rfl))
        have e44 : h32 238 69 = h 238 69 := ((u32 238 69 rfl).trans (u14 238 69 rfl))
        have e45 : h32 238 5 = h 238 5 := ((u32 238 5 rfl).trans (u14 238 5 rfl))
        exact k h32 1 g32 F33 (by omega) (fun _ => by omega) (show (h32 238 98) + (h32 238 99) + (h32 238 100) + (h32 238 101) + (h32 238 102) + (h32 238 106) = (h32 238 73) by omega) (show (h32 238 73) ≤ (h32 238 2) by omega) (show (h32 238 119) ≤ (h32 238 67) by omega) (show (h32 238 69) ≤ (h32 238 5) by omega) (show (h32 238 2) ≤ 12 * (h32 238 5) by omega)
      ·
        refine wi_iconst (n := 1) (nx := 128) (r1 := 0) (r2 := 0) (r3 := 0) rfl ?_
        refine wi_goto (nx := 131) (r1 := 132) (r2 := 0) (r3 := 0) rfl ?_
        refine wr_pf2 (k0 := 236) (x := 1) (bl := 0) (bh := 1) (nx := 135) (r1 := 11) (r2 := 45) (r3 := 2) rfl (by decide) rfl ⟨rfl, rfl⟩ rfl (by omega) rfl g14 rfl (by omega) (fun h32 g32 w32 u32 => ?_)
        have F33 := F16.then rfl u32
        refine wi_iconst (n := 1) (nx := 136) (r1 := 0) (r2 := 0) (r3 := 0) rfl ?_
        refine wi_zreturn (nx := 137) (r1 := 0) (r2 := 0) (r3 := 0) rfl rfl (by omega) ?_
        have e34 : h32 238 98 = h 238 98 := ((u32 238 98 rfl).trans (u14 238 98 rfl))
        have e35 : h32 238 99 = h 238 99 := ((u32 238 99 rfl).trans (u14 238 99 rfl))
        have e36 : h32 238 100 = h 238 100 := ((u32 238 100 rfl).trans (u14 238 100 rfl))
        have e37 : h32 238 101 = h 238 101 := ((u32 238 101 rfl).trans (u14 238 101 rfl))
        have e38 : h32 238 102 = h 238 102 := ((u32 238 102 rfl).trans (u14 238 102 rfl))
        have e39 : h32 238 106 = h 238 106 := ((u32 238 106 rfl).trans (u14 238 106 rfl))
        have e40 : h32 238 73 = h 238 73 := ((u32 238 73 rfl).trans (u14 238 73 rfl))
        have e41 : h32 238 2 = h 238 2 := ((u32 238 2 rfl).trans (u14 238 2 rfl))
        have e42 : h32 238 119 = h 238 119 := ((u32 238 119 rfl).trans (u14 238 119 rfl))
        have e43 : h32 238 67 = h 238 67 := ((u32 238 67 rfl).trans (u14 238 67 rfl))
        have e44 : h32 238 69 = h 238 69 := ((u32 238 69 rfl).trans (u14 238 69 rfl))
        have e45 : h32 238 5 = h 238 5 := ((u32 238 5 rfl).trans (u14 238 5 rfl))
        exact k h32 1 g32 F33 (by omega) (fun _ => by omega) (show (h32 238 98) + (h32 238 99) + (h32 238 100) + (h32 238 101) + (h32 238 102) + (h32 238 106) = (h32 238 73) by omega) (show (h32 238 73) ≤ (h32 238 2) by omega) (show (h32 238 119) ≤ (h32 238 67) by omega) (show (h32 238 69) ≤ (h32 238 5) by omega) (show (h32 238 2) ≤ 12 * (h32 238 5) by omega)
  ·
    refine wr_tswD 137 (nx := 31) (r1 := 0) (r2 := 0) (r3 := 0) rfl (by omega) (by omega) rfl ?_
    refine wi_aload_n (i := 0) (x := 236) (nx := 138) (r1 := 0) (r2 := 0) (r3 := 0) rfl rfl ?_
    refine wi_iload_n (i := 1) (e := a0) (nx := 139) (r1 := 0) (r2 := 0) (r3 := 0) rfl rfl ?_
    refine wi_iload_n (i := 2) (e := a1) (nx := 140) (r1 := 0) (r2 := 0) (r3 := 0) rfl rfl ?_
    rcases (show a0 = 0 ∨ a0 = 1 ∨ a0 = 2 by omega) with q14 | q14 | q14
    ·
      rw [q14]
      refine wr_V (k0 := 236) (rest := []) (as := [.ref 236, vi 0, vi a1]) (nx := 143) (r1 := 343) (r2 := 2) (r3 := 11) rfl rfl rfl (of_decide_eq_true rfl) rfl rfl (by decide) rfl rfl (of_decide_eq_true rfl) (of_decide_eq_true rfl) ?_
      refine ct_343_236_L0 hcr  g a1 (by omega) (show (h 238 98) + (h 238 99) + (h 238 100) + (h 238 101) + (h 238 102) + (h 238 106) = (h 238 73) by omega) (show (h 238 73) ≤ (h 238 2) by omega) (show (h 238 119) ≤ (h 238 67) by omega) (show (h 238 69) ≤ (h 238 5) by omega) (show (h 238 2) ≤ 12 * (h 238 5) by omega) (fun h15 z16 g15 u15 (fz16 : 0 ≤ z16 ∧ z16 ≤ 1) m15_0 (p15_0 : (h15 238 98) + (h15 238 99) + (h15 238 100) + (h15 238 101) + (h15 238 102) + (h15 238 106) = (h15 238 73)) (p15_1 : (h15 238 73) ≤ (h15 238 2)) (p15_2 : (h15 238 119) ≤ (h15 238 67)) (p15_3 : (h15 238 69) ≤ (h15 238 5)) (p15_4 : (h15 238 2) ≤ 12 * (h15 238 5)) => ?_)
      have F17 := F0.then (by decide +kernel) u15
      have b18 := gi_b (lo := 0) (hi := 6) g15 238 98 rfl
      have b19 := gi_b (lo := 0) (hi := 6) g15 238 99 rfl
      have b20 := gi_b (lo := 0) (hi := 6) g15 238 100 rfl
      have b21 := gi_b (lo := 0) (hi := 6) g15 238 101 rfl
      have e22 : h15 238 102 = h 238 102 := (u15 238 102 rfl)
      have e23 : h15 238 106 = h 238 106 := (u15 238 106 rfl)
      have b24 := gi_b (lo := 0) (hi := 12) g15 238 73 rfl
      have e25 : h15 238 2 = h 238 2 := (u15 238 2 rfl)
      have e26 : h15 238 119 = h 238 119 := (u15 238 119 rfl)
      have e27 : h15 238 67 = h 238 67 := (u15 238 67 rfl)
      have e28 : h15 238 69 = h 238 69 := (u15 238 69 rfl)
      have e29 : h15 238 5 = h 238 5 := (u15 238 5 rfl)
      refine wk_i ?_
      refine wi_zreturn (nx := 144) (r1 := 0) (r2 := 0) (r3 := 0) rfl rfl (by omega) ?_
      exact k h15 z16 g15 F17 (by omega) (fun _ => by omega) (show (h15 238 98) + (h15 238 99) + (h15 238 100) + (h15 238 101) + (h15 238 102) + (h15 238 106) = (h15 238 73) by omega) (show (h15 238 73) ≤ (h15 238 2) by omega) (show (h15 238 119) ≤ (h15 238 67) by omega) (show (h15 238 69) ≤ (h15 238 5) by omega) (show (h15 238 2) ≤ 12 * (h15 238 5) by omega)
    ·
      rw [q14]
      refine wr_V (k0 := 236) (rest := []) (as := [.ref 236, vi 1, vi a1]) (nx := 143) (r1 := 343) (r2 := 2) (r3 := 11) rfl rfl rfl (of_decide_eq_true rfl) rfl rfl (by decide) rfl rfl (of_decide_eq_true rfl) (of_decide_eq_true rfl) ?_
      refine ct_343_236_L1 hcr  g a1 (by omega) (show (h 238 98) + (h 238 99) + (h 238 100) + (h 238 101) + (h 238 102) + (h 238 106) = (h 238 73) by omega) (show (h 238 73) ≤ (h 238 2) by omega) (show (h 238 119) ≤ (h 238 67) by omega) (show (h 238 69) ≤ (h 238 5) by omega) (show (h 238 2) ≤ 12 * (h 238 5) by omega) (fun h15 z16 g15 u15 (fz16 : 0 ≤ z16 ∧ z16 ≤ 1) m15_0 (p15_0 : (h15 238 98) + (h15 238 99) + (h15 238 100) + (h15 238 101) + (h15 238 102) + (h15 238 106) = (h15 238 73)) (p15_1 : (h15 238 73) ≤ (h15 238 2)) (p15_2 : (h15 238 119) ≤ (h15 238 67)) (p15_3 : (h15 238 69) ≤ (h15 238 5)) (p15_4 : (h15 238 2) ≤ 12 * (h15 238 5)) => ?_)
      have F17 := F0.then (by decide +kernel) u15
      have b18 := gi_b (lo := 0) (hi := 6) g15 238 98 rfl
      have b19 := gi_b (lo := 0) (hi := 6) g15 238 99 rfl
      have b20 := gi_b (lo := 0) (hi := 6) g15 238 100 rfl
      have b21 := gi_b (lo := 0) (hi := 6) g15 238 101 rfl
      have b22 := gi_b (lo := 0) (hi := 3) g15 238 102 rfl
      have b23 := gi_b (lo := 0) (hi := 12) g15 238 106 rfl
      have e24 : h15 238 73 = h 238 73 := (u15 238 73 rfl)
      have e25 : h15 238 2 = h 238 2 := (u15 238 2 rfl)
      have b26 := gi_b (lo := 0) (hi := 9999) g15 238 119 rfl
      have b27 := gi_b (lo := 0) (hi := 9999) g15 238 67 rfl
      have b28 := gi_b (lo := 0) (hi := 9) g15 238 69 rfl
      have e29 : h15 238 5 = h 238 5 := (u15 238 5 rfl)
      refine wk_i ?_
      refine wi_zreturn (nx := 144) (r1 := 0) (r2 := 0) (r3 := 0) rfl rfl (by omega) ?_
      exact k h15 z16 g15 F17 (by omega) (fun _ => by omega) (show (h15 238 98) + (h15 238 99) + (h15 238 100) + (h15 238 101) + (h15 238 102) + (h15 238 106) = (h15 238 73) by omega) (show (h15 238 73) ≤ (h15 238 2) by omega) (show (h15 238 119) ≤ (h15 238 67) by omega) (show (h15 238 69) ≤ (h15 238 5) by omega) (show (h15 238 2) ≤ 12 * (h15 238 5) by omega)
    ·
      rw [q14]
      refine wr_V (k0 := 236) (rest := []) (as := [.ref 236, vi 2, vi a1]) (nx := 143) (r1 := 343) (r2 := 2) (r3 := 11) rfl rfl rfl (of_decide_eq_true rfl) rfl rfl (by decide) rfl rfl (of_decide_eq_true rfl) (of_decide_eq_true rfl) ?_
      refine ct_343_236_L2 hcr  g a1 (by omega) (show (h 238 98) + (h 238 99) + (h 238 100) + (h 238 101) + (h 238 102) + (h 238 106) = (h 238 73) by omega) (show (h 238 73) ≤ (h 238 2) by omega) (show (h 238 119) ≤ (h 238 67) by omega) (show (h 238 69) ≤ (h 238 5) by omega) (show (h 238 2) ≤ 12 * (h 238 5) by omega) (fun h15 z16 g15 u15 (fz16 : 0 ≤ z16 ∧ z16 ≤ 1) m15_0 (p15_0 : (h15 238 98) + (h15 238 99) + (h15 238 100) + (h15 238 101) + (h15 238 102) + (h15 238 106) = (h15 238 73)) (p15_1 : (h15 238 73) ≤ (h15 238 2)) (p15_2 : (h15 238 119) ≤ (h15 238 67)) (p15_3 : (h15 238 69) ≤ (h15 238 5)) (p15_4 : (h15 238 2) ≤ 12 * (h15 238 5)) => ?_)
      have F17 := F0.then (by decide +kernel) u15
      have b18 := gi_b (lo := 0) (hi := 6) g15 238 98 rfl
      have b19 := gi_b (lo := 0) (hi := 6) g15 238 99 rfl
      have b20 := gi_b (lo := 0) (hi := 6) g15 238 100 rfl
      have b21 := gi_b (lo := 0) (hi := 6) g15 238 101 rfl
      have b22 := gi_b (lo := 0) (hi := 3) g15 238 102 rfl
      have e23 : h15 238 106 = h 238 106 := (u15 238 106 rfl)
      have e24 : h15 238 73 = h 238 73 := (u15 238 73 rfl)
      have e25 : h15 238 2 = h 238 2 := (u15 238 2 rfl)
      have e26 : h15 238 119 = h 238 119 := (u15 238 119 rfl)
      have e27 : h15 238 67 = h 238 67 := (u15 238 67 rfl)
      have e28 : h15 238 69 = h 238 69 := (u15 238 69 rfl)
      have e29 : h15 238 5 = h 238 5 := (u15 238 5 rfl)
      refine wk_i ?_
      refine wi_zreturn (nx := 144) (r1 := 0) (r2 := 0) (r3 := 0) rfl rfl (by omega) ?_
      exact k h15 z16 g15 F17 (by omega) (fun _ => by omega) (show (h15 238 98) + (h15 238 99) + (h15 238 100) + (h15 238 101) + (h15 238 102) + (h15 238 106) = (h15 238 73) by omega) (show (h15 238 73) ≤ (h15 238 2) by omega) (show (h15 238 119) ≤ (h15 238 67) by omega) (show (h15 238 69) ≤ (h15 238 5) by omega) (show (h15 238 2) ≤ 12 * (h15 238 5) by omega)
