-- method 343: Model.moves(II)Z
set_option maxRecDepth 100000 in
set_option maxHeartbeats 100000000 in
theorem ct_343_236_L0 {L : Nat} {xs : Nat → Int32} {d b c : Nat} {h : hp} {cr : Nat → Nat → Option Nat} {Q : hp_Q} (hcr : CR cr)  (g : GI h) (a0 : Int) (q0_ : -2147483648 ≤ a0 ∧ a0 ≤ 2147483647) (pp0 : h 238 98 + h 238 99 + h 238 100 + h 238 101 + h 238 102 + h 238 106 = h 238 73) (pp1 : h 238 73 ≤ h 238 2) (pp2 : h 238 119 ≤ h 238 67) (pp3 : h 238 69 ≤ h 238 5) (pp4 : h 238 2 ≤ 12 * h 238 5) (k : ∀ (h2 : hp) (z0 : Int) , GI h2 → FR [(236, 236, some (28, 28)), (236, 236, some (45, 45)), (238, 238, some (73, 73)), (238, 238, some (74, 79)), (238, 238, some (80, 85)), (238, 238, some (86, 91)), (238, 238, some (92, 97)), (238, 238, some (98, 98)), (238, 238, some (99, 99)), (238, 238, some (100, 100)), (238, 238, some (101, 101))] h h2 → (0 ≤ z0 ∧ z0 ≤ 1) → (z0 = 1 → 0 ≤ a0 ∧ a0 ≤ 3) → (h2 238 98 + h2 238 99 + h2 238 100 + h2 238 101 + h2 238 102 + h2 238 106 = h2 238 73) → (h2 238 73 ≤ h2 238 2) → (h2 238 119 ≤ h2 238 67) → (h2 238 69 ≤ h2 238 5) → (h2 238 2 ≤ 12 * h2 238 5) → Q (.inl (some (vi z0))) (hp_w h2 cr) b c) : wp (md_xa (L, xs)) (d + 3) 343 (0, [(0, .ref 236), (1, vi 0), (2, vi a0)], [], hp_w h cr, b, c) Q := by
  have F0 : FR [(236, 236, some (28, 28)), (236, 236, some (45, 45)), (238, 238, some (73, 73)), (238, 238, some (74, 79)), (238, 238, some (80, 85)), (238, 238, some (86, 91)), (238, 238, some (92, 97)), (238, 238, some (98, 98)), (238, 238, some (99, 99)), (238, 238, some (100, 100)), (238, 238, some (101, 101))] h h := FR.refl
  have b1 := gi_b (lo := 0) (hi := 6) g 238 98 rfl
  have b2 := gi_b (lo := 0) (hi := 6) g 238 99 rfl
  have b3 := gi_b (lo := 0) (hi := 6) g 238 100 rfl
  have b4 := gi_b (lo := 0) (hi := 6) g 238 101 rfl
  have b5 := gi_b (lo := 0) (hi := 3) g 238 102 rfl
  have b6 := gi_b (lo := 0) (hi := 12) g 238 106 rfl
  have b7 := gi_b (lo := 0) (hi := 12) g 238 73 rfl
  have b8 := gi_b (lo := 0) (hi := 12) g 238 2 rfl
  have b9 := gi_b (lo := 0) (hi := 9999) g 238 119 rfl
  have b10 := gi_b (lo := 0) (hi := 9999) g 238 67 rfl
  have b11 := gi_b (lo := 0) (hi := 9) g 238 69 rfl
  have b12 := gi_b (lo := 0) (hi := 9) g 238 5 rfl
  refine wi_aload_n (i := 0) (x := 236) (nx := 1) (r1 := 0) (r2 := 0) (r3 := 0) rfl rfl ?_
  refine wi_iload_n (i := 2) (e := a0) (nx := 2) (r1 := 0) (r2 := 0) (r3 := 0) rfl rfl ?_
  refine wr_V (k0 := 236) (rest := []) (as := [.ref 236, vi a0]) (nx := 5) (r1 := 242) (r2 := 1) (r3 := 11) rfl rfl rfl (of_decide_eq_true rfl) rfl rfl (by decide) rfl rfl (of_decide_eq_true rfl) (of_decide_eq_true rfl) ?_
  refine wi_iload_n (i := 1) (e := a0) (nx := 1) (r1 := 0) (r2 := 0) (r3 := 0) rfl rfl ?_
  refine wi_i2l (nx := 2) (r1 := 0) (r2 := 0) (r3 := 0) rfl (by omega) ?_
  refine wi_lconst (n := 0) (e := 0) (nx := 3) (r1 := 0) (r2 := 0) (r3 := 0) rfl (by decide) ?_
  refine wi_aload_n (i := 0) (x := 236) (nx := 4) (r1 := 0) (r2 := 0) (r3 := 0) rfl rfl ?_
  refine wr_gr (k0 := 236) (x := 238) (nx := 7) (r1 := 11) (r2 := 13) (r3 := 0) rfl rfl (by decide) rfl ⟨rfl, rfl⟩ rfl ?_
  refine wi_iconst (n := 1) (nx := 8) (r1 := 0) (r2 := 0) (r3 := 0) rfl ?_
  have b13 := gi_b (lo := 0) (hi := 4) g 238 1 rfl
  refine wr_ia (k0 := 238) (a := 1) (f := 1) (x := h 238 1) (nx := 9) (r1 := 0) (r2 := 0) (r3 := 0) rfl (by decide) rfl (by omega) (by omega) (by decide) rfl ?_
  refine wi_iconst (n := 1) (nx := 10) (r1 := 0) (r2 := 0) (r3 := 0) rfl ?_
  refine wr_sub (nx := 11) (r1 := 0) (r2 := 0) (r3 := 0) rfl (fun e14 (fe14 : e14 = (h 238 1) - 1) => ?_)
  refine wi_i2l (nx := 12) (r1 := 0) (r2 := 0) (r3 := 0) rfl (by omega) ?_
  refine wi_S (rest := []) (as := [vl a0, vl 0, vl e14]) (nx := 15) (r1 := 210) (r2 := 19) (r3 := 0) rfl rfl rfl (of_decide_eq_true rfl) rfl rfl (of_decide_eq_true rfl) (of_decide_eq_true rfl) ?_
  refine wi_lload_n (i := 0) (e := a0) (nx := 1) (r1 := 0) (r2 := 0) (r3 := 0) rfl rfl ?_
  refine wi_lload_n (i := 2) (e := 0) (nx := 2) (r1 := 0) (r2 := 0) (r3 := 0) rfl rfl ?_
  refine wi_lcmp (a := a0) (e := 0) (nx := 3) (r1 := 0) (r2 := 0) (r3 := 0) rfl (by omega) (by omega) (fun r15 (fr15 : (r15 = -1 ∧ a0 < 0) ∨ (r15 = 0 ∧ a0 = 0) ∨ (r15 = 1 ∧ 0 < a0)) => ?_)
  refine wi_if (cd := .lt) (nx := 6) (r1 := 17) (r2 := 0) (r3 := 0) rfl (by omega) (fun (q16 : r15 < 0) => ?_) (fun (q16 : ¬ (r15 < 0)) => ?_)
  ·
    refine wi_iconst (n := 0) (nx := 18) (r1 := 0) (r2 := 0) (r3 := 0) rfl ?_
    refine wi_zreturn (nx := 19) (r1 := 0) (r2 := 0) (r3 := 0) rfl rfl (by omega) ?_
    refine wk_i ?_
    refine wi_zreturn (nx := 16) (r1 := 0) (r2 := 0) (r3 := 0) rfl rfl (by omega) ?_
    refine wk_i ?_
    refine wi_if (cd := .eq) (nx := 8) (r1 := 58) (r2 := 0) (r3 := 0) rfl (by omega) (fun (q17 : 0 = 0) => ?_) (fun (q17 : ¬ (0 = 0)) => by exfalso; omega)
    refine wi_iconst (n := 0) (nx := 59) (r1 := 0) (r2 := 0) (r3 := 0) rfl ?_
    refine wi_istore_n (i := 3) (e := 0) (lo2 := [(3, vi 0), (0, .ref 236), (1, vi 0), (2, vi a0)]) (nx := 60) (r1 := 0) (r2 := 0) (r3 := 0) rfl rfl ?_
    refine wi_iload_n (i := 3) (e := 0) (nx := 61) (r1 := 0) (r2 := 0) (r3 := 0) rfl rfl ?_
    refine wi_if (cd := .eq) (nx := 64) (r1 := 98) (r2 := 0) (r3 := 0) rfl (by omega) (fun (q18 : 0 = 0) => ?_) (fun (q18 : ¬ (0 = 0)) => by exfalso; omega)
    refine wi_aload_n (i := 0) (x := 236) (nx := 99) (r1 := 0) (r2 := 0) (r3 := 0) rfl rfl ?_
    refine wi_aload_n (i := 0) (x := 236) (nx := 100) (r1 := 0) (r2 := 0) (r3 := 0) rfl rfl ?_
    have b19 := gi_b (lo := 0) (hi := 1) g 236 45 rfl
    refine wr_gi2 (k0 := 236) (x := h 236 45) (nx := 103) (r1 := 11) (r2 := 45) (r3 := 0) rfl rfl (by decide) rfl ⟨rfl, rfl⟩ rfl rfl ?_
    refine wi_if (cd := .ne) (nx := 106) (r1 := 110) (r2 := 0) (r3 := 0) rfl (by omega) (fun (q20 : (h 236 45) ≠ 0) => ?_) (fun (q20 : ¬ ((h 236 45) ≠ 0)) => ?_)
    ·
      refine wi_iconst (n := 1) (nx := 111) (r1 := 0) (r2 := 0) (r3 := 0) rfl ?_
      refine wi_goto (nx := 114) (r1 := 115) (r2 := 0) (r3 := 0) rfl ?_
      refine wr_pf2 (k0 := 236) (x := 1) (bl := 0) (bh := 1) (nx := 118) (r1 := 11) (r2 := 45) (r3 := 2) rfl (by decide) rfl ⟨rfl, rfl⟩ rfl (by omega) rfl g rfl (by omega) (fun h21 g21 w21 u21 => ?_)
      have F22 := F0.then rfl u21
      refine wi_iload_n (i := 3) (e := 0) (nx := 119) (r1 := 0) (r2 := 0) (r3 := 0) rfl rfl ?_
      refine wi_zreturn (nx := 120) (r1 := 0) (r2 := 0) (r3 := 0) rfl rfl (by omega) ?_
      have e23 : h21 238 98 = h 238 98 := (u21 238 98 rfl)
      have e24 : h21 238 99 = h 238 99 := (u21 238 99 rfl)
      have e25 : h21 238 100 = h 238 100 := (u21 238 100 rfl)
      have e26 : h21 238 101 = h 238 101 := (u21 238 101 rfl)
      have e27 : h21 238 102 = h 238 102 := (u21 238 102 rfl)
      have e28 : h21 238 106 = h 238 106 := (u21 238 106 rfl)
      have e29 : h21 238 73 = h 238 73 := (u21 238 73 rfl)
      have e30 : h21 238 2 = h 238 2 := (u21 238 2 rfl)
      have e31 : h21 238 119 = h 238 119 := (u21 238 119 rfl)
      have e32 : h21 238 67 = h 238 67 := (u21 238 67 rfl)
      have e33 : h21 238 69 = h 238 69 := (u21 238 69 rfl)
      have e34 : h21 238 5 = h 238 5 := (u21 238 5 rfl)
      exact k h21 0 g21 F22 (by omega) (fun _ => by omega) (show (h21 238 98) + (h21 238 99) + (h21 238 100) + (h21 238 101) + (h21 238 102) + (h21 238 106) = (h21 238 73) by omega) (show (h21 238 73) ≤ (h21 238 2) by omega) (show (h21 238 119) ≤ (h21 238 67) by omega) (show (h21 238 69) ≤ (h21 238 5) by omega) (show (h21 238 2) ≤ 12 * (h21 238 5) by omega)
    ·
      refine wi_iload_n (i := 3) (e := 0) (nx := 107) (r1 := 0) (r2 := 0) (r3 := 0) rfl rfl ?_
      refine wi_if (cd := .eq) (nx := 110) (r1 := 114) (r2 := 0) (r3 := 0) rfl (by omega) (fun (q21 : 0 = 0) => ?_) (fun (q21 : ¬ (0 = 0)) => by exfalso; omega)
      refine wi_iconst (n := 0) (nx := 115) (r1 := 0) (r2 := 0) (r3 := 0) rfl ?_
      refine wr_pf2 (k0 := 236) (x := 0) (bl := 0) (bh := 1) (nx := 118) (r1 := 11) (r2 := 45) (r3 := 2) rfl (by decide) rfl ⟨rfl, rfl⟩ rfl (by omega) rfl g rfl (by omega) (fun h22 g22 w22 u22 => ?_)
      have F23 := F0.then rfl u22
      refine wi_iload_n (i := 3) (e := 0) (nx := 119) (r1 := 0) (r2 := 0) (r3 := 0) rfl rfl ?_
      refine wi_zreturn (nx := 120) (r1 := 0) (r2 := 0) (r3 := 0) rfl rfl (by omega) ?_
      have e24 : h22 238 98 = h 238 98 := (u22 238 98 rfl)
      have e25 : h22 238 99 = h 238 99 := (u22 238 99 rfl)
      have e26 : h22 238 100 = h 238 100 := (u22 238 100 rfl)
      have e27 : h22 238 101 = h 238 101 := (u22 238 101 rfl)
      have e28 : h22 238 102 = h 238 102 := (u22 238 102 rfl)
      have e29 : h22 238 106 = h 238 106 := (u22 238 106 rfl)
      have e30 : h22 238 73 = h 238 73 := (u22 238 73 rfl)
      have e31 : h22 238 2 = h 238 2 := (u22 238 2 rfl)
      have e32 : h22 238 119 = h 238 119 := (u22 238 119 rfl)
      have e33 : h22 238 67 = h 238 67 := (u22 238 67 rfl)
      have e34 : h22 238 69 = h 238 69 := (u22 238 69 rfl)
      have e35 : h22 238 5 = h 238 5 := (u22 238 5 rfl)
      exact k h22 0 g22 F23 (by omega) (fun _ => by omega) (show (h22 238 98) + (h22 238 99) + (h22 238 100) + (h22 238 101) + (h22 238 102) + (h22 238 106) = (h22 238 73) by omega) (show (h22 238 73) ≤ (h22 238 2) by omega) (show (h22 238 119) ≤ (h22 238 67) by omega) (show (h22 238 69) ≤ (h22 238 5) by omega) (show (h22 238 2) ≤ 12 * (h22 238 5) by omega)
  ·
    refine wi_lload_n (i := 0) (e := a0) (nx := 7) (r1 := 0) (r2 := 0) (r3 := 0) rfl rfl ?_
    refine wi_lload (i := 4) (e := e14) (nx := 9) (r1 := 0) (r2 := 0) (r3 := 0) rfl rfl ?_
    refine wi_lcmp (a := a0) (e := e14) (nx := 10) (r1 := 0) (r2 := 0) (r3 := 0) rfl (by omega) (by omega) (fun r17 (fr17 : (r17 = -1 ∧ a0 < e14) ∨ (r17 = 0 ∧ a0 = e14) ∨ (r17 = 1 ∧ e14 < a0)) => ?_)
    refine wi_if (cd := .gt) (nx := 13) (r1 := 17) (r2 := 0) (r3 := 0) rfl (by omega) (fun (q18 : 0 < r17) => ?_) (fun (q18 : ¬ (0 < r17)) => ?_)
    ·
      refine wi_iconst (n := 0) (nx := 18) (r1 := 0) (r2 := 0) (r3 := 0) rfl ?_
      refine wi_zreturn (nx := 19) (r1 := 0) (r2 := 0) (r3 := 0) rfl rfl (by omega) ?_
      refine wk_i ?_
      refine wi_zreturn (nx := 16) (r1 := 0) (r2 := 0) (r3 := 0) rfl rfl (by omega) ?_
      refine wk_i ?_
      refine wi_if (cd := .eq) (nx := 8) (r1 := 58) (r2 := 0) (r3 := 0) rfl (by omega) (fun (q19 : 0 = 0) => ?_) (fun (q19 : ¬ (0 = 0)) => by exfalso; omega)
      refine wi_iconst (n := 0) (nx := 59) (r1 := 0) (r2 := 0) (r3 := 0) rfl ?_
      refine wi_istore_n (i := 3) (e := 0) (lo2 := [(3, vi 0), (0, .ref 236), (1, vi 0), (2, vi a0)]) (nx := 60) (r1 := 0) (r2 := 0) (r3 := 0) rfl rfl ?_
      refine wi_iload_n (i := 3) (e := 0) (nx := 61) (r1 := 0) (r2 := 0) (r3 := 0) rfl rfl ?_
      refine wi_if (cd := .eq) (nx := 64) (r1 := 98) (r2 := 0) (r3 := 0) rfl (by omega) (fun (q20 : 0 = 0) => ?_) (fun (q20 : ¬ (0 = 0)) => by exfalso; omega)
      refine wi_aload_n (i := 0) (x := 236) (nx := 99) (r1 := 0) (r2 := 0) (r3 := 0) rfl rfl ?_
      refine wi_aload_n (i := 0) (x := 236) (nx := 100) (r1 := 0) (r2 := 0) (r3 := 0) rfl rfl ?_
      have b21 := gi_b (lo := 0) (hi := 1) g 236 45 rfl
      refine wr_gi2 (k0 := 236) (x := h 236 45) (nx := 103) (r1 := 11) (r2 := 45) (r3 := 0) rfl rfl (by decide) rfl ⟨rfl, rfl⟩ rfl rfl ?_
      refine wi_if (cd := .ne) (nx := 106) (r1 := 110) (r2 := 0) (r3 := 0) rfl (by omega) (fun (q22 : (h 236 45) ≠ 0) => ?_) (fun (q22 : ¬ ((h 236 45) ≠ 0)) => ?_)
      ·
        refine wi_iconst (n := 1) (nx := 111) (r1 := 0) (r2 := 0) (r3 := 0) rfl ?_
        refine wi_goto (nx := 114) (r1 := 115) (r2 := 0) (r3 := 0) rfl ?_
        refine wr_pf2 (k0 := 236) (x := 1) (bl := 0) (bh := 1) (nx := 118) (r1 := 11) (r2 := 45) (r3 := 2) rfl (by decide) rfl ⟨rfl, rfl⟩ rfl (by omega) rfl g rfl (by omega) (fun h23 g23 w23 u23 => ?_)
        have F24 := F0.then rfl u23
        refine wi_iload_n (i := 3) (e := 0) (nx := 119) (r1 := 0) (r2 := 0) (r3 := 0) rfl rfl ?_
        refine wi_zreturn (nx := 120) (r1 := 0) (r2 := 0) (r3 := 0) rfl rfl (by omega) ?_
        have e25 : h23 238 98 = h 238 98 := (u23 238 98 rfl)
        have e26 : h23 238 99 = h 238 99 := (u23 238 99 rfl)
        have e27 : h23 238 100 = h 238 100 := (u23 238 100 rfl)
        have e28 : h23 238 101 = h 238 101 := (u23 238 101 rfl)
        have e29 : h23 238 102 = h 238 102 := (u23 238 102 rfl)
        have e30 : h23 238 106 = h 238 106 := (u23 238 106 rfl)
        have e31 : h23 238 73 = h 238 73 := (u23 238 73 rfl)
        have e32 : h23 238 2 = h 238 2 := (u23 238 2 rfl)
        have e33 : h23 238 119 = h 238 119 := (u23 238 119 rfl)
        have e34 : h23 238 67 = h 238 67 := (u23 238 67 rfl)
        have e35 : h23 238 69 = h 238 69 := (u23 238 69 rfl)
        have e36 : h23 238 5 = h 238 5 := (u23 238 5 rfl)
        exact k h23 0 g23 F24 (by omega) (fun _ => by omega) (show (h23 238 98) + (h23 238 99) + (h23 238 100) + (h23 238 101) + (h23 238 102) + (h23 238 106) = (h23 238 73) by omega) (show (h23 238 73) ≤ (h23 238 2) by omega) (show (h23 238 119) ≤ (h23 238 67) by omega) (show (h23 238 69) ≤ (h23 238 5) by omega) (show (h23 238 2) ≤ 12 * (h23 238 5) by omega)
      ·
        refine wi_iload_n (i := 3) (e := 0) (nx := 107) (r1 := 0) (r2 := 0) (r3 := 0) rfl rfl ?_
        refine wi_if (cd := .eq) (nx := 110) (r1 := 114) (r2 := 0) (r3 := 0) rfl (by omega) (fun (q23 : 0 = 0) => ?_) (fun (q23 : ¬ (0 = 0)) => by exfalso; omega)
        refine wi_iconst (n := 0) (nx := 115) (r1 := 0) (r2 := 0) (r3 := 0) rfl ?_
        refine wr_pf2 (k0 := 236) (x := 0) (bl := 0) (bh := 1) (nx := 118) (r1 := 11) (r2 := 45) (r3 := 2) rfl (by decide) rfl ⟨rfl, rfl⟩ rfl (by omega) rfl g rfl (by omega) (fun h24 g24 w24 u24 => ?_)
        have F25 := F0.then rfl u24
        refine wi_iload_n (i := 3) (e := 0) (nx := 119) (r1 := 0) (r2 := 0) (r3 := 0) rfl rfl ?_
        refine wi_zreturn (nx := 120) (r1 := 0) (r2 := 0) (r3 := 0) rfl rfl (by omega) ?_
        have e26 : h24 238 98 = h 238 98 := (u24 238 98 rfl)
        have e27 : h24 238 99 = h 238 99 := (u24 238 99 rfl)
        have e28 : h24 238 100 = h 238 100 := (u24 238 100 rfl)
        have e29 : h24 238 101 = h 238 101 := (u24 238 101 rfl)
        have e30 : h24 238 102 = h 238 102 := (u24 238 102 rfl)
        have e31 : h24 238 106 = h 238 106 := (u24 238 106 rfl)
        have e32 : h24 238 73 = h 238 73 := (u24 238 73 rfl)
        have e33 : h24 238 2 = h 238 2 := (u24 238 2 rfl)
        have e34 : h24 238 119 = h 238 119 := (u24 238 119 rfl)
        have e35 : h24 238 67 = h 238 67 := (u24 238 67 rfl)
        have e36 : h24 238 69 = h 238 69 := (u24 238 69 rfl)
        have e37 : h24 238 5 = h 238 5 := (u24 238 5 rfl)
        exact k h24 0 g24 F25 (by omega) (fun _ => by omega) (show (h24 238 98) + (h24 238 99) + (h24 238 100) + (h24 238 101) + (h24 238 102) + (h24 238 106) = (h24 238 73) by omega) (show (h24 238 73) ≤ (h24 238 2) by omega) (show (h24 238 119) ≤ (h24 238 67) by omega) (show (h24 238 69) ≤ (h24 238 5) by omega) (show (h24 238 2) ≤ 12 * (h24 238 5) by omega)
    ·
      refine wi_iconst (n := 1) (nx := 14) (r1 := 0) (r2 := 0) (r3 := 0) rfl ?_
      refine wi_goto (nx := 17) (r1 := 18) (r2 := 0) (r3 := 0) rfl ?_
      refine wi_zreturn (nx := 19) (r1 := 0) (r2 := 0) (r3 := 0) rfl rfl (by omega) ?_
      refine wk_i ?_
      refine wi_zreturn (nx := 16) (r1 := 0) (r2 := 0) (r3 := 0) rfl rfl (by omega) ?_
      refine wk_i ?_
      refine wi_if (cd := .eq) (nx := 8) (r1 := 58) (r2 := 0) (r3 := 0) rfl (by omega) (fun (q19 : 1 = 0) => by exfalso; omega) (fun (q19 : ¬ (1 = 0)) => ?_)
      refine wi_iload_n (i := 1) (e := 0) (nx := 9) (r1 := 0) (r2 := 0) (r3 := 0) rfl rfl ?_
      refine wi_if (cd := .ne) (nx := 12) (r1 := 23) (r2 := 0) (r3 := 0) rfl (by omega) (fun (q20 : 0 ≠ 0) => by exfalso; omega) (fun (q20 : ¬ (0 ≠ 0)) => ?_)
      refine wi_aload_n (i := 0) (x := 236) (nx := 13) (r1 := 0) (r2 := 0) (r3 := 0) rfl rfl ?_
      refine wi_iload_n (i := 2) (e := a0) (nx := 14) (r1 := 0) (r2 := 0) (r3 := 0) rfl rfl ?_
      refine wr_V (k0 := 236) (rest := []) (as := [.ref 236, vi a0]) (nx := 17) (r1 := 276) (r2 := 1) (r3 := 11) rfl rfl rfl (of_decide_eq_true rfl) rfl rfl (by decide) rfl rfl (of_decide_eq_true rfl) (of_decide_eq_true rfl) ?_
      refine wi_aload_n (i := 0) (x := 236) (nx := 1) (r1 := 0) (r2 := 0) (r3 := 0) rfl rfl ?_
      refine wr_gr (k0 := 236) (x := 238) (nx := 4) (r1 := 11) (r2 := 13) (r3 := 0) rfl rfl (by decide) rfl ⟨rfl, rfl⟩ rfl ?_
      refine wi_bipush (n := 73) (nx := 6) (r1 := 0) (r2 := 0) (r3 := 0) rfl (by decide) ?_
      refine wr_ia (k0 := 238) (a := 73) (f := 73) (x := h 238 73) (nx := 7) (r1 := 0) (r2 := 0) (r3 := 0) rfl (by decide) rfl (by omega) (by omega) (by decide) rfl ?_
      refine wi_aload_n (i := 0) (x := 236) (nx := 8) (r1 := 0) (r2 := 0) (r3 := 0) rfl rfl ?_
      refine wr_gr (k0 := 236) (x := 238) (nx := 11) (r1 := 11) (r2 := 13) (r3 := 0) rfl rfl (by decide) rfl ⟨rfl, rfl⟩ rfl ?_
      refine wi_iconst (n := 2) (nx := 12) (r1 := 0) (r2 := 0) (r3 := 0) rfl ?_
      refine wr_ia (k0 := 238) (a := 2) (f := 2) (x := h 238 2) (nx := 13) (r1 := 0) (r2 := 0) (r3 := 0) rfl (by decide) rfl (by omega) (by omega) (by decide) rfl ?_
      refine wi_icmp (cd := .ge) (nx := 16) (r1 := 28) (r2 := 0) (r3 := 0) rfl (by omega) (by omega) (fun (q21 : (h 238 2) ≤ (h 238 73)) => ?_) (fun (q21 : ¬ ((h 238 2) ≤ (h 238 73))) => ?_)
      ·
        refine wi_iconst (n := 0) (nx := 29) (r1 := 0) (r2 := 0) (r3 := 0) rfl ?_
        refine wi_zreturn (nx := 30) (r1 := 0) (r2 := 0) (r3 := 0) rfl rfl (by omega) ?_
        refine wk_i ?_
        refine wi_if (cd := .eq) (nx := 20) (r1 := 58) (r2 := 0) (r3 := 0) rfl (by omega) (fun (q22 : 0 = 0) => ?_) (fun (q22 : ¬ (0 = 0)) => by exfalso; omega)
        refine wi_iconst (n := 0) (nx := 59) (r1 := 0) (r2 := 0) (r3 := 0) rfl ?_
        refine wi_istore_n (i := 3) (e := 0) (lo2 := [(3, vi 0), (0, .ref 236), (1, vi 0), (2, vi a0)]) (nx := 60) (r1 := 0) (r2 := 0) (r3 := 0) rfl rfl ?_
        refine wi_iload_n (i := 3) (e := 0) (nx := 61) (r1 := 0) (r2 := 0) (r3 := 0) rfl rfl ?_
        refine wi_if (cd := .eq) (nx := 64) (r1 := 98) (r2 := 0) (r3 := 0) rfl (by omega) (fun (q23 : 0 = 0) => ?_) (fun (q23 : ¬ (0 = 0)) => by exfalso; omega)
        refine wi_aload_n (i := 0) (x := 236) (nx := 99) (r1 := 0) (r2 := 0) (r3 := 0) rfl rfl ?_
        refine wi_aload_n (i := 0) (x := 236) (nx := 100) (r1 := 0) (r2 := 0) (r3 := 0) rfl rfl ?_
        have b24 := gi_b (lo := 0) (hi := 1) g 236 45 rfl
        refine wr_gi2 (k0 := 236) (x := h 236 45) (nx := 103) (r1 := 11) (r2 := 45) (r3 := 0) rfl rfl (by decide) rfl ⟨rfl, rfl⟩ rfl rfl ?_
        refine wi_if (cd := .ne) (nx := 106) (r1 := 110) (r2 := 0) (r3 := 0) rfl (by omega) (fun (q25 : (h 236 45) ≠ 0) => ?_) (fun (q25 : ¬ ((h 236 45) ≠ 0)) => ?_)
        ·
          refine wi_iconst (n := 1) (nx := 111) (r1 := 0) (r2 := 0) (r3 := 0) rfl ?_
          refine wi_goto (nx := 114) (r1 := 115) (r2 := 0) (r3 := 0) rfl ?_
          refine wr_pf2 (k0 := 236) (x := 1) (bl := 0) (bh := 1) (nx := 118) (r1 := 11) (r2 := 45) (r3 := 2) rfl (by decide) rfl ⟨rfl, rfl⟩ rfl (by omega) rfl g rfl (by omega) (fun h26 g26 w26 u26 => ?_)
          have F27 := F0.then rfl u26
          refine wi_iload_n (i := 3) (e := 0) (nx := 119) (r1 := 0) (r2 := 0) (r3 := 0) rfl rfl ?_
          refine wi_zreturn (nx := 120) (r1 := 0) (r2 := 0) (r3 := 0) rfl rfl (by omega) ?_
          have e28 : h26 238 98 = h 238 98 := (u26 238 98 rfl)
          have e29 : h26 238 99 = h 238 99 := (u26 238 99 rfl)
          have e30 : h26 238 100 = h 238 100 := (u26 238 100 rfl)
          have e31 : h26 238 101 = h 238 101 := (u26 238 101 rfl)
          have e32 : h26 238 102 = h 238 102 := (u26 238 102 rfl)
          have e33 : h26 238 106 = h 238 106 := (u26 238 106 rfl)
          have e34 : h26 238 73 = h 238 73 := (u26 238 73 rfl)
          have e35 : h26 238 2 = h 238 2 := (u26 238 2 rfl)
          have e36 : h26 238 119 = h 238 119 := (u26 238 119 rfl)
          have e37 : h26 238 67 = h 238 67 := (u26 238 67 rfl)
          have e38 : h26 238 69 = h 238 69 := (u26 238 69 rfl)
          have e39 : h26 238 5 = h 238 5 := (u26 238 5 rfl)
          exact k h26 0 g26 F27 (by omega) (fun _ => by omega) (show (h26 238 98) + (h26 238 99) + (h26 238 100) + (h26 238 101) + (h26 238 102) + (h26 238 106) = (h26 238 73) by omega) (show (h26 238 73) ≤ (h26 238 2) by omega) (show (h26 238 119) ≤ (h26 238 67) by omega) (show (h26 238 69) ≤ (h26 238 5) by omega) (show (h26 238 2) ≤ 12 * (h26 238 5) by omega)
        ·
          refine wi_iload_n (i := 3) (e := 0) (nx := 107) (r1 := 0) (r2 := 0) (r3 := 0) rfl rfl ?_
          refine wi_if (cd := .eq) (nx := 110) (r1 := 114) (r2 := 0) (r3 := 0) rfl (by omega) (fun (q26 : 0 = 0) => ?_) (fun (q26 : ¬ (0 = 0)) => by exfalso; omega)
          refine wi_iconst (n := 0) (nx := 115) (r1 := 0) (r2 := 0) (r3 := 0) rfl ?_
          refine wr_pf2 (k0 := 236) (x := 0) (bl := 0) (bh := 1) (nx := 118) (r1 := 11) (r2 := 45) (r3 := 2) rfl (by decide) rfl ⟨rfl, rfl⟩ rfl (by omega) rfl g rfl (by omega) (fun h27 g27 w27 u27 => ?_)
          have F28 := F0.then rfl u27
          refine wi_iload_n (i := 3) (e := 0) (nx := 119) (r1 := 0) (r2 := 0) (r3 := 0) rfl rfl ?_
          refine wi_zreturn (nx := 120) (r1 := 0) (r2 := 0) (r3 := 0) rfl rfl (by omega) ?_
          have e29 : h27 238 98 = h 238 98 := (u27 238 98 rfl)
          have e30 : h27 238 99 = h 238 99 := (u27 238 99 rfl)
          have e31 : h27 238 100 = h 238 100 := (u27 238 100 rfl)
          have e32 : h27 238 101 = h 238 101 := (u27 238 101 rfl)
          have e33 : h27 238 102 = h 238 102 := (u27 238 102 rfl)
          have e34 : h27 238 106 = h 238 106 := (u27 238 106 rfl)
          have e35 : h27 238 73 = h 238 73 := (u27 238 73 rfl)
          have e36 : h27 238 2 = h 238 2 := (u27 238 2 rfl)
          have e37 : h27 238 119 = h 238 119 := (u27 238 119 rfl)
          have e38 : h27 238 67 = h 238 67 := (u27 238 67 rfl)
          have e39 : h27 238 69 = h 238 69 := (u27 238 69 rfl)
          have e40 : h27 238 5 = h 238 5 := (u27 238 5 rfl)
          exact k h27 0 g27 F28 (by omega) (fun _ => by omega) (show (h27 238 98) + (h27 238 99) + (h27 238 100) + (h27 238 101) + (h27 238 102) + (h27 238 106) = (h27 238 73) by omega) (show (h27 238 73) ≤ (h27 238 2) by omega) (show (h27 238 119) ≤ (h27 238 67) by omega) (show (h27 238 69) ≤ (h27 238 5) by omega) (show (h27 238 2) ≤ 12 * (h27 238 5) by omega)
      ·
        refine wi_aload_n (i := 0) (x := 236) (nx := 17) (r1 := 0) (r2 := 0) (r3 := 0) rfl rfl ?_
        refine wi_iload_n (i := 1) (e := a0) (nx := 18) (r1 := 0) (r2 := 0) (r3 := 0) rfl rfl ?_
        rcases (show a0 = 0 ∨ a0 = 1 ∨ a0 = 2 ∨ a0 = 3 by omega) with q22 | q22 | q22 | q22
        ·
          rw [q22]
          refine wr_V (k0 := 236) (rest := []) (as := [.ref 236, vi 0]) (nx := 21) (r1 := 277) (r2 := 1) (r3 := 11) rfl rfl rfl (of_decide_eq_true rfl) rfl rfl (by decide) rfl rfl (of_decide_eq_true rfl) (of_decide_eq_true rfl) ?_
          refine wi_aload_n (i := 0) (x := 236) (nx := 1) (r1 := 0) (r2 := 0) (r3 := 0) rfl rfl ?_
          refine wr_gr (k0 := 236) (x := 238) (nx := 4) (r1 := 11) (r2 := 13) (r3 := 0) rfl rfl (by decide) rfl ⟨rfl, rfl⟩ rfl ?_
          refine wi_bipush (n := 98) (nx := 6) (r1 := 0) (r2 := 0) (r3 := 0) rfl (by decide) ?_
          refine wi_iload_n (i := 1) (e := 0) (nx := 7) (r1 := 0) (r2 := 0) (r3 := 0) rfl rfl ?_
          refine wr_addL (98) (nx := 8) (r1 := 0) (r2 := 0) (r3 := 0) rfl (by decide) ?_
          refine wr_ia (k0 := 238) (a := 98) (f := 98) (x := h 238 98) (nx := 9) (r1 := 0) (r2 := 0) (r3 := 0) rfl (by decide) rfl (by omega) (by omega) (by decide) rfl ?_
          refine wi_aload_n (i := 0) (x := 236) (nx := 10) (r1 := 0) (r2 := 0) (r3 := 0) rfl rfl ?_
          refine wr_gr (k0 := 236) (x := 238) (nx := 13) (r1 := 11) (r2 := 13) (r3 := 0) rfl rfl (by decide) rfl ⟨rfl, rfl⟩ rfl ?_
          refine wi_bipush (n := 15) (nx := 15) (r1 := 0) (r2 := 0) (r3 := 0) rfl (by decide) ?_
          refine wi_iload_n (i := 1) (e := 0) (nx := 16) (r1 := 0) (r2 := 0) (r3 := 0) rfl rfl ?_
          refine wr_addL (15) (nx := 17) (r1 := 0) (r2 := 0) (r3 := 0) rfl (by decide) ?_
          have b23 := gi_b (lo := 0) (hi := 6) g 238 15 rfl
          refine wr_ia (k0 := 238) (a := 15) (f := 15) (x := h 238 15) (nx := 18) (r1 := 0) (r2 := 0) (r3 := 0) rfl (by decide) rfl (by omega) (by omega) (by decide) rfl ?_
          refine wi_icmp (cd := .ge) (nx := 21) (r1 := 25) (r2 := 0) (r3 := 0) rfl (by omega) (by omega) (fun (q24 : (h 238 15) ≤ (h 238 98)) => ?_) (fun (q24 : ¬ ((h 238 15) ≤ (h 238 98))) => ?_)
          ·
            refine wi_iconst (n := 0) (nx := 26) (r1 := 0) (r2 := 0) (r3 := 0) rfl ?_
            refine wi_zreturn (nx := 27) (r1 := 0) (r2 := 0) (r3 := 0) rfl rfl (by omega) ?_
            refine wk_i ?_
            refine wi_if (cd := .eq) (nx := 24) (r1 := 28) (r2 := 0) (r3 := 0) rfl (by omega) (fun (q25 : 0 = 0) => ?_) (fun (q25 : ¬ (0 = 0)) => by exfalso; omega)
            refine wi_iconst (n := 0) (nx := 29) (r1 := 0) (r2 := 0) (r3 := 0) rfl ?_
            refine wi_zreturn (nx := 30) (r1 := 0) (r2 := 0) (r3 := 0) rfl rfl (by omega) ?_
            refine wk_i ?_
            refine wi_if (cd := .eq) (nx := 20) (r1 := 58) (r2 := 0) (r3 := 0) rfl (by omega) (fun (q26 : 0 = 0) => ?_) (fun (q26 : ¬ (0 = 0)) => by exfalso; omega)
            refine wi_iconst (n := 0) (nx := 59) (r1 := 0) (r2 := 0) (r3 := 0) rfl ?_
            refine wi_istore_n (i := 3) (e := 0) (lo2 := [(3, vi 0), (0, .ref 236), (1, vi 0), (2, vi 0)]) (nx := 60) (r1 := 0) (r2 := 0) (r3 := 0) rfl rfl ?_
            refine wi_iload_n (i := 3) (e := 0) (nx := 61) (r1 := 0) (r2 := 0) (r3 := 0) rfl rfl ?_
            refine wi_if (cd := .eq) (nx := 64) (r1 := 98) (r2 := 0) (r3 := 0) rfl (by omega) (fun (q27 : 0 = 0) => ?_) (fun (q27 : ¬ (0 = 0)) => by exfalso; omega)
            refine wi_aload_n (i := 0) (x := 236) (nx := 99) (r1 := 0) (r2 := 0) (r3 := 0) rfl rfl ?_
            refine wi_aload_n (i := 0) (x := 236) (nx := 100) (r1 := 0) (r2 := 0) (r3 := 0) rfl rfl ?_
            have b28 := gi_b (lo := 0) (hi := 1) g 236 45 rfl
            refine wr_gi2 (k0 := 236) (x := h 236 45) (nx := 103) (r1 := 11) (r2 := 45) (r3 := 0) rfl rfl (by decide) rfl ⟨rfl, rfl⟩ rfl rfl ?_
            refine wi_if (cd := .ne) (nx := 106) (r1 := 110) (r2 := 0) (r3 := 0) rfl (by omega) (fun (q29 : (h 236 45) ≠ 0) => ?_) (fun (q29 : ¬ ((h 236 45) ≠ 0)) => ?_)
            ·
              refine wi_iconst (n := 1) (nx := 111) (r1 := 0) (r2 := 0) (r3 := 0) rfl ?_
              refine wi_goto (nx := 114) (r1 := 115) (r2 := 0) (r3 := 0) rfl ?_
              refine wr_pf2 (k0 := 236) (x := 1) (bl := 0) (bh := 1) (nx := 118) (r1 := 11) (r2 := 45) (r3 := 2) rfl (by decide) rfl ⟨rfl, rfl⟩ rfl (by omega) rfl g rfl (by omega) (fun h30 g30 w30 u30 => ?_)
              have F31 := F0.then rfl u30
              refine wi_iload_n (i := 3) (e := 0) (nx := 119) (r1 := 0) (r2 := 0) (r3 := 0) rfl rfl ?_
              refine wi_zreturn (nx := 120) (r1 := 0) (r2 := 0) (r3 := 0) rfl rfl (by omega) ?_
              have e32 : h30 238 98 = h 238 98 := (u30 238 98 rfl)
              have e33 : h30 238 99 = h 238 99 := (u30 238 99 rfl)
              have e34 : h30 238 100 = h 238 100 := (u30 238 100 rfl)
              have e35 : h30 238 101 = h 238 101 := (u30 238 101 rfl)
              have e36 : h30 238 102 = h 238 102 := (u30 238 102 rfl)
              have e37 : h30 238 106 = h 238 106 := (u30 238 106 rfl)
              have e38 : h30 238 73 = h 238 73 := (u30 238 73 rfl)
              have e39 : h30 238 2 = h 238 2 := (u30 238 2 rfl)
              have e40 : h30 238 119 = h 238 119 := (u30 238 119 rfl)
              have e41 : h30 238 67 = h 238 67 := (u30 238 67 rfl)
              have e42 : h30 238 69 = h 238 69 := (u30 238 69 rfl)
              have e43 : h30 238 5 = h 238 5 := (u30 238 5 rfl)
              exact k h30 0 g30 F31 (by omega) (fun _ => by omega) (show (h30 238 98) + (h30 238 99) + (h30 238 100) + (h30 238 101) + (h30 238 102) + (h30 238 106) = (h30 238 73) by omega) (show (h30 238 73) ≤ (h30 238 2) by omega) (show (h30 238 119) ≤ (h30 238 67) by omega) (show (h30 238 69) ≤ (h30 238 5) by omega) (show (h30 238 2) ≤ 12 * (h30 238 5) by omega)
            ·
              refine wi_iload_n (i := 3) (e := 0) (nx := 107) (r1 := 0) (r2 := 0) (r3 := 0) rfl rfl ?_
              refine wi_if (cd := .eq) (nx := 110) (r1 := 114) (r2 := 0) (r3 := 0) rfl (by omega) (fun (q30 : 0 = 0) => ?_) (fun (q30 : ¬ (0 = 0)) => by exfalso; omega)
              refine wi_iconst (n := 0) (nx := 115) (r1 := 0) (r2 := 0) (r3 := 0) rfl ?_
              refine wr_pf2 (k0 := 236) (x := 0) (bl := 0) (bh := 1) (nx := 118) (r1 := 11) (r2 := 45) (r3 := 2) rfl (by decide) rfl ⟨rfl, rfl⟩ rfl (by omega) rfl g rfl (by omega) (fun h31 g31 w31 u31 => ?_)
              have F32 := F0.then rfl u31
              refine wi_iload_n (i := 3) (e := 0) (nx := 119) (r1 := 0) (r2 := 0) (r3 := 0) rfl rfl ?_
              refine wi_zreturn (nx := 120) (r1 := 0) (r2 := 0) (r3 := 0) rfl rfl (by omega) ?_
              have e33 : h31 238 98 = h 238 98 := (u31 238 98 rfl)
              have e34 : h31 238 99 = h 238 99 := (u31 238 99 rfl)
              have e35 : h31 238 100 = h 238 100 := (u31 238 100 rfl)
              have e36 : h31 238 101 = h 238 101 := (u31 238 101 rfl)
              have e37 : h31 238 102 = h 238 102 := (u31 238 102 rfl)
              have e38 : h31 238 106 = h 238 106 := (u31 238 106 rfl)
              have e39 : h31 238 73 = h 238 73 := (u31 238 73 rfl)
              have e40 : h31 238 2 = h 238 2 := (u31 238 2 rfl)
              have e41 : h31 238 119 = h 238 119 := (u31 238 119 rfl)
              have e42 : h31 238 67 = h 238 67 := (u31 238 67 rfl)
              have e43 : h31 238 69 = h 238 69 := (u31 238 69 rfl)
              have e44 : h31 238 5 = h 238 5 := (u31 238 5 rfl)
              exact k h31 0 g31 F32 (by omega) (fun _ => by omega) (show (h31 238 98) + (h31 238 99) + (h31 238 100) + (h31 238 101) + (h31 238 102) + (h31 238 106) = (h31 238 73) by omega) (show (h31 238 73) ≤ (h31 238 2) by omega) (show (h31 238 119) ≤ (h31 238 67) by omega) (show (h31 238 69) ≤ (h31 238 5) by omega) (show (h31 238 2) ≤ 12 * (h31 238 5) by omega)
          ·
            refine wi_iconst (n := 1) (nx := 22) (r1 := 0) (r2 := 0) (r3 := 0) rfl ?_
            refine wi_goto (nx := 25) (r1 := 26) (r2 := 0) (r3 := 0) rfl ?_
            refine wi_zreturn (nx := 27) (r1 := 0) (r2 := 0) (r3 := 0) rfl rfl (by omega) ?_
            refine wk_i ?_
            refine wi_if (cd := .eq) (nx := 24) (r1 := 28) (r2 := 0) (r3 := 0) rfl (by omega) (fun (q25 : 1 = 0) => by exfalso; omega) (fun (q25 : ¬ (1 = 0)) => ?_)
            refine wi_iconst (n := 1) (nx := 25) (r1 := 0) (r2 := 0) (r3 := 0) rfl ?_
            refine wi_goto (nx := 28) (r1 := 29) (r2 := 0) (r3 := 0) rfl ?_
            refine wi_zreturn (nx := 30) (r1 := 0) (r2 := 0) (r3 := 0) rfl rfl (by omega) ?_
            refine wk_i ?_
            refine wi_if (cd := .eq) (nx := 20) (r1 := 58) (r2 := 0) (r3 := 0) rfl (by omega) (fun (q26 : 1 = 0) => by exfalso; omega) (fun (q26 : ¬ (1 = 0)) => ?_)
            refine wi_goto (nx := 23) (r1 := 54) (r2 := 0) (r3 := 0) rfl ?_
            refine wi_iconst (n := 1) (nx := 55) (r1 := 0) (r2 := 0) (r3 := 0) rfl ?_
            refine wi_goto (nx := 58) (r1 := 59) (r2 := 0) (r3 := 0) rfl ?_
            refine wi_istore_n (i := 3) (e := 1) (lo2 := [(3, vi 1), (0, .ref 236), (1, vi 0), (2, vi 0)]) (nx := 60) (r1 := 0) (r2 := 0) (r3 := 0) rfl rfl ?_
            refine wi_iload_n (i := 3) (e := 1) (nx := 61) (r1 := 0) (r2 := 0) (r3 := 0) rfl rfl ?_
            refine wi_if (cd := .eq) (nx := 64) (r1 := 98) (r2 := 0) (r3 := 0) rfl (by omega) (fun (q27 : 1 = 0) => by exfalso; omega) (fun (q27 : ¬ (1 = 0)) => ?_)
            refine wi_aload_n (i := 0) (x := 236) (nx := 65) (r1 := 0) (r2 := 0) (r3 := 0) rfl rfl ?_
            refine wi_iload_n (i := 1) (e := 0) (nx := 66) (r1 := 0) (r2 := 0) (r3 := 0) rfl rfl ?_
            refine wi_if (cd := .ne) (nx := 69) (r1 := 77) (r2 := 0) (r3 := 0) rfl (by omega) (fun (q28 : 0 ≠ 0) => by exfalso; omega) (fun (q28 : ¬ (0 ≠ 0)) => ?_)
            refine wi_aload_n (i := 0) (x := 236) (nx := 70) (r1 := 0) (r2 := 0) (r3 := 0) rfl rfl ?_
            refine wi_iload_n (i := 2) (e := 0) (nx := 71) (r1 := 0) (r2 := 0) (r3 := 0) rfl rfl ?_
            refine wr_V (k0 := 236) (rest := [.ref 236]) (as := [.ref 236, vi 0]) (nx := 74) (r1 := 279) (r2 := 1) (r3 := 11) rfl rfl rfl (of_decide_eq_true rfl) rfl rfl (by decide) rfl rfl (of_decide_eq_true rfl) (of_decide_eq_true rfl) ?_
            refine wi_aload_n (i := 0) (x := 236) (nx := 1) (r1 := 0) (r2 := 0) (r3 := 0) rfl rfl ?_
            refine wr_gr (k0 := 236) (x := 238) (nx := 4) (r1 := 11) (r2 := 13) (r3 := 0) rfl rfl (by decide) rfl ⟨rfl, rfl⟩ rfl ?_
            refine wi_bipush (n := 73) (nx := 6) (r1 := 0) (r2 := 0) (r3 := 0) rfl (by decide) ?_
            refine wr_ia (k0 := 238) (a := 73) (f := 73) (x := h 238 73) (nx := 7) (r1 := 0) (r2 := 0) (r3 := 0) rfl (by decide) rfl (by omega) (by omega) (by decide) rfl ?_
            refine wi_istore_n (i := 2) (e := h 238 73) (lo2 := [(2, vi (h 238 73)), (0, .ref 236), (1, vi 0)]) (nx := 8) (r1 := 0) (r2 := 0) (r3 := 0) rfl rfl ?_
            refine wi_aload_n (i := 0) (x := 236) (nx := 9) (r1 := 0) (r2 := 0) (r3 := 0) rfl rfl ?_
            refine wi_iload_n (i := 1) (e := 0) (nx := 10) (r1 := 0) (r2 := 0) (r3 := 0) rfl rfl ?_
            refine wi_iload_n (i := 2) (e := h 238 73) (nx := 11) (r1 := 0) (r2 := 0) (r3 := 0) rfl rfl ?_
            refine wr_V (k0 := 236) (rest := []) (as := [.ref 236, vi 0, vi (h 238 73)]) (nx := 14) (r1 := 280) (r2 := 2) (r3 := 11) rfl rfl rfl (of_decide_eq_true rfl) rfl rfl (by decide) rfl rfl (of_decide_eq_true rfl) (of_decide_eq_true rfl) ?_
            refine wi_aload_n (i := 0) (x := 236) (nx := 1) (r1 := 0) (r2 := 0) (r3 := 0) rfl rfl ?_
            refine wr_gr (k0 := 236) (x := 238) (nx := 4) (r1 := 11) (r2 := 13) (r3 := 0) rfl rfl (by decide) rfl ⟨rfl, rfl⟩ rfl ?_
            refine wi_bipush (n := 74) (nx := 6) (r1 := 0) (r2 := 0) (r3 := 0) rfl (by decide) ?_
            refine wi_bipush (n := 6) (nx := 8) (r1 := 0) (r2 := 0) (r3 := 0) rfl (by decide) ?_
            refine wi_iload_n (i := 1) (e := 0) (nx := 9) (r1 := 0) (r2 := 0) (r3 := 0) rfl rfl ?_
            refine wr_mulL (0) (nx := 10) (r1 := 0) (r2 := 0) (r3 := 0) rfl (by decide) ?_
            refine wr_addL (74) (nx := 11) (r1 := 0) (r2 := 0) (r3 := 0) rfl (by decide) ?_
            refine wi_aload_n (i := 0) (x := 236) (nx := 12) (r1 := 0) (r2 := 0) (r3 := 0) rfl rfl ?_
            refine wr_gr (k0 := 236) (x := 238) (nx := 15) (r1 := 11) (r2 := 13) (r3 := 0) rfl rfl (by decide) rfl ⟨rfl, rfl⟩ rfl ?_
            refine wi_bipush (n := 98) (nx := 17) (r1 := 0) (r2 := 0) (r3 := 0) rfl (by decide) ?_
            refine wi_iload_n (i := 1) (e := 0) (nx := 18) (r1 := 0) (r2 := 0) (r3 := 0) rfl rfl ?_
            refine wr_addL (98) (nx := 19) (r1 := 0) (r2 := 0) (r3 := 0) rfl (by decide) ?_
            refine wr_ia (k0 := 238) (a := 98) (f := 98) (x := h 238 98) (nx := 20) (r1 := 0) (r2 := 0) (r3 := 0) rfl (by decide) rfl (by omega) (by omega) (by decide) rfl ?_
            refine wr_add (nx := 21) (r1 := 0) (r2 := 0) (r3 := 0) rfl (fun e29 (fe29 : e29 = 74 + (h 238 98)) => ?_)
            refine wi_iload_n (i := 2) (e := h 238 73) (nx := 22) (r1 := 0) (r2 := 0) (r3 := 0) rfl rfl ?_
            obtain ⟨i30, ei30⟩ : ∃ q : Nat, e29 = (q : Int) := ⟨(e29).toNat, by omega⟩
            refine wr_is (k0 := 238) (a := e29) (f := i30) (x := h 238 73) (bl := 0) (bh := 11) (nx := 23) (r1 := 0) (r2 := 0) (r3 := 0) rfl (by decide) rfl (by omega) (by omega) (by decide) g (gi_rg 74 6 (fun _ => rfl) (by decide +kernel) (by omega)) (by omega) (fun h31 g31 w31 u31 => ?_)
            have F32 := F0.then rfl (FR.idx (p := 74) (q := 79) u31 (by omega))
            refine wi_aload_n (i := 0) (x := 236) (nx := 24) (r1 := 0) (r2 := 0) (r3 := 0) rfl rfl ?_
            refine wr_gr (k0 := 236) (x := 238) (nx := 27) (r1 := 11) (r2 := 13) (r3 := 0) rfl rfl (by decide) rfl ⟨rfl, rfl⟩ rfl ?_
            refine wi_bipush (n := 98) (nx := 29) (r1 := 0) (r2 := 0) (r3 := 0) rfl (by decide) ?_
            refine wi_iload_n (i := 1) (e := 0) (nx := 30) (r1 := 0) (r2 := 0) (r3 := 0) rfl rfl ?_
            refine wr_addL (98) (nx := 31) (r1 := 0) (r2 := 0) (r3 := 0) rfl (by decide) ?_
            refine wi_dup2 (nx := 32) (r1 := 0) (r2 := 0) (r3 := 0) rfl rfl rfl ?_
            refine wr_ia (k0 := 238) (a := 98) (f := 98) (x := h 238 98) (nx := 33) (r1 := 0) (r2 := 0) (r3 := 0) rfl (by decide) rfl (by omega) (by omega) (by decide) (u31 238 98 (fn_i (by omega) fn_0)) ?_
            refine wi_iconst (n := 1) (nx := 34) (r1 := 0) (r2 := 0) (r3 := 0) rfl ?_
            refine wr_add (nx := 35) (r1 := 0) (r2 := 0) (r3 := 0) rfl (fun e33 (fe33 : e33 = (h 238 98) + 1) => ?_)
            refine wr_is (k0 := 238) (a := 98) (f := 98) (x := e33) (bl := 0) (bh := 6) (nx := 36) (r1 := 0) (r2 := 0) (r3 := 0) rfl (by decide) rfl (by omega) (by omega) (by decide) g31 rfl (by omega) (fun h34 g34 w34 u34 => ?_)
            have F35 := F32.then rfl u34
            refine wi_return (nx := 37) (r1 := 0) (r2 := 0) (r3 := 0) rfl rfl ?_
            refine wk_n ?_
            refine wi_aload_n (i := 0) (x := 236) (nx := 15) (r1 := 0) (r2 := 0) (r3 := 0) rfl rfl ?_
            refine wr_gr (k0 := 236) (x := 238) (nx := 18) (r1 := 11) (r2 := 13) (r3 := 0) rfl rfl (by decide) rfl ⟨rfl, rfl⟩ rfl ?_
            refine wi_bipush (n := 73) (nx := 20) (r1 := 0) (r2 := 0) (r3 := 0) rfl (by decide) ?_
            refine wi_dup2 (nx := 21) (r1 := 0) (r2 := 0) (r3 := 0) rfl rfl rfl ?_
            refine wr_ia (k0 := 238) (a := 73) (f := 73) (x := h 238 73) (nx := 22) (r1 := 0) (r2 := 0) (r3 := 0) rfl (by decide) rfl (by omega) (by omega) (by decide) ((u34 238 73 rfl).trans (u31 238 73 (fn_i (by omega) fn_0))) ?_
            refine wi_iconst (n := 1) (nx := 23) (r1 := 0) (r2 := 0) (r3 := 0) rfl ?_
            refine wr_add (nx := 24) (r1 := 0) (r2 := 0) (r3 := 0) rfl (fun e36 (fe36 : e36 = (h 238 73) + 1) => ?_)
            refine wr_is (k0 := 238) (a := 73) (f := 73) (x := e36) (bl := 0) (bh := 12) (nx := 25) (r1 := 0) (r2 := 0) (r3 := 0) rfl (by decide) rfl (by omega) (by omega) (by decide) g34 rfl (by omega) (fun h37 g37 w37 u37 => ?_)
            have F38 := F35.then rfl u37
            refine wi_iload_n (i := 2) (e := h 238 73) (nx := 26) (r1 := 0) (r2 := 0) (r3 := 0) rfl rfl ?_
            refine wi_ireturn (nx := 27) (r1 := 0) (r2 := 0) (r3 := 0) rfl rfl ?_
            refine wk_i ?_
            refine wi_goto (nx := 77) (r1 := 95) (r2 := 0) (r3 := 0) rfl ?_
            refine wr_pf0 (k0 := 236) (x := h 238 73) (bl := -2147483648) (bh := 2147483647) (nx := 98) (r1 := 11) (r2 := 28) (r3 := 0) rfl (by decide) rfl ⟨rfl, rfl⟩ rfl rfl g37 rfl (by omega) (fun h39 g39 w39 u39 => ?_)
            have F40 := F38.then rfl u39
            refine wi_aload_n (i := 0) (x := 236) (nx := 99) (r1 := 0) (r2 := 0) (r3 := 0) rfl rfl ?_
            refine wi_aload_n (i := 0) (x := 236) (nx := 100) (r1 := 0) (r2 := 0) (r3 := 0) rfl rfl ?_
            have b41 := gi_b (lo := 0) (hi := 1) g 236 45 rfl
            refine wr_gi2 (k0 := 236) (x := h 236 45) (nx := 103) (r1 := 11) (r2 := 45) (r3 := 0) rfl rfl (by decide) rfl ⟨rfl, rfl⟩ rfl ((u39 236 45 rfl).trans ((u37 236 45 rfl).trans ((u34 236 45 rfl).trans (u31 236 45 (fn_a (by omega) fn_0))))) ?_
            refine wi_if (cd := .ne) (nx := 106) (r1 := 110) (r2 := 0) (r3 := 0) rfl (by omega) (fun (q42 : (h 236 45) ≠ 0) => ?_) (fun (q42 : ¬ ((h 236 45) ≠ 0)) => ?_)
            ·
              refine wi_iconst (n := 1) (nx := 111) (r1 := 0) (r2 := 0) (r3 := 0) rfl ?_
              refine wi_goto (nx := 114) (r1 := 115) (r2 := 0) (r3 := 0) rfl ?_
              refine wr_pf2 (k0 := 236) (x := 1) (bl := 0) (bh := 1) (nx := 118) (r1 := 11) (r2 := 45) (r3 := 2) rfl (by decide) rfl ⟨rfl, rfl⟩ rfl (by omega) rfl g39 rfl (by omega) (fun h43 g43 w43 u43 => ?_)
              have F44 := F40.then rfl u43
              refine wi_iload_n (i := 3) (e := 1) (nx := 119) (r1 := 0) (r2 := 0) (r3 := 0) rfl rfl ?_
              refine wi_zreturn (nx := 120) (r1 := 0) (r2 := 0) (r3 := 0) rfl rfl (by omega) ?_
              have e45 : h43 238 98 = e33 := ((u43 238 98 rfl).trans ((u39 238 98 rfl).trans ((u37 238 98 rfl).trans w34)))
              have e46 : h43 238 99 = h 238 99 := ((u43 238 99 rfl).trans ((u39 238 99 rfl).trans ((u37 238 99 rfl).trans ((u34 238 99 rfl).trans (u31 238 99 (fn_i (by omega) fn_0))))))
              have e47 : h43 238 100 = h 238 100 := ((u43 238 100 rfl).trans ((u39 238 100 rfl).trans ((u37 238 100 rfl).trans ((u34 238 100 rfl).trans (u31 238 100 (fn_i (by omega) fn_0))))))
              have e48 : h43 238 101 = h 238 101 := ((u43 238 101 rfl).trans ((u39 238 101 rfl).trans ((u37 238 101 rfl).trans ((u34 238 101 rfl).trans (u31 238 101 (fn_i (by omega) fn_0))))))
              have e49 : h43 238 102 = h 238 102 := ((u43 238 102 rfl).trans ((u39 238 102 rfl).trans ((u37 238 102 rfl).trans ((u34 238 102 rfl).trans (u31 238 102 (fn_i (by omega) fn_0))))))
              have e50 : h43 238 106 = h 238 106 := ((u43 238 106 rfl).trans ((u39 238 106 rfl).trans ((u37 238 106 rfl).trans ((u34 238 106 rfl).trans (u31 238 106 (fn_i (by omega) fn_0))))))
              have e51 : h43 238 73 = e36 := ((u43 238 73 rfl).trans ((u39 238 73 rfl).trans w37))
              have e52 : h43 238 2 = h 238 2 := ((u43 238 2 rfl).trans ((u39 238 2 rfl).trans ((u37 238 2 rfl).trans ((u34 238 2 rfl).trans (u31 238 2 (fn_i (by omega) fn_0))))))
              have e53 : h43 238 119 = h 238 119 := ((u43 238 119 rfl).trans ((u39 238 119 rfl).trans ((u37 238 119 rfl).trans ((u34 238 119 rfl).trans (u31 238 119 (fn_i (by omega) fn_0))))))
              have e54 : h43 238 67 = h 238 67 := ((u43 238 67 rfl).trans ((u39 238 67 rfl).trans ((u37 238 67 rfl).trans ((u34 238 67 rfl).trans (u31 238 67 (fn_i (by omega) fn_0))))))
              have e55 : h43 238 69 = h 238 69 := ((u43 238 69 rfl).trans ((u39 238 69 rfl).trans ((u37 238 69 rfl).trans ((u34 238 69 rfl).trans (u31 238 69 (fn_i (by omega) fn_0))))))
              have e56 : h43 238 5 = h 238 5 := ((u43 238 5 rfl).trans ((u39 238 5 rfl).trans ((u37 238 5 rfl).trans ((u34 238 5 rfl).trans (u31 238 5 (fn_i (by omega) fn_0))))))
              exact k h43 1 g43 F44 (by omega) (fun _ => by omega) (show (h43 238 98) + (h43 238 99) + (h43 238 100) + (h43 238 101) + (h43 238 102) + (h43 238 106) = (h43 238 73) by omega) (show (h43 238 73) ≤ (h43 238 2) by omega) (show (h43 238 119) ≤ (h43 238 67) by omega) (show (h43 238 69) ≤ (h43 238 5) by omega) (show (h43 238 2) ≤ 12 * (h43 238 5) by omega)
            ·
              refine wi_iload_n (i := 3) (e := 1) (nx := 107) (r1 := 0) (r2 := 0) (r3 := 0) rfl rfl ?_
              refine wi_if (cd := .eq) (nx := 110) (r1 := 114) (r2 := 0) (r3 := 0) rfl (by omega) (fun (q43 : 1 = 0) => by exfalso; omega) (fun (q43 : ¬ (1 = 0)) => ?_)
              refine wi_iconst (n := 1) (nx := 111) (r1 := 0) (r2 := 0) (r3 := 0) rfl ?_
              refine wi_goto (nx := 114) (r1 := 115) (r2 := 0) (r3 := 0) rfl ?_
              refine wr_pf2 (k0 := 236) (x := 1) (bl := 0) (bh := 1) (nx := 118) (r1 := 11) (r2 := 45) (r3 := 2) rfl (by decide) rfl ⟨rfl, rfl⟩ rfl (by omega) rfl g39 rfl (by omega) (fun h44 g44 w44 u44 => ?_)
              have F45 := F40.then rfl u44
              refine wi_iload_n (i := 3) (e := 1) (nx := 119) (r1 := 0) (r2 := 0) (r3 := 0) rfl rfl ?_
              refine wi_zreturn (nx := 120) (r1 := 0) (r2 := 0) (r3 := 0) rfl rfl (by omega) ?_
              have e46 : h44 238 98 = e33 := ((u44 238 98 rfl).trans ((u39 238 98 rfl).trans ((u37 238 98 rfl).trans w34)))
              have e47 : h44 238 99 = h 238 99 := ((u44 238 99 rfl).trans ((u39 238 99 rfl).trans ((u37 238 99 rfl).trans ((u34 238 99 rfl).trans (u31 238 99 (fn_i (by omega) fn_0))))))
              have e48 : h44 238 100 = h 238 100 := ((u44 238 100 rfl).trans ((u39 238 100 rfl).trans ((u37 238 100 rfl).trans ((u34 238 100 rfl).trans (u31 238 100 (fn_i (by omega) fn_0))))))
              have e49 : h44 238 101 = h 238 101 := ((u44 238 101 rfl).trans ((u39 238 101 rfl).trans ((u37 238 101 rfl).trans ((u34 238 101 rfl).trans (u31 238 101 (fn_i (by omega) fn_0))))))
              have e50 : h44 238 102 = h 238 102 := ((u44 238 102 rfl).trans ((u39 238 102 rfl).trans ((u37 238 102 rfl).trans ((u34 238 102 rfl).trans (u31 238 102 (fn_i (by omega) fn_0))))))
              have e51 : h44 238 106 = h 238 106 := ((u44 238 106 rfl).trans ((u39 238 106 rfl).trans ((u37 238 106 rfl).trans ((u34 238 106 rfl).trans (u31 238 106 (fn_i (by omega) fn_0))))))
              have e52 : h44 238 73 = e36 := ((u44 238 73 rfl).trans ((u39 238 73 rfl).trans w37))
              have e53 : h44 238 2 = h 238 2 := ((u44 238 2 rfl).trans ((u39 238 2 rfl).trans ((u37 238 2 rfl).trans ((u34 238 2 rfl).trans (u31 238 2 (fn_i (by omega) fn_0))))))
              have e54 : h44 238 119 = h 238 119 := ((u44 238 119 rfl).trans ((u39 238 119 rfl).trans ((u37 238 119 rfl).trans ((u34 238 119 rfl).trans (u31 238 119 (fn_i (by omega) fn_0))))))
              have e55 : h44 238 67 = h 238 67 := ((u44 238 67 rfl).trans ((u39 238 67 rfl).trans ((u37 238 67 rfl).trans ((u34 238 67 rfl).trans (u31 238 67 (fn_i (by omega) fn_0))))))
              have e56 : h44 238 69 = h 238 69 := ((u44 238 69 rfl).trans ((u39 238 69 rfl).trans ((u37 238 69 rfl).trans ((u34 238 69 rfl).trans (u31 238 69 (fn_i (by omega) fn_0))))))
              have e57 : h44 238 5 = h 238 5 := ((u44 238 5 rfl).trans ((u39 238 5 rfl).trans ((u37 238 5 rfl).trans ((u34 238 5 rfl).trans (u31 238 5 (fn_i (by omega) fn_0))))))
              exact k h44 1 g44 F45 (by omega) (fun _ => by omega) (show (h44 238 98) + (h44 238 99) + (h44 238 100) + (h44 238 101) + (h44 238 102) + (h44 238 106) = (h44 238 73) by omega) (show (h44 238 73) ≤ (h44 238 2) by omega) (show (h44 238 119) ≤ (h44 238 67) by omega) (show (h44 238 69) ≤ (h44 238 5) by omega) (show (h44 238 2) ≤ 12 * (h44 238 5) by omega)
        ·
          rw [q22]
          refine wr_V (k0 := 236) (rest := []) (as := [.ref 236, vi 1]) (nx := 21) (r1 := 277) (r2 := 1) (r3 := 11) rfl rfl rfl (of_decide_eq_true rfl) rfl rfl (by decide) rfl rfl (of_decide_eq_true rfl) (of_decide_eq_true rfl) ?_
          refine wi_aload_n (i := 0) (x := 236) (nx := 1) (r1 := 0) (r2 := 0) (r3 := 0) rfl rfl ?_
          refine wr_gr (k0 := 236) (x := 238) (nx := 4) (r1 := 11) (r2 := 13) (r3 := 0) rfl rfl (by decide) rfl ⟨rfl, rfl⟩ rfl ?_
          refine wi_bipush (n := 98) (nx := 6) (r1 := 0) (r2 := 0) (r3 := 0) rfl (by decide) ?_
          refine wi_iload_n (i := 1) (e := 1) (nx := 7) (r1 := 0) (r2 := 0) (r3 := 0) rfl rfl ?_
          refine wr_addL (99) (nx := 8) (r1 := 0) (r2 := 0) (r3 := 0) rfl (by decide) ?_
          refine wr_ia (k0 := 238) (a := 99) (f := 99) (x := h 238 99) (nx := 9) (r1 := 0) (r2 := 0) (r3 := 0) rfl (by decide) rfl (by omega) (by omega) (by decide) rfl ?_
          refine wi_aload_n (i := 0) (x := 236) (nx := 10) (r1 := 0) (r2 := 0) (r3 := 0) rfl rfl ?_
          refine wr_gr (k0 := 236) (x := 238) (nx := 13) (r1 := 11) (r2 := 13) (r3 := 0) rfl rfl (by decide) rfl ⟨rfl, rfl⟩ rfl ?_
          refine wi_bipush (n := 15) (nx := 15) (r1 := 0) (r2 := 0) (r3 := 0) rfl (by decide) ?_
          refine wi_iload_n (i := 1) (e := 1) (nx := 16) (r1 := 0) (r2 := 0) (r3 := 0) rfl rfl ?_
          refine wr_addL (16) (nx := 17) (r1 := 0) (r2 := 0) (r3 := 0) rfl (by decide) ?_
          have b23 := gi_b (lo := 0) (hi := 6) g 238 16 rfl
          refine wr_ia (k0 := 238) (a := 16) (f := 16) (x := h 238 16) (nx := 18) (r1 := 0) (r2 := 0) (r3 := 0) rfl (by decide) rfl (by omega) (by omega) (by decide) rfl ?_
          refine wi_icmp (cd := .ge) (nx := 21) (r1 := 25) (r2 := 0) (r3 := 0) rfl (by omega) (by omega) (fun (q24 : (h 238 16) ≤ (h 238 99)) => ?_) (fun (q24 : ¬ ((h 238 16) ≤ (h 238 99))) => ?_)
          ·
            refine wi_iconst (n := 0) (nx := 26) (r1 := 0) (r2 := 0) (r3 := 0) rfl ?_
            refine wi_zreturn (nx := 27) (r1 := 0) (r2 := 0) (r3 := 0) rfl rfl (by omega) ?_
            refine wk_i ?_
            refine wi_if (cd := .eq) (nx := 24) (r1 := 28) (r2 := 0) (r3 := 0) rfl (by omega) (fun (q25 : 0 = 0) => ?_) (fun (q25 : ¬ (0 = 0)) => by exfalso; omega)
            refine wi_iconst (n := 0) (nx := 29) (r1 := 0) (r2 := 0) (r3 := 0) rfl ?_
            refine wi_zreturn (nx := 30) (r1 := 0) (r2 := 0) (r3 := 0) rfl rfl (by omega) ?_
            refine wk_i ?_
            refine wi_if (cd := .eq) (nx := 20) (r1 := 58) (r2 := 0) (r3 := 0) rfl (by omega) (fun (q26 : 0 = 0) => ?_) (fun (q26 : ¬ (0 = 0)) => by exfalso; omega)
            refine wi_iconst (n := 0) (nx := 59) (r1 := 0) (r2 := 0) (r3 := 0) rfl ?_
            refine wi_istore_n (i := 3) (e := 0) (lo2 := [(3, vi 0), (0, .ref 236), (1, vi 0), (2, vi 1)]) (nx := 60) (r1 := 0) (r2 := 0) (r3 := 0) rfl rfl ?_
            refine wi_iload_n (i := 3) (e := 0) (nx := 61) (r1 := 0) (r2 := 0) (r3 := 0) rfl rfl ?_
            refine wi_if (cd := .eq) (nx := 64) (r1 := 98) (r2 := 0) (r3 := 0) rfl (by omega) (fun (q27 : 0 = 0) => ?_) (fun (q27 : ¬ (0 = 0)) => by exfalso; omega)
            refine wi_aload_n (i := 0) (x := 236) (nx := 99) (r1 := 0) (r2 := 0) (r3 := 0) rfl rfl ?_
            refine wi_aload_n (i := 0) (x := 236) (nx := 100) (r1 := 0) (r2 := 0) (r3 := 0) rfl rfl ?_
            have b28 := gi_b (lo := 0) (hi := 1) g 236 45 rfl
            refine wr_gi2 (k0 := 236) (x := h 236 45) (nx := 103) (r1 := 11) (r2 := 45) (r3 := 0) rfl rfl (by decide) rfl ⟨rfl, rfl⟩ rfl rfl ?_
            refine wi_if (cd := .ne) (nx := 106) (r1 := 110) (r2 := 0) (r3 := 0) rfl (by omega) (fun (q29 : (h 236 45) ≠ 0) => ?_) (fun (q29 : ¬ ((h 236 45) ≠ 0)) => ?_)
            ·
              refine wi_iconst (n := 1) (nx := 111) (r1 := 0) (r2 := 0) (r3 := 0) rfl ?_
              refine wi_goto (nx := 114) (r1 := 115) (r2 := 0) (r3 := 0) rfl ?_
              refine wr_pf2 (k0 := 236) (x := 1) (bl := 0) (bh := 1) (nx := 118) (r1 := 11) (r2 := 45) (r3 := 2) rfl (by decide) rfl ⟨rfl, rfl⟩ rfl (by omega) rfl g rfl (by omega) (fun h30 g30 w30 u30 => ?_)
              have F31 := F0.then rfl u30
              refine wi_iload_n (i := 3) (e := 0) (nx := 119) (r1 := 0) (r2 := 0) (r3 := 0) rfl rfl ?_
              refine wi_zreturn (nx := 120) (r1 := 0) (r2 := 0) (r3 := 0) rfl rfl (by omega) ?_
              have e32 : h30 238 98 = h 238 98 := (u30 238 98 rfl)
              have e33 : h30 238 99 = h 238 99 := (u30 238 99 rfl)
              have e34 : h30 238 100 = h 238 100 := (u30 238 100 rfl)
              have e35 : h30 238 101 = h 238 101 := (u30 238 101 rfl)
              have e36 : h30 238 102 = h 238 102 := (u30 238 102 rfl)
              have e37 : h30 238 106 = h 238 106 := (u30 238 106 rfl)
              have e38 : h30 238 73 = h 238 73 := (u30 238 73 rfl)
              have e39 : h30 238 2 = h 238 2 := (u30 238 2 rfl)
              have e40 : h30 238 119 = h 238 119 := (u30 238 119 rfl)
              have e41 : h30 238 67 = h 238 67 := (u30 238 67 rfl)
              have e42 : h30 238 69 = h 238 69 := (u30 238 69 rfl)
              have e43 : h30 238 5 = h 238 5 := (u30 238 5 rfl)
              exact k h30 0 g30 F31 (by omega) (fun _ => by omega) (show (h30 238 98) + (h30 238 99) + (h30 238 100) + (h30 238 101) + (h30 238 102) + (h30 238 106) = (h30 238 73) by omega) (show (h30 238 73) ≤ (h30 238 2) by omega) (show (h30 238 119) ≤ (h30 238 67) by omega) (show (h30 238 69) ≤ (h30 238 5) by omega) (show (h30 238 2) ≤ 12 * (h30 238 5) by omega)
            ·
              refine wi_iload_n (i := 3) (e := 0) (nx := 107) (r1 := 0) (r2 := 0) (r3 := 0) rfl rfl ?_
              refine wi_if (cd := .eq) (nx := 110) (r1 := 114) (r2 := 0) (r3 := 0) rfl (by omega) (fun (q30 : 0 = 0) => ?_) (fun (q30 : ¬ (0 = 0)) => by exfalso; omega)
              refine wi_iconst (n := 0) (nx := 115) (r1 := 0) (r2 := 0) (r3 := 0) rfl ?_
              refine wr_pf2 (k0 := 236) (x := 0) (bl := 0) (bh := 1) (nx := 118) (r1 := 11) (r2 := 45) (r3 := 2) rfl (by decide) rfl ⟨rfl, rfl⟩ rfl (by omega) rfl g rfl (by omega) (fun h31 g31 w31 u31 => ?_)
              have F32 := F0.then rfl u31
              refine wi_iload_n (i := 3) (e := 0) (nx := 119) (r1 := 0) (r2 := 0) (r3 := 0) rfl rfl ?_
              refine wi_zreturn (nx := 120) (r1 := 0) (r2 := 0) (r3 := 0) rfl rfl (by omega) ?_
              have e33 : h31 238 98 = h 238 98 := (u31 238 98 rfl)
              have e34 : h31 238 99 = h 238 99 := (u31 238 99 rfl)
              have e35 : h31 238 100 = h 238 100 := (u31 238 100 rfl)
              have e36 : h31 238 101 = h 238 101 := (u31 238 101 rfl)
              have e37 : h31 238 102 = h 238 102 := (u31 238 102 rfl)
              have e38 : h31 238 106 = h 238 106 := (u31 238 106 rfl)
              have e39 : h31 238 73 = h 238 73 := (u31 238 73 rfl)
              have e40 : h31 238 2 = h 238 2 := (u31 238 2 rfl)
              have e41 : h31 238 119 = h 238 119 := (u31 238 119 rfl)
              have e42 : h31 238 67 = h 238 67 := (u31 238 67 rfl)
              have e43 : h31 238 69 = h 238 69 := (u31 238 69 rfl)
              have e44 : h31 238 5 = h 238 5 := (u31 238 5 rfl)
              exact k h31 0 g31 F32 (by omega) (fun _ => by omega) (show (h31 238 98) + (h31 238 99) + (h31 238 100) + (h31 238 101) + (h31 238 102) + (h31 238 106) = (h31 238 73) by omega) (show (h31 238 73) ≤ (h31 238 2) by omega) (show (h31 238 119) ≤ (h31 238 67) by omega) (show (h31 238 69) ≤ (h31 238 5) by omega) (show (h31 238 2) ≤ 12 * (h31 238 5) by omega)
          ·
            refine wi_iconst (n := 1) (nx := 22) (r1 := 0) (r2 := 0) (r3 := 0) rfl ?_
            refine wi_goto (nx := 25) (r1 := 26) (r2 := 0) (r3 := 0) rfl ?_
            refine wi_zreturn (nx := 27) (r1 := 0) (r2 := 0) (r3 := 0) rfl rfl (by omega) ?_
            refine wk_i ?_
            refine wi_if (cd := .eq) (nx := 24) (r1 := 28) (r2 := 0) (r3 := 0) rfl (by omega) (fun (q25 : 1 = 0) => by exfalso; omega) (fun (q25 : ¬ (1 = 0)) => ?_)
            refine wi_iconst (n := 1) (nx := 25) (r1 := 0) (r2 := 0) (r3 := 0) rfl ?_
            refine wi_goto (nx := 28) (r1 := 29) (r2 := 0) (r3 := 0) rfl ?_
            refine wi_zreturn (nx := 30) (r1 := 0) (r2 := 0) (r3 := 0) rfl rfl (by omega) ?_
            refine wk_i ?_
            refine wi_if (cd := .eq) (nx := 20) (r1 := 58) (r2 := 0) (r3 := 0) rfl (by omega) (fun (q26 : 1 = 0) => by exfalso; omega) (fun (q26 : ¬ (1 = 0)) => ?_)
            refine wi_goto (nx := 23) (r1 := 54) (r2 := 0) (r3 := 0) rfl ?_
            refine wi_iconst (n := 1) (nx := 55) (r1 := 0) (r2 := 0) (r3 := 0) rfl ?_
            refine wi_goto (nx := 58) (r1 := 59) (r2 := 0) (r3 := 0) rfl ?_
            refine wi_istore_n (i := 3) (e := 1) (lo2 := [(3, vi 1), (0, .ref 236), (1, vi 0), (2, vi 1)]) (nx := 60) (r1 := 0) (r2 := 0) (r3 := 0) rfl rfl ?_
            refine wi_iload_n (i := 3) (e := 1) (nx := 61) (r1 := 0) (r2 := 0) (r3 := 0) rfl rfl ?_
            refine wi_if (cd := .eq) (nx := 64) (r1 := 98) (r2 := 0) (r3 := 0) rfl (by omega) (fun (q27 : 1 = 0) => by exfalso; omega) (fun (q27 : ¬ (1 = 0)) => ?_)
            refine wi_aload_n (i := 0) (x := 236) (nx := 65) (r1 := 0) (r2 := 0) (r3 := 0) rfl rfl ?_
            refine wi_iload_n (i := 1) (e := 0) (nx := 66) (r1 := 0) (r2 := 0) (r3 := 0) rfl rfl ?_
            refine wi_if (cd := .ne) (nx := 69) (r1 := 77) (r2 := 0) (r3 := 0) rfl (by omega) (fun (q28 : 0 ≠ 0) => by exfalso; omega) (fun (q28 : ¬ (0 ≠ 0)) => ?_)
            refine wi_aload_n (i := 0) (x := 236) (nx := 70) (r1 := 0) (r2 := 0) (r3 := 0) rfl rfl ?_
            refine wi_iload_n (i := 2) (e := 1) (nx := 71) (r1 := 0) (r2 := 0) (r3 := 0) rfl rfl ?_
            refine wr_V (k0 := 236) (rest := [.ref 236]) (as := [.ref 236, vi 1]) (nx := 74) (r1 := 279) (r2 := 1) (r3 := 11) rfl rfl rfl (of_decide_eq_true rfl) rfl rfl (by decide) rfl rfl (of_decide_eq_true rfl) (of_decide_eq_true rfl) ?_
            refine wi_aload_n (i := 0) (x := 236) (nx := 1) (r1 := 0) (r2 := 0) (r3 := 0) rfl rfl ?_
            refine wr_gr (k0 := 236) (x := 238) (nx := 4) (r1 := 11) (r2 := 13) (r3 := 0) rfl rfl (by decide) rfl ⟨rfl, rfl⟩ rfl ?_
            refine wi_bipush (n := 73) (nx := 6) (r1 := 0) (r2 := 0) (r3 := 0) rfl (by decide) ?_
            refine wr_ia (k0 := 238) (a := 73) (f := 73) (x := h 238 73) (nx := 7) (r1 := 0) (r2 := 0) (r3 := 0) rfl (by decide) rfl (by omega) (by omega) (by decide) rfl ?_
            refine wi_istore_n (i := 2) (e := h 238 73) (lo2 := [(2, vi (h 238 73)), (0, .ref 236), (1, vi 1)]) (nx := 8) (r1 := 0) (r2 := 0) (r3 := 0) rfl rfl ?_
            refine wi_aload_n (i := 0) (x := 236) (nx := 9) (r1 := 0) (r2 := 0) (r3 := 0) rfl rfl ?_
            refine wi_iload_n (i := 1) (e := 1) (nx := 10) (r1 := 0) (r2 := 0) (r3 := 0) rfl rfl ?_
            refine wi_iload_n (i := 2) (e := h 238 73) (nx := 11) (r1 := 0) (r2 := 0) (r3 := 0) rfl rfl ?_
            refine wr_V (k0 := 236) (rest := []) (as := [.ref 236, vi 1, vi (h 238 73)]) (nx := 14) (r1 := 280) (r2 := 2) (r3 := 11) rfl rfl rfl (of_decide_eq_true rfl) rfl rfl (by decide) rfl rfl (of_decide_eq_true rfl) (of_decide_eq_true rfl) ?_
            refine wi_aload_n (i := 0) (x := 236) (nx := 1) (r1 := 0) (r2 := 0) (r3 := 0) rfl rfl ?_
            refine wr_gr (k0 := 236) (x := 238) (nx := 4) (r1 := 11) (r2 := 13) (r3 := 0) rfl rfl (by decide) rfl ⟨rfl, rfl⟩ rfl ?_
            refine wi_bipush (n := 74) (nx := 6) (r1 := 0) (r2 := 0) (r3 := 0) rfl (by decide) ?_
            refine wi_bipush (n := 6) (nx := 8) (r1 := 0) (r2 := 0) (r3 := 0) rfl (by decide) ?_
            refine wi_iload_n (i := 1) (e := 1) (nx := 9) (r1 := 0) (r2 := 0) (r3 := 0) rfl rfl ?_
            refine wr_mulL (6) (nx := 10) (r1 := 0) (r2 := 0) (r3 := 0) rfl (by decide) ?_
            refine wr_addL (80) (nx := 11) (r1 := 0) (r2 := 0) (r3 := 0) rfl (by decide) ?_
            refine wi_aload_n (i := 0) (x := 236) (nx := 12) (r1 := 0) (r2 := 0) (r3 := 0) rfl rfl ?_
            refine wr_gr (k0 := 236) (x := 238) (nx := 15) (r1 := 11) (r2 := 13) (r3 := 0) rfl rfl (by decide) rfl ⟨rfl, rfl⟩ rfl ?_
            refine wi_bipush (n := 98) (nx := 17) (r1 := 0) (r2 := 0) (r3 := 0) rfl (by decide) ?_
            refine wi_iload_n (i := 1) (e := 1) (nx := 18) (r1 := 0) (r2 := 0) (r3 := 0) rfl rfl ?_
            refine wr_addL (99) (nx := 19) (r1 := 0) (r2 := 0) (r3 := 0) rfl (by decide) ?_
            refine wr_ia (k0 := 238) (a := 99) (f := 99) (x := h 238 99) (nx := 20) (r1 := 0) (r2 := 0) (r3 := 0) rfl (by decide) rfl (by omega) (by omega) (by decide) rfl ?_
            refine wr_add (nx := 21) (r1 := 0) (r2 := 0) (r3 := 0) rfl (fun e29 (fe29 : e29 = 80 + (h 238 99)) => ?_)
            refine wi_iload_n (i := 2) (e := h 238 73) (nx := 22) (r1 := 0) (r2 := 0) (r3 := 0) rfl rfl ?_
            obtain ⟨i30, ei30⟩ : ∃ q : Nat, e29 = (q : Int) := ⟨(e29).toNat, by omega⟩
            refine wr_is (k0 := 238) (a := e29) (f := i30) (x := h 238 73) (bl := 0) (bh := 11) (nx := 23) (r1 := 0) (r2 := 0) (r3 := 0) rfl (by decide) rfl (by omega) (by omega) (by decide) g (gi_rg 80 6 (fun _ => rfl) (by decide +kernel) (by omega)) (by omega) (fun h31 g31 w31 u31 => ?_)
            have F32 := F0.then rfl (FR.idx (p := 80) (q := 85) u31 (by omega))
            refine wi_aload_n (i := 0) (x := 236) (nx := 24) (r1 := 0) (r2 := 0) (r3 := 0) rfl rfl ?_
            refine wr_gr (k0 := 236) (x := 238) (nx := 27) (r1 := 11) (r2 := 13) (r3 := 0) rfl rfl (by decide) rfl ⟨rfl, rfl⟩ rfl ?_
            refine wi_bipush (n := 98) (nx := 29) (r1 := 0) (r2 := 0) (r3 := 0) rfl (by decide) ?_
            refine wi_iload_n (i := 1) (e := 1) (nx := 30) (r1 := 0) (r2 := 0) (r3 := 0) rfl rfl ?_
            refine wr_addL (99) (nx := 31) (r1 := 0) (r2 := 0) (r3 := 0) rfl (by decide) ?_
            refine wi_dup2 (nx := 32) (r1 := 0) (r2 := 0) (r3 := 0) rfl rfl rfl ?_
            refine wr_ia (k0 := 238) (a := 99) (f := 99) (x := h 238 99) (nx := 33) (r1 := 0) (r2 := 0) (r3 := 0) rfl (by decide) rfl (by omega) (by omega) (by decide) (u31 238 99 (fn_i (by omega) fn_0)) ?_
            refine wi_iconst (n := 1) (nx := 34) (r1 := 0) (r2 := 0) (r3 := 0) rfl ?_
            refine wr_add (nx := 35) (r1 := 0) (r2 := 0) (r3 := 0) rfl (fun e33 (fe33 : e33 = (h 238 99) + 1) => ?_)
            refine wr_is (k0 := 238) (a := 99) (f := 99) (x := e33) (bl := 0) (bh := 6) (nx := 36) (r1 := 0) (r2 := 0) (r3 := 0) rfl (by decide) rfl (by omega) (by omega) (by decide) g31 rfl (by omega) (fun h34 g34 w34 u34 => ?_)
            have F35 := F32.then rfl u34
            refine wi_return (nx := 37) (r1 := 0) (r2 := 0) (r3 := 0) rfl rfl ?_
            refine wk_n ?_
            refine wi_aload_n (i := 0) (x := 236) (nx := 15) (r1 := 0) (r2 := 0) (r3 := 0) rfl rfl ?_
            refine wr_gr (k0 := 236) (x := 238) (nx := 18) (r1 := 11) (r2 := 13) (r3 := 0) rfl rfl (by decide) rfl ⟨rfl, rfl⟩ rfl ?_
            refine wi_bipush (n := 73) (nx := 20) (r1 := 0) (r2 := 0) (r3 := 0) rfl (by decide) ?_
            refine wi_dup2 (nx := 21) (r1 := 0) (r2 := 0) (r3 := 0) rfl rfl rfl ?_
            refine wr_ia (k0 := 238) (a := 73) (f := 73) (x := h 238 73) (nx := 22) (r1 := 0) (r2 := 0) (r3 := 0) rfl (by decide) rfl (by omega) (by omega) (by decide) ((u34 238 73 rfl).trans (u31 238 73 (fn_i (by omega) fn_0))) ?_
            refine wi_iconst (n := 1) (nx := 23) (r1 := 0) (r2 := 0) (r3 := 0) rfl ?_
            refine wr_add (nx := 24) (r1 := 0) (r2 := 0) (r3 := 0) rfl (fun e36 (fe36 : e36 = (h 238 73) + 1) => ?_)
            refine wr_is (k0 := 238) (a := 73) (f := 73) (x := e36) (bl := 0) (bh := 12) (nx := 25) (r1 := 0) (r2 := 0) (r3 := 0) rfl (by decide) rfl (by omega) (by omega) (by decide) g34 rfl (by omega) (fun h37 g37 w37 u37 => ?_)
            have F38 := F35.then rfl u37
            refine wi_iload_n (i := 2) (e := h 238 73) (nx := 26) (r1 := 0) (r2 := 0) (r3 := 0) rfl rfl ?_
            refine wi_ireturn (nx := 27) (r1 := 0) (r2 := 0) (r3 := 0) rfl rfl ?_
            refine wk_i ?_
            refine wi_goto (nx := 77) (r1 := 95) (r2 := 0) (r3 := 0) rfl ?_
            refine wr_pf0 (k0 := 236) (x := h 238 73) (bl := -2147483648) (bh := 2147483647) (nx := 98) (r1 := 11) (r2 := 28) (r3 := 0) rfl (by decide) rfl ⟨rfl, rfl⟩ rfl rfl g37 rfl (by omega) (fun h39 g39 w39 u39 => ?_)
            have F40 := F38.then rfl u39
            refine wi_aload_n (i := 0) (x := 236) (nx := 99) (r1 := 0) (r2 := 0) (r3 := 0) rfl rfl ?_
            refine wi_aload_n (i := 0) (x := 236) (nx := 100) (r1 := 0) (r2 := 0) (r3 := 0) rfl rfl ?_
            have b41 := gi_b (lo := 0) (hi := 1) g 236 45 rfl
            refine wr_gi2 (k0 := 236) (x := h 236 45) (nx := 103) (r1 := 11) (r2 := 45) (r3 := 0) rfl rfl (by decide) rfl ⟨rfl, rfl⟩ rfl ((u39 236 45 rfl).trans ((u37 236 45 rfl).trans ((u34 236 45 rfl).trans (u31 236 45 (fn_a (by omega) fn_0))))) ?_
            refine wi_if (cd := .ne) (nx := 106) (r1 := 110) (r2 := 0) (r3 := 0) rfl (by omega) (fun (q42 : (h 236 45) ≠ 0) => ?_) (fun (q42 : ¬ ((h 236 45) ≠ 0)) => ?_)
            ·
              refine wi_iconst (n := 1) (nx := 111) (r1 := 0) (r2 := 0) (r3 := 0) rfl ?_
              refine wi_goto (nx := 114) (r1 := 115) (r2 := 0) (r3 := 0) rfl ?_
              refine wr_pf2 (k0 := 236) (x := 1) (bl := 0) (bh := 1) (nx := 118) (r1 := 11) (r2 := 45) (r3 := 2) rfl (by decide) rfl ⟨rfl, rfl⟩ rfl (by omega) rfl g39 rfl (by omega) (fun h43 g43 w43 u43 => ?_)
              have F44 := F40.then rfl u43
              refine wi_iload_n (i := 3) (e := 1) (nx := 119) (r1 := 0) (r2 := 0) (r3 := 0) rfl rfl ?_
              refine wi_zreturn (nx := 120) (r1 := 0) (r2 := 0) (r3 := 0) rfl rfl (by omega) ?_
              have e45 : h43 238 98 = h 238 98 := ((u43 238 98 rfl).trans ((u39 238 98 rfl).trans ((u37 238 98 rfl).trans ((u34 238 98 rfl).trans (u31 238 98 (fn_i (by omega) fn_0))))))
              have e46 : h43 238 99 = e33 := ((u43 238 99 rfl).trans ((u39 238 99 rfl).trans ((u37 238 99 rfl).trans w34)))
              have e47 : h43 238 100 = h 238 100 := ((u43 238 100 rfl).trans ((u39 238 100 rfl).trans ((u37 238 100 rfl).trans ((u34 238 100 rfl).trans (u31 238 100 (fn_i (by omega) fn_0))))))
              have e48 : h43 238 101 = h 238 101 := ((u43 238 101 rfl).trans ((u39 238 101 rfl).trans ((u37 238 101 rfl).trans ((u34 238 101 rfl).trans (u31 238 101 (fn_i (by omega) fn_0))))))
              have e49 : h43 238 102 = h 238 102 := ((u43 238 102 rfl).trans ((u39 238 102 rfl).trans ((u37 238 102 rfl).trans ((u34 238 102 rfl).trans (u31 238 102 (fn_i (by omega) fn_0))))))
              have e50 : h43 238 106 = h 238 106 := ((u43 238 106 rfl).trans ((u39 238 106 rfl).trans ((u37 238 106 rfl).trans ((u34 238 106 rfl).trans (u31 238 106 (fn_i (by omega) fn_0))))))
              have e51 : h43 238 73 = e36 := ((u43 238 73 rfl).trans ((u39 238 73 rfl).trans w37))
              have e52 : h43 238 2 = h 238 2 := ((u43 238 2 rfl).trans ((u39 238 2 rfl).trans ((u37 238 2 rfl).trans ((u34 238 2 rfl).trans (u31 238 2 (fn_i (by omega) fn_0))))))
              have e53 : h43 238 119 = h 238 119 := ((u43 238 119 rfl).trans ((u39 238 119 rfl).trans ((u37 238 119 rfl).trans ((u34 238 119 rfl).trans (u31 238 119 (fn_i (by omega) fn_0))))))
              have e54 : h43 238 67 = h 238 67 := ((u43 238 67 rfl).trans ((u39 238 67 rfl).trans ((u37 238 67 rfl).trans ((u34 238 67 rfl).trans (u31 238 67 (fn_i (by omega) fn_0))))))
              have e55 : h43 238 69 = h 238 69 := ((u43 238 69 rfl).trans ((u39 238 69 rfl).trans ((u37 238 69 rfl).trans ((u34 238 69 rfl).trans (u31 238 69 (fn_i (by omega) fn_0))))))
              have e56 : h43 238 5 = h 238 5 := ((u43 238 5 rfl).trans ((u39 238 5 rfl).trans ((u37 238 5 rfl).trans ((u34 238 5 rfl).trans (u31 238 5 (fn_i (by omega) fn_0))))))
              exact k h43 1 g43 F44 (by omega) (fun _ => by omega) (show (h43 238 98) + (h43 238 99) + (h43 238 100) + (h43 238 101) + (h43 238 102) + (h43 238 106) = (h43 238 73) by omega) (show (h43 238 73) ≤ (h43 238 2) by omega) (show (h43 238 119) ≤ (h43 238 67) by omega) (show (h43 238 69) ≤ (h43 238 5) by omega) (show (h43 238 2) ≤ 12 * (h43 238 5) by omega)
            ·
              refine wi_iload_n (i := 3) (e := 1) (nx := 107) (r1 := 0) (r2 := 0) (r3 := 0) rfl rfl ?_
              refine wi_if (cd := .eq) (nx := 110) (r1 := 114) (r2 := 0) (r3 := 0) rfl (by omega) (fun (q43 : 1 = 0) => by exfalso; omega) (fun (q43 : ¬ (1 = 0)) => ?_)
              refine wi_iconst (n := 1) (nx := 111) (r1 := 0) (r2 := 0) (r3 := 0) rfl ?_
              refine wi_goto (nx := 114) (r1 := 115) (r2 := 0) (r3 := 0) rfl ?_
              refine wr_pf2 (k0 := 236) (x := 1) (bl := 0) (bh := 1) (nx := 118) (r1 := 11) (r2 := 45) (r3 := 2) rfl (by decide) rfl ⟨rfl, rfl⟩ rfl (by omega) rfl g39 rfl (by omega) (fun h44 g44 w44 u44 => ?_)
              have F45 := F40.then rfl u44
              refine wi_iload_n (i := 3) (e := 1) (nx := 119) (r1 := 0) (r2 := 0) (r3 := 0) rfl rfl ?_
              refine wi_zreturn (nx := 120) (r1 := 0) (r2 := 0) (r3 := 0) rfl rfl (by omega) ?_
              have e46 : h44 238 98 = h 238 98 := ((u44 238 98 rfl).trans ((u39 238 98 rfl).trans ((u37 238 98 rfl).trans ((u34 238 98 rfl).trans (u31 238 98 (fn_i (by omega) fn_0))))))
              have e47 : h44 238 99 = e33 := ((u44 238 99 rfl).trans ((u39 238 99 rfl).trans ((u37 238 99 rfl).trans w34)))
              have e48 : h44 238 100 = h 238 100 := ((u44 238 100 rfl).trans ((u39 238 100 rfl).trans ((u37 238 100 rfl).trans ((u34 238 100 rfl).trans (u31 238 100 (fn_i (by omega) fn_0))))))
              have e49 : h44 238 101 = h 238 101 := ((u44 238 101 rfl).trans ((u39 238 101 rfl).trans ((u37 238 101 rfl).trans ((u34 238 101 rfl).trans (u31 238 101 (fn_i (by omega) fn_0))))))
              have e50 : h44 238 102 = h 238 102 := ((u44 238 102 rfl).trans ((u39 238 102 rfl).trans ((u37 238 102 rfl).trans ((u34 238 102 rfl).trans (u31 238 102 (fn_i (by omega) fn_0))))))
              have e51 : h44 238 106 = h 238 106 := ((u44 238 106 rfl).trans ((u39 238 106 rfl).trans ((u37 238 106 rfl).trans ((u34 238 106 rfl).trans (u31 238 106 (fn_i (by omega) fn_0))))))
              have e52 : h44 238 73 = e36 := ((u44 238 73 rfl).trans ((u39 238 73 rfl).trans w37))
              have e53 : h44 238 2 = h 238 2 := ((u44 238 2 rfl).trans ((u39 238 2 rfl).trans ((u37 238 2 rfl).trans ((u34 238 2 rfl).trans (u31 238 2 (fn_i (by omega) fn_0))))))
              have e54 : h44 238 119 = h 238 119 := ((u44 238 119 rfl).trans ((u39 238 119 rfl).trans ((u37 238 119 rfl).trans ((u34 238 119 rfl).trans (u31 238 119 (fn_i (by omega) fn_0))))))
              have e55 : h44 238 67 = h 238 67 := ((u44 238 67 rfl).trans ((u39 238 67 rfl).trans ((u37 238 67 rfl).trans ((u34 238 67 rfl).trans (u31 238 67 (fn_i (by omega) fn_0))))))
              have e56 : h44 238 69 = h 238 69 := ((u44 238 69 rfl).trans ((u39 238 69 rfl).trans ((u37 238 69 rfl).trans ((u34 238 69 rfl).trans (u31 238 69 (fn_i (by omega) fn_0))))))
              have e57 : h44 238 5 = h 238 5 := ((u44 238 5 rfl).trans ((u39 238 5 rfl).trans ((u37 238 5 rfl).trans ((u34 238 5 rfl).trans (u31 238 5 (fn_i (by omega) fn_0))))))
              exact k h44 1 g44 F45 (by omega) (fun _ => by omega) (show (h44 238 98) + (h44 238 99) + (h44 238 100) + (h44 238 101) + (h44 238 102) + (h44 238 106) = (h44 238 73) by omega) (show (h44 238 73) ≤ (h44 238 2) by omega) (show (h44 238 119) ≤ (h44 238 67) by omega) (show (h44 238 69) ≤ (h44 238 5) by omega) (show (h44 238 2) ≤ 12 * (h44 238 5) by omega)
        ·
          rw [q22]
          refine wr_V (k0 := 236) (rest := []) (as := [.ref 236, vi 2]) (nx := 21) (r1 := 277) (r2 := 1) (r3 := 11) rfl rfl rfl (of_decide_eq_true rfl) rfl rfl (by decide) rfl rfl (of_decide_eq_true rfl) (of_decide_eq_true rfl) ?_
          refine wi_aload_n (i := 0) (x := 236) (nx := 1) (r1 := 0) (r2 := 0) (r3 := 0) rfl rfl ?_
          refine wr_gr (k0 := 236) (x := 238) (nx := 4) (r1 := 11) (r2 := 13) (r3 := 0) rfl rfl (by decide) rfl ⟨rfl, rfl⟩ rfl ?_
          refine wi_bipush (n := 98) (nx := 6) (r1 := 0) (r2 := 0) (r3 := 0) rfl (by decide) ?_
          refine wi_iload_n (i := 1) (e := 2) (nx := 7) (r1 := 0) (r2 := 0) (r3 := 0) rfl rfl ?_
          refine wr_addL (100) (nx := 8) (r1 := 0) (r2 := 0) (r3 := 0) rfl (by decide) ?_
          refine wr_ia (k0 := 238) (a := 100) (f := 100) (x := h 238 100) (nx := 9) (r1 := 0) (r2 := 0) (r3 := 0) rfl (by decide) rfl (by omega) (by omega) (by decide) rfl ?_
          refine wi_aload_n (i := 0) (x := 236) (nx := 10) (r1 := 0) (r2 := 0) (r3 := 0) rfl rfl ?_
          refine wr_gr (k0 := 236) (x := 238) (nx := 13) (r1 := 11) (r2 := 13) (r3 := 0) rfl rfl (by decide) rfl ⟨rfl, rfl⟩ rfl ?_
          refine wi_bipush (n := 15) (nx := 15) (r1 := 0) (r2 := 0) (r3 := 0) rfl (by decide) ?_
          refine wi_iload_n (i := 1) (e := 2) (nx := 16) (r1 := 0) (r2 := 0) (r3 := 0) rfl rfl ?_
          refine wr_addL (17) (nx := 17) (r1 := 0) (r2 := 0) (r3 := 0) rfl (by decide) ?_
          have b23 := gi_b (lo := 0) (hi := 6) g 238 17 rfl
          refine wr_ia (k0 := 238) (a := 17) (f := 17) (x := h 238 17) (nx := 18) (r1 := 0) (r2 := 0) (r3 := 0) rfl (by decide) rfl (by omega) (by omega) (by decide) rfl ?_
          refine wi_icmp (cd := .ge) (nx := 21) (r1 := 25) (r2 := 0) (r3 := 0) rfl (by omega) (by omega) (fun (q24 : (h 238 17) ≤ (h 238 100)) => ?_) (fun (q24 : ¬ ((h 238 17) ≤ (h 238 100))) => ?_)
          ·
            refine wi_iconst (n := 0) (nx := 26) (r1 := 0) (r2 := 0) (r3 := 0) rfl ?_
            refine wi_zreturn (nx := 27) (r1 := 0) (r2 := 0) (r3 := 0) rfl rfl (by omega) ?_
            refine wk_i ?_
            refine wi_if (cd := .eq) (nx := 24) (r1 := 28) (r2 := 0) (r3 := 0) rfl (by omega) (fun (q25 : 0 = 0) => ?_) (fun (q25 : ¬ (0 = 0)) => by exfalso; omega)
            refine wi_iconst (n := 0) (nx := 29) (r1 := 0) (r2 := 0) (r3 := 0) rfl ?_
            refine wi_zreturn (nx := 30) (r1 := 0) (r2 := 0) (r3 := 0) rfl rfl (by omega) ?_
            refine wk_i ?_
            refine wi_if (cd := .eq) (nx := 20) (r1 := 58) (r2 := 0) (r3 := 0) rfl (by omega) (fun (q26 : 0 = 0) => ?_) (fun (q26 : ¬ (0 = 0)) => by exfalso; omega)
            refine wi_iconst (n := 0) (nx := 59) (r1 := 0) (r2 := 0) (r3 := 0) rfl ?_
            refine wi_istore_n (i := 3) (e := 0) (lo2 := [(3, vi 0), (0, .ref 236), (1, vi 0), (2, vi 2)]) (nx := 60) (r1 := 0) (r2 := 0) (r3 := 0) rfl rfl ?_
            refine wi_iload_n (i := 3) (e := 0) (nx := 61) (r1 := 0) (r2 := 0) (r3 := 0) rfl rfl ?_
            refine wi_if (cd := .eq) (nx := 64) (r1 := 98) (r2 := 0) (r3 := 0) rfl (by omega) (fun (q27 : 0 = 0) => ?_) (fun (q27 : ¬ (0 = 0)) => by exfalso; omega)
            refine wi_aload_n (i := 0) (x := 236) (nx := 99) (r1 := 0) (r2 := 0) (r3 := 0) rfl rfl ?_
            refine wi_aload_n (i := 0) (x := 236) (nx := 100) (r1 := 0) (r2 := 0) (r3 := 0) rfl rfl ?_
            have b28 := gi_b (lo := 0) (hi := 1) g 236 45 rfl
            refine wr_gi2 (k0 := 236) (x := h 236 45) (nx := 103) (r1 := 11) (r2 := 45) (r3 := 0) rfl rfl (by decide) rfl ⟨rfl, rfl⟩ rfl rfl ?_
            refine wi_if (cd := .ne) (nx := 106) (r1 := 110) (r2 := 0) (r3 := 0) rfl (by omega) (fun (q29 : (h 236 45) ≠ 0) => ?_) (fun (q29 : ¬ ((h 236 45) ≠ 0)) => ?_)
            ·
              refine wi_iconst (n := 1) (nx := 111) (r1 := 0) (r2 := 0) (r3 := 0) rfl ?_
              refine wi_goto (nx := 114) (r1 := 115) (r2 := 0) (r3 := 0) rfl ?_
              refine wr_pf2 (k0 := 236) (x := 1) (bl := 0) (bh := 1) (nx := 118) (r1 := 11) (r2 := 45) (r3 := 2) rfl (by decide) rfl ⟨rfl, rfl⟩ rfl (by omega) rfl g rfl (by omega) (fun h30 g30 w30 u30 => ?_)
              have F31 := F0.then rfl u30
              refine wi_iload_n (i := 3) (e := 0) (nx := 119) (r1 := 0) (r2 := 0) (r3 := 0) rfl rfl ?_
              refine wi_zreturn (nx := 120) (r1 := 0) (r2 := 0) (r3 := 0) rfl rfl (by omega) ?_
              have e32 : h30 238 98 = h 238 98 := (u30 238 98 rfl)
              have e33 : h30 238 99 = h 238 99 := (u30 238 99 rfl)
              have e34 : h30 238 100 = h 238 100 := (u30 238 100 rfl)
              have e35 : h30 238 101 = h 238 101 := (u30 238 101 rfl)
              have e36 : h30 238 102 = h 238 102 := (u30 238 102 rfl)
              have e37 : h30 238 106 = h 238 106 := (u30 238 106 rfl)
              have e38 : h30 238 73 = h 238 73 := (u30 238 73 rfl)
              have e39 : h30 238 2 = h 238 2 := (u30 238 2 rfl)
              have e40 : h30 238 119 = h 238 119 := (u30 238 119 rfl)
              have e41 : h30 238 67 = h 238 67 := (u30 238 67 rfl)
              have e42 : h30 238 69 = h 238 69 := (u30 238 69 rfl)
              have e43 : h30 238 5 = h 238 5 := (u30 238 5 rfl)
              exact k h30 0 g30 F31 (by omega) (fun _ => by omega) (show (h30 238 98) + (h30 238 99) + (h30 238 100) + (h30 238 101) + (h30 238 102) + (h30 238 106) = (h30 238 73) by omega) (show (h30 238 73) ≤ (h30 238 2) by omega) (show (h30 238 119) ≤ (h30 238 67) by omega) (show (h30 238 69) ≤ (h30 238 5) by omega) (show (h30 238 2) ≤ 12 * (h30 238 5) by omega)
            ·
              refine wi_iload_n (i := 3) (e := 0) (nx := 107) (r1 := 0) (r2 := 0) (r3 := 0) rfl rfl ?_
              refine wi_if (cd := .eq) (nx := 110) (r1 := 114) (r2 := 0) (r3 := 0) rfl (by omega) (fun (q30 : 0 = 0) => ?_) (fun (q30 : ¬ (0 = 0)) => by exfalso; omega)
              refine wi_iconst (n := 0) (nx := 115) (r1 := 0) (r2 := 0) (r3 := 0) rfl ?_
              refine wr_pf2 (k0 := 236) (x := 0) (bl := 0) (bh := 1) (nx := 118) (r1 := 11) (r2 := 45) (r3 := 2) rfl (by decide) rfl ⟨rfl, rfl⟩ rfl (by omega) rfl g rfl (by omega) (fun h31 g31 w31 u31 => ?_)
              have F32 := F0.then rfl u31
              refine wi_iload_n (i := 3) (e := 0) (nx := 119) (r1 := 0) (r2 := 0) (r3 := 0) rfl rfl ?_
              refine wi_zreturn (nx := 120) (r1 := 0) (r2 := 0) (r3 := 0) rfl rfl (by omega) ?_
              have e33 : h31 238 98 = h 238 98 := (u31 238 98 rfl)
              have e34 : h31 238 99 = h 238 99 := (u31 238 99 rfl)
              have e35 : h31 238 100 = h 238 100 := (u31 238 100 rfl)
              have e36 : h31 238 101 = h 238 101 := (u31 238 101 rfl)
              have e37 : h31 238 102 = h 238 102 := (u31 238 102 rfl)
              have e38 : h31 238 106 = h 238 106 := (u31 238 106 rfl)
              have e39 : h31 238 73 = h 238 73 := (u31 238 73 rfl)
              have e40 : h31 238 2 = h 238 2 := (u31 238 2 rfl)
              have e41 : h31 238 119 = h 238 119 := (u31 238 119 rfl)
              have e42 : h31 238 67 = h 238 67 := (u31 238 67 rfl)
              have e43 : h31 238 69 = h 238 69 := (u31 238 69 rfl)
              have e44 : h31 238 5 = h 238 5 := (u31 238 5 rfl)
              exact k h31 0 g31 F32 (by omega) (fun _ => by omega) (show (h31 238 98) + (h31 238 99) + (h31 238 100) + (h31 238 101) + (h31 238 102) + (h31 238 106) = (h31 238 73) by omega) (show (h31 238 73) ≤ (h31 238 2) by omega) (show (h31 238 119) ≤ (h31 238 67) by omega) (show (h31 238 69) ≤ (h31 238 5) by omega) (show (h31 238 2) ≤ 12 * (h31 238 5) by omega)
          ·
            refine wi_iconst (n := 1) (nx := 22) (r1 := 0) (r2 := 0) (r3 := 0) rfl ?_
            refine wi_goto (nx := 25) (r1 := 26) (r2 := 0) (r3 := 0) rfl ?_
            refine wi_zreturn (nx := 27) (r1 := 0) (r2 := 0) (r3 := 0) rfl rfl (by omega) ?_
            refine wk_i ?_
            refine wi_if (cd := .eq) (nx := 24) (r1 := 28) (r2 := 0) (r3 := 0) rfl (by omega) (fun (q25 : 1 = 0) => by exfalso; omega) (fun (q25 : ¬ (1 = 0)) => ?_)
            refine wi_iconst (n := 1) (nx := 25) (r1 := 0) (r2 := 0) (r3 := 0) rfl ?_
            refine wi_goto (nx := 28) (r1 := 29) (r2 := 0) (r3 := 0) rfl ?_
            refine wi_zreturn (nx := 30) (r1 := 0) (r2 := 0) (r3 := 0) rfl rfl (by omega) ?_
            refine wk_i ?_
            refine wi_if (cd := .eq) (nx := 20) (r1 := 58) (r2 := 0) (r3 := 0) rfl (by omega) (fun (q26 : 1 = 0) => by exfalso; omega) (fun (q26 : ¬ (1 = 0)) => ?_)
            refine wi_goto (nx := 23) (r1 := 54) (r2 := 0) (r3 := 0) rfl ?_
            refine wi_iconst (n := 1) (nx := 55) (r1 := 0) (r2 := 0) (r3 := 0) rfl ?_
            refine wi_goto (nx := 58) (r1 := 59) (r2 := 0) (r3 := 0) rfl ?_
            refine wi_istore_n (i := 3) (e := 1) (lo2 := [(3, vi 1), (0, .ref 236), (1, vi 0), (2, vi 2)]) (nx := 60) (r1 := 0) (r2 := 0) (r3 := 0) rfl rfl ?_
            refine wi_iload_n (i := 3) (e := 1) (nx := 61) (r1 := 0) (r2 := 0) (r3 := 0) rfl rfl ?_
            refine wi_if (cd := .eq) (nx := 64) (r1 := 98) (r2 := 0) (r3 := 0) rfl (by omega) (fun (q27 : 1 = 0) => by exfalso; omega) (fun (q27 : ¬ (1 = 0)) => ?_)
            refine wi_aload_n (i := 0) (x := 236) (nx := 65) (r1 := 0) (r2 := 0) (r3 := 0) rfl rfl ?_
            refine wi_iload_n (i := 1) (e := 0) (nx := 66) (r1 := 0) (r2 := 0) (r3 := 0) rfl rfl ?_
            refine wi_if (cd := .ne) (nx := 69) (r1 := 77) (r2 := 0) (r3 := 0) rfl (by omega) (fun (q28 : 0 ≠ 0) => by exfalso; omega) (fun (q28 : ¬ (0 ≠ 0)) => ?_)
            refine wi_aload_n (i := 0) (x := 236) (nx := 70) (r1 := 0) (r2 := 0) (r3 := 0) rfl rfl ?_
            refine wi_iload_n (i := 2) (e := 2) (nx := 71) (r1 := 0) (r2 := 0) (r3 := 0) rfl rfl ?_
            refine wr_V (k0 := 236) (rest := [.ref 236]) (as := [.ref 236, vi 2]) (nx := 74) (r1 := 279) (r2 := 1) (r3 := 11) rfl rfl rfl (of_decide_eq_true rfl) rfl rfl (by decide) rfl rfl (of_decide_eq_true rfl) (of_decide_eq_true rfl) ?_
            refine wi_aload_n (i := 0) (x := 236) (nx := 1) (r1 := 0) (r2 := 0) (r3 := 0) rfl rfl ?_
            refine wr_gr (k0 := 236) (x := 238) (nx := 4) (r1 := 11) (r2 := 13) (r3 := 0) rfl rfl (by decide) rfl ⟨rfl, rfl⟩ rfl ?_
            refine wi_bipush (n := 73) (nx := 6) (r1 := 0) (r2 := 0) (r3 := 0) rfl (by decide) ?_
            refine wr_ia (k0 := 238) (a := 73) (f := 73) (x := h 238 73) (nx := 7) (r1 := 0) (r2 := 0) (r3 := 0) rfl (by decide) rfl (by omega) (by omega) (by decide) rfl ?_
            refine wi_istore_n (i := 2) (e := h 238 73) (lo2 := [(2, vi (h 238 73)), (0, .ref 236), (1, vi 2)]) (nx := 8) (r1 := 0) (r2 := 0) (r3 := 0) rfl rfl ?_
            refine wi_aload_n (i := 0) (x := 236) (nx := 9) (r1 := 0) (r2 := 0) (r3 := 0) rfl rfl ?_
            refine wi_iload_n (i := 1) (e := 2) (nx := 10) (r1 := 0) (r2 := 0) (r3 := 0) rfl rfl ?_
            refine wi_iload_n (i := 2) (e := h 238 73) (nx := 11) (r1 := 0) (r2 := 0) (r3 := 0) rfl rfl ?_
            refine wr_V (k0 := 236) (rest := []) (as := [.ref 236, vi 2, vi (h 238 73)]) (nx := 14) (r1 := 280) (r2 := 2) (r3 := 11) rfl rfl rfl (of_decide_eq_true rfl) rfl rfl (by decide) rfl rfl (of_decide_eq_true rfl) (of_decide_eq_true rfl) ?_
            refine wi_aload_n (i := 0) (x := 236) (nx := 1) (r1 := 0) (r2 := 0) (r3 := 0) rfl rfl ?_
            refine wr_gr (k0 := 236) (x := 238) (nx := 4) (r1 := 11) (r2 := 13) (r3 := 0) rfl rfl (by decide) rfl ⟨rfl, rfl⟩ rfl ?_
            refine wi_bipush (n := 74) (nx := 6) (r1 := 0) (r2 := 0) (r3 := 0) rfl (by decide) ?_
            refine wi_bipush (n := 6) (nx := 8) (r1 := 0) (r2 := 0) (r3 := 0) rfl (by decide) ?_
            refine wi_iload_n (i := 1) (e := 2) (nx := 9) (r1 := 0) (r2 := 0) (r3 := 0) rfl rfl ?_
            refine wr_mulL (12) (nx := 10) (r1 := 0) (r2 := 0) (r3 := 0) rfl (by decide) ?_
            refine wr_addL (86) (nx := 11) (r1 := 0) (r2 := 0) (r3 := 0) rfl (by decide) ?_
            refine wi_aload_n (i := 0) (x := 236) (nx := 12) (r1 := 0) (r2 := 0) (r3 := 0) rfl rfl ?_
            refine wr_gr (k0 := 236) (x := 238) (nx := 15) (r1 := 11) (r2 := 13) (r3 := 0) rfl rfl (by decide) rfl ⟨rfl, rfl⟩ rfl ?_
            refine wi_bipush (n := 98) (nx := 17) (r1 := 0) (r2 := 0) (r3 := 0) rfl (by decide) ?_
            refine wi_iload_n (i := 1) (e := 2) (nx := 18) (r1 := 0) (r2 := 0) (r3 := 0) rfl rfl ?_
            refine wr_addL (100) (nx := 19) (r1 := 0) (r2 := 0) (r3 := 0) rfl (by decide) ?_
            refine wr_ia (k0 := 238) (a := 100) (f := 100) (x := h 238 100) (nx := 20) (r1 := 0) (r2 := 0) (r3 := 0) rfl (by decide) rfl (by omega) (by omega) (by decide) rfl ?_
            refine wr_add (nx := 21) (r1 := 0) (r2 := 0) (r3 := 0) rfl (fun e29 (fe29 : e29 = 86 + (h 238 100)) => ?_)
            refine wi_iload_n (i := 2) (e := h 238 73) (nx := 22) (r1 := 0) (r2 := 0) (r3 := 0) rfl rfl ?_
            obtain ⟨i30, ei30⟩ : ∃ q : Nat, e29 = (q : Int) := ⟨(e29).toNat, by omega⟩
            refine wr_is (k0 := 238) (a := e29) (f := i30) (x := h 238 73) (bl := 0) (bh := 11) (nx := 23) (r1 := 0) (r2 := 0) (r3 := 0) rfl (by decide) rfl (by omega) (by omega) (by decide) g (gi_rg 86 6 (fun _ => rfl) (by decide +kernel) (by omega)) (by omega) (fun h31 g31 w31 u31 => ?_)
            have F32 := F0.then rfl (FR.idx (p := 86) (q := 91) u31 (by omega))
            refine wi_aload_n (i := 0) (x := 236) (nx := 24) (r1 := 0) (r2 := 0) (r3 := 0) rfl rfl ?_
            refine wr_gr (k0 := 236) (x := 238) (nx := 27) (r1 := 11) (r2 := 13) (r3 := 0) rfl rfl (by decide) rfl ⟨rfl, rfl⟩ rfl ?_
            refine wi_bipush (n := 98) (nx := 29) (r1 := 0) (r2 := 0) (r3 := 0) rfl (by decide) ?_
            refine wi_iload_n (i := 1) (e := 2) (nx := 30) (r1 := 0) (r2 := 0) (r3 := 0) rfl rfl ?_
            refine wr_addL (100) (nx := 31) (r1 := 0) (r2 := 0) (r3 := 0) rfl (by decide) ?_
            refine wi_dup2 (nx := 32) (r1 := 0) (r2 := 0) (r3 := 0) rfl rfl rfl ?_
            refine wr_ia (k0 := 238) (a := 100) (f := 100) (x := h 238 100) (nx := 33) (r1 := 0) (r2 := 0) (r3 := 0) rfl (by decide) rfl (by omega) (by omega) (by decide) (u31 238 100 (fn_i (by omega) fn_0)) ?_
            refine wi_iconst (n := 1) (nx := 34) (r1 := 0) (r2 := 0) (r3 := 0) rfl ?_
            refine wr_add (nx := 35) (r1 := 0) (r2 := 0) (r3 := 0) rfl (fun e33 (fe33 : e33 = (h 238 100) + 1) => ?_)
            refine wr_is (k0 := 238) (a := 100) (f := 100) (x := e33) (bl := 0) (bh := 6) (nx := 36) (r1 := 0) (r2 := 0) (r3 := 0) rfl (by decide) rfl (by omega) (by omega) (by decide) g31 rfl (by omega) (fun h34 g34 w34 u34 => ?_)
            have F35 := F32.then rfl u34
            refine wi_return (nx := 37) (r1 := 0) (r2 := 0) (r3 := 0) rfl rfl ?_
            refine wk_n ?_
            refine wi_aload_n (i := 0) (x := 236) (nx := 15) (r1 := 0) (r2 := 0) (r3 := 0) rfl rfl ?_
            refine wr_gr (k0 := 236) (x := 238) (nx := 18) (r1 := 11) (r2 := 13) (r3 := 0) rfl rfl (by decide) rfl ⟨rfl, rfl⟩ rfl ?_
            refine wi_bipush (n := 73) (nx := 20) (r1 := 0) (r2 := 0) (r3 := 0) rfl (by decide) ?_
            refine wi_dup2 (nx := 21) (r1 := 0) (r2 := 0) (r3 := 0) rfl rfl rfl ?_
            refine wr_ia (k0 := 238) (a := 73) (f := 73) (x := h 238 73) (nx := 22) (r1 := 0) (r2 := 0) (r3 := 0) rfl (by decide) rfl (by omega) (by omega) (by decide) ((u34 238 73 rfl).trans (u31 238 73 (fn_i (by omega) fn_0))) ?_
            refine wi_iconst (n := 1) (nx := 23) (r1 := 0) (r2 := 0) (r3 := 0) rfl ?_
            refine wr_add (nx := 24) (r1 := 0) (r2 := 0) (r3 := 0) rfl (fun e36 (fe36 : e36 = (h 238 73) + 1) => ?_)
            refine wr_is (k0 := 238) (a := 73) (f := 73) (x := e36) (bl := 0) (bh := 12) (nx := 25) (r1 := 0) (r2 := 0) (r3 := 0) rfl (by decide) rfl (by omega) (by omega) (by decide) g34 rfl (by omega) (fun h37 g37 w37 u37 => ?_)
            have F38 := F35.then rfl u37
            refine wi_iload_n (i := 2) (e := h 238 73) (nx := 26) (r1 := 0) (r2 := 0) (r3 := 0) rfl rfl ?_
            refine wi_ireturn (nx := 27) (r1 := 0) (r2 := 0) (r3 := 0) rfl rfl ?_
            refine wk_i ?_
            refine wi_goto (nx := 77) (r1 := 95) (r2 := 0) (r3 := 0) rfl ?_
            refine wr_pf0 (k0 := 236) (x := h 238 73) (bl := -2147483648) (bh := 2147483647) (nx := 98) (r1 := 11) (r2 := 28) (r3 := 0) rfl (by decide) rfl ⟨rfl, rfl⟩ rfl rfl g37 rfl (by omega) (fun h39 g39 w39 u39 => ?_)
            have F40 := F38.then rfl u39
            refine wi_aload_n (i := 0) (x := 236) (nx := 99) (r1 := 0) (r2 := 0) (r3 := 0) rfl rfl ?_
            refine wi_aload_n (i := 0) (x := 236) (nx := 100) (r1 := 0) (r2 := 0) (r3 := 0) rfl rfl ?_
            have b41 := gi_b (lo := 0) (hi := 1) g 236 45 rfl
            refine wr_gi2 (k0 := 236) (x := h 236 45) (nx := 103) (r1 := 11) (r2 := 45) (r3 := 0) rfl rfl (by decide) rfl ⟨rfl, rfl⟩ rfl ((u39 236 45 rfl).trans ((u37 236 45 rfl).trans ((u34 236 45 rfl).trans (u31 236 45 (fn_a (by omega) fn_0))))) ?_
            refine wi_if (cd := .ne) (nx := 106) (r1 := 110) (r2 := 0) (r3 := 0) rfl (by omega) (fun (q42 : (h 236 45) ≠ 0) => ?_) (fun (q42 : ¬ ((h 236 45) ≠ 0)) => ?_)
            ·
              refine wi_iconst (n := 1) (nx := 111) (r1 := 0) (r2 := 0) (r3 := 0) rfl ?_
              refine wi_goto (nx := 114) (r1 := 115) (r2 := 0) (r3 := 0) rfl ?_
              refine wr_pf2 (k0 := 236) (x := 1) (bl := 0) (bh := 1) (nx := 118) (r1 := 11) (r2 := 45) (r3 := 2) rfl (by decide) rfl ⟨rfl, rfl⟩ rfl (by omega) rfl g39 rfl (by omega) (fun h43 g43 w43 u43 => ?_)
              have F44 := F40.then rfl u43
              refine wi_iload_n (i := 3) (e := 1) (nx := 119) (r1 := 0) (r2 := 0) (r3 := 0) rfl rfl ?_
              refine wi_zreturn (nx := 120) (r1 := 0) (r2 := 0) (r3 := 0) rfl rfl (by omega) ?_
              have e45 : h43 238 98 = h 238 98 := ((u43 238 98 rfl).trans ((u39 238 98 rfl).trans ((u37 238 98 rfl).trans ((u34 238 98 rfl).trans (u31 238 98 (fn_i (by omega) fn_0))))))
              have e46 : h43 238 99 = h 238 99 := ((u43 238 99 rfl).trans ((u39 238 99 rfl).trans ((u37 238 99 rfl).trans ((u34 238 99 rfl).trans (u31 238 99 (fn_i (by omega) fn_0))))))
              have e47 : h43 238 100 = e33 := ((u43 238 100 rfl).trans ((u39 238 100 rfl).trans ((u37 238 100 rfl).trans w34)))
              have e48 : h43 238 101 = h 238 101 := ((u43 238 101 rfl).trans ((u39 238 101 rfl).trans ((u37 238 101 rfl).trans ((u34 238 101 rfl).trans (u31 238 101 (fn_i (by omega) fn_0))))))
              have e49 : h43 238 102 = h 238 102 := ((u43 238 102 rfl).trans ((u39 238 102 rfl).trans ((u37 238 102 rfl).trans ((u34 238 102 rfl).trans (u31 238 102 (fn_i (by omega) fn_0))))))
              have e50 : h43 238 106 = h 238 106 := ((u43 238 106 rfl).trans ((u39 238 106 rfl).trans ((u37 238 106 rfl).trans ((u34 238 106 rfl).trans (u31 238 106 (fn_i (by omega) fn_0))))))
              have e51 : h43 238 73 = e36 := ((u43 238 73 rfl).trans ((u39 238 73 rfl).trans w37))
              have e52 : h43 238 2 = h 238 2 := ((u43 238 2 rfl).trans ((u39 238 2 rfl).trans ((u37 238 2 rfl).trans ((u34 238 2 rfl).trans (u31 238 2 (fn_i (by omega) fn_0))))))
              have e53 : h43 238 119 = h 238 119 := ((u43 238 119 rfl).trans ((u39 238 119 rfl).trans ((u37 238 119 rfl).trans ((u34 238 119 rfl).trans (u31 238 119 (fn_i (by omega) fn_0))))))
              have e54 : h43 238 67 = h 238 67 := ((u43 238 67 rfl).trans ((u39 238 67 rfl).trans ((u37 238 67 rfl).trans ((u34 238 67 rfl).trans (u31 238 67 (fn_i (by omega) fn_0))))))
              have e55 : h43 238 69 = h 238 69 := ((u43 238 69 rfl).trans ((u39 238 69 rfl).trans ((u37 238 69 rfl).trans ((u34 238 69 rfl).trans (u31 238 69 (fn_i (by omega) fn_0))))))
              have e56 : h43 238 5 = h 238 5 := ((u43 238 5 rfl).trans ((u39 238 5 rfl).trans ((u37 238 5 rfl).trans ((u34 238 5 rfl).trans (u31 238 5 (fn_i (by omega) fn_0))))))
              exact k h43 1 g43 F44 (by omega) (fun _ => by omega) (show (h43 238 98) + (h43 238 99) + (h43 238 100) + (h43 238 101) + (h43 238 102) + (h43 238 106) = (h43 238 73) by omega) (show (h43 238 73) ≤ (h43 238 2) by omega) (show (h43 238 119) ≤ (h43 238 67) by omega) (show (h43 238 69) ≤ (h43 238 5) by omega) (show (h43 238 2) ≤ 12 * (h43 238 5) by omega)
            ·
              refine wi_iload_n (i := 3) (e := 1) (nx := 107) (r1 := 0) (r2 := 0) (r3 := 0) rfl rfl ?_
              refine wi_if (cd := .eq) (nx := 110) (r1 := 114) (r2 := 0) (r3 := 0) rfl (by omega) (fun (q43 : 1 = 0) => by exfalso; omega) (fun (q43 : ¬ (1 = 0)) => ?_)
              refine wi_iconst (n := 1) (nx := 111) (r1 := 0) (r2 := 0) (r3 := 0) rfl ?_
              refine wi_goto (nx := 114) (r1 := 115) (r2 := 0) (r3 := 0) rfl ?_
              refine wr_pf2 (k0 := 236) (x := 1) (bl := 0) (bh := 1) (nx := 118) (r1 := 11) (r2 := 45) (r3 := 2) rfl (by decide) rfl ⟨rfl, rfl⟩ rfl (by omega) rfl g39 rfl (by omega) (fun h44 g44 w44 u44 => ?_)
              have F45 := F40.then rfl u44
              refine wi_iload_n (i := 3) (e := 1) (nx := 119) (r1 := 0) (r2 := 0) (r3 := 0) rfl rfl ?_
              refine wi_zreturn (nx := 120) (r1 := 0) (r2 := 0) (r3 := 0) rfl rfl (by omega) ?_
              have e46 : h44 238 98 = h 238 98 := ((u44 238 98 rfl).trans ((u39 238 98 rfl).trans ((u37 238 98 rfl).trans ((u34 238 98 rfl).trans (u31 238 98 (fn_i (by omega) fn_0))))))
              have e47 : h44 238 99 = h 238 99 := ((u44 238 99 rfl).trans ((u39 238 99 rfl).trans ((u37 238 99 rfl).trans ((u34 238 99 rfl).trans (u31 238 99 (fn_i (by omega) fn_0))))))
              have e48 : h44 238 100 = e33 := ((u44 238 100 rfl).trans ((u39 238 100 rfl).trans ((u37 238 100 rfl).trans w34)))
              have e49 : h44 238 101 = h 238 101 := ((u44 238 101 rfl).trans ((u39 238 101 rfl).trans ((u37 238 101 rfl).trans ((u34 238 101 rfl).trans (u31 238 101 (fn_i (by omega) fn_0))))))
              have e50 : h44 238 102 = h 238 102 := ((u44 238 102 rfl).trans ((u39 238 102 rfl).trans ((u37 238 102 rfl).trans ((u34 238 102 rfl).trans (u31 238 102 (fn_i (by omega) fn_0))))))
              have e51 : h44 238 106 = h 238 106 := ((u44 238 106 rfl).trans ((u39 238 106 rfl).trans ((u37 238 106 rfl).trans ((u34 238 106 rfl).trans (u31 238 106 (fn_i (by omega) fn_0))))))
              have e52 : h44 238 73 = e36 := ((u44 238 73 rfl).trans ((u39 238 73 rfl).trans w37))
              have e53 : h44 238 2 = h 238 2 := ((u44 238 2 rfl).trans ((u39 238 2 rfl).trans ((u37 238 2 rfl).trans ((u34 238 2 rfl).trans (u31 238 2 (fn_i (by omega) fn_0))))))
              have e54 : h44 238 119 = h 238 119 := ((u44 238 119 rfl).trans ((u39 238 119 rfl).trans ((u37 238 119 rfl).trans ((u34 238 119 rfl).trans (u31 238 119 (fn_i (by omega) fn_0))))))
              have e55 : h44 238 67 = h 238 67 := ((u44 238 67 rfl).trans ((u39 238 67 rfl).trans ((u37 238 67 rfl).trans ((u34 238 67 rfl).trans (u31 238 67 (fn_i (by omega) fn_0))))))
              have e56 : h44 238 69 = h 238 69 := ((u44 238 69 rfl).trans ((u39 238 69 rfl).trans ((u37 238 69 rfl).trans ((u34 238 69 rfl).trans (u31 238 69 (fn_i (by omega) fn_0))))))
              have e57 : h44 238 5 = h 238 5 := ((u44 238 5 rfl).trans ((u39 238 5 rfl).trans ((u37 238 5 rfl).trans ((u34 238 5 rfl).trans (u31 238 5 (fn_i (by omega) fn_0))))))
              exact k h44 1 g44 F45 (by omega) (fun _ => by omega) (show (h44 238 98) + (h44 238 99) + (h44 238 100) + (h44 238 101) + (h44 238 102) + (h44 238 106) = (h44 238 73) by omega) (show (h44 238 73) ≤ (h44 238 2) by omega) (show (h44 238 119) ≤ (h44 238 67) by omega) (show (h44 238 69) ≤ (h44 238 5) by omega) (show (h44 238 2) ≤ 12 * (h44 238 5) by omega)
        ·
          rw [q22]
          refine wr_V (k0 := 236) (rest := []) (as := [.ref 236, vi 3]) (nx := 21) (r1 := 277) (r2 := 1) (r3 := 11) rfl rfl rfl (of_decide_eq_true rfl) rfl rfl (by decide) rfl rfl (of_decide_eq_true rfl) (of_decide_eq_true rfl) ?_
          refine wi_aload_n (i := 0) (x := 236) (nx := 1) (r1 := 0) (r2 := 0) (r3 := 0) rfl rfl ?_
          refine wr_gr (k0 := 236) (x := 238) (nx := 4) (r1 := 11) (r2 := 13) (r3 := 0) rfl rfl (by decide) rfl ⟨rfl, rfl⟩ rfl ?_
          refine wi_bipush (n := 98) (nx := 6) (r1 := 0) (r2 := 0) (r3 := 0) rfl (by decide) ?_
          refine wi_iload_n (i := 1) (e := 3) (nx := 7) (r1 := 0) (r2 := 0) (r3 := 0) rfl rfl ?_
          refine wr_addL (101) (nx := 8) (r1 := 0) (r2 := 0) (r3 := 0) rfl (by decide) ?_
          refine wr_ia (k0 := 238) (a := 101) (f := 101) (x := h 238 101) (nx := 9) (r1 := 0) (r2 := 0) (r3 := 0) rfl (by decide) rfl (by omega) (by omega) (by decide) rfl ?_
          refine wi_aload_n (i := 0) (x := 236) (nx := 10) (r1 := 0) (r2 := 0) (r3 := 0) rfl rfl ?_
          refine wr_gr (k0 := 236) (x := 238) (nx := 13) (r1 := 11) (r2 := 13) (r3 := 0) rfl rfl (by decide) rfl ⟨rfl, rfl⟩ rfl ?_
          refine wi_bipush (n := 15) (nx := 15) (r1 := 0) (r2 := 0) (r3 := 0) rfl (by decide) ?_
          refine wi_iload_n (i := 1) (e := 3) (nx := 16) (r1 := 0) (r2 := 0) (r3 := 0) rfl rfl ?_
          refine wr_addL (18) (nx := 17) (r1 := 0) (r2 := 0) (r3 := 0) rfl (by decide) ?_
          have b23 := gi_b (lo := 0) (hi := 6) g 238 18 rfl
          refine wr_ia (k0 := 238) (a := 18) (f := 18) (x := h 238 18) (nx := 18) (r1 := 0) (r2 := 0) (r3 := 0) rfl (by decide) rfl (by omega) (by omega) (by decide) rfl ?_
          refine wi_icmp (cd := .ge) (nx := 21) (r1 := 25) (r2 := 0) (r3 := 0) rfl (by omega) (by omega) (fun (q24 : (h 238 18) ≤ (h 238 101)) => ?_) (fun (q24 : ¬ ((h 238 18) ≤ (h 238 101))) => ?_)
          ·
            refine wi_iconst (n := 0) (nx := 26) (r1 := 0) (r2 := 0) (r3 := 0) rfl ?_
            refine wi_zreturn (nx := 27) (r1 := 0) (r2 := 0) (r3 := 0) rfl rfl (by omega) ?_
            refine wk_i ?_
            refine wi_if (cd := .eq) (nx := 24) (r1 := 28) (r2 := 0) (r3 := 0) rfl (by omega) (fun (q25 : 0 = 0) => ?_) (fun (q25 : ¬ (0 = 0)) => by exfalso; omega)
            refine wi_iconst (n := 0) (nx := 29) (r1 := 0) (r2 := 0) (r3 := 0) rfl ?_
            refine wi_zreturn (nx := 30) (r1 := 0) (r2 := 0) (r3 := 0) rfl rfl (by omega) ?_
            refine wk_i ?_
            refine wi_if (cd := .eq) (nx := 20) (r1 := 58) (r2 := 0) (r3 := 0) rfl (by omega) (fun (q26 : 0 = 0) => ?_) (fun (q26 : ¬ (0 = 0)) => by exfalso; omega)
            refine wi_iconst (n := 0) (nx := 59) (r1 := 0) (r2 := 0) (r3 := 0) rfl ?_
            refine wi_istore_n (i := 3) (e := 0) (lo2 := [(3, vi 0), (0, .ref 236), (1, vi 0), (2, vi 3)]) (nx := 60) (r1 := 0) (r2 := 0) (r3 := 0) rfl rfl ?_
            refine wi_iload_n (i := 3) (e := 0) (nx := 61) (r1 := 0) (r2 := 0) (r3 := 0) rfl rfl ?_
            refine wi_if (cd := .eq) (nx := 64) (r1 := 98) (r2 := 0) (r3 := 0) rfl (by omega) (fun (q27 : 0 = 0) => ?_) (fun (q27 : ¬ (0 = 0)) => by exfalso; omega)
            refine wi_aload_n (i := 0) (x := 236) (nx := 99) (r1 := 0) (r2 := 0) (r3 := 0) rfl rfl ?_
            refine wi_aload_n (i := 0) (x := 236) (nx := 100) (r1 := 0) (r2 := 0) (r3 := 0) rfl rfl ?_
            have b28 := gi_b (lo := 0) (hi := 1) g 236 45 rfl
            refine wr_gi2 (k0 := 236) (x := h 236 45) (nx := 103) (r1 := 11) (r2 := 45) (r3 := 0) rfl rfl (by decide) rfl ⟨rfl, rfl⟩ rfl rfl ?_
            refine wi_if (cd := .ne) (nx := 106) (r1 := 110) (r2 := 0) (r3 := 0) rfl (by omega) (fun (q29 : (h 236 45) ≠ 0) => ?_) (fun (q29 : ¬ ((h 236 45) ≠ 0)) => ?_)
            ·
              refine wi_iconst (n := 1) (nx := 111) (r1 := 0) (r2 := 0) (r3 := 0) rfl ?_
              refine wi_goto (nx := 114) (r1 := 115) (r2 := 0) (r3 := 0) rfl ?_
              refine wr_pf2 (k0 := 236) (x := 1) (bl := 0) (bh := 1) (nx := 118) (r1 := 11) (r2 := 45) (r3 := 2) rfl (by decide) rfl ⟨rfl, rfl⟩ rfl (by omega) rfl g rfl (by omega) (fun h30 g30 w30 u30 => ?_)
              have F31 := F0.then rfl u30
              refine wi_iload_n (i := 3) (e := 0) (nx := 119) (r1 := 0) (r2 := 0) (r3 := 0) rfl rfl ?_
              refine wi_zreturn (nx := 120) (r1 := 0) (r2 := 0) (r3 := 0) rfl rfl (by omega) ?_
              have e32 : h30 238 98 = h 238 98 := (u30 238 98 rfl)
              have e33 : h30 238 99 = h 238 99 := (u30 238 99 rfl)
              have e34 : h30 238 100 = h 238 100 := (u30 238 100 rfl)
              have e35 : h30 238 101 = h 238 101 := (u30 238 101 rfl)
              have e36 : h30 238 102 = h 238 102 := (u30 238 102 rfl)
              have e37 : h30 238 106 = h 238 106 := (u30 238 106 rfl)
              have e38 : h30 238 73 = h 238 73 := (u30 238 73 rfl)
              have e39 : h30 238 2 = h 238 2 := (u30 238 2 rfl)
              have e40 : h30 238 119 = h 238 119 := (u30 238 119 rfl)
              have e41 : h30 238 67 = h 238 67 := (u30 238 67 rfl)
              have e42 : h30 238 69 = h 238 69 := (u30 238 69 rfl)
              have e43 : h30 238 5 = h 238 5 := (u30 238 5 rfl)
              exact k h30 0 g30 F31 (by omega) (fun _ => by omega) (show (h30 238 98) + (h30 238 99) + (h30 238 100) + (h30 238 101) + (h30 238 102) + (h30 238 106) = (h30 238 73) by omega) (show (h30 238 73) ≤ (h30 238 2) by omega) (show (h30 238 119) ≤ (h30 238 67) by omega) (show (h30 238 69) ≤ (h30 238 5) by omega) (show (h30 238 2) ≤ 12 * (h30 238 5) by omega)
            ·
              refine wi_iload_n (i := 3) (e := 0) (nx := 107) (r1 := 0) (r2 := 0) (r3 := 0) rfl rfl ?_
              refine wi_if (cd := .eq) (nx := 110) (r1 := 114) (r2 := 0) (r3 := 0) rfl (by omega) (fun (q30 : 0 = 0) => ?_) (fun (q30 : ¬ (0 = 0)) => by exfalso; omega)
              refine wi_iconst (n := 0) (nx := 115) (r1 := 0) (r2 := 0) (r3 := 0) rfl ?_
              refine wr_pf2 (k0 := 236) (x := 0) (bl := 0) (bh := 1) (nx := 118) (r1 := 11) (r2 := 45) (r3 := 2) rfl (by decide) rfl ⟨rfl, rfl⟩ rfl (by omega) rfl g rfl (by omega) (fun h31 g31 w31 u31 => ?_)
              have F32 := F0.then rfl u31
              refine wi_iload_n (i := 3) (e := 0) (nx := 119) (r1 := 0) (r2 := 0) (r3 := 0) rfl rfl ?_
              refine wi_zreturn (nx := 120) (r1 := 0) (r2 := 0) (r3 := 0) rfl rfl (by omega) ?_
              have e33 : h31 238 98 = h 238 98 := (u31 238 98 rfl)
              have e34 : h31 238 99 = h 238 99 := (u31 238 99 rfl)
              have e35 : h31 238 100 = h 238 100 := (u31 238 100 rfl)
              have e36 : h31 238 101 = h 238 101 := (u31 238 101 rfl)
              have e37 : h31 238 102 = h 238 102 := (u31 238 102 rfl)
              have e38 : h31 238 106 = h 238 106 := (u31 238 106 rfl)
              have e39 : h31 238 73 = h 238 73 := (u31 238 73 rfl)
              have e40 : h31 238 2 = h 238 2 := (u31 238 2 rfl)
              have e41 : h31 238 119 = h 238 119 := (u31 238 119 rfl)
              have e42 : h31 238 67 = h 238 67 := (u31 238 67 rfl)
              have e43 : h31 238 69 = h 238 69 := (u31 238 69 rfl)
              have e44 : h31 238 5 = h 238 5 := (u31 238 5 rfl)
              exact k h31 0 g31 F32 (by omega) (fun _ => by omega) (show (h31 238 98) + (h31 238 99) + (h31 238 100) + (h31 238 101) + (h31 238 102) + (h31 238 106) = (h31 238 73) by omega) (show (h31 238 73) ≤ (h31 238 2) by omega) (show (h31 238 119) ≤ (h31 238 67) by omega) (show (h31 238 69) ≤ (h31 238 5) by omega) (show (h31 238 2) ≤ 12 * (h31 238 5) by omega)
          ·
            refine wi_iconst (n := 1) (nx := 22) (r1 := 0) (r2 := 0) (r3 := 0) rfl ?_
            refine wi_goto (nx := 25) (r1 := 26) (r2 := 0) (r3 := 0) rfl ?_
            refine wi_zreturn (nx := 27) (r1 := 0) (r2 := 0) (r3 := 0) rfl rfl (by omega) ?_
            refine wk_i ?_
            refine wi_if (cd := .eq) (nx := 24) (r1 := 28) (r2 := 0) (r3 := 0) rfl (by omega) (fun (q25 : 1 = 0) => by exfalso; omega) (fun (q25 : ¬ (1 = 0)) => ?_)
            refine wi_iconst (n := 1) (nx := 25) (r1 := 0) (r2 := 0) (r3 := 0) rfl ?_
            refine wi_goto (nx := 28) (r1 := 29) (r2 := 0) (r3 := 0) rfl ?_
            refine wi_zreturn (nx := 30) (r1 := 0) (r2 := 0) (r3 := 0) rfl rfl (by omega) ?_
            refine wk_i ?_
            refine wi_if (cd := .eq) (nx := 20) (r1 := 58) (r2 := 0) (r3 := 0) rfl (by omega) (fun (q26 : 1 = 0) => by exfalso; omega) (fun (q26 : ¬ (1 = 0)) => ?_)
            refine wi_goto (nx := 23) (r1 := 54) (r2 := 0) (r3 := 0) rfl ?_
            refine wi_iconst (n := 1) (nx := 55) (r1 := 0) (r2 := 0) (r3 := 0) rfl ?_
            refine wi_goto (nx := 58) (r1 := 59) (r2 := 0) (r3 := 0) rfl ?_
            refine wi_istore_n (i := 3) (e := 1) (lo2 := [(3, vi 1), (0, .ref 236), (1, vi 0), (2, vi 3)]) (nx := 60) (r1 := 0) (r2 := 0) (r3 := 0) rfl rfl ?_
            refine wi_iload_n (i := 3) (e := 1) (nx := 61) (r1 := 0) (r2 := 0) (r3 := 0) rfl rfl ?_
            refine wi_if (cd := .eq) (nx := 64) (r1 := 98) (r2 := 0) (r3 := 0) rfl (by omega) (fun (q27 : 1 = 0) => by exfalso; omega) (fun (q27 : ¬ (1 = 0)) => ?_)
            refine wi_aload_n (i := 0) (x := 236) (nx := 65) (r1 := 0) (r2 := 0) (r3 := 0) rfl rfl ?_
            refine wi_iload_n (i := 1) (e := 0) (nx := 66) (r1 := 0) (r2 := 0) (r3 := 0) rfl rfl ?_
            refine wi_if (cd := .ne) (nx := 69) (r1 := 77) (r2 := 0) (r3 := 0) rfl (by omega) (fun (q28 : 0 ≠ 0) => by exfalso; omega) (fun (q28 : ¬ (0 ≠ 0)) => ?_)
            refine wi_aload_n (i := 0) (x := 236) (nx := 70) (r1 := 0) (r2 := 0) (r3 := 0) rfl rfl ?_
            refine wi_iload_n (i := 2) (e := 3) (nx := 71) (r1 := 0) (r2 := 0) (r3 := 0) rfl rfl ?_
            refine wr_V (k0 := 236) (rest := [.ref 236]) (as := [.ref 236, vi 3]) (nx := 74) (r1 := 279) (r2 := 1) (r3 := 11) rfl rfl rfl (of_decide_eq_true rfl) rfl rfl (by decide) rfl rfl (of_decide_eq_true rfl) (of_decide_eq_true rfl) ?_
            refine wi_aload_n (i := 0) (x := 236) (nx := 1) (r1 := 0) (r2 := 0) (r3 := 0) rfl rfl ?_
            refine wr_gr (k0 := 236) (x := 238) (nx := 4) (r1 := 11) (r2 := 13) (r3 := 0) rfl rfl (by decide) rfl ⟨rfl, rfl⟩ rfl ?_
            refine wi_bipush (n := 73) (nx := 6) (r1 := 0) (r2 := 0) (r3 := 0) rfl (by decide) ?_
            refine wr_ia (k0 := 238) (a := 73) (f := 73) (x := h 238 73) (nx := 7) (r1 := 0) (r2 := 0) (r3 := 0) rfl (by decide) rfl (by omega) (by omega) (by decide) rfl ?_
            refine wi_istore_n (i := 2) (e := h 238 73) (lo2 := [(2, vi (h 238 73)), (0, .ref 236), (1, vi 3)]) (nx := 8) (r1 := 0) (r2 := 0) (r3 := 0) rfl rfl ?_
            refine wi_aload_n (i := 0) (x := 236) (nx := 9) (r1 := 0) (r2 := 0) (r3 := 0) rfl rfl ?_
            refine wi_iload_n (i := 1) (e := 3) (nx := 10) (r1 := 0) (r2 := 0) (r3 := 0) rfl rfl ?_
            refine wi_iload_n (i := 2) (e := h 238 73) (nx := 11) (r1 := 0) (r2 := 0) (r3 := 0) rfl rfl ?_
            refine wr_V (k0 := 236) (rest := []) (as := [.ref 236, vi 3, vi (h 238 73)]) (nx := 14) (r1 := 280) (r2 := 2) (r3 := 11) rfl rfl rfl (of_decide_eq_true rfl) rfl rfl (by decide) rfl rfl (of_decide_eq_true rfl) (of_decide_eq_true rfl) ?_
            refine wi_aload_n (i := 0) (x := 236) (nx := 1) (r1 := 0) (r2 := 0) (r3 := 0) rfl rfl ?_
            refine wr_gr (k0 := 236) (x := 238) (nx := 4) (r1 := 11) (r2 := 13) (r3 := 0) rfl rfl (by decide) rfl ⟨rfl, rfl⟩ rfl ?_
            refine wi_bipush (n := 74) (nx := 6) (r1 := 0) (r2 := 0) (r3 := 0) rfl (by decide) ?_
            refine wi_bipush (n := 6) (nx := 8) (r1 := 0) (r2 := 0) (r3 := 0) rfl (by decide) ?_
            refine wi_iload_n (i := 1) (e := 3) (nx := 9) (r1 := 0) (r2 := 0) (r3 := 0) rfl rfl ?_
            refine wr_mulL (18) (nx := 10) (r1 := 0) (r2 := 0) (r3 := 0) rfl (by decide) ?_
            refine wr_addL (92) (nx := 11) (r1 := 0) (r2 := 0) (r3 := 0) rfl (by decide) ?_
            refine wi_aload_n (i := 0) (x := 236) (nx := 12) (r1 := 0) (r2 := 0) (r3 := 0) rfl rfl ?_
            refine wr_gr (k0 := 236) (x := 238) (nx := 15) (r1 := 11) (r2 := 13) (r3 := 0) rfl rfl (by decide) rfl ⟨rfl, rfl⟩ rfl ?_
            refine wi_bipush (n := 98) (nx := 17) (r1 := 0) (r2 := 0) (r3 := 0) rfl (by decide) ?_
            refine wi_iload_n (i := 1) (e := 3) (nx := 18) (r1 := 0) (r2 := 0) (r3 := 0) rfl rfl ?_
            refine wr_addL (101) (nx := 19) (r1 := 0) (r2 := 0) (r3 := 0) rfl (by decide) ?_
            refine wr_ia (k0 := 238) (a := 101) (f := 101) (x := h 238 101) (nx := 20) (r1 := 0) (r2 := 0) (r3 := 0) rfl (by decide) rfl (by omega) (by omega) (by decide) rfl ?_
            refine wr_add (nx := 21) (r1 := 0) (r2 := 0) (r3 := 0) rfl (fun e29 (fe29 : e29 = 92 + (h 238 101)) => ?_)
            refine wi_iload_n (i := 2) (e := h 238 73) (nx := 22) (r1 := 0) (r2 := 0) (r3 := 0) rfl rfl ?_
            obtain ⟨i30, ei30⟩ : ∃ q : Nat, e29 = (q : Int) := ⟨(e29).toNat, by omega⟩
            refine wr_is (k0 := 238) (a := e29) (f := i30) (x := h 238 73) (bl := 0) (bh := 11) (nx := 23) (r1 := 0) (r2 := 0) (r3 := 0) rfl (by decide) rfl (by omega) (by omega) (by decide) g (gi_rg 92 6 (fun _ => rfl) (by decide +kernel) (by omega)) (by omega) (fun h31 g31 w31 u31 => ?_)
            have F32 := F0.then rfl (FR.idx (p := 92) (q := 97) u31 (by omega))
            refine wi_aload_n (i := 0) (x := 236) (nx := 24) (r1 := 0) (r2 := 0) (r3 := 0) rfl rfl ?_
            refine wr_gr (k0 := 236) (x := 238) (nx := 27) (r1 := 11) (r2 := 13) (r3 := 0) rfl rfl (by decide) rfl ⟨rfl, rfl⟩ rfl ?_
            refine wi_bipush (n := 98) (nx := 29) (r1 := 0) (r2 := 0) (r3 := 0) rfl (by decide) ?_
            refine wi_iload_n (i := 1) (e := 3) (nx := 30) (r1 := 0) (r2 := 0) (r3 := 0) rfl rfl ?_
            refine wr_addL (101) (nx := 31) (r1 := 0) (r2 := 0) (r3 := 0) rfl (by decide) ?_
            refine wi_dup2 (nx := 32) (r1 := 0) (r2 := 0) (r3 := 0) rfl rfl rfl ?_
            refine wr_ia (k0 := 238) (a := 101) (f := 101) (x := h 238 101) (nx := 33) (r1 := 0) (r2 := 0) (r3 := 0) rfl (by decide) rfl (by omega) (by omega) (by decide) (u31 238 101 (fn_i (by omega) fn_0)) ?_
            refine wi_iconst (n := 1) (nx := 34) (r1 := 0) (r2 := 0) (r3 := 0) rfl ?_
            refine wr_add (nx := 35) (r1 := 0) (r2 := 0) (r3 := 0) rfl (fun e33 (fe33 : e33 = (h 238 101) + 1) => ?_)
            refine wr_is (k0 := 238) (a := 101) (f := 101) (x := e33) (bl := 0) (bh := 6) (nx := 36) (r1 := 0) (r2 := 0) (r3 := 0) rfl (by decide) rfl (by omega) (by omega) (by decide) g31 rfl (by omega) (fun h34 g34 w34 u34 => ?_)
            have F35 := F32.then rfl u34
            refine wi_return (nx := 37) (r1 := 0) (r2 := 0) (r3 := 0) rfl rfl ?_
            refine wk_n ?_
            refine wi_aload_n (i := 0) (x := 236) (nx := 15) (r1 := 0) (r2 := 0) (r3 := 0) rfl rfl ?_
            refine wr_gr (k0 := 236) (x := 238) (nx := 18) (r1 := 11) (r2 := 13) (r3 := 0) rfl rfl (by decide) rfl ⟨rfl, rfl⟩ rfl ?_
            refine wi_bipush (n := 73) (nx := 20) (r1 := 0) (r2 := 0) (r3 := 0) rfl (by decide) ?_
            refine wi_dup2 (nx := 21) (r1 := 0) (r2 := 0) (r3 := 0) rfl rfl rfl ?_
            refine wr_ia (k0 := 238) (a := 73) (f := 73) (x := h 238 73) (nx := 22) (r1 := 0) (r2 := 0) (r3 := 0) rfl (by decide) rfl (by omega) (by omega) (by decide) ((u34 238 73 rfl).trans (u31 238 73 (fn_i (by omega) fn_0))) ?_
            refine wi_iconst (n := 1) (nx := 23) (r1 := 0) (r2 := 0) (r3 := 0) rfl ?_
            refine wr_add (nx := 24) (r1 := 0) (r2 := 0) (r3 := 0) rfl (fun e36 (fe36 : e36 = (h 238 73) + 1) => ?_)
            refine wr_is (k0 := 238) (a := 73) (f := 73) (x := e36) (bl := 0) (bh := 12) (nx := 25) (r1 := 0) (r2 := 0) (r3 := 0) rfl (by decide) rfl (by omega) (by omega) (by decide) g34 rfl (by omega) (fun h37 g37 w37 u37 => ?_)
            have F38 := F35.then rfl u37
            refine wi_iload_n (i := 2) (e := h 238 73) (nx := 26) (r1 := 0) (r2 := 0) (r3 := 0) rfl rfl ?_
            refine wi_ireturn (nx := 27) (r1 := 0) (r2 := 0) (r3 := 0) rfl rfl ?_
            refine wk_i ?_
            refine wi_goto (nx := 77) (r1 := 95) (r2 := 0) (r3 := 0) rfl ?_
            refine wr_pf0 (k0 := 236) (x := h 238 73) (bl := -2147483648) (bh := 2147483647) (nx := 98) (r1 := 11) (r2 := 28) (r3 := 0) rfl (by decide) rfl ⟨rfl, rfl⟩ rfl rfl g37 rfl (by omega) (fun h39 g39 w39 u39 => ?_)
            have F40 := F38.then rfl u39
            refine wi_aload_n (i := 0) (x := 236) (nx := 99) (r1 := 0) (r2 := 0) (r3 := 0) rfl rfl ?_
            refine wi_aload_n (i := 0) (x := 236) (nx := 100) (r1 := 0) (r2 := 0) (r3 := 0) rfl rfl ?_
            have b41 := gi_b (lo := 0) (hi := 1) g 236 45 rfl
            refine wr_gi2 (k0 := 236) (x := h 236 45) (nx := 103) (r1 := 11) (r2 := 45) (r3 := 0) rfl rfl (by decide) rfl ⟨rfl, rfl⟩ rfl ((u39 236 45 rfl).trans ((u37 236 45 rfl).trans ((u34 236 45 rfl).trans (u31 236 45 (fn_a (by omega) fn_0))))) ?_
            refine wi_if (cd := .ne) (nx := 106) (r1 := 110) (r2 := 0) (r3 := 0) rfl (by omega) (fun (q42 : (h 236 45) ≠ 0) => ?_) (fun (q42 : ¬ ((h 236 45) ≠ 0)) => ?_)
            ·
              refine wi_iconst (n := 1) (nx := 111) (r1 := 0) (r2 := 0) (r3 := 0) rfl ?_
              refine wi_goto (nx := 114) (r1 := 115) (r2 := 0) (r3 := 0) rfl ?_
              refine wr_pf2 (k0 := 236) (x := 1) (bl := 0) (bh := 1) (nx := 118) (r1 := 11) (r2 := 45) (r3 := 2) rfl (by decide) rfl ⟨rfl, rfl⟩ rfl (by omega) rfl g39 rfl (by omega) (fun h43 g43 w43 u43 => ?_)
              have F44 := F40.then rfl u43
              refine wi_iload_n (i := 3) (e := 1) (nx := 119) (r1 := 0) (r2 := 0) (r3 := 0) rfl rfl ?_
              refine wi_zreturn (nx := 120) (r1 := 0) (r2 := 0) (r3 := 0) rfl rfl (by omega) ?_
              have e45 : h43 238 98 = h 238 98 := ((u43 238 98 rfl).trans ((u39 238 98 rfl).trans ((u37 238 98 rfl).trans ((u34 238 98 rfl).trans (u31 238 98 (fn_i (by omega) fn_0))))))
              have e46 : h43 238 99 = h 238 99 := ((u43 238 99 rfl).trans ((u39 238 99 rfl).trans ((u37 238 99 rfl).trans ((u34 238 99 rfl).trans (u31 238 99 (fn_i (by omega) fn_0))))))
              have e47 : h43 238 100 = h 238 100 := ((u43 238 100 rfl).trans ((u39 238 100 rfl).trans ((u37 238 100 rfl).trans ((u34 238 100 rfl).trans (u31 238 100 (fn_i (by omega) fn_0))))))
              have e48 : h43 238 101 = e33 := ((u43 238 101 rfl).trans ((u39 238 101 rfl).trans ((u37 238 101 rfl).trans w34)))
              have e49 : h43 238 102 = h 238 102 := ((u43 238 102 rfl).trans ((u39 238 102 rfl).trans ((u37 238 102 rfl).trans ((u34 238 102 rfl).trans (u31 238 102 (fn_i (by omega) fn_0))))))
              have e50 : h43 238 106 = h 238 106 := ((u43 238 106 rfl).trans ((u39 238 106 rfl).trans ((u37 238 106 rfl).trans ((u34 238 106 rfl).trans (u31 238 106 (fn_i (by omega) fn_0))))))
              have e51 : h43 238 73 = e36 := ((u43 238 73 rfl).trans ((u39 238 73 rfl).trans w37))
              have e52 : h43 238 2 = h 238 2 := ((u43 238 2 rfl).trans ((u39 238 2 rfl).trans ((u37 238 2 rfl).trans ((u34 238 2 rfl).trans (u31 238 2 (fn_i (by omega) fn_0))))))
              have e53 : h43 238 119 = h 238 119 := ((u43 238 119 rfl).trans ((u39 238 119 rfl).trans ((u37 238 119 rfl).trans ((u34 238 119 rfl).trans (u31 238 119 (fn_i (by omega) fn_0))))))
              have e54 : h43 238 67 = h 238 67 := ((u43 238 67 rfl).trans ((u39 238 67 rfl).trans ((u37 238 67 rfl).trans ((u34 238 67 rfl).trans (u31 238 67 (fn_i (by omega) fn_0))))))
              have e55 : h43 238 69 = h 238 69 := ((u43 238 69 rfl).trans ((u39 238 69 rfl).trans ((u37 238 69 rfl).trans ((u34 238 69 rfl).trans (u31 238 69 (fn_i (by omega) fn_0))))))
              have e56 : h43 238 5 = h 238 5 := ((u43 238 5 rfl).trans ((u39 238 5 rfl).trans ((u37 238 5 rfl).trans ((u34 238 5 rfl).trans (u31 238 5 (fn_i (by omega) fn_0))))))
              exact k h43 1 g43 F44 (by omega) (fun _ => by omega) (show (h43 238 98) + (h43 238 99) + (h43 238 100) + (h43 238 101) + (h43 238 102) + (h43 238 106) = (h43 238 73) by omega) (show (h43 238 73) ≤ (h43 238 2) by omega) (show (h43 238 119) ≤ (h43 238 67) by omega) (show (h43 238 69) ≤ (h43 238 5) by omega) (show (h43 238 2) ≤ 12 * (h43 238 5) by omega)
            ·
              refine wi_iload_n (i := 3) (e := 1) (nx := 107) (r1 := 0) (r2 := 0) (r3 := 0) rfl rfl ?_
              refine wi_if (cd := .eq) (nx := 110) (r1 := 114) (r2 := 0) (r3 := 0) rfl (by omega) (fun (q43 : 1 = 0) => by exfalso; omega) (fun (q43 : ¬ (1 = 0)) => ?_)
              refine wi_iconst (n := 1) (nx := 111) (r1 := 0) (r2 := 0) (r3 := 0) rfl ?_
              refine wi_goto (nx := 114) (r1 := 115) (r2 := 0) (r3 := 0) rfl ?_
              refine wr_pf2 (k0 := 236) (x := 1) (bl := 0) (bh := 1) (nx := 118) (r1 := 11) (r2 := 45) (r3 := 2) rfl (by decide) rfl ⟨rfl, rfl⟩ rfl (by omega) rfl g39 rfl (by omega) (fun h44 g44 w44 u44 => ?_)
              have F45 := F40.then rfl u44
              refine wi_iload_n (i := 3) (e := 1) (nx := 119) (r1 := 0) (r2 := 0) (r3 := 0) rfl rfl ?_
              refine wi_zreturn (nx := 120) (r1 := 0) (r2 := 0) (r3 := 0) rfl rfl (by omega) ?_
              have e46 : h44 238 98 = h 238 98 := ((u44 238 98 rfl).trans ((u39 238 98 rfl).trans ((u37 238 98 rfl).trans ((u34 238 98 rfl).trans (u31 238 98 (fn_i (by omega) fn_0))))))
              have e47 : h44 238 99 = h 238 99 := ((u44 238 99 rfl).trans ((u39 238 99 rfl).trans ((u37 238 99 rfl).trans ((u34 238 99 rfl).trans (u31 238 99 (fn_i (by omega) fn_0))))))
              have e48 : h44 238 100 = h 238 100 := ((u44 238 100 rfl).trans ((u39 238 100 rfl).trans ((u37 238 100 rfl).trans ((u34 238 100 rfl).trans (u31 238 100 (fn_i (by omega) fn_0))))))
              have e49 : h44 238 101 = e33 := ((u44 238 101 rfl).trans ((u39 238 101 rfl).trans ((u37 238 101 rfl).trans w34)))
              have e50 : h44 238 102 = h 238 102 := ((u44 238 102 rfl).trans ((u39 238 102 rfl).trans ((u37 238 102 rfl).trans ((u34 238 102 rfl).trans (u31 238 102 (fn_i (by omega) fn_0))))))
              have e51 : h44 238 106 = h 238 106 := ((u44 238 106 rfl).trans ((u39 238 106 rfl).trans ((u37 238 106 rfl).trans ((u34 238 106 rfl).trans (u31 238 106 (fn_i (by omega) fn_0))))))
              have e52 : h44 238 73 = e36 := ((u44 238 73 rfl).trans ((u39 238 73 rfl).trans w37))
              have e53 : h44 238 2 = h 238 2 := ((u44 238 2 rfl).trans ((u39 238 2 rfl).trans ((u37 238 2 rfl).trans ((u34 238 2 rfl).trans (u31 238 2 (fn_i (by omega) fn_0))))))
              have e54 : h44 238 119 = h 238 119 := ((u44 238 119 rfl).trans ((u39 238 119 rfl).trans ((u37 238 119 rfl).trans ((u34 238 119 rfl).trans (u31 238 119 (fn_i (by omega) fn_0))))))
              have e55 : h44 238 67 = h 238 67 := ((u44 238 67 rfl).trans ((u39 238 67 rfl).trans ((u37 238 67 rfl).trans ((u34 238 67 rfl).trans (u31 238 67 (fn_i (by omega) fn_0))))))
              have e56 : h44 238 69 = h 238 69 := ((u44 238 69 rfl).trans ((u39 238 69 rfl).trans ((u37 238 69 rfl).trans ((u34 238 69 rfl).trans (u31 238 69 (fn_i (by omega) fn_0))))))
              have e57 : h44 238 5 = h 238 5 := ((u44 238 5 rfl).trans ((u39 238 5 rfl).trans ((u37 238 5 rfl).trans ((u34 238 5 rfl).trans (u31 238 5 (fn_i (by omega) fn_0))))))
              exact k h44 1 g44 F45 (by omega) (fun _ => by omega) (show (h44 238 98) + (h44 238 99) + (h44 238 100) + (h44 238 101) + (h44 238 102) + (h44 238 106) = (h44 238 73) by omega) (show (h44 238 73) ≤ (h44 238 2) by omega) (show (h44 238 119) ≤ (h44 238 67) by omega) (show (h44 238 69) ≤ (h44 238 5) by omega) (show (h44 238 2) ≤ 12 * (h44 238 5) by omega)
-- method 343: Model.moves(II)Z
set_option maxRecDepth 100000 in
set_option maxHeartbeats 100000000 in
theorem ct_343_236_L1 {L : Nat} {xs : Nat → Int32} {d b c : Nat} {h : hp} {cr : Nat → Nat → Option Nat} {Q : hp_Q} (hcr : CR cr)  (g : GI h) (a0 : Int) (q0_ : -2147483648 ≤ a0 ∧ a0 ≤ 2147483647) (pp0 : h 238 98 + h 238 99 + h 238 100 + h 238 101 + h 238 102 + h 238 106 = h 238 73) (pp1 : h 238 73 ≤ h 238 2) (pp2 : h 238 119 ≤ h 238 67) (pp3 : h 238 69 ≤ h 238 5) (pp4 : h 238 2 ≤ 12 * h 238 5) (k : ∀ (h2 : hp) (z0 : Int) , GI h2 → FR [(236, 236, some (28, 28)), (236, 236, some (45, 45)), (238, 238, some (43, 54)), (238, 238, some (55, 66)), (238, 238, some (67, 67)), (238, 238, some (68, 68)), (238, 238, some (69, 69)), (238, 238, some (70, 70)), (238, 238, some (71, 71)), (238, 238, some (72, 72)), (238, 238, some (74, 78)), (238, 238, some (80, 84)), (238, 238, some (86, 90)), (238, 238, some (92, 96)), (238, 238, some (98, 98)), (238, 238, some (99, 99)), (238, 238, some (100, 100)), (238, 238, some (101, 101)), (238, 238, some (102, 102)), (238, 238, some (103, 105)), (238, 238, some (106, 106)), (238, 238, some (107, 118)), (238, 238, some (119, 119)), (238, 238, some (120, 196)), (238, 238, some (121, 197)), (238, 238, some (122, 198)), (238, 238, some (123, 199))] h h2 → (0 ≤ z0 ∧ z0 ≤ 1) → (z0 = 1 → 0 ≤ a0 ∧ a0 ≤ 3) → (h2 238 98 + h2 238 99 + h2 238 100 + h2 238 101 + h2 238 102 + h2 238 106 = h2 238 73) → (h2 238 73 ≤ h2 238 2) → (h2 238 119 ≤ h2 238 67) → (h2 238 69 ≤ h2 238 5) → (h2 238 2 ≤ 12 * h2 238 5) → Q (.inl (some (vi z0))) (hp_w h2 cr) b c) : wp (md_xa (L, xs)) (d + 3) 343 (0, [(0, .ref 236), (1, vi 1), (2, vi a0)], [], hp_w h cr, b, c) Q := by
  have F0 : FR [(236, 236, some (28, 28)), (236, 236, some (45, 45)), (238, 238, some (43, 54)), (238, 238, some (55, 66)), (238, 238, some (67, 67)), (238, 238, some (68, 68)), (238, 238, some (69, 69)), (238, 238, some (70, 70)), (238, 238, some (71, 71)), (238, 238, some (72, 72)), (238, 238, some (74, 78)), (238, 238, some (80, 84)), (238, 238, some (86, 90)), (238, 238, some (92, 96)), (238, 238, some (98, 98)), (238, 238, some (99, 99)), (238, 238, some (100, 100)), (238, 238, some (101, 101)), (238, 238, some (102, 102)), (238, 238, some (103, 105)), (238, 238, some (106, 106)), (238, 238, some (107, 118)), (238, 238, some (119, 119)), (238, 238, some (120, 196)), (238, 238, some (121, 197)), (238, 238, some (122, 198)), (238, 238, some (123, 199))] h h := FR.refl
  have b1 := gi_b (lo := 0) (hi := 6) g 238 98 rfl
  have b2 := gi_b (lo := 0) (hi := 6) g 238 99 rfl
  have b3 := gi_b (lo := 0) (hi := 6) g 238 100 rfl
  have b4 := gi_b (lo := 0) (hi := 6) g 238 101 rfl
  have b5 := gi_b (lo := 0) (hi := 3) g 238 102 rfl
  have b6 := gi_b (lo := 0) (hi := 12) g 238 106 rfl
  have b7 := gi_b (lo := 0) (hi := 12) g 238 73 rfl
  have b8 := gi_b (lo := 0) (hi := 12) g 238 2 rfl
  have b9 := gi_b (lo := 0) (hi := 9999) g 238 119 rfl
  have b10 := gi_b (lo := 0) (hi := 9999) g 238 67 rfl
  have b11 := gi_b (lo := 0) (hi := 9) g 238 69 rfl
  have b12 := gi_b (lo := 0) (hi := 9) g 238 5 rfl
  refine wi_aload_n (i := 0) (x := 236) (nx := 1) (r1 := 0) (r2 := 0) (r3 := 0) rfl rfl ?_
  refine wi_iload_n (i := 2) (e := a0) (nx := 2) (r1 := 0) (r2 := 0) (r3 := 0) rfl rfl ?_
  refine wr_V (k0 := 236) (rest := []) (as := [.ref 236, vi a0]) (nx := 5) (r1 := 242) (r2 := 1) (r3 := 11) rfl rfl rfl (of_decide_eq_true rfl) rfl rfl (by decide) rfl rfl (of_decide_eq_true rfl) (of_decide_eq_true rfl) ?_
  refine wi_iload_n (i := 1) (e := a0) (nx := 1) (r1 := 0) (r2 := 0) (r3 := 0) rfl rfl ?_
  refine wi_i2l (nx := 2) (r1 := 0) (r2 := 0) (r3 := 0) rfl (by omega) ?_
  refine wi_lconst (n := 0) (e := 0) (nx := 3) (r1 := 0) (r2 := 0) (r3 := 0) rfl (by decide) ?_
  refine wi_aload_n (i := 0) (x := 236) (nx := 4) (r1 := 0) (r2 := 0) (r3 := 0) rfl rfl ?_
  refine wr_gr (k0 := 236) (x := 238) (nx := 7) (r1 := 11) (r2 := 13) (r3 := 0) rfl rfl (by decide) rfl ⟨rfl, rfl⟩ rfl ?_
  refine wi_iconst (n := 1) (nx := 8) (r1 := 0) (r2 := 0) (r3 := 0) rfl ?_
  have b13 := gi_b (lo := 0) (hi := 4) g 238 1 rfl
  refine wr_ia (k0 := 238) (a := 1) (f := 1) (x := h 238 1) (nx := 9) (r1 := 0) (r2 := 0) (r3 := 0) rfl (by decide) rfl (by omega) (by omega) (by decide) rfl ?_
  refine wi_iconst (n := 1) (nx := 10) (r1 := 0) (r2 := 0) (r3 := 0) rfl ?_
  refine wr_sub (nx := 11) (r1 := 0) (r2 := 0) (r3 := 0) rfl (fun e14 (fe14 : e14 = (h 238 1) - 1) => ?_)
  refine wi_i2l (nx := 12) (r1 := 0) (r2 := 0) (r3 := 0) rfl (by omega) ?_
  refine wi_S (rest := []) (as := [vl a0, vl 0, vl e14]) (nx := 15) (r1 := 210) (r2 := 19) (r3 := 0) rfl rfl rfl (of_decide_eq_true rfl) rfl rfl (of_decide_eq_true rfl) (of_decide_eq_true rfl) ?_
  refine wi_lload_n (i := 0) (e := a0) (nx := 1) (r1 := 0) (r2 := 0) (r3 := 0) rfl rfl ?_
  refine wi_lload_n (i := 2) (e := 0) (nx := 2) (r1 := 0) (r2 := 0) (r3 := 0) rfl rfl ?_
  refine wi_lcmp (a := a0) (e := 0) (nx := 3) (r1 := 0) (r2 := 0) (r3 := 0) rfl (by omega) (by omega) (fun r15 (fr15 : (r15 = -1 ∧ a0 < 0) ∨ (r15 = 0 ∧ a0 = 0) ∨ (r15 = 1 ∧ 0 < a0)) => ?_)
  refine wi_if (cd := .lt) (nx := 6) (r1 := 17) (r2 := 0) (r3 := 0) rfl (by omega) (fun (q16 : r15 < 0) => ?_) (fun (q16 : ¬ (r15 < 0)) => ?_)
  ·
    refine wi_iconst (n := 0) (nx := 18) (r1 := 0) (r2 := 0) (r3 := 0) rfl ?_
    refine wi_zreturn (nx := 19) (r1 := 0) (r2 := 0) (r3 := 0) rfl rfl (by omega) ?_
    refine wk_i ?_
    refine wi_zreturn (nx := 16) (r1 := 0) (r2 := 0) (r3 := 0) rfl rfl (by omega) ?_
    refine wk_i ?_
    refine wi_if (cd := .eq) (nx := 8) (r1 := 58) (r2 := 0) (r3 := 0) rfl (by omega) (fun (q17 : 0 = 0) => ?_) (fun (q17 : ¬ (0 = 0)) => by exfalso; omega)
    refine wi_iconst (n := 0) (nx := 59) (r1 := 0) (r2 := 0) (r3 := 0) rfl ?_
    refine wi_istore_n (i := 3) (e := 0) (lo2 := [(3, vi 0), (0, .ref 236), (1, vi 1), (2, vi a0)]) (nx := 60) (r1 := 0) (r2 := 0) (r3 := 0) rfl rfl ?_
    refine wi_iload_n (i := 3) (e := 0) (nx := 61) (r1 := 0) (r2 := 0) (r3 := 0) rfl rfl ?_
    refine wi_if (cd := .eq) (nx := 64) (r1 := 98) (r2 := 0) (r3 := 0) rfl (by omega) (fun (q18 : 0 = 0) => ?_) (fun (q18 : ¬ (0 = 0)) => by exfalso; omega)
    refine wi_aload_n (i := 0) (x := 236) (nx := 99) (r1 := 0) (r2 := 0) (r3 := 0) rfl rfl ?_
    refine wi_aload_n (i := 0) (x := 236) (nx := 100) (r1 := 0) (r2 := 0) (r3 := 0) rfl rfl ?_
    have b19 := gi_b (lo := 0) (hi := 1) g 236 45 rfl
    refine wr_gi2 (k0 := 236) (x := h 236 45) (nx := 103) (r1 := 11) (r2 := 45) (r3 := 0) rfl rfl (by decide) rfl ⟨rfl, rfl⟩ rfl rfl ?_
    refine wi_if (cd := .ne) (nx := 106) (r1 := 110) (r2 := 0) (r3 := 0) rfl (by omega) (fun (q20 : (h 236 45) ≠ 0) => ?_) (fun (q20 : ¬ ((h 236 45) ≠ 0)) => ?_)
    ·
      refine wi_iconst (n := 1) (nx := 111) (r1 := 0) (r2 := 0) (r3 := 0) rfl ?_
      refine wi_goto (nx := 114) (r1 := 115) (r2 := 0) (r3 := 0) rfl ?_
      refine wr_pf2 (k0 := 236) (x := 1) (bl := 0) (bh := 1) (nx := 118) (r1 := 11) (r2 := 45) (r3 := 2) rfl (by decide) rfl ⟨rfl, rfl⟩ rfl (by omega) rfl g rfl (by omega) (fun h21 g21 w21 u21 => ?_)
      have F22 := F0.then rfl u21
      refine wi_iload_n (i := 3) (e := 0) (nx := 119) (r1 := 0) (r2 := 0) (r3 := 0) rfl rfl ?_
      refine wi_zreturn (nx := 120) (r1 := 0) (r2 := 0) (r3 := 0) rfl rfl (by omega) ?_
      have e23 : h21 238 98 = h 238 98 := (u21 238 98 rfl)
      have e24 : h21 238 99 = h 238 99 := (u21 238 99 rfl)
      have e25 : h21 238 100 = h 238 100 := (u21 238 100 rfl)
      have e26 : h21 238 101 = h 238 101 := (u21 238 101 rfl)
      have e27 : h21 238 102 = h 238 102 := (u21 238 102 rfl)
      have e28 : h21 238 106 = h 238 106 := (u21 238 106 rfl)
      have e29 : h21 238 73 = h 238 73 := (u21 238 73 rfl)
      have e30 : h21 238 2 = h 238 2 := (u21 238 2 rfl)
      have e31 : h21 238 119 = h 238 119 := (u21 238 119 rfl)
      have e32 : h21 238 67 = h 238 67 := (u21 238 67 rfl)
      have e33 : h21 238 69 = h 238 69 := (u21 238 69 rfl)
      have e34 : h21 238 5 = h 238 5 := (u21 238 5 rfl)
      exact k h21 0 g21 F22 (by omega) (fun _ => by omega) (show (h21 238 98) + (h21 238 99) + (h21 238 100) + (h21 238 101) + (h21 238 102) + (h21 238 106) = (h21 238 73) by omega) (show (h21 238 73) ≤ (h21 238 2) by omega) (show (h21 238 119) ≤ (h21 238 67) by omega) (show (h21 238 69) ≤ (h21 238 5) by omega) (show (h21 238 2) ≤ 12 * (h21 238 5) by omega)
    ·
      refine wi_iload_n (i := 3) (e := 0) (nx := 107) (r1 := 0) (r2 := 0) (r3 := 0) rfl rfl ?_
      refine wi_if (cd := .eq) (nx := 110) (r1 := 114) (r2 := 0) (r3 := 0) rfl (by omega) (fun (q21 : 0 = 0) => ?_) (fun (q21 : ¬ (0 = 0)) => by exfalso; omega)
      refine wi_iconst (n := 0) (nx := 115) (r1 := 0) (r2 := 0) (r3 := 0) rfl ?_
      refine wr_pf2 (k0 := 236) (x := 0) (bl := 0) (bh := 1) (nx := 118) (r1 := 11) (r2 := 45) (r3 := 2) rfl (by decide) rfl ⟨rfl, rfl⟩ rfl (by omega) rfl g rfl (by omega) (fun h22 g22 w22 u22 => ?_)
      have F23 := F0.then rfl u22
      refine wi_iload_n (i := 3) (e := 0) (nx := 119) (r1 := 0) (r2 := 0) (r3 := 0) rfl rfl ?_
      refine wi_zreturn (nx := 120) (r1 := 0) (r2 := 0) (r3 := 0) rfl rfl (by omega) ?_
      have e24 : h22 238 98 = h 238 98 := (u22 238 98 rfl)
      have e25 : h22 238 99 = h 238 99 := (u22 238 99 rfl)
      have e26 : h22 238 100 = h 238 100 := (u22 238 100 rfl)
      have e27 : h22 238 101 = h 238 101 := (u22 238 101 rfl)
      have e28 : h22 238 102 = h 238 102 := (u22 238 102 rfl)
      have e29 : h22 238 106 = h 238 106 := (u22 238 106 rfl)
      have e30 : h22 238 73 = h 238 73 := (u22 238 73 rfl)
      have e31 : h22 238 2 = h 238 2 := (u22 238 2 rfl)
      have e32 : h22 238 119 = h 238 119 := (u22 238 119 rfl)
      have e33 : h22 238 67 = h 238 67 := (u22 238 67 rfl)
      have e34 : h22 238 69 = h 238 69 := (u22 238 69 rfl)
      have e35 : h22 238 5 = h 238 5 := (u22 238 5 rfl)
      exact k h22 0 g22 F23 (by omega) (fun _ => by omega) (show (h22 238 98) + (h22 238 99) + (h22 238 100) + (h22 238 101) + (h22 238 102) + (h22 238 106) = (h22 238 73) by omega) (show (h22 238 73) ≤ (h22 238 2) by omega) (show (h22 238 119) ≤ (h22 238 67) by omega) (show (h22 238 69) ≤ (h22 238 5) by omega) (show (h22 238 2) ≤ 12 * (h22 238 5) by omega)
  ·
    refine wi_lload_n (i := 0) (e := a0) (nx := 7) (r1 := 0) (r2 := 0) (r3 := 0) rfl rfl ?_
    refine wi_lload (i := 4) (e := e14) (nx := 9) (r1 := 0) (r2 := 0) (r3 := 0) rfl rfl ?_
    refine wi_lcmp (a := a0) (e := e14) (nx := 10) (r1 := 0) (r2 := 0) (r3 := 0) rfl (by omega) (by omega) (fun r17 (fr17 : (r17 = -1 ∧ a0 < e14) ∨ (r17 = 0 ∧ a0 = e14) ∨ (r17 = 1 ∧ e14 < a0)) => ?_)
    refine wi_if (cd := .gt) (nx := 13) (r1 := 17) (r2 := 0) (r3 := 0) rfl (by omega) (fun (q18 : 0 < r17) => ?_) (fun (q18 : ¬ (0 < r17)) => ?_)
    ·
      refine wi_iconst (n := 0) (nx := 18) (r1 := 0) (r2 := 0) (r3 := 0) rfl ?_
      refine wi_zreturn (nx := 19) (r1 := 0) (r2 := 0) (r3 := 0) rfl rfl (by omega) ?_
      refine wk_i ?_
      refine wi_zreturn (nx := 16) (r1 := 0) (r2 := 0) (r3 := 0) rfl rfl (by omega) ?_
      refine wk_i ?_
      refine wi_if (cd := .eq) (nx := 8) (r1 := 58) (r2 := 0) (r3 := 0) rfl (by omega) (fun (q19 : 0 = 0) => ?_) (fun (q19 : ¬ (0 = 0)) => by exfalso; omega)
      refine wi_iconst (n := 0) (nx := 59) (r1 := 0) (r2 := 0) (r3 := 0) rfl ?_
      refine wi_istore_n (i := 3) (e := 0) (lo2 := [(3, vi 0), (0, .ref 236), (1, vi 1), (2, vi a0)]) (nx := 60) (r1 := 0) (r2 := 0) (r3 := 0) rfl rfl ?_
      refine wi_iload_n (i := 3) (e := 0) (nx := 61) (r1 := 0) (r2 := 0) (r3 := 0) rfl rfl ?_
      refine wi_if (cd := .eq) (nx := 64) (r1 := 98) (r2 := 0) (r3 := 0) rfl (by omega) (fun (q20 : 0 = 0) => ?_) (fun (q20 : ¬ (0 = 0)) => by exfalso; omega)
      refine wi_aload_n (i := 0) (x := 236) (nx := 99) (r1 := 0) (r2 := 0) (r3 := 0) rfl rfl ?_
      refine wi_aload_n (i := 0) (x := 236) (nx := 100) (r1 := 0) (r2 := 0) (r3 := 0) rfl rfl ?_
      have b21 := gi_b (lo := 0) (hi := 1) g 236 45 rfl
      refine wr_gi2 (k0 := 236) (x := h 236 45) (nx := 103) (r1 := 11) (r2 := 45) (r3 := 0) rfl rfl (by decide) rfl ⟨rfl, rfl⟩ rfl rfl ?_
      refine wi_if (cd := .ne) (nx := 106) (r1 := 110) (r2 := 0) (r3 := 0) rfl (by omega) (fun (q22 : (h 236 45) ≠ 0) => ?_) (fun (q22 : ¬ ((h 236 45) ≠ 0)) => ?_)
      ·
        refine wi_iconst (n := 1) (nx := 111) (r1 := 0) (r2 := 0) (r3 := 0) rfl ?_
        refine wi_goto (nx := 114) (r1 := 115) (r2 := 0) (r3 := 0) rfl ?_
        refine wr_pf2 (k0 := 236) (x := 1) (bl := 0) (bh := 1) (nx := 118) (r1 := 11) (r2 := 45) (r3 := 2) rfl (by decide) rfl ⟨rfl, rfl⟩ rfl (by omega) rfl g rfl (by omega) (fun h23 g23 w23 u23 => ?_)
        have F24 := F0.then rfl u23
        refine wi_iload_n (i := 3) (e := 0) (nx := 119) (r1 := 0) (r2 := 0) (r3 := 0) rfl rfl ?_
        refine wi_zreturn (nx := 120) (r1 := 0) (r2 := 0) (r3 := 0) rfl rfl (by omega) ?_
        have e25 : h23 238 98 = h 238 98 := (u23 238 98 rfl)
        have e26 : h23 238 99 = h 238 99 := (u23 238 99 rfl)
        have e27 : h23 238 100 = h 238 100 := (u23 238 100 rfl)
        have e28 : h23 238 101 = h 238 101 := (u23 238 101 rfl)
        have e29 : h23 238 102 = h 238 102 := (u23 238 102 rfl)
        have e30 : h23 238 106 = h 238 106 := (u23 238 106 rfl)
        have e31 : h23 238 73 = h 238 73 := (u23 238 73 rfl)
        have e32 : h23 238 2 = h 238 2 := (u23 238 2 rfl)
        have e33 : h23 238 119 = h 238 119 := (u23 238 119 rfl)
        have e34 : h23 238 67 = h 238 67 := (u23 238 67 rfl)
        have e35 : h23 238 69 = h 238 69 := (u23 238 69 rfl)
        have e36 : h23 238 5 = h 238 5 := (u23 238 5 rfl)
        exact k h23 0 g23 F24 (by omega) (fun _ => by omega) (show (h23 238 98) + (h23 238 99) + (h23 238 100) + (h23 238 101) + (h23 238 102) + (h23 238 106) = (h23 238 73) by omega) (show (h23 238 73) ≤ (h23 238 2) by omega) (show (h23 238 119) ≤ (h23 238 67) by omega) (show (h23 238 69) ≤ (h23 238 5) by omega) (show (h23 238 2) ≤ 12 * (h23 238 5) by omega)
      ·
        refine wi_iload_n (i := 3) (e := 0) (nx := 107) (r1 := 0) (r2 := 0) (r3 := 0) rfl rfl ?_
        refine wi_if (cd := .eq) (nx := 110) (r1 := 114) (r2 := 0) (r3 := 0) rfl (by omega) (fun (q23 : 0 = 0) => ?_) (fun (q23 : ¬ (0 = 0)) => by exfalso; omega)
        refine wi_iconst (n := 0) (nx := 115) (r1 := 0) (r2 := 0) (r3 := 0) rfl ?_
        refine wr_pf2 (k0 := 236) (x := 0) (bl := 0) (bh := 1) (nx := 118) (r1 := 11) (r2 := 45) (r3 := 2) rfl (by decide) rfl ⟨rfl, rfl⟩ rfl (by omega) rfl g rfl (by omega) (fun h24 g24 w24 u24 => ?_)
        have F25 := F0.then rfl u24
        refine wi_iload_n (i := 3) (e := 0) (nx := 119) (r1 := 0) (r2 := 0) (r3 := 0) rfl rfl ?_
        refine wi_zreturn (nx := 120) (r1 := 0) (r2 := 0) (r3 := 0) rfl rfl (by omega) ?_
        have e26 : h24 238 98 = h 238 98 := (u24 238 98 rfl)
        have e27 : h24 238 99 = h 238 99 := (u24 238 99 rfl)
        have e28 : h24 238 100 = h 238 100 := (u24 238 100 rfl)
        have e29 : h24 238 101 = h 238 101 := (u24 238 101 rfl)
        have e30 : h24 238 102 = h 238 102 := (u24 238 102 rfl)
        have e31 : h24 238 106 = h 238 106 := (u24 238 106 rfl)
        have e32 : h24 238 73 = h 238 73 := (u24 238 73 rfl)
        have e33 : h24 238 2 = h 238 2 := (u24 238 2 rfl)
        have e34 : h24 238 119 = h 238 119 := (u24 238 119 rfl)
        have e35 : h24 238 67 = h 238 67 := (u24 238 67 rfl)
        have e36 : h24 238 69 = h 238 69 := (u24 238 69 rfl)
        have e37 : h24 238 5 = h 238 5 := (u24 238 5 rfl)
        exact k h24 0 g24 F25 (by omega) (fun _ => by omega) (show (h24 238 98) + (h24 238 99) + (h24 238 100) + (h24 238 101) + (h24 238 102) + (h24 238 106) = (h24 238 73) by omega) (show (h24 238 73) ≤ (h24 238 2) by omega) (show (h24 238 119) ≤ (h24 238 67) by omega) (show (h24 238 69) ≤ (h24 238 5) by omega) (show (h24 238 2) ≤ 12 * (h24 238 5) by omega)
    ·
      refine wi_iconst (n := 1) (nx := 14) (r1 := 0) (r2 := 0) (r3 := 0) rfl ?_
      refine wi_goto (nx := 17) (r1 := 18) (r2 := 0) (r3 := 0) rfl ?_
      refine wi_zreturn (nx := 19) (r1 := 0) (r2 := 0) (r3 := 0) rfl rfl (by omega) ?_
      refine wk_i ?_
      refine wi_zreturn (nx := 16) (r1 := 0) (r2 := 0) (r3 := 0) rfl rfl (by omega) ?_
      refine wk_i ?_
      refine wi_if (cd := .eq) (nx := 8) (r1 := 58) (r2 := 0) (r3 := 0) rfl (by omega) (fun (q19 : 1 = 0) => by exfalso; omega) (fun (q19 : ¬ (1 = 0)) => ?_)
      refine wi_iload_n (i := 1) (e := 1) (nx := 9) (r1 := 0) (r2 := 0) (r3 := 0) rfl rfl ?_
      refine wi_if (cd := .ne) (nx := 12) (r1 := 23) (r2 := 0) (r3 := 0) rfl (by omega) (fun (q20 : 1 ≠ 0) => ?_) (fun (q20 : ¬ (1 ≠ 0)) => by exfalso; omega)
      refine wi_iload_n (i := 1) (e := 1) (nx := 24) (r1 := 0) (r2 := 0) (r3 := 0) rfl rfl ?_
      refine wi_iconst (n := 1) (nx := 25) (r1 := 0) (r2 := 0) (r3 := 0) rfl ?_
      refine wi_icmp (cd := .ne) (nx := 28) (r1 := 39) (r2 := 0) (r3 := 0) rfl (by omega) (by omega) (fun (q21 : 1 ≠ 1) => by exfalso; omega) (fun (q21 : ¬ (1 ≠ 1)) => ?_)
      refine wi_aload_n (i := 0) (x := 236) (nx := 29) (r1 := 0) (r2 := 0) (r3 := 0) rfl rfl ?_
      refine wi_iload_n (i := 2) (e := a0) (nx := 30) (r1 := 0) (r2 := 0) (r3 := 0) rfl rfl ?_
      rcases (show a0 = 0 ∨ a0 = 1 ∨ a0 = 2 ∨ a0 = 3 by omega) with q22 | q22 | q22 | q22
      ·
        rw [q22]
        refine wr_V (k0 := 236) (rest := []) (as := [.ref 236, vi 0]) (nx := 33) (r1 := 267) (r2 := 1) (r3 := 11) rfl rfl rfl (of_decide_eq_true rfl) rfl rfl (by decide) rfl rfl (of_decide_eq_true rfl) (of_decide_eq_true rfl) ?_
        refine ct_267_236_L0 hcr  g    (fun z24  (fz24 : 0 ≤ z24 ∧ z24 ≤ 1) (p23_0 : z24 = 0 ∨ 1 ≤ (h 238 98)) (p23_1 : z24 = 0 ∨ (h 238 67) ≤ 9998) (p23_2 : z24 = 0 ∨ (1 ≤ (h 238 (43 + (h 238 74).toNat)) ∧ (h 238 102) < (h 238 7)) ∨ ((h 238 (43 + (h 238 74).toNat)) ≤ 0 ∧ (h 238 74) - (h 238 106) ≤ (h 238 3))) y23_0 => ?_)
        have b25 := gi_b (lo := 0) (hi := 11) g 238 74 rfl
        obtain ⟨i26, ei26⟩ : ∃ q : Nat, (43 + h 238 74) = (q : Int) := ⟨(43 + h 238 74).toNat, by omega⟩
        have b27 := gi_b (lo := 0) (hi := 999) g 238 i26 (gi_rg 43 12 (fun _ => rfl) (by decide +kernel) (by omega))
        have e28 : h 238 (43 + (h 238 74).toNat) = h 238 i26 := by rw [show 43 + (h 238 74).toNat = i26 by omega]
        have b29 := gi_b (lo := 0) (hi := 3) g 238 7 rfl
        have b30 := gi_b (lo := 0) (hi := 999) g 238 3 rfl
        refine wk_i ?_
        refine wi_if (cd := .eq) (nx := 36) (r1 := 58) (r2 := 0) (r3 := 0) rfl (by omega) (fun (q31 : z24 = 0) => ?_) (fun (q31 : ¬ (z24 = 0)) => ?_)
        ·
          refine wi_iconst (n := 0) (nx := 59) (r1 := 0) (r2 := 0) (r3 := 0) rfl ?_
          refine wi_istore_n (i := 3) (e := 0) (lo2 := [(3, vi 0), (0, .ref 236), (1, vi 1), (2, vi 0)]) (nx := 60) (r1 := 0) (r2 := 0) (r3 := 0) rfl rfl ?_
          refine wi_iload_n (i := 3) (e := 0) (nx := 61) (r1 := 0) (r2 := 0) (r3 := 0) rfl rfl ?_
          refine wi_if (cd := .eq) (nx := 64) (r1 := 98) (r2 := 0) (r3 := 0) rfl (by omega) (fun (q32 : 0 = 0) => ?_) (fun (q32 : ¬ (0 = 0)) => by exfalso; omega)
          refine wi_aload_n (i := 0) (x := 236) (nx := 99) (r1 := 0) (r2 := 0) (r3 := 0) rfl rfl ?_
          refine wi_aload_n (i := 0) (x := 236) (nx := 100) (r1 := 0) (r2 := 0) (r3 := 0) rfl rfl ?_
          have b33 := gi_b (lo := 0) (hi := 1) g 236 45 rfl
          refine wr_gi2 (k0 := 236) (x := h 236 45) (nx := 103) (r1 := 11) (r2 := 45) (r3 := 0) rfl rfl (by decide) rfl ⟨rfl, rfl⟩ rfl rfl ?_
          refine wi_if (cd := .ne) (nx := 106) (r1 := 110) (r2 := 0) (r3 := 0) rfl (by omega) (fun (q34 : (h 236 45) ≠ 0) => ?_) (fun (q34 : ¬ ((h 236 45) ≠ 0)) => ?_)
          ·
            refine wi_iconst (n := 1) (nx := 111) (r1 := 0) (r2 := 0) (r3 := 0) rfl ?_
            refine wi_goto (nx := 114) (r1 := 115) (r2 := 0) (r3 := 0) rfl ?_
            refine wr_pf2 (k0 := 236) (x := 1) (bl := 0) (bh := 1) (nx := 118) (r1 := 11) (r2 := 45) (r3 := 2) rfl (by decide) rfl ⟨rfl, rfl⟩ rfl (by omega) rfl g rfl (by omega) (fun h35 g35 w35 u35 => ?_)
            have F36 := F0.then rfl u35
            refine wi_iload_n (i := 3) (e := 0) (nx := 119) (r1 := 0) (r2 := 0) (r3 := 0) rfl rfl ?_
            refine wi_zreturn (nx := 120) (r1 := 0) (r2 := 0) (r3 := 0) rfl rfl (by omega) ?_
            have e37 : h35 238 98 = h 238 98 := (u35 238 98 rfl)
            have e38 : h35 238 99 = h 238 99 := (u35 238 99 rfl)
            have e39 : h35 238 100 = h 238 100 := (u35 238 100 rfl)
            have e40 : h35 238 101 = h 238 101 := (u35 238 101 rfl)
            have e41 : h35 238 102 = h 238 102 := (u35 238 102 rfl)
            have e42 : h35 238 106 = h 238 106 := (u35 238 106 rfl)
            have e43 : h35 238 73 = h 238 73 := (u35 238 73 rfl)
            have e44 : h35 238 2 = h 238 2 := (u35 238 2 rfl)
            have e45 : h35 238 119 = h 238 119 := (u35 238 119 rfl)
            have e46 : h35 238 67 = h 238 67 := (u35 238 67 rfl)
            have e47 : h35 238 69 = h 238 69 := (u35 238 69 rfl)
            have e48 : h35 238 5 = h 238 5 := (u35 238 5 rfl)
            exact k h35 0 g35 F36 (by omega) (fun _ => by omega) (show (h35 238 98) + (h35 238 99) + (h35 238 100) + (h35 238 101) + (h35 238 102) + (h35 238 106) = (h35 238 73) by omega) (show (h35 238 73) ≤ (h35 238 2) by omega) (show (h35 238 119) ≤ (h35 238 67) by omega) (show (h35 238 69) ≤ (h35 238 5) by omega) (show (h35 238 2) ≤ 12 * (h35 238 5) by omega)
          ·
            refine wi_iload_n (i := 3) (e := 0) (nx := 107) (r1 := 0) (r2 := 0) (r3 := 0) rfl rfl ?_
            refine wi_if (cd := .eq) (nx := 110) (r1 := 114) (r2 := 0) (r3 := 0) rfl (by omega) (fun (q35 : 0 = 0) => ?_) (fun (q35 : ¬ (0 = 0)) => by exfalso; omega)
            refine wi_iconst (n := 0) (nx := 115) (r1 := 0) (r2 := 0) (r3 := 0) rfl ?_
            refine wr_pf2 (k0 := 236) (x := 0) (bl := 0) (bh := 1) (nx := 118) (r1 := 11) (r2 := 45) (r3 := 2) rfl (by decide) rfl ⟨rfl, rfl⟩ rfl (by omega) rfl g rfl (by omega) (fun h36 g36 w36 u36 => ?_)
            have F37 := F0.then rfl u36
            refine wi_iload_n (i := 3) (e := 0) (nx := 119) (r1 := 0) (r2 := 0) (r3 := 0) rfl rfl ?_
            refine wi_zreturn (nx := 120) (r1 := 0) (r2 := 0) (r3 := 0) rfl rfl (by omega) ?_
            have e38 : h36 238 98 = h 238 98 := (u36 238 98 rfl)
            have e39 : h36 238 99 = h 238 99 := (u36 238 99 rfl)
            have e40 : h36 238 100 = h 238 100 := (u36 238 100 rfl)
            have e41 : h36 238 101 = h 238 101 := (u36 238 101 rfl)
            have e42 : h36 238 102 = h 238 102 := (u36 238 102 rfl)
            have e43 : h36 238 106 = h 238 106 := (u36 238 106 rfl)
            have e44 : h36 238 73 = h 238 73 := (u36 238 73 rfl)
            have e45 : h36 238 2 = h 238 2 := (u36 238 2 rfl)
            have e46 : h36 238 119 = h 238 119 := (u36 238 119 rfl)
            have e47 : h36 238 67 = h 238 67 := (u36 238 67 rfl)
            have e48 : h36 238 69 = h 238 69 := (u36 238 69 rfl)
            have e49 : h36 238 5 = h 238 5 := (u36 238 5 rfl)
            exact k h36 0 g36 F37 (by omega) (fun _ => by omega) (show (h36 238 98) + (h36 238 99) + (h36 238 100) + (h36 238 101) + (h36 238 102) + (h36 238 106) = (h36 238 73) by omega) (show (h36 238 73) ≤ (h36 238 2) by omega) (show (h36 238 119) ≤ (h36 238 67) by omega) (show (h36 238 69) ≤ (h36 238 5) by omega) (show (h36 238 2) ≤ 12 * (h36 238 5) by omega)
        ·
          refine wi_goto (nx := 39) (r1 := 54) (r2 := 0) (r3 := 0) rfl ?_
          refine wi_iconst (n := 1) (nx := 55) (r1 := 0) (r2 := 0) (r3 := 0) rfl ?_
          refine wi_goto (nx := 58) (r1 := 59) (r2 := 0) (r3 := 0) rfl ?_
          refine wi_istore_n (i := 3) (e := 1) (lo2 := [(3, vi 1), (0, .ref 236), (1, vi 1), (2, vi 0)]) (nx := 60) (r1 := 0) (r2 := 0) (r3 := 0) rfl rfl ?_
          refine wi_iload_n (i := 3) (e := 1) (nx := 61) (r1 := 0) (r2 := 0) (r3 := 0) rfl rfl ?_
          refine wi_if (cd := .eq) (nx := 64) (r1 := 98) (r2 := 0) (r3 := 0) rfl (by omega) (fun (q32 : 1 = 0) => by exfalso; omega) (fun (q32 : ¬ (1 = 0)) => ?_)
          refine wi_aload_n (i := 0) (x := 236) (nx := 65) (r1 := 0) (r2 := 0) (r3 := 0) rfl rfl ?_
          refine wi_iload_n (i := 1) (e := 1) (nx := 66) (r1 := 0) (r2 := 0) (r3 := 0) rfl rfl ?_
          refine wi_if (cd := .ne) (nx := 69) (r1 := 77) (r2 := 0) (r3 := 0) rfl (by omega) (fun (q33 : 1 ≠ 0) => ?_) (fun (q33 : ¬ (1 ≠ 0)) => by exfalso; omega)
          refine wi_iload_n (i := 1) (e := 1) (nx := 78) (r1 := 0) (r2 := 0) (r3 := 0) rfl rfl ?_
          refine wi_iconst (n := 1) (nx := 79) (r1 := 0) (r2 := 0) (r3 := 0) rfl ?_
          refine wi_icmp (cd := .ne) (nx := 82) (r1 := 90) (r2 := 0) (r3 := 0) rfl (by omega) (by omega) (fun (q34 : 1 ≠ 1) => by exfalso; omega) (fun (q34 : ¬ (1 ≠ 1)) => ?_)
          refine wi_aload_n (i := 0) (x := 236) (nx := 83) (r1 := 0) (r2 := 0) (r3 := 0) rfl rfl ?_
          refine wi_iload_n (i := 2) (e := 0) (nx := 84) (r1 := 0) (r2 := 0) (r3 := 0) rfl rfl ?_
          refine wr_V (k0 := 236) (rest := [.ref 236]) (as := [.ref 236, vi 0]) (nx := 87) (r1 := 282) (r2 := 1) (r3 := 11) rfl rfl rfl (of_decide_eq_true rfl) rfl rfl (by decide) rfl rfl (of_decide_eq_true rfl) (of_decide_eq_true rfl) ?_
          refine ct_282_236_L0 hcr  g   (show (h 238 98) + (h 238 99) + (h 238 100) + (h 238 101) + (h 238 102) + (h 238 106) = (h 238 73) by omega) (show (h 238 73) ≤ (h 238 2) by omega) (show (h 238 119) ≤ (h 238 67) by omega) (show (h 238 69) ≤ (h 238 5) by omega) (show (h 238 2) ≤ 12 * (h 238 5) by omega) (show 1 ≤ (h 238 98) by omega) (show (h 238 67) ≤ 9998 by omega) (show (h 238 102) ≤ 2 ∨ (h 238 (43 + (h 238 74).toNat)) ≤ 0 by omega) (fun h35 z36 g35 u35 (fz36 : 0 ≤ z36 ∧ z36 ≤ 11) (p35_0 : (h35 238 98) + (h35 238 99) + (h35 238 100) + (h35 238 101) + (h35 238 102) + (h35 238 106) = (h35 238 73)) (p35_1 : (h35 238 73) ≤ (h35 238 2)) (p35_2 : (h35 238 119) ≤ (h35 238 67)) (p35_3 : (h35 238 69) ≤ (h35 238 5)) (p35_4 : (h35 238 2) ≤ 12 * (h35 238 5)) => ?_)
          have F37 := F0.then (by decide +kernel) u35
          have b38 := gi_b (lo := 0) (hi := 6) g35 238 98 rfl
          have e39 : h35 238 99 = h 238 99 := (u35 238 99 rfl)
          have e40 : h35 238 100 = h 238 100 := (u35 238 100 rfl)
          have e41 : h35 238 101 = h 238 101 := (u35 238 101 rfl)
          have b42 := gi_b (lo := 0) (hi := 3) g35 238 102 rfl
          have b43 := gi_b (lo := 0) (hi := 12) g35 238 106 rfl
          have e44 : h35 238 73 = h 238 73 := (u35 238 73 rfl)
          have e45 : h35 238 2 = h 238 2 := (u35 238 2 rfl)
          have b46 := gi_b (lo := 0) (hi := 9999) g35 238 119 rfl
          have b47 := gi_b (lo := 0) (hi := 9999) g35 238 67 rfl
          have b48 := gi_b (lo := 0) (hi := 9) g35 238 69 rfl
          have e49 : h35 238 5 = h 238 5 := (u35 238 5 rfl)
          refine wk_i ?_
          refine wi_goto (nx := 90) (r1 := 95) (r2 := 0) (r3 := 0) rfl ?_
          refine wr_pf0 (k0 := 236) (x := z36) (bl := -2147483648) (bh := 2147483647) (nx := 98) (r1 := 11) (r2 := 28) (r3 := 0) rfl (by decide) rfl ⟨rfl, rfl⟩ rfl rfl g35 rfl (by omega) (fun h50 g50 w50 u50 => ?_)
          have F51 := F37.then rfl u50
          refine wi_aload_n (i := 0) (x := 236) (nx := 99) (r1 := 0) (r2 := 0) (r3 := 0) rfl rfl ?_
          refine wi_aload_n (i := 0) (x := 236) (nx := 100) (r1 := 0) (r2 := 0) (r3 := 0) rfl rfl ?_
          have b52 := gi_b (lo := 0) (hi := 1) g 236 45 rfl
          refine wr_gi2 (k0 := 236) (x := h 236 45) (nx := 103) (r1 := 11) (r2 := 45) (r3 := 0) rfl rfl (by decide) rfl ⟨rfl, rfl⟩ rfl ((u50 236 45 rfl).trans (u35 236 45 rfl)) ?_
          refine wi_if (cd := .ne) (nx := 106) (r1 := 110) (r2 := 0) (r3 := 0) rfl (by omega) (fun (q53 : (h 236 45) ≠ 0) => ?_) (fun (q53 : ¬ ((h 236 45) ≠ 0)) => ?_)
          ·
            refine wi_iconst (n := 1) (nx := 111) (r1 := 0) (r2 := 0) (r3 := 0) rfl ?_
            refine wi_goto (nx := 114) (r1 := 115) (r2 := 0) (r3 := 0) rfl ?_
            refine wr_pf2 (k0 := 236) (x := 1) (bl := 0) (bh := 1) (nx := 118) (r1 := 11) (r2 := 45) (r3 := 2) rfl (by decide) rfl ⟨rfl, rfl⟩ rfl (by omega) rfl g50 rfl (by omega) (fun h54 g54 w54 u54 => ?_)
            have F55 := F51.then rfl u54
            refine wi_iload_n (i := 3) (e := 1) (nx := 119) (r1 := 0) (r2 := 0) (r3 := 0) rfl rfl ?_
            refine wi_zreturn (nx := 120) (r1 := 0) (r2 := 0) (r3 := 0) rfl rfl (by omega) ?_
            have e56 : h54 238 98 = h35 238 98 := ((u54 238 98 rfl).trans (u50 238 98 rfl))
            have e57 : h54 238 99 = h 238 99 := ((u54 238 99 rfl).trans ((u50 238 99 rfl).trans (u35 238 99 rfl)))
            have e58 : h54 238 100 = h 238 100 := ((u54 238 100 rfl).trans ((u50 238 100 rfl).trans (u35 238 100 rfl)))
            have e59 : h54 238 101 = h 238 101 := ((u54 238 101 rfl).trans ((u50 238 101 rfl).trans (u35 238 101 rfl)))
            have e60 : h54 238 102 = h35 238 102 := ((u54 238 102 rfl).trans (u50 238 102 rfl))
            have e61 : h54 238 106 = h35 238 106 := ((u54 238 106 rfl).trans (u50 238 106 rfl))
            have e62 : h54 238 73 = h 238 73 := ((u54 238 73 rfl).trans ((u50 238 73 rfl).trans (u35 238 73 rfl)))
            have e63 : h54 238 2 = h 238 2 := ((u54 238 2 rfl).trans ((u50 238 2 rfl).trans (u35 238 2 rfl)))
            have e64 : h54 238 119 = h35 238 119 := ((u54 238 119 rfl).trans (u50 238 119 rfl))
            have e65 : h54 238 67 = h35 238 67 := ((u54 238 67 rfl).trans (u50 238 67 rfl))
            have e66 : h54 238 69 = h35 238 69 := ((u54 238 69 rfl).trans (u50 238 69 rfl))
            have e67 : h54 238 5 = h 238 5 := ((u54 238 5 rfl).trans ((u50 238 5 rfl).trans (u35 238 5 rfl)))
            exact k h54 1 g54 F55 (by omega) (fun _ => by omega) (show (h54 238 98) + (h54 238 99) + (h54 238 100) + (h54 238 101) + (h54 238 102) + (h54 238 106) = (h54 238 73) by omega) (show (h54 238 73) ≤ (h54 238 2) by omega) (show (h54 238 119) ≤ (h54 238 67) by omega) (show (h54 238 69) ≤ (h54 238 5) by omega) (show (h54 238 2) ≤ 12 * (h54 238 5) by omega)
          ·
            refine wi_iload_n (i := 3) (e := 1) (nx := 107) (r1 := 0) (r2 := 0) (r3 := 0) rfl rfl ?_
            refine wi_if (cd := .eq) (nx := 110) (r1 := 114) (r2 := 0) (r3 := 0) rfl (by omega) (fun (q54 : 1 = 0) => by exfalso; omega) (fun (q54 : ¬ (1 = 0)) => ?_)
            refine wi_iconst (n := 1) (nx := 111) (r1 := 0) (r2 := 0) (r3 := 0) rfl ?_
            refine wi_goto (nx := 114) (r1 := 115) (r2 := 0) (r3 := 0) rfl ?_
            refine wr_pf2 (k0 := 236) (x := 1) (bl := 0) (bh := 1) (nx := 118) (r1 := 11) (r2 := 45) (r3 := 2) rfl (by decide) rfl ⟨rfl, rfl⟩ rfl (by omega) rfl g50 rfl (by omega) (fun h55 g55 w55 u55 => ?_)
            have F56 := F51.then rfl u55
            refine wi_iload_n (i := 3) (e := 1) (nx := 119) (r1 := 0) (r2 := 0) (r3 := 0) rfl rfl ?_
            refine wi_zreturn (nx := 120) (r1 := 0) (r2 := 0) (r3 := 0) rfl rfl (by omega) ?_
            have e57 : h55 238 98 = h35 238 98 := ((u55 238 98 rfl).trans (u50 238 98 rfl))
            have e58 : h55 238 99 = h 238 99 := ((u55 238 99 rfl).trans ((u50 238 99 rfl).trans (u35 238 99 rfl)))
            have e59 : h55 238 100 = h 238 100 := ((u55 238 100 rfl).trans ((u50 238 100 rfl).trans (u35 238 100 rfl)))
            have e60 : h55 238 101 = h 238 101 := ((u55 238 101 rfl).trans ((u50 238 101 rfl).trans (u35 238 101 rfl)))
            have e61 : h55 238 102 = h35 238 102 := ((u55 238 102 rfl).trans (u50 238 102 rfl))
            have e62 : h55 238 106 = h35 238 106 := ((u55 238 106 rfl).trans (u50 238 106 rfl))
            have e63 : h55 238 73 = h 238 73 := ((u55 238 73 rfl).trans ((u50 238 73 rfl).trans (u35 238 73 rfl)))
            have e64 : h55 238 2 = h 238 2 := ((u55 238 2 rfl).trans ((u50 238 2 rfl).trans (u35 238 2 rfl)))
            have e65 : h55 238 119 = h35 238 119 := ((u55 238 119 rfl).trans (u50 238 119 rfl))
            have e66 : h55 238 67 = h35 238 67 := ((u55 238 67 rfl).trans (u50 238 67 rfl))
            have e67 : h55 238 69 = h35 238 69 := ((u55 238 69 rfl).trans (u50 238 69 rfl))
            have e68 : h55 238 5 = h 238 5 := ((u55 238 5 rfl).trans ((u50 238 5 rfl).trans (u35 238 5 rfl)))
            exact k h55 1 g55 F56 (by omega) (fun _ => by omega) (show (h55 238 98) + (h55 238 99) + (h55 238 100) + (h55 238 101) + (h55 238 102) + (h55 238 106) = (h55 238 73) by omega) (show (h55 238 73) ≤ (h55 238 2) by omega) (show (h55 238 119) ≤ (h55 238 67) by omega) (show (h55 238 69) ≤ (h55 238 5) by omega) (show (h55 238 2) ≤ 12 * (h55 238 5) by omega)
      ·
        rw [q22]
        refine wr_V (k0 := 236) (rest := []) (as := [.ref 236, vi 1]) (nx := 33) (r1 := 267) (r2 := 1) (r3 := 11) rfl rfl rfl (of_decide_eq_true rfl) rfl rfl (by decide) rfl rfl (of_decide_eq_true rfl) (of_decide_eq_true rfl) ?_
        refine ct_267_236_L1 hcr  g    (fun z24  (fz24 : 0 ≤ z24 ∧ z24 ≤ 1) (p23_0 : z24 = 0 ∨ 1 ≤ (h 238 99)) (p23_1 : z24 = 0 ∨ (h 238 67) ≤ 9998) (p23_2 : z24 = 0 ∨ (1 ≤ (h 238 (43 + (h 238 80).toNat)) ∧ (h 238 102) < (h 238 7)) ∨ ((h 238 (43 + (h 238 80).toNat)) ≤ 0 ∧ (h 238 80) - (h 238 106) ≤ (h 238 3))) y23_0 => ?_)
        have b25 := gi_b (lo := 0) (hi := 11) g 238 80 rfl
        obtain ⟨i26, ei26⟩ : ∃ q : Nat, (43 + h 238 80) = (q : Int) := ⟨(43 + h 238 80).toNat, by omega⟩
        have b27 := gi_b (lo := 0) (hi := 999) g 238 i26 (gi_rg 43 12 (fun _ => rfl) (by decide +kernel) (by omega))
        have e28 : h 238 (43 + (h 238 80).toNat) = h 238 i26 := by rw [show 43 + (h 238 80).toNat = i26 by omega]
        have b29 := gi_b (lo := 0) (hi := 3) g 238 7 rfl
        have b30 := gi_b (lo := 0) (hi := 999) g 238 3 rfl
        refine wk_i ?_
        refine wi_if (cd := .eq) (nx := 36) (r1 := 58) (r2 := 0) (r3 := 0) rfl (by omega) (fun (q31 : z24 = 0) => ?_) (fun (q31 : ¬ (z24 = 0)) => ?_)
        ·
          refine wi_iconst (n := 0) (nx := 59) (r1 := 0) (r2 := 0) (r3 := 0) rfl ?_
          refine wi_istore_n (i := 3) (e := 0) (lo2 := [(3, vi 0), (0, .ref 236), (1, vi 1), (2, vi 1)]) (nx := 60) (r1 := 0) (r2 := 0) (r3 := 0) rfl rfl ?_
          refine wi_iload_n (i := 3) (e := 0) (nx := 61) (r1 := 0) (r2 := 0) (r3 := 0) rfl rfl ?_
          refine wi_if (cd := .eq) (nx := 64) (r1 := 98) (r2 := 0) (r3 := 0) rfl (by omega) (fun (q32 : 0 = 0) => ?_) (fun (q32 : ¬ (0 = 0)) => by exfalso; omega)
          refine wi_aload_n (i := 0) (x := 236) (nx := 99) (r1 := 0) (r2 := 0) (r3 := 0) rfl rfl ?_
          refine wi_aload_n (i := 0) (x := 236) (nx := 100) (r1 := 0) (r2 := 0) (r3 := 0) rfl rfl ?_
          have b33 := gi_b (lo := 0) (hi := 1) g 236 45 rfl
          refine wr_gi2 (k0 := 236) (x := h 236 45) (nx := 103) (r1 := 11) (r2 := 45) (r3 := 0) rfl rfl (by decide) rfl ⟨rfl, rfl⟩ rfl rfl ?_
          refine wi_if (cd := .ne) (nx := 106) (r1 := 110) (r2 := 0) (r3 := 0) rfl (by omega) (fun (q34 : (h 236 45) ≠ 0) => ?_) (fun (q34 : ¬ ((h 236 45) ≠ 0)) => ?_)
          ·
            refine wi_iconst (n := 1) (nx := 111) (r1 := 0) (r2 := 0) (r3 := 0) rfl ?_
            refine wi_goto (nx := 114) (r1 := 115) (r2 := 0) (r3 := 0) rfl ?_
            refine wr_pf2 (k0 := 236) (x := 1) (bl := 0) (bh := 1) (nx := 118) (r1 := 11) (r2 := 45) (r3 := 2) rfl (by decide) rfl ⟨rfl, rfl⟩ rfl (by omega) rfl g rfl (by omega) (fun h35 g35 w35 u35 => ?_)
            have F36 := F0.then rfl u35
            refine wi_iload_n (i := 3) (e := 0) (nx := 119) (r1 := 0) (r2 := 0) (r3 := 0) rfl rfl ?_
            refine wi_zreturn (nx := 120) (r1 := 0) (r2 := 0) (r3 := 0) rfl rfl (by omega) ?_
            have e37 : h35 238 98 = h 238 98 := (u35 238 98 rfl)
            have e38 : h35 238 99 = h 238 99 := (u35 238 99 rfl)
            have e39 : h35 238 100 = h 238 100 := (u35 238 100 rfl)
            have e40 : h35 238 101 = h 238 101 := (u35 238 101 rfl)
            have e41 : h35 238 102 = h 238 102 := (u35 238 102 rfl)
            have e42 : h35 238 106 = h 238 106 := (u35 238 106 rfl)
            have e43 : h35 238 73 = h 238 73 := (u35 238 73 rfl)
            have e44 : h35 238 2 = h 238 2 := (u35 238 2 rfl)
            have e45 : h35 238 119 = h 238 119 := (u35 238 119 rfl)
            have e46 : h35 238 67 = h 238 67 := (u35 238 67 rfl)
            have e47 : h35 238 69 = h 238 69 := (u35 238 69 rfl)
            have e48 : h35 238 5 = h 238 5 := (u35 238 5 rfl)
            exact k h35 0 g35 F36 (by omega) (fun _ => by omega) (show (h35 238 98) + (h35 238 99) + (h35 238 100) + (h35 238 101) + (h35 238 102) + (h35 238 106) = (h35 238 73) by omega) (show (h35 238 73) ≤ (h35 238 2) by omega) (show (h35 238 119) ≤ (h35 238 67) by omega) (show (h35 238 69) ≤ (h35 238 5) by omega) (show (h35 238 2) ≤ 12 * (h35 238 5) by omega)
          ·
            refine wi_iload_n (i := 3) (e := 0) (nx := 107) (r1 := 0) (r2 := 0) (r3 := 0) rfl rfl ?_
            refine wi_if (cd := .eq) (nx := 110) (r1 := 114) (r2 := 0) (r3 := 0) rfl (by omega) (fun (q35 : 0 = 0) => ?_) (fun (q35 : ¬ (0 = 0)) => by exfalso; omega)
            refine wi_iconst (n := 0) (nx := 115) (r1 := 0) (r2 := 0) (r3 := 0) rfl ?_
            refine wr_pf2 (k0 := 236) (x := 0) (bl := 0) (bh := 1) (nx := 118) (r1 := 11) (r2 := 45) (r3 := 2) rfl (by decide) rfl ⟨rfl, rfl⟩ rfl (by omega) rfl g rfl (by omega) (fun h36 g36 w36 u36 => ?_)
            have F37 := F0.then rfl u36
            refine wi_iload_n (i := 3) (e := 0) (nx := 119) (r1 := 0) (r2 := 0) (r3 := 0) rfl rfl ?_
            refine wi_zreturn (nx := 120) (r1 := 0) (r2 := 0) (r3 := 0) rfl rfl (by omega) ?_
            have e38 : h36 238 98 = h 238 98 := (u36 238 98 rfl)
            have e39 : h36 238 99 = h 238 99 := (u36 238 99 rfl)
            have e40 : h36 238 100 = h 238 100 := (u36 238 100 rfl)
            have e41 : h36 238 101 = h 238 101 := (u36 238 101 rfl)
            have e42 : h36 238 102 = h 238 102 := (u36 238 102 rfl)
            have e43 : h36 238 106 = h 238 106 := (u36 238 106 rfl)
            have e44 : h36 238 73 = h 238 73 := (u36 238 73 rfl)
            have e45 : h36 238 2 = h 238 2 := (u36 238 2 rfl)
            have e46 : h36 238 119 = h 238 119 := (u36 238 119 rfl)
            have e47 : h36 238 67 = h 238 67 := (u36 238 67 rfl)
            have e48 : h36 238 69 = h 238 69 := (u36 238 69 rfl)
            have e49 : h36 238 5 = h 238 5 := (u36 238 5 rfl)
            exact k h36 0 g36 F37 (by omega) (fun _ => by omega) (show (h36 238 98) + (h36 238 99) + (h36 238 100) + (h36 238 101) + (h36 238 102) + (h36 238 106) = (h36 238 73) by omega) (show (h36 238 73) ≤ (h36 238 2) by omega) (show (h36 238 119) ≤ (h36 238 67) by omega) (show (h36 238 69) ≤ (h36 238 5) by omega) (show (h36 238 2) ≤ 12 * (h36 238 5) by omega)
        ·
          refine wi_goto (nx := 39) (r1 := 54) (r2 := 0) (r3 := 0) rfl ?_
          refine wi_iconst (n := 1) (nx := 55) (r1 := 0) (r2 := 0) (r3 := 0) rfl ?_
          refine wi_goto (nx := 58) (r1 := 59) (r2 := 0) (r3 := 0) rfl ?_
          refine wi_istore_n (i := 3) (e := 1) (lo2 := [(3, vi 1), (0, .ref 236), (1, vi 1), (2, vi 1)]) (nx := 60) (r1 := 0) (r2 := 0) (r3 := 0) rfl rfl ?_
          refine wi_iload_n (i := 3) (e := 1) (nx := 61) (r1 := 0) (r2 := 0) (r3 := 0) rfl rfl ?_
          refine wi_if (cd := .eq) (nx := 64) (r1 := 98) (r2 := 0) (r3 := 0) rfl (by omega) (fun (q32 : 1 = 0) => by exfalso; omega) (fun (q32 : ¬ (1 = 0)) => ?_)
          refine wi_aload_n (i := 0) (x := 236) (nx := 65) (r1 := 0) (r2 := 0) (r3 := 0) rfl rfl ?_
          refine wi_iload_n (i := 1) (e := 1) (nx := 66) (r1 := 0) (r2 := 0) (r3 := 0) rfl rfl ?_
          refine wi_if (cd := .ne) (nx := 69) (r1 := 77) (r2 := 0) (r3 := 0) rfl (by omega) (fun (q33 : 1 ≠ 0) => ?_) (fun (q33 : ¬ (1 ≠ 0)) => by exfalso; omega)
          refine wi_iload_n (i := 1) (e := 1) (nx := 78) (r1 := 0) (r2 := 0) (r3 := 0) rfl rfl ?_
          refine wi_iconst (n := 1) (nx := 79) (r1 := 0) (r2 := 0) (r3 := 0) rfl ?_
          refine wi_icmp (cd := .ne) (nx := 82) (r1 := 90) (r2 := 0) (r3 := 0) rfl (by omega) (by omega) (fun (q34 : 1 ≠ 1) => by exfalso; omega) (fun (q34 : ¬ (1 ≠ 1)) => ?_)
          refine wi_aload_n (i := 0) (x := 236) (nx := 83) (r1 := 0) (r2 := 0) (r3 := 0) rfl rfl ?_
          refine wi_iload_n (i := 2) (e := 1) (nx := 84) (r1 := 0) (r2 := 0) (r3 := 0) rfl rfl ?_
          refine wr_V (k0 := 236) (rest := [.ref 236]) (as := [.ref 236, vi 1]) (nx := 87) (r1 := 282) (r2 := 1) (r3 := 11) rfl rfl rfl (of_decide_eq_true rfl) rfl rfl (by decide) rfl rfl (of_decide_eq_true rfl) (of_decide_eq_true rfl) ?_
          refine ct_282_236_L1 hcr  g   (show (h 238 98) + (h 238 99) + (h 238 100) + (h 238 101) + (h 238 102) + (h 238 106) = (h 238 73) by omega) (show (h 238 73) ≤ (h 238 2) by omega) (show (h 238 119) ≤ (h 238 67) by omega) (show (h 238 69) ≤ (h 238 5) by omega) (show (h 238 2) ≤ 12 * (h 238 5) by omega) (show 1 ≤ (h 238 99) by omega) (show (h 238 67) ≤ 9998 by omega) (show (h 238 102) ≤ 2 ∨ (h 238 (43 + (h 238 80).toNat)) ≤ 0 by omega) (fun h35 z36 g35 u35 (fz36 : 0 ≤ z36 ∧ z36 ≤ 11) (p35_0 : (h35 238 98) + (h35 238 99) + (h35 238 100) + (h35 238 101) + (h35 238 102) + (h35 238 106) = (h35 238 73)) (p35_1 : (h35 238 73) ≤ (h35 238 2)) (p35_2 : (h35 238 119) ≤ (h35 238 67)) (p35_3 : (h35 238 69) ≤ (h35 238 5)) (p35_4 : (h35 238 2) ≤ 12 * (h35 238 5)) => ?_)
          have F37 := F0.then (by decide +kernel) u35
          have e38 : h35 238 98 = h 238 98 := (u35 238 98 rfl)
          have b39 := gi_b (lo := 0) (hi := 6) g35 238 99 rfl
          have e40 : h35 238 100 = h 238 100 := (u35 238 100 rfl)
          have e41 : h35 238 101 = h 238 101 := (u35 238 101 rfl)
          have b42 := gi_b (lo := 0) (hi := 3) g35 238 102 rfl
          have b43 := gi_b (lo := 0) (hi := 12) g35 238 106 rfl
          have e44 : h35 238 73 = h 238 73 := (u35 238 73 rfl)
          have e45 : h35 238 2 = h 238 2 := (u35 238 2 rfl)
          have b46 := gi_b (lo := 0) (hi := 9999) g35 238 119 rfl
          have b47 := gi_b (lo := 0) (hi := 9999) g35 238 67 rfl
          have b48 := gi_b (lo := 0) (hi := 9) g35 238 69 rfl
          have e49 : h35 238 5 = h 238 5 := (u35 238 5 rfl)
          refine wk_i ?_
          refine wi_goto (nx := 90) (r1 := 95) (r2 := 0) (r3 := 0) rfl ?_
          refine wr_pf0 (k0 := 236) (x := z36) (bl := -2147483648) (bh := 2147483647) (nx := 98) (r1 := 11) (r2 := 28) (r3 := 0) rfl (by decide) rfl ⟨rfl, rfl⟩ rfl rfl g35 rfl (by omega) (fun h50 g50 w50 u50 => ?_)
          have F51 := F37.then rfl u50
          refine wi_aload_n (i := 0) (x := 236) (nx := 99) (r1 := 0) (r2 := 0) (r3 := 0) rfl rfl ?_
          refine wi_aload_n (i := 0) (x := 236) (nx := 100) (r1 := 0) (r2 := 0) (r3 := 0) rfl rfl ?_
          have b52 := gi_b (lo := 0) (hi := 1) g 236 45 rfl
          refine wr_gi2 (k0 := 236) (x := h 236 45) (nx := 103) (r1 := 11) (r2 := 45) (r3 := 0) rfl rfl (by decide) rfl ⟨rfl, rfl⟩ rfl ((u50 236 45 rfl).trans (u35 236 45 rfl)) ?_
          refine wi_if (cd := .ne) (nx := 106) (r1 := 110) (r2 := 0) (r3 := 0) rfl (by omega) (fun (q53 : (h 236 45) ≠ 0) => ?_) (fun (q53 : ¬ ((h 236 45) ≠ 0)) => ?_)
          ·
            refine wi_iconst (n := 1) (nx := 111) (r1 := 0) (r2 := 0) (r3 := 0) rfl ?_
            refine wi_goto (nx := 114) (r1 := 115) (r2 := 0) (r3 := 0) rfl ?_
            refine wr_pf2 (k0 := 236) (x := 1) (bl := 0) (bh := 1) (nx := 118) (r1 := 11) (r2 := 45) (r3 := 2) rfl (by decide) rfl ⟨rfl, rfl⟩ rfl (by omega) rfl g50 rfl (by omega) (fun h54 g54 w54 u54 => ?_)
            have F55 := F51.then rfl u54
            refine wi_iload_n (i := 3) (e := 1) (nx := 119) (r1 := 0) (r2 := 0) (r3 := 0) rfl rfl ?_
            refine wi_zreturn (nx := 120) (r1 := 0) (r2 := 0) (r3 := 0) rfl rfl (by omega) ?_
            have e56 : h54 238 98 = h 238 98 := ((u54 238 98 rfl).trans ((u50 238 98 rfl).trans (u35 238 98 rfl)))
            have e57 : h54 238 99 = h35 238 99 := ((u54 238 99 rfl).trans (u50 238 99 rfl))
            have e58 : h54 238 100 = h 238 100 := ((u54 238 100 rfl).trans ((u50 238 100 rfl).trans (u35 238 100 rfl)))
            have e59 : h54 238 101 = h 238 101 := ((u54 238 101 rfl).trans ((u50 238 101 rfl).trans (u35 238 101 rfl)))
            have e60 : h54 238 102 = h35 238 102 := ((u54 238 102 rfl).trans (u50 238 102 rfl))
            have e61 : h54 238 106 = h35 238 106 := ((u54 238 106 rfl).trans (u50 238 106 rfl))
            have e62 : h54 238 73 = h 238 73 := ((u54 238 73 rfl).trans ((u50 238 73 rfl).trans (u35 238 73 rfl)))
            have e63 : h54 238 2 = h 238 2 := ((u54 238 2 rfl).trans ((u50 238 2 rfl).trans (u35 238 2 rfl)))
            have e64 : h54 238 119 = h35 238 119 := ((u54 238 119 rfl).trans (u50 238 119 rfl))
            have e65 : h54 238 67 = h35 238 67 := ((u54 238 67 rfl).trans (u50 238 67 rfl))
            have e66 : h54 238 69 = h35 238 69 := ((u54 238 69 rfl).trans (u50 238 69 rfl))
            have e67 : h54 238 5 = h 238 5 := ((u54 238 5 rfl).trans ((u50 238 5 rfl).trans (u35 238 5 rfl)))
            exact k h54 1 g54 F55 (by omega) (fun _ => by omega) (show (h54 238 98) + (h54 238 99) + (h54 238 100) + (h54 238 101) + (h54 238 102) + (h54 238 106) = (h54 238 73) by omega) (show (h54 238 73) ≤ (h54 238 2) by omega) (show (h54 238 119) ≤ (h54 238 67) by omega) (show (h54 238 69) ≤ (h54 238 5) by omega) (show (h54 238 2) ≤ 12 * (h54 238 5) by omega)
          ·
            refine wi_iload_n (i := 3) (e := 1) (nx := 107) (r1 := 0) (r2 := 0) (r3 := 0) rfl rfl ?_
            refine wi_if (cd := .eq) (nx := 110) (r1 := 114) (r2 := 0) (r3 := 0) rfl (by omega) (fun (q54 : 1 = 0) => by exfalso; omega) (fun (q54 : ¬ (1 = 0)) => ?_)
            refine wi_iconst (n := 1) (nx := 111) (r1 := 0) (r2 := 0) (r3 := 0) rfl ?_
            refine wi_goto (nx := 114) (r1 := 115) (r2 := 0) (r3 := 0) rfl ?_
            refine wr_pf2 (k0 := 236) (x := 1) (bl := 0) (bh := 1) (nx := 118) (r1 := 11) (r2 := 45) (r3 := 2) rfl (by decide) rfl ⟨rfl, rfl⟩ rfl (by omega) rfl g50 rfl (by omega) (fun h55 g55 w55 u55 => ?_)
            have F56 := F51.then rfl u55
            refine wi_iload_n (i := 3) (e := 1) (nx := 119) (r1 := 0) (r2 := 0) (r3 := 0) rfl rfl ?_
            refine wi_zreturn (nx := 120) (r1 := 0) (r2 := 0) (r3 := 0) rfl rfl (by omega) ?_
            have e57 : h55 238 98 = h 238 98 := ((u55 238 98 rfl).trans ((u50 238 98 rfl).trans (u35 238 98 rfl)))
            have e58 : h55 238 99 = h35 238 99 := ((u55 238 99 rfl).trans (u50 238 99 rfl))
            have e59 : h55 238 100 = h 238 100 := ((u55 238 100 rfl).trans ((u50 238 100 rfl).trans (u35 238 100 rfl)))
            have e60 : h55 238 101 = h 238 101 := ((u55 238 101 rfl).trans ((u50 238 101 rfl).trans (u35 238 101 rfl)))
            have e61 : h55 238 102 = h35 238 102 := ((u55 238 102 rfl).trans (u50 238 102 rfl))
            have e62 : h55 238 106 = h35 238 106 := ((u55 238 106 rfl).trans (u50 238 106 rfl))
            have e63 : h55 238 73 = h 238 73 := ((u55 238 73 rfl).trans ((u50 238 73 rfl).trans (u35 238 73 rfl)))
            have e64 : h55 238 2 = h 238 2 := ((u55 238 2 rfl).trans ((u50 238 2 rfl).trans (u35 238 2 rfl)))
            have e65 : h55 238 119 = h35 238 119 := ((u55 238 119 rfl).trans (u50 238 119 rfl))
            have e66 : h55 238 67 = h35 238 67 := ((u55 238 67 rfl).trans (u50 238 67 rfl))
            have e67 : h55 238 69 = h35 238 69 := ((u55 238 69 rfl).trans (u50 238 69 rfl))
            have e68 : h55 238 5 = h 238 5 := ((u55 238 5 rfl).trans ((u50 238 5 rfl).trans (u35 238 5 rfl)))
            exact k h55 1 g55 F56 (by omega) (fun _ => by omega) (show (h55 238 98) + (h55 238 99) + (h55 238 100) + (h55 238 101) + (h55 238 102) + (h55 238 106) = (h55 238 73) by omega) (show (h55 238 73) ≤ (h55 238 2) by omega) (show (h55 238 119) ≤ (h55 238 67) by omega) (show (h55 238 69) ≤ (h55 238 5) by omega) (show (h55 238 2) ≤ 12 * (h55 238 5) by omega)
      ·
        rw [q22]
        refine wr_V (k0 := 236) (rest := []) (as := [.ref 236, vi 2]) (nx := 33) (r1 := 267) (r2 := 1) (r3 := 11) rfl rfl rfl (of_decide_eq_true rfl) rfl rfl (by decide) rfl rfl (of_decide_eq_true rfl) (of_decide_eq_true rfl) ?_
        refine ct_267_236_L2 hcr  g    (fun z24  (fz24 : 0 ≤ z24 ∧ z24 ≤ 1) (p23_0 : z24 = 0 ∨ 1 ≤ (h 238 100)) (p23_1 : z24 = 0 ∨ (h 238 67) ≤ 9998) (p23_2 : z24 = 0 ∨ (1 ≤ (h 238 (43 + (h 238 86).toNat)) ∧ (h 238 102) < (h 238 7)) ∨ ((h 238 (43 + (h 238 86).toNat)) ≤ 0 ∧ (h 238 86) - (h 238 106) ≤ (h 238 3))) y23_0 => ?_)
        have b25 := gi_b (lo := 0) (hi := 11) g 238 86 rfl
        obtain ⟨i26, ei26⟩ : ∃ q : Nat, (43 + h 238 86) = (q : Int) := ⟨(43 + h 238 86).toNat, by omega⟩
        have b27 := gi_b (lo := 0) (hi := 999) g 238 i26 (gi_rg 43 12 (fun _ => rfl) (by decide +kernel) (by omega))
        have e28 : h 238 (43 + (h 238 86).toNat) = h 238 i26 := by rw [show 43 + (h 238 86).toNat = i26 by omega]
        have b29 := gi_b (lo := 0) (hi := 3) g 238 7 rfl
        have b30 := gi_b (lo := 0) (hi := 999) g 238 3 rfl
        refine wk_i ?_
        refine wi_if (cd := .eq) (nx := 36) (r1 := 58) (r2 := 0) (r3 := 0) rfl (by omega) (fun (q31 : z24 = 0) => ?_) (fun (q31 : ¬ (z24 = 0)) => ?_)
        ·
          refine wi_iconst (n := 0) (nx := 59) (r1 := 0) (r2 := 0) (r3 := 0) rfl ?_
          refine wi_istore_n (i := 3) (e := 0) (lo2 := [(3, vi 0), (0, .ref 236), (1, vi 1), (2, vi 2)]) (nx := 60) (r1 := 0) (r2 := 0) (r3 := 0) rfl rfl ?_
          refine wi_iload_n (i := 3) (e := 0) (nx := 61) (r1 := 0) (r2 := 0) (r3 := 0) rfl rfl ?_
          refine wi_if (cd := .eq) (nx := 64) (r1 := 98) (r2 := 0) (r3 := 0) rfl (by omega) (fun (q32 : 0 = 0) => ?_) (fun (q32 : ¬ (0 = 0)) => by exfalso; omega)
          refine wi_aload_n (i := 0) (x := 236) (nx := 99) (r1 := 0) (r2 := 0) (r3 := 0) rfl rfl ?_
          refine wi_aload_n (i := 0) (x := 236) (nx := 100) (r1 := 0) (r2 := 0) (r3 := 0) rfl rfl ?_
          have b33 := gi_b (lo := 0) (hi := 1) g 236 45 rfl
          refine wr_gi2 (k0 := 236) (x := h 236 45) (nx := 103) (r1 := 11) (r2 := 45) (r3 := 0) rfl rfl (by decide) rfl ⟨rfl, rfl⟩ rfl rfl ?_
          refine wi_if (cd := .ne) (nx := 106) (r1 := 110) (r2 := 0) (r3 := 0) rfl (by omega) (fun (q34 : (h 236 45) ≠ 0) => ?_) (fun (q34 : ¬ ((h 236 45) ≠ 0)) => ?_)
          ·
            refine wi_iconst (n := 1) (nx := 111) (r1 := 0) (r2 := 0) (r3 := 0) rfl ?_
            refine wi_goto (nx := 114) (r1 := 115) (r2 := 0) (r3 := 0) rfl ?_
            refine wr_pf2 (k0 := 236) (x := 1) (bl := 0) (bh := 1) (nx := 118) (r1 := 11) (r2 := 45) (r3 := 2) rfl (by decide) rfl ⟨rfl, rfl⟩ rfl (by omega) rfl g rfl (by omega) (fun h35 g35 w35 u35 => ?_)
            have F36 := F0.then rfl u35
            refine wi_iload_n (i := 3) (e := 0) (nx := 119) (r1 := 0) (r2 := 0) (r3 := 0) rfl rfl ?_
            refine wi_zreturn (nx := 120) (r1 := 0) (r2 := 0) (r3 := 0) rfl rfl (by omega) ?_
            have e37 : h35 238 98 = h 238 98 := (u35 238 98 rfl)
            have e38 : h35 238 99 = h 238 99 := (u35 238 99 rfl)
            have e39 : h35 238 100 = h 238 100 := (u35 238 100 rfl)
            have e40 : h35 238 101 = h 238 101 := (u35 238 101 rfl)
            have e41 : h35 238 102 = h 238 102 := (u35 238 102 rfl)
            have e42 : h35 238 106 = h 238 106 := (u35 238 106 rfl)
            have e43 : h35 238 73 = h 238 73 := (u35 238 73 rfl)
            have e44 : h35 238 2 = h 238 2 := (u35 238 2 rfl)
            have e45 : h35 238 119 = h 238 119 := (u35 238 119 rfl)
            have e46 : h35 238 67 = h 238 67 := (u35 238 67 rfl)
            have e47 : h35 238 69 = h 238 69 := (u35 238 69 rfl)
            have e48 : h35 238 5 = h 238 5 := (u35 238 5 rfl)
            exact k h35 0 g35 F36 (by omega) (fun _ => by omega) (show (h35 238 98) + (h35 238 99) + (h35 238 100) + (h35 238 101) + (h35 238 102) + (h35 238 106) = (h35 238 73) by omega) (show (h35 238 73) ≤ (h35 238 2) by omega) (show (h35 238 119) ≤ (h35 238 67) by omega) (show (h35 238 69) ≤ (h35 238 5) by omega) (show (h35 238 2) ≤ 12 * (h35 238 5) by omega)
          ·
            refine wi_iload_n (i := 3) (e := 0) (nx := 107) (r1 := 0) (r2 := 0) (r3 := 0) rfl rfl ?_
            refine wi_if (cd := .eq) (nx := 110) (r1 := 114) (r2 := 0) (r3 := 0) rfl (by omega) (fun (q35 : 0 = 0) => ?_) (fun (q35 : ¬ (0 = 0)) => by exfalso; omega)
            refine wi_iconst (n := 0) (nx := 115) (r1 := 0) (r2 := 0) (r3 := 0) rfl ?_
            refine wr_pf2 (k0 := 236) (x := 0) (bl := 0) (bh := 1) (nx := 118) (r1 := 11) (r2 := 45) (r3 := 2) rfl (by decide) rfl ⟨rfl, rfl⟩ rfl (by omega) rfl g rfl (by omega) (fun h36 g36 w36 u36 => ?_)
            have F37 := F0.then rfl u36
            refine wi_iload_n (i := 3) (e := 0) (nx := 119) (r1 := 0) (r2 := 0) (r3 := 0) rfl rfl ?_
            refine wi_zreturn (nx := 120) (r1 := 0) (r2 := 0) (r3 := 0) rfl rfl (by omega) ?_
            have e38 : h36 238 98 = h 238 98 := (u36 238 98 rfl)
            have e39 : h36 238 99 = h 238 99 := (u36 238 99 rfl)
            have e40 : h36 238 100 = h 238 100 := (u36 238 100 rfl)
            have e41 : h36 238 101 = h 238 101 := (u36 238 101 rfl)
            have e42 : h36 238 102 = h 238 102 := (u36 238 102 rfl)
            have e43 : h36 238 106 = h 238 106 := (u36 238 106 rfl)
            have e44 : h36 238 73 = h 238 73 := (u36 238 73 rfl)
            have e45 : h36 238 2 = h 238 2 := (u36 238 2 rfl)
            have e46 : h36 238 119 = h 238 119 := (u36 238 119 rfl)
            have e47 : h36 238 67 = h 238 67 := (u36 238 67 rfl)
            have e48 : h36 238 69 = h 238 69 := (u36 238 69 rfl)
            have e49 : h36 238 5 = h 238 5 := (u36 238 5 rfl)
            exact k h36 0 g36 F37 (by omega) (fun _ => by omega) (show (h36 238 98) + (h36 238 99) + (h36 238 100) + (h36 238 101) + (h36 238 102) + (h36 238 106) = (h36 238 73) by omega) (show (h36 238 73) ≤ (h36 238 2) by omega) (show (h36 238 119) ≤ (h36 238 67) by omega) (show (h36 238 69) ≤ (h36 238 5) by omega) (show (h36 238 2) ≤ 12 * (h36 238 5) by omega)
        ·
          refine wi_goto (nx := 39) (r1 := 54) (r2 := 0) (r3 := 0) rfl ?_
          refine wi_iconst (n := 1) (nx := 55) (r1 := 0) (r2 := 0) (r3 := 0) rfl ?_
          refine wi_goto (nx := 58) (r1 := 59) (r2 := 0) (r3 := 0) rfl ?_
          refine wi_istore_n (i := 3) (e := 1) (lo2 := [(3, vi 1), (0, .ref 236), (1, vi 1), (2, vi 2)]) (nx := 60) (r1 := 0) (r2 := 0) (r3 := 0) rfl rfl ?_
          refine wi_iload_n (i := 3) (e := 1) (nx := 61) (r1 := 0) (r2 := 0) (r3 := 0) rfl rfl ?_
          refine wi_if (cd := .eq) (nx := 64) (r1 := 98) (r2 := 0) (r3 := 0) rfl (by omega) (fun (q32 : 1 = 0) => by exfalso; omega) (fun (q32 : ¬ (1 = 0)) => ?_)
          refine wi_aload_n (i := 0) (x := 236) (nx := 65) (r1 := 0) (r2 := 0) (r3 := 0) rfl rfl ?_
          refine wi_iload_n (i := 1) (e := 1) (nx := 66) (r1 := 0) (r2 := 0) (r3 := 0) rfl rfl ?_
          refine wi_if (cd := .ne) (nx := 69) (r1 := 77) (r2 := 0) (r3 := 0) rfl (by omega) (fun (q33 : 1 ≠ 0) => ?_) (fun (q33 : ¬ (1 ≠ 0)) => by exfalso; omega)
          refine wi_iload_n (i := 1) (e := 1) (nx := 78) (r1 := 0) (r2 := 0) (r3 := 0) rfl rfl ?_
          refine wi_iconst (n := 1) (nx := 79) (r1 := 0) (r2 := 0) (r3 := 0) rfl ?_
          refine wi_icmp (cd := .ne) (nx := 82) (r1 := 90) (r2 := 0) (r3 := 0) rfl (by omega) (by omega) (fun (q34 : 1 ≠ 1) => by exfalso; omega) (fun (q34 : ¬ (1 ≠ 1)) => ?_)
          refine wi_aload_n (i := 0) (x := 236) (nx := 83) (r1 := 0) (r2 := 0) (r3 := 0) rfl rfl ?_
          refine wi_iload_n (i := 2) (e := 2) (nx := 84) (r1 := 0) (r2 := 0) (r3 := 0) rfl rfl ?_
          refine wr_V (k0 := 236) (rest := [.ref 236]) (as := [.ref 236, vi 2]) (nx := 87) (r1 := 282) (r2 := 1) (r3 := 11) rfl rfl rfl (of_decide_eq_true rfl) rfl rfl (by decide) rfl rfl (of_decide_eq_true rfl) (of_decide_eq_true rfl) ?_
          refine ct_282_236_L2 hcr  g   (show (h 238 98) + (h 238 99) + (h 238 100) + (h 238 101) + (h 238 102) + (h 238 106) = (h 238 73) by omega) (show (h 238 73) ≤ (h 238 2) by omega) (show (h 238 119) ≤ (h 238 67) by omega) (show (h 238 69) ≤ (h 238 5) by omega) (show (h 238 2) ≤ 12 * (h 238 5) by omega) (show 1 ≤ (h 238 100) by omega) (show (h 238 67) ≤ 9998 by omega) (show (h 238 102) ≤ 2 ∨ (h 238 (43 + (h 238 86).toNat)) ≤ 0 by omega) (fun h35 z36 g35 u35 (fz36 : 0 ≤ z36 ∧ z36 ≤ 11) (p35_0 : (h35 238 98) + (h35 238 99) + (h35 238 100) + (h35 238 101) + (h35 238 102) + (h35 238 106) = (h35 238 73)) (p35_1 : (h35 238 73) ≤ (h35 238 2)) (p35_2 : (h35 238 119) ≤ (h35 238 67)) (p35_3 : (h35 238 69) ≤ (h35 238 5)) (p35_4 : (h35 238 2) ≤ 12 * (h35 238 5)) => ?_)
          have F37 := F0.then (by decide +kernel) u35
          have e38 : h35 238 98 = h 238 98 := (u35 238 98 rfl)
          have e39 : h35 238 99 = h 238 99 := (u35 238 99 rfl)
          have b40 := gi_b (lo := 0) (hi := 6) g35 238 100 rfl
          have e41 : h35 238 101 = h 238 101 := (u35 238 101 rfl)
          have b42 := gi_b (lo := 0) (hi := 3) g35 238 102 rfl
          have b43 := gi_b (lo := 0) (hi := 12) g35 238 106 rfl
          have e44 : h35 238 73 = h 238 73 := (u35 238 73 rfl)
          have e45 : h35 238 2 = h 238 2 := (u35 238 2 rfl)
          have b46 := gi_b (lo := 0) (hi := 9999) g35 238 119 rfl
          have b47 := gi_b (lo := 0) (hi := 9999) g35 238 67 rfl
          have b48 := gi_b (lo := 0) (hi := 9) g35 238 69 rfl
          have e49 : h35 238 5 = h 238 5 := (u35 238 5 rfl)
          refine wk_i ?_
          refine wi_goto (nx := 90) (r1 := 95) (r2 := 0) (r3 := 0) rfl ?_
          refine wr_pf0 (k0 := 236) (x := z36) (bl := -2147483648) (bh := 2147483647) (nx := 98) (r1 := 11) (r2 := 28) (r3 := 0) rfl (by decide) rfl ⟨rfl, rfl⟩ rfl rfl g35 rfl (by omega) (fun h50 g50 w50 u50 => ?_)
          have F51 := F37.then rfl u50
          refine wi_aload_n (i := 0) (x := 236) (nx := 99) (r1 := 0) (r2 := 0) (r3 := 0) rfl rfl ?_
          refine wi_aload_n (i := 0) (x := 236) (nx := 100) (r1 := 0) (r2 := 0) (r3 := 0) rfl rfl ?_
          have b52 := gi_b (lo := 0) (hi := 1) g 236 45 rfl
          refine wr_gi2 (k0 := 236) (x := h 236 45) (nx := 103) (r1 := 11) (r2 := 45) (r3 := 0) rfl rfl (by decide) rfl ⟨rfl, rfl⟩ rfl ((u50 236 45 rfl).trans (u35 236 45 rfl)) ?_
          refine wi_if (cd := .ne) (nx := 106) (r1 := 110) (r2 := 0) (r3 := 0) rfl (by omega) (fun (q53 : (h 236 45) ≠ 0) => ?_) (fun (q53 : ¬ ((h 236 45) ≠ 0)) => ?_)
          ·
            refine wi_iconst (n := 1) (nx := 111) (r1 := 0) (r2 := 0) (r3 := 0) rfl ?_
            refine wi_goto (nx := 114) (r1 := 115) (r2 := 0) (r3 := 0) rfl ?_
            refine wr_pf2 (k0 := 236) (x := 1) (bl := 0) (bh := 1) (nx := 118) (r1 := 11) (r2 := 45) (r3 := 2) rfl (by decide) rfl ⟨rfl, rfl⟩ rfl (by omega) rfl g50 rfl (by omega) (fun h54 g54 w54 u54 => ?_)
            have F55 := F51.then rfl u54
            refine wi_iload_n (i := 3) (e := 1) (nx := 119) (r1 := 0) (r2 := 0) (r3 := 0) rfl rfl ?_
            refine wi_zreturn (nx := 120) (r1 := 0) (r2 := 0) (r3 := 0) rfl rfl (by omega) ?_
            have e56 : h54 238 98 = h 238 98 := ((u54 238 98 rfl).trans ((u50 238 98 rfl).trans (u35 238 98 rfl)))
            have e57 : h54 238 99 = h 238 99 := ((u54 238 99 rfl).trans ((u50 238 99 rfl).trans (u35 238 99 rfl)))
            have e58 : h54 238 100 = h35 238 100 := ((u54 238 100 rfl).trans (u50 238 100 rfl))
            have e59 : h54 238 101 = h 238 101 := ((u54 238 101 rfl).trans ((u50 238 101 rfl).trans (u35 238 101 rfl)))
            have e60 : h54 238 102 = h35 238 102 := ((u54 238 102 rfl).trans (u50 238 102 rfl))
            have e61 : h54 238 106 = h35 238 106 := ((u54 238 106 rfl).trans (u50 238 106 rfl))
            have e62 : h54 238 73 = h 238 73 := ((u54 238 73 rfl).trans ((u50 238 73 rfl).trans (u35 238 73 rfl)))
            have e63 : h54 238 2 = h 238 2 := ((u54 238 2 rfl).trans ((u50 238 2 rfl).trans (u35 238 2 rfl)))
            have e64 : h54 238 119 = h35 238 119 := ((u54 238 119 rfl).trans (u50 238 119 rfl))
            have e65 : h54 238 67 = h35 238 67 := ((u54 238 67 rfl).trans (u50 238 67 rfl))
            have e66 : h54 238 69 = h35 238 69 := ((u54 238 69 rfl).trans (u50 238 69 rfl))
            have e67 : h54 238 5 = h 238 5 := ((u54 238 5 rfl).trans ((u50 238 5 rfl).trans (u35 238 5 rfl)))
            exact k h54 1 g54 F55 (by omega) (fun _ => by omega) (show (h54 238 98) + (h54 238 99) + (h54 238 100) + (h54 238 101) + (h54 238 102) + (h54 238 106) = (h54 238 73) by omega) (show (h54 238 73) ≤ (h54 238 2) by omega) (show (h54 238 119) ≤ (h54 238 67) by omega) (show (h54 238 69) ≤ (h54 238 5) by omega) (show (h54 238 2) ≤ 12 * (h54 238 5) by omega)
          ·
            refine wi_iload_n (i := 3) (e := 1) (nx := 107) (r1 := 0) (r2 := 0) (r3 := 0) rfl rfl ?_
            refine wi_if (cd := .eq) (nx := 110) (r1 := 114) (r2 := 0) (r3 := 0) rfl (by omega) (fun (q54 : 1 = 0) => by exfalso; omega) (fun (q54 : ¬ (1 = 0)) => ?_)
            refine wi_iconst (n := 1) (nx := 111) (r1 := 0) (r2 := 0) (r3 := 0) rfl ?_
            refine wi_goto (nx := 114) (r1 := 115) (r2 := 0) (r3 := 0) rfl ?_
            refine wr_pf2 (k0 := 236) (x := 1) (bl := 0) (bh := 1) (nx := 118) (r1 := 11) (r2 := 45) (r3 := 2) rfl (by decide) rfl ⟨rfl, rfl⟩ rfl (by omega) rfl g50 rfl (by omega) (fun h55 g55 w55 u55 => ?_)
            have F56 := F51.then rfl u55
            refine wi_iload_n (i := 3) (e := 1) (nx := 119) (r1 := 0) (r2 := 0) (r3 := 0) rfl rfl ?_
            refine wi_zreturn (nx := 120) (r1 := 0) (r2 := 0) (r3 := 0) rfl rfl (by omega) ?_
            have e57 : h55 238 98 = h 238 98 := ((u55 238 98 rfl).trans ((u50 238 98 rfl).trans (u35 238 98 rfl)))
            have e58 : h55 238 99 = h 238 99 := ((u55 238 99 rfl).trans ((u50 238 99 rfl).trans (u35 238 99 rfl)))
            have e59 : h55 238 100 = h35 238 100 := ((u55 238 100 rfl).trans (u50 238 100 rfl))
            have e60 : h55 238 101 = h 238 101 := ((u55 238 101 rfl).trans ((u50 238 101 rfl).trans (u35 238 101 rfl)))
            have e61 : h55 238 102 = h35 238 102 := ((u55 238 102 rfl).trans (u50 238 102 rfl))
            have e62 : h55 238 106 = h35 238 106 := ((u55 238 106 rfl).trans (u50 238 106 rfl))
            have e63 : h55 238 73 = h 238 73 := ((u55 238 73 rfl).trans ((u50 238 73 rfl).trans (u35 238 73 rfl)))
            have e64 : h55 238 2 = h 238 2 := ((u55 238 2 rfl).trans ((u50 238 2 rfl).trans (u35 238 2 rfl)))
            have e65 : h55 238 119 = h35 238 119 := ((u55 238 119 rfl).trans (u50 238 119 rfl))
            have e66 : h55 238 67 = h35 238 67 := ((u55 238 67 rfl).trans (u50 238 67 rfl))
            have e67 : h55 238 69 = h35 238 69 := ((u55 238 69 rfl).trans (u50 238 69 rfl))
            have e68 : h55 238 5 = h 238 5 := ((u55 238 5 rfl).trans ((u50 238 5 rfl).trans (u35 238 5 rfl)))
            exact k h55 1 g55 F56 (by omega) (fun _ => by omega) (show (h55 238 98) + (h55 238 99) + (h55 238 100) + (h55 238 101) + (h55 238 102) + (h55 238 106) = (h55 238 73) by omega) (show (h55 238 73) ≤ (h55 238 2) by omega) (show (h55 238 119) ≤ (h55 238 67) by omega) (show (h55 238 69) ≤ (h55 238 5) by omega) (show (h55 238 2) ≤ 12 * (h55 238 5) by omega)
      ·
        rw [q22]
        refine wr_V (k0 := 236) (rest := []) (as := [.ref 236, vi 3]) (nx := 33) (r1 := 267) (r2 := 1) (r3 := 11) rfl rfl rfl (of_decide_eq_true rfl) rfl rfl (by decide) rfl rfl (of_decide_eq_true rfl) (of_decide_eq_true rfl) ?_
        refine ct_267_236_L3 hcr  g    (fun z24  (fz24 : 0 ≤ z24 ∧ z24 ≤ 1) (p23_0 : z24 = 0 ∨ 1 ≤ (h 238 101)) (p23_1 : z24 = 0 ∨ (h 238 67) ≤ 9998) (p23_2 : z24 = 0 ∨ (1 ≤ (h 238 (43 + (h 238 92).toNat)) ∧ (h 238 102) < (h 238 7)) ∨ ((h 238 (43 + (h 238 92).toNat)) ≤ 0 ∧ (h 238 92) - (h 238 106) ≤ (h 238 3))) y23_0 => ?_)
        have b25 := gi_b (lo := 0) (hi := 11) g 238 92 rfl
        obtain ⟨i26, ei26⟩ : ∃ q : Nat, (43 + h 238 92) = (q : Int) := ⟨(43 + h 238 92).toNat, by omega⟩
        have b27 := gi_b (lo := 0) (hi := 999) g 238 i26 (gi_rg 43 12 (fun _ => rfl) (by decide +kernel) (by omega))
        have e28 : h 238 (43 + (h 238 92).toNat) = h 238 i26 := by rw [show 43 + (h 238 92).toNat = i26 by omega]
        have b29 := gi_b (lo := 0) (hi := 3) g 238 7 rfl
        have b30 := gi_b (lo := 0) (hi := 999) g 238 3 rfl
        refine wk_i ?_
        refine wi_if (cd := .eq) (nx := 36) (r1 := 58) (r2 := 0) (r3 := 0) rfl (by omega) (fun (q31 : z24 = 0) => ?_) (fun (q31 : ¬ (z24 = 0)) => ?_)
        ·
          refine wi_iconst (n := 0) (nx := 59) (r1 := 0) (r2 := 0) (r3 := 0) rfl ?_
          refine wi_istore_n (i := 3) (e := 0) (lo2 := [(3, vi 0), (0, .ref 236), (1, vi 1), (2, vi 3)]) (nx := 60) (r1 := 0) (r2 := 0) (r3 := 0) rfl rfl ?_
          refine wi_iload_n (i := 3) (e := 0) (nx := 61) (r1 := 0) (r2 := 0) (r3 := 0) rfl rfl ?_
          refine wi_if (cd := .eq) (nx := 64) (r1 := 98) (r2 := 0) (r3 := 0) rfl (by omega) (fun (q32 : 0 = 0) => ?_) (fun (q32 : ¬ (0 = 0)) => by exfalso; omega)
          refine wi_aload_n (i := 0) (x := 236) (nx := 99) (r1 := 0) (r2 := 0) (r3 := 0) rfl rfl ?_
          refine wi_aload_n (i := 0) (x := 236) (nx := 100) (r1 := 0) (r2 := 0) (r3 := 0) rfl rfl ?_
          have b33 := gi_b (lo := 0) (hi := 1) g 236 45 rfl
          refine wr_gi2 (k0 := 236) (x := h 236 45) (nx := 103) (r1 := 11) (r2 := 45) (r3 := 0) rfl rfl (by decide) rfl ⟨rfl, rfl⟩ rfl rfl ?_
          refine wi_if (cd := .ne) (nx := 106) (r1 := 110) (r2 := 0) (r3 := 0) rfl (by omega) (fun (q34 : (h 236 45) ≠ 0) => ?_) (fun (q34 : ¬ ((h 236 45) ≠ 0)) => ?_)
          ·
            refine wi_iconst (n := 1) (nx := 111) (r1 := 0) (r2 := 0) (r3 := 0) rfl ?_
            refine wi_goto (nx := 114) (r1 := 115) (r2 := 0) (r3 := 0) rfl ?_
            refine wr_pf2 (k0 := 236) (x := 1) (bl := 0) (bh := 1) (nx := 118) (r1 := 11) (r2 := 45) (r3 := 2) rfl (by decide) rfl ⟨rfl, rfl⟩ rfl (by omega) rfl g rfl (by omega) (fun h35 g35 w35 u35 => ?_)
            have F36 := F0.then rfl u35
            refine wi_iload_n (i := 3) (e := 0) (nx := 119) (r1 := 0) (r2 := 0) (r3 := 0) rfl rfl ?_
            refine wi_zreturn (nx := 120) (r1 := 0) (r2 := 0) (r3 := 0) rfl rfl (by omega) ?_
            have e37 : h35 238 98 = h 238 98 := (u35 238 98 rfl)
            have e38 : h35 238 99 = h 238 99 := (u35 238 99 rfl)
            have e39 : h35 238 100 = h 238 100 := (u35 238 100 rfl)
            have e40 : h35 238 101 = h 238 101 := (u35 238 101 rfl)
            have e41 : h35 238 102 = h 238 102 := (u35 238 102 rfl)
            have e42 : h35 238 106 = h 238 106 := (u35 238 106 rfl)
            have e43 : h35 238 73 = h 238 73 := (u35 238 73 rfl)
            have e44 : h35 238 2 = h 238 2 := (u35 238 2 rfl)
            have e45 : h35 238 119 = h 238 119 := (u35 238 119 rfl)
            have e46 : h35 238 67 = h 238 67 := (u35 238 67 rfl)
            have e47 : h35 238 69 = h 238 69 := (u35 238 69 rfl)
            have e48 : h35 238 5 = h 238 5 := (u35 238 5 rfl)
            exact k h35 0 g35 F36 (by omega) (fun _ => by omega) (show (h35 238 98) + (h35 238 99) + (h35 238 100) + (h35 238 101) + (h35 238 102) + (h35 238 106) = (h35 238 73) by omega) (show (h35 238 73) ≤ (h35 238 2) by omega) (show (h35 238 119) ≤ (h35 238 67) by omega) (show (h35 238 69) ≤ (h35 238 5) by omega) (show (h35 238 2) ≤ 12 * (h35 238 5) by omega)
          ·
            refine wi_iload_n (i := 3) (e := 0) (nx := 107) (r1 := 0) (r2 := 0) (r3 := 0) rfl rfl ?_
            refine wi_if (cd := .eq) (nx := 110) (r1 := 114) (r2 := 0) (r3 := 0) rfl (by omega) (fun (q35 : 0 = 0) => ?_) (fun (q35 : ¬ (0 = 0)) => by exfalso; omega)
            refine wi_iconst (n := 0) (nx := 115) (r1 := 0) (r2 := 0) (r3 := 0) rfl ?_
            refine wr_pf2 (k0 := 236) (x := 0) (bl := 0) (bh := 1) (nx := 118) (r1 := 11) (r2 := 45) (r3 := 2) rfl (by decide) rfl ⟨rfl, rfl⟩ rfl (by omega) rfl g rfl (by omega) (fun h36 g36 w36 u36 => ?_)
            have F37 := F0.then rfl u36
            refine wi_iload_n (i := 3) (e := 0) (nx := 119) (r1 := 0) (r2 := 0) (r3 := 0) rfl rfl ?_
            refine wi_zreturn (nx := 120) (r1 := 0) (r2 := 0) (r3 := 0) rfl rfl (by omega) ?_
            have e38 : h36 238 98 = h 238 98 := (u36 238 98 rfl)
            have e39 : h36 238 99 = h 238 99 := (u36 238 99 rfl)
            have e40 : h36 238 100 = h 238 100 := (u36 238 100 rfl)
            have e41 : h36 238 101 = h 238 101 := (u36 238 101 rfl)
            have e42 : h36 238 102 = h 238 102 := (u36 238 102 rfl)
            have e43 : h36 238 106 = h 238 106 := (u36 238 106 rfl)
            have e44 : h36 238 73 = h 238 73 := (u36 238 73 rfl)
            have e45 : h36 238 2 = h 238 2 := (u36 238 2 rfl)
            have e46 : h36 238 119 = h 238 119 := (u36 238 119 rfl)
            have e47 : h36 238 67 = h 238 67 := (u36 238 67 rfl)
            have e48 : h36 238 69 = h 238 69 := (u36 238 69 rfl)
            have e49 : h36 238 5 = h 238 5 := (u36 238 5 rfl)
            exact k h36 0 g36 F37 (by omega) (fun _ => by omega) (show (h36 238 98) + (h36 238 99) + (h36 238 100) + (h36 238 101) + (h36 238 102) + (h36 238 106) = (h36 238 73) by omega) (show (h36 238 73) ≤ (h36 238 2) by omega) (show (h36 238 119) ≤ (h36 238 67) by omega) (show (h36 238 69) ≤ (h36 238 5) by omega) (show (h36 238 2) ≤ 12 * (h36 238 5) by omega)
        ·
          refine wi_goto (nx := 39) (r1 := 54) (r2 := 0) (r3 := 0) rfl ?_
          refine wi_iconst (n := 1) (nx := 55) (r1 := 0) (r2 := 0) (r3 := 0) rfl ?_
          refine wi_goto (nx := 58) (r1 := 59) (r2 := 0) (r3 := 0) rfl ?_
          refine wi_istore_n (i := 3) (e := 1) (lo2 := [(3, vi 1), (0, .ref 236), (1, vi 1), (2, vi 3)]) (nx := 60) (r1 := 0) (r2 := 0) (r3 := 0) rfl rfl ?_
          refine wi_iload_n (i := 3) (e := 1) (nx := 61) (r1 := 0) (r2 := 0) (r3 := 0) rfl rfl ?_
          refine wi_if (cd := .eq) (nx := 64) (r1 := 98) (r2 := 0) (r3 := 0) rfl (by omega) (fun (q32 : 1 = 0) => by exfalso; omega) (fun (q32 : ¬ (1 = 0)) => ?_)
          refine wi_aload_n (i := 0) (x := 236) (nx := 65) (r1 := 0) (r2 := 0) (r3 := 0) rfl rfl ?_
          refine wi_iload_n (i := 1) (e := 1) (nx := 66) (r1 := 0) (r2 := 0) (r3 := 0) rfl rfl ?_
          refine wi_if (cd := .ne) (nx := 69) (r1 := 77) (r2 := 0) (r3 := 0) rfl (by omega) (fun (q33 : 1 ≠ 0) => ?_) (fun (q33 : ¬ (1 ≠ 0)) => by exfalso; omega)
          refine wi_iload_n (i := 1) (e := 1) (nx := 78) (r1 := 0) (r2 := 0) (r3 := 0) rfl rfl ?_
          refine wi_iconst (n := 1) (nx := 79) (r1 := 0) (r2 := 0) (r3 := 0) rfl ?_
          refine wi_icmp (cd := .ne) (nx := 82) (r1 := 90) (r2 := 0) (r3 := 0) rfl (by omega) (by omega) (fun (q34 : 1 ≠ 1) => by exfalso; omega) (fun (q34 : ¬ (1 ≠ 1)) => ?_)
          refine wi_aload_n (i := 0) (x := 236) (nx := 83) (r1 := 0) (r2 := 0) (r3 := 0) rfl rfl ?_
          refine wi_iload_n (i := 2) (e := 3) (nx := 84) (r1 := 0) (r2 := 0) (r3 := 0) rfl rfl ?_
          refine wr_V (k0 := 236) (rest := [.ref 236]) (as := [.ref 236, vi 3]) (nx := 87) (r1 := 282) (r2 := 1) (r3 := 11) rfl rfl rfl (of_decide_eq_true rfl) rfl rfl (by decide) rfl rfl (of_decide_eq_true rfl) (of_decide_eq_true rfl) ?_
          refine ct_282_236_L3 hcr  g   (show (h 238 98) + (h 238 99) + (h 238 100) + (h 238 101) + (h 238 102) + (h 238 106) = (h 238 73) by omega) (show (h 238 73) ≤ (h 238 2) by omega) (show (h 238 119) ≤ (h 238 67) by omega) (show (h 238 69) ≤ (h 238 5) by omega) (show (h 238 2) ≤ 12 * (h 238 5) by omega) (show 1 ≤ (h 238 101) by omega) (show (h 238 67) ≤ 9998 by omega) (show (h 238 102) ≤ 2 ∨ (h 238 (43 + (h 238 92).toNat)) ≤ 0 by omega) (fun h35 z36 g35 u35 (fz36 : 0 ≤ z36 ∧ z36 ≤ 11) (p35_0 : (h35 238 98) + (h35 238 99) + (h35 238 100) + (h35 238 101) + (h35 238 102) + (h35 238 106) = (h35 238 73)) (p35_1 : (h35 238 73) ≤ (h35 238 2)) (p35_2 : (h35 238 119) ≤ (h35 238 67)) (p35_3 : (h35 238 69) ≤ (h35 238 5)) (p35_4 : (h35 238 2) ≤ 12 * (h35 238 5)) => ?_)
          have F37 := F0.then (by decide +kernel) u35
          have e38 : h35 238 98 = h 238 98 := (u35 238 98 rfl)
          have e39 : h35 238 99 = h 238 99 := (u35 238 99 rfl)
          have e40 : h35 238 100 = h 238 100 := (u35 238 100 rfl)
          have b41 := gi_b (lo := 0) (hi := 6) g35 238 101 rfl
          have b42 := gi_b (lo := 0) (hi := 3) g35 238 102 rfl
          have b43 := gi_b (lo := 0) (hi := 12) g35 238 106 rfl
          have e44 : h35 238 73 = h 238 73 := (u35 238 73 rfl)
          have e45 : h35 238 2 = h 238 2 := (u35 238 2 rfl)
          have b46 := gi_b (lo := 0) (hi := 9999) g35 238 119 rfl
          have b47 := gi_b (lo := 0) (hi := 9999) g35 238 67 rfl
          have b48 := gi_b (lo := 0) (hi := 9) g35 238 69 rfl
          have e49 : h35 238 5 = h 238 5 := (u35 238 5 rfl)
          refine wk_i ?_
          refine wi_goto (nx := 90) (r1 := 95) (r2 := 0) (r3 := 0) rfl ?_
          refine wr_pf0 (k0 := 236) (x := z36) (bl := -2147483648) (bh := 2147483647) (nx := 98) (r1 := 11) (r2 := 28) (r3 := 0) rfl (by decide) rfl ⟨rfl, rfl⟩ rfl rfl g35 rfl (by omega) (fun h50 g50 w50 u50 => ?_)
          have F51 := F37.then rfl u50
          refine wi_aload_n (i := 0) (x := 236) (nx := 99) (r1 := 0) (r2 := 0) (r3 := 0) rfl rfl ?_
          refine wi_aload_n (i := 0) (x := 236) (nx := 100) (r1 := 0) (r2 := 0) (r3 := 0) rfl rfl ?_
          have b52 := gi_b (lo := 0) (hi := 1) g 236 45 rfl
          refine wr_gi2 (k0 := 236) (x := h 236 45) (nx := 103) (r1 := 11) (r2 := 45) (r3 := 0) rfl rfl (by decide) rfl ⟨rfl, rfl⟩ rfl ((u50 236 45 rfl).trans (u35 236 45 rfl)) ?_
          refine wi_if (cd := .ne) (nx := 106) (r1 := 110) (r2 := 0) (r3 := 0) rfl (by omega) (fun (q53 : (h 236 45) ≠ 0) => ?_) (fun (q53 : ¬ ((h 236 45) ≠ 0)) => ?_)
          ·
            refine wi_iconst (n := 1) (nx := 111) (r1 := 0) (r2 := 0) (r3 := 0) rfl ?_
            refine wi_goto (nx := 114) (r1 := 115) (r2 := 0) (r3 := 0) rfl ?_
            refine wr_pf2 (k0 := 236) (x := 1) (bl := 0) (bh := 1) (nx := 118) (r1 := 11) (r2 := 45) (r3 := 2) rfl (by decide) rfl ⟨rfl, rfl⟩ rfl (by omega) rfl g50 rfl (by omega) (fun h54 g54 w54 u54 => ?_)
            have F55 := F51.then rfl u54
            refine wi_iload_n (i := 3) (e := 1) (nx := 119) (r1 := 0) (r2 := 0) (r3 := 0) rfl rfl ?_
            refine wi_zreturn (nx := 120) (r1 := 0) (r2 := 0) (r3 := 0) rfl rfl (by omega) ?_
            have e56 : h54 238 98 = h 238 98 := ((u54 238 98 rfl).trans ((u50 238 98 rfl).trans (u35 238 98 rfl)))
            have e57 : h54 238 99 = h 238 99 := ((u54 238 99 rfl).trans ((u50 238 99 rfl).trans (u35 238 99 rfl)))
            have e58 : h54 238 100 = h 238 100 := ((u54 238 100 rfl).trans ((u50 238 100 rfl).trans (u35 238 100 rfl)))
            have e59 : h54 238 101 = h35 238 101 := ((u54 238 101 rfl).trans (u50 238 101 rfl))
            have e60 : h54 238 102 = h35 238 102 := ((u54 238 102 rfl).trans (u50 238 102 rfl))
            have e61 : h54 238 106 = h35 238 106 := ((u54 238 106 rfl).trans (u50 238 106 rfl))
            have e62 : h54 238 73 = h 238 73 := ((u54 238 73 rfl).trans ((u50 238 73 rfl).trans (u35 238 73 rfl)))
            have e63 : h54 238 2 = h 238 2 := ((u54 238 2 rfl).trans ((u50 238 2 rfl).trans (u35 238 2 rfl)))
            have e64 : h54 238 119 = h35 238 119 := ((u54 238 119 rfl).trans (u50 238 119 rfl))
            have e65 : h54 238 67 = h35 238 67 := ((u54 238 67 rfl).trans (u50 238 67 rfl))
            have e66 : h54 238 69 = h35 238 69 := ((u54 238 69 rfl).trans (u50 238 69 rfl))
            have e67 : h54 238 5 = h 238 5 := ((u54 238 5 rfl).trans ((u50 238 5 rfl).trans (u35 238 5 rfl)))
            exact k h54 1 g54 F55 (by omega) (fun _ => by omega) (show (h54 238 98) + (h54 238 99) + (h54 238 100) + (h54 238 101) + (h54 238 102) + (h54 238 106) = (h54 238 73) by omega) (show (h54 238 73) ≤ (h54 238 2) by omega) (show (h54 238 119) ≤ (h54 238 67) by omega) (show (h54 238 69) ≤ (h54 238 5) by omega) (show (h54 238 2) ≤ 12 * (h54 238 5) by omega)
          ·
            refine wi_iload_n (i := 3) (e := 1) (nx := 107) (r1 := 0) (r2 := 0) (r3 := 0) rfl rfl ?_
            refine wi_if (cd := .eq) (nx := 110) (r1 := 114) (r2 := 0) (r3 := 0) rfl (by omega) (fun (q54 : 1 = 0) => by exfalso; omega) (fun (q54 : ¬ (1 = 0)) => ?_)
            refine wi_iconst (n := 1) (nx := 111) (r1 := 0) (r2 := 0) (r3 := 0) rfl ?_
            refine wi_goto (nx := 114) (r1 := 115) (r2 := 0) (r3 := 0) rfl ?_
            refine wr_pf2 (k0 := 236) (x := 1) (bl := 0) (bh := 1) (nx := 118) (r1 := 11) (r2 := 45) (r3 := 2) rfl (by decide) rfl ⟨rfl, rfl⟩ rfl (by omega) rfl g50 rfl (by omega) (fun h55 g55 w55 u55 => ?_)
            have F56 := F51.then rfl u55
            refine wi_iload_n (i := 3) (e := 1) (nx := 119) (r1 := 0) (r2 := 0) (r3 := 0) rfl rfl ?_
            refine wi_zreturn (nx := 120) (r1 := 0) (r2 := 0) (r3 := 0) rfl rfl (by omega) ?_
            have e57 : h55 238 98 = h 238 98 := ((u55 238 98 rfl).trans ((u50 238 98 rfl).trans (u35 238 98 rfl)))
            have e58 : h55 238 99 = h 238 99 := ((u55 238 99 rfl).trans ((u50 238 99 rfl).trans (u35 238 99 rfl)))
            have e59 : h55 238 100 = h 238 100 := ((u55 238 100 rfl).trans ((u50 238 100 rfl).trans (u35 238 100 rfl)))
            have e60 : h55 238 101 = h35 238 101 := ((u55 238 101 rfl).trans (u50 238 101 rfl))
            have e61 : h55 238 102 = h35 238 102 := ((u55 238 102 rfl).trans (u50 238 102 rfl))
            have e62 : h55 238 106 = h35 238 106 := ((u55 238 106 rfl).trans (u50 238 106 rfl))
            have e63 : h55 238 73 = h 238 73 := ((u55 238 73 rfl).trans ((u50 238 73 rfl).trans (u35 238 73 rfl)))
            have e64 : h55 238 2 = h 238 2 := ((u55 238 2 rfl).trans ((u50 238 2 rfl).trans (u35 238 2 rfl)))
            have e65 : h55 238 119 = h35 238 119 := ((u55 238 119 rfl).trans (u50 238 119 rfl))
            have e66 : h55 238 67 = h35 238 67 := ((u55 238 67 rfl).trans (u50 238 67 rfl))
            have e67 : h55 238 69 = h35 238 69 := ((u55 238 69 rfl).trans (u50 238 69 rfl))
            have e68 : h55 238 5 = h 238 5 := ((u55 238 5 rfl).trans ((u50 238 5 rfl).trans (u35 238 5 rfl)))
            exact k h55 1 g55 F56 (by omega) (fun _ => by omega) (show (h55 238 98) + (h55 238 99) + (h55 238 100) + (h55 238 101) + (h55 238 102) + (h55 238 106) = (h55 238 73) by omega) (show (h55 238 73) ≤ (h55 238 2) by omega) (show (h55 238 119) ≤ (h55 238 67) by omega) (show (h55 238 69) ≤ (h55 238 5) by omega) (show (h55 238 2) ≤ 12 * (h55 238 5) by omega)
