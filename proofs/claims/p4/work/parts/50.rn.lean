-- method 292: Model.steps()I
set_option maxRecDepth 100000 in
set_option maxHeartbeats 100000000 in
theorem ct_292_236 {L : Nat} {xs : Nat → Int32} {d b c : Nat} {h : hp} {cr : Nat → Nat → Option Nat} {Q : hp_Q} (hcr : CR cr)  (g : GI h)   (pp0 : h 238 98 + h 238 99 + h 238 100 + h 238 101 + h 238 102 + h 238 106 = h 238 73) (pp1 : h 238 73 ≤ h 238 2) (pp2 : h 238 119 ≤ h 238 67) (pp3 : h 238 69 ≤ h 238 5) (pp4 : h 238 2 ≤ 12 * h 238 5) (k : ∀ (h2 : hp) (z0 : Int) , GI h2 → FR [(236, 236, some (28, 28)), (238, 238, some (43, 54)), (238, 238, some (55, 66)), (238, 238, some (67, 67)), (238, 238, some (68, 68)), (238, 238, some (69, 69)), (238, 238, some (70, 70)), (238, 238, some (71, 71)), (238, 238, some (72, 72)), (238, 238, some (73, 73)), (238, 238, some (74, 79)), (238, 238, some (80, 85)), (238, 238, some (86, 91)), (238, 238, some (92, 97)), (238, 238, some (98, 98)), (238, 238, some (99, 99)), (238, 238, some (100, 100)), (238, 238, some (101, 101)), (238, 238, some (102, 102)), (238, 238, some (103, 105)), (238, 238, some (106, 106)), (238, 238, some (107, 118)), (238, 238, some (119, 119)), (238, 238, some (120, 196)), (238, 238, some (121, 197)), (238, 238, some (122, 198)), (238, 238, some (123, 199))] h h2 → (-1 ≤ z0 ∧ z0 ≤ 3) → (h2 238 98 + h2 238 99 + h2 238 100 + h2 238 101 + h2 238 102 + h2 238 106 = h2 238 73) → (h2 238 73 ≤ h2 238 2) → (h2 238 119 ≤ h2 238 67) → (h2 238 69 ≤ h2 238 5) → (h2 238 2 ≤ 12 * h2 238 5) → Q (.inl (some (vi z0))) (hp_w h2 cr) b c) : wp (md_xa (L, xs)) (d + 4) 292 (0, [(0, .ref 236)], [], hp_w h cr, b, c) Q := by
  have F0 : FR [(236, 236, some (28, 28)), (238, 238, some (43, 54)), (238, 238, some (55, 66)), (238, 238, some (67, 67)), (238, 238, some (68, 68)), (238, 238, some (69, 69)), (238, 238, some (70, 70)), (238, 238, some (71, 71)), (238, 238, some (72, 72)), (238, 238, some (73, 73)), (238, 238, some (74, 79)), (238, 238, some (80, 85)), (238, 238, some (86, 91)), (238, 238, some (92, 97)), (238, 238, some (98, 98)), (238, 238, some (99, 99)), (238, 238, some (100, 100)), (238, 238, some (101, 101)), (238, 238, some (102, 102)), (238, 238, some (103, 105)), (238, 238, some (106, 106)), (238, 238, some (107, 118)), (238, 238, some (119, 119)), (238, 238, some (120, 196)), (238, 238, some (121, 197)), (238, 238, some (122, 198)), (238, 238, some (123, 199))] h h := FR.refl
  have b1 := gi_b (lo := 0) (hi := 6) g 238 98 rfl
  have b2 := gi_b (lo := 0) (hi := 6) g 238 99 rfl
  have b3 := gi_b (lo := 0) (hi := 6) g 238 100 rfl
  have b4 := gi_b (lo := 0) (hi := 6) g 238 101 rfl
  have b5 := gi_b (lo := 0) (hi := 3) g 238 102 rfl
  have b6 := gi_b (lo := 0) (hi := 12) g 238 106 rfl
  have b7 := gi_b (lo := 0) (hi := 12) g 238 73 rfl
  have b8 := gi_b (lo := 0) (hi := 12) g 238 2 rfl
  have b9 := gi_b (lo := 0) (hi := 9999) g 238 119 rfl
  have b10 := gi_b (lo := 0) (hi := 9999) g 238 67 rfl
  have b11 := gi_b (lo := 0) (hi := 9) g 238 69 rfl
  have b12 := gi_b (lo := 0) (hi := 9) g 238 5 rfl
  refine wi_aload_n (i := 0) (x := 236) (nx := 1) (r1 := 0) (r2 := 0) (r3 := 0) rfl rfl ?_
  refine wr_V (k0 := 236) (rest := []) (as := [.ref 236]) (nx := 4) (r1 := 289) (r2 := 0) (r3 := 11) rfl rfl rfl (of_decide_eq_true rfl) rfl rfl (by decide) rfl rfl (of_decide_eq_true rfl) (of_decide_eq_true rfl) ?_
  refine ct_289_236 hcr  g    (fun z14  (fz14 : -1 ≤ z14 ∧ z14 ≤ 3) y13_0 => ?_)
  refine wk_i ?_
  refine wi_istore_n (i := 1) (e := z14) (lo2 := [(1, vi z14), (0, .ref 236)]) (nx := 5) (r1 := 0) (r2 := 0) (r3 := 0) rfl rfl ?_
  refine wi_iload_n (i := 1) (e := z14) (nx := 6) (r1 := 0) (r2 := 0) (r3 := 0) rfl rfl ?_
  refine wi_if (cd := .ne) (nx := 9) (r1 := 28) (r2 := 0) (r3 := 0) rfl (by omega) (fun (q15 : z14 ≠ 0) => ?_) (fun (q15 : ¬ (z14 ≠ 0)) => ?_)
  ·
    refine wi_iload_n (i := 1) (e := z14) (nx := 29) (r1 := 0) (r2 := 0) (r3 := 0) rfl rfl ?_
    refine wi_iconst (n := 1) (nx := 30) (r1 := 0) (r2 := 0) (r3 := 0) rfl ?_
    refine wi_icmp (cd := .ne) (nx := 33) (r1 := 52) (r2 := 0) (r3 := 0) rfl (by omega) (by omega) (fun (q16 : z14 ≠ 1) => ?_) (fun (q16 : ¬ (z14 ≠ 1)) => ?_)
    ·
      refine wi_iload_n (i := 1) (e := z14) (nx := 53) (r1 := 0) (r2 := 0) (r3 := 0) rfl rfl ?_
      refine wi_iconst (n := 2) (nx := 54) (r1 := 0) (r2 := 0) (r3 := 0) rfl ?_
      refine wi_icmp (cd := .ne) (nx := 57) (r1 := 69) (r2 := 0) (r3 := 0) rfl (by omega) (by omega) (fun (q17 : z14 ≠ 2) => ?_) (fun (q17 : ¬ (z14 ≠ 2)) => ?_)
      ·
        refine wi_iload_n (i := 1) (e := z14) (nx := 70) (r1 := 0) (r2 := 0) (r3 := 0) rfl rfl ?_
        refine wi_iconst (n := 3) (nx := 71) (r1 := 0) (r2 := 0) (r3 := 0) rfl ?_
        refine wi_icmp (cd := .ne) (nx := 74) (r1 := 85) (r2 := 0) (r3 := 0) rfl (by omega) (by omega) (fun (q18 : z14 ≠ 3) => ?_) (fun (q18 : ¬ (z14 ≠ 3)) => ?_)
        ·
          refine wi_iload_n (i := 1) (e := z14) (nx := 86) (r1 := 0) (r2 := 0) (r3 := 0) rfl rfl ?_
          refine wi_ireturn (nx := 87) (r1 := 0) (r2 := 0) (r3 := 0) rfl rfl ?_
          exact k h z14 g F0 (by omega) (show (h 238 98) + (h 238 99) + (h 238 100) + (h 238 101) + (h 238 102) + (h 238 106) = (h 238 73) by omega) (show (h 238 73) ≤ (h 238 2) by omega) (show (h 238 119) ≤ (h 238 67) by omega) (show (h 238 69) ≤ (h 238 5) by omega) (show (h 238 2) ≤ 12 * (h 238 5) by omega)
        ·
          have f19 : h 238 67 ≤ 9998 := y13_0.2.2.2 (by omega)
          refine wi_aload_n (i := 0) (x := 236) (nx := 75) (r1 := 0) (r2 := 0) (r3 := 0) rfl rfl ?_
          refine wr_gr (k0 := 236) (x := 238) (nx := 78) (r1 := 11) (r2 := 13) (r3 := 0) rfl rfl (by decide) rfl ⟨rfl, rfl⟩ rfl ?_
          refine wi_bipush (n := 67) (nx := 80) (r1 := 0) (r2 := 0) (r3 := 0) rfl (by decide) ?_
          refine wi_dup2 (nx := 81) (r1 := 0) (r2 := 0) (r3 := 0) rfl rfl rfl ?_
          refine wr_ia (k0 := 238) (a := 67) (f := 67) (x := h 238 67) (nx := 82) (r1 := 0) (r2 := 0) (r3 := 0) rfl (by decide) rfl (by omega) (by omega) (by decide) rfl ?_
          refine wi_iconst (n := 1) (nx := 83) (r1 := 0) (r2 := 0) (r3 := 0) rfl ?_
          refine wr_add (nx := 84) (r1 := 0) (r2 := 0) (r3 := 0) rfl (fun e20 (fe20 : e20 = (h 238 67) + 1) => ?_)
          refine wr_is (k0 := 238) (a := 67) (f := 67) (x := e20) (bl := 0) (bh := 9999) (nx := 85) (r1 := 0) (r2 := 0) (r3 := 0) rfl (by decide) rfl (by omega) (by omega) (by decide) g rfl (by omega) (fun h21 g21 w21 u21 => ?_)
          have F22 := F0.then rfl u21
          refine wi_iload_n (i := 1) (e := z14) (nx := 86) (r1 := 0) (r2 := 0) (r3 := 0) rfl rfl ?_
          refine wi_ireturn (nx := 87) (r1 := 0) (r2 := 0) (r3 := 0) rfl rfl ?_
          have e23 : h21 238 98 = h 238 98 := (u21 238 98 rfl)
          have e24 : h21 238 99 = h 238 99 := (u21 238 99 rfl)
          have e25 : h21 238 100 = h 238 100 := (u21 238 100 rfl)
          have e26 : h21 238 101 = h 238 101 := (u21 238 101 rfl)
          have e27 : h21 238 102 = h 238 102 := (u21 238 102 rfl)
          have e28 : h21 238 106 = h 238 106 := (u21 238 106 rfl)
          have e29 : h21 238 73 = h 238 73 := (u21 238 73 rfl)
          have e30 : h21 238 2 = h 238 2 := (u21 238 2 rfl)
          have e31 : h21 238 119 = h 238 119 := (u21 238 119 rfl)
          have e32 : h21 238 67 = e20 := w21
          have e33 : h21 238 69 = h 238 69 := (u21 238 69 rfl)
          have e34 : h21 238 5 = h 238 5 := (u21 238 5 rfl)
          exact k h21 z14 g21 F22 (by omega) (show (h21 238 98) + (h21 238 99) + (h21 238 100) + (h21 238 101) + (h21 238 102) + (h21 238 106) = (h21 238 73) by omega) (show (h21 238 73) ≤ (h21 238 2) by omega) (show (h21 238 119) ≤ (h21 238 67) by omega) (show (h21 238 69) ≤ (h21 238 5) by omega) (show (h21 238 2) ≤ 12 * (h21 238 5) by omega)
      ·
        refine wi_aload_n (i := 0) (x := 236) (nx := 58) (r1 := 0) (r2 := 0) (r3 := 0) rfl rfl ?_
        refine wi_aload_n (i := 0) (x := 236) (nx := 59) (r1 := 0) (r2 := 0) (r3 := 0) rfl rfl ?_
        refine wi_aload_n (i := 0) (x := 236) (nx := 60) (r1 := 0) (r2 := 0) (r3 := 0) rfl rfl ?_
        refine wr_V (k0 := 236) (rest := [.ref 236, .ref 236]) (as := [.ref 236]) (nx := 63) (r1 := 291) (r2 := 0) (r3 := 11) rfl rfl rfl (of_decide_eq_true rfl) rfl rfl (by decide) rfl rfl (of_decide_eq_true rfl) (of_decide_eq_true rfl) ?_
        refine ct_291_236 hcr  g    (fun z19  (fz19 : -1 ≤ z19 ∧ z19 ≤ 3) y18_0 => ?_)
        refine wk_i ?_
        have rg20 := laP.rng y18_0 (y13_0.2.2.1 (by omega))
        rcases (show z19 = 0 ∨ z19 = 1 ∨ z19 = 2 ∨ z19 = 3 by omega) with q22 | q22 | q22 | q22
        ·
          rw [q22]
          have rg23 := laP.at y18_0 0 (by omega)
          have rg23a : 1 ≤ h 238 98 := rg23.2.1
          have rg23b : h 238 67 ≤ 9998 := rg23.2.2.1
          have rg23c : (1 ≤ (h 238 (43 + (h 238 74).toNat)) ∧ (h 238 102) < (h 238 7)) ∨ ((h 238 (43 + (h 238 74).toNat)) ≤ 0 ∧ (h 238 74) - (h 238 106) ≤ (h 238 3)) := rg23.2.2.2
          have b24 := gi_b (lo := 0) (hi := 11) g 238 74 rfl
          obtain ⟨i25, ei25⟩ : ∃ q : Nat, (43 + h 238 74) = (q : Int) := ⟨(43 + h 238 74).toNat, by omega⟩
          have b26 := gi_b (lo := 0) (hi := 999) g 238 i25 (gi_rg 43 12 (fun _ => rfl) (by decide +kernel) (by omega))
          have e27 : h 238 (43 + (h 238 74).toNat) = h 238 i25 := by rw [show 43 + (h 238 74).toNat = i25 by omega]
          have b28 := gi_b (lo := 0) (hi := 3) g 238 7 rfl
          have b29 := gi_b (lo := 0) (hi := 999) g 238 3 rfl
          refine wr_V (k0 := 236) (rest := [.ref 236]) (as := [.ref 236, vi 0]) (nx := 66) (r1 := 282) (r2 := 1) (r3 := 11) rfl rfl rfl (of_decide_eq_true rfl) rfl rfl (by decide) rfl rfl (of_decide_eq_true rfl) (of_decide_eq_true rfl) ?_
          refine ct_282_236_L0 hcr  g   (show (h 238 98) + (h 238 99) + (h 238 100) + (h 238 101) + (h 238 102) + (h 238 106) = (h 238 73) by omega) (show (h 238 73) ≤ (h 238 2) by omega) (show (h 238 119) ≤ (h 238 67) by omega) (show (h 238 69) ≤ (h 238 5) by omega) (show (h 238 2) ≤ 12 * (h 238 5) by omega) (show 1 ≤ (h 238 98) by omega) (show (h 238 67) ≤ 9998 by omega) (show (h 238 102) ≤ 2 ∨ (h 238 (43 + (h 238 74).toNat)) ≤ 0 by omega) (fun h30 z31 g30 u30 (fz31 : 0 ≤ z31 ∧ z31 ≤ 11) (p30_0 : (h30 238 98) + (h30 238 99) + (h30 238 100) + (h30 238 101) + (h30 238 102) + (h30 238 106) = (h30 238 73)) (p30_1 : (h30 238 73) ≤ (h30 238 2)) (p30_2 : (h30 238 119) ≤ (h30 238 67)) (p30_3 : (h30 238 69) ≤ (h30 238 5)) (p30_4 : (h30 238 2) ≤ 12 * (h30 238 5)) => ?_)
          have F32 := F0.then (by decide +kernel) u30
          have b33 := gi_b (lo := 0) (hi := 6) g30 238 98 rfl
          have e34 : h30 238 99 = h 238 99 := (u30 238 99 rfl)
          have e35 : h30 238 100 = h 238 100 := (u30 238 100 rfl)
          have e36 : h30 238 101 = h 238 101 := (u30 238 101 rfl)
          have b37 := gi_b (lo := 0) (hi := 3) g30 238 102 rfl
          have b38 := gi_b (lo := 0) (hi := 12) g30 238 106 rfl
          have e39 : h30 238 73 = h 238 73 := (u30 238 73 rfl)
          have e40 : h30 238 2 = h 238 2 := (u30 238 2 rfl)
          have b41 := gi_b (lo := 0) (hi := 9999) g30 238 119 rfl
          have b42 := gi_b (lo := 0) (hi := 9999) g30 238 67 rfl
          have b43 := gi_b (lo := 0) (hi := 9) g30 238 69 rfl
          have e44 : h30 238 5 = h 238 5 := (u30 238 5 rfl)
          refine wk_i ?_
          refine wr_pf0 (k0 := 236) (x := z31) (bl := -2147483648) (bh := 2147483647) (nx := 69) (r1 := 11) (r2 := 28) (r3 := 0) rfl (by decide) rfl ⟨rfl, rfl⟩ rfl rfl g30 rfl (by omega) (fun h45 g45 w45 u45 => ?_)
          have F46 := F32.then rfl u45
          refine wi_iload_n (i := 1) (e := z14) (nx := 70) (r1 := 0) (r2 := 0) (r3 := 0) rfl rfl ?_
          refine wi_iconst (n := 3) (nx := 71) (r1 := 0) (r2 := 0) (r3 := 0) rfl ?_
          refine wi_icmp (cd := .ne) (nx := 74) (r1 := 85) (r2 := 0) (r3 := 0) rfl (by omega) (by omega) (fun (q47 : z14 ≠ 3) => ?_) (fun (q47 : ¬ (z14 ≠ 3)) => by exfalso; omega)
          refine wi_iload_n (i := 1) (e := z14) (nx := 86) (r1 := 0) (r2 := 0) (r3 := 0) rfl rfl ?_
          refine wi_ireturn (nx := 87) (r1 := 0) (r2 := 0) (r3 := 0) rfl rfl ?_
          have e48 : h45 238 98 = h30 238 98 := (u45 238 98 rfl)
          have e49 : h45 238 99 = h 238 99 := ((u45 238 99 rfl).trans (u30 238 99 rfl))
          have e50 : h45 238 100 = h 238 100 := ((u45 238 100 rfl).trans (u30 238 100 rfl))
          have e51 : h45 238 101 = h 238 101 := ((u45 238 101 rfl).trans (u30 238 101 rfl))
          have e52 : h45 238 102 = h30 238 102 := (u45 238 102 rfl)
          have e53 : h45 238 106 = h30 238 106 := (u45 238 106 rfl)
          have e54 : h45 238 73 = h 238 73 := ((u45 238 73 rfl).trans (u30 238 73 rfl))
          have e55 : h45 238 2 = h 238 2 := ((u45 238 2 rfl).trans (u30 238 2 rfl))
          have e56 : h45 238 119 = h30 238 119 := (u45 238 119 rfl)
          have e57 : h45 238 67 = h30 238 67 := (u45 238 67 rfl)
          have e58 : h45 238 69 = h30 238 69 := (u45 238 69 rfl)
          have e59 : h45 238 5 = h 238 5 := ((u45 238 5 rfl).trans (u30 238 5 rfl))
          exact k h45 z14 g45 F46 (by omega) (show (h45 238 98) + (h45 238 99) + (h45 238 100) + (h45 238 101) + (h45 238 102) + (h45 238 106) = (h45 238 73) by omega) (show (h45 238 73) ≤ (h45 238 2) by omega) (show (h45 238 119) ≤ (h45 238 67) by omega) (show (h45 238 69) ≤ (h45 238 5) by omega) (show (h45 238 2) ≤ 12 * (h45 238 5) by omega)
        ·
          rw [q22]
          have rg23 := laP.at y18_0 1 (by omega)
          have rg23a : 1 ≤ h 238 99 := rg23.2.1
          have rg23b : h 238 67 ≤ 9998 := rg23.2.2.1
          have rg23c : (1 ≤ (h 238 (43 + (h 238 80).toNat)) ∧ (h 238 102) < (h 238 7)) ∨ ((h 238 (43 + (h 238 80).toNat)) ≤ 0 ∧ (h 238 80) - (h 238 106) ≤ (h 238 3)) := rg23.2.2.2
          have b24 := gi_b (lo := 0) (hi := 11) g 238 80 rfl
          obtain ⟨i25, ei25⟩ : ∃ q : Nat, (43 + h 238 80) = (q : Int) := ⟨(43 + h 238 80).toNat, by omega⟩
          have b26 := gi_b (lo := 0) (hi := 999) g 238 i25 (gi_rg 43 12 (fun _ => rfl) (by decide +kernel) (by omega))
          have e27 : h 238 (43 + (h 238 80).toNat) = h 238 i25 := by rw [show 43 + (h 238 80).toNat = i25 by omega]
          have b28 := gi_b (lo := 0) (hi := 3) g 238 7 rfl
          have b29 := gi_b (lo := 0) (hi := 999) g 238 3 rfl
          refine wr_V (k0 := 236) (rest := [.ref 236]) (as := [.ref 236, vi 1]) (nx := 66) (r1 := 282) (r2 := 1) (r3 := 11) rfl rfl rfl (of_decide_eq_true rfl) rfl rfl (by decide) rfl rfl (of_decide_eq_true rfl) (of_decide_eq_true rfl) ?_
          refine ct_282_236_L1 hcr  g   (show (h 238 98) + (h 238 99) + (h 238 100) + (h 238 101) + (h 238 102) + (h 238 106) = (h 238 73) by omega) (show (h 238 73) ≤ (h 238 2) by omega) (show (h 238 119) ≤ (h 238 67) by omega) (show (h 238 69) ≤ (h 238 5) by omega) (show (h 238 2) ≤ 12 * (h 238 5) by omega) (show 1 ≤ (h 238 99) by omega) (show (h 238 67) ≤ 9998 by omega) (show (h 238 102) ≤ 2 ∨ (h 238 (43 + (h 238 80).toNat)) ≤ 0 by omega) (fun h30 z31 g30 u30 (fz31 : 0 ≤ z31 ∧ z31 ≤ 11) (p30_0 : (h30 238 98) + (h30 238 99) + (h30 238 100) + (h30 238 101) + (h30 238 102) + (h30 238 106) = (h30 238 73)) (p30_1 : (h30 238 73) ≤ (h30 238 2)) (p30_2 : (h30 238 119) ≤ (h30 238 67)) (p30_3 : (h30 238 69) ≤ (h30 238 5)) (p30_4 : (h30 238 2) ≤ 12 * (h30 238 5)) => ?_)
          have F32 := F0.then (by decide +kernel) u30
          have e33 : h30 238 98 = h 238 98 := (u30 238 98 rfl)
          have b34 := gi_b (lo := 0) (hi := 6) g30 238 99 rfl
          have e35 : h30 238 100 = h 238 100 := (u30 238 100 rfl)
          have e36 : h30 238 101 = h 238 101 := (u30 238 101 rfl)
          have b37 := gi_b (lo := 0) (hi := 3) g30 238 102 rfl
          have b38 := gi_b (lo := 0) (hi := 12) g30 238 106 rfl
          have e39 : h30 238 73 = h 238 73 := (u30 238 73 rfl)
          have e40 : h30 238 2 = h 238 2 := (u30 238 2 rfl)
          have b41 := gi_b (lo := 0) (hi := 9999) g30 238 119 rfl
          have b42 := gi_b (lo := 0) (hi := 9999) g30 238 67 rfl
          have b43 := gi_b (lo := 0) (hi := 9) g30 238 69 rfl
          have e44 : h30 238 5 = h 238 5 := (u30 238 5 rfl)
          refine wk_i ?_
          refine wr_pf0 (k0 := 236) (x := z31) (bl := -2147483648) (bh := 2147483647) (nx := 69) (r1 := 11) (r2 := 28) (r3 := 0) rfl (by decide) rfl ⟨rfl, rfl⟩ rfl rfl g30 rfl (by omega) (fun h45 g45 w45 u45 => ?_)
          have F46 := F32.then rfl u45
          refine wi_iload_n (i := 1) (e := z14) (nx := 70) (r1 := 0) (r2 := 0) (r3 := 0) rfl rfl ?_
          refine wi_iconst (n := 3) (nx := 71) (r1 := 0) (r2 := 0) (r3 := 0) rfl ?_
          refine wi_icmp (cd := .ne) (nx := 74) (r1 := 85) (r2 := 0) (r3 := 0) rfl (by omega) (by omega) (fun (q47 : z14 ≠ 3) => ?_) (fun (q47 : ¬ (z14 ≠ 3)) => by exfalso; omega)
          refine wi_iload_n (i := 1) (e := z14) (nx := 86) (r1 := 0) (r2 := 0) (r3 := 0) rfl rfl ?_
          refine wi_ireturn (nx := 87) (r1 := 0) (r2 := 0) (r3 := 0) rfl rfl ?_
          have e48 : h45 238 98 = h 238 98 := ((u45 238 98 rfl).trans (u30 238 98 rfl))
          have e49 : h45 238 99 = h30 238 99 := (u45 238 99 rfl)
          have e50 : h45 238 100 = h 238 100 := ((u45 238 100 rfl).trans (u30 238 100 rfl))
          have e51 : h45 238 101 = h 238 101 := ((u45 238 101 rfl).trans (u30 238 101 rfl))
          have e52 : h45 238 102 = h30 238 102 := (u45 238 102 rfl)
          have e53 : h45 238 106 = h30 238 106 := (u45 238 106 rfl)
          have e54 : h45 238 73 = h 238 73 := ((u45 238 73 rfl).trans (u30 238 73 rfl))
          have e55 : h45 238 2 = h 238 2 := ((u45 238 2 rfl).trans (u30 238 2 rfl))
          have e56 : h45 238 119 = h30 238 119 := (u45 238 119 rfl)
          have e57 : h45 238 67 = h30 238 67 := (u45 238 67 rfl)
          have e58 : h45 238 69 = h30 238 69 := (u45 238 69 rfl)
          have e59 : h45 238 5 = h 238 5 := ((u45 238 5 rfl).trans (u30 238 5 rfl))
          exact k h45 z14 g45 F46 (by omega) (show (h45 238 98) + (h45 238 99) + (h45 238 100) + (h45 238 101) + (h45 238 102) + (h45 238 106) = (h45 238 73) by omega) (show (h45 238 73) ≤ (h45 238 2) by omega) (show (h45 238 119) ≤ (h45 238 67) by omega) (show (h45 238 69) ≤ (h45 238 5) by omega) (show (h45 238 2) ≤ 12 * (h45 238 5) by omega)
        ·
          rw [q22]
          have rg23 := laP.at y18_0 2 (by omega)
          have rg23a : 1 ≤ h 238 100 := rg23.2.1
          have rg23b : h 238 67 ≤ 9998 := rg23.2.2.1
          have rg23c : (1 ≤ (h 238 (43 + (h 238 86).toNat)) ∧ (h 238 102) < (h 238 7)) ∨ ((h 238 (43 + (h 238 86).toNat)) ≤ 0 ∧ (h 238 86) - (h 238 106) ≤ (h 238 3)) := rg23.2.2.2
          have b24 := gi_b (lo := 0) (hi := 11) g 238 86 rfl
          obtain ⟨i25, ei25⟩ : ∃ q : Nat, (43 + h 238 86) = (q : Int) := ⟨(43 + h 238 86).toNat, by omega⟩
          have b26 := gi_b (lo := 0) (hi := 999) g 238 i25 (gi_rg 43 12 (fun _ => rfl) (by decide +kernel) (by omega))
          have e27 : h 238 (43 + (h 238 86).toNat) = h 238 i25 := by rw [show 43 + (h 238 86).toNat = i25 by omega]
          have b28 := gi_b (lo := 0) (hi := 3) g 238 7 rfl
          have b29 := gi_b (lo := 0) (hi := 999) g 238 3 rfl
          refine wr_V (k0 := 236) (rest := [.ref 236]) (as := [.ref 236, vi 2]) (nx := 66) (r1 := 282) (r2 := 1) (r3 := 11) rfl rfl rfl (of_decide_eq_true rfl) rfl rfl (by decide) rfl rfl (of_decide_eq_true rfl) (of_decide_eq_true rfl) ?_
          refine ct_282_236_L2 hcr  g   (show (h 238 98) + (h 238 99) + (h 238 100) + (h 238 101) + (h 238 102) + (h 238 106) = (h 238 73) by omega) (show (h 238 73) ≤ (h 238 2) by omega) (show (h 238 119) ≤ (h 238 67) by omega) (show (h 238 69) ≤ (h 238 5) by omega) (show (h 238 2) ≤ 12 * (h 238 5) by omega) (show 1 ≤ (h 238 100) by omega) (show (h 238 67) ≤ 9998 by omega) (show (h 238 102) ≤ 2 ∨ (h 238 (43 + (h 238 86).toNat)) ≤ 0 by omega) (fun h30 z31 g30 u30 (fz31 : 0 ≤ z31 ∧ z31 ≤ 11) (p30_0 : (h30 238 98) + (h30 238 99) + (h30 238 100) + (h30 238 101) + (h30 238 102) + (h30 238 106) = (h30 238 73)) (p30_1 : (h30 238 73) ≤ (h30 238 2)) (p30_2 : (h30 238 119) ≤ (h30 238 67)) (p30_3 : (h30 238 69) ≤ (h30 238 5)) (p30_4 : (h30 238 2) ≤ 12 * (h30 238 5)) => ?_)
          have F32 := F0.then (by decide +kernel) u30
          have e33 : h30 238 98 = h 238 98 := (u30 238 98 rfl)
          have e34 : h30 238 99 = h 238 99 := (u30 238 99 rfl)
          have b35 := gi_b (lo := 0) (hi := 6) g30 238 100 rfl
          have e36 : h30 238 101 = h 238 101 := (u30 238 101 rfl)
          have b37 := gi_b (lo := 0) (hi := 3) g30 238 102 rfl
          have b38 := gi_b (lo := 0) (hi := 12) g30 238 106 rfl
          have e39 : h30 238 73 = h 238 73 := (u30 238 73 rfl)
          have e40 : h30 238 2 = h 238 2 := (u30 238 2 rfl)
          have b41 := gi_b (lo := 0) (hi := 9999) g30 238 119 rfl
          have b42 := gi_b (lo := 0) (hi := 9999) g30 238 67 rfl
          have b43 := gi_b (lo := 0) (hi := 9) g30 238 69 rfl
          have e44 : h30 238 5 = h 238 5 := (u30 238 5 rfl)
          refine wk_i ?_
          refine wr_pf0 (k0 := 236) (x := z31) (bl := -2147483648) (bh := 2147483647) (nx := 69) (r1 := 11) (r2 := 28) (r3 := 0) rfl (by decide) rfl ⟨rfl, rfl⟩ rfl rfl g30 rfl (by omega) (fun h45 g45 w45 u45 => ?_)
          have F46 := F32.then rfl u45
          refine wi_iload_n (i := 1) (e := z14) (nx := 70) (r1 := 0) (r2 := 0) (r3 := 0) rfl rfl ?_
          refine wi_iconst (n := 3) (nx := 71) (r1 := 0) (r2 := 0) (r3 := 0) rfl ?_
          refine wi_icmp (cd := .ne) (nx := 74) (r1 := 85) (r2 := 0) (r3 := 0) rfl (by omega) (by omega) (fun (q47 : z14 ≠ 3) => ?_) (fun (q47 : ¬ (z14 ≠ 3)) => by exfalso; omega)
          refine wi_iload_n (i := 1) (e := z14) (nx := 86) (r1 := 0) (r2 := 0) (r3 := 0) rfl rfl ?_
          refine wi_ireturn (nx := 87) (r1 := 0) (r2 := 0) (r3 := 0) rfl rfl ?_
          have e48 : h45 238 98 = h 238 98 := ((u45 238 98 rfl).trans (u30 238 98 rfl))
          have e49 : h45 238 99 = h 238 99 := ((u45 238 99 rfl).trans (u30 238 99 rfl))
          have e50 : h45 238 100 = h30 238 100 := (u45 238 100 rfl)
          have e51 : h45 238 101 = h 238 101 := ((u45 238 101 rfl).trans (u30 238 101 rfl))
          have e52 : h45 238 102 = h30 238 102 := (u45 238 102 rfl)
          have e53 : h45 238 106 = h30 238 106 := (u45 238 106 rfl)
          have e54 : h45 238 73 = h 238 73 := ((u45 238 73 rfl).trans (u30 238 73 rfl))
          have e55 : h45 238 2 = h 238 2 := ((u45 238 2 rfl).trans (u30 238 2 rfl))
          have e56 : h45 238 119 = h30 238 119 := (u45 238 119 rfl)
          have e57 : h45 238 67 = h30 238 67 := (u45 238 67 rfl)
          have e58 : h45 238 69 = h30 238 69 := (u45 238 69 rfl)
          have e59 : h45 238 5 = h 238 5 := ((u45 238 5 rfl).trans (u30 238 5 rfl))
          exact k h45 z14 g45 F46 (by omega) (show (h45 238 98) + (h45 238 99) + (h45 238 100) + (h45 238 101) + (h45 238 102) + (h45 238 106) = (h45 238 73) by omega) (show (h45 238 73) ≤ (h45 238 2) by omega) (show (h45 238 119) ≤ (h45 238 67) by omega) (show (h45 238 69) ≤ (h45 238 5) by omega) (show (h45 238 2) ≤ 12 * (h45 238 5) by omega)
        ·
          rw [q22]
          have rg23 := laP.at y18_0 3 (by omega)
          have rg23a : 1 ≤ h 238 101 := rg23.2.1
          have rg23b : h 238 67 ≤ 9998 := rg23.2.2.1
          have rg23c : (1 ≤ (h 238 (43 + (h 238 92).toNat)) ∧ (h 238 102) < (h 238 7)) ∨ ((h 238 (43 + (h 238 92).toNat)) ≤ 0 ∧ (h 238 92) - (h 238 106) ≤ (h 238 3)) := rg23.2.2.2
          have b24 := gi_b (lo := 0) (hi := 11) g 238 92 rfl
          obtain ⟨i25, ei25⟩ : ∃ q : Nat, (43 + h 238 92) = (q : Int) := ⟨(43 + h 238 92).toNat, by omega⟩
          have b26 := gi_b (lo := 0) (hi := 999) g 238 i25 (gi_rg 43 12 (fun _ => rfl) (by decide +kernel) (by omega))
          have e27 : h 238 (43 + (h 238 92).toNat) = h 238 i25 := by rw [show 43 + (h 238 92).toNat = i25 by omega]
          have b28 := gi_b (lo := 0) (hi := 3) g 238 7 rfl
          have b29 := gi_b (lo := 0) (hi := 999) g 238 3 rfl
          refine wr_V (k0 := 236) (rest := [.ref 236]) (as := [.ref 236, vi 3]) (nx := 66) (r1 := 282) (r2 := 1) (r3 := 11) rfl rfl rfl (of_decide_eq_true rfl) rfl rfl (by decide) rfl rfl (of_decide_eq_true rfl) (of_decide_eq_true rfl) ?_
          refine ct_282_236_L3 hcr  g   (show (h 238 98) + (h 238 99) + (h 238 100) + (h 238 101) + (h 238 102) + (h 238 106) = (h 238 73) by omega) (show (h 238 73) ≤ (h 238 2) by omega) (show (h 238 119) ≤ (h 238 67) by omega) (show (h 238 69) ≤ (h 238 5) by omega) (show (h 238 2) ≤ 12 * (h 238 5) by omega) (show 1 ≤ (h 238 101) by omega) (show (h 238 67) ≤ 9998 by omega) (show (h 238 102) ≤ 2 ∨ (h 238 (43 + (h 238 92).toNat)) ≤ 0 by omega) (fun h30 z31 g30 u30 (fz31 : 0 ≤ z31 ∧ z31 ≤ 11) (p30_0 : (h30 238 98) + (h30 238 99) + (h30 238 100) + (h30 238 101) + (h30 238 102) + (h30 238 106) = (h30 238 73)) (p30_1 : (h30 238 73) ≤ (h30 238 2)) (p30_2 : (h30 238 119) ≤ (h30 238 67)) (p30_3 : (h30 238 69) ≤ (h30 238 5)) (p30_4 : (h30 238 2) ≤ 12 * (h30 238 5)) => ?_)
          have F32 := F0.then (by decide +kernel) u30
          have e33 : h30 238 98 = h 238 98 := (u30 238 98 rfl)
          have e34 : h30 238 99 = h 238 99 := (u30 238 99 rfl)
          have e35 : h30 238 100 = h 238 100 := (u30 238 100 rfl)
          have b36 := gi_b (lo := 0) (hi := 6) g30 238 101 rfl
          have b37 := gi_b (lo := 0) (hi := 3) g30 238 102 rfl
          have b38 := gi_b (lo := 0) (hi := 12) g30 238 106 rfl
          have e39 : h30 238 73 = h 238 73 := (u30 238 73 rfl)
          have e40 : h30 238 2 = h 238 2 := (u30 238 2 rfl)
          have b41 := gi_b (lo := 0) (hi := 9999) g30 238 119 rfl
          have b42 := gi_b (lo := 0) (hi := 9999) g30 238 67 rfl
          have b43 := gi_b (lo := 0) (hi := 9) g30 238 69 rfl
          have e44 : h30 238 5 = h 238 5 := (u30 238 5 rfl)
          refine wk_i ?_
          refine wr_pf0 (k0 := 236) (x := z31) (bl := -2147483648) (bh := 2147483647) (nx := 69) (r1 := 11) (r2 := 28) (r3 := 0) rfl (by decide) rfl ⟨rfl, rfl⟩ rfl rfl g30 rfl (by omega) (fun h45 g45 w45 u45 => ?_)
          have F46 := F32.then rfl u45
          refine wi_iload_n (i := 1) (e := z14) (nx := 70) (r1 := 0) (r2 := 0) (r3 := 0) rfl rfl ?_
          refine wi_iconst (n := 3) (nx := 71) (r1 := 0) (r2 := 0) (r3 := 0) rfl ?_
          refine wi_icmp (cd := .ne) (nx := 74) (r1 := 85) (r2 := 0) (r3 := 0) rfl (by omega) (by omega) (fun (q47 : z14 ≠ 3) => ?_) (fun (q47 : ¬ (z14 ≠ 3)) => by exfalso; omega)
          refine wi_iload_n (i := 1) (e := z14) (nx := 86) (r1 := 0) (r2 := 0) (r3 := 0) rfl rfl ?_
          refine wi_ireturn (nx := 87) (r1 := 0) (r2 := 0) (r3 := 0) rfl rfl ?_
          have e48 : h45 238 98 = h 238 98 := ((u45 238 98 rfl).trans (u30 238 98 rfl))
          have e49 : h45 238 99 = h 238 99 := ((u45 238 99 rfl).trans (u30 238 99 rfl))
          have e50 : h45 238 100 = h 238 100 := ((u45 238 100 rfl).trans (u30 238 100 rfl))
          have e51 : h45 238 101 = h30 238 101 := (u45 238 101 rfl)
          have e52 : h45 238 102 = h30 238 102 := (u45 238 102 rfl)
          have e53 : h45 238 106 = h30 238 106 := (u45 238 106 rfl)
          have e54 : h45 238 73 = h 238 73 := ((u45 238 73 rfl).trans (u30 238 73 rfl))
          have e55 : h45 238 2 = h 238 2 := ((u45 238 2 rfl).trans (u30 238 2 rfl))
          have e56 : h45 238 119 = h30 238 119 := (u45 238 119 rfl)
          have e57 : h45 238 67 = h30 238 67 := (u45 238 67 rfl)
          have e58 : h45 238 69 = h30 238 69 := (u45 238 69 rfl)
          have e59 : h45 238 5 = h 238 5 := ((u45 238 5 rfl).trans (u30 238 5 rfl))
          exact k h45 z14 g45 F46 (by omega) (show (h45 238 98) + (h45 238 99) + (h45 238 100) + (h45 238 101) + (h45 238 102) + (h45 238 106) = (h45 238 73) by omega) (show (h45 238 73) ≤ (h45 238 2) by omega) (show (h45 238 119) ≤ (h45 238 67) by omega) (show (h45 238 69) ≤ (h45 238 5) by omega) (show (h45 238 2) ≤ 12 * (h45 238 5) by omega)
    ·
      have f17 : h 238 73 < h 238 2 := (y13_0.2.1 (by omega)).1
      refine wi_aload_n (i := 0) (x := 236) (nx := 34) (r1 := 0) (r2 := 0) (r3 := 0) rfl rfl ?_
      refine wi_aload_n (i := 0) (x := 236) (nx := 35) (r1 := 0) (r2 := 0) (r3 := 0) rfl rfl ?_
      refine wi_aload_n (i := 0) (x := 236) (nx := 36) (r1 := 0) (r2 := 0) (r3 := 0) rfl rfl ?_
      refine wi_aload_n (i := 0) (x := 236) (nx := 37) (r1 := 0) (r2 := 0) (r3 := 0) rfl rfl ?_
      refine wr_gr (k0 := 236) (x := 238) (nx := 40) (r1 := 11) (r2 := 13) (r3 := 0) rfl rfl (by decide) rfl ⟨rfl, rfl⟩ rfl ?_
      refine wi_bipush (n := 73) (nx := 42) (r1 := 0) (r2 := 0) (r3 := 0) rfl (by decide) ?_
      refine wr_ia (k0 := 238) (a := 73) (f := 73) (x := h 238 73) (nx := 43) (r1 := 0) (r2 := 0) (r3 := 0) rfl (by decide) rfl (by omega) (by omega) (by decide) rfl ?_
      refine wr_V (k0 := 236) (rest := [.ref 236, .ref 236]) (as := [.ref 236, vi (h 238 73)]) (nx := 46) (r1 := 290) (r2 := 1) (r3 := 11) rfl rfl rfl (of_decide_eq_true rfl) rfl rfl (by decide) rfl rfl (of_decide_eq_true rfl) (of_decide_eq_true rfl) ?_
      refine ct_290_236 hcr  g (h 238 73) (by omega)  (fun z19  (fz19 : -1 ≤ z19 ∧ z19 ≤ 3) y18_0 => ?_)
      refine wk_i ?_
      have rg20 := laP.rng y18_0 (y13_0.2.1 (by omega)).2
      have f21 : h 238 73 < h 238 2 := (y13_0.2.1 (by omega)).1
      rcases (show z19 = 0 ∨ z19 = 1 ∨ z19 = 2 ∨ z19 = 3 by omega) with q22 | q22 | q22 | q22
      ·
        rw [q22]
        have rg23 : h 238 98 < h 238 15 := (laP.at y18_0 0 (by omega)).2
        have b24 := gi_b (lo := 0) (hi := 6) g 238 15 rfl
        refine wr_V (k0 := 236) (rest := [.ref 236]) (as := [.ref 236, vi 0]) (nx := 49) (r1 := 279) (r2 := 1) (r3 := 11) rfl rfl rfl (of_decide_eq_true rfl) rfl rfl (by decide) rfl rfl (of_decide_eq_true rfl) (of_decide_eq_true rfl) ?_
        refine wi_aload_n (i := 0) (x := 236) (nx := 1) (r1 := 0) (r2 := 0) (r3 := 0) rfl rfl ?_
        refine wr_gr (k0 := 236) (x := 238) (nx := 4) (r1 := 11) (r2 := 13) (r3 := 0) rfl rfl (by decide) rfl ⟨rfl, rfl⟩ rfl ?_
        refine wi_bipush (n := 73) (nx := 6) (r1 := 0) (r2 := 0) (r3 := 0) rfl (by decide) ?_
        refine wr_ia (k0 := 238) (a := 73) (f := 73) (x := h 238 73) (nx := 7) (r1 := 0) (r2 := 0) (r3 := 0) rfl (by decide) rfl (by omega) (by omega) (by decide) rfl ?_
        refine wi_istore_n (i := 2) (e := h 238 73) (lo2 := [(2, vi (h 238 73)), (0, .ref 236), (1, vi 0)]) (nx := 8) (r1 := 0) (r2 := 0) (r3 := 0) rfl rfl ?_
        refine wi_aload_n (i := 0) (x := 236) (nx := 9) (r1 := 0) (r2 := 0) (r3 := 0) rfl rfl ?_
        refine wi_iload_n (i := 1) (e := 0) (nx := 10) (r1 := 0) (r2 := 0) (r3 := 0) rfl rfl ?_
        refine wi_iload_n (i := 2) (e := h 238 73) (nx := 11) (r1 := 0) (r2 := 0) (r3 := 0) rfl rfl ?_
        refine wr_V (k0 := 236) (rest := []) (as := [.ref 236, vi 0, vi (h 238 73)]) (nx := 14) (r1 := 280) (r2 := 2) (r3 := 11) rfl rfl rfl (of_decide_eq_true rfl) rfl rfl (by decide) rfl rfl (of_decide_eq_true rfl) (of_decide_eq_true rfl) ?_
        refine wi_aload_n (i := 0) (x := 236) (nx := 1) (r1 := 0) (r2 := 0) (r3 := 0) rfl rfl ?_
        refine wr_gr (k0 := 236) (x := 238) (nx := 4) (r1 := 11) (r2 := 13) (r3 := 0) rfl rfl (by decide) rfl ⟨rfl, rfl⟩ rfl ?_
        refine wi_bipush (n := 74) (nx := 6) (r1 := 0) (r2 := 0) (r3 := 0) rfl (by decide) ?_
        refine wi_bipush (n := 6) (nx := 8) (r1 := 0) (r2 := 0) (r3 := 0) rfl (by decide) ?_
        refine wi_iload_n (i := 1) (e := 0) (nx := 9) (r1 := 0) (r2 := 0) (r3 := 0) rfl rfl ?_
        refine wr_mulL (0) (nx := 10) (r1 := 0) (r2 := 0) (r3 := 0) rfl (by decide) ?_
        refine wr_addL (74) (nx := 11) (r1 := 0) (r2 := 0) (r3 := 0) rfl (by decide) ?_
        refine wi_aload_n (i := 0) (x := 236) (nx := 12) (r1 := 0) (r2 := 0) (r3 := 0) rfl rfl ?_
        refine wr_gr (k0 := 236) (x := 238) (nx := 15) (r1 := 11) (r2 := 13) (r3 := 0) rfl rfl (by decide) rfl ⟨rfl, rfl⟩ rfl ?_
        refine wi_bipush (n := 98) (nx := 17) (r1 := 0) (r2 := 0) (r3 := 0) rfl (by decide) ?_
        refine wi_iload_n (i := 1) (e := 0) (nx := 18) (r1 := 0) (r2 := 0) (r3 := 0) rfl rfl ?_
        refine wr_addL (98) (nx := 19) (r1 := 0) (r2 := 0) (r3 := 0) rfl (by decide) ?_
        refine wr_ia (k0 := 238) (a := 98) (f := 98) (x := h 238 98) (nx := 20) (r1 := 0) (r2 := 0) (r3 := 0) rfl (by decide) rfl (by omega) (by omega) (by decide) rfl ?_
        refine wr_add (nx := 21) (r1 := 0) (r2 := 0) (r3 := 0) rfl (fun e25 (fe25 : e25 = 74 + (h 238 98)) => ?_)
        refine wi_iload_n (i := 2) (e := h 238 73) (nx := 22) (r1 := 0) (r2 := 0) (r3 := 0) rfl rfl ?_
        obtain ⟨i26, ei26⟩ : ∃ q : Nat, e25 = (q : Int) := ⟨(e25).toNat, by omega⟩
        refine wr_is (k0 := 238) (a := e25) (f := i26) (x := h 238 73) (bl := 0) (bh := 11) (nx := 23) (r1 := 0) (r2 := 0) (r3 := 0) rfl (by decide) rfl (by omega) (by omega) (by decide) g (gi_rg 74 6 (fun _ => rfl) (by decide +kernel) (by omega)) (by omega) (fun h27 g27 w27 u27 => ?_)
        have F28 := F0.then rfl (FR.idx (p := 74) (q := 79) u27 (by omega))
        refine wi_aload_n (i := 0) (x := 236) (nx := 24) (r1 := 0) (r2 := 0) (r3 := 0) rfl rfl ?_
        refine wr_gr (k0 := 236) (x := 238) (nx := 27) (r1 := 11) (r2 := 13) (r3 := 0) rfl rfl (by decide) rfl ⟨rfl, rfl⟩ rfl ?_
        refine wi_bipush (n := 98) (nx := 29) (r1 := 0) (r2 := 0) (r3 := 0) rfl (by decide) ?_
        refine wi_iload_n (i := 1) (e := 0) (nx := 30) (r1 := 0) (r2 := 0) (r3 := 0) rfl rfl ?_
        refine wr_addL (98) (nx := 31) (r1 := 0) (r2 := 0) (r3 := 0) rfl (by decide) ?_
        refine wi_dup2 (nx := 32) (r1 := 0) (r2 := 0) (r3 := 0) rfl rfl rfl ?_
        refine wr_ia (k0 := 238) (a := 98) (f := 98) (x := h 238 98) (nx := 33) (r1 := 0) (r2 := 0) (r3 := 0) rfl (by decide) rfl (by omega) (by omega) (by decide) (u27 238 98 (fn_i (by omega) fn_0)) ?_
        refine wi_iconst (n := 1) (nx := 34) (r1 := 0) (r2 := 0) (r3 := 0) rfl ?_
        refine wr_add (nx := 35) (r1 := 0) (r2 := 0) (r3 := 0) rfl (fun e29 (fe29 : e29 = (h 238 98) + 1) => ?_)
        refine wr_is (k0 := 238) (a := 98) (f := 98) (x := e29) (bl := 0) (bh := 6) (nx := 36) (r1 := 0) (r2 := 0) (r3 := 0) rfl (by decide) rfl (by omega) (by omega) (by decide) g27 rfl (by omega) (fun h30 g30 w30 u30 => ?_)
        have F31 := F28.then rfl u30
        refine wi_return (nx := 37) (r1 := 0) (r2 := 0) (r3 := 0) rfl rfl ?_
        refine wk_n ?_
        refine wi_aload_n (i := 0) (x := 236) (nx := 15) (r1 := 0) (r2 := 0) (r3 := 0) rfl rfl ?_
        refine wr_gr (k0 := 236) (x := 238) (nx := 18) (r1 := 11) (r2 := 13) (r3 := 0) rfl rfl (by decide) rfl ⟨rfl, rfl⟩ rfl ?_
        refine wi_bipush (n := 73) (nx := 20) (r1 := 0) (r2 := 0) (r3 := 0) rfl (by decide) ?_
        refine wi_dup2 (nx := 21) (r1 := 0) (r2 := 0) (r3 := 0) rfl rfl rfl ?_
        refine wr_ia (k0 := 238) (a := 73) (f := 73) (x := h 238 73) (nx := 22) (r1 := 0) (r2 := 0) (r3 := 0) rfl (by decide) rfl (by omega) (by omega) (by decide) ((u30 238 73 rfl).trans (u27 238 73 (fn_i (by omega) fn_0))) ?_
        refine wi_iconst (n := 1) (nx := 23) (r1 := 0) (r2 := 0) (r3 := 0) rfl ?_
        refine wr_add (nx := 24) (r1 := 0) (r2 := 0) (r3 := 0) rfl (fun e32 (fe32 : e32 = (h 238 73) + 1) => ?_)
        refine wr_is (k0 := 238) (a := 73) (f := 73) (x := e32) (bl := 0) (bh := 12) (nx := 25) (r1 := 0) (r2 := 0) (r3 := 0) rfl (by decide) rfl (by omega) (by omega) (by decide) g30 rfl (by omega) (fun h33 g33 w33 u33 => ?_)
        have F34 := F31.then rfl u33
        refine wi_iload_n (i := 2) (e := h 238 73) (nx := 26) (r1 := 0) (r2 := 0) (r3 := 0) rfl rfl ?_
        refine wi_ireturn (nx := 27) (r1 := 0) (r2 := 0) (r3 := 0) rfl rfl ?_
        refine wk_i ?_
        refine wr_pf0 (k0 := 236) (x := h 238 73) (bl := -2147483648) (bh := 2147483647) (nx := 52) (r1 := 11) (r2 := 28) (r3 := 0) rfl (by decide) rfl ⟨rfl, rfl⟩ rfl rfl g33 rfl (by omega) (fun h35 g35 w35 u35 => ?_)
        have F36 := F34.then rfl u35
        refine wi_iload_n (i := 1) (e := z14) (nx := 53) (r1 := 0) (r2 := 0) (r3 := 0) rfl rfl ?_
        refine wi_iconst (n := 2) (nx := 54) (r1 := 0) (r2 := 0) (r3 := 0) rfl ?_
        refine wi_icmp (cd := .ne) (nx := 57) (r1 := 69) (r2 := 0) (r3 := 0) rfl (by omega) (by omega) (fun (q37 : z14 ≠ 2) => ?_) (fun (q37 : ¬ (z14 ≠ 2)) => by exfalso; omega)
        refine wi_iload_n (i := 1) (e := z14) (nx := 70) (r1 := 0) (r2 := 0) (r3 := 0) rfl rfl ?_
        refine wi_iconst (n := 3) (nx := 71) (r1 := 0) (r2 := 0) (r3 := 0) rfl ?_
        refine wi_icmp (cd := .ne) (nx := 74) (r1 := 85) (r2 := 0) (r3 := 0) rfl (by omega) (by omega) (fun (q38 : z14 ≠ 3) => ?_) (fun (q38 : ¬ (z14 ≠ 3)) => by exfalso; omega)
        refine wi_iload_n (i := 1) (e := z14) (nx := 86) (r1 := 0) (r2 := 0) (r3 := 0) rfl rfl ?_
        refine wi_ireturn (nx := 87) (r1 := 0) (r2 := 0) (r3 := 0) rfl rfl ?_
        have e39 : h35 238 98 = e29 := ((u35 238 98 rfl).trans ((u33 238 98 rfl).trans w30))
        have e40 : h35 238 99 = h 238 99 := ((u35 238 99 rfl).trans ((u33 238 99 rfl).trans ((u30 238 99 rfl).trans (u27 238 99 (fn_i (by omega) fn_0)))))
        have e41 : h35 238 100 = h 238 100 := ((u35 238 100 rfl).trans ((u33 238 100 rfl).trans ((u30 238 100 rfl).trans (u27 238 100 (fn_i (by omega) fn_0)))))
        have e42 : h35 238 101 = h 238 101 := ((u35 238 101 rfl).trans ((u33 238 101 rfl).trans ((u30 238 101 rfl).trans (u27 238 101 (fn_i (by omega) fn_0)))))
        have e43 : h35 238 102 = h 238 102 := ((u35 238 102 rfl).trans ((u33 238 102 rfl).trans ((u30 238 102 rfl).trans (u27 238 102 (fn_i (by omega) fn_0)))))
        have e44 : h35 238 106 = h 238 106 := ((u35 238 106 rfl).trans ((u33 238 106 rfl).trans ((u30 238 106 rfl).trans (u27 238 106 (fn_i (by omega) fn_0)))))
        have e45 : h35 238 73 = e32 := ((u35 238 73 rfl).trans w33)
        have e46 : h35 238 2 = h 238 2 := ((u35 238 2 rfl).trans ((u33 238 2 rfl).trans ((u30 238 2 rfl).trans (u27 238 2 (fn_i (by omega) fn_0)))))
        have e47 : h35 238 119 = h 238 119 := ((u35 238 119 rfl).trans ((u33 238 119 rfl).trans ((u30 238 119 rfl).trans (u27 238 119 (fn_i (by omega) fn_0)))))
        have e48 : h35 238 67 = h 238 67 := ((u35 238 67 rfl).trans ((u33 238 67 rfl).trans ((u30 238 67 rfl).trans (u27 238 67 (fn_i (by omega) fn_0)))))
        have e49 : h35 238 69 = h 238 69 := ((u35 238 69 rfl).trans ((u33 238 69 rfl).trans ((u30 238 69 rfl).trans (u27 238 69 (fn_i (by omega) fn_0)))))
        have e50 : h35 238 5 = h 238 5 := ((u35 238 5 rfl).trans ((u33 238 5 rfl).trans ((u30 238 5 rfl).trans (u27 238 5 (fn_i (by omega) fn_0)))))
        exact k h35 z14 g35 F36 (by omega) (show (h35 238 98) + (h35 238 99) + (h35 238 100) + (h35 238 101) + (h35 238 102) + (h35 238 106) = (h35 238 73) by omega) (show (h35 238 73) ≤ (h35 238 2) by omega) (show (h35 238 119) ≤ (h35 238 67) by omega) (show (h35 238 69) ≤ (h35 238 5) by omega) (show (h35 238 2) ≤ 12 * (h35 238 5) by omega)
      ·
        rw [q22]
        have rg23 : h 238 99 < h 238 16 := (laP.at y18_0 1 (by omega)).2
        have b24 := gi_b (lo := 0) (hi := 6) g 238 16 rfl
        refine wr_V (k0 := 236) (rest := [.ref 236]) (as := [.ref 236, vi 1]) (nx := 49) (r1 := 279) (r2 := 1) (r3 := 11) rfl rfl rfl (of_decide_eq_true rfl) rfl rfl (by decide) rfl rfl (of_decide_eq_true rfl) (of_decide_eq_true rfl) ?_
        refine wi_aload_n (i := 0) (x := 236) (nx := 1) (r1 := 0) (r2 := 0) (r3 := 0) rfl rfl ?_
        refine wr_gr (k0 := 236) (x := 238) (nx := 4) (r1 := 11) (r2 := 13) (r3 := 0) rfl rfl (by decide) rfl ⟨rfl, rfl⟩ rfl ?_
        refine wi_bipush (n := 73) (nx := 6) (r1 := 0) (r2 := 0) (r3 := 0) rfl (by decide) ?_
        refine wr_ia (k0 := 238) (a := 73) (f := 73) (x := h 238 73) (nx := 7) (r1 := 0) (r2 := 0) (r3 := 0) rfl (by decide) rfl (by omega) (by omega) (by decide) rfl ?_
        refine wi_istore_n (i := 2) (e := h 238 73) (lo2 := [(2, vi (h 238 73)), (0, .ref 236), (1, vi 1)]) (nx := 8) (r1 := 0) (r2 := 0) (r3 := 0) rfl rfl ?_
        refine wi_aload_n (i := 0) (x := 236) (nx := 9) (r1 := 0) (r2 := 0) (r3 := 0) rfl rfl ?_
        refine wi_iload_n (i := 1) (e := 1) (nx := 10) (r1 := 0) (r2 := 0) (r3 := 0) rfl rfl ?_
        refine wi_iload_n (i := 2) (e := h 238 73) (nx := 11) (r1 := 0) (r2 := 0) (r3 := 0) rfl rfl ?_
        refine wr_V (k0 := 236) (rest := []) (as := [.ref 236, vi 1, vi (h 238 73)]) (nx := 14) (r1 := 280) (r2 := 2) (r3 := 11) rfl rfl rfl (of_decide_eq_true rfl) rfl rfl (by decide) rfl rfl (of_decide_eq_true rfl) (of_decide_eq_true rfl) ?_
        refine wi_aload_n (i := 0) (x := 236) (nx := 1) (r1 := 0) (r2 := 0) (r3 := 0) rfl rfl ?_
        refine wr_gr (k0 := 236) (x := 238) (nx := 4) (r1 := 11) (r2 := 13) (r3 := 0) rfl rfl (by decide) rfl ⟨rfl, rfl⟩ rfl ?_
        refine wi_bipush (n := 74) (nx := 6) (r1 := 0) (r2 := 0) (r3 := 0) rfl (by decide) ?_
        refine wi_bipush (n := 6) (nx := 8) (r1 := 0) (r2 := 0) (r3 := 0) rfl (by decide) ?_
        refine wi_iload_n (i := 1) (e := 1) (nx := 9) (r1 := 0) (r2 := 0) (r3 := 0) rfl rfl ?_
        refine wr_mulL (6) (nx := 10) (r1 := 0) (r2 := 0) (r3 := 0) rfl (by decide) ?_
        refine wr_addL (80) (nx := 11) (r1 := 0) (r2 := 0) (r3 := 0) rfl (by decide) ?_
        refine wi_aload_n (i := 0) (x := 236) (nx := 12) (r1 := 0) (r2 := 0) (r3 := 0) rfl rfl ?_
        refine wr_gr (k0 := 236) (x := 238) (nx := 15) (r1 := 11) (r2 := 13) (r3 := 0) rfl rfl (by decide) rfl ⟨rfl, rfl⟩ rfl ?_
        refine wi_bipush (n := 98) (nx := 17) (r1 := 0) (r2 := 0) (r3 := 0) rfl (by decide) ?_
        refine wi_iload_n (i := 1) (e := 1) (nx := 18) (r1 := 0) (r2 := 0) (r3 := 0) rfl rfl ?_
        refine wr_addL (99) (nx := 19) (r1 := 0) (r2 := 0) (r3 := 0) rfl (by decide) ?_
        refine wr_ia (k0 := 238) (a := 99) (f := 99) (x := h 238 99) (nx := 20) (r1 := 0) (r2 := 0) (r3 := 0) rfl (by decide) rfl (by omega) (by omega) (by decide) rfl ?_
        refine wr_add (nx := 21) (r1 := 0) (r2 := 0) (r3 := 0) rfl (fun e25 (fe25 : e25 = 80 + (h 238 99)) => ?_)
        refine wi_iload_n (i := 2) (e := h 238 73) (nx := 22) (r1 := 0) (r2 := 0) (r3 := 0) rfl rfl ?_
        obtain ⟨i26, ei26⟩ : ∃ q : Nat, e25 = (q : Int) := ⟨(e25).toNat, by omega⟩
        refine wr_is (k0 := 238) (a := e25) (f := i26) (x := h 238 73) (bl := 0) (bh := 11) (nx := 23) (r1 := 0) (r2 := 0) (r3 := 0) rfl (by decide) rfl (by omega) (by omega) (by decide) g (gi_rg 80 6 (fun _ => rfl) (by decide +kernel) (by omega)) (by omega) (fun h27 g27 w27 u27 => ?_)
        have F28 := F0.then rfl (FR.idx (p := 80) (q := 85) u27 (by omega))
        refine wi_aload_n (i := 0) (x := 236) (nx := 24) (r1 := 0) (r2 := 0) (r3 := 0) rfl rfl ?_
        refine wr_gr (k0 := 236) (x := 238) (nx := 27) (r1 := 11) (r2 := 13) (r3 := 0) rfl rfl (by decide) rfl ⟨rfl, rfl⟩ rfl ?_
        refine wi_bipush (n := 98) (nx := 29) (r1 := 0) (r2 := 0) (r3 := 0) rfl (by decide) ?_
        refine wi_iload_n (i := 1) (e := 1) (nx := 30) (r1 := 0) (r2 := 0) (r3 := 0) rfl rfl ?_
        refine wr_addL (99) (nx := 31) (r1 := 0) (r2 := 0) (r3 := 0) rfl (by decide) ?_
        refine wi_dup2 (nx := 32) (r1 := 0) (r2 := 0) (r3 := 0) rfl rfl rfl ?_
        refine wr_ia (k0 := 238) (a := 99) (f := 99) (x := h 238 99) (nx := 33) (r1 := 0) (r2 := 0) (r3 := 0) rfl (by decide) rfl (by omega) (by omega) (by decide) (u27 238 99 (fn_i (by omega) fn_0)) ?_
        refine wi_iconst (n := 1) (nx := 34) (r1 := 0) (r2 := 0) (r3 := 0) rfl ?_
        refine wr_add (nx := 35) (r1 := 0) (r2 := 0) (r3 := 0) rfl (fun e29 (fe29 : e29 = (h 238 99) + 1) => ?_)
        refine wr_is (k0 := 238) (a := 99) (f := 99) (x := e29) (bl := 0) (bh := 6) (nx := 36) (r1 := 0) (r2 := 0) (r3 := 0) rfl (by decide) rfl (by omega) (by omega) (by decide) g27 rfl (by omega) (fun h30 g30 w30 u30 => ?_)
        have F31 := F28.then rfl u30
        refine wi_return (nx := 37) (r1 := 0) (r2 := 0) (r3 := 0) rfl rfl ?_
        refine wk_n ?_
        refine wi_aload_n (i := 0) (x := 236) (nx := 15) (r1 := 0) (r2 := 0) (r3 := 0) rfl rfl ?_
        refine wr_gr (k0 := 236) (x := 238) (nx := 18) (r1 := 11) (r2 := 13) (r3 := 0) rfl rfl (by decide) rfl ⟨rfl, rfl⟩ rfl ?_
        refine wi_bipush (n := 73) (nx := 20) (r1 := 0) (r2 := 0) (r3 := 0) rfl (by decide) ?_
        refine wi_dup2 (nx := 21) (r1 := 0) (r2 := 0) (r3 := 0) rfl rfl rfl ?_
        refine wr_ia (k0 := 238) (a := 73) (f := 73) (x := h 238 73) (nx := 22) (r1 := 0) (r2 := 0) (r3 := 0) rfl (by decide) rfl (by omega) (by omega) (by decide) ((u30 238 73 rfl).trans (u27 238 73 (fn_i (by omega) fn_0))) ?_
        refine wi_iconst (n := 1) (nx := 23) (r1 := 0) (r2 := 0) (r3 := 0) rfl ?_
        refine wr_add (nx := 24) (r1 := 0) (r2 := 0) (r3 := 0) rfl (fun e32 (fe32 : e32 = (h 238 73) + 1) => ?_)
        refine wr_is (k0 := 238) (a := 73) (f := 73) (x := e32) (bl := 0) (bh := 12) (nx := 25) (r1 := 0) (r2 := 0) (r3 := 0) rfl (by decide) rfl (by omega) (by omega) (by decide) g30 rfl (by omega) (fun h33 g33 w33 u33 => ?_)
        have F34 := F31.then rfl u33
        refine wi_iload_n (i := 2) (e := h 238 73) (nx := 26) (r1 := 0) (r2 := 0) (r3 := 0) rfl rfl ?_
        refine wi_ireturn (nx := 27) (r1 := 0) (r2 := 0) (r3 := 0) rfl rfl ?_
        refine wk_i ?_
        refine wr_pf0 (k0 := 236) (x := h 238 73) (bl := -2147483648) (bh := 2147483647) (nx := 52) (r1 := 11) (r2 := 28) (r3 := 0) rfl (by decide) rfl ⟨rfl, rfl⟩ rfl rfl g33 rfl (by omega) (fun h35 g35 w35 u35 => ?_)
        have F36 := F34.then rfl u35
        refine wi_iload_n (i := 1) (e := z14) (nx := 53) (r1 := 0) (r2 := 0) (r3 := 0) rfl rfl ?_
        refine wi_iconst (n := 2) (nx := 54) (r1 := 0) (r2 := 0) (r3 := 0) rfl ?_
        refine wi_icmp (cd := .ne) (nx := 57) (r1 := 69) (r2 := 0) (r3 := 0) rfl (by omega) (by omega) (fun (q37 : z14 ≠ 2) => ?_) (fun (q37 : ¬ (z14 ≠ 2)) => by exfalso; omega)
        refine wi_iload_n (i := 1) (e := z14) (nx := 70) (r1 := 0) (r2 := 0) (r3 := 0) rfl rfl ?_
        refine wi_iconst (n := 3) (nx := 71) (r1 := 0) (r2 := 0) (r3 := 0) rfl ?_
        refine wi_icmp (cd := .ne) (nx := 74) (r1 := 85) (r2 := 0) (r3 := 0) rfl (by omega) (by omega) (fun (q38 : z14 ≠ 3) => ?_) (fun (q38 : ¬ (z14 ≠ 3)) => by exfalso; omega)
        refine wi_iload_n (i := 1) (e := z14) (nx := 86) (r1 := 0) (r2 := 0) (r3 := 0) rfl rfl ?_
        refine wi_ireturn (nx := 87) (r1 := 0) (r2 := 0) (r3 := 0) rfl rfl ?_
        have e39 : h35 238 98 = h 238 98 := ((u35 238 98 rfl).trans ((u33 238 98 rfl).trans ((u30 238 98 rfl).trans (u27 238 98 (fn_i (by omega) fn_0)))))
        have e40 : h35 238 99 = e29 := ((u35 238 99 rfl).trans ((u33 238 99 rfl).trans w30))
        have e41 : h35 238 100 = h 238 100 := ((u35 238 100 rfl).trans ((u33 238 100 rfl).trans ((u30 238 100 rfl).trans (u27 238 100 (fn_i (by omega) fn_0)))))
        have e42 : h35 238 101 = h 238 101 := ((u35 238 101 rfl).trans ((u33 238 101 rfl).trans ((u30 238 101 rfl).trans (u27 238 101 (fn_i (by omega) fn_0)))))
        have e43 : h35 238 102 = h 238 102 := ((u35 238 102 rfl).trans ((u33 238 102 rfl).trans ((u30 238 102 rfl).trans (u27 238 102 (fn_i (by omega) fn_0)))))
        have e44 : h35 238 106 = h 238 106 := ((u35 238 106 rfl).trans ((u33 238 106 rfl).trans ((u30 238 106 rfl).trans (u27 238 106 (fn_i (by omega) fn_0)))))
        have e45 : h35 238 73 = e32 := ((u35 238 73 rfl).trans w33)
        have e46 : h35 238 2 = h 238 2 := ((u35 238 2 rfl).trans ((u33 238 2 rfl).trans ((u30 238 2 rfl).trans (u27 238 2 (fn_i (by omega) fn_0)))))
        have e47 : h35 238 119 = h 238 119 := ((u35 238 119 rfl).trans ((u33 238 119 rfl).trans ((u30 238 119 rfl).trans (u27 238 119 (fn_i (by omega) fn_0)))))
        have e48 : h35 238 67 = h 238 67 := ((u35 238 67 rfl).trans ((u33 238 67 rfl).trans ((u30 238 67 rfl).trans (u27 238 67 (fn_i (by omega) fn_0)))))
        have e49 : h35 238 69 = h 238 69 := ((u35 238 69 rfl).trans ((u33 238 69 rfl).trans ((u30 238 69 rfl).trans (u27 238 69 (fn_i (by omega) fn_0)))))
        have e50 : h35 238 5 = h 238 5 := ((u35 238 5 rfl).trans ((u33 238 5 rfl).trans ((u30 238 5 rfl).trans (u27 238 5 (fn_i (by omega) fn_0)))))
        exact k h35 z14 g35 F36 (by omega) (show (h35 238 98) + (h35 238 99) + (h35 238 100) + (h35 238 101) + (h35 238 102) + (h35 238 106) = (h35 238 73) by omega) (show (h35 238 73) ≤ (h35 238 2) by omega) (show (h35 238 119) ≤ (h35 238 67) by omega) (show (h35 238 69) ≤ (h35 238 5) by omega) (show (h35 238 2) ≤ 12 * (h35 238 5) by omega)
      ·
        rw [q22]
        have rg23 : h 238 100 < h 238 17 := (laP.at y18_0 2 (by omega)).2
        have b24 := gi_b (lo := 0) (hi := 6) g 238 17 rfl
        refine wr_V (k0 := 236) (rest := [.ref 236]) (as := [.ref 236, vi 2]) (nx := 49) (r1 := 279) (r2 := 1) (r3 := 11) rfl rfl rfl (of_decide_eq_true rfl) rfl rfl (by decide) rfl rfl (of_decide_eq_true rfl) (of_decide_eq_true rfl) ?_
        refine wi_aload_n (i := 0) (x := 236) (nx := 1) (r1 := 0) (r2 := 0) (r3 := 0) rfl rfl ?_
        refine wr_gr (k0 := 236) (x := 238) (nx := 4) (r1 := 11) (r2 := 13) (r3 := 0) rfl rfl (by decide) rfl ⟨rfl, rfl⟩ rfl ?_
        refine wi_bipush (n := 73) (nx := 6) (r1 := 0) (r2 := 0) (r3 := 0) rfl (by decide) ?_
        refine wr_ia (k0 := 238) (a := 73) (f := 73) (x := h 238 73) (nx := 7) (r1 := 0) (r2 := 0) (r3 := 0) rfl (by decide) rfl (by omega) (by omega) (by decide) rfl ?_
        refine wi_istore_n (i := 2) (e := h 238 73) (lo2 := [(2, vi (h 238 73)), (0, .ref 236), (1, vi 2)]) (nx := 8) (r1 := 0) (r2 := 0) (r3 := 0) rfl rfl ?_
        refine wi_aload_n (i := 0) (x := 236) (nx := 9) (r1 := 0) (r2 := 0) (r3 := 0) rfl rfl ?_
        refine wi_iload_n (i := 1) (e := 2) (nx := 10) (r1 := 0) (r2 := 0) (r3 := 0) rfl rfl ?_
        refine wi_iload_n (i := 2) (e := h 238 73) (nx := 11) (r1 := 0) (r2 := 0) (r3 := 0) rfl rfl ?_
        refine wr_V (k0 := 236) (rest := []) (as := [.ref 236, vi 2, vi (h 238 73)]) (nx := 14) (r1 := 280) (r2 := 2) (r3 := 11) rfl rfl rfl (of_decide_eq_true rfl) rfl rfl (by decide) rfl rfl (of_decide_eq_true rfl) (of_decide_eq_true rfl) ?_
        refine wi_aload_n (i := 0) (x := 236) (nx := 1) (r1 := 0) (r2 := 0) (r3 := 0) rfl rfl ?_
        refine wr_gr (k0 := 236) (x := 238) (nx := 4) (r1 := 11) (r2 := 13) (r3 := 0) rfl rfl (by decide) rfl ⟨rfl, rfl⟩ rfl ?_
        refine wi_bipush (n := 74) (nx := 6) (r1 := 0) (r2 := 0) (r3 := 0) rfl (by decide) ?_
        refine wi_bipush (n := 6) (nx := 8) (r1 := 0) (r2 := 0) (r3 := 0) rfl (by decide) ?_
        refine wi_iload_n (i := 1) (e := 2) (nx := 9) (r1 := 0) (r2 := 0) (r3 := 0) rfl rfl ?_
        refine wr_mulL (12) (nx := 10) (r1 := 0) (r2 := 0) (r3 := 0) rfl (by decide) ?_
        refine wr_addL (86) (nx := 11) (r1 := 0) (r2 := 0) (r3 := 0) rfl (by decide) ?_
        refine wi_aload_n (i := 0) (x := 236) (nx := 12) (r1 := 0) (r2 := 0) (r3 := 0) rfl rfl ?_
        refine wr_gr (k0 := 236) (x := 238) (nx := 15) (r1 := 11) (r2 := 13) (r3 := 0) rfl rfl (by decide) rfl ⟨rfl, rfl⟩ rfl ?_
        refine wi_bipush (n := 98) (nx := 17) (r1 := 0) (r2 := 0) (r3 := 0) rfl (by decide) ?_
        refine wi_iload_n (i := 1) (e := 2) (nx := 18) (r1 := 0) (r2 := 0) (r3 := 0) rfl rfl ?_
        refine wr_addL (100) (nx := 19) (r1 := 0) (r2 := 0) (r3 := 0) rfl (by decide) ?_
        refine wr_ia (k0 := 238) (a := 100) (f := 100) (x := h 238 100) (nx := 20) (r1 := 0) (r2 := 0) (r3 := 0) rfl (by decide) rfl (by omega) (by omega) (by decide) rfl ?_
        refine wr_add (nx := 21) (r1 := 0) (r2 := 0) (r3 := 0) rfl (fun e25 (fe25 : e25 = 86 + (h 238 100)) => ?_)
        refine wi_iload_n (i := 2) (e := h 238 73) (nx := 22) (r1 := 0) (r2 := 0) (r3 := 0) rfl rfl ?_
        obtain ⟨i26, ei26⟩ : ∃ q : Nat, e25 = (q : Int) := ⟨(e25).toNat, by omega⟩
        refine wr_is (k0 := 238) (a := e25) (f := i26) (x := h 238 73) (bl := 0) (bh := 11) (nx := 23) (r1 := 0) (r2 := 0) (r3 := 0) rfl (by decide) rfl (by omega) (by omega) (by decide) g (gi_rg 86 6 (fun _ => rfl) (by decide +kernel) (by omega)) (by omega) (fun h27 g27 w27 u27 => ?_)
        have F28 := F0.then rfl (FR.idx (p := 86) (q := 91) u27 (by omega))
        refine wi_aload_n (i := 0) (x := 236) (nx := 24) (r1 := 0) (r2 := 0) (r3 := 0) rfl rfl ?_
        refine wr_gr (k0 := 236) (x := 238) (nx := 27) (r1 := 11) (r2 := 13) (r3 := 0) rfl rfl (by decide) rfl ⟨rfl, rfl⟩ rfl ?_
        refine wi_bipush (n := 98) (nx := 29) (r1 := 0) (r2 := 0) (r3 := 0) rfl (by decide) ?_
        refine wi_iload_n (i := 1) (e := 2) (nx := 30) (r1 := 0) (r2 := 0) (r3 := 0) rfl rfl ?_
        refine wr_addL (100) (nx := 31) (r1 := 0) (r2 := 0) (r3 := 0) rfl (by decide) ?_
        refine wi_dup2 (nx := 32) (r1 := 0) (r2 := 0) (r3 := 0) rfl rfl rfl ?_
        refine wr_ia (k0 := 238) (a := 100) (f := 100) (x := h 238 100) (nx := 33) (r1 := 0) (r2 := 0) (r3 := 0) rfl (by decide) rfl (by omega) (by omega) (by decide) (u27 238 100 (fn_i (by omega) fn_0)) ?_
        refine wi_iconst (n := 1) (nx := 34) (r1 := 0) (r2 := 0) (r3 := 0) rfl ?_
        refine wr_add (nx := 35) (r1 := 0) (r2 := 0) (r3 := 0) rfl (fun e29 (fe29 : e29 = (h 238 100) + 1) => ?_)
        refine wr_is (k0 := 238) (a := 100) (f := 100) (x := e29) (bl := 0) (bh := 6) (nx := 36) (r1 := 0) (r2 := 0) (r3 := 0) rfl (by decide) rfl (by omega) (by omega) (by decide) g27 rfl (by omega) (fun h30 g30 w30 u30 => ?_)
        have F31 := F28.then rfl u30
        refine wi_return (nx := 37) (r1 := 0) (r2 := 0) (r3 := 0) rfl rfl ?_
        refine wk_n ?_
        refine wi_aload_n (i := 0) (x := 236) (nx := 15) (r1 := 0) (r2 := 0) (r3 := 0) rfl rfl ?_
        refine wr_gr (k0 := 236) (x := 238) (nx := 18) (r1 := 11) (r2 := 13) (r3 := 0) rfl rfl (by decide) rfl ⟨rfl, rfl⟩ rfl ?_
        refine wi_bipush (n := 73) (nx := 20) (r1 := 0) (r2 := 0) (r3 := 0) rfl (by decide) ?_
        refine wi_dup2 (nx := 21) (r1 := 0) (r2 := 0) (r3 := 0) rfl rfl rfl ?_
        refine wr_ia (k0 := 238) (a := 73) (f := 73) (x := h 238 73) (nx := 22) (r1 := 0) (r2 := 0) (r3 := 0) rfl (by decide) rfl (by omega) (by omega) (by decide) ((u30 238 73 rfl).trans (u27 238 73 (fn_i (by omega) fn_0))) ?_
        refine wi_iconst (n := 1) (nx := 23) (r1 := 0) (r2 := 0) (r3 := 0) rfl ?_
        refine wr_add (nx := 24) (r1 := 0) (r2 := 0) (r3 := 0) rfl (fun e32 (fe32 : e32 = (h 238 73) + 1) => ?_)
        refine wr_is (k0 := 238) (a := 73) (f := 73) (x := e32) (bl := 0) (bh := 12) (nx := 25) (r1 := 0) (r2 := 0) (r3 := 0) rfl (by decide) rfl (by omega) (by omega) (by decide) g30 rfl (by omega) (fun h33 g33 w33 u33 => ?_)
        have F34 := F31.then rfl u33
        refine wi_iload_n (i := 2) (e := h 238 73) (nx := 26) (r1 := 0) (r2 := 0) (r3 := 0) rfl rfl ?_
        refine wi_ireturn (nx := 27) (r1 := 0) (r2 := 0) (r3 := 0) rfl rfl ?_
        refine wk_i ?_
        refine wr_pf0 (k0 := 236) (x := h 238 73) (bl := -2147483648) (bh := 2147483647) (nx := 52) (r1 := 11) (r2 := 28) (r3 := 0) rfl (by decide) rfl ⟨rfl, rfl⟩ rfl rfl g33 rfl (by omega) (fun h35 g35 w35 u35 => ?_)
        have F36 := F34.then rfl u35
        refine wi_iload_n (i := 1) (e := z14) (nx := 53) (r1 := 0) (r2 := 0) (r3 := 0) rfl rfl ?_
        refine wi_iconst (n := 2) (nx := 54) (r1 := 0) (r2 := 0) (r3 := 0) rfl ?_
        refine wi_icmp (cd := .ne) (nx := 57) (r1 := 69) (r2 := 0) (r3 := 0) rfl (by omega) (by omega) (fun (q37 : z14 ≠ 2) => ?_) (fun (q37 : ¬ (z14 ≠ 2)) => by exfalso; omega)
        refine wi_iload_n (i := 1) (e := z14) (nx := 70) (r1 := 0) (r2 := 0) (r3 := 0) rfl rfl ?_
        refine wi_iconst (n := 3) (nx := 71) (r1 := 0) (r2 := 0) (r3 := 0) rfl ?_
        refine wi_icmp (cd := .ne) (nx := 74) (r1 := 85) (r2 := 0) (r3 := 0) rfl (by omega) (by omega) (fun (q38 : z14 ≠ 3) => ?_) (fun (q38 : ¬ (z14 ≠ 3)) => by exfalso; omega)
        refine wi_iload_n (i := 1) (e := z14) (nx := 86) (r1 := 0) (r2 := 0) (r3 := 0) rfl rfl ?_
        refine wi_ireturn (nx := 87) (r1 := 0) (r2 := 0) (r3 := 0) rfl rfl ?_
        have e39 : h35 238 98 = h 238 98 := ((u35 238 98 rfl).trans ((u33 238 98 rfl).trans ((u30 238 98 rfl).trans (u27 238 98 (fn_i (by omega) fn_0)))))
        have e40 : h35 238 99 = h 238 99 := ((u35 238 99 rfl).trans ((u33 238 99 rfl).trans ((u30 238 99 rfl).trans (u27 238 99 (fn_i (by omega) fn_0)))))
        have e41 : h35 238 100 = e29 := ((u35 238 100 rfl).trans ((u33 238 100 rfl).trans w30))
        have e42 : h35 238 101 = h 238 101 := ((u35 238 101 rfl).trans ((u33 238 101 rfl).trans ((u30 238 101 rfl).trans (u27 238 101 (fn_i (by omega) fn_0)))))
        have e43 : h35 238 102 = h 238 102 := ((u35 238 102 rfl).trans ((u33 238 102 rfl).trans ((u30 238 102 rfl).trans (u27 238 102 (fn_i (by omega) fn_0)))))
        have e44 : h35 238 106 = h 238 106 := ((u35 238 106 rfl).trans ((u33 238 106 rfl).trans ((u30 238 106 rfl).trans (u27 238 106 (fn_i (by omega) fn_0)))))
        have e45 : h35 238 73 = e32 := ((u35 238 73 rfl).trans w33)
        have e46 : h35 238 2 = h 238 2 := ((u35 238 2 rfl).trans ((u33 238 2 rfl).trans ((u30 238 2 rfl).trans (u27 238 2 (fn_i (by omega) fn_0)))))
        have e47 : h35 238 119 = h 238 119 := ((u35 238 119 rfl).trans ((u33 238 119 rfl).trans ((u30 238 119 rfl).trans (u27 238 119 (fn_i (by omega) fn_0)))))
        have e48 : h35 238 67 = h 238 67 := ((u35 238 67 rfl).trans ((u33 238 67 rfl).trans ((u30 238 67 rfl).trans (u27 238 67 (fn_i (by omega) fn_0)))))
        have e49 : h35 238 69 = h 238 69 := ((u35 238 69 rfl).trans ((u33 238 69 rfl).trans ((u30 238 69 rfl).trans (u27 238 69 (fn_i (by omega) fn_0)))))
        have e50 : h35 238 5 = h 238 5 := ((u35 238 5 rfl).trans ((u33 238 5 rfl).trans ((u30 238 5 rfl).trans (u27 238 5 (fn_i (by omega) fn_0)))))
        exact k h35 z14 g35 F36 (by omega) (show (h35 238 98) + (h35 238 99) + (h35 238 100) + (h35 238 101) + (h35 238 102) + (h35 238 106) = (h35 238 73) by omega) (show (h35 238 73) ≤ (h35 238 2) by omega) (show (h35 238 119) ≤ (h35 238 67) by omega) (show (h35 238 69) ≤ (h35 238 5) by omega) (show (h35 238 2) ≤ 12 * (h35 238 5) by omega)
      ·
        rw [q22]
        have rg23 : h 238 101 < h 238 18 := (laP.at y18_0 3 (by omega)).2
        have b24 := gi_b (lo := 0) (hi := 6) g 238 18 rfl
        refine wr_V (k0 := 236) (rest := [.ref 236]) (as := [.ref 236, vi 3]) (nx := 49) (r1 := 279) (r2 := 1) (r3 := 11) rfl rfl rfl (of_decide_eq_true rfl) rfl rfl (by decide) rfl rfl (of_decide_eq_true rfl) (of_decide_eq_true rfl) ?_
        refine wi_aload_n (i := 0) (x := 236) (nx := 1) (r1 := 0) (r2 := 0) (r3 := 0) rfl rfl ?_
        refine wr_gr (k0 := 236) (x := 238) (nx := 4) (r1 := 11) (r2 := 13) (r3 := 0) rfl rfl (by decide) rfl ⟨rfl, rfl⟩ rfl ?_
        refine wi_bipush (n := 73) (nx := 6) (r1 := 0) (r2 := 0) (r3 := 0) rfl (by decide) ?_
        refine wr_ia (k0 := 238) (a := 73) (f := 73) (x := h 238 73) (nx := 7) (r1 := 0) (r2 := 0) (r3 := 0) rfl (by decide) rfl (by omega) (by omega) (by decide) rfl ?_
        refine wi_istore_n (i := 2) (e := h 238 73) (lo2 := [(2, vi (h 238 73)), (0, .ref 236), (1, vi 3)]) (nx := 8) (r1 := 0) (r2 := 0) (r3 := 0) rfl rfl ?_
        refine wi_aload_n (i := 0) (x := 236) (nx := 9) (r1 := 0) (r2 := 0) (r3 := 0) rfl rfl ?_
        refine wi_iload_n (i := 1) (e := 3) (nx := 10) (r1 := 0) (r2 := 0) (r3 := 0) rfl rfl ?_
        refine wi_iload_n (i := 2) (e := h 238 73) (nx := 11) (r1 := 0) (r2 := 0) (r3 := 0) rfl rfl ?_
        refine wr_V (k0 := 236) (rest := []) (as := [.ref 236, vi 3, vi (h 238 73)]) (nx := 14) (r1 := 280) (r2 := 2) (r3 := 11) rfl rfl rfl (of_decide_eq_true rfl) rfl rfl (by decide) rfl rfl (of_decide_eq_true rfl) (of_decide_eq_true rfl) ?_
        refine wi_aload_n (i := 0) (x := 236) (nx := 1) (r1 := 0) (r2 := 0) (r3 := 0) rfl rfl ?_
        refine wr_gr (k0 := 236) (x := 238) (nx := 4) (r1 := 11) (r2 := 13) (r3 := 0) rfl rfl (by decide) rfl ⟨rfl, rfl⟩ rfl ?_
        refine wi_bipush (n := 74) (nx := 6) (r1 := 0) (r2 := 0) (r3 := 0) rfl (by decide) ?_
        refine wi_bipush (n := 6) (nx := 8) (r1 := 0) (r2 := 0) (r3 := 0) rfl (by decide) ?_
        refine wi_iload_n (i := 1) (e := 3) (nx := 9) (r1 := 0) (r2 := 0) (r3 := 0) rfl rfl ?_
        refine wr_mulL (18) (nx := 10) (r1 := 0) (r2 := 0) (r3 := 0) rfl (by decide) ?_
        refine wr_addL (92) (nx := 11) (r1 := 0) (r2 := 0) (r3 := 0) rfl (by decide) ?_
        refine wi_aload_n (i := 0) (x := 236) (nx := 12) (r1 := 0) (r2 := 0) (r3 := 0) rfl rfl ?_
        refine wr_gr (k0 := 236) (x := 238) (nx := 15) (r1 := 11) (r2 := 13) (r3 := 0) rfl rfl (by decide) rfl ⟨rfl, rfl⟩ rfl ?_
        refine wi_bipush (n := 98) (nx := 17) (r1 := 0) (r2 := 0) (r3 := 0) rfl (by decide) ?_
        refine wi_iload_n (i := 1) (e := 3) (nx := 18) (r1 := 0) (r2 := 0) (r3 := 0) rfl rfl ?_
        refine wr_addL (101) (nx := 19) (r1 := 0) (r2 := 0) (r3 := 0) rfl (by decide) ?_
        refine wr_ia (k0 := 238) (a := 101) (f := 101) (x := h 238 101) (nx := 20) (r1 := 0) (r2 := 0) (r3 := 0) rfl (by decide) rfl (by omega) (by omega) (by decide) rfl ?_
        refine wr_add (nx := 21) (r1 := 0) (r2 := 0) (r3 := 0) rfl (fun e25 (fe25 : e25 = 92 + (h 238 101)) => ?_)
        refine wi_iload_n (i := 2) (e := h 238 73) (nx := 22) (r1 := 0) (r2 := 0) (r3 := 0) rfl rfl ?_
        obtain ⟨i26, ei26⟩ : ∃ q : Nat, e25 = (q : Int) := ⟨(e25).toNat, by omega⟩
        refine wr_is (k0 := 238) (a := e25) (f := i26) (x := h 238 73) (bl := 0) (bh := 11) (nx := 23) (r1 := 0) (r2 := 0) (r3 := 0) rfl (by decide) rfl (by omega) (by omega) (by decide) g (gi_rg 92 6 (fun _ => rfl) (by decide +kernel) (by omega)) (by omega) (fun h27 g27 w27 u27 => ?_)
        have F28 := F0.then rfl (FR.idx (p := 92) (q := 97) u27 (by omega))
        refine wi_aload_n (i := 0) (x := 236) (nx := 24) (r1 := 0) (r2 := 0) (r3 := 0) rfl rfl ?_
        refine wr_gr (k0 := 236) (x := 238) (nx := 27) (r1 := 11) (r2 := 13) (r3 := 0) rfl rfl (by decide) rfl ⟨rfl, rfl⟩ rfl ?_
        refine wi_bipush (n := 98) (nx := 29) (r1 := 0) (r2 := 0) (r3 := 0) rfl (by decide) ?_
        refine wi_iload_n (i := 1) (e := 3) (nx := 30) (r1 := 0) (r2 := 0) (r3 := 0) rfl rfl ?_
        refine wr_addL (101) (nx := 31) (r1 := 0) (r2 := 0) (r3 := 0) rfl (by decide) ?_
        refine wi_dup2 (nx := 32) (r1 := 0) (r2 := 0) (r3 := 0) rfl rfl rfl ?_
        refine wr_ia (k0 := 238) (a := 101) (f := 101) (x := h 238 101) (nx := 33) (r1 := 0) (r2 := 0) (r3 := 0) rfl (by decide) rfl (by omega) (by omega) (by decide) (u27 238 101 (fn_i (by omega) fn_0)) ?_
        refine wi_iconst (n := 1) (nx := 34) (r1 := 0) (r2 := 0) (r3 := 0) rfl ?_
        refine wr_add (nx := 35) (r1 := 0) (r2 := 0) (r3 := 0) rfl (fun e29 (fe29 : e29 = (h 238 101) + 1) => ?_)
        refine wr_is (k0 := 238) (a := 101) (f := 101) (x := e29) (bl := 0) (bh := 6) (nx := 36) (r1 := 0) (r2 := 0) (r3 := 0) rfl (by decide) rfl (by omega) (by omega) (by decide) g27 rfl (by omega) (fun h30 g30 w30 u30 => ?_)
        have F31 := F28.then rfl u30
        refine wi_return (nx := 37) (r1 := 0) (r2 := 0) (r3 := 0) rfl rfl ?_
        refine wk_n ?_
        refine wi_aload_n (i := 0) (x := 236) (nx := 15) (r1 := 0) (r2 := 0) (r3 := 0) rfl rfl ?_
        refine wr_gr (k0 := 236) (x := 238) (nx := 18) (r1 := 11) (r2 := 13) (r3 := 0) rfl rfl (by decide) rfl ⟨rfl, rfl⟩ rfl ?_
        refine wi_bipush (n := 73) (nx := 20) (r1 := 0) (r2 := 0) (r3 := 0) rfl (by decide) ?_
        refine wi_dup2 (nx := 21) (r1 := 0) (r2 := 0) (r3 := 0) rfl rfl rfl ?_
        refine wr_ia (k0 := 238) (a := 73) (f := 73) (x := h 238 73) (nx := 22) (r1 := 0) (r2 := 0) (r3 := 0) rfl (by decide) rfl (by omega) (by omega) (by decide) ((u30 238 73 rfl).trans (u27 238 73 (fn_i (by omega) fn_0))) ?_
        refine wi_iconst (n := 1) (nx := 23) (r1 := 0) (r2 := 0) (r3 := 0) rfl ?_
        refine wr_add (nx := 24) (r1 := 0) (r2 := 0) (r3 := 0) rfl (fun e32 (fe32 : e32 = (h 238 73) + 1) => ?_)
        refine wr_is (k0 := 238) (a := 73) (f := 73) (x := e32) (bl := 0) (bh := 12) (nx := 25) (r1 := 0) (r2 := 0) (r3 := 0) rfl (by decide) rfl (by omega) (by omega) (by decide) g30 rfl (by omega) (fun h33 g33 w33 u33 => ?_)
        have F34 := F31.then rfl u33
        refine wi_iload_n (i := 2) (e := h 238 73) (nx := 26) (r1 := 0) (r2 := 0) (r3 := 0) rfl rfl ?_
        refine wi_ireturn (nx := 27) (r1 := 0) (r2 := 0) (r3 := 0) rfl rfl ?_
        refine wk_i ?_
        refine wr_pf0 (k0 := 236) (x := h 238 73) (bl := -2147483648) (bh := 2147483647) (nx := 52) (r1 := 11) (r2 := 28) (r3 := 0) rfl (by decide) rfl ⟨rfl, rfl⟩ rfl rfl g33 rfl (by omega) (fun h35 g35 w35 u35 => ?_)
        have F36 := F34.then rfl u35
        refine wi_iload_n (i := 1) (e := z14) (nx := 53) (r1 := 0) (r2 := 0) (r3 := 0) rfl rfl ?_
        refine wi_iconst (n := 2) (nx := 54) (r1 := 0) (r2 := 0) (r3 := 0) rfl ?_
        refine wi_icmp (cd := .ne) (nx := 57) (r1 := 69) (r2 := 0) (r3 := 0) rfl (by omega) (by omega) (fun (q37 : z14 ≠ 2) => ?_) (fun (q37 : ¬ (z14 ≠ 2)) => by exfalso; omega)
        refine wi_iload_n (i := 1) (e := z14) (nx := 70) (r1 := 0) (r2 := 0) (r3 := 0) rfl rfl ?_
        refine wi_iconst (n := 3) (nx := 71) (r1 := 0) (r2 := 0) (r3 := 0) rfl ?_
        refine wi_icmp (cd := .ne) (nx := 74) (r1 := 85) (r2 := 0) (r3 := 0) rfl (by omega) (by omega) (fun (q38 : z14 ≠ 3) => ?_) (fun (q38 : ¬ (z14 ≠ 3)) => by exfalso; omega)
        refine wi_iload_n (i := 1) (e := z14) (nx := 86) (r1 := 0) (r2 := 0) (r3 := 0) rfl rfl ?_
        refine wi_ireturn (nx := 87) (r1 := 0) (r2 := 0) (r3 := 0) rfl rfl ?_
        have e39 : h35 238 98 = h 238 98 := ((u35 238 98 rfl).trans ((u33 238 98 rfl).trans ((u30 238 98 rfl).trans (u27 238 98 (fn_i (by omega) fn_0)))))
        have e40 : h35 238 99 = h 238 99 := ((u35 238 99 rfl).trans ((u33 238 99 rfl).trans ((u30 238 99 rfl).trans (u27 238 99 (fn_i (by omega) fn_0)))))
        have e41 : h35 238 100 = h 238 100 := ((u35 238 100 rfl).trans ((u33 238 100 rfl).trans ((u30 238 100 rfl).trans (u27 238 100 (fn_i (by omega) fn_0)))))
        have e42 : h35 238 101 = e29 := ((u35 238 101 rfl).trans ((u33 238 101 rfl).trans w30))
        have e43 : h35 238 102 = h 238 102 := ((u35 238 102 rfl).trans ((u33 238 102 rfl).trans ((u30 238 102 rfl).trans (u27 238 102 (fn_i (by omega) fn_0)))))
        have e44 : h35 238 106 = h 238 106 := ((u35 238 106 rfl).trans ((u33 238 106 rfl).trans ((u30 238 106 rfl).trans (u27 238 106 (fn_i (by omega) fn_0)))))
        have e45 : h35 238 73 = e32 := ((u35 238 73 rfl).trans w33)
        have e46 : h35 238 2 = h 238 2 := ((u35 238 2 rfl).trans ((u33 238 2 rfl).trans ((u30 238 2 rfl).trans (u27 238 2 (fn_i (by omega) fn_0)))))
        have e47 : h35 238 119 = h 238 119 := ((u35 238 119 rfl).trans ((u33 238 119 rfl).trans ((u30 238 119 rfl).trans (u27 238 119 (fn_i (by omega) fn_0)))))
        have e48 : h35 238 67 = h 238 67 := ((u35 238 67 rfl).trans ((u33 238 67 rfl).trans ((u30 238 67 rfl).trans (u27 238 67 (fn_i (by omega) fn_0)))))
        have e49 : h35 238 69 = h 238 69 := ((u35 238 69 rfl).trans ((u33 238 69 rfl).trans ((u30 238 69 rfl).trans (u27 238 69 (fn_i (by omega) fn_0)))))
        have e50 : h35 238 5 = h 238 5 := ((u35 238 5 rfl).trans ((u33 238 5 rfl).trans ((u30 238 5 rfl).trans (u27 238 5 (fn_i (by omega) fn_0)))))
        exact k h35 z14 g35 F36 (by omega) (show (h35 238 98) + (h35 238 99) + (h35 238 100) + (h35 238 101) + (h35 238 102) + (h35 238 106) = (h35 238 73) by omega) (show (h35 238 73) ≤ (h35 238 2) by omega) (show (h35 238 119) ≤ (h35 238 67) by omega) (show (h35 238 69) ≤ (h35 238 5) by omega) (show (h35 238 2) ≤ 12 * (h35 238 5) by omega)
  ·
    refine wi_aload_n (i := 0) (x := 236) (nx := 10) (r1 := 0) (r2 := 0) (r3 := 0) rfl rfl ?_
    refine wi_aload_n (i := 0) (x := 236) (nx := 11) (r1 := 0) (r2 := 0) (r3 := 0) rfl rfl ?_
    refine wi_aload_n (i := 0) (x := 236) (nx := 12) (r1 := 0) (r2 := 0) (r3 := 0) rfl rfl ?_
    refine wi_aload_n (i := 0) (x := 236) (nx := 13) (r1 := 0) (r2 := 0) (r3 := 0) rfl rfl ?_
    refine wr_gr (k0 := 236) (x := 238) (nx := 16) (r1 := 11) (r2 := 13) (r3 := 0) rfl rfl (by decide) rfl ⟨rfl, rfl⟩ rfl ?_
    refine wi_bipush (n := 103) (nx := 18) (r1 := 0) (r2 := 0) (r3 := 0) rfl (by decide) ?_
    have b16 := gi_b (lo := 0) (hi := 11) g 238 103 rfl
    refine wr_ia (k0 := 238) (a := 103) (f := 103) (x := h 238 103) (nx := 19) (r1 := 0) (r2 := 0) (r3 := 0) rfl (by decide) rfl (by omega) (by omega) (by decide) rfl ?_
    refine wr_V (k0 := 236) (rest := [.ref 236, .ref 236]) (as := [.ref 236, vi (h 238 103)]) (nx := 22) (r1 := 290) (r2 := 1) (r3 := 11) rfl rfl rfl (of_decide_eq_true rfl) rfl rfl (by decide) rfl rfl (of_decide_eq_true rfl) (of_decide_eq_true rfl) ?_
    refine ct_290_236 hcr  g (h 238 103) (by omega)  (fun z18  (fz18 : -1 ≤ z18 ∧ z18 ≤ 3) y17_0 => ?_)
    refine wk_i ?_
    have rg19 := laP.rng y17_0 (y13_0.1 (by omega)).2
    have f20 : 1 ≤ h 238 102 := (y13_0.1 (by omega)).1
    rcases (show z18 = 0 ∨ z18 = 1 ∨ z18 = 2 ∨ z18 = 3 by omega) with q21 | q21 | q21 | q21
    ·
      rw [q21]
      have rg22 : h 238 98 < h 238 15 := (laP.at y17_0 0 (by omega)).2
      have b23 := gi_b (lo := 0) (hi := 6) g 238 15 rfl
      refine wr_V (k0 := 236) (rest := [.ref 236]) (as := [.ref 236, vi 0]) (nx := 25) (r1 := 286) (r2 := 1) (r3 := 11) rfl rfl rfl (of_decide_eq_true rfl) rfl rfl (by decide) rfl rfl (of_decide_eq_true rfl) (of_decide_eq_true rfl) ?_
      refine ct_286_236_L0 hcr  g   (show (h 238 98) + (h 238 99) + (h 238 100) + (h 238 101) + (h 238 102) + (h 238 106) = (h 238 73) by omega) (show (h 238 73) ≤ (h 238 2) by omega) (show (h 238 119) ≤ (h 238 67) by omega) (show (h 238 69) ≤ (h 238 5) by omega) (show (h 238 2) ≤ 12 * (h 238 5) by omega) (show 1 ≤ (h 238 102) by omega) (show (h 238 98) ≤ 5 by omega) (fun h24 z25 g24 u24 (fz25 : 0 ≤ z25 ∧ z25 ≤ 11) (p24_0 : (h24 238 98) + (h24 238 99) + (h24 238 100) + (h24 238 101) + (h24 238 102) + (h24 238 106) = (h24 238 73)) (p24_1 : (h24 238 73) ≤ (h24 238 2)) (p24_2 : (h24 238 119) ≤ (h24 238 67)) (p24_3 : (h24 238 69) ≤ (h24 238 5)) (p24_4 : (h24 238 2) ≤ 12 * (h24 238 5)) => ?_)
      have F26 := F0.then (by decide +kernel) u24
      have b27 := gi_b (lo := 0) (hi := 6) g24 238 98 rfl
      have e28 : h24 238 99 = h 238 99 := (u24 238 99 rfl)
      have e29 : h24 238 100 = h 238 100 := (u24 238 100 rfl)
      have e30 : h24 238 101 = h 238 101 := (u24 238 101 rfl)
      have b31 := gi_b (lo := 0) (hi := 3) g24 238 102 rfl
      have e32 : h24 238 106 = h 238 106 := (u24 238 106 rfl)
      have e33 : h24 238 73 = h 238 73 := (u24 238 73 rfl)
      have e34 : h24 238 2 = h 238 2 := (u24 238 2 rfl)
      have e35 : h24 238 119 = h 238 119 := (u24 238 119 rfl)
      have e36 : h24 238 67 = h 238 67 := (u24 238 67 rfl)
      have e37 : h24 238 69 = h 238 69 := (u24 238 69 rfl)
      have e38 : h24 238 5 = h 238 5 := (u24 238 5 rfl)
      refine wk_i ?_
      refine wr_pf0 (k0 := 236) (x := z25) (bl := -2147483648) (bh := 2147483647) (nx := 28) (r1 := 11) (r2 := 28) (r3 := 0) rfl (by decide) rfl ⟨rfl, rfl⟩ rfl rfl g24 rfl (by omega) (fun h39 g39 w39 u39 => ?_)
      have F40 := F26.then rfl u39
      refine wi_iload_n (i := 1) (e := z14) (nx := 29) (r1 := 0) (r2 := 0) (r3 := 0) rfl rfl ?_
      refine wi_iconst (n := 1) (nx := 30) (r1 := 0) (r2 := 0) (r3 := 0) rfl ?_
      refine wi_icmp (cd := .ne) (nx := 33) (r1 := 52) (r2 := 0) (r3 := 0) rfl (by omega) (by omega) (fun (q41 : z14 ≠ 1) => ?_) (fun (q41 : ¬ (z14 ≠ 1)) => by exfalso; omega)
      refine wi_iload_n (i := 1) (e := z14) (nx := 53) (r1 := 0) (r2 := 0) (r3 := 0) rfl rfl ?_
      refine wi_iconst (n := 2) (nx := 54) (r1 := 0) (r2 := 0) (r3 := 0) rfl ?_
      refine wi_icmp (cd := .ne) (nx := 57) (r1 := 69) (r2 := 0) (r3 := 0) rfl (by omega) (by omega) (fun (q42 : z14 ≠ 2) => ?_) (fun (q42 : ¬ (z14 ≠ 2)) => by exfalso; omega)
      refine wi_iload_n (i := 1) (e := z14) (nx := 70) (r1 := 0) (r2 := 0) (r3 := 0) rfl rfl ?_
      refine wi_iconst (n := 3) (nx := 71) (r1 := 0) (r2 := 0) (r3 := 0) rfl ?_
      refine wi_icmp (cd := .ne) (nx := 74) (r1 := 85) (r2 := 0) (r3 := 0) rfl (by omega) (by omega) (fun (q43 : z14 ≠ 3) => ?_) (fun (q43 : ¬ (z14 ≠ 3)) => by exfalso; omega)
      refine wi_iload_n (i := 1) (e := z14) (nx := 86) (r1 := 0) (r2 := 0) (r3 := 0) rfl rfl ?_
      refine wi_ireturn (nx := 87) (r1 := 0) (r2 := 0) (r3 := 0) rfl rfl ?_
      have e44 : h39 238 98 = h24 238 98 := (u39 238 98 rfl)
      have e45 : h39 238 99 = h 238 99 := ((u39 238 99 rfl).trans (u24 238 99 rfl))
      have e46 : h39 238 100 = h 238 100 := ((u39 238 100 rfl).trans (u24 238 100 rfl))
      have e47 : h39 238 101 = h 238 101 := ((u39 238 101 rfl).trans (u24 238 101 rfl))
      have e48 : h39 238 102 = h24 238 102 := (u39 238 102 rfl)
      have e49 : h39 238 106 = h 238 106 := ((u39 238 106 rfl).trans (u24 238 106 rfl))
      have e50 : h39 238 73 = h 238 73 := ((u39 238 73 rfl).trans (u24 238 73 rfl))
      have e51 : h39 238 2 = h 238 2 := ((u39 238 2 rfl).trans (u24 238 2 rfl))
      have e52 : h39 238 119 = h 238 119 := ((u39 238 119 rfl).trans (u24 238 119 rfl))
      have e53 : h39 238 67 = h 238 67 := ((u39 238 67 rfl).trans (u24 238 67 rfl))
      have e54 : h39 238 69 = h 238 69 := ((u39 238 69 rfl).trans (u24 238 69 rfl))
      have e55 : h39 238 5 = h 238 5 := ((u39 238 5 rfl).trans (u24 238 5 rfl))
      exact k h39 z14 g39 F40 (by omega) (show (h39 238 98) + (h39 238 99) + (h39 238 100) + (h39 238 101) + (h39 238 102) + (h39 238 106) = (h39 238 73) by omega) (show (h39 238 73) ≤ (h39 238 2) by omega) (show (h39 238 119) ≤ (h39 238 67) by omega) (show (h39 238 69) ≤ (h39 238 5) by omega) (show (h39 238 2) ≤ 12 * (h39 238 5) by omega)
    ·
      rw [q21]
      have rg22 : h 238 99 < h 238 16 := (laP.at y17_0 1 (by omega)).2
      have b23 := gi_b (lo := 0) (hi := 6) g 238 16 rfl
      refine wr_V (k0 := 236) (rest := [.ref 236]) (as := [.ref 236, vi 1]) (nx := 25) (r1 := 286) (r2 := 1) (r3 := 11) rfl rfl rfl (of_decide_eq_true rfl) rfl rfl (by decide) rfl rfl (of_decide_eq_true rfl) (of_decide_eq_true rfl) ?_
      refine ct_286_236_L1 hcr  g   (show (h 238 98) + (h 238 99) + (h 238 100) + (h 238 101) + (h 238 102) + (h 238 106) = (h 238 73) by omega) (show (h 238 73) ≤ (h 238 2) by omega) (show (h 238 119) ≤ (h 238 67) by omega) (show (h 238 69) ≤ (h 238 5) by omega) (show (h 238 2) ≤ 12 * (h 238 5) by omega) (show 1 ≤ (h 238 102) by omega) (show (h 238 99) ≤ 5 by omega) (fun h24 z25 g24 u24 (fz25 : 0 ≤ z25 ∧ z25 ≤ 11) (p24_0 : (h24 238 98) + (h24 238 99) + (h24 238 100) + (h24 238 101) + (h24 238 102) + (h24 238 106) = (h24 238 73)) (p24_1 : (h24 238 73) ≤ (h24 238 2)) (p24_2 : (h24 238 119) ≤ (h24 238 67)) (p24_3 : (h24 238 69) ≤ (h24 238 5)) (p24_4 : (h24 238 2) ≤ 12 * (h24 238 5)) => ?_)
      have F26 := F0.then (by decide +kernel) u24
      have e27 : h24 238 98 = h 238 98 := (u24 238 98 rfl)
      have b28 := gi_b (lo := 0) (hi := 6) g24 238 99 rfl
      have e29 : h24 238 100 = h 238 100 := (u24 238 100 rfl)
      have e30 : h24 238 101 = h 238 101 := (u24 238 101 rfl)
      have b31 := gi_b (lo := 0) (hi := 3) g24 238 102 rfl
      have e32 : h24 238 106 = h 238 106 := (u24 238 106 rfl)
      have e33 : h24 238 73 = h 238 73 := (u24 238 73 rfl)
      have e34 : h24 238 2 = h 238 2 := (u24 238 2 rfl)
      have e35 : h24 238 119 = h 238 119 := (u24 238 119 rfl)
      have e36 : h24 238 67 = h 238 67 := (u24 238 67 rfl)
      have e37 : h24 238 69 = h 238 69 := (u24 238 69 rfl)
      have e38 : h24 238 5 = h 238 5 := (u24 238 5 rfl)
      refine wk_i ?_
      refine wr_pf0 (k0 := 236) (x := z25) (bl := -2147483648) (bh := 2147483647) (nx := 28) (r1 := 11) (r2 := 28) (r3 := 0) rfl (by decide) rfl ⟨rfl, rfl⟩ rfl rfl g24 rfl (by omega) (fun h39 g39 w39 u39 => ?_)
      have F40 := F26.then rfl u39
      refine wi_iload_n (i := 1) (e := z14) (nx := 29) (r1 := 0) (r2 := 0) (r3 := 0) rfl rfl ?_
      refine wi_iconst (n := 1) (nx := 30) (r1 := 0) (r2 := 0) (r3 := 0) rfl ?_
      refine wi_icmp (cd := .ne) (nx := 33) (r1 := 52) (r2 := 0) (r3 := 0) rfl (by omega) (by omega) (fun (q41 : z14 ≠ 1) => ?_) (fun (q41 : ¬ (z14 ≠ 1)) => by exfalso; omega)
      refine wi_iload_n (i := 1) (e := z14) (nx := 53) (r1 := 0) (r2 := 0) (r3 := 0) rfl rfl ?_
      refine wi_iconst (n := 2) (nx := 54) (r1 := 0) (r2 := 0) (r3 := 0) rfl ?_
      refine wi_icmp (cd := .ne) (nx := 57) (r1 := 69) (r2 := 0) (r3 := 0) rfl (by omega) (by omega) (fun (q42 : z14 ≠ 2) => ?_) (fun (q42 : ¬ (z14 ≠ 2)) => by exfalso; omega)
      refine wi_iload_n (i := 1) (e := z14) (nx := 70) (r1 := 0) (r2 := 0) (r3 := 0) rfl rfl ?_
      refine wi_iconst (n := 3) (nx := 71) (r1 := 0) (r2 := 0) (r3 := 0) rfl ?_
      refine wi_icmp (cd := .ne) (nx := 74) (r1 := 85) (r2 := 0) (r3 := 0) rfl (by omega) (by omega) (fun (q43 : z14 ≠ 3) => ?_) (fun (q43 : ¬ (z14 ≠ 3)) => by exfalso; omega)
      refine wi_iload_n (i := 1) (e := z14) (nx := 86) (r1 := 0) (r2 := 0) (r3 := 0) rfl rfl ?_
      refine wi_ireturn (nx := 87) (r1 := 0) (r2 := 0) (r3 := 0) rfl rfl ?_
      have e44 : h39 238 98 = h 238 98 := ((u39 238 98 rfl).trans (u24 238 98 rfl))
      have e45 : h39 238 99 = h24 238 99 := (u39 238 99 rfl)
      have e46 : h39 238 100 = h 238 100 := ((u39 238 100 rfl).trans (u24 238 100 rfl))
      have e47 : h39 238 101 = h 238 101 := ((u39 238 101 rfl).trans (u24 238 101 rfl))
      have e48 : h39 238 102 = h24 238 102 := (u39 238 102 rfl)
      have e49 : h39 238 106 = h 238 106 := ((u39 238 106 rfl).trans (u24 238 106 rfl))
      have e50 : h39 238 73 = h 238 73 := ((u39 238 73 rfl).trans (u24 238 73 rfl))
      have e51 : h39 238 2 = h 238 2 := ((u39 238 2 rfl).trans (u24 238 2 rfl))
      have e52 : h39 238 119 = h 238 119 := ((u39 238 119 rfl).trans (u24 238 119 rfl))
      have e53 : h39 238 67 = h 238 67 := ((u39 238 67 rfl).trans (u24 238 67 rfl))
      have e54 : h39 238 69 = h 238 69 := ((u39 238 69 rfl).trans (u24 238 69 rfl))
      have e55 : h39 238 5 = h 238 5 := ((u39 238 5 rfl).trans (u24 238 5 rfl))
      exact k h39 z14 g39 F40 (by omega) (show (h39 238 98) + (h39 238 99) + (h39 238 100) + (h39 238 101) + (h39 238 102) + (h39 238 106) = (h39 238 73) by omega) (show (h39 238 73) ≤ (h39 238 2) by omega) (show (h39 238 119) ≤ (h39 238 67) by omega) (show (h39 238 69) ≤ (h39 238 5) by omega) (show (h39 238 2) ≤ 12 * (h39 238 5) by omega)
    ·
      rw [q21]
      have rg22 : h 238 100 < h 238 17 := (laP.at y17_0 2 (by omega)).2
      have b23 := gi_b (lo := 0) (hi := 6) g 238 17 rfl
      refine wr_V (k0 := 236) (rest := [.ref 236]) (as := [.ref 236, vi 2]) (nx := 25) (r1 := 286) (r2 := 1) (r3 := 11) rfl rfl rfl (of_decide_eq_true rfl) rfl rfl (by decide) rfl rfl (of_decide_eq_true rfl) (of_decide_eq_true rfl) ?_
      refine ct_286_236_L2 hcr  g   (show (h 238 98) + (h 238 99) + (h 238 100) + (h 238 101) + (h 238 102) + (h 238 106) = (h 238 73) by omega) (show (h 238 73) ≤ (h 238 2) by omega) (show (h 238 119) ≤ (h 238 67) by omega) (show (h 238 69) ≤ (h 238 5) by omega) (show (h 238 2) ≤ 12 * (h 238 5) by omega) (show 1 ≤ (h 238 102) by omega) (show (h 238 100) ≤ 5 by omega) (fun h24 z25 g24 u24 (fz25 : 0 ≤ z25 ∧ z25 ≤ 11) (p24_0 : (h24 238 98) + (h24 238 99) + (h24 238 100) + (h24 238 101) + (h24 238 102) + (h24 238 106) = (h24 238 73)) (p24_1 : (h24 238 73) ≤ (h24 238 2)) (p24_2 : (h24 238 119) ≤ (h24 238 67)) (p24_3 : (h24 238 69) ≤ (h24 238 5)) (p24_4 : (h24 238 2) ≤ 12 * (h24 238 5)) => ?_)
      have F26 := F0.then (by decide +kernel) u24
      have e27 : h24 238 98 = h 238 98 := (u24 238 98 rfl)
      have e28 : h24 238 99 = h 238 99 := (u24 238 99 rfl)
      have b29 := gi_b (lo := 0) (hi := 6) g24 238 100 rfl
      have e30 : h24 238 101 = h 238 101 := (u24 238 101 rfl)
      have b31 := gi_b (lo := 0) (hi := 3) g24 238 102 rfl
      have e32 : h24 238 106 = h 238 106 := (u24 238 106 rfl)
      have e33 : h24 238 73 = h 238 73 := (u24 238 73 rfl)
      have e34 : h24 238 2 = h 238 2 := (u24 238 2 rfl)
      have e35 : h24 238 119 = h 238 119 := (u24 238 119 rfl)
      have e36 : h24 238 67 = h 238 67 := (u24 238 67 rfl)
      have e37 : h24 238 69 = h 238 69 := (u24 238 69 rfl)
      have e38 : h24 238 5 = h 238 5 := (u24 238 5 rfl)
      refine wk_i ?_
      refine wr_pf0 (k0 := 236) (x := z25) (bl := -2147483648) (bh := 2147483647) (nx := 28) (r1 := 11) (r2 := 28) (r3 := 0) rfl (by decide) rfl ⟨rfl, rfl⟩ rfl rfl g24 rfl (by omega) (fun h39 g39 w39 u39 => ?_)
      have F40 := F26.then rfl u39
      refine wi_iload_n (i := 1) (e := z14) (nx := 29) (r1 := 0) (r2 := 0) (r3 := 0) rfl rfl ?_
      refine wi_iconst (n := 1) (nx := 30) (r1 := 0) (r2 := 0) (r3 := 0) rfl ?_
      refine wi_icmp (cd := .ne) (nx := 33) (r1 := 52) (r2 := 0) (r3 := 0) rfl (by omega) (by omega) (fun (q41 : z14 ≠ 1) => ?_) (fun (q41 : ¬ (z14 ≠ 1)) => by exfalso; omega)
      refine wi_iload_n (i := 1) (e := z14) (nx := 53) (r1 := 0) (r2 := 0) (r3 := 0) rfl rfl ?_
      refine wi_iconst (n := 2) (nx := 54) (r1 := 0) (r2 := 0) (r3 := 0) rfl ?_
      refine wi_icmp (cd := .ne) (nx := 57) (r1 := 69) (r2 := 0) (r3 := 0) rfl (by omega) (by omega) (fun (q42 : z14 ≠ 2) => ?_) (fun (q42 : ¬ (z14 ≠ 2)) => by exfalso; omega)
      refine wi_iload_n (i := 1) (e := z14) (nx := 70) (r1 := 0) (r2 := 0) (r3 := 0) rfl rfl ?_
      refine wi_iconst (n := 3) (nx := 71) (r1 := 0) (r2 := 0) (r3 := 0) rfl ?_
      refine wi_icmp (cd := .ne) (nx := 74) (r1 := 85) (r2 := 0) (r3 := 0) rfl (by omega) (by omega) (fun (q43 : z14 ≠ 3) => ?_) (fun (q43 : ¬ (z14 ≠ 3)) => by exfalso; omega)
      refine wi_iload_n (i := 1) (e := z14) (nx := 86) (r1 := 0) (r2 := 0) (r3 := 0) rfl rfl ?_
      refine wi_ireturn (nx := 87) (r1 := 0) (r2 := 0) (r3 := 0) rfl rfl ?_
      have e44 : h39 238 98 = h 238 98 := ((u39 238 98 rfl).trans (u24 238 98 rfl))
      have e45 : h39 238 99 = h 238 99 := ((u39 238 99 rfl).trans (u24 238 99 rfl))
      have e46 : h39 238 100 = h24 238 100 := (u39 238 100 rfl)
      have e47 : h39 238 101 = h 238 101 := ((u39 238 101 rfl).trans (u24 238 101 rfl))
      have e48 : h39 238 102 = h24 238 102 := (u39 238 102 rfl)
      have e49 : h39 238 106 = h 238 106 := ((u39 238 106 rfl).trans (u24 238 106 rfl))
      have e50 : h39 238 73 = h 238 73 := ((u39 238 73 rfl).trans (u24 238 73 rfl))
      have e51 : h39 238 2 = h 238 2 := ((u39 238 2 rfl).trans (u24 238 2 rfl))
      have e52 : h39 238 119 = h 238 119 := ((u39 238 119 rfl).trans (u24 238 119 rfl))
      have e53 : h39 238 67 = h 238 67 := ((u39 238 67 rfl).trans (u24 238 67 rfl))
      have e54 : h39 238 69 = h 238 69 := ((u39 238 69 rfl).trans (u24 238 69 rfl))
      have e55 : h39 238 5 = h 238 5 := ((u39 238 5 rfl).trans (u24 238 5 rfl))
      exact k h39 z14 g39 F40 (by omega) (show (h39 238 98) + (h39 238 99) + (h39 238 100) + (h39 238 101) + (h39 238 102) + (h39 238 106) = (h39 238 73) by omega) (show (h39 238 73) ≤ (h39 238 2) by omega) (show (h39 238 119) ≤ (h39 238 67) by omega) (show (h39 238 69) ≤ (h39 238 5) by omega) (show (h39 238 2) ≤ 12 * (h39 238 5) by omega)
    ·
      rw [q21]
      have rg22 : h 238 101 < h 238 18 := (laP.at y17_0 3 (by omega)).2
      have b23 := gi_b (lo := 0) (hi := 6) g 238 18 rfl
      refine wr_V (k0 := 236) (rest := [.ref 236]) (as := [.ref 236, vi 3]) (nx := 25) (r1 := 286) (r2 := 1) (r3 := 11) rfl rfl rfl (of_decide_eq_true rfl) rfl rfl (by decide) rfl rfl (of_decide_eq_true rfl) (of_decide_eq_true rfl) ?_
      refine ct_286_236_L3 hcr  g   (show (h 238 98) + (h 238 99) + (h 238 100) + (h 238 101) + (h 238 102) + (h 238 106) = (h 238 73) by omega) (show (h 238 73) ≤ (h 238 2) by omega) (show (h 238 119) ≤ (h 238 67) by omega) (show (h 238 69) ≤ (h 238 5) by omega) (show (h 238 2) ≤ 12 * (h 238 5) by omega) (show 1 ≤ (h 238 102) by omega) (show (h 238 101) ≤ 5 by omega) (fun h24 z25 g24 u24 (fz25 : 0 ≤ z25 ∧ z25 ≤ 11) (p24_0 : (h24 238 98) + (h24 238 99) + (h24 238 100) + (h24 238 101) + (h24 238 102) + (h24 238 106) = (h24 238 73)) (p24_1 : (h24 238 73) ≤ (h24 238 2)) (p24_2 : (h24 238 119) ≤ (h24 238 67)) (p24_3 : (h24 238 69) ≤ (h24 238 5)) (p24_4 : (h24 238 2) ≤ 12 * (h24 238 5)) => ?_)
      have F26 := F0.then (by decide +kernel) u24
      have e27 : h24 238 98 = h 238 98 := (u24 238 98 rfl)
      have e28 : h24 238 99 = h 238 99 := (u24 238 99 rfl)
      have e29 : h24 238 100 = h 238 100 := (u24 238 100 rfl)
      have b30 := gi_b (lo := 0) (hi := 6) g24 238 101 rfl
      have b31 := gi_b (lo := 0) (hi := 3) g24 238 102 rfl
      have e32 : h24 238 106 = h 238 106 := (u24 238 106 rfl)
      have e33 : h24 238 73 = h 238 73 := (u24 238 73 rfl)
      have e34 : h24 238 2 = h 238 2 := (u24 238 2 rfl)
      have e35 : h24 238 119 = h 238 119 := (u24 238 119 rfl)
      have e36 : h24 238 67 = h 238 67 := (u24 238 67 rfl)
      have e37 : h24 238 69 = h 238 69 := (u24 238 69 rfl)
      have e38 : h24 238 5 = h 238 5 := (u24 238 5 rfl)
      refine wk_i ?_
      refine wr_pf0 (k0 := 236) (x := z25) (bl := -2147483648) (bh := 2147483647) (nx := 28) (r1 := 11) (r2 := 28) (r3 := 0) rfl (by decide) rfl ⟨rfl, rfl⟩ rfl rfl g24 rfl (by omega) (fun h39 g39 w39 u39 => ?_)
      have F40 := F26.then rfl u39
      refine wi_iload_n (i := 1) (e := z14) (nx := 29) (r1 := 0) (r2 := 0) (r3 := 0) rfl rfl ?_
      refine wi_iconst (n := 1) (nx := 30) (r1 := 0) (r2 := 0) (r3 := 0) rfl ?_
      refine wi_icmp (cd := .ne) (nx := 33) (r1 := 52) (r2 := 0) (r3 := 0) rfl (by omega) (by omega) (fun (q41 : z14 ≠ 1) => ?_) (fun (q41 : ¬ (z14 ≠ 1)) => by exfalso; omega)
      refine wi_iload_n (i := 1) (e := z14) (nx := 53) (r1 := 0) (r2 := 0) (r3 := 0) rfl rfl ?_
      refine wi_iconst (n := 2) (nx := 54) (r1 := 0) (r2 := 0) (r3 := 0) rfl ?_
      refine wi_icmp (cd := .ne) (nx := 57) (r1 := 69) (r2 := 0) (r3 := 0) rfl (by omega) (by omega) (fun (q42 : z14 ≠ 2) => ?_) (fun (q42 : ¬ (z14 ≠ 2)) => by exfalso; omega)
      refine wi_iload_n (i := 1) (e := z14) (nx := 70) (r1 := 0) (r2 := 0) (r3 := 0) rfl rfl ?_
      refine wi_iconst (n := 3) (nx := 71) (r1 := 0) (r2 := 0) (r3 := 0) rfl ?_
      refine wi_icmp (cd := .ne) (nx := 74) (r1 := 85) (r2 := 0) (r3 := 0) rfl (by omega) (by omega) (fun (q43 : z14 ≠ 3) => ?_) (fun (q43 : ¬ (z14 ≠ 3)) => by exfalso; omega)
      refine wi_iload_n (i := 1) (e := z14) (nx := 86) (r1 := 0) (r2 := 0) (r3 := 0) rfl rfl ?_
      refine wi_ireturn (nx := 87) (r1 := 0) (r2 := 0) (r3 := 0) rfl rfl ?_
      have e44 : h39 238 98 = h 238 98 := ((u39 238 98 rfl).trans (u24 238 98 rfl))
      have e45 : h39 238 99 = h 238 99 := ((u39 238 99 rfl).trans (u24 238 99 rfl))
      have e46 : h39 238 100 = h 238 100 := ((u39 238 100 rfl).trans (u24 238 100 rfl))
      have e47 : h39 238 101 = h24 238 101 := (u39 238 101 rfl)
      have e48 : h39 238 102 = h24 238 102 := (u39 238 102 rfl)
      have e49 : h39 238 106 = h 238 106 := ((u39 238 106 rfl).trans (u24 238 106 rfl))
      have e50 : h39 238 73 = h 238 73 := ((u39 238 73 rfl).trans (u24 238 73 rfl))
      have e51 : h39 238 2 = h 238 2 := ((u39 238 2 rfl).trans (u24 238 2 rfl))
      have e52 : h39 238 119 = h 238 119 := ((u39 238 119 rfl).trans (u24 238 119 rfl))
      have e53 : h39 238 67 = h 238 67 := ((u39 238 67 rfl).trans (u24 238 67 rfl))
      have e54 : h39 238 69 = h 238 69 := ((u39 238 69 rfl).trans (u24 238 69 rfl))
      have e55 : h39 238 5 = h 238 5 := ((u39 238 5 rfl).trans (u24 238 5 rfl))
      exact k h39 z14 g39 F40 (by omega) (show (h39 238 98) + (h39 238 99) + (h39 238 100) + (h39 238 101) + (h39 238 102) + (h39 238 106) = (h39 238 73) by omega) (show (h39 238 73) ≤ (h39 238 2) by omega) (show (h39 238 119) ≤ (h39 238 67) by omega) (show (h39 238 69) ≤ (h39 238 5) by omega) (show (h39 238 2) ≤ 12 * (h39 238 5) by omega)
-- method 238: Model.copies([I[I)V
set_option maxRecDepth 100000 in
set_option maxHeartbeats 100000000 in
theorem ct_238_240_238 {L : Nat} {xs : Nat → Int32} {d b c : Nat} {h : hp} {cr : Nat → Nat → Option Nat} {Q : hp_Q} (hcr : CR cr)  (g : GI h)    (k : ∀ (h2 : hp) , GI h2 → FR [(238, 238, none)] h h2 → (∀ q : Nat, q < 200 → h2 238 q = h 240 q) → Q (.inl none) (hp_w h2 cr) b c) : wp (md_xa (L, xs)) d 238 (0, [(0, .ref 240), (1, .ref 238)], [], hp_w h cr, b, c) Q := by
  have F0 : FR [(238, 238, none)] h h := FR.refl
  refine wi_iconst (n := 0) (nx := 1) (r1 := 0) (r2 := 0) (r3 := 0) rfl ?_
  refine wi_istore_n (i := 2) (e := 0) (lo2 := [(2, vi 0), (0, .ref 240), (1, .ref 238)]) (nx := 2) (r1 := 0) (r2 := 0) (r3 := 0) rfl rfl ?_
  refine wp.lo (lo := [(0, .ref 240), (1, .ref 238), (2, vi 0)]) ⟨rfl, rfl, rfl, trivial⟩ rfl ?_
  refine wl_1 (fun x1 h2 => GI h2 ∧ FR [(238, 238, none)] h h2 ∧ FR [(238, 238, none)] h h2 ∧ ((0 ≤ x1 ∧ x1 ≤ 200)) ∧ (∀ q : Nat, (q : Int) < x1 → h2 238 q = h 240 q) ∧ (∀ q : Nat, x1 ≤ (q : Int) → h2 238 q = h 238 q)) (fun x1 h2 => ((200 : Int) + 1 - x1).toNat) (fun x1 h2 => (2, [(0, .ref 240), (1, .ref 238), (2, vi x1)], [], hp_w h2 cr, b, c)) ?_ 0 h ⟨g, F0, FR.refl, (show (0 ≤ 0 ∧ 0 ≤ 200) by omega), (fun q e => absurd e (by omega)), (fun _ _ => rfl)⟩
  intro x1 h2 ⟨g2, F3, u2, f2, XA2, XB2⟩ I2
  refine wi_iload_n (i := 2) (e := x1) (nx := 3) (r1 := 0) (r2 := 0) (r3 := 0) rfl rfl ?_
  refine wi_sipush (n := 200) (nx := 6) (r1 := 0) (r2 := 0) (r3 := 0) rfl (by decide) ?_
  refine wi_icmp (cd := .ge) (nx := 9) (r1 := 21) (r2 := 0) (r3 := 0) rfl (by omega) (by omega) (fun (q4 : 200 ≤ x1) => ?_) (fun (q4 : ¬ (200 ≤ x1)) => ?_)
  ·
    refine wi_return (nx := 22) (r1 := 0) (r2 := 0) (r3 := 0) rfl rfl ?_
    exact k h2 g2 F3 (fun q e => XA2 q (by omega))
  ·
    refine wi_aload_n (i := 1) (x := 238) (nx := 10) (r1 := 0) (r2 := 0) (r3 := 0) rfl rfl ?_
    refine wi_iload_n (i := 2) (e := x1) (nx := 11) (r1 := 0) (r2 := 0) (r3 := 0) rfl rfl ?_
    refine wi_aload_n (i := 0) (x := 240) (nx := 12) (r1 := 0) (r2 := 0) (r3 := 0) rfl rfl ?_
    refine wi_iload_n (i := 2) (e := x1) (nx := 13) (r1 := 0) (r2 := 0) (r3 := 0) rfl rfl ?_
    obtain ⟨i5, ei5⟩ : ∃ q : Nat, x1 = (q : Int) := ⟨(x1).toNat, by omega⟩
    refine wr_ia (k0 := 240) (a := x1) (f := i5) (x := h 240 i5) (nx := 14) (r1 := 0) (r2 := 0) (r3 := 0) rfl (by decide) rfl (by omega) (by omega) (by decide) (u2 240 i5 (fn_a (by decide) fn_0)) ?_
    refine wr_iv (k0 := 238) (a := x1) (f := i5) (x := h 240 i5) (nx := 15) (r1 := 0) (r2 := 0) (r3 := 0) rfl (by decide) rfl (by omega) (by omega) (by decide) g2 (g 240 i5) (fun h6 g6 w6 u6 => ?_)
    have F7 := F3.then rfl (FR.rngp (lo := 238) (hi := 238) u6 (by decide))
    have F8 := u2.then rfl (FR.rngp (lo := 238) (hi := 238) u6 (by decide))
    refine wr_iinc (i := 2) (n := 1) (v := x1) (fun e9 => [(2, vi e9), (0, .ref 240), (1, .ref 238)]) (nx := 18) (r1 := 0) (r2 := 0) (r3 := 0) rfl rfl (fun _ => rfl) (fun e9 (fe9 : e9 = x1 + 1) => ?_)
    refine wi_goto (nx := 21) (r1 := 2) (r2 := 0) (r3 := 0) rfl ?_
    refine wp.lo (lo := [(0, .ref 240), (1, .ref 238), (2, vi e9)]) ⟨rfl, rfl, rfl, trivial⟩ rfl ?_
    exact I2 e9 h6 ⟨g6, F7, F8, (show (0 ≤ e9 ∧ e9 ≤ 200) by omega), (fun q e => by
        by_cases e1 : (q : Int) < x1
        · exact (u6 238 _ (fn_i (by omega) fn_0)).trans (XA2 q e1)
        · have e2 : q = i5 := by omega
          have e3 : q = i5 := by omega
          exact (congrArg (h6 238) e2).trans (w6.trans ((Eq.refl _).trans (congrArg (h 240) e3).symm))), (fun q e => (u6 238 q (fn_i (by omega) fn_0)).trans (XB2 q (by omega)))⟩ (show ((200 : Int) + 1 - e9).toNat < ((200 : Int) + 1 - x1).toNat by omega)
-- method 294: Model.foretold(II)I
set_option maxRecDepth 100000 in
set_option maxHeartbeats 100000000 in
theorem ct_294_236_L72 {L : Nat} {xs : Nat → Int32} {d b c : Nat} {h : hp} {cr : Nat → Nat → Option Nat} {Q : hp_Q} (hcr : CR cr)  (g : GI h) (a0 : Int) (q0_ : -2147483648 ≤ a0 ∧ a0 ≤ 2147483647) (pp0 : h 238 98 + h 238 99 + h 238 100 + h 238 101 + h 238 102 + h 238 106 = h 238 73) (pp1 : h 238 73 ≤ h 238 2) (pp2 : h 238 119 ≤ h 238 67) (pp3 : h 238 69 ≤ h 238 5) (pp4 : h 238 2 ≤ 12 * h 238 5) (k : ∀ (h2 : hp) (z0 : Int) , GI h2 → FR [(238, 238, none), (240, 240, none), (236, 236, some (28, 28))] h h2 → (-2147483648 ≤ z0 ∧ z0 ≤ 2147483647) → (h2 238 98 + h2 238 99 + h2 238 100 + h2 238 101 + h2 238 102 + h2 238 106 = h2 238 73) → (h2 238 73 ≤ h2 238 2) → (h2 238 119 ≤ h2 238 67) → (h2 238 69 ≤ h2 238 5) → (h2 238 2 ≤ 12 * h2 238 5) → (∀ i : Nat, i < 31 → h2 238 i = h 238 i) → Q (.inl (some (vi z0))) (hp_w h2 cr) b c) : wp (md_xa (L, xs)) (d + 5) 294 (0, [(0, .ref 236), (1, vi a0), (2, vi 72)], [], hp_w h cr, b, c) Q := by
  have F0 : FR [(238, 238, none), (240, 240, none), (236, 236, some (28, 28))] h h := FR.refl
  have b1 := gi_b (lo := 0) (hi := 6) g 238 98 rfl
  have b2 := gi_b (lo := 0) (hi := 6) g 238 99 rfl
  have b3 := gi_b (lo := 0) (hi := 6) g 238 100 rfl
  have b4 := gi_b (lo := 0) (hi := 6) g 238 101 rfl
  have b5 := gi_b (lo := 0) (hi := 3) g 238 102 rfl
  have b6 := gi_b (lo := 0) (hi := 12) g 238 106 rfl
  have b7 := gi_b (lo := 0) (hi := 12) g 238 73 rfl
  have b8 := gi_b (lo := 0) (hi := 12) g 238 2 rfl
  have b9 := gi_b (lo := 0) (hi := 9999) g 238 119 rfl
  have b10 := gi_b (lo := 0) (hi := 9999) g 238 67 rfl
  have b11 := gi_b (lo := 0) (hi := 9) g 238 69 rfl
  have b12 := gi_b (lo := 0) (hi := 9) g 238 5 rfl
  refine wi_aload_n (i := 0) (x := 236) (nx := 1) (r1 := 0) (r2 := 0) (r3 := 0) rfl rfl ?_
  refine wr_gr (k0 := 236) (x := 238) (nx := 4) (r1 := 11) (r2 := 13) (r3 := 0) rfl rfl (by decide) rfl ⟨rfl, rfl⟩ rfl ?_
  refine wi_aload_n (i := 0) (x := 236) (nx := 5) (r1 := 0) (r2 := 0) (r3 := 0) rfl rfl ?_
  refine wr_gr (k0 := 236) (x := 240) (nx := 8) (r1 := 11) (r2 := 15) (r3 := 0) rfl rfl (by decide) rfl ⟨rfl, rfl⟩ rfl ?_
  refine wi_S (rest := []) (as := [.ref 238, .ref 240]) (nx := 11) (r1 := 238) (r2 := 18) (r3 := 0) rfl rfl rfl (of_decide_eq_true rfl) rfl rfl (of_decide_eq_true rfl) (of_decide_eq_true rfl) ?_
  refine ct_238_238_240 hcr  g    (fun h13 g13 u13 y13_0 => ?_)
  have F14 := F0.then (by decide +kernel) u13
  refine wk_n ?_
  refine wi_iconst (n := 0) (nx := 12) (r1 := 0) (r2 := 0) (r3 := 0) rfl ?_
  refine wi_istore_n (i := 3) (e := 0) (lo2 := [(3, vi 0), (0, .ref 236), (1, vi a0), (2, vi 72)]) (nx := 13) (r1 := 0) (r2 := 0) (r3 := 0) rfl rfl ?_
  have e17 : h13 238 98 = h 238 98 := (u13 238 98 rfl)
  have e18 : h13 238 99 = h 238 99 := (u13 238 99 rfl)
  have e19 : h13 238 100 = h 238 100 := (u13 238 100 rfl)
  have e20 : h13 238 101 = h 238 101 := (u13 238 101 rfl)
  have e21 : h13 238 102 = h 238 102 := (u13 238 102 rfl)
  have e22 : h13 238 106 = h 238 106 := (u13 238 106 rfl)
  have e23 : h13 238 73 = h 238 73 := (u13 238 73 rfl)
  have e24 : h13 238 2 = h 238 2 := (u13 238 2 rfl)
  have e25 : h13 238 119 = h 238 119 := (u13 238 119 rfl)
  have e26 : h13 238 67 = h 238 67 := (u13 238 67 rfl)
  have e27 : h13 238 69 = h 238 69 := (u13 238 69 rfl)
  have e28 : h13 238 5 = h 238 5 := (u13 238 5 rfl)
  refine wp.lo (lo := [(0, .ref 236), (1, vi a0), (2, vi 72), (3, vi 0)]) ⟨rfl, rfl, rfl, rfl, trivial⟩ rfl ?_
  refine wl_1 (fun x15 h16 => GI h16 ∧ FR [(238, 238, none), (240, 240, none), (236, 236, some (28, 28))] h h16 ∧ FR [(236, 236, some (28, 28)), (238, 238, some (43, 54)), (238, 238, some (55, 66)), (238, 238, some (67, 67)), (238, 238, some (68, 68)), (238, 238, some (69, 69)), (238, 238, some (70, 70)), (238, 238, some (71, 71)), (238, 238, some (72, 72)), (238, 238, some (73, 73)), (238, 238, some (74, 79)), (238, 238, some (80, 85)), (238, 238, some (86, 91)), (238, 238, some (92, 97)), (238, 238, some (98, 98)), (238, 238, some (99, 99)), (238, 238, some (100, 100)), (238, 238, some (101, 101)), (238, 238, some (102, 102)), (238, 238, some (103, 105)), (238, 238, some (106, 106)), (238, 238, some (107, 118)), (238, 238, some (119, 119)), (238, 238, some (120, 196)), (238, 238, some (121, 197)), (238, 238, some (122, 198)), (238, 238, some (123, 199))] h13 h16 ∧ ((0 ≤ x15 ∧ x15 ≤ 2147483647) ∧ ((h16 238 98) + (h16 238 99) + (h16 238 100) + (h16 238 101) + (h16 238 102) + (h16 238 106) = (h16 238 73)) ∧ ((h16 238 73) ≤ (h16 238 2)) ∧ ((h16 238 119) ≤ (h16 238 67)) ∧ ((h16 238 69) ≤ (h16 238 5)) ∧ ((h16 238 2) ≤ 12 * (h16 238 5)))) (fun x15 h16 => ((2147483647 : Int) + 1 - x15).toNat) (fun x15 h16 => (13, [(0, .ref 236), (1, vi a0), (2, vi 72), (3, vi x15)], [], hp_w h16 cr, b, c)) ?_ 0 h13 ⟨g13, F14, FR.refl, (show (0 ≤ 0 ∧ 0 ≤ 2147483647) ∧ ((h13 238 98) + (h13 238 99) + (h13 238 100) + (h13 238 101) + (h13 238 102) + (h13 238 106) = (h13 238 73)) ∧ ((h13 238 73) ≤ (h13 238 2)) ∧ ((h13 238 119) ≤ (h13 238 67)) ∧ ((h13 238 69) ≤ (h13 238 5)) ∧ ((h13 238 2) ≤ 12 * (h13 238 5)) by omega)⟩
  intro x15 h16 ⟨g16, F29, u16, f16⟩ I16
  have b30 := gi_b (lo := 0) (hi := 6) g16 238 98 rfl
  have b31 := gi_b (lo := 0) (hi := 6) g16 238 99 rfl
  have b32 := gi_b (lo := 0) (hi := 6) g16 238 100 rfl
  have b33 := gi_b (lo := 0) (hi := 6) g16 238 101 rfl
  have b34 := gi_b (lo := 0) (hi := 3) g16 238 102 rfl
  have b35 := gi_b (lo := 0) (hi := 12) g16 238 106 rfl
  have b36 := gi_b (lo := 0) (hi := 12) g16 238 73 rfl
  have e37 : h16 238 2 = h 238 2 := ((u16 238 2 rfl).trans (u13 238 2 rfl))
  have b38 := gi_b (lo := 0) (hi := 9999) g16 238 119 rfl
  have b39 := gi_b (lo := 0) (hi := 9999) g16 238 67 rfl
  have b40 := gi_b (lo := 0) (hi := 9) g16 238 69 rfl
  have e41 : h16 238 5 = h 238 5 := ((u16 238 5 rfl).trans (u13 238 5 rfl))
  refine wi_iload_n (i := 3) (e := x15) (nx := 14) (r1 := 0) (r2 := 0) (r3 := 0) rfl rfl ?_
  refine wi_iload_n (i := 1) (e := a0) (nx := 15) (r1 := 0) (r2 := 0) (r3 := 0) rfl rfl ?_
  refine wi_icmp (cd := .ge) (nx := 18) (r1 := 32) (r2 := 0) (r3 := 0) rfl (by omega) (by omega) (fun (q42 : a0 ≤ x15) => ?_) (fun (q42 : ¬ (a0 ≤ x15)) => ?_)
  ·
    refine wi_aload_n (i := 0) (x := 236) (nx := 33) (r1 := 0) (r2 := 0) (r3 := 0) rfl rfl ?_
    refine wr_gr (k0 := 236) (x := 238) (nx := 36) (r1 := 11) (r2 := 13) (r3 := 0) rfl rfl (by decide) rfl ⟨rfl, rfl⟩ rfl ?_
    refine wi_iload_n (i := 2) (e := 72) (nx := 37) (r1 := 0) (r2 := 0) (r3 := 0) rfl rfl ?_
    have b43 := gi_b (lo := -2147483648) (hi := 2147483647) g16 238 72 rfl
    refine wr_ia (k0 := 238) (a := 72) (f := 72) (x := h16 238 72) (nx := 38) (r1 := 0) (r2 := 0) (r3 := 0) rfl (by decide) rfl (by omega) (by omega) (by decide) rfl ?_
    refine wi_istore (i := 4) (e := h16 238 72) (lo2 := [(4, vi (h16 238 72)), (0, .ref 236), (1, vi a0), (2, vi 72), (3, vi x15)]) (nx := 40) (r1 := 0) (r2 := 0) (r3 := 0) rfl rfl ?_
    refine wi_aload_n (i := 0) (x := 236) (nx := 41) (r1 := 0) (r2 := 0) (r3 := 0) rfl rfl ?_
    refine wr_gr (k0 := 236) (x := 240) (nx := 44) (r1 := 11) (r2 := 15) (r3 := 0) rfl rfl (by decide) rfl ⟨rfl, rfl⟩ rfl ?_
    refine wi_aload_n (i := 0) (x := 236) (nx := 45) (r1 := 0) (r2 := 0) (r3 := 0) rfl rfl ?_
    refine wr_gr (k0 := 236) (x := 238) (nx := 48) (r1 := 11) (r2 := 13) (r3 := 0) rfl rfl (by decide) rfl ⟨rfl, rfl⟩ rfl ?_
    refine wi_S (rest := []) (as := [.ref 240, .ref 238]) (nx := 51) (r1 := 238) (r2 := 18) (r3 := 0) rfl rfl rfl (of_decide_eq_true rfl) rfl rfl (of_decide_eq_true rfl) (of_decide_eq_true rfl) ?_
    refine ct_238_240_238 hcr  g16    (fun h44 g44 u44 y44_0 => ?_)
    have F45 := F29.then (by decide +kernel) u44
    refine wk_n ?_
    refine wi_iload (i := 4) (e := h16 238 72) (nx := 53) (r1 := 0) (r2 := 0) (r3 := 0) rfl rfl ?_
    refine wi_ireturn (nx := 54) (r1 := 0) (r2 := 0) (r3 := 0) rfl rfl ?_
    have e46 : h44 238 98 = h 238 98 := ((y44_0 98 (by decide)).trans ((u16 240 98 rfl).trans (y13_0 98 (by decide))))
    have e47 : h44 238 99 = h 238 99 := ((y44_0 99 (by decide)).trans ((u16 240 99 rfl).trans (y13_0 99 (by decide))))
    have e48 : h44 238 100 = h 238 100 := ((y44_0 100 (by decide)).trans ((u16 240 100 rfl).trans (y13_0 100 (by decide))))
    have e49 : h44 238 101 = h 238 101 := ((y44_0 101 (by decide)).trans ((u16 240 101 rfl).trans (y13_0 101 (by decide))))
    have e50 : h44 238 102 = h 238 102 := ((y44_0 102 (by decide)).trans ((u16 240 102 rfl).trans (y13_0 102 (by decide))))
    have e51 : h44 238 106 = h 238 106 := ((y44_0 106 (by decide)).trans ((u16 240 106 rfl).trans (y13_0 106 (by decide))))
    have e52 : h44 238 73 = h 238 73 := ((y44_0 73 (by decide)).trans ((u16 240 73 rfl).trans (y13_0 73 (by decide))))
    have e53 : h44 238 2 = h 238 2 := ((y44_0 2 (by decide)).trans ((u16 240 2 rfl).trans (y13_0 2 (by decide))))
    have e54 : h44 238 119 = h 238 119 := ((y44_0 119 (by decide)).trans ((u16 240 119 rfl).trans (y13_0 119 (by decide))))
    have e55 : h44 238 67 = h 238 67 := ((y44_0 67 (by decide)).trans ((u16 240 67 rfl).trans (y13_0 67 (by decide))))
    have e56 : h44 238 69 = h 238 69 := ((y44_0 69 (by decide)).trans ((u16 240 69 rfl).trans (y13_0 69 (by decide))))
    have e57 : h44 238 5 = h 238 5 := ((y44_0 5 (by decide)).trans ((u16 240 5 rfl).trans (y13_0 5 (by decide))))
    exact k h44 (h16 238 72) g44 F45 (by omega) (show (h44 238 98) + (h44 238 99) + (h44 238 100) + (h44 238 101) + (h44 238 102) + (h44 238 106) = (h44 238 73) by omega) (show (h44 238 73) ≤ (h44 238 2) by omega) (show (h44 238 119) ≤ (h44 238 67) by omega) (show (h44 238 69) ≤ (h44 238 5) by omega) (show (h44 238 2) ≤ 12 * (h44 238 5) by omega) (fun i _ => ((y44_0 i (by omega)).trans ((u16 240 i (fo_nk rfl)).trans (y13_0 i (by omega)))))
  ·
    refine wi_aload_n (i := 0) (x := 236) (nx := 19) (r1 := 0) (r2 := 0) (r3 := 0) rfl rfl ?_
    refine wr_V (k0 := 236) (rest := []) (as := [.ref 236]) (nx := 22) (r1 := 292) (r2 := 0) (r3 := 11) rfl rfl rfl (of_decide_eq_true rfl) rfl rfl (by decide) rfl rfl (of_decide_eq_true rfl) (of_decide_eq_true rfl) ?_
    refine ct_292_236 hcr  g16   (show (h16 238 98) + (h16 238 99) + (h16 238 100) + (h16 238 101) + (h16 238 102) + (h16 238 106) = (h16 238 73) by omega) (show (h16 238 73) ≤ (h16 238 2) by omega) (show (h16 238 119) ≤ (h16 238 67) by omega) (show (h16 238 69) ≤ (h16 238 5) by omega) (show (h16 238 2) ≤ 12 * (h16 238 5) by omega) (fun h43 z44 g43 u43 (fz44 : -1 ≤ z44 ∧ z44 ≤ 3) (p43_0 : (h43 238 98) + (h43 238 99) + (h43 238 100) + (h43 238 101) + (h43 238 102) + (h43 238 106) = (h43 238 73)) (p43_1 : (h43 238 73) ≤ (h43 238 2)) (p43_2 : (h43 238 119) ≤ (h43 238 67)) (p43_3 : (h43 238 69) ≤ (h43 238 5)) (p43_4 : (h43 238 2) ≤ 12 * (h43 238 5)) => ?_)
    have F45 := F29.then (by decide +kernel) u43
    have F46 := u16.then (by decide +kernel) u43
    have b47 := gi_b (lo := 0) (hi := 6) g43 238 98 rfl
    have b48 := gi_b (lo := 0) (hi := 6) g43 238 99 rfl
    have b49 := gi_b (lo := 0) (hi := 6) g43 238 100 rfl
    have b50 := gi_b (lo := 0) (hi := 6) g43 238 101 rfl
    have b51 := gi_b (lo := 0) (hi := 3) g43 238 102 rfl
    have b52 := gi_b (lo := 0) (hi := 12) g43 238 106 rfl
    have b53 := gi_b (lo := 0) (hi := 12) g43 238 73 rfl
    have e54 : h43 238 2 = h 238 2 := ((u43 238 2 rfl).trans ((u16 238 2 rfl).trans (u13 238 2 rfl)))
    have b55 := gi_b (lo := 0) (hi := 9999) g43 238 119 rfl
    have b56 := gi_b (lo := 0) (hi := 9999) g43 238 67 rfl
    have b57 := gi_b (lo := 0) (hi := 9) g43 238 69 rfl
    have e58 : h43 238 5 = h 238 5 := ((u43 238 5 rfl).trans ((u16 238 5 rfl).trans (u13 238 5 rfl)))
    refine wk_i ?_
    refine wi_iconst (n := (-1)) (nx := 23) (r1 := 0) (r2 := 0) (r3 := 0) rfl ?_
    refine wi_icmp (cd := .eq) (nx := 26) (r1 := 32) (r2 := 0) (r3 := 0) rfl (by omega) (by omega) (fun (q59 : z44 = (-1)) => ?_) (fun (q59 : ¬ (z44 = (-1))) => ?_)
    ·
      refine wi_aload_n (i := 0) (x := 236) (nx := 33) (r1 := 0) (r2 := 0) (r3 := 0) rfl rfl ?_
      refine wr_gr (k0 := 236) (x := 238) (nx := 36) (r1 := 11) (r2 := 13) (r3 := 0) rfl rfl (by decide) rfl ⟨rfl, rfl⟩ rfl ?_
      refine wi_iload_n (i := 2) (e := 72) (nx := 37) (r1 := 0) (r2 := 0) (r3 := 0) rfl rfl ?_
      have b60 := gi_b (lo := -2147483648) (hi := 2147483647) g43 238 72 rfl
      refine wr_ia (k0 := 238) (a := 72) (f := 72) (x := h43 238 72) (nx := 38) (r1 := 0) (r2 := 0) (r3 := 0) rfl (by decide) rfl (by omega) (by omega) (by decide) rfl ?_
      refine wi_istore (i := 4) (e := h43 238 72) (lo2 := [(4, vi (h43 238 72)), (0, .ref 236), (1, vi a0), (2, vi 72), (3, vi x15)]) (nx := 40) (r1 := 0) (r2 := 0) (r3 := 0) rfl rfl ?_
      refine wi_aload_n (i := 0) (x := 236) (nx := 41) (r1 := 0) (r2 := 0) (r3 := 0) rfl rfl ?_
      refine wr_gr (k0 := 236) (x := 240) (nx := 44) (r1 := 11) (r2 := 15) (r3 := 0) rfl rfl (by decide) rfl ⟨rfl, rfl⟩ rfl ?_
      refine wi_aload_n (i := 0) (x := 236) (nx := 45) (r1 := 0) (r2 := 0) (r3 := 0) rfl rfl ?_
      refine wr_gr (k0 := 236) (x := 238) (nx := 48) (r1 := 11) (r2 := 13) (r3 := 0) rfl rfl (by decide) rfl ⟨rfl, rfl⟩ rfl ?_
      refine wi_S (rest := []) (as := [.ref 240, .ref 238]) (nx := 51) (r1 := 238) (r2 := 18) (r3 := 0) rfl rfl rfl (of_decide_eq_true rfl) rfl rfl (of_decide_eq_true rfl) (of_decide_eq_true rfl) ?_
      refine ct_238_240_238 hcr  g43    (fun h61 g61 u61 y61_0 => ?_)
      have F62 := F45.then (by decide +kernel) u61
      refine wk_n ?_
      refine wi_iload (i := 4) (e := h43 238 72) (nx := 53) (r1 := 0) (r2 := 0) (r3 := 0) rfl rfl ?_
      refine wi_ireturn (nx := 54) (r1 := 0) (r2 := 0) (r3 := 0) rfl rfl ?_
      have e63 : h61 238 98 = h 238 98 := ((y61_0 98 (by decide)).trans ((u43 240 98 rfl).trans ((u16 240 98 rfl).trans (y13_0 98 (by decide)))))
      have e64 : h61 238 99 = h 238 99 := ((y61_0 99 (by decide)).trans ((u43 240 99 rfl).trans ((u16 240 99 rfl).trans (y13_0 99 (by decide)))))
      have e65 : h61 238 100 = h 238 100 := ((y61_0 100 (by decide)).trans ((u43 240 100 rfl).trans ((u16 240 100 rfl).trans (y13_0 100 (by decide)))))
      have e66 : h61 238 101 = h 238 101 := ((y61_0 101 (by decide)).trans ((u43 240 101 rfl).trans ((u16 240 101 rfl).trans (y13_0 101 (by decide)))))
      have e67 : h61 238 102 = h 238 102 := ((y61_0 102 (by decide)).trans ((u43 240 102 rfl).trans ((u16 240 102 rfl).trans (y13_0 102 (by decide)))))
      have e68 : h61 238 106 = h 238 106 := ((y61_0 106 (by decide)).trans ((u43 240 106 rfl).trans ((u16 240 106 rfl).trans (y13_0 106 (by decide)))))
      have e69 : h61 238 73 = h 238 73 := ((y61_0 73 (by decide)).trans ((u43 240 73 rfl).trans ((u16 240 73 rfl).trans (y13_0 73 (by decide)))))
      have e70 : h61 238 2 = h 238 2 := ((y61_0 2 (by decide)).trans ((u43 240 2 rfl).trans ((u16 240 2 rfl).trans (y13_0 2 (by decide)))))
      have e71 : h61 238 119 = h 238 119 := ((y61_0 119 (by decide)).trans ((u43 240 119 rfl).trans ((u16 240 119 rfl).trans (y13_0 119 (by decide)))))
      have e72 : h61 238 67 = h 238 67 := ((y61_0 67 (by decide)).trans ((u43 240 67 rfl).trans ((u16 240 67 rfl).trans (y13_0 67 (by decide)))))
      have e73 : h61 238 69 = h 238 69 := ((y61_0 69 (by decide)).trans ((u43 240 69 rfl).trans ((u16 240 69 rfl).trans (y13_0 69 (by decide)))))
      have e74 : h61 238 5 = h 238 5 := ((y61_0 5 (by decide)).trans ((u43 240 5 rfl).trans ((u16 240 5 rfl).trans (y13_0 5 (by decide)))))
      exact k h61 (h43 238 72) g61 F62 (by omega) (show (h61 238 98) + (h61 238 99) + (h61 238 100) + (h61 238 101) + (h61 238 102) + (h61 238 106) = (h61 238 73) by omega) (show (h61 238 73) ≤ (h61 238 2) by omega) (show (h61 238 119) ≤ (h61 238 67) by omega) (show (h61 238 69) ≤ (h61 238 5) by omega) (show (h61 238 2) ≤ 12 * (h61 238 5) by omega) (fun i _ => ((y61_0 i (by omega)).trans ((u43 240 i (fo_nk rfl)).trans ((u16 240 i (fo_nk rfl)).trans (y13_0 i (by omega))))))
    ·
      refine wr_iinc (i := 3) (n := 1) (v := x15) (fun e60 => [(3, vi e60), (0, .ref 236), (1, vi a0), (2, vi 72)]) (nx := 29) (r1 := 0) (r2 := 0) (r3 := 0) rfl rfl (fun _ => rfl) (fun e60 (fe60 : e60 = x15 + 1) => ?_)
      refine wi_goto (nx := 32) (r1 := 13) (r2 := 0) (r3 := 0) rfl ?_
      refine wp.lo (lo := [(0, .ref 236), (1, vi a0), (2, vi 72), (3, vi e60)]) ⟨rfl, rfl, rfl, rfl, trivial⟩ rfl ?_
      exact I16 e60 h43 ⟨g43, F45, F46, (show (0 ≤ e60 ∧ e60 ≤ 2147483647) ∧ ((h43 238 98) + (h43 238 99) + (h43 238 100) + (h43 238 101) + (h43 238 102) + (h43 238 106) = (h43 238 73)) ∧ ((h43 238 73) ≤ (h43 238 2)) ∧ ((h43 238 119) ≤ (h43 238 67)) ∧ ((h43 238 69) ≤ (h43 238 5)) ∧ ((h43 238 2) ≤ 12 * (h43 238 5)) by omega)⟩ (show ((2147483647 : Int) + 1 - e60).toNat < ((2147483647 : Int) + 1 - x15).toNat by omega)
-- method 293: Model.ruleCost(I)I
set_option maxRecDepth 100000 in
set_option maxHeartbeats 100000000 in
theorem ct_293_236 {L : Nat} {xs : Nat → Int32} {d b c : Nat} {h : hp} {cr : Nat → Nat → Option Nat} {Q : hp_Q} (hcr : CR cr)  (g : GI h) (a0 : Int) (q0_ : -2147483648 ≤ a0 ∧ a0 ≤ 2147483647) (pp0 : h 238 98 + h 238 99 + h 238 100 + h 238 101 + h 238 102 + h 238 106 = h 238 73) (pp1 : h 238 73 ≤ h 238 2) (pp2 : h 238 119 ≤ h 238 67) (pp3 : h 238 69 ≤ h 238 5) (pp4 : h 238 2 ≤ 12 * h 238 5) (k : ∀ (h2 : hp) (z0 : Int) , GI h2 → FR [(238, 238, none), (240, 240, none), (236, 236, some (0, 0)), (236, 236, some (28, 28))] h h2 → (-2147483648 ≤ z0 ∧ z0 ≤ 2147483647) → (h2 238 98 + h2 238 99 + h2 238 100 + h2 238 101 + h2 238 102 + h2 238 106 = h2 238 73) → (h2 238 73 ≤ h2 238 2) → (h2 238 119 ≤ h2 238 67) → (h2 238 69 ≤ h2 238 5) → (h2 238 2 ≤ 12 * h2 238 5) → (∀ i : Nat, i < 31 → h2 238 i = h 238 i) → Q (.inl (some (vi z0))) (hp_w h2 cr) b c) : wp (md_xa (L, xs)) (d + 6) 293 (0, [(0, .ref 236), (1, vi a0)], [], hp_w h cr, b, c) Q := by
  have F0 : FR [(238, 238, none), (240, 240, none), (236, 236, some (0, 0)), (236, 236, some (28, 28))] h h := FR.refl
  have b1 := gi_b (lo := 0) (hi := 6) g 238 98 rfl
  have b2 := gi_b (lo := 0) (hi := 6) g 238 99 rfl
  have b3 := gi_b (lo := 0) (hi := 6) g 238 100 rfl
  have b4 := gi_b (lo := 0) (hi := 6) g 238 101 rfl
  have b5 := gi_b (lo := 0) (hi := 3) g 238 102 rfl
  have b6 := gi_b (lo := 0) (hi := 12) g 238 106 rfl
  have b7 := gi_b (lo := 0) (hi := 12) g 238 73 rfl
  have b8 := gi_b (lo := 0) (hi := 12) g 238 2 rfl
  have b9 := gi_b (lo := 0) (hi := 9999) g 238 119 rfl
  have b10 := gi_b (lo := 0) (hi := 9999) g 238 67 rfl
  have b11 := gi_b (lo := 0) (hi := 9) g 238 69 rfl
  have b12 := gi_b (lo := 0) (hi := 9) g 238 5 rfl
  refine wi_aload_n (i := 0) (x := 236) (nx := 1) (r1 := 0) (r2 := 0) (r3 := 0) rfl rfl ?_
  refine wi_iload_n (i := 1) (e := a0) (nx := 2) (r1 := 0) (r2 := 0) (r3 := 0) rfl rfl ?_
  refine wi_i2l (nx := 3) (r1 := 0) (r2 := 0) (r3 := 0) rfl (by omega) ?_
  refine wi_lconst (n := 0) (e := 0) (nx := 4) (r1 := 0) (r2 := 0) (r3 := 0) rfl (by decide) ?_
  refine wi_ldc2_w (e := 300) (nx := 7) (r1 := 300) (r2 := 0) (r3 := 0) rfl (by decide) ?_
  refine wi_S (rest := [.ref 236]) (as := [vl a0, vl 0, vl 300]) (nx := 10) (r1 := 210) (r2 := 19) (r3 := 0) rfl rfl rfl (of_decide_eq_true rfl) rfl rfl (of_decide_eq_true rfl) (of_decide_eq_true rfl) ?_
  refine wi_lload_n (i := 0) (e := a0) (nx := 1) (r1 := 0) (r2 := 0) (r3 := 0) rfl rfl ?_
  refine wi_lload_n (i := 2) (e := 0) (nx := 2) (r1 := 0) (r2 := 0) (r3 := 0) rfl rfl ?_
  refine wi_lcmp (a := a0) (e := 0) (nx := 3) (r1 := 0) (r2 := 0) (r3 := 0) rfl (by omega) (by omega) (fun r13 (fr13 : (r13 = -1 ∧ a0 < 0) ∨ (r13 = 0 ∧ a0 = 0) ∨ (r13 = 1 ∧ 0 < a0)) => ?_)
  refine wi_if (cd := .lt) (nx := 6) (r1 := 17) (r2 := 0) (r3 := 0) rfl (by omega) (fun (q14 : r13 < 0) => ?_) (fun (q14 : ¬ (r13 < 0)) => ?_)
  ·
    refine wi_iconst (n := 0) (nx := 18) (r1 := 0) (r2 := 0) (r3 := 0) rfl ?_
    refine wi_zreturn (nx := 19) (r1 := 0) (r2 := 0) (r3 := 0) rfl rfl (by omega) ?_
    refine wk_i ?_
    refine wr_V (k0 := 236) (rest := []) (as := [.ref 236, vi 0]) (nx := 13) (r1 := 206) (r2 := 1) (r3 := 11) rfl rfl rfl (of_decide_eq_true rfl) rfl rfl (by decide) rfl rfl (of_decide_eq_true rfl) (of_decide_eq_true rfl) ?_
    refine wi_aload_n (i := 0) (x := 236) (nx := 1) (r1 := 0) (r2 := 0) (r3 := 0) rfl rfl ?_
    refine wi_iload_n (i := 1) (e := 0) (nx := 2) (r1 := 0) (r2 := 0) (r3 := 0) rfl rfl ?_
    refine wi_if (cd := .ne) (nx := 5) (r1 := 9) (r2 := 0) (r3 := 0) rfl (by omega) (fun (q15 : 0 ≠ 0) => by exfalso; omega) (fun (q15 : ¬ (0 ≠ 0)) => ?_)
    refine wi_iconst (n := 1) (nx := 6) (r1 := 0) (r2 := 0) (r3 := 0) rfl ?_
    refine wi_goto (nx := 9) (r1 := 10) (r2 := 0) (r3 := 0) rfl ?_
    refine wi_S (rest := [.ref 236]) (as := [vi 1]) (nx := 13) (r1 := 207) (r2 := 17) (r3 := 0) rfl rfl rfl (of_decide_eq_true rfl) rfl rfl (of_decide_eq_true rfl) (of_decide_eq_true rfl) ?_
    refine wi_iload_n (i := 0) (e := 1) (nx := 1) (r1 := 0) (r2 := 0) (r3 := 0) rfl rfl ?_
    refine wi_if (cd := .eq) (nx := 4) (r1 := 8) (r2 := 0) (r3 := 0) rfl (by omega) (fun (q16 : 1 = 0) => by exfalso; omega) (fun (q16 : ¬ (1 = 0)) => ?_)
    refine wi_iconst (n := 1) (nx := 5) (r1 := 0) (r2 := 0) (r3 := 0) rfl ?_
    refine wi_goto (nx := 8) (r1 := 9) (r2 := 0) (r3 := 0) rfl ?_
    refine wi_ireturn (nx := 10) (r1 := 0) (r2 := 0) (r3 := 0) rfl rfl ?_
    refine wk_i ?_
    refine wr_pf0 (k0 := 236) (x := 1) (bl := 0) (bh := 2) (nx := 16) (r1 := 11) (r2 := 0) (r3 := 0) rfl (by decide) rfl ⟨rfl, rfl⟩ rfl rfl g rfl (by omega) (fun h17 g17 w17 u17 => ?_)
    have F18 := F0.then rfl u17
    refine wi_iload_n (i := 1) (e := 0) (nx := 17) (r1 := 0) (r2 := 0) (r3 := 0) rfl rfl ?_
    refine wi_zreturn (nx := 18) (r1 := 0) (r2 := 0) (r3 := 0) rfl rfl (by omega) ?_
    refine wk_i ?_
    refine wi_if (cd := .eq) (nx := 16) (r1 := 26) (r2 := 0) (r3 := 0) rfl (by omega) (fun (q19 : 0 = 0) => ?_) (fun (q19 : ¬ (0 = 0)) => by exfalso; omega)
    refine wi_iconst (n := 0) (nx := 27) (r1 := 0) (r2 := 0) (r3 := 0) rfl ?_
    refine wi_ireturn (nx := 28) (r1 := 0) (r2 := 0) (r3 := 0) rfl rfl ?_
    have e20 : h17 238 98 = h 238 98 := (u17 238 98 rfl)
    have e21 : h17 238 99 = h 238 99 := (u17 238 99 rfl)
    have e22 : h17 238 100 = h 238 100 := (u17 238 100 rfl)
    have e23 : h17 238 101 = h 238 101 := (u17 238 101 rfl)
    have e24 : h17 238 102 = h 238 102 := (u17 238 102 rfl)
    have e25 : h17 238 106 = h 238 106 := (u17 238 106 rfl)
    have e26 : h17 238 73 = h 238 73 := (u17 238 73 rfl)
    have e27 : h17 238 2 = h 238 2 := (u17 238 2 rfl)
    have e28 : h17 238 119 = h 238 119 := (u17 238 119 rfl)
    have e29 : h17 238 67 = h 238 67 := (u17 238 67 rfl)
    have e30 : h17 238 69 = h 238 69 := (u17 238 69 rfl)
    have e31 : h17 238 5 = h 238 5 := (u17 238 5 rfl)
    exact k h17 0 g17 F18 (by omega) (show (h17 238 98) + (h17 238 99) + (h17 238 100) + (h17 238 101) + (h17 238 102) + (h17 238 106) = (h17 238 73) by omega) (show (h17 238 73) ≤ (h17 238 2) by omega) (show (h17 238 119) ≤ (h17 238 67) by omega) (show (h17 238 69) ≤ (h17 238 5) by omega) (show (h17 238 2) ≤ 12 * (h17 238 5) by omega) (fun i _ => (u17 238 i (fn_a (by omega) fn_0)))
  ·
    refine wi_lload_n (i := 0) (e := a0) (nx := 7) (r1 := 0) (r2 := 0) (r3 := 0) rfl rfl ?_
    refine wi_lload (i := 4) (e := 300) (nx := 9) (r1 := 0) (r2 := 0) (r3 := 0) rfl rfl ?_
    refine wi_lcmp (a := a0) (e := 300) (nx := 10) (r1 := 0) (r2 := 0) (r3 := 0) rfl (by omega) (by omega) (fun r15 (fr15 : (r15 = -1 ∧ a0 < 300) ∨ (r15 = 0 ∧ a0 = 300) ∨ (r15 = 1 ∧ 300 < a0)) => ?_)
    refine wi_if (cd := .gt) (nx := 13) (r1 := 17) (r2 := 0) (r3 := 0) rfl (by omega) (fun (q16 : 0 < r15) => ?_) (fun (q16 : ¬ (0 < r15)) => ?_)
    ·
      refine wi_iconst (n := 0) (nx := 18) (r1 := 0) (r2 := 0) (r3 := 0) rfl ?_
      refine wi_zreturn (nx := 19) (r1 := 0) (r2 := 0) (r3 := 0) rfl rfl (by omega) ?_
      refine wk_i ?_
      refine wr_V (k0 := 236) (rest := []) (as := [.ref 236, vi 0]) (nx := 13) (r1 := 206) (r2 := 1) (r3 := 11) rfl rfl rfl (of_decide_eq_true rfl) rfl rfl (by decide) rfl rfl (of_decide_eq_true rfl) (of_decide_eq_true rfl) ?_
      refine wi_aload_n (i := 0) (x := 236) (nx := 1) (r1 := 0) (r2 := 0) (r3 := 0) rfl rfl ?_
      refine wi_iload_n (i := 1) (e := 0) (nx := 2) (r1 := 0) (r2 := 0) (r3 := 0) rfl rfl ?_
      refine wi_if (cd := .ne) (nx := 5) (r1 := 9) (r2 := 0) (r3 := 0) rfl (by omega) (fun (q17 : 0 ≠ 0) => by exfalso; omega) (fun (q17 : ¬ (0 ≠ 0)) => ?_)
      refine wi_iconst (n := 1) (nx := 6) (r1 := 0) (r2 := 0) (r3 := 0) rfl ?_
      refine wi_goto (nx := 9) (r1 := 10) (r2 := 0) (r3 := 0) rfl ?_
      refine wi_S (rest := [.ref 236]) (as := [vi 1]) (nx := 13) (r1 := 207) (r2 := 17) (r3 := 0) rfl rfl rfl (of_decide_eq_true rfl) rfl rfl (of_decide_eq_true rfl) (of_decide_eq_true rfl) ?_
      refine wi_iload_n (i := 0) (e := 1) (nx := 1) (r1 := 0) (r2 := 0) (r3 := 0) rfl rfl ?_
      refine wi_if (cd := .eq) (nx := 4) (r1 := 8) (r2 := 0) (r3 := 0) rfl (by omega) (fun (q18 : 1 = 0) => by exfalso; omega) (fun (q18 : ¬ (1 = 0)) => ?_)
      refine wi_iconst (n := 1) (nx := 5) (r1 := 0) (r2 := 0) (r3 := 0) rfl ?_
      refine wi_goto (nx := 8) (r1 := 9) (r2 := 0) (r3 := 0) rfl ?_
      refine wi_ireturn (nx := 10) (r1 := 0) (r2 := 0) (r3 := 0) rfl rfl ?_
      refine wk_i ?_
      refine wr_pf0 (k0 := 236) (x := 1) (bl := 0) (bh := 2) (nx := 16) (r1 := 11) (r2 := 0) (r3 := 0) rfl (by decide) rfl ⟨rfl, rfl⟩ rfl rfl g rfl (by omega) (fun h19 g19 w19 u19 => ?_)
      have F20 := F0.then rfl u19
      refine wi_iload_n (i := 1) (e := 0) (nx := 17) (r1 := 0) (r2 := 0) (r3 := 0) rfl rfl ?_
      refine wi_zreturn (nx := 18) (r1 := 0) (r2 := 0) (r3 := 0) rfl rfl (by omega) ?_
      refine wk_i ?_
      refine wi_if (cd := .eq) (nx := 16) (r1 := 26) (r2 := 0) (r3 := 0) rfl (by omega) (fun (q21 : 0 = 0) => ?_) (fun (q21 : ¬ (0 = 0)) => by exfalso; omega)
      refine wi_iconst (n := 0) (nx := 27) (r1 := 0) (r2 := 0) (r3 := 0) rfl ?_
      refine wi_ireturn (nx := 28) (r1 := 0) (r2 := 0) (r3 := 0) rfl rfl ?_
      have e22 : h19 238 98 = h 238 98 := (u19 238 98 rfl)
      have e23 : h19 238 99 = h 238 99 := (u19 238 99 rfl)
      have e24 : h19 238 100 = h 238 100 := (u19 238 100 rfl)
      have e25 : h19 238 101 = h 238 101 := (u19 238 101 rfl)
      have e26 : h19 238 102 = h 238 102 := (u19 238 102 rfl)
      have e27 : h19 238 106 = h 238 106 := (u19 238 106 rfl)
      have e28 : h19 238 73 = h 238 73 := (u19 238 73 rfl)
      have e29 : h19 238 2 = h 238 2 := (u19 238 2 rfl)
      have e30 : h19 238 119 = h 238 119 := (u19 238 119 rfl)
      have e31 : h19 238 67 = h 238 67 := (u19 238 67 rfl)
      have e32 : h19 238 69 = h 238 69 := (u19 238 69 rfl)
      have e33 : h19 238 5 = h 238 5 := (u19 238 5 rfl)
      exact k h19 0 g19 F20 (by omega) (show (h19 238 98) + (h19 238 99) + (h19 238 100) + (h19 238 101) + (h19 238 102) + (h19 238 106) = (h19 238 73) by omega) (show (h19 238 73) ≤ (h19 238 2) by omega) (show (h19 238 119) ≤ (h19 238 67) by omega) (show (h19 238 69) ≤ (h19 238 5) by omega) (show (h19 238 2) ≤ 12 * (h19 238 5) by omega) (fun i _ => (u19 238 i (fn_a (by omega) fn_0)))
    ·
      refine wi_iconst (n := 1) (nx := 14) (r1 := 0) (r2 := 0) (r3 := 0) rfl ?_
      refine wi_goto (nx := 17) (r1 := 18) (r2 := 0) (r3 := 0) rfl ?_
      refine wi_zreturn (nx := 19) (r1 := 0) (r2 := 0) (r3 := 0) rfl rfl (by omega) ?_
      refine wk_i ?_
      refine wr_V (k0 := 236) (rest := []) (as := [.ref 236, vi 1]) (nx := 13) (r1 := 206) (r2 := 1) (r3 := 11) rfl rfl rfl (of_decide_eq_true rfl) rfl rfl (by decide) rfl rfl (of_decide_eq_true rfl) (of_decide_eq_true rfl) ?_
      refine wi_aload_n (i := 0) (x := 236) (nx := 1) (r1 := 0) (r2 := 0) (r3 := 0) rfl rfl ?_
      refine wi_iload_n (i := 1) (e := 1) (nx := 2) (r1 := 0) (r2 := 0) (r3 := 0) rfl rfl ?_
      refine wi_if (cd := .ne) (nx := 5) (r1 := 9) (r2 := 0) (r3 := 0) rfl (by omega) (fun (q17 : 1 ≠ 0) => ?_) (fun (q17 : ¬ (1 ≠ 0)) => by exfalso; omega)
      refine wi_iconst (n := 0) (nx := 10) (r1 := 0) (r2 := 0) (r3 := 0) rfl ?_
      refine wi_S (rest := [.ref 236]) (as := [vi 0]) (nx := 13) (r1 := 207) (r2 := 17) (r3 := 0) rfl rfl rfl (of_decide_eq_true rfl) rfl rfl (of_decide_eq_true rfl) (of_decide_eq_true rfl) ?_
      refine wi_iload_n (i := 0) (e := 0) (nx := 1) (r1 := 0) (r2 := 0) (r3 := 0) rfl rfl ?_
      refine wi_if (cd := .eq) (nx := 4) (r1 := 8) (r2 := 0) (r3 := 0) rfl (by omega) (fun (q18 : 0 = 0) => ?_) (fun (q18 : ¬ (0 = 0)) => by exfalso; omega)
      refine wi_iconst (n := 0) (nx := 9) (r1 := 0) (r2 := 0) (r3 := 0) rfl ?_
      refine wi_ireturn (nx := 10) (r1 := 0) (r2 := 0) (r3 := 0) rfl rfl ?_
      refine wk_i ?_
      refine wr_pf0 (k0 := 236) (x := 0) (bl := 0) (bh := 2) (nx := 16) (r1 := 11) (r2 := 0) (r3 := 0) rfl (by decide) rfl ⟨rfl, rfl⟩ rfl rfl g rfl (by omega) (fun h19 g19 w19 u19 => ?_)
      have F20 := F0.then rfl u19
      refine wi_iload_n (i := 1) (e := 1) (nx := 17) (r1 := 0) (r2 := 0) (r3 := 0) rfl rfl ?_
      refine wi_zreturn (nx := 18) (r1 := 0) (r2 := 0) (r3 := 0) rfl rfl (by omega) ?_
      refine wk_i ?_
      refine wi_if (cd := .eq) (nx := 16) (r1 := 26) (r2 := 0) (r3 := 0) rfl (by omega) (fun (q21 : 1 = 0) => by exfalso; omega) (fun (q21 : ¬ (1 = 0)) => ?_)
      refine wi_aload_n (i := 0) (x := 236) (nx := 17) (r1 := 0) (r2 := 0) (r3 := 0) rfl rfl ?_
      refine wi_iload_n (i := 1) (e := a0) (nx := 18) (r1 := 0) (r2 := 0) (r3 := 0) rfl rfl ?_
      refine wi_bipush (n := 72) (nx := 20) (r1 := 0) (r2 := 0) (r3 := 0) rfl (by decide) ?_
      refine wr_V (k0 := 236) (rest := []) (as := [.ref 236, vi a0, vi 72]) (nx := 23) (r1 := 294) (r2 := 2) (r3 := 11) rfl rfl rfl (of_decide_eq_true rfl) rfl rfl (by decide) rfl rfl (of_decide_eq_true rfl) (of_decide_eq_true rfl) ?_
      have e23 : h19 238 98 = h 238 98 := (u19 238 98 rfl)
      have e24 : h19 238 99 = h 238 99 := (u19 238 99 rfl)
      have e25 : h19 238 100 = h 238 100 := (u19 238 100 rfl)
      have e26 : h19 238 101 = h 238 101 := (u19 238 101 rfl)
      have e27 : h19 238 102 = h 238 102 := (u19 238 102 rfl)
      have e28 : h19 238 106 = h 238 106 := (u19 238 106 rfl)
      have e29 : h19 238 73 = h 238 73 := (u19 238 73 rfl)
      have e30 : h19 238 2 = h 238 2 := (u19 238 2 rfl)
      have e31 : h19 238 119 = h 238 119 := (u19 238 119 rfl)
      have e32 : h19 238 67 = h 238 67 := (u19 238 67 rfl)
      have e33 : h19 238 69 = h 238 69 := (u19 238 69 rfl)
      have e34 : h19 238 5 = h 238 5 := (u19 238 5 rfl)
      refine ct_294_236_L72 hcr  g19 a0 (by omega) (show (h19 238 98) + (h19 238 99) + (h19 238 100) + (h19 238 101) + (h19 238 102) + (h19 238 106) = (h19 238 73) by omega) (show (h19 238 73) ≤ (h19 238 2) by omega) (show (h19 238 119) ≤ (h19 238 67) by omega) (show (h19 238 69) ≤ (h19 238 5) by omega) (show (h19 238 2) ≤ 12 * (h19 238 5) by omega) (fun h22 z35 g22 u22 (fz35 : -2147483648 ≤ z35 ∧ z35 ≤ 2147483647) (p22_0 : (h22 238 98) + (h22 238 99) + (h22 238 100) + (h22 238 101) + (h22 238 102) + (h22 238 106) = (h22 238 73)) (p22_1 : (h22 238 73) ≤ (h22 238 2)) (p22_2 : (h22 238 119) ≤ (h22 238 67)) (p22_3 : (h22 238 69) ≤ (h22 238 5)) (p22_4 : (h22 238 2) ≤ 12 * (h22 238 5)) y22_0 => ?_)
      have F36 := F20.then (by decide +kernel) u22
      have b37 := gi_b (lo := 0) (hi := 6) g22 238 98 rfl
      have b38 := gi_b (lo := 0) (hi := 6) g22 238 99 rfl
      have b39 := gi_b (lo := 0) (hi := 6) g22 238 100 rfl
      have b40 := gi_b (lo := 0) (hi := 6) g22 238 101 rfl
      have b41 := gi_b (lo := 0) (hi := 3) g22 238 102 rfl
      have b42 := gi_b (lo := 0) (hi := 12) g22 238 106 rfl
      have b43 := gi_b (lo := 0) (hi := 12) g22 238 73 rfl
      have e44 : h22 238 2 = h 238 2 := ((y22_0 2 (by decide)).trans (u19 238 2 rfl))
      have b45 := gi_b (lo := 0) (hi := 9999) g22 238 119 rfl
      have b46 := gi_b (lo := 0) (hi := 9999) g22 238 67 rfl
      have b47 := gi_b (lo := 0) (hi := 9) g22 238 69 rfl
      have e48 : h22 238 5 = h 238 5 := ((y22_0 5 (by decide)).trans (u19 238 5 rfl))
      refine wk_i ?_
      refine wi_goto (nx := 26) (r1 := 27) (r2 := 0) (r3 := 0) rfl ?_
      refine wi_ireturn (nx := 28) (r1 := 0) (r2 := 0) (r3 := 0) rfl rfl ?_
      exact k h22 z35 g22 F36 (by omega) (show (h22 238 98) + (h22 238 99) + (h22 238 100) + (h22 238 101) + (h22 238 102) + (h22 238 106) = (h22 238 73) by omega) (show (h22 238 73) ≤ (h22 238 2) by omega) (show (h22 238 119) ≤ (h22 238 67) by omega) (show (h22 238 69) ≤ (h22 238 5) by omega) (show (h22 238 2) ≤ 12 * (h22 238 5) by omega) (fun i _ => ((y22_0 i (by omega)).trans (u19 238 i (fn_a (by omega) fn_0))))
-- method 294: Model.foretold(II)I
set_option maxRecDepth 100000 in
set_option maxHeartbeats 100000000 in
theorem ct_294_236_L106 {L : Nat} {xs : Nat → Int32} {d b c : Nat} {h : hp} {cr : Nat → Nat → Option Nat} {Q : hp_Q} (hcr : CR cr)  (g : GI h) (a0 : Int) (q0_ : -2147483648 ≤ a0 ∧ a0 ≤ 2147483647) (pp0 : h 238 98 + h 238 99 + h 238 100 + h 238 101 + h 238 102 + h 238 106 = h 238 73) (pp1 : h 238 73 ≤ h 238 2) (pp2 : h 238 119 ≤ h 238 67) (pp3 : h 238 69 ≤ h 238 5) (pp4 : h 238 2 ≤ 12 * h 238 5) (k : ∀ (h2 : hp) (z0 : Int) , GI h2 → FR [(238, 238, none), (240, 240, none), (236, 236, some (28, 28))] h h2 → (0 ≤ z0 ∧ z0 ≤ 12) → (h2 238 98 + h2 238 99 + h2 238 100 + h2 238 101 + h2 238 102 + h2 238 106 = h2 238 73) → (h2 238 73 ≤ h2 238 2) → (h2 238 119 ≤ h2 238 67) → (h2 238 69 ≤ h2 238 5) → (h2 238 2 ≤ 12 * h2 238 5) → (∀ i : Nat, i < 31 → h2 238 i = h 238 i) → Q (.inl (some (vi z0))) (hp_w h2 cr) b c) : wp (md_xa (L, xs)) (d + 5) 294 (0, [(0, .ref 236), (1, vi a0), (2, vi 106)], [], hp_w h cr, b, c) Q := by
  have F0 : FR [(238, 238, none), (240, 240, none), (236, 236, some (28, 28))] h h := FR.refl
  have b1 := gi_b (lo := 0) (hi := 6) g 238 98 rfl
  have b2 := gi_b (lo := 0) (hi := 6) g 238 99 rfl
  have b3 := gi_b (lo := 0) (hi := 6) g 238 100 rfl
  have b4 := gi_b (lo := 0) (hi := 6) g 238 101 rfl
  have b5 := gi_b (lo := 0) (hi := 3) g 238 102 rfl
  have b6 := gi_b (lo := 0) (hi := 12) g 238 106 rfl
  have b7 := gi_b (lo := 0) (hi := 12) g 238 73 rfl
  have b8 := gi_b (lo := 0) (hi := 12) g 238 2 rfl
  have b9 := gi_b (lo := 0) (hi := 9999) g 238 119 rfl
  have b10 := gi_b (lo := 0) (hi := 9999) g 238 67 rfl
  have b11 := gi_b (lo := 0) (hi := 9) g 238 69 rfl
  have b12 := gi_b (lo := 0) (hi := 9) g 238 5 rfl
  refine wi_aload_n (i := 0) (x := 236) (nx := 1) (r1 := 0) (r2 := 0) (r3 := 0) rfl rfl ?_
  refine wr_gr (k0 := 236) (x := 238) (nx := 4) (r1 := 11) (r2 := 13) (r3 := 0) rfl rfl (by decide) rfl ⟨rfl, rfl⟩ rfl ?_
  refine wi_aload_n (i := 0) (x := 236) (nx := 5) (r1 := 0) (r2 := 0) (r3 := 0) rfl rfl ?_
  refine wr_gr (k0 := 236) (x := 240) (nx := 8) (r1 := 11) (r2 := 15) (r3 := 0) rfl rfl (by decide) rfl ⟨rfl, rfl⟩ rfl ?_
  refine wi_S (rest := []) (as := [.ref 238, .ref 240]) (nx := 11) (r1 := 238) (r2 := 18) (r3 := 0) rfl rfl rfl (of_decide_eq_true rfl) rfl rfl (of_decide_eq_true rfl) (of_decide_eq_true rfl) ?_
  refine ct_238_238_240 hcr  g    (fun h13 g13 u13 y13_0 => ?_)
  have F14 := F0.then (by decide +kernel) u13
  refine wk_n ?_
  refine wi_iconst (n := 0) (nx := 12) (r1 := 0) (r2 := 0) (r3 := 0) rfl ?_
  refine wi_istore_n (i := 3) (e := 0) (lo2 := [(3, vi 0), (0, .ref 236), (1, vi a0), (2, vi 106)]) (nx := 13) (r1 := 0) (r2 := 0) (r3 := 0) rfl rfl ?_
  have e17 : h13 238 98 = h 238 98 := (u13 238 98 rfl)
  have e18 : h13 238 99 = h 238 99 := (u13 238 99 rfl)
  have e19 : h13 238 100 = h 238 100 := (u13 238 100 rfl)
  have e20 : h13 238 101 = h 238 101 := (u13 238 101 rfl)
  have e21 : h13 238 102 = h 238 102 := (u13 238 102 rfl)
  have e22 : h13 238 106 = h 238 106 := (u13 238 106 rfl)
  have e23 : h13 238 73 = h 238 73 := (u13 238 73 rfl)
  have e24 : h13 238 2 = h 238 2 := (u13 238 2 rfl)
  have e25 : h13 238 119 = h 238 119 := (u13 238 119 rfl)
  have e26 : h13 238 67 = h 238 67 := (u13 238 67 rfl)
  have e27 : h13 238 69 = h 238 69 := (u13 238 69 rfl)
  have e28 : h13 238 5 = h 238 5 := (u13 238 5 rfl)
  refine wp.lo (lo := [(0, .ref 236), (1, vi a0), (2, vi 106), (3, vi 0)]) ⟨rfl, rfl, rfl, rfl, trivial⟩ rfl ?_
  refine wl_1 (fun x15 h16 => GI h16 ∧ FR [(238, 238, none), (240, 240, none), (236, 236, some (28, 28))] h h16 ∧ FR [(236, 236, some (28, 28)), (238, 238, some (43, 54)), (238, 238, some (55, 66)), (238, 238, some (67, 67)), (238, 238, some (68, 68)), (238, 238, some (69, 69)), (238, 238, some (70, 70)), (238, 238, some (71, 71)), (238, 238, some (72, 72)), (238, 238, some (73, 73)), (238, 238, some (74, 79)), (238, 238, some (80, 85)), (238, 238, some (86, 91)), (238, 238, some (92, 97)), (238, 238, some (98, 98)), (238, 238, some (99, 99)), (238, 238, some (100, 100)), (238, 238, some (101, 101)), (238, 238, some (102, 102)), (238, 238, some (103, 105)), (238, 238, some (106, 106)), (238, 238, some (107, 118)), (238, 238, some (119, 119)), (238, 238, some (120, 196)), (238, 238, some (121, 197)), (238, 238, some (122, 198)), (238, 238, some (123, 199))] h13 h16 ∧ ((0 ≤ x15 ∧ x15 ≤ 2147483647) ∧ ((h16 238 98) + (h16 238 99) + (h16 238 100) + (h16 238 101) + (h16 238 102) + (h16 238 106) = (h16 238 73)) ∧ ((h16 238 73) ≤ (h16 238 2)) ∧ ((h16 238 119) ≤ (h16 238 67)) ∧ ((h16 238 69) ≤ (h16 238 5)) ∧ ((h16 238 2) ≤ 12 * (h16 238 5)))) (fun x15 h16 => ((2147483647 : Int) + 1 - x15).toNat) (fun x15 h16 => (13, [(0, .ref 236), (1, vi a0), (2, vi 106), (3, vi x15)], [], hp_w h16 cr, b, c)) ?_ 0 h13 ⟨g13, F14, FR.refl, (show (0 ≤ 0 ∧ 0 ≤ 2147483647) ∧ ((h13 238 98) + (h13 238 99) + (h13 238 100) + (h13 238 101) + (h13 238 102) + (h13 238 106) = (h13 238 73)) ∧ ((h13 238 73) ≤ (h13 238 2)) ∧ ((h13 238 119) ≤ (h13 238 67)) ∧ ((h13 238 69) ≤ (h13 238 5)) ∧ ((h13 238 2) ≤ 12 * (h13 238 5)) by omega)⟩
  intro x15 h16 ⟨g16, F29, u16, f16⟩ I16
  have b30 := gi_b (lo := 0) (hi := 6) g16 238 98 rfl
  have b31 := gi_b (lo := 0) (hi := 6) g16 238 99 rfl
  have b32 := gi_b (lo := 0) (hi := 6) g16 238 100 rfl
  have b33 := gi_b (lo := 0) (hi := 6) g16 238 101 rfl
  have b34 := gi_b (lo := 0) (hi := 3) g16 238 102 rfl
  have b35 := gi_b (lo := 0) (hi := 12) g16 238 106 rfl
  have b36 := gi_b (lo := 0) (hi := 12) g16 238 73 rfl
  have e37 : h16 238 2 = h 238 2 := ((u16 238 2 rfl).trans (u13 238 2 rfl))
  have b38 := gi_b (lo := 0) (hi := 9999) g16 238 119 rfl
  have b39 := gi_b (lo := 0) (hi := 9999) g16 238 67 rfl
  have b40 := gi_b (lo := 0) (hi := 9) g16 238 69 rfl
  have e41 : h16 238 5 = h 238 5 := ((u16 238 5 rfl).trans (u13 238 5 rfl))
  refine wi_iload_n (i := 3) (e := x15) (nx := 14) (r1 := 0) (r2 := 0) (r3 := 0) rfl rfl ?_
  refine wi_iload_n (i := 1) (e := a0) (nx := 15) (r1 := 0) (r2 := 0) (r3 := 0) rfl rfl ?_
  refine wi_icmp (cd := .ge) (nx := 18) (r1 := 32) (r2 := 0) (r3 := 0) rfl (by omega) (by omega) (fun (q42 : a0 ≤ x15) => ?_) (fun (q42 : ¬ (a0 ≤ x15)) => ?_)
  ·
    refine wi_aload_n (i := 0) (x := 236) (nx := 33) (r1 := 0) (r2 := 0) (r3 := 0) rfl rfl ?_
    refine wr_gr (k0 := 236) (x := 238) (nx := 36) (r1 := 11) (r2 := 13) (r3 := 0) rfl rfl (by decide) rfl ⟨rfl, rfl⟩ rfl ?_
    refine wi_iload_n (i := 2) (e := 106) (nx := 37) (r1 := 0) (r2 := 0) (r3 := 0) rfl rfl ?_
    refine wr_ia (k0 := 238) (a := 106) (f := 106) (x := h16 238 106) (nx := 38) (r1 := 0) (r2 := 0) (r3 := 0) rfl (by decide) rfl (by omega) (by omega) (by decide) rfl ?_
    refine wi_istore (i := 4) (e := h16 238 106) (lo2 := [(4, vi (h16 238 106)), (0, .ref 236), (1, vi a0), (2, vi 106), (3, vi x15)]) (nx := 40) (r1 := 0) (r2 := 0) (r3 := 0) rfl rfl ?_
    refine wi_aload_n (i := 0) (x := 236) (nx := 41) (r1 := 0) (r2 := 0) (r3 := 0) rfl rfl ?_
    refine wr_gr (k0 := 236) (x := 240) (nx := 44) (r1 := 11) (r2 := 15) (r3 := 0) rfl rfl (by decide) rfl ⟨rfl, rfl⟩ rfl ?_
    refine wi_aload_n (i := 0) (x := 236) (nx := 45) (r1 := 0) (r2 := 0) (r3 := 0) rfl rfl ?_
    refine wr_gr (k0 := 236) (x := 238) (nx := 48) (r1 := 11) (r2 := 13) (r3 := 0) rfl rfl (by decide) rfl ⟨rfl, rfl⟩ rfl ?_
    refine wi_S (rest := []) (as := [.ref 240, .ref 238]) (nx := 51) (r1 := 238) (r2 := 18) (r3 := 0) rfl rfl rfl (of_decide_eq_true rfl) rfl rfl (of_decide_eq_true rfl) (of_decide_eq_true rfl) ?_
    refine ct_238_240_238 hcr  g16    (fun h43 g43 u43 y43_0 => ?_)
    have F44 := F29.then (by decide +kernel) u43
    refine wk_n ?_
    refine wi_iload (i := 4) (e := h16 238 106) (nx := 53) (r1 := 0) (r2 := 0) (r3 := 0) rfl rfl ?_
    refine wi_ireturn (nx := 54) (r1 := 0) (r2 := 0) (r3 := 0) rfl rfl ?_
    have e45 : h43 238 98 = h 238 98 := ((y43_0 98 (by decide)).trans ((u16 240 98 rfl).trans (y13_0 98 (by decide))))
    have e46 : h43 238 99 = h 238 99 := ((y43_0 99 (by decide)).trans ((u16 240 99 rfl).trans (y13_0 99 (by decide))))
    have e47 : h43 238 100 = h 238 100 := ((y43_0 100 (by decide)).trans ((u16 240 100 rfl).trans (y13_0 100 (by decide))))
    have e48 : h43 238 101 = h 238 101 := ((y43_0 101 (by decide)).trans ((u16 240 101 rfl).trans (y13_0 101 (by decide))))
    have e49 : h43 238 102 = h 238 102 := ((y43_0 102 (by decide)).trans ((u16 240 102 rfl).trans (y13_0 102 (by decide))))
    have e50 : h43 238 106 = h 238 106 := ((y43_0 106 (by decide)).trans ((u16 240 106 rfl).trans (y13_0 106 (by decide))))
    have e51 : h43 238 73 = h 238 73 := ((y43_0 73 (by decide)).trans ((u16 240 73 rfl).trans (y13_0 73 (by decide))))
    have e52 : h43 238 2 = h 238 2 := ((y43_0 2 (by decide)).trans ((u16 240 2 rfl).trans (y13_0 2 (by decide))))
    have e53 : h43 238 119 = h 238 119 := ((y43_0 119 (by decide)).trans ((u16 240 119 rfl).trans (y13_0 119 (by decide))))
    have e54 : h43 238 67 = h 238 67 := ((y43_0 67 (by decide)).trans ((u16 240 67 rfl).trans (y13_0 67 (by decide))))
    have e55 : h43 238 69 = h 238 69 := ((y43_0 69 (by decide)).trans ((u16 240 69 rfl).trans (y13_0 69 (by decide))))
    have e56 : h43 238 5 = h 238 5 := ((y43_0 5 (by decide)).trans ((u16 240 5 rfl).trans (y13_0 5 (by decide))))
    exact k h43 (h16 238 106) g43 F44 (by omega) (show (h43 238 98) + (h43 238 99) + (h43 238 100) + (h43 238 101) + (h43 238 102) + (h43 238 106) = (h43 238 73) by omega) (show (h43 238 73) ≤ (h43 238 2) by omega) (show (h43 238 119) ≤ (h43 238 67) by omega) (show (h43 238 69) ≤ (h43 238 5) by omega) (show (h43 238 2) ≤ 12 * (h43 238 5) by omega) (fun i _ => ((y43_0 i (by omega)).trans ((u16 240 i (fo_nk rfl)).trans (y13_0 i (by omega)))))
  ·
    refine wi_aload_n (i := 0) (x := 236) (nx := 19) (r1 := 0) (r2 := 0) (r3 := 0) rfl rfl ?_
    refine wr_V (k0 := 236) (rest := []) (as := [.ref 236]) (nx := 22) (r1 := 292) (r2 := 0) (r3 := 11) rfl rfl rfl (of_decide_eq_true rfl) rfl rfl (by decide) rfl rfl (of_decide_eq_true rfl) (of_decide_eq_true rfl) ?_
    refine ct_292_236 hcr  g16   (show (h16 238 98) + (h16 238 99) + (h16 238 100) + (h16 238 101) + (h16 238 102) + (h16 238 106) = (h16 238 73) by omega) (show (h16 238 73) ≤ (h16 238 2) by omega) (show (h16 238 119) ≤ (h16 238 67) by omega) (show (h16 238 69) ≤ (h16 238 5) by omega) (show (h16 238 2) ≤ 12 * (h16 238 5) by omega) (fun h43 z44 g43 u43 (fz44 : -1 ≤ z44 ∧ z44 ≤ 3) (p43_0 : (h43 238 98) + (h43 238 99) + (h43 238 100) + (h43 238 101) + (h43 238 102) + (h43 238 106) = (h43 238 73)) (p43_1 : (h43 238 73) ≤ (h43 238 2)) (p43_2 : (h43 238 119) ≤ (h43 238 67)) (p43_3 : (h43 238 69) ≤ (h43 238 5)) (p43_4 : (h43 238 2) ≤ 12 * (h43 238 5)) => ?_)
    have F45 := F29.then (by decide +kernel) u43
    have F46 := u16.then (by decide +kernel) u43
    have b47 := gi_b (lo := 0) (hi := 6) g43 238 98 rfl
    have b48 := gi_b (lo := 0) (hi := 6) g43 238 99 rfl
    have b49 := gi_b (lo := 0) (hi := 6) g43 238 100 rfl
    have b50 := gi_b (lo := 0) (hi := 6) g43 238 101 rfl
    have b51 := gi_b (lo := 0) (hi := 3) g43 238 102 rfl
    have b52 := gi_b (lo := 0) (hi := 12) g43 238 106 rfl
    have b53 := gi_b (lo := 0) (hi := 12) g43 238 73 rfl
    have e54 : h43 238 2 = h 238 2 := ((u43 238 2 rfl).trans ((u16 238 2 rfl).trans (u13 238 2 rfl)))
    have b55 := gi_b (lo := 0) (hi := 9999) g43 238 119 rfl
    have b56 := gi_b (lo := 0) (hi := 9999) g43 238 67 rfl
    have b57 := gi_b (lo := 0) (hi := 9) g43 238 69 rfl
    have e58 : h43 238 5 = h 238 5 := ((u43 238 5 rfl).trans ((u16 238 5 rfl).trans (u13 238 5 rfl)))
    refine wk_i ?_
    refine wi_iconst (n := (-1)) (nx := 23) (r1 := 0) (r2 := 0) (r3 := 0) rfl ?_
    refine wi_icmp (cd := .eq) (nx := 26) (r1 := 32) (r2 := 0) (r3 := 0) rfl (by omega) (by omega) (fun (q59 : z44 = (-1)) => ?_) (fun (q59 : ¬ (z44 = (-1))) => ?_)
    ·
      refine wi_aload_n (i := 0) (x := 236) (nx := 33) (r1 := 0) (r2 := 0) (r3 := 0) rfl rfl ?_
      refine wr_gr (k0 := 236) (x := 238) (nx := 36) (r1 := 11) (r2 := 13) (r3 := 0) rfl rfl (by decide) rfl ⟨rfl, rfl⟩ rfl ?_
      refine wi_iload_n (i := 2) (e := 106) (nx := 37) (r1 := 0) (r2 := 0) (r3 := 0) rfl rfl ?_
      refine wr_ia (k0 := 238) (a := 106) (f := 106) (x := h43 238 106) (nx := 38) (r1 := 0) (r2 := 0) (r3 := 0) rfl (by decide) rfl (by omega) (by omega) (by decide) rfl ?_
      refine wi_istore (i := 4) (e := h43 238 106) (lo2 := [(4, vi (h43 238 106)), (0, .ref 236), (1, vi a0), (2, vi 106), (3, vi x15)]) (nx := 40) (r1 := 0) (r2 := 0) (r3 := 0) rfl rfl ?_
      refine wi_aload_n (i := 0) (x := 236) (nx := 41) (r1 := 0) (r2 := 0) (r3 := 0) rfl rfl ?_
      refine wr_gr (k0 := 236) (x := 240) (nx := 44) (r1 := 11) (r2 := 15) (r3 := 0) rfl rfl (by decide) rfl ⟨rfl, rfl⟩ rfl ?_
      refine wi_aload_n (i := 0) (x := 236) (nx := 45) (r1 := 0) (r2 := 0) (r3 := 0) rfl rfl ?_
      refine wr_gr (k0 := 236) (x := 238) (nx := 48) (r1 := 11) (r2 := 13) (r3 := 0) rfl rfl (by decide) rfl ⟨rfl, rfl⟩ rfl ?_
      refine wi_S (rest := []) (as := [.ref 240, .ref 238]) (nx := 51) (r1 := 238) (r2 := 18) (r3 := 0) rfl rfl rfl (of_decide_eq_true rfl) rfl rfl (of_decide_eq_true rfl) (of_decide_eq_true rfl) ?_
      refine ct_238_240_238 hcr  g43    (fun h60 g60 u60 y60_0 => ?_)
      have F61 := F45.then (by decide +kernel) u60
      refine wk_n ?_
      refine wi_iload (i := 4) (e := h43 238 106) (nx := 53) (r1 := 0) (r2 := 0) (r3 := 0) rfl rfl ?_
      refine wi_ireturn (nx := 54) (r1 := 0) (r2 := 0) (r3 := 0) rfl rfl ?_
      have e62 : h60 238 98 = h 238 98 := ((y60_0 98 (by decide)).trans ((u43 240 98 rfl).trans ((u16 240 98 rfl).trans (y13_0 98 (by decide)))))
      have e63 : h60 238 99 = h 238 99 := ((y60_0 99 (by decide)).trans ((u43 240 99 rfl).trans ((u16 240 99 rfl).trans (y13_0 99 (by decide)))))
      have e64 : h60 238 100 = h 238 100 := ((y60_0 100 (by decide)).trans ((u43 240 100 rfl).trans ((u16 240 100 rfl).trans (y13_0 100 (by decide)))))
      have e65 : h60 238 101 = h 238 101 := ((y60_0 101 (by decide)).trans ((u43 240 101 rfl).trans ((u16 240 101 rfl).trans (y13_0 101 (by decide)))))
      have e66 : h60 238 102 = h 238 102 := ((y60_0 102 (by decide)).trans ((u43 240 102 rfl).trans ((u16 240 102 rfl).trans (y13_0 102 (by decide)))))
      have e67 : h60 238 106 = h 238 106 := ((y60_0 106 (by decide)).trans ((u43 240 106 rfl).trans ((u16 240 106 rfl).trans (y13_0 106 (by decide)))))
      have e68 : h60 238 73 = h 238 73 := ((y60_0 73 (by decide)).trans ((u43 240 73 rfl).trans ((u16 240 73 rfl).trans (y13_0 73 (by decide)))))
      have e69 : h60 238 2 = h 238 2 := ((y60_0 2 (by decide)).trans ((u43 240 2 rfl).trans ((u16 240 2 rfl).trans (y13_0 2 (by decide)))))
      have e70 : h60 238 119 = h 238 119 := ((y60_0 119 (by decide)).trans ((u43 240 119 rfl).trans ((u16 240 119 rfl).trans (y13_0 119 (by decide)))))
      have e71 : h60 238 67 = h 238 67 := ((y60_0 67 (by decide)).trans ((u43 240 67 rfl).trans ((u16 240 67 rfl).trans (y13_0 67 (by decide)))))
      have e72 : h60 238 69 = h 238 69 := ((y60_0 69 (by decide)).trans ((u43 240 69 rfl).trans ((u16 240 69 rfl).trans (y13_0 69 (by decide)))))
      have e73 : h60 238 5 = h 238 5 := ((y60_0 5 (by decide)).trans ((u43 240 5 rfl).trans ((u16 240 5 rfl).trans (y13_0 5 (by decide)))))
      exact k h60 (h43 238 106) g60 F61 (by omega) (show (h60 238 98) + (h60 238 99) + (h60 238 100) + (h60 238 101) + (h60 238 102) + (h60 238 106) = (h60 238 73) by omega) (show (h60 238 73) ≤ (h60 238 2) by omega) (show (h60 238 119) ≤ (h60 238 67) by omega) (show (h60 238 69) ≤ (h60 238 5) by omega) (show (h60 238 2) ≤ 12 * (h60 238 5) by omega) (fun i _ => ((y60_0 i (by omega)).trans ((u43 240 i (fo_nk rfl)).trans ((u16 240 i (fo_nk rfl)).trans (y13_0 i (by omega))))))
    ·
      refine wr_iinc (i := 3) (n := 1) (v := x15) (fun e60 => [(3, vi e60), (0, .ref 236), (1, vi a0), (2, vi 106)]) (nx := 29) (r1 := 0) (r2 := 0) (r3 := 0) rfl rfl (fun _ => rfl) (fun e60 (fe60 : e60 = x15 + 1) => ?_)
      refine wi_goto (nx := 32) (r1 := 13) (r2 := 0) (r3 := 0) rfl ?_
      refine wp.lo (lo := [(0, .ref 236), (1, vi a0), (2, vi 106), (3, vi e60)]) ⟨rfl, rfl, rfl, rfl, trivial⟩ rfl ?_
      exact I16 e60 h43 ⟨g43, F45, F46, (show (0 ≤ e60 ∧ e60 ≤ 2147483647) ∧ ((h43 238 98) + (h43 238 99) + (h43 238 100) + (h43 238 101) + (h43 238 102) + (h43 238 106) = (h43 238 73)) ∧ ((h43 238 73) ≤ (h43 238 2)) ∧ ((h43 238 119) ≤ (h43 238 67)) ∧ ((h43 238 69) ≤ (h43 238 5)) ∧ ((h43 238 2) ≤ 12 * (h43 238 5)) by omega)⟩ (show ((2147483647 : Int) + 1 - e60).toNat < ((2147483647 : Int) + 1 - x15).toNat by omega)
-- method 295: Model.ruleOut(I)I
set_option maxRecDepth 100000 in
set_option maxHeartbeats 100000000 in
theorem ct_295_236 {L : Nat} {xs : Nat → Int32} {d b c : Nat} {h : hp} {cr : Nat → Nat → Option Nat} {Q : hp_Q} (hcr : CR cr)  (g : GI h) (a0 : Int) (q0_ : -2147483648 ≤ a0 ∧ a0 ≤ 2147483647) (pp0 : h 238 98 + h 238 99 + h 238 100 + h 238 101 + h 238 102 + h 238 106 = h 238 73) (pp1 : h 238 73 ≤ h 238 2) (pp2 : h 238 119 ≤ h 238 67) (pp3 : h 238 69 ≤ h 238 5) (pp4 : h 238 2 ≤ 12 * h 238 5) (k : ∀ (h2 : hp) (z0 : Int) , GI h2 → FR [(238, 238, none), (240, 240, none), (236, 236, some (0, 0)), (236, 236, some (28, 28))] h h2 → (0 ≤ z0 ∧ z0 ≤ 12) → (h2 238 98 + h2 238 99 + h2 238 100 + h2 238 101 + h2 238 102 + h2 238 106 = h2 238 73) → (h2 238 73 ≤ h2 238 2) → (h2 238 119 ≤ h2 238 67) → (h2 238 69 ≤ h2 238 5) → (h2 238 2 ≤ 12 * h2 238 5) → (∀ i : Nat, i < 31 → h2 238 i = h 238 i) → Q (.inl (some (vi z0))) (hp_w h2 cr) b c) : wp (md_xa (L, xs)) (d + 6) 295 (0, [(0, .ref 236), (1, vi a0)], [], hp_w h cr, b, c) Q := by
  have F0 : FR [(238, 238, none), (240, 240, none), (236, 236, some (0, 0)), (236, 236, some (28, 28))] h h := FR.refl
  have b1 := gi_b (lo := 0) (hi := 6) g 238 98 rfl
  have b2 := gi_b (lo := 0) (hi := 6) g 238 99 rfl
  have b3 := gi_b (lo := 0) (hi := 6) g 238 100 rfl
  have b4 := gi_b (lo := 0) (hi := 6) g 238 101 rfl
  have b5 := gi_b (lo := 0) (hi := 3) g 238 102 rfl
  have b6 := gi_b (lo := 0) (hi := 12) g 238 106 rfl
  have b7 := gi_b (lo := 0) (hi := 12) g 238 73 rfl
  have b8 := gi_b (lo := 0) (hi := 12) g 238 2 rfl
  have b9 := gi_b (lo := 0) (hi := 9999) g 238 119 rfl
  have b10 := gi_b (lo := 0) (hi := 9999) g 238 67 rfl
  have b11 := gi_b (lo := 0) (hi := 9) g 238 69 rfl
  have b12 := gi_b (lo := 0) (hi := 9) g 238 5 rfl
  refine wi_aload_n (i := 0) (x := 236) (nx := 1) (r1 := 0) (r2 := 0) (r3 := 0) rfl rfl ?_
  refine wi_iload_n (i := 1) (e := a0) (nx := 2) (r1 := 0) (r2 := 0) (r3 := 0) rfl rfl ?_
  refine wi_i2l (nx := 3) (r1 := 0) (r2 := 0) (r3 := 0) rfl (by omega) ?_
  refine wi_lconst (n := 0) (e := 0) (nx := 4) (r1 := 0) (r2 := 0) (r3 := 0) rfl (by decide) ?_
  refine wi_ldc2_w (e := 300) (nx := 7) (r1 := 300) (r2 := 0) (r3 := 0) rfl (by decide) ?_
  refine wi_S (rest := [.ref 236]) (as := [vl a0, vl 0, vl 300]) (nx := 10) (r1 := 210) (r2 := 19) (r3 := 0) rfl rfl rfl (of_decide_eq_true rfl) rfl rfl (of_decide_eq_true rfl) (of_decide_eq_true rfl) ?_
  refine wi_lload_n (i := 0) (e := a0) (nx := 1) (r1 := 0) (r2 := 0) (r3 := 0) rfl rfl ?_
  refine wi_lload_n (i := 2) (e := 0) (nx := 2) (r1 := 0) (r2 := 0) (r3 := 0) rfl rfl ?_
  refine wi_lcmp (a := a0) (e := 0) (nx := 3) (r1 := 0) (r2 := 0) (r3 := 0) rfl (by omega) (by omega) (fun r13 (fr13 : (r13 = -1 ∧ a0 < 0) ∨ (r13 = 0 ∧ a0 = 0) ∨ (r13 = 1 ∧ 0 < a0)) => ?_)
  refine wi_if (cd := .lt) (nx := 6) (r1 := 17) (r2 := 0) (r3 := 0) rfl (by omega) (fun (q14 : r13 < 0) => ?_) (fun (q14 : ¬ (r13 < 0)) => ?_)
  ·
    refine wi_iconst (n := 0) (nx := 18) (r1 := 0) (r2 := 0) (r3 := 0) rfl ?_
    refine wi_zreturn (nx := 19) (r1 := 0) (r2 := 0) (r3 := 0) rfl rfl (by omega) ?_
    refine wk_i ?_
    refine wr_V (k0 := 236) (rest := []) (as := [.ref 236, vi 0]) (nx := 13) (r1 := 206) (r2 := 1) (r3 := 11) rfl rfl rfl (of_decide_eq_true rfl) rfl rfl (by decide) rfl rfl (of_decide_eq_true rfl) (of_decide_eq_true rfl) ?_
    refine wi_aload_n (i := 0) (x := 236) (nx := 1) (r1 := 0) (r2 := 0) (r3 := 0) rfl rfl ?_
    refine wi_iload_n (i := 1) (e := 0) (nx := 2) (r1 := 0) (r2 := 0) (r3 := 0) rfl rfl ?_
    refine wi_if (cd := .ne) (nx := 5) (r1 := 9) (r2 := 0) (r3 := 0) rfl (by omega) (fun (q15 : 0 ≠ 0) => by exfalso; omega) (fun (q15 : ¬ (0 ≠ 0)) => ?_)
    refine wi_iconst (n := 1) (nx := 6) (r1 := 0) (r2 := 0) (r3 := 0) rfl ?_
    refine wi_goto (nx := 9) (r1 := 10) (r2 := 0) (r3 := 0) rfl ?_
    refine wi_S (rest := [.ref 236]) (as := [vi 1]) (nx := 13) (r1 := 207) (r2 := 17) (r3 := 0) rfl rfl rfl (of_decide_eq_true rfl) rfl rfl (of_decide_eq_true rfl) (of_decide_eq_true rfl) ?_
    refine wi_iload_n (i := 0) (e := 1) (nx := 1) (r1 := 0) (r2 := 0) (r3 := 0) rfl rfl ?_
    refine wi_if (cd := .eq) (nx := 4) (r1 := 8) (r2 := 0) (r3 := 0) rfl (by omega) (fun (q16 : 1 = 0) => by exfalso; omega) (fun (q16 : ¬ (1 = 0)) => ?_)
    refine wi_iconst (n := 1) (nx := 5) (r1 := 0) (r2 := 0) (r3 := 0) rfl ?_
    refine wi_goto (nx := 8) (r1 := 9) (r2 := 0) (r3 := 0) rfl ?_
    refine wi_ireturn (nx := 10) (r1 := 0) (r2 := 0) (r3 := 0) rfl rfl ?_
    refine wk_i ?_
    refine wr_pf0 (k0 := 236) (x := 1) (bl := 0) (bh := 2) (nx := 16) (r1 := 11) (r2 := 0) (r3 := 0) rfl (by decide) rfl ⟨rfl, rfl⟩ rfl rfl g rfl (by omega) (fun h17 g17 w17 u17 => ?_)
    have F18 := F0.then rfl u17
    refine wi_iload_n (i := 1) (e := 0) (nx := 17) (r1 := 0) (r2 := 0) (r3 := 0) rfl rfl ?_
    refine wi_zreturn (nx := 18) (r1 := 0) (r2 := 0) (r3 := 0) rfl rfl (by omega) ?_
    refine wk_i ?_
    refine wi_if (cd := .eq) (nx := 16) (r1 := 26) (r2 := 0) (r3 := 0) rfl (by omega) (fun (q19 : 0 = 0) => ?_) (fun (q19 : ¬ (0 = 0)) => by exfalso; omega)
    refine wi_iconst (n := 0) (nx := 27) (r1 := 0) (r2 := 0) (r3 := 0) rfl ?_
    refine wi_ireturn (nx := 28) (r1 := 0) (r2 := 0) (r3 := 0) rfl rfl ?_
    have e20 : h17 238 98 = h 238 98 := (u17 238 98 rfl)
    have e21 : h17 238 99 = h 238 99 := (u17 238 99 rfl)
    have e22 : h17 238 100 = h 238 100 := (u17 238 100 rfl)
    have e23 : h17 238 101 = h 238 101 := (u17 238 101 rfl)
    have e24 : h17 238 102 = h 238 102 := (u17 238 102 rfl)
    have e25 : h17 238 106 = h 238 106 := (u17 238 106 rfl)
    have e26 : h17 238 73 = h 238 73 := (u17 238 73 rfl)
    have e27 : h17 238 2 = h 238 2 := (u17 238 2 rfl)
    have e28 : h17 238 119 = h 238 119 := (u17 238 119 rfl)
    have e29 : h17 238 67 = h 238 67 := (u17 238 67 rfl)
    have e30 : h17 238 69 = h 238 69 := (u17 238 69 rfl)
    have e31 : h17 238 5 = h 238 5 := (u17 238 5 rfl)
    exact k h17 0 g17 F18 (by omega) (show (h17 238 98) + (h17 238 99) + (h17 238 100) + (h17 238 101) + (h17 238 102) + (h17 238 106) = (h17 238 73) by omega) (show (h17 238 73) ≤ (h17 238 2) by omega) (show (h17 238 119) ≤ (h17 238 67) by omega) (show (h17 238 69) ≤ (h17 238 5) by omega) (show (h17 238 2) ≤ 12 * (h17 238 5) by omega) (fun i _ => (u17 238 i (fn_a (by omega) fn_0)))
  ·
    refine wi_lload_n (i := 0) (e := a0) (nx := 7) (r1 := 0) (r2 := 0) (r3 := 0) rfl rfl ?_
    refine wi_lload (i := 4) (e := 300) (nx := 9) (r1 := 0) (r2 := 0) (r3 := 0) rfl rfl ?_
    refine wi_lcmp (a := a0) (e := 300) (nx := 10) (r1 := 0) (r2 := 0) (r3 := 0) rfl (by omega) (by omega) (fun r15 (fr15 : (r15 = -1 ∧ a0 < 300) ∨ (r15 = 0 ∧ a0 = 300) ∨ (r15 = 1 ∧ 300 < a0)) => ?_)
    refine wi_if (cd := .gt) (nx := 13) (r1 := 17) (r2 := 0) (r3 := 0) rfl (by omega) (fun (q16 : 0 < r15) => ?_) (fun (q16 : ¬ (0 < r15)) => ?_)
    ·
      refine wi_iconst (n := 0) (nx := 18) (r1 := 0) (r2 := 0) (r3 := 0) rfl ?_
      refine wi_zreturn (nx := 19) (r1 := 0) (r2 := 0) (r3 := 0) rfl rfl (by omega) ?_
      refine wk_i ?_
      refine wr_V (k0 := 236) (rest := []) (as := [.ref 236, vi 0]) (nx := 13) (r1 := 206) (r2 := 1) (r3 := 11) rfl rfl rfl (of_decide_eq_true rfl) rfl rfl (by decide) rfl rfl (of_decide_eq_true rfl) (of_decide_eq_true rfl) ?_
      refine wi_aload_n (i := 0) (x := 236) (nx := 1) (r1 := 0) (r2 := 0) (r3 := 0) rfl rfl ?_
      refine wi_iload_n (i := 1) (e := 0) (nx := 2) (r1 := 0) (r2 := 0) (r3 := 0) rfl rfl ?_
      refine wi_if (cd := .ne) (nx := 5) (r1 := 9) (r2 := 0) (r3 := 0) rfl (by omega) (fun (q17 : 0 ≠ 0) => by exfalso; omega) (fun (q17 : ¬ (0 ≠ 0)) => ?_)
      refine wi_iconst (n := 1) (nx := 6) (r1 := 0) (r2 := 0) (r3 := 0) rfl ?_
      refine wi_goto (nx := 9) (r1 := 10) (r2 := 0) (r3 := 0) rfl ?_
      refine wi_S (rest := [.ref 236]) (as := [vi 1]) (nx := 13) (r1 := 207) (r2 := 17) (r3 := 0) rfl rfl rfl (of_decide_eq_true rfl) rfl rfl (of_decide_eq_true rfl) (of_decide_eq_true rfl) ?_
      refine wi_iload_n (i := 0) (e := 1) (nx := 1) (r1 := 0) (r2 := 0) (r3 := 0) rfl rfl ?_
      refine wi_if (cd := .eq) (nx := 4) (r1 := 8) (r2 := 0) (r3 := 0) rfl (by omega) (fun (q18 : 1 = 0) => by exfalso; omega) (fun (q18 : ¬ (1 = 0)) => ?_)
      refine wi_iconst (n := 1) (nx := 5) (r1 := 0) (r2 := 0) (r3 := 0) rfl ?_
      refine wi_goto (nx := 8) (r1 := 9) (r2 := 0) (r3 := 0) rfl ?_
      refine wi_ireturn (nx := 10) (r1 := 0) (r2 := 0) (r3 := 0) rfl rfl ?_
      refine wk_i ?_
      refine wr_pf0 (k0 := 236) (x := 1) (bl := 0) (bh := 2) (nx := 16) (r1 := 11) (r2 := 0) (r3 := 0) rfl (by decide) rfl ⟨rfl, rfl⟩ rfl rfl g rfl (by omega) (fun h19 g19 w19 u19 => ?_)
      have F20 := F0.then rfl u19
      refine wi_iload_n (i := 1) (e := 0) (nx := 17) (r1 := 0) (r2 := 0) (r3 := 0) rfl rfl ?_
      refine wi_zreturn (nx := 18) (r1 := 0) (r2 := 0) (r3 := 0) rfl rfl (by omega) ?_
      refine wk_i ?_
      refine wi_if (cd := .eq) (nx := 16) (r1 := 26) (r2 := 0) (r3 := 0) rfl (by omega) (fun (q21 : 0 = 0) => ?_) (fun (q21 : ¬ (0 = 0)) => by exfalso; omega)
      refine wi_iconst (n := 0) (nx := 27) (r1 := 0) (r2 := 0) (r3 := 0) rfl ?_
      refine wi_ireturn (nx := 28) (r1 := 0) (r2 := 0) (r3 := 0) rfl rfl ?_
      have e22 : h19 238 98 = h 238 98 := (u19 238 98 rfl)
      have e23 : h19 238 99 = h 238 99 := (u19 238 99 rfl)
      have e24 : h19 238 100 = h 238 100 := (u19 238 100 rfl)
      have e25 : h19 238 101 = h 238 101 := (u19 238 101 rfl)
      have e26 : h19 238 102 = h 238 102 := (u19 238 102 rfl)
      have e27 : h19 238 106 = h 238 106 := (u19 238 106 rfl)
      have e28 : h19 238 73 = h 238 73 := (u19 238 73 rfl)
      have e29 : h19 238 2 = h 238 2 := (u19 238 2 rfl)
      have e30 : h19 238 119 = h 238 119 := (u19 238 119 rfl)
      have e31 : h19 238 67 = h 238 67 := (u19 238 67 rfl)
      have e32 : h19 238 69 = h 238 69 := (u19 238 69 rfl)
      have e33 : h19 238 5 = h 238 5 := (u19 238 5 rfl)
      exact k h19 0 g19 F20 (by omega) (show (h19 238 98) + (h19 238 99) + (h19 238 100) + (h19 238 101) + (h19 238 102) + (h19 238 106) = (h19 238 73) by omega) (show (h19 238 73) ≤ (h19 238 2) by omega) (show (h19 238 119) ≤ (h19 238 67) by omega) (show (h19 238 69) ≤ (h19 238 5) by omega) (show (h19 238 2) ≤ 12 * (h19 238 5) by omega) (fun i _ => (u19 238 i (fn_a (by omega) fn_0)))
    ·
      refine wi_iconst (n := 1) (nx := 14) (r1 := 0) (r2 := 0) (r3 := 0) rfl ?_
      refine wi_goto (nx := 17) (r1 := 18) (r2 := 0) (r3 := 0) rfl ?_
      refine wi_zreturn (nx := 19) (r1 := 0) (r2 := 0) (r3 := 0) rfl rfl (by omega) ?_
      refine wk_i ?_
      refine wr_V (k0 := 236) (rest := []) (as := [.ref 236, vi 1]) (nx := 13) (r1 := 206) (r2 := 1) (r3 := 11) rfl rfl rfl (of_decide_eq_true rfl) rfl rfl (by decide) rfl rfl (of_decide_eq_true rfl) (of_decide_eq_true rfl) ?_
      refine wi_aload_n (i := 0) (x := 236) (nx := 1) (r1 := 0) (r2 := 0) (r3 := 0) rfl rfl ?_
      refine wi_iload_n (i := 1) (e := 1) (nx := 2) (r1 := 0) (r2 := 0) (r3 := 0) rfl rfl ?_
      refine wi_if (cd := .ne) (nx := 5) (r1 := 9) (r2 := 0) (r3 := 0) rfl (by omega) (fun (q17 : 1 ≠ 0) => ?_) (fun (q17 : ¬ (1 ≠ 0)) => by exfalso; omega)
      refine wi_iconst (n := 0) (nx := 10) (r1 := 0) (r2 := 0) (r3 := 0) rfl ?_
      refine wi_S (rest := [.ref 236]) (as := [vi 0]) (nx := 13) (r1 := 207) (r2 := 17) (r3 := 0) rfl rfl rfl (of_decide_eq_true rfl) rfl rfl (of_decide_eq_true rfl) (of_decide_eq_true rfl) ?_
      refine wi_iload_n (i := 0) (e := 0) (nx := 1) (r1 := 0) (r2 := 0) (r3 := 0) rfl rfl ?_
      refine wi_if (cd := .eq) (nx := 4) (r1 := 8) (r2 := 0) (r3 := 0) rfl (by omega) (fun (q18 : 0 = 0) => ?_) (fun (q18 : ¬ (0 = 0)) => by exfalso; omega)
      refine wi_iconst (n := 0) (nx := 9) (r1 := 0) (r2 := 0) (r3 := 0) rfl ?_
      refine wi_ireturn (nx := 10) (r1 := 0) (r2 := 0) (r3 := 0) rfl rfl ?_
      refine wk_i ?_
      refine wr_pf0 (k0 := 236) (x := 0) (bl := 0) (bh := 2) (nx := 16) (r1 := 11) (r2 := 0) (r3 := 0) rfl (by decide) rfl ⟨rfl, rfl⟩ rfl rfl g rfl (by omega) (fun h19 g19 w19 u19 => ?_)
      have F20 := F0.then rfl u19
      refine wi_iload_n (i := 1) (e := 1) (nx := 17) (r1 := 0) (r2 := 0) (r3 := 0) rfl rfl ?_
      refine wi_zreturn (nx := 18) (r1 := 0) (r2 := 0) (r3 := 0) rfl rfl (by omega) ?_
      refine wk_i ?_
      refine wi_if (cd := .eq) (nx := 16) (r1 := 26) (r2 := 0) (r3 := 0) rfl (by omega) (fun (q21 : 1 = 0) => by exfalso; omega) (fun (q21 : ¬ (1 = 0)) => ?_)
      refine wi_aload_n (i := 0) (x := 236) (nx := 17) (r1 := 0) (r2 := 0) (r3 := 0) rfl rfl ?_
      refine wi_iload_n (i := 1) (e := a0) (nx := 18) (r1 := 0) (r2 := 0) (r3 := 0) rfl rfl ?_
      refine wi_bipush (n := 106) (nx := 20) (r1 := 0) (r2 := 0) (r3 := 0) rfl (by decide) ?_
      refine wr_V (k0 := 236) (rest := []) (as := [.ref 236, vi a0, vi 106]) (nx := 23) (r1 := 294) (r2 := 2) (r3 := 11) rfl rfl rfl (of_decide_eq_true rfl) rfl rfl (by decide) rfl rfl (of_decide_eq_true rfl) (of_decide_eq_true rfl) ?_
      have e23 : h19 238 98 = h 238 98 := (u19 238 98 rfl)
      have e24 : h19 238 99 = h 238 99 := (u19 238 99 rfl)
      have e25 : h19 238 100 = h 238 100 := (u19 238 100 rfl)
      have e26 : h19 238 101 = h 238 101 := (u19 238 101 rfl)
      have e27 : h19 238 102 = h 238 102 := (u19 238 102 rfl)
      have e28 : h19 238 106 = h 238 106 := (u19 238 106 rfl)
      have e29 : h19 238 73 = h 238 73 := (u19 238 73 rfl)
      have e30 : h19 238 2 = h 238 2 := (u19 238 2 rfl)
      have e31 : h19 238 119 = h 238 119 := (u19 238 119 rfl)
      have e32 : h19 238 67 = h 238 67 := (u19 238 67 rfl)
      have e33 : h19 238 69 = h 238 69 := (u19 238 69 rfl)
      have e34 : h19 238 5 = h 238 5 := (u19 238 5 rfl)
      refine ct_294_236_L106 hcr  g19 a0 (by omega) (show (h19 238 98) + (h19 238 99) + (h19 238 100) + (h19 238 101) + (h19 238 102) + (h19 238 106) = (h19 238 73) by omega) (show (h19 238 73) ≤ (h19 238 2) by omega) (show (h19 238 119) ≤ (h19 238 67) by omega) (show (h19 238 69) ≤ (h19 238 5) by omega) (show (h19 238 2) ≤ 12 * (h19 238 5) by omega) (fun h22 z35 g22 u22 (fz35 : 0 ≤ z35 ∧ z35 ≤ 12) (p22_0 : (h22 238 98) + (h22 238 99) + (h22 238 100) + (h22 238 101) + (h22 238 102) + (h22 238 106) = (h22 238 73)) (p22_1 : (h22 238 73) ≤ (h22 238 2)) (p22_2 : (h22 238 119) ≤ (h22 238 67)) (p22_3 : (h22 238 69) ≤ (h22 238 5)) (p22_4 : (h22 238 2) ≤ 12 * (h22 238 5)) y22_0 => ?_)
      have F36 := F20.then (by decide +kernel) u22
      have b37 := gi_b (lo := 0) (hi := 6) g22 238 98 rfl
      have b38 := gi_b (lo := 0) (hi := 6) g22 238 99 rfl
      have b39 := gi_b (lo := 0) (hi := 6) g22 238 100 rfl
      have b40 := gi_b (lo := 0) (hi := 6) g22 238 101 rfl
      have b41 := gi_b (lo := 0) (hi := 3) g22 238 102 rfl
      have b42 := gi_b (lo := 0) (hi := 12) g22 238 106 rfl
      have b43 := gi_b (lo := 0) (hi := 12) g22 238 73 rfl
      have e44 : h22 238 2 = h 238 2 := ((y22_0 2 (by decide)).trans (u19 238 2 rfl))
      have b45 := gi_b (lo := 0) (hi := 9999) g22 238 119 rfl
      have b46 := gi_b (lo := 0) (hi := 9999) g22 238 67 rfl
      have b47 := gi_b (lo := 0) (hi := 9) g22 238 69 rfl
      have e48 : h22 238 5 = h 238 5 := ((y22_0 5 (by decide)).trans (u19 238 5 rfl))
      refine wk_i ?_
      refine wi_goto (nx := 26) (r1 := 27) (r2 := 0) (r3 := 0) rfl ?_
      refine wi_ireturn (nx := 28) (r1 := 0) (r2 := 0) (r3 := 0) rfl rfl ?_
      exact k h22 z35 g22 F36 (by omega) (show (h22 238 98) + (h22 238 99) + (h22 238 100) + (h22 238 101) + (h22 238 102) + (h22 238 106) = (h22 238 73) by omega) (show (h22 238 73) ≤ (h22 238 2) by omega) (show (h22 238 119) ≤ (h22 238 67) by omega) (show (h22 238 69) ≤ (h22 238 5) by omega) (show (h22 238 2) ≤ 12 * (h22 238 5) by omega) (fun i _ => ((y22_0 i (by omega)).trans (u19 238 i (fn_a (by omega) fn_0))))
-- method 270: Model.run()I
set_option maxRecDepth 100000 in
set_option maxHeartbeats 100000000 in
theorem ct_270_236 {L : Nat} {xs : Nat → Int32} {d b c : Nat} {h : hp} {cr : Nat → Nat → Option Nat} {Q : hp_Q} (hcr : CR cr)  (g : GI h)    (k : ∀ (h2 : hp) (z0 : Int) , GI h2 → FR [(236, 236, some (0, 0))] h h2 → (0 ≤ z0 ∧ z0 ≤ 9) → Q (.inl (some (vi z0))) (hp_w h2 cr) b c) : wp (md_xa (L, xs)) (d + 1) 270 (0, [(0, .ref 236)], [], hp_w h cr, b, c) Q := by
  have F0 : FR [(236, 236, some (0, 0))] h h := FR.refl
  refine wi_aload_n (i := 0) (x := 236) (nx := 1) (r1 := 0) (r2 := 0) (r3 := 0) rfl rfl ?_
  refine wi_bipush (n := 69) (nx := 3) (r1 := 0) (r2 := 0) (r3 := 0) rfl (by decide) ?_
  refine wr_V (k0 := 236) (rest := []) (as := [.ref 236, vi 69]) (nx := 6) (r1 := 269) (r2 := 1) (r3 := 11) rfl rfl rfl (of_decide_eq_true rfl) rfl rfl (by decide) rfl rfl (of_decide_eq_true rfl) (of_decide_eq_true rfl) ?_
  refine wi_aload_n (i := 0) (x := 236) (nx := 1) (r1 := 0) (r2 := 0) (r3 := 0) rfl rfl ?_
  refine wi_iconst (n := 0) (nx := 2) (r1 := 0) (r2 := 0) (r3 := 0) rfl ?_
  refine wr_pf0 (k0 := 236) (x := 0) (bl := 0) (bh := 2) (nx := 5) (r1 := 11) (r2 := 0) (r3 := 0) rfl (by decide) rfl ⟨rfl, rfl⟩ rfl rfl g rfl (by omega) (fun h1 g1 w1 u1 => ?_)
  have F2 := F0.then rfl u1
  refine wi_aload_n (i := 0) (x := 236) (nx := 6) (r1 := 0) (r2 := 0) (r3 := 0) rfl rfl ?_
  refine wr_gr (k0 := 236) (x := 238) (nx := 9) (r1 := 11) (r2 := 13) (r3 := 0) rfl rfl (by decide) rfl ⟨rfl, rfl⟩ rfl ?_
  refine wi_iload_n (i := 1) (e := 69) (nx := 10) (r1 := 0) (r2 := 0) (r3 := 0) rfl rfl ?_
  have b3 := gi_b (lo := 0) (hi := 9) g 238 69 rfl
  refine wr_ia (k0 := 238) (a := 69) (f := 69) (x := h 238 69) (nx := 11) (r1 := 0) (r2 := 0) (r3 := 0) rfl (by decide) rfl (by omega) (by omega) (by decide) (u1 238 69 rfl) ?_
  refine wi_ireturn (nx := 12) (r1 := 0) (r2 := 0) (r3 := 0) rfl rfl ?_
  refine wk_i ?_
  refine wi_ireturn (nx := 7) (r1 := 0) (r2 := 0) (r3 := 0) rfl rfl ?_
  exact k h1 (h 238 69) g1 F2 (by omega)
-- method 238: Model.copies([I[I)V
set_option maxRecDepth 100000 in
set_option maxHeartbeats 100000000 in
theorem ct_238_238_257 {L : Nat} {xs : Nat → Int32} {d b c : Nat} {h : hp} {cr : Nat → Nat → Option Nat} {Q : hp_Q} (hcr : CR cr)  (g : GI h)    (k : ∀ (h2 : hp) , GI h2 → FR [(257, 257, none)] h h2 → (∀ q : Nat, q < 200 → h2 257 q = h 238 q) → Q (.inl none) (hp_w h2 cr) b c) : wp (md_xa (L, xs)) d 238 (0, [(0, .ref 238), (1, .ref 257)], [], hp_w h cr, b, c) Q := by
  have F0 : FR [(257, 257, none)] h h := FR.refl
  refine wi_iconst (n := 0) (nx := 1) (r1 := 0) (r2 := 0) (r3 := 0) rfl ?_
  refine wi_istore_n (i := 2) (e := 0) (lo2 := [(2, vi 0), (0, .ref 238), (1, .ref 257)]) (nx := 2) (r1 := 0) (r2 := 0) (r3 := 0) rfl rfl ?_
  refine wp.lo (lo := [(0, .ref 238), (1, .ref 257), (2, vi 0)]) ⟨rfl, rfl, rfl, trivial⟩ rfl ?_
  refine wl_1 (fun x1 h2 => GI h2 ∧ FR [(257, 257, none)] h h2 ∧ FR [(257, 257, none)] h h2 ∧ ((0 ≤ x1 ∧ x1 ≤ 200)) ∧ (∀ q : Nat, (q : Int) < x1 → h2 257 q = h 238 q) ∧ (∀ q : Nat, x1 ≤ (q : Int) → h2 257 q = h 257 q)) (fun x1 h2 => ((200 : Int) + 1 - x1).toNat) (fun x1 h2 => (2, [(0, .ref 238), (1, .ref 257), (2, vi x1)], [], hp_w h2 cr, b, c)) ?_ 0 h ⟨g, F0, FR.refl, (show (0 ≤ 0 ∧ 0 ≤ 200) by omega), (fun q e => absurd e (by omega)), (fun _ _ => rfl)⟩
  intro x1 h2 ⟨g2, F3, u2, f2, XA2, XB2⟩ I2
  refine wi_iload_n (i := 2) (e := x1) (nx := 3) (r1 := 0) (r2 := 0) (r3 := 0) rfl rfl ?_
  refine wi_sipush (n := 200) (nx := 6) (r1 := 0) (r2 := 0) (r3 := 0) rfl (by decide) ?_
  refine wi_icmp (cd := .ge) (nx := 9) (r1 := 21) (r2 := 0) (r3 := 0) rfl (by omega) (by omega) (fun (q4 : 200 ≤ x1) => ?_) (fun (q4 : ¬ (200 ≤ x1)) => ?_)
  ·
    refine wi_return (nx := 22) (r1 := 0) (r2 := 0) (r3 := 0) rfl rfl ?_
    exact k h2 g2 F3 (fun q e => XA2 q (by omega))
  ·
    refine wi_aload_n (i := 1) (x := 257) (nx := 10) (r1 := 0) (r2 := 0) (r3 := 0) rfl rfl ?_
    refine wi_iload_n (i := 2) (e := x1) (nx := 11) (r1 := 0) (r2 := 0) (r3 := 0) rfl rfl ?_
    refine wi_aload_n (i := 0) (x := 238) (nx := 12) (r1 := 0) (r2 := 0) (r3 := 0) rfl rfl ?_
    refine wi_iload_n (i := 2) (e := x1) (nx := 13) (r1 := 0) (r2 := 0) (r3 := 0) rfl rfl ?_
    obtain ⟨i5, ei5⟩ : ∃ q : Nat, x1 = (q : Int) := ⟨(x1).toNat, by omega⟩
    refine wr_ia (k0 := 238) (a := x1) (f := i5) (x := h 238 i5) (nx := 14) (r1 := 0) (r2 := 0) (r3 := 0) rfl (by decide) rfl (by omega) (by omega) (by decide) (u2 238 i5 (fn_a (by decide) fn_0)) ?_
    refine wr_iv (k0 := 257) (a := x1) (f := i5) (x := h 238 i5) (nx := 15) (r1 := 0) (r2 := 0) (r3 := 0) rfl (by decide) rfl (by omega) (by omega) (by decide) g2 (g 238 i5) (fun h6 g6 w6 u6 => ?_)
    have F7 := F3.then rfl (FR.rngp (lo := 257) (hi := 257) u6 (by decide))
    have F8 := u2.then rfl (FR.rngp (lo := 257) (hi := 257) u6 (by decide))
    refine wr_iinc (i := 2) (n := 1) (v := x1) (fun e9 => [(2, vi e9), (0, .ref 238), (1, .ref 257)]) (nx := 18) (r1 := 0) (r2 := 0) (r3 := 0) rfl rfl (fun _ => rfl) (fun e9 (fe9 : e9 = x1 + 1) => ?_)
    refine wi_goto (nx := 21) (r1 := 2) (r2 := 0) (r3 := 0) rfl ?_
    refine wp.lo (lo := [(0, .ref 238), (1, .ref 257), (2, vi e9)]) ⟨rfl, rfl, rfl, trivial⟩ rfl ?_
    exact I2 e9 h6 ⟨g6, F7, F8, (show (0 ≤ e9 ∧ e9 ≤ 200) by omega), (fun q e => by
        by_cases e1 : (q : Int) < x1
        · exact (u6 257 _ (fn_i (by omega) fn_0)).trans (XA2 q e1)
        · have e2 : q = i5 := by omega
          have e3 : q = i5 := by omega
          exact (congrArg (h6 257) e2).trans (w6.trans ((Eq.refl _).trans (congrArg (h 238) e3).symm))), (fun q e => (u6 257 q (fn_i (by omega) fn_0)).trans (XB2 q (by omega)))⟩ (show ((200 : Int) + 1 - e9).toNat < ((200 : Int) + 1 - x1).toNat by omega)
-- method 341: Model.passes(I)Z
set_option maxRecDepth 100000 in
set_option maxHeartbeats 100000000 in
theorem ct_341_236 {L : Nat} {xs : Nat → Int32} {d b c : Nat} {h : hp} {cr : Nat → Nat → Option Nat} {Q : hp_Q} (hcr : CR cr)  (g : GI h) (a0 : Int) (q0_ : -2147483648 ≤ a0 ∧ a0 ≤ 2147483647) (pp0 : h 238 98 + h 238 99 + h 238 100 + h 238 101 + h 238 102 + h 238 106 = h 238 73) (pp1 : h 238 73 ≤ h 238 2) (pp2 : h 238 119 ≤ h 238 67) (pp3 : h 238 69 ≤ h 238 5) (pp4 : h 238 2 ≤ 12 * h 238 5) (k : ∀ (h2 : hp) (z0 : Int) , GI h2 → FR [(236, 236, some (45, 45)), (238, 238, some (67, 67))] h h2 → (0 ≤ z0 ∧ z0 ≤ 1) → (z0 = 0 → 1 ≤ a0 ∧ a0 ≤ 2147483647) → (h2 238 98 + h2 238 99 + h2 238 100 + h2 238 101 + h2 238 102 + h2 238 106 = h2 238 73) → (h2 238 73 ≤ h2 238 2) → (h2 238 119 ≤ h2 238 67) → (h2 238 69 ≤ h2 238 5) → (h2 238 2 ≤ 12 * h2 238 5) → Q (.inl (some (vi z0))) (hp_w h2 cr) b c) : wp (md_xa (L, xs)) d 341 (0, [(0, .ref 236), (1, vi a0)], [], hp_w h cr, b, c) Q := by
  have F0 : FR [(236, 236, some (45, 45)), (238, 238, some (67, 67))] h h := FR.refl
  have b1 := gi_b (lo := 0) (hi := 6) g 238 98 rfl
  have b2 := gi_b (lo := 0) (hi := 6) g 238 99 rfl
  have b3 := gi_b (lo := 0) (hi := 6) g 238 100 rfl
  have b4 := gi_b (lo := 0) (hi := 6) g 238 101 rfl
  have b5 := gi_b (lo := 0) (hi := 3) g 238 102 rfl
  have b6 := gi_b (lo := 0) (hi := 12) g 238 106 rfl
  have b7 := gi_b (lo := 0) (hi := 12) g 238 73 rfl
  have b8 := gi_b (lo := 0) (hi := 12) g 238 2 rfl
  have b9 := gi_b (lo := 0) (hi := 9999) g 238 119 rfl
  have b10 := gi_b (lo := 0) (hi := 9999) g 238 67 rfl
  have b11 := gi_b (lo := 0) (hi := 9) g 238 69 rfl
  have b12 := gi_b (lo := 0) (hi := 9) g 238 5 rfl
  refine wi_iconst (n := 0) (nx := 1) (r1 := 0) (r2 := 0) (r3 := 0) rfl ?_
  refine wi_istore_n (i := 2) (e := 0) (lo2 := [(2, vi 0), (0, .ref 236), (1, vi a0)]) (nx := 2) (r1 := 0) (r2 := 0) (r3 := 0) rfl rfl ?_
  refine wp.lo (lo := [(0, .ref 236), (1, vi a0), (2, vi 0)]) ⟨rfl, rfl, rfl, trivial⟩ rfl ?_
  refine wl_1 (fun x13 h14 => GI h14 ∧ FR [(236, 236, some (45, 45)), (238, 238, some (67, 67))] h h14 ∧ FR [(236, 236, some (45, 45)), (238, 238, some (67, 67))] h h14 ∧ ((0 ≤ x13 ∧ x13 ≤ 2147483647) ∧ ((h14 238 98) + (h14 238 99) + (h14 238 100) + (h14 238 101) + (h14 238 102) + (h14 238 106) = (h14 238 73)) ∧ ((h14 238 73) ≤ (h14 238 2)) ∧ ((h14 238 119) ≤ (h14 238 67)) ∧ ((h14 238 69) ≤ (h14 238 5)) ∧ ((h14 238 2) ≤ 12 * (h14 238 5)))) (fun x13 h14 => ((2147483647 : Int) + 1 - x13).toNat) (fun x13 h14 => (2, [(0, .ref 236), (1, vi a0), (2, vi x13)], [], hp_w h14 cr, b, c)) ?_ 0 h ⟨g, F0, FR.refl, (show (0 ≤ 0 ∧ 0 ≤ 2147483647) ∧ ((h 238 98) + (h 238 99) + (h 238 100) + (h 238 101) + (h 238 102) + (h 238 106) = (h 238 73)) ∧ ((h 238 73) ≤ (h 238 2)) ∧ ((h 238 119) ≤ (h 238 67)) ∧ ((h 238 69) ≤ (h 238 5)) ∧ ((h 238 2) ≤ 12 * (h 238 5)) by omega)⟩
  intro x13 h14 ⟨g14, F15, u14, f14⟩ I14
  have e16 : h14 238 98 = h 238 98 := (u14 238 98 rfl)
  have e17 : h14 238 99 = h 238 99 := (u14 238 99 rfl)
  have e18 : h14 238 100 = h 238 100 := (u14 238 100 rfl)
  have e19 : h14 238 101 = h 238 101 := (u14 238 101 rfl)
  have e20 : h14 238 102 = h 238 102 := (u14 238 102 rfl)
  have e21 : h14 238 106 = h 238 106 := (u14 238 106 rfl)
  have e22 : h14 238 73 = h 238 73 := (u14 238 73 rfl)
  have e23 : h14 238 2 = h 238 2 := (u14 238 2 rfl)
  have e24 : h14 238 119 = h 238 119 := (u14 238 119 rfl)
  have b25 := gi_b (lo := 0) (hi := 9999) g14 238 67 rfl
  have e26 : h14 238 69 = h 238 69 := (u14 238 69 rfl)
  have e27 : h14 238 5 = h 238 5 := (u14 238 5 rfl)
  refine wi_iload_n (i := 2) (e := x13) (nx := 3) (r1 := 0) (r2 := 0) (r3 := 0) rfl rfl ?_
  refine wi_iload_n (i := 1) (e := a0) (nx := 4) (r1 := 0) (r2 := 0) (r3 := 0) rfl rfl ?_
  refine wi_icmp (cd := .ge) (nx := 7) (r1 := 44) (r2 := 0) (r3 := 0) rfl (by omega) (by omega) (fun (q28 : a0 ≤ x13) => ?_) (fun (q28 : ¬ (a0 ≤ x13)) => ?_)
  ·
    refine wi_iconst (n := 1) (nx := 45) (r1 := 0) (r2 := 0) (r3 := 0) rfl ?_
    refine wi_zreturn (nx := 46) (r1 := 0) (r2 := 0) (r3 := 0) rfl rfl (by omega) ?_
    exact k h14 1 g14 F15 (by omega) (fun _ => by omega) (show (h14 238 98) + (h14 238 99) + (h14 238 100) + (h14 238 101) + (h14 238 102) + (h14 238 106) = (h14 238 73) by omega) (show (h14 238 73) ≤ (h14 238 2) by omega) (show (h14 238 119) ≤ (h14 238 67) by omega) (show (h14 238 69) ≤ (h14 238 5) by omega) (show (h14 238 2) ≤ 12 * (h14 238 5) by omega)
  ·
    refine wi_aload_n (i := 0) (x := 236) (nx := 8) (r1 := 0) (r2 := 0) (r3 := 0) rfl rfl ?_
    refine wr_gr (k0 := 236) (x := 238) (nx := 11) (r1 := 11) (r2 := 13) (r3 := 0) rfl rfl (by decide) rfl ⟨rfl, rfl⟩ rfl ?_
    refine wi_bipush (n := 67) (nx := 13) (r1 := 0) (r2 := 0) (r3 := 0) rfl (by decide) ?_
    refine wr_ia (k0 := 238) (a := 67) (f := 67) (x := h14 238 67) (nx := 14) (r1 := 0) (r2 := 0) (r3 := 0) rfl (by decide) rfl (by omega) (by omega) (by decide) rfl ?_
    refine wi_sipush (n := 9999) (nx := 17) (r1 := 0) (r2 := 0) (r3 := 0) rfl (by decide) ?_
    refine wi_icmp (cd := .ne) (nx := 20) (r1 := 22) (r2 := 0) (r3 := 0) rfl (by omega) (by omega) (fun (q29 : (h14 238 67) ≠ 9999) => ?_) (fun (q29 : ¬ ((h14 238 67) ≠ 9999)) => ?_)
    ·
      refine wi_aload_n (i := 0) (x := 236) (nx := 23) (r1 := 0) (r2 := 0) (r3 := 0) rfl rfl ?_
      refine wr_gr (k0 := 236) (x := 238) (nx := 26) (r1 := 11) (r2 := 13) (r3 := 0) rfl rfl (by decide) rfl ⟨rfl, rfl⟩ rfl ?_
      refine wi_bipush (n := 67) (nx := 28) (r1 := 0) (r2 := 0) (r3 := 0) rfl (by decide) ?_
      refine wi_dup2 (nx := 29) (r1 := 0) (r2 := 0) (r3 := 0) rfl rfl rfl ?_
      refine wr_ia (k0 := 238) (a := 67) (f := 67) (x := h14 238 67) (nx := 30) (r1 := 0) (r2 := 0) (r3 := 0) rfl (by decide) rfl (by omega) (by omega) (by decide) rfl ?_
      refine wi_iconst (n := 1) (nx := 31) (r1 := 0) (r2 := 0) (r3 := 0) rfl ?_
      refine wr_add (nx := 32) (r1 := 0) (r2 := 0) (r3 := 0) rfl (fun e30 (fe30 : e30 = (h14 238 67) + 1) => ?_)
      refine wr_is (k0 := 238) (a := 67) (f := 67) (x := e30) (bl := 0) (bh := 9999) (nx := 33) (r1 := 0) (r2 := 0) (r3 := 0) rfl (by decide) rfl (by omega) (by omega) (by decide) g14 rfl (by omega) (fun h31 g31 w31 u31 => ?_)
      have F32 := F15.then rfl u31
      have F33 := u14.then rfl u31
      refine wi_aload_n (i := 0) (x := 236) (nx := 34) (r1 := 0) (r2 := 0) (r3 := 0) rfl rfl ?_
      refine wi_iconst (n := 1) (nx := 35) (r1 := 0) (r2 := 0) (r3 := 0) rfl ?_
      refine wr_pf2 (k0 := 236) (x := 1) (bl := 0) (bh := 1) (nx := 38) (r1 := 11) (r2 := 45) (r3 := 2) rfl (by decide) rfl ⟨rfl, rfl⟩ rfl (by omega) rfl g31 rfl (by omega) (fun h34 g34 w34 u34 => ?_)
      have F35 := F32.then rfl u34
      have F36 := F33.then rfl u34
      refine wr_iinc (i := 2) (n := 1) (v := x13) (fun e37 => [(2, vi e37), (0, .ref 236), (1, vi a0)]) (nx := 41) (r1 := 0) (r2 := 0) (r3 := 0) rfl rfl (fun _ => rfl) (fun e37 (fe37 : e37 = x13 + 1) => ?_)
      refine wi_goto (nx := 44) (r1 := 2) (r2 := 0) (r3 := 0) rfl ?_
      have e38 : h34 238 98 = h 238 98 := ((u34 238 98 rfl).trans ((u31 238 98 rfl).trans (u14 238 98 rfl)))
      have e39 : h34 238 99 = h 238 99 := ((u34 238 99 rfl).trans ((u31 238 99 rfl).trans (u14 238 99 rfl)))
      have e40 : h34 238 100 = h 238 100 := ((u34 238 100 rfl).trans ((u31 238 100 rfl).trans (u14 238 100 rfl)))
      have e41 : h34 238 101 = h 238 101 := ((u34 238 101 rfl).trans ((u31 238 101 rfl).trans (u14 238 101 rfl)))
      have e42 : h34 238 102 = h 238 102 := ((u34 238 102 rfl).trans ((u31 238 102 rfl).trans (u14 238 102 rfl)))
      have e43 : h34 238 106 = h 238 106 := ((u34 238 106 rfl).trans ((u31 238 106 rfl).trans (u14 238 106 rfl)))
      have e44 : h34 238 73 = h 238 73 := ((u34 238 73 rfl).trans ((u31 238 73 rfl).trans (u14 238 73 rfl)))
      have e45 : h34 238 2 = h 238 2 := ((u34 238 2 rfl).trans ((u31 238 2 rfl).trans (u14 238 2 rfl)))
      have e46 : h34 238 119 = h 238 119 := ((u34 238 119 rfl).trans ((u31 238 119 rfl).trans (u14 238 119 rfl)))
      have e47 : h34 238 67 = e30 := ((u34 238 67 rfl).trans w31)
      have e48 : h34 238 69 = h 238 69 := ((u34 238 69 rfl).trans ((u31 238 69 rfl).trans (u14 238 69 rfl)))
      have e49 : h34 238 5 = h 238 5 := ((u34 238 5 rfl).trans ((u31 238 5 rfl).trans (u14 238 5 rfl)))
      refine wp.lo (lo := [(0, .ref 236), (1, vi a0), (2, vi e37)]) ⟨rfl, rfl, rfl, trivial⟩ rfl ?_
      exact I14 e37 h34 ⟨g34, F35, F36, (show (0 ≤ e37 ∧ e37 ≤ 2147483647) ∧ ((h34 238 98) + (h34 238 99) + (h34 238 100) + (h34 238 101) + (h34 238 102) + (h34 238 106) = (h34 238 73)) ∧ ((h34 238 73) ≤ (h34 238 2)) ∧ ((h34 238 119) ≤ (h34 238 67)) ∧ ((h34 238 69) ≤ (h34 238 5)) ∧ ((h34 238 2) ≤ 12 * (h34 238 5)) by omega)⟩ (show ((2147483647 : Int) + 1 - e37).toNat < ((2147483647 : Int) + 1 - x13).toNat by omega)
    ·
      refine wi_iconst (n := 0) (nx := 21) (r1 := 0) (r2 := 0) (r3 := 0) rfl ?_
      refine wi_zreturn (nx := 22) (r1 := 0) (r2 := 0) (r3 := 0) rfl rfl (by omega) ?_
      exact k h14 0 g14 F15 (by omega) (fun _ => by omega) (show (h14 238 98) + (h14 238 99) + (h14 238 100) + (h14 238 101) + (h14 238 102) + (h14 238 106) = (h14 238 73) by omega) (show (h14 238 73) ≤ (h14 238 2) by omega) (show (h14 238 119) ≤ (h14 238 67) by omega) (show (h14 238 69) ≤ (h14 238 5) by omega) (show (h14 238 2) ≤ 12 * (h14 238 5) by omega)
-- method 342: Model.walks(I)Z
set_option maxRecDepth 100000 in
set_option maxHeartbeats 100000000 in
theorem ct_342_236 {L : Nat} {xs : Nat → Int32} {d b c : Nat} {h : hp} {cr : Nat → Nat → Option Nat} {Q : hp_Q} (hcr : CR cr)  (g : GI h) (a0 : Int) (q0_ : -2147483648 ≤ a0 ∧ a0 ≤ 2147483647) (pp0 : h 238 98 + h 238 99 + h 238 100 + h 238 101 + h 238 102 + h 238 106 = h 238 73) (pp1 : h 238 73 ≤ h 238 2) (pp2 : h 238 119 ≤ h 238 67) (pp3 : h 238 69 ≤ h 238 5) (pp4 : h 238 2 ≤ 12 * h 238 5) (k : ∀ (h2 : hp) (z0 : Int) , GI h2 → FR [(236, 236, some (28, 28)), (236, 236, some (45, 45)), (238, 238, some (43, 54)), (238, 238, some (55, 66)), (238, 238, some (67, 67)), (238, 238, some (68, 68)), (238, 238, some (69, 69)), (238, 238, some (70, 70)), (238, 238, some (71, 71)), (238, 238, some (72, 72)), (238, 238, some (73, 73)), (238, 238, some (74, 79)), (238, 238, some (80, 85)), (238, 238, some (86, 91)), (238, 238, some (92, 97)), (238, 238, some (98, 98)), (238, 238, some (99, 99)), (238, 238, some (100, 100)), (238, 238, some (101, 101)), (238, 238, some (102, 102)), (238, 238, some (103, 105)), (238, 238, some (106, 106)), (238, 238, some (107, 118)), (238, 238, some (119, 119)), (238, 238, some (120, 196)), (238, 238, some (121, 197)), (238, 238, some (122, 198)), (238, 238, some (123, 199))] h h2 → (0 ≤ z0 ∧ z0 ≤ 1) → (z0 = 0 → 1 ≤ a0 ∧ a0 ≤ 2147483647) → (h2 238 98 + h2 238 99 + h2 238 100 + h2 238 101 + h2 238 102 + h2 238 106 = h2 238 73) → (h2 238 73 ≤ h2 238 2) → (h2 238 119 ≤ h2 238 67) → (h2 238 69 ≤ h2 238 5) → (h2 238 2 ≤ 12 * h2 238 5) → Q (.inl (some (vi z0))) (hp_w h2 cr) b c) : wp (md_xa (L, xs)) (d + 5) 342 (0, [(0, .ref 236), (1, vi a0)], [], hp_w h cr, b, c) Q := by
  have F0 : FR [(236, 236, some (28, 28)), (236, 236, some (45, 45)), (238, 238, some (43, 54)), (238, 238, some (55, 66)), (238, 238, some (67, 67)), (238, 238, some (68, 68)), (238, 238, some (69, 69)), (238, 238, some (70, 70)), (238, 238, some (71, 71)), (238, 238, some (72, 72)), (238, 238, some (73, 73)), (238, 238, some (74, 79)), (238, 238, some (80, 85)), (238, 238, some (86, 91)), (238, 238, some (92, 97)), (238, 238, some (98, 98)), (238, 238, some (99, 99)), (238, 238, some (100, 100)), (238, 238, some (101, 101)), (238, 238, some (102, 102)), (238, 238, some (103, 105)), (238, 238, some (106, 106)), (238, 238, some (107, 118)), (238, 238, some (119, 119)), (238, 238, some (120, 196)), (238, 238, some (121, 197)), (238, 238, some (122, 198)), (238, 238, some (123, 199))] h h := FR.refl
  have b1 := gi_b (lo := 0) (hi := 6) g 238 98 rfl
  have b2 := gi_b (lo := 0) (hi := 6) g 238 99 rfl
  have b3 := gi_b (lo := 0) (hi := 6) g 238 100 rfl
  have b4 := gi_b (lo := 0) (hi := 6) g 238 101 rfl
  have b5 := gi_b (lo := 0) (hi := 3) g 238 102 rfl
  have b6 := gi_b (lo := 0) (hi := 12) g 238 106 rfl
  have b7 := gi_b (lo := 0) (hi := 12) g 238 73 rfl
  have b8 := gi_b (lo := 0) (hi := 12) g 238 2 rfl
  have b9 := gi_b (lo := 0) (hi := 9999) g 238 119 rfl
  have b10 := gi_b (lo := 0) (hi := 9999) g 238 67 rfl
  have b11 := gi_b (lo := 0) (hi := 9) g 238 69 rfl
  have b12 := gi_b (lo := 0) (hi := 9) g 238 5 rfl
  refine wi_iconst (n := 0) (nx := 1) (r1 := 0) (r2 := 0) (r3 := 0) rfl ?_
  refine wi_istore_n (i := 2) (e := 0) (lo2 := [(2, vi 0), (0, .ref 236), (1, vi a0)]) (nx := 2) (r1 := 0) (r2 := 0) (r3 := 0) rfl rfl ?_
  refine wp.lo (lo := [(0, .ref 236), (1, vi a0), (2, vi 0)]) ⟨rfl, rfl, rfl, trivial⟩ rfl ?_
  refine wl_1 (fun x13 h14 => GI h14 ∧ FR [(236, 236, some (28, 28)), (236, 236, some (45, 45)), (238, 238, some (43, 54)), (238, 238, some (55, 66)), (238, 238, some (67, 67)), (238, 238, some (68, 68)), (238, 238, some (69, 69)), (238, 238, some (70, 70)), (238, 238, some (71, 71)), (238, 238, some (72, 72)), (238, 238, some (73, 73)), (238, 238, some (74, 79)), (238, 238, some (80, 85)), (238, 238, some (86, 91)), (238, 238, some (92, 97)), (238, 238, some (98, 98)), (238, 238, some (99, 99)), (238, 238, some (100, 100)), (238, 238, some (101, 101)), (238, 238, some (102, 102)), (238, 238, some (103, 105)), (238, 238, some (106, 106)), (238, 238, some (107, 118)), (238, 238, some (119, 119)), (238, 238, some (120, 196)), (238, 238, some (121, 197)), (238, 238, some (122, 198)), (238, 238, some (123, 199))] h h14 ∧ FR [(236, 236, some (28, 28)), (236, 236, some (45, 45)), (238, 238, some (43, 54)), (238, 238, some (55, 66)), (238, 238, some (67, 67)), (238, 238, some (68, 68)), (238, 238, some (69, 69)), (238, 238, some (70, 70)), (238, 238, some (71, 71)), (238, 238, some (72, 72)), (238, 238, some (73, 73)), (238, 238, some (74, 79)), (238, 238, some (80, 85)), (238, 238, some (86, 91)), (238, 238, some (92, 97)), (238, 238, some (98, 98)), (238, 238, some (99, 99)), (238, 238, some (100, 100)), (238, 238, some (101, 101)), (238, 238, some (102, 102)), (238, 238, some (103, 105)), (238, 238, some (106, 106)), (238, 238, some (107, 118)), (238, 238, some (119, 119)), (238, 238, some (120, 196)), (238, 238, some (121, 197)), (238, 238, some (122, 198)), (238, 238, some (123, 199))] h h14 ∧ ((0 ≤ x13 ∧ x13 ≤ 2147483647) ∧ ((h14 238 98) + (h14 238 99) + (h14 238 100) + (h14 238 101) + (h14 238 102) + (h14 238 106) = (h14 238 73)) ∧ ((h14 238 73) ≤ (h14 238 2)) ∧ ((h14 238 119) ≤ (h14 238 67)) ∧ ((h14 238 69) ≤ (h14 238 5)) ∧ ((h14 238 2) ≤ 12 * (h14 238 5)))) (fun x13 h14 => ((2147483647 : Int) + 1 - x13).toNat) (fun x13 h14 => (2, [(0, .ref 236), (1, vi a0), (2, vi x13)], [], hp_w h14 cr, b, c)) ?_ 0 h ⟨g, F0, FR.refl, (show (0 ≤ 0 ∧ 0 ≤ 2147483647) ∧ ((h 238 98) + (h 238 99) + (h 238 100) + (h 238 101) + (h 238 102) + (h 238 106) = (h 238 73)) ∧ ((h 238 73) ≤ (h 238 2)) ∧ ((h 238 119) ≤ (h 238 67)) ∧ ((h 238 69) ≤ (h 238 5)) ∧ ((h 238 2) ≤ 12 * (h 238 5)) by omega)⟩
  intro x13 h14 ⟨g14, F15, u14, f14⟩ I14
  have b16 := gi_b (lo := 0) (hi := 6) g14 238 98 rfl
  have b17 := gi_b (lo := 0) (hi := 6) g14 238 99 rfl
  have b18 := gi_b (lo := 0) (hi := 6) g14 238 100 rfl
  have b19 := gi_b (lo := 0) (hi := 6) g14 238 101 rfl
  have b20 := gi_b (lo := 0) (hi := 3) g14 238 102 rfl
  have b21 := gi_b (lo := 0) (hi := 12) g14 238 106 rfl
  have b22 := gi_b (lo := 0) (hi := 12) g14 238 73 rfl
  have e23 : h14 238 2 = h 238 2 := (u14 238 2 rfl)
  have b24 := gi_b (lo := 0) (hi := 9999) g14 238 119 rfl
  have b25 := gi_b (lo := 0) (hi := 9999) g14 238 67 rfl
  have b26 := gi_b (lo := 0) (hi := 9) g14 238 69 rfl
  have e27 : h14 238 5 = h 238 5 := (u14 238 5 rfl)
  refine wi_iload_n (i := 2) (e := x13) (nx := 3) (r1 := 0) (r2 := 0) (r3 := 0) rfl rfl ?_
  refine wi_iload_n (i := 1) (e := a0) (nx := 4) (r1 := 0) (r2 := 0) (r3 := 0) rfl rfl ?_
  refine wi_icmp (cd := .ge) (nx := 7) (r1 := 28) (r2 := 0) (r3 := 0) rfl (by omega) (by omega) (fun (q28 : a0 ≤ x13) => ?_) (fun (q28 : ¬ (a0 ≤ x13)) => ?_)
  ·
    refine wi_iconst (n := 1) (nx := 29) (r1 := 0) (r2 := 0) (r3 := 0) rfl ?_
    refine wi_zreturn (nx := 30) (r1 := 0) (r2 := 0) (r3 := 0) rfl rfl (by omega) ?_
    exact k h14 1 g14 F15 (by omega) (fun _ => by omega) (show (h14 238 98) + (h14 238 99) + (h14 238 100) + (h14 238 101) + (h14 238 102) + (h14 238 106) = (h14 238 73) by omega) (show (h14 238 73) ≤ (h14 238 2) by omega) (show (h14 238 119) ≤ (h14 238 67) by omega) (show (h14 238 69) ≤ (h14 238 5) by omega) (show (h14 238 2) ≤ 12 * (h14 238 5) by omega)
  ·
    refine wi_aload_n (i := 0) (x := 236) (nx := 8) (r1 := 0) (r2 := 0) (r3 := 0) rfl rfl ?_
    refine wr_V (k0 := 236) (rest := []) (as := [.ref 236]) (nx := 11) (r1 := 292) (r2 := 0) (r3 := 11) rfl rfl rfl (of_decide_eq_true rfl) rfl rfl (by decide) rfl rfl (of_decide_eq_true rfl) (of_decide_eq_true rfl) ?_
    refine ct_292_236 hcr  g14   (show (h14 238 98) + (h14 238 99) + (h14 238 100) + (h14 238 101) + (h14 238 102) + (h14 238 106) = (h14 238 73) by omega) (show (h14 238 73) ≤ (h14 238 2) by omega) (show (h14 238 119) ≤ (h14 238 67) by omega) (show (h14 238 69) ≤ (h14 238 5) by omega) (show (h14 238 2) ≤ 12 * (h14 238 5) by omega) (fun h29 z30 g29 u29 (fz30 : -1 ≤ z30 ∧ z30 ≤ 3) (p29_0 : (h29 238 98) + (h29 238 99) + (h29 238 100) + (h29 238 101) + (h29 238 102) + (h29 238 106) = (h29 238 73)) (p29_1 : (h29 238 73) ≤ (h29 238 2)) (p29_2 : (h29 238 119) ≤ (h29 238 67)) (p29_3 : (h29 238 69) ≤ (h29 238 5)) (p29_4 : (h29 238 2) ≤ 12 * (h29 238 5)) => ?_)
    have F31 := F15.then (by decide +kernel) u29
    have F32 := u14.then (by decide +kernel) u29
    have b33 := gi_b (lo := 0) (hi := 6) g29 238 98 rfl
    have b34 := gi_b (lo := 0) (hi := 6) g29 238 99 rfl
    have b35 := gi_b (lo := 0) (hi := 6) g29 238 100 rfl
    have b36 := gi_b (lo := 0) (hi := 6) g29 238 101 rfl
    have b37 := gi_b (lo := 0) (hi := 3) g29 238 102 rfl
    have b38 := gi_b (lo := 0) (hi := 12) g29 238 106 rfl
    have b39 := gi_b (lo := 0) (hi := 12) g29 238 73 rfl
    have e40 : h29 238 2 = h 238 2 := ((u29 238 2 rfl).trans (u14 238 2 rfl))
    have b41 := gi_b (lo := 0) (hi := 9999) g29 238 119 rfl
    have b42 := gi_b (lo := 0) (hi := 9999) g29 238 67 rfl
    have b43 := gi_b (lo := 0) (hi := 9) g29 238 69 rfl
    have e44 : h29 238 5 = h 238 5 := ((u29 238 5 rfl).trans (u14 238 5 rfl))
    refine wk_i ?_
    refine wi_iconst (n := (-1)) (nx := 12) (r1 := 0) (r2 := 0) (r3 := 0) rfl ?_
    refine wi_icmp (cd := .ne) (nx := 15) (r1 := 17) (r2 := 0) (r3 := 0) rfl (by omega) (by omega) (fun (q45 : z30 ≠ (-1)) => ?_) (fun (q45 : ¬ (z30 ≠ (-1))) => ?_)
    ·
      refine wi_aload_n (i := 0) (x := 236) (nx := 18) (r1 := 0) (r2 := 0) (r3 := 0) rfl rfl ?_
      refine wi_iconst (n := 1) (nx := 19) (r1 := 0) (r2 := 0) (r3 := 0) rfl ?_
      refine wr_pf2 (k0 := 236) (x := 1) (bl := 0) (bh := 1) (nx := 22) (r1 := 11) (r2 := 45) (r3 := 2) rfl (by decide) rfl ⟨rfl, rfl⟩ rfl (by omega) rfl g29 rfl (by omega) (fun h46 g46 w46 u46 => ?_)
      have F47 := F31.then rfl u46
      have F48 := F32.then rfl u46
      refine wr_iinc (i := 2) (n := 1) (v := x13) (fun e49 => [(2, vi e49), (0, .ref 236), (1, vi a0)]) (nx := 25) (r1 := 0) (r2 := 0) (r3 := 0) rfl rfl (fun _ => rfl) (fun e49 (fe49 : e49 = x13 + 1) => ?_)
      refine wi_goto (nx := 28) (r1 := 2) (r2 := 0) (r3 := 0) rfl ?_
      have e50 : h46 238 98 = h29 238 98 := (u46 238 98 rfl)
      have e51 : h46 238 99 = h29 238 99 := (u46 238 99 rfl)
      have e52 : h46 238 100 = h29 238 100 := (u46 238 100 rfl)
      have e53 : h46 238 101 = h29 238 101 := (u46 238 101 rfl)
      have e54 : h46 238 102 = h29 238 102 := (u46 238 102 rfl)
      have e55 : h46 238 106 = h29 238 106 := (u46 238 106 rfl)
      have e56 : h46 238 73 = h29 238 73 := (u46 238 73 rfl)
      have e57 : h46 238 2 = h 238 2 := ((u46 238 2 rfl).trans ((u29 238 2 rfl).trans (u14 238 2 rfl)))
      have e58 : h46 238 119 = h29 238 119 := (u46 238 119 rfl)
      have e59 : h46 238 67 = h29 238 67 := (u46 238 67 rfl)
      have e60 : h46 238 69 = h29 238 69 := (u46 238 69 rfl)
      have e61 : h46 238 5 = h 238 5 := ((u46 238 5 rfl).trans ((u29 238 5 rfl).trans (u14 238 5 rfl)))
      refine wp.lo (lo := [(0, .ref 236), (1, vi a0), (2, vi e49)]) ⟨rfl, rfl, rfl, trivial⟩ rfl ?_
      exact I14 e49 h46 ⟨g46, F47, F48, (show (0 ≤ e49 ∧ e49 ≤ 2147483647) ∧ ((h46 238 98) + (h46 238 99) + (h46 238 100) + (h46 238 101) + (h46 238 102) + (h46 238 106) = (h46 238 73)) ∧ ((h46 238 73) ≤ (h46 238 2)) ∧ ((h46 238 119) ≤ (h46 238 67)) ∧ ((h46 238 69) ≤ (h46 238 5)) ∧ ((h46 238 2) ≤ 12 * (h46 238 5)) by omega)⟩ (show ((2147483647 : Int) + 1 - e49).toNat < ((2147483647 : Int) + 1 - x13).toNat by omega)
    ·
      refine wi_iconst (n := 0) (nx := 16) (r1 := 0) (r2 := 0) (r3 := 0) rfl ?_
      refine wi_zreturn (nx := 17) (r1 := 0) (r2 := 0) (r3 := 0) rfl rfl (by omega) ?_
      exact k h29 0 g29 F31 (by omega) (fun _ => by omega) (show (h29 238 98) + (h29 238 99) + (h29 238 100) + (h29 238 101) + (h29 238 102) + (h29 238 106) = (h29 238 73) by omega) (show (h29 238 73) ≤ (h29 238 2) by omega) (show (h29 238 119) ≤ (h29 238 67) by omega) (show (h29 238 69) ≤ (h29 238 5) by omega) (show (h29 238 2) ≤ 12 * (h29 238 5) by omega)
-- method 300: Model.inLanes()I
set_option maxRecDepth 100000 in
set_option maxHeartbeats 100000000 in
theorem ct_300_236 {L : Nat} {xs : Nat → Int32} {d b c : Nat} {h : hp} {cr : Nat → Nat → Option Nat} {Q : hp_Q} (hcr : CR cr)  (g : GI h)   (pp0 : h 238 98 + h 238 99 + h 238 100 + h 238 101 + h 238 102 + h 238 106 = h 238 73) (pp1 : h 238 73 ≤ h 238 2) (pp2 : h 238 119 ≤ h 238 67) (pp3 : h 238 69 ≤ h 238 5) (pp4 : h 238 2 ≤ 12 * h 238 5) (k : ∀ (z0 : Int), (0 ≤ z0 ∧ z0 ≤ 24) → (z0 = h 238 98 + h 238 99 + h 238 100 + h 238 101) → Q (.inl (some (vi z0))) (hp_w h cr) b c) : wp (md_xa (L, xs)) d 300 (0, [(0, .ref 236)], [], hp_w h cr, b, c) Q := by
  have F0 : FR [] h h := FR.refl
  have b1 := gi_b (lo := 0) (hi := 6) g 238 98 rfl
  have b2 := gi_b (lo := 0) (hi := 6) g 238 99 rfl
  have b3 := gi_b (lo := 0) (hi := 6) g 238 100 rfl
  have b4 := gi_b (lo := 0) (hi := 6) g 238 101 rfl
  have b5 := gi_b (lo := 0) (hi := 3) g 238 102 rfl
  have b6 := gi_b (lo := 0) (hi := 12) g 238 106 rfl
  have b7 := gi_b (lo := 0) (hi := 12) g 238 73 rfl
  have b8 := gi_b (lo := 0) (hi := 12) g 238 2 rfl
  have b9 := gi_b (lo := 0) (hi := 9999) g 238 119 rfl
  have b10 := gi_b (lo := 0) (hi := 9999) g 238 67 rfl
  have b11 := gi_b (lo := 0) (hi := 9) g 238 69 rfl
  have b12 := gi_b (lo := 0) (hi := 9) g 238 5 rfl
  refine wi_aload_n (i := 0) (x := 236) (nx := 1) (r1 := 0) (r2 := 0) (r3 := 0) rfl rfl ?_
  refine wr_gr (k0 := 236) (x := 238) (nx := 4) (r1 := 11) (r2 := 13) (r3 := 0) rfl rfl (by decide) rfl ⟨rfl, rfl⟩ rfl ?_
  refine wi_bipush (n := 98) (nx := 6) (r1 := 0) (r2 := 0) (r3 := 0) rfl (by decide) ?_
  refine wr_ia (k0 := 238) (a := 98) (f := 98) (x := h 238 98) (nx := 7) (r1 := 0) (r2 := 0) (r3 := 0) rfl (by decide) rfl (by omega) (by omega) (by decide) rfl ?_
  refine wi_aload_n (i := 0) (x := 236) (nx := 8) (r1 := 0) (r2 := 0) (r3 := 0) rfl rfl ?_
  refine wr_gr (k0 := 236) (x := 238) (nx := 11) (r1 := 11) (r2 := 13) (r3 := 0) rfl rfl (by decide) rfl ⟨rfl, rfl⟩ rfl ?_
  refine wi_bipush (n := 99) (nx := 13) (r1 := 0) (r2 := 0) (r3 := 0) rfl (by decide) ?_
  refine wr_ia (k0 := 238) (a := 99) (f := 99) (x := h 238 99) (nx := 14) (r1 := 0) (r2 := 0) (r3 := 0) rfl (by decide) rfl (by omega) (by omega) (by decide) rfl ?_
  refine wr_add (nx := 15) (r1 := 0) (r2 := 0) (r3 := 0) rfl (fun e13 (fe13 : e13 = (h 238 98) + (h 238 99)) => ?_)
  refine wi_aload_n (i := 0) (x := 236) (nx := 16) (r1 := 0) (r2 := 0) (r3 := 0) rfl rfl ?_
  refine wr_gr (k0 := 236) (x := 238) (nx := 19) (r1 := 11) (r2 := 13) (r3 := 0) rfl rfl (by decide) rfl ⟨rfl, rfl⟩ rfl ?_
  refine wi_bipush (n := 100) (nx := 21) (r1 := 0) (r2 := 0) (r3 := 0) rfl (by decide) ?_
  refine wr_ia (k0 := 238) (a := 100) (f := 100) (x := h 238 100) (nx := 22) (r1 := 0) (r2 := 0) (r3 := 0) rfl (by decide) rfl (by omega) (by omega) (by decide) rfl ?_
  refine wr_add (nx := 23) (r1 := 0) (r2 := 0) (r3 := 0) rfl (fun e14 (fe14 : e14 = e13 + (h 238 100)) => ?_)
  refine wi_aload_n (i := 0) (x := 236) (nx := 24) (r1 := 0) (r2 := 0) (r3 := 0) rfl rfl ?_
  refine wr_gr (k0 := 236) (x := 238) (nx := 27) (r1 := 11) (r2 := 13) (r3 := 0) rfl rfl (by decide) rfl ⟨rfl, rfl⟩ rfl ?_
  refine wi_bipush (n := 101) (nx := 29) (r1 := 0) (r2 := 0) (r3 := 0) rfl (by decide) ?_
  refine wr_ia (k0 := 238) (a := 101) (f := 101) (x := h 238 101) (nx := 30) (r1 := 0) (r2 := 0) (r3 := 0) rfl (by decide) rfl (by omega) (by omega) (by decide) rfl ?_
  refine wr_add (nx := 31) (r1 := 0) (r2 := 0) (r3 := 0) rfl (fun e15 (fe15 : e15 = e14 + (h 238 101)) => ?_)
  refine wi_ireturn (nx := 32) (r1 := 0) (r2 := 0) (r3 := 0) rfl rfl ?_
  exact k e15 (by omega) (show e15 = (h 238 98) + (h 238 99) + (h 238 100) + (h 238 101) by omega)
-- method 301: Model.unpacks(I)V
set_option maxRecDepth 100000 in
set_option maxHeartbeats 100000000 in
theorem ct_301_236 {L : Nat} {xs : Nat → Int32} {d b c : Nat} {h : hp} {cr : Nat → Nat → Option Nat} {Q : hp_Q} (hcr : CR cr)  (g : GI h) (a0 : Int) (q0_ : 0 ≤ a0 ∧ a0 ≤ 2400)  (k : ∀ (h2 : hp) , GI h2 → FR [(247, 247, some (0, 0)), (247, 247, some (1, 1)), (247, 247, some (2, 2)), (247, 247, some (3, 3))] h h2 → (∀ pp : Nat, (pp : Int) = a0 → ∀ l : Nat, l < 4 → h2 247 l = TQ pp l) → Q (.inl none) (hp_w h2 cr) b c) : wp (md_xa (L, xs)) d 301 (0, [(0, .ref 236), (1, vi a0)], [], hp_w h cr, b, c) Q := by
  have F0 : FR [(247, 247, some (0, 0)), (247, 247, some (1, 1)), (247, 247, some (2, 2)), (247, 247, some (3, 3))] h h := FR.refl
  refine wi_aload_n (i := 0) (x := 236) (nx := 1) (r1 := 0) (r2 := 0) (r3 := 0) rfl rfl ?_
  refine wr_gr (k0 := 236) (x := 247) (nx := 4) (r1 := 11) (r2 := 30) (r3 := 0) rfl rfl (by decide) rfl ⟨rfl, rfl⟩ rfl ?_
  refine wi_iconst (n := 0) (nx := 5) (r1 := 0) (r2 := 0) (r3 := 0) rfl ?_
  refine wi_iload_n (i := 1) (e := a0) (nx := 6) (r1 := 0) (r2 := 0) (r3 := 0) rfl rfl ?_
  refine wi_sipush (n := 343) (nx := 9) (r1 := 0) (r2 := 0) (r3 := 0) rfl (by decide) ?_
  refine wr_idivC (nx := 10) (r1 := 0) (r2 := 0) (r3 := 0) rfl (by omega) (by decide) (fun e1 (fe1 : e1 = a0 / 343) => ?_)
  refine wr_is (k0 := 247) (a := 0) (f := 0) (x := e1) (bl := 0) (bh := 6) (nx := 11) (r1 := 0) (r2 := 0) (r3 := 0) rfl (by decide) rfl (by omega) (by omega) (by decide) g rfl (by omega) (fun h2 g2 w2 u2 => ?_)
  have F3 := F0.then rfl u2
  refine wi_aload_n (i := 0) (x := 236) (nx := 12) (r1 := 0) (r2 := 0) (r3 := 0) rfl rfl ?_
  refine wr_gr (k0 := 236) (x := 247) (nx := 15) (r1 := 11) (r2 := 30) (r3 := 0) rfl rfl (by decide) rfl ⟨rfl, rfl⟩ rfl ?_
  refine wi_iconst (n := 1) (nx := 16) (r1 := 0) (r2 := 0) (r3 := 0) rfl ?_
  refine wi_iload_n (i := 1) (e := a0) (nx := 17) (r1 := 0) (r2 := 0) (r3 := 0) rfl rfl ?_
  refine wi_bipush (n := 49) (nx := 19) (r1 := 0) (r2 := 0) (r3 := 0) rfl (by decide) ?_
  refine wr_idivC (nx := 20) (r1 := 0) (r2 := 0) (r3 := 0) rfl (by omega) (by decide) (fun e4 (fe4 : e4 = a0 / 49) => ?_)
  refine wi_bipush (n := 7) (nx := 22) (r1 := 0) (r2 := 0) (r3 := 0) rfl (by decide) ?_
  refine wr_iremC (nx := 23) (r1 := 0) (r2 := 0) (r3 := 0) rfl (by omega) (by decide) (fun e5 (fe5 : e5 = e4 % 7) => ?_)
  refine wr_is (k0 := 247) (a := 1) (f := 1) (x := e5) (bl := 0) (bh := 6) (nx := 24) (r1 := 0) (r2 := 0) (r3 := 0) rfl (by decide) rfl (by omega) (by omega) (by decide) g2 rfl (by omega) (fun h6 g6 w6 u6 => ?_)
  have F7 := F3.then rfl u6
  refine wi_aload_n (i := 0) (x := 236) (nx := 25) (r1 := 0) (r2 := 0) (r3 := 0) rfl rfl ?_
  refine wr_gr (k0 := 236) (x := 247) (nx := 28) (r1 := 11) (r2 := 30) (r3 := 0) rfl rfl (by decide) rfl ⟨rfl, rfl⟩ rfl ?_
  refine wi_iconst (n := 2) (nx := 29) (r1 := 0) (r2 := 0) (r3 := 0) rfl ?_
  refine wi_iload_n (i := 1) (e := a0) (nx := 30) (r1 := 0) (r2 := 0) (r3 := 0) rfl rfl ?_
  refine wi_bipush (n := 7) (nx := 32) (r1 := 0) (r2 := 0) (r3 := 0) rfl (by decide) ?_
  refine wr_idivC (nx := 33) (r1 := 0) (r2 := 0) (r3 := 0) rfl (by omega) (by decide) (fun e8 (fe8 : e8 = a0 / 7) => ?_)
  refine wi_bipush (n := 7) (nx := 35) (r1 := 0) (r2 := 0) (r3 := 0) rfl (by decide) ?_
  refine wr_iremC (nx := 36) (r1 := 0) (r2 := 0) (r3 := 0) rfl (by omega) (by decide) (fun e9 (fe9 : e9 = e8 % 7) => ?_)
  refine wr_is (k0 := 247) (a := 2) (f := 2) (x := e9) (bl := 0) (bh := 6) (nx := 37) (r1 := 0) (r2 := 0) (r3 := 0) rfl (by decide) rfl (by omega) (by omega) (by decide) g6 rfl (by omega) (fun h10 g10 w10 u10 => ?_)
  have F11 := F7.then rfl u10
  refine wi_aload_n (i := 0) (x := 236) (nx := 38) (r1 := 0) (r2 := 0) (r3 := 0) rfl rfl ?_
  refine wr_gr (k0 := 236) (x := 247) (nx := 41) (r1 := 11) (r2 := 30) (r3 := 0) rfl rfl (by decide) rfl ⟨rfl, rfl⟩ rfl ?_
  refine wi_iconst (n := 3) (nx := 42) (r1 := 0) (r2 := 0) (r3 := 0) rfl ?_
  refine wi_iload_n (i := 1) (e := a0) (nx := 43) (r1 := 0) (r2 := 0) (r3 := 0) rfl rfl ?_
  refine wi_bipush (n := 7) (nx := 45) (r1 := 0) (r2 := 0) (r3 := 0) rfl (by decide) ?_
  refine wr_iremC (nx := 46) (r1 := 0) (r2 := 0) (r3 := 0) rfl (by omega) (by decide) (fun e12 (fe12 : e12 = a0 % 7) => ?_)
  refine wr_is (k0 := 247) (a := 3) (f := 3) (x := e12) (bl := 0) (bh := 6) (nx := 47) (r1 := 0) (r2 := 0) (r3 := 0) rfl (by decide) rfl (by omega) (by omega) (by decide) g10 rfl (by omega) (fun h13 g13 w13 u13 => ?_)
  have F14 := F11.then rfl u13
  refine wi_return (nx := 48) (r1 := 0) (r2 := 0) (r3 := 0) rfl rfl ?_
  have e15 : h13 247 0 = e1 := ((u13 247 0 rfl).trans ((u10 247 0 rfl).trans ((u6 247 0 rfl).trans w2)))
  have e16 : h13 247 1 = e5 := ((u13 247 1 rfl).trans ((u10 247 1 rfl).trans w6))
  have e17 : h13 247 2 = e9 := ((u13 247 2 rfl).trans w10)
  have e18 : h13 247 3 = e12 := w13
  exact k h13 g13 F14 (fun pp e l hl => by
        have hl2 : l = 0 ∨ l = 1 ∨ l = 2 ∨ l = 3 := by omega
        rcases hl2 with rfl | rfl | rfl | rfl <;> simp only [TQ, dg] <;> simp <;> omega)
-- method 302: Model.isWithin()Z
set_option maxRecDepth 100000 in
set_option maxHeartbeats 100000000 in
theorem ct_302_236 {L : Nat} {xs : Nat → Int32} {d b c : Nat} {h : hp} {cr : Nat → Nat → Option Nat} {Q : hp_Q} (hcr : CR cr)  (g : GI h)    (k : ∀ (z0 : Int), (0 ≤ z0 ∧ z0 ≤ 1) → (iwP (h 238) (h 247) z0) → Q (.inl (some (vi z0))) (hp_w h cr) b c) : wp (md_xa (L, xs)) d 302 (0, [(0, .ref 236)], [], hp_w h cr, b, c) Q := by
  have F0 : FR [] h h := FR.refl
  refine wi_iconst (n := 0) (nx := 1) (r1 := 0) (r2 := 0) (r3 := 0) rfl ?_
  refine wi_istore_n (i := 1) (e := 0) (lo2 := [(1, vi 0), (0, .ref 236)]) (nx := 2) (r1 := 0) (r2 := 0) (r3 := 0) rfl rfl ?_
  refine wi_iload_n (i := 1) (e := 0) (nx := 3) (r1 := 0) (r2 := 0) (r3 := 0) rfl rfl ?_
  refine wi_iconst (n := 4) (nx := 4) (r1 := 0) (r2 := 0) (r3 := 0) rfl ?_
  refine wi_icmp (cd := .ge) (nx := 7) (r1 := 33) (r2 := 0) (r3 := 0) rfl (by omega) (by omega) (fun (q1 : 4 ≤ 0) => by exfalso; omega) (fun (q1 : ¬ (4 ≤ 0)) => ?_)
  refine wi_aload_n (i := 0) (x := 236) (nx := 8) (r1 := 0) (r2 := 0) (r3 := 0) rfl rfl ?_
  refine wr_gr (k0 := 236) (x := 247) (nx := 11) (r1 := 11) (r2 := 30) (r3 := 0) rfl rfl (by decide) rfl ⟨rfl, rfl⟩ rfl ?_
  refine wi_iload_n (i := 1) (e := 0) (nx := 12) (r1 := 0) (r2 := 0) (r3 := 0) rfl rfl ?_
  have b2 := gi_b (lo := 0) (hi := 6) g 247 0 rfl
  refine wr_ia (k0 := 247) (a := 0) (f := 0) (x := h 247 0) (nx := 13) (r1 := 0) (r2 := 0) (r3 := 0) rfl (by decide) rfl (by omega) (by omega) (by decide) rfl ?_
  refine wi_aload_n (i := 0) (x := 236) (nx := 14) (r1 := 0) (r2 := 0) (r3 := 0) rfl rfl ?_
  refine wr_gr (k0 := 236) (x := 238) (nx := 17) (r1 := 11) (r2 := 13) (r3 := 0) rfl rfl (by decide) rfl ⟨rfl, rfl⟩ rfl ?_
  refine wi_bipush (n := 98) (nx := 19) (r1 := 0) (r2 := 0) (r3 := 0) rfl (by decide) ?_
  refine wi_iload_n (i := 1) (e := 0) (nx := 20) (r1 := 0) (r2 := 0) (r3 := 0) rfl rfl ?_
  refine wr_addL (98) (nx := 21) (r1 := 0) (r2 := 0) (r3 := 0) rfl (by decide) ?_
  have b3 := gi_b (lo := 0) (hi := 6) g 238 98 rfl
  refine wr_ia (k0 := 238) (a := 98) (f := 98) (x := h 238 98) (nx := 22) (r1 := 0) (r2 := 0) (r3 := 0) rfl (by decide) rfl (by omega) (by omega) (by decide) rfl ?_
  refine wi_icmp (cd := .le) (nx := 25) (r1 := 27) (r2 := 0) (r3 := 0) rfl (by omega) (by omega) (fun (q4 : (h 247 0) ≤ (h 238 98)) => ?_) (fun (q4 : ¬ ((h 247 0) ≤ (h 238 98))) => ?_)
  ·
    refine wr_iincL (i := 1) (n := 1) (v := 0) (1) ([(1, vi 1), (0, .ref 236)]) (nx := 30) (r1 := 0) (r2 := 0) (r3 := 0) rfl rfl (by decide) rfl ?_
    refine wi_goto (nx := 33) (r1 := 2) (r2 := 0) (r3 := 0) rfl ?_
    refine wi_iload_n (i := 1) (e := 1) (nx := 3) (r1 := 0) (r2 := 0) (r3 := 0) rfl rfl ?_
    refine wi_iconst (n := 4) (nx := 4) (r1 := 0) (r2 := 0) (r3 := 0) rfl ?_
    refine wi_icmp (cd := .ge) (nx := 7) (r1 := 33) (r2 := 0) (r3 := 0) rfl (by omega) (by omega) (fun (q5 : 4 ≤ 1) => by exfalso; omega) (fun (q5 : ¬ (4 ≤ 1)) => ?_)
    refine wi_aload_n (i := 0) (x := 236) (nx := 8) (r1 := 0) (r2 := 0) (r3 := 0) rfl rfl ?_
    refine wr_gr (k0 := 236) (x := 247) (nx := 11) (r1 := 11) (r2 := 30) (r3 := 0) rfl rfl (by decide) rfl ⟨rfl, rfl⟩ rfl ?_
    refine wi_iload_n (i := 1) (e := 1) (nx := 12) (r1 := 0) (r2 := 0) (r3 := 0) rfl rfl ?_
    have b6 := gi_b (lo := 0) (hi := 6) g 247 1 rfl
    refine wr_ia (k0 := 247) (a := 1) (f := 1) (x := h 247 1) (nx := 13) (r1 := 0) (r2 := 0) (r3 := 0) rfl (by decide) rfl (by omega) (by omega) (by decide) rfl ?_
    refine wi_aload_n (i := 0) (x := 236) (nx := 14) (r1 := 0) (r2 := 0) (r3 := 0) rfl rfl ?_
    refine wr_gr (k0 := 236) (x := 238) (nx := 17) (r1 := 11) (r2 := 13) (r3 := 0) rfl rfl (by decide) rfl ⟨rfl, rfl⟩ rfl ?_
    refine wi_bipush (n := 98) (nx := 19) (r1 := 0) (r2 := 0) (r3 := 0) rfl (by decide) ?_
    refine wi_iload_n (i := 1) (e := 1) (nx := 20) (r1 := 0) (r2 := 0) (r3 := 0) rfl rfl ?_
    refine wr_addL (99) (nx := 21) (r1 := 0) (r2 := 0) (r3 := 0) rfl (by decide) ?_
    have b7 := gi_b (lo := 0) (hi := 6) g 238 99 rfl
    refine wr_ia (k0 := 238) (a := 99) (f := 99) (x := h 238 99) (nx := 22) (r1 := 0) (r2 := 0) (r3 := 0) rfl (by decide) rfl (by omega) (by omega) (by decide) rfl ?_
    refine wi_icmp (cd := .le) (nx := 25) (r1 := 27) (r2 := 0) (r3 := 0) rfl (by omega) (by omega) (fun (q8 : (h 247 1) ≤ (h 238 99)) => ?_) (fun (q8 : ¬ ((h 247 1) ≤ (h 238 99))) => ?_)
    ·
      refine wr_iincL (i := 1) (n := 1) (v := 1) (2) ([(1, vi 2), (0, .ref 236)]) (nx := 30) (r1 := 0) (r2 := 0) (r3 := 0) rfl rfl (by decide) rfl ?_
      refine wi_goto (nx := 33) (r1 := 2) (r2 := 0) (r3 := 0) rfl ?_
      refine wi_iload_n (i := 1) (e := 2) (nx := 3) (r1 := 0) (r2 := 0) (r3 := 0) rfl rfl ?_
      refine wi_iconst (n := 4) (nx := 4) (r1 := 0) (r2 := 0) (r3 := 0) rfl ?_
      refine wi_icmp (cd := .ge) (nx := 7) (r1 := 33) (r2 := 0) (r3 := 0) rfl (by omega) (by omega) (fun (q9 : 4 ≤ 2) => by exfalso; omega) (fun (q9 : ¬ (4 ≤ 2)) => ?_)
      refine wi_aload_n (i := 0) (x := 236) (nx := 8) (r1 := 0) (r2 := 0) (r3 := 0) rfl rfl ?_
      refine wr_gr (k0 := 236) (x := 247) (nx := 11) (r1 := 11) (r2 := 30) (r3 := 0) rfl rfl (by decide) rfl ⟨rfl, rfl⟩ rfl ?_
      refine wi_iload_n (i := 1) (e := 2) (nx := 12) (r1 := 0) (r2 := 0) (r3 := 0) rfl rfl ?_
      have b10 := gi_b (lo := 0) (hi := 6) g 247 2 rfl
      refine wr_ia (k0 := 247) (a := 2) (f := 2) (x := h 247 2) (nx := 13) (r1 := 0) (r2 := 0) (r3 := 0) rfl (by decide) rfl (by omega) (by omega) (by decide) rfl ?_
      refine wi_aload_n (i := 0) (x := 236) (nx := 14) (r1 := 0) (r2 := 0) (r3 := 0) rfl rfl ?_
      refine wr_gr (k0 := 236) (x := 238) (nx := 17) (r1 := 11) (r2 := 13) (r3 := 0) rfl rfl (by decide) rfl ⟨rfl, rfl⟩ rfl ?_
      refine wi_bipush (n := 98) (nx := 19) (r1 := 0) (r2 := 0) (r3 := 0) rfl (by decide) ?_
      refine wi_iload_n (i := 1) (e := 2) (nx := 20) (r1 := 0) (r2 := 0) (r3 := 0) rfl rfl ?_
      refine wr_addL (100) (nx := 21) (r1 := 0) (r2 := 0) (r3 := 0) rfl (by decide) ?_
      have b11 := gi_b (lo := 0) (hi := 6) g 238 100 rfl
      refine wr_ia (k0 := 238) (a := 100) (f := 100) (x := h 238 100) (nx := 22) (r1 := 0) (r2 := 0) (r3 := 0) rfl (by decide) rfl (by omega) (by omega) (by decide) rfl ?_
      refine wi_icmp (cd := .le) (nx := 25) (r1 := 27) (r2 := 0) (r3 := 0) rfl (by omega) (by omega) (fun (q12 : (h 247 2) ≤ (h 238 100)) => ?_) (fun (q12 : ¬ ((h 247 2) ≤ (h 238 100))) => ?_)
      ·
        refine wr_iincL (i := 1) (n := 1) (v := 2) (3) ([(1, vi 3), (0, .ref 236)]) (nx := 30) (r1 := 0) (r2 := 0) (r3 := 0) rfl rfl (by decide) rfl ?_
        refine wi_goto (nx := 33) (r1 := 2) (r2 := 0) (r3 := 0) rfl ?_
        refine wi_iload_n (i := 1) (e := 3) (nx := 3) (r1 := 0) (r2 := 0) (r3 := 0) rfl rfl ?_
        refine wi_iconst (n := 4) (nx := 4) (r1 := 0) (r2 := 0) (r3 := 0) rfl ?_
        refine wi_icmp (cd := .ge) (nx := 7) (r1 := 33) (r2 := 0) (r3 := 0) rfl (by omega) (by omega) (fun (q13 : 4 ≤ 3) => by exfalso; omega) (fun (q13 : ¬ (4 ≤ 3)) => ?_)
        refine wi_aload_n (i := 0) (x := 236) (nx := 8) (r1 := 0) (r2 := 0) (r3 := 0) rfl rfl ?_
        refine wr_gr (k0 := 236) (x := 247) (nx := 11) (r1 := 11) (r2 := 30) (r3 := 0) rfl rfl (by decide) rfl ⟨rfl, rfl⟩ rfl ?_
        refine wi_iload_n (i := 1) (e := 3) (nx := 12) (r1 := 0) (r2 := 0) (r3 := 0) rfl rfl ?_
        have b14 := gi_b (lo := 0) (hi := 6) g 247 3 rfl
        refine wr_ia (k0 := 247) (a := 3) (f := 3) (x := h 247 3) (nx := 13) (r1 := 0) (r2 := 0) (r3 := 0) rfl (by decide) rfl (by omega) (by omega) (by decide) rfl ?_
        refine wi_aload_n (i := 0) (x := 236) (nx := 14) (r1 := 0) (r2 := 0) (r3 := 0) rfl rfl ?_
        refine wr_gr (k0 := 236) (x := 238) (nx := 17) (r1 := 11) (r2 := 13) (r3 := 0) rfl rfl (by decide) rfl ⟨rfl, rfl⟩ rfl ?_
        refine wi_bipush (n := 98) (nx := 19) (r1 := 0) (r2 := 0) (r3 := 0) rfl (by decide) ?_
        refine wi_iload_n (i := 1) (e := 3) (nx := 20) (r1 := 0) (r2 := 0) (r3 := 0) rfl rfl ?_
        refine wr_addL (101) (nx := 21) (r1 := 0) (r2 := 0) (r3 := 0) rfl (by decide) ?_
        have b15 := gi_b (lo := 0) (hi := 6) g 238 101 rfl
        refine wr_ia (k0 := 238) (a := 101) (f := 101) (x := h 238 101) (nx := 22) (r1 := 0) (r2 := 0) (r3 := 0) rfl (by decide) rfl (by omega) (by omega) (by decide) rfl ?_
        refine wi_icmp (cd := .le) (nx := 25) (r1 := 27) (r2 := 0) (r3 := 0) rfl (by omega) (by omega) (fun (q16 : (h 247 3) ≤ (h 238 101)) => ?_) (fun (q16 : ¬ ((h 247 3) ≤ (h 238 101))) => ?_)
        ·
          refine wr_iincL (i := 1) (n := 1) (v := 3) (4) ([(1, vi 4), (0, .ref 236)]) (nx := 30) (r1 := 0) (r2 := 0) (r3 := 0) rfl rfl (by decide) rfl ?_
          refine wi_goto (nx := 33) (r1 := 2) (r2 := 0) (r3 := 0) rfl ?_
          refine wi_iload_n (i := 1) (e := 4) (nx := 3) (r1 := 0) (r2 := 0) (r3 := 0) rfl rfl ?_
          refine wi_iconst (n := 4) (nx := 4) (r1 := 0) (r2 := 0) (r3 := 0) rfl ?_
          refine wi_icmp (cd := .ge) (nx := 7) (r1 := 33) (r2 := 0) (r3 := 0) rfl (by omega) (by omega) (fun (q17 : 4 ≤ 4) => ?_) (fun (q17 : ¬ (4 ≤ 4)) => by exfalso; omega)
          refine wi_iconst (n := 1) (nx := 34) (r1 := 0) (r2 := 0) (r3 := 0) rfl ?_
          refine wi_zreturn (nx := 35) (r1 := 0) (r2 := 0) (r3 := 0) rfl rfl (by omega) ?_
          exact k 1 (by omega) (Or.inl ⟨rfl, fun l hl => by
              have hl2 : l = 0 ∨ l = 1 ∨ l = 2 ∨ l = 3 := by omega
              rcases hl2 with rfl | rfl | rfl | rfl
              · exact (show h 247 0 ≤ h 238 98 by omega)
              · exact (show h 247 1 ≤ h 238 99 by omega)
              · exact (show h 247 2 ≤ h 238 100 by omega)
              · exact (show h 247 3 ≤ h 238 101 by omega)
              ⟩)
        ·
          refine wi_iconst (n := 0) (nx := 26) (r1 := 0) (r2 := 0) (r3 := 0) rfl ?_
          refine wi_zreturn (nx := 27) (r1 := 0) (r2 := 0) (r3 := 0) rfl rfl (by omega) ?_
          exact k 0 (by omega) (Or.inr ⟨rfl, fun w => by
              have w0 : h 247 0 ≤ h 238 98 := w 0 (by decide)
              have w1 : h 247 1 ≤ h 238 99 := w 1 (by decide)
              have w2 : h 247 2 ≤ h 238 100 := w 2 (by decide)
              have w3 : h 247 3 ≤ h 238 101 := w 3 (by decide)
              omega⟩)
      ·
        refine wi_iconst (n := 0) (nx := 26) (r1 := 0) (r2 := 0) (r3 := 0) rfl ?_
        refine wi_zreturn (nx := 27) (r1 := 0) (r2 := 0) (r3 := 0) rfl rfl (by omega) ?_
        have b13 := gi_b (lo := 0) (hi := 6) g 247 3 rfl
        have b14 := gi_b (lo := 0) (hi := 6) g 238 101 rfl
        exact k 0 (by omega) (Or.inr ⟨rfl, fun w => by
            have w0 : h 247 0 ≤ h 238 98 := w 0 (by decide)
            have w1 : h 247 1 ≤ h 238 99 := w 1 (by decide)
            have w2 : h 247 2 ≤ h 238 100 := w 2 (by decide)
            have w3 : h 247 3 ≤ h 238 101 := w 3 (by decide)
            omega⟩)
    ·
      refine wi_iconst (n := 0) (nx := 26) (r1 := 0) (r2 := 0) (r3 := 0) rfl ?_
      refine wi_zreturn (nx := 27) (r1 := 0) (r2 := 0) (r3 := 0) rfl rfl (by omega) ?_
      have b9 := gi_b (lo := 0) (hi := 6) g 247 2 rfl
      have b10 := gi_b (lo := 0) (hi := 6) g 238 100 rfl
      have b11 := gi_b (lo := 0) (hi := 6) g 247 3 rfl
      have b12 := gi_b (lo := 0) (hi := 6) g 238 101 rfl
      exact k 0 (by omega) (Or.inr ⟨rfl, fun w => by
          have w0 : h 247 0 ≤ h 238 98 := w 0 (by decide)
          have w1 : h 247 1 ≤ h 238 99 := w 1 (by decide)
          have w2 : h 247 2 ≤ h 238 100 := w 2 (by decide)
          have w3 : h 247 3 ≤ h 238 101 := w 3 (by decide)
          omega⟩)
  ·
    refine wi_iconst (n := 0) (nx := 26) (r1 := 0) (r2 := 0) (r3 := 0) rfl ?_
    refine wi_zreturn (nx := 27) (r1 := 0) (r2 := 0) (r3 := 0) rfl rfl (by omega) ?_
    have b5 := gi_b (lo := 0) (hi := 6) g 247 1 rfl
    have b6 := gi_b (lo := 0) (hi := 6) g 238 99 rfl
    have b7 := gi_b (lo := 0) (hi := 6) g 247 2 rfl
    have b8 := gi_b (lo := 0) (hi := 6) g 238 100 rfl
    have b9 := gi_b (lo := 0) (hi := 6) g 247 3 rfl
    have b10 := gi_b (lo := 0) (hi := 6) g 238 101 rfl
    exact k 0 (by omega) (Or.inr ⟨rfl, fun w => by
        have w0 : h 247 0 ≤ h 238 98 := w 0 (by decide)
        have w1 : h 247 1 ≤ h 238 99 := w 1 (by decide)
        have w2 : h 247 2 ≤ h 238 100 := w 2 (by decide)
        have w3 : h 247 3 ≤ h 238 101 := w 3 (by decide)
        omega⟩)
