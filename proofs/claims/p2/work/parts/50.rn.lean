-- method 314: Model.unloadsNow()I
theorem ct_314_236 {L : Nat} {xs : Nat → Int32} {d b c : Nat} {h : hp} {cr : Nat → Nat → Option Nat} {Q : hp_Q} (hcr : CR cr)  (g : GI h)   (pp0 : h 238 98 + h 238 99 + h 238 100 + h 238 101 + h 238 102 + h 238 106 = h 238 73) (pp1 : h 238 73 ≤ h 238 2) (pp2 : h 238 119 ≤ h 238 67) (pp3 : h 238 69 ≤ h 238 5) (pp4 : h 238 2 ≤ 12 * h 238 5) (k : ∀ (h2 : hp) (z0 : Int) , GI h2 → FR [(246, 246, none), (248, 248, none), (236, 236, some (32, 32)), (238, 238, some (43, 54)), (238, 238, some (55, 66)), (238, 238, some (67, 67)), (238, 238, some (68, 68)), (238, 238, some (69, 69)), (238, 238, some (70, 70)), (238, 238, some (71, 71)), (238, 238, some (72, 72)), (238, 238, some (74, 78)), (238, 238, some (80, 84)), (238, 238, some (86, 90)), (238, 238, some (92, 96)), (238, 238, some (98, 98)), (238, 238, some (99, 99)), (238, 238, some (100, 100)), (238, 238, some (101, 101)), (238, 238, some (102, 102)), (238, 238, some (103, 105)), (238, 238, some (106, 106)), (238, 238, some (107, 118)), (238, 238, some (119, 119)), (238, 238, some (120, 196)), (238, 238, some (121, 197)), (238, 238, some (122, 198)), (238, 238, some (123, 199)), (247, 247, some (0, 0)), (247, 247, some (1, 1)), (247, 247, some (2, 2)), (247, 247, some (3, 3))] h h2 → (0 ≤ z0 ∧ z0 ≤ 12) → (h2 238 98 + h2 238 99 + h2 238 100 + h2 238 101 + h2 238 102 + h2 238 106 = h2 238 73) → (h2 238 73 ≤ h2 238 2) → (h2 238 119 ≤ h2 238 67) → (h2 238 69 ≤ h2 238 5) → (h2 238 2 ≤ 12 * h2 238 5) → Q (.inl (some (vi z0))) (hp_w h2 cr) b c) : wp (md_xa (L, xs)) (d + 4) 314 (0, [(0, .ref 236)], [], hp_w h cr, b, c) Q := by
  have F0 : FR [(246, 246, none), (248, 248, none), (236, 236, some (32, 32)), (238, 238, some (43, 54)), (238, 238, some (55, 66)), (238, 238, some (67, 67)), (238, 238, some (68, 68)), (238, 238, some (69, 69)), (238, 238, some (70, 70)), (238, 238, some (71, 71)), (238, 238, some (72, 72)), (238, 238, some (74, 78)), (238, 238, some (80, 84)), (238, 238, some (86, 90)), (238, 238, some (92, 96)), (238, 238, some (98, 98)), (238, 238, some (99, 99)), (238, 238, some (100, 100)), (238, 238, some (101, 101)), (238, 238, some (102, 102)), (238, 238, some (103, 105)), (238, 238, some (106, 106)), (238, 238, some (107, 118)), (238, 238, some (119, 119)), (238, 238, some (120, 196)), (238, 238, some (121, 197)), (238, 238, some (122, 198)), (238, 238, some (123, 199)), (247, 247, some (0, 0)), (247, 247, some (1, 1)), (247, 247, some (2, 2)), (247, 247, some (3, 3))] h h := FR.refl
  have b1 := gi_b (lo := 0) (hi := 6) g 238 98 rfl
  have b2 := gi_b (lo := 0) (hi := 6) g 238 99 rfl
  have b3 := gi_b (lo := 0) (hi := 6) g 238 100 rfl
  have b4 := gi_b (lo := 0) (hi := 6) g 238 101 rfl
  have b5 := gi_b (lo := 0) (hi := 3) g 238 102 rfl
  have b6 := gi_b (lo := 0) (hi := 12) g 238 106 rfl
  have b7 := gi_b (lo := 0) (hi := 12) g 238 73 rfl
  have b8 := gi_b (lo := 0) (hi := 12) g 238 2 rfl
  have b9 := gi_b (lo := 0) (hi := 9999) g 238 119 rfl
  have b10 := gi_b (lo := 0) (hi := 9999) g 238 67 rfl
  have b11 := gi_b (lo := 0) (hi := 9) g 238 69 rfl
  have b12 := gi_b (lo := 0) (hi := 9) g 238 5 rfl
  refine wi_iconst (n := 0) (nx := 1) (r1 := 0) (r2 := 0) (r3 := 0) rfl ?_
  refine wi_istore_n (i := 1) (e := 0) (lo2 := [(1, vi 0), (0, .ref 236)]) (nx := 2) (r1 := 0) (r2 := 0) (r3 := 0) rfl rfl ?_
  refine wi_aload_n (i := 0) (x := 236) (nx := 3) (r1 := 0) (r2 := 0) (r3 := 0) rfl rfl ?_
  refine wr_V (k0 := 236) (rest := []) (as := [.ref 236]) (nx := 6) (r1 := 299) (r2 := 0) (r3 := 11) rfl rfl rfl (of_decide_eq_true rfl) rfl rfl (by decide) rfl rfl (of_decide_eq_true rfl) (of_decide_eq_true rfl) ?_
  refine ct_299_236 hcr  g   (show (h 238 98) + (h 238 99) + (h 238 100) + (h 238 101) + (h 238 102) + (h 238 106) = (h 238 73) by omega) (show (h 238 73) ≤ (h 238 2) by omega) (show (h 238 119) ≤ (h 238 67) by omega) (show (h 238 69) ≤ (h 238 5) by omega) (show (h 238 2) ≤ 12 * (h 238 5) by omega) (fun h13 z14 g13 u13 (fz14 : 0 ≤ z14 ∧ z14 ≤ 1000000) => ?_)
  have F15 := F0.then (by decide +kernel) u13
  refine wk_i ?_
  refine wi_istore_n (i := 2) (e := z14) (lo2 := [(2, vi z14), (1, vi 0), (0, .ref 236)]) (nx := 7) (r1 := 0) (r2 := 0) (r3 := 0) rfl rfl ?_
  refine wi_iconst (n := 1) (nx := 8) (r1 := 0) (r2 := 0) (r3 := 0) rfl ?_
  refine wi_istore_n (i := 3) (e := 1) (lo2 := [(3, vi 1), (2, vi z14), (1, vi 0), (0, .ref 236)]) (nx := 9) (r1 := 0) (r2 := 0) (r3 := 0) rfl rfl ?_
  refine wp.lo (lo := [(0, .ref 236), (1, vi 0), (3, vi 1)]) ⟨rfl, rfl, rfl, trivial⟩ rfl ?_
  refine wl_2 (fun x16 x17 h18 => GI h18 ∧ FR [(246, 246, none), (248, 248, none), (236, 236, some (32, 32)), (238, 238, some (43, 54)), (238, 238, some (55, 66)), (238, 238, some (67, 67)), (238, 238, some (68, 68)), (238, 238, some (69, 69)), (238, 238, some (70, 70)), (238, 238, some (71, 71)), (238, 238, some (72, 72)), (238, 238, some (74, 78)), (238, 238, some (80, 84)), (238, 238, some (86, 90)), (238, 238, some (92, 96)), (238, 238, some (98, 98)), (238, 238, some (99, 99)), (238, 238, some (100, 100)), (238, 238, some (101, 101)), (238, 238, some (102, 102)), (238, 238, some (103, 105)), (238, 238, some (106, 106)), (238, 238, some (107, 118)), (238, 238, some (119, 119)), (238, 238, some (120, 196)), (238, 238, some (121, 197)), (238, 238, some (122, 198)), (238, 238, some (123, 199)), (247, 247, some (0, 0)), (247, 247, some (1, 1)), (247, 247, some (2, 2)), (247, 247, some (3, 3))] h h18 ∧ FR [(238, 238, some (43, 54)), (238, 238, some (55, 66)), (238, 238, some (67, 67)), (238, 238, some (68, 68)), (238, 238, some (69, 69)), (238, 238, some (70, 70)), (238, 238, some (71, 71)), (238, 238, some (72, 72)), (238, 238, some (74, 78)), (238, 238, some (80, 84)), (238, 238, some (86, 90)), (238, 238, some (92, 96)), (238, 238, some (98, 98)), (238, 238, some (99, 99)), (238, 238, some (100, 100)), (238, 238, some (101, 101)), (238, 238, some (102, 102)), (238, 238, some (103, 105)), (238, 238, some (106, 106)), (238, 238, some (107, 118)), (238, 238, some (119, 119)), (238, 238, some (120, 196)), (238, 238, some (121, 197)), (238, 238, some (122, 198)), (238, 238, some (123, 199))] h13 h18 ∧ ((0 ≤ x16 ∧ x16 ≤ 12) ∧ (0 ≤ x17 ∧ x17 ≤ 1))) (fun x16 x17 h18 => ((12 : Int) + 1 - x16).toNat) (fun x16 x17 h18 => (9, [(0, .ref 236), (1, vi x16), (3, vi x17)], [], hp_w h18 cr, b, c)) ?_ 0 1 h13 ⟨g13, F15, FR.refl, (show (0 ≤ 0 ∧ 0 ≤ 12) ∧ (0 ≤ 1 ∧ 1 ≤ 1) by omega)⟩
  intro x16 x17 h18 ⟨g18, F19, u18, f18⟩ I18
  refine wi_iload_n (i := 3) (e := x17) (nx := 10) (r1 := 0) (r2 := 0) (r3 := 0) rfl rfl ?_
  refine wi_if (cd := .eq) (nx := 13) (r1 := 79) (r2 := 0) (r3 := 0) rfl (by omega) (fun (q20 : x17 = 0) => ?_) (fun (q20 : ¬ (x17 = 0)) => ?_)
  ·
    refine wi_iload_n (i := 1) (e := x16) (nx := 80) (r1 := 0) (r2 := 0) (r3 := 0) rfl rfl ?_
    refine wi_ireturn (nx := 81) (r1 := 0) (r2 := 0) (r3 := 0) rfl rfl ?_
    have b21 := gi_b (lo := 0) (hi := 6) g18 238 98 rfl
    have b22 := gi_b (lo := 0) (hi := 6) g18 238 99 rfl
    have b23 := gi_b (lo := 0) (hi := 6) g18 238 100 rfl
    have b24 := gi_b (lo := 0) (hi := 6) g18 238 101 rfl
    have b25 := gi_b (lo := 0) (hi := 3) g18 238 102 rfl
    have b26 := gi_b (lo := 0) (hi := 12) g18 238 106 rfl
    have e27 : h18 238 73 = h 238 73 := ((u18 238 73 rfl).trans (u13 238 73 rfl))
    have e28 : h18 238 2 = h 238 2 := ((u18 238 2 rfl).trans (u13 238 2 rfl))
    have b29 := gi_b (lo := 0) (hi := 9999) g18 238 119 rfl
    have b30 := gi_b (lo := 0) (hi := 9999) g18 238 67 rfl
    have b31 := gi_b (lo := 0) (hi := 9) g18 238 69 rfl
    have e32 : h18 238 5 = h 238 5 := ((u18 238 5 rfl).trans (u13 238 5 rfl))
    exact k h18 x16 g18 F19 (by omega) (show (h18 238 98) + (h18 238 99) + (h18 238 100) + (h18 238 101) + (h18 238 102) + (h18 238 106) = (h18 238 73) by omega) (show (h18 238 73) ≤ (h18 238 2) by omega) (show (h18 238 119) ≤ (h18 238 67) by omega) (show (h18 238 69) ≤ (h18 238 5) by omega) (show (h18 238 2) ≤ 12 * (h18 238 5) by omega)
  ·
    refine wi_iload_n (i := 1) (e := x16) (nx := 14) (r1 := 0) (r2 := 0) (r3 := 0) rfl rfl ?_
    refine wi_aload_n (i := 0) (x := 236) (nx := 15) (r1 := 0) (r2 := 0) (r3 := 0) rfl rfl ?_
    have b21 := gi_b (lo := 0) (hi := 12) g13 236 32 rfl
    refine wr_gi0 (k0 := 236) (x := h13 236 32) (nx := 18) (r1 := 11) (r2 := 32) (r3 := 0) rfl rfl (by decide) rfl ⟨rfl, rfl⟩ rfl (u18 236 32 rfl) ?_
    refine wi_icmp (cd := .ge) (nx := 21) (r1 := 79) (r2 := 0) (r3 := 0) rfl (by omega) (by omega) (fun (q22 : (h13 236 32) ≤ x16) => ?_) (fun (q22 : ¬ ((h13 236 32) ≤ x16)) => ?_)
    ·
      refine wi_iload_n (i := 1) (e := x16) (nx := 80) (r1 := 0) (r2 := 0) (r3 := 0) rfl rfl ?_
      refine wi_ireturn (nx := 81) (r1 := 0) (r2 := 0) (r3 := 0) rfl rfl ?_
      have b23 := gi_b (lo := 0) (hi := 6) g18 238 98 rfl
      have b24 := gi_b (lo := 0) (hi := 6) g18 238 99 rfl
      have b25 := gi_b (lo := 0) (hi := 6) g18 238 100 rfl
      have b26 := gi_b (lo := 0) (hi := 6) g18 238 101 rfl
      have b27 := gi_b (lo := 0) (hi := 3) g18 238 102 rfl
      have b28 := gi_b (lo := 0) (hi := 12) g18 238 106 rfl
      have e29 : h18 238 73 = h 238 73 := ((u18 238 73 rfl).trans (u13 238 73 rfl))
      have e30 : h18 238 2 = h 238 2 := ((u18 238 2 rfl).trans (u13 238 2 rfl))
      have b31 := gi_b (lo := 0) (hi := 9999) g18 238 119 rfl
      have b32 := gi_b (lo := 0) (hi := 9999) g18 238 67 rfl
      have b33 := gi_b (lo := 0) (hi := 9) g18 238 69 rfl
      have e34 : h18 238 5 = h 238 5 := ((u18 238 5 rfl).trans (u13 238 5 rfl))
      exact k h18 x16 g18 F19 (by omega) (show (h18 238 98) + (h18 238 99) + (h18 238 100) + (h18 238 101) + (h18 238 102) + (h18 238 106) = (h18 238 73) by omega) (show (h18 238 73) ≤ (h18 238 2) by omega) (show (h18 238 119) ≤ (h18 238 67) by omega) (show (h18 238 69) ≤ (h18 238 5) by omega) (show (h18 238 2) ≤ 12 * (h18 238 5) by omega)
    ·
      refine wi_aload_n (i := 0) (x := 236) (nx := 22) (r1 := 0) (r2 := 0) (r3 := 0) rfl rfl ?_
      refine wi_aload_n (i := 0) (x := 236) (nx := 23) (r1 := 0) (r2 := 0) (r3 := 0) rfl rfl ?_
      refine wr_gr (k0 := 236) (x := 248) (nx := 26) (r1 := 11) (r2 := 31) (r3 := 0) rfl rfl (by decide) rfl ⟨rfl, rfl⟩ rfl ?_
      refine wi_iload_n (i := 1) (e := x16) (nx := 27) (r1 := 0) (r2 := 0) (r3 := 0) rfl rfl ?_
      obtain ⟨i23, ei23⟩ : ∃ q : Nat, x16 = (q : Int) := ⟨(x16).toNat, by omega⟩
      have b24 := gi_b (lo := 0) (hi := 3) g13 248 i23 rfl
      refine wr_ia (k0 := 248) (a := x16) (f := i23) (x := h13 248 i23) (nx := 28) (r1 := 0) (r2 := 0) (r3 := 0) rfl (by decide) rfl (by omega) (by omega) (by decide) (u18 248 i23 (fn_a (by omega) (fn_a (by omega) (fn_a (by omega) (fn_a (by omega) (fn_a (by omega) (fn_a (by omega) (fn_a (by omega) (fn_a (by omega) (fn_a (by omega) (fn_a (by omega) (fn_a (by omega) (fn_a (by omega) (fn_a (by omega) (fn_a (by omega) (fn_a (by omega) (fn_a (by omega) (fn_a (by omega) (fn_a (by omega) (fn_a (by omega) (fn_a (by omega) (fn_a (by omega) (fn_a (by omega) (fn_a (by omega) (fn_a (by omega) (fn_a (by omega) fn_0)))))))))))))))))))))))))) ?_
      rcases (show (h13 248 i23) = 0 ∨ (h13 248 i23) = 1 ∨ (h13 248 i23) = 2 ∨ (h13 248 i23) = 3 by omega) with q25 | q25 | q25 | q25
      ·
        rw [q25]
        refine wr_V (k0 := 236) (rest := []) (as := [.ref 236, vi 0]) (nx := 31) (r1 := 267) (r2 := 1) (r3 := 11) rfl rfl rfl (of_decide_eq_true rfl) rfl rfl (by decide) rfl rfl (of_decide_eq_true rfl) (of_decide_eq_true rfl) ?_
        refine wi_aload_n (i := 0) (x := 236) (nx := 1) (r1 := 0) (r2 := 0) (r3 := 0) rfl rfl ?_
        refine wr_gr (k0 := 236) (x := 238) (nx := 4) (r1 := 11) (r2 := 13) (r3 := 0) rfl rfl (by decide) rfl ⟨rfl, rfl⟩ rfl ?_
        refine wi_bipush (n := 98) (nx := 6) (r1 := 0) (r2 := 0) (r3 := 0) rfl (by decide) ?_
        refine wi_iload_n (i := 1) (e := 0) (nx := 7) (r1 := 0) (r2 := 0) (r3 := 0) rfl rfl ?_
        refine wr_addL (98) (nx := 8) (r1 := 0) (r2 := 0) (r3 := 0) rfl (by decide) ?_
        have b26 := gi_b (lo := 0) (hi := 6) g18 238 98 rfl
        refine wr_ia (k0 := 238) (a := 98) (f := 98) (x := h18 238 98) (nx := 9) (r1 := 0) (r2 := 0) (r3 := 0) rfl (by decide) rfl (by omega) (by omega) (by decide) rfl ?_
        refine wi_if (cd := .eq) (nx := 12) (r1 := 25) (r2 := 0) (r3 := 0) rfl (by omega) (fun (q27 : (h18 238 98) = 0) => ?_) (fun (q27 : ¬ ((h18 238 98) = 0)) => ?_)
        ·
          refine wi_iconst (n := 0) (nx := 26) (r1 := 0) (r2 := 0) (r3 := 0) rfl ?_
          refine wi_zreturn (nx := 27) (r1 := 0) (r2 := 0) (r3 := 0) rfl rfl (by omega) ?_
          refine wk_i ?_
          refine wi_if (cd := .eq) (nx := 34) (r1 := 79) (r2 := 0) (r3 := 0) rfl (by omega) (fun (q28 : 0 = 0) => ?_) (fun (q28 : ¬ (0 = 0)) => by exfalso; omega)
          refine wi_iload_n (i := 1) (e := x16) (nx := 80) (r1 := 0) (r2 := 0) (r3 := 0) rfl rfl ?_
          refine wi_ireturn (nx := 81) (r1 := 0) (r2 := 0) (r3 := 0) rfl rfl ?_
          have b29 := gi_b (lo := 0) (hi := 6) g18 238 99 rfl
          have b30 := gi_b (lo := 0) (hi := 6) g18 238 100 rfl
          have b31 := gi_b (lo := 0) (hi := 6) g18 238 101 rfl
          have b32 := gi_b (lo := 0) (hi := 3) g18 238 102 rfl
          have b33 := gi_b (lo := 0) (hi := 12) g18 238 106 rfl
          have e34 : h18 238 73 = h 238 73 := ((u18 238 73 rfl).trans (u13 238 73 rfl))
          have e35 : h18 238 2 = h 238 2 := ((u18 238 2 rfl).trans (u13 238 2 rfl))
          have b36 := gi_b (lo := 0) (hi := 9999) g18 238 119 rfl
          have b37 := gi_b (lo := 0) (hi := 9999) g18 238 67 rfl
          have b38 := gi_b (lo := 0) (hi := 9) g18 238 69 rfl
          have e39 : h18 238 5 = h 238 5 := ((u18 238 5 rfl).trans (u13 238 5 rfl))
          exact k h18 x16 g18 F19 (by omega) (show (h18 238 98) + (h18 238 99) + (h18 238 100) + (h18 238 101) + (h18 238 102) + (h18 238 106) = (h18 238 73) by omega) (show (h18 238 73) ≤ (h18 238 2) by omega) (show (h18 238 119) ≤ (h18 238 67) by omega) (show (h18 238 69) ≤ (h18 238 5) by omega) (show (h18 238 2) ≤ 12 * (h18 238 5) by omega)
        ·
          refine wi_aload_n (i := 0) (x := 236) (nx := 13) (r1 := 0) (r2 := 0) (r3 := 0) rfl rfl ?_
          refine wr_gr (k0 := 236) (x := 238) (nx := 16) (r1 := 11) (r2 := 13) (r3 := 0) rfl rfl (by decide) rfl ⟨rfl, rfl⟩ rfl ?_
          refine wi_bipush (n := 67) (nx := 18) (r1 := 0) (r2 := 0) (r3 := 0) rfl (by decide) ?_
          have b28 := gi_b (lo := 0) (hi := 9999) g18 238 67 rfl
          refine wr_ia (k0 := 238) (a := 67) (f := 67) (x := h18 238 67) (nx := 19) (r1 := 0) (r2 := 0) (r3 := 0) rfl (by decide) rfl (by omega) (by omega) (by decide) rfl ?_
          refine wi_sipush (n := 9999) (nx := 22) (r1 := 0) (r2 := 0) (r3 := 0) rfl (by decide) ?_
          refine wi_icmp (cd := .ne) (nx := 25) (r1 := 27) (r2 := 0) (r3 := 0) rfl (by omega) (by omega) (fun (q29 : (h18 238 67) ≠ 9999) => ?_) (fun (q29 : ¬ ((h18 238 67) ≠ 9999)) => ?_)
          ·
            refine wi_aload_n (i := 0) (x := 236) (nx := 28) (r1 := 0) (r2 := 0) (r3 := 0) rfl rfl ?_
            refine wi_iload_n (i := 1) (e := 0) (nx := 29) (r1 := 0) (r2 := 0) (r3 := 0) rfl rfl ?_
            refine wi_iconst (n := 0) (nx := 30) (r1 := 0) (r2 := 0) (r3 := 0) rfl ?_
            refine wr_V (k0 := 236) (rest := []) (as := [.ref 236, vi 0, vi 0]) (nx := 33) (r1 := 258) (r2 := 2) (r3 := 11) rfl rfl rfl (of_decide_eq_true rfl) rfl rfl (by decide) rfl rfl (of_decide_eq_true rfl) (of_decide_eq_true rfl) ?_
            refine wi_aload_n (i := 0) (x := 236) (nx := 1) (r1 := 0) (r2 := 0) (r3 := 0) rfl rfl ?_
            refine wr_gr (k0 := 236) (x := 238) (nx := 4) (r1 := 11) (r2 := 13) (r3 := 0) rfl rfl (by decide) rfl ⟨rfl, rfl⟩ rfl ?_
            refine wi_bipush (n := 74) (nx := 6) (r1 := 0) (r2 := 0) (r3 := 0) rfl (by decide) ?_
            refine wi_bipush (n := 6) (nx := 8) (r1 := 0) (r2 := 0) (r3 := 0) rfl (by decide) ?_
            refine wi_iload_n (i := 1) (e := 0) (nx := 9) (r1 := 0) (r2 := 0) (r3 := 0) rfl rfl ?_
            refine wr_mulL (0) (nx := 10) (r1 := 0) (r2 := 0) (r3 := 0) rfl (by decide) ?_
            refine wr_addL (74) (nx := 11) (r1 := 0) (r2 := 0) (r3 := 0) rfl (by decide) ?_
            refine wi_iload_n (i := 2) (e := 0) (nx := 12) (r1 := 0) (r2 := 0) (r3 := 0) rfl rfl ?_
            refine wr_addL (74) (nx := 13) (r1 := 0) (r2 := 0) (r3 := 0) rfl (by decide) ?_
            have b30 := gi_b (lo := 0) (hi := 11) g18 238 74 rfl
            refine wr_ia (k0 := 238) (a := 74) (f := 74) (x := h18 238 74) (nx := 14) (r1 := 0) (r2 := 0) (r3 := 0) rfl (by decide) rfl (by omega) (by omega) (by decide) rfl ?_
            refine wi_ireturn (nx := 15) (r1 := 0) (r2 := 0) (r3 := 0) rfl rfl ?_
            refine wk_i ?_
            refine wi_istore_n (i := 2) (e := h18 238 74) (lo2 := [(2, vi (h18 238 74)), (0, .ref 236), (1, vi 0)]) (nx := 34) (r1 := 0) (r2 := 0) (r3 := 0) rfl rfl ?_
            refine wi_aload_n (i := 0) (x := 236) (nx := 35) (r1 := 0) (r2 := 0) (r3 := 0) rfl rfl ?_
            refine wr_gr (k0 := 236) (x := 238) (nx := 38) (r1 := 11) (r2 := 13) (r3 := 0) rfl rfl (by decide) rfl ⟨rfl, rfl⟩ rfl ?_
            refine wi_bipush (n := 43) (nx := 40) (r1 := 0) (r2 := 0) (r3 := 0) rfl (by decide) ?_
            refine wi_iload_n (i := 2) (e := h18 238 74) (nx := 41) (r1 := 0) (r2 := 0) (r3 := 0) rfl rfl ?_
            refine wr_add (nx := 42) (r1 := 0) (r2 := 0) (r3 := 0) rfl (fun e31 (fe31 : e31 = 43 + (h18 238 74)) => ?_)
            obtain ⟨i32, ei32⟩ : ∃ q : Nat, e31 = (q : Int) := ⟨(e31).toNat, by omega⟩
            have b33 := gi_b (lo := 0) (hi := 999) g18 238 i32 (gi_rg 43 12 (fun _ => rfl) (by decide +kernel) (by omega))
            refine wr_ia (k0 := 238) (a := e31) (f := i32) (x := h18 238 i32) (nx := 43) (r1 := 0) (r2 := 0) (r3 := 0) rfl (by decide) rfl (by omega) (by omega) (by decide) rfl ?_
            refine wi_if (cd := .le) (nx := 46) (r1 := 71) (r2 := 0) (r3 := 0) rfl (by omega) (fun (q34 : (h18 238 i32) ≤ 0) => ?_) (fun (q34 : ¬ ((h18 238 i32) ≤ 0)) => ?_)
            ·
              refine wi_iload_n (i := 2) (e := h18 238 74) (nx := 72) (r1 := 0) (r2 := 0) (r3 := 0) rfl rfl ?_
              refine wi_aload_n (i := 0) (x := 236) (nx := 73) (r1 := 0) (r2 := 0) (r3 := 0) rfl rfl ?_
              refine wr_gr (k0 := 236) (x := 238) (nx := 76) (r1 := 11) (r2 := 13) (r3 := 0) rfl rfl (by decide) rfl ⟨rfl, rfl⟩ rfl ?_
              refine wi_bipush (n := 106) (nx := 78) (r1 := 0) (r2 := 0) (r3 := 0) rfl (by decide) ?_
              have b35 := gi_b (lo := 0) (hi := 12) g18 238 106 rfl
              refine wr_ia (k0 := 238) (a := 106) (f := 106) (x := h18 238 106) (nx := 79) (r1 := 0) (r2 := 0) (r3 := 0) rfl (by decide) rfl (by omega) (by omega) (by decide) rfl ?_
              refine wr_sub (nx := 80) (r1 := 0) (r2 := 0) (r3 := 0) rfl (fun e36 (fe36 : e36 = (h18 238 74) - (h18 238 106)) => ?_)
              refine wi_aload_n (i := 0) (x := 236) (nx := 81) (r1 := 0) (r2 := 0) (r3 := 0) rfl rfl ?_
              refine wr_gr (k0 := 236) (x := 238) (nx := 84) (r1 := 11) (r2 := 13) (r3 := 0) rfl rfl (by decide) rfl ⟨rfl, rfl⟩ rfl ?_
              refine wi_iconst (n := 3) (nx := 85) (r1 := 0) (r2 := 0) (r3 := 0) rfl ?_
              have b37 := gi_b (lo := 0) (hi := 999) g 238 3 rfl
              refine wr_ia (k0 := 238) (a := 3) (f := 3) (x := h 238 3) (nx := 86) (r1 := 0) (r2 := 0) (r3 := 0) rfl (by decide) rfl (by omega) (by omega) (by decide) ((u18 238 3 rfl).trans (u13 238 3 rfl)) ?_
              refine wi_icmp (cd := .gt) (nx := 89) (r1 := 93) (r2 := 0) (r3 := 0) rfl (by omega) (by omega) (fun (q38 : (h 238 3) < e36) => ?_) (fun (q38 : ¬ ((h 238 3) < e36)) => ?_)
              ·
                refine wi_iconst (n := 0) (nx := 94) (r1 := 0) (r2 := 0) (r3 := 0) rfl ?_
                refine wi_zreturn (nx := 95) (r1 := 0) (r2 := 0) (r3 := 0) rfl rfl (by omega) ?_
                refine wk_i ?_
                refine wi_if (cd := .eq) (nx := 34) (r1 := 79) (r2 := 0) (r3 := 0) rfl (by omega) (fun (q39 : 0 = 0) => ?_) (fun (q39 : ¬ (0 = 0)) => by exfalso; omega)
                refine wi_iload_n (i := 1) (e := x16) (nx := 80) (r1 := 0) (r2 := 0) (r3 := 0) rfl rfl ?_
                refine wi_ireturn (nx := 81) (r1 := 0) (r2 := 0) (r3 := 0) rfl rfl ?_
                have b40 := gi_b (lo := 0) (hi := 6) g18 238 99 rfl
                have b41 := gi_b (lo := 0) (hi := 6) g18 238 100 rfl
                have b42 := gi_b (lo := 0) (hi := 6) g18 238 101 rfl
                have b43 := gi_b (lo := 0) (hi := 3) g18 238 102 rfl
                have e44 : h18 238 73 = h 238 73 := ((u18 238 73 rfl).trans (u13 238 73 rfl))
                have e45 : h18 238 2 = h 238 2 := ((u18 238 2 rfl).trans (u13 238 2 rfl))
                have b46 := gi_b (lo := 0) (hi := 9999) g18 238 119 rfl
                have b47 := gi_b (lo := 0) (hi := 9) g18 238 69 rfl
                have e48 : h18 238 5 = h 238 5 := ((u18 238 5 rfl).trans (u13 238 5 rfl))
                exact k h18 x16 g18 F19 (by omega) (show (h18 238 98) + (h18 238 99) + (h18 238 100) + (h18 238 101) + (h18 238 102) + (h18 238 106) = (h18 238 73) by omega) (show (h18 238 73) ≤ (h18 238 2) by omega) (show (h18 238 119) ≤ (h18 238 67) by omega) (show (h18 238 69) ≤ (h18 238 5) by omega) (show (h18 238 2) ≤ 12 * (h18 238 5) by omega)
              ·
                refine wi_iconst (n := 1) (nx := 90) (r1 := 0) (r2 := 0) (r3 := 0) rfl ?_
                refine wi_goto (nx := 93) (r1 := 94) (r2 := 0) (r3 := 0) rfl ?_
                refine wi_zreturn (nx := 95) (r1 := 0) (r2 := 0) (r3 := 0) rfl rfl (by omega) ?_
                refine wk_i ?_
                refine wi_if (cd := .eq) (nx := 34) (r1 := 79) (r2 := 0) (r3 := 0) rfl (by omega) (fun (q39 : 1 = 0) => by exfalso; omega) (fun (q39 : ¬ (1 = 0)) => ?_)
                refine wi_aload_n (i := 0) (x := 236) (nx := 35) (r1 := 0) (r2 := 0) (r3 := 0) rfl rfl ?_
                refine wr_gr (k0 := 236) (x := 238) (nx := 38) (r1 := 11) (r2 := 13) (r3 := 0) rfl rfl (by decide) rfl ⟨rfl, rfl⟩ rfl ?_
                refine wi_bipush (n := 106) (nx := 40) (r1 := 0) (r2 := 0) (r3 := 0) rfl (by decide) ?_
                refine wr_ia (k0 := 238) (a := 106) (f := 106) (x := h18 238 106) (nx := 41) (r1 := 0) (r2 := 0) (r3 := 0) rfl (by decide) rfl (by omega) (by omega) (by decide) rfl ?_
                refine wi_istore (i := 4) (e := h18 238 106) (lo2 := [(4, vi (h18 238 106)), (0, .ref 236), (1, vi x16), (3, vi x17)]) (nx := 43) (r1 := 0) (r2 := 0) (r3 := 0) rfl rfl ?_
                refine wi_aload_n (i := 0) (x := 236) (nx := 44) (r1 := 0) (r2 := 0) (r3 := 0) rfl rfl ?_
                refine wi_aload_n (i := 0) (x := 236) (nx := 45) (r1 := 0) (r2 := 0) (r3 := 0) rfl rfl ?_
                refine wr_gr (k0 := 236) (x := 248) (nx := 48) (r1 := 11) (r2 := 31) (r3 := 0) rfl rfl (by decide) rfl ⟨rfl, rfl⟩ rfl ?_
                refine wi_iload_n (i := 1) (e := x16) (nx := 49) (r1 := 0) (r2 := 0) (r3 := 0) rfl rfl ?_
                refine wr_ia (k0 := 248) (a := x16) (f := i23) (x := h13 248 i23) (nx := 50) (r1 := 0) (r2 := 0) (r3 := 0) rfl (by decide) rfl (by omega) (by omega) (by decide) (u18 248 i23 (fn_a (by omega) (fn_a (by omega) (fn_a (by omega) (fn_a (by omega) (fn_a (by omega) (fn_a (by omega) (fn_a (by omega) (fn_a (by omega) (fn_a (by omega) (fn_a (by omega) (fn_a (by omega) (fn_a (by omega) (fn_a (by omega) (fn_a (by omega) (fn_a (by omega) (fn_a (by omega) (fn_a (by omega) (fn_a (by omega) (fn_a (by omega) (fn_a (by omega) (fn_a (by omega) (fn_a (by omega) (fn_a (by omega) (fn_a (by omega) (fn_a (by omega) fn_0)))))))))))))))))))))))))) ?_
                rcases (show (h13 248 i23) = 0 by omega) with q40
                ·
                  rw [q40]
                  refine wr_V (k0 := 236) (rest := []) (as := [.ref 236, vi 0]) (nx := 53) (r1 := 282) (r2 := 1) (r3 := 11) rfl rfl rfl (of_decide_eq_true rfl) rfl rfl (by decide) rfl rfl (of_decide_eq_true rfl) (of_decide_eq_true rfl) ?_
                  have b42 := gi_b (lo := 0) (hi := 6) g18 238 99 rfl
                  have b43 := gi_b (lo := 0) (hi := 6) g18 238 100 rfl
                  have b44 := gi_b (lo := 0) (hi := 6) g18 238 101 rfl
                  have b45 := gi_b (lo := 0) (hi := 3) g18 238 102 rfl
                  have e46 : h18 238 73 = h 238 73 := ((u18 238 73 rfl).trans (u13 238 73 rfl))
                  have e47 : h18 238 2 = h 238 2 := ((u18 238 2 rfl).trans (u13 238 2 rfl))
                  have b48 := gi_b (lo := 0) (hi := 9999) g18 238 119 rfl
                  have b49 := gi_b (lo := 0) (hi := 9) g18 238 69 rfl
                  have e50 : h18 238 5 = h 238 5 := ((u18 238 5 rfl).trans (u13 238 5 rfl))
                  have e51 : h18 238 (43 + (h18 238 74).toNat) = h18 238 i32 := by rw [show 43 + (h18 238 74).toNat = i32 by omega]
                  refine ct_282_236_L0 hcr  g18   (show (h18 238 98) + (h18 238 99) + (h18 238 100) + (h18 238 101) + (h18 238 102) + (h18 238 106) = (h18 238 73) by omega) (show (h18 238 73) ≤ (h18 238 2) by omega) (show (h18 238 119) ≤ (h18 238 67) by omega) (show (h18 238 69) ≤ (h18 238 5) by omega) (show (h18 238 2) ≤ 12 * (h18 238 5) by omega) (show 1 ≤ (h18 238 98) by omega) (show (h18 238 67) ≤ 9998 by omega) (show (h18 238 102) ≤ 2 ∨ (h18 238 (43 + (h18 238 74).toNat)) ≤ 0 by omega) (fun h41 z52 g41 u41 (fz52 : 0 ≤ z52 ∧ z52 ≤ 11) (p41_0 : (h41 238 98) + (h41 238 99) + (h41 238 100) + (h41 238 101) + (h41 238 102) + (h41 238 106) = (h41 238 73)) (p41_1 : (h41 238 73) ≤ (h41 238 2)) (p41_2 : (h41 238 119) ≤ (h41 238 67)) (p41_3 : (h41 238 69) ≤ (h41 238 5)) (p41_4 : (h41 238 2) ≤ 12 * (h41 238 5)) => ?_)
                  have F53 := F19.then (by decide +kernel) u41
                  have F54 := u18.then (by decide +kernel) u41
                  have b55 := gi_b (lo := 0) (hi := 6) g41 238 98 rfl
                  have e56 : h41 238 99 = h18 238 99 := (u41 238 99 rfl)
                  have e57 : h41 238 100 = h18 238 100 := (u41 238 100 rfl)
                  have e58 : h41 238 101 = h18 238 101 := (u41 238 101 rfl)
                  have b59 := gi_b (lo := 0) (hi := 3) g41 238 102 rfl
                  have b60 := gi_b (lo := 0) (hi := 12) g41 238 106 rfl
                  have e61 : h41 238 73 = h 238 73 := ((u41 238 73 rfl).trans ((u18 238 73 rfl).trans (u13 238 73 rfl)))
                  have e62 : h41 238 2 = h 238 2 := ((u41 238 2 rfl).trans ((u18 238 2 rfl).trans (u13 238 2 rfl)))
                  have b63 := gi_b (lo := 0) (hi := 9999) g41 238 119 rfl
                  have b64 := gi_b (lo := 0) (hi := 9999) g41 238 67 rfl
                  have b65 := gi_b (lo := 0) (hi := 9) g41 238 69 rfl
                  have e66 : h41 238 5 = h 238 5 := ((u41 238 5 rfl).trans ((u18 238 5 rfl).trans (u13 238 5 rfl)))
                  refine wk_i ?_
                  refine wi_istore (i := 5) (e := z52) (lo2 := [(5, vi z52), (4, vi (h18 238 106)), (0, .ref 236), (1, vi x16), (3, vi x17)]) (nx := 55) (r1 := 0) (r2 := 0) (r3 := 0) rfl rfl ?_
                  refine wr_iinc (i := 1) (n := 1) (v := x16) (fun e67 => [(1, vi e67), (5, vi z52), (4, vi (h18 238 106)), (0, .ref 236), (3, vi x17)]) (nx := 58) (r1 := 0) (r2 := 0) (r3 := 0) rfl rfl (fun _ => rfl) (fun e67 (fe67 : e67 = x16 + 1) => ?_)
                  refine wi_aload_n (i := 0) (x := 236) (nx := 59) (r1 := 0) (r2 := 0) (r3 := 0) rfl rfl ?_
                  refine wr_gr (k0 := 236) (x := 238) (nx := 62) (r1 := 11) (r2 := 13) (r3 := 0) rfl rfl (by decide) rfl ⟨rfl, rfl⟩ rfl ?_
                  refine wi_bipush (n := 106) (nx := 64) (r1 := 0) (r2 := 0) (r3 := 0) rfl (by decide) ?_
                  refine wr_ia (k0 := 238) (a := 106) (f := 106) (x := h41 238 106) (nx := 65) (r1 := 0) (r2 := 0) (r3 := 0) rfl (by decide) rfl (by omega) (by omega) (by decide) rfl ?_
                  refine wi_iload (i := 4) (e := h18 238 106) (nx := 67) (r1 := 0) (r2 := 0) (r3 := 0) rfl rfl ?_
                  refine wi_icmp (cd := .le) (nx := 70) (r1 := 74) (r2 := 0) (r3 := 0) rfl (by omega) (by omega) (fun (q68 : (h41 238 106) ≤ (h18 238 106)) => ?_) (fun (q68 : ¬ ((h41 238 106) ≤ (h18 238 106))) => ?_)
                  ·
                    refine wi_iconst (n := 0) (nx := 75) (r1 := 0) (r2 := 0) (r3 := 0) rfl ?_
                    refine wi_istore_n (i := 3) (e := 0) (lo2 := [(3, vi 0), (1, vi e67), (5, vi z52), (4, vi (h18 238 106)), (0, .ref 236)]) (nx := 76) (r1 := 0) (r2 := 0) (r3 := 0) rfl rfl ?_
                    refine wi_goto (nx := 79) (r1 := 9) (r2 := 0) (r3 := 0) rfl ?_
                    refine wp.lo (lo := [(0, .ref 236), (1, vi e67), (3, vi 0)]) ⟨rfl, rfl, rfl, trivial⟩ rfl ?_
                    exact I18 e67 0 h41 ⟨g41, F53, F54, (show (0 ≤ e67 ∧ e67 ≤ 12) ∧ (0 ≤ 0 ∧ 0 ≤ 1) by omega)⟩ (show ((12 : Int) + 1 - e67).toNat < ((12 : Int) + 1 - x16).toNat by omega)
                  ·
                    refine wi_iconst (n := 1) (nx := 71) (r1 := 0) (r2 := 0) (r3 := 0) rfl ?_
                    refine wi_goto (nx := 74) (r1 := 75) (r2 := 0) (r3 := 0) rfl ?_
                    refine wi_istore_n (i := 3) (e := 1) (lo2 := [(3, vi 1), (1, vi e67), (5, vi z52), (4, vi (h18 238 106)), (0, .ref 236)]) (nx := 76) (r1 := 0) (r2 := 0) (r3 := 0) rfl rfl ?_
                    refine wi_goto (nx := 79) (r1 := 9) (r2 := 0) (r3 := 0) rfl ?_
                    refine wp.lo (lo := [(0, .ref 236), (1, vi e67), (3, vi 1)]) ⟨rfl, rfl, rfl, trivial⟩ rfl ?_
                    exact I18 e67 1 h41 ⟨g41, F53, F54, (show (0 ≤ e67 ∧ e67 ≤ 12) ∧ (0 ≤ 1 ∧ 1 ≤ 1) by omega)⟩ (show ((12 : Int) + 1 - e67).toNat < ((12 : Int) + 1 - x16).toNat by omega)
            ·
              refine wi_aload_n (i := 0) (x := 236) (nx := 47) (r1 := 0) (r2 := 0) (r3 := 0) rfl rfl ?_
              refine wr_gr (k0 := 236) (x := 238) (nx := 50) (r1 := 11) (r2 := 13) (r3 := 0) rfl rfl (by decide) rfl ⟨rfl, rfl⟩ rfl ?_
              refine wi_bipush (n := 102) (nx := 52) (r1 := 0) (r2 := 0) (r3 := 0) rfl (by decide) ?_
              have b35 := gi_b (lo := 0) (hi := 3) g18 238 102 rfl
              refine wr_ia (k0 := 238) (a := 102) (f := 102) (x := h18 238 102) (nx := 53) (r1 := 0) (r2 := 0) (r3 := 0) rfl (by decide) rfl (by omega) (by omega) (by decide) rfl ?_
              refine wi_aload_n (i := 0) (x := 236) (nx := 54) (r1 := 0) (r2 := 0) (r3 := 0) rfl rfl ?_
              refine wr_gr (k0 := 236) (x := 238) (nx := 57) (r1 := 11) (r2 := 13) (r3 := 0) rfl rfl (by decide) rfl ⟨rfl, rfl⟩ rfl ?_
              refine wi_bipush (n := 7) (nx := 59) (r1 := 0) (r2 := 0) (r3 := 0) rfl (by decide) ?_
              have b36 := gi_b (lo := 0) (hi := 3) g 238 7 rfl
              refine wr_ia (k0 := 238) (a := 7) (f := 7) (x := h 238 7) (nx := 60) (r1 := 0) (r2 := 0) (r3 := 0) rfl (by decide) rfl (by omega) (by omega) (by decide) ((u18 238 7 rfl).trans (u13 238 7 rfl)) ?_
              refine wi_icmp (cd := .ge) (nx := 63) (r1 := 67) (r2 := 0) (r3 := 0) rfl (by omega) (by omega) (fun (q37 : (h 238 7) ≤ (h18 238 102)) => ?_) (fun (q37 : ¬ ((h 238 7) ≤ (h18 238 102))) => ?_)
              ·
                refine wi_iconst (n := 0) (nx := 68) (r1 := 0) (r2 := 0) (r3 := 0) rfl ?_
                refine wi_goto (nx := 71) (r1 := 94) (r2 := 0) (r3 := 0) rfl ?_
                refine wi_zreturn (nx := 95) (r1 := 0) (r2 := 0) (r3 := 0) rfl rfl (by omega) ?_
                refine wk_i ?_
                refine wi_if (cd := .eq) (nx := 34) (r1 := 79) (r2 := 0) (r3 := 0) rfl (by omega) (fun (q38 : 0 = 0) => ?_) (fun (q38 : ¬ (0 = 0)) => by exfalso; omega)
                refine wi_iload_n (i := 1) (e := x16) (nx := 80) (r1 := 0) (r2 := 0) (r3 := 0) rfl rfl ?_
                refine wi_ireturn (nx := 81) (r1 := 0) (r2 := 0) (r3 := 0) rfl rfl ?_
                have b39 := gi_b (lo := 0) (hi := 6) g18 238 99 rfl
                have b40 := gi_b (lo := 0) (hi := 6) g18 238 100 rfl
                have b41 := gi_b (lo := 0) (hi := 6) g18 238 101 rfl
                have b42 := gi_b (lo := 0) (hi := 12) g18 238 106 rfl
                have e43 : h18 238 73 = h 238 73 := ((u18 238 73 rfl).trans (u13 238 73 rfl))
                have e44 : h18 238 2 = h 238 2 := ((u18 238 2 rfl).trans (u13 238 2 rfl))
                have b45 := gi_b (lo := 0) (hi := 9999) g18 238 119 rfl
                have b46 := gi_b (lo := 0) (hi := 9) g18 238 69 rfl
                have e47 : h18 238 5 = h 238 5 := ((u18 238 5 rfl).trans (u13 238 5 rfl))
                exact k h18 x16 g18 F19 (by omega) (show (h18 238 98) + (h18 238 99) + (h18 238 100) + (h18 238 101) + (h18 238 102) + (h18 238 106) = (h18 238 73) by omega) (show (h18 238 73) ≤ (h18 238 2) by omega) (show (h18 238 119) ≤ (h18 238 67) by omega) (show (h18 238 69) ≤ (h18 238 5) by omega) (show (h18 238 2) ≤ 12 * (h18 238 5) by omega)
              ·
                refine wi_iconst (n := 1) (nx := 64) (r1 := 0) (r2 := 0) (r3 := 0) rfl ?_
                refine wi_goto (nx := 67) (r1 := 94) (r2 := 0) (r3 := 0) rfl ?_
                refine wi_zreturn (nx := 95) (r1 := 0) (r2 := 0) (r3 := 0) rfl rfl (by omega) ?_
                refine wk_i ?_
                refine wi_if (cd := .eq) (nx := 34) (r1 := 79) (r2 := 0) (r3 := 0) rfl (by omega) (fun (q38 : 1 = 0) => by exfalso; omega) (fun (q38 : ¬ (1 = 0)) => ?_)
                refine wi_aload_n (i := 0) (x := 236) (nx := 35) (r1 := 0) (r2 := 0) (r3 := 0) rfl rfl ?_
                refine wr_gr (k0 := 236) (x := 238) (nx := 38) (r1 := 11) (r2 := 13) (r3 := 0) rfl rfl (by decide) rfl ⟨rfl, rfl⟩ rfl ?_
                refine wi_bipush (n := 106) (nx := 40) (r1 := 0) (r2 := 0) (r3 := 0) rfl (by decide) ?_
                have b39 := gi_b (lo := 0) (hi := 12) g18 238 106 rfl
                refine wr_ia (k0 := 238) (a := 106) (f := 106) (x := h18 238 106) (nx := 41) (r1 := 0) (r2 := 0) (r3 := 0) rfl (by decide) rfl (by omega) (by omega) (by decide) rfl ?_
                refine wi_istore (i := 4) (e := h18 238 106) (lo2 := [(4, vi (h18 238 106)), (0, .ref 236), (1, vi x16), (3, vi x17)]) (nx := 43) (r1 := 0) (r2 := 0) (r3 := 0) rfl rfl ?_
                refine wi_aload_n (i := 0) (x := 236) (nx := 44) (r1 := 0) (r2 := 0) (r3 := 0) rfl rfl ?_
                refine wi_aload_n (i := 0) (x := 236) (nx := 45) (r1 := 0) (r2 := 0) (r3 := 0) rfl rfl ?_
                refine wr_gr (k0 := 236) (x := 248) (nx := 48) (r1 := 11) (r2 := 31) (r3 := 0) rfl rfl (by decide) rfl ⟨rfl, rfl⟩ rfl ?_
                refine wi_iload_n (i := 1) (e := x16) (nx := 49) (r1 := 0) (r2 := 0) (r3 := 0) rfl rfl ?_
                refine wr_ia (k0 := 248) (a := x16) (f := i23) (x := h13 248 i23) (nx := 50) (r1 := 0) (r2 := 0) (r3 := 0) rfl (by decide) rfl (by omega) (by omega) (by decide) (u18 248 i23 (fn_a (by omega) (fn_a (by omega) (fn_a (by omega) (fn_a (by omega) (fn_a (by omega) (fn_a (by omega) (fn_a (by omega) (fn_a (by omega) (fn_a (by omega) (fn_a (by omega) (fn_a (by omega) (fn_a (by omega) (fn_a (by omega) (fn_a (by omega) (fn_a (by omega) (fn_a (by omega) (fn_a (by omega) (fn_a (by omega) (fn_a (by omega) (fn_a (by omega) (fn_a (by omega) (fn_a (by omega) (fn_a (by omega) (fn_a (by omega) (fn_a (by omega) fn_0)))))))))))))))))))))))))) ?_
                rcases (show (h13 248 i23) = 0 by omega) with q40
                ·
                  rw [q40]
                  refine wr_V (k0 := 236) (rest := []) (as := [.ref 236, vi 0]) (nx := 53) (r1 := 282) (r2 := 1) (r3 := 11) rfl rfl rfl (of_decide_eq_true rfl) rfl rfl (by decide) rfl rfl (of_decide_eq_true rfl) (of_decide_eq_true rfl) ?_
                  have b42 := gi_b (lo := 0) (hi := 6) g18 238 99 rfl
                  have b43 := gi_b (lo := 0) (hi := 6) g18 238 100 rfl
                  have b44 := gi_b (lo := 0) (hi := 6) g18 238 101 rfl
                  have e45 : h18 238 73 = h 238 73 := ((u18 238 73 rfl).trans (u13 238 73 rfl))
                  have e46 : h18 238 2 = h 238 2 := ((u18 238 2 rfl).trans (u13 238 2 rfl))
                  have b47 := gi_b (lo := 0) (hi := 9999) g18 238 119 rfl
                  have b48 := gi_b (lo := 0) (hi := 9) g18 238 69 rfl
                  have e49 : h18 238 5 = h 238 5 := ((u18 238 5 rfl).trans (u13 238 5 rfl))
                  have e50 : h18 238 (43 + (h18 238 74).toNat) = h18 238 i32 := by rw [show 43 + (h18 238 74).toNat = i32 by omega]
                  refine ct_282_236_L0 hcr  g18   (show (h18 238 98) + (h18 238 99) + (h18 238 100) + (h18 238 101) + (h18 238 102) + (h18 238 106) = (h18 238 73) by omega) (show (h18 238 73) ≤ (h18 238 2) by omega) (show (h18 238 119) ≤ (h18 238 67) by omega) (show (h18 238 69) ≤ (h18 238 5) by omega) (show (h18 238 2) ≤ 12 * (h18 238 5) by omega) (show 1 ≤ (h18 238 98) by omega) (show (h18 238 67) ≤ 9998 by omega) (show (h18 238 102) ≤ 2 ∨ (h18 238 (43 + (h18 238 74).toNat)) ≤ 0 by omega) (fun h41 z51 g41 u41 (fz51 : 0 ≤ z51 ∧ z51 ≤ 11) (p41_0 : (h41 238 98) + (h41 238 99) + (h41 238 100) + (h41 238 101) + (h41 238 102) + (h41 238 106) = (h41 238 73)) (p41_1 : (h41 238 73) ≤ (h41 238 2)) (p41_2 : (h41 238 119) ≤ (h41 238 67)) (p41_3 : (h41 238 69) ≤ (h41 238 5)) (p41_4 : (h41 238 2) ≤ 12 * (h41 238 5)) => ?_)
                  have F52 := F19.then (by decide +kernel) u41
                  have F53 := u18.then (by decide +kernel) u41
                  have b54 := gi_b (lo := 0) (hi := 6) g41 238 98 rfl
                  have e55 : h41 238 99 = h18 238 99 := (u41 238 99 rfl)
                  have e56 : h41 238 100 = h18 238 100 := (u41 238 100 rfl)
                  have e57 : h41 238 101 = h18 238 101 := (u41 238 101 rfl)
                  have b58 := gi_b (lo := 0) (hi := 3) g41 238 102 rfl
                  have b59 := gi_b (lo := 0) (hi := 12) g41 238 106 rfl
                  have e60 : h41 238 73 = h 238 73 := ((u41 238 73 rfl).trans ((u18 238 73 rfl).trans (u13 238 73 rfl)))
                  have e61 : h41 238 2 = h 238 2 := ((u41 238 2 rfl).trans ((u18 238 2 rfl).trans (u13 238 2 rfl)))
                  have b62 := gi_b (lo := 0) (hi := 9999) g41 238 119 rfl
                  have b63 := gi_b (lo := 0) (hi := 9999) g41 238 67 rfl
                  have b64 := gi_b (lo := 0) (hi := 9) g41 238 69 rfl
                  have e65 : h41 238 5 = h 238 5 := ((u41 238 5 rfl).trans ((u18 238 5 rfl).trans (u13 238 5 rfl)))
                  refine wk_i ?_
                  refine wi_istore (i := 5) (e := z51) (lo2 := [(5, vi z51), (4, vi (h18 238 106)), (0, .ref 236), (1, vi x16), (3, vi x17)]) (nx := 55) (r1 := 0) (r2 := 0) (r3 := 0) rfl rfl ?_
                  refine wr_iinc (i := 1) (n := 1) (v := x16) (fun e66 => [(1, vi e66), (5, vi z51), (4, vi (h18 238 106)), (0, .ref 236), (3, vi x17)]) (nx := 58) (r1 := 0) (r2 := 0) (r3 := 0) rfl rfl (fun _ => rfl) (fun e66 (fe66 : e66 = x16 + 1) => ?_)
                  refine wi_aload_n (i := 0) (x := 236) (nx := 59) (r1 := 0) (r2 := 0) (r3 := 0) rfl rfl ?_
                  refine wr_gr (k0 := 236) (x := 238) (nx := 62) (r1 := 11) (r2 := 13) (r3 := 0) rfl rfl (by decide) rfl ⟨rfl, rfl⟩ rfl ?_
                  refine wi_bipush (n := 106) (nx := 64) (r1 := 0) (r2 := 0) (r3 := 0) rfl (by decide) ?_
                  refine wr_ia (k0 := 238) (a := 106) (f := 106) (x := h41 238 106) (nx := 65) (r1 := 0) (r2 := 0) (r3 := 0) rfl (by decide) rfl (by omega) (by omega) (by decide) rfl ?_
                  refine wi_iload (i := 4) (e := h18 238 106) (nx := 67) (r1 := 0) (r2 := 0) (r3 := 0) rfl rfl ?_
                  refine wi_icmp (cd := .le) (nx := 70) (r1 := 74) (r2 := 0) (r3 := 0) rfl (by omega) (by omega) (fun (q67 : (h41 238 106) ≤ (h18 238 106)) => ?_) (fun (q67 : ¬ ((h41 238 106) ≤ (h18 238 106))) => ?_)
                  ·
                    refine wi_iconst (n := 0) (nx := 75) (r1 := 0) (r2 := 0) (r3 := 0) rfl ?_
                    refine wi_istore_n (i := 3) (e := 0) (lo2 := [(3, vi 0), (1, vi e66), (5, vi z51), (4, vi (h18 238 106)), (0, .ref 236)]) (nx := 76) (r1 := 0) (r2 := 0) (r3 := 0) rfl rfl ?_
                    refine wi_goto (nx := 79) (r1 := 9) (r2 := 0) (r3 := 0) rfl ?_
                    refine wp.lo (lo := [(0, .ref 236), (1, vi e66), (3, vi 0)]) ⟨rfl, rfl, rfl, trivial⟩ rfl ?_
                    exact I18 e66 0 h41 ⟨g41, F52, F53, (show (0 ≤ e66 ∧ e66 ≤ 12) ∧ (0 ≤ 0 ∧ 0 ≤ 1) by omega)⟩ (show ((12 : Int) + 1 - e66).toNat < ((12 : Int) + 1 - x16).toNat by omega)
                  ·
                    refine wi_iconst (n := 1) (nx := 71) (r1 := 0) (r2 := 0) (r3 := 0) rfl ?_
                    refine wi_goto (nx := 74) (r1 := 75) (r2 := 0) (r3 := 0) rfl ?_
                    refine wi_istore_n (i := 3) (e := 1) (lo2 := [(3, vi 1), (1, vi e66), (5, vi z51), (4, vi (h18 238 106)), (0, .ref 236)]) (nx := 76) (r1 := 0) (r2 := 0) (r3 := 0) rfl rfl ?_
                    refine wi_goto (nx := 79) (r1 := 9) (r2 := 0) (r3 := 0) rfl ?_
                    refine wp.lo (lo := [(0, .ref 236), (1, vi e66), (3, vi 1)]) ⟨rfl, rfl, rfl, trivial⟩ rfl ?_
                    exact I18 e66 1 h41 ⟨g41, F52, F53, (show (0 ≤ e66 ∧ e66 ≤ 12) ∧ (0 ≤ 1 ∧ 1 ≤ 1) by omega)⟩ (show ((12 : Int) + 1 - e66).toNat < ((12 : Int) + 1 - x16).toNat by omega)
          ·
            refine wi_iconst (n := 0) (nx := 26) (r1 := 0) (r2 := 0) (r3 := 0) rfl ?_
            refine wi_zreturn (nx := 27) (r1 := 0) (r2 := 0) (r3 := 0) rfl rfl (by omega) ?_
            refine wk_i ?_
            refine wi_if (cd := .eq) (nx := 34) (r1 := 79) (r2 := 0) (r3 := 0) rfl (by omega) (fun (q30 : 0 = 0) => ?_) (fun (q30 : ¬ (0 = 0)) => by exfalso; omega)
            refine wi_iload_n (i := 1) (e := x16) (nx := 80) (r1 := 0) (r2 := 0) (r3 := 0) rfl rfl ?_
            refine wi_ireturn (nx := 81) (r1 := 0) (r2 := 0) (r3 := 0) rfl rfl ?_
            have b31 := gi_b (lo := 0) (hi := 6) g18 238 99 rfl
            have b32 := gi_b (lo := 0) (hi := 6) g18 238 100 rfl
            have b33 := gi_b (lo := 0) (hi := 6) g18 238 101 rfl
            have b34 := gi_b (lo := 0) (hi := 3) g18 238 102 rfl
            have b35 := gi_b (lo := 0) (hi := 12) g18 238 106 rfl
            have e36 : h18 238 73 = h 238 73 := ((u18 238 73 rfl).trans (u13 238 73 rfl))
            have e37 : h18 238 2 = h 238 2 := ((u18 238 2 rfl).trans (u13 238 2 rfl))
            have b38 := gi_b (lo := 0) (hi := 9999) g18 238 119 rfl
            have b39 := gi_b (lo := 0) (hi := 9) g18 238 69 rfl
            have e40 : h18 238 5 = h 238 5 := ((u18 238 5 rfl).trans (u13 238 5 rfl))
            exact k h18 x16 g18 F19 (by omega) (show (h18 238 98) + (h18 238 99) + (h18 238 100) + (h18 238 101) + (h18 238 102) + (h18 238 106) = (h18 238 73) by omega) (show (h18 238 73) ≤ (h18 238 2) by omega) (show (h18 238 119) ≤ (h18 238 67) by omega) (show (h18 238 69) ≤ (h18 238 5) by omega) (show (h18 238 2) ≤ 12 * (h18 238 5) by omega)
      ·
        rw [q25]
        refine wr_V (k0 := 236) (rest := []) (as := [.ref 236, vi 1]) (nx := 31) (r1 := 267) (r2 := 1) (r3 := 11) rfl rfl rfl (of_decide_eq_true rfl) rfl rfl (by decide) rfl rfl (of_decide_eq_true rfl) (of_decide_eq_true rfl) ?_
        refine wi_aload_n (i := 0) (x := 236) (nx := 1) (r1 := 0) (r2 := 0) (r3 := 0) rfl rfl ?_
        refine wr_gr (k0 := 236) (x := 238) (nx := 4) (r1 := 11) (r2 := 13) (r3 := 0) rfl rfl (by decide) rfl ⟨rfl, rfl⟩ rfl ?_
        refine wi_bipush (n := 98) (nx := 6) (r1 := 0) (r2 := 0) (r3 := 0) rfl (by decide) ?_
        refine wi_iload_n (i := 1) (e := 1) (nx := 7) (r1 := 0) (r2 := 0) (r3 := 0) rfl rfl ?_
        refine wr_addL (99) (nx := 8) (r1 := 0) (r2 := 0) (r3 := 0) rfl (by decide) ?_
        have b26 := gi_b (lo := 0) (hi := 6) g18 238 99 rfl
        refine wr_ia (k0 := 238) (a := 99) (f := 99) (x := h18 238 99) (nx := 9) (r1 := 0) (r2 := 0) (r3 := 0) rfl (by decide) rfl (by omega) (by omega) (by decide) rfl ?_
        refine wi_if (cd := .eq) (nx := 12) (r1 := 25) (r2 := 0) (r3 := 0) rfl (by omega) (fun (q27 : (h18 238 99) = 0) => ?_) (fun (q27 : ¬ ((h18 238 99) = 0)) => ?_)
        ·
          refine wi_iconst (n := 0) (nx := 26) (r1 := 0) (r2 := 0) (r3 := 0) rfl ?_
          refine wi_zreturn (nx := 27) (r1 := 0) (r2 := 0) (r3 := 0) rfl rfl (by omega) ?_
          refine wk_i ?_
          refine wi_if (cd := .eq) (nx := 34) (r1 := 79) (r2 := 0) (r3 := 0) rfl (by omega) (fun (q28 : 0 = 0) => ?_) (fun (q28 : ¬ (0 = 0)) => by exfalso; omega)
          refine wi_iload_n (i := 1) (e := x16) (nx := 80) (r1 := 0) (r2 := 0) (r3 := 0) rfl rfl ?_
          refine wi_ireturn (nx := 81) (r1 := 0) (r2 := 0) (r3 := 0) rfl rfl ?_
          have b29 := gi_b (lo := 0) (hi := 6) g18 238 98 rfl
          have b30 := gi_b (lo := 0) (hi := 6) g18 238 100 rfl
          have b31 := gi_b (lo := 0) (hi := 6) g18 238 101 rfl
          have b32 := gi_b (lo := 0) (hi := 3) g18 238 102 rfl
          have b33 := gi_b (lo := 0) (hi := 12) g18 238 106 rfl
          have e34 : h18 238 73 = h 238 73 := ((u18 238 73 rfl).trans (u13 238 73 rfl))
          have e35 : h18 238 2 = h 238 2 := ((u18 238 2 rfl).trans (u13 238 2 rfl))
          have b36 := gi_b (lo := 0) (hi := 9999) g18 238 119 rfl
          have b37 := gi_b (lo := 0) (hi := 9999) g18 238 67 rfl
          have b38 := gi_b (lo := 0) (hi := 9) g18 238 69 rfl
          have e39 : h18 238 5 = h 238 5 := ((u18 238 5 rfl).trans (u13 238 5 rfl))
          exact k h18 x16 g18 F19 (by omega) (show (h18 238 98) + (h18 238 99) + (h18 238 100) + (h18 238 101) + (h18 238 102) + (h18 238 106) = (h18 238 73) by omega) (show (h18 238 73) ≤ (h18 238 2) by omega) (show (h18 238 119) ≤ (h18 238 67) by omega) (show (h18 238 69) ≤ (h18 238 5) by omega) (show (h18 238 2) ≤ 12 * (h18 238 5) by omega)
        ·
          refine wi_aload_n (i := 0) (x := 236) (nx := 13) (r1 := 0) (r2 := 0) (r3 := 0) rfl rfl ?_
          refine wr_gr (k0 := 236) (x := 238) (nx := 16) (r1 := 11) (r2 := 13) (r3 := 0) rfl rfl (by decide) rfl ⟨rfl, rfl⟩ rfl ?_
          refine wi_bipush (n := 67) (nx := 18) (r1 := 0) (r2 := 0) (r3 := 0) rfl (by decide) ?_
          have b28 := gi_b (lo := 0) (hi := 9999) g18 238 67 rfl
          refine wr_ia (k0 := 238) (a := 67) (f := 67) (x := h18 238 67) (nx := 19) (r1 := 0) (r2 := 0) (r3 := 0) rfl (by decide) rfl (by omega) (by omega) (by decide) rfl ?_
          refine wi_sipush (n := 9999) (nx := 22) (r1 := 0) (r2 := 0) (r3 := 0) rfl (by decide) ?_
          refine wi_icmp (cd := .ne) (nx := 25) (r1 := 27) (r2 := 0) (r3 := 0) rfl (by omega) (by omega) (fun (q29 : (h18 238 67) ≠ 9999) => ?_) (fun (q29 : ¬ ((h18 238 67) ≠ 9999)) => ?_)
          ·
            refine wi_aload_n (i := 0) (x := 236) (nx := 28) (r1 := 0) (r2 := 0) (r3 := 0) rfl rfl ?_
            refine wi_iload_n (i := 1) (e := 1) (nx := 29) (r1 := 0) (r2 := 0) (r3 := 0) rfl rfl ?_
            refine wi_iconst (n := 0) (nx := 30) (r1 := 0) (r2 := 0) (r3 := 0) rfl ?_
            refine wr_V (k0 := 236) (rest := []) (as := [.ref 236, vi 1, vi 0]) (nx := 33) (r1 := 258) (r2 := 2) (r3 := 11) rfl rfl rfl (of_decide_eq_true rfl) rfl rfl (by decide) rfl rfl (of_decide_eq_true rfl) (of_decide_eq_true rfl) ?_
            refine wi_aload_n (i := 0) (x := 236) (nx := 1) (r1 := 0) (r2 := 0) (r3 := 0) rfl rfl ?_
            refine wr_gr (k0 := 236) (x := 238) (nx := 4) (r1 := 11) (r2 := 13) (r3 := 0) rfl rfl (by decide) rfl ⟨rfl, rfl⟩ rfl ?_
            refine wi_bipush (n := 74) (nx := 6) (r1 := 0) (r2 := 0) (r3 := 0) rfl (by decide) ?_
            refine wi_bipush (n := 6) (nx := 8) (r1 := 0) (r2 := 0) (r3 := 0) rfl (by decide) ?_
            refine wi_iload_n (i := 1) (e := 1) (nx := 9) (r1 := 0) (r2 := 0) (r3 := 0) rfl rfl ?_
            refine wr_mulL (6) (nx := 10) (r1 := 0) (r2 := 0) (r3 := 0) rfl (by decide) ?_
            refine wr_addL (80) (nx := 11) (r1 := 0) (r2 := 0) (r3 := 0) rfl (by decide) ?_
            refine wi_iload_n (i := 2) (e := 0) (nx := 12) (r1 := 0) (r2 := 0) (r3 := 0) rfl rfl ?_
            refine wr_addL (80) (nx := 13) (r1 := 0) (r2 := 0) (r3 := 0) rfl (by decide) ?_
            have b30 := gi_b (lo := 0) (hi := 11) g18 238 80 rfl
            refine wr_ia (k0 := 238) (a := 80) (f := 80) (x := h18 238 80) (nx := 14) (r1 := 0) (r2 := 0) (r3 := 0) rfl (by decide) rfl (by omega) (by omega) (by decide) rfl ?_
            refine wi_ireturn (nx := 15) (r1 := 0) (r2 := 0) (r3 := 0) rfl rfl ?_
            refine wk_i ?_
            refine wi_istore_n (i := 2) (e := h18 238 80) (lo2 := [(2, vi (h18 238 80)), (0, .ref 236), (1, vi 1)]) (nx := 34) (r1 := 0) (r2 := 0) (r3 := 0) rfl rfl ?_
            refine wi_aload_n (i := 0) (x := 236) (nx := 35) (r1 := 0) (r2 := 0) (r3 := 0) rfl rfl ?_
            refine wr_gr (k0 := 236) (x := 238) (nx := 38) (r1 := 11) (r2 := 13) (r3 := 0) rfl rfl (by decide) rfl ⟨rfl, rfl⟩ rfl ?_
            refine wi_bipush (n := 43) (nx := 40) (r1 := 0) (r2 := 0) (r3 := 0) rfl (by decide) ?_
            refine wi_iload_n (i := 2) (e := h18 238 80) (nx := 41) (r1 := 0) (r2 := 0) (r3 := 0) rfl rfl ?_
            refine wr_add (nx := 42) (r1 := 0) (r2 := 0) (r3 := 0) rfl (fun e31 (fe31 : e31 = 43 + (h18 238 80)) => ?_)
            obtain ⟨i32, ei32⟩ : ∃ q : Nat, e31 = (q : Int) := ⟨(e31).toNat, by omega⟩
            have b33 := gi_b (lo := 0) (hi := 999) g18 238 i32 (gi_rg 43 12 (fun _ => rfl) (by decide +kernel) (by omega))
            refine wr_ia (k0 := 238) (a := e31) (f := i32) (x := h18 238 i32) (nx := 43) (r1 := 0) (r2 := 0) (r3 := 0) rfl (by decide) rfl (by omega) (by omega) (by decide) rfl ?_
            refine wi_if (cd := .le) (nx := 46) (r1 := 71) (r2 := 0) (r3 := 0) rfl (by omega) (fun (q34 : (h18 238 i32) ≤ 0) => ?_) (fun (q34 : ¬ ((h18 238 i32) ≤ 0)) => ?_)
            ·
              refine wi_iload_n (i := 2) (e := h18 238 80) (nx := 72) (r1 := 0) (r2 := 0) (r3 := 0) rfl rfl ?_
              refine wi_aload_n (i := 0) (x := 236) (nx := 73) (r1 := 0) (r2 := 0) (r3 := 0) rfl rfl ?_
              refine wr_gr (k0 := 236) (x := 238) (nx := 76) (r1 := 11) (r2 := 13) (r3 := 0) rfl rfl (by decide) rfl ⟨rfl, rfl⟩ rfl ?_
              refine wi_bipush (n := 106) (nx := 78) (r1 := 0) (r2 := 0) (r3 := 0) rfl (by decide) ?_
              have b35 := gi_b (lo := 0) (hi := 12) g18 238 106 rfl
              refine wr_ia (k0 := 238) (a := 106) (f := 106) (x := h18 238 106) (nx := 79) (r1 := 0) (r2 := 0) (r3 := 0) rfl (by decide) rfl (by omega) (by omega) (by decide) rfl ?_
              refine wr_sub (nx := 80) (r1 := 0) (r2 := 0) (r3 := 0) rfl (fun e36 (fe36 : e36 = (h18 238 80) - (h18 238 106)) => ?_)
              refine wi_aload_n (i := 0) (x := 236) (nx := 81) (r1 := 0) (r2 := 0) (r3 := 0) rfl rfl ?_
              refine wr_gr (k0 := 236) (x := 238) (nx := 84) (r1 := 11) (r2 := 13) (r3 := 0) rfl rfl (by decide) rfl ⟨rfl, rfl⟩ rfl ?_
              refine wi_iconst (n := 3) (nx := 85) (r1 := 0) (r2 := 0) (r3 := 0) rfl ?_
              have b37 := gi_b (lo := 0) (hi := 999) g 238 3 rfl
              refine wr_ia (k0 := 238) (a := 3) (f := 3) (x := h 238 3) (nx := 86) (r1 := 0) (r2 := 0) (r3 := 0) rfl (by decide) rfl (by omega) (by omega) (by decide) ((u18 238 3 rfl).trans (u13 238 3 rfl)) ?_
              refine wi_icmp (cd := .gt) (nx := 89) (r1 := 93) (r2 := 0) (r3 := 0) rfl (by omega) (by omega) (fun (q38 : (h 238 3) < e36) => ?_) (fun (q38 : ¬ ((h 238 3) < e36)) => ?_)
              ·
                refine wi_iconst (n := 0) (nx := 94) (r1 := 0) (r2 := 0) (r3 := 0) rfl ?_
                refine wi_zreturn (nx := 95) (r1 := 0) (r2 := 0) (r3 := 0) rfl rfl (by omega) ?_
                refine wk_i ?_
                refine wi_if (cd := .eq) (nx := 34) (r1 := 79) (r2 := 0) (r3 := 0) rfl (by omega) (fun (q39 : 0 = 0) => ?_) (fun (q39 : ¬ (0 = 0)) => by exfalso; omega)
                refine wi_iload_n (i := 1) (e := x16) (nx := 80) (r1 := 0) (r2 := 0) (r3 := 0) rfl rfl ?_
                refine wi_ireturn (nx := 81) (r1 := 0) (r2 := 0) (r3 := 0) rfl rfl ?_
                have b40 := gi_b (lo := 0) (hi := 6) g18 238 98 rfl
                have b41 := gi_b (lo := 0) (hi := 6) g18 238 100 rfl
                have b42 := gi_b (lo := 0) (hi := 6) g18 238 101 rfl
                have b43 := gi_b (lo := 0) (hi := 3) g18 238 102 rfl
                have e44 : h18 238 73 = h 238 73 := ((u18 238 73 rfl).trans (u13 238 73 rfl))
                have e45 : h18 238 2 = h 238 2 := ((u18 238 2 rfl).trans (u13 238 2 rfl))
                have b46 := gi_b (lo := 0) (hi := 9999) g18 238 119 rfl
                have b47 := gi_b (lo := 0) (hi := 9) g18 238 69 rfl
                have e48 : h18 238 5 = h 238 5 := ((u18 238 5 rfl).trans (u13 238 5 rfl))
                exact k h18 x16 g18 F19 (by omega) (show (h18 238 98) + (h18 238 99) + (h18 238 100) + (h18 238 101) + (h18 238 102) + (h18 238 106) = (h18 238 73) by omega) (show (h18 238 73) ≤ (h18 238 2) by omega) (show (h18 238 119) ≤ (h18 238 67) by omega) (show (h18 238 69) ≤ (h18 238 5) by omega) (show (h18 238 2) ≤ 12 * (h18 238 5) by omega)
              ·
                refine wi_iconst (n := 1) (nx := 90) (r1 := 0) (r2 := 0) (r3 := 0) rfl ?_
                refine wi_goto (nx := 93) (r1 := 94) (r2 := 0) (r3 := 0) rfl ?_
                refine wi_zreturn (nx := 95) (r1 := 0) (r2 := 0) (r3 := 0) rfl rfl (by omega) ?_
                refine wk_i ?_
                refine wi_if (cd := .eq) (nx := 34) (r1 := 79) (r2 := 0) (r3 := 0) rfl (by omega) (fun (q39 : 1 = 0) => by exfalso; omega) (fun (q39 : ¬ (1 = 0)) => ?_)
                refine wi_aload_n (i := 0) (x := 236) (nx := 35) (r1 := 0) (r2 := 0) (r3 := 0) rfl rfl ?_
                refine wr_gr (k0 := 236) (x := 238) (nx := 38) (r1 := 11) (r2 := 13) (r3 := 0) rfl rfl (by decide) rfl ⟨rfl, rfl⟩ rfl ?_
                refine wi_bipush (n := 106) (nx := 40) (r1 := 0) (r2 := 0) (r3 := 0) rfl (by decide) ?_
                refine wr_ia (k0 := 238) (a := 106) (f := 106) (x := h18 238 106) (nx := 41) (r1 := 0) (r2 := 0) (r3 := 0) rfl (by decide) rfl (by omega) (by omega) (by decide) rfl ?_
                refine wi_istore (i := 4) (e := h18 238 106) (lo2 := [(4, vi (h18 238 106)), (0, .ref 236), (1, vi x16), (3, vi x17)]) (nx := 43) (r1 := 0) (r2 := 0) (r3 := 0) rfl rfl ?_
                refine wi_aload_n (i := 0) (x := 236) (nx := 44) (r1 := 0) (r2 := 0) (r3 := 0) rfl rfl ?_
                refine wi_aload_n (i := 0) (x := 236) (nx := 45) (r1 := 0) (r2 := 0) (r3 := 0) rfl rfl ?_
                refine wr_gr (k0 := 236) (x := 248) (nx := 48) (r1 := 11) (r2 := 31) (r3 := 0) rfl rfl (by decide) rfl ⟨rfl, rfl⟩ rfl ?_
                refine wi_iload_n (i := 1) (e := x16) (nx := 49) (r1 := 0) (r2 := 0) (r3 := 0) rfl rfl ?_
                refine wr_ia (k0 := 248) (a := x16) (f := i23) (x := h13 248 i23) (nx := 50) (r1 := 0) (r2 := 0) (r3 := 0) rfl (by decide) rfl (by omega) (by omega) (by decide) (u18 248 i23 (fn_a (by omega) (fn_a (by omega) (fn_a (by omega) (fn_a (by omega) (fn_a (by omega) (fn_a (by omega) (fn_a (by omega) (fn_a (by omega) (fn_a (by omega) (fn_a (by omega) (fn_a (by omega) (fn_a (by omega) (fn_a (by omega) (fn_a (by omega) (fn_a (by omega) (fn_a (by omega) (fn_a (by omega) (fn_a (by omega) (fn_a (by omega) (fn_a (by omega) (fn_a (by omega) (fn_a (by omega) (fn_a (by omega) (fn_a (by omega) (fn_a (by omega) fn_0)))))))))))))))))))))))))) ?_
                rcases (show (h13 248 i23) = 1 by omega) with q40
                ·
                  rw [q40]
                  refine wr_V (k0 := 236) (rest := []) (as := [.ref 236, vi 1]) (nx := 53) (r1 := 282) (r2 := 1) (r3 := 11) rfl rfl rfl (of_decide_eq_true rfl) rfl rfl (by decide) rfl rfl (of_decide_eq_true rfl) (of_decide_eq_true rfl) ?_
                  have b42 := gi_b (lo := 0) (hi := 6) g18 238 98 rfl
                  have b43 := gi_b (lo := 0) (hi := 6) g18 238 100 rfl
                  have b44 := gi_b (lo := 0) (hi := 6) g18 238 101 rfl
                  have b45 := gi_b (lo := 0) (hi := 3) g18 238 102 rfl
                  have e46 : h18 238 73 = h 238 73 := ((u18 238 73 rfl).trans (u13 238 73 rfl))
                  have e47 : h18 238 2 = h 238 2 := ((u18 238 2 rfl).trans (u13 238 2 rfl))
                  have b48 := gi_b (lo := 0) (hi := 9999) g18 238 119 rfl
                  have b49 := gi_b (lo := 0) (hi := 9) g18 238 69 rfl
                  have e50 : h18 238 5 = h 238 5 := ((u18 238 5 rfl).trans (u13 238 5 rfl))
                  have e51 : h18 238 (43 + (h18 238 80).toNat) = h18 238 i32 := by rw [show 43 + (h18 238 80).toNat = i32 by omega]
                  refine ct_282_236_L1 hcr  g18   (show (h18 238 98) + (h18 238 99) + (h18 238 100) + (h18 238 101) + (h18 238 102) + (h18 238 106) = (h18 238 73) by omega) (show (h18 238 73) ≤ (h18 238 2) by omega) (show (h18 238 119) ≤ (h18 238 67) by omega) (show (h18 238 69) ≤ (h18 238 5) by omega) (show (h18 238 2) ≤ 12 * (h18 238 5) by omega) (show 1 ≤ (h18 238 99) by omega) (show (h18 238 67) ≤ 9998 by omega) (show (h18 238 102) ≤ 2 ∨ (h18 238 (43 + (h18 238 80).toNat)) ≤ 0 by omega) (fun h41 z52 g41 u41 (fz52 : 0 ≤ z52 ∧ z52 ≤ 11) (p41_0 : (h41 238 98) + (h41 238 99) + (h41 238 100) + (h41 238 101) + (h41 238 102) + (h41 238 106) = (h41 238 73)) (p41_1 : (h41 238 73) ≤ (h41 238 2)) (p41_2 : (h41 238 119) ≤ (h41 238 67)) (p41_3 : (h41 238 69) ≤ (h41 238 5)) (p41_4 : (h41 238 2) ≤ 12 * (h41 238 5)) => ?_)
                  have F53 := F19.then (by decide +kernel) u41
                  have F54 := u18.then (by decide +kernel) u41
                  have e55 : h41 238 98 = h18 238 98 := (u41 238 98 rfl)
                  have b56 := gi_b (lo := 0) (hi := 6) g41 238 99 rfl
                  have e57 : h41 238 100 = h18 238 100 := (u41 238 100 rfl)
                  have e58 : h41 238 101 = h18 238 101 := (u41 238 101 rfl)
                  have b59 := gi_b (lo := 0) (hi := 3) g41 238 102 rfl
                  have b60 := gi_b (lo := 0) (hi := 12) g41 238 106 rfl
                  have e61 : h41 238 73 = h 238 73 := ((u41 238 73 rfl).trans ((u18 238 73 rfl).trans (u13 238 73 rfl)))
                  have e62 : h41 238 2 = h 238 2 := ((u41 238 2 rfl).trans ((u18 238 2 rfl).trans (u13 238 2 rfl)))
                  have b63 := gi_b (lo := 0) (hi := 9999) g41 238 119 rfl
                  have b64 := gi_b (lo := 0) (hi := 9999) g41 238 67 rfl
                  have b65 := gi_b (lo := 0) (hi := 9) g41 238 69 rfl
                  have e66 : h41 238 5 = h 238 5 := ((u41 238 5 rfl).trans ((u18 238 5 rfl).trans (u13 238 5 rfl)))
                  refine wk_i ?_
                  refine wi_istore (i := 5) (e := z52) (lo2 := [(5, vi z52), (4, vi (h18 238 106)), (0, .ref 236), (1, vi x16), (3, vi x17)]) (nx := 55) (r1 := 0) (r2 := 0) (r3 := 0) rfl rfl ?_
                  refine wr_iinc (i := 1) (n := 1) (v := x16) (fun e67 => [(1, vi e67), (5, vi z52), (4, vi (h18 238 106)), (0, .ref 236), (3, vi x17)]) (nx := 58) (r1 := 0) (r2 := 0) (r3 := 0) rfl rfl (fun _ => rfl) (fun e67 (fe67 : e67 = x16 + 1) => ?_)
                  refine wi_aload_n (i := 0) (x := 236) (nx := 59) (r1 := 0) (r2 := 0) (r3 := 0) rfl rfl ?_
                  refine wr_gr (k0 := 236) (x := 238) (nx := 62) (r1 := 11) (r2 := 13) (r3 := 0) rfl rfl (by decide) rfl ⟨rfl, rfl⟩ rfl ?_
                  refine wi_bipush (n := 106) (nx := 64) (r1 := 0) (r2 := 0) (r3 := 0) rfl (by decide) ?_
                  refine wr_ia (k0 := 238) (a := 106) (f := 106) (x := h41 238 106) (nx := 65) (r1 := 0) (r2 := 0) (r3 := 0) rfl (by decide) rfl (by omega) (by omega) (by decide) rfl ?_
                  refine wi_iload (i := 4) (e := h18 238 106) (nx := 67) (r1 := 0) (r2 := 0) (r3 := 0) rfl rfl ?_
                  refine wi_icmp (cd := .le) (nx := 70) (r1 := 74) (r2 := 0) (r3 := 0) rfl (by omega) (by omega) (fun (q68 : (h41 238 106) ≤ (h18 238 106)) => ?_) (fun (q68 : ¬ ((h41 238 106) ≤ (h18 238 106))) => ?_)
                  ·
                    refine wi_iconst (n := 0) (nx := 75) (r1 := 0) (r2 := 0) (r3 := 0) rfl ?_
                    refine wi_istore_n (i := 3) (e := 0) (lo2 := [(3, vi 0), (1, vi e67), (5, vi z52), (4, vi (h18 238 106)), (0, .ref 236)]) (nx := 76) (r1 := 0) (r2 := 0) (r3 := 0) rfl rfl ?_
                    refine wi_goto (nx := 79) (r1 := 9) (r2 := 0) (r3 := 0) rfl ?_
                    refine wp.lo (lo := [(0, .ref 236), (1, vi e67), (3, vi 0)]) ⟨rfl, rfl, rfl, trivial⟩ rfl ?_
                    exact I18 e67 0 h41 ⟨g41, F53, F54, (show (0 ≤ e67 ∧ e67 ≤ 12) ∧ (0 ≤ 0 ∧ 0 ≤ 1) by omega)⟩ (show ((12 : Int) + 1 - e67).toNat < ((12 : Int) + 1 - x16).toNat by omega)
                  ·
                    refine wi_iconst (n := 1) (nx := 71) (r1 := 0) (r2 := 0) (r3 := 0) rfl ?_
                    refine wi_goto (nx := 74) (r1 := 75) (r2 := 0) (r3 := 0) rfl ?_
                    refine wi_istore_n (i := 3) (e := 1) (lo2 := [(3, vi 1), (1, vi e67), (5, vi z52), (4, vi (h18 238 106)), (0, .ref 236)]) (nx := 76) (r1 := 0) (r2 := 0) (r3 := 0) rfl rfl ?_
                    refine wi_goto (nx := 79) (r1 := 9) (r2 := 0) (r3 := 0) rfl ?_
                    refine wp.lo (lo := [(0, .ref 236), (1, vi e67), (3, vi 1)]) ⟨rfl, rfl, rfl, trivial⟩ rfl ?_
                    exact I18 e67 1 h41 ⟨g41, F53, F54, (show (0 ≤ e67 ∧ e67 ≤ 12) ∧ (0 ≤ 1 ∧ 1 ≤ 1) by omega)⟩ (show ((12 : Int) + 1 - e67).toNat < ((12 : Int) + 1 - x16).toNat by omega)
            ·
              refine wi_aload_n (i := 0) (x := 236) (nx := 47) (r1 := 0) (r2 := 0) (r3 := 0) rfl rfl ?_
              refine wr_gr (k0 := 236) (x := 238) (nx := 50) (r1 := 11) (r2 := 13) (r3 := 0) rfl rfl (by decide) rfl ⟨rfl, rfl⟩ rfl ?_
              refine wi_bipush (n := 102) (nx := 52) (r1 := 0) (r2 := 0) (r3 := 0) rfl (by decide) ?_
              have b35 := gi_b (lo := 0) (hi := 3) g18 238 102 rfl
              refine wr_ia (k0 := 238) (a := 102) (f := 102) (x := h18 238 102) (nx := 53) (r1 := 0) (r2 := 0) (r3 := 0) rfl (by decide) rfl (by omega) (by omega) (by decide) rfl ?_
              refine wi_aload_n (i := 0) (x := 236) (nx := 54) (r1 := 0) (r2 := 0) (r3 := 0) rfl rfl ?_
              refine wr_gr (k0 := 236) (x := 238) (nx := 57) (r1 := 11) (r2 := 13) (r3 := 0) rfl rfl (by decide) rfl ⟨rfl, rfl⟩ rfl ?_
              refine wi_bipush (n := 7) (nx := 59) (r1 := 0) (r2 := 0) (r3 := 0) rfl (by decide) ?_
              have b36 := gi_b (lo := 0) (hi := 3) g 238 7 rfl
              refine wr_ia (k0 := 238) (a := 7) (f := 7) (x := h 238 7) (nx := 60) (r1 := 0) (r2 := 0) (r3 := 0) rfl (by decide) rfl (by omega) (by omega) (by decide) ((u18 238 7 rfl).trans (u13 238 7 rfl)) ?_
              refine wi_icmp (cd := .ge) (nx := 63) (r1 := 67) (r2 := 0) (r3 := 0) rfl (by omega) (by omega) (fun (q37 : (h 238 7) ≤ (h18 238 102)) => ?_) (fun (q37 : ¬ ((h 238 7) ≤ (h18 238 102))) => ?_)
              ·
                refine wi_iconst (n := 0) (nx := 68) (r1 := 0) (r2 := 0) (r3 := 0) rfl ?_
                refine wi_goto (nx := 71) (r1 := 94) (r2 := 0) (r3 := 0) rfl ?_
                refine wi_zreturn (nx := 95) (r1 := 0) (r2 := 0) (r3 := 0) rfl rfl (by omega) ?_
                refine wk_i ?_
                refine wi_if (cd := .eq) (nx := 34) (r1 := 79) (r2 := 0) (r3 := 0) rfl (by omega) (fun (q38 : 0 = 0) => ?_) (fun (q38 : ¬ (0 = 0)) => by exfalso; omega)
                refine wi_iload_n (i := 1) (e := x16) (nx := 80) (r1 := 0) (r2 := 0) (r3 := 0) rfl rfl ?_
                refine wi_ireturn (nx := 81) (r1 := 0) (r2 := 0) (r3 := 0) rfl rfl ?_
                have b39 := gi_b (lo := 0) (hi := 6) g18 238 98 rfl
                have b40 := gi_b (lo := 0) (hi := 6) g18 238 100 rfl
                have b41 := gi_b (lo := 0) (hi := 6) g18 238 101 rfl
                have b42 := gi_b (lo := 0) (hi := 12) g18 238 106 rfl
                have e43 : h18 238 73 = h 238 73 := ((u18 238 73 rfl).trans (u13 238 73 rfl))
                have e44 : h18 238 2 = h 238 2 := ((u18 238 2 rfl).trans (u13 238 2 rfl))
                have b45 := gi_b (lo := 0) (hi := 9999) g18 238 119 rfl
                have b46 := gi_b (lo := 0) (hi := 9) g18 238 69 rfl
                have e47 : h18 238 5 = h 238 5 := ((u18 238 5 rfl).trans (u13 238 5 rfl))
                exact k h18 x16 g18 F19 (by omega) (show (h18 238 98) + (h18 238 99) + (h18 238 100) + (h18 238 101) + (h18 238 102) + (h18 238 106) = (h18 238 73) by omega) (show (h18 238 73) ≤ (h18 238 2) by omega) (show (h18 238 119) ≤ (h18 238 67) by omega) (show (h18 238 69) ≤ (h18 238 5) by omega) (show (h18 238 2) ≤ 12 * (h18 238 5) by omega)
              ·
                refine wi_iconst (n := 1) (nx := 64) (r1 := 0) (r2 := 0) (r3 := 0) rfl ?_
                refine wi_goto (nx := 67) (r1 := 94) (r2 := 0) (r3 := 0) rfl ?_
                refine wi_zreturn (nx := 95) (r1 := 0) (r2 := 0) (r3 := 0) rfl rfl (by omega) ?_
                refine wk_i ?_
                refine wi_if (cd := .eq) (nx := 34) (r1 := 79) (r2 := 0) (r3 := 0) rfl (by omega) (fun (q38 : 1 = 0) => by exfalso; omega) (fun (q38 : ¬ (1 = 0)) => ?_)
                refine wi_aload_n (i := 0) (x := 236) (nx := 35) (r1 := 0) (r2 := 0) (r3 := 0) rfl rfl ?_
                refine wr_gr (k0 := 236) (x := 238) (nx := 38) (r1 := 11) (r2 := 13) (r3 := 0) rfl rfl (by decide) rfl ⟨rfl, rfl⟩ rfl ?_
                refine wi_bipush (n := 106) (nx := 40) (r1 := 0) (r2 := 0) (r3 := 0) rfl (by decide) ?_
                have b39 := gi_b (lo := 0) (hi := 12) g18 238 106 rfl
                refine wr_ia (k0 := 238) (a := 106) (f := 106) (x := h18 238 106) (nx := 41) (r1 := 0) (r2 := 0) (r3 := 0) rfl (by decide) rfl (by omega) (by omega) (by decide) rfl ?_
                refine wi_istore (i := 4) (e := h18 238 106) (lo2 := [(4, vi (h18 238 106)), (0, .ref 236), (1, vi x16), (3, vi x17)]) (nx := 43) (r1 := 0) (r2 := 0) (r3 := 0) rfl rfl ?_
                refine wi_aload_n (i := 0) (x := 236) (nx := 44) (r1 := 0) (r2 := 0) (r3 := 0) rfl rfl ?_
                refine wi_aload_n (i := 0) (x := 236) (nx := 45) (r1 := 0) (r2 := 0) (r3 := 0) rfl rfl ?_
                refine wr_gr (k0 := 236) (x := 248) (nx := 48) (r1 := 11) (r2 := 31) (r3 := 0) rfl rfl (by decide) rfl ⟨rfl, rfl⟩ rfl ?_
                refine wi_iload_n (i := 1) (e := x16) (nx := 49) (r1 := 0) (r2 := 0) (r3 := 0) rfl rfl ?_
                refine wr_ia (k0 := 248) (a := x16) (f := i23) (x := h13 248 i23) (nx := 50) (r1 := 0) (r2 := 0) (r3 := 0) rfl (by decide) rfl (by omega) (by omega) (by decide) (u18 248 i23 (fn_a (by omega) (fn_a (by omega) (fn_a (by omega) (fn_a (by omega) (fn_a (by omega) (fn_a (by omega) (fn_a (by omega) (fn_a (by omega) (fn_a (by omega) (fn_a (by omega) (fn_a (by omega) (fn_a (by omega) (fn_a (by omega) (fn_a (by omega) (fn_a (by omega) (fn_a (by omega) (fn_a (by omega) (fn_a (by omega) (fn_a (by omega) (fn_a (by omega) (fn_a (by omega) (fn_a (by omega) (fn_a (by omega) (fn_a (by omega) (fn_a (by omega) fn_0)))))))))))))))))))))))))) ?_
                rcases (show (h13 248 i23) = 1 by omega) with q40
                ·
                  rw [q40]
                  refine wr_V (k0 := 236) (rest := []) (as := [.ref 236, vi 1]) (nx := 53) (r1 := 282) (r2 := 1) (r3 := 11) rfl rfl rfl (of_decide_eq_true rfl) rfl rfl (by decide) rfl rfl (of_decide_eq_true rfl) (of_decide_eq_true rfl) ?_
                  have b42 := gi_b (lo := 0) (hi := 6) g18 238 98 rfl
                  have b43 := gi_b (lo := 0) (hi := 6) g18 238 100 rfl
                  have b44 := gi_b (lo := 0) (hi := 6) g18 238 101 rfl
                  have e45 : h18 238 73 = h 238 73 := ((u18 238 73 rfl).trans (u13 238 73 rfl))
                  have e46 : h18 238 2 = h 238 2 := ((u18 238 2 rfl).trans (u13 238 2 rfl))
                  have b47 := gi_b (lo := 0) (hi := 9999) g18 238 119 rfl
                  have b48 := gi_b (lo := 0) (hi := 9) g18 238 69 rfl
                  have e49 : h18 238 5 = h 238 5 := ((u18 238 5 rfl).trans (u13 238 5 rfl))
                  have e50 : h18 238 (43 + (h18 238 80).toNat) = h18 238 i32 := by rw [show 43 + (h18 238 80).toNat = i32 by omega]
                  refine ct_282_236_L1 hcr  g18   (show (h18 238 98) + (h18 238 99) + (h18 238 100) + (h18 238 101) + (h18 238 102) + (h18 238 106) = (h18 238 73) by omega) (show (h18 238 73) ≤ (h18 238 2) by omega) (show (h18 238 119) ≤ (h18 238 67) by omega) (show (h18 238 69) ≤ (h18 238 5) by omega) (show (h18 238 2) ≤ 12 * (h18 238 5) by omega) (show 1 ≤ (h18 238 99) by omega) (show (h18 238 67) ≤ 9998 by omega) (show (h18 238 102) ≤ 2 ∨ (h18 238 (43 + (h18 238 80).toNat)) ≤ 0 by omega) (fun h41 z51 g41 u41 (fz51 : 0 ≤ z51 ∧ z51 ≤ 11) (p41_0 : (h41 238 98) + (h41 238 99) + (h41 238 100) + (h41 238 101) + (h41 238 102) + (h41 238 106) = (h41 238 73)) (p41_1 : (h41 238 73) ≤ (h41 238 2)) (p41_2 : (h41 238 119) ≤ (h41 238 67)) (p41_3 : (h41 238 69) ≤ (h41 238 5)) (p41_4 : (h41 238 2) ≤ 12 * (h41 238 5)) => ?_)
                  have F52 := F19.then (by decide +kernel) u41
                  have F53 := u18.then (by decide +kernel) u41
                  have e54 : h41 238 98 = h18 238 98 := (u41 238 98 rfl)
                  have b55 := gi_b (lo := 0) (hi := 6) g41 238 99 rfl
                  have e56 : h41 238 100 = h18 238 100 := (u41 238 100 rfl)
                  have e57 : h41 238 101 = h18 238 101 := (u41 238 101 rfl)
                  have b58 := gi_b (lo := 0) (hi := 3) g41 238 102 rfl
                  have b59 := gi_b (lo := 0) (hi := 12) g41 238 106 rfl
                  have e60 : h41 238 73 = h 238 73 := ((u41 238 73 rfl).trans ((u18 238 73 rfl).trans (u13 238 73 rfl)))
                  have e61 : h41 238 2 = h 238 2 := ((u41 238 2 rfl).trans ((u18 238 2 rfl).trans (u13 238 2 rfl)))
                  have b62 := gi_b (lo := 0) (hi := 9999) g41 238 119 rfl
                  have b63 := gi_b (lo := 0) (hi := 9999) g41 238 67 rfl
                  have b64 := gi_b (lo := 0) (hi := 9) g41 238 69 rfl
                  have e65 : h41 238 5 = h 238 5 := ((u41 238 5 rfl).trans ((u18 238 5 rfl).trans (u13 238 5 rfl)))
                  refine wk_i ?_
                  refine wi_istore (i := 5) (e := z51) (lo2 := [(5, vi z51), (4, vi (h18 238 106)), (0, .ref 236), (1, vi x16), (3, vi x17)]) (nx := 55) (r1 := 0) (r2 := 0) (r3 := 0) rfl rfl ?_
                  refine wr_iinc (i := 1) (n := 1) (v := x16) (fun e66 => [(1, vi e66), (5, vi z51), (4, vi (h18 238 106)), (0, .ref 236), (3, vi x17)]) (nx := 58) (r1 := 0) (r2 := 0) (r3 := 0) rfl rfl (fun _ => rfl) (fun e66 (fe66 : e66 = x16 + 1) => ?_)
                  refine wi_aload_n (i := 0) (x := 236) (nx := 59) (r1 := 0) (r2 := 0) (r3 := 0) rfl rfl ?_
                  refine wr_gr (k0 := 236) (x := 238) (nx := 62) (r1 := 11) (r2 := 13) (r3 := 0) rfl rfl (by decide) rfl ⟨rfl, rfl⟩ rfl ?_
                  refine wi_bipush (n := 106) (nx := 64) (r1 := 0) (r2 := 0) (r3 := 0) rfl (by decide) ?_
                  refine wr_ia (k0 := 238) (a := 106) (f := 106) (x := h41 238 106) (nx := 65) (r1 := 0) (r2 := 0) (r3 := 0) rfl (by decide) rfl (by omega) (by omega) (by decide) rfl ?_
                  refine wi_iload (i := 4) (e := h18 238 106) (nx := 67) (r1 := 0) (r2 := 0) (r3 := 0) rfl rfl ?_
                  refine wi_icmp (cd := .le) (nx := 70) (r1 := 74) (r2 := 0) (r3 := 0) rfl (by omega) (by omega) (fun (q67 : (h41 238 106) ≤ (h18 238 106)) => ?_) (fun (q67 : ¬ ((h41 238 106) ≤ (h18 238 106))) => ?_)
                  ·
                    refine wi_iconst (n := 0) (nx := 75) (r1 := 0) (r2 := 0) (r3 := 0) rfl ?_
                    refine wi_istore_n (i := 3) (e := 0) (lo2 := [(3, vi 0), (1, vi e66), (5, vi z51), (4, vi (h18 238 106)), (0, .ref 236)]) (nx := 76) (r1 := 0) (r2 := 0) (r3 := 0) rfl rfl ?_
                    refine wi_goto (nx := 79) (r1 := 9) (r2 := 0) (r3 := 0) rfl ?_
                    refine wp.lo (lo := [(0, .ref 236), (1, vi e66), (3, vi 0)]) ⟨rfl, rfl, rfl, trivial⟩ rfl ?_
                    exact I18 e66 0 h41 ⟨g41, F52, F53, (show (0 ≤ e66 ∧ e66 ≤ 12) ∧ (0 ≤ 0 ∧ 0 ≤ 1) by omega)⟩ (show ((12 : Int) + 1 - e66).toNat < ((12 : Int) + 1 - x16).toNat by omega)
                  ·
                    refine wi_iconst (n := 1) (nx := 71) (r1 := 0) (r2 := 0) (r3 := 0) rfl ?_
                    refine wi_goto (nx := 74) (r1 := 75) (r2 := 0) (r3 := 0) rfl ?_
                    refine wi_istore_n (i := 3) (e := 1) (lo2 := [(3, vi 1), (1, vi e66), (5, vi z51), (4, vi (h18 238 106)), (0, .ref 236)]) (nx := 76) (r1 := 0) (r2 := 0) (r3 := 0) rfl rfl ?_
                    refine wi_goto (nx := 79) (r1 := 9) (r2 := 0) (r3 := 0) rfl ?_
                    refine wp.lo (lo := [(0, .ref 236), (1, vi e66), (3, vi 1)]) ⟨rfl, rfl, rfl, trivial⟩ rfl ?_
                    exact I18 e66 1 h41 ⟨g41, F52, F53, (show (0 ≤ e66 ∧ e66 ≤ 12) ∧ (0 ≤ 1 ∧ 1 ≤ 1) by omega)⟩ (show ((12 : Int) + 1 - e66).toNat < ((12 : Int) + 1 - x16).toNat by omega)
          ·
            refine wi_iconst (n := 0) (nx := 26) (r1 := 0) (r2 := 0) (r3 := 0) rfl ?_
            refine wi_zreturn (nx := 27) (r1 := 0) (r2 := 0) (r3 := 0) rfl rfl (by omega) ?_
            refine wk_i ?_
            refine wi_if (cd := .eq) (nx := 34) (r1 := 79) (r2 := 0) (r3 := 0) rfl (by omega) (fun (q30 : 0 = 0) => ?_) (fun (q30 : ¬ (0 = 0)) => by exfalso; omega)
            refine wi_iload_n (i := 1) (e := x16) (nx := 80) (r1 := 0) (r2 := 0) (r3 := 0) rfl rfl ?_
            refine wi_ireturn (nx := 81) (r1 := 0) (r2 := 0) (r3 := 0) rfl rfl ?_
            have b31 := gi_b (lo := 0) (hi := 6) g18 238 98 rfl
            have b32 := gi_b (lo := 0) (hi := 6) g18 238 100 rfl
            have b33 := gi_b (lo := 0) (hi := 6) g18 238 101 rfl
            have b34 := gi_b (lo := 0) (hi := 3) g18 238 102 rfl
            have b35 := gi_b (lo := 0) (hi := 12) g18 238 106 rfl
            have e36 : h18 238 73 = h 238 73 := ((u18 238 73 rfl).trans (u13 238 73 rfl))
            have e37 : h18 238 2 = h 238 2 := ((u18 238 2 rfl).trans (u13 238 2 rfl))
            have b38 := gi_b (lo := 0) (hi := 9999) g18 238 119 rfl
            have b39 := gi_b (lo := 0) (hi := 9) g18 238 69 rfl
            have e40 : h18 238 5 = h 238 5 := ((u18 238 5 rfl).trans (u13 238 5 rfl))
            exact k h18 x16 g18 F19 (by omega) (show (h18 238 98) + (h18 238 99) + (h18 238 100) + (h18 238 101) + (h18 238 102) + (h18 238 106) = (h18 238 73) by omega) (show (h18 238 73) ≤ (h18 238 2) by omega) (show (h18 238 119) ≤ (h18 238 67) by omega) (show (h18 238 69) ≤ (h18 238 5) by omega) (show (h18 238 2) ≤ 12 * (h18 238 5) by omega)
      ·
        rw [q25]
        refine wr_V (k0 := 236) (rest := []) (as := [.ref 236, vi 2]) (nx := 31) (r1 := 267) (r2 := 1) (r3 := 11) rfl rfl rfl (of_decide_eq_true rfl) rfl rfl (by decide) rfl rfl (of_decide_eq_true rfl) (of_decide_eq_true rfl) ?_
        refine wi_aload_n (i := 0) (x := 236) (nx := 1) (r1 := 0) (r2 := 0) (r3 := 0) rfl rfl ?_
        refine wr_gr (k0 := 236) (x := 238) (nx := 4) (r1 := 11) (r2 := 13) (r3 := 0) rfl rfl (by decide) rfl ⟨rfl, rfl⟩ rfl ?_
        refine wi_bipush (n := 98) (nx := 6) (r1 := 0) (r2 := 0) (r3 := 0) rfl (by decide) ?_
        refine wi_iload_n (i := 1) (e := 2) (nx := 7) (r1 := 0) (r2 := 0) (r3 := 0) rfl rfl ?_
        refine wr_addL (100) (nx := 8) (r1 := 0) (r2 := 0) (r3 := 0) rfl (by decide) ?_
        have b26 := gi_b (lo := 0) (hi := 6) g18 238 100 rfl
        refine wr_ia (k0 := 238) (a := 100) (f := 100) (x := h18 238 100) (nx := 9) (r1 := 0) (r2 := 0) (r3 := 0) rfl (by decide) rfl (by omega) (by omega) (by decide) rfl ?_
        refine wi_if (cd := .eq) (nx := 12) (r1 := 25) (r2 := 0) (r3 := 0) rfl (by omega) (fun (q27 : (h18 238 100) = 0) => ?_) (fun (q27 : ¬ ((h18 238 100) = 0)) => ?_)
        ·
          refine wi_iconst (n := 0) (nx := 26) (r1 := 0) (r2 := 0) (r3 := 0) rfl ?_
          refine wi_zreturn (nx := 27) (r1 := 0) (r2 := 0) (r3 := 0) rfl rfl (by omega) ?_
          refine wk_i ?_
          refine wi_if (cd := .eq) (nx := 34) (r1 := 79) (r2 := 0) (r3 := 0) rfl (by omega) (fun (q28 : 0 = 0) => ?_) (fun (q28 : ¬ (0 = 0)) => by exfalso; omega)
          refine wi_iload_n (i := 1) (e := x16) (nx := 80) (r1 := 0) (r2 := 0) (r3 := 0) rfl rfl ?_
          refine wi_ireturn (nx := 81) (r1 := 0) (r2 := 0) (r3 := 0) rfl rfl ?_
          have b29 := gi_b (lo := 0) (hi := 6) g18 238 98 rfl
          have b30 := gi_b (lo := 0) (hi := 6) g18 238 99 rfl
          have b31 := gi_b (lo := 0) (hi := 6) g18 238 101 rfl
          have b32 := gi_b (lo := 0) (hi := 3) g18 238 102 rfl
          have b33 := gi_b (lo := 0) (hi := 12) g18 238 106 rfl
          have e34 : h18 238 73 = h 238 73 := ((u18 238 73 rfl).trans (u13 238 73 rfl))
          have e35 : h18 238 2 = h 238 2 := ((u18 238 2 rfl).trans (u13 238 2 rfl))
          have b36 := gi_b (lo := 0) (hi := 9999) g18 238 119 rfl
          have b37 := gi_b (lo := 0) (hi := 9999) g18 238 67 rfl
          have b38 := gi_b (lo := 0) (hi := 9) g18 238 69 rfl
          have e39 : h18 238 5 = h 238 5 := ((u18 238 5 rfl).trans (u13 238 5 rfl))
          exact k h18 x16 g18 F19 (by omega) (show (h18 238 98) + (h18 238 99) + (h18 238 100) + (h18 238 101) + (h18 238 102) + (h18 238 106) = (h18 238 73) by omega) (show (h18 238 73) ≤ (h18 238 2) by omega) (show (h18 238 119) ≤ (h18 238 67) by omega) (show (h18 238 69) ≤ (h18 238 5) by omega) (show (h18 238 2) ≤ 12 * (h18 238 5) by omega)
        ·
          refine wi_aload_n (i := 0) (x := 236) (nx := 13) (r1 := 0) (r2 := 0) (r3 := 0) rfl rfl ?_
          refine wr_gr (k0 := 236) (x := 238) (nx := 16) (r1 := 11) (r2 := 13) (r3 := 0) rfl rfl (by decide) rfl ⟨rfl, rfl⟩ rfl ?_
          refine wi_bipush (n := 67) (nx := 18) (r1 := 0) (r2 := 0) (r3 := 0) rfl (by decide) ?_
          have b28 := gi_b (lo := 0) (hi := 9999) g18 238 67 rfl
          refine wr_ia (k0 := 238) (a := 67) (f := 67) (x := h18 238 67) (nx := 19) (r1 := 0) (r2 := 0) (r3 := 0) rfl (by decide) rfl (by omega) (by omega) (by decide) rfl ?_
          refine wi_sipush (n := 9999) (nx := 22) (r1 := 0) (r2 := 0) (r3 := 0) rfl (by decide) ?_
          refine wi_icmp (cd := .ne) (nx := 25) (r1 := 27) (r2 := 0) (r3 := 0) rfl (by omega) (by omega) (fun (q29 : (h18 238 67) ≠ 9999) => ?_) (fun (q29 : ¬ ((h18 238 67) ≠ 9999)) => ?_)
          ·
            refine wi_aload_n (i := 0) (x := 236) (nx := 28) (r1 := 0) (r2 := 0) (r3 := 0) rfl rfl ?_
            refine wi_iload_n (i := 1) (e := 2) (nx := 29) (r1 := 0) (r2 := 0) (r3 := 0) rfl rfl ?_
            refine wi_iconst (n := 0) (nx := 30) (r1 := 0) (r2 := 0) (r3 := 0) rfl ?_
            refine wr_V (k0 := 236) (rest := []) (as := [.ref 236, vi 2, vi 0]) (nx := 33) (r1 := 258) (r2 := 2) (r3 := 11) rfl rfl rfl (of_decide_eq_true rfl) rfl rfl (by decide) rfl rfl (of_decide_eq_true rfl) (of_decide_eq_true rfl) ?_
            refine wi_aload_n (i := 0) (x := 236) (nx := 1) (r1 := 0) (r2 := 0) (r3 := 0) rfl rfl ?_
            refine wr_gr (k0 := 236) (x := 238) (nx := 4) (r1 := 11) (r2 := 13) (r3 := 0) rfl rfl (by decide) rfl ⟨rfl, rfl⟩ rfl ?_
            refine wi_bipush (n := 74) (nx := 6) (r1 := 0) (r2 := 0) (r3 := 0) rfl (by decide) ?_
            refine wi_bipush (n := 6) (nx := 8) (r1 := 0) (r2 := 0) (r3 := 0) rfl (by decide) ?_
            refine wi_iload_n (i := 1) (e := 2) (nx := 9) (r1 := 0) (r2 := 0) (r3 := 0) rfl rfl ?_
            refine wr_mulL (12) (nx := 10) (r1 := 0) (r2 := 0) (r3 := 0) rfl (by decide) ?_
            refine wr_addL (86) (nx := 11) (r1 := 0) (r2 := 0) (r3 := 0) rfl (by decide) ?_
            refine wi_iload_n (i := 2) (e := 0) (nx := 12) (r1 := 0) (r2 := 0) (r3 := 0) rfl rfl ?_
            refine wr_addL (86) (nx := 13) (r1 := 0) (r2 := 0) (r3 := 0) rfl (by decide) ?_
            have b30 := gi_b (lo := 0) (hi := 11) g18 238 86 rfl
            refine wr_ia (k0 := 238) (a := 86) (f := 86) (x := h18 238 86) (nx := 14) (r1 := 0) (r2 := 0) (r3 := 0) rfl (by decide) rfl (by omega) (by omega) (by decide) rfl ?_
            refine wi_ireturn (nx := 15) (r1 := 0) (r2 := 0) (r3 := 0) rfl rfl ?_
            refine wk_i ?_
            refine wi_istore_n (i := 2) (e := h18 238 86) (lo2 := [(2, vi (h18 238 86)), (0, .ref 236), (1, vi 2)]) (nx := 34) (r1 := 0) (r2 := 0) (r3 := 0) rfl rfl ?_
            refine wi_aload_n (i := 0) (x := 236) (nx := 35) (r1 := 0) (r2 := 0) (r3 := 0) rfl rfl ?_
            refine wr_gr (k0 := 236) (x := 238) (nx := 38) (r1 := 11) (r2 := 13) (r3 := 0) rfl rfl (by decide) rfl ⟨rfl, rfl⟩ rfl ?_
            refine wi_bipush (n := 43) (nx := 40) (r1 := 0) (r2 := 0) (r3 := 0) rfl (by decide) ?_
            refine wi_iload_n (i := 2) (e := h18 238 86) (nx := 41) (r1 := 0) (r2 := 0) (r3 := 0) rfl rfl ?_
            refine wr_add (nx := 42) (r1 := 0) (r2 := 0) (r3 := 0) rfl (fun e31 (fe31 : e31 = 43 + (h18 238 86)) => ?_)
            obtain ⟨i32, ei32⟩ : ∃ q : Nat, e31 = (q : Int) := ⟨(e31).toNat, by omega⟩
            have b33 := gi_b (lo := 0) (hi := 999) g18 238 i32 (gi_rg 43 12 (fun _ => rfl) (by decide +kernel) (by omega))
            refine wr_ia (k0 := 238) (a := e31) (f := i32) (x := h18 238 i32) (nx := 43) (r1 := 0) (r2 := 0) (r3 := 0) rfl (by decide) rfl (by omega) (by omega) (by decide) rfl ?_
            refine wi_if (cd := .le) (nx := 46) (r1 := 71) (r2 := 0) (r3 := 0) rfl (by omega) (fun (q34 : (h18 238 i32) ≤ 0) => ?_) (fun (q34 : ¬ ((h18 238 i32) ≤ 0)) => ?_)
            ·
              refine wi_iload_n (i := 2) (e := h18 238 86) (nx := 72) (r1 := 0) (r2 := 0) (r3 := 0) rfl rfl ?_
              refine wi_aload_n (i := 0) (x := 236) (nx := 73) (r1 := 0) (r2 := 0) (r3 := 0) rfl rfl ?_
              refine wr_gr (k0 := 236) (x := 238) (nx := 76) (r1 := 11) (r2 := 13) (r3 := 0) rfl rfl (by decide) rfl ⟨rfl, rfl⟩ rfl ?_
              refine wi_bipush (n := 106) (nx := 78) (r1 := 0) (r2 := 0) (r3 := 0) rfl (by decide) ?_
              have b35 := gi_b (lo := 0) (hi := 12) g18 238 106 rfl
              refine wr_ia (k0 := 238) (a := 106) (f := 106) (x := h18 238 106) (nx := 79) (r1 := 0) (r2 := 0) (r3 := 0) rfl (by decide) rfl (by omega) (by omega) (by decide) rfl ?_
              refine wr_sub (nx := 80) (r1 := 0) (r2 := 0) (r3 := 0) rfl (fun e36 (fe36 : e36 = (h18 238 86) - (h18 238 106)) => ?_)
              refine wi_aload_n (i := 0) (x := 236) (nx := 81) (r1 := 0) (r2 := 0) (r3 := 0) rfl rfl ?_
              refine wr_gr (k0 := 236) (x := 238) (nx := 84) (r1 := 11) (r2 := 13) (r3 := 0) rfl rfl (by decide) rfl ⟨rfl, rfl⟩ rfl ?_
              refine wi_iconst (n := 3) (nx := 85) (r1 := 0) (r2 := 0) (r3 := 0) rfl ?_
              have b37 := gi_b (lo := 0) (hi := 999) g 238 3 rfl
              refine wr_ia (k0 := 238) (a := 3) (f := 3) (x := h 238 3) (nx := 86) (r1 := 0) (r2 := 0) (r3 := 0) rfl (by decide) rfl (by omega) (by omega) (by decide) ((u18 238 3 rfl).trans (u13 238 3 rfl)) ?_
              refine wi_icmp (cd := .gt) (nx := 89) (r1 := 93) (r2 := 0) (r3 := 0) rfl (by omega) (by omega) (fun (q38 : (h 238 3) < e36) => ?_) (fun (q38 : ¬ ((h 238 3) < e36)) => ?_)
              ·
                refine wi_iconst (n := 0) (nx := 94) (r1 := 0) (r2 := 0) (r3 := 0) rfl ?_
                refine wi_zreturn (nx := 95) (r1 := 0) (r2 := 0) (r3 := 0) rfl rfl (by omega) ?_
                refine wk_i ?_
                refine wi_if (cd := .eq) (nx := 34) (r1 := 79) (r2 := 0) (r3 := 0) rfl (by omega) (fun (q39 : 0 = 0) => ?_) (fun (q39 : ¬ (0 = 0)) => by exfalso; omega)
                refine wi_iload_n (i := 1) (e := x16) (nx := 80) (r1 := 0) (r2 := 0) (r3 := 0) rfl rfl ?_
                refine wi_ireturn (nx := 81) (r1 := 0) (r2 := 0) (r3 := 0) rfl rfl ?_
                have b40 := gi_b (lo := 0) (hi := 6) g18 238 98 rfl
                have b41 := gi_b (lo := 0) (hi := 6) g18 238 99 rfl
                have b42 := gi_b (lo := 0) (hi := 6) g18 238 101 rfl
                have b43 := gi_b (lo := 0) (hi := 3) g18 238 102 rfl
                have e44 : h18 238 73 = h 238 73 := ((u18 238 73 rfl).trans (u13 238 73 rfl))
                have e45 : h18 238 2 = h 238 2 := ((u18 238 2 rfl).trans (u13 238 2 rfl))
                have b46 := gi_b (lo := 0) (hi := 9999) g18 238 119 rfl
                have b47 := gi_b (lo := 0) (hi := 9) g18 238 69 rfl
                have e48 : h18 238 5 = h 238 5 := ((u18 238 5 rfl).trans (u13 238 5 rfl))
                exact k h18 x16 g18 F19 (by omega) (show (h18 238 98) + (h18 238 99) + (h18 238 100) + (h18 238 101) + (h18 238 102) + (h18 238 106) = (h18 238 73) by omega) (show (h18 238 73) ≤ (h18 238 2) by omega) (show (h18 238 119) ≤ (h18 238 67) by omega) (show (h18 238 69) ≤ (h18 238 5) by omega) (show (h18 238 2) ≤ 12 * (h18 238 5) by omega)
              ·
                refine wi_iconst (n := 1) (nx := 90) (r1 := 0) (r2 := 0) (r3 := 0) rfl ?_
                refine wi_goto (nx := 93) (r1 := 94) (r2 := 0) (r3 := 0) rfl ?_
                refine wi_zreturn (nx := 95) (r1 := 0) (r2 := 0) (r3 := 0) rfl rfl (by omega) ?_
                refine wk_i ?_
                refine wi_if (cd := .eq) (nx := 34) (r1 := 79) (r2 := 0) (r3 := 0) rfl (by omega) (fun (q39 : 1 = 0) => by exfalso; omega) (fun (q39 : ¬ (1 = 0)) => ?_)
                refine wi_aload_n (i := 0) (x := 236) (nx := 35) (r1 := 0) (r2 := 0) (r3 := 0) rfl rfl ?_
                refine wr_gr (k0 := 236) (x := 238) (nx := 38) (r1 := 11) (r2 := 13) (r3 := 0) rfl rfl (by decide) rfl ⟨rfl, rfl⟩ rfl ?_
                refine wi_bipush (n := 106) (nx := 40) (r1 := 0) (r2 := 0) (r3 := 0) rfl (by decide) ?_
                refine wr_ia (k0 := 238) (a := 106) (f := 106) (x := h18 238 106) (nx := 41) (r1 := 0) (r2 := 0) (r3 := 0) rfl (by decide) rfl (by omega) (by omega) (by decide) rfl ?_
                refine wi_istore (i := 4) (e := h18 238 106) (lo2 := [(4, vi (h18 238 106)), (0, .ref 236), (1, vi x16), (3, vi x17)]) (nx := 43) (r1 := 0) (r2 := 0) (r3 := 0) rfl rfl ?_
                refine wi_aload_n (i := 0) (x := 236) (nx := 44) (r1 := 0) (r2 := 0) (r3 := 0) rfl rfl ?_
                refine wi_aload_n (i := 0) (x := 236) (nx := 45) (r1 := 0) (r2 := 0) (r3 := 0) rfl rfl ?_
                refine wr_gr (k0 := 236) (x := 248) (nx := 48) (r1 := 11) (r2 := 31) (r3 := 0) rfl rfl (by decide) rfl ⟨rfl, rfl⟩ rfl ?_
                refine wi_iload_n (i := 1) (e := x16) (nx := 49) (r1 := 0) (r2 := 0) (r3 := 0) rfl rfl ?_
                refine wr_ia (k0 := 248) (a := x16) (f := i23) (x := h13 248 i23) (nx := 50) (r1 := 0) (r2 := 0) (r3 := 0) rfl (by decide) rfl (by omega) (by omega) (by decide) (u18 248 i23 (fn_a (by omega) (fn_a (by omega) (fn_a (by omega) (fn_a (by omega) (fn_a (by omega) (fn_a (by omega) (fn_a (by omega) (fn_a (by omega) (fn_a (by omega) (fn_a (by omega) (fn_a (by omega) (fn_a (by omega) (fn_a (by omega) (fn_a (by omega) (fn_a (by omega) (fn_a (by omega) (fn_a (by omega) (fn_a (by omega) (fn_a (by omega) (fn_a (by omega) (fn_a (by omega) (fn_a (by omega) (fn_a (by omega) (fn_a (by omega) (fn_a (by omega) fn_0)))))))))))))))))))))))))) ?_
                rcases (show (h13 248 i23) = 2 by omega) with q40
                ·
                  rw [q40]
                  refine wr_V (k0 := 236) (rest := []) (as := [.ref 236, vi 2]) (nx := 53) (r1 := 282) (r2 := 1) (r3 := 11) rfl rfl rfl (of_decide_eq_true rfl) rfl rfl (by decide) rfl rfl (of_decide_eq_true rfl) (of_decide_eq_true rfl) ?_
                  have b42 := gi_b (lo := 0) (hi := 6) g18 238 98 rfl
                  have b43 := gi_b (lo := 0) (hi := 6) g18 238 99 rfl
                  have b44 := gi_b (lo := 0) (hi := 6) g18 238 101 rfl
                  have b45 := gi_b (lo := 0) (hi := 3) g18 238 102 rfl
                  have e46 : h18 238 73 = h 238 73 := ((u18 238 73 rfl).trans (u13 238 73 rfl))
                  have e47 : h18 238 2 = h 238 2 := ((u18 238 2 rfl).trans (u13 238 2 rfl))
                  have b48 := gi_b (lo := 0) (hi := 9999) g18 238 119 rfl
                  have b49 := gi_b (lo := 0) (hi := 9) g18 238 69 rfl
                  have e50 : h18 238 5 = h 238 5 := ((u18 238 5 rfl).trans (u13 238 5 rfl))
                  have e51 : h18 238 (43 + (h18 238 86).toNat) = h18 238 i32 := by rw [show 43 + (h18 238 86).toNat = i32 by omega]
                  refine ct_282_236_L2 hcr  g18   (show (h18 238 98) + (h18 238 99) + (h18 238 100) + (h18 238 101) + (h18 238 102) + (h18 238 106) = (h18 238 73) by omega) (show (h18 238 73) ≤ (h18 238 2) by omega) (show (h18 238 119) ≤ (h18 238 67) by omega) (show (h18 238 69) ≤ (h18 238 5) by omega) (show (h18 238 2) ≤ 12 * (h18 238 5) by omega) (show 1 ≤ (h18 238 100) by omega) (show (h18 238 67) ≤ 9998 by omega) (show (h18 238 102) ≤ 2 ∨ (h18 238 (43 + (h18 238 86).toNat)) ≤ 0 by omega) (fun h41 z52 g41 u41 (fz52 : 0 ≤ z52 ∧ z52 ≤ 11) (p41_0 : (h41 238 98) + (h41 238 99) + (h41 238 100) + (h41 238 101) + (h41 238 102) + (h41 238 106) = (h41 238 73)) (p41_1 : (h41 238 73) ≤ (h41 238 2)) (p41_2 : (h41 238 119) ≤ (h41 238 67)) (p41_3 : (h41 238 69) ≤ (h41 238 5)) (p41_4 : (h41 238 2) ≤ 12 * (h41 238 5)) => ?_)
                  have F53 := F19.then (by decide +kernel) u41
                  have F54 := u18.then (by decide +kernel) u41
                  have e55 : h41 238 98 = h18 238 98 := (u41 238 98 rfl)
                  have e56 : h41 238 99 = h18 238 99 := (u41 238 99 rfl)
                  have b57 := gi_b (lo := 0) (hi := 6) g41 238 100 rfl
                  have e58 : h41 238 101 = h18 238 101 := (u41 238 101 rfl)
                  have b59 := gi_b (lo := 0) (hi := 3) g41 238 102 rfl
                  have b60 := gi_b (lo := 0) (hi := 12) g41 238 106 rfl
                  have e61 : h41 238 73 = h 238 73 := ((u41 238 73 rfl).trans ((u18 238 73 rfl).trans (u13 238 73 rfl)))
                  have e62 : h41 238 2 = h 238 2 := ((u41 238 2 rfl).trans ((u18 238 2 rfl).trans (u13 238 2 rfl)))
                  have b63 := gi_b (lo := 0) (hi := 9999) g41 238 119 rfl
                  have b64 := gi_b (lo := 0) (hi := 9999) g41 238 67 rfl
                  have b65 := gi_b (lo := 0) (hi := 9) g41 238 69 rfl
                  have e66 : h41 238 5 = h 238 5 := ((u41 238 5 rfl).trans ((u18 238 5 rfl).trans (u13 238 5 rfl)))
                  refine wk_i ?_
                  refine wi_istore (i := 5) (e := z52) (lo2 := [(5, vi z52), (4, vi (h18 238 106)), (0, .ref 236), (1, vi x16), (3, vi x17)]) (nx := 55) (r1 := 0) (r2 := 0) (r3 := 0) rfl rfl ?_
                  refine wr_iinc (i := 1) (n := 1) (v := x16) (fun e67 => [(1, vi e67), (5, vi z52), (4, vi (h18 238 106)), (0, .ref 236), (3, vi x17)]) (nx := 58) (r1 := 0) (r2 := 0) (r3 := 0) rfl rfl (fun _ => rfl) (fun e67 (fe67 : e67 = x16 + 1) => ?_)
                  refine wi_aload_n (i := 0) (x := 236) (nx := 59) (r1 := 0) (r2 := 0) (r3 := 0) rfl rfl ?_
                  refine wr_gr (k0 := 236) (x := 238) (nx := 62) (r1 := 11) (r2 := 13) (r3 := 0) rfl rfl (by decide) rfl ⟨rfl, rfl⟩ rfl ?_
                  refine wi_bipush (n := 106) (nx := 64) (r1 := 0) (r2 := 0) (r3 := 0) rfl (by decide) ?_
                  refine wr_ia (k0 := 238) (a := 106) (f := 106) (x := h41 238 106) (nx := 65) (r1 := 0) (r2 := 0) (r3 := 0) rfl (by decide) rfl (by omega) (by omega) (by decide) rfl ?_
                  refine wi_iload (i := 4) (e := h18 238 106) (nx := 67) (r1 := 0) (r2 := 0) (r3 := 0) rfl rfl ?_
                  refine wi_icmp (cd := .le) (nx := 70) (r1 := 74) (r2 := 0) (r3 := 0) rfl (by omega) (by omega) (fun (q68 : (h41 238 106) ≤ (h18 238 106)) => ?_) (fun (q68 : ¬ ((h41 238 106) ≤ (h18 238 106))) => ?_)
                  ·
                    refine wi_iconst (n := 0) (nx := 75) (r1 := 0) (r2 := 0) (r3 := 0) rfl ?_
                    refine wi_istore_n (i := 3) (e := 0) (lo2 := [(3, vi 0), (1, vi e67), (5, vi z52), (4, vi (h18 238 106)), (0, .ref 236)]) (nx := 76) (r1 := 0) (r2 := 0) (r3 := 0) rfl rfl ?_
                    refine wi_goto (nx := 79) (r1 := 9) (r2 := 0) (r3 := 0) rfl ?_
                    refine wp.lo (lo := [(0, .ref 236), (1, vi e67), (3, vi 0)]) ⟨rfl, rfl, rfl, trivial⟩ rfl ?_
                    exact I18 e67 0 h41 ⟨g41, F53, F54, (show (0 ≤ e67 ∧ e67 ≤ 12) ∧ (0 ≤ 0 ∧ 0 ≤ 1) by omega)⟩ (show ((12 : Int) + 1 - e67).toNat < ((12 : Int) + 1 - x16).toNat by omega)
                  ·
                    refine wi_iconst (n := 1) (nx := 71) (r1 := 0) (r2 := 0) (r3 := 0) rfl ?_
                    refine wi_goto (nx := 74) (r1 := 75) (r2 := 0) (r3 := 0) rfl ?_
                    refine wi_istore_n (i := 3) (e := 1) (lo2 := [(3, vi 1), (1, vi e67), (5, vi z52), (4, vi (h18 238 106)), (0, .ref 236)]) (nx := 76) (r1 := 0) (r2 := 0) (r3 := 0) rfl rfl ?_
                    refine wi_goto (nx := 79) (r1 := 9) (r2 := 0) (r3 := 0) rfl ?_
                    refine wp.lo (lo := [(0, .ref 236), (1, vi e67), (3, vi 1)]) ⟨rfl, rfl, rfl, trivial⟩ rfl ?_
                    exact I18 e67 1 h41 ⟨g41, F53, F54, (show (0 ≤ e67 ∧ e67 ≤ 12) ∧ (0 ≤ 1 ∧ 1 ≤ 1) by omega)⟩ (show ((12 : Int) + 1 - e67).toNat < ((12 : Int) + 1 - x16).toNat by omega)
            ·
              refine wi_aload_n (i := 0) (x := 236) (nx := 47) (r1 := 0) (r2 := 0) (r3 := 0) rfl rfl ?_
              refine wr_gr (k0 := 236) (x := 238) (nx := 50) (r1 := 11) (r2 := 13) (r3 := 0) rfl rfl (by decide) rfl ⟨rfl, rfl⟩ rfl ?_
              refine wi_bipush (n := 102) (nx := 52) (r1 := 0) (r2 := 0) (r3 := 0) rfl (by decide) ?_
              have b35 := gi_b (lo := 0) (hi := 3) g18 238 102 rfl
              refine wr_ia (k0 := 238) (a := 102) (f := 102) (x := h18 238 102) (nx := 53) (r1 := 0) (r2 := 0) (r3 := 0) rfl (by decide) rfl (by omega) (by omega) (by decide) rfl ?_
              refine wi_aload_n (i := 0) (x := 236) (nx := 54) (r1 := 0) (r2 := 0) (r3 := 0) rfl rfl ?_
              refine wr_gr (k0 := 236) (x := 238) (nx := 57) (r1 := 11) (r2 := 13) (r3 := 0) rfl rfl (by decide) rfl ⟨rfl, rfl⟩ rfl ?_
              refine wi_bipush (n := 7) (nx := 59) (r1 := 0) (r2 := 0) (r3 := 0) rfl (by decide) ?_
              have b36 := gi_b (lo := 0) (hi := 3) g 238 7 rfl
              refine wr_ia (k0 := 238) (a := 7) (f := 7) (x := h 238 7) (nx := 60) (r1 := 0) (r2 := 0) (r3 := 0) rfl (by decide) rfl (by omega) (by omega) (by decide) ((u18 238 7 rfl).trans (u13 238 7 rfl)) ?_
              refine wi_icmp (cd := .ge) (nx := 63) (r1 := 67) (r2 := 0) (r3 := 0) rfl (by omega) (by omega) (fun (q37 : (h 238 7) ≤ (h18 238 102)) => ?_) (fun (q37 : ¬ ((h 238 7) ≤ (h18 238 102))) => ?_)
              ·
                refine wi_iconst (n := 0) (nx := 68) (r1 := 0) (r2 := 0) (r3 := 0) rfl ?_
                refine wi_goto (nx := 71) (r1 := 94) (r2 := 0) (r3 := 0) rfl ?_
                refine wi_zreturn (nx := 95) (r1 := 0) (r2 := 0) (r3 := 0) rfl rfl (by omega) ?_
                refine wk_i ?_
                refine wi_if (cd := .eq) (nx := 34) (r1 := 79) (r2 := 0) (r3 := 0) rfl (by omega) (fun (q38 : 0 = 0) => ?_) (fun (q38 : ¬ (0 = 0)) => by exfalso; omega)
                refine wi_iload_n (i := 1) (e := x16) (nx := 80) (r1 := 0) (r2 := 0) (r3 := 0) rfl rfl ?_
                refine wi_ireturn (nx := 81) (r1 := 0) (r2 := 0) (r3 := 0) rfl rfl ?_
                have b39 := gi_b (lo := 0) (hi := 6) g18 238 98 rfl
                have b40 := gi_b (lo := 0) (hi := 6) g18 238 99 rfl
                have b41 := gi_b (lo := 0) (hi := 6) g18 238 101 rfl
                have b42 := gi_b (lo := 0) (hi := 12) g18 238 106 rfl
                have e43 : h18 238 73 = h 238 73 := ((u18 238 73 rfl).trans (u13 238 73 rfl))
                have e44 : h18 238 2 = h 238 2 := ((u18 238 2 rfl).trans (u13 238 2 rfl))
                have b45 := gi_b (lo := 0) (hi := 9999) g18 238 119 rfl
                have b46 := gi_b (lo := 0) (hi := 9) g18 238 69 rfl
                have e47 : h18 238 5 = h 238 5 := ((u18 238 5 rfl).trans (u13 238 5 rfl))
                exact k h18 x16 g18 F19 (by omega) (show (h18 238 98) + (h18 238 99) + (h18 238 100) + (h18 238 101) + (h18 238 102) + (h18 238 106) = (h18 238 73) by omega) (show (h18 238 73) ≤ (h18 238 2) by omega) (show (h18 238 119) ≤ (h18 238 67) by omega) (show (h18 238 69) ≤ (h18 238 5) by omega) (show (h18 238 2) ≤ 12 * (h18 238 5) by omega)
              ·
                refine wi_iconst (n := 1) (nx := 64) (r1 := 0) (r2 := 0) (r3 := 0) rfl ?_
                refine wi_goto (nx := 67) (r1 := 94) (r2 := 0) (r3 := 0) rfl ?_
                refine wi_zreturn (nx := 95) (r1 := 0) (r2 := 0) (r3 := 0) rfl rfl (by omega) ?_
                refine wk_i ?_
                refine wi_if (cd := .eq) (nx := 34) (r1 := 79) (r2 := 0) (r3 := 0) rfl (by omega) (fun (q38 : 1 = 0) => by exfalso; omega) (fun (q38 : ¬ (1 = 0)) => ?_)
                refine wi_aload_n (i := 0) (x := 236) (nx := 35) (r1 := 0) (r2 := 0) (r3 := 0) rfl rfl ?_
                refine wr_gr (k0 := 236) (x := 238) (nx := 38) (r1 := 11) (r2 := 13) (r3 := 0) rfl rfl (by decide) rfl ⟨rfl, rfl⟩ rfl ?_
                refine wi_bipush (n := 106) (nx := 40) (r1 := 0) (r2 := 0) (r3 := 0) rfl (by decide) ?_
                have b39 := gi_b (lo := 0) (hi := 12) g18 238 106 rfl
                refine wr_ia (k0 := 238) (a := 106) (f := 106) (x := h18 238 106) (nx := 41) (r1 := 0) (r2 := 0) (r3 := 0) rfl (by decide) rfl (by omega) (by omega) (by decide) rfl ?_
                refine wi_istore (i := 4) (e := h18 238 106) (lo2 := [(4, vi (h18 238 106)), (0, .ref 236), (1, vi x16), (3, vi x17)]) (nx := 43) (r1 := 0) (r2 := 0) (r3 := 0) rfl rfl ?_
                refine wi_aload_n (i := 0) (x := 236) (nx := 44) (r1 := 0) (r2 := 0) (r3 := 0) rfl rfl ?_
                refine wi_aload_n (i := 0) (x := 236) (nx := 45) (r1 := 0) (r2 := 0) (r3 := 0) rfl rfl ?_
                refine wr_gr (k0 := 236) (x := 248) (nx := 48) (r1 := 11) (r2 := 31) (r3 := 0) rfl rfl (by decide) rfl ⟨rfl, rfl⟩ rfl ?_
                refine wi_iload_n (i := 1) (e := x16) (nx := 49) (r1 := 0) (r2 := 0) (r3 := 0) rfl rfl ?_
                refine wr_ia (k0 := 248) (a := x16) (f := i23) (x := h13 248 i23) (nx := 50) (r1 := 0) (r2 := 0) (r3 := 0) rfl (by decide) rfl (by omega) (by omega) (by decide) (u18 248 i23 (fn_a (by omega) (fn_a (by omega) (fn_a (by omega) (fn_a (by omega) (fn_a (by omega) (fn_a (by omega) (fn_a (by omega) (fn_a (by omega) (fn_a (by omega) (fn_a (by omega) (fn_a (by omega) (fn_a (by omega) (fn_a (by omega) (fn_a (by omega) (fn_a (by omega) (fn_a (by omega) (fn_a (by omega) (fn_a (by omega) (fn_a (by omega) (fn_a (by omega) (fn_a (by omega) (fn_a (by omega) (fn_a (by omega) (fn_a (by omega) (fn_a (by omega) fn_0)))))))))))))))))))))))))) ?_
                rcases (show (h13 248 i23) = 2 by omega) with q40
                ·
                  rw [q40]
                  refine wr_V (k0 := 236) (rest := []) (as := [.ref 236, vi 2]) (nx := 53) (r1 := 282) (r2 := 1) (r3 := 11) rfl rfl rfl (of_decide_eq_true rfl) rfl rfl (by decide) rfl rfl (of_decide_eq_true rfl) (of_decide_eq_true rfl) ?_
                  have b42 := gi_b (lo := 0) (hi := 6) g18 238 98 rfl
                  have b43 := gi_b (lo := 0) (hi := 6) g18 238 99 rfl
                  have b44 := gi_b (lo := 0) (hi := 6) g18 238 101 rfl
                  have e45 : h18 238 73 = h 238 73 := ((u18 238 73 rfl).trans (u13 238 73 rfl))
                  have e46 : h18 238 2 = h 238 2 := ((u18 238 2 rfl).trans (u13 238 2 rfl))
                  have b47 := gi_b (lo := 0) (hi := 9999) g18 238 119 rfl
                  have b48 := gi_b (lo := 0) (hi := 9) g18 238 69 rfl
                  have e49 : h18 238 5 = h 238 5 := ((u18 238 5 rfl).trans (u13 238 5 rfl))
                  have e50 : h18 238 (43 + (h18 238 86).toNat) = h18 238 i32 := by rw [show 43 + (h18 238 86).toNat = i32 by omega]
                  refine ct_282_236_L2 hcr  g18   (show (h18 238 98) + (h18 238 99) + (h18 238 100) + (h18 238 101) + (h18 238 102) + (h18 238 106) = (h18 238 73) by omega) (show (h18 238 73) ≤ (h18 238 2) by omega) (show (h18 238 119) ≤ (h18 238 67) by omega) (show (h18 238 69) ≤ (h18 238 5) by omega) (show (h18 238 2) ≤ 12 * (h18 238 5) by omega) (show 1 ≤ (h18 238 100) by omega) (show (h18 238 67) ≤ 9998 by omega) (show (h18 238 102) ≤ 2 ∨ (h18 238 (43 + (h18 238 86).toNat)) ≤ 0 by omega) (fun h41 z51 g41 u41 (fz51 : 0 ≤ z51 ∧ z51 ≤ 11) (p41_0 : (h41 238 98) + (h41 238 99) + (h41 238 100) + (h41 238 101) + (h41 238 102) + (h41 238 106) = (h41 238 73)) (p41_1 : (h41 238 73) ≤ (h41 238 2)) (p41_2 : (h41 238 119) ≤ (h41 238 67)) (p41_3 : (h41 238 69) ≤ (h41 238 5)) (p41_4 : (h41 238 2) ≤ 12 * (h41 238 5)) => ?_)
                  have F52 := F19.then (by decide +kernel) u41
                  have F53 := u18.then (by decide +kernel) u41
                  have e54 : h41 238 98 = h18 238 98 := (u41 238 98 rfl)
                  have e55 : h41 238 99 = h18 238 99 := (u41 238 99 rfl)
                  have b56 := gi_b (lo := 0) (hi := 6) g41 238 100 rfl
                  have e57 : h41 238 101 = h18 238 101 := (u41 238 101 rfl)
                  have b58 := gi_b (lo := 0) (hi := 3) g41 238 102 rfl
                  have b59 := gi_b (lo := 0) (hi := 12) g41 238 106 rfl
                  have e60 : h41 238 73 = h 238 73 := ((u41 238 73 rfl).trans ((u18 238 73 rfl).trans (u13 238 73 rfl)))
                  have e61 : h41 238 2 = h 238 2 := ((u41 238 2 rfl).trans ((u18 238 2 rfl).trans (u13 238 2 rfl)))
                  have b62 := gi_b (lo := 0) (hi := 9999) g41 238 119 rfl
                  have b63 := gi_b (lo := 0) (hi := 9999) g41 238 67 rfl
                  have b64 := gi_b (lo := 0) (hi := 9) g41 238 69 rfl
                  have e65 : h41 238 5 = h 238 5 := ((u41 238 5 rfl).trans ((u18 238 5 rfl).trans (u13 238 5 rfl)))
                  refine wk_i ?_
                  refine wi_istore (i := 5) (e := z51) (lo2 := [(5, vi z51), (4, vi (h18 238 106)), (0, .ref 236), (1, vi x16), (3, vi x17)]) (nx := 55) (r1 := 0) (r2 := 0) (r3 := 0) rfl rfl ?_
                  refine wr_iinc (i := 1) (n := 1) (v := x16) (fun e66 => [(1, vi e66), (5, vi z51), (4, vi (h18 238 106)), (0, .ref 236), (3, vi x17)]) (nx := 58) (r1 := 0) (r2 := 0) (r3 := 0) rfl rfl (fun _ => rfl) (fun e66 (fe66 : e66 = x16 + 1) => ?_)
                  refine wi_aload_n (i := 0) (x := 236) (nx := 59) (r1 := 0) (r2 := 0) (r3 := 0) rfl rfl ?_
                  refine wr_gr (k0 := 236) (x := 238) (nx := 62) (r1 := 11) (r2 := 13) (r3 := 0) rfl rfl (by decide) rfl ⟨rfl, rfl⟩ rfl ?_
                  refine wi_bipush (n := 106) (nx := 64) (r1 := 0) (r2 := 0) (r3 := 0) rfl (by decide) ?_
                  refine wr_ia (k0 := 238) (a := 106) (f := 106) (x := h41 238 106) (nx := 65) (r1 := 0) (r2 := 0) (r3 := 0) rfl (by decide) rfl (by omega) (by omega) (by decide) rfl ?_
                  refine wi_iload (i := 4) (e := h18 238 106) (nx := 67) (r1 := 0) (r2 := 0) (r3 := 0) rfl rfl ?_
                  refine wi_icmp (cd := .le) (nx := 70) (r1 := 74) (r2 := 0) (r3 := 0) rfl (by omega) (by omega) (fun (q67 : (h41 238 106) ≤ (h18 238 106)) => ?_) (fun (q67 : ¬ ((h41 238 106) ≤ (h18 238 106))) => ?_)
                  ·
                    refine wi_iconst (n := 0) (nx := 75) (r1 := 0) (r2 := 0) (r3 := 0) rfl ?_
                    refine wi_istore_n (i := 3) (e := 0) (lo2 := [(3, vi 0), (1, vi e66), (5, vi z51), (4, vi (h18 238 106)), (0, .ref 236)]) (nx := 76) (r1 := 0) (r2 := 0) (r3 := 0) rfl rfl ?_
                    refine wi_goto (nx := 79) (r1 := 9) (r2 := 0) (r3 := 0) rfl ?_
                    refine wp.lo (lo := [(0, .ref 236), (1, vi e66), (3, vi 0)]) ⟨rfl, rfl, rfl, trivial⟩ rfl ?_
                    exact I18 e66 0 h41 ⟨g41, F52, F53, (show (0 ≤ e66 ∧ e66 ≤ 12) ∧ (0 ≤ 0 ∧ 0 ≤ 1) by omega)⟩ (show ((12 : Int) + 1 - e66).toNat < ((12 : Int) + 1 - x16).toNat by omega)
                  ·
                    refine wi_iconst (n := 1) (nx := 71) (r1 := 0) (r2 := 0) (r3 := 0) rfl ?_
                    refine wi_goto (nx := 74) (r1 := 75) (r2 := 0) (r3 := 0) rfl ?_
                    refine wi_istore_n (i := 3) (e := 1) (lo2 := [(3, vi 1), (1, vi e66), (5, vi z51), (4, vi (h18 238 106)), (0, .ref 236)]) (nx := 76) (r1 := 0) (r2 := 0) (r3 := 0) rfl rfl ?_
                    refine wi_goto (nx := 79) (r1 := 9) (r2 := 0) (r3 := 0) rfl ?_
                    refine wp.lo (lo := [(0, .ref 236), (1, vi e66), (3, vi 1)]) ⟨rfl, rfl, rfl, trivial⟩ rfl ?_
                    exact I18 e66 1 h41 ⟨g41, F52, F53, (show (0 ≤ e66 ∧ e66 ≤ 12) ∧ (0 ≤ 1 ∧ 1 ≤ 1) by omega)⟩ (show ((12 : Int) + 1 - e66).toNat < ((12 : Int) + 1 - x16).toNat by omega)
          ·
            refine wi_iconst (n := 0) (nx := 26) (r1 := 0) (r2 := 0) (r3 := 0) rfl ?_
            refine wi_zreturn (nx := 27) (r1 := 0) (r2 := 0) (r3 := 0) rfl rfl (by omega) ?_
            refine wk_i ?_
            refine wi_if (cd := .eq) (nx := 34) (r1 := 79) (r2 := 0) (r3 := 0) rfl (by omega) (fun (q30 : 0 = 0) => ?_) (fun (q30 : ¬ (0 = 0)) => by exfalso; omega)
            refine wi_iload_n (i := 1) (e := x16) (nx := 80) (r1 := 0) (r2 := 0) (r3 := 0) rfl rfl ?_
            refine wi_ireturn (nx := 81) (r1 := 0) (r2 := 0) (r3 := 0) rfl rfl ?_
            have b31 := gi_b (lo := 0) (hi := 6) g18 238 98 rfl
            have b32 := gi_b (lo := 0) (hi := 6) g18 238 99 rfl
            have b33 := gi_b (lo := 0) (hi := 6) g18 238 101 rfl
            have b34 := gi_b (lo := 0) (hi := 3) g18 238 102 rfl
            have b35 := gi_b (lo := 0) (hi := 12) g18 238 106 rfl
            have e36 : h18 238 73 = h 238 73 := ((u18 238 73 rfl).trans (u13 238 73 rfl))
            have e37 : h18 238 2 = h 238 2 := ((u18 238 2 rfl).trans (u13 238 2 rfl))
            have b38 := gi_b (lo := 0) (hi := 9999) g18 238 119 rfl
            have b39 := gi_b (lo := 0) (hi := 9) g18 238 69 rfl
            have e40 : h18 238 5 = h 238 5 := ((u18 238 5 rfl).trans (u13 238 5 rfl))
            exact k h18 x16 g18 F19 (by omega) (show (h18 238 98) + (h18 238 99) + (h18 238 100) + (h18 238 101) + (h18 238 102) + (h18 238 106) = (h18 238 73) by omega) (show (h18 238 73) ≤ (h18 238 2) by omega) (show (h18 238 119) ≤ (h18 238 67) by omega) (show (h18 238 69) ≤ (h18 238 5) by omega) (show (h18 238 2) ≤ 12 * (h18 238 5) by omega)
      ·
        rw [q25]
        refine wr_V (k0 := 236) (rest := []) (as := [.ref 236, vi 3]) (nx := 31) (r1 := 267) (r2 := 1) (r3 := 11) rfl rfl rfl (of_decide_eq_true rfl) rfl rfl (by decide) rfl rfl (of_decide_eq_true rfl) (of_decide_eq_true rfl) ?_
        refine wi_aload_n (i := 0) (x := 236) (nx := 1) (r1 := 0) (r2 := 0) (r3 := 0) rfl rfl ?_
        refine wr_gr (k0 := 236) (x := 238) (nx := 4) (r1 := 11) (r2 := 13) (r3 := 0) rfl rfl (by decide) rfl ⟨rfl, rfl⟩ rfl ?_
        refine wi_bipush (n := 98) (nx := 6) (r1 := 0) (r2 := 0) (r3 := 0) rfl (by decide) ?_
        refine wi_iload_n (i := 1) (e := 3) (nx := 7) (r1 := 0) (r2 := 0) (r3 := 0) rfl rfl ?_
        refine wr_addL (101) (nx := 8) (r1 := 0) (r2 := 0) (r3 := 0) rfl (by decide) ?_
        have b26 := gi_b (lo := 0) (hi := 6) g18 238 101 rfl
        refine wr_ia (k0 := 238) (a := 101) (f := 101) (x := h18 238 101) (nx := 9) (r1 := 0) (r2 := 0) (r3 := 0) rfl (by decide) rfl (by omega) (by omega) (by decide) rfl ?_
        refine wi_if (cd := .eq) (nx := 12) (r1 := 25) (r2 := 0) (r3 := 0) rfl (by omega) (fun (q27 : (h18 238 101) = 0) => ?_) (fun (q27 : ¬ ((h18 238 101) = 0)) => ?_)
        ·
          refine wi_iconst (n := 0) (nx := 26) (r1 := 0) (r2 := 0) (r3 := 0) rfl ?_
          refine wi_zreturn (nx := 27) (r1 := 0) (r2 := 0) (r3 := 0) rfl rfl (by omega) ?_
          refine wk_i ?_
          refine wi_if (cd := .eq) (nx := 34) (r1 := 79) (r2 := 0) (r3 := 0) rfl (by omega) (fun (q28 : 0 = 0) => ?_) (fun (q28 : ¬ (0 = 0)) => by exfalso; omega)
          refine wi_iload_n (i := 1) (e := x16) (nx := 80) (r1 := 0) (r2 := 0) (r3 := 0) rfl rfl ?_
          refine wi_ireturn (nx := 81) (r1 := 0) (r2 := 0) (r3 := 0) rfl rfl ?_
          have b29 := gi_b (lo := 0) (hi := 6) g18 238 98 rfl
          have b30 := gi_b (lo := 0) (hi := 6) g18 238 99 rfl
          have b31 := gi_b (lo := 0) (hi := 6) g18 238 100 rfl
          have b32 := gi_b (lo := 0) (hi := 3) g18 238 102 rfl
          have b33 := gi_b (lo := 0) (hi := 12) g18 238 106 rfl
          have e34 : h18 238 73 = h 238 73 := ((u18 238 73 rfl).trans (u13 238 73 rfl))
          have e35 : h18 238 2 = h 238 2 := ((u18 238 2 rfl).trans (u13 238 2 rfl))
          have b36 := gi_b (lo := 0) (hi := 9999) g18 238 119 rfl
          have b37 := gi_b (lo := 0) (hi := 9999) g18 238 67 rfl
          have b38 := gi_b (lo := 0) (hi := 9) g18 238 69 rfl
          have e39 : h18 238 5 = h 238 5 := ((u18 238 5 rfl).trans (u13 238 5 rfl))
          exact k h18 x16 g18 F19 (by omega) (show (h18 238 98) + (h18 238 99) + (h18 238 100) + (h18 238 101) + (h18 238 102) + (h18 238 106) = (h18 238 73) by omega) (show (h18 238 73) ≤ (h18 238 2) by omega) (show (h18 238 119) ≤ (h18 238 67) by omega) (show (h18 238 69) ≤ (h18 238 5) by omega) (show (h18 238 2) ≤ 12 * (h18 238 5) by omega)
        ·
          refine wi_aload_n (i := 0) (x := 236) (nx := 13) (r1 := 0) (r2 := 0) (r3 := 0) rfl rfl ?_
          refine wr_gr (k0 := 236) (x := 238) (nx := 16) (r1 := 11) (r2 := 13) (r3 := 0) rfl rfl (by decide) rfl ⟨rfl, rfl⟩ rfl ?_
          refine wi_bipush (n := 67) (nx := 18) (r1 := 0) (r2 := 0) (r3 := 0) rfl (by decide) ?_
          have b28 := gi_b (lo := 0) (hi := 9999) g18 238 67 rfl
          refine wr_ia (k0 := 238) (a := 67) (f := 67) (x := h18 238 67) (nx := 19) (r1 := 0) (r2 := 0) (r3 := 0) rfl (by decide) rfl (by omega) (by omega) (by decide) rfl ?_
          refine wi_sipush (n := 9999) (nx := 22) (r1 := 0) (r2 := 0) (r3 := 0) rfl (by decide) ?_
          refine wi_icmp (cd := .ne) (nx := 25) (r1 := 27) (r2 := 0) (r3 := 0) rfl (by omega) (by omega) (fun (q29 : (h18 238 67) ≠ 9999) => ?_) (fun (q29 : ¬ ((h18 238 67) ≠ 9999)) => ?_)
          ·
            refine wi_aload_n (i := 0) (x := 236) (nx := 28) (r1 := 0) (r2 := 0) (r3 := 0) rfl rfl ?_
            refine wi_iload_n (i := 1) (e := 3) (nx := 29) (r1 := 0) (r2 := 0) (r3 := 0) rfl rfl ?_
            refine wi_iconst (n := 0) (nx := 30) (r1 := 0) (r2 := 0) (r3 := 0) rfl ?_
            refine wr_V (k0 := 236) (rest := []) (as := [.ref 236, vi 3, vi 0]) (nx := 33) (r1 := 258) (r2 := 2) (r3 := 11) rfl rfl rfl (of_decide_eq_true rfl) rfl rfl (by decide) rfl rfl (of_decide_eq_true rfl) (of_decide_eq_true rfl) ?_
            refine wi_aload_n (i := 0) (x := 236) (nx := 1) (r1 := 0) (r2 := 0) (r3 := 0) rfl rfl ?_
            refine wr_gr (k0 := 236) (x := 238) (nx := 4) (r1 := 11) (r2 := 13) (r3 := 0) rfl rfl (by decide) rfl ⟨rfl, rfl⟩ rfl ?_
            refine wi_bipush (n := 74) (nx := 6) (r1 := 0) (r2 := 0) (r3 := 0) rfl (by decide) ?_
            refine wi_bipush (n := 6) (nx := 8) (r1 := 0) (r2 := 0) (r3 := 0) rfl (by decide) ?_
            refine wi_iload_n (i := 1) (e := 3) (nx := 9) (r1 := 0) (r2 := 0) (r3 := 0) rfl rfl ?_
            refine wr_mulL (18) (nx := 10) (r1 := 0) (r2 := 0) (r3 := 0) rfl (by decide) ?_
            refine wr_addL (92) (nx := 11) (r1 := 0) (r2 := 0) (r3 := 0) rfl (by decide) ?_
            refine wi_iload_n (i := 2) (e := 0) (nx := 12) (r1 := 0) (r2 := 0) (r3 := 0) rfl rfl ?_
            refine wr_addL (92) (nx := 13) (r1 := 0) (r2 := 0) (r3 := 0) rfl (by decide) ?_
            have b30 := gi_b (lo := 0) (hi := 11) g18 238 92 rfl
            refine wr_ia (k0 := 238) (a := 92) (f := 92) (x := h18 238 92) (nx := 14) (r1 := 0) (r2 := 0) (r3 := 0) rfl (by decide) rfl (by omega) (by omega) (by decide) rfl ?_
            refine wi_ireturn (nx := 15) (r1 := 0) (r2 := 0) (r3 := 0) rfl rfl ?_
            refine wk_i ?_
            refine wi_istore_n (i := 2) (e := h18 238 92) (lo2 := [(2, vi (h18 238 92)), (0, .ref 236), (1, vi 3)]) (nx := 34) (r1 := 0) (r2 := 0) (r3 := 0) rfl rfl ?_
            refine wi_aload_n (i := 0) (x := 236) (nx := 35) (r1 := 0) (r2 := 0) (r3 := 0) rfl rfl ?_
            refine wr_gr (k0 := 236) (x := 238) (nx := 38) (r1 := 11) (r2 := 13) (r3 := 0) rfl rfl (by decide) rfl ⟨rfl, rfl⟩ rfl ?_
            refine wi_bipush (n := 43) (nx := 40) (r1 := 0) (r2 := 0) (r3 := 0) rfl (by decide) ?_
            refine wi_iload_n (i := 2) (e := h18 238 92) (nx := 41) (r1 := 0) (r2 := 0) (r3 := 0) rfl rfl ?_
            refine wr_add (nx := 42) (r1 := 0) (r2 := 0) (r3 := 0) rfl (fun e31 (fe31 : e31 = 43 + (h18 238 92)) => ?_)
            obtain ⟨i32, ei32⟩ : ∃ q : Nat, e31 = (q : Int) := ⟨(e31).toNat, by omega⟩
            have b33 := gi_b (lo := 0) (hi := 999) g18 238 i32 (gi_rg 43 12 (fun _ => rfl) (by decide +kernel) (by omega))
            refine wr_ia (k0 := 238) (a := e31) (f := i32) (x := h18 238 i32) (nx := 43) (r1 := 0) (r2 := 0) (r3 := 0) rfl (by decide) rfl (by omega) (by omega) (by decide) rfl ?_
            refine wi_if (cd := .le) (nx := 46) (r1 := 71) (r2 := 0) (r3 := 0) rfl (by omega) (fun (q34 : (h18 238 i32) ≤ 0) => ?_) (fun (q34 : ¬ ((h18 238 i32) ≤ 0)) => ?_)
            ·
              refine wi_iload_n (i := 2) (e := h18 238 92) (nx := 72) (r1 := 0) (r2 := 0) (r3 := 0) rfl rfl ?_
              refine wi_aload_n (i := 0) (x := 236) (nx := 73) (r1 := 0) (r2 := 0) (r3 := 0) rfl rfl ?_
              refine wr_gr (k0 := 236) (x := 238) (nx := 76) (r1 := 11) (r2 := 13) (r3 := 0) rfl rfl (by decide) rfl ⟨rfl, rfl⟩ rfl ?_
              refine wi_bipush (n := 106) (nx := 78) (r1 := 0) (r2 := 0) (r3 := 0) rfl (by decide) ?_
              have b35 := gi_b (lo := 0) (hi := 12) g18 238 106 rfl
              refine wr_ia (k0 := 238) (a := 106) (f := 106) (x := h18 238 106) (nx := 79) (r1 := 0) (r2 := 0) (r3 := 0) rfl (by decide) rfl (by omega) (by omega) (by decide) rfl ?_
              refine wr_sub (nx := 80) (r1 := 0) (r2 := 0) (r3 := 0) rfl (fun e36 (fe36 : e36 = (h18 238 92) - (h18 238 106)) => ?_)
              refine wi_aload_n (i := 0) (x := 236) (nx := 81) (r1 := 0) (r2 := 0) (r3 := 0) rfl rfl ?_
              refine wr_gr (k0 := 236) (x := 238) (nx := 84) (r1 := 11) (r2 := 13) (r3 := 0) rfl rfl (by decide) rfl ⟨rfl, rfl⟩ rfl ?_
              refine wi_iconst (n := 3) (nx := 85) (r1 := 0) (r2 := 0) (r3 := 0) rfl ?_
              have b37 := gi_b (lo := 0) (hi := 999) g 238 3 rfl
              refine wr_ia (k0 := 238) (a := 3) (f := 3) (x := h 238 3) (nx := 86) (r1 := 0) (r2 := 0) (r3 := 0) rfl (by decide) rfl (by omega) (by omega) (by decide) ((u18 238 3 rfl).trans (u13 238 3 rfl)) ?_
              refine wi_icmp (cd := .gt) (nx := 89) (r1 := 93) (r2 := 0) (r3 := 0) rfl (by omega) (by omega) (fun (q38 : (h 238 3) < e36) => ?_) (fun (q38 : ¬ ((h 238 3) < e36)) => ?_)
              ·
                refine wi_iconst (n := 0) (nx := 94) (r1 := 0) (r2 := 0) (r3 := 0) rfl ?_
                refine wi_zreturn (nx := 95) (r1 := 0) (r2 := 0) (r3 := 0) rfl rfl (by omega) ?_
                refine wk_i ?_
                refine wi_if (cd := .eq) (nx := 34) (r1 := 79) (r2 := 0) (r3 := 0) rfl (by omega) (fun (q39 : 0 = 0) => ?_) (fun (q39 : ¬ (0 = 0)) => by exfalso; omega)
                refine wi_iload_n (i := 1) (e := x16) (nx := 80) (r1 := 0) (r2 := 0) (r3 := 0) rfl rfl ?_
                refine wi_ireturn (nx := 81) (r1 := 0) (r2 := 0) (r3 := 0) rfl rfl ?_
                have b40 := gi_b (lo := 0) (hi := 6) g18 238 98 rfl
                have b41 := gi_b (lo := 0) (hi := 6) g18 238 99 rfl
                have b42 := gi_b (lo := 0) (hi := 6) g18 238 100 rfl
                have b43 := gi_b (lo := 0) (hi := 3) g18 238 102 rfl
                have e44 : h18 238 73 = h 238 73 := ((u18 238 73 rfl).trans (u13 238 73 rfl))
                have e45 : h18 238 2 = h 238 2 := ((u18 238 2 rfl).trans (u13 238 2 rfl))
                have b46 := gi_b (lo := 0) (hi := 9999) g18 238 119 rfl
                have b47 := gi_b (lo := 0) (hi := 9) g18 238 69 rfl
                have e48 : h18 238 5 = h 238 5 := ((u18 238 5 rfl).trans (u13 238 5 rfl))
                exact k h18 x16 g18 F19 (by omega) (show (h18 238 98) + (h18 238 99) + (h18 238 100) + (h18 238 101) + (h18 238 102) + (h18 238 106) = (h18 238 73) by omega) (show (h18 238 73) ≤ (h18 238 2) by omega) (show (h18 238 119) ≤ (h18 238 67) by omega) (show (h18 238 69) ≤ (h18 238 5) by omega) (show (h18 238 2) ≤ 12 * (h18 238 5) by omega)
              ·
                refine wi_iconst (n := 1) (nx := 90) (r1 := 0) (r2 := 0) (r3 := 0) rfl ?_
                refine wi_goto (nx := 93) (r1 := 94) (r2 := 0) (r3 := 0) rfl ?_
                refine wi_zreturn (nx := 95) (r1 := 0) (r2 := 0) (r3 := 0) rfl rfl (by omega) ?_
                refine wk_i ?_
                refine wi_if (cd := .eq) (nx := 34) (r1 := 79) (r2 := 0) (r3 := 0) rfl (by omega) (fun (q39 : 1 = 0) => by exfalso; omega) (fun (q39 : ¬ (1 = 0)) => ?_)
                refine wi_aload_n (i := 0) (x := 236) (nx := 35) (r1 := 0) (r2 := 0) (r3 := 0) rfl rfl ?_
                refine wr_gr (k0 := 236) (x := 238) (nx := 38) (r1 := 11) (r2 := 13) (r3 := 0) rfl rfl (by decide) rfl ⟨rfl, rfl⟩ rfl ?_
                refine wi_bipush (n := 106) (nx := 40) (r1 := 0) (r2 := 0) (r3 := 0) rfl (by decide) ?_
                refine wr_ia (k0 := 238) (a := 106) (f := 106) (x := h18 238 106) (nx := 41) (r1 := 0) (r2 := 0) (r3 := 0) rfl (by decide) rfl (by omega) (by omega) (by decide) rfl ?_
                refine wi_istore (i := 4) (e := h18 238 106) (lo2 := [(4, vi (h18 238 106)), (0, .ref 236), (1, vi x16), (3, vi x17)]) (nx := 43) (r1 := 0) (r2 := 0) (r3 := 0) rfl rfl ?_
                refine wi_aload_n (i := 0) (x := 236) (nx := 44) (r1 := 0) (r2 := 0) (r3 := 0) rfl rfl ?_
                refine wi_aload_n (i := 0) (x := 236) (nx := 45) (r1 := 0) (r2 := 0) (r3 := 0) rfl rfl ?_
                refine wr_gr (k0 := 236) (x := 248) (nx := 48) (r1 := 11) (r2 := 31) (r3 := 0) rfl rfl (by decide) rfl ⟨rfl, rfl⟩ rfl ?_
                refine wi_iload_n (i := 1) (e := x16) (nx := 49) (r1 := 0) (r2 := 0) (r3 := 0) rfl rfl ?_
                refine wr_ia (k0 := 248) (a := x16) (f := i23) (x := h13 248 i23) (nx := 50) (r1 := 0) (r2 := 0) (r3 := 0) rfl (by decide) rfl (by omega) (by omega) (by decide) (u18 248 i23 (fn_a (by omega) (fn_a (by omega) (fn_a (by omega) (fn_a (by omega) (fn_a (by omega) (fn_a (by omega) (fn_a (by omega) (fn_a (by omega) (fn_a (by omega) (fn_a (by omega) (fn_a (by omega) (fn_a (by omega) (fn_a (by omega) (fn_a (by omega) (fn_a (by omega) (fn_a (by omega) (fn_a (by omega) (fn_a (by omega) (fn_a (by omega) (fn_a (by omega) (fn_a (by omega) (fn_a (by omega) (fn_a (by omega) (fn_a (by omega) (fn_a (by omega) fn_0)))))))))))))))))))))))))) ?_
                rcases (show (h13 248 i23) = 3 by omega) with q40
                ·
                  rw [q40]
                  refine wr_V (k0 := 236) (rest := []) (as := [.ref 236, vi 3]) (nx := 53) (r1 := 282) (r2 := 1) (r3 := 11) rfl rfl rfl (of_decide_eq_true rfl) rfl rfl (by decide) rfl rfl (of_decide_eq_true rfl) (of_decide_eq_true rfl) ?_
                  have b42 := gi_b (lo := 0) (hi := 6) g18 238 98 rfl
                  have b43 := gi_b (lo := 0) (hi := 6) g18 238 99 rfl
                  have b44 := gi_b (lo := 0) (hi := 6) g18 238 100 rfl
                  have b45 := gi_b (lo := 0) (hi := 3) g18 238 102 rfl
                  have e46 : h18 238 73 = h 238 73 := ((u18 238 73 rfl).trans (u13 238 73 rfl))
                  have e47 : h18 238 2 = h 238 2 := ((u18 238 2 rfl).trans (u13 238 2 rfl))
                  have b48 := gi_b (lo := 0) (hi := 9999) g18 238 119 rfl
                  have b49 := gi_b (lo := 0) (hi := 9) g18 238 69 rfl
                  have e50 : h18 238 5 = h 238 5 := ((u18 238 5 rfl).trans (u13 238 5 rfl))
                  have e51 : h18 238 (43 + (h18 238 92).toNat) = h18 238 i32 := by rw [show 43 + (h18 238 92).toNat = i32 by omega]
                  refine ct_282_236_L3 hcr  g18   (show (h18 238 98) + (h18 238 99) + (h18 238 100) + (h18 238 101) + (h18 238 102) + (h18 238 106) = (h18 238 73) by omega) (show (h18 238 73) ≤ (h18 238 2) by omega) (show (h18 238 119) ≤ (h18 238 67) by omega) (show (h18 238 69) ≤ (h18 238 5) by omega) (show (h18 238 2) ≤ 12 * (h18 238 5) by omega) (show 1 ≤ (h18 238 101) by omega) (show (h18 238 67) ≤ 9998 by omega) (show (h18 238 102) ≤ 2 ∨ (h18 238 (43 + (h18 238 92).toNat)) ≤ 0 by omega) (fun h41 z52 g41 u41 (fz52 : 0 ≤ z52 ∧ z52 ≤ 11) (p41_0 : (h41 238 98) + (h41 238 99) + (h41 238 100) + (h41 238 101) + (h41 238 102) + (h41 238 106) = (h41 238 73)) (p41_1 : (h41 238 73) ≤ (h41 238 2)) (p41_2 : (h41 238 119) ≤ (h41 238 67)) (p41_3 : (h41 238 69) ≤ (h41 238 5)) (p41_4 : (h41 238 2) ≤ 12 * (h41 238 5)) => ?_)
                  have F53 := F19.then (by decide +kernel) u41
                  have F54 := u18.then (by decide +kernel) u41
                  have e55 : h41 238 98 = h18 238 98 := (u41 238 98 rfl)
                  have e56 : h41 238 99 = h18 238 99 := (u41 238 99 rfl)
                  have e57 : h41 238 100 = h18 238 100 := (u41 238 100 rfl)
                  have b58 := gi_b (lo := 0) (hi := 6) g41 238 101 rfl
                  have b59 := gi_b (lo := 0) (hi := 3) g41 238 102 rfl
                  have b60 := gi_b (lo := 0) (hi := 12) g41 238 106 rfl
                  have e61 : h41 238 73 = h 238 73 := ((u41 238 73 rfl).trans ((u18 238 73 rfl).trans (u13 238 73 rfl)))
                  have e62 : h41 238 2 = h 238 2 := ((u41 238 2 rfl).trans ((u18 238 2 rfl).trans (u13 238 2 rfl)))
                  have b63 := gi_b (lo := 0) (hi := 9999) g41 238 119 rfl
                  have b64 := gi_b (lo := 0) (hi := 9999) g41 238 67 rfl
                  have b65 := gi_b (lo := 0) (hi := 9) g41 238 69 rfl
                  have e66 : h41 238 5 = h 238 5 := ((u41 238 5 rfl).trans ((u18 238 5 rfl).trans (u13 238 5 rfl)))
                  refine wk_i ?_
                  refine wi_istore (i := 5) (e := z52) (lo2 := [(5, vi z52), (4, vi (h18 238 106)), (0, .ref 236), (1, vi x16), (3, vi x17)]) (nx := 55) (r1 := 0) (r2 := 0) (r3 := 0) rfl rfl ?_
                  refine wr_iinc (i := 1) (n := 1) (v := x16) (fun e67 => [(1, vi e67), (5, vi z52), (4, vi (h18 238 106)), (0, .ref 236), (3, vi x17)]) (nx := 58) (r1 := 0) (r2 := 0) (r3 := 0) rfl rfl (fun _ => rfl) (fun e67 (fe67 : e67 = x16 + 1) => ?_)
                  refine wi_aload_n (i := 0) (x := 236) (nx := 59) (r1 := 0) (r2 := 0) (r3 := 0) rfl rfl ?_
                  refine wr_gr (k0 := 236) (x := 238) (nx := 62) (r1 := 11) (r2 := 13) (r3 := 0) rfl rfl (by decide) rfl ⟨rfl, rfl⟩ rfl ?_
                  refine wi_bipush (n := 106) (nx := 64) (r1 := 0) (r2 := 0) (r3 := 0) rfl (by decide) ?_
                  refine wr_ia (k0 := 238) (a := 106) (f := 106) (x := h41 238 106) (nx := 65) (r1 := 0) (r2 := 0) (r3 := 0) rfl (by decide) rfl (by omega) (by omega) (by decide) rfl ?_
                  refine wi_iload (i := 4) (e := h18 238 106) (nx := 67) (r1 := 0) (r2 := 0) (r3 := 0) rfl rfl ?_
                  refine wi_icmp (cd := .le) (nx := 70) (r1 := 74) (r2 := 0) (r3 := 0) rfl (by omega) (by omega) (fun (q68 : (h41 238 106) ≤ (h18 238 106)) => ?_) (fun (q68 : ¬ ((h41 238 106) ≤ (h18 238 106))) => ?_)
                  ·
                    refine wi_iconst (n := 0) (nx := 75) (r1 := 0) (r2 := 0) (r3 := 0) rfl ?_
                    refine wi_istore_n (i := 3) (e := 0) (lo2 := [(3, vi 0), (1, vi e67), (5, vi z52), (4, vi (h18 238 106)), (0, .ref 236)]) (nx := 76) (r1 := 0) (r2 := 0) (r3 := 0) rfl rfl ?_
                    refine wi_goto (nx := 79) (r1 := 9) (r2 := 0) (r3 := 0) rfl ?_
                    refine wp.lo (lo := [(0, .ref 236), (1, vi e67), (3, vi 0)]) ⟨rfl, rfl, rfl, trivial⟩ rfl ?_
                    exact I18 e67 0 h41 ⟨g41, F53, F54, (show (0 ≤ e67 ∧ e67 ≤ 12) ∧ (0 ≤ 0 ∧ 0 ≤ 1) by omega)⟩ (show ((12 : Int) + 1 - e67).toNat < ((12 : Int) + 1 - x16).toNat by omega)
                  ·
                    refine wi_iconst (n := 1) (nx := 71) (r1 := 0) (r2 := 0) (r3 := 0) rfl ?_
                    refine wi_goto (nx := 74) (r1 := 75) (r2 := 0) (r3 := 0) rfl ?_
                    refine wi_istore_n (i := 3) (e := 1) (lo2 := [(3, vi 1), (1, vi e67), (5, vi z52), (4, vi (h18 238 106)), (0, .ref 236)]) (nx := 76) (r1 := 0) (r2 := 0) (r3 := 0) rfl rfl ?_
                    refine wi_goto (nx := 79) (r1 := 9) (r2 := 0) (r3 := 0) rfl ?_
                    refine wp.lo (lo := [(0, .ref 236), (1, vi e67), (3, vi 1)]) ⟨rfl, rfl, rfl, trivial⟩ rfl ?_
                    exact I18 e67 1 h41 ⟨g41, F53, F54, (show (0 ≤ e67 ∧ e67 ≤ 12) ∧ (0 ≤ 1 ∧ 1 ≤ 1) by omega)⟩ (show ((12 : Int) + 1 - e67).toNat < ((12 : Int) + 1 - x16).toNat by omega)
            ·
              refine wi_aload_n (i := 0) (x := 236) (nx := 47) (r1 := 0) (r2 := 0) (r3 := 0) rfl rfl ?_
              refine wr_gr (k0 := 236) (x := 238) (nx := 50) (r1 := 11) (r2 := 13) (r3 := 0) rfl rfl (by decide) rfl ⟨rfl, rfl⟩ rfl ?_
              refine wi_bipush (n := 102) (nx := 52) (r1 := 0) (r2 := 0) (r3 := 0) rfl (by decide) ?_
              have b35 := gi_b (lo := 0) (hi := 3) g18 238 102 rfl
              refine wr_ia (k0 := 238) (a := 102) (f := 102) (x := h18 238 102) (nx := 53) (r1 := 0) (r2 := 0) (r3 := 0) rfl (by decide) rfl (by omega) (by omega) (by decide) rfl ?_
              refine wi_aload_n (i := 0) (x := 236) (nx := 54) (r1 := 0) (r2 := 0) (r3 := 0) rfl rfl ?_
              refine wr_gr (k0 := 236) (x := 238) (nx := 57) (r1 := 11) (r2 := 13) (r3 := 0) rfl rfl (by decide) rfl ⟨rfl, rfl⟩ rfl ?_
              refine wi_bipush (n := 7) (nx := 59) (r1 := 0) (r2 := 0) (r3 := 0) rfl (by decide) ?_
              have b36 := gi_b (lo := 0) (hi := 3) g 238 7 rfl
              refine wr_ia (k0 := 238) (a := 7) (f := 7) (x := h 238 7) (nx := 60) (r1 := 0) (r2 := 0) (r3 := 0) rfl (by decide) rfl (by omega) (by omega) (by decide) ((u18 238 7 rfl).trans (u13 238 7 rfl)) ?_
              refine wi_icmp (cd := .ge) (nx := 63) (r1 := 67) (r2 := 0) (r3 := 0) rfl (by omega) (by omega) (fun (q37 : (h 238 7) ≤ (h18 238 102)) => ?_) (fun (q37 : ¬ ((h 238 7) ≤ (h18 238 102))) => ?_)
              ·
                refine wi_iconst (n := 0) (nx := 68) (r1 := 0) (r2 := 0) (r3 := 0) rfl ?_
                refine wi_goto (nx := 71) (r1 := 94) (r2 := 0) (r3 := 0) rfl ?_
                refine wi_zreturn (nx := 95) (r1 := 0) (r2 := 0) (r3 := 0) rfl rfl (by omega) ?_
                refine wk_i ?_
                refine wi_if (cd := .eq) (nx := 34) (r1 := 79) (r2 := 0) (r3 := 0) rfl (by omega) (fun (q38 : 0 = 0) => ?_) (fun (q38 : ¬ (0 = 0)) => by exfalso; omega)
                refine wi_iload_n (i := 1) (e := x16) (nx := 80) (r1 := 0) (r2 := 0) (r3 := 0) rfl rfl ?_
                refine wi_ireturn (nx := 81) (r1 := 0) (r2 := 0) (r3 := 0) rfl rfl ?_
                have b39 := gi_b (lo := 0) (hi := 6) g18 238 98 rfl
                have b40 := gi_b (lo := 0) (hi := 6) g18 238 99 rfl
                have b41 := gi_b (lo := 0) (hi := 6) g18 238 100 rfl
                have b42 := gi_b (lo := 0) (hi := 12) g18 238 106 rfl
                have e43 : h18 238 73 = h 238 73 := ((u18 238 73 rfl).trans (u13 238 73 rfl))
                have e44 : h18 238 2 = h 238 2 := ((u18 238 2 rfl).trans (u13 238 2 rfl))
                have b45 := gi_b (lo := 0) (hi := 9999) g18 238 119 rfl
                have b46 := gi_b (lo := 0) (hi := 9) g18 238 69 rfl
                have e47 : h18 238 5 = h 238 5 := ((u18 238 5 rfl).trans (u13 238 5 rfl))
                exact k h18 x16 g18 F19 (by omega) (show (h18 238 98) + (h18 238 99) + (h18 238 100) + (h18 238 101) + (h18 238 102) + (h18 238 106) = (h18 238 73) by omega) (show (h18 238 73) ≤ (h18 238 2) by omega) (show (h18 238 119) ≤ (h18 238 67) by omega) (show (h18 238 69) ≤ (h18 238 5) by omega) (show (h18 238 2) ≤ 12 * (h18 238 5) by omega)
              ·
                refine wi_iconst (n := 1) (nx := 64) (r1 := 0) (r2 := 0) (r3 := 0) rfl ?_
                refine wi_goto (nx := 67) (r1 := 94) (r2 := 0) (r3 := 0) rfl ?_
                refine wi_zreturn (nx := 95) (r1 := 0) (r2 := 0) (r3 := 0) rfl rfl (by omega) ?_
                refine wk_i ?_
                refine wi_if (cd := .eq) (nx := 34) (r1 := 79) (r2 := 0) (r3 := 0) rfl (by omega) (fun (q38 : 1 = 0) => by exfalso; omega) (fun (q38 : ¬ (1 = 0)) => ?_)
                refine wi_aload_n (i := 0) (x := 236) (nx := 35) (r1 := 0) (r2 := 0) (r3 := 0) rfl rfl ?_
                refine wr_gr (k0 := 236) (x := 238) (nx := 38) (r1 := 11) (r2 := 13) (r3 := 0) rfl rfl (by decide) rfl ⟨rfl, rfl⟩ rfl ?_
                refine wi_bipush (n := 106) (nx := 40) (r1 := 0) (r2 := 0) (r3 := 0) rfl (by decide) ?_
                have b39 := gi_b (lo := 0) (hi := 12) g18 238 106 rfl
                refine wr_ia (k0 := 238) (a := 106) (f := 106) (x := h18 238 106) (nx := 41) (r1 := 0) (r2 := 0) (r3 := 0) rfl (by decide) rfl (by omega) (by omega) (by decide) rfl ?_
                refine wi_istore (i := 4) (e := h18 238 106) (lo2 := [(4, vi (h18 238 106)), (0, .ref 236), (1, vi x16), (3, vi x17)]) (nx := 43) (r1 := 0) (r2 := 0) (r3 := 0) rfl rfl ?_
                refine wi_aload_n (i := 0) (x := 236) (nx := 44) (r1 := 0) (r2 := 0) (r3 := 0) rfl rfl ?_
                refine wi_aload_n (i := 0) (x := 236) (nx := 45) (r1 := 0) (r2 := 0) (r3 := 0) rfl rfl ?_
                refine wr_gr (k0 := 236) (x := 248) (nx := 48) (r1 := 11) (r2 := 31) (r3 := 0) rfl rfl (by decide) rfl ⟨rfl, rfl⟩ rfl ?_
                refine wi_iload_n (i := 1) (e := x16) (nx := 49) (r1 := 0) (r2 := 0) (r3 := 0) rfl rfl ?_
                refine wr_ia (k0 := 248) (a := x16) (f := i23) (x := h13 248 i23) (nx := 50) (r1 := 0) (r2 := 0) (r3 := 0) rfl (by decide) rfl (by omega) (by omega) (by decide) (u18 248 i23 (fn_a (by omega) (fn_a (by omega) (fn_a (by omega) (fn_a (by omega) (fn_a (by omega) (fn_a (by omega) (fn_a (by omega) (fn_a (by omega) (fn_a (by omega) (fn_a (by omega) (fn_a (by omega) (fn_a (by omega) (fn_a (by omega) (fn_a (by omega) (fn_a (by omega) (fn_a (by omega) (fn_a (by omega) (fn_a (by omega) (fn_a (by omega) (fn_a (by omega) (fn_a (by omega) (fn_a (by omega) (fn_a (by omega) (fn_a (by omega) (fn_a (by omega) fn_0)))))))))))))))))))))))))) ?_
                rcases (show (h13 248 i23) = 3 by omega) with q40
                ·
                  rw [q40]
                  refine wr_V (k0 := 236) (rest := []) (as := [.ref 236, vi 3]) (nx := 53) (r1 := 282) (r2 := 1) (r3 := 11) rfl rfl rfl (of_decide_eq_true rfl) rfl rfl (by decide) rfl rfl (of_decide_eq_true rfl) (of_decide_eq_true rfl) ?_
                  have b42 := gi_b (lo := 0) (hi := 6) g18 238 98 rfl
                  have b43 := gi_b (lo := 0) (hi := 6) g18 238 99 rfl
                  have b44 := gi_b (lo := 0) (hi := 6) g18 238 100 rfl
                  have e45 : h18 238 73 = h 238 73 := ((u18 238 73 rfl).trans (u13 238 73 rfl))
                  have e46 : h18 238 2 = h 238 2 := ((u18 238 2 rfl).trans (u13 238 2 rfl))
                  have b47 := gi_b (lo := 0) (hi := 9999) g18 238 119 rfl
                  have b48 := gi_b (lo := 0) (hi := 9) g18 238 69 rfl
                  have e49 : h18 238 5 = h 238 5 := ((u18 238 5 rfl).trans (u13 238 5 rfl))
                  have e50 : h18 238 (43 + (h18 238 92).toNat) = h18 238 i32 := by rw [show 43 + (h18 238 92).toNat = i32 by omega]
                  refine ct_282_236_L3 hcr  g18   (show (h18 238 98) + (h18 238 99) + (h18 238 100) + (h18 238 101) + (h18 238 102) + (h18 238 106) = (h18 238 73) by omega) (show (h18 238 73) ≤ (h18 238 2) by omega) (show (h18 238 119) ≤ (h18 238 67) by omega) (show (h18 238 69) ≤ (h18 238 5) by omega) (show (h18 238 2) ≤ 12 * (h18 238 5) by omega) (show 1 ≤ (h18 238 101) by omega) (show (h18 238 67) ≤ 9998 by omega) (show (h18 238 102) ≤ 2 ∨ (h18 238 (43 + (h18 238 92).toNat)) ≤ 0 by omega) (fun h41 z51 g41 u41 (fz51 : 0 ≤ z51 ∧ z51 ≤ 11) (p41_0 : (h41 238 98) + (h41 238 99) + (h41 238 100) + (h41 238 101) + (h41 238 102) + (h41 238 106) = (h41 238 73)) (p41_1 : (h41 238 73) ≤ (h41 238 2)) (p41_2 : (h41 238 119) ≤ (h41 238 67)) (p41_3 : (h41 238 69) ≤ (h41 238 5)) (p41_4 : (h41 238 2) ≤ 12 * (h41 238 5)) => ?_)
                  have F52 := F19.then (by decide +kernel) u41
                  have F53 := u18.then (by decide +kernel) u41
                  have e54 : h41 238 98 = h18 238 98 := (u41 238 98 rfl)
                  have e55 : h41 238 99 = h18 238 99 := (u41 238 99 rfl)
                  have e56 : h41 238 100 = h18 238 100 := (u41 238 100 rfl)
                  have b57 := gi_b (lo := 0) (hi := 6) g41 238 101 rfl
                  have b58 := gi_b (lo := 0) (hi := 3) g41 238 102 rfl
                  have b59 := gi_b (lo := 0) (hi := 12) g41 238 106 rfl
                  have e60 : h41 238 73 = h 238 73 := ((u41 238 73 rfl).trans ((u18 238 73 rfl).trans (u13 238 73 rfl)))
                  have e61 : h41 238 2 = h 238 2 := ((u41 238 2 rfl).trans ((u18 238 2 rfl).trans (u13 238 2 rfl)))
                  have b62 := gi_b (lo := 0) (hi := 9999) g41 238 119 rfl
                  have b63 := gi_b (lo := 0) (hi := 9999) g41 238 67 rfl
                  have b64 := gi_b (lo := 0) (hi := 9) g41 238 69 rfl
                  have e65 : h41 238 5 = h 238 5 := ((u41 238 5 rfl).trans ((u18 238 5 rfl).trans (u13 238 5 rfl)))
                  refine wk_i ?_
                  refine wi_istore (i := 5) (e := z51) (lo2 := [(5, vi z51), (4, vi (h18 238 106)), (0, .ref 236), (1, vi x16), (3, vi x17)]) (nx := 55) (r1 := 0) (r2 := 0) (r3 := 0) rfl rfl ?_
                  refine wr_iinc (i := 1) (n := 1) (v := x16) (fun e66 => [(1, vi e66), (5, vi z51), (4, vi (h18 238 106)), (0, .ref 236), (3, vi x17)]) (nx := 58) (r1 := 0) (r2 := 0) (r3 := 0) rfl rfl (fun _ => rfl) (fun e66 (fe66 : e66 = x16 + 1) => ?_)
                  refine wi_aload_n (i := 0) (x := 236) (nx := 59) (r1 := 0) (r2 := 0) (r3 := 0) rfl rfl ?_
                  refine wr_gr (k0 := 236) (x := 238) (nx := 62) (r1 := 11) (r2 := 13) (r3 := 0) rfl rfl (by decide) rfl ⟨rfl, rfl⟩ rfl ?_
                  refine wi_bipush (n := 106) (nx := 64) (r1 := 0) (r2 := 0) (r3 := 0) rfl (by decide) ?_
                  refine wr_ia (k0 := 238) (a := 106) (f := 106) (x := h41 238 106) (nx := 65) (r1 := 0) (r2 := 0) (r3 := 0) rfl (by decide) rfl (by omega) (by omega) (by decide) rfl ?_
                  refine wi_iload (i := 4) (e := h18 238 106) (nx := 67) (r1 := 0) (r2 := 0) (r3 := 0) rfl rfl ?_
                  refine wi_icmp (cd := .le) (nx := 70) (r1 := 74) (r2 := 0) (r3 := 0) rfl (by omega) (by omega) (fun (q67 : (h41 238 106) ≤ (h18 238 106)) => ?_) (fun (q67 : ¬ ((h41 238 106) ≤ (h18 238 106))) => ?_)
                  ·
                    refine wi_iconst (n := 0) (nx := 75) (r1 := 0) (r2 := 0) (r3 := 0) rfl ?_
                    refine wi_istore_n (i := 3) (e := 0) (lo2 := [(3, vi 0), (1, vi e66), (5, vi z51), (4, vi (h18 238 106)), (0, .ref 236)]) (nx := 76) (r1 := 0) (r2 := 0) (r3 := 0) rfl rfl ?_
                    refine wi_goto (nx := 79) (r1 := 9) (r2 := 0) (r3 := 0) rfl ?_
                    refine wp.lo (lo := [(0, .ref 236), (1, vi e66), (3, vi 0)]) ⟨rfl, rfl, rfl, trivial⟩ rfl ?_
                    exact I18 e66 0 h41 ⟨g41, F52, F53, (show (0 ≤ e66 ∧ e66 ≤ 12) ∧ (0 ≤ 0 ∧ 0 ≤ 1) by omega)⟩ (show ((12 : Int) + 1 - e66).toNat < ((12 : Int) + 1 - x16).toNat by omega)
                  ·
                    refine wi_iconst (n := 1) (nx := 71) (r1 := 0) (r2 := 0) (r3 := 0) rfl ?_
                    refine wi_goto (nx := 74) (r1 := 75) (r2 := 0) (r3 := 0) rfl ?_
                    refine wi_istore_n (i := 3) (e := 1) (lo2 := [(3, vi 1), (1, vi e66), (5, vi z51), (4, vi (h18 238 106)), (0, .ref 236)]) (nx := 76) (r1 := 0) (r2 := 0) (r3 := 0) rfl rfl ?_
                    refine wi_goto (nx := 79) (r1 := 9) (r2 := 0) (r3 := 0) rfl ?_
                    refine wp.lo (lo := [(0, .ref 236), (1, vi e66), (3, vi 1)]) ⟨rfl, rfl, rfl, trivial⟩ rfl ?_
                    exact I18 e66 1 h41 ⟨g41, F52, F53, (show (0 ≤ e66 ∧ e66 ≤ 12) ∧ (0 ≤ 1 ∧ 1 ≤ 1) by omega)⟩ (show ((12 : Int) + 1 - e66).toNat < ((12 : Int) + 1 - x16).toNat by omega)
          ·
            refine wi_iconst (n := 0) (nx := 26) (r1 := 0) (r2 := 0) (r3 := 0) rfl ?_
            refine wi_zreturn (nx := 27) (r1 := 0) (r2 := 0) (r3 := 0) rfl rfl (by omega) ?_
            refine wk_i ?_
            refine wi_if (cd := .eq) (nx := 34) (r1 := 79) (r2 := 0) (r3 := 0) rfl (by omega) (fun (q30 : 0 = 0) => ?_) (fun (q30 : ¬ (0 = 0)) => by exfalso; omega)
            refine wi_iload_n (i := 1) (e := x16) (nx := 80) (r1 := 0) (r2 := 0) (r3 := 0) rfl rfl ?_
            refine wi_ireturn (nx := 81) (r1 := 0) (r2 := 0) (r3 := 0) rfl rfl ?_
            have b31 := gi_b (lo := 0) (hi := 6) g18 238 98 rfl
            have b32 := gi_b (lo := 0) (hi := 6) g18 238 99 rfl
            have b33 := gi_b (lo := 0) (hi := 6) g18 238 100 rfl
            have b34 := gi_b (lo := 0) (hi := 3) g18 238 102 rfl
            have b35 := gi_b (lo := 0) (hi := 12) g18 238 106 rfl
            have e36 : h18 238 73 = h 238 73 := ((u18 238 73 rfl).trans (u13 238 73 rfl))
            have e37 : h18 238 2 = h 238 2 := ((u18 238 2 rfl).trans (u13 238 2 rfl))
            have b38 := gi_b (lo := 0) (hi := 9999) g18 238 119 rfl
            have b39 := gi_b (lo := 0) (hi := 9) g18 238 69 rfl
            have e40 : h18 238 5 = h 238 5 := ((u18 238 5 rfl).trans (u13 238 5 rfl))
            exact k h18 x16 g18 F19 (by omega) (show (h18 238 98) + (h18 238 99) + (h18 238 100) + (h18 238 101) + (h18 238 102) + (h18 238 106) = (h18 238 73) by omega) (show (h18 238 73) ≤ (h18 238 2) by omega) (show (h18 238 119) ≤ (h18 238 67) by omega) (show (h18 238 69) ≤ (h18 238 5) by omega) (show (h18 238 2) ≤ 12 * (h18 238 5) by omega)
-- method 313: Model.unload()I
theorem ct_313_236 {L : Nat} {xs : Nat → Int32} {d b c : Nat} {h : hp} {cr : Nat → Nat → Option Nat} {Q : hp_Q} (hcr : CR cr)  (g : GI h)   (pp0 : h 238 98 + h 238 99 + h 238 100 + h 238 101 + h 238 102 + h 238 106 = h 238 73) (pp1 : h 238 73 ≤ h 238 2) (pp2 : h 238 119 ≤ h 238 67) (pp3 : h 238 69 ≤ h 238 5) (pp4 : h 238 2 ≤ 12 * h 238 5) (gp0 : GPH h) (k : ∀ (h2 : hp) (z0 : Int) , GI h2 → FR [(240, 240, none), (242, 242, none), (246, 246, none), (248, 248, none), (236, 236, some (0, 0)), (236, 236, some (22, 22)), (236, 236, some (32, 32)), (238, 238, some (43, 54)), (238, 238, some (55, 66)), (238, 238, some (67, 67)), (238, 238, some (68, 68)), (238, 238, some (69, 69)), (238, 238, some (70, 70)), (238, 238, some (71, 71)), (238, 238, some (72, 72)), (238, 238, some (74, 78)), (238, 238, some (80, 84)), (238, 238, some (86, 90)), (238, 238, some (92, 96)), (238, 238, some (98, 98)), (238, 238, some (99, 99)), (238, 238, some (100, 100)), (238, 238, some (101, 101)), (238, 238, some (102, 102)), (238, 238, some (103, 105)), (238, 238, some (106, 106)), (238, 238, some (107, 118)), (238, 238, some (119, 119)), (238, 238, some (120, 196)), (238, 238, some (121, 197)), (238, 238, some (122, 198)), (238, 238, some (123, 199)), (247, 247, some (0, 0)), (247, 247, some (1, 1)), (247, 247, some (2, 2)), (247, 247, some (3, 3))] h h2 → (-1 ≤ z0 ∧ z0 ≤ 12) → (h2 238 98 + h2 238 99 + h2 238 100 + h2 238 101 + h2 238 102 + h2 238 106 = h2 238 73) → (h2 238 73 ≤ h2 238 2) → (h2 238 119 ≤ h2 238 67) → (h2 238 69 ≤ h2 238 5) → (h2 238 2 ≤ 12 * h2 238 5) → (GPH h2) → Q (.inl (some (vi z0))) (hp_w h2 cr) b c) : wp (md_xa (L, xs)) (d + 5) 313 (0, [(0, .ref 236)], [], hp_w h cr, b, c) Q := by
  have F0 : FR [(240, 240, none), (242, 242, none), (246, 246, none), (248, 248, none), (236, 236, some (0, 0)), (236, 236, some (22, 22)), (236, 236, some (32, 32)), (238, 238, some (43, 54)), (238, 238, some (55, 66)), (238, 238, some (67, 67)), (238, 238, some (68, 68)), (238, 238, some (69, 69)), (238, 238, some (70, 70)), (238, 238, some (71, 71)), (238, 238, some (72, 72)), (238, 238, some (74, 78)), (238, 238, some (80, 84)), (238, 238, some (86, 90)), (238, 238, some (92, 96)), (238, 238, some (98, 98)), (238, 238, some (99, 99)), (238, 238, some (100, 100)), (238, 238, some (101, 101)), (238, 238, some (102, 102)), (238, 238, some (103, 105)), (238, 238, some (106, 106)), (238, 238, some (107, 118)), (238, 238, some (119, 119)), (238, 238, some (120, 196)), (238, 238, some (121, 197)), (238, 238, some (122, 198)), (238, 238, some (123, 199)), (247, 247, some (0, 0)), (247, 247, some (1, 1)), (247, 247, some (2, 2)), (247, 247, some (3, 3))] h h := FR.refl
  have b1 := gi_b (lo := 0) (hi := 6) g 238 98 rfl
  have b2 := gi_b (lo := 0) (hi := 6) g 238 99 rfl
  have b3 := gi_b (lo := 0) (hi := 6) g 238 100 rfl
  have b4 := gi_b (lo := 0) (hi := 6) g 238 101 rfl
  have b5 := gi_b (lo := 0) (hi := 3) g 238 102 rfl
  have b6 := gi_b (lo := 0) (hi := 12) g 238 106 rfl
  have b7 := gi_b (lo := 0) (hi := 12) g 238 73 rfl
  have b8 := gi_b (lo := 0) (hi := 12) g 238 2 rfl
  have b9 := gi_b (lo := 0) (hi := 9999) g 238 119 rfl
  have b10 := gi_b (lo := 0) (hi := 9999) g 238 67 rfl
  have b11 := gi_b (lo := 0) (hi := 9) g 238 69 rfl
  have b12 := gi_b (lo := 0) (hi := 9) g 238 5 rfl
  refine wi_aload_n (i := 0) (x := 236) (nx := 1) (r1 := 0) (r2 := 0) (r3 := 0) rfl rfl ?_
  refine wi_iconst (n := 0) (nx := 2) (r1 := 0) (r2 := 0) (r3 := 0) rfl ?_
  refine wr_pf0 (k0 := 236) (x := 0) (bl := 0) (bh := 2) (nx := 5) (r1 := 11) (r2 := 0) (r3 := 0) rfl (by decide) rfl ⟨rfl, rfl⟩ rfl rfl g rfl (by omega) (fun h13 g13 w13 u13 => ?_)
  have F14 := F0.then rfl u13
  refine wi_aload_n (i := 0) (x := 236) (nx := 6) (r1 := 0) (r2 := 0) (r3 := 0) rfl rfl ?_
  refine wr_gr (k0 := 236) (x := 238) (nx := 9) (r1 := 11) (r2 := 13) (r3 := 0) rfl rfl (by decide) rfl ⟨rfl, rfl⟩ rfl ?_
  refine wi_aload_n (i := 0) (x := 236) (nx := 10) (r1 := 0) (r2 := 0) (r3 := 0) rfl rfl ?_
  refine wr_gr (k0 := 236) (x := 240) (nx := 13) (r1 := 11) (r2 := 15) (r3 := 0) rfl rfl (by decide) rfl ⟨rfl, rfl⟩ rfl ?_
  refine wi_S (rest := []) (as := [.ref 238, .ref 240]) (nx := 16) (r1 := 238) (r2 := 18) (r3 := 0) rfl rfl rfl (of_decide_eq_true rfl) rfl rfl (of_decide_eq_true rfl) (of_decide_eq_true rfl) ?_
  refine ct_238_238_240 hcr  g13    (fun h15 g15 u15 y15_0 => ?_)
  have F16 := F14.then (by decide +kernel) u15
  refine wk_n ?_
  refine wi_aload_n (i := 0) (x := 236) (nx := 17) (r1 := 0) (r2 := 0) (r3 := 0) rfl rfl ?_
  refine wr_V (k0 := 236) (rest := []) (as := [.ref 236]) (nx := 20) (r1 := 314) (r2 := 0) (r3 := 11) rfl rfl rfl (of_decide_eq_true rfl) rfl rfl (by decide) rfl rfl (of_decide_eq_true rfl) (of_decide_eq_true rfl) ?_
  have e18 : h15 238 98 = h 238 98 := ((u15 238 98 rfl).trans (u13 238 98 rfl))
  have e19 : h15 238 99 = h 238 99 := ((u15 238 99 rfl).trans (u13 238 99 rfl))
  have e20 : h15 238 100 = h 238 100 := ((u15 238 100 rfl).trans (u13 238 100 rfl))
  have e21 : h15 238 101 = h 238 101 := ((u15 238 101 rfl).trans (u13 238 101 rfl))
  have e22 : h15 238 102 = h 238 102 := ((u15 238 102 rfl).trans (u13 238 102 rfl))
  have e23 : h15 238 106 = h 238 106 := ((u15 238 106 rfl).trans (u13 238 106 rfl))
  have e24 : h15 238 73 = h 238 73 := ((u15 238 73 rfl).trans (u13 238 73 rfl))
  have e25 : h15 238 2 = h 238 2 := ((u15 238 2 rfl).trans (u13 238 2 rfl))
  have e26 : h15 238 119 = h 238 119 := ((u15 238 119 rfl).trans (u13 238 119 rfl))
  have e27 : h15 238 67 = h 238 67 := ((u15 238 67 rfl).trans (u13 238 67 rfl))
  have e28 : h15 238 69 = h 238 69 := ((u15 238 69 rfl).trans (u13 238 69 rfl))
  have e29 : h15 238 5 = h 238 5 := ((u15 238 5 rfl).trans (u13 238 5 rfl))
  refine ct_314_236 hcr  g15   (show (h15 238 98) + (h15 238 99) + (h15 238 100) + (h15 238 101) + (h15 238 102) + (h15 238 106) = (h15 238 73) by omega) (show (h15 238 73) ≤ (h15 238 2) by omega) (show (h15 238 119) ≤ (h15 238 67) by omega) (show (h15 238 69) ≤ (h15 238 5) by omega) (show (h15 238 2) ≤ 12 * (h15 238 5) by omega) (fun h17 z30 g17 u17 (fz30 : 0 ≤ z30 ∧ z30 ≤ 12) (p17_0 : (h17 238 98) + (h17 238 99) + (h17 238 100) + (h17 238 101) + (h17 238 102) + (h17 238 106) = (h17 238 73)) (p17_1 : (h17 238 73) ≤ (h17 238 2)) (p17_2 : (h17 238 119) ≤ (h17 238 67)) (p17_3 : (h17 238 69) ≤ (h17 238 5)) (p17_4 : (h17 238 2) ≤ 12 * (h17 238 5)) => ?_)
  have F31 := F16.then (by decide +kernel) u17
  have b32 := gi_b (lo := 0) (hi := 6) g17 238 98 rfl
  have b33 := gi_b (lo := 0) (hi := 6) g17 238 99 rfl
  have b34 := gi_b (lo := 0) (hi := 6) g17 238 100 rfl
  have b35 := gi_b (lo := 0) (hi := 6) g17 238 101 rfl
  have b36 := gi_b (lo := 0) (hi := 3) g17 238 102 rfl
  have b37 := gi_b (lo := 0) (hi := 12) g17 238 106 rfl
  have e38 : h17 238 73 = h 238 73 := ((u17 238 73 rfl).trans ((u15 238 73 rfl).trans (u13 238 73 rfl)))
  have e39 : h17 238 2 = h 238 2 := ((u17 238 2 rfl).trans ((u15 238 2 rfl).trans (u13 238 2 rfl)))
  have b40 := gi_b (lo := 0) (hi := 9999) g17 238 119 rfl
  have b41 := gi_b (lo := 0) (hi := 9999) g17 238 67 rfl
  have b42 := gi_b (lo := 0) (hi := 9) g17 238 69 rfl
  have e43 : h17 238 5 = h 238 5 := ((u17 238 5 rfl).trans ((u15 238 5 rfl).trans (u13 238 5 rfl)))
  refine wk_i ?_
  refine wi_istore_n (i := 1) (e := z30) (lo2 := [(1, vi z30), (0, .ref 236)]) (nx := 21) (r1 := 0) (r2 := 0) (r3 := 0) rfl rfl ?_
  refine wi_iload_n (i := 1) (e := z30) (nx := 22) (r1 := 0) (r2 := 0) (r3 := 0) rfl rfl ?_
  refine wi_if (cd := .ne) (nx := 25) (r1 := 27) (r2 := 0) (r3 := 0) rfl (by omega) (fun (q44 : z30 ≠ 0) => ?_) (fun (q44 : ¬ (z30 ≠ 0)) => ?_)
  ·
    refine wi_aload_n (i := 0) (x := 236) (nx := 28) (r1 := 0) (r2 := 0) (r3 := 0) rfl rfl ?_
    refine wr_V (k0 := 236) (rest := []) (as := [.ref 236]) (nx := 31) (r1 := 315) (r2 := 0) (r3 := 11) rfl rfl rfl (of_decide_eq_true rfl) rfl rfl (by decide) rfl rfl (of_decide_eq_true rfl) (of_decide_eq_true rfl) ?_
    have e46 : h17 240 98 = h 238 98 := ((u17 240 98 rfl).trans ((y15_0 98 (by decide)).trans (u13 238 98 rfl)))
    have e47 : h17 240 99 = h 238 99 := ((u17 240 99 rfl).trans ((y15_0 99 (by decide)).trans (u13 238 99 rfl)))
    have e48 : h17 240 100 = h 238 100 := ((u17 240 100 rfl).trans ((y15_0 100 (by decide)).trans (u13 238 100 rfl)))
    have e49 : h17 240 101 = h 238 101 := ((u17 240 101 rfl).trans ((y15_0 101 (by decide)).trans (u13 238 101 rfl)))
    have e50 : h17 240 102 = h 238 102 := ((u17 240 102 rfl).trans ((y15_0 102 (by decide)).trans (u13 238 102 rfl)))
    have e51 : h17 240 106 = h 238 106 := ((u17 240 106 rfl).trans ((y15_0 106 (by decide)).trans (u13 238 106 rfl)))
    have e52 : h17 240 73 = h 238 73 := ((u17 240 73 rfl).trans ((y15_0 73 (by decide)).trans (u13 238 73 rfl)))
    have e53 : h17 240 2 = h 238 2 := ((u17 240 2 rfl).trans ((y15_0 2 (by decide)).trans (u13 238 2 rfl)))
    have e54 : h17 240 119 = h 238 119 := ((u17 240 119 rfl).trans ((y15_0 119 (by decide)).trans (u13 238 119 rfl)))
    have e55 : h17 240 67 = h 238 67 := ((u17 240 67 rfl).trans ((y15_0 67 (by decide)).trans (u13 238 67 rfl)))
    have e56 : h17 240 69 = h 238 69 := ((u17 240 69 rfl).trans ((y15_0 69 (by decide)).trans (u13 238 69 rfl)))
    have e57 : h17 240 5 = h 238 5 := ((u17 240 5 rfl).trans ((y15_0 5 (by decide)).trans (u13 238 5 rfl)))
    have gp58 := GPH.fr u13 rfl gp0
    have gp59 := GPH.fr u15 rfl gp58
    have gp60 := GPH.fr u17 rfl gp59
    refine ct_315_236 hcr  g17   (show (h17 238 98) + (h17 238 99) + (h17 238 100) + (h17 238 101) + (h17 238 102) + (h17 238 106) = (h17 238 73) by omega) (show (h17 238 73) ≤ (h17 238 2) by omega) (show (h17 238 119) ≤ (h17 238 67) by omega) (show (h17 238 69) ≤ (h17 238 5) by omega) (show (h17 238 2) ≤ 12 * (h17 238 5) by omega) (show (h17 240 98) + (h17 240 99) + (h17 240 100) + (h17 240 101) + (h17 240 102) + (h17 240 106) = (h17 240 73) by omega) (show (h17 240 73) ≤ (h17 240 2) by omega) (show (h17 240 119) ≤ (h17 240 67) by omega) (show (h17 240 69) ≤ (h17 240 5) by omega) (show (h17 240 2) ≤ 12 * (h17 240 5) by omega) gp60 (fun h45 g45 u45 y45_0 => ?_)
    have F61 := F31.then (by decide +kernel) u45
    refine wk_n ?_
    refine wi_iload_n (i := 1) (e := z30) (nx := 32) (r1 := 0) (r2 := 0) (r3 := 0) rfl rfl ?_
    refine wi_ireturn (nx := 33) (r1 := 0) (r2 := 0) (r3 := 0) rfl rfl ?_
    have e62 : h45 238 98 = h17 238 98 := (u45 238 98 rfl)
    have e63 : h45 238 99 = h17 238 99 := (u45 238 99 rfl)
    have e64 : h45 238 100 = h17 238 100 := (u45 238 100 rfl)
    have e65 : h45 238 101 = h17 238 101 := (u45 238 101 rfl)
    have e66 : h45 238 102 = h17 238 102 := (u45 238 102 rfl)
    have e67 : h45 238 106 = h17 238 106 := (u45 238 106 rfl)
    have e68 : h45 238 73 = h 238 73 := ((u45 238 73 rfl).trans ((u17 238 73 rfl).trans ((u15 238 73 rfl).trans (u13 238 73 rfl))))
    have e69 : h45 238 2 = h 238 2 := ((u45 238 2 rfl).trans ((u17 238 2 rfl).trans ((u15 238 2 rfl).trans (u13 238 2 rfl))))
    have e70 : h45 238 119 = h17 238 119 := (u45 238 119 rfl)
    have e71 : h45 238 67 = h17 238 67 := (u45 238 67 rfl)
    have e72 : h45 238 69 = h17 238 69 := (u45 238 69 rfl)
    have e73 : h45 238 5 = h 238 5 := ((u45 238 5 rfl).trans ((u17 238 5 rfl).trans ((u15 238 5 rfl).trans (u13 238 5 rfl))))
    exact k h45 z30 g45 F61 (by omega) (show (h45 238 98) + (h45 238 99) + (h45 238 100) + (h45 238 101) + (h45 238 102) + (h45 238 106) = (h45 238 73) by omega) (show (h45 238 73) ≤ (h45 238 2) by omega) (show (h45 238 119) ≤ (h45 238 67) by omega) (show (h45 238 69) ≤ (h45 238 5) by omega) (show (h45 238 2) ≤ 12 * (h45 238 5) by omega) y45_0
  ·
    refine wi_iconst (n := (-1)) (nx := 26) (r1 := 0) (r2 := 0) (r3 := 0) rfl ?_
    refine wi_ireturn (nx := 27) (r1 := 0) (r2 := 0) (r3 := 0) rfl rfl ?_
    have gp45 := GPH.fr u13 rfl gp0
    have gp46 := GPH.fr u15 rfl gp45
    have gp47 := GPH.fr u17 rfl gp46
    exact k h17 (-1) g17 F31 (by omega) (show (h17 238 98) + (h17 238 99) + (h17 238 100) + (h17 238 101) + (h17 238 102) + (h17 238 106) = (h17 238 73) by omega) (show (h17 238 73) ≤ (h17 238 2) by omega) (show (h17 238 119) ≤ (h17 238 67) by omega) (show (h17 238 69) ≤ (h17 238 5) by omega) (show (h17 238 2) ≤ 12 * (h17 238 5) by omega) gp47
-- method 311: Model.unloadChanges()I
theorem ct_311_236 {L : Nat} {xs : Nat → Int32} {d b c : Nat} {h : hp} {cr : Nat → Nat → Option Nat} {Q : hp_Q} (hcr : CR cr)  (g : GI h)   (pp0 : h 238 98 + h 238 99 + h 238 100 + h 238 101 + h 238 102 + h 238 106 = h 238 73) (pp1 : h 238 73 ≤ h 238 2) (pp2 : h 238 119 ≤ h 238 67) (pp3 : h 238 69 ≤ h 238 5) (pp4 : h 238 2 ≤ 12 * h 238 5) (k : ∀ (h2 : hp) (z0 : Int) , GI h2 → FR [(246, 246, none), (248, 248, none), (236, 236, some (0, 0)), (236, 236, some (32, 32)), (247, 247, some (0, 0)), (247, 247, some (1, 1)), (247, 247, some (2, 2)), (247, 247, some (3, 3))] h h2 → (-1 ≤ z0 ∧ z0 ≤ 99) → Q (.inl (some (vi z0))) (hp_w h2 cr) b c) : wp (md_xa (L, xs)) (d + 4) 311 (0, [(0, .ref 236)], [], hp_w h cr, b, c) Q := by
  have F0 : FR [(246, 246, none), (248, 248, none), (236, 236, some (0, 0)), (236, 236, some (32, 32)), (247, 247, some (0, 0)), (247, 247, some (1, 1)), (247, 247, some (2, 2)), (247, 247, some (3, 3))] h h := FR.refl
  have b1 := gi_b (lo := 0) (hi := 6) g 238 98 rfl
  have b2 := gi_b (lo := 0) (hi := 6) g 238 99 rfl
  have b3 := gi_b (lo := 0) (hi := 6) g 238 100 rfl
  have b4 := gi_b (lo := 0) (hi := 6) g 238 101 rfl
  have b5 := gi_b (lo := 0) (hi := 3) g 238 102 rfl
  have b6 := gi_b (lo := 0) (hi := 12) g 238 106 rfl
  have b7 := gi_b (lo := 0) (hi := 12) g 238 73 rfl
  have b8 := gi_b (lo := 0) (hi := 12) g 238 2 rfl
  have b9 := gi_b (lo := 0) (hi := 9999) g 238 119 rfl
  have b10 := gi_b (lo := 0) (hi := 9999) g 238 67 rfl
  have b11 := gi_b (lo := 0) (hi := 9) g 238 69 rfl
  have b12 := gi_b (lo := 0) (hi := 9) g 238 5 rfl
  refine wi_aload_n (i := 0) (x := 236) (nx := 1) (r1 := 0) (r2 := 0) (r3 := 0) rfl rfl ?_
  refine wi_iconst (n := 0) (nx := 2) (r1 := 0) (r2 := 0) (r3 := 0) rfl ?_
  refine wr_pf0 (k0 := 236) (x := 0) (bl := 0) (bh := 2) (nx := 5) (r1 := 11) (r2 := 0) (r3 := 0) rfl (by decide) rfl ⟨rfl, rfl⟩ rfl rfl g rfl (by omega) (fun h13 g13 w13 u13 => ?_)
  have F14 := F0.then rfl u13
  refine wi_aload_n (i := 0) (x := 236) (nx := 6) (r1 := 0) (r2 := 0) (r3 := 0) rfl rfl ?_
  refine wr_V (k0 := 236) (rest := []) (as := [.ref 236]) (nx := 9) (r1 := 299) (r2 := 0) (r3 := 11) rfl rfl rfl (of_decide_eq_true rfl) rfl rfl (by decide) rfl rfl (of_decide_eq_true rfl) (of_decide_eq_true rfl) ?_
  have e16 : h13 238 98 = h 238 98 := (u13 238 98 rfl)
  have e17 : h13 238 99 = h 238 99 := (u13 238 99 rfl)
  have e18 : h13 238 100 = h 238 100 := (u13 238 100 rfl)
  have e19 : h13 238 101 = h 238 101 := (u13 238 101 rfl)
  have e20 : h13 238 102 = h 238 102 := (u13 238 102 rfl)
  have e21 : h13 238 106 = h 238 106 := (u13 238 106 rfl)
  have e22 : h13 238 73 = h 238 73 := (u13 238 73 rfl)
  have e23 : h13 238 2 = h 238 2 := (u13 238 2 rfl)
  have e24 : h13 238 119 = h 238 119 := (u13 238 119 rfl)
  have e25 : h13 238 67 = h 238 67 := (u13 238 67 rfl)
  have e26 : h13 238 69 = h 238 69 := (u13 238 69 rfl)
  have e27 : h13 238 5 = h 238 5 := (u13 238 5 rfl)
  refine ct_299_236 hcr  g13   (show (h13 238 98) + (h13 238 99) + (h13 238 100) + (h13 238 101) + (h13 238 102) + (h13 238 106) = (h13 238 73) by omega) (show (h13 238 73) ≤ (h13 238 2) by omega) (show (h13 238 119) ≤ (h13 238 67) by omega) (show (h13 238 69) ≤ (h13 238 5) by omega) (show (h13 238 2) ≤ 12 * (h13 238 5) by omega) (fun h15 z28 g15 u15 (fz28 : 0 ≤ z28 ∧ z28 ≤ 1000000) => ?_)
  have F29 := F14.then (by decide +kernel) u15
  refine wk_i ?_
  refine wi_istore_n (i := 1) (e := z28) (lo2 := [(1, vi z28), (0, .ref 236)]) (nx := 10) (r1 := 0) (r2 := 0) (r3 := 0) rfl rfl ?_
  refine wi_iload_n (i := 1) (e := z28) (nx := 11) (r1 := 0) (r2 := 0) (r3 := 0) rfl rfl ?_
  refine wi_ldc_w (e := 1000000) (nx := 14) (r1 := 0) (r2 := 1000000) (r3 := 0) rfl (by decide) ?_
  refine wi_icmp (cd := .ne) (nx := 17) (r1 := 21) (r2 := 0) (r3 := 0) rfl (by omega) (by omega) (fun (q30 : z28 ≠ 1000000) => ?_) (fun (q30 : ¬ (z28 ≠ 1000000)) => ?_)
  ·
    refine wi_iload_n (i := 1) (e := z28) (nx := 22) (r1 := 0) (r2 := 0) (r3 := 0) rfl rfl ?_
    refine wi_bipush (n := 100) (nx := 24) (r1 := 0) (r2 := 0) (r3 := 0) rfl (by decide) ?_
    refine wr_iremC (nx := 25) (r1 := 0) (r2 := 0) (r3 := 0) rfl (by omega) (by decide) (fun e31 (fe31 : e31 = z28 % 100) => ?_)
    refine wi_ireturn (nx := 26) (r1 := 0) (r2 := 0) (r3 := 0) rfl rfl ?_
    exact k h15 e31 g15 F29 (by omega)
  ·
    refine wi_iconst (n := (-1)) (nx := 18) (r1 := 0) (r2 := 0) (r3 := 0) rfl ?_
    refine wi_goto (nx := 21) (r1 := 25) (r2 := 0) (r3 := 0) rfl ?_
    refine wi_ireturn (nx := 26) (r1 := 0) (r2 := 0) (r3 := 0) rfl rfl ?_
    exact k h15 (-1) g15 F29 (by omega)
-- method 298: Model.unloadCost()I
theorem ct_298_236 {L : Nat} {xs : Nat → Int32} {d b c : Nat} {h : hp} {cr : Nat → Nat → Option Nat} {Q : hp_Q} (hcr : CR cr)  (g : GI h)   (pp0 : h 238 98 + h 238 99 + h 238 100 + h 238 101 + h 238 102 + h 238 106 = h 238 73) (pp1 : h 238 73 ≤ h 238 2) (pp2 : h 238 119 ≤ h 238 67) (pp3 : h 238 69 ≤ h 238 5) (pp4 : h 238 2 ≤ 12 * h 238 5) (k : ∀ (h2 : hp) (z0 : Int) , GI h2 → FR [(246, 246, none), (248, 248, none), (236, 236, some (0, 0)), (236, 236, some (32, 32)), (247, 247, some (0, 0)), (247, 247, some (1, 1)), (247, 247, some (2, 2)), (247, 247, some (3, 3))] h h2 → (-1 ≤ z0 ∧ z0 ≤ 9999) → Q (.inl (some (vi z0))) (hp_w h2 cr) b c) : wp (md_xa (L, xs)) (d + 4) 298 (0, [(0, .ref 236)], [], hp_w h cr, b, c) Q := by
  have F0 : FR [(246, 246, none), (248, 248, none), (236, 236, some (0, 0)), (236, 236, some (32, 32)), (247, 247, some (0, 0)), (247, 247, some (1, 1)), (247, 247, some (2, 2)), (247, 247, some (3, 3))] h h := FR.refl
  have b1 := gi_b (lo := 0) (hi := 6) g 238 98 rfl
  have b2 := gi_b (lo := 0) (hi := 6) g 238 99 rfl
  have b3 := gi_b (lo := 0) (hi := 6) g 238 100 rfl
  have b4 := gi_b (lo := 0) (hi := 6) g 238 101 rfl
  have b5 := gi_b (lo := 0) (hi := 3) g 238 102 rfl
  have b6 := gi_b (lo := 0) (hi := 12) g 238 106 rfl
  have b7 := gi_b (lo := 0) (hi := 12) g 238 73 rfl
  have b8 := gi_b (lo := 0) (hi := 12) g 238 2 rfl
  have b9 := gi_b (lo := 0) (hi := 9999) g 238 119 rfl
  have b10 := gi_b (lo := 0) (hi := 9999) g 238 67 rfl
  have b11 := gi_b (lo := 0) (hi := 9) g 238 69 rfl
  have b12 := gi_b (lo := 0) (hi := 9) g 238 5 rfl
  refine wi_aload_n (i := 0) (x := 236) (nx := 1) (r1 := 0) (r2 := 0) (r3 := 0) rfl rfl ?_
  refine wi_iconst (n := 0) (nx := 2) (r1 := 0) (r2 := 0) (r3 := 0) rfl ?_
  refine wr_pf0 (k0 := 236) (x := 0) (bl := 0) (bh := 2) (nx := 5) (r1 := 11) (r2 := 0) (r3 := 0) rfl (by decide) rfl ⟨rfl, rfl⟩ rfl rfl g rfl (by omega) (fun h13 g13 w13 u13 => ?_)
  have F14 := F0.then rfl u13
  refine wi_aload_n (i := 0) (x := 236) (nx := 6) (r1 := 0) (r2 := 0) (r3 := 0) rfl rfl ?_
  refine wr_V (k0 := 236) (rest := []) (as := [.ref 236]) (nx := 9) (r1 := 299) (r2 := 0) (r3 := 11) rfl rfl rfl (of_decide_eq_true rfl) rfl rfl (by decide) rfl rfl (of_decide_eq_true rfl) (of_decide_eq_true rfl) ?_
  have e16 : h13 238 98 = h 238 98 := (u13 238 98 rfl)
  have e17 : h13 238 99 = h 238 99 := (u13 238 99 rfl)
  have e18 : h13 238 100 = h 238 100 := (u13 238 100 rfl)
  have e19 : h13 238 101 = h 238 101 := (u13 238 101 rfl)
  have e20 : h13 238 102 = h 238 102 := (u13 238 102 rfl)
  have e21 : h13 238 106 = h 238 106 := (u13 238 106 rfl)
  have e22 : h13 238 73 = h 238 73 := (u13 238 73 rfl)
  have e23 : h13 238 2 = h 238 2 := (u13 238 2 rfl)
  have e24 : h13 238 119 = h 238 119 := (u13 238 119 rfl)
  have e25 : h13 238 67 = h 238 67 := (u13 238 67 rfl)
  have e26 : h13 238 69 = h 238 69 := (u13 238 69 rfl)
  have e27 : h13 238 5 = h 238 5 := (u13 238 5 rfl)
  refine ct_299_236 hcr  g13   (show (h13 238 98) + (h13 238 99) + (h13 238 100) + (h13 238 101) + (h13 238 102) + (h13 238 106) = (h13 238 73) by omega) (show (h13 238 73) ≤ (h13 238 2) by omega) (show (h13 238 119) ≤ (h13 238 67) by omega) (show (h13 238 69) ≤ (h13 238 5) by omega) (show (h13 238 2) ≤ 12 * (h13 238 5) by omega) (fun h15 z28 g15 u15 (fz28 : 0 ≤ z28 ∧ z28 ≤ 1000000) => ?_)
  have F29 := F14.then (by decide +kernel) u15
  refine wk_i ?_
  refine wi_istore_n (i := 1) (e := z28) (lo2 := [(1, vi z28), (0, .ref 236)]) (nx := 10) (r1 := 0) (r2 := 0) (r3 := 0) rfl rfl ?_
  refine wi_iload_n (i := 1) (e := z28) (nx := 11) (r1 := 0) (r2 := 0) (r3 := 0) rfl rfl ?_
  refine wi_ldc_w (e := 1000000) (nx := 14) (r1 := 0) (r2 := 1000000) (r3 := 0) rfl (by decide) ?_
  refine wi_icmp (cd := .ne) (nx := 17) (r1 := 21) (r2 := 0) (r3 := 0) rfl (by omega) (by omega) (fun (q30 : z28 ≠ 1000000) => ?_) (fun (q30 : ¬ (z28 ≠ 1000000)) => ?_)
  ·
    refine wi_iload_n (i := 1) (e := z28) (nx := 22) (r1 := 0) (r2 := 0) (r3 := 0) rfl rfl ?_
    refine wi_bipush (n := 100) (nx := 24) (r1 := 0) (r2 := 0) (r3 := 0) rfl (by decide) ?_
    refine wr_idivC (nx := 25) (r1 := 0) (r2 := 0) (r3 := 0) rfl (by omega) (by decide) (fun e31 (fe31 : e31 = z28 / 100) => ?_)
    refine wi_ireturn (nx := 26) (r1 := 0) (r2 := 0) (r3 := 0) rfl rfl ?_
    exact k h15 e31 g15 F29 (by omega)
  ·
    refine wi_iconst (n := (-1)) (nx := 18) (r1 := 0) (r2 := 0) (r3 := 0) rfl ?_
    refine wi_goto (nx := 21) (r1 := 25) (r2 := 0) (r3 := 0) rfl ?_
    refine wi_ireturn (nx := 26) (r1 := 0) (r2 := 0) (r3 := 0) rfl rfl ?_
    exact k h15 (-1) g15 F29 (by omega)
-- method 312: Model.unloadLane(I)I
theorem ct_312_236 {L : Nat} {xs : Nat → Int32} {d b c : Nat} {h : hp} {cr : Nat → Nat → Option Nat} {Q : hp_Q} (hcr : CR cr)  (g : GI h) (a0 : Int) (q0_ : -2147483648 ≤ a0 ∧ a0 ≤ 2147483647) (pp0 : h 238 98 + h 238 99 + h 238 100 + h 238 101 + h 238 102 + h 238 106 = h 238 73) (pp1 : h 238 73 ≤ h 238 2) (pp2 : h 238 119 ≤ h 238 67) (pp3 : h 238 69 ≤ h 238 5) (pp4 : h 238 2 ≤ 12 * h 238 5) (k : ∀ (h2 : hp) (z0 : Int) , GI h2 → FR [(246, 246, none), (248, 248, none), (236, 236, some (0, 0)), (236, 236, some (32, 32)), (247, 247, some (0, 0)), (247, 247, some (1, 1)), (247, 247, some (2, 2)), (247, 247, some (3, 3))] h h2 → (-1 ≤ z0 ∧ z0 ≤ 3) → Q (.inl (some (vi z0))) (hp_w h2 cr) b c) : wp (md_xa (L, xs)) (d + 4) 312 (0, [(0, .ref 236), (1, vi a0)], [], hp_w h cr, b, c) Q := by
  have F0 : FR [(246, 246, none), (248, 248, none), (236, 236, some (0, 0)), (236, 236, some (32, 32)), (247, 247, some (0, 0)), (247, 247, some (1, 1)), (247, 247, some (2, 2)), (247, 247, some (3, 3))] h h := FR.refl
  have b1 := gi_b (lo := 0) (hi := 6) g 238 98 rfl
  have b2 := gi_b (lo := 0) (hi := 6) g 238 99 rfl
  have b3 := gi_b (lo := 0) (hi := 6) g 238 100 rfl
  have b4 := gi_b (lo := 0) (hi := 6) g 238 101 rfl
  have b5 := gi_b (lo := 0) (hi := 3) g 238 102 rfl
  have b6 := gi_b (lo := 0) (hi := 12) g 238 106 rfl
  have b7 := gi_b (lo := 0) (hi := 12) g 238 73 rfl
  have b8 := gi_b (lo := 0) (hi := 12) g 238 2 rfl
  have b9 := gi_b (lo := 0) (hi := 9999) g 238 119 rfl
  have b10 := gi_b (lo := 0) (hi := 9999) g 238 67 rfl
  have b11 := gi_b (lo := 0) (hi := 9) g 238 69 rfl
  have b12 := gi_b (lo := 0) (hi := 9) g 238 5 rfl
  refine wi_aload_n (i := 0) (x := 236) (nx := 1) (r1 := 0) (r2 := 0) (r3 := 0) rfl rfl ?_
  refine wi_iconst (n := 0) (nx := 2) (r1 := 0) (r2 := 0) (r3 := 0) rfl ?_
  refine wr_pf0 (k0 := 236) (x := 0) (bl := 0) (bh := 2) (nx := 5) (r1 := 11) (r2 := 0) (r3 := 0) rfl (by decide) rfl ⟨rfl, rfl⟩ rfl rfl g rfl (by omega) (fun h13 g13 w13 u13 => ?_)
  have F14 := F0.then rfl u13
  refine wi_aload_n (i := 0) (x := 236) (nx := 6) (r1 := 0) (r2 := 0) (r3 := 0) rfl rfl ?_
  refine wr_V (k0 := 236) (rest := []) (as := [.ref 236]) (nx := 9) (r1 := 299) (r2 := 0) (r3 := 11) rfl rfl rfl (of_decide_eq_true rfl) rfl rfl (by decide) rfl rfl (of_decide_eq_true rfl) (of_decide_eq_true rfl) ?_
  have e16 : h13 238 98 = h 238 98 := (u13 238 98 rfl)
  have e17 : h13 238 99 = h 238 99 := (u13 238 99 rfl)
  have e18 : h13 238 100 = h 238 100 := (u13 238 100 rfl)
  have e19 : h13 238 101 = h 238 101 := (u13 238 101 rfl)
  have e20 : h13 238 102 = h 238 102 := (u13 238 102 rfl)
  have e21 : h13 238 106 = h 238 106 := (u13 238 106 rfl)
  have e22 : h13 238 73 = h 238 73 := (u13 238 73 rfl)
  have e23 : h13 238 2 = h 238 2 := (u13 238 2 rfl)
  have e24 : h13 238 119 = h 238 119 := (u13 238 119 rfl)
  have e25 : h13 238 67 = h 238 67 := (u13 238 67 rfl)
  have e26 : h13 238 69 = h 238 69 := (u13 238 69 rfl)
  have e27 : h13 238 5 = h 238 5 := (u13 238 5 rfl)
  refine ct_299_236 hcr  g13   (show (h13 238 98) + (h13 238 99) + (h13 238 100) + (h13 238 101) + (h13 238 102) + (h13 238 106) = (h13 238 73) by omega) (show (h13 238 73) ≤ (h13 238 2) by omega) (show (h13 238 119) ≤ (h13 238 67) by omega) (show (h13 238 69) ≤ (h13 238 5) by omega) (show (h13 238 2) ≤ 12 * (h13 238 5) by omega) (fun h15 z28 g15 u15 (fz28 : 0 ≤ z28 ∧ z28 ≤ 1000000) => ?_)
  have F29 := F14.then (by decide +kernel) u15
  refine wk_i ?_
  refine wi_istore_n (i := 2) (e := z28) (lo2 := [(2, vi z28), (0, .ref 236), (1, vi a0)]) (nx := 10) (r1 := 0) (r2 := 0) (r3 := 0) rfl rfl ?_
  refine wi_iload_n (i := 1) (e := a0) (nx := 11) (r1 := 0) (r2 := 0) (r3 := 0) rfl rfl ?_
  refine wi_i2l (nx := 12) (r1 := 0) (r2 := 0) (r3 := 0) rfl (by omega) ?_
  refine wi_lconst (n := 0) (e := 0) (nx := 13) (r1 := 0) (r2 := 0) (r3 := 0) rfl (by decide) ?_
  refine wi_aload_n (i := 0) (x := 236) (nx := 14) (r1 := 0) (r2 := 0) (r3 := 0) rfl rfl ?_
  have b30 := gi_b (lo := 0) (hi := 12) g15 236 32 rfl
  refine wr_gi0 (k0 := 236) (x := h15 236 32) (nx := 17) (r1 := 11) (r2 := 32) (r3 := 0) rfl rfl (by decide) rfl ⟨rfl, rfl⟩ rfl rfl ?_
  refine wi_iconst (n := 1) (nx := 18) (r1 := 0) (r2 := 0) (r3 := 0) rfl ?_
  refine wr_sub (nx := 19) (r1 := 0) (r2 := 0) (r3 := 0) rfl (fun e31 (fe31 : e31 = (h15 236 32) - 1) => ?_)
  refine wi_i2l (nx := 20) (r1 := 0) (r2 := 0) (r3 := 0) rfl (by omega) ?_
  refine wi_S (rest := []) (as := [vl a0, vl 0, vl e31]) (nx := 23) (r1 := 210) (r2 := 19) (r3 := 0) rfl rfl rfl (of_decide_eq_true rfl) rfl rfl (of_decide_eq_true rfl) (of_decide_eq_true rfl) ?_
  refine wi_lload_n (i := 0) (e := a0) (nx := 1) (r1 := 0) (r2 := 0) (r3 := 0) rfl rfl ?_
  refine wi_lload_n (i := 2) (e := 0) (nx := 2) (r1 := 0) (r2 := 0) (r3 := 0) rfl rfl ?_
  refine wi_lcmp (a := a0) (e := 0) (nx := 3) (r1 := 0) (r2 := 0) (r3 := 0) rfl (by omega) (by omega) (fun r32 (fr32 : (r32 = -1 ∧ a0 < 0) ∨ (r32 = 0 ∧ a0 = 0) ∨ (r32 = 1 ∧ 0 < a0)) => ?_)
  refine wi_if (cd := .lt) (nx := 6) (r1 := 17) (r2 := 0) (r3 := 0) rfl (by omega) (fun (q33 : r32 < 0) => ?_) (fun (q33 : ¬ (r32 < 0)) => ?_)
  ·
    refine wi_iconst (n := 0) (nx := 18) (r1 := 0) (r2 := 0) (r3 := 0) rfl ?_
    refine wi_zreturn (nx := 19) (r1 := 0) (r2 := 0) (r3 := 0) rfl rfl (by omega) ?_
    refine wk_i ?_
    refine wi_if (cd := .eq) (nx := 26) (r1 := 35) (r2 := 0) (r3 := 0) rfl (by omega) (fun (q34 : 0 = 0) => ?_) (fun (q34 : ¬ (0 = 0)) => by exfalso; omega)
    refine wi_iconst (n := (-1)) (nx := 36) (r1 := 0) (r2 := 0) (r3 := 0) rfl ?_
    refine wi_ireturn (nx := 37) (r1 := 0) (r2 := 0) (r3 := 0) rfl rfl ?_
    exact k h15 (-1) g15 F29 (by omega)
  ·
    refine wi_lload_n (i := 0) (e := a0) (nx := 7) (r1 := 0) (r2 := 0) (r3 := 0) rfl rfl ?_
    refine wi_lload (i := 4) (e := e31) (nx := 9) (r1 := 0) (r2 := 0) (r3 := 0) rfl rfl ?_
    refine wi_lcmp (a := a0) (e := e31) (nx := 10) (r1 := 0) (r2 := 0) (r3 := 0) rfl (by omega) (by omega) (fun r34 (fr34 : (r34 = -1 ∧ a0 < e31) ∨ (r34 = 0 ∧ a0 = e31) ∨ (r34 = 1 ∧ e31 < a0)) => ?_)
    refine wi_if (cd := .gt) (nx := 13) (r1 := 17) (r2 := 0) (r3 := 0) rfl (by omega) (fun (q35 : 0 < r34) => ?_) (fun (q35 : ¬ (0 < r34)) => ?_)
    ·
      refine wi_iconst (n := 0) (nx := 18) (r1 := 0) (r2 := 0) (r3 := 0) rfl ?_
      refine wi_zreturn (nx := 19) (r1 := 0) (r2 := 0) (r3 := 0) rfl rfl (by omega) ?_
      refine wk_i ?_
      refine wi_if (cd := .eq) (nx := 26) (r1 := 35) (r2 := 0) (r3 := 0) rfl (by omega) (fun (q36 : 0 = 0) => ?_) (fun (q36 : ¬ (0 = 0)) => by exfalso; omega)
      refine wi_iconst (n := (-1)) (nx := 36) (r1 := 0) (r2 := 0) (r3 := 0) rfl ?_
      refine wi_ireturn (nx := 37) (r1 := 0) (r2 := 0) (r3 := 0) rfl rfl ?_
      exact k h15 (-1) g15 F29 (by omega)
    ·
      refine wi_iconst (n := 1) (nx := 14) (r1 := 0) (r2 := 0) (r3 := 0) rfl ?_
      refine wi_goto (nx := 17) (r1 := 18) (r2 := 0) (r3 := 0) rfl ?_
      refine wi_zreturn (nx := 19) (r1 := 0) (r2 := 0) (r3 := 0) rfl rfl (by omega) ?_
      refine wk_i ?_
      refine wi_if (cd := .eq) (nx := 26) (r1 := 35) (r2 := 0) (r3 := 0) rfl (by omega) (fun (q36 : 1 = 0) => by exfalso; omega) (fun (q36 : ¬ (1 = 0)) => ?_)
      refine wi_aload_n (i := 0) (x := 236) (nx := 27) (r1 := 0) (r2 := 0) (r3 := 0) rfl rfl ?_
      refine wr_gr (k0 := 236) (x := 248) (nx := 30) (r1 := 11) (r2 := 31) (r3 := 0) rfl rfl (by decide) rfl ⟨rfl, rfl⟩ rfl ?_
      refine wi_iload_n (i := 1) (e := a0) (nx := 31) (r1 := 0) (r2 := 0) (r3 := 0) rfl rfl ?_
      obtain ⟨i37, ei37⟩ : ∃ q : Nat, a0 = (q : Int) := ⟨(a0).toNat, by omega⟩
      have b38 := gi_b (lo := 0) (hi := 3) g15 248 i37 rfl
      refine wr_ia (k0 := 248) (a := a0) (f := i37) (x := h15 248 i37) (nx := 32) (r1 := 0) (r2 := 0) (r3 := 0) rfl (by decide) rfl (by omega) (by omega) (by decide) rfl ?_
      refine wi_goto (nx := 35) (r1 := 36) (r2 := 0) (r3 := 0) rfl ?_
      refine wi_ireturn (nx := 37) (r1 := 0) (r2 := 0) (r3 := 0) rfl rfl ?_
      exact k h15 (h15 248 i37) g15 F29 (by omega)
-- method 255: Model.waiting()I
theorem ct_255_236 {L : Nat} {xs : Nat → Int32} {d b c : Nat} {h : hp} {cr : Nat → Nat → Option Nat} {Q : hp_Q} (hcr : CR cr)  (g : GI h)    (k : ∀ (h2 : hp) (z0 : Int) , GI h2 → FR [(236, 236, some (0, 0))] h h2 → (-12 ≤ z0 ∧ z0 ≤ 12) → Q (.inl (some (vi z0))) (hp_w h2 cr) b c) : wp (md_xa (L, xs)) d 255 (0, [(0, .ref 236)], [], hp_w h cr, b, c) Q := by
  have F0 : FR [(236, 236, some (0, 0))] h h := FR.refl
  refine wi_aload_n (i := 0) (x := 236) (nx := 1) (r1 := 0) (r2 := 0) (r3 := 0) rfl rfl ?_
  refine wi_iconst (n := 0) (nx := 2) (r1 := 0) (r2 := 0) (r3 := 0) rfl ?_
  refine wr_pf0 (k0 := 236) (x := 0) (bl := 0) (bh := 2) (nx := 5) (r1 := 11) (r2 := 0) (r3 := 0) rfl (by decide) rfl ⟨rfl, rfl⟩ rfl rfl g rfl (by omega) (fun h1 g1 w1 u1 => ?_)
  have F2 := F0.then rfl u1
  refine wi_aload_n (i := 0) (x := 236) (nx := 6) (r1 := 0) (r2 := 0) (r3 := 0) rfl rfl ?_
  refine wr_gr (k0 := 236) (x := 238) (nx := 9) (r1 := 11) (r2 := 13) (r3 := 0) rfl rfl (by decide) rfl ⟨rfl, rfl⟩ rfl ?_
  refine wi_iconst (n := 2) (nx := 10) (r1 := 0) (r2 := 0) (r3 := 0) rfl ?_
  have b3 := gi_b (lo := 0) (hi := 12) g 238 2 rfl
  refine wr_ia (k0 := 238) (a := 2) (f := 2) (x := h 238 2) (nx := 11) (r1 := 0) (r2 := 0) (r3 := 0) rfl (by decide) rfl (by omega) (by omega) (by decide) (u1 238 2 rfl) ?_
  refine wi_aload_n (i := 0) (x := 236) (nx := 12) (r1 := 0) (r2 := 0) (r3 := 0) rfl rfl ?_
  refine wr_gr (k0 := 236) (x := 238) (nx := 15) (r1 := 11) (r2 := 13) (r3 := 0) rfl rfl (by decide) rfl ⟨rfl, rfl⟩ rfl ?_
  refine wi_bipush (n := 73) (nx := 17) (r1 := 0) (r2 := 0) (r3 := 0) rfl (by decide) ?_
  have b4 := gi_b (lo := 0) (hi := 12) g 238 73 rfl
  refine wr_ia (k0 := 238) (a := 73) (f := 73) (x := h 238 73) (nx := 18) (r1 := 0) (r2 := 0) (r3 := 0) rfl (by decide) rfl (by omega) (by omega) (by decide) (u1 238 73 rfl) ?_
  refine wr_sub (nx := 19) (r1 := 0) (r2 := 0) (r3 := 0) rfl (fun e5 (fe5 : e5 = (h 238 2) - (h 238 73)) => ?_)
  refine wi_ireturn (nx := 20) (r1 := 0) (r2 := 0) (r3 := 0) rfl rfl ?_
  exact k h1 e5 g1 F2 (by omega)
-- method 320: Model.waitingChanges()I
theorem ct_320_236 {L : Nat} {xs : Nat → Int32} {d b c : Nat} {h : hp} {cr : Nat → Nat → Option Nat} {Q : hp_Q} (hcr : CR cr)  (g : GI h)    (k : ∀ (h2 : hp) (z0 : Int) , GI h2 → FR [(236, 236, some (0, 0))] h h2 → (-2147483648 ≤ z0 ∧ z0 ≤ 2147483647) → Q (.inl (some (vi z0))) (hp_w h2 cr) b c) : wp (md_xa (L, xs)) (d + 1) 320 (0, [(0, .ref 236)], [], hp_w h cr, b, c) Q := by
  have F0 : FR [(236, 236, some (0, 0))] h h := FR.refl
  refine wi_aload_n (i := 0) (x := 236) (nx := 1) (r1 := 0) (r2 := 0) (r3 := 0) rfl rfl ?_
  refine wi_iconst (n := 0) (nx := 2) (r1 := 0) (r2 := 0) (r3 := 0) rfl ?_
  refine wr_pf0 (k0 := 236) (x := 0) (bl := 0) (bh := 2) (nx := 5) (r1 := 11) (r2 := 0) (r3 := 0) rfl (by decide) rfl ⟨rfl, rfl⟩ rfl rfl g rfl (by omega) (fun h1 g1 w1 u1 => ?_)
  have F2 := F0.then rfl u1
  refine wi_iconst (n := 0) (nx := 6) (r1 := 0) (r2 := 0) (r3 := 0) rfl ?_
  refine wi_istore_n (i := 1) (e := 0) (lo2 := [(1, vi 0), (0, .ref 236)]) (nx := 7) (r1 := 0) (r2 := 0) (r3 := 0) rfl rfl ?_
  refine wi_iconst (n := 1) (nx := 8) (r1 := 0) (r2 := 0) (r3 := 0) rfl ?_
  refine wi_istore_n (i := 2) (e := 1) (lo2 := [(2, vi 1), (1, vi 0), (0, .ref 236)]) (nx := 9) (r1 := 0) (r2 := 0) (r3 := 0) rfl rfl ?_
  refine wp.lo (lo := [(0, .ref 236), (1, vi 0), (2, vi 1)]) ⟨rfl, rfl, rfl, trivial⟩ rfl ?_
  refine wl_2 (fun x3 x4 h5 => h1 = h5 ∧ ((-2147483648 ≤ x3 ∧ x3 ≤ 2147483647) ∧ (1 ≤ x4 ∧ x4 ≤ 12))) (fun x3 x4 h5 => ((12 : Int) + 1 - x4).toNat) (fun x3 x4 h5 => (9, [(0, .ref 236), (1, vi x3), (2, vi x4)], [], hp_w h5 cr, b, c)) ?_ 0 1 h1 ⟨rfl, (show (-2147483648 ≤ 0 ∧ 0 ≤ 2147483647) ∧ (1 ≤ 1 ∧ 1 ≤ 12) by omega)⟩
  intro x3 x4 h5 ⟨e5, f5⟩ I5
  subst e5
  refine wi_iload_n (i := 2) (e := x4) (nx := 10) (r1 := 0) (r2 := 0) (r3 := 0) rfl rfl ?_
  refine wi_aload_n (i := 0) (x := 236) (nx := 11) (r1 := 0) (r2 := 0) (r3 := 0) rfl rfl ?_
  refine wr_V (k0 := 236) (rest := [vi x4]) (as := [.ref 236]) (nx := 14) (r1 := 321) (r2 := 0) (r3 := 11) rfl rfl rfl (of_decide_eq_true rfl) rfl rfl (by decide) rfl rfl (of_decide_eq_true rfl) (of_decide_eq_true rfl) ?_
  refine wi_aload_n (i := 0) (x := 236) (nx := 1) (r1 := 0) (r2 := 0) (r3 := 0) rfl rfl ?_
  refine wr_gr (k0 := 236) (x := 238) (nx := 4) (r1 := 11) (r2 := 13) (r3 := 0) rfl rfl (by decide) rfl ⟨rfl, rfl⟩ rfl ?_
  refine wi_iconst (n := 2) (nx := 5) (r1 := 0) (r2 := 0) (r3 := 0) rfl ?_
  have b7 := gi_b (lo := 0) (hi := 12) g 238 2 rfl
  refine wr_ia (k0 := 238) (a := 2) (f := 2) (x := h 238 2) (nx := 6) (r1 := 0) (r2 := 0) (r3 := 0) rfl (by decide) rfl (by omega) (by omega) (by decide) (u1 238 2 rfl) ?_
  refine wi_aload_n (i := 0) (x := 236) (nx := 7) (r1 := 0) (r2 := 0) (r3 := 0) rfl rfl ?_
  refine wr_gr (k0 := 236) (x := 238) (nx := 10) (r1 := 11) (r2 := 13) (r3 := 0) rfl rfl (by decide) rfl ⟨rfl, rfl⟩ rfl ?_
  refine wi_bipush (n := 73) (nx := 12) (r1 := 0) (r2 := 0) (r3 := 0) rfl (by decide) ?_
  have b8 := gi_b (lo := 0) (hi := 12) g 238 73 rfl
  refine wr_ia (k0 := 238) (a := 73) (f := 73) (x := h 238 73) (nx := 13) (r1 := 0) (r2 := 0) (r3 := 0) rfl (by decide) rfl (by omega) (by omega) (by decide) (u1 238 73 rfl) ?_
  refine wr_sub (nx := 14) (r1 := 0) (r2 := 0) (r3 := 0) rfl (fun e9 (fe9 : e9 = (h 238 2) - (h 238 73)) => ?_)
  refine wi_ireturn (nx := 15) (r1 := 0) (r2 := 0) (r3 := 0) rfl rfl ?_
  refine wk_i ?_
  refine wi_icmp (cd := .ge) (nx := 17) (r1 := 49) (r2 := 0) (r3 := 0) rfl (by omega) (by omega) (fun (q10 : e9 ≤ x4) => ?_) (fun (q10 : ¬ (e9 ≤ x4)) => ?_)
  ·
    refine wi_iload_n (i := 1) (e := x3) (nx := 50) (r1 := 0) (r2 := 0) (r3 := 0) rfl rfl ?_
    refine wi_ireturn (nx := 51) (r1 := 0) (r2 := 0) (r3 := 0) rfl rfl ?_
    exact k h1 x3 g1 F2 (by omega)
  ·
    refine wi_iload_n (i := 1) (e := x3) (nx := 18) (r1 := 0) (r2 := 0) (r3 := 0) rfl rfl ?_
    refine wi_aload_n (i := 0) (x := 236) (nx := 19) (r1 := 0) (r2 := 0) (r3 := 0) rfl rfl ?_
    refine wi_iload_n (i := 2) (e := x4) (nx := 20) (r1 := 0) (r2 := 0) (r3 := 0) rfl rfl ?_
    refine wr_V (k0 := 236) (rest := [vi x3]) (as := [.ref 236, vi x4]) (nx := 23) (r1 := 322) (r2 := 1) (r3 := 11) rfl rfl rfl (of_decide_eq_true rfl) rfl rfl (by decide) rfl rfl (of_decide_eq_true rfl) (of_decide_eq_true rfl) ?_
    refine wi_aload_n (i := 0) (x := 236) (nx := 1) (r1 := 0) (r2 := 0) (r3 := 0) rfl rfl ?_
    refine wr_gr (k0 := 236) (x := 238) (nx := 4) (r1 := 11) (r2 := 13) (r3 := 0) rfl rfl (by decide) rfl ⟨rfl, rfl⟩ rfl ?_
    refine wi_bipush (n := 31) (nx := 6) (r1 := 0) (r2 := 0) (r3 := 0) rfl (by decide) ?_
    refine wi_aload_n (i := 0) (x := 236) (nx := 7) (r1 := 0) (r2 := 0) (r3 := 0) rfl rfl ?_
    refine wr_gr (k0 := 236) (x := 238) (nx := 10) (r1 := 11) (r2 := 13) (r3 := 0) rfl rfl (by decide) rfl ⟨rfl, rfl⟩ rfl ?_
    refine wi_bipush (n := 73) (nx := 12) (r1 := 0) (r2 := 0) (r3 := 0) rfl (by decide) ?_
    refine wr_ia (k0 := 238) (a := 73) (f := 73) (x := h 238 73) (nx := 13) (r1 := 0) (r2 := 0) (r3 := 0) rfl (by decide) rfl (by omega) (by omega) (by decide) (u1 238 73 rfl) ?_
    refine wr_add (nx := 14) (r1 := 0) (r2 := 0) (r3 := 0) rfl (fun e11 (fe11 : e11 = 31 + (h 238 73)) => ?_)
    refine wi_iload_n (i := 1) (e := x4) (nx := 15) (r1 := 0) (r2 := 0) (r3 := 0) rfl rfl ?_
    refine wr_add (nx := 16) (r1 := 0) (r2 := 0) (r3 := 0) rfl (fun e12 (fe12 : e12 = e11 + x4) => ?_)
    obtain ⟨i13, ei13⟩ : ∃ q : Nat, e12 = (q : Int) := ⟨(e12).toNat, by omega⟩
    have b14 := gi_b (lo := 0) (hi := 4) g 238 i13 (gi_rg 32 11 (fun _ => rfl) (by decide +kernel) (by omega))
    refine wr_ia (k0 := 238) (a := e12) (f := i13) (x := h 238 i13) (nx := 17) (r1 := 0) (r2 := 0) (r3 := 0) rfl (by decide) rfl (by omega) (by omega) (by decide) (u1 238 i13 (fn_a (by omega) fn_0)) ?_
    refine wi_ireturn (nx := 18) (r1 := 0) (r2 := 0) (r3 := 0) rfl rfl ?_
    refine wk_i ?_
    refine wi_aload_n (i := 0) (x := 236) (nx := 24) (r1 := 0) (r2 := 0) (r3 := 0) rfl rfl ?_
    refine wi_iload_n (i := 2) (e := x4) (nx := 25) (r1 := 0) (r2 := 0) (r3 := 0) rfl rfl ?_
    refine wi_iconst (n := 1) (nx := 26) (r1 := 0) (r2 := 0) (r3 := 0) rfl ?_
    refine wr_sub (nx := 27) (r1 := 0) (r2 := 0) (r3 := 0) rfl (fun e15 (fe15 : e15 = x4 - 1) => ?_)
    refine wr_V (k0 := 236) (rest := [vi (h 238 i13), vi x3]) (as := [.ref 236, vi e15]) (nx := 30) (r1 := 322) (r2 := 1) (r3 := 11) rfl rfl rfl (of_decide_eq_true rfl) rfl rfl (by decide) rfl rfl (of_decide_eq_true rfl) (of_decide_eq_true rfl) ?_
    refine wi_aload_n (i := 0) (x := 236) (nx := 1) (r1 := 0) (r2 := 0) (r3 := 0) rfl rfl ?_
    refine wr_gr (k0 := 236) (x := 238) (nx := 4) (r1 := 11) (r2 := 13) (r3 := 0) rfl rfl (by decide) rfl ⟨rfl, rfl⟩ rfl ?_
    refine wi_bipush (n := 31) (nx := 6) (r1 := 0) (r2 := 0) (r3 := 0) rfl (by decide) ?_
    refine wi_aload_n (i := 0) (x := 236) (nx := 7) (r1 := 0) (r2 := 0) (r3 := 0) rfl rfl ?_
    refine wr_gr (k0 := 236) (x := 238) (nx := 10) (r1 := 11) (r2 := 13) (r3 := 0) rfl rfl (by decide) rfl ⟨rfl, rfl⟩ rfl ?_
    refine wi_bipush (n := 73) (nx := 12) (r1 := 0) (r2 := 0) (r3 := 0) rfl (by decide) ?_
    refine wr_ia (k0 := 238) (a := 73) (f := 73) (x := h 238 73) (nx := 13) (r1 := 0) (r2 := 0) (r3 := 0) rfl (by decide) rfl (by omega) (by omega) (by decide) (u1 238 73 rfl) ?_
    refine wr_add (nx := 14) (r1 := 0) (r2 := 0) (r3 := 0) rfl (fun e16 (fe16 : e16 = 31 + (h 238 73)) => ?_)
    refine wi_iload_n (i := 1) (e := e15) (nx := 15) (r1 := 0) (r2 := 0) (r3 := 0) rfl rfl ?_
    refine wr_add (nx := 16) (r1 := 0) (r2 := 0) (r3 := 0) rfl (fun e17 (fe17 : e17 = e16 + e15) => ?_)
    obtain ⟨i18, ei18⟩ : ∃ q : Nat, e17 = (q : Int) := ⟨(e17).toNat, by omega⟩
    have b19 := gi_b (lo := 0) (hi := 4) g 238 i18 (gi_rg 31 11 (fun _ => rfl) (by decide +kernel) (by omega))
    refine wr_ia (k0 := 238) (a := e17) (f := i18) (x := h 238 i18) (nx := 17) (r1 := 0) (r2 := 0) (r3 := 0) rfl (by decide) rfl (by omega) (by omega) (by decide) (u1 238 i18 (fn_a (by omega) fn_0)) ?_
    refine wi_ireturn (nx := 18) (r1 := 0) (r2 := 0) (r3 := 0) rfl rfl ?_
    refine wk_i ?_
    refine wi_icmp (cd := .eq) (nx := 33) (r1 := 37) (r2 := 0) (r3 := 0) rfl (by omega) (by omega) (fun (q20 : (h 238 i13) = (h 238 i18)) => ?_) (fun (q20 : ¬ ((h 238 i13) = (h 238 i18))) => ?_)
    ·
      refine wi_iconst (n := 0) (nx := 38) (r1 := 0) (r2 := 0) (r3 := 0) rfl ?_
      refine wi_S (rest := [vi x3]) (as := [vi 0]) (nx := 41) (r1 := 207) (r2 := 17) (r3 := 0) rfl rfl rfl (of_decide_eq_true rfl) rfl rfl (of_decide_eq_true rfl) (of_decide_eq_true rfl) ?_
      refine wi_iload_n (i := 0) (e := 0) (nx := 1) (r1 := 0) (r2 := 0) (r3 := 0) rfl rfl ?_
      refine wi_if (cd := .eq) (nx := 4) (r1 := 8) (r2 := 0) (r3 := 0) rfl (by omega) (fun (q21 : 0 = 0) => ?_) (fun (q21 : ¬ (0 = 0)) => by exfalso; omega)
      refine wi_iconst (n := 0) (nx := 9) (r1 := 0) (r2 := 0) (r3 := 0) rfl ?_
      refine wi_ireturn (nx := 10) (r1 := 0) (r2 := 0) (r3 := 0) rfl rfl ?_
      refine wk_i ?_
      refine wr_add (nx := 42) (r1 := 0) (r2 := 0) (r3 := 0) rfl (fun e22 (fe22 : e22 = x3 + 0) => ?_)
      refine wi_istore_n (i := 1) (e := e22) (lo2 := [(1, vi e22), (0, .ref 236), (2, vi x4)]) (nx := 43) (r1 := 0) (r2 := 0) (r3 := 0) rfl rfl ?_
      refine wr_iinc (i := 2) (n := 1) (v := x4) (fun e23 => [(2, vi e23), (1, vi e22), (0, .ref 236)]) (nx := 46) (r1 := 0) (r2 := 0) (r3 := 0) rfl rfl (fun _ => rfl) (fun e23 (fe23 : e23 = x4 + 1) => ?_)
      refine wi_goto (nx := 49) (r1 := 9) (r2 := 0) (r3 := 0) rfl ?_
      refine wp.lo (lo := [(0, .ref 236), (1, vi e22), (2, vi e23)]) ⟨rfl, rfl, rfl, trivial⟩ rfl ?_
      exact I5 e22 e23 h1 ⟨rfl, (show (-2147483648 ≤ e22 ∧ e22 ≤ 2147483647) ∧ (1 ≤ e23 ∧ e23 ≤ 12) by omega)⟩ (show ((12 : Int) + 1 - e23).toNat < ((12 : Int) + 1 - x4).toNat by omega)
    ·
      refine wi_iconst (n := 1) (nx := 34) (r1 := 0) (r2 := 0) (r3 := 0) rfl ?_
      refine wi_goto (nx := 37) (r1 := 38) (r2 := 0) (r3 := 0) rfl ?_
      refine wi_S (rest := [vi x3]) (as := [vi 1]) (nx := 41) (r1 := 207) (r2 := 17) (r3 := 0) rfl rfl rfl (of_decide_eq_true rfl) rfl rfl (of_decide_eq_true rfl) (of_decide_eq_true rfl) ?_
      refine wi_iload_n (i := 0) (e := 1) (nx := 1) (r1 := 0) (r2 := 0) (r3 := 0) rfl rfl ?_
      refine wi_if (cd := .eq) (nx := 4) (r1 := 8) (r2 := 0) (r3 := 0) rfl (by omega) (fun (q21 : 1 = 0) => by exfalso; omega) (fun (q21 : ¬ (1 = 0)) => ?_)
      refine wi_iconst (n := 1) (nx := 5) (r1 := 0) (r2 := 0) (r3 := 0) rfl ?_
      refine wi_goto (nx := 8) (r1 := 9) (r2 := 0) (r3 := 0) rfl ?_
      refine wi_ireturn (nx := 10) (r1 := 0) (r2 := 0) (r3 := 0) rfl rfl ?_
      refine wk_i ?_
      refine wr_addW (nx := 42) (r1 := 0) (r2 := 0) (r3 := 0) rfl (fun e22 (fe22 : -2147483648 ≤ e22 ∧ e22 ≤ 2147483647) => ?_)
      refine wi_istore_n (i := 1) (e := e22) (lo2 := [(1, vi e22), (0, .ref 236), (2, vi x4)]) (nx := 43) (r1 := 0) (r2 := 0) (r3 := 0) rfl rfl ?_
      refine wr_iinc (i := 2) (n := 1) (v := x4) (fun e23 => [(2, vi e23), (1, vi e22), (0, .ref 236)]) (nx := 46) (r1 := 0) (r2 := 0) (r3 := 0) rfl rfl (fun _ => rfl) (fun e23 (fe23 : e23 = x4 + 1) => ?_)
      refine wi_goto (nx := 49) (r1 := 9) (r2 := 0) (r3 := 0) rfl ?_
      refine wp.lo (lo := [(0, .ref 236), (1, vi e22), (2, vi e23)]) ⟨rfl, rfl, rfl, trivial⟩ rfl ?_
      exact I5 e22 e23 h1 ⟨rfl, (show (-2147483648 ≤ e22 ∧ e22 ≤ 2147483647) ∧ (1 ≤ e23 ∧ e23 ≤ 12) by omega)⟩ (show ((12 : Int) + 1 - e23).toNat < ((12 : Int) + 1 - x4).toNat by omega)
-- method 287: Model.waits()I
theorem ct_287_236 {L : Nat} {xs : Nat → Int32} {d b c : Nat} {h : hp} {cr : Nat → Nat → Option Nat} {Q : hp_Q} (hcr : CR cr)  (g : GI h)   (pp0 : h 238 98 + h 238 99 + h 238 100 + h 238 101 + h 238 102 + h 238 106 = h 238 73) (pp1 : h 238 73 ≤ h 238 2) (pp2 : h 238 119 ≤ h 238 67) (pp3 : h 238 69 ≤ h 238 5) (pp4 : h 238 2 ≤ 12 * h 238 5) (gp0 : GPH h) (k : ∀ (h2 : hp) (z0 : Int) , GI h2 → FR [(236, 236, some (0, 0)), (236, 236, some (22, 22)), (238, 238, some (67, 67)), (242, 242, some (0, 999)), (242, 242, some (1000, 1199))] h h2 → (-1 ≤ z0 ∧ z0 ≤ 9999) → (h2 238 98 + h2 238 99 + h2 238 100 + h2 238 101 + h2 238 102 + h2 238 106 = h2 238 73) → (h2 238 73 ≤ h2 238 2) → (h2 238 119 ≤ h2 238 67) → (h2 238 69 ≤ h2 238 5) → (h2 238 2 ≤ 12 * h2 238 5) → (GPH h2) → Q (.inl (some (vi z0))) (hp_w h2 cr) b c) : wp (md_xa (L, xs)) (d + 1) 287 (0, [(0, .ref 236)], [], hp_w h cr, b, c) Q := by
  have F0 : FR [(236, 236, some (0, 0)), (236, 236, some (22, 22)), (238, 238, some (67, 67)), (242, 242, some (0, 999)), (242, 242, some (1000, 1199))] h h := FR.refl
  have b1 := gi_b (lo := 0) (hi := 6) g 238 98 rfl
  have b2 := gi_b (lo := 0) (hi := 6) g 238 99 rfl
  have b3 := gi_b (lo := 0) (hi := 6) g 238 100 rfl
  have b4 := gi_b (lo := 0) (hi := 6) g 238 101 rfl
  have b5 := gi_b (lo := 0) (hi := 3) g 238 102 rfl
  have b6 := gi_b (lo := 0) (hi := 12) g 238 106 rfl
  have b7 := gi_b (lo := 0) (hi := 12) g 238 73 rfl
  have b8 := gi_b (lo := 0) (hi := 12) g 238 2 rfl
  have b9 := gi_b (lo := 0) (hi := 9999) g 238 119 rfl
  have b10 := gi_b (lo := 0) (hi := 9999) g 238 67 rfl
  have b11 := gi_b (lo := 0) (hi := 9) g 238 69 rfl
  have b12 := gi_b (lo := 0) (hi := 9) g 238 5 rfl
  refine wi_aload_n (i := 0) (x := 236) (nx := 1) (r1 := 0) (r2 := 0) (r3 := 0) rfl rfl ?_
  refine wi_iconst (n := 0) (nx := 2) (r1 := 0) (r2 := 0) (r3 := 0) rfl ?_
  refine wr_pf0 (k0 := 236) (x := 0) (bl := 0) (bh := 2) (nx := 5) (r1 := 11) (r2 := 0) (r3 := 0) rfl (by decide) rfl ⟨rfl, rfl⟩ rfl rfl g rfl (by omega) (fun h13 g13 w13 u13 => ?_)
  have F14 := F0.then rfl u13
  refine wi_aload_n (i := 0) (x := 236) (nx := 6) (r1 := 0) (r2 := 0) (r3 := 0) rfl rfl ?_
  refine wr_gr (k0 := 236) (x := 238) (nx := 9) (r1 := 11) (r2 := 13) (r3 := 0) rfl rfl (by decide) rfl ⟨rfl, rfl⟩ rfl ?_
  refine wi_bipush (n := 67) (nx := 11) (r1 := 0) (r2 := 0) (r3 := 0) rfl (by decide) ?_
  refine wr_ia (k0 := 238) (a := 67) (f := 67) (x := h 238 67) (nx := 12) (r1 := 0) (r2 := 0) (r3 := 0) rfl (by decide) rfl (by omega) (by omega) (by decide) (u13 238 67 rfl) ?_
  refine wi_sipush (n := 9999) (nx := 15) (r1 := 0) (r2 := 0) (r3 := 0) rfl (by decide) ?_
  refine wi_icmp (cd := .ne) (nx := 18) (r1 := 20) (r2 := 0) (r3 := 0) rfl (by omega) (by omega) (fun (q15 : (h 238 67) ≠ 9999) => ?_) (fun (q15 : ¬ ((h 238 67) ≠ 9999)) => ?_)
  ·
    refine wi_aload_n (i := 0) (x := 236) (nx := 21) (r1 := 0) (r2 := 0) (r3 := 0) rfl rfl ?_
    refine wr_V (k0 := 236) (rest := []) (as := [.ref 236]) (nx := 24) (r1 := 278) (r2 := 0) (r3 := 11) rfl rfl rfl (of_decide_eq_true rfl) rfl rfl (by decide) rfl rfl (of_decide_eq_true rfl) (of_decide_eq_true rfl) ?_
    have e17 : h13 238 98 = h 238 98 := (u13 238 98 rfl)
    have e18 : h13 238 99 = h 238 99 := (u13 238 99 rfl)
    have e19 : h13 238 100 = h 238 100 := (u13 238 100 rfl)
    have e20 : h13 238 101 = h 238 101 := (u13 238 101 rfl)
    have e21 : h13 238 102 = h 238 102 := (u13 238 102 rfl)
    have e22 : h13 238 106 = h 238 106 := (u13 238 106 rfl)
    have e23 : h13 238 73 = h 238 73 := (u13 238 73 rfl)
    have e24 : h13 238 2 = h 238 2 := (u13 238 2 rfl)
    have e25 : h13 238 119 = h 238 119 := (u13 238 119 rfl)
    have e26 : h13 238 67 = h 238 67 := (u13 238 67 rfl)
    have e27 : h13 238 69 = h 238 69 := (u13 238 69 rfl)
    have e28 : h13 238 5 = h 238 5 := (u13 238 5 rfl)
    have gp29 := GPH.fr u13 rfl gp0
    refine ct_278_236 hcr  g13   (show (h13 238 98) + (h13 238 99) + (h13 238 100) + (h13 238 101) + (h13 238 102) + (h13 238 106) = (h13 238 73) by omega) (show (h13 238 73) ≤ (h13 238 2) by omega) (show (h13 238 119) ≤ (h13 238 67) by omega) (show (h13 238 69) ≤ (h13 238 5) by omega) (show (h13 238 2) ≤ 12 * (h13 238 5) by omega) gp29 (fun h16 g16 u16 (p16_0 : 1 ≤ (h16 236 22)) y16_0 => ?_)
    have F30 := F14.then (by decide +kernel) u16
    have b31 := gi_b (lo := 0) (hi := 6) g16 236 22 rfl
    refine wk_n ?_
    refine wi_aload_n (i := 0) (x := 236) (nx := 25) (r1 := 0) (r2 := 0) (r3 := 0) rfl rfl ?_
    refine wr_gr (k0 := 236) (x := 238) (nx := 28) (r1 := 11) (r2 := 13) (r3 := 0) rfl rfl (by decide) rfl ⟨rfl, rfl⟩ rfl ?_
    refine wi_bipush (n := 67) (nx := 30) (r1 := 0) (r2 := 0) (r3 := 0) rfl (by decide) ?_
    refine wi_dup2 (nx := 31) (r1 := 0) (r2 := 0) (r3 := 0) rfl rfl rfl ?_
    refine wr_ia (k0 := 238) (a := 67) (f := 67) (x := h 238 67) (nx := 32) (r1 := 0) (r2 := 0) (r3 := 0) rfl (by decide) rfl (by omega) (by omega) (by decide) ((u16 238 67 rfl).trans (u13 238 67 rfl)) ?_
    refine wi_iconst (n := 1) (nx := 33) (r1 := 0) (r2 := 0) (r3 := 0) rfl ?_
    refine wr_add (nx := 34) (r1 := 0) (r2 := 0) (r3 := 0) rfl (fun e32 (fe32 : e32 = (h 238 67) + 1) => ?_)
    refine wr_is (k0 := 238) (a := 67) (f := 67) (x := e32) (bl := 0) (bh := 9999) (nx := 35) (r1 := 0) (r2 := 0) (r3 := 0) rfl (by decide) rfl (by omega) (by omega) (by decide) g16 rfl (by omega) (fun h33 g33 w33 u33 => ?_)
    have F34 := F30.then rfl u33
    refine wi_aload_n (i := 0) (x := 236) (nx := 36) (r1 := 0) (r2 := 0) (r3 := 0) rfl rfl ?_
    refine wr_gr (k0 := 236) (x := 238) (nx := 39) (r1 := 11) (r2 := 13) (r3 := 0) rfl rfl (by decide) rfl ⟨rfl, rfl⟩ rfl ?_
    refine wi_bipush (n := 67) (nx := 41) (r1 := 0) (r2 := 0) (r3 := 0) rfl (by decide) ?_
    refine wr_ia (k0 := 238) (a := 67) (f := 67) (x := e32) (nx := 42) (r1 := 0) (r2 := 0) (r3 := 0) rfl (by decide) rfl (by omega) (by omega) (by decide) w33 ?_
    refine wi_ireturn (nx := 43) (r1 := 0) (r2 := 0) (r3 := 0) rfl rfl ?_
    have e35 : h33 238 98 = h 238 98 := ((u33 238 98 rfl).trans ((u16 238 98 rfl).trans (u13 238 98 rfl)))
    have e36 : h33 238 99 = h 238 99 := ((u33 238 99 rfl).trans ((u16 238 99 rfl).trans (u13 238 99 rfl)))
    have e37 : h33 238 100 = h 238 100 := ((u33 238 100 rfl).trans ((u16 238 100 rfl).trans (u13 238 100 rfl)))
    have e38 : h33 238 101 = h 238 101 := ((u33 238 101 rfl).trans ((u16 238 101 rfl).trans (u13 238 101 rfl)))
    have e39 : h33 238 102 = h 238 102 := ((u33 238 102 rfl).trans ((u16 238 102 rfl).trans (u13 238 102 rfl)))
    have e40 : h33 238 106 = h 238 106 := ((u33 238 106 rfl).trans ((u16 238 106 rfl).trans (u13 238 106 rfl)))
    have e41 : h33 238 73 = h 238 73 := ((u33 238 73 rfl).trans ((u16 238 73 rfl).trans (u13 238 73 rfl)))
    have e42 : h33 238 2 = h 238 2 := ((u33 238 2 rfl).trans ((u16 238 2 rfl).trans (u13 238 2 rfl)))
    have e43 : h33 238 119 = h 238 119 := ((u33 238 119 rfl).trans ((u16 238 119 rfl).trans (u13 238 119 rfl)))
    have e44 : h33 238 67 = e32 := w33
    have e45 : h33 238 69 = h 238 69 := ((u33 238 69 rfl).trans ((u16 238 69 rfl).trans (u13 238 69 rfl)))
    have e46 : h33 238 5 = h 238 5 := ((u33 238 5 rfl).trans ((u16 238 5 rfl).trans (u13 238 5 rfl)))
    have gp47 := GPH.fr u33 rfl y16_0
    exact k h33 e32 g33 F34 (by omega) (show (h33 238 98) + (h33 238 99) + (h33 238 100) + (h33 238 101) + (h33 238 102) + (h33 238 106) = (h33 238 73) by omega) (show (h33 238 73) ≤ (h33 238 2) by omega) (show (h33 238 119) ≤ (h33 238 67) by omega) (show (h33 238 69) ≤ (h33 238 5) by omega) (show (h33 238 2) ≤ 12 * (h33 238 5) by omega) gp47
  ·
    refine wi_iconst (n := (-1)) (nx := 19) (r1 := 0) (r2 := 0) (r3 := 0) rfl ?_
    refine wi_ireturn (nx := 20) (r1 := 0) (r2 := 0) (r3 := 0) rfl rfl ?_
    have e16 : h13 238 98 = h 238 98 := (u13 238 98 rfl)
    have e17 : h13 238 99 = h 238 99 := (u13 238 99 rfl)
    have e18 : h13 238 100 = h 238 100 := (u13 238 100 rfl)
    have e19 : h13 238 101 = h 238 101 := (u13 238 101 rfl)
    have e20 : h13 238 102 = h 238 102 := (u13 238 102 rfl)
    have e21 : h13 238 106 = h 238 106 := (u13 238 106 rfl)
    have e22 : h13 238 73 = h 238 73 := (u13 238 73 rfl)
    have e23 : h13 238 2 = h 238 2 := (u13 238 2 rfl)
    have e24 : h13 238 119 = h 238 119 := (u13 238 119 rfl)
    have e25 : h13 238 67 = h 238 67 := (u13 238 67 rfl)
    have e26 : h13 238 69 = h 238 69 := (u13 238 69 rfl)
    have e27 : h13 238 5 = h 238 5 := (u13 238 5 rfl)
    have gp28 := GPH.fr u13 rfl gp0
    exact k h13 (-1) g13 F14 (by omega) (show (h13 238 98) + (h13 238 99) + (h13 238 100) + (h13 238 101) + (h13 238 102) + (h13 238 106) = (h13 238 73) by omega) (show (h13 238 73) ≤ (h13 238 2) by omega) (show (h13 238 119) ≤ (h13 238 67) by omega) (show (h13 238 69) ≤ (h13 238 5) by omega) (show (h13 238 2) ≤ 12 * (h13 238 5) by omega) gp28
-- method 251: Model.where(I)I
theorem ct_251_236 {L : Nat} {xs : Nat → Int32} {d b c : Nat} {h : hp} {cr : Nat → Nat → Option Nat} {Q : hp_Q} (hcr : CR cr)  (g : GI h) (a0 : Int) (q0_ : -2147483648 ≤ a0 ∧ a0 ≤ 2147483647)  (k : ∀ (h2 : hp) (z0 : Int) , GI h2 → FR [(236, 236, some (0, 0))] h h2 → (0 ≤ z0 ∧ z0 ≤ 3) → Q (.inl (some (vi z0))) (hp_w h2 cr) b c) : wp (md_xa (L, xs)) (d + 3) 251 (0, [(0, .ref 236), (1, vi a0)], [], hp_w h cr, b, c) Q := by
  have F0 : FR [(236, 236, some (0, 0))] h h := FR.refl
  refine wi_aload_n (i := 0) (x := 236) (nx := 1) (r1 := 0) (r2 := 0) (r3 := 0) rfl rfl ?_
  refine wi_aload_n (i := 0) (x := 236) (nx := 2) (r1 := 0) (r2 := 0) (r3 := 0) rfl rfl ?_
  refine wi_iload_n (i := 1) (e := a0) (nx := 3) (r1 := 0) (r2 := 0) (r3 := 0) rfl rfl ?_
  refine wr_V (k0 := 236) (rest := [.ref 236]) (as := [.ref 236, vi a0]) (nx := 6) (r1 := 244) (r2 := 1) (r3 := 11) rfl rfl rfl (of_decide_eq_true rfl) rfl rfl (by decide) rfl rfl (of_decide_eq_true rfl) (of_decide_eq_true rfl) ?_
  refine wi_iload_n (i := 1) (e := a0) (nx := 1) (r1 := 0) (r2 := 0) (r3 := 0) rfl rfl ?_
  refine wi_i2l (nx := 2) (r1 := 0) (r2 := 0) (r3 := 0) rfl (by omega) ?_
  refine wi_lconst (n := 0) (e := 0) (nx := 3) (r1 := 0) (r2 := 0) (r3 := 0) rfl (by decide) ?_
  refine wi_aload_n (i := 0) (x := 236) (nx := 4) (r1 := 0) (r2 := 0) (r3 := 0) rfl rfl ?_
  refine wr_gr (k0 := 236) (x := 238) (nx := 7) (r1 := 11) (r2 := 13) (r3 := 0) rfl rfl (by decide) rfl ⟨rfl, rfl⟩ rfl ?_
  refine wi_iconst (n := 2) (nx := 8) (r1 := 0) (r2 := 0) (r3 := 0) rfl ?_
  have b1 := gi_b (lo := 0) (hi := 12) g 238 2 rfl
  refine wr_ia (k0 := 238) (a := 2) (f := 2) (x := h 238 2) (nx := 9) (r1 := 0) (r2 := 0) (r3 := 0) rfl (by decide) rfl (by omega) (by omega) (by decide) rfl ?_
  refine wi_iconst (n := 1) (nx := 10) (r1 := 0) (r2 := 0) (r3 := 0) rfl ?_
  refine wr_sub (nx := 11) (r1 := 0) (r2 := 0) (r3 := 0) rfl (fun e2 (fe2 : e2 = (h 238 2) - 1) => ?_)
  refine wi_i2l (nx := 12) (r1 := 0) (r2 := 0) (r3 := 0) rfl (by omega) ?_
  refine wi_S (rest := []) (as := [vl a0, vl 0, vl e2]) (nx := 15) (r1 := 210) (r2 := 19) (r3 := 0) rfl rfl rfl (of_decide_eq_true rfl) rfl rfl (of_decide_eq_true rfl) (of_decide_eq_true rfl) ?_
  refine wi_lload_n (i := 0) (e := a0) (nx := 1) (r1 := 0) (r2 := 0) (r3 := 0) rfl rfl ?_
  refine wi_lload_n (i := 2) (e := 0) (nx := 2) (r1 := 0) (r2 := 0) (r3 := 0) rfl rfl ?_
  refine wi_lcmp (a := a0) (e := 0) (nx := 3) (r1 := 0) (r2 := 0) (r3 := 0) rfl (by omega) (by omega) (fun r3 (fr3 : (r3 = -1 ∧ a0 < 0) ∨ (r3 = 0 ∧ a0 = 0) ∨ (r3 = 1 ∧ 0 < a0)) => ?_)
  refine wi_if (cd := .lt) (nx := 6) (r1 := 17) (r2 := 0) (r3 := 0) rfl (by omega) (fun (q4 : r3 < 0) => ?_) (fun (q4 : ¬ (r3 < 0)) => ?_)
  ·
    refine wi_iconst (n := 0) (nx := 18) (r1 := 0) (r2 := 0) (r3 := 0) rfl ?_
    refine wi_zreturn (nx := 19) (r1 := 0) (r2 := 0) (r3 := 0) rfl rfl (by omega) ?_
    refine wk_i ?_
    refine wi_zreturn (nx := 16) (r1 := 0) (r2 := 0) (r3 := 0) rfl rfl (by omega) ?_
    refine wk_i ?_
    refine wr_V (k0 := 236) (rest := []) (as := [.ref 236, vi 0]) (nx := 9) (r1 := 206) (r2 := 1) (r3 := 11) rfl rfl rfl (of_decide_eq_true rfl) rfl rfl (by decide) rfl rfl (of_decide_eq_true rfl) (of_decide_eq_true rfl) ?_
    refine wi_aload_n (i := 0) (x := 236) (nx := 1) (r1 := 0) (r2 := 0) (r3 := 0) rfl rfl ?_
    refine wi_iload_n (i := 1) (e := 0) (nx := 2) (r1 := 0) (r2 := 0) (r3 := 0) rfl rfl ?_
    refine wi_if (cd := .ne) (nx := 5) (r1 := 9) (r2 := 0) (r3 := 0) rfl (by omega) (fun (q5 : 0 ≠ 0) => by exfalso; omega) (fun (q5 : ¬ (0 ≠ 0)) => ?_)
    refine wi_iconst (n := 1) (nx := 6) (r1 := 0) (r2 := 0) (r3 := 0) rfl ?_
    refine wi_goto (nx := 9) (r1 := 10) (r2 := 0) (r3 := 0) rfl ?_
    refine wi_S (rest := [.ref 236]) (as := [vi 1]) (nx := 13) (r1 := 207) (r2 := 17) (r3 := 0) rfl rfl rfl (of_decide_eq_true rfl) rfl rfl (of_decide_eq_true rfl) (of_decide_eq_true rfl) ?_
    refine wi_iload_n (i := 0) (e := 1) (nx := 1) (r1 := 0) (r2 := 0) (r3 := 0) rfl rfl ?_
    refine wi_if (cd := .eq) (nx := 4) (r1 := 8) (r2 := 0) (r3 := 0) rfl (by omega) (fun (q6 : 1 = 0) => by exfalso; omega) (fun (q6 : ¬ (1 = 0)) => ?_)
    refine wi_iconst (n := 1) (nx := 5) (r1 := 0) (r2 := 0) (r3 := 0) rfl ?_
    refine wi_goto (nx := 8) (r1 := 9) (r2 := 0) (r3 := 0) rfl ?_
    refine wi_ireturn (nx := 10) (r1 := 0) (r2 := 0) (r3 := 0) rfl rfl ?_
    refine wk_i ?_
    refine wr_pf0 (k0 := 236) (x := 1) (bl := 0) (bh := 2) (nx := 16) (r1 := 11) (r2 := 0) (r3 := 0) rfl (by decide) rfl ⟨rfl, rfl⟩ rfl rfl g rfl (by omega) (fun h7 g7 w7 u7 => ?_)
    have F8 := F0.then rfl u7
    refine wi_iload_n (i := 1) (e := 0) (nx := 17) (r1 := 0) (r2 := 0) (r3 := 0) rfl rfl ?_
    refine wi_zreturn (nx := 18) (r1 := 0) (r2 := 0) (r3 := 0) rfl rfl (by omega) ?_
    refine wk_i ?_
    refine wi_if (cd := .eq) (nx := 12) (r1 := 20) (r2 := 0) (r3 := 0) rfl (by omega) (fun (q9 : 0 = 0) => ?_) (fun (q9 : ¬ (0 = 0)) => by exfalso; omega)
    refine wi_iconst (n := 0) (nx := 21) (r1 := 0) (r2 := 0) (r3 := 0) rfl ?_
    refine wi_ireturn (nx := 22) (r1 := 0) (r2 := 0) (r3 := 0) rfl rfl ?_
    exact k h7 0 g7 F8 (by omega)
  ·
    refine wi_lload_n (i := 0) (e := a0) (nx := 7) (r1 := 0) (r2 := 0) (r3 := 0) rfl rfl ?_
    refine wi_lload (i := 4) (e := e2) (nx := 9) (r1 := 0) (r2 := 0) (r3 := 0) rfl rfl ?_
    refine wi_lcmp (a := a0) (e := e2) (nx := 10) (r1 := 0) (r2 := 0) (r3 := 0) rfl (by omega) (by omega) (fun r5 (fr5 : (r5 = -1 ∧ a0 < e2) ∨ (r5 = 0 ∧ a0 = e2) ∨ (r5 = 1 ∧ e2 < a0)) => ?_)
    refine wi_if (cd := .gt) (nx := 13) (r1 := 17) (r2 := 0) (r3 := 0) rfl (by omega) (fun (q6 : 0 < r5) => ?_) (fun (q6 : ¬ (0 < r5)) => ?_)
    ·
      refine wi_iconst (n := 0) (nx := 18) (r1 := 0) (r2 := 0) (r3 := 0) rfl ?_
      refine wi_zreturn (nx := 19) (r1 := 0) (r2 := 0) (r3 := 0) rfl rfl (by omega) ?_
      refine wk_i ?_
      refine wi_zreturn (nx := 16) (r1 := 0) (r2 := 0) (r3 := 0) rfl rfl (by omega) ?_
      refine wk_i ?_
      refine wr_V (k0 := 236) (rest := []) (as := [.ref 236, vi 0]) (nx := 9) (r1 := 206) (r2 := 1) (r3 := 11) rfl rfl rfl (of_decide_eq_true rfl) rfl rfl (by decide) rfl rfl (of_decide_eq_true rfl) (of_decide_eq_true rfl) ?_
      refine wi_aload_n (i := 0) (x := 236) (nx := 1) (r1 := 0) (r2 := 0) (r3 := 0) rfl rfl ?_
      refine wi_iload_n (i := 1) (e := 0) (nx := 2) (r1 := 0) (r2 := 0) (r3 := 0) rfl rfl ?_
      refine wi_if (cd := .ne) (nx := 5) (r1 := 9) (r2 := 0) (r3 := 0) rfl (by omega) (fun (q7 : 0 ≠ 0) => by exfalso; omega) (fun (q7 : ¬ (0 ≠ 0)) => ?_)
      refine wi_iconst (n := 1) (nx := 6) (r1 := 0) (r2 := 0) (r3 := 0) rfl ?_
      refine wi_goto (nx := 9) (r1 := 10) (r2 := 0) (r3 := 0) rfl ?_
      refine wi_S (rest := [.ref 236]) (as := [vi 1]) (nx := 13) (r1 := 207) (r2 := 17) (r3 := 0) rfl rfl rfl (of_decide_eq_true rfl) rfl rfl (of_decide_eq_true rfl) (of_decide_eq_true rfl) ?_
      refine wi_iload_n (i := 0) (e := 1) (nx := 1) (r1 := 0) (r2 := 0) (r3 := 0) rfl rfl ?_
      refine wi_if (cd := .eq) (nx := 4) (r1 := 8) (r2 := 0) (r3 := 0) rfl (by omega) (fun (q8 : 1 = 0) => by exfalso; omega) (fun (q8 : ¬ (1 = 0)) => ?_)
      refine wi_iconst (n := 1) (nx := 5) (r1 := 0) (r2 := 0) (r3 := 0) rfl ?_
      refine wi_goto (nx := 8) (r1 := 9) (r2 := 0) (r3 := 0) rfl ?_
      refine wi_ireturn (nx := 10) (r1 := 0) (r2 := 0) (r3 := 0) rfl rfl ?_
      refine wk_i ?_
      refine wr_pf0 (k0 := 236) (x := 1) (bl := 0) (bh := 2) (nx := 16) (r1 := 11) (r2 := 0) (r3 := 0) rfl (by decide) rfl ⟨rfl, rfl⟩ rfl rfl g rfl (by omega) (fun h9 g9 w9 u9 => ?_)
      have F10 := F0.then rfl u9
      refine wi_iload_n (i := 1) (e := 0) (nx := 17) (r1 := 0) (r2 := 0) (r3 := 0) rfl rfl ?_
      refine wi_zreturn (nx := 18) (r1 := 0) (r2 := 0) (r3 := 0) rfl rfl (by omega) ?_
      refine wk_i ?_
      refine wi_if (cd := .eq) (nx := 12) (r1 := 20) (r2 := 0) (r3 := 0) rfl (by omega) (fun (q11 : 0 = 0) => ?_) (fun (q11 : ¬ (0 = 0)) => by exfalso; omega)
      refine wi_iconst (n := 0) (nx := 21) (r1 := 0) (r2 := 0) (r3 := 0) rfl ?_
      refine wi_ireturn (nx := 22) (r1 := 0) (r2 := 0) (r3 := 0) rfl rfl ?_
      exact k h9 0 g9 F10 (by omega)
    ·
      refine wi_iconst (n := 1) (nx := 14) (r1 := 0) (r2 := 0) (r3 := 0) rfl ?_
      refine wi_goto (nx := 17) (r1 := 18) (r2 := 0) (r3 := 0) rfl ?_
      refine wi_zreturn (nx := 19) (r1 := 0) (r2 := 0) (r3 := 0) rfl rfl (by omega) ?_
      refine wk_i ?_
      refine wi_zreturn (nx := 16) (r1 := 0) (r2 := 0) (r3 := 0) rfl rfl (by omega) ?_
      refine wk_i ?_
      refine wr_V (k0 := 236) (rest := []) (as := [.ref 236, vi 1]) (nx := 9) (r1 := 206) (r2 := 1) (r3 := 11) rfl rfl rfl (of_decide_eq_true rfl) rfl rfl (by decide) rfl rfl (of_decide_eq_true rfl) (of_decide_eq_true rfl) ?_
      refine wi_aload_n (i := 0) (x := 236) (nx := 1) (r1 := 0) (r2 := 0) (r3 := 0) rfl rfl ?_
      refine wi_iload_n (i := 1) (e := 1) (nx := 2) (r1 := 0) (r2 := 0) (r3 := 0) rfl rfl ?_
      refine wi_if (cd := .ne) (nx := 5) (r1 := 9) (r2 := 0) (r3 := 0) rfl (by omega) (fun (q7 : 1 ≠ 0) => ?_) (fun (q7 : ¬ (1 ≠ 0)) => by exfalso; omega)
      refine wi_iconst (n := 0) (nx := 10) (r1 := 0) (r2 := 0) (r3 := 0) rfl ?_
      refine wi_S (rest := [.ref 236]) (as := [vi 0]) (nx := 13) (r1 := 207) (r2 := 17) (r3 := 0) rfl rfl rfl (of_decide_eq_true rfl) rfl rfl (of_decide_eq_true rfl) (of_decide_eq_true rfl) ?_
      refine wi_iload_n (i := 0) (e := 0) (nx := 1) (r1 := 0) (r2 := 0) (r3 := 0) rfl rfl ?_
      refine wi_if (cd := .eq) (nx := 4) (r1 := 8) (r2 := 0) (r3 := 0) rfl (by omega) (fun (q8 : 0 = 0) => ?_) (fun (q8 : ¬ (0 = 0)) => by exfalso; omega)
      refine wi_iconst (n := 0) (nx := 9) (r1 := 0) (r2 := 0) (r3 := 0) rfl ?_
      refine wi_ireturn (nx := 10) (r1 := 0) (r2 := 0) (r3 := 0) rfl rfl ?_
      refine wk_i ?_
      refine wr_pf0 (k0 := 236) (x := 0) (bl := 0) (bh := 2) (nx := 16) (r1 := 11) (r2 := 0) (r3 := 0) rfl (by decide) rfl ⟨rfl, rfl⟩ rfl rfl g rfl (by omega) (fun h9 g9 w9 u9 => ?_)
      have F10 := F0.then rfl u9
      refine wi_iload_n (i := 1) (e := 1) (nx := 17) (r1 := 0) (r2 := 0) (r3 := 0) rfl rfl ?_
      refine wi_zreturn (nx := 18) (r1 := 0) (r2 := 0) (r3 := 0) rfl rfl (by omega) ?_
      refine wk_i ?_
      refine wi_if (cd := .eq) (nx := 12) (r1 := 20) (r2 := 0) (r3 := 0) rfl (by omega) (fun (q11 : 1 = 0) => by exfalso; omega) (fun (q11 : ¬ (1 = 0)) => ?_)
      refine wi_aload_n (i := 0) (x := 236) (nx := 13) (r1 := 0) (r2 := 0) (r3 := 0) rfl rfl ?_
      refine wi_iload_n (i := 1) (e := a0) (nx := 14) (r1 := 0) (r2 := 0) (r3 := 0) rfl rfl ?_
      refine wr_V (k0 := 236) (rest := []) (as := [.ref 236, vi a0]) (nx := 17) (r1 := 252) (r2 := 1) (r3 := 11) rfl rfl rfl (of_decide_eq_true rfl) rfl rfl (by decide) rfl rfl (of_decide_eq_true rfl) (of_decide_eq_true rfl) ?_
      refine ct_252_236 hcr  g9 a0 (by omega)  (fun z13  (fz13 : 0 ≤ z13 ∧ z13 ≤ 3) => ?_)
      refine wk_i ?_
      refine wi_goto (nx := 20) (r1 := 21) (r2 := 0) (r3 := 0) rfl ?_
      refine wi_ireturn (nx := 22) (r1 := 0) (r2 := 0) (r3 := 0) rfl rfl ?_
      exact k h9 z13 g9 F10 (by omega)
