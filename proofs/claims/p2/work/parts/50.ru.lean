-- method 314: Model.unloadsNow()I
set_option maxRecDepth 100000 in
set_option maxHeartbeats 100000000 in
theorem ct_314_236 {L : Nat} {xs : Nat → Int32} {d b c : Nat} {h : hp} {cr : Nat → Nat → Option Nat} {Q : hp_Q} (hcr : CR cr)  (g : GI h)   (pp0 : h 238 98 + h 238 99 + h 238 100 + h 238 101 + h 238 102 + h 238 106 = h 238 73) (pp1 : h 238 73 ≤ h 238 2) (pp2 : h 238 119 ≤ h 238 67) (pp3 : h 238 69 ≤ h 238 5) (pp4 : h 238 2 ≤ 12 * h 238 5) (k : ∀ (h2 : hp) (z0 : Int) , GI h2 → FR [(246, 246, none), (248, 248, none), (236, 236, some (32, 32)), (238, 238, some (43, 54)), (238, 238, some (55, 66)), (238, 238, some (67, 67)), (238, 238, some (68, 68)), (238, 238, some (69, 69)), (238, 238, some (70, 70)), (238, 238, some (71, 71)), (238, 238, some (72, 72)), (238, 238, some (74, 78)), (238, 238, some (80, 84)), (238, 238, some (86, 90)), (238, 238, some (92, 96)), (238, 238, some (98, 98)), (238, 238, some (99, 99)), (238, 238, some (100, 100)), (238, 238, some (101, 101)), (238, 238, some (102, 102)), (238, 238, some (103, 105)), (238, 238, some (106, 106)), (238, 238, some (107, 118)), (238, 238, some (119, 119)), (238, 238, some (120, 196)), (238, 238, some (121, 197)), (238, 238, some (122, 198)), (238, 238, some (123, 199)), (247, 247, some (0, 0)), (247, 247, some (1, 1)), (247, 247, some (2, 2)), (247, 247, some (3, 3))] h h2 → (0 ≤ z0 ∧ z0 ≤ 12) → (h2 238 98 + h2 238 99 + h2 238 100 + h2 238 101 + h2 238 102 + h2 238 106 = h2 238 73) → (h2 238 73 ≤ h2 238 2) → (h2 238 119 ≤ h2 238 67) → (h2 238 69 ≤ h2 238 5) → (h2 238 2 ≤ 12 * h2 238 5) → Q (.inl (some (vi z0))) (hp_w h2 cr) b c) : wp (md_xa (L, xs)) (d + 4) 314 (0, [(0, .ref 236)], [], hp_w h cr, b, c) Q := by
  have F0 : FR [(246, 246, none), (248, 248, none), (236, 236, some (32, 32)), (238, 238, some (43, 54)), (238, 238, some (55, 66)), (238, 238, some (67, 67)), (238, 238, some (68, 68)), (238, 238, some (69, 69)), (238, 238, some (70, 70)), (238, 238, some (71, 71)), (238, 238, some (72, 72)), (238, 238, some (74, 78)), (238, 238, some (80, 84)), (238, 238, some (86, 90)), (238, 238, some (92, 96)), (238, 238, some (98, 98)), (238, 238, some (99, 99)), (238, 238, some (100, 100)), (238, 238, some (101, 101)), (238, 238, some (102, 102)), (238, 238, some (103, 105)), (238, 238, some (106, 106)), (238, 238, some (107, 118)), (238, 238, some (119, 119)), (238, 238, some (120, 196)), (238, 238, some (121, 197)), (238, 238, some (122, 198)), (238, 238, some (123, 199)), (247, 247, some (0, 0)), (247, 247, some (1, 1)), (247, 247, some (2, 2)), (247, 247, some (3, 3))] h h := FR.refl
  have b1 := gi_b (lo := 0) (hi := 6) g 238 98 rfl
  have b2 := gi_b (lo := 0) (hi := 6) g 238 99 rfl
  have b3 := gi_b (lo := 0) (hi := 6) g 238 100 rfl
  have b4 := gi_b (lo := 0) (hi := 6) g 238 101 rfl
  have b5 := gi_b (lo := 0) (hi := 3) g 238 102 rfl
  have b6 := gi_b (lo := 0) (hi := 12) g 238 106 rfl
  have b7 := gi_b (lo := 0) (hi := 12) g 238 73 rfl
  have b8 := gi_b (lo := 0) (hi := 12) g 238 2 rfl
  have b9 := gi_b (lo := 0) (hi := 9999) g 238 119 rfl
  have b10 := gi_b (lo := 0) (hi := 9999) g 238 67 rfl
  have b11 := gi_b (lo := 0) (hi := 9) g 238 69 rfl
  have b12 := gi_b (lo := 0) (hi := 9) g 238 5 rfl
  refine wi_iconst (n := 0) (nx := 1) (r1 := 0) (r2 := 0) (r3 := 0) rfl ?_
  refine wi_istore_n (i := 1) (e := 0) (lo2 := [(1, vi 0), (0, .ref 236)]) (nx := 2) (r1 := 0) (r2 := 0) (r3 := 0) rfl rfl ?_
  refine wi_aload_n (i := 0) (x := 236) (nx := 3) (r1 := 0) (r2 := 0) (r3 := 0) rfl rfl ?_
  refine wr_V (k0 := 236) (rest := []) (as := [.ref 236]) (nx := 6) (r1 := 299) (r2 := 0) (r3 := 11) rfl rfl rfl (of_decide_eq_true rfl) rfl rfl (by decide) rfl rfl (of_decide_eq_true rfl) (of_decide_eq_true rfl) ?_
  refine ct_299_236 hcr  g   (show (h 238 98) + (h 238 99) + (h 238 100) + (h 238 101) + (h 238 102) + (h 238 106) = (h 238 73) by omega) (show (h 238 73) ≤ (h 238 2) by omega) (show (h 238 119) ≤ (h 238 67) by omega) (show (h 238 69) ≤ (h 238 5) by omega) (show (h 238 2) ≤ 12 * (h 238 5) by omega) (fun h13 z14 g13 u13 (fz14 : 0 ≤ z14 ∧ z14 ≤ 1000000) => ?_)
  have F15 := F0.then (by decide +kernel) u13
  refine wk_i ?_
  refine wi_istore_n (i := 2) (e := z14) (lo2 := [(2, vi z14), (1, vi 0), (0, .ref 236)]) (nx := 7) (r1 := 0) (r2 := 0) (r3 := 0) rfl rfl ?_
  refine wi_iconst (n := 1) (nx := 8) (r1 := 0) (r2 := 0) (r3 := 0) rfl ?_
  refine wi_istore_n (i := 3) (e := 1) (lo2 := [(3, vi 1), (2, vi z14), (1, vi 0), (0, .ref 236)]) (nx := 9) (r1 := 0) (r2 := 0) (r3 := 0) rfl rfl ?_
  refine wp.lo (lo := [(0, .ref 236), (1, vi 0), (3, vi 1)]) ⟨rfl, rfl, rfl, trivial⟩ rfl ?_
  refine wl_2 (fun x16 x17 h18 => GI h18 ∧ FR [(246, 246, none), (248, 248, none), (236, 236, some (32, 32)), (238, 238, some (43, 54)), (238, 238, some (55, 66)), (238, 238, some (67, 67)), (238, 238, some (68, 68)), (238, 238, some (69, 69)), (238, 238, some (70, 70)), (238, 238, some (71, 71)), (238, 238, some (72, 72)), (238, 238, some (74, 78)), (238, 238, some (80, 84)), (238, 238, some (86, 90)), (238, 238, some (92, 96)), (238, 238, some (98, 98)), (238, 238, some (99, 99)), (238, 238, some (100, 100)), (238, 238, some (101, 101)), (238, 238, some (102, 102)), (238, 238, some (103, 105)), (238, 238, some (106, 106)), (238, 238, some (107, 118)), (238, 238, some (119, 119)), (238, 238, some (120, 196)), (238, 238, some (121, 197)), (238, 238, some (122, 198)), (238, 238, some (123, 199)), (247, 247, some (0, 0)), (247, 247, some (1, 1)), (247, 247, some (2, 2)), (247, 247, some (3, 3))] h h18 ∧ FR [(238, 238, some (43, 54)), (238, 238, some (55, 66)), (238, 238, some (67, 67)), (238, 238, some (68, 68)), (238, 238, some (69, 69)), (238, 238, some (70, 70)), (238, 238, some (71, 71)), (238, 238, some (72, 72)), (238, 238, some (74, 78)), (238, 238, some (80, 84)), (238, 238, some (86, 90)), (238, 238, some (92, 96)), (238, 238, some (98, 98)), (238, 238, some (99, 99)), (238, 238, some (100, 100)), (238, 238, some (101, 101)), (238, 238, some (102, 102)), (238, 238, some (103, 105)), (238, 238, some (106, 106)), (238, 238, some (107, 118)), (238, 238, some (119, 119)), (238, 238, some (120, 196)), (238, 238, some (121, 197)), (238, 238, some (122, 198)), (238, 238, some (123, 199))] h13 h18 ∧ ((0 ≤ x16 ∧ x16 ≤ 12) ∧ (0 ≤ x17 ∧ x17 ≤ 1))) (fun x16 x17 h18 => ((12 : Int) + 1 - x16).toNat) (fun x16 x17 h18 => (9, [(0, .ref 236), (1, vi x16), (3, vi x17)], [], hp_w h18 cr, b, c)) ?_ 0 1 h13 ⟨g13, F15, FR.refl, (show (0 ≤ 0 ∧ 0 ≤ 12) ∧ (0 ≤ 1 ∧ 1 ≤ 1) by omega)⟩
  intro x16 x17 h18 ⟨g18, F19, u18, f18⟩ I18
  refine wi_iload_n (i := 3) (e := x17) (nx := 10) (r1 := 0) (r2 := 0) (r3 := 0) rfl rfl ?_
  refine wi_if (cd := .eq) (nx := 13) (r1 := 79) (r2 := 0) (r3 := 0) rfl (by omega) (fun (q20 : x17 = 0) => ?_) (fun (q20 : ¬ (x17 = 0)) => ?_)
  ·
    refine wi_iload_n (i := 1) (e := x16) (nx := 80) (r1 := 0) (r2 := 0) (r3 := 0) rfl rfl ?_
    refine wi_ireturn (nx := 81) (r1 := 0) (r2 := 0) (r3 := 0) rfl rfl ?_
    have b21 := gi_b (lo := 0) (hi := 6) g18 238 98 rfl
    have b22 := gi_b (lo := 0) (hi := 6) g18 238 99 rfl
    have b23 := gi_b (lo := 0) (hi := 6) g18 238 100 rfl
    have b24 := gi_b (lo := 0) (hi := 6) g18 238 101 rfl
    have b25 := gi_b (lo := 0) (hi := 3) g18 238 102 rfl
    have b26 := gi_b (lo := 0) (hi := 12) g18 238 106 rfl
    have e27 : h18 238 73 = h 238 73 := ((u18 238 73 rfl).trans (u13 238 73 rfl))
    have e28 : h18 238 2 = h 238 2 := ((u18 238 2 rfl).trans (u13 238 2 rfl))
    have b29 := gi_b (lo := 0) (hi := 9999) g18 238 119 rfl
    have b30 := gi_b (lo := 0) (hi := 9999) g18 238 67 rfl
    have b31 := gi_b (lo := 0) (hi := 9) g18 238 69 rfl
    have e32 : h18 238 5 = h 238 5 := ((u18 238 5 rfl).trans (u13 238 5 rfl))
    exact k h18 x16 g18 F19 (by omega) (show (h18 238 98) + (h18 238 99) + (h18 238 100) + (h18 238 101) + (h18 238 102) + (h18 238 106) = (h18 238 73) by omega) (show (h18 238 73) ≤ (h18 238 2) by omega) (show (h18 238 119) ≤ (h18 238 67) by omega) (show (h18 238 69) ≤ (h18 238 5) by omega) (show (h18 238 2) ≤ 12 * (h18 238 5) by omega)
  ·
    refine wi_iload_n (i := 1) (e := x16) (nx := 14) (r1 := 0) (r2 := 0) (r3 := 0) rfl rfl ?_
    refine wi_aload_n (i := 0) (x := 236) (nx := 15) (r1 := 0) (r2 := 0) (r3 := 0) rfl rfl ?_
    have b21 := gi_b (lo := 0) (hi := 12) g13 236 32 rfl
    refine wr_gi0 (k0 := 236) (x := h13 236 32) (nx := 18) (r1 := 11) (r2 := 32) (r3 := 0) rfl rfl (by decide) rfl ⟨rfl, rfl⟩ rfl (u18 236 32 rfl) ?_
    refine wi_icmp (cd := .ge) (nx := 21) (r1 := 79) (r2 := 0) (r3 := 0) rfl (by omega) (by omega) (fun (q22 : (h13 236 32) ≤ x16) => ?_) (fun (q22 : ¬ ((h13 236 32) ≤ x16)) => ?_)
    ·
      refine wi_iload_n (i := 1) (e := x16) (nx := 80) (r1 := 0) (r2 := 0) (r3 := 0) rfl rfl ?_
      refine wi_ireturn (nx := 81) (r1 := 0) (r2 := 0) (r3 := 0) rfl rfl ?_
      have b23 := gi_b (lo := 0) (hi := 6) g18 238 98 rfl
      have b24 := gi_b (lo := 0) (hi := 6) g18 238 99 rfl
      have b25 := gi_b (lo := 0) (hi := 6) g18 238 100 rfl
      have b26 := gi_b (lo := 0) (hi := 6) g18 238 101 rfl
      have b27 := gi_b (lo := 0) (hi := 3) g18 238 102 rfl
      have b28 := gi_b (lo := 0) (hi := 12) g18 238 106 rfl
      have e29 : h18 238 73 = h 238 73 := ((u18 238 73 rfl).trans (u13 238 73 rfl))
      have e30 : h18 238 2 = h 238 2 := ((u18 238 2 rfl).trans (u13 238 2 rfl))
      have b31 := gi_b (lo := 0) (hi := 9999) g18 238 119 rfl
      have b32 := gi_b (lo := 0) (hi := 9999) g18 238 67 rfl
      have b33 := gi_b (lo := 0) (hi := 9) g18 238 69 rfl
      have e34 : h18 238 5 = h 238 5 := ((u18 238 5 rfl).trans (u13 238 5 rfl))
      exact k h18 x16 g18 F19 (by omega) (show (h18 238 98) + (h18 238 99) + (h18 238 100) + (h18 238 101) + (h18 238 102) + (h18 238 106) = (h18 238 73) by omega) (show (h18 238 73) ≤ (h18 238 2) by omega) (show (h18 238 119) ≤ (h18 238 67) by omega) (show (h18 238 69) ≤ (h18 238 5) by omega) (show (h18 238 2) ≤ 12 * (h18 238 5) by omega)
    ·
      refine wi_aload_n (i := 0) (x := 236) (nx := 22) (r1 := 0) (r2 := 0) (r3 := 0) rfl rfl ?_
      refine wi_aload_n (i := 0) (x := 236) (nx := 23) (r1 := 0) (r2 := 0) (r3 := 0) rfl rfl ?_
      refine wr_gr (k0 := 236) (x := 248) (nx := 26) (r1 := 11) (r2 := 31) (r3 := 0) rfl rfl (by decide) rfl ⟨rfl, rfl⟩ rfl ?_
      refine wi_iload_n (i := 1) (e := x16) (nx := 27) (r1 := 0) (r2 := 0) (r3 := 0) rfl rfl ?_
      obtain ⟨i23, ei23⟩ : ∃ q : Nat, x16 = (q : Int) := ⟨(x16).toNat, by omega⟩
      have b24 := gi_b (lo := 0) (hi := 3) g13 248 i23 rfl
      refine wr_ia (k0 := 248) (a := x16) (f := i23) (x := h13 248 i23) (nx := 28) (r1 := 0) (r2 := 0) (r3 := 0) rfl (by decide) rfl (by omega) (by omega) (by decide) (u18 248 i23 (fn_a (by omega) (fn_a (by omega) (fn_a (by omega) (fn_a (by omega) (fn_a (by omega) (fn_a (by omega) (fn_a (by omega) (fn_a (by omega) (fn_a (by omega) (fn_a (by omega) (fn_a (by omega) (fn_a (by omega) (fn_a (by omega) (fn_a (by omega) (fn_a (by omega) (fn_a (by omega) (fn_a (by omega) (fn_a (by omega) (fn_a (by omega) (fn_a (by omega) (fn_a (by omega) (fn_a (by omega) (fn_a (by omega) (fn_a (by omega) (fn_a (by omega) fn_0)))))))))))))))))))))))))) ?_
      rcases (show (h13 248 i23) = 0 ∨ (h13 248 i23) = 1 ∨ (h13 248 i23) = 2 ∨ (h13 248 i23) = 3 by omega) with q25 | q25 | q25 | q25
      ·
        rw [q25]
        refine wr_V (k0 := 236) (rest := []) (as := [.ref 236, vi 0]) (nx := 31) (r1 := 267) (r2 := 1) (r3 := 11) rfl rfl rfl (of_decide_eq_true rfl) rfl rfl (by decide) rfl rfl (of_decide_eq_true rfl) (of_decide_eq_true rfl) ?_
        refine ct_267_236_L0 hcr  g18    (fun z27  (fz27 : 0 ≤ z27 ∧ z27 ≤ 1) (p26_0 : z27 = 0 ∨ 1 ≤ (h18 238 98)) (p26_1 : z27 = 0 ∨ (h18 238 67) ≤ 9998) (p26_2 : z27 = 0 ∨ (1 ≤ (h18 238 (43 + (h18 238 74).toNat)) ∧ (h18 238 102) < (h18 238 7)) ∨ ((h18 238 (43 + (h18 238 74).toNat)) ≤ 0 ∧ (h18 238 74) - (h18 238 106) ≤ (h18 238 3))) y26_0 => ?_)
        have b28 := gi_b (lo := 0) (hi := 6) g18 238 98 rfl
        have b29 := gi_b (lo := 0) (hi := 9999) g18 238 67 rfl
        have b30 := gi_b (lo := 0) (hi := 11) g18 238 74 rfl
        obtain ⟨i31, ei31⟩ : ∃ q : Nat, (43 + h18 238 74) = (q : Int) := ⟨(43 + h18 238 74).toNat, by omega⟩
        have b32 := gi_b (lo := 0) (hi := 999) g18 238 i31 (gi_rg 43 12 (fun _ => rfl) (by decide +kernel) (by omega))
        have e33 : h18 238 (43 + (h18 238 74).toNat) = h18 238 i31 := by rw [show 43 + (h18 238 74).toNat = i31 by omega]
        have b34 := gi_b (lo := 0) (hi := 3) g18 238 102 rfl
        have b35 := gi_b (lo := 0) (hi := 3) g 238 7 rfl
        have e36 : h18 238 7 = h 238 7 := ((u18 238 7 rfl).trans (u13 238 7 rfl))
        have b37 := gi_b (lo := 0) (hi := 12) g18 238 106 rfl
        have b38 := gi_b (lo := 0) (hi := 999) g 238 3 rfl
        have e39 : h18 238 3 = h 238 3 := ((u18 238 3 rfl).trans (u13 238 3 rfl))
        refine wk_i ?_
        refine wi_if (cd := .eq) (nx := 34) (r1 := 79) (r2 := 0) (r3 := 0) rfl (by omega) (fun (q40 : z27 = 0) => ?_) (fun (q40 : ¬ (z27 = 0)) => ?_)
        ·
          refine wi_iload_n (i := 1) (e := x16) (nx := 80) (r1 := 0) (r2 := 0) (r3 := 0) rfl rfl ?_
          refine wi_ireturn (nx := 81) (r1 := 0) (r2 := 0) (r3 := 0) rfl rfl ?_
          have b41 := gi_b (lo := 0) (hi := 6) g18 238 99 rfl
          have b42 := gi_b (lo := 0) (hi := 6) g18 238 100 rfl
          have b43 := gi_b (lo := 0) (hi := 6) g18 238 101 rfl
          have e44 : h18 238 73 = h 238 73 := ((u18 238 73 rfl).trans (u13 238 73 rfl))
          have e45 : h18 238 2 = h 238 2 := ((u18 238 2 rfl).trans (u13 238 2 rfl))
          have b46 := gi_b (lo := 0) (hi := 9999) g18 238 119 rfl
          have b47 := gi_b (lo := 0) (hi := 9) g18 238 69 rfl
          have e48 : h18 238 5 = h 238 5 := ((u18 238 5 rfl).trans (u13 238 5 rfl))
          exact k h18 x16 g18 F19 (by omega) (show (h18 238 98) + (h18 238 99) + (h18 238 100) + (h18 238 101) + (h18 238 102) + (h18 238 106) = (h18 238 73) by omega) (show (h18 238 73) ≤ (h18 238 2) by omega) (show (h18 238 119) ≤ (h18 238 67) by omega) (show (h18 238 69) ≤ (h18 238 5) by omega) (show (h18 238 2) ≤ 12 * (h18 238 5) by omega)
        ·
          refine wi_aload_n (i := 0) (x := 236) (nx := 35) (r1 := 0) (r2 := 0) (r3 := 0) rfl rfl ?_
          refine wr_gr (k0 := 236) (x := 238) (nx := 38) (r1 := 11) (r2 := 13) (r3 := 0) rfl rfl (by decide) rfl ⟨rfl, rfl⟩ rfl ?_
          refine wi_bipush (n := 106) (nx := 40) (r1 := 0) (r2 := 0) (r3 := 0) rfl (by decide) ?_
          refine wr_ia (k0 := 238) (a := 106) (f := 106) (x := h18 238 106) (nx := 41) (r1 := 0) (r2 := 0) (r3 := 0) rfl (by decide) rfl (by omega) (by omega) (by decide) rfl ?_
          refine wi_istore (i := 4) (e := h18 238 106) (lo2 := [(4, vi (h18 238 106)), (0, .ref 236), (1, vi x16), (3, vi x17)]) (nx := 43) (r1 := 0) (r2 := 0) (r3 := 0) rfl rfl ?_
          refine wi_aload_n (i := 0) (x := 236) (nx := 44) (r1 := 0) (r2 := 0) (r3 := 0) rfl rfl ?_
          refine wi_aload_n (i := 0) (x := 236) (nx := 45) (r1 := 0) (r2 := 0) (r3 := 0) rfl rfl ?_
          refine wr_gr (k0 := 236) (x := 248) (nx := 48) (r1 := 11) (r2 := 31) (r3 := 0) rfl rfl (by decide) rfl ⟨rfl, rfl⟩ rfl ?_
          refine wi_iload_n (i := 1) (e := x16) (nx := 49) (r1 := 0) (r2 := 0) (r3 := 0) rfl rfl ?_
          refine wr_ia (k0 := 248) (a := x16) (f := i23) (x := h13 248 i23) (nx := 50) (r1 := 0) (r2 := 0) (r3 := 0) rfl (by decide) rfl (by omega) (by omega) (by decide) (u18 248 i23 (fn_a (by omega) (fn_a (by omega) (fn_a (by omega) (fn_a (by omega) (fn_a (by omega) (fn_a (by omega) (fn_a (by omega) (fn_a (by omega) (fn_a (by omega) (fn_a (by omega) (fn_a (by omega) (fn_a (by omega) (fn_a (by omega) (fn_a (by omega) (fn_a (by omega) (fn_a (by omega) (fn_a (by omega) (fn_a (by omega) (fn_a (by omega) (fn_a (by omega) (fn_a (by omega) (fn_a (by omega) (fn_a (by omega) (fn_a (by omega) (fn_a (by omega) fn_0)))))))))))))))))))))))))) ?_
          rcases (show (h13 248 i23) = 0 by omega) with q41
          ·
            rw [q41]
            refine wr_V (k0 := 236) (rest := []) (as := [.ref 236, vi 0]) (nx := 53) (r1 := 282) (r2 := 1) (r3 := 11) rfl rfl rfl (of_decide_eq_true rfl) rfl rfl (by decide) rfl rfl (of_decide_eq_true rfl) (of_decide_eq_true rfl) ?_
            have b43 := gi_b (lo := 0) (hi := 6) g18 238 99 rfl
            have b44 := gi_b (lo := 0) (hi := 6) g18 238 100 rfl
            have b45 := gi_b (lo := 0) (hi := 6) g18 238 101 rfl
            have e46 : h18 238 73 = h 238 73 := ((u18 238 73 rfl).trans (u13 238 73 rfl))
            have e47 : h18 238 2 = h 238 2 := ((u18 238 2 rfl).trans (u13 238 2 rfl))
            have b48 := gi_b (lo := 0) (hi := 9999) g18 238 119 rfl
            have b49 := gi_b (lo := 0) (hi := 9) g18 238 69 rfl
            have e50 : h18 238 5 = h 238 5 := ((u18 238 5 rfl).trans (u13 238 5 rfl))
            refine ct_282_236_L0 hcr  g18   (show (h18 238 98) + (h18 238 99) + (h18 238 100) + (h18 238 101) + (h18 238 102) + (h18 238 106) = (h18 238 73) by omega) (show (h18 238 73) ≤ (h18 238 2) by omega) (show (h18 238 119) ≤ (h18 238 67) by omega) (show (h18 238 69) ≤ (h18 238 5) by omega) (show (h18 238 2) ≤ 12 * (h18 238 5) by omega) (show 1 ≤ (h18 238 98) by omega) (show (h18 238 67) ≤ 9998 by omega) (show (h18 238 102) ≤ 2 ∨ (h18 238 (43 + (h18 238 74).toNat)) ≤ 0 by omega) (fun h42 z51 g42 u42 (fz51 : 0 ≤ z51 ∧ z51 ≤ 11) (p42_0 : (h42 238 98) + (h42 238 99) + (h42 238 100) + (h42 238 101) + (h42 238 102) + (h42 238 106) = (h42 238 73)) (p42_1 : (h42 238 73) ≤ (h42 238 2)) (p42_2 : (h42 238 119) ≤ (h42 238 67)) (p42_3 : (h42 238 69) ≤ (h42 238 5)) (p42_4 : (h42 238 2) ≤ 12 * (h42 238 5)) => ?_)
            have F52 := F19.then (by decide +kernel) u42
            have F53 := u18.then (by decide +kernel) u42
            have b54 := gi_b (lo := 0) (hi := 6) g42 238 98 rfl
            have e55 : h42 238 99 = h18 238 99 := (u42 238 99 rfl)
            have e56 : h42 238 100 = h18 238 100 := (u42 238 100 rfl)
            have e57 : h42 238 101 = h18 238 101 := (u42 238 101 rfl)
            have b58 := gi_b (lo := 0) (hi := 3) g42 238 102 rfl
            have b59 := gi_b (lo := 0) (hi := 12) g42 238 106 rfl
            have e60 : h42 238 73 = h 238 73 := ((u42 238 73 rfl).trans ((u18 238 73 rfl).trans (u13 238 73 rfl)))
            have e61 : h42 238 2 = h 238 2 := ((u42 238 2 rfl).trans ((u18 238 2 rfl).trans (u13 238 2 rfl)))
            have b62 := gi_b (lo := 0) (hi := 9999) g42 238 119 rfl
            have b63 := gi_b (lo := 0) (hi := 9999) g42 238 67 rfl
            have b64 := gi_b (lo := 0) (hi := 9) g42 238 69 rfl
            have e65 : h42 238 5 = h 238 5 := ((u42 238 5 rfl).trans ((u18 238 5 rfl).trans (u13 238 5 rfl)))
            refine wk_i ?_
            refine wi_istore (i := 5) (e := z51) (lo2 := [(5, vi z51), (4, vi (h18 238 106)), (0, .ref 236), (1, vi x16), (3, vi x17)]) (nx := 55) (r1 := 0) (r2 := 0) (r3 := 0) rfl rfl ?_
            refine wr_iinc (i := 1) (n := 1) (v := x16) (fun e66 => [(1, vi e66), (5, vi z51), (4, vi (h18 238 106)), (0, .ref 236), (3, vi x17)]) (nx := 58) (r1 := 0) (r2 := 0) (r3 := 0) rfl rfl (fun _ => rfl) (fun e66 (fe66 : e66 = x16 + 1) => ?_)
            refine wi_aload_n (i := 0) (x := 236) (nx := 59) (r1 := 0) (r2 := 0) (r3 := 0) rfl rfl ?_
            refine wr_gr (k0 := 236) (x := 238) (nx := 62) (r1 := 11) (r2 := 13) (r3 := 0) rfl rfl (by decide) rfl ⟨rfl, rfl⟩ rfl ?_
            refine wi_bipush (n := 106) (nx := 64) (r1 := 0) (r2 := 0) (r3 := 0) rfl (by decide) ?_
            refine wr_ia (k0 := 238) (a := 106) (f := 106) (x := h42 238 106) (nx := 65) (r1 := 0) (r2 := 0) (r3 := 0) rfl (by decide) rfl (by omega) (by omega) (by decide) rfl ?_
            refine wi_iload (i := 4) (e := h18 238 106) (nx := 67) (r1 := 0) (r2 := 0) (r3 := 0) rfl rfl ?_
            refine wi_icmp (cd := .le) (nx := 70) (r1 := 74) (r2 := 0) (r3 := 0) rfl (by omega) (by omega) (fun (q67 : (h42 238 106) ≤ (h18 238 106)) => ?_) (fun (q67 : ¬ ((h42 238 106) ≤ (h18 238 106))) => ?_)
            ·
              refine wi_iconst (n := 0) (nx := 75) (r1 := 0) (r2 := 0) (r3 := 0) rfl ?_
              refine wi_istore_n (i := 3) (e := 0) (lo2 := [(3, vi 0), (1, vi e66), (5, vi z51), (4, vi (h18 238 106)), (0, .ref 236)]) (nx := 76) (r1 := 0) (r2 := 0) (r3 := 0) rfl rfl ?_
              refine wi_goto (nx := 79) (r1 := 9) (r2 := 0) (r3 := 0) rfl ?_
              refine wp.lo (lo := [(0, .ref 236), (1, vi e66), (3, vi 0)]) ⟨rfl, rfl, rfl, trivial⟩ rfl ?_
              exact I18 e66 0 h42 ⟨g42, F52, F53, (show (0 ≤ e66 ∧ e66 ≤ 12) ∧ (0 ≤ 0 ∧ 0 ≤ 1) by omega)⟩ (show ((12 : Int) + 1 - e66).toNat < ((12 : Int) + 1 - x16).toNat by omega)
            ·
              refine wi_iconst (n := 1) (nx := 71) (r1 := 0) (r2 := 0) (r3 := 0) rfl ?_
              refine wi_goto (nx := 74) (r1 := 75) (r2 := 0) (r3 := 0) rfl ?_
              refine wi_istore_n (i := 3) (e := 1) (lo2 := [(3, vi 1), (1, vi e66), (5, vi z51), (4, vi (h18 238 106)), (0, .ref 236)]) (nx := 76) (r1 := 0) (r2 := 0) (r3 := 0) rfl rfl ?_
              refine wi_goto (nx := 79) (r1 := 9) (r2 := 0) (r3 := 0) rfl ?_
              refine wp.lo (lo := [(0, .ref 236), (1, vi e66), (3, vi 1)]) ⟨rfl, rfl, rfl, trivial⟩ rfl ?_
              exact I18 e66 1 h42 ⟨g42, F52, F53, (show (0 ≤ e66 ∧ e66 ≤ 12) ∧ (0 ≤ 1 ∧ 1 ≤ 1) by omega)⟩ (show ((12 : Int) + 1 - e66).toNat < ((12 : Int) + 1 - x16).toNat by omega)
      ·
        rw [q25]
        refine wr_V (k0 := 236) (rest := []) (as := [.ref 236, vi 1]) (nx := 31) (r1 := 267) (r2 := 1) (r3 := 11) rfl rfl rfl (of_decide_eq_true rfl) rfl rfl (by decide) rfl rfl (of_decide_eq_true rfl) (of_decide_eq_true rfl) ?_
        refine ct_267_236_L1 hcr  g18    (fun z27  (fz27 : 0 ≤ z27 ∧ z27 ≤ 1) (p26_0 : z27 = 0 ∨ 1 ≤ (h18 238 99)) (p26_1 : z27 = 0 ∨ (h18 238 67) ≤ 9998) (p26_2 : z27 = 0 ∨ (1 ≤ (h18 238 (43 + (h18 238 80).toNat)) ∧ (h18 238 102) < (h18 238 7)) ∨ ((h18 238 (43 + (h18 238 80).toNat)) ≤ 0 ∧ (h18 238 80) - (h18 238 106) ≤ (h18 238 3))) y26_0 => ?_)
        have b28 := gi_b (lo := 0) (hi := 6) g18 238 99 rfl
        have b29 := gi_b (lo := 0) (hi := 9999) g18 238 67 rfl
        have b30 := gi_b (lo := 0) (hi := 11) g18 238 80 rfl
        obtain ⟨i31, ei31⟩ : ∃ q : Nat, (43 + h18 238 80) = (q : Int) := ⟨(43 + h18 238 80).toNat, by omega⟩
        have b32 := gi_b (lo := 0) (hi := 999) g18 238 i31 (gi_rg 43 12 (fun _ => rfl) (by decide +kernel) (by omega))
        have e33 : h18 238 (43 + (h18 238 80).toNat) = h18 238 i31 := by rw [show 43 + (h18 238 80).toNat = i31 by omega]
        have b34 := gi_b (lo := 0) (hi := 3) g18 238 102 rfl
        have b35 := gi_b (lo := 0) (hi := 3) g 238 7 rfl
        have e36 : h18 238 7 = h 238 7 := ((u18 238 7 rfl).trans (u13 238 7 rfl))
        have b37 := gi_b (lo := 0) (hi := 12) g18 238 106 rfl
        have b38 := gi_b (lo := 0) (hi := 999) g 238 3 rfl
        have e39 : h18 238 3 = h 238 3 := ((u18 238 3 rfl).trans (u13 238 3 rfl))
        refine wk_i ?_
        refine wi_if (cd := .eq) (nx := 34) (r1 := 79) (r2 := 0) (r3 := 0) rfl (by omega) (fun (q40 : z27 = 0) => ?_) (fun (q40 : ¬ (z27 = 0)) => ?_)
        ·
          refine wi_iload_n (i := 1) (e := x16) (nx := 80) (r1 := 0) (r2 := 0) (r3 := 0) rfl rfl ?_
          refine wi_ireturn (nx := 81) (r1 := 0) (r2 := 0) (r3 := 0) rfl rfl ?_
          have b41 := gi_b (lo := 0) (hi := 6) g18 238 98 rfl
          have b42 := gi_b (lo := 0) (hi := 6) g18 238 100 rfl
          have b43 := gi_b (lo := 0) (hi := 6) g18 238 101 rfl
          have e44 : h18 238 73 = h 238 73 := ((u18 238 73 rfl).trans (u13 238 73 rfl))
          have e45 : h18 238 2 = h 238 2 := ((u18 238 2 rfl).trans (u13 238 2 rfl))
          have b46 := gi_b (lo := 0) (hi := 9999) g18 238 119 rfl
          have b47 := gi_b (lo := 0) (hi := 9) g18 238 69 rfl
          have e48 : h18 238 5 = h 238 5 := ((u18 238 5 rfl).trans (u13 238 5 rfl))
          exact k h18 x16 g18 F19 (by omega) (show (h18 238 98) + (h18 238 99) + (h18 238 100) + (h18 238 101) + (h18 238 102) + (h18 238 106) = (h18 238 73) by omega) (show (h18 238 73) ≤ (h18 238 2) by omega) (show (h18 238 119) ≤ (h18 238 67) by omega) (show (h18 238 69) ≤ (h18 238 5) by omega) (show (h18 238 2) ≤ 12 * (h18 238 5) by omega)
        ·
          refine wi_aload_n (i := 0) (x := 236) (nx := 35) (r1 := 0) (r2 := 0) (r3 := 0) rfl rfl ?_
          refine wr_gr (k0 := 236) (x := 238) (nx := 38) (r1 := 11) (r2 := 13) (r3 := 0) rfl rfl (by decide) rfl ⟨rfl, rfl⟩ rfl ?_
          refine wi_bipush (n := 106) (nx := 40) (r1 := 0) (r2 := 0) (r3 := 0) rfl (by decide) ?_
          refine wr_ia (k0 := 238) (a := 106) (f := 106) (x := h18 238 106) (nx := 41) (r1 := 0) (r2 := 0) (r3 := 0) rfl (by decide) rfl (by omega) (by omega) (by decide) rfl ?_
          refine wi_istore (i := 4) (e := h18 238 106) (lo2 := [(4, vi (h18 238 106)), (0, .ref 236), (1, vi x16), (3, vi x17)]) (nx := 43) (r1 := 0) (r2 := 0) (r3 := 0) rfl rfl ?_
          refine wi_aload_n (i := 0) (x := 236) (nx := 44) (r1 := 0) (r2 := 0) (r3 := 0) rfl rfl ?_
          refine wi_aload_n (i := 0) (x := 236) (nx := 45) (r1 := 0) (r2 := 0) (r3 := 0) rfl rfl ?_
          refine wr_gr (k0 := 236) (x := 248) (nx := 48) (r1 := 11) (r2 := 31) (r3 := 0) rfl rfl (by decide) rfl ⟨rfl, rfl⟩ rfl ?_
          refine wi_iload_n (i := 1) (e := x16) (nx := 49) (r1 := 0) (r2 := 0) (r3 := 0) rfl rfl ?_
          refine wr_ia (k0 := 248) (a := x16) (f := i23) (x := h13 248 i23) (nx := 50) (r1 := 0) (r2 := 0) (r3 := 0) rfl (by decide) rfl (by omega) (by omega) (by decide) (u18 248 i23 (fn_a (by omega) (fn_a (by omega) (fn_a (by omega) (fn_a (by omega) (fn_a (by omega) (fn_a (by omega) (fn_a (by omega) (fn_a (by omega) (fn_a (by omega) (fn_a (by omega) (fn_a (by omega) (fn_a (by omega) (fn_a (by omega) (fn_a (by omega) (fn_a (by omega) (fn_a (by omega) (fn_a (by omega) (fn_a (by omega) (fn_a (by omega) (fn_a (by omega) (fn_a (by omega) (fn_a (by omega) (fn_a (by omega) (fn_a (by omega) (fn_a (by omega) fn_0)))))))))))))))))))))))))) ?_
          rcases (show (h13 248 i23) = 1 by omega) with q41
          ·
            rw [q41]
            refine wr_V (k0 := 236) (rest := []) (as := [.ref 236, vi 1]) (nx := 53) (r1 := 282) (r2 := 1) (r3 := 11) rfl rfl rfl (of_decide_eq_true rfl) rfl rfl (by decide) rfl rfl (of_decide_eq_true rfl) (of_decide_eq_true rfl) ?_
            have b43 := gi_b (lo := 0) (hi := 6) g18 238 98 rfl
            have b44 := gi_b (lo := 0) (hi := 6) g18 238 100 rfl
            have b45 := gi_b (lo := 0) (hi := 6) g18 238 101 rfl
            have e46 : h18 238 73 = h 238 73 := ((u18 238 73 rfl).trans (u13 238 73 rfl))
            have e47 : h18 238 2 = h 238 2 := ((u18 238 2 rfl).trans (u13 238 2 rfl))
            have b48 := gi_b (lo := 0) (hi := 9999) g18 238 119 rfl
            have b49 := gi_b (lo := 0) (hi := 9) g18 238 69 rfl
            have e50 : h18 238 5 = h 238 5 := ((u18 238 5 rfl).trans (u13 238 5 rfl))
            refine ct_282_236_L1 hcr  g18   (show (h18 238 98) + (h18 238 99) + (h18 238 100) + (h18 238 101) + (h18 238 102) + (h18 238 106) = (h18 238 73) by omega) (show (h18 238 73) ≤ (h18 238 2) by omega) (show (h18 238 119) ≤ (h18 238 67) by omega) (show (h18 238 69) ≤ (h18 238 5) by omega) (show (h18 238 2) ≤ 12 * (h18 238 5) by omega) (show 1 ≤ (h18 238 99) by omega) (show (h18 238 67) ≤ 9998 by omega) (show (h18 238 102) ≤ 2 ∨ (h18 238 (43 + (h18 238 80).toNat)) ≤ 0 by omega) (fun h42 z51 g42 u42 (fz51 : 0 ≤ z51 ∧ z51 ≤ 11) (p42_0 : (h42 238 98) + (h42 238 99) + (h42 238 100) + (h42 238 101) + (h42 238 102) + (h42 238 106) = (h42 238 73)) (p42_1 : (h42 238 73) ≤ (h42 238 2)) (p42_2 : (h42 238 119) ≤ (h42 238 67)) (p42_3 : (h42 238 69) ≤ (h42 238 5)) (p42_4 : (h42 238 2) ≤ 12 * (h42 238 5)) => ?_)
            have F52 := F19.then (by decide +kernel) u42
            have F53 := u18.then (by decide +kernel) u42
            have e54 : h42 238 98 = h18 238 98 := (u42 238 98 rfl)
            have b55 := gi_b (lo := 0) (hi := 6) g42 238 99 rfl
            have e56 : h42 238 100 = h18 238 100 := (u42 238 100 rfl)
            have e57 : h42 238 101 = h18 238 101 := (u42 238 101 rfl)
            have b58 := gi_b (lo := 0) (hi := 3) g42 238 102 rfl
            have b59 := gi_b (lo := 0) (hi := 12) g42 238 106 rfl
            have e60 : h42 238 73 = h 238 73 := ((u42 238 73 rfl).trans ((u18 238 73 rfl).trans (u13 238 73 rfl)))
            have e61 : h42 238 2 = h 238 2 := ((u42 238 2 rfl).trans ((u18 238 2 rfl).trans (u13 238 2 rfl)))
            have b62 := gi_b (lo := 0) (hi := 9999) g42 238 119 rfl
            have b63 := gi_b (lo := 0) (hi := 9999) g42 238 67 rfl
            have b64 := gi_b (lo := 0) (hi := 9) g42 238 69 rfl
            have e65 : h42 238 5 = h 238 5 := ((u42 238 5 rfl).trans ((u18 238 5 rfl).trans (u13 238 5 rfl)))
            refine wk_i ?_
            refine wi_istore (i := 5) (e := z51) (lo2 := [(5, vi z51), (4, vi (h18 238 106)), (0, .ref 236), (1, vi x16), (3, vi x17)]) (nx := 55) (r1 := 0) (r2 := 0) (r3 := 0) rfl rfl ?_
            refine wr_iinc (i := 1) (n := 1) (v := x16) (fun e66 => [(1, vi e66), (5, vi z51), (4, vi (h18 238 106)), (0, .ref 236), (3, vi x17)]) (nx := 58) (r1 := 0) (r2 := 0) (r3 := 0) rfl rfl (fun _ => rfl) (fun e66 (fe66 : e66 = x16 + 1) => ?_)
            refine wi_aload_n (i := 0) (x := 236) (nx := 59) (r1 := 0) (r2 := 0) (r3 := 0) rfl rfl ?_
            refine wr_gr (k0 := 236) (x := 238) (nx := 62) (r1 := 11) (r2 := 13) (r3 := 0) rfl rfl (by decide) rfl ⟨rfl, rfl⟩ rfl ?_
            refine wi_bipush (n := 106) (nx := 64) (r1 := 0) (r2 := 0) (r3 := 0) rfl (by decide) ?_
            refine wr_ia (k0 := 238) (a := 106) (f := 106) (x := h42 238 106) (nx := 65) (r1 := 0) (r2 := 0) (r3 := 0) rfl (by decide) rfl (by omega) (by omega) (by decide) rfl ?_
            refine wi_iload (i := 4) (e := h18 238 106) (nx := 67) (r1 := 0) (r2 := 0) (r3 := 0) rfl rfl ?_
            refine wi_icmp (cd := .le) (nx := 70) (r1 := 74) (r2 := 0) (r3 := 0) rfl (by omega) (by omega) (fun (q67 : (h42 238 106) ≤ (h18 238 106)) => ?_) (fun (q67 : ¬ ((h42 238 106) ≤ (h18 238 106))) => ?_)
            ·
              refine wi_iconst (n := 0) (nx := 75) (r1 := 0) (r2 := 0) (r3 := 0) rfl ?_
              refine wi_istore_n (i := 3) (e := 0) (lo2 := [(3, vi 0), (1, vi e66), (5, vi z51), (4, vi (h18 238 106)), (0, .ref 236)]) (nx := 76) (r1 := 0) (r2 := 0) (r3 := 0) rfl rfl ?_
              refine wi_goto (nx := 79) (r1 := 9) (r2 := 0) (r3 := 0) rfl ?_
              refine wp.lo (lo := [(0, .ref 236), (1, vi e66), (3, vi 0)]) ⟨rfl, rfl, rfl, trivial⟩ rfl ?_
              exact I18 e66 0 h42 ⟨g42, F52, F53, (show (0 ≤ e66 ∧ e66 ≤ 12) ∧ (0 ≤ 0 ∧ 0 ≤ 1) by omega)⟩ (show ((12 : Int) + 1 - e66).toNat < ((12 : Int) + 1 - x16).toNat by omega)
            ·
              refine wi_iconst (n := 1) (nx := 71) (r1 := 0) (r2 := 0) (r3 := 0) rfl ?_
              refine wi_goto (nx := 74) (r1 := 75) (r2 := 0) (r3 := 0) rfl ?_
              refine wi_istore_n (i := 3) (e := 1) (lo2 := [(3, vi 1), (1, vi e66), (5, vi z51), (4, vi (h18 238 106)), (0, .ref 236)]) (nx := 76) (r1 := 0) (r2 := 0) (r3 := 0) rfl rfl ?_
              refine wi_goto (nx := 79) (r1 := 9) (r2 := 0) (r3 := 0) rfl ?_
              refine wp.lo (lo := [(0, .ref 236), (1, vi e66), (3, vi 1)]) ⟨rfl, rfl, rfl, trivial⟩ rfl ?_
              exact I18 e66 1 h42 ⟨g42, F52, F53, (show (0 ≤ e66 ∧ e66 ≤ 12) ∧ (0 ≤ 1 ∧ 1 ≤ 1) by omega)⟩ (show ((12 : Int) + 1 - e66).toNat < ((12 : Int) + 1 - x16).toNat by omega)
      ·
        rw [q25]
        refine wr_V (k0 := 236) (rest := []) (as := [.ref 236, vi 2]) (nx := 31) (r1 := 267) (r2 := 1) (r3 := 11) rfl rfl rfl (of_decide_eq_true rfl) rfl rfl (by decide) rfl rfl (of_decide_eq_true rfl) (of_decide_eq_true rfl) ?_
        refine ct_267_236_L2 hcr  g18    (fun z27  (fz27 : 0 ≤ z27 ∧ z27 ≤ 1) (p26_0 : z27 = 0 ∨ 1 ≤ (h18 238 100)) (p26_1 : z27 = 0 ∨ (h18 238 67) ≤ 9998) (p26_2 : z27 = 0 ∨ (1 ≤ (h18 238 (43 + (h18 238 86).toNat)) ∧ (h18 238 102) < (h18 238 7)) ∨ ((h18 238 (43 + (h18 238 86).toNat)) ≤ 0 ∧ (h18 238 86) - (h18 238 106) ≤ (h18 238 3))) y26_0 => ?_)
        have b28 := gi_b (lo := 0) (hi := 6) g18 238 100 rfl
        have b29 := gi_b (lo := 0) (hi := 9999) g18 238 67 rfl
        have b30 := gi_b (lo := 0) (hi := 11) g18 238 86 rfl
        obtain ⟨i31, ei31⟩ : ∃ q : Nat, (43 + h18 238 86) = (q : Int) := ⟨(43 + h18 238 86).toNat, by omega⟩
        have b32 := gi_b (lo := 0) (hi := 999) g18 238 i31 (gi_rg 43 12 (fun _ => rfl) (by decide +kernel) (by omega))
        have e33 : h18 238 (43 + (h18 238 86).toNat) = h18 238 i31 := by rw [show 43 + (h18 238 86).toNat = i31 by omega]
        have b34 := gi_b (lo := 0) (hi := 3) g18 238 102 rfl
        have b35 := gi_b (lo := 0) (hi := 3) g 238 7 rfl
        have e36 : h18 238 7 = h 238 7 := ((u18 238 7 rfl).trans (u13 238 7 rfl))
        have b37 := gi_b (lo := 0) (hi := 12) g18 238 106 rfl
        have b38 := gi_b (lo := 0) (hi := 999) g 238 3 rfl
        have e39 : h18 238 3 = h 238 3 := ((u18 238 3 rfl).trans (u13 238 3 rfl))
        refine wk_i ?_
        refine wi_if (cd := .eq) (nx := 34) (r1 := 79) (r2 := 0) (r3 := 0) rfl (by omega) (fun (q40 : z27 = 0) => ?_) (fun (q40 : ¬ (z27 = 0)) => ?_)
        ·
          refine wi_iload_n (i := 1) (e := x16) (nx := 80) (r1 := 0) (r2 := 0) (r3 := 0) rfl rfl ?_
          refine wi_ireturn (nx := 81) (r1 := 0) (r2 := 0) (r3 := 0) rfl rfl ?_
          have b41 := gi_b (lo := 0) (hi := 6) g18 238 98 rfl
          have b42 := gi_b (lo := 0) (hi := 6) g18 238 99 rfl
          have b43 := gi_b (lo := 0) (hi := 6) g18 238 101 rfl
          have e44 : h18 238 73 = h 238 73 := ((u18 238 73 rfl).trans (u13 238 73 rfl))
          have e45 : h18 238 2 = h 238 2 := ((u18 238 2 rfl).trans (u13 238 2 rfl))
          have b46 := gi_b (lo := 0) (hi := 9999) g18 238 119 rfl
          have b47 := gi_b (lo := 0) (hi := 9) g18 238 69 rfl
          have e48 : h18 238 5 = h 238 5 := ((u18 238 5 rfl).trans (u13 238 5 rfl))
          exact k h18 x16 g18 F19 (by omega) (show (h18 238 98) + (h18 238 99) + (h18 238 100) + (h18 238 101) + (h18 238 102) + (h18 238 106) = (h18 238 73) by omega) (show (h18 238 73) ≤ (h18 238 2) by omega) (show (h18 238 119) ≤ (h18 238 67) by omega) (show (h18 238 69) ≤ (h18 238 5) by omega) (show (h18 238 2) ≤ 12 * (h18 238 5) by omega)
        ·
          refine wi_aload_n (i := 0) (x := 236) (nx := 35) (r1 := 0) (r2 := 0) (r3 := 0) rfl rfl ?_
          refine wr_gr (k0 := 236) (x := 238) (nx := 38) (r1 := 11) (r2 := 13) (r3 := 0) rfl rfl (by decide) rfl ⟨rfl, rfl⟩ rfl ?_
          refine wi_bipush (n := 106) (nx := 40) (r1 := 0) (r2 := 0) (r3 := 0) rfl (by decide) ?_
          refine wr_ia (k0 := 238) (a := 106) (f := 106) (x := h18 238 106) (nx := 41) (r1 := 0) (r2 := 0) (r3 := 0) rfl (by decide) rfl (by omega) (by omega) (by decide) rfl ?_
          refine wi_istore (i := 4) (e := h18 238 106) (lo2 := [(4, vi (h18 238 106)), (0, .ref 236), (1, vi x16), (3, vi x17)]) (nx := 43) (r1 := 0) (r2 := 0) (r3 := 0) rfl rfl ?_
          refine wi_aload_n (i := 0) (x := 236) (nx := 44) (r1 := 0) (r2 := 0) (r3 := 0) rfl rfl ?_
          refine wi_aload_n (i := 0) (x := 236) (nx := 45) (r1 := 0) (r2 := 0) (r3 := 0) rfl rfl ?_
          refine wr_gr (k0 := 236) (x := 248) (nx := 48) (r1 := 11) (r2 := 31) (r3 := 0) rfl rfl (by decide) rfl ⟨rfl, rfl⟩ rfl ?_
          refine wi_iload_n (i := 1) (e := x16) (nx := 49) (r1 := 0) (r2 := 0) (r3 := 0) rfl rfl ?_
          refine wr_ia (k0 := 248) (a := x16) (f := i23) (x := h13 248 i23) (nx := 50) (r1 := 0) (r2 := 0) (r3 := 0) rfl (by decide) rfl (by omega) (by omega) (by decide) (u18 248 i23 (fn_a (by omega) (fn_a (by omega) (fn_a (by omega) (fn_a (by omega) (fn_a (by omega) (fn_a (by omega) (fn_a (by omega) (fn_a (by omega) (fn_a (by omega) (fn_a (by omega) (fn_a (by omega) (fn_a (by omega) (fn_a (by omega) (fn_a (by omega) (fn_a (by omega) (fn_a (by omega) (fn_a (by omega) (fn_a (by omega) (fn_a (by omega) (fn_a (by omega) (fn_a (by omega) (fn_a (by omega) (fn_a (by omega) (fn_a (by omega) (fn_a (by omega) fn_0)))))))))))))))))))))))))) ?_
          rcases (show (h13 248 i23) = 2 by omega) with q41
          ·
            rw [q41]
            refine wr_V (k0 := 236) (rest := []) (as := [.ref 236, vi 2]) (nx := 53) (r1 := 282) (r2 := 1) (r3 := 11) rfl rfl rfl (of_decide_eq_true rfl) rfl rfl (by decide) rfl rfl (of_decide_eq_true rfl) (of_decide_eq_true rfl) ?_
            have b43 := gi_b (lo := 0) (hi := 6) g18 238 98 rfl
            have b44 := gi_b (lo := 0) (hi := 6) g18 238 99 rfl
            have b45 := gi_b (lo := 0) (hi := 6) g18 238 101 rfl
            have e46 : h18 238 73 = h 238 73 := ((u18 238 73 rfl).trans (u13 238 73 rfl))
            have e47 : h18 238 2 = h 238 2 := ((u18 238 2 rfl).trans (u13 238 2 rfl))
            have b48 := gi_b (lo := 0) (hi := 9999) g18 238 119 rfl
            have b49 := gi_b (lo := 0) (hi := 9) g18 238 69 rfl
            have e50 : h18 238 5 = h 238 5 := ((u18 238 5 rfl).trans (u13 238 5 rfl))
            refine ct_282_236_L2 hcr  g18   (show (h18 238 98) + (h18 238 99) + (h18 238 100) + (h18 238 101) + (h18 238 102) + (h18 238 106) = (h18 238 73) by omega) (show (h18 238 73) ≤ (h18 238 2) by omega) (show (h18 238 119) ≤ (h18 238 67) by omega) (show (h18 238 69) ≤ (h18 238 5) by omega) (show (h18 238 2) ≤ 12 * (h18 238 5) by omega) (show 1 ≤ (h18 238 100) by omega) (show (h18 238 67) ≤ 9998 by omega) (show (h18 238 102) ≤ 2 ∨ (h18 238 (43 + (h18 238 86).toNat)) ≤ 0 by omega) (fun h42 z51 g42 u42 (fz51 : 0 ≤ z51 ∧ z51 ≤ 11) (p42_0 : (h42 238 98) + (h42 238 99) + (h42 238 100) + (h42 238 101) + (h42 238 102) + (h42 238 106) = (h42 238 73)) (p42_1 : (h42 238 73) ≤ (h42 238 2)) (p42_2 : (h42 238 119) ≤ (h42 238 67)) (p42_3 : (h42 238 69) ≤ (h42 238 5)) (p42_4 : (h42 238 2) ≤ 12 * (h42 238 5)) => ?_)
            have F52 := F19.then (by decide +kernel) u42
            have F53 := u18.then (by decide +kernel) u42
            have e54 : h42 238 98 = h18 238 98 := (u42 238 98 rfl)
            have e55 : h42 238 99 = h18 238 99 := (u42 238 99 rfl)
            have b56 := gi_b (lo := 0) (hi := 6) g42 238 100 rfl
            have e57 : h42 238 101 = h18 238 101 := (u42 238 101 rfl)
            have b58 := gi_b (lo := 0) (hi := 3) g42 238 102 rfl
            have b59 := gi_b (lo := 0) (hi := 12) g42 238 106 rfl
            have e60 : h42 238 73 = h 238 73 := ((u42 238 73 rfl).trans ((u18 238 73 rfl).trans (u13 238 73 rfl)))
            have e61 : h42 238 2 = h 238 2 := ((u42 238 2 rfl).trans ((u18 238 2 rfl).trans (u13 238 2 rfl)))
            have b62 := gi_b (lo := 0) (hi := 9999) g42 238 119 rfl
            have b63 := gi_b (lo := 0) (hi := 9999) g42 238 67 rfl
            have b64 := gi_b (lo := 0) (hi := 9) g42 238 69 rfl
            have e65 : h42 238 5 = h 238 5 := ((u42 238 5 rfl).trans ((u18 238 5 rfl).trans (u13 238 5 rfl)))
            refine wk_i ?_
            refine wi_istore (i := 5) (e := z51) (lo2 := [(5, vi z51), (4, vi (h18 238 106)), (0, .ref 236), (1, vi x16), (3, vi x17)]) (nx := 55) (r1 := 0) (r2 := 0) (r3 := 0) rfl rfl ?_
            refine wr_iinc (i := 1) (n := 1) (v := x16) (fun e66 => [(1, vi e66), (5, vi z51), (4, vi (h18 238 106)), (0, .ref 236), (3, vi x17)]) (nx := 58) (r1 := 0) (r2 := 0) (r3 := 0) rfl rfl (fun _ => rfl) (fun e66 (fe66 : e66 = x16 + 1) => ?_)
            refine wi_aload_n (i := 0) (x := 236) (nx := 59) (r1 := 0) (r2 := 0) (r3 := 0) rfl rfl ?_
            refine wr_gr (k0 := 236) (x := 238) (nx := 62) (r1 := 11) (r2 := 13) (r3 := 0) rfl rfl (by decide) rfl ⟨rfl, rfl⟩ rfl ?_
            refine wi_bipush (n := 106) (nx := 64) (r1 := 0) (r2 := 0) (r3 := 0) rfl (by decide) ?_
            refine wr_ia (k0 := 238) (a := 106) (f := 106) (x := h42 238 106) (nx := 65) (r1 := 0) (r2 := 0) (r3 := 0) rfl (by decide) rfl (by omega) (by omega) (by decide) rfl ?_
            refine wi_iload (i := 4) (e := h18 238 106) (nx := 67) (r1 := 0) (r2 := 0) (r3 := 0) rfl rfl ?_
            refine wi_icmp (cd := .le) (nx := 70) (r1 := 74) (r2 := 0) (r3 := 0) rfl (by omega) (by omega) (fun (q67 : (h42 238 106) ≤ (h18 238 106)) => ?_) (fun (q67 : ¬ ((h42 238 106) ≤ (h18 238 106))) => ?_)
            ·
              refine wi_iconst (n := 0) (nx := 75) (r1 := 0) (r2 := 0) (r3 := 0) rfl ?_
              refine wi_istore_n (i := 3) (e := 0) (lo2 := [(3, vi 0), (1, vi e66), (5, vi z51), (4, vi (h18 238 106)), (0, .ref 236)]) (nx := 76) (r1 := 0) (r2 := 0) (r3 := 0) rfl rfl ?_
              refine wi_goto (nx := 79) (r1 := 9) (r2 := 0) (r3 := 0) rfl ?_
              refine wp.lo (lo := [(0, .ref 236), (1, vi e66), (3, vi 0)]) ⟨rfl, rfl, rfl, trivial⟩ rfl ?_
              exact I18 e66 0 h42 ⟨g42, F52, F53, (show (0 ≤ e66 ∧ e66 ≤ 12) ∧ (0 ≤ 0 ∧ 0 ≤ 1) by omega)⟩ (show ((12 : Int) + 1 - e66).toNat < ((12 : Int) + 1 - x16).toNat by omega)
            ·
              refine wi_iconst (n := 1) (nx := 71) (r1 := 0) (r2 := 0) (r3 := 0) rfl ?_
              refine wi_goto (nx := 74) (r1 := 75) (r2 := 0) (r3 := 0) rfl ?_
              refine wi_istore_n (i := 3) (e := 1) (lo2 := [(3, vi 1), (1, vi e66), (5, vi z51), (4, vi (h18 238 106)), (0, .ref 236)]) (nx := 76) (r1 := 0) (r2 := 0) (r3 := 0) rfl rfl ?_
              refine wi_goto (nx := 79) (r1 := 9) (r2 := 0) (r3 := 0) rfl ?_
              refine wp.lo (lo := [(0, .ref 236), (1, vi e66), (3, vi 1)]) ⟨rfl, rfl, rfl, trivial⟩ rfl ?_
              exact I18 e66 1 h42 ⟨g42, F52, F53, (show (0 ≤ e66 ∧ e66 ≤ 12) ∧ (0 ≤ 1 ∧ 1 ≤ 1) by omega)⟩ (show ((12 : Int) + 1 - e66).toNat < ((12 : Int) + 1 - x16).toNat by omega)
      ·
        rw [q25]
        refine wr_V (k0 := 236) (rest := []) (as := [.ref 236, vi 3]) (nx := 31) (r1 := 267) (r2 := 1) (r3 := 11) rfl rfl rfl (of_decide_eq_true rfl) rfl rfl (by decide) rfl rfl (of_decide_eq_true rfl) (of_decide_eq_true rfl) ?_
        refine ct_267_236_L3 hcr  g18    (fun z27  (fz27 : 0 ≤ z27 ∧ z27 ≤ 1) (p26_0 : z27 = 0 ∨ 1 ≤ (h18 238 101)) (p26_1 : z27 = 0 ∨ (h18 238 67) ≤ 9998) (p26_2 : z27 = 0 ∨ (1 ≤ (h18 238 (43 + (h18 238 92).toNat)) ∧ (h18 238 102) < (h18 238 7)) ∨ ((h18 238 (43 + (h18 238 92).toNat)) ≤ 0 ∧ (h18 238 92) - (h18 238 106) ≤ (h18 238 3))) y26_0 => ?_)
        have b28 := gi_b (lo := 0) (hi := 6) g18 238 101 rfl
        have b29 := gi_b (lo := 0) (hi := 9999) g18 238 67 rfl
        have b30 := gi_b (lo := 0) (hi := 11) g18 238 92 rfl
        obtain ⟨i31, ei31⟩ : ∃ q : Nat, (43 + h18 238 92) = (q : Int) := ⟨(43 + h18 238 92).toNat, by omega⟩
        have b32 := gi_b (lo := 0) (hi := 999) g18 238 i31 (gi_rg 43 12 (fun _ => rfl) (by decide +kernel) (by omega))
        have e33 : h18 238 (43 + (h18 238 92).toNat) = h18 238 i31 := by rw [show 43 + (h18 238 92).toNat = i31 by omega]
        have b34 := gi_b (lo := 0) (hi := 3) g18 238 102 rfl
        have b35 := gi_b (lo := 0) (hi := 3) g 238 7 rfl
        have e36 : h18 238 7 = h 238 7 := ((u18 238 7 rfl).trans (u13 238 7 rfl))
        have b37 := gi_b (lo := 0) (hi := 12) g18 238 106 rfl
        have b38 := gi_b (lo := 0) (hi := 999) g 238 3 rfl
        have e39 : h18 238 3 = h 238 3 := ((u18 238 3 rfl).trans (u13 238 3 rfl))
        refine wk_i ?_
        refine wi_if (cd := .eq) (nx := 34) (r1 := 79) (r2 := 0) (r3 := 0) rfl (by omega) (fun (q40 : z27 = 0) => ?_) (fun (q40 : ¬ (z27 = 0)) => ?_)
        ·
          refine wi_iload_n (i := 1) (e := x16) (nx := 80) (r1 := 0) (r2 := 0) (r3 := 0) rfl rfl ?_
          refine wi_ireturn (nx := 81) (r1 := 0) (r2 := 0) (r3 := 0) rfl rfl ?_
          have b41 := gi_b (lo := 0) (hi := 6) g18 238 98 rfl
          have b42 := gi_b (lo := 0) (hi := 6) g18 238 99 rfl
          have b43 := gi_b (lo := 0) (hi := 6) g18 238 100 rfl
          have e44 : h18 238 73 = h 238 73 := ((u18 238 73 rfl).trans (u13 238 73 rfl))
          have e45 : h18 238 2 = h 238 2 := ((u18 238 2 rfl).trans (u13 238 2 rfl))
          have b46 := gi_b (lo := 0) (hi := 9999) g18 238 119 rfl
          have b47 := gi_b (lo := 0) (hi := 9) g18 238 69 rfl
          have e48 : h18 238 5 = h 238 5 := ((u18 238 5 rfl).trans (u13 238 5 rfl))
          exact k h18 x16 g18 F19 (by omega) (show (h18 238 98) + (h18 238 99) + (h18 238 100) + (h18 238 101) + (h18 238 102) + (h18 238 106) = (h18 238 73) by omega) (show (h18 238 73) ≤ (h18 238 2) by omega) (show (h18 238 119) ≤ (h18 238 67) by omega) (show (h18 238 69) ≤ (h18 238 5) by omega) (show (h18 238 2) ≤ 12 * (h18 238 5) by omega)
        ·
          refine wi_aload_n (i := 0) (x := 236) (nx := 35) (r1 := 0) (r2 := 0) (r3 := 0) rfl rfl ?_
          refine wr_gr (k0 := 236) (x := 238) (nx := 38) (r1 := 11) (r2 := 13) (r3 := 0) rfl rfl (by decide) rfl ⟨rfl, rfl⟩ rfl ?_
          refine wi_bipush (n := 106) (nx := 40) (r1 := 0) (r2 := 0) (r3 := 0) rfl (by decide) ?_
          refine wr_ia (k0 := 238) (a := 106) (f := 106) (x := h18 238 106) (nx := 41) (r1 := 0) (r2 := 0) (r3 := 0) rfl (by decide) rfl (by omega) (by omega) (by decide) rfl ?_
          refine wi_istore (i := 4) (e := h18 238 106) (lo2 := [(4, vi (h18 238 106)), (0, .ref 236), (1, vi x16), (3, vi x17)]) (nx := 43) (r1 := 0) (r2 := 0) (r3 := 0) rfl rfl ?_
          refine wi_aload_n (i := 0) (x := 236) (nx := 44) (r1 := 0) (r2 := 0) (r3 := 0) rfl rfl ?_
          refine wi_aload_n (i := 0) (x := 236) (nx := 45) (r1 := 0) (r2 := 0) (r3 := 0) rfl rfl ?_
          refine wr_gr (k0 := 236) (x := 248) (nx := 48) (r1 := 11) (r2 := 31) (r3 := 0) rfl rfl (by decide) rfl ⟨rfl, rfl⟩ rfl ?_
          refine wi_iload_n (i := 1) (e := x16) (nx := 49) (r1 := 0) (r2 := 0) (r3 := 0) rfl rfl ?_
          refine wr_ia (k0 := 248) (a := x16) (f := i23) (x := h13 248 i23) (nx := 50) (r1 := 0) (r2 := 0) (r3 := 0) rfl (by decide) rfl (by omega) (by omega) (by decide) (u18 248 i23 (fn_a (by omega) (fn_a (by omega) (fn_a (by omega) (fn_a (by omega) (fn_a (by omega) (fn_a (by omega) (fn_a (by omega) (fn_a (by omega) (fn_a (by omega) (fn_a (by omega) (fn_a (by omega) (fn_a (by omega) (fn_a (by omega) (fn_a (by omega) (fn_a (by omega) (fn_a (by omega) (fn_a (by omega) (fn_a (by omega) (fn_a (by omega) (fn_a (by omega) (fn_a (by omega) (fn_a (by omega) (fn_a (by omega) (fn_a (by omega) (fn_a (by omega) fn_0)))))))))))))))))))))))))) ?_
          rcases (show (h13 248 i23) = 3 by omega) with q41
          ·
            rw [q41]
            refine wr_V (k0 := 236) (rest := []) (as := [.ref 236, vi 3]) (nx := 53) (r1 := 282) (r2 := 1) (r3 := 11) rfl rfl rfl (of_decide_eq_true rfl) rfl rfl (by decide) rfl rfl (of_decide_eq_true rfl) (of_decide_eq_true rfl) ?_
            have b43 := gi_b (lo := 0) (hi := 6) g18 238 98 rfl
            have b44 := gi_b (lo := 0) (hi := 6) g18 238 99 rfl
            have b45 := gi_b (lo := 0) (hi := 6) g18 238 100 rfl
            have e46 : h18 238 73 = h 238 73 := ((u18 238 73 rfl).trans (u13 238 73 rfl))
            have e47 : h18 238 2 = h 238 2 := ((u18 238 2 rfl).trans (u13 238 2 rfl))
            have b48 := gi_b (lo := 0) (hi := 9999) g18 238 119 rfl
            have b49 := gi_b (lo := 0) (hi := 9) g18 238 69 rfl
            have e50 : h18 238 5 = h 238 5 := ((u18 238 5 rfl).trans (u13 238 5 rfl))
            refine ct_282_236_L3 hcr  g18   (show (h18 238 98) + (h18 238 99) + (h18 238 100) + (h18 238 101) + (h18 238 102) + (h18 238 106) = (h18 238 73) by omega) (show (h18 238 73) ≤ (h18 238 2) by omega) (show (h18 238 119) ≤ (h18 238 67) by omega) (show (h18 238 69) ≤ (h18 238 5) by omega) (show (h18 238 2) ≤ 12 * (h18 238 5) by omega) (show 1 ≤ (h18 238 101) by omega) (show (h18 238 67) ≤ 9998 by omega) (show (h18 238 102) ≤ 2 ∨ (h18 238 (43 + (h18 238 92).toNat)) ≤ 0 by omega) (fun h42 z51 g42 u42 (fz51 : 0 ≤ z51 ∧ z51 ≤ 11) (p42_0 : (h42 238 98) + (h42 238 99) + (h42 238 100) + (h42 238 101) + (h42 238 102) + (h42 238 106) = (h42 238 73)) (p42_1 : (h42 238 73) ≤ (h42 238 2)) (p42_2 : (h42 238 119) ≤ (h42 238 67)) (p42_3 : (h42 238 69) ≤ (h42 238 5)) (p42_4 : (h42 238 2) ≤ 12 * (h42 238 5)) => ?_)
            have F52 := F19.then (by decide +kernel) u42
            have F53 := u18.then (by decide +kernel) u42
            have e54 : h42 238 98 = h18 238 98 := (u42 238 98 rfl)
            have e55 : h42 238 99 = h18 238 99 := (u42 238 99 rfl)
            have e56 : h42 238 100 = h18 238 100 := (u42 238 100 rfl)
            have b57 := gi_b (lo := 0) (hi := 6) g42 238 101 rfl
            have b58 := gi_b (lo := 0) (hi := 3) g42 238 102 rfl
            have b59 := gi_b (lo := 0) (hi := 12) g42 238 106 rfl
            have e60 : h42 238 73 = h 238 73 := ((u42 238 73 rfl).trans ((u18 238 73 rfl).trans (u13 238 73 rfl)))
            have e61 : h42 238 2 = h 238 2 := ((u42 238 2 rfl).trans ((u18 238 2 rfl).trans (u13 238 2 rfl)))
            have b62 := gi_b (lo := 0) (hi := 9999) g42 238 119 rfl
            have b63 := gi_b (lo := 0) (hi := 9999) g42 238 67 rfl
            have b64 := gi_b (lo := 0) (hi := 9) g42 238 69 rfl
            have e65 : h42 238 5 = h 238 5 := ((u42 238 5 rfl).trans ((u18 238 5 rfl).trans (u13 238 5 rfl)))
            refine wk_i ?_
            refine wi_istore (i := 5) (e := z51) (lo2 := [(5, vi z51), (4, vi (h18 238 106)), (0, .ref 236), (1, vi x16), (3, vi x17)]) (nx := 55) (r1 := 0) (r2 := 0) (r3 := 0) rfl rfl ?_
            refine wr_iinc (i := 1) (n := 1) (v := x16) (fun e66 => [(1, vi e66), (5, vi z51), (4, vi (h18 238 106)), (0, .ref 236), (3, vi x17)]) (nx := 58) (r1 := 0) (r2 := 0) (r3 := 0) rfl rfl (fun _ => rfl) (fun e66 (fe66 : e66 = x16 + 1) => ?_)
            refine wi_aload_n (i := 0) (x := 236) (nx := 59) (r1 := 0) (r2 := 0) (r3 := 0) rfl rfl ?_
            refine wr_gr (k0 := 236) (x := 238) (nx := 62) (r1 := 11) (r2 := 13) (r3 := 0) rfl rfl (by decide) rfl ⟨rfl, rfl⟩ rfl ?_
            refine wi_bipush (n := 106) (nx := 64) (r1 := 0) (r2 := 0) (r3 := 0) rfl (by decide) ?_
            refine wr_ia (k0 := 238) (a := 106) (f := 106) (x := h42 238 106) (nx := 65) (r1 := 0) (r2 := 0) (r3 := 0) rfl (by decide) rfl (by omega) (by omega) (by decide) rfl ?_
            refine wi_iload (i := 4) (e := h18 238 106) (nx := 67) (r1 := 0) (r2 := 0) (r3 := 0) rfl rfl ?_
            refine wi_icmp (cd := .le) (nx := 70) (r1 := 74) (r2 := 0) (r3 := 0) rfl (by omega) (by omega) (fun (q67 : (h42 238 106) ≤ (h18 238 106)) => ?_) (fun (q67 : ¬ ((h42 238 106) ≤ (h18 238 106))) => ?_)
            ·
              refine wi_iconst (n := 0) (nx := 75) (r1 := 0) (r2 := 0) (r3 := 0) rfl ?_
              refine wi_istore_n (i := 3) (e := 0) (lo2 := [(3, vi 0), (1, vi e66), (5, vi z51), (4, vi (h18 238 106)), (0, .ref 236)]) (nx := 76) (r1 := 0) (r2 := 0) (r3 := 0) rfl rfl ?_
              refine wi_goto (nx := 79) (r1 := 9) (r2 := 0) (r3 := 0) rfl ?_
              refine wp.lo (lo := [(0, .ref 236), (1, vi e66), (3, vi 0)]) ⟨rfl, rfl, rfl, trivial⟩ rfl ?_
              exact I18 e66 0 h42 ⟨g42, F52, F53, (show (0 ≤ e66 ∧ e66 ≤ 12) ∧ (0 ≤ 0 ∧ 0 ≤ 1) by omega)⟩ (show ((12 : Int) + 1 - e66).toNat < ((12 : Int) + 1 - x16).toNat by omega)
            ·
              refine wi_iconst (n := 1) (nx := 71) (r1 := 0) (r2 := 0) (r3 := 0) rfl ?_
              refine wi_goto (nx := 74) (r1 := 75) (r2 := 0) (r3 := 0) rfl ?_
              refine wi_istore_n (i := 3) (e := 1) (lo2 := [(3, vi 1), (1, vi e66), (5, vi z51), (4, vi (h18 238 106)), (0, .ref 236)]) (nx := 76) (r1 := 0) (r2 := 0) (r3 := 0) rfl rfl ?_
              refine wi_goto (nx := 79) (r1 := 9) (r2 := 0) (r3 := 0) rfl ?_
              refine wp.lo (lo := [(0, .ref 236), (1, vi e66), (3, vi 1)]) ⟨rfl, rfl, rfl, trivial⟩ rfl ?_
              exact I18 e66 1 h42 ⟨g42, F52, F53, (show (0 ≤ e66 ∧ e66 ≤ 12) ∧ (0 ≤ 1 ∧ 1 ≤ 1) by omega)⟩ (show ((12 : Int) + 1 - e66).toNat < ((12 : Int) + 1 - x16).toNat by omega)
-- method 326: Model.ones(I)I
set_option maxRecDepth 100000 in
set_option maxHeartbeats 100000000 in
theorem ct_326 {L : Nat} {xs : Nat → Int32} {d b c : Nat} {h : hp} {cr : Nat → Nat → Option Nat} {Q : hp_Q} (hcr : CR cr)  (g : GI h) (a0 : Int) (q0_ : 0 ≤ a0 ∧ a0 ≤ 4095)  (k : ∀ (z0 : Int), (0 ≤ z0 ∧ z0 ≤ 12) → (z0 = (pc (a0).toNat : Int)) → Q (.inl (some (vi z0))) (hp_w h cr) b c) : wp (md_xa (L, xs)) d 326 (0, [(0, vi a0)], [], hp_w h cr, b, c) Q := by
  have F0 : FR [] h h := FR.refl
  refine wi_iconst (n := 0) (nx := 1) (r1 := 0) (r2 := 0) (r3 := 0) rfl ?_
  refine wi_istore_n (i := 1) (e := 0) (lo2 := [(1, vi 0), (0, vi a0)]) (nx := 2) (r1 := 0) (r2 := 0) (r3 := 0) rfl rfl ?_
  refine wi_iload_n (i := 0) (e := a0) (nx := 3) (r1 := 0) (r2 := 0) (r3 := 0) rfl rfl ?_
  refine wi_istore_n (i := 2) (e := a0) (lo2 := [(2, vi a0), (1, vi 0), (0, vi a0)]) (nx := 4) (r1 := 0) (r2 := 0) (r3 := 0) rfl rfl ?_
  refine wp.lo (lo := [(1, vi 0), (2, vi a0)]) ⟨rfl, rfl, trivial⟩ rfl ?_
  refine wl_2 (fun x1 x2 h3 => h = h3 ∧ ((0 ≤ x1 ∧ x1 ≤ 12) ∧ (0 ≤ x2 ∧ x2 ≤ 4095)) ∧ (x1 + (pc (x2).toNat : Int) = (pc (a0).toNat : Int))) (fun x1 x2 h3 => ((12 : Int) + 1 - x1).toNat) (fun x1 x2 h3 => (4, [(1, vi x1), (2, vi x2)], [], hp_w h3 cr, b, c)) ?_ 0 a0 h ⟨rfl, (show (0 ≤ 0 ∧ 0 ≤ 12) ∧ (0 ≤ a0 ∧ a0 ≤ 4095) by omega), (by omega)⟩
  intro x1 x2 h3 ⟨e3, f3, X3_0⟩ I3
  subst e3
  refine wi_iload_n (i := 2) (e := x2) (nx := 5) (r1 := 0) (r2 := 0) (r3 := 0) rfl rfl ?_
  refine wi_if (cd := .eq) (nx := 8) (r1 := 20) (r2 := 0) (r3 := 0) rfl (by omega) (fun (q5 : x2 = 0) => ?_) (fun (q5 : ¬ (x2 = 0)) => ?_)
  ·
    refine wi_iload_n (i := 1) (e := x1) (nx := 21) (r1 := 0) (r2 := 0) (r3 := 0) rfl rfl ?_
    refine wi_ireturn (nx := 22) (r1 := 0) (r2 := 0) (r3 := 0) rfl rfl ?_
    exact k x1 (by omega) (by have e0 := X3_0; rw [show (x2).toNat = 0 by omega, show pc 0 = 0 from rfl] at e0; omega)
  ·
    refine wr_iinc (i := 1) (n := 1) (v := x1) (fun e6 => [(1, vi e6), (2, vi x2)]) (nx := 11) (r1 := 0) (r2 := 0) (r3 := 0) rfl rfl (fun _ => rfl) (fun e6 (fe6 : e6 = x1 + 1) => ?_)
    refine wi_iload_n (i := 2) (e := x2) (nx := 12) (r1 := 0) (r2 := 0) (r3 := 0) rfl rfl ?_
    refine wi_iload_n (i := 2) (e := x2) (nx := 13) (r1 := 0) (r2 := 0) (r3 := 0) rfl rfl ?_
    refine wi_iconst (n := 1) (nx := 14) (r1 := 0) (r2 := 0) (r3 := 0) rfl ?_
    refine wr_sub (nx := 15) (r1 := 0) (r2 := 0) (r3 := 0) rfl (fun e7 (fe7 : e7 = x2 - 1) => ?_)
    refine wr_iandN (x := x2) (y := e7) (nx := 16) (r1 := 0) (r2 := 0) (r3 := 0) rfl (by omega) (by omega) (fun e8 (fe8 : 0 ≤ e8 ∧ e8 ≤ x2 ∧ e8 ≤ e7) ve8 => ?_)
    refine wi_istore_n (i := 2) (e := e8) (lo2 := [(2, vi e8), (1, vi e6)]) (nx := 17) (r1 := 0) (r2 := 0) (r3 := 0) rfl rfl ?_
    refine wi_goto (nx := 20) (r1 := 4) (r2 := 0) (r3 := 0) rfl ?_
    refine wp.lo (lo := [(1, vi e6), (2, vi e8)]) ⟨rfl, rfl, trivial⟩ rfl ?_
    have a9 := pc_and (n := (x2).toNat) (by omega) (by omega)
    have a9l := pc_le (a0).toNat
    have a9e : (e8).toNat = (x2).toNat &&& ((x2).toNat - 1) := by rw [ve8]; rw [show ((e7) : Int).toNat = (x2).toNat - 1 by omega]; omega
    rw [← a9e] at a9
    have a9x := X3_0
    exact I3 e6 e8 h ⟨rfl, (show (0 ≤ e6 ∧ e6 ≤ 12) ∧ (0 ≤ e8 ∧ e8 ≤ 4095) by omega), (by omega)⟩ (show ((12 : Int) + 1 - e6).toNat < ((12 : Int) + 1 - x1).toNat by omega)
-- method 327: Model.isJob(III)Z
set_option maxRecDepth 100000 in
set_option maxHeartbeats 100000000 in
theorem ct_327_236 {L : Nat} {xs : Nat → Int32} {d b c : Nat} {h : hp} {cr : Nat → Nat → Option Nat} {Q : hp_Q} (hcr : CR cr)  (g : GI h) (a0 : Int) (a1 : Int) (a2 : Int) (q0_ : 0 ≤ a0 ∧ a0 ≤ 4095) (q1_ : 0 ≤ a1 ∧ a1 ≤ 12) (q2_ : 0 ≤ a2 ∧ a2 ≤ 11) (pp0 : h 238 98 + h 238 99 + h 238 100 + h 238 101 + h 238 102 + h 238 106 = h 238 73) (pp1 : h 238 73 ≤ h 238 2) (pp2 : h 238 119 ≤ h 238 67) (pp3 : h 238 69 ≤ h 238 5) (pp4 : h 238 2 ≤ 12 * h 238 5) (k : ∀ (z0 : Int), (0 ≤ z0 ∧ z0 ≤ 1) → ((z0 = 1 ∧ jb (h 238) (a0).toNat a1 (a2).toNat) ∨ (z0 = 0 ∧ ¬ jb (h 238) (a0).toNat a1 (a2).toNat)) → Q (.inl (some (vi z0))) (hp_w h cr) b c) : wp (md_xa (L, xs)) (d + 1) 327 (0, [(0, .ref 236), (1, vi a0), (2, vi a1), (3, vi a2)], [], hp_w h cr, b, c) Q := by
  have F0 : FR [] h h := FR.refl
  have b1 := gi_b (lo := 0) (hi := 6) g 238 98 rfl
  have b2 := gi_b (lo := 0) (hi := 6) g 238 99 rfl
  have b3 := gi_b (lo := 0) (hi := 6) g 238 100 rfl
  have b4 := gi_b (lo := 0) (hi := 6) g 238 101 rfl
  have b5 := gi_b (lo := 0) (hi := 3) g 238 102 rfl
  have b6 := gi_b (lo := 0) (hi := 12) g 238 106 rfl
  have b7 := gi_b (lo := 0) (hi := 12) g 238 73 rfl
  have b8 := gi_b (lo := 0) (hi := 12) g 238 2 rfl
  have b9 := gi_b (lo := 0) (hi := 9999) g 238 119 rfl
  have b10 := gi_b (lo := 0) (hi := 9999) g 238 67 rfl
  have b11 := gi_b (lo := 0) (hi := 9) g 238 69 rfl
  have b12 := gi_b (lo := 0) (hi := 9) g 238 5 rfl
  refine wi_iload_n (i := 2) (e := a1) (nx := 1) (r1 := 0) (r2 := 0) (r3 := 0) rfl rfl ?_
  refine wi_iload_n (i := 3) (e := a2) (nx := 2) (r1 := 0) (r2 := 0) (r3 := 0) rfl rfl ?_
  refine wi_icmp (cd := .ge) (nx := 5) (r1 := 11) (r2 := 0) (r3 := 0) rfl (by omega) (by omega) (fun (q13 : a2 ≤ a1) => ?_) (fun (q13 : ¬ (a2 ≤ a1)) => ?_)
  ·
    refine wi_iload_n (i := 2) (e := a1) (nx := 12) (r1 := 0) (r2 := 0) (r3 := 0) rfl rfl ?_
    refine wi_iload_n (i := 3) (e := a2) (nx := 13) (r1 := 0) (r2 := 0) (r3 := 0) rfl rfl ?_
    refine wr_sub (nx := 14) (r1 := 0) (r2 := 0) (r3 := 0) rfl (fun e14 (fe14 : e14 = a1 - a2) => ?_)
    refine wi_istore (i := 4) (e := e14) (lo2 := [(4, vi e14), (0, .ref 236), (1, vi a0), (2, vi a1), (3, vi a2)]) (nx := 16) (r1 := 0) (r2 := 0) (r3 := 0) rfl rfl ?_
    refine wi_iload_n (i := 1) (e := a0) (nx := 17) (r1 := 0) (r2 := 0) (r3 := 0) rfl rfl ?_
    refine wi_iload_n (i := 3) (e := a2) (nx := 18) (r1 := 0) (r2 := 0) (r3 := 0) rfl rfl ?_
    refine wi_S (rest := []) (as := [vi a0, vi a2]) (nx := 21) (r1 := 318) (r2 := 18) (r3 := 0) rfl rfl rfl (of_decide_eq_true rfl) rfl rfl (of_decide_eq_true rfl) (of_decide_eq_true rfl) ?_
    refine wi_iload_n (i := 0) (e := a0) (nx := 1) (r1 := 0) (r2 := 0) (r3 := 0) rfl rfl ?_
    refine wi_iload_n (i := 1) (e := a2) (nx := 2) (r1 := 0) (r2 := 0) (r3 := 0) rfl rfl ?_
    refine wr_ishrN (x := a0) (y := a2) (nx := 3) (r1 := 0) (r2 := 0) (r3 := 0) rfl (by omega) (by omega) (fun e15 (fe15 : 0 ≤ e15 ∧ e15 ≤ a0) ve15 => ?_)
    refine wi_iconst (n := 1) (nx := 4) (r1 := 0) (r2 := 0) (r3 := 0) rfl ?_
    refine wr_iandN (x := e15) (y := 1) (nx := 5) (r1 := 0) (r2 := 0) (r3 := 0) rfl (by omega) (by omega) (fun e16 (fe16 : 0 ≤ e16 ∧ e16 ≤ e15 ∧ e16 ≤ 1) ve16 => ?_)
    have be16 : e16 = (((a0).toNat / 2 ^ (a2).toNat % 2 : Nat) : Int) := by rw [ve16, show (1 : Int).toNat = 1 from rfl, Nat.and_one_is_mod, ve15]; rfl
    refine wi_iconst (n := 1) (nx := 6) (r1 := 0) (r2 := 0) (r3 := 0) rfl ?_
    refine wi_icmp (cd := .ne) (nx := 9) (r1 := 13) (r2 := 0) (r3 := 0) rfl (by omega) (by omega) (fun (q17 : e16 ≠ 1) => ?_) (fun (q17 : ¬ (e16 ≠ 1)) => ?_)
    ·
      refine wi_iconst (n := 0) (nx := 14) (r1 := 0) (r2 := 0) (r3 := 0) rfl ?_
      refine wi_zreturn (nx := 15) (r1 := 0) (r2 := 0) (r3 := 0) rfl rfl (by omega) ?_
      refine wk_i ?_
      refine wi_if (cd := .ne) (nx := 24) (r1 := 77) (r2 := 0) (r3 := 0) rfl (by omega) (fun (q18 : 0 ≠ 0) => by exfalso; omega) (fun (q18 : ¬ (0 ≠ 0)) => ?_)
      refine wi_iload (i := 4) (e := e14) (nx := 26) (r1 := 0) (r2 := 0) (r3 := 0) rfl rfl ?_
      refine wi_aload_n (i := 0) (x := 236) (nx := 27) (r1 := 0) (r2 := 0) (r3 := 0) rfl rfl ?_
      refine wr_gr (k0 := 236) (x := 238) (nx := 30) (r1 := 11) (r2 := 13) (r3 := 0) rfl rfl (by decide) rfl ⟨rfl, rfl⟩ rfl ?_
      refine wi_bipush (n := 9) (nx := 32) (r1 := 0) (r2 := 0) (r3 := 0) rfl (by decide) ?_
      have b19 := gi_b (lo := 0) (hi := 999) g 238 9 rfl
      refine wr_ia (k0 := 238) (a := 9) (f := 9) (x := h 238 9) (nx := 33) (r1 := 0) (r2 := 0) (r3 := 0) rfl (by decide) rfl (by omega) (by omega) (by decide) rfl ?_
      refine wi_icmp (cd := .gt) (nx := 36) (r1 := 77) (r2 := 0) (r3 := 0) rfl (by omega) (by omega) (fun (q20 : (h 238 9) < e14) => ?_) (fun (q20 : ¬ ((h 238 9) < e14)) => ?_)
      ·
        refine wi_iconst (n := 0) (nx := 78) (r1 := 0) (r2 := 0) (r3 := 0) rfl ?_
        refine wi_zreturn (nx := 79) (r1 := 0) (r2 := 0) (r3 := 0) rfl rfl (by omega) ?_
        exact k 0 (by omega) (Or.inr ⟨rfl, fun ⟨b1, b2, b3⟩ => by omega⟩)
      ·
        refine wi_aload_n (i := 0) (x := 236) (nx := 37) (r1 := 0) (r2 := 0) (r3 := 0) rfl rfl ?_
        refine wr_gr (k0 := 236) (x := 238) (nx := 40) (r1 := 11) (r2 := 13) (r3 := 0) rfl rfl (by decide) rfl ⟨rfl, rfl⟩ rfl ?_
        refine wi_bipush (n := 19) (nx := 42) (r1 := 0) (r2 := 0) (r3 := 0) rfl (by decide) ?_
        refine wi_aload_n (i := 0) (x := 236) (nx := 43) (r1 := 0) (r2 := 0) (r3 := 0) rfl rfl ?_
        refine wr_gr (k0 := 236) (x := 238) (nx := 46) (r1 := 11) (r2 := 13) (r3 := 0) rfl rfl (by decide) rfl ⟨rfl, rfl⟩ rfl ?_
        refine wi_bipush (n := 73) (nx := 48) (r1 := 0) (r2 := 0) (r3 := 0) rfl (by decide) ?_
        refine wr_ia (k0 := 238) (a := 73) (f := 73) (x := h 238 73) (nx := 49) (r1 := 0) (r2 := 0) (r3 := 0) rfl (by decide) rfl (by omega) (by omega) (by decide) rfl ?_
        refine wr_add (nx := 50) (r1 := 0) (r2 := 0) (r3 := 0) rfl (fun e21 (fe21 : e21 = 19 + (h 238 73)) => ?_)
        refine wi_iload_n (i := 2) (e := a1) (nx := 51) (r1 := 0) (r2 := 0) (r3 := 0) rfl rfl ?_
        refine wr_add (nx := 52) (r1 := 0) (r2 := 0) (r3 := 0) rfl (fun e22 (fe22 : e22 = e21 + a1) => ?_)
        obtain ⟨i23, ei23⟩ : ∃ q : Nat, e22 = (q : Int) := ⟨(e22).toNat, by omega⟩
        refine wr_ia (k0 := 238) (a := e22) (f := i23) (x := h 238 i23) (nx := 53) (r1 := 0) (r2 := 0) (r3 := 0) rfl (by decide) rfl (by omega) (by omega) (by decide) rfl ?_
        refine wi_aload_n (i := 0) (x := 236) (nx := 54) (r1 := 0) (r2 := 0) (r3 := 0) rfl rfl ?_
        refine wr_gr (k0 := 236) (x := 238) (nx := 57) (r1 := 11) (r2 := 13) (r3 := 0) rfl rfl (by decide) rfl ⟨rfl, rfl⟩ rfl ?_
        refine wi_bipush (n := 19) (nx := 59) (r1 := 0) (r2 := 0) (r3 := 0) rfl (by decide) ?_
        refine wi_aload_n (i := 0) (x := 236) (nx := 60) (r1 := 0) (r2 := 0) (r3 := 0) rfl rfl ?_
        refine wr_gr (k0 := 236) (x := 238) (nx := 63) (r1 := 11) (r2 := 13) (r3 := 0) rfl rfl (by decide) rfl ⟨rfl, rfl⟩ rfl ?_
        refine wi_bipush (n := 73) (nx := 65) (r1 := 0) (r2 := 0) (r3 := 0) rfl (by decide) ?_
        refine wr_ia (k0 := 238) (a := 73) (f := 73) (x := h 238 73) (nx := 66) (r1 := 0) (r2 := 0) (r3 := 0) rfl (by decide) rfl (by omega) (by omega) (by decide) rfl ?_
        refine wr_add (nx := 67) (r1 := 0) (r2 := 0) (r3 := 0) rfl (fun e24 (fe24 : e24 = 19 + (h 238 73)) => ?_)
        refine wi_iload_n (i := 3) (e := a2) (nx := 68) (r1 := 0) (r2 := 0) (r3 := 0) rfl rfl ?_
        refine wr_add (nx := 69) (r1 := 0) (r2 := 0) (r3 := 0) rfl (fun e25 (fe25 : e25 = e24 + a2) => ?_)
        obtain ⟨i26, ei26⟩ : ∃ q : Nat, e25 = (q : Int) := ⟨(e25).toNat, by omega⟩
        refine wr_ia (k0 := 238) (a := e25) (f := i26) (x := h 238 i26) (nx := 70) (r1 := 0) (r2 := 0) (r3 := 0) rfl (by decide) rfl (by omega) (by omega) (by decide) rfl ?_
        refine wi_icmp (cd := .ne) (nx := 73) (r1 := 77) (r2 := 0) (r3 := 0) rfl (by omega) (by omega) (fun (q27 : (h 238 i23) ≠ (h 238 i26)) => ?_) (fun (q27 : ¬ ((h 238 i23) ≠ (h 238 i26))) => ?_)
        ·
          refine wi_iconst (n := 0) (nx := 78) (r1 := 0) (r2 := 0) (r3 := 0) rfl ?_
          refine wi_zreturn (nx := 79) (r1 := 0) (r2 := 0) (r3 := 0) rfl rfl (by omega) ?_
          exact k 0 (by omega) (Or.inr ⟨rfl, fun ⟨b1, b2, b3⟩ => by rw [show 19 + (h 238 73 + a1).toNat = i23 by omega, show 19 + (h 238 73).toNat + (a2).toNat = i26 by omega] at b3; omega⟩)
        ·
          refine wi_iconst (n := 1) (nx := 74) (r1 := 0) (r2 := 0) (r3 := 0) rfl ?_
          refine wi_goto (nx := 77) (r1 := 78) (r2 := 0) (r3 := 0) rfl ?_
          refine wi_zreturn (nx := 79) (r1 := 0) (r2 := 0) (r3 := 0) rfl rfl (by omega) ?_
          exact k 1 (by omega) (Or.inl ⟨rfl, by omega, ⟨by omega, by omega⟩, by rw [show 19 + (h 238 73 + a1).toNat = i23 by omega, show 19 + (h 238 73).toNat + (a2).toNat = i26 by omega]; omega⟩)
    ·
      refine wi_iconst (n := 1) (nx := 10) (r1 := 0) (r2 := 0) (r3 := 0) rfl ?_
      refine wi_goto (nx := 13) (r1 := 14) (r2 := 0) (r3 := 0) rfl ?_
      refine wi_zreturn (nx := 15) (r1 := 0) (r2 := 0) (r3 := 0) rfl rfl (by omega) ?_
      refine wk_i ?_
      refine wi_if (cd := .ne) (nx := 24) (r1 := 77) (r2 := 0) (r3 := 0) rfl (by omega) (fun (q18 : 1 ≠ 0) => ?_) (fun (q18 : ¬ (1 ≠ 0)) => by exfalso; omega)
      refine wi_iconst (n := 0) (nx := 78) (r1 := 0) (r2 := 0) (r3 := 0) rfl ?_
      refine wi_zreturn (nx := 79) (r1 := 0) (r2 := 0) (r3 := 0) rfl rfl (by omega) ?_
      exact k 0 (by omega) (Or.inr ⟨rfl, fun ⟨b1, b2, b3⟩ => by omega⟩)
  ·
    refine wi_iload_n (i := 3) (e := a2) (nx := 6) (r1 := 0) (r2 := 0) (r3 := 0) rfl rfl ?_
    refine wi_iload_n (i := 2) (e := a1) (nx := 7) (r1 := 0) (r2 := 0) (r3 := 0) rfl rfl ?_
    refine wr_sub (nx := 8) (r1 := 0) (r2 := 0) (r3 := 0) rfl (fun e14 (fe14 : e14 = a2 - a1) => ?_)
    refine wi_goto (nx := 11) (r1 := 14) (r2 := 0) (r3 := 0) rfl ?_
    refine wi_istore (i := 4) (e := e14) (lo2 := [(4, vi e14), (0, .ref 236), (1, vi a0), (2, vi a1), (3, vi a2)]) (nx := 16) (r1 := 0) (r2 := 0) (r3 := 0) rfl rfl ?_
    refine wi_iload_n (i := 1) (e := a0) (nx := 17) (r1 := 0) (r2 := 0) (r3 := 0) rfl rfl ?_
    refine wi_iload_n (i := 3) (e := a2) (nx := 18) (r1 := 0) (r2 := 0) (r3 := 0) rfl rfl ?_
    refine wi_S (rest := []) (as := [vi a0, vi a2]) (nx := 21) (r1 := 318) (r2 := 18) (r3 := 0) rfl rfl rfl (of_decide_eq_true rfl) rfl rfl (of_decide_eq_true rfl) (of_decide_eq_true rfl) ?_
    refine wi_iload_n (i := 0) (e := a0) (nx := 1) (r1 := 0) (r2 := 0) (r3 := 0) rfl rfl ?_
    refine wi_iload_n (i := 1) (e := a2) (nx := 2) (r1 := 0) (r2 := 0) (r3 := 0) rfl rfl ?_
    refine wr_ishrN (x := a0) (y := a2) (nx := 3) (r1 := 0) (r2 := 0) (r3 := 0) rfl (by omega) (by omega) (fun e15 (fe15 : 0 ≤ e15 ∧ e15 ≤ a0) ve15 => ?_)
    refine wi_iconst (n := 1) (nx := 4) (r1 := 0) (r2 := 0) (r3 := 0) rfl ?_
    refine wr_iandN (x := e15) (y := 1) (nx := 5) (r1 := 0) (r2 := 0) (r3 := 0) rfl (by omega) (by omega) (fun e16 (fe16 : 0 ≤ e16 ∧ e16 ≤ e15 ∧ e16 ≤ 1) ve16 => ?_)
    have be16 : e16 = (((a0).toNat / 2 ^ (a2).toNat % 2 : Nat) : Int) := by rw [ve16, show (1 : Int).toNat = 1 from rfl, Nat.and_one_is_mod, ve15]; rfl
    refine wi_iconst (n := 1) (nx := 6) (r1 := 0) (r2 := 0) (r3 := 0) rfl ?_
    refine wi_icmp (cd := .ne) (nx := 9) (r1 := 13) (r2 := 0) (r3 := 0) rfl (by omega) (by omega) (fun (q17 : e16 ≠ 1) => ?_) (fun (q17 : ¬ (e16 ≠ 1)) => ?_)
    ·
      refine wi_iconst (n := 0) (nx := 14) (r1 := 0) (r2 := 0) (r3 := 0) rfl ?_
      refine wi_zreturn (nx := 15) (r1 := 0) (r2 := 0) (r3 := 0) rfl rfl (by omega) ?_
      refine wk_i ?_
      refine wi_if (cd := .ne) (nx := 24) (r1 := 77) (r2 := 0) (r3 := 0) rfl (by omega) (fun (q18 : 0 ≠ 0) => by exfalso; omega) (fun (q18 : ¬ (0 ≠ 0)) => ?_)
      refine wi_iload (i := 4) (e := e14) (nx := 26) (r1 := 0) (r2 := 0) (r3 := 0) rfl rfl ?_
      refine wi_aload_n (i := 0) (x := 236) (nx := 27) (r1 := 0) (r2 := 0) (r3 := 0) rfl rfl ?_
      refine wr_gr (k0 := 236) (x := 238) (nx := 30) (r1 := 11) (r2 := 13) (r3 := 0) rfl rfl (by decide) rfl ⟨rfl, rfl⟩ rfl ?_
      refine wi_bipush (n := 9) (nx := 32) (r1 := 0) (r2 := 0) (r3 := 0) rfl (by decide) ?_
      have b19 := gi_b (lo := 0) (hi := 999) g 238 9 rfl
      refine wr_ia (k0 := 238) (a := 9) (f := 9) (x := h 238 9) (nx := 33) (r1 := 0) (r2 := 0) (r3 := 0) rfl (by decide) rfl (by omega) (by omega) (by decide) rfl ?_
      refine wi_icmp (cd := .gt) (nx := 36) (r1 := 77) (r2 := 0) (r3 := 0) rfl (by omega) (by omega) (fun (q20 : (h 238 9) < e14) => ?_) (fun (q20 : ¬ ((h 238 9) < e14)) => ?_)
      ·
        refine wi_iconst (n := 0) (nx := 78) (r1 := 0) (r2 := 0) (r3 := 0) rfl ?_
        refine wi_zreturn (nx := 79) (r1 := 0) (r2 := 0) (r3 := 0) rfl rfl (by omega) ?_
        exact k 0 (by omega) (Or.inr ⟨rfl, fun ⟨b1, b2, b3⟩ => by omega⟩)
      ·
        refine wi_aload_n (i := 0) (x := 236) (nx := 37) (r1 := 0) (r2 := 0) (r3 := 0) rfl rfl ?_
        refine wr_gr (k0 := 236) (x := 238) (nx := 40) (r1 := 11) (r2 := 13) (r3 := 0) rfl rfl (by decide) rfl ⟨rfl, rfl⟩ rfl ?_
        refine wi_bipush (n := 19) (nx := 42) (r1 := 0) (r2 := 0) (r3 := 0) rfl (by decide) ?_
        refine wi_aload_n (i := 0) (x := 236) (nx := 43) (r1 := 0) (r2 := 0) (r3 := 0) rfl rfl ?_
        refine wr_gr (k0 := 236) (x := 238) (nx := 46) (r1 := 11) (r2 := 13) (r3 := 0) rfl rfl (by decide) rfl ⟨rfl, rfl⟩ rfl ?_
        refine wi_bipush (n := 73) (nx := 48) (r1 := 0) (r2 := 0) (r3 := 0) rfl (by decide) ?_
        refine wr_ia (k0 := 238) (a := 73) (f := 73) (x := h 238 73) (nx := 49) (r1 := 0) (r2 := 0) (r3 := 0) rfl (by decide) rfl (by omega) (by omega) (by decide) rfl ?_
        refine wr_add (nx := 50) (r1 := 0) (r2 := 0) (r3 := 0) rfl (fun e21 (fe21 : e21 = 19 + (h 238 73)) => ?_)
        refine wi_iload_n (i := 2) (e := a1) (nx := 51) (r1 := 0) (r2 := 0) (r3 := 0) rfl rfl ?_
        refine wr_add (nx := 52) (r1 := 0) (r2 := 0) (r3 := 0) rfl (fun e22 (fe22 : e22 = e21 + a1) => ?_)
        obtain ⟨i23, ei23⟩ : ∃ q : Nat, e22 = (q : Int) := ⟨(e22).toNat, by omega⟩
        refine wr_ia (k0 := 238) (a := e22) (f := i23) (x := h 238 i23) (nx := 53) (r1 := 0) (r2 := 0) (r3 := 0) rfl (by decide) rfl (by omega) (by omega) (by decide) rfl ?_
        refine wi_aload_n (i := 0) (x := 236) (nx := 54) (r1 := 0) (r2 := 0) (r3 := 0) rfl rfl ?_
        refine wr_gr (k0 := 236) (x := 238) (nx := 57) (r1 := 11) (r2 := 13) (r3 := 0) rfl rfl (by decide) rfl ⟨rfl, rfl⟩ rfl ?_
        refine wi_bipush (n := 19) (nx := 59) (r1 := 0) (r2 := 0) (r3 := 0) rfl (by decide) ?_
        refine wi_aload_n (i := 0) (x := 236) (nx := 60) (r1 := 0) (r2 := 0) (r3 := 0) rfl rfl ?_
        refine wr_gr (k0 := 236) (x := 238) (nx := 63) (r1 := 11) (r2 := 13) (r3 := 0) rfl rfl (by decide) rfl ⟨rfl, rfl⟩ rfl ?_
        refine wi_bipush (n := 73) (nx := 65) (r1 := 0) (r2 := 0) (r3 := 0) rfl (by decide) ?_
        refine wr_ia (k0 := 238) (a := 73) (f := 73) (x := h 238 73) (nx := 66) (r1 := 0) (r2 := 0) (r3 := 0) rfl (by decide) rfl (by omega) (by omega) (by decide) rfl ?_
        refine wr_add (nx := 67) (r1 := 0) (r2 := 0) (r3 := 0) rfl (fun e24 (fe24 : e24 = 19 + (h 238 73)) => ?_)
        refine wi_iload_n (i := 3) (e := a2) (nx := 68) (r1 := 0) (r2 := 0) (r3 := 0) rfl rfl ?_
        refine wr_add (nx := 69) (r1 := 0) (r2 := 0) (r3 := 0) rfl (fun e25 (fe25 : e25 = e24 + a2) => ?_)
        obtain ⟨i26, ei26⟩ : ∃ q : Nat, e25 = (q : Int) := ⟨(e25).toNat, by omega⟩
        refine wr_ia (k0 := 238) (a := e25) (f := i26) (x := h 238 i26) (nx := 70) (r1 := 0) (r2 := 0) (r3 := 0) rfl (by decide) rfl (by omega) (by omega) (by decide) rfl ?_
        refine wi_icmp (cd := .ne) (nx := 73) (r1 := 77) (r2 := 0) (r3 := 0) rfl (by omega) (by omega) (fun (q27 : (h 238 i23) ≠ (h 238 i26)) => ?_) (fun (q27 : ¬ ((h 238 i23) ≠ (h 238 i26))) => ?_)
        ·
          refine wi_iconst (n := 0) (nx := 78) (r1 := 0) (r2 := 0) (r3 := 0) rfl ?_
          refine wi_zreturn (nx := 79) (r1 := 0) (r2 := 0) (r3 := 0) rfl rfl (by omega) ?_
          exact k 0 (by omega) (Or.inr ⟨rfl, fun ⟨b1, b2, b3⟩ => by rw [show 19 + (h 238 73 + a1).toNat = i23 by omega, show 19 + (h 238 73).toNat + (a2).toNat = i26 by omega] at b3; omega⟩)
        ·
          refine wi_iconst (n := 1) (nx := 74) (r1 := 0) (r2 := 0) (r3 := 0) rfl ?_
          refine wi_goto (nx := 77) (r1 := 78) (r2 := 0) (r3 := 0) rfl ?_
          refine wi_zreturn (nx := 79) (r1 := 0) (r2 := 0) (r3 := 0) rfl rfl (by omega) ?_
          exact k 1 (by omega) (Or.inl ⟨rfl, by omega, ⟨by omega, by omega⟩, by rw [show 19 + (h 238 73 + a1).toNat = i23 by omega, show 19 + (h 238 73).toNat + (a2).toNat = i26 by omega]; omega⟩)
    ·
      refine wi_iconst (n := 1) (nx := 10) (r1 := 0) (r2 := 0) (r3 := 0) rfl ?_
      refine wi_goto (nx := 13) (r1 := 14) (r2 := 0) (r3 := 0) rfl ?_
      refine wi_zreturn (nx := 15) (r1 := 0) (r2 := 0) (r3 := 0) rfl rfl (by omega) ?_
      refine wk_i ?_
      refine wi_if (cd := .ne) (nx := 24) (r1 := 77) (r2 := 0) (r3 := 0) rfl (by omega) (fun (q18 : 1 ≠ 0) => ?_) (fun (q18 : ¬ (1 ≠ 0)) => by exfalso; omega)
      refine wi_iconst (n := 0) (nx := 78) (r1 := 0) (r2 := 0) (r3 := 0) rfl ?_
      refine wi_zreturn (nx := 79) (r1 := 0) (r2 := 0) (r3 := 0) rfl rfl (by omega) ?_
      exact k 0 (by omega) (Or.inr ⟨rfl, fun ⟨b1, b2, b3⟩ => by omega⟩)
-- method 328: Model.fewestBy(III)I
set_option maxRecDepth 100000 in
set_option maxHeartbeats 100000000 in
theorem ct_328_236 {L : Nat} {xs : Nat → Int32} {d b c : Nat} {h : hp} {cr : Nat → Nat → Option Nat} {Q : hp_Q} (hcr : CR cr)  (g : GI h) (a0 : Int) (a1 : Int) (a2 : Int) (q0_ : 0 ≤ a0 ∧ a0 ≤ 4095) (q1_ : 0 ≤ a1 ∧ a1 ≤ 5) (q2_ : 0 ≤ a2 ∧ a2 ≤ 11) (pp0 : a2 + h 238 73 ≤ 11) (k : ∀ (z0 : Int), (0 ≤ z0 ∧ z0 ≤ 1000000) → (z0 = fb (h 238) (h 249) (a0).toNat a1 (a2).toNat) → Q (.inl (some (vi z0))) (hp_w h cr) b c) : wp (md_xa (L, xs)) (d + 2) 328 (0, [(0, .ref 236), (1, vi a0), (2, vi a1), (3, vi a2)], [], hp_w h cr, b, c) Q := by
  have F0 : FR [] h h := FR.refl
  have b1 := gi_b (lo := 0) (hi := 12) g 238 73 rfl
  refine wi_aload_n (i := 0) (x := 236) (nx := 1) (r1 := 0) (r2 := 0) (r3 := 0) rfl rfl ?_
  refine wr_gr (k0 := 236) (x := 249) (nx := 4) (r1 := 11) (r2 := 33) (r3 := 0) rfl rfl (by decide) rfl ⟨rfl, rfl⟩ rfl ?_
  refine wi_bipush (n := 6) (nx := 6) (r1 := 0) (r2 := 0) (r3 := 0) rfl (by decide) ?_
  refine wi_iload_n (i := 1) (e := a0) (nx := 7) (r1 := 0) (r2 := 0) (r3 := 0) rfl rfl ?_
  refine wi_iconst (n := 1) (nx := 8) (r1 := 0) (r2 := 0) (r3 := 0) rfl ?_
  refine wi_iload_n (i := 3) (e := a2) (nx := 9) (r1 := 0) (r2 := 0) (r3 := 0) rfl rfl ?_
  refine wr_ishl1 (y := a2) (nx := 10) (r1 := 0) (r2 := 0) (r3 := 0) rfl (by omega) (fun e2 (fe2 : 1 ≤ e2 ∧ e2 ≤ 4096) ve2 => ?_)
  have ke2 : e2 ≤ 2048 := by rw [ve2]; have := Nat.pow_le_pow_right (show 0 < 2 by decide) (show (a2).toNat ≤ 11 by omega); omega
  refine wr_iorN (x := a0) (y := e2) 12 4096 (by decide) (by decide) (nx := 11) (r1 := 0) (r2 := 0) (r3 := 0) rfl (by omega) (by omega) (fun e3 (fe3 : 0 ≤ e3 ∧ e3 < 4096) ve3 => ?_)
  rw [show (e2).toNat = 2 ^ (a2).toNat by omega] at ve3
  refine wr_mul (nx := 12) (r1 := 0) (r2 := 0) (r3 := 0) rfl (fun e4 (fe4 : e4 = 6 * e3) => ?_)
  refine wi_aload_n (i := 0) (x := 236) (nx := 13) (r1 := 0) (r2 := 0) (r3 := 0) rfl rfl ?_
  refine wi_iload_n (i := 3) (e := a2) (nx := 14) (r1 := 0) (r2 := 0) (r3 := 0) rfl rfl ?_
  refine wr_V (k0 := 236) (rest := [vi e4, .ref 249]) (as := [.ref 236, vi a2]) (nx := 17) (r1 := 322) (r2 := 1) (r3 := 11) rfl rfl rfl (of_decide_eq_true rfl) rfl rfl (by decide) rfl rfl (of_decide_eq_true rfl) (of_decide_eq_true rfl) ?_
  refine wi_aload_n (i := 0) (x := 236) (nx := 1) (r1 := 0) (r2 := 0) (r3 := 0) rfl rfl ?_
  refine wr_gr (k0 := 236) (x := 238) (nx := 4) (r1 := 11) (r2 := 13) (r3 := 0) rfl rfl (by decide) rfl ⟨rfl, rfl⟩ rfl ?_
  refine wi_bipush (n := 31) (nx := 6) (r1 := 0) (r2 := 0) (r3 := 0) rfl (by decide) ?_
  refine wi_aload_n (i := 0) (x := 236) (nx := 7) (r1 := 0) (r2 := 0) (r3 := 0) rfl rfl ?_
  refine wr_gr (k0 := 236) (x := 238) (nx := 10) (r1 := 11) (r2 := 13) (r3 := 0) rfl rfl (by decide) rfl ⟨rfl, rfl⟩ rfl ?_
  refine wi_bipush (n := 73) (nx := 12) (r1 := 0) (r2 := 0) (r3 := 0) rfl (by decide) ?_
  refine wr_ia (k0 := 238) (a := 73) (f := 73) (x := h 238 73) (nx := 13) (r1 := 0) (r2 := 0) (r3 := 0) rfl (by decide) rfl (by omega) (by omega) (by decide) rfl ?_
  refine wr_add (nx := 14) (r1 := 0) (r2 := 0) (r3 := 0) rfl (fun e5 (fe5 : e5 = 31 + (h 238 73)) => ?_)
  refine wi_iload_n (i := 1) (e := a2) (nx := 15) (r1 := 0) (r2 := 0) (r3 := 0) rfl rfl ?_
  refine wr_add (nx := 16) (r1 := 0) (r2 := 0) (r3 := 0) rfl (fun e6 (fe6 : e6 = e5 + a2) => ?_)
  obtain ⟨i7, ei7⟩ : ∃ q : Nat, e6 = (q : Int) := ⟨(e6).toNat, by omega⟩
  have b8 := gi_b (lo := 0) (hi := 4) g 238 i7 (gi_rg 31 12 (fun _ => rfl) (by decide +kernel) (by omega))
  refine wr_ia (k0 := 238) (a := e6) (f := i7) (x := h 238 i7) (nx := 17) (r1 := 0) (r2 := 0) (r3 := 0) rfl (by decide) rfl (by omega) (by omega) (by decide) rfl ?_
  refine wi_ireturn (nx := 18) (r1 := 0) (r2 := 0) (r3 := 0) rfl rfl ?_
  refine wk_i ?_
  refine wr_add (nx := 18) (r1 := 0) (r2 := 0) (r3 := 0) rfl (fun e9 (fe9 : e9 = e4 + (h 238 i7)) => ?_)
  obtain ⟨i10, ei10⟩ : ∃ q : Nat, e9 = (q : Int) := ⟨(e9).toNat, by omega⟩
  have b11 := gi_b (lo := 0) (hi := 1000000) g 249 i10 rfl
  refine wr_ia (k0 := 249) (a := e9) (f := i10) (x := h 249 i10) (nx := 19) (r1 := 0) (r2 := 0) (r3 := 0) rfl (by decide) rfl (by omega) (by omega) (by decide) rfl ?_
  refine wi_istore (i := 4) (e := h 249 i10) (lo2 := [(4, vi (h 249 i10)), (0, .ref 236), (1, vi a0), (2, vi a1), (3, vi a2)]) (nx := 21) (r1 := 0) (r2 := 0) (r3 := 0) rfl rfl ?_
  refine wi_iload (i := 4) (e := h 249 i10) (nx := 23) (r1 := 0) (r2 := 0) (r3 := 0) rfl rfl ?_
  refine wi_ldc_w (e := 1000000) (nx := 26) (r1 := 0) (r2 := 1000000) (r3 := 0) rfl (by decide) ?_
  refine wi_icmp (cd := .ne) (nx := 29) (r1 := 35) (r2 := 0) (r3 := 0) rfl (by omega) (by omega) (fun (q12 : (h 249 i10) ≠ 1000000) => ?_) (fun (q12 : ¬ ((h 249 i10) ≠ 1000000)) => ?_)
  ·
    refine wi_aload_n (i := 0) (x := 236) (nx := 36) (r1 := 0) (r2 := 0) (r3 := 0) rfl rfl ?_
    refine wi_iload_n (i := 2) (e := a1) (nx := 37) (r1 := 0) (r2 := 0) (r3 := 0) rfl rfl ?_
    refine wi_aload_n (i := 0) (x := 236) (nx := 38) (r1 := 0) (r2 := 0) (r3 := 0) rfl rfl ?_
    refine wi_iload_n (i := 3) (e := a2) (nx := 39) (r1 := 0) (r2 := 0) (r3 := 0) rfl rfl ?_
    refine wr_V (k0 := 236) (rest := [vi a1, .ref 236]) (as := [.ref 236, vi a2]) (nx := 42) (r1 := 322) (r2 := 1) (r3 := 11) rfl rfl rfl (of_decide_eq_true rfl) rfl rfl (by decide) rfl rfl (of_decide_eq_true rfl) (of_decide_eq_true rfl) ?_
    refine wi_aload_n (i := 0) (x := 236) (nx := 1) (r1 := 0) (r2 := 0) (r3 := 0) rfl rfl ?_
    refine wr_gr (k0 := 236) (x := 238) (nx := 4) (r1 := 11) (r2 := 13) (r3 := 0) rfl rfl (by decide) rfl ⟨rfl, rfl⟩ rfl ?_
    refine wi_bipush (n := 31) (nx := 6) (r1 := 0) (r2 := 0) (r3 := 0) rfl (by decide) ?_
    refine wi_aload_n (i := 0) (x := 236) (nx := 7) (r1 := 0) (r2 := 0) (r3 := 0) rfl rfl ?_
    refine wr_gr (k0 := 236) (x := 238) (nx := 10) (r1 := 11) (r2 := 13) (r3 := 0) rfl rfl (by decide) rfl ⟨rfl, rfl⟩ rfl ?_
    refine wi_bipush (n := 73) (nx := 12) (r1 := 0) (r2 := 0) (r3 := 0) rfl (by decide) ?_
    refine wr_ia (k0 := 238) (a := 73) (f := 73) (x := h 238 73) (nx := 13) (r1 := 0) (r2 := 0) (r3 := 0) rfl (by decide) rfl (by omega) (by omega) (by decide) rfl ?_
    refine wr_add (nx := 14) (r1 := 0) (r2 := 0) (r3 := 0) rfl (fun e13 (fe13 : e13 = 31 + (h 238 73)) => ?_)
    refine wi_iload_n (i := 1) (e := a2) (nx := 15) (r1 := 0) (r2 := 0) (r3 := 0) rfl rfl ?_
    refine wr_add (nx := 16) (r1 := 0) (r2 := 0) (r3 := 0) rfl (fun e14 (fe14 : e14 = e13 + a2) => ?_)
    refine wr_ia (k0 := 238) (a := e14) (f := i7) (x := h 238 i7) (nx := 17) (r1 := 0) (r2 := 0) (r3 := 0) rfl (by decide) rfl (by omega) (by omega) (by decide) rfl ?_
    refine wi_ireturn (nx := 18) (r1 := 0) (r2 := 0) (r3 := 0) rfl rfl ?_
    refine wk_i ?_
    refine wr_V (k0 := 236) (rest := []) (as := [.ref 236, vi a1, vi (h 238 i7)]) (nx := 45) (r1 := 329) (r2 := 2) (r3 := 11) rfl rfl rfl (of_decide_eq_true rfl) rfl rfl (by decide) rfl rfl (of_decide_eq_true rfl) (of_decide_eq_true rfl) ?_
    refine wi_iload_n (i := 1) (e := a1) (nx := 1) (r1 := 0) (r2 := 0) (r3 := 0) rfl rfl ?_
    refine wi_iconst (n := 5) (nx := 2) (r1 := 0) (r2 := 0) (r3 := 0) rfl ?_
    refine wi_icmp (cd := .eq) (nx := 5) (r1 := 14) (r2 := 0) (r3 := 0) rfl (by omega) (by omega) (fun (q15 : a1 = 5) => ?_) (fun (q15 : ¬ (a1 = 5)) => ?_)
    ·
      refine wi_iconst (n := 0) (nx := 15) (r1 := 0) (r2 := 0) (r3 := 0) rfl ?_
      refine wi_S (rest := []) (as := [vi 0]) (nx := 18) (r1 := 207) (r2 := 17) (r3 := 0) rfl rfl rfl (of_decide_eq_true rfl) rfl rfl (of_decide_eq_true rfl) (of_decide_eq_true rfl) ?_
      refine wi_iload_n (i := 0) (e := 0) (nx := 1) (r1 := 0) (r2 := 0) (r3 := 0) rfl rfl ?_
      refine wi_if (cd := .eq) (nx := 4) (r1 := 8) (r2 := 0) (r3 := 0) rfl (by omega) (fun (q16 : 0 = 0) => ?_) (fun (q16 : ¬ (0 = 0)) => by exfalso; omega)
      refine wi_iconst (n := 0) (nx := 9) (r1 := 0) (r2 := 0) (r3 := 0) rfl ?_
      refine wi_ireturn (nx := 10) (r1 := 0) (r2 := 0) (r3 := 0) rfl rfl ?_
      refine wk_i ?_
      refine wi_ireturn (nx := 19) (r1 := 0) (r2 := 0) (r3 := 0) rfl rfl ?_
      refine wk_i ?_
      refine wi_iload (i := 4) (e := h 249 i10) (nx := 47) (r1 := 0) (r2 := 0) (r3 := 0) rfl rfl ?_
      refine wr_add (nx := 48) (r1 := 0) (r2 := 0) (r3 := 0) rfl (fun e17 (fe17 : e17 = 0 + (h 249 i10)) => ?_)
      refine wi_ireturn (nx := 49) (r1 := 0) (r2 := 0) (r3 := 0) rfl rfl ?_
      exact k e17 (by omega) (by
          unfold fb jc
          rw [show 31 + (h 238 73).toNat + (a2).toNat = i7 by omega, show 6 * ((a0).toNat ||| 2 ^ (a2).toNat) + (h 238 i7).toNat = i10 by omega]
          split
          · omega
          · split <;> omega)
    ·
      refine wi_iload_n (i := 1) (e := a1) (nx := 6) (r1 := 0) (r2 := 0) (r3 := 0) rfl rfl ?_
      refine wi_iload_n (i := 2) (e := h 238 i7) (nx := 7) (r1 := 0) (r2 := 0) (r3 := 0) rfl rfl ?_
      refine wi_icmp (cd := .eq) (nx := 10) (r1 := 14) (r2 := 0) (r3 := 0) rfl (by omega) (by omega) (fun (q16 : a1 = (h 238 i7)) => ?_) (fun (q16 : ¬ (a1 = (h 238 i7))) => ?_)
      ·
        refine wi_iconst (n := 0) (nx := 15) (r1 := 0) (r2 := 0) (r3 := 0) rfl ?_
        refine wi_S (rest := []) (as := [vi 0]) (nx := 18) (r1 := 207) (r2 := 17) (r3 := 0) rfl rfl rfl (of_decide_eq_true rfl) rfl rfl (of_decide_eq_true rfl) (of_decide_eq_true rfl) ?_
        refine wi_iload_n (i := 0) (e := 0) (nx := 1) (r1 := 0) (r2 := 0) (r3 := 0) rfl rfl ?_
        refine wi_if (cd := .eq) (nx := 4) (r1 := 8) (r2 := 0) (r3 := 0) rfl (by omega) (fun (q17 : 0 = 0) => ?_) (fun (q17 : ¬ (0 = 0)) => by exfalso; omega)
        refine wi_iconst (n := 0) (nx := 9) (r1 := 0) (r2 := 0) (r3 := 0) rfl ?_
        refine wi_ireturn (nx := 10) (r1 := 0) (r2 := 0) (r3 := 0) rfl rfl ?_
        refine wk_i ?_
        refine wi_ireturn (nx := 19) (r1 := 0) (r2 := 0) (r3 := 0) rfl rfl ?_
        refine wk_i ?_
        refine wi_iload (i := 4) (e := h 249 i10) (nx := 47) (r1 := 0) (r2 := 0) (r3 := 0) rfl rfl ?_
        refine wr_add (nx := 48) (r1 := 0) (r2 := 0) (r3 := 0) rfl (fun e18 (fe18 : e18 = 0 + (h 249 i10)) => ?_)
        refine wi_ireturn (nx := 49) (r1 := 0) (r2 := 0) (r3 := 0) rfl rfl ?_
        exact k e18 (by omega) (by
            unfold fb jc
            rw [show 31 + (h 238 73).toNat + (a2).toNat = i7 by omega, show 6 * ((a0).toNat ||| 2 ^ (a2).toNat) + (h 238 i7).toNat = i10 by omega]
            split
            · omega
            · split <;> omega)
      ·
        refine wi_iconst (n := 1) (nx := 11) (r1 := 0) (r2 := 0) (r3 := 0) rfl ?_
        refine wi_goto (nx := 14) (r1 := 15) (r2 := 0) (r3 := 0) rfl ?_
        refine wi_S (rest := []) (as := [vi 1]) (nx := 18) (r1 := 207) (r2 := 17) (r3 := 0) rfl rfl rfl (of_decide_eq_true rfl) rfl rfl (of_decide_eq_true rfl) (of_decide_eq_true rfl) ?_
        refine wi_iload_n (i := 0) (e := 1) (nx := 1) (r1 := 0) (r2 := 0) (r3 := 0) rfl rfl ?_
        refine wi_if (cd := .eq) (nx := 4) (r1 := 8) (r2 := 0) (r3 := 0) rfl (by omega) (fun (q17 : 1 = 0) => by exfalso; omega) (fun (q17 : ¬ (1 = 0)) => ?_)
        refine wi_iconst (n := 1) (nx := 5) (r1 := 0) (r2 := 0) (r3 := 0) rfl ?_
        refine wi_goto (nx := 8) (r1 := 9) (r2 := 0) (r3 := 0) rfl ?_
        refine wi_ireturn (nx := 10) (r1 := 0) (r2 := 0) (r3 := 0) rfl rfl ?_
        refine wk_i ?_
        refine wi_ireturn (nx := 19) (r1 := 0) (r2 := 0) (r3 := 0) rfl rfl ?_
        refine wk_i ?_
        refine wi_iload (i := 4) (e := h 249 i10) (nx := 47) (r1 := 0) (r2 := 0) (r3 := 0) rfl rfl ?_
        refine wr_add (nx := 48) (r1 := 0) (r2 := 0) (r3 := 0) rfl (fun e18 (fe18 : e18 = 1 + (h 249 i10)) => ?_)
        refine wi_ireturn (nx := 49) (r1 := 0) (r2 := 0) (r3 := 0) rfl rfl ?_
        exact k e18 (by omega) (by
            unfold fb jc
            rw [show 31 + (h 238 73).toNat + (a2).toNat = i7 by omega, show 6 * ((a0).toNat ||| 2 ^ (a2).toNat) + (h 238 i7).toNat = i10 by omega]
            split
            · omega
            · split <;> omega)
  ·
    refine wi_ldc_w (e := 1000000) (nx := 32) (r1 := 0) (r2 := 1000000) (r3 := 0) rfl (by decide) ?_
    refine wi_goto (nx := 35) (r1 := 48) (r2 := 0) (r3 := 0) rfl ?_
    refine wi_ireturn (nx := 49) (r1 := 0) (r2 := 0) (r3 := 0) rfl rfl ?_
    exact k 1000000 (by omega) (by
        unfold fb jc
        rw [show 31 + (h 238 73).toNat + (a2).toNat = i7 by omega, show 6 * ((a0).toNat ||| 2 ^ (a2).toNat) + (h 238 i7).toNat = i10 by omega]
        split
        · omega
        · split <;> omega)
-- method 325: Model.laysFewest()V
set_option maxRecDepth 100000 in
set_option maxHeartbeats 100000000 in
theorem ct_325_236 {L : Nat} {xs : Nat → Int32} {d b c : Nat} {h : hp} {cr : Nat → Nat → Option Nat} {Q : hp_Q} (hcr : CR cr)  (g : GI h)   (pp0 : h 238 98 + h 238 99 + h 238 100 + h 238 101 + h 238 102 + h 238 106 = h 238 73) (pp1 : h 238 73 ≤ h 238 2) (pp2 : h 238 119 ≤ h 238 67) (pp3 : h 238 69 ≤ h 238 5) (pp4 : h 238 2 ≤ 12 * h 238 5) (k : ∀ (h2 : hp) , GI h2 → FR [(249, 249, none)] h h2 → (FTA (h2 238) (h2 249)) → Q (.inl none) (hp_w h2 cr) b c) : wp (md_xa (L, xs)) (d + 3) 325 (0, [(0, .ref 236)], [], hp_w h cr, b, c) Q := by
  have F0 : FR [(249, 249, none)] h h := FR.refl
  have b1 := gi_b (lo := 0) (hi := 6) g 238 98 rfl
  have b2 := gi_b (lo := 0) (hi := 6) g 238 99 rfl
  have b3 := gi_b (lo := 0) (hi := 6) g 238 100 rfl
  have b4 := gi_b (lo := 0) (hi := 6) g 238 101 rfl
  have b5 := gi_b (lo := 0) (hi := 3) g 238 102 rfl
  have b6 := gi_b (lo := 0) (hi := 12) g 238 106 rfl
  have b7 := gi_b (lo := 0) (hi := 12) g 238 73 rfl
  have b8 := gi_b (lo := 0) (hi := 12) g 238 2 rfl
  have b9 := gi_b (lo := 0) (hi := 9999) g 238 119 rfl
  have b10 := gi_b (lo := 0) (hi := 9999) g 238 67 rfl
  have b11 := gi_b (lo := 0) (hi := 9) g 238 69 rfl
  have b12 := gi_b (lo := 0) (hi := 9) g 238 5 rfl
  refine wi_iconst (n := 1) (nx := 1) (r1 := 0) (r2 := 0) (r3 := 0) rfl ?_
  refine wi_aload_n (i := 0) (x := 236) (nx := 2) (r1 := 0) (r2 := 0) (r3 := 0) rfl rfl ?_
  refine wr_V (k0 := 236) (rest := [vi 1]) (as := [.ref 236]) (nx := 5) (r1 := 321) (r2 := 0) (r3 := 11) rfl rfl rfl (of_decide_eq_true rfl) rfl rfl (by decide) rfl rfl (of_decide_eq_true rfl) (of_decide_eq_true rfl) ?_
  refine wi_aload_n (i := 0) (x := 236) (nx := 1) (r1 := 0) (r2 := 0) (r3 := 0) rfl rfl ?_
  refine wr_gr (k0 := 236) (x := 238) (nx := 4) (r1 := 11) (r2 := 13) (r3 := 0) rfl rfl (by decide) rfl ⟨rfl, rfl⟩ rfl ?_
  refine wi_iconst (n := 2) (nx := 5) (r1 := 0) (r2 := 0) (r3 := 0) rfl ?_
  refine wr_ia (k0 := 238) (a := 2) (f := 2) (x := h 238 2) (nx := 6) (r1 := 0) (r2 := 0) (r3 := 0) rfl (by decide) rfl (by omega) (by omega) (by decide) rfl ?_
  refine wi_aload_n (i := 0) (x := 236) (nx := 7) (r1 := 0) (r2 := 0) (r3 := 0) rfl rfl ?_
  refine wr_gr (k0 := 236) (x := 238) (nx := 10) (r1 := 11) (r2 := 13) (r3 := 0) rfl rfl (by decide) rfl ⟨rfl, rfl⟩ rfl ?_
  refine wi_bipush (n := 73) (nx := 12) (r1 := 0) (r2 := 0) (r3 := 0) rfl (by decide) ?_
  refine wr_ia (k0 := 238) (a := 73) (f := 73) (x := h 238 73) (nx := 13) (r1 := 0) (r2 := 0) (r3 := 0) rfl (by decide) rfl (by omega) (by omega) (by decide) rfl ?_
  refine wr_sub (nx := 14) (r1 := 0) (r2 := 0) (r3 := 0) rfl (fun e13 (fe13 : e13 = (h 238 2) - (h 238 73)) => ?_)
  refine wi_ireturn (nx := 15) (r1 := 0) (r2 := 0) (r3 := 0) rfl rfl ?_
  refine wk_i ?_
  refine wr_ishl1 (y := e13) (nx := 6) (r1 := 0) (r2 := 0) (r3 := 0) rfl (by omega) (fun e14 (fe14 : 1 ≤ e14 ∧ e14 ≤ 4096) ve14 => ?_)
  refine wi_iconst (n := 1) (nx := 7) (r1 := 0) (r2 := 0) (r3 := 0) rfl ?_
  refine wr_sub (nx := 8) (r1 := 0) (r2 := 0) (r3 := 0) rfl (fun e15 (fe15 : e15 = e14 - 1) => ?_)
  have rc := gi_RC g (by omega)
  have rw_ := rc.w
  have pl := pow_le rw_.1
  have pw : e14 = ((2 ^ wn (h 238) : Nat) : Int) := by rw [ve14, show (e13).toNat = wn (h 238) by unfold wn; omega]
  refine wi_istore_n (i := 1) (e := e15) (lo2 := [(1, vi e15), (0, .ref 236)]) (nx := 9) (r1 := 0) (r2 := 0) (r3 := 0) rfl rfl ?_
  refine wi_iload_n (i := 1) (e := e15) (nx := 10) (r1 := 0) (r2 := 0) (r3 := 0) rfl rfl ?_
  refine wi_istore_n (i := 2) (e := e15) (lo2 := [(2, vi e15), (1, vi e15), (0, .ref 236)]) (nx := 11) (r1 := 0) (r2 := 0) (r3 := 0) rfl rfl ?_
  refine wp.lo (lo := [(0, .ref 236), (1, vi e15), (2, vi e15)]) ⟨rfl, rfl, rfl, trivial⟩ rfl ?_
  refine wl_1 (fun x16 h17 => GI h17 ∧ FR [(249, 249, none)] h h17 ∧ FR [(249, 249, none)] h h17 ∧ ((-1 ≤ x16 ∧ x16 ≤ 4095)) ∧ (∀ t : Nat, x16 < (t : Int) → t < 2 ^ wn (h 238) → FT (h 238) (h17 249) t 6)) (fun x16 h17 => ((x16 : Int) - (-1)).toNat) (fun x16 h17 => (11, [(0, .ref 236), (1, vi e15), (2, vi x16)], [], hp_w h17 cr, b, c)) ?_ e15 h ⟨g, F0, FR.refl, (show (-1 ≤ e15 ∧ e15 ≤ 4095) by omega), (fun t e1 e2 => by exfalso; omega)⟩
  intro x16 h17 ⟨g17, F18, u17, f17, X17_0⟩ I17
  refine wi_iload_n (i := 2) (e := x16) (nx := 12) (r1 := 0) (r2 := 0) (r3 := 0) rfl rfl ?_
  refine wi_if (cd := .lt) (nx := 15) (r1 := 115) (r2 := 0) (r3 := 0) rfl (by omega) (fun (q19 : x16 < 0) => ?_) (fun (q19 : ¬ (x16 < 0)) => ?_)
  ·
    refine wi_return (nx := 116) (r1 := 0) (r2 := 0) (r3 := 0) rfl rfl ?_
    have q20 : h17 238 = h 238 := funext (fun i => (u17 238 i (fo_no_ok (by decide) i)))
    have q21 : h17 249 = h17 249 := funext (fun i => rfl)
    exact k h17 g17 F18 (by rw [q20, q21]; exact fun t ht => X17_0 t (by omega) ht)
  ·
    refine wi_iload_n (i := 2) (e := x16) (nx := 16) (r1 := 0) (r2 := 0) (r3 := 0) rfl rfl ?_
    refine wi_S (rest := []) (as := [vi x16]) (nx := 19) (r1 := 326) (r2 := 17) (r3 := 0) rfl rfl rfl (of_decide_eq_true rfl) rfl rfl (of_decide_eq_true rfl) (of_decide_eq_true rfl) ?_
    refine ct_326 hcr  g17 x16 (by omega)  (fun z21  (fz21 : 0 ≤ z21 ∧ z21 ≤ 12) y20_0 => ?_)
    refine wk_i ?_
    refine wi_istore_n (i := 3) (e := z21) (lo2 := [(3, vi z21), (0, .ref 236), (1, vi e15), (2, vi x16)]) (nx := 20) (r1 := 0) (r2 := 0) (r3 := 0) rfl rfl ?_
    refine wi_iconst (n := 0) (nx := 21) (r1 := 0) (r2 := 0) (r3 := 0) rfl ?_
    refine wi_istore (i := 4) (e := 0) (lo2 := [(4, vi 0), (3, vi z21), (0, .ref 236), (1, vi e15), (2, vi x16)]) (nx := 23) (r1 := 0) (r2 := 0) (r3 := 0) rfl rfl ?_
    have q24 : h17 249 = h17 249 := funext (fun i => rfl)
    refine wp.lo (lo := [(0, .ref 236), (1, vi e15), (2, vi x16), (3, vi z21), (4, vi 0)]) ⟨rfl, rfl, rfl, rfl, rfl, trivial⟩ rfl ?_
    refine wl_1 (fun x22 h23 => GI h23 ∧ FR [(249, 249, none)] h h23 ∧ FR [(249, 249, none)] h h23 ∧ FR [(249, 249, none)] h17 h23 ∧ ((0 ≤ x22 ∧ x22 ≤ 6)) ∧ (∀ t : Nat, x16 < (t : Int) → t < 2 ^ wn (h 238) → FT (h 238) (h23 249) t 6) ∧ (∀ pp : Nat, (pp : Int) = x16 → FT (h 238) (h23 249) pp (x22).toNat)) (fun x22 h23 => ((6 : Int) + 1 - x22).toNat) (fun x22 h23 => (23, [(0, .ref 236), (1, vi e15), (2, vi x16), (3, vi z21), (4, vi x22)], [], hp_w h23 cr, b, c)) ?_ 0 h17 ⟨g17, F18, u17, FR.refl, (show (0 ≤ 0 ∧ 0 ≤ 6) by omega), (by rw [q24]; exact X17_0), (fun pp e a ha => absurd ha (by simp))⟩
    intro x22 h23 ⟨g23, F25, F26, u23, f23, X23_0, X23_1⟩ I23
    refine wi_iload (i := 4) (e := x22) (nx := 25) (r1 := 0) (r2 := 0) (r3 := 0) rfl rfl ?_
    refine wi_bipush (n := 6) (nx := 27) (r1 := 0) (r2 := 0) (r3 := 0) rfl (by decide) ?_
    refine wi_icmp (cd := .ge) (nx := 30) (r1 := 109) (r2 := 0) (r3 := 0) rfl (by omega) (by omega) (fun (q27 : 6 ≤ x22) => ?_) (fun (q27 : ¬ (6 ≤ x22)) => ?_)
    ·
      refine wr_iinc (i := 2) (n := (-1)) (v := x16) (fun e28 => [(2, vi e28), (0, .ref 236), (1, vi e15), (3, vi z21), (4, vi x22)]) (nx := 112) (r1 := 0) (r2 := 0) (r3 := 0) rfl rfl (fun _ => rfl) (fun e28 (fe28 : e28 = x16 + (-1)) => ?_)
      refine wi_goto (nx := 115) (r1 := 11) (r2 := 0) (r3 := 0) rfl ?_
      refine wp.lo (lo := [(0, .ref 236), (1, vi e15), (2, vi e28)]) ⟨rfl, rfl, rfl, trivial⟩ rfl ?_
      exact I17 e28 h23 ⟨g23, F25, F26, (show (-1 ≤ e28 ∧ e28 ≤ 4095) by omega), (fun t e1 e2 => by by_cases e3 : (t : Int) = x16; exact (by have e4 := X23_1 t e3; rw [show (x22).toNat = 6 by omega] at e4; exact e4); exact X23_0 t (by omega) e2)⟩ (show ((e28 : Int) - (-1)).toNat < ((x16 : Int) - (-1)).toNat by omega)
    ·
      refine wi_iload_n (i := 2) (e := x16) (nx := 31) (r1 := 0) (r2 := 0) (r3 := 0) rfl rfl ?_
      refine wi_iload_n (i := 1) (e := e15) (nx := 32) (r1 := 0) (r2 := 0) (r3 := 0) rfl rfl ?_
      refine wi_icmp (cd := .ne) (nx := 35) (r1 := 39) (r2 := 0) (r3 := 0) rfl (by omega) (by omega) (fun (q28 : x16 ≠ e15) => ?_) (fun (q28 : ¬ (x16 ≠ e15)) => ?_)
      ·
        refine wi_ldc_w (e := 1000000) (nx := 42) (r1 := 0) (r2 := 1000000) (r3 := 0) rfl (by decide) ?_
        refine wi_istore (i := 5) (e := 1000000) (lo2 := [(5, vi 1000000), (0, .ref 236), (1, vi e15), (2, vi x16), (3, vi z21), (4, vi x22)]) (nx := 44) (r1 := 0) (r2 := 0) (r3 := 0) rfl rfl ?_
        refine wi_iconst (n := 0) (nx := 45) (r1 := 0) (r2 := 0) (r3 := 0) rfl ?_
        refine wi_istore (i := 6) (e := 0) (lo2 := [(6, vi 0), (5, vi 1000000), (0, .ref 236), (1, vi e15), (2, vi x16), (3, vi z21), (4, vi x22)]) (nx := 47) (r1 := 0) (r2 := 0) (r3 := 0) rfl rfl ?_
        refine wp.lo (lo := [(0, .ref 236), (1, vi e15), (2, vi x16), (3, vi z21), (4, vi x22), (5, vi 1000000), (6, vi 0)]) ⟨rfl, rfl, rfl, rfl, rfl, rfl, rfl, trivial⟩ rfl ?_
        refine wl_2 (fun x29 x30 h31 => h23 = h31 ∧ ((0 ≤ x29 ∧ x29 ≤ 1000000) ∧ (0 ≤ x30 ∧ x30 ≤ 12)) ∧ (∀ pp : Nat, (pp : Int) = x16 → BJ (h 238) (h23 249) pp x22 1000000 x29 x30)) (fun x29 x30 h31 => ((12 : Int) + 1 - x30).toNat) (fun x29 x30 h31 => (47, [(0, .ref 236), (1, vi e15), (2, vi x16), (3, vi z21), (4, vi x22), (5, vi x29), (6, vi x30)], [], hp_w h31 cr, b, c)) ?_ 1000000 0 h23 ⟨rfl, (show (0 ≤ 1000000 ∧ 1000000 ≤ 1000000) ∧ (0 ≤ 0 ∧ 0 ≤ 12) by omega), (fun pp e => BJ.start)⟩
        intro x29 x30 h31 ⟨e31, f31, X31_0⟩ I31
        subst e31
        refine wi_iload (i := 6) (e := x30) (nx := 49) (r1 := 0) (r2 := 0) (r3 := 0) rfl rfl ?_
        refine wi_aload_n (i := 0) (x := 236) (nx := 50) (r1 := 0) (r2 := 0) (r3 := 0) rfl rfl ?_
        refine wr_V (k0 := 236) (rest := [vi x30]) (as := [.ref 236]) (nx := 53) (r1 := 321) (r2 := 0) (r3 := 11) rfl rfl rfl (of_decide_eq_true rfl) rfl rfl (by decide) rfl rfl (of_decide_eq_true rfl) (of_decide_eq_true rfl) ?_
        refine wi_aload_n (i := 0) (x := 236) (nx := 1) (r1 := 0) (r2 := 0) (r3 := 0) rfl rfl ?_
        refine wr_gr (k0 := 236) (x := 238) (nx := 4) (r1 := 11) (r2 := 13) (r3 := 0) rfl rfl (by decide) rfl ⟨rfl, rfl⟩ rfl ?_
        refine wi_iconst (n := 2) (nx := 5) (r1 := 0) (r2 := 0) (r3 := 0) rfl ?_
        refine wr_ia (k0 := 238) (a := 2) (f := 2) (x := h 238 2) (nx := 6) (r1 := 0) (r2 := 0) (r3 := 0) rfl (by decide) rfl (by omega) (by omega) (by decide) ((u23 238 2 rfl).trans (u17 238 2 rfl)) ?_
        refine wi_aload_n (i := 0) (x := 236) (nx := 7) (r1 := 0) (r2 := 0) (r3 := 0) rfl rfl ?_
        refine wr_gr (k0 := 236) (x := 238) (nx := 10) (r1 := 11) (r2 := 13) (r3 := 0) rfl rfl (by decide) rfl ⟨rfl, rfl⟩ rfl ?_
        refine wi_bipush (n := 73) (nx := 12) (r1 := 0) (r2 := 0) (r3 := 0) rfl (by decide) ?_
        refine wr_ia (k0 := 238) (a := 73) (f := 73) (x := h 238 73) (nx := 13) (r1 := 0) (r2 := 0) (r3 := 0) rfl (by decide) rfl (by omega) (by omega) (by decide) ((u23 238 73 rfl).trans (u17 238 73 rfl)) ?_
        refine wr_sub (nx := 14) (r1 := 0) (r2 := 0) (r3 := 0) rfl (fun e35 (fe35 : e35 = (h 238 2) - (h 238 73)) => ?_)
        refine wi_ireturn (nx := 15) (r1 := 0) (r2 := 0) (r3 := 0) rfl rfl ?_
        refine wk_i ?_
        refine wi_icmp (cd := .ge) (nx := 56) (r1 := 89) (r2 := 0) (r3 := 0) rfl (by omega) (by omega) (fun (q36 : e35 ≤ x30) => ?_) (fun (q36 : ¬ (e35 ≤ x30)) => ?_)
        ·
          refine wi_aload_n (i := 0) (x := 236) (nx := 90) (r1 := 0) (r2 := 0) (r3 := 0) rfl rfl ?_
          refine wr_gr (k0 := 236) (x := 249) (nx := 93) (r1 := 11) (r2 := 33) (r3 := 0) rfl rfl (by decide) rfl ⟨rfl, rfl⟩ rfl ?_
          refine wi_bipush (n := 6) (nx := 95) (r1 := 0) (r2 := 0) (r3 := 0) rfl (by decide) ?_
          refine wi_iload_n (i := 2) (e := x16) (nx := 96) (r1 := 0) (r2 := 0) (r3 := 0) rfl rfl ?_
          refine wr_mul (nx := 97) (r1 := 0) (r2 := 0) (r3 := 0) rfl (fun e37 (fe37 : e37 = 6 * x16) => ?_)
          refine wi_iload (i := 4) (e := x22) (nx := 99) (r1 := 0) (r2 := 0) (r3 := 0) rfl rfl ?_
          refine wr_add (nx := 100) (r1 := 0) (r2 := 0) (r3 := 0) rfl (fun e38 (fe38 : e38 = e37 + x22) => ?_)
          refine wi_iload (i := 5) (e := x29) (nx := 102) (r1 := 0) (r2 := 0) (r3 := 0) rfl rfl ?_
          obtain ⟨i39, ei39⟩ : ∃ q : Nat, e38 = (q : Int) := ⟨(e38).toNat, by omega⟩
          refine wr_is (k0 := 249) (a := e38) (f := i39) (x := x29) (bl := 0) (bh := 1000000) (nx := 103) (r1 := 0) (r2 := 0) (r3 := 0) rfl (by decide) rfl (by omega) (by omega) (by decide) g23 rfl (by omega) (fun h40 g40 w40 u40 => ?_)
          have F41 := F25.then rfl (FR.rngp (lo := 249) (hi := 249) u40 (by decide))
          have F42 := F26.then rfl (FR.rngp (lo := 249) (hi := 249) u40 (by decide))
          have F43 := u23.then rfl (FR.rngp (lo := 249) (hi := 249) u40 (by decide))
          refine wr_iinc (i := 4) (n := 1) (v := x22) (fun e44 => [(4, vi e44), (0, .ref 236), (1, vi e15), (2, vi x16), (3, vi z21), (5, vi x29), (6, vi x30)]) (nx := 106) (r1 := 0) (r2 := 0) (r3 := 0) rfl rfl (fun _ => rfl) (fun e44 (fe44 : e44 = x22 + 1) => ?_)
          refine wi_goto (nx := 109) (r1 := 23) (r2 := 0) (r3 := 0) rfl ?_
          refine wp.lo (lo := [(0, .ref 236), (1, vi e15), (2, vi x16), (3, vi z21), (4, vi e44)]) ⟨rfl, rfl, rfl, rfl, rfl, trivial⟩ rfl ?_
          exact I23 e44 h40 ⟨g40, F41, F42, F43, (show (0 ≤ e44 ∧ e44 ≤ 6) by omega), (fun t e1 e2 => FT.upd (s := (x16).toNat) (by omega) (by decide) (fun i hi => u40 249 i (fn_i (by omega) fn_0)) (X23_0 t e1 e2)), (fun pp e => by
              rw [show (e44).toNat = (x22).toNat + 1 by omega]
              refine BJ.done rc (init := 1000000) (best := x29) (k := x30) (a := x22) (by omega) (by omega) (by omega) (by omega) (X31_0 pp e) ?_ (fun i hi => u40 249 i (fn_i (by omega) fn_0)) (by rw [show 6 * pp + (x22).toNat = i39 by omega]; exact w40) (X23_1 pp e) (fun t h1 h2 => X23_0 t (by omega) h2)
              omega)⟩ (show ((6 : Int) + 1 - e44).toNat < ((6 : Int) + 1 - x22).toNat by omega)
        ·
          refine wi_aload_n (i := 0) (x := 236) (nx := 57) (r1 := 0) (r2 := 0) (r3 := 0) rfl rfl ?_
          refine wi_iload_n (i := 2) (e := x16) (nx := 58) (r1 := 0) (r2 := 0) (r3 := 0) rfl rfl ?_
          refine wi_iload_n (i := 3) (e := z21) (nx := 59) (r1 := 0) (r2 := 0) (r3 := 0) rfl rfl ?_
          refine wi_iload (i := 6) (e := x30) (nx := 61) (r1 := 0) (r2 := 0) (r3 := 0) rfl rfl ?_
          refine wr_V (k0 := 236) (rest := []) (as := [.ref 236, vi x16, vi z21, vi x30]) (nx := 64) (r1 := 327) (r2 := 3) (r3 := 11) rfl rfl rfl (of_decide_eq_true rfl) rfl rfl (by decide) rfl rfl (of_decide_eq_true rfl) (of_decide_eq_true rfl) ?_
          have e38 : h23 238 98 = h 238 98 := ((u23 238 98 rfl).trans (u17 238 98 rfl))
          have e39 : h23 238 99 = h 238 99 := ((u23 238 99 rfl).trans (u17 238 99 rfl))
          have e40 : h23 238 100 = h 238 100 := ((u23 238 100 rfl).trans (u17 238 100 rfl))
          have e41 : h23 238 101 = h 238 101 := ((u23 238 101 rfl).trans (u17 238 101 rfl))
          have e42 : h23 238 102 = h 238 102 := ((u23 238 102 rfl).trans (u17 238 102 rfl))
          have e43 : h23 238 106 = h 238 106 := ((u23 238 106 rfl).trans (u17 238 106 rfl))
          have e44 : h23 238 73 = h 238 73 := ((u23 238 73 rfl).trans (u17 238 73 rfl))
          have e45 : h23 238 2 = h 238 2 := ((u23 238 2 rfl).trans (u17 238 2 rfl))
          have e46 : h23 238 119 = h 238 119 := ((u23 238 119 rfl).trans (u17 238 119 rfl))
          have e47 : h23 238 67 = h 238 67 := ((u23 238 67 rfl).trans (u17 238 67 rfl))
          have e48 : h23 238 69 = h 238 69 := ((u23 238 69 rfl).trans (u17 238 69 rfl))
          have e49 : h23 238 5 = h 238 5 := ((u23 238 5 rfl).trans (u17 238 5 rfl))
          refine ct_327_236 hcr  g23 x16 z21 x30 (by omega) (by omega) (by omega) (show (h23 238 98) + (h23 238 99) + (h23 238 100) + (h23 238 101) + (h23 238 102) + (h23 238 106) = (h23 238 73) by omega) (show (h23 238 73) ≤ (h23 238 2) by omega) (show (h23 238 119) ≤ (h23 238 67) by omega) (show (h23 238 69) ≤ (h23 238 5) by omega) (show (h23 238 2) ≤ 12 * (h23 238 5) by omega) (fun z50  (fz50 : 0 ≤ z50 ∧ z50 ≤ 1) y37_0 => ?_)
          refine wk_i ?_
          refine wi_if (cd := .eq) (nx := 67) (r1 := 83) (r2 := 0) (r3 := 0) rfl (by omega) (fun (q51 : z50 = 0) => ?_) (fun (q51 : ¬ (z50 = 0)) => ?_)
          ·
            refine wr_iinc (i := 6) (n := 1) (v := x30) (fun e52 => [(6, vi e52), (0, .ref 236), (1, vi e15), (2, vi x16), (3, vi z21), (4, vi x22), (5, vi x29)]) (nx := 86) (r1 := 0) (r2 := 0) (r3 := 0) rfl rfl (fun _ => rfl) (fun e52 (fe52 : e52 = x30 + 1) => ?_)
            refine wi_goto (nx := 89) (r1 := 47) (r2 := 0) (r3 := 0) rfl ?_
            refine wp.lo (lo := [(0, .ref 236), (1, vi e15), (2, vi x16), (3, vi z21), (4, vi x22), (5, vi x29), (6, vi e52)]) ⟨rfl, rfl, rfl, rfl, rfl, rfl, rfl, trivial⟩ rfl ?_
            have q54 : h23 238 = h 238 := funext (fun i => ((u23 238 i (fo_no_ok (by decide) i)).trans (u17 238 i (fo_no_ok (by decide) i))))
            have a53 : ¬ jb (h 238) (x16).toNat z21 (x30).toNat := by rw [← q54]; rcases y37_0 with ⟨e, _⟩ | ⟨_, e⟩; omega; exact e
            exact I31 x29 e52 h23 ⟨rfl, (show (0 ≤ x29 ∧ x29 ≤ 1000000) ∧ (0 ≤ e52 ∧ e52 ≤ 12) by omega), (fun pp e => BJ.no (X31_0 pp e) (by omega) (by rw [(show ((pc pp : Nat) : Int) = z21 by rw [show pp = (x16).toNat by omega]; omega), show pp = (x16).toNat by omega]; exact a53) (by omega))⟩ (show ((12 : Int) + 1 - e52).toNat < ((12 : Int) + 1 - x30).toNat by omega)
          ·
            refine wi_iload (i := 5) (e := x29) (nx := 69) (r1 := 0) (r2 := 0) (r3 := 0) rfl rfl ?_
            refine wi_aload_n (i := 0) (x := 236) (nx := 70) (r1 := 0) (r2 := 0) (r3 := 0) rfl rfl ?_
            refine wi_iload_n (i := 2) (e := x16) (nx := 71) (r1 := 0) (r2 := 0) (r3 := 0) rfl rfl ?_
            refine wi_iload (i := 4) (e := x22) (nx := 73) (r1 := 0) (r2 := 0) (r3 := 0) rfl rfl ?_
            refine wi_iload (i := 6) (e := x30) (nx := 75) (r1 := 0) (r2 := 0) (r3 := 0) rfl rfl ?_
            refine wr_V (k0 := 236) (rest := [vi x29]) (as := [.ref 236, vi x16, vi x22, vi x30]) (nx := 78) (r1 := 328) (r2 := 3) (r3 := 11) rfl rfl rfl (of_decide_eq_true rfl) rfl rfl (by decide) rfl rfl (of_decide_eq_true rfl) (of_decide_eq_true rfl) ?_
            refine ct_328_236 hcr  g23 x16 x22 x30 (by omega) (by omega) (by omega) (show x30 + (h23 238 73) ≤ 11 by omega) (fun z53  (fz53 : 0 ≤ z53 ∧ z53 ≤ 1000000) y52_0 => ?_)
            refine wk_i ?_
            refine wi_S (rest := []) (as := [vi x29, vi z53]) (nx := 81) (r1 := 309) (r2 := 18) (r3 := 0) rfl rfl rfl (of_decide_eq_true rfl) rfl rfl (of_decide_eq_true rfl) (of_decide_eq_true rfl) ?_
            refine wi_iload_n (i := 0) (e := x29) (nx := 1) (r1 := 0) (r2 := 0) (r3 := 0) rfl rfl ?_
            refine wi_iload_n (i := 1) (e := z53) (nx := 2) (r1 := 0) (r2 := 0) (r3 := 0) rfl rfl ?_
            refine wi_icmp (cd := .ge) (nx := 5) (r1 := 9) (r2 := 0) (r3 := 0) rfl (by omega) (by omega) (fun (q54 : z53 ≤ x29) => ?_) (fun (q54 : ¬ (z53 ≤ x29)) => ?_)
            ·
              refine wi_iload_n (i := 1) (e := z53) (nx := 10) (r1 := 0) (r2 := 0) (r3 := 0) rfl rfl ?_
              refine wi_ireturn (nx := 11) (r1 := 0) (r2 := 0) (r3 := 0) rfl rfl ?_
              refine wk_i ?_
              refine wi_istore (i := 5) (e := z53) (lo2 := [(5, vi z53), (0, .ref 236), (1, vi e15), (2, vi x16), (3, vi z21), (4, vi x22), (6, vi x30)]) (nx := 83) (r1 := 0) (r2 := 0) (r3 := 0) rfl rfl ?_
              refine wr_iinc (i := 6) (n := 1) (v := x30) (fun e55 => [(6, vi e55), (5, vi z53), (0, .ref 236), (1, vi e15), (2, vi x16), (3, vi z21), (4, vi x22)]) (nx := 86) (r1 := 0) (r2 := 0) (r3 := 0) rfl rfl (fun _ => rfl) (fun e55 (fe55 : e55 = x30 + 1) => ?_)
              refine wi_goto (nx := 89) (r1 := 47) (r2 := 0) (r3 := 0) rfl ?_
              refine wp.lo (lo := [(0, .ref 236), (1, vi e15), (2, vi x16), (3, vi z21), (4, vi x22), (5, vi z53), (6, vi e55)]) ⟨rfl, rfl, rfl, rfl, rfl, rfl, rfl, trivial⟩ rfl ?_
              have q57 : h23 238 = h 238 := funext (fun i => ((u23 238 i (fo_no_ok (by decide) i)).trans (u17 238 i (fo_no_ok (by decide) i))))
              have a56 : jb (h 238) (x16).toNat z21 (x30).toNat := by rw [← q57]; rcases y37_0 with ⟨_, e⟩ | ⟨e, _⟩; exact e; omega
              exact I31 z53 e55 h23 ⟨rfl, (show (0 ≤ z53 ∧ z53 ≤ 1000000) ∧ (0 ≤ e55 ∧ e55 ≤ 12) by omega), (fun pp e => BJ.yes (v := z53) (X31_0 pp e) (by omega) (by omega) (by omega) (by rw [(show ((pc pp : Nat) : Int) = z21 by rw [show pp = (x16).toNat by omega]; omega), show pp = (x16).toNat by omega]; exact a56) (by rw [show pp = (x16).toNat by omega, ← q57]; exact y52_0) (by omega))⟩ (show ((12 : Int) + 1 - e55).toNat < ((12 : Int) + 1 - x30).toNat by omega)
            ·
              refine wi_iload_n (i := 0) (e := x29) (nx := 6) (r1 := 0) (r2 := 0) (r3 := 0) rfl rfl ?_
              refine wi_goto (nx := 9) (r1 := 10) (r2 := 0) (r3 := 0) rfl ?_
              refine wi_ireturn (nx := 11) (r1 := 0) (r2 := 0) (r3 := 0) rfl rfl ?_
              refine wk_i ?_
              refine wi_istore (i := 5) (e := x29) (lo2 := [(5, vi x29), (0, .ref 236), (1, vi e15), (2, vi x16), (3, vi z21), (4, vi x22), (6, vi x30)]) (nx := 83) (r1 := 0) (r2 := 0) (r3 := 0) rfl rfl ?_
              refine wr_iinc (i := 6) (n := 1) (v := x30) (fun e55 => [(6, vi e55), (5, vi x29), (0, .ref 236), (1, vi e15), (2, vi x16), (3, vi z21), (4, vi x22)]) (nx := 86) (r1 := 0) (r2 := 0) (r3 := 0) rfl rfl (fun _ => rfl) (fun e55 (fe55 : e55 = x30 + 1) => ?_)
              refine wi_goto (nx := 89) (r1 := 47) (r2 := 0) (r3 := 0) rfl ?_
              refine wp.lo (lo := [(0, .ref 236), (1, vi e15), (2, vi x16), (3, vi z21), (4, vi x22), (5, vi x29), (6, vi e55)]) ⟨rfl, rfl, rfl, rfl, rfl, rfl, rfl, trivial⟩ rfl ?_
              have q57 : h23 238 = h 238 := funext (fun i => ((u23 238 i (fo_no_ok (by decide) i)).trans (u17 238 i (fo_no_ok (by decide) i))))
              have a56 : jb (h 238) (x16).toNat z21 (x30).toNat := by rw [← q57]; rcases y37_0 with ⟨_, e⟩ | ⟨e, _⟩; exact e; omega
              exact I31 x29 e55 h23 ⟨rfl, (show (0 ≤ x29 ∧ x29 ≤ 1000000) ∧ (0 ≤ e55 ∧ e55 ≤ 12) by omega), (fun pp e => BJ.yes (v := z53) (X31_0 pp e) (by omega) (by omega) (by omega) (by rw [(show ((pc pp : Nat) : Int) = z21 by rw [show pp = (x16).toNat by omega]; omega), show pp = (x16).toNat by omega]; exact a56) (by rw [show pp = (x16).toNat by omega, ← q57]; exact y52_0) (by omega))⟩ (show ((12 : Int) + 1 - e55).toNat < ((12 : Int) + 1 - x30).toNat by omega)
      ·
        refine wi_iconst (n := 0) (nx := 36) (r1 := 0) (r2 := 0) (r3 := 0) rfl ?_
        refine wi_goto (nx := 39) (r1 := 42) (r2 := 0) (r3 := 0) rfl ?_
        refine wi_istore (i := 5) (e := 0) (lo2 := [(5, vi 0), (0, .ref 236), (1, vi e15), (2, vi x16), (3, vi z21), (4, vi x22)]) (nx := 44) (r1 := 0) (r2 := 0) (r3 := 0) rfl rfl ?_
        refine wi_iconst (n := 0) (nx := 45) (r1 := 0) (r2 := 0) (r3 := 0) rfl ?_
        refine wi_istore (i := 6) (e := 0) (lo2 := [(6, vi 0), (5, vi 0), (0, .ref 236), (1, vi e15), (2, vi x16), (3, vi z21), (4, vi x22)]) (nx := 47) (r1 := 0) (r2 := 0) (r3 := 0) rfl rfl ?_
        refine wp.lo (lo := [(0, .ref 236), (1, vi e15), (2, vi x16), (3, vi z21), (4, vi x22), (5, vi 0), (6, vi 0)]) ⟨rfl, rfl, rfl, rfl, rfl, rfl, rfl, trivial⟩ rfl ?_
        refine wl_2 (fun x29 x30 h31 => h23 = h31 ∧ ((0 ≤ x29 ∧ x29 ≤ 0) ∧ (0 ≤ x30 ∧ x30 ≤ 12)) ∧ (∀ pp : Nat, (pp : Int) = x16 → BJ (h 238) (h23 249) pp x22 0 x29 x30)) (fun x29 x30 h31 => ((12 : Int) + 1 - x30).toNat) (fun x29 x30 h31 => (47, [(0, .ref 236), (1, vi e15), (2, vi x16), (3, vi z21), (4, vi x22), (5, vi x29), (6, vi x30)], [], hp_w h31 cr, b, c)) ?_ 0 0 h23 ⟨rfl, (show (0 ≤ 0 ∧ 0 ≤ 0) ∧ (0 ≤ 0 ∧ 0 ≤ 12) by omega), (fun pp e => BJ.start)⟩
        intro x29 x30 h31 ⟨e31, f31, X31_0⟩ I31
        subst e31
        refine wi_iload (i := 6) (e := x30) (nx := 49) (r1 := 0) (r2 := 0) (r3 := 0) rfl rfl ?_
        refine wi_aload_n (i := 0) (x := 236) (nx := 50) (r1 := 0) (r2 := 0) (r3 := 0) rfl rfl ?_
        refine wr_V (k0 := 236) (rest := [vi x30]) (as := [.ref 236]) (nx := 53) (r1 := 321) (r2 := 0) (r3 := 11) rfl rfl rfl (of_decide_eq_true rfl) rfl rfl (by decide) rfl rfl (of_decide_eq_true rfl) (of_decide_eq_true rfl) ?_
        refine wi_aload_n (i := 0) (x := 236) (nx := 1) (r1 := 0) (r2 := 0) (r3 := 0) rfl rfl ?_
        refine wr_gr (k0 := 236) (x := 238) (nx := 4) (r1 := 11) (r2 := 13) (r3 := 0) rfl rfl (by decide) rfl ⟨rfl, rfl⟩ rfl ?_
        refine wi_iconst (n := 2) (nx := 5) (r1 := 0) (r2 := 0) (r3 := 0) rfl ?_
        refine wr_ia (k0 := 238) (a := 2) (f := 2) (x := h 238 2) (nx := 6) (r1 := 0) (r2 := 0) (r3 := 0) rfl (by decide) rfl (by omega) (by omega) (by decide) ((u23 238 2 rfl).trans (u17 238 2 rfl)) ?_
        refine wi_aload_n (i := 0) (x := 236) (nx := 7) (r1 := 0) (r2 := 0) (r3 := 0) rfl rfl ?_
        refine wr_gr (k0 := 236) (x := 238) (nx := 10) (r1 := 11) (r2 := 13) (r3 := 0) rfl rfl (by decide) rfl ⟨rfl, rfl⟩ rfl ?_
        refine wi_bipush (n := 73) (nx := 12) (r1 := 0) (r2 := 0) (r3 := 0) rfl (by decide) ?_
        refine wr_ia (k0 := 238) (a := 73) (f := 73) (x := h 238 73) (nx := 13) (r1 := 0) (r2 := 0) (r3 := 0) rfl (by decide) rfl (by omega) (by omega) (by decide) ((u23 238 73 rfl).trans (u17 238 73 rfl)) ?_
        refine wr_sub (nx := 14) (r1 := 0) (r2 := 0) (r3 := 0) rfl (fun e35 (fe35 : e35 = (h 238 2) - (h 238 73)) => ?_)
        refine wi_ireturn (nx := 15) (r1 := 0) (r2 := 0) (r3 := 0) rfl rfl ?_
        refine wk_i ?_
        refine wi_icmp (cd := .ge) (nx := 56) (r1 := 89) (r2 := 0) (r3 := 0) rfl (by omega) (by omega) (fun (q36 : e35 ≤ x30) => ?_) (fun (q36 : ¬ (e35 ≤ x30)) => ?_)
        ·
          refine wi_aload_n (i := 0) (x := 236) (nx := 90) (r1 := 0) (r2 := 0) (r3 := 0) rfl rfl ?_
          refine wr_gr (k0 := 236) (x := 249) (nx := 93) (r1 := 11) (r2 := 33) (r3 := 0) rfl rfl (by decide) rfl ⟨rfl, rfl⟩ rfl ?_
          refine wi_bipush (n := 6) (nx := 95) (r1 := 0) (r2 := 0) (r3 := 0) rfl (by decide) ?_
          refine wi_iload_n (i := 2) (e := x16) (nx := 96) (r1 := 0) (r2 := 0) (r3 := 0) rfl rfl ?_
          refine wr_mul (nx := 97) (r1 := 0) (r2 := 0) (r3 := 0) rfl (fun e37 (fe37 : e37 = 6 * x16) => ?_)
          refine wi_iload (i := 4) (e := x22) (nx := 99) (r1 := 0) (r2 := 0) (r3 := 0) rfl rfl ?_
          refine wr_add (nx := 100) (r1 := 0) (r2 := 0) (r3 := 0) rfl (fun e38 (fe38 : e38 = e37 + x22) => ?_)
          refine wi_iload (i := 5) (e := x29) (nx := 102) (r1 := 0) (r2 := 0) (r3 := 0) rfl rfl ?_
          obtain ⟨i39, ei39⟩ : ∃ q : Nat, e38 = (q : Int) := ⟨(e38).toNat, by omega⟩
          refine wr_is (k0 := 249) (a := e38) (f := i39) (x := x29) (bl := 0) (bh := 1000000) (nx := 103) (r1 := 0) (r2 := 0) (r3 := 0) rfl (by decide) rfl (by omega) (by omega) (by decide) g23 rfl (by omega) (fun h40 g40 w40 u40 => ?_)
          have F41 := F25.then rfl (FR.rngp (lo := 249) (hi := 249) u40 (by decide))
          have F42 := F26.then rfl (FR.rngp (lo := 249) (hi := 249) u40 (by decide))
          have F43 := u23.then rfl (FR.rngp (lo := 249) (hi := 249) u40 (by decide))
          refine wr_iinc (i := 4) (n := 1) (v := x22) (fun e44 => [(4, vi e44), (0, .ref 236), (1, vi e15), (2, vi x16), (3, vi z21), (5, vi x29), (6, vi x30)]) (nx := 106) (r1 := 0) (r2 := 0) (r3 := 0) rfl rfl (fun _ => rfl) (fun e44 (fe44 : e44 = x22 + 1) => ?_)
          refine wi_goto (nx := 109) (r1 := 23) (r2 := 0) (r3 := 0) rfl ?_
          refine wp.lo (lo := [(0, .ref 236), (1, vi e15), (2, vi x16), (3, vi z21), (4, vi e44)]) ⟨rfl, rfl, rfl, rfl, rfl, trivial⟩ rfl ?_
          exact I23 e44 h40 ⟨g40, F41, F42, F43, (show (0 ≤ e44 ∧ e44 ≤ 6) by omega), (fun t e1 e2 => FT.upd (s := (x16).toNat) (by omega) (by decide) (fun i hi => u40 249 i (fn_i (by omega) fn_0)) (X23_0 t e1 e2)), (fun pp e => by
              rw [show (e44).toNat = (x22).toNat + 1 by omega]
              refine BJ.done rc (init := 0) (best := x29) (k := x30) (a := x22) (by omega) (by omega) (by omega) (by omega) (X31_0 pp e) ?_ (fun i hi => u40 249 i (fn_i (by omega) fn_0)) (by rw [show 6 * pp + (x22).toNat = i39 by omega]; exact w40) (X23_1 pp e) (fun t h1 h2 => X23_0 t (by omega) h2)
              omega)⟩ (show ((6 : Int) + 1 - e44).toNat < ((6 : Int) + 1 - x22).toNat by omega)
        ·
          refine wi_aload_n (i := 0) (x := 236) (nx := 57) (r1 := 0) (r2 := 0) (r3 := 0) rfl rfl ?_
          refine wi_iload_n (i := 2) (e := x16) (nx := 58) (r1 := 0) (r2 := 0) (r3 := 0) rfl rfl ?_
          refine wi_iload_n (i := 3) (e := z21) (nx := 59) (r1 := 0) (r2 := 0) (r3 := 0) rfl rfl ?_
          refine wi_iload (i := 6) (e := x30) (nx := 61) (r1 := 0) (r2 := 0) (r3 := 0) rfl rfl ?_
          refine wr_V (k0 := 236) (rest := []) (as := [.ref 236, vi x16, vi z21, vi x30]) (nx := 64) (r1 := 327) (r2 := 3) (r3 := 11) rfl rfl rfl (of_decide_eq_true rfl) rfl rfl (by decide) rfl rfl (of_decide_eq_true rfl) (of_decide_eq_true rfl) ?_
          have e38 : h23 238 98 = h 238 98 := ((u23 238 98 rfl).trans (u17 238 98 rfl))
          have e39 : h23 238 99 = h 238 99 := ((u23 238 99 rfl).trans (u17 238 99 rfl))
          have e40 : h23 238 100 = h 238 100 := ((u23 238 100 rfl).trans (u17 238 100 rfl))
          have e41 : h23 238 101 = h 238 101 := ((u23 238 101 rfl).trans (u17 238 101 rfl))
          have e42 : h23 238 102 = h 238 102 := ((u23 238 102 rfl).trans (u17 238 102 rfl))
          have e43 : h23 238 106 = h 238 106 := ((u23 238 106 rfl).trans (u17 238 106 rfl))
          have e44 : h23 238 73 = h 238 73 := ((u23 238 73 rfl).trans (u17 238 73 rfl))
          have e45 : h23 238 2 = h 238 2 := ((u23 238 2 rfl).trans (u17 238 2 rfl))
          have e46 : h23 238 119 = h 238 119 := ((u23 238 119 rfl).trans (u17 238 119 rfl))
          have e47 : h23 238 67 = h 238 67 := ((u23 238 67 rfl).trans (u17 238 67 rfl))
          have e48 : h23 238 69 = h 238 69 := ((u23 238 69 rfl).trans (u17 238 69 rfl))
          have e49 : h23 238 5 = h 238 5 := ((u23 238 5 rfl).trans (u17 238 5 rfl))
          refine ct_327_236 hcr  g23 x16 z21 x30 (by omega) (by omega) (by omega) (show (h23 238 98) + (h23 238 99) + (h23 238 100) + (h23 238 101) + (h23 238 102) + (h23 238 106) = (h23 238 73) by omega) (show (h23 238 73) ≤ (h23 238 2) by omega) (show (h23 238 119) ≤ (h23 238 67) by omega) (show (h23 238 69) ≤ (h23 238 5) by omega) (show (h23 238 2) ≤ 12 * (h23 238 5) by omega) (fun z50  (fz50 : 0 ≤ z50 ∧ z50 ≤ 1) y37_0 => ?_)
          refine wk_i ?_
          refine wi_if (cd := .eq) (nx := 67) (r1 := 83) (r2 := 0) (r3 := 0) rfl (by omega) (fun (q51 : z50 = 0) => ?_) (fun (q51 : ¬ (z50 = 0)) => ?_)
          ·
            refine wr_iinc (i := 6) (n := 1) (v := x30) (fun e52 => [(6, vi e52), (0, .ref 236), (1, vi e15), (2, vi x16), (3, vi z21), (4, vi x22), (5, vi x29)]) (nx := 86) (r1 := 0) (r2 := 0) (r3 := 0) rfl rfl (fun _ => rfl) (fun e52 (fe52 : e52 = x30 + 1) => ?_)
            refine wi_goto (nx := 89) (r1 := 47) (r2 := 0) (r3 := 0) rfl ?_
            refine wp.lo (lo := [(0, .ref 236), (1, vi e15), (2, vi x16), (3, vi z21), (4, vi x22), (5, vi x29), (6, vi e52)]) ⟨rfl, rfl, rfl, rfl, rfl, rfl, rfl, trivial⟩ rfl ?_
            have q54 : h23 238 = h 238 := funext (fun i => ((u23 238 i (fo_no_ok (by decide) i)).trans (u17 238 i (fo_no_ok (by decide) i))))
            have a53 : ¬ jb (h 238) (x16).toNat z21 (x30).toNat := by rw [← q54]; rcases y37_0 with ⟨e, _⟩ | ⟨_, e⟩; omega; exact e
            exact I31 x29 e52 h23 ⟨rfl, (show (0 ≤ x29 ∧ x29 ≤ 0) ∧ (0 ≤ e52 ∧ e52 ≤ 12) by omega), (fun pp e => BJ.no (X31_0 pp e) (by omega) (by rw [(show ((pc pp : Nat) : Int) = z21 by rw [show pp = (x16).toNat by omega]; omega), show pp = (x16).toNat by omega]; exact a53) (by omega))⟩ (show ((12 : Int) + 1 - e52).toNat < ((12 : Int) + 1 - x30).toNat by omega)
          ·
            refine wi_iload (i := 5) (e := x29) (nx := 69) (r1 := 0) (r2 := 0) (r3 := 0) rfl rfl ?_
            refine wi_aload_n (i := 0) (x := 236) (nx := 70) (r1 := 0) (r2 := 0) (r3 := 0) rfl rfl ?_
            refine wi_iload_n (i := 2) (e := x16) (nx := 71) (r1 := 0) (r2 := 0) (r3 := 0) rfl rfl ?_
            refine wi_iload (i := 4) (e := x22) (nx := 73) (r1 := 0) (r2 := 0) (r3 := 0) rfl rfl ?_
            refine wi_iload (i := 6) (e := x30) (nx := 75) (r1 := 0) (r2 := 0) (r3 := 0) rfl rfl ?_
            refine wr_V (k0 := 236) (rest := [vi x29]) (as := [.ref 236, vi x16, vi x22, vi x30]) (nx := 78) (r1 := 328) (r2 := 3) (r3 := 11) rfl rfl rfl (of_decide_eq_true rfl) rfl rfl (by decide) rfl rfl (of_decide_eq_true rfl) (of_decide_eq_true rfl) ?_
            refine ct_328_236 hcr  g23 x16 x22 x30 (by omega) (by omega) (by omega) (show x30 + (h23 238 73) ≤ 11 by omega) (fun z53  (fz53 : 0 ≤ z53 ∧ z53 ≤ 1000000) y52_0 => ?_)
            refine wk_i ?_
            refine wi_S (rest := []) (as := [vi x29, vi z53]) (nx := 81) (r1 := 309) (r2 := 18) (r3 := 0) rfl rfl rfl (of_decide_eq_true rfl) rfl rfl (of_decide_eq_true rfl) (of_decide_eq_true rfl) ?_
            refine wi_iload_n (i := 0) (e := x29) (nx := 1) (r1 := 0) (r2 := 0) (r3 := 0) rfl rfl ?_
            refine wi_iload_n (i := 1) (e := z53) (nx := 2) (r1 := 0) (r2 := 0) (r3 := 0) rfl rfl ?_
            refine wi_icmp (cd := .ge) (nx := 5) (r1 := 9) (r2 := 0) (r3 := 0) rfl (by omega) (by omega) (fun (q54 : z53 ≤ x29) => ?_) (fun (q54 : ¬ (z53 ≤ x29)) => ?_)
            ·
              refine wi_iload_n (i := 1) (e := z53) (nx := 10) (r1 := 0) (r2 := 0) (r3 := 0) rfl rfl ?_
              refine wi_ireturn (nx := 11) (r1 := 0) (r2 := 0) (r3 := 0) rfl rfl ?_
              refine wk_i ?_
              refine wi_istore (i := 5) (e := z53) (lo2 := [(5, vi z53), (0, .ref 236), (1, vi e15), (2, vi x16), (3, vi z21), (4, vi x22), (6, vi x30)]) (nx := 83) (r1 := 0) (r2 := 0) (r3 := 0) rfl rfl ?_
              refine wr_iinc (i := 6) (n := 1) (v := x30) (fun e55 => [(6, vi e55), (5, vi z53), (0, .ref 236), (1, vi e15), (2, vi x16), (3, vi z21), (4, vi x22)]) (nx := 86) (r1 := 0) (r2 := 0) (r3 := 0) rfl rfl (fun _ => rfl) (fun e55 (fe55 : e55 = x30 + 1) => ?_)
              refine wi_goto (nx := 89) (r1 := 47) (r2 := 0) (r3 := 0) rfl ?_
              refine wp.lo (lo := [(0, .ref 236), (1, vi e15), (2, vi x16), (3, vi z21), (4, vi x22), (5, vi z53), (6, vi e55)]) ⟨rfl, rfl, rfl, rfl, rfl, rfl, rfl, trivial⟩ rfl ?_
              have q57 : h23 238 = h 238 := funext (fun i => ((u23 238 i (fo_no_ok (by decide) i)).trans (u17 238 i (fo_no_ok (by decide) i))))
              have a56 : jb (h 238) (x16).toNat z21 (x30).toNat := by rw [← q57]; rcases y37_0 with ⟨_, e⟩ | ⟨e, _⟩; exact e; omega
              exact I31 z53 e55 h23 ⟨rfl, (show (0 ≤ z53 ∧ z53 ≤ 0) ∧ (0 ≤ e55 ∧ e55 ≤ 12) by omega), (fun pp e => BJ.yes (v := z53) (X31_0 pp e) (by omega) (by omega) (by omega) (by rw [(show ((pc pp : Nat) : Int) = z21 by rw [show pp = (x16).toNat by omega]; omega), show pp = (x16).toNat by omega]; exact a56) (by rw [show pp = (x16).toNat by omega, ← q57]; exact y52_0) (by omega))⟩ (show ((12 : Int) + 1 - e55).toNat < ((12 : Int) + 1 - x30).toNat by omega)
            ·
              refine wi_iload_n (i := 0) (e := x29) (nx := 6) (r1 := 0) (r2 := 0) (r3 := 0) rfl rfl ?_
              refine wi_goto (nx := 9) (r1 := 10) (r2 := 0) (r3 := 0) rfl ?_
              refine wi_ireturn (nx := 11) (r1 := 0) (r2 := 0) (r3 := 0) rfl rfl ?_
              refine wk_i ?_
              refine wi_istore (i := 5) (e := x29) (lo2 := [(5, vi x29), (0, .ref 236), (1, vi e15), (2, vi x16), (3, vi z21), (4, vi x22), (6, vi x30)]) (nx := 83) (r1 := 0) (r2 := 0) (r3 := 0) rfl rfl ?_
              refine wr_iinc (i := 6) (n := 1) (v := x30) (fun e55 => [(6, vi e55), (5, vi x29), (0, .ref 236), (1, vi e15), (2, vi x16), (3, vi z21), (4, vi x22)]) (nx := 86) (r1 := 0) (r2 := 0) (r3 := 0) rfl rfl (fun _ => rfl) (fun e55 (fe55 : e55 = x30 + 1) => ?_)
              refine wi_goto (nx := 89) (r1 := 47) (r2 := 0) (r3 := 0) rfl ?_
              refine wp.lo (lo := [(0, .ref 236), (1, vi e15), (2, vi x16), (3, vi z21), (4, vi x22), (5, vi x29), (6, vi e55)]) ⟨rfl, rfl, rfl, rfl, rfl, rfl, rfl, trivial⟩ rfl ?_
              have q57 : h23 238 = h 238 := funext (fun i => ((u23 238 i (fo_no_ok (by decide) i)).trans (u17 238 i (fo_no_ok (by decide) i))))
              have a56 : jb (h 238) (x16).toNat z21 (x30).toNat := by rw [← q57]; rcases y37_0 with ⟨_, e⟩ | ⟨e, _⟩; exact e; omega
              exact I31 x29 e55 h23 ⟨rfl, (show (0 ≤ x29 ∧ x29 ≤ 0) ∧ (0 ≤ e55 ∧ e55 ≤ 12) by omega), (fun pp e => BJ.yes (v := z53) (X31_0 pp e) (by omega) (by omega) (by omega) (by rw [(show ((pc pp : Nat) : Int) = z21 by rw [show pp = (x16).toNat by omega]; omega), show pp = (x16).toNat by omega]; exact a56) (by rw [show pp = (x16).toNat by omega, ← q57]; exact y52_0) (by omega))⟩ (show ((12 : Int) + 1 - e55).toNat < ((12 : Int) + 1 - x30).toNat by omega)
