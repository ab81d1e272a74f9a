-- method 314: Model.unloadsNow()I
set_option maxRecDepth 100000 in
set_option maxHeartbeats 100000000 in
theorem ct_314_236 {L : Nat} {xs : Nat → Int32} {d b c : Nat} {h : hp} {cr : Nat → Nat → Option Nat} {Q : hp_Q} (hcr : CR cr)  (g : GI h)   (pp0 : h 238 98 + h 238 99 + h 238 100 + h 238 101 + h 238 102 + h 238 106 = h 238 73) (pp1 : h 238 73 ≤ h 238 2) (pp2 : h 238 119 ≤ h 238 67) (pp3 : h 238 69 ≤ h 238 5) (pp4 : h 238 2 ≤ 12 * h 238 5) (k : ∀ (h2 : hp) (z0 : Int) , GI h2 → FR [(246, 246, none), (248, 248, none), (236, 236, some (32, 32)), (238, 238, some (43, 54)), (238, 238, some (55, 66)), (238, 238, some (67, 67)), (238, 238, some (68, 68)), (238, 238, some (69, 69)), (238, 238, some (70, 70)), (238, 238, some (71, 71)), (238, 238, some (72, 72)), (238, 238, some (74, 78)), (238, 238, some (80, 84)), (238, 238, some (86, 90)), (238, 238, some (92, 96)), (238, 238, some (98, 98)), (238, 238, some (99, 99)), (238, 238, some (100, 100)), (238, 238, some (101, 101)), (238, 238, some (102, 102)), (238, 238, some (103, 105)), (238, 238, some (106, 106)), (238, 238, some (107, 118)), (238, 238, some (119, 119)), (238, 238, some (120, 196)), (238, 238, some (121, 197)), (238, 238, some (122, 198)), (238, 238, some (123, 199)), (247, 247, some (0, 0)), (247, 247, some (1, 1)), (247, 247, some (2, 2)), (247, 247, some (3, 3))] h h2 → (0 ≤ z0 ∧ z0 ≤ 12) → (h2 238 98 + h2 238 99 + h2 238 100 + h2 238 101 + h2 238 102 + h2 238 106 = h2 238 73) → (h2 238 73 ≤ h2 238 2) → (h2 238 119 ≤ h2 238 67) → (h2 238 69 ≤ h2 238 5) → (h2 238 2 ≤ 12 * h2 238 5) → Q (.inl (some (vi z0))) (hp_w h2 cr) b c) : wp (md_xa (L, xs)) (d + 4) 314 (0, [(0, .ref 236)], [], hp_w h cr, b, c) Q := by
  have F0 : FR [(246, 246, none), (248, 248, none), (236, 236, some (32, 32)), (238, 238, some (43, 54)), (238, 238, some (55, 66)), (238, 238, some (67, 67)), (238, 238, some (68, 68)), (238, 238, some (69, 69)), (238, 238, some (70, 70)), (238, 238, some (71, 71)), (238, 238, some (72, 72)), (238, 238, some (74, 78)), (238, 238, some (80, 84)), (238, 238, some (86, 90)), (238, 238, some (92, 96)), (238, 238, some (98, 98)), (238, 238, some (99, 99)), (238, 238, some (100, 100)), (238, 238, some (101, 101)), (238, 238, some (102, 102)), (238, 238, some (103, 105)), (238, 238, some (106, 106)), (238, 238, some (107, 118)), (238, 238, some (119, 119)), (238, 238, some (120, 196)), (238, 238, some (121, 197)), (238, 238, some (122, 198)), (238, 238, some (123, 199)), (247, 247, some (0, 0)), (247, 247, some (1, 1)), (247, 247, some (2, 2)), (247, 247, some (3, 3))] h h := FR.refl
  have b1 := gi_b (lo := 0) (hi := 6) g 238 98 rfl
  have b2 := gi_b (lo := 0) (hi := 6) g 238 99 rfl
  have b3 := gi_b (lo := 0) (hi := 6) g 238 100 rfl
  have b4 := gi_b (lo := 0) (hi := 6) g 238 101 rfl
  have b5 := gi_b (lo := 0) (hi := 3) g 238 102 rfl
  have b6 := gi_b (lo := 0) (hi := 12) g 238 106 rfl
  have b7 := gi_b (lo := 0) (hi := 12) g 238 73 rfl
  have b8 := gi_b (lo := 0) (hi := 12) g 238 2 rfl
  have b9 := gi_b (lo := 0) (hi := 9999) g 238 119 rfl
  have b10 := gi_b (lo := 0) (hi := 9999) g 238 67 rfl
  have b11 := gi_b (lo := 0) (hi := 9) g 238 69 rfl
  have b12 := gi_b (lo := 0) (hi := 9) g 238 5 rfl
  refine wi_iconst (n := 0) (nx := 1) (r1 := 0) (r2 := 0) (r3 := 0) rfl ?_
  refine wi_istore_n (i := 1) (e := 0) (lo2 := [(1, vi 0), (0, .ref 236)]) (nx := 2) (r1 := 0) (r2 := 0) (r3 := 0) rfl rfl ?_
  refine wi_aload_n (i := 0) (x := 236) (nx := 3) (r1 := 0) (r2 := 0) (r3 := 0) rfl rfl ?_
  refine wr_V (k0 := 236) (rest := []) (as := [.ref 236]) (nx := 6) (r1 := 299) (r2 := 0) (r3 := 11) rfl rfl rfl (of_decide_eq_true rfl) rfl rfl (by decide) rfl rfl (of_decide_eq_true rfl) (of_decide_eq_true rfl) ?_
  refine ct_299_236 hcr  g   (show (h 238 98) + (h 238 99) + (h 238 100) + (h 238 101) + (h 238 102) + (h 238 106) = (h 238 73) by omega) (show (h 238 73) ≤ (h 238 2) by omega) (show (h 238 119) ≤ (h 238 67) by omega) (show (h 238 69) ≤ (h 238 5) by omega) (show (h 238 2) ≤ 12 * (h 238 5) by omega) (fun h13 z14 g13 u13 (fz14 : 0 ≤ z14 ∧ z14 ≤ 1000000) => ?_)
  have F15 := F0.then (by decide +kernel) u13
  refine wk_i ?_
  refine wi_istore_n (i := 2) (e := z14) (lo2 := [(2, vi z14), (1, vi 0), (0, .ref 236)]) (nx := 7) (r1 := 0) (r2 := 0) (r3 := 0) rfl rfl ?_
  refine wi_iconst (n := 1) (nx := 8) (r1 := 0) (r2 := 0) (r3 := 0) rfl ?_
  refine wi_istore_n (i := 3) (e := 1) (lo2 := [(3, vi 1), (2, vi z14), (1, vi 0), (0, .ref 236)]) (nx := 9) (r1 := 0) (r2 := 0) (r3 := 0) rfl rfl ?_
  have e19 : h13 238 98 = h 238 98 := (u13 238 98 rfl)
  have e20 : h13 238 99 = h 238 99 := (u13 238 99 rfl)
  have e21 : h13 238 100 = h 238 100 := (u13 238 100 rfl)
  have e22 : h13 238 101 = h 238 101 := (u13 238 101 rfl)
  have e23 : h13 238 102 = h 238 102 := (u13 238 102 rfl)
  have e24 : h13 238 106 = h 238 106 := (u13 238 106 rfl)
  have e25 : h13 238 73 = h 238 73 := (u13 238 73 rfl)
  have e26 : h13 238 2 = h 238 2 := (u13 238 2 rfl)
  have e27 : h13 238 119 = h 238 119 := (u13 238 119 rfl)
  have e28 : h13 238 67 = h 238 67 := (u13 238 67 rfl)
  have e29 : h13 238 69 = h 238 69 := (u13 238 69 rfl)
  have e30 : h13 238 5 = h 238 5 := (u13 238 5 rfl)
  refine wp.lo (lo := [(0, .ref 236), (1, vi 0), (3, vi 1)]) ⟨rfl, rfl, rfl, trivial⟩ rfl ?_
  refine wl_2 (fun x16 x17 h18 => GI h18 ∧ FR [(246, 246, none), (248, 248, none), (236, 236, some (32, 32)), (238, 238, some (43, 54)), (238, 238, some (55, 66)), (238, 238, some (67, 67)), (238, 238, some (68, 68)), (238, 238, some (69, 69)), (238, 238, some (70, 70)), (238, 238, some (71, 71)), (238, 238, some (72, 72)), (238, 238, some (74, 78)), (238, 238, some (80, 84)), (238, 238, some (86, 90)), (238, 238, some (92, 96)), (238, 238, some (98, 98)), (238, 238, some (99, 99)), (238, 238, some (100, 100)), (238, 238, some (101, 101)), (238, 238, some (102, 102)), (238, 238, some (103, 105)), (238, 238, some (106, 106)), (238, 238, some (107, 118)), (238, 238, some (119, 119)), (238, 238, some (120, 196)), (238, 238, some (121, 197)), (238, 238, some (122, 198)), (238, 238, some (123, 199)), (247, 247, some (0, 0)), (247, 247, some (1, 1)), (247, 247, some (2, 2)), (247, 247, some (3, 3))] h h18 ∧ FR [(238, 238, some (43, 54)), (238, 238, some (55, 66)), (238, 238, some (67, 67)), (238, 238, some (68, 68)), (238, 238, some (69, 69)), (238, 238, some (70, 70)), (238, 238, some (71, 71)), (238, 238, some (72, 72)), (238, 238, some (74, 78)), (238, 238, some (80, 84)), (238, 238, some (86, 90)), (238, 238, some (92, 96)), (238, 238, some (98, 98)), (238, 238, some (99, 99)), (238, 238, some (100, 100)), (238, 238, some (101, 101)), (238, 238, some (102, 102)), (238, 238, some (103, 105)), (238, 238, some (106, 106)), (238, 238, some (107, 118)), (238, 238, some (119, 119)), (238, 238, some (120, 196)), (238, 238, some (121, 197)), (238, 238, some (122, 198)), (238, 238, some (123, 199))] h13 h18 ∧ ((0 ≤ x16 ∧ x16 ≤ 12) ∧ (0 ≤ x17 ∧ x17 ≤ 1) ∧ ((h18 238 98) + (h18 238 99) + (h18 238 100) + (h18 238 101) + (h18 238 102) + (h18 238 106) = (h18 238 73)) ∧ ((h18 238 73) ≤ (h18 238 2)) ∧ ((h18 238 119) ≤ (h18 238 67)) ∧ ((h18 238 69) ≤ (h18 238 5)) ∧ ((h18 238 2) ≤ 12 * (h18 238 5)))) (fun x16 x17 h18 => ((12 : Int) + 1 - x16).toNat) (fun x16 x17 h18 => (9, [(0, .ref 236), (1, vi x16), (3, vi x17)], [], hp_w h18 cr, b, c)) ?_ 0 1 h13 ⟨g13, F15, FR.refl, (show (0 ≤ 0 ∧ 0 ≤ 12) ∧ (0 ≤ 1 ∧ 1 ≤ 1) ∧ ((h13 238 98) + (h13 238 99) + (h13 238 100) + (h13 238 101) + (h13 238 102) + (h13 238 106) = (h13 238 73)) ∧ ((h13 238 73) ≤ (h13 238 2)) ∧ ((h13 238 119) ≤ (h13 238 67)) ∧ ((h13 238 69) ≤ (h13 238 5)) ∧ ((h13 238 2) ≤ 12 * (h13 238 5)) by omega)⟩
  intro x16 x17 h18 ⟨g18, F31, u18, f18⟩ I18
  have b32 := gi_b (lo := 0) (hi := 6) g18 238 98 rfl
  have b33 := gi_b (lo := 0) (hi := 6) g18 238 99 rfl
  have b34 := gi_b (lo := 0) (hi := 6) g18 238 100 rfl
  have b35 := gi_b (lo := 0) (hi := 6) g18 238 101 rfl
  have b36 := gi_b (lo := 0) (hi := 3) g18 238 102 rfl
  have b37 := gi_b (lo := 0) (hi := 12) g18 238 106 rfl
  have e38 : h18 238 73 = h 238 73 := ((u18 238 73 rfl).trans (u13 238 73 rfl))
  have e39 : h18 238 2 = h 238 2 := ((u18 238 2 rfl).trans (u13 238 2 rfl))
  have b40 := gi_b (lo := 0) (hi := 9999) g18 238 119 rfl
  have b41 := gi_b (lo := 0) (hi := 9999) g18 238 67 rfl
  have b42 := gi_b (lo := 0) (hi := 9) g18 238 69 rfl
  have e43 : h18 238 5 = h 238 5 := ((u18 238 5 rfl).trans (u13 238 5 rfl))
  refine wi_iload_n (i := 3) (e := x17) (nx := 10) (r1 := 0) (r2 := 0) (r3 := 0) rfl rfl ?_
  refine wi_if (cd := .eq) (nx := 13) (r1 := 79) (r2 := 0) (r3 := 0) rfl (by omega) (fun (q44 : x17 = 0) => ?_) (fun (q44 : ¬ (x17 = 0)) => ?_)
  ·
    refine wi_iload_n (i := 1) (e := x16) (nx := 80) (r1 := 0) (r2 := 0) (r3 := 0) rfl rfl ?_
    refine wi_ireturn (nx := 81) (r1 := 0) (r2 := 0) (r3 := 0) rfl rfl ?_
    exact k h18 x16 g18 F31 (by omega) (show (h18 238 98) + (h18 238 99) + (h18 238 100) + (h18 238 101) + (h18 238 102) + (h18 238 106) = (h18 238 73) by omega) (show (h18 238 73) ≤ (h18 238 2) by omega) (show (h18 238 119) ≤ (h18 238 67) by omega) (show (h18 238 69) ≤ (h18 238 5) by omega) (show (h18 238 2) ≤ 12 * (h18 238 5) by omega)
  ·
    refine wi_iload_n (i := 1) (e := x16) (nx := 14) (r1 := 0) (r2 := 0) (r3 := 0) rfl rfl ?_
    refine wi_aload_n (i := 0) (x := 236) (nx := 15) (r1 := 0) (r2 := 0) (r3 := 0) rfl rfl ?_
    have b45 := gi_b (lo := 0) (hi := 12) g13 236 32 rfl
    refine wr_gi0 (k0 := 236) (x := h13 236 32) (nx := 18) (r1 := 11) (r2 := 32) (r3 := 0) rfl rfl (by decide) rfl ⟨rfl, rfl⟩ rfl (u18 236 32 rfl) ?_
    refine wi_icmp (cd := .ge) (nx := 21) (r1 := 79) (r2 := 0) (r3 := 0) rfl (by omega) (by omega) (fun (q46 : (h13 236 32) ≤ x16) => ?_) (fun (q46 : ¬ ((h13 236 32) ≤ x16)) => ?_)
    ·
      refine wi_iload_n (i := 1) (e := x16) (nx := 80) (r1 := 0) (r2 := 0) (r3 := 0) rfl rfl ?_
      refine wi_ireturn (nx := 81) (r1 := 0) (r2 := 0) (r3 := 0) rfl rfl ?_
      exact k h18 x16 g18 F31 (by omega) (show (h18 238 98) + (h18 238 99) + (h18 238 100) + (h18 238 101) + (h18 238 102) + (h18 238 106) = (h18 238 73) by omega) (show (h18 238 73) ≤ (h18 238 2) by omega) (show (h18 238 119) ≤ (h18 238 67) by omega) (show (h18 238 69) ≤ (h18 238 5) by omega) (show (h18 238 2) ≤ 12 * (h18 238 5) by omega)
    ·
      refine wi_aload_n (i := 0) (x := 236) (nx := 22) (r1 := 0) (r2 := 0) (r3 := 0) rfl rfl ?_
      refine wi_aload_n (i := 0) (x := 236) (nx := 23) (r1 := 0) (r2 := 0) (r3 := 0) rfl rfl ?_
      refine wr_gr (k0 := 236) (x := 248) (nx := 26) (r1 := 11) (r2 := 31) (r3 := 0) rfl rfl (by decide) rfl ⟨rfl, rfl⟩ rfl ?_
      refine wi_iload_n (i := 1) (e := x16) (nx := 27) (r1 := 0) (r2 := 0) (r3 := 0) rfl rfl ?_
      obtain ⟨i47, ei47⟩ : ∃ q : Nat, x16 = (q : Int) := ⟨(x16).toNat, by omega⟩
      have b48 := gi_b (lo := 0) (hi := 3) g13 248 i47 rfl
      refine wr_ia (k0 := 248) (a := x16) (f := i47) (x := h13 248 i47) (nx := 28) (r1 := 0) (r2 := 0) (r3 := 0) rfl (by decide) rfl (by omega) (by omega) (by decide) (u18 248 i47 (fo_nk rfl)) ?_
      rcases (show (h13 248 i47) = 0 ∨ (h13 248 i47) = 1 ∨ (h13 248 i47) = 2 ∨ (h13 248 i47) = 3 by omega) with q49 | q49 | q49 | q49
      ·
        rw [q49]
        refine wr_V (k0 := 236) (rest := []) (as := [.ref 236, vi 0]) (nx := 31) (r1 := 267) (r2 := 1) (r3 := 11) rfl rfl rfl (of_decide_eq_true rfl) rfl rfl (by decide) rfl rfl (of_decide_eq_true rfl) (of_decide_eq_true rfl) ?_
        refine ct_267_236_L0 hcr  g18    (fun z51  (fz51 : 0 ≤ z51 ∧ z51 ≤ 1) (p50_0 : z51 = 0 ∨ 1 ≤ (h18 238 98)) (p50_1 : z51 = 0 ∨ (h18 238 67) ≤ 9998) (p50_2 : z51 = 0 ∨ (1 ≤ (h18 238 (43 + (h18 238 74).toNat)) ∧ (h18 238 102) < (h18 238 7)) ∨ ((h18 238 (43 + (h18 238 74).toNat)) ≤ 0 ∧ (h18 238 74) - (h18 238 106) ≤ (h18 238 3))) y50_0 => ?_)
        have b52 := gi_b (lo := 0) (hi := 11) g18 238 74 rfl
        obtain ⟨i53, ei53⟩ : ∃ q : Nat, (43 + h18 238 74) = (q : Int) := ⟨(43 + h18 238 74).toNat, by omega⟩
        have b54 := gi_b (lo := 0) (hi := 999) g18 238 i53 (gi_rg 43 12 (fun _ => rfl) (by decide +kernel) (by omega))
        have e55 : h18 238 (43 + (h18 238 74).toNat) = h18 238 i53 := by rw [show 43 + (h18 238 74).toNat = i53 by omega]
        have b56 := gi_b (lo := 0) (hi := 3) g 238 7 rfl
        have e57 : h18 238 7 = h 238 7 := ((u18 238 7 rfl).trans (u13 238 7 rfl))
        have b58 := gi_b (lo := 0) (hi := 999) g 238 3 rfl
        have e59 : h18 238 3 = h 238 3 := ((u18 238 3 rfl).trans (u13 238 3 rfl))
        refine wk_i ?_
        refine wi_if (cd := .eq) (nx := 34) (r1 := 79) (r2 := 0) (r3 := 0) rfl (by omega) (fun (q60 : z51 = 0) => ?_) (fun (q60 : ¬ (z51 = 0)) => ?_)
        ·
          refine wi_iload_n (i := 1) (e := x16) (nx := 80) (r1 := 0) (r2 := 0) (r3 := 0) rfl rfl ?_
          refine wi_ireturn (nx := 81) (r1 := 0) (r2 := 0) (r3 := 0) rfl rfl ?_
          exact k h18 x16 g18 F31 (by omega) (show (h18 238 98) + (h18 238 99) + (h18 238 100) + (h18 238 101) + (h18 238 102) + (h18 238 106) = (h18 238 73) by omega) (show (h18 238 73) ≤ (h18 238 2) by omega) (show (h18 238 119) ≤ (h18 238 67) by omega) (show (h18 238 69) ≤ (h18 238 5) by omega) (show (h18 238 2) ≤ 12 * (h18 238 5) by omega)
        ·
          refine wi_aload_n (i := 0) (x := 236) (nx := 35) (r1 := 0) (r2 := 0) (r3 := 0) rfl rfl ?_
          refine wr_gr (k0 := 236) (x := 238) (nx := 38) (r1 := 11) (r2 := 13) (r3 := 0) rfl rfl (by decide) rfl ⟨rfl, rfl⟩ rfl ?_
          refine wi_bipush (n := 106) (nx := 40) (r1 := 0) (r2 := 0) (r3 := 0) rfl (by decide) ?_
          refine wr_ia (k0 := 238) (a := 106) (f := 106) (x := h18 238 106) (nx := 41) (r1 := 0) (r2 := 0) (r3 := 0) rfl (by decide) rfl (by omega) (by omega) (by decide) rfl ?_
          refine wi_istore (i := 4) (e := h18 238 106) (lo2 := [(4, vi (h18 238 106)), (0, .ref 236), (1, vi x16), (3, vi x17)]) (nx := 43) (r1 := 0) (r2 := 0) (r3 := 0) rfl rfl ?_
          refine wi_aload_n (i := 0) (x := 236) (nx := 44) (r1 := 0) (r2 := 0) (r3 := 0) rfl rfl ?_
          refine wi_aload_n (i := 0) (x := 236) (nx := 45) (r1 := 0) (r2 := 0) (r3 := 0) rfl rfl ?_
          refine wr_gr (k0 := 236) (x := 248) (nx := 48) (r1 := 11) (r2 := 31) (r3 := 0) rfl rfl (by decide) rfl ⟨rfl, rfl⟩ rfl ?_
          refine wi_iload_n (i := 1) (e := x16) (nx := 49) (r1 := 0) (r2 := 0) (r3 := 0) rfl rfl ?_
          refine wr_ia (k0 := 248) (a := x16) (f := i47) (x := h13 248 i47) (nx := 50) (r1 := 0) (r2 := 0) (r3 := 0) rfl (by decide) rfl (by omega) (by omega) (by decide) (u18 248 i47 (fo_nk rfl)) ?_
          rcases (show (h13 248 i47) = 0 by omega) with q61
          ·
            rw [q61]
            refine wr_V (k0 := 236) (rest := []) (as := [.ref 236, vi 0]) (nx := 53) (r1 := 282) (r2 := 1) (r3 := 11) rfl rfl rfl (of_decide_eq_true rfl) rfl rfl (by decide) rfl rfl (of_decide_eq_true rfl) (of_decide_eq_true rfl) ?_
            refine ct_282_236_L0 hcr  g18   (show (h18 238 98) + (h18 238 99) + (h18 238 100) + (h18 238 101) + (h18 238 102) + (h18 238 106) = (h18 238 73) by omega) (show (h18 238 73) ≤ (h18 238 2) by omega) (show (h18 238 119) ≤ (h18 238 67) by omega) (show (h18 238 69) ≤ (h18 238 5) by omega) (show (h18 238 2) ≤ 12 * (h18 238 5) by omega) (show 1 ≤ (h18 238 98) by omega) (show (h18 238 67) ≤ 9998 by omega) (show (h18 238 102) ≤ 2 ∨ (h18 238 (43 + (h18 238 74).toNat)) ≤ 0 by omega) (fun h62 z63 g62 u62 (fz63 : 0 ≤ z63 ∧ z63 ≤ 11) (p62_0 : (h62 238 98) + (h62 238 99) + (h62 238 100) + (h62 238 101) + (h62 238 102) + (h62 238 106) = (h62 238 73)) (p62_1 : (h62 238 73) ≤ (h62 238 2)) (p62_2 : (h62 238 119) ≤ (h62 238 67)) (p62_3 : (h62 238 69) ≤ (h62 238 5)) (p62_4 : (h62 238 2) ≤ 12 * (h62 238 5)) => ?_)
            have F64 := F31.then (by decide +kernel) u62
            have F65 := u18.then (by decide +kernel) u62
            have b66 := gi_b (lo := 0) (hi := 6) g62 238 98 rfl
            have e67 : h62 238 99 = h18 238 99 := (u62 238 99 rfl)
            have e68 : h62 238 100 = h18 238 100 := (u62 238 100 rfl)
            have e69 : h62 238 101 = h18 238 101 := (u62 238 101 rfl)
            have b70 := gi_b (lo := 0) (hi := 3) g62 238 102 rfl
            have b71 := gi_b (lo := 0) (hi := 12) g62 238 106 rfl
            have e72 : h62 238 73 = h 238 73 := ((u62 238 73 rfl).trans ((u18 238 73 rfl).trans (u13 238 73 rfl)))
            have e73 : h62 238 2 = h 238 2 := ((u62 238 2 rfl).trans ((u18 238 2 rfl).trans (u13 238 2 rfl)))
            have b74 := gi_b (lo := 0) (hi := 9999) g62 238 119 rfl
            have b75 := gi_b (lo := 0) (hi := 9999) g62 238 67 rfl
            have b76 := gi_b (lo := 0) (hi := 9) g62 238 69 rfl
            have e77 : h62 238 5 = h 238 5 := ((u62 238 5 rfl).trans ((u18 238 5 rfl).trans (u13 238 5 rfl)))
            refine wk_i ?_
            refine wi_istore (i := 5) (e := z63) (lo2 := [(5, vi z63), (4, vi (h18 238 106)), (0, .ref 236), (1, vi x16), (3, vi x17)]) (nx := 55) (r1 := 0) (r2 := 0) (r3 := 0) rfl rfl ?_
            refine wr_iinc (i := 1) (n := 1) (v := x16) (fun e78 => [(1, vi e78), (5, vi z63), (4, vi (h18 238 106)), (0, .ref 236), (3, vi x17)]) (nx := 58) (r1 := 0) (r2 := 0) (r3 := 0) rfl rfl (fun _ => rfl) (fun e78 (fe78 : e78 = x16 + 1) => ?_)
            refine wi_aload_n (i := 0) (x := 236) (nx := 59) (r1 := 0) (r2 := 0) (r3 := 0) rfl rfl ?_
            refine wr_gr (k0 := 236) (x := 238) (nx := 62) (r1 := 11) (r2 := 13) (r3 := 0) rfl rfl (by decide) rfl ⟨rfl, rfl⟩ rfl ?_
            refine wi_bipush (n := 106) (nx := 64) (r1 := 0) (r2 := 0) (r3 := 0) rfl (by decide) ?_
            refine wr_ia (k0 := 238) (a := 106) (f := 106) (x := h62 238 106) (nx := 65) (r1 := 0) (r2 := 0) (r3 := 0) rfl (by decide) rfl (by omega) (by omega) (by decide) rfl ?_
            refine wi_iload (i := 4) (e := h18 238 106) (nx := 67) (r1 := 0) (r2 := 0) (r3 := 0) rfl rfl ?_
            refine wi_icmp (cd := .le) (nx := 70) (r1 := 74) (r2 := 0) (r3 := 0) rfl (by omega) (by omega) (fun (q79 : (h62 238 106) ≤ (h18 238 106)) => ?_) (fun (q79 : ¬ ((h62 238 106) ≤ (h18 238 106))) => ?_)
            ·
              refine wi_iconst (n := 0) (nx := 75) (r1 := 0) (r2 := 0) (r3 := 0) rfl ?_
              refine wi_istore_n (i := 3) (e := 0) (lo2 := [(3, vi 0), (1, vi e78), (5, vi z63), (4, vi (h18 238 106)), (0, .ref 236)]) (nx := 76) (r1 := 0) (r2 := 0) (r3 := 0) rfl rfl ?_
              refine wi_goto (nx := 79) (r1 := 9) (r2 := 0) (r3 := 0) rfl ?_
              refine wp.lo (lo := [(0, .ref 236), (1, vi e78), (3, vi 0)]) ⟨rfl, rfl, rfl, trivial⟩ rfl ?_
              exact I18 e78 0 h62 ⟨g62, F64, F65, (show (0 ≤ e78 ∧ e78 ≤ 12) ∧ (0 ≤ 0 ∧ 0 ≤ 1) ∧ ((h62 238 98) + (h62 238 99) + (h62 238 100) + (h62 238 101) + (h62 238 102) + (h62 238 106) = (h62 238 73)) ∧ ((h62 238 73) ≤ (h62 238 2)) ∧ ((h62 238 119) ≤ (h62 238 67)) ∧ ((h62 238 69) ≤ (h62 238 5)) ∧ ((h62 238 2) ≤ 12 * (h62 238 5)) by omega)⟩ (show ((12 : Int) + 1 - e78).toNat < ((12 : Int) + 1 - x16).toNat by omega)
            ·
              refine wi_iconst (n := 1) (nx := 71) (r1 := 0) (r2 := 0) (r3 := 0) rfl ?_
              refine wi_goto (nx := 74) (r1 := 75) (r2 := 0) (r3 := 0) rfl ?_
              refine wi_istore_n (i := 3) (e := 1) (lo2 := [(3, vi 1), (1, vi e78), (5, vi z63), (4, vi (h18 238 106)), (0, .ref 236)]) (nx := 76) (r1 := 0) (r2 := 0) (r3 := 0) rfl rfl ?_
              refine wi_goto (nx := 79) (r1 := 9) (r2 := 0) (r3 := 0) rfl ?_
              refine wp.lo (lo := [(0, .ref 236), (1, vi e78), (3, vi 1)]) ⟨rfl, rfl, rfl, trivial⟩ rfl ?_
              exact I18 e78 1 h62 ⟨g62, F64, F65, (show (0 ≤ e78 ∧ e78 ≤ 12) ∧ (0 ≤ 1 ∧ 1 ≤ 1) ∧ ((h62 238 98) + (h62 238 99) + (h62 238 100) + (h62 238 101) + (h62 238 102) + (h62 238 106) = (h62 238 73)) ∧ ((h62 238 73) ≤ (h62 238 2)) ∧ ((h62 238 119) ≤ (h62 238 67)) ∧ ((h62 238 69) ≤ (h62 238 5)) ∧ ((h62 238 2) ≤ 12 * (h62 238 5)) by omega)⟩ (show ((12 : Int) + 1 - e78).toNat < ((12 : Int) + 1 - x16).toNat by omega)
      ·
        rw [q49]
        refine wr_V (k0 := 236) (rest := []) (as := [.ref 236, vi 1]) (nx := 31) (r1 := 267) (r2 := 1) (r3 := 11) rfl rfl rfl (of_decide_eq_true rfl) rfl rfl (by decide) rfl rfl (of_decide_eq_true rfl) (of_decide_eq_true rfl) ?_
        refine ct_267_236_L1 hcr  g18    (fun z51  (fz51 : 0 ≤ z51 ∧ z51 ≤ 1) (p50_0 : z51 = 0 ∨ 1 ≤ (h18 238 99)) (p50_1 : z51 = 0 ∨ (h18 238 67) ≤ 9998) (p50_2 : z51 = 0 ∨ (1 ≤ (h18 238 (43 + (h18 238 80).toNat)) ∧ (h18 238 102) < (h18 238 7)) ∨ ((h18 238 (43 + (h18 238 80).toNat)) ≤ 0 ∧ (h18 238 80) - (h18 238 106) ≤ (h18 238 3))) y50_0 => ?_)
        have b52 := gi_b (lo := 0) (hi := 11) g18 238 80 rfl
        obtain ⟨i53, ei53⟩ : ∃ q : Nat, (43 + h18 238 80) = (q : Int) := ⟨(43 + h18 238 80).toNat, by omega⟩
        have b54 := gi_b (lo := 0) (hi := 999) g18 238 i53 (gi_rg 43 12 (fun _ => rfl) (by decide +kernel) (by omega))
        have e55 : h18 238 (43 + (h18 238 80).toNat) = h18 238 i53 := by rw [show 43 + (h18 238 80).toNat = i53 by omega]
        have b56 := gi_b (lo := 0) (hi := 3) g 238 7 rfl
        have e57 : h18 238 7 = h 238 7 := ((u18 238 7 rfl).trans (u13 238 7 rfl))
        have b58 := gi_b (lo := 0) (hi := 999) g 238 3 rfl
        have e59 : h18 238 3 = h 238 3 := ((u18 238 3 rfl).trans (u13 238 3 rfl))
        refine wk_i ?_
        refine wi_if (cd := .eq) (nx := 34) (r1 := 79) (r2 := 0) (r3 := 0) rfl (by omega) (fun (q60 : z51 = 0) => ?_) (fun (q60 : ¬ (z51 = 0)) => ?_)
        ·
          refine wi_iload_n (i := 1) (e := x16) (nx := 80) (r1 := 0) (r2 := 0) (r3 := 0) rfl rfl ?_
          refine wi_ireturn (nx := 81) (r1 := 0) (r2 := 0) (r3 := 0) rfl rfl ?_
          exact k h18 x16 g18 F31 (by omega) (show (h18 238 98) + (h18 238 99) + (h18 238 100) + (h18 238 101) + (h18 238 102) + (h18 238 106) = (h18 238 73) by omega) (show (h18 238 73) ≤ (h18 238 2) by omega) (show (h18 238 119) ≤ (h18 238 67) by omega) (show (h18 238 69) ≤ (h18 238 5) by omega) (show (h18 238 2) ≤ 12 * (h18 238 5) by omega)
        ·
          refine wi_aload_n (i := 0) (x := 236) (nx := 35) (r1 := 0) (r2 := 0) (r3 := 0) rfl rfl ?_
          refine wr_gr (k0 := 236) (x := 238) (nx := 38) (r1 := 11) (r2 := 13) (r3 := 0) rfl rfl (by decide) rfl ⟨rfl, rfl⟩ rfl ?_
          refine wi_bipush (n := 106) (nx := 40) (r1 := 0) (r2 := 0) (r3 := 0) rfl (by decide) ?_
          refine wr_ia (k0 := 238) (a := 106) (f := 106) (x := h18 238 106) (nx := 41) (r1 := 0) (r2 := 0) (r3 := 0) rfl (by decide) rfl (by omega) (by omega) (by decide) rfl ?_
          refine wi_istore (i := 4) (e := h18 238 106) (lo2 := [(4, vi (h18 238 106)), (0, .ref 236), (1, vi x16), (3, vi x17)]) (nx := 43) (r1 := 0) (r2 := 0) (r3 := 0) rfl rfl ?_
          refine wi_aload_n (i := 0) (x := 236) (nx := 44) (r1 := 0) (r2 := 0) (r3 := 0) rfl rfl ?_
          refine wi_aload_n (i := 0) (x := 236) (nx := 45) (r1 := 0) (r2 := 0) (r3 := 0) rfl rfl ?_
          refine wr_gr (k0 := 236) (x := 248) (nx := 48) (r1 := 11) (r2 := 31) (r3 := 0) rfl rfl (by decide) rfl ⟨rfl, rfl⟩ rfl ?_
          refine wi_iload_n (i := 1) (e := x16) (nx := 49) (r1 := 0) (r2 := 0) (r3 := 0) rfl rfl ?_
          refine wr_ia (k0 := 248) (a := x16) (f := i47) (x := h13 248 i47) (nx := 50) (r1 := 0) (r2 := 0) (r3 := 0) rfl (by decide) rfl (by omega) (by omega) (by decide) (u18 248 i47 (fo_nk rfl)) ?_
          rcases (show (h13 248 i47) = 1 by omega) with q61
          ·
            rw [q61]
            refine wr_V (k0 := 236) (rest := []) (as := [.ref 236, vi 1]) (nx := 53) (r1 := 282) (r2 := 1) (r3 := 11) rfl rfl rfl (of_decide_eq_true rfl) rfl rfl (by decide) rfl rfl (of_decide_eq_true rfl) (of_decide_eq_true rfl) ?_
            refine ct_282_236_L1 hcr  g18   (show (h18 238 98) + (h18 238 99) + (h18 238 100) + (h18 238 101) + (h18 238 102) + (h18 238 106) = (h18 238 73) by omega) (show (h18 238 73) ≤ (h18 238 2) by omega) (show (h18 238 119) ≤ (h18 238 67) by omega) (show (h18 238 69) ≤ (h18 238 5) by omega) (show (h18 238 2) ≤ 12 * (h18 238 5) by omega) (show 1 ≤ (h18 238 99) by omega) (show (h18 238 67) ≤ 9998 by omega) (show (h18 238 102) ≤ 2 ∨ (h18 238 (43 + (h18 238 80).toNat)) ≤ 0 by omega) (fun h62 z63 g62 u62 (fz63 : 0 ≤ z63 ∧ z63 ≤ 11) (p62_0 : (h62 238 98) + (h62 238 99) + (h62 238 100) + (h62 238 101) + (h62 238 102) + (h62 238 106) = (h62 238 73)) (p62_1 : (h62 238 73) ≤ (h62 238 2)) (p62_2 : (h62 238 119) ≤ (h62 238 67)) (p62_3 : (h62 238 69) ≤ (h62 238 5)) (p62_4 : (h62 238 2) ≤ 12 * (h62 238 5)) => ?_)
            have F64 := F31.then (by decide +kernel) u62
            have F65 := u18.then (by decide +kernel) u62
            have e66 : h62 238 98 = h18 238 98 := (u62 238 98 rfl)
            have b67 := gi_b (lo := 0) (hi := 6) g62 238 99 rfl
            have e68 : h62 238 100 = h18 238 100 := (u62 238 100 rfl)
            have e69 : h62 238 101 = h18 238 101 := (u62 238 101 rfl)
            have b70 := gi_b (lo := 0) (hi := 3) g62 238 102 rfl
            have b71 := gi_b (lo := 0) (hi := 12) g62 238 106 rfl
            have e72 : h62 238 73 = h 238 73 := ((u62 238 73 rfl).trans ((u18 238 73 rfl).trans (u13 238 73 rfl)))
            have e73 : h62 238 2 = h 238 2 := ((u62 238 2 rfl).trans ((u18 238 2 rfl).trans (u13 238 2 rfl)))
            have b74 := gi_b (lo := 0) (hi := 9999) g62 238 119 rfl
            have b75 := gi_b (lo := 0) (hi := 9999) g62 238 67 rfl
            have b76 := gi_b (lo := 0) (hi := 9) g62 238 69 rfl
            have e77 : h62 238 5 = h 238 5 := ((u62 238 5 rfl).trans ((u18 238 5 rfl).trans (u13 238 5 rfl)))
            refine wk_i ?_
            refine wi_istore (i := 5) (e := z63) (lo2 := [(5, vi z63), (4, vi (h18 238 106)), (0, .ref 236), (1, vi x16), (3, vi x17)]) (nx := 55) (r1 := 0) (r2 := 0) (r3 := 0) rfl rfl ?_
            refine wr_iinc (i := 1) (n := 1) (v := x16) (fun e78 => [(1, vi e78), (5, vi z63), (4, vi (h18 238 106)), (0, .ref 236), (3, vi x17)]) (nx := 58) (r1 := 0) (r2 := 0) (r3 := 0) rfl rfl (fun _ => rfl) (fun e78 (fe78 : e78 = x16 + 1) => ?_)
            refine wi_aload_n (i := 0) (x := 236) (nx := 59) (r1 := 0) (r2 := 0) (r3 := 0) rfl rfl ?_
            refine wr_gr (k0 := 236) (x := 238) (nx := 62) (r1 := 11) (r2 := 13) (r3 := 0) rfl rfl (by decide) rfl ⟨rfl, rfl⟩ rfl ?_
            refine wi_bipush (n := 106) (nx := 64) (r1 := 0) (r2 := 0) (r3 := 0) rfl (by decide) ?_
            refine wr_ia (k0 := 238) (a := 106) (f := 106) (x := h62 238 106) (nx := 65) (r1 := 0) (r2 := 0) (r3 := 0) rfl (by decide) rfl (by omega) (by omega) (by decide) rfl ?_
            refine wi_iload (i := 4) (e := h18 238 106) (nx := 67) (r1 := 0) (r2 := 0) (r3 := 0) rfl rfl ?_
            refine wi_icmp (cd := .le) (nx := 70) (r1 := 74) (r2 := 0) (r3 := 0) rfl (by omega) (by omega) (fun (q79 : (h62 238 106) ≤ (h18 238 106)) => ?_) (fun (q79 : ¬ ((h62 238 106) ≤ (h18 238 106))) => ?_)
            ·
              refine wi_iconst (n := 0) (nx := 75) (r1 := 0) (r2 := 0) (r3 := 0) rfl ?_
              refine wi_istore_n (i := 3) (e := 0) (lo2 := [(3, vi 0), (1, vi e78), (5, vi z63), (4, vi (h18 238 106)), (0, .ref 236)]) (nx := 76) (r1 := 0) (r2 := 0) (r3 := 0) rfl rfl ?_
              refine wi_goto (nx := 79) (r1 := 9) (r2 := 0) (r3 := 0) rfl ?_
              refine wp.lo (lo := [(0, .ref 236), (1, vi e78), (3, vi 0)]) ⟨rfl, rfl, rfl, trivial⟩ rfl ?_
              exact I18 e78 0 h62 ⟨g62, F64, F65, (show (0 ≤ e78 ∧ e78 ≤ 12) ∧ (0 ≤ 0 ∧ 0 ≤ 1) ∧ ((h62 238 98) + (h62 238 99) + (h62 238 100) + (h62 238 101) + (h62 238 102) + (h62 238 106) = (h62 238 73)) ∧ ((h62 238 73) ≤ (h62 238 2)) ∧ ((h62 238 119) ≤ (h62 238 67)) ∧ ((h62 238 69) ≤ (h62 238 5)) ∧ ((h62 238 2) ≤ 12 * (h62 238 5)) by omega)⟩ (show ((12 : Int) + 1 - e78).toNat < ((12 : Int) + 1 - x16).toNat by omega)
            ·
              refine wi_iconst (n := 1) (nx := 71) (r1 := 0) (r2 := 0) (r3 := 0) rfl ?_
              refine wi_goto (nx := 74) (r1 := 75) (r2 := 0) (r3 := 0) rfl ?_
              refine wi_istore_n (i := 3) (e := 1) (lo2 := [(3, vi 1), (1, vi e78), (5, vi z63), (4, vi (h18 238 106)), (0, .ref 236)]) (nx := 76) (r1 := 0) (r2 := 0) (r3 := 0) rfl rfl ?_
              refine wi_goto (nx := 79) (r1 := 9) (r2 := 0) (r3 := 0) rfl ?_
              refine wp.lo (lo := [(0, .ref 236), (1, vi e78), (3, vi 1)]) ⟨rfl, rfl, rfl, trivial⟩ rfl ?_
              exact I18 e78 1 h62 ⟨g62, F64, F65, (show (0 ≤ e78 ∧ e78 ≤ 12) ∧ (0 ≤ 1 ∧ 1 ≤ 1) ∧ ((h62 238 98) + (h62 238 99) + (h62 238 100) + (h62 238 101) + (h62 238 102) + (h62 238 106) = (h62 238 73)) ∧ ((h62 238 73) ≤ (h62 238 2)) ∧ ((h62 238 119) ≤ (h62 238 67)) ∧ ((h62 238 69) ≤ (h62 238 5)) ∧ ((h62 238 2) ≤ 12 * (h62 238 5)) by omega)⟩ (show ((12 : Int) + 1 - e78).toNat < ((12 : Int) + 1 - x16).toNat by omega)
      ·
        rw [q49]
        refine wr_V (k0 := 236) (rest := []) (as := [.ref 236, vi 2]) (nx := 31) (r1 := 267) (r2 := 1) (r3 := 11) rfl rfl rfl (of_decide_eq_true rfl) rfl rfl (by decide) rfl rfl (of_decide_eq_true rfl) (of_decide_eq_true rfl) ?_
        refine ct_267_236_L2 hcr  g18    (fun z51  (fz51 : 0 ≤ z51 ∧ z51 ≤ 1) (p50_0 : z51 = 0 ∨ 1 ≤ (h18 238 100)) (p50_1 : z51 = 0 ∨ (h18 238 67) ≤ 9998) (p50_2 : z51 = 0 ∨ (1 ≤ (h18 238 (43 + (h18 238 86).toNat)) ∧ (h18 238 102) < (h18 238 7)) ∨ ((h18 238 (43 + (h18 238 86).toNat)) ≤ 0 ∧ (h18 238 86) - (h18 238 106) ≤ (h18 238 3))) y50_0 => ?_)
        have b52 := gi_b (lo := 0) (hi := 11) g18 238 86 rfl
        obtain ⟨i53, ei53⟩ : ∃ q : Nat, (43 + h18 238 86) = (q : Int) := ⟨(43 + h18 238 86).toNat, by omega⟩
        have b54 := gi_b (lo := 0) (hi := 999) g18 238 i53 (gi_rg 43 12 (fun _ => rfl) (by decide +kernel) (by omega))
        have e55 : h18 238 (43 + (h18 238 86).toNat) = h18 238 i53 := by rw [show 43 + (h18 238 86).toNat = i53 by omega]
        have b56 := gi_b (lo := 0) (hi := 3) g 238 7 rfl
        have e57 : h18 238 7 = h 238 7 := ((u18 238 7 rfl).trans (u13 238 7 rfl))
        have b58 := gi_b (lo := 0) (hi := 999) g 238 3 rfl
        have e59 : h18 238 3 = h 238 3 := ((u18 238 3 rfl).trans (u13 238 3 rfl))
        refine wk_i ?_
        refine wi_if (cd := .eq) (nx := 34) (r1 := 79) (r2 := 0) (r3 := 0) rfl (by omega) (fun (q60 : z51 = 0) => ?_) (fun (q60 : ¬ (z51 = 0)) => ?_)
        ·
          refine wi_iload_n (i := 1) (e := x16) (nx := 80) (r1 := 0) (r2 := 0) (r3 := 0) rfl rfl ?_
          refine wi_ireturn (nx := 81) (r1 := 0) (r2 := 0) (r3 := 0) rfl rfl ?_
          exact k h18 x16 g18 F31 (by omega) (show (h18 238 98) + (h18 238 99) + (h18 238 100) + (h18 238 101) + (h18 238 102) + (h18 238 106) = (h18 238 73) by omega) (show (h18 238 73) ≤ (h18 238 2) by omega) (show (h18 238 119) ≤ (h18 238 67) by omega) (show (h18 238 69) ≤ (h18 238 5) by omega) (show (h18 238 2) ≤ 12 * (h18 238 5) by omega)
        ·
          refine wi_aload_n (i := 0) (x := 236) (nx := 35) (r1 := 0) (r2 := 0) (r3 := 0) rfl rfl ?_
          refine wr_gr (k0 := 236) (x := 238) (nx := 38) (r1 := 11) (r2 := 13) (r3 := 0) rfl rfl (by decide) rfl ⟨rfl, rfl⟩ rfl ?_
          refine wi_bipush (n := 106) (nx := 40) (r1 := 0) (r2 := 0) (r3 := 0) rfl (by decide) ?_
          refine wr_ia (k0 := 238) (a := 106) (f := 106) (x := h18 238 106) (nx := 41) (r1 := 0) (r2 := 0) (r3 := 0) rfl (by decide) rfl (by omega) (by omega) (by decide) rfl ?_
          refine wi_istore (i := 4) (e := h18 238 106) (lo2 := [(4, vi (h18 238 106)), (0, .ref 236), (1, vi x16), (3, vi x17)]) (nx := 43) (r1 := 0) (r2 := 0) (r3 := 0) rfl rfl ?_
          refine wi_aload_n (i := 0) (x := 236) (nx := 44) (r1 := 0) (r2 := 0) (r3 := 0) rfl rfl ?_
          refine wi_aload_n (i := 0) (x := 236) (nx := 45) (r1 := 0) (r2 := 0) (r3 := 0) rfl rfl ?_
          refine wr_gr (k0 := 236) (x := 248) (nx := 48) (r1 := 11) (r2 := 31) (r3 := 0) rfl rfl (by decide) rfl ⟨rfl, rfl⟩ rfl ?_
          refine wi_iload_n (i := 1) (e := x16) (nx := 49) (r1 := 0) (r2 := 0) (r3 := 0) rfl rfl ?_
          refine wr_ia (k0 := 248) (a := x16) (f := i47) (x := h13 248 i47) (nx := 50) (r1 := 0) (r2 := 0) (r3 := 0) rfl (by decide) rfl (by omega) (by omega) (by decide) (u18 248 i47 (fo_nk rfl)) ?_
          rcases (show (h13 248 i47) = 2 by omega) with q61
          ·
            rw [q61]
            refine wr_V (k0 := 236) (rest := []) (as := [.ref 236, vi 2]) (nx := 53) (r1 := 282) (r2 := 1) (r3 := 11) rfl rfl rfl (of_decide_eq_true rfl) rfl rfl (by decide) rfl rfl (of_decide_eq_true rfl) (of_decide_eq_true rfl) ?_
            refine ct_282_236_L2 hcr  g18   (show (h18 238 98) + (h18 238 99) + (h18 238 100) + (h18 238 101) + (h18 238 102) + (h18 238 106) = (h18 238 73) by omega) (show (h18 238 73) ≤ (h18 238 2) by omega) (show (h18 238 119) ≤ (h18 238 67) by omega) (show (h18 238 69) ≤ (h18 238 5) by omega) (show (h18 238 2) ≤ 12 * (h18 238 5) by omega) (show 1 ≤ (h18 238 100) by omega) (show (h18 238 67) ≤ 9998 by omega) (show (h18 238 102) ≤ 2 ∨ (h18 238 (43 + (h18 238 86).toNat)) ≤ 0 by omega) (fun h62 z63 g62 u62 (fz63 : 0 ≤ z63 ∧ z63 ≤ 11) (p62_0 : (h62 238 98) + (h62 238 99) + (h62 238 100) + (h62 238 101) + (h62 238 102) + (h62 238 106) = (h62 238 73)) (p62_1 : (h62 238 73) ≤ (h62 238 2)) (p62_2 : (h62 238 119) ≤ (h62 238 67)) (p62_3 : (h62 238 69) ≤ (h62 238 5)) (p62_4 : (h62 238 2) ≤ 12 * (h62 238 5)) => ?_)
            have F64 := F31.then (by decide +kernel) u62
            have F65 := u18.then (by decide +kernel) u62
            have e66 : h62 238 98 = h18 238 98 := (u62 238 98 rfl)
            have e67 : h62 238 99 = h18 238 99 := (u62 238 99 rfl)
            have b68 := gi_b (lo := 0) (hi := 6) g62 238 100 rfl
            have e69 : h62 238 101 = h18 238 101 := (u62 238 101 rfl)
            have b70 := gi_b (lo := 0) (hi := 3) g62 238 102 rfl
            have b71 := gi_b (lo := 0) (hi := 12) g62 238 106 rfl
            have e72 : h62 238 73 = h 238 73 := ((u62 238 73 rfl).trans ((u18 238 73 rfl).trans (u13 238 73 rfl)))
            have e73 : h62 238 2 = h 238 2 := ((u62 238 2 rfl).trans ((u18 238 2 rfl).trans (u13 238 2 rfl)))
            have b74 := gi_b (lo := 0) (hi := 9999) g62 238 119 rfl
            have b75 := gi_b (lo := 0) (hi := 9999) g62 238 67 rfl
            have b76 := gi_b (lo := 0) (hi := 9) g62 238 69 rfl
            have e77 : h62 238 5 = h 238 5 := ((u62 238 5 rfl).trans ((u18 238 5 rfl).trans (u13 238 5 rfl)))
            refine wk_i ?_
            refine wi_istore (i := 5) (e := z63) (lo2 := [(5, vi z63), (4, vi (h18 238 106)), (0, .ref 236), (1, vi x16), (3, vi x17)]) (nx := 55) (r1 := 0) (r2 := 0) (r3 := 0) rfl rfl ?_
            refine wr_iinc (i := 1) (n := 1) (v := x16) (fun e78 => [(1, vi e78), (5, vi z63), (4, vi (h18 238 106)), (0, .ref 236), (3, vi x17)]) (nx := 58) (r1 := 0) (r2 := 0) (r3 := 0) rfl rfl (fun _ => rfl) (fun e78 (fe78 : e78 = x16 + 1) => ?_)
            refine wi_aload_n (i := 0) (x := 236) (nx := 59) (r1 := 0) (r2 := 0) (r3 := 0) rfl rfl ?_
            refine wr_gr (k0 := 236) (x := 238) (nx := 62) (r1 := 11) (r2 := 13) (r3 := 0) rfl rfl (by decide) rfl ⟨rfl, rfl⟩ rfl ?_
            refine wi_bipush (n := 106) (nx := 64) (r1 := 0) (r2 := 0) (r3 := 0) rfl (by decide) ?_
            refine wr_ia (k0 := 238) (a := 106) (f := 106) (x := h62 238 106) (nx := 65) (r1 := 0) (r2 := 0) (r3 := 0) rfl (by decide) rfl (by omega) (by omega) (by decide) rfl ?_
            refine wi_iload (i := 4) (e := h18 238 106) (nx := 67) (r1 := 0) (r2 := 0) (r3 := 0) rfl rfl ?_
            refine wi_icmp (cd := .le) (nx := 70) (r1 := 74) (r2 := 0) (r3 := 0) rfl (by omega) (by omega) (fun (q79 : (h62 238 106) ≤ (h18 238 106)) => ?_) (fun (q79 : ¬ ((h62 238 106) ≤ (h18 238 106))) => ?_)
            ·
              refine wi_iconst (n := 0) (nx := 75) (r1 := 0) (r2 := 0) (r3 := 0) rfl ?_
              refine wi_istore_n (i := 3) (e := 0) (lo2 := [(3, vi 0), (1, vi e78), (5, vi z63), (4, vi (h18 238 106)), (0, .ref 236)]) (nx := 76) (r1 := 0) (r2 := 0) (r3 := 0) rfl rfl ?_
              refine wi_goto (nx := 79) (r1 := 9) (r2 := 0) (r3 := 0) rfl ?_
              refine wp.lo (lo := [(0, .ref 236), (1, vi e78), (3, vi 0)]) ⟨rfl, rfl, rfl, trivial⟩ rfl ?_
              exact I18 e78 0 h62 ⟨g62, F64, F65, (show (0 ≤ e78 ∧ e78 ≤ 12) ∧ (0 ≤ 0 ∧ 0 ≤ 1) ∧ ((h62 238 98) + (h62 238 99) + (h62 238 100) + (h62 238 101) + (h62 238 102) + (h62 238 106) = (h62 238 73)) ∧ ((h62 238 73) ≤ (h62 238 2)) ∧ ((h62 238 119) ≤ (h62 238 67)) ∧ ((h62 238 69) ≤ (h62 238 5)) ∧ ((h62 238 2) ≤ 12 * (h62 238 5)) by omega)⟩ (show ((12 : Int) + 1 - e78).toNat < ((12 : Int) + 1 - x16).toNat by omega)
            ·
              refine wi_iconst (n := 1) (nx := 71) (r1 := 0) (r2 := 0) (r3 := 0) rfl ?_
              refine wi_goto (nx := 74) (r1 := 75) (r2 := 0) (r3 := 0) rfl ?_
              refine wi_istore_n (i := 3) (e := 1) (lo2 := [(3, vi 1), (1, vi e78), (5, vi z63), (4, vi (h18 238 106)), (0, .ref 236)]) (nx := 76) (r1 := 0) (r2 := 0) (r3 := 0) rfl rfl ?_
              refine wi_goto (nx := 79) (r1 := 9) (r2 := 0) (r3 := 0) rfl ?_
              refine wp.lo (lo := [(0, .ref 236), (1, vi e78), (3, vi 1)]) ⟨rfl, rfl, rfl, trivial⟩ rfl ?_
              exact I18 e78 1 h62 ⟨g62, F64, F65, (show (0 ≤ e78 ∧ e78 ≤ 12) ∧ (0 ≤ 1 ∧ 1 ≤ 1) ∧ ((h62 238 98) + (h62 238 99) + (h62 238 100) + (h62 238 101) + (h62 238 102) + (h62 238 106) = (h62 238 73)) ∧ ((h62 238 73) ≤ (h62 238 2)) ∧ ((h62 238 119) ≤ (h62 238 67)) ∧ ((h62 238 69) ≤ (h62 238 5)) ∧ ((h62 238 2) ≤ 12 * (h62 238 5)) by omega)⟩ (show ((12 : Int) + 1 - e78).toNat < ((12 : Int) + 1 - x16).toNat by omega)
      ·
        rw [q49]
        refine wr_V (k0 := 236) (rest := []) (as := [.ref 236, vi 3]) (nx := 31) (r1 := 267) (r2 := 1) (r3 := 11) rfl rfl rfl (of_decide_eq_true rfl) rfl rfl (by decide) rfl rfl (of_decide_eq_true rfl) (of_decide_eq_true rfl) ?_
        refine ct_267_236_L3 hcr  g18    (fun z51  (fz51 : 0 ≤ z51 ∧ z51 ≤ 1) (p50_0 : z51 = 0 ∨ 1 ≤ (h18 238 101)) (p50_1 : z51 = 0 ∨ (h18 238 67) ≤ 9998) (p50_2 : z51 = 0 ∨ (1 ≤ (h18 238 (43 + (h18 238 92).toNat)) ∧ (h18 238 102) < (h18 238 7)) ∨ ((h18 238 (43 + (h18 238 92).toNat)) ≤ 0 ∧ (h18 238 92) - (h18 238 106) ≤ (h18 238 3))) y50_0 => ?_)
        have b52 := gi_b (lo := 0) (hi := 11) g18 238 92 rfl
        obtain ⟨i53, ei53⟩ : ∃ q : Nat, (43 + h18 238 92) = (q : Int) := ⟨(43 + h18 238 92).toNat, by omega⟩
        have b54 := gi_b (lo := 0) (hi := 999) g18 238 i53 (gi_rg 43 12 (fun _ => rfl) (by decide +kernel) (by omega))
        have e55 : h18 238 (43 + (h18 238 92).toNat) = h18 238 i53 := by rw [show 43 + (h18 238 92).toNat = i53 by omega]
        have b56 := gi_b (lo := 0) (hi := 3) g 238 7 rfl
        have e57 : h18 238 7 = h 238 7 := ((u18 238 7 rfl).trans (u13 238 7 rfl))
        have b58 := gi_b (lo := 0) (hi := 999) g 238 3 rfl
        have e59 : h18 238 3 = h 238 3 := ((u18 238 3 rfl).trans (u13 238 3 rfl))
        refine wk_i ?_
        refine wi_if (cd := .eq) (nx := 34) (r1 := 79) (r2 := 0) (r3 := 0) rfl (by omega) (fun (q60 : z51 = 0) => ?_) (fun (q60 : ¬ (z51 = 0)) => ?_)
        ·
          refine wi_iload_n (i := 1) (e := x16) (nx := 80) (r1 := 0) (r2 := 0) (r3 := 0) rfl rfl ?_
          refine wi_ireturn (nx := 81) (r1 := 0) (r2 := 0) (r3 := 0) rfl rfl ?_
          exact k h18 x16 g18 F31 (by omega) (show (h18 238 98) + (h18 238 99) + (h18 238 100) + (h18 238 101) + (h18 238 102) + (h18 238 106) = (h18 238 73) by omega) (show (h18 238 73) ≤ (h18 238 2) by omega) (show (h18 238 119) ≤ (h18 238 67) by omega) (show (h18 238 69) ≤ (h18 238 5) by omega) (show (h18 238 2) ≤ 12 * (h18 238 5) by omega)
        ·
          refine wi_aload_n (i := 0) (x := 236) (nx := 35) (r1 := 0) (r2 := 0) (r3 := 0) rfl rfl ?_
          refine wr_gr (k0 := 236) (x := 238) (nx := 38) (r1 := 11) (r2 := 13) (r3 := 0) rfl rfl (by decide) rfl ⟨rfl, rfl⟩ rfl ?_
          refine wi_bipush (n := 106) (nx := 40) (r1 := 0) (r2 := 0) (r3 := 0) rfl (by decide) ?_
          refine wr_ia (k0 := 238) (a := 106) (f := 106) (x := h18 238 106) (nx := 41) (r1 := 0) (r2 := 0) (r3 := 0) rfl (by decide) rfl (by omega) (by omega) (by decide) rfl ?_
          refine wi_istore (i := 4) (e := h18 238 106) (lo2 := [(4, vi (h18 238 106)), (0, .ref 236), (1, vi x16), (3, vi x17)]) (nx := 43) (r1 := 0) (r2 := 0) (r3 := 0) rfl rfl ?_
          refine wi_aload_n (i := 0) (x := 236) (nx := 44) (r1 := 0) (r2 := 0) (r3 := 0) rfl rfl ?_
          refine wi_aload_n (i := 0) (x := 236) (nx := 45) (r1 := 0) (r2 := 0) (r3 := 0) rfl rfl ?_
          refine wr_gr (k0 := 236) (x := 248) (nx := 48) (r1 := 11) (r2 := 31) (r3 := 0) rfl rfl (by decide) rfl ⟨rfl, rfl⟩ rfl ?_
          refine wi_iload_n (i := 1) (e := x16) (nx := 49) (r1 := 0) (r2 := 0) (r3 := 0) rfl rfl ?_
          refine wr_ia (k0 := 248) (a := x16) (f := i47) (x := h13 248 i47) (nx := 50) (r1 := 0) (r2 := 0) (r3 := 0) rfl (by decide) rfl (by omega) (by omega) (by decide) (u18 248 i47 (fo_nk rfl)) ?_
          rcases (show (h13 248 i47) = 3 by omega) with q61
          ·
            rw [q61]
            refine wr_V (k0 := 236) (rest := []) (as := [.ref 236, vi 3]) (nx := 53) (r1 := 282) (r2 := 1) (r3 := 11) rfl rfl rfl (of_decide_eq_true rfl) rfl rfl (by decide) rfl rfl (of_decide_eq_true rfl) (of_decide_eq_true rfl) ?_
            refine ct_282_236_L3 hcr  g18   (show (h18 238 98) + (h18 238 99) + (h18 238 100) + (h18 238 101) + (h18 238 102) + (h18 238 106) = (h18 238 73) by omega) (show (h18 238 73) ≤ (h18 238 2) by omega) (show (h18 238 119) ≤ (h18 238 67) by omega) (show (h18 238 69) ≤ (h18 238 5) by omega) (show (h18 238 2) ≤ 12 * (h18 238 5) by omega) (show 1 ≤ (h18 238 101) by omega) (show (h18 238 67) ≤ 9998 by omega) (show (h18 238 102) ≤ 2 ∨ (h18 238 (43 + (h18 238 92).toNat)) ≤ 0 by omega) (fun h62 z63 g62 u62 (fz63 : 0 ≤ z63 ∧ z63 ≤ 11) (p62_0 : (h62 238 98) + (h62 238 99) + (h62 238 100) + (h62 238 101) + (h62 238 102) + (h62 238 106) = (h62 238 73)) (p62_1 : (h62 238 73) ≤ (h62 238 2)) (p62_2 : (h62 238 119) ≤ (h62 238 67)) (p62_3 : (h62 238 69) ≤ (h62 238 5)) (p62_4 : (h62 238 2) ≤ 12 * (h62 238 5)) => ?_)
            have F64 := F31.then (by decide +kernel) u62
            have F65 := u18.then (by decide +kernel) u62
            have e66 : h62 238 98 = h18 238 98 := (u62 238 98 rfl)
            have e67 : h62 238 99 = h18 238 99 := (u62 238 99 rfl)
            have e68 : h62 238 100 = h18 238 100 := (u62 238 100 rfl)
            have b69 := gi_b (lo := 0) (hi := 6) g62 238 101 rfl
            have b70 := gi_b (lo := 0) (hi := 3) g62 238 102 rfl
            have b71 := gi_b (lo := 0) (hi := 12) g62 238 106 rfl
            have e72 : h62 238 73 = h 238 73 := ((u62 238 73 rfl).trans ((u18 238 73 rfl).trans (u13 238 73 rfl)))
            have e73 : h62 238 2 = h 238 2 := ((u62 238 2 rfl).trans ((u18 238 2 rfl).trans (u13 238 2 rfl)))
            have b74 := gi_b (lo := 0) (hi := 9999) g62 238 119 rfl
            have b75 := gi_b (lo := 0) (hi := 9999) g62 238 67 rfl
            have b76 := gi_b (lo := 0) (hi := 9) g62 238 69 rfl
            have e77 : h62 238 5 = h 238 5 := ((u62 238 5 rfl).trans ((u18 238 5 rfl).trans (u13 238 5 rfl)))
            refine wk_i ?_
            refine wi_istore (i := 5) (e := z63) (lo2 := [(5, vi z63), (4, vi (h18 238 106)), (0, .ref 236), (1, vi x16), (3, vi x17)]) (nx := 55) (r1 := 0) (r2 := 0) (r3 := 0) rfl rfl ?_
            refine wr_iinc (i := 1) (n := 1) (v := x16) (fun e78 => [(1, vi e78), (5, vi z63), (4, vi (h18 238 106)), (0, .ref 236), (3, vi x17)]) (nx := 58) (r1 := 0) (r2 := 0) (r3 := 0) rfl rfl (fun _ => rfl) (fun e78 (fe78 : e78 = x16 + 1) => ?_)
            refine wi_aload_n (i := 0) (x := 236) (nx := 59) (r1 := 0) (r2 := 0) (r3 := 0) rfl rfl ?_
            refine wr_gr (k0 := 236) (x := 238) (nx := 62) (r1 := 11) (r2 := 13) (r3 := 0) rfl rfl (by decide) rfl ⟨rfl, rfl⟩ rfl ?_
            refine wi_bipush (n := 106) (nx := 64) (r1 := 0) (r2 := 0) (r3 := 0) rfl (by decide) ?_
            refine wr_ia (k0 := 238) (a := 106) (f := 106) (x := h62 238 106) (nx := 65) (r1 := 0) (r2 := 0) (r3 := 0) rfl (by decide) rfl (by omega) (by omega) (by decide) rfl ?_
            refine wi_iload (i := 4) (e := h18 238 106) (nx := 67) (r1 := 0) (r2 := 0) (r3 := 0) rfl rfl ?_
            refine wi_icmp (cd := .le) (nx := 70) (r1 := 74) (r2 := 0) (r3 := 0) rfl (by omega) (by omega) (fun (q79 : (h62 238 106) ≤ (h18 238 106)) => ?_) (fun (q79 : ¬ ((h62 238 106) ≤ (h18 238 106))) => ?_)
            ·
              refine wi_iconst (n := 0) (nx := 75) (r1 := 0) (r2 := 0) (r3 := 0) rfl ?_
              refine wi_istore_n (i := 3) (e := 0) (lo2 := [(3, vi 0), (1, vi e78), (5, vi z63), (4, vi (h18 238 106)), (0, .ref 236)]) (nx := 76) (r1 := 0) (r2 := 0) (r3 := 0) rfl rfl ?_
              refine wi_goto (nx := 79) (r1 := 9) (r2 := 0) (r3 := 0) rfl ?_
              refine wp.lo (lo := [(0, .ref 236), (1, vi e78), (3, vi 0)]) ⟨rfl, rfl, rfl, trivial⟩ rfl ?_
              exact I18 e78 0 h62 ⟨g62, F64, F65, (show (0 ≤ e78 ∧ e78 ≤ 12) ∧ (0 ≤ 0 ∧ 0 ≤ 1) ∧ ((h62 238 98) + (h62 238 99) + (h62 238 100) + (h62 238 101) + (h62 238 102) + (h62 238 106) = (h62 238 73)) ∧ ((h62 238 73) ≤ (h62 238 2)) ∧ ((h62 238 119) ≤ (h62 238 67)) ∧ ((h62 238 69) ≤ (h62 238 5)) ∧ ((h62 238 2) ≤ 12 * (h62 238 5)) by omega)⟩ (show ((12 : Int) + 1 - e78).toNat < ((12 : Int) + 1 - x16).toNat by omega)
            ·
              refine wi_iconst (n := 1) (nx := 71) (r1 := 0) (r2 := 0) (r3 := 0) rfl ?_
              refine wi_goto (nx := 74) (r1 := 75) (r2 := 0) (r3 := 0) rfl ?_
              refine wi_istore_n (i := 3) (e := 1) (lo2 := [(3, vi 1), (1, vi e78), (5, vi z63), (4, vi (h18 238 106)), (0, .ref 236)]) (nx := 76) (r1 := 0) (r2 := 0) (r3 := 0) rfl rfl ?_
              refine wi_goto (nx := 79) (r1 := 9) (r2 := 0) (r3 := 0) rfl ?_
              refine wp.lo (lo := [(0, .ref 236), (1, vi e78), (3, vi 1)]) ⟨rfl, rfl, rfl, trivial⟩ rfl ?_
              exact I18 e78 1 h62 ⟨g62, F64, F65, (show (0 ≤ e78 ∧ e78 ≤ 12) ∧ (0 ≤ 1 ∧ 1 ≤ 1) ∧ ((h62 238 98) + (h62 238 99) + (h62 238 100) + (h62 238 101) + (h62 238 102) + (h62 238 106) = (h62 238 73)) ∧ ((h62 238 73) ≤ (h62 238 2)) ∧ ((h62 238 119) ≤ (h62 238 67)) ∧ ((h62 238 69) ≤ (h62 238 5)) ∧ ((h62 238 2) ≤ 12 * (h62 238 5)) by omega)⟩ (show ((12 : Int) + 1 - e78).toNat < ((12 : Int) + 1 - x16).toNat by omega)
-- method 326: Model.ones(I)I
set_option maxRecDepth 100000 in
set_option maxHeartbeats 100000000 in
theorem ct_326 {L : Nat} {xs : Nat → Int32} {d b c : Nat} {h : hp} {cr : Nat → Nat → Option Nat} {Q : hp_Q} (hcr : CR cr)  (g : GI h) (a0 : Int) (q0_ : 0 ≤ a0 ∧ a0 ≤ 4095)  (k : ∀ (z0 : Int), (0 ≤ z0 ∧ z0 ≤ 12) → (z0 = (pc (a0).toNat : Int)) → Q (.inl (some (vi z0))) (hp_w h cr) b c) : wp (md_xa (L, xs)) d 326 (0, [(0, vi a0)], [], hp_w h cr, b, c) Q := by
  have F0 : FR [] h h := FR.refl
  refine wi_iconst (n := 0) (nx := 1) (r1 := 0) (r2 := 0) (r3 := 0) rfl ?_
  refine wi_istore_n (i := 1) (e := 0) (lo2 := [(1, vi 0), (0, vi a0)]) (nx := 2) (r1 := 0) (r2 := 0) (r3 := 0) rfl rfl ?_
  refine wi_iload_n (i := 0) (e := a0) (nx := 3) (r1 := 0) (r2 := 0) (r3 := 0) rfl rfl ?_
  refine wi_istore_n (i := 2) (e := a0) (lo2 := [(2, vi a0), (1, vi 0), (0, vi a0)]) (nx := 4) (r1 := 0) (r2 := 0) (r3 := 0) rfl rfl ?_
  refine wp.lo (lo := [(1, vi 0), (2, vi a0)]) ⟨rfl, rfl, trivial⟩ rfl ?_
  refine wl_2 (fun x1 x2 h3 => h = h3 ∧ ((0 ≤ x1 ∧ x1 ≤ 12) ∧ (0 ≤ x2 ∧ x2 ≤ 4095)) ∧ (x1 + (pc (x2).toNat : Int) = (pc (a0).toNat : Int))) (fun x1 x2 h3 => ((12 : Int) + 1 - x1).toNat) (fun x1 x2 h3 => (4, [(1, vi x1), (2, vi x2)], [], hp_w h3 cr, b, c)) ?_ 0 a0 h ⟨rfl, (show (0 ≤ 0 ∧ 0 ≤ 12) ∧ (0 ≤ a0 ∧ a0 ≤ 4095) by omega), (by omega)⟩
  intro x1 x2 h3 ⟨e3, f3, X3_0⟩ I3
  subst e3
  refine wi_iload_n (i := 2) (e := x2) (nx := 5) (r1 := 0) (r2 := 0) (r3 := 0) rfl rfl ?_
  refine wi_if (cd := .eq) (nx := 8) (r1 := 20) (r2 := 0) (r3 := 0) rfl (by omega) (fun (q5 : x2 = 0) => ?_) (fun (q5 : ¬ (x2 = 0)) => ?_)
  ·
    refine wi_iload_n (i := 1) (e := x1) (nx := 21) (r1 := 0) (r2 := 0) (r3 := 0) rfl rfl ?_
    refine wi_ireturn (nx := 22) (r1 := 0) (r2 := 0) (r3 := 0) rfl rfl ?_
    exact k x1 (by omega) (by have e0 := X3_0; rw [show (x2).toNat = 0 by omega, show pc 0 = 0 from rfl] at e0; omega)
  ·
    refine wr_iinc (i := 1) (n := 1) (v := x1) (fun e6 => [(1, vi e6), (2, vi x2)]) (nx := 11) (r1 := 0) (r2 := 0) (r3 := 0) rfl rfl (fun _ => rfl) (fun e6 (fe6 : e6 = x1 + 1) => ?_)
    refine wi_iload_n (i := 2) (e := x2) (nx := 12) (r1 := 0) (r2 := 0) (r3 := 0) rfl rfl ?_
    refine wi_iload_n (i := 2) (e := x2) (nx := 13) (r1 := 0) (r2 := 0) (r3 := 0) rfl rfl ?_
    refine wi_iconst (n := 1) (nx := 14) (r1 := 0) (r2 := 0) (r3 := 0) rfl ?_
    refine wr_sub (nx := 15) (r1 := 0) (r2 := 0) (r3 := 0) rfl (fun e7 (fe7 : e7 = x2 - 1) => ?_)
    refine wr_iandN (x := x2) (y := e7) (nx := 16) (r1 := 0) (r2 := 0) (r3 := 0) rfl (by omega) (by omega) (fun e8 (fe8 : 0 ≤ e8 ∧ e8 ≤ x2 ∧ e8 ≤ e7) ve8 => ?_)
    refine wi_istore_n (i := 2) (e := e8) (lo2 := [(2, vi e8), (1, vi e6)]) (nx := 17) (r1 := 0) (r2 := 0) (r3 := 0) rfl rfl ?_
    refine wi_goto (nx := 20) (r1 := 4) (r2 := 0) (r3 := 0) rfl ?_
    refine wp.lo (lo := [(1, vi e6), (2, vi e8)]) ⟨rfl, rfl, trivial⟩ rfl ?_
    have a9 := pc_and (n := (x2).toNat) (by omega) (by omega)
    have a9l := pc_le (a0).toNat
    have a9e : (e8).toNat = (x2).toNat &&& ((x2).toNat - 1) := by rw [ve8]; rw [show ((e7) : Int).toNat = (x2).toNat - 1 by omega]; omega
    rw [← a9e] at a9
    have a9x := X3_0
    exact I3 e6 e8 h ⟨rfl, (show (0 ≤ e6 ∧ e6 ≤ 12) ∧ (0 ≤ e8 ∧ e8 ≤ 4095) by omega), (by omega)⟩ (show ((12 : Int) + 1 - e6).toNat < ((12 : Int) + 1 - x1).toNat by omega)
-- method 327: Model.isJob(III)Z
set_option maxRecDepth 100000 in
set_option maxHeartbeats 100000000 in
theorem ct_327_236 {L : Nat} {xs : Nat → Int32} {d b c : Nat} {h : hp} {cr : Nat → Nat → Option Nat} {Q : hp_Q} (hcr : CR cr)  (g : GI h) (a0 : Int) (a1 : Int) (a2 : Int) (q0_ : 0 ≤ a0 ∧ a0 ≤ 4095) (q1_ : 0 ≤ a1 ∧ a1 ≤ 12) (q2_ : 0 ≤ a2 ∧ a2 ≤ 11) (pp0 : h 238 98 + h 238 99 + h 238 100 + h 238 101 + h 238 102 + h 238 106 = h 238 73) (pp1 : h 238 73 ≤ h 238 2) (pp2 : h 238 119 ≤ h 238 67) (pp3 : h 238 69 ≤ h 238 5) (pp4 : h 238 2 ≤ 12 * h 238 5) (k : ∀ (z0 : Int), (0 ≤ z0 ∧ z0 ≤ 1) → ((z0 = 1 ∧ jb (h 238) (a0).toNat a1 (a2).toNat) ∨ (z0 = 0 ∧ ¬ jb (h 238) (a0).toNat a1 (a2).toNat)) → Q (.inl (some (vi z0))) (hp_w h cr) b c) : wp (md_xa (L, xs)) (d + 1) 327 (0, [(0, .ref 236), (1, vi a0), (2, vi a1), (3, vi a2)], [], hp_w h cr, b, c) Q := by
  have F0 : FR [] h h := FR.refl
  have b1 := gi_b (lo := 0) (hi := 6) g 238 98 rfl
  have b2 := gi_b (lo := 0) (hi := 6) g 238 99 rfl
  have b3 := gi_b (lo := 0) (hi := 6) g 238 100 rfl
  have b4 := gi_b (lo := 0) (hi := 6) g 238 101 rfl
  have b5 := gi_b (lo := 0) (hi := 3) g 238 102 rfl
  have b6 := gi_b (lo := 0) (hi := 12) g 238 106 rfl
  have b7 := gi_b (lo := 0) (hi := 12) g 238 73 rfl
  have b8 := gi_b (lo := 0) (hi := 12) g 238 2 rfl
  have b9 := gi_b (lo := 0) (hi := 9999) g 238 119 rfl
  have b10 := gi_b (lo := 0) (hi := 9999) g 238 67 rfl
  have b11 := gi_b (lo := 0) (hi := 9) g 238 69 rfl
  have b12 := gi_b (lo := 0) (hi := 9) g 238 5 rfl
  refine wi_iload_n (i := 2) (e := a1) (nx := 1) (r1 := 0) (r2 := 0) (r3 := 0) rfl rfl ?_
  refine wi_iload_n (i := 3) (e := a2) (nx := 2) (r1 := 0) (r2 := 0) (r3 := 0) rfl rfl ?_
  refine wi_icmp (cd := .ge) (nx := 5) (r1 := 11) (r2 := 0) (r3 := 0) rfl (by omega) (by omega) (fun (q13 : a2 ≤ a1) => ?_) (fun (q13 : ¬ (a2 ≤ a1)) => ?_)
  ·
    refine wi_iload_n (i := 2) (e := a1) (nx := 12) (r1 := 0) (r2 := 0) (r3 := 0) rfl rfl ?_
    refine wi_iload_n (i := 3) (e := a2) (nx := 13) (r1 := 0) (r2 := 0) (r3 := 0) rfl rfl ?_
    refine wr_sub (nx := 14) (r1 := 0) (r2 := 0) (r3 := 0) rfl (fun e14 (fe14 : e14 = a1 - a2) => ?_)
    refine wi_istore (i := 4) (e := e14) (lo2 := [(4, vi e14), (0, .ref 236), (1, vi a0), (2, vi a1), (3, vi a2)]) (nx := 16) (r1 := 0) (r2 := 0) (r3 := 0) rfl rfl ?_
    refine wi_iload_n (i := 1) (e := a0) (nx := 17) (r1 := 0) (r2 := 0) (r3 := 0) rfl rfl ?_
    refine wi_iload_n (i := 3) (e := a2) (nx := 18) (r1 := 0) (r2 := 0) (r3 := 0) rfl rfl ?_
    refine wi_S (rest := []) (as := [vi a0, vi a2]) (nx := 21) (r1 := 318) (r2 := 18) (r3 := 0) rfl rfl rfl (of_decide_eq_true rfl) rfl rfl (of_decide_eq_true rfl) (of_decide_eq_true rfl) ?_
    refine wi_iload_n (i := 0) (e := a0) (nx := 1) (r1 := 0) (r2 := 0) (r3 := 0) rfl rfl ?_
    refine wi_iload_n (i := 1) (e := a2) (nx := 2) (r1 := 0) (r2 := 0) (r3 := 0) rfl rfl ?_
    refine wr_ishrN (x := a0) (y := a2) (nx := 3) (r1 := 0) (r2 := 0) (r3 := 0) rfl (by omega) (by omega) (fun e15 (fe15 : 0 ≤ e15 ∧ e15 ≤ a0) ve15 => ?_)
    refine wi_iconst (n := 1) (nx := 4) (r1 := 0) (r2 := 0) (r3 := 0) rfl ?_
    refine wr_iandN (x := e15) (y := 1) (nx := 5) (r1 := 0) (r2 := 0) (r3 := 0) rfl (by omega) (by omega) (fun e16 (fe16 : 0 ≤ e16 ∧ e16 ≤ e15 ∧ e16 ≤ 1) ve16 => ?_)
    have be16 : e16 = (((a0).toNat / 2 ^ (a2).toNat % 2 : Nat) : Int) := by rw [ve16, show (1 : Int).toNat = 1 from rfl, Nat.and_one_is_mod, ve15]; rfl
    refine wi_iconst (n := 1) (nx := 6) (r1 := 0) (r2 := 0) (r3 := 0) rfl ?_
    refine wi_icmp (cd := .ne) (nx := 9) (r1 := 13) (r2 := 0) (r3 := 0) rfl (by omega) (by omega) (fun (q17 : e16 ≠ 1) => ?_) (fun (q17 : ¬ (e16 ≠ 1)) => ?_)
    ·
      refine wi_iconst (n := 0) (nx := 14) (r1 := 0) (r2 := 0) (r3 := 0) rfl ?_
      refine wi_zreturn (nx := 15) (r1 := 0) (r2 := 0) (r3 := 0) rfl rfl (by omega) ?_
      refine wk_i ?_
      refine wi_if (cd := .ne) (nx := 24) (r1 := 77) (r2 := 0) (r3 := 0) rfl (by omega) (fun (q18 : 0 ≠ 0) => by exfalso; omega) (fun (q18 : ¬ (0 ≠ 0)) => ?_)
      refine wi_iload (i := 4) (e := e14) (nx := 26) (r1 := 0) (r2 := 0) (r3 := 0) rfl rfl ?_
      refine wi_aload_n (i := 0) (x := 236) (nx := 27) (r1 := 0) (r2 := 0) (r3 := 0) rfl rfl ?_
      refine wr_gr (k0 := 236) (x := 238) (nx := 30) (r1 := 11) (r2 := 13) (r3 := 0) rfl rfl (by decide) rfl ⟨rfl, rfl⟩ rfl ?_
      refine wi_bipush (n := 9) (nx := 32) (r1 := 0) (r2 := 0) (r3 := 0) rfl (by decide) ?_
      have b19 := gi_b (lo := 0) (hi := 999) g 238 9 rfl
      refine wr_ia (k0 := 238) (a := 9) (f := 9) (x := h 238 9) (nx := 33) (r1 := 0) (r2 := 0) (r3 := 0) rfl (by decide) rfl (by omega) (by omega) (by decide) rfl ?_
      refine wi_icmp (cd := .gt) (nx := 36) (r1 := 77) (r2 := 0) (r3 := 0) rfl (by omega) (by omega) (fun (q20 : (h 238 9) < e14) => ?_) (fun (q20 : ¬ ((h 238 9) < e14)) => ?_)
      ·
        refine wi_iconst (n := 0) (nx := 78) (r1 := 0) (r2 := 0) (r3 := 0) rfl ?_
        refine wi_zreturn (nx := 79) (r1 := 0) (r2 := 0) (r3 := 0) rfl rfl (by omega) ?_
        exact k 0 (by omega) (Or.inr ⟨rfl, fun ⟨b1, b2, b3⟩ => by omega⟩)
      ·
        refine wi_aload_n (i := 0) (x := 236) (nx := 37) (r1 := 0) (r2 := 0) (r3 := 0) rfl rfl ?_
        refine wr_gr (k0 := 236) (x := 238) (nx := 40) (r1 := 11) (r2 := 13) (r3 := 0) rfl rfl (by decide) rfl ⟨rfl, rfl⟩ rfl ?_
        refine wi_bipush (n := 19) (nx := 42) (r1 := 0) (r2 := 0) (r3 := 0) rfl (by decide) ?_
        refine wi_aload_n (i := 0) (x := 236) (nx := 43) (r1 := 0) (r2 := 0) (r3 := 0) rfl rfl ?_
        refine wr_gr (k0 := 236) (x := 238) (nx := 46) (r1 := 11) (r2 := 13) (r3 := 0) rfl rfl (by decide) rfl ⟨rfl, rfl⟩ rfl ?_
        refine wi_bipush (n := 73) (nx := 48) (r1 := 0) (r2 := 0) (r3 := 0) rfl (by decide) ?_
        refine wr_ia (k0 := 238) (a := 73) (f := 73) (x := h 238 73) (nx := 49) (r1 := 0) (r2 := 0) (r3 := 0) rfl (by decide) rfl (by omega) (by omega) (by decide) rfl ?_
        refine wr_add (nx := 50) (r1 := 0) (r2 := 0) (r3 := 0) rfl (fun e21 (fe21 : e21 = 19 + (h 238 73)) => ?_)
        refine wi_iload_n (i := 2) (e := a1) (nx := 51) (r1 := 0) (r2 := 0) (r3 := 0) rfl rfl ?_
        refine wr_add (nx := 52) (r1 := 0) (r2 := 0) (r3 := 0) rfl (fun e22 (fe22 : e22 = e21 + a1) => ?_)
        obtain ⟨i23, ei23⟩ : ∃ q : Nat, e22 = (q : Int) := ⟨(e22).toNat, by omega⟩
        have b24 : 0 ≤ h 238 i23 ∧ h 238 i23 ≤ 999 := by
          rcases (show (19 ≤ i23 ∧ i23 < 19 + 12) ∨ (31 ≤ i23 ∧ i23 < 31 + 12) ∨ (43 ≤ i23 ∧ i23 < 43 + 1) by omega) with bq | bq | bq
          · have bz := gi_b (lo := 0) (hi := 999) g 238 i23 (gi_rg 19 12 (fun _ => rfl) (by decide +kernel) bq); omega
          · have bz := gi_b (lo := 0) (hi := 4) g 238 i23 (gi_rg 31 12 (fun _ => rfl) (by decide +kernel) bq); omega
          · have bz := gi_b (lo := 0) (hi := 999) g 238 i23 (gi_rg 43 1 (fun _ => rfl) (by decide +kernel) bq); omega
        refine wr_ia (k0 := 238) (a := e22) (f := i23) (x := h 238 i23) (nx := 53) (r1 := 0) (r2 := 0) (r3 := 0) rfl (by decide) rfl (by omega) (by omega) (by decide) rfl ?_
        refine wi_aload_n (i := 0) (x := 236) (nx := 54) (r1 := 0) (r2 := 0) (r3 := 0) rfl rfl ?_
        refine wr_gr (k0 := 236) (x := 238) (nx := 57) (r1 := 11) (r2 := 13) (r3 := 0) rfl rfl (by decide) rfl ⟨rfl, rfl⟩ rfl ?_
        refine wi_bipush (n := 19) (nx := 59) (r1 := 0) (r2 := 0) (r3 := 0) rfl (by decide) ?_
        refine wi_aload_n (i := 0) (x := 236) (nx := 60) (r1 := 0) (r2 := 0) (r3 := 0) rfl rfl ?_
        refine wr_gr (k0 := 236) (x := 238) (nx := 63) (r1 := 11) (r2 := 13) (r3 := 0) rfl rfl (by decide) rfl ⟨rfl, rfl⟩ rfl ?_
        refine wi_bipush (n := 73) (nx := 65) (r1 := 0) (r2 := 0) (r3 := 0) rfl (by decide) ?_
        refine wr_ia (k0 := 238) (a := 73) (f := 73) (x := h 238 73) (nx := 66) (r1 := 0) (r2 := 0) (r3 := 0) rfl (by decide) rfl (by omega) (by omega) (by decide) rfl ?_
        refine wr_add (nx := 67) (r1 := 0) (r2 := 0) (r3 := 0) rfl (fun e25 (fe25 : e25 = 19 + (h 238 73)) => ?_)
        refine wi_iload_n (i := 3) (e := a2) (nx := 68) (r1 := 0) (r2 := 0) (r3 := 0) rfl rfl ?_
        refine wr_add (nx := 69) (r1 := 0) (r2 := 0) (r3 := 0) rfl (fun e26 (fe26 : e26 = e25 + a2) => ?_)
        obtain ⟨i27, ei27⟩ : ∃ q : Nat, e26 = (q : Int) := ⟨(e26).toNat, by omega⟩
        have b28 : 0 ≤ h 238 i27 ∧ h 238 i27 ≤ 999 := by
          rcases (show (19 ≤ i27 ∧ i27 < 19 + 12) ∨ (31 ≤ i27 ∧ i27 < 31 + 12) by omega) with bq | bq
          · have bz := gi_b (lo := 0) (hi := 999) g 238 i27 (gi_rg 19 12 (fun _ => rfl) (by decide +kernel) bq); omega
          · have bz := gi_b (lo := 0) (hi := 4) g 238 i27 (gi_rg 31 12 (fun _ => rfl) (by decide +kernel) bq); omega
        refine wr_ia (k0 := 238) (a := e26) (f := i27) (x := h 238 i27) (nx := 70) (r1 := 0) (r2 := 0) (r3 := 0) rfl (by decide) rfl (by omega) (by omega) (by decide) rfl ?_
        refine wi_icmp (cd := .ne) (nx := 73) (r1 := 77) (r2 := 0) (r3 := 0) rfl (by omega) (by omega) (fun (q29 : (h 238 i23) ≠ (h 238 i27)) => ?_) (fun (q29 : ¬ ((h 238 i23) ≠ (h 238 i27))) => ?_)
        ·
          refine wi_iconst (n := 0) (nx := 78) (r1 := 0) (r2 := 0) (r3 := 0) rfl ?_
          refine wi_zreturn (nx := 79) (r1 := 0) (r2 := 0) (r3 := 0) rfl rfl (by omega) ?_
          exact k 0 (by omega) (Or.inr ⟨rfl, fun ⟨b1, b2, b3⟩ => by rw [show 19 + (h 238 73 + a1).toNat = i23 by omega, show 19 + (h 238 73).toNat + (a2).toNat = i27 by omega] at b3; omega⟩)
        ·
          refine wi_iconst (n := 1) (nx := 74) (r1 := 0) (r2 := 0) (r3 := 0) rfl ?_
          refine wi_goto (nx := 77) (r1 := 78) (r2 := 0) (r3 := 0) rfl ?_
          refine wi_zreturn (nx := 79) (r1 := 0) (r2 := 0) (r3 := 0) rfl rfl (by omega) ?_
          exact k 1 (by omega) (Or.inl ⟨rfl, by omega, ⟨by omega, by omega⟩, by rw [show 19 + (h 238 73 + a1).toNat = i23 by omega, show 19 + (h 238 73).toNat + (a2).toNat = i27 by omega]; omega⟩)
    ·
      refine wi_iconst (n := 1) (nx := 10) (r1 := 0) (r2 := 0) (r3 := 0) rfl ?_
      refine wi_goto (nx := 13) (r1 := 14) (r2 := 0) (r3 := 0) rfl ?_
      refine wi_zreturn (nx := 15) (r1 := 0) (r2 := 0) (r3 := 0) rfl rfl (by omega) ?_
      refine wk_i ?_
      refine wi_if (cd := .ne) (nx := 24) (r1 := 77) (r2 := 0) (r3 := 0) rfl (by omega) (fun (q18 : 1 ≠ 0) => ?_) (fun (q18 : ¬ (1 ≠ 0)) => by exfalso; omega)
      refine wi_iconst (n := 0) (nx := 78) (r1 := 0) (r2 := 0) (r3 := 0) rfl ?_
      refine wi_zreturn (nx := 79) (r1 := 0) (r2 := 0) (r3 := 0) rfl rfl (by omega) ?_
      exact k 0 (by omega) (Or.inr ⟨rfl, fun ⟨b1, b2, b3⟩ => by omega⟩)
  ·
    refine wi_iload_n (i := 3) (e := a2) (nx := 6) (r1 := 0) (r2 := 0) (r3 := 0) rfl rfl ?_
    refine wi_iload_n (i := 2) (e := a1) (nx := 7) (r1 := 0) (r2 := 0) (r3 := 0) rfl rfl ?_
    refine wr_sub (nx := 8) (r1 := 0) (r2 := 0) (r3 := 0) rfl (fun e14 (fe14 : e14 = a2 - a1) => ?_)
    refine wi_goto (nx := 11) (r1 := 14) (r2 := 0) (r3 := 0) rfl ?_
    refine wi_istore (i := 4) (e := e14) (lo2 := [(4, vi e14), (0, .ref 236), (1, vi a0), (2, vi a1), (3, vi a2)]) (nx := 16) (r1 := 0) (r2 := 0) (r3 := 0) rfl rfl ?_
    refine wi_iload_n (i := 1) (e := a0) (nx := 17) (r1 := 0) (r2 := 0) (r3 := 0) rfl rfl ?_
    refine wi_iload_n (i := 3) (e := a2) (nx := 18) (r1 := 0) (r2 := 0) (r3 := 0) rfl rfl ?_
    refine wi_S (rest := []) (as := [vi a0, vi a2]) (nx := 21) (r1 := 318) (r2 := 18) (r3 := 0) rfl rfl rfl (of_decide_eq_true rfl) rfl rfl (of_decide_eq_true rfl) (of_decide_eq_true rfl) ?_
    refine wi_iload_n (i := 0) (e := a0) (nx := 1) (r1 := 0) (r2 := 0) (r3 := 0) rfl rfl ?_
    refine wi_iload_n (i := 1) (e := a2) (nx := 2) (r1 := 0) (r2 := 0) (r3 := 0) rfl rfl ?_
    refine wr_ishrN (x := a0) (y := a2) (nx := 3) (r1 := 0) (r2 := 0) (r3 := 0) rfl (by omega) (by omega) (fun e15 (fe15 : 0 ≤ e15 ∧ e15 ≤ a0) ve15 => ?_)
    refine wi_iconst (n := 1) (nx := 4) (r1 := 0) (r2 := 0) (r3 := 0) rfl ?_
    refine wr_iandN (x := e15) (y := 1) (nx := 5) (r1 := 0) (r2 := 0) (r3 := 0) rfl (by omega) (by omega) (fun e16 (fe16 : 0 ≤ e16 ∧ e16 ≤ e15 ∧ e16 ≤ 1) ve16 => ?_)
    have be16 : e16 = (((a0).toNat / 2 ^ (a2).toNat % 2 : Nat) : Int) := by rw [ve16, show (1 : Int).toNat = 1 from rfl, Nat.and_one_is_mod, ve15]; rfl
    refine wi_iconst (n := 1) (nx := 6) (r1 := 0) (r2 := 0) (r3 := 0) rfl ?_
    refine wi_icmp (cd := .ne) (nx := 9) (r1 := 13) (r2 := 0) (r3 := 0) rfl (by omega) (by omega) (fun (q17 : e16 ≠ 1) => ?_) (fun (q17 : ¬ (e16 ≠ 1)) => ?_)
    ·
      refine wi_iconst (n := 0) (nx := 14) (r1 := 0) (r2 := 0) (r3 := 0) rfl ?_
      refine wi_zreturn (nx := 15) (r1 := 0) (r2 := 0) (r3 := 0) rfl rfl (by omega) ?_
      refine wk_i ?_
      refine wi_if (cd := .ne) (nx := 24) (r1 := 77) (r2 := 0) (r3 := 0) rfl (by omega) (fun (q18 : 0 ≠ 0) => by exfalso; omega) (fun (q18 : ¬ (0 ≠ 0)) => ?_)
      refine wi_iload (i := 4) (e := e14) (nx := 26) (r1 := 0) (r2 := 0) (r3 := 0) rfl rfl ?_
      refine wi_aload_n (i := 0) (x := 236) (nx := 27) (r1 := 0) (r2 := 0) (r3 := 0) rfl rfl ?_
      refine wr_gr (k0 := 236) (x := 238) (nx := 30) (r1 := 11) (r2 := 13) (r3 := 0) rfl rfl (by decide) rfl ⟨rfl, rfl⟩ rfl ?_
      refine wi_bipush (n := 9) (nx := 32) (r1 := 0) (r2 := 0) (r3 := 0) rfl (by decide) ?_
      have b19 := gi_b (lo := 0) (hi := 999) g 238 9 rfl
      refine wr_ia (k0 := 238) (a := 9) (f := 9) (x := h 238 9) (nx := 33) (r1 := 0) (r2 := 0) (r3 := 0) rfl (by decide) rfl (by omega) (by omega) (by decide) rfl ?_
      refine wi_icmp (cd := .gt) (nx := 36) (r1 := 77) (r2 := 0) (r3 := 0) rfl (by omega) (by omega) (fun (q20 : (h 238 9) < e14) => ?_) (fun (q20 : ¬ ((h 238 9) < e14)) => ?_)
      ·
        refine wi_iconst (n := 0) (nx := 78) (r1 := 0) (r2 := 0) (r3 := 0) rfl ?_
        refine wi_zreturn (nx := 79) (r1 := 0) (r2 := 0) (r3 := 0) rfl rfl (by omega) ?_
        exact k 0 (by omega) (Or.inr ⟨rfl, fun ⟨b1, b2, b3⟩ => by omega⟩)
      ·
        refine wi_aload_n (i := 0) (x := 236) (nx := 37) (r1 := 0) (r2 := 0) (r3 := 0) rfl rfl ?_
        refine wr_gr (k0 := 236) (x := 238) (nx := 40) (r1 := 11) (r2 := 13) (r3 := 0) rfl rfl (by decide) rfl ⟨rfl, rfl⟩ rfl ?_
        refine wi_bipush (n := 19) (nx := 42) (r1 := 0) (r2 := 0) (r3 := 0) rfl (by decide) ?_
        refine wi_aload_n (i := 0) (x := 236) (nx := 43) (r1 := 0) (r2 := 0) (r3 := 0) rfl rfl ?_
        refine wr_gr (k0 := 236) (x := 238) (nx := 46) (r1 := 11) (r2 := 13) (r3 := 0) rfl rfl (by decide) rfl ⟨rfl, rfl⟩ rfl ?_
        refine wi_bipush (n := 73) (nx := 48) (r1 := 0) (r2 := 0) (r3 := 0) rfl (by decide) ?_
        refine wr_ia (k0 := 238) (a := 73) (f := 73) (x := h 238 73) (nx := 49) (r1 := 0) (r2 := 0) (r3 := 0) rfl (by decide) rfl (by omega) (by omega) (by decide) rfl ?_
        refine wr_add (nx := 50) (r1 := 0) (r2 := 0) (r3 := 0) rfl (fun e21 (fe21 : e21 = 19 + (h 238 73)) => ?_)
        refine wi_iload_n (i := 2) (e := a1) (nx := 51) (r1 := 0) (r2 := 0) (r3 := 0) rfl rfl ?_
        refine wr_add (nx := 52) (r1 := 0) (r2 := 0) (r3 := 0) rfl (fun e22 (fe22 : e22 = e21 + a1) => ?_)
        obtain ⟨i23, ei23⟩ : ∃ q : Nat, e22 = (q : Int) := ⟨(e22).toNat, by omega⟩
        have b24 : 0 ≤ h 238 i23 ∧ h 238 i23 ≤ 999 := by
          rcases (show (19 ≤ i23 ∧ i23 < 19 + 12) ∨ (31 ≤ i23 ∧ i23 < 31 + 11) by omega) with bq | bq
          · have bz := gi_b (lo := 0) (hi := 999) g 238 i23 (gi_rg 19 12 (fun _ => rfl) (by decide +kernel) bq); omega
          · have bz := gi_b (lo := 0) (hi := 4) g 238 i23 (gi_rg 31 11 (fun _ => rfl) (by decide +kernel) bq); omega
        refine wr_ia (k0 := 238) (a := e22) (f := i23) (x := h 238 i23) (nx := 53) (r1 := 0) (r2 := 0) (r3 := 0) rfl (by decide) rfl (by omega) (by omega) (by decide) rfl ?_
        refine wi_aload_n (i := 0) (x := 236) (nx := 54) (r1 := 0) (r2 := 0) (r3 := 0) rfl rfl ?_
        refine wr_gr (k0 := 236) (x := 238) (nx := 57) (r1 := 11) (r2 := 13) (r3 := 0) rfl rfl (by decide) rfl ⟨rfl, rfl⟩ rfl ?_
        refine wi_bipush (n := 19) (nx := 59) (r1 := 0) (r2 := 0) (r3 := 0) rfl (by decide) ?_
        refine wi_aload_n (i := 0) (x := 236) (nx := 60) (r1 := 0) (r2 := 0) (r3 := 0) rfl rfl ?_
        refine wr_gr (k0 := 236) (x := 238) (nx := 63) (r1 := 11) (r2 := 13) (r3 := 0) rfl rfl (by decide) rfl ⟨rfl, rfl⟩ rfl ?_
        refine wi_bipush (n := 73) (nx := 65) (r1 := 0) (r2 := 0) (r3 := 0) rfl (by decide) ?_
        refine wr_ia (k0 := 238) (a := 73) (f := 73) (x := h 238 73) (nx := 66) (r1 := 0) (r2 := 0) (r3 := 0) rfl (by decide) rfl (by omega) (by omega) (by decide) rfl ?_
        refine wr_add (nx := 67) (r1 := 0) (r2 := 0) (r3 := 0) rfl (fun e25 (fe25 : e25 = 19 + (h 238 73)) => ?_)
        refine wi_iload_n (i := 3) (e := a2) (nx := 68) (r1 := 0) (r2 := 0) (r3 := 0) rfl rfl ?_
        refine wr_add (nx := 69) (r1 := 0) (r2 := 0) (r3 := 0) rfl (fun e26 (fe26 : e26 = e25 + a2) => ?_)
        obtain ⟨i27, ei27⟩ : ∃ q : Nat, e26 = (q : Int) := ⟨(e26).toNat, by omega⟩
        have b28 : 0 ≤ h 238 i27 ∧ h 238 i27 ≤ 999 := by
          rcases (show (20 ≤ i27 ∧ i27 < 20 + 11) ∨ (31 ≤ i27 ∧ i27 < 31 + 12) by omega) with bq | bq
          · have bz := gi_b (lo := 0) (hi := 999) g 238 i27 (gi_rg 20 11 (fun _ => rfl) (by decide +kernel) bq); omega
          · have bz := gi_b (lo := 0) (hi := 4) g 238 i27 (gi_rg 31 12 (fun _ => rfl) (by decide +kernel) bq); omega
        refine wr_ia (k0 := 238) (a := e26) (f := i27) (x := h 238 i27) (nx := 70) (r1 := 0) (r2 := 0) (r3 := 0) rfl (by decide) rfl (by omega) (by omega) (by decide) rfl ?_
        refine wi_icmp (cd := .ne) (nx := 73) (r1 := 77) (r2 := 0) (r3 := 0) rfl (by omega) (by omega) (fun (q29 : (h 238 i23) ≠ (h 238 i27)) => ?_) (fun (q29 : ¬ ((h 238 i23) ≠ (h 238 i27))) => ?_)
        ·
          refine wi_iconst (n := 0) (nx := 78) (r1 := 0) (r2 := 0) (r3 := 0) rfl ?_
          refine wi_zreturn (nx := 79) (r1 := 0) (r2 := 0) (r3 := 0) rfl rfl (by omega) ?_
          exact k 0 (by omega) (Or.inr ⟨rfl, fun ⟨b1, b2, b3⟩ => by rw [show 19 + (h 238 73 + a1).toNat = i23 by omega, show 19 + (h 238 73).toNat + (a2).toNat = i27 by omega] at b3; omega⟩)
        ·
          refine wi_iconst (n := 1) (nx := 74) (r1 := 0) (r2 := 0) (r3 := 0) rfl ?_
          refine wi_goto (nx := 77) (r1 := 78) (r2 := 0) (r3 := 0) rfl ?_
          refine wi_zreturn (nx := 79) (r1 := 0) (r2 := 0) (r3 := 0) rfl rfl (by omega) ?_
          exact k 1 (by omega) (Or.inl ⟨rfl, by omega, ⟨by omega, by omega⟩, by rw [show 19 + (h 238 73 + a1).toNat = i23 by omega, show 19 + (h 238 73).toNat + (a2).toNat = i27 by omega]; omega⟩)
    ·
      refine wi_iconst (n := 1) (nx := 10) (r1 := 0) (r2 := 0) (r3 := 0) rfl ?_
      refine wi_goto (nx := 13) (r1 := 14) (r2 := 0) (r3 := 0) rfl ?_
      refine wi_zreturn (nx := 15) (r1 := 0) (r2 := 0) (r3 := 0) rfl rfl (by omega) ?_
      refine wk_i ?_
      refine wi_if (cd := .ne) (nx := 24) (r1 := 77) (r2 := 0) (r3 := 0) rfl (by omega) (fun (q18 : 1 ≠ 0) => ?_) (fun (q18 : ¬ (1 ≠ 0)) => by exfalso; omega)
      refine wi_iconst (n := 0) (nx := 78) (r1 := 0) (r2 := 0) (r3 := 0) rfl ?_
      refine wi_zreturn (nx := 79) (r1 := 0) (r2 := 0) (r3 := 0) rfl rfl (by omega) ?_
      exact k 0 (by omega) (Or.inr ⟨rfl, fun ⟨b1, b2, b3⟩ => by omega⟩)
-- method 328: Model.fewestBy(III)I
set_option maxRecDepth 100000 in
set_option maxHeartbeats 100000000 in
theorem ct_328_236 {L : Nat} {xs : Nat → Int32} {d b c : Nat} {h : hp} {cr : Nat → Nat → Option Nat} {Q : hp_Q} (hcr : CR cr)  (g : GI h) (a0 : Int) (a1 : Int) (a2 : Int) (q0_ : 0 ≤ a0 ∧ a0 ≤ 4095) (q1_ : 0 ≤ a1 ∧ a1 ≤ 5) (q2_ : 0 ≤ a2 ∧ a2 ≤ 11) (pp0 : a2 + h 238 73 ≤ 11) (k : ∀ (z0 : Int), (0 ≤ z0 ∧ z0 ≤ 1000000) → (z0 = fb (h 238) (h 249) (a0).toNat a1 (a2).toNat) → Q (.inl (some (vi z0))) (hp_w h cr) b c) : wp (md_xa (L, xs)) (d + 2) 328 (0, [(0, .ref 236), (1, vi a0), (2, vi a1), (3, vi a2)], [], hp_w h cr, b, c) Q := by
  have F0 : FR [] h h := FR.refl
  have b1 := gi_b (lo := 0) (hi := 12) g 238 73 rfl
  refine wi_aload_n (i := 0) (x := 236) (nx := 1) (r1 := 0) (r2 := 0) (r3 := 0) rfl rfl ?_
  refine wr_gr (k0 := 236) (x := 249) (nx := 4) (r1 := 11) (r2 := 33) (r3 := 0) rfl rfl (by decide) rfl ⟨rfl, rfl⟩ rfl ?_
  refine wi_bipush (n := 6) (nx := 6) (r1 := 0) (r2 := 0) (r3 := 0) rfl (by decide) ?_
  refine wi_iload_n (i := 1) (e := a0) (nx := 7) (r1 := 0) (r2 := 0) (r3 := 0) rfl rfl ?_
  refine wi_iconst (n := 1) (nx := 8) (r1 := 0) (r2 := 0) (r3 := 0) rfl ?_
  refine wi_iload_n (i := 3) (e := a2) (nx := 9) (r1 := 0) (r2 := 0) (r3 := 0) rfl rfl ?_
  refine wr_ishl1 (y := a2) (nx := 10) (r1 := 0) (r2 := 0) (r3 := 0) rfl (by omega) (fun e2 (fe2 : 1 ≤ e2 ∧ e2 ≤ 4096) ve2 => ?_)
  have ke2 : e2 ≤ 2048 := by rw [ve2]; have := Nat.pow_le_pow_right (show 0 < 2 by decide) (show (a2).toNat ≤ 11 by omega); omega
  refine wr_iorN (x := a0) (y := e2) 12 4096 (by decide) (by decide) (nx := 11) (r1 := 0) (r2 := 0) (r3 := 0) rfl (by omega) (by omega) (fun e3 (fe3 : 0 ≤ e3 ∧ e3 < 4096) ve3 => ?_)
  rw [show (e2).toNat = 2 ^ (a2).toNat by omega] at ve3
  refine wr_mul (nx := 12) (r1 := 0) (r2 := 0) (r3 := 0) rfl (fun e4 (fe4 : e4 = 6 * e3) => ?_)
  refine wi_aload_n (i := 0) (x := 236) (nx := 13) (r1 := 0) (r2 := 0) (r3 := 0) rfl rfl ?_
  refine wi_iload_n (i := 3) (e := a2) (nx := 14) (r1 := 0) (r2 := 0) (r3 := 0) rfl rfl ?_
  refine wr_V (k0 := 236) (rest := [vi e4, .ref 249]) (as := [.ref 236, vi a2]) (nx := 17) (r1 := 322) (r2 := 1) (r3 := 11) rfl rfl rfl (of_decide_eq_true rfl) rfl rfl (by decide) rfl rfl (of_decide_eq_true rfl) (of_decide_eq_true rfl) ?_
  refine wi_aload_n (i := 0) (x := 236) (nx := 1) (r1 := 0) (r2 := 0) (r3 := 0) rfl rfl ?_
  refine wr_gr (k0 := 236) (x := 238) (nx := 4) (r1 := 11) (r2 := 13) (r3 := 0) rfl rfl (by decide) rfl ⟨rfl, rfl⟩ rfl ?_
  refine wi_bipush (n := 31) (nx := 6) (r1 := 0) (r2 := 0) (r3 := 0) rfl (by decide) ?_
  refine wi_aload_n (i := 0) (x := 236) (nx := 7) (r1 := 0) (r2 := 0) (r3 := 0) rfl rfl ?_
  refine wr_gr (k0 := 236) (x := 238) (nx := 10) (r1 := 11) (r2 := 13) (r3 := 0) rfl rfl (by decide) rfl ⟨rfl, rfl⟩ rfl ?_
  refine wi_bipush (n := 73) (nx := 12) (r1 := 0) (r2 := 0) (r3 := 0) rfl (by decide) ?_
  refine wr_ia (k0 := 238) (a := 73) (f := 73) (x := h 238 73) (nx := 13) (r1 := 0) (r2 := 0) (r3 := 0) rfl (by decide) rfl (by omega) (by omega) (by decide) rfl ?_
  refine wr_add (nx := 14) (r1 := 0) (r2 := 0) (r3 := 0) rfl (fun e5 (fe5 : e5 = 31 + (h 238 73)) => ?_)
  refine wi_iload_n (i := 1) (e := a2) (nx := 15) (r1 := 0) (r2 := 0) (r3 := 0) rfl rfl ?_
  refine wr_add (nx := 16) (r1 := 0) (r2 := 0) (r3 := 0) rfl (fun e6 (fe6 : e6 = e5 + a2) => ?_)
  obtain ⟨i7, ei7⟩ : ∃ q : Nat, e6 = (q : Int) := ⟨(e6).toNat, by omega⟩
  have b8 := gi_b (lo := 0) (hi := 4) g 238 i7 (gi_rg 31 12 (fun _ => rfl) (by decide +kernel) (by omega))
  refine wr_ia (k0 := 238) (a := e6) (f := i7) (x := h 238 i7) (nx := 17) (r1 := 0) (r2 := 0) (r3 := 0) rfl (by decide) rfl (by omega) (by omega) (by decide) rfl ?_
  refine wi_ireturn (nx := 18) (r1 := 0) (r2 := 0) (r3 := 0) rfl rfl ?_
  refine wk_i ?_
  refine wr_add (nx := 18) (r1 := 0) (r2 := 0) (r3 := 0) rfl (fun e9 (fe9 : e9 = e4 + (h 238 i7)) => ?_)
  obtain ⟨i10, ei10⟩ : ∃ q : Nat, e9 = (q : Int) := ⟨(e9).toNat, by omega⟩
  have b11 := gi_b (lo := 0) (hi := 1000000) g 249 i10 rfl
  refine wr_ia (k0 := 249) (a := e9) (f := i10) (x := h 249 i10) (nx := 19) (r1 := 0) (r2 := 0) (r3 := 0) rfl (by decide) rfl (by omega) (by omega) (by decide) rfl ?_
  refine wi_istore (i := 4) (e := h 249 i10) (lo2 := [(4, vi (h 249 i10)), (0, .ref 236), (1, vi a0), (2, vi a1), (3, vi a2)]) (nx := 21) (r1 := 0) (r2 := 0) (r3 := 0) rfl rfl ?_
  refine wi_iload (i := 4) (e := h 249 i10) (nx := 23) (r1 := 0) (r2 := 0) (r3 := 0) rfl rfl ?_
  refine wi_ldc_w (e := 1000000) (nx := 26) (r1 := 0) (r2 := 1000000) (r3 := 0) rfl (by decide) ?_
  refine wi_icmp (cd := .ne) (nx := 29) (r1 := 35) (r2 := 0) (r3 := 0) rfl (by omega) (by omega) (fun (q12 : (h 249 i10) ≠ 1000000) => ?_) (fun (q12 : ¬ ((h 249 i10) ≠ 1000000)) => ?_)
  ·
    refine wi_aload_n (i := 0) (x := 236) (nx := 36) (r1 := 0) (r2 := 0) (r3 := 0) rfl rfl ?_
    refine wi_iload_n (i := 2) (e := a1) (nx := 37) (r1 := 0) (r2 := 0) (r3 := 0) rfl rfl ?_
    refine wi_aload_n (i := 0) (x := 236) (nx := 38) (r1 := 0) (r2 := 0) (r3 := 0) rfl rfl ?_
    refine wi_iload_n (i := 3) (e := a2) (nx := 39) (r1 := 0) (r2 := 0) (r3 := 0) rfl rfl ?_
    refine wr_V (k0 := 236) (rest := [vi a1, .ref 236]) (as := [.ref 236, vi a2]) (nx := 42) (r1 := 322) (r2 := 1) (r3 := 11) rfl rfl rfl (of_decide_eq_true rfl) rfl rfl (by decide) rfl rfl (of_decide_eq_true rfl) (of_decide_eq_true rfl) ?_
    refine wi_aload_n (i := 0) (x := 236) (nx := 1) (r1 := 0) (r2 := 0) (r3 := 0) rfl rfl ?_
    refine wr_gr (k0 := 236) (x := 238) (nx := 4) (r1 := 11) (r2 := 13) (r3 := 0) rfl rfl (by decide) rfl ⟨rfl, rfl⟩ rfl ?_
    refine wi_bipush (n := 31) (nx := 6) (r1 := 0) (r2 := 0) (r3 := 0) rfl (by decide) ?_
    refine wi_aload_n (i := 0) (x := 236) (nx := 7) (r1 := 0) (r2 := 0) (r3 := 0) rfl rfl ?_
    refine wr_gr (k0 := 236) (x := 238) (nx := 10) (r1 := 11) (r2 := 13) (r3 := 0) rfl rfl (by decide) rfl ⟨rfl, rfl⟩ rfl ?_
    refine wi_bipush (n := 73) (nx := 12) (r1 := 0) (r2 := 0) (r3 := 0) rfl (by decide) ?_
    refine wr_ia (k0 := 238) (a := 73) (f := 73) (x := h 238 73) (nx := 13) (r1 := 0) (r2 := 0) (r3 := 0) rfl (by decide) rfl (by omega) (by omega) (by decide) rfl ?_
    refine wr_add (nx := 14) (r1 := 0) (r2 := 0) (r3 := 0) rfl (fun e13 (fe13 : e13 = 31 + (h 238 73)) => ?_)
    refine wi_iload_n (i := 1) (e := a2) (nx := 15) (r1 := 0) (r2 := 0) (r3 := 0) rfl rfl ?_
    refine wr_add (nx := 16) (r1 := 0) (r2 := 0) (r3 := 0) rfl (fun e14 (fe14 : e14 = e13 + a2) => ?_)
    refine wr_ia (k0 := 238) (a := e14) (f := i7) (x := h 238 i7) (nx := 17) (r1 := 0) (r2 := 0) (r3 := 0) rfl (by decide) rfl (by omega) (by omega) (by decide) rfl ?_
    refine wi_ireturn (nx := 18) (r1 := 0) (r2 := 0) (r3 := 0) rfl rfl ?_
    refine wk_i ?_
    refine wr_V (k0 := 236) (rest := []) (as := [.ref 236, vi a1, vi (h 238 i7)]) (nx := 45) (r1 := 329) (r2 := 2) (r3 := 11) rfl rfl rfl (of_decide_eq_true rfl) rfl rfl (by decide) rfl rfl (of_decide_eq_true rfl) (of_decide_eq_true rfl) ?_
    refine wi_iload_n (i := 1) (e := a1) (nx := 1) (r1 := 0) (r2 := 0) (r3 := 0) rfl rfl ?_
    refine wi_iconst (n := 5) (nx := 2) (r1 := 0) (r2 := 0) (r3 := 0) rfl ?_
    refine wi_icmp (cd := .eq) (nx := 5) (r1 := 14) (r2 := 0) (r3 := 0) rfl (by omega) (by omega) (fun (q15 : a1 = 5) => ?_) (fun (q15 : ¬ (a1 = 5)) => ?_)
    ·
      refine wi_iconst (n := 0) (nx := 15) (r1 := 0) (r2 := 0) (r3 := 0) rfl ?_
      refine wi_S (rest := []) (as := [vi 0]) (nx := 18) (r1 := 207) (r2 := 17) (r3 := 0) rfl rfl rfl (of_decide_eq_true rfl) rfl rfl (of_decide_eq_true rfl) (of_decide_eq_true rfl) ?_
      refine wi_iload_n (i := 0) (e := 0) (nx := 1) (r1 := 0) (r2 := 0) (r3 := 0) rfl rfl ?_
      refine wi_if (cd := .eq) (nx := 4) (r1 := 8) (r2 := 0) (r3 := 0) rfl (by omega) (fun (q16 : 0 = 0) => ?_) (fun (q16 : ¬ (0 = 0)) => by exfalso; omega)
      refine wi_iconst (n := 0) (nx := 9) (r1 := 0) (r2 := 0) (r3 := 0) rfl ?_
      refine wi_ireturn (nx := 10) (r1 := 0) (r2 := 0) (r3 := 0) rfl rfl ?_
      refine wk_i ?_
      refine wi_ireturn (nx := 19) (r1 := 0) (r2 := 0) (r3 := 0) rfl rfl ?_
      refine wk_i ?_
      refine wi_iload (i := 4) (e := h 249 i10) (nx := 47) (r1 := 0) (r2 := 0) (r3 := 0) rfl rfl ?_
      refine wr_add (nx := 48) (r1 := 0) (r2 := 0) (r3 := 0) rfl (fun e17 (fe17 : e17 = 0 + (h 249 i10)) => ?_)
      refine wi_ireturn (nx := 49) (r1 := 0) (r2 := 0) (r3 := 0) rfl rfl ?_
      exact k e17 (by omega) (by
          unfold fb jc
          rw [show 31 + (h 238 73).toNat + (a2).toNat = i7 by omega, show 6 * ((a0).toNat ||| 2 ^ (a2).toNat) + (h 238 i7).toNat = i10 by omega]
          split
          · omega
          · split <;> omega)
    ·
      refine wi_iload_n (i := 1) (e := a1) (nx := 6) (r1 := 0) (r2 := 0) (r3 := 0) rfl rfl ?_
      refine wi_iload_n (i := 2) (e := h 238 i7) (nx := 7) (r1 := 0) (r2 := 0) (r3 := 0) rfl rfl ?_
      refine wi_icmp (cd := .eq) (nx := 10) (r1 := 14) (r2 := 0) (r3 := 0) rfl (by omega) (by omega) (fun (q16 : a1 = (h 238 i7)) => ?_) (fun (q16 : ¬ (a1 = (h 238 i7))) => ?_)
      ·
        refine wi_iconst (n := 0) (nx := 15) (r1 := 0) (r2 := 0) (r3 := 0) rfl ?_
        refine wi_S (rest := []) (as := [vi 0]) (nx := 18) (r1 := 207) (r2 := 17) (r3 := 0) rfl rfl rfl (of_decide_eq_true rfl) rfl rfl (of_decide_eq_true rfl) (of_decide_eq_true rfl) ?_
        refine wi_iload_n (i := 0) (e := 0) (nx := 1) (r1 := 0) (r2 := 0) (r3 := 0) rfl rfl ?_
        refine wi_if (cd := .eq) (nx := 4) (r1 := 8) (r2 := 0) (r3 := 0) rfl (by omega) (fun (q17 : 0 = 0) => ?_) (fun (q17 : ¬ (0 = 0)) => by exfalso; omega)
        refine wi_iconst (n := 0) (nx := 9) (r1 := 0) (r2 := 0) (r3 := 0) rfl ?_
        refine wi_ireturn (nx := 10) (r1 := 0) (r2 := 0) (r3 := 0) rfl rfl ?_
        refine wk_i ?_
        refine wi_ireturn (nx := 19) (r1 := 0) (r2 := 0) (r3 := 0) rfl rfl ?_
        refine wk_i ?_
        refine wi_iload (i := 4) (e := h 249 i10) (nx := 47) (r1 := 0) (r2 := 0) (r3 := 0) rfl rfl ?_
        refine wr_add (nx := 48) (r1 := 0) (r2 := 0) (r3 := 0) rfl (fun e18 (fe18 : e18 = 0 + (h 249 i10)) => ?_)
        refine wi_ireturn (nx := 49) (r1 := 0) (r2 := 0) (r3 := 0) rfl rfl ?_
        exact k e18 (by omega) (by
            unfold fb jc
            rw [show 31 + (h 238 73).toNat + (a2).toNat = i7 by omega, show 6 * ((a0).toNat ||| 2 ^ (a2).toNat) + (h 238 i7).toNat = i10 by omega]
            split
            · omega
            · split <;> omega)
      ·
        refine wi_iconst (n := 1) (nx := 11) (r1 := 0) (r2 := 0) (r3 := 0) rfl ?_
        refine wi_goto (nx := 14) (r1 := 15) (r2 := 0) (r3 := 0) rfl ?_
        refine wi_S (rest := []) (as := [vi 1]) (nx := 18) (r1 := 207) (r2 := 17) (r3 := 0) rfl rfl rfl (of_decide_eq_true rfl) rfl rfl (of_decide_eq_true rfl) (of_decide_eq_true rfl) ?_
        refine wi_iload_n (i := 0) (e := 1) (nx := 1) (r1 := 0) (r2 := 0) (r3 := 0) rfl rfl ?_
        refine wi_if (cd := .eq) (nx := 4) (r1 := 8) (r2 := 0) (r3 := 0) rfl (by omega) (fun (q17 : 1 = 0) => by exfalso; omega) (fun (q17 : ¬ (1 = 0)) => ?_)
        refine wi_iconst (n := 1) (nx := 5) (r1 := 0) (r2 := 0) (r3 := 0) rfl ?_
        refine wi_goto (nx := 8) (r1 := 9) (r2 := 0) (r3 := 0) rfl ?_
        refine wi_ireturn (nx := 10) (r1 := 0) (r2 := 0) (r3 := 0) rfl rfl ?_
        refine wk_i ?_
        refine wi_ireturn (nx := 19) (r1 := 0) (r2 := 0) (r3 := 0) rfl rfl ?_
        refine wk_i ?_
        refine wi_iload (i := 4) (e := h 249 i10) (nx := 47) (r1 := 0) (r2 := 0) (r3 := 0) rfl rfl ?_
        refine wr_add (nx := 48) (r1 := 0) (r2 := 0) (r3 := 0) rfl (fun e18 (fe18 : e18 = 1 + (h 249 i10)) => ?_)
        refine wi_ireturn (nx := 49) (r1 := 0) (r2 := 0) (r3 := 0) rfl rfl ?_
        exact k e18 (by omega) (by
            unfold fb jc
            rw [show 31 + (h 238 73).toNat + (a2).toNat = i7 by omega, show 6 * ((a0).toNat ||| 2 ^ (a2).toNat) + (h 238 i7).toNat = i10 by omega]
            split
            · omega
            · split <;> omega)
  ·
    refine wi_ldc_w (e := 1000000) (nx := 32) (r1 := 0) (r2 := 1000000) (r3 := 0) rfl (by decide) ?_
    refine wi_goto (nx := 35) (r1 := 48) (r2 := 0) (r3 := 0) rfl ?_
    refine wi_ireturn (nx := 49) (r1 := 0) (r2 := 0) (r3 := 0) rfl rfl ?_
    exact k 1000000 (by omega) (by
        unfold fb jc
        rw [show 31 + (h 238 73).toNat + (a2).toNat = i7 by omega, show 6 * ((a0).toNat ||| 2 ^ (a2).toNat) + (h 238 i7).toNat = i10 by omega]
        split
        · omega
        · split <;> omega)
-- method 325: Model.laysFewest()V
set_option maxRecDepth 100000 in
set_option maxHeartbeats 100000000 in
theorem ct_325_236 {L : Nat} {xs : Nat → Int32} {d b c : Nat} {h : hp} {cr : Nat → Nat → Option Nat} {Q : hp_Q} (hcr : CR cr)  (g : GI h)   (pp0 : h 238 98 + h 238 99 + h 238 100 + h 238 101 + h 238 102 + h 238 106 = h 238 73) (pp1 : h 238 73 ≤ h 238 2) (pp2 : h 238 119 ≤ h 238 67) (pp3 : h 238 69 ≤ h 238 5) (pp4 : h 238 2 ≤ 12 * h 238 5) (k : ∀ (h2 : hp) , GI h2 → FR [(249, 249, none)] h h2 → (FTA (h2 238) (h2 249)) → Q (.inl none) (hp_w h2 cr) b c) : wp (md_xa (L, xs)) (d + 3) 325 (0, [(0, .ref 236)], [], hp_w h cr, b, c) Q := by
  have F0 : FR [(249, 249, none)] h h := FR.refl
  have b1 := gi_b (lo := 0) (hi := 6) g 238 98 rfl
  have b2 := gi_b (lo := 0) (hi := 6) g 238 99 rfl
  have b3 := gi_b (lo := 0) (hi := 6) g 238 100 rfl
  have b4 := gi_b (lo := 0) (hi := 6) g 238 101 rfl
  have b5 := gi_b (lo := 0) (hi := 3) g 238 102 rfl
  have b6 := gi_b (lo := 0) (hi := 12) g 238 106 rfl
  have b7 := gi_b (lo := 0) (hi := 12) g 238 73 rfl
  have b8 := gi_b (lo := 0) (hi := 12) g 238 2 rfl
  have b9 := gi_b (lo := 0) (hi := 9999) g 238 119 rfl
  have b10 := gi_b (lo := 0) (hi := 9999) g 238 67 rfl
  have b11 := gi_b (lo := 0) (hi := 9) g 238 69 rfl
  have b12 := gi_b (lo := 0) (hi := 9) g 238 5 rfl
  refine wi_iconst (n := 1) (nx := 1) (r1 := 0) (r2 := 0) (r3 := 0) rfl ?_
  refine wi_aload_n (i := 0) (x := 236) (nx := 2) (r1 := 0) (r2 := 0) (r3 := 0) rfl rfl ?_
  refine wr_V (k0 := 236) (rest := [vi 1]) (as := [.ref 236]) (nx := 5) (r1 := 321) (r2 := 0) (r3 := 11) rfl rfl rfl (of_decide_eq_true rfl) rfl rfl (by decide) rfl rfl (of_decide_eq_true rfl) (of_decide_eq_true rfl) ?_
  refine wi_aload_n (i := 0) (x := 236) (nx := 1) (r1 := 0) (r2 := 0) (r3 := 0) rfl rfl ?_
  refine wr_gr (k0 := 236) (x := 238) (nx := 4) (r1 := 11) (r2 := 13) (r3 := 0) rfl rfl (by decide) rfl ⟨rfl, rfl⟩ rfl ?_
  refine wi_iconst (n := 2) (nx := 5) (r1 := 0) (r2 := 0) (r3 := 0) rfl ?_
  refine wr_ia (k0 := 238) (a := 2) (f := 2) (x := h 238 2) (nx := 6) (r1 := 0) (r2 := 0) (r3 := 0) rfl (by decide) rfl (by omega) (by omega) (by decide) rfl ?_
  refine wi_aload_n (i := 0) (x := 236) (nx := 7) (r1 := 0) (r2 := 0) (r3 := 0) rfl rfl ?_
  refine wr_gr (k0 := 236) (x := 238) (nx := 10) (r1 := 11) (r2 := 13) (r3 := 0) rfl rfl (by decide) rfl ⟨rfl, rfl⟩ rfl ?_
  refine wi_bipush (n := 73) (nx := 12) (r1 := 0) (r2 := 0) (r3 := 0) rfl (by decide) ?_
  refine wr_ia (k0 := 238) (a := 73) (f := 73) (x := h 238 73) (nx := 13) (r1 := 0) (r2 := 0) (r3 := 0) rfl (by decide) rfl (by omega) (by omega) (by decide) rfl ?_
  refine wr_sub (nx := 14) (r1 := 0) (r2 := 0) (r3 := 0) rfl (fun e13 (fe13 : e13 = (h 238 2) - (h 238 73)) => ?_)
  refine wi_ireturn (nx := 15) (r1 := 0) (r2 := 0) (r3 := 0) rfl rfl ?_
  refine wk_i ?_
  refine wr_ishl1 (y := e13) (nx := 6) (r1 := 0) (r2 := 0) (r3 := 0) rfl (by omega) (fun e14 (fe14 : 1 ≤ e14 ∧ e14 ≤ 4096) ve14 => ?_)
  refine wi_iconst (n := 1) (nx := 7) (r1 := 0) (r2 := 0) (r3 := 0) rfl ?_
  refine wr_sub (nx := 8) (r1 := 0) (r2 := 0) (r3 := 0) rfl (fun e15 (fe15 : e15 = e14 - 1) => ?_)
  have rc := gi_RC g (by omega)
  have rw_ := rc.w
  have pl := pow_le rw_.1
  have pw : e14 = ((2 ^ wn (h 238) : Nat) : Int) := by rw [ve14, show (e13).toNat = wn (h 238) by unfold wn; omega]
  refine wi_istore_n (i := 1) (e := e15) (lo2 := [(1, vi e15), (0, .ref 236)]) (nx := 9) (r1 := 0) (r2 := 0) (r3 := 0) rfl rfl ?_
  refine wi_iload_n (i := 1) (e := e15) (nx := 10) (r1 := 0) (r2 := 0) (r3 := 0) rfl rfl ?_
  refine wi_istore_n (i := 2) (e := e15) (lo2 := [(2, vi e15), (1, vi e15), (0, .ref 236)]) (nx := 11) (r1 := 0) (r2 := 0) (r3 := 0) rfl rfl ?_
  refine wp.lo (lo := [(0, .ref 236), (1, vi e15), (2, vi e15)]) ⟨rfl, rfl, rfl, trivial⟩ rfl ?_
  refine wl_1 (fun x16 h17 => GI h17 ∧ FR [(249, 249, none)] h h17 ∧ FR [(249, 249, none)] h h17 ∧ ((-1 ≤ x16 ∧ x16 ≤ 4095) ∧ (x16 ≤ e15)) ∧ (∀ t : Nat, x16 < (t : Int) → t < 2 ^ wn (h 238) → FT (h 238) (h17 249) t 6)) (fun x16 h17 => ((x16 : Int) - (-1)).toNat) (fun x16 h17 => (11, [(0, .ref 236), (1, vi e15), (2, vi x16)], [], hp_w h17 cr, b, c)) ?_ e15 h ⟨g, F0, FR.refl, (show (-1 ≤ e15 ∧ e15 ≤ 4095) ∧ (e15 ≤ e15) by omega), (fun t e1 e2 => by exfalso; omega)⟩
  intro x16 h17 ⟨g17, F18, u17, f17, X17_0⟩ I17
  refine wi_iload_n (i := 2) (e := x16) (nx := 12) (r1 := 0) (r2 := 0) (r3 := 0) rfl rfl ?_
  refine wi_if (cd := .lt) (nx := 15) (r1 := 115) (r2 := 0) (r3 := 0) rfl (by omega) (fun (q19 : x16 < 0) => ?_) (fun (q19 : ¬ (x16 < 0)) => ?_)
  ·
    refine wi_return (nx := 116) (r1 := 0) (r2 := 0) (r3 := 0) rfl rfl ?_
    have q20 : h17 238 = h 238 := funext (fun i => (u17 238 i (fo_no_ok (by decide) i)))
    have q21 : h17 249 = h17 249 := funext (fun i => rfl)
    exact k h17 g17 F18 (by rw [q20, q21]; exact fun t ht => X17_0 t (by omega) ht)
  ·
    refine wi_iload_n (i := 2) (e := x16) (nx := 16) (r1 := 0) (r2 := 0) (r3 := 0) rfl rfl ?_
    refine wi_S (rest := []) (as := [vi x16]) (nx := 19) (r1 := 326) (r2 := 17) (r3 := 0) rfl rfl rfl (of_decide_eq_true rfl) rfl rfl (of_decide_eq_true rfl) (of_decide_eq_true rfl) ?_
    refine ct_326 hcr  g17 x16 (by omega)  (fun z21  (fz21 : 0 ≤ z21 ∧ z21 ≤ 12) y20_0 => ?_)
    refine wk_i ?_
    refine wi_istore_n (i := 3) (e := z21) (lo2 := [(3, vi z21), (0, .ref 236), (1, vi e15), (2, vi x16)]) (nx := 20) (r1 := 0) (r2 := 0) (r3 := 0) rfl rfl ?_
    refine wi_iconst (n := 0) (nx := 21) (r1 := 0) (r2 := 0) (r3 := 0) rfl ?_
    refine wi_istore (i := 4) (e := 0) (lo2 := [(4, vi 0), (3, vi z21), (0, .ref 236), (1, vi e15), (2, vi x16)]) (nx := 23) (r1 := 0) (r2 := 0) (r3 := 0) rfl rfl ?_
    have q24 : h17 249 = h17 249 := funext (fun i => rfl)
    refine wp.lo (lo := [(0, .ref 236), (1, vi e15), (2, vi x16), (3, vi z21), (4, vi 0)]) ⟨rfl, rfl, rfl, rfl, rfl, trivial⟩ rfl ?_
    refine wl_1 (fun x22 h23 => GI h23 ∧ FR [(249, 249, none)] h h23 ∧ FR [(249, 249, none)] h h23 ∧ FR [(249, 249, none)] h17 h23 ∧ ((0 ≤ x22 ∧ x22 ≤ 6)) ∧ (∀ t : Nat, x16 < (t : Int) → t < 2 ^ wn (h 238) → FT (h 238) (h23 249) t 6) ∧ (∀ pp : Nat, (pp : Int) = x16 → FT (h 238) (h23 249) pp (x22).toNat)) (fun x22 h23 => ((6 : Int) + 1 - x22).toNat) (fun x22 h23 => (23, [(0, .ref 236), (1, vi e15), (2, vi x16), (3, vi z21), (4, vi x22)], [], hp_w h23 cr, b, c)) ?_ 0 h17 ⟨g17, F18, u17, FR.refl, (show (0 ≤ 0 ∧ 0 ≤ 6) by omega), (by rw [q24]; exact X17_0), (fun pp e a ha => absurd ha (by simp))⟩
    intro x22 h23 ⟨g23, F25, F26, u23, f23, X23_0, X23_1⟩ I23
    refine wi_iload (i := 4) (e := x22) (nx := 25) (r1 := 0) (r2 := 0) (r3 := 0) rfl rfl ?_
    refine wi_bipush (n := 6) (nx := 27) (r1 := 0) (r2 := 0) (r3 := 0) rfl (by decide) ?_
    refine wi_icmp (cd := .ge) (nx := 30) (r1 := 109) (r2 := 0) (r3 := 0) rfl (by omega) (by omega) (fun (q27 : 6 ≤ x22) => ?_) (fun (q27 : ¬ (6 ≤ x22)) => ?_)
    ·
      refine wr_iinc (i := 2) (n := (-1)) (v := x16) (fun e28 => [(2, vi e28), (0, .ref 236), (1, vi e15), (3, vi z21), (4, vi x22)]) (nx := 112) (r1 := 0) (r2 := 0) (r3 := 0) rfl rfl (fun _ => rfl) (fun e28 (fe28 : e28 = x16 + (-1)) => ?_)
      refine wi_goto (nx := 115) (r1 := 11) (r2 := 0) (r3 := 0) rfl ?_
      refine wp.lo (lo := [(0, .ref 236), (1, vi e15), (2, vi e28)]) ⟨rfl, rfl, rfl, trivial⟩ rfl ?_
      exact I17 e28 h23 ⟨g23, F25, F26, (show (-1 ≤ e28 ∧ e28 ≤ 4095) ∧ (e28 ≤ e15) by omega), (fun t e1 e2 => by by_cases e3 : (t : Int) = x16; exact (by have e4 := X23_1 t e3; rw [show (x22).toNat = 6 by omega] at e4; exact e4); exact X23_0 t (by omega) e2)⟩ (show ((e28 : Int) - (-1)).toNat < ((x16 : Int) - (-1)).toNat by omega)
    ·
      refine wi_iload_n (i := 2) (e := x16) (nx := 31) (r1 := 0) (r2 := 0) (r3 := 0) rfl rfl ?_
      refine wi_iload_n (i := 1) (e := e15) (nx := 32) (r1 := 0) (r2 := 0) (r3 := 0) rfl rfl ?_
      refine wi_icmp (cd := .ne) (nx := 35) (r1 := 39) (r2 := 0) (r3 := 0) rfl (by omega) (by omega) (fun (q28 : x16 ≠ e15) => ?_) (fun (q28 : ¬ (x16 ≠ e15)) => ?_)
      ·
        refine wi_ldc_w (e := 1000000) (nx := 42) (r1 := 0) (r2 := 1000000) (r3 := 0) rfl (by decide) ?_
        refine wi_istore (i := 5) (e := 1000000) (lo2 := [(5, vi 1000000), (0, .ref 236), (1, vi e15), (2, vi x16), (3, vi z21), (4, vi x22)]) (nx := 44) (r1 := 0) (r2 := 0) (r3 := 0) rfl rfl ?_
        refine wi_iconst (n := 0) (nx := 45) (r1 := 0) (r2 := 0) (r3 := 0) rfl ?_
        refine wi_istore (i := 6) (e := 0) (lo2 := [(6, vi 0), (5, vi 1000000), (0, .ref 236), (1, vi e15), (2, vi x16), (3, vi z21), (4, vi x22)]) (nx := 47) (r1 := 0) (r2 := 0) (r3 := 0) rfl rfl ?_
        refine wp.lo (lo := [(0, .ref 236), (1, vi e15), (2, vi x16), (3, vi z21), (4, vi x22), (5, vi 1000000), (6, vi 0)]) ⟨rfl, rfl, rfl, rfl, rfl, rfl, rfl, trivial⟩ rfl ?_
        refine wl_2 (fun x29 x30 h31 => h23 = h31 ∧ ((0 ≤ x29 ∧ x29 ≤ 1000000) ∧ (0 ≤ x30 ∧ x30 ≤ 12)) ∧ (∀ pp : Nat, (pp : Int) = x16 → BJ (h 238) (h23 249) pp x22 1000000 x29 x30)) (fun x29 x30 h31 => ((12 : Int) + 1 - x30).toNat) (fun x29 x30 h31 => (47, [(0, .ref 236), (1, vi e15), (2, vi x16), (3, vi z21), (4, vi x22), (5, vi x29), (6, vi x30)], [], hp_w h31 cr, b, c)) ?_ 1000000 0 h23 ⟨rfl, (show (0 ≤ 1000000 ∧ 1000000 ≤ 1000000) ∧ (0 ≤ 0 ∧ 0 ≤ 12) by omega), (fun pp e => BJ.start)⟩
        intro x29 x30 h31 ⟨e31, f31, X31_0⟩ I31
        subst e31
        refine wi_iload (i := 6) (e := x30) (nx := 49) (r1 := 0) (r2 := 0) (r3 := 0) rfl rfl ?_
        refine wi_aload_n (i := 0) (x := 236) (nx := 50) (r1 := 0) (r2 := 0) (r3 := 0) rfl rfl ?_
        refine wr_V (k0 := 236) (rest := [vi x30]) (as := [.ref 236]) (nx := 53) (r1 := 321) (r2 := 0) (r3 := 11) rfl rfl rfl (of_decide_eq_true rfl) rfl rfl (by decide) rfl rfl (of_decide_eq_true rfl) (of_decide_eq_true rfl) ?_
        refine wi_aload_n (i := 0) (x := 236) (nx := 1) (r1 := 0) (r2 := 0) (r3 := 0) rfl rfl ?_
        refine wr_gr (k0 := 236) (x := 238) (nx := 4) (r1 := 11) (r2 := 13) (r3 := 0) rfl rfl (by decide) rfl ⟨rfl, rfl⟩ rfl ?_
        refine wi_iconst (n := 2) (nx := 5) (r1 := 0) (r2 := 0) (r3 := 0) rfl ?_
        refine wr_ia (k0 := 238) (a := 2) (f := 2) (x := h 238 2) (nx := 6) (r1 := 0) (r2 := 0) (r3 := 0) rfl (by decide) rfl (by omega) (by omega) (by decide) ((u23 238 2 rfl).trans (u17 238 2 rfl)) ?_
        refine wi_aload_n (i := 0) (x := 236) (nx := 7) (r1 := 0) (r2 := 0) (r3 := 0) rfl rfl ?_
        refine wr_gr (k0 := 236) (x := 238) (nx := 10) (r1 := 11) (r2 := 13) (r3 := 0) rfl rfl (by decide) rfl ⟨rfl, rfl⟩ rfl ?_
        refine wi_bipush (n := 73) (nx := 12) (r1 := 0) (r2 := 0) (r3 := 0) rfl (by decide) ?_
        refine wr_ia (k0 := 238) (a := 73) (f := 73) (x := h 238 73) (nx := 13) (r1 := 0) (r2 := 0) (r3 := 0) rfl (by decide) rfl (by omega) (by omega) (by decide) ((u23 238 73 rfl).trans (u17 238 73 rfl)) ?_
        refine wr_sub (nx := 14) (r1 := 0) (r2 := 0) (r3 := 0) rfl (fun e35 (fe35 : e35 = (h 238 2) - (h 238 73)) => ?_)
        refine wi_ireturn (nx := 15) (r1 := 0) (r2 := 0) (r3 := 0) rfl rfl ?_
        refine wk_i ?_
        refine wi_icmp (cd := .ge) (nx := 56) (r1 := 89) (r2 := 0) (r3 := 0) rfl (by omega) (by omega) (fun (q36 : e35 ≤ x30) => ?_) (fun (q36 : ¬ (e35 ≤ x30)) => ?_)
        ·
          refine wi_aload_n (i := 0) (x := 236) (nx := 90) (r1 := 0) (r2 := 0) (r3 := 0) rfl rfl ?_
          refine wr_gr (k0 := 236) (x := 249) (nx := 93) (r1 := 11) (r2 := 33) (r3 := 0) rfl rfl (by decide) rfl ⟨rfl, rfl⟩ rfl ?_
          refine wi_bipush (n := 6) (nx := 95) (r1 := 0) (r2 := 0) (r3 := 0) rfl (by decide) ?_
          refine wi_iload_n (i := 2) (e := x16) (nx := 96) (r1 := 0) (r2 := 0) (r3 := 0) rfl rfl ?_
          refine wr_mul (nx := 97) (r1 := 0) (r2 := 0) (r3 := 0) rfl (fun e37 (fe37 : e37 = 6 * x16) => ?_)
          refine wi_iload (i := 4) (e := x22) (nx := 99) (r1 := 0) (r2 := 0) (r3 := 0) rfl rfl ?_
          refine wr_add (nx := 100) (r1 := 0) (r2 := 0) (r3 := 0) rfl (fun e38 (fe38 : e38 = e37 + x22) => ?_)
          refine wi_iload (i := 5) (e := x29) (nx := 102) (r1 := 0) (r2 := 0) (r3 := 0) rfl rfl ?_
          obtain ⟨i39, ei39⟩ : ∃ q : Nat, e38 = (q : Int) := ⟨(e38).toNat, by omega⟩
          refine wr_is (k0 := 249) (a := e38) (f := i39) (x := x29) (bl := 0) (bh := 1000000) (nx := 103) (r1 := 0) (r2 := 0) (r3 := 0) rfl (by decide) rfl (by omega) (by omega) (by decide) g23 rfl (by omega) (fun h40 g40 w40 u40 => ?_)
          have F41 := F25.then rfl (FR.rngp (lo := 249) (hi := 249) u40 (by decide))
          have F42 := F26.then rfl (FR.rngp (lo := 249) (hi := 249) u40 (by decide))
          have F43 := u23.then rfl (FR.rngp (lo := 249) (hi := 249) u40 (by decide))
          refine wr_iinc (i := 4) (n := 1) (v := x22) (fun e44 => [(4, vi e44), (0, .ref 236), (1, vi e15), (2, vi x16), (3, vi z21), (5, vi x29), (6, vi x30)]) (nx := 106) (r1 := 0) (r2 := 0) (r3 := 0) rfl rfl (fun _ => rfl) (fun e44 (fe44 : e44 = x22 + 1) => ?_)
          refine wi_goto (nx := 109) (r1 := 23) (r2 := 0) (r3 := 0) rfl ?_
          refine wp.lo (lo := [(0, .ref 236), (1, vi e15), (2, vi x16), (3, vi z21), (4, vi e44)]) ⟨rfl, rfl, rfl, rfl, rfl, trivial⟩ rfl ?_
          exact I23 e44 h40 ⟨g40, F41, F42, F43, (show (0 ≤ e44 ∧ e44 ≤ 6) by omega), (fun t e1 e2 => FT.upd (s := (x16).toNat) (by omega) (by decide) (fun i hi => u40 249 i (fn_i (by omega) fn_0)) (X23_0 t e1 e2)), (fun pp e => by
              rw [show (e44).toNat = (x22).toNat + 1 by omega]
              refine BJ.done rc (init := 1000000) (best := x29) (k := x30) (a := x22) (by omega) (by omega) (by omega) (by omega) (X31_0 pp e) ?_ (fun i hi => u40 249 i (fn_i (by omega) fn_0)) (by rw [show 6 * pp + (x22).toNat = i39 by omega]; exact w40) (X23_1 pp e) (fun t h1 h2 => X23_0 t (by omega) h2)
              omega)⟩ (show ((6 : Int) + 1 - e44).toNat < ((6 : Int) + 1 - x22).toNat by omega)
        ·
          refine wi_aload_n (i := 0) (x := 236) (nx := 57) (r1 := 0) (r2 := 0) (r3 := 0) rfl rfl ?_
          refine wi_iload_n (i := 2) (e := x16) (nx := 58) (r1 := 0) (r2 := 0) (r3 := 0) rfl rfl ?_
          refine wi_iload_n (i := 3) (e := z21) (nx := 59) (r1 := 0) (r2 := 0) (r3 := 0) rfl rfl ?_
          refine wi_iload (i := 6) (e := x30) (nx := 61) (r1 := 0) (r2 := 0) (r3 := 0) rfl rfl ?_
          refine wr_V (k0 := 236) (rest := []) (as := [.ref 236, vi x16, vi z21, vi x30]) (nx := 64) (r1 := 327) (r2 := 3) (r3 := 11) rfl rfl rfl (of_decide_eq_true rfl) rfl rfl (by decide) rfl rfl (of_decide_eq_true rfl) (of_decide_eq_true rfl) ?_
          have e38 : h23 238 98 = h 238 98 := ((u23 238 98 rfl).trans (u17 238 98 rfl))
          have e39 : h23 238 99 = h 238 99 := ((u23 238 99 rfl).trans (u17 238 99 rfl))
          have e40 : h23 238 100 = h 238 100 := ((u23 238 100 rfl).trans (u17 238 100 rfl))
          have e41 : h23 238 101 = h 238 101 := ((u23 238 101 rfl).trans (u17 238 101 rfl))
          have e42 : h23 238 102 = h 238 102 := ((u23 238 102 rfl).trans (u17 238 102 rfl))
          have e43 : h23 238 106 = h 238 106 := ((u23 238 106 rfl).trans (u17 238 106 rfl))
          have e44 : h23 238 73 = h 238 73 := ((u23 238 73 rfl).trans (u17 238 73 rfl))
          have e45 : h23 238 2 = h 238 2 := ((u23 238 2 rfl).trans (u17 238 2 rfl))
          have e46 : h23 238 119 = h 238 119 := ((u23 238 119 rfl).trans (u17 238 119 rfl))
          have e47 : h23 238 67 = h 238 67 := ((u23 238 67 rfl).trans (u17 238 67 rfl))
          have e48 : h23 238 69 = h 238 69 := ((u23 238 69 rfl).trans (u17 238 69 rfl))
          have e49 : h23 238 5 = h 238 5 := ((u23 238 5 rfl).trans (u17 238 5 rfl))
          refine ct_327_236 hcr  g23 x16 z21 x30 (by omega) (by omega) (by omega) (show (h23 238 98) + (h23 238 99) + (h23 238 100) + (h23 238 101) + (h23 238 102) + (h23 238 106) = (h23 238 73) by omega) (show (h23 238 73) ≤ (h23 238 2) by omega) (show (h23 238 119) ≤ (h23 238 67) by omega) (show (h23 238 69) ≤ (h23 238 5) by omega) (show (h23 238 2) ≤ 12 * (h23 238 5) by omega) (fun z50  (fz50 : 0 ≤ z50 ∧ z50 ≤ 1) y37_0 => ?_)
          refine wk_i ?_
          refine wi_if (cd := .eq) (nx := 67) (r1 := 83) (r2 := 0) (r3 := 0) rfl (by omega) (fun (q51 : z50 = 0) => ?_) (fun (q51 : ¬ (z50 = 0)) => ?_)
          ·
            refine wr_iinc (i := 6) (n := 1) (v := x30) (fun e52 => [(6, vi e52), (0, .ref 236), (1, vi e15), (2, vi x16), (3, vi z21), (4, vi x22), (5, vi x29)]) (nx := 86) (r1 := 0) (r2 := 0) (r3 := 0) rfl rfl (fun _ => rfl) (fun e52 (fe52 : e52 = x30 + 1) => ?_)
            refine wi_goto (nx := 89) (r1 := 47) (r2 := 0) (r3 := 0) rfl ?_
            refine wp.lo (lo := [(0, .ref 236), (1, vi e15), (2, vi x16), (3, vi z21), (4, vi x22), (5, vi x29), (6, vi e52)]) ⟨rfl, rfl, rfl, rfl, rfl, rfl, rfl, trivial⟩ rfl ?_
            have q54 : h23 238 = h 238 := funext (fun i => ((u23 238 i (fo_no_ok (by decide) i)).trans (u17 238 i (fo_no_ok (by decide) i))))
            have a53 : ¬ jb (h 238) (x16).toNat z21 (x30).toNat := by rw [← q54]; rcases y37_0 with ⟨e, _⟩ | ⟨_, e⟩; omega; exact e
            exact I31 x29 e52 h23 ⟨rfl, (show (0 ≤ x29 ∧ x29 ≤ 1000000) ∧ (0 ≤ e52 ∧ e52 ≤ 12) by omega), (fun pp e => BJ.no (X31_0 pp e) (by omega) (by rw [(show ((pc pp : Nat) : Int) = z21 by rw [show pp = (x16).toNat by omega]; omega), show pp = (x16).toNat by omega]; exact a53) (by omega))⟩ (show ((12 : Int) + 1 - e52).toNat < ((12 : Int) + 1 - x30).toNat by omega)
          ·
            refine wi_iload (i := 5) (e := x29) (nx := 69) (r1 := 0) (r2 := 0) (r3 := 0) rfl rfl ?_
            refine wi_aload_n (i := 0) (x := 236) (nx := 70) (r1 := 0) (r2 := 0) (r3 := 0) rfl rfl ?_
            refine wi_iload_n (i := 2) (e := x16) (nx := 71) (r1 := 0) (r2 := 0) (r3 := 0) rfl rfl ?_
            refine wi_iload (i := 4) (e := x22) (nx := 73) (r1 := 0) (r2 := 0) (r3 := 0) rfl rfl ?_
            refine wi_iload (i := 6) (e := x30) (nx := 75) (r1 := 0) (r2 := 0) (r3 := 0) rfl rfl ?_
            refine wr_V (k0 := 236) (rest := [vi x29]) (as := [.ref 236, vi x16, vi x22, vi x30]) (nx := 78) (r1 := 328) (r2 := 3) (r3 := 11) rfl rfl rfl (of_decide_eq_true rfl) rfl rfl (by decide) rfl rfl (of_decide_eq_true rfl) (of_decide_eq_true rfl) ?_
            refine ct_328_236 hcr  g23 x16 x22 x30 (by omega) (by omega) (by omega) (show x30 + (h23 238 73) ≤ 11 by omega) (fun z53  (fz53 : 0 ≤ z53 ∧ z53 ≤ 1000000) y52_0 => ?_)
            refine wk_i ?_
            refine wi_S (rest := []) (as := [vi x29, vi z53]) (nx := 81) (r1 := 309) (r2 := 18) (r3 := 0) rfl rfl rfl (of_decide_eq_true rfl) rfl rfl (of_decide_eq_true rfl) (of_decide_eq_true rfl) ?_
            refine wi_iload_n (i := 0) (e := x29) (nx := 1) (r1 := 0) (r2 := 0) (r3 := 0) rfl rfl ?_
            refine wi_iload_n (i := 1) (e := z53) (nx := 2) (r1 := 0) (r2 := 0) (r3 := 0) rfl rfl ?_
            refine wi_icmp (cd := .ge) (nx := 5) (r1 := 9) (r2 := 0) (r3 := 0) rfl (by omega) (by omega) (fun (q54 : z53 ≤ x29) => ?_) (fun (q54 : ¬ (z53 ≤ x29)) => ?_)
            ·
              refine wi_iload_n (i := 1) (e := z53) (nx := 10) (r1 := 0) (r2 := 0) (r3 := 0) rfl rfl ?_
              refine wi_ireturn (nx := 11) (r1 := 0) (r2 := 0) (r3 := 0) rfl rfl ?_
              refine wk_i ?_
              refine wi_istore (i := 5) (e := z53) (lo2 := [(5, vi z53), (0, .ref 236), (1, vi e15), (2, vi x16), (3, vi z21), (4, vi x22), (6, vi x30)]) (nx := 83) (r1 := 0) (r2 := 0) (r3 := 0) rfl rfl ?_
              refine wr_iinc (i := 6) (n := 1) (v := x30) (fun e55 => [(6, vi e55), (5, vi z53), (0, .ref 236), (1, vi e15), (2, vi x16), (3, vi z21), (4, vi x22)]) (nx := 86) (r1 := 0) (r2 := 0) (r3 := 0) rfl rfl (fun _ => rfl) (fun e55 (fe55 : e55 = x30 + 1) => ?_)
              refine wi_goto (nx := 89) (r1 := 47) (r2 := 0) (r3 := 0) rfl ?_
              refine wp.lo (lo := [(0, .ref 236), (1, vi e15), (2, vi x16), (3, vi z21), (4, vi x22), (5, vi z53), (6, vi e55)]) ⟨rfl, rfl, rfl, rfl, rfl, rfl, rfl, trivial⟩ rfl ?_
              have q57 : h23 238 = h 238 := funext (fun i => ((u23 238 i (fo_no_ok (by decide) i)).trans (u17 238 i (fo_no_ok (by decide) i))))
              have a56 : jb (h 238) (x16).toNat z21 (x30).toNat := by rw [← q57]; rcases y37_0 with ⟨_, e⟩ | ⟨e, _⟩; exact e; omega
              exact I31 z53 e55 h23 ⟨rfl, (show (0 ≤ z53 ∧ z53 ≤ 1000000) ∧ (0 ≤ e55 ∧ e55 ≤ 12) by omega), (fun pp e => BJ.yes (v := z53) (X31_0 pp e) (by omega) (by omega) (by omega) (by rw [(show ((pc pp : Nat) : Int) = z21 by rw [show pp = (x16).toNat by omega]; omega), show pp = (x16).toNat by omega]; exact a56) (by rw [show pp = (x16).toNat by omega, ← q57]; exact y52_0) (by omega))⟩ (show ((12 : Int) + 1 - e55).toNat < ((12 : Int) + 1 - x30).toNat by omega)
            ·
              refine wi_iload_n (i := 0) (e := x29) (nx := 6) (r1 := 0) (r2 := 0) (r3 := 0) rfl rfl ?_
              refine wi_goto (nx := 9) (r1 := 10) (r2 := 0) (r3 := 0) rfl ?_
              refine wi_ireturn (nx := 11) (r1 := 0) (r2 := 0) (r3 := 0) rfl rfl ?_
              refine wk_i ?_
              refine wi_istore (i := 5) (e := x29) (lo2 := [(5, vi x29), (0, .ref 236), (1, vi e15), (2, vi x16), (3, vi z21), (4, vi x22), (6, vi x30)]) (nx := 83) (r1 := 0) (r2 := 0) (r3 := 0) rfl rfl ?_
              refine wr_iinc (i := 6) (n := 1) (v := x30) (fun e55 => [(6, vi e55), (5, vi x29), (0, .ref 236), (1, vi e15), (2, vi x16), (3, vi z21), (4, vi x22)]) (nx := 86) (r1 := 0) (r2 := 0) (r3 := 0) rfl rfl (fun _ => rfl) (fun e55 (fe55 : e55 = x30 + 1) => ?_)
              refine wi_goto (nx := 89) (r1 := 47) (r2 := 0) (r3 := 0) rfl ?_
              refine wp.lo (lo := [(0, .ref 236), (1, vi e15), (2, vi x16), (3, vi z21), (4, vi x22), (5, vi x29), (6, vi e55)]) ⟨rfl, rfl, rfl, rfl, rfl, rfl, rfl, trivial⟩ rfl ?_
              have q57 : h23 238 = h 238 := funext (fun i => ((u23 238 i (fo_no_ok (by decide) i)).trans (u17 238 i (fo_no_ok (by decide) i))))
              have a56 : jb (h 238) (x16).toNat z21 (x30).toNat := by rw [← q57]; rcases y37_0 with ⟨_, e⟩ | ⟨e, _⟩; exact e; omega
              exact I31 x29 e55 h23 ⟨rfl, (show (0 ≤ x29 ∧ x29 ≤ 1000000) ∧ (0 ≤ e55 ∧ e55 ≤ 12) by omega), (fun pp e => BJ.yes (v := z53) (X31_0 pp e) (by omega) (by omega) (by omega) (by rw [(show ((pc pp : Nat) : Int) = z21 by rw [show pp = (x16).toNat by omega]; omega), show pp = (x16).toNat by omega]; exact a56) (by rw [show pp = (x16).toNat by omega, ← q57]; exact y52_0) (by omega))⟩ (show ((12 : Int) + 1 - e55).toNat < ((12 : Int) + 1 - x30).toNat by omega)
      ·
        refine wi_iconst (n := 0) (nx := 36) (r1 := 0) (r2 := 0) (r3 := 0) rfl ?_
        refine wi_goto (nx := 39) (r1 := 42) (r2 := 0) (r3 := 0) rfl ?_
        refine wi_istore (i := 5) (e := 0) (lo2 := [(5, vi 0), (0, .ref 236), (1, vi e15), (2, vi x16), (3, vi z21), (4, vi x22)]) (nx := 44) (r1 := 0) (r2 := 0) (r3 := 0) rfl rfl ?_
        refine wi_iconst (n := 0) (nx := 45) (r1 := 0) (r2 := 0) (r3 := 0) rfl ?_
        refine wi_istore (i := 6) (e := 0) (lo2 := [(6, vi 0), (5, vi 0), (0, .ref 236), (1, vi e15), (2, vi x16), (3, vi z21), (4, vi x22)]) (nx := 47) (r1 := 0) (r2 := 0) (r3 := 0) rfl rfl ?_
        refine wp.lo (lo := [(0, .ref 236), (1, vi e15), (2, vi x16), (3, vi z21), (4, vi x22), (5, vi 0), (6, vi 0)]) ⟨rfl, rfl, rfl, rfl, rfl, rfl, rfl, trivial⟩ rfl ?_
        refine wl_2 (fun x29 x30 h31 => h23 = h31 ∧ ((0 ≤ x29 ∧ x29 ≤ 0) ∧ (0 ≤ x30 ∧ x30 ≤ 12)) ∧ (∀ pp : Nat, (pp : Int) = x16 → BJ (h 238) (h23 249) pp x22 0 x29 x30)) (fun x29 x30 h31 => ((12 : Int) + 1 - x30).toNat) (fun x29 x30 h31 => (47, [(0, .ref 236), (1, vi e15), (2, vi x16), (3, vi z21), (4, vi x22), (5, vi x29), (6, vi x30)], [], hp_w h31 cr, b, c)) ?_ 0 0 h23 ⟨rfl, (show (0 ≤ 0 ∧ 0 ≤ 0) ∧ (0 ≤ 0 ∧ 0 ≤ 12) by omega), (fun pp e => BJ.start)⟩
        intro x29 x30 h31 ⟨e31, f31, X31_0⟩ I31
        subst e31
        refine wi_iload (i := 6) (e := x30) (nx := 49) (r1 := 0) (r2 := 0) (r3 := 0) rfl rfl ?_
        refine wi_aload_n (i := 0) (x := 236) (nx := 50) (r1 := 0) (r2 := 0) (r3 := 0) rfl rfl ?_
        refine wr_V (k0 := 236) (rest := [vi x30]) (as := [.ref 236]) (nx := 53) (r1 := 321) (r2 := 0) (r3 := 11) rfl rfl rfl (of_decide_eq_true rfl) rfl rfl (by decide) rfl rfl (of_decide_eq_true rfl) (of_decide_eq_true rfl) ?_
        refine wi_aload_n (i := 0) (x := 236) (nx := 1) (r1 := 0) (r2 := 0) (r3 := 0) rfl rfl ?_
        refine wr_gr (k0 := 236) (x := 238) (nx := 4) (r1 := 11) (r2 := 13) (r3 := 0) rfl rfl (by decide) rfl ⟨rfl, rfl⟩ rfl ?_
        refine wi_iconst (n := 2) (nx := 5) (r1 := 0) (r2 := 0) (r3 := 0) rfl ?_
        refine wr_ia (k0 := 238) (a := 2) (f := 2) (x := h 238 2) (nx := 6) (r1 := 0) (r2 := 0) (r3 := 0) rfl (by decide) rfl (by omega) (by omega) (by decide) ((u23 238 2 rfl).trans (u17 238 2 rfl)) ?_
        refine wi_aload_n (i := 0) (x := 236) (nx := 7) (r1 := 0) (r2 := 0) (r3 := 0) rfl rfl ?_
        refine wr_gr (k0 := 236) (x := 238) (nx := 10) (r1 := 11) (r2 := 13) (r3 := 0) rfl rfl (by decide) rfl ⟨rfl, rfl⟩ rfl ?_
        refine wi_bipush (n := 73) (nx := 12) (r1 := 0) (r2 := 0) (r3 := 0) rfl (by decide) ?_
        refine wr_ia (k0 := 238) (a := 73) (f := 73) (x := h 238 73) (nx := 13) (r1 := 0) (r2 := 0) (r3 := 0) rfl (by decide) rfl (by omega) (by omega) (by decide) ((u23 238 73 rfl).trans (u17 238 73 rfl)) ?_
        refine wr_sub (nx := 14) (r1 := 0) (r2 := 0) (r3 := 0) rfl (fun e35 (fe35 : e35 = (h 238 2) - (h 238 73)) => ?_)
        refine wi_ireturn (nx := 15) (r1 := 0) (r2 := 0) (r3 := 0) rfl rfl ?_
        refine wk_i ?_
        refine wi_icmp (cd := .ge) (nx := 56) (r1 := 89) (r2 := 0) (r3 := 0) rfl (by omega) (by omega) (fun (q36 : e35 ≤ x30) => ?_) (fun (q36 : ¬ (e35 ≤ x30)) => ?_)
        ·
          refine wi_aload_n (i := 0) (x := 236) (nx := 90) (r1 := 0) (r2 := 0) (r3 := 0) rfl rfl ?_
          refine wr_gr (k0 := 236) (x := 249) (nx := 93) (r1 := 11) (r2 := 33) (r3 := 0) rfl rfl (by decide) rfl ⟨rfl, rfl⟩ rfl ?_
          refine wi_bipush (n := 6) (nx := 95) (r1 := 0) (r2 := 0) (r3 := 0) rfl (by decide) ?_
          refine wi_iload_n (i := 2) (e := x16) (nx := 96) (r1 := 0) (r2 := 0) (r3 := 0) rfl rfl ?_
          refine wr_mul (nx := 97) (r1 := 0) (r2 := 0) (r3 := 0) rfl (fun e37 (fe37 : e37 = 6 * x16) => ?_)
          refine wi_iload (i := 4) (e := x22) (nx := 99) (r1 := 0) (r2 := 0) (r3 := 0) rfl rfl ?_
          refine wr_add (nx := 100) (r1 := 0) (r2 := 0) (r3 := 0) rfl (fun e38 (fe38 : e38 = e37 + x22) => ?_)
          refine wi_iload (i := 5) (e := x29) (nx := 102) (r1 := 0) (r2 := 0) (r3 := 0) rfl rfl ?_
          obtain ⟨i39, ei39⟩ : ∃ q : Nat, e38 = (q : Int) := ⟨(e38).toNat, by omega⟩
          refine wr_is (k0 := 249) (a := e38) (f := i39) (x := x29) (bl := 0) (bh := 1000000) (nx := 103) (r1 := 0) (r2 := 0) (r3 := 0) rfl (by decide) rfl (by omega) (by omega) (by decide) g23 rfl (by omega) (fun h40 g40 w40 u40 => ?_)
          have F41 := F25.then rfl (FR.rngp (lo := 249) (hi := 249) u40 (by decide))
          have F42 := F26.then rfl (FR.rngp (lo := 249) (hi := 249) u40 (by decide))
          have F43 := u23.then rfl (FR.rngp (lo := 249) (hi := 249) u40 (by decide))
          refine wr_iinc (i := 4) (n := 1) (v := x22) (fun e44 => [(4, vi e44), (0, .ref 236), (1, vi e15), (2, vi x16), (3, vi z21), (5, vi x29), (6, vi x30)]) (nx := 106) (r1 := 0) (r2 := 0) (r3 := 0) rfl rfl (fun _ => rfl) (fun e44 (fe44 : e44 = x22 + 1) => ?_)
          refine wi_goto (nx := 109) (r1 := 23) (r2 := 0) (r3 := 0) rfl ?_
          refine wp.lo (lo := [(0, .ref 236), (1, vi e15), (2, vi x16), (3, vi z21), (4, vi e44)]) ⟨rfl, rfl, rfl, rfl, rfl, trivial⟩ rfl ?_
          exact I23 e44 h40 ⟨g40, F41, F42, F43, (show (0 ≤ e44 ∧ e44 ≤ 6) by omega), (fun t e1 e2 => FT.upd (s := (x16).toNat) (by omega) (by decide) (fun i hi => u40 249 i (fn_i (by omega) fn_0)) (X23_0 t e1 e2)), (fun pp e => by
              rw [show (e44).toNat = (x22).toNat + 1 by omega]
              refine BJ.done rc (init := 0) (best := x29) (k := x30) (a := x22) (by omega) (by omega) (by omega) (by omega) (X31_0 pp e) ?_ (fun i hi => u40 249 i (fn_i (by omega) fn_0)) (by rw [show 6 * pp + (x22).toNat = i39 by omega]; exact w40) (X23_1 pp e) (fun t h1 h2 => X23_0 t (by omega) h2)
              omega)⟩ (show ((6 : Int) + 1 - e44).toNat < ((6 : Int) + 1 - x22).toNat by omega)
        ·
          refine wi_aload_n (i := 0) (x := 236) (nx := 57) (r1 := 0) (r2 := 0) (r3 := 0) rfl rfl ?_
          refine wi_iload_n (i := 2) (e := x16) (nx := 58) (r1 := 0) (r2 := 0) (r3 := 0) rfl rfl ?_
          refine wi_iload_n (i := 3) (e := z21) (nx := 59) (r1 := 0) (r2 := 0) (r3 := 0) rfl rfl ?_
          refine wi_iload (i := 6) (e := x30) (nx := 61) (r1 := 0) (r2 := 0) (r3 := 0) rfl rfl ?_
          refine wr_V (k0 := 236) (rest := []) (as := [.ref 236, vi x16, vi z21, vi x30]) (nx := 64) (r1 := 327) (r2 := 3) (r3 := 11) rfl rfl rfl (of_decide_eq_true rfl) rfl rfl (by decide) rfl rfl (of_decide_eq_true rfl) (of_decide_eq_true rfl) ?_
          have e38 : h23 238 98 = h 238 98 := ((u23 238 98 rfl).trans (u17 238 98 rfl))
          have e39 : h23 238 99 = h 238 99 := ((u23 238 99 rfl).trans (u17 238 99 rfl))
          have e40 : h23 238 100 = h 238 100 := ((u23 238 100 rfl).trans (u17 238 100 rfl))
          have e41 : h23 238 101 = h 238 101 := ((u23 238 101 rfl).trans (u17 238 101 rfl))
          have e42 : h23 238 102 = h 238 102 := ((u23 238 102 rfl).trans (u17 238 102 rfl))
          have e43 : h23 238 106 = h 238 106 := ((u23 238 106 rfl).trans (u17 238 106 rfl))
          have e44 : h23 238 73 = h 238 73 := ((u23 238 73 rfl).trans (u17 238 73 rfl))
          have e45 : h23 238 2 = h 238 2 := ((u23 238 2 rfl).trans (u17 238 2 rfl))
          have e46 : h23 238 119 = h 238 119 := ((u23 238 119 rfl).trans (u17 238 119 rfl))
          have e47 : h23 238 67 = h 238 67 := ((u23 238 67 rfl).trans (u17 238 67 rfl))
          have e48 : h23 238 69 = h 238 69 := ((u23 238 69 rfl).trans (u17 238 69 rfl))
          have e49 : h23 238 5 = h 238 5 := ((u23 238 5 rfl).trans (u17 238 5 rfl))
          refine ct_327_236 hcr  g23 x16 z21 x30 (by omega) (by omega) (by omega) (show (h23 238 98) + (h23 238 99) + (h23 238 100) + (h23 238 101) + (h23 238 102) + (h23 238 106) = (h23 238 73) by omega) (show (h23 238 73) ≤ (h23 238 2) by omega) (show (h23 238 119) ≤ (h23 238 67) by omega) (show (h23 238 69) ≤ (h23 238 5) by omega) (show (h23 238 2) ≤ 12 * (h23 238 5) by omega) (fun z50  (fz50 : 0 ≤ z50 ∧ z50 ≤ 1) y37_0 => ?_)
          refine wk_i ?_
          refine wi_if (cd := .eq) (nx := 67) (r1 := 83) (r2 := 0) (r3 := 0) rfl (by omega) (fun (q51 : z50 = 0) => ?_) (fun (q51 : ¬ (z50 = 0)) => ?_)
          ·
            refine wr_iinc (i := 6) (n := 1) (v := x30) (fun e52 => [(6, vi e52), (0, .ref 236), (1, vi e15), (2, vi x16), (3, vi z21), (4, vi x22), (5, vi x29)]) (nx := 86) (r1 := 0) (r2 := 0) (r3 := 0) rfl rfl (fun _ => rfl) (fun e52 (fe52 : e52 = x30 + 1) => ?_)
            refine wi_goto (nx := 89) (r1 := 47) (r2 := 0) (r3 := 0) rfl ?_
            refine wp.lo (lo := [(0, .ref 236), (1, vi e15), (2, vi x16), (3, vi z21), (4, vi x22), (5, vi x29), (6, vi e52)]) ⟨rfl, rfl, rfl, rfl, rfl, rfl, rfl, trivial⟩ rfl ?_
            have q54 : h23 238 = h 238 := funext (fun i => ((u23 238 i (fo_no_ok (by decide) i)).trans (u17 238 i (fo_no_ok (by decide) i))))
            have a53 : ¬ jb (h 238) (x16).toNat z21 (x30).toNat := by rw [← q54]; rcases y37_0 with ⟨e, _⟩ | ⟨_, e⟩; omega; exact e
            exact I31 x29 e52 h23 ⟨rfl, (show (0 ≤ x29 ∧ x29 ≤ 0) ∧ (0 ≤ e52 ∧ e52 ≤ 12) by omega), (fun pp e => BJ.no (X31_0 pp e) (by omega) (by rw [(show ((pc pp : Nat) : Int) = z21 by rw [show pp = (x16).toNat by omega]; omega), show pp = (x16).toNat by omega]; exact a53) (by omega))⟩ (show ((12 : Int) + 1 - e52).toNat < ((12 : Int) + 1 - x30).toNat by omega)
          ·
            refine wi_iload (i := 5) (e := x29) (nx := 69) (r1 := 0) (r2 := 0) (r3 := 0) rfl rfl ?_
            refine wi_aload_n (i := 0) (x := 236) (nx := 70) (r1 := 0) (r2 := 0) (r3 := 0) rfl rfl ?_
            refine wi_iload_n (i := 2) (e := x16) (nx := 71) (r1 := 0) (r2 := 0) (r3 := 0) rfl rfl ?_
            refine wi_iload (i := 4) (e := x22) (nx := 73) (r1 := 0) (r2 := 0) (r3 := 0) rfl rfl ?_
            refine wi_iload (i := 6) (e := x30) (nx := 75) (r1 := 0) (r2 := 0) (r3 := 0) rfl rfl ?_
            refine wr_V (k0 := 236) (rest := [vi x29]) (as := [.ref 236, vi x16, vi x22, vi x30]) (nx := 78) (r1 := 328) (r2 := 3) (r3 := 11) rfl rfl rfl (of_decide_eq_true rfl) rfl rfl (by decide) rfl rfl (of_decide_eq_true rfl) (of_decide_eq_true rfl) ?_
            refine ct_328_236 hcr  g23 x16 x22 x30 (by omega) (by omega) (by omega) (show x30 + (h23 238 73) ≤ 11 by omega) (fun z53  (fz53 : 0 ≤ z53 ∧ z53 ≤ 1000000) y52_0 => ?_)
            refine wk_i ?_
            refine wi_S (rest := []) (as := [vi x29, vi z53]) (nx := 81) (r1 := 309) (r2 := 18) (r3 := 0) rfl rfl rfl (of_decide_eq_true rfl) rfl rfl (of_decide_eq_true rfl) (of_decide_eq_true rfl) ?_
            refine wi_iload_n (i := 0) (e := x29) (nx := 1) (r1 := 0) (r2 := 0) (r3 := 0) rfl rfl ?_
            refine wi_iload_n (i := 1) (e := z53) (nx := 2) (r1 := 0) (r2 := 0) (r3 := 0) rfl rfl ?_
            refine wi_icmp (cd := .ge) (nx := 5) (r1 := 9) (r2 := 0) (r3 := 0) rfl (by omega) (by omega) (fun (q54 : z53 ≤ x29) => ?_) (fun (q54 : ¬ (z53 ≤ x29)) => ?_)
            ·
              refine wi_iload_n (i := 1) (e := z53) (nx := 10) (r1 := 0) (r2 := 0) (r3 := 0) rfl rfl ?_
              refine wi_ireturn (nx := 11) (r1 := 0) (r2 := 0) (r3 := 0) rfl rfl ?_
              refine wk_i ?_
              refine wi_istore (i := 5) (e := z53) (lo2 := [(5, vi z53), (0, .ref 236), (1, vi e15), (2, vi x16), (3, vi z21), (4, vi x22), (6, vi x30)]) (nx := 83) (r1 := 0) (r2 := 0) (r3 := 0) rfl rfl ?_
              refine wr_iinc (i := 6) (n := 1) (v := x30) (fun e55 => [(6, vi e55), (5, vi z53), (0, .ref 236), (1, vi e15), (2, vi x16), (3, vi z21), (4, vi x22)]) (nx := 86) (r1 := 0) (r2 := 0) (r3 := 0) rfl rfl (fun _ => rfl) (fun e55 (fe55 : e55 = x30 + 1) => ?_)
              refine wi_goto (nx := 89) (r1 := 47) (r2 := 0) (r3 := 0) rfl ?_
              refine wp.lo (lo := [(0, .ref 236), (1, vi e15), (2, vi x16), (3, vi z21), (4, vi x22), (5, vi z53), (6, vi e55)]) ⟨rfl, rfl, rfl, rfl, rfl, rfl, rfl, trivial⟩ rfl ?_
              have q57 : h23 238 = h 238 := funext (fun i => ((u23 238 i (fo_no_ok (by decide) i)).trans (u17 238 i (fo_no_ok (by decide) i))))
              have a56 : jb (h 238) (x16).toNat z21 (x30).toNat := by rw [← q57]; rcases y37_0 with ⟨_, e⟩ | ⟨e, _⟩; exact e; omega
              exact I31 z53 e55 h23 ⟨rfl, (show (0 ≤ z53 ∧ z53 ≤ 0) ∧ (0 ≤ e55 ∧ e55 ≤ 12) by omega), (fun pp e => BJ.yes (v := z53) (X31_0 pp e) (by omega) (by omega) (by omega) (by rw [(show ((pc pp : Nat) : Int) = z21 by rw [show pp = (x16).toNat by omega]; omega), show pp = (x16).toNat by omega]; exact a56) (by rw [show pp = (x16).toNat by omega, ← q57]; exact y52_0) (by omega))⟩ (show ((12 : Int) + 1 - e55).toNat < ((12 : Int) + 1 - x30).toNat by omega)
            ·
              refine wi_iload_n (i := 0) (e := x29) (nx := 6) (r1 := 0) (r2 := 0) (r3 := 0) rfl rfl ?_
              refine wi_goto (nx := 9) (r1 := 10) (r2 := 0) (r3 := 0) rfl ?_
              refine wi_ireturn (nx := 11) (r1 := 0) (r2 := 0) (r3 := 0) rfl rfl ?_
              refine wk_i ?_
              refine wi_istore (i := 5) (e := x29) (lo2 := [(5, vi x29), (0, .ref 236), (1, vi e15), (2, vi x16), (3, vi z21), (4, vi x22), (6, vi x30)]) (nx := 83) (r1 := 0) (r2 := 0) (r3 := 0) rfl rfl ?_
              refine wr_iinc (i := 6) (n := 1) (v := x30) (fun e55 => [(6, vi e55), (5, vi x29), (0, .ref 236), (1, vi e15), (2, vi x16), (3, vi z21), (4, vi x22)]) (nx := 86) (r1 := 0) (r2 := 0) (r3 := 0) rfl rfl (fun _ => rfl) (fun e55 (fe55 : e55 = x30 + 1) => ?_)
              refine wi_goto (nx := 89) (r1 := 47) (r2 := 0) (r3 := 0) rfl ?_
              refine wp.lo (lo := [(0, .ref 236), (1, vi e15), (2, vi x16), (3, vi z21), (4, vi x22), (5, vi x29), (6, vi e55)]) ⟨rfl, rfl, rfl, rfl, rfl, rfl, rfl, trivial⟩ rfl ?_
              have q57 : h23 238 = h 238 := funext (fun i => ((u23 238 i (fo_no_ok (by decide) i)).trans (u17 238 i (fo_no_ok (by decide) i))))
              have a56 : jb (h 238) (x16).toNat z21 (x30).toNat := by rw [← q57]; rcases y37_0 with ⟨_, e⟩ | ⟨e, _⟩; exact e; omega
              exact I31 x29 e55 h23 ⟨rfl, (show (0 ≤ x29 ∧ x29 ≤ 0) ∧ (0 ≤ e55 ∧ e55 ≤ 12) by omega), (fun pp e => BJ.yes (v := z53) (X31_0 pp e) (by omega) (by omega) (by omega) (by rw [(show ((pc pp : Nat) : Int) = z21 by rw [show pp = (x16).toNat by omega]; omega), show pp = (x16).toNat by omega]; exact a56) (by rw [show pp = (x16).toNat by omega, ← q57]; exact y52_0) (by omega))⟩ (show ((12 : Int) + 1 - e55).toNat < ((12 : Int) + 1 - x30).toNat by omega)
-- method 330: Model.laysNext(III)I
set_option maxRecDepth 100000 in
set_option maxHeartbeats 100000000 in
theorem ct_330_236 {L : Nat} {xs : Nat → Int32} {d b c : Nat} {h : hp} {cr : Nat → Nat → Option Nat} {Q : hp_Q} (hcr : CR cr)  (g : GI h) (a0 : Int) (a1 : Int) (a2 : Int) (q0_ : 0 ≤ a0 ∧ a0 ≤ 11) (q1_ : 0 ≤ a1 ∧ a1 ≤ 5) (q2_ : -2147483648 ≤ a2 ∧ a2 ≤ 2147483647) (pp0 : h 238 98 + h 238 99 + h 238 100 + h 238 101 + h 238 102 + h 238 106 = h 238 73) (pp1 : h 238 73 ≤ h 238 2) (pp2 : h 238 119 ≤ h 238 67) (pp3 : h 238 69 ≤ h 238 5) (pp4 : h 238 2 ≤ 12 * h 238 5) (pp5 : a0 + h 238 73 < h 238 2) (xq0 : EX (h 238) (h 249) (h 250) a0 a1 a2) (xq1 : FTA (h 238) (h 249)) (k : ∀ (h2 : hp) (z0 : Int) , GI h2 → FR [(250, 250, none), (251, 251, none)] h h2 → (0 ≤ z0 ∧ z0 ≤ 4) → (z0 ≤ 4) → (EX (h2 238) (h2 249) (h2 250) (a0 + 1) z0 (a2 - (if a1 ≠ 5 ∧ a1 ≠ z0 then 1 else 0))) → Q (.inl (some (vi z0))) (hp_w h2 cr) b c) : wp (md_xa (L, xs)) (d + 3) 330 (0, [(0, .ref 236), (1, vi a0), (2, vi a1), (3, vi a2)], [], hp_w h cr, b, c) Q := by
  have F0 : FR [(250, 250, none), (251, 251, none)] h h := FR.refl
  have b1 := gi_b (lo := 0) (hi := 6) g 238 98 rfl
  have b2 := gi_b (lo := 0) (hi := 6) g 238 99 rfl
  have b3 := gi_b (lo := 0) (hi := 6) g 238 100 rfl
  have b4 := gi_b (lo := 0) (hi := 6) g 238 101 rfl
  have b5 := gi_b (lo := 0) (hi := 3) g 238 102 rfl
  have b6 := gi_b (lo := 0) (hi := 12) g 238 106 rfl
  have b7 := gi_b (lo := 0) (hi := 12) g 238 73 rfl
  have b8 := gi_b (lo := 0) (hi := 12) g 238 2 rfl
  have b9 := gi_b (lo := 0) (hi := 9999) g 238 119 rfl
  have b10 := gi_b (lo := 0) (hi := 9999) g 238 67 rfl
  have b11 := gi_b (lo := 0) (hi := 9) g 238 69 rfl
  have b12 := gi_b (lo := 0) (hi := 9) g 238 5 rfl
  refine wi_iconst (n := 1) (nx := 1) (r1 := 0) (r2 := 0) (r3 := 0) rfl ?_
  refine wi_aload_n (i := 0) (x := 236) (nx := 2) (r1 := 0) (r2 := 0) (r3 := 0) rfl rfl ?_
  refine wr_V (k0 := 236) (rest := [vi 1]) (as := [.ref 236]) (nx := 5) (r1 := 321) (r2 := 0) (r3 := 11) rfl rfl rfl (of_decide_eq_true rfl) rfl rfl (by decide) rfl rfl (of_decide_eq_true rfl) (of_decide_eq_true rfl) ?_
  refine wi_aload_n (i := 0) (x := 236) (nx := 1) (r1 := 0) (r2 := 0) (r3 := 0) rfl rfl ?_
  refine wr_gr (k0 := 236) (x := 238) (nx := 4) (r1 := 11) (r2 := 13) (r3 := 0) rfl rfl (by decide) rfl ⟨rfl, rfl⟩ rfl ?_
  refine wi_iconst (n := 2) (nx := 5) (r1 := 0) (r2 := 0) (r3 := 0) rfl ?_
  refine wr_ia (k0 := 238) (a := 2) (f := 2) (x := h 238 2) (nx := 6) (r1 := 0) (r2 := 0) (r3 := 0) rfl (by decide) rfl (by omega) (by omega) (by decide) rfl ?_
  refine wi_aload_n (i := 0) (x := 236) (nx := 7) (r1 := 0) (r2 := 0) (r3 := 0) rfl rfl ?_
  refine wr_gr (k0 := 236) (x := 238) (nx := 10) (r1 := 11) (r2 := 13) (r3 := 0) rfl rfl (by decide) rfl ⟨rfl, rfl⟩ rfl ?_
  refine wi_bipush (n := 73) (nx := 12) (r1 := 0) (r2 := 0) (r3 := 0) rfl (by decide) ?_
  refine wr_ia (k0 := 238) (a := 73) (f := 73) (x := h 238 73) (nx := 13) (r1 := 0) (r2 := 0) (r3 := 0) rfl (by decide) rfl (by omega) (by omega) (by decide) rfl ?_
  refine wr_sub (nx := 14) (r1 := 0) (r2 := 0) (r3 := 0) rfl (fun e13 (fe13 : e13 = (h 238 2) - (h 238 73)) => ?_)
  refine wi_ireturn (nx := 15) (r1 := 0) (r2 := 0) (r3 := 0) rfl rfl ?_
  refine wk_i ?_
  refine wr_ishl1 (y := e13) (nx := 6) (r1 := 0) (r2 := 0) (r3 := 0) rfl (by omega) (fun e14 (fe14 : 1 ≤ e14 ∧ e14 ≤ 4096) ve14 => ?_)
  refine wi_istore (i := 4) (e := e14) (lo2 := [(4, vi e14), (0, .ref 236), (1, vi a0), (2, vi a1), (3, vi a2)]) (nx := 8) (r1 := 0) (r2 := 0) (r3 := 0) rfl rfl ?_
  have rc := gi_RC g (by omega)
  have rw_ := rc.w
  have pl := pow_le rw_.1
  have pw : e14 = ((2 ^ wn (h 238) : Nat) : Int) := by rw [ve14, show (e13).toNat = wn (h 238) by unfold wn; omega]
  refine wi_iconst (n := 5) (nx := 9) (r1 := 0) (r2 := 0) (r3 := 0) rfl ?_
  refine wi_istore (i := 5) (e := 5) (lo2 := [(5, vi 5), (4, vi e14), (0, .ref 236), (1, vi a0), (2, vi a1), (3, vi a2)]) (nx := 11) (r1 := 0) (r2 := 0) (r3 := 0) rfl rfl ?_
  refine wi_iconst (n := 0) (nx := 12) (r1 := 0) (r2 := 0) (r3 := 0) rfl ?_
  refine wi_istore (i := 6) (e := 0) (lo2 := [(6, vi 0), (5, vi 5), (4, vi e14), (0, .ref 236), (1, vi a0), (2, vi a1), (3, vi a2)]) (nx := 14) (r1 := 0) (r2 := 0) (r3 := 0) rfl rfl ?_
  refine wp.lo (lo := [(0, .ref 236), (1, vi a0), (2, vi a1), (3, vi a2), (4, vi e14), (5, vi 5), (6, vi 0)]) ⟨rfl, rfl, rfl, rfl, rfl, rfl, rfl, trivial⟩ rfl ?_
  refine wl_2 (fun x15 x16 h17 => h = h17 ∧ ((0 ≤ x15 ∧ x15 ≤ 5) ∧ (0 ≤ x16 ∧ x16 ≤ 4096) ∧ (x16 ≤ e14)) ∧ (LC (h 238) (h 249) (h 250) a0 a1 a2 x15 (fun s j => (s : Int) < x16 ∧ j < wn (h 238)))) (fun x15 x16 h17 => ((4096 : Int) + 1 - x16).toNat) (fun x15 x16 h17 => (14, [(0, .ref 236), (1, vi a0), (2, vi a1), (3, vi a2), (4, vi e14), (5, vi x15), (6, vi x16)], [], hp_w h17 cr, b, c)) ?_ 5 0 h ⟨rfl, (show (0 ≤ 5 ∧ 5 ≤ 5) ∧ (0 ≤ 0 ∧ 0 ≤ 4096) ∧ (0 ≤ e14) by omega), ⟨Or.inl rfl, fun s j hp => absurd hp.1 (by omega)⟩⟩
  intro x15 x16 h17 ⟨e17, f17, X17_0⟩ I17
  subst e17
  refine wi_iload (i := 6) (e := x16) (nx := 16) (r1 := 0) (r2 := 0) (r3 := 0) rfl rfl ?_
  refine wi_iload (i := 4) (e := e14) (nx := 18) (r1 := 0) (r2 := 0) (r3 := 0) rfl rfl ?_
  refine wi_icmp (cd := .ge) (nx := 21) (r1 := 93) (r2 := 0) (r3 := 0) rfl (by omega) (by omega) (fun (q19 : e14 ≤ x16) => ?_) (fun (q19 : ¬ (e14 ≤ x16)) => ?_)
  ·
    obtain ⟨sA, jA, hsA, hjA, qA⟩ := EX.job rc xq1 (by omega) (by omega) xq0
    have lcA := X17_0.2 sA jA ⟨by omega, hjA⟩ qA
    have jA4 := rc.jc hjA
    have l4 : x15 ≤ 4 := by omega
    obtain ⟨sB, jB, pB, qB, lB⟩ := X17_0.1.resolve_left (by omega)
    have hsB := pB.1
    have hjB := pB.2
    refine wi_iconst (n := 0) (nx := 94) (r1 := 0) (r2 := 0) (r3 := 0) rfl ?_
    refine wi_istore (i := 6) (e := 0) (lo2 := [(6, vi 0), (0, .ref 236), (1, vi a0), (2, vi a1), (3, vi a2), (4, vi e14), (5, vi x15)]) (nx := 96) (r1 := 0) (r2 := 0) (r3 := 0) rfl rfl ?_
    refine wp.lo (lo := [(0, .ref 236), (1, vi a0), (2, vi a1), (3, vi a2), (4, vi e14), (5, vi x15), (6, vi 0)]) ⟨rfl, rfl, rfl, rfl, rfl, rfl, rfl, trivial⟩ rfl ?_
    refine wl_1 (fun x20 h21 => GI h21 ∧ FR [(250, 250, none), (251, 251, none)] h h21 ∧ FR [(251, 251, none)] h h21 ∧ ((0 ≤ x20 ∧ x20 ≤ 4096)) ∧ (∀ k : Nat, (k : Int) < x20 → h21 251 k = 0)) (fun x20 h21 => ((4096 : Int) + 1 - x20).toNat) (fun x20 h21 => (96, [(0, .ref 236), (1, vi a0), (2, vi a1), (3, vi a2), (4, vi e14), (5, vi x15), (6, vi x20)], [], hp_w h21 cr, b, c)) ?_ 0 h ⟨g, F0, FR.refl, (show (0 ≤ 0 ∧ 0 ≤ 4096) by omega), (fun k e => absurd e (by omega))⟩
    intro x20 h21 ⟨g21, F22, u21, f21, X21_0⟩ I21
    refine wi_iload (i := 6) (e := x20) (nx := 98) (r1 := 0) (r2 := 0) (r3 := 0) rfl rfl ?_
    refine wi_iload (i := 4) (e := e14) (nx := 100) (r1 := 0) (r2 := 0) (r3 := 0) rfl rfl ?_
    refine wi_icmp (cd := .ge) (nx := 103) (r1 := 117) (r2 := 0) (r3 := 0) rfl (by omega) (by omega) (fun (q23 : e14 ≤ x20) => ?_) (fun (q23 : ¬ (e14 ≤ x20)) => ?_)
    ·
      refine wi_iconst (n := 0) (nx := 118) (r1 := 0) (r2 := 0) (r3 := 0) rfl ?_
      refine wi_istore (i := 6) (e := 0) (lo2 := [(6, vi 0), (0, .ref 236), (1, vi a0), (2, vi a1), (3, vi a2), (4, vi e14), (5, vi x15)]) (nx := 120) (r1 := 0) (r2 := 0) (r3 := 0) rfl rfl ?_
      refine wp.lo (lo := [(0, .ref 236), (1, vi a0), (2, vi a1), (3, vi a2), (4, vi e14), (5, vi x15), (6, vi 0)]) ⟨rfl, rfl, rfl, rfl, rfl, rfl, rfl, trivial⟩ rfl ?_
      refine wl_1 (fun x24 h25 => GI h25 ∧ FR [(250, 250, none), (251, 251, none)] h h25 ∧ FR [(251, 251, none)] h21 h25 ∧ ((0 ≤ x24 ∧ x24 ≤ 4096) ∧ (x24 ≤ e14)) ∧ (∀ s j : Nat, (s : Int) < x24 → j < wn (h 238) → QJ (h 238) (h 249) (h 250) a0 a1 a2 s j → jc (h 238) j = x15 → h25 251 (s ||| 2 ^ j) = 1) ∧ (∀ k : Nat, k < 2 ^ wn (h 238) → h25 251 k = 1 → (pc k : Int) = a0 + 1)) (fun x24 h25 => ((4096 : Int) + 1 - x24).toNat) (fun x24 h25 => (120, [(0, .ref 236), (1, vi a0), (2, vi a1), (3, vi a2), (4, vi e14), (5, vi x15), (6, vi x24)], [], hp_w h25 cr, b, c)) ?_ 0 h21 ⟨g21, F22, FR.refl, (show (0 ≤ 0 ∧ 0 ≤ 4096) ∧ (0 ≤ e14) by omega), (fun s j e => absurd e (by omega)), (fun k e1 e2 => by have e3 := X21_0 k (by omega); omega)⟩
      intro x24 h25 ⟨g25, F26, u25, f25, X25_0, X25_1⟩ I25
      refine wi_iload (i := 6) (e := x24) (nx := 122) (r1 := 0) (r2 := 0) (r3 := 0) rfl rfl ?_
      refine wi_iload (i := 4) (e := e14) (nx := 124) (r1 := 0) (r2 := 0) (r3 := 0) rfl rfl ?_
      refine wi_icmp (cd := .ge) (nx := 127) (r1 := 210) (r2 := 0) (r3 := 0) rfl (by omega) (by omega) (fun (q27 : e14 ≤ x24) => ?_) (fun (q27 : ¬ (e14 ≤ x24)) => ?_)
      ·
        refine wi_iconst (n := 0) (nx := 211) (r1 := 0) (r2 := 0) (r3 := 0) rfl ?_
        refine wi_istore (i := 6) (e := 0) (lo2 := [(6, vi 0), (0, .ref 236), (1, vi a0), (2, vi a1), (3, vi a2), (4, vi e14), (5, vi x15)]) (nx := 213) (r1 := 0) (r2 := 0) (r3 := 0) rfl rfl ?_
        refine wp.lo (lo := [(0, .ref 236), (4, vi e14), (5, vi x15), (6, vi 0)]) ⟨rfl, rfl, rfl, rfl, trivial⟩ rfl ?_
        refine wl_1 (fun x28 h29 => GI h29 ∧ FR [(250, 250, none), (251, 251, none)] h h29 ∧ FR [(250, 250, none)] h25 h29 ∧ ((0 ≤ x28 ∧ x28 ≤ 4096) ∧ (x28 ≤ e14)) ∧ (∀ q : Nat, (q : Int) < x28 → h29 250 q = h25 251 q) ∧ (∀ q : Nat, x28 ≤ (q : Int) → h29 250 q = h25 250 q)) (fun x28 h29 => ((4096 : Int) + 1 - x28).toNat) (fun x28 h29 => (213, [(0, .ref 236), (4, vi e14), (5, vi x15), (6, vi x28)], [], hp_w h29 cr, b, c)) ?_ 0 h25 ⟨g25, F26, FR.refl, (show (0 ≤ 0 ∧ 0 ≤ 4096) ∧ (0 ≤ e14) by omega), (fun q e => absurd e (by omega)), (fun _ _ => rfl)⟩
        intro x28 h29 ⟨g29, F30, u29, f29, XA29, XB29⟩ I29
        refine wi_iload (i := 6) (e := x28) (nx := 215) (r1 := 0) (r2 := 0) (r3 := 0) rfl rfl ?_
        refine wi_iload (i := 4) (e := e14) (nx := 217) (r1 := 0) (r2 := 0) (r3 := 0) rfl rfl ?_
        refine wi_icmp (cd := .ge) (nx := 220) (r1 := 240) (r2 := 0) (r3 := 0) rfl (by omega) (by omega) (fun (q31 : e14 ≤ x28) => ?_) (fun (q31 : ¬ (e14 ≤ x28)) => ?_)
        ·
          refine wi_iload (i := 5) (e := x15) (nx := 242) (r1 := 0) (r2 := 0) (r3 := 0) rfl rfl ?_
          refine wi_ireturn (nx := 243) (r1 := 0) (r2 := 0) (r3 := 0) rfl rfl ?_
          have q32 : h29 238 = h 238 := funext (fun i => ((u29 238 i (fo_no_ok (by decide) i)).trans ((u25 238 i (fo_no_ok (by decide) i)).trans (u21 238 i (fo_no_ok (by decide) i)))))
          have q33 : h29 249 = h 249 := funext (fun i => ((u29 249 i (fo_no_ok (by decide) i)).trans ((u25 249 i (fo_no_ok (by decide) i)).trans (u21 249 i (fo_no_ok (by decide) i)))))
          have q34 : h25 251 = h25 251 := funext (fun i => rfl)
          exact k h29 x15 g29 F30 (by omega) (show x15 ≤ 4 by omega) (by
              rw [q32, q33]
              have hlt : sB ||| 2 ^ jB < 2 ^ wn (h 238) := Nat.or_lt_two_pow (by omega) (Nat.pow_lt_pow_right (by decide) hjB)
              refine EX.next rc (by omega) hjB qB (by obtain ⟨_, _, _, _, hd⟩ := xq0.1; exact hd) lB ?_ (fun k => (gi_b (lo := 0) (hi := 1000000) g 249 k rfl).2) (fun k hk e => ?_)
              · rw [XA29 _ (by omega), q34]
                exact X25_0 sB jB (by omega) hjB qB lB
              · rw [XA29 _ (by omega), q34] at e
                exact X25_1 k hk e)
        ·
          refine wi_aload_n (i := 0) (x := 236) (nx := 221) (r1 := 0) (r2 := 0) (r3 := 0) rfl rfl ?_
          refine wr_gr (k0 := 236) (x := 250) (nx := 224) (r1 := 11) (r2 := 34) (r3 := 0) rfl rfl (by decide) rfl ⟨rfl, rfl⟩ rfl ?_
          refine wi_iload (i := 6) (e := x28) (nx := 226) (r1 := 0) (r2 := 0) (r3 := 0) rfl rfl ?_
          refine wi_aload_n (i := 0) (x := 236) (nx := 227) (r1 := 0) (r2 := 0) (r3 := 0) rfl rfl ?_
          refine wr_gr (k0 := 236) (x := 251) (nx := 230) (r1 := 11) (r2 := 35) (r3 := 0) rfl rfl (by decide) rfl ⟨rfl, rfl⟩ rfl ?_
          refine wi_iload (i := 6) (e := x28) (nx := 232) (r1 := 0) (r2 := 0) (r3 := 0) rfl rfl ?_
          obtain ⟨i32, ei32⟩ : ∃ q : Nat, x28 = (q : Int) := ⟨(x28).toNat, by omega⟩
          have b33 := gi_b (lo := 0) (hi := 1) g25 251 i32 rfl
          refine wr_ba (k0 := 251) (a := x28) (f := i32) (x := h25 251 i32) (nx := 233) (r1 := 0) (r2 := 0) (r3 := 0) rfl (by decide) rfl (by decide) (by omega) (by omega) (by decide) (u29 251 i32 (fn_a (by decide) fn_0)) ?_
          refine wr_bs (k0 := 250) (a := x28) (f := i32) (x := h25 251 i32) (bl := 0) (bh := 1) (nx := 234) (r1 := 0) (r2 := 0) (r3 := 0) rfl (by decide) rfl (by omega) (by omega) (by omega) (by decide) g29 rfl (by omega) (fun h34 g34 w34 u34 => ?_)
          have F35 := F30.then rfl (FR.rngp (lo := 250) (hi := 250) u34 (by decide))
          have F36 := u29.then rfl (FR.rngp (lo := 250) (hi := 250) u34 (by decide))
          refine wr_iinc (i := 6) (n := 1) (v := x28) (fun e37 => [(6, vi e37), (0, .ref 236), (4, vi e14), (5, vi x15)]) (nx := 237) (r1 := 0) (r2 := 0) (r3 := 0) rfl rfl (fun _ => rfl) (fun e37 (fe37 : e37 = x28 + 1) => ?_)
          refine wi_goto (nx := 240) (r1 := 213) (r2 := 0) (r3 := 0) rfl ?_
          refine wp.lo (lo := [(0, .ref 236), (4, vi e14), (5, vi x15), (6, vi e37)]) ⟨rfl, rfl, rfl, rfl, trivial⟩ rfl ?_
          exact I29 e37 h34 ⟨g34, F35, F36, (show (0 ≤ e37 ∧ e37 ≤ 4096) ∧ (e37 ≤ e14) by omega), (fun q e => by
              by_cases e1 : (q : Int) < x28
              · exact (u34 250 _ (fn_i (by omega) fn_0)).trans (XA29 q e1)
              · have e2 : q = i32 := by omega
                have e3 : q = i32 := by omega
                exact (congrArg (h34 250) e2).trans (w34.trans ((Eq.refl _).trans (congrArg (h25 251) e3).symm))), (fun q e => (u34 250 q (fn_i (by omega) fn_0)).trans (XB29 q (by omega)))⟩ (show ((4096 : Int) + 1 - e37).toNat < ((4096 : Int) + 1 - x28).toNat by omega)
      ·
        refine wi_iconst (n := 0) (nx := 128) (r1 := 0) (r2 := 0) (r3 := 0) rfl ?_
        refine wi_istore (i := 7) (e := 0) (lo2 := [(7, vi 0), (0, .ref 236), (1, vi a0), (2, vi a1), (3, vi a2), (4, vi e14), (5, vi x15), (6, vi x24)]) (nx := 130) (r1 := 0) (r2 := 0) (r3 := 0) rfl rfl ?_
        refine wp.lo (lo := [(0, .ref 236), (1, vi a0), (2, vi a1), (3, vi a2), (4, vi e14), (5, vi x15), (6, vi x24), (7, vi 0)]) ⟨rfl, rfl, rfl, rfl, rfl, rfl, rfl, rfl, trivial⟩ rfl ?_
        refine wl_1 (fun x28 h29 => GI h29 ∧ FR [(250, 250, none), (251, 251, none)] h h29 ∧ FR [(251, 251, none)] h21 h29 ∧ FR [(251, 251, none)] h25 h29 ∧ ((0 ≤ x28 ∧ x28 ≤ 12)) ∧ (∀ s j : Nat, (((s : Int) < x24 ∧ j < wn (h 238)) ∨ ((s : Int) = x24 ∧ (j : Int) < x28 ∧ j < wn (h 238))) → QJ (h 238) (h 249) (h 250) a0 a1 a2 s j → jc (h 238) j = x15 → h29 251 (s ||| 2 ^ j) = 1) ∧ (∀ k : Nat, k < 2 ^ wn (h 238) → h29 251 k = 1 → (pc k : Int) = a0 + 1)) (fun x28 h29 => ((12 : Int) + 1 - x28).toNat) (fun x28 h29 => (130, [(0, .ref 236), (1, vi a0), (2, vi a1), (3, vi a2), (4, vi e14), (5, vi x15), (6, vi x24), (7, vi x28)], [], hp_w h29 cr, b, c)) ?_ 0 h25 ⟨g25, F26, u25, FR.refl, (show (0 ≤ 0 ∧ 0 ≤ 12) by omega), (fun s j hp hq e => by rcases hp with ⟨h1, h2⟩ | ⟨_, h2, _⟩; exact X25_0 s j h1 h2 hq e; exfalso; omega), X25_1⟩
        intro x28 h29 ⟨g29, F30, F31, u29, f29, X29_0, X29_1⟩ I29
        refine wi_iload (i := 7) (e := x28) (nx := 132) (r1 := 0) (r2 := 0) (r3 := 0) rfl rfl ?_
        refine wi_aload_n (i := 0) (x := 236) (nx := 133) (r1 := 0) (r2 := 0) (r3 := 0) rfl rfl ?_
        refine wr_V (k0 := 236) (rest := [vi x28]) (as := [.ref 236]) (nx := 136) (r1 := 321) (r2 := 0) (r3 := 11) rfl rfl rfl (of_decide_eq_true rfl) rfl rfl (by decide) rfl rfl (of_decide_eq_true rfl) (of_decide_eq_true rfl) ?_
        refine wi_aload_n (i := 0) (x := 236) (nx := 1) (r1 := 0) (r2 := 0) (r3 := 0) rfl rfl ?_
        refine wr_gr (k0 := 236) (x := 238) (nx := 4) (r1 := 11) (r2 := 13) (r3 := 0) rfl rfl (by decide) rfl ⟨rfl, rfl⟩ rfl ?_
        refine wi_iconst (n := 2) (nx := 5) (r1 := 0) (r2 := 0) (r3 := 0) rfl ?_
        refine wr_ia (k0 := 238) (a := 2) (f := 2) (x := h 238 2) (nx := 6) (r1 := 0) (r2 := 0) (r3 := 0) rfl (by decide) rfl (by omega) (by omega) (by decide) ((u29 238 2 rfl).trans ((u25 238 2 rfl).trans (u21 238 2 rfl))) ?_
        refine wi_aload_n (i := 0) (x := 236) (nx := 7) (r1 := 0) (r2 := 0) (r3 := 0) rfl rfl ?_
        refine wr_gr (k0 := 236) (x := 238) (nx := 10) (r1 := 11) (r2 := 13) (r3 := 0) rfl rfl (by decide) rfl ⟨rfl, rfl⟩ rfl ?_
        refine wi_bipush (n := 73) (nx := 12) (r1 := 0) (r2 := 0) (r3 := 0) rfl (by decide) ?_
        refine wr_ia (k0 := 238) (a := 73) (f := 73) (x := h 238 73) (nx := 13) (r1 := 0) (r2 := 0) (r3 := 0) rfl (by decide) rfl (by omega) (by omega) (by decide) ((u29 238 73 rfl).trans ((u25 238 73 rfl).trans (u21 238 73 rfl))) ?_
        refine wr_sub (nx := 14) (r1 := 0) (r2 := 0) (r3 := 0) rfl (fun e32 (fe32 : e32 = (h 238 2) - (h 238 73)) => ?_)
        refine wi_ireturn (nx := 15) (r1 := 0) (r2 := 0) (r3 := 0) rfl rfl ?_
        refine wk_i ?_
        refine wi_icmp (cd := .ge) (nx := 139) (r1 := 204) (r2 := 0) (r3 := 0) rfl (by omega) (by omega) (fun (q33 : e32 ≤ x28) => ?_) (fun (q33 : ¬ (e32 ≤ x28)) => ?_)
        ·
          refine wr_iinc (i := 6) (n := 1) (v := x24) (fun e34 => [(6, vi e34), (0, .ref 236), (1, vi a0), (2, vi a1), (3, vi a2), (4, vi e14), (5, vi x15), (7, vi x28)]) (nx := 207) (r1 := 0) (r2 := 0) (r3 := 0) rfl rfl (fun _ => rfl) (fun e34 (fe34 : e34 = x24 + 1) => ?_)
          refine wi_goto (nx := 210) (r1 := 120) (r2 := 0) (r3 := 0) rfl ?_
          refine wp.lo (lo := [(0, .ref 236), (1, vi a0), (2, vi a1), (3, vi a2), (4, vi e14), (5, vi x15), (6, vi e34)]) ⟨rfl, rfl, rfl, rfl, rfl, rfl, rfl, trivial⟩ rfl ?_
          exact I25 e34 h29 ⟨g29, F30, F31, (show (0 ≤ e34 ∧ e34 ≤ 4096) ∧ (e34 ≤ e14) by omega), (fun s j h1 h2 hq e => by
              by_cases e1 : (s : Int) = x24
              · exact X29_0 s j (Or.inr ⟨e1, by omega, h2⟩) hq e
              · exact X29_0 s j (Or.inl ⟨by omega, h2⟩) hq e), X29_1⟩ (show ((4096 : Int) + 1 - e34).toNat < ((4096 : Int) + 1 - x24).toNat by omega)
        ·
          refine wi_aload_n (i := 0) (x := 236) (nx := 140) (r1 := 0) (r2 := 0) (r3 := 0) rfl rfl ?_
          refine wr_gr (k0 := 236) (x := 250) (nx := 143) (r1 := 11) (r2 := 34) (r3 := 0) rfl rfl (by decide) rfl ⟨rfl, rfl⟩ rfl ?_
          refine wi_iload (i := 6) (e := x24) (nx := 145) (r1 := 0) (r2 := 0) (r3 := 0) rfl rfl ?_
          obtain ⟨i34, ei34⟩ : ∃ q : Nat, x24 = (q : Int) := ⟨(x24).toNat, by omega⟩
          have b35 := gi_b (lo := 0) (hi := 1) g 250 i34 rfl
          refine wr_ba (k0 := 250) (a := x24) (f := i34) (x := h 250 i34) (nx := 146) (r1 := 0) (r2 := 0) (r3 := 0) rfl (by decide) rfl (by decide) (by omega) (by omega) (by decide) ((u29 250 i34 (fn_a (by decide) fn_0)).trans ((u25 250 i34 (fn_a (by decide) fn_0)).trans (u21 250 i34 (fn_a (by decide) fn_0)))) ?_
          refine wi_if (cd := .eq) (nx := 149) (r1 := 204) (r2 := 0) (r3 := 0) rfl (by omega) (fun (q36 : (h 250 i34) = 0) => ?_) (fun (q36 : ¬ ((h 250 i34) = 0)) => ?_)
          ·
            refine wr_iinc (i := 6) (n := 1) (v := x24) (fun e37 => [(6, vi e37), (0, .ref 236), (1, vi a0), (2, vi a1), (3, vi a2), (4, vi e14), (5, vi x15), (7, vi x28)]) (nx := 207) (r1 := 0) (r2 := 0) (r3 := 0) rfl rfl (fun _ => rfl) (fun e37 (fe37 : e37 = x24 + 1) => ?_)
            refine wi_goto (nx := 210) (r1 := 120) (r2 := 0) (r3 := 0) rfl ?_
            refine wp.lo (lo := [(0, .ref 236), (1, vi a0), (2, vi a1), (3, vi a2), (4, vi e14), (5, vi x15), (6, vi e37)]) ⟨rfl, rfl, rfl, rfl, rfl, rfl, rfl, trivial⟩ rfl ?_
            exact I25 e37 h29 ⟨g29, F30, F31, (show (0 ≤ e37 ∧ e37 ≤ 4096) ∧ (e37 ≤ e14) by omega), (fun s j h1 h2 hq e => by
                by_cases e1 : (s : Int) = x24
                · exact X29_0 s j (Or.inr ⟨e1, by first | omega | (exfalso; have h9 := hq.1; rw [show s = i34 by omega] at h9; omega), h2⟩) hq e
                · exact X29_0 s j (Or.inl ⟨by omega, h2⟩) hq e), X29_1⟩ (show ((4096 : Int) + 1 - e37).toNat < ((4096 : Int) + 1 - x24).toNat by omega)
          ·
            refine wi_aload_n (i := 0) (x := 236) (nx := 150) (r1 := 0) (r2 := 0) (r3 := 0) rfl rfl ?_
            refine wi_iload (i := 6) (e := x24) (nx := 152) (r1 := 0) (r2 := 0) (r3 := 0) rfl rfl ?_
            refine wi_iload_n (i := 1) (e := a0) (nx := 153) (r1 := 0) (r2 := 0) (r3 := 0) rfl rfl ?_
            refine wi_iload (i := 7) (e := x28) (nx := 155) (r1 := 0) (r2 := 0) (r3 := 0) rfl rfl ?_
            refine wr_V (k0 := 236) (rest := []) (as := [.ref 236, vi x24, vi a0, vi x28]) (nx := 158) (r1 := 327) (r2 := 3) (r3 := 11) rfl rfl rfl (of_decide_eq_true rfl) rfl rfl (by decide) rfl rfl (of_decide_eq_true rfl) (of_decide_eq_true rfl) ?_
            have e38 : h29 238 98 = h 238 98 := ((u29 238 98 rfl).trans ((u25 238 98 rfl).trans (u21 238 98 rfl)))
            have e39 : h29 238 99 = h 238 99 := ((u29 238 99 rfl).trans ((u25 238 99 rfl).trans (u21 238 99 rfl)))
            have e40 : h29 238 100 = h 238 100 := ((u29 238 100 rfl).trans ((u25 238 100 rfl).trans (u21 238 100 rfl)))
            have e41 : h29 238 101 = h 238 101 := ((u29 238 101 rfl).trans ((u25 238 101 rfl).trans (u21 238 101 rfl)))
            have e42 : h29 238 102 = h 238 102 := ((u29 238 102 rfl).trans ((u25 238 102 rfl).trans (u21 238 102 rfl)))
            have e43 : h29 238 106 = h 238 106 := ((u29 238 106 rfl).trans ((u25 238 106 rfl).trans (u21 238 106 rfl)))
            have e44 : h29 238 73 = h 238 73 := ((u29 238 73 rfl).trans ((u25 238 73 rfl).trans (u21 238 73 rfl)))
            have e45 : h29 238 2 = h 238 2 := ((u29 238 2 rfl).trans ((u25 238 2 rfl).trans (u21 238 2 rfl)))
            have e46 : h29 238 119 = h 238 119 := ((u29 238 119 rfl).trans ((u25 238 119 rfl).trans (u21 238 119 rfl)))
            have e47 : h29 238 67 = h 238 67 := ((u29 238 67 rfl).trans ((u25 238 67 rfl).trans (u21 238 67 rfl)))
            have e48 : h29 238 69 = h 238 69 := ((u29 238 69 rfl).trans ((u25 238 69 rfl).trans (u21 238 69 rfl)))
            have e49 : h29 238 5 = h 238 5 := ((u29 238 5 rfl).trans ((u25 238 5 rfl).trans (u21 238 5 rfl)))
            refine ct_327_236 hcr  g29 x24 a0 x28 (by omega) (by omega) (by omega) (show (h29 238 98) + (h29 238 99) + (h29 238 100) + (h29 238 101) + (h29 238 102) + (h29 238 106) = (h29 238 73) by omega) (show (h29 238 73) ≤ (h29 238 2) by omega) (show (h29 238 119) ≤ (h29 238 67) by omega) (show (h29 238 69) ≤ (h29 238 5) by omega) (show (h29 238 2) ≤ 12 * (h29 238 5) by omega) (fun z50  (fz50 : 0 ≤ z50 ∧ z50 ≤ 1) y37_0 => ?_)
            refine wk_i ?_
            refine wi_if (cd := .eq) (nx := 161) (r1 := 198) (r2 := 0) (r3 := 0) rfl (by omega) (fun (q51 : z50 = 0) => ?_) (fun (q51 : ¬ (z50 = 0)) => ?_)
            ·
              refine wr_iinc (i := 7) (n := 1) (v := x28) (fun e52 => [(7, vi e52), (0, .ref 236), (1, vi a0), (2, vi a1), (3, vi a2), (4, vi e14), (5, vi x15), (6, vi x24)]) (nx := 201) (r1 := 0) (r2 := 0) (r3 := 0) rfl rfl (fun _ => rfl) (fun e52 (fe52 : e52 = x28 + 1) => ?_)
              refine wi_goto (nx := 204) (r1 := 130) (r2 := 0) (r3 := 0) rfl ?_
              refine wp.lo (lo := [(0, .ref 236), (1, vi a0), (2, vi a1), (3, vi a2), (4, vi e14), (5, vi x15), (6, vi x24), (7, vi e52)]) ⟨rfl, rfl, rfl, rfl, rfl, rfl, rfl, rfl, trivial⟩ rfl ?_
              have q54 : h29 238 = h 238 := funext (fun i => ((u29 238 i (fo_no_ok (by decide) i)).trans ((u25 238 i (fo_no_ok (by decide) i)).trans (u21 238 i (fo_no_ok (by decide) i)))))
              have a53 : ¬ jb (h 238) (x24).toNat a0 (x28).toNat := by rw [← q54]; rcases y37_0 with ⟨e, _⟩ | ⟨_, e⟩; omega; exact e
              exact I29 e52 h29 ⟨g29, F30, F31, u29, (show (0 ≤ e52 ∧ e52 ≤ 12) by omega), (fun s j hp hq e => by
                  rcases hp with ⟨h1, h2⟩ | ⟨h1, h2, h3⟩
                  · exact X29_0 s j (Or.inl ⟨h1, h2⟩) hq e
                  · by_cases e0 : (j : Int) = x28
                    · exfalso
                      exact a53 (by rw [show (x24).toNat = s by omega, show (x28).toNat = j by omega]; exact hq.2.1)
                    · exact X29_0 s j (Or.inr ⟨h1, by omega, h3⟩) hq e), X29_1⟩ (show ((12 : Int) + 1 - e52).toNat < ((12 : Int) + 1 - x28).toNat by omega)
            ·
              refine wi_aload_n (i := 0) (x := 236) (nx := 162) (r1 := 0) (r2 := 0) (r3 := 0) rfl rfl ?_
              refine wi_iload (i := 7) (e := x28) (nx := 164) (r1 := 0) (r2 := 0) (r3 := 0) rfl rfl ?_
              refine wr_V (k0 := 236) (rest := []) (as := [.ref 236, vi x28]) (nx := 167) (r1 := 322) (r2 := 1) (r3 := 11) rfl rfl rfl (of_decide_eq_true rfl) rfl rfl (by decide) rfl rfl (of_decide_eq_true rfl) (of_decide_eq_true rfl) ?_
              refine wi_aload_n (i := 0) (x := 236) (nx := 1) (r1 := 0) (r2 := 0) (r3 := 0) rfl rfl ?_
              refine wr_gr (k0 := 236) (x := 238) (nx := 4) (r1 := 11) (r2 := 13) (r3 := 0) rfl rfl (by decide) rfl ⟨rfl, rfl⟩ rfl ?_
              refine wi_bipush (n := 31) (nx := 6) (r1 := 0) (r2 := 0) (r3 := 0) rfl (by decide) ?_
              refine wi_aload_n (i := 0) (x := 236) (nx := 7) (r1 := 0) (r2 := 0) (r3 := 0) rfl rfl ?_
              refine wr_gr (k0 := 236) (x := 238) (nx := 10) (r1 := 11) (r2 := 13) (r3 := 0) rfl rfl (by decide) rfl ⟨rfl, rfl⟩ rfl ?_
              refine wi_bipush (n := 73) (nx := 12) (r1 := 0) (r2 := 0) (r3 := 0) rfl (by decide) ?_
              refine wr_ia (k0 := 238) (a := 73) (f := 73) (x := h 238 73) (nx := 13) (r1 := 0) (r2 := 0) (r3 := 0) rfl (by decide) rfl (by omega) (by omega) (by decide) ((u29 238 73 rfl).trans ((u25 238 73 rfl).trans (u21 238 73 rfl))) ?_
              refine wr_add (nx := 14) (r1 := 0) (r2 := 0) (r3 := 0) rfl (fun e52 (fe52 : e52 = 31 + (h 238 73)) => ?_)
              refine wi_iload_n (i := 1) (e := x28) (nx := 15) (r1 := 0) (r2 := 0) (r3 := 0) rfl rfl ?_
              refine wr_add (nx := 16) (r1 := 0) (r2 := 0) (r3 := 0) rfl (fun e53 (fe53 : e53 = e52 + x28) => ?_)
              obtain ⟨i54, ei54⟩ : ∃ q : Nat, e53 = (q : Int) := ⟨(e53).toNat, by omega⟩
              have b55 := gi_b (lo := 0) (hi := 4) g 238 i54 (gi_rg 31 12 (fun _ => rfl) (by decide +kernel) (by omega))
              refine wr_ia (k0 := 238) (a := e53) (f := i54) (x := h 238 i54) (nx := 17) (r1 := 0) (r2 := 0) (r3 := 0) rfl (by decide) rfl (by omega) (by omega) (by decide) ((u29 238 i54 (fn_a (by decide) fn_0)).trans ((u25 238 i54 (fn_a (by decide) fn_0)).trans (u21 238 i54 (fn_a (by decide) fn_0)))) ?_
              refine wi_ireturn (nx := 18) (r1 := 0) (r2 := 0) (r3 := 0) rfl rfl ?_
              refine wk_i ?_
              refine wi_iload (i := 5) (e := x15) (nx := 169) (r1 := 0) (r2 := 0) (r3 := 0) rfl rfl ?_
              refine wi_icmp (cd := .ne) (nx := 172) (r1 := 198) (r2 := 0) (r3 := 0) rfl (by omega) (by omega) (fun (q56 : (h 238 i54) ≠ x15) => ?_) (fun (q56 : ¬ ((h 238 i54) ≠ x15)) => ?_)
              ·
                refine wr_iinc (i := 7) (n := 1) (v := x28) (fun e57 => [(7, vi e57), (0, .ref 236), (1, vi a0), (2, vi a1), (3, vi a2), (4, vi e14), (5, vi x15), (6, vi x24)]) (nx := 201) (r1 := 0) (r2 := 0) (r3 := 0) rfl rfl (fun _ => rfl) (fun e57 (fe57 : e57 = x28 + 1) => ?_)
                refine wi_goto (nx := 204) (r1 := 130) (r2 := 0) (r3 := 0) rfl ?_
                refine wp.lo (lo := [(0, .ref 236), (1, vi a0), (2, vi a1), (3, vi a2), (4, vi e14), (5, vi x15), (6, vi x24), (7, vi e57)]) ⟨rfl, rfl, rfl, rfl, rfl, rfl, rfl, rfl, trivial⟩ rfl ?_
                have q59 : h29 238 = h 238 := funext (fun i => ((u29 238 i (fo_no_ok (by decide) i)).trans ((u25 238 i (fo_no_ok (by decide) i)).trans (u21 238 i (fo_no_ok (by decide) i)))))
                have a58 : jb (h 238) (x24).toNat a0 (x28).toNat := by rw [← q59]; rcases y37_0 with ⟨_, e⟩ | ⟨e, _⟩; exact e; omega
                exact I29 e57 h29 ⟨g29, F30, F31, u29, (show (0 ≤ e57 ∧ e57 ≤ 12) by omega), (fun s j hp hq e => by
                    rcases hp with ⟨h1, h2⟩ | ⟨h1, h2, h3⟩
                    · exact X29_0 s j (Or.inl ⟨h1, h2⟩) hq e
                    · by_cases e0 : (j : Int) = x28
                      · exfalso
                        unfold jc at e; rw [show 31 + (h 238 73).toNat + j = i54 by omega] at e; omega
                      · exact X29_0 s j (Or.inr ⟨h1, by omega, h3⟩) hq e), X29_1⟩ (show ((12 : Int) + 1 - e57).toNat < ((12 : Int) + 1 - x28).toNat by omega)
              ·
                refine wi_aload_n (i := 0) (x := 236) (nx := 173) (r1 := 0) (r2 := 0) (r3 := 0) rfl rfl ?_
                refine wi_iload (i := 6) (e := x24) (nx := 175) (r1 := 0) (r2 := 0) (r3 := 0) rfl rfl ?_
                refine wi_iload_n (i := 2) (e := a1) (nx := 176) (r1 := 0) (r2 := 0) (r3 := 0) rfl rfl ?_
                refine wi_iload (i := 7) (e := x28) (nx := 178) (r1 := 0) (r2 := 0) (r3 := 0) rfl rfl ?_
                refine wr_V (k0 := 236) (rest := []) (as := [.ref 236, vi x24, vi a1, vi x28]) (nx := 181) (r1 := 328) (r2 := 3) (r3 := 11) rfl rfl rfl (of_decide_eq_true rfl) rfl rfl (by decide) rfl rfl (of_decide_eq_true rfl) (of_decide_eq_true rfl) ?_
                refine ct_328_236 hcr  g29 x24 a1 x28 (by omega) (by omega) (by omega) (show x28 + (h29 238 73) ≤ 11 by omega) (fun z58  (fz58 : 0 ≤ z58 ∧ z58 ≤ 1000000) y57_0 => ?_)
                refine wk_i ?_
                refine wi_iload_n (i := 3) (e := a2) (nx := 182) (r1 := 0) (r2 := 0) (r3 := 0) rfl rfl ?_
                refine wi_icmp (cd := .ne) (nx := 185) (r1 := 198) (r2 := 0) (r3 := 0) rfl (by omega) (by omega) (fun (q59 : z58 ≠ a2) => ?_) (fun (q59 : ¬ (z58 ≠ a2)) => ?_)
                ·
                  refine wr_iinc (i := 7) (n := 1) (v := x28) (fun e60 => [(7, vi e60), (0, .ref 236), (1, vi a0), (2, vi a1), (3, vi a2), (4, vi e14), (5, vi x15), (6, vi x24)]) (nx := 201) (r1 := 0) (r2 := 0) (r3 := 0) rfl rfl (fun _ => rfl) (fun e60 (fe60 : e60 = x28 + 1) => ?_)
                  refine wi_goto (nx := 204) (r1 := 130) (r2 := 0) (r3 := 0) rfl ?_
                  refine wp.lo (lo := [(0, .ref 236), (1, vi a0), (2, vi a1), (3, vi a2), (4, vi e14), (5, vi x15), (6, vi x24), (7, vi e60)]) ⟨rfl, rfl, rfl, rfl, rfl, rfl, rfl, rfl, trivial⟩ rfl ?_
                  have q62 : h29 238 = h 238 := funext (fun i => ((u29 238 i (fo_no_ok (by decide) i)).trans ((u25 238 i (fo_no_ok (by decide) i)).trans (u21 238 i (fo_no_ok (by decide) i)))))
                  have a61 : jb (h 238) (x24).toNat a0 (x28).toNat := by rw [← q62]; rcases y37_0 with ⟨_, e⟩ | ⟨e, _⟩; exact e; omega
                  have q64 : h29 238 = h 238 := funext (fun i => ((u29 238 i (fo_no_ok (by decide) i)).trans ((u25 238 i (fo_no_ok (by decide) i)).trans (u21 238 i (fo_no_ok (by decide) i)))))
                  have q65 : h29 249 = h 249 := funext (fun i => ((u29 249 i (fo_no_ok (by decide) i)).trans ((u25 249 i (fo_no_ok (by decide) i)).trans (u21 249 i (fo_no_ok (by decide) i)))))
                  have a63 : z58 = fb (h 238) (h 249) (x24).toNat a1 (x28).toNat := by rw [← q64, ← q65]; exact y57_0
                  exact I29 e60 h29 ⟨g29, F30, F31, u29, (show (0 ≤ e60 ∧ e60 ≤ 12) by omega), (fun s j hp hq e => by
                      rcases hp with ⟨h1, h2⟩ | ⟨h1, h2, h3⟩
                      · exact X29_0 s j (Or.inl ⟨h1, h2⟩) hq e
                      · by_cases e0 : (j : Int) = x28
                        · exfalso
                          have h9 := hq.2.2; rw [show s = (x24).toNat by omega, show j = (x28).toNat by omega, ← a63] at h9; omega
                        · exact X29_0 s j (Or.inr ⟨h1, by omega, h3⟩) hq e), X29_1⟩ (show ((12 : Int) + 1 - e60).toNat < ((12 : Int) + 1 - x28).toNat by omega)
                ·
                  refine wi_aload_n (i := 0) (x := 236) (nx := 186) (r1 := 0) (r2 := 0) (r3 := 0) rfl rfl ?_
                  refine wr_gr (k0 := 236) (x := 251) (nx := 189) (r1 := 11) (r2 := 35) (r3 := 0) rfl rfl (by decide) rfl ⟨rfl, rfl⟩ rfl ?_
                  refine wi_iload (i := 6) (e := x24) (nx := 191) (r1 := 0) (r2 := 0) (r3 := 0) rfl rfl ?_
                  refine wi_iconst (n := 1) (nx := 192) (r1 := 0) (r2 := 0) (r3 := 0) rfl ?_
                  refine wi_iload (i := 7) (e := x28) (nx := 194) (r1 := 0) (r2 := 0) (r3 := 0) rfl rfl ?_
                  refine wr_ishl1 (y := x28) (nx := 195) (r1 := 0) (r2 := 0) (r3 := 0) rfl (by omega) (fun e60 (fe60 : 1 ≤ e60 ∧ e60 ≤ 4096) ve60 => ?_)
                  have ke60 : e60 ≤ 2048 := by rw [ve60]; have := Nat.pow_le_pow_right (show 0 < 2 by decide) (show (x28).toNat ≤ 11 by omega); omega
                  refine wr_iorN (x := x24) (y := e60) 12 4096 (by decide) (by decide) (nx := 196) (r1 := 0) (r2 := 0) (r3 := 0) rfl (by omega) (by omega) (fun e61 (fe61 : 0 ≤ e61 ∧ e61 < 4096) ve61 => ?_)
                  rw [show (e60).toNat = 2 ^ (x28).toNat by omega] at ve61
                  refine wi_iconst (n := 1) (nx := 197) (r1 := 0) (r2 := 0) (r3 := 0) rfl ?_
                  obtain ⟨i62, ei62⟩ : ∃ q : Nat, e61 = (q : Int) := ⟨(e61).toNat, by omega⟩
                  refine wr_bs (k0 := 251) (a := e61) (f := i62) (x := 1) (bl := 0) (bh := 1) (nx := 198) (r1 := 0) (r2 := 0) (r3 := 0) rfl (by decide) rfl (by omega) (by omega) (by omega) (by decide) g29 rfl (by omega) (fun h63 g63 w63 u63 => ?_)
                  have F64 := F30.then rfl (FR.rngp (lo := 251) (hi := 251) u63 (by decide))
                  have F65 := F31.then rfl (FR.rngp (lo := 251) (hi := 251) u63 (by decide))
                  have F66 := u29.then rfl (FR.rngp (lo := 251) (hi := 251) u63 (by decide))
                  refine wr_iinc (i := 7) (n := 1) (v := x28) (fun e67 => [(7, vi e67), (0, .ref 236), (1, vi a0), (2, vi a1), (3, vi a2), (4, vi e14), (5, vi x15), (6, vi x24)]) (nx := 201) (r1 := 0) (r2 := 0) (r3 := 0) rfl rfl (fun _ => rfl) (fun e67 (fe67 : e67 = x28 + 1) => ?_)
                  refine wi_goto (nx := 204) (r1 := 130) (r2 := 0) (r3 := 0) rfl ?_
                  refine wp.lo (lo := [(0, .ref 236), (1, vi a0), (2, vi a1), (3, vi a2), (4, vi e14), (5, vi x15), (6, vi x24), (7, vi e67)]) ⟨rfl, rfl, rfl, rfl, rfl, rfl, rfl, rfl, trivial⟩ rfl ?_
                  have q69 : h29 238 = h 238 := funext (fun i => ((u29 238 i (fo_no_ok (by decide) i)).trans ((u25 238 i (fo_no_ok (by decide) i)).trans (u21 238 i (fo_no_ok (by decide) i)))))
                  have a68 : jb (h 238) (x24).toNat a0 (x28).toNat := by rw [← q69]; rcases y37_0 with ⟨_, e⟩ | ⟨e, _⟩; exact e; omega
                  have q71 : h29 238 = h 238 := funext (fun i => ((u29 238 i (fo_no_ok (by decide) i)).trans ((u25 238 i (fo_no_ok (by decide) i)).trans (u21 238 i (fo_no_ok (by decide) i)))))
                  have q72 : h29 249 = h 249 := funext (fun i => ((u29 249 i (fo_no_ok (by decide) i)).trans ((u25 249 i (fo_no_ok (by decide) i)).trans (u21 249 i (fo_no_ok (by decide) i)))))
                  have a70 : z58 = fb (h 238) (h 249) (x24).toNat a1 (x28).toNat := by rw [← q71, ← q72]; exact y57_0
                  have q74 : h29 238 = h 238 := funext (fun i => ((u29 238 i (fo_no_ok (by decide) i)).trans ((u25 238 i (fo_no_ok (by decide) i)).trans (u21 238 i (fo_no_ok (by decide) i)))))
                  have a73 : jb (h 238) (x24).toNat a0 (x28).toNat := by rw [← q74]; rcases y37_0 with ⟨_, e⟩ | ⟨e, _⟩; exact e; omega
                  have q76 : h29 238 = h 238 := funext (fun i => ((u29 238 i (fo_no_ok (by decide) i)).trans ((u25 238 i (fo_no_ok (by decide) i)).trans (u21 238 i (fo_no_ok (by decide) i)))))
                  have q77 : h29 249 = h 249 := funext (fun i => ((u29 249 i (fo_no_ok (by decide) i)).trans ((u25 249 i (fo_no_ok (by decide) i)).trans (u21 249 i (fo_no_ok (by decide) i)))))
                  have a75 : z58 = fb (h 238) (h 249) (x24).toNat a1 (x28).toNat := by rw [← q76, ← q77]; exact y57_0
                  exact I29 e67 h63 ⟨g63, F64, F65, F66, (show (0 ≤ e67 ∧ e67 ≤ 12) by omega), (fun s j hp hq e => by
                      by_cases e1 : (s ||| 2 ^ j) = i62
                      · rw [e1]; exact w63
                      · refine (u63 251 _ (fn_i (by omega) fn_0)).trans ?_
                        rcases hp with ⟨h1, h2⟩ | ⟨h1, h2, h3⟩
                        · exact X29_0 s j (Or.inl ⟨h1, h2⟩) hq e
                        · by_cases e0 : (j : Int) = x28
                          · exfalso
                            rw [show s = (x24).toNat by omega, show j = (x28).toNat by omega] at e1
                            omega
                          · exact X29_0 s j (Or.inr ⟨h1, by omega, h3⟩) hq e), (fun k e1 e2 => by
                      by_cases e3 : k = i62
                      · have e4 := pc_next rc (s := (x24).toNat) (j := (x28).toNat) (by omega) (by omega) xq0.2 ⟨by rw [show (x24).toNat = i34 by omega]; all_goals omega, a73, by rw [← a75]; all_goals omega⟩
                        rw [show k = (x24).toNat ||| 2 ^ (x28).toNat by omega]
                        exact e4
                      · exact X29_1 k e1 (by rw [← u63 251 k (fn_i (by omega) fn_0)]; exact e2))⟩ (show ((12 : Int) + 1 - e67).toNat < ((12 : Int) + 1 - x28).toNat by omega)
    ·
      refine wi_aload_n (i := 0) (x := 236) (nx := 104) (r1 := 0) (r2 := 0) (r3 := 0) rfl rfl ?_
      refine wr_gr (k0 := 236) (x := 251) (nx := 107) (r1 := 11) (r2 := 35) (r3 := 0) rfl rfl (by decide) rfl ⟨rfl, rfl⟩ rfl ?_
      refine wi_iload (i := 6) (e := x20) (nx := 109) (r1 := 0) (r2 := 0) (r3 := 0) rfl rfl ?_
      refine wi_iconst (n := 0) (nx := 110) (r1 := 0) (r2 := 0) (r3 := 0) rfl ?_
      obtain ⟨i24, ei24⟩ : ∃ q : Nat, x20 = (q : Int) := ⟨(x20).toNat, by omega⟩
      refine wr_bs (k0 := 251) (a := x20) (f := i24) (x := 0) (bl := 0) (bh := 1) (nx := 111) (r1 := 0) (r2 := 0) (r3 := 0) rfl (by decide) rfl (by omega) (by omega) (by omega) (by decide) g21 rfl (by omega) (fun h25 g25 w25 u25 => ?_)
      have F26 := F22.then rfl (FR.rngp (lo := 251) (hi := 251) u25 (by decide))
      have F27 := u21.then rfl (FR.rngp (lo := 251) (hi := 251) u25 (by decide))
      refine wr_iinc (i := 6) (n := 1) (v := x20) (fun e28 => [(6, vi e28), (0, .ref 236), (1, vi a0), (2, vi a1), (3, vi a2), (4, vi e14), (5, vi x15)]) (nx := 114) (r1 := 0) (r2 := 0) (r3 := 0) rfl rfl (fun _ => rfl) (fun e28 (fe28 : e28 = x20 + 1) => ?_)
      refine wi_goto (nx := 117) (r1 := 96) (r2 := 0) (r3 := 0) rfl ?_
      refine wp.lo (lo := [(0, .ref 236), (1, vi a0), (2, vi a1), (3, vi a2), (4, vi e14), (5, vi x15), (6, vi e28)]) ⟨rfl, rfl, rfl, rfl, rfl, rfl, rfl, trivial⟩ rfl ?_
      exact I21 e28 h25 ⟨g25, F26, F27, (show (0 ≤ e28 ∧ e28 ≤ 4096) by omega), (fun k e => by by_cases e1 : k = i24; rw [e1]; exact w25; exact (u25 251 k (fn_i (by omega) fn_0)).trans (X21_0 k (by omega)))⟩ (show ((4096 : Int) + 1 - e28).toNat < ((4096 : Int) + 1 - x20).toNat by omega)
  ·
    refine wi_iconst (n := 0) (nx := 22) (r1 := 0) (r2 := 0) (r3 := 0) rfl ?_
    refine wi_istore (i := 7) (e := 0) (lo2 := [(7, vi 0), (0, .ref 236), (1, vi a0), (2, vi a1), (3, vi a2), (4, vi e14), (5, vi x15), (6, vi x16)]) (nx := 24) (r1 := 0) (r2 := 0) (r3 := 0) rfl rfl ?_
    refine wp.lo (lo := [(0, .ref 236), (1, vi a0), (2, vi a1), (3, vi a2), (4, vi e14), (5, vi x15), (6, vi x16), (7, vi 0)]) ⟨rfl, rfl, rfl, rfl, rfl, rfl, rfl, rfl, trivial⟩ rfl ?_
    refine wl_2 (fun x20 x21 h22 => h = h22 ∧ ((0 ≤ x20 ∧ x20 ≤ 5) ∧ (0 ≤ x21 ∧ x21 ≤ 12)) ∧ (LC (h 238) (h 249) (h 250) a0 a1 a2 x20 (fun s j => ((s : Int) < x16 ∧ j < wn (h 238)) ∨ ((s : Int) = x16 ∧ (j : Int) < x21 ∧ j < wn (h 238))))) (fun x20 x21 h22 => ((12 : Int) + 1 - x21).toNat) (fun x20 x21 h22 => (24, [(0, .ref 236), (1, vi a0), (2, vi a1), (3, vi a2), (4, vi e14), (5, vi x20), (6, vi x16), (7, vi x21)], [], hp_w h22 cr, b, c)) ?_ x15 0 h ⟨rfl, (show (0 ≤ x15 ∧ x15 ≤ 5) ∧ (0 ≤ 0 ∧ 0 ≤ 12) by omega), (LC.mono X17_0 (fun s j hp => Or.inl hp) (fun s j hp hq => by rcases hp with hp | ⟨_, h2, _⟩; exact hp; exfalso; omega))⟩
    intro x20 x21 h22 ⟨e22, f22, X22_0⟩ I22
    subst e22
    refine wi_iload (i := 7) (e := x21) (nx := 26) (r1 := 0) (r2 := 0) (r3 := 0) rfl rfl ?_
    refine wi_aload_n (i := 0) (x := 236) (nx := 27) (r1 := 0) (r2 := 0) (r3 := 0) rfl rfl ?_
    refine wr_V (k0 := 236) (rest := [vi x21]) (as := [.ref 236]) (nx := 30) (r1 := 321) (r2 := 0) (r3 := 11) rfl rfl rfl (of_decide_eq_true rfl) rfl rfl (by decide) rfl rfl (of_decide_eq_true rfl) (of_decide_eq_true rfl) ?_
    refine wi_aload_n (i := 0) (x := 236) (nx := 1) (r1 := 0) (r2 := 0) (r3 := 0) rfl rfl ?_
    refine wr_gr (k0 := 236) (x := 238) (nx := 4) (r1 := 11) (r2 := 13) (r3 := 0) rfl rfl (by decide) rfl ⟨rfl, rfl⟩ rfl ?_
    refine wi_iconst (n := 2) (nx := 5) (r1 := 0) (r2 := 0) (r3 := 0) rfl ?_
    refine wr_ia (k0 := 238) (a := 2) (f := 2) (x := h 238 2) (nx := 6) (r1 := 0) (r2 := 0) (r3 := 0) rfl (by decide) rfl (by omega) (by omega) (by decide) rfl ?_
    refine wi_aload_n (i := 0) (x := 236) (nx := 7) (r1 := 0) (r2 := 0) (r3 := 0) rfl rfl ?_
    refine wr_gr (k0 := 236) (x := 238) (nx := 10) (r1 := 11) (r2 := 13) (r3 := 0) rfl rfl (by decide) rfl ⟨rfl, rfl⟩ rfl ?_
    refine wi_bipush (n := 73) (nx := 12) (r1 := 0) (r2 := 0) (r3 := 0) rfl (by decide) ?_
    refine wr_ia (k0 := 238) (a := 73) (f := 73) (x := h 238 73) (nx := 13) (r1 := 0) (r2 := 0) (r3 := 0) rfl (by decide) rfl (by omega) (by omega) (by decide) rfl ?_
    refine wr_sub (nx := 14) (r1 := 0) (r2 := 0) (r3 := 0) rfl (fun e25 (fe25 : e25 = (h 238 2) - (h 238 73)) => ?_)
    refine wi_ireturn (nx := 15) (r1 := 0) (r2 := 0) (r3 := 0) rfl rfl ?_
    refine wk_i ?_
    refine wi_icmp (cd := .ge) (nx := 33) (r1 := 87) (r2 := 0) (r3 := 0) rfl (by omega) (by omega) (fun (q26 : e25 ≤ x21) => ?_) (fun (q26 : ¬ (e25 ≤ x21)) => ?_)
    ·
      refine wr_iinc (i := 6) (n := 1) (v := x16) (fun e27 => [(6, vi e27), (0, .ref 236), (1, vi a0), (2, vi a1), (3, vi a2), (4, vi e14), (5, vi x20), (7, vi x21)]) (nx := 90) (r1 := 0) (r2 := 0) (r3 := 0) rfl rfl (fun _ => rfl) (fun e27 (fe27 : e27 = x16 + 1) => ?_)
      refine wi_goto (nx := 93) (r1 := 14) (r2 := 0) (r3 := 0) rfl ?_
      refine wp.lo (lo := [(0, .ref 236), (1, vi a0), (2, vi a1), (3, vi a2), (4, vi e14), (5, vi x20), (6, vi e27)]) ⟨rfl, rfl, rfl, rfl, rfl, rfl, rfl, trivial⟩ rfl ?_
      exact I17 x20 e27 h ⟨rfl, (show (0 ≤ x20 ∧ x20 ≤ 5) ∧ (0 ≤ e27 ∧ e27 ≤ 4096) ∧ (e27 ≤ e14) by omega), (LC.mono X22_0 (fun s j hp => by rcases hp with ⟨h1, h2⟩ | ⟨h1, h2, h3⟩ <;> exact ⟨by omega, by assumption⟩) (fun s j hp hq => by
          by_cases e : (s : Int) = x16
          · exact Or.inr ⟨e, by have h9 := hp.2; omega, hp.2⟩
          · exact Or.inl ⟨by omega, hp.2⟩))⟩ (show ((4096 : Int) + 1 - e27).toNat < ((4096 : Int) + 1 - x16).toNat by omega)
    ·
      refine wi_aload_n (i := 0) (x := 236) (nx := 34) (r1 := 0) (r2 := 0) (r3 := 0) rfl rfl ?_
      refine wr_gr (k0 := 236) (x := 250) (nx := 37) (r1 := 11) (r2 := 34) (r3 := 0) rfl rfl (by decide) rfl ⟨rfl, rfl⟩ rfl ?_
      refine wi_iload (i := 6) (e := x16) (nx := 39) (r1 := 0) (r2 := 0) (r3 := 0) rfl rfl ?_
      obtain ⟨i27, ei27⟩ : ∃ q : Nat, x16 = (q : Int) := ⟨(x16).toNat, by omega⟩
      have b28 := gi_b (lo := 0) (hi := 1) g 250 i27 rfl
      refine wr_ba (k0 := 250) (a := x16) (f := i27) (x := h 250 i27) (nx := 40) (r1 := 0) (r2 := 0) (r3 := 0) rfl (by decide) rfl (by decide) (by omega) (by omega) (by decide) rfl ?_
      refine wi_if (cd := .eq) (nx := 43) (r1 := 87) (r2 := 0) (r3 := 0) rfl (by omega) (fun (q29 : (h 250 i27) = 0) => ?_) (fun (q29 : ¬ ((h 250 i27) = 0)) => ?_)
      ·
        refine wr_iinc (i := 6) (n := 1) (v := x16) (fun e30 => [(6, vi e30), (0, .ref 236), (1, vi a0), (2, vi a1), (3, vi a2), (4, vi e14), (5, vi x20), (7, vi x21)]) (nx := 90) (r1 := 0) (r2 := 0) (r3 := 0) rfl rfl (fun _ => rfl) (fun e30 (fe30 : e30 = x16 + 1) => ?_)
        refine wi_goto (nx := 93) (r1 := 14) (r2 := 0) (r3 := 0) rfl ?_
        refine wp.lo (lo := [(0, .ref 236), (1, vi a0), (2, vi a1), (3, vi a2), (4, vi e14), (5, vi x20), (6, vi e30)]) ⟨rfl, rfl, rfl, rfl, rfl, rfl, rfl, trivial⟩ rfl ?_
        exact I17 x20 e30 h ⟨rfl, (show (0 ≤ x20 ∧ x20 ≤ 5) ∧ (0 ≤ e30 ∧ e30 ≤ 4096) ∧ (e30 ≤ e14) by omega), (LC.mono X22_0 (fun s j hp => by rcases hp with ⟨h1, h2⟩ | ⟨h1, h2, h3⟩ <;> exact ⟨by omega, by assumption⟩) (fun s j hp hq => by
            by_cases e : (s : Int) = x16
            · exact Or.inr ⟨e, by first | (have h9 := hp.2; omega) | (exfalso; have h9 := hq.1; rw [show s = i27 by omega] at h9; omega), hp.2⟩
            · exact Or.inl ⟨by omega, hp.2⟩))⟩ (show ((4096 : Int) + 1 - e30).toNat < ((4096 : Int) + 1 - x16).toNat by omega)
      ·
        refine wi_aload_n (i := 0) (x := 236) (nx := 44) (r1 := 0) (r2 := 0) (r3 := 0) rfl rfl ?_
        refine wi_iload (i := 6) (e := x16) (nx := 46) (r1 := 0) (r2 := 0) (r3 := 0) rfl rfl ?_
        refine wi_iload_n (i := 1) (e := a0) (nx := 47) (r1 := 0) (r2 := 0) (r3 := 0) rfl rfl ?_
        refine wi_iload (i := 7) (e := x21) (nx := 49) (r1 := 0) (r2 := 0) (r3 := 0) rfl rfl ?_
        refine wr_V (k0 := 236) (rest := []) (as := [.ref 236, vi x16, vi a0, vi x21]) (nx := 52) (r1 := 327) (r2 := 3) (r3 := 11) rfl rfl rfl (of_decide_eq_true rfl) rfl rfl (by decide) rfl rfl (of_decide_eq_true rfl) (of_decide_eq_true rfl) ?_
        refine ct_327_236 hcr  g x16 a0 x21 (by omega) (by omega) (by omega) (show (h 238 98) + (h 238 99) + (h 238 100) + (h 238 101) + (h 238 102) + (h 238 106) = (h 238 73) by omega) (show (h 238 73) ≤ (h 238 2) by omega) (show (h 238 119) ≤ (h 238 67) by omega) (show (h 238 69) ≤ (h 238 5) by omega) (show (h 238 2) ≤ 12 * (h 238 5) by omega) (fun z31  (fz31 : 0 ≤ z31 ∧ z31 ≤ 1) y30_0 => ?_)
        refine wk_i ?_
        refine wi_if (cd := .eq) (nx := 55) (r1 := 81) (r2 := 0) (r3 := 0) rfl (by omega) (fun (q32 : z31 = 0) => ?_) (fun (q32 : ¬ (z31 = 0)) => ?_)
        ·
          refine wr_iinc (i := 7) (n := 1) (v := x21) (fun e33 => [(7, vi e33), (0, .ref 236), (1, vi a0), (2, vi a1), (3, vi a2), (4, vi e14), (5, vi x20), (6, vi x16)]) (nx := 84) (r1 := 0) (r2 := 0) (r3 := 0) rfl rfl (fun _ => rfl) (fun e33 (fe33 : e33 = x21 + 1) => ?_)
          refine wi_goto (nx := 87) (r1 := 24) (r2 := 0) (r3 := 0) rfl ?_
          refine wp.lo (lo := [(0, .ref 236), (1, vi a0), (2, vi a1), (3, vi a2), (4, vi e14), (5, vi x20), (6, vi x16), (7, vi e33)]) ⟨rfl, rfl, rfl, rfl, rfl, rfl, rfl, rfl, trivial⟩ rfl ?_
          have q35 : h 238 = h 238 := funext (fun i => rfl)
          have a34 : ¬ jb (h 238) (x16).toNat a0 (x21).toNat := by rw [← q35]; rcases y30_0 with ⟨e, _⟩ | ⟨_, e⟩; omega; exact e
          exact I22 x20 e33 h ⟨rfl, (show (0 ≤ x20 ∧ x20 ≤ 5) ∧ (0 ≤ e33 ∧ e33 ≤ 12) by omega), (LC.mono X22_0 (fun s j hp => by rcases hp with hp | ⟨h1, h2, h3⟩; exact Or.inl hp; exact Or.inr ⟨h1, by omega, h3⟩) (fun s j hp hq => by
              rcases hp with hp | ⟨h1, h2, h3⟩
              · exact Or.inl hp
              · by_cases e0 : (j : Int) = x21
                · exfalso
                  exact a34 (by rw [show (x16).toNat = s by omega, show (x21).toNat = j by omega]; exact hq.2.1)
                · exact Or.inr ⟨h1, by omega, h3⟩))⟩ (show ((12 : Int) + 1 - e33).toNat < ((12 : Int) + 1 - x21).toNat by omega)
        ·
          refine wi_aload_n (i := 0) (x := 236) (nx := 56) (r1 := 0) (r2 := 0) (r3 := 0) rfl rfl ?_
          refine wi_iload (i := 6) (e := x16) (nx := 58) (r1 := 0) (r2 := 0) (r3 := 0) rfl rfl ?_
          refine wi_iload_n (i := 2) (e := a1) (nx := 59) (r1 := 0) (r2 := 0) (r3 := 0) rfl rfl ?_
          refine wi_iload (i := 7) (e := x21) (nx := 61) (r1 := 0) (r2 := 0) (r3 := 0) rfl rfl ?_
          refine wr_V (k0 := 236) (rest := []) (as := [.ref 236, vi x16, vi a1, vi x21]) (nx := 64) (r1 := 328) (r2 := 3) (r3 := 11) rfl rfl rfl (of_decide_eq_true rfl) rfl rfl (by decide) rfl rfl (of_decide_eq_true rfl) (of_decide_eq_true rfl) ?_
          refine ct_328_236 hcr  g x16 a1 x21 (by omega) (by omega) (by omega) (show x21 + (h 238 73) ≤ 11 by omega) (fun z34  (fz34 : 0 ≤ z34 ∧ z34 ≤ 1000000) y33_0 => ?_)
          refine wk_i ?_
          refine wi_iload_n (i := 3) (e := a2) (nx := 65) (r1 := 0) (r2 := 0) (r3 := 0) rfl rfl ?_
          refine wi_icmp (cd := .ne) (nx := 68) (r1 := 81) (r2 := 0) (r3 := 0) rfl (by omega) (by omega) (fun (q35 : z34 ≠ a2) => ?_) (fun (q35 : ¬ (z34 ≠ a2)) => ?_)
          ·
            refine wr_iinc (i := 7) (n := 1) (v := x21) (fun e36 => [(7, vi e36), (0, .ref 236), (1, vi a0), (2, vi a1), (3, vi a2), (4, vi e14), (5, vi x20), (6, vi x16)]) (nx := 84) (r1 := 0) (r2 := 0) (r3 := 0) rfl rfl (fun _ => rfl) (fun e36 (fe36 : e36 = x21 + 1) => ?_)
            refine wi_goto (nx := 87) (r1 := 24) (r2 := 0) (r3 := 0) rfl ?_
            refine wp.lo (lo := [(0, .ref 236), (1, vi a0), (2, vi a1), (3, vi a2), (4, vi e14), (5, vi x20), (6, vi x16), (7, vi e36)]) ⟨rfl, rfl, rfl, rfl, rfl, rfl, rfl, rfl, trivial⟩ rfl ?_
            have q38 : h 238 = h 238 := funext (fun i => rfl)
            have a37 : jb (h 238) (x16).toNat a0 (x21).toNat := by rw [← q38]; rcases y30_0 with ⟨_, e⟩ | ⟨e, _⟩; exact e; omega
            have q40 : h 238 = h 238 := funext (fun i => rfl)
            have q41 : h 249 = h 249 := funext (fun i => rfl)
            have a39 : z34 = fb (h 238) (h 249) (x16).toNat a1 (x21).toNat := by rw [← q40, ← q41]; exact y33_0
            exact I22 x20 e36 h ⟨rfl, (show (0 ≤ x20 ∧ x20 ≤ 5) ∧ (0 ≤ e36 ∧ e36 ≤ 12) by omega), (LC.mono X22_0 (fun s j hp => by rcases hp with hp | ⟨h1, h2, h3⟩; exact Or.inl hp; exact Or.inr ⟨h1, by omega, h3⟩) (fun s j hp hq => by
                rcases hp with hp | ⟨h1, h2, h3⟩
                · exact Or.inl hp
                · by_cases e0 : (j : Int) = x21
                  · exfalso
                    have h9 := hq.2.2; rw [show s = (x16).toNat by omega, show j = (x21).toNat by omega, ← a39] at h9; omega
                  · exact Or.inr ⟨h1, by omega, h3⟩))⟩ (show ((12 : Int) + 1 - e36).toNat < ((12 : Int) + 1 - x21).toNat by omega)
          ·
            refine wi_iload (i := 5) (e := x20) (nx := 70) (r1 := 0) (r2 := 0) (r3 := 0) rfl rfl ?_
            refine wi_aload_n (i := 0) (x := 236) (nx := 71) (r1 := 0) (r2 := 0) (r3 := 0) rfl rfl ?_
            refine wi_iload (i := 7) (e := x21) (nx := 73) (r1 := 0) (r2 := 0) (r3 := 0) rfl rfl ?_
            refine wr_V (k0 := 236) (rest := [vi x20]) (as := [.ref 236, vi x21]) (nx := 76) (r1 := 322) (r2 := 1) (r3 := 11) rfl rfl rfl (of_decide_eq_true rfl) rfl rfl (by decide) rfl rfl (of_decide_eq_true rfl) (of_decide_eq_true rfl) ?_
            refine wi_aload_n (i := 0) (x := 236) (nx := 1) (r1 := 0) (r2 := 0) (r3 := 0) rfl rfl ?_
            refine wr_gr (k0 := 236) (x := 238) (nx := 4) (r1 := 11) (r2 := 13) (r3 := 0) rfl rfl (by decide) rfl ⟨rfl, rfl⟩ rfl ?_
            refine wi_bipush (n := 31) (nx := 6) (r1 := 0) (r2 := 0) (r3 := 0) rfl (by decide) ?_
            refine wi_aload_n (i := 0) (x := 236) (nx := 7) (r1 := 0) (r2 := 0) (r3 := 0) rfl rfl ?_
            refine wr_gr (k0 := 236) (x := 238) (nx := 10) (r1 := 11) (r2 := 13) (r3 := 0) rfl rfl (by decide) rfl ⟨rfl, rfl⟩ rfl ?_
            refine wi_bipush (n := 73) (nx := 12) (r1 := 0) (r2 := 0) (r3 := 0) rfl (by decide) ?_
            refine wr_ia (k0 := 238) (a := 73) (f := 73) (x := h 238 73) (nx := 13) (r1 := 0) (r2 := 0) (r3 := 0) rfl (by decide) rfl (by omega) (by omega) (by decide) rfl ?_
            refine wr_add (nx := 14) (r1 := 0) (r2 := 0) (r3 := 0) rfl (fun e36 (fe36 : e36 = 31 + (h 238 73)) => ?_)
            refine wi_iload_n (i := 1) (e := x21) (nx := 15) (r1 := 0) (r2 := 0) (r3 := 0) rfl rfl ?_
            refine wr_add (nx := 16) (r1 := 0) (r2 := 0) (r3 := 0) rfl (fun e37 (fe37 : e37 = e36 + x21) => ?_)
            obtain ⟨i38, ei38⟩ : ∃ q : Nat, e37 = (q : Int) := ⟨(e37).toNat, by omega⟩
            have b39 := gi_b (lo := 0) (hi := 4) g 238 i38 (gi_rg 31 12 (fun _ => rfl) (by decide +kernel) (by omega))
            refine wr_ia (k0 := 238) (a := e37) (f := i38) (x := h 238 i38) (nx := 17) (r1 := 0) (r2 := 0) (r3 := 0) rfl (by decide) rfl (by omega) (by omega) (by decide) rfl ?_
            refine wi_ireturn (nx := 18) (r1 := 0) (r2 := 0) (r3 := 0) rfl rfl ?_
            refine wk_i ?_
            refine wi_S (rest := []) (as := [vi x20, vi (h 238 i38)]) (nx := 79) (r1 := 309) (r2 := 18) (r3 := 0) rfl rfl rfl (of_decide_eq_true rfl) rfl rfl (of_decide_eq_true rfl) (of_decide_eq_true rfl) ?_
            refine wi_iload_n (i := 0) (e := x20) (nx := 1) (r1 := 0) (r2 := 0) (r3 := 0) rfl rfl ?_
            refine wi_iload_n (i := 1) (e := h 238 i38) (nx := 2) (r1 := 0) (r2 := 0) (r3 := 0) rfl rfl ?_
            refine wi_icmp (cd := .ge) (nx := 5) (r1 := 9) (r2 := 0) (r3 := 0) rfl (by omega) (by omega) (fun (q40 : (h 238 i38) ≤ x20) => ?_) (fun (q40 : ¬ ((h 238 i38) ≤ x20)) => ?_)
            ·
              refine wi_iload_n (i := 1) (e := h 238 i38) (nx := 10) (r1 := 0) (r2 := 0) (r3 := 0) rfl rfl ?_
              refine wi_ireturn (nx := 11) (r1 := 0) (r2 := 0) (r3 := 0) rfl rfl ?_
              refine wk_i ?_
              refine wi_istore (i := 5) (e := h 238 i38) (lo2 := [(5, vi (h 238 i38)), (0, .ref 236), (1, vi a0), (2, vi a1), (3, vi a2), (4, vi e14), (6, vi x16), (7, vi x21)]) (nx := 81) (r1 := 0) (r2 := 0) (r3 := 0) rfl rfl ?_
              refine wr_iinc (i := 7) (n := 1) (v := x21) (fun e41 => [(7, vi e41), (5, vi (h 238 i38)), (0, .ref 236), (1, vi a0), (2, vi a1), (3, vi a2), (4, vi e14), (6, vi x16)]) (nx := 84) (r1 := 0) (r2 := 0) (r3 := 0) rfl rfl (fun _ => rfl) (fun e41 (fe41 : e41 = x21 + 1) => ?_)
              refine wi_goto (nx := 87) (r1 := 24) (r2 := 0) (r3 := 0) rfl ?_
              refine wp.lo (lo := [(0, .ref 236), (1, vi a0), (2, vi a1), (3, vi a2), (4, vi e14), (5, vi (h 238 i38)), (6, vi x16), (7, vi e41)]) ⟨rfl, rfl, rfl, rfl, rfl, rfl, rfl, rfl, trivial⟩ rfl ?_
              have q43 : h 238 = h 238 := funext (fun i => rfl)
              have a42 : jb (h 238) (x16).toNat a0 (x21).toNat := by rw [← q43]; rcases y30_0 with ⟨_, e⟩ | ⟨e, _⟩; exact e; omega
              have q45 : h 238 = h 238 := funext (fun i => rfl)
              have q46 : h 249 = h 249 := funext (fun i => rfl)
              have a44 : z34 = fb (h 238) (h 249) (x16).toNat a1 (x21).toNat := by rw [← q45, ← q46]; exact y33_0
              exact I22 (h 238 i38) e41 h ⟨rfl, (show (0 ≤ (h 238 i38) ∧ (h 238 i38) ≤ 5) ∧ (0 ≤ e41 ∧ e41 ≤ 12) by omega), (LC.add (s0 := (x16).toNat) (j0 := (x21).toNat) X22_0 (fun s j hp => by rcases hp with hp | ⟨h1, h2, h3⟩; exact Or.inl hp; exact Or.inr ⟨h1, by omega, h3⟩) (Or.inr ⟨by omega, by omega, by omega⟩) (fun s j hp => by
                  rcases hp with hp | ⟨h1, h2, h3⟩
                  · exact Or.inl (Or.inl hp)
                  · by_cases e0 : (j : Int) = x21
                    · exact Or.inr ⟨by omega, by omega⟩
                    · exact Or.inl (Or.inr ⟨h1, by omega, h3⟩))
                  ⟨by rw [show (x16).toNat = i27 by omega]; all_goals omega, a42, by rw [← a44]; all_goals omega⟩ (by unfold jc; rw [show 31 + (h 238 73).toNat + (x21).toNat = i38 by omega]; omega))⟩ (show ((12 : Int) + 1 - e41).toNat < ((12 : Int) + 1 - x21).toNat by omega)
            ·
              refine wi_iload_n (i := 0) (e := x20) (nx := 6) (r1 := 0) (r2 := 0) (r3 := 0) rfl rfl ?_
              refine wi_goto (nx := 9) (r1 := 10) (r2 := 0) (r3 := 0) rfl ?_
              refine wi_ireturn (nx := 11) (r1 := 0) (r2 := 0) (r3 := 0) rfl rfl ?_
              refine wk_i ?_
              refine wi_istore (i := 5) (e := x20) (lo2 := [(5, vi x20), (0, .ref 236), (1, vi a0), (2, vi a1), (3, vi a2), (4, vi e14), (6, vi x16), (7, vi x21)]) (nx := 81) (r1 := 0) (r2 := 0) (r3 := 0) rfl rfl ?_
              refine wr_iinc (i := 7) (n := 1) (v := x21) (fun e41 => [(7, vi e41), (5, vi x20), (0, .ref 236), (1, vi a0), (2, vi a1), (3, vi a2), (4, vi e14), (6, vi x16)]) (nx := 84) (r1 := 0) (r2 := 0) (r3 := 0) rfl rfl (fun _ => rfl) (fun e41 (fe41 : e41 = x21 + 1) => ?_)
              refine wi_goto (nx := 87) (r1 := 24) (r2 := 0) (r3 := 0) rfl ?_
              refine wp.lo (lo := [(0, .ref 236), (1, vi a0), (2, vi a1), (3, vi a2), (4, vi e14), (5, vi x20), (6, vi x16), (7, vi e41)]) ⟨rfl, rfl, rfl, rfl, rfl, rfl, rfl, rfl, trivial⟩ rfl ?_
              have q43 : h 238 = h 238 := funext (fun i => rfl)
              have a42 : jb (h 238) (x16).toNat a0 (x21).toNat := by rw [← q43]; rcases y30_0 with ⟨_, e⟩ | ⟨e, _⟩; exact e; omega
              have q45 : h 238 = h 238 := funext (fun i => rfl)
              have q46 : h 249 = h 249 := funext (fun i => rfl)
              have a44 : z34 = fb (h 238) (h 249) (x16).toNat a1 (x21).toNat := by rw [← q45, ← q46]; exact y33_0
              exact I22 x20 e41 h ⟨rfl, (show (0 ≤ x20 ∧ x20 ≤ 5) ∧ (0 ≤ e41 ∧ e41 ≤ 12) by omega), (LC.add (s0 := (x16).toNat) (j0 := (x21).toNat) X22_0 (fun s j hp => by rcases hp with hp | ⟨h1, h2, h3⟩; exact Or.inl hp; exact Or.inr ⟨h1, by omega, h3⟩) (Or.inr ⟨by omega, by omega, by omega⟩) (fun s j hp => by
                  rcases hp with hp | ⟨h1, h2, h3⟩
                  · exact Or.inl (Or.inl hp)
                  · by_cases e0 : (j : Int) = x21
                    · exact Or.inr ⟨by omega, by omega⟩
                    · exact Or.inl (Or.inr ⟨h1, by omega, h3⟩))
                  ⟨by rw [show (x16).toNat = i27 by omega]; all_goals omega, a42, by rw [← a44]; all_goals omega⟩ (by unfold jc; rw [show 31 + (h 238 73).toNat + (x21).toNat = i38 by omega]; omega))⟩ (show ((12 : Int) + 1 - e41).toNat < ((12 : Int) + 1 - x21).toNat by omega)
-- method 324: Model.laysSwap()I
set_option maxRecDepth 100000 in
set_option maxHeartbeats 100000000 in
theorem ct_324_236 {L : Nat} {xs : Nat → Int32} {d b c : Nat} {h : hp} {cr : Nat → Nat → Option Nat} {Q : hp_Q} (hcr : CR cr)  (g : GI h)   (pp0 : h 238 98 + h 238 99 + h 238 100 + h 238 101 + h 238 102 + h 238 106 = h 238 73) (pp1 : h 238 73 ≤ h 238 2) (pp2 : h 238 119 ≤ h 238 67) (pp3 : h 238 69 ≤ h 238 5) (pp4 : h 238 2 ≤ 12 * h 238 5) (k : ∀ (h2 : hp) (z0 : Int) , GI h2 → FR [(249, 249, none), (250, 250, none), (251, 251, none), (252, 252, none)] h h2 → (0 ≤ z0 ∧ z0 ≤ 1000000) → Q (.inl (some (vi z0))) (hp_w h2 cr) b c) : wp (md_xa (L, xs)) (d + 4) 324 (0, [(0, .ref 236)], [], hp_w h cr, b, c) Q := by
  have F0 : FR [(249, 249, none), (250, 250, none), (251, 251, none), (252, 252, none)] h h := FR.refl
  have b1 := gi_b (lo := 0) (hi := 6) g 238 98 rfl
  have b2 := gi_b (lo := 0) (hi := 6) g 238 99 rfl
  have b3 := gi_b (lo := 0) (hi := 6) g 238 100 rfl
  have b4 := gi_b (lo := 0) (hi := 6) g 238 101 rfl
  have b5 := gi_b (lo := 0) (hi := 3) g 238 102 rfl
  have b6 := gi_b (lo := 0) (hi := 12) g 238 106 rfl
  have b7 := gi_b (lo := 0) (hi := 12) g 238 73 rfl
  have b8 := gi_b (lo := 0) (hi := 12) g 238 2 rfl
  have b9 := gi_b (lo := 0) (hi := 9999) g 238 119 rfl
  have b10 := gi_b (lo := 0) (hi := 9999) g 238 67 rfl
  have b11 := gi_b (lo := 0) (hi := 9) g 238 69 rfl
  have b12 := gi_b (lo := 0) (hi := 9) g 238 5 rfl
  refine wi_aload_n (i := 0) (x := 236) (nx := 1) (r1 := 0) (r2 := 0) (r3 := 0) rfl rfl ?_
  refine wr_V (k0 := 236) (rest := []) (as := [.ref 236]) (nx := 4) (r1 := 325) (r2 := 0) (r3 := 11) rfl rfl rfl (of_decide_eq_true rfl) rfl rfl (by decide) rfl rfl (of_decide_eq_true rfl) (of_decide_eq_true rfl) ?_
  refine ct_325_236 hcr  g   (show (h 238 98) + (h 238 99) + (h 238 100) + (h 238 101) + (h 238 102) + (h 238 106) = (h 238 73) by omega) (show (h 238 73) ≤ (h 238 2) by omega) (show (h 238 119) ≤ (h 238 67) by omega) (show (h 238 69) ≤ (h 238 5) by omega) (show (h 238 2) ≤ 12 * (h 238 5) by omega) (fun h13 g13 u13 y13_0 => ?_)
  have F14 := F0.then (by decide +kernel) u13
  refine wk_n ?_
  refine wi_aload_n (i := 0) (x := 236) (nx := 5) (r1 := 0) (r2 := 0) (r3 := 0) rfl rfl ?_
  refine wr_gr (k0 := 236) (x := 249) (nx := 8) (r1 := 11) (r2 := 33) (r3 := 0) rfl rfl (by decide) rfl ⟨rfl, rfl⟩ rfl ?_
  refine wi_iconst (n := 5) (nx := 9) (r1 := 0) (r2 := 0) (r3 := 0) rfl ?_
  have b15 := gi_b (lo := 0) (hi := 1000000) g13 249 5 rfl
  refine wr_ia (k0 := 249) (a := 5) (f := 5) (x := h13 249 5) (nx := 10) (r1 := 0) (r2 := 0) (r3 := 0) rfl (by decide) rfl (by omega) (by omega) (by decide) rfl ?_
  refine wi_istore_n (i := 1) (e := h13 249 5) (lo2 := [(1, vi (h13 249 5)), (0, .ref 236)]) (nx := 11) (r1 := 0) (r2 := 0) (r3 := 0) rfl rfl ?_
  refine wi_iconst (n := 5) (nx := 12) (r1 := 0) (r2 := 0) (r3 := 0) rfl ?_
  refine wi_istore_n (i := 2) (e := 5) (lo2 := [(2, vi 5), (1, vi (h13 249 5)), (0, .ref 236)]) (nx := 13) (r1 := 0) (r2 := 0) (r3 := 0) rfl rfl ?_
  refine wi_iconst (n := 0) (nx := 14) (r1 := 0) (r2 := 0) (r3 := 0) rfl ?_
  refine wi_istore_n (i := 3) (e := 0) (lo2 := [(3, vi 0), (2, vi 5), (1, vi (h13 249 5)), (0, .ref 236)]) (nx := 15) (r1 := 0) (r2 := 0) (r3 := 0) rfl rfl ?_
  refine wp.lo (lo := [(0, .ref 236), (1, vi (h13 249 5)), (2, vi 5), (3, vi 0)]) ⟨rfl, rfl, rfl, rfl, trivial⟩ rfl ?_
  refine wl_1 (fun x16 h17 => GI h17 ∧ FR [(249, 249, none), (250, 250, none), (251, 251, none), (252, 252, none)] h h17 ∧ FR [(250, 250, none)] h13 h17 ∧ ((0 ≤ x16 ∧ x16 ≤ 4096)) ∧ ((0 : Int) < x16 → h17 250 0 = 1) ∧ (∀ k : Nat, (k : Int) < x16 → h17 250 k = 1 → k = 0)) (fun x16 h17 => ((4096 : Int) + 1 - x16).toNat) (fun x16 h17 => (15, [(0, .ref 236), (1, vi (h13 249 5)), (2, vi 5), (3, vi x16)], [], hp_w h17 cr, b, c)) ?_ 0 h13 ⟨g13, F14, FR.refl, (show (0 ≤ 0 ∧ 0 ≤ 4096) by omega), (fun e => absurd e (by omega)), (fun k e => absurd e (by omega))⟩
  intro x16 h17 ⟨g17, F18, u17, f17, X17_0, X17_1⟩ I17
  refine wi_iload_n (i := 3) (e := x16) (nx := 16) (r1 := 0) (r2 := 0) (r3 := 0) rfl rfl ?_
  refine wi_sipush (n := 4096) (nx := 19) (r1 := 0) (r2 := 0) (r3 := 0) rfl (by decide) ?_
  refine wi_icmp (cd := .ge) (nx := 22) (r1 := 43) (r2 := 0) (r3 := 0) rfl (by omega) (by omega) (fun (q19 : 4096 ≤ x16) => ?_) (fun (q19 : ¬ (4096 ≤ x16)) => ?_)
  ·
    refine wi_iload_n (i := 1) (e := h13 249 5) (nx := 44) (r1 := 0) (r2 := 0) (r3 := 0) rfl rfl ?_
    refine wi_istore_n (i := 3) (e := h13 249 5) (lo2 := [(3, vi (h13 249 5)), (0, .ref 236), (1, vi (h13 249 5)), (2, vi 5)]) (nx := 45) (r1 := 0) (r2 := 0) (r3 := 0) rfl rfl ?_
    refine wi_iconst (n := 0) (nx := 46) (r1 := 0) (r2 := 0) (r3 := 0) rfl ?_
    refine wi_istore (i := 4) (e := 0) (lo2 := [(4, vi 0), (3, vi (h13 249 5)), (0, .ref 236), (1, vi (h13 249 5)), (2, vi 5)]) (nx := 48) (r1 := 0) (r2 := 0) (r3 := 0) rfl rfl ?_
    have q24 : h17 238 = h13 238 := funext (fun i => (u17 238 i (fo_no_ok (by decide) i)))
    have q25 : h17 249 = h13 249 := funext (fun i => (u17 249 i (fo_no_ok (by decide) i)))
    have e26 : h17 238 73 = h 238 73 := ((u17 238 73 rfl).trans (u13 238 73 rfl))
    have e27 : h17 238 2 = h 238 2 := ((u17 238 2 rfl).trans (u13 238 2 rfl))
    have e28 : h17 249 5 = h13 249 5 := (u17 249 5 rfl)
    have rc29 := gi_RC g17 (by omega)
    have rc29w := rc29.w
    have ft30 : FTA (h17 238) (h17 249) := by rw [q24, q25]; exact y13_0
    have ft300 := (ft30 0 (pow_le rc29w.1).2 5 (by decide)).2 0 (by omega) rfl
    have q31 : h17 238 = h13 238 := funext (fun i => (u17 238 i (fo_no_ok (by decide) i)))
    have q32 : h17 249 = h13 249 := funext (fun i => (u17 249 i (fo_no_ok (by decide) i)))
    refine wp.lo (lo := [(0, .ref 236), (1, vi (h13 249 5)), (2, vi 5), (3, vi (h13 249 5)), (4, vi 0)]) ⟨rfl, rfl, rfl, rfl, rfl, trivial⟩ rfl ?_
    refine wl_3 (fun x20 x21 x22 h23 => GI h23 ∧ FR [(249, 249, none), (250, 250, none), (251, 251, none), (252, 252, none)] h h23 ∧ FR [(250, 250, none), (251, 251, none), (252, 252, none)] h17 h23 ∧ ((0 ≤ x20 ∧ x20 ≤ 5) ∧ (-12 ≤ x21 ∧ x21 ≤ 1000000) ∧ (0 ≤ x22 ∧ x22 ≤ 12) ∧ (0 ≤ x21 + x22)) ∧ (EX (h23 238) (h23 249) (h23 250) x22 x20 x21) ∧ (FTA (h23 238) (h23 249))) (fun x20 x21 x22 h23 => ((12 : Int) + 1 - x22).toNat) (fun x20 x21 x22 h23 => (48, [(0, .ref 236), (1, vi (h13 249 5)), (2, vi x20), (3, vi x21), (4, vi x22)], [], hp_w h23 cr, b, c)) ?_ 5 (h13 249 5) 0 h17 ⟨g17, F18, FR.refl, (show (0 ≤ 5 ∧ 5 ≤ 5) ∧ (-12 ≤ (h13 249 5) ∧ (h13 249 5) ≤ 1000000) ∧ (0 ≤ 0 ∧ 0 ≤ 12) ∧ (0 ≤ (h13 249 5) + 0) by omega), ⟨⟨0, (pow_le rc29w.1).2, X17_0 (by omega), (show h17 249 5 = (h13 249 5) by omega), (by have e0 : h17 249 5 ≤ ((wn (h17 238) - 0 : Nat) : Int) := ft300; omega)⟩, fun s hs e => by
        have h1 := (pow_le rc29w.1).1
        rw [X17_1 s (by omega) e]
        rfl⟩, (by rw [q31, q32]; exact y13_0)⟩
    intro x20 x21 x22 h23 ⟨g23, F33, u23, f23, X23_0, X23_1⟩ I23
    refine wi_iload (i := 4) (e := x22) (nx := 50) (r1 := 0) (r2 := 0) (r3 := 0) rfl rfl ?_
    refine wi_aload_n (i := 0) (x := 236) (nx := 51) (r1 := 0) (r2 := 0) (r3 := 0) rfl rfl ?_
    refine wr_V (k0 := 236) (rest := [vi x22]) (as := [.ref 236]) (nx := 54) (r1 := 321) (r2 := 0) (r3 := 11) rfl rfl rfl (of_decide_eq_true rfl) rfl rfl (by decide) rfl rfl (of_decide_eq_true rfl) (of_decide_eq_true rfl) ?_
    refine wi_aload_n (i := 0) (x := 236) (nx := 1) (r1 := 0) (r2 := 0) (r3 := 0) rfl rfl ?_
    refine wr_gr (k0 := 236) (x := 238) (nx := 4) (r1 := 11) (r2 := 13) (r3 := 0) rfl rfl (by decide) rfl ⟨rfl, rfl⟩ rfl ?_
    refine wi_iconst (n := 2) (nx := 5) (r1 := 0) (r2 := 0) (r3 := 0) rfl ?_
    refine wr_ia (k0 := 238) (a := 2) (f := 2) (x := h 238 2) (nx := 6) (r1 := 0) (r2 := 0) (r3 := 0) rfl (by decide) rfl (by omega) (by omega) (by decide) ((u23 238 2 rfl).trans ((u17 238 2 rfl).trans (u13 238 2 rfl))) ?_
    refine wi_aload_n (i := 0) (x := 236) (nx := 7) (r1 := 0) (r2 := 0) (r3 := 0) rfl rfl ?_
    refine wr_gr (k0 := 236) (x := 238) (nx := 10) (r1 := 11) (r2 := 13) (r3 := 0) rfl rfl (by decide) rfl ⟨rfl, rfl⟩ rfl ?_
    refine wi_bipush (n := 73) (nx := 12) (r1 := 0) (r2 := 0) (r3 := 0) rfl (by decide) ?_
    refine wr_ia (k0 := 238) (a := 73) (f := 73) (x := h 238 73) (nx := 13) (r1 := 0) (r2 := 0) (r3 := 0) rfl (by decide) rfl (by omega) (by omega) (by decide) ((u23 238 73 rfl).trans ((u17 238 73 rfl).trans (u13 238 73 rfl))) ?_
    refine wr_sub (nx := 14) (r1 := 0) (r2 := 0) (r3 := 0) rfl (fun e34 (fe34 : e34 = (h 238 2) - (h 238 73)) => ?_)
    refine wi_ireturn (nx := 15) (r1 := 0) (r2 := 0) (r3 := 0) rfl rfl ?_
    refine wk_i ?_
    refine wi_icmp (cd := .ge) (nx := 57) (r1 := 101) (r2 := 0) (r3 := 0) rfl (by omega) (by omega) (fun (q35 : e34 ≤ x22) => ?_) (fun (q35 : ¬ (e34 ≤ x22)) => ?_)
    ·
      refine wi_iload_n (i := 1) (e := h13 249 5) (nx := 102) (r1 := 0) (r2 := 0) (r3 := 0) rfl rfl ?_
      refine wi_ireturn (nx := 103) (r1 := 0) (r2 := 0) (r3 := 0) rfl rfl ?_
      exact k h23 (h13 249 5) g23 F33 (by omega)
    ·
      refine wi_aload_n (i := 0) (x := 236) (nx := 58) (r1 := 0) (r2 := 0) (r3 := 0) rfl rfl ?_
      refine wr_gr (k0 := 236) (x := 252) (nx := 61) (r1 := 11) (r2 := 36) (r3 := 0) rfl rfl (by decide) rfl ⟨rfl, rfl⟩ rfl ?_
      refine wi_iload (i := 4) (e := x22) (nx := 63) (r1 := 0) (r2 := 0) (r3 := 0) rfl rfl ?_
      refine wi_aload_n (i := 0) (x := 236) (nx := 64) (r1 := 0) (r2 := 0) (r3 := 0) rfl rfl ?_
      refine wi_iload (i := 4) (e := x22) (nx := 66) (r1 := 0) (r2 := 0) (r3 := 0) rfl rfl ?_
      refine wi_iload_n (i := 2) (e := x20) (nx := 67) (r1 := 0) (r2 := 0) (r3 := 0) rfl rfl ?_
      refine wi_iload_n (i := 3) (e := x21) (nx := 68) (r1 := 0) (r2 := 0) (r3 := 0) rfl rfl ?_
      refine wr_V (k0 := 236) (rest := [vi x22, .ref 252]) (as := [.ref 236, vi x22, vi x20, vi x21]) (nx := 71) (r1 := 330) (r2 := 3) (r3 := 11) rfl rfl rfl (of_decide_eq_true rfl) rfl rfl (by decide) rfl rfl (of_decide_eq_true rfl) (of_decide_eq_true rfl) ?_
      have e37 : h23 238 98 = h 238 98 := ((u23 238 98 rfl).trans ((u17 238 98 rfl).trans (u13 238 98 rfl)))
      have e38 : h23 238 99 = h 238 99 := ((u23 238 99 rfl).trans ((u17 238 99 rfl).trans (u13 238 99 rfl)))
      have e39 : h23 238 100 = h 238 100 := ((u23 238 100 rfl).trans ((u17 238 100 rfl).trans (u13 238 100 rfl)))
      have e40 : h23 238 101 = h 238 101 := ((u23 238 101 rfl).trans ((u17 238 101 rfl).trans (u13 238 101 rfl)))
      have e41 : h23 238 102 = h 238 102 := ((u23 238 102 rfl).trans ((u17 238 102 rfl).trans (u13 238 102 rfl)))
      have e42 : h23 238 106 = h 238 106 := ((u23 238 106 rfl).trans ((u17 238 106 rfl).trans (u13 238 106 rfl)))
      have e43 : h23 238 73 = h 238 73 := ((u23 238 73 rfl).trans ((u17 238 73 rfl).trans (u13 238 73 rfl)))
      have e44 : h23 238 2 = h 238 2 := ((u23 238 2 rfl).trans ((u17 238 2 rfl).trans (u13 238 2 rfl)))
      have e45 : h23 238 119 = h 238 119 := ((u23 238 119 rfl).trans ((u17 238 119 rfl).trans (u13 238 119 rfl)))
      have e46 : h23 238 67 = h 238 67 := ((u23 238 67 rfl).trans ((u17 238 67 rfl).trans (u13 238 67 rfl)))
      have e47 : h23 238 69 = h 238 69 := ((u23 238 69 rfl).trans ((u17 238 69 rfl).trans (u13 238 69 rfl)))
      have e48 : h23 238 5 = h 238 5 := ((u23 238 5 rfl).trans ((u17 238 5 rfl).trans (u13 238 5 rfl)))
      refine ct_330_236 hcr  g23 x22 x20 x21 (by omega) (by omega) (by omega) (show (h23 238 98) + (h23 238 99) + (h23 238 100) + (h23 238 101) + (h23 238 102) + (h23 238 106) = (h23 238 73) by omega) (show (h23 238 73) ≤ (h23 238 2) by omega) (show (h23 238 119) ≤ (h23 238 67) by omega) (show (h23 238 69) ≤ (h23 238 5) by omega) (show (h23 238 2) ≤ 12 * (h23 238 5) by omega) (show x22 + (h23 238 73) < (h23 238 2) by omega) X23_0 X23_1 (fun h36 z49 g36 u36 (fz49 : 0 ≤ z49 ∧ z49 ≤ 4) (p36_0 : z49 ≤ 4) y36_0 => ?_)
      have F50 := F33.then (by decide +kernel) u36
      have F51 := u23.then (by decide +kernel) u36
      refine wk_i ?_
      obtain ⟨i52, ei52⟩ : ∃ q : Nat, x22 = (q : Int) := ⟨(x22).toNat, by omega⟩
      refine wr_is (k0 := 252) (a := x22) (f := i52) (x := z49) (bl := 0) (bh := 4) (nx := 72) (r1 := 0) (r2 := 0) (r3 := 0) rfl (by decide) rfl (by omega) (by omega) (by decide) g36 rfl (by omega) (fun h53 g53 w53 u53 => ?_)
      have F54 := F50.then rfl (FR.rngp (lo := 252) (hi := 252) u53 (by decide))
      have F55 := F51.then rfl (FR.rngp (lo := 252) (hi := 252) u53 (by decide))
      refine wi_iload_n (i := 3) (e := x21) (nx := 73) (r1 := 0) (r2 := 0) (r3 := 0) rfl rfl ?_
      refine wi_aload_n (i := 0) (x := 236) (nx := 74) (r1 := 0) (r2 := 0) (r3 := 0) rfl rfl ?_
      refine wi_iload_n (i := 2) (e := x20) (nx := 75) (r1 := 0) (r2 := 0) (r3 := 0) rfl rfl ?_
      refine wi_aload_n (i := 0) (x := 236) (nx := 76) (r1 := 0) (r2 := 0) (r3 := 0) rfl rfl ?_
      refine wr_gr (k0 := 236) (x := 252) (nx := 79) (r1 := 11) (r2 := 36) (r3 := 0) rfl rfl (by decide) rfl ⟨rfl, rfl⟩ rfl ?_
      refine wi_iload (i := 4) (e := x22) (nx := 81) (r1 := 0) (r2 := 0) (r3 := 0) rfl rfl ?_
      refine wr_ia (k0 := 252) (a := x22) (f := i52) (x := z49) (nx := 82) (r1 := 0) (r2 := 0) (r3 := 0) rfl (by decide) rfl (by omega) (by omega) (by decide) w53 ?_
      refine wr_V (k0 := 236) (rest := [vi x21]) (as := [.ref 236, vi x20, vi z49]) (nx := 85) (r1 := 329) (r2 := 2) (r3 := 11) rfl rfl rfl (of_decide_eq_true rfl) rfl rfl (by decide) rfl rfl (of_decide_eq_true rfl) (of_decide_eq_true rfl) ?_
      refine wi_iload_n (i := 1) (e := x20) (nx := 1) (r1 := 0) (r2 := 0) (r3 := 0) rfl rfl ?_
      refine wi_iconst (n := 5) (nx := 2) (r1 := 0) (r2 := 0) (r3 := 0) rfl ?_
      refine wi_icmp (cd := .eq) (nx := 5) (r1 := 14) (r2 := 0) (r3 := 0) rfl (by omega) (by omega) (fun (q56 : x20 = 5) => ?_) (fun (q56 : ¬ (x20 = 5)) => ?_)
      ·
        refine wi_iconst (n := 0) (nx := 15) (r1 := 0) (r2 := 0) (r3 := 0) rfl ?_
        refine wi_S (rest := []) (as := [vi 0]) (nx := 18) (r1 := 207) (r2 := 17) (r3 := 0) rfl rfl rfl (of_decide_eq_true rfl) rfl rfl (of_decide_eq_true rfl) (of_decide_eq_true rfl) ?_
        refine wi_iload_n (i := 0) (e := 0) (nx := 1) (r1 := 0) (r2 := 0) (r3 := 0) rfl rfl ?_
        refine wi_if (cd := .eq) (nx := 4) (r1 := 8) (r2 := 0) (r3 := 0) rfl (by omega) (fun (q57 : 0 = 0) => ?_) (fun (q57 : ¬ (0 = 0)) => by exfalso; omega)
        refine wi_iconst (n := 0) (nx := 9) (r1 := 0) (r2 := 0) (r3 := 0) rfl ?_
        refine wi_ireturn (nx := 10) (r1 := 0) (r2 := 0) (r3 := 0) rfl rfl ?_
        refine wk_i ?_
        refine wi_ireturn (nx := 19) (r1 := 0) (r2 := 0) (r3 := 0) rfl rfl ?_
        refine wk_i ?_
        refine wr_sub (nx := 86) (r1 := 0) (r2 := 0) (r3 := 0) rfl (fun e58 (fe58 : e58 = x21 - 0) => ?_)
        refine wi_istore_n (i := 3) (e := e58) (lo2 := [(3, vi e58), (0, .ref 236), (1, vi (h13 249 5)), (2, vi x20), (4, vi x22)]) (nx := 87) (r1 := 0) (r2 := 0) (r3 := 0) rfl rfl ?_
        refine wi_aload_n (i := 0) (x := 236) (nx := 88) (r1 := 0) (r2 := 0) (r3 := 0) rfl rfl ?_
        refine wr_gr (k0 := 236) (x := 252) (nx := 91) (r1 := 11) (r2 := 36) (r3 := 0) rfl rfl (by decide) rfl ⟨rfl, rfl⟩ rfl ?_
        refine wi_iload (i := 4) (e := x22) (nx := 93) (r1 := 0) (r2 := 0) (r3 := 0) rfl rfl ?_
        refine wr_ia (k0 := 252) (a := x22) (f := i52) (x := z49) (nx := 94) (r1 := 0) (r2 := 0) (r3 := 0) rfl (by decide) rfl (by omega) (by omega) (by decide) w53 ?_
        refine wi_istore_n (i := 2) (e := z49) (lo2 := [(2, vi z49), (3, vi e58), (0, .ref 236), (1, vi (h13 249 5)), (4, vi x22)]) (nx := 95) (r1 := 0) (r2 := 0) (r3 := 0) rfl rfl ?_
        refine wr_iinc (i := 4) (n := 1) (v := x22) (fun e59 => [(4, vi e59), (2, vi z49), (3, vi e58), (0, .ref 236), (1, vi (h13 249 5))]) (nx := 98) (r1 := 0) (r2 := 0) (r3 := 0) rfl rfl (fun _ => rfl) (fun e59 (fe59 : e59 = x22 + 1) => ?_)
        refine wi_goto (nx := 101) (r1 := 48) (r2 := 0) (r3 := 0) rfl ?_
        refine wp.lo (lo := [(0, .ref 236), (1, vi (h13 249 5)), (2, vi z49), (3, vi e58), (4, vi e59)]) ⟨rfl, rfl, rfl, rfl, rfl, trivial⟩ rfl ?_
        have q60 : h53 238 = h36 238 := funext (fun i => (u53 238 i (fn_a (by omega) fn_0)))
        have q61 : h53 249 = h36 249 := funext (fun i => (u53 249 i (fn_a (by omega) fn_0)))
        have q62 : h53 250 = h36 250 := funext (fun i => (u53 250 i (fn_a (by omega) fn_0)))
        have y63 := y36_0
        have q64 : h53 238 = h23 238 := funext (fun i => ((u53 238 i (fn_a (by omega) fn_0)).trans (u36 238 i (fo_no_ok (by decide) i))))
        have q65 : h53 249 = h23 249 := funext (fun i => ((u53 249 i (fn_a (by omega) fn_0)).trans (u36 249 i (fo_no_ok (by decide) i))))
        exact I23 z49 e58 e59 h53 ⟨g53, F54, F55, (show (0 ≤ z49 ∧ z49 ≤ 5) ∧ (-12 ≤ e58 ∧ e58 ≤ 1000000) ∧ (0 ≤ e59 ∧ e59 ≤ 12) ∧ (0 ≤ e58 + e59) by omega), (by
            rw [q60, q61, q62, show e59 = x22 + 1 by omega, show e58 = x21 - (if x20 ≠ 5 ∧ x20 ≠ z49 then 1 else 0) by split <;> omega]
            exact y63), (by rw [q64, q65]; exact X23_1)⟩ (show ((12 : Int) + 1 - e59).toNat < ((12 : Int) + 1 - x22).toNat by omega)
      ·
        refine wi_iload_n (i := 1) (e := x20) (nx := 6) (r1 := 0) (r2 := 0) (r3 := 0) rfl rfl ?_
        refine wi_iload_n (i := 2) (e := z49) (nx := 7) (r1 := 0) (r2 := 0) (r3 := 0) rfl rfl ?_
        refine wi_icmp (cd := .eq) (nx := 10) (r1 := 14) (r2 := 0) (r3 := 0) rfl (by omega) (by omega) (fun (q57 : x20 = z49) => ?_) (fun (q57 : ¬ (x20 = z49)) => ?_)
        ·
          refine wi_iconst (n := 0) (nx := 15) (r1 := 0) (r2 := 0) (r3 := 0) rfl ?_
          refine wi_S (rest := []) (as := [vi 0]) (nx := 18) (r1 := 207) (r2 := 17) (r3 := 0) rfl rfl rfl (of_decide_eq_true rfl) rfl rfl (of_decide_eq_true rfl) (of_decide_eq_true rfl) ?_
          refine wi_iload_n (i := 0) (e := 0) (nx := 1) (r1 := 0) (r2 := 0) (r3 := 0) rfl rfl ?_
          refine wi_if (cd := .eq) (nx := 4) (r1 := 8) (r2 := 0) (r3 := 0) rfl (by omega) (fun (q58 : 0 = 0) => ?_) (fun (q58 : ¬ (0 = 0)) => by exfalso; omega)
          refine wi_iconst (n := 0) (nx := 9) (r1 := 0) (r2 := 0) (r3 := 0) rfl ?_
          refine wi_ireturn (nx := 10) (r1 := 0) (r2 := 0) (r3 := 0) rfl rfl ?_
          refine wk_i ?_
          refine wi_ireturn (nx := 19) (r1 := 0) (r2 := 0) (r3 := 0) rfl rfl ?_
          refine wk_i ?_
          refine wr_sub (nx := 86) (r1 := 0) (r2 := 0) (r3 := 0) rfl (fun e59 (fe59 : e59 = x21 - 0) => ?_)
          refine wi_istore_n (i := 3) (e := e59) (lo2 := [(3, vi e59), (0, .ref 236), (1, vi (h13 249 5)), (2, vi x20), (4, vi x22)]) (nx := 87) (r1 := 0) (r2 := 0) (r3 := 0) rfl rfl ?_
          refine wi_aload_n (i := 0) (x := 236) (nx := 88) (r1 := 0) (r2 := 0) (r3 := 0) rfl rfl ?_
          refine wr_gr (k0 := 236) (x := 252) (nx := 91) (r1 := 11) (r2 := 36) (r3 := 0) rfl rfl (by decide) rfl ⟨rfl, rfl⟩ rfl ?_
          refine wi_iload (i := 4) (e := x22) (nx := 93) (r1 := 0) (r2 := 0) (r3 := 0) rfl rfl ?_
          refine wr_ia (k0 := 252) (a := x22) (f := i52) (x := z49) (nx := 94) (r1 := 0) (r2 := 0) (r3 := 0) rfl (by decide) rfl (by omega) (by omega) (by decide) w53 ?_
          refine wi_istore_n (i := 2) (e := z49) (lo2 := [(2, vi z49), (3, vi e59), (0, .ref 236), (1, vi (h13 249 5)), (4, vi x22)]) (nx := 95) (r1 := 0) (r2 := 0) (r3 := 0) rfl rfl ?_
          refine wr_iinc (i := 4) (n := 1) (v := x22) (fun e60 => [(4, vi e60), (2, vi z49), (3, vi e59), (0, .ref 236), (1, vi (h13 249 5))]) (nx := 98) (r1 := 0) (r2 := 0) (r3 := 0) rfl rfl (fun _ => rfl) (fun e60 (fe60 : e60 = x22 + 1) => ?_)
          refine wi_goto (nx := 101) (r1 := 48) (r2 := 0) (r3 := 0) rfl ?_
          refine wp.lo (lo := [(0, .ref 236), (1, vi (h13 249 5)), (2, vi z49), (3, vi e59), (4, vi e60)]) ⟨rfl, rfl, rfl, rfl, rfl, trivial⟩ rfl ?_
          have q61 : h53 238 = h36 238 := funext (fun i => (u53 238 i (fn_a (by omega) fn_0)))
          have q62 : h53 249 = h36 249 := funext (fun i => (u53 249 i (fn_a (by omega) fn_0)))
          have q63 : h53 250 = h36 250 := funext (fun i => (u53 250 i (fn_a (by omega) fn_0)))
          have y64 := y36_0
          have q65 : h53 238 = h23 238 := funext (fun i => ((u53 238 i (fn_a (by omega) fn_0)).trans (u36 238 i (fo_no_ok (by decide) i))))
          have q66 : h53 249 = h23 249 := funext (fun i => ((u53 249 i (fn_a (by omega) fn_0)).trans (u36 249 i (fo_no_ok (by decide) i))))
          exact I23 z49 e59 e60 h53 ⟨g53, F54, F55, (show (0 ≤ z49 ∧ z49 ≤ 5) ∧ (-12 ≤ e59 ∧ e59 ≤ 1000000) ∧ (0 ≤ e60 ∧ e60 ≤ 12) ∧ (0 ≤ e59 + e60) by omega), (by
              rw [q61, q62, q63, show e60 = x22 + 1 by omega, show e59 = x21 - (if x20 ≠ 5 ∧ x20 ≠ z49 then 1 else 0) by split <;> omega]
              exact y64), (by rw [q65, q66]; exact X23_1)⟩ (show ((12 : Int) + 1 - e60).toNat < ((12 : Int) + 1 - x22).toNat by omega)
        ·
          refine wi_iconst (n := 1) (nx := 11) (r1 := 0) (r2 := 0) (r3 := 0) rfl ?_
          refine wi_goto (nx := 14) (r1 := 15) (r2 := 0) (r3 := 0) rfl ?_
          refine wi_S (rest := []) (as := [vi 1]) (nx := 18) (r1 := 207) (r2 := 17) (r3 := 0) rfl rfl rfl (of_decide_eq_true rfl) rfl rfl (of_decide_eq_true rfl) (of_decide_eq_true rfl) ?_
          refine wi_iload_n (i := 0) (e := 1) (nx := 1) (r1 := 0) (r2 := 0) (r3 := 0) rfl rfl ?_
          refine wi_if (cd := .eq) (nx := 4) (r1 := 8) (r2 := 0) (r3 := 0) rfl (by omega) (fun (q58 : 1 = 0) => by exfalso; omega) (fun (q58 : ¬ (1 = 0)) => ?_)
          refine wi_iconst (n := 1) (nx := 5) (r1 := 0) (r2 := 0) (r3 := 0) rfl ?_
          refine wi_goto (nx := 8) (r1 := 9) (r2 := 0) (r3 := 0) rfl ?_
          refine wi_ireturn (nx := 10) (r1 := 0) (r2 := 0) (r3 := 0) rfl rfl ?_
          refine wk_i ?_
          refine wi_ireturn (nx := 19) (r1 := 0) (r2 := 0) (r3 := 0) rfl rfl ?_
          refine wk_i ?_
          refine wr_sub (nx := 86) (r1 := 0) (r2 := 0) (r3 := 0) rfl (fun e59 (fe59 : e59 = x21 - 1) => ?_)
          refine wi_istore_n (i := 3) (e := e59) (lo2 := [(3, vi e59), (0, .ref 236), (1, vi (h13 249 5)), (2, vi x20), (4, vi x22)]) (nx := 87) (r1 := 0) (r2 := 0) (r3 := 0) rfl rfl ?_
          refine wi_aload_n (i := 0) (x := 236) (nx := 88) (r1 := 0) (r2 := 0) (r3 := 0) rfl rfl ?_
          refine wr_gr (k0 := 236) (x := 252) (nx := 91) (r1 := 11) (r2 := 36) (r3 := 0) rfl rfl (by decide) rfl ⟨rfl, rfl⟩ rfl ?_
          refine wi_iload (i := 4) (e := x22) (nx := 93) (r1 := 0) (r2 := 0) (r3 := 0) rfl rfl ?_
          refine wr_ia (k0 := 252) (a := x22) (f := i52) (x := z49) (nx := 94) (r1 := 0) (r2 := 0) (r3 := 0) rfl (by decide) rfl (by omega) (by omega) (by decide) w53 ?_
          refine wi_istore_n (i := 2) (e := z49) (lo2 := [(2, vi z49), (3, vi e59), (0, .ref 236), (1, vi (h13 249 5)), (4, vi x22)]) (nx := 95) (r1 := 0) (r2 := 0) (r3 := 0) rfl rfl ?_
          refine wr_iinc (i := 4) (n := 1) (v := x22) (fun e60 => [(4, vi e60), (2, vi z49), (3, vi e59), (0, .ref 236), (1, vi (h13 249 5))]) (nx := 98) (r1 := 0) (r2 := 0) (r3 := 0) rfl rfl (fun _ => rfl) (fun e60 (fe60 : e60 = x22 + 1) => ?_)
          refine wi_goto (nx := 101) (r1 := 48) (r2 := 0) (r3 := 0) rfl ?_
          refine wp.lo (lo := [(0, .ref 236), (1, vi (h13 249 5)), (2, vi z49), (3, vi e59), (4, vi e60)]) ⟨rfl, rfl, rfl, rfl, rfl, trivial⟩ rfl ?_
          have q61 : h53 238 = h36 238 := funext (fun i => (u53 238 i (fn_a (by omega) fn_0)))
          have q62 : h53 249 = h36 249 := funext (fun i => (u53 249 i (fn_a (by omega) fn_0)))
          have q63 : h53 250 = h36 250 := funext (fun i => (u53 250 i (fn_a (by omega) fn_0)))
          have y64 := y36_0
          have q65 : h53 238 = h23 238 := funext (fun i => ((u53 238 i (fn_a (by omega) fn_0)).trans (u36 238 i (fo_no_ok (by decide) i))))
          have q66 : h53 249 = h23 249 := funext (fun i => ((u53 249 i (fn_a (by omega) fn_0)).trans (u36 249 i (fo_no_ok (by decide) i))))
          exact I23 z49 e59 e60 h53 ⟨g53, F54, F55, (show (0 ≤ z49 ∧ z49 ≤ 5) ∧ (-12 ≤ e59 ∧ e59 ≤ 1000000) ∧ (0 ≤ e60 ∧ e60 ≤ 12) ∧ (0 ≤ e59 + e60) by omega), (by
              rw [q61, q62, q63, show e60 = x22 + 1 by omega, show e59 = x21 - (if x20 ≠ 5 ∧ x20 ≠ z49 then 1 else 0) by split <;> omega]
              exact y64), (by rw [q65, q66]; exact X23_1)⟩ (show ((12 : Int) + 1 - e60).toNat < ((12 : Int) + 1 - x22).toNat by omega)
  ·
    refine wi_aload_n (i := 0) (x := 236) (nx := 23) (r1 := 0) (r2 := 0) (r3 := 0) rfl rfl ?_
    refine wr_gr (k0 := 236) (x := 250) (nx := 26) (r1 := 11) (r2 := 34) (r3 := 0) rfl rfl (by decide) rfl ⟨rfl, rfl⟩ rfl ?_
    refine wi_iload_n (i := 3) (e := x16) (nx := 27) (r1 := 0) (r2 := 0) (r3 := 0) rfl rfl ?_
    refine wi_iload_n (i := 3) (e := x16) (nx := 28) (r1 := 0) (r2 := 0) (r3 := 0) rfl rfl ?_
    refine wi_if (cd := .ne) (nx := 31) (r1 := 35) (r2 := 0) (r3 := 0) rfl (by omega) (fun (q20 : x16 ≠ 0) => ?_) (fun (q20 : ¬ (x16 ≠ 0)) => ?_)
    ·
      refine wi_iconst (n := 0) (nx := 36) (r1 := 0) (r2 := 0) (r3 := 0) rfl ?_
      obtain ⟨i21, ei21⟩ : ∃ q : Nat, x16 = (q : Int) := ⟨(x16).toNat, by omega⟩
      refine wr_bs (k0 := 250) (a := x16) (f := i21) (x := 0) (bl := 0) (bh := 1) (nx := 37) (r1 := 0) (r2 := 0) (r3 := 0) rfl (by decide) rfl (by omega) (by omega) (by omega) (by decide) g17 rfl (by omega) (fun h22 g22 w22 u22 => ?_)
      have F23 := F18.then rfl (FR.rngp (lo := 250) (hi := 250) u22 (by decide))
      have F24 := u17.then rfl (FR.rngp (lo := 250) (hi := 250) u22 (by decide))
      refine wr_iinc (i := 3) (n := 1) (v := x16) (fun e25 => [(3, vi e25), (0, .ref 236), (1, vi (h13 249 5)), (2, vi 5)]) (nx := 40) (r1 := 0) (r2 := 0) (r3 := 0) rfl rfl (fun _ => rfl) (fun e25 (fe25 : e25 = x16 + 1) => ?_)
      refine wi_goto (nx := 43) (r1 := 15) (r2 := 0) (r3 := 0) rfl ?_
      refine wp.lo (lo := [(0, .ref 236), (1, vi (h13 249 5)), (2, vi 5), (3, vi e25)]) ⟨rfl, rfl, rfl, rfl, trivial⟩ rfl ?_
      exact I17 e25 h22 ⟨g22, F23, F24, (show (0 ≤ e25 ∧ e25 ≤ 4096) by omega), (fun e => by by_cases e1 : 0 = i21; rw [e1]; (first | exact w22 | omega); exact (u22 250 0 (fn_i (by omega) fn_0)).trans (X17_0 (by omega))), (fun k e e2 => by by_cases e1 : k = i21; rw [e1] at e2; omega; exact X17_1 k (by omega) (by rw [← u22 250 k (fn_i (by omega) fn_0)]; exact e2))⟩ (show ((4096 : Int) + 1 - e25).toNat < ((4096 : Int) + 1 - x16).toNat by omega)
    ·
      refine wi_iconst (n := 1) (nx := 32) (r1 := 0) (r2 := 0) (r3 := 0) rfl ?_
      refine wi_goto (nx := 35) (r1 := 36) (r2 := 0) (r3 := 0) rfl ?_
      obtain ⟨i21, ei21⟩ : ∃ q : Nat, x16 = (q : Int) := ⟨(x16).toNat, by omega⟩
      refine wr_bs (k0 := 250) (a := x16) (f := i21) (x := 1) (bl := 0) (bh := 1) (nx := 37) (r1 := 0) (r2 := 0) (r3 := 0) rfl (by decide) rfl (by omega) (by omega) (by omega) (by decide) g17 rfl (by omega) (fun h22 g22 w22 u22 => ?_)
      have F23 := F18.then rfl (FR.rngp (lo := 250) (hi := 250) u22 (by decide))
      have F24 := u17.then rfl (FR.rngp (lo := 250) (hi := 250) u22 (by decide))
      refine wr_iinc (i := 3) (n := 1) (v := x16) (fun e25 => [(3, vi e25), (0, .ref 236), (1, vi (h13 249 5)), (2, vi 5)]) (nx := 40) (r1 := 0) (r2 := 0) (r3 := 0) rfl rfl (fun _ => rfl) (fun e25 (fe25 : e25 = x16 + 1) => ?_)
      refine wi_goto (nx := 43) (r1 := 15) (r2 := 0) (r3 := 0) rfl ?_
      refine wp.lo (lo := [(0, .ref 236), (1, vi (h13 249 5)), (2, vi 5), (3, vi e25)]) ⟨rfl, rfl, rfl, rfl, trivial⟩ rfl ?_
      exact I17 e25 h22 ⟨g22, F23, F24, (show (0 ≤ e25 ∧ e25 ≤ 4096) by omega), (fun e => by by_cases e1 : 0 = i21; rw [e1]; (first | exact w22 | omega); exact (u22 250 0 (fn_i (by omega) fn_0)).trans (X17_0 (by omega))), (fun k e e2 => by by_cases e1 : k = i21; rw [e1] at e2; omega; exact X17_1 k (by omega) (by rw [← u22 250 k (fn_i (by omega) fn_0)]; exact e2))⟩ (show ((4096 : Int) + 1 - e25).toNat < ((4096 : Int) + 1 - x16).toNat by omega)
-- method 333: Model.swaps()I
set_option maxRecDepth 100000 in
set_option maxHeartbeats 100000000 in
theorem ct_333_236 {L : Nat} {xs : Nat → Int32} {d b c : Nat} {h : hp} {cr : Nat → Nat → Option Nat} {Q : hp_Q} (hcr : CR cr)  (g : GI h)   (pp0 : h 238 98 + h 238 99 + h 238 100 + h 238 101 + h 238 102 + h 238 106 = h 238 73) (pp1 : h 238 73 ≤ h 238 2) (pp2 : h 238 119 ≤ h 238 67) (pp3 : h 238 69 ≤ h 238 5) (pp4 : h 238 2 ≤ 12 * h 238 5) (k : ∀ (h2 : hp) (z0 : Int) , GI h2 → FR [(249, 249, none), (250, 250, none), (251, 251, none), (252, 252, none), (238, 238, some (31, 53))] h h2 → (-2147483648 ≤ z0 ∧ z0 ≤ 2147483647) → (h2 238 98 + h2 238 99 + h2 238 100 + h2 238 101 + h2 238 102 + h2 238 106 = h2 238 73) → (h2 238 73 ≤ h2 238 2) → (h2 238 119 ≤ h2 238 67) → (h2 238 69 ≤ h2 238 5) → (h2 238 2 ≤ 12 * h2 238 5) → Q (.inl (some (vi z0))) (hp_w h2 cr) b c) : wp (md_xa (L, xs)) (d + 5) 333 (0, [(0, .ref 236)], [], hp_w h cr, b, c) Q := by
  have F0 : FR [(249, 249, none), (250, 250, none), (251, 251, none), (252, 252, none), (238, 238, some (31, 53))] h h := FR.refl
  have b1 := gi_b (lo := 0) (hi := 6) g 238 98 rfl
  have b2 := gi_b (lo := 0) (hi := 6) g 238 99 rfl
  have b3 := gi_b (lo := 0) (hi := 6) g 238 100 rfl
  have b4 := gi_b (lo := 0) (hi := 6) g 238 101 rfl
  have b5 := gi_b (lo := 0) (hi := 3) g 238 102 rfl
  have b6 := gi_b (lo := 0) (hi := 12) g 238 106 rfl
  have b7 := gi_b (lo := 0) (hi := 12) g 238 73 rfl
  have b8 := gi_b (lo := 0) (hi := 12) g 238 2 rfl
  have b9 := gi_b (lo := 0) (hi := 9999) g 238 119 rfl
  have b10 := gi_b (lo := 0) (hi := 9999) g 238 67 rfl
  have b11 := gi_b (lo := 0) (hi := 9) g 238 69 rfl
  have b12 := gi_b (lo := 0) (hi := 9) g 238 5 rfl
  refine wi_aload_n (i := 0) (x := 236) (nx := 1) (r1 := 0) (r2 := 0) (r3 := 0) rfl rfl ?_
  refine wr_V (k0 := 236) (rest := []) (as := [.ref 236]) (nx := 4) (r1 := 324) (r2 := 0) (r3 := 11) rfl rfl rfl (of_decide_eq_true rfl) rfl rfl (by decide) rfl rfl (of_decide_eq_true rfl) (of_decide_eq_true rfl) ?_
  refine ct_324_236 hcr  g   (show (h 238 98) + (h 238 99) + (h 238 100) + (h 238 101) + (h 238 102) + (h 238 106) = (h 238 73) by omega) (show (h 238 73) ≤ (h 238 2) by omega) (show (h 238 119) ≤ (h 238 67) by omega) (show (h 238 69) ≤ (h 238 5) by omega) (show (h 238 2) ≤ 12 * (h 238 5) by omega) (fun h13 z14 g13 u13 (fz14 : 0 ≤ z14 ∧ z14 ≤ 1000000) => ?_)
  have F15 := F0.then (by decide +kernel) u13
  refine wk_i ?_
  refine wi_istore_n (i := 1) (e := z14) (lo2 := [(1, vi z14), (0, .ref 236)]) (nx := 5) (r1 := 0) (r2 := 0) (r3 := 0) rfl rfl ?_
  refine wi_iconst (n := 0) (nx := 6) (r1 := 0) (r2 := 0) (r3 := 0) rfl ?_
  refine wi_istore_n (i := 2) (e := 0) (lo2 := [(2, vi 0), (1, vi z14), (0, .ref 236)]) (nx := 7) (r1 := 0) (r2 := 0) (r3 := 0) rfl rfl ?_
  refine wi_iconst (n := 0) (nx := 8) (r1 := 0) (r2 := 0) (r3 := 0) rfl ?_
  refine wi_istore_n (i := 3) (e := 0) (lo2 := [(3, vi 0), (2, vi 0), (1, vi z14), (0, .ref 236)]) (nx := 9) (r1 := 0) (r2 := 0) (r3 := 0) rfl rfl ?_
  refine wp.lo (lo := [(0, .ref 236), (2, vi 0), (3, vi 0)]) ⟨rfl, rfl, rfl, trivial⟩ rfl ?_
  refine wl_2 (fun x16 x17 h18 => GI h18 ∧ FR [(249, 249, none), (250, 250, none), (251, 251, none), (252, 252, none), (238, 238, some (31, 53))] h h18 ∧ FR [(238, 238, some (31, 53))] h13 h18 ∧ ((-2147483648 ≤ x16 ∧ x16 ≤ 2147483647) ∧ (0 ≤ x17 ∧ x17 ≤ 12))) (fun x16 x17 h18 => ((12 : Int) + 1 - x17).toNat) (fun x16 x17 h18 => (9, [(0, .ref 236), (2, vi x16), (3, vi x17)], [], hp_w h18 cr, b, c)) ?_ 0 0 h13 ⟨g13, F15, FR.refl, (show (-2147483648 ≤ 0 ∧ 0 ≤ 2147483647) ∧ (0 ≤ 0 ∧ 0 ≤ 12) by omega)⟩
  intro x16 x17 h18 ⟨g18, F19, u18, f18⟩ I18
  refine wi_iload_n (i := 3) (e := x17) (nx := 10) (r1 := 0) (r2 := 0) (r3 := 0) rfl rfl ?_
  refine wi_aload_n (i := 0) (x := 236) (nx := 11) (r1 := 0) (r2 := 0) (r3 := 0) rfl rfl ?_
  refine wr_V (k0 := 236) (rest := [vi x17]) (as := [.ref 236]) (nx := 14) (r1 := 321) (r2 := 0) (r3 := 11) rfl rfl rfl (of_decide_eq_true rfl) rfl rfl (by decide) rfl rfl (of_decide_eq_true rfl) (of_decide_eq_true rfl) ?_
  refine wi_aload_n (i := 0) (x := 236) (nx := 1) (r1 := 0) (r2 := 0) (r3 := 0) rfl rfl ?_
  refine wr_gr (k0 := 236) (x := 238) (nx := 4) (r1 := 11) (r2 := 13) (r3 := 0) rfl rfl (by decide) rfl ⟨rfl, rfl⟩ rfl ?_
  refine wi_iconst (n := 2) (nx := 5) (r1 := 0) (r2 := 0) (r3 := 0) rfl ?_
  refine wr_ia (k0 := 238) (a := 2) (f := 2) (x := h 238 2) (nx := 6) (r1 := 0) (r2 := 0) (r3 := 0) rfl (by decide) rfl (by omega) (by omega) (by decide) ((u18 238 2 rfl).trans (u13 238 2 rfl)) ?_
  refine wi_aload_n (i := 0) (x := 236) (nx := 7) (r1 := 0) (r2 := 0) (r3 := 0) rfl rfl ?_
  refine wr_gr (k0 := 236) (x := 238) (nx := 10) (r1 := 11) (r2 := 13) (r3 := 0) rfl rfl (by decide) rfl ⟨rfl, rfl⟩ rfl ?_
  refine wi_bipush (n := 73) (nx := 12) (r1 := 0) (r2 := 0) (r3 := 0) rfl (by decide) ?_
  refine wr_ia (k0 := 238) (a := 73) (f := 73) (x := h 238 73) (nx := 13) (r1 := 0) (r2 := 0) (r3 := 0) rfl (by decide) rfl (by omega) (by omega) (by decide) ((u18 238 73 rfl).trans (u13 238 73 rfl)) ?_
  refine wr_sub (nx := 14) (r1 := 0) (r2 := 0) (r3 := 0) rfl (fun e20 (fe20 : e20 = (h 238 2) - (h 238 73)) => ?_)
  refine wi_ireturn (nx := 15) (r1 := 0) (r2 := 0) (r3 := 0) rfl rfl ?_
  refine wk_i ?_
  refine wi_icmp (cd := .ge) (nx := 17) (r1 := 71) (r2 := 0) (r3 := 0) rfl (by omega) (by omega) (fun (q21 : e20 ≤ x17) => ?_) (fun (q21 : ¬ (e20 ≤ x17)) => ?_)
  ·
    refine wi_iload_n (i := 2) (e := x16) (nx := 72) (r1 := 0) (r2 := 0) (r3 := 0) rfl rfl ?_
    refine wi_ireturn (nx := 73) (r1 := 0) (r2 := 0) (r3 := 0) rfl rfl ?_
    have e22 : h18 238 98 = h 238 98 := ((u18 238 98 rfl).trans (u13 238 98 rfl))
    have e23 : h18 238 99 = h 238 99 := ((u18 238 99 rfl).trans (u13 238 99 rfl))
    have e24 : h18 238 100 = h 238 100 := ((u18 238 100 rfl).trans (u13 238 100 rfl))
    have e25 : h18 238 101 = h 238 101 := ((u18 238 101 rfl).trans (u13 238 101 rfl))
    have e26 : h18 238 102 = h 238 102 := ((u18 238 102 rfl).trans (u13 238 102 rfl))
    have e27 : h18 238 106 = h 238 106 := ((u18 238 106 rfl).trans (u13 238 106 rfl))
    have e28 : h18 238 73 = h 238 73 := ((u18 238 73 rfl).trans (u13 238 73 rfl))
    have e29 : h18 238 2 = h 238 2 := ((u18 238 2 rfl).trans (u13 238 2 rfl))
    have e30 : h18 238 119 = h 238 119 := ((u18 238 119 rfl).trans (u13 238 119 rfl))
    have e31 : h18 238 67 = h 238 67 := ((u18 238 67 rfl).trans (u13 238 67 rfl))
    have e32 : h18 238 69 = h 238 69 := ((u18 238 69 rfl).trans (u13 238 69 rfl))
    have e33 : h18 238 5 = h 238 5 := ((u18 238 5 rfl).trans (u13 238 5 rfl))
    exact k h18 x16 g18 F19 (by omega) (show (h18 238 98) + (h18 238 99) + (h18 238 100) + (h18 238 101) + (h18 238 102) + (h18 238 106) = (h18 238 73) by omega) (show (h18 238 73) ≤ (h18 238 2) by omega) (show (h18 238 119) ≤ (h18 238 67) by omega) (show (h18 238 69) ≤ (h18 238 5) by omega) (show (h18 238 2) ≤ 12 * (h18 238 5) by omega)
  ·
    refine wi_iload_n (i := 2) (e := x16) (nx := 18) (r1 := 0) (r2 := 0) (r3 := 0) rfl rfl ?_
    refine wi_aload_n (i := 0) (x := 236) (nx := 19) (r1 := 0) (r2 := 0) (r3 := 0) rfl rfl ?_
    refine wr_gr (k0 := 236) (x := 252) (nx := 22) (r1 := 11) (r2 := 36) (r3 := 0) rfl rfl (by decide) rfl ⟨rfl, rfl⟩ rfl ?_
    refine wi_iload_n (i := 3) (e := x17) (nx := 23) (r1 := 0) (r2 := 0) (r3 := 0) rfl rfl ?_
    obtain ⟨i22, ei22⟩ : ∃ q : Nat, x17 = (q : Int) := ⟨(x17).toNat, by omega⟩
    have b23 := gi_b (lo := 0) (hi := 4) g13 252 i22 rfl
    refine wr_ia (k0 := 252) (a := x17) (f := i22) (x := h13 252 i22) (nx := 24) (r1 := 0) (r2 := 0) (r3 := 0) rfl (by decide) rfl (by omega) (by omega) (by decide) (u18 252 i22 (fn_a (by decide) fn_0)) ?_
    refine wi_aload_n (i := 0) (x := 236) (nx := 25) (r1 := 0) (r2 := 0) (r3 := 0) rfl rfl ?_
    refine wi_iload_n (i := 3) (e := x17) (nx := 26) (r1 := 0) (r2 := 0) (r3 := 0) rfl rfl ?_
    refine wr_V (k0 := 236) (rest := [vi (h13 252 i22), vi x16]) (as := [.ref 236, vi x17]) (nx := 29) (r1 := 322) (r2 := 1) (r3 := 11) rfl rfl rfl (of_decide_eq_true rfl) rfl rfl (by decide) rfl rfl (of_decide_eq_true rfl) (of_decide_eq_true rfl) ?_
    refine wi_aload_n (i := 0) (x := 236) (nx := 1) (r1 := 0) (r2 := 0) (r3 := 0) rfl rfl ?_
    refine wr_gr (k0 := 236) (x := 238) (nx := 4) (r1 := 11) (r2 := 13) (r3 := 0) rfl rfl (by decide) rfl ⟨rfl, rfl⟩ rfl ?_
    refine wi_bipush (n := 31) (nx := 6) (r1 := 0) (r2 := 0) (r3 := 0) rfl (by decide) ?_
    refine wi_aload_n (i := 0) (x := 236) (nx := 7) (r1 := 0) (r2 := 0) (r3 := 0) rfl rfl ?_
    refine wr_gr (k0 := 236) (x := 238) (nx := 10) (r1 := 11) (r2 := 13) (r3 := 0) rfl rfl (by decide) rfl ⟨rfl, rfl⟩ rfl ?_
    refine wi_bipush (n := 73) (nx := 12) (r1 := 0) (r2 := 0) (r3 := 0) rfl (by decide) ?_
    refine wr_ia (k0 := 238) (a := 73) (f := 73) (x := h 238 73) (nx := 13) (r1 := 0) (r2 := 0) (r3 := 0) rfl (by decide) rfl (by omega) (by omega) (by decide) ((u18 238 73 rfl).trans (u13 238 73 rfl)) ?_
    refine wr_add (nx := 14) (r1 := 0) (r2 := 0) (r3 := 0) rfl (fun e24 (fe24 : e24 = 31 + (h 238 73)) => ?_)
    refine wi_iload_n (i := 1) (e := x17) (nx := 15) (r1 := 0) (r2 := 0) (r3 := 0) rfl rfl ?_
    refine wr_add (nx := 16) (r1 := 0) (r2 := 0) (r3 := 0) rfl (fun e25 (fe25 : e25 = e24 + x17) => ?_)
    obtain ⟨i26, ei26⟩ : ∃ q : Nat, e25 = (q : Int) := ⟨(e25).toNat, by omega⟩
    have b27 := gi_b (lo := 0) (hi := 4) g18 238 i26 (gi_rg 31 12 (fun _ => rfl) (by decide +kernel) (by omega))
    refine wr_ia (k0 := 238) (a := e25) (f := i26) (x := h18 238 i26) (nx := 17) (r1 := 0) (r2 := 0) (r3 := 0) rfl (by decide) rfl (by omega) (by omega) (by decide) rfl ?_
    refine wi_ireturn (nx := 18) (r1 := 0) (r2 := 0) (r3 := 0) rfl rfl ?_
    refine wk_i ?_
    refine wi_icmp (cd := .eq) (nx := 32) (r1 := 36) (r2 := 0) (r3 := 0) rfl (by omega) (by omega) (fun (q28 : (h13 252 i22) = (h18 238 i26)) => ?_) (fun (q28 : ¬ ((h13 252 i22) = (h18 238 i26))) => ?_)
    ·
      refine wi_iconst (n := 0) (nx := 37) (r1 := 0) (r2 := 0) (r3 := 0) rfl ?_
      refine wi_S (rest := [vi x16]) (as := [vi 0]) (nx := 40) (r1 := 207) (r2 := 17) (r3 := 0) rfl rfl rfl (of_decide_eq_true rfl) rfl rfl (of_decide_eq_true rfl) (of_decide_eq_true rfl) ?_
      refine wi_iload_n (i := 0) (e := 0) (nx := 1) (r1 := 0) (r2 := 0) (r3 := 0) rfl rfl ?_
      refine wi_if (cd := .eq) (nx := 4) (r1 := 8) (r2 := 0) (r3 := 0) rfl (by omega) (fun (q29 : 0 = 0) => ?_) (fun (q29 : ¬ (0 = 0)) => by exfalso; omega)
      refine wi_iconst (n := 0) (nx := 9) (r1 := 0) (r2 := 0) (r3 := 0) rfl ?_
      refine wi_ireturn (nx := 10) (r1 := 0) (r2 := 0) (r3 := 0) rfl rfl ?_
      refine wk_i ?_
      refine wr_add (nx := 41) (r1 := 0) (r2 := 0) (r3 := 0) rfl (fun e30 (fe30 : e30 = x16 + 0) => ?_)
      refine wi_istore_n (i := 2) (e := e30) (lo2 := [(2, vi e30), (0, .ref 236), (3, vi x17)]) (nx := 42) (r1 := 0) (r2 := 0) (r3 := 0) rfl rfl ?_
      refine wi_aload_n (i := 0) (x := 236) (nx := 43) (r1 := 0) (r2 := 0) (r3 := 0) rfl rfl ?_
      refine wr_gr (k0 := 236) (x := 238) (nx := 46) (r1 := 11) (r2 := 13) (r3 := 0) rfl rfl (by decide) rfl ⟨rfl, rfl⟩ rfl ?_
      refine wi_bipush (n := 31) (nx := 48) (r1 := 0) (r2 := 0) (r3 := 0) rfl (by decide) ?_
      refine wi_aload_n (i := 0) (x := 236) (nx := 49) (r1 := 0) (r2 := 0) (r3 := 0) rfl rfl ?_
      refine wr_gr (k0 := 236) (x := 238) (nx := 52) (r1 := 11) (r2 := 13) (r3 := 0) rfl rfl (by decide) rfl ⟨rfl, rfl⟩ rfl ?_
      refine wi_bipush (n := 73) (nx := 54) (r1 := 0) (r2 := 0) (r3 := 0) rfl (by decide) ?_
      refine wr_ia (k0 := 238) (a := 73) (f := 73) (x := h 238 73) (nx := 55) (r1 := 0) (r2 := 0) (r3 := 0) rfl (by decide) rfl (by omega) (by omega) (by decide) ((u18 238 73 rfl).trans (u13 238 73 rfl)) ?_
      refine wr_add (nx := 56) (r1 := 0) (r2 := 0) (r3 := 0) rfl (fun e31 (fe31 : e31 = 31 + (h 238 73)) => ?_)
      refine wi_iload_n (i := 3) (e := x17) (nx := 57) (r1 := 0) (r2 := 0) (r3 := 0) rfl rfl ?_
      refine wr_add (nx := 58) (r1 := 0) (r2 := 0) (r3 := 0) rfl (fun e32 (fe32 : e32 = e31 + x17) => ?_)
      refine wi_aload_n (i := 0) (x := 236) (nx := 59) (r1 := 0) (r2 := 0) (r3 := 0) rfl rfl ?_
      refine wr_gr (k0 := 236) (x := 252) (nx := 62) (r1 := 11) (r2 := 36) (r3 := 0) rfl rfl (by decide) rfl ⟨rfl, rfl⟩ rfl ?_
      refine wi_iload_n (i := 3) (e := x17) (nx := 63) (r1 := 0) (r2 := 0) (r3 := 0) rfl rfl ?_
      refine wr_ia (k0 := 252) (a := x17) (f := i22) (x := h13 252 i22) (nx := 64) (r1 := 0) (r2 := 0) (r3 := 0) rfl (by decide) rfl (by omega) (by omega) (by decide) (u18 252 i22 (fn_a (by decide) fn_0)) ?_
      refine wr_is (k0 := 238) (a := e32) (f := i26) (x := h13 252 i22) (bl := 0) (bh := 4) (nx := 65) (r1 := 0) (r2 := 0) (r3 := 0) rfl (by decide) rfl (by omega) (by omega) (by decide) g18 (gi_rg 31 12 (fun _ => rfl) (by decide +kernel) (by omega)) (by omega) (fun h33 g33 w33 u33 => ?_)
      have F34 := F19.then rfl (FR.idx (p := 31) (q := 53) u33 (by omega))
      have F35 := u18.then rfl (FR.idx (p := 31) (q := 53) u33 (by omega))
      refine wr_iinc (i := 3) (n := 1) (v := x17) (fun e36 => [(3, vi e36), (2, vi e30), (0, .ref 236)]) (nx := 68) (r1 := 0) (r2 := 0) (r3 := 0) rfl rfl (fun _ => rfl) (fun e36 (fe36 : e36 = x17 + 1) => ?_)
      refine wi_goto (nx := 71) (r1 := 9) (r2 := 0) (r3 := 0) rfl ?_
      refine wp.lo (lo := [(0, .ref 236), (2, vi e30), (3, vi e36)]) ⟨rfl, rfl, rfl, trivial⟩ rfl ?_
      exact I18 e30 e36 h33 ⟨g33, F34, F35, (show (-2147483648 ≤ e30 ∧ e30 ≤ 2147483647) ∧ (0 ≤ e36 ∧ e36 ≤ 12) by omega)⟩ (show ((12 : Int) + 1 - e36).toNat < ((12 : Int) + 1 - x17).toNat by omega)
    ·
      refine wi_iconst (n := 1) (nx := 33) (r1 := 0) (r2 := 0) (r3 := 0) rfl ?_
      refine wi_goto (nx := 36) (r1 := 37) (r2 := 0) (r3 := 0) rfl ?_
      refine wi_S (rest := [vi x16]) (as := [vi 1]) (nx := 40) (r1 := 207) (r2 := 17) (r3 := 0) rfl rfl rfl (of_decide_eq_true rfl) rfl rfl (of_decide_eq_true rfl) (of_decide_eq_true rfl) ?_
      refine wi_iload_n (i := 0) (e := 1) (nx := 1) (r1 := 0) (r2 := 0) (r3 := 0) rfl rfl ?_
      refine wi_if (cd := .eq) (nx := 4) (r1 := 8) (r2 := 0) (r3 := 0) rfl (by omega) (fun (q29 : 1 = 0) => by exfalso; omega) (fun (q29 : ¬ (1 = 0)) => ?_)
      refine wi_iconst (n := 1) (nx := 5) (r1 := 0) (r2 := 0) (r3 := 0) rfl ?_
      refine wi_goto (nx := 8) (r1 := 9) (r2 := 0) (r3 := 0) rfl ?_
      refine wi_ireturn (nx := 10) (r1 := 0) (r2 := 0) (r3 := 0) rfl rfl ?_
      refine wk_i ?_
      refine wr_addW (nx := 41) (r1 := 0) (r2 := 0) (r3 := 0) rfl (fun e30 (fe30 : -2147483648 ≤ e30 ∧ e30 ≤ 2147483647) => ?_)
      refine wi_istore_n (i := 2) (e := e30) (lo2 := [(2, vi e30), (0, .ref 236), (3, vi x17)]) (nx := 42) (r1 := 0) (r2 := 0) (r3 := 0) rfl rfl ?_
      refine wi_aload_n (i := 0) (x := 236) (nx := 43) (r1 := 0) (r2 := 0) (r3 := 0) rfl rfl ?_
      refine wr_gr (k0 := 236) (x := 238) (nx := 46) (r1 := 11) (r2 := 13) (r3 := 0) rfl rfl (by decide) rfl ⟨rfl, rfl⟩ rfl ?_
      refine wi_bipush (n := 31) (nx := 48) (r1 := 0) (r2 := 0) (r3 := 0) rfl (by decide) ?_
      refine wi_aload_n (i := 0) (x := 236) (nx := 49) (r1 := 0) (r2 := 0) (r3 := 0) rfl rfl ?_
      refine wr_gr (k0 := 236) (x := 238) (nx := 52) (r1 := 11) (r2 := 13) (r3 := 0) rfl rfl (by decide) rfl ⟨rfl, rfl⟩ rfl ?_
      refine wi_bipush (n := 73) (nx := 54) (r1 := 0) (r2 := 0) (r3 := 0) rfl (by decide) ?_
      refine wr_ia (k0 := 238) (a := 73) (f := 73) (x := h 238 73) (nx := 55) (r1 := 0) (r2 := 0) (r3 := 0) rfl (by decide) rfl (by omega) (by omega) (by decide) ((u18 238 73 rfl).trans (u13 238 73 rfl)) ?_
      refine wr_add (nx := 56) (r1 := 0) (r2 := 0) (r3 := 0) rfl (fun e31 (fe31 : e31 = 31 + (h 238 73)) => ?_)
      refine wi_iload_n (i := 3) (e := x17) (nx := 57) (r1 := 0) (r2 := 0) (r3 := 0) rfl rfl ?_
      refine wr_add (nx := 58) (r1 := 0) (r2 := 0) (r3 := 0) rfl (fun e32 (fe32 : e32 = e31 + x17) => ?_)
      refine wi_aload_n (i := 0) (x := 236) (nx := 59) (r1 := 0) (r2 := 0) (r3 := 0) rfl rfl ?_
      refine wr_gr (k0 := 236) (x := 252) (nx := 62) (r1 := 11) (r2 := 36) (r3 := 0) rfl rfl (by decide) rfl ⟨rfl, rfl⟩ rfl ?_
      refine wi_iload_n (i := 3) (e := x17) (nx := 63) (r1 := 0) (r2 := 0) (r3 := 0) rfl rfl ?_
      refine wr_ia (k0 := 252) (a := x17) (f := i22) (x := h13 252 i22) (nx := 64) (r1 := 0) (r2 := 0) (r3 := 0) rfl (by decide) rfl (by omega) (by omega) (by decide) (u18 252 i22 (fn_a (by decide) fn_0)) ?_
      refine wr_is (k0 := 238) (a := e32) (f := i26) (x := h13 252 i22) (bl := 0) (bh := 4) (nx := 65) (r1 := 0) (r2 := 0) (r3 := 0) rfl (by decide) rfl (by omega) (by omega) (by decide) g18 (gi_rg 31 12 (fun _ => rfl) (by decide +kernel) (by omega)) (by omega) (fun h33 g33 w33 u33 => ?_)
      have F34 := F19.then rfl (FR.idx (p := 31) (q := 53) u33 (by omega))
      have F35 := u18.then rfl (FR.idx (p := 31) (q := 53) u33 (by omega))
      refine wr_iinc (i := 3) (n := 1) (v := x17) (fun e36 => [(3, vi e36), (2, vi e30), (0, .ref 236)]) (nx := 68) (r1 := 0) (r2 := 0) (r3 := 0) rfl rfl (fun _ => rfl) (fun e36 (fe36 : e36 = x17 + 1) => ?_)
      refine wi_goto (nx := 71) (r1 := 9) (r2 := 0) (r3 := 0) rfl ?_
      refine wp.lo (lo := [(0, .ref 236), (2, vi e30), (3, vi e36)]) ⟨rfl, rfl, rfl, trivial⟩ rfl ?_
      exact I18 e30 e36 h33 ⟨g33, F34, F35, (show (-2147483648 ≤ e30 ∧ e30 ≤ 2147483647) ∧ (0 ≤ e36 ∧ e36 ≤ 12) by omega)⟩ (show ((12 : Int) + 1 - e36).toNat < ((12 : Int) + 1 - x17).toNat by omega)
