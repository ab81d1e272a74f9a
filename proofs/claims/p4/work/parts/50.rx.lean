-- method 288: Model.step()I
set_option maxRecDepth 100000 in
set_option maxHeartbeats 100000000 in
theorem ct_288_236 {L : Nat} {xs : Nat → Int32} {d b c : Nat} {h : hp} {cr : Nat → Nat → Option Nat} {Q : hp_Q} (hcr : CR cr)  (g : GI h)   (pp0 : h 238 98 + h 238 99 + h 238 100 + h 238 101 + h 238 102 + h 238 106 = h 238 73) (pp1 : h 238 73 ≤ h 238 2) (pp2 : h 238 119 ≤ h 238 67) (pp3 : h 238 69 ≤ h 238 5) (pp4 : h 238 2 ≤ 12 * h 238 5) (xq0 : GPS h) (gp0 : GPH h) (k : ∀ (h2 : hp) (z0 : Int) , GI h2 → FR [(236, 236, some (0, 0)), (236, 236, some (22, 22)), (236, 236, some (28, 28)), (238, 238, some (43, 54)), (238, 238, some (55, 66)), (238, 238, some (67, 67)), (238, 238, some (68, 68)), (238, 238, some (69, 69)), (238, 238, some (70, 70)), (238, 238, some (71, 71)), (238, 238, some (72, 72)), (238, 238, some (73, 73)), (238, 238, some (74, 79)), (238, 238, some (80, 85)), (238, 238, some (86, 91)), (238, 238, some (92, 97)), (238, 238, some (98, 98)), (238, 238, some (99, 99)), (238, 238, some (100, 100)), (238, 238, some (101, 101)), (238, 238, some (102, 102)), (238, 238, some (103, 105)), (238, 238, some (106, 106)), (238, 238, some (107, 118)), (238, 238, some (119, 119)), (238, 238, some (120, 196)), (238, 238, some (121, 197)), (238, 238, some (122, 198)), (238, 238, some (123, 199)), (242, 242, some (0, 999)), (242, 242, some (1000, 1199))] h h2 → (-1 ≤ z0 ∧ z0 ≤ 3) → (h2 238 98 + h2 238 99 + h2 238 100 + h2 238 101 + h2 238 102 + h2 238 106 = h2 238 73) → (h2 238 73 ≤ h2 238 2) → (h2 238 119 ≤ h2 238 67) → (h2 238 69 ≤ h2 238 5) → (h2 238 2 ≤ 12 * h2 238 5) → (GPS h2) → (GPH h2) → Q (.inl (some (vi z0))) (hp_w h2 cr) b c) : wp (md_xa (L, xs)) (d + 5) 288 (0, [(0, .ref 236)], [], hp_w h cr, b, c) Q := by
  have F0 : FR [(236, 236, some (0, 0)), (236, 236, some (22, 22)), (236, 236, some (28, 28)), (238, 238, some (43, 54)), (238, 238, some (55, 66)), (238, 238, some (67, 67)), (238, 238, some (68, 68)), (238, 238, some (69, 69)), (238, 238, some (70, 70)), (238, 238, some (71, 71)), (238, 238, some (72, 72)), (238, 238, some (73, 73)), (238, 238, some (74, 79)), (238, 238, some (80, 85)), (238, 238, some (86, 91)), (238, 238, some (92, 97)), (238, 238, some (98, 98)), (238, 238, some (99, 99)), (238, 238, some (100, 100)), (238, 238, some (101, 101)), (238, 238, some (102, 102)), (238, 238, some (103, 105)), (238, 238, some (106, 106)), (238, 238, some (107, 118)), (238, 238, some (119, 119)), (238, 238, some (120, 196)), (238, 238, some (121, 197)), (238, 238, some (122, 198)), (238, 238, some (123, 199)), (242, 242, some (0, 999)), (242, 242, some (1000, 1199))] h h := FR.refl
  have b1 := gi_b (lo := 0) (hi := 6) g 238 98 rfl
  have b2 := gi_b (lo := 0) (hi := 6) g 238 99 rfl
  have b3 := gi_b (lo := 0) (hi := 6) g 238 100 rfl
  have b4 := gi_b (lo := 0) (hi := 6) g 238 101 rfl
  have b5 := gi_b (lo := 0) (hi := 3) g 238 102 rfl
  have b6 := gi_b (lo := 0) (hi := 12) g 238 106 rfl
  have b7 := gi_b (lo := 0) (hi := 12) g 238 73 rfl
  have b8 := gi_b (lo := 0) (hi := 12) g 238 2 rfl
  have b9 := gi_b (lo := 0) (hi := 9999) g 238 119 rfl
  have b10 := gi_b (lo := 0) (hi := 9999) g 238 67 rfl
  have b11 := gi_b (lo := 0) (hi := 9) g 238 69 rfl
  have b12 := gi_b (lo := 0) (hi := 9) g 238 5 rfl
  refine wi_aload_n (i := 0) (x := 236) (nx := 1) (r1 := 0) (r2 := 0) (r3 := 0) rfl rfl ?_
  refine wi_iconst (n := 0) (nx := 2) (r1 := 0) (r2 := 0) (r3 := 0) rfl ?_
  refine wr_pf0 (k0 := 236) (x := 0) (bl := 0) (bh := 2) (nx := 5) (r1 := 11) (r2 := 0) (r3 := 0) rfl (by decide) rfl ⟨rfl, rfl⟩ rfl rfl g rfl (by omega) (fun h13 g13 w13 u13 => ?_)
  have F14 := F0.then rfl u13
  refine wi_aload_n (i := 0) (x := 236) (nx := 6) (r1 := 0) (r2 := 0) (r3 := 0) rfl rfl ?_
  refine wr_V (k0 := 236) (rest := []) (as := [.ref 236]) (nx := 9) (r1 := 289) (r2 := 0) (r3 := 11) rfl rfl rfl (of_decide_eq_true rfl) rfl rfl (by decide) rfl rfl (of_decide_eq_true rfl) (of_decide_eq_true rfl) ?_
  refine ct_289_236 hcr  g13    (fun z16  (fz16 : -1 ≤ z16 ∧ z16 ≤ 3) y15_0 => ?_)
  refine wk_i ?_
  refine wi_iconst (n := (-1)) (nx := 10) (r1 := 0) (r2 := 0) (r3 := 0) rfl ?_
  refine wi_icmp (cd := .ne) (nx := 13) (r1 := 15) (r2 := 0) (r3 := 0) rfl (by omega) (by omega) (fun (q17 : z16 ≠ (-1)) => ?_) (fun (q17 : ¬ (z16 ≠ (-1))) => ?_)
  ·
    refine wi_aload_n (i := 0) (x := 236) (nx := 16) (r1 := 0) (r2 := 0) (r3 := 0) rfl rfl ?_
    refine wr_V (k0 := 236) (rest := []) (as := [.ref 236]) (nx := 19) (r1 := 278) (r2 := 0) (r3 := 11) rfl rfl rfl (of_decide_eq_true rfl) rfl rfl (by decide) rfl rfl (of_decide_eq_true rfl) (of_decide_eq_true rfl) ?_
    have e19 : h13 238 98 = h 238 98 := (u13 238 98 rfl)
    have e20 : h13 238 99 = h 238 99 := (u13 238 99 rfl)
    have e21 : h13 238 100 = h 238 100 := (u13 238 100 rfl)
    have e22 : h13 238 101 = h 238 101 := (u13 238 101 rfl)
    have e23 : h13 238 102 = h 238 102 := (u13 238 102 rfl)
    have e24 : h13 238 106 = h 238 106 := (u13 238 106 rfl)
    have e25 : h13 238 73 = h 238 73 := (u13 238 73 rfl)
    have e26 : h13 238 2 = h 238 2 := (u13 238 2 rfl)
    have e27 : h13 238 119 = h 238 119 := (u13 238 119 rfl)
    have e28 : h13 238 67 = h 238 67 := (u13 238 67 rfl)
    have e29 : h13 238 69 = h 238 69 := (u13 238 69 rfl)
    have e30 : h13 238 5 = h 238 5 := (u13 238 5 rfl)
    have gs31 := GPS.fr u13 rfl xq0
    have gp32 := GPH.fr u13 rfl gp0
    refine ct_278_236 hcr  g13   (show (h13 238 98) + (h13 238 99) + (h13 238 100) + (h13 238 101) + (h13 238 102) + (h13 238 106) = (h13 238 73) by omega) (show (h13 238 73) ≤ (h13 238 2) by omega) (show (h13 238 119) ≤ (h13 238 67) by omega) (show (h13 238 69) ≤ (h13 238 5) by omega) (show (h13 238 2) ≤ 12 * (h13 238 5) by omega) gs31 gp32 (fun h18 g18 u18 (p18_0 : 1 ≤ (h18 236 22)) y18_0 y18_1 => ?_)
    have F33 := F14.then (by decide +kernel) u18
    have b34 := gi_b (lo := 0) (hi := 6) g18 236 22 rfl
    refine wk_n ?_
    refine wi_aload_n (i := 0) (x := 236) (nx := 20) (r1 := 0) (r2 := 0) (r3 := 0) rfl rfl ?_
    refine wr_V (k0 := 236) (rest := []) (as := [.ref 236]) (nx := 23) (r1 := 292) (r2 := 0) (r3 := 11) rfl rfl rfl (of_decide_eq_true rfl) rfl rfl (by decide) rfl rfl (of_decide_eq_true rfl) (of_decide_eq_true rfl) ?_
    have e36 : h18 238 98 = h 238 98 := ((u18 238 98 rfl).trans (u13 238 98 rfl))
    have e37 : h18 238 99 = h 238 99 := ((u18 238 99 rfl).trans (u13 238 99 rfl))
    have e38 : h18 238 100 = h 238 100 := ((u18 238 100 rfl).trans (u13 238 100 rfl))
    have e39 : h18 238 101 = h 238 101 := ((u18 238 101 rfl).trans (u13 238 101 rfl))
    have e40 : h18 238 102 = h 238 102 := ((u18 238 102 rfl).trans (u13 238 102 rfl))
    have e41 : h18 238 106 = h 238 106 := ((u18 238 106 rfl).trans (u13 238 106 rfl))
    have e42 : h18 238 73 = h 238 73 := ((u18 238 73 rfl).trans (u13 238 73 rfl))
    have e43 : h18 238 2 = h 238 2 := ((u18 238 2 rfl).trans (u13 238 2 rfl))
    have e44 : h18 238 119 = h 238 119 := ((u18 238 119 rfl).trans (u13 238 119 rfl))
    have e45 : h18 238 67 = h 238 67 := ((u18 238 67 rfl).trans (u13 238 67 rfl))
    have e46 : h18 238 69 = h 238 69 := ((u18 238 69 rfl).trans (u13 238 69 rfl))
    have e47 : h18 238 5 = h 238 5 := ((u18 238 5 rfl).trans (u13 238 5 rfl))
    refine ct_292_236 hcr  g18   (show (h18 238 98) + (h18 238 99) + (h18 238 100) + (h18 238 101) + (h18 238 102) + (h18 238 106) = (h18 238 73) by omega) (show (h18 238 73) ≤ (h18 238 2) by omega) (show (h18 238 119) ≤ (h18 238 67) by omega) (show (h18 238 69) ≤ (h18 238 5) by omega) (show (h18 238 2) ≤ 12 * (h18 238 5) by omega) (fun h35 z48 g35 u35 (fz48 : -1 ≤ z48 ∧ z48 ≤ 3) (p35_0 : (h35 238 98) + (h35 238 99) + (h35 238 100) + (h35 238 101) + (h35 238 102) + (h35 238 106) = (h35 238 73)) (p35_1 : (h35 238 73) ≤ (h35 238 2)) (p35_2 : (h35 238 119) ≤ (h35 238 67)) (p35_3 : (h35 238 69) ≤ (h35 238 5)) (p35_4 : (h35 238 2) ≤ 12 * (h35 238 5)) => ?_)
    have F49 := F33.then (by decide +kernel) u35
    have b50 := gi_b (lo := 0) (hi := 6) g35 238 98 rfl
    have b51 := gi_b (lo := 0) (hi := 6) g35 238 99 rfl
    have b52 := gi_b (lo := 0) (hi := 6) g35 238 100 rfl
    have b53 := gi_b (lo := 0) (hi := 6) g35 238 101 rfl
    have b54 := gi_b (lo := 0) (hi := 3) g35 238 102 rfl
    have b55 := gi_b (lo := 0) (hi := 12) g35 238 106 rfl
    have b56 := gi_b (lo := 0) (hi := 12) g35 238 73 rfl
    have e57 : h35 238 2 = h 238 2 := ((u35 238 2 rfl).trans ((u18 238 2 rfl).trans (u13 238 2 rfl)))
    have b58 := gi_b (lo := 0) (hi := 9999) g35 238 119 rfl
    have b59 := gi_b (lo := 0) (hi := 9999) g35 238 67 rfl
    have b60 := gi_b (lo := 0) (hi := 9) g35 238 69 rfl
    have e61 : h35 238 5 = h 238 5 := ((u35 238 5 rfl).trans ((u18 238 5 rfl).trans (u13 238 5 rfl)))
    refine wk_i ?_
    refine wi_ireturn (nx := 24) (r1 := 0) (r2 := 0) (r3 := 0) rfl rfl ?_
    have gs62 := GPS.fr u35 rfl y18_0
    have gp63 := GPH.fr u35 rfl y18_1
    exact k h35 z48 g35 F49 (by omega) (show (h35 238 98) + (h35 238 99) + (h35 238 100) + (h35 238 101) + (h35 238 102) + (h35 238 106) = (h35 238 73) by omega) (show (h35 238 73) ≤ (h35 238 2) by omega) (show (h35 238 119) ≤ (h35 238 67) by omega) (show (h35 238 69) ≤ (h35 238 5) by omega) (show (h35 238 2) ≤ 12 * (h35 238 5) by omega) gs62 gp63
  ·
    refine wi_iconst (n := (-1)) (nx := 14) (r1 := 0) (r2 := 0) (r3 := 0) rfl ?_
    refine wi_ireturn (nx := 15) (r1 := 0) (r2 := 0) (r3 := 0) rfl rfl ?_
    have e18 : h13 238 98 = h 238 98 := (u13 238 98 rfl)
    have e19 : h13 238 99 = h 238 99 := (u13 238 99 rfl)
    have e20 : h13 238 100 = h 238 100 := (u13 238 100 rfl)
    have e21 : h13 238 101 = h 238 101 := (u13 238 101 rfl)
    have e22 : h13 238 102 = h 238 102 := (u13 238 102 rfl)
    have e23 : h13 238 106 = h 238 106 := (u13 238 106 rfl)
    have e24 : h13 238 73 = h 238 73 := (u13 238 73 rfl)
    have e25 : h13 238 2 = h 238 2 := (u13 238 2 rfl)
    have e26 : h13 238 119 = h 238 119 := (u13 238 119 rfl)
    have e27 : h13 238 67 = h 238 67 := (u13 238 67 rfl)
    have e28 : h13 238 69 = h 238 69 := (u13 238 69 rfl)
    have e29 : h13 238 5 = h 238 5 := (u13 238 5 rfl)
    have gs30 := GPS.fr u13 rfl xq0
    have gp31 := GPH.fr u13 rfl gp0
    exact k h13 (-1) g13 F14 (by omega) (show (h13 238 98) + (h13 238 99) + (h13 238 100) + (h13 238 101) + (h13 238 102) + (h13 238 106) = (h13 238 73) by omega) (show (h13 238 73) ≤ (h13 238 2) by omega) (show (h13 238 119) ≤ (h13 238 67) by omega) (show (h13 238 69) ≤ (h13 238 5) by omega) (show (h13 238 2) ≤ 12 * (h13 238 5) by omega) gs30 gp31
-- method 296: Model.stepsToOut(I)I
set_option maxRecDepth 100000 in
set_option maxHeartbeats 100000000 in
theorem ct_296_236 {L : Nat} {xs : Nat → Int32} {d b c : Nat} {h : hp} {cr : Nat → Nat → Option Nat} {Q : hp_Q} (hcr : CR cr)  (g : GI h) (a0 : Int) (q0_ : -2147483648 ≤ a0 ∧ a0 ≤ 2147483647) (pp0 : h 238 98 + h 238 99 + h 238 100 + h 238 101 + h 238 102 + h 238 106 = h 238 73) (pp1 : h 238 73 ≤ h 238 2) (pp2 : h 238 119 ≤ h 238 67) (pp3 : h 238 69 ≤ h 238 5) (pp4 : h 238 2 ≤ 12 * h 238 5) (k : ∀ (h2 : hp) (z0 : Int) , GI h2 → FR [(238, 238, none), (240, 240, none), (236, 236, some (0, 0)), (236, 236, some (28, 28))] h h2 → (-1 ≤ z0 ∧ z0 ≤ 300) → (h2 238 98 + h2 238 99 + h2 238 100 + h2 238 101 + h2 238 102 + h2 238 106 = h2 238 73) → (h2 238 73 ≤ h2 238 2) → (h2 238 119 ≤ h2 238 67) → (h2 238 69 ≤ h2 238 5) → (h2 238 2 ≤ 12 * h2 238 5) → (∀ i : Nat, i < 31 → h2 238 i = h 238 i) → Q (.inl (some (vi z0))) (hp_w h2 cr) b c) : wp (md_xa (L, xs)) (d + 5) 296 (0, [(0, .ref 236), (1, vi a0)], [], hp_w h cr, b, c) Q := by
  have F0 : FR [(238, 238, none), (240, 240, none), (236, 236, some (0, 0)), (236, 236, some (28, 28))] h h := FR.refl
  have b1 := gi_b (lo := 0) (hi := 6) g 238 98 rfl
  have b2 := gi_b (lo := 0) (hi := 6) g 238 99 rfl
  have b3 := gi_b (lo := 0) (hi := 6) g 238 100 rfl
  have b4 := gi_b (lo := 0) (hi := 6) g 238 101 rfl
  have b5 := gi_b (lo := 0) (hi := 3) g 238 102 rfl
  have b6 := gi_b (lo := 0) (hi := 12) g 238 106 rfl
  have b7 := gi_b (lo := 0) (hi := 12) g 238 73 rfl
  have b8 := gi_b (lo := 0) (hi := 12) g 238 2 rfl
  have b9 := gi_b (lo := 0) (hi := 9999) g 238 119 rfl
  have b10 := gi_b (lo := 0) (hi := 9999) g 238 67 rfl
  have b11 := gi_b (lo := 0) (hi := 9) g 238 69 rfl
  have b12 := gi_b (lo := 0) (hi := 9) g 238 5 rfl
  refine wi_aload_n (i := 0) (x := 236) (nx := 1) (r1 := 0) (r2 := 0) (r3 := 0) rfl rfl ?_
  refine wi_aload_n (i := 0) (x := 236) (nx := 2) (r1 := 0) (r2 := 0) (r3 := 0) rfl rfl ?_
  refine wi_iload_n (i := 1) (e := a0) (nx := 3) (r1 := 0) (r2 := 0) (r3 := 0) rfl rfl ?_
  refine wr_V (k0 := 236) (rest := [.ref 236]) (as := [.ref 236, vi a0]) (nx := 6) (r1 := 244) (r2 := 1) (r3 := 11) rfl rfl rfl (of_decide_eq_true rfl) rfl rfl (by decide) rfl rfl (of_decide_eq_true rfl) (of_decide_eq_true rfl) ?_
  refine wi_iload_n (i := 1) (e := a0) (nx := 1) (r1 := 0) (r2 := 0) (r3 := 0) rfl rfl ?_
  refine wi_i2l (nx := 2) (r1 := 0) (r2 := 0) (r3 := 0) rfl (by omega) ?_
  refine wi_lconst (n := 0) (e := 0) (nx := 3) (r1 := 0) (r2 := 0) (r3 := 0) rfl (by decide) ?_
  refine wi_aload_n (i := 0) (x := 236) (nx := 4) (r1 := 0) (r2 := 0) (r3 := 0) rfl rfl ?_
  refine wr_gr (k0 := 236) (x := 238) (nx := 7) (r1 := 11) (r2 := 13) (r3 := 0) rfl rfl (by decide) rfl ⟨rfl, rfl⟩ rfl ?_
  refine wi_iconst (n := 2) (nx := 8) (r1 := 0) (r2 := 0) (r3 := 0) rfl ?_
  refine wr_ia (k0 := 238) (a := 2) (f := 2) (x := h 238 2) (nx := 9) (r1 := 0) (r2 := 0) (r3 := 0) rfl (by decide) rfl (by omega) (by omega) (by decide) rfl ?_
  refine wi_iconst (n := 1) (nx := 10) (r1 := 0) (r2 := 0) (r3 := 0) rfl ?_
  refine wr_sub (nx := 11) (r1 := 0) (r2 := 0) (r3 := 0) rfl (fun e13 (fe13 : e13 = (h 238 2) - 1) => ?_)
  refine wi_i2l (nx := 12) (r1 := 0) (r2 := 0) (r3 := 0) rfl (by omega) ?_
  refine wi_S (rest := []) (as := [vl a0, vl 0, vl e13]) (nx := 15) (r1 := 210) (r2 := 19) (r3 := 0) rfl rfl rfl (of_decide_eq_true rfl) rfl rfl (of_decide_eq_true rfl) (of_decide_eq_true rfl) ?_
  refine wi_lload_n (i := 0) (e := a0) (nx := 1) (r1 := 0) (r2 := 0) (r3 := 0) rfl rfl ?_
  refine wi_lload_n (i := 2) (e := 0) (nx := 2) (r1 := 0) (r2 := 0) (r3 := 0) rfl rfl ?_
  refine wi_lcmp (a := a0) (e := 0) (nx := 3) (r1 := 0) (r2 := 0) (r3 := 0) rfl (by omega) (by omega) (fun r14 (fr14 : (r14 = -1 ∧ a0 < 0) ∨ (r14 = 0 ∧ a0 = 0) ∨ (r14 = 1 ∧ 0 < a0)) => ?_)
  refine wi_if (cd := .lt) (nx := 6) (r1 := 17) (r2 := 0) (r3 := 0) rfl (by omega) (fun (q15 : r14 < 0) => ?_) (fun (q15 : ¬ (r14 < 0)) => ?_)
  ·
    refine wi_iconst (n := 0) (nx := 18) (r1 := 0) (r2 := 0) (r3 := 0) rfl ?_
    refine wi_zreturn (nx := 19) (r1 := 0) (r2 := 0) (r3 := 0) rfl rfl (by omega) ?_
    refine wk_i ?_
    refine wi_zreturn (nx := 16) (r1 := 0) (r2 := 0) (r3 := 0) rfl rfl (by omega) ?_
    refine wk_i ?_
    refine wr_V (k0 := 236) (rest := []) (as := [.ref 236, vi 0]) (nx := 9) (r1 := 206) (r2 := 1) (r3 := 11) rfl rfl rfl (of_decide_eq_true rfl) rfl rfl (by decide) rfl rfl (of_decide_eq_true rfl) (of_decide_eq_true rfl) ?_
    refine wi_aload_n (i := 0) (x := 236) (nx := 1) (r1 := 0) (r2 := 0) (r3 := 0) rfl rfl ?_
    refine wi_iload_n (i := 1) (e := 0) (nx := 2) (r1 := 0) (r2 := 0) (r3 := 0) rfl rfl ?_
    refine wi_if (cd := .ne) (nx := 5) (r1 := 9) (r2 := 0) (r3 := 0) rfl (by omega) (fun (q16 : 0 ≠ 0) => by exfalso; omega) (fun (q16 : ¬ (0 ≠ 0)) => ?_)
    refine wi_iconst (n := 1) (nx := 6) (r1 := 0) (r2 := 0) (r3 := 0) rfl ?_
    refine wi_goto (nx := 9) (r1 := 10) (r2 := 0) (r3 := 0) rfl ?_
    refine wi_S (rest := [.ref 236]) (as := [vi 1]) (nx := 13) (r1 := 207) (r2 := 17) (r3 := 0) rfl rfl rfl (of_decide_eq_true rfl) rfl rfl (of_decide_eq_true rfl) (of_decide_eq_true rfl) ?_
    refine wi_iload_n (i := 0) (e := 1) (nx := 1) (r1 := 0) (r2 := 0) (r3 := 0) rfl rfl ?_
    refine wi_if (cd := .eq) (nx := 4) (r1 := 8) (r2 := 0) (r3 := 0) rfl (by omega) (fun (q17 : 1 = 0) => by exfalso; omega) (fun (q17 : ¬ (1 = 0)) => ?_)
    refine wi_iconst (n := 1) (nx := 5) (r1 := 0) (r2 := 0) (r3 := 0) rfl ?_
    refine wi_goto (nx := 8) (r1 := 9) (r2 := 0) (r3 := 0) rfl ?_
    refine wi_ireturn (nx := 10) (r1 := 0) (r2 := 0) (r3 := 0) rfl rfl ?_
    refine wk_i ?_
    refine wr_pf0 (k0 := 236) (x := 1) (bl := 0) (bh := 2) (nx := 16) (r1 := 11) (r2 := 0) (r3 := 0) rfl (by decide) rfl ⟨rfl, rfl⟩ rfl rfl g rfl (by omega) (fun h18 g18 w18 u18 => ?_)
    have F19 := F0.then rfl u18
    refine wi_iload_n (i := 1) (e := 0) (nx := 17) (r1 := 0) (r2 := 0) (r3 := 0) rfl rfl ?_
    refine wi_zreturn (nx := 18) (r1 := 0) (r2 := 0) (r3 := 0) rfl rfl (by omega) ?_
    refine wk_i ?_
    refine wi_if (cd := .ne) (nx := 12) (r1 := 14) (r2 := 0) (r3 := 0) rfl (by omega) (fun (q20 : 0 ≠ 0) => by exfalso; omega) (fun (q20 : ¬ (0 ≠ 0)) => ?_)
    refine wi_iconst (n := 0) (nx := 13) (r1 := 0) (r2 := 0) (r3 := 0) rfl ?_
    refine wi_ireturn (nx := 14) (r1 := 0) (r2 := 0) (r3 := 0) rfl rfl ?_
    have e21 : h18 238 98 = h 238 98 := (u18 238 98 rfl)
    have e22 : h18 238 99 = h 238 99 := (u18 238 99 rfl)
    have e23 : h18 238 100 = h 238 100 := (u18 238 100 rfl)
    have e24 : h18 238 101 = h 238 101 := (u18 238 101 rfl)
    have e25 : h18 238 102 = h 238 102 := (u18 238 102 rfl)
    have e26 : h18 238 106 = h 238 106 := (u18 238 106 rfl)
    have e27 : h18 238 73 = h 238 73 := (u18 238 73 rfl)
    have e28 : h18 238 2 = h 238 2 := (u18 238 2 rfl)
    have e29 : h18 238 119 = h 238 119 := (u18 238 119 rfl)
    have e30 : h18 238 67 = h 238 67 := (u18 238 67 rfl)
    have e31 : h18 238 69 = h 238 69 := (u18 238 69 rfl)
    have e32 : h18 238 5 = h 238 5 := (u18 238 5 rfl)
    exact k h18 0 g18 F19 (by omega) (show (h18 238 98) + (h18 238 99) + (h18 238 100) + (h18 238 101) + (h18 238 102) + (h18 238 106) = (h18 238 73) by omega) (show (h18 238 73) ≤ (h18 238 2) by omega) (show (h18 238 119) ≤ (h18 238 67) by omega) (show (h18 238 69) ≤ (h18 238 5) by omega) (show (h18 238 2) ≤ 12 * (h18 238 5) by omega) (fun i _ => (u18 238 i (fn_a (by omega) fn_0)))
  ·
    refine wi_lload_n (i := 0) (e := a0) (nx := 7) (r1 := 0) (r2 := 0) (r3 := 0) rfl rfl ?_
    refine wi_lload (i := 4) (e := e13) (nx := 9) (r1 := 0) (r2 := 0) (r3 := 0) rfl rfl ?_
    refine wi_lcmp (a := a0) (e := e13) (nx := 10) (r1 := 0) (r2 := 0) (r3 := 0) rfl (by omega) (by omega) (fun r16 (fr16 : (r16 = -1 ∧ a0 < e13) ∨ (r16 = 0 ∧ a0 = e13) ∨ (r16 = 1 ∧ e13 < a0)) => ?_)
    refine wi_if (cd := .gt) (nx := 13) (r1 := 17) (r2 := 0) (r3 := 0) rfl (by omega) (fun (q17 : 0 < r16) => ?_) (fun (q17 : ¬ (0 < r16)) => ?_)
    ·
      refine wi_iconst (n := 0) (nx := 18) (r1 := 0) (r2 := 0) (r3 := 0) rfl ?_
      refine wi_zreturn (nx := 19) (r1 := 0) (r2 := 0) (r3 := 0) rfl rfl (by omega) ?_
      refine wk_i ?_
      refine wi_zreturn (nx := 16) (r1 := 0) (r2 := 0) (r3 := 0) rfl rfl (by omega) ?_
      refine wk_i ?_
      refine wr_V (k0 := 236) (rest := []) (as := [.ref 236, vi 0]) (nx := 9) (r1 := 206) (r2 := 1) (r3 := 11) rfl rfl rfl (of_decide_eq_true rfl) rfl rfl (by decide) rfl rfl (of_decide_eq_true rfl) (of_decide_eq_true rfl) ?_
      refine wi_aload_n (i := 0) (x := 236) (nx := 1) (r1 := 0) (r2 := 0) (r3 := 0) rfl rfl ?_
      refine wi_iload_n (i := 1) (e := 0) (nx := 2) (r1 := 0) (r2 := 0) (r3 := 0) rfl rfl ?_
      refine wi_if (cd := .ne) (nx := 5) (r1 := 9) (r2 := 0) (r3 := 0) rfl (by omega) (fun (q18 : 0 ≠ 0) => by exfalso; omega) (fun (q18 : ¬ (0 ≠ 0)) => ?_)
      refine wi_iconst (n := 1) (nx := 6) (r1 := 0) (r2 := 0) (r3 := 0) rfl ?_
      refine wi_goto (nx := 9) (r1 := 10) (r2 := 0) (r3 := 0) rfl ?_
      refine wi_S (rest := [.ref 236]) (as := [vi 1]) (nx := 13) (r1 := 207) (r2 := 17) (r3 := 0) rfl rfl rfl (of_decide_eq_true rfl) rfl rfl (of_decide_eq_true rfl) (of_decide_eq_true rfl) ?_
      refine wi_iload_n (i := 0) (e := 1) (nx := 1) (r1 := 0) (r2 := 0) (r3 := 0) rfl rfl ?_
      refine wi_if (cd := .eq) (nx := 4) (r1 := 8) (r2 := 0) (r3 := 0) rfl (by omega) (fun (q19 : 1 = 0) => by exfalso; omega) (fun (q19 : ¬ (1 = 0)) => ?_)
      refine wi_iconst (n := 1) (nx := 5) (r1 := 0) (r2 := 0) (r3 := 0) rfl ?_
      refine wi_goto (nx := 8) (r1 := 9) (r2 := 0) (r3 := 0) rfl ?_
      refine wi_ireturn (nx := 10) (r1 := 0) (r2 := 0) (r3 := 0) rfl rfl ?_
      refine wk_i ?_
      refine wr_pf0 (k0 := 236) (x := 1) (bl := 0) (bh := 2) (nx := 16) (r1 := 11) (r2 := 0) (r3 := 0) rfl (by decide) rfl ⟨rfl, rfl⟩ rfl rfl g rfl (by omega) (fun h20 g20 w20 u20 => ?_)
      have F21 := F0.then rfl u20
      refine wi_iload_n (i := 1) (e := 0) (nx := 17) (r1 := 0) (r2 := 0) (r3 := 0) rfl rfl ?_
      refine wi_zreturn (nx := 18) (r1 := 0) (r2 := 0) (r3 := 0) rfl rfl (by omega) ?_
      refine wk_i ?_
      refine wi_if (cd := .ne) (nx := 12) (r1 := 14) (r2 := 0) (r3 := 0) rfl (by omega) (fun (q22 : 0 ≠ 0) => by exfalso; omega) (fun (q22 : ¬ (0 ≠ 0)) => ?_)
      refine wi_iconst (n := 0) (nx := 13) (r1 := 0) (r2 := 0) (r3 := 0) rfl ?_
      refine wi_ireturn (nx := 14) (r1 := 0) (r2 := 0) (r3 := 0) rfl rfl ?_
      have e23 : h20 238 98 = h 238 98 := (u20 238 98 rfl)
      have e24 : h20 238 99 = h 238 99 := (u20 238 99 rfl)
      have e25 : h20 238 100 = h 238 100 := (u20 238 100 rfl)
      have e26 : h20 238 101 = h 238 101 := (u20 238 101 rfl)
      have e27 : h20 238 102 = h 238 102 := (u20 238 102 rfl)
      have e28 : h20 238 106 = h 238 106 := (u20 238 106 rfl)
      have e29 : h20 238 73 = h 238 73 := (u20 238 73 rfl)
      have e30 : h20 238 2 = h 238 2 := (u20 238 2 rfl)
      have e31 : h20 238 119 = h 238 119 := (u20 238 119 rfl)
      have e32 : h20 238 67 = h 238 67 := (u20 238 67 rfl)
      have e33 : h20 238 69 = h 238 69 := (u20 238 69 rfl)
      have e34 : h20 238 5 = h 238 5 := (u20 238 5 rfl)
      exact k h20 0 g20 F21 (by omega) (show (h20 238 98) + (h20 238 99) + (h20 238 100) + (h20 238 101) + (h20 238 102) + (h20 238 106) = (h20 238 73) by omega) (show (h20 238 73) ≤ (h20 238 2) by omega) (show (h20 238 119) ≤ (h20 238 67) by omega) (show (h20 238 69) ≤ (h20 238 5) by omega) (show (h20 238 2) ≤ 12 * (h20 238 5) by omega) (fun i _ => (u20 238 i (fn_a (by omega) fn_0)))
    ·
      refine wi_iconst (n := 1) (nx := 14) (r1 := 0) (r2 := 0) (r3 := 0) rfl ?_
      refine wi_goto (nx := 17) (r1 := 18) (r2 := 0) (r3 := 0) rfl ?_
      refine wi_zreturn (nx := 19) (r1 := 0) (r2 := 0) (r3 := 0) rfl rfl (by omega) ?_
      refine wk_i ?_
      refine wi_zreturn (nx := 16) (r1 := 0) (r2 := 0) (r3 := 0) rfl rfl (by omega) ?_
      refine wk_i ?_
      refine wr_V (k0 := 236) (rest := []) (as := [.ref 236, vi 1]) (nx := 9) (r1 := 206) (r2 := 1) (r3 := 11) rfl rfl rfl (of_decide_eq_true rfl) rfl rfl (by decide) rfl rfl (of_decide_eq_true rfl) (of_decide_eq_true rfl) ?_
      refine wi_aload_n (i := 0) (x := 236) (nx := 1) (r1 := 0) (r2 := 0) (r3 := 0) rfl rfl ?_
      refine wi_iload_n (i := 1) (e := 1) (nx := 2) (r1 := 0) (r2 := 0) (r3 := 0) rfl rfl ?_
      refine wi_if (cd := .ne) (nx := 5) (r1 := 9) (r2 := 0) (r3 := 0) rfl (by omega) (fun (q18 : 1 ≠ 0) => ?_) (fun (q18 : ¬ (1 ≠ 0)) => by exfalso; omega)
      refine wi_iconst (n := 0) (nx := 10) (r1 := 0) (r2 := 0) (r3 := 0) rfl ?_
      refine wi_S (rest := [.ref 236]) (as := [vi 0]) (nx := 13) (r1 := 207) (r2 := 17) (r3 := 0) rfl rfl rfl (of_decide_eq_true rfl) rfl rfl (of_decide_eq_true rfl) (of_decide_eq_true rfl) ?_
      refine wi_iload_n (i := 0) (e := 0) (nx := 1) (r1 := 0) (r2 := 0) (r3 := 0) rfl rfl ?_
      refine wi_if (cd := .eq) (nx := 4) (r1 := 8) (r2 := 0) (r3 := 0) rfl (by omega) (fun (q19 : 0 = 0) => ?_) (fun (q19 : ¬ (0 = 0)) => by exfalso; omega)
      refine wi_iconst (n := 0) (nx := 9) (r1 := 0) (r2 := 0) (r3 := 0) rfl ?_
      refine wi_ireturn (nx := 10) (r1 := 0) (r2 := 0) (r3 := 0) rfl rfl ?_
      refine wk_i ?_
      refine wr_pf0 (k0 := 236) (x := 0) (bl := 0) (bh := 2) (nx := 16) (r1 := 11) (r2 := 0) (r3 := 0) rfl (by decide) rfl ⟨rfl, rfl⟩ rfl rfl g rfl (by omega) (fun h20 g20 w20 u20 => ?_)
      have F21 := F0.then rfl u20
      refine wi_iload_n (i := 1) (e := 1) (nx := 17) (r1 := 0) (r2 := 0) (r3 := 0) rfl rfl ?_
      refine wi_zreturn (nx := 18) (r1 := 0) (r2 := 0) (r3 := 0) rfl rfl (by omega) ?_
      refine wk_i ?_
      refine wi_if (cd := .ne) (nx := 12) (r1 := 14) (r2 := 0) (r3 := 0) rfl (by omega) (fun (q22 : 1 ≠ 0) => ?_) (fun (q22 : ¬ (1 ≠ 0)) => by exfalso; omega)
      refine wi_aload_n (i := 0) (x := 236) (nx := 15) (r1 := 0) (r2 := 0) (r3 := 0) rfl rfl ?_
      refine wr_gr (k0 := 236) (x := 238) (nx := 18) (r1 := 11) (r2 := 13) (r3 := 0) rfl rfl (by decide) rfl ⟨rfl, rfl⟩ rfl ?_
      refine wi_aload_n (i := 0) (x := 236) (nx := 19) (r1 := 0) (r2 := 0) (r3 := 0) rfl rfl ?_
      refine wr_gr (k0 := 236) (x := 240) (nx := 22) (r1 := 11) (r2 := 15) (r3 := 0) rfl rfl (by decide) rfl ⟨rfl, rfl⟩ rfl ?_
      refine wi_S (rest := []) (as := [.ref 238, .ref 240]) (nx := 25) (r1 := 238) (r2 := 18) (r3 := 0) rfl rfl rfl (of_decide_eq_true rfl) rfl rfl (of_decide_eq_true rfl) (of_decide_eq_true rfl) ?_
      refine ct_238_238_240 hcr  g20    (fun h23 g23 u23 y23_0 => ?_)
      have F24 := F21.then (by decide +kernel) u23
      refine wk_n ?_
      refine wi_iconst (n := 0) (nx := 26) (r1 := 0) (r2 := 0) (r3 := 0) rfl ?_
      refine wi_istore_n (i := 2) (e := 0) (lo2 := [(2, vi 0), (0, .ref 236), (1, vi a0)]) (nx := 27) (r1 := 0) (r2 := 0) (r3 := 0) rfl rfl ?_
      have e27 : h23 238 98 = h 238 98 := ((u23 238 98 rfl).trans (u20 238 98 rfl))
      have e28 : h23 238 99 = h 238 99 := ((u23 238 99 rfl).trans (u20 238 99 rfl))
      have e29 : h23 238 100 = h 238 100 := ((u23 238 100 rfl).trans (u20 238 100 rfl))
      have e30 : h23 238 101 = h 238 101 := ((u23 238 101 rfl).trans (u20 238 101 rfl))
      have e31 : h23 238 102 = h 238 102 := ((u23 238 102 rfl).trans (u20 238 102 rfl))
      have e32 : h23 238 106 = h 238 106 := ((u23 238 106 rfl).trans (u20 238 106 rfl))
      have e33 : h23 238 73 = h 238 73 := ((u23 238 73 rfl).trans (u20 238 73 rfl))
      have e34 : h23 238 2 = h 238 2 := ((u23 238 2 rfl).trans (u20 238 2 rfl))
      have e35 : h23 238 119 = h 238 119 := ((u23 238 119 rfl).trans (u20 238 119 rfl))
      have e36 : h23 238 67 = h 238 67 := ((u23 238 67 rfl).trans (u20 238 67 rfl))
      have e37 : h23 238 69 = h 238 69 := ((u23 238 69 rfl).trans (u20 238 69 rfl))
      have e38 : h23 238 5 = h 238 5 := ((u23 238 5 rfl).trans (u20 238 5 rfl))
      refine wp.lo (lo := [(0, .ref 236), (1, vi a0), (2, vi 0)]) ⟨rfl, rfl, rfl, trivial⟩ rfl ?_
      refine wl_1 (fun x25 h26 => GI h26 ∧ FR [(238, 238, none), (240, 240, none), (236, 236, some (0, 0)), (236, 236, some (28, 28))] h h26 ∧ FR [(236, 236, some (28, 28)), (238, 238, some (43, 54)), (238, 238, some (55, 66)), (238, 238, some (67, 67)), (238, 238, some (68, 68)), (238, 238, some (69, 69)), (238, 238, some (70, 70)), (238, 238, some (71, 71)), (238, 238, some (72, 72)), (238, 238, some (73, 73)), (238, 238, some (74, 79)), (238, 238, some (80, 85)), (238, 238, some (86, 91)), (238, 238, some (92, 97)), (238, 238, some (98, 98)), (238, 238, some (99, 99)), (238, 238, some (100, 100)), (238, 238, some (101, 101)), (238, 238, some (102, 102)), (238, 238, some (103, 105)), (238, 238, some (106, 106)), (238, 238, some (107, 118)), (238, 238, some (119, 119)), (238, 238, some (120, 196)), (238, 238, some (121, 197)), (238, 238, some (122, 198)), (238, 238, some (123, 199))] h23 h26 ∧ ((0 ≤ x25 ∧ x25 ≤ 300) ∧ ((h26 238 98) + (h26 238 99) + (h26 238 100) + (h26 238 101) + (h26 238 102) + (h26 238 106) = (h26 238 73)) ∧ ((h26 238 73) ≤ (h26 238 2)) ∧ ((h26 238 119) ≤ (h26 238 67)) ∧ ((h26 238 69) ≤ (h26 238 5)) ∧ ((h26 238 2) ≤ 12 * (h26 238 5)))) (fun x25 h26 => ((300 : Int) + 1 - x25).toNat) (fun x25 h26 => (27, [(0, .ref 236), (1, vi a0), (2, vi x25)], [], hp_w h26 cr, b, c)) ?_ 0 h23 ⟨g23, F24, FR.refl, (show (0 ≤ 0 ∧ 0 ≤ 300) ∧ ((h23 238 98) + (h23 238 99) + (h23 238 100) + (h23 238 101) + (h23 238 102) + (h23 238 106) = (h23 238 73)) ∧ ((h23 238 73) ≤ (h23 238 2)) ∧ ((h23 238 119) ≤ (h23 238 67)) ∧ ((h23 238 69) ≤ (h23 238 5)) ∧ ((h23 238 2) ≤ 12 * (h23 238 5)) by omega)⟩
      intro x25 h26 ⟨g26, F39, u26, f26⟩ I26
      have b40 := gi_b (lo := 0) (hi := 6) g26 238 98 rfl
      have b41 := gi_b (lo := 0) (hi := 6) g26 238 99 rfl
      have b42 := gi_b (lo := 0) (hi := 6) g26 238 100 rfl
      have b43 := gi_b (lo := 0) (hi := 6) g26 238 101 rfl
      have b44 := gi_b (lo := 0) (hi := 3) g26 238 102 rfl
      have b45 := gi_b (lo := 0) (hi := 12) g26 238 106 rfl
      have b46 := gi_b (lo := 0) (hi := 12) g26 238 73 rfl
      have e47 : h26 238 2 = h 238 2 := ((u26 238 2 rfl).trans ((u23 238 2 rfl).trans (u20 238 2 rfl)))
      have b48 := gi_b (lo := 0) (hi := 9999) g26 238 119 rfl
      have b49 := gi_b (lo := 0) (hi := 9999) g26 238 67 rfl
      have b50 := gi_b (lo := 0) (hi := 9) g26 238 69 rfl
      have e51 : h26 238 5 = h 238 5 := ((u26 238 5 rfl).trans ((u23 238 5 rfl).trans (u20 238 5 rfl)))
      refine wi_aload_n (i := 0) (x := 236) (nx := 28) (r1 := 0) (r2 := 0) (r3 := 0) rfl rfl ?_
      refine wi_iload_n (i := 1) (e := a0) (nx := 29) (r1 := 0) (r2 := 0) (r3 := 0) rfl rfl ?_
      refine wr_V (k0 := 236) (rest := []) (as := [.ref 236, vi a0]) (nx := 32) (r1 := 253) (r2 := 1) (r3 := 11) rfl rfl rfl (of_decide_eq_true rfl) rfl rfl (by decide) rfl rfl (of_decide_eq_true rfl) (of_decide_eq_true rfl) ?_
      refine wi_aload_n (i := 0) (x := 236) (nx := 1) (r1 := 0) (r2 := 0) (r3 := 0) rfl rfl ?_
      refine wi_bipush (n := 107) (nx := 3) (r1 := 0) (r2 := 0) (r3 := 0) rfl (by decide) ?_
      refine wi_aload_n (i := 0) (x := 236) (nx := 4) (r1 := 0) (r2 := 0) (r3 := 0) rfl rfl ?_
      refine wr_gr (k0 := 236) (x := 238) (nx := 7) (r1 := 11) (r2 := 13) (r3 := 0) rfl rfl (by decide) rfl ⟨rfl, rfl⟩ rfl ?_
      refine wi_bipush (n := 106) (nx := 9) (r1 := 0) (r2 := 0) (r3 := 0) rfl (by decide) ?_
      refine wr_ia (k0 := 238) (a := 106) (f := 106) (x := h26 238 106) (nx := 10) (r1 := 0) (r2 := 0) (r3 := 0) rfl (by decide) rfl (by omega) (by omega) (by decide) rfl ?_
      refine wi_iload_n (i := 1) (e := a0) (nx := 11) (r1 := 0) (r2 := 0) (r3 := 0) rfl rfl ?_
      refine wr_V (k0 := 236) (rest := []) (as := [.ref 236, vi 107, vi (h26 238 106), vi a0]) (nx := 14) (r1 := 254) (r2 := 3) (r3 := 11) rfl rfl rfl (of_decide_eq_true rfl) rfl rfl (by decide) rfl rfl (of_decide_eq_true rfl) (of_decide_eq_true rfl) ?_
      refine wi_iconst (n := 0) (nx := 1) (r1 := 0) (r2 := 0) (r3 := 0) rfl ?_
      refine wi_istore (i := 4) (e := 0) (lo2 := [(4, vi 0), (0, .ref 236), (1, vi 107), (2, vi (h26 238 106)), (3, vi a0)]) (nx := 3) (r1 := 0) (r2 := 0) (r3 := 0) rfl rfl ?_
      refine wp.lo (lo := [(0, .ref 236), (1, vi 107), (2, vi (h26 238 106)), (3, vi a0), (4, vi 0)]) ⟨rfl, rfl, rfl, rfl, rfl, trivial⟩ rfl ?_
      refine wl_1 (fun x52 h53 => h26 = h53 ∧ ((0 ≤ x52 ∧ x52 ≤ 12))) (fun x52 h53 => ((12 : Int) + 1 - x52).toNat) (fun x52 h53 => (3, [(0, .ref 236), (1, vi 107), (2, vi (h26 238 106)), (3, vi a0), (4, vi x52)], [], hp_w h53 cr, b, c)) ?_ 0 h26 ⟨rfl, (show (0 ≤ 0 ∧ 0 ≤ 12) by omega)⟩
      intro x52 h53 ⟨e53, f53⟩ I53
      subst e53
      refine wi_iload (i := 4) (e := x52) (nx := 5) (r1 := 0) (r2 := 0) (r3 := 0) rfl rfl ?_
      refine wi_iload_n (i := 2) (e := h26 238 106) (nx := 6) (r1 := 0) (r2 := 0) (r3 := 0) rfl rfl ?_
      refine wi_icmp (cd := .ge) (nx := 9) (r1 := 31) (r2 := 0) (r3 := 0) rfl (by omega) (by omega) (fun (q56 : (h26 238 106) ≤ x52) => ?_) (fun (q56 : ¬ ((h26 238 106) ≤ x52)) => ?_)
      ·
        refine wi_iconst (n := (-1)) (nx := 32) (r1 := 0) (r2 := 0) (r3 := 0) rfl ?_
        refine wi_ireturn (nx := 33) (r1 := 0) (r2 := 0) (r3 := 0) rfl rfl ?_
        refine wk_i ?_
        refine wi_ireturn (nx := 15) (r1 := 0) (r2 := 0) (r3 := 0) rfl rfl ?_
        refine wk_i ?_
        refine wi_iconst (n := (-1)) (nx := 33) (r1 := 0) (r2 := 0) (r3 := 0) rfl ?_
        refine wi_icmp (cd := .ne) (nx := 36) (r1 := 57) (r2 := 0) (r3 := 0) rfl (by omega) (by omega) (fun (q57 : (-1) ≠ (-1)) => by exfalso; omega) (fun (q57 : ¬ ((-1) ≠ (-1))) => ?_)
        refine wi_iload_n (i := 2) (e := x25) (nx := 37) (r1 := 0) (r2 := 0) (r3 := 0) rfl rfl ?_
        refine wi_sipush (n := 300) (nx := 40) (r1 := 0) (r2 := 0) (r3 := 0) rfl (by decide) ?_
        refine wi_icmp (cd := .ge) (nx := 43) (r1 := 57) (r2 := 0) (r3 := 0) rfl (by omega) (by omega) (fun (q58 : 300 ≤ x25) => ?_) (fun (q58 : ¬ (300 ≤ x25)) => ?_)
        ·
          refine wi_aload_n (i := 0) (x := 236) (nx := 58) (r1 := 0) (r2 := 0) (r3 := 0) rfl rfl ?_
          refine wi_iload_n (i := 1) (e := a0) (nx := 59) (r1 := 0) (r2 := 0) (r3 := 0) rfl rfl ?_
          refine wr_V (k0 := 236) (rest := []) (as := [.ref 236, vi a0]) (nx := 62) (r1 := 253) (r2 := 1) (r3 := 11) rfl rfl rfl (of_decide_eq_true rfl) rfl rfl (by decide) rfl rfl (of_decide_eq_true rfl) (of_decide_eq_true rfl) ?_
          refine wi_aload_n (i := 0) (x := 236) (nx := 1) (r1 := 0) (r2 := 0) (r3 := 0) rfl rfl ?_
          refine wi_bipush (n := 107) (nx := 3) (r1 := 0) (r2 := 0) (r3 := 0) rfl (by decide) ?_
          refine wi_aload_n (i := 0) (x := 236) (nx := 4) (r1 := 0) (r2 := 0) (r3 := 0) rfl rfl ?_
          refine wr_gr (k0 := 236) (x := 238) (nx := 7) (r1 := 11) (r2 := 13) (r3 := 0) rfl rfl (by decide) rfl ⟨rfl, rfl⟩ rfl ?_
          refine wi_bipush (n := 106) (nx := 9) (r1 := 0) (r2 := 0) (r3 := 0) rfl (by decide) ?_
          refine wr_ia (k0 := 238) (a := 106) (f := 106) (x := h26 238 106) (nx := 10) (r1 := 0) (r2 := 0) (r3 := 0) rfl (by decide) rfl (by omega) (by omega) (by decide) rfl ?_
          refine wi_iload_n (i := 1) (e := a0) (nx := 11) (r1 := 0) (r2 := 0) (r3 := 0) rfl rfl ?_
          refine wr_V (k0 := 236) (rest := []) (as := [.ref 236, vi 107, vi (h26 238 106), vi a0]) (nx := 14) (r1 := 254) (r2 := 3) (r3 := 11) rfl rfl rfl (of_decide_eq_true rfl) rfl rfl (by decide) rfl rfl (of_decide_eq_true rfl) (of_decide_eq_true rfl) ?_
          refine wi_iconst (n := 0) (nx := 1) (r1 := 0) (r2 := 0) (r3 := 0) rfl ?_
          refine wi_istore (i := 4) (e := 0) (lo2 := [(4, vi 0), (0, .ref 236), (1, vi 107), (2, vi (h26 238 106)), (3, vi a0)]) (nx := 3) (r1 := 0) (r2 := 0) (r3 := 0) rfl rfl ?_
          refine wp.lo (lo := [(0, .ref 236), (1, vi 107), (2, vi (h26 238 106)), (3, vi a0), (4, vi 0)]) ⟨rfl, rfl, rfl, rfl, rfl, trivial⟩ rfl ?_
          refine wl_1 (fun x59 h60 => h26 = h60 ∧ ((0 ≤ x59 ∧ x59 ≤ 12))) (fun x59 h60 => ((12 : Int) + 1 - x59).toNat) (fun x59 h60 => (3, [(0, .ref 236), (1, vi 107), (2, vi (h26 238 106)), (3, vi a0), (4, vi x59)], [], hp_w h60 cr, b, c)) ?_ 0 h26 ⟨rfl, (show (0 ≤ 0 ∧ 0 ≤ 12) by omega)⟩
          intro x59 h60 ⟨e60, f60⟩ I60
          subst e60
          refine wi_iload (i := 4) (e := x59) (nx := 5) (r1 := 0) (r2 := 0) (r3 := 0) rfl rfl ?_
          refine wi_iload_n (i := 2) (e := h26 238 106) (nx := 6) (r1 := 0) (r2 := 0) (r3 := 0) rfl rfl ?_
          refine wi_icmp (cd := .ge) (nx := 9) (r1 := 31) (r2 := 0) (r3 := 0) rfl (by omega) (by omega) (fun (q62 : (h26 238 106) ≤ x59) => ?_) (fun (q62 : ¬ ((h26 238 106) ≤ x59)) => ?_)
          ·
            refine wi_iconst (n := (-1)) (nx := 32) (r1 := 0) (r2 := 0) (r3 := 0) rfl ?_
            refine wi_ireturn (nx := 33) (r1 := 0) (r2 := 0) (r3 := 0) rfl rfl ?_
            refine wk_i ?_
            refine wi_ireturn (nx := 15) (r1 := 0) (r2 := 0) (r3 := 0) rfl rfl ?_
            refine wk_i ?_
            refine wi_iconst (n := (-1)) (nx := 63) (r1 := 0) (r2 := 0) (r3 := 0) rfl ?_
            refine wi_icmp (cd := .eq) (nx := 66) (r1 := 70) (r2 := 0) (r3 := 0) rfl (by omega) (by omega) (fun (q63 : (-1) = (-1)) => ?_) (fun (q63 : ¬ ((-1) = (-1))) => by exfalso; omega)
            refine wi_iconst (n := 0) (nx := 71) (r1 := 0) (r2 := 0) (r3 := 0) rfl ?_
            refine wi_istore_n (i := 3) (e := 0) (lo2 := [(3, vi 0), (0, .ref 236), (1, vi a0), (2, vi x25)]) (nx := 72) (r1 := 0) (r2 := 0) (r3 := 0) rfl rfl ?_
            refine wi_aload_n (i := 0) (x := 236) (nx := 73) (r1 := 0) (r2 := 0) (r3 := 0) rfl rfl ?_
            refine wr_gr (k0 := 236) (x := 240) (nx := 76) (r1 := 11) (r2 := 15) (r3 := 0) rfl rfl (by decide) rfl ⟨rfl, rfl⟩ rfl ?_
            refine wi_aload_n (i := 0) (x := 236) (nx := 77) (r1 := 0) (r2 := 0) (r3 := 0) rfl rfl ?_
            refine wr_gr (k0 := 236) (x := 238) (nx := 80) (r1 := 11) (r2 := 13) (r3 := 0) rfl rfl (by decide) rfl ⟨rfl, rfl⟩ rfl ?_
            refine wi_S (rest := []) (as := [.ref 240, .ref 238]) (nx := 83) (r1 := 238) (r2 := 18) (r3 := 0) rfl rfl rfl (of_decide_eq_true rfl) rfl rfl (of_decide_eq_true rfl) (of_decide_eq_true rfl) ?_
            refine ct_238_240_238 hcr  g26    (fun h64 g64 u64 y64_0 => ?_)
            have F65 := F39.then (by decide +kernel) u64
            refine wk_n ?_
            refine wi_iload_n (i := 3) (e := 0) (nx := 84) (r1 := 0) (r2 := 0) (r3 := 0) rfl rfl ?_
            refine wi_if (cd := .eq) (nx := 87) (r1 := 91) (r2 := 0) (r3 := 0) rfl (by omega) (fun (q66 : 0 = 0) => ?_) (fun (q66 : ¬ (0 = 0)) => by exfalso; omega)
            refine wi_iconst (n := (-1)) (nx := 92) (r1 := 0) (r2 := 0) (r3 := 0) rfl ?_
            refine wi_ireturn (nx := 93) (r1 := 0) (r2 := 0) (r3 := 0) rfl rfl ?_
            have e67 : h64 238 98 = h 238 98 := ((y64_0 98 (by decide)).trans ((u26 240 98 rfl).trans ((y23_0 98 (by decide)).trans (u20 238 98 rfl))))
            have e68 : h64 238 99 = h 238 99 := ((y64_0 99 (by decide)).trans ((u26 240 99 rfl).trans ((y23_0 99 (by decide)).trans (u20 238 99 rfl))))
            have e69 : h64 238 100 = h 238 100 := ((y64_0 100 (by decide)).trans ((u26 240 100 rfl).trans ((y23_0 100 (by decide)).trans (u20 238 100 rfl))))
            have e70 : h64 238 101 = h 238 101 := ((y64_0 101 (by decide)).trans ((u26 240 101 rfl).trans ((y23_0 101 (by decide)).trans (u20 238 101 rfl))))
            have e71 : h64 238 102 = h 238 102 := ((y64_0 102 (by decide)).trans ((u26 240 102 rfl).trans ((y23_0 102 (by decide)).trans (u20 238 102 rfl))))
            have e72 : h64 238 106 = h 238 106 := ((y64_0 106 (by decide)).trans ((u26 240 106 rfl).trans ((y23_0 106 (by decide)).trans (u20 238 106 rfl))))
            have e73 : h64 238 73 = h 238 73 := ((y64_0 73 (by decide)).trans ((u26 240 73 rfl).trans ((y23_0 73 (by decide)).trans (u20 238 73 rfl))))
            have e74 : h64 238 2 = h 238 2 := ((y64_0 2 (by decide)).trans ((u26 240 2 rfl).trans ((y23_0 2 (by decide)).trans (u20 238 2 rfl))))
            have e75 : h64 238 119 = h 238 119 := ((y64_0 119 (by decide)).trans ((u26 240 119 rfl).trans ((y23_0 119 (by decide)).trans (u20 238 119 rfl))))
            have e76 : h64 238 67 = h 238 67 := ((y64_0 67 (by decide)).trans ((u26 240 67 rfl).trans ((y23_0 67 (by decide)).trans (u20 238 67 rfl))))
            have e77 : h64 238 69 = h 238 69 := ((y64_0 69 (by decide)).trans ((u26 240 69 rfl).trans ((y23_0 69 (by decide)).trans (u20 238 69 rfl))))
            have e78 : h64 238 5 = h 238 5 := ((y64_0 5 (by decide)).trans ((u26 240 5 rfl).trans ((y23_0 5 (by decide)).trans (u20 238 5 rfl))))
            exact k h64 (-1) g64 F65 (by omega) (show (h64 238 98) + (h64 238 99) + (h64 238 100) + (h64 238 101) + (h64 238 102) + (h64 238 106) = (h64 238 73) by omega) (show (h64 238 73) ≤ (h64 238 2) by omega) (show (h64 238 119) ≤ (h64 238 67) by omega) (show (h64 238 69) ≤ (h64 238 5) by omega) (show (h64 238 2) ≤ 12 * (h64 238 5) by omega) (fun i _ => ((y64_0 i (by omega)).trans ((u26 240 i (fo_nk rfl)).trans ((y23_0 i (by omega)).trans (u20 238 i (fn_a (by omega) fn_0))))))
          ·
            refine wi_aload_n (i := 0) (x := 236) (nx := 10) (r1 := 0) (r2 := 0) (r3 := 0) rfl rfl ?_
            refine wr_gr (k0 := 236) (x := 238) (nx := 13) (r1 := 11) (r2 := 13) (r3 := 0) rfl rfl (by decide) rfl ⟨rfl, rfl⟩ rfl ?_
            refine wi_iload_n (i := 1) (e := 107) (nx := 14) (r1 := 0) (r2 := 0) (r3 := 0) rfl rfl ?_
            refine wi_iload (i := 4) (e := x59) (nx := 16) (r1 := 0) (r2 := 0) (r3 := 0) rfl rfl ?_
            refine wr_add (nx := 17) (r1 := 0) (r2 := 0) (r3 := 0) rfl (fun e63 (fe63 : e63 = 107 + x59) => ?_)
            obtain ⟨i64, ei64⟩ : ∃ q : Nat, e63 = (q : Int) := ⟨(e63).toNat, by omega⟩
            have b65 := gi_b (lo := 0) (hi := 11) g26 238 i64 (gi_rg 107 12 (fun _ => rfl) (by decide +kernel) (by omega))
            refine wr_ia (k0 := 238) (a := e63) (f := i64) (x := h26 238 i64) (nx := 18) (r1 := 0) (r2 := 0) (r3 := 0) rfl (by decide) rfl (by omega) (by omega) (by decide) rfl ?_
            refine wi_iload_n (i := 3) (e := a0) (nx := 19) (r1 := 0) (r2 := 0) (r3 := 0) rfl rfl ?_
            refine wi_icmp (cd := .ne) (nx := 22) (r1 := 25) (r2 := 0) (r3 := 0) rfl (by omega) (by omega) (fun (q66 : (h26 238 i64) ≠ a0) => ?_) (fun (q66 : ¬ ((h26 238 i64) ≠ a0)) => ?_)
            ·
              refine wr_iinc (i := 4) (n := 1) (v := x59) (fun e67 => [(4, vi e67), (0, .ref 236), (1, vi 107), (2, vi (h26 238 106)), (3, vi a0)]) (nx := 28) (r1 := 0) (r2 := 0) (r3 := 0) rfl rfl (fun _ => rfl) (fun e67 (fe67 : e67 = x59 + 1) => ?_)
              refine wi_goto (nx := 31) (r1 := 3) (r2 := 0) (r3 := 0) rfl ?_
              refine wp.lo (lo := [(0, .ref 236), (1, vi 107), (2, vi (h26 238 106)), (3, vi a0), (4, vi e67)]) ⟨rfl, rfl, rfl, rfl, rfl, trivial⟩ rfl ?_
              exact I60 e67 h26 ⟨rfl, (show (0 ≤ e67 ∧ e67 ≤ 12) by omega)⟩ (show ((12 : Int) + 1 - e67).toNat < ((12 : Int) + 1 - x59).toNat by omega)
            ·
              refine wi_iload (i := 4) (e := x59) (nx := 24) (r1 := 0) (r2 := 0) (r3 := 0) rfl rfl ?_
              refine wi_ireturn (nx := 25) (r1 := 0) (r2 := 0) (r3 := 0) rfl rfl ?_
              refine wk_i ?_
              refine wi_ireturn (nx := 15) (r1 := 0) (r2 := 0) (r3 := 0) rfl rfl ?_
              refine wk_i ?_
              refine wi_iconst (n := (-1)) (nx := 63) (r1 := 0) (r2 := 0) (r3 := 0) rfl ?_
              refine wi_icmp (cd := .eq) (nx := 66) (r1 := 70) (r2 := 0) (r3 := 0) rfl (by omega) (by omega) (fun (q67 : x59 = (-1)) => by exfalso; omega) (fun (q67 : ¬ (x59 = (-1))) => ?_)
              refine wi_iconst (n := 1) (nx := 67) (r1 := 0) (r2 := 0) (r3 := 0) rfl ?_
              refine wi_goto (nx := 70) (r1 := 71) (r2 := 0) (r3 := 0) rfl ?_
              refine wi_istore_n (i := 3) (e := 1) (lo2 := [(3, vi 1), (0, .ref 236), (1, vi a0), (2, vi x25)]) (nx := 72) (r1 := 0) (r2 := 0) (r3 := 0) rfl rfl ?_
              refine wi_aload_n (i := 0) (x := 236) (nx := 73) (r1 := 0) (r2 := 0) (r3 := 0) rfl rfl ?_
              refine wr_gr (k0 := 236) (x := 240) (nx := 76) (r1 := 11) (r2 := 15) (r3 := 0) rfl rfl (by decide) rfl ⟨rfl, rfl⟩ rfl ?_
              refine wi_aload_n (i := 0) (x := 236) (nx := 77) (r1 := 0) (r2 := 0) (r3 := 0) rfl rfl ?_
              refine wr_gr (k0 := 236) (x := 238) (nx := 80) (r1 := 11) (r2 := 13) (r3 := 0) rfl rfl (by decide) rfl ⟨rfl, rfl⟩ rfl ?_
              refine wi_S (rest := []) (as := [.ref 240, .ref 238]) (nx := 83) (r1 := 238) (r2 := 18) (r3 := 0) rfl rfl rfl (of_decide_eq_true rfl) rfl rfl (of_decide_eq_true rfl) (of_decide_eq_true rfl) ?_
              refine ct_238_240_238 hcr  g26    (fun h68 g68 u68 y68_0 => ?_)
              have F69 := F39.then (by decide +kernel) u68
              refine wk_n ?_
              refine wi_iload_n (i := 3) (e := 1) (nx := 84) (r1 := 0) (r2 := 0) (r3 := 0) rfl rfl ?_
              refine wi_if (cd := .eq) (nx := 87) (r1 := 91) (r2 := 0) (r3 := 0) rfl (by omega) (fun (q70 : 1 = 0) => by exfalso; omega) (fun (q70 : ¬ (1 = 0)) => ?_)
              refine wi_iload_n (i := 2) (e := x25) (nx := 88) (r1 := 0) (r2 := 0) (r3 := 0) rfl rfl ?_
              refine wi_goto (nx := 91) (r1 := 92) (r2 := 0) (r3 := 0) rfl ?_
              refine wi_ireturn (nx := 93) (r1 := 0) (r2 := 0) (r3 := 0) rfl rfl ?_
              have e71 : h68 238 98 = h 238 98 := ((y68_0 98 (by decide)).trans ((u26 240 98 rfl).trans ((y23_0 98 (by decide)).trans (u20 238 98 rfl))))
              have e72 : h68 238 99 = h 238 99 := ((y68_0 99 (by decide)).trans ((u26 240 99 rfl).trans ((y23_0 99 (by decide)).trans (u20 238 99 rfl))))
              have e73 : h68 238 100 = h 238 100 := ((y68_0 100 (by decide)).trans ((u26 240 100 rfl).trans ((y23_0 100 (by decide)).trans (u20 238 100 rfl))))
              have e74 : h68 238 101 = h 238 101 := ((y68_0 101 (by decide)).trans ((u26 240 101 rfl).trans ((y23_0 101 (by decide)).trans (u20 238 101 rfl))))
              have e75 : h68 238 102 = h 238 102 := ((y68_0 102 (by decide)).trans ((u26 240 102 rfl).trans ((y23_0 102 (by decide)).trans (u20 238 102 rfl))))
              have e76 : h68 238 106 = h 238 106 := ((y68_0 106 (by decide)).trans ((u26 240 106 rfl).trans ((y23_0 106 (by decide)).trans (u20 238 106 rfl))))
              have e77 : h68 238 73 = h 238 73 := ((y68_0 73 (by decide)).trans ((u26 240 73 rfl).trans ((y23_0 73 (by decide)).trans (u20 238 73 rfl))))
              have e78 : h68 238 2 = h 238 2 := ((y68_0 2 (by decide)).trans ((u26 240 2 rfl).trans ((y23_0 2 (by decide)).trans (u20 238 2 rfl))))
              have e79 : h68 238 119 = h 238 119 := ((y68_0 119 (by decide)).trans ((u26 240 119 rfl).trans ((y23_0 119 (by decide)).trans (u20 238 119 rfl))))
              have e80 : h68 238 67 = h 238 67 := ((y68_0 67 (by decide)).trans ((u26 240 67 rfl).trans ((y23_0 67 (by decide)).trans (u20 238 67 rfl))))
              have e81 : h68 238 69 = h 238 69 := ((y68_0 69 (by decide)).trans ((u26 240 69 rfl).trans ((y23_0 69 (by decide)).trans (u20 238 69 rfl))))
              have e82 : h68 238 5 = h 238 5 := ((y68_0 5 (by decide)).trans ((u26 240 5 rfl).trans ((y23_0 5 (by decide)).trans (u20 238 5 rfl))))
              exact k h68 x25 g68 F69 (by omega) (show (h68 238 98) + (h68 238 99) + (h68 238 100) + (h68 238 101) + (h68 238 102) + (h68 238 106) = (h68 238 73) by omega) (show (h68 238 73) ≤ (h68 238 2) by omega) (show (h68 238 119) ≤ (h68 238 67) by omega) (show (h68 238 69) ≤ (h68 238 5) by omega) (show (h68 238 2) ≤ 12 * (h68 238 5) by omega) (fun i _ => ((y68_0 i (by omega)).trans ((u26 240 i (fo_nk rfl)).trans ((y23_0 i (by omega)).trans (u20 238 i (fn_a (by omega) fn_0))))))
        ·
          refine wi_aload_n (i := 0) (x := 236) (nx := 44) (r1 := 0) (r2 := 0) (r3 := 0) rfl rfl ?_
          refine wr_V (k0 := 236) (rest := []) (as := [.ref 236]) (nx := 47) (r1 := 292) (r2 := 0) (r3 := 11) rfl rfl rfl (of_decide_eq_true rfl) rfl rfl (by decide) rfl rfl (of_decide_eq_true rfl) (of_decide_eq_true rfl) ?_
          refine ct_292_236 hcr  g26   (show (h26 238 98) + (h26 238 99) + (h26 238 100) + (h26 238 101) + (h26 238 102) + (h26 238 106) = (h26 238 73) by omega) (show (h26 238 73) ≤ (h26 238 2) by omega) (show (h26 238 119) ≤ (h26 238 67) by omega) (show (h26 238 69) ≤ (h26 238 5) by omega) (show (h26 238 2) ≤ 12 * (h26 238 5) by omega) (fun h59 z60 g59 u59 (fz60 : -1 ≤ z60 ∧ z60 ≤ 3) (p59_0 : (h59 238 98) + (h59 238 99) + (h59 238 100) + (h59 238 101) + (h59 238 102) + (h59 238 106) = (h59 238 73)) (p59_1 : (h59 238 73) ≤ (h59 238 2)) (p59_2 : (h59 238 119) ≤ (h59 238 67)) (p59_3 : (h59 238 69) ≤ (h59 238 5)) (p59_4 : (h59 238 2) ≤ 12 * (h59 238 5)) => ?_)
          have F61 := F39.then (by decide +kernel) u59
          have F62 := u26.then (by decide +kernel) u59
          have b63 := gi_b (lo := 0) (hi := 6) g59 238 98 rfl
          have b64 := gi_b (lo := 0) (hi := 6) g59 238 99 rfl
          have b65 := gi_b (lo := 0) (hi := 6) g59 238 100 rfl
          have b66 := gi_b (lo := 0) (hi := 6) g59 238 101 rfl
          have b67 := gi_b (lo := 0) (hi := 3) g59 238 102 rfl
          have b68 := gi_b (lo := 0) (hi := 12) g59 238 106 rfl
          have b69 := gi_b (lo := 0) (hi := 12) g59 238 73 rfl
          have e70 : h59 238 2 = h 238 2 := ((u59 238 2 rfl).trans ((u26 238 2 rfl).trans ((u23 238 2 rfl).trans (u20 238 2 rfl))))
          have b71 := gi_b (lo := 0) (hi := 9999) g59 238 119 rfl
          have b72 := gi_b (lo := 0) (hi := 9999) g59 238 67 rfl
          have b73 := gi_b (lo := 0) (hi := 9) g59 238 69 rfl
          have e74 : h59 238 5 = h 238 5 := ((u59 238 5 rfl).trans ((u26 238 5 rfl).trans ((u23 238 5 rfl).trans (u20 238 5 rfl))))
          refine wk_i ?_
          refine wi_iconst (n := (-1)) (nx := 48) (r1 := 0) (r2 := 0) (r3 := 0) rfl ?_
          refine wi_icmp (cd := .eq) (nx := 51) (r1 := 57) (r2 := 0) (r3 := 0) rfl (by omega) (by omega) (fun (q75 : z60 = (-1)) => ?_) (fun (q75 : ¬ (z60 = (-1))) => ?_)
          ·
            refine wi_aload_n (i := 0) (x := 236) (nx := 58) (r1 := 0) (r2 := 0) (r3 := 0) rfl rfl ?_
            refine wi_iload_n (i := 1) (e := a0) (nx := 59) (r1 := 0) (r2 := 0) (r3 := 0) rfl rfl ?_
            refine wr_V (k0 := 236) (rest := []) (as := [.ref 236, vi a0]) (nx := 62) (r1 := 253) (r2 := 1) (r3 := 11) rfl rfl rfl (of_decide_eq_true rfl) rfl rfl (by decide) rfl rfl (of_decide_eq_true rfl) (of_decide_eq_true rfl) ?_
            refine wi_aload_n (i := 0) (x := 236) (nx := 1) (r1 := 0) (r2 := 0) (r3 := 0) rfl rfl ?_
            refine wi_bipush (n := 107) (nx := 3) (r1 := 0) (r2 := 0) (r3 := 0) rfl (by decide) ?_
            refine wi_aload_n (i := 0) (x := 236) (nx := 4) (r1 := 0) (r2 := 0) (r3 := 0) rfl rfl ?_
            refine wr_gr (k0 := 236) (x := 238) (nx := 7) (r1 := 11) (r2 := 13) (r3 := 0) rfl rfl (by decide) rfl ⟨rfl, rfl⟩ rfl ?_
            refine wi_bipush (n := 106) (nx := 9) (r1 := 0) (r2 := 0) (r3 := 0) rfl (by decide) ?_
            refine wr_ia (k0 := 238) (a := 106) (f := 106) (x := h59 238 106) (nx := 10) (r1 := 0) (r2 := 0) (r3 := 0) rfl (by decide) rfl (by omega) (by omega) (by decide) rfl ?_
            refine wi_iload_n (i := 1) (e := a0) (nx := 11) (r1 := 0) (r2 := 0) (r3 := 0) rfl rfl ?_
            refine wr_V (k0 := 236) (rest := []) (as := [.ref 236, vi 107, vi (h59 238 106), vi a0]) (nx := 14) (r1 := 254) (r2 := 3) (r3 := 11) rfl rfl rfl (of_decide_eq_true rfl) rfl rfl (by decide) rfl rfl (of_decide_eq_true rfl) (of_decide_eq_true rfl) ?_
            refine wi_iconst (n := 0) (nx := 1) (r1 := 0) (r2 := 0) (r3 := 0) rfl ?_
            refine wi_istore (i := 4) (e := 0) (lo2 := [(4, vi 0), (0, .ref 236), (1, vi 107), (2, vi (h59 238 106)), (3, vi a0)]) (nx := 3) (r1 := 0) (r2 := 0) (r3 := 0) rfl rfl ?_
            refine wp.lo (lo := [(0, .ref 236), (1, vi 107), (2, vi (h59 238 106)), (3, vi a0), (4, vi 0)]) ⟨rfl, rfl, rfl, rfl, rfl, trivial⟩ rfl ?_
            refine wl_1 (fun x76 h77 => h59 = h77 ∧ ((0 ≤ x76 ∧ x76 ≤ 12))) (fun x76 h77 => ((12 : Int) + 1 - x76).toNat) (fun x76 h77 => (3, [(0, .ref 236), (1, vi 107), (2, vi (h59 238 106)), (3, vi a0), (4, vi x76)], [], hp_w h77 cr, b, c)) ?_ 0 h59 ⟨rfl, (show (0 ≤ 0 ∧ 0 ≤ 12) by omega)⟩
            intro x76 h77 ⟨e77, f77⟩ I77
            subst e77
            refine wi_iload (i := 4) (e := x76) (nx := 5) (r1 := 0) (r2 := 0) (r3 := 0) rfl rfl ?_
            refine wi_iload_n (i := 2) (e := h59 238 106) (nx := 6) (r1 := 0) (r2 := 0) (r3 := 0) rfl rfl ?_
            refine wi_icmp (cd := .ge) (nx := 9) (r1 := 31) (r2 := 0) (r3 := 0) rfl (by omega) (by omega) (fun (q79 : (h59 238 106) ≤ x76) => ?_) (fun (q79 : ¬ ((h59 238 106) ≤ x76)) => ?_)
            ·
              refine wi_iconst (n := (-1)) (nx := 32) (r1 := 0) (r2 := 0) (r3 := 0) rfl ?_
              refine wi_ireturn (nx := 33) (r1 := 0) (r2 := 0) (r3 := 0) rfl rfl ?_
              refine wk_i ?_
              refine wi_ireturn (nx := 15) (r1 := 0) (r2 := 0) (r3 := 0) rfl rfl ?_
              refine wk_i ?_
              refine wi_iconst (n := (-1)) (nx := 63) (r1 := 0) (r2 := 0) (r3 := 0) rfl ?_
              refine wi_icmp (cd := .eq) (nx := 66) (r1 := 70) (r2 := 0) (r3 := 0) rfl (by omega) (by omega) (fun (q80 : (-1) = (-1)) => ?_) (fun (q80 : ¬ ((-1) = (-1))) => by exfalso; omega)
              refine wi_iconst (n := 0) (nx := 71) (r1 := 0) (r2 := 0) (r3 := 0) rfl ?_
              refine wi_istore_n (i := 3) (e := 0) (lo2 := [(3, vi 0), (0, .ref 236), (1, vi a0), (2, vi x25)]) (nx := 72) (r1 := 0) (r2 := 0) (r3 := 0) rfl rfl ?_
              refine wi_aload_n (i := 0) (x := 236) (nx := 73) (r1 := 0) (r2 := 0) (r3 := 0) rfl rfl ?_
              refine wr_gr (k0 := 236) (x := 240) (nx := 76) (r1 := 11) (r2 := 15) (r3 := 0) rfl rfl (by decide) rfl ⟨rfl, rfl⟩ rfl ?_
              refine wi_aload_n (i := 0) (x := 236) (nx := 77) (r1 := 0) (r2 := 0) (r3 := 0) rfl rfl ?_
              refine wr_gr (k0 := 236) (x := 238) (nx := 80) (r1 := 11) (r2 := 13) (r3 := 0) rfl rfl (by decide) rfl ⟨rfl, rfl⟩ rfl ?_
              refine wi_S (rest := []) (as := [.ref 240, .ref 238]) (nx := 83) (r1 := 238) (r2 := 18) (r3 := 0) rfl rfl rfl (of_decide_eq_true rfl) rfl rfl (of_decide_eq_true rfl) (of_decide_eq_true rfl) ?_
              refine ct_238_240_238 hcr  g59    (fun h81 g81 u81 y81_0 => ?_)
              have F82 := F61.then (by decide +kernel) u81
              refine wk_n ?_
              refine wi_iload_n (i := 3) (e := 0) (nx := 84) (r1 := 0) (r2 := 0) (r3 := 0) rfl rfl ?_
              refine wi_if (cd := .eq) (nx := 87) (r1 := 91) (r2 := 0) (r3 := 0) rfl (by omega) (fun (q83 : 0 = 0) => ?_) (fun (q83 : ¬ (0 = 0)) => by exfalso; omega)
              refine wi_iconst (n := (-1)) (nx := 92) (r1 := 0) (r2 := 0) (r3 := 0) rfl ?_
              refine wi_ireturn (nx := 93) (r1 := 0) (r2 := 0) (r3 := 0) rfl rfl ?_
              have e84 : h81 238 98 = h 238 98 := ((y81_0 98 (by decide)).trans ((u59 240 98 rfl).trans ((u26 240 98 rfl).trans ((y23_0 98 (by decide)).trans (u20 238 98 rfl)))))
              have e85 : h81 238 99 = h 238 99 := ((y81_0 99 (by decide)).trans ((u59 240 99 rfl).trans ((u26 240 99 rfl).trans ((y23_0 99 (by decide)).trans (u20 238 99 rfl)))))
              have e86 : h81 238 100 = h 238 100 := ((y81_0 100 (by decide)).trans ((u59 240 100 rfl).trans ((u26 240 100 rfl).trans ((y23_0 100 (by decide)).trans (u20 238 100 rfl)))))
              have e87 : h81 238 101 = h 238 101 := ((y81_0 101 (by decide)).trans ((u59 240 101 rfl).trans ((u26 240 101 rfl).trans ((y23_0 101 (by decide)).trans (u20 238 101 rfl)))))
              have e88 : h81 238 102 = h 238 102 := ((y81_0 102 (by decide)).trans ((u59 240 102 rfl).trans ((u26 240 102 rfl).trans ((y23_0 102 (by decide)).trans (u20 238 102 rfl)))))
              have e89 : h81 238 106 = h 238 106 := ((y81_0 106 (by decide)).trans ((u59 240 106 rfl).trans ((u26 240 106 rfl).trans ((y23_0 106 (by decide)).trans (u20 238 106 rfl)))))
              have e90 : h81 238 73 = h 238 73 := ((y81_0 73 (by decide)).trans ((u59 240 73 rfl).trans ((u26 240 73 rfl).trans ((y23_0 73 (by decide)).trans (u20 238 73 rfl)))))
              have e91 : h81 238 2 = h 238 2 := ((y81_0 2 (by decide)).trans ((u59 240 2 rfl).trans ((u26 240 2 rfl).trans ((y23_0 2 (by decide)).trans (u20 238 2 rfl)))))
              have e92 : h81 238 119 = h 238 119 := ((y81_0 119 (by decide)).trans ((u59 240 119 rfl).trans ((u26 240 119 rfl).trans ((y23_0 119 (by decide)).trans (u20 238 119 rfl)))))
              have e93 : h81 238 67 = h 238 67 := ((y81_0 67 (by decide)).trans ((u59 240 67 rfl).trans ((u26 240 67 rfl).trans ((y23_0 67 (by decide)).trans (u20 238 67 rfl)))))
              have e94 : h81 238 69 = h 238 69 := ((y81_0 69 (by decide)).trans ((u59 240 69 rfl).trans ((u26 240 69 rfl).trans ((y23_0 69 (by decide)).trans (u20 238 69 rfl)))))
              have e95 : h81 238 5 = h 238 5 := ((y81_0 5 (by decide)).trans ((u59 240 5 rfl).trans ((u26 240 5 rfl).trans ((y23_0 5 (by decide)).trans (u20 238 5 rfl)))))
              exact k h81 (-1) g81 F82 (by omega) (show (h81 238 98) + (h81 238 99) + (h81 238 100) + (h81 238 101) + (h81 238 102) + (h81 238 106) = (h81 238 73) by omega) (show (h81 238 73) ≤ (h81 238 2) by omega) (show (h81 238 119) ≤ (h81 238 67) by omega) (show (h81 238 69) ≤ (h81 238 5) by omega) (show (h81 238 2) ≤ 12 * (h81 238 5) by omega) (fun i _ => ((y81_0 i (by omega)).trans ((u59 240 i (fo_nk rfl)).trans ((u26 240 i (fo_nk rfl)).trans ((y23_0 i (by omega)).trans (u20 238 i (fn_a (by omega) fn_0)))))))
            ·
              refine wi_aload_n (i := 0) (x := 236) (nx := 10) (r1 := 0) (r2 := 0) (r3 := 0) rfl rfl ?_
              refine wr_gr (k0 := 236) (x := 238) (nx := 13) (r1 := 11) (r2 := 13) (r3 := 0) rfl rfl (by decide) rfl ⟨rfl, rfl⟩ rfl ?_
              refine wi_iload_n (i := 1) (e := 107) (nx := 14) (r1 := 0) (r2 := 0) (r3 := 0) rfl rfl ?_
              refine wi_iload (i := 4) (e := x76) (nx := 16) (r1 := 0) (r2 := 0) (r3 := 0) rfl rfl ?_
              refine wr_add (nx := 17) (r1 := 0) (r2 := 0) (r3 := 0) rfl (fun e80 (fe80 : e80 = 107 + x76) => ?_)
              obtain ⟨i81, ei81⟩ : ∃ q : Nat, e80 = (q : Int) := ⟨(e80).toNat, by omega⟩
              have b82 := gi_b (lo := 0) (hi := 11) g59 238 i81 (gi_rg 107 12 (fun _ => rfl) (by decide +kernel) (by omega))
              refine wr_ia (k0 := 238) (a := e80) (f := i81) (x := h59 238 i81) (nx := 18) (r1 := 0) (r2 := 0) (r3 := 0) rfl (by decide) rfl (by omega) (by omega) (by decide) rfl ?_
              refine wi_iload_n (i := 3) (e := a0) (nx := 19) (r1 := 0) (r2 := 0) (r3 := 0) rfl rfl ?_
              refine wi_icmp (cd := .ne) (nx := 22) (r1 := 25) (r2 := 0) (r3 := 0) rfl (by omega) (by omega) (fun (q83 : (h59 238 i81) ≠ a0) => ?_) (fun (q83 : ¬ ((h59 238 i81) ≠ a0)) => ?_)
              ·
                refine wr_iinc (i := 4) (n := 1) (v := x76) (fun e84 => [(4, vi e84), (0, .ref 236), (1, vi 107), (2, vi (h59 238 106)), (3, vi a0)]) (nx := 28) (r1 := 0) (r2 := 0) (r3 := 0) rfl rfl (fun _ => rfl) (fun e84 (fe84 : e84 = x76 + 1) => ?_)
                refine wi_goto (nx := 31) (r1 := 3) (r2 := 0) (r3 := 0) rfl ?_
                refine wp.lo (lo := [(0, .ref 236), (1, vi 107), (2, vi (h59 238 106)), (3, vi a0), (4, vi e84)]) ⟨rfl, rfl, rfl, rfl, rfl, trivial⟩ rfl ?_
                exact I77 e84 h59 ⟨rfl, (show (0 ≤ e84 ∧ e84 ≤ 12) by omega)⟩ (show ((12 : Int) + 1 - e84).toNat < ((12 : Int) + 1 - x76).toNat by omega)
              ·
                refine wi_iload (i := 4) (e := x76) (nx := 24) (r1 := 0) (r2 := 0) (r3 := 0) rfl rfl ?_
                refine wi_ireturn (nx := 25) (r1 := 0) (r2 := 0) (r3 := 0) rfl rfl ?_
                refine wk_i ?_
                refine wi_ireturn (nx := 15) (r1 := 0) (r2 := 0) (r3 := 0) rfl rfl ?_
                refine wk_i ?_
                refine wi_iconst (n := (-1)) (nx := 63) (r1 := 0) (r2 := 0) (r3 := 0) rfl ?_
                refine wi_icmp (cd := .eq) (nx := 66) (r1 := 70) (r2 := 0) (r3 := 0) rfl (by omega) (by omega) (fun (q84 : x76 = (-1)) => by exfalso; omega) (fun (q84 : ¬ (x76 = (-1))) => ?_)
                refine wi_iconst (n := 1) (nx := 67) (r1 := 0) (r2 := 0) (r3 := 0) rfl ?_
                refine wi_goto (nx := 70) (r1 := 71) (r2 := 0) (r3 := 0) rfl ?_
                refine wi_istore_n (i := 3) (e := 1) (lo2 := [(3, vi 1), (0, .ref 236), (1, vi a0), (2, vi x25)]) (nx := 72) (r1 := 0) (r2 := 0) (r3 := 0) rfl rfl ?_
                refine wi_aload_n (i := 0) (x := 236) (nx := 73) (r1 := 0) (r2 := 0) (r3 := 0) rfl rfl ?_
                refine wr_gr (k0 := 236) (x := 240) (nx := 76) (r1 := 11) (r2 := 15) (r3 := 0) rfl rfl (by decide) rfl ⟨rfl, rfl⟩ rfl ?_
                refine wi_aload_n (i := 0) (x := 236) (nx := 77) (r1 := 0) (r2 := 0) (r3 := 0) rfl rfl ?_
                refine wr_gr (k0 := 236) (x := 238) (nx := 80) (r1 := 11) (r2 := 13) (r3 := 0) rfl rfl (by decide) rfl ⟨rfl, rfl⟩ rfl ?_
                refine wi_S (rest := []) (as := [.ref 240, .ref 238]) (nx := 83) (r1 := 238) (r2 := 18) (r3 := 0) rfl rfl rfl (of_decide_eq_true rfl) rfl rfl (of_decide_eq_true rfl) (of_decide_eq_true rfl) ?_
                refine ct_238_240_238 hcr  g59    (fun h85 g85 u85 y85_0 => ?_)
                have F86 := F61.then (by decide +kernel) u85
                refine wk_n ?_
                refine wi_iload_n (i := 3) (e := 1) (nx := 84) (r1 := 0) (r2 := 0) (r3 := 0) rfl rfl ?_
                refine wi_if (cd := .eq) (nx := 87) (r1 := 91) (r2 := 0) (r3 := 0) rfl (by omega) (fun (q87 : 1 = 0) => by exfalso; omega) (fun (q87 : ¬ (1 = 0)) => ?_)
                refine wi_iload_n (i := 2) (e := x25) (nx := 88) (r1 := 0) (r2 := 0) (r3 := 0) rfl rfl ?_
                refine wi_goto (nx := 91) (r1 := 92) (r2 := 0) (r3 := 0) rfl ?_
                refine wi_ireturn (nx := 93) (r1 := 0) (r2 := 0) (r3 := 0) rfl rfl ?_
                have e88 : h85 238 98 = h 238 98 := ((y85_0 98 (by decide)).trans ((u59 240 98 rfl).trans ((u26 240 98 rfl).trans ((y23_0 98 (by decide)).trans (u20 238 98 rfl)))))
                have e89 : h85 238 99 = h 238 99 := ((y85_0 99 (by decide)).trans ((u59 240 99 rfl).trans ((u26 240 99 rfl).trans ((y23_0 99 (by decide)).trans (u20 238 99 rfl)))))
                have e90 : h85 238 100 = h 238 100 := ((y85_0 100 (by decide)).trans ((u59 240 100 rfl).trans ((u26 240 100 rfl).trans ((y23_0 100 (by decide)).trans (u20 238 100 rfl)))))
                have e91 : h85 238 101 = h 238 101 := ((y85_0 101 (by decide)).trans ((u59 240 101 rfl).trans ((u26 240 101 rfl).trans ((y23_0 101 (by decide)).trans (u20 238 101 rfl)))))
                have e92 : h85 238 102 = h 238 102 := ((y85_0 102 (by decide)).trans ((u59 240 102 rfl).trans ((u26 240 102 rfl).trans ((y23_0 102 (by decide)).trans (u20 238 102 rfl)))))
                have e93 : h85 238 106 = h 238 106 := ((y85_0 106 (by decide)).trans ((u59 240 106 rfl).trans ((u26 240 106 rfl).trans ((y23_0 106 (by decide)).trans (u20 238 106 rfl)))))
                have e94 : h85 238 73 = h 238 73 := ((y85_0 73 (by decide)).trans ((u59 240 73 rfl).trans ((u26 240 73 rfl).trans ((y23_0 73 (by decide)).trans (u20 238 73 rfl)))))
                have e95 : h85 238 2 = h 238 2 := ((y85_0 2 (by decide)).trans ((u59 240 2 rfl).trans ((u26 240 2 rfl).trans ((y23_0 2 (by decide)).trans (u20 238 2 rfl)))))
                have e96 : h85 238 119 = h 238 119 := ((y85_0 119 (by decide)).trans ((u59 240 119 rfl).trans ((u26 240 119 rfl).trans ((y23_0 119 (by decide)).trans (u20 238 119 rfl)))))
                have e97 : h85 238 67 = h 238 67 := ((y85_0 67 (by decide)).trans ((u59 240 67 rfl).trans ((u26 240 67 rfl).trans ((y23_0 67 (by decide)).trans (u20 238 67 rfl)))))
                have e98 : h85 238 69 = h 238 69 := ((y85_0 69 (by decide)).trans ((u59 240 69 rfl).trans ((u26 240 69 rfl).trans ((y23_0 69 (by decide)).trans (u20 238 69 rfl)))))
                have e99 : h85 238 5 = h 238 5 := ((y85_0 5 (by decide)).trans ((u59 240 5 rfl).trans ((u26 240 5 rfl).trans ((y23_0 5 (by decide)).trans (u20 238 5 rfl)))))
                exact k h85 x25 g85 F86 (by omega) (show (h85 238 98) + (h85 238 99) + (h85 238 100) + (h85 238 101) + (h85 238 102) + (h85 238 106) = (h85 238 73) by omega) (show (h85 238 73) ≤ (h85 238 2) by omega) (show (h85 238 119) ≤ (h85 238 67) by omega) (show (h85 238 69) ≤ (h85 238 5) by omega) (show (h85 238 2) ≤ 12 * (h85 238 5) by omega) (fun i _ => ((y85_0 i (by omega)).trans ((u59 240 i (fo_nk rfl)).trans ((u26 240 i (fo_nk rfl)).trans ((y23_0 i (by omega)).trans (u20 238 i (fn_a (by omega) fn_0)))))))
          ·
            refine wr_iinc (i := 2) (n := 1) (v := x25) (fun e76 => [(2, vi e76), (0, .ref 236), (1, vi a0)]) (nx := 54) (r1 := 0) (r2 := 0) (r3 := 0) rfl rfl (fun _ => rfl) (fun e76 (fe76 : e76 = x25 + 1) => ?_)
            refine wi_goto (nx := 57) (r1 := 27) (r2 := 0) (r3 := 0) rfl ?_
            refine wp.lo (lo := [(0, .ref 236), (1, vi a0), (2, vi e76)]) ⟨rfl, rfl, rfl, trivial⟩ rfl ?_
            exact I26 e76 h59 ⟨g59, F61, F62, (show (0 ≤ e76 ∧ e76 ≤ 300) ∧ ((h59 238 98) + (h59 238 99) + (h59 238 100) + (h59 238 101) + (h59 238 102) + (h59 238 106) = (h59 238 73)) ∧ ((h59 238 73) ≤ (h59 238 2)) ∧ ((h59 238 119) ≤ (h59 238 67)) ∧ ((h59 238 69) ≤ (h59 238 5)) ∧ ((h59 238 2) ≤ 12 * (h59 238 5)) by omega)⟩ (show ((300 : Int) + 1 - e76).toNat < ((300 : Int) + 1 - x25).toNat by omega)
      ·
        refine wi_aload_n (i := 0) (x := 236) (nx := 10) (r1 := 0) (r2 := 0) (r3 := 0) rfl rfl ?_
        refine wr_gr (k0 := 236) (x := 238) (nx := 13) (r1 := 11) (r2 := 13) (r3 := 0) rfl rfl (by decide) rfl ⟨rfl, rfl⟩ rfl ?_
        refine wi_iload_n (i := 1) (e := 107) (nx := 14) (r1 := 0) (r2 := 0) (r3 := 0) rfl rfl ?_
        refine wi_iload (i := 4) (e := x52) (nx := 16) (r1 := 0) (r2 := 0) (r3 := 0) rfl rfl ?_
        refine wr_add (nx := 17) (r1 := 0) (r2 := 0) (r3 := 0) rfl (fun e57 (fe57 : e57 = 107 + x52) => ?_)
        obtain ⟨i58, ei58⟩ : ∃ q : Nat, e57 = (q : Int) := ⟨(e57).toNat, by omega⟩
        have b59 := gi_b (lo := 0) (hi := 11) g26 238 i58 (gi_rg 107 12 (fun _ => rfl) (by decide +kernel) (by omega))
        refine wr_ia (k0 := 238) (a := e57) (f := i58) (x := h26 238 i58) (nx := 18) (r1 := 0) (r2 := 0) (r3 := 0) rfl (by decide) rfl (by omega) (by omega) (by decide) rfl ?_
        refine wi_iload_n (i := 3) (e := a0) (nx := 19) (r1 := 0) (r2 := 0) (r3 := 0) rfl rfl ?_
        refine wi_icmp (cd := .ne) (nx := 22) (r1 := 25) (r2 := 0) (r3 := 0) rfl (by omega) (by omega) (fun (q60 : (h26 238 i58) ≠ a0) => ?_) (fun (q60 : ¬ ((h26 238 i58) ≠ a0)) => ?_)
        ·
          refine wr_iinc (i := 4) (n := 1) (v := x52) (fun e61 => [(4, vi e61), (0, .ref 236), (1, vi 107), (2, vi (h26 238 106)), (3, vi a0)]) (nx := 28) (r1 := 0) (r2 := 0) (r3 := 0) rfl rfl (fun _ => rfl) (fun e61 (fe61 : e61 = x52 + 1) => ?_)
          refine wi_goto (nx := 31) (r1 := 3) (r2 := 0) (r3 := 0) rfl ?_
          refine wp.lo (lo := [(0, .ref 236), (1, vi 107), (2, vi (h26 238 106)), (3, vi a0), (4, vi e61)]) ⟨rfl, rfl, rfl, rfl, rfl, trivial⟩ rfl ?_
          exact I53 e61 h26 ⟨rfl, (show (0 ≤ e61 ∧ e61 ≤ 12) by omega)⟩ (show ((12 : Int) + 1 - e61).toNat < ((12 : Int) + 1 - x52).toNat by omega)
        ·
          refine wi_iload (i := 4) (e := x52) (nx := 24) (r1 := 0) (r2 := 0) (r3 := 0) rfl rfl ?_
          refine wi_ireturn (nx := 25) (r1 := 0) (r2 := 0) (r3 := 0) rfl rfl ?_
          refine wk_i ?_
          refine wi_ireturn (nx := 15) (r1 := 0) (r2 := 0) (r3 := 0) rfl rfl ?_
          refine wk_i ?_
          refine wi_iconst (n := (-1)) (nx := 33) (r1 := 0) (r2 := 0) (r3 := 0) rfl ?_
          refine wi_icmp (cd := .ne) (nx := 36) (r1 := 57) (r2 := 0) (r3 := 0) rfl (by omega) (by omega) (fun (q61 : x52 ≠ (-1)) => ?_) (fun (q61 : ¬ (x52 ≠ (-1))) => by exfalso; omega)
          refine wi_aload_n (i := 0) (x := 236) (nx := 58) (r1 := 0) (r2 := 0) (r3 := 0) rfl rfl ?_
          refine wi_iload_n (i := 1) (e := a0) (nx := 59) (r1 := 0) (r2 := 0) (r3 := 0) rfl rfl ?_
          refine wr_V (k0 := 236) (rest := []) (as := [.ref 236, vi a0]) (nx := 62) (r1 := 253) (r2 := 1) (r3 := 11) rfl rfl rfl (of_decide_eq_true rfl) rfl rfl (by decide) rfl rfl (of_decide_eq_true rfl) (of_decide_eq_true rfl) ?_
          refine wi_aload_n (i := 0) (x := 236) (nx := 1) (r1 := 0) (r2 := 0) (r3 := 0) rfl rfl ?_
          refine wi_bipush (n := 107) (nx := 3) (r1 := 0) (r2 := 0) (r3 := 0) rfl (by decide) ?_
          refine wi_aload_n (i := 0) (x := 236) (nx := 4) (r1 := 0) (r2 := 0) (r3 := 0) rfl rfl ?_
          refine wr_gr (k0 := 236) (x := 238) (nx := 7) (r1 := 11) (r2 := 13) (r3 := 0) rfl rfl (by decide) rfl ⟨rfl, rfl⟩ rfl ?_
          refine wi_bipush (n := 106) (nx := 9) (r1 := 0) (r2 := 0) (r3 := 0) rfl (by decide) ?_
          refine wr_ia (k0 := 238) (a := 106) (f := 106) (x := h26 238 106) (nx := 10) (r1 := 0) (r2 := 0) (r3 := 0) rfl (by decide) rfl (by omega) (by omega) (by decide) rfl ?_
          refine wi_iload_n (i := 1) (e := a0) (nx := 11) (r1 := 0) (r2 := 0) (r3 := 0) rfl rfl ?_
          refine wr_V (k0 := 236) (rest := []) (as := [.ref 236, vi 107, vi (h26 238 106), vi a0]) (nx := 14) (r1 := 254) (r2 := 3) (r3 := 11) rfl rfl rfl (of_decide_eq_true rfl) rfl rfl (by decide) rfl rfl (of_decide_eq_true rfl) (of_decide_eq_true rfl) ?_
          refine wi_iconst (n := 0) (nx := 1) (r1 := 0) (r2 := 0) (r3 := 0) rfl ?_
          refine wi_istore (i := 4) (e := 0) (lo2 := [(4, vi 0), (0, .ref 236), (1, vi 107), (2, vi (h26 238 106)), (3, vi a0)]) (nx := 3) (r1 := 0) (r2 := 0) (r3 := 0) rfl rfl ?_
          refine wp.lo (lo := [(0, .ref 236), (1, vi 107), (2, vi (h26 238 106)), (3, vi a0), (4, vi 0)]) ⟨rfl, rfl, rfl, rfl, rfl, trivial⟩ rfl ?_
          refine wl_1 (fun x62 h63 => h26 = h63 ∧ ((0 ≤ x62 ∧ x62 ≤ 12))) (fun x62 h63 => ((12 : Int) + 1 - x62).toNat) (fun x62 h63 => (3, [(0, .ref 236), (1, vi 107), (2, vi (h26 238 106)), (3, vi a0), (4, vi x62)], [], hp_w h63 cr, b, c)) ?_ 0 h26 ⟨rfl, (show (0 ≤ 0 ∧ 0 ≤ 12) by omega)⟩
          intro x62 h63 ⟨e63, f63⟩ I63
          subst e63
          refine wi_iload (i := 4) (e := x62) (nx := 5) (r1 := 0) (r2 := 0) (r3 := 0) rfl rfl ?_
          refine wi_iload_n (i := 2) (e := h26 238 106) (nx := 6) (r1 := 0) (r2 := 0) (r3 := 0) rfl rfl ?_
          refine wi_icmp (cd := .ge) (nx := 9) (r1 := 31) (r2 := 0) (r3 := 0) rfl (by omega) (by omega) (fun (q65 : (h26 238 106) ≤ x62) => ?_) (fun (q65 : ¬ ((h26 238 106) ≤ x62)) => ?_)
          ·
            refine wi_iconst (n := (-1)) (nx := 32) (r1 := 0) (r2 := 0) (r3 := 0) rfl ?_
            refine wi_ireturn (nx := 33) (r1 := 0) (r2 := 0) (r3 := 0) rfl rfl ?_
            refine wk_i ?_
            refine wi_ireturn (nx := 15) (r1 := 0) (r2 := 0) (r3 := 0) rfl rfl ?_
            refine wk_i ?_
            refine wi_iconst (n := (-1)) (nx := 63) (r1 := 0) (r2 := 0) (r3 := 0) rfl ?_
            refine wi_icmp (cd := .eq) (nx := 66) (r1 := 70) (r2 := 0) (r3 := 0) rfl (by omega) (by omega) (fun (q66 : (-1) = (-1)) => ?_) (fun (q66 : ¬ ((-1) = (-1))) => by exfalso; omega)
            refine wi_iconst (n := 0) (nx := 71) (r1 := 0) (r2 := 0) (r3 := 0) rfl ?_
            refine wi_istore_n (i := 3) (e := 0) (lo2 := [(3, vi 0), (0, .ref 236), (1, vi a0), (2, vi x25)]) (nx := 72) (r1 := 0) (r2 := 0) (r3 := 0) rfl rfl ?_
            refine wi_aload_n (i := 0) (x := 236) (nx := 73) (r1 := 0) (r2 := 0) (r3 := 0) rfl rfl ?_
            refine wr_gr (k0 := 236) (x := 240) (nx := 76) (r1 := 11) (r2 := 15) (r3 := 0) rfl rfl (by decide) rfl ⟨rfl, rfl⟩ rfl ?_
            refine wi_aload_n (i := 0) (x := 236) (nx := 77) (r1 := 0) (r2 := 0) (r3 := 0) rfl rfl ?_
            refine wr_gr (k0 := 236) (x := 238) (nx := 80) (r1 := 11) (r2 := 13) (r3 := 0) rfl rfl (by decide) rfl ⟨rfl, rfl⟩ rfl ?_
            refine wi_S (rest := []) (as := [.ref 240, .ref 238]) (nx := 83) (r1 := 238) (r2 := 18) (r3 := 0) rfl rfl rfl (of_decide_eq_true rfl) rfl rfl (of_decide_eq_true rfl) (of_decide_eq_true rfl) ?_
            refine ct_238_240_238 hcr  g26    (fun h67 g67 u67 y67_0 => ?_)
            have F68 := F39.then (by decide +kernel) u67
            refine wk_n ?_
            refine wi_iload_n (i := 3) (e := 0) (nx := 84) (r1 := 0) (r2 := 0) (r3 := 0) rfl rfl ?_
            refine wi_if (cd := .eq) (nx := 87) (r1 := 91) (r2 := 0) (r3 := 0) rfl (by omega) (fun (q69 : 0 = 0) => ?_) (fun (q69 : ¬ (0 = 0)) => by exfalso; omega)
            refine wi_iconst (n := (-1)) (nx := 92) (r1 := 0) (r2 := 0) (r3 := 0) rfl ?_
            refine wi_ireturn (nx := 93) (r1 := 0) (r2 := 0) (r3 := 0) rfl rfl ?_
            have e70 : h67 238 98 = h 238 98 := ((y67_0 98 (by decide)).trans ((u26 240 98 rfl).trans ((y23_0 98 (by decide)).trans (u20 238 98 rfl))))
            have e71 : h67 238 99 = h 238 99 := ((y67_0 99 (by decide)).trans ((u26 240 99 rfl).trans ((y23_0 99 (by decide)).trans (u20 238 99 rfl))))
            have e72 : h67 238 100 = h 238 100 := ((y67_0 100 (by decide)).trans ((u26 240 100 rfl).trans ((y23_0 100 (by decide)).trans (u20 238 100 rfl))))
            have e73 : h67 238 101 = h 238 101 := ((y67_0 101 (by decide)).trans ((u26 240 101 rfl).trans ((y23_0 101 (by decide)).trans (u20 238 101 rfl))))
            have e74 : h67 238 102 = h 238 102 := ((y67_0 102 (by decide)).trans ((u26 240 102 rfl).trans ((y23_0 102 (by decide)).trans (u20 238 102 rfl))))
            have e75 : h67 238 106 = h 238 106 := ((y67_0 106 (by decide)).trans ((u26 240 106 rfl).trans ((y23_0 106 (by decide)).trans (u20 238 106 rfl))))
            have e76 : h67 238 73 = h 238 73 := ((y67_0 73 (by decide)).trans ((u26 240 73 rfl).trans ((y23_0 73 (by decide)).trans (u20 238 73 rfl))))
            have e77 : h67 238 2 = h 238 2 := ((y67_0 2 (by decide)).trans ((u26 240 2 rfl).trans ((y23_0 2 (by decide)).trans (u20 238 2 rfl))))
            have e78 : h67 238 119 = h 238 119 := ((y67_0 119 (by decide)).trans ((u26 240 119 rfl).trans ((y23_0 119 (by decide)).trans (u20 238 119 rfl))))
            have e79 : h67 238 67 = h 238 67 := ((y67_0 67 (by decide)).trans ((u26 240 67 rfl).trans ((y23_0 67 (by decide)).trans (u20 238 67 rfl))))
            have e80 : h67 238 69 = h 238 69 := ((y67_0 69 (by decide)).trans ((u26 240 69 rfl).trans ((y23_0 69 (by decide)).trans (u20 238 69 rfl))))
            have e81 : h67 238 5 = h 238 5 := ((y67_0 5 (by decide)).trans ((u26 240 5 rfl).trans ((y23_0 5 (by decide)).trans (u20 238 5 rfl))))
            exact k h67 (-1) g67 F68 (by omega) (show (h67 238 98) + (h67 238 99) + (h67 238 100) + (h67 238 101) + (h67 238 102) + (h67 238 106) = (h67 238 73) by omega) (show (h67 238 73) ≤ (h67 238 2) by omega) (show (h67 238 119) ≤ (h67 238 67) by omega) (show (h67 238 69) ≤ (h67 238 5) by omega) (show (h67 238 2) ≤ 12 * (h67 238 5) by omega) (fun i _ => ((y67_0 i (by omega)).trans ((u26 240 i (fo_nk rfl)).trans ((y23_0 i (by omega)).trans (u20 238 i (fn_a (by omega) fn_0))))))
          ·
            refine wi_aload_n (i := 0) (x := 236) (nx := 10) (r1 := 0) (r2 := 0) (r3 := 0) rfl rfl ?_
            refine wr_gr (k0 := 236) (x := 238) (nx := 13) (r1 := 11) (r2 := 13) (r3 := 0) rfl rfl (by decide) rfl ⟨rfl, rfl⟩ rfl ?_
            refine wi_iload_n (i := 1) (e := 107) (nx := 14) (r1 := 0) (r2 := 0) (r3 := 0) rfl rfl ?_
            refine wi_iload (i := 4) (e := x62) (nx := 16) (r1 := 0) (r2 := 0) (r3 := 0) rfl rfl ?_
            refine wr_add (nx := 17) (r1 := 0) (r2 := 0) (r3 := 0) rfl (fun e66 (fe66 : e66 = 107 + x62) => ?_)
            obtain ⟨i67, ei67⟩ : ∃ q : Nat, e66 = (q : Int) := ⟨(e66).toNat, by omega⟩
            have b68 := gi_b (lo := 0) (hi := 11) g26 238 i67 (gi_rg 107 12 (fun _ => rfl) (by decide +kernel) (by omega))
            refine wr_ia (k0 := 238) (a := e66) (f := i67) (x := h26 238 i67) (nx := 18) (r1 := 0) (r2 := 0) (r3 := 0) rfl (by decide) rfl (by omega) (by omega) (by decide) rfl ?_
            refine wi_iload_n (i := 3) (e := a0) (nx := 19) (r1 := 0) (r2 := 0) (r3 := 0) rfl rfl ?_
            refine wi_icmp (cd := .ne) (nx := 22) (r1 := 25) (r2 := 0) (r3 := 0) rfl (by omega) (by omega) (fun (q69 : (h26 238 i67) ≠ a0) => ?_) (fun (q69 : ¬ ((h26 238 i67) ≠ a0)) => ?_)
            ·
              refine wr_iinc (i := 4) (n := 1) (v := x62) (fun e70 => [(4, vi e70), (0, .ref 236), (1, vi 107), (2, vi (h26 238 106)), (3, vi a0)]) (nx := 28) (r1 := 0) (r2 := 0) (r3 := 0) rfl rfl (fun _ => rfl) (fun e70 (fe70 : e70 = x62 + 1) => ?_)
              refine wi_goto (nx := 31) (r1 := 3) (r2 := 0) (r3 := 0) rfl ?_
              refine wp.lo (lo := [(0, .ref 236), (1, vi 107), (2, vi (h26 238 106)), (3, vi a0), (4, vi e70)]) ⟨rfl, rfl, rfl, rfl, rfl, trivial⟩ rfl ?_
              exact I63 e70 h26 ⟨rfl, (show (0 ≤ e70 ∧ e70 ≤ 12) by omega)⟩ (show ((12 : Int) + 1 - e70).toNat < ((12 : Int) + 1 - x62).toNat by omega)
            ·
              refine wi_iload (i := 4) (e := x62) (nx := 24) (r1 := 0) (r2 := 0) (r3 := 0) rfl rfl ?_
              refine wi_ireturn (nx := 25) (r1 := 0) (r2 := 0) (r3 := 0) rfl rfl ?_
              refine wk_i ?_
              refine wi_ireturn (nx := 15) (r1 := 0) (r2 := 0) (r3 := 0) rfl rfl ?_
              refine wk_i ?_
              refine wi_iconst (n := (-1)) (nx := 63) (r1 := 0) (r2 := 0) (r3 := 0) rfl ?_
              refine wi_icmp (cd := .eq) (nx := 66) (r1 := 70) (r2 := 0) (r3 := 0) rfl (by omega) (by omega) (fun (q70 : x62 = (-1)) => by exfalso; omega) (fun (q70 : ¬ (x62 = (-1))) => ?_)
              refine wi_iconst (n := 1) (nx := 67) (r1 := 0) (r2 := 0) (r3 := 0) rfl ?_
              refine wi_goto (nx := 70) (r1 := 71) (r2 := 0) (r3 := 0) rfl ?_
              refine wi_istore_n (i := 3) (e := 1) (lo2 := [(3, vi 1), (0, .ref 236), (1, vi a0), (2, vi x25)]) (nx := 72) (r1 := 0) (r2 := 0) (r3 := 0) rfl rfl ?_
              refine wi_aload_n (i := 0) (x := 236) (nx := 73) (r1 := 0) (r2 := 0) (r3 := 0) rfl rfl ?_
              refine wr_gr (k0 := 236) (x := 240) (nx := 76) (r1 := 11) (r2 := 15) (r3 := 0) rfl rfl (by decide) rfl ⟨rfl, rfl⟩ rfl ?_
              refine wi_aload_n (i := 0) (x := 236) (nx := 77) (r1 := 0) (r2 := 0) (r3 := 0) rfl rfl ?_
              refine wr_gr (k0 := 236) (x := 238) (nx := 80) (r1 := 11) (r2 := 13) (r3 := 0) rfl rfl (by decide) rfl ⟨rfl, rfl⟩ rfl ?_
              refine wi_S (rest := []) (as := [.ref 240, .ref 238]) (nx := 83) (r1 := 238) (r2 := 18) (r3 := 0) rfl rfl rfl (of_decide_eq_true rfl) rfl rfl (of_decide_eq_true rfl) (of_decide_eq_true rfl) ?_
              refine ct_238_240_238 hcr  g26    (fun h71 g71 u71 y71_0 => ?_)
              have F72 := F39.then (by decide +kernel) u71
              refine wk_n ?_
              refine wi_iload_n (i := 3) (e := 1) (nx := 84) (r1 := 0) (r2 := 0) (r3 := 0) rfl rfl ?_
              refine wi_if (cd := .eq) (nx := 87) (r1 := 91) (r2 := 0) (r3 := 0) rfl (by omega) (fun (q73 : 1 = 0) => by exfalso; omega) (fun (q73 : ¬ (1 = 0)) => ?_)
              refine wi_iload_n (i := 2) (e := x25) (nx := 88) (r1 := 0) (r2 := 0) (r3 := 0) rfl rfl ?_
              refine wi_goto (nx := 91) (r1 := 92) (r2 := 0) (r3 := 0) rfl ?_
              refine wi_ireturn (nx := 93) (r1 := 0) (r2 := 0) (r3 := 0) rfl rfl ?_
              have e74 : h71 238 98 = h 238 98 := ((y71_0 98 (by decide)).trans ((u26 240 98 rfl).trans ((y23_0 98 (by decide)).trans (u20 238 98 rfl))))
              have e75 : h71 238 99 = h 238 99 := ((y71_0 99 (by decide)).trans ((u26 240 99 rfl).trans ((y23_0 99 (by decide)).trans (u20 238 99 rfl))))
              have e76 : h71 238 100 = h 238 100 := ((y71_0 100 (by decide)).trans ((u26 240 100 rfl).trans ((y23_0 100 (by decide)).trans (u20 238 100 rfl))))
              have e77 : h71 238 101 = h 238 101 := ((y71_0 101 (by decide)).trans ((u26 240 101 rfl).trans ((y23_0 101 (by decide)).trans (u20 238 101 rfl))))
              have e78 : h71 238 102 = h 238 102 := ((y71_0 102 (by decide)).trans ((u26 240 102 rfl).trans ((y23_0 102 (by decide)).trans (u20 238 102 rfl))))
              have e79 : h71 238 106 = h 238 106 := ((y71_0 106 (by decide)).trans ((u26 240 106 rfl).trans ((y23_0 106 (by decide)).trans (u20 238 106 rfl))))
              have e80 : h71 238 73 = h 238 73 := ((y71_0 73 (by decide)).trans ((u26 240 73 rfl).trans ((y23_0 73 (by decide)).trans (u20 238 73 rfl))))
              have e81 : h71 238 2 = h 238 2 := ((y71_0 2 (by decide)).trans ((u26 240 2 rfl).trans ((y23_0 2 (by decide)).trans (u20 238 2 rfl))))
              have e82 : h71 238 119 = h 238 119 := ((y71_0 119 (by decide)).trans ((u26 240 119 rfl).trans ((y23_0 119 (by decide)).trans (u20 238 119 rfl))))
              have e83 : h71 238 67 = h 238 67 := ((y71_0 67 (by decide)).trans ((u26 240 67 rfl).trans ((y23_0 67 (by decide)).trans (u20 238 67 rfl))))
              have e84 : h71 238 69 = h 238 69 := ((y71_0 69 (by decide)).trans ((u26 240 69 rfl).trans ((y23_0 69 (by decide)).trans (u20 238 69 rfl))))
              have e85 : h71 238 5 = h 238 5 := ((y71_0 5 (by decide)).trans ((u26 240 5 rfl).trans ((y23_0 5 (by decide)).trans (u20 238 5 rfl))))
              exact k h71 x25 g71 F72 (by omega) (show (h71 238 98) + (h71 238 99) + (h71 238 100) + (h71 238 101) + (h71 238 102) + (h71 238 106) = (h71 238 73) by omega) (show (h71 238 73) ≤ (h71 238 2) by omega) (show (h71 238 119) ≤ (h71 238 67) by omega) (show (h71 238 69) ≤ (h71 238 5) by omega) (show (h71 238 2) ≤ 12 * (h71 238 5) by omega) (fun i _ => ((y71_0 i (by omega)).trans ((u26 240 i (fo_nk rfl)).trans ((y23_0 i (by omega)).trans (u20 238 i (fn_a (by omega) fn_0))))))
-- method 332: Model.swap()I
set_option maxRecDepth 100000 in
set_option maxHeartbeats 100000000 in
theorem ct_332_236 {L : Nat} {xs : Nat → Int32} {d b c : Nat} {h : hp} {cr : Nat → Nat → Option Nat} {Q : hp_Q} (hcr : CR cr)  (g : GI h)   (pp0 : h 238 98 + h 238 99 + h 238 100 + h 238 101 + h 238 102 + h 238 106 = h 238 73) (pp1 : h 238 73 ≤ h 238 2) (pp2 : h 238 119 ≤ h 238 67) (pp3 : h 238 69 ≤ h 238 5) (pp4 : h 238 2 ≤ 12 * h 238 5) (xq0 : GPS h) (gp0 : GPH h) (k : ∀ (h2 : hp) (z0 : Int) , GI h2 → FR [(240, 240, none), (242, 242, none), (249, 249, none), (250, 250, none), (251, 251, none), (252, 252, none), (236, 236, some (0, 0)), (236, 236, some (22, 22)), (238, 238, some (31, 53))] h h2 → (-2147483648 ≤ z0 ∧ z0 ≤ 2147483647) → (h2 238 98 + h2 238 99 + h2 238 100 + h2 238 101 + h2 238 102 + h2 238 106 = h2 238 73) → (h2 238 73 ≤ h2 238 2) → (h2 238 119 ≤ h2 238 67) → (h2 238 69 ≤ h2 238 5) → (h2 238 2 ≤ 12 * h2 238 5) → (GPS h2) → (GPH h2) → Q (.inl (some (vi z0))) (hp_w h2 cr) b c) : wp (md_xa (L, xs)) (d + 6) 332 (0, [(0, .ref 236)], [], hp_w h cr, b, c) Q := by
  have F0 : FR [(240, 240, none), (242, 242, none), (249, 249, none), (250, 250, none), (251, 251, none), (252, 252, none), (236, 236, some (0, 0)), (236, 236, some (22, 22)), (238, 238, some (31, 53))] h h := FR.refl
  have b1 := gi_b (lo := 0) (hi := 6) g 238 98 rfl
  have b2 := gi_b (lo := 0) (hi := 6) g 238 99 rfl
  have b3 := gi_b (lo := 0) (hi := 6) g 238 100 rfl
  have b4 := gi_b (lo := 0) (hi := 6) g 238 101 rfl
  have b5 := gi_b (lo := 0) (hi := 3) g 238 102 rfl
  have b6 := gi_b (lo := 0) (hi := 12) g 238 106 rfl
  have b7 := gi_b (lo := 0) (hi := 12) g 238 73 rfl
  have b8 := gi_b (lo := 0) (hi := 12) g 238 2 rfl
  have b9 := gi_b (lo := 0) (hi := 9999) g 238 119 rfl
  have b10 := gi_b (lo := 0) (hi := 9999) g 238 67 rfl
  have b11 := gi_b (lo := 0) (hi := 9) g 238 69 rfl
  have b12 := gi_b (lo := 0) (hi := 9) g 238 5 rfl
  refine wi_aload_n (i := 0) (x := 236) (nx := 1) (r1 := 0) (r2 := 0) (r3 := 0) rfl rfl ?_
  refine wi_iconst (n := 0) (nx := 2) (r1 := 0) (r2 := 0) (r3 := 0) rfl ?_
  refine wr_pf0 (k0 := 236) (x := 0) (bl := 0) (bh := 2) (nx := 5) (r1 := 11) (r2 := 0) (r3 := 0) rfl (by decide) rfl ⟨rfl, rfl⟩ rfl rfl g rfl (by omega) (fun h13 g13 w13 u13 => ?_)
  have F14 := F0.then rfl u13
  refine wi_aload_n (i := 0) (x := 236) (nx := 6) (r1 := 0) (r2 := 0) (r3 := 0) rfl rfl ?_
  refine wr_gr (k0 := 236) (x := 238) (nx := 9) (r1 := 11) (r2 := 13) (r3 := 0) rfl rfl (by decide) rfl ⟨rfl, rfl⟩ rfl ?_
  refine wi_aload_n (i := 0) (x := 236) (nx := 10) (r1 := 0) (r2 := 0) (r3 := 0) rfl rfl ?_
  refine wr_gr (k0 := 236) (x := 240) (nx := 13) (r1 := 11) (r2 := 15) (r3 := 0) rfl rfl (by decide) rfl ⟨rfl, rfl⟩ rfl ?_
  refine wi_S (rest := []) (as := [.ref 238, .ref 240]) (nx := 16) (r1 := 238) (r2 := 18) (r3 := 0) rfl rfl rfl (of_decide_eq_true rfl) rfl rfl (of_decide_eq_true rfl) (of_decide_eq_true rfl) ?_
  refine ct_238_238_240 hcr  g13    (fun h15 g15 u15 y15_0 => ?_)
  have F16 := F14.then (by decide +kernel) u15
  refine wk_n ?_
  refine wi_aload_n (i := 0) (x := 236) (nx := 17) (r1 := 0) (r2 := 0) (r3 := 0) rfl rfl ?_
  refine wr_V (k0 := 236) (rest := []) (as := [.ref 236]) (nx := 20) (r1 := 333) (r2 := 0) (r3 := 11) rfl rfl rfl (of_decide_eq_true rfl) rfl rfl (by decide) rfl rfl (of_decide_eq_true rfl) (of_decide_eq_true rfl) ?_
  have e18 : h15 238 98 = h 238 98 := ((u15 238 98 rfl).trans (u13 238 98 rfl))
  have e19 : h15 238 99 = h 238 99 := ((u15 238 99 rfl).trans (u13 238 99 rfl))
  have e20 : h15 238 100 = h 238 100 := ((u15 238 100 rfl).trans (u13 238 100 rfl))
  have e21 : h15 238 101 = h 238 101 := ((u15 238 101 rfl).trans (u13 238 101 rfl))
  have e22 : h15 238 102 = h 238 102 := ((u15 238 102 rfl).trans (u13 238 102 rfl))
  have e23 : h15 238 106 = h 238 106 := ((u15 238 106 rfl).trans (u13 238 106 rfl))
  have e24 : h15 238 73 = h 238 73 := ((u15 238 73 rfl).trans (u13 238 73 rfl))
  have e25 : h15 238 2 = h 238 2 := ((u15 238 2 rfl).trans (u13 238 2 rfl))
  have e26 : h15 238 119 = h 238 119 := ((u15 238 119 rfl).trans (u13 238 119 rfl))
  have e27 : h15 238 67 = h 238 67 := ((u15 238 67 rfl).trans (u13 238 67 rfl))
  have e28 : h15 238 69 = h 238 69 := ((u15 238 69 rfl).trans (u13 238 69 rfl))
  have e29 : h15 238 5 = h 238 5 := ((u15 238 5 rfl).trans (u13 238 5 rfl))
  refine ct_333_236 hcr  g15   (show (h15 238 98) + (h15 238 99) + (h15 238 100) + (h15 238 101) + (h15 238 102) + (h15 238 106) = (h15 238 73) by omega) (show (h15 238 73) ≤ (h15 238 2) by omega) (show (h15 238 119) ≤ (h15 238 67) by omega) (show (h15 238 69) ≤ (h15 238 5) by omega) (show (h15 238 2) ≤ 12 * (h15 238 5) by omega) (fun h17 z30 g17 u17 (fz30 : -2147483648 ≤ z30 ∧ z30 ≤ 2147483647) (p17_0 : (h17 238 98) + (h17 238 99) + (h17 238 100) + (h17 238 101) + (h17 238 102) + (h17 238 106) = (h17 238 73)) (p17_1 : (h17 238 73) ≤ (h17 238 2)) (p17_2 : (h17 238 119) ≤ (h17 238 67)) (p17_3 : (h17 238 69) ≤ (h17 238 5)) (p17_4 : (h17 238 2) ≤ 12 * (h17 238 5)) => ?_)
  have F31 := F16.then (by decide +kernel) u17
  have e32 : h17 238 98 = h 238 98 := ((u17 238 98 rfl).trans ((u15 238 98 rfl).trans (u13 238 98 rfl)))
  have e33 : h17 238 99 = h 238 99 := ((u17 238 99 rfl).trans ((u15 238 99 rfl).trans (u13 238 99 rfl)))
  have e34 : h17 238 100 = h 238 100 := ((u17 238 100 rfl).trans ((u15 238 100 rfl).trans (u13 238 100 rfl)))
  have e35 : h17 238 101 = h 238 101 := ((u17 238 101 rfl).trans ((u15 238 101 rfl).trans (u13 238 101 rfl)))
  have e36 : h17 238 102 = h 238 102 := ((u17 238 102 rfl).trans ((u15 238 102 rfl).trans (u13 238 102 rfl)))
  have e37 : h17 238 106 = h 238 106 := ((u17 238 106 rfl).trans ((u15 238 106 rfl).trans (u13 238 106 rfl)))
  have e38 : h17 238 73 = h 238 73 := ((u17 238 73 rfl).trans ((u15 238 73 rfl).trans (u13 238 73 rfl)))
  have e39 : h17 238 2 = h 238 2 := ((u17 238 2 rfl).trans ((u15 238 2 rfl).trans (u13 238 2 rfl)))
  have e40 : h17 238 119 = h 238 119 := ((u17 238 119 rfl).trans ((u15 238 119 rfl).trans (u13 238 119 rfl)))
  have e41 : h17 238 67 = h 238 67 := ((u17 238 67 rfl).trans ((u15 238 67 rfl).trans (u13 238 67 rfl)))
  have e42 : h17 238 69 = h 238 69 := ((u17 238 69 rfl).trans ((u15 238 69 rfl).trans (u13 238 69 rfl)))
  have e43 : h17 238 5 = h 238 5 := ((u17 238 5 rfl).trans ((u15 238 5 rfl).trans (u13 238 5 rfl)))
  refine wk_i ?_
  refine wi_istore_n (i := 1) (e := z30) (lo2 := [(1, vi z30), (0, .ref 236)]) (nx := 21) (r1 := 0) (r2 := 0) (r3 := 0) rfl rfl ?_
  refine wi_iload_n (i := 1) (e := z30) (nx := 22) (r1 := 0) (r2 := 0) (r3 := 0) rfl rfl ?_
  refine wi_if (cd := .ne) (nx := 25) (r1 := 27) (r2 := 0) (r3 := 0) rfl (by omega) (fun (q44 : z30 ≠ 0) => ?_) (fun (q44 : ¬ (z30 ≠ 0)) => ?_)
  ·
    refine wi_aload_n (i := 0) (x := 236) (nx := 28) (r1 := 0) (r2 := 0) (r3 := 0) rfl rfl ?_
    refine wr_V (k0 := 236) (rest := []) (as := [.ref 236]) (nx := 31) (r1 := 315) (r2 := 0) (r3 := 11) rfl rfl rfl (of_decide_eq_true rfl) rfl rfl (by decide) rfl rfl (of_decide_eq_true rfl) (of_decide_eq_true rfl) ?_
    have e46 : h17 240 98 = h 238 98 := ((u17 240 98 rfl).trans ((y15_0 98 (by decide)).trans (u13 238 98 rfl)))
    have e47 : h17 240 99 = h 238 99 := ((u17 240 99 rfl).trans ((y15_0 99 (by decide)).trans (u13 238 99 rfl)))
    have e48 : h17 240 100 = h 238 100 := ((u17 240 100 rfl).trans ((y15_0 100 (by decide)).trans (u13 238 100 rfl)))
    have e49 : h17 240 101 = h 238 101 := ((u17 240 101 rfl).trans ((y15_0 101 (by decide)).trans (u13 238 101 rfl)))
    have e50 : h17 240 102 = h 238 102 := ((u17 240 102 rfl).trans ((y15_0 102 (by decide)).trans (u13 238 102 rfl)))
    have e51 : h17 240 106 = h 238 106 := ((u17 240 106 rfl).trans ((y15_0 106 (by decide)).trans (u13 238 106 rfl)))
    have e52 : h17 240 73 = h 238 73 := ((u17 240 73 rfl).trans ((y15_0 73 (by decide)).trans (u13 238 73 rfl)))
    have e53 : h17 240 2 = h 238 2 := ((u17 240 2 rfl).trans ((y15_0 2 (by decide)).trans (u13 238 2 rfl)))
    have e54 : h17 240 119 = h 238 119 := ((u17 240 119 rfl).trans ((y15_0 119 (by decide)).trans (u13 238 119 rfl)))
    have e55 : h17 240 67 = h 238 67 := ((u17 240 67 rfl).trans ((y15_0 67 (by decide)).trans (u13 238 67 rfl)))
    have e56 : h17 240 69 = h 238 69 := ((u17 240 69 rfl).trans ((y15_0 69 (by decide)).trans (u13 238 69 rfl)))
    have e57 : h17 240 5 = h 238 5 := ((u17 240 5 rfl).trans ((y15_0 5 (by decide)).trans (u13 238 5 rfl)))
    have gs58 := GPS.fr u13 rfl xq0
    have gs59 := GPS.fr u15 rfl gs58
    have gs60 := GPS.fr u17 rfl gs59
    have gp61 := GPH.fr u13 rfl gp0
    have gp62 := GPH.fr u15 rfl gp61
    have gp63 := GPH.fr u17 rfl gp62
    refine ct_315_236 hcr  g17   (show (h17 238 98) + (h17 238 99) + (h17 238 100) + (h17 238 101) + (h17 238 102) + (h17 238 106) = (h17 238 73) by omega) (show (h17 238 73) ≤ (h17 238 2) by omega) (show (h17 238 119) ≤ (h17 238 67) by omega) (show (h17 238 69) ≤ (h17 238 5) by omega) (show (h17 238 2) ≤ 12 * (h17 238 5) by omega) (show (h17 240 98) + (h17 240 99) + (h17 240 100) + (h17 240 101) + (h17 240 102) + (h17 240 106) = (h17 240 73) by omega) (show (h17 240 73) ≤ (h17 240 2) by omega) (show (h17 240 119) ≤ (h17 240 67) by omega) (show (h17 240 69) ≤ (h17 240 5) by omega) (show (h17 240 2) ≤ 12 * (h17 240 5) by omega) gs60 (fun i _ => (((u17 240 i (fo_nk rfl)).trans ((y15_0 i (by omega)).trans (u13 238 i (fn_a (by omega) fn_0))))).trans (((u17 238 i (fo_lk (m := 31) (by omega) rfl)).trans ((u15 238 i (fn_a (by decide) fn_0)).trans (u13 238 i (fn_a (by omega) fn_0))))).symm) gp63 (fun h45 g45 u45 y45_0 y45_1 => ?_)
    have F64 := F31.then (by decide +kernel) u45
    refine wk_n ?_
    refine wi_iload_n (i := 1) (e := z30) (nx := 32) (r1 := 0) (r2 := 0) (r3 := 0) rfl rfl ?_
    refine wi_ireturn (nx := 33) (r1 := 0) (r2 := 0) (r3 := 0) rfl rfl ?_
    have e65 : h45 238 98 = h 238 98 := ((u45 238 98 rfl).trans ((u17 238 98 rfl).trans ((u15 238 98 rfl).trans (u13 238 98 rfl))))
    have e66 : h45 238 99 = h 238 99 := ((u45 238 99 rfl).trans ((u17 238 99 rfl).trans ((u15 238 99 rfl).trans (u13 238 99 rfl))))
    have e67 : h45 238 100 = h 238 100 := ((u45 238 100 rfl).trans ((u17 238 100 rfl).trans ((u15 238 100 rfl).trans (u13 238 100 rfl))))
    have e68 : h45 238 101 = h 238 101 := ((u45 238 101 rfl).trans ((u17 238 101 rfl).trans ((u15 238 101 rfl).trans (u13 238 101 rfl))))
    have e69 : h45 238 102 = h 238 102 := ((u45 238 102 rfl).trans ((u17 238 102 rfl).trans ((u15 238 102 rfl).trans (u13 238 102 rfl))))
    have e70 : h45 238 106 = h 238 106 := ((u45 238 106 rfl).trans ((u17 238 106 rfl).trans ((u15 238 106 rfl).trans (u13 238 106 rfl))))
    have e71 : h45 238 73 = h 238 73 := ((u45 238 73 rfl).trans ((u17 238 73 rfl).trans ((u15 238 73 rfl).trans (u13 238 73 rfl))))
    have e72 : h45 238 2 = h 238 2 := ((u45 238 2 rfl).trans ((u17 238 2 rfl).trans ((u15 238 2 rfl).trans (u13 238 2 rfl))))
    have e73 : h45 238 119 = h 238 119 := ((u45 238 119 rfl).trans ((u17 238 119 rfl).trans ((u15 238 119 rfl).trans (u13 238 119 rfl))))
    have e74 : h45 238 67 = h 238 67 := ((u45 238 67 rfl).trans ((u17 238 67 rfl).trans ((u15 238 67 rfl).trans (u13 238 67 rfl))))
    have e75 : h45 238 69 = h 238 69 := ((u45 238 69 rfl).trans ((u17 238 69 rfl).trans ((u15 238 69 rfl).trans (u13 238 69 rfl))))
    have e76 : h45 238 5 = h 238 5 := ((u45 238 5 rfl).trans ((u17 238 5 rfl).trans ((u15 238 5 rfl).trans (u13 238 5 rfl))))
    exact k h45 z30 g45 F64 (by omega) (show (h45 238 98) + (h45 238 99) + (h45 238 100) + (h45 238 101) + (h45 238 102) + (h45 238 106) = (h45 238 73) by omega) (show (h45 238 73) ≤ (h45 238 2) by omega) (show (h45 238 119) ≤ (h45 238 67) by omega) (show (h45 238 69) ≤ (h45 238 5) by omega) (show (h45 238 2) ≤ 12 * (h45 238 5) by omega) y45_0 y45_1
  ·
    refine wi_iconst (n := (-1)) (nx := 26) (r1 := 0) (r2 := 0) (r3 := 0) rfl ?_
    refine wi_ireturn (nx := 27) (r1 := 0) (r2 := 0) (r3 := 0) rfl rfl ?_
    have gs45 := GPS.fr u13 rfl xq0
    have gs46 := GPS.fr u15 rfl gs45
    have gs47 := GPS.fr u17 rfl gs46
    have gp48 := GPH.fr u13 rfl gp0
    have gp49 := GPH.fr u15 rfl gp48
    have gp50 := GPH.fr u17 rfl gp49
    exact k h17 (-1) g17 F31 (by omega) (show (h17 238 98) + (h17 238 99) + (h17 238 100) + (h17 238 101) + (h17 238 102) + (h17 238 106) = (h17 238 73) by omega) (show (h17 238 73) ≤ (h17 238 2) by omega) (show (h17 238 119) ≤ (h17 238 67) by omega) (show (h17 238 69) ≤ (h17 238 5) by omega) (show (h17 238 2) ≤ 12 * (h17 238 5) by omega) gs47 gp50
-- method 323: Model.swapChanges()I
set_option maxRecDepth 100000 in
set_option maxHeartbeats 100000000 in
theorem ct_323_236 {L : Nat} {xs : Nat → Int32} {d b c : Nat} {h : hp} {cr : Nat → Nat → Option Nat} {Q : hp_Q} (hcr : CR cr)  (g : GI h)   (pp0 : h 238 98 + h 238 99 + h 238 100 + h 238 101 + h 238 102 + h 238 106 = h 238 73) (pp1 : h 238 73 ≤ h 238 2) (pp2 : h 238 119 ≤ h 238 67) (pp3 : h 238 69 ≤ h 238 5) (pp4 : h 238 2 ≤ 12 * h 238 5) (k : ∀ (h2 : hp) (z0 : Int) , GI h2 → FR [(249, 249, none), (250, 250, none), (251, 251, none), (252, 252, none), (236, 236, some (0, 0))] h h2 → (0 ≤ z0 ∧ z0 ≤ 1000000) → Q (.inl (some (vi z0))) (hp_w h2 cr) b c) : wp (md_xa (L, xs)) (d + 5) 323 (0, [(0, .ref 236)], [], hp_w h cr, b, c) Q := by
  have F0 : FR [(249, 249, none), (250, 250, none), (251, 251, none), (252, 252, none), (236, 236, some (0, 0))] h h := FR.refl
  have b1 := gi_b (lo := 0) (hi := 6) g 238 98 rfl
  have b2 := gi_b (lo := 0) (hi := 6) g 238 99 rfl
  have b3 := gi_b (lo := 0) (hi := 6) g 238 100 rfl
  have b4 := gi_b (lo := 0) (hi := 6) g 238 101 rfl
  have b5 := gi_b (lo := 0) (hi := 3) g 238 102 rfl
  have b6 := gi_b (lo := 0) (hi := 12) g 238 106 rfl
  have b7 := gi_b (lo := 0) (hi := 12) g 238 73 rfl
  have b8 := gi_b (lo := 0) (hi := 12) g 238 2 rfl
  have b9 := gi_b (lo := 0) (hi := 9999) g 238 119 rfl
  have b10 := gi_b (lo := 0) (hi := 9999) g 238 67 rfl
  have b11 := gi_b (lo := 0) (hi := 9) g 238 69 rfl
  have b12 := gi_b (lo := 0) (hi := 9) g 238 5 rfl
  refine wi_aload_n (i := 0) (x := 236) (nx := 1) (r1 := 0) (r2 := 0) (r3 := 0) rfl rfl ?_
  refine wi_iconst (n := 0) (nx := 2) (r1 := 0) (r2 := 0) (r3 := 0) rfl ?_
  refine wr_pf0 (k0 := 236) (x := 0) (bl := 0) (bh := 2) (nx := 5) (r1 := 11) (r2 := 0) (r3 := 0) rfl (by decide) rfl ⟨rfl, rfl⟩ rfl rfl g rfl (by omega) (fun h13 g13 w13 u13 => ?_)
  have F14 := F0.then rfl u13
  refine wi_aload_n (i := 0) (x := 236) (nx := 6) (r1 := 0) (r2 := 0) (r3 := 0) rfl rfl ?_
  refine wr_V (k0 := 236) (rest := []) (as := [.ref 236]) (nx := 9) (r1 := 324) (r2 := 0) (r3 := 11) rfl rfl rfl (of_decide_eq_true rfl) rfl rfl (by decide) rfl rfl (of_decide_eq_true rfl) (of_decide_eq_true rfl) ?_
  have e16 : h13 238 98 = h 238 98 := (u13 238 98 rfl)
  have e17 : h13 238 99 = h 238 99 := (u13 238 99 rfl)
  have e18 : h13 238 100 = h 238 100 := (u13 238 100 rfl)
  have e19 : h13 238 101 = h 238 101 := (u13 238 101 rfl)
  have e20 : h13 238 102 = h 238 102 := (u13 238 102 rfl)
  have e21 : h13 238 106 = h 238 106 := (u13 238 106 rfl)
  have e22 : h13 238 73 = h 238 73 := (u13 238 73 rfl)
  have e23 : h13 238 2 = h 238 2 := (u13 238 2 rfl)
  have e24 : h13 238 119 = h 238 119 := (u13 238 119 rfl)
  have e25 : h13 238 67 = h 238 67 := (u13 238 67 rfl)
  have e26 : h13 238 69 = h 238 69 := (u13 238 69 rfl)
  have e27 : h13 238 5 = h 238 5 := (u13 238 5 rfl)
  refine ct_324_236 hcr  g13   (show (h13 238 98) + (h13 238 99) + (h13 238 100) + (h13 238 101) + (h13 238 102) + (h13 238 106) = (h13 238 73) by omega) (show (h13 238 73) ≤ (h13 238 2) by omega) (show (h13 238 119) ≤ (h13 238 67) by omega) (show (h13 238 69) ≤ (h13 238 5) by omega) (show (h13 238 2) ≤ 12 * (h13 238 5) by omega) (fun h15 z28 g15 u15 (fz28 : 0 ≤ z28 ∧ z28 ≤ 1000000) => ?_)
  have F29 := F14.then (by decide +kernel) u15
  refine wk_i ?_
  refine wi_ireturn (nx := 10) (r1 := 0) (r2 := 0) (r3 := 0) rfl rfl ?_
  exact k h15 z28 g15 F29 (by omega)
-- method 331: Model.swapColor(I)I
set_option maxRecDepth 100000 in
set_option maxHeartbeats 100000000 in
theorem ct_331_236 {L : Nat} {xs : Nat → Int32} {d b c : Nat} {h : hp} {cr : Nat → Nat → Option Nat} {Q : hp_Q} (hcr : CR cr)  (g : GI h) (a0 : Int) (q0_ : -2147483648 ≤ a0 ∧ a0 ≤ 2147483647) (pp0 : h 238 98 + h 238 99 + h 238 100 + h 238 101 + h 238 102 + h 238 106 = h 238 73) (pp1 : h 238 73 ≤ h 238 2) (pp2 : h 238 119 ≤ h 238 67) (pp3 : h 238 69 ≤ h 238 5) (pp4 : h 238 2 ≤ 12 * h 238 5) (k : ∀ (h2 : hp) (z0 : Int) , GI h2 → FR [(249, 249, none), (250, 250, none), (251, 251, none), (252, 252, none), (236, 236, some (0, 0))] h h2 → (-1 ≤ z0 ∧ z0 ≤ 4) → Q (.inl (some (vi z0))) (hp_w h2 cr) b c) : wp (md_xa (L, xs)) (d + 5) 331 (0, [(0, .ref 236), (1, vi a0)], [], hp_w h cr, b, c) Q := by
  have F0 : FR [(249, 249, none), (250, 250, none), (251, 251, none), (252, 252, none), (236, 236, some (0, 0))] h h := FR.refl
  have b1 := gi_b (lo := 0) (hi := 6) g 238 98 rfl
  have b2 := gi_b (lo := 0) (hi := 6) g 238 99 rfl
  have b3 := gi_b (lo := 0) (hi := 6) g 238 100 rfl
  have b4 := gi_b (lo := 0) (hi := 6) g 238 101 rfl
  have b5 := gi_b (lo := 0) (hi := 3) g 238 102 rfl
  have b6 := gi_b (lo := 0) (hi := 12) g 238 106 rfl
  have b7 := gi_b (lo := 0) (hi := 12) g 238 73 rfl
  have b8 := gi_b (lo := 0) (hi := 12) g 238 2 rfl
  have b9 := gi_b (lo := 0) (hi := 9999) g 238 119 rfl
  have b10 := gi_b (lo := 0) (hi := 9999) g 238 67 rfl
  have b11 := gi_b (lo := 0) (hi := 9) g 238 69 rfl
  have b12 := gi_b (lo := 0) (hi := 9) g 238 5 rfl
  refine wi_aload_n (i := 0) (x := 236) (nx := 1) (r1 := 0) (r2 := 0) (r3 := 0) rfl rfl ?_
  refine wi_iconst (n := 0) (nx := 2) (r1 := 0) (r2 := 0) (r3 := 0) rfl ?_
  refine wr_pf0 (k0 := 236) (x := 0) (bl := 0) (bh := 2) (nx := 5) (r1 := 11) (r2 := 0) (r3 := 0) rfl (by decide) rfl ⟨rfl, rfl⟩ rfl rfl g rfl (by omega) (fun h13 g13 w13 u13 => ?_)
  have F14 := F0.then rfl u13
  refine wi_iload_n (i := 1) (e := a0) (nx := 6) (r1 := 0) (r2 := 0) (r3 := 0) rfl rfl ?_
  refine wi_i2l (nx := 7) (r1 := 0) (r2 := 0) (r3 := 0) rfl (by omega) ?_
  refine wi_lconst (n := 0) (e := 0) (nx := 8) (r1 := 0) (r2 := 0) (r3 := 0) rfl (by decide) ?_
  refine wi_aload_n (i := 0) (x := 236) (nx := 9) (r1 := 0) (r2 := 0) (r3 := 0) rfl rfl ?_
  refine wr_V (k0 := 236) (rest := [vl 0, vl a0]) (as := [.ref 236]) (nx := 12) (r1 := 321) (r2 := 0) (r3 := 11) rfl rfl rfl (of_decide_eq_true rfl) rfl rfl (by decide) rfl rfl (of_decide_eq_true rfl) (of_decide_eq_true rfl) ?_
  refine wi_aload_n (i := 0) (x := 236) (nx := 1) (r1 := 0) (r2 := 0) (r3 := 0) rfl rfl ?_
  refine wr_gr (k0 := 236) (x := 238) (nx := 4) (r1 := 11) (r2 := 13) (r3 := 0) rfl rfl (by decide) rfl ⟨rfl, rfl⟩ rfl ?_
  refine wi_iconst (n := 2) (nx := 5) (r1 := 0) (r2 := 0) (r3 := 0) rfl ?_
  refine wr_ia (k0 := 238) (a := 2) (f := 2) (x := h 238 2) (nx := 6) (r1 := 0) (r2 := 0) (r3 := 0) rfl (by decide) rfl (by omega) (by omega) (by decide) (u13 238 2 rfl) ?_
  refine wi_aload_n (i := 0) (x := 236) (nx := 7) (r1 := 0) (r2 := 0) (r3 := 0) rfl rfl ?_
  refine wr_gr (k0 := 236) (x := 238) (nx := 10) (r1 := 11) (r2 := 13) (r3 := 0) rfl rfl (by decide) rfl ⟨rfl, rfl⟩ rfl ?_
  refine wi_bipush (n := 73) (nx := 12) (r1 := 0) (r2 := 0) (r3 := 0) rfl (by decide) ?_
  refine wr_ia (k0 := 238) (a := 73) (f := 73) (x := h 238 73) (nx := 13) (r1 := 0) (r2 := 0) (r3 := 0) rfl (by decide) rfl (by omega) (by omega) (by decide) (u13 238 73 rfl) ?_
  refine wr_sub (nx := 14) (r1 := 0) (r2 := 0) (r3 := 0) rfl (fun e15 (fe15 : e15 = (h 238 2) - (h 238 73)) => ?_)
  refine wi_ireturn (nx := 15) (r1 := 0) (r2 := 0) (r3 := 0) rfl rfl ?_
  refine wk_i ?_
  refine wi_iconst (n := 1) (nx := 13) (r1 := 0) (r2 := 0) (r3 := 0) rfl ?_
  refine wr_sub (nx := 14) (r1 := 0) (r2 := 0) (r3 := 0) rfl (fun e16 (fe16 : e16 = e15 - 1) => ?_)
  refine wi_i2l (nx := 15) (r1 := 0) (r2 := 0) (r3 := 0) rfl (by omega) ?_
  refine wi_S (rest := []) (as := [vl a0, vl 0, vl e16]) (nx := 18) (r1 := 210) (r2 := 19) (r3 := 0) rfl rfl rfl (of_decide_eq_true rfl) rfl rfl (of_decide_eq_true rfl) (of_decide_eq_true rfl) ?_
  refine wi_lload_n (i := 0) (e := a0) (nx := 1) (r1 := 0) (r2 := 0) (r3 := 0) rfl rfl ?_
  refine wi_lload_n (i := 2) (e := 0) (nx := 2) (r1 := 0) (r2 := 0) (r3 := 0) rfl rfl ?_
  refine wi_lcmp (a := a0) (e := 0) (nx := 3) (r1 := 0) (r2 := 0) (r3 := 0) rfl (by omega) (by omega) (fun r17 (fr17 : (r17 = -1 ∧ a0 < 0) ∨ (r17 = 0 ∧ a0 = 0) ∨ (r17 = 1 ∧ 0 < a0)) => ?_)
  refine wi_if (cd := .lt) (nx := 6) (r1 := 17) (r2 := 0) (r3 := 0) rfl (by omega) (fun (q18 : r17 < 0) => ?_) (fun (q18 : ¬ (r17 < 0)) => ?_)
  ·
    refine wi_iconst (n := 0) (nx := 18) (r1 := 0) (r2 := 0) (r3 := 0) rfl ?_
    refine wi_zreturn (nx := 19) (r1 := 0) (r2 := 0) (r3 := 0) rfl rfl (by omega) ?_
    refine wk_i ?_
    refine wi_if (cd := .ne) (nx := 21) (r1 := 23) (r2 := 0) (r3 := 0) rfl (by omega) (fun (q19 : 0 ≠ 0) => by exfalso; omega) (fun (q19 : ¬ (0 ≠ 0)) => ?_)
    refine wi_iconst (n := (-1)) (nx := 22) (r1 := 0) (r2 := 0) (r3 := 0) rfl ?_
    refine wi_ireturn (nx := 23) (r1 := 0) (r2 := 0) (r3 := 0) rfl rfl ?_
    exact k h13 (-1) g13 F14 (by omega)
  ·
    refine wi_lload_n (i := 0) (e := a0) (nx := 7) (r1 := 0) (r2 := 0) (r3 := 0) rfl rfl ?_
    refine wi_lload (i := 4) (e := e16) (nx := 9) (r1 := 0) (r2 := 0) (r3 := 0) rfl rfl ?_
    refine wi_lcmp (a := a0) (e := e16) (nx := 10) (r1 := 0) (r2 := 0) (r3 := 0) rfl (by omega) (by omega) (fun r19 (fr19 : (r19 = -1 ∧ a0 < e16) ∨ (r19 = 0 ∧ a0 = e16) ∨ (r19 = 1 ∧ e16 < a0)) => ?_)
    refine wi_if (cd := .gt) (nx := 13) (r1 := 17) (r2 := 0) (r3 := 0) rfl (by omega) (fun (q20 : 0 < r19) => ?_) (fun (q20 : ¬ (0 < r19)) => ?_)
    ·
      refine wi_iconst (n := 0) (nx := 18) (r1 := 0) (r2 := 0) (r3 := 0) rfl ?_
      refine wi_zreturn (nx := 19) (r1 := 0) (r2 := 0) (r3 := 0) rfl rfl (by omega) ?_
      refine wk_i ?_
      refine wi_if (cd := .ne) (nx := 21) (r1 := 23) (r2 := 0) (r3 := 0) rfl (by omega) (fun (q21 : 0 ≠ 0) => by exfalso; omega) (fun (q21 : ¬ (0 ≠ 0)) => ?_)
      refine wi_iconst (n := (-1)) (nx := 22) (r1 := 0) (r2 := 0) (r3 := 0) rfl ?_
      refine wi_ireturn (nx := 23) (r1 := 0) (r2 := 0) (r3 := 0) rfl rfl ?_
      exact k h13 (-1) g13 F14 (by omega)
    ·
      refine wi_iconst (n := 1) (nx := 14) (r1 := 0) (r2 := 0) (r3 := 0) rfl ?_
      refine wi_goto (nx := 17) (r1 := 18) (r2 := 0) (r3 := 0) rfl ?_
      refine wi_zreturn (nx := 19) (r1 := 0) (r2 := 0) (r3 := 0) rfl rfl (by omega) ?_
      refine wk_i ?_
      refine wi_if (cd := .ne) (nx := 21) (r1 := 23) (r2 := 0) (r3 := 0) rfl (by omega) (fun (q21 : 1 ≠ 0) => ?_) (fun (q21 : ¬ (1 ≠ 0)) => by exfalso; omega)
      refine wi_aload_n (i := 0) (x := 236) (nx := 24) (r1 := 0) (r2 := 0) (r3 := 0) rfl rfl ?_
      refine wr_V (k0 := 236) (rest := []) (as := [.ref 236]) (nx := 27) (r1 := 324) (r2 := 0) (r3 := 11) rfl rfl rfl (of_decide_eq_true rfl) rfl rfl (by decide) rfl rfl (of_decide_eq_true rfl) (of_decide_eq_true rfl) ?_
      have e23 : h13 238 98 = h 238 98 := (u13 238 98 rfl)
      have e24 : h13 238 99 = h 238 99 := (u13 238 99 rfl)
      have e25 : h13 238 100 = h 238 100 := (u13 238 100 rfl)
      have e26 : h13 238 101 = h 238 101 := (u13 238 101 rfl)
      have e27 : h13 238 102 = h 238 102 := (u13 238 102 rfl)
      have e28 : h13 238 106 = h 238 106 := (u13 238 106 rfl)
      have e29 : h13 238 73 = h 238 73 := (u13 238 73 rfl)
      have e30 : h13 238 2 = h 238 2 := (u13 238 2 rfl)
      have e31 : h13 238 119 = h 238 119 := (u13 238 119 rfl)
      have e32 : h13 238 67 = h 238 67 := (u13 238 67 rfl)
      have e33 : h13 238 69 = h 238 69 := (u13 238 69 rfl)
      have e34 : h13 238 5 = h 238 5 := (u13 238 5 rfl)
      refine ct_324_236 hcr  g13   (show (h13 238 98) + (h13 238 99) + (h13 238 100) + (h13 238 101) + (h13 238 102) + (h13 238 106) = (h13 238 73) by omega) (show (h13 238 73) ≤ (h13 238 2) by omega) (show (h13 238 119) ≤ (h13 238 67) by omega) (show (h13 238 69) ≤ (h13 238 5) by omega) (show (h13 238 2) ≤ 12 * (h13 238 5) by omega) (fun h22 z35 g22 u22 (fz35 : 0 ≤ z35 ∧ z35 ≤ 1000000) => ?_)
      have F36 := F14.then (by decide +kernel) u22
      refine wk_i ?_
      refine wi_istore_n (i := 2) (e := z35) (lo2 := [(2, vi z35), (0, .ref 236), (1, vi a0)]) (nx := 28) (r1 := 0) (r2 := 0) (r3 := 0) rfl rfl ?_
      refine wi_aload_n (i := 0) (x := 236) (nx := 29) (r1 := 0) (r2 := 0) (r3 := 0) rfl rfl ?_
      refine wr_gr (k0 := 236) (x := 252) (nx := 32) (r1 := 11) (r2 := 36) (r3 := 0) rfl rfl (by decide) rfl ⟨rfl, rfl⟩ rfl ?_
      refine wi_iload_n (i := 1) (e := a0) (nx := 33) (r1 := 0) (r2 := 0) (r3 := 0) rfl rfl ?_
      obtain ⟨i37, ei37⟩ : ∃ q : Nat, a0 = (q : Int) := ⟨(a0).toNat, by omega⟩
      have b38 := gi_b (lo := 0) (hi := 4) g22 252 i37 rfl
      refine wr_ia (k0 := 252) (a := a0) (f := i37) (x := h22 252 i37) (nx := 34) (r1 := 0) (r2 := 0) (r3 := 0) rfl (by decide) rfl (by omega) (by omega) (by decide) rfl ?_
      refine wi_ireturn (nx := 35) (r1 := 0) (r2 := 0) (r3 := 0) rfl rfl ?_
      exact k h22 (h22 252 i37) g22 F36 (by omega)
-- method 271: Model.time()I
set_option maxRecDepth 100000 in
set_option maxHeartbeats 100000000 in
theorem ct_271_236 {L : Nat} {xs : Nat → Int32} {d b c : Nat} {h : hp} {cr : Nat → Nat → Option Nat} {Q : hp_Q} (hcr : CR cr)  (g : GI h)    (k : ∀ (h2 : hp) (z0 : Int) , GI h2 → FR [(236, 236, some (0, 0))] h h2 → (0 ≤ z0 ∧ z0 ≤ 9999) → Q (.inl (some (vi z0))) (hp_w h2 cr) b c) : wp (md_xa (L, xs)) (d + 1) 271 (0, [(0, .ref 236)], [], hp_w h cr, b, c) Q := by
  have F0 : FR [(236, 236, some (0, 0))] h h := FR.refl
  refine wi_aload_n (i := 0) (x := 236) (nx := 1) (r1 := 0) (r2 := 0) (r3 := 0) rfl rfl ?_
  refine wi_bipush (n := 67) (nx := 3) (r1 := 0) (r2 := 0) (r3 := 0) rfl (by decide) ?_
  refine wr_V (k0 := 236) (rest := []) (as := [.ref 236, vi 67]) (nx := 6) (r1 := 269) (r2 := 1) (r3 := 11) rfl rfl rfl (of_decide_eq_true rfl) rfl rfl (by decide) rfl rfl (of_decide_eq_true rfl) (of_decide_eq_true rfl) ?_
  refine wi_aload_n (i := 0) (x := 236) (nx := 1) (r1 := 0) (r2 := 0) (r3 := 0) rfl rfl ?_
  refine wi_iconst (n := 0) (nx := 2) (r1 := 0) (r2 := 0) (r3 := 0) rfl ?_
  refine wr_pf0 (k0 := 236) (x := 0) (bl := 0) (bh := 2) (nx := 5) (r1 := 11) (r2 := 0) (r3 := 0) rfl (by decide) rfl ⟨rfl, rfl⟩ rfl rfl g rfl (by omega) (fun h1 g1 w1 u1 => ?_)
  have F2 := F0.then rfl u1
  refine wi_aload_n (i := 0) (x := 236) (nx := 6) (r1 := 0) (r2 := 0) (r3 := 0) rfl rfl ?_
  refine wr_gr (k0 := 236) (x := 238) (nx := 9) (r1 := 11) (r2 := 13) (r3 := 0) rfl rfl (by decide) rfl ⟨rfl, rfl⟩ rfl ?_
  refine wi_iload_n (i := 1) (e := 67) (nx := 10) (r1 := 0) (r2 := 0) (r3 := 0) rfl rfl ?_
  have b3 := gi_b (lo := 0) (hi := 9999) g 238 67 rfl
  refine wr_ia (k0 := 238) (a := 67) (f := 67) (x := h 238 67) (nx := 11) (r1 := 0) (r2 := 0) (r3 := 0) rfl (by decide) rfl (by omega) (by omega) (by decide) (u1 238 67 rfl) ?_
  refine wi_ireturn (nx := 12) (r1 := 0) (r2 := 0) (r3 := 0) rfl rfl ?_
  refine wk_i ?_
  refine wi_ireturn (nx := 7) (r1 := 0) (r2 := 0) (r3 := 0) rfl rfl ?_
  exact k h1 (h 238 67) g1 F2 (by omega)
-- method 209: Model.truncate(I)I
set_option maxRecDepth 100000 in
set_option maxHeartbeats 100000000 in
theorem ct_209_236 {L : Nat} {xs : Nat → Int32} {d b c : Nat} {h : hp} {cr : Nat → Nat → Option Nat} {Q : hp_Q} (hcr : CR cr)  (g : GI h) (a0 : Int) (q0_ : -2147483648 ≤ a0 ∧ a0 ≤ 2147483647)  (k : ∀ (h2 : hp) (z0 : Int) , GI h2 → FR [(236, 236, some (0, 0)), (236, 236, some (2, 2))] h h2 → (0 ≤ z0 ∧ z0 ≤ 800) → ((0 ≤ a0 ∧ a0 ≤ h 236 2 ∧ h2 236 0 = 0 ∧ h2 236 2 = a0 ∧ z0 = a0) ∨ ((a0 < 0 ∨ h 236 2 < a0) ∧ h2 236 0 = 1 ∧ h2 236 2 = h 236 2)) → Q (.inl (some (vi z0))) (hp_w h2 cr) b c) : wp (md_xa (L, xs)) (d + 2) 209 (0, [(0, .ref 236), (1, vi a0)], [], hp_w h cr, b, c) Q := by
  have F0 : FR [(236, 236, some (0, 0)), (236, 236, some (2, 2))] h h := FR.refl
  refine wi_aload_n (i := 0) (x := 236) (nx := 1) (r1 := 0) (r2 := 0) (r3 := 0) rfl rfl ?_
  refine wi_iload_n (i := 1) (e := a0) (nx := 2) (r1 := 0) (r2 := 0) (r3 := 0) rfl rfl ?_
  refine wi_i2l (nx := 3) (r1 := 0) (r2 := 0) (r3 := 0) rfl (by omega) ?_
  refine wi_lconst (n := 0) (e := 0) (nx := 4) (r1 := 0) (r2 := 0) (r3 := 0) rfl (by decide) ?_
  refine wi_aload_n (i := 0) (x := 236) (nx := 5) (r1 := 0) (r2 := 0) (r3 := 0) rfl rfl ?_
  have b1 := gi_b (lo := 0) (hi := 800) g 236 2 rfl
  refine wr_gi0 (k0 := 236) (x := h 236 2) (nx := 8) (r1 := 11) (r2 := 2) (r3 := 0) rfl rfl (by decide) rfl ⟨rfl, rfl⟩ rfl rfl ?_
  refine wi_i2l (nx := 9) (r1 := 0) (r2 := 0) (r3 := 0) rfl (by omega) ?_
  refine wi_S (rest := [.ref 236]) (as := [vl a0, vl 0, vl (h 236 2)]) (nx := 12) (r1 := 210) (r2 := 19) (r3 := 0) rfl rfl rfl (of_decide_eq_true rfl) rfl rfl (of_decide_eq_true rfl) (of_decide_eq_true rfl) ?_
  refine wi_lload_n (i := 0) (e := a0) (nx := 1) (r1 := 0) (r2 := 0) (r3 := 0) rfl rfl ?_
  refine wi_lload_n (i := 2) (e := 0) (nx := 2) (r1 := 0) (r2 := 0) (r3 := 0) rfl rfl ?_
  refine wi_lcmp (a := a0) (e := 0) (nx := 3) (r1 := 0) (r2 := 0) (r3 := 0) rfl (by omega) (by omega) (fun r2 (fr2 : (r2 = -1 ∧ a0 < 0) ∨ (r2 = 0 ∧ a0 = 0) ∨ (r2 = 1 ∧ 0 < a0)) => ?_)
  refine wi_if (cd := .lt) (nx := 6) (r1 := 17) (r2 := 0) (r3 := 0) rfl (by omega) (fun (q3 : r2 < 0) => ?_) (fun (q3 : ¬ (r2 < 0)) => ?_)
  ·
    refine wi_iconst (n := 0) (nx := 18) (r1 := 0) (r2 := 0) (r3 := 0) rfl ?_
    refine wi_zreturn (nx := 19) (r1 := 0) (r2 := 0) (r3 := 0) rfl rfl (by omega) ?_
    refine wk_i ?_
    refine wr_V (k0 := 236) (rest := []) (as := [.ref 236, vi 0]) (nx := 15) (r1 := 206) (r2 := 1) (r3 := 11) rfl rfl rfl (of_decide_eq_true rfl) rfl rfl (by decide) rfl rfl (of_decide_eq_true rfl) (of_decide_eq_true rfl) ?_
    refine wi_aload_n (i := 0) (x := 236) (nx := 1) (r1 := 0) (r2 := 0) (r3 := 0) rfl rfl ?_
    refine wi_iload_n (i := 1) (e := 0) (nx := 2) (r1 := 0) (r2 := 0) (r3 := 0) rfl rfl ?_
    refine wi_if (cd := .ne) (nx := 5) (r1 := 9) (r2 := 0) (r3 := 0) rfl (by omega) (fun (q4 : 0 ≠ 0) => by exfalso; omega) (fun (q4 : ¬ (0 ≠ 0)) => ?_)
    refine wi_iconst (n := 1) (nx := 6) (r1 := 0) (r2 := 0) (r3 := 0) rfl ?_
    refine wi_goto (nx := 9) (r1 := 10) (r2 := 0) (r3 := 0) rfl ?_
    refine wi_S (rest := [.ref 236]) (as := [vi 1]) (nx := 13) (r1 := 207) (r2 := 17) (r3 := 0) rfl rfl rfl (of_decide_eq_true rfl) rfl rfl (of_decide_eq_true rfl) (of_decide_eq_true rfl) ?_
    refine wi_iload_n (i := 0) (e := 1) (nx := 1) (r1 := 0) (r2 := 0) (r3 := 0) rfl rfl ?_
    refine wi_if (cd := .eq) (nx := 4) (r1 := 8) (r2 := 0) (r3 := 0) rfl (by omega) (fun (q5 : 1 = 0) => by exfalso; omega) (fun (q5 : ¬ (1 = 0)) => ?_)
    refine wi_iconst (n := 1) (nx := 5) (r1 := 0) (r2 := 0) (r3 := 0) rfl ?_
    refine wi_goto (nx := 8) (r1 := 9) (r2 := 0) (r3 := 0) rfl ?_
    refine wi_ireturn (nx := 10) (r1 := 0) (r2 := 0) (r3 := 0) rfl rfl ?_
    refine wk_i ?_
    refine wr_pf0 (k0 := 236) (x := 1) (bl := 0) (bh := 2) (nx := 16) (r1 := 11) (r2 := 0) (r3 := 0) rfl (by decide) rfl ⟨rfl, rfl⟩ rfl rfl g rfl (by omega) (fun h6 g6 w6 u6 => ?_)
    have F7 := F0.then rfl u6
    refine wi_iload_n (i := 1) (e := 0) (nx := 17) (r1 := 0) (r2 := 0) (r3 := 0) rfl rfl ?_
    refine wi_zreturn (nx := 18) (r1 := 0) (r2 := 0) (r3 := 0) rfl rfl (by omega) ?_
    refine wk_i ?_
    refine wi_if (cd := .ne) (nx := 18) (r1 := 20) (r2 := 0) (r3 := 0) rfl (by omega) (fun (q8 : 0 ≠ 0) => by exfalso; omega) (fun (q8 : ¬ (0 ≠ 0)) => ?_)
    refine wi_iconst (n := 0) (nx := 19) (r1 := 0) (r2 := 0) (r3 := 0) rfl ?_
    refine wi_ireturn (nx := 20) (r1 := 0) (r2 := 0) (r3 := 0) rfl rfl ?_
    have e9 : h6 236 0 = 1 := w6
    have e10 : h6 236 2 = h 236 2 := (u6 236 2 rfl)
    exact k h6 0 g6 F7 (by omega) (show (0 ≤ a0 ∧ a0 ≤ (h 236 2) ∧ (h6 236 0) = 0 ∧ (h6 236 2) = a0 ∧ 0 = a0) ∨ ((a0 < 0 ∨ (h 236 2) < a0) ∧ (h6 236 0) = 1 ∧ (h6 236 2) = (h 236 2)) by omega)
  ·
    refine wi_lload_n (i := 0) (e := a0) (nx := 7) (r1 := 0) (r2 := 0) (r3 := 0) rfl rfl ?_
    refine wi_lload (i := 4) (e := h 236 2) (nx := 9) (r1 := 0) (r2 := 0) (r3 := 0) rfl rfl ?_
    refine wi_lcmp (a := a0) (e := h 236 2) (nx := 10) (r1 := 0) (r2 := 0) (r3 := 0) rfl (by omega) (by omega) (fun r4 (fr4 : (r4 = -1 ∧ a0 < (h 236 2)) ∨ (r4 = 0 ∧ a0 = (h 236 2)) ∨ (r4 = 1 ∧ (h 236 2) < a0)) => ?_)
    refine wi_if (cd := .gt) (nx := 13) (r1 := 17) (r2 := 0) (r3 := 0) rfl (by omega) (fun (q5 : 0 < r4) => ?_) (fun (q5 : ¬ (0 < r4)) => ?_)
    ·
      refine wi_iconst (n := 0) (nx := 18) (r1 := 0) (r2 := 0) (r3 := 0) rfl ?_
      refine wi_zreturn (nx := 19) (r1 := 0) (r2 := 0) (r3 := 0) rfl rfl (by omega) ?_
      refine wk_i ?_
      refine wr_V (k0 := 236) (rest := []) (as := [.ref 236, vi 0]) (nx := 15) (r1 := 206) (r2 := 1) (r3 := 11) rfl rfl rfl (of_decide_eq_true rfl) rfl rfl (by decide) rfl rfl (of_decide_eq_true rfl) (of_decide_eq_true rfl) ?_
      refine wi_aload_n (i := 0) (x := 236) (nx := 1) (r1 := 0) (r2 := 0) (r3 := 0) rfl rfl ?_
      refine wi_iload_n (i := 1) (e := 0) (nx := 2) (r1 := 0) (r2 := 0) (r3 := 0) rfl rfl ?_
      refine wi_if (cd := .ne) (nx := 5) (r1 := 9) (r2 := 0) (r3 := 0) rfl (by omega) (fun (q6 : 0 ≠ 0) => by exfalso; omega) (fun (q6 : ¬ (0 ≠ 0)) => ?_)
      refine wi_iconst (n := 1) (nx := 6) (r1 := 0) (r2 := 0) (r3 := 0) rfl ?_
      refine wi_goto (nx := 9) (r1 := 10) (r2 := 0) (r3 := 0) rfl ?_
      refine wi_S (rest := [.ref 236]) (as := [vi 1]) (nx := 13) (r1 := 207) (r2 := 17) (r3 := 0) rfl rfl rfl (of_decide_eq_true rfl) rfl rfl (of_decide_eq_true rfl) (of_decide_eq_true rfl) ?_
      refine wi_iload_n (i := 0) (e := 1) (nx := 1) (r1 := 0) (r2 := 0) (r3 := 0) rfl rfl ?_
      refine wi_if (cd := .eq) (nx := 4) (r1 := 8) (r2 := 0) (r3 := 0) rfl (by omega) (fun (q7 : 1 = 0) => by exfalso; omega) (fun (q7 : ¬ (1 = 0)) => ?_)
      refine wi_iconst (n := 1) (nx := 5) (r1 := 0) (r2 := 0) (r3 := 0) rfl ?_
      refine wi_goto (nx := 8) (r1 := 9) (r2 := 0) (r3 := 0) rfl ?_
      refine wi_ireturn (nx := 10) (r1 := 0) (r2 := 0) (r3 := 0) rfl rfl ?_
      refine wk_i ?_
      refine wr_pf0 (k0 := 236) (x := 1) (bl := 0) (bh := 2) (nx := 16) (r1 := 11) (r2 := 0) (r3 := 0) rfl (by decide) rfl ⟨rfl, rfl⟩ rfl rfl g rfl (by omega) (fun h8 g8 w8 u8 => ?_)
      have F9 := F0.then rfl u8
      refine wi_iload_n (i := 1) (e := 0) (nx := 17) (r1 := 0) (r2 := 0) (r3 := 0) rfl rfl ?_
      refine wi_zreturn (nx := 18) (r1 := 0) (r2 := 0) (r3 := 0) rfl rfl (by omega) ?_
      refine wk_i ?_
      refine wi_if (cd := .ne) (nx := 18) (r1 := 20) (r2 := 0) (r3 := 0) rfl (by omega) (fun (q10 : 0 ≠ 0) => by exfalso; omega) (fun (q10 : ¬ (0 ≠ 0)) => ?_)
      refine wi_iconst (n := 0) (nx := 19) (r1 := 0) (r2 := 0) (r3 := 0) rfl ?_
      refine wi_ireturn (nx := 20) (r1 := 0) (r2 := 0) (r3 := 0) rfl rfl ?_
      have e11 : h8 236 0 = 1 := w8
      have e12 : h8 236 2 = h 236 2 := (u8 236 2 rfl)
      exact k h8 0 g8 F9 (by omega) (show (0 ≤ a0 ∧ a0 ≤ (h 236 2) ∧ (h8 236 0) = 0 ∧ (h8 236 2) = a0 ∧ 0 = a0) ∨ ((a0 < 0 ∨ (h 236 2) < a0) ∧ (h8 236 0) = 1 ∧ (h8 236 2) = (h 236 2)) by omega)
    ·
      refine wi_iconst (n := 1) (nx := 14) (r1 := 0) (r2 := 0) (r3 := 0) rfl ?_
      refine wi_goto (nx := 17) (r1 := 18) (r2 := 0) (r3 := 0) rfl ?_
      refine wi_zreturn (nx := 19) (r1 := 0) (r2 := 0) (r3 := 0) rfl rfl (by omega) ?_
      refine wk_i ?_
      refine wr_V (k0 := 236) (rest := []) (as := [.ref 236, vi 1]) (nx := 15) (r1 := 206) (r2 := 1) (r3 := 11) rfl rfl rfl (of_decide_eq_true rfl) rfl rfl (by decide) rfl rfl (of_decide_eq_true rfl) (of_decide_eq_true rfl) ?_
      refine wi_aload_n (i := 0) (x := 236) (nx := 1) (r1 := 0) (r2 := 0) (r3 := 0) rfl rfl ?_
      refine wi_iload_n (i := 1) (e := 1) (nx := 2) (r1 := 0) (r2 := 0) (r3 := 0) rfl rfl ?_
      refine wi_if (cd := .ne) (nx := 5) (r1 := 9) (r2 := 0) (r3 := 0) rfl (by omega) (fun (q6 : 1 ≠ 0) => ?_) (fun (q6 : ¬ (1 ≠ 0)) => by exfalso; omega)
      refine wi_iconst (n := 0) (nx := 10) (r1 := 0) (r2 := 0) (r3 := 0) rfl ?_
      refine wi_S (rest := [.ref 236]) (as := [vi 0]) (nx := 13) (r1 := 207) (r2 := 17) (r3 := 0) rfl rfl rfl (of_decide_eq_true rfl) rfl rfl (of_decide_eq_true rfl) (of_decide_eq_true rfl) ?_
      refine wi_iload_n (i := 0) (e := 0) (nx := 1) (r1 := 0) (r2 := 0) (r3 := 0) rfl rfl ?_
      refine wi_if (cd := .eq) (nx := 4) (r1 := 8) (r2 := 0) (r3 := 0) rfl (by omega) (fun (q7 : 0 = 0) => ?_) (fun (q7 : ¬ (0 = 0)) => by exfalso; omega)
      refine wi_iconst (n := 0) (nx := 9) (r1 := 0) (r2 := 0) (r3 := 0) rfl ?_
      refine wi_ireturn (nx := 10) (r1 := 0) (r2 := 0) (r3 := 0) rfl rfl ?_
      refine wk_i ?_
      refine wr_pf0 (k0 := 236) (x := 0) (bl := 0) (bh := 2) (nx := 16) (r1 := 11) (r2 := 0) (r3 := 0) rfl (by decide) rfl ⟨rfl, rfl⟩ rfl rfl g rfl (by omega) (fun h8 g8 w8 u8 => ?_)
      have F9 := F0.then rfl u8
      refine wi_iload_n (i := 1) (e := 1) (nx := 17) (r1 := 0) (r2 := 0) (r3 := 0) rfl rfl ?_
      refine wi_zreturn (nx := 18) (r1 := 0) (r2 := 0) (r3 := 0) rfl rfl (by omega) ?_
      refine wk_i ?_
      refine wi_if (cd := .ne) (nx := 18) (r1 := 20) (r2 := 0) (r3 := 0) rfl (by omega) (fun (q10 : 1 ≠ 0) => ?_) (fun (q10 : ¬ (1 ≠ 0)) => by exfalso; omega)
      refine wi_aload_n (i := 0) (x := 236) (nx := 21) (r1 := 0) (r2 := 0) (r3 := 0) rfl rfl ?_
      refine wi_iload_n (i := 1) (e := a0) (nx := 22) (r1 := 0) (r2 := 0) (r3 := 0) rfl rfl ?_
      refine wr_pf0 (k0 := 236) (x := a0) (bl := 0) (bh := 800) (nx := 25) (r1 := 11) (r2 := 2) (r3 := 0) rfl (by decide) rfl ⟨rfl, rfl⟩ rfl rfl g8 rfl (by omega) (fun h11 g11 w11 u11 => ?_)
      have F12 := F9.then rfl u11
      refine wi_iload_n (i := 1) (e := a0) (nx := 26) (r1 := 0) (r2 := 0) (r3 := 0) rfl rfl ?_
      refine wi_ireturn (nx := 27) (r1 := 0) (r2 := 0) (r3 := 0) rfl rfl ?_
      have e13 : h11 236 0 = 0 := ((u11 236 0 rfl).trans w8)
      have e14 : h11 236 2 = a0 := w11
      exact k h11 a0 g11 F12 (by omega) (show (0 ≤ a0 ∧ a0 ≤ (h 236 2) ∧ (h11 236 0) = 0 ∧ (h11 236 2) = a0 ∧ a0 = a0) ∨ ((a0 < 0 ∨ (h 236 2) < a0) ∧ (h11 236 0) = 1 ∧ (h11 236 2) = (h 236 2)) by omega)
-- method 351: Model.undo()I
set_option maxRecDepth 100000 in
set_option maxHeartbeats 100000000 in
theorem ct_351_236 {L : Nat} {xs : Nat → Int32} {d b c : Nat} {h : hp} {cr : Nat → Nat → Option Nat} {Q : hp_Q} (hcr : CR cr)  (g : GI h)   (pp0 : h 238 98 + h 238 99 + h 238 100 + h 238 101 + h 238 102 + h 238 106 = h 238 73) (pp1 : h 238 73 ≤ h 238 2) (pp2 : h 238 119 ≤ h 238 67) (pp3 : h 238 69 ≤ h 238 5) (pp4 : h 238 2 ≤ 12 * h 238 5) (xq0 : GPS h) (gp0 : GPH h) (k : ∀ (h2 : hp) (z0 : Int) , GI h2 → FR [(238, 238, none), (236, 236, some (0, 0)), (236, 236, some (22, 22))] h h2 → (-1 ≤ z0 ∧ z0 ≤ 5) → (RS (h2 238) 0) → (∀ i : Nat, i < 31 → h2 238 i = h 238 i) → (GPS h2) → (GPH h2) → Q (.inl (some (vi z0))) (hp_w h2 cr) b c) : wp (md_xa (L, xs)) d 351 (0, [(0, .ref 236)], [], hp_w h cr, b, c) Q := by
  have F0 : FR [(238, 238, none), (236, 236, some (0, 0)), (236, 236, some (22, 22))] h h := FR.refl
  have b1 := gi_b (lo := 0) (hi := 6) g 238 98 rfl
  have b2 := gi_b (lo := 0) (hi := 6) g 238 99 rfl
  have b3 := gi_b (lo := 0) (hi := 6) g 238 100 rfl
  have b4 := gi_b (lo := 0) (hi := 6) g 238 101 rfl
  have b5 := gi_b (lo := 0) (hi := 3) g 238 102 rfl
  have b6 := gi_b (lo := 0) (hi := 12) g 238 106 rfl
  have b7 := gi_b (lo := 0) (hi := 12) g 238 73 rfl
  have b8 := gi_b (lo := 0) (hi := 12) g 238 2 rfl
  have b9 := gi_b (lo := 0) (hi := 9999) g 238 119 rfl
  have b10 := gi_b (lo := 0) (hi := 9999) g 238 67 rfl
  have b11 := gi_b (lo := 0) (hi := 9) g 238 69 rfl
  have b12 := gi_b (lo := 0) (hi := 9) g 238 5 rfl
  refine wi_aload_n (i := 0) (x := 236) (nx := 1) (r1 := 0) (r2 := 0) (r3 := 0) rfl rfl ?_
  refine wi_iconst (n := 0) (nx := 2) (r1 := 0) (r2 := 0) (r3 := 0) rfl ?_
  refine wr_pf0 (k0 := 236) (x := 0) (bl := 0) (bh := 2) (nx := 5) (r1 := 11) (r2 := 0) (r3 := 0) rfl (by decide) rfl ⟨rfl, rfl⟩ rfl rfl g rfl (by omega) (fun h13 g13 w13 u13 => ?_)
  have F14 := F0.then rfl u13
  refine wi_aload_n (i := 0) (x := 236) (nx := 6) (r1 := 0) (r2 := 0) (r3 := 0) rfl rfl ?_
  have b15 := gi_b (lo := 0) (hi := 6) g 236 22 rfl
  rcases (show h 236 22 = 0 ∨ h 236 22 = 1 ∨ h 236 22 = 2 ∨ h 236 22 = 3 ∨ h 236 22 = 4 ∨ h 236 22 = 5 ∨ h 236 22 = 6 by omega) with q16 | q16 | q16 | q16 | q16 | q16 | q16
  ·
    refine wr_gi0 (k0 := 236) (x := 0) (nx := 9) (r1 := 11) (r2 := 22) (r3 := 0) rfl rfl (by decide) rfl ⟨rfl, rfl⟩ rfl ((u13 236 22 rfl).trans q16) ?_
    refine wi_if (cd := .ne) (nx := 12) (r1 := 14) (r2 := 0) (r3 := 0) rfl (by omega) (fun (q17 : 0 ≠ 0) => by exfalso; omega) (fun (q17 : ¬ (0 ≠ 0)) => ?_)
    refine wi_iconst (n := (-1)) (nx := 13) (r1 := 0) (r2 := 0) (r3 := 0) rfl ?_
    refine wi_ireturn (nx := 14) (r1 := 0) (r2 := 0) (r3 := 0) rfl rfl ?_
    have e18 : h13 238 98 = h 238 98 := (u13 238 98 rfl)
    have e19 : h13 238 99 = h 238 99 := (u13 238 99 rfl)
    have e20 : h13 238 100 = h 238 100 := (u13 238 100 rfl)
    have e21 : h13 238 101 = h 238 101 := (u13 238 101 rfl)
    have e22 : h13 238 102 = h 238 102 := (u13 238 102 rfl)
    have e23 : h13 238 106 = h 238 106 := (u13 238 106 rfl)
    have e24 : h13 238 73 = h 238 73 := (u13 238 73 rfl)
    have e25 : h13 238 2 = h 238 2 := (u13 238 2 rfl)
    have e26 : h13 238 119 = h 238 119 := (u13 238 119 rfl)
    have e27 : h13 238 67 = h 238 67 := (u13 238 67 rfl)
    have e28 : h13 238 69 = h 238 69 := (u13 238 69 rfl)
    have e29 : h13 238 5 = h 238 5 := (u13 238 5 rfl)
    have e30 : h 236 22 = 0 := q16
    have e31 : h13 236 22 = 0 := ((u13 236 22 rfl).trans q16)
    have gp32 := GPH.fr u13 rfl gp0
    exact k h13 (-1) g13 F14 (by omega) (RS.i0 (f := h13 238) (by refine ⟨?_, ?_, ?_, ?_, ?_⟩ <;> omega)) (fun i _ => (u13 238 i (fn_a (by omega) fn_0))) (GPS.back xq0 (by omega) (fun i _ => (u13 238 i (fn_a (by omega) fn_0))) (fun i => (u13 242 i (fn_a (by omega) fn_0)))) gp32
  ·
    refine wr_gi0 (k0 := 236) (x := 1) (nx := 9) (r1 := 11) (r2 := 22) (r3 := 0) rfl rfl (by decide) rfl ⟨rfl, rfl⟩ rfl ((u13 236 22 rfl).trans q16) ?_
    refine wi_if (cd := .ne) (nx := 12) (r1 := 14) (r2 := 0) (r3 := 0) rfl (by omega) (fun (q17 : 1 ≠ 0) => ?_) (fun (q17 : ¬ (1 ≠ 0)) => by exfalso; omega)
    refine wi_aload_n (i := 0) (x := 236) (nx := 15) (r1 := 0) (r2 := 0) (r3 := 0) rfl rfl ?_
    refine wi_dup (nx := 16) (r1 := 0) (r2 := 0) (r3 := 0) rfl rfl ?_
    refine wr_gi0 (k0 := 236) (x := 1) (nx := 19) (r1 := 11) (r2 := 22) (r3 := 0) rfl rfl (by decide) rfl ⟨rfl, rfl⟩ rfl ((u13 236 22 rfl).trans q16) ?_
    refine wi_iconst (n := 1) (nx := 20) (r1 := 0) (r2 := 0) (r3 := 0) rfl ?_
    refine wr_subL (0) (nx := 21) (r1 := 0) (r2 := 0) (r3 := 0) rfl (by decide) ?_
    refine wr_pf0 (k0 := 236) (x := 0) (bl := 0) (bh := 6) (nx := 24) (r1 := 11) (r2 := 22) (r3 := 0) rfl (by decide) rfl ⟨rfl, rfl⟩ rfl rfl g13 rfl (by omega) (fun h18 g18 w18 u18 => ?_)
    have F19 := F14.then rfl u18
    refine wi_iconst (n := 0) (nx := 25) (r1 := 0) (r2 := 0) (r3 := 0) rfl ?_
    refine wi_istore_n (i := 1) (e := 0) (lo2 := [(1, vi 0), (0, .ref 236)]) (nx := 26) (r1 := 0) (r2 := 0) (r3 := 0) rfl rfl ?_
    refine wp.lo (lo := [(0, .ref 236), (1, vi 0)]) ⟨rfl, rfl, trivial⟩ rfl ?_
    refine wl_1 (fun x20 h21 => GI h21 ∧ FR [(238, 238, none), (236, 236, some (0, 0)), (236, 236, some (22, 22))] h h21 ∧ FR [(238, 238, none)] h18 h21 ∧ ((0 ≤ x20 ∧ x20 ≤ 200)) ∧ (∀ q : Nat, (q : Int) < x20 → h21 238 q = h18 242 q) ∧ (∀ q : Nat, x20 ≤ (q : Int) → h21 238 q = h18 238 q)) (fun x20 h21 => ((200 : Int) + 1 - x20).toNat) (fun x20 h21 => (26, [(0, .ref 236), (1, vi x20)], [], hp_w h21 cr, b, c)) ?_ 0 h18 ⟨g18, F19, FR.refl, (show (0 ≤ 0 ∧ 0 ≤ 200) by omega), (fun q e => absurd e (by omega)), (fun _ _ => rfl)⟩
    intro x20 h21 ⟨g21, F22, u21, f21, XA21, XB21⟩ I21
    refine wi_iload_n (i := 1) (e := x20) (nx := 27) (r1 := 0) (r2 := 0) (r3 := 0) rfl rfl ?_
    refine wi_sipush (n := 200) (nx := 30) (r1 := 0) (r2 := 0) (r3 := 0) rfl (by decide) ?_
    refine wi_icmp (cd := .ge) (nx := 33) (r1 := 60) (r2 := 0) (r3 := 0) rfl (by omega) (by omega) (fun (q23 : 200 ≤ x20) => ?_) (fun (q23 : ¬ (200 ≤ x20)) => ?_)
    ·
      refine wi_aload_n (i := 0) (x := 236) (nx := 61) (r1 := 0) (r2 := 0) (r3 := 0) rfl rfl ?_
      refine wr_gi0 (k0 := 236) (x := 0) (nx := 64) (r1 := 11) (r2 := 22) (r3 := 0) rfl rfl (by decide) rfl ⟨rfl, rfl⟩ rfl ((u21 236 22 rfl).trans w18) ?_
      refine wi_ireturn (nx := 65) (r1 := 0) (r2 := 0) (r3 := 0) rfl rfl ?_
      have gp24 := GPH.fr u13 rfl gp0
      have gp25 := GPH.fr u18 rfl gp24
      have e26 : h 236 22 = 1 := q16
      have e27 : h21 236 22 = 0 := ((u21 236 22 rfl).trans w18)
      have gp28 := GPH.fr u21 rfl gp25
      exact k h21 0 g21 F22 (by omega) (RS.of (o := 200 * 0) (p := 0) (fun q e => by rw [Nat.zero_add]; exact XA21 q (by omega)) (gp25 0 (by decide))) (fun i hi => (XA21 i (by omega)).trans ((show h18 242 (i) = h 242 (200 * 0 + i) by rw [show 200 * 0 + i = i by omega]; exact ((u18 242 ((i)) (fn_a (by omega) fn_0)).trans (u13 242 ((i)) (fn_a (by omega) fn_0)))).trans (xq0 0 (by decide) (by omega) i hi))) (GPS.back xq0 (by omega) (fun i hi => (XA21 i (by omega)).trans ((show h18 242 (i) = h 242 (200 * 0 + i) by rw [show 200 * 0 + i = i by omega]; exact ((u18 242 ((i)) (fn_a (by omega) fn_0)).trans (u13 242 ((i)) (fn_a (by omega) fn_0)))).trans (xq0 0 (by decide) (by omega) i hi))) (fun i => ((u21 242 i (fn_a (by decide) fn_0)).trans ((u18 242 i (fn_a (by omega) fn_0)).trans (u13 242 i (fn_a (by omega) fn_0)))))) gp28
    ·
      refine wi_aload_n (i := 0) (x := 236) (nx := 34) (r1 := 0) (r2 := 0) (r3 := 0) rfl rfl ?_
      refine wr_gr (k0 := 236) (x := 238) (nx := 37) (r1 := 11) (r2 := 13) (r3 := 0) rfl rfl (by decide) rfl ⟨rfl, rfl⟩ rfl ?_
      refine wi_iload_n (i := 1) (e := x20) (nx := 38) (r1 := 0) (r2 := 0) (r3 := 0) rfl rfl ?_
      refine wi_aload_n (i := 0) (x := 236) (nx := 39) (r1 := 0) (r2 := 0) (r3 := 0) rfl rfl ?_
      refine wr_gr (k0 := 236) (x := 242) (nx := 42) (r1 := 11) (r2 := 17) (r3 := 0) rfl rfl (by decide) rfl ⟨rfl, rfl⟩ rfl ?_
      refine wi_sipush (n := 200) (nx := 45) (r1 := 0) (r2 := 0) (r3 := 0) rfl (by decide) ?_
      refine wi_aload_n (i := 0) (x := 236) (nx := 46) (r1 := 0) (r2 := 0) (r3 := 0) rfl rfl ?_
      refine wr_gi0 (k0 := 236) (x := 0) (nx := 49) (r1 := 11) (r2 := 22) (r3 := 0) rfl rfl (by decide) rfl ⟨rfl, rfl⟩ rfl ((u21 236 22 rfl).trans w18) ?_
      refine wr_mulL (0) (nx := 50) (r1 := 0) (r2 := 0) (r3 := 0) rfl (by decide) ?_
      refine wi_iload_n (i := 1) (e := x20) (nx := 51) (r1 := 0) (r2 := 0) (r3 := 0) rfl rfl ?_
      refine wr_add (nx := 52) (r1 := 0) (r2 := 0) (r3 := 0) rfl (fun e24 (fe24 : e24 = 0 + x20) => ?_)
      obtain ⟨i25, ei25⟩ : ∃ q : Nat, e24 = (q : Int) := ⟨(e24).toNat, by omega⟩
      refine wr_ia (k0 := 242) (a := e24) (f := i25) (x := h 242 i25) (nx := 53) (r1 := 0) (r2 := 0) (r3 := 0) rfl (by decide) rfl (by omega) (by omega) (by decide) ((u21 242 i25 (fn_a (by decide) fn_0)).trans ((u18 242 i25 (fn_a (by omega) fn_0)).trans (u13 242 i25 (fn_a (by omega) fn_0)))) ?_
      refine wr_iv (k0 := 238) (a := x20) (f := i25) (x := h 242 i25) (nx := 54) (r1 := 0) (r2 := 0) (r3 := 0) rfl (by decide) rfl (by omega) (by omega) (by decide) g21 (gi_pr (by omega) (fun _ => rfl) (g 242 i25)) (fun h26 g26 w26 u26 => ?_)
      have F27 := F22.then rfl (FR.rngp (lo := 238) (hi := 238) u26 (by decide))
      have F28 := u21.then rfl (FR.rngp (lo := 238) (hi := 238) u26 (by decide))
      refine wr_iinc (i := 1) (n := 1) (v := x20) (fun e29 => [(1, vi e29), (0, .ref 236)]) (nx := 57) (r1 := 0) (r2 := 0) (r3 := 0) rfl rfl (fun _ => rfl) (fun e29 (fe29 : e29 = x20 + 1) => ?_)
      refine wi_goto (nx := 60) (r1 := 26) (r2 := 0) (r3 := 0) rfl ?_
      refine wp.lo (lo := [(0, .ref 236), (1, vi e29)]) ⟨rfl, rfl, trivial⟩ rfl ?_
      exact I21 e29 h26 ⟨g26, F27, F28, (show (0 ≤ e29 ∧ e29 ≤ 200) by omega), (fun q e => by
          by_cases e1 : (q : Int) < x20
          · exact (u26 238 _ (fn_i (by omega) fn_0)).trans (XA21 q e1)
          · have e2 : q = i25 := by omega
            have e3 : q = i25 := by omega
            exact (congrArg (h26 238) e2).trans (w26.trans ((((u18 242 i25 (fn_a (by omega) fn_0)).trans (u13 242 i25 (fn_a (by omega) fn_0))).symm).trans (congrArg (h18 242) e3).symm))), (fun q e => (u26 238 q (fn_i (by omega) fn_0)).trans (XB21 q (by omega)))⟩ (show ((200 : Int) + 1 - e29).toNat < ((200 : Int) + 1 - x20).toNat by omega)
  ·
    refine wr_gi0 (k0 := 236) (x := 2) (nx := 9) (r1 := 11) (r2 := 22) (r3 := 0) rfl rfl (by decide) rfl ⟨rfl, rfl⟩ rfl ((u13 236 22 rfl).trans q16) ?_
    refine wi_if (cd := .ne) (nx := 12) (r1 := 14) (r2 := 0) (r3 := 0) rfl (by omega) (fun (q17 : 2 ≠ 0) => ?_) (fun (q17 : ¬ (2 ≠ 0)) => by exfalso; omega)
    refine wi_aload_n (i := 0) (x := 236) (nx := 15) (r1 := 0) (r2 := 0) (r3 := 0) rfl rfl ?_
    refine wi_dup (nx := 16) (r1 := 0) (r2 := 0) (r3 := 0) rfl rfl ?_
    refine wr_gi0 (k0 := 236) (x := 2) (nx := 19) (r1 := 11) (r2 := 22) (r3 := 0) rfl rfl (by decide) rfl ⟨rfl, rfl⟩ rfl ((u13 236 22 rfl).trans q16) ?_
    refine wi_iconst (n := 1) (nx := 20) (r1 := 0) (r2 := 0) (r3 := 0) rfl ?_
    refine wr_subL (1) (nx := 21) (r1 := 0) (r2 := 0) (r3 := 0) rfl (by decide) ?_
    refine wr_pf0 (k0 := 236) (x := 1) (bl := 0) (bh := 6) (nx := 24) (r1 := 11) (r2 := 22) (r3 := 0) rfl (by decide) rfl ⟨rfl, rfl⟩ rfl rfl g13 rfl (by omega) (fun h18 g18 w18 u18 => ?_)
    have F19 := F14.then rfl u18
    refine wi_iconst (n := 0) (nx := 25) (r1 := 0) (r2 := 0) (r3 := 0) rfl ?_
    refine wi_istore_n (i := 1) (e := 0) (lo2 := [(1, vi 0), (0, .ref 236)]) (nx := 26) (r1 := 0) (r2 := 0) (r3 := 0) rfl rfl ?_
    refine wp.lo (lo := [(0, .ref 236), (1, vi 0)]) ⟨rfl, rfl, trivial⟩ rfl ?_
    refine wl_1 (fun x20 h21 => GI h21 ∧ FR [(238, 238, none), (236, 236, some (0, 0)), (236, 236, some (22, 22))] h h21 ∧ FR [(238, 238, none)] h18 h21 ∧ ((0 ≤ x20 ∧ x20 ≤ 200)) ∧ (∀ q : Nat, (q : Int) < x20 → h21 238 q = h18 242 (200 + q)) ∧ (∀ q : Nat, x20 ≤ (q : Int) → h21 238 q = h18 238 q)) (fun x20 h21 => ((200 : Int) + 1 - x20).toNat) (fun x20 h21 => (26, [(0, .ref 236), (1, vi x20)], [], hp_w h21 cr, b, c)) ?_ 0 h18 ⟨g18, F19, FR.refl, (show (0 ≤ 0 ∧ 0 ≤ 200) by omega), (fun q e => absurd e (by omega)), (fun _ _ => rfl)⟩
    intro x20 h21 ⟨g21, F22, u21, f21, XA21, XB21⟩ I21
    refine wi_iload_n (i := 1) (e := x20) (nx := 27) (r1 := 0) (r2 := 0) (r3 := 0) rfl rfl ?_
    refine wi_sipush (n := 200) (nx := 30) (r1 := 0) (r2 := 0) (r3 := 0) rfl (by decide) ?_
    refine wi_icmp (cd := .ge) (nx := 33) (r1 := 60) (r2 := 0) (r3 := 0) rfl (by omega) (by omega) (fun (q23 : 200 ≤ x20) => ?_) (fun (q23 : ¬ (200 ≤ x20)) => ?_)
    ·
      refine wi_aload_n (i := 0) (x := 236) (nx := 61) (r1 := 0) (r2 := 0) (r3 := 0) rfl rfl ?_
      refine wr_gi0 (k0 := 236) (x := 1) (nx := 64) (r1 := 11) (r2 := 22) (r3 := 0) rfl rfl (by decide) rfl ⟨rfl, rfl⟩ rfl ((u21 236 22 rfl).trans w18) ?_
      refine wi_ireturn (nx := 65) (r1 := 0) (r2 := 0) (r3 := 0) rfl rfl ?_
      have gp24 := GPH.fr u13 rfl gp0
      have gp25 := GPH.fr u18 rfl gp24
      have e26 : h 236 22 = 2 := q16
      have e27 : h21 236 22 = 1 := ((u21 236 22 rfl).trans w18)
      have gp28 := GPH.fr u21 rfl gp25
      exact k h21 1 g21 F22 (by omega) (RS.of (o := 200 * 1) (p := 0) (fun q e => by rw [Nat.zero_add]; exact XA21 q (by omega)) (gp25 1 (by decide))) (fun i hi => (XA21 i (by omega)).trans ((show h18 242 (200 + i) = h 242 (200 * 1 + i) by rw [show 200 * 1 + i = 200 + i by omega]; exact ((u18 242 ((200 + i)) (fn_a (by omega) fn_0)).trans (u13 242 ((200 + i)) (fn_a (by omega) fn_0)))).trans (xq0 1 (by decide) (by omega) i hi))) (GPS.back xq0 (by omega) (fun i hi => (XA21 i (by omega)).trans ((show h18 242 (200 + i) = h 242 (200 * 1 + i) by rw [show 200 * 1 + i = 200 + i by omega]; exact ((u18 242 ((200 + i)) (fn_a (by omega) fn_0)).trans (u13 242 ((200 + i)) (fn_a (by omega) fn_0)))).trans (xq0 1 (by decide) (by omega) i hi))) (fun i => ((u21 242 i (fn_a (by decide) fn_0)).trans ((u18 242 i (fn_a (by omega) fn_0)).trans (u13 242 i (fn_a (by omega) fn_0)))))) gp28
    ·
      refine wi_aload_n (i := 0) (x := 236) (nx := 34) (r1 := 0) (r2 := 0) (r3 := 0) rfl rfl ?_
      refine wr_gr (k0 := 236) (x := 238) (nx := 37) (r1 := 11) (r2 := 13) (r3 := 0) rfl rfl (by decide) rfl ⟨rfl, rfl⟩ rfl ?_
      refine wi_iload_n (i := 1) (e := x20) (nx := 38) (r1 := 0) (r2 := 0) (r3 := 0) rfl rfl ?_
      refine wi_aload_n (i := 0) (x := 236) (nx := 39) (r1 := 0) (r2 := 0) (r3 := 0) rfl rfl ?_
      refine wr_gr (k0 := 236) (x := 242) (nx := 42) (r1 := 11) (r2 := 17) (r3 := 0) rfl rfl (by decide) rfl ⟨rfl, rfl⟩ rfl ?_
      refine wi_sipush (n := 200) (nx := 45) (r1 := 0) (r2 := 0) (r3 := 0) rfl (by decide) ?_
      refine wi_aload_n (i := 0) (x := 236) (nx := 46) (r1 := 0) (r2 := 0) (r3 := 0) rfl rfl ?_
      refine wr_gi0 (k0 := 236) (x := 1) (nx := 49) (r1 := 11) (r2 := 22) (r3 := 0) rfl rfl (by decide) rfl ⟨rfl, rfl⟩ rfl ((u21 236 22 rfl).trans w18) ?_
      refine wr_mulL (200) (nx := 50) (r1 := 0) (r2 := 0) (r3 := 0) rfl (by decide) ?_
      refine wi_iload_n (i := 1) (e := x20) (nx := 51) (r1 := 0) (r2 := 0) (r3 := 0) rfl rfl ?_
      refine wr_add (nx := 52) (r1 := 0) (r2 := 0) (r3 := 0) rfl (fun e24 (fe24 : e24 = 200 + x20) => ?_)
      obtain ⟨i25, ei25⟩ : ∃ q : Nat, e24 = (q : Int) := ⟨(e24).toNat, by omega⟩
      refine wr_ia (k0 := 242) (a := e24) (f := i25) (x := h 242 i25) (nx := 53) (r1 := 0) (r2 := 0) (r3 := 0) rfl (by decide) rfl (by omega) (by omega) (by decide) ((u21 242 i25 (fn_a (by decide) fn_0)).trans ((u18 242 i25 (fn_a (by omega) fn_0)).trans (u13 242 i25 (fn_a (by omega) fn_0)))) ?_
      obtain ⟨i26, ei26⟩ : ∃ q : Nat, x20 = (q : Int) := ⟨(x20).toNat, by omega⟩
      refine wr_iv (k0 := 238) (a := x20) (f := i26) (x := h 242 i25) (nx := 54) (r1 := 0) (r2 := 0) (r3 := 0) rfl (by decide) rfl (by omega) (by omega) (by decide) g21 (gi_pr (by omega) (fun _ => rfl) (g 242 i25)) (fun h27 g27 w27 u27 => ?_)
      have F28 := F22.then rfl (FR.rngp (lo := 238) (hi := 238) u27 (by decide))
      have F29 := u21.then rfl (FR.rngp (lo := 238) (hi := 238) u27 (by decide))
      refine wr_iinc (i := 1) (n := 1) (v := x20) (fun e30 => [(1, vi e30), (0, .ref 236)]) (nx := 57) (r1 := 0) (r2 := 0) (r3 := 0) rfl rfl (fun _ => rfl) (fun e30 (fe30 : e30 = x20 + 1) => ?_)
      refine wi_goto (nx := 60) (r1 := 26) (r2 := 0) (r3 := 0) rfl ?_
      refine wp.lo (lo := [(0, .ref 236), (1, vi e30)]) ⟨rfl, rfl, trivial⟩ rfl ?_
      exact I21 e30 h27 ⟨g27, F28, F29, (show (0 ≤ e30 ∧ e30 ≤ 200) by omega), (fun q e => by
          by_cases e1 : (q : Int) < x20
          · exact (u27 238 _ (fn_i (by omega) fn_0)).trans (XA21 q e1)
          · have e2 : q = i26 := by omega
            have e3 : 200 + q = i25 := by omega
            exact (congrArg (h27 238) e2).trans (w27.trans ((((u18 242 i25 (fn_a (by omega) fn_0)).trans (u13 242 i25 (fn_a (by omega) fn_0))).symm).trans (congrArg (h18 242) e3).symm))), (fun q e => (u27 238 q (fn_i (by omega) fn_0)).trans (XB21 q (by omega)))⟩ (show ((200 : Int) + 1 - e30).toNat < ((200 : Int) + 1 - x20).toNat by omega)
  ·
    refine wr_gi0 (k0 := 236) (x := 3) (nx := 9) (r1 := 11) (r2 := 22) (r3 := 0) rfl rfl (by decide) rfl ⟨rfl, rfl⟩ rfl ((u13 236 22 rfl).trans q16) ?_
    refine wi_if (cd := .ne) (nx := 12) (r1 := 14) (r2 := 0) (r3 := 0) rfl (by omega) (fun (q17 : 3 ≠ 0) => ?_) (fun (q17 : ¬ (3 ≠ 0)) => by exfalso; omega)
    refine wi_aload_n (i := 0) (x := 236) (nx := 15) (r1 := 0) (r2 := 0) (r3 := 0) rfl rfl ?_
    refine wi_dup (nx := 16) (r1 := 0) (r2 := 0) (r3 := 0) rfl rfl ?_
    refine wr_gi0 (k0 := 236) (x := 3) (nx := 19) (r1 := 11) (r2 := 22) (r3 := 0) rfl rfl (by decide) rfl ⟨rfl, rfl⟩ rfl ((u13 236 22 rfl).trans q16) ?_
    refine wi_iconst (n := 1) (nx := 20) (r1 := 0) (r2 := 0) (r3 := 0) rfl ?_
    refine wr_subL (2) (nx := 21) (r1 := 0) (r2 := 0) (r3 := 0) rfl (by decide) ?_
    refine wr_pf0 (k0 := 236) (x := 2) (bl := 0) (bh := 6) (nx := 24) (r1 := 11) (r2 := 22) (r3 := 0) rfl (by decide) rfl ⟨rfl, rfl⟩ rfl rfl g13 rfl (by omega) (fun h18 g18 w18 u18 => ?_)
    have F19 := F14.then rfl u18
    refine wi_iconst (n := 0) (nx := 25) (r1 := 0) (r2 := 0) (r3 := 0) rfl ?_
    refine wi_istore_n (i := 1) (e := 0) (lo2 := [(1, vi 0), (0, .ref 236)]) (nx := 26) (r1 := 0) (r2 := 0) (r3 := 0) rfl rfl ?_
    refine wp.lo (lo := [(0, .ref 236), (1, vi 0)]) ⟨rfl, rfl, trivial⟩ rfl ?_
    refine wl_1 (fun x20 h21 => GI h21 ∧ FR [(238, 238, none), (236, 236, some (0, 0)), (236, 236, some (22, 22))] h h21 ∧ FR [(238, 238, none)] h18 h21 ∧ ((0 ≤ x20 ∧ x20 ≤ 200)) ∧ (∀ q : Nat, (q : Int) < x20 → h21 238 q = h18 242 (400 + q)) ∧ (∀ q : Nat, x20 ≤ (q : Int) → h21 238 q = h18 238 q)) (fun x20 h21 => ((200 : Int) + 1 - x20).toNat) (fun x20 h21 => (26, [(0, .ref 236), (1, vi x20)], [], hp_w h21 cr, b, c)) ?_ 0 h18 ⟨g18, F19, FR.refl, (show (0 ≤ 0 ∧ 0 ≤ 200) by omega), (fun q e => absurd e (by omega)), (fun _ _ => rfl)⟩
    intro x20 h21 ⟨g21, F22, u21, f21, XA21, XB21⟩ I21
    refine wi_iload_n (i := 1) (e := x20) (nx := 27) (r1 := 0) (r2 := 0) (r3 := 0) rfl rfl ?_
    refine wi_sipush (n := 200) (nx := 30) (r1 := 0) (r2 := 0) (r3 := 0) rfl (by decide) ?_
    refine wi_icmp (cd := .ge) (nx := 33) (r1 := 60) (r2 := 0) (r3 := 0) rfl (by omega) (by omega) (fun (q23 : 200 ≤ x20) => ?_) (fun (q23 : ¬ (200 ≤ x20)) => ?_)
    ·
      refine wi_aload_n (i := 0) (x := 236) (nx := 61) (r1 := 0) (r2 := 0) (r3 := 0) rfl rfl ?_
      refine wr_gi0 (k0 := 236) (x := 2) (nx := 64) (r1 := 11) (r2 := 22) (r3 := 0) rfl rfl (by decide) rfl ⟨rfl, rfl⟩ rfl ((u21 236 22 rfl).trans w18) ?_
      refine wi_ireturn (nx := 65) (r1 := 0) (r2 := 0) (r3 := 0) rfl rfl ?_
      have gp24 := GPH.fr u13 rfl gp0
      have gp25 := GPH.fr u18 rfl gp24
      have e26 : h 236 22 = 3 := q16
      have e27 : h21 236 22 = 2 := ((u21 236 22 rfl).trans w18)
      have gp28 := GPH.fr u21 rfl gp25
      exact k h21 2 g21 F22 (by omega) (RS.of (o := 200 * 2) (p := 0) (fun q e => by rw [Nat.zero_add]; exact XA21 q (by omega)) (gp25 2 (by decide))) (fun i hi => (XA21 i (by omega)).trans ((show h18 242 (400 + i) = h 242 (200 * 2 + i) by rw [show 200 * 2 + i = 400 + i by omega]; exact ((u18 242 ((400 + i)) (fn_a (by omega) fn_0)).trans (u13 242 ((400 + i)) (fn_a (by omega) fn_0)))).trans (xq0 2 (by decide) (by omega) i hi))) (GPS.back xq0 (by omega) (fun i hi => (XA21 i (by omega)).trans ((show h18 242 (400 + i) = h 242 (200 * 2 + i) by rw [show 200 * 2 + i = 400 + i by omega]; exact ((u18 242 ((400 + i)) (fn_a (by omega) fn_0)).trans (u13 242 ((400 + i)) (fn_a (by omega) fn_0)))).trans (xq0 2 (by decide) (by omega) i hi))) (fun i => ((u21 242 i (fn_a (by decide) fn_0)).trans ((u18 242 i (fn_a (by omega) fn_0)).trans (u13 242 i (fn_a (by omega) fn_0)))))) gp28
    ·
      refine wi_aload_n (i := 0) (x := 236) (nx := 34) (r1 := 0) (r2 := 0) (r3 := 0) rfl rfl ?_
      refine wr_gr (k0 := 236) (x := 238) (nx := 37) (r1 := 11) (r2 := 13) (r3 := 0) rfl rfl (by decide) rfl ⟨rfl, rfl⟩ rfl ?_
      refine wi_iload_n (i := 1) (e := x20) (nx := 38) (r1 := 0) (r2 := 0) (r3 := 0) rfl rfl ?_
      refine wi_aload_n (i := 0) (x := 236) (nx := 39) (r1 := 0) (r2 := 0) (r3 := 0) rfl rfl ?_
      refine wr_gr (k0 := 236) (x := 242) (nx := 42) (r1 := 11) (r2 := 17) (r3 := 0) rfl rfl (by decide) rfl ⟨rfl, rfl⟩ rfl ?_
      refine wi_sipush (n := 200) (nx := 45) (r1 := 0) (r2 := 0) (r3 := 0) rfl (by decide) ?_
      refine wi_aload_n (i := 0) (x := 236) (nx := 46) (r1 := 0) (r2 := 0) (r3 := 0) rfl rfl ?_
      refine wr_gi0 (k0 := 236) (x := 2) (nx := 49) (r1 := 11) (r2 := 22) (r3 := 0) rfl rfl (by decide) rfl ⟨rfl, rfl⟩ rfl ((u21 236 22 rfl).trans w18) ?_
      refine wr_mulL (400) (nx := 50) (r1 := 0) (r2 := 0) (r3 := 0) rfl (by decide) ?_
      refine wi_iload_n (i := 1) (e := x20) (nx := 51) (r1 := 0) (r2 := 0) (r3 := 0) rfl rfl ?_
      refine wr_add (nx := 52) (r1 := 0) (r2 := 0) (r3 := 0) rfl (fun e24 (fe24 : e24 = 400 + x20) => ?_)
      obtain ⟨i25, ei25⟩ : ∃ q : Nat, e24 = (q : Int) := ⟨(e24).toNat, by omega⟩
      refine wr_ia (k0 := 242) (a := e24) (f := i25) (x := h 242 i25) (nx := 53) (r1 := 0) (r2 := 0) (r3 := 0) rfl (by decide) rfl (by omega) (by omega) (by decide) ((u21 242 i25 (fn_a (by decide) fn_0)).trans ((u18 242 i25 (fn_a (by omega) fn_0)).trans (u13 242 i25 (fn_a (by omega) fn_0)))) ?_
      obtain ⟨i26, ei26⟩ : ∃ q : Nat, x20 = (q : Int) := ⟨(x20).toNat, by omega⟩
      refine wr_iv (k0 := 238) (a := x20) (f := i26) (x := h 242 i25) (nx := 54) (r1 := 0) (r2 := 0) (r3 := 0) rfl (by decide) rfl (by omega) (by omega) (by decide) g21 (gi_pr (by omega) (fun _ => rfl) (g 242 i25)) (fun h27 g27 w27 u27 => ?_)
      have F28 := F22.then rfl (FR.rngp (lo := 238) (hi := 238) u27 (by decide))
      have F29 := u21.then rfl (FR.rngp (lo := 238) (hi := 238) u27 (by decide))
      refine wr_iinc (i := 1) (n := 1) (v := x20) (fun e30 => [(1, vi e30), (0, .ref 236)]) (nx := 57) (r1 := 0) (r2 := 0) (r3 := 0) rfl rfl (fun _ => rfl) (fun e30 (fe30 : e30 = x20 + 1) => ?_)
      refine wi_goto (nx := 60) (r1 := 26) (r2 := 0) (r3 := 0) rfl ?_
      refine wp.lo (lo := [(0, .ref 236), (1, vi e30)]) ⟨rfl, rfl, trivial⟩ rfl ?_
      exact I21 e30 h27 ⟨g27, F28, F29, (show (0 ≤ e30 ∧ e30 ≤ 200) by omega), (fun q e => by
          by_cases e1 : (q : Int) < x20
          · exact (u27 238 _ (fn_i (by omega) fn_0)).trans (XA21 q e1)
          · have e2 : q = i26 := by omega
            have e3 : 400 + q = i25 := by omega
            exact (congrArg (h27 238) e2).trans (w27.trans ((((u18 242 i25 (fn_a (by omega) fn_0)).trans (u13 242 i25 (fn_a (by omega) fn_0))).symm).trans (congrArg (h18 242) e3).symm))), (fun q e => (u27 238 q (fn_i (by omega) fn_0)).trans (XB21 q (by omega)))⟩ (show ((200 : Int) + 1 - e30).toNat < ((200 : Int) + 1 - x20).toNat by omega)
  ·
    refine wr_gi0 (k0 := 236) (x := 4) (nx := 9) (r1 := 11) (r2 := 22) (r3 := 0) rfl rfl (by decide) rfl ⟨rfl, rfl⟩ rfl ((u13 236 22 rfl).trans q16) ?_
    refine wi_if (cd := .ne) (nx := 12) (r1 := 14) (r2 := 0) (r3 := 0) rfl (by omega) (fun (q17 : 4 ≠ 0) => ?_) (fun (q17 : ¬ (4 ≠ 0)) => by exfalso; omega)
    refine wi_aload_n (i := 0) (x := 236) (nx := 15) (r1 := 0) (r2 := 0) (r3 := 0) rfl rfl ?_
    refine wi_dup (nx := 16) (r1 := 0) (r2 := 0) (r3 := 0) rfl rfl ?_
    refine wr_gi0 (k0 := 236) (x := 4) (nx := 19) (r1 := 11) (r2 := 22) (r3 := 0) rfl rfl (by decide) rfl ⟨rfl, rfl⟩ rfl ((u13 236 22 rfl).trans q16) ?_
    refine wi_iconst (n := 1) (nx := 20) (r1 := 0) (r2 := 0) (r3 := 0) rfl ?_
    refine wr_subL (3) (nx := 21) (r1 := 0) (r2 := 0) (r3 := 0) rfl (by decide) ?_
    refine wr_pf0 (k0 := 236) (x := 3) (bl := 0) (bh := 6) (nx := 24) (r1 := 11) (r2 := 22) (r3 := 0) rfl (by decide) rfl ⟨rfl, rfl⟩ rfl rfl g13 rfl (by omega) (fun h18 g18 w18 u18 => ?_)
    have F19 := F14.then rfl u18
    refine wi_iconst (n := 0) (nx := 25) (r1 := 0) (r2 := 0) (r3 := 0) rfl ?_
    refine wi_istore_n (i := 1) (e := 0) (lo2 := [(1, vi 0), (0, .ref 236)]) (nx := 26) (r1 := 0) (r2 := 0) (r3 := 0) rfl rfl ?_
    refine wp.lo (lo := [(0, .ref 236), (1, vi 0)]) ⟨rfl, rfl, trivial⟩ rfl ?_
    refine wl_1 (fun x20 h21 => GI h21 ∧ FR [(238, 238, none), (236, 236, some (0, 0)), (236, 236, some (22, 22))] h h21 ∧ FR [(238, 238, none)] h18 h21 ∧ ((0 ≤ x20 ∧ x20 ≤ 200)) ∧ (∀ q : Nat, (q : Int) < x20 → h21 238 q = h18 242 (600 + q)) ∧ (∀ q : Nat, x20 ≤ (q : Int) → h21 238 q = h18 238 q)) (fun x20 h21 => ((200 : Int) + 1 - x20).toNat) (fun x20 h21 => (26, [(0, .ref 236), (1, vi x20)], [], hp_w h21 cr, b, c)) ?_ 0 h18 ⟨g18, F19, FR.refl, (show (0 ≤ 0 ∧ 0 ≤ 200) by omega), (fun q e => absurd e (by omega)), (fun _ _ => rfl)⟩
    intro x20 h21 ⟨g21, F22, u21, f21, XA21, XB21⟩ I21
    refine wi_iload_n (i := 1) (e := x20) (nx := 27) (r1 := 0) (r2 := 0) (r3 := 0) rfl rfl ?_
    refine wi_sipush (n := 200) (nx := 30) (r1 := 0) (r2 := 0) (r3 := 0) rfl (by decide) ?_
    refine wi_icmp (cd := .ge) (nx := 33) (r1 := 60) (r2 := 0) (r3 := 0) rfl (by omega) (by omega) (fun (q23 : 200 ≤ x20) => ?_) (fun (q23 : ¬ (200 ≤ x20)) => ?_)
    ·
      refine wi_aload_n (i := 0) (x := 236) (nx := 61) (r1 := 0) (r2 := 0) (r3 := 0) rfl rfl ?_
      refine wr_gi0 (k0 := 236) (x := 3) (nx := 64) (r1 := 11) (r2 := 22) (r3 := 0) rfl rfl (by decide) rfl ⟨rfl, rfl⟩ rfl ((u21 236 22 rfl).trans w18) ?_
      refine wi_ireturn (nx := 65) (r1 := 0) (r2 := 0) (r3 := 0) rfl rfl ?_
      have gp24 := GPH.fr u13 rfl gp0
      have gp25 := GPH.fr u18 rfl gp24
      have e26 : h 236 22 = 4 := q16
      have e27 : h21 236 22 = 3 := ((u21 236 22 rfl).trans w18)
      have gp28 := GPH.fr u21 rfl gp25
      exact k h21 3 g21 F22 (by omega) (RS.of (o := 200 * 3) (p := 0) (fun q e => by rw [Nat.zero_add]; exact XA21 q (by omega)) (gp25 3 (by decide))) (fun i hi => (XA21 i (by omega)).trans ((show h18 242 (600 + i) = h 242 (200 * 3 + i) by rw [show 200 * 3 + i = 600 + i by omega]; exact ((u18 242 ((600 + i)) (fn_a (by omega) fn_0)).trans (u13 242 ((600 + i)) (fn_a (by omega) fn_0)))).trans (xq0 3 (by decide) (by omega) i hi))) (GPS.back xq0 (by omega) (fun i hi => (XA21 i (by omega)).trans ((show h18 242 (600 + i) = h 242 (200 * 3 + i) by rw [show 200 * 3 + i = 600 + i by omega]; exact ((u18 242 ((600 + i)) (fn_a (by omega) fn_0)).trans (u13 242 ((600 + i)) (fn_a (by omega) fn_0)))).trans (xq0 3 (by decide) (by omega) i hi))) (fun i => ((u21 242 i (fn_a (by decide) fn_0)).trans ((u18 242 i (fn_a (by omega) fn_0)).trans (u13 242 i (fn_a (by omega) fn_0)))))) gp28
    ·
      refine wi_aload_n (i := 0) (x := 236) (nx := 34) (r1 := 0) (r2 := 0) (r3 := 0) rfl rfl ?_
      refine wr_gr (k0 := 236) (x := 238) (nx := 37) (r1 := 11) (r2 := 13) (r3 := 0) rfl rfl (by decide) rfl ⟨rfl, rfl⟩ rfl ?_
      refine wi_iload_n (i := 1) (e := x20) (nx := 38) (r1 := 0) (r2 := 0) (r3 := 0) rfl rfl ?_
      refine wi_aload_n (i := 0) (x := 236) (nx := 39) (r1 := 0) (r2 := 0) (r3 := 0) rfl rfl ?_
      refine wr_gr (k0 := 236) (x := 242) (nx := 42) (r1 := 11) (r2 := 17) (r3 := 0) rfl rfl (by decide) rfl ⟨rfl, rfl⟩ rfl ?_
      refine wi_sipush (n := 200) (nx := 45) (r1 := 0) (r2 := 0) (r3 := 0) rfl (by decide) ?_
      refine wi_aload_n (i := 0) (x := 236) (nx := 46) (r1 := 0) (r2 := 0) (r3 := 0) rfl rfl ?_
      refine wr_gi0 (k0 := 236) (x := 3) (nx := 49) (r1 := 11) (r2 := 22) (r3 := 0) rfl rfl (by decide) rfl ⟨rfl, rfl⟩ rfl ((u21 236 22 rfl).trans w18) ?_
      refine wr_mulL (600) (nx := 50) (r1 := 0) (r2 := 0) (r3 := 0) rfl (by decide) ?_
      refine wi_iload_n (i := 1) (e := x20) (nx := 51) (r1 := 0) (r2 := 0) (r3 := 0) rfl rfl ?_
      refine wr_add (nx := 52) (r1 := 0) (r2 := 0) (r3 := 0) rfl (fun e24 (fe24 : e24 = 600 + x20) => ?_)
      obtain ⟨i25, ei25⟩ : ∃ q : Nat, e24 = (q : Int) := ⟨(e24).toNat, by omega⟩
      refine wr_ia (k0 := 242) (a := e24) (f := i25) (x := h 242 i25) (nx := 53) (r1 := 0) (r2 := 0) (r3 := 0) rfl (by decide) rfl (by omega) (by omega) (by decide) ((u21 242 i25 (fn_a (by decide) fn_0)).trans ((u18 242 i25 (fn_a (by omega) fn_0)).trans (u13 242 i25 (fn_a (by omega) fn_0)))) ?_
      obtain ⟨i26, ei26⟩ : ∃ q : Nat, x20 = (q : Int) := ⟨(x20).toNat, by omega⟩
      refine wr_iv (k0 := 238) (a := x20) (f := i26) (x := h 242 i25) (nx := 54) (r1 := 0) (r2 := 0) (r3 := 0) rfl (by decide) rfl (by omega) (by omega) (by decide) g21 (gi_pr (by omega) (fun _ => rfl) (g 242 i25)) (fun h27 g27 w27 u27 => ?_)
      have F28 := F22.then rfl (FR.rngp (lo := 238) (hi := 238) u27 (by decide))
      have F29 := u21.then rfl (FR.rngp (lo := 238) (hi := 238) u27 (by decide))
      refine wr_iinc (i := 1) (n := 1) (v := x20) (fun e30 => [(1, vi e30), (0, .ref 236)]) (nx := 57) (r1 := 0) (r2 := 0) (r3 := 0) rfl rfl (fun _ => rfl) (fun e30 (fe30 : e30 = x20 + 1) => ?_)
      refine wi_goto (nx := 60) (r1 := 26) (r2 := 0) (r3 := 0) rfl ?_
      refine wp.lo (lo := [(0, .ref 236), (1, vi e30)]) ⟨rfl, rfl, trivial⟩ rfl ?_
      exact I21 e30 h27 ⟨g27, F28, F29, (show (0 ≤ e30 ∧ e30 ≤ 200) by omega), (fun q e => by
          by_cases e1 : (q : Int) < x20
          · exact (u27 238 _ (fn_i (by omega) fn_0)).trans (XA21 q e1)
          · have e2 : q = i26 := by omega
            have e3 : 600 + q = i25 := by omega
            exact (congrArg (h27 238) e2).trans (w27.trans ((((u18 242 i25 (fn_a (by omega) fn_0)).trans (u13 242 i25 (fn_a (by omega) fn_0))).symm).trans (congrArg (h18 242) e3).symm))), (fun q e => (u27 238 q (fn_i (by omega) fn_0)).trans (XB21 q (by omega)))⟩ (show ((200 : Int) + 1 - e30).toNat < ((200 : Int) + 1 - x20).toNat by omega)
  ·
    refine wr_gi0 (k0 := 236) (x := 5) (nx := 9) (r1 := 11) (r2 := 22) (r3 := 0) rfl rfl (by decide) rfl ⟨rfl, rfl⟩ rfl ((u13 236 22 rfl).trans q16) ?_
    refine wi_if (cd := .ne) (nx := 12) (r1 := 14) (r2 := 0) (r3 := 0) rfl (by omega) (fun (q17 : 5 ≠ 0) => ?_) (fun (q17 : ¬ (5 ≠ 0)) => by exfalso; omega)
    refine wi_aload_n (i := 0) (x := 236) (nx := 15) (r1 := 0) (r2 := 0) (r3 := 0) rfl rfl ?_
    refine wi_dup (nx := 16) (r1 := 0) (r2 := 0) (r3 := 0) rfl rfl ?_
    refine wr_gi0 (k0 := 236) (x := 5) (nx := 19) (r1 := 11) (r2 := 22) (r3 := 0) rfl rfl (by decide) rfl ⟨rfl, rfl⟩ rfl ((u13 236 22 rfl).trans q16) ?_
    refine wi_iconst (n := 1) (nx := 20) (r1 := 0) (r2 := 0) (r3 := 0) rfl ?_
    refine wr_subL (4) (nx := 21) (r1 := 0) (r2 := 0) (r3 := 0) rfl (by decide) ?_
    refine wr_pf0 (k0 := 236) (x := 4) (bl := 0) (bh := 6) (nx := 24) (r1 := 11) (r2 := 22) (r3 := 0) rfl (by decide) rfl ⟨rfl, rfl⟩ rfl rfl g13 rfl (by omega) (fun h18 g18 w18 u18 => ?_)
    have F19 := F14.then rfl u18
    refine wi_iconst (n := 0) (nx := 25) (r1 := 0) (r2 := 0) (r3 := 0) rfl ?_
    refine wi_istore_n (i := 1) (e := 0) (lo2 := [(1, vi 0), (0, .ref 236)]) (nx := 26) (r1 := 0) (r2 := 0) (r3 := 0) rfl rfl ?_
    refine wp.lo (lo := [(0, .ref 236), (1, vi 0)]) ⟨rfl, rfl, trivial⟩ rfl ?_
    refine wl_1 (fun x20 h21 => GI h21 ∧ FR [(238, 238, none), (236, 236, some (0, 0)), (236, 236, some (22, 22))] h h21 ∧ FR [(238, 238, none)] h18 h21 ∧ ((0 ≤ x20 ∧ x20 ≤ 200)) ∧ (∀ q : Nat, (q : Int) < x20 → h21 238 q = h18 242 (800 + q)) ∧ (∀ q : Nat, x20 ≤ (q : Int) → h21 238 q = h18 238 q)) (fun x20 h21 => ((200 : Int) + 1 - x20).toNat) (fun x20 h21 => (26, [(0, .ref 236), (1, vi x20)], [], hp_w h21 cr, b, c)) ?_ 0 h18 ⟨g18, F19, FR.refl, (show (0 ≤ 0 ∧ 0 ≤ 200) by omega), (fun q e => absurd e (by omega)), (fun _ _ => rfl)⟩
    intro x20 h21 ⟨g21, F22, u21, f21, XA21, XB21⟩ I21
    refine wi_iload_n (i := 1) (e := x20) (nx := 27) (r1 := 0) (r2 := 0) (r3 := 0) rfl rfl ?_
    refine wi_sipush (n := 200) (nx := 30) (r1 := 0) (r2 := 0) (r3 := 0) rfl (by decide) ?_
    refine wi_icmp (cd := .ge) (nx := 33) (r1 := 60) (r2 := 0) (r3 := 0) rfl (by omega) (by omega) (fun (q23 : 200 ≤ x20) => ?_) (fun (q23 : ¬ (200 ≤ x20)) => ?_)
    ·
      refine wi_aload_n (i := 0) (x := 236) (nx := 61) (r1 := 0) (r2 := 0) (r3 := 0) rfl rfl ?_
      refine wr_gi0 (k0 := 236) (x := 4) (nx := 64) (r1 := 11) (r2 := 22) (r3 := 0) rfl rfl (by decide) rfl ⟨rfl, rfl⟩ rfl ((u21 236 22 rfl).trans w18) ?_
      refine wi_ireturn (nx := 65) (r1 := 0) (r2 := 0) (r3 := 0) rfl rfl ?_
      have gp24 := GPH.fr u13 rfl gp0
      have gp25 := GPH.fr u18 rfl gp24
      have e26 : h 236 22 = 5 := q16
      have e27 : h21 236 22 = 4 := ((u21 236 22 rfl).trans w18)
      have gp28 := GPH.fr u21 rfl gp25
      exact k h21 4 g21 F22 (by omega) (RS.of (o := 200 * 4) (p := 0) (fun q e => by rw [Nat.zero_add]; exact XA21 q (by omega)) (gp25 4 (by decide))) (fun i hi => (XA21 i (by omega)).trans ((show h18 242 (800 + i) = h 242 (200 * 4 + i) by rw [show 200 * 4 + i = 800 + i by omega]; exact ((u18 242 ((800 + i)) (fn_a (by omega) fn_0)).trans (u13 242 ((800 + i)) (fn_a (by omega) fn_0)))).trans (xq0 4 (by decide) (by omega) i hi))) (GPS.back xq0 (by omega) (fun i hi => (XA21 i (by omega)).trans ((show h18 242 (800 + i) = h 242 (200 * 4 + i) by rw [show 200 * 4 + i = 800 + i by omega]; exact ((u18 242 ((800 + i)) (fn_a (by omega) fn_0)).trans (u13 242 ((800 + i)) (fn_a (by omega) fn_0)))).trans (xq0 4 (by decide) (by omega) i hi))) (fun i => ((u21 242 i (fn_a (by decide) fn_0)).trans ((u18 242 i (fn_a (by omega) fn_0)).trans (u13 242 i (fn_a (by omega) fn_0)))))) gp28
    ·
      refine wi_aload_n (i := 0) (x := 236) (nx := 34) (r1 := 0) (r2 := 0) (r3 := 0) rfl rfl ?_
      refine wr_gr (k0 := 236) (x := 238) (nx := 37) (r1 := 11) (r2 := 13) (r3 := 0) rfl rfl (by decide) rfl ⟨rfl, rfl⟩ rfl ?_
      refine wi_iload_n (i := 1) (e := x20) (nx := 38) (r1 := 0) (r2 := 0) (r3 := 0) rfl rfl ?_
      refine wi_aload_n (i := 0) (x := 236) (nx := 39) (r1 := 0) (r2 := 0) (r3 := 0) rfl rfl ?_
      refine wr_gr (k0 := 236) (x := 242) (nx := 42) (r1 := 11) (r2 := 17) (r3 := 0) rfl rfl (by decide) rfl ⟨rfl, rfl⟩ rfl ?_
      refine wi_sipush (n := 200) (nx := 45) (r1 := 0) (r2 := 0) (r3 := 0) rfl (by decide) ?_
      refine wi_aload_n (i := 0) (x := 236) (nx := 46) (r1 := 0) (r2 := 0) (r3 := 0) rfl rfl ?_
      refine wr_gi0 (k0 := 236) (x := 4) (nx := 49) (r1 := 11) (r2 := 22) (r3 := 0) rfl rfl (by decide) rfl ⟨rfl, rfl⟩ rfl ((u21 236 22 rfl).trans w18) ?_
      refine wr_mulL (800) (nx := 50) (r1 := 0) (r2 := 0) (r3 := 0) rfl (by decide) ?_
      refine wi_iload_n (i := 1) (e := x20) (nx := 51) (r1 := 0) (r2 := 0) (r3 := 0) rfl rfl ?_
      refine wr_add (nx := 52) (r1 := 0) (r2 := 0) (r3 := 0) rfl (fun e24 (fe24 : e24 = 800 + x20) => ?_)
      obtain ⟨i25, ei25⟩ : ∃ q : Nat, e24 = (q : Int) := ⟨(e24).toNat, by omega⟩
      refine wr_ia (k0 := 242) (a := e24) (f := i25) (x := h 242 i25) (nx := 53) (r1 := 0) (r2 := 0) (r3 := 0) rfl (by decide) rfl (by omega) (by omega) (by decide) ((u21 242 i25 (fn_a (by decide) fn_0)).trans ((u18 242 i25 (fn_a (by omega) fn_0)).trans (u13 242 i25 (fn_a (by omega) fn_0)))) ?_
      obtain ⟨i26, ei26⟩ : ∃ q : Nat, x20 = (q : Int) := ⟨(x20).toNat, by omega⟩
      refine wr_iv (k0 := 238) (a := x20) (f := i26) (x := h 242 i25) (nx := 54) (r1 := 0) (r2 := 0) (r3 := 0) rfl (by decide) rfl (by omega) (by omega) (by decide) g21 (gi_pr (by omega) (fun _ => rfl) (g 242 i25)) (fun h27 g27 w27 u27 => ?_)
      have F28 := F22.then rfl (FR.rngp (lo := 238) (hi := 238) u27 (by decide))
      have F29 := u21.then rfl (FR.rngp (lo := 238) (hi := 238) u27 (by decide))
      refine wr_iinc (i := 1) (n := 1) (v := x20) (fun e30 => [(1, vi e30), (0, .ref 236)]) (nx := 57) (r1 := 0) (r2 := 0) (r3 := 0) rfl rfl (fun _ => rfl) (fun e30 (fe30 : e30 = x20 + 1) => ?_)
      refine wi_goto (nx := 60) (r1 := 26) (r2 := 0) (r3 := 0) rfl ?_
      refine wp.lo (lo := [(0, .ref 236), (1, vi e30)]) ⟨rfl, rfl, trivial⟩ rfl ?_
      exact I21 e30 h27 ⟨g27, F28, F29, (show (0 ≤ e30 ∧ e30 ≤ 200) by omega), (fun q e => by
          by_cases e1 : (q : Int) < x20
          · exact (u27 238 _ (fn_i (by omega) fn_0)).trans (XA21 q e1)
          · have e2 : q = i26 := by omega
            have e3 : 800 + q = i25 := by omega
            exact (congrArg (h27 238) e2).trans (w27.trans ((((u18 242 i25 (fn_a (by omega) fn_0)).trans (u13 242 i25 (fn_a (by omega) fn_0))).symm).trans (congrArg (h18 242) e3).symm))), (fun q e => (u27 238 q (fn_i (by omega) fn_0)).trans (XB21 q (by omega)))⟩ (show ((200 : Int) + 1 - e30).toNat < ((200 : Int) + 1 - x20).toNat by omega)
  ·
    refine wr_gi0 (k0 := 236) (x := 6) (nx := 9) (r1 := 11) (r2 := 22) (r3 := 0) rfl rfl (by decide) rfl ⟨rfl, rfl⟩ rfl ((u13 236 22 rfl).trans q16) ?_
    refine wi_if (cd := .ne) (nx := 12) (r1 := 14) (r2 := 0) (r3 := 0) rfl (by omega) (fun (q17 : 6 ≠ 0) => ?_) (fun (q17 : ¬ (6 ≠ 0)) => by exfalso; omega)
    refine wi_aload_n (i := 0) (x := 236) (nx := 15) (r1 := 0) (r2 := 0) (r3 := 0) rfl rfl ?_
    refine wi_dup (nx := 16) (r1 := 0) (r2 := 0) (r3 := 0) rfl rfl ?_
    refine wr_gi0 (k0 := 236) (x := 6) (nx := 19) (r1 := 11) (r2 := 22) (r3 := 0) rfl rfl (by decide) rfl ⟨rfl, rfl⟩ rfl ((u13 236 22 rfl).trans q16) ?_
    refine wi_iconst (n := 1) (nx := 20) (r1 := 0) (r2 := 0) (r3 := 0) rfl ?_
    refine wr_subL (5) (nx := 21) (r1 := 0) (r2 := 0) (r3 := 0) rfl (by decide) ?_
    refine wr_pf0 (k0 := 236) (x := 5) (bl := 0) (bh := 6) (nx := 24) (r1 := 11) (r2 := 22) (r3 := 0) rfl (by decide) rfl ⟨rfl, rfl⟩ rfl rfl g13 rfl (by omega) (fun h18 g18 w18 u18 => ?_)
    have F19 := F14.then rfl u18
    refine wi_iconst (n := 0) (nx := 25) (r1 := 0) (r2 := 0) (r3 := 0) rfl ?_
    refine wi_istore_n (i := 1) (e := 0) (lo2 := [(1, vi 0), (0, .ref 236)]) (nx := 26) (r1 := 0) (r2 := 0) (r3 := 0) rfl rfl ?_
    refine wp.lo (lo := [(0, .ref 236), (1, vi 0)]) ⟨rfl, rfl, trivial⟩ rfl ?_
    refine wl_1 (fun x20 h21 => GI h21 ∧ FR [(238, 238, none), (236, 236, some (0, 0)), (236, 236, some (22, 22))] h h21 ∧ FR [(238, 238, none)] h18 h21 ∧ ((0 ≤ x20 ∧ x20 ≤ 200)) ∧ (∀ q : Nat, (q : Int) < x20 → h21 238 q = h18 242 (1000 + q)) ∧ (∀ q : Nat, x20 ≤ (q : Int) → h21 238 q = h18 238 q)) (fun x20 h21 => ((200 : Int) + 1 - x20).toNat) (fun x20 h21 => (26, [(0, .ref 236), (1, vi x20)], [], hp_w h21 cr, b, c)) ?_ 0 h18 ⟨g18, F19, FR.refl, (show (0 ≤ 0 ∧ 0 ≤ 200) by omega), (fun q e => absurd e (by omega)), (fun _ _ => rfl)⟩
    intro x20 h21 ⟨g21, F22, u21, f21, XA21, XB21⟩ I21
    refine wi_iload_n (i := 1) (e := x20) (nx := 27) (r1 := 0) (r2 := 0) (r3 := 0) rfl rfl ?_
    refine wi_sipush (n := 200) (nx := 30) (r1 := 0) (r2 := 0) (r3 := 0) rfl (by decide) ?_
    refine wi_icmp (cd := .ge) (nx := 33) (r1 := 60) (r2 := 0) (r3 := 0) rfl (by omega) (by omega) (fun (q23 : 200 ≤ x20) => ?_) (fun (q23 : ¬ (200 ≤ x20)) => ?_)
    ·
      refine wi_aload_n (i := 0) (x := 236) (nx := 61) (r1 := 0) (r2 := 0) (r3 := 0) rfl rfl ?_
      refine wr_gi0 (k0 := 236) (x := 5) (nx := 64) (r1 := 11) (r2 := 22) (r3 := 0) rfl rfl (by decide) rfl ⟨rfl, rfl⟩ rfl ((u21 236 22 rfl).trans w18) ?_
      refine wi_ireturn (nx := 65) (r1 := 0) (r2 := 0) (r3 := 0) rfl rfl ?_
      have gp24 := GPH.fr u13 rfl gp0
      have gp25 := GPH.fr u18 rfl gp24
      have e26 : h 236 22 = 6 := q16
      have e27 : h21 236 22 = 5 := ((u21 236 22 rfl).trans w18)
      have gp28 := GPH.fr u21 rfl gp25
      exact k h21 5 g21 F22 (by omega) (RS.of (o := 200 * 5) (p := 0) (fun q e => by rw [Nat.zero_add]; exact XA21 q (by omega)) (gp25 5 (by decide))) (fun i hi => (XA21 i (by omega)).trans ((show h18 242 (1000 + i) = h 242 (200 * 5 + i) by rw [show 200 * 5 + i = 1000 + i by omega]; exact ((u18 242 ((1000 + i)) (fn_a (by omega) fn_0)).trans (u13 242 ((1000 + i)) (fn_a (by omega) fn_0)))).trans (xq0 5 (by decide) (by omega) i hi))) (GPS.back xq0 (by omega) (fun i hi => (XA21 i (by omega)).trans ((show h18 242 (1000 + i) = h 242 (200 * 5 + i) by rw [show 200 * 5 + i = 1000 + i by omega]; exact ((u18 242 ((1000 + i)) (fn_a (by omega) fn_0)).trans (u13 242 ((1000 + i)) (fn_a (by omega) fn_0)))).trans (xq0 5 (by decide) (by omega) i hi))) (fun i => ((u21 242 i (fn_a (by decide) fn_0)).trans ((u18 242 i (fn_a (by omega) fn_0)).trans (u13 242 i (fn_a (by omega) fn_0)))))) gp28
    ·
      refine wi_aload_n (i := 0) (x := 236) (nx := 34) (r1 := 0) (r2 := 0) (r3 := 0) rfl rfl ?_
      refine wr_gr (k0 := 236) (x := 238) (nx := 37) (r1 := 11) (r2 := 13) (r3 := 0) rfl rfl (by decide) rfl ⟨rfl, rfl⟩ rfl ?_
      refine wi_iload_n (i := 1) (e := x20) (nx := 38) (r1 := 0) (r2 := 0) (r3 := 0) rfl rfl ?_
      refine wi_aload_n (i := 0) (x := 236) (nx := 39) (r1 := 0) (r2 := 0) (r3 := 0) rfl rfl ?_
      refine wr_gr (k0 := 236) (x := 242) (nx := 42) (r1 := 11) (r2 := 17) (r3 := 0) rfl rfl (by decide) rfl ⟨rfl, rfl⟩ rfl ?_
      refine wi_sipush (n := 200) (nx := 45) (r1 := 0) (r2 := 0) (r3 := 0) rfl (by decide) ?_
      refine wi_aload_n (i := 0) (x := 236) (nx := 46) (r1 := 0) (r2 := 0) (r3 := 0) rfl rfl ?_
      refine wr_gi0 (k0 := 236) (x := 5) (nx := 49) (r1 := 11) (r2 := 22) (r3 := 0) rfl rfl (by decide) rfl ⟨rfl, rfl⟩ rfl ((u21 236 22 rfl).trans w18) ?_
      refine wr_mulL (1000) (nx := 50) (r1 := 0) (r2 := 0) (r3 := 0) rfl (by decide) ?_
      refine wi_iload_n (i := 1) (e := x20) (nx := 51) (r1 := 0) (r2 := 0) (r3 := 0) rfl rfl ?_
      refine wr_add (nx := 52) (r1 := 0) (r2 := 0) (r3 := 0) rfl (fun e24 (fe24 : e24 = 1000 + x20) => ?_)
      obtain ⟨i25, ei25⟩ : ∃ q : Nat, e24 = (q : Int) := ⟨(e24).toNat, by omega⟩
      refine wr_ia (k0 := 242) (a := e24) (f := i25) (x := h 242 i25) (nx := 53) (r1 := 0) (r2 := 0) (r3 := 0) rfl (by decide) rfl (by omega) (by omega) (by decide) ((u21 242 i25 (fn_a (by decide) fn_0)).trans ((u18 242 i25 (fn_a (by omega) fn_0)).trans (u13 242 i25 (fn_a (by omega) fn_0)))) ?_
      obtain ⟨i26, ei26⟩ : ∃ q : Nat, x20 = (q : Int) := ⟨(x20).toNat, by omega⟩
      refine wr_iv (k0 := 238) (a := x20) (f := i26) (x := h 242 i25) (nx := 54) (r1 := 0) (r2 := 0) (r3 := 0) rfl (by decide) rfl (by omega) (by omega) (by decide) g21 (gi_pr (by omega) (fun _ => rfl) (g 242 i25)) (fun h27 g27 w27 u27 => ?_)
      have F28 := F22.then rfl (FR.rngp (lo := 238) (hi := 238) u27 (by decide))
      have F29 := u21.then rfl (FR.rngp (lo := 238) (hi := 238) u27 (by decide))
      refine wr_iinc (i := 1) (n := 1) (v := x20) (fun e30 => [(1, vi e30), (0, .ref 236)]) (nx := 57) (r1 := 0) (r2 := 0) (r3 := 0) rfl rfl (fun _ => rfl) (fun e30 (fe30 : e30 = x20 + 1) => ?_)
      refine wi_goto (nx := 60) (r1 := 26) (r2 := 0) (r3 := 0) rfl ?_
      refine wp.lo (lo := [(0, .ref 236), (1, vi e30)]) ⟨rfl, rfl, trivial⟩ rfl ?_
      exact I21 e30 h27 ⟨g27, F28, F29, (show (0 ≤ e30 ∧ e30 ≤ 200) by omega), (fun q e => by
          by_cases e1 : (q : Int) < x20
          · exact (u27 238 _ (fn_i (by omega) fn_0)).trans (XA21 q e1)
          · have e2 : q = i26 := by omega
            have e3 : 1000 + q = i25 := by omega
            exact (congrArg (h27 238) e2).trans (w27.trans ((((u18 242 i25 (fn_a (by omega) fn_0)).trans (u13 242 i25 (fn_a (by omega) fn_0))).symm).trans (congrArg (h18 242) e3).symm))), (fun q e => (u27 238 q (fn_i (by omega) fn_0)).trans (XB21 q (by omega)))⟩ (show ((200 : Int) + 1 - e30).toNat < ((200 : Int) + 1 - x20).toNat by omega)
-- method 313: Model.unload()I
set_option maxRecDepth 100000 in
set_option maxHeartbeats 100000000 in
theorem ct_313_236 {L : Nat} {xs : Nat → Int32} {d b c : Nat} {h : hp} {cr : Nat → Nat → Option Nat} {Q : hp_Q} (hcr : CR cr)  (g : GI h)   (pp0 : h 238 98 + h 238 99 + h 238 100 + h 238 101 + h 238 102 + h 238 106 = h 238 73) (pp1 : h 238 73 ≤ h 238 2) (pp2 : h 238 119 ≤ h 238 67) (pp3 : h 238 69 ≤ h 238 5) (pp4 : h 238 2 ≤ 12 * h 238 5) (xq0 : GPS h) (gp0 : GPH h) (k : ∀ (h2 : hp) (z0 : Int) , GI h2 → FR [(240, 240, none), (242, 242, none), (246, 246, none), (248, 248, none), (236, 236, some (0, 0)), (236, 236, some (22, 22)), (236, 236, some (32, 32)), (238, 238, some (43, 54)), (238, 238, some (55, 66)), (238, 238, some (67, 67)), (238, 238, some (68, 68)), (238, 238, some (69, 69)), (238, 238, some (70, 70)), (238, 238, some (71, 71)), (238, 238, some (72, 72)), (238, 238, some (74, 78)), (238, 238, some (80, 84)), (238, 238, some (86, 90)), (238, 238, some (92, 96)), (238, 238, some (98, 98)), (238, 238, some (99, 99)), (238, 238, some (100, 100)), (238, 238, some (101, 101)), (238, 238, some (102, 102)), (238, 238, some (103, 105)), (238, 238, some (106, 106)), (238, 238, some (107, 118)), (238, 238, some (119, 119)), (238, 238, some (120, 196)), (238, 238, some (121, 197)), (238, 238, some (122, 198)), (238, 238, some (123, 199)), (247, 247, some (0, 0)), (247, 247, some (1, 1)), (247, 247, some (2, 2)), (247, 247, some (3, 3))] h h2 → (-1 ≤ z0 ∧ z0 ≤ 12) → (h2 238 98 + h2 238 99 + h2 238 100 + h2 238 101 + h2 238 102 + h2 238 106 = h2 238 73) → (h2 238 73 ≤ h2 238 2) → (h2 238 119 ≤ h2 238 67) → (h2 238 69 ≤ h2 238 5) → (h2 238 2 ≤ 12 * h2 238 5) → (GPS h2) → (GPH h2) → Q (.inl (some (vi z0))) (hp_w h2 cr) b c) : wp (md_xa (L, xs)) (d + 5) 313 (0, [(0, .ref 236)], [], hp_w h cr, b, c) Q := by
  have F0 : FR [(240, 240, none), (242, 242, none), (246, 246, none), (248, 248, none), (236, 236, some (0, 0)), (236, 236, some (22, 22)), (236, 236, some (32, 32)), (238, 238, some (43, 54)), (238, 238, some (55, 66)), (238, 238, some (67, 67)), (238, 238, some (68, 68)), (238, 238, some (69, 69)), (238, 238, some (70, 70)), (238, 238, some (71, 71)), (238, 238, some (72, 72)), (238, 238, some (74, 78)), (238, 238, some (80, 84)), (238, 238, some (86, 90)), (238, 238, some (92, 96)), (238, 238, some (98, 98)), (238, 238, some (99, 99)), (238, 238, some (100, 100)), (238, 238, some (101, 101)), (238, 238, some (102, 102)), (238, 238, some (103, 105)), (238, 238, some (106, 106)), (238, 238, some (107, 118)), (238, 238, some (119, 119)), (238, 238, some (120, 196)), (238, 238, some (121, 197)), (238, 238, some (122, 198)), (238, 238, some (123, 199)), (247, 247, some (0, 0)), (247, 247, some (1, 1)), (247, 247, some (2, 2)), (247, 247, some (3, 3))] h h := FR.refl
  have b1 := gi_b (lo := 0) (hi := 6) g 238 98 rfl
  have b2 := gi_b (lo := 0) (hi := 6) g 238 99 rfl
  have b3 := gi_b (lo := 0) (hi := 6) g 238 100 rfl
  have b4 := gi_b (lo := 0) (hi := 6) g 238 101 rfl
  have b5 := gi_b (lo := 0) (hi := 3) g 238 102 rfl
  have b6 := gi_b (lo := 0) (hi := 12) g 238 106 rfl
  have b7 := gi_b (lo := 0) (hi := 12) g 238 73 rfl
  have b8 := gi_b (lo := 0) (hi := 12) g 238 2 rfl
  have b9 := gi_b (lo := 0) (hi := 9999) g 238 119 rfl
  have b10 := gi_b (lo := 0) (hi := 9999) g 238 67 rfl
  have b11 := gi_b (lo := 0) (hi := 9) g 238 69 rfl
  have b12 := gi_b (lo := 0) (hi := 9) g 238 5 rfl
  refine wi_aload_n (i := 0) (x := 236) (nx := 1) (r1 := 0) (r2 := 0) (r3 := 0) rfl rfl ?_
  refine wi_iconst (n := 0) (nx := 2) (r1 := 0) (r2 := 0) (r3 := 0) rfl ?_
  refine wr_pf0 (k0 := 236) (x := 0) (bl := 0) (bh := 2) (nx := 5) (r1 := 11) (r2 := 0) (r3 := 0) rfl (by decide) rfl ⟨rfl, rfl⟩ rfl rfl g rfl (by omega) (fun h13 g13 w13 u13 => ?_)
  have F14 := F0.then rfl u13
  refine wi_aload_n (i := 0) (x := 236) (nx := 6) (r1 := 0) (r2 := 0) (r3 := 0) rfl rfl ?_
  refine wr_gr (k0 := 236) (x := 238) (nx := 9) (r1 := 11) (r2 := 13) (r3 := 0) rfl rfl (by decide) rfl ⟨rfl, rfl⟩ rfl ?_
  refine wi_aload_n (i := 0) (x := 236) (nx := 10) (r1 := 0) (r2 := 0) (r3 := 0) rfl rfl ?_
  refine wr_gr (k0 := 236) (x := 240) (nx := 13) (r1 := 11) (r2 := 15) (r3 := 0) rfl rfl (by decide) rfl ⟨rfl, rfl⟩ rfl ?_
  refine wi_S (rest := []) (as := [.ref 238, .ref 240]) (nx := 16) (r1 := 238) (r2 := 18) (r3 := 0) rfl rfl rfl (of_decide_eq_true rfl) rfl rfl (of_decide_eq_true rfl) (of_decide_eq_true rfl) ?_
  refine ct_238_238_240 hcr  g13    (fun h15 g15 u15 y15_0 => ?_)
  have F16 := F14.then (by decide +kernel) u15
  refine wk_n ?_
  refine wi_aload_n (i := 0) (x := 236) (nx := 17) (r1 := 0) (r2 := 0) (r3 := 0) rfl rfl ?_
  refine wr_V (k0 := 236) (rest := []) (as := [.ref 236]) (nx := 20) (r1 := 314) (r2 := 0) (r3 := 11) rfl rfl rfl (of_decide_eq_true rfl) rfl rfl (by decide) rfl rfl (of_decide_eq_true rfl) (of_decide_eq_true rfl) ?_
  have e18 : h15 238 98 = h 238 98 := ((u15 238 98 rfl).trans (u13 238 98 rfl))
  have e19 : h15 238 99 = h 238 99 := ((u15 238 99 rfl).trans (u13 238 99 rfl))
  have e20 : h15 238 100 = h 238 100 := ((u15 238 100 rfl).trans (u13 238 100 rfl))
  have e21 : h15 238 101 = h 238 101 := ((u15 238 101 rfl).trans (u13 238 101 rfl))
  have e22 : h15 238 102 = h 238 102 := ((u15 238 102 rfl).trans (u13 238 102 rfl))
  have e23 : h15 238 106 = h 238 106 := ((u15 238 106 rfl).trans (u13 238 106 rfl))
  have e24 : h15 238 73 = h 238 73 := ((u15 238 73 rfl).trans (u13 238 73 rfl))
  have e25 : h15 238 2 = h 238 2 := ((u15 238 2 rfl).trans (u13 238 2 rfl))
  have e26 : h15 238 119 = h 238 119 := ((u15 238 119 rfl).trans (u13 238 119 rfl))
  have e27 : h15 238 67 = h 238 67 := ((u15 238 67 rfl).trans (u13 238 67 rfl))
  have e28 : h15 238 69 = h 238 69 := ((u15 238 69 rfl).trans (u13 238 69 rfl))
  have e29 : h15 238 5 = h 238 5 := ((u15 238 5 rfl).trans (u13 238 5 rfl))
  refine ct_314_236 hcr  g15   (show (h15 238 98) + (h15 238 99) + (h15 238 100) + (h15 238 101) + (h15 238 102) + (h15 238 106) = (h15 238 73) by omega) (show (h15 238 73) ≤ (h15 238 2) by omega) (show (h15 238 119) ≤ (h15 238 67) by omega) (show (h15 238 69) ≤ (h15 238 5) by omega) (show (h15 238 2) ≤ 12 * (h15 238 5) by omega) (fun h17 z30 g17 u17 (fz30 : 0 ≤ z30 ∧ z30 ≤ 12) (p17_0 : (h17 238 98) + (h17 238 99) + (h17 238 100) + (h17 238 101) + (h17 238 102) + (h17 238 106) = (h17 238 73)) (p17_1 : (h17 238 73) ≤ (h17 238 2)) (p17_2 : (h17 238 119) ≤ (h17 238 67)) (p17_3 : (h17 238 69) ≤ (h17 238 5)) (p17_4 : (h17 238 2) ≤ 12 * (h17 238 5)) => ?_)
  have F31 := F16.then (by decide +kernel) u17
  have b32 := gi_b (lo := 0) (hi := 6) g17 238 98 rfl
  have b33 := gi_b (lo := 0) (hi := 6) g17 238 99 rfl
  have b34 := gi_b (lo := 0) (hi := 6) g17 238 100 rfl
  have b35 := gi_b (lo := 0) (hi := 6) g17 238 101 rfl
  have b36 := gi_b (lo := 0) (hi := 3) g17 238 102 rfl
  have b37 := gi_b (lo := 0) (hi := 12) g17 238 106 rfl
  have e38 : h17 238 73 = h 238 73 := ((u17 238 73 rfl).trans ((u15 238 73 rfl).trans (u13 238 73 rfl)))
  have e39 : h17 238 2 = h 238 2 := ((u17 238 2 rfl).trans ((u15 238 2 rfl).trans (u13 238 2 rfl)))
  have b40 := gi_b (lo := 0) (hi := 9999) g17 238 119 rfl
  have b41 := gi_b (lo := 0) (hi := 9999) g17 238 67 rfl
  have b42 := gi_b (lo := 0) (hi := 9) g17 238 69 rfl
  have e43 : h17 238 5 = h 238 5 := ((u17 238 5 rfl).trans ((u15 238 5 rfl).trans (u13 238 5 rfl)))
  refine wk_i ?_
  refine wi_istore_n (i := 1) (e := z30) (lo2 := [(1, vi z30), (0, .ref 236)]) (nx := 21) (r1 := 0) (r2 := 0) (r3 := 0) rfl rfl ?_
  refine wi_iload_n (i := 1) (e := z30) (nx := 22) (r1 := 0) (r2 := 0) (r3 := 0) rfl rfl ?_
  refine wi_if (cd := .ne) (nx := 25) (r1 := 27) (r2 := 0) (r3 := 0) rfl (by omega) (fun (q44 : z30 ≠ 0) => ?_) (fun (q44 : ¬ (z30 ≠ 0)) => ?_)
  ·
    refine wi_aload_n (i := 0) (x := 236) (nx := 28) (r1 := 0) (r2 := 0) (r3 := 0) rfl rfl ?_
    refine wr_V (k0 := 236) (rest := []) (as := [.ref 236]) (nx := 31) (r1 := 315) (r2 := 0) (r3 := 11) rfl rfl rfl (of_decide_eq_true rfl) rfl rfl (by decide) rfl rfl (of_decide_eq_true rfl) (of_decide_eq_true rfl) ?_
    have e46 : h17 240 98 = h 238 98 := ((u17 240 98 rfl).trans ((y15_0 98 (by decide)).trans (u13 238 98 rfl)))
    have e47 : h17 240 99 = h 238 99 := ((u17 240 99 rfl).trans ((y15_0 99 (by decide)).trans (u13 238 99 rfl)))
    have e48 : h17 240 100 = h 238 100 := ((u17 240 100 rfl).trans ((y15_0 100 (by decide)).trans (u13 238 100 rfl)))
    have e49 : h17 240 101 = h 238 101 := ((u17 240 101 rfl).trans ((y15_0 101 (by decide)).trans (u13 238 101 rfl)))
    have e50 : h17 240 102 = h 238 102 := ((u17 240 102 rfl).trans ((y15_0 102 (by decide)).trans (u13 238 102 rfl)))
    have e51 : h17 240 106 = h 238 106 := ((u17 240 106 rfl).trans ((y15_0 106 (by decide)).trans (u13 238 106 rfl)))
    have e52 : h17 240 73 = h 238 73 := ((u17 240 73 rfl).trans ((y15_0 73 (by decide)).trans (u13 238 73 rfl)))
    have e53 : h17 240 2 = h 238 2 := ((u17 240 2 rfl).trans ((y15_0 2 (by decide)).trans (u13 238 2 rfl)))
    have e54 : h17 240 119 = h 238 119 := ((u17 240 119 rfl).trans ((y15_0 119 (by decide)).trans (u13 238 119 rfl)))
    have e55 : h17 240 67 = h 238 67 := ((u17 240 67 rfl).trans ((y15_0 67 (by decide)).trans (u13 238 67 rfl)))
    have e56 : h17 240 69 = h 238 69 := ((u17 240 69 rfl).trans ((y15_0 69 (by decide)).trans (u13 238 69 rfl)))
    have e57 : h17 240 5 = h 238 5 := ((u17 240 5 rfl).trans ((y15_0 5 (by decide)).trans (u13 238 5 rfl)))
    have gs58 := GPS.fr u13 rfl xq0
    have gs59 := GPS.fr u15 rfl gs58
    have gs60 := GPS.fr u17 rfl gs59
    have gp61 := GPH.fr u13 rfl gp0
    have gp62 := GPH.fr u15 rfl gp61
    have gp63 := GPH.fr u17 rfl gp62
    refine ct_315_236 hcr  g17   (show (h17 238 98) + (h17 238 99) + (h17 238 100) + (h17 238 101) + (h17 238 102) + (h17 238 106) = (h17 238 73) by omega) (show (h17 238 73) ≤ (h17 238 2) by omega) (show (h17 238 119) ≤ (h17 238 67) by omega) (show (h17 238 69) ≤ (h17 238 5) by omega) (show (h17 238 2) ≤ 12 * (h17 238 5) by omega) (show (h17 240 98) + (h17 240 99) + (h17 240 100) + (h17 240 101) + (h17 240 102) + (h17 240 106) = (h17 240 73) by omega) (show (h17 240 73) ≤ (h17 240 2) by omega) (show (h17 240 119) ≤ (h17 240 67) by omega) (show (h17 240 69) ≤ (h17 240 5) by omega) (show (h17 240 2) ≤ 12 * (h17 240 5) by omega) gs60 (fun i _ => (((u17 240 i (fo_nk rfl)).trans ((y15_0 i (by omega)).trans (u13 238 i (fn_a (by omega) fn_0))))).trans (((u17 238 i (fo_lk (m := 43) (by omega) rfl)).trans ((u15 238 i (fn_a (by decide) fn_0)).trans (u13 238 i (fn_a (by omega) fn_0))))).symm) gp63 (fun h45 g45 u45 y45_0 y45_1 => ?_)
    have F64 := F31.then (by decide +kernel) u45
    refine wk_n ?_
    refine wi_iload_n (i := 1) (e := z30) (nx := 32) (r1 := 0) (r2 := 0) (r3 := 0) rfl rfl ?_
    refine wi_ireturn (nx := 33) (r1 := 0) (r2 := 0) (r3 := 0) rfl rfl ?_
    have e65 : h45 238 98 = h17 238 98 := (u45 238 98 rfl)
    have e66 : h45 238 99 = h17 238 99 := (u45 238 99 rfl)
    have e67 : h45 238 100 = h17 238 100 := (u45 238 100 rfl)
    have e68 : h45 238 101 = h17 238 101 := (u45 238 101 rfl)
    have e69 : h45 238 102 = h17 238 102 := (u45 238 102 rfl)
    have e70 : h45 238 106 = h17 238 106 := (u45 238 106 rfl)
    have e71 : h45 238 73 = h 238 73 := ((u45 238 73 rfl).trans ((u17 238 73 rfl).trans ((u15 238 73 rfl).trans (u13 238 73 rfl))))
    have e72 : h45 238 2 = h 238 2 := ((u45 238 2 rfl).trans ((u17 238 2 rfl).trans ((u15 238 2 rfl).trans (u13 238 2 rfl))))
    have e73 : h45 238 119 = h17 238 119 := (u45 238 119 rfl)
    have e74 : h45 238 67 = h17 238 67 := (u45 238 67 rfl)
    have e75 : h45 238 69 = h17 238 69 := (u45 238 69 rfl)
    have e76 : h45 238 5 = h 238 5 := ((u45 238 5 rfl).trans ((u17 238 5 rfl).trans ((u15 238 5 rfl).trans (u13 238 5 rfl))))
    exact k h45 z30 g45 F64 (by omega) (show (h45 238 98) + (h45 238 99) + (h45 238 100) + (h45 238 101) + (h45 238 102) + (h45 238 106) = (h45 238 73) by omega) (show (h45 238 73) ≤ (h45 238 2) by omega) (show (h45 238 119) ≤ (h45 238 67) by omega) (show (h45 238 69) ≤ (h45 238 5) by omega) (show (h45 238 2) ≤ 12 * (h45 238 5) by omega) y45_0 y45_1
  ·
    refine wi_iconst (n := (-1)) (nx := 26) (r1 := 0) (r2 := 0) (r3 := 0) rfl ?_
    refine wi_ireturn (nx := 27) (r1 := 0) (r2 := 0) (r3 := 0) rfl rfl ?_
    have gs45 := GPS.fr u13 rfl xq0
    have gs46 := GPS.fr u15 rfl gs45
    have gs47 := GPS.fr u17 rfl gs46
    have gp48 := GPH.fr u13 rfl gp0
    have gp49 := GPH.fr u15 rfl gp48
    have gp50 := GPH.fr u17 rfl gp49
    exact k h17 (-1) g17 F31 (by omega) (show (h17 238 98) + (h17 238 99) + (h17 238 100) + (h17 238 101) + (h17 238 102) + (h17 238 106) = (h17 238 73) by omega) (show (h17 238 73) ≤ (h17 238 2) by omega) (show (h17 238 119) ≤ (h17 238 67) by omega) (show (h17 238 69) ≤ (h17 238 5) by omega) (show (h17 238 2) ≤ 12 * (h17 238 5) by omega) gs47 gp50
-- method 311: Model.unloadChanges()I
set_option maxRecDepth 100000 in
set_option maxHeartbeats 100000000 in
theorem ct_311_236 {L : Nat} {xs : Nat → Int32} {d b c : Nat} {h : hp} {cr : Nat → Nat → Option Nat} {Q : hp_Q} (hcr : CR cr)  (g : GI h)   (pp0 : h 238 98 + h 238 99 + h 238 100 + h 238 101 + h 238 102 + h 238 106 = h 238 73) (pp1 : h 238 73 ≤ h 238 2) (pp2 : h 238 119 ≤ h 238 67) (pp3 : h 238 69 ≤ h 238 5) (pp4 : h 238 2 ≤ 12 * h 238 5) (k : ∀ (h2 : hp) (z0 : Int) , GI h2 → FR [(246, 246, none), (248, 248, none), (236, 236, some (0, 0)), (236, 236, some (32, 32)), (247, 247, some (0, 0)), (247, 247, some (1, 1)), (247, 247, some (2, 2)), (247, 247, some (3, 3))] h h2 → (-1 ≤ z0 ∧ z0 ≤ 99) → Q (.inl (some (vi z0))) (hp_w h2 cr) b c) : wp (md_xa (L, xs)) (d + 4) 311 (0, [(0, .ref 236)], [], hp_w h cr, b, c) Q := by
  have F0 : FR [(246, 246, none), (248, 248, none), (236, 236, some (0, 0)), (236, 236, some (32, 32)), (247, 247, some (0, 0)), (247, 247, some (1, 1)), (247, 247, some (2, 2)), (247, 247, some (3, 3))] h h := FR.refl
  have b1 := gi_b (lo := 0) (hi := 6) g 238 98 rfl
  have b2 := gi_b (lo := 0) (hi := 6) g 238 99 rfl
  have b3 := gi_b (lo := 0) (hi := 6) g 238 100 rfl
  have b4 := gi_b (lo := 0) (hi := 6) g 238 101 rfl
  have b5 := gi_b (lo := 0) (hi := 3) g 238 102 rfl
  have b6 := gi_b (lo := 0) (hi := 12) g 238 106 rfl
  have b7 := gi_b (lo := 0) (hi := 12) g 238 73 rfl
  have b8 := gi_b (lo := 0) (hi := 12) g 238 2 rfl
  have b9 := gi_b (lo := 0) (hi := 9999) g 238 119 rfl
  have b10 := gi_b (lo := 0) (hi := 9999) g 238 67 rfl
  have b11 := gi_b (lo := 0) (hi := 9) g 238 69 rfl
  have b12 := gi_b (lo := 0) (hi := 9) g 238 5 rfl
  refine wi_aload_n (i := 0) (x := 236) (nx := 1) (r1 := 0) (r2 := 0) (r3 := 0) rfl rfl ?_
  refine wi_iconst (n := 0) (nx := 2) (r1 := 0) (r2 := 0) (r3 := 0) rfl ?_
  refine wr_pf0 (k0 := 236) (x := 0) (bl := 0) (bh := 2) (nx := 5) (r1 := 11) (r2 := 0) (r3 := 0) rfl (by decide) rfl ⟨rfl, rfl⟩ rfl rfl g rfl (by omega) (fun h13 g13 w13 u13 => ?_)
  have F14 := F0.then rfl u13
  refine wi_aload_n (i := 0) (x := 236) (nx := 6) (r1 := 0) (r2 := 0) (r3 := 0) rfl rfl ?_
  refine wr_V (k0 := 236) (rest := []) (as := [.ref 236]) (nx := 9) (r1 := 299) (r2 := 0) (r3 := 11) rfl rfl rfl (of_decide_eq_true rfl) rfl rfl (by decide) rfl rfl (of_decide_eq_true rfl) (of_decide_eq_true rfl) ?_
  have e16 : h13 238 98 = h 238 98 := (u13 238 98 rfl)
  have e17 : h13 238 99 = h 238 99 := (u13 238 99 rfl)
  have e18 : h13 238 100 = h 238 100 := (u13 238 100 rfl)
  have e19 : h13 238 101 = h 238 101 := (u13 238 101 rfl)
  have e20 : h13 238 102 = h 238 102 := (u13 238 102 rfl)
  have e21 : h13 238 106 = h 238 106 := (u13 238 106 rfl)
  have e22 : h13 238 73 = h 238 73 := (u13 238 73 rfl)
  have e23 : h13 238 2 = h 238 2 := (u13 238 2 rfl)
  have e24 : h13 238 119 = h 238 119 := (u13 238 119 rfl)
  have e25 : h13 238 67 = h 238 67 := (u13 238 67 rfl)
  have e26 : h13 238 69 = h 238 69 := (u13 238 69 rfl)
  have e27 : h13 238 5 = h 238 5 := (u13 238 5 rfl)
  refine ct_299_236 hcr  g13   (show (h13 238 98) + (h13 238 99) + (h13 238 100) + (h13 238 101) + (h13 238 102) + (h13 238 106) = (h13 238 73) by omega) (show (h13 238 73) ≤ (h13 238 2) by omega) (show (h13 238 119) ≤ (h13 238 67) by omega) (show (h13 238 69) ≤ (h13 238 5) by omega) (show (h13 238 2) ≤ 12 * (h13 238 5) by omega) (fun h15 z28 g15 u15 (fz28 : 0 ≤ z28 ∧ z28 ≤ 1000000) => ?_)
  have F29 := F14.then (by decide +kernel) u15
  refine wk_i ?_
  refine wi_istore_n (i := 1) (e := z28) (lo2 := [(1, vi z28), (0, .ref 236)]) (nx := 10) (r1 := 0) (r2 := 0) (r3 := 0) rfl rfl ?_
  refine wi_iload_n (i := 1) (e := z28) (nx := 11) (r1 := 0) (r2 := 0) (r3 := 0) rfl rfl ?_
  refine wi_ldc_w (e := 1000000) (nx := 14) (r1 := 0) (r2 := 1000000) (r3 := 0) rfl (by decide) ?_
  refine wi_icmp (cd := .ne) (nx := 17) (r1 := 21) (r2 := 0) (r3 := 0) rfl (by omega) (by omega) (fun (q30 : z28 ≠ 1000000) => ?_) (fun (q30 : ¬ (z28 ≠ 1000000)) => ?_)
  ·
    refine wi_iload_n (i := 1) (e := z28) (nx := 22) (r1 := 0) (r2 := 0) (r3 := 0) rfl rfl ?_
    refine wi_bipush (n := 100) (nx := 24) (r1 := 0) (r2 := 0) (r3 := 0) rfl (by decide) ?_
    refine wr_iremC (nx := 25) (r1 := 0) (r2 := 0) (r3 := 0) rfl (by omega) (by decide) (fun e31 (fe31 : e31 = z28 % 100) => ?_)
    refine wi_ireturn (nx := 26) (r1 := 0) (r2 := 0) (r3 := 0) rfl rfl ?_
    exact k h15 e31 g15 F29 (by omega)
  ·
    refine wi_iconst (n := (-1)) (nx := 18) (r1 := 0) (r2 := 0) (r3 := 0) rfl ?_
    refine wi_goto (nx := 21) (r1 := 25) (r2 := 0) (r3 := 0) rfl ?_
    refine wi_ireturn (nx := 26) (r1 := 0) (r2 := 0) (r3 := 0) rfl rfl ?_
    exact k h15 (-1) g15 F29 (by omega)
-- method 298: Model.unloadCost()I
set_option maxRecDepth 100000 in
set_option maxHeartbeats 100000000 in
theorem ct_298_236 {L : Nat} {xs : Nat → Int32} {d b c : Nat} {h : hp} {cr : Nat → Nat → Option Nat} {Q : hp_Q} (hcr : CR cr)  (g : GI h)   (pp0 : h 238 98 + h 238 99 + h 238 100 + h 238 101 + h 238 102 + h 238 106 = h 238 73) (pp1 : h 238 73 ≤ h 238 2) (pp2 : h 238 119 ≤ h 238 67) (pp3 : h 238 69 ≤ h 238 5) (pp4 : h 238 2 ≤ 12 * h 238 5) (k : ∀ (h2 : hp) (z0 : Int) , GI h2 → FR [(246, 246, none), (248, 248, none), (236, 236, some (0, 0)), (236, 236, some (32, 32)), (247, 247, some (0, 0)), (247, 247, some (1, 1)), (247, 247, some (2, 2)), (247, 247, some (3, 3))] h h2 → (-1 ≤ z0 ∧ z0 ≤ 9999) → Q (.inl (some (vi z0))) (hp_w h2 cr) b c) : wp (md_xa (L, xs)) (d + 4) 298 (0, [(0, .ref 236)], [], hp_w h cr, b, c) Q := by
  have F0 : FR [(246, 246, none), (248, 248, none), (236, 236, some (0, 0)), (236, 236, some (32, 32)), (247, 247, some (0, 0)), (247, 247, some (1, 1)), (247, 247, some (2, 2)), (247, 247, some (3, 3))] h h := FR.refl
  have b1 := gi_b (lo := 0) (hi := 6) g 238 98 rfl
  have b2 := gi_b (lo := 0) (hi := 6) g 238 99 rfl
  have b3 := gi_b (lo := 0) (hi := 6) g 238 100 rfl
  have b4 := gi_b (lo := 0) (hi := 6) g 238 101 rfl
  have b5 := gi_b (lo := 0) (hi := 3) g 238 102 rfl
  have b6 := gi_b (lo := 0) (hi := 12) g 238 106 rfl
  have b7 := gi_b (lo := 0) (hi := 12) g 238 73 rfl
  have b8 := gi_b (lo := 0) (hi := 12) g 238 2 rfl
  have b9 := gi_b (lo := 0) (hi := 9999) g 238 119 rfl
  have b10 := gi_b (lo := 0) (hi := 9999) g 238 67 rfl
  have b11 := gi_b (lo := 0) (hi := 9) g 238 69 rfl
  have b12 := gi_b (lo := 0) (hi := 9) g 238 5 rfl
  refine wi_aload_n (i := 0) (x := 236) (nx := 1) (r1 := 0) (r2 := 0) (r3 := 0) rfl rfl ?_
  refine wi_iconst (n := 0) (nx := 2) (r1 := 0) (r2 := 0) (r3 := 0) rfl ?_
  refine wr_pf0 (k0 := 236) (x := 0) (bl := 0) (bh := 2) (nx := 5) (r1 := 11) (r2 := 0) (r3 := 0) rfl (by decide) rfl ⟨rfl, rfl⟩ rfl rfl g rfl (by omega) (fun h13 g13 w13 u13 => ?_)
  have F14 := F0.then rfl u13
  refine wi_aload_n (i := 0) (x := 236) (nx := 6) (r1 := 0) (r2 := 0) (r3 := 0) rfl rfl ?_
  refine wr_V (k0 := 236) (rest := []) (as := [.ref 236]) (nx := 9) (r1 := 299) (r2 := 0) (r3 := 11) rfl rfl rfl (of_decide_eq_true rfl) rfl rfl (by decide) rfl rfl (of_decide_eq_true rfl) (of_decide_eq_true rfl) ?_
  have e16 : h13 238 98 = h 238 98 := (u13 238 98 rfl)
  have e17 : h13 238 99 = h 238 99 := (u13 238 99 rfl)
  have e18 : h13 238 100 = h 238 100 := (u13 238 100 rfl)
  have e19 : h13 238 101 = h 238 101 := (u13 238 101 rfl)
  have e20 : h13 238 102 = h 238 102 := (u13 238 102 rfl)
  have e21 : h13 238 106 = h 238 106 := (u13 238 106 rfl)
  have e22 : h13 238 73 = h 238 73 := (u13 238 73 rfl)
  have e23 : h13 238 2 = h 238 2 := (u13 238 2 rfl)
  have e24 : h13 238 119 = h 238 119 := (u13 238 119 rfl)
  have e25 : h13 238 67 = h 238 67 := (u13 238 67 rfl)
  have e26 : h13 238 69 = h 238 69 := (u13 238 69 rfl)
  have e27 : h13 238 5 = h 238 5 := (u13 238 5 rfl)
  refine ct_299_236 hcr  g13   (show (h13 238 98) + (h13 238 99) + (h13 238 100) + (h13 238 101) + (h13 238 102) + (h13 238 106) = (h13 238 73) by omega) (show (h13 238 73) ≤ (h13 238 2) by omega) (show (h13 238 119) ≤ (h13 238 67) by omega) (show (h13 238 69) ≤ (h13 238 5) by omega) (show (h13 238 2) ≤ 12 * (h13 238 5) by omega) (fun h15 z28 g15 u15 (fz28 : 0 ≤ z28 ∧ z28 ≤ 1000000) => ?_)
  have F29 := F14.then (by decide +kernel) u15
  refine wk_i ?_
  refine wi_istore_n (i := 1) (e := z28) (lo2 := [(1, vi z28), (0, .ref 236)]) (nx := 10) (r1 := 0) (r2 := 0) (r3 := 0) rfl rfl ?_
  refine wi_iload_n (i := 1) (e := z28) (nx := 11) (r1 := 0) (r2 := 0) (r3 := 0) rfl rfl ?_
  refine wi_ldc_w (e := 1000000) (nx := 14) (r1 := 0) (r2 := 1000000) (r3 := 0) rfl (by decide) ?_
  refine wi_icmp (cd := .ne) (nx := 17) (r1 := 21) (r2 := 0) (r3 := 0) rfl (by omega) (by omega) (fun (q30 : z28 ≠ 1000000) => ?_) (fun (q30 : ¬ (z28 ≠ 1000000)) => ?_)
  ·
    refine wi_iload_n (i := 1) (e := z28) (nx := 22) (r1 := 0) (r2 := 0) (r3 := 0) rfl rfl ?_
    refine wi_bipush (n := 100) (nx := 24) (r1 := 0) (r2 := 0) (r3 := 0) rfl (by decide) ?_
    refine wr_idivC (nx := 25) (r1 := 0) (r2 := 0) (r3 := 0) rfl (by omega) (by decide) (fun e31 (fe31 : e31 = z28 / 100) => ?_)
    refine wi_ireturn (nx := 26) (r1 := 0) (r2 := 0) (r3 := 0) rfl rfl ?_
    exact k h15 e31 g15 F29 (by omega)
  ·
    refine wi_iconst (n := (-1)) (nx := 18) (r1 := 0) (r2 := 0) (r3 := 0) rfl ?_
    refine wi_goto (nx := 21) (r1 := 25) (r2 := 0) (r3 := 0) rfl ?_
    refine wi_ireturn (nx := 26) (r1 := 0) (r2 := 0) (r3 := 0) rfl rfl ?_
    exact k h15 (-1) g15 F29 (by omega)
-- method 312: Model.unloadLane(I)I
set_option maxRecDepth 100000 in
set_option maxHeartbeats 100000000 in
theorem ct_312_236 {L : Nat} {xs : Nat → Int32} {d b c : Nat} {h : hp} {cr : Nat → Nat → Option Nat} {Q : hp_Q} (hcr : CR cr)  (g : GI h) (a0 : Int) (q0_ : -2147483648 ≤ a0 ∧ a0 ≤ 2147483647) (pp0 : h 238 98 + h 238 99 + h 238 100 + h 238 101 + h 238 102 + h 238 106 = h 238 73) (pp1 : h 238 73 ≤ h 238 2) (pp2 : h 238 119 ≤ h 238 67) (pp3 : h 238 69 ≤ h 238 5) (pp4 : h 238 2 ≤ 12 * h 238 5) (k : ∀ (h2 : hp) (z0 : Int) , GI h2 → FR [(246, 246, none), (248, 248, none), (236, 236, some (0, 0)), (236, 236, some (32, 32)), (247, 247, some (0, 0)), (247, 247, some (1, 1)), (247, 247, some (2, 2)), (247, 247, some (3, 3))] h h2 → (-1 ≤ z0 ∧ z0 ≤ 3) → Q (.inl (some (vi z0))) (hp_w h2 cr) b c) : wp (md_xa (L, xs)) (d + 4) 312 (0, [(0, .ref 236), (1, vi a0)], [], hp_w h cr, b, c) Q := by
  have F0 : FR [(246, 246, none), (248, 248, none), (236, 236, some (0, 0)), (236, 236, some (32, 32)), (247, 247, some (0, 0)), (247, 247, some (1, 1)), (247, 247, some (2, 2)), (247, 247, some (3, 3))] h h := FR.refl
  have b1 := gi_b (lo := 0) (hi := 6) g 238 98 rfl
  have b2 := gi_b (lo := 0) (hi := 6) g 238 99 rfl
  have b3 := gi_b (lo := 0) (hi := 6) g 238 100 rfl
  have b4 := gi_b (lo := 0) (hi := 6) g 238 101 rfl
  have b5 := gi_b (lo := 0) (hi := 3) g 238 102 rfl
  have b6 := gi_b (lo := 0) (hi := 12) g 238 106 rfl
  have b7 := gi_b (lo := 0) (hi := 12) g 238 73 rfl
  have b8 := gi_b (lo := 0) (hi := 12) g 238 2 rfl
  have b9 := gi_b (lo := 0) (hi := 9999) g 238 119 rfl
  have b10 := gi_b (lo := 0) (hi := 9999) g 238 67 rfl
  have b11 := gi_b (lo := 0) (hi := 9) g 238 69 rfl
  have b12 := gi_b (lo := 0) (hi := 9) g 238 5 rfl
  refine wi_aload_n (i := 0) (x := 236) (nx := 1) (r1 := 0) (r2 := 0) (r3 := 0) rfl rfl ?_
  refine wi_iconst (n := 0) (nx := 2) (r1 := 0) (r2 := 0) (r3 := 0) rfl ?_
  refine wr_pf0 (k0 := 236) (x := 0) (bl := 0) (bh := 2) (nx := 5) (r1 := 11) (r2 := 0) (r3 := 0) rfl (by decide) rfl ⟨rfl, rfl⟩ rfl rfl g rfl (by omega) (fun h13 g13 w13 u13 => ?_)
  have F14 := F0.then rfl u13
  refine wi_aload_n (i := 0) (x := 236) (nx := 6) (r1 := 0) (r2 := 0) (r3 := 0) rfl rfl ?_
  refine wr_V (k0 := 236) (rest := []) (as := [.ref 236]) (nx := 9) (r1 := 299) (r2 := 0) (r3 := 11) rfl rfl rfl (of_decide_eq_true rfl) rfl rfl (by decide) rfl rfl (of_decide_eq_true rfl) (of_decide_eq_true rfl) ?_
  have e16 : h13 238 98 = h 238 98 := (u13 238 98 rfl)
  have e17 : h13 238 99 = h 238 99 := (u13 238 99 rfl)
  have e18 : h13 238 100 = h 238 100 := (u13 238 100 rfl)
  have e19 : h13 238 101 = h 238 101 := (u13 238 101 rfl)
  have e20 : h13 238 102 = h 238 102 := (u13 238 102 rfl)
  have e21 : h13 238 106 = h 238 106 := (u13 238 106 rfl)
  have e22 : h13 238 73 = h 238 73 := (u13 238 73 rfl)
  have e23 : h13 238 2 = h 238 2 := (u13 238 2 rfl)
  have e24 : h13 238 119 = h 238 119 := (u13 238 119 rfl)
  have e25 : h13 238 67 = h 238 67 := (u13 238 67 rfl)
  have e26 : h13 238 69 = h 238 69 := (u13 238 69 rfl)
  have e27 : h13 238 5 = h 238 5 := (u13 238 5 rfl)
  refine ct_299_236 hcr  g13   (show (h13 238 98) + (h13 238 99) + (h13 238 100) + (h13 238 101) + (h13 238 102) + (h13 238 106) = (h13 238 73) by omega) (show (h13 238 73) ≤ (h13 238 2) by omega) (show (h13 238 119) ≤ (h13 238 67) by omega) (show (h13 238 69) ≤ (h13 238 5) by omega) (show (h13 238 2) ≤ 12 * (h13 238 5) by omega) (fun h15 z28 g15 u15 (fz28 : 0 ≤ z28 ∧ z28 ≤ 1000000) => ?_)
  have F29 := F14.then (by decide +kernel) u15
  refine wk_i ?_
  refine wi_istore_n (i := 2) (e := z28) (lo2 := [(2, vi z28), (0, .ref 236), (1, vi a0)]) (nx := 10) (r1 := 0) (r2 := 0) (r3 := 0) rfl rfl ?_
  refine wi_iload_n (i := 1) (e := a0) (nx := 11) (r1 := 0) (r2 := 0) (r3 := 0) rfl rfl ?_
  refine wi_i2l (nx := 12) (r1 := 0) (r2 := 0) (r3 := 0) rfl (by omega) ?_
  refine wi_lconst (n := 0) (e := 0) (nx := 13) (r1 := 0) (r2 := 0) (r3 := 0) rfl (by decide) ?_
  refine wi_aload_n (i := 0) (x := 236) (nx := 14) (r1 := 0) (r2 := 0) (r3 := 0) rfl rfl ?_
  have b30 := gi_b (lo := 0) (hi := 12) g15 236 32 rfl
  refine wr_gi0 (k0 := 236) (x := h15 236 32) (nx := 17) (r1 := 11) (r2 := 32) (r3 := 0) rfl rfl (by decide) rfl ⟨rfl, rfl⟩ rfl rfl ?_
  refine wi_iconst (n := 1) (nx := 18) (r1 := 0) (r2 := 0) (r3 := 0) rfl ?_
  refine wr_sub (nx := 19) (r1 := 0) (r2 := 0) (r3 := 0) rfl (fun e31 (fe31 : e31 = (h15 236 32) - 1) => ?_)
  refine wi_i2l (nx := 20) (r1 := 0) (r2 := 0) (r3 := 0) rfl (by omega) ?_
  refine wi_S (rest := []) (as := [vl a0, vl 0, vl e31]) (nx := 23) (r1 := 210) (r2 := 19) (r3 := 0) rfl rfl rfl (of_decide_eq_true rfl) rfl rfl (of_decide_eq_true rfl) (of_decide_eq_true rfl) ?_
  refine wi_lload_n (i := 0) (e := a0) (nx := 1) (r1 := 0) (r2 := 0) (r3 := 0) rfl rfl ?_
  refine wi_lload_n (i := 2) (e := 0) (nx := 2) (r1 := 0) (r2 := 0) (r3 := 0) rfl rfl ?_
  refine wi_lcmp (a := a0) (e := 0) (nx := 3) (r1 := 0) (r2 := 0) (r3 := 0) rfl (by omega) (by omega) (fun r32 (fr32 : (r32 = -1 ∧ a0 < 0) ∨ (r32 = 0 ∧ a0 = 0) ∨ (r32 = 1 ∧ 0 < a0)) => ?_)
  refine wi_if (cd := .lt) (nx := 6) (r1 := 17) (r2 := 0) (r3 := 0) rfl (by omega) (fun (q33 : r32 < 0) => ?_) (fun (q33 : ¬ (r32 < 0)) => ?_)
  ·
    refine wi_iconst (n := 0) (nx := 18) (r1 := 0) (r2 := 0) (r3 := 0) rfl ?_
    refine wi_zreturn (nx := 19) (r1 := 0) (r2 := 0) (r3 := 0) rfl rfl (by omega) ?_
    refine wk_i ?_
    refine wi_if (cd := .eq) (nx := 26) (r1 := 35) (r2 := 0) (r3 := 0) rfl (by omega) (fun (q34 : 0 = 0) => ?_) (fun (q34 : ¬ (0 = 0)) => by exfalso; omega)
    refine wi_iconst (n := (-1)) (nx := 36) (r1 := 0) (r2 := 0) (r3 := 0) rfl ?_
    refine wi_ireturn (nx := 37) (r1 := 0) (r2 := 0) (r3 := 0) rfl rfl ?_
    exact k h15 (-1) g15 F29 (by omega)
  ·
    refine wi_lload_n (i := 0) (e := a0) (nx := 7) (r1 := 0) (r2 := 0) (r3 := 0) rfl rfl ?_
    refine wi_lload (i := 4) (e := e31) (nx := 9) (r1 := 0) (r2 := 0) (r3 := 0) rfl rfl ?_
    refine wi_lcmp (a := a0) (e := e31) (nx := 10) (r1 := 0) (r2 := 0) (r3 := 0) rfl (by omega) (by omega) (fun r34 (fr34 : (r34 = -1 ∧ a0 < e31) ∨ (r34 = 0 ∧ a0 = e31) ∨ (r34 = 1 ∧ e31 < a0)) => ?_)
    refine wi_if (cd := .gt) (nx := 13) (r1 := 17) (r2 := 0) (r3 := 0) rfl (by omega) (fun (q35 : 0 < r34) => ?_) (fun (q35 : ¬ (0 < r34)) => ?_)
    ·
      refine wi_iconst (n := 0) (nx := 18) (r1 := 0) (r2 := 0) (r3 := 0) rfl ?_
      refine wi_zreturn (nx := 19) (r1 := 0) (r2 := 0) (r3 := 0) rfl rfl (by omega) ?_
      refine wk_i ?_
      refine wi_if (cd := .eq) (nx := 26) (r1 := 35) (r2 := 0) (r3 := 0) rfl (by omega) (fun (q36 : 0 = 0) => ?_) (fun (q36 : ¬ (0 = 0)) => by exfalso; omega)
      refine wi_iconst (n := (-1)) (nx := 36) (r1 := 0) (r2 := 0) (r3 := 0) rfl ?_
      refine wi_ireturn (nx := 37) (r1 := 0) (r2 := 0) (r3 := 0) rfl rfl ?_
      exact k h15 (-1) g15 F29 (by omega)
    ·
      refine wi_iconst (n := 1) (nx := 14) (r1 := 0) (r2 := 0) (r3 := 0) rfl ?_
      refine wi_goto (nx := 17) (r1 := 18) (r2 := 0) (r3 := 0) rfl ?_
      refine wi_zreturn (nx := 19) (r1 := 0) (r2 := 0) (r3 := 0) rfl rfl (by omega) ?_
      refine wk_i ?_
      refine wi_if (cd := .eq) (nx := 26) (r1 := 35) (r2 := 0) (r3 := 0) rfl (by omega) (fun (q36 : 1 = 0) => by exfalso; omega) (fun (q36 : ¬ (1 = 0)) => ?_)
      refine wi_aload_n (i := 0) (x := 236) (nx := 27) (r1 := 0) (r2 := 0) (r3 := 0) rfl rfl ?_
      refine wr_gr (k0 := 236) (x := 248) (nx := 30) (r1 := 11) (r2 := 31) (r3 := 0) rfl rfl (by decide) rfl ⟨rfl, rfl⟩ rfl ?_
      refine wi_iload_n (i := 1) (e := a0) (nx := 31) (r1 := 0) (r2 := 0) (r3 := 0) rfl rfl ?_
      obtain ⟨i37, ei37⟩ : ∃ q : Nat, a0 = (q : Int) := ⟨(a0).toNat, by omega⟩
      have b38 := gi_b (lo := 0) (hi := 3) g15 248 i37 rfl
      refine wr_ia (k0 := 248) (a := a0) (f := i37) (x := h15 248 i37) (nx := 32) (r1 := 0) (r2 := 0) (r3 := 0) rfl (by decide) rfl (by omega) (by omega) (by decide) rfl ?_
      refine wi_goto (nx := 35) (r1 := 36) (r2 := 0) (r3 := 0) rfl ?_
      refine wi_ireturn (nx := 37) (r1 := 0) (r2 := 0) (r3 := 0) rfl rfl ?_
      exact k h15 (h15 248 i37) g15 F29 (by omega)
-- method 255: Model.waiting()I
set_option maxRecDepth 100000 in
set_option maxHeartbeats 100000000 in
theorem ct_255_236 {L : Nat} {xs : Nat → Int32} {d b c : Nat} {h : hp} {cr : Nat → Nat → Option Nat} {Q : hp_Q} (hcr : CR cr)  (g : GI h)    (k : ∀ (h2 : hp) (z0 : Int) , GI h2 → FR [(236, 236, some (0, 0))] h h2 → (-12 ≤ z0 ∧ z0 ≤ 12) → Q (.inl (some (vi z0))) (hp_w h2 cr) b c) : wp (md_xa (L, xs)) d 255 (0, [(0, .ref 236)], [], hp_w h cr, b, c) Q := by
  have F0 : FR [(236, 236, some (0, 0))] h h := FR.refl
  refine wi_aload_n (i := 0) (x := 236) (nx := 1) (r1 := 0) (r2 := 0) (r3 := 0) rfl rfl ?_
  refine wi_iconst (n := 0) (nx := 2) (r1 := 0) (r2 := 0) (r3 := 0) rfl ?_
  refine wr_pf0 (k0 := 236) (x := 0) (bl := 0) (bh := 2) (nx := 5) (r1 := 11) (r2 := 0) (r3 := 0) rfl (by decide) rfl ⟨rfl, rfl⟩ rfl rfl g rfl (by omega) (fun h1 g1 w1 u1 => ?_)
  have F2 := F0.then rfl u1
  refine wi_aload_n (i := 0) (x := 236) (nx := 6) (r1 := 0) (r2 := 0) (r3 := 0) rfl rfl ?_
  refine wr_gr (k0 := 236) (x := 238) (nx := 9) (r1 := 11) (r2 := 13) (r3 := 0) rfl rfl (by decide) rfl ⟨rfl, rfl⟩ rfl ?_
  refine wi_iconst (n := 2) (nx := 10) (r1 := 0) (r2 := 0) (r3 := 0) rfl ?_
  have b3 := gi_b (lo := 0) (hi := 12) g 238 2 rfl
  refine wr_ia (k0 := 238) (a := 2) (f := 2) (x := h 238 2) (nx := 11) (r1 := 0) (r2 := 0) (r3 := 0) rfl (by decide) rfl (by omega) (by omega) (by decide) (u1 238 2 rfl) ?_
  refine wi_aload_n (i := 0) (x := 236) (nx := 12) (r1 := 0) (r2 := 0) (r3 := 0) rfl rfl ?_
  refine wr_gr (k0 := 236) (x := 238) (nx := 15) (r1 := 11) (r2 := 13) (r3 := 0) rfl rfl (by decide) rfl ⟨rfl, rfl⟩ rfl ?_
  refine wi_bipush (n := 73) (nx := 17) (r1 := 0) (r2 := 0) (r3 := 0) rfl (by decide) ?_
  have b4 := gi_b (lo := 0) (hi := 12) g 238 73 rfl
  refine wr_ia (k0 := 238) (a := 73) (f := 73) (x := h 238 73) (nx := 18) (r1 := 0) (r2 := 0) (r3 := 0) rfl (by decide) rfl (by omega) (by omega) (by decide) (u1 238 73 rfl) ?_
  refine wr_sub (nx := 19) (r1 := 0) (r2 := 0) (r3 := 0) rfl (fun e5 (fe5 : e5 = (h 238 2) - (h 238 73)) => ?_)
  refine wi_ireturn (nx := 20) (r1 := 0) (r2 := 0) (r3 := 0) rfl rfl ?_
  exact k h1 e5 g1 F2 (by omega)
-- method 320: Model.waitingChanges()I
set_option maxRecDepth 100000 in
set_option maxHeartbeats 100000000 in
theorem ct_320_236 {L : Nat} {xs : Nat → Int32} {d b c : Nat} {h : hp} {cr : Nat → Nat → Option Nat} {Q : hp_Q} (hcr : CR cr)  (g : GI h)    (k : ∀ (h2 : hp) (z0 : Int) , GI h2 → FR [(236, 236, some (0, 0))] h h2 → (-2147483648 ≤ z0 ∧ z0 ≤ 2147483647) → Q (.inl (some (vi z0))) (hp_w h2 cr) b c) : wp (md_xa (L, xs)) (d + 1) 320 (0, [(0, .ref 236)], [], hp_w h cr, b, c) Q := by
  have F0 : FR [(236, 236, some (0, 0))] h h := FR.refl
  refine wi_aload_n (i := 0) (x := 236) (nx := 1) (r1 := 0) (r2 := 0) (r3 := 0) rfl rfl ?_
  refine wi_iconst (n := 0) (nx := 2) (r1 := 0) (r2 := 0) (r3 := 0) rfl ?_
  refine wr_pf0 (k0 := 236) (x := 0) (bl := 0) (bh := 2) (nx := 5) (r1 := 11) (r2 := 0) (r3 := 0) rfl (by decide) rfl ⟨rfl, rfl⟩ rfl rfl g rfl (by omega) (fun h1 g1 w1 u1 => ?_)
  have F2 := F0.then rfl u1
  refine wi_iconst (n := 0) (nx := 6) (r1 := 0) (r2 := 0) (r3 := 0) rfl ?_
  refine wi_istore_n (i := 1) (e := 0) (lo2 := [(1, vi 0), (0, .ref 236)]) (nx := 7) (r1 := 0) (r2 := 0) (r3 := 0) rfl rfl ?_
  refine wi_iconst (n := 1) (nx := 8) (r1 := 0) (r2 := 0) (r3 := 0) rfl ?_
  refine wi_istore_n (i := 2) (e := 1) (lo2 := [(2, vi 1), (1, vi 0), (0, .ref 236)]) (nx := 9) (r1 := 0) (r2 := 0) (r3 := 0) rfl rfl ?_
  refine wp.lo (lo := [(0, .ref 236), (1, vi 0), (2, vi 1)]) ⟨rfl, rfl, rfl, trivial⟩ rfl ?_
  refine wl_2 (fun x3 x4 h5 => h1 = h5 ∧ ((-2147483648 ≤ x3 ∧ x3 ≤ 2147483647) ∧ (1 ≤ x4 ∧ x4 ≤ 12))) (fun x3 x4 h5 => ((12 : Int) + 1 - x4).toNat) (fun x3 x4 h5 => (9, [(0, .ref 236), (1, vi x3), (2, vi x4)], [], hp_w h5 cr, b, c)) ?_ 0 1 h1 ⟨rfl, (show (-2147483648 ≤ 0 ∧ 0 ≤ 2147483647) ∧ (1 ≤ 1 ∧ 1 ≤ 12) by omega)⟩
  intro x3 x4 h5 ⟨e5, f5⟩ I5
  subst e5
  refine wi_iload_n (i := 2) (e := x4) (nx := 10) (r1 := 0) (r2 := 0) (r3 := 0) rfl rfl ?_
  refine wi_aload_n (i := 0) (x := 236) (nx := 11) (r1 := 0) (r2 := 0) (r3 := 0) rfl rfl ?_
  refine wr_V (k0 := 236) (rest := [vi x4]) (as := [.ref 236]) (nx := 14) (r1 := 321) (r2 := 0) (r3 := 11) rfl rfl rfl (of_decide_eq_true rfl) rfl rfl (by decide) rfl rfl (of_decide_eq_true rfl) (of_decide_eq_true rfl) ?_
  refine wi_aload_n (i := 0) (x := 236) (nx := 1) (r1 := 0) (r2 := 0) (r3 := 0) rfl rfl ?_
  refine wr_gr (k0 := 236) (x := 238) (nx := 4) (r1 := 11) (r2 := 13) (r3 := 0) rfl rfl (by decide) rfl ⟨rfl, rfl⟩ rfl ?_
  refine wi_iconst (n := 2) (nx := 5) (r1 := 0) (r2 := 0) (r3 := 0) rfl ?_
  have b7 := gi_b (lo := 0) (hi := 12) g 238 2 rfl
  refine wr_ia (k0 := 238) (a := 2) (f := 2) (x := h 238 2) (nx := 6) (r1 := 0) (r2 := 0) (r3 := 0) rfl (by decide) rfl (by omega) (by omega) (by decide) (u1 238 2 rfl) ?_
  refine wi_aload_n (i := 0) (x := 236) (nx := 7) (r1 := 0) (r2 := 0) (r3 := 0) rfl rfl ?_
  refine wr_gr (k0 := 236) (x := 238) (nx := 10) (r1 := 11) (r2 := 13) (r3 := 0) rfl rfl (by decide) rfl ⟨rfl, rfl⟩ rfl ?_
  refine wi_bipush (n := 73) (nx := 12) (r1 := 0) (r2 := 0) (r3 := 0) rfl (by decide) ?_
  have b8 := gi_b (lo := 0) (hi := 12) g 238 73 rfl
  refine wr_ia (k0 := 238) (a := 73) (f := 73) (x := h 238 73) (nx := 13) (r1 := 0) (r2 := 0) (r3 := 0) rfl (by decide) rfl (by omega) (by omega) (by decide) (u1 238 73 rfl) ?_
  refine wr_sub (nx := 14) (r1 := 0) (r2 := 0) (r3 := 0) rfl (fun e9 (fe9 : e9 = (h 238 2) - (h 238 73)) => ?_)
  refine wi_ireturn (nx := 15) (r1 := 0) (r2 := 0) (r3 := 0) rfl rfl ?_
  refine wk_i ?_
  refine wi_icmp (cd := .ge) (nx := 17) (r1 := 49) (r2 := 0) (r3 := 0) rfl (by omega) (by omega) (fun (q10 : e9 ≤ x4) => ?_) (fun (q10 : ¬ (e9 ≤ x4)) => ?_)
  ·
    refine wi_iload_n (i := 1) (e := x3) (nx := 50) (r1 := 0) (r2 := 0) (r3 := 0) rfl rfl ?_
    refine wi_ireturn (nx := 51) (r1 := 0) (r2 := 0) (r3 := 0) rfl rfl ?_
    exact k h1 x3 g1 F2 (by omega)
  ·
    refine wi_iload_n (i := 1) (e := x3) (nx := 18) (r1 := 0) (r2 := 0) (r3 := 0) rfl rfl ?_
    refine wi_aload_n (i := 0) (x := 236) (nx := 19) (r1 := 0) (r2 := 0) (r3 := 0) rfl rfl ?_
    refine wi_iload_n (i := 2) (e := x4) (nx := 20) (r1 := 0) (r2 := 0) (r3 := 0) rfl rfl ?_
    refine wr_V (k0 := 236) (rest := [vi x3]) (as := [.ref 236, vi x4]) (nx := 23) (r1 := 322) (r2 := 1) (r3 := 11) rfl rfl rfl (of_decide_eq_true rfl) rfl rfl (by decide) rfl rfl (of_decide_eq_true rfl) (of_decide_eq_true rfl) ?_
    refine wi_aload_n (i := 0) (x := 236) (nx := 1) (r1 := 0) (r2 := 0) (r3 := 0) rfl rfl ?_
    refine wr_gr (k0 := 236) (x := 238) (nx := 4) (r1 := 11) (r2 := 13) (r3 := 0) rfl rfl (by decide) rfl ⟨rfl, rfl⟩ rfl ?_
    refine wi_bipush (n := 31) (nx := 6) (r1 := 0) (r2 := 0) (r3 := 0) rfl (by decide) ?_
    refine wi_aload_n (i := 0) (x := 236) (nx := 7) (r1 := 0) (r2 := 0) (r3 := 0) rfl rfl ?_
    refine wr_gr (k0 := 236) (x := 238) (nx := 10) (r1 := 11) (r2 := 13) (r3 := 0) rfl rfl (by decide) rfl ⟨rfl, rfl⟩ rfl ?_
    refine wi_bipush (n := 73) (nx := 12) (r1 := 0) (r2 := 0) (r3 := 0) rfl (by decide) ?_
    refine wr_ia (k0 := 238) (a := 73) (f := 73) (x := h 238 73) (nx := 13) (r1 := 0) (r2 := 0) (r3 := 0) rfl (by decide) rfl (by omega) (by omega) (by decide) (u1 238 73 rfl) ?_
    refine wr_add (nx := 14) (r1 := 0) (r2 := 0) (r3 := 0) rfl (fun e11 (fe11 : e11 = 31 + (h 238 73)) => ?_)
    refine wi_iload_n (i := 1) (e := x4) (nx := 15) (r1 := 0) (r2 := 0) (r3 := 0) rfl rfl ?_
    refine wr_add (nx := 16) (r1 := 0) (r2 := 0) (r3 := 0) rfl (fun e12 (fe12 : e12 = e11 + x4) => ?_)
    obtain ⟨i13, ei13⟩ : ∃ q : Nat, e12 = (q : Int) := ⟨(e12).toNat, by omega⟩
    have b14 := gi_b (lo := 0) (hi := 4) g 238 i13 (gi_rg 32 11 (fun _ => rfl) (by decide +kernel) (by omega))
    refine wr_ia (k0 := 238) (a := e12) (f := i13) (x := h 238 i13) (nx := 17) (r1 := 0) (r2 := 0) (r3 := 0) rfl (by decide) rfl (by omega) (by omega) (by decide) (u1 238 i13 (fn_a (by omega) fn_0)) ?_
    refine wi_ireturn (nx := 18) (r1 := 0) (r2 := 0) (r3 := 0) rfl rfl ?_
    refine wk_i ?_
    refine wi_aload_n (i := 0) (x := 236) (nx := 24) (r1 := 0) (r2 := 0) (r3 := 0) rfl rfl ?_
    refine wi_iload_n (i := 2) (e := x4) (nx := 25) (r1 := 0) (r2 := 0) (r3 := 0) rfl rfl ?_
    refine wi_iconst (n := 1) (nx := 26) (r1 := 0) (r2 := 0) (r3 := 0) rfl ?_
    refine wr_sub (nx := 27) (r1 := 0) (r2 := 0) (r3 := 0) rfl (fun e15 (fe15 : e15 = x4 - 1) => ?_)
    refine wr_V (k0 := 236) (rest := [vi (h 238 i13), vi x3]) (as := [.ref 236, vi e15]) (nx := 30) (r1 := 322) (r2 := 1) (r3 := 11) rfl rfl rfl (of_decide_eq_true rfl) rfl rfl (by decide) rfl rfl (of_decide_eq_true rfl) (of_decide_eq_true rfl) ?_
    refine wi_aload_n (i := 0) (x := 236) (nx := 1) (r1 := 0) (r2 := 0) (r3 := 0) rfl rfl ?_
    refine wr_gr (k0 := 236) (x := 238) (nx := 4) (r1 := 11) (r2 := 13) (r3 := 0) rfl rfl (by decide) rfl ⟨rfl, rfl⟩ rfl ?_
    refine wi_bipush (n := 31) (nx := 6) (r1 := 0) (r2 := 0) (r3 := 0) rfl (by decide) ?_
    refine wi_aload_n (i := 0) (x := 236) (nx := 7) (r1 := 0) (r2 := 0) (r3 := 0) rfl rfl ?_
    refine wr_gr (k0 := 236) (x := 238) (nx := 10) (r1 := 11) (r2 := 13) (r3 := 0) rfl rfl (by decide) rfl ⟨rfl, rfl⟩ rfl ?_
    refine wi_bipush (n := 73) (nx := 12) (r1 := 0) (r2 := 0) (r3 := 0) rfl (by decide) ?_
    refine wr_ia (k0 := 238) (a := 73) (f := 73) (x := h 238 73) (nx := 13) (r1 := 0) (r2 := 0) (r3 := 0) rfl (by decide) rfl (by omega) (by omega) (by decide) (u1 238 73 rfl) ?_
    refine wr_add (nx := 14) (r1 := 0) (r2 := 0) (r3 := 0) rfl (fun e16 (fe16 : e16 = 31 + (h 238 73)) => ?_)
    refine wi_iload_n (i := 1) (e := e15) (nx := 15) (r1 := 0) (r2 := 0) (r3 := 0) rfl rfl ?_
    refine wr_add (nx := 16) (r1 := 0) (r2 := 0) (r3 := 0) rfl (fun e17 (fe17 : e17 = e16 + e15) => ?_)
    obtain ⟨i18, ei18⟩ : ∃ q : Nat, e17 = (q : Int) := ⟨(e17).toNat, by omega⟩
    have b19 := gi_b (lo := 0) (hi := 4) g 238 i18 (gi_rg 31 11 (fun _ => rfl) (by decide +kernel) (by omega))
    refine wr_ia (k0 := 238) (a := e17) (f := i18) (x := h 238 i18) (nx := 17) (r1 := 0) (r2 := 0) (r3 := 0) rfl (by decide) rfl (by omega) (by omega) (by decide) (u1 238 i18 (fn_a (by omega) fn_0)) ?_
    refine wi_ireturn (nx := 18) (r1 := 0) (r2 := 0) (r3 := 0) rfl rfl ?_
    refine wk_i ?_
    refine wi_icmp (cd := .eq) (nx := 33) (r1 := 37) (r2 := 0) (r3 := 0) rfl (by omega) (by omega) (fun (q20 : (h 238 i13) = (h 238 i18)) => ?_) (fun (q20 : ¬ ((h 238 i13) = (h 238 i18))) => ?_)
    ·
      refine wi_iconst (n := 0) (nx := 38) (r1 := 0) (r2 := 0) (r3 := 0) rfl ?_
      refine wi_S (rest := [vi x3]) (as := [vi 0]) (nx := 41) (r1 := 207) (r2 := 17) (r3 := 0) rfl rfl rfl (of_decide_eq_true rfl) rfl rfl (of_decide_eq_true rfl) (of_decide_eq_true rfl) ?_
      refine wi_iload_n (i := 0) (e := 0) (nx := 1) (r1 := 0) (r2 := 0) (r3 := 0) rfl rfl ?_
      refine wi_if (cd := .eq) (nx := 4) (r1 := 8) (r2 := 0) (r3 := 0) rfl (by omega) (fun (q21 : 0 = 0) => ?_) (fun (q21 : ¬ (0 = 0)) => by exfalso; omega)
      refine wi_iconst (n := 0) (nx := 9) (r1 := 0) (r2 := 0) (r3 := 0) rfl ?_
      refine wi_ireturn (nx := 10) (r1 := 0) (r2 := 0) (r3 := 0) rfl rfl ?_
      refine wk_i ?_
      refine wr_add (nx := 42) (r1 := 0) (r2 := 0) (r3 := 0) rfl (fun e22 (fe22 : e22 = x3 + 0) => ?_)
      refine wi_istore_n (i := 1) (e := e22) (lo2 := [(1, vi e22), (0, .ref 236), (2, vi x4)]) (nx := 43) (r1 := 0) (r2 := 0) (r3 := 0) rfl rfl ?_
      refine wr_iinc (i := 2) (n := 1) (v := x4) (fun e23 => [(2, vi e23), (1, vi e22), (0, .ref 236)]) (nx := 46) (r1 := 0) (r2 := 0) (r3 := 0) rfl rfl (fun _ => rfl) (fun e23 (fe23 : e23 = x4 + 1) => ?_)
      refine wi_goto (nx := 49) (r1 := 9) (r2 := 0) (r3 := 0) rfl ?_
      refine wp.lo (lo := [(0, .ref 236), (1, vi e22), (2, vi e23)]) ⟨rfl, rfl, rfl, trivial⟩ rfl ?_
      exact I5 e22 e23 h1 ⟨rfl, (show (-2147483648 ≤ e22 ∧ e22 ≤ 2147483647) ∧ (1 ≤ e23 ∧ e23 ≤ 12) by omega)⟩ (show ((12 : Int) + 1 - e23).toNat < ((12 : Int) + 1 - x4).toNat by omega)
    ·
      refine wi_iconst (n := 1) (nx := 34) (r1 := 0) (r2 := 0) (r3 := 0) rfl ?_
      refine wi_goto (nx := 37) (r1 := 38) (r2 := 0) (r3 := 0) rfl ?_
      refine wi_S (rest := [vi x3]) (as := [vi 1]) (nx := 41) (r1 := 207) (r2 := 17) (r3 := 0) rfl rfl rfl (of_decide_eq_true rfl) rfl rfl (of_decide_eq_true rfl) (of_decide_eq_true rfl) ?_
      refine wi_iload_n (i := 0) (e := 1) (nx := 1) (r1 := 0) (r2 := 0) (r3 := 0) rfl rfl ?_
      refine wi_if (cd := .eq) (nx := 4) (r1 := 8) (r2 := 0) (r3 := 0) rfl (by omega) (fun (q21 : 1 = 0) => by exfalso; omega) (fun (q21 : ¬ (1 = 0)) => ?_)
      refine wi_iconst (n := 1) (nx := 5) (r1 := 0) (r2 := 0) (r3 := 0) rfl ?_
      refine wi_goto (nx := 8) (r1 := 9) (r2 := 0) (r3 := 0) rfl ?_
      refine wi_ireturn (nx := 10) (r1 := 0) (r2 := 0) (r3 := 0) rfl rfl ?_
      refine wk_i ?_
      refine wr_addW (nx := 42) (r1 := 0) (r2 := 0) (r3 := 0) rfl (fun e22 (fe22 : -2147483648 ≤ e22 ∧ e22 ≤ 2147483647) => ?_)
      refine wi_istore_n (i := 1) (e := e22) (lo2 := [(1, vi e22), (0, .ref 236), (2, vi x4)]) (nx := 43) (r1 := 0) (r2 := 0) (r3 := 0) rfl rfl ?_
      refine wr_iinc (i := 2) (n := 1) (v := x4) (fun e23 => [(2, vi e23), (1, vi e22), (0, .ref 236)]) (nx := 46) (r1 := 0) (r2 := 0) (r3 := 0) rfl rfl (fun _ => rfl) (fun e23 (fe23 : e23 = x4 + 1) => ?_)
      refine wi_goto (nx := 49) (r1 := 9) (r2 := 0) (r3 := 0) rfl ?_
      refine wp.lo (lo := [(0, .ref 236), (1, vi e22), (2, vi e23)]) ⟨rfl, rfl, rfl, trivial⟩ rfl ?_
      exact I5 e22 e23 h1 ⟨rfl, (show (-2147483648 ≤ e22 ∧ e22 ≤ 2147483647) ∧ (1 ≤ e23 ∧ e23 ≤ 12) by omega)⟩ (show ((12 : Int) + 1 - e23).toNat < ((12 : Int) + 1 - x4).toNat by omega)
-- method 287: Model.waits()I
set_option maxRecDepth 100000 in
set_option maxHeartbeats 100000000 in
theorem ct_287_236 {L : Nat} {xs : Nat → Int32} {d b c : Nat} {h : hp} {cr : Nat → Nat → Option Nat} {Q : hp_Q} (hcr : CR cr)  (g : GI h)   (pp0 : h 238 98 + h 238 99 + h 238 100 + h 238 101 + h 238 102 + h 238 106 = h 238 73) (pp1 : h 238 73 ≤ h 238 2) (pp2 : h 238 119 ≤ h 238 67) (pp3 : h 238 69 ≤ h 238 5) (pp4 : h 238 2 ≤ 12 * h 238 5) (xq0 : GPS h) (gp0 : GPH h) (k : ∀ (h2 : hp) (z0 : Int) , GI h2 → FR [(236, 236, some (0, 0)), (236, 236, some (22, 22)), (238, 238, some (67, 67)), (242, 242, some (0, 999)), (242, 242, some (1000, 1199))] h h2 → (-1 ≤ z0 ∧ z0 ≤ 9999) → (h2 238 98 + h2 238 99 + h2 238 100 + h2 238 101 + h2 238 102 + h2 238 106 = h2 238 73) → (h2 238 73 ≤ h2 238 2) → (h2 238 119 ≤ h2 238 67) → (h2 238 69 ≤ h2 238 5) → (h2 238 2 ≤ 12 * h2 238 5) → (GPS h2) → (GPH h2) → Q (.inl (some (vi z0))) (hp_w h2 cr) b c) : wp (md_xa (L, xs)) (d + 1) 287 (0, [(0, .ref 236)], [], hp_w h cr, b, c) Q := by
  have F0 : FR [(236, 236, some (0, 0)), (236, 236, some (22, 22)), (238, 238, some (67, 67)), (242, 242, some (0, 999)), (242, 242, some (1000, 1199))] h h := FR.refl
  have b1 := gi_b (lo := 0) (hi := 6) g 238 98 rfl
  have b2 := gi_b (lo := 0) (hi := 6) g 238 99 rfl
  have b3 := gi_b (lo := 0) (hi := 6) g 238 100 rfl
  have b4 := gi_b (lo := 0) (hi := 6) g 238 101 rfl
  have b5 := gi_b (lo := 0) (hi := 3) g 238 102 rfl
  have b6 := gi_b (lo := 0) (hi := 12) g 238 106 rfl
  have b7 := gi_b (lo := 0) (hi := 12) g 238 73 rfl
  have b8 := gi_b (lo := 0) (hi := 12) g 238 2 rfl
  have b9 := gi_b (lo := 0) (hi := 9999) g 238 119 rfl
  have b10 := gi_b (lo := 0) (hi := 9999) g 238 67 rfl
  have b11 := gi_b (lo := 0) (hi := 9) g 238 69 rfl
  have b12 := gi_b (lo := 0) (hi := 9) g 238 5 rfl
  refine wi_aload_n (i := 0) (x := 236) (nx := 1) (r1 := 0) (r2 := 0) (r3 := 0) rfl rfl ?_
  refine wi_iconst (n := 0) (nx := 2) (r1 := 0) (r2 := 0) (r3 := 0) rfl ?_
  refine wr_pf0 (k0 := 236) (x := 0) (bl := 0) (bh := 2) (nx := 5) (r1 := 11) (r2 := 0) (r3 := 0) rfl (by decide) rfl ⟨rfl, rfl⟩ rfl rfl g rfl (by omega) (fun h13 g13 w13 u13 => ?_)
  have F14 := F0.then rfl u13
  refine wi_aload_n (i := 0) (x := 236) (nx := 6) (r1 := 0) (r2 := 0) (r3 := 0) rfl rfl ?_
  refine wr_gr (k0 := 236) (x := 238) (nx := 9) (r1 := 11) (r2 := 13) (r3 := 0) rfl rfl (by decide) rfl ⟨rfl, rfl⟩ rfl ?_
  refine wi_bipush (n := 67) (nx := 11) (r1 := 0) (r2 := 0) (r3 := 0) rfl (by decide) ?_
  refine wr_ia (k0 := 238) (a := 67) (f := 67) (x := h 238 67) (nx := 12) (r1 := 0) (r2 := 0) (r3 := 0) rfl (by decide) rfl (by omega) (by omega) (by decide) (u13 238 67 rfl) ?_
  refine wi_sipush (n := 9999) (nx := 15) (r1 := 0) (r2 := 0) (r3 := 0) rfl (by decide) ?_
  refine wi_icmp (cd := .ne) (nx := 18) (r1 := 20) (r2 := 0) (r3 := 0) rfl (by omega) (by omega) (fun (q15 : (h 238 67) ≠ 9999) => ?_) (fun (q15 : ¬ ((h 238 67) ≠ 9999)) => ?_)
  ·
    refine wi_aload_n (i := 0) (x := 236) (nx := 21) (r1 := 0) (r2 := 0) (r3 := 0) rfl rfl ?_
    refine wr_V (k0 := 236) (rest := []) (as := [.ref 236]) (nx := 24) (r1 := 278) (r2 := 0) (r3 := 11) rfl rfl rfl (of_decide_eq_true rfl) rfl rfl (by decide) rfl rfl (of_decide_eq_true rfl) (of_decide_eq_true rfl) ?_
    have e17 : h13 238 98 = h 238 98 := (u13 238 98 rfl)
    have e18 : h13 238 99 = h 238 99 := (u13 238 99 rfl)
    have e19 : h13 238 100 = h 238 100 := (u13 238 100 rfl)
    have e20 : h13 238 101 = h 238 101 := (u13 238 101 rfl)
    have e21 : h13 238 102 = h 238 102 := (u13 238 102 rfl)
    have e22 : h13 238 106 = h 238 106 := (u13 238 106 rfl)
    have e23 : h13 238 73 = h 238 73 := (u13 238 73 rfl)
    have e24 : h13 238 2 = h 238 2 := (u13 238 2 rfl)
    have e25 : h13 238 119 = h 238 119 := (u13 238 119 rfl)
    have e26 : h13 238 67 = h 238 67 := (u13 238 67 rfl)
    have e27 : h13 238 69 = h 238 69 := (u13 238 69 rfl)
    have e28 : h13 238 5 = h 238 5 := (u13 238 5 rfl)
    have gs29 := GPS.fr u13 rfl xq0
    have gp30 := GPH.fr u13 rfl gp0
    refine ct_278_236 hcr  g13   (show (h13 238 98) + (h13 238 99) + (h13 238 100) + (h13 238 101) + (h13 238 102) + (h13 238 106) = (h13 238 73) by omega) (show (h13 238 73) ≤ (h13 238 2) by omega) (show (h13 238 119) ≤ (h13 238 67) by omega) (show (h13 238 69) ≤ (h13 238 5) by omega) (show (h13 238 2) ≤ 12 * (h13 238 5) by omega) gs29 gp30 (fun h16 g16 u16 (p16_0 : 1 ≤ (h16 236 22)) y16_0 y16_1 => ?_)
    have F31 := F14.then (by decide +kernel) u16
    have b32 := gi_b (lo := 0) (hi := 6) g16 236 22 rfl
    refine wk_n ?_
    refine wi_aload_n (i := 0) (x := 236) (nx := 25) (r1 := 0) (r2 := 0) (r3 := 0) rfl rfl ?_
    refine wr_gr (k0 := 236) (x := 238) (nx := 28) (r1 := 11) (r2 := 13) (r3 := 0) rfl rfl (by decide) rfl ⟨rfl, rfl⟩ rfl ?_
    refine wi_bipush (n := 67) (nx := 30) (r1 := 0) (r2 := 0) (r3 := 0) rfl (by decide) ?_
    refine wi_dup2 (nx := 31) (r1 := 0) (r2 := 0) (r3 := 0) rfl rfl rfl ?_
    refine wr_ia (k0 := 238) (a := 67) (f := 67) (x := h 238 67) (nx := 32) (r1 := 0) (r2 := 0) (r3 := 0) rfl (by decide) rfl (by omega) (by omega) (by decide) ((u16 238 67 rfl).trans (u13 238 67 rfl)) ?_
    refine wi_iconst (n := 1) (nx := 33) (r1 := 0) (r2 := 0) (r3 := 0) rfl ?_
    refine wr_add (nx := 34) (r1 := 0) (r2 := 0) (r3 := 0) rfl (fun e33 (fe33 : e33 = (h 238 67) + 1) => ?_)
    refine wr_is (k0 := 238) (a := 67) (f := 67) (x := e33) (bl := 0) (bh := 9999) (nx := 35) (r1 := 0) (r2 := 0) (r3 := 0) rfl (by decide) rfl (by omega) (by omega) (by decide) g16 rfl (by omega) (fun h34 g34 w34 u34 => ?_)
    have F35 := F31.then rfl u34
    refine wi_aload_n (i := 0) (x := 236) (nx := 36) (r1 := 0) (r2 := 0) (r3 := 0) rfl rfl ?_
    refine wr_gr (k0 := 236) (x := 238) (nx := 39) (r1 := 11) (r2 := 13) (r3 := 0) rfl rfl (by decide) rfl ⟨rfl, rfl⟩ rfl ?_
    refine wi_bipush (n := 67) (nx := 41) (r1 := 0) (r2 := 0) (r3 := 0) rfl (by decide) ?_
    refine wr_ia (k0 := 238) (a := 67) (f := 67) (x := e33) (nx := 42) (r1 := 0) (r2 := 0) (r3 := 0) rfl (by decide) rfl (by omega) (by omega) (by decide) w34 ?_
    refine wi_ireturn (nx := 43) (r1 := 0) (r2 := 0) (r3 := 0) rfl rfl ?_
    have e36 : h34 238 98 = h 238 98 := ((u34 238 98 rfl).trans ((u16 238 98 rfl).trans (u13 238 98 rfl)))
    have e37 : h34 238 99 = h 238 99 := ((u34 238 99 rfl).trans ((u16 238 99 rfl).trans (u13 238 99 rfl)))
    have e38 : h34 238 100 = h 238 100 := ((u34 238 100 rfl).trans ((u16 238 100 rfl).trans (u13 238 100 rfl)))
    have e39 : h34 238 101 = h 238 101 := ((u34 238 101 rfl).trans ((u16 238 101 rfl).trans (u13 238 101 rfl)))
    have e40 : h34 238 102 = h 238 102 := ((u34 238 102 rfl).trans ((u16 238 102 rfl).trans (u13 238 102 rfl)))
    have e41 : h34 238 106 = h 238 106 := ((u34 238 106 rfl).trans ((u16 238 106 rfl).trans (u13 238 106 rfl)))
    have e42 : h34 238 73 = h 238 73 := ((u34 238 73 rfl).trans ((u16 238 73 rfl).trans (u13 238 73 rfl)))
    have e43 : h34 238 2 = h 238 2 := ((u34 238 2 rfl).trans ((u16 238 2 rfl).trans (u13 238 2 rfl)))
    have e44 : h34 238 119 = h 238 119 := ((u34 238 119 rfl).trans ((u16 238 119 rfl).trans (u13 238 119 rfl)))
    have e45 : h34 238 67 = e33 := w34
    have e46 : h34 238 69 = h 238 69 := ((u34 238 69 rfl).trans ((u16 238 69 rfl).trans (u13 238 69 rfl)))
    have e47 : h34 238 5 = h 238 5 := ((u34 238 5 rfl).trans ((u16 238 5 rfl).trans (u13 238 5 rfl)))
    have gs48 := GPS.fr u34 rfl y16_0
    have gp49 := GPH.fr u34 rfl y16_1
    exact k h34 e33 g34 F35 (by omega) (show (h34 238 98) + (h34 238 99) + (h34 238 100) + (h34 238 101) + (h34 238 102) + (h34 238 106) = (h34 238 73) by omega) (show (h34 238 73) ≤ (h34 238 2) by omega) (show (h34 238 119) ≤ (h34 238 67) by omega) (show (h34 238 69) ≤ (h34 238 5) by omega) (show (h34 238 2) ≤ 12 * (h34 238 5) by omega) gs48 gp49
  ·
    refine wi_iconst (n := (-1)) (nx := 19) (r1 := 0) (r2 := 0) (r3 := 0) rfl ?_
    refine wi_ireturn (nx := 20) (r1 := 0) (r2 := 0) (r3 := 0) rfl rfl ?_
    have e16 : h13 238 98 = h 238 98 := (u13 238 98 rfl)
    have e17 : h13 238 99 = h 238 99 := (u13 238 99 rfl)
    have e18 : h13 238 100 = h 238 100 := (u13 238 100 rfl)
    have e19 : h13 238 101 = h 238 101 := (u13 238 101 rfl)
    have e20 : h13 238 102 = h 238 102 := (u13 238 102 rfl)
    have e21 : h13 238 106 = h 238 106 := (u13 238 106 rfl)
    have e22 : h13 238 73 = h 238 73 := (u13 238 73 rfl)
    have e23 : h13 238 2 = h 238 2 := (u13 238 2 rfl)
    have e24 : h13 238 119 = h 238 119 := (u13 238 119 rfl)
    have e25 : h13 238 67 = h 238 67 := (u13 238 67 rfl)
    have e26 : h13 238 69 = h 238 69 := (u13 238 69 rfl)
    have e27 : h13 238 5 = h 238 5 := (u13 238 5 rfl)
    have gs28 := GPS.fr u13 rfl xq0
    have gp29 := GPH.fr u13 rfl gp0
    exact k h13 (-1) g13 F14 (by omega) (show (h13 238 98) + (h13 238 99) + (h13 238 100) + (h13 238 101) + (h13 238 102) + (h13 238 106) = (h13 238 73) by omega) (show (h13 238 73) ≤ (h13 238 2) by omega) (show (h13 238 119) ≤ (h13 238 67) by omega) (show (h13 238 69) ≤ (h13 238 5) by omega) (show (h13 238 2) ≤ 12 * (h13 238 5) by omega) gs28 gp29
