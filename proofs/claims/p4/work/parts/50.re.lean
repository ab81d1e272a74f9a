-- method 282: Model.leaves(I)I
set_option maxRecDepth 100000 in
set_option maxHeartbeats 100000000 in
theorem ct_282_236_L0 {L : Nat} {xs : Nat → Int32} {d b c : Nat} {h : hp} {cr : Nat → Nat → Option Nat} {Q : hp_Q} (hcr : CR cr)  (g : GI h)   (pp0 : h 238 98 + h 238 99 + h 238 100 + h 238 101 + h 238 102 + h 238 106 = h 238 73) (pp1 : h 238 73 ≤ h 238 2) (pp2 : h 238 119 ≤ h 238 67) (pp3 : h 238 69 ≤ h 238 5) (pp4 : h 238 2 ≤ 12 * h 238 5) (pp5 : 1 ≤ h 238 98) (pp6 : h 238 67 ≤ 9998) (pp7 : h 238 102 ≤ 2 ∨ h 238 (43 + (h 238 74).toNat) ≤ 0) (k : ∀ (h2 : hp) (z0 : Int) , GI h2 → FR [(238, 238, some (43, 54)), (238, 238, some (55, 66)), (238, 238, some (67, 67)), (238, 238, some (68, 68)), (238, 238, some (69, 69)), (238, 238, some (70, 70)), (238, 238, some (71, 71)), (238, 238, some (72, 72)), (238, 238, some (74, 78)), (238, 238, some (98, 98)), (238, 238, some (102, 102)), (238, 238, some (103, 105)), (238, 238, some (106, 106)), (238, 238, some (107, 118)), (238, 238, some (119, 119)), (238, 238, some (120, 196)), (238, 238, some (121, 197)), (238, 238, some (122, 198)), (238, 238, some (123, 199))] h h2 → (0 ≤ z0 ∧ z0 ≤ 11) → (h2 238 98 + h2 238 99 + h2 238 100 + h2 238 101 + h2 238 102 + h2 238 106 = h2 238 73) → (h2 238 73 ≤ h2 238 2) → (h2 238 119 ≤ h2 238 67) → (h2 238 69 ≤ h2 238 5) → (h2 238 2 ≤ 12 * h2 238 5) → Q (.inl (some (vi z0))) (hp_w h2 cr) b c) : wp (md_xa (L, xs)) (d + 2) 282 (0, [(0, .ref 236), (1, vi 0)], [], hp_w h cr, b, c) Q := by
  have F0 : FR [(238, 238, some (43, 54)), (238, 238, some (55, 66)), (238, 238, some (67, 67)), (238, 238, some (68, 68)), (238, 238, some (69, 69)), (238, 238, some (70, 70)), (238, 238, some (71, 71)), (238, 238, some (72, 72)), (238, 238, some (74, 78)), (238, 238, some (98, 98)), (238, 238, some (102, 102)), (238, 238, some (103, 105)), (238, 238, some (106, 106)), (238, 238, some (107, 118)), (238, 238, some (119, 119)), (238, 238, some (120, 196)), (238, 238, some (121, 197)), (238, 238, some (122, 198)), (238, 238, some (123, 199))] h h := FR.refl
  have b1 := gi_b (lo := 0) (hi := 6) g 238 98 rfl
  have b2 := gi_b (lo := 0) (hi := 6) g 238 99 rfl
  have b3 := gi_b (lo := 0) (hi := 6) g 238 100 rfl
  have b4 := gi_b (lo := 0) (hi := 6) g 238 101 rfl
  have b5 := gi_b (lo := 0) (hi := 3) g 238 102 rfl
  have b6 := gi_b (lo := 0) (hi := 12) g 238 106 rfl
  have b7 := gi_b (lo := 0) (hi := 12) g 238 73 rfl
  have b8 := gi_b (lo := 0) (hi := 12) g 238 2 rfl
  have b9 := gi_b (lo := 0) (hi := 9999) g 238 119 rfl
  have b10 := gi_b (lo := 0) (hi := 9999) g 238 67 rfl
  have b11 := gi_b (lo := 0) (hi := 9) g 238 69 rfl
  have b12 := gi_b (lo := 0) (hi := 9) g 238 5 rfl
  have b13 := gi_b (lo := 0) (hi := 11) g 238 74 rfl
  obtain ⟨i14, ei14⟩ : ∃ q : Nat, (43 + h 238 74) = (q : Int) := ⟨(43 + h 238 74).toNat, by omega⟩
  have b15 := gi_b (lo := 0) (hi := 999) g 238 i14 (gi_rg 43 12 (fun _ => rfl) (by decide +kernel) (by omega))
  have e16 : h 238 (43 + (h 238 74).toNat) = h 238 i14 := by rw [show 43 + (h 238 74).toNat = i14 by omega]
  refine wi_aload_n (i := 0) (x := 236) (nx := 1) (r1 := 0) (r2 := 0) (r3 := 0) rfl rfl ?_
  refine wi_iload_n (i := 1) (e := 0) (nx := 2) (r1 := 0) (r2 := 0) (r3 := 0) rfl rfl ?_
  refine wi_iconst (n := 0) (nx := 3) (r1 := 0) (r2 := 0) (r3 := 0) rfl ?_
  refine wr_V (k0 := 236) (rest := []) (as := [.ref 236, vi 0, vi 0]) (nx := 6) (r1 := 258) (r2 := 2) (r3 := 11) rfl rfl rfl (of_decide_eq_true rfl) rfl rfl (by decide) rfl rfl (of_decide_eq_true rfl) (of_decide_eq_true rfl) ?_
  refine wi_aload_n (i := 0) (x := 236) (nx := 1) (r1 := 0) (r2 := 0) (r3 := 0) rfl rfl ?_
  refine wr_gr (k0 := 236) (x := 238) (nx := 4) (r1 := 11) (r2 := 13) (r3 := 0) rfl rfl (by decide) rfl ⟨rfl, rfl⟩ rfl ?_
  refine wi_bipush (n := 74) (nx := 6) (r1 := 0) (r2 := 0) (r3 := 0) rfl (by decide) ?_
  refine wi_bipush (n := 6) (nx := 8) (r1 := 0) (r2 := 0) (r3 := 0) rfl (by decide) ?_
  refine wi_iload_n (i := 1) (e := 0) (nx := 9) (r1 := 0) (r2 := 0) (r3 := 0) rfl rfl ?_
  refine wr_mulL (0) (nx := 10) (r1 := 0) (r2 := 0) (r3 := 0) rfl (by decide) ?_
  refine wr_addL (74) (nx := 11) (r1 := 0) (r2 := 0) (r3 := 0) rfl (by decide) ?_
  refine wi_iload_n (i := 2) (e := 0) (nx := 12) (r1 := 0) (r2 := 0) (r3 := 0) rfl rfl ?_
  refine wr_addL (74) (nx := 13) (r1 := 0) (r2 := 0) (r3 := 0) rfl (by decide) ?_
  refine wr_ia (k0 := 238) (a := 74) (f := 74) (x := h 238 74) (nx := 14) (r1 := 0) (r2 := 0) (r3 := 0) rfl (by decide) rfl (by omega) (by omega) (by decide) rfl ?_
  refine wi_ireturn (nx := 15) (r1 := 0) (r2 := 0) (r3 := 0) rfl rfl ?_
  refine wk_i ?_
  refine wi_istore_n (i := 2) (e := h 238 74) (lo2 := [(2, vi (h 238 74)), (0, .ref 236), (1, vi 0)]) (nx := 7) (r1 := 0) (r2 := 0) (r3 := 0) rfl rfl ?_
  refine wi_aload_n (i := 0) (x := 236) (nx := 8) (r1 := 0) (r2 := 0) (r3 := 0) rfl rfl ?_
  refine wr_gr (k0 := 236) (x := 238) (nx := 11) (r1 := 11) (r2 := 13) (r3 := 0) rfl rfl (by decide) rfl ⟨rfl, rfl⟩ rfl ?_
  refine wi_bipush (n := 98) (nx := 13) (r1 := 0) (r2 := 0) (r3 := 0) rfl (by decide) ?_
  refine wi_iload_n (i := 1) (e := 0) (nx := 14) (r1 := 0) (r2 := 0) (r3 := 0) rfl rfl ?_
  refine wr_addL (98) (nx := 15) (r1 := 0) (r2 := 0) (r3 := 0) rfl (by decide) ?_
  refine wi_dup2 (nx := 16) (r1 := 0) (r2 := 0) (r3 := 0) rfl rfl rfl ?_
  refine wr_ia (k0 := 238) (a := 98) (f := 98) (x := h 238 98) (nx := 17) (r1 := 0) (r2 := 0) (r3 := 0) rfl (by decide) rfl (by omega) (by omega) (by decide) rfl ?_
  refine wi_iconst (n := 1) (nx := 18) (r1 := 0) (r2 := 0) (r3 := 0) rfl ?_
  refine wr_sub (nx := 19) (r1 := 0) (r2 := 0) (r3 := 0) rfl (fun e17 (fe17 : e17 = (h 238 98) - 1) => ?_)
  refine wr_is (k0 := 238) (a := 98) (f := 98) (x := e17) (bl := 0) (bh := 6) (nx := 20) (r1 := 0) (r2 := 0) (r3 := 0) rfl (by decide) rfl (by omega) (by omega) (by decide) g rfl (by omega) (fun h18 g18 w18 u18 => ?_)
  have F19 := F0.then rfl u18
  refine wi_iconst (n := 0) (nx := 21) (r1 := 0) (r2 := 0) (r3 := 0) rfl ?_
  refine wi_istore_n (i := 3) (e := 0) (lo2 := [(3, vi 0), (2, vi (h 238 74)), (0, .ref 236), (1, vi 0)]) (nx := 22) (r1 := 0) (r2 := 0) (r3 := 0) rfl rfl ?_
  refine wp.lo (lo := [(0, .ref 236), (1, vi 0), (2, vi (h 238 74)), (3, vi 0)]) ⟨rfl, rfl, rfl, rfl, trivial⟩ rfl ?_
  refine wl_1 (fun x20 h21 => GI h21 ∧ FR [(238, 238, some (43, 54)), (238, 238, some (55, 66)), (238, 238, some (67, 67)), (238, 238, some (68, 68)), (238, 238, some (69, 69)), (238, 238, some (70, 70)), (238, 238, some (71, 71)), (238, 238, some (72, 72)), (238, 238, some (74, 78)), (238, 238, some (98, 98)), (238, 238, some (102, 102)), (238, 238, some (103, 105)), (238, 238, some (106, 106)), (238, 238, some (107, 118)), (238, 238, some (119, 119)), (238, 238, some (120, 196)), (238, 238, some (121, 197)), (238, 238, some (122, 198)), (238, 238, some (123, 199))] h h21 ∧ FR [(238, 238, some (74, 78))] h18 h21 ∧ ((0 ≤ x20 ∧ x20 ≤ 5))) (fun x20 h21 => ((5 : Int) + 1 - x20).toNat) (fun x20 h21 => (22, [(0, .ref 236), (1, vi 0), (2, vi (h 238 74)), (3, vi x20)], [], hp_w h21 cr, b, c)) ?_ 0 h18 ⟨g18, F19, FR.refl, (show (0 ≤ 0 ∧ 0 ≤ 5) by omega)⟩
  intro x20 h21 ⟨g21, F22, u21, f21⟩ I21
  refine wi_iload_n (i := 3) (e := x20) (nx := 23) (r1 := 0) (r2 := 0) (r3 := 0) rfl rfl ?_
  refine wi_aload_n (i := 0) (x := 236) (nx := 24) (r1 := 0) (r2 := 0) (r3 := 0) rfl rfl ?_
  refine wr_gr (k0 := 236) (x := 238) (nx := 27) (r1 := 11) (r2 := 13) (r3 := 0) rfl rfl (by decide) rfl ⟨rfl, rfl⟩ rfl ?_
  refine wi_bipush (n := 98) (nx := 29) (r1 := 0) (r2 := 0) (r3 := 0) rfl (by decide) ?_
  refine wi_iload_n (i := 1) (e := 0) (nx := 30) (r1 := 0) (r2 := 0) (r3 := 0) rfl rfl ?_
  refine wr_addL (98) (nx := 31) (r1 := 0) (r2 := 0) (r3 := 0) rfl (by decide) ?_
  refine wr_ia (k0 := 238) (a := 98) (f := 98) (x := e17) (nx := 32) (r1 := 0) (r2 := 0) (r3 := 0) rfl (by decide) rfl (by omega) (by omega) (by decide) ((u21 238 98 rfl).trans w18) ?_
  refine wi_icmp (cd := .ge) (nx := 35) (r1 := 71) (r2 := 0) (r3 := 0) rfl (by omega) (by omega) (fun (q23 : e17 ≤ x20) => ?_) (fun (q23 : ¬ (e17 ≤ x20)) => ?_)
  ·
    refine wi_aload_n (i := 0) (x := 236) (nx := 72) (r1 := 0) (r2 := 0) (r3 := 0) rfl rfl ?_
    refine wi_iload_n (i := 2) (e := h 238 74) (nx := 73) (r1 := 0) (r2 := 0) (r3 := 0) rfl rfl ?_
    refine wr_V (k0 := 236) (rest := []) (as := [.ref 236, vi (h 238 74)]) (nx := 76) (r1 := 283) (r2 := 1) (r3 := 11) rfl rfl rfl (of_decide_eq_true rfl) rfl rfl (by decide) rfl rfl (of_decide_eq_true rfl) (of_decide_eq_true rfl) ?_
    have e25 : h21 238 67 = h 238 67 := ((u21 238 67 rfl).trans (u18 238 67 rfl))
    have e26 : h21 238 119 = h 238 119 := ((u21 238 119 rfl).trans (u18 238 119 rfl))
    have e27 : h21 238 69 = h 238 69 := ((u21 238 69 rfl).trans (u18 238 69 rfl))
    have e28 : h21 238 5 = h 238 5 := ((u21 238 5 rfl).trans (u18 238 5 rfl))
    refine ct_283_236 hcr  g21 (h 238 74) (by omega) (show (h21 238 67) ≤ 9998 by omega) (show (h21 238 119) ≤ (h21 238 67) by omega) (show (h21 238 69) ≤ (h21 238 5) by omega) (show 1 ≤ (h21 238 5) by omega) (fun h24 g24 u24 (p24_0 : (h24 238 119) ≤ (h24 238 67)) (p24_1 : (h24 238 69) ≤ (h24 238 5)) => ?_)
    have F29 := F22.then (by decide +kernel) u24
    have b30 := gi_b (lo := 0) (hi := 9999) g24 238 119 rfl
    have b31 := gi_b (lo := 0) (hi := 9999) g24 238 67 rfl
    have b32 := gi_b (lo := 0) (hi := 9) g24 238 69 rfl
    have e33 : h24 238 5 = h 238 5 := ((u24 238 5 rfl).trans ((u21 238 5 rfl).trans (u18 238 5 rfl)))
    refine wk_n ?_
    refine wi_aload_n (i := 0) (x := 236) (nx := 77) (r1 := 0) (r2 := 0) (r3 := 0) rfl rfl ?_
    refine wr_gr (k0 := 236) (x := 238) (nx := 80) (r1 := 11) (r2 := 13) (r3 := 0) rfl rfl (by decide) rfl ⟨rfl, rfl⟩ rfl ?_
    refine wi_bipush (n := 43) (nx := 82) (r1 := 0) (r2 := 0) (r3 := 0) rfl (by decide) ?_
    refine wi_iload_n (i := 2) (e := h 238 74) (nx := 83) (r1 := 0) (r2 := 0) (r3 := 0) rfl rfl ?_
    refine wr_add (nx := 84) (r1 := 0) (r2 := 0) (r3 := 0) rfl (fun e34 (fe34 : e34 = 43 + (h 238 74)) => ?_)
    refine wr_ia (k0 := 238) (a := e34) (f := i14) (x := h 238 i14) (nx := 85) (r1 := 0) (r2 := 0) (r3 := 0) rfl (by decide) rfl (by omega) (by omega) (by decide) ((u24 238 i14 (fo_lk (m := 67) (by omega) rfl)).trans ((u21 238 i14 (fn_i (by omega) fn_0)).trans (u18 238 i14 (fn_i (by omega) fn_0)))) ?_
    refine wi_if (cd := .ne) (nx := 88) (r1 := 117) (r2 := 0) (r3 := 0) rfl (by omega) (fun (q35 : (h 238 i14) ≠ 0) => ?_) (fun (q35 : ¬ ((h 238 i14) ≠ 0)) => ?_)
    ·
      refine wi_aload_n (i := 0) (x := 236) (nx := 118) (r1 := 0) (r2 := 0) (r3 := 0) rfl rfl ?_
      refine wr_gr (k0 := 236) (x := 238) (nx := 121) (r1 := 11) (r2 := 13) (r3 := 0) rfl rfl (by decide) rfl ⟨rfl, rfl⟩ rfl ?_
      refine wi_bipush (n := 43) (nx := 123) (r1 := 0) (r2 := 0) (r3 := 0) rfl (by decide) ?_
      refine wi_iload_n (i := 2) (e := h 238 74) (nx := 124) (r1 := 0) (r2 := 0) (r3 := 0) rfl rfl ?_
      refine wr_add (nx := 125) (r1 := 0) (r2 := 0) (r3 := 0) rfl (fun e36 (fe36 : e36 = 43 + (h 238 74)) => ?_)
      refine wi_dup2 (nx := 126) (r1 := 0) (r2 := 0) (r3 := 0) rfl rfl rfl ?_
      refine wr_ia (k0 := 238) (a := e36) (f := i14) (x := h 238 i14) (nx := 127) (r1 := 0) (r2 := 0) (r3 := 0) rfl (by decide) rfl (by omega) (by omega) (by decide) ((u24 238 i14 (fo_lk (m := 67) (by omega) rfl)).trans ((u21 238 i14 (fn_i (by omega) fn_0)).trans (u18 238 i14 (fn_i (by omega) fn_0)))) ?_
      refine wi_iconst (n := 1) (nx := 128) (r1 := 0) (r2 := 0) (r3 := 0) rfl ?_
      refine wr_sub (nx := 129) (r1 := 0) (r2 := 0) (r3 := 0) rfl (fun e37 (fe37 : e37 = (h 238 i14) - 1) => ?_)
      refine wr_is (k0 := 238) (a := e36) (f := i14) (x := e37) (bl := 0) (bh := 999) (nx := 130) (r1 := 0) (r2 := 0) (r3 := 0) rfl (by decide) rfl (by omega) (by omega) (by decide) g24 (gi_rg 43 12 (fun _ => rfl) (by decide +kernel) (by omega)) (by omega) (fun h38 g38 w38 u38 => ?_)
      have F39 := F29.then rfl (FR.idx (p := 43) (q := 54) u38 (by omega))
      refine wi_aload_n (i := 0) (x := 236) (nx := 131) (r1 := 0) (r2 := 0) (r3 := 0) rfl rfl ?_
      refine wr_gr (k0 := 236) (x := 238) (nx := 134) (r1 := 11) (r2 := 13) (r3 := 0) rfl rfl (by decide) rfl ⟨rfl, rfl⟩ rfl ?_
      refine wi_bipush (n := 55) (nx := 136) (r1 := 0) (r2 := 0) (r3 := 0) rfl (by decide) ?_
      refine wi_iload_n (i := 2) (e := h 238 74) (nx := 137) (r1 := 0) (r2 := 0) (r3 := 0) rfl rfl ?_
      refine wr_add (nx := 138) (r1 := 0) (r2 := 0) (r3 := 0) rfl (fun e40 (fe40 : e40 = 55 + (h 238 74)) => ?_)
      refine wi_aload_n (i := 0) (x := 236) (nx := 139) (r1 := 0) (r2 := 0) (r3 := 0) rfl rfl ?_
      refine wr_gr (k0 := 236) (x := 238) (nx := 142) (r1 := 11) (r2 := 13) (r3 := 0) rfl rfl (by decide) rfl ⟨rfl, rfl⟩ rfl ?_
      refine wi_bipush (n := 67) (nx := 144) (r1 := 0) (r2 := 0) (r3 := 0) rfl (by decide) ?_
      refine wr_ia (k0 := 238) (a := 67) (f := 67) (x := h24 238 67) (nx := 145) (r1 := 0) (r2 := 0) (r3 := 0) rfl (by decide) rfl (by omega) (by omega) (by decide) (u38 238 67 (fn_i (by omega) fn_0)) ?_
      refine wi_aload_n (i := 0) (x := 236) (nx := 146) (r1 := 0) (r2 := 0) (r3 := 0) rfl rfl ?_
      refine wr_gr (k0 := 236) (x := 238) (nx := 149) (r1 := 11) (r2 := 13) (r3 := 0) rfl rfl (by decide) rfl ⟨rfl, rfl⟩ rfl ?_
      refine wi_bipush (n := 8) (nx := 151) (r1 := 0) (r2 := 0) (r3 := 0) rfl (by decide) ?_
      have b41 := gi_b (lo := 0) (hi := 999) g 238 8 rfl
      refine wr_ia (k0 := 238) (a := 8) (f := 8) (x := h 238 8) (nx := 152) (r1 := 0) (r2 := 0) (r3 := 0) rfl (by decide) rfl (by omega) (by omega) (by decide) ((u38 238 8 (fn_i (by omega) fn_0)).trans ((u24 238 8 rfl).trans ((u21 238 8 rfl).trans (u18 238 8 rfl)))) ?_
      refine wr_add (nx := 153) (r1 := 0) (r2 := 0) (r3 := 0) rfl (fun e42 (fe42 : e42 = (h24 238 67) + (h 238 8)) => ?_)
      obtain ⟨i43, ei43⟩ : ∃ q : Nat, e40 = (q : Int) := ⟨(e40).toNat, by omega⟩
      refine wr_is (k0 := 238) (a := e40) (f := i43) (x := e42) (bl := 0) (bh := 20000) (nx := 154) (r1 := 0) (r2 := 0) (r3 := 0) rfl (by decide) rfl (by omega) (by omega) (by decide) g38 (gi_rg 55 12 (fun _ => rfl) (by decide +kernel) (by omega)) (by omega) (fun h44 g44 w44 u44 => ?_)
      have F45 := F39.then rfl (FR.idx (p := 55) (q := 66) u44 (by omega))
      refine wi_aload_n (i := 0) (x := 236) (nx := 155) (r1 := 0) (r2 := 0) (r3 := 0) rfl rfl ?_
      refine wr_gr (k0 := 236) (x := 238) (nx := 158) (r1 := 11) (r2 := 13) (r3 := 0) rfl rfl (by decide) rfl ⟨rfl, rfl⟩ rfl ?_
      refine wi_bipush (n := 103) (nx := 160) (r1 := 0) (r2 := 0) (r3 := 0) rfl (by decide) ?_
      refine wi_aload_n (i := 0) (x := 236) (nx := 161) (r1 := 0) (r2 := 0) (r3 := 0) rfl rfl ?_
      refine wr_gr (k0 := 236) (x := 238) (nx := 164) (r1 := 11) (r2 := 13) (r3 := 0) rfl rfl (by decide) rfl ⟨rfl, rfl⟩ rfl ?_
      refine wi_bipush (n := 102) (nx := 166) (r1 := 0) (r2 := 0) (r3 := 0) rfl (by decide) ?_
      refine wr_ia (k0 := 238) (a := 102) (f := 102) (x := h 238 102) (nx := 167) (r1 := 0) (r2 := 0) (r3 := 0) rfl (by decide) rfl (by omega) (by omega) (by decide) ((u44 238 102 (fn_i (by omega) fn_0)).trans ((u38 238 102 (fn_i (by omega) fn_0)).trans ((u24 238 102 rfl).trans ((u21 238 102 rfl).trans (u18 238 102 rfl))))) ?_
      refine wr_add (nx := 168) (r1 := 0) (r2 := 0) (r3 := 0) rfl (fun e46 (fe46 : e46 = 103 + (h 238 102)) => ?_)
      refine wi_iload_n (i := 2) (e := h 238 74) (nx := 169) (r1 := 0) (r2 := 0) (r3 := 0) rfl rfl ?_
      obtain ⟨i47, ei47⟩ : ∃ q : Nat, e46 = (q : Int) := ⟨(e46).toNat, by omega⟩
      refine wr_is (k0 := 238) (a := e46) (f := i47) (x := h 238 74) (bl := 0) (bh := 11) (nx := 170) (r1 := 0) (r2 := 0) (r3 := 0) rfl (by decide) rfl (by omega) (by omega) (by decide) g44 (gi_rg 103 3 (fun _ => rfl) (by decide +kernel) (by omega)) (by omega) (fun h48 g48 w48 u48 => ?_)
      have F49 := F45.then rfl (FR.idx (p := 103) (q := 105) u48 (by omega))
      refine wi_aload_n (i := 0) (x := 236) (nx := 171) (r1 := 0) (r2 := 0) (r3 := 0) rfl rfl ?_
      refine wr_gr (k0 := 236) (x := 238) (nx := 174) (r1 := 11) (r2 := 13) (r3 := 0) rfl rfl (by decide) rfl ⟨rfl, rfl⟩ rfl ?_
      refine wi_bipush (n := 102) (nx := 176) (r1 := 0) (r2 := 0) (r3 := 0) rfl (by decide) ?_
      refine wi_dup2 (nx := 177) (r1 := 0) (r2 := 0) (r3 := 0) rfl rfl rfl ?_
      refine wr_ia (k0 := 238) (a := 102) (f := 102) (x := h 238 102) (nx := 178) (r1 := 0) (r2 := 0) (r3 := 0) rfl (by decide) rfl (by omega) (by omega) (by decide) ((u48 238 102 (fn_i (by omega) fn_0)).trans ((u44 238 102 (fn_i (by omega) fn_0)).trans ((u38 238 102 (fn_i (by omega) fn_0)).trans ((u24 238 102 rfl).trans ((u21 238 102 rfl).trans (u18 238 102 rfl)))))) ?_
      refine wi_iconst (n := 1) (nx := 179) (r1 := 0) (r2 := 0) (r3 := 0) rfl ?_
      refine wr_add (nx := 180) (r1 := 0) (r2 := 0) (r3 := 0) rfl (fun e50 (fe50 : e50 = (h 238 102) + 1) => ?_)
      refine wr_is (k0 := 238) (a := 102) (f := 102) (x := e50) (bl := 0) (bh := 3) (nx := 181) (r1 := 0) (r2 := 0) (r3 := 0) rfl (by decide) rfl (by omega) (by omega) (by decide) g48 rfl (by omega) (fun h51 g51 w51 u51 => ?_)
      have F52 := F49.then rfl u51
      refine wi_iload_n (i := 2) (e := h 238 74) (nx := 182) (r1 := 0) (r2 := 0) (r3 := 0) rfl rfl ?_
      refine wi_ireturn (nx := 183) (r1 := 0) (r2 := 0) (r3 := 0) rfl rfl ?_
      have e53 : h51 238 98 = e17 := ((u51 238 98 rfl).trans ((u48 238 98 (fn_i (by omega) fn_0)).trans ((u44 238 98 (fn_i (by omega) fn_0)).trans ((u38 238 98 (fn_i (by omega) fn_0)).trans ((u24 238 98 rfl).trans ((u21 238 98 rfl).trans w18))))))
      have e54 : h51 238 99 = h 238 99 := ((u51 238 99 rfl).trans ((u48 238 99 (fn_i (by omega) fn_0)).trans ((u44 238 99 (fn_i (by omega) fn_0)).trans ((u38 238 99 (fn_i (by omega) fn_0)).trans ((u24 238 99 rfl).trans ((u21 238 99 rfl).trans (u18 238 99 rfl)))))))
      have e55 : h51 238 100 = h 238 100 := ((u51 238 100 rfl).trans ((u48 238 100 (fn_i (by omega) fn_0)).trans ((u44 238 100 (fn_i (by omega) fn_0)).trans ((u38 238 100 (fn_i (by omega) fn_0)).trans ((u24 238 100 rfl).trans ((u21 238 100 rfl).trans (u18 238 100 rfl)))))))
      have e56 : h51 238 101 = h 238 101 := ((u51 238 101 rfl).trans ((u48 238 101 (fn_i (by omega) fn_0)).trans ((u44 238 101 (fn_i (by omega) fn_0)).trans ((u38 238 101 (fn_i (by omega) fn_0)).trans ((u24 238 101 rfl).trans ((u21 238 101 rfl).trans (u18 238 101 rfl)))))))
      have e57 : h51 238 102 = e50 := w51
      have e58 : h51 238 106 = h 238 106 := ((u51 238 106 rfl).trans ((u48 238 106 (fn_i (by omega) fn_0)).trans ((u44 238 106 (fn_i (by omega) fn_0)).trans ((u38 238 106 (fn_i (by omega) fn_0)).trans ((u24 238 106 rfl).trans ((u21 238 106 rfl).trans (u18 238 106 rfl)))))))
      have e59 : h51 238 73 = h 238 73 := ((u51 238 73 rfl).trans ((u48 238 73 (fn_i (by omega) fn_0)).trans ((u44 238 73 (fn_i (by omega) fn_0)).trans ((u38 238 73 (fn_i (by omega) fn_0)).trans ((u24 238 73 rfl).trans ((u21 238 73 rfl).trans (u18 238 73 rfl)))))))
      have e60 : h51 238 2 = h 238 2 := ((u51 238 2 rfl).trans ((u48 238 2 (fn_i (by omega) fn_0)).trans ((u44 238 2 (fn_i (by omega) fn_0)).trans ((u38 238 2 (fn_i (by omega) fn_0)).trans ((u24 238 2 rfl).trans ((u21 238 2 rfl).trans (u18 238 2 rfl)))))))
      have e61 : h51 238 119 = h24 238 119 := ((u51 238 119 rfl).trans ((u48 238 119 (fn_i (by omega) fn_0)).trans ((u44 238 119 (fn_i (by omega) fn_0)).trans (u38 238 119 (fn_i (by omega) fn_0)))))
      have e62 : h51 238 67 = h24 238 67 := ((u51 238 67 rfl).trans ((u48 238 67 (fn_i (by omega) fn_0)).trans ((u44 238 67 (fn_i (by omega) fn_0)).trans (u38 238 67 (fn_i (by omega) fn_0)))))
      have e63 : h51 238 69 = h24 238 69 := ((u51 238 69 rfl).trans ((u48 238 69 (fn_i (by omega) fn_0)).trans ((u44 238 69 (fn_i (by omega) fn_0)).trans (u38 238 69 (fn_i (by omega) fn_0)))))
      have e64 : h51 238 5 = h 238 5 := ((u51 238 5 rfl).trans ((u48 238 5 (fn_i (by omega) fn_0)).trans ((u44 238 5 (fn_i (by omega) fn_0)).trans ((u38 238 5 (fn_i (by omega) fn_0)).trans ((u24 238 5 rfl).trans ((u21 238 5 rfl).trans (u18 238 5 rfl)))))))
      exact k h51 (h 238 74) g51 F52 (by omega) (show (h51 238 98) + (h51 238 99) + (h51 238 100) + (h51 238 101) + (h51 238 102) + (h51 238 106) = (h51 238 73) by omega) (show (h51 238 73) ≤ (h51 238 2) by omega) (show (h51 238 119) ≤ (h51 238 67) by omega) (show (h51 238 69) ≤ (h51 238 5) by omega) (show (h51 238 2) ≤ 12 * (h51 238 5) by omega)
    ·
      refine wi_aload_n (i := 0) (x := 236) (nx := 89) (r1 := 0) (r2 := 0) (r3 := 0) rfl rfl ?_
      refine wr_gr (k0 := 236) (x := 238) (nx := 92) (r1 := 11) (r2 := 13) (r3 := 0) rfl rfl (by decide) rfl ⟨rfl, rfl⟩ rfl ?_
      refine wi_bipush (n := 107) (nx := 94) (r1 := 0) (r2 := 0) (r3 := 0) rfl (by decide) ?_
      refine wi_aload_n (i := 0) (x := 236) (nx := 95) (r1 := 0) (r2 := 0) (r3 := 0) rfl rfl ?_
      refine wr_gr (k0 := 236) (x := 238) (nx := 98) (r1 := 11) (r2 := 13) (r3 := 0) rfl rfl (by decide) rfl ⟨rfl, rfl⟩ rfl ?_
      refine wi_bipush (n := 106) (nx := 100) (r1 := 0) (r2 := 0) (r3 := 0) rfl (by decide) ?_
      refine wr_ia (k0 := 238) (a := 106) (f := 106) (x := h 238 106) (nx := 101) (r1 := 0) (r2 := 0) (r3 := 0) rfl (by decide) rfl (by omega) (by omega) (by decide) ((u24 238 106 rfl).trans ((u21 238 106 rfl).trans (u18 238 106 rfl))) ?_
      refine wr_add (nx := 102) (r1 := 0) (r2 := 0) (r3 := 0) rfl (fun e36 (fe36 : e36 = 107 + (h 238 106)) => ?_)
      refine wi_iload_n (i := 2) (e := h 238 74) (nx := 103) (r1 := 0) (r2 := 0) (r3 := 0) rfl rfl ?_
      obtain ⟨i37, ei37⟩ : ∃ q : Nat, e36 = (q : Int) := ⟨(e36).toNat, by omega⟩
      refine wr_is (k0 := 238) (a := e36) (f := i37) (x := h 238 74) (bl := 0) (bh := 11) (nx := 104) (r1 := 0) (r2 := 0) (r3 := 0) rfl (by decide) rfl (by omega) (by omega) (by decide) g24 (gi_rg 107 12 (fun _ => rfl) (by decide +kernel) (by omega)) (by omega) (fun h38 g38 w38 u38 => ?_)
      have F39 := F29.then rfl (FR.idx (p := 107) (q := 118) u38 (by omega))
      refine wi_aload_n (i := 0) (x := 236) (nx := 105) (r1 := 0) (r2 := 0) (r3 := 0) rfl rfl ?_
      refine wr_gr (k0 := 236) (x := 238) (nx := 108) (r1 := 11) (r2 := 13) (r3 := 0) rfl rfl (by decide) rfl ⟨rfl, rfl⟩ rfl ?_
      refine wi_bipush (n := 106) (nx := 110) (r1 := 0) (r2 := 0) (r3 := 0) rfl (by decide) ?_
      refine wi_dup2 (nx := 111) (r1 := 0) (r2 := 0) (r3 := 0) rfl rfl rfl ?_
      refine wr_ia (k0 := 238) (a := 106) (f := 106) (x := h 238 106) (nx := 112) (r1 := 0) (r2 := 0) (r3 := 0) rfl (by decide) rfl (by omega) (by omega) (by decide) ((u38 238 106 (fn_i (by omega) fn_0)).trans ((u24 238 106 rfl).trans ((u21 238 106 rfl).trans (u18 238 106 rfl)))) ?_
      refine wi_iconst (n := 1) (nx := 113) (r1 := 0) (r2 := 0) (r3 := 0) rfl ?_
      refine wr_add (nx := 114) (r1 := 0) (r2 := 0) (r3 := 0) rfl (fun e40 (fe40 : e40 = (h 238 106) + 1) => ?_)
      refine wr_is (k0 := 238) (a := 106) (f := 106) (x := e40) (bl := 0) (bh := 12) (nx := 115) (r1 := 0) (r2 := 0) (r3 := 0) rfl (by decide) rfl (by omega) (by omega) (by decide) g38 rfl (by omega) (fun h41 g41 w41 u41 => ?_)
      have F42 := F39.then rfl u41
      refine wi_iload_n (i := 2) (e := h 238 74) (nx := 116) (r1 := 0) (r2 := 0) (r3 := 0) rfl rfl ?_
      refine wi_ireturn (nx := 117) (r1 := 0) (r2 := 0) (r3 := 0) rfl rfl ?_
      have e43 : h41 238 98 = e17 := ((u41 238 98 rfl).trans ((u38 238 98 (fn_i (by omega) fn_0)).trans ((u24 238 98 rfl).trans ((u21 238 98 rfl).trans w18))))
      have e44 : h41 238 99 = h 238 99 := ((u41 238 99 rfl).trans ((u38 238 99 (fn_i (by omega) fn_0)).trans ((u24 238 99 rfl).trans ((u21 238 99 rfl).trans (u18 238 99 rfl)))))
      have e45 : h41 238 100 = h 238 100 := ((u41 238 100 rfl).trans ((u38 238 100 (fn_i (by omega) fn_0)).trans ((u24 238 100 rfl).trans ((u21 238 100 rfl).trans (u18 238 100 rfl)))))
      have e46 : h41 238 101 = h 238 101 := ((u41 238 101 rfl).trans ((u38 238 101 (fn_i (by omega) fn_0)).trans ((u24 238 101 rfl).trans ((u21 238 101 rfl).trans (u18 238 101 rfl)))))
      have e47 : h41 238 102 = h 238 102 := ((u41 238 102 rfl).trans ((u38 238 102 (fn_i (by omega) fn_0)).trans ((u24 238 102 rfl).trans ((u21 238 102 rfl).trans (u18 238 102 rfl)))))
      have e48 : h41 238 106 = e40 := w41
      have e49 : h41 238 73 = h 238 73 := ((u41 238 73 rfl).trans ((u38 238 73 (fn_i (by omega) fn_0)).trans ((u24 238 73 rfl).trans ((u21 238 73 rfl).trans (u18 238 73 rfl)))))
      have e50 : h41 238 2 = h 238 2 := ((u41 238 2 rfl).trans ((u38 238 2 (fn_i (by omega) fn_0)).trans ((u24 238 2 rfl).trans ((u21 238 2 rfl).trans (u18 238 2 rfl)))))
      have e51 : h41 238 119 = h24 238 119 := ((u41 238 119 rfl).trans (u38 238 119 (fn_i (by omega) fn_0)))
      have e52 : h41 238 67 = h24 238 67 := ((u41 238 67 rfl).trans (u38 238 67 (fn_i (by omega) fn_0)))
      have e53 : h41 238 69 = h24 238 69 := ((u41 238 69 rfl).trans (u38 238 69 (fn_i (by omega) fn_0)))
      have e54 : h41 238 5 = h 238 5 := ((u41 238 5 rfl).trans ((u38 238 5 (fn_i (by omega) fn_0)).trans ((u24 238 5 rfl).trans ((u21 238 5 rfl).trans (u18 238 5 rfl)))))
      exact k h41 (h 238 74) g41 F42 (by omega) (show (h41 238 98) + (h41 238 99) + (h41 238 100) + (h41 238 101) + (h41 238 102) + (h41 238 106) = (h41 238 73) by omega) (show (h41 238 73) ≤ (h41 238 2) by omega) (show (h41 238 119) ≤ (h41 238 67) by omega) (show (h41 238 69) ≤ (h41 238 5) by omega) (show (h41 238 2) ≤ 12 * (h41 238 5) by omega)
  ·
    refine wi_aload_n (i := 0) (x := 236) (nx := 36) (r1 := 0) (r2 := 0) (r3 := 0) rfl rfl ?_
    refine wr_gr (k0 := 236) (x := 238) (nx := 39) (r1 := 11) (r2 := 13) (r3 := 0) rfl rfl (by decide) rfl ⟨rfl, rfl⟩ rfl ?_
    refine wi_bipush (n := 74) (nx := 41) (r1 := 0) (r2 := 0) (r3 := 0) rfl (by decide) ?_
    refine wi_bipush (n := 6) (nx := 43) (r1 := 0) (r2 := 0) (r3 := 0) rfl (by decide) ?_
    refine wi_iload_n (i := 1) (e := 0) (nx := 44) (r1 := 0) (r2 := 0) (r3 := 0) rfl rfl ?_
    refine wr_mulL (0) (nx := 45) (r1 := 0) (r2 := 0) (r3 := 0) rfl (by decide) ?_
    refine wr_addL (74) (nx := 46) (r1 := 0) (r2 := 0) (r3 := 0) rfl (by decide) ?_
    refine wi_iload_n (i := 3) (e := x20) (nx := 47) (r1 := 0) (r2 := 0) (r3 := 0) rfl rfl ?_
    refine wr_add (nx := 48) (r1 := 0) (r2 := 0) (r3 := 0) rfl (fun e24 (fe24 : e24 = 74 + x20) => ?_)
    refine wi_aload_n (i := 0) (x := 236) (nx := 49) (r1 := 0) (r2 := 0) (r3 := 0) rfl rfl ?_
    refine wr_gr (k0 := 236) (x := 238) (nx := 52) (r1 := 11) (r2 := 13) (r3 := 0) rfl rfl (by decide) rfl ⟨rfl, rfl⟩ rfl ?_
    refine wi_bipush (n := 74) (nx := 54) (r1 := 0) (r2 := 0) (r3 := 0) rfl (by decide) ?_
    refine wi_bipush (n := 6) (nx := 56) (r1 := 0) (r2 := 0) (r3 := 0) rfl (by decide) ?_
    refine wi_iload_n (i := 1) (e := 0) (nx := 57) (r1 := 0) (r2 := 0) (r3 := 0) rfl rfl ?_
    refine wr_mulL (0) (nx := 58) (r1 := 0) (r2 := 0) (r3 := 0) rfl (by decide) ?_
    refine wr_addL (74) (nx := 59) (r1 := 0) (r2 := 0) (r3 := 0) rfl (by decide) ?_
    refine wi_iload_n (i := 3) (e := x20) (nx := 60) (r1 := 0) (r2 := 0) (r3 := 0) rfl rfl ?_
    refine wr_add (nx := 61) (r1 := 0) (r2 := 0) (r3 := 0) rfl (fun e25 (fe25 : e25 = 74 + x20) => ?_)
    refine wi_iconst (n := 1) (nx := 62) (r1 := 0) (r2 := 0) (r3 := 0) rfl ?_
    refine wr_add (nx := 63) (r1 := 0) (r2 := 0) (r3 := 0) rfl (fun e26 (fe26 : e26 = e25 + 1) => ?_)
    obtain ⟨i27, ei27⟩ : ∃ q : Nat, e26 = (q : Int) := ⟨(e26).toNat, by omega⟩
    have b28 := gi_b (lo := 0) (hi := 11) g21 238 i27 (gi_rg 75 5 (fun _ => rfl) (by decide +kernel) (by omega))
    refine wr_ia (k0 := 238) (a := e26) (f := i27) (x := h21 238 i27) (nx := 64) (r1 := 0) (r2 := 0) (r3 := 0) rfl (by decide) rfl (by omega) (by omega) (by decide) rfl ?_
    obtain ⟨i29, ei29⟩ : ∃ q : Nat, e24 = (q : Int) := ⟨(e24).toNat, by omega⟩
    refine wr_is (k0 := 238) (a := e24) (f := i29) (x := h21 238 i27) (bl := 0) (bh := 11) (nx := 65) (r1 := 0) (r2 := 0) (r3 := 0) rfl (by decide) rfl (by omega) (by omega) (by decide) g21 (gi_rg 74 5 (fun _ => rfl) (by decide +kernel) (by omega)) (by omega) (fun h30 g30 w30 u30 => ?_)
    have F31 := F22.then rfl (FR.idx (p := 74) (q := 78) u30 (by omega))
    have F32 := u21.then rfl (FR.idx (p := 74) (q := 78) u30 (by omega))
    refine wr_iinc (i := 3) (n := 1) (v := x20) (fun e33 => [(3, vi e33), (0, .ref 236), (1, vi 0), (2, vi (h 238 74))]) (nx := 68) (r1 := 0) (r2 := 0) (r3 := 0) rfl rfl (fun _ => rfl) (fun e33 (fe33 : e33 = x20 + 1) => ?_)
    refine wi_goto (nx := 71) (r1 := 22) (r2 := 0) (r3 := 0) rfl ?_
    refine wp.lo (lo := [(0, .ref 236), (1, vi 0), (2, vi (h 238 74)), (3, vi e33)]) ⟨rfl, rfl, rfl, rfl, trivial⟩ rfl ?_
    exact I21 e33 h30 ⟨g30, F31, F32, (show (0 ≤ e33 ∧ e33 ≤ 5) by omega)⟩ (show ((5 : Int) + 1 - e33).toNat < ((5 : Int) + 1 - x20).toNat by omega)
-- method 282: Model.leaves(I)I
set_option maxRecDepth 100000 in
set_option maxHeartbeats 100000000 in
theorem ct_282_236_L1 {L : Nat} {xs : Nat → Int32} {d b c : Nat} {h : hp} {cr : Nat → Nat → Option Nat} {Q : hp_Q} (hcr : CR cr)  (g : GI h)   (pp0 : h 238 98 + h 238 99 + h 238 100 + h 238 101 + h 238 102 + h 238 106 = h 238 73) (pp1 : h 238 73 ≤ h 238 2) (pp2 : h 238 119 ≤ h 238 67) (pp3 : h 238 69 ≤ h 238 5) (pp4 : h 238 2 ≤ 12 * h 238 5) (pp5 : 1 ≤ h 238 99) (pp6 : h 238 67 ≤ 9998) (pp7 : h 238 102 ≤ 2 ∨ h 238 (43 + (h 238 80).toNat) ≤ 0) (k : ∀ (h2 : hp) (z0 : Int) , GI h2 → FR [(238, 238, some (43, 54)), (238, 238, some (55, 66)), (238, 238, some (67, 67)), (238, 238, some (68, 68)), (238, 238, some (69, 69)), (238, 238, some (70, 70)), (238, 238, some (71, 71)), (238, 238, some (72, 72)), (238, 238, some (80, 84)), (238, 238, some (99, 99)), (238, 238, some (102, 102)), (238, 238, some (103, 105)), (238, 238, some (106, 106)), (238, 238, some (107, 118)), (238, 238, some (119, 119)), (238, 238, some (120, 196)), (238, 238, some (121, 197)), (238, 238, some (122, 198)), (238, 238, some (123, 199))] h h2 → (0 ≤ z0 ∧ z0 ≤ 11) → (h2 238 98 + h2 238 99 + h2 238 100 + h2 238 101 + h2 238 102 + h2 238 106 = h2 238 73) → (h2 238 73 ≤ h2 238 2) → (h2 238 119 ≤ h2 238 67) → (h2 238 69 ≤ h2 238 5) → (h2 238 2 ≤ 12 * h2 238 5) → Q (.inl (some (vi z0))) (hp_w h2 cr) b c) : wp (md_xa (L, xs)) (d + 2) 282 (0, [(0, .ref 236), (1, vi 1)], [], hp_w h cr, b, c) Q := by
  have F0 : FR [(238, 238, some (43, 54)), (238, 238, some (55, 66)), (238, 238, some (67, 67)), (238, 238, some (68, 68)), (238, 238, some (69, 69)), (238, 238, some (70, 70)), (238, 238, some (71, 71)), (238, 238, some (72, 72)), (238, 238, some (80, 84)), (238, 238, some (99, 99)), (238, 238, some (102, 102)), (238, 238, some (103, 105)), (238, 238, some (106, 106)), (238, 238, some (107, 118)), (238, 238, some (119, 119)), (238, 238, some (120, 196)), (238, 238, some (121, 197)), (238, 238, some (122, 198)), (238, 238, some (123, 199))] h h := FR.refl
  have b1 := gi_b (lo := 0) (hi := 6) g 238 98 rfl
  have b2 := gi_b (lo := 0) (hi := 6) g 238 99 rfl
  have b3 := gi_b (lo := 0) (hi := 6) g 238 100 rfl
  have b4 := gi_b (lo := 0) (hi := 6) g 238 101 rfl
  have b5 := gi_b (lo := 0) (hi := 3) g 238 102 rfl
  have b6 := gi_b (lo := 0) (hi := 12) g 238 106 rfl
  have b7 := gi_b (lo := 0) (hi := 12) g 238 73 rfl
  have b8 := gi_b (lo := 0) (hi := 12) g 238 2 rfl
  have b9 := gi_b (lo := 0) (hi := 9999) g 238 119 rfl
  have b10 := gi_b (lo := 0) (hi := 9999) g 238 67 rfl
  have b11 := gi_b (lo := 0) (hi := 9) g 238 69 rfl
  have b12 := gi_b (lo := 0) (hi := 9) g 238 5 rfl
  have b13 := gi_b (lo := 0) (hi := 11) g 238 80 rfl
  obtain ⟨i14, ei14⟩ : ∃ q : Nat, (43 + h 238 80) = (q : Int) := ⟨(43 + h 238 80).toNat, by omega⟩
  have b15 := gi_b (lo := 0) (hi := 999) g 238 i14 (gi_rg 43 12 (fun _ => rfl) (by decide +kernel) (by omega))
  have e16 : h 238 (43 + (h 238 80).toNat) = h 238 i14 := by rw [show 43 + (h 238 80).toNat = i14 by omega]
  refine wi_aload_n (i := 0) (x := 236) (nx := 1) (r1 := 0) (r2 := 0) (r3 := 0) rfl rfl ?_
  refine wi_iload_n (i := 1) (e := 1) (nx := 2) (r1 := 0) (r2 := 0) (r3 := 0) rfl rfl ?_
  refine wi_iconst (n := 0) (nx := 3) (r1 := 0) (r2 := 0) (r3 := 0) rfl ?_
  refine wr_V (k0 := 236) (rest := []) (as := [.ref 236, vi 1, vi 0]) (nx := 6) (r1 := 258) (r2 := 2) (r3 := 11) rfl rfl rfl (of_decide_eq_true rfl) rfl rfl (by decide) rfl rfl (of_decide_eq_true rfl) (of_decide_eq_true rfl) ?_
  refine wi_aload_n (i := 0) (x := 236) (nx := 1) (r1 := 0) (r2 := 0) (r3 := 0) rfl rfl ?_
  refine wr_gr (k0 := 236) (x := 238) (nx := 4) (r1 := 11) (r2 := 13) (r3 := 0) rfl rfl (by decide) rfl ⟨rfl, rfl⟩ rfl ?_
  refine wi_bipush (n := 74) (nx := 6) (r1 := 0) (r2 := 0) (r3 := 0) rfl (by decide) ?_
  refine wi_bipush (n := 6) (nx := 8) (r1 := 0) (r2 := 0) (r3 := 0) rfl (by decide) ?_
  refine wi_iload_n (i := 1) (e := 1) (nx := 9) (r1 := 0) (r2 := 0) (r3 := 0) rfl rfl ?_
  refine wr_mulL (6) (nx := 10) (r1 := 0) (r2 := 0) (r3 := 0) rfl (by decide) ?_
  refine wr_addL (80) (nx := 11) (r1 := 0) (r2 := 0) (r3 := 0) rfl (by decide) ?_
  refine wi_iload_n (i := 2) (e := 0) (nx := 12) (r1 := 0) (r2 := 0) (r3 := 0) rfl rfl ?_
  refine wr_addL (80) (nx := 13) (r1 := 0) (r2 := 0) (r3 := 0) rfl (by decide) ?_
  refine wr_ia (k0 := 238) (a := 80) (f := 80) (x := h 238 80) (nx := 14) (r1 := 0) (r2 := 0) (r3 := 0) rfl (by decide) rfl (by omega) (by omega) (by decide) rfl ?_
  refine wi_ireturn (nx := 15) (r1 := 0) (r2 := 0) (r3 := 0) rfl rfl ?_
  refine wk_i ?_
  refine wi_istore_n (i := 2) (e := h 238 80) (lo2 := [(2, vi (h 238 80)), (0, .ref 236), (1, vi 1)]) (nx := 7) (r1 := 0) (r2 := 0) (r3 := 0) rfl rfl ?_
  refine wi_aload_n (i := 0) (x := 236) (nx := 8) (r1 := 0) (r2 := 0) (r3 := 0) rfl rfl ?_
  refine wr_gr (k0 := 236) (x := 238) (nx := 11) (r1 := 11) (r2 := 13) (r3 := 0) rfl rfl (by decide) rfl ⟨rfl, rfl⟩ rfl ?_
  refine wi_bipush (n := 98) (nx := 13) (r1 := 0) (r2 := 0) (r3 := 0) rfl (by decide) ?_
  refine wi_iload_n (i := 1) (e := 1) (nx := 14) (r1 := 0) (r2 := 0) (r3 := 0) rfl rfl ?_
  refine wr_addL (99) (nx := 15) (r1 := 0) (r2 := 0) (r3 := 0) rfl (by decide) ?_
  refine wi_dup2 (nx := 16) (r1 := 0) (r2 := 0) (r3 := 0) rfl rfl rfl ?_
  refine wr_ia (k0 := 238) (a := 99) (f := 99) (x := h 238 99) (nx := 17) (r1 := 0) (r2 := 0) (r3 := 0) rfl (by decide) rfl (by omega) (by omega) (by decide) rfl ?_
  refine wi_iconst (n := 1) (nx := 18) (r1 := 0) (r2 := 0) (r3 := 0) rfl ?_
  refine wr_sub (nx := 19) (r1 := 0) (r2 := 0) (r3 := 0) rfl (fun e17 (fe17 : e17 = (h 238 99) - 1) => ?_)
  refine wr_is (k0 := 238) (a := 99) (f := 99) (x := e17) (bl := 0) (bh := 6) (nx := 20) (r1 := 0) (r2 := 0) (r3 := 0) rfl (by decide) rfl (by omega) (by omega) (by decide) g rfl (by omega) (fun h18 g18 w18 u18 => ?_)
  have F19 := F0.then rfl u18
  refine wi_iconst (n := 0) (nx := 21) (r1 := 0) (r2 := 0) (r3 := 0) rfl ?_
  refine wi_istore_n (i := 3) (e := 0) (lo2 := [(3, vi 0), (2, vi (h 238 80)), (0, .ref 236), (1, vi 1)]) (nx := 22) (r1 := 0) (r2 := 0) (r3 := 0) rfl rfl ?_
  refine wp.lo (lo := [(0, .ref 236), (1, vi 1), (2, vi (h 238 80)), (3, vi 0)]) ⟨rfl, rfl, rfl, rfl, trivial⟩ rfl ?_
  refine wl_1 (fun x20 h21 => GI h21 ∧ FR [(238, 238, some (43, 54)), (238, 238, some (55, 66)), (238, 238, some (67, 67)), (238, 238, some (68, 68)), (238, 238, some (69, 69)), (238, 238, some (70, 70)), (238, 238, some (71, 71)), (238, 238, some (72, 72)), (238, 238, some (80, 84)), (238, 238, some (99, 99)), (238, 238, some (102, 102)), (238, 238, some (103, 105)), (238, 238, some (106, 106)), (238, 238, some (107, 118)), (238, 238, some (119, 119)), (238, 238, some (120, 196)), (238, 238, some (121, 197)), (238, 238, some (122, 198)), (238, 238, some (123, 199))] h h21 ∧ FR [(238, 238, some (80, 84))] h18 h21 ∧ ((0 ≤ x20 ∧ x20 ≤ 5))) (fun x20 h21 => ((5 : Int) + 1 - x20).toNat) (fun x20 h21 => (22, [(0, .ref 236), (1, vi 1), (2, vi (h 238 80)), (3, vi x20)], [], hp_w h21 cr, b, c)) ?_ 0 h18 ⟨g18, F19, FR.refl, (show (0 ≤ 0 ∧ 0 ≤ 5) by omega)⟩
  intro x20 h21 ⟨g21, F22, u21, f21⟩ I21
  refine wi_iload_n (i := 3) (e := x20) (nx := 23) (r1 := 0) (r2 := 0) (r3 := 0) rfl rfl ?_
  refine wi_aload_n (i := 0) (x := 236) (nx := 24) (r1 := 0) (r2 := 0) (r3 := 0) rfl rfl ?_
  refine wr_gr (k0 := 236) (x := 238) (nx := 27) (r1 := 11) (r2 := 13) (r3 := 0) rfl rfl (by decide) rfl ⟨rfl, rfl⟩ rfl ?_
  refine wi_bipush (n := 98) (nx := 29) (r1 := 0) (r2 := 0) (r3 := 0) rfl (by decide) ?_
  refine wi_iload_n (i := 1) (e := 1) (nx := 30) (r1 := 0) (r2 := 0) (r3 := 0) rfl rfl ?_
  refine wr_addL (99) (nx := 31) (r1 := 0) (r2 := 0) (r3 := 0) rfl (by decide) ?_
  refine wr_ia (k0 := 238) (a := 99) (f := 99) (x := e17) (nx := 32) (r1 := 0) (r2 := 0) (r3 := 0) rfl (by decide) rfl (by omega) (by omega) (by decide) ((u21 238 99 rfl).trans w18) ?_
  refine wi_icmp (cd := .ge) (nx := 35) (r1 := 71) (r2 := 0) (r3 := 0) rfl (by omega) (by omega) (fun (q23 : e17 ≤ x20) => ?_) (fun (q23 : ¬ (e17 ≤ x20)) => ?_)
  ·
    refine wi_aload_n (i := 0) (x := 236) (nx := 72) (r1 := 0) (r2 := 0) (r3 := 0) rfl rfl ?_
    refine wi_iload_n (i := 2) (e := h 238 80) (nx := 73) (r1 := 0) (r2 := 0) (r3 := 0) rfl rfl ?_
    refine wr_V (k0 := 236) (rest := []) (as := [.ref 236, vi (h 238 80)]) (nx := 76) (r1 := 283) (r2 := 1) (r3 := 11) rfl rfl rfl (of_decide_eq_true rfl) rfl rfl (by decide) rfl rfl (of_decide_eq_true rfl) (of_decide_eq_true rfl) ?_
    have e25 : h21 238 67 = h 238 67 := ((u21 238 67 rfl).trans (u18 238 67 rfl))
    have e26 : h21 238 119 = h 238 119 := ((u21 238 119 rfl).trans (u18 238 119 rfl))
    have e27 : h21 238 69 = h 238 69 := ((u21 238 69 rfl).trans (u18 238 69 rfl))
    have e28 : h21 238 5 = h 238 5 := ((u21 238 5 rfl).trans (u18 238 5 rfl))
    refine ct_283_236 hcr  g21 (h 238 80) (by omega) (show (h21 238 67) ≤ 9998 by omega) (show (h21 238 119) ≤ (h21 238 67) by omega) (show (h21 238 69) ≤ (h21 238 5) by omega) (show 1 ≤ (h21 238 5) by omega) (fun h24 g24 u24 (p24_0 : (h24 238 119) ≤ (h24 238 67)) (p24_1 : (h24 238 69) ≤ (h24 238 5)) => ?_)
    have F29 := F22.then (by decide +kernel) u24
    have b30 := gi_b (lo := 0) (hi := 9999) g24 238 119 rfl
    have b31 := gi_b (lo := 0) (hi := 9999) g24 238 67 rfl
    have b32 := gi_b (lo := 0) (hi := 9) g24 238 69 rfl
    have e33 : h24 238 5 = h 238 5 := ((u24 238 5 rfl).trans ((u21 238 5 rfl).trans (u18 238 5 rfl)))
    refine wk_n ?_
    refine wi_aload_n (i := 0) (x := 236) (nx := 77) (r1 := 0) (r2 := 0) (r3 := 0) rfl rfl ?_
    refine wr_gr (k0 := 236) (x := 238) (nx := 80) (r1 := 11) (r2 := 13) (r3 := 0) rfl rfl (by decide) rfl ⟨rfl, rfl⟩ rfl ?_
    refine wi_bipush (n := 43) (nx := 82) (r1 := 0) (r2 := 0) (r3 := 0) rfl (by decide) ?_
    refine wi_iload_n (i := 2) (e := h 238 80) (nx := 83) (r1 := 0) (r2 := 0) (r3 := 0) rfl rfl ?_
    refine wr_add (nx := 84) (r1 := 0) (r2 := 0) (r3 := 0) rfl (fun e34 (fe34 : e34 = 43 + (h 238 80)) => ?_)
    refine wr_ia (k0 := 238) (a := e34) (f := i14) (x := h 238 i14) (nx := 85) (r1 := 0) (r2 := 0) (r3 := 0) rfl (by decide) rfl (by omega) (by omega) (by decide) ((u24 238 i14 (fo_lk (m := 67) (by omega) rfl)).trans ((u21 238 i14 (fn_i (by omega) fn_0)).trans (u18 238 i14 (fn_i (by omega) fn_0)))) ?_
    refine wi_if (cd := .ne) (nx := 88) (r1 := 117) (r2 := 0) (r3 := 0) rfl (by omega) (fun (q35 : (h 238 i14) ≠ 0) => ?_) (fun (q35 : ¬ ((h 238 i14) ≠ 0)) => ?_)
    ·
      refine wi_aload_n (i := 0) (x := 236) (nx := 118) (r1 := 0) (r2 := 0) (r3 := 0) rfl rfl ?_
      refine wr_gr (k0 := 236) (x := 238) (nx := 121) (r1 := 11) (r2 := 13) (r3 := 0) rfl rfl (by decide) rfl ⟨rfl, rfl⟩ rfl ?_
      refine wi_bipush (n := 43) (nx := 123) (r1 := 0) (r2 := 0) (r3 := 0) rfl (by decide) ?_
      refine wi_iload_n (i := 2) (e := h 238 80) (nx := 124) (r1 := 0) (r2 := 0) (r3 := 0) rfl rfl ?_
      refine wr_add (nx := 125) (r1 := 0) (r2 := 0) (r3 := 0) rfl (fun e36 (fe36 : e36 = 43 + (h 238 80)) => ?_)
      refine wi_dup2 (nx := 126) (r1 := 0) (r2 := 0) (r3 := 0) rfl rfl rfl ?_
      refine wr_ia (k0 := 238) (a := e36) (f := i14) (x := h 238 i14) (nx := 127) (r1 := 0) (r2 := 0) (r3 := 0) rfl (by decide) rfl (by omega) (by omega) (by decide) ((u24 238 i14 (fo_lk (m := 67) (by omega) rfl)).trans ((u21 238 i14 (fn_i (by omega) fn_0)).trans (u18 238 i14 (fn_i (by omega) fn_0)))) ?_
      refine wi_iconst (n := 1) (nx := 128) (r1 := 0) (r2 := 0) (r3 := 0) rfl ?_
      refine wr_sub (nx := 129) (r1 := 0) (r2 := 0) (r3 := 0) rfl (fun e37 (fe37 : e37 = (h 238 i14) - 1) => ?_)
      refine wr_is (k0 := 238) (a := e36) (f := i14) (x := e37) (bl := 0) (bh := 999) (nx := 130) (r1 := 0) (r2 := 0) (r3 := 0) rfl (by decide) rfl (by omega) (by omega) (by decide) g24 (gi_rg 43 12 (fun _ => rfl) (by decide +kernel) (by omega)) (by omega) (fun h38 g38 w38 u38 => ?_)
      have F39 := F29.then rfl (FR.idx (p := 43) (q := 54) u38 (by omega))
      refine wi_aload_n (i := 0) (x := 236) (nx := 131) (r1 := 0) (r2 := 0) (r3 := 0) rfl rfl ?_
      refine wr_gr (k0 := 236) (x := 238) (nx := 134) (r1 := 11) (r2 := 13) (r3 := 0) rfl rfl (by decide) rfl ⟨rfl, rfl⟩ rfl ?_
      refine wi_bipush (n := 55) (nx := 136) (r1 := 0) (r2 := 0) (r3 := 0) rfl (by decide) ?_
      refine wi_iload_n (i := 2) (e := h 238 80) (nx := 137) (r1 := 0) (r2 := 0) (r3 := 0) rfl rfl ?_
      refine wr_add (nx := 138) (r1 := 0) (r2 := 0) (r3 := 0) rfl (fun e40 (fe40 : e40 = 55 + (h 238 80)) => ?_)
      refine wi_aload_n (i := 0) (x := 236) (nx := 139) (r1 := 0) (r2 := 0) (r3 := 0) rfl rfl ?_
      refine wr_gr (k0 := 236) (x := 238) (nx := 142) (r1 := 11) (r2 := 13) (r3 := 0) rfl rfl (by decide) rfl ⟨rfl, rfl⟩ rfl ?_
      refine wi_bipush (n := 67) (nx := 144) (r1 := 0) (r2 := 0) (r3 := 0) rfl (by decide) ?_
      refine wr_ia (k0 := 238) (a := 67) (f := 67) (x := h24 238 67) (nx := 145) (r1 := 0) (r2 := 0) (r3 := 0) rfl (by decide) rfl (by omega) (by omega) (by decide) (u38 238 67 (fn_i (by omega) fn_0)) ?_
      refine wi_aload_n (i := 0) (x := 236) (nx := 146) (r1 := 0) (r2 := 0) (r3 := 0) rfl rfl ?_
      refine wr_gr (k0 := 236) (x := 238) (nx := 149) (r1 := 11) (r2 := 13) (r3 := 0) rfl rfl (by decide) rfl ⟨rfl, rfl⟩ rfl ?_
      refine wi_bipush (n := 8) (nx := 151) (r1 := 0) (r2 := 0) (r3 := 0) rfl (by decide) ?_
      have b41 := gi_b (lo := 0) (hi := 999) g 238 8 rfl
      refine wr_ia (k0 := 238) (a := 8) (f := 8) (x := h 238 8) (nx := 152) (r1 := 0) (r2 := 0) (r3 := 0) rfl (by decide) rfl (by omega) (by omega) (by decide) ((u38 238 8 (fn_i (by omega) fn_0)).trans ((u24 238 8 rfl).trans ((u21 238 8 rfl).trans (u18 238 8 rfl)))) ?_
      refine wr_add (nx := 153) (r1 := 0) (r2 := 0) (r3 := 0) rfl (fun e42 (fe42 : e42 = (h24 238 67) + (h 238 8)) => ?_)
      obtain ⟨i43, ei43⟩ : ∃ q : Nat, e40 = (q : Int) := ⟨(e40).toNat, by omega⟩
      refine wr_is (k0 := 238) (a := e40) (f := i43) (x := e42) (bl := 0) (bh := 20000) (nx := 154) (r1 := 0) (r2 := 0) (r3 := 0) rfl (by decide) rfl (by omega) (by omega) (by decide) g38 (gi_rg 55 12 (fun _ => rfl) (by decide +kernel) (by omega)) (by omega) (fun h44 g44 w44 u44 => ?_)
      have F45 := F39.then rfl (FR.idx (p := 55) (q := 66) u44 (by omega))
      refine wi_aload_n (i := 0) (x := 236) (nx := 155) (r1 := 0) (r2 := 0) (r3 := 0) rfl rfl ?_
      refine wr_gr (k0 := 236) (x := 238) (nx := 158) (r1 := 11) (r2 := 13) (r3 := 0) rfl rfl (by decide) rfl ⟨rfl, rfl⟩ rfl ?_
      refine wi_bipush (n := 103) (nx := 160) (r1 := 0) (r2 := 0) (r3 := 0) rfl (by decide) ?_
      refine wi_aload_n (i := 0) (x := 236) (nx := 161) (r1 := 0) (r2 := 0) (r3 := 0) rfl rfl ?_
      refine wr_gr (k0 := 236) (x := 238) (nx := 164) (r1 := 11) (r2 := 13) (r3 := 0) rfl rfl (by decide) rfl ⟨rfl, rfl⟩ rfl ?_
      refine wi_bipush (n := 102) (nx := 166) (r1 := 0) (r2 := 0) (r3 := 0) rfl (by decide) ?_
      refine wr_ia (k0 := 238) (a := 102) (f := 102) (x := h 238 102) (nx := 167) (r1 := 0) (r2 := 0) (r3 := 0) rfl (by decide) rfl (by omega) (by omega) (by decide) ((u44 238 102 (fn_i (by omega) fn_0)).trans ((u38 238 102 (fn_i (by omega) fn_0)).trans ((u24 238 102 rfl).trans ((u21 238 102 rfl).trans (u18 238 102 rfl))))) ?_
      refine wr_add (nx := 168) (r1 := 0) (r2 := 0) (r3 := 0) rfl (fun e46 (fe46 : e46 = 103 + (h 238 102)) => ?_)
      refine wi_iload_n (i := 2) (e := h 238 80) (nx := 169) (r1 := 0) (r2 := 0) (r3 := 0) rfl rfl ?_
      obtain ⟨i47, ei47⟩ : ∃ q : Nat, e46 = (q : Int) := ⟨(e46).toNat, by omega⟩
      refine wr_is (k0 := 238) (a := e46) (f := i47) (x := h 238 80) (bl := 0) (bh := 11) (nx := 170) (r1 := 0) (r2 := 0) (r3 := 0) rfl (by decide) rfl (by omega) (by omega) (by decide) g44 (gi_rg 103 3 (fun _ => rfl) (by decide +kernel) (by omega)) (by omega) (fun h48 g48 w48 u48 => ?_)
      have F49 := F45.then rfl (FR.idx (p := 103) (q := 105) u48 (by omega))
      refine wi_aload_n (i := 0) (x := 236) (nx := 171) (r1 := 0) (r2 := 0) (r3 := 0) rfl rfl ?_
      refine wr_gr (k0 := 236) (x := 238) (nx := 174) (r1 := 11) (r2 := 13) (r3 := 0) rfl rfl (by decide) rfl ⟨rfl, rfl⟩ rfl ?_
      refine wi_bipush (n := 102) (nx := 176) (r1 := 0) (r2 := 0) (r3 := 0) rfl (by decide) ?_
      refine wi_dup2 (nx := 177) (r1 := 0) (r2 := 0) (r3 := 0) rfl rfl rfl ?_
      refine wr_ia (k0 := 238) (a := 102) (f := 102) (x := h 238 102) (nx := 178) (r1 := 0) (r2 := 0) (r3 := 0) rfl (by decide) rfl (by omega) (by omega) (by decide) ((u48 238 102 (fn_i (by omega) fn_0)).trans ((u44 238 102 (fn_i (by omega) fn_0)).trans ((u38 238 102 (fn_i (by omega) fn_0)).trans ((u24 238 102 rfl).trans ((u21 238 102 rfl).trans (u18 238 102 rfl)))))) ?_
      refine wi_iconst (n := 1) (nx := 179) (r1 := 0) (r2 := 0) (r3 := 0) rfl ?_
      refine wr_add (nx := 180) (r1 := 0) (r2 := 0) (r3 := 0) rfl (fun e50 (fe50 : e50 = (h 238 102) + 1) => ?_)
      refine wr_is (k0 := 238) (a := 102) (f := 102) (x := e50) (bl := 0) (bh := 3) (nx := 181) (r1 := 0) (r2 := 0) (r3 := 0) rfl (by decide) rfl (by omega) (by omega) (by decide) g48 rfl (by omega) (fun h51 g51 w51 u51 => ?_)
      have F52 := F49.then rfl u51
      refine wi_iload_n (i := 2) (e := h 238 80) (nx := 182) (r1 := 0) (r2 := 0) (r3 := 0) rfl rfl ?_
      refine wi_ireturn (nx := 183) (r1 := 0) (r2 := 0) (r3 := 0) rfl rfl ?_
      have e53 : h51 238 98 = h 238 98 := ((u51 238 98 rfl).trans ((u48 238 98 (fn_i (by omega) fn_0)).trans ((u44 238 98 (fn_i (by omega) fn_0)).trans ((u38 238 98 (fn_i (by omega) fn_0)).trans ((u24 238 98 rfl).trans ((u21 238 98 rfl).trans (u18 238 98 rfl)))))))
      have e54 : h51 238 99 = e17 := ((u51 238 99 rfl).trans ((u48 238 99 (fn_i (by omega) fn_0)).trans ((u44 238 99 (fn_i (by omega) fn_0)).trans ((u38 238 99 (fn_i (by omega) fn_0)).trans ((u24 238 99 rfl).trans ((u21 238 99 rfl).trans w18))))))
      have e55 : h51 238 100 = h 238 100 := ((u51 238 100 rfl).trans ((u48 238 100 (fn_i (by omega) fn_0)).trans ((u44 238 100 (fn_i (by omega) fn_0)).trans ((u38 238 100 (fn_i (by omega) fn_0)).trans ((u24 238 100 rfl).trans ((u21 238 100 rfl).trans (u18 238 100 rfl)))))))
      have e56 : h51 238 101 = h 238 101 := ((u51 238 101 rfl).trans ((u48 238 101 (fn_i (by omega) fn_0)).trans ((u44 238 101 (fn_i (by omega) fn_0)).trans ((u38 238 101 (fn_i (by omega) fn_0)).trans ((u24 238 101 rfl).trans ((u21 238 101 rfl).trans (u18 238 101 rfl)))))))
      have e57 : h51 238 102 = e50 := w51
      have e58 : h51 238 106 = h 238 106 := ((u51 238 106 rfl).trans ((u48 238 106 (fn_i (by omega) fn_0)).trans ((u44 238 106 (fn_i (by omega) fn_0)).trans ((u38 238 106 (fn_i (by omega) fn_0)).trans ((u24 238 106 rfl).trans ((u21 238 106 rfl).trans (u18 238 106 rfl)))))))
      have e59 : h51 238 73 = h 238 73 := ((u51 238 73 rfl).trans ((u48 238 73 (fn_i (by omega) fn_0)).trans ((u44 238 73 (fn_i (by omega) fn_0)).trans ((u38 238 73 (fn_i (by omega) fn_0)).trans ((u24 238 73 rfl).trans ((u21 238 73 rfl).trans (u18 238 73 rfl)))))))
      have e60 : h51 238 2 = h 238 2 := ((u51 238 2 rfl).trans ((u48 238 2 (fn_i (by omega) fn_0)).trans ((u44 238 2 (fn_i (by omega) fn_0)).trans ((u38 238 2 (fn_i (by omega) fn_0)).trans ((u24 238 2 rfl).trans ((u21 238 2 rfl).trans (u18 238 2 rfl)))))))
      have e61 : h51 238 119 = h24 238 119 := ((u51 238 119 rfl).trans ((u48 238 119 (fn_i (by omega) fn_0)).trans ((u44 238 119 (fn_i (by omega) fn_0)).trans (u38 238 119 (fn_i (by omega) fn_0)))))
      have e62 : h51 238 67 = h24 238 67 := ((u51 238 67 rfl).trans ((u48 238 67 (fn_i (by omega) fn_0)).trans ((u44 238 67 (fn_i (by omega) fn_0)).trans (u38 238 67 (fn_i (by omega) fn_0)))))
      have e63 : h51 238 69 = h24 238 69 := ((u51 238 69 rfl).trans ((u48 238 69 (fn_i (by omega) fn_0)).trans ((u44 238 69 (fn_i (by omega) fn_0)).trans (u38 238 69 (fn_i (by omega) fn_0)))))
      have e64 : h51 238 5 = h 238 5 := ((u51 238 5 rfl).trans ((u48 238 5 (fn_i (by omega) fn_0)).trans ((u44 238 5 (fn_i (by omega) fn_0)).trans ((u38 238 5 (fn_i (by omega) fn_0)).trans ((u24 238 5 rfl).trans ((u21 238 5 rfl).trans (u18 238 5 rfl)))))))
      exact k h51 (h 238 80) g51 F52 (by omega) (show (h51 238 98) + (h51 238 99) + (h51 238 100) + (h51 238 101) + (h51 238 102) + (h51 238 106) = (h51 238 73) by omega) (show (h51 238 73) ≤ (h51 238 2) by omega) (show (h51 238 119) ≤ (h51 238 67) by omega) (show (h51 238 69) ≤ (h51 238 5) by omega) (show (h51 238 2) ≤ 12 * (h51 238 5) by omega)
    ·
      refine wi_aload_n (i := 0) (x := 236) (nx := 89) (r1 := 0) (r2 := 0) (r3 := 0) rfl rfl ?_
      refine wr_gr (k0 := 236) (x := 238) (nx := 92) (r1 := 11) (r2 := 13) (r3 := 0) rfl rfl (by decide) rfl ⟨rfl, rfl⟩ rfl ?_
      refine wi_bipush (n := 107) (nx := 94) (r1 := 0) (r2 := 0) (r3 := 0) rfl (by decide) ?_
      refine wi_aload_n (i := 0) (x := 236) (nx := 95) (r1 := 0) (r2 := 0) (r3 := 0) rfl rfl ?_
      refine wr_gr (k0 := 236) (x := 238) (nx := 98) (r1 := 11) (r2 := 13) (r3 := 0) rfl rfl (by decide) rfl ⟨rfl, rfl⟩ rfl ?_
      refine wi_bipush (n := 106) (nx := 100) (r1 := 0) (r2 := 0) (r3 := 0) rfl (by decide) ?_
      refine wr_ia (k0 := 238) (a := 106) (f := 106) (x := h 238 106) (nx := 101) (r1 := 0) (r2 := 0) (r3 := 0) rfl (by decide) rfl (by omega) (by omega) (by decide) ((u24 238 106 rfl).trans ((u21 238 106 rfl).trans (u18 238 106 rfl))) ?_
      refine wr_add (nx := 102) (r1 := 0) (r2 := 0) (r3 := 0) rfl (fun e36 (fe36 : e36 = 107 + (h 238 106)) => ?_)
      refine wi_iload_n (i := 2) (e := h 238 80) (nx := 103) (r1 := 0) (r2 := 0) (r3 := 0) rfl rfl ?_
      obtain ⟨i37, ei37⟩ : ∃ q : Nat, e36 = (q : Int) := ⟨(e36).toNat, by omega⟩
      refine wr_is (k0 := 238) (a := e36) (f := i37) (x := h 238 80) (bl := 0) (bh := 11) (nx := 104) (r1 := 0) (r2 := 0) (r3 := 0) rfl (by decide) rfl (by omega) (by omega) (by decide) g24 (gi_rg 107 12 (fun _ => rfl) (by decide +kernel) (by omega)) (by omega) (fun h38 g38 w38 u38 => ?_)
      have F39 := F29.then rfl (FR.idx (p := 107) (q := 118) u38 (by omega))
      refine wi_aload_n (i := 0) (x := 236) (nx := 105) (r1 := 0) (r2 := 0) (r3 := 0) rfl rfl ?_
      refine wr_gr (k0 := 236) (x := 238) (nx := 108) (r1 := 11) (r2 := 13) (r3 := 0) rfl rfl (by decide) rfl ⟨rfl, rfl⟩ rfl ?_
      refine wi_bipush (n := 106) (nx := 110) (r1 := 0) (r2 := 0) (r3 := 0) rfl (by decide) ?_
      refine wi_dup2 (nx := 111) (r1 := 0) (r2 := 0) (r3 := 0) rfl rfl rfl ?_
      refine wr_ia (k0 := 238) (a := 106) (f := 106) (x := h 238 106) (nx := 112) (r1 := 0) (r2 := 0) (r3 := 0) rfl (by decide) rfl (by omega) (by omega) (by decide) ((u38 238 106 (fn_i (by omega) fn_0)).trans ((u24 238 106 rfl).trans ((u21 238 106 rfl).trans (u18 238 106 rfl)))) ?_
      refine wi_iconst (n := 1) (nx := 113) (r1 := 0) (r2 := 0) (r3 := 0) rfl ?_
      refine wr_add (nx := 114) (r1 := 0) (r2 := 0) (r3 := 0) rfl (fun e40 (fe40 : e40 = (h 238 106) + 1) => ?_)
      refine wr_is (k0 := 238) (a := 106) (f := 106) (x := e40) (bl := 0) (bh := 12) (nx := 115) (r1 := 0) (r2 := 0) (r3 := 0) rfl (by decide) rfl (by omega) (by omega) (by decide) g38 rfl (by omega) (fun h41 g41 w41 u41 => ?_)
      have F42 := F39.then rfl u41
      refine wi_iload_n (i := 2) (e := h 238 80) (nx := 116) (r1 := 0) (r2 := 0) (r3 := 0) rfl rfl ?_
      refine wi_ireturn (nx := 117) (r1 := 0) (r2 := 0) (r3 := 0) rfl rfl ?_
      have e43 : h41 238 98 = h 238 98 := ((u41 238 98 rfl).trans ((u38 238 98 (fn_i (by omega) fn_0)).trans ((u24 238 98 rfl).trans ((u21 238 98 rfl).trans (u18 238 98 rfl)))))
      have e44 : h41 238 99 = e17 := ((u41 238 99 rfl).trans ((u38 238 99 (fn_i (by omega) fn_0)).trans ((u24 238 99 rfl).trans ((u21 238 99 rfl).trans w18))))
      have e45 : h41 238 100 = h 238 100 := ((u41 238 100 rfl).trans ((u38 238 100 (fn_i (by omega) fn_0)).trans ((u24 238 100 rfl).trans ((u21 238 100 rfl).trans (u18 238 100 rfl)))))
      have e46 : h41 238 101 = h 238 101 := ((u41 238 101 rfl).trans ((u38 238 101 (fn_i (by omega) fn_0)).trans ((u24 238 101 rfl).trans ((u21 238 101 rfl).trans (u18 238 101 rfl)))))
      have e47 : h41 238 102 = h 238 102 := ((u41 238 102 rfl).trans ((u38 238 102 (fn_i (by omega) fn_0)).trans ((u24 238 102 rfl).trans ((u21 238 102 rfl).trans (u18 238 102 rfl)))))
      have e48 : h41 238 106 = e40 := w41
      have e49 : h41 238 73 = h 238 73 := ((u41 238 73 rfl).trans ((u38 238 73 (fn_i (by omega) fn_0)).trans ((u24 238 73 rfl).trans ((u21 238 73 rfl).trans (u18 238 73 rfl)))))
      have e50 : h41 238 2 = h 238 2 := ((u41 238 2 rfl).trans ((u38 238 2 (fn_i (by omega) fn_0)).trans ((u24 238 2 rfl).trans ((u21 238 2 rfl).trans (u18 238 2 rfl)))))
      have e51 : h41 238 119 = h24 238 119 := ((u41 238 119 rfl).trans (u38 238 119 (fn_i (by omega) fn_0)))
      have e52 : h41 238 67 = h24 238 67 := ((u41 238 67 rfl).trans (u38 238 67 (fn_i (by omega) fn_0)))
      have e53 : h41 238 69 = h24 238 69 := ((u41 238 69 rfl).trans (u38 238 69 (fn_i (by omega) fn_0)))
      have e54 : h41 238 5 = h 238 5 := ((u41 238 5 rfl).trans ((u38 238 5 (fn_i (by omega) fn_0)).trans ((u24 238 5 rfl).trans ((u21 238 5 rfl).trans (u18 238 5 rfl)))))
      exact k h41 (h 238 80) g41 F42 (by omega) (show (h41 238 98) + (h41 238 99) + (h41 238 100) + (h41 238 101) + (h41 238 102) + (h41 238 106) = (h41 238 73) by omega) (show (h41 238 73) ≤ (h41 238 2) by omega) (show (h41 238 119) ≤ (h41 238 67) by omega) (show (h41 238 69) ≤ (h41 238 5) by omega) (show (h41 238 2) ≤ 12 * (h41 238 5) by omega)
  ·
    refine wi_aload_n (i := 0) (x := 236) (nx := 36) (r1 := 0) (r2 := 0) (r3 := 0) rfl rfl ?_
    refine wr_gr (k0 := 236) (x := 238) (nx := 39) (r1 := 11) (r2 := 13) (r3 := 0) rfl rfl (by decide) rfl ⟨rfl, rfl⟩ rfl ?_
    refine wi_bipush (n := 74) (nx := 41) (r1 := 0) (r2 := 0) (r3 := 0) rfl (by decide) ?_
    refine wi_bipush (n := 6) (nx := 43) (r1 := 0) (r2 := 0) (r3 := 0) rfl (by decide) ?_
    refine wi_iload_n (i := 1) (e := 1) (nx := 44) (r1 := 0) (r2 := 0) (r3 := 0) rfl rfl ?_
    refine wr_mulL (6) (nx := 45) (r1 := 0) (r2 := 0) (r3 := 0) rfl (by decide) ?_
    refine wr_addL (80) (nx := 46) (r1 := 0) (r2 := 0) (r3 := 0) rfl (by decide) ?_
    refine wi_iload_n (i := 3) (e := x20) (nx := 47) (r1 := 0) (r2 := 0) (r3 := 0) rfl rfl ?_
    refine wr_add (nx := 48) (r1 := 0) (r2 := 0) (r3 := 0) rfl (fun e24 (fe24 : e24 = 80 + x20) => ?_)
    refine wi_aload_n (i := 0) (x := 236) (nx := 49) (r1 := 0) (r2 := 0) (r3 := 0) rfl rfl ?_
    refine wr_gr (k0 := 236) (x := 238) (nx := 52) (r1 := 11) (r2 := 13) (r3 := 0) rfl rfl (by decide) rfl ⟨rfl, rfl⟩ rfl ?_
    refine wi_bipush (n := 74) (nx := 54) (r1 := 0) (r2 := 0) (r3 := 0) rfl (by decide) ?_
    refine wi_bipush (n := 6) (nx := 56) (r1 := 0) (r2 := 0) (r3 := 0) rfl (by decide) ?_
    refine wi_iload_n (i := 1) (e := 1) (nx := 57) (r1 := 0) (r2 := 0) (r3 := 0) rfl rfl ?_
    refine wr_mulL (6) (nx := 58) (r1 := 0) (r2 := 0) (r3 := 0) rfl (by decide) ?_
    refine wr_addL (80) (nx := 59) (r1 := 0) (r2 := 0) (r3 := 0) rfl (by decide) ?_
    refine wi_iload_n (i := 3) (e := x20) (nx := 60) (r1 := 0) (r2 := 0) (r3 := 0) rfl rfl ?_
    refine wr_add (nx := 61) (r1 := 0) (r2 := 0) (r3 := 0) rfl (fun e25 (fe25 : e25 = 80 + x20) => ?_)
    refine wi_iconst (n := 1) (nx := 62) (r1 := 0) (r2 := 0) (r3 := 0) rfl ?_
    refine wr_add (nx := 63) (r1 := 0) (r2 := 0) (r3 := 0) rfl (fun e26 (fe26 : e26 = e25 + 1) => ?_)
    obtain ⟨i27, ei27⟩ : ∃ q : Nat, e26 = (q : Int) := ⟨(e26).toNat, by omega⟩
    have b28 := gi_b (lo := 0) (hi := 11) g21 238 i27 (gi_rg 81 5 (fun _ => rfl) (by decide +kernel) (by omega))
    refine wr_ia (k0 := 238) (a := e26) (f := i27) (x := h21 238 i27) (nx := 64) (r1 := 0) (r2 := 0) (r3 := 0) rfl (by decide) rfl (by omega) (by omega) (by decide) rfl ?_
    obtain ⟨i29, ei29⟩ : ∃ q : Nat, e24 = (q : Int) := ⟨(e24).toNat, by omega⟩
    refine wr_is (k0 := 238) (a := e24) (f := i29) (x := h21 238 i27) (bl := 0) (bh := 11) (nx := 65) (r1 := 0) (r2 := 0) (r3 := 0) rfl (by decide) rfl (by omega) (by omega) (by decide) g21 (gi_rg 80 5 (fun _ => rfl) (by decide +kernel) (by omega)) (by omega) (fun h30 g30 w30 u30 => ?_)
    have F31 := F22.then rfl (FR.idx (p := 80) (q := 84) u30 (by omega))
    have F32 := u21.then rfl (FR.idx (p := 80) (q := 84) u30 (by omega))
    refine wr_iinc (i := 3) (n := 1) (v := x20) (fun e33 => [(3, vi e33), (0, .ref 236), (1, vi 1), (2, vi (h 238 80))]) (nx := 68) (r1 := 0) (r2 := 0) (r3 := 0) rfl rfl (fun _ => rfl) (fun e33 (fe33 : e33 = x20 + 1) => ?_)
    refine wi_goto (nx := 71) (r1 := 22) (r2 := 0) (r3 := 0) rfl ?_
    refine wp.lo (lo := [(0, .ref 236), (1, vi 1), (2, vi (h 238 80)), (3, vi e33)]) ⟨rfl, rfl, rfl, rfl, trivial⟩ rfl ?_
    exact I21 e33 h30 ⟨g30, F31, F32, (show (0 ≤ e33 ∧ e33 ≤ 5) by omega)⟩ (show ((5 : Int) + 1 - e33).toNat < ((5 : Int) + 1 - x20).toNat by omega)
-- method 282: Model.leaves(I)I
set_option maxRecDepth 100000 in
set_option maxHeartbeats 100000000 in
theorem ct_282_236_L2 {L : Nat} {xs : Nat → Int32} {d b c : Nat} {h : hp} {cr : Nat → Nat → Option Nat} {Q : hp_Q} (hcr : CR cr)  (g : GI h)   (pp0 : h 238 98 + h 238 99 + h 238 100 + h 238 101 + h 238 102 + h 238 106 = h 238 73) (pp1 : h 238 73 ≤ h 238 2) (pp2 : h 238 119 ≤ h 238 67) (pp3 : h 238 69 ≤ h 238 5) (pp4 : h 238 2 ≤ 12 * h 238 5) (pp5 : 1 ≤ h 238 100) (pp6 : h 238 67 ≤ 9998) (pp7 : h 238 102 ≤ 2 ∨ h 238 (43 + (h 238 86).toNat) ≤ 0) (k : ∀ (h2 : hp) (z0 : Int) , GI h2 → FR [(238, 238, some (43, 54)), (238, 238, some (55, 66)), (238, 238, some (67, 67)), (238, 238, some (68, 68)), (238, 238, some (69, 69)), (238, 238, some (70, 70)), (238, 238, some (71, 71)), (238, 238, some (72, 72)), (238, 238, some (86, 90)), (238, 238, some (100, 100)), (238, 238, some (102, 102)), (238, 238, some (103, 105)), (238, 238, some (106, 106)), (238, 238, some (107, 118)), (238, 238, some (119, 119)), (238, 238, some (120, 196)), (238, 238, some (121, 197)), (238, 238, some (122, 198)), (238, 238, some (123, 199))] h h2 → (0 ≤ z0 ∧ z0 ≤ 11) → (h2 238 98 + h2 238 99 + h2 238 100 + h2 238 101 + h2 238 102 + h2 238 106 = h2 238 73) → (h2 238 73 ≤ h2 238 2) → (h2 238 119 ≤ h2 238 67) → (h2 238 69 ≤ h2 238 5) → (h2 238 2 ≤ 12 * h2 238 5) → Q (.inl (some (vi z0))) (hp_w h2 cr) b c) : wp (md_xa (L, xs)) (d + 2) 282 (0, [(0, .ref 236), (1, vi 2)], [], hp_w h cr, b, c) Q := by
  have F0 : FR [(238, 238, some (43, 54)), (238, 238, some (55, 66)), (238, 238, some (67, 67)), (238, 238, some (68, 68)), (238, 238, some (69, 69)), (238, 238, some (70, 70)), (238, 238, some (71, 71)), (238, 238, some (72, 72)), (238, 238, some (86, 90)), (238, 238, some (100, 100)), (238, 238, some (102, 102)), (238, 238, some (103, 105)), (238, 238, some (106, 106)), (238, 238, some (107, 118)), (238, 238, some (119, 119)), (238, 238, some (120, 196)), (238, 238, some (121, 197)), (238, 238, some (122, 198)), (238, 238, some (123, 199))] h h := FR.refl
  have b1 := gi_b (lo := 0) (hi := 6) g 238 98 rfl
  have b2 := gi_b (lo := 0) (hi := 6) g 238 99 rfl
  have b3 := gi_b (lo := 0) (hi := 6) g 238 100 rfl
  have b4 := gi_b (lo := 0) (hi := 6) g 238 101 rfl
  have b5 := gi_b (lo := 0) (hi := 3) g 238 102 rfl
  have b6 := gi_b (lo := 0) (hi := 12) g 238 106 rfl
  have b7 := gi_b (lo := 0) (hi := 12) g 238 73 rfl
  have b8 := gi_b (lo := 0) (hi := 12) g 238 2 rfl
  have b9 := gi_b (lo := 0) (hi := 9999) g 238 119 rfl
  have b10 := gi_b (lo := 0) (hi := 9999) g 238 67 rfl
  have b11 := gi_b (lo := 0) (hi := 9) g 238 69 rfl
  have b12 := gi_b (lo := 0) (hi := 9) g 238 5 rfl
  have b13 := gi_b (lo := 0) (hi := 11) g 238 86 rfl
  obtain ⟨i14, ei14⟩ : ∃ q : Nat, (43 + h 238 86) = (q : Int) := ⟨(43 + h 238 86).toNat, by omega⟩
  have b15 := gi_b (lo := 0) (hi := 999) g 238 i14 (gi_rg 43 12 (fun _ => rfl) (by decide +kernel) (by omega))
  have e16 : h 238 (43 + (h 238 86).toNat) = h 238 i14 := by rw [show 43 + (h 238 86).toNat = i14 by omega]
  refine wi_aload_n (i := 0) (x := 236) (nx := 1) (r1 := 0) (r2 := 0) (r3 := 0) rfl rfl ?_
  refine wi_iload_n (i := 1) (e := 2) (nx := 2) (r1 := 0) (r2 := 0) (r3 := 0) rfl rfl ?_
  refine wi_iconst (n := 0) (nx := 3) (r1 := 0) (r2 := 0) (r3 := 0) rfl ?_
  refine wr_V (k0 := 236) (rest := []) (as := [.ref 236, vi 2, vi 0]) (nx := 6) (r1 := 258) (r2 := 2) (r3 := 11) rfl rfl rfl (of_decide_eq_true rfl) rfl rfl (by decide) rfl rfl (of_decide_eq_true rfl) (of_decide_eq_true rfl) ?_
  refine wi_aload_n (i := 0) (x := 236) (nx := 1) (r1 := 0) (r2 := 0) (r3 := 0) rfl rfl ?_
  refine wr_gr (k0 := 236) (x := 238) (nx := 4) (r1 := 11) (r2 := 13) (r3 := 0) rfl rfl (by decide) rfl ⟨rfl, rfl⟩ rfl ?_
  refine wi_bipush (n := 74) (nx := 6) (r1 := 0) (r2 := 0) (r3 := 0) rfl (by decide) ?_
  refine wi_bipush (n := 6) (nx := 8) (r1 := 0) (r2 := 0) (r3 := 0) rfl (by decide) ?_
  refine wi_iload_n (i := 1) (e := 2) (nx := 9) (r1 := 0) (r2 := 0) (r3 := 0) rfl rfl ?_
  refine wr_mulL (12) (nx := 10) (r1 := 0) (r2 := 0) (r3 := 0) rfl (by decide) ?_
  refine wr_addL (86) (nx := 11) (r1 := 0) (r2 := 0) (r3 := 0) rfl (by decide) ?_
  refine wi_iload_n (i := 2) (e := 0) (nx := 12) (r1 := 0) (r2 := 0) (r3 := 0) rfl rfl ?_
  refine wr_addL (86) (nx := 13) (r1 := 0) (r2 := 0) (r3 := 0) rfl (by decide) ?_
  refine wr_ia (k0 := 238) (a := 86) (f := 86) (x := h 238 86) (nx := 14) (r1 := 0) (r2 := 0) (r3 := 0) rfl (by decide) rfl (by omega) (by omega) (by decide) rfl ?_
  refine wi_ireturn (nx := 15) (r1 := 0) (r2 := 0) (r3 := 0) rfl rfl ?_
  refine wk_i ?_
  refine wi_istore_n (i := 2) (e := h 238 86) (lo2 := [(2, vi (h 238 86)), (0, .ref 236), (1, vi 2)]) (nx := 7) (r1 := 0) (r2 := 0) (r3 := 0) rfl rfl ?_
  refine wi_aload_n (i := 0) (x := 236) (nx := 8) (r1 := 0) (r2 := 0) (r3 := 0) rfl rfl ?_
  refine wr_gr (k0 := 236) (x := 238) (nx := 11) (r1 := 11) (r2 := 13) (r3 := 0) rfl rfl (by decide) rfl ⟨rfl, rfl⟩ rfl ?_
  refine wi_bipush (n := 98) (nx := 13) (r1 := 0) (r2 := 0) (r3 := 0) rfl (by decide) ?_
  refine wi_iload_n (i := 1) (e := 2) (nx := 14) (r1 := 0) (r2 := 0) (r3 := 0) rfl rfl ?_
  refine wr_addL (100) (nx := 15) (r1 := 0) (r2 := 0) (r3 := 0) rfl (by decide) ?_
  refine wi_dup2 (nx := 16) (r1 := 0) (r2 := 0) (r3 := 0) rfl rfl rfl ?_
  refine wr_ia (k0 := 238) (a := 100) (f := 100) (x := h 238 100) (nx := 17) (r1 := 0) (r2 := 0) (r3 := 0) rfl (by decide) rfl (by omega) (by omega) (by decide) rfl ?_
  refine wi_iconst (n := 1) (nx := 18) (r1 := 0) (r2 := 0) (r3 := 0) rfl ?_
  refine wr_sub (nx := 19) (r1 := 0) (r2 := 0) (r3 := 0) rfl (fun e17 (fe17 : e17 = (h 238 100) - 1) => ?_)
  refine wr_is (k0 := 238) (a := 100) (f := 100) (x := e17) (bl := 0) (bh := 6) (nx := 20) (r1 := 0) (r2 := 0) (r3 := 0) rfl (by decide) rfl (by omega) (by omega) (by decide) g rfl (by omega) (fun h18 g18 w18 u18 => ?_)
  have F19 := F0.then rfl u18
  refine wi_iconst (n := 0) (nx := 21) (r1 := 0) (r2 := 0) (r3 := 0) rfl ?_
  refine wi_istore_n (i := 3) (e := 0) (lo2 := [(3, vi 0), (2, vi (h 238 86)), (0, .ref 236), (1, vi 2)]) (nx := 22) (r1 := 0) (r2 := 0) (r3 := 0) rfl rfl ?_
  refine wp.lo (lo := [(0, .ref 236), (1, vi 2), (2, vi (h 238 86)), (3, vi 0)]) ⟨rfl, rfl, rfl, rfl, trivial⟩ rfl ?_
  refine wl_1 (fun x20 h21 => GI h21 ∧ FR [(238, 238, some (43, 54)), (238, 238, some (55, 66)), (238, 238, some (67, 67)), (238, 238, some (68, 68)), (238, 238, some (69, 69)), (238, 238, some (70, 70)), (238, 238, some (71, 71)), (238, 238, some (72, 72)), (238, 238, some (86, 90)), (238, 238, some (100, 100)), (238, 238, some (102, 102)), (238, 238, some (103, 105)), (238, 238, some (106, 106)), (238, 238, some (107, 118)), (238, 238, some (119, 119)), (238, 238, some (120, 196)), (238, 238, some (121, 197)), (238, 238, some (122, 198)), (238, 238, some (123, 199))] h h21 ∧ FR [(238, 238, some (86, 90))] h18 h21 ∧ ((0 ≤ x20 ∧ x20 ≤ 5))) (fun x20 h21 => ((5 : Int) + 1 - x20).toNat) (fun x20 h21 => (22, [(0, .ref 236), (1, vi 2), (2, vi (h 238 86)), (3, vi x20)], [], hp_w h21 cr, b, c)) ?_ 0 h18 ⟨g18, F19, FR.refl, (show (0 ≤ 0 ∧ 0 ≤ 5) by omega)⟩
  intro x20 h21 ⟨g21, F22, u21, f21⟩ I21
  refine wi_iload_n (i := 3) (e := x20) (nx := 23) (r1 := 0) (r2 := 0) (r3 := 0) rfl rfl ?_
  refine wi_aload_n (i := 0) (x := 236) (nx := 24) (r1 := 0) (r2 := 0) (r3 := 0) rfl rfl ?_
  refine wr_gr (k0 := 236) (x := 238) (nx := 27) (r1 := 11) (r2 := 13) (r3 := 0) rfl rfl (by decide) rfl ⟨rfl, rfl⟩ rfl ?_
  refine wi_bipush (n := 98) (nx := 29) (r1 := 0) (r2 := 0) (r3 := 0) rfl (by decide) ?_
  refine wi_iload_n (i := 1) (e := 2) (nx := 30) (r1 := 0) (r2 := 0) (r3 := 0) rfl rfl ?_
  refine wr_addL (100) (nx := 31) (r1 := 0) (r2 := 0) (r3 := 0) rfl (by decide) ?_
  refine wr_ia (k0 := 238) (a := 100) (f := 100) (x := e17) (nx := 32) (r1 := 0) (r2 := 0) (r3 := 0) rfl (by decide) rfl (by omega) (by omega) (by decide) ((u21 238 100 rfl).trans w18) ?_
  refine wi_icmp (cd := .ge) (nx := 35) (r1 := 71) (r2 := 0) (r3 := 0) rfl (by omega) (by omega) (fun (q23 : e17 ≤ x20) => ?_) (fun (q23 : ¬ (e17 ≤ x20)) => ?_)
  ·
    refine wi_aload_n (i := 0) (x := 236) (nx := 72) (r1 := 0) (r2 := 0) (r3 := 0) rfl rfl ?_
    refine wi_iload_n (i := 2) (e := h 238 86) (nx := 73) (r1 := 0) (r2 := 0) (r3 := 0) rfl rfl ?_
    refine wr_V (k0 := 236) (rest := []) (as := [.ref 236, vi (h 238 86)]) (nx := 76) (r1 := 283) (r2 := 1) (r3 := 11) rfl rfl rfl (of_decide_eq_true rfl) rfl rfl (by decide) rfl rfl (of_decide_eq_true rfl) (of_decide_eq_true rfl) ?_
    have e25 : h21 238 67 = h 238 67 := ((u21 238 67 rfl).trans (u18 238 67 rfl))
    have e26 : h21 238 119 = h 238 119 := ((u21 238 119 rfl).trans (u18 238 119 rfl))
    have e27 : h21 238 69 = h 238 69 := ((u21 238 69 rfl).trans (u18 238 69 rfl))
    have e28 : h21 238 5 = h 238 5 := ((u21 238 5 rfl).trans (u18 238 5 rfl))
    refine ct_283_236 hcr  g21 (h 238 86) (by omega) (show (h21 238 67) ≤ 9998 by omega) (show (h21 238 119) ≤ (h21 238 67) by omega) (show (h21 238 69) ≤ (h21 238 5) by omega) (show 1 ≤ (h21 238 5) by omega) (fun h24 g24 u24 (p24_0 : (h24 238 119) ≤ (h24 238 67)) (p24_1 : (h24 238 69) ≤ (h24 238 5)) => ?_)
    have F29 := F22.then (by decide +kernel) u24
    have b30 := gi_b (lo := 0) (hi := 9999) g24 238 119 rfl
    have b31 := gi_b (lo := 0) (hi := 9999) g24 238 67 rfl
    have b32 := gi_b (lo := 0) (hi := 9) g24 238 69 rfl
    have e33 : h24 238 5 = h 238 5 := ((u24 238 5 rfl).trans ((u21 238 5 rfl).trans (u18 238 5 rfl)))
    refine wk_n ?_
    refine wi_aload_n (i := 0) (x := 236) (nx := 77) (r1 := 0) (r2 := 0) (r3 := 0) rfl rfl ?_
    refine wr_gr (k0 := 236) (x := 238) (nx := 80) (r1 := 11) (r2 := 13) (r3 := 0) rfl rfl (by decide) rfl ⟨rfl, rfl⟩ rfl ?_
    refine wi_bipush (n := 43) (nx := 82) (r1 := 0) (r2 := 0) (r3 := 0) rfl (by decide) ?_
    refine wi_iload_n (i := 2) (e := h 238 86) (nx := 83) (r1 := 0) (r2 := 0) (r3 := 0) rfl rfl ?_
    refine wr_add (nx := 84) (r1 := 0) (r2 := 0) (r3 := 0) rfl (fun e34 (fe34 : e34 = 43 + (h 238 86)) => ?_)
    refine wr_ia (k0 := 238) (a := e34) (f := i14) (x := h 238 i14) (nx := 85) (r1 := 0) (r2 := 0) (r3 := 0) rfl (by decide) rfl (by omega) (by omega) (by decide) ((u24 238 i14 (fo_lk (m := 67) (by omega) rfl)).trans ((u21 238 i14 (fn_i (by omega) fn_0)).trans (u18 238 i14 (fn_i (by omega) fn_0)))) ?_
    refine wi_if (cd := .ne) (nx := 88) (r1 := 117) (r2 := 0) (r3 := 0) rfl (by omega) (fun (q35 : (h 238 i14) ≠ 0) => ?_) (fun (q35 : ¬ ((h 238 i14) ≠ 0)) => ?_)
    ·
      refine wi_aload_n (i := 0) (x := 236) (nx := 118) (r1 := 0) (r2 := 0) (r3 := 0) rfl rfl ?_
      refine wr_gr (k0 := 236) (x := 238) (nx := 121) (r1 := 11) (r2 := 13) (r3 := 0) rfl rfl (by decide) rfl ⟨rfl, rfl⟩ rfl ?_
      refine wi_bipush (n := 43) (nx := 123) (r1 := 0) (r2 := 0) (r3 := 0) rfl (by decide) ?_
      refine wi_iload_n (i := 2) (e := h 238 86) (nx := 124) (r1 := 0) (r2 := 0) (r3 := 0) rfl rfl ?_
      refine wr_add (nx := 125) (r1 := 0) (r2 := 0) (r3 := 0) rfl (fun e36 (fe36 : e36 = 43 + (h 238 86)) => ?_)
      refine wi_dup2 (nx := 126) (r1 := 0) (r2 := 0) (r3 := 0) rfl rfl rfl ?_
      refine wr_ia (k0 := 238) (a := e36) (f := i14) (x := h 238 i14) (nx := 127) (r1 := 0) (r2 := 0) (r3 := 0) rfl (by decide) rfl (by omega) (by omega) (by decide) ((u24 238 i14 (fo_lk (m := 67) (by omega) rfl)).trans ((u21 238 i14 (fn_i (by omega) fn_0)).trans (u18 238 i14 (fn_i (by omega) fn_0)))) ?_
      refine wi_iconst (n := 1) (nx := 128) (r1 := 0) (r2 := 0) (r3 := 0) rfl ?_
      refine wr_sub (nx := 129) (r1 := 0) (r2 := 0) (r3 := 0) rfl (fun e37 (fe37 : e37 = (h 238 i14) - 1) => ?_)
      refine wr_is (k0 := 238) (a := e36) (f := i14) (x := e37) (bl := 0) (bh := 999) (nx := 130) (r1 := 0) (r2 := 0) (r3 := 0) rfl (by decide) rfl (by omega) (by omega) (by decide) g24 (gi_rg 43 12 (fun _ => rfl) (by decide +kernel) (by omega)) (by omega) (fun h38 g38 w38 u38 => ?_)
      have F39 := F29.then rfl (FR.idx (p := 43) (q := 54) u38 (by omega))
      refine wi_aload_n (i := 0) (x := 236) (nx := 131) (r1 := 0) (r2 := 0) (r3 := 0) rfl rfl ?_
      refine wr_gr (k0 := 236) (x := 238) (nx := 134) (r1 := 11) (r2 := 13) (r3 := 0) rfl rfl (by decide) rfl ⟨rfl, rfl⟩ rfl ?_
      refine wi_bipush (n := 55) (nx := 136) (r1 := 0) (r2 := 0) (r3 := 0) rfl (by decide) ?_
      refine wi_iload_n (i := 2) (e := h 238 86) (nx := 137) (r1 := 0) (r2 := 0) (r3 := 0) rfl rfl ?_
      refine wr_add (nx := 138) (r1 := 0) (r2 := 0) (r3 := 0) rfl (fun e40 (fe40 : e40 = 55 + (h 238 86)) => ?_)
      refine wi_aload_n (i := 0) (x := 236) (nx := 139) (r1 := 0) (r2 := 0) (r3 := 0) rfl rfl ?_
      refine wr_gr (k0 := 236) (x := 238) (nx := 142) (r1 := 11) (r2 := 13) (r3 := 0) rfl rfl (by decide) rfl ⟨rfl, rfl⟩ rfl ?_
      refine wi_bipush (n := 67) (nx := 144) (r1 := 0) (r2 := 0) (r3 := 0) rfl (by decide) ?_
      refine wr_ia (k0 := 238) (a := 67) (f := 67) (x := h24 238 67) (nx := 145) (r1 := 0) (r2 := 0) (r3 := 0) rfl (by decide) rfl (by omega) (by omega) (by decide) (u38 238 67 (fn_i (by omega) fn_0)) ?_
      refine wi_aload_n (i := 0) (x := 236) (nx := 146) (r1 := 0) (r2 := 0) (r3 := 0) rfl rfl ?_
      refine wr_gr (k0 := 236) (x := 238) (nx := 149) (r1 := 11) (r2 := 13) (r3 := 0) rfl rfl (by decide) rfl ⟨rfl, rfl⟩ rfl ?_
      refine wi_bipush (n := 8) (nx := 151) (r1 := 0) (r2 := 0) (r3 := 0) rfl (by decide) ?_
      have b41 := gi_b (lo := 0) (hi := 999) g 238 8 rfl
      refine wr_ia (k0 := 238) (a := 8) (f := 8) (x := h 238 8) (nx := 152) (r1 := 0) (r2 := 0) (r3 := 0) rfl (by decide) rfl (by omega) (by omega) (by decide) ((u38 238 8 (fn_i (by omega) fn_0)).trans ((u24 238 8 rfl).trans ((u21 238 8 rfl).trans (u18 238 8 rfl)))) ?_
      refine wr_add (nx := 153) (r1 := 0) (r2 := 0) (r3 := 0) rfl (fun e42 (fe42 : e42 = (h24 238 67) + (h 238 8)) => ?_)
      obtain ⟨i43, ei43⟩ : ∃ q : Nat, e40 = (q : Int) := ⟨(e40).toNat, by omega⟩
      refine wr_is (k0 := 238) (a := e40) (f := i43) (x := e42) (bl := 0) (bh := 20000) (nx := 154) (r1 := 0) (r2 := 0) (r3 := 0) rfl (by decide) rfl (by omega) (by omega) (by decide) g38 (gi_rg 55 12 (fun _ => rfl) (by decide +kernel) (by omega)) (by omega) (fun h44 g44 w44 u44 => ?_)
      have F45 := F39.then rfl (FR.idx (p := 55) (q := 66) u44 (by omega))
      refine wi_aload_n (i := 0) (x := 236) (nx := 155) (r1 := 0) (r2 := 0) (r3 := 0) rfl rfl ?_
      refine wr_gr (k0 := 236) (x := 238) (nx := 158) (r1 := 11) (r2 := 13) (r3 := 0) rfl rfl (by decide) rfl ⟨rfl, rfl⟩ rfl ?_
      refine wi_bipush (n := 103) (nx := 160) (r1 := 0) (r2 := 0) (r3 := 0) rfl (by decide) ?_
      refine wi_aload_n (i := 0) (x := 236) (nx := 161) (r1 := 0) (r2 := 0) (r3 := 0) rfl rfl ?_
      refine wr_gr (k0 := 236) (x := 238) (nx := 164) (r1 := 11) (r2 := 13) (r3 := 0) rfl rfl (by decide) rfl ⟨rfl, rfl⟩ rfl ?_
      refine wi_bipush (n := 102) (nx := 166) (r1 := 0) (r2 := 0) (r3 := 0) rfl (by decide) ?_
      refine wr_ia (k0 := 238) (a := 102) (f := 102) (x := h 238 102) (nx := 167) (r1 := 0) (r2 := 0) (r3 := 0) rfl (by decide) rfl (by omega) (by omega) (by decide) ((u44 238 102 (fn_i (by omega) fn_0)).trans ((u38 238 102 (fn_i (by omega) fn_0)).trans ((u24 238 102 rfl).trans ((u21 238 102 rfl).trans (u18 238 102 rfl))))) ?_
      refine wr_add (nx := 168) (r1 := 0) (r2 := 0) (r3 := 0) rfl (fun e46 (fe46 : e46 = 103 + (h 238 102)) => ?_)
      refine wi_iload_n (i := 2) (e := h 238 86) (nx := 169) (r1 := 0) (r2 := 0) (r3 := 0) rfl rfl ?_
      obtain ⟨i47, ei47⟩ : ∃ q : Nat, e46 = (q : Int) := ⟨(e46).toNat, by omega⟩
      refine wr_is (k0 := 238) (a := e46) (f := i47) (x := h 238 86) (bl := 0) (bh := 11) (nx := 170) (r1 := 0) (r2 := 0) (r3 := 0) rfl (by decide) rfl (by omega) (by omega) (by decide) g44 (gi_rg 103 3 (fun _ => rfl) (by decide +kernel) (by omega)) (by omega) (fun h48 g48 w48 u48 => ?_)
      have F49 := F45.then rfl (FR.idx (p := 103) (q := 105) u48 (by omega))
      refine wi_aload_n (i := 0) (x := 236) (nx := 171) (r1 := 0) (r2 := 0) (r3 := 0) rfl rfl ?_
      refine wr_gr (k0 := 236) (x := 238) (nx := 174) (r1 := 11) (r2 := 13) (r3 := 0) rfl rfl (by decide) rfl ⟨rfl, rfl⟩ rfl ?_
      refine wi_bipush (n := 102) (nx := 176) (r1 := 0) (r2 := 0) (r3 := 0) rfl (by decide) ?_
      refine wi_dup2 (nx := 177) (r1 := 0) (r2 := 0) (r3 := 0) rfl rfl rfl ?_
      refine wr_ia (k0 := 238) (a := 102) (f := 102) (x := h 238 102) (nx := 178) (r1 := 0) (r2 := 0) (r3 := 0) rfl (by decide) rfl (by omega) (by omega) (by decide) ((u48 238 102 (fn_i (by omega) fn_0)).trans ((u44 238 102 (fn_i (by omega) fn_0)).trans ((u38 238 102 (fn_i (by omega) fn_0)).trans ((u24 238 102 rfl).trans ((u21 238 102 rfl).trans (u18 238 102 rfl)))))) ?_
      refine wi_iconst (n := 1) (nx := 179) (r1 := 0) (r2 := 0) (r3 := 0) rfl ?_
      refine wr_add (nx := 180) (r1 := 0) (r2 := 0) (r3 := 0) rfl (fun e50 (fe50 : e50 = (h 238 102) + 1) => ?_)
      refine wr_is (k0 := 238) (a := 102) (f := 102) (x := e50) (bl := 0) (bh := 3) (nx := 181) (r1 := 0) (r2 := 0) (r3 := 0) rfl (by decide) rfl (by omega) (by omega) (by decide) g48 rfl (by omega) (fun h51 g51 w51 u51 => ?_)
      have F52 := F49.then rfl u51
      refine wi_iload_n (i := 2) (e := h 238 86) (nx := 182) (r1 := 0) (r2 := 0) (r3 := 0) rfl rfl ?_
      refine wi_ireturn (nx := 183) (r1 := 0) (r2 := 0) (r3 := 0) rfl rfl ?_
      have e53 : h51 238 98 = h 238 98 := ((u51 238 98 rfl).trans ((u48 238 98 (fn_i (by omega) fn_0)).trans ((u44 238 98 (fn_i (by omega) fn_0)).trans ((u38 238 98 (fn_i (by omega) fn_0)).trans ((u24 238 98 rfl).trans ((u21 238 98 rfl).trans (u18 238 98 rfl)))))))
      have e54 : h51 238 99 = h 238 99 := ((u51 238 99 rfl).trans ((u48 238 99 (fn_i (by omega) fn_0)).trans ((u44 238 99 (fn_i (by omega) fn_0)).trans ((u38 238 99 (fn_i (by omega) fn_0)).trans ((u24 238 99 rfl).trans ((u21 238 99 rfl).trans (u18 238 99 rfl)))))))
      have e55 : h51 238 100 = e17 := ((u51 238 100 rfl).trans ((u48 238 100 (fn_i (by omega) fn_0)).trans ((u44 238 100 (fn_i (by omega) fn_0)).trans ((u38 238 100 (fn_i (by omega) fn_0)).trans ((u24 238 100 rfl).trans ((u21 238 100 rfl).trans w18))))))
      have e56 : h51 238 101 = h 238 101 := ((u51 238 101 rfl).trans ((u48 238 101 (fn_i (by omega) fn_0)).trans ((u44 238 101 (fn_i (by omega) fn_0)).trans ((u38 238 101 (fn_i (by omega) fn_0)).trans ((u24 238 101 rfl).trans ((u21 238 101 rfl).trans (u18 238 101 rfl)))))))
      have e57 : h51 238 102 = e50 := w51
      have e58 : h51 238 106 = h 238 106 := ((u51 238 106 rfl).trans ((u48 238 106 (fn_i (by omega) fn_0)).trans ((u44 238 106 (fn_i (by omega) fn_0)).trans ((u38 238 106 (fn_i (by omega) fn_0)).trans ((u24 238 106 rfl).trans ((u21 238 106 rfl).trans (u18 238 106 rfl)))))))
      have e59 : h51 238 73 = h 238 73 := ((u51 238 73 rfl).trans ((u48 238 73 (fn_i (by omega) fn_0)).trans ((u44 238 73 (fn_i (by omega) fn_0)).trans ((u38 238 73 (fn_i (by omega) fn_0)).trans ((u24 238 73 rfl).trans ((u21 238 73 rfl).trans (u18 238 73 rfl)))))))
      have e60 : h51 238 2 = h 238 2 := ((u51 238 2 rfl).trans ((u48 238 2 (fn_i (by omega) fn_0)).trans ((u44 238 2 (fn_i (by omega) fn_0)).trans ((u38 238 2 (fn_i (by omega) fn_0)).trans ((u24 238 2 rfl).trans ((u21 238 2 rfl).trans (u18 238 2 rfl)))))))
      have e61 : h51 238 119 = h24 238 119 := ((u51 238 119 rfl).trans ((u48 238 119 (fn_i (by omega) fn_0)).trans ((u44 238 119 (fn_i (by omega) fn_0)).trans (u38 238 119 (fn_i (by omega) fn_0)))))
      have e62 : h51 238 67 = h24 238 67 := ((u51 238 67 rfl).trans ((u48 238 67 (fn_i (by omega) fn_0)).trans ((u44 238 67 (fn_i (by omega) fn_0)).trans (u38 238 67 (fn_i (by omega) fn_0)))))
      have e63 : h51 238 69 = h24 238 69 := ((u51 238 69 rfl).trans ((u48 238 69 (fn_i (by omega) fn_0)).trans ((u44 238 69 (fn_i (by omega) fn_0)).trans (u38 238 69 (fn_i (by omega) fn_0)))))
      have e64 : h51 238 5 = h 238 5 := ((u51 238 5 rfl).trans ((u48 238 5 (fn_i (by omega) fn_0)).trans ((u44 238 5 (fn_i (by omega) fn_0)).trans ((u38 238 5 (fn_i (by omega) fn_0)).trans ((u24 238 5 rfl).trans ((u21 238 5 rfl).trans (u18 238 5 rfl)))))))
      exact k h51 (h 238 86) g51 F52 (by omega) (show (h51 238 98) + (h51 238 99) + (h51 238 100) + (h51 238 101) + (h51 238 102) + (h51 238 106) = (h51 238 73) by omega) (show (h51 238 73) ≤ (h51 238 2) by omega) (show (h51 238 119) ≤ (h51 238 67) by omega) (show (h51 238 69) ≤ (h51 238 5) by omega) (show (h51 238 2) ≤ 12 * (h51 238 5) by omega)
    ·
      refine wi_aload_n (i := 0) (x := 236) (nx := 89) (r1 := 0) (r2 := 0) (r3 := 0) rfl rfl ?_
      refine wr_gr (k0 := 236) (x := 238) (nx := 92) (r1 := 11) (r2 := 13) (r3 := 0) rfl rfl (by decide) rfl ⟨rfl, rfl⟩ rfl ?_
      refine wi_bipush (n := 107) (nx := 94) (r1 := 0) (r2 := 0) (r3 := 0) rfl (by decide) ?_
      refine wi_aload_n (i := 0) (x := 236) (nx := 95) (r1 := 0) (r2 := 0) (r3 := 0) rfl rfl ?_
      refine wr_gr (k0 := 236) (x := 238) (nx := 98) (r1 := 11) (r2 := 13) (r3 := 0) rfl rfl (by decide) rfl ⟨rfl, rfl⟩ rfl ?_
      refine wi_bipush (n := 106) (nx := 100) (r1 := 0) (r2 := 0) (r3 := 0) rfl (by decide) ?_
      refine wr_ia (k0 := 238) (a := 106) (f := 106) (x := h 238 106) (nx := 101) (r1 := 0) (r2 := 0) (r3 := 0) rfl (by decide) rfl (by omega) (by omega) (by decide) ((u24 238 106 rfl).trans ((u21 238 106 rfl).trans (u18 238 106 rfl))) ?_
      refine wr_add (nx := 102) (r1 := 0) (r2 := 0) (r3 := 0) rfl (fun e36 (fe36 : e36 = 107 + (h 238 106)) => ?_)
      refine wi_iload_n (i := 2) (e := h 238 86) (nx := 103) (r1 := 0) (r2 := 0) (r3 := 0) rfl rfl ?_
      obtain ⟨i37, ei37⟩ : ∃ q : Nat, e36 = (q : Int) := ⟨(e36).toNat, by omega⟩
      refine wr_is (k0 := 238) (a := e36) (f := i37) (x := h 238 86) (bl := 0) (bh := 11) (nx := 104) (r1 := 0) (r2 := 0) (r3 := 0) rfl (by decide) rfl (by omega) (by omega) (by decide) g24 (gi_rg 107 12 (fun _ => rfl) (by decide +kernel) (by omega)) (by omega) (fun h38 g38 w38 u38 => ?_)
      have F39 := F29.then rfl (FR.idx (p := 107) (q := 118) u38 (by omega))
      refine wi_aload_n (i := 0) (x := 236) (nx := 105) (r1 := 0) (r2 := 0) (r3 := 0) rfl rfl ?_
      refine wr_gr (k0 := 236) (x := 238) (nx := 108) (r1 := 11) (r2 := 13) (r3 := 0) rfl rfl (by decide) rfl ⟨rfl, rfl⟩ rfl ?_
      refine wi_bipush (n := 106) (nx := 110) (r1 := 0) (r2 := 0) (r3 := 0) rfl (by decide) ?_
      refine wi_dup2 (nx := 111) (r1 := 0) (r2 := 0) (r3 := 0) rfl rfl rfl ?_
      refine wr_ia (k0 := 238) (a := 106) (f := 106) (x := h 238 106) (nx := 112) (r1 := 0) (r2 := 0) (r3 := 0) rfl (by decide) rfl (by omega) (by omega) (by decide) ((u38 238 106 (fn_i (by omega) fn_0)).trans ((u24 238 106 rfl).trans ((u21 238 106 rfl).trans (u18 238 106 rfl)))) ?_
      refine wi_iconst (n := 1) (nx := 113) (r1 := 0) (r2 := 0) (r3 := 0) rfl ?_
      refine wr_add (nx := 114) (r1 := 0) (r2 := 0) (r3 := 0) rfl (fun e40 (fe40 : e40 = (h 238 106) + 1) => ?_)
      refine wr_is (k0 := 238) (a := 106) (f := 106) (x := e40) (bl := 0) (bh := 12) (nx := 115) (r1 := 0) (r2 := 0) (r3 := 0) rfl (by decide) rfl (by omega) (by omega) (by decide) g38 rfl (by omega) (fun h41 g41 w41 u41 => ?_)
      have F42 := F39.then rfl u41
      refine wi_iload_n (i := 2) (e := h 238 86) (nx := 116) (r1 := 0) (r2 := 0) (r3 := 0) rfl rfl ?_
      refine wi_ireturn (nx := 117) (r1 := 0) (r2 := 0) (r3 := 0) rfl rfl ?_
      have e43 : h41 238 98 = h 238 98 := ((u41 238 98 rfl).trans ((u38 238 98 (fn_i (by omega) fn_0)).trans ((u24 238 98 rfl).trans ((u21 238 98 rfl).trans (u18 238 98 rfl)))))
      have e44 : h41 238 99 = h 238 99 := ((u41 238 99 rfl).trans ((u38 238 99 (fn_i (by omega) fn_0)).trans ((u24 238 99 rfl).trans ((u21 238 99 rfl).trans (u18 238 99 rfl)))))
      have e45 : h41 238 100 = e17 := ((u41 238 100 rfl).trans ((u38 238 100 (fn_i (by omega) fn_0)).trans ((u24 238 100 rfl).trans ((u21 238 100 rfl).trans w18))))
      have e46 : h41 238 101 = h 238 101 := ((u41 238 101 rfl).trans ((u38 238 101 (fn_i (by omega) fn_0)).trans ((u24 238 101 rfl).trans ((u21 238 101 rfl).trans (u18 238 101 rfl)))))
      have e47 : h41 238 102 = h 238 102 := ((u41 238 102 rfl).trans ((u38 238 102 (fn_i (by omega) fn_0)).trans ((u24 238 102 rfl).trans ((u21 238 102 rfl).trans (u18 238 102 rfl)))))
      have e48 : h41 238 106 = e40 := w41
      have e49 : h41 238 73 = h 238 73 := ((u41 238 73 rfl).trans ((u38 238 73 (fn_i (by omega) fn_0)).trans ((u24 238 73 rfl).trans ((u21 238 73 rfl).trans (u18 238 73 rfl)))))
      have e50 : h41 238 2 = h 238 2 := ((u41 238 2 rfl).trans ((u38 238 2 (fn_i (by omega) fn_0)).trans ((u24 238 2 rfl).trans ((u21 238 2 rfl).trans (u18 238 2 rfl)))))
      have e51 : h41 238 119 = h24 238 119 := ((u41 238 119 rfl).trans (u38 238 119 (fn_i (by omega) fn_0)))
      have e52 : h41 238 67 = h24 238 67 := ((u41 238 67 rfl).trans (u38 238 67 (fn_i (by omega) fn_0)))
      have e53 : h41 238 69 = h24 238 69 := ((u41 238 69 rfl).trans (u38 238 69 (fn_i (by omega) fn_0)))
      have e54 : h41 238 5 = h 238 5 := ((u41 238 5 rfl).trans ((u38 238 5 (fn_i (by omega) fn_0)).trans ((u24 238 5 rfl).trans ((u21 238 5 rfl).trans (u18 238 5 rfl)))))
      exact k h41 (h 238 86) g41 F42 (by omega) (show (h41 238 98) + (h41 238 99) + (h41 238 100) + (h41 238 101) + (h41 238 102) + (h41 238 106) = (h41 238 73) by omega) (show (h41 238 73) ≤ (h41 238 2) by omega) (show (h41 238 119) ≤ (h41 238 67) by omega) (show (h41 238 69) ≤ (h41 238 5) by omega) (show (h41 238 2) ≤ 12 * (h41 238 5) by omega)
  ·
    refine wi_aload_n (i := 0) (x := 236) (nx := 36) (r1 := 0) (r2 := 0) (r3 := 0) rfl rfl ?_
    refine wr_gr (k0 := 236) (x := 238) (nx := 39) (r1 := 11) (r2 := 13) (r3 := 0) rfl rfl (by decide) rfl ⟨rfl, rfl⟩ rfl ?_
    refine wi_bipush (n := 74) (nx := 41) (r1 := 0) (r2 := 0) (r3 := 0) rfl (by decide) ?_
    refine wi_bipush (n := 6) (nx := 43) (r1 := 0) (r2 := 0) (r3 := 0) rfl (by decide) ?_
    refine wi_iload_n (i := 1) (e := 2) (nx := 44) (r1 := 0) (r2 := 0) (r3 := 0) rfl rfl ?_
    refine wr_mulL (12) (nx := 45) (r1 := 0) (r2 := 0) (r3 := 0) rfl (by decide) ?_
    refine wr_addL (86) (nx := 46) (r1 := 0) (r2 := 0) (r3 := 0) rfl (by decide) ?_
    refine wi_iload_n (i := 3) (e := x20) (nx := 47) (r1 := 0) (r2 := 0) (r3 := 0) rfl rfl ?_
    refine wr_add (nx := 48) (r1 := 0) (r2 := 0) (r3 := 0) rfl (fun e24 (fe24 : e24 = 86 + x20) => ?_)
    refine wi_aload_n (i := 0) (x := 236) (nx := 49) (r1 := 0) (r2 := 0) (r3 := 0) rfl rfl ?_
    refine wr_gr (k0 := 236) (x := 238) (nx := 52) (r1 := 11) (r2 := 13) (r3 := 0) rfl rfl (by decide) rfl ⟨rfl, rfl⟩ rfl ?_
    refine wi_bipush (n := 74) (nx := 54) (r1 := 0) (r2 := 0) (r3 := 0) rfl (by decide) ?_
    refine wi_bipush (n := 6) (nx := 56) (r1 := 0) (r2 := 0) (r3 := 0) rfl (by decide) ?_
    refine wi_iload_n (i := 1) (e := 2) (nx := 57) (r1 := 0) (r2 := 0) (r3 := 0) rfl rfl ?_
    refine wr_mulL (12) (nx := 58) (r1 := 0) (r2 := 0) (r3 := 0) rfl (by decide) ?_
    refine wr_addL (86) (nx := 59) (r1 := 0) (r2 := 0) (r3 := 0) rfl (by decide) ?_
    refine wi_iload_n (i := 3) (e := x20) (nx := 60) (r1 := 0) (r2 := 0) (r3 := 0) rfl rfl ?_
    refine wr_add (nx := 61) (r1 := 0) (r2 := 0) (r3 := 0) rfl (fun e25 (fe25 : e25 = 86 + x20) => ?_)
    refine wi_iconst (n := 1) (nx := 62) (r1 := 0) (r2 := 0) (r3 := 0) rfl ?_
    refine wr_add (nx := 63) (r1 := 0) (r2 := 0) (r3 := 0) rfl (fun e26 (fe26 : e26 = e25 + 1) => ?_)
    obtain ⟨i27, ei27⟩ : ∃ q : Nat, e26 = (q : Int) := ⟨(e26).toNat, by omega⟩
    have b28 := gi_b (lo := 0) (hi := 11) g21 238 i27 (gi_rg 87 5 (fun _ => rfl) (by decide +kernel) (by omega))
    refine wr_ia (k0 := 238) (a := e26) (f := i27) (x := h21 238 i27) (nx := 64) (r1 := 0) (r2 := 0) (r3 := 0) rfl (by decide) rfl (by omega) (by omega) (by decide) rfl ?_
    obtain ⟨i29, ei29⟩ : ∃ q : Nat, e24 = (q : Int) := ⟨(e24).toNat, by omega⟩
    refine wr_is (k0 := 238) (a := e24) (f := i29) (x := h21 238 i27) (bl := 0) (bh := 11) (nx := 65) (r1 := 0) (r2 := 0) (r3 := 0) rfl (by decide) rfl (by omega) (by omega) (by decide) g21 (gi_rg 86 5 (fun _ => rfl) (by decide +kernel) (by omega)) (by omega) (fun h30 g30 w30 u30 => ?_)
    have F31 := F22.then rfl (FR.idx (p := 86) (q := 90) u30 (by omega))
    have F32 := u21.then rfl (FR.idx (p := 86) (q := 90) u30 (by omega))
    refine wr_iinc (i := 3) (n := 1) (v := x20) (fun e33 => [(3, vi e33), (0, .ref 236), (1, vi 2), (2, vi (h 238 86))]) (nx := 68) (r1 := 0) (r2 := 0) (r3 := 0) rfl rfl (fun _ => rfl) (fun e33 (fe33 : e33 = x20 + 1) => ?_)
    refine wi_goto (nx := 71) (r1 := 22) (r2 := 0) (r3 := 0) rfl ?_
    refine wp.lo (lo := [(0, .ref 236), (1, vi 2), (2, vi (h 238 86)), (3, vi e33)]) ⟨rfl, rfl, rfl, rfl, trivial⟩ rfl ?_
    exact I21 e33 h30 ⟨g30, F31, F32, (show (0 ≤ e33 ∧ e33 ≤ 5) by omega)⟩ (show ((5 : Int) + 1 - e33).toNat < ((5 : Int) + 1 - x20).toNat by omega)
-- method 282: Model.leaves(I)I
set_option maxRecDepth 100000 in
set_option maxHeartbeats 100000000 in
theorem ct_282_236_L3 {L : Nat} {xs : Nat → Int32} {d b c : Nat} {h : hp} {cr : Nat → Nat → Option Nat} {Q : hp_Q} (hcr : CR cr)  (g : GI h)   (pp0 : h 238 98 + h 238 99 + h 238 100 + h 238 101 + h 238 102 + h 238 106 = h 238 73) (pp1 : h 238 73 ≤ h 238 2) (pp2 : h 238 119 ≤ h 238 67) (pp3 : h 238 69 ≤ h 238 5) (pp4 : h 238 2 ≤ 12 * h 238 5) (pp5 : 1 ≤ h 238 101) (pp6 : h 238 67 ≤ 9998) (pp7 : h 238 102 ≤ 2 ∨ h 238 (43 + (h 238 92).toNat) ≤ 0) (k : ∀ (h2 : hp) (z0 : Int) , GI h2 → FR [(238, 238, some (43, 54)), (238, 238, some (55, 66)), (238, 238, some (67, 67)), (238, 238, some (68, 68)), (238, 238, some (69, 69)), (238, 238, some (70, 70)), (238, 238, some (71, 71)), (238, 238, some (72, 72)), (238, 238, some (92, 96)), (238, 238, some (101, 101)), (238, 238, some (102, 102)), (238, 238, some (103, 105)), (238, 238, some (106, 106)), (238, 238, some (107, 118)), (238, 238, some (119, 119)), (238, 238, some (120, 196)), (238, 238, some (121, 197)), (238, 238, some (122, 198)), (238, 238, some (123, 199))] h h2 → (0 ≤ z0 ∧ z0 ≤ 11) → (h2 238 98 + h2 238 99 + h2 238 100 + h2 238 101 + h2 238 102 + h2 238 106 = h2 238 73) → (h2 238 73 ≤ h2 238 2) → (h2 238 119 ≤ h2 238 67) → (h2 238 69 ≤ h2 238 5) → (h2 238 2 ≤ 12 * h2 238 5) → Q (.inl (some (vi z0))) (hp_w h2 cr) b c) : wp (md_xa (L, xs)) (d + 2) 282 (0, [(0, .ref 236), (1, vi 3)], [], hp_w h cr, b, c) Q := by
  have F0 : FR [(238, 238, some (43, 54)), (238, 238, some (55, 66)), (238, 238, some (67, 67)), (238, 238, some (68, 68)), (238, 238, some (69, 69)), (238, 238, some (70, 70)), (238, 238, some (71, 71)), (238, 238, some (72, 72)), (238, 238, some (92, 96)), (238, 238, some (101, 101)), (238, 238, some (102, 102)), (238, 238, some (103, 105)), (238, 238, some (106, 106)), (238, 238, some (107, 118)), (238, 238, some (119, 119)), (238, 238, some (120, 196)), (238, 238, some (121, 197)), (238, 238, some (122, 198)), (238, 238, some (123, 199))] h h := FR.refl
  have b1 := gi_b (lo := 0) (hi := 6) g 238 98 rfl
  have b2 := gi_b (lo := 0) (hi := 6) g 238 99 rfl
  have b3 := gi_b (lo := 0) (hi := 6) g 238 100 rfl
  have b4 := gi_b (lo := 0) (hi := 6) g 238 101 rfl
  have b5 := gi_b (lo := 0) (hi := 3) g 238 102 rfl
  have b6 := gi_b (lo := 0) (hi := 12) g 238 106 rfl
  have b7 := gi_b (lo := 0) (hi := 12) g 238 73 rfl
  have b8 := gi_b (lo := 0) (hi := 12) g 238 2 rfl
  have b9 := gi_b (lo := 0) (hi := 9999) g 238 119 rfl
  have b10 := gi_b (lo := 0) (hi := 9999) g 238 67 rfl
  have b11 := gi_b (lo := 0) (hi := 9) g 238 69 rfl
  have b12 := gi_b (lo := 0) (hi := 9) g 238 5 rfl
  have b13 := gi_b (lo := 0) (hi := 11) g 238 92 rfl
  obtain ⟨i14, ei14⟩ : ∃ q : Nat, (43 + h 238 92) = (q : Int) := ⟨(43 + h 238 92).toNat, by omega⟩
  have b15 := gi_b (lo := 0) (hi := 999) g 238 i14 (gi_rg 43 12 (fun _ => rfl) (by decide +kernel) (by omega))
  have e16 : h 238 (43 + (h 238 92).toNat) = h 238 i14 := by rw [show 43 + (h 238 92).toNat = i14 by omega]
  refine wi_aload_n (i := 0) (x := 236) (nx := 1) (r1 := 0) (r2 := 0) (r3 := 0) rfl rfl ?_
  refine wi_iload_n (i := 1) (e := 3) (nx := 2) (r1 := 0) (r2 := 0) (r3 := 0) rfl rfl ?_
  refine wi_iconst (n := 0) (nx := 3) (r1 := 0) (r2 := 0) (r3 := 0) rfl ?_
  refine wr_V (k0 := 236) (rest := []) (as := [.ref 236, vi 3, vi 0]) (nx := 6) (r1 := 258) (r2 := 2) (r3 := 11) rfl rfl rfl (of_decide_eq_true rfl) rfl rfl (by decide) rfl rfl (of_decide_eq_true rfl) (of_decide_eq_true rfl) ?_
  refine wi_aload_n (i := 0) (x := 236) (nx := 1) (r1 := 0) (r2 := 0) (r3 := 0) rfl rfl ?_
  refine wr_gr (k0 := 236) (x := 238) (nx := 4) (r1 := 11) (r2 := 13) (r3 := 0) rfl rfl (by decide) rfl ⟨rfl, rfl⟩ rfl ?_
  refine wi_bipush (n := 74) (nx := 6) (r1 := 0) (r2 := 0) (r3 := 0) rfl (by decide) ?_
  refine wi_bipush (n := 6) (nx := 8) (r1 := 0) (r2 := 0) (r3 := 0) rfl (by decide) ?_
  refine wi_iload_n (i := 1) (e := 3) (nx := 9) (r1 := 0) (r2 := 0) (r3 := 0) rfl rfl ?_
  refine wr_mulL (18) (nx := 10) (r1 := 0) (r2 := 0) (r3 := 0) rfl (by decide) ?_
  refine wr_addL (92) (nx := 11) (r1 := 0) (r2 := 0) (r3 := 0) rfl (by decide) ?_
  refine wi_iload_n (i := 2) (e := 0) (nx := 12) (r1 := 0) (r2 := 0) (r3 := 0) rfl rfl ?_
  refine wr_addL (92) (nx := 13) (r1 := 0) (r2 := 0) (r3 := 0) rfl (by decide) ?_
  refine wr_ia (k0 := 238) (a := 92) (f := 92) (x := h 238 92) (nx := 14) (r1 := 0) (r2 := 0) (r3 := 0) rfl (by decide) rfl (by omega) (by omega) (by decide) rfl ?_
  refine wi_ireturn (nx := 15) (r1 := 0) (r2 := 0) (r3 := 0) rfl rfl ?_
  refine wk_i ?_
  refine wi_istore_n (i := 2) (e := h 238 92) (lo2 := [(2, vi (h 238 92)), (0, .ref 236), (1, vi 3)]) (nx := 7) (r1 := 0) (r2 := 0) (r3 := 0) rfl rfl ?_
  refine wi_aload_n (i := 0) (x := 236) (nx := 8) (r1 := 0) (r2 := 0) (r3 := 0) rfl rfl ?_
  refine wr_gr (k0 := 236) (x := 238) (nx := 11) (r1 := 11) (r2 := 13) (r3 := 0) rfl rfl (by decide) rfl ⟨rfl, rfl⟩ rfl ?_
  refine wi_bipush (n := 98) (nx := 13) (r1 := 0) (r2 := 0) (r3 := 0) rfl (by decide) ?_
  refine wi_iload_n (i := 1) (e := 3) (nx := 14) (r1 := 0) (r2 := 0) (r3 := 0) rfl rfl ?_
  refine wr_addL (101) (nx := 15) (r1 := 0) (r2 := 0) (r3 := 0) rfl (by decide) ?_
  refine wi_dup2 (nx := 16) (r1 := 0) (r2 := 0) (r3 := 0) rfl rfl rfl ?_
  refine wr_ia (k0 := 238) (a := 101) (f := 101) (x := h 238 101) (nx := 17) (r1 := 0) (r2 := 0) (r3 := 0) rfl (by decide) rfl (by omega) (by omega) (by decide) rfl ?_
  refine wi_iconst (n := 1) (nx := 18) (r1 := 0) (r2 := 0) (r3 := 0) rfl ?_
  refine wr_sub (nx := 19) (r1 := 0) (r2 := 0) (r3 := 0) rfl (fun e17 (fe17 : e17 = (h 238 101) - 1) => ?_)
  refine wr_is (k0 := 238) (a := 101) (f := 101) (x := e17) (bl := 0) (bh := 6) (nx := 20) (r1 := 0) (r2 := 0) (r3 := 0) rfl (by decide) rfl (by omega) (by omega) (by decide) g rfl (by omega) (fun h18 g18 w18 u18 => ?_)
  have F19 := F0.then rfl u18
  refine wi_iconst (n := 0) (nx := 21) (r1 := 0) (r2 := 0) (r3 := 0) rfl ?_
  refine wi_istore_n (i := 3) (e := 0) (lo2 := [(3, vi 0), (2, vi (h 238 92)), (0, .ref 236), (1, vi 3)]) (nx := 22) (r1 := 0) (r2 := 0) (r3 := 0) rfl rfl ?_
  refine wp.lo (lo := [(0, .ref 236), (1, vi 3), (2, vi (h 238 92)), (3, vi 0)]) ⟨rfl, rfl, rfl, rfl, trivial⟩ rfl ?_
  refine wl_1 (fun x20 h21 => GI h21 ∧ FR [(238, 238, some (43, 54)), (238, 238, some (55, 66)), (238, 238, some (67, 67)), (238, 238, some (68, 68)), (238, 238, some (69, 69)), (238, 238, some (70, 70)), (238, 238, some (71, 71)), (238, 238, some (72, 72)), (238, 238, some (92, 96)), (238, 238, some (101, 101)), (238, 238, some (102, 102)), (238, 238, some (103, 105)), (238, 238, some (106, 106)), (238, 238, some (107, 118)), (238, 238, some (119, 119)), (238, 238, some (120, 196)), (238, 238, some (121, 197)), (238, 238, some (122, 198)), (238, 238, some (123, 199))] h h21 ∧ FR [(238, 238, some (92, 96))] h18 h21 ∧ ((0 ≤ x20 ∧ x20 ≤ 5))) (fun x20 h21 => ((5 : Int) + 1 - x20).toNat) (fun x20 h21 => (22, [(0, .ref 236), (1, vi 3), (2, vi (h 238 92)), (3, vi x20)], [], hp_w h21 cr, b, c)) ?_ 0 h18 ⟨g18, F19, FR.refl, (show (0 ≤ 0 ∧ 0 ≤ 5) by omega)⟩
  intro x20 h21 ⟨g21, F22, u21, f21⟩ I21
  refine wi_iload_n (i := 3) (e := x20) (nx := 23) (r1 := 0) (r2 := 0) (r3 := 0) rfl rfl ?_
  refine wi_aload_n (i := 0) (x := 236) (nx := 24) (r1 := 0) (r2 := 0) (r3 := 0) rfl rfl ?_
  refine wr_gr (k0 := 236) (x := 238) (nx := 27) (r1 := 11) (r2 := 13) (r3 := 0) rfl rfl (by decide) rfl ⟨rfl, rfl⟩ rfl ?_
  refine wi_bipush (n := 98) (nx := 29) (r1 := 0) (r2 := 0) (r3 := 0) rfl (by decide) ?_
  refine wi_iload_n (i := 1) (e := 3) (nx := 30) (r1 := 0) (r2 := 0) (r3 := 0) rfl rfl ?_
  refine wr_addL (101) (nx := 31) (r1 := 0) (r2 := 0) (r3 := 0) rfl (by decide) ?_
  refine wr_ia (k0 := 238) (a := 101) (f := 101) (x := e17) (nx := 32) (r1 := 0) (r2 := 0) (r3 := 0) rfl (by decide) rfl (by omega) (by omega) (by decide) ((u21 238 101 rfl).trans w18) ?_
  refine wi_icmp (cd := .ge) (nx := 35) (r1 := 71) (r2 := 0) (r3 := 0) rfl (by omega) (by omega) (fun (q23 : e17 ≤ x20) => ?_) (fun (q23 : ¬ (e17 ≤ x20)) => ?_)
  ·
    refine wi_aload_n (i := 0) (x := 236) (nx := 72) (r1 := 0) (r2 := 0) (r3 := 0) rfl rfl ?_
    refine wi_iload_n (i := 2) (e := h 238 92) (nx := 73) (r1 := 0) (r2 := 0) (r3 := 0) rfl rfl ?_
    refine wr_V (k0 := 236) (rest := []) (as := [.ref 236, vi (h 238 92)]) (nx := 76) (r1 := 283) (r2 := 1) (r3 := 11) rfl rfl rfl (of_decide_eq_true rfl) rfl rfl (by decide) rfl rfl (of_decide_eq_true rfl) (of_decide_eq_true rfl) ?_
    have e25 : h21 238 67 = h 238 67 := ((u21 238 67 rfl).trans (u18 238 67 rfl))
    have e26 : h21 238 119 = h 238 119 := ((u21 238 119 rfl).trans (u18 238 119 rfl))
    have e27 : h21 238 69 = h 238 69 := ((u21 238 69 rfl).trans (u18 238 69 rfl))
    have e28 : h21 238 5 = h 238 5 := ((u21 238 5 rfl).trans (u18 238 5 rfl))
    refine ct_283_236 hcr  g21 (h 238 92) (by omega) (show (h21 238 67) ≤ 9998 by omega) (show (h21 238 119) ≤ (h21 238 67) by omega) (show (h21 238 69) ≤ (h21 238 5) by omega) (show 1 ≤ (h21 238 5) by omega) (fun h24 g24 u24 (p24_0 : (h24 238 119) ≤ (h24 238 67)) (p24_1 : (h24 238 69) ≤ (h24 238 5)) => ?_)
    have F29 := F22.then (by decide +kernel) u24
    have b30 := gi_b (lo := 0) (hi := 9999) g24 238 119 rfl
    have b31 := gi_b (lo := 0) (hi := 9999) g24 238 67 rfl
    have b32 := gi_b (lo := 0) (hi := 9) g24 238 69 rfl
    have e33 : h24 238 5 = h 238 5 := ((u24 238 5 rfl).trans ((u21 238 5 rfl).trans (u18 238 5 rfl)))
    refine wk_n ?_
    refine wi_aload_n (i := 0) (x := 236) (nx := 77) (r1 := 0) (r2 := 0) (r3 := 0) rfl rfl ?_
    refine wr_gr (k0 := 236) (x := 238) (nx := 80) (r1 := 11) (r2 := 13) (r3 := 0) rfl rfl (by decide) rfl ⟨rfl, rfl⟩ rfl ?_
    refine wi_bipush (n := 43) (nx := 82) (r1 := 0) (r2 := 0) (r3 := 0) rfl (by decide) ?_
    refine wi_iload_n (i := 2) (e := h 238 92) (nx := 83) (r1 := 0) (r2 := 0) (r3 := 0) rfl rfl ?_
    refine wr_add (nx := 84) (r1 := 0) (r2 := 0) (r3 := 0) rfl (fun e34 (fe34 : e34 = 43 + (h 238 92)) => ?_)
    refine wr_ia (k0 := 238) (a := e34) (f := i14) (x := h 238 i14) (nx := 85) (r1 := 0) (r2 := 0) (r3 := 0) rfl (by decide) rfl (by omega) (by omega) (by decide) ((u24 238 i14 (fo_lk (m := 67) (by omega) rfl)).trans ((u21 238 i14 (fn_i (by omega) fn_0)).trans (u18 238 i14 (fn_i (by omega) fn_0)))) ?_
    refine wi_if (cd := .ne) (nx := 88) (r1 := 117) (r2 := 0) (r3 := 0) rfl (by omega) (fun (q35 : (h 238 i14) ≠ 0) => ?_) (fun (q35 : ¬ ((h 238 i14) ≠ 0)) => ?_)
    ·
      refine wi_aload_n (i := 0) (x := 236) (nx := 118) (r1 := 0) (r2 := 0) (r3 := 0) rfl rfl ?_
      refine wr_gr (k0 := 236) (x := 238) (nx := 121) (r1 := 11) (r2 := 13) (r3 := 0) rfl rfl (by decide) rfl ⟨rfl, rfl⟩ rfl ?_
      refine wi_bipush (n := 43) (nx := 123) (r1 := 0) (r2 := 0) (r3 := 0) rfl (by decide) ?_
      refine wi_iload_n (i := 2) (e := h 238 92) (nx := 124) (r1 := 0) (r2 := 0) (r3 := 0) rfl rfl ?_
      refine wr_add (nx := 125) (r1 := 0) (r2 := 0) (r3 := 0) rfl (fun e36 (fe36 : e36 = 43 + (h 238 92)) => ?_)
      refine wi_dup2 (nx := 126) (r1 := 0) (r2 := 0) (r3 := 0) rfl rfl rfl ?_
      refine wr_ia (k0 := 238) (a := e36) (f := i14) (x := h 238 i14) (nx := 127) (r1 := 0) (r2 := 0) (r3 := 0) rfl (by decide) rfl (by omega) (by omega) (by decide) ((u24 238 i14 (fo_lk (m := 67) (by omega) rfl)).trans ((u21 238 i14 (fn_i (by omega) fn_0)).trans (u18 238 i14 (fn_i (by omega) fn_0)))) ?_
      refine wi_iconst (n := 1) (nx := 128) (r1 := 0) (r2 := 0) (r3 := 0) rfl ?_
      refine wr_sub (nx := 129) (r1 := 0) (r2 := 0) (r3 := 0) rfl (fun e37 (fe37 : e37 = (h 238 i14) - 1) => ?_)
      refine wr_is (k0 := 238) (a := e36) (f := i14) (x := e37) (bl := 0) (bh := 999) (nx := 130) (r1 := 0) (r2 := 0) (r3 := 0) rfl (by decide) rfl (by omega) (by omega) (by decide) g24 (gi_rg 43 12 (fun _ => rfl) (by decide +kernel) (by omega)) (by omega) (fun h38 g38 w38 u38 => ?_)
      have F39 := F29.then rfl (FR.idx (p := 43) (q := 54) u38 (by omega))
      refine wi_aload_n (i := 0) (x := 236) (nx := 131) (r1 := 0) (r2 := 0) (r3 := 0) rfl rfl ?_
      refine wr_gr (k0 := 236) (x := 238) (nx := 134) (r1 := 11) (r2 := 13) (r3 := 0) rfl rfl (by decide) rfl ⟨rfl, rfl⟩ rfl ?_
      refine wi_bipush (n := 55) (nx := 136) (r1 := 0) (r2 := 0) (r3 := 0) rfl (by decide) ?_
      refine wi_iload_n (i := 2) (e := h 238 92) (nx := 137) (r1 := 0) (r2 := 0) (r3 := 0) rfl rfl ?_
      refine wr_add (nx := 138) (r1 := 0) (r2 := 0) (r3 := 0) rfl (fun e40 (fe40 : e40 = 55 + (h 238 92)) => ?_)
      refine wi_aload_n (i := 0) (x := 236) (nx := 139) (r1 := 0) (r2 := 0) (r3 := 0) rfl rfl ?_
      refine wr_gr (k0 := 236) (x := 238) (nx := 142) (r1 := 11) (r2 := 13) (r3 := 0) rfl rfl (by decide) rfl ⟨rfl, rfl⟩ rfl ?_
      refine wi_bipush (n := 67) (nx := 144) (r1 := 0) (r2 := 0) (r3 := 0) rfl (by decide) ?_
      refine wr_ia (k0 := 238) (a := 67) (f := 67) (x := h24 238 67) (nx := 145) (r1 := 0) (r2 := 0) (r3 := 0) rfl (by decide) rfl (by omega) (by omega) (by decide) (u38 238 67 (fn_i (by omega) fn_0)) ?_
      refine wi_aload_n (i := 0) (x := 236) (nx := 146) (r1 := 0) (r2 := 0) (r3 := 0) rfl rfl ?_
      refine wr_gr (k0 := 236) (x := 238) (nx := 149) (r1 := 11) (r2 := 13) (r3 := 0) rfl rfl (by decide) rfl ⟨rfl, rfl⟩ rfl ?_
      refine wi_bipush (n := 8) (nx := 151) (r1 := 0) (r2 := 0) (r3 := 0) rfl (by decide) ?_
      have b41 := gi_b (lo := 0) (hi := 999) g 238 8 rfl
      refine wr_ia (k0 := 238) (a := 8) (f := 8) (x := h 238 8) (nx := 152) (r1 := 0) (r2 := 0) (r3 := 0) rfl (by decide) rfl (by omega) (by omega) (by decide) ((u38 238 8 (fn_i (by omega) fn_0)).trans ((u24 238 8 rfl).trans ((u21 238 8 rfl).trans (u18 238 8 rfl)))) ?_
      refine wr_add (nx := 153) (r1 := 0) (r2 := 0) (r3 := 0) rfl (fun e42 (fe42 : e42 = (h24 238 67) + (h 238 8)) => ?_)
      obtain ⟨i43, ei43⟩ : ∃ q : Nat, e40 = (q : Int) := ⟨(e40).toNat, by omega⟩
      refine wr_is (k0 := 238) (a := e40) (f := i43) (x := e42) (bl := 0) (bh := 20000) (nx := 154) (r1 := 0) (r2 := 0) (r3 := 0) rfl (by decide) rfl (by omega) (by omega) (by decide) g38 (gi_rg 55 12 (fun _ => rfl) (by decide +kernel) (by omega)) (by omega) (fun h44 g44 w44 u44 => ?_)
      have F45 := F39.then rfl (FR.idx (p := 55) (q := 66) u44 (by omega))
      refine wi_aload_n (i := 0) (x := 236) (nx := 155) (r1 := 0) (r2 := 0) (r3 := 0) rfl rfl ?_
      refine wr_gr (k0 := 236) (x := 238) (nx := 158) (r1 := 11) (r2 := 13) (r3 := 0) rfl rfl (by decide) rfl ⟨rfl, rfl⟩ rfl ?_
      refine wi_bipush (n := 103) (nx := 160) (r1 := 0) (r2 := 0) (r3 := 0) rfl (by decide) ?_
      refine wi_aload_n (i := 0) (x := 236) (nx := 161) (r1 := 0) (r2 := 0) (r3 := 0) rfl rfl ?_
      refine wr_gr (k0 := 236) (x := 238) (nx := 164) (r1 := 11) (r2 := 13) (r3 := 0) rfl rfl (by decide) rfl ⟨rfl, rfl⟩ rfl ?_
      refine wi_bipush (n := 102) (nx := 166) (r1 := 0) (r2 := 0) (r3 := 0) rfl (by decide) ?_
      refine wr_ia (k0 := 238) (a := 102) (f := 102) (x := h 238 102) (nx := 167) (r1 := 0) (r2 := 0) (r3 := 0) rfl (by decide) rfl (by omega) (by omega) (by decide) ((u44 238 102 (fn_i (by omega) fn_0)).trans ((u38 238 102 (fn_i (by omega) fn_0)).trans ((u24 238 102 rfl).trans ((u21 238 102 rfl).trans (u18 238 102 rfl))))) ?_
      refine wr_add (nx := 168) (r1 := 0) (r2 := 0) (r3 := 0) rfl (fun e46 (fe46 : e46 = 103 + (h 238 102)) => ?_)
      refine wi_iload_n (i := 2) (e := h 238 92) (nx := 169) (r1 := 0) (r2 := 0) (r3 := 0) rfl rfl ?_
      obtain ⟨i47, ei47⟩ : ∃ q : Nat, e46 = (q : Int) := ⟨(e46).toNat, by omega⟩
      refine wr_is (k0 := 238) (a := e46) (f := i47) (x := h 238 92) (bl := 0) (bh := 11) (nx := 170) (r1 := 0) (r2 := 0) (r3 := 0) rfl (by decide) rfl (by omega) (by omega) (by decide) g44 (gi_rg 103 3 (fun _ => rfl) (by decide +kernel) (by omega)) (by omega) (fun h48 g48 w48 u48 => ?_)
      have F49 := F45.then rfl (FR.idx (p := 103) (q := 105) u48 (by omega))
      refine wi_aload_n (i := 0) (x := 236) (nx := 171) (r1 := 0) (r2 := 0) (r3 := 0) rfl rfl ?_
      refine wr_gr (k0 := 236) (x := 238) (nx := 174) (r1 := 11) (r2 := 13) (r3 := 0) rfl rfl (by decide) rfl ⟨rfl, rfl⟩ rfl ?_
      refine wi_bipush (n := 102) (nx := 176) (r1 := 0) (r2 := 0) (r3 := 0) rfl (by decide) ?_
      refine wi_dup2 (nx := 177) (r1 := 0) (r2 := 0) (r3 := 0) rfl rfl rfl ?_
      refine wr_ia (k0 := 238) (a := 102) (f := 102) (x := h 238 102) (nx := 178) (r1 := 0) (r2 := 0) (r3 := 0) rfl (by decide) rfl (by omega) (by omega) (by decide) ((u48 238 102 (fn_i (by omega) fn_0)).trans ((u44 238 102 (fn_i (by omega) fn_0)).trans ((u38 238 102 (fn_i (by omega) fn_0)).trans ((u24 238 102 rfl).trans ((u21 238 102 rfl).trans (u18 238 102 rfl)))))) ?_
      refine wi_iconst (n := 1) (nx := 179) (r1 := 0) (r2 := 0) (r3 := 0) rfl ?_
      refine wr_add (nx := 180) (r1 := 0) (r2 := 0) (r3 := 0) rfl (fun e50 (fe50 : e50 = (h 238 102) + 1) => ?_)
      refine wr_is (k0 := 238) (a := 102) (f := 102) (x := e50) (bl := 0) (bh := 3) (nx := 181) (r1 := 0) (r2 := 0) (r3 := 0) rfl (by decide) rfl (by omega) (by omega) (by decide) g48 rfl (by omega) (fun h51 g51 w51 u51 => ?_)
      have F52 := F49.then rfl u51
      refine wi_iload_n (i := 2) (e := h 238 92) (nx := 182) (r1 := 0) (r2 := 0) (r3 := 0) rfl rfl ?_
      refine wi_ireturn (nx := 183) (r1 := 0) (r2 := 0) (r3 := 0) rfl rfl ?_
      have e53 : h51 238 98 = h 238 98 := ((u51 238 98 rfl).trans ((u48 238 98 (fn_i (by omega) fn_0)).trans ((u44 238 98 (fn_i (by omega) fn_0)).trans ((u38 238 98 (fn_i (by omega) fn_0)).trans ((u24 238 98 rfl).trans ((u21 238 98 rfl).trans (u18 238 98 rfl)))))))
      have e54 : h51 238 99 = h 238 99 := ((u51 238 99 rfl).trans ((u48 238 99 (fn_i (by omega) fn_0)).trans ((u44 238 99 (fn_i (by omega) fn_0)).trans ((u38 238 99 (fn_i (by omega) fn_0)).trans ((u24 238 99 rfl).trans ((u21 238 99 rfl).trans (u18 238 99 rfl)))))))
      have e55 : h51 238 100 = h 238 100 := ((u51 238 100 rfl).trans ((u48 238 100 (fn_i (by omega) fn_0)).trans ((u44 238 100 (fn_i (by omega) fn_0)).trans ((u38 238 100 (fn_i (by omega) fn_0)).trans ((u24 238 100 rfl).trans ((u21 238 100 rfl).trans (u18 238 100 rfl)))))))
      have e56 : h51 238 101 = e17 := ((u51 238 101 rfl).trans ((u48 238 101 (fn_i (by omega) fn_0)).trans ((u44 238 101 (fn_i (by omega) fn_0)).trans ((u38 238 101 (fn_i (by omega) fn_0)).trans ((u24 238 101 rfl).trans ((u21 238 101 rfl).trans w18))))))
      have e57 : h51 238 102 = e50 := w51
      have e58 : h51 238 106 = h 238 106 := ((u51 238 106 rfl).trans ((u48 238 106 (fn_i (by omega) fn_0)).trans ((u44 238 106 (fn_i (by omega) fn_0)).trans ((u38 238 106 (fn_i (by omega) fn_0)).trans ((u24 238 106 rfl).trans ((u21 238 106 rfl).trans (u18 238 106 rfl)))))))
      have e59 : h51 238 73 = h 238 73 := ((u51 238 73 rfl).trans ((u48 238 73 (fn_i (by omega) fn_0)).trans ((u44 238 73 (fn_i (by omega) fn_0)).trans ((u38 238 73 (fn_i (by omega) fn_0)).trans ((u24 238 73 rfl).trans ((u21 238 73 rfl).trans (u18 238 73 rfl)))))))
      have e60 : h51 238 2 = h 238 2 := ((u51 238 2 rfl).trans ((u48 238 2 (fn_i (by omega) fn_0)).trans ((u44 238 2 (fn_i (by omega) fn_0)).trans ((u38 238 2 (fn_i (by omega) fn_0)).trans ((u24 238 2 rfl).trans ((u21 238 2 rfl).trans (u18 238 2 rfl)))))))
      have e61 : h51 238 119 = h24 238 119 := ((u51 238 119 rfl).trans ((u48 238 119 (fn_i (by omega) fn_0)).trans ((u44 238 119 (fn_i (by omega) fn_0)).trans (u38 238 119 (fn_i (by omega) fn_0)))))
      have e62 : h51 238 67 = h24 238 67 := ((u51 238 67 rfl).trans ((u48 238 67 (fn_i (by omega) fn_0)).trans ((u44 238 67 (fn_i (by omega) fn_0)).trans (u38 238 67 (fn_i (by omega) fn_0)))))
      have e63 : h51 238 69 = h24 238 69 := ((u51 238 69 rfl).trans ((u48 238 69 (fn_i (by omega) fn_0)).trans ((u44 238 69 (fn_i (by omega) fn_0)).trans (u38 238 69 (fn_i (by omega) fn_0)))))
      have e64 : h51 238 5 = h 238 5 := ((u51 238 5 rfl).trans ((u48 238 5 (fn_i (by omega) fn_0)).trans ((u44 238 5 (fn_i (by omega) fn_0)).trans ((u38 238 5 (fn_i (by omega) fn_0)).trans ((u24 238 5 rfl).trans ((u21 238 5 rfl).trans (u18 238 5 rfl)))))))
      exact k h51 (h 238 92) g51 F52 (by omega) (show (h51 238 98) + (h51 238 99) + (h51 238 100) + (h51 238 101) + (h51 238 102) + (h51 238 106) = (h51 238 73) by omega) (show (h51 238 73) ≤ (h51 238 2) by omega) (show (h51 238 119) ≤ (h51 238 67) by omega) (show (h51 238 69) ≤ (h51 238 5) by omega) (show (h51 238 2) ≤ 12 * (h51 238 5) by omega)
    ·
      refine wi_aload_n (i := 0) (x := 236) (nx := 89) (r1 := 0) (r2 := 0) (r3 := 0) rfl rfl ?_
      refine wr_gr (k0 := 236) (x := 238) (nx := 92) (r1 := 11) (r2 := 13) (r3 := 0) rfl rfl (by decide) rfl ⟨rfl, rfl⟩ rfl ?_
      refine wi_bipush (n := 107) (nx := 94) (r1 := 0) (r2 := 0) (r3 := 0) rfl (by decide) ?_
      refine wi_aload_n (i := 0) (x := 236) (nx := 95) (r1 := 0) (r2 := 0) (r3 := 0) rfl rfl ?_
      refine wr_gr (k0 := 236) (x := 238) (nx := 98) (r1 := 11) (r2 := 13) (r3 := 0) rfl rfl (by decide) rfl ⟨rfl, rfl⟩ rfl ?_
      refine wi_bipush (n := 106) (nx := 100) (r1 := 0) (r2 := 0) (r3 := 0) rfl (by decide) ?_
      refine wr_ia (k0 := 238) (a := 106) (f := 106) (x := h 238 106) (nx := 101) (r1 := 0) (r2 := 0) (r3 := 0) rfl (by decide) rfl (by omega) (by omega) (by decide) ((u24 238 106 rfl).trans ((u21 238 106 rfl).trans (u18 238 106 rfl))) ?_
      refine wr_add (nx := 102) (r1 := 0) (r2 := 0) (r3 := 0) rfl (fun e36 (fe36 : e36 = 107 + (h 238 106)) => ?_)
      refine wi_iload_n (i := 2) (e := h 238 92) (nx := 103) (r1 := 0) (r2 := 0) (r3 := 0) rfl rfl ?_
      obtain ⟨i37, ei37⟩ : ∃ q : Nat, e36 = (q : Int) := ⟨(e36).toNat, by omega⟩
      refine wr_is (k0 := 238) (a := e36) (f := i37) (x := h 238 92) (bl := 0) (bh := 11) (nx := 104) (r1 := 0) (r2 := 0) (r3 := 0) rfl (by decide) rfl (by omega) (by omega) (by decide) g24 (gi_rg 107 12 (fun _ => rfl) (by decide +kernel) (by omega)) (by omega) (fun h38 g38 w38 u38 => ?_)
      have F39 := F29.then rfl (FR.idx (p := 107) (q := 118) u38 (by omega))
      refine wi_aload_n (i := 0) (x := 236) (nx := 105) (r1 := 0) (r2 := 0) (r3 := 0) rfl rfl ?_
      refine wr_gr (k0 := 236) (x := 238) (nx := 108) (r1 := 11) (r2 := 13) (r3 := 0) rfl rfl (by decide) rfl ⟨rfl, rfl⟩ rfl ?_
      refine wi_bipush (n := 106) (nx := 110) (r1 := 0) (r2 := 0) (r3 := 0) rfl (by decide) ?_
      refine wi_dup2 (nx := 111) (r1 := 0) (r2 := 0) (r3 := 0) rfl rfl rfl ?_
      refine wr_ia (k0 := 238) (a := 106) (f := 106) (x := h 238 106) (nx := 112) (r1 := 0) (r2 := 0) (r3 := 0) rfl (by decide) rfl (by omega) (by omega) (by decide) ((u38 238 106 (fn_i (by omega) fn_0)).trans ((u24 238 106 rfl).trans ((u21 238 106 rfl).trans (u18 238 106 rfl)))) ?_
      refine wi_iconst (n := 1) (nx := 113) (r1 := 0) (r2 := 0) (r3 := 0) rfl ?_
      refine wr_add (nx := 114) (r1 := 0) (r2 := 0) (r3 := 0) rfl (fun e40 (fe40 : e40 = (h 238 106) + 1) => ?_)
      refine wr_is (k0 := 238) (a := 106) (f := 106) (x := e40) (bl := 0) (bh := 12) (nx := 115) (r1 := 0) (r2 := 0) (r3 := 0) rfl (by decide) rfl (by omega) (by omega) (by decide) g38 rfl (by omega) (fun h41 g41 w41 u41 => ?_)
      have F42 := F39.then rfl u41
      refine wi_iload_n (i := 2) (e := h 238 92) (nx := 116) (r1 := 0) (r2 := 0) (r3 := 0) rfl rfl ?_
      refine wi_ireturn (nx := 117) (r1 := 0) (r2 := 0) (r3 := 0) rfl rfl ?_
      have e43 : h41 238 98 = h 238 98 := ((u41 238 98 rfl).trans ((u38 238 98 (fn_i (by omega) fn_0)).trans ((u24 238 98 rfl).trans ((u21 238 98 rfl).trans (u18 238 98 rfl)))))
      have e44 : h41 238 99 = h 238 99 := ((u41 238 99 rfl).trans ((u38 238 99 (fn_i (by omega) fn_0)).trans ((u24 238 99 rfl).trans ((u21 238 99 rfl).trans (u18 238 99 rfl)))))
      have e45 : h41 238 100 = h 238 100 := ((u41 238 100 rfl).trans ((u38 238 100 (fn_i (by omega) fn_0)).trans ((u24 238 100 rfl).trans ((u21 238 100 rfl).trans (u18 238 100 rfl)))))
      have e46 : h41 238 101 = e17 := ((u41 238 101 rfl).trans ((u38 238 101 (fn_i (by omega) fn_0)).trans ((u24 238 101 rfl).trans ((u21 238 101 rfl).trans w18))))
      have e47 : h41 238 102 = h 238 102 := ((u41 238 102 rfl).trans ((u38 238 102 (fn_i (by omega) fn_0)).trans ((u24 238 102 rfl).trans ((u21 238 102 rfl).trans (u18 238 102 rfl)))))
      have e48 : h41 238 106 = e40 := w41
      have e49 : h41 238 73 = h 238 73 := ((u41 238 73 rfl).trans ((u38 238 73 (fn_i (by omega) fn_0)).trans ((u24 238 73 rfl).trans ((u21 238 73 rfl).trans (u18 238 73 rfl)))))
      have e50 : h41 238 2 = h 238 2 := ((u41 238 2 rfl).trans ((u38 238 2 (fn_i (by omega) fn_0)).trans ((u24 238 2 rfl).trans ((u21 238 2 rfl).trans (u18 238 2 rfl)))))
      have e51 : h41 238 119 = h24 238 119 := ((u41 238 119 rfl).trans (u38 238 119 (fn_i (by omega) fn_0)))
      have e52 : h41 238 67 = h24 238 67 := ((u41 238 67 rfl).trans (u38 238 67 (fn_i (by omega) fn_0)))
      have e53 : h41 238 69 = h24 238 69 := ((u41 238 69 rfl).trans (u38 238 69 (fn_i (by omega) fn_0)))
      have e54 : h41 238 5 = h 238 5 := ((u41 238 5 rfl).trans ((u38 238 5 (fn_i (by omega) fn_0)).trans ((u24 238 5 rfl).trans ((u21 238 5 rfl).trans (u18 238 5 rfl)))))
      exact k h41 (h 238 92) g41 F42 (by omega) (show (h41 238 98) + (h41 238 99) + (h41 238 100) + (h41 238 101) + (h41 238 102) + (h41 238 106) = (h41 238 73) by omega) (show (h41 238 73) ≤ (h41 238 2) by omega) (show (h41 238 119) ≤ (h41 238 67) by omega) (show (h41 238 69) ≤ (h41 238 5) by omega) (show (h41 238 2) ≤ 12 * (h41 238 5) by omega)
  ·
    refine wi_aload_n (i := 0) (x := 236) (nx := 36) (r1 := 0) (r2 := 0) (r3 := 0) rfl rfl ?_
    refine wr_gr (k0 := 236) (x := 238) (nx := 39) (r1 := 11) (r2 := 13) (r3 := 0) rfl rfl (by decide) rfl ⟨rfl, rfl⟩ rfl ?_
    refine wi_bipush (n := 74) (nx := 41) (r1 := 0) (r2 := 0) (r3 := 0) rfl (by decide) ?_
    refine wi_bipush (n := 6) (nx := 43) (r1 := 0) (r2 := 0) (r3 := 0) rfl (by decide) ?_
    refine wi_iload_n (i := 1) (e := 3) (nx := 44) (r1 := 0) (r2 := 0) (r3 := 0) rfl rfl ?_
    refine wr_mulL (18) (nx := 45) (r1 := 0) (r2 := 0) (r3 := 0) rfl (by decide) ?_
    refine wr_addL (92) (nx := 46) (r1 := 0) (r2 := 0) (r3 := 0) rfl (by decide) ?_
    refine wi_iload_n (i := 3) (e := x20) (nx := 47) (r1 := 0) (r2 := 0) (r3 := 0) rfl rfl ?_
    refine wr_add (nx := 48) (r1 := 0) (r2 := 0) (r3 := 0) rfl (fun e24 (fe24 : e24 = 92 + x20) => ?_)
    refine wi_aload_n (i := 0) (x := 236) (nx := 49) (r1 := 0) (r2 := 0) (r3 := 0) rfl rfl ?_
    refine wr_gr (k0 := 236) (x := 238) (nx := 52) (r1 := 11) (r2 := 13) (r3 := 0) rfl rfl (by decide) rfl ⟨rfl, rfl⟩ rfl ?_
    refine wi_bipush (n := 74) (nx := 54) (r1 := 0) (r2 := 0) (r3 := 0) rfl (by decide) ?_
    refine wi_bipush (n := 6) (nx := 56) (r1 := 0) (r2 := 0) (r3 := 0) rfl (by decide) ?_
    refine wi_iload_n (i := 1) (e := 3) (nx := 57) (r1 := 0) (r2 := 0) (r3 := 0) rfl rfl ?_
    refine wr_mulL (18) (nx := 58) (r1 := 0) (r2 := 0) (r3 := 0) rfl (by decide) ?_
    refine wr_addL (92) (nx := 59) (r1 := 0) (r2 := 0) (r3 := 0) rfl (by decide) ?_
    refine wi_iload_n (i := 3) (e := x20) (nx := 60) (r1 := 0) (r2 := 0) (r3 := 0) rfl rfl ?_
    refine wr_add (nx := 61) (r1 := 0) (r2 := 0) (r3 := 0) rfl (fun e25 (fe25 : e25 = 92 + x20) => ?_)
    refine wi_iconst (n := 1) (nx := 62) (r1 := 0) (r2 := 0) (r3 := 0) rfl ?_
    refine wr_add (nx := 63) (r1 := 0) (r2 := 0) (r3 := 0) rfl (fun e26 (fe26 : e26 = e25 + 1) => ?_)
    obtain ⟨i27, ei27⟩ : ∃ q : Nat, e26 = (q : Int) := ⟨(e26).toNat, by omega⟩
    have b28 := gi_b (lo := 0) (hi := 11) g21 238 i27 (gi_rg 93 5 (fun _ => rfl) (by decide +kernel) (by omega))
    refine wr_ia (k0 := 238) (a := e26) (f := i27) (x := h21 238 i27) (nx := 64) (r1 := 0) (r2 := 0) (r3 := 0) rfl (by decide) rfl (by omega) (by omega) (by decide) rfl ?_
    obtain ⟨i29, ei29⟩ : ∃ q : Nat, e24 = (q : Int) := ⟨(e24).toNat, by omega⟩
    refine wr_is (k0 := 238) (a := e24) (f := i29) (x := h21 238 i27) (bl := 0) (bh := 11) (nx := 65) (r1 := 0) (r2 := 0) (r3 := 0) rfl (by decide) rfl (by omega) (by omega) (by decide) g21 (gi_rg 92 5 (fun _ => rfl) (by decide +kernel) (by omega)) (by omega) (fun h30 g30 w30 u30 => ?_)
    have F31 := F22.then rfl (FR.idx (p := 92) (q := 96) u30 (by omega))
    have F32 := u21.then rfl (FR.idx (p := 92) (q := 96) u30 (by omega))
    refine wr_iinc (i := 3) (n := 1) (v := x20) (fun e33 => [(3, vi e33), (0, .ref 236), (1, vi 3), (2, vi (h 238 92))]) (nx := 68) (r1 := 0) (r2 := 0) (r3 := 0) rfl rfl (fun _ => rfl) (fun e33 (fe33 : e33 = x20 + 1) => ?_)
    refine wi_goto (nx := 71) (r1 := 22) (r2 := 0) (r3 := 0) rfl ?_
    refine wp.lo (lo := [(0, .ref 236), (1, vi 3), (2, vi (h 238 92)), (3, vi e33)]) ⟨rfl, rfl, rfl, rfl, trivial⟩ rfl ?_
    exact I21 e33 h30 ⟨g30, F31, F32, (show (0 ≤ e33 ∧ e33 ≤ 5) by omega)⟩ (show ((5 : Int) + 1 - e33).toNat < ((5 : Int) + 1 - x20).toNat by omega)
-- method 281: Model.leave(I)I
set_option maxRecDepth 100000 in
set_option maxHeartbeats 100000000 in
theorem ct_281_236 {L : Nat} {xs : Nat → Int32} {d b c : Nat} {h : hp} {cr : Nat → Nat → Option Nat} {Q : hp_Q} (hcr : CR cr)  (g : GI h) (a0 : Int) (q0_ : -2147483648 ≤ a0 ∧ a0 ≤ 2147483647) (pp0 : h 238 98 + h 238 99 + h 238 100 + h 238 101 + h 238 102 + h 238 106 = h 238 73) (pp1 : h 238 73 ≤ h 238 2) (pp2 : h 238 119 ≤ h 238 67) (pp3 : h 238 69 ≤ h 238 5) (pp4 : h 238 2 ≤ 12 * h 238 5) (xq0 : GPS h) (gp0 : GPH h) (k : ∀ (h2 : hp) (z0 : Int) , GI h2 → FR [(236, 236, some (0, 0)), (236, 236, some (22, 22)), (238, 238, some (43, 54)), (238, 238, some (55, 66)), (238, 238, some (67, 67)), (238, 238, some (68, 68)), (238, 238, some (69, 69)), (238, 238, some (70, 70)), (238, 238, some (71, 71)), (238, 238, some (72, 72)), (238, 238, some (74, 78)), (238, 238, some (80, 84)), (238, 238, some (86, 90)), (238, 238, some (92, 96)), (238, 238, some (98, 98)), (238, 238, some (99, 99)), (238, 238, some (100, 100)), (238, 238, some (101, 101)), (238, 238, some (102, 102)), (238, 238, some (103, 105)), (238, 238, some (106, 106)), (238, 238, some (107, 118)), (238, 238, some (119, 119)), (238, 238, some (120, 196)), (238, 238, some (121, 197)), (238, 238, some (122, 198)), (238, 238, some (123, 199)), (242, 242, some (0, 999)), (242, 242, some (1000, 1199))] h h2 → (-1 ≤ z0 ∧ z0 ≤ 11) → (h2 238 98 + h2 238 99 + h2 238 100 + h2 238 101 + h2 238 102 + h2 238 106 = h2 238 73) → (h2 238 73 ≤ h2 238 2) → (h2 238 119 ≤ h2 238 67) → (h2 238 69 ≤ h2 238 5) → (h2 238 2 ≤ 12 * h2 238 5) → (GPS h2) → (GPH h2) → Q (.inl (some (vi z0))) (hp_w h2 cr) b c) : wp (md_xa (L, xs)) (d + 3) 281 (0, [(0, .ref 236), (1, vi a0)], [], hp_w h cr, b, c) Q := by
  have F0 : FR [(236, 236, some (0, 0)), (236, 236, some (22, 22)), (238, 238, some (43, 54)), (238, 238, some (55, 66)), (238, 238, some (67, 67)), (238, 238, some (68, 68)), (238, 238, some (69, 69)), (238, 238, some (70, 70)), (238, 238, some (71, 71)), (238, 238, some (72, 72)), (238, 238, some (74, 78)), (238, 238, some (80, 84)), (238, 238, some (86, 90)), (238, 238, some (92, 96)), (238, 238, some (98, 98)), (238, 238, some (99, 99)), (238, 238, some (100, 100)), (238, 238, some (101, 101)), (238, 238, some (102, 102)), (238, 238, some (103, 105)), (238, 238, some (106, 106)), (238, 238, some (107, 118)), (238, 238, some (119, 119)), (238, 238, some (120, 196)), (238, 238, some (121, 197)), (238, 238, some (122, 198)), (238, 238, some (123, 199)), (242, 242, some (0, 999)), (242, 242, some (1000, 1199))] h h := FR.refl
  have b1 := gi_b (lo := 0) (hi := 6) g 238 98 rfl
  have b2 := gi_b (lo := 0) (hi := 6) g 238 99 rfl
  have b3 := gi_b (lo := 0) (hi := 6) g 238 100 rfl
  have b4 := gi_b (lo := 0) (hi := 6) g 238 101 rfl
  have b5 := gi_b (lo := 0) (hi := 3) g 238 102 rfl
  have b6 := gi_b (lo := 0) (hi := 12) g 238 106 rfl
  have b7 := gi_b (lo := 0) (hi := 12) g 238 73 rfl
  have b8 := gi_b (lo := 0) (hi := 12) g 238 2 rfl
  have b9 := gi_b (lo := 0) (hi := 9999) g 238 119 rfl
  have b10 := gi_b (lo := 0) (hi := 9999) g 238 67 rfl
  have b11 := gi_b (lo := 0) (hi := 9) g 238 69 rfl
  have b12 := gi_b (lo := 0) (hi := 9) g 238 5 rfl
  refine wi_aload_n (i := 0) (x := 236) (nx := 1) (r1 := 0) (r2 := 0) (r3 := 0) rfl rfl ?_
  refine wi_aload_n (i := 0) (x := 236) (nx := 2) (r1 := 0) (r2 := 0) (r3 := 0) rfl rfl ?_
  refine wi_iload_n (i := 1) (e := a0) (nx := 3) (r1 := 0) (r2 := 0) (r3 := 0) rfl rfl ?_
  refine wr_V (k0 := 236) (rest := [.ref 236]) (as := [.ref 236, vi a0]) (nx := 6) (r1 := 242) (r2 := 1) (r3 := 11) rfl rfl rfl (of_decide_eq_true rfl) rfl rfl (by decide) rfl rfl (of_decide_eq_true rfl) (of_decide_eq_true rfl) ?_
  refine wi_iload_n (i := 1) (e := a0) (nx := 1) (r1 := 0) (r2 := 0) (r3 := 0) rfl rfl ?_
  refine wi_i2l (nx := 2) (r1 := 0) (r2 := 0) (r3 := 0) rfl (by omega) ?_
  refine wi_lconst (n := 0) (e := 0) (nx := 3) (r1 := 0) (r2 := 0) (r3 := 0) rfl (by decide) ?_
  refine wi_aload_n (i := 0) (x := 236) (nx := 4) (r1 := 0) (r2 := 0) (r3 := 0) rfl rfl ?_
  refine wr_gr (k0 := 236) (x := 238) (nx := 7) (r1 := 11) (r2 := 13) (r3 := 0) rfl rfl (by decide) rfl ⟨rfl, rfl⟩ rfl ?_
  refine wi_iconst (n := 1) (nx := 8) (r1 := 0) (r2 := 0) (r3 := 0) rfl ?_
  have b13 := gi_b (lo := 0) (hi := 4) g 238 1 rfl
  refine wr_ia (k0 := 238) (a := 1) (f := 1) (x := h 238 1) (nx := 9) (r1 := 0) (r2 := 0) (r3 := 0) rfl (by decide) rfl (by omega) (by omega) (by decide) rfl ?_
  refine wi_iconst (n := 1) (nx := 10) (r1 := 0) (r2 := 0) (r3 := 0) rfl ?_
  refine wr_sub (nx := 11) (r1 := 0) (r2 := 0) (r3 := 0) rfl (fun e14 (fe14 : e14 = (h 238 1) - 1) => ?_)
  refine wi_i2l (nx := 12) (r1 := 0) (r2 := 0) (r3 := 0) rfl (by omega) ?_
  refine wi_S (rest := []) (as := [vl a0, vl 0, vl e14]) (nx := 15) (r1 := 210) (r2 := 19) (r3 := 0) rfl rfl rfl (of_decide_eq_true rfl) rfl rfl (of_decide_eq_true rfl) (of_decide_eq_true rfl) ?_
  refine wi_lload_n (i := 0) (e := a0) (nx := 1) (r1 := 0) (r2 := 0) (r3 := 0) rfl rfl ?_
  refine wi_lload_n (i := 2) (e := 0) (nx := 2) (r1 := 0) (r2 := 0) (r3 := 0) rfl rfl ?_
  refine wi_lcmp (a := a0) (e := 0) (nx := 3) (r1 := 0) (r2 := 0) (r3 := 0) rfl (by omega) (by omega) (fun r15 (fr15 : (r15 = -1 ∧ a0 < 0) ∨ (r15 = 0 ∧ a0 = 0) ∨ (r15 = 1 ∧ 0 < a0)) => ?_)
  refine wi_if (cd := .lt) (nx := 6) (r1 := 17) (r2 := 0) (r3 := 0) rfl (by omega) (fun (q16 : r15 < 0) => ?_) (fun (q16 : ¬ (r15 < 0)) => ?_)
  ·
    refine wi_iconst (n := 0) (nx := 18) (r1 := 0) (r2 := 0) (r3 := 0) rfl ?_
    refine wi_zreturn (nx := 19) (r1 := 0) (r2 := 0) (r3 := 0) rfl rfl (by omega) ?_
    refine wk_i ?_
    refine wi_zreturn (nx := 16) (r1 := 0) (r2 := 0) (r3 := 0) rfl rfl (by omega) ?_
    refine wk_i ?_
    refine wr_V (k0 := 236) (rest := []) (as := [.ref 236, vi 0]) (nx := 9) (r1 := 206) (r2 := 1) (r3 := 11) rfl rfl rfl (of_decide_eq_true rfl) rfl rfl (by decide) rfl rfl (of_decide_eq_true rfl) (of_decide_eq_true rfl) ?_
    refine wi_aload_n (i := 0) (x := 236) (nx := 1) (r1 := 0) (r2 := 0) (r3 := 0) rfl rfl ?_
    refine wi_iload_n (i := 1) (e := 0) (nx := 2) (r1 := 0) (r2 := 0) (r3 := 0) rfl rfl ?_
    refine wi_if (cd := .ne) (nx := 5) (r1 := 9) (r2 := 0) (r3 := 0) rfl (by omega) (fun (q17 : 0 ≠ 0) => by exfalso; omega) (fun (q17 : ¬ (0 ≠ 0)) => ?_)
    refine wi_iconst (n := 1) (nx := 6) (r1 := 0) (r2 := 0) (r3 := 0) rfl ?_
    refine wi_goto (nx := 9) (r1 := 10) (r2 := 0) (r3 := 0) rfl ?_
    refine wi_S (rest := [.ref 236]) (as := [vi 1]) (nx := 13) (r1 := 207) (r2 := 17) (r3 := 0) rfl rfl rfl (of_decide_eq_true rfl) rfl rfl (of_decide_eq_true rfl) (of_decide_eq_true rfl) ?_
    refine wi_iload_n (i := 0) (e := 1) (nx := 1) (r1 := 0) (r2 := 0) (r3 := 0) rfl rfl ?_
    refine wi_if (cd := .eq) (nx := 4) (r1 := 8) (r2 := 0) (r3 := 0) rfl (by omega) (fun (q18 : 1 = 0) => by exfalso; omega) (fun (q18 : ¬ (1 = 0)) => ?_)
    refine wi_iconst (n := 1) (nx := 5) (r1 := 0) (r2 := 0) (r3 := 0) rfl ?_
    refine wi_goto (nx := 8) (r1 := 9) (r2 := 0) (r3 := 0) rfl ?_
    refine wi_ireturn (nx := 10) (r1 := 0) (r2 := 0) (r3 := 0) rfl rfl ?_
    refine wk_i ?_
    refine wr_pf0 (k0 := 236) (x := 1) (bl := 0) (bh := 2) (nx := 16) (r1 := 11) (r2 := 0) (r3 := 0) rfl (by decide) rfl ⟨rfl, rfl⟩ rfl rfl g rfl (by omega) (fun h19 g19 w19 u19 => ?_)
    have F20 := F0.then rfl u19
    refine wi_iload_n (i := 1) (e := 0) (nx := 17) (r1 := 0) (r2 := 0) (r3 := 0) rfl rfl ?_
    refine wi_zreturn (nx := 18) (r1 := 0) (r2 := 0) (r3 := 0) rfl rfl (by omega) ?_
    refine wk_i ?_
    refine wi_if (cd := .ne) (nx := 12) (r1 := 14) (r2 := 0) (r3 := 0) rfl (by omega) (fun (q21 : 0 ≠ 0) => by exfalso; omega) (fun (q21 : ¬ (0 ≠ 0)) => ?_)
    refine wi_iconst (n := 0) (nx := 13) (r1 := 0) (r2 := 0) (r3 := 0) rfl ?_
    refine wi_ireturn (nx := 14) (r1 := 0) (r2 := 0) (r3 := 0) rfl rfl ?_
    have e22 : h19 238 98 = h 238 98 := (u19 238 98 rfl)
    have e23 : h19 238 99 = h 238 99 := (u19 238 99 rfl)
    have e24 : h19 238 100 = h 238 100 := (u19 238 100 rfl)
    have e25 : h19 238 101 = h 238 101 := (u19 238 101 rfl)
    have e26 : h19 238 102 = h 238 102 := (u19 238 102 rfl)
    have e27 : h19 238 106 = h 238 106 := (u19 238 106 rfl)
    have e28 : h19 238 73 = h 238 73 := (u19 238 73 rfl)
    have e29 : h19 238 2 = h 238 2 := (u19 238 2 rfl)
    have e30 : h19 238 119 = h 238 119 := (u19 238 119 rfl)
    have e31 : h19 238 67 = h 238 67 := (u19 238 67 rfl)
    have e32 : h19 238 69 = h 238 69 := (u19 238 69 rfl)
    have e33 : h19 238 5 = h 238 5 := (u19 238 5 rfl)
    have gs34 := GPS.fr u19 rfl xq0
    have gp35 := GPH.fr u19 rfl gp0
    exact k h19 0 g19 F20 (by omega) (show (h19 238 98) + (h19 238 99) + (h19 238 100) + (h19 238 101) + (h19 238 102) + (h19 238 106) = (h19 238 73) by omega) (show (h19 238 73) ≤ (h19 238 2) by omega) (show (h19 238 119) ≤ (h19 238 67) by omega) (show (h19 238 69) ≤ (h19 238 5) by omega) (show (h19 238 2) ≤ 12 * (h19 238 5) by omega) gs34 gp35
  ·
    refine wi_lload_n (i := 0) (e := a0) (nx := 7) (r1 := 0) (r2 := 0) (r3 := 0) rfl rfl ?_
    refine wi_lload (i := 4) (e := e14) (nx := 9) (r1 := 0) (r2 := 0) (r3 := 0) rfl rfl ?_
    refine wi_lcmp (a := a0) (e := e14) (nx := 10) (r1 := 0) (r2 := 0) (r3 := 0) rfl (by omega) (by omega) (fun r17 (fr17 : (r17 = -1 ∧ a0 < e14) ∨ (r17 = 0 ∧ a0 = e14) ∨ (r17 = 1 ∧ e14 < a0)) => ?_)
    refine wi_if (cd := .gt) (nx := 13) (r1 := 17) (r2 := 0) (r3 := 0) rfl (by omega) (fun (q18 : 0 < r17) => ?_) (fun (q18 : ¬ (0 < r17)) => ?_)
    ·
      refine wi_iconst (n := 0) (nx := 18) (r1 := 0) (r2 := 0) (r3 := 0) rfl ?_
      refine wi_zreturn (nx := 19) (r1 := 0) (r2 := 0) (r3 := 0) rfl rfl (by omega) ?_
      refine wk_i ?_
      refine wi_zreturn (nx := 16) (r1 := 0) (r2 := 0) (r3 := 0) rfl rfl (by omega) ?_
      refine wk_i ?_
      refine wr_V (k0 := 236) (rest := []) (as := [.ref 236, vi 0]) (nx := 9) (r1 := 206) (r2 := 1) (r3 := 11) rfl rfl rfl (of_decide_eq_true rfl) rfl rfl (by decide) rfl rfl (of_decide_eq_true rfl) (of_decide_eq_true rfl) ?_
      refine wi_aload_n (i := 0) (x := 236) (nx := 1) (r1 := 0) (r2 := 0) (r3 := 0) rfl rfl ?_
      refine wi_iload_n (i := 1) (e := 0) (nx := 2) (r1 := 0) (r2 := 0) (r3 := 0) rfl rfl ?_
      refine wi_if (cd := .ne) (nx := 5) (r1 := 9) (r2 := 0) (r3 := 0) rfl (by omega) (fun (q19 : 0 ≠ 0) => by exfalso; omega) (fun (q19 : ¬ (0 ≠ 0)) => ?_)
      refine wi_iconst (n := 1) (nx := 6) (r1 := 0) (r2 := 0) (r3 := 0) rfl ?_
      refine wi_goto (nx := 9) (r1 := 10) (r2 := 0) (r3 := 0) rfl ?_
      refine wi_S (rest := [.ref 236]) (as := [vi 1]) (nx := 13) (r1 := 207) (r2 := 17) (r3 := 0) rfl rfl rfl (of_decide_eq_true rfl) rfl rfl (of_decide_eq_true rfl) (of_decide_eq_true rfl) ?_
      refine wi_iload_n (i := 0) (e := 1) (nx := 1) (r1 := 0) (r2 := 0) (r3 := 0) rfl rfl ?_
      refine wi_if (cd := .eq) (nx := 4) (r1 := 8) (r2 := 0) (r3 := 0) rfl (by omega) (fun (q20 : 1 = 0) => by exfalso; omega) (fun (q20 : ¬ (1 = 0)) => ?_)
      refine wi_iconst (n := 1) (nx := 5) (r1 := 0) (r2 := 0) (r3 := 0) rfl ?_
      refine wi_goto (nx := 8) (r1 := 9) (r2 := 0) (r3 := 0) rfl ?_
      refine wi_ireturn (nx := 10) (r1 := 0) (r2 := 0) (r3 := 0) rfl rfl ?_
      refine wk_i ?_
      refine wr_pf0 (k0 := 236) (x := 1) (bl := 0) (bh := 2) (nx := 16) (r1 := 11) (r2 := 0) (r3 := 0) rfl (by decide) rfl ⟨rfl, rfl⟩ rfl rfl g rfl (by omega) (fun h21 g21 w21 u21 => ?_)
      have F22 := F0.then rfl u21
      refine wi_iload_n (i := 1) (e := 0) (nx := 17) (r1 := 0) (r2 := 0) (r3 := 0) rfl rfl ?_
      refine wi_zreturn (nx := 18) (r1 := 0) (r2 := 0) (r3 := 0) rfl rfl (by omega) ?_
      refine wk_i ?_
      refine wi_if (cd := .ne) (nx := 12) (r1 := 14) (r2 := 0) (r3 := 0) rfl (by omega) (fun (q23 : 0 ≠ 0) => by exfalso; omega) (fun (q23 : ¬ (0 ≠ 0)) => ?_)
      refine wi_iconst (n := 0) (nx := 13) (r1 := 0) (r2 := 0) (r3 := 0) rfl ?_
      refine wi_ireturn (nx := 14) (r1 := 0) (r2 := 0) (r3 := 0) rfl rfl ?_
      have e24 : h21 238 98 = h 238 98 := (u21 238 98 rfl)
      have e25 : h21 238 99 = h 238 99 := (u21 238 99 rfl)
      have e26 : h21 238 100 = h 238 100 := (u21 238 100 rfl)
      have e27 : h21 238 101 = h 238 101 := (u21 238 101 rfl)
      have e28 : h21 238 102 = h 238 102 := (u21 238 102 rfl)
      have e29 : h21 238 106 = h 238 106 := (u21 238 106 rfl)
      have e30 : h21 238 73 = h 238 73 := (u21 238 73 rfl)
      have e31 : h21 238 2 = h 238 2 := (u21 238 2 rfl)
      have e32 : h21 238 119 = h 238 119 := (u21 238 119 rfl)
      have e33 : h21 238 67 = h 238 67 := (u21 238 67 rfl)
      have e34 : h21 238 69 = h 238 69 := (u21 238 69 rfl)
      have e35 : h21 238 5 = h 238 5 := (u21 238 5 rfl)
      have gs36 := GPS.fr u21 rfl xq0
      have gp37 := GPH.fr u21 rfl gp0
      exact k h21 0 g21 F22 (by omega) (show (h21 238 98) + (h21 238 99) + (h21 238 100) + (h21 238 101) + (h21 238 102) + (h21 238 106) = (h21 238 73) by omega) (show (h21 238 73) ≤ (h21 238 2) by omega) (show (h21 238 119) ≤ (h21 238 67) by omega) (show (h21 238 69) ≤ (h21 238 5) by omega) (show (h21 238 2) ≤ 12 * (h21 238 5) by omega) gs36 gp37
    ·
      refine wi_iconst (n := 1) (nx := 14) (r1 := 0) (r2 := 0) (r3 := 0) rfl ?_
      refine wi_goto (nx := 17) (r1 := 18) (r2 := 0) (r3 := 0) rfl ?_
      refine wi_zreturn (nx := 19) (r1 := 0) (r2 := 0) (r3 := 0) rfl rfl (by omega) ?_
      refine wk_i ?_
      refine wi_zreturn (nx := 16) (r1 := 0) (r2 := 0) (r3 := 0) rfl rfl (by omega) ?_
      refine wk_i ?_
      refine wr_V (k0 := 236) (rest := []) (as := [.ref 236, vi 1]) (nx := 9) (r1 := 206) (r2 := 1) (r3 := 11) rfl rfl rfl (of_decide_eq_true rfl) rfl rfl (by decide) rfl rfl (of_decide_eq_true rfl) (of_decide_eq_true rfl) ?_
      refine wi_aload_n (i := 0) (x := 236) (nx := 1) (r1 := 0) (r2 := 0) (r3 := 0) rfl rfl ?_
      refine wi_iload_n (i := 1) (e := 1) (nx := 2) (r1 := 0) (r2 := 0) (r3 := 0) rfl rfl ?_
      refine wi_if (cd := .ne) (nx := 5) (r1 := 9) (r2 := 0) (r3 := 0) rfl (by omega) (fun (q19 : 1 ≠ 0) => ?_) (fun (q19 : ¬ (1 ≠ 0)) => by exfalso; omega)
      refine wi_iconst (n := 0) (nx := 10) (r1 := 0) (r2 := 0) (r3 := 0) rfl ?_
      refine wi_S (rest := [.ref 236]) (as := [vi 0]) (nx := 13) (r1 := 207) (r2 := 17) (r3 := 0) rfl rfl rfl (of_decide_eq_true rfl) rfl rfl (of_decide_eq_true rfl) (of_decide_eq_true rfl) ?_
      refine wi_iload_n (i := 0) (e := 0) (nx := 1) (r1 := 0) (r2 := 0) (r3 := 0) rfl rfl ?_
      refine wi_if (cd := .eq) (nx := 4) (r1 := 8) (r2 := 0) (r3 := 0) rfl (by omega) (fun (q20 : 0 = 0) => ?_) (fun (q20 : ¬ (0 = 0)) => by exfalso; omega)
      refine wi_iconst (n := 0) (nx := 9) (r1 := 0) (r2 := 0) (r3 := 0) rfl ?_
      refine wi_ireturn (nx := 10) (r1 := 0) (r2 := 0) (r3 := 0) rfl rfl ?_
      refine wk_i ?_
      refine wr_pf0 (k0 := 236) (x := 0) (bl := 0) (bh := 2) (nx := 16) (r1 := 11) (r2 := 0) (r3 := 0) rfl (by decide) rfl ⟨rfl, rfl⟩ rfl rfl g rfl (by omega) (fun h21 g21 w21 u21 => ?_)
      have F22 := F0.then rfl u21
      refine wi_iload_n (i := 1) (e := 1) (nx := 17) (r1 := 0) (r2 := 0) (r3 := 0) rfl rfl ?_
      refine wi_zreturn (nx := 18) (r1 := 0) (r2 := 0) (r3 := 0) rfl rfl (by omega) ?_
      refine wk_i ?_
      refine wi_if (cd := .ne) (nx := 12) (r1 := 14) (r2 := 0) (r3 := 0) rfl (by omega) (fun (q23 : 1 ≠ 0) => ?_) (fun (q23 : ¬ (1 ≠ 0)) => by exfalso; omega)
      refine wi_aload_n (i := 0) (x := 236) (nx := 15) (r1 := 0) (r2 := 0) (r3 := 0) rfl rfl ?_
      refine wi_iload_n (i := 1) (e := a0) (nx := 16) (r1 := 0) (r2 := 0) (r3 := 0) rfl rfl ?_
      rcases (show a0 = 0 ∨ a0 = 1 ∨ a0 = 2 ∨ a0 = 3 by omega) with q24 | q24 | q24 | q24
      ·
        rw [q24]
        refine wr_V (k0 := 236) (rest := []) (as := [.ref 236, vi 0]) (nx := 19) (r1 := 267) (r2 := 1) (r3 := 11) rfl rfl rfl (of_decide_eq_true rfl) rfl rfl (by decide) rfl rfl (of_decide_eq_true rfl) (of_decide_eq_true rfl) ?_
        refine ct_267_236_L0 hcr  g21    (fun z26  (fz26 : 0 ≤ z26 ∧ z26 ≤ 1) (p25_0 : z26 = 0 ∨ 1 ≤ (h21 238 98)) (p25_1 : z26 = 0 ∨ (h21 238 67) ≤ 9998) (p25_2 : z26 = 0 ∨ (1 ≤ (h21 238 (43 + (h21 238 74).toNat)) ∧ (h21 238 102) < (h21 238 7)) ∨ ((h21 238 (43 + (h21 238 74).toNat)) ≤ 0 ∧ (h21 238 74) - (h21 238 106) ≤ (h21 238 3))) y25_0 => ?_)
        have e27 : h21 238 98 = h 238 98 := (u21 238 98 rfl)
        have e28 : h21 238 67 = h 238 67 := (u21 238 67 rfl)
        have b29 := gi_b (lo := 0) (hi := 11) g 238 74 rfl
        have e30 : h21 238 74 = h 238 74 := (u21 238 74 rfl)
        obtain ⟨i31, ei31⟩ : ∃ q : Nat, (43 + h 238 74) = (q : Int) := ⟨(43 + h 238 74).toNat, by omega⟩
        have b32 := gi_b (lo := 0) (hi := 999) g 238 i31 (gi_rg 43 12 (fun _ => rfl) (by decide +kernel) (by omega))
        have e33 : h21 238 (43 + (h21 238 74).toNat) = h 238 i31 := by rw [show 43 + (h21 238 74).toNat = i31 by omega]; exact (u21 238 i31 (fn_a (by omega) fn_0))
        have e34 : h21 238 102 = h 238 102 := (u21 238 102 rfl)
        have b35 := gi_b (lo := 0) (hi := 3) g 238 7 rfl
        have e36 : h21 238 7 = h 238 7 := (u21 238 7 rfl)
        have e37 : h21 238 106 = h 238 106 := (u21 238 106 rfl)
        have b38 := gi_b (lo := 0) (hi := 999) g 238 3 rfl
        have e39 : h21 238 3 = h 238 3 := (u21 238 3 rfl)
        refine wk_i ?_
        refine wi_if (cd := .ne) (nx := 22) (r1 := 24) (r2 := 0) (r3 := 0) rfl (by omega) (fun (q40 : z26 ≠ 0) => ?_) (fun (q40 : ¬ (z26 ≠ 0)) => ?_)
        ·
          refine wi_aload_n (i := 0) (x := 236) (nx := 25) (r1 := 0) (r2 := 0) (r3 := 0) rfl rfl ?_
          refine wr_V (k0 := 236) (rest := []) (as := [.ref 236]) (nx := 28) (r1 := 278) (r2 := 0) (r3 := 11) rfl rfl rfl (of_decide_eq_true rfl) rfl rfl (by decide) rfl rfl (of_decide_eq_true rfl) (of_decide_eq_true rfl) ?_
          have e42 : h21 238 99 = h 238 99 := (u21 238 99 rfl)
          have e43 : h21 238 100 = h 238 100 := (u21 238 100 rfl)
          have e44 : h21 238 101 = h 238 101 := (u21 238 101 rfl)
          have e45 : h21 238 73 = h 238 73 := (u21 238 73 rfl)
          have e46 : h21 238 2 = h 238 2 := (u21 238 2 rfl)
          have e47 : h21 238 119 = h 238 119 := (u21 238 119 rfl)
          have e48 : h21 238 69 = h 238 69 := (u21 238 69 rfl)
          have e49 : h21 238 5 = h 238 5 := (u21 238 5 rfl)
          have gs50 := GPS.fr u21 rfl xq0
          have gp51 := GPH.fr u21 rfl gp0
          refine ct_278_236 hcr  g21   (show (h21 238 98) + (h21 238 99) + (h21 238 100) + (h21 238 101) + (h21 238 102) + (h21 238 106) = (h21 238 73) by omega) (show (h21 238 73) ≤ (h21 238 2) by omega) (show (h21 238 119) ≤ (h21 238 67) by omega) (show (h21 238 69) ≤ (h21 238 5) by omega) (show (h21 238 2) ≤ 12 * (h21 238 5) by omega) gs50 gp51 (fun h41 g41 u41 (p41_0 : 1 ≤ (h41 236 22)) y41_0 y41_1 => ?_)
          have F52 := F22.then (by decide +kernel) u41
          have b53 := gi_b (lo := 0) (hi := 6) g41 236 22 rfl
          refine wk_n ?_
          refine wi_aload_n (i := 0) (x := 236) (nx := 29) (r1 := 0) (r2 := 0) (r3 := 0) rfl rfl ?_
          refine wi_iload_n (i := 1) (e := 0) (nx := 30) (r1 := 0) (r2 := 0) (r3 := 0) rfl rfl ?_
          refine wr_V (k0 := 236) (rest := []) (as := [.ref 236, vi 0]) (nx := 33) (r1 := 282) (r2 := 1) (r3 := 11) rfl rfl rfl (of_decide_eq_true rfl) rfl rfl (by decide) rfl rfl (of_decide_eq_true rfl) (of_decide_eq_true rfl) ?_
          have e55 : h41 238 98 = h 238 98 := ((u41 238 98 rfl).trans (u21 238 98 rfl))
          have e56 : h41 238 99 = h 238 99 := ((u41 238 99 rfl).trans (u21 238 99 rfl))
          have e57 : h41 238 100 = h 238 100 := ((u41 238 100 rfl).trans (u21 238 100 rfl))
          have e58 : h41 238 101 = h 238 101 := ((u41 238 101 rfl).trans (u21 238 101 rfl))
          have e59 : h41 238 102 = h 238 102 := ((u41 238 102 rfl).trans (u21 238 102 rfl))
          have e60 : h41 238 106 = h 238 106 := ((u41 238 106 rfl).trans (u21 238 106 rfl))
          have e61 : h41 238 73 = h 238 73 := ((u41 238 73 rfl).trans (u21 238 73 rfl))
          have e62 : h41 238 2 = h 238 2 := ((u41 238 2 rfl).trans (u21 238 2 rfl))
          have e63 : h41 238 119 = h 238 119 := ((u41 238 119 rfl).trans (u21 238 119 rfl))
          have e64 : h41 238 67 = h 238 67 := ((u41 238 67 rfl).trans (u21 238 67 rfl))
          have e65 : h41 238 69 = h 238 69 := ((u41 238 69 rfl).trans (u21 238 69 rfl))
          have e66 : h41 238 5 = h 238 5 := ((u41 238 5 rfl).trans (u21 238 5 rfl))
          have e67 : h41 238 74 = h 238 74 := ((u41 238 74 rfl).trans (u21 238 74 rfl))
          have e68 : h41 238 (43 + (h41 238 74).toNat) = h 238 i31 := by rw [show 43 + (h41 238 74).toNat = i31 by omega]; exact ((u41 238 i31 (fn_a (by decide) (fn_a (by decide) (fn_a (by decide) fn_0)))).trans (u21 238 i31 (fn_a (by omega) fn_0)))
          refine ct_282_236_L0 hcr  g41   (show (h41 238 98) + (h41 238 99) + (h41 238 100) + (h41 238 101) + (h41 238 102) + (h41 238 106) = (h41 238 73) by omega) (show (h41 238 73) ≤ (h41 238 2) by omega) (show (h41 238 119) ≤ (h41 238 67) by omega) (show (h41 238 69) ≤ (h41 238 5) by omega) (show (h41 238 2) ≤ 12 * (h41 238 5) by omega) (show 1 ≤ (h41 238 98) by omega) (show (h41 238 67) ≤ 9998 by omega) (show (h41 238 102) ≤ 2 ∨ (h41 238 (43 + (h41 238 74).toNat)) ≤ 0 by omega) (fun h54 z69 g54 u54 (fz69 : 0 ≤ z69 ∧ z69 ≤ 11) (p54_0 : (h54 238 98) + (h54 238 99) + (h54 238 100) + (h54 238 101) + (h54 238 102) + (h54 238 106) = (h54 238 73)) (p54_1 : (h54 238 73) ≤ (h54 238 2)) (p54_2 : (h54 238 119) ≤ (h54 238 67)) (p54_3 : (h54 238 69) ≤ (h54 238 5)) (p54_4 : (h54 238 2) ≤ 12 * (h54 238 5)) => ?_)
          have F70 := F52.then (by decide +kernel) u54
          have b71 := gi_b (lo := 0) (hi := 6) g54 238 98 rfl
          have e72 : h54 238 99 = h 238 99 := ((u54 238 99 rfl).trans ((u41 238 99 rfl).trans (u21 238 99 rfl)))
          have e73 : h54 238 100 = h 238 100 := ((u54 238 100 rfl).trans ((u41 238 100 rfl).trans (u21 238 100 rfl)))
          have e74 : h54 238 101 = h 238 101 := ((u54 238 101 rfl).trans ((u41 238 101 rfl).trans (u21 238 101 rfl)))
          have b75 := gi_b (lo := 0) (hi := 3) g54 238 102 rfl
          have b76 := gi_b (lo := 0) (hi := 12) g54 238 106 rfl
          have e77 : h54 238 73 = h 238 73 := ((u54 238 73 rfl).trans ((u41 238 73 rfl).trans (u21 238 73 rfl)))
          have e78 : h54 238 2 = h 238 2 := ((u54 238 2 rfl).trans ((u41 238 2 rfl).trans (u21 238 2 rfl)))
          have b79 := gi_b (lo := 0) (hi := 9999) g54 238 119 rfl
          have b80 := gi_b (lo := 0) (hi := 9999) g54 238 67 rfl
          have b81 := gi_b (lo := 0) (hi := 9) g54 238 69 rfl
          have e82 : h54 238 5 = h 238 5 := ((u54 238 5 rfl).trans ((u41 238 5 rfl).trans (u21 238 5 rfl)))
          refine wk_i ?_
          refine wi_ireturn (nx := 34) (r1 := 0) (r2 := 0) (r3 := 0) rfl rfl ?_
          have gs83 := GPS.fr u54 rfl y41_0
          have gp84 := GPH.fr u54 rfl y41_1
          exact k h54 z69 g54 F70 (by omega) (show (h54 238 98) + (h54 238 99) + (h54 238 100) + (h54 238 101) + (h54 238 102) + (h54 238 106) = (h54 238 73) by omega) (show (h54 238 73) ≤ (h54 238 2) by omega) (show (h54 238 119) ≤ (h54 238 67) by omega) (show (h54 238 69) ≤ (h54 238 5) by omega) (show (h54 238 2) ≤ 12 * (h54 238 5) by omega) gs83 gp84
        ·
          refine wi_iconst (n := (-1)) (nx := 23) (r1 := 0) (r2 := 0) (r3 := 0) rfl ?_
          refine wi_ireturn (nx := 24) (r1 := 0) (r2 := 0) (r3 := 0) rfl rfl ?_
          have e41 : h21 238 99 = h 238 99 := (u21 238 99 rfl)
          have e42 : h21 238 100 = h 238 100 := (u21 238 100 rfl)
          have e43 : h21 238 101 = h 238 101 := (u21 238 101 rfl)
          have e44 : h21 238 73 = h 238 73 := (u21 238 73 rfl)
          have e45 : h21 238 2 = h 238 2 := (u21 238 2 rfl)
          have e46 : h21 238 119 = h 238 119 := (u21 238 119 rfl)
          have e47 : h21 238 69 = h 238 69 := (u21 238 69 rfl)
          have e48 : h21 238 5 = h 238 5 := (u21 238 5 rfl)
          have gs49 := GPS.fr u21 rfl xq0
          have gp50 := GPH.fr u21 rfl gp0
          exact k h21 (-1) g21 F22 (by omega) (show (h21 238 98) + (h21 238 99) + (h21 238 100) + (h21 238 101) + (h21 238 102) + (h21 238 106) = (h21 238 73) by omega) (show (h21 238 73) ≤ (h21 238 2) by omega) (show (h21 238 119) ≤ (h21 238 67) by omega) (show (h21 238 69) ≤ (h21 238 5) by omega) (show (h21 238 2) ≤ 12 * (h21 238 5) by omega) gs49 gp50
      ·
        rw [q24]
        refine wr_V (k0 := 236) (rest := []) (as := [.ref 236, vi 1]) (nx := 19) (r1 := 267) (r2 := 1) (r3 := 11) rfl rfl rfl (of_decide_eq_true rfl) rfl rfl (by decide) rfl rfl (of_decide_eq_true rfl) (of_decide_eq_true rfl) ?_
        refine ct_267_236_L1 hcr  g21    (fun z26  (fz26 : 0 ≤ z26 ∧ z26 ≤ 1) (p25_0 : z26 = 0 ∨ 1 ≤ (h21 238 99)) (p25_1 : z26 = 0 ∨ (h21 238 67) ≤ 9998) (p25_2 : z26 = 0 ∨ (1 ≤ (h21 238 (43 + (h21 238 80).toNat)) ∧ (h21 238 102) < (h21 238 7)) ∨ ((h21 238 (43 + (h21 238 80).toNat)) ≤ 0 ∧ (h21 238 80) - (h21 238 106) ≤ (h21 238 3))) y25_0 => ?_)
        have e27 : h21 238 99 = h 238 99 := (u21 238 99 rfl)
        have e28 : h21 238 67 = h 238 67 := (u21 238 67 rfl)
        have b29 := gi_b (lo := 0) (hi := 11) g 238 80 rfl
        have e30 : h21 238 80 = h 238 80 := (u21 238 80 rfl)
        obtain ⟨i31, ei31⟩ : ∃ q : Nat, (43 + h 238 80) = (q : Int) := ⟨(43 + h 238 80).toNat, by omega⟩
        have b32 := gi_b (lo := 0) (hi := 999) g 238 i31 (gi_rg 43 12 (fun _ => rfl) (by decide +kernel) (by omega))
        have e33 : h21 238 (43 + (h21 238 80).toNat) = h 238 i31 := by rw [show 43 + (h21 238 80).toNat = i31 by omega]; exact (u21 238 i31 (fn_a (by omega) fn_0))
        have e34 : h21 238 102 = h 238 102 := (u21 238 102 rfl)
        have b35 := gi_b (lo := 0) (hi := 3) g 238 7 rfl
        have e36 : h21 238 7 = h 238 7 := (u21 238 7 rfl)
        have e37 : h21 238 106 = h 238 106 := (u21 238 106 rfl)
        have b38 := gi_b (lo := 0) (hi := 999) g 238 3 rfl
        have e39 : h21 238 3 = h 238 3 := (u21 238 3 rfl)
        refine wk_i ?_
        refine wi_if (cd := .ne) (nx := 22) (r1 := 24) (r2 := 0) (r3 := 0) rfl (by omega) (fun (q40 : z26 ≠ 0) => ?_) (fun (q40 : ¬ (z26 ≠ 0)) => ?_)
        ·
          refine wi_aload_n (i := 0) (x := 236) (nx := 25) (r1 := 0) (r2 := 0) (r3 := 0) rfl rfl ?_
          refine wr_V (k0 := 236) (rest := []) (as := [.ref 236]) (nx := 28) (r1 := 278) (r2 := 0) (r3 := 11) rfl rfl rfl (of_decide_eq_true rfl) rfl rfl (by decide) rfl rfl (of_decide_eq_true rfl) (of_decide_eq_true rfl) ?_
          have e42 : h21 238 98 = h 238 98 := (u21 238 98 rfl)
          have e43 : h21 238 100 = h 238 100 := (u21 238 100 rfl)
          have e44 : h21 238 101 = h 238 101 := (u21 238 101 rfl)
          have e45 : h21 238 73 = h 238 73 := (u21 238 73 rfl)
          have e46 : h21 238 2 = h 238 2 := (u21 238 2 rfl)
          have e47 : h21 238 119 = h 238 119 := (u21 238 119 rfl)
          have e48 : h21 238 69 = h 238 69 := (u21 238 69 rfl)
          have e49 : h21 238 5 = h 238 5 := (u21 238 5 rfl)
          have gs50 := GPS.fr u21 rfl xq0
          have gp51 := GPH.fr u21 rfl gp0
          refine ct_278_236 hcr  g21   (show (h21 238 98) + (h21 238 99) + (h21 238 100) + (h21 238 101) + (h21 238 102) + (h21 238 106) = (h21 238 73) by omega) (show (h21 238 73) ≤ (h21 238 2) by omega) (show (h21 238 119) ≤ (h21 238 67) by omega) (show (h21 238 69) ≤ (h21 238 5) by omega) (show (h21 238 2) ≤ 12 * (h21 238 5) by omega) gs50 gp51 (fun h41 g41 u41 (p41_0 : 1 ≤ (h41 236 22)) y41_0 y41_1 => ?_)
          have F52 := F22.then (by decide +kernel) u41
          have b53 := gi_b (lo := 0) (hi := 6) g41 236 22 rfl
          refine wk_n ?_
          refine wi_aload_n (i := 0) (x := 236) (nx := 29) (r1 := 0) (r2 := 0) (r3 := 0) rfl rfl ?_
          refine wi_iload_n (i := 1) (e := 1) (nx := 30) (r1 := 0) (r2 := 0) (r3 := 0) rfl rfl ?_
          refine wr_V (k0 := 236) (rest := []) (as := [.ref 236, vi 1]) (nx := 33) (r1 := 282) (r2 := 1) (r3 := 11) rfl rfl rfl (of_decide_eq_true rfl) rfl rfl (by decide) rfl rfl (of_decide_eq_true rfl) (of_decide_eq_true rfl) ?_
          have e55 : h41 238 98 = h 238 98 := ((u41 238 98 rfl).trans (u21 238 98 rfl))
          have e56 : h41 238 99 = h 238 99 := ((u41 238 99 rfl).trans (u21 238 99 rfl))
          have e57 : h41 238 100 = h 238 100 := ((u41 238 100 rfl).trans (u21 238 100 rfl))
          have e58 : h41 238 101 = h 238 101 := ((u41 238 101 rfl).trans (u21 238 101 rfl))
          have e59 : h41 238 102 = h 238 102 := ((u41 238 102 rfl).trans (u21 238 102 rfl))
          have e60 : h41 238 106 = h 238 106 := ((u41 238 106 rfl).trans (u21 238 106 rfl))
          have e61 : h41 238 73 = h 238 73 := ((u41 238 73 rfl).trans (u21 238 73 rfl))
          have e62 : h41 238 2 = h 238 2 := ((u41 238 2 rfl).trans (u21 238 2 rfl))
          have e63 : h41 238 119 = h 238 119 := ((u41 238 119 rfl).trans (u21 238 119 rfl))
          have e64 : h41 238 67 = h 238 67 := ((u41 238 67 rfl).trans (u21 238 67 rfl))
          have e65 : h41 238 69 = h 238 69 := ((u41 238 69 rfl).trans (u21 238 69 rfl))
          have e66 : h41 238 5 = h 238 5 := ((u41 238 5 rfl).trans (u21 238 5 rfl))
          have e67 : h41 238 80 = h 238 80 := ((u41 238 80 rfl).trans (u21 238 80 rfl))
          have e68 : h41 238 (43 + (h41 238 80).toNat) = h 238 i31 := by rw [show 43 + (h41 238 80).toNat = i31 by omega]; exact ((u41 238 i31 (fn_a (by decide) (fn_a (by decide) (fn_a (by decide) fn_0)))).trans (u21 238 i31 (fn_a (by omega) fn_0)))
          refine ct_282_236_L1 hcr  g41   (show (h41 238 98) + (h41 238 99) + (h41 238 100) + (h41 238 101) + (h41 238 102) + (h41 238 106) = (h41 238 73) by omega) (show (h41 238 73) ≤ (h41 238 2) by omega) (show (h41 238 119) ≤ (h41 238 67) by omega) (show (h41 238 69) ≤ (h41 238 5) by omega) (show (h41 238 2) ≤ 12 * (h41 238 5) by omega) (show 1 ≤ (h41 238 99) by omega) (show (h41 238 67) ≤ 9998 by omega) (show (h41 238 102) ≤ 2 ∨ (h41 238 (43 + (h41 238 80).toNat)) ≤ 0 by omega) (fun h54 z69 g54 u54 (fz69 : 0 ≤ z69 ∧ z69 ≤ 11) (p54_0 : (h54 238 98) + (h54 238 99) + (h54 238 100) + (h54 238 101) + (h54 238 102) + (h54 238 106) = (h54 238 73)) (p54_1 : (h54 238 73) ≤ (h54 238 2)) (p54_2 : (h54 238 119) ≤ (h54 238 67)) (p54_3 : (h54 238 69) ≤ (h54 238 5)) (p54_4 : (h54 238 2) ≤ 12 * (h54 238 5)) => ?_)
          have F70 := F52.then (by decide +kernel) u54
          have e71 : h54 238 98 = h 238 98 := ((u54 238 98 rfl).trans ((u41 238 98 rfl).trans (u21 238 98 rfl)))
          have b72 := gi_b (lo := 0) (hi := 6) g54 238 99 rfl
          have e73 : h54 238 100 = h 238 100 := ((u54 238 100 rfl).trans ((u41 238 100 rfl).trans (u21 238 100 rfl)))
          have e74 : h54 238 101 = h 238 101 := ((u54 238 101 rfl).trans ((u41 238 101 rfl).trans (u21 238 101 rfl)))
          have b75 := gi_b (lo := 0) (hi := 3) g54 238 102 rfl
          have b76 := gi_b (lo := 0) (hi := 12) g54 238 106 rfl
          have e77 : h54 238 73 = h 238 73 := ((u54 238 73 rfl).trans ((u41 238 73 rfl).trans (u21 238 73 rfl)))
          have e78 : h54 238 2 = h 238 2 := ((u54 238 2 rfl).trans ((u41 238 2 rfl).trans (u21 238 2 rfl)))
          have b79 := gi_b (lo := 0) (hi := 9999) g54 238 119 rfl
          have b80 := gi_b (lo := 0) (hi := 9999) g54 238 67 rfl
          have b81 := gi_b (lo := 0) (hi := 9) g54 238 69 rfl
          have e82 : h54 238 5 = h 238 5 := ((u54 238 5 rfl).trans ((u41 238 5 rfl).trans (u21 238 5 rfl)))
          refine wk_i ?_
          refine wi_ireturn (nx := 34) (r1 := 0) (r2 := 0) (r3 := 0) rfl rfl ?_
          have gs83 := GPS.fr u54 rfl y41_0
          have gp84 := GPH.fr u54 rfl y41_1
          exact k h54 z69 g54 F70 (by omega) (show (h54 238 98) + (h54 238 99) + (h54 238 100) + (h54 238 101) + (h54 238 102) + (h54 238 106) = (h54 238 73) by omega) (show (h54 238 73) ≤ (h54 238 2) by omega) (show (h54 238 119) ≤ (h54 238 67) by omega) (show (h54 238 69) ≤ (h54 238 5) by omega) (show (h54 238 2) ≤ 12 * (h54 238 5) by omega) gs83 gp84
        ·
          refine wi_iconst (n := (-1)) (nx := 23) (r1 := 0) (r2 := 0) (r3 := 0) rfl ?_
          refine wi_ireturn (nx := 24) (r1 := 0) (r2 := 0) (r3 := 0) rfl rfl ?_
          have e41 : h21 238 98 = h 238 98 := (u21 238 98 rfl)
          have e42 : h21 238 100 = h 238 100 := (u21 238 100 rfl)
          have e43 : h21 238 101 = h 238 101 := (u21 238 101 rfl)
          have e44 : h21 238 73 = h 238 73 := (u21 238 73 rfl)
          have e45 : h21 238 2 = h 238 2 := (u21 238 2 rfl)
          have e46 : h21 238 119 = h 238 119 := (u21 238 119 rfl)
          have e47 : h21 238 69 = h 238 69 := (u21 238 69 rfl)
          have e48 : h21 238 5 = h 238 5 := (u21 238 5 rfl)
          have gs49 := GPS.fr u21 rfl xq0
          have gp50 := GPH.fr u21 rfl gp0
          exact k h21 (-1) g21 F22 (by omega) (show (h21 238 98) + (h21 238 99) + (h21 238 100) + (h21 238 101) + (h21 238 102) + (h21 238 106) = (h21 238 73) by omega) (show (h21 238 73) ≤ (h21 238 2) by omega) (show (h21 238 119) ≤ (h21 238 67) by omega) (show (h21 238 69) ≤ (h21 238 5) by omega) (show (h21 238 2) ≤ 12 * (h21 238 5) by omega) gs49 gp50
      ·
        rw [q24]
        refine wr_V (k0 := 236) (rest := []) (as := [.ref 236, vi 2]) (nx := 19) (r1 := 267) (r2 := 1) (r3 := 11) rfl rfl rfl (of_decide_eq_true rfl) rfl rfl (by decide) rfl rfl (of_decide_eq_true rfl) (of_decide_eq_true rfl) ?_
        refine ct_267_236_L2 hcr  g21    (fun z26  (fz26 : 0 ≤ z26 ∧ z26 ≤ 1) (p25_0 : z26 = 0 ∨ 1 ≤ (h21 238 100)) (p25_1 : z26 = 0 ∨ (h21 238 67) ≤ 9998) (p25_2 : z26 = 0 ∨ (1 ≤ (h21 238 (43 + (h21 238 86).toNat)) ∧ (h21 238 102) < (h21 238 7)) ∨ ((h21 238 (43 + (h21 238 86).toNat)) ≤ 0 ∧ (h21 238 86) - (h21 238 106) ≤ (h21 238 3))) y25_0 => ?_)
        have e27 : h21 238 100 = h 238 100 := (u21 238 100 rfl)
        have e28 : h21 238 67 = h 238 67 := (u21 238 67 rfl)
        have b29 := gi_b (lo := 0) (hi := 11) g 238 86 rfl
        have e30 : h21 238 86 = h 238 86 := (u21 238 86 rfl)
        obtain ⟨i31, ei31⟩ : ∃ q : Nat, (43 + h 238 86) = (q : Int) := ⟨(43 + h 238 86).toNat, by omega⟩
        have b32 := gi_b (lo := 0) (hi := 999) g 238 i31 (gi_rg 43 12 (fun _ => rfl) (by decide +kernel) (by omega))
        have e33 : h21 238 (43 + (h21 238 86).toNat) = h 238 i31 := by rw [show 43 + (h21 238 86).toNat = i31 by omega]; exact (u21 238 i31 (fn_a (by omega) fn_0))
        have e34 : h21 238 102 = h 238 102 := (u21 238 102 rfl)
        have b35 := gi_b (lo := 0) (hi := 3) g 238 7 rfl
        have e36 : h21 238 7 = h 238 7 := (u21 238 7 rfl)
        have e37 : h21 238 106 = h 238 106 := (u21 238 106 rfl)
        have b38 := gi_b (lo := 0) (hi := 999) g 238 3 rfl
        have e39 : h21 238 3 = h 238 3 := (u21 238 3 rfl)
        refine wk_i ?_
        refine wi_if (cd := .ne) (nx := 22) (r1 := 24) (r2 := 0) (r3 := 0) rfl (by omega) (fun (q40 : z26 ≠ 0) => ?_) (fun (q40 : ¬ (z26 ≠ 0)) => ?_)
        ·
          refine wi_aload_n (i := 0) (x := 236) (nx := 25) (r1 := 0) (r2 := 0) (r3 := 0) rfl rfl ?_
          refine wr_V (k0 := 236) (rest := []) (as := [.ref 236]) (nx := 28) (r1 := 278) (r2 := 0) (r3 := 11) rfl rfl rfl (of_decide_eq_true rfl) rfl rfl (by decide) rfl rfl (of_decide_eq_true rfl) (of_decide_eq_true rfl) ?_
          have e42 : h21 238 98 = h 238 98 := (u21 238 98 rfl)
          have e43 : h21 238 99 = h 238 99 := (u21 238 99 rfl)
          have e44 : h21 238 101 = h 238 101 := (u21 238 101 rfl)
          have e45 : h21 238 73 = h 238 73 := (u21 238 73 rfl)
          have e46 : h21 238 2 = h 238 2 := (u21 238 2 rfl)
          have e47 : h21 238 119 = h 238 119 := (u21 238 119 rfl)
          have e48 : h21 238 69 = h 238 69 := (u21 238 69 rfl)
          have e49 : h21 238 5 = h 238 5 := (u21 238 5 rfl)
          have gs50 := GPS.fr u21 rfl xq0
          have gp51 := GPH.fr u21 rfl gp0
          refine ct_278_236 hcr  g21   (show (h21 238 98) + (h21 238 99) + (h21 238 100) + (h21 238 101) + (h21 238 102) + (h21 238 106) = (h21 238 73) by omega) (show (h21 238 73) ≤ (h21 238 2) by omega) (show (h21 238 119) ≤ (h21 238 67) by omega) (show (h21 238 69) ≤ (h21 238 5) by omega) (show (h21 238 2) ≤ 12 * (h21 238 5) by omega) gs50 gp51 (fun h41 g41 u41 (p41_0 : 1 ≤ (h41 236 22)) y41_0 y41_1 => ?_)
          have F52 := F22.then (by decide +kernel) u41
          have b53 := gi_b (lo := 0) (hi := 6) g41 236 22 rfl
          refine wk_n ?_
          refine wi_aload_n (i := 0) (x := 236) (nx := 29) (r1 := 0) (r2 := 0) (r3 := 0) rfl rfl ?_
          refine wi_iload_n (i := 1) (e := 2) (nx := 30) (r1 := 0) (r2 := 0) (r3 := 0) rfl rfl ?_
          refine wr_V (k0 := 236) (rest := []) (as := [.ref 236, vi 2]) (nx := 33) (r1 := 282) (r2 := 1) (r3 := 11) rfl rfl rfl (of_decide_eq_true rfl) rfl rfl (by decide) rfl rfl (of_decide_eq_true rfl) (of_decide_eq_true rfl) ?_
          have e55 : h41 238 98 = h 238 98 := ((u41 238 98 rfl).trans (u21 238 98 rfl))
          have e56 : h41 238 99 = h 238 99 := ((u41 238 99 rfl).trans (u21 238 99 rfl))
          have e57 : h41 238 100 = h 238 100 := ((u41 238 100 rfl).trans (u21 238 100 rfl))
          have e58 : h41 238 101 = h 238 101 := ((u41 238 101 rfl).trans (u21 238 101 rfl))
          have e59 : h41 238 102 = h 238 102 := ((u41 238 102 rfl).trans (u21 238 102 rfl))
          have e60 : h41 238 106 = h 238 106 := ((u41 238 106 rfl).trans (u21 238 106 rfl))
          have e61 : h41 238 73 = h 238 73 := ((u41 238 73 rfl).trans (u21 238 73 rfl))
          have e62 : h41 238 2 = h 238 2 := ((u41 238 2 rfl).trans (u21 238 2 rfl))
          have e63 : h41 238 119 = h 238 119 := ((u41 238 119 rfl).trans (u21 238 119 rfl))
          have e64 : h41 238 67 = h 238 67 := ((u41 238 67 rfl).trans (u21 238 67 rfl))
          have e65 : h41 238 69 = h 238 69 := ((u41 238 69 rfl).trans (u21 238 69 rfl))
          have e66 : h41 238 5 = h 238 5 := ((u41 238 5 rfl).trans (u21 238 5 rfl))
          have e67 : h41 238 86 = h 238 86 := ((u41 238 86 rfl).trans (u21 238 86 rfl))
          have e68 : h41 238 (43 + (h41 238 86).toNat) = h 238 i31 := by rw [show 43 + (h41 238 86).toNat = i31 by omega]; exact ((u41 238 i31 (fn_a (by decide) (fn_a (by decide) (fn_a (by decide) fn_0)))).trans (u21 238 i31 (fn_a (by omega) fn_0)))
          refine ct_282_236_L2 hcr  g41   (show (h41 238 98) + (h41 238 99) + (h41 238 100) + (h41 238 101) + (h41 238 102) + (h41 238 106) = (h41 238 73) by omega) (show (h41 238 73) ≤ (h41 238 2) by omega) (show (h41 238 119) ≤ (h41 238 67) by omega) (show (h41 238 69) ≤ (h41 238 5) by omega) (show (h41 238 2) ≤ 12 * (h41 238 5) by omega) (show 1 ≤ (h41 238 100) by omega) (show (h41 238 67) ≤ 9998 by omega) (show (h41 238 102) ≤ 2 ∨ (h41 238 (43 + (h41 238 86).toNat)) ≤ 0 by omega) (fun h54 z69 g54 u54 (fz69 : 0 ≤ z69 ∧ z69 ≤ 11) (p54_0 : (h54 238 98) + (h54 238 99) + (h54 238 100) + (h54 238 101) + (h54 238 102) + (h54 238 106) = (h54 238 73)) (p54_1 : (h54 238 73) ≤ (h54 238 2)) (p54_2 : (h54 238 119) ≤ (h54 238 67)) (p54_3 : (h54 238 69) ≤ (h54 238 5)) (p54_4 : (h54 238 2) ≤ 12 * (h54 238 5)) => ?_)
          have F70 := F52.then (by decide +kernel) u54
          have e71 : h54 238 98 = h 238 98 := ((u54 238 98 rfl).trans ((u41 238 98 rfl).trans (u21 238 98 rfl)))
          have e72 : h54 238 99 = h 238 99 := ((u54 238 99 rfl).trans ((u41 238 99 rfl).trans (u21 238 99 rfl)))
          have b73 := gi_b (lo := 0) (hi := 6) g54 238 100 rfl
          have e74 : h54 238 101 = h 238 101 := ((u54 238 101 rfl).trans ((u41 238 101 rfl).trans (u21 238 101 rfl)))
          have b75 := gi_b (lo := 0) (hi := 3) g54 238 102 rfl
          have b76 := gi_b (lo := 0) (hi := 12) g54 238 106 rfl
          have e77 : h54 238 73 = h 238 73 := ((u54 238 73 rfl).trans ((u41 238 73 rfl).trans (u21 238 73 rfl)))
          have e78 : h54 238 2 = h 238 2 := ((u54 238 2 rfl).trans ((u41 238 2 rfl).trans (u21 238 2 rfl)))
          have b79 := gi_b (lo := 0) (hi := 9999) g54 238 119 rfl
          have b80 := gi_b (lo := 0) (hi := 9999) g54 238 67 rfl
          have b81 := gi_b (lo := 0) (hi := 9) g54 238 69 rfl
          have e82 : h54 238 5 = h 238 5 := ((u54 238 5 rfl).trans ((u41 238 5 rfl).trans (u21 238 5 rfl)))
          refine wk_i ?_
          refine wi_ireturn (nx := 34) (r1 := 0) (r2 := 0) (r3 := 0) rfl rfl ?_
          have gs83 := GPS.fr u54 rfl y41_0
          have gp84 := GPH.fr u54 rfl y41_1
          exact k h54 z69 g54 F70 (by omega) (show (h54 238 98) + (h54 238 99) + (h54 238 100) + (h54 238 101) + (h54 238 102) + (h54 238 106) = (h54 238 73) by omega) (show (h54 238 73) ≤ (h54 238 2) by omega) (show (h54 238 119) ≤ (h54 238 67) by omega) (show (h54 238 69) ≤ (h54 238 5) by omega) (show (h54 238 2) ≤ 12 * (h54 238 5) by omega) gs83 gp84
        ·
          refine wi_iconst (n := (-1)) (nx := 23) (r1 := 0) (r2 := 0) (r3 := 0) rfl ?_
          refine wi_ireturn (nx := 24) (r1 := 0) (r2 := 0) (r3 := 0) rfl rfl ?_
          have e41 : h21 238 98 = h 238 98 := (u21 238 98 rfl)
          have e42 : h21 238 99 = h 238 99 := (u21 238 99 rfl)
          have e43 : h21 238 101 = h 238 101 := (u21 238 101 rfl)
          have e44 : h21 238 73 = h 238 73 := (u21 238 73 rfl)
          have e45 : h21 238 2 = h 238 2 := (u21 238 2 rfl)
          have e46 : h21 238 119 = h 238 119 := (u21 238 119 rfl)
          have e47 : h21 238 69 = h 238 69 := (u21 238 69 rfl)
          have e48 : h21 238 5 = h 238 5 := (u21 238 5 rfl)
          have gs49 := GPS.fr u21 rfl xq0
          have gp50 := GPH.fr u21 rfl gp0
          exact k h21 (-1) g21 F22 (by omega) (show (h21 238 98) + (h21 238 99) + (h21 238 100) + (h21 238 101) + (h21 238 102) + (h21 238 106) = (h21 238 73) by omega) (show (h21 238 73) ≤ (h21 238 2) by omega) (show (h21 238 119) ≤ (h21 238 67) by omega) (show (h21 238 69) ≤ (h21 238 5) by omega) (show (h21 238 2) ≤ 12 * (h21 238 5) by omega) gs49 gp50
      ·
        rw [q24]
        refine wr_V (k0 := 236) (rest := []) (as := [.ref 236, vi 3]) (nx := 19) (r1 := 267) (r2 := 1) (r3 := 11) rfl rfl rfl (of_decide_eq_true rfl) rfl rfl (by decide) rfl rfl (of_decide_eq_true rfl) (of_decide_eq_true rfl) ?_
        refine ct_267_236_L3 hcr  g21    (fun z26  (fz26 : 0 ≤ z26 ∧ z26 ≤ 1) (p25_0 : z26 = 0 ∨ 1 ≤ (h21 238 101)) (p25_1 : z26 = 0 ∨ (h21 238 67) ≤ 9998) (p25_2 : z26 = 0 ∨ (1 ≤ (h21 238 (43 + (h21 238 92).toNat)) ∧ (h21 238 102) < (h21 238 7)) ∨ ((h21 238 (43 + (h21 238 92).toNat)) ≤ 0 ∧ (h21 238 92) - (h21 238 106) ≤ (h21 238 3))) y25_0 => ?_)
        have e27 : h21 238 101 = h 238 101 := (u21 238 101 rfl)
        have e28 : h21 238 67 = h 238 67 := (u21 238 67 rfl)
        have b29 := gi_b (lo := 0) (hi := 11) g 238 92 rfl
        have e30 : h21 238 92 = h 238 92 := (u21 238 92 rfl)
        obtain ⟨i31, ei31⟩ : ∃ q : Nat, (43 + h 238 92) = (q : Int) := ⟨(43 + h 238 92).toNat, by omega⟩
        have b32 := gi_b (lo := 0) (hi := 999) g 238 i31 (gi_rg 43 12 (fun _ => rfl) (by decide +kernel) (by omega))
        have e33 : h21 238 (43 + (h21 238 92).toNat) = h 238 i31 := by rw [show 43 + (h21 238 92).toNat = i31 by omega]; exact (u21 238 i31 (fn_a (by omega) fn_0))
        have e34 : h21 238 102 = h 238 102 := (u21 238 102 rfl)
        have b35 := gi_b (lo := 0) (hi := 3) g 238 7 rfl
        have e36 : h21 238 7 = h 238 7 := (u21 238 7 rfl)
        have e37 : h21 238 106 = h 238 106 := (u21 238 106 rfl)
        have b38 := gi_b (lo := 0) (hi := 999) g 238 3 rfl
        have e39 : h21 238 3 = h 238 3 := (u21 238 3 rfl)
        refine wk_i ?_
        refine wi_if (cd := .ne) (nx := 22) (r1 := 24) (r2 := 0) (r3 := 0) rfl (by omega) (fun (q40 : z26 ≠ 0) => ?_) (fun (q40 : ¬ (z26 ≠ 0)) => ?_)
        ·
          refine wi_aload_n (i := 0) (x := 236) (nx := 25) (r1 := 0) (r2 := 0) (r3 := 0) rfl rfl ?_
          refine wr_V (k0 := 236) (rest := []) (as := [.ref 236]) (nx := 28) (r1 := 278) (r2 := 0) (r3 := 11) rfl rfl rfl (of_decide_eq_true rfl) rfl rfl (by decide) rfl rfl (of_decide_eq_true rfl) (of_decide_eq_true rfl) ?_
          have e42 : h21 238 98 = h 238 98 := (u21 238 98 rfl)
          have e43 : h21 238 99 = h 238 99 := (u21 238 99 rfl)
          have e44 : h21 238 100 = h 238 100 := (u21 238 100 rfl)
          have e45 : h21 238 73 = h 238 73 := (u21 238 73 rfl)
          have e46 : h21 238 2 = h 238 2 := (u21 238 2 rfl)
          have e47 : h21 238 119 = h 238 119 := (u21 238 119 rfl)
          have e48 : h21 238 69 = h 238 69 := (u21 238 69 rfl)
          have e49 : h21 238 5 = h 238 5 := (u21 238 5 rfl)
          have gs50 := GPS.fr u21 rfl xq0
          have gp51 := GPH.fr u21 rfl gp0
          refine ct_278_236 hcr  g21   (show (h21 238 98) + (h21 238 99) + (h21 238 100) + (h21 238 101) + (h21 238 102) + (h21 238 106) = (h21 238 73) by omega) (show (h21 238 73) ≤ (h21 238 2) by omega) (show (h21 238 119) ≤ (h21 238 67) by omega) (show (h21 238 69) ≤ (h21 238 5) by omega) (show (h21 238 2) ≤ 12 * (h21 238 5) by omega) gs50 gp51 (fun h41 g41 u41 (p41_0 : 1 ≤ (h41 236 22)) y41_0 y41_1 => ?_)
          have F52 := F22.then (by decide +kernel) u41
          have b53 := gi_b (lo := 0) (hi := 6) g41 236 22 rfl
          refine wk_n ?_
          refine wi_aload_n (i := 0) (x := 236) (nx := 29) (r1 := 0) (r2 := 0) (r3 := 0) rfl rfl ?_
          refine wi_iload_n (i := 1) (e := 3) (nx := 30) (r1 := 0) (r2 := 0) (r3 := 0) rfl rfl ?_
          refine wr_V (k0 := 236) (rest := []) (as := [.ref 236, vi 3]) (nx := 33) (r1 := 282) (r2 := 1) (r3 := 11) rfl rfl rfl (of_decide_eq_true rfl) rfl rfl (by decide) rfl rfl (of_decide_eq_true rfl) (of_decide_eq_true rfl) ?_
          have e55 : h41 238 98 = h 238 98 := ((u41 238 98 rfl).trans (u21 238 98 rfl))
          have e56 : h41 238 99 = h 238 99 := ((u41 238 99 rfl).trans (u21 238 99 rfl))
          have e57 : h41 238 100 = h 238 100 := ((u41 238 100 rfl).trans (u21 238 100 rfl))
          have e58 : h41 238 101 = h 238 101 := ((u41 238 101 rfl).trans (u21 238 101 rfl))
          have e59 : h41 238 102 = h 238 102 := ((u41 238 102 rfl).trans (u21 238 102 rfl))
          have e60 : h41 238 106 = h 238 106 := ((u41 238 106 rfl).trans (u21 238 106 rfl))
          have e61 : h41 238 73 = h 238 73 := ((u41 238 73 rfl).trans (u21 238 73 rfl))
          have e62 : h41 238 2 = h 238 2 := ((u41 238 2 rfl).trans (u21 238 2 rfl))
          have e63 : h41 238 119 = h 238 119 := ((u41 238 119 rfl).trans (u21 238 119 rfl))
          have e64 : h41 238 67 = h 238 67 := ((u41 238 67 rfl).trans (u21 238 67 rfl))
          have e65 : h41 238 69 = h 238 69 := ((u41 238 69 rfl).trans (u21 238 69 rfl))
          have e66 : h41 238 5 = h 238 5 := ((u41 238 5 rfl).trans (u21 238 5 rfl))
          have e67 : h41 238 92 = h 238 92 := ((u41 238 92 rfl).trans (u21 238 92 rfl))
          have e68 : h41 238 (43 + (h41 238 92).toNat) = h 238 i31 := by rw [show 43 + (h41 238 92).toNat = i31 by omega]; exact ((u41 238 i31 (fn_a (by decide) (fn_a (by decide) (fn_a (by decide) fn_0)))).trans (u21 238 i31 (fn_a (by omega) fn_0)))
          refine ct_282_236_L3 hcr  g41   (show (h41 238 98) + (h41 238 99) + (h41 238 100) + (h41 238 101) + (h41 238 102) + (h41 238 106) = (h41 238 73) by omega) (show (h41 238 73) ≤ (h41 238 2) by omega) (show (h41 238 119) ≤ (h41 238 67) by omega) (show (h41 238 69) ≤ (h41 238 5) by omega) (show (h41 238 2) ≤ 12 * (h41 238 5) by omega) (show 1 ≤ (h41 238 101) by omega) (show (h41 238 67) ≤ 9998 by omega) (show (h41 238 102) ≤ 2 ∨ (h41 238 (43 + (h41 238 92).toNat)) ≤ 0 by omega) (fun h54 z69 g54 u54 (fz69 : 0 ≤ z69 ∧ z69 ≤ 11) (p54_0 : (h54 238 98) + (h54 238 99) + (h54 238 100) + (h54 238 101) + (h54 238 102) + (h54 238 106) = (h54 238 73)) (p54_1 : (h54 238 73) ≤ (h54 238 2)) (p54_2 : (h54 238 119) ≤ (h54 238 67)) (p54_3 : (h54 238 69) ≤ (h54 238 5)) (p54_4 : (h54 238 2) ≤ 12 * (h54 238 5)) => ?_)
          have F70 := F52.then (by decide +kernel) u54
          have e71 : h54 238 98 = h 238 98 := ((u54 238 98 rfl).trans ((u41 238 98 rfl).trans (u21 238 98 rfl)))
          have e72 : h54 238 99 = h 238 99 := ((u54 238 99 rfl).trans ((u41 238 99 rfl).trans (u21 238 99 rfl)))
          have e73 : h54 238 100 = h 238 100 := ((u54 238 100 rfl).trans ((u41 238 100 rfl).trans (u21 238 100 rfl)))
          have b74 := gi_b (lo := 0) (hi := 6) g54 238 101 rfl
          have b75 := gi_b (lo := 0) (hi := 3) g54 238 102 rfl
          have b76 := gi_b (lo := 0) (hi := 12) g54 238 106 rfl
          have e77 : h54 238 73 = h 238 73 := ((u54 238 73 rfl).trans ((u41 238 73 rfl).trans (u21 238 73 rfl)))
          have e78 : h54 238 2 = h 238 2 := ((u54 238 2 rfl).trans ((u41 238 2 rfl).trans (u21 238 2 rfl)))
          have b79 := gi_b (lo := 0) (hi := 9999) g54 238 119 rfl
          have b80 := gi_b (lo := 0) (hi := 9999) g54 238 67 rfl
          have b81 := gi_b (lo := 0) (hi := 9) g54 238 69 rfl
          have e82 : h54 238 5 = h 238 5 := ((u54 238 5 rfl).trans ((u41 238 5 rfl).trans (u21 238 5 rfl)))
          refine wk_i ?_
          refine wi_ireturn (nx := 34) (r1 := 0) (r2 := 0) (r3 := 0) rfl rfl ?_
          have gs83 := GPS.fr u54 rfl y41_0
          have gp84 := GPH.fr u54 rfl y41_1
          exact k h54 z69 g54 F70 (by omega) (show (h54 238 98) + (h54 238 99) + (h54 238 100) + (h54 238 101) + (h54 238 102) + (h54 238 106) = (h54 238 73) by omega) (show (h54 238 73) ≤ (h54 238 2) by omega) (show (h54 238 119) ≤ (h54 238 67) by omega) (show (h54 238 69) ≤ (h54 238 5) by omega) (show (h54 238 2) ≤ 12 * (h54 238 5) by omega) gs83 gp84
        ·
          refine wi_iconst (n := (-1)) (nx := 23) (r1 := 0) (r2 := 0) (r3 := 0) rfl ?_
          refine wi_ireturn (nx := 24) (r1 := 0) (r2 := 0) (r3 := 0) rfl rfl ?_
          have e41 : h21 238 98 = h 238 98 := (u21 238 98 rfl)
          have e42 : h21 238 99 = h 238 99 := (u21 238 99 rfl)
          have e43 : h21 238 100 = h 238 100 := (u21 238 100 rfl)
          have e44 : h21 238 73 = h 238 73 := (u21 238 73 rfl)
          have e45 : h21 238 2 = h 238 2 := (u21 238 2 rfl)
          have e46 : h21 238 119 = h 238 119 := (u21 238 119 rfl)
          have e47 : h21 238 69 = h 238 69 := (u21 238 69 rfl)
          have e48 : h21 238 5 = h 238 5 := (u21 238 5 rfl)
          have gs49 := GPS.fr u21 rfl xq0
          have gp50 := GPH.fr u21 rfl gp0
          exact k h21 (-1) g21 F22 (by omega) (show (h21 238 98) + (h21 238 99) + (h21 238 100) + (h21 238 101) + (h21 238 102) + (h21 238 106) = (h21 238 73) by omega) (show (h21 238 73) ≤ (h21 238 2) by omega) (show (h21 238 119) ≤ (h21 238 67) by omega) (show (h21 238 69) ≤ (h21 238 5) by omega) (show (h21 238 2) ≤ 12 * (h21 238 5) by omega) gs49 gp50
-- method 345: Model.log(II)I
set_option maxRecDepth 100000 in
set_option maxHeartbeats 100000000 in
theorem ct_345_236 {L : Nat} {xs : Nat → Int32} {d b c : Nat} {h : hp} {cr : Nat → Nat → Option Nat} {Q : hp_Q} (hcr : CR cr)  (g : GI h) (a0 : Int) (a1 : Int) (q0_ : -2147483648 ≤ a0 ∧ a0 ≤ 2147483647) (q1_ : -2147483648 ≤ a1 ∧ a1 ≤ 2147483647)  (k : ∀ (h2 : hp) (z0 : Int) , GI h2 → FR [(236, 236, some (0, 0))] h h2 → (-2147483648 ≤ z0 ∧ z0 ≤ 2147483647) → Q (.inl (some (vi z0))) (hp_w h2 cr) b c) : wp (md_xa (L, xs)) (d + 1) 345 (0, [(0, .ref 236), (1, vi a0), (2, vi a1)], [], hp_w h cr, b, c) Q := by
  have F0 : FR [(236, 236, some (0, 0))] h h := FR.refl
  refine wi_aload_n (i := 0) (x := 236) (nx := 1) (r1 := 0) (r2 := 0) (r3 := 0) rfl rfl ?_
  refine wi_iload_n (i := 1) (e := a0) (nx := 2) (r1 := 0) (r2 := 0) (r3 := 0) rfl rfl ?_
  refine wi_i2l (nx := 3) (r1 := 0) (r2 := 0) (r3 := 0) rfl (by omega) ?_
  refine wi_lconst (n := 0) (e := 0) (nx := 4) (r1 := 0) (r2 := 0) (r3 := 0) rfl (by decide) ?_
  refine wi_aload_n (i := 0) (x := 236) (nx := 5) (r1 := 0) (r2 := 0) (r3 := 0) rfl rfl ?_
  refine wr_gr (k0 := 236) (x := 238) (nx := 8) (r1 := 11) (r2 := 13) (r3 := 0) rfl rfl (by decide) rfl ⟨rfl, rfl⟩ rfl ?_
  refine wi_bipush (n := 119) (nx := 10) (r1 := 0) (r2 := 0) (r3 := 0) rfl (by decide) ?_
  have b1 := gi_b (lo := 0) (hi := 9999) g 238 119 rfl
  refine wr_ia (k0 := 238) (a := 119) (f := 119) (x := h 238 119) (nx := 11) (r1 := 0) (r2 := 0) (r3 := 0) rfl (by decide) rfl (by omega) (by omega) (by decide) rfl ?_
  refine wi_bipush (n := 20) (nx := 13) (r1 := 0) (r2 := 0) (r3 := 0) rfl (by decide) ?_
  refine wi_S (rest := [vl 0, vl a0, .ref 236]) (as := [vi (h 238 119), vi 20]) (nx := 16) (r1 := 309) (r2 := 18) (r3 := 0) rfl rfl rfl (of_decide_eq_true rfl) rfl rfl (of_decide_eq_true rfl) (of_decide_eq_true rfl) ?_
  refine wi_iload_n (i := 0) (e := h 238 119) (nx := 1) (r1 := 0) (r2 := 0) (r3 := 0) rfl rfl ?_
  refine wi_iload_n (i := 1) (e := 20) (nx := 2) (r1 := 0) (r2 := 0) (r3 := 0) rfl rfl ?_
  refine wi_icmp (cd := .ge) (nx := 5) (r1 := 9) (r2 := 0) (r3 := 0) rfl (by omega) (by omega) (fun (q2 : 20 ≤ (h 238 119)) => ?_) (fun (q2 : ¬ (20 ≤ (h 238 119))) => ?_)
  ·
    refine wi_iload_n (i := 1) (e := 20) (nx := 10) (r1 := 0) (r2 := 0) (r3 := 0) rfl rfl ?_
    refine wi_ireturn (nx := 11) (r1 := 0) (r2 := 0) (r3 := 0) rfl rfl ?_
    refine wk_i ?_
    refine wi_iconst (n := 1) (nx := 17) (r1 := 0) (r2 := 0) (r3 := 0) rfl ?_
    refine wr_subL (19) (nx := 18) (r1 := 0) (r2 := 0) (r3 := 0) rfl (by decide) ?_
    refine wi_i2l (nx := 19) (r1 := 0) (r2 := 0) (r3 := 0) rfl (by omega) ?_
    refine wi_S (rest := [.ref 236]) (as := [vl a0, vl 0, vl 19]) (nx := 22) (r1 := 210) (r2 := 19) (r3 := 0) rfl rfl rfl (of_decide_eq_true rfl) rfl rfl (of_decide_eq_true rfl) (of_decide_eq_true rfl) ?_
    refine wi_lload_n (i := 0) (e := a0) (nx := 1) (r1 := 0) (r2 := 0) (r3 := 0) rfl rfl ?_
    refine wi_lload_n (i := 2) (e := 0) (nx := 2) (r1 := 0) (r2 := 0) (r3 := 0) rfl rfl ?_
    refine wi_lcmp (a := a0) (e := 0) (nx := 3) (r1 := 0) (r2 := 0) (r3 := 0) rfl (by omega) (by omega) (fun r3 (fr3 : (r3 = -1 ∧ a0 < 0) ∨ (r3 = 0 ∧ a0 = 0) ∨ (r3 = 1 ∧ 0 < a0)) => ?_)
    refine wi_if (cd := .lt) (nx := 6) (r1 := 17) (r2 := 0) (r3 := 0) rfl (by omega) (fun (q4 : r3 < 0) => ?_) (fun (q4 : ¬ (r3 < 0)) => ?_)
    ·
      refine wi_iconst (n := 0) (nx := 18) (r1 := 0) (r2 := 0) (r3 := 0) rfl ?_
      refine wi_zreturn (nx := 19) (r1 := 0) (r2 := 0) (r3 := 0) rfl rfl (by omega) ?_
      refine wk_i ?_
      refine wi_if (cd := .ne) (nx := 25) (r1 := 29) (r2 := 0) (r3 := 0) rfl (by omega) (fun (q5 : 0 ≠ 0) => by exfalso; omega) (fun (q5 : ¬ (0 ≠ 0)) => ?_)
      refine wi_iconst (n := 1) (nx := 26) (r1 := 0) (r2 := 0) (r3 := 0) rfl ?_
      refine wi_goto (nx := 29) (r1 := 51) (r2 := 0) (r3 := 0) rfl ?_
      refine wr_pf0 (k0 := 236) (x := 1) (bl := 0) (bh := 2) (nx := 54) (r1 := 11) (r2 := 0) (r3 := 0) rfl (by decide) rfl ⟨rfl, rfl⟩ rfl rfl g rfl (by omega) (fun h6 g6 w6 u6 => ?_)
      have F7 := F0.then rfl u6
      refine wi_aload_n (i := 0) (x := 236) (nx := 55) (r1 := 0) (r2 := 0) (r3 := 0) rfl rfl ?_
      refine wr_gi0 (k0 := 236) (x := 1) (nx := 58) (r1 := 11) (r2 := 0) (r3 := 0) rfl rfl (by decide) rfl ⟨rfl, rfl⟩ rfl w6 ?_
      refine wi_if (cd := .le) (nx := 61) (r1 := 65) (r2 := 0) (r3 := 0) rfl (by omega) (fun (q8 : 1 ≤ 0) => by exfalso; omega) (fun (q8 : ¬ (1 ≤ 0)) => ?_)
      refine wi_iconst (n := 0) (nx := 62) (r1 := 0) (r2 := 0) (r3 := 0) rfl ?_
      refine wi_goto (nx := 65) (r1 := 91) (r2 := 0) (r3 := 0) rfl ?_
      refine wi_ireturn (nx := 92) (r1 := 0) (r2 := 0) (r3 := 0) rfl rfl ?_
      exact k h6 0 g6 F7 (by omega)
    ·
      refine wi_lload_n (i := 0) (e := a0) (nx := 7) (r1 := 0) (r2 := 0) (r3 := 0) rfl rfl ?_
      refine wi_lload (i := 4) (e := 19) (nx := 9) (r1 := 0) (r2 := 0) (r3 := 0) rfl rfl ?_
      refine wi_lcmp (a := a0) (e := 19) (nx := 10) (r1 := 0) (r2 := 0) (r3 := 0) rfl (by omega) (by omega) (fun r5 (fr5 : (r5 = -1 ∧ a0 < 19) ∨ (r5 = 0 ∧ a0 = 19) ∨ (r5 = 1 ∧ 19 < a0)) => ?_)
      refine wi_if (cd := .gt) (nx := 13) (r1 := 17) (r2 := 0) (r3 := 0) rfl (by omega) (fun (q6 : 0 < r5) => ?_) (fun (q6 : ¬ (0 < r5)) => ?_)
      ·
        refine wi_iconst (n := 0) (nx := 18) (r1 := 0) (r2 := 0) (r3 := 0) rfl ?_
        refine wi_zreturn (nx := 19) (r1 := 0) (r2 := 0) (r3 := 0) rfl rfl (by omega) ?_
        refine wk_i ?_
        refine wi_if (cd := .ne) (nx := 25) (r1 := 29) (r2 := 0) (r3 := 0) rfl (by omega) (fun (q7 : 0 ≠ 0) => by exfalso; omega) (fun (q7 : ¬ (0 ≠ 0)) => ?_)
        refine wi_iconst (n := 1) (nx := 26) (r1 := 0) (r2 := 0) (r3 := 0) rfl ?_
        refine wi_goto (nx := 29) (r1 := 51) (r2 := 0) (r3 := 0) rfl ?_
        refine wr_pf0 (k0 := 236) (x := 1) (bl := 0) (bh := 2) (nx := 54) (r1 := 11) (r2 := 0) (r3 := 0) rfl (by decide) rfl ⟨rfl, rfl⟩ rfl rfl g rfl (by omega) (fun h8 g8 w8 u8 => ?_)
        have F9 := F0.then rfl u8
        refine wi_aload_n (i := 0) (x := 236) (nx := 55) (r1 := 0) (r2 := 0) (r3 := 0) rfl rfl ?_
        refine wr_gi0 (k0 := 236) (x := 1) (nx := 58) (r1 := 11) (r2 := 0) (r3 := 0) rfl rfl (by decide) rfl ⟨rfl, rfl⟩ rfl w8 ?_
        refine wi_if (cd := .le) (nx := 61) (r1 := 65) (r2 := 0) (r3 := 0) rfl (by omega) (fun (q10 : 1 ≤ 0) => by exfalso; omega) (fun (q10 : ¬ (1 ≤ 0)) => ?_)
        refine wi_iconst (n := 0) (nx := 62) (r1 := 0) (r2 := 0) (r3 := 0) rfl ?_
        refine wi_goto (nx := 65) (r1 := 91) (r2 := 0) (r3 := 0) rfl ?_
        refine wi_ireturn (nx := 92) (r1 := 0) (r2 := 0) (r3 := 0) rfl rfl ?_
        exact k h8 0 g8 F9 (by omega)
      ·
        refine wi_iconst (n := 1) (nx := 14) (r1 := 0) (r2 := 0) (r3 := 0) rfl ?_
        refine wi_goto (nx := 17) (r1 := 18) (r2 := 0) (r3 := 0) rfl ?_
        refine wi_zreturn (nx := 19) (r1 := 0) (r2 := 0) (r3 := 0) rfl rfl (by omega) ?_
        refine wk_i ?_
        refine wi_if (cd := .ne) (nx := 25) (r1 := 29) (r2 := 0) (r3 := 0) rfl (by omega) (fun (q7 : 1 ≠ 0) => ?_) (fun (q7 : ¬ (1 ≠ 0)) => by exfalso; omega)
        refine wi_iload_n (i := 2) (e := a1) (nx := 30) (r1 := 0) (r2 := 0) (r3 := 0) rfl rfl ?_
        refine wi_i2l (nx := 31) (r1 := 0) (r2 := 0) (r3 := 0) rfl (by omega) ?_
        refine wi_lconst (n := 0) (e := 0) (nx := 32) (r1 := 0) (r2 := 0) (r3 := 0) rfl (by decide) ?_
        refine wi_ldc2_w (e := 3) (nx := 35) (r1 := 3) (r2 := 0) (r3 := 0) rfl (by decide) ?_
        refine wi_S (rest := [.ref 236]) (as := [vl a1, vl 0, vl 3]) (nx := 38) (r1 := 210) (r2 := 19) (r3 := 0) rfl rfl rfl (of_decide_eq_true rfl) rfl rfl (of_decide_eq_true rfl) (of_decide_eq_true rfl) ?_
        refine wi_lload_n (i := 0) (e := a1) (nx := 1) (r1 := 0) (r2 := 0) (r3 := 0) rfl rfl ?_
        refine wi_lload_n (i := 2) (e := 0) (nx := 2) (r1 := 0) (r2 := 0) (r3 := 0) rfl rfl ?_
        refine wi_lcmp (a := a1) (e := 0) (nx := 3) (r1 := 0) (r2 := 0) (r3 := 0) rfl (by omega) (by omega) (fun r8 (fr8 : (r8 = -1 ∧ a1 < 0) ∨ (r8 = 0 ∧ a1 = 0) ∨ (r8 = 1 ∧ 0 < a1)) => ?_)
        refine wi_if (cd := .lt) (nx := 6) (r1 := 17) (r2 := 0) (r3 := 0) rfl (by omega) (fun (q9 : r8 < 0) => ?_) (fun (q9 : ¬ (r8 < 0)) => ?_)
        ·
          refine wi_iconst (n := 0) (nx := 18) (r1 := 0) (r2 := 0) (r3 := 0) rfl ?_
          refine wi_zreturn (nx := 19) (r1 := 0) (r2 := 0) (r3 := 0) rfl rfl (by omega) ?_
          refine wk_i ?_
          refine wi_if (cd := .ne) (nx := 41) (r1 := 45) (r2 := 0) (r3 := 0) rfl (by omega) (fun (q10 : 0 ≠ 0) => by exfalso; omega) (fun (q10 : ¬ (0 ≠ 0)) => ?_)
          refine wi_iconst (n := 1) (nx := 42) (r1 := 0) (r2 := 0) (r3 := 0) rfl ?_
          refine wi_goto (nx := 45) (r1 := 46) (r2 := 0) (r3 := 0) rfl ?_
          refine wi_S (rest := [.ref 236]) (as := [vi 1]) (nx := 49) (r1 := 207) (r2 := 17) (r3 := 0) rfl rfl rfl (of_decide_eq_true rfl) rfl rfl (of_decide_eq_true rfl) (of_decide_eq_true rfl) ?_
          refine wi_iload_n (i := 0) (e := 1) (nx := 1) (r1 := 0) (r2 := 0) (r3 := 0) rfl rfl ?_
          refine wi_if (cd := .eq) (nx := 4) (r1 := 8) (r2 := 0) (r3 := 0) rfl (by omega) (fun (q11 : 1 = 0) => by exfalso; omega) (fun (q11 : ¬ (1 = 0)) => ?_)
          refine wi_iconst (n := 1) (nx := 5) (r1 := 0) (r2 := 0) (r3 := 0) rfl ?_
          refine wi_goto (nx := 8) (r1 := 9) (r2 := 0) (r3 := 0) rfl ?_
          refine wi_ireturn (nx := 10) (r1 := 0) (r2 := 0) (r3 := 0) rfl rfl ?_
          refine wk_i ?_
          refine wi_iconst (n := 2) (nx := 50) (r1 := 0) (r2 := 0) (r3 := 0) rfl ?_
          refine wr_mulL (2) (nx := 51) (r1 := 0) (r2 := 0) (r3 := 0) rfl (by decide) ?_
          refine wr_pf0 (k0 := 236) (x := 2) (bl := 0) (bh := 2) (nx := 54) (r1 := 11) (r2 := 0) (r3 := 0) rfl (by decide) rfl ⟨rfl, rfl⟩ rfl rfl g rfl (by omega) (fun h12 g12 w12 u12 => ?_)
          have F13 := F0.then rfl u12
          refine wi_aload_n (i := 0) (x := 236) (nx := 55) (r1 := 0) (r2 := 0) (r3 := 0) rfl rfl ?_
          refine wr_gi0 (k0 := 236) (x := 2) (nx := 58) (r1 := 11) (r2 := 0) (r3 := 0) rfl rfl (by decide) rfl ⟨rfl, rfl⟩ rfl w12 ?_
          refine wi_if (cd := .le) (nx := 61) (r1 := 65) (r2 := 0) (r3 := 0) rfl (by omega) (fun (q14 : 2 ≤ 0) => by exfalso; omega) (fun (q14 : ¬ (2 ≤ 0)) => ?_)
          refine wi_iconst (n := 0) (nx := 62) (r1 := 0) (r2 := 0) (r3 := 0) rfl ?_
          refine wi_goto (nx := 65) (r1 := 91) (r2 := 0) (r3 := 0) rfl ?_
          refine wi_ireturn (nx := 92) (r1 := 0) (r2 := 0) (r3 := 0) rfl rfl ?_
          exact k h12 0 g12 F13 (by omega)
        ·
          refine wi_lload_n (i := 0) (e := a1) (nx := 7) (r1 := 0) (r2 := 0) (r3 := 0) rfl rfl ?_
          refine wi_lload (i := 4) (e := 3) (nx := 9) (r1 := 0) (r2 := 0) (r3 := 0) rfl rfl ?_
          refine wi_lcmp (a := a1) (e := 3) (nx := 10) (r1 := 0) (r2 := 0) (r3 := 0) rfl (by omega) (by omega) (fun r10 (fr10 : (r10 = -1 ∧ a1 < 3) ∨ (r10 = 0 ∧ a1 = 3) ∨ (r10 = 1 ∧ 3 < a1)) => ?_)
          refine wi_if (cd := .gt) (nx := 13) (r1 := 17) (r2 := 0) (r3 := 0) rfl (by omega) (fun (q11 : 0 < r10) => ?_) (fun (q11 : ¬ (0 < r10)) => ?_)
          ·
            refine wi_iconst (n := 0) (nx := 18) (r1 := 0) (r2 := 0) (r3 := 0) rfl ?_
            refine wi_zreturn (nx := 19) (r1 := 0) (r2 := 0) (r3 := 0) rfl rfl (by omega) ?_
            refine wk_i ?_
            refine wi_if (cd := .ne) (nx := 41) (r1 := 45) (r2 := 0) (r3 := 0) rfl (by omega) (fun (q12 : 0 ≠ 0) => by exfalso; omega) (fun (q12 : ¬ (0 ≠ 0)) => ?_)
            refine wi_iconst (n := 1) (nx := 42) (r1 := 0) (r2 := 0) (r3 := 0) rfl ?_
            refine wi_goto (nx := 45) (r1 := 46) (r2 := 0) (r3 := 0) rfl ?_
            refine wi_S (rest := [.ref 236]) (as := [vi 1]) (nx := 49) (r1 := 207) (r2 := 17) (r3 := 0) rfl rfl rfl (of_decide_eq_true rfl) rfl rfl (of_decide_eq_true rfl) (of_decide_eq_true rfl) ?_
            refine wi_iload_n (i := 0) (e := 1) (nx := 1) (r1 := 0) (r2 := 0) (r3 := 0) rfl rfl ?_
            refine wi_if (cd := .eq) (nx := 4) (r1 := 8) (r2 := 0) (r3 := 0) rfl (by omega) (fun (q13 : 1 = 0) => by exfalso; omega) (fun (q13 : ¬ (1 = 0)) => ?_)
            refine wi_iconst (n := 1) (nx := 5) (r1 := 0) (r2 := 0) (r3 := 0) rfl ?_
            refine wi_goto (nx := 8) (r1 := 9) (r2 := 0) (r3 := 0) rfl ?_
            refine wi_ireturn (nx := 10) (r1 := 0) (r2 := 0) (r3 := 0) rfl rfl ?_
            refine wk_i ?_
            refine wi_iconst (n := 2) (nx := 50) (r1 := 0) (r2 := 0) (r3 := 0) rfl ?_
            refine wr_mulL (2) (nx := 51) (r1 := 0) (r2 := 0) (r3 := 0) rfl (by decide) ?_
            refine wr_pf0 (k0 := 236) (x := 2) (bl := 0) (bh := 2) (nx := 54) (r1 := 11) (r2 := 0) (r3 := 0) rfl (by decide) rfl ⟨rfl, rfl⟩ rfl rfl g rfl (by omega) (fun h14 g14 w14 u14 => ?_)
            have F15 := F0.then rfl u14
            refine wi_aload_n (i := 0) (x := 236) (nx := 55) (r1 := 0) (r2 := 0) (r3 := 0) rfl rfl ?_
            refine wr_gi0 (k0 := 236) (x := 2) (nx := 58) (r1 := 11) (r2 := 0) (r3 := 0) rfl rfl (by decide) rfl ⟨rfl, rfl⟩ rfl w14 ?_
            refine wi_if (cd := .le) (nx := 61) (r1 := 65) (r2 := 0) (r3 := 0) rfl (by omega) (fun (q16 : 2 ≤ 0) => by exfalso; omega) (fun (q16 : ¬ (2 ≤ 0)) => ?_)
            refine wi_iconst (n := 0) (nx := 62) (r1 := 0) (r2 := 0) (r3 := 0) rfl ?_
            refine wi_goto (nx := 65) (r1 := 91) (r2 := 0) (r3 := 0) rfl ?_
            refine wi_ireturn (nx := 92) (r1 := 0) (r2 := 0) (r3 := 0) rfl rfl ?_
            exact k h14 0 g14 F15 (by omega)
          ·
            refine wi_iconst (n := 1) (nx := 14) (r1 := 0) (r2 := 0) (r3 := 0) rfl ?_
            refine wi_goto (nx := 17) (r1 := 18) (r2 := 0) (r3 := 0) rfl ?_
            refine wi_zreturn (nx := 19) (r1 := 0) (r2 := 0) (r3 := 0) rfl rfl (by omega) ?_
            refine wk_i ?_
            refine wi_if (cd := .ne) (nx := 41) (r1 := 45) (r2 := 0) (r3 := 0) rfl (by omega) (fun (q12 : 1 ≠ 0) => ?_) (fun (q12 : ¬ (1 ≠ 0)) => by exfalso; omega)
            refine wi_iconst (n := 0) (nx := 46) (r1 := 0) (r2 := 0) (r3 := 0) rfl ?_
            refine wi_S (rest := [.ref 236]) (as := [vi 0]) (nx := 49) (r1 := 207) (r2 := 17) (r3 := 0) rfl rfl rfl (of_decide_eq_true rfl) rfl rfl (of_decide_eq_true rfl) (of_decide_eq_true rfl) ?_
            refine wi_iload_n (i := 0) (e := 0) (nx := 1) (r1 := 0) (r2 := 0) (r3 := 0) rfl rfl ?_
            refine wi_if (cd := .eq) (nx := 4) (r1 := 8) (r2 := 0) (r3 := 0) rfl (by omega) (fun (q13 : 0 = 0) => ?_) (fun (q13 : ¬ (0 = 0)) => by exfalso; omega)
            refine wi_iconst (n := 0) (nx := 9) (r1 := 0) (r2 := 0) (r3 := 0) rfl ?_
            refine wi_ireturn (nx := 10) (r1 := 0) (r2 := 0) (r3 := 0) rfl rfl ?_
            refine wk_i ?_
            refine wi_iconst (n := 2) (nx := 50) (r1 := 0) (r2 := 0) (r3 := 0) rfl ?_
            refine wr_mulL (0) (nx := 51) (r1 := 0) (r2 := 0) (r3 := 0) rfl (by decide) ?_
            refine wr_pf0 (k0 := 236) (x := 0) (bl := 0) (bh := 2) (nx := 54) (r1 := 11) (r2 := 0) (r3 := 0) rfl (by decide) rfl ⟨rfl, rfl⟩ rfl rfl g rfl (by omega) (fun h14 g14 w14 u14 => ?_)
            have F15 := F0.then rfl u14
            refine wi_aload_n (i := 0) (x := 236) (nx := 55) (r1 := 0) (r2 := 0) (r3 := 0) rfl rfl ?_
            refine wr_gi0 (k0 := 236) (x := 0) (nx := 58) (r1 := 11) (r2 := 0) (r3 := 0) rfl rfl (by decide) rfl ⟨rfl, rfl⟩ rfl w14 ?_
            refine wi_if (cd := .le) (nx := 61) (r1 := 65) (r2 := 0) (r3 := 0) rfl (by omega) (fun (q16 : 0 ≤ 0) => ?_) (fun (q16 : ¬ (0 ≤ 0)) => by exfalso; omega)
            refine wi_aload_n (i := 0) (x := 236) (nx := 66) (r1 := 0) (r2 := 0) (r3 := 0) rfl rfl ?_
            refine wr_gr (k0 := 236) (x := 238) (nx := 69) (r1 := 11) (r2 := 13) (r3 := 0) rfl rfl (by decide) rfl ⟨rfl, rfl⟩ rfl ?_
            refine wi_bipush (n := 120) (nx := 71) (r1 := 0) (r2 := 0) (r3 := 0) rfl (by decide) ?_
            refine wi_iconst (n := 4) (nx := 72) (r1 := 0) (r2 := 0) (r3 := 0) rfl ?_
            refine wi_aload_n (i := 0) (x := 236) (nx := 73) (r1 := 0) (r2 := 0) (r3 := 0) rfl rfl ?_
            refine wr_gr (k0 := 236) (x := 238) (nx := 76) (r1 := 11) (r2 := 13) (r3 := 0) rfl rfl (by decide) rfl ⟨rfl, rfl⟩ rfl ?_
            refine wi_bipush (n := 119) (nx := 78) (r1 := 0) (r2 := 0) (r3 := 0) rfl (by decide) ?_
            refine wr_ia (k0 := 238) (a := 119) (f := 119) (x := h 238 119) (nx := 79) (r1 := 0) (r2 := 0) (r3 := 0) rfl (by decide) rfl (by omega) (by omega) (by decide) (u14 238 119 rfl) ?_
            refine wi_iconst (n := 1) (nx := 80) (r1 := 0) (r2 := 0) (r3 := 0) rfl ?_
            refine wr_sub (nx := 81) (r1 := 0) (r2 := 0) (r3 := 0) rfl (fun e17 (fe17 : e17 = (h 238 119) - 1) => ?_)
            refine wi_iload_n (i := 1) (e := a0) (nx := 82) (r1 := 0) (r2 := 0) (r3 := 0) rfl rfl ?_
            refine wr_sub (nx := 83) (r1 := 0) (r2 := 0) (r3 := 0) rfl (fun e18 (fe18 : e18 = e17 - a0) => ?_)
            refine wi_bipush (n := 20) (nx := 85) (r1 := 0) (r2 := 0) (r3 := 0) rfl (by decide) ?_
            refine wr_iremC (nx := 86) (r1 := 0) (r2 := 0) (r3 := 0) rfl (by omega) (by decide) (fun e19 (fe19 : e19 = e18 % 20) => ?_)
            refine wr_mul (nx := 87) (r1 := 0) (r2 := 0) (r3 := 0) rfl (fun e20 (fe20 : e20 = 4 * e19) => ?_)
            refine wr_add (nx := 88) (r1 := 0) (r2 := 0) (r3 := 0) rfl (fun e21 (fe21 : e21 = 120 + e20) => ?_)
            refine wi_iload_n (i := 2) (e := a1) (nx := 89) (r1 := 0) (r2 := 0) (r3 := 0) rfl rfl ?_
            refine wr_add (nx := 90) (r1 := 0) (r2 := 0) (r3 := 0) rfl (fun e22 (fe22 : e22 = e21 + a1) => ?_)
            obtain ⟨i23, ei23⟩ : ∃ q : Nat, e22 = (q : Int) := ⟨(e22).toNat, by omega⟩
            have b24 := gi_b (lo := -2147483648) (hi := 2147483647) g 238 i23 (gi_rg 120 80 (fun _ => rfl) (by decide +kernel) (by omega))
            refine wr_ia (k0 := 238) (a := e22) (f := i23) (x := h 238 i23) (nx := 91) (r1 := 0) (r2 := 0) (r3 := 0) rfl (by decide) rfl (by omega) (by omega) (by decide) (u14 238 i23 (fn_a (by omega) fn_0)) ?_
            refine wi_ireturn (nx := 92) (r1 := 0) (r2 := 0) (r3 := 0) rfl rfl ?_
            exact k h14 (h 238 i23) g14 F15 (by omega)
  ·
    refine wi_iload_n (i := 0) (e := h 238 119) (nx := 6) (r1 := 0) (r2 := 0) (r3 := 0) rfl rfl ?_
    refine wi_goto (nx := 9) (r1 := 10) (r2 := 0) (r3 := 0) rfl ?_
    refine wi_ireturn (nx := 11) (r1 := 0) (r2 := 0) (r3 := 0) rfl rfl ?_
    refine wk_i ?_
    refine wi_iconst (n := 1) (nx := 17) (r1 := 0) (r2 := 0) (r3 := 0) rfl ?_
    refine wr_sub (nx := 18) (r1 := 0) (r2 := 0) (r3 := 0) rfl (fun e3 (fe3 : e3 = (h 238 119) - 1) => ?_)
    refine wi_i2l (nx := 19) (r1 := 0) (r2 := 0) (r3 := 0) rfl (by omega) ?_
    refine wi_S (rest := [.ref 236]) (as := [vl a0, vl 0, vl e3]) (nx := 22) (r1 := 210) (r2 := 19) (r3 := 0) rfl rfl rfl (of_decide_eq_true rfl) rfl rfl (of_decide_eq_true rfl) (of_decide_eq_true rfl) ?_
    refine wi_lload_n (i := 0) (e := a0) (nx := 1) (r1 := 0) (r2 := 0) (r3 := 0) rfl rfl ?_
    refine wi_lload_n (i := 2) (e := 0) (nx := 2) (r1 := 0) (r2 := 0) (r3 := 0) rfl rfl ?_
    refine wi_lcmp (a := a0) (e := 0) (nx := 3) (r1 := 0) (r2 := 0) (r3 := 0) rfl (by omega) (by omega) (fun r4 (fr4 : (r4 = -1 ∧ a0 < 0) ∨ (r4 = 0 ∧ a0 = 0) ∨ (r4 = 1 ∧ 0 < a0)) => ?_)
    refine wi_if (cd := .lt) (nx := 6) (r1 := 17) (r2 := 0) (r3 := 0) rfl (by omega) (fun (q5 : r4 < 0) => ?_) (fun (q5 : ¬ (r4 < 0)) => ?_)
    ·
      refine wi_iconst (n := 0) (nx := 18) (r1 := 0) (r2 := 0) (r3 := 0) rfl ?_
      refine wi_zreturn (nx := 19) (r1 := 0) (r2 := 0) (r3 := 0) rfl rfl (by omega) ?_
      refine wk_i ?_
      refine wi_if (cd := .ne) (nx := 25) (r1 := 29) (r2 := 0) (r3 := 0) rfl (by omega) (fun (q6 : 0 ≠ 0) => by exfalso; omega) (fun (q6 : ¬ (0 ≠ 0)) => ?_)
      refine wi_iconst (n := 1) (nx := 26) (r1 := 0) (r2 := 0) (r3 := 0) rfl ?_
      refine wi_goto (nx := 29) (r1 := 51) (r2 := 0) (r3 := 0) rfl ?_
      refine wr_pf0 (k0 := 236) (x := 1) (bl := 0) (bh := 2) (nx := 54) (r1 := 11) (r2 := 0) (r3 := 0) rfl (by decide) rfl ⟨rfl, rfl⟩ rfl rfl g rfl (by omega) (fun h7 g7 w7 u7 => ?_)
      have F8 := F0.then rfl u7
      refine wi_aload_n (i := 0) (x := 236) (nx := 55) (r1 := 0) (r2 := 0) (r3 := 0) rfl rfl ?_
      refine wr_gi0 (k0 := 236) (x := 1) (nx := 58) (r1 := 11) (r2 := 0) (r3 := 0) rfl rfl (by decide) rfl ⟨rfl, rfl⟩ rfl w7 ?_
      refine wi_if (cd := .le) (nx := 61) (r1 := 65) (r2 := 0) (r3 := 0) rfl (by omega) (fun (q9 : 1 ≤ 0) => by exfalso; omega) (fun (q9 : ¬ (1 ≤ 0)) => ?_)
      refine wi_iconst (n := 0) (nx := 62) (r1 := 0) (r2 := 0) (r3 := 0) rfl ?_
      refine wi_goto (nx := 65) (r1 := 91) (r2 := 0) (r3 := 0) rfl ?_
      refine wi_ireturn (nx := 92) (r1 := 0) (r2 := 0) (r3 := 0) rfl rfl ?_
      exact k h7 0 g7 F8 (by omega)
    ·
      refine wi_lload_n (i := 0) (e := a0) (nx := 7) (r1 := 0) (r2 := 0) (r3 := 0) rfl rfl ?_
      refine wi_lload (i := 4) (e := e3) (nx := 9) (r1 := 0) (r2 := 0) (r3 := 0) rfl rfl ?_
      refine wi_lcmp (a := a0) (e := e3) (nx := 10) (r1 := 0) (r2 := 0) (r3 := 0) rfl (by omega) (by omega) (fun r6 (fr6 : (r6 = -1 ∧ a0 < e3) ∨ (r6 = 0 ∧ a0 = e3) ∨ (r6 = 1 ∧ e3 < a0)) => ?_)
      refine wi_if (cd := .gt) (nx := 13) (r1 := 17) (r2 := 0) (r3 := 0) rfl (by omega) (fun (q7 : 0 < r6) => ?_) (fun (q7 : ¬ (0 < r6)) => ?_)
      ·
        refine wi_iconst (n := 0) (nx := 18) (r1 := 0) (r2 := 0) (r3 := 0) rfl ?_
        refine wi_zreturn (nx := 19) (r1 := 0) (r2 := 0) (r3 := 0) rfl rfl (by omega) ?_
        refine wk_i ?_
        refine wi_if (cd := .ne) (nx := 25) (r1 := 29) (r2 := 0) (r3 := 0) rfl (by omega) (fun (q8 : 0 ≠ 0) => by exfalso; omega) (fun (q8 : ¬ (0 ≠ 0)) => ?_)
        refine wi_iconst (n := 1) (nx := 26) (r1 := 0) (r2 := 0) (r3 := 0) rfl ?_
        refine wi_goto (nx := 29) (r1 := 51) (r2 := 0) (r3 := 0) rfl ?_
        refine wr_pf0 (k0 := 236) (x := 1) (bl := 0) (bh := 2) (nx := 54) (r1 := 11) (r2 := 0) (r3 := 0) rfl (by decide) rfl ⟨rfl, rfl⟩ rfl rfl g rfl (by omega) (fun h9 g9 w9 u9 => ?_)
        have F10 := F0.then rfl u9
        refine wi_aload_n (i := 0) (x := 236) (nx := 55) (r1 := 0) (r2 := 0) (r3 := 0) rfl rfl ?_
        refine wr_gi0 (k0 := 236) (x := 1) (nx := 58) (r1 := 11) (r2 := 0) (r3 := 0) rfl rfl (by decide) rfl ⟨rfl, rfl⟩ rfl w9 ?_
        refine wi_if (cd := .le) (nx := 61) (r1 := 65) (r2 := 0) (r3 := 0) rfl (by omega) (fun (q11 : 1 ≤ 0) => by exfalso; omega) (fun (q11 : ¬ (1 ≤ 0)) => ?_)
        refine wi_iconst (n := 0) (nx := 62) (r1 := 0) (r2 := 0) (r3 := 0) rfl ?_
        refine wi_goto (nx := 65) (r1 := 91) (r2 := 0) (r3 := 0) rfl ?_
        refine wi_ireturn (nx := 92) (r1 := 0) (r2 := 0) (r3 := 0) rfl rfl ?_
        exact k h9 0 g9 F10 (by omega)
      ·
        refine wi_iconst (n := 1) (nx := 14) (r1 := 0) (r2 := 0) (r3 := 0) rfl ?_
        refine wi_goto (nx := 17) (r1 := 18) (r2 := 0) (r3 := 0) rfl ?_
        refine wi_zreturn (nx := 19) (r1 := 0) (r2 := 0) (r3 := 0) rfl rfl (by omega) ?_
        refine wk_i ?_
        refine wi_if (cd := .ne) (nx := 25) (r1 := 29) (r2 := 0) (r3 := 0) rfl (by omega) (fun (q8 : 1 ≠ 0) => ?_) (fun (q8 : ¬ (1 ≠ 0)) => by exfalso; omega)
        refine wi_iload_n (i := 2) (e := a1) (nx := 30) (r1 := 0) (r2 := 0) (r3 := 0) rfl rfl ?_
        refine wi_i2l (nx := 31) (r1 := 0) (r2 := 0) (r3 := 0) rfl (by omega) ?_
        refine wi_lconst (n := 0) (e := 0) (nx := 32) (r1 := 0) (r2 := 0) (r3 := 0) rfl (by decide) ?_
        refine wi_ldc2_w (e := 3) (nx := 35) (r1 := 3) (r2 := 0) (r3 := 0) rfl (by decide) ?_
        refine wi_S (rest := [.ref 236]) (as := [vl a1, vl 0, vl 3]) (nx := 38) (r1 := 210) (r2 := 19) (r3 := 0) rfl rfl rfl (of_decide_eq_true rfl) rfl rfl (of_decide_eq_true rfl) (of_decide_eq_true rfl) ?_
        refine wi_lload_n (i := 0) (e := a1) (nx := 1) (r1 := 0) (r2 := 0) (r3 := 0) rfl rfl ?_
        refine wi_lload_n (i := 2) (e := 0) (nx := 2) (r1 := 0) (r2 := 0) (r3 := 0) rfl rfl ?_
        refine wi_lcmp (a := a1) (e := 0) (nx := 3) (r1 := 0) (r2 := 0) (r3 := 0) rfl (by omega) (by omega) (fun r9 (fr9 : (r9 = -1 ∧ a1 < 0) ∨ (r9 = 0 ∧ a1 = 0) ∨ (r9 = 1 ∧ 0 < a1)) => ?_)
        refine wi_if (cd := .lt) (nx := 6) (r1 := 17) (r2 := 0) (r3 := 0) rfl (by omega) (fun (q10 : r9 < 0) => ?_) (fun (q10 : ¬ (r9 < 0)) => ?_)
        ·
          refine wi_iconst (n := 0) (nx := 18) (r1 := 0) (r2 := 0) (r3 := 0) rfl ?_
          refine wi_zreturn (nx := 19) (r1 := 0) (r2 := 0) (r3 := 0) rfl rfl (by omega) ?_
          refine wk_i ?_
          refine wi_if (cd := .ne) (nx := 41) (r1 := 45) (r2 := 0) (r3 := 0) rfl (by omega) (fun (q11 : 0 ≠ 0) => by exfalso; omega) (fun (q11 : ¬ (0 ≠ 0)) => ?_)
          refine wi_iconst (n := 1) (nx := 42) (r1 := 0) (r2 := 0) (r3 := 0) rfl ?_
          refine wi_goto (nx := 45) (r1 := 46) (r2 := 0) (r3 := 0) rfl ?_
          refine wi_S (rest := [.ref 236]) (as := [vi 1]) (nx := 49) (r1 := 207) (r2 := 17) (r3 := 0) rfl rfl rfl (of_decide_eq_true rfl) rfl rfl (of_decide_eq_true rfl) (of_decide_eq_true rfl) ?_
          refine wi_iload_n (i := 0) (e := 1) (nx := 1) (r1 := 0) (r2 := 0) (r3 := 0) rfl rfl ?_
          refine wi_if (cd := .eq) (nx := 4) (r1 := 8) (r2 := 0) (r3 := 0) rfl (by omega) (fun (q12 : 1 = 0) => by exfalso; omega) (fun (q12 : ¬ (1 = 0)) => ?_)
          refine wi_iconst (n := 1) (nx := 5) (r1 := 0) (r2 := 0) (r3 := 0) rfl ?_
          refine wi_goto (nx := 8) (r1 := 9) (r2 := 0) (r3 := 0) rfl ?_
          refine wi_ireturn (nx := 10) (r1 := 0) (r2 := 0) (r3 := 0) rfl rfl ?_
          refine wk_i ?_
          refine wi_iconst (n := 2) (nx := 50) (r1 := 0) (r2 := 0) (r3 := 0) rfl ?_
          refine wr_mulL (2) (nx := 51) (r1 := 0) (r2 := 0) (r3 := 0) rfl (by decide) ?_
          refine wr_pf0 (k0 := 236) (x := 2) (bl := 0) (bh := 2) (nx := 54) (r1 := 11) (r2 := 0) (r3 := 0) rfl (by decide) rfl ⟨rfl, rfl⟩ rfl rfl g rfl (by omega) (fun h13 g13 w13 u13 => ?_)
          have F14 := F0.then rfl u13
          refine wi_aload_n (i := 0) (x := 236) (nx := 55) (r1 := 0) (r2 := 0) (r3 := 0) rfl rfl ?_
          refine wr_gi0 (k0 := 236) (x := 2) (nx := 58) (r1 := 11) (r2 := 0) (r3 := 0) rfl rfl (by decide) rfl ⟨rfl, rfl⟩ rfl w13 ?_
          refine wi_if (cd := .le) (nx := 61) (r1 := 65) (r2 := 0) (r3 := 0) rfl (by omega) (fun (q15 : 2 ≤ 0) => by exfalso; omega) (fun (q15 : ¬ (2 ≤ 0)) => ?_)
          refine wi_iconst (n := 0) (nx := 62) (r1 := 0) (r2 := 0) (r3 := 0) rfl ?_
          refine wi_goto (nx := 65) (r1 := 91) (r2 := 0) (r3 := 0) rfl ?_
          refine wi_ireturn (nx := 92) (r1 := 0) (r2 := 0) (r3 := 0) rfl rfl ?_
          exact k h13 0 g13 F14 (by omega)
        ·
          refine wi_lload_n (i := 0) (e := a1) (nx := 7) (r1 := 0) (r2 := 0) (r3 := 0) rfl rfl ?_
          refine wi_lload (i := 4) (e := 3) (nx := 9) (r1 := 0) (r2 := 0) (r3 := 0) rfl rfl ?_
          refine wi_lcmp (a := a1) (e := 3) (nx := 10) (r1 := 0) (r2 := 0) (r3 := 0) rfl (by omega) (by omega) (fun r11 (fr11 : (r11 = -1 ∧ a1 < 3) ∨ (r11 = 0 ∧ a1 = 3) ∨ (r11 = 1 ∧ 3 < a1)) => ?_)
          refine wi_if (cd := .gt) (nx := 13) (r1 := 17) (r2 := 0) (r3 := 0) rfl (by omega) (fun (q12 : 0 < r11) => ?_) (fun (q12 : ¬ (0 < r11)) => ?_)
          ·
            refine wi_iconst (n := 0) (nx := 18) (r1 := 0) (r2 := 0) (r3 := 0) rfl ?_
            refine wi_zreturn (nx := 19) (r1 := 0) (r2 := 0) (r3 := 0) rfl rfl (by omega) ?_
            refine wk_i ?_
            refine wi_if (cd := .ne) (nx := 41) (r1 := 45) (r2 := 0) (r3 := 0) rfl (by omega) (fun (q13 : 0 ≠ 0) => by exfalso; omega) (fun (q13 : ¬ (0 ≠ 0)) => ?_)
            refine wi_iconst (n := 1) (nx := 42) (r1 := 0) (r2 := 0) (r3 := 0) rfl ?_
            refine wi_goto (nx := 45) (r1 := 46) (r2 := 0) (r3 := 0) rfl ?_
            refine wi_S (rest := [.ref 236]) (as := [vi 1]) (nx := 49) (r1 := 207) (r2 := 17) (r3 := 0) rfl rfl rfl (of_decide_eq_true rfl) rfl rfl (of_decide_eq_true rfl) (of_decide_eq_true rfl) ?_
            refine wi_iload_n (i := 0) (e := 1) (nx := 1) (r1 := 0) (r2 := 0) (r3 := 0) rfl rfl ?_
            refine wi_if (cd := .eq) (nx := 4) (r1 := 8) (r2 := 0) (r3 := 0) rfl (by omega) (fun (q14 : 1 = 0) => by exfalso; omega) (fun (q14 : ¬ (1 = 0)) => ?_)
            refine wi_iconst (n := 1) (nx := 5) (r1 := 0) (r2 := 0) (r3 := 0) rfl ?_
            refine wi_goto (nx := 8) (r1 := 9) (r2 := 0) (r3 := 0) rfl ?_
            refine wi_ireturn (nx := 10) (r1 := 0) (r2 := 0) (r3 := 0) rfl rfl ?_
            refine wk_i ?_
            refine wi_iconst (n := 2) (nx := 50) (r1 := 0) (r2 := 0) (r3 := 0) rfl ?_
            refine wr_mulL (2) (nx := 51) (r1 := 0) (r2 := 0) (r3 := 0) rfl (by decide) ?_
            refine wr_pf0 (k0 := 236) (x := 2) (bl := 0) (bh := 2) (nx := 54) (r1 := 11) (r2 := 0) (r3 := 0) rfl (by decide) rfl ⟨rfl, rfl⟩ rfl rfl g rfl (by omega) (fun h15 g15 w15 u15 => ?_)
            have F16 := F0.then rfl u15
            refine wi_aload_n (i := 0) (x := 236) (nx := 55) (r1 := 0) (r2 := 0) (r3 := 0) rfl rfl ?_
            refine wr_gi0 (k0 := 236) (x := 2) (nx := 58) (r1 := 11) (r2 := 0) (r3 := 0) rfl rfl (by decide) rfl ⟨rfl, rfl⟩ rfl w15 ?_
            refine wi_if (cd := .le) (nx := 61) (r1 := 65) (r2 := 0) (r3 := 0) rfl (by omega) (fun (q17 : 2 ≤ 0) => by exfalso; omega) (fun (q17 : ¬ (2 ≤ 0)) => ?_)
            refine wi_iconst (n := 0) (nx := 62) (r1 := 0) (r2 := 0) (r3 := 0) rfl ?_
            refine wi_goto (nx := 65) (r1 := 91) (r2 := 0) (r3 := 0) rfl ?_
            refine wi_ireturn (nx := 92) (r1 := 0) (r2 := 0) (r3 := 0) rfl rfl ?_
            exact k h15 0 g15 F16 (by omega)
          ·
            refine wi_iconst (n := 1) (nx := 14) (r1 := 0) (r2 := 0) (r3 := 0) rfl ?_
            refine wi_goto (nx := 17) (r1 := 18) (r2 := 0) (r3 := 0) rfl ?_
            refine wi_zreturn (nx := 19) (r1 := 0) (r2 := 0) (r3 := 0) rfl rfl (by omega) ?_
            refine wk_i ?_
            refine wi_if (cd := .ne) (nx := 41) (r1 := 45) (r2 := 0) (r3 := 0) rfl (by omega) (fun (q13 : 1 ≠ 0) => ?_) (fun (q13 : ¬ (1 ≠ 0)) => by exfalso; omega)
            refine wi_iconst (n := 0) (nx := 46) (r1 := 0) (r2 := 0) (r3 := 0) rfl ?_
            refine wi_S (rest := [.ref 236]) (as := [vi 0]) (nx := 49) (r1 := 207) (r2 := 17) (r3 := 0) rfl rfl rfl (of_decide_eq_true rfl) rfl rfl (of_decide_eq_true rfl) (of_decide_eq_true rfl) ?_
            refine wi_iload_n (i := 0) (e := 0) (nx := 1) (r1 := 0) (r2 := 0) (r3 := 0) rfl rfl ?_
            refine wi_if (cd := .eq) (nx := 4) (r1 := 8) (r2 := 0) (r3 := 0) rfl (by omega) (fun (q14 : 0 = 0) => ?_) (fun (q14 : ¬ (0 = 0)) => by exfalso; omega)
            refine wi_iconst (n := 0) (nx := 9) (r1 := 0) (r2 := 0) (r3 := 0) rfl ?_
            refine wi_ireturn (nx := 10) (r1 := 0) (r2 := 0) (r3 := 0) rfl rfl ?_
            refine wk_i ?_
            refine wi_iconst (n := 2) (nx := 50) (r1 := 0) (r2 := 0) (r3 := 0) rfl ?_
            refine wr_mulL (0) (nx := 51) (r1 := 0) (r2 := 0) (r3 := 0) rfl (by decide) ?_
            refine wr_pf0 (k0 := 236) (x := 0) (bl := 0) (bh := 2) (nx := 54) (r1 := 11) (r2 := 0) (r3 := 0) rfl (by decide) rfl ⟨rfl, rfl⟩ rfl rfl g rfl (by omega) (fun h15 g15 w15 u15 => ?_)
            have F16 := F0.then rfl u15
            refine wi_aload_n (i := 0) (x := 236) (nx := 55) (r1 := 0) (r2 := 0) (r3 := 0) rfl rfl ?_
            refine wr_gi0 (k0 := 236) (x := 0) (nx := 58) (r1 := 11) (r2 := 0) (r3 := 0) rfl rfl (by decide) rfl ⟨rfl, rfl⟩ rfl w15 ?_
            refine wi_if (cd := .le) (nx := 61) (r1 := 65) (r2 := 0) (r3 := 0) rfl (by omega) (fun (q17 : 0 ≤ 0) => ?_) (fun (q17 : ¬ (0 ≤ 0)) => by exfalso; omega)
            refine wi_aload_n (i := 0) (x := 236) (nx := 66) (r1 := 0) (r2 := 0) (r3 := 0) rfl rfl ?_
            refine wr_gr (k0 := 236) (x := 238) (nx := 69) (r1 := 11) (r2 := 13) (r3 := 0) rfl rfl (by decide) rfl ⟨rfl, rfl⟩ rfl ?_
            refine wi_bipush (n := 120) (nx := 71) (r1 := 0) (r2 := 0) (r3 := 0) rfl (by decide) ?_
            refine wi_iconst (n := 4) (nx := 72) (r1 := 0) (r2 := 0) (r3 := 0) rfl ?_
            refine wi_aload_n (i := 0) (x := 236) (nx := 73) (r1 := 0) (r2 := 0) (r3 := 0) rfl rfl ?_
            refine wr_gr (k0 := 236) (x := 238) (nx := 76) (r1 := 11) (r2 := 13) (r3 := 0) rfl rfl (by decide) rfl ⟨rfl, rfl⟩ rfl ?_
            refine wi_bipush (n := 119) (nx := 78) (r1 := 0) (r2 := 0) (r3 := 0) rfl (by decide) ?_
            refine wr_ia (k0 := 238) (a := 119) (f := 119) (x := h 238 119) (nx := 79) (r1 := 0) (r2 := 0) (r3 := 0) rfl (by decide) rfl (by omega) (by omega) (by decide) (u15 238 119 rfl) ?_
            refine wi_iconst (n := 1) (nx := 80) (r1 := 0) (r2 := 0) (r3 := 0) rfl ?_
            refine wr_sub (nx := 81) (r1 := 0) (r2 := 0) (r3 := 0) rfl (fun e18 (fe18 : e18 = (h 238 119) - 1) => ?_)
            refine wi_iload_n (i := 1) (e := a0) (nx := 82) (r1 := 0) (r2 := 0) (r3 := 0) rfl rfl ?_
            refine wr_sub (nx := 83) (r1 := 0) (r2 := 0) (r3 := 0) rfl (fun e19 (fe19 : e19 = e18 - a0) => ?_)
            refine wi_bipush (n := 20) (nx := 85) (r1 := 0) (r2 := 0) (r3 := 0) rfl (by decide) ?_
            refine wr_iremC (nx := 86) (r1 := 0) (r2 := 0) (r3 := 0) rfl (by omega) (by decide) (fun e20 (fe20 : e20 = e19 % 20) => ?_)
            refine wr_mul (nx := 87) (r1 := 0) (r2 := 0) (r3 := 0) rfl (fun e21 (fe21 : e21 = 4 * e20) => ?_)
            refine wr_add (nx := 88) (r1 := 0) (r2 := 0) (r3 := 0) rfl (fun e22 (fe22 : e22 = 120 + e21) => ?_)
            refine wi_iload_n (i := 2) (e := a1) (nx := 89) (r1 := 0) (r2 := 0) (r3 := 0) rfl rfl ?_
            refine wr_add (nx := 90) (r1 := 0) (r2 := 0) (r3 := 0) rfl (fun e23 (fe23 : e23 = e22 + a1) => ?_)
            obtain ⟨i24, ei24⟩ : ∃ q : Nat, e23 = (q : Int) := ⟨(e23).toNat, by omega⟩
            have b25 := gi_b (lo := -2147483648) (hi := 2147483647) g 238 i24 (gi_rg 120 80 (fun _ => rfl) (by decide +kernel) (by omega))
            refine wr_ia (k0 := 238) (a := e23) (f := i24) (x := h 238 i24) (nx := 91) (r1 := 0) (r2 := 0) (r3 := 0) rfl (by decide) rfl (by omega) (by omega) (by decide) (u15 238 i24 (fn_a (by omega) fn_0)) ?_
            refine wi_ireturn (nx := 92) (r1 := 0) (r2 := 0) (r3 := 0) rfl rfl ?_
            exact k h15 (h 238 i24) g15 F16 (by omega)
-- method 344: Model.logCount()I
set_option maxRecDepth 100000 in
set_option maxHeartbeats 100000000 in
theorem ct_344_236 {L : Nat} {xs : Nat → Int32} {d b c : Nat} {h : hp} {cr : Nat → Nat → Option Nat} {Q : hp_Q} (hcr : CR cr)  (g : GI h)    (k : ∀ (h2 : hp) (z0 : Int) , GI h2 → FR [(236, 236, some (0, 0))] h h2 → (0 ≤ z0 ∧ z0 ≤ 20) → Q (.inl (some (vi z0))) (hp_w h2 cr) b c) : wp (md_xa (L, xs)) (d + 1) 344 (0, [(0, .ref 236)], [], hp_w h cr, b, c) Q := by
  have F0 : FR [(236, 236, some (0, 0))] h h := FR.refl
  refine wi_aload_n (i := 0) (x := 236) (nx := 1) (r1 := 0) (r2 := 0) (r3 := 0) rfl rfl ?_
  refine wi_iconst (n := 0) (nx := 2) (r1 := 0) (r2 := 0) (r3 := 0) rfl ?_
  refine wr_pf0 (k0 := 236) (x := 0) (bl := 0) (bh := 2) (nx := 5) (r1 := 11) (r2 := 0) (r3 := 0) rfl (by decide) rfl ⟨rfl, rfl⟩ rfl rfl g rfl (by omega) (fun h1 g1 w1 u1 => ?_)
  have F2 := F0.then rfl u1
  refine wi_aload_n (i := 0) (x := 236) (nx := 6) (r1 := 0) (r2 := 0) (r3 := 0) rfl rfl ?_
  refine wr_gr (k0 := 236) (x := 238) (nx := 9) (r1 := 11) (r2 := 13) (r3 := 0) rfl rfl (by decide) rfl ⟨rfl, rfl⟩ rfl ?_
  refine wi_bipush (n := 119) (nx := 11) (r1 := 0) (r2 := 0) (r3 := 0) rfl (by decide) ?_
  have b3 := gi_b (lo := 0) (hi := 9999) g 238 119 rfl
  refine wr_ia (k0 := 238) (a := 119) (f := 119) (x := h 238 119) (nx := 12) (r1 := 0) (r2 := 0) (r3 := 0) rfl (by decide) rfl (by omega) (by omega) (by decide) (u1 238 119 rfl) ?_
  refine wi_bipush (n := 20) (nx := 14) (r1 := 0) (r2 := 0) (r3 := 0) rfl (by decide) ?_
  refine wi_S (rest := []) (as := [vi (h 238 119), vi 20]) (nx := 17) (r1 := 309) (r2 := 18) (r3 := 0) rfl rfl rfl (of_decide_eq_true rfl) rfl rfl (of_decide_eq_true rfl) (of_decide_eq_true rfl) ?_
  refine wi_iload_n (i := 0) (e := h 238 119) (nx := 1) (r1 := 0) (r2 := 0) (r3 := 0) rfl rfl ?_
  refine wi_iload_n (i := 1) (e := 20) (nx := 2) (r1 := 0) (r2 := 0) (r3 := 0) rfl rfl ?_
  refine wi_icmp (cd := .ge) (nx := 5) (r1 := 9) (r2 := 0) (r3 := 0) rfl (by omega) (by omega) (fun (q4 : 20 ≤ (h 238 119)) => ?_) (fun (q4 : ¬ (20 ≤ (h 238 119))) => ?_)
  ·
    refine wi_iload_n (i := 1) (e := 20) (nx := 10) (r1 := 0) (r2 := 0) (r3 := 0) rfl rfl ?_
    refine wi_ireturn (nx := 11) (r1 := 0) (r2 := 0) (r3 := 0) rfl rfl ?_
    refine wk_i ?_
    refine wi_ireturn (nx := 18) (r1 := 0) (r2 := 0) (r3 := 0) rfl rfl ?_
    exact k h1 20 g1 F2 (by omega)
  ·
    refine wi_iload_n (i := 0) (e := h 238 119) (nx := 6) (r1 := 0) (r2 := 0) (r3 := 0) rfl rfl ?_
    refine wi_goto (nx := 9) (r1 := 10) (r2 := 0) (r3 := 0) rfl ?_
    refine wi_ireturn (nx := 11) (r1 := 0) (r2 := 0) (r3 := 0) rfl rfl ?_
    refine wk_i ?_
    refine wi_ireturn (nx := 18) (r1 := 0) (r2 := 0) (r3 := 0) rfl rfl ?_
    exact k h1 (h 238 119) g1 F2 (by omega)
-- method 265: Model.longestBatch()I
set_option maxRecDepth 100000 in
set_option maxHeartbeats 100000000 in
theorem ct_265_236 {L : Nat} {xs : Nat → Int32} {d b c : Nat} {h : hp} {cr : Nat → Nat → Option Nat} {Q : hp_Q} (hcr : CR cr)  (g : GI h)    (k : ∀ (h2 : hp) (z0 : Int) , GI h2 → FR [(236, 236, some (0, 0))] h h2 → (0 ≤ z0 ∧ z0 ≤ 2147483647) → Q (.inl (some (vi z0))) (hp_w h2 cr) b c) : wp (md_xa (L, xs)) (d + 1) 265 (0, [(0, .ref 236)], [], hp_w h cr, b, c) Q := by
  have F0 : FR [(236, 236, some (0, 0))] h h := FR.refl
  refine wi_aload_n (i := 0) (x := 236) (nx := 1) (r1 := 0) (r2 := 0) (r3 := 0) rfl rfl ?_
  refine wi_iconst (n := 0) (nx := 2) (r1 := 0) (r2 := 0) (r3 := 0) rfl ?_
  refine wr_pf0 (k0 := 236) (x := 0) (bl := 0) (bh := 2) (nx := 5) (r1 := 11) (r2 := 0) (r3 := 0) rfl (by decide) rfl ⟨rfl, rfl⟩ rfl rfl g rfl (by omega) (fun h1 g1 w1 u1 => ?_)
  have F2 := F0.then rfl u1
  refine wi_iconst (n := 0) (nx := 6) (r1 := 0) (r2 := 0) (r3 := 0) rfl ?_
  refine wi_istore_n (i := 1) (e := 0) (lo2 := [(1, vi 0), (0, .ref 236)]) (nx := 7) (r1 := 0) (r2 := 0) (r3 := 0) rfl rfl ?_
  refine wi_iconst (n := 0) (nx := 8) (r1 := 0) (r2 := 0) (r3 := 0) rfl ?_
  refine wi_istore_n (i := 2) (e := 0) (lo2 := [(2, vi 0), (1, vi 0), (0, .ref 236)]) (nx := 9) (r1 := 0) (r2 := 0) (r3 := 0) rfl rfl ?_
  refine wi_iconst (n := 0) (nx := 10) (r1 := 0) (r2 := 0) (r3 := 0) rfl ?_
  refine wi_istore_n (i := 3) (e := 0) (lo2 := [(3, vi 0), (2, vi 0), (1, vi 0), (0, .ref 236)]) (nx := 11) (r1 := 0) (r2 := 0) (r3 := 0) rfl rfl ?_
  refine wp.lo (lo := [(0, .ref 236), (1, vi 0), (2, vi 0), (3, vi 0)]) ⟨rfl, rfl, rfl, rfl, trivial⟩ rfl ?_
  refine wl_3 (fun x3 x4 x5 h6 => h1 = h6 ∧ ((0 ≤ x3 ∧ x3 ≤ 2147483647) ∧ (-2147483648 ≤ x4 ∧ x4 ≤ 2147483647) ∧ (0 ≤ x5 ∧ x5 ≤ 12))) (fun x3 x4 x5 h6 => ((12 : Int) + 1 - x5).toNat) (fun x3 x4 x5 h6 => (11, [(0, .ref 236), (1, vi x3), (2, vi x4), (3, vi x5)], [], hp_w h6 cr, b, c)) ?_ 0 0 0 h1 ⟨rfl, (show (0 ≤ 0 ∧ 0 ≤ 2147483647) ∧ (-2147483648 ≤ 0 ∧ 0 ≤ 2147483647) ∧ (0 ≤ 0 ∧ 0 ≤ 12) by omega)⟩
  intro x3 x4 x5 h6 ⟨e6, f6⟩ I6
  subst e6
  refine wi_iload_n (i := 3) (e := x5) (nx := 12) (r1 := 0) (r2 := 0) (r3 := 0) rfl rfl ?_
  refine wi_aload_n (i := 0) (x := 236) (nx := 13) (r1 := 0) (r2 := 0) (r3 := 0) rfl rfl ?_
  refine wr_gr (k0 := 236) (x := 238) (nx := 16) (r1 := 11) (r2 := 13) (r3 := 0) rfl rfl (by decide) rfl ⟨rfl, rfl⟩ rfl ?_
  refine wi_bipush (n := 106) (nx := 18) (r1 := 0) (r2 := 0) (r3 := 0) rfl (by decide) ?_
  have b8 := gi_b (lo := 0) (hi := 12) g 238 106 rfl
  refine wr_ia (k0 := 238) (a := 106) (f := 106) (x := h 238 106) (nx := 19) (r1 := 0) (r2 := 0) (r3 := 0) rfl (by decide) rfl (by omega) (by omega) (by decide) (u1 238 106 rfl) ?_
  refine wi_icmp (cd := .ge) (nx := 22) (r1 := 97) (r2 := 0) (r3 := 0) rfl (by omega) (by omega) (fun (q9 : (h 238 106) ≤ x5) => ?_) (fun (q9 : ¬ ((h 238 106) ≤ x5)) => ?_)
  ·
    refine wi_iload_n (i := 1) (e := x3) (nx := 98) (r1 := 0) (r2 := 0) (r3 := 0) rfl rfl ?_
    refine wi_ireturn (nx := 99) (r1 := 0) (r2 := 0) (r3 := 0) rfl rfl ?_
    exact k h1 x3 g1 F2 (by omega)
  ·
    refine wi_iload_n (i := 3) (e := x5) (nx := 23) (r1 := 0) (r2 := 0) (r3 := 0) rfl rfl ?_
    refine wi_if (cd := .le) (nx := 26) (r1 := 69) (r2 := 0) (r3 := 0) rfl (by omega) (fun (q10 : x5 ≤ 0) => ?_) (fun (q10 : ¬ (x5 ≤ 0)) => ?_)
    ·
      refine wi_iconst (n := 0) (nx := 70) (r1 := 0) (r2 := 0) (r3 := 0) rfl ?_
      refine wi_istore (i := 4) (e := 0) (lo2 := [(4, vi 0), (0, .ref 236), (1, vi x3), (2, vi x4), (3, vi x5)]) (nx := 72) (r1 := 0) (r2 := 0) (r3 := 0) rfl rfl ?_
      refine wi_iload (i := 4) (e := 0) (nx := 74) (r1 := 0) (r2 := 0) (r3 := 0) rfl rfl ?_
      refine wi_if (cd := .eq) (nx := 77) (r1 := 83) (r2 := 0) (r3 := 0) rfl (by omega) (fun (q11 : 0 = 0) => ?_) (fun (q11 : ¬ (0 = 0)) => by exfalso; omega)
      refine wi_iconst (n := 1) (nx := 84) (r1 := 0) (r2 := 0) (r3 := 0) rfl ?_
      refine wi_istore_n (i := 2) (e := 1) (lo2 := [(2, vi 1), (4, vi 0), (0, .ref 236), (1, vi x3), (3, vi x5)]) (nx := 85) (r1 := 0) (r2 := 0) (r3 := 0) rfl rfl ?_
      refine wi_iload_n (i := 1) (e := x3) (nx := 86) (r1 := 0) (r2 := 0) (r3 := 0) rfl rfl ?_
      refine wi_iload_n (i := 2) (e := 1) (nx := 87) (r1 := 0) (r2 := 0) (r3 := 0) rfl rfl ?_
      refine wi_S (rest := []) (as := [vi x3, vi 1]) (nx := 90) (r1 := 250) (r2 := 18) (r3 := 0) rfl rfl rfl (of_decide_eq_true rfl) rfl rfl (of_decide_eq_true rfl) (of_decide_eq_true rfl) ?_
      refine wi_iload_n (i := 0) (e := x3) (nx := 1) (r1 := 0) (r2 := 0) (r3 := 0) rfl rfl ?_
      refine wi_iload_n (i := 1) (e := 1) (nx := 2) (r1 := 0) (r2 := 0) (r3 := 0) rfl rfl ?_
      refine wi_icmp (cd := .le) (nx := 5) (r1 := 9) (r2 := 0) (r3 := 0) rfl (by omega) (by omega) (fun (q12 : x3 ≤ 1) => ?_) (fun (q12 : ¬ (x3 ≤ 1)) => ?_)
      ·
        refine wi_iload_n (i := 1) (e := 1) (nx := 10) (r1 := 0) (r2 := 0) (r3 := 0) rfl rfl ?_
        refine wi_ireturn (nx := 11) (r1 := 0) (r2 := 0) (r3 := 0) rfl rfl ?_
        refine wk_i ?_
        refine wi_istore_n (i := 1) (e := 1) (lo2 := [(1, vi 1), (2, vi 1), (4, vi 0), (0, .ref 236), (3, vi x5)]) (nx := 91) (r1 := 0) (r2 := 0) (r3 := 0) rfl rfl ?_
        refine wr_iinc (i := 3) (n := 1) (v := x5) (fun e13 => [(3, vi e13), (1, vi 1), (2, vi 1), (4, vi 0), (0, .ref 236)]) (nx := 94) (r1 := 0) (r2 := 0) (r3 := 0) rfl rfl (fun _ => rfl) (fun e13 (fe13 : e13 = x5 + 1) => ?_)
        refine wi_goto (nx := 97) (r1 := 11) (r2 := 0) (r3 := 0) rfl ?_
        refine wp.lo (lo := [(0, .ref 236), (1, vi 1), (2, vi 1), (3, vi e13)]) ⟨rfl, rfl, rfl, rfl, trivial⟩ rfl ?_
        exact I6 1 1 e13 h1 ⟨rfl, (show (0 ≤ 1 ∧ 1 ≤ 2147483647) ∧ (-2147483648 ≤ 1 ∧ 1 ≤ 2147483647) ∧ (0 ≤ e13 ∧ e13 ≤ 12) by omega)⟩ (show ((12 : Int) + 1 - e13).toNat < ((12 : Int) + 1 - x5).toNat by omega)
      ·
        refine wi_iload_n (i := 0) (e := x3) (nx := 6) (r1 := 0) (r2 := 0) (r3 := 0) rfl rfl ?_
        refine wi_goto (nx := 9) (r1 := 10) (r2 := 0) (r3 := 0) rfl ?_
        refine wi_ireturn (nx := 11) (r1 := 0) (r2 := 0) (r3 := 0) rfl rfl ?_
        refine wk_i ?_
        refine wi_istore_n (i := 1) (e := x3) (lo2 := [(1, vi x3), (2, vi 1), (4, vi 0), (0, .ref 236), (3, vi x5)]) (nx := 91) (r1 := 0) (r2 := 0) (r3 := 0) rfl rfl ?_
        refine wr_iinc (i := 3) (n := 1) (v := x5) (fun e13 => [(3, vi e13), (1, vi x3), (2, vi 1), (4, vi 0), (0, .ref 236)]) (nx := 94) (r1 := 0) (r2 := 0) (r3 := 0) rfl rfl (fun _ => rfl) (fun e13 (fe13 : e13 = x5 + 1) => ?_)
        refine wi_goto (nx := 97) (r1 := 11) (r2 := 0) (r3 := 0) rfl ?_
        refine wp.lo (lo := [(0, .ref 236), (1, vi x3), (2, vi 1), (3, vi e13)]) ⟨rfl, rfl, rfl, rfl, trivial⟩ rfl ?_
        exact I6 x3 1 e13 h1 ⟨rfl, (show (0 ≤ x3 ∧ x3 ≤ 2147483647) ∧ (-2147483648 ≤ 1 ∧ 1 ≤ 2147483647) ∧ (0 ≤ e13 ∧ e13 ≤ 12) by omega)⟩ (show ((12 : Int) + 1 - e13).toNat < ((12 : Int) + 1 - x5).toNat by omega)
    ·
      refine wi_aload_n (i := 0) (x := 236) (nx := 27) (r1 := 0) (r2 := 0) (r3 := 0) rfl rfl ?_
      refine wr_gr (k0 := 236) (x := 238) (nx := 30) (r1 := 11) (r2 := 13) (r3 := 0) rfl rfl (by decide) rfl ⟨rfl, rfl⟩ rfl ?_
      refine wi_bipush (n := 31) (nx := 32) (r1 := 0) (r2 := 0) (r3 := 0) rfl (by decide) ?_
      refine wi_aload_n (i := 0) (x := 236) (nx := 33) (r1 := 0) (r2 := 0) (r3 := 0) rfl rfl ?_
      refine wr_gr (k0 := 236) (x := 238) (nx := 36) (r1 := 11) (r2 := 13) (r3 := 0) rfl rfl (by decide) rfl ⟨rfl, rfl⟩ rfl ?_
      refine wi_bipush (n := 107) (nx := 38) (r1 := 0) (r2 := 0) (r3 := 0) rfl (by decide) ?_
      refine wi_iload_n (i := 3) (e := x5) (nx := 39) (r1 := 0) (r2 := 0) (r3 := 0) rfl rfl ?_
      refine wr_add (nx := 40) (r1 := 0) (r2 := 0) (r3 := 0) rfl (fun e11 (fe11 : e11 = 107 + x5) => ?_)
      obtain ⟨i12, ei12⟩ : ∃ q : Nat, e11 = (q : Int) := ⟨(e11).toNat, by omega⟩
      have b13 := gi_b (lo := 0) (hi := 11) g 238 i12 (gi_rg 108 11 (fun _ => rfl) (by decide +kernel) (by omega))
      refine wr_ia (k0 := 238) (a := e11) (f := i12) (x := h 238 i12) (nx := 41) (r1 := 0) (r2 := 0) (r3 := 0) rfl (by decide) rfl (by omega) (by omega) (by decide) (u1 238 i12 (fn_a (by omega) fn_0)) ?_
      refine wr_add (nx := 42) (r1 := 0) (r2 := 0) (r3 := 0) rfl (fun e14 (fe14 : e14 = 31 + (h 238 i12)) => ?_)
      obtain ⟨i15, ei15⟩ : ∃ q : Nat, e14 = (q : Int) := ⟨(e14).toNat, by omega⟩
      have b16 := gi_b (lo := 0) (hi := 4) g 238 i15 (gi_rg 31 12 (fun _ => rfl) (by decide +kernel) (by omega))
      refine wr_ia (k0 := 238) (a := e14) (f := i15) (x := h 238 i15) (nx := 43) (r1 := 0) (r2 := 0) (r3 := 0) rfl (by decide) rfl (by omega) (by omega) (by decide) (u1 238 i15 (fn_a (by omega) fn_0)) ?_
      refine wi_aload_n (i := 0) (x := 236) (nx := 44) (r1 := 0) (r2 := 0) (r3 := 0) rfl rfl ?_
      refine wr_gr (k0 := 236) (x := 238) (nx := 47) (r1 := 11) (r2 := 13) (r3 := 0) rfl rfl (by decide) rfl ⟨rfl, rfl⟩ rfl ?_
      refine wi_bipush (n := 31) (nx := 49) (r1 := 0) (r2 := 0) (r3 := 0) rfl (by decide) ?_
      refine wi_aload_n (i := 0) (x := 236) (nx := 50) (r1 := 0) (r2 := 0) (r3 := 0) rfl rfl ?_
      refine wr_gr (k0 := 236) (x := 238) (nx := 53) (r1 := 11) (r2 := 13) (r3 := 0) rfl rfl (by decide) rfl ⟨rfl, rfl⟩ rfl ?_
      refine wi_bipush (n := 107) (nx := 55) (r1 := 0) (r2 := 0) (r3 := 0) rfl (by decide) ?_
      refine wi_iload_n (i := 3) (e := x5) (nx := 56) (r1 := 0) (r2 := 0) (r3 := 0) rfl rfl ?_
      refine wr_add (nx := 57) (r1 := 0) (r2 := 0) (r3 := 0) rfl (fun e17 (fe17 : e17 = 107 + x5) => ?_)
      refine wi_iconst (n := 1) (nx := 58) (r1 := 0) (r2 := 0) (r3 := 0) rfl ?_
      refine wr_sub (nx := 59) (r1 := 0) (r2 := 0) (r3 := 0) rfl (fun e18 (fe18 : e18 = e17 - 1) => ?_)
      obtain ⟨i19, ei19⟩ : ∃ q : Nat, e18 = (q : Int) := ⟨(e18).toNat, by omega⟩
      have b20 := gi_b (lo := 0) (hi := 11) g 238 i19 (gi_rg 107 11 (fun _ => rfl) (by decide +kernel) (by omega))
      refine wr_ia (k0 := 238) (a := e18) (f := i19) (x := h 238 i19) (nx := 60) (r1 := 0) (r2 := 0) (r3 := 0) rfl (by decide) rfl (by omega) (by omega) (by decide) (u1 238 i19 (fn_a (by omega) fn_0)) ?_
      refine wr_add (nx := 61) (r1 := 0) (r2 := 0) (r3 := 0) rfl (fun e21 (fe21 : e21 = 31 + (h 238 i19)) => ?_)
      obtain ⟨i22, ei22⟩ : ∃ q : Nat, e21 = (q : Int) := ⟨(e21).toNat, by omega⟩
      have b23 := gi_b (lo := 0) (hi := 4) g 238 i22 (gi_rg 31 12 (fun _ => rfl) (by decide +kernel) (by omega))
      refine wr_ia (k0 := 238) (a := e21) (f := i22) (x := h 238 i22) (nx := 62) (r1 := 0) (r2 := 0) (r3 := 0) rfl (by decide) rfl (by omega) (by omega) (by decide) (u1 238 i22 (fn_a (by omega) fn_0)) ?_
      refine wi_icmp (cd := .ne) (nx := 65) (r1 := 69) (r2 := 0) (r3 := 0) rfl (by omega) (by omega) (fun (q24 : (h 238 i15) ≠ (h 238 i22)) => ?_) (fun (q24 : ¬ ((h 238 i15) ≠ (h 238 i22))) => ?_)
      ·
        refine wi_iconst (n := 0) (nx := 70) (r1 := 0) (r2 := 0) (r3 := 0) rfl ?_
        refine wi_istore (i := 4) (e := 0) (lo2 := [(4, vi 0), (0, .ref 236), (1, vi x3), (2, vi x4), (3, vi x5)]) (nx := 72) (r1 := 0) (r2 := 0) (r3 := 0) rfl rfl ?_
        refine wi_iload (i := 4) (e := 0) (nx := 74) (r1 := 0) (r2 := 0) (r3 := 0) rfl rfl ?_
        refine wi_if (cd := .eq) (nx := 77) (r1 := 83) (r2 := 0) (r3 := 0) rfl (by omega) (fun (q25 : 0 = 0) => ?_) (fun (q25 : ¬ (0 = 0)) => by exfalso; omega)
        refine wi_iconst (n := 1) (nx := 84) (r1 := 0) (r2 := 0) (r3 := 0) rfl ?_
        refine wi_istore_n (i := 2) (e := 1) (lo2 := [(2, vi 1), (4, vi 0), (0, .ref 236), (1, vi x3), (3, vi x5)]) (nx := 85) (r1 := 0) (r2 := 0) (r3 := 0) rfl rfl ?_
        refine wi_iload_n (i := 1) (e := x3) (nx := 86) (r1 := 0) (r2 := 0) (r3 := 0) rfl rfl ?_
        refine wi_iload_n (i := 2) (e := 1) (nx := 87) (r1 := 0) (r2 := 0) (r3 := 0) rfl rfl ?_
        refine wi_S (rest := []) (as := [vi x3, vi 1]) (nx := 90) (r1 := 250) (r2 := 18) (r3 := 0) rfl rfl rfl (of_decide_eq_true rfl) rfl rfl (of_decide_eq_true rfl) (of_decide_eq_true rfl) ?_
        refine wi_iload_n (i := 0) (e := x3) (nx := 1) (r1 := 0) (r2 := 0) (r3 := 0) rfl rfl ?_
        refine wi_iload_n (i := 1) (e := 1) (nx := 2) (r1 := 0) (r2 := 0) (r3 := 0) rfl rfl ?_
        refine wi_icmp (cd := .le) (nx := 5) (r1 := 9) (r2 := 0) (r3 := 0) rfl (by omega) (by omega) (fun (q26 : x3 ≤ 1) => ?_) (fun (q26 : ¬ (x3 ≤ 1)) => ?_)
        ·
          refine wi_iload_n (i := 1) (e := 1) (nx := 10) (r1 := 0) (r2 := 0) (r3 := 0) rfl rfl ?_
          refine wi_ireturn (nx := 11) (r1 := 0) (r2 := 0) (r3 := 0) rfl rfl ?_
          refine wk_i ?_
          refine wi_istore_n (i := 1) (e := 1) (lo2 := [(1, vi 1), (2, vi 1), (4, vi 0), (0, .ref 236), (3, vi x5)]) (nx := 91) (r1 := 0) (r2 := 0) (r3 := 0) rfl rfl ?_
          refine wr_iinc (i := 3) (n := 1) (v := x5) (fun e27 => [(3, vi e27), (1, vi 1), (2, vi 1), (4, vi 0), (0, .ref 236)]) (nx := 94) (r1 := 0) (r2 := 0) (r3 := 0) rfl rfl (fun _ => rfl) (fun e27 (fe27 : e27 = x5 + 1) => ?_)
          refine wi_goto (nx := 97) (r1 := 11) (r2 := 0) (r3 := 0) rfl ?_
          refine wp.lo (lo := [(0, .ref 236), (1, vi 1), (2, vi 1), (3, vi e27)]) ⟨rfl, rfl, rfl, rfl, trivial⟩ rfl ?_
          exact I6 1 1 e27 h1 ⟨rfl, (show (0 ≤ 1 ∧ 1 ≤ 2147483647) ∧ (-2147483648 ≤ 1 ∧ 1 ≤ 2147483647) ∧ (0 ≤ e27 ∧ e27 ≤ 12) by omega)⟩ (show ((12 : Int) + 1 - e27).toNat < ((12 : Int) + 1 - x5).toNat by omega)
        ·
          refine wi_iload_n (i := 0) (e := x3) (nx := 6) (r1 := 0) (r2 := 0) (r3 := 0) rfl rfl ?_
          refine wi_goto (nx := 9) (r1 := 10) (r2 := 0) (r3 := 0) rfl ?_
          refine wi_ireturn (nx := 11) (r1 := 0) (r2 := 0) (r3 := 0) rfl rfl ?_
          refine wk_i ?_
          refine wi_istore_n (i := 1) (e := x3) (lo2 := [(1, vi x3), (2, vi 1), (4, vi 0), (0, .ref 236), (3, vi x5)]) (nx := 91) (r1 := 0) (r2 := 0) (r3 := 0) rfl rfl ?_
          refine wr_iinc (i := 3) (n := 1) (v := x5) (fun e27 => [(3, vi e27), (1, vi x3), (2, vi 1), (4, vi 0), (0, .ref 236)]) (nx := 94) (r1 := 0) (r2 := 0) (r3 := 0) rfl rfl (fun _ => rfl) (fun e27 (fe27 : e27 = x5 + 1) => ?_)
          refine wi_goto (nx := 97) (r1 := 11) (r2 := 0) (r3 := 0) rfl ?_
          refine wp.lo (lo := [(0, .ref 236), (1, vi x3), (2, vi 1), (3, vi e27)]) ⟨rfl, rfl, rfl, rfl, trivial⟩ rfl ?_
          exact I6 x3 1 e27 h1 ⟨rfl, (show (0 ≤ x3 ∧ x3 ≤ 2147483647) ∧ (-2147483648 ≤ 1 ∧ 1 ≤ 2147483647) ∧ (0 ≤ e27 ∧ e27 ≤ 12) by omega)⟩ (show ((12 : Int) + 1 - e27).toNat < ((12 : Int) + 1 - x5).toNat by omega)
      ·
        refine wi_iconst (n := 1) (nx := 66) (r1 := 0) (r2 := 0) (r3 := 0) rfl ?_
        refine wi_goto (nx := 69) (r1 := 70) (r2 := 0) (r3 := 0) rfl ?_
        refine wi_istore (i := 4) (e := 1) (lo2 := [(4, vi 1), (0, .ref 236), (1, vi x3), (2, vi x4), (3, vi x5)]) (nx := 72) (r1 := 0) (r2 := 0) (r3 := 0) rfl rfl ?_
        refine wi_iload (i := 4) (e := 1) (nx := 74) (r1 := 0) (r2 := 0) (r3 := 0) rfl rfl ?_
        refine wi_if (cd := .eq) (nx := 77) (r1 := 83) (r2 := 0) (r3 := 0) rfl (by omega) (fun (q25 : 1 = 0) => by exfalso; omega) (fun (q25 : ¬ (1 = 0)) => ?_)
        refine wi_iload_n (i := 2) (e := x4) (nx := 78) (r1 := 0) (r2 := 0) (r3 := 0) rfl rfl ?_
        refine wi_iconst (n := 1) (nx := 79) (r1 := 0) (r2 := 0) (r3 := 0) rfl ?_
        refine wr_addW (nx := 80) (r1 := 0) (r2 := 0) (r3 := 0) rfl (fun e26 (fe26 : -2147483648 ≤ e26 ∧ e26 ≤ 2147483647) => ?_)
        refine wi_goto (nx := 83) (r1 := 84) (r2 := 0) (r3 := 0) rfl ?_
        refine wi_istore_n (i := 2) (e := e26) (lo2 := [(2, vi e26), (4, vi 1), (0, .ref 236), (1, vi x3), (3, vi x5)]) (nx := 85) (r1 := 0) (r2 := 0) (r3 := 0) rfl rfl ?_
        refine wi_iload_n (i := 1) (e := x3) (nx := 86) (r1 := 0) (r2 := 0) (r3 := 0) rfl rfl ?_
        refine wi_iload_n (i := 2) (e := e26) (nx := 87) (r1 := 0) (r2 := 0) (r3 := 0) rfl rfl ?_
        refine wi_S (rest := []) (as := [vi x3, vi e26]) (nx := 90) (r1 := 250) (r2 := 18) (r3 := 0) rfl rfl rfl (of_decide_eq_true rfl) rfl rfl (of_decide_eq_true rfl) (of_decide_eq_true rfl) ?_
        refine wi_iload_n (i := 0) (e := x3) (nx := 1) (r1 := 0) (r2 := 0) (r3 := 0) rfl rfl ?_
        refine wi_iload_n (i := 1) (e := e26) (nx := 2) (r1 := 0) (r2 := 0) (r3 := 0) rfl rfl ?_
        refine wi_icmp (cd := .le) (nx := 5) (r1 := 9) (r2 := 0) (r3 := 0) rfl (by omega) (by omega) (fun (q27 : x3 ≤ e26) => ?_) (fun (q27 : ¬ (x3 ≤ e26)) => ?_)
        ·
          refine wi_iload_n (i := 1) (e := e26) (nx := 10) (r1 := 0) (r2 := 0) (r3 := 0) rfl rfl ?_
          refine wi_ireturn (nx := 11) (r1 := 0) (r2 := 0) (r3 := 0) rfl rfl ?_
          refine wk_i ?_
          refine wi_istore_n (i := 1) (e := e26) (lo2 := [(1, vi e26), (2, vi e26), (4, vi 1), (0, .ref 236), (3, vi x5)]) (nx := 91) (r1 := 0) (r2 := 0) (r3 := 0) rfl rfl ?_
          refine wr_iinc (i := 3) (n := 1) (v := x5) (fun e28 => [(3, vi e28), (1, vi e26), (2, vi e26), (4, vi 1), (0, .ref 236)]) (nx := 94) (r1 := 0) (r2 := 0) (r3 := 0) rfl rfl (fun _ => rfl) (fun e28 (fe28 : e28 = x5 + 1) => ?_)
          refine wi_goto (nx := 97) (r1 := 11) (r2 := 0) (r3 := 0) rfl ?_
          refine wp.lo (lo := [(0, .ref 236), (1, vi e26), (2, vi e26), (3, vi e28)]) ⟨rfl, rfl, rfl, rfl, trivial⟩ rfl ?_
          exact I6 e26 e26 e28 h1 ⟨rfl, (show (0 ≤ e26 ∧ e26 ≤ 2147483647) ∧ (-2147483648 ≤ e26 ∧ e26 ≤ 2147483647) ∧ (0 ≤ e28 ∧ e28 ≤ 12) by omega)⟩ (show ((12 : Int) + 1 - e28).toNat < ((12 : Int) + 1 - x5).toNat by omega)
        ·
          refine wi_iload_n (i := 0) (e := x3) (nx := 6) (r1 := 0) (r2 := 0) (r3 := 0) rfl rfl ?_
          refine wi_goto (nx := 9) (r1 := 10) (r2 := 0) (r3 := 0) rfl ?_
          refine wi_ireturn (nx := 11) (r1 := 0) (r2 := 0) (r3 := 0) rfl rfl ?_
          refine wk_i ?_
          refine wi_istore_n (i := 1) (e := x3) (lo2 := [(1, vi x3), (2, vi e26), (4, vi 1), (0, .ref 236), (3, vi x5)]) (nx := 91) (r1 := 0) (r2 := 0) (r3 := 0) rfl rfl ?_
          refine wr_iinc (i := 3) (n := 1) (v := x5) (fun e28 => [(3, vi e28), (1, vi x3), (2, vi e26), (4, vi 1), (0, .ref 236)]) (nx := 94) (r1 := 0) (r2 := 0) (r3 := 0) rfl rfl (fun _ => rfl) (fun e28 (fe28 : e28 = x5 + 1) => ?_)
          refine wi_goto (nx := 97) (r1 := 11) (r2 := 0) (r3 := 0) rfl ?_
          refine wp.lo (lo := [(0, .ref 236), (1, vi x3), (2, vi e26), (3, vi e28)]) ⟨rfl, rfl, rfl, rfl, trivial⟩ rfl ?_
          exact I6 x3 e26 e28 h1 ⟨rfl, (show (0 ≤ x3 ∧ x3 ≤ 2147483647) ∧ (-2147483648 ≤ e26 ∧ e26 ≤ 2147483647) ∧ (0 ≤ e28 ∧ e28 ≤ 12) by omega)⟩ (show ((12 : Int) + 1 - e28).toNat < ((12 : Int) + 1 - x5).toNat by omega)
