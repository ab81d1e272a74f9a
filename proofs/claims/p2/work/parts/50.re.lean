-- method 282: Model.leaves(I)I
set_option maxHeartbeats 100000000 in
theorem ct_282_236_L0 {L : Nat} {xs : Nat → Int32} {d b c : Nat} {h : hp} {cr : Nat → Nat → Option Nat} {Q : hp_Q} (hcr : CR cr)  (g : GI h)   (pp0 : h 238 98 + h 238 99 + h 238 100 + h 238 101 + h 238 102 + h 238 106 = h 238 73) (pp1 : h 238 73 ≤ h 238 2) (pp2 : h 238 119 ≤ h 238 67) (pp3 : h 238 69 ≤ h 238 5) (pp4 : h 238 2 ≤ 12 * h 238 5) (pp5 : 1 ≤ h 238 98) (pp6 : h 238 67 ≤ 9998) (pp7 : h 238 102 ≤ 2 ∨ h 238 (43 + (h 238 74).toNat) ≤ 0) (k : ∀ (h2 : hp) (z0 : Int) , GI h2 → FR [(238, 238, some (43, 54)), (238, 238, some (55, 66)), (238, 238, some (67, 67)), (238, 238, some (68, 68)), (238, 238, some (69, 69)), (238, 238, some (70, 70)), (238, 238, some (71, 71)), (238, 238, some (72, 72)), (238, 238, some (74, 78)), (238, 238, some (98, 98)), (238, 238, some (102, 102)), (238, 238, some (103, 105)), (238, 238, some (106, 106)), (238, 238, some (107, 118)), (238, 238, some (119, 119)), (238, 238, some (120, 196)), (238, 238, some (121, 197)), (238, 238, some (122, 198)), (238, 238, some (123, 199))] h h2 → (0 ≤ z0 ∧ z0 ≤ 11) → (h2 238 98 + h2 238 99 + h2 238 100 + h2 238 101 + h2 238 102 + h2 238 106 = h2 238 73) → (h2 238 73 ≤ h2 238 2) → (h2 238 119 ≤ h2 238 67) → (h2 238 69 ≤ h2 238 5) → (h2 238 2 ≤ 12 * h2 238 5) → Q (.inl (some (vi z0))) (hp_w h2 cr) b c) : wp (md_xa (L, xs)) (d + 2) 282 (0, [(0, .ref 236), (1, vi 0)], [], hp_w h cr, b, c) Q := by
  have F0 : FR [(238, 238, some (43, 54)), (238, 238, some (55, 66)), (238, 238, some (67, 67)), (238, 238, some (68, 68)), (238, 238, some (69, 69)), (238, 238, some (70, 70)), (238, 238, some (71, 71)), (238, 238, some (72, 72)), (238, 238, some (74, 78)), (238, 238, some (98, 98)), (238, 238, some (102, 102)), (238, 238, some (103, 105)), (238, 238, some (106, 106)), (238, 238, some (107, 118)), (238, 238, some (119, 119)), (238, 238, some (120, 196)), (238, 238, some (121, 197)), (238, 238, some (122, 198)), (238, 238, some (123, 199))] h h := FR.refl
  have b1 := gi_b (lo := 0) (hi := 6) g 238 98 rfl
  have b2 := gi_b (lo := 0) (hi := 6) g 238 99 rfl
  have b3 := gi_b (lo := 0) (hi := 6) g 238 100 rfl
  have b4 := gi_b (lo := 0) (hi := 6) g 238 101 rfl
  have b5 := gi_b (lo := 0) (hi := 3) g 238 102 rfl
  have b6 := gi_b (lo := 0) (hi := 12) g 238 106 rfl
  have b7 := gi_b (lo := 0) (hi := 12) g 238 73 rfl
  have b8 := gi_b (lo := 0) (hi := 12) g 238 2 rfl
  have b9 := gi_b (lo := 0) (hi := 9999) g 238 119 rfl
  have b10 := gi_b (lo := 0) (hi := 9999) g 238 67 rfl
  have b11 := gi_b (lo := 0) (hi := 9) g 238 69 rfl
  have b12 := gi_b (lo := 0) (hi := 9) g 238 5 rfl
  have b13 := gi_b (lo := 0) (hi := 11) g 238 74 rfl
  obtain ⟨i14, ei14⟩ : ∃ q : Nat, (43 + h 238 74) = (q : Int) := ⟨(43 + h 238 74).toNat, by omega⟩
  have b15 := gi_b (lo := 0) (hi := 999) g 238 i14 (gi_rg 43 12 (fun _ => rfl) (by decide +kernel) (by omega))
  have e16 : h 238 (43 + (h 238 74).toNat) = h 238 i14 := by rw [show 43 + (h 238 74).toNat = i14 by omega]
  refine wi_aload_n (i := 0) (x := 236) (nx := 1) (r1 := 0) (r2 := 0) (r3 := 0) rfl rfl ?_
  refine wi_iload_n (i := 1) (e := 0) (nx := 2) (r1 := 0) (r2 := 0) (r3 := 0) rfl rfl ?_
  refine wi_iconst (n := 0) (nx := 3) (r1 := 0) (r2 := 0) (r3 := 0) rfl ?_
  refine wr_V (k0 := 236) (rest := []) (as := [.ref 236, vi 0, vi 0]) (nx := 6) (r1 := 258) (r2 := 2) (r3 := 11) rfl rfl rfl (of_decide_eq_true rfl) rfl rfl (by decide) rfl rfl (of_decide_eq_true rfl) (of_decide_eq_true rfl) ?_
  refine wi_aload_n (i := 0) (x := 236) (nx := 1) (r1 := 0) (r2 := 0) (r3 := 0) rfl rfl ?_
  refine wr_gr (k0 := 236) (x := 238) (nx := 4) (r1 := 11) (r2 := 13) (r3 := 0) rfl rfl (by decide) rfl ⟨rfl, rfl⟩ rfl ?_
  refine wi_bipush (n := 74) (nx := 6) (r1 := 0) (r2 := 0) (r3 := 0) rfl (by decide) ?_
  refine wi_bipush (n := 6) (nx := 8) (r1 := 0) (r2 := 0) (r3 := 0) rfl (by decide) ?_
  refine wi_iload_n (i := 1) (e := 0) (nx := 9) (r1 := 0) (r2 := 0) (r3 := 0) rfl rfl ?_
  refine wr_mulL (0) (nx := 10) (r1 := 0) (r2 := 0) (r3 := 0) rfl (by decide) ?_
  refine wr_addL (74) (nx := 11) (r1 := 0) (r2 := 0) (r3 := 0) rfl (by decide) ?_
  refine wi_iload_n (i := 2) (e := 0) (nx := 12) (r1 := 0) (r2 := 0) (r3 := 0) rfl rfl ?_
  refine wr_addL (74) (nx := 13) (r1 := 0) (r2 := 0) (r3 := 0) rfl (by decide) ?_
  refine wr_ia (k0 := 238) (a := 74) (f := 74) (x := h 238 74) (nx := 14) (r1 := 0) (r2 := 0) (r3 := 0) rfl (by decide) rfl (by omega) (by omega) (by decide) rfl ?_
  refine wi_ireturn (nx := 15) (r1 := 0) (r2 := 0) (r3 := 0) rfl rfl ?_
  refine wk_i ?_
  refine wi_istore_n (i := 2) (e := h 238 74) (lo2 := [(2, vi (h 238 74)), (0, .ref 236), (1, vi 0)]) (nx := 7) (r1 := 0) (r2 := 0) (r3 := 0) rfl rfl ?_
  refine wi_aload_n (i := 0) (x := 236) (nx := 8) (r1 := 0) (r2 := 0) (r3 := 0) rfl rfl ?_
  refine wr_gr (k0 := 236) (x := 238) (nx := 11) (r1 := 11) (r2 := 13) (r3 := 0) rfl rfl (by decide) rfl ⟨rfl, rfl⟩ rfl ?_
  refine wi_bipush (n := 98) (nx := 13) (r1 := 0) (r2 := 0) (r3 := 0) rfl (by decide) ?_
  refine wi_iload_n (i := 1) (e := 0) (nx := 14) (r1 := 0) (r2 := 0) (r3 := 0) rfl rfl ?_
  refine wr_addL (98) (nx := 15) (r1 := 0) (r2 := 0) (r3 := 0) rfl (by decide) ?_
  refine wi_dup2 (nx := 16) (r1 := 0) (r2 := 0) (r3 := 0) rfl rfl rfl ?_
  refine wr_ia (k0 := 238) (a := 98) (f := 98) (x := h 238 98) (nx := 17) (r1 := 0) (r2 := 0) (r3 := 0) rfl (by decide) rfl (by omega) (by omega) (by decide) rfl ?_
  refine wi_iconst (n := 1) (nx := 18) (r1 := 0) (r2 := 0) (r3 := 0) rfl ?_
  refine wr_sub (nx := 19) (r1 := 0) (r2 := 0) (r3 := 0) rfl (fun e17 (fe17 : e17 = (h 238 98) - 1) => ?_)
  refine wr_is (k0 := 238) (a := 98) (f := 98) (x := e17) (bl := 0) (bh := 6) (nx := 20) (r1 := 0) (r2 := 0) (r3 := 0) rfl (by decide) rfl (by omega) (by omega) (by decide) g rfl (by omega) (fun h18 g18 w18 u18 => ?_)
  have F19 := F0.then rfl u18
  refine wi_iconst (n := 0) (nx := 21) (r1 := 0) (r2 := 0) (r3 := 0) rfl ?_
  refine wi_istore_n (i := 3) (e := 0) (lo2 := [(3, vi 0), (2, vi (h 238 74)), (0, .ref 236), (1, vi 0)]) (nx := 22) (r1 := 0) (r2 := 0) (r3 := 0) rfl rfl ?_
  refine wp.lo (lo := [(0, .ref 236), (1, vi 0), (2, vi (h 238 74)), (3, vi 0)]) ⟨rfl, rfl, rfl, rfl, trivial⟩ rfl ?_
  refine wl_1 (fun x20 h21 => GI h21 ∧ FR [(238, 238, some (43, 54)), (238, 238, some (55, 66)), (238, 238, some (67, 67)), (238, 238, some (68, 68)), (238, 238, some (69, 69)), (238, 238, some (70, 70)), (238, 238, some (71, 71)), (238, 238, some (72, 72)), (238, 238, some (74, 78)), (238, 238, some (98, 98)), (238, 238, some (102, 102)), (238, 238, some (103, 105)), (238, 238, some (106, 106)), (238, 238, some (107, 118)), (238, 238, some (119, 119)), (238, 238, some (120, 196)), (238, 238, some (121, 197)), (238, 238, some (122, 198)), (238, 238, some (123, 199))] h h21 ∧ FR [(238, 238, some (74, 78))] h18 h21 ∧ ((0 ≤ x20 ∧ x20 ≤ 5))) (fun x20 h21 => ((5 : Int) + 1 - x20).toNat) (fun x20 h21 => (22, [(0, .ref 236), (1, vi 0), (2, vi (h 238 74)), (3, vi x20)], [], hp_w h21 cr, b, c)) ?_ 0 h18 ⟨g18, F19, FR.refl, (show (0 ≤ 0 ∧ 0 ≤ 5) by omega)⟩
  intro x20 h21 ⟨g21, F22, u21, f21⟩ I21
  refine wi_iload_n (i := 3) (e := x20) (nx := 23) (r1 := 0) (r2 := 0) (r3 := 0) rfl rfl ?_
  refine wi_aload_n (i := 0) (x := 236) (nx := 24) (r1 := 0) (r2 := 0) (r3 := 0) rfl rfl ?_
  refine wr_gr (k0 := 236) (x := 238) (nx := 27) (r1 := 11) (r2 := 13) (r3 := 0) rfl rfl (by decide) rfl ⟨rfl, rfl⟩ rfl ?_
  refine wi_bipush (n := 98) (nx := 29) (r1 := 0) (r2 := 0) (r3 := 0) rfl (by decide) ?_
  refine wi_iload_n (i := 1) (e := 0) (nx := 30) (r1 := 0) (r2 := 0) (r3 := 0) rfl rfl ?_
  refine wr_addL (98) (nx := 31) (r1 := 0) (r2 := 0) (r3 := 0) rfl (by decide) ?_
  refine wr_ia (k0 := 238) (a := 98) (f := 98) (x := e17) (nx := 32) (r1 := 0) (r2 := 0) (r3 := 0) rfl (by decide) rfl (by omega) (by omega) (by decide) ((u21 238 98 rfl).trans w18) ?_
  refine wi_icmp (cd := .ge) (nx := 35) (r1 := 71) (r2 := 0) (r3 := 0) rfl (by omega) (by omega) (fun (q23 : e17 ≤ x20) => ?_) (fun (q23 : ¬ (e17 ≤ x20)) => ?_)
  ·
    refine wi_aload_n (i := 0) (x := 236) (nx := 72) (r1 := 0) (r2 := 0) (r3 := 0) rfl rfl ?_
    refine wi_iload_n (i := 2) (e := h 238 74) (nx := 73) (r1 := 0) (r2 := 0) (r3 := 0) rfl rfl ?_
    refine wr_V (k0 := 236) (rest := []) (as := [.ref 236, vi (h 238 74)]) (nx := 76) (r1 := 283) (r2 := 1) (r3 := 11) rfl rfl rfl (of_decide_eq_true rfl) rfl rfl (by decide) rfl rfl (of_decide_eq_true rfl) (of_decide_eq_true rfl) ?_
    have e25 : h21 238 67 = h 238 67 := ((u21 238 67 rfl).trans (u18 238 67 rfl))
    have e26 : h21 238 119 = h 238 119 := ((u21 238 119 rfl).trans (u18 238 119 rfl))
    have e27 : h21 238 69 = h 238 69 := ((u21 238 69 rfl).trans (u18 238 69 rfl))
    have e28 : h21 238 5 = h 238 5 := ((u21 238 5 rfl).trans (u18 238 5 rfl))
    refine ct_283_236 hcr  g21 (h 238 74) (by omega) (show (h21 238 67) ≤ 9998 by omega) (show (h21 238 119) ≤ (h21 238 67) by omega) (show (h21 238 69) ≤ (h21 238 5) by omega) (show 1 ≤ (h21 238 5) by omega) (fun h24 g24 u24 (p24_0 : (h24 238 119) ≤ (h24 238 67)) (p24_1 : (h24 238 69) ≤ (h24 238 5)) => ?_)
    have F29 := F22.then (by decide +kernel) u24
    have b30 := gi_b (lo := 0) (hi := 9999) g24 238 119 rfl
    have b31 := gi_b (lo := 0) (hi := 9999) g24 238 67 rfl
    have b32 := gi_b (lo := 0) (hi := 9) g24 238 69 rfl
    have e33 : h24 238 5 = h 238 5 := ((u24 238 5 rfl).trans ((u21 238 5 rfl).trans (u18 238 5 rfl)))
    refine wk_n ?_
    refine wi_aload_n (i := 0) (x := 236) (nx := 77) (r1 := 0) (r2 := 0) (r3 := 0) rfl rfl ?_
    refine wr_gr (k0 := 236) (x := 238) (nx := 80) (r1 := 11) (r2 := 13) (r3 := 0) rfl rfl (by decide) rfl ⟨rfl, rfl⟩ rfl ?_
    refine wi_bipush (n := 43) (nx := 82) (r1 := 0) (r2 := 0) (r3 := 0) rfl (by decide) ?_
    refine wi_iload_n (i := 2) (e := h 238 74) (nx := 83) (r1 := 0) (r2 := 0) (r3 := 0) rfl rfl ?_
    refine wr_add (nx := 84) (r1 := 0) (r2 := 0) (r3 := 0) rfl (fun e34 (fe34 : e34 = 43 + (h 238 74)) => ?_)
    refine wr_ia (k0 := 238) (a := e34) (f := i14) (x := h 238 i14) (nx := 85) (r1 := 0) (r2 := 0) (r3 := 0) rfl (by decide) rfl (by omega) (by omega) (by decide) ((u24 238 i14 (fn_i (by omega) (fn_i (by omega) (fn_i (by omega) (fn_i (by omega) (fn_i (by omega) (fn_i (by omega) (fn_i (by omega) (fn_i (by omega) (fn_i (by omega) (fn_i (by omega) (fn_i (by omega) fn_0)))))))))))).trans ((u21 238 i14 (fn_i (by omega) fn_0)).trans (u18 238 i14 (fn_i (by omega) fn_0)))) ?_
    refine wi_if (cd := .ne) (nx := 88) (r1 := 117) (r2 := 0) (r3 := 0) rfl (by omega) (fun (q35 : (h 238 i14) ≠ 0) => ?_) (fun (q35 : ¬ ((h 238 i14) ≠ 0)) => ?_)
    ·
      refine wi_aload_n (i := 0) (x := 236) (nx := 118) (r1 := 0) (r2 := 0) (r3 := 0) rfl rfl ?_
      refine wr_gr (k0 := 236) (x := 238) (nx := 121) (r1 := 11) (r2 := 13) (r3 := 0) rfl rfl (by decide) rfl ⟨rfl, rfl⟩ rfl ?_
      refine wi_bipush (n := 43) (nx := 123) (r1 := 0) (r2 := 0) (r3 := 0) rfl (by decide) ?_
      refine wi_iload_n (i := 2) (e := h 238 74) (nx := 124) (r1 := 0) (r2 := 0) (r3 := 0) rfl rfl ?_
      refine wr_add (nx := 125) (r1 := 0) (r2 := 0) (r3 := 0) rfl (fun e36 (fe36 : e36 = 43 + (h 238 74)) => ?_)
      refine wi_dup2 (nx := 126) (r1 := 0) (r2 := 0) (r3 := 0) rfl rfl rfl ?_
      refine wr_ia (k0 := 238) (a := e36) (f := i14) (x := h 238 i14) (nx := 127) (r1 := 0) (r2 := 0) (r3 := 0) rfl (by decide) rfl (by omega) (by omega) (by decide) ((u24 238 i14 (fn_i (by omega) (fn_i (by omega) (fn_i (by omega) (fn_i (by omega) (fn_i (by omega) (fn_i (by omega) (fn_i (by omega) (fn_i (by omega) (fn_i (by omega) (fn_i (by omega) (fn_i (by omega) fn_0)))))))))))).trans ((u21 238 i14 (fn_i (by omega) fn_0)).trans (u18 238 i14 (fn_i (by omega) fn_0)))) ?_
      refine wi_iconst (n := 1) (nx := 128) (r1 := 0) (r2 := 0) (r3 := 0) rfl ?_
      refine wr_sub (nx := 129) (r1 := 0) (r2 := 0) (r3 := 0) rfl (fun e37 (fe37 : e37 = (h 238 i14) - 1) => ?_)
      refine wr_is (k0 := 238) (a := e36) (f := i14) (x := e37) (bl := 0) (bh := 999) (nx := 130) (r1 := 0) (r2 := 0) (r3 := 0) rfl (by decide) rfl (by omega) (by omega) (by decide) g24 (gi_rg 43 12 (fun _ => rfl) (by decide +kernel) (by omega)) (by omega) (fun h38 g38 w38 u38 => ?_)
      have F39 := F29.then rfl (FR.idx (p := 43) (q := 54) u38 (by omega))
      refine wi_aload_n (i := 0) (x := 236) (nx := 131) (r1 := 0) (r2 := 0) (r3 := 0) rfl rfl ?_
      refine wr_gr (k0 := 236) (x := 238) (nx := 134) (r1 := 11) (r2 := 13) (r3 := 0) rfl rfl (by decide) rfl ⟨rfl, rfl⟩ rfl ?_
      refine wi_bipush (n := 55) (nx := 136) (r1 := 0) (r2 := 0) (r3 := 0) rfl (by decide) ?_
      refine wi_iload_n (i := 2) (e := h 238 74) (nx := 137) (r1 := 0) (r2 := 0) (r3 := 0) rfl rfl ?_
      refine wr_add (nx := 138) (r1 := 0) (r2 := 0) (r3 := 0) rfl (fun e40 (fe40 : e40 = 55 + (h 238 74)) => ?_)
      refine wi_aload_n (i := 0) (x := 236) (nx := 139) (r1 := 0) (r2 := 0) (r3 := 0) rfl rfl ?_
      refine wr_gr (k0 := 236) (x := 238) (nx := 142) (r1 := 11) (r2 := 13) (r3 := 0) rfl rfl (by decide) rfl ⟨rfl, rfl⟩ rfl ?_
      refine wi_bipush (n := 67) (nx := 144) (r1 := 0) (r2 := 0) (r3 := 0) rfl (by decide) ?_
      refine wr_ia (k0 := 238) (a := 67) (f := 67) (x := h24 238 67) (nx := 145) (r1 := 0) (r2 := 0) (r3 := 0) rfl (by decide) rfl (by omega) (by omega) (by decide) (u38 238 67 (fn_i (by omega) fn_0)) ?_
      refine wi_aload_n (i := 0) (x := 236) (nx := 146) (r1 := 0) (r2 := 0) (r3 := 0) rfl rfl ?_
      refine wr_gr (k0 := 236) (x := 238) (nx := 149) (r1 := 11) (r2 := 13) (r3 := 0) rfl rfl (by decide) rfl ⟨rfl, rfl⟩ rfl ?_
      refine wi_bipush (n := 8) (nx := 151) (r1 := 0) (r2 := 0) (r3 := 0) rfl (by decide) ?_
      have b41 := gi_b (lo := 0) (hi := 999) g 238 8 rfl
      refine wr_ia (k0 := 238) (a := 8) (f := 8) (x := h 238 8) (nx := 152) (r1 := 0) (r2 := 0) (r3 := 0) rfl (by decide) rfl (by omega) (by omega) (by decide) ((u38 238 8 (fn_i (by omega) fn_0)).trans ((u24 238 8 rfl).trans ((u21 238 8 rfl).trans (u18 238 8 rfl)))) ?_
      refine wr_add (nx := 153) (r1 := 0) (r2 := 0) (r3 := 0) rfl (fun e42 (fe42 : e42 = (h24 238 67) + (h 238 8)) => ?_)
      obtain ⟨i43, ei43⟩ : ∃ q : Nat, e40 = (q : Int) := ⟨(e40).toNat, by omega⟩
      refine wr_is (k0 := 238) (a := e40) (f := i43) (x := e42) (bl := 0) (bh := 20000) (nx := 154) (r1 := 0) (r2 := 0) (r3 := 0) rfl (by decide) rfl (by omega) (by omega) (by decide) g38 (gi_rg 55 12 (fun _ => rfl) (by decide +kernel) (by omega)) (by omega) (fun h44 g44 w44 u44 => ?_)
      have F45 := F39.then rfl (FR.idx (p := 55) (q := 66) u44 (by omega))
      refine wi_aload_n (i := 0) (x := 236) (nx := 155) (r1 := 0) (r2 := 0) (r3 := 0) rfl rfl ?_
      refine wr_gr (k0 := 236) (x := 238) (nx := 158) (r1 := 11) (r2 := 13) (r3 := 0) rfl rfl (by decide) rfl ⟨rfl, rfl⟩ rfl ?_
      refine wi_bipush (n := 103) (nx := 160) (r1 := 0) (r2 := 0) (r3 := 0) rfl (by decide) ?_
      refine wi_aload_n (i := 0) (x := 236) (nx := 161) (r1 := 0) (r2 := 0) (r3 := 0) rfl rfl ?_
      refine wr_gr (k0 := 236) (x := 238) (nx := 164) (r1 := 11) (r2 := 13) (r3 := 0) rfl rfl (by decide) rfl ⟨rfl, rfl⟩ rfl ?_
      refine wi_bipush (n := 102) (nx := 166) (r1 := 0) (r2 := 0) (r3 := 0) rfl (by decide) ?_
      refine wr_ia (k0 := 238) (a := 102) (f := 102) (x := h 238 102) (nx := 167) (r1 := 0) (r2 := 0) (r3 := 0) rfl (by decide) rfl (by omega) (by omega) (by decide) ((u44 238 102 (fn_i (by omega) fn_0)).trans ((u38 238 102 (fn_i (by omega) fn_0)).trans ((u24 238 102 rfl).trans ((u21 238 102 rfl).trans (u18 238 102 rfl))))) ?_
      refine wr_add (nx := 168) (r1 := 0) (r2 := 0) (r3 := 0) rfl (fun e46 (fe46 : e46 = 103 + (h 238 102)) => ?_)
      refine wi_iload_n (i := 2) (e := h 238 74) (nx := 169) (r1 := 0) (r2 := 0) (r3 := 0) rfl rfl ?_
      obtain ⟨i47, ei47⟩ : ∃ q : Nat, e46 = (q : Int) := ⟨(e46).toNat, by omega⟩
      refine wr_is (k0 := 238) (a := e46) (f := i47) (x := h 238 74) (bl := 0) (bh := 11) (nx := 170) (r1 := 0) (r2 := 0) (r3 := 0) rfl (by decide) rfl (by omega) (by omega) (by decide) g44 (gi_rg 103 3 (fun _ => rfl) (by decide +kernel) (by omega)) (by omega) (fun h48 g48 w48 u48 => ?_)
      have F49 := F45.then rfl (FR.idx (p := 103) (q := 105) u48 (by omega))
      refine wi_aload_n (i := 0) (x := 236) (nx := 171) (r1 := 0) (r2 := 0) (r3 := 0) rfl rfl ?_
      refine wr_gr (k0 := 236) (x := 238) (nx := 174) (r1 := 11) (r2 := 13) (r3 := 0) rfl rfl (by decide) rfl ⟨rfl, rfl⟩ rfl ?_
      refine wi_bipush (n := 102) (nx := 176) (r1 := 0) (r2 := 0) (r3 := 0) rfl (by decide) ?_
      refine wi_dup2 (nx := 177) (r1 := 0) (r2 := 0) (r3 := 0) rfl rfl rfl ?_
      refine wr_ia (k0 := 238) (a := 102) (f := 102) (x := h 238 102) (nx := 178) (r1 := 0) (r2 := 0) (r3 := 0) rfl (by decide) rfl (by omega) (by omega) (by decide) ((u48 238 102 (fn_i (by omega) fn_0)).trans ((u44 238 102 (fn_i (by omega) fn_0)).trans ((u38 238 102 (fn_i (by omega) fn_0)).trans ((u24 238 102 rfl).trans ((u21 238 102 rfl).trans (u18 238 102 rfl)))))) ?_
      refine wi_iconst (n := 1) (nx := 179) (r1 := 0) (r2 := 0) (r3 := 0) rfl ?_
      refine wr_add (nx := 180) (r1 := 0) (r2 := 0) (r3 := 0) rfl (fun e50 (fe50 : e50 = (h 238 102) + 1) => ?_)
      refine wr_is (k0 := 238) (a := 102) (f := 102) (x := e50) (bl := 0) (bh := 3) (nx := 181) (r1 := 0) (r2 := 0) (r3 := 0) rfl (by decide) rfl (by omega) (by omega) (by decide) g48 rfl (by omega) (fun h51 g51 w51 u51 => ?_)
      have F52 := F49.then rfl u51
      refine wi_iload_n (i := 2) (e := h 238 74) (nx := 182) (r1 := 0) (r2 := 0) (r3 := 0) rfl rfl ?_
      refine wi_ireturn (nx := 183) (r1 := 0) (r2 := 0) (r3 := 0) rfl rfl ?_
      have e53 : h51 238 98 = e17 := ((u51 238 98 rfl).trans ((u48 238 98 (fn_i (by omega) fn_0)).trans ((u44 238 98 (fn_i (by omega) fn_0)).trans ((u38 238 98 (fn_i (by omega) fn_0)).trans ((u24 238 98 rfl).trans ((u21 238 98 rfl).trans w18))))))
      have e54 : h51 238 99 = h 238 99 := ((u51 238 99 rfl).trans ((u48 238 99 (fn_i (by omega) fn_0)).trans ((u44 238 99 (fn_i (by omega) fn_0)).trans ((u38 238 99 (fn_i (by omega) fn_0)).trans ((u24 238 99 rfl).trans ((u21 238 99 rfl).trans (u18 238 99 rfl)))))))
      have e55 : h51 238 100 = h 238 100 := ((u51 238 100 rfl).trans ((u48 238 100 (fn_i (by omega) fn_0)).trans ((u44 238 100 (fn_i (by omega) fn_0)).trans ((u38 238 100 (fn_i (by omega) fn_0)).trans ((u24 238 100 rfl).trans ((u21 238 100 rfl).trans (u18 238 100 rfl)))))))
      have e56 : h51 238 101 = h 238 101 := ((u51 238 101 rfl).trans ((u48 238 101 (fn_i (by omega) fn_0)).trans ((u44 238 101 (fn_i (by omega) fn_0)).trans ((u38 238 101 (fn_i (by omega) fn_0)).trans ((u24 238 101 rfl).trans ((u21 238 101 rfl).trans (u18 238 101 rfl)))))))
      have e57 : h51 238 102 = e50 := w51
      have e58 : h51 238 106 = h 238 106 := ((u51 238 106 rfl).trans ((u48 238 106 (fn_i (by omega) fn_0)).trans ((u44 238 106 (fn_i (by omega) fn_0)).trans ((u38 238 106 (fn_i (by omega) fn_0)).trans ((u24 238 106 rfl).trans ((u21 238 106 rfl).trans (u18 238 106 rfl)))))))
      have e59 : h51 238 73 = h 238 73 := ((u51 238 73 rfl).trans ((u48 238 73 (fn_i (by omega) fn_0)).trans ((u44 238 73 (fn_i (by omega) fn_0)).trans ((u38 238 73 (fn_i (by omega) fn_0)).trans ((u24 238 73 rfl).trans ((u21 238 73 rfl).trans (u18 238 73 rfl)))))))
      have e60 : h51 238 2 = h 238 2 := ((u51 238 2 rfl).trans ((u48 238 2 (fn_i (by omega) fn_0)).trans ((u44 238 2 (fn_i (by omega) fn_0)).trans ((u38 238 2 (fn_i (by omega) fn_0)).trans ((u24 238 2 rfl).trans ((u21 238 2 rfl).trans (u18 238 2 rfl)))))))
      have e61 : h51 238 119 = h24 238 119 := ((u51 238 119 rfl).trans ((u48 238 119 (fn_i (by omega) fn_0)).trans ((u44 238 119 (fn_i (by omega) fn_0)).trans (u38 238 119 (fn_i (by omega) fn_0)))))
      have e62 : h51 238 67 = h24 238 67 := ((u51 238 67 rfl).trans ((u48 238 67 (fn_i (by omega) fn_0)).trans ((u44 238 67 (fn_i (by omega) fn_0)).trans (u38 238 67 (fn_i (by omega) fn_0)))))
      have e63 : h51 238 69 = h24 238 69 := ((u51 238 69 rfl).trans ((u48 238 69 (fn_i (by omega) fn_0)).trans ((u44 238 69 (fn_i (by omega) fn_0)).trans (u38 238 69 (fn_i (by omega) fn_0)))))
      have e64 : h51 238 5 = h 238 5 := ((u51 238 5 rfl).trans ((u48 238 5 (fn_i (by omega) fn_0)).trans ((u44 238 5 (fn_i (by omega) fn_0)).trans ((u38 238 5 (fn_i (by omega) fn_0)).trans ((u24 238 5 rfl).trans ((u21 238 5 rfl).trans (u18 238 5 rfl)))))))
      exact k h51 (h 238 74) g51 F52 (by omega) (show (h51 238 98) + (h51 238 99) + (h51 238 100) + (h51 238 101) + (h51 238 102) + (h51 238 106) = (h51 238 73) by omega) (show (h51 238 73) ≤ (h51 238 2) by omega) (show (h51 238 119) ≤ (h51 238 67) by omega) (show (h51 238 69) ≤ (h51 238 5) by omega) (show (h51 238 2) ≤ 12 * (h51 238 5) by omega)
    ·
      refine wi_aload_n (i := 0) (x := 236) (nx := 89) (r1 := 0) (r2 := 0) (r3 := 0) rfl rfl ?_
      refine wr_gr (k0 := 236) (x := 238) (nx := 92) (r1 := 11) (r2 := 13) (r3 := 0) rfl rfl (by decide) rfl ⟨rfl, rfl⟩ rfl ?_
      refine wi_bipush (n := 107) (nx := 94) (r1 := 0) (r2 := 0) (r3 := 0) rfl (by decide) ?_
      refine wi_aload_n (i := 0) (x := 236) (nx := 95) (r1 := 0) (r2 := 0) (r3 := 0) rfl rfl ?_
      refine wr_gr (k0 := 236) (x := 238) (nx := 98) (r1 := 11) (r2 := 13) (r3 := 0) rfl rfl (by decide) rfl ⟨rfl, rfl⟩ rfl ?_
      refine wi_bipush (n := 106) (nx := 100) (r1 := 0) (r2 := 0) (r3 := 0) rfl (by decide) ?_
      refine wr_ia (k0 := 238) (a := 106) (f := 106) (x := h 238 106) (nx := 101) (r1 := 0) (r2 := 0) (r3 := 0) rfl (by decide) rfl (by omega) (by omega) (by decide) ((u24 238 106 rfl).trans ((u21 238 106 rfl).trans (u18 238 106 rfl))) ?_
      refine wr_add (nx := 102) (r1 := 0) (r2 := 0) (r3 := 0) rfl (fun e36 (fe36 : e36 = 107 + (h 238 106)) => ?_)
      refine wi_iload_n (i := 2) (e := h 238 74) (nx := 103) (r1 := 0) (r2 := 0) (r3 := 0) rfl rfl ?_
      obtain ⟨i37, ei37⟩ : ∃ q : Nat, e36 = (q : Int) := ⟨(e36).toNat, by omega⟩
      refine wr_is (k0 := 238) (a := e36) (f := i37) (x := h 238 74) (bl := 0) (bh := 11) (nx := 104) (r1 := 0) (r2 := 0) (r3 := 0) rfl (by decide) rfl (by omega) (by omega) (by decide) g24 (gi_rg 107 12 (fun _ => rfl) (by decide +kernel) (by omega)) (by omega) (fun h38 g38 w38 u38 => ?_)
      have F39 := F29.then rfl (FR.idx (p := 107) (q := 118) u38 (by omega))
      refine wi_aload_n (i := 0) (x := 236) (nx := 105) (r1 := 0) (r2 := 0) (r3 := 0) rfl rfl ?_
      refine wr_gr (k0 := 236) (x := 238) (nx := 108) (r1 := 11) (r2 := 13) (r3 := 0) rfl rfl (by decide) rfl ⟨rfl, rfl⟩ rfl ?_
      refine wi_bipush (n := 106) (nx := 110) (r1 := 0) (r2 := 0) (r3 := 0) rfl (by decide) ?_
      refine wi_dup2 (nx := 111) (r1 := 0) (r2 := 0) (r3 := 0) rfl rfl rfl ?_
      refine wr_ia (k0 := 238) (a := 106) (f := 106) (x := h 238 106) (nx := 112) (r1 := 0) (r2 := 0) (r3 := 0) rfl (by decide) rfl (by omega) (by omega) (by decide) ((u38 238 106 (fn_i (by omega) fn_0)).trans ((u24 238 106 rfl).trans ((u21 238 106 rfl).trans (u18 238 106 rfl)))) ?_
      refine wi_iconst (n := 1) (nx := 113) (r1 := 0) (r2 := 0) (r3 := 0) rfl ?_
      refine wr_add (nx := 114) (r1 := 0) (r2 := 0) (r3 := 0) rfl (fun e40 (fe40 : e40 = (h 238 106) + 1) => ?_)
      refine wr_is (k0 := 238) (a := 106) (f := 106) (x := e40) (bl := 0) (bh := 12) (nx := 115) (r1 := 0) (r2 := 0) (r3 := 0) rfl (by decide) rfl (by omega) (by omega) (by decide) g38 rfl (by omega) (fun h41 g41 w41 u41 => ?_)
      have F42 := F39.then rfl u41
      refine wi_iload_n (i := 2) (e := h 238 74) (nx := 116) (r1 := 0) (r2 := 0) (r3 := 0) rfl rfl ?_
      refine wi_ireturn (nx := 117) (r1 := 0) (r2 := 0) (r3 := 0) rfl rfl ?_
      have e43 : h41 238 98 = e17 := ((u41 238 98 rfl).trans ((u38 238 98 (fn_i (by omega) fn_0)).trans ((u24 238 98 rfl).trans ((u21 238 98 rfl).trans w18))))
      have e44 : h41 238 99 = h 238 99 := ((u41 238 99 rfl).trans ((u38 238 99 (fn_i (by omega) fn_0)).trans ((u24 238 99 rfl).trans ((u21 238 99 rfl).trans (u18 238 99 rfl)))))
      have e45 : h41 238 100 = h 238 100 := ((u41 238 100 rfl).trans ((u38 238 100 (fn_i (by omega) fn_0)).trans ((u24 238 100 rfl).trans ((u21 238 100 rfl).trans (u18 238 100 rfl)))))
      have e46 : h41 238 101 = h 238 101 := ((u41 238 101 rfl).trans ((u38 238 101 (fn_i (by omega) fn_0)).trans ((u24 238 101 rfl).trans ((u21 238 101 rfl).trans (u18 238 101 rfl)))))
      have e47 : h41 238 102 = h 238 102 := ((u41 238 102 rfl).trans ((u38 238 102 (fn_i (by omega) fn_0)).trans ((u24 238 102 rfl).trans ((u21 238 102 rfl).trans (u18 238 102 rfl)))))
      have e48 : h41 238 106 = e40 := w41
      have e49 : h41 238 73 = h 238 73 := ((u41 238 73 rfl).trans ((u38 238 73 (fn_i (by omega) fn_0)).trans ((u24 238 73 rfl).trans ((u21 238 73 rfl).trans (u18 238 73 rfl)))))
      have e50 : h41 238 2 = h 238 2 := ((u41 238 2 rfl).trans ((u38 238 2 (fn_i (by omega) fn_0)).trans ((u24 238 2 rfl).trans ((u21 238 2 rfl).trans (u18 238 2 rfl)))))
      have e51 : h41 238 119 = h24 238 119 := ((u41 238 119 rfl).trans (u38 238 119 (fn_i (by omega) fn_0)))
      have e52 : h41 238 67 = h24 238 67 := ((u41 238 67 rfl).trans (u38 238 67 (fn_i (by omega) fn_0)))
      have e53 : h41 238 69 = h24 238 69 := ((u41 238 69 rfl).trans (u38 238 69 (fn_i (by omega) fn_0)))
      have e54 : h41 238 5 = h 238 5 := ((u41 238 5 rfl).trans ((u38 238 5 (fn_i (by omega) fn_0)).trans ((u24 238 5 rfl).trans ((u21 238 5 rfl).trans (u18 238 5 rfl)))))
      exact k h41 (h 238 74) g41 F42 (by omega) (show (h41 238 98) + (h41 238 99) + (h41 238 100) + (h41 238 101) + (h41 238 102) + (h41 238 106) = (h41 238 73) by omega) (show (h41 238 73) ≤ (h41 238 2) by omega) (show (h41 238 119) ≤ (h41 238 67) by omega) (show (h41 238 69) ≤ (h41 238 5) by omega) (show (h41 238 2) ≤ 12 * (h41 238 5) by omega)
  ·
    refine wi_aload_n (i := 0) (x := 236) (nx := 36) (r1 := 0) (r2 := 0) (r3 := 0) rfl rfl ?_
    refine wr_gr (k0 := 236) (x := 238) (nx := 39) (r1 := 11) (r2 := 13) (r3 := 0) rfl rfl (by decide) rfl ⟨rfl, rfl⟩ rfl ?_
    refine wi_bipush (n := 74) (nx := 41) (r1 := 0) (r2 := 0) (r3 := 0) rfl (by decide) ?_
    refine wi_bipush (n := 6) (nx := 43) (r1 := 0) (r2 := 0) (r3 := 0) rfl (by decide) ?_
    refine wi_iload_n (i := 1) (e := 0) (nx := 44) (r1 := 0) (r2 := 0) (r3 := 0) rfl rfl ?_
    refine wr_mulL (0) (nx := 45) (r1 := 0) (r2 := 0) (r3 := 0) rfl (by decide) ?_
    refine wr_addL (74) (nx := 46) (r1 := 0) (r2 := 0) (r3 := 0) rfl (by decide) ?_
    refine wi_iload_n (i := 3) (e := x20) (nx := 47) (r1 := 0) (r2 := 0) (r3 := 0) rfl rfl ?_
    refine wr_add (nx := 48) (r1 := 0) (r2 := 0) (r3 := 0) rfl (fun e24 (fe24 : e24 = 74 + x20) => ?_)
    refine wi_aload_n (i := 0) (x := 236) (nx := 49) (r1 := 0) (r2 := 0) (r3 := 0) rfl rfl ?_
    refine wr_gr (k0 := 236) (x := 238) (nx := 52) (r1 := 11) (r2 := 13) (r3 := 0) rfl rfl (by decide) rfl ⟨rfl, rfl⟩ rfl ?_
    refine wi_bipush (n := 74) (nx := 54) (r1 := 0) (r2 := 0) (r3 := 0) rfl (by decide) ?_
    refine wi_bipush (n := 6) (nx := 56) (r1 := 0) (r2 := 0) (r3 := 0) rfl (by decide) ?_
    refine wi_iload_n (i := 1) (e := 0) (nx := 57) (r1 := 0) (r2 := 0) (r3 := 0) rfl rfl ?_
    refine wr_mulL (0) (nx := 58) (r1 := 0) (r2 := 0) (r3 := 0) rfl (by decide) ?_
    refine wr_addL (74) (nx := 59) (r1 := 0) (r2 := 0) (r3 := 0) rfl (by decide) ?_
    refine wi_iload_n (i := 3) (e := x20) (nx := 60) (r1 := 0) (r2 := 0) (r3 := 0) rfl rfl ?_
    refine wr_add (nx := 61) (r1 := 0) (r2 := 0) (r3 := 0) rfl (fun e25 (fe25 : e25 = 74 + x20) => ?_)
    refine wi_iconst (n := 1) (nx := 62) (r1 := 0) (r2 := 0) (r3 := 0) rfl ?_
    refine wr_add (nx := 63) (r1 := 0) (r2 := 0) (r3 := 0) rfl (fun e26 (fe26 : e26 = e25 + 1) => ?_)
    obtain ⟨i27, ei27⟩ : ∃ q : Nat, e26 = (q : Int) := ⟨(e26).toNat, by omega⟩
    have b28 := gi_b (lo := 0) (hi := 11) g21 238 i27 (gi_rg 75 5 (fun _ => rfl) (by decide +kernel) (by omega))
    refine wr_ia (k0 := 238) (a := e26) (f := i27) (x := h21 238 i27) (nx := 64) (r1 := 0) (r2 := 0) (r3 := 0) rfl (by decide) rfl (by omega) (by omega) (by decide) rfl ?_
    obtain ⟨i29, ei29⟩ : ∃ q : Nat, e24 = (q : Int) := ⟨(e24).toNat, by omega⟩
    refine wr_is (k0 := 238) (a := e24) (f := i29) (x := h21 238 i27) (bl := 0) (bh := 11) (nx := 65) (r1 := 0) (r2 := 0) (r3 := 0) rfl (by decide) rfl (by omega) (by omega) (by decide) g21 (gi_rg 74 5 (fun _ => rfl) (by decide +kernel) (by omega)) (by omega) (fun h30 g30 w30 u30 => ?_)
    have F31 := F22.then rfl (FR.idx (p := 74) (q := 78) u30 (by omega))
    have F32 := u21.then rfl (FR.idx (p := 74) (q := 78) u30 (by omega))
    refine wr_iinc (i := 3) (n := 1) (v := x20) (fun e33 => [(3, vi e33), (0, .ref 236), (1, vi 0), (2, vi (h 238 74))]) (nx := 68) (r1 := 0) (r2 := 0) (r3 := 0) rfl rfl (fun _ => rfl) (fun e33 (fe33 : e33 = x20 + 1) => ?_)
    refine wi_goto (nx := 71) (r1 := 22) (r2 := 0) (r3 := 0) rfl ?_
    refine wp.lo (lo := [(0, .ref 236), (1, vi 0), (2, vi (h 238 74)), (3, vi e33)]) ⟨rfl, rfl, rfl, rfl, trivial⟩ rfl ?_
    exact I21 e33 h30 ⟨g30, F31, F32, (show (0 ≤ e33 ∧ e33 ≤ 5) by omega)⟩ (show ((5 : Int) + 1 - e33).toNat < ((5 : Int) + 1 - x20).toNat by omega)
-- method 282: Model.leaves(I)I
set_option maxHeartbeats 100000000 in
theorem ct_282_236_L1 {L : Nat} {xs : Nat → Int32} {d b c : Nat} {h : hp} {cr : Nat → Nat → Option Nat} {Q : hp_Q} (hcr : CR cr)  (g : GI h)   (pp0 : h 238 98 + h 238 99 + h 238 100 + h 238 101 + h 238 102 + h 238 106 = h 238 73) (pp1 : h 238 73 ≤ h 238 2) (pp2 : h 238 119 ≤ h 238 67) (pp3 : h 238 69 ≤ h 238 5) (pp4 : h 238 2 ≤ 12 * h 238 5) (pp5 : 1 ≤ h 238 99) (pp6 : h 238 67 ≤ 9998) (pp7 : h 238 102 ≤ 2 ∨ h 238 (43 + (h 238 80).toNat) ≤ 0) (k : ∀ (h2 : hp) (z0 : Int) , GI h2 → FR [(238, 238, some (43, 54)), (238, 238, some (55, 66)), (238, 238, some (67, 67)), (238, 238, some (68, 68)), (238, 238, some (69, 69)), (238, 238, some (70, 70)), (238, 238, some (71, 71)), (238, 238, some (72, 72)), (238, 238, some (80, 84)), (238, 238, some (99, 99)), (238, 238, some (102, 102)), (238, 238, some (103, 105)), (238, 238, some (106, 106)), (238, 238, some (107, 118)), (238, 238, some (119, 119)), (238, 238, some (120, 196)), (238, 238, some (121, 197)), (238, 238, some (122, 198)), (238, 238, some (123, 199))] h h2 → (0 ≤ z0 ∧ z0 ≤ 11) → (h2 238 98 + h2 238 99 + h2 238 100 + h2 238 101 + h2 238 102 + h2 238 106 = h2 238 73) → (h2 238 73 ≤ h2 238 2) → (h2 238 119 ≤ h2 238 67) → (h2 238 69 ≤ h2 238 5) → (h2 238 2 ≤ 12 * h2 238 5) → Q (.inl (some (vi z0))) (hp_w h2 cr) b c) : wp (md_xa (L, xs)) (d + 2) 282 (0, [(0, .ref 236), (1, vi 1)], [], hp_w h cr, b, c) Q := by
  have F0 : FR [(238, 238, some (43, 54)), (238, 238, some (55, 66)), (238, 238, some (67, 67)), (238, 238, some (68, 68)), (238, 238, some (69, 69)), (238, 238, some (70, 70)), (238, 238, some (71, 71)), (238, 238, some (72, 72)), (238, 238, some (80, 84)), (238, 238, some (99, 99)), (238, 238, some (102, 102)), (238, 238, some (103, 105)), (238, 238, some (106, 106)), (238, 238, some (107, 118)), (238, 238, some (119, 119)), (238, 238, some (120, 196)), (238, 238, some (121, 197)), (238, 238, some (122, 198)), (238, 238, some (123, 199))] h h := FR.refl
  have b1 := gi_b (lo := 0) (hi := 6) g 238 98 rfl
  have b2 := gi_b (lo := 0) (hi := 6) g 238 99 rfl
  have b3 := gi_b (lo := 0) (hi := 6) g 238 100 rfl
  have b4 := gi_b (lo := 0) (hi := 6) g 238 101 rfl
  have b5 := gi_b (lo := 0) (hi := 3) g 238 102 rfl
  have b6 := gi_b (lo := 0) (hi := 12) g 238 106 rfl
  have b7 := gi_b (lo := 0) (hi := 12) g 238 73 rfl
  have b8 := gi_b (lo := 0) (hi := 12) g 238 2 rfl
  have b9 := gi_b (lo := 0) (hi := 9999) g 238 119 rfl
  have b10 := gi_b (lo := 0) (hi := 9999) g 238 67 rfl
  have b11 := gi_b (lo := 0) (hi := 9) g 238 69 rfl
  have b12 := gi_b (lo := 0) (hi := 9) g 238 5 rfl
  have b13 := gi_b (lo := 0) (hi := 11) g 238 80 rfl
  obtain ⟨i14, ei14⟩ : ∃ q : Nat, (43 + h 238 80) = (q : Int) := ⟨(43 + h 238 80).toNat, by omega⟩
  have b15 := gi_b (lo := 0) (hi := 999) g 238 i14 (gi_rg 43 12 (fun _ => rfl) (by decide +kernel) (by omega))
  have e16 : h 238 (43 + (h 238 80).toNat) = h 238 i14 := by rw [show 43 + (h 238 80).toNat = i14 by omega]
  refine wi_aload_n (i := 0) (x := 236) (nx := 1) (r1 := 0) (r2 := 0) (r3 := 0) rfl rfl ?_
  refine wi_iload_n (i := 1) (e := 1) (nx := 2) (r1 := 0) (r2 := 0) (r3 := 0) rfl rfl ?_
  refine wi_iconst (n := 0) (nx := 3) (r1 := 0) (r2 := 0) (r3 := 0) rfl ?_
  refine wr_V (k0 := 236) (rest := []) (as := [.ref 236, vi 1, vi 0]) (nx := 6) (r1 := 258) (r2 := 2) (r3 := 11) rfl rfl rfl (of_decide_eq_true rfl) rfl rfl (by decide) rfl rfl (of_decide_eq_true rfl) (of_decide_eq_true rfl) ?_
  refine wi_aload_n (i := 0) (x := 236) (nx := 1) (r1 := 0) (r2 := 0) (r3 := 0) rfl rfl ?_
  refine wr_gr (k0 := 236) (x := 238) (nx := 4) (r1 := 11) (r2 := 13) (r3 := 0) rfl rfl (by decide) rfl ⟨rfl, rfl⟩ rfl ?_
  refine wi_bipush (n := 74) (nx := 6) (r1 := 0) (r2 := 0) (r3 := 0) rfl (by decide) ?_
  refine wi_bipush (n := 6) (nx := 8) (r1 := 0) (r2 := 0) (r3 := 0) rfl (by decide) ?_
  refine wi_iload_n (i := 1) (e := 1) (nx := 9) (r1 := 0) (r2 := 0) (r3 := 0) rfl rfl ?_
  refine wr_mulL (6) (nx := 10) (r1 := 0) (r2 := 0) (r3 := 0) rfl (by decide) ?_
  refine wr_addL (80) (nx := 11) (r1 := 0) (r2 := 0) (r3 := 0) rfl (by decide) ?_
  refine wi_iload_n (i := 2) (e := 0) (nx := 12) (r1 := 0) (r2 := 0) (r3 := 0) rfl rfl ?_
  refine wr_addL (80) (nx := 13) (r1 := 0) (r2 := 0) (r3 := 0) rfl (by decide) ?_
  refine wr_ia (k0 := 238) (a := 80) (f := 80) (x := h 238 80) (nx := 14) (r1 := 0) (r2 := 0) (r3 := 0) rfl (by decide) rfl (by omega) (by omega) (by decide) rfl ?_
  refine wi_ireturn (nx := 15) (r1 := 0) (r2 := 0) (r3 := 0) rfl rfl ?_
  refine wk_i ?_
  refine wi_istore_n (i := 2) (e := h 238 80) (lo2 := [(2, vi (h 238 80)), (0, .ref 236), (1, vi 1)]) (nx := 7) (r1 := 0) (r2 := 0) (r3 := 0) rfl rfl ?_
  refine wi_aload_n (i := 0) (x := 236) (nx := 8) (r1 := 0) (r2 := 0) (r3 := 0) rfl rfl ?_
  refine wr_gr (k0 := 236) (x := 238) (nx := 11) (r1 := 11) (r2 := 13) (r3 := 0) rfl rfl (by decide) rfl ⟨rfl, rfl⟩ rfl ?_
  refine wi_bipush (n := 98) (nx := 13) (r1 := 0) (r2 := 0) (r3 := 0) rfl (by decide) ?_
  refine wi_iload_n (i := 1) (e := 1) (nx := 14) (r1 := 0) (r2 := 0) (r3 := 0) rfl rfl ?_
  refine wr_addL (99) (nx := 15) (r1 := 0) (r2 := 0) (r3 := 0) rfl (by decide) ?_
  refine wi_dup2 (nx := 16) (r1 := 0) (r2 := 0) (r3 := 0) rfl rfl rfl ?_
  refine wr_ia (k0 := 238) (a := 99) (f := 99) (x := h 238 99) (nx := 17) (r1 := 0) (r2 := 0) (r3 := 0) rfl (by decide) rfl (by omega) (by omega) (by decide) rfl ?_
  refine wi_iconst (n := 1) (nx := 18) (r1 := 0) (r2 := 0) (r3 := 0) rfl ?_
  refine wr_sub (nx := 19) (r1 := 0) (r2 := 0) (r3 := 0) rfl (fun e17 (fe17 : e17 = (h 238 99) - 1) => ?_)
  refine wr_is (k0 := 238) (a := 99) (f := 99) (x := e17) (bl := 0) (bh := 6) (nx := 20) (r1 := 0) (r2 := 0) (r3 := 0) rfl (by decide) rfl (by omega) (by omega) (by decide) g rfl (by omega) (fun h18 g18 w18 u18 => ?_)
  have F19 := F0.then rfl u18
  refine wi_iconst (n := 0) (nx := 21) (r1 := 0) (r2 := 0) (r3 := 0) rfl ?_
  refine wi_istore_n (i := 3) (e := 0) (lo2 := [(3, vi 0), (2, vi (h 238 80)), (0, .ref 236), (1, vi 1)]) (nx := 22) (r1 := 0) (r2 := 0) (r3 := 0) rfl rfl ?_
  refine wp.lo (lo := [(0, .ref 236), (1, vi 1), (2, vi (h 238 80)), (3, vi 0)]) ⟨rfl, rfl, rfl, rfl, trivial⟩ rfl ?_
  refine wl_1 (fun x20 h21 => GI h21 ∧ FR [(238, 238, some (43, 54)), (238, 238, some (55, 66)), (238, 238, some (67, 67)), (238, 238, some (68, 68)), (238, 238, some (69, 69)), (238, 238, some (70, 70)), (238, 238, some (71, 71)), (238, 238, some (72, 72)), (238, 238, some (80, 84)), (238, 238, some (99, 99)), (238, 238, some (102, 102)), (238, 238, some (103, 105)), (238, 238, some (106, 106)), (238, 238, some (107, 118)), (238, 238, some (119, 119)), (238, 238, some (120, 196)), (238, 238, some (121, 197)), (238, 238, some (122, 198)), (238, 238, some (123, 199))] h h21 ∧ FR [(238, 238, some (80, 84))] h18 h21 ∧ ((0 ≤ x20 ∧ x20 ≤ 5))) (fun x20 h21 => ((5 : Int) + 1 - x20).toNat) (fun x20 h21 => (22, [(0, .ref 236), (1, vi 1), (2, vi (h 238 80)), (3, vi x20)], [], hp_w h21 cr, b, c)) ?_ 0 h18 ⟨g18, F19, FR.refl, (show (0 ≤ 0 ∧ 0 ≤ 5) by omega)⟩
  intro x20 h21 ⟨g21, F22, u21, f21⟩ I21
  refine wi_iload_n (i := 3) (e := x20) (nx := 23) (r1 := 0) (r2 := 0) (r3 := 0) rfl rfl ?_
  refine wi_aload_n (i := 0) (x := 236) (nx := 24) (r1 := 0) (r2 := 0) (r3 := 0) rfl rfl ?_
  refine wr_gr (k0 := 236) (x := 238) (nx := 27) (r1 := 11) (r2 := 13) (r3 := 0) rfl rfl (by decide) rfl ⟨rfl, rfl⟩ rfl ?_
  refine wi_bipush (n := 98) (nx := 29) (r1 := 0) (r2 := 0) (r3 := 0) rfl (by decide) ?_
  refine wi_iload_n (i := 1) (e := 1) (nx := 30) (r1 := 0) (r2 := 0) (r3 := 0) rfl rfl ?_
  refine wr_addL (99) (nx := 31) (r1 := 0) (r2 := 0) (r3 := 0) rfl (by decide) ?_
  refine wr_ia (k0 := 238) (a := 99) (f := 99) (x := e17) (nx := 32) (r1 := 0) (r2 := 0) (r3 := 0) rfl (by decide) rfl (by omega) (by omega) (by decide) ((u21 238 99 rfl).trans w18) ?_
  refine wi_icmp (cd := .ge) (nx := 35) (r1 := 71) (r2 := 0) (r3 := 0) rfl (by omega) (by omega) (fun (q23 : e17 ≤ x20) => ?_) (fun (q23 : ¬ (e17 ≤ x20)) => ?_)
  ·
    refine wi_aload_n (i := 0) (x := 236) (nx := 72) (r1 := 0) (r2 := 0) (r3 := 0) rfl rfl ?_
    refine wi_iload_n (i := 2) (e := h 238 80) (nx := 73) (r1 := 0) (r2 := 0) (r3 := 0) rfl rfl ?_
    refine wr_V (k0 := 236) (rest := []) (as := [.ref 236, vi (h 238 80)]) (nx := 76) (r1 := 283) (r2 := 1) (r3 := 11) rfl rfl rfl (of_decide_eq_true rfl) rfl rfl (by decide) rfl rfl (of_decide_eq_true rfl) (of_decide_eq_true rfl) ?_
    have e25 : h21 238 67 = h 238 67 := ((u21 238 67 rfl).trans (u18 238 67 rfl))
    have e26 : h21 238 119 = h 238 119 := ((u21 238 119 rfl).trans (u18 238 119 rfl))
    have e27 : h21 238 69 = h 238 69 := ((u21 238 69 rfl).trans (u18 238 69 rfl))
    have e28 : h21 238 5 = h 238 5 := ((u21 238 5 rfl).trans (u18 238 5 rfl))
    refine ct_283_236 hcr  g21 (h 238 80) (by omega) (show (h21 238 67) ≤ 9998 by omega) (show (h21 238 119) ≤ (h21 238 67) by omega) (show (h21 238 69) ≤ (h21 238 5) by omega) (show 1 ≤ (h21 238 5) by omega) (fun h24 g24 u24 (p24_0 : (h24 238 119) ≤ (h24 238 67)) (p24_1 : (h24 238 69) ≤ (h24 238 5)) => ?_)
    have F29 := F22.then (by decide +kernel) u24
    have b30 := gi_b (lo := 0) (hi := 9999) g24 238 119 rfl
    have b31 := gi_b (lo := 0) (hi := 9999) g24 238 67 rfl
    have b32 := gi_b (lo := 0) (hi := 9) g24 238 69 rfl
    have e33 : h24 238 5 = h 238 5 := ((u24 238 5 rfl).trans ((u21 238 5 rfl).trans (u18 238 5 rfl)))
    refine wk_n ?_
    refine wi_aload_n (i := 0) (x := 236) (nx := 77) (r1 := 0) (r2 := 0) (r3 := 0) rfl rfl ?_
    refine wr_gr (k0 := 236) (x := 238) (nx := 80) (r1 := 11) (r2 := 13) (r3 := 0) rfl rfl (by decide) rfl ⟨rfl, rfl⟩ rfl ?_
    refine wi_bipush (n := 43) (nx := 82) (r1 := 0) (r2 := 0) (r3 := 0) rfl (by decide) ?_
    refine wi_iload_n (i := 2) (e := h 238 80) (nx := 83) (r1 := 0) (r2 := 0) (r3 := 0) rfl rfl ?_
    refine wr_add (nx := 84) (r1 := 0) (r2 := 0) (r3 := 0) rfl (fun e34 (fe34 : e34 = 43 + (h 238 80)) => ?_)
    refine wr_ia (k0 := 238) (a := e34) (f := i14) (x := h 238 i14) (nx := 85) (r1 := 0) (r2 := 0) (r3 := 0) rfl (by decide) rfl (by omega) (by omega) (by decide) ((u24 238 i14 (fn_i (by omega) (fn_i (by omega) (fn_i (by omega) (fn_i (by omega) (fn_i (by omega) (fn_i (by omega) (fn_i (by omega) (fn_i (by omega) (fn_i (by omega) (fn_i (by omega) (fn_i (by omega) fn_0)))))))))))).trans ((u21 238 i14 (fn_i (by omega) fn_0)).trans (u18 238 i14 (fn_i (by omega) fn_0)))) ?_
    refine wi_if (cd := .ne) (nx := 88) (r1 := 117) (r2 := 0) (r3 := 0) rfl (by omega) (fun (q35 : (h 238 i14) ≠ 0) => ?_) (fun (q35 : ¬ ((h 238 i14) ≠ 0)) => ?_)
    ·
      refine wi_aload_n (i := 0) (x := 236) (nx := 118) (r1 := 0) (r2 := 0) (r3 := 0) rfl rfl ?_
      refine wr_gr (k0 := 236) (x := 238) (nx := 121) (r1 := 11) (r2 := 13) (r3 := 0) rfl rfl (by decide) rfl ⟨rfl, rfl⟩ rfl ?_
      refine wi_bipush (n := 43) (nx := 123) (r1 := 0) (r2 := 0) (r3 := 0) rfl (by decide) ?_
      refine wi_iload_n (i := 2) (e := h 238 80) (nx := 124) (r1 := 0) (r2 := 0) (r3 := 0) rfl rfl ?_
      refine wr_add (nx := 125) (r1 := 0) (r2 := 0) (r3 := 0) rfl (fun e36 (fe36 : e36 = 43 + (h 238 80)) => ?_)
      refine wi_dup2 (nx := 126) (r1 := 0) (r2 := 0) (r3 := 0) rfl rfl rfl ?_
      refine wr_ia (k0 := 238) (a := e36) (f := i14) (x := h 238 i14) (nx := 127) (r1 := 0) (r2 := 0) (r3 := 0) rfl (by decide) rfl (by omega) (by omega) (by decide) ((u24 238 i14 (fn_i (by omega) (fn_i (by omega) (fn_i (by omega) (fn_i (by omega) (fn_i (by omega) (fn_i (by omega) (fn_i (by omega) (fn_i (by omega) (fn_i (by omega) (fn_i (by omega) (fn_i (by omega) fn_0)))))))))))).trans ((u21 238 i14 (fn_i (by omega) fn_0)).trans (u18 238 i14 (fn_i (by omega) fn_0)))) ?_
      refine wi_iconst (n := 1) (nx := 128) (r1 := 0) (r2 := 0) (r3 := 0) rfl ?_
      refine wr_sub (nx := 129) (r1 := 0) (r2 := 0) (r3 := 0) rfl (fun e37 (fe37 : e37 = (h 238 i14) - 1) => ?_)
      refine wr_is (k0 := 238) (a := e36) (f := i14) (x := e37) (bl := 0) (bh := 999) (nx := 130) (r1 := 0) (r2 := 0) (r3 := 0) rfl (by decide) rfl (by omega) (by omega) (by decide) g24 (gi_rg 43 12 (fun _ => rfl) (by decide +kernel) (by omega)) (by omega) (fun h38 g38 w38 u38 => ?_)
      have F39 := F29.then rfl (FR.idx (p := 43) (q := 54) u38 (by omega))
      refine wi_aload_n (i := 0) (x := 236) (nx := 131) (r1 := 0) (r2 := 0) (r3 := 0) rfl rfl ?_
      refine wr_gr (k0 := 236) (x := 238) (nx := 134) (r1 := 11) (r2 := 13) (r3 := 0) rfl rfl (by decide) rfl ⟨rfl, rfl⟩ rfl ?_
      refine wi_bipush (n := 55) (nx := 136) (r1 := 0) (r2 := 0) (r3 := 0) rfl (by decide) ?_
      refine wi_iload_n (i := 2) (e := h 238 80) (nx := 137) (r1 := 0) (r2 := 0) (r3 := 0) rfl rfl ?_
      refine wr_add (nx := 138) (r1 := 0) (r2 := 0) (r3 := 0) rfl (fun e40 (fe40 : e40 = 55 + (h 238 80)) => ?_)
      refine wi_aload_n (i := 0) (x := 236) (nx := 139) (r1 := 0) (r2 := 0) (r3 := 0) rfl rfl ?_
      refine wr_gr (k0 := 236) (x := 238) (nx := 142) (r1 := 11) (r2 := 13) (r3 := 0) rfl rfl (by decide) rfl ⟨rfl, rfl⟩ rfl ?_
      refine wi_bipush (n := 67) (nx := 144) (r1 := 0) (r2 := 0) (r3 := 0) rfl (by decide) ?_
      refine wr_ia (k0 := 238) (a := 67) (f := 67) (x := h24 238 67) (nx := 145) (r1 := 0) (r2 := 0) (r3 := 0) rfl (by decide) rfl (by omega) (by omega) (by decide) (u38 238 67 (fn_i (by omega) fn_0)) ?_
      refine wi_aload_n (i := 0) (x := 236) (nx := 146) (r1 := 0) (r2 := 0) (r3 := 0) rfl rfl ?_
      refine wr_gr (k0 := 236) (x := 238) (nx := 149) (r1 := 11) (r2 := 13) (r3 := 0) rfl rfl (by decide) rfl ⟨rfl, rfl⟩ rfl ?_
      refine wi_bipush (n := 8) (nx := 151) (r1 := 0) (r2 := 0) (r3 := 0) rfl (by decide) ?_
      have b41 := gi_b (lo := 0) (hi := 999) g 238 8 rfl
      refine wr_ia (k0 := 238) (a := 8) (f := 8) (x := h 238 8) (nx := 152) (r1 := 0) (r2 := 0) (r3 := 0) rfl (by decide) rfl (by omega) (by omega) (by decide) ((u38 238 8 (fn_i (by omega) fn_0)).trans ((u24 238 8 rfl).trans ((u21 238 8 rfl).trans (u18 238 8 rfl)))) ?_
      refine wr_add (nx := 153) (r1 := 0) (r2 := 0) (r3 := 0) rfl (fun e42 (fe42 : e42 = (h24 238 67) + (h 238 8)) => ?_)
      obtain ⟨i43, ei43⟩ : ∃ q : Nat, e40 = (q : Int) := ⟨(e40).toNat, by omega⟩
      refine wr_is (k0 := 238) (a := e40) (f := i43) (x := e42) (bl := 0) (bh := 20000) (nx := 154) (r1 := 0) (r2 := 0) (r3 := 0) rfl (by decide) rfl (by omega) (by omega) (by decide) g38 (gi_rg 55 12 (fun _ => rfl) (by decide +kernel) (by omega)) (by omega) (fun h44 g44 w44 u44 => ?_)
      have F45 := F39.then rfl (FR.idx (p := 55) (q := 66) u44 (by omega))
      refine wi_aload_n (i := 0) (x := 236) (nx := 155) (r1 := 0) (r2 := 0) (r3 := 0) rfl rfl ?_
      refine wr_gr (k0 := 236) (x := 238) (nx := 158) (r1 := 11) (r2 := 13) (r3 := 0) rfl rfl (by decide) rfl ⟨rfl, rfl⟩ rfl ?_
      refine wi_bipush (n := 103) (nx := 160) (r1 := 0) (r2 := 0) (r3 := 0) rfl (by decide) ?_
      refine wi_aload_n (i := 0) (x := 236) (nx := 161) (r1 := 0) (r2 := 0) (r3 := 0) rfl rfl ?_
      refine wr_gr (k0 := 236) (x := 238) (nx := 164) (r1 := 11) (r2 := 13) (r3 := 0) rfl rfl (by decide) rfl ⟨rfl, rfl⟩ rfl ?_
      refine wi_bipush (n := 102) (nx := 166) (r1 := 0) (r2 := 0) (r3 := 0) rfl (by decide) ?_
      refine wr_ia (k0 := 238) (a := 102) (f := 102) (x := h 238 102) (nx := 167) (r1 := 0) (r2 := 0) (r3 := 0) rfl (by decide) rfl (by omega) (by omega) (by decide) ((u44 238 102 (fn_i (by omega) fn_0)).trans ((u38 238 102 (fn_i (by omega) fn_0)).trans ((u24 238 102 rfl).trans ((u21 238 102 rfl).trans (u18 238 102 rfl))))) ?_
      refine wr_add (nx := 168) (r1 := 0) (r2 := 0) (r3 := 0) rfl (fun e46 (fe46 : e46 = 103 + (h 238 102)) => ?_)
      refine wi_iload_n (i := 2) (e := h 238 80) (nx := 169) (r1 := 0) (r2 := 0) (r3 := 0) rfl rfl ?_
      obtain ⟨i47, ei47⟩ : ∃ q : Nat, e46 = (q : Int) := ⟨(e46).toNat, by omega⟩
      refine wr_is (k0 := 238) (a := e46) (f := i47) (x := h 238 80) (bl := 0) (bh := 11) (nx := 170) (r1 := 0) (r2 := 0) (r3 := 0) rfl (by decide) rfl (by omega) (by omega) (by decide) g44 (gi_rg 103 3 (fun _ => rfl) (by decide +kernel) (by omega)) (by omega) (fun h48 g48 w48 u48 => ?_)
      have F49 := F45.then rfl (FR.idx (p := 103) (q := 105) u48 (by omega))
      refine wi_aload_n (i := 0) (x := 236) (nx := 171) (r1 := 0) (r2 := 0) (r3 := 0) rfl rfl ?_
      refine wr_gr (k0 := 236) (x := 238) (nx := 174) (r1 := 11) (r2 := 13) (r3 := 0) rfl rfl (by decide) rfl ⟨rfl, rfl⟩ rfl ?_
      refine wi_bipush (n := 102) (nx := 176) (r1 := 0) (r2 := 0) (r3 := 0) rfl (by decide) ?_
      refine wi_dup2 (nx := 177) (r1 := 0) (r2 := 0) (r3 := 0) rfl rfl rfl ?_
      refine wr_ia (k0 := 238) (a := 102) (f := 102) (x := h 238 102) (nx := 178) (r1 := 0) (r2 := 0) (r3 := 0) rfl (by decide) rfl (by omega) (by omega) (by decide) ((u48 238 102 (fn_i (by omega) fn_0)).trans ((u44 238 102 (fn_i (by omega) fn_0)).trans ((u38 238 102 (fn_i (by omega) fn_0)).trans ((u24 238 102 rfl).trans ((u21 238 102 rfl).trans (u18 238 102 rfl)))))) ?_
      refine wi_iconst (n := 1) (nx := 179) (r1 := 0) (r2 := 0) (r3 := 0) rfl ?_
      refine wr_add (nx := 180) (r1 := 0) (r2 := 0) (r3 := 0) rfl (fun e50 (fe50 : e50 = (h 238 102) + 1) => ?_)
      refine wr_is (k0 := 238) (a := 102) (f := 102) (x := e50) (bl := 0) (bh := 3) (nx := 181) (r1 := 0) (r2 := 0) (r3 := 0) rfl (by decide) rfl (by omega) (by omega) (by decide) g48 rfl (by omega) (fun h51 g51 w51 u51 => ?_)
      have F52 := F49.then rfl u51
      refine wi_iload_n (i := 2) (e := h 238 80) (nx := 182) (r1 := 0) (r2 := 0) (r3 := 0) rfl rfl ?_
      refine wi_ireturn (nx := 183) (r1 := 0) (r2 := 0) (r3 := 0) rfl rfl ?_
      have e53 : h51 238 98 = h 238 98 := ((u51 238 98 rfl).trans ((u48 238 98 (fn_i (by omega) fn_0)).trans ((u44 238 98 (fn_i (by omega) fn_0)).trans ((u38 238 98 (fn_i (by omega) fn_0)).trans ((u24 238 98 rfl).trans ((u21 238 98 rfl).trans (u18 238 98 rfl)))))))
      have e54 : h51 238 99 = e17 := ((u51 238 99 rfl).trans ((u48 238 99 (fn_i (by omega) fn_0)).trans ((u44 238 99 (fn_i (by omega) fn_0)).trans ((u38 238 99 (fn_i (by omega) fn_0)).trans ((u24 238 99 rfl).trans ((u21 238 99 rfl).trans w18))))))
      have e55 : h51 238 100 = h 238 100 := ((u51 238 100 rfl).trans ((u48 238 100 (fn_i (by omega) fn_0)).trans ((u44 238 100 (fn_i (by omega) fn_0)).trans ((u38 238 100 (fn_i (by omega) fn_0)).trans ((u24 238 100 rfl).trans ((u21 238 100 rfl).trans (u18 238 100 rfl)))))))
      have e56 : h51 238 101 = h 238 101 := ((u51 238 101 rfl).trans ((u48 238 101 (fn_i (by omega) fn_0)).trans ((u44 238 101 (fn_i (by omega) fn_0)).trans ((u38 238 101 (fn_i (by omega) fn_0)).trans ((u24 238 101 rfl).trans ((u21 238 101 rfl).trans (u18 238 101 rfl)))))))
      have e57 : h51 238 102 = e50 := w51
      have e58 : h51 238 106 = h 238 106 := ((u51 238 106 rfl).trans ((u48 238 106 (fn_i (by omega) fn_0)).trans ((u44 238 106 (fn_i (by omega) fn_0)).trans ((u38 238 106 (fn_i (by omega) fn_0)).trans ((u24 238 106 rfl).trans ((u21 238 106 rfl).trans (u18 238 106 rfl)))))))
      have e59 : h51 238 73 = h 238 73 := ((u51 238 73 rfl).trans ((u48 238 73 (fn_i (by omega) fn_0)).trans ((u44 238 73 (fn_i (by omega) fn_0)).trans ((u38 238 73 (fn_i (by omega) fn_0)).trans ((u24 238 73 rfl).trans ((u21 238 73 rfl).trans (u18 238 73 rfl)))))))
      have e60 : h51 238 2 = h 238 2 := ((u51 238 2 rfl).trans ((u48 238 2 (fn_i (by omega) fn_0)).trans ((u44 238 2 (fn_i (by omega) fn_0)).trans ((u38 238 2 (fn_i (by omega) fn_0)).trans ((u24 238 2 rfl).trans ((u21 238 2 rfl).trans (u18 238 2 rfl)))))))
      have e61 : h51 238 119 = h24 238 119 := ((u51 238 119 rfl).trans ((u48 238 119 (fn_i (by omega) fn_0)).trans ((u44 238 119 (fn_i (by omega) fn_0)).trans (u38 238 119 (fn_i (by omega) fn_0)))))
      have e62 : h51 238 67 = h24 238 67 := ((u51 238 67 rfl).trans ((u48 238 67 (fn_i (by omega) fn_0)).trans ((u44 238 67 (fn_i (by omega) fn_0)).trans (u38 238 67 (fn_i (by omega) fn_0)))))
      have e63 : h51 238 69 = h24 238 69 := ((u51 238 69 rfl).trans ((u48 238 69 (fn_i (by omega) fn_0)).trans ((u44 238 69 (fn_i (by omega) fn_0)).trans (u38 238 69 (fn_i (by omega) fn_0)))))
      have e64 : h51 238 5 = h 238 5 := ((u51 238 5 rfl).trans ((u48 238 5 (fn_i (by omega) fn_0)).trans ((u44 238 5 (fn_i (by omega) fn_0)).trans ((u38 238 5 (fn_i (by omega) fn_0)).trans ((u24 238 5 rfl).trans ((u21 238 5 rfl).trans (u18 238 5 rfl)))))))
      exact k h51 (h 238 80) g51 F52 (by omega) (show (h51 238 98) + (h51 238 99) + (h51 238 100) + (h51 238 101) + (h51 238 102) + (h51 238 106) = (h51 238 73) by omega) (show (h51 238 73) ≤ (h51 238 2) by omega) (show (h51 238 119) ≤ (h51 238 67) by omega) (show (h51 238 69) ≤ (h51 238 5) by omega) (show (h51 238 2) ≤ 12 * (h51 238 5) by omega)
    ·
      refine wi_aload_n (i := 0) (x := 236) (nx := 89) (r1 := 0) (r2 := 0) (r3 := 0) rfl rfl ?_
      refine wr_gr (k0 := 236) (x := 238) (nx := 92) (r1 := 11) (r2 := 13) (r3 := 0) rfl rfl (by decide) rfl ⟨rfl, rfl⟩ rfl ?_
      refine wi_bipush (n := 107) (nx := 94) (r1 := 0) (r2 := 0) (r3 := 0) rfl (by decide) ?_
      refine wi_aload_n (i := 0) (x := 236) (nx := 95) (r1 := 0) (r2 := 0) (r3 := 0) rfl rfl ?_
      refine wr_gr (k0 := 236) (x := 238) (nx := 98) (r1 := 11) (r2 := 13) (r3 := 0) rfl rfl (by decide) rfl ⟨rfl, rfl⟩ rfl ?_
      refine wi_bipush (n := 106) (nx := 100) (r1 := 0) (r2 := 0) (r3 := 0) rfl (by decide) ?_
      refine wr_ia (k0 := 238) (a := 106) (f := 106) (x := h 238 106) (nx := 101) (r1 := 0) (r2 := 0) (r3 := 0) rfl (by decide) rfl (by omega) (by omega) (by decide) ((u24 238 106 rfl).trans ((u21 238 106 rfl).trans (u18 238 106 rfl))) ?_
      refine wr_add (nx := 102) (r1 := 0) (r2 := 0) (r3 := 0) rfl (fun e36 (fe36 : e36 = 107 + (h 238 106)) => ?_)
      refine wi_iload_n (i := 2) (e := h 238 80) (nx := 103) (r1 := 0) (r2 := 0) (r3 := 0) rfl rfl ?_
      obtain ⟨i37, ei37⟩ : ∃ q : Nat, e36 = (q : Int) := ⟨(e36).toNat, by omega⟩
      refine wr_is (k0 := 238) (a := e36) (f := i37) (x := h 238 80) (bl := 0) (bh := 11) (nx := 104) (r1 := 0) (r2 := 0) (r3 := 0) rfl (by decide) rfl (by omega) (by omega) (by decide) g24 (gi_rg 107 12 (fun _ => rfl) (by decide +kernel) (by omega)) (by omega) (fun h38 g38 w38 u38 => ?_)
      have F39 := F29.then rfl (FR.idx (p := 107) (q := 118) u38 (by omega))
      refine wi_aload_n (i := 0) (x := 236) (nx := 105) (r1 := 0) (r2 := 0) (r3 := 0) rfl rfl ?_
      refine wr_gr (k0 := 236) (x := 238) (nx := 108) (r1 := 11) (r2 := 13) (r3 := 0) rfl rfl (by decide) rfl ⟨rfl, rfl⟩ rfl ?_
      refine wi_bipush (n := 106) (nx := 110) (r1 := 0) (r2 := 0) (r3 := 0) rfl (by decide) ?_
      refine wi_dup2 (nx := 111) (r1 := 0) (r2 := 0) (r3 := 0) rfl rfl rfl ?_
      refine wr_ia (k0 := 238) (a := 106) (f := 106) (x := h 238 106) (nx := 112) (r1 := 0) (r2 := 0) (r3 := 0) rfl (by decide) rfl (by omega) (by omega) (by decide) ((u38 238 106 (fn_i (by omega) fn_0)).trans ((u24 238 106 rfl).trans ((u21 238 106 rfl).trans (u18 238 106 rfl)))) ?_
      refine wi_iconst (n := 1) (nx := 113) (r1 := 0) (r2 := 0) (r3 := 0) rfl ?_
      refine wr_add (nx := 114) (r1 := 0) (r2 := 0) (r3 := 0) rfl (fun e40 (fe40 : e40 = (h 238 106) + 1) => ?_)
      refine wr_is (k0 := 238) (a := 106) (f := 106) (x := e40) (bl := 0) (bh := 12) (nx := 115) (r1 := 0) (r2 := 0) (r3 := 0) rfl (by decide) rfl (by omega) (by omega) (by decide) g38 rfl (by omega) (fun h41 g41 w41 u41 => ?_)
      have F42 := F39.then rfl u41
      refine wi_iload_n (i := 2) (e := h 238 80) (nx := 116) (r1 := 0) (r2 := 0) (r3 := 0) rfl rfl ?_
      refine wi_ireturn (nx := 117) (r1 := 0) (r2 := 0) (r3 := 0) rfl rfl ?_
      have e43 : h41 238 98 = h 238 98 := ((u41 238 98 rfl).trans ((u38 238 98 (fn_i (by omega) fn_0)).trans ((u24 238 98 rfl).trans ((u21 238 98 rfl).trans (u18 238 98 rfl)))))
      have e44 : h41 238 99 = e17 := ((u41 238 99 rfl).trans ((u38 238 99 (fn_i (by omega) fn_0)).trans ((u24 238 99 rfl).trans ((u21 238 99 rfl).trans w18))))
      have e45 : h41 238 100 = h 238 100 := ((u41 238 100 rfl).trans ((u38 238 100 (fn_i (by omega) fn_0)).trans ((u24 238 100 rfl).trans ((u21 238 100 rfl).trans (u18 238 100 rfl)))))
      have e46 : h41 238 101 = h 238 101 := ((u41 238 101 rfl).trans ((u38 238 101 (fn_i (by omega) fn_0)).trans ((u24 238 101 rfl).trans ((u21 238 101 rfl).trans (u18 238 101 rfl)))))
      have e47 : h41 238 102 = h 238 102 := ((u41 238 102 rfl).trans ((u38 238 102 (fn_i (by omega) fn_0)).trans ((u24 238 102 rfl).trans ((u21 238 102 rfl).trans (u18 238 102 rfl)))))
      have e48 : h41 238 106 = e40 := w41
      have e49 : h41 238 73 = h 238 73 := ((u41 238 73 rfl).trans ((u38 238 73 (fn_i (by omega) fn_0)).trans ((u24 238 73 rfl).trans ((u21 238 73 rfl).trans (u18 238 73 rfl)))))
      have e50 : h41 238 2 = h 238 2 := ((u41 238 2 rfl).trans ((u38 238 2 (fn_i (by omega) fn_0)).trans ((u24 238 2 rfl).trans ((u21 238 2 rfl).trans (u18 238 2 rfl)))))
      have e51 : h41 238 119 = h24 238 119 := ((u41 238 119 rfl).trans (u38 238 119 (fn_i (by omega) fn_0)))
      have e52 : h41 238 67 = h24 238 67 := ((u41 238 67 rfl).trans (u38 238 67 (fn_i (by omega) fn_0)))
      have e53 : h41 238 69 = h24 238 69 := ((u41 238 69 rfl).trans (u38 238 69 (fn_i (by omega) fn_0)))
      have e54 : h41 238 5 = h 238 5 := ((u41 238 5 rfl).trans ((u38 238 5 (fn_i (by omega) fn_0)).trans ((u24 238 5 rfl).trans ((u21 238 5 rfl).trans (u18 238 5 rfl)))))
      exact k h41 (h 238 80) g41 F42 (by omega) (show (h41 238 98) + (h41 238 99) + (h41 238 100) + (h41 238 101) + (h41 238 102) + (h41 238 106) = (h41 238 73) by omega) (show (h41 238 73) ≤ (h41 238 2) by omega) (show (h41 238 119) ≤ (h41 238 67) by omega) (show (h41 238 69) ≤ (h41 238 5) by omega) (show (h41 238 2) ≤ 12 * (h41 238 5) by omega)
  ·
    refine wi_aload_n (i := 0) (x := 236) (nx := 36) (r1 := 0) (r2 := 0) (r3 := 0) rfl rfl ?_
    refine wr_gr (k0 := 236) (x := 238) (nx := 39) (r1 := 11) (r2 := 13) (r3 := 0) rfl rfl (by decide) rfl ⟨rfl, rfl⟩ rfl ?_
    refine wi_bipush (n := 74) (nx := 41) (r1 := 0) (r2 := 0) (r3 := 0) rfl (by decide) ?_
    refine wi_bipush (n := 6) (nx := 43) (r1 := 0) (r2 := 0) (r3 := 0) rfl (by decide) ?_
    refine wi_iload_n (i := 1) (e := 1) (nx := 44) (r1 := 0) (r2 := 0) (r3 := 0) rfl rfl ?_
    refine wr_mulL (6) (nx := 45) (r1 := 0) (r2 := 0) (r3 := 0) rfl (by decide) ?_
    refine wr_addL (80) (nx := 46) (r1 := 0) (r2 := 0) (r3 := 0) rfl (by decide) ?_
    refine wi_iload_n (i := 3) (e := x20) (nx := 47) (r1 := 0) (r2 := 0) (r3 := 0) rfl rfl ?_
    refine wr_add (nx := 48) (r1 := 0) (r2 := 0) (r3 := 0) rfl (fun e24 (fe24 : e24 = 80 + x20) => ?_)
    refine wi_aload_n (i := 0) (x := 236) (nx := 49) (r1 := 0) (r2 := 0) (r3 := 0) rfl rfl ?_
    refine wr_gr (k0 := 236) (x := 238) (nx := 52) (r1 := 11) (r2 := 13) (r3 := 0) rfl rfl (by decide) rfl ⟨rfl, rfl⟩ rfl ?_
    refine wi_bipush (n := 74) (nx := 54) (r1 := 0) (r2 := 0) (r3 := 0) rfl (by decide) ?_
    refine wi_bipush (n := 6) (nx := 56) (r1 := 0) (r2 := 0) (r3 := 0) rfl (by decide) ?_
    refine wi_iload_n (i := 1) (e := 1) (nx := 57) (r1 := 0) (r2 := 0) (r3 := 0) rfl rfl ?_
    refine wr_mulL (6) (nx := 58) (r1 := 0) (r2 := 0) (r3 := 0) rfl (by decide) ?_
    refine wr_addL (80) (nx := 59) (r1 := 0) (r2 := 0) (r3 := 0) rfl (by decide) ?_
    refine wi_iload_n (i := 3) (e := x20) (nx := 60) (r1 := 0) (r2 := 0) (r3 := 0) rfl rfl ?_
    refine wr_add (nx := 61) (r1 := 0) (r2 := 0) (r3 := 0) rfl (fun e25 (fe25 : e25 = 80 + x20) => ?_)
    refine wi_iconst (n := 1) (nx := 62) (r1 := 0) (r2 := 0) (r3 := 0) rfl ?_
    refine wr_add (nx := 63) (r1 := 0) (r2 := 0) (r3 := 0) rfl (fun e26 (fe26 : e26 = e25 + 1) => ?_)
    obtain ⟨i27, ei27⟩ : ∃ q : Nat, e26 = (q : Int) := ⟨(e26).toNat, by omega⟩
    have b28 := gi_b (lo := 0) (hi := 11) g21 238 i27 (gi_rg 81 5 (fun _ => rfl) (by decide +kernel) (by omega))
    refine wr_ia (k0 := 238) (a := e26) (f := i27) (x := h21 238 i27) (nx := 64) (r1 := 0) (r2 := 0) (r3 := 0) rfl (by decide) rfl (by omega) (by omega) (by decide) rfl ?_
    obtain ⟨i29, ei29⟩ : ∃ q : Nat, e24 = (q : Int) := ⟨(e24).toNat, by omega⟩
    refine wr_is (k0 := 238) (a := e24) (f := i29) (x := h21 238 i27) (bl := 0) (bh := 11) (nx := 65) (r1 := 0) (r2 := 0) (r3 := 0) rfl (by decide) rfl (by omega) (by omega) (by decide) g21 (gi_rg 80 5 (fun _ => rfl) (by decide +kernel) (by omega)) (by omega) (fun h30 g30 w30 u30 => ?_)
    have F31 := F22.then rfl (FR.idx (p := 80) (q := 84) u30 (by omega))
    have F32 := u21.then rfl (FR.idx (p := 80) (q := 84) u30 (by omega))
    refine wr_iinc (i := 3) (n := 1) (v := x20) (fun e33 => [(3, vi e33), (0, .ref 236), (1, vi 1), (2, vi (h 238 80))]) (nx := 68) (r1 := 0) (r2 := 0) (r3 := 0) rfl rfl (fun _ => rfl) (fun e33 (fe33 : e33 = x20 + 1) => ?_)
    refine wi_goto (nx := 71) (r1 := 22) (r2 := 0) (r3 := 0) rfl ?_
    refine wp.lo (lo := [(0, .ref 236), (1, vi 1), (2, vi (h 238 80)), (3, vi e33)]) ⟨rfl, rfl, rfl, rfl, trivial⟩ rfl ?_
    exact I21 e33 h30 ⟨g30, F31, F32, (show (0 ≤ e33 ∧ e33 ≤ 5) by omega)⟩ (show ((5 : Int) + 1 - e33).toNat < ((5 : Int) + 1 - x20).toNat by omega)
-- method 282: Model.leaves(I)I
set_option maxHeartbeats 100000000 in
theorem ct_282_236_L2 {L : Nat} {xs : Nat → Int32} {d b c : Nat} {h : hp} {cr : Nat → Nat → Option Nat} {Q : hp_Q} (hcr : CR cr)  (g : GI h)   (pp0 : h 238 98 + h 238 99 + h 238 100 + h 238 101 + h 238 102 + h 238 106 = h 238 73) (pp1 : h 238 73 ≤ h 238 2) (pp2 : h 238 119 ≤ h 238 67) (pp3 : h 238 69 ≤ h 238 5) (pp4 : h 238 2 ≤ 12 * h 238 5) (pp5 : 1 ≤ h 238 100) (pp6 : h 238 67 ≤ 9998) (pp7 : h 238 102 ≤ 2 ∨ h 238 (43 + (h 238 86).toNat) ≤ 0) (k : ∀ (h2 : hp) (z0 : Int) , GI h2 → FR [(238, 238, some (43, 54)), (238, 238, some (55, 66)), (238, 238, some (67, 67)), (238, 238, some (68, 68)), (238, 238, some (69, 69)), (238, 238, some (70, 70)), (238, 238, some (71, 71)), (238, 238, some (72, 72)), (238, 238, some (86, 90)), (238, 238, some (100, 100)), (238, 238, some (102, 102)), (238, 238, some (103, 105)), (238, 238, some (106, 106)), (238, 238, some (107, 118)), (238, 238, some (119, 119)), (238, 238, some (120, 196)), (238, 238, some (121, 197)), (238, 238, some (122, 198)), (238, 238, some (123, 199))] h h2 → (0 ≤ z0 ∧ z0 ≤ 11) → (h2 238 98 + h2 238 99 + h2 238 100 + h2 238 101 + h2 238 102 + h2 238 106 = h2 238 73) → (h2 238 73 ≤ h2 238 2) → (h2 238 119 ≤ h2 238 67) → (h2 238 69 ≤ h2 238 5) → (h2 238 2 ≤ 12 * h2 238 5) → Q (.inl (some (vi z0))) (hp_w h2 cr) b c) : wp (md_xa (L, xs)) (d + 2) 282 (0, [(0, .ref 236), (1, vi 2)], [], hp_w h cr, b, c) Q := by
  have F0 : FR [(238, 238, some (43, 54)), (238, 238, some (55, 66)), (238, 238, some (67, 67)), (238, 238, some (68, 68)), (238, 238, some (69, 69)), (238, 238, some (70, 70)), (238, 238, some (71, 71)), (238, 238, some (72, 72)), (238, 238, some (86, 90)), (238, 238, some (100, 100)), (238, 238, some (102, 102)), (238, 238, some (103, 105)), (238, 238, some (106, 106)), (238, 238, some (107, 118)), (238, 238, some (119, 119)), (238, 238, some (120, 196)), (238, 238, some (121, 197)), (238, 238, some (122, 198)), (238, 238, some (123, 199))] h h := FR.refl
  have b1 := gi_b (lo := 0) (hi := 6) g 238 98 rfl
  have b2 := gi_b (lo := 0) (hi := 6) g 238 99 rfl
  have b3 := gi_b (lo := 0) (hi := 6) g 238 100 rfl
  have b4 := gi_b (lo := 0) (hi := 6) g 238 101 rfl
  have b5 := gi_b (lo := 0) (hi := 3) g 238 102 rfl
  have b6 := gi_b (lo := 0) (hi := 12) g 238 106 rfl
  have b7 := gi_b (lo := 0) (hi := 12) g 238 73 rfl
  have b8 := gi_b (lo := 0) (hi := 12) g 238 2 rfl
  have b9 := gi_b (lo := 0) (hi := 9999) g 238 119 rfl
  have b10 := gi_b (lo := 0) (hi := 9999) g 238 67 rfl
  have b11 := gi_b (lo := 0) (hi := 9) g 238 69 rfl
  have b12 := gi_b (lo := 0) (hi := 9) g 238 5 rfl
  have b13 := gi_b (lo := 0) (hi := 11) g 238 86 rfl
  obtain ⟨i14, ei14⟩ : ∃ q : Nat, (43 + h 238 86) = (q : Int) := ⟨(43 + h 238 86).toNat, by omega⟩
  have b15 := gi_b (lo := 0) (hi := 999) g 238 i14 (gi_rg 43 12 (fun _ => rfl) (by decide +kernel) (by omega))
  have e16 : h 238 (43 + (h 238 86).toNat) = h 238 i14 := by rw [show 43 + (h 238 86).toNat = i14 by omega]
  refine wi_aload_n (i := 0) (x := 236) (nx := 1) (r1 := 0) (r2 := 0) (r3 := 0) rfl rfl ?_
  refine wi_iload_n (i := 1) (e := 2) (nx := 2) (r1 := 0) (r2 := 0) (r3 := 0) rfl rfl ?_
  refine wi_iconst (n := 0) (nx := 3) (r1 := 0) (r2 := 0) (r3 := 0) rfl ?_
  refine wr_V (k0 := 236) (rest := []) (as := [.ref 236, vi 2, vi 0]) (nx := 6) (r1 := 258) (r2 := 2) (r3 := 11) rfl rfl rfl (of_decide_eq_true rfl) rfl rfl (by decide) rfl rfl (of_decide_eq_true rfl) (of_decide_eq_true rfl) ?_
  refine wi_aload_n (i := 0) (x := 236) (nx := 1) (r1 := 0) (r2 := 0) (r3 := 0) rfl rfl ?_
  refine wr_gr (k0 := 236) (x := 238) (nx := 4) (r1 := 11) (r2 := 13) (r3 := 0) rfl rfl (by decide) rfl ⟨rfl, rfl⟩ rfl ?_
  refine wi_bipush (n := 74) (nx := 6) (r1 := 0) (r2 := 0) (r3 := 0) rfl (by decide) ?_
  refine wi_bipush (n := 6) (nx := 8) (r1 := 0) (r2 := 0) (r3 := 0) rfl (by decide) ?_
  refine wi_iload_n (i := 1) (e := 2) (nx := 9) (r1 := 0) (r2 := 0) (r3 := 0) rfl rfl ?_
  refine wr_mulL (12) (nx := 10) (r1 := 0) (r2 := 0) (r3 := 0) rfl (by decide) ?_
  refine wr_addL (86) (nx := 11) (r1 := 0) (r2 := 0) (r3 := 0) rfl (by decide) ?_
  refine wi_iload_n (i := 2) (e := 0) (nx := 12) (r1 := 0) (r2 := 0) (r3 := 0) rfl rfl ?_
  refine wr_addL (86) (nx := 13) (r1 := 0) (r2 := 0) (r3 := 0) rfl (by decide) ?_
  refine wr_ia (k0 := 238) (a := 86) (f := 86) (x := h 238 86) (nx := 14) (r1 := 0) (r2 := 0) (r3 := 0) rfl (by decide) rfl (by omega) (by omega) (by decide) rfl ?_
  refine wi_ireturn (nx := 15) (r1 := 0) (r2 := 0) (r3 := 0) rfl rfl ?_
  refine wk_i ?_
  refine wi_istore_n (i := 2) (e := h 238 86) (lo2 := [(2, vi (h 238 86)), (0, .ref 236), (1, vi 2)]) (nx := 7) (r1 := 0) (r2 := 0) (r3 := 0) rfl rfl ?_
  refine wi_aload_n (i := 0) (x := 236) (nx := 8) (r1 := 0) (r2 := 0) (r3 := 0) rfl rfl ?_
  refine wr_gr (k0 := 236) (x := 238) (nx := 11) (r1 := 11) (r2 := 13) (r3 := 0) rfl rfl (by decide) rfl ⟨rfl, rfl⟩ rfl ?_
  refine wi_bipush (n := 98) (nx := 13) (r1 := 0) (r2 := 0) (r3 := 0) rfl (by decide) ?_
  refine wi_iload_n (i := 1) (e := 2) (nx := 14) (r1 := 0) (r2 := 0) (r3 := 0) rfl rfl ?_
  refine wr_addL (100) (nx := 15) (r1 := 0) (r2 := 0) (r3 := 0) rfl (by decide) ?_
  refine wi_dup2 (nx := 16) (r1 := 0) (r2 := 0) (r3 := 0) rfl rfl rfl ?_
  refine wr_ia (k0 := 238) (a := 100) (f := 100) (x := h 238 100) (nx := 17) (r1 := 0) (r2 := 0) (r3 := 0) rfl (by decide) rfl (by omega) (by omega) (by decide) rfl ?_
  refine wi_iconst (n := 1) (nx := 18) (r1 := 0) (r2 := 0) (r3 := 0) rfl ?_
  refine wr_sub (nx := 19) (r1 := 0) (r2 := 0) (r3 := 0) rfl (fun e17 (fe17 : e17 = (h 238 100) - 1) => ?_)
  refine wr_is (k0 := 238) (a := 100) (f := 100) (x := e17) (bl := 0) (bh := 6) (nx := 20) (r1 := 0) (r2 := 0) (r3 := 0) rfl (by decide) rfl (by omega) (by omega) (by decide) g rfl (by omega) (fun h18 g18 w18 u18 => ?_)
  have F19 := F0.then rfl u18
  refine wi_iconst (n := 0) (nx := 21) (r1 := 0) (r2 := 0) (r3 := 0) rfl ?_
  refine wi_istore_n (i := 3) (e := 0) (lo2 := [(3, vi 0), (2, vi (h 238 86)), (0, .ref 236), (1, vi 2)]) (nx := 22) (r1 := 0) (r2 := 0) (r3 := 0) rfl rfl ?_
  refine wp.lo (lo := [(0, .ref 236), (1, vi 2), (2, vi (h 238 86)), (3, vi 0)]) ⟨rfl, rfl, rfl, rfl, trivial⟩ rfl ?_
  refine wl_1 (fun x20 h21 => GI h21 ∧ FR [(238, 238, some (43, 54)), (238, 238, some (55, 66)), (238, 238, some (67, 67)), (238, 238, some (68, 68)), (238, 238, some (69, 69)), (238, 238, some (70, 70)), (238, 238, some (71, 71)), (238, 238, some (72, 72)), (238, 238, some (86, 90)), (238, 238, some (100, 100)), (238, 238, some (102, 102)), (238, 238, some (103, 105)), (238, 238, some (106, 106)), (238, 238, some (107, 118)), (238, 238, some (119, 119)), (238, 238, some (120, 196)), (238, 238, some (121, 197)), (238, 238, some (122, 198)), (238, 238, some (123, 199))] h h21 ∧ FR [(238, 238, some (86, 90))] h18 h21 ∧ ((0 ≤ x20 ∧ x20 ≤ 5))) (fun x20 h21 => ((5 : Int) + 1 - x20).toNat) (fun x20 h21 => (22, [(0, .ref 236), (1, vi 2), (2, vi (h 238 86)), (3, vi x20)], [], hp_w h21 cr, b, c)) ?_ 0 h18 ⟨g18, F19, FR.refl, (show (0 ≤ 0 ∧ 0 ≤ 5) by omega)⟩
  intro x20 h21 ⟨g21, F22, u21, f21⟩ I21
  refine wi_iload_n (i := 3) (e := x20) (nx := 23) (r1 := 0) (r2 := 0) (r3 := 0) rfl rfl ?_
  refine wi_aload_n (i := 0) (x := 236) (nx := 24) (r1 := 0) (r2 := 0) (r3 := 0) rfl rfl ?_
  refine wr_gr (k0 := 236) (x := 238) (nx := 27) (r1 := 11) (r2 := 13) (r3 := 0) rfl rfl (by decide) rfl ⟨rfl, rfl⟩ rfl ?_
  refine wi_bipush (n := 98) (nx := 29) (r1 := 0) (r2 := 0) (r3 := 0) rfl (by decide) ?_
  refine wi_iload_n (i := 1) (e := 2) (nx := 30) (r1 := 0) (r2 := 0) (r3 := 0) rfl rfl ?_
  refine wr_addL (100) (nx := 31) (r1 := 0) (r2 := 0) (r3 := 0) rfl (by decide) ?_
  refine wr_ia (k0 := 238) (a := 100) (f := 100) (x := e17) (nx := 32) (r1 := 0) (r2 := 0) (r3 := 0) rfl (by decide) rfl (by omega) (by omega) (by decide) ((u21 238 100 rfl).trans w18) ?_
  refine wi_icmp (cd := .ge) (nx := 35) (r1 := 71) (r2 := 0) (r3 := 0) rfl (by omega) (by omega) (fun (q23 : e17 ≤ x20) => ?_) (fun (q23 : ¬ (e17 ≤ x20)) => ?_)
  ·
    refine wi_aload_n (i := 0) (x := 236) (nx := 72) (r1 := 0) (r2 := 0) (r3 := 0) rfl rfl ?_
    refine wi_iload_n (i := 2) (e := h 238 86) (nx := 73) (r1 := 0) (r2 := 0) (r3 := 0) rfl rfl ?_
    refine wr_V (k0 := 236) (rest := []) (as := [.ref 236, vi (h 238 86)]) (nx := 76) (r1 := 283) (r2 := 1) (r3 := 11) rfl rfl rfl (of_decide_eq_true rfl) rfl rfl (by decide) rfl rfl (of_decide_eq_true rfl) (of_decide_eq_true rfl) ?_
    have e25 : h21 238 67 = h 238 67 := ((u21 238 67 rfl).trans (u18 238 67 rfl))
    have e26 : h21 238 119 = h 238 119 := ((u21 238 119 rfl).trans (u18 238 119 rfl))
    have e27 : h21 238 69 = h 238 69 := ((u21 238 69 rfl).trans (u18 238 69 rfl))
    have e28 : h21 238 5 = h 238 5 := ((u21 238 5 rfl).trans (u18 238 5 rfl))
    refine ct_283_236 hcr  g21 (h 238 86) (by omega) (show (h21 238 67) ≤ 9998 by omega) (show (h21 238 119) ≤ (h21 238 67) by omega) (show (h21 238 69) ≤ (h21 238 5) by omega) (show 1 ≤ (h21 238 5) by omega) (fun h24 g24 u24 (p24_0 : (h24 238 119) ≤ (h24 238 67)) (p24_1 : (h24 238 69) ≤ (h24 238 5)) => ?_)
    have F29 := F22.then (by decide +kernel) u24
    have b30 := gi_b (lo := 0) (hi := 9999) g24 238 119 rfl
    have b31 := gi_b (lo := 0) (hi := 9999) g24 238 67 rfl
    have b32 := gi_b (lo := 0) (hi := 9) g24 238 69 rfl
    have e33 : h24 238 5 = h 238 5 := ((u24 238 5 rfl).trans ((u21 238 5 rfl).trans (u18 238 5 rfl)))
    refine wk_n ?_
    refine wi_aload_n (i := 0) (x := 236) (nx := 77) (r1 := 0) (r2 := 0) (r3 := 0) rfl rfl ?_
    refine wr_gr (k0 := 236) (x := 238) (nx := 80) (r1 := 11) (r2 := 13) (r3 := 0) rfl rfl (by decide) rfl ⟨rfl, rfl⟩ rfl ?_
    refine wi_bipush (n := 43) (nx := 82) (r1 := 0) (r2 := 0) (r3 := 0) rfl (by decide) ?_
    refine wi_iload_n (i := 2) (e := h 238 86) (nx := 83) (r1 := 0) (r2 := 0) (r3 := 0) rfl rfl ?_
    refine wr_add (nx := 84) (r1 := 0) (r2 := 0) (r3 := 0) rfl (fun e34 (fe34 : e34 = 43 + (h 238 86)) => ?_)
    refine wr_ia (k0 := 238) (a := e34) (f := i14) (x := h 238 i14) (nx := 85) (r1 := 0) (r2 := 0) (r3 := 0) rfl (by decide) rfl (by omega) (by omega) (by decide) ((u24 238 i14 (fn_i (by omega) (fn_i (by omega) (fn_i (by omega) (fn_i (by omega) (fn_i (by omega) (fn_i (by omega) (fn_i (by omega) (fn_i (by omega) (fn_i (by omega) (fn_i (by omega) (fn_i (by omega) fn_0)))))))))))).trans ((u21 238 i14 (fn_i (by omega) fn_0)).trans (u18 238 i14 (fn_i (by omega) fn_0)))) ?_
    refine wi_if (cd := .ne) (nx := 88) (r1 := 117) (r2 := 0) (r3 := 0) rfl (by omega) (fun (q35 : (h 238 i14) ≠ 0) => ?_) (fun (q35 : ¬ ((h 238 i14) ≠ 0)) => ?_)
    ·
      refine wi_aload_n (i := 0) (x := 236) (nx := 118) (r1 := 0) (r2 := 0) (r3 := 0) rfl rfl ?_
      refine wr_gr (k0 := 236) (x := 238) (nx := 121) (r1 := 11) (r2 := 13) (r3 := 0) rfl rfl (by decide) rfl ⟨rfl, rfl⟩ rfl ?_
      refine wi_bipush (n := 43) (nx := 123) (r1 := 0) (r2 := 0) (r3 := 0) rfl (by decide) ?_
      refine wi_iload_n (i := 2) (e := h 238 86) (nx := 124) (r1 := 0) (r2 := 0) (r3 := 0) rfl rfl ?_
      refine wr_add (nx := 125) (r1 := 0) (r2 := 0) (r3 := 0) rfl (fun e36 (fe36 : e36 = 43 + (h 238 86)) => ?_)
      refine wi_dup2 (nx := 126) (r1 := 0) (r2 := 0) (r3 := 0) rfl rfl rfl ?_
      refine wr_ia (k0 := 238) (a := e36) (f := i14) (x := h 238 i14) (nx := 127) (r1 := 0) (r2 := 0) (r3 := 0) rfl (by decide) rfl (by omega) (by omega) (by decide) ((u24 238 i14 (fn_i (by omega) (fn_i (by omega) (fn_i (by omega) (fn_i (by omega) (fn_i (by omega) (fn_i (by omega) (fn_i (by omega) (fn_i (by omega) (fn_i (by omega) (fn_i (by omega) (fn_i (by omega) fn_0)))))))))))).trans ((u21 238 i14 (fn_i (by omega) fn_0)).trans (u18 238 i14 (fn_i (by omega) fn_0)))) ?_
      refine wi_iconst (n := 1) (nx := 128) (r1 := 0) (r2 := 0) (r3 := 0) rfl ?_
      refine wr_sub (nx := 129) (r1 := 0) (r2 := 0) (r3 := 0) rfl (fun e37 (fe37 : e37 = (h 238 i14) - 1) => ?_)
      refine wr_is (k0 := 238) (a := e36) (f := i14) (x := e37) (bl := 0) (bh := 999) (nx := 130) (r1 := 0) (r2 := 0) (r3 := 0) rfl (by decide) rfl (by omega) (by omega) (by decide) g24 (gi_rg 43 12 (fun _ => rfl) (by decide +kernel) (by omega)) (by omega) (fun h38 g38 w38 u38 => ?_)
      have F39 := F29.then rfl (FR.idx (p := 43) (q := 54) u38 (by omega))
      refine wi_aload_n (i := 0) (x := 236) (nx := 131) (r1 := 0) (r2 := 0) (r3 := 0) rfl rfl ?_
      refine wr_gr (k0 := 236) (x := 238) (nx := 134) (r1 := 11) (r2 := 13) (r3 := 0) rfl rfl (by decide) rfl ⟨rfl, rfl⟩ rfl ?_
      refine wi_bipush (n := 55) (nx := 136) (r1 := 0) (r2 := 0) (r3 := 0) rfl (by decide) ?_
      refine wi_iload_n (i := 2) (e := h 238 86) (nx := 137) (r1 := 0) (r2 := 0) (r3 := 0) rfl rfl ?_
      refine wr_add (nx := 138) (r1 := 0) (r2 := 0) (r3 := 0) rfl (fun e40 (fe40 : e40 = 55 + (h 238 86)) => ?_)
      refine wi_aload_n (i := 0) (x := 236) (nx := 139) (r1 := 0) (r2 := 0) (r3 := 0) rfl rfl ?_
      refine wr_gr (k0 := 236) (x := 238) (nx := 142) (r1 := 11) (r2 := 13) (r3 := 0) rfl rfl (by decide) rfl ⟨rfl, rfl⟩ rfl ?_
      refine wi_bipush (n := 67) (nx := 144) (r1 := 0) (r2 := 0) (r3 := 0) rfl (by decide) ?_
      refine wr_ia (k0 := 238) (a := 67) (f := 67) (x := h24 238 67) (nx := 145) (r1 := 0) (r2 := 0) (r3 := 0) rfl (by decide) rfl (by omega) (by omega) (by decide) (u38 238 67 (fn_i (by omega) fn_0)) ?_
      refine wi_aload_n (i := 0) (x := 236) (nx := 146) (r1 := 0) (r2 := 0) (r3 := 0) rfl rfl ?_
      refine wr_gr (k0 := 236) (x := 238) (nx := 149) (r1 := 11) (r2 := 13) (r3 := 0) rfl rfl (by decide) rfl ⟨rfl, rfl⟩ rfl ?_
      refine wi_bipush (n := 8) (nx := 151) (r1 := 0) (r2 := 0) (r3 := 0) rfl (by decide) ?_
      have b41 := gi_b (lo := 0) (hi := 999) g 238 8 rfl
      refine wr_ia (k0 := 238) (a := 8) (f := 8) (x := h 238 8) (nx := 152) (r1 := 0) (r2 := 0) (r3 := 0) rfl (by decide) rfl (by omega) (by omega) (by decide) ((u38 238 8 (fn_i (by omega) fn_0)).trans ((u24 238 8 rfl).trans ((u21 238 8 rfl).trans (u18 238 8 rfl)))) ?_
      refine wr_add (nx := 153) (r1 := 0) (r2 := 0) (r3 := 0) rfl (fun e42 (fe42 : e42 = (h24 238 67) + (h 238 8)) => ?_)
      obtain ⟨i43, ei43⟩ : ∃ q : Nat, e40 = (q : Int) := ⟨(e40).toNat, by omega⟩
      refine wr_is (k0 := 238) (a := e40) (f := i43) (x := e42) (bl := 0) (bh := 20000) (nx := 154) (r1 := 0) (r2 := 0) (r3 := 0) rfl (by decide) rfl (by omega) (by omega) (by decide) g38 (gi_rg 55 12 (fun _ => rfl) (by decide +kernel) (by omega)) (by omega) (fun h44 g44 w44 u44 => ?_)
      have F45 := F39.then rfl (FR.idx (p := 55) (q := 66) u44 (by omega))
      refine wi_aload_n (i := 0) (x := 236) (nx := 155) (r1 := 0) (r2 := 0) (r3 := 0) rfl rfl ?_
      refine wr_gr (k0 := 236) (x := 238) (nx := 158) (r1 := 11) (r2 := 13) (r3 := 0) rfl rfl (by decide) rfl ⟨rfl, rfl⟩ rfl ?_
      refine wi_bipush (n := 103) (nx := 160) (r1 := 0) (r2 := 0) (r3 := 0) rfl (by decide) ?_
      refine wi_aload_n (i := 0) (x := 236) (nx := 161) (r1 := 0) (r2 := 0) (r3 := 0) rfl rfl ?_
      refine wr_gr (k0 := 236) (x := 238) (nx := 164) (r1 := 11) (r2 := 13) (r3 := 0) rfl rfl (by decide) rfl ⟨rfl, rfl⟩ rfl ?_
      refine wi_bipush (n := 102) (nx := 166) (r1 := 0) (r2 := 0) (r3 := 0) rfl (by decide) ?_
      refine wr_ia (k0 := 238) (a := 102) (f := 102) (x := h 238 102) (nx := 167) (r1 := 0) (r2 := 0) (r3 := 0) rfl (by decide) rfl (by omega) (by omega) (by decide) ((u44 238 102 (fn_i (by omega) fn_0)).trans ((u38 238 102 (fn_i (by omega) fn_0)).trans ((u24 238 102 rfl).trans ((u21 238 102 rfl).trans (u18 238 102 rfl))))) ?_
      refine wr_add (nx := 168) (r1 := 0) (r2 := 0) (r3 := 0) rfl (fun e46 (fe46 : e46 = 103 + (h 238 102)) => ?_)
      refine wi_iload_n (i := 2) (e := h 238 86) (nx := 169) (r1 := 0) (r2 := 0) (r3 := 0) rfl rfl ?_
      obtain ⟨i47, ei47⟩ : ∃ q : Nat, e46 = (q : Int) := ⟨(e46).toNat, by omega⟩
      refine wr_is (k0 := 238) (a := e46) (f := i47) (x := h 238 86) (bl := 0) (bh := 11) (nx := 170) (r1 := 0) (r2 := 0) (r3 := 0) rfl (by decide) rfl (by omega) (by omega) (by decide) g44 (gi_rg 103 3 (fun _ => rfl) (by decide +kernel) (by omega)) (by omega) (fun h48 g48 w48 u48 => ?_)
      have F49 := F45.then rfl (FR.idx (p := 103) (q := 105) u48 (by omega))
      refine wi_aload_n (i := 0) (x := 236) (nx := 171) (r1 := 0) (r2 := 0) (r3 := 0) rfl rfl ?_
      refine wr_gr (k0 := 236) (x := 238) (nx := 174) (r1 := 11) (r2 := 13) (r3 := 0) rfl rfl (by decide) rfl ⟨rfl, rfl⟩ rfl ?_
      refine wi_bipush (n := 102) (nx := 176) (r1 := 0) (r2 := 0) (r3 := 0) rfl (by decide) ?_
      refine wi_dup2 (nx := 177) (r1 := 0) (r2 := 0) (r3 := 0) rfl rfl rfl ?_
      refine wr_ia (k0 := 238) (a := 102) (f := 102) (x := h 238 102) (nx := 178) (r1 := 0) (r2 := 0) (r3 := 0) rfl (by decide) rfl (by omega) (by omega) (by decide) ((u48 238 102 (fn_i (by omega) fn_0)).trans ((u44 238 102 (fn_i (by omega) fn_0)).trans ((u38 238 102 (fn_i (by omega) fn_0)).trans ((u24 238 102 rfl).trans ((u21 238 102 rfl).trans (u18 238 102 rfl)))))) ?_
      refine wi_iconst (n := 1) (nx := 179) (r1 := 0) (r2 := 0) (r3 := 0) rfl ?_
      refine wr_add (nx := 180) (r1 := 0) (r2 := 0) (r3 := 0) rfl (fun e50 (fe50 : e50 = (h 238 102) + 1) => ?_)
      refine wr_is (k0 := 238) (a := 102) (f := 102) (x := e50) (bl := 0) (bh := 3) (nx := 181) (r1 := 0) (r2 := 0) (r3 := 0) rfl (by decide) rfl (by omega) (by omega) (by decide) g48 rfl (by omega) (fun h51 g51 w51 u51 => ?_)
      have F52 := F49.then rfl u51
      refine wi_iload_n (i := 2) (e := h 238 86) (nx := 182) (r1 := 0) (r2 := 0) (r3 := 0) rfl rfl ?_
      refine wi_ireturn (nx := 183) (r1 := 0) (r2 := 0) (r3 := 0) rfl rfl ?_
      have e53 : h51 238 98 = h 238 98 := ((u51 238 98 rfl).trans ((u48 238 98 (fn_i (by omega) fn_0)).trans ((u44 238 98 (fn_i (by omega) fn_0)).trans ((u38 238 98 (fn_i (by omega) fn_0)).trans ((u24 238 98 rfl).trans ((u21 238 98 rfl).trans (u18 238 98 rfl)))))))
      have e54 : h51 238 99 = h 238 99 := ((u51 238 99 rfl).trans ((u48 238 99 (fn_i (by omega) fn_0)).trans ((u44 238 99 (fn_i (by omega) fn_0)).trans ((u38 238 99 (fn_i (by omega) fn_0)).trans ((u24 238 99 rfl).trans ((u21 238 99 rfl).trans (u18 238 99 rfl)))))))
      have e55 : h51 238 100 = e17 := ((u51 238 100 rfl).trans ((u48 238 100 (fn_i (by omega) fn_0)).trans ((u44 238 100 (fn_i (by omega) fn_0)).trans ((u38 238 100 (fn_i (by omega) fn_0)).trans ((u24 238 100 rfl).trans ((u21 238 100 rfl).trans w18))))))
      have e56 : h51 238 101 = h 238 101 := ((u51 238 101 rfl).trans ((u48 238 101 (fn_i (by omega) fn_0)).trans ((u44 238 101 (fn_i (by omega) fn_0)).trans ((u38 238 101 (fn_i (by omega) fn_0)).trans ((u24 238 101 rfl).trans ((u21 238 101 rfl).trans (u18 238 101 rfl)))))))
      have e57 : h51 238 102 = e50 := w51
      have e58 : h51 238 106 = h 238 106 := ((u51 238 106 rfl).trans ((u48 238 106 (fn_i (by omega) fn_0)).trans ((u44 238 106 (fn_i (by omega) fn_0)).trans ((u38 238 106 (fn_i (by omega) fn_0)).trans ((u24 238 106 rfl).trans ((u21 238 106 rfl).trans (u18 238 106 rfl)))))))
      have e59 : h51 238 73 = h 238 73 := ((u51 238 73 rfl).trans ((u48 238 73 (fn_i (by omega) fn_0)).trans ((u44 238 73 (fn_i (by omega) fn_0)).trans ((u38 238 73 (fn_i (by omega) fn_0)).trans ((u24 238 73 rfl).trans ((u21 238 73 rfl).trans (u18 238 73 rfl)))))))
      have e60 : h51 238 2 = h 238 2 := ((u51 238 2 rfl).trans ((u48 238 2 (fn_i (by omega) fn_0)).trans ((u44 238 2 (fn_i (by omega) fn_0)).trans ((u38 238 2 (fn_i (by omega) fn_0)).trans ((u24 238 2 rfl).trans ((u21 238 2 rfl).trans (u18 238 2 rfl)))))))
      have e61 : h51 238 119 = h24 238 119 := ((u51 238 119 rfl).trans ((u48 238 119 (fn_i (by omega) fn_0)).trans ((u44 238 119 (fn_i (by omega) fn_0)).trans (u38 238 119 (fn_i (by omega) fn_0)))))
      have e62 : h51 238 67 = h24 238 67 := ((u51 238 67 rfl).trans ((u48 238 67 (fn_i (by omega) fn_0)).trans ((u44 238 67 (fn_i (by omega) fn_0)).trans (u38 238 67 (fn_i (by omega) fn_0)))))
      have e63 : h51 238 69 = h24 238 69 := ((u51 238 69 rfl).trans ((u48 238 69 (fn_i (by omega) fn_0)).trans ((u44 238 69 (fn_i (by omega) fn_0)).trans (u38 238 69 (fn_i (by omega) fn_0)))))
      have e64 : h51 238 5 = h 238 5 := ((u51 238 5 rfl).trans ((u48 238 5 (fn_i (by omega) fn_0)).trans ((u44 238 5 (fn_i (by omega) fn_0)).trans ((u38 238 5 (fn_i (by omega) fn_0)).trans ((u24 238 5 rfl).trans ((u21 238 5 rfl).trans (u18 238 5 rfl)))))))
      exact k h51 (h 238 86) g51 F52 (by omega) (show (h51 238 98) + (h51 238 99) + (h51 238 100) + (h51 238 101) + (h51 238 102) + (h51 238 106) = (h51 238 73) by omega) (show (h51 238 73) ≤ (h51 238 2) by omega) (show (h51 238 119) ≤ (h51 238 67) by omega) (show (h51 238 69) ≤ (h51 238 5) by omega) (show (h51 238 2) ≤ 12 * (h51 238 5) by omega)
    ·
      refine wi_aload_n (i := 0) (x := 236) (nx := 89) (r1 := 0) (r2 := 0) (r3 := 0) rfl rfl ?_
      refine wr_gr (k0 := 236) (x := 238) (nx := 92) (r1 := 11) (r2 := 13) (r3 := 0) rfl rfl (by decide) rfl ⟨rfl, rfl⟩ rfl ?_
      refine wi_bipush (n := 107) (nx := 94) (r1 := 0) (r2 := 0) (r3 := 0) rfl (by decide) ?_
      refine wi_aload_n (i := 0) (x := 236) (nx := 95) (r1 := 0) (r2 := 0) (r3 := 0) rfl rfl ?_
      refine wr_gr (k0 := 236) (x := 238) (nx := 98) (r1 := 11) (r2 := 13) (r3 := 0) rfl rfl (by decide) rfl ⟨rfl, rfl⟩ rfl ?_
      refine wi_bipush (n := 106) (nx := 100) (r1 := 0) (r2 := 0) (r3 := 0) rfl (by decide) ?_
      refine wr_ia (k0 := 238) (a := 106) (f := 106) (x := h 238 106) (nx := 101) (r1 := 0) (r2 := 0) (r3 := 0) rfl (by decide) rfl (by omega) (by omega) (by decide) ((u24 238 106 rfl).trans ((u21 238 106 rfl).trans (u18 238 106 rfl))) ?_
      refine wr_add (nx := 102) (r1 := 0) (r2 := 0) (r3 := 0) rfl (fun e36 (fe36 : e36 = 107 + (h 238 106)) => ?_)
      refine wi_iload_n (i := 2) (e := h 238 86) (nx := 103) (r1 := 0) (r2 := 0) (r3 := 0) rfl rfl ?_
      obtain ⟨i37, ei37⟩ : ∃ q : Nat, e36 = (q : Int) := ⟨(e36).toNat, by omega⟩
      refine wr_is (k0 := 238) (a := e36) (f := i37) (x := h 238 86) (bl := 0) (bh := 11) (nx := 104) (r1 := 0) (r2 := 0) (r3 := 0) rfl (by decide) rfl (by omega) (by omega) (by decide) g24 (gi_rg 107 12 (fun _ => rfl) (by decide +kernel) (by omega)) (by omega) (fun h38 g38 w38 u38 => ?_)
      have F39 := F29.then rfl (FR.idx (p := 107) (q := 118) u38 (by omega))
      refine wi_aload_n (i := 0) (x := 236) (nx := 105) (r1 := 0) (r2 := 0) (r3 := 0) rfl rfl ?_
      refine wr_gr (k0 := 236) (x := 238) (nx := 108) (r1 := 11) (r2 := 13) (r3 := 0) rfl rfl (by decide) rfl ⟨rfl, rfl⟩ rfl ?_
      refine wi_bipush (n := 106) (nx := 110) (r1 := 0) (r2 := 0) (r3 := 0) rfl (by decide) ?_
      refine wi_dup2 (nx := 111) (r1 := 0) (r2 := 0) (r3 := 0) rfl rfl rfl ?_
      refine wr_ia (k0 := 238) (a := 106) (f := 106) (x := h 238 106) (nx := 112) (r1 := 0) (r2 := 0) (r3 := 0) rfl (by decide) rfl (by omega) (by omega) (by decide) ((u38 238 106 (fn_i (by omega) fn_0)).trans ((u24 238 106 rfl).trans ((u21 238 106 rfl).trans (u18 238 106 rfl)))) ?_
      refine wi_iconst (n := 1) (nx := 113) (r1 := 0) (r2 := 0) (r3 := 0) rfl ?_
      refine wr_add (nx := 114) (r1 := 0) (r2 := 0) (r3 := 0) rfl (fun e40 (fe40 : e40 = (h 238 106) + 1) => ?_)
      refine wr_is (k0 := 238) (a := 106) (f := 106) (x := e40) (bl := 0) (bh := 12) (nx := 115) (r1 := 0) (r2 := 0) (r3 := 0) rfl (by decide) rfl (by omega) (by omega) (by decide) g38 rfl (by omega) (fun h41 g41 w41 u41 => ?_)
      have F42 := F39.then rfl u41
      refine wi_iload_n (i := 2) (e := h 238 86) (nx := 116) (r1 := 0) (r2 := 0) (r3 := 0) rfl rfl ?_
      refine wi_ireturn (nx := 117) (r1 := 0) (r2 := 0) (r3 := 0) rfl rfl ?_
      have e43 : h41 238 98 = h 238 98 := ((u41 238 98 rfl).trans ((u38 238 98 (fn_i (by omega) fn_0)).trans ((u24 238 98 rfl).trans ((u21 238 98 rfl).trans (u18 238 98 rfl)))))
      have e44 : h41 238 99 = h 238 99 := ((u41 238 99 rfl).trans ((u38 238 99 (fn_i (by omega) fn_0)).trans ((u24 238 99 rfl).trans ((u21 238 99 rfl).trans (u18 238 99 rfl)))))
      have e45 : h41 238 100 = e17 := ((u41 238 100 rfl).trans ((u38 238 100 (fn_i (by omega) fn_0)).trans ((u24 238 100 rfl).trans ((u21 238 100 rfl).trans w18))))
      have e46 : h41 238 101 = h 238 101 := ((u41 238 101 rfl).trans ((u38 238 101 (fn_i (by omega) fn_0)).trans ((u24 238 101 rfl).trans ((u21 238 101 rfl).trans (u18 238 101 rfl)))))
      have e47 : h41 238 102 = h 238 102 := ((u41 238 102 rfl).trans ((u38 238 102 (fn_i (by omega) fn_0)).trans ((u24 238 102 rfl).trans ((u21 238 102 rfl).trans (u18 238 102 rfl)))))
      have e48 : h41 238 106 = e40 := w41
      have e49 : h41 238 73 = h 238 73 := ((u41 238 73 rfl).trans ((u38 238 73 (fn_i (by omega) fn_0)).trans ((u24 238 73 rfl).trans ((u21 238 73 rfl).trans (u18 238 73 rfl)))))
      have e50 : h41 238 2 = h 238 2 := ((u41 238 2 rfl).trans ((u38 238 2 (fn_i (by omega) fn_0)).trans ((u24 238 2 rfl).trans ((u21 238 2 rfl).trans (u18 238 2 rfl)))))
      have e51 : h41 238 119 = h24 238 119 := ((u41 238 119 rfl).trans (u38 238 119 (fn_i (by omega) fn_0)))
      have e52 : h41 238 67 = h24 238 67 := ((u41 238 67 rfl).trans (u38 238 67 (fn_i (by omega) fn_0)))
      have e53 : h41 238 69 = h24 238 69 := ((u41 238 69 rfl).trans (u38 238 69 (fn_i (by omega) fn_0)))
      have e54 : h41 238 5 = h 238 5 := ((u41 238 5 rfl).trans ((u38 238 5 (fn_i (by omega) fn_0)).trans ((u24 238 5 rfl).trans ((u21 238 5 rfl).trans (u18 238 5 rfl)))))
      exact k h41 (h 238 86) g41 F42 (by omega) (show (h41 238 98) + (h41 238 99) + (h41 238 100) + (h41 238 101) + (h41 238 102) + (h41 238 106) = (h41 238 73) by omega) (show (h41 238 73) ≤ (h41 238 2) by omega) (show (h41 238 119) ≤ (h41 238 67) by omega) (show (h41 238 69) ≤ (h41 238 5) by omega) (show (h41 238 2) ≤ 12 * (h41 238 5) by omega)
  ·
    refine wi_aload_n (i := 0) (x := 236) (nx := 36) (r1 := 0) (r2 := 0) (r3 := 0) rfl rfl ?_
    refine wr_gr (k0 := 236) (x := 238) (nx := 39) (r1 := 11) (r2 := 13) (r3 := 0) rfl rfl (by decide) rfl ⟨rfl, rfl⟩ rfl ?_
    refine wi_bipush (n := 74) (nx := 41) (r1 := 0) (r2 := 0) (r3 := 0) rfl (by decide) ?_
    refine wi_bipush (n := 6) (nx := 43) (r1 := 0) (r2 := 0) (r3 := 0) rfl (by decide) ?_
    refine wi_iload_n (i := 1) (e := 2) (nx := 44) (r1 := 0) (r2 := 0) (r3 := 0) rfl rfl ?_
    refine wr_mulL (12) (nx := 45) (r1 := 0) (r2 := 0) (r3 := 0) rfl (by decide) ?_
    refine wr_addL (86) (nx := 46) (r1 := 0) (r2 := 0) (r3 := 0) rfl (by decide) ?_
    refine wi_iload_n (i := 3) (e := x20) (nx := 47) (r1 := 0) (r2 := 0) (r3 := 0) rfl rfl ?_
    refine wr_add (nx := 48) (r1 := 0) (r2 := 0) (r3 := 0) rfl (fun e24 (fe24 : e24 = 86 + x20) => ?_)
    refine wi_aload_n (i := 0) (x := 236) (nx := 49) (r1 := 0) (r2 := 0) (r3 := 0) rfl rfl ?_
    refine wr_gr (k0 := 236) (x := 238) (nx := 52) (r1 := 11) (r2 := 13) (r3 := 0) rfl rfl (by decide) rfl ⟨rfl, rfl⟩ rfl ?_
    refine wi_bipush (n := 74) (nx := 54) (r1 := 0) (r2 := 0) (r3 := 0) rfl (by decide) ?_
    refine wi_bipush (n := 6) (nx := 56) (r1 := 0) (r2 := 0) (r3 := 0) rfl (by decide) ?_
    refine wi_iload_n (i := 1) (e := 2) (nx := 57) (r1 := 0) (r2 := 0) (r3 := 0) rfl rfl ?_
    refine wr_mulL (12) (nx := 58) (r1 := 0) (r2 := 0) (r3 := 0) rfl (by decide) ?_
    refine wr_addL (86) (nx := 59) (r1 := 0) (r2 := 0) (r3 := 0) rfl (by decide) ?_
    refine wi_iload_n (i := 3) (e := x20) (nx := 60) (r1 := 0) (r2 := 0) (r3 := 0) rfl rfl ?_
    refine wr_add (nx := 61) (r1 := 0) (r2 := 0) (r3 := 0) rfl (fun e25 (fe25 : e25 = 86 + x20) => ?_)
    refine wi_iconst (n := 1) (nx := 62) (r1 := 0) (r2 := 0) (r3 := 0) rfl ?_
    refine wr_add (nx := 63) (r1 := 0) (r2 := 0) (r3 := 0) rfl (fun e26 (fe26 : e26 = e25 + 1) => ?_)
    obtain ⟨i27, ei27⟩ : ∃ q : Nat, e26 = (q : Int) := ⟨(e26).toNat, by omega⟩
    have b28 := gi_b (lo := 0) (hi := 11) g21 238 i27 (gi_rg 87 5 (fun _ => rfl) (by decide +kernel) (by omega))
    refine wr_ia (k0 := 238) (a := e26) (f := i27) (x := h21 238 i27) (nx := 64) (r1 := 0) (r2 := 0) (r3 := 0) rfl (by decide) rfl (by omega) (by omega) (by decide) rfl ?_
    obtain ⟨i29, ei29⟩ : ∃ q : Nat, e24 = (q : Int) := ⟨(e24).toNat, by omega⟩
    refine wr_is (k0 := 238) (a := e24) (f := i29) (x := h21 238 i27) (bl := 0) (bh := 11) (nx := 65) (r1 := 0) (r2 := 0) (r3 := 0) rfl (by decide) rfl (by omega) (by omega) (by decide) g21 (gi_rg 86 5 (fun _ => rfl) (by decide +kernel) (by omega)) (by omega) (fun h30 g30 w30 u30 => ?_)
    have F31 := F22.then rfl (FR.idx (p := 86) (q := 90) u30 (by omega))
    have F32 := u21.then rfl (FR.idx (p := 86) (q := 90) u30 (by omega))
    refine wr_iinc (i := 3) (n := 1) (v := x20) (fun e33 => [(3, vi e33), (0, .ref 236), (1, vi 2), (2, vi (h 238 86))]) (nx := 68) (r1 := 0) (r2 := 0) (r3 := 0) rfl rfl (fun _ => rfl) (fun e33 (fe33 : e33 = x20 + 1) => ?_)
    refine wi_goto (nx := 71) (r1 := 22) (r2 := 0) (r3 := 0) rfl ?_
    refine wp.lo (lo := [(0, .ref 236), (1, vi 2), (2, vi (h 238 86)), (3, vi e33)]) ⟨rfl, rfl, rfl, rfl, trivial⟩ rfl ?_
    exact I21 e33 h30 ⟨g30, F31, F32, (show (0 ≤ e33 ∧ e33 ≤ 5) by omega)⟩ (show ((5 : Int) + 1 - e33).toNat < ((5 : Int) + 1 - x20).toNat by omega)
-- method 282: Model.leaves(I)I
set_option maxHeartbeats 100000000 in
theorem ct_282_236_L3 {L : Nat} {xs : Nat → Int32} {d b c : Nat} {h : hp} {cr : Nat → Nat → Option Nat} {Q : hp_Q} (hcr : CR cr)  (g : GI h)   (pp0 : h 238 98 + h 238 99 + h 238 100 + h 238 101 + h 238 102 + h 238 106 = h 238 73) (pp1 : h 238 73 ≤ h 238 2) (pp2 : h 238 119 ≤ h 238 67) (pp3 : h 238 69 ≤ h 238 5) (pp4 : h 238 2 ≤ 12 * h 238 5) (pp5 : 1 ≤ h 238 101) (pp6 : h 238 67 ≤ 9998) (pp7 : h 238 102 ≤ 2 ∨ h 238 (43 + (h 238 92).toNat) ≤ 0) (k : ∀ (h2 : hp) (z0 : Int) , GI h2 → FR [(238, 238, some (43, 54)), (238, 238, some (55, 66)), (238, 238, some (67, 67)), (238, 238, some (68, 68)), (238, 238, some (69, 69)), (238, 238, some (70, 70)), (238, 238, some (71, 71)), (238, 238, some (72, 72)), (238, 238, some (92, 96)), (238, 238, some (101, 101)), (238, 238, some (102, 102)), (238, 238, some (103, 105)), (238, 238, some (106, 106)), (238, 238, some (107, 118)), (238, 238, some (119, 119)), (238, 238, some (120, 196)), (238, 238, some (121, 197)), (238, 238, some (122, 198)), (238, 238, some (123, 199))] h h2 → (0 ≤ z0 ∧ z0 ≤ 11) → (h2 238 98 + h2 238 99 + h2 238 100 + h2 238 101 + h2 238 102 + h2 238 106 = h2 238 73) → (h2 238 73 ≤ h2 238 2) → (h2 238 119 ≤ h2 238 67) → (h2 238 69 ≤ h2 238 5) → (h2 238 2 ≤ 12 * h2 238 5) → Q (.inl (some (vi z0))) (hp_w h2 cr) b c) : wp (md_xa (L, xs)) (d + 2) 282 (0, [(0, .ref 236), (1, vi 3)], [], hp_w h cr, b, c) Q := by
  have F0 : FR [(238, 238, some (43, 54)), (238, 238, some (55, 66)), (238, 238, some (67, 67)), (238, 238, some (68, 68)), (238, 238, some (69, 69)), (238, 238, some (70, 70)), (238, 238, some (71, 71)), (238, 238, some (72, 72)), (238, 238, some (92, 96)), (238, 238, some (101, 101)), (238, 238, some (102, 102)), (238, 238, some (103, 105)), (238, 238, some (106, 106)), (238, 238, some (107, 118)), (238, 238, some (119, 119)), (238, 238, some (120, 196)), (238, 238, some (121, 197)), (238, 238, some (122, 198)), (238, 238, some (123, 199))] h h := FR.refl
  have b1 := gi_b (lo := 0) (hi := 6) g 238 98 rfl
  have b2 := gi_b (lo := 0) (hi := 6) g 238 99 rfl
  have b3 := gi_b (lo := 0) (hi := 6) g 238 100 rfl
  have b4 := gi_b (lo := 0) (hi := 6) g 238 101 rfl
  have b5 := gi_b (lo := 0) (hi := 3) g 238 102 rfl
  have b6 := gi_b (lo := 0) (hi := 12) g 238 106 rfl
  have b7 := gi_b (lo := 0) (hi := 12) g 238 73 rfl
  have b8 := gi_b (lo := 0) (hi := 12) g 238 2 rfl
  have b9 := gi_b (lo := 0) (hi := 9999) g 238 119 rfl
  have b10 := gi_b (lo := 0) (hi := 9999) g 238 67 rfl
  have b11 := gi_b (lo := 0) (hi := 9) g 238 69 rfl
  have b12 := gi_b (lo := 0) (hi := 9) g 238 5 rfl
  have b13 := gi_b (lo := 0) (hi := 11) g 238 92 rfl
  obtain ⟨i14, ei14⟩ : ∃ q : Nat, (43 + h 238 92) = (q : Int) := ⟨(43 + h 238 92).toNat, by omega⟩
  have b15 := gi_b (lo := 0) (hi := 999) g 238 i14 (gi_rg 43 12 (fun _ => rfl) (by decide +kernel) (by omega))
  have e16 : h 238 (43 + (h 238 92).toNat) = h 238 i14 := by rw [show 43 + (h 238 92).toNat = i14 by omega]
  refine wi_aload_n (i := 0) (x := 236) (nx := 1) (r1 := 0) (r2 := 0) (r3 := 0) rfl rfl ?_
  refine wi_iload_n (i := 1) (e := 3) (nx := 2) (r1 := 0) (r2 := 0) (r3 := 0) rfl rfl ?_
  refine wi_iconst (n := 0) (nx := 3) (r1 := 0) (r2 := 0) (r3 := 0) rfl ?_
  refine wr_V (k0 := 236) (rest := []) (as := [.ref 236, vi 3, vi 0]) (nx := 6) (r1 := 258) (r2 := 2) (r3 := 11) rfl rfl rfl (of_decide_eq_true rfl) rfl rfl (by decide) rfl rfl (of_decide_eq_true rfl) (of_decide_eq_true rfl) ?_
  refine wi_aload_n (i := 0) (x := 236) (nx := 1) (r1 := 0) (r2 := 0) (r3 := 0) rfl rfl ?_
  refine wr_gr (k0 := 236) (x := 238) (nx := 4) (r1 := 11) (r2 := 13) (r3 := 0) rfl rfl (by decide) rfl ⟨rfl, rfl⟩ rfl ?_
  refine wi_bipush (n := 74) (nx := 6) (r1 := 0) (r2 := 0) (r3 := 0) rfl (by decide) ?_
  refine wi_bipush (n := 6) (nx := 8) (r1 := 0) (r2 := 0) (r3 := 0) rfl (by decide) ?_
  refine wi_iload_n (i := 1) (e := 3) (nx := 9) (r1 := 0) (r2 := 0) (r3 := 0) rfl rfl ?_
  refine wr_mulL (18) (nx := 10) (r1 := 0) (r2 := 0) (r3 := 0) rfl (by decide) ?_
  refine wr_addL (92) (nx := 11) (r1 := 0) (r2 := 0) (r3 := 0) rfl (by decide) ?_
  refine wi_iload_n (i := 2) (e := 0) (nx := 12) (r1 := 0) (r2 := 0) (r3 := 0) rfl rfl ?_
  refine wr_addL (92) (nx := 13) (r1 := 0) (r2 := 0) (r3 := 0) rfl (by decide) ?_
  refine wr_ia (k0 := 238) (a := 92) (f := 92) (x := h 238 92) (nx := 14) (r1 := 0) (r2 := 0) (r3 := 0) rfl (by decide) rfl (by omega) (by omega) (by decide) rfl ?_
  refine wi_ireturn (nx := 15) (r1 := 0) (r2 := 0) (r3 := 0) rfl rfl ?_
  refine wk_i ?_
  refine wi_istore_n (i := 2) (e := h 238 92) (lo2 := [(2, vi (h 238 92)), (0, .ref 236), (1, vi 3)]) (nx := 7) (r1 := 0) (r2 := 0) (r3 := 0) rfl rfl ?_
  refine wi_aload_n (i := 0) (x := 236) (nx := 8) (r1 := 0) (r2 := 0) (r3 := 0) rfl rfl ?_
  refine wr_gr (k0 := 236) (x := 238) (nx := 11) (r1 := 11) (r2 := 13) (r3 := 0) rfl rfl (by decide) rfl ⟨rfl, rfl⟩ rfl ?_
  refine wi_bipush (n := 98) (nx := 13) (r1 := 0) (r2 := 0) (r3 := 0) rfl (by decide) ?_
  refine wi_iload_n (i := 1) (e := 3) (nx := 14) (r1 := 0) (r2 := 0) (r3 := 0) rfl rfl ?_
  refine wr_addL (101) (nx := 15) (r1 := 0) (r2 := 0) (r3 := 0) rfl (by decide) ?_
  refine wi_dup2 (nx := 16) (r1 := 0) (r2 := 0) (r3 := 0) rfl rfl rfl ?_
  refine wr_ia (k0 := 238) (a := 101) (f := 101) (x := h 238 101) (nx := 17) (r1 := 0) (r2 := 0) (r3 := 0) rfl (by decide) rfl (by omega) (by omega) (by decide) rfl ?_
  refine wi_iconst (n := 1) (nx := 18) (r1 := 0) (r2 := 0) (r3 := 0) rfl ?_
  refine wr_sub (nx := 19) (r1 := 0) (r2 := 0) (r3 := 0) rfl (fun e17 (fe17 : e17 = (h 238 101) - 1) => ?_)
  refine wr_is (k0 := 238) (a := 101) (f := 101) (x := e17) (bl := 0) (bh := 6) (nx := 20) (r1 := 0) (r2 := 0) (r3 := 0) rfl (by decide) rfl (by omega) (by omega) (by decide) g rfl (by omega) (fun h18 g18 w18 u18 => ?_)
  have F19 := F0.then rfl u18
  refine wi_iconst (n := 0) (nx := 21) (r1 := 0) (r2 := 0) (r3 := 0) rfl ?_
  refine wi_istore_n (i := 3) (e := 0) (lo2 := [(3, vi 0), (2, vi (h 238 92)), (0, .ref 236), (1, vi 3)]) (nx := 22) (r1 := 0) (r2 := 0) (r3 := 0) rfl rfl ?_
  refine wp.lo (lo := [(0, .ref 236), (1, vi 3), (2, vi (h 238 92)), (3, vi 0)]) ⟨rfl, rfl, rfl, rfl, trivial⟩ rfl ?_
  refine wl_1 (fun x20 h21 => GI h21 ∧ FR [(238, 238, some (43, 54)), (238, 238, some (55, 66)), (238, 238, some (67, 67)), (238, 238, some (68, 68)), (238, 238, some (69, 69)), (238, 238, some (70, 70)), (238, 238, some (71, 71)), (238, 238, some (72, 72)), (238, 238, some (92, 96)), (238, 238, some (101, 101)), (238, 238, some (102, 102)), (238, 238, some (103, 105)), (238, 238, some (106, 106)), (238, 238, some (107, 118)), (238, 238, some (119, 119)), (238, 238, some (120, 196)), (238, 238, some (121, 197)), (238, 238, some (122, 198)), (238, 238, some (123, 199))] h h21 ∧ FR [(238, 238, some (92, 96))] h18 h21 ∧ ((0 ≤ x20 ∧ x20 ≤ 5))) (fun x20 h21 => ((5 : Int) + 1 - x20).toNat) (fun x20 h21 => (22, [(0, .ref 236), (1, vi 3), (2, vi (h 238 92)), (3, vi x20)], [], hp_w h21 cr, b, c)) ?_ 0 h18 ⟨g18, F19, FR.refl, (show (0 ≤ 0 ∧ 0 ≤ 5) by omega)⟩
  intro x20 h21 ⟨g21, F22, u21, f21⟩ I21
  refine wi_iload_n (i := 3) (e := x20) (nx := 23) (r1 := 0) (r2 := 0) (r3 := 0) rfl rfl ?_
  refine wi_aload_n (i := 0) (x := 236) (nx := 24) (r1 := 0) (r2 := 0) (r3 := 0) rfl rfl ?_
  refine wr_gr (k0 := 236) (x := 238) (nx := 27) (r1 := 11) (r2 := 13) (r3 := 0) rfl rfl (by decide) rfl ⟨rfl, rfl⟩ rfl ?_
  refine wi_bipush (n := 98) (nx := 29) (r1 := 0) (r2 := 0) (r3 := 0) rfl (by decide) ?_
  refine wi_iload_n (i := 1) (e := 3) (nx := 30) (r1 := 0) (r2 := 0) (r3 := 0) rfl rfl ?_
  refine wr_addL (101) (nx := 31) (r1 := 0) (r2 := 0) (r3 := 0) rfl (by decide) ?_
  refine wr_ia (k0 := 238) (a := 101) (f := 101) (x := e17) (nx := 32) (r1 := 0) (r2 := 0) (r3 := 0) rfl (by decide) rfl (by omega) (by omega) (by decide) ((u21 238 101 rfl).trans w18) ?_
  refine wi_icmp (cd := .ge) (nx := 35) (r1 := 71) (r2 := 0) (r3 := 0) rfl (by omega) (by omega) (fun (q23 : e17 ≤ x20) => ?_) (fun (q23 : ¬ (e17 ≤ x20)) => ?_)
  ·
    refine wi_aload_n (i := 0) (x := 236) (nx := 72) (r1 := 0) (r2 := 0) (r3 := 0) rfl rfl ?_
    refine wi_iload_n (i := 2) (e := h 238 92) (nx := 73) (r1 := 0) (r2 := 0) (r3 := 0) rfl rfl ?_
    refine wr_V (k0 := 236) (rest := []) (as := [.ref 236, vi (h 238 92)]) (nx := 76) (r1 := 283) (r2 := 1) (r3 := 11) rfl rfl rfl (of_decide_eq_true rfl) rfl rfl (by decide) rfl rfl (of_decide_eq_true rfl) (of_decide_eq_true rfl) ?_
    have e25 : h21 238 67 = h 238 67 := ((u21 238 67 rfl).trans (u18 238 67 rfl))
    have e26 : h21 238 119 = h 238 119 := ((u21 238 119 rfl).trans (u18 238 119 rfl))
    have e27 : h21 238 69 = h 238 69 := ((u21 238 69 rfl).trans (u18 238 69 rfl))
    have e28 : h21 238 5 = h 238 5 := ((u21 238 5 rfl).trans (u18 238 5 rfl))
    refine ct_283_236 hcr  g21 (h 238 92) (by omega) (show (h21 238 67) ≤ 9998 by omega) (show (h21 238 119) ≤ (h21 238 67) by omega) (show (h21 238 69) ≤ (h21 238 5) by omega) (show 1 ≤ (h21 238 5) by omega) (fun h24 g24 u24 (p24_0 : (h24 238 119) ≤ (h24 238 67)) (p24_1 : (h24 238 69) ≤ (h24 238 5)) => ?_)
    have F29 := F22.then (by decide +kernel) u24
    have b30 := gi_b (lo := 0) (hi := 9999) g24 238 119 rfl
    have b31 := gi_b (lo := 0) (hi := 9999) g24 238 67 rfl
    have b32 := gi_b (lo := 0) (hi := 9) g24 238 69 rfl
    have e33 : h24 238 5 = h 238 5 := ((u24 238 5 rfl).trans ((u21 238 5 rfl).trans (u18 238 5 rfl)))
    refine wk_n ?_
    refine wi_aload_n (i := 0) (x := 236) (nx := 77) (r1 := 0) (r2 := 0) (r3 := 0) rfl rfl ?_
    refine wr_gr (k0 := 236) (x := 238) (nx := 80) (r1 := 11) (r2 := 13) (r3 := 0) rfl rfl (by decide) rfl ⟨rfl, rfl⟩ rfl ?_
    refine wi_bipush (n := 43) (nx := 82) (r1 := 0) (r2 := 0) (r3 := 0) rfl (by decide) ?_
    refine wi_iload_n (i := 2) (e := h 238 92) (nx := 83) (r1 := 0) (r2 := 0) (r3 := 0) rfl rfl ?_
    refine wr_add (nx := 84) (r1 := 0) (r2 := 0) (r3 := 0) rfl (fun e34 (fe34 : e34 = 43 + (h 238 92)) => ?_)
    refine wr_ia (k0 := 238) (a := e34) (f := i14) (x := h 238 i14) (nx := 85) (r1 := 0) (r2 := 0) (r3 := 0) rfl (by decide) rfl (by omega) (by omega) (by decide) ((u24 238 i14 (fn_i (by omega) (fn_i (by omega) (fn_i (by omega) (fn_i (by omega) (fn_i (by omega) (fn_i (by omega) (fn_i (by omega) (fn_i (by omega) (fn_i (by omega) (fn_i (by omega) (fn_i (by omega) fn_0)))))))))))).trans ((u21 238 i14 (fn_i (by omega) fn_0)).trans (u18 238 i14 (fn_i (by omega) fn_0)))) ?_
    refine wi_if (cd := .ne) (nx := 88) (r1 := 117) (r2 := 0) (r3 := 0) rfl (by omega) (fun (q35 : (h 238 i14) ≠ 0) => ?_) (fun (q35 : ¬ ((h 238 i14) ≠ 0)) => ?_)
    ·
      refine wi_aload_n (i := 0) (x := 236) (nx := 118) (r1 := 0) (r2 := 0) (r3 := 0) rfl rfl ?_
      refine wr_gr (k0 := 236) (x := 238) (nx := 121) (r1 := 11) (r2 := 13) (r3 := 0) rfl rfl (by decide) rfl ⟨rfl, rfl⟩ rfl ?_
      refine wi_bipush (n := 43) (nx := 123) (r1 := 0) (r2 := 0) (r3 := 0) rfl (by decide) ?_
      refine wi_iload_n (i := 2) (e := h 238 92) (nx := 124) (r1 := 0) (r2 := 0) (r3 := 0) rfl rfl ?_
      refine wr_add (nx := 125) (r1 := 0) (r2 := 0) (r3 := 0) rfl (fun e36 (fe36 : e36 = 43 + (h 238 92)) => ?_)
      refine wi_dup2 (nx := 126) (r1 := 0) (r2 := 0) (r3 := 0) rfl rfl rfl ?_
      refine wr_ia (k0 := 238) (a := e36) (f := i14) (x := h 238 i14) (nx := 127) (r1 := 0) (r2 := 0) (r3 := 0) rfl (by decide) rfl (by omega) (by omega) (by decide) ((u24 238 i14 (fn_i (by omega) (fn_i (by omega) (fn_i (by omega) (fn_i (by omega) (fn_i (by omega) (fn_i (by omega) (fn_i (by omega) (fn_i (by omega) (fn_i (by omega) (fn_i (by omega) (fn_i (by omega) fn_0)))))))))))).trans ((u21 238 i14 (fn_i (by omega) fn_0)).trans (u18 238 i14 (fn_i (by omega) fn_0)))) ?_
      refine wi_iconst (n := 1) (nx := 128) (r1 := 0) (r2 := 0) (r3 := 0) rfl ?_
      refine wr_sub (nx := 129) (r1 := 0) (r2 := 0) (r3 := 0) rfl (fun e37 (fe37 : e37 = (h 238 i14) - 1) => ?_)
      refine wr_is (k0 := 238) (a := e36) (f := i14) (x := e37) (bl := 0) (bh := 999) (nx := 130) (r1 := 0) (r2 := 0) (r3 := 0) rfl (by decide) rfl (by omega) (by omega) (by decide) g24 (gi_rg 43 12 (fun _ => rfl) (by decide +kernel) (by omega)) (by omega) (fun h38 g38 w38 u38 => ?_)
      have F39 := F29.then rfl (FR.idx (p := 43) (q := 54) u38 (by omega))
      refine wi_aload_n (i := 0) (x := 236) (nx := 131) (r1 := 0) (r2 := 0) (r3 := 0) rfl rfl ?_
      refine wr_gr (k0 := 236) (x := 238) (nx := 134) (r1 := 11) (r2 := 13) (r3 := 0) rfl rfl (by decide) rfl ⟨rfl, rfl⟩ rfl ?_
      refine wi_bipush (n := 55) (nx := 136) (r1 := 0) (r2 := 0) (r3 := 0) rfl (by decide) ?_
      refine wi_iload_n (i := 2) (e := h 238 92) (nx := 137) (r1 := 0) (r2 := 0) (r3 := 0) rfl rfl ?_
      refine wr_add (nx := 138) (r1 := 0) (r2 := 0) (r3 := 0) rfl (fun e40 (fe40 : e40 = 55 + (h 238 92)) => ?_)
      refine wi_aload_n (i := 0) (x := 236) (nx := 139) (r1 := 0) (r2 := 0) (r3 := 0) rfl rfl ?_
      refine wr_gr (k0 := 236) (x := 238) (nx := 142) (r1 := 11) (r2 := 13) (r3 := 0) rfl rfl (by decide) rfl ⟨rfl, rfl⟩ rfl ?_
      refine wi_bipush (n := 67) (nx := 144) (r1 := 0) (r2 := 0) (r3 := 0) rfl (by decide) ?_
      refine wr_ia (k0 := 238) (a := 67) (f := 67) (x := h24 238 67) (nx := 145) (r1 := 0) (r2 := 0) (r3 := 0) rfl (by decide) rfl (by omega) (by omega) (by decide) (u38 238 67 (fn_i (by omega) fn_0)) ?_
      refine wi_aload_n (i := 0) (x := 236) (nx := 146) (r1 := 0) (r2 := 0) (r3 := 0) rfl rfl ?_
      refine wr_gr (k0 := 236) (x := 238) (nx := 149) (r1 := 11) (r2 := 13) (r3 := 0) rfl rfl (by decide) rfl ⟨rfl, rfl⟩ rfl ?_
      refine wi_bipush (n := 8) (nx := 151) (r1 := 0) (r2 := 0) (r3 := 0) rfl (by decide) ?_
      have b41 := gi_b (lo := 0) (hi := 999) g 238 8 rfl
      refine wr_ia (k0 := 238) (a := 8) (f := 8) (x := h 238 8) (nx := 152) (r1 := 0) (r2 := 0) (r3 := 0) rfl (by decide) rfl (by omega) (by omega) (by decide) ((u38 238 8 (fn_i (by omega) fn_0)).trans ((u24 238 8 rfl).trans ((u21 238 8 rfl).trans (u18 238 8 rfl)))) ?_
      refine wr_add (nx := 153) (r1 := 0) (r2 := 0) (r3 := 0) rfl (fun e42 (fe42 : e42 = (h24 238 67) + (h 238 8)) => ?_)
      obtain ⟨i43, ei43⟩ : ∃ q : Nat, e40 = (q : Int) := ⟨(e40).toNat, by omega⟩
      refine wr_is (k0 := 238) (a := e40) (f := i43) (x := e42) (bl := 0) (bh := 20000) (nx := 154) (r1 := 0) (r2 := 0) (r3 := 0) rfl (by decide) rfl (by omega) (by omega) (by decide) g38 (gi_rg 55 12 (fun _ => rfl) (by decide +kernel) (by omega)) (by omega) (fun h44 g44 w44 u44 => ?_)
      have F45 := F39.then rfl (FR.idx (p := 55) (q := 66) u44 (by omega))
      refine wi_aload_n (i := 0) (x := 236) (nx := 155) (r1 := 0) (r2 := 0) (r3 := 0) rfl rfl ?_
      refine wr_gr (k0 := 236) (x := 238) (nx := 158) (r1 := 11) (r2 := 13) (r3 := 0) rfl rfl (by decide) rfl ⟨rfl, rfl⟩ rfl ?_
      refine wi_bipush (n := 103) (nx := 160) (r1 := 0) (r2 := 0) (r3 := 0) rfl (by decide) ?_
      refine wi_aload_n (i := 0) (x := 236) (nx := 161) (r1 := 0) (r2 := 0) (r3 := 0) rfl rfl ?_
      refine wr_gr (k0 := 236) (x := 238) (nx := 164) (r1 := 11) (r2 := 13) (r3 := 0) rfl rfl (by decide) rfl ⟨rfl, rfl⟩ rfl ?_
      refine wi_bipush (n := 102) (nx := 166) (r1 := 0) (r2 := 0) (r3 := 0) rfl (by decide) ?_
      refine wr_ia (k0 := 238) (a := 102) (f := 102) (x := h 238 102) (nx := 167) (r1 := 0) (r2 := 0) (r3 := 0) rfl (by decide) rfl (by omega) (by omega) (by decide) ((u44 238 102 (fn_i (by omega) fn_0)).trans ((u38 238 102 (fn_i (by omega) fn_0)).trans ((u24 238 102 rfl).trans ((u21 238 102 rfl).trans (u18 238 102 rfl))))) ?_
      refine wr_add (nx := 168) (r1 := 0) (r2 := 0) (r3 := 0) rfl (fun e46 (fe46 : e46 = 103 + (h 238 102)) => ?_)
      refine wi_iload_n (i := 2) (e := h 238 92) (nx := 169) (r1 := 0) (r2 := 0) (r3 := 0) rfl rfl ?_
      obtain ⟨i47, ei47⟩ : ∃ q : Nat, e46 = (q : Int) := ⟨(e46).toNat, by omega⟩
      refine wr_is (k0 := 238) (a := e46) (f := i47) (x := h 238 92) (bl := 0) (bh := 11) (nx := 170) (r1 := 0) (r2 := 0) (r3 := 0) rfl (by decide) rfl (by omega) (by omega) (by decide) g44 (gi_rg 103 3 (fun _ => rfl) (by decide +kernel) (by omega)) (by omega) (fun h48 g48 w48 u48 => ?_)
      have F49 := F45.then rfl (FR.idx (p := 103) (q := 105) u48 (by omega))
      refine wi_aload_n (i := 0) (x := 236) (nx := 171) (r1 := 0) (r2 := 0) (r3 := 0) rfl rfl ?_
      refine wr_gr (k0 := 236) (x := 238) (nx := 174) (r1 := 11) (r2 := 13) (r3 := 0) rfl rfl (by decide) rfl ⟨rfl, rfl⟩ rfl ?_
      refine wi_bipush (n := 102) (nx := 176) (r1 := 0) (r2 := 0) (r3 := 0) rfl (by decide) ?_
      refine wi_dup2 (nx := 177) (r1 := 0) (r2 := 0) (r3 := 0) rfl rfl rfl ?_
      refine wr_ia (k0 := 238) (a := 102) (f := 102) (x := h 238 102) (nx := 178) (r1 := 0) (r2 := 0) (r3 := 0) rfl (by decide) rfl (by omega) (by omega) (by decide) ((u48 238 102 (fn_i (by omega) fn_0)).trans ((u44 238 102 (fn_i (by omega) fn_0)).trans ((u38 238 102 (fn_i (by omega) fn_0)).trans ((u24 238 102 rfl).trans ((u21 238 102 rfl).trans (u18 238 102 rfl)))))) ?_
      refine wi_iconst (n := 1) (nx := 179) (r1 := 0) (r2 := 0) (r3 := 0) rfl ?_
      refine wr_add (nx := 180) (r1 := 0) (r2 := 0) (r3 := 0) rfl (fun e50 (fe50 : e50 = (h 238 102) + 1) => ?_)
      refine wr_is (k0 := 238) (a := 102) (f := 102) (x := e50) (bl := 0) (bh := 3) (nx := 181) (r1 := 0) (r2 := 0) (r3 := 0) rfl (by decide) rfl (by omega) (by omega) (by decide) g48 rfl (by omega) (fun h51 g51 w51 u51 => ?_)
      have F52 := F49.then rfl u51
      refine wi_iload_n (i := 2) (e := h 238 92) (nx := 182) (r1 := 0) (r2 := 0) (r3 := 0) rfl rfl ?_
      refine wi_ireturn (nx := 183) (r1 := 0) (r2 := 0) (r3 := 0) rfl rfl ?_
      have e53 : h51 238 98 = h 238 98 := ((u51 238 98 rfl).trans ((u48 238 98 (fn_i (by omega) fn_0)).trans ((u44 238 98 (fn_i (by omega) fn_0)).trans ((u38 238 98 (fn_i (by omega) fn_0)).trans ((u24 238 98 rfl).trans ((u21 238 98 rfl).trans (u18 238 98 rfl)))))))
      have e54 : h51 238 99 = h 238 99 := ((u51 238 99 rfl).trans ((u48 238 99 (fn_i (by omega) fn_0)).trans ((u44 238 99 (fn_i (by omega) fn_0)).trans ((u38 238 99 (fn_i (by omega) fn_0)).trans ((u24 238 99 rfl).trans ((u21 238 99 rfl).trans (u18 238 99 rfl)))))))
      have e55 : h51 238 100 = h 238 100 := ((u51 238 100 rfl).trans ((u48 238 100 (fn_i (by omega) fn_0)).trans ((u44 238 100 (fn_i (by omega) fn_0)).trans ((u38 238 100 (fn_i (by omega) fn_0)).trans ((u24 238 100 rfl).trans ((u21 238 100 rfl).trans (u18 238 100 rfl)))))))
      have e56 : h51 238 101 = e17 := ((u51 238 101 rfl).trans ((u48 238 101 (fn_i (by omega) fn_0)).trans ((u44 238 101 (fn_i (by omega) fn_0)).trans ((u38 238 101 (fn_i (by omega) fn_0)).trans ((u24 238 101 rfl).trans ((u21 238 101 rfl).trans w18))))))
      have e57 : h51 238 102 = e50 := w51
      have e58 : h51 238 106 = h 238 106 := ((u51 238 106 rfl).trans ((u48 238 106 (fn_i (by omega) fn_0)).trans ((u44 238 106 (fn_i (by omega) fn_0)).trans ((u38 238 106 (fn_i (by omega) fn_0)).trans ((u24 238 106 rfl).trans ((u21 238 106 rfl).trans (u18 238 106 rfl)))))))
      have e59 : h51 238 73 = h 238 73 := ((u51 238 73 rfl).trans ((u48 238 73 (fn_i (by omega) fn_0)).trans ((u44 238 73 (fn_i (by omega) fn_0)).trans ((u38 238 73 (fn_i (by omega) fn_0)).trans ((u24 238 73 rfl).trans ((u21 238 73 rfl).trans (u18 238 73 rfl)))))))
      have e60 : h51 238 2 = h 238 2 := ((u51 238 2 rfl).trans ((u48 238 2 (fn_i (by omega) fn_0)).trans ((u44 238 2 (fn_i (by omega) fn_0)).trans ((u38 238 2 (fn_i (by omega) fn_0)).trans ((u24 238 2 rfl).trans ((u21 238 2 rfl).trans (u18 238 2 rfl)))))))
      have e61 : h51 238 119 = h24 238 119 := ((u51 238 119 rfl).trans ((u48 238 119 (fn_i (by omega) fn_0)).trans ((u44 238 119 (fn_i (by omega) fn_0)).trans (u38 238 119 (fn_i (by omega) fn_0)))))
      have e62 : h51 238 67 = h24 238 67 := ((u51 238 67 rfl).trans ((u48 238 67 (fn_i (by omega) fn_0)).trans ((u44 238 67 (fn_i (by omega) fn_0)).trans (u38 238 67 (fn_i (by omega) fn_0)))))
      have e63 : h51 238 69 = h24 238 69 := ((u51 238 69 rfl).trans ((u48 238 69 (fn_i (by omega) fn_0)).trans ((u44 238 69 (fn_i (by omega) fn_0)).trans (u38 238 69 (fn_i (by omega) fn_0)))))
      have e64 : h51 238 5 = h 238 5 := ((u51 238 5 rfl).trans ((u48 238 5 (fn_i (by omega) fn_0)).trans ((u44 238 5 (fn_i (by omega) fn_0)).trans ((u38 238 5 (fn_i (by omega) fn_0)).trans ((u24 238 5 rfl).trans ((u21 238 5 rfl).trans (u18 238 5 rfl)))))))
      exact k h51 (h 238 92) g51 F52 (by omega) (show (h51 238 98) + (h51 238 99) + (h51 238 100) + (h51 238 101) + (h51 238 102) + (h51 238 106) = (h51 238 73) by omega) (show (h51 238 73) ≤ (h51 238 2) by omega) (show (h51 238 119) ≤ (h51 238 67) by omega) (show (h51 238 69) ≤ (h51 238 5) by omega) (show (h51 238 2) ≤ 12 * (h51 238 5) by omega)
    ·
      refine wi_aload_n (i := 0) (x := 236) (nx := 89) (r1 := 0) (r2 := 0) (r3 := 0) rfl rfl ?_
      refine wr_gr (k0 := 236) (x := 238) (nx := 92) (r1 := 11) (r2 := 13) (r3 := 0) rfl rfl (by decide) rfl ⟨rfl, rfl⟩ rfl ?_
      refine wi_bipush (n := 107) (nx := 94) (r1 := 0) (r2 := 0) (r3 := 0) rfl (by decide) ?_
      refine wi_aload_n (i := 0) (x := 236) (nx := 95) (r1 := 0) (r2 := 0) (r3 := 0) rfl rfl ?_
      refine wr_gr (k0 := 236) (x := 238) (nx := 98) (r1 := 11) (r2 := 13) (r3 := 0) rfl rfl (by decide) rfl ⟨rfl, rfl⟩ rfl ?_
      refine wi_bipush (n := 106) (nx := 100) (r1 := 0) (r2 := 0) (r3 := 0) rfl (by decide) ?_
      refine wr_ia (k0 := 238) (a := 106) (f := 106) (x := h 238 106) (nx := 101) (r1 := 0) (r2 := 0) (r3 := 0) rfl (by decide) rfl (by omega) (by omega) (by decide) ((u24 238 106 rfl).trans ((u21 238 106 rfl).trans (u18 238 106 rfl))) ?_
      refine wr_add (nx := 102) (r1 := 0) (r2 := 0) (r3 := 0) rfl (fun e36 (fe36 : e36 = 107 + (h 238 106)) => ?_)
      refine wi_iload_n (i := 2) (e := h 238 92) (nx := 103) (r1 := 0) (r2 := 0) (r3 := 0) rfl rfl ?_
      obtain ⟨i37, ei37⟩ : ∃ q : Nat, e36 = (q : Int) := ⟨(e36).toNat, by omega⟩
      refine wr_is (k0 := 238) (a := e36) (f := i37) (x := h 238 92) (bl := 0) (bh := 11) (nx := 104) (r1 := 0) (r2 := 0) (r3 := 0) rfl (by decide) rfl (by omega) (by omega) (by decide) g24 (gi_rg 107 12 (fun _ => rfl) (by decide +kernel) (by omega)) (by omega) (fun h38 g38 w38 u38 => ?_)
      have F39 := F29.then rfl (FR.idx (p := 107) (q := 118) u38 (by omega))
      refine wi_aload_n (i := 0) (x := 236) (nx := 105) (r1 := 0) (r2 := 0) (r3 := 0) rfl rfl ?_
      refine wr_gr (k0 := 236) (x := 238) (nx := 108) (r1 := 11) (r2 := 13) (r3 := 0) rfl rfl (by decide) rfl ⟨rfl, rfl⟩ rfl ?_
      refine wi_bipush (n := 106) (nx := 110) (r1 := 0) (r2 := 0) (r3 := 0) rfl (by decide) ?_
      refine wi_dup2 (nx := 111) (r1 := 0) (r2 := 0) (r3 := 0) rfl rfl rfl ?_
      refine wr_ia (k0 := 238) (a := 106) (f := 106) (x := h 238 106) (nx := 112) (r1 := 0) (r2 := 0) (r3 := 0) rfl (by decide) rfl (by omega) (by omega) (by decide) ((u38 238 106 (fn_i (by omega) fn_0)).trans ((u24 238 106 rfl).trans ((u21 238 106 rfl).trans (u18 238 106 rfl)))) ?_
      refine wi_iconst (n := 1) (nx := 113) (r1 := 0) (r2 := 0) (r3 := 0) rfl ?_
      refine wr_add (nx := 114) (r1 := 0) (r2 := 0) (r3 := 0) rfl (fun e40 (fe40 : e40 = (h 238 106) + 1) => ?_)
      refine wr_is (k0 := 238) (a := 106) (f := 106) (x := e40) (bl := 0) (bh := 12) (nx := 115) (r1 := 0) (r2 := 0) (r3 := 0) rfl (by decide) rfl (by omega) (by omega) (by decide) g38 rfl (by omega) (fun h41 g41 w41 u41 => ?_)
      have F42 := F39.then rfl u41
      refine wi_iload_n (i := 2) (e := h 238 92) (nx := 116) (r1 := 0) (r2 := 0) (r3 := 0) rfl rfl ?_
      refine wi_ireturn (nx := 117) (r1 := 0) (r2 := 0) (r3 := 0) rfl rfl ?_
      have e43 : h41 238 98 = h 238 98 := ((u41 238 98 rfl).trans ((u38 238 98 (fn_i (by omega) fn_0)).trans ((u24 238 98 rfl).trans ((u21 238 98 rfl).trans (u18 238 98 rfl)))))
      have e44 : h41 238 99 = h 238 99 := ((u41 238 99 rfl).trans ((u38 238 99 (fn_i (by omega) fn_0)).trans ((u24 238 99 rfl).trans ((u21 238 99 rfl).trans (u18 238 99 rfl)))))
      have e45 : h41 238 100 = h 238 100 := ((u41 238 100 rfl).trans ((u38 238 100 (fn_i (by omega) fn_0)).trans ((u24 238 100 rfl).trans ((u21 238 100 rfl).trans (u18 238 100 rfl)))))
      have e46 : h41 238 101 = e17 := ((u41 238 101 rfl).trans ((u38 238 101 (fn_i (by omega) fn_0)).trans ((u24 238 101 rfl).trans ((u21 238 101 rfl).trans w18))))
      have e47 : h41 238 102 = h 238 102 := ((u41 238 102 rfl).trans ((u38 238 102 (fn_i (by omega) fn_0)).trans ((u24 238 102 rfl).trans ((u21 238 102 rfl).trans (u18 238 102 rfl)))))
      have e48 : h41 238 106 = e40 := w41
      have e49 : h41 238 73 = h 238 73 := ((u41 238 73 rfl).trans ((u38 238 73 (fn_i (by omega) fn_0)).trans ((u24 238 73 rfl).trans ((u21 238 73 rfl).trans (u18 238 73 rfl)))))
      have e50 : h41 238 2 = h 238 2 := ((u41 238 2 rfl).trans ((u38 238 2 (fn_i (by omega) fn_0)).trans ((u24 238 2 rfl).trans ((u21 238 2 rfl).trans (u18 238 2 rfl)))))
      have e51 : h41 238 119 = h24 238 119 := ((u41 238 119 rfl).trans (u38 238 119 (fn_i (by omega) fn_0)))
      have e52 : h41 238 67 = h24 238 67 := ((u41 238 67 rfl).trans (u38 238 67 (fn_i (by omega) fn_0)))
      have e53 : h41 238 69 = h24 238 69 := ((u41 238 69 rfl).trans (u38 238 69 (fn_i (by omega) fn_0)))
      have e54 : h41 238 5 = h 238 5 := ((u41 238 5 rfl).trans ((u38 238 5 (fn_i (by omega) fn_0)).trans ((u24 238 5 rfl).trans ((u21 238 5 rfl).trans (u18 238 5 rfl)))))
      exact k h41 (h 238 92) g41 F42 (by omega) (show (h41 238 98) + (h41 238 99) + (h41 238 100) + (h41 238 101) + (h41 238 102) + (h41 238 106) = (h41 238 73) by omega) (show (h41 238 73) ≤ (h41 238 2) by omega) (show (h41 238 119) ≤ (h41 238 67) by omega) (show (h41 238 69) ≤ (h41 238 5) by omega) (show (h41 238 2) ≤ 12 * (h41 238 5) by omega)
  ·
    refine wi_aload_n (i := 0) (x := 236) (nx := 36) (r1 := 0) (r2 := 0) (r3 := 0) rfl rfl ?_
    refine wr_gr (k0 := 236) (x := 238) (nx := 39) (r1 := 11) (r2 := 13) (r3 := 0) rfl rfl (by decide) rfl ⟨rfl, rfl⟩ rfl ?_
    refine wi_bipush (n := 74) (nx := 41) (r1 := 0) (r2 := 0) (r3 := 0) rfl (by decide) ?_
    refine wi_bipush (n := 6) (nx := 43) (r1 := 0) (r2 := 0) (r3 := 0) rfl (by decide) ?_
    refine wi_iload_n (i := 1) (e := 3) (nx := 44) (r1 := 0) (r2 := 0) (r3 := 0) rfl rfl ?_
    refine wr_mulL (18) (nx := 45) (r1 := 0) (r2 := 0) (r3 := 0) rfl (by decide) ?_
    refine wr_addL (92) (nx := 46) (r1 := 0) (r2 := 0) (r3 := 0) rfl (by decide) ?_
    refine wi_iload_n (i := 3) (e := x20) (nx := 47) (r1 := 0) (r2 := 0) (r3 := 0) rfl rfl ?_
    refine wr_add (nx := 48) (r1 := 0) (r2 := 0) (r3 := 0) rfl (fun e24 (fe24 : e24 = 92 + x20) => ?_)
    refine wi_aload_n (i := 0) (x := 236) (nx := 49) (r1 := 0) (r2 := 0) (r3 := 0) rfl rfl ?_
    refine wr_gr (k0 := 236) (x := 238) (nx := 52) (r1 := 11) (r2 := 13) (r3 := 0) rfl rfl (by decide) rfl ⟨rfl, rfl⟩ rfl ?_
    refine wi_bipush (n := 74) (nx := 54) (r1 := 0) (r2 := 0) (r3 := 0) rfl (by decide) ?_
    refine wi_bipush (n := 6) (nx := 56) (r1 := 0) (r2 := 0) (r3 := 0) rfl (by decide) ?_
    refine wi_iload_n (i := 1) (e := 3) (nx := 57) (r1 := 0) (r2 := 0) (r3 := 0) rfl rfl ?_
    refine wr_mulL (18) (nx := 58) (r1 := 0) (r2 := 0) (r3 := 0) rfl (by decide) ?_
    refine wr_addL (92) (nx := 59) (r1 := 0) (r2 := 0) (r3 := 0) rfl (by decide) ?_
    refine wi_iload_n (i := 3) (e := x20) (nx := 60) (r1 := 0) (r2 := 0) (r3 := 0) rfl rfl ?_
    refine wr_add (nx := 61) (r1 := 0) (r2 := 0) (r3 := 0) rfl (fun e25 (fe25 : e25 = 92 + x20) => ?_)
    refine wi_iconst (n := 1) (nx := 62) (r1 := 0) (r2 := 0) (r3 := 0) rfl ?_
    refine wr_add (nx := 63) (r1 := 0) (r2 := 0) (r3 := 0) rfl (fun e26 (fe26 : e26 = e25 + 1) => ?_)
    obtain ⟨i27, ei27⟩ : ∃ q : Nat, e26 = (q : Int) := ⟨(e26).toNat, by omega⟩
    have b28 := gi_b (lo := 0) (hi := 11) g21 238 i27 (gi_rg 93 5 (fun _ => rfl) (by decide +kernel) (by omega))
    refine wr_ia (k0 := 238) (a := e26) (f := i27) (x := h21 238 i27) (nx := 64) (r1 := 0) (r2 := 0) (r3 := 0) rfl (by decide) rfl (by omega) (by omega) (by decide) rfl ?_
    obtain ⟨i29, ei29⟩ : ∃ q : Nat, e24 = (q : Int) := ⟨(e24).toNat, by omega⟩
    refine wr_is (k0 := 238) (a := e24) (f := i29) (x := h21 238 i27) (bl := 0) (bh := 11) (nx := 65) (r1 := 0) (r2 := 0) (r3 := 0) rfl (by decide) rfl (by omega) (by omega) (by decide) g21 (gi_rg 92 5 (fun _ => rfl) (by decide +kernel) (by omega)) (by omega) (fun h30 g30 w30 u30 => ?_)
    have F31 := F22.then rfl (FR.idx (p := 92) (q := 96) u30 (by omega))
    have F32 := u21.then rfl (FR.idx (p := 92) (q := 96) u30 (by omega))
    refine wr_iinc (i := 3) (n := 1) (v := x20) (fun e33 => [(3, vi e33), (0, .ref 236), (1, vi 3), (2, vi (h 238 92))]) (nx := 68) (r1 := 0) (r2 := 0) (r3 := 0) rfl rfl (fun _ => rfl) (fun e33 (fe33 : e33 = x20 + 1) => ?_)
    refine wi_goto (nx := 71) (r1 := 22) (r2 := 0) (r3 := 0) rfl ?_
    refine wp.lo (lo := [(0, .ref 236), (1, vi 3), (2, vi (h 238 92)), (3, vi e33)]) ⟨rfl, rfl, rfl, rfl, trivial⟩ rfl ?_
    exact I21 e33 h30 ⟨g30, F31, F32, (show (0 ≤ e33 ∧ e33 ≤ 5) by omega)⟩ (show ((5 : Int) + 1 - e33).toNat < ((5 : Int) + 1 - x20).toNat by omega)
