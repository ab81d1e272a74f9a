-- method 283: Model.paints(I)V
set_option maxHeartbeats 100000000 in
theorem ct_283_236 {L : Nat} {xs : Nat → Int32} {d b c : Nat} {h : hp} {cr : Nat → Nat → Option Nat} {Q : hp_Q} (hcr : CR cr)  (g : GI h) (a0 : Int) (q0_ : 0 ≤ a0 ∧ a0 ≤ 11) (pp0 : h 238 67 ≤ 9998) (pp1 : h 238 119 ≤ h 238 67) (pp2 : h 238 69 ≤ h 238 5) (pp3 : 1 ≤ h 238 5) (k : ∀ (h2 : hp) , GI h2 → FR [(238, 238, some (67, 67)), (238, 238, some (68, 68)), (238, 238, some (69, 69)), (238, 238, some (70, 70)), (238, 238, some (71, 71)), (238, 238, some (72, 72)), (238, 238, some (119, 119)), (238, 238, some (120, 196)), (238, 238, some (121, 197)), (238, 238, some (122, 198)), (238, 238, some (123, 199))] h h2 → (h2 238 119 ≤ h2 238 67) → (h2 238 69 ≤ h2 238 5) → Q (.inl none) (hp_w h2 cr) b c) : wp (md_xa (L, xs)) (d + 1) 283 (0, [(0, .ref 236), (1, vi a0)], [], hp_w h cr, b, c) Q := by
  have F0 : FR [(238, 238, some (67, 67)), (238, 238, some (68, 68)), (238, 238, some (69, 69)), (238, 238, some (70, 70)), (238, 238, some (71, 71)), (238, 238, some (72, 72)), (238, 238, some (119, 119)), (238, 238, some (120, 196)), (238, 238, some (121, 197)), (238, 238, some (122, 198)), (238, 238, some (123, 199))] h h := FR.refl
  have b1 := gi_b (lo := 0) (hi := 9999) g 238 67 rfl
  have b2 := gi_b (lo := 0) (hi := 9999) g 238 119 rfl
  have b3 := gi_b (lo := 0) (hi := 9) g 238 69 rfl
  have b4 := gi_b (lo := 0) (hi := 9) g 238 5 rfl
  refine wi_aload_n (i := 0) (x := 236) (nx := 1) (r1 := 0) (r2 := 0) (r3 := 0) rfl rfl ?_
  refine wr_gr (k0 := 236) (x := 238) (nx := 4) (r1 := 11) (r2 := 13) (r3 := 0) rfl rfl (by decide) rfl ⟨rfl, rfl⟩ rfl ?_
  refine wi_bipush (n := 31) (nx := 6) (r1 := 0) (r2 := 0) (r3 := 0) rfl (by decide) ?_
  refine wi_iload_n (i := 1) (e := a0) (nx := 7) (r1 := 0) (r2 := 0) (r3 := 0) rfl rfl ?_
  refine wr_add (nx := 8) (r1 := 0) (r2 := 0) (r3 := 0) rfl (fun e5 (fe5 : e5 = 31 + a0) => ?_)
  obtain ⟨i6, ei6⟩ : ∃ q : Nat, e5 = (q : Int) := ⟨(e5).toNat, by omega⟩
  have b7 := gi_b (lo := 0) (hi := 4) g 238 i6 (gi_rg 31 12 (fun _ => rfl) (by decide +kernel) (by omega))
  refine wr_ia (k0 := 238) (a := e5) (f := i6) (x := h 238 i6) (nx := 9) (r1 := 0) (r2 := 0) (r3 := 0) rfl (by decide) rfl (by omega) (by omega) (by decide) rfl ?_
  refine wi_istore_n (i := 2) (e := h 238 i6) (lo2 := [(2, vi (h 238 i6)), (0, .ref 236), (1, vi a0)]) (nx := 10) (r1 := 0) (r2 := 0) (r3 := 0) rfl rfl ?_
  refine wi_aload_n (i := 0) (x := 236) (nx := 11) (r1 := 0) (r2 := 0) (r3 := 0) rfl rfl ?_
  refine wr_gr (k0 := 236) (x := 238) (nx := 14) (r1 := 11) (r2 := 13) (r3 := 0) rfl rfl (by decide) rfl ⟨rfl, rfl⟩ rfl ?_
  refine wi_bipush (n := 68) (nx := 16) (r1 := 0) (r2 := 0) (r3 := 0) rfl (by decide) ?_
  have b8 := gi_b (lo := -1) (hi := 4) g 238 68 rfl
  refine wr_ia (k0 := 238) (a := 68) (f := 68) (x := h 238 68) (nx := 17) (r1 := 0) (r2 := 0) (r3 := 0) rfl (by decide) rfl (by omega) (by omega) (by decide) rfl ?_
  refine wi_iconst (n := (-1)) (nx := 18) (r1 := 0) (r2 := 0) (r3 := 0) rfl ?_
  refine wi_icmp (cd := .eq) (nx := 21) (r1 := 36) (r2 := 0) (r3 := 0) rfl (by omega) (by omega) (fun (q9 : (h 238 68) = (-1)) => ?_) (fun (q9 : ¬ ((h 238 68) = (-1))) => ?_)
  ·
    refine wi_iconst (n := 0) (nx := 37) (r1 := 0) (r2 := 0) (r3 := 0) rfl ?_
    refine wi_istore_n (i := 3) (e := 0) (lo2 := [(3, vi 0), (2, vi (h 238 i6)), (0, .ref 236), (1, vi a0)]) (nx := 38) (r1 := 0) (r2 := 0) (r3 := 0) rfl rfl ?_
    refine wi_aload_n (i := 0) (x := 236) (nx := 39) (r1 := 0) (r2 := 0) (r3 := 0) rfl rfl ?_
    refine wr_gr (k0 := 236) (x := 238) (nx := 42) (r1 := 11) (r2 := 13) (r3 := 0) rfl rfl (by decide) rfl ⟨rfl, rfl⟩ rfl ?_
    refine wi_bipush (n := 68) (nx := 44) (r1 := 0) (r2 := 0) (r3 := 0) rfl (by decide) ?_
    refine wr_ia (k0 := 238) (a := 68) (f := 68) (x := h 238 68) (nx := 45) (r1 := 0) (r2 := 0) (r3 := 0) rfl (by decide) rfl (by omega) (by omega) (by decide) rfl ?_
    refine wi_iload_n (i := 2) (e := h 238 i6) (nx := 46) (r1 := 0) (r2 := 0) (r3 := 0) rfl rfl ?_
    refine wi_icmp (cd := .ne) (nx := 49) (r1 := 69) (r2 := 0) (r3 := 0) rfl (by omega) (by omega) (fun (q10 : (h 238 68) ≠ (h 238 i6)) => ?_) (fun (q10 : ¬ ((h 238 68) ≠ (h 238 i6))) => by exfalso; omega)
    refine wi_iconst (n := 0) (nx := 70) (r1 := 0) (r2 := 0) (r3 := 0) rfl ?_
    refine wi_istore (i := 4) (e := 0) (lo2 := [(4, vi 0), (3, vi 0), (2, vi (h 238 i6)), (0, .ref 236), (1, vi a0)]) (nx := 72) (r1 := 0) (r2 := 0) (r3 := 0) rfl rfl ?_
    refine wi_iload_n (i := 3) (e := 0) (nx := 73) (r1 := 0) (r2 := 0) (r3 := 0) rfl rfl ?_
    refine wi_if (cd := .eq) (nx := 76) (r1 := 88) (r2 := 0) (r3 := 0) rfl (by omega) (fun (q11 : 0 = 0) => ?_) (fun (q11 : ¬ (0 = 0)) => by exfalso; omega)
    refine wi_iload (i := 4) (e := 0) (nx := 90) (r1 := 0) (r2 := 0) (r3 := 0) rfl rfl ?_
    refine wi_if (cd := .eq) (nx := 93) (r1 := 103) (r2 := 0) (r3 := 0) rfl (by omega) (fun (q12 : 0 = 0) => ?_) (fun (q12 : ¬ (0 = 0)) => by exfalso; omega)
    refine wi_iconst (n := 0) (nx := 104) (r1 := 0) (r2 := 0) (r3 := 0) rfl ?_
    refine wi_istore (i := 5) (e := 0) (lo2 := [(5, vi 0), (4, vi 0), (3, vi 0), (2, vi (h 238 i6)), (0, .ref 236), (1, vi a0)]) (nx := 106) (r1 := 0) (r2 := 0) (r3 := 0) rfl rfl ?_
    refine wi_aload_n (i := 0) (x := 236) (nx := 107) (r1 := 0) (r2 := 0) (r3 := 0) rfl rfl ?_
    refine wr_gr (k0 := 236) (x := 238) (nx := 110) (r1 := 11) (r2 := 13) (r3 := 0) rfl rfl (by decide) rfl ⟨rfl, rfl⟩ rfl ?_
    refine wi_bipush (n := 69) (nx := 112) (r1 := 0) (r2 := 0) (r3 := 0) rfl (by decide) ?_
    refine wi_aload_n (i := 0) (x := 236) (nx := 113) (r1 := 0) (r2 := 0) (r3 := 0) rfl rfl ?_
    refine wr_gr (k0 := 236) (x := 238) (nx := 116) (r1 := 11) (r2 := 13) (r3 := 0) rfl rfl (by decide) rfl ⟨rfl, rfl⟩ rfl ?_
    refine wi_bipush (n := 68) (nx := 118) (r1 := 0) (r2 := 0) (r3 := 0) rfl (by decide) ?_
    refine wr_ia (k0 := 238) (a := 68) (f := 68) (x := h 238 68) (nx := 119) (r1 := 0) (r2 := 0) (r3 := 0) rfl (by decide) rfl (by omega) (by omega) (by decide) rfl ?_
    refine wi_iload_n (i := 2) (e := h 238 i6) (nx := 120) (r1 := 0) (r2 := 0) (r3 := 0) rfl rfl ?_
    refine wi_icmp (cd := .ne) (nx := 123) (r1 := 140) (r2 := 0) (r3 := 0) rfl (by omega) (by omega) (fun (q13 : (h 238 68) ≠ (h 238 i6)) => ?_) (fun (q13 : ¬ ((h 238 68) ≠ (h 238 i6))) => by exfalso; omega)
    refine wi_iconst (n := 1) (nx := 141) (r1 := 0) (r2 := 0) (r3 := 0) rfl ?_
    refine wr_is (k0 := 238) (a := 69) (f := 69) (x := 1) (bl := 0) (bh := 9) (nx := 142) (r1 := 0) (r2 := 0) (r3 := 0) rfl (by decide) rfl (by omega) (by omega) (by decide) g rfl (by omega) (fun h14 g14 w14 u14 => ?_)
    have F15 := F0.then rfl u14
    refine wi_aload_n (i := 0) (x := 236) (nx := 143) (r1 := 0) (r2 := 0) (r3 := 0) rfl rfl ?_
    refine wr_gr (k0 := 236) (x := 238) (nx := 146) (r1 := 11) (r2 := 13) (r3 := 0) rfl rfl (by decide) rfl ⟨rfl, rfl⟩ rfl ?_
    refine wi_bipush (n := 68) (nx := 148) (r1 := 0) (r2 := 0) (r3 := 0) rfl (by decide) ?_
    refine wi_iload_n (i := 2) (e := h 238 i6) (nx := 149) (r1 := 0) (r2 := 0) (r3 := 0) rfl rfl ?_
    refine wr_is (k0 := 238) (a := 68) (f := 68) (x := h 238 i6) (bl := -1) (bh := 4) (nx := 150) (r1 := 0) (r2 := 0) (r3 := 0) rfl (by decide) rfl (by omega) (by omega) (by decide) g14 rfl (by omega) (fun h16 g16 w16 u16 => ?_)
    have F17 := F15.then rfl u16
    refine wi_aload_n (i := 0) (x := 236) (nx := 151) (r1 := 0) (r2 := 0) (r3 := 0) rfl rfl ?_
    refine wr_gr (k0 := 236) (x := 238) (nx := 154) (r1 := 11) (r2 := 13) (r3 := 0) rfl rfl (by decide) rfl ⟨rfl, rfl⟩ rfl ?_
    refine wi_bipush (n := 70) (nx := 156) (r1 := 0) (r2 := 0) (r3 := 0) rfl (by decide) ?_
    refine wi_dup2 (nx := 157) (r1 := 0) (r2 := 0) (r3 := 0) rfl rfl rfl ?_
    have b18 := gi_b (lo := -2147483648) (hi := 2147483647) g 238 70 rfl
    refine wr_ia (k0 := 238) (a := 70) (f := 70) (x := h 238 70) (nx := 158) (r1 := 0) (r2 := 0) (r3 := 0) rfl (by decide) rfl (by omega) (by omega) (by decide) ((u16 238 70 rfl).trans (u14 238 70 rfl)) ?_
    refine wi_iload_n (i := 3) (e := 0) (nx := 159) (r1 := 0) (r2 := 0) (r3 := 0) rfl rfl ?_
    refine wi_S (rest := [vi (h 238 70), vi 70, .ref 238]) (as := [vi 0]) (nx := 162) (r1 := 207) (r2 := 17) (r3 := 0) rfl rfl rfl (of_decide_eq_true rfl) rfl rfl (of_decide_eq_true rfl) (of_decide_eq_true rfl) ?_
    refine wi_iload_n (i := 0) (e := 0) (nx := 1) (r1 := 0) (r2 := 0) (r3 := 0) rfl rfl ?_
    refine wi_if (cd := .eq) (nx := 4) (r1 := 8) (r2 := 0) (r3 := 0) rfl (by omega) (fun (q19 : 0 = 0) => ?_) (fun (q19 : ¬ (0 = 0)) => by exfalso; omega)
    refine wi_iconst (n := 0) (nx := 9) (r1 := 0) (r2 := 0) (r3 := 0) rfl ?_
    refine wi_ireturn (nx := 10) (r1 := 0) (r2 := 0) (r3 := 0) rfl rfl ?_
    refine wk_i ?_
    refine wr_add (nx := 163) (r1 := 0) (r2 := 0) (r3 := 0) rfl (fun e20 (fe20 : e20 = (h 238 70) + 0) => ?_)
    refine wr_is (k0 := 238) (a := 70) (f := 70) (x := e20) (bl := -2147483648) (bh := 2147483647) (nx := 164) (r1 := 0) (r2 := 0) (r3 := 0) rfl (by decide) rfl (by omega) (by omega) (by decide) g16 rfl (by omega) (fun h21 g21 w21 u21 => ?_)
    have F22 := F17.then rfl u21
    refine wi_aload_n (i := 0) (x := 236) (nx := 165) (r1 := 0) (r2 := 0) (r3 := 0) rfl rfl ?_
    refine wr_gr (k0 := 236) (x := 238) (nx := 168) (r1 := 11) (r2 := 13) (r3 := 0) rfl rfl (by decide) rfl ⟨rfl, rfl⟩ rfl ?_
    refine wi_bipush (n := 71) (nx := 170) (r1 := 0) (r2 := 0) (r3 := 0) rfl (by decide) ?_
    refine wi_dup2 (nx := 171) (r1 := 0) (r2 := 0) (r3 := 0) rfl rfl rfl ?_
    have b23 := gi_b (lo := -2147483648) (hi := 2147483647) g 238 71 rfl
    refine wr_ia (k0 := 238) (a := 71) (f := 71) (x := h 238 71) (nx := 172) (r1 := 0) (r2 := 0) (r3 := 0) rfl (by decide) rfl (by omega) (by omega) (by decide) ((u21 238 71 rfl).trans ((u16 238 71 rfl).trans (u14 238 71 rfl))) ?_
    refine wi_iload (i := 4) (e := 0) (nx := 174) (r1 := 0) (r2 := 0) (r3 := 0) rfl rfl ?_
    refine wi_S (rest := [vi (h 238 71), vi 71, .ref 238]) (as := [vi 0]) (nx := 177) (r1 := 207) (r2 := 17) (r3 := 0) rfl rfl rfl (of_decide_eq_true rfl) rfl rfl (of_decide_eq_true rfl) (of_decide_eq_true rfl) ?_
    refine wi_iload_n (i := 0) (e := 0) (nx := 1) (r1 := 0) (r2 := 0) (r3 := 0) rfl rfl ?_
    refine wi_if (cd := .eq) (nx := 4) (r1 := 8) (r2 := 0) (r3 := 0) rfl (by omega) (fun (q24 : 0 = 0) => ?_) (fun (q24 : ¬ (0 = 0)) => by exfalso; omega)
    refine wi_iconst (n := 0) (nx := 9) (r1 := 0) (r2 := 0) (r3 := 0) rfl ?_
    refine wi_ireturn (nx := 10) (r1 := 0) (r2 := 0) (r3 := 0) rfl rfl ?_
    refine wk_i ?_
    refine wr_add (nx := 178) (r1 := 0) (r2 := 0) (r3 := 0) rfl (fun e25 (fe25 : e25 = (h 238 71) + 0) => ?_)
    refine wr_is (k0 := 238) (a := 71) (f := 71) (x := e25) (bl := -2147483648) (bh := 2147483647) (nx := 179) (r1 := 0) (r2 := 0) (r3 := 0) rfl (by decide) rfl (by omega) (by omega) (by decide) g21 rfl (by omega) (fun h26 g26 w26 u26 => ?_)
    have F27 := F22.then rfl u26
    refine wi_aload_n (i := 0) (x := 236) (nx := 180) (r1 := 0) (r2 := 0) (r3 := 0) rfl rfl ?_
    refine wr_gr (k0 := 236) (x := 238) (nx := 183) (r1 := 11) (r2 := 13) (r3 := 0) rfl rfl (by decide) rfl ⟨rfl, rfl⟩ rfl ?_
    refine wi_bipush (n := 72) (nx := 185) (r1 := 0) (r2 := 0) (r3 := 0) rfl (by decide) ?_
    refine wi_dup2 (nx := 186) (r1 := 0) (r2 := 0) (r3 := 0) rfl rfl rfl ?_
    have b28 := gi_b (lo := -2147483648) (hi := 2147483647) g 238 72 rfl
    refine wr_ia (k0 := 238) (a := 72) (f := 72) (x := h 238 72) (nx := 187) (r1 := 0) (r2 := 0) (r3 := 0) rfl (by decide) rfl (by omega) (by omega) (by decide) ((u26 238 72 rfl).trans ((u21 238 72 rfl).trans ((u16 238 72 rfl).trans (u14 238 72 rfl)))) ?_
    refine wi_iload (i := 5) (e := 0) (nx := 189) (r1 := 0) (r2 := 0) (r3 := 0) rfl rfl ?_
    refine wr_add (nx := 190) (r1 := 0) (r2 := 0) (r3 := 0) rfl (fun e29 (fe29 : e29 = (h 238 72) + 0) => ?_)
    refine wr_is (k0 := 238) (a := 72) (f := 72) (x := e29) (bl := -2147483648) (bh := 2147483647) (nx := 191) (r1 := 0) (r2 := 0) (r3 := 0) rfl (by decide) rfl (by omega) (by omega) (by decide) g26 rfl (by omega) (fun h30 g30 w30 u30 => ?_)
    have F31 := F27.then rfl u30
    refine wi_aload_n (i := 0) (x := 236) (nx := 192) (r1 := 0) (r2 := 0) (r3 := 0) rfl rfl ?_
    refine wr_gr (k0 := 236) (x := 238) (nx := 195) (r1 := 11) (r2 := 13) (r3 := 0) rfl rfl (by decide) rfl ⟨rfl, rfl⟩ rfl ?_
    refine wi_bipush (n := 67) (nx := 197) (r1 := 0) (r2 := 0) (r3 := 0) rfl (by decide) ?_
    refine wi_dup2 (nx := 198) (r1 := 0) (r2 := 0) (r3 := 0) rfl rfl rfl ?_
    refine wr_ia (k0 := 238) (a := 67) (f := 67) (x := h 238 67) (nx := 199) (r1 := 0) (r2 := 0) (r3 := 0) rfl (by decide) rfl (by omega) (by omega) (by decide) ((u30 238 67 rfl).trans ((u26 238 67 rfl).trans ((u21 238 67 rfl).trans ((u16 238 67 rfl).trans (u14 238 67 rfl))))) ?_
    refine wi_iconst (n := 1) (nx := 200) (r1 := 0) (r2 := 0) (r3 := 0) rfl ?_
    refine wr_add (nx := 201) (r1 := 0) (r2 := 0) (r3 := 0) rfl (fun e32 (fe32 : e32 = (h 238 67) + 1) => ?_)
    refine wr_is (k0 := 238) (a := 67) (f := 67) (x := e32) (bl := 0) (bh := 9999) (nx := 202) (r1 := 0) (r2 := 0) (r3 := 0) rfl (by decide) rfl (by omega) (by omega) (by decide) g30 rfl (by omega) (fun h33 g33 w33 u33 => ?_)
    have F34 := F31.then rfl u33
    refine wi_bipush (n := 120) (nx := 204) (r1 := 0) (r2 := 0) (r3 := 0) rfl (by decide) ?_
    refine wi_iconst (n := 4) (nx := 205) (r1 := 0) (r2 := 0) (r3 := 0) rfl ?_
    refine wi_aload_n (i := 0) (x := 236) (nx := 206) (r1 := 0) (r2 := 0) (r3 := 0) rfl rfl ?_
    refine wr_gr (k0 := 236) (x := 238) (nx := 209) (r1 := 11) (r2 := 13) (r3 := 0) rfl rfl (by decide) rfl ⟨rfl, rfl⟩ rfl ?_
    refine wi_bipush (n := 119) (nx := 211) (r1 := 0) (r2 := 0) (r3 := 0) rfl (by decide) ?_
    refine wr_ia (k0 := 238) (a := 119) (f := 119) (x := h 238 119) (nx := 212) (r1 := 0) (r2 := 0) (r3 := 0) rfl (by decide) rfl (by omega) (by omega) (by decide) ((u33 238 119 rfl).trans ((u30 238 119 rfl).trans ((u26 238 119 rfl).trans ((u21 238 119 rfl).trans ((u16 238 119 rfl).trans (u14 238 119 rfl)))))) ?_
    refine wi_bipush (n := 20) (nx := 214) (r1 := 0) (r2 := 0) (r3 := 0) rfl (by decide) ?_
    refine wr_iremC (nx := 215) (r1 := 0) (r2 := 0) (r3 := 0) rfl (by omega) (by decide) (fun e35 (fe35 : e35 = (h 238 119) % 20) => ?_)
    refine wr_mul (nx := 216) (r1 := 0) (r2 := 0) (r3 := 0) rfl (fun e36 (fe36 : e36 = 4 * e35) => ?_)
    refine wr_add (nx := 217) (r1 := 0) (r2 := 0) (r3 := 0) rfl (fun e37 (fe37 : e37 = 120 + e36) => ?_)
    refine wi_istore (i := 6) (e := e37) (lo2 := [(6, vi e37), (5, vi 0), (4, vi 0), (3, vi 0), (2, vi (h 238 i6)), (0, .ref 236), (1, vi a0)]) (nx := 219) (r1 := 0) (r2 := 0) (r3 := 0) rfl rfl ?_
    refine wi_aload_n (i := 0) (x := 236) (nx := 220) (r1 := 0) (r2 := 0) (r3 := 0) rfl rfl ?_
    refine wr_gr (k0 := 236) (x := 238) (nx := 223) (r1 := 11) (r2 := 13) (r3 := 0) rfl rfl (by decide) rfl ⟨rfl, rfl⟩ rfl ?_
    refine wi_iload (i := 6) (e := e37) (nx := 225) (r1 := 0) (r2 := 0) (r3 := 0) rfl rfl ?_
    refine wi_iload_n (i := 1) (e := a0) (nx := 226) (r1 := 0) (r2 := 0) (r3 := 0) rfl rfl ?_
    obtain ⟨i38, ei38⟩ : ∃ q : Nat, e37 = (q : Int) := ⟨(e37).toNat, by omega⟩
    refine wr_is (k0 := 238) (a := e37) (f := i38) (x := a0) (bl := -2147483648) (bh := 2147483647) (nx := 227) (r1 := 0) (r2 := 0) (r3 := 0) rfl (by decide) rfl (by omega) (by omega) (by decide) g33 (gi_rg 120 77 (fun _ => rfl) (by decide +kernel) (by omega)) (by omega) (fun h39 g39 w39 u39 => ?_)
    have F40 := F34.then rfl (FR.idx (p := 120) (q := 196) u39 (by omega))
    refine wi_aload_n (i := 0) (x := 236) (nx := 228) (r1 := 0) (r2 := 0) (r3 := 0) rfl rfl ?_
    refine wr_gr (k0 := 236) (x := 238) (nx := 231) (r1 := 11) (r2 := 13) (r3 := 0) rfl rfl (by decide) rfl ⟨rfl, rfl⟩ rfl ?_
    refine wi_iload (i := 6) (e := e37) (nx := 233) (r1 := 0) (r2 := 0) (r3 := 0) rfl rfl ?_
    refine wi_iconst (n := 1) (nx := 234) (r1 := 0) (r2 := 0) (r3 := 0) rfl ?_
    refine wr_add (nx := 235) (r1 := 0) (r2 := 0) (r3 := 0) rfl (fun e41 (fe41 : e41 = e37 + 1) => ?_)
    refine wi_iload_n (i := 2) (e := h 238 i6) (nx := 236) (r1 := 0) (r2 := 0) (r3 := 0) rfl rfl ?_
    obtain ⟨i42, ei42⟩ : ∃ q : Nat, e41 = (q : Int) := ⟨(e41).toNat, by omega⟩
    refine wr_is (k0 := 238) (a := e41) (f := i42) (x := h 238 i6) (bl := -2147483648) (bh := 2147483647) (nx := 237) (r1 := 0) (r2 := 0) (r3 := 0) rfl (by decide) rfl (by omega) (by omega) (by decide) g39 (gi_rg 121 77 (fun _ => rfl) (by decide +kernel) (by omega)) (by omega) (fun h43 g43 w43 u43 => ?_)
    have F44 := F40.then rfl (FR.idx (p := 121) (q := 197) u43 (by omega))
    refine wi_aload_n (i := 0) (x := 236) (nx := 238) (r1 := 0) (r2 := 0) (r3 := 0) rfl rfl ?_
    refine wr_gr (k0 := 236) (x := 238) (nx := 241) (r1 := 11) (r2 := 13) (r3 := 0) rfl rfl (by decide) rfl ⟨rfl, rfl⟩ rfl ?_
    refine wi_iload (i := 6) (e := e37) (nx := 243) (r1 := 0) (r2 := 0) (r3 := 0) rfl rfl ?_
    refine wi_iconst (n := 2) (nx := 244) (r1 := 0) (r2 := 0) (r3 := 0) rfl ?_
    refine wr_add (nx := 245) (r1 := 0) (r2 := 0) (r3 := 0) rfl (fun e45 (fe45 : e45 = e37 + 2) => ?_)
    refine wi_iload (i := 5) (e := 0) (nx := 247) (r1 := 0) (r2 := 0) (r3 := 0) rfl rfl ?_
    obtain ⟨i46, ei46⟩ : ∃ q : Nat, e45 = (q : Int) := ⟨(e45).toNat, by omega⟩
    refine wr_is (k0 := 238) (a := e45) (f := i46) (x := 0) (bl := -2147483648) (bh := 2147483647) (nx := 248) (r1 := 0) (r2 := 0) (r3 := 0) rfl (by decide) rfl (by omega) (by omega) (by decide) g43 (gi_rg 122 77 (fun _ => rfl) (by decide +kernel) (by omega)) (by omega) (fun h47 g47 w47 u47 => ?_)
    have F48 := F44.then rfl (FR.idx (p := 122) (q := 198) u47 (by omega))
    refine wi_aload_n (i := 0) (x := 236) (nx := 249) (r1 := 0) (r2 := 0) (r3 := 0) rfl rfl ?_
    refine wr_gr (k0 := 236) (x := 238) (nx := 252) (r1 := 11) (r2 := 13) (r3 := 0) rfl rfl (by decide) rfl ⟨rfl, rfl⟩ rfl ?_
    refine wi_iload (i := 6) (e := e37) (nx := 254) (r1 := 0) (r2 := 0) (r3 := 0) rfl rfl ?_
    refine wi_iconst (n := 3) (nx := 255) (r1 := 0) (r2 := 0) (r3 := 0) rfl ?_
    refine wr_add (nx := 256) (r1 := 0) (r2 := 0) (r3 := 0) rfl (fun e49 (fe49 : e49 = e37 + 3) => ?_)
    refine wi_iload_n (i := 3) (e := 0) (nx := 257) (r1 := 0) (r2 := 0) (r3 := 0) rfl rfl ?_
    refine wi_S (rest := [vi e49, .ref 238]) (as := [vi 0]) (nx := 260) (r1 := 207) (r2 := 17) (r3 := 0) rfl rfl rfl (of_decide_eq_true rfl) rfl rfl (of_decide_eq_true rfl) (of_decide_eq_true rfl) ?_
    refine wi_iload_n (i := 0) (e := 0) (nx := 1) (r1 := 0) (r2 := 0) (r3 := 0) rfl rfl ?_
    refine wi_if (cd := .eq) (nx := 4) (r1 := 8) (r2 := 0) (r3 := 0) rfl (by omega) (fun (q50 : 0 = 0) => ?_) (fun (q50 : ¬ (0 = 0)) => by exfalso; omega)
    refine wi_iconst (n := 0) (nx := 9) (r1 := 0) (r2 := 0) (r3 := 0) rfl ?_
    refine wi_ireturn (nx := 10) (r1 := 0) (r2 := 0) (r3 := 0) rfl rfl ?_
    refine wk_i ?_
    refine wi_iload (i := 4) (e := 0) (nx := 262) (r1 := 0) (r2 := 0) (r3 := 0) rfl rfl ?_
    refine wi_S (rest := [vi 0, vi e49, .ref 238]) (as := [vi 0]) (nx := 265) (r1 := 207) (r2 := 17) (r3 := 0) rfl rfl rfl (of_decide_eq_true rfl) rfl rfl (of_decide_eq_true rfl) (of_decide_eq_true rfl) ?_
    refine wi_iload_n (i := 0) (e := 0) (nx := 1) (r1 := 0) (r2 := 0) (r3 := 0) rfl rfl ?_
    refine wi_if (cd := .eq) (nx := 4) (r1 := 8) (r2 := 0) (r3 := 0) rfl (by omega) (fun (q51 : 0 = 0) => ?_) (fun (q51 : ¬ (0 = 0)) => by exfalso; omega)
    refine wi_iconst (n := 0) (nx := 9) (r1 := 0) (r2 := 0) (r3 := 0) rfl ?_
    refine wi_ireturn (nx := 10) (r1 := 0) (r2 := 0) (r3 := 0) rfl rfl ?_
    refine wk_i ?_
    refine wi_iconst (n := 1) (nx := 266) (r1 := 0) (r2 := 0) (r3 := 0) rfl ?_
    refine wi_ishl (e := 0) (nx := 267) (r1 := 0) (r2 := 0) (r3 := 0) rfl (by decide) ?_
    refine wi_ior (e := 0) (nx := 268) (r1 := 0) (r2 := 0) (r3 := 0) rfl (by decide) ?_
    refine wi_aload_n (i := 0) (x := 236) (nx := 269) (r1 := 0) (r2 := 0) (r3 := 0) rfl rfl ?_
    refine wr_gr (k0 := 236) (x := 238) (nx := 272) (r1 := 11) (r2 := 13) (r3 := 0) rfl rfl (by decide) rfl ⟨rfl, rfl⟩ rfl ?_
    refine wi_bipush (n := 43) (nx := 274) (r1 := 0) (r2 := 0) (r3 := 0) rfl (by decide) ?_
    refine wi_iload_n (i := 1) (e := a0) (nx := 275) (r1 := 0) (r2 := 0) (r3 := 0) rfl rfl ?_
    refine wr_add (nx := 276) (r1 := 0) (r2 := 0) (r3 := 0) rfl (fun e52 (fe52 : e52 = 43 + a0) => ?_)
    obtain ⟨i53, ei53⟩ : ∃ q : Nat, e52 = (q : Int) := ⟨(e52).toNat, by omega⟩
    have b54 := gi_b (lo := 0) (hi := 999) g 238 i53 (gi_rg 43 12 (fun _ => rfl) (by decide +kernel) (by omega))
    refine wr_ia (k0 := 238) (a := e52) (f := i53) (x := h 238 i53) (nx := 277) (r1 := 0) (r2 := 0) (r3 := 0) rfl (by decide) rfl (by omega) (by omega) (by decide) ((u47 238 i53 (fn_i (by omega) fn_0)).trans ((u43 238 i53 (fn_i (by omega) fn_0)).trans ((u39 238 i53 (fn_i (by omega) fn_0)).trans ((u33 238 i53 (fn_i (by omega) fn_0)).trans ((u30 238 i53 (fn_i (by omega) fn_0)).trans ((u26 238 i53 (fn_i (by omega) fn_0)).trans ((u21 238 i53 (fn_i (by omega) fn_0)).trans ((u16 238 i53 (fn_i (by omega) fn_0)).trans (u14 238 i53 (fn_i (by omega) fn_0)))))))))) ?_
    refine wi_if (cd := .le) (nx := 280) (r1 := 284) (r2 := 0) (r3 := 0) rfl (by omega) (fun (q55 : (h 238 i53) ≤ 0) => ?_) (fun (q55 : ¬ ((h 238 i53) ≤ 0)) => ?_)
    ·
      refine wi_iconst (n := 0) (nx := 285) (r1 := 0) (r2 := 0) (r3 := 0) rfl ?_
      refine wi_S (rest := [vi 0, vi e49, .ref 238]) (as := [vi 0]) (nx := 288) (r1 := 207) (r2 := 17) (r3 := 0) rfl rfl rfl (of_decide_eq_true rfl) rfl rfl (of_decide_eq_true rfl) (of_decide_eq_true rfl) ?_
      refine wi_iload_n (i := 0) (e := 0) (nx := 1) (r1 := 0) (r2 := 0) (r3 := 0) rfl rfl ?_
      refine wi_if (cd := .eq) (nx := 4) (r1 := 8) (r2 := 0) (r3 := 0) rfl (by omega) (fun (q56 : 0 = 0) => ?_) (fun (q56 : ¬ (0 = 0)) => by exfalso; omega)
      refine wi_iconst (n := 0) (nx := 9) (r1 := 0) (r2 := 0) (r3 := 0) rfl ?_
      refine wi_ireturn (nx := 10) (r1 := 0) (r2 := 0) (r3 := 0) rfl rfl ?_
      refine wk_i ?_
      refine wi_iconst (n := 2) (nx := 289) (r1 := 0) (r2 := 0) (r3 := 0) rfl ?_
      refine wi_ishl (e := 0) (nx := 290) (r1 := 0) (r2 := 0) (r3 := 0) rfl (by decide) ?_
      refine wi_ior (e := 0) (nx := 291) (r1 := 0) (r2 := 0) (r3 := 0) rfl (by decide) ?_
      obtain ⟨i57, ei57⟩ : ∃ q : Nat, e49 = (q : Int) := ⟨(e49).toNat, by omega⟩
      refine wr_is (k0 := 238) (a := e49) (f := i57) (x := 0) (bl := -2147483648) (bh := 2147483647) (nx := 292) (r1 := 0) (r2 := 0) (r3 := 0) rfl (by decide) rfl (by omega) (by omega) (by decide) g47 (gi_rg 123 77 (fun _ => rfl) (by decide +kernel) (by omega)) (by omega) (fun h58 g58 w58 u58 => ?_)
      have F59 := F48.then rfl (FR.idx (p := 123) (q := 199) u58 (by omega))
      refine wi_aload_n (i := 0) (x := 236) (nx := 293) (r1 := 0) (r2 := 0) (r3 := 0) rfl rfl ?_
      refine wr_gr (k0 := 236) (x := 238) (nx := 296) (r1 := 11) (r2 := 13) (r3 := 0) rfl rfl (by decide) rfl ⟨rfl, rfl⟩ rfl ?_
      refine wi_bipush (n := 119) (nx := 298) (r1 := 0) (r2 := 0) (r3 := 0) rfl (by decide) ?_
      refine wi_dup2 (nx := 299) (r1 := 0) (r2 := 0) (r3 := 0) rfl rfl rfl ?_
      refine wr_ia (k0 := 238) (a := 119) (f := 119) (x := h 238 119) (nx := 300) (r1 := 0) (r2 := 0) (r3 := 0) rfl (by decide) rfl (by omega) (by omega) (by decide) ((u58 238 119 (fn_i (by omega) fn_0)).trans ((u47 238 119 (fn_i (by omega) fn_0)).trans ((u43 238 119 (fn_i (by omega) fn_0)).trans ((u39 238 119 (fn_i (by omega) fn_0)).trans ((u33 238 119 rfl).trans ((u30 238 119 rfl).trans ((u26 238 119 rfl).trans ((u21 238 119 rfl).trans ((u16 238 119 rfl).trans (u14 238 119 rfl)))))))))) ?_
      refine wi_iconst (n := 1) (nx := 301) (r1 := 0) (r2 := 0) (r3 := 0) rfl ?_
      refine wr_add (nx := 302) (r1 := 0) (r2 := 0) (r3 := 0) rfl (fun e60 (fe60 : e60 = (h 238 119) + 1) => ?_)
      refine wr_is (k0 := 238) (a := 119) (f := 119) (x := e60) (bl := 0) (bh := 9999) (nx := 303) (r1 := 0) (r2 := 0) (r3 := 0) rfl (by decide) rfl (by omega) (by omega) (by decide) g58 rfl (by omega) (fun h61 g61 w61 u61 => ?_)
      have F62 := F59.then rfl u61
      refine wi_return (nx := 304) (r1 := 0) (r2 := 0) (r3 := 0) rfl rfl ?_
      have e63 : h61 238 119 = e60 := w61
      have e64 : h61 238 67 = e32 := ((u61 238 67 rfl).trans ((u58 238 67 (fn_i (by omega) fn_0)).trans ((u47 238 67 (fn_i (by omega) fn_0)).trans ((u43 238 67 (fn_i (by omega) fn_0)).trans ((u39 238 67 (fn_i (by omega) fn_0)).trans w33)))))
      have e65 : h61 238 69 = 1 := ((u61 238 69 rfl).trans ((u58 238 69 (fn_i (by omega) fn_0)).trans ((u47 238 69 (fn_i (by omega) fn_0)).trans ((u43 238 69 (fn_i (by omega) fn_0)).trans ((u39 238 69 (fn_i (by omega) fn_0)).trans ((u33 238 69 rfl).trans ((u30 238 69 rfl).trans ((u26 238 69 rfl).trans ((u21 238 69 rfl).trans ((u16 238 69 rfl).trans w14))))))))))
      have e66 : h61 238 5 = h 238 5 := ((u61 238 5 rfl).trans ((u58 238 5 (fn_i (by omega) fn_0)).trans ((u47 238 5 (fn_i (by omega) fn_0)).trans ((u43 238 5 (fn_i (by omega) fn_0)).trans ((u39 238 5 (fn_i (by omega) fn_0)).trans ((u33 238 5 rfl).trans ((u30 238 5 rfl).trans ((u26 238 5 rfl).trans ((u21 238 5 rfl).trans ((u16 238 5 rfl).trans (u14 238 5 rfl)))))))))))
      exact k h61 g61 F62 (show (h61 238 119) ≤ (h61 238 67) by omega) (show (h61 238 69) ≤ (h61 238 5) by omega)
    ·
      refine wi_iconst (n := 1) (nx := 281) (r1 := 0) (r2 := 0) (r3 := 0) rfl ?_
      refine wi_goto (nx := 284) (r1 := 285) (r2 := 0) (r3 := 0) rfl ?_
      refine wi_S (rest := [vi 0, vi e49, .ref 238]) (as := [vi 1]) (nx := 288) (r1 := 207) (r2 := 17) (r3 := 0) rfl rfl rfl (of_decide_eq_true rfl) rfl rfl (of_decide_eq_true rfl) (of_decide_eq_true rfl) ?_
      refine wi_iload_n (i := 0) (e := 1) (nx := 1) (r1 := 0) (r2 := 0) (r3 := 0) rfl rfl ?_
      refine wi_if (cd := .eq) (nx := 4) (r1 := 8) (r2 := 0) (r3 := 0) rfl (by omega) (fun (q56 : 1 = 0) => by exfalso; omega) (fun (q56 : ¬ (1 = 0)) => ?_)
      refine wi_iconst (n := 1) (nx := 5) (r1 := 0) (r2 := 0) (r3 := 0) rfl ?_
      refine wi_goto (nx := 8) (r1 := 9) (r2 := 0) (r3 := 0) rfl ?_
      refine wi_ireturn (nx := 10) (r1 := 0) (r2 := 0) (r3 := 0) rfl rfl ?_
      refine wk_i ?_
      refine wi_iconst (n := 2) (nx := 289) (r1 := 0) (r2 := 0) (r3 := 0) rfl ?_
      refine wi_ishl (e := 4) (nx := 290) (r1 := 0) (r2 := 0) (r3 := 0) rfl (by decide) ?_
      refine wi_ior (e := 4) (nx := 291) (r1 := 0) (r2 := 0) (r3 := 0) rfl (by decide) ?_
      obtain ⟨i57, ei57⟩ : ∃ q : Nat, e49 = (q : Int) := ⟨(e49).toNat, by omega⟩
      refine wr_is (k0 := 238) (a := e49) (f := i57) (x := 4) (bl := -2147483648) (bh := 2147483647) (nx := 292) (r1 := 0) (r2 := 0) (r3 := 0) rfl (by decide) rfl (by omega) (by omega) (by decide) g47 (gi_rg 123 77 (fun _ => rfl) (by decide +kernel) (by omega)) (by omega) (fun h58 g58 w58 u58 => ?_)
      have F59 := F48.then rfl (FR.idx (p := 123) (q := 199) u58 (by omega))
      refine wi_aload_n (i := 0) (x := 236) (nx := 293) (r1 := 0) (r2 := 0) (r3 := 0) rfl rfl ?_
      refine wr_gr (k0 := 236) (x := 238) (nx := 296) (r1 := 11) (r2 := 13) (r3 := 0) rfl rfl (by decide) rfl ⟨rfl, rfl⟩ rfl ?_
      refine wi_bipush (n := 119) (nx := 298) (r1 := 0) (r2 := 0) (r3 := 0) rfl (by decide) ?_
      refine wi_dup2 (nx := 299) (r1 := 0) (r2 := 0) (r3 := 0) rfl rfl rfl ?_
      refine wr_ia (k0 := 238) (a := 119) (f := 119) (x := h 238 119) (nx := 300) (r1 := 0) (r2 := 0) (r3 := 0) rfl (by decide) rfl (by omega) (by omega) (by decide) ((u58 238 119 (fn_i (by omega) fn_0)).trans ((u47 238 119 (fn_i (by omega) fn_0)).trans ((u43 238 119 (fn_i (by omega) fn_0)).trans ((u39 238 119 (fn_i (by omega) fn_0)).trans ((u33 238 119 rfl).trans ((u30 238 119 rfl).trans ((u26 238 119 rfl).trans ((u21 238 119 rfl).trans ((u16 238 119 rfl).trans (u14 238 119 rfl)))))))))) ?_
      refine wi_iconst (n := 1) (nx := 301) (r1 := 0) (r2 := 0) (r3 := 0) rfl ?_
      refine wr_add (nx := 302) (r1 := 0) (r2 := 0) (r3 := 0) rfl (fun e60 (fe60 : e60 = (h 238 119) + 1) => ?_)
      refine wr_is (k0 := 238) (a := 119) (f := 119) (x := e60) (bl := 0) (bh := 9999) (nx := 303) (r1 := 0) (r2 := 0) (r3 := 0) rfl (by decide) rfl (by omega) (by omega) (by decide) g58 rfl (by omega) (fun h61 g61 w61 u61 => ?_)
      have F62 := F59.then rfl u61
      refine wi_return (nx := 304) (r1 := 0) (r2 := 0) (r3 := 0) rfl rfl ?_
      have e63 : h61 238 119 = e60 := w61
      have e64 : h61 238 67 = e32 := ((u61 238 67 rfl).trans ((u58 238 67 (fn_i (by omega) fn_0)).trans ((u47 238 67 (fn_i (by omega) fn_0)).trans ((u43 238 67 (fn_i (by omega) fn_0)).trans ((u39 238 67 (fn_i (by omega) fn_0)).trans w33)))))
      have e65 : h61 238 69 = 1 := ((u61 238 69 rfl).trans ((u58 238 69 (fn_i (by omega) fn_0)).trans ((u47 238 69 (fn_i (by omega) fn_0)).trans ((u43 238 69 (fn_i (by omega) fn_0)).trans ((u39 238 69 (fn_i (by omega) fn_0)).trans ((u33 238 69 rfl).trans ((u30 238 69 rfl).trans ((u26 238 69 rfl).trans ((u21 238 69 rfl).trans ((u16 238 69 rfl).trans w14))))))))))
      have e66 : h61 238 5 = h 238 5 := ((u61 238 5 rfl).trans ((u58 238 5 (fn_i (by omega) fn_0)).trans ((u47 238 5 (fn_i (by omega) fn_0)).trans ((u43 238 5 (fn_i (by omega) fn_0)).trans ((u39 238 5 (fn_i (by omega) fn_0)).trans ((u33 238 5 rfl).trans ((u30 238 5 rfl).trans ((u26 238 5 rfl).trans ((u21 238 5 rfl).trans ((u16 238 5 rfl).trans (u14 238 5 rfl)))))))))))
      exact k h61 g61 F62 (show (h61 238 119) ≤ (h61 238 67) by omega) (show (h61 238 69) ≤ (h61 238 5) by omega)
  ·
    refine wi_aload_n (i := 0) (x := 236) (nx := 22) (r1 := 0) (r2 := 0) (r3 := 0) rfl rfl ?_
    refine wr_gr (k0 := 236) (x := 238) (nx := 25) (r1 := 11) (r2 := 13) (r3 := 0) rfl rfl (by decide) rfl ⟨rfl, rfl⟩ rfl ?_
    refine wi_bipush (n := 68) (nx := 27) (r1 := 0) (r2 := 0) (r3 := 0) rfl (by decide) ?_
    refine wr_ia (k0 := 238) (a := 68) (f := 68) (x := h 238 68) (nx := 28) (r1 := 0) (r2 := 0) (r3 := 0) rfl (by decide) rfl (by omega) (by omega) (by decide) rfl ?_
    refine wi_iload_n (i := 2) (e := h 238 i6) (nx := 29) (r1 := 0) (r2 := 0) (r3 := 0) rfl rfl ?_
    refine wi_icmp (cd := .eq) (nx := 32) (r1 := 36) (r2 := 0) (r3 := 0) rfl (by omega) (by omega) (fun (q10 : (h 238 68) = (h 238 i6)) => ?_) (fun (q10 : ¬ ((h 238 68) = (h 238 i6))) => ?_)
    ·
      refine wi_iconst (n := 0) (nx := 37) (r1 := 0) (r2 := 0) (r3 := 0) rfl ?_
      refine wi_istore_n (i := 3) (e := 0) (lo2 := [(3, vi 0), (2, vi (h 238 i6)), (0, .ref 236), (1, vi a0)]) (nx := 38) (r1 := 0) (r2 := 0) (r3 := 0) rfl rfl ?_
      refine wi_aload_n (i := 0) (x := 236) (nx := 39) (r1 := 0) (r2 := 0) (r3 := 0) rfl rfl ?_
      refine wr_gr (k0 := 236) (x := 238) (nx := 42) (r1 := 11) (r2 := 13) (r3 := 0) rfl rfl (by decide) rfl ⟨rfl, rfl⟩ rfl ?_
      refine wi_bipush (n := 68) (nx := 44) (r1 := 0) (r2 := 0) (r3 := 0) rfl (by decide) ?_
      refine wr_ia (k0 := 238) (a := 68) (f := 68) (x := h 238 68) (nx := 45) (r1 := 0) (r2 := 0) (r3 := 0) rfl (by decide) rfl (by omega) (by omega) (by decide) rfl ?_
      refine wi_iload_n (i := 2) (e := h 238 i6) (nx := 46) (r1 := 0) (r2 := 0) (r3 := 0) rfl rfl ?_
      refine wi_icmp (cd := .ne) (nx := 49) (r1 := 69) (r2 := 0) (r3 := 0) rfl (by omega) (by omega) (fun (q11 : (h 238 68) ≠ (h 238 i6)) => by exfalso; omega) (fun (q11 : ¬ ((h 238 68) ≠ (h 238 i6))) => ?_)
      refine wi_aload_n (i := 0) (x := 236) (nx := 50) (r1 := 0) (r2 := 0) (r3 := 0) rfl rfl ?_
      refine wr_gr (k0 := 236) (x := 238) (nx := 53) (r1 := 11) (r2 := 13) (r3 := 0) rfl rfl (by decide) rfl ⟨rfl, rfl⟩ rfl ?_
      refine wi_bipush (n := 69) (nx := 55) (r1 := 0) (r2 := 0) (r3 := 0) rfl (by decide) ?_
      refine wr_ia (k0 := 238) (a := 69) (f := 69) (x := h 238 69) (nx := 56) (r1 := 0) (r2 := 0) (r3 := 0) rfl (by decide) rfl (by omega) (by omega) (by decide) rfl ?_
      refine wi_aload_n (i := 0) (x := 236) (nx := 57) (r1 := 0) (r2 := 0) (r3 := 0) rfl rfl ?_
      refine wr_gr (k0 := 236) (x := 238) (nx := 60) (r1 := 11) (r2 := 13) (r3 := 0) rfl rfl (by decide) rfl ⟨rfl, rfl⟩ rfl ?_
      refine wi_iconst (n := 5) (nx := 61) (r1 := 0) (r2 := 0) (r3 := 0) rfl ?_
      refine wr_ia (k0 := 238) (a := 5) (f := 5) (x := h 238 5) (nx := 62) (r1 := 0) (r2 := 0) (r3 := 0) rfl (by decide) rfl (by omega) (by omega) (by decide) rfl ?_
      refine wi_icmp (cd := .ne) (nx := 65) (r1 := 69) (r2 := 0) (r3 := 0) rfl (by omega) (by omega) (fun (q12 : (h 238 69) ≠ (h 238 5)) => ?_) (fun (q12 : ¬ ((h 238 69) ≠ (h 238 5))) => ?_)
      ·
        refine wi_iconst (n := 0) (nx := 70) (r1 := 0) (r2 := 0) (r3 := 0) rfl ?_
        refine wi_istore (i := 4) (e := 0) (lo2 := [(4, vi 0), (3, vi 0), (2, vi (h 238 i6)), (0, .ref 236), (1, vi a0)]) (nx := 72) (r1 := 0) (r2 := 0) (r3 := 0) rfl rfl ?_
        refine wi_iload_n (i := 3) (e := 0) (nx := 73) (r1 := 0) (r2 := 0) (r3 := 0) rfl rfl ?_
        refine wi_if (cd := .eq) (nx := 76) (r1 := 88) (r2 := 0) (r3 := 0) rfl (by omega) (fun (q13 : 0 = 0) => ?_) (fun (q13 : ¬ (0 = 0)) => by exfalso; omega)
        refine wi_iload (i := 4) (e := 0) (nx := 90) (r1 := 0) (r2 := 0) (r3 := 0) rfl rfl ?_
        refine wi_if (cd := .eq) (nx := 93) (r1 := 103) (r2 := 0) (r3 := 0) rfl (by omega) (fun (q14 : 0 = 0) => ?_) (fun (q14 : ¬ (0 = 0)) => by exfalso; omega)
        refine wi_iconst (n := 0) (nx := 104) (r1 := 0) (r2 := 0) (r3 := 0) rfl ?_
        refine wi_istore (i := 5) (e := 0) (lo2 := [(5, vi 0), (4, vi 0), (3, vi 0), (2, vi (h 238 i6)), (0, .ref 236), (1, vi a0)]) (nx := 106) (r1 := 0) (r2 := 0) (r3 := 0) rfl rfl ?_
        refine wi_aload_n (i := 0) (x := 236) (nx := 107) (r1 := 0) (r2 := 0) (r3 := 0) rfl rfl ?_
        refine wr_gr (k0 := 236) (x := 238) (nx := 110) (r1 := 11) (r2 := 13) (r3 := 0) rfl rfl (by decide) rfl ⟨rfl, rfl⟩ rfl ?_
        refine wi_bipush (n := 69) (nx := 112) (r1 := 0) (r2 := 0) (r3 := 0) rfl (by decide) ?_
        refine wi_aload_n (i := 0) (x := 236) (nx := 113) (r1 := 0) (r2 := 0) (r3 := 0) rfl rfl ?_
        refine wr_gr (k0 := 236) (x := 238) (nx := 116) (r1 := 11) (r2 := 13) (r3 := 0) rfl rfl (by decide) rfl ⟨rfl, rfl⟩ rfl ?_
        refine wi_bipush (n := 68) (nx := 118) (r1 := 0) (r2 := 0) (r3 := 0) rfl (by decide) ?_
        refine wr_ia (k0 := 238) (a := 68) (f := 68) (x := h 238 68) (nx := 119) (r1 := 0) (r2 := 0) (r3 := 0) rfl (by decide) rfl (by omega) (by omega) (by decide) rfl ?_
        refine wi_iload_n (i := 2) (e := h 238 i6) (nx := 120) (r1 := 0) (r2 := 0) (r3 := 0) rfl rfl ?_
        refine wi_icmp (cd := .ne) (nx := 123) (r1 := 140) (r2 := 0) (r3 := 0) rfl (by omega) (by omega) (fun (q15 : (h 238 68) ≠ (h 238 i6)) => by exfalso; omega) (fun (q15 : ¬ ((h 238 68) ≠ (h 238 i6))) => ?_)
        refine wi_iload (i := 4) (e := 0) (nx := 125) (r1 := 0) (r2 := 0) (r3 := 0) rfl rfl ?_
        refine wi_if (cd := .ne) (nx := 128) (r1 := 140) (r2 := 0) (r3 := 0) rfl (by omega) (fun (q16 : 0 ≠ 0) => by exfalso; omega) (fun (q16 : ¬ (0 ≠ 0)) => ?_)
        refine wi_aload_n (i := 0) (x := 236) (nx := 129) (r1 := 0) (r2 := 0) (r3 := 0) rfl rfl ?_
        refine wr_gr (k0 := 236) (x := 238) (nx := 132) (r1 := 11) (r2 := 13) (r3 := 0) rfl rfl (by decide) rfl ⟨rfl, rfl⟩ rfl ?_
        refine wi_bipush (n := 69) (nx := 134) (r1 := 0) (r2 := 0) (r3 := 0) rfl (by decide) ?_
        refine wr_ia (k0 := 238) (a := 69) (f := 69) (x := h 238 69) (nx := 135) (r1 := 0) (r2 := 0) (r3 := 0) rfl (by decide) rfl (by omega) (by omega) (by decide) rfl ?_
        refine wi_iconst (n := 1) (nx := 136) (r1 := 0) (r2 := 0) (r3 := 0) rfl ?_
        refine wr_add (nx := 137) (r1 := 0) (r2 := 0) (r3 := 0) rfl (fun e17 (fe17 : e17 = (h 238 69) + 1) => ?_)
        refine wi_goto (nx := 140) (r1 := 141) (r2 := 0) (r3 := 0) rfl ?_
        refine wr_is (k0 := 238) (a := 69) (f := 69) (x := e17) (bl := 0) (bh := 9) (nx := 142) (r1 := 0) (r2 := 0) (r3 := 0) rfl (by decide) rfl (by omega) (by omega) (by decide) g rfl (by omega) (fun h18 g18 w18 u18 => ?_)
        have F19 := F0.then rfl u18
        refine wi_aload_n (i := 0) (x := 236) (nx := 143) (r1 := 0) (r2 := 0) (r3 := 0) rfl rfl ?_
        refine wr_gr (k0 := 236) (x := 238) (nx := 146) (r1 := 11) (r2 := 13) (r3 := 0) rfl rfl (by decide) rfl ⟨rfl, rfl⟩ rfl ?_
        refine wi_bipush (n := 68) (nx := 148) (r1 := 0) (r2 := 0) (r3 := 0) rfl (by decide) ?_
        refine wi_iload_n (i := 2) (e := h 238 i6) (nx := 149) (r1 := 0) (r2 := 0) (r3 := 0) rfl rfl ?_
        refine wr_is (k0 := 238) (a := 68) (f := 68) (x := h 238 i6) (bl := -1) (bh := 4) (nx := 150) (r1 := 0) (r2 := 0) (r3 := 0) rfl (by decide) rfl (by omega) (by omega) (by decide) g18 rfl (by omega) (fun h20 g20 w20 u20 => ?_)
        have F21 := F19.then rfl u20
        refine wi_aload_n (i := 0) (x := 236) (nx := 151) (r1 := 0) (r2 := 0) (r3 := 0) rfl rfl ?_
        refine wr_gr (k0 := 236) (x := 238) (nx := 154) (r1 := 11) (r2 := 13) (r3 := 0) rfl rfl (by decide) rfl ⟨rfl, rfl⟩ rfl ?_
        refine wi_bipush (n := 70) (nx := 156) (r1 := 0) (r2 := 0) (r3 := 0) rfl (by decide) ?_
        refine wi_dup2 (nx := 157) (r1 := 0) (r2 := 0) (r3 := 0) rfl rfl rfl ?_
        have b22 := gi_b (lo := -2147483648) (hi := 2147483647) g 238 70 rfl
        refine wr_ia (k0 := 238) (a := 70) (f := 70) (x := h 238 70) (nx := 158) (r1 := 0) (r2 := 0) (r3 := 0) rfl (by decide) rfl (by omega) (by omega) (by decide) ((u20 238 70 rfl).trans (u18 238 70 rfl)) ?_
        refine wi_iload_n (i := 3) (e := 0) (nx := 159) (r1 := 0) (r2 := 0) (r3 := 0) rfl rfl ?_
        refine wi_S (rest := [vi (h 238 70), vi 70, .ref 238]) (as := [vi 0]) (nx := 162) (r1 := 207) (r2 := 17) (r3 := 0) rfl rfl rfl (of_decide_eq_true rfl) rfl rfl (of_decide_eq_true rfl) (of_decide_eq_true rfl) ?_
        refine wi_iload_n (i := 0) (e := 0) (nx := 1) (r1 := 0) (r2 := 0) (r3 := 0) rfl rfl ?_
        refine wi_if (cd := .eq) (nx := 4) (r1 := 8) (r2 := 0) (r3 := 0) rfl (by omega) (fun (q23 : 0 = 0) => ?_) (fun (q23 : ¬ (0 = 0)) => by exfalso; omega)
        refine wi_iconst (n := 0) (nx := 9) (r1 := 0) (r2 := 0) (r3 := 0) rfl ?_
        refine wi_ireturn (nx := 10) (r1 := 0) (r2 := 0) (r3 := 0) rfl rfl ?_
        refine wk_i ?_
        refine wr_add (nx := 163) (r1 := 0) (r2 := 0) (r3 := 0) rfl (fun e24 (fe24 : e24 = (h 238 70) + 0) => ?_)
        refine wr_is (k0 := 238) (a := 70) (f := 70) (x := e24) (bl := -2147483648) (bh := 2147483647) (nx := 164) (r1 := 0) (r2 := 0) (r3 := 0) rfl (by decide) rfl (by omega) (by omega) (by decide) g20 rfl (by omega) (fun h25 g25 w25 u25 => ?_)
        have F26 := F21.then rfl u25
        refine wi_aload_n (i := 0) (x := 236) (nx := 165) (r1 := 0) (r2 := 0) (r3 := 0) rfl rfl ?_
        refine wr_gr (k0 := 236) (x := 238) (nx := 168) (r1 := 11) (r2 := 13) (r3 := 0) rfl rfl (by decide) rfl ⟨rfl, rfl⟩ rfl ?_
        refine wi_bipush (n := 71) (nx := 170) (r1 := 0) (r2 := 0) (r3 := 0) rfl (by decide) ?_
        refine wi_dup2 (nx := 171) (r1 := 0) (r2 := 0) (r3 := 0) rfl rfl rfl ?_
        have b27 := gi_b (lo := -2147483648) (hi := 2147483647) g 238 71 rfl
        refine wr_ia (k0 := 238) (a := 71) (f := 71) (x := h 238 71) (nx := 172) (r1 := 0) (r2 := 0) (r3 := 0) rfl (by decide) rfl (by omega) (by omega) (by decide) ((u25 238 71 rfl).trans ((u20 238 71 rfl).trans (u18 238 71 rfl))) ?_
        refine wi_iload (i := 4) (e := 0) (nx := 174) (r1 := 0) (r2 := 0) (r3 := 0) rfl rfl ?_
        refine wi_S (rest := [vi (h 238 71), vi 71, .ref 238]) (as := [vi 0]) (nx := 177) (r1 := 207) (r2 := 17) (r3 := 0) rfl rfl rfl (of_decide_eq_true rfl) rfl rfl (of_decide_eq_true rfl) (of_decide_eq_true rfl) ?_
        refine wi_iload_n (i := 0) (e := 0) (nx := 1) (r1 := 0) (r2 := 0) (r3 := 0) rfl rfl ?_
        refine wi_if (cd := .eq) (nx := 4) (r1 := 8) (r2 := 0) (r3 := 0) rfl (by omega) (fun (q28 : 0 = 0) => ?_) (fun (q28 : ¬ (0 = 0)) => by exfalso; omega)
        refine wi_iconst (n := 0) (nx := 9) (r1 := 0) (r2 := 0) (r3 := 0) rfl ?_
        refine wi_ireturn (nx := 10) (r1 := 0) (r2 := 0) (r3 := 0) rfl rfl ?_
        refine wk_i ?_
        refine wr_add (nx := 178) (r1 := 0) (r2 := 0) (r3 := 0) rfl (fun e29 (fe29 : e29 = (h 238 71) + 0) => ?_)
        refine wr_is (k0 := 238) (a := 71) (f := 71) (x := e29) (bl := -2147483648) (bh := 2147483647) (nx := 179) (r1 := 0) (r2 := 0) (r3 := 0) rfl (by decide) rfl (by omega) (by omega) (by decide) g25 rfl (by omega) (fun h30 g30 w30 u30 => ?_)
        have F31 := F26.then rfl u30
        refine wi_aload_n (i := 0) (x := 236) (nx := 180) (r1 := 0) (r2 := 0) (r3 := 0) rfl rfl ?_
        refine wr_gr (k0 := 236) (x := 238) (nx := 183) (r1 := 11) (r2 := 13) (r3 := 0) rfl rfl (by decide) rfl ⟨rfl, rfl⟩ rfl ?_
        refine wi_bipush (n := 72) (nx := 185) (r1 := 0) (r2 := 0) (r3 := 0) rfl (by decide) ?_
        refine wi_dup2 (nx := 186) (r1 := 0) (r2 := 0) (r3 := 0) rfl rfl rfl ?_
        have b32 := gi_b (lo := -2147483648) (hi := 2147483647) g 238 72 rfl
        refine wr_ia (k0 := 238) (a := 72) (f := 72) (x := h 238 72) (nx := 187) (r1 := 0) (r2 := 0) (r3 := 0) rfl (by decide) rfl (by omega) (by omega) (by decide) ((u30 238 72 rfl).trans ((u25 238 72 rfl).trans ((u20 238 72 rfl).trans (u18 238 72 rfl)))) ?_
        refine wi_iload (i := 5) (e := 0) (nx := 189) (r1 := 0) (r2 := 0) (r3 := 0) rfl rfl ?_
        refine wr_add (nx := 190) (r1 := 0) (r2 := 0) (r3 := 0) rfl (fun e33 (fe33 : e33 = (h 238 72) + 0) => ?_)
        refine wr_is (k0 := 238) (a := 72) (f := 72) (x := e33) (bl := -2147483648) (bh := 2147483647) (nx := 191) (r1 := 0) (r2 := 0) (r3 := 0) rfl (by decide) rfl (by omega) (by omega) (by decide) g30 rfl (by omega) (fun h34 g34 w34 u34 => ?_)
        have F35 := F31.then rfl u34
        refine wi_aload_n (i := 0) (x := 236) (nx := 192) (r1 := 0) (r2 := 0) (r3 := 0) rfl rfl ?_
        refine wr_gr (k0 := 236) (x := 238) (nx := 195) (r1 := 11) (r2 := 13) (r3 := 0) rfl rfl (by decide) rfl ⟨rfl, rfl⟩ rfl ?_
        refine wi_bipush (n := 67) (nx := 197) (r1 := 0) (r2 := 0) (r3 := 0) rfl (by decide) ?_
        refine wi_dup2 (nx := 198) (r1 := 0) (r2 := 0) (r3 := 0) rfl rfl rfl ?_
        refine wr_ia (k0 := 238) (a := 67) (f := 67) (x := h 238 67) (nx := 199) (r1 := 0) (r2 := 0) (r3 := 0) rfl (by decide) rfl (by omega) (by omega) (by decide) ((u34 238 67 rfl).trans ((u30 238 67 rfl).trans ((u25 238 67 rfl).trans ((u20 238 67 rfl).trans (u18 238 67 rfl))))) ?_
        refine wi_iconst (n := 1) (nx := 200) (r1 := 0) (r2 := 0) (r3 := 0) rfl ?_
        refine wr_add (nx := 201) (r1 := 0) (r2 := 0) (r3 := 0) rfl (fun e36 (fe36 : e36 = (h 238 67) + 1) => ?_)
        refine wr_is (k0 := 238) (a := 67) (f := 67) (x := e36) (bl := 0) (bh := 9999) (nx := 202) (r1 := 0) (r2 := 0) (r3 := 0) rfl (by decide) rfl (by omega) (by omega) (by decide) g34 rfl (by omega) (fun h37 g37 w37 u37 => ?_)
        have F38 := F35.then rfl u37
        refine wi_bipush (n := 120) (nx := 204) (r1 := 0) (r2 := 0) (r3 := 0) rfl (by decide) ?_
        refine wi_iconst (n := 4) (nx := 205) (r1 := 0) (r2 := 0) (r3 := 0) rfl ?_
        refine wi_aload_n (i := 0) (x := 236) (nx := 206) (r1 := 0) (r2 := 0) (r3 := 0) rfl rfl ?_
        refine wr_gr (k0 := 236) (x := 238) (nx := 209) (r1 := 11) (r2 := 13) (r3 := 0) rfl rfl (by decide) rfl ⟨rfl, rfl⟩ rfl ?_
        refine wi_bipush (n := 119) (nx := 211) (r1 := 0) (r2 := 0) (r3 := 0) rfl (by decide) ?_
        refine wr_ia (k0 := 238) (a := 119) (f := 119) (x := h 238 119) (nx := 212) (r1 := 0) (r2 := 0) (r3 := 0) rfl (by decide) rfl (by omega) (by omega) (by decide) ((u37 238 119 rfl).trans ((u34 238 119 rfl).trans ((u30 238 119 rfl).trans ((u25 238 119 rfl).trans ((u20 238 119 rfl).trans (u18 238 119 rfl)))))) ?_
        refine wi_bipush (n := 20) (nx := 214) (r1 := 0) (r2 := 0) (r3 := 0) rfl (by decide) ?_
        refine wr_iremC (nx := 215) (r1 := 0) (r2 := 0) (r3 := 0) rfl (by omega) (by decide) (fun e39 (fe39 : e39 = (h 238 119) % 20) => ?_)
        refine wr_mul (nx := 216) (r1 := 0) (r2 := 0) (r3 := 0) rfl (fun e40 (fe40 : e40 = 4 * e39) => ?_)
        refine wr_add (nx := 217) (r1 := 0) (r2 := 0) (r3 := 0) rfl (fun e41 (fe41 : e41 = 120 + e40) => ?_)
        refine wi_istore (i := 6) (e := e41) (lo2 := [(6, vi e41), (5, vi 0), (4, vi 0), (3, vi 0), (2, vi (h 238 i6)), (0, .ref 236), (1, vi a0)]) (nx := 219) (r1 := 0) (r2 := 0) (r3 := 0) rfl rfl ?_
        refine wi_aload_n (i := 0) (x := 236) (nx := 220) (r1 := 0) (r2 := 0) (r3 := 0) rfl rfl ?_
        refine wr_gr (k0 := 236) (x := 238) (nx := 223) (r1 := 11) (r2 := 13) (r3 := 0) rfl rfl (by decide) rfl ⟨rfl, rfl⟩ rfl ?_
        refine wi_iload (i := 6) (e := e41) (nx := 225) (r1 := 0) (r2 := 0) (r3 := 0) rfl rfl ?_
        refine wi_iload_n (i := 1) (e := a0) (nx := 226) (r1 := 0) (r2 := 0) (r3 := 0) rfl rfl ?_
        obtain ⟨i42, ei42⟩ : ∃ q : Nat, e41 = (q : Int) := ⟨(e41).toNat, by omega⟩
        refine wr_is (k0 := 238) (a := e41) (f := i42) (x := a0) (bl := -2147483648) (bh := 2147483647) (nx := 227) (r1 := 0) (r2 := 0) (r3 := 0) rfl (by decide) rfl (by omega) (by omega) (by decide) g37 (gi_rg 120 77 (fun _ => rfl) (by decide +kernel) (by omega)) (by omega) (fun h43 g43 w43 u43 => ?_)
        have F44 := F38.then rfl (FR.idx (p := 120) (q := 196) u43 (by omega))
        refine wi_aload_n (i := 0) (x := 236) (nx := 228) (r1 := 0) (r2 := 0) (r3 := 0) rfl rfl ?_
        refine wr_gr (k0 := 236) (x := 238) (nx := 231) (r1 := 11) (r2 := 13) (r3 := 0) rfl rfl (by decide) rfl ⟨rfl, rfl⟩ rfl ?_
        refine wi_iload (i := 6) (e := e41) (nx := 233) (r1 := 0) (r2 := 0) (r3 := 0) rfl rfl ?_
        refine wi_iconst (n := 1) (nx := 234) (r1 := 0) (r2 := 0) (r3 := 0) rfl ?_
        refine wr_add (nx := 235) (r1 := 0) (r2 := 0) (r3 := 0) rfl (fun e45 (fe45 : e45 = e41 + 1) => ?_)
        refine wi_iload_n (i := 2) (e := h 238 i6) (nx := 236) (r1 := 0) (r2 := 0) (r3 := 0) rfl rfl ?_
        obtain ⟨i46, ei46⟩ : ∃ q : Nat, e45 = (q : Int) := ⟨(e45).toNat, by omega⟩
        refine wr_is (k0 := 238) (a := e45) (f := i46) (x := h 238 i6) (bl := -2147483648) (bh := 2147483647) (nx := 237) (r1 := 0) (r2 := 0) (r3 := 0) rfl (by decide) rfl (by omega) (by omega) (by decide) g43 (gi_rg 121 77 (fun _ => rfl) (by decide +kernel) (by omega)) (by omega) (fun h47 g47 w47 u47 => ?_)
        have F48 := F44.then rfl (FR.idx (p := 121) (q := 197) u47 (by omega))
        refine wi_aload_n (i := 0) (x := 236) (nx := 238) (r1 := 0) (r2 := 0) (r3 := 0) rfl rfl ?_
        refine wr_gr (k0 := 236) (x := 238) (nx := 241) (r1 := 11) (r2 := 13) (r3 := 0) rfl rfl (by decide) rfl ⟨rfl, rfl⟩ rfl ?_
        refine wi_iload (i := 6) (e := e41) (nx := 243) (r1 := 0) (r2 := 0) (r3 := 0) rfl rfl ?_
        refine wi_iconst (n := 2) (nx := 244) (r1 := 0) (r2 := 0) (r3 := 0) rfl ?_
        refine wr_add (nx := 245) (r1 := 0) (r2 := 0) (r3 := 0) rfl (fun e49 (fe49 : e49 = e41 + 2) => ?_)
        refine wi_iload (i := 5) (e := 0) (nx := 247) (r1 := 0) (r2 := 0) (r3 := 0) rfl rfl ?_
        obtain ⟨i50, ei50⟩ : ∃ q : Nat, e49 = (q : Int) := ⟨(e49).toNat, by omega⟩
        refine wr_is (k0 := 238) (a := e49) (f := i50) (x := 0) (bl := -2147483648) (bh := 2147483647) (nx := 248) (r1 := 0) (r2 := 0) (r3 := 0) rfl (by decide) rfl (by omega) (by omega) (by decide) g47 (gi_rg 122 77 (fun _ => rfl) (by decide +kernel) (by omega)) (by omega) (fun h51 g51 w51 u51 => ?_)
        have F52 := F48.then rfl (FR.idx (p := 122) (q := 198) u51 (by omega))
        refine wi_aload_n (i := 0) (x := 236) (nx := 249) (r1 := 0) (r2 := 0) (r3 := 0) rfl rfl ?_
        refine wr_gr (k0 := 236) (x := 238) (nx := 252) (r1 := 11) (r2 := 13) (r3 := 0) rfl rfl (by decide) rfl ⟨rfl, rfl⟩ rfl ?_
        refine wi_iload (i := 6) (e := e41) (nx := 254) (r1 := 0) (r2 := 0) (r3 := 0) rfl rfl ?_
        refine wi_iconst (n := 3) (nx := 255) (r1 := 0) (r2 := 0) (r3 := 0) rfl ?_
        refine wr_add (nx := 256) (r1 := 0) (r2 := 0) (r3 := 0) rfl (fun e53 (fe53 : e53 = e41 + 3) => ?_)
        refine wi_iload_n (i := 3) (e := 0) (nx := 257) (r1 := 0) (r2 := 0) (r3 := 0) rfl rfl ?_
        refine wi_S (rest := [vi e53, .ref 238]) (as := [vi 0]) (nx := 260) (r1 := 207) (r2 := 17) (r3 := 0) rfl rfl rfl (of_decide_eq_true rfl) rfl rfl (of_decide_eq_true rfl) (of_decide_eq_true rfl) ?_
        refine wi_iload_n (i := 0) (e := 0) (nx := 1) (r1 := 0) (r2 := 0) (r3 := 0) rfl rfl ?_
        refine wi_if (cd := .eq) (nx := 4) (r1 := 8) (r2 := 0) (r3 := 0) rfl (by omega) (fun (q54 : 0 = 0) => ?_) (fun (q54 : ¬ (0 = 0)) => by exfalso; omega)
        refine wi_iconst (n := 0) (nx := 9) (r1 := 0) (r2 := 0) (r3 := 0) rfl ?_
        refine wi_ireturn (nx := 10) (r1 := 0) (r2 := 0) (r3 := 0) rfl rfl ?_
        refine wk_i ?_
        refine wi_iload (i := 4) (e := 0) (nx := 262) (r1 := 0) (r2 := 0) (r3 := 0) rfl rfl ?_
        refine wi_S (rest := [vi 0, vi e53, .ref 238]) (as := [vi 0]) (nx := 265) (r1 := 207) (r2 := 17) (r3 := 0) rfl rfl rfl (of_decide_eq_true rfl) rfl rfl (of_decide_eq_true rfl) (of_decide_eq_true rfl) ?_
        refine wi_iload_n (i := 0) (e := 0) (nx := 1) (r1 := 0) (r2 := 0) (r3 := 0) rfl rfl ?_
        refine wi_if (cd := .eq) (nx := 4) (r1 := 8) (r2 := 0) (r3 := 0) rfl (by omega) (fun (q55 : 0 = 0) => ?_) (fun (q55 : ¬ (0 = 0)) => by exfalso; omega)
        refine wi_iconst (n := 0) (nx := 9) (r1 := 0) (r2 := 0) (r3 := 0) rfl ?_
        refine wi_ireturn (nx := 10) (r1 := 0) (r2 := 0) (r3 := 0) rfl rfl ?_
        refine wk_i ?_
        refine wi_iconst (n := 1) (nx := 266) (r1 := 0) (r2 := 0) (r3 := 0) rfl ?_
        refine wi_ishl (e := 0) (nx := 267) (r1 := 0) (r2 := 0) (r3 := 0) rfl (by decide) ?_
        refine wi_ior (e := 0) (nx := 268) (r1 := 0) (r2 := 0) (r3 := 0) rfl (by decide) ?_
        refine wi_aload_n (i := 0) (x := 236) (nx := 269) (r1 := 0) (r2 := 0) (r3 := 0) rfl rfl ?_
        refine wr_gr (k0 := 236) (x := 238) (nx := 272) (r1 := 11) (r2 := 13) (r3 := 0) rfl rfl (by decide) rfl ⟨rfl, rfl⟩ rfl ?_
        refine wi_bipush (n := 43) (nx := 274) (r1 := 0) (r2 := 0) (r3 := 0) rfl (by decide) ?_
        refine wi_iload_n (i := 1) (e := a0) (nx := 275) (r1 := 0) (r2 := 0) (r3 := 0) rfl rfl ?_
        refine wr_add (nx := 276) (r1 := 0) (r2 := 0) (r3 := 0) rfl (fun e56 (fe56 : e56 = 43 + a0) => ?_)
        obtain ⟨i57, ei57⟩ : ∃ q : Nat, e56 = (q : Int) := ⟨(e56).toNat, by omega⟩
        have b58 := gi_b (lo := 0) (hi := 999) g 238 i57 (gi_rg 43 12 (fun _ => rfl) (by decide +kernel) (by omega))
        refine wr_ia (k0 := 238) (a := e56) (f := i57) (x := h 238 i57) (nx := 277) (r1 := 0) (r2 := 0) (r3 := 0) rfl (by decide) rfl (by omega) (by omega) (by decide) ((u51 238 i57 (fn_i (by omega) fn_0)).trans ((u47 238 i57 (fn_i (by omega) fn_0)).trans ((u43 238 i57 (fn_i (by omega) fn_0)).trans ((u37 238 i57 (fn_i (by omega) fn_0)).trans ((u34 238 i57 (fn_i (by omega) fn_0)).trans ((u30 238 i57 (fn_i (by omega) fn_0)).trans ((u25 238 i57 (fn_i (by omega) fn_0)).trans ((u20 238 i57 (fn_i (by omega) fn_0)).trans (u18 238 i57 (fn_i (by omega) fn_0)))))))))) ?_
        refine wi_if (cd := .le) (nx := 280) (r1 := 284) (r2 := 0) (r3 := 0) rfl (by omega) (fun (q59 : (h 238 i57) ≤ 0) => ?_) (fun (q59 : ¬ ((h 238 i57) ≤ 0)) => ?_)
        ·
          refine wi_iconst (n := 0) (nx := 285) (r1 := 0) (r2 := 0) (r3 := 0) rfl ?_
          refine wi_S (rest := [vi 0, vi e53, .ref 238]) (as := [vi 0]) (nx := 288) (r1 := 207) (r2 := 17) (r3 := 0) rfl rfl rfl (of_decide_eq_true rfl) rfl rfl (of_decide_eq_true rfl) (of_decide_eq_true rfl) ?_
          refine wi_iload_n (i := 0) (e := 0) (nx := 1) (r1 := 0) (r2 := 0) (r3 := 0) rfl rfl ?_
          refine wi_if (cd := .eq) (nx := 4) (r1 := 8) (r2 := 0) (r3 := 0) rfl (by omega) (fun (q60 : 0 = 0) => ?_) (fun (q60 : ¬ (0 = 0)) => by exfalso; omega)
          refine wi_iconst (n := 0) (nx := 9) (r1 := 0) (r2 := 0) (r3 := 0) rfl ?_
          refine wi_ireturn (nx := 10) (r1 := 0) (r2 := 0) (r3 := 0) rfl rfl ?_
          refine wk_i ?_
          refine wi_iconst (n := 2) (nx := 289) (r1 := 0) (r2 := 0) (r3 := 0) rfl ?_
          refine wi_ishl (e := 0) (nx := 290) (r1 := 0) (r2 := 0) (r3 := 0) rfl (by decide) ?_
          refine wi_ior (e := 0) (nx := 291) (r1 := 0) (r2 := 0) (r3 := 0) rfl (by decide) ?_
          obtain ⟨i61, ei61⟩ : ∃ q : Nat, e53 = (q : Int) := ⟨(e53).toNat, by omega⟩
          refine wr_is (k0 := 238) (a := e53) (f := i61) (x := 0) (bl := -2147483648) (bh := 2147483647) (nx := 292) (r1 := 0) (r2 := 0) (r3 := 0) rfl (by decide) rfl (by omega) (by omega) (by decide) g51 (gi_rg 123 77 (fun _ => rfl) (by decide +kernel) (by omega)) (by omega) (fun h62 g62 w62 u62 => ?_)
          have F63 := F52.then rfl (FR.idx (p := 123) (q := 199) u62 (by omega))
          refine wi_aload_n (i := 0) (x := 236) (nx := 293) (r1 := 0) (r2 := 0) (r3 := 0) rfl rfl ?_
          refine wr_gr (k0 := 236) (x := 238) (nx := 296) (r1 := 11) (r2 := 13) (r3 := 0) rfl rfl (by decide) rfl ⟨rfl, rfl⟩ rfl ?_
          refine wi_bipush (n := 119) (nx := 298) (r1 := 0) (r2 := 0) (r3 := 0) rfl (by decide) ?_
          refine wi_dup2 (nx := 299) (r1 := 0) (r2 := 0) (r3 := 0) rfl rfl rfl ?_
          refine wr_ia (k0 := 238) (a := 119) (f := 119) (x := h 238 119) (nx := 300) (r1 := 0) (r2 := 0) (r3 := 0) rfl (by decide) rfl (by omega) (by omega) (by decide) ((u62 238 119 (fn_i (by omega) fn_0)).trans ((u51 238 119 (fn_i (by omega) fn_0)).trans ((u47 238 119 (fn_i (by omega) fn_0)).trans ((u43 238 119 (fn_i (by omega) fn_0)).trans ((u37 238 119 rfl).trans ((u34 238 119 rfl).trans ((u30 238 119 rfl).trans ((u25 238 119 rfl).trans ((u20 238 119 rfl).trans (u18 238 119 rfl)))))))))) ?_
          refine wi_iconst (n := 1) (nx := 301) (r1 := 0) (r2 := 0) (r3 := 0) rfl ?_
          refine wr_add (nx := 302) (r1 := 0) (r2 := 0) (r3 := 0) rfl (fun e64 (fe64 : e64 = (h 238 119) + 1) => ?_)
          refine wr_is (k0 := 238) (a := 119) (f := 119) (x := e64) (bl := 0) (bh := 9999) (nx := 303) (r1 := 0) (r2 := 0) (r3 := 0) rfl (by decide) rfl (by omega) (by omega) (by decide) g62 rfl (by omega) (fun h65 g65 w65 u65 => ?_)
          have F66 := F63.then rfl u65
          refine wi_return (nx := 304) (r1 := 0) (r2 := 0) (r3 := 0) rfl rfl ?_
          have e67 : h65 238 119 = e64 := w65
          have e68 : h65 238 67 = e36 := ((u65 238 67 rfl).trans ((u62 238 67 (fn_i (by omega) fn_0)).trans ((u51 238 67 (fn_i (by omega) fn_0)).trans ((u47 238 67 (fn_i (by omega) fn_0)).trans ((u43 238 67 (fn_i (by omega) fn_0)).trans w37)))))
          have e69 : h65 238 69 = e17 := ((u65 238 69 rfl).trans ((u62 238 69 (fn_i (by omega) fn_0)).trans ((u51 238 69 (fn_i (by omega) fn_0)).trans ((u47 238 69 (fn_i (by omega) fn_0)).trans ((u43 238 69 (fn_i (by omega) fn_0)).trans ((u37 238 69 rfl).trans ((u34 238 69 rfl).trans ((u30 238 69 rfl).trans ((u25 238 69 rfl).trans ((u20 238 69 rfl).trans w18))))))))))
          have e70 : h65 238 5 = h 238 5 := ((u65 238 5 rfl).trans ((u62 238 5 (fn_i (by omega) fn_0)).trans ((u51 238 5 (fn_i (by omega) fn_0)).trans ((u47 238 5 (fn_i (by omega) fn_0)).trans ((u43 238 5 (fn_i (by omega) fn_0)).trans ((u37 238 5 rfl).trans ((u34 238 5 rfl).trans ((u30 238 5 rfl).trans ((u25 238 5 rfl).trans ((u20 238 5 rfl).trans (u18 238 5 rfl)))))))))))
          exact k h65 g65 F66 (show (h65 238 119) ≤ (h65 238 67) by omega) (show (h65 238 69) ≤ (h65 238 5) by omega)
        ·
          refine wi_iconst (n := 1) (nx := 281) (r1 := 0) (r2 := 0) (r3 := 0) rfl ?_
          refine wi_goto (nx := 284) (r1 := 285) (r2 := 0) (r3 := 0) rfl ?_
          refine wi_S (rest := [vi 0, vi e53, .ref 238]) (as := [vi 1]) (nx := 288) (r1 := 207) (r2 := 17) (r3 := 0) rfl rfl rfl (of_decide_eq_true rfl) rfl rfl (of_decide_eq_true rfl) (of_decide_eq_true rfl) ?_
          refine wi_iload_n (i := 0) (e := 1) (nx := 1) (r1 := 0) (r2 := 0) (r3 := 0) rfl rfl ?_
          refine wi_if (cd := .eq) (nx := 4) (r1 := 8) (r2 := 0) (r3 := 0) rfl (by omega) (fun (q60 : 1 = 0) => by exfalso; omega) (fun (q60 : ¬ (1 = 0)) => ?_)
          refine wi_iconst (n := 1) (nx := 5) (r1 := 0) (r2 := 0) (r3 := 0) rfl ?_
          refine wi_goto (nx := 8) (r1 := 9) (r2 := 0) (r3 := 0) rfl ?_
          refine wi_ireturn (nx := 10) (r1 := 0) (r2 := 0) (r3 := 0) rfl rfl ?_
          refine wk_i ?_
          refine wi_iconst (n := 2) (nx := 289) (r1 := 0) (r2 := 0) (r3 := 0) rfl ?_
          refine wi_ishl (e := 4) (nx := 290) (r1 := 0) (r2 := 0) (r3 := 0) rfl (by decide) ?_
          refine wi_ior (e := 4) (nx := 291) (r1 := 0) (r2 := 0) (r3 := 0) rfl (by decide) ?_
          obtain ⟨i61, ei61⟩ : ∃ q : Nat, e53 = (q : Int) := ⟨(e53).toNat, by omega⟩
          refine wr_is (k0 := 238) (a := e53) (f := i61) (x := 4) (bl := -2147483648) (bh := 2147483647) (nx := 292) (r1 := 0) (r2 := 0) (r3 := 0) rfl (by decide) rfl (by omega) (by omega) (by decide) g51 (gi_rg 123 77 (fun _ => rfl) (by decide +kernel) (by omega)) (by omega) (fun h62 g62 w62 u62 => ?_)
          have F63 := F52.then rfl (FR.idx (p := 123) (q := 199) u62 (by omega))
          refine wi_aload_n (i := 0) (x := 236) (nx := 293) (r1 := 0) (r2 := 0) (r3 := 0) rfl rfl ?_
          refine wr_gr (k0 := 236) (x := 238) (nx := 296) (r1 := 11) (r2 := 13) (r3 := 0) rfl rfl (by decide) rfl ⟨rfl, rfl⟩ rfl ?_
          refine wi_bipush (n := 119) (nx := 298) (r1 := 0) (r2 := 0) (r3 := 0) rfl (by decide) ?_
          refine wi_dup2 (nx := 299) (r1 := 0) (r2 := 0) (r3 := 0) rfl rfl rfl ?_
          refine wr_ia (k0 := 238) (a := 119) (f := 119) (x := h 238 119) (nx := 300) (r1 := 0) (r2 := 0) (r3 := 0) rfl (by decide) rfl (by omega) (by omega) (by decide) ((u62 238 119 (fn_i (by omega) fn_0)).trans ((u51 238 119 (fn_i (by omega) fn_0)).trans ((u47 238 119 (fn_i (by omega) fn_0)).trans ((u43 238 119 (fn_i (by omega) fn_0)).trans ((u37 238 119 rfl).trans ((u34 238 119 rfl).trans ((u30 238 119 rfl).trans ((u25 238 119 rfl).trans ((u20 238 119 rfl).trans (u18 238 119 rfl)))))))))) ?_
          refine wi_iconst (n := 1) (nx := 301) (r1 := 0) (r2 := 0) (r3 := 0) rfl ?_
          refine wr_add (nx := 302) (r1 := 0) (r2 := 0) (r3 := 0) rfl (fun e64 (fe64 : e64 = (h 238 119) + 1) => ?_)
          refine wr_is (k0 := 238) (a := 119) (f := 119) (x := e64) (bl := 0) (bh := 9999) (nx := 303) (r1 := 0) (r2 := 0) (r3 := 0) rfl (by decide) rfl (by omega) (by omega) (by decide) g62 rfl (by omega) (fun h65 g65 w65 u65 => ?_)
          have F66 := F63.then rfl u65
          refine wi_return (nx := 304) (r1 := 0) (r2 := 0) (r3 := 0) rfl rfl ?_
          have e67 : h65 238 119 = e64 := w65
          have e68 : h65 238 67 = e36 := ((u65 238 67 rfl).trans ((u62 238 67 (fn_i (by omega) fn_0)).trans ((u51 238 67 (fn_i (by omega) fn_0)).trans ((u47 238 67 (fn_i (by omega) fn_0)).trans ((u43 238 67 (fn_i (by omega) fn_0)).trans w37)))))
          have e69 : h65 238 69 = e17 := ((u65 238 69 rfl).trans ((u62 238 69 (fn_i (by omega) fn_0)).trans ((u51 238 69 (fn_i (by omega) fn_0)).trans ((u47 238 69 (fn_i (by omega) fn_0)).trans ((u43 238 69 (fn_i (by omega) fn_0)).trans ((u37 238 69 rfl).trans ((u34 238 69 rfl).trans ((u30 238 69 rfl).trans ((u25 238 69 rfl).trans ((u20 238 69 rfl).trans w18))))))))))
          have e70 : h65 238 5 = h 238 5 := ((u65 238 5 rfl).trans ((u62 238 5 (fn_i (by omega) fn_0)).trans ((u51 238 5 (fn_i (by omega) fn_0)).trans ((u47 238 5 (fn_i (by omega) fn_0)).trans ((u43 238 5 (fn_i (by omega) fn_0)).trans ((u37 238 5 rfl).trans ((u34 238 5 rfl).trans ((u30 238 5 rfl).trans ((u25 238 5 rfl).trans ((u20 238 5 rfl).trans (u18 238 5 rfl)))))))))))
          exact k h65 g65 F66 (show (h65 238 119) ≤ (h65 238 67) by omega) (show (h65 238 69) ≤ (h65 238 5) by omega)
      ·
        refine wi_iconst (n := 1) (nx := 66) (r1 := 0) (r2 := 0) (r3 := 0) rfl ?_
        refine wi_goto (nx := 69) (r1 := 70) (r2 := 0) (r3 := 0) rfl ?_
        refine wi_istore (i := 4) (e := 1) (lo2 := [(4, vi 1), (3, vi 0), (2, vi (h 238 i6)), (0, .ref 236), (1, vi a0)]) (nx := 72) (r1 := 0) (r2 := 0) (r3 := 0) rfl rfl ?_
        refine wi_iload_n (i := 3) (e := 0) (nx := 73) (r1 := 0) (r2 := 0) (r3 := 0) rfl rfl ?_
        refine wi_if (cd := .eq) (nx := 76) (r1 := 88) (r2 := 0) (r3 := 0) rfl (by omega) (fun (q13 : 0 = 0) => ?_) (fun (q13 : ¬ (0 = 0)) => by exfalso; omega)
        refine wi_iload (i := 4) (e := 1) (nx := 90) (r1 := 0) (r2 := 0) (r3 := 0) rfl rfl ?_
        refine wi_if (cd := .eq) (nx := 93) (r1 := 103) (r2 := 0) (r3 := 0) rfl (by omega) (fun (q14 : 1 = 0) => by exfalso; omega) (fun (q14 : ¬ (1 = 0)) => ?_)
        refine wi_aload_n (i := 0) (x := 236) (nx := 94) (r1 := 0) (r2 := 0) (r3 := 0) rfl rfl ?_
        refine wr_gr (k0 := 236) (x := 238) (nx := 97) (r1 := 11) (r2 := 13) (r3 := 0) rfl rfl (by decide) rfl ⟨rfl, rfl⟩ rfl ?_
        refine wi_bipush (n := 6) (nx := 99) (r1 := 0) (r2 := 0) (r3 := 0) rfl (by decide) ?_
        have b15 := gi_b (lo := 0) (hi := 999) g 238 6 rfl
        refine wr_ia (k0 := 238) (a := 6) (f := 6) (x := h 238 6) (nx := 100) (r1 := 0) (r2 := 0) (r3 := 0) rfl (by decide) rfl (by omega) (by omega) (by decide) rfl ?_
        refine wi_goto (nx := 103) (r1 := 104) (r2 := 0) (r3 := 0) rfl ?_
        refine wi_istore (i := 5) (e := h 238 6) (lo2 := [(5, vi (h 238 6)), (4, vi 1), (3, vi 0), (2, vi (h 238 i6)), (0, .ref 236), (1, vi a0)]) (nx := 106) (r1 := 0) (r2 := 0) (r3 := 0) rfl rfl ?_
        refine wi_aload_n (i := 0) (x := 236) (nx := 107) (r1 := 0) (r2 := 0) (r3 := 0) rfl rfl ?_
        refine wr_gr (k0 := 236) (x := 238) (nx := 110) (r1 := 11) (r2 := 13) (r3 := 0) rfl rfl (by decide) rfl ⟨rfl, rfl⟩ rfl ?_
        refine wi_bipush (n := 69) (nx := 112) (r1 := 0) (r2 := 0) (r3 := 0) rfl (by decide) ?_
        refine wi_aload_n (i := 0) (x := 236) (nx := 113) (r1 := 0) (r2 := 0) (r3 := 0) rfl rfl ?_
        refine wr_gr (k0 := 236) (x := 238) (nx := 116) (r1 := 11) (r2 := 13) (r3 := 0) rfl rfl (by decide) rfl ⟨rfl, rfl⟩ rfl ?_
        refine wi_bipush (n := 68) (nx := 118) (r1 := 0) (r2 := 0) (r3 := 0) rfl (by decide) ?_
        refine wr_ia (k0 := 238) (a := 68) (f := 68) (x := h 238 68) (nx := 119) (r1 := 0) (r2 := 0) (r3 := 0) rfl (by decide) rfl (by omega) (by omega) (by decide) rfl ?_
        refine wi_iload_n (i := 2) (e := h 238 i6) (nx := 120) (r1 := 0) (r2 := 0) (r3 := 0) rfl rfl ?_
        refine wi_icmp (cd := .ne) (nx := 123) (r1 := 140) (r2 := 0) (r3 := 0) rfl (by omega) (by omega) (fun (q16 : (h 238 68) ≠ (h 238 i6)) => by exfalso; omega) (fun (q16 : ¬ ((h 238 68) ≠ (h 238 i6))) => ?_)
        refine wi_iload (i := 4) (e := 1) (nx := 125) (r1 := 0) (r2 := 0) (r3 := 0) rfl rfl ?_
        refine wi_if (cd := .ne) (nx := 128) (r1 := 140) (r2 := 0) (r3 := 0) rfl (by omega) (fun (q17 : 1 ≠ 0) => ?_) (fun (q17 : ¬ (1 ≠ 0)) => by exfalso; omega)
        refine wi_iconst (n := 1) (nx := 141) (r1 := 0) (r2 := 0) (r3 := 0) rfl ?_
        refine wr_is (k0 := 238) (a := 69) (f := 69) (x := 1) (bl := 0) (bh := 9) (nx := 142) (r1 := 0) (r2 := 0) (r3 := 0) rfl (by decide) rfl (by omega) (by omega) (by decide) g rfl (by omega) (fun h18 g18 w18 u18 => ?_)
        have F19 := F0.then rfl u18
        refine wi_aload_n (i := 0) (x := 236) (nx := 143) (r1 := 0) (r2 := 0) (r3 := 0) rfl rfl ?_
        refine wr_gr (k0 := 236) (x := 238) (nx := 146) (r1 := 11) (r2 := 13) (r3 := 0) rfl rfl (by decide) rfl ⟨rfl, rfl⟩ rfl ?_
        refine wi_bipush (n := 68) (nx := 148) (r1 := 0) (r2 := 0) (r3 := 0) rfl (by decide) ?_
        refine wi_iload_n (i := 2) (e := h 238 i6) (nx := 149) (r1 := 0) (r2 := 0) (r3 := 0) rfl rfl ?_
        refine wr_is (k0 := 238) (a := 68) (f := 68) (x := h 238 i6) (bl := -1) (bh := 4) (nx := 150) (r1 := 0) (r2 := 0) (r3 := 0) rfl (by decide) rfl (by omega) (by omega) (by decide) g18 rfl (by omega) (fun h20 g20 w20 u20 => ?_)
        have F21 := F19.then rfl u20
        refine wi_aload_n (i := 0) (x := 236) (nx := 151) (r1 := 0) (r2 := 0) (r3 := 0) rfl rfl ?_
        refine wr_gr (k0 := 236) (x := 238) (nx := 154) (r1 := 11) (r2 := 13) (r3 := 0) rfl rfl (by decide) rfl ⟨rfl, rfl⟩ rfl ?_
        refine wi_bipush (n := 70) (nx := 156) (r1 := 0) (r2 := 0) (r3 := 0) rfl (by decide) ?_
        refine wi_dup2 (nx := 157) (r1 := 0) (r2 := 0) (r3 := 0) rfl rfl rfl ?_
        have b22 := gi_b (lo := -2147483648) (hi := 2147483647) g 238 70 rfl
        refine wr_ia (k0 := 238) (a := 70) (f := 70) (x := h 238 70) (nx := 158) (r1 := 0) (r2 := 0) (r3 := 0) rfl (by decide) rfl (by omega) (by omega) (by decide) ((u20 238 70 rfl).trans (u18 238 70 rfl)) ?_
        refine wi_iload_n (i := 3) (e := 0) (nx := 159) (r1 := 0) (r2 := 0) (r3 := 0) rfl rfl ?_
        refine wi_S (rest := [vi (h 238 70), vi 70, .ref 238]) (as := [vi 0]) (nx := 162) (r1 := 207) (r2 := 17) (r3 := 0) rfl rfl rfl (of_decide_eq_true rfl) rfl rfl (of_decide_eq_true rfl) (of_decide_eq_true rfl) ?_
        refine wi_iload_n (i := 0) (e := 0) (nx := 1) (r1 := 0) (r2 := 0) (r3 := 0) rfl rfl ?_
        refine wi_if (cd := .eq) (nx := 4) (r1 := 8) (r2 := 0) (r3 := 0) rfl (by omega) (fun (q23 : 0 = 0) => ?_) (fun (q23 : ¬ (0 = 0)) => by exfalso; omega)
        refine wi_iconst (n := 0) (nx := 9) (r1 := 0) (r2 := 0) (r3 := 0) rfl ?_
        refine wi_ireturn (nx := 10) (r1 := 0) (r2 := 0) (r3 := 0) rfl rfl ?_
        refine wk_i ?_
        refine wr_add (nx := 163) (r1 := 0) (r2 := 0) (r3 := 0) rfl (fun e24 (fe24 : e24 = (h 238 70) + 0) => ?_)
        refine wr_is (k0 := 238) (a := 70) (f := 70) (x := e24) (bl := -2147483648) (bh := 2147483647) (nx := 164) (r1 := 0) (r2 := 0) (r3 := 0) rfl (by decide) rfl (by omega) (by omega) (by decide) g20 rfl (by omega) (fun h25 g25 w25 u25 => ?_)
        have F26 := F21.then rfl u25
        refine wi_aload_n (i := 0) (x := 236) (nx := 165) (r1 := 0) (r2 := 0) (r3 := 0) rfl rfl ?_
        refine wr_gr (k0 := 236) (x := 238) (nx := 168) (r1 := 11) (r2 := 13) (r3 := 0) rfl rfl (by decide) rfl ⟨rfl, rfl⟩ rfl ?_
        refine wi_bipush (n := 71) (nx := 170) (r1 := 0) (r2 := 0) (r3 := 0) rfl (by decide) ?_
        refine wi_dup2 (nx := 171) (r1 := 0) (r2 := 0) (r3 := 0) rfl rfl rfl ?_
        have b27 := gi_b (lo := -2147483648) (hi := 2147483647) g 238 71 rfl
        refine wr_ia (k0 := 238) (a := 71) (f := 71) (x := h 238 71) (nx := 172) (r1 := 0) (r2 := 0) (r3 := 0) rfl (by decide) rfl (by omega) (by omega) (by decide) ((u25 238 71 rfl).trans ((u20 238 71 rfl).trans (u18 238 71 rfl))) ?_
        refine wi_iload (i := 4) (e := 1) (nx := 174) (r1 := 0) (r2 := 0) (r3 := 0) rfl rfl ?_
        refine wi_S (rest := [vi (h 238 71), vi 71, .ref 238]) (as := [vi 1]) (nx := 177) (r1 := 207) (r2 := 17) (r3 := 0) rfl rfl rfl (of_decide_eq_true rfl) rfl rfl (of_decide_eq_true rfl) (of_decide_eq_true rfl) ?_
        refine wi_iload_n (i := 0) (e := 1) (nx := 1) (r1 := 0) (r2 := 0) (r3 := 0) rfl rfl ?_
        refine wi_if (cd := .eq) (nx := 4) (r1 := 8) (r2 := 0) (r3 := 0) rfl (by omega) (fun (q28 : 1 = 0) => by exfalso; omega) (fun (q28 : ¬ (1 = 0)) => ?_)
        refine wi_iconst (n := 1) (nx := 5) (r1 := 0) (r2 := 0) (r3 := 0) rfl ?_
        refine wi_goto (nx := 8) (r1 := 9) (r2 := 0) (r3 := 0) rfl ?_
        refine wi_ireturn (nx := 10) (r1 := 0) (r2 := 0) (r3 := 0) rfl rfl ?_
        refine wk_i ?_
        refine wr_addW (nx := 178) (r1 := 0) (r2 := 0) (r3 := 0) rfl (fun e29 (fe29 : -2147483648 ≤ e29 ∧ e29 ≤ 2147483647) => ?_)
        refine wr_is (k0 := 238) (a := 71) (f := 71) (x := e29) (bl := -2147483648) (bh := 2147483647) (nx := 179) (r1 := 0) (r2 := 0) (r3 := 0) rfl (by decide) rfl (by omega) (by omega) (by decide) g25 rfl (by omega) (fun h30 g30 w30 u30 => ?_)
        have F31 := F26.then rfl u30
        refine wi_aload_n (i := 0) (x := 236) (nx := 180) (r1 := 0) (r2 := 0) (r3 := 0) rfl rfl ?_
        refine wr_gr (k0 := 236) (x := 238) (nx := 183) (r1 := 11) (r2 := 13) (r3 := 0) rfl rfl (by decide) rfl ⟨rfl, rfl⟩ rfl ?_
        refine wi_bipush (n := 72) (nx := 185) (r1 := 0) (r2 := 0) (r3 := 0) rfl (by decide) ?_
        refine wi_dup2 (nx := 186) (r1 := 0) (r2 := 0) (r3 := 0) rfl rfl rfl ?_
        have b32 := gi_b (lo := -2147483648) (hi := 2147483647) g 238 72 rfl
        refine wr_ia (k0 := 238) (a := 72) (f := 72) (x := h 238 72) (nx := 187) (r1 := 0) (r2 := 0) (r3 := 0) rfl (by decide) rfl (by omega) (by omega) (by decide) ((u30 238 72 rfl).trans ((u25 238 72 rfl).trans ((u20 238 72 rfl).trans (u18 238 72 rfl)))) ?_
        refine wi_iload (i := 5) (e := h 238 6) (nx := 189) (r1 := 0) (r2 := 0) (r3 := 0) rfl rfl ?_
        refine wr_addW (nx := 190) (r1 := 0) (r2 := 0) (r3 := 0) rfl (fun e33 (fe33 : -2147483648 ≤ e33 ∧ e33 ≤ 2147483647) => ?_)
        refine wr_is (k0 := 238) (a := 72) (f := 72) (x := e33) (bl := -2147483648) (bh := 2147483647) (nx := 191) (r1 := 0) (r2 := 0) (r3 := 0) rfl (by decide) rfl (by omega) (by omega) (by decide) g30 rfl (by omega) (fun h34 g34 w34 u34 => ?_)
        have F35 := F31.then rfl u34
        refine wi_aload_n (i := 0) (x := 236) (nx := 192) (r1 := 0) (r2 := 0) (r3 := 0) rfl rfl ?_
        refine wr_gr (k0 := 236) (x := 238) (nx := 195) (r1 := 11) (r2 := 13) (r3 := 0) rfl rfl (by decide) rfl ⟨rfl, rfl⟩ rfl ?_
        refine wi_bipush (n := 67) (nx := 197) (r1 := 0) (r2 := 0) (r3 := 0) rfl (by decide) ?_
        refine wi_dup2 (nx := 198) (r1 := 0) (r2 := 0) (r3 := 0) rfl rfl rfl ?_
        refine wr_ia (k0 := 238) (a := 67) (f := 67) (x := h 238 67) (nx := 199) (r1 := 0) (r2 := 0) (r3 := 0) rfl (by decide) rfl (by omega) (by omega) (by decide) ((u34 238 67 rfl).trans ((u30 238 67 rfl).trans ((u25 238 67 rfl).trans ((u20 238 67 rfl).trans (u18 238 67 rfl))))) ?_
        refine wi_iconst (n := 1) (nx := 200) (r1 := 0) (r2 := 0) (r3 := 0) rfl ?_
        refine wr_add (nx := 201) (r1 := 0) (r2 := 0) (r3 := 0) rfl (fun e36 (fe36 : e36 = (h 238 67) + 1) => ?_)
        refine wr_is (k0 := 238) (a := 67) (f := 67) (x := e36) (bl := 0) (bh := 9999) (nx := 202) (r1 := 0) (r2 := 0) (r3 := 0) rfl (by decide) rfl (by omega) (by omega) (by decide) g34 rfl (by omega) (fun h37 g37 w37 u37 => ?_)
        have F38 := F35.then rfl u37
        refine wi_bipush (n := 120) (nx := 204) (r1 := 0) (r2 := 0) (r3 := 0) rfl (by decide) ?_
        refine wi_iconst (n := 4) (nx := 205) (r1 := 0) (r2 := 0) (r3 := 0) rfl ?_
        refine wi_aload_n (i := 0) (x := 236) (nx := 206) (r1 := 0) (r2 := 0) (r3 := 0) rfl rfl ?_
        refine wr_gr (k0 := 236) (x := 238) (nx := 209) (r1 := 11) (r2 := 13) (r3 := 0) rfl rfl (by decide) rfl ⟨rfl, rfl⟩ rfl ?_
        refine wi_bipush (n := 119) (nx := 211) (r1 := 0) (r2 := 0) (r3 := 0) rfl (by decide) ?_
        refine wr_ia (k0 := 238) (a := 119) (f := 119) (x := h 238 119) (nx := 212) (r1 := 0) (r2 := 0) (r3 := 0) rfl (by decide) rfl (by omega) (by omega) (by decide) ((u37 238 119 rfl).trans ((u34 238 119 rfl).trans ((u30 238 119 rfl).trans ((u25 238 119 rfl).trans ((u20 238 119 rfl).trans (u18 238 119 rfl)))))) ?_
        refine wi_bipush (n := 20) (nx := 214) (r1 := 0) (r2 := 0) (r3 := 0) rfl (by decide) ?_
        refine wr_iremC (nx := 215) (r1 := 0) (r2 := 0) (r3 := 0) rfl (by omega) (by decide) (fun e39 (fe39 : e39 = (h 238 119) % 20) => ?_)
        refine wr_mul (nx := 216) (r1 := 0) (r2 := 0) (r3 := 0) rfl (fun e40 (fe40 : e40 = 4 * e39) => ?_)
        refine wr_add (nx := 217) (r1 := 0) (r2 := 0) (r3 := 0) rfl (fun e41 (fe41 : e41 = 120 + e40) => ?_)
        refine wi_istore (i := 6) (e := e41) (lo2 := [(6, vi e41), (5, vi (h 238 6)), (4, vi 1), (3, vi 0), (2, vi (h 238 i6)), (0, .ref 236), (1, vi a0)]) (nx := 219) (r1 := 0) (r2 := 0) (r3 := 0) rfl rfl ?_
        refine wi_aload_n (i := 0) (x := 236) (nx := 220) (r1 := 0) (r2 := 0) (r3 := 0) rfl rfl ?_
        refine wr_gr (k0 := 236) (x := 238) (nx := 223) (r1 := 11) (r2 := 13) (r3 := 0) rfl rfl (by decide) rfl ⟨rfl, rfl⟩ rfl ?_
        refine wi_iload (i := 6) (e := e41) (nx := 225) (r1 := 0) (r2 := 0) (r3 := 0) rfl rfl ?_
        refine wi_iload_n (i := 1) (e := a0) (nx := 226) (r1 := 0) (r2 := 0) (r3 := 0) rfl rfl ?_
        obtain ⟨i42, ei42⟩ : ∃ q : Nat, e41 = (q : Int) := ⟨(e41).toNat, by omega⟩
        refine wr_is (k0 := 238) (a := e41) (f := i42) (x := a0) (bl := -2147483648) (bh := 2147483647) (nx := 227) (r1 := 0) (r2 := 0) (r3 := 0) rfl (by decide) rfl (by omega) (by omega) (by decide) g37 (gi_rg 120 77 (fun _ => rfl) (by decide +kernel) (by omega)) (by omega) (fun h43 g43 w43 u43 => ?_)
        have F44 := F38.then rfl (FR.idx (p := 120) (q := 196) u43 (by omega))
        refine wi_aload_n (i := 0) (x := 236) (nx := 228) (r1 := 0) (r2 := 0) (r3 := 0) rfl rfl ?_
        refine wr_gr (k0 := 236) (x := 238) (nx := 231) (r1 := 11) (r2 := 13) (r3 := 0) rfl rfl (by decide) rfl ⟨rfl, rfl⟩ rfl ?_
        refine wi_iload (i := 6) (e := e41) (nx := 233) (r1 := 0) (r2 := 0) (r3 := 0) rfl rfl ?_
        refine wi_iconst (n := 1) (nx := 234) (r1 := 0) (r2 := 0) (r3 := 0) rfl ?_
        refine wr_add (nx := 235) (r1 := 0) (r2 := 0) (r3 := 0) rfl (fun e45 (fe45 : e45 = e41 + 1) => ?_)
        refine wi_iload_n (i := 2) (e := h 238 i6) (nx := 236) (r1 := 0) (r2 := 0) (r3 := 0) rfl rfl ?_
        obtain ⟨i46, ei46⟩ : ∃ q : Nat, e45 = (q : Int) := ⟨(e45).toNat, by omega⟩
        refine wr_is (k0 := 238) (a := e45) (f := i46) (x := h 238 i6) (bl := -2147483648) (bh := 2147483647) (nx := 237) (r1 := 0) (r2 := 0) (r3 := 0) rfl (by decide) rfl (by omega) (by omega) (by decide) g43 (gi_rg 121 77 (fun _ => rfl) (by decide +kernel) (by omega)) (by omega) (fun h47 g47 w47 u47 => ?_)
        have F48 := F44.then rfl (FR.idx (p := 121) (q := 197) u47 (by omega))
        refine wi_aload_n (i := 0) (x := 236) (nx := 238) (r1 := 0) (r2 := 0) (r3 := 0) rfl rfl ?_
        refine wr_gr (k0 := 236) (x := 238) (nx := 241) (r1 := 11) (r2 := 13) (r3 := 0) rfl rfl (by decide) rfl ⟨rfl, rfl⟩ rfl ?_
        refine wi_iload (i := 6) (e := e41) (nx := 243) (r1 := 0) (r2 := 0) (r3 := 0) rfl rfl ?_
        refine wi_iconst (n := 2) (nx := 244) (r1 := 0) (r2 := 0) (r3 := 0) rfl ?_
        refine wr_add (nx := 245) (r1 := 0) (r2 := 0) (r3 := 0) rfl (fun e49 (fe49 : e49 = e41 + 2) => ?_)
        refine wi_iload (i := 5) (e := h 238 6) (nx := 247) (r1 := 0) (r2 := 0) (r3 := 0) rfl rfl ?_
        obtain ⟨i50, ei50⟩ : ∃ q : Nat, e49 = (q : Int) := ⟨(e49).toNat, by omega⟩
        refine wr_is (k0 := 238) (a := e49) (f := i50) (x := h 238 6) (bl := -2147483648) (bh := 2147483647) (nx := 248) (r1 := 0) (r2 := 0) (r3 := 0) rfl (by decide) rfl (by omega) (by omega) (by decide) g47 (gi_rg 122 77 (fun _ => rfl) (by decide +kernel) (by omega)) (by omega) (fun h51 g51 w51 u51 => ?_)
        have F52 := F48.then rfl (FR.idx (p := 122) (q := 198) u51 (by omega))
        refine wi_aload_n (i := 0) (x := 236) (nx := 249) (r1 := 0) (r2 := 0) (r3 := 0) rfl rfl ?_
        refine wr_gr (k0 := 236) (x := 238) (nx := 252) (r1 := 11) (r2 := 13) (r3 := 0) rfl rfl (by decide) rfl ⟨rfl, rfl⟩ rfl ?_
        refine wi_iload (i := 6) (e := e41) (nx := 254) (r1 := 0) (r2 := 0) (r3 := 0) rfl rfl ?_
        refine wi_iconst (n := 3) (nx := 255) (r1 := 0) (r2 := 0) (r3 := 0) rfl ?_
        refine wr_add (nx := 256) (r1 := 0) (r2 := 0) (r3 := 0) rfl (fun e53 (fe53 : e53 = e41 + 3) => ?_)
        refine wi_iload_n (i := 3) (e := 0) (nx := 257) (r1 := 0) (r2 := 0) (r3 := 0) rfl rfl ?_
        refine wi_S (rest := [vi e53, .ref 238]) (as := [vi 0]) (nx := 260) (r1 := 207) (r2 := 17) (r3 := 0) rfl rfl rfl (of_decide_eq_true rfl) rfl rfl (of_decide_eq_true rfl) (of_decide_eq_true rfl) ?_
        refine wi_iload_n (i := 0) (e := 0) (nx := 1) (r1 := 0) (r2 := 0) (r3 := 0) rfl rfl ?_
        refine wi_if (cd := .eq) (nx := 4) (r1 := 8) (r2 := 0) (r3 := 0) rfl (by omega) (fun (q54 : 0 = 0) => ?_) (fun (q54 : ¬ (0 = 0)) => by exfalso; omega)
        refine wi_iconst (n := 0) (nx := 9) (r1 := 0) (r2 := 0) (r3 := 0) rfl ?_
        refine wi_ireturn (nx := 10) (r1 := 0) (r2 := 0) (r3 := 0) rfl rfl ?_
        refine wk_i ?_
        refine wi_iload (i := 4) (e := 1) (nx := 262) (r1 := 0) (r2 := 0) (r3 := 0) rfl rfl ?_
        refine wi_S (rest := [vi 0, vi e53, .ref 238]) (as := [vi 1]) (nx := 265) (r1 := 207) (r2 := 17) (r3 := 0) rfl rfl rfl (of_decide_eq_true rfl) rfl rfl (of_decide_eq_true rfl) (of_decide_eq_true rfl) ?_
        refine wi_iload_n (i := 0) (e := 1) (nx := 1) (r1 := 0) (r2 := 0) (r3 := 0) rfl rfl ?_
        refine wi_if (cd := .eq) (nx := 4) (r1 := 8) (r2 := 0) (r3 := 0) rfl (by omega) (fun (q55 : 1 = 0) => by exfalso; omega) (fun (q55 : ¬ (1 = 0)) => ?_)
        refine wi_iconst (n := 1) (nx := 5) (r1 := 0) (r2 := 0) (r3 := 0) rfl ?_
        refine wi_goto (nx := 8) (r1 := 9) (r2 := 0) (r3 := 0) rfl ?_
        refine wi_ireturn (nx := 10) (r1 := 0) (r2 := 0) (r3 := 0) rfl rfl ?_
        refine wk_i ?_
        refine wi_iconst (n := 1) (nx := 266) (r1 := 0) (r2 := 0) (r3 := 0) rfl ?_
        refine wi_ishl (e := 2) (nx := 267) (r1 := 0) (r2 := 0) (r3 := 0) rfl (by decide) ?_
        refine wi_ior (e := 2) (nx := 268) (r1 := 0) (r2 := 0) (r3 := 0) rfl (by decide) ?_
        refine wi_aload_n (i := 0) (x := 236) (nx := 269) (r1 := 0) (r2 := 0) (r3 := 0) rfl rfl ?_
        refine wr_gr (k0 := 236) (x := 238) (nx := 272) (r1 := 11) (r2 := 13) (r3 := 0) rfl rfl (by decide) rfl ⟨rfl, rfl⟩ rfl ?_
        refine wi_bipush (n := 43) (nx := 274) (r1 := 0) (r2 := 0) (r3 := 0) rfl (by decide) ?_
        refine wi_iload_n (i := 1) (e := a0) (nx := 275) (r1 := 0) (r2 := 0) (r3 := 0) rfl rfl ?_
        refine wr_add (nx := 276) (r1 := 0) (r2 := 0) (r3 := 0) rfl (fun e56 (fe56 : e56 = 43 + a0) => ?_)
        obtain ⟨i57, ei57⟩ : ∃ q : Nat, e56 = (q : Int) := ⟨(e56).toNat, by omega⟩
        have b58 := gi_b (lo := 0) (hi := 999) g 238 i57 (gi_rg 43 12 (fun _ => rfl) (by decide +kernel) (by omega))
        refine wr_ia (k0 := 238) (a := e56) (f := i57) (x := h 238 i57) (nx := 277) (r1 := 0) (r2 := 0) (r3 := 0) rfl (by decide) rfl (by omega) (by omega) (by decide) ((u51 238 i57 (fn_i (by omega) fn_0)).trans ((u47 238 i57 (fn_i (by omega) fn_0)).trans ((u43 238 i57 (fn_i (by omega) fn_0)).trans ((u37 238 i57 (fn_i (by omega) fn_0)).trans ((u34 238 i57 (fn_i (by omega) fn_0)).trans ((u30 238 i57 (fn_i (by omega) fn_0)).trans ((u25 238 i57 (fn_i (by omega) fn_0)).trans ((u20 238 i57 (fn_i (by omega) fn_0)).trans (u18 238 i57 (fn_i (by omega) fn_0)))))))))) ?_
        refine wi_if (cd := .le) (nx := 280) (r1 := 284) (r2 := 0) (r3 := 0) rfl (by omega) (fun (q59 : (h 238 i57) ≤ 0) => ?_) (fun (q59 : ¬ ((h 238 i57) ≤ 0)) => ?_)
        ·
          refine wi_iconst (n := 0) (nx := 285) (r1 := 0) (r2 := 0) (r3 := 0) rfl ?_
          refine wi_S (rest := [vi 2, vi e53, .ref 238]) (as := [vi 0]) (nx := 288) (r1 := 207) (r2 := 17) (r3 := 0) rfl rfl rfl (of_decide_eq_true rfl) rfl rfl (of_decide_eq_true rfl) (of_decide_eq_true rfl) ?_
          refine wi_iload_n (i := 0) (e := 0) (nx := 1) (r1 := 0) (r2 := 0) (r3 := 0) rfl rfl ?_
          refine wi_if (cd := .eq) (nx := 4) (r1 := 8) (r2 := 0) (r3 := 0) rfl (by omega) (fun (q60 : 0 = 0) => ?_) (fun (q60 : ¬ (0 = 0)) => by exfalso; omega)
          refine wi_iconst (n := 0) (nx := 9) (r1 := 0) (r2 := 0) (r3 := 0) rfl ?_
          refine wi_ireturn (nx := 10) (r1 := 0) (r2 := 0) (r3 := 0) rfl rfl ?_
          refine wk_i ?_
          refine wi_iconst (n := 2) (nx := 289) (r1 := 0) (r2 := 0) (r3 := 0) rfl ?_
          refine wi_ishl (e := 0) (nx := 290) (r1 := 0) (r2 := 0) (r3 := 0) rfl (by decide) ?_
          refine wi_ior (e := 2) (nx := 291) (r1 := 0) (r2 := 0) (r3 := 0) rfl (by decide) ?_
          obtain ⟨i61, ei61⟩ : ∃ q : Nat, e53 = (q : Int) := ⟨(e53).toNat, by omega⟩
          refine wr_is (k0 := 238) (a := e53) (f := i61) (x := 2) (bl := -2147483648) (bh := 2147483647) (nx := 292) (r1 := 0) (r2 := 0) (r3 := 0) rfl (by decide) rfl (by omega) (by omega) (by decide) g51 (gi_rg 123 77 (fun _ => rfl) (by decide +kernel) (by omega)) (by omega) (fun h62 g62 w62 u62 => ?_)
          have F63 := F52.then rfl (FR.idx (p := 123) (q := 199) u62 (by omega))
          refine wi_aload_n (i := 0) (x := 236) (nx := 293) (r1 := 0) (r2 := 0) (r3 := 0) rfl rfl ?_
          refine wr_gr (k0 := 236) (x := 238) (nx := 296) (r1 := 11) (r2 := 13) (r3 := 0) rfl rfl (by decide) rfl ⟨rfl, rfl⟩ rfl ?_
          refine wi_bipush (n := 119) (nx := 298) (r1 := 0) (r2 := 0) (r3 := 0) rfl (by decide) ?_
          refine wi_dup2 (nx := 299) (r1 := 0) (r2 := 0) (r3 := 0) rfl rfl rfl ?_
          refine wr_ia (k0 := 238) (a := 119) (f := 119) (x := h 238 119) (nx := 300) (r1 := 0) (r2 := 0) (r3 := 0) rfl (by decide) rfl (by omega) (by omega) (by decide) ((u62 238 119 (fn_i (by omega) fn_0)).trans ((u51 238 119 (fn_i (by omega) fn_0)).trans ((u47 238 119 (fn_i (by omega) fn_0)).trans ((u43 238 119 (fn_i (by omega) fn_0)).trans ((u37 238 119 rfl).trans ((u34 238 119 rfl).trans ((u30 238 119 rfl).trans ((u25 238 119 rfl).trans ((u20 238 119 rfl).trans (u18 238 119 rfl)))))))))) ?_
          refine wi_iconst (n := 1) (nx := 301) (r1 := 0) (r2 := 0) (r3 := 0) rfl ?_
          refine wr_add (nx := 302) (r1 := 0) (r2 := 0) (r3 := 0) rfl (fun e64 (fe64 : e64 = (h 238 119) + 1) => ?_)
          refine wr_is (k0 := 238) (a := 119) (f := 119) (x := e64) (bl := 0) (bh := 9999) (nx := 303) (r1 := 0) (r2 := 0) (r3 := 0) rfl (by decide) rfl (by omega) (by omega) (by decide) g62 rfl (by omega) (fun h65 g65 w65 u65 => ?_)
          have F66 := F63.then rfl u65
          refine wi_return (nx := 304) (r1 := 0) (r2 := 0) (r3 := 0) rfl rfl ?_
          have e67 : h65 238 119 = e64 := w65
          have e68 : h65 238 67 = e36 := ((u65 238 67 rfl).trans ((u62 238 67 (fn_i (by omega) fn_0)).trans ((u51 238 67 (fn_i (by omega) fn_0)).trans ((u47 238 67 (fn_i (by omega) fn_0)).trans ((u43 238 67 (fn_i (by omega) fn_0)).trans w37)))))
          have e69 : h65 238 69 = 1 := ((u65 238 69 rfl).trans ((u62 238 69 (fn_i (by omega) fn_0)).trans ((u51 238 69 (fn_i (by omega) fn_0)).trans ((u47 238 69 (fn_i (by omega) fn_0)).trans ((u43 238 69 (fn_i (by omega) fn_0)).trans ((u37 238 69 rfl).trans ((u34 238 69 rfl).trans ((u30 238 69 rfl).trans ((u25 238 69 rfl).trans ((u20 238 69 rfl).trans w18))))))))))
          have e70 : h65 238 5 = h 238 5 := ((u65 238 5 rfl).trans ((u62 238 5 (fn_i (by omega) fn_0)).trans ((u51 238 5 (fn_i (by omega) fn_0)).trans ((u47 238 5 (fn_i (by omega) fn_0)).trans ((u43 238 5 (fn_i (by omega) fn_0)).trans ((u37 238 5 rfl).trans ((u34 238 5 rfl).trans ((u30 238 5 rfl).trans ((u25 238 5 rfl).trans ((u20 238 5 rfl).trans (u18 238 5 rfl)))))))))))
          exact k h65 g65 F66 (show (h65 238 119) ≤ (h65 238 67) by omega) (show (h65 238 69) ≤ (h65 238 5) by omega)
        ·
          refine wi_iconst (n := 1) (nx := 281) (r1 := 0) (r2 := 0) (r3 := 0) rfl ?_
          refine wi_goto (nx := 284) (r1 := 285) (r2 := 0) (r3 := 0) rfl ?_
          refine wi_S (rest := [vi 2, vi e53, .ref 238]) (as := [vi 1]) (nx := 288) (r1 := 207) (r2 := 17) (r3 := 0) rfl rfl rfl (of_decide_eq_true rfl) rfl rfl (of_decide_eq_true rfl) (of_decide_eq_true rfl) ?_
          refine wi_iload_n (i := 0) (e := 1) (nx := 1) (r1 := 0) (r2 := 0) (r3 := 0) rfl rfl ?_
          refine wi_if (cd := .eq) (nx := 4) (r1 := 8) (r2 := 0) (r3 := 0) rfl (by omega) (fun (q60 : 1 = 0) => by exfalso; omega) (fun (q60 : ¬ (1 = 0)) => ?_)
          refine wi_iconst (n := 1) (nx := 5) (r1 := 0) (r2 := 0) (r3 := 0) rfl ?_
          refine wi_goto (nx := 8) (r1 := 9) (r2 := 0) (r3 := 0) rfl ?_
          refine wi_ireturn (nx := 10) (r1 := 0) (r2 := 0) (r3 := 0) rfl rfl ?_
          refine wk_i ?_
          refine wi_iconst (n := 2) (nx := 289) (r1 := 0) (r2 := 0) (r3 := 0) rfl ?_
          refine wi_ishl (e := 4) (nx := 290) (r1 := 0) (r2 := 0) (r3 := 0) rfl (by decide) ?_
          refine wi_ior (e := 6) (nx := 291) (r1 := 0) (r2 := 0) (r3 := 0) rfl (by decide) ?_
          obtain ⟨i61, ei61⟩ : ∃ q : Nat, e53 = (q : Int) := ⟨(e53).toNat, by omega⟩
          refine wr_is (k0 := 238) (a := e53) (f := i61) (x := 6) (bl := -2147483648) (bh := 2147483647) (nx := 292) (r1 := 0) (r2 := 0) (r3 := 0) rfl (by decide) rfl (by omega) (by omega) (by decide) g51 (gi_rg 123 77 (fun _ => rfl) (by decide +kernel) (by omega)) (by omega) (fun h62 g62 w62 u62 => ?_)
          have F63 := F52.then rfl (FR.idx (p := 123) (q := 199) u62 (by omega))
          refine wi_aload_n (i := 0) (x := 236) (nx := 293) (r1 := 0) (r2 := 0) (r3 := 0) rfl rfl ?_
          refine wr_gr (k0 := 236) (x := 238) (nx := 296) (r1 := 11) (r2 := 13) (r3 := 0) rfl rfl (by decide) rfl ⟨rfl, rfl⟩ rfl ?_
          refine wi_bipush (n := 119) (nx := 298) (r1 := 0) (r2 := 0) (r3 := 0) rfl (by decide) ?_
          refine wi_dup2 (nx := 299) (r1 := 0) (r2 := 0) (r3 := 0) rfl rfl rfl ?_
          refine wr_ia (k0 := 238) (a := 119) (f := 119) (x := h 238 119) (nx := 300) (r1 := 0) (r2 := 0) (r3 := 0) rfl (by decide) rfl (by omega) (by omega) (by decide) ((u62 238 119 (fn_i (by omega) fn_0)).trans ((u51 238 119 (fn_i (by omega) fn_0)).trans ((u47 238 119 (fn_i (by omega) fn_0)).trans ((u43 238 119 (fn_i (by omega) fn_0)).trans ((u37 238 119 rfl).trans ((u34 238 119 rfl).trans ((u30 238 119 rfl).trans ((u25 238 119 rfl).trans ((u20 238 119 rfl).trans (u18 238 119 rfl)))))))))) ?_
          refine wi_iconst (n := 1) (nx := 301) (r1 := 0) (r2 := 0) (r3 := 0) rfl ?_
          refine wr_add (nx := 302) (r1 := 0) (r2 := 0) (r3 := 0) rfl (fun e64 (fe64 : e64 = (h 238 119) + 1) => ?_)
          refine wr_is (k0 := 238) (a := 119) (f := 119) (x := e64) (bl := 0) (bh := 9999) (nx := 303) (r1 := 0) (r2 := 0) (r3 := 0) rfl (by decide) rfl (by omega) (by omega) (by decide) g62 rfl (by omega) (fun h65 g65 w65 u65 => ?_)
          have F66 := F63.then rfl u65
          refine wi_return (nx := 304) (r1 := 0) (r2 := 0) (r3 := 0) rfl rfl ?_
          have e67 : h65 238 119 = e64 := w65
          have e68 : h65 238 67 = e36 := ((u65 238 67 rfl).trans ((u62 238 67 (fn_i (by omega) fn_0)).trans ((u51 238 67 (fn_i (by omega) fn_0)).trans ((u47 238 67 (fn_i (by omega) fn_0)).trans ((u43 238 67 (fn_i (by omega) fn_0)).trans w37)))))
          have e69 : h65 238 69 = 1 := ((u65 238 69 rfl).trans ((u62 238 69 (fn_i (by omega) fn_0)).trans ((u51 238 69 (fn_i (by omega) fn_0)).trans ((u47 238 69 (fn_i (by omega) fn_0)).trans ((u43 238 69 (fn_i (by omega) fn_0)).trans ((u37 238 69 rfl).trans ((u34 238 69 rfl).trans ((u30 238 69 rfl).trans ((u25 238 69 rfl).trans ((u20 238 69 rfl).trans w18))))))))))
          have e70 : h65 238 5 = h 238 5 := ((u65 238 5 rfl).trans ((u62 238 5 (fn_i (by omega) fn_0)).trans ((u51 238 5 (fn_i (by omega) fn_0)).trans ((u47 238 5 (fn_i (by omega) fn_0)).trans ((u43 238 5 (fn_i (by omega) fn_0)).trans ((u37 238 5 rfl).trans ((u34 238 5 rfl).trans ((u30 238 5 rfl).trans ((u25 238 5 rfl).trans ((u20 238 5 rfl).trans (u18 238 5 rfl)))))))))))
          exact k h65 g65 F66 (show (h65 238 119) ≤ (h65 238 67) by omega) (show (h65 238 69) ≤ (h65 238 5) by omega)
    ·
      refine wi_iconst (n := 1) (nx := 33) (r1 := 0) (r2 := 0) (r3 := 0) rfl ?_
      refine wi_goto (nx := 36) (r1 := 37) (r2 := 0) (r3 := 0) rfl ?_
      refine wi_istore_n (i := 3) (e := 1) (lo2 := [(3, vi 1), (2, vi (h 238 i6)), (0, .ref 236), (1, vi a0)]) (nx := 38) (r1 := 0) (r2 := 0) (r3 := 0) rfl rfl ?_
      refine wi_aload_n (i := 0) (x := 236) (nx := 39) (r1 := 0) (r2 := 0) (r3 := 0) rfl rfl ?_
      refine wr_gr (k0 := 236) (x := 238) (nx := 42) (r1 := 11) (r2 := 13) (r3 := 0) rfl rfl (by decide) rfl ⟨rfl, rfl⟩ rfl ?_
      refine wi_bipush (n := 68) (nx := 44) (r1 := 0) (r2 := 0) (r3 := 0) rfl (by decide) ?_
      refine wr_ia (k0 := 238) (a := 68) (f := 68) (x := h 238 68) (nx := 45) (r1 := 0) (r2 := 0) (r3 := 0) rfl (by decide) rfl (by omega) (by omega) (by decide) rfl ?_
      refine wi_iload_n (i := 2) (e := h 238 i6) (nx := 46) (r1 := 0) (r2 := 0) (r3 := 0) rfl rfl ?_
      refine wi_icmp (cd := .ne) (nx := 49) (r1 := 69) (r2 := 0) (r3 := 0) rfl (by omega) (by omega) (fun (q11 : (h 238 68) ≠ (h 238 i6)) => ?_) (fun (q11 : ¬ ((h 238 68) ≠ (h 238 i6))) => by exfalso; omega)
      refine wi_iconst (n := 0) (nx := 70) (r1 := 0) (r2 := 0) (r3 := 0) rfl ?_
      refine wi_istore (i := 4) (e := 0) (lo2 := [(4, vi 0), (3, vi 1), (2, vi (h 238 i6)), (0, .ref 236), (1, vi a0)]) (nx := 72) (r1 := 0) (r2 := 0) (r3 := 0) rfl rfl ?_
      refine wi_iload_n (i := 3) (e := 1) (nx := 73) (r1 := 0) (r2 := 0) (r3 := 0) rfl rfl ?_
      refine wi_if (cd := .eq) (nx := 76) (r1 := 88) (r2 := 0) (r3 := 0) rfl (by omega) (fun (q12 : 1 = 0) => by exfalso; omega) (fun (q12 : ¬ (1 = 0)) => ?_)
      refine wi_aload_n (i := 0) (x := 236) (nx := 77) (r1 := 0) (r2 := 0) (r3 := 0) rfl rfl ?_
      refine wr_gr (k0 := 236) (x := 238) (nx := 80) (r1 := 11) (r2 := 13) (r3 := 0) rfl rfl (by decide) rfl ⟨rfl, rfl⟩ rfl ?_
      refine wi_bipush (n := 10) (nx := 82) (r1 := 0) (r2 := 0) (r3 := 0) rfl (by decide) ?_
      refine wi_iload_n (i := 2) (e := h 238 i6) (nx := 83) (r1 := 0) (r2 := 0) (r3 := 0) rfl rfl ?_
      refine wr_add (nx := 84) (r1 := 0) (r2 := 0) (r3 := 0) rfl (fun e13 (fe13 : e13 = 10 + (h 238 i6)) => ?_)
      obtain ⟨i14, ei14⟩ : ∃ q : Nat, e13 = (q : Int) := ⟨(e13).toNat, by omega⟩
      have b15 := gi_b (lo := 0) (hi := 999) g 238 i14 (gi_rg 10 5 (fun _ => rfl) (by decide +kernel) (by omega))
      refine wr_ia (k0 := 238) (a := e13) (f := i14) (x := h 238 i14) (nx := 85) (r1 := 0) (r2 := 0) (r3 := 0) rfl (by decide) rfl (by omega) (by omega) (by decide) rfl ?_
      refine wi_goto (nx := 88) (r1 := 104) (r2 := 0) (r3 := 0) rfl ?_
      refine wi_istore (i := 5) (e := h 238 i14) (lo2 := [(5, vi (h 238 i14)), (4, vi 0), (3, vi 1), (2, vi (h 238 i6)), (0, .ref 236), (1, vi a0)]) (nx := 106) (r1 := 0) (r2 := 0) (r3 := 0) rfl rfl ?_
      refine wi_aload_n (i := 0) (x := 236) (nx := 107) (r1 := 0) (r2 := 0) (r3 := 0) rfl rfl ?_
      refine wr_gr (k0 := 236) (x := 238) (nx := 110) (r1 := 11) (r2 := 13) (r3 := 0) rfl rfl (by decide) rfl ⟨rfl, rfl⟩ rfl ?_
      refine wi_bipush (n := 69) (nx := 112) (r1 := 0) (r2 := 0) (r3 := 0) rfl (by decide) ?_
      refine wi_aload_n (i := 0) (x := 236) (nx := 113) (r1 := 0) (r2 := 0) (r3 := 0) rfl rfl ?_
      refine wr_gr (k0 := 236) (x := 238) (nx := 116) (r1 := 11) (r2 := 13) (r3 := 0) rfl rfl (by decide) rfl ⟨rfl, rfl⟩ rfl ?_
      refine wi_bipush (n := 68) (nx := 118) (r1 := 0) (r2 := 0) (r3 := 0) rfl (by decide) ?_
      refine wr_ia (k0 := 238) (a := 68) (f := 68) (x := h 238 68) (nx := 119) (r1 := 0) (r2 := 0) (r3 := 0) rfl (by decide) rfl (by omega) (by omega) (by decide) rfl ?_
      refine wi_iload_n (i := 2) (e := h 238 i6) (nx := 120) (r1 := 0) (r2 := 0) (r3 := 0) rfl rfl ?_
      refine wi_icmp (cd := .ne) (nx := 123) (r1 := 140) (r2 := 0) (r3 := 0) rfl (by omega) (by omega) (fun (q16 : (h 238 68) ≠ (h 238 i6)) => ?_) (fun (q16 : ¬ ((h 238 68) ≠ (h 238 i6))) => by exfalso; omega)
      refine wi_iconst (n := 1) (nx := 141) (r1 := 0) (r2 := 0) (r3 := 0) rfl ?_
      refine wr_is (k0 := 238) (a := 69) (f := 69) (x := 1) (bl := 0) (bh := 9) (nx := 142) (r1 := 0) (r2 := 0) (r3 := 0) rfl (by decide) rfl (by omega) (by omega) (by decide) g rfl (by omega) (fun h17 g17 w17 u17 => ?_)
      have F18 := F0.then rfl u17
      refine wi_aload_n (i := 0) (x := 236) (nx := 143) (r1 := 0) (r2 := 0) (r3 := 0) rfl rfl ?_
      refine wr_gr (k0 := 236) (x := 238) (nx := 146) (r1 := 11) (r2 := 13) (r3 := 0) rfl rfl (by decide) rfl ⟨rfl, rfl⟩ rfl ?_
      refine wi_bipush (n := 68) (nx := 148) (r1 := 0) (r2 := 0) (r3 := 0) rfl (by decide) ?_
      refine wi_iload_n (i := 2) (e := h 238 i6) (nx := 149) (r1 := 0) (r2 := 0) (r3 := 0) rfl rfl ?_
      refine wr_is (k0 := 238) (a := 68) (f := 68) (x := h 238 i6) (bl := -1) (bh := 4) (nx := 150) (r1 := 0) (r2 := 0) (r3 := 0) rfl (by decide) rfl (by omega) (by omega) (by decide) g17 rfl (by omega) (fun h19 g19 w19 u19 => ?_)
      have F20 := F18.then rfl u19
      refine wi_aload_n (i := 0) (x := 236) (nx := 151) (r1 := 0) (r2 := 0) (r3 := 0) rfl rfl ?_
      refine wr_gr (k0 := 236) (x := 238) (nx := 154) (r1 := 11) (r2 := 13) (r3 := 0) rfl rfl (by decide) rfl ⟨rfl, rfl⟩ rfl ?_
      refine wi_bipush (n := 70) (nx := 156) (r1 := 0) (r2 := 0) (r3 := 0) rfl (by decide) ?_
      refine wi_dup2 (nx := 157) (r1 := 0) (r2 := 0) (r3 := 0) rfl rfl rfl ?_
      have b21 := gi_b (lo := -2147483648) (hi := 2147483647) g 238 70 rfl
      refine wr_ia (k0 := 238) (a := 70) (f := 70) (x := h 238 70) (nx := 158) (r1 := 0) (r2 := 0) (r3 := 0) rfl (by decide) rfl (by omega) (by omega) (by decide) ((u19 238 70 rfl).trans (u17 238 70 rfl)) ?_
      refine wi_iload_n (i := 3) (e := 1) (nx := 159) (r1 := 0) (r2 := 0) (r3 := 0) rfl rfl ?_
      refine wi_S (rest := [vi (h 238 70), vi 70, .ref 238]) (as := [vi 1]) (nx := 162) (r1 := 207) (r2 := 17) (r3 := 0) rfl rfl rfl (of_decide_eq_true rfl) rfl rfl (of_decide_eq_true rfl) (of_decide_eq_true rfl) ?_
      refine wi_iload_n (i := 0) (e := 1) (nx := 1) (r1 := 0) (r2 := 0) (r3 := 0) rfl rfl ?_
      refine wi_if (cd := .eq) (nx := 4) (r1 := 8) (r2 := 0) (r3 := 0) rfl (by omega) (fun (q22 : 1 = 0) => by exfalso; omega) (fun (q22 : ¬ (1 = 0)) => ?_)
      refine wi_iconst (n := 1) (nx := 5) (r1 := 0) (r2 := 0) (r3 := 0) rfl ?_
      refine wi_goto (nx := 8) (r1 := 9) (r2 := 0) (r3 := 0) rfl ?_
      refine wi_ireturn (nx := 10) (r1 := 0) (r2 := 0) (r3 := 0) rfl rfl ?_
      refine wk_i ?_
      refine wr_addW (nx := 163) (r1 := 0) (r2 := 0) (r3 := 0) rfl (fun e23 (fe23 : -2147483648 ≤ e23 ∧ e23 ≤ 2147483647) => ?_)
      refine wr_is (k0 := 238) (a := 70) (f := 70) (x := e23) (bl := -2147483648) (bh := 2147483647) (nx := 164) (r1 := 0) (r2 := 0) (r3 := 0) rfl (by decide) rfl (by omega) (by omega) (by decide) g19 rfl (by omega) (fun h24 g24 w24 u24 => ?_)
      have F25 := F20.then rfl u24
      refine wi_aload_n (i := 0) (x := 236) (nx := 165) (r1 := 0) (r2 := 0) (r3 := 0) rfl rfl ?_
      refine wr_gr (k0 := 236) (x := 238) (nx := 168) (r1 := 11) (r2 := 13) (r3 := 0) rfl rfl (by decide) rfl ⟨rfl, rfl⟩ rfl ?_
      refine wi_bipush (n := 71) (nx := 170) (r1 := 0) (r2 := 0) (r3 := 0) rfl (by decide) ?_
      refine wi_dup2 (nx := 171) (r1 := 0) (r2 := 0) (r3 := 0) rfl rfl rfl ?_
      have b26 := gi_b (lo := -2147483648) (hi := 2147483647) g 238 71 rfl
      refine wr_ia (k0 := 238) (a := 71) (f := 71) (x := h 238 71) (nx := 172) (r1 := 0) (r2 := 0) (r3 := 0) rfl (by decide) rfl (by omega) (by omega) (by decide) ((u24 238 71 rfl).trans ((u19 238 71 rfl).trans (u17 238 71 rfl))) ?_
      refine wi_iload (i := 4) (e := 0) (nx := 174) (r1 := 0) (r2 := 0) (r3 := 0) rfl rfl ?_
      refine wi_S (rest := [vi (h 238 71), vi 71, .ref 238]) (as := [vi 0]) (nx := 177) (r1 := 207) (r2 := 17) (r3 := 0) rfl rfl rfl (of_decide_eq_true rfl) rfl rfl (of_decide_eq_true rfl) (of_decide_eq_true rfl) ?_
      refine wi_iload_n (i := 0) (e := 0) (nx := 1) (r1 := 0) (r2 := 0) (r3 := 0) rfl rfl ?_
      refine wi_if (cd := .eq) (nx := 4) (r1 := 8) (r2 := 0) (r3 := 0) rfl (by omega) (fun (q27 : 0 = 0) => ?_) (fun (q27 : ¬ (0 = 0)) => by exfalso; omega)
      refine wi_iconst (n := 0) (nx := 9) (r1 := 0) (r2 := 0) (r3 := 0) rfl ?_
      refine wi_ireturn (nx := 10) (r1 := 0) (r2 := 0) (r3 := 0) rfl rfl ?_
      refine wk_i ?_
      refine wr_add (nx := 178) (r1 := 0) (r2 := 0) (r3 := 0) rfl (fun e28 (fe28 : e28 = (h 238 71) + 0) => ?_)
      refine wr_is (k0 := 238) (a := 71) (f := 71) (x := e28) (bl := -2147483648) (bh := 2147483647) (nx := 179) (r1 := 0) (r2 := 0) (r3 := 0) rfl (by decide) rfl (by omega) (by omega) (by decide) g24 rfl (by omega) (fun h29 g29 w29 u29 => ?_)
      have F30 := F25.then rfl u29
      refine wi_aload_n (i := 0) (x := 236) (nx := 180) (r1 := 0) (r2 := 0) (r3 := 0) rfl rfl ?_
      refine wr_gr (k0 := 236) (x := 238) (nx := 183) (r1 := 11) (r2 := 13) (r3 := 0) rfl rfl (by decide) rfl ⟨rfl, rfl⟩ rfl ?_
      refine wi_bipush (n := 72) (nx := 185) (r1 := 0) (r2 := 0) (r3 := 0) rfl (by decide) ?_
      refine wi_dup2 (nx := 186) (r1 := 0) (r2 := 0) (r3 := 0) rfl rfl rfl ?_
      have b31 := gi_b (lo := -2147483648) (hi := 2147483647) g 238 72 rfl
      refine wr_ia (k0 := 238) (a := 72) (f := 72) (x := h 238 72) (nx := 187) (r1 := 0) (r2 := 0) (r3 := 0) rfl (by decide) rfl (by omega) (by omega) (by decide) ((u29 238 72 rfl).trans ((u24 238 72 rfl).trans ((u19 238 72 rfl).trans (u17 238 72 rfl)))) ?_
      refine wi_iload (i := 5) (e := h 238 i14) (nx := 189) (r1 := 0) (r2 := 0) (r3 := 0) rfl rfl ?_
      refine wr_addW (nx := 190) (r1 := 0) (r2 := 0) (r3 := 0) rfl (fun e32 (fe32 : -2147483648 ≤ e32 ∧ e32 ≤ 2147483647) => ?_)
      refine wr_is (k0 := 238) (a := 72) (f := 72) (x := e32) (bl := -2147483648) (bh := 2147483647) (nx := 191) (r1 := 0) (r2 := 0) (r3 := 0) rfl (by decide) rfl (by omega) (by omega) (by decide) g29 rfl (by omega) (fun h33 g33 w33 u33 => ?_)
      have F34 := F30.then rfl u33
      refine wi_aload_n (i := 0) (x := 236) (nx := 192) (r1 := 0) (r2 := 0) (r3 := 0) rfl rfl ?_
      refine wr_gr (k0 := 236) (x := 238) (nx := 195) (r1 := 11) (r2 := 13) (r3 := 0) rfl rfl (by decide) rfl ⟨rfl, rfl⟩ rfl ?_
      refine wi_bipush (n := 67) (nx := 197) (r1 := 0) (r2 := 0) (r3 := 0) rfl (by decide) ?_
      refine wi_dup2 (nx := 198) (r1 := 0) (r2 := 0) (r3 := 0) rfl rfl rfl ?_
      refine wr_ia (k0 := 238) (a := 67) (f := 67) (x := h 238 67) (nx := 199) (r1 := 0) (r2 := 0) (r3 := 0) rfl (by decide) rfl (by omega) (by omega) (by decide) ((u33 238 67 rfl).trans ((u29 238 67 rfl).trans ((u24 238 67 rfl).trans ((u19 238 67 rfl).trans (u17 238 67 rfl))))) ?_
      refine wi_iconst (n := 1) (nx := 200) (r1 := 0) (r2 := 0) (r3 := 0) rfl ?_
      refine wr_add (nx := 201) (r1 := 0) (r2 := 0) (r3 := 0) rfl (fun e35 (fe35 : e35 = (h 238 67) + 1) => ?_)
      refine wr_is (k0 := 238) (a := 67) (f := 67) (x := e35) (bl := 0) (bh := 9999) (nx := 202) (r1 := 0) (r2 := 0) (r3 := 0) rfl (by decide) rfl (by omega) (by omega) (by decide) g33 rfl (by omega) (fun h36 g36 w36 u36 => ?_)
      have F37 := F34.then rfl u36
      refine wi_bipush (n := 120) (nx := 204) (r1 := 0) (r2 := 0) (r3 := 0) rfl (by decide) ?_
      refine wi_iconst (n := 4) (nx := 205) (r1 := 0) (r2 := 0) (r3 := 0) rfl ?_
      refine wi_aload_n (i := 0) (x := 236) (nx := 206) (r1 := 0) (r2 := 0) (r3 := 0) rfl rfl ?_
      refine wr_gr (k0 := 236) (x := 238) (nx := 209) (r1 := 11) (r2 := 13) (r3 := 0) rfl rfl (by decide) rfl ⟨rfl, rfl⟩ rfl ?_
      refine wi_bipush (n := 119) (nx := 211) (r1 := 0) (r2 := 0) (r3 := 0) rfl (by decide) ?_
      refine wr_ia (k0 := 238) (a := 119) (f := 119) (x := h 238 119) (nx := 212) (r1 := 0) (r2 := 0) (r3 := 0) rfl (by decide) rfl (by omega) (by omega) (by decide) ((u36 238 119 rfl).trans ((u33 238 119 rfl).trans ((u29 238 119 rfl).trans ((u24 238 119 rfl).trans ((u19 238 119 rfl).trans (u17 238 119 rfl)))))) ?_
      refine wi_bipush (n := 20) (nx := 214) (r1 := 0) (r2 := 0) (r3 := 0) rfl (by decide) ?_
      refine wr_iremC (nx := 215) (r1 := 0) (r2 := 0) (r3 := 0) rfl (by omega) (by decide) (fun e38 (fe38 : e38 = (h 238 119) % 20) => ?_)
      refine wr_mul (nx := 216) (r1 := 0) (r2 := 0) (r3 := 0) rfl (fun e39 (fe39 : e39 = 4 * e38) => ?_)
      refine wr_add (nx := 217) (r1 := 0) (r2 := 0) (r3 := 0) rfl (fun e40 (fe40 : e40 = 120 + e39) => ?_)
      refine wi_istore (i := 6) (e := e40) (lo2 := [(6, vi e40), (5, vi (h 238 i14)), (4, vi 0), (3, vi 1), (2, vi (h 238 i6)), (0, .ref 236), (1, vi a0)]) (nx := 219) (r1 := 0) (r2 := 0) (r3 := 0) rfl rfl ?_
      refine wi_aload_n (i := 0) (x := 236) (nx := 220) (r1 := 0) (r2 := 0) (r3 := 0) rfl rfl ?_
      refine wr_gr (k0 := 236) (x := 238) (nx := 223) (r1 := 11) (r2 := 13) (r3 := 0) rfl rfl (by decide) rfl ⟨rfl, rfl⟩ rfl ?_
      refine wi_iload (i := 6) (e := e40) (nx := 225) (r1 := 0) (r2 := 0) (r3 := 0) rfl rfl ?_
      refine wi_iload_n (i := 1) (e := a0) (nx := 226) (r1 := 0) (r2 := 0) (r3 := 0) rfl rfl ?_
      obtain ⟨i41, ei41⟩ : ∃ q : Nat, e40 = (q : Int) := ⟨(e40).toNat, by omega⟩
      refine wr_is (k0 := 238) (a := e40) (f := i41) (x := a0) (bl := -2147483648) (bh := 2147483647) (nx := 227) (r1 := 0) (r2 := 0) (r3 := 0) rfl (by decide) rfl (by omega) (by omega) (by decide) g36 (gi_rg 120 77 (fun _ => rfl) (by decide +kernel) (by omega)) (by omega) (fun h42 g42 w42 u42 => ?_)
      have F43 := F37.then rfl (FR.idx (p := 120) (q := 196) u42 (by omega))
      refine wi_aload_n (i := 0) (x := 236) (nx := 228) (r1 := 0) (r2 := 0) (r3 := 0) rfl rfl ?_
      refine wr_gr (k0 := 236) (x := 238) (nx := 231) (r1 := 11) (r2 := 13) (r3 := 0) rfl rfl (by decide) rfl ⟨rfl, rfl⟩ rfl ?_
      refine wi_iload (i := 6) (e := e40) (nx := 233) (r1 := 0) (r2 := 0) (r3 := 0) rfl rfl ?_
      refine wi_iconst (n := 1) (nx := 234) (r1 := 0) (r2 := 0) (r3 := 0) rfl ?_
      refine wr_add (nx := 235) (r1 := 0) (r2 := 0) (r3 := 0) rfl (fun e44 (fe44 : e44 = e40 + 1) => ?_)
      refine wi_iload_n (i := 2) (e := h 238 i6) (nx := 236) (r1 := 0) (r2 := 0) (r3 := 0) rfl rfl ?_
      obtain ⟨i45, ei45⟩ : ∃ q : Nat, e44 = (q : Int) := ⟨(e44).toNat, by omega⟩
      refine wr_is (k0 := 238) (a := e44) (f := i45) (x := h 238 i6) (bl := -2147483648) (bh := 2147483647) (nx := 237) (r1 := 0) (r2 := 0) (r3 := 0) rfl (by decide) rfl (by omega) (by omega) (by decide) g42 (gi_rg 121 77 (fun _ => rfl) (by decide +kernel) (by omega)) (by omega) (fun h46 g46 w46 u46 => ?_)
      have F47 := F43.then rfl (FR.idx (p := 121) (q := 197) u46 (by omega))
      refine wi_aload_n (i := 0) (x := 236) (nx := 238) (r1 := 0) (r2 := 0) (r3 := 0) rfl rfl ?_
      refine wr_gr (k0 := 236) (x := 238) (nx := 241) (r1 := 11) (r2 := 13) (r3 := 0) rfl rfl (by decide) rfl ⟨rfl, rfl⟩ rfl ?_
      refine wi_iload (i := 6) (e := e40) (nx := 243) (r1 := 0) (r2 := 0) (r3 := 0) rfl rfl ?_
      refine wi_iconst (n := 2) (nx := 244) (r1 := 0) (r2 := 0) (r3 := 0) rfl ?_
      refine wr_add (nx := 245) (r1 := 0) (r2 := 0) (r3 := 0) rfl (fun e48 (fe48 : e48 = e40 + 2) => ?_)
      refine wi_iload (i := 5) (e := h 238 i14) (nx := 247) (r1 := 0) (r2 := 0) (r3 := 0) rfl rfl ?_
      obtain ⟨i49, ei49⟩ : ∃ q : Nat, e48 = (q : Int) := ⟨(e48).toNat, by omega⟩
      refine wr_is (k0 := 238) (a := e48) (f := i49) (x := h 238 i14) (bl := -2147483648) (bh := 2147483647) (nx := 248) (r1 := 0) (r2 := 0) (r3 := 0) rfl (by decide) rfl (by omega) (by omega) (by decide) g46 (gi_rg 122 77 (fun _ => rfl) (by decide +kernel) (by omega)) (by omega) (fun h50 g50 w50 u50 => ?_)
      have F51 := F47.then rfl (FR.idx (p := 122) (q := 198) u50 (by omega))
      refine wi_aload_n (i := 0) (x := 236) (nx := 249) (r1 := 0) (r2 := 0) (r3 := 0) rfl rfl ?_
      refine wr_gr (k0 := 236) (x := 238) (nx := 252) (r1 := 11) (r2 := 13) (r3 := 0) rfl rfl (by decide) rfl ⟨rfl, rfl⟩ rfl ?_
      refine wi_iload (i := 6) (e := e40) (nx := 254) (r1 := 0) (r2 := 0) (r3 := 0) rfl rfl ?_
      refine wi_iconst (n := 3) (nx := 255) (r1 := 0) (r2 := 0) (r3 := 0) rfl ?_
      refine wr_add (nx := 256) (r1 := 0) (r2 := 0) (r3 := 0) rfl (fun e52 (fe52 : e52 = e40 + 3) => ?_)
      refine wi_iload_n (i := 3) (e := 1) (nx := 257) (r1 := 0) (r2 := 0) (r3 := 0) rfl rfl ?_
      refine wi_S (rest := [vi e52, .ref 238]) (as := [vi 1]) (nx := 260) (r1 := 207) (r2 := 17) (r3 := 0) rfl rfl rfl (of_decide_eq_true rfl) rfl rfl (of_decide_eq_true rfl) (of_decide_eq_true rfl) ?_
      refine wi_iload_n (i := 0) (e := 1) (nx := 1) (r1 := 0) (r2 := 0) (r3 := 0) rfl rfl ?_
      refine wi_if (cd := .eq) (nx := 4) (r1 := 8) (r2 := 0) (r3 := 0) rfl (by omega) (fun (q53 : 1 = 0) => by exfalso; omega) (fun (q53 : ¬ (1 = 0)) => ?_)
      refine wi_iconst (n := 1) (nx := 5) (r1 := 0) (r2 := 0) (r3 := 0) rfl ?_
      refine wi_goto (nx := 8) (r1 := 9) (r2 := 0) (r3 := 0) rfl ?_
      refine wi_ireturn (nx := 10) (r1 := 0) (r2 := 0) (r3 := 0) rfl rfl ?_
      refine wk_i ?_
      refine wi_iload (i := 4) (e := 0) (nx := 262) (r1 := 0) (r2 := 0) (r3 := 0) rfl rfl ?_
      refine wi_S (rest := [vi 1, vi e52, .ref 238]) (as := [vi 0]) (nx := 265) (r1 := 207) (r2 := 17) (r3 := 0) rfl rfl rfl (of_decide_eq_true rfl) rfl rfl (of_decide_eq_true rfl) (of_decide_eq_true rfl) ?_
      refine wi_iload_n (i := 0) (e := 0) (nx := 1) (r1 := 0) (r2 := 0) (r3 := 0) rfl rfl ?_
      refine wi_if (cd := .eq) (nx := 4) (r1 := 8) (r2 := 0) (r3 := 0) rfl (by omega) (fun (q54 : 0 = 0) => ?_) (fun (q54 : ¬ (0 = 0)) => by exfalso; omega)
      refine wi_iconst (n := 0) (nx := 9) (r1 := 0) (r2 := 0) (r3 := 0) rfl ?_
      refine wi_ireturn (nx := 10) (r1 := 0) (r2 := 0) (r3 := 0) rfl rfl ?_
      refine wk_i ?_
      refine wi_iconst (n := 1) (nx := 266) (r1 := 0) (r2 := 0) (r3 := 0) rfl ?_
      refine wi_ishl (e := 0) (nx := 267) (r1 := 0) (r2 := 0) (r3 := 0) rfl (by decide) ?_
      refine wi_ior (e := 1) (nx := 268) (r1 := 0) (r2 := 0) (r3 := 0) rfl (by decide) ?_
      refine wi_aload_n (i := 0) (x := 236) (nx := 269) (r1 := 0) (r2 := 0) (r3 := 0) rfl rfl ?_
      refine wr_gr (k0 := 236) (x := 238) (nx := 272) (r1 := 11) (r2 := 13) (r3 := 0) rfl rfl (by decide) rfl ⟨rfl, rfl⟩ rfl ?_
      refine wi_bipush (n := 43) (nx := 274) (r1 := 0) (r2 := 0) (r3 := 0) rfl (by decide) ?_
      refine wi_iload_n (i := 1) (e := a0) (nx := 275) (r1 := 0) (r2 := 0) (r3 := 0) rfl rfl ?_
      refine wr_add (nx := 276) (r1 := 0) (r2 := 0) (r3 := 0) rfl (fun e55 (fe55 : e55 = 43 + a0) => ?_)
      obtain ⟨i56, ei56⟩ : ∃ q : Nat, e55 = (q : Int) := ⟨(e55).toNat, by omega⟩
      have b57 := gi_b (lo := 0) (hi := 999) g 238 i56 (gi_rg 43 12 (fun _ => rfl) (by decide +kernel) (by omega))
      refine wr_ia (k0 := 238) (a := e55) (f := i56) (x := h 238 i56) (nx := 277) (r1 := 0) (r2 := 0) (r3 := 0) rfl (by decide) rfl (by omega) (by omega) (by decide) ((u50 238 i56 (fn_i (by omega) fn_0)).trans ((u46 238 i56 (fn_i (by omega) fn_0)).trans ((u42 238 i56 (fn_i (by omega) fn_0)).trans ((u36 238 i56 (fn_i (by omega) fn_0)).trans ((u33 238 i56 (fn_i (by omega) fn_0)).trans ((u29 238 i56 (fn_i (by omega) fn_0)).trans ((u24 238 i56 (fn_i (by omega) fn_0)).trans ((u19 238 i56 (fn_i (by omega) fn_0)).trans (u17 238 i56 (fn_i (by omega) fn_0)))))))))) ?_
      refine wi_if (cd := .le) (nx := 280) (r1 := 284) (r2 := 0) (r3 := 0) rfl (by omega) (fun (q58 : (h 238 i56) ≤ 0) => ?_) (fun (q58 : ¬ ((h 238 i56) ≤ 0)) => ?_)
      ·
        refine wi_iconst (n := 0) (nx := 285) (r1 := 0) (r2 := 0) (r3 := 0) rfl ?_
        refine wi_S (rest := [vi 1, vi e52, .ref 238]) (as := [vi 0]) (nx := 288) (r1 := 207) (r2 := 17) (r3 := 0) rfl rfl rfl (of_decide_eq_true rfl) rfl rfl (of_decide_eq_true rfl) (of_decide_eq_true rfl) ?_
        refine wi_iload_n (i := 0) (e := 0) (nx := 1) (r1 := 0) (r2 := 0) (r3 := 0) rfl rfl ?_
        refine wi_if (cd := .eq) (nx := 4) (r1 := 8) (r2 := 0) (r3 := 0) rfl (by omega) (fun (q59 : 0 = 0) => ?_) (fun (q59 : ¬ (0 = 0)) => by exfalso; omega)
        refine wi_iconst (n := 0) (nx := 9) (r1 := 0) (r2 := 0) (r3 := 0) rfl ?_
        refine wi_ireturn (nx := 10) (r1 := 0) (r2 := 0) (r3 := 0) rfl rfl ?_
        refine wk_i ?_
        refine wi_iconst (n := 2) (nx := 289) (r1 := 0) (r2 := 0) (r3 := 0) rfl ?_
        refine wi_ishl (e := 0) (nx := 290) (r1 := 0) (r2 := 0) (r3 := 0) rfl (by decide) ?_
        refine wi_ior (e := 1) (nx := 291) (r1 := 0) (r2 := 0) (r3 := 0) rfl (by decide) ?_
        obtain ⟨i60, ei60⟩ : ∃ q : Nat, e52 = (q : Int) := ⟨(e52).toNat, by omega⟩
        refine wr_is (k0 := 238) (a := e52) (f := i60) (x := 1) (bl := -2147483648) (bh := 2147483647) (nx := 292) (r1 := 0) (r2 := 0) (r3 := 0) rfl (by decide) rfl (by omega) (by omega) (by decide) g50 (gi_rg 123 77 (fun _ => rfl) (by decide +kernel) (by omega)) (by omega) (fun h61 g61 w61 u61 => ?_)
        have F62 := F51.then rfl (FR.idx (p := 123) (q := 199) u61 (by omega))
        refine wi_aload_n (i := 0) (x := 236) (nx := 293) (r1 := 0) (r2 := 0) (r3 := 0) rfl rfl ?_
        refine wr_gr (k0 := 236) (x := 238) (nx := 296) (r1 := 11) (r2 := 13) (r3 := 0) rfl rfl (by decide) rfl ⟨rfl, rfl⟩ rfl ?_
        refine wi_bipush (n := 119) (nx := 298) (r1 := 0) (r2 := 0) (r3 := 0) rfl (by decide) ?_
        refine wi_dup2 (nx := 299) (r1 := 0) (r2 := 0) (r3 := 0) rfl rfl rfl ?_
        refine wr_ia (k0 := 238) (a := 119) (f := 119) (x := h 238 119) (nx := 300) (r1 := 0) (r2 := 0) (r3 := 0) rfl (by decide) rfl (by omega) (by omega) (by decide) ((u61 238 119 (fn_i (by omega) fn_0)).trans ((u50 238 119 (fn_i (by omega) fn_0)).trans ((u46 238 119 (fn_i (by omega) fn_0)).trans ((u42 238 119 (fn_i (by omega) fn_0)).trans ((u36 238 119 rfl).trans ((u33 238 119 rfl).trans ((u29 238 119 rfl).trans ((u24 238 119 rfl).trans ((u19 238 119 rfl).trans (u17 238 119 rfl)))))))))) ?_
        refine wi_iconst (n := 1) (nx := 301) (r1 := 0) (r2 := 0) (r3 := 0) rfl ?_
        refine wr_add (nx := 302) (r1 := 0) (r2 := 0) (r3 := 0) rfl (fun e63 (fe63 : e63 = (h 238 119) + 1) => ?_)
        refine wr_is (k0 := 238) (a := 119) (f := 119) (x := e63) (bl := 0) (bh := 9999) (nx := 303) (r1 := 0) (r2 := 0) (r3 := 0) rfl (by decide) rfl (by omega) (by omega) (by decide) g61 rfl (by omega) (fun h64 g64 w64 u64 => ?_)
        have F65 := F62.then rfl u64
        refine wi_return (nx := 304) (r1 := 0) (r2 := 0) (r3 := 0) rfl rfl ?_
        have e66 : h64 238 119 = e63 := w64
        have e67 : h64 238 67 = e35 := ((u64 238 67 rfl).trans ((u61 238 67 (fn_i (by omega) fn_0)).trans ((u50 238 67 (fn_i (by omega) fn_0)).trans ((u46 238 67 (fn_i (by omega) fn_0)).trans ((u42 238 67 (fn_i (by omega) fn_0)).trans w36)))))
        have e68 : h64 238 69 = 1 := ((u64 238 69 rfl).trans ((u61 238 69 (fn_i (by omega) fn_0)).trans ((u50 238 69 (fn_i (by omega) fn_0)).trans ((u46 238 69 (fn_i (by omega) fn_0)).trans ((u42 238 69 (fn_i (by omega) fn_0)).trans ((u36 238 69 rfl).trans ((u33 238 69 rfl).trans ((u29 238 69 rfl).trans ((u24 238 69 rfl).trans ((u19 238 69 rfl).trans w17))))))))))
        have e69 : h64 238 5 = h 238 5 := ((u64 238 5 rfl).trans ((u61 238 5 (fn_i (by omega) fn_0)).trans ((u50 238 5 (fn_i (by omega) fn_0)).trans ((u46 238 5 (fn_i (by omega) fn_0)).trans ((u42 238 5 (fn_i (by omega) fn_0)).trans ((u36 238 5 rfl).trans ((u33 238 5 rfl).trans ((u29 238 5 rfl).trans ((u24 238 5 rfl).trans ((u19 238 5 rfl).trans (u17 238 5 rfl)))))))))))
        exact k h64 g64 F65 (show (h64 238 119) ≤ (h64 238 67) by omega) (show (h64 238 69) ≤ (h64 238 5) by omega)
      ·
        refine wi_iconst (n := 1) (nx := 281) (r1 := 0) (r2 := 0) (r3 := 0) rfl ?_
        refine wi_goto (nx := 284) (r1 := 285) (r2 := 0) (r3 := 0) rfl ?_
        refine wi_S (rest := [vi 1, vi e52, .ref 238]) (as := [vi 1]) (nx := 288) (r1 := 207) (r2 := 17) (r3 := 0) rfl rfl rfl (of_decide_eq_true rfl) rfl rfl (of_decide_eq_true rfl) (of_decide_eq_true rfl) ?_
        refine wi_iload_n (i := 0) (e := 1) (nx := 1) (r1 := 0) (r2 := 0) (r3 := 0) rfl rfl ?_
        refine wi_if (cd := .eq) (nx := 4) (r1 := 8) (r2 := 0) (r3 := 0) rfl (by omega) (fun (q59 : 1 = 0) => by exfalso; omega) (fun (q59 : ¬ (1 = 0)) => ?_)
        refine wi_iconst (n := 1) (nx := 5) (r1 := 0) (r2 := 0) (r3 := 0) rfl ?_
        refine wi_goto (nx := 8) (r1 := 9) (r2 := 0) (r3 := 0) rfl ?_
        refine wi_ireturn (nx := 10) (r1 := 0) (r2 := 0) (r3 := 0) rfl rfl ?_
        refine wk_i ?_
        refine wi_iconst (n := 2) (nx := 289) (r1 := 0) (r2 := 0) (r3 := 0) rfl ?_
        refine wi_ishl (e := 4) (nx := 290) (r1 := 0) (r2 := 0) (r3 := 0) rfl (by decide) ?_
        refine wi_ior (e := 5) (nx := 291) (r1 := 0) (r2 := 0) (r3 := 0) rfl (by decide) ?_
        obtain ⟨i60, ei60⟩ : ∃ q : Nat, e52 = (q : Int) := ⟨(e52).toNat, by omega⟩
        refine wr_is (k0 := 238) (a := e52) (f := i60) (x := 5) (bl := -2147483648) (bh := 2147483647) (nx := 292) (r1 := 0) (r2 := 0) (r3 := 0) rfl (by decide) rfl (by omega) (by omega) (by decide) g50 (gi_rg 123 77 (fun _ => rfl) (by decide +kernel) (by omega)) (by omega) (fun h61 g61 w61 u61 => ?_)
        have F62 := F51.then rfl (FR.idx (p := 123) (q := 199) u61 (by omega))
        refine wi_aload_n (i := 0) (x := 236) (nx := 293) (r1 := 0) (r2 := 0) (r3 := 0) rfl rfl ?_
        refine wr_gr (k0 := 236) (x := 238) (nx := 296) (r1 := 11) (r2 := 13) (r3 := 0) rfl rfl (by decide) rfl ⟨rfl, rfl⟩ rfl ?_
        refine wi_bipush (n := 119) (nx := 298) (r1 := 0) (r2 := 0) (r3 := 0) rfl (by decide) ?_
        refine wi_dup2 (nx := 299) (r1 := 0) (r2 := 0) (r3 := 0) rfl rfl rfl ?_
        refine wr_ia (k0 := 238) (a := 119) (f := 119) (x := h 238 119) (nx := 300) (r1 := 0) (r2 := 0) (r3 := 0) rfl (by decide) rfl (by omega) (by omega) (by decide) ((u61 238 119 (fn_i (by omega) fn_0)).trans ((u50 238 119 (fn_i (by omega) fn_0)).trans ((u46 238 119 (fn_i (by omega) fn_0)).trans ((u42 238 119 (fn_i (by omega) fn_0)).trans ((u36 238 119 rfl).trans ((u33 238 119 rfl).trans ((u29 238 119 rfl).trans ((u24 238 119 rfl).trans ((u19 238 119 rfl).trans (u17 238 119 rfl)))))))))) ?_
        refine wi_iconst (n := 1) (nx := 301) (r1 := 0) (r2 := 0) (r3 := 0) rfl ?_
        refine wr_add (nx := 302) (r1 := 0) (r2 := 0) (r3 := 0) rfl (fun e63 (fe63 : e63 = (h 238 119) + 1) => ?_)
        refine wr_is (k0 := 238) (a := 119) (f := 119) (x := e63) (bl := 0) (bh := 9999) (nx := 303) (r1 := 0) (r2 := 0) (r3 := 0) rfl (by decide) rfl (by omega) (by omega) (by decide) g61 rfl (by omega) (fun h64 g64 w64 u64 => ?_)
        have F65 := F62.then rfl u64
        refine wi_return (nx := 304) (r1 := 0) (r2 := 0) (r3 := 0) rfl rfl ?_
        have e66 : h64 238 119 = e63 := w64
        have e67 : h64 238 67 = e35 := ((u64 238 67 rfl).trans ((u61 238 67 (fn_i (by omega) fn_0)).trans ((u50 238 67 (fn_i (by omega) fn_0)).trans ((u46 238 67 (fn_i (by omega) fn_0)).trans ((u42 238 67 (fn_i (by omega) fn_0)).trans w36)))))
        have e68 : h64 238 69 = 1 := ((u64 238 69 rfl).trans ((u61 238 69 (fn_i (by omega) fn_0)).trans ((u50 238 69 (fn_i (by omega) fn_0)).trans ((u46 238 69 (fn_i (by omega) fn_0)).trans ((u42 238 69 (fn_i (by omega) fn_0)).trans ((u36 238 69 rfl).trans ((u33 238 69 rfl).trans ((u29 238 69 rfl).trans ((u24 238 69 rfl).trans ((u19 238 69 rfl).trans w17))))))))))
        have e69 : h64 238 5 = h 238 5 := ((u64 238 5 rfl).trans ((u61 238 5 (fn_i (by omega) fn_0)).trans ((u50 238 5 (fn_i (by omega) fn_0)).trans ((u46 238 5 (fn_i (by omega) fn_0)).trans ((u42 238 5 (fn_i (by omega) fn_0)).trans ((u36 238 5 rfl).trans ((u33 238 5 rfl).trans ((u29 238 5 rfl).trans ((u24 238 5 rfl).trans ((u19 238 5 rfl).trans (u17 238 5 rfl)))))))))))
        exact k h64 g64 F65 (show (h64 238 119) ≤ (h64 238 67) by omega) (show (h64 238 69) ≤ (h64 238 5) by omega)
-- method 282: Model.leaves(I)I
set_option maxHeartbeats 100000000 in
theorem ct_282_236_L0 {L : Nat} {xs : Nat → Int32} {d b c : Nat} {h : hp} {cr : Nat → Nat → Option Nat} {Q : hp_Q} (hcr : CR cr)  (g : GI h)   (pp0 : h 238 98 + h 238 99 + h 238 100 + h 238 101 + h 238 102 + h 238 106 = h 238 73) (pp1 : h 238 73 ≤ h 238 2) (pp2 : h 238 119 ≤ h 238 67) (pp3 : h 238 69 ≤ h 238 5) (pp4 : h 238 2 ≤ 12 * h 238 5) (pp5 : 1 ≤ h 238 98) (pp6 : h 238 67 ≤ 9998) (pp7 : h 238 102 ≤ 2 ∨ h 238 (43 + (h 238 74).toNat) ≤ 0) (k : ∀ (h2 : hp) (z0 : Int) , GI h2 → FR [(238, 238, some (43, 54)), (238, 238, some (55, 66)), (238, 238, some (67, 67)), (238, 238, some (68, 68)), (238, 238, some (69, 69)), (238, 238, some (70, 70)), (238, 238, some (71, 71)), (238, 238, some (72, 72)), (238, 238, some (74, 78)), (238, 238, some (98, 98)), (238, 238, some (102, 102)), (238, 238, some (103, 105)), (238, 238, some (106, 106)), (238, 238, some (107, 118)), (238, 238, some (119, 119)), (238, 238, some (120, 196)), (238, 238, some (121, 197)), (238, 238, some (122, 198)), (238, 238, some (123, 199))] h h2 → (0 ≤ z0 ∧ z0 ≤ 11) → (h2 238 98 + h2 238 99 + h2 238 100 + h2 238 101 + h2 238 102 + h2 238 106 = h2 238 73) → (h2 238 73 ≤ h2 238 2) → (h2 238 119 ≤ h2 238 67) → (h2 238 69 ≤ h2 238 5) → (h2 238 2 ≤ 12 * h2 238 5) → Q (.inl (some (vi z0))) (hp_w h2 cr) b c) : wp (md_xa (L, xs)) (d + 2) 282 (0, [(0, .ref 236), (1, vi 0)], [], hp_w h cr, b, c) Q := by
  have F0 : FR [(238, 238, some (43, 54)), (238, 238, some (55, 66)), (238, 238, some (67, 67)), (238, 238, some (68, 68)), (238, 238, some (69, 69)), (238, 238, some (70, 70)), (238, 238, some (71, 71)), (238, 238, some (72, 72)), (238, 238, some (74, 78)), (238, 238, some (98, 98)), (238, 238, some (102, 102)), (238, 238, some (103, 105)), (238, 238, some (106, 106)), (238, 238, some (107, 118)), (238, 238, some (119, 119)), (238, 238, some (120, 196)), (238, 238, some (121, 197)), (238, 238, some (122, 198)), (238, 238, some (123, 199))] h h := FR.refl
  have b1 := gi_b (lo := 0) (hi := 6) g 238 98 rfl
  have b2 := gi_b (lo := 0) (hi := 6) g 238 99 rfl
  have b3 := gi_b (lo := 0) (hi := 6) g 238 100 rfl
  have b4 := gi_b (lo := 0) (hi := 6) g 238 101 rfl
  have b5 := gi_b (lo := 0) (hi := 3) g 238 102 rfl
  have b6 := gi_b (lo := 0) (hi := 12) g 238 106 rfl
  have b7 := gi_b (lo := 0) (hi := 12) g 238 73 rfl
  have b8 := gi_b (lo := 0) (hi := 12) g 238 2 rfl
  have b9 := gi_b (lo := 0) (hi := 9999) g 238 119 rfl
  have b10 := gi_b (lo := 0) (hi := 9999) g 238 67 rfl
  have b11 := gi_b (lo := 0) (hi := 9) g 238 69 rfl
  have b12 := gi_b (lo := 0) (hi := 9) g 238 5 rfl
  have b13 := gi_b (lo := 0) (hi := 11) g 238 74 rfl
  obtain ⟨i14, ei14⟩ : ∃ q : Nat, (43 + h 238 74) = (q : Int) := ⟨(43 + h 238 74).toNat, by omega⟩
  have b15 := gi_b (lo := 0) (hi := 999) g 238 i14 (gi_rg 43 12 (fun _ => rfl) (by decide +kernel) (by omega))
  have e16 : h 238 (43 + (h 238 74).toNat) = h 238 i14 := by rw [show 43 + (h 238 74).toNat = i14 by omega]
  refine wi_aload_n (i := 0) (x := 236) (nx := 1) (r1 := 0) (r2 := 0) (r3 := 0) rfl rfl ?_
  refine wi_iload_n (i := 1) (e := 0) (nx := 2) (r1 := 0) (r2 := 0) (r3 := 0) rfl rfl ?_
  refine wi_iconst (n := 0) (nx := 3) (r1 := 0) (r2 := 0) (r3 := 0) rfl ?_
  refine wr_V (k0 := 236) (rest := []) (as := [.ref 236, vi 0, vi 0]) (nx := 6) (r1 := 258) (r2 := 2) (r3 := 11) rfl rfl rfl (of_decide_eq_true rfl) rfl rfl (by decide) rfl rfl (of_decide_eq_true rfl) (of_decide_eq_true rfl) ?_
  refine wi_aload_n (i := 0) (x := 236) (nx := 1) (r1 := 0) (r2 := 0) (r3 := 0) rfl rfl ?_
  refine wr_gr (k0 := 236) (x := 238) (nx := 4) (r1 := 11) (r2 := 13) (r3 := 0) rfl rfl (by decide) rfl ⟨rfl, rfl⟩ rfl ?_
  refine wi_bipush (n := 74) (nx := 6) (r1 := 0) (r2 := 0) (r3 := 0) rfl (by decide) ?_
  refine wi_bipush (n := 6) (nx := 8) (r1 := 0) (r2 := 0) (r3 := 0) rfl (by decide) ?_
  refine wi_iload_n (i := 1) (e := 0) (nx := 9) (r1 := 0) (r2 := 0) (r3 := 0) rfl rfl ?_
  refine wr_mulL (0) (nx := 10) (r1 := 0) (r2 := 0) (r3 := 0) rfl (by decide) ?_
  refine wr_addL (74) (nx := 11) (r1 := 0) (r2 := 0) (r3 := 0) rfl (by decide) ?_
  refine wi_iload_n (i := 2) (e := 0) (nx := 12) (r1 := 0) (r2 := 0) (r3 := 0) rfl rfl ?_
  refine wr_addL (74) (nx := 13) (r1 := 0) (r2 := 0) (r3 := 0) rfl (by decide) ?_
  refine wr_ia (k0 := 238) (a := 74) (f := 74) (x := h 238 74) (nx := 14) (r1 := 0) (r2 := 0) (r3 := 0) rfl (by decide) rfl (by omega) (by omega) (by decide) rfl ?_
  refine wi_ireturn (nx := 15) (r1 := 0) (r2 := 0) (r3 := 0) rfl rfl ?_
  refine wk_i ?_
  refine wi_istore_n (i := 2) (e := h 238 74) (lo2 := [(2, vi (h 238 74)), (0, .ref 236), (1, vi 0)]) (nx := 7) (r1 := 0) (r2 := 0) (r3 := 0) rfl rfl ?_
  refine wi_aload_n (i := 0) (x := 236) (nx := 8) (r1 := 0) (r2 := 0) (r3 := 0) rfl rfl ?_
  refine wr_gr (k0 := 236) (x := 238) (nx := 11) (r1 := 11) (r2 := 13) (r3 := 0) rfl rfl (by decide) rfl ⟨rfl, rfl⟩ rfl ?_
  refine wi_bipush (n := 98) (nx := 13) (r1 := 0) (r2 := 0) (r3 := 0) rfl (by decide) ?_
  refine wi_iload_n (i := 1) (e := 0) (nx := 14) (r1 := 0) (r2 := 0) (r3 := 0) rfl rfl ?_
  refine wr_addL (98) (nx := 15) (r1 := 0) (r2 := 0) (r3 := 0) rfl (by decide) ?_
  refine wi_dup2 (nx := 16) (r1 := 0) (r2 := 0) (r3 := 0) rfl rfl rfl ?_
  refine wr_ia (k0 := 238) (a := 98) (f := 98) (x := h 238 98) (nx := 17) (r1 := 0) (r2 := 0) (r3 := 0) rfl (by decide) rfl (by omega) (by omega) (by decide) rfl ?_
  refine wi_iconst (n := 1) (nx := 18) (r1 := 0) (r2 := 0) (r3 := 0) rfl ?_
  refine wr_sub (nx := 19) (r1 := 0) (r2 := 0) (r3 := 0) rfl (fun e17 (fe17 : e17 = (h 238 98) - 1) => ?_)
  refine wr_is (k0 := 238) (a := 98) (f := 98) (x := e17) (bl := 0) (bh := 6) (nx := 20) (r1 := 0) (r2 := 0) (r3 := 0) rfl (by decide) rfl (by omega) (by omega) (by decide) g rfl (by omega) (fun h18 g18 w18 u18 => ?_)
  have F19 := F0.then rfl u18
  refine wi_iconst (n := 0) (nx := 21) (r1 := 0) (r2 := 0) (r3 := 0) rfl ?_
  refine wi_istore_n (i := 3) (e := 0) (lo2 := [(3, vi 0), (2, vi (h 238 74)), (0, .ref 236), (1, vi 0)]) (nx := 22) (r1 := 0) (r2 := 0) (r3 := 0) rfl rfl ?_
  refine wp.lo (lo := [(0, .ref 236), (1, vi 0), (2, vi (h 238 74)), (3, vi 0)]) ⟨rfl, rfl, rfl, rfl, trivial⟩ rfl ?_
  refine wl_1 (fun x20 h21 => GI h21 ∧ FR [(238, 238, some (43, 54)), (238, 238, some (55, 66)), (238, 238, some (67, 67)), (238, 238, some (68, 68)), (238, 238, some (69, 69)), (238, 238, some (70, 70)), (238, 238, some (71, 71)), (238, 238, some (72, 72)), (238, 238, some (74, 78)), (238, 238, some (98, 98)), (238, 238, some (102, 102)), (238, 238, some (103, 105)), (238, 238, some (106, 106)), (238, 238, some (107, 118)), (238, 238, some (119, 119)), (238, 238, some (120, 196)), (238, 238, some (121, 197)), (238, 238, some (122, 198)), (238, 238, some (123, 199))] h h21 ∧ FR [(238, 238, some (74, 78))] h18 h21 ∧ ((0 ≤ x20 ∧ x20 ≤ 5))) (fun x20 h21 => ((5 : Int) + 1 - x20).toNat) (fun x20 h21 => (22, [(0, .ref 236), (1, vi 0), (2, vi (h 238 74)), (3, vi x20)], [], hp_w h21 cr, b, c)) ?_ 0 h18 ⟨g18, F19, FR.refl, (show (0 ≤ 0 ∧ 0 ≤ 5) by omega)⟩
  intro x20 h21 ⟨g21, F22, u21, f21⟩ I21
  refine wi_iload_n (i := 3) (e := x20) (nx := 23) (r1 := 0) (r2 := 0) (r3 := 0) rfl rfl ?_
  refine wi_aload_n (i := 0) (x := 236) (nx := 24) (r1 := 0) (r2 := 0) (r3 := 0) rfl rfl ?_
  refine wr_gr (k0 := 236) (x := 238) (nx := 27) (r1 := 11) (r2 := 13) (r3 := 0) rfl rfl (by decide) rfl ⟨rfl, rfl⟩ rfl ?_
  refine wi_bipush (n := 98) (nx := 29) (r1 := 0) (r2 := 0) (r3 := 0) rfl (by decide) ?_
  refine wi_iload_n (i := 1) (e := 0) (nx := 30) (r1 := 0) (r2 := 0) (r3 := 0) rfl rfl ?_
  refine wr_addL (98) (nx := 31) (r1 := 0) (r2 := 0) (r3 := 0) rfl (by decide) ?_
  refine wr_ia (k0 := 238) (a := 98) (f := 98) (x := e17) (nx := 32) (r1 := 0) (r2 := 0) (r3 := 0) rfl (by decide) rfl (by omega) (by omega) (by decide) ((u21 238 98 rfl).trans w18) ?_
  refine wi_icmp (cd := .ge) (nx := 35) (r1 := 71) (r2 := 0) (r3 := 0) rfl (by omega) (by omega) (fun (q23 : e17 ≤ x20) => ?_) (fun (q23 : ¬ (e17 ≤ x20)) => ?_)
  ·
    refine wi_aload_n (i := 0) (x := 236) (nx := 72) (r1 := 0) (r2 := 0) (r3 := 0) rfl rfl ?_
    refine wi_iload_n (i := 2) (e := h 238 74) (nx := 73) (r1 := 0) (r2 := 0) (r3 := 0) rfl rfl ?_
    refine wr_V (k0 := 236) (rest := []) (as := [.ref 236, vi (h 238 74)]) (nx := 76) (r1 := 283) (r2 := 1) (r3 := 11) rfl rfl rfl (of_decide_eq_true rfl) rfl rfl (by decide) rfl rfl (of_decide_eq_true rfl) (of_decide_eq_true rfl) ?_
    have e25 : h21 238 67 = h 238 67 := ((u21 238 67 rfl).trans (u18 238 67 rfl))
    have e26 : h21 238 119 = h 238 119 := ((u21 238 119 rfl).trans (u18 238 119 rfl))
    have e27 : h21 238 69 = h 238 69 := ((u21 238 69 rfl).trans (u18 238 69 rfl))
    have e28 : h21 238 5 = h 238 5 := ((u21 238 5 rfl).trans (u18 238 5 rfl))
    refine ct_283_236 hcr  g21 (h 238 74) (by omega) (show (h21 238 67) ≤ 9998 by omega) (show (h21 238 119) ≤ (h21 238 67) by omega) (show (h21 238 69) ≤ (h21 238 5) by omega) (show 1 ≤ (h21 238 5) by omega) (fun h24 g24 u24 (p24_0 : (h24 238 119) ≤ (h24 238 67)) (p24_1 : (h24 238 69) ≤ (h24 238 5)) => ?_)
    have F29 := F22.then (by decide +kernel) u24
    have b30 := gi_b (lo := 0) (hi := 9999) g24 238 119 rfl
    have b31 := gi_b (lo := 0) (hi := 9999) g24 238 67 rfl
    have b32 := gi_b (lo := 0) (hi := 9) g24 238 69 rfl
    have e33 : h24 238 5 = h 238 5 := ((u24 238 5 rfl).trans ((u21 238 5 rfl).trans (u18 238 5 rfl)))
    refine wk_n ?_
    refine wi_aload_n (i := 0) (x := 236) (nx := 77) (r1 := 0) (r2 := 0) (r3 := 0) rfl rfl ?_
    refine wr_gr (k0 := 236) (x := 238) (nx := 80) (r1 := 11) (r2 := 13) (r3 := 0) rfl rfl (by decide) rfl ⟨rfl, rfl⟩ rfl ?_
    refine wi_bipush (n := 43) (nx := 82) (r1 := 0) (r2 := 0) (r3 := 0) rfl (by decide) ?_
    refine wi_iload_n (i := 2) (e := h 238 74) (nx := 83) (r1 := 0) (r2 := 0) (r3 := 0) rfl rfl ?_
    refine wr_add (nx := 84) (r1 := 0) (r2 := 0) (r3 := 0) rfl (fun e34 (fe34 : e34 = 43 + (h 238 74)) => ?_)
    refine wr_ia (k0 := 238) (a := e34) (f := i14) (x := h 238 i14) (nx := 85) (r1 := 0) (r2 := 0) (r3 := 0) rfl (by decide) rfl (by omega) (by omega) (by decide) ((u24 238 i14 (fn_i (by omega) (fn_i (by omega) (fn_i (by omega) (fn_i (by omega) (fn_i (by omega) (fn_i (by omega) (fn_i (by omega) (fn_i (by omega) (fn_i (by omega) (fn_i (by omega) (fn_i (by omega) fn_0)))))))))))).trans ((u21 238 i14 (fn_i (by omega) fn_0)).trans (u18 238 i14 (fn_i (by omega) fn_0)))) ?_
    refine wi_if (cd := .ne) (nx := 88) (r1 := 117) (r2 := 0) (r3 := 0) rfl (by omega) (fun (q35 : (h 238 i14) ≠ 0) => ?_) (fun (q35 : ¬ ((h 238 i14) ≠ 0)) => ?_)
    ·
      refine wi_aload_n (i := 0) (x := 236) (nx := 118) (r1 := 0) (r2 := 0) (r3 := 0) rfl rfl ?_
      refine wr_gr (k0 := 236) (x := 238) (nx := 121) (r1 := 11) (r2 := 13) (r3 := 0) rfl rfl (by decide) rfl ⟨rfl, rfl⟩ rfl ?_
      refine wi_bipush (n := 43) (nx := 123) (r1 := 0) (r2 := 0) (r3 := 0) rfl (by decide) ?_
      refine wi_iload_n (i := 2) (e := h 238 74) (nx := 124) (r1 := 0) (r2 := 0) (r3 := 0) rfl rfl ?_
      refine wr_add (nx := 125) (r1 := 0) (r2 := 0) (r3 := 0) rfl (fun e36 (fe36 : e36 = 43 + (h 238 74)) => ?_)
      refine wi_dup2 (nx := 126) (r1 := 0) (r2 := 0) (r3 := 0) rfl rfl rfl ?_
      refine wr_ia (k0 := 238) (a := e36) (f := i14) (x := h 238 i14) (nx := 127) (r1 := 0) (r2 := 0) (r3 := 0) rfl (by decide) rfl (by omega) (by omega) (by decide) ((u24 238 i14 (fn_i (by omega) (fn_i (by omega) (fn_i (by omega) (fn_i (by omega) (fn_i (by omega) (fn_i (by omega) (fn_i (by omega) (fn_i (by omega) (fn_i (by omega) (fn_i (by omega) (fn_i (by omega) fn_0)))))))))))).trans ((u21 238 i14 (fn_i (by omega) fn_0)).trans (u18 238 i14 (fn_i (by omega) fn_0)))) ?_
      refine wi_iconst (n := 1) (nx := 128) (r1 := 0) (r2 := 0) (r3 := 0) rfl ?_
      refine wr_sub (nx := 129) (r1 := 0) (r2 := 0) (r3 := 0) rfl (fun e37 (fe37 : e37 = (h 238 i14) - 1) => ?_)
      refine wr_is (k0 := 238) (a := e36) (f := i14) (x := e37) (bl := 0) (bh := 999) (nx := 130) (r1 := 0) (r2 := 0) (r3 := 0) rfl (by decide) rfl (by omega) (by omega) (by decide) g24 (gi_rg 43 12 (fun _ => rfl) (by decide +kernel) (by omega)) (by omega) (fun h38 g38 w38 u38 => ?_)
      have F39 := F29.then rfl (FR.idx (p := 43) (q := 54) u38 (by omega))
      refine wi_aload_n (i := 0) (x := 236) (nx := 131) (r1 := 0) (r2 := 0) (r3 := 0) rfl rfl ?_
      refine wr_gr (k0 := 236) (x := 238) (nx := 134) (r1 := 11) (r2 := 13) (r3 := 0) rfl rfl (by decide) rfl ⟨rfl, rfl⟩ rfl ?_
      refine wi_bipush (n := 55) (nx := 136) (r1 := 0) (r2 := 0) (r3 := 0) rfl (by decide) ?_
      refine wi_iload_n (i := 2) (e := h 238 74) (nx := 137) (r1 := 0) (r2 := 0) (r3 := 0) rfl rfl ?_
      refine wr_add (nx := 138) (r1 := 0) (r2 := 0) (r3 := 0) rfl (fun e40 (fe40 : e40 = 55 + (h 238 74)) => ?_)
      refine wi_aload_n (i := 0) (x := 236) (nx := 139) (r1 := 0) (r2 := 0) (r3 := 0) rfl rfl ?_
      refine wr_gr (k0 := 236) (x := 238) (nx := 142) (r1 := 11) (r2 := 13) (r3 := 0) rfl rfl (by decide) rfl ⟨rfl, rfl⟩ rfl ?_
      refine wi_bipush (n := 67) (nx := 144) (r1 := 0) (r2 := 0) (r3 := 0) rfl (by decide) ?_
      refine wr_ia (k0 := 238) (a := 67) (f := 67) (x := h24 238 67) (nx := 145) (r1 := 0) (r2 := 0) (r3 := 0) rfl (by decide) rfl (by omega) (by omega) (by decide) (u38 238 67 (fn_i (by omega) fn_0)) ?_
      refine wi_aload_n (i := 0) (x := 236) (nx := 146) (r1 := 0) (r2 := 0) (r3 := 0) rfl rfl ?_
      refine wr_gr (k0 := 236) (x := 238) (nx := 149) (r1 := 11) (r2 := 13) (r3 := 0) rfl rfl (by decide) rfl ⟨rfl, rfl⟩ rfl ?_
      refine wi_bipush (n := 8) (nx := 151) (r1 := 0) (r2 := 0) (r3 := 0) rfl (by decide) ?_
      have b41 := gi_b (lo := 0) (hi := 999) g 238 8 rfl
      refine wr_ia (k0 := 238) (a := 8) (f := 8) (x := h 238 8) (nx := 152) (r1 := 0) (r2 := 0) (r3 := 0) rfl (by decide) rfl (by omega) (by omega) (by decide) ((u38 238 8 (fn_i (by omega) fn_0)).trans ((u24 238 8 rfl).trans ((u21 238 8 rfl).trans (u18 238 8 rfl)))) ?_
      refine wr_add (nx := 153) (r1 := 0) (r2 := 0) (r3 := 0) rfl (fun e42 (fe42 : e42 = (h24 238 67) + (h 238 8)) => ?_)
      obtain ⟨i43, ei43⟩ : ∃ q : Nat, e40 = (q : Int) := ⟨(e40).toNat, by omega⟩
      refine wr_is (k0 := 238) (a := e40) (f := i43) (x := e42) (bl := 0) (bh := 20000) (nx := 154) (r1 := 0) (r2 := 0) (r3 := 0) rfl (by decide) rfl (by omega) (by omega) (by decide) g38 (gi_rg 55 12 (fun _ => rfl) (by decide +kernel) (by omega)) (by omega) (fun h44 g44 w44 u44 => ?_)
      have F45 := F39.then rfl (FR.idx (p := 55) (q := 66) u44 (by omega))
      refine wi_aload_n (i := 0) (x := 236) (nx := 155) (r1 := 0) (r2 := 0) (r3 := 0) rfl rfl ?_
      refine wr_gr (k0 := 236) (x := 238) (nx := 158) (r1 := 11) (r2 := 13) (r3 := 0) rfl rfl (by decide) rfl ⟨rfl, rfl⟩ rfl ?_
      refine wi_bipush (n := 103) (nx := 160) (r1 := 0) (r2 := 0) (r3 := 0) rfl (by decide) ?_
      refine wi_aload_n (i := 0) (x := 236) (nx := 161) (r1 := 0) (r2 := 0) (r3 := 0) rfl rfl ?_
      refine wr_gr (k0 := 236) (x := 238) (nx := 164) (r1 := 11) (r2 := 13) (r3 := 0) rfl rfl (by decide) rfl ⟨rfl, rfl⟩ rfl ?_
      refine wi_bipush (n := 102) (nx := 166) (r1 := 0) (r2 := 0) (r3 := 0) rfl (by decide) ?_
      refine wr_ia (k0 := 238) (a := 102) (f := 102) (x := h 238 102) (nx := 167) (r1 := 0) (r2 := 0) (r3 := 0) rfl (by decide) rfl (by omega) (by omega) (by decide) ((u44 238 102 (fn_i (by omega) fn_0)).trans ((u38 238 102 (fn_i (by omega) fn_0)).trans ((u24 238 102 rfl).trans ((u21 238 102 rfl).trans (u18 238 102 rfl))))) ?_
      refine wr_add (nx := 168) (r1 := 0) (r2 := 0) (r3 := 0) rfl (fun e46 (fe46 : e46 = 103 + (h 238 102)) => ?_)
      refine wi_iload_n (i := 2) (e := h 238 74) (nx := 169) (r1 := 0) (r2 := 0) (r3 := 0) rfl rfl ?_
      obtain ⟨i47, ei47⟩ : ∃ q : Nat, e46 = (q : Int) := ⟨(e46).toNat, by omega⟩
      refine wr_is (k0 := 238) (a := e46) (f := i47) (x := h 238 74) (bl := 0) (bh := 11) (nx := 170) (r1 := 0) (r2 := 0) (r3 := 0) rfl (by decide) rfl (by omega) (by omega) (by decide) g44 (gi_rg 103 3 (fun _ => rfl) (by decide +kernel) (by omega)) (by omega) (fun h48 g48 w48 u48 => ?_)
      have F49 := F45.then rfl (FR.idx (p := 103) (q := 105) u48 (by omega))
      refine wi_aload_n (i := 0) (x := 236) (nx := 171) (r1 := 0) (r2 := 0) (r3 := 0) rfl rfl ?_
      refine wr_gr (k0 := 236) (x := 238) (nx := 174) (r1 := 11) (r2 := 13) (r3 := 0) rfl rfl (by decide) rfl ⟨rfl, rfl⟩ rfl ?_
      refine wi_bipush (n := 102) (nx := 176) (r1 := 0) (r2 := 0) (r3 := 0) rfl (by decide) ?_
      refine wi_dup2 (nx := 177) (r1 := 0) (r2 := 0) (r3 := 0) rfl rfl rfl ?_
      refine wr_ia (k0 := 238) (a := 102) (f := 102) (x := h 238 102) (nx := 178) (r1 := 0) (r2 := 0) (r3 := 0) rfl (by decide) rfl (by omega) (by omega) (by decide) ((u48 238 102 (fn_i (by omega) fn_0)).trans ((u44 238 102 (fn_i (by omega) fn_0)).trans ((u38 238 102 (fn_i (by omega) fn_0)).trans ((u24 238 102 rfl).trans ((u21 238 102 rfl).trans (u18 238 102 rfl)))))) ?_
      refine wi_iconst (n := 1) (nx := 179) (r1 := 0) (r2 := 0) (r3 := 0) rfl ?_
      refine wr_add (nx := 180) (r1 := 0) (r2 := 0) (r3 := 0) rfl (fun e50 (fe50 : e50 = (h 238 102) + 1) => ?_)
      refine wr_is (k0 := 238) (a := 102) (f := 102) (x := e50) (bl := 0) (bh := 3) (nx := 181) (r1 := 0) (r2 := 0) (r3 := 0) rfl (by decide) rfl (by omega) (by omega) (by decide) g48 rfl (by omega) (fun h51 g51 w51 u51 => ?_)
      have F52 := F49.then rfl u51
      refine wi_iload_n (i := 2) (e := h 238 74) (nx := 182) (r1 := 0) (r2 := 0) (r3 := 0) rfl rfl ?_
      refine wi_ireturn (nx := 183) (r1 := 0) (r2 := 0) (r3 := 0) rfl rfl ?_
      have e53 : h51 238 98 = e17 := ((u51 238 98 rfl).trans ((u48 238 98 (fn_i (by omega) fn_0)).trans ((u44 238 98 (fn_i (by omega) fn_0)).trans ((u38 238 98 (fn_i (by omega) fn_0)).trans ((u24 238 98 rfl).trans ((u21 238 98 rfl).trans w18))))))
      have e54 : h51 238 99 = h 238 99 := ((u51 238 99 rfl).trans ((u48 238 99 (fn_i (by omega) fn_0)).trans ((u44 238 99 (fn_i (by omega) fn_0)).trans ((u38 238 99 (fn_i (by omega) fn_0)).trans ((u24 238 99 rfl).trans ((u21 238 99 rfl).trans (u18 238 99 rfl)))))))
      have e55 : h51 238 100 = h 238 100 := ((u51 238 100 rfl).trans ((u48 238 100 (fn_i (by omega) fn_0)).trans ((u44 238 100 (fn_i (by omega) fn_0)).trans ((u38 238 100 (fn_i (by omega) fn_0)).trans ((u24 238 100 rfl).trans ((u21 238 100 rfl).trans (u18 238 100 rfl)))))))
      have e56 : h51 238 101 = h 238 101 := ((u51 238 101 rfl).trans ((u48 238 101 (fn_i (by omega) fn_0)).trans ((u44 238 101 (fn_i (by omega) fn_0)).trans ((u38 238 101 (fn_i (by omega) fn_0)).trans ((u24 238 101 rfl).trans ((u21 238 101 rfl).trans (u18 238 101 rfl)))))))
      have e57 : h51 238 102 = e50 := w51
      have e58 : h51 238 106 = h 238 106 := ((u51 238 106 rfl).trans ((u48 238 106 (fn_i (by omega) fn_0)).trans ((u44 238 106 (fn_i (by omega) fn_0)).trans ((u38 238 106 (fn_i (by omega) fn_0)).trans ((u24 238 106 rfl).trans ((u21 238 106 rfl).trans (u18 238 106 rfl)))))))
      have e59 : h51 238 73 = h 238 73 := ((u51 238 73 rfl).trans ((u48 238 73 (fn_i (by omega) fn_0)).trans ((u44 238 73 (fn_i (by omega) fn_0)).trans ((u38 238 73 (fn_i (by omega) fn_0)).trans ((u24 238 73 rfl).trans ((u21 238 73 rfl).trans (u18 238 73 rfl)))))))
      have e60 : h51 238 2 = h 238 2 := ((u51 238 2 rfl).trans ((u48 238 2 (fn_i (by omega) fn_0)).trans ((u44 238 2 (fn_i (by omega) fn_0)).trans ((u38 238 2 (fn_i (by omega) fn_0)).trans ((u24 238 2 rfl).trans ((u21 238 2 rfl).trans (u18 238 2 rfl)))))))
      have e61 : h51 238 119 = h24 238 119 := ((u51 238 119 rfl).trans ((u48 238 119 (fn_i (by omega) fn_0)).trans ((u44 238 119 (fn_i (by omega) fn_0)).trans (u38 238 119 (fn_i (by omega) fn_0)))))
      have e62 : h51 238 67 = h24 238 67 := ((u51 238 67 rfl).trans ((u48 238 67 (fn_i (by omega) fn_0)).trans ((u44 238 67 (fn_i (by omega) fn_0)).trans (u38 238 67 (fn_i (by omega) fn_0)))))
      have e63 : h51 238 69 = h24 238 69 := ((u51 238 69 rfl).trans ((u48 238 69 (fn_i (by omega) fn_0)).trans ((u44 238 69 (fn_i (by omega) fn_0)).trans (u38 238 69 (fn_i (by omega) fn_0)))))
      have e64 : h51 238 5 = h 238 5 := ((u51 238 5 rfl).trans ((u48 238 5 (fn_i (by omega) fn_0)).trans ((u44 238 5 (fn_i (by omega) fn_0)).trans ((u38 238 5 (fn_i (by omega) fn_0)).trans ((u24 238 5 rfl).trans ((u21 238 5 rfl).trans (u18 238 5 rfl)))))))
      exact k h51 (h 238 74) g51 F52 (by omega) (show (h51 238 98) + (h51 238 99) + (h51 238 100) + (h51 238 101) + (h51 238 102) + (h51 238 106) = (h51 238 73) by omega) (show (h51 238 73) ≤ (h51 238 2) by omega) (show (h51 238 119) ≤ (h51 238 67) by omega) (show (h51 238 69) ≤ (h51 238 5) by omega) (show (h51 238 2) ≤ 12 * (h51 238 5) by omega)
    ·
      refine wi_aload_n (i := 0) (x := 236) (nx := 89) (r1 := 0) (r2 := 0) (r3 := 0) rfl rfl ?_
      refine wr_gr (k0 := 236) (x := 238) (nx := 92) (r1 := 11) (r2 := 13) (r3 := 0) rfl rfl (by decide) rfl ⟨rfl, rfl⟩ rfl ?_
      refine wi_bipush (n := 107) (nx := 94) (r1 := 0) (r2 := 0) (r3 := 0) rfl (by decide) ?_
      refine wi_aload_n (i := 0) (x := 236) (nx := 95) (r1 := 0) (r2 := 0) (r3 := 0) rfl rfl ?_
      refine wr_gr (k0 := 236) (x := 238) (nx := 98) (r1 := 11) (r2 := 13) (r3 := 0) rfl rfl (by decide) rfl ⟨rfl, rfl⟩ rfl ?_
      refine wi_bipush (n := 106) (nx := 100) (r1 := 0) (r2 := 0) (r3 := 0) rfl (by decide) ?_
      refine wr_ia (k0 := 238) (a := 106) (f := 106) (x := h 238 106) (nx := 101) (r1 := 0) (r2 := 0) (r3 := 0) rfl (by decide) rfl (by omega) (by omega) (by decide) ((u24 238 106 rfl).trans ((u21 238 106 rfl).trans (u18 238 106 rfl))) ?_
      refine wr_add (nx := 102) (r1 := 0) (r2 := 0) (r3 := 0) rfl (fun e36 (fe36 : e36 = 107 + (h 238 106)) => ?_)
      refine wi_iload_n (i := 2) (e := h 238 74) (nx := 103) (r1 := 0) (r2 := 0) (r3 := 0) rfl rfl ?_
      obtain ⟨i37, ei37⟩ : ∃ q : Nat, e36 = (q : Int) := ⟨(e36).toNat, by omega⟩
      refine wr_is (k0 := 238) (a := e36) (f := i37) (x := h 238 74) (bl := 0) (bh := 11) (nx := 104) (r1 := 0) (r2 := 0) (r3 := 0) rfl (by decide) rfl (by omega) (by omega) (by decide) g24 (gi_rg 107 12 (fun _ => rfl) (by decide +kernel) (by omega)) (by omega) (fun h38 g38 w38 u38 => ?_)
      have F39 := F29.then rfl (FR.idx (p := 107) (q := 118) u38 (by omega))
      refine wi_aload_n (i := 0) (x := 236) (nx := 105) (r1 := 0) (r2 := 0) (r3 := 0) rfl rfl ?_
      refine wr_gr (k0 := 236) (x := 238) (nx := 108) (r1 := 11) (r2 := 13) (r3 := 0) rfl rfl (by decide) rfl ⟨rfl, rfl⟩ rfl ?_
      refine wi_bipush (n := 106) (nx := 110) (r1 := 0) (r2 := 0) (r3 := 0) rfl (by decide) ?_
      refine wi_dup2 (nx := 111) (r1 := 0) (r2 := 0) (r3 := 0) rfl rfl rfl ?_
      refine wr_ia (k0 := 238) (a := 106) (f := 106) (x := h 238 106) (nx := 112) (r1 := 0) (r2 := 0) (r3 := 0) rfl (by decide) rfl (by omega) (by omega) (by decide) ((u38 238 106 (fn_i (by omega) fn_0)).trans ((u24 238 106 rfl).trans ((u21 238 106 rfl).trans (u18 238 106 rfl)))) ?_
      refine wi_iconst (n := 1) (nx := 113) (r1 := 0) (r2 := 0) (r3 := 0) rfl ?_
      refine wr_add (nx := 114) (r1 := 0) (r2 := 0) (r3 := 0) rfl (fun e40 (fe40 : e40 = (h 238 106) + 1) => ?_)
      refine wr_is (k0 := 238) (a := 106) (f := 106) (x := e40) (bl := 0) (bh := 12) (nx := 115) (r1 := 0) (r2 := 0) (r3 := 0) rfl (by decide) rfl (by omega) (by omega) (by decide) g38 rfl (by omega) (fun h41 g41 w41 u41 => ?_)
      have F42 := F39.then rfl u41
      refine wi_iload_n (i := 2) (e := h 238 74) (nx := 116) (r1 := 0) (r2 := 0) (r3 := 0) rfl rfl ?_
      refine wi_ireturn (nx := 117) (r1 := 0) (r2 := 0) (r3 := 0) rfl rfl ?_
      have e43 : h41 238 98 = e17 := ((u41 238 98 rfl).trans ((u38 238 98 (fn_i (by omega) fn_0)).trans ((u24 238 98 rfl).trans ((u21 238 98 rfl).trans w18))))
      have e44 : h41 238 99 = h 238 99 := ((u41 238 99 rfl).trans ((u38 238 99 (fn_i (by omega) fn_0)).trans ((u24 238 99 rfl).trans ((u21 238 99 rfl).trans (u18 238 99 rfl)))))
      have e45 : h41 238 100 = h 238 100 := ((u41 238 100 rfl).trans ((u38 238 100 (fn_i (by omega) fn_0)).trans ((u24 238 100 rfl).trans ((u21 238 100 rfl).trans (u18 238 100 rfl)))))
      have e46 : h41 238 101 = h 238 101 := ((u41 238 101 rfl).trans ((u38 238 101 (fn_i (by omega) fn_0)).trans ((u24 238 101 rfl).trans ((u21 238 101 rfl).trans (u18 238 101 rfl)))))
      have e47 : h41 238 102 = h 238 102 := ((u41 238 102 rfl).trans ((u38 238 102 (fn_i (by omega) fn_0)).trans ((u24 238 102 rfl).trans ((u21 238 102 rfl).trans (u18 238 102 rfl)))))
      have e48 : h41 238 106 = e40 := w41
      have e49 : h41 238 73 = h 238 73 := ((u41 238 73 rfl).trans ((u38 238 73 (fn_i (by omega) fn_0)).trans ((u24 238 73 rfl).trans ((u21 238 73 rfl).trans (u18 238 73 rfl)))))
      have e50 : h41 238 2 = h 238 2 := ((u41 238 2 rfl).trans ((u38 238 2 (fn_i (by omega) fn_0)).trans ((u24 238 2 rfl).trans ((u21 238 2 rfl).trans (u18 238 2 rfl)))))
      have e51 : h41 238 119 = h24 238 119 := ((u41 238 119 rfl).trans (u38 238 119 (fn_i (by omega) fn_0)))
      have e52 : h41 238 67 = h24 238 67 := ((u41 238 67 rfl).trans (u38 238 67 (fn_i (by omega) fn_0)))
      have e53 : h41 238 69 = h24 238 69 := ((u41 238 69 rfl).trans (u38 238 69 (fn_i (by omega) fn_0)))
      have e54 : h41 238 5 = h 238 5 := ((u41 238 5 rfl).trans ((u38 238 5 (fn_i (by omega) fn_0)).trans ((u24 238 5 rfl).trans ((u21 238 5 rfl).trans (u18 238 5 rfl)))))
      exact k h41 (h 238 74) g41 F42 (by omega) (show (h41 238 98) + (h41 238 99) + (h41 238 100) + (h41 238 101) + (h41 238 102) + (h41 238 106) = (h41 238 73) by omega) (show (h41 238 73) ≤ (h41 238 2) by omega) (show (h41 238 119) ≤ (h41 238 67) by omega) (show (h41 238 69) ≤ (h41 238 5) by omega) (show (h41 238 2) ≤ 12 * (h41 238 5) by omega)
  ·
    refine wi_aload_n (i := 0) (x := 236) (nx := 36) (r1 := 0) (r2 := 0) (r3 := 0) rfl rfl ?_
    refine wr_gr (k0 := 236) (x := 238) (nx := 39) (r1 := 11) (r2 := 13) (r3 := 0) rfl rfl (by decide) rfl ⟨rfl, rfl⟩ rfl ?_
    refine wi_bipush (n := 74) (nx := 41) (r1 := 0) (r2 := 0) (r3 := 0) rfl (by decide) ?_
    refine wi_bipush (n := 6) (nx := 43) (r1 := 0) (r2 := 0) (r3 := 0) rfl (by decide) ?_
    refine wi_iload_n (i := 1) (e := 0) (nx := 44) (r1 := 0) (r2 := 0) (r3 := 0) rfl rfl ?_
    refine wr_mulL (0) (nx := 45) (r1 := 0) (r2 := 0) (r3 := 0) rfl (by decide) ?_
    refine wr_addL (74) (nx := 46) (r1 := 0) (r2 := 0) (r3 := 0) rfl (by decide) ?_
    refine wi_iload_n (i := 3) (e := x20) (nx := 47) (r1 := 0) (r2 := 0) (r3 := 0) rfl rfl ?_
    refine wr_add (nx := 48) (r1 := 0) (r2 := 0) (r3 := 0) rfl (fun e24 (fe24 : e24 = 74 + x20) => ?_)
    refine wi_aload_n (i := 0) (x := 236) (nx := 49) (r1 := 0) (r2 := 0) (r3 := 0) rfl rfl ?_
    refine wr_gr (k0 := 236) (x := 238) (nx := 52) (r1 := 11) (r2 := 13) (r3 := 0) rfl rfl (by decide) rfl ⟨rfl, rfl⟩ rfl ?_
    refine wi_bipush (n := 74) (nx := 54) (r1 := 0) (r2 := 0) (r3 := 0) rfl (by decide) ?_
    refine wi_bipush (n := 6) (nx := 56) (r1 := 0) (r2 := 0) (r3 := 0) rfl (by decide) ?_
    refine wi_iload_n (i := 1) (e := 0) (nx := 57) (r1 := 0) (r2 := 0) (r3 := 0) rfl rfl ?_
    refine wr_mulL (0) (nx := 58) (r1 := 0) (r2 := 0) (r3 := 0) rfl (by decide) ?_
    refine wr_addL (74) (nx := 59) (r1 := 0) (r2 := 0) (r3 := 0) rfl (by decide) ?_
    refine wi_iload_n (i := 3) (e := x20) (nx := 60) (r1 := 0) (r2 := 0) (r3 := 0) rfl rfl ?_
    refine wr_add (nx := 61) (r1 := 0) (r2 := 0) (r3 := 0) rfl (fun e25 (fe25 : e25 = 74 + x20) => ?_)
    refine wi_iconst (n := 1) (nx := 62) (r1 := 0) (r2 := 0) (r3 := 0) rfl ?_
    refine wr_add (nx := 63) (r1 := 0) (r2 := 0) (r3 := 0) rfl (fun e26 (fe26 : e26 = e25 + 1) => ?_)
    obtain ⟨i27, ei27⟩ : ∃ q : Nat, e26 = (q : Int) := ⟨(e26).toNat, by omega⟩
    have b28 := gi_b (lo := 0) (hi := 11) g21 238 i27 (gi_rg 75 5 (fun _ => rfl) (by decide +kernel) (by omega))
    refine wr_ia (k0 := 238) (a := e26) (f := i27) (x := h21 238 i27) (nx := 64) (r1 := 0) (r2 := 0) (r3 := 0) rfl (by decide) rfl (by omega) (by omega) (by decide) rfl ?_
    obtain ⟨i29, ei29⟩ : ∃ q : Nat, e24 = (q : Int) := ⟨(e24).toNat, by omega⟩
    refine wr_is (k0 := 238) (a := e24) (f := i29) (x := h21 238 i27) (bl := 0) (bh := 11) (nx := 65) (r1 := 0) (r2 := 0) (r3 := 0) rfl (by decide) rfl (by omega) (by omega) (by decide) g21 (gi_rg 74 5 (fun _ => rfl) (by decide +kernel) (by omega)) (by omega) (fun h30 g30 w30 u30 => ?_)
    have F31 := F22.then rfl (FR.idx (p := 74) (q := 78) u30 (by omega))
    have F32 := u21.then rfl (FR.idx (p := 74) (q := 78) u30 (by omega))
    refine wr_iinc (i := 3) (n := 1) (v := x20) (fun e33 => [(3, vi e33), (0, .ref 236), (1, vi 0), (2, vi (h 238 74))]) (nx := 68) (r1 := 0) (r2 := 0) (r3 := 0) rfl rfl (fun _ => rfl) (fun e33 (fe33 : e33 = x20 + 1) => ?_)
    refine wi_goto (nx := 71) (r1 := 22) (r2 := 0) (r3 := 0) rfl ?_
    refine wp.lo (lo := [(0, .ref 236), (1, vi 0), (2, vi (h 238 74)), (3, vi e33)]) ⟨rfl, rfl, rfl, rfl, trivial⟩ rfl ?_
    exact I21 e33 h30 ⟨g30, F31, F32, (show (0 ≤ e33 ∧ e33 ≤ 5) by omega)⟩ (show ((5 : Int) + 1 - e33).toNat < ((5 : Int) + 1 - x20).toNat by omega)
-- method 282: Model.leaves(I)I
set_option maxHeartbeats 100000000 in
theorem ct_282_236_L1 {L : Nat} {xs : Nat → Int32} {d b c : Nat} {h : hp} {cr : Nat → Nat → Option Nat} {Q : hp_Q} (hcr : CR cr)  (g : GI h)   (pp0 : h 238 98 + h 238 99 + h 238 100 + h 238 101 + h 238 102 + h 238 106 = h 238 73) (pp1 : h 238 73 ≤ h 238 2) (pp2 : h 238 119 ≤ h 238 67) (pp3 : h 238 69 ≤ h 238 5) (pp4 : h 238 2 ≤ 12 * h 238 5) (pp5 : 1 ≤ h 238 99) (pp6 : h 238 67 ≤ 9998) (pp7 : h 238 102 ≤ 2 ∨ h 238 (43 + (h 238 80).toNat) ≤ 0) (k : ∀ (h2 : hp) (z0 : Int) , GI h2 → FR [(238, 238, some (43, 54)), (238, 238, some (55, 66)), (238, 238, some (67, 67)), (238, 238, some (68, 68)), (238, 238, some (69, 69)), (238, 238, some (70, 70)), (238, 238, some (71, 71)), (238, 238, some (72, 72)), (238, 238, some (80, 84)), (238, 238, some (99, 99)), (238, 238, some (102, 102)), (238, 238, some (103, 105)), (238, 238, some (106, 106)), (238, 238, some (107, 118)), (238, 238, some (119, 119)), (238, 238, some (120, 196)), (238, 238, some (121, 197)), (238, 238, some (122, 198)), (238, 238, some (123, 199))] h h2 → (0 ≤ z0 ∧ z0 ≤ 11) → (h2 238 98 + h2 238 99 + h2 238 100 + h2 238 101 + h2 238 102 + h2 238 106 = h2 238 73) → (h2 238 73 ≤ h2 238 2) → (h2 238 119 ≤ h2 238 67) → (h2 238 69 ≤ h2 238 5) → (h2 238 2 ≤ 12 * h2 238 5) → Q (.inl (some (vi z0))) (hp_w h2 cr) b c) : wp (md_xa (L, xs)) (d + 2) 282 (0, [(0, .ref 236), (1, vi 1)], [], hp_w h cr, b, c) Q := by
  have F0 : FR [(238, 238, some (43, 54)), (238, 238, some (55, 66)), (238, 238, some (67, 67)), (238, 238, some (68, 68)), (238, 238, some (69, 69)), (238, 238, some (70, 70)), (238, 238, some (71, 71)), (238, 238, some (72, 72)), (238, 238, some (80, 84)), (238, 238, some (99, 99)), (238, 238, some (102, 102)), (238, 238, some (103, 105)), (238, 238, some (106, 106)), (238, 238, some (107, 118)), (238, 238, some (119, 119)), (238, 238, some (120, 196)), (238, 238, some (121, 197)), (238, 238, some (122, 198)), (238, 238, some (123, 199))] h h := FR.refl
  have b1 := gi_b (lo := 0) (hi := 6) g 238 98 rfl
  have b2 := gi_b (lo := 0) (hi := 6) g 238 99 rfl
  have b3 := gi_b (lo := 0) (hi := 6) g 238 100 rfl
  have b4 := gi_b (lo := 0) (hi := 6) g 238 101 rfl
  have b5 := gi_b (lo := 0) (hi := 3) g 238 102 rfl
  have b6 := gi_b (lo := 0) (hi := 12) g 238 106 rfl
  have b7 := gi_b (lo := 0) (hi := 12) g 238 73 rfl
  have b8 := gi_b (lo := 0) (hi := 12) g 238 2 rfl
  have b9 := gi_b (lo := 0) (hi := 9999) g 238 119 rfl
  have b10 := gi_b (lo := 0) (hi := 9999) g 238 67 rfl
  have b11 := gi_b (lo := 0) (hi := 9) g 238 69 rfl
  have b12 := gi_b (lo := 0) (hi := 9) g 238 5 rfl
  have b13 := gi_b (lo := 0) (hi := 11) g 238 80 rfl
  obtain ⟨i14, ei14⟩ : ∃ q : Nat, (43 + h 238 80) = (q : Int) := ⟨(43 + h 238 80).toNat, by omega⟩
  have b15 := gi_b (lo := 0) (hi := 999) g 238 i14 (gi_rg 43 12 (fun _ => rfl) (by decide +kernel) (by omega))
  have e16 : h 238 (43 + (h 238 80).toNat) = h 238 i14 := by rw [show 43 + (h 238 80).toNat = i14 by omega]
  refine wi_aload_n (i := 0) (x := 236) (nx := 1) (r1 := 0) (r2 := 0) (r3 := 0) rfl rfl ?_
  refine wi_iload_n (i := 1) (e := 1) (nx := 2) (r1 := 0) (r2 := 0) (r3 := 0) rfl rfl ?_
  refine wi_iconst (n := 0) (nx := 3) (r1 := 0) (r2 := 0) (r3 := 0) rfl ?_
  refine wr_V (k0 := 236) (rest := []) (as := [.ref 236, vi 1, vi 0]) (nx := 6) (r1 := 258) (r2 := 2) (r3 := 11) rfl rfl rfl (of_decide_eq_true rfl) rfl rfl (by decide) rfl rfl (of_decide_eq_true rfl) (of_decide_eq_true rfl) ?_
  refine wi_aload_n (i := 0) (x := 236) (nx := 1) (r1 := 0) (r2 := 0) (r3 := 0) rfl rfl ?_
  refine wr_gr (k0 := 236) (x := 238) (nx := 4) (r1 := 11) (r2 := 13) (r3 := 0) rfl rfl (by decide) rfl ⟨rfl, rfl⟩ rfl ?_
  refine wi_bipush (n := 74) (nx := 6) (r1 := 0) (r2 := 0) (r3 := 0) rfl (by decide) ?_
  refine wi_bipush (n := 6) (nx := 8) (r1 := 0) (r2 := 0) (r3 := 0) rfl (by decide) ?_
  refine wi_iload_n (i := 1) (e := 1) (nx := 9) (r1 := 0) (r2 := 0) (r3 := 0) rfl rfl ?_
  refine wr_mulL (6) (nx := 10) (r1 := 0) (r2 := 0) (r3 := 0) rfl (by decide) ?_
  refine wr_addL (80) (nx := 11) (r1 := 0) (r2 := 0) (r3 := 0) rfl (by decide) ?_
  refine wi_iload_n (i := 2) (e := 0) (nx := 12) (r1 := 0) (r2 := 0) (r3 := 0) rfl rfl ?_
  refine wr_addL (80) (nx := 13) (r1 := 0) (r2 := 0) (r3 := 0) rfl (by decide) ?_
  refine wr_ia (k0 := 238) (a := 80) (f := 80) (x := h 238 80) (nx := 14) (r1 := 0) (r2 := 0) (r3 := 0) rfl (by decide) rfl (by omega) (by omega) (by decide) rfl ?_
  refine wi_ireturn (nx := 15) (r1 := 0) (r2 := 0) (r3 := 0) rfl rfl ?_
  refine wk_i ?_
  refine wi_istore_n (i := 2) (e := h 238 80) (lo2 := [(2, vi (h 238 80)), (0, .ref 236), (1, vi 1)]) (nx := 7) (r1 := 0) (r2 := 0) (r3 := 0) rfl rfl ?_
  refine wi_aload_n (i := 0) (x := 236) (nx := 8) (r1 := 0) (r2 := 0) (r3 := 0) rfl rfl ?_
  refine wr_gr (k0 := 236) (x := 238) (nx := 11) (r1 := 11) (r2 := 13) (r3 := 0) rfl rfl (by decide) rfl ⟨rfl, rfl⟩ rfl ?_
  refine wi_bipush (n := 98) (nx := 13) (r1 := 0) (r2 := 0) (r3 := 0) rfl (by decide) ?_
  refine wi_iload_n (i := 1) (e := 1) (nx := 14) (r1 := 0) (r2 := 0) (r3 := 0) rfl rfl ?_
  refine wr_addL (99) (nx := 15) (r1 := 0) (r2 := 0) (r3 := 0) rfl (by decide) ?_
  refine wi_dup2 (nx := 16) (r1 := 0) (r2 := 0) (r3 := 0) rfl rfl rfl ?_
  refine wr_ia (k0 := 238) (a := 99) (f := 99) (x := h 238 99) (nx := 17) (r1 := 0) (r2 := 0) (r3 := 0) rfl (by decide) rfl (by omega) (by omega) (by decide) rfl ?_
  refine wi_iconst (n := 1) (nx := 18) (r1 := 0) (r2 := 0) (r3 := 0) rfl ?_
  refine wr_sub (nx := 19) (r1 := 0) (r2 := 0) (r3 := 0) rfl (fun e17 (fe17 : e17 = (h 238 99) - 1) => ?_)
  refine wr_is (k0 := 238) (a := 99) (f := 99) (x := e17) (bl := 0) (bh := 6) (nx := 20) (r1 := 0) (r2 := 0) (r3 := 0) rfl (by decide) rfl (by omega) (by omega) (by decide) g rfl (by omega) (fun h18 g18 w18 u18 => ?_)
  have F19 := F0.then rfl u18
  refine wi_iconst (n := 0) (nx := 21) (r1 := 0) (r2 := 0) (r3 := 0) rfl ?_
  refine wi_istore_n (i := 3) (e := 0) (lo2 := [(3, vi 0), (2, vi (h 238 80)), (0, .ref 236), (1, vi 1)]) (nx := 22) (r1 := 0) (r2 := 0) (r3 := 0) rfl rfl ?_
  refine wp.lo (lo := [(0, .ref 236), (1, vi 1), (2, vi (h 238 80)), (3, vi 0)]) ⟨rfl, rfl, rfl, rfl, trivial⟩ rfl ?_
  refine wl_1 (fun x20 h21 => GI h21 ∧ FR [(238, 238, some (43, 54)), (238, 238, some (55, 66)), (238, 238, some (67, 67)), (238, 238, some (68, 68)), (238, 238, some (69, 69)), (238, 238, some (70, 70)), (238, 238, some (71, 71)), (238, 238, some (72, 72)), (238, 238, some (80, 84)), (238, 238, some (99, 99)), (238, 238, some (102, 102)), (238, 238, some (103, 105)), (238, 238, some (106, 106)), (238, 238, some (107, 118)), (238, 238, some (119, 119)), (238, 238, some (120, 196)), (238, 238, some (121, 197)), (238, 238, some (122, 198)), (238, 238, some (123, 199))] h h21 ∧ FR [(238, 238, some (80, 84))] h18 h21 ∧ ((0 ≤ x20 ∧ x20 ≤ 5))) (fun x20 h21 => ((5 : Int) + 1 - x20).toNat) (fun x20 h21 => (22, [(0, .ref 236), (1, vi 1), (2, vi (h 238 80)), (3, vi x20)], [], hp_w h21 cr, b, c)) ?_ 0 h18 ⟨g18, F19, FR.refl, (show (0 ≤ 0 ∧ 0 ≤ 5) by omega)⟩
  intro x20 h21 ⟨g21, F22, u21, f21⟩ I21
  refine wi_iload_n (i := 3) (e := x20) (nx := 23) (r1 := 0) (r2 := 0) (r3 := 0) rfl rfl ?_
  refine wi_aload_n (i := 0) (x := 236) (nx := 24) (r1 := 0) (r2 := 0) (r3 := 0) rfl rfl ?_
  refine wr_gr (k0 := 236) (x := 238) (nx := 27) (r1 := 11) (r2 := 13) (r3 := 0) rfl rfl (by decide) rfl ⟨rfl, rfl⟩ rfl ?_
  refine wi_bipush (n := 98) (nx := 29) (r1 := 0) (r2 := 0) (r3 := 0) rfl (by decide) ?_
  refine wi_iload_n (i := 1) (e := 1) (nx := 30) (r1 := 0) (r2 := 0) (r3 := 0) rfl rfl ?_
  refine wr_addL (99) (nx := 31) (r1 := 0) (r2 := 0) (r3 := 0) rfl (by decide) ?_
  refine wr_ia (k0 := 238) (a := 99) (f := 99) (x := e17) (nx := 32) (r1 := 0) (r2 := 0) (r3 := 0) rfl (by decide) rfl (by omega) (by omega) (by decide) ((u21 238 99 rfl).trans w18) ?_
  refine wi_icmp (cd := .ge) (nx := 35) (r1 := 71) (r2 := 0) (r3 := 0) rfl (by omega) (by omega) (fun (q23 : e17 ≤ x20) => ?_) (fun (q23 : ¬ (e17 ≤ x20)) => ?_)
  ·
    refine wi_aload_n (i := 0) (x := 236) (nx := 72) (r1 := 0) (r2 := 0) (r3 := 0) rfl rfl ?_
    refine wi_iload_n (i := 2) (e := h 238 80) (nx := 73) (r1 := 0) (r2 := 0) (r3 := 0) rfl rfl ?_
    refine wr_V (k0 := 236) (rest := []) (as := [.ref 236, vi (h 238 80)]) (nx := 76) (r1 := 283) (r2 := 1) (r3 := 11) rfl rfl rfl (of_decide_eq_true rfl) rfl rfl (by decide) rfl rfl (of_decide_eq_true rfl) (of_decide_eq_true rfl) ?_
    have e25 : h21 238 67 = h 238 67 := ((u21 238 67 rfl).trans (u18 238 67 rfl))
    have e26 : h21 238 119 = h 238 119 := ((u21 238 119 rfl).trans (u18 238 119 rfl))
    have e27 : h21 238 69 = h 238 69 := ((u21 238 69 rfl).trans (u18 238 69 rfl))
    have e28 : h21 238 5 = h 238 5 := ((u21 238 5 rfl).trans (u18 238 5 rfl))
    refine ct_283_236 hcr  g21 (h 238 80) (by omega) (show (h21 238 67) ≤ 9998 by omega) (show (h21 238 119) ≤ (h21 238 67) by omega) (show (h21 238 69) ≤ (h21 238 5) by omega) (show 1 ≤ (h21 238 5) by omega) (fun h24 g24 u24 (p24_0 : (h24 238 119) ≤ (h24 238 67)) (p24_1 : (h24 238 69) ≤ (h24 238 5)) => ?_)
    have F29 := F22.then (by decide +kernel) u24
    have b30 := gi_b (lo := 0) (hi := 9999) g24 238 119 rfl
    have b31 := gi_b (lo := 0) (hi := 9999) g24 238 67 rfl
    have b32 := gi_b (lo := 0) (hi := 9) g24 238 69 rfl
    have e33 : h24 238 5 = h 238 5 := ((u24 238 5 rfl).trans ((u21 238 5 rfl).trans (u18 238 5 rfl)))
    refine wk_n ?_
    refine wi_aload_n (i := 0) (x := 236) (nx := 77) (r1 := 0) (r2 := 0) (r3 := 0) rfl rfl ?_
    refine wr_gr (k0 := 236) (x := 238) (nx := 80) (r1 := 11) (r2 := 13) (r3 := 0) rfl rfl (by decide) rfl ⟨rfl, rfl⟩ rfl ?_
    refine wi_bipush (n := 43) (nx := 82) (r1 := 0) (r2 := 0) (r3 := 0) rfl (by decide) ?_
    refine wi_iload_n (i := 2) (e := h 238 80) (nx := 83) (r1 := 0) (r2 := 0) (r3 := 0) rfl rfl ?_
    refine wr_add (nx := 84) (r1 := 0) (r2 := 0) (r3 := 0) rfl (fun e34 (fe34 : e34 = 43 + (h 238 80)) => ?_)
    refine wr_ia (k0 := 238) (a := e34) (f := i14) (x := h 238 i14) (nx := 85) (r1 := 0) (r2 := 0) (r3 := 0) rfl (by decide) rfl (by omega) (by omega) (by decide) ((u24 238 i14 (fn_i (by omega) (fn_i (by omega) (fn_i (by omega) (fn_i (by omega) (fn_i (by omega) (fn_i (by omega) (fn_i (by omega) (fn_i (by omega) (fn_i (by omega) (fn_i (by omega) (fn_i (by omega) fn_0)))))))))))).trans ((u21 238 i14 (fn_i (by omega) fn_0)).trans (u18 238 i14 (fn_i (by omega) fn_0)))) ?_
    refine wi_if (cd := .ne) (nx := 88) (r1 := 117) (r2 := 0) (r3 := 0) rfl (by omega) (fun (q35 : (h 238 i14) ≠ 0) => ?_) (fun (q35 : ¬ ((h 238 i14) ≠ 0)) => ?_)
    ·
      refine wi_aload_n (i := 0) (x := 236) (nx := 118) (r1 := 0) (r2 := 0) (r3 := 0) rfl rfl ?_
      refine wr_gr (k0 := 236) (x := 238) (nx := 121) (r1 := 11) (r2 := 13) (r3 := 0) rfl rfl (by decide) rfl ⟨rfl, rfl⟩ rfl ?_
      refine wi_bipush (n := 43) (nx := 123) (r1 := 0) (r2 := 0) (r3 := 0) rfl (by decide) ?_
      refine wi_iload_n (i := 2) (e := h 238 80) (nx := 124) (r1 := 0) (r2 := 0) (r3 := 0) rfl rfl ?_
      refine wr_add (nx := 125) (r1 := 0) (r2 := 0) (r3 := 0) rfl (fun e36 (fe36 : e36 = 43 + (h 238 80)) => ?_)
      refine wi_dup2 (nx := 126) (r1 := 0) (r2 := 0) (r3 := 0) rfl rfl rfl ?_
      refine wr_ia (k0 := 238) (a := e36) (f := i14) (x := h 238 i14) (nx := 127) (r1 := 0) (r2 := 0) (r3 := 0) rfl (by decide) rfl (by omega) (by omega) (by decide) ((u24 238 i14 (fn_i (by omega) (fn_i (by omega) (fn_i (by omega) (fn_i (by omega) (fn_i (by omega) (fn_i (by omega) (fn_i (by omega) (fn_i (by omega) (fn_i (by omega) (fn_i (by omega) (fn_i (by omega) fn_0)))))))))))).trans ((u21 238 i14 (fn_i (by omega) fn_0)).trans (u18 238 i14 (fn_i (by omega) fn_0)))) ?_
      refine wi_iconst (n := 1) (nx := 128) (r1 := 0) (r2 := 0) (r3 := 0) rfl ?_
      refine wr_sub (nx := 129) (r1 := 0) (r2 := 0) (r3 := 0) rfl (fun e37 (fe37 : e37 = (h 238 i14) - 1) => ?_)
      refine wr_is (k0 := 238) (a := e36) (f := i14) (x := e37) (bl := 0) (bh := 999) (nx := 130) (r1 := 0) (r2 := 0) (r3 := 0) rfl (by decide) rfl (by omega) (by omega) (by decide) g24 (gi_rg 43 12 (fun _ => rfl) (by decide +kernel) (by omega)) (by omega) (fun h38 g38 w38 u38 => ?_)
      have F39 := F29.then rfl (FR.idx (p := 43) (q := 54) u38 (by omega))
      refine wi_aload_n (i := 0) (x := 236) (nx := 131) (r1 := 0) (r2 := 0) (r3 := 0) rfl rfl ?_
      refine wr_gr (k0 := 236) (x := 238) (nx := 134) (r1 := 11) (r2 := 13) (r3 := 0) rfl rfl (by decide) rfl ⟨rfl, rfl⟩ rfl ?_
      refine wi_bipush (n := 55) (nx := 136) (r1 := 0) (r2 := 0) (r3 := 0) rfl (by decide) ?_
      refine wi_iload_n (i := 2) (e := h 238 80) (nx := 137) (r1 := 0) (r2 := 0) (r3 := 0) rfl rfl ?_
      refine wr_add (nx := 138) (r1 := 0) (r2 := 0) (r3 := 0) rfl (fun e40 (fe40 : e40 = 55 + (h 238 80)) => ?_)
      refine wi_aload_n (i := 0) (x := 236) (nx := 139) (r1 := 0) (r2 := 0) (r3 := 0) rfl rfl ?_
      refine wr_gr (k0 := 236) (x := 238) (nx := 142) (r1 := 11) (r2 := 13) (r3 := 0) rfl rfl (by decide) rfl ⟨rfl, rfl⟩ rfl ?_
      refine wi_bipush (n := 67) (nx := 144) (r1 := 0) (r2 := 0) (r3 := 0) rfl (by decide) ?_
      refine wr_ia (k0 := 238) (a := 67) (f := 67) (x := h24 238 67) (nx := 145) (r1 := 0) (r2 := 0) (r3 := 0) rfl (by decide) rfl (by omega) (by omega) (by decide) (u38 238 67 (fn_i (by omega) fn_0)) ?_
      refine wi_aload_n (i := 0) (x := 236) (nx := 146) (r1 := 0) (r2 := 0) (r3 := 0) rfl rfl ?_
      refine wr_gr (k0 := 236) (x := 238) (nx := 149) (r1 := 11) (r2 := 13) (r3 := 0) rfl rfl (by decide) rfl ⟨rfl, rfl⟩ rfl ?_
      refine wi_bipush (n := 8) (nx := 151) (r1 := 0) (r2 := 0) (r3 := 0) rfl (by decide) ?_
      have b41 := gi_b (lo := 0) (hi := 999) g 238 8 rfl
      refine wr_ia (k0 := 238) (a := 8) (f := 8) (x := h 238 8) (nx := 152) (r1 := 0) (r2 := 0) (r3 := 0) rfl (by decide) rfl (by omega) (by omega) (by decide) ((u38 238 8 (fn_i (by omega) fn_0)).trans ((u24 238 8 rfl).trans ((u21 238 8 rfl).trans (u18 238 8 rfl)))) ?_
      refine wr_add (nx := 153) (r1 := 0) (r2 := 0) (r3 := 0) rfl (fun e42 (fe42 : e42 = (h24 238 67) + (h 238 8)) => ?_)
      obtain ⟨i43, ei43⟩ : ∃ q : Nat, e40 = (q : Int) := ⟨(e40).toNat, by omega⟩
      refine wr_is (k0 := 238) (a := e40) (f := i43) (x := e42) (bl := 0) (bh := 20000) (nx := 154) (r1 := 0) (r2 := 0) (r3 := 0) rfl (by decide) rfl (by omega) (by omega) (by decide) g38 (gi_rg 55 12 (fun _ => rfl) (by decide +kernel) (by omega)) (by omega) (fun h44 g44 w44 u44 => ?_)
      have F45 := F39.then rfl (FR.idx (p := 55) (q := 66) u44 (by omega))
      refine wi_aload_n (i := 0) (x := 236) (nx := 155) (r1 := 0) (r2 := 0) (r3 := 0) rfl rfl ?_
      refine wr_gr (k0 := 236) (x := 238) (nx := 158) (r1 := 11) (r2 := 13) (r3 := 0) rfl rfl (by decide) rfl ⟨rfl, rfl⟩ rfl ?_
      refine wi_bipush (n := 103) (nx := 160) (r1 := 0) (r2 := 0) (r3 := 0) rfl (by decide) ?_
      refine wi_aload_n (i := 0) (x := 236) (nx := 161) (r1 := 0) (r2 := 0) (r3 := 0) rfl rfl ?_
      refine wr_gr (k0 := 236) (x := 238) (nx := 164) (r1 := 11) (r2 := 13) (r3 := 0) rfl rfl (by decide) rfl ⟨rfl, rfl⟩ rfl ?_
      refine wi_bipush (n := 102) (nx := 166) (r1 := 0) (r2 := 0) (r3 := 0) rfl (by decide) ?_
      refine wr_ia (k0 := 238) (a := 102) (f := 102) (x := h 238 102) (nx := 167) (r1 := 0) (r2 := 0) (r3 := 0) rfl (by decide) rfl (by omega) (by omega) (by decide) ((u44 238 102 (fn_i (by omega) fn_0)).trans ((u38 238 102 (fn_i (by omega) fn_0)).trans ((u24 238 102 rfl).trans ((u21 238 102 rfl).trans (u18 238 102 rfl))))) ?_
      refine wr_add (nx := 168) (r1 := 0) (r2 := 0) (r3 := 0) rfl (fun e46 (fe46 : e46 = 103 + (h 238 102)) => ?_)
      refine wi_iload_n (i := 2) (e := h 238 80) (nx := 169) (r1 := 0) (r2 := 0) (r3 := 0) rfl rfl ?_
      obtain ⟨i47, ei47⟩ : ∃ q : Nat, e46 = (q : Int) := ⟨(e46).toNat, by omega⟩
      refine wr_is (k0 := 238) (a := e46) (f := i47) (x := h 238 80) (bl := 0) (bh := 11) (nx := 170) (r1 := 0) (r2 := 0) (r3 := 0) rfl (by decide) rfl (by omega) (by omega) (by decide) g44 (gi_rg 103 3 (fun _ => rfl) (by decide +kernel) (by omega)) (by omega) (fun h48 g48 w48 u48 => ?_)
      have F49 := F45.then rfl (FR.idx (p := 103) (q := 105) u48 (by omega))
      refine wi_aload_n (i := 0) (x := 236) (nx := 171) (r1 := 0) (r2 := 0) (r3 := 0) rfl rfl ?_
      refine wr_gr (k0 := 236) (x := 238) (nx := 174) (r1 := 11) (r2 := 13) (r3 := 0) rfl rfl (by decide) rfl ⟨rfl, rfl⟩ rfl ?_
      refine wi_bipush (n := 102) (nx := 176) (r1 := 0) (r2 := 0) (r3 := 0) rfl (by decide) ?_
      refine wi_dup2 (nx := 177) (r1 := 0) (r2 := 0) (r3 := 0) rfl rfl rfl ?_
      refine wr_ia (k0 := 238) (a := 102) (f := 102) (x := h 238 102) (nx := 178) (r1 := 0) (r2 := 0) (r3 := 0) rfl (by decide) rfl (by omega) (by omega) (by decide) ((u48 238 102 (fn_i (by omega) fn_0)).trans ((u44 238 102 (fn_i (by omega) fn_0)).trans ((u38 238 102 (fn_i (by omega) fn_0)).trans ((u24 238 102 rfl).trans ((u21 238 102 rfl).trans (u18 238 102 rfl)))))) ?_
      refine wi_iconst (n := 1) (nx := 179) (r1 := 0) (r2 := 0) (r3 := 0) rfl ?_
      refine wr_add (nx := 180) (r1 := 0) (r2 := 0) (r3 := 0) rfl (fun e50 (fe50 : e50 = (h 238 102) + 1) => ?_)
      refine wr_is (k0 := 238) (a := 102) (f := 102) (x := e50) (bl := 0) (bh := 3) (nx := 181) (r1 := 0) (r2 := 0) (r3 := 0) rfl (by decide) rfl (by omega) (by omega) (by decide) g48 rfl (by omega) (fun h51 g51 w51 u51 => ?_)
      have F52 := F49.then rfl u51
      refine wi_iload_n (i := 2) (e := h 238 80) (nx := 182) (r1 := 0) (r2 := 0) (r3 := 0) rfl rfl ?_
      refine wi_ireturn (nx := 183) (r1 := 0) (r2 := 0) (r3 := 0) rfl rfl ?_
      have e53 : h51 238 98 = h 238 98 := ((u51 238 98 rfl).trans ((u48 238 98 (fn_i (by omega) fn_0)).trans ((u44 238 98 (fn_i (by omega) fn_0)).trans ((u38 238 98 (fn_i (by omega) fn_0)).trans ((u24 238 98 rfl).trans ((u21 238 98 rfl).trans (u18 238 98 rfl)))))))
      have e54 : h51 238 99 = e17 := ((u51 238 99 rfl).trans ((u48 238 99 (fn_i (by omega) fn_0)).trans ((u44 238 99 (fn_i (by omega) fn_0)).trans ((u38 238 99 (fn_i (by omega) fn_0)).trans ((u24 238 99 rfl).trans ((u21 238 99 rfl).trans w18))))))
      have e55 : h51 238 100 = h 238 100 := ((u51 238 100 rfl).trans ((u48 238 100 (fn_i (by omega) fn_0)).trans ((u44 238 100 (fn_i (by omega) fn_0)).trans ((u38 238 100 (fn_i (by omega) fn_0)).trans ((u24 238 100 rfl).trans ((u21 238 100 rfl).trans (u18 238 100 rfl)))))))
      have e56 : h51 238 101 = h 238 101 := ((u51 238 101 rfl).trans ((u48 238 101 (fn_i (by omega) fn_0)).trans ((u44 238 101 (fn_i (by omega) fn_0)).trans ((u38 238 101 (fn_i (by omega) fn_0)).trans ((u24 238 101 rfl).trans ((u21 238 101 rfl).trans (u18 238 101 rfl)))))))
      have e57 : h51 238 102 = e50 := w51
      have e58 : h51 238 106 = h 238 106 := ((u51 238 106 rfl).trans ((u48 238 106 (fn_i (by omega) fn_0)).trans ((u44 238 106 (fn_i (by omega) fn_0)).trans ((u38 238 106 (fn_i (by omega) fn_0)).trans ((u24 238 106 rfl).trans ((u21 238 106 rfl).trans (u18 238 106 rfl)))))))
      have e59 : h51 238 73 = h 238 73 := ((u51 238 73 rfl).trans ((u48 238 73 (fn_i (by omega) fn_0)).trans ((u44 238 73 (fn_i (by omega) fn_0)).trans ((u38 238 73 (fn_i (by omega) fn_0)).trans ((u24 238 73 rfl).trans ((u21 238 73 rfl).trans (u18 238 73 rfl)))))))
      have e60 : h51 238 2 = h 238 2 := ((u51 238 2 rfl).trans ((u48 238 2 (fn_i (by omega) fn_0)).trans ((u44 238 2 (fn_i (by omega) fn_0)).trans ((u38 238 2 (fn_i (by omega) fn_0)).trans ((u24 238 2 rfl).trans ((u21 238 2 rfl).trans (u18 238 2 rfl)))))))
      have e61 : h51 238 119 = h24 238 119 := ((u51 238 119 rfl).trans ((u48 238 119 (fn_i (by omega) fn_0)).trans ((u44 238 119 (fn_i (by omega) fn_0)).trans (u38 238 119 (fn_i (by omega) fn_0)))))
      have e62 : h51 238 67 = h24 238 67 := ((u51 238 67 rfl).trans ((u48 238 67 (fn_i (by omega) fn_0)).trans ((u44 238 67 (fn_i (by omega) fn_0)).trans (u38 238 67 (fn_i (by omega) fn_0)))))
      have e63 : h51 238 69 = h24 238 69 := ((u51 238 69 rfl).trans ((u48 238 69 (fn_i (by omega) fn_0)).trans ((u44 238 69 (fn_i (by omega) fn_0)).trans (u38 238 69 (fn_i (by omega) fn_0)))))
      have e64 : h51 238 5 = h 238 5 := ((u51 238 5 rfl).trans ((u48 238 5 (fn_i (by omega) fn_0)).trans ((u44 238 5 (fn_i (by omega) fn_0)).trans ((u38 238 5 (fn_i (by omega) fn_0)).trans ((u24 238 5 rfl).trans ((u21 238 5 rfl).trans (u18 238 5 rfl)))))))
      exact k h51 (h 238 80) g51 F52 (by omega) (show (h51 238 98) + (h51 238 99) + (h51 238 100) + (h51 238 101) + (h51 238 102) + (h51 238 106) = (h51 238 73) by omega) (show (h51 238 73) ≤ (h51 238 2) by omega) (show (h51 238 119) ≤ (h51 238 67) by omega) (show (h51 238 69) ≤ (h51 238 5) by omega) (show (h51 238 2) ≤ 12 * (h51 238 5) by omega)
    ·
      refine wi_aload_n (i := 0) (x := 236) (nx := 89) (r1 := 0) (r2 := 0) (r3 := 0) rfl rfl ?_
      refine wr_gr (k0 := 236) (x := 238) (nx := 92) (r1 := 11) (r2 := 13) (r3 := 0) rfl rfl (by decide) rfl ⟨rfl, rfl⟩ rfl ?_
      refine wi_bipush (n := 107) (nx := 94) (r1 := 0) (r2 := 0) (r3 := 0) rfl (by decide) ?_
      refine wi_aload_n (i := 0) (x := 236) (nx := 95) (r1 := 0) (r2 := 0) (r3 := 0) rfl rfl ?_
      refine wr_gr (k0 := 236) (x := 238) (nx := 98) (r1 := 11) (r2 := 13) (r3 := 0) rfl rfl (by decide) rfl ⟨rfl, rfl⟩ rfl ?_
      refine wi_bipush (n := 106) (nx := 100) (r1 := 0) (r2 := 0) (r3 := 0) rfl (by decide) ?_
      refine wr_ia (k0 := 238) (a := 106) (f := 106) (x := h 238 106) (nx := 101) (r1 := 0) (r2 := 0) (r3 := 0) rfl (by decide) rfl (by omega) (by omega) (by decide) ((u24 238 106 rfl).trans ((u21 238 106 rfl).trans (u18 238 106 rfl))) ?_
      refine wr_add (nx := 102) (r1 := 0) (r2 := 0) (r3 := 0) rfl (fun e36 (fe36 : e36 = 107 + (h 238 106)) => ?_)
      refine wi_iload_n (i := 2) (e := h 238 80) (nx := 103) (r1 := 0) (r2 := 0) (r3 := 0) rfl rfl ?_
      obtain ⟨i37, ei37⟩ : ∃ q : Nat, e36 = (q : Int) := ⟨(e36).toNat, by omega⟩
      refine wr_is (k0 := 238) (a := e36) (f := i37) (x := h 238 80) (bl := 0) (bh := 11) (nx := 104) (r1 := 0) (r2 := 0) (r3 := 0) rfl (by decide) rfl (by omega) (by omega) (by decide) g24 (gi_rg 107 12 (fun _ => rfl) (by decide +kernel) (by omega)) (by omega) (fun h38 g38 w38 u38 => ?_)
      have F39 := F29.then rfl (FR.idx (p := 107) (q := 118) u38 (by omega))
      refine wi_aload_n (i := 0) (x := 236) (nx := 105) (r1 := 0) (r2 := 0) (r3 := 0) rfl rfl ?_
      refine wr_gr (k0 := 236) (x := 238) (nx := 108) (r1 := 11) (r2 := 13) (r3 := 0) rfl rfl (by decide) rfl ⟨rfl, rfl⟩ rfl ?_
      refine wi_bipush (n := 106) (nx := 110) (r1 := 0) (r2 := 0) (r3 := 0) rfl (by decide) ?_
      refine wi_dup2 (nx := 111) (r1 := 0) (r2 := 0) (r3 := 0) rfl rfl rfl ?_
      refine wr_ia (k0 := 238) (a := 106) (f := 106) (x := h 238 106) (nx := 112) (r1 := 0) (r2 := 0) (r3 := 0) rfl (by decide) rfl (by omega) (by omega) (by decide) ((u38 238 106 (fn_i (by omega) fn_0)).trans ((u24 238 106 rfl).trans ((u21 238 106 rfl).trans (u18 238 106 rfl)))) ?_
      refine wi_iconst (n := 1) (nx := 113) (r1 := 0) (r2 := 0) (r3 := 0) rfl ?_
      refine wr_add (nx := 114) (r1 := 0) (r2 := 0) (r3 := 0) rfl (fun e40 (fe40 : e40 = (h 238 106) + 1) => ?_)
      refine wr_is (k0 := 238) (a := 106) (f := 106) (x := e40) (bl := 0) (bh := 12) (nx := 115) (r1 := 0) (r2 := 0) (r3 := 0) rfl (by decide) rfl (by omega) (by omega) (by decide) g38 rfl (by omega) (fun h41 g41 w41 u41 => ?_)
      have F42 := F39.then rfl u41
      refine wi_iload_n (i := 2) (e := h 238 80) (nx := 116) (r1 := 0) (r2 := 0) (r3 := 0) rfl rfl ?_
      refine wi_ireturn (nx := 117) (r1 := 0) (r2 := 0) (r3 := 0) rfl rfl ?_
      have e43 : h41 238 98 = h 238 98 := ((u41 238 98 rfl).trans ((u38 238 98 (fn_i (by omega) fn_0)).trans ((u24 238 98 rfl).trans ((u21 238 98 rfl).trans (u18 238 98 rfl)))))
      have e44 : h41 238 99 = e17 := ((u41 238 99 rfl).trans ((u38 238 99 (fn_i (by omega) fn_0)).trans ((u24 238 99 rfl).trans ((u21 238 99 rfl).trans w18))))
      have e45 : h41 238 100 = h 238 100 := ((u41 238 100 rfl).trans ((u38 238 100 (fn_i (by omega) fn_0)).trans ((u24 238 100 rfl).trans ((u21 238 100 rfl).trans (u18 238 100 rfl)))))
      have e46 : h41 238 101 = h 238 101 := ((u41 238 101 rfl).trans ((u38 238 101 (fn_i (by omega) fn_0)).trans ((u24 238 101 rfl).trans ((u21 238 101 rfl).trans (u18 238 101 rfl)))))
      have e47 : h41 238 102 = h 238 102 := ((u41 238 102 rfl).trans ((u38 238 102 (fn_i (by omega) fn_0)).trans ((u24 238 102 rfl).trans ((u21 238 102 rfl).trans (u18 238 102 rfl)))))
      have e48 : h41 238 106 = e40 := w41
      have e49 : h41 238 73 = h 238 73 := ((u41 238 73 rfl).trans ((u38 238 73 (fn_i (by omega) fn_0)).trans ((u24 238 73 rfl).trans ((u21 238 73 rfl).trans (u18 238 73 rfl)))))
      have e50 : h41 238 2 = h 238 2 := ((u41 238 2 rfl).trans ((u38 238 2 (fn_i (by omega) fn_0)).trans ((u24 238 2 rfl).trans ((u21 238 2 rfl).trans (u18 238 2 rfl)))))
      have e51 : h41 238 119 = h24 238 119 := ((u41 238 119 rfl).trans (u38 238 119 (fn_i (by omega) fn_0)))
      have e52 : h41 238 67 = h24 238 67 := ((u41 238 67 rfl).trans (u38 238 67 (fn_i (by omega) fn_0)))
      have e53 : h41 238 69 = h24 238 69 := ((u41 238 69 rfl).trans (u38 238 69 (fn_i (by omega) fn_0)))
      have e54 : h41 238 5 = h 238 5 := ((u41 238 5 rfl).trans ((u38 238 5 (fn_i (by omega) fn_0)).trans ((u24 238 5 rfl).trans ((u21 238 5 rfl).trans (u18 238 5 rfl)))))
      exact k h41 (h 238 80) g41 F42 (by omega) (show (h41 238 98) + (h41 238 99) + (h41 238 100) + (h41 238 101) + (h41 238 102) + (h41 238 106) = (h41 238 73) by omega) (show (h41 238 73) ≤ (h41 238 2) by omega) (show (h41 238 119) ≤ (h41 238 67) by omega) (show (h41 238 69) ≤ (h41 238 5) by omega) (show (h41 238 2) ≤ 12 * (h41 238 5) by omega)
  ·
    refine wi_aload_n (i := 0) (x := 236) (nx := 36) (r1 := 0) (r2 := 0) (r3 := 0) rfl rfl ?_
    refine wr_gr (k0 := 236) (x := 238) (nx := 39) (r1 := 11) (r2 := 13) (r3 := 0) rfl rfl (by decide) rfl ⟨rfl, rfl⟩ rfl ?_
    refine wi_bipush (n := 74) (nx := 41) (r1 := 0) (r2 := 0) (r3 := 0) rfl (by decide) ?_
    refine wi_bipush (n := 6) (nx := 43) (r1 := 0) (r2 := 0) (r3 := 0) rfl (by decide) ?_
    refine wi_iload_n (i := 1) (e := 1) (nx := 44) (r1 := 0) (r2 := 0) (r3 := 0) rfl rfl ?_
    refine wr_mulL (6) (nx := 45) (r1 := 0) (r2 := 0) (r3 := 0) rfl (by decide) ?_
    refine wr_addL (80) (nx := 46) (r1 := 0) (r2 := 0) (r3 := 0) rfl (by decide) ?_
    refine wi_iload_n (i := 3) (e := x20) (nx := 47) (r1 := 0) (r2 := 0) (r3 := 0) rfl rfl ?_
    refine wr_add (nx := 48) (r1 := 0) (r2 := 0) (r3 := 0) rfl (fun e24 (fe24 : e24 = 80 + x20) => ?_)
    refine wi_aload_n (i := 0) (x := 236) (nx := 49) (r1 := 0) (r2 := 0) (r3 := 0) rfl rfl ?_
    refine wr_gr (k0 := 236) (x := 238) (nx := 52) (r1 := 11) (r2 := 13) (r3 := 0) rfl rfl (by decide) rfl ⟨rfl, rfl⟩ rfl ?_
    refine wi_bipush (n := 74) (nx := 54) (r1 := 0) (r2 := 0) (r3 := 0) rfl (by decide) ?_
    refine wi_bipush (n := 6) (nx := 56) (r1 := 0) (r2 := 0) (r3 := 0) rfl (by decide) ?_
    refine wi_iload_n (i := 1) (e := 1) (nx := 57) (r1 := 0) (r2 := 0) (r3 := 0) rfl rfl ?_
    refine wr_mulL (6) (nx := 58) (r1 := 0) (r2 := 0) (r3 := 0) rfl (by decide) ?_
    refine wr_addL (80) (nx := 59) (r1 := 0) (r2 := 0) (r3 := 0) rfl (by decide) ?_
    refine wi_iload_n (i := 3) (e := x20) (nx := 60) (r1 := 0) (r2 := 0) (r3 := 0) rfl rfl ?_
    refine wr_add (nx := 61) (r1 := 0) (r2 := 0) (r3 := 0) rfl (fun e25 (fe25 : e25 = 80 + x20) => ?_)
    refine wi_iconst (n := 1) (nx := 62) (r1 := 0) (r2 := 0) (r3 := 0) rfl ?_
    refine wr_add (nx := 63) (r1 := 0) (r2 := 0) (r3 := 0) rfl (fun e26 (fe26 : e26 = e25 + 1) => ?_)
    obtain ⟨i27, ei27⟩ : ∃ q : Nat, e26 = (q : Int) := ⟨(e26).toNat, by omega⟩
    have b28 := gi_b (lo := 0) (hi := 11) g21 238 i27 (gi_rg 81 5 (fun _ => rfl) (by decide +kernel) (by omega))
    refine wr_ia (k0 := 238) (a := e26) (f := i27) (x := h21 238 i27) (nx := 64) (r1 := 0) (r2 := 0) (r3 := 0) rfl (by decide) rfl (by omega) (by omega) (by decide) rfl ?_
    obtain ⟨i29, ei29⟩ : ∃ q : Nat, e24 = (q : Int) := ⟨(e24).toNat, by omega⟩
    refine wr_is (k0 := 238) (a := e24) (f := i29) (x := h21 238 i27) (bl := 0) (bh := 11) (nx := 65) (r1 := 0) (r2 := 0) (r3 := 0) rfl (by decide) rfl (by omega) (by omega) (by decide) g21 (gi_rg 80 5 (fun _ => rfl) (by decide +kernel) (by omega)) (by omega) (fun h30 g30 w30 u30 => ?_)
    have F31 := F22.then rfl (FR.idx (p := 80) (q := 84) u30 (by omega))
    have F32 := u21.then rfl (FR.idx (p := 80) (q := 84) u30 (by omega))
    refine wr_iinc (i := 3) (n := 1) (v := x20) (fun e33 => [(3, vi e33), (0, .ref 236), (1, vi 1), (2, vi (h 238 80))]) (nx := 68) (r1 := 0) (r2 := 0) (r3 := 0) rfl rfl (fun _ => rfl) (fun e33 (fe33 : e33 = x20 + 1) => ?_)
    refine wi_goto (nx := 71) (r1 := 22) (r2 := 0) (r3 := 0) rfl ?_
    refine wp.lo (lo := [(0, .ref 236), (1, vi 1), (2, vi (h 238 80)), (3, vi e33)]) ⟨rfl, rfl, rfl, rfl, trivial⟩ rfl ?_
    exact I21 e33 h30 ⟨g30, F31, F32, (show (0 ≤ e33 ∧ e33 ≤ 5) by omega)⟩ (show ((5 : Int) + 1 - e33).toNat < ((5 : Int) + 1 - x20).toNat by omega)
