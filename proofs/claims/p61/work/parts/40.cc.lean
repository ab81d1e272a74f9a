-- method 74: Line.copyFrom(LPaintBank$Line;)V
set_option maxRecDepth 100000 in
set_option maxHeartbeats 100000000 in
theorem ct_74_151_18 {L : Nat} {xs : Nat → Int32} {d b c : Nat} {h : hp} {cr : Nat → Nat → Option Nat} {Q : hp_Q} (hcr : CR cr)  (g : GI h)    (k : ∀ (h2 : hp) , GI h2 → FR [(151, 169, none)] h h2 → (∀ i : Nat, i < 12 → h2 152 i = h 19 i) → Q (.inl none) (hp_w h2 cr) b c) : wp (md_xa (L, xs)) (d + 1) 74 (0, [(0, .ref 151), (1, .ref 18)], [], hp_w h cr, b, c) Q := by
  have F0 : FR [(151, 169, none)] h h := FR.refl
  refine wi_aload_n (i := 1) (x := 18) (nx := 1) (r1 := 0) (r2 := 0) (r3 := 0) rfl rfl ?_
  refine wr_gr (k0 := 18) (x := 19) (nx := 4) (r1 := 4) (r2 := 1) (r3 := 0) rfl rfl (by decide) rfl ⟨rfl, rfl⟩ rfl ?_
  refine wi_iconst (n := 0) (nx := 5) (r1 := 0) (r2 := 0) (r3 := 0) rfl ?_
  refine wi_aload_n (i := 0) (x := 151) (nx := 6) (r1 := 0) (r2 := 0) (r3 := 0) rfl rfl ?_
  refine wr_gr (k0 := 151) (x := 152) (nx := 9) (r1 := 4) (r2 := 1) (r3 := 0) rfl rfl (by decide) rfl ⟨rfl, rfl⟩ rfl ?_
  refine wi_iconst (n := 0) (nx := 10) (r1 := 0) (r2 := 0) (r3 := 0) rfl ?_
  refine wi_bipush (n := 12) (nx := 12) (r1 := 0) (r2 := 0) (r3 := 0) rfl (by decide) ?_
  refine wr_cpy (s0 := 19) (d0 := 152) (n0 := 12) (n1 := 12) (sp := 0) (dp := 0) (n := 12) (sl := -2147483648) (sh := 2147483647) (dl := -2147483648) (dh := 2147483647) (nx := 15) (r1 := 0) (r2 := 101) (r3 := 0) rfl rfl (of_decide_eq_true rfl) (by decide) (by decide) rfl rfl (by omega) (fun _ => rfl) (fun _ => rfl) (by omega) g (fun h1 g1 y1 u1 => ?_)
  have F2 := F0.then rfl u1
  refine wi_aload_n (i := 1) (x := 18) (nx := 16) (r1 := 0) (r2 := 0) (r3 := 0) rfl rfl ?_
  refine wr_gr (k0 := 18) (x := 20) (nx := 19) (r1 := 4) (r2 := 2) (r3 := 0) rfl rfl (by decide) rfl ⟨rfl, rfl⟩ rfl ?_
  refine wi_iconst (n := 0) (nx := 20) (r1 := 0) (r2 := 0) (r3 := 0) rfl ?_
  refine wi_aload_n (i := 0) (x := 151) (nx := 21) (r1 := 0) (r2 := 0) (r3 := 0) rfl rfl ?_
  refine wr_gr (k0 := 151) (x := 153) (nx := 24) (r1 := 4) (r2 := 2) (r3 := 0) rfl rfl (by decide) rfl ⟨rfl, rfl⟩ rfl ?_
  refine wi_iconst (n := 0) (nx := 25) (r1 := 0) (r2 := 0) (r3 := 0) rfl ?_
  refine wi_bipush (n := 12) (nx := 27) (r1 := 0) (r2 := 0) (r3 := 0) rfl (by decide) ?_
  refine wr_cpy (s0 := 20) (d0 := 153) (n0 := 12) (n1 := 12) (sp := 0) (dp := 0) (n := 12) (sl := -2147483648) (sh := 2147483647) (dl := -2147483648) (dh := 2147483647) (nx := 30) (r1 := 0) (r2 := 101) (r3 := 0) rfl rfl (of_decide_eq_true rfl) (by decide) (by decide) rfl rfl (by omega) (fun _ => rfl) (fun _ => rfl) (by omega) g1 (fun h3 g3 y3 u3 => ?_)
  have F4 := F2.then rfl u3
  refine wi_iconst (n := 0) (nx := 31) (r1 := 0) (r2 := 0) (r3 := 0) rfl ?_
  refine wi_istore_n (i := 2) (e := 0) (lo2 := [(2, vi 0), (0, .ref 151), (1, .ref 18)]) (nx := 32) (r1 := 0) (r2 := 0) (r3 := 0) rfl rfl ?_
  refine wp.lo (lo := [(0, .ref 151), (1, .ref 18), (2, vi 0)]) ⟨rfl, rfl, rfl, trivial⟩ rfl ?_
  refine wl_1 (fun x5 h6 => GI h6 ∧ FR [(151, 169, none)] h h6 ∧ FR [(162, 169, none)] h3 h6 ∧ ((0 ≤ x5 ∧ x5 ≤ 4))) (fun x5 h6 => ((4 : Int) + 1 - x5).toNat) (fun x5 h6 => (32, [(0, .ref 151), (1, .ref 18), (2, vi x5)], [], hp_w h6 cr, b, c)) ?_ 0 h3 ⟨g3, F4, FR.refl, (show (0 ≤ 0 ∧ 0 ≤ 4) by omega)⟩
  intro x5 h6 ⟨g6, F7, u6, f6⟩ I6
  refine wi_iload_n (i := 2) (e := x5) (nx := 33) (r1 := 0) (r2 := 0) (r3 := 0) rfl rfl ?_
  refine wi_iconst (n := 4) (nx := 34) (r1 := 0) (r2 := 0) (r3 := 0) rfl ?_
  refine wi_icmp (cd := .ge) (nx := 37) (r1 := 58) (r2 := 0) (r3 := 0) rfl (by omega) (by omega) (fun (q8 : 4 ≤ x5) => ?_) (fun (q8 : ¬ (4 ≤ x5)) => ?_)
  ·
    refine wi_aload_n (i := 0) (x := 151) (nx := 59) (r1 := 0) (r2 := 0) (r3 := 0) rfl rfl ?_
    refine wr_gr (k0 := 151) (x := 155) (nx := 62) (r1 := 4) (r2 := 4) (r3 := 0) rfl rfl (by decide) rfl ⟨rfl, rfl⟩ rfl ?_
    refine wi_aload_n (i := 1) (x := 18) (nx := 63) (r1 := 0) (r2 := 0) (r3 := 0) rfl rfl ?_
    refine wr_gr (k0 := 18) (x := 22) (nx := 66) (r1 := 4) (r2 := 4) (r3 := 0) rfl rfl (by decide) rfl ⟨rfl, rfl⟩ rfl ?_
    refine wr_V (k0 := 155) (rest := []) (as := [.ref 155, .ref 22]) (nx := 69) (r1 := 96) (r2 := 1) (r3 := 5) rfl rfl rfl (of_decide_eq_true rfl) rfl rfl (by decide) rfl rfl (of_decide_eq_true rfl) (of_decide_eq_true rfl) ?_
    refine ct_96_R_R hcr rw_155 rw_22 g6    (fun h9 g9 u9 => ?_)
    have F10 := F7.then rfl u9
    refine wk_n ?_
    refine wi_aload_n (i := 0) (x := 151) (nx := 70) (r1 := 0) (r2 := 0) (r3 := 0) rfl rfl ?_
    refine wr_gr (k0 := 151) (x := 157) (nx := 73) (r1 := 4) (r2 := 5) (r3 := 0) rfl rfl (by decide) rfl ⟨rfl, rfl⟩ rfl ?_
    refine wi_aload_n (i := 1) (x := 18) (nx := 74) (r1 := 0) (r2 := 0) (r3 := 0) rfl rfl ?_
    refine wr_gr (k0 := 18) (x := 24) (nx := 77) (r1 := 4) (r2 := 5) (r3 := 0) rfl rfl (by decide) rfl ⟨rfl, rfl⟩ rfl ?_
    refine wr_V (k0 := 157) (rest := []) (as := [.ref 157, .ref 24]) (nx := 80) (r1 := 96) (r2 := 1) (r3 := 5) rfl rfl rfl (of_decide_eq_true rfl) rfl rfl (by decide) rfl rfl (of_decide_eq_true rfl) (of_decide_eq_true rfl) ?_
    refine ct_96_R_R hcr rw_157 rw_24 g9    (fun h11 g11 u11 => ?_)
    have F12 := F10.then rfl u11
    refine wk_n ?_
    refine wi_aload_n (i := 0) (x := 151) (nx := 81) (r1 := 0) (r2 := 0) (r3 := 0) rfl rfl ?_
    refine wr_gr (k0 := 151) (x := 159) (nx := 84) (r1 := 4) (r2 := 6) (r3 := 0) rfl rfl (by decide) rfl ⟨rfl, rfl⟩ rfl ?_
    refine wi_aload_n (i := 1) (x := 18) (nx := 85) (r1 := 0) (r2 := 0) (r3 := 0) rfl rfl ?_
    refine wr_gr (k0 := 18) (x := 26) (nx := 88) (r1 := 4) (r2 := 6) (r3 := 0) rfl rfl (by decide) rfl ⟨rfl, rfl⟩ rfl ?_
    refine wr_V (k0 := 159) (rest := []) (as := [.ref 159, .ref 26]) (nx := 91) (r1 := 96) (r2 := 1) (r3 := 5) rfl rfl rfl (of_decide_eq_true rfl) rfl rfl (by decide) rfl rfl (of_decide_eq_true rfl) (of_decide_eq_true rfl) ?_
    refine ct_96_R_R hcr rw_159 rw_26 g11    (fun h13 g13 u13 => ?_)
    have F14 := F12.then rfl u13
    refine wk_n ?_
    refine wi_aload_n (i := 0) (x := 151) (nx := 92) (r1 := 0) (r2 := 0) (r3 := 0) rfl rfl ?_
    refine wi_aload_n (i := 1) (x := 18) (nx := 93) (r1 := 0) (r2 := 0) (r3 := 0) rfl rfl ?_
    have b15 := gi_b (lo := 0) (hi := 12) g 18 7 rfl
    refine wr_gi0 (k0 := 18) (x := h 18 7) (nx := 96) (r1 := 4) (r2 := 7) (r3 := 0) rfl rfl (by decide) rfl ⟨rfl, rfl⟩ rfl ((u13 18 7 rfl).trans ((u11 18 7 rfl).trans ((u9 18 7 rfl).trans ((u6 18 7 rfl).trans ((u3 18 7 rfl).trans (u1 18 7 rfl)))))) ?_
    refine wr_pf0 (k0 := 151) (x := h 18 7) (bl := 0) (bh := 12) (nx := 99) (r1 := 4) (r2 := 7) (r3 := 0) rfl (by decide) rfl ⟨rfl, rfl⟩ rfl rfl g13 rfl (by omega) (fun h16 g16 w16 u16 => ?_)
    have F17 := F14.then rfl u16
    refine wi_aload_n (i := 0) (x := 151) (nx := 100) (r1 := 0) (r2 := 0) (r3 := 0) rfl rfl ?_
    refine wi_aload_n (i := 1) (x := 18) (nx := 101) (r1 := 0) (r2 := 0) (r3 := 0) rfl rfl ?_
    have b18 := gi_b (lo := -2147483648) (hi := 2147483647) g 18 8 rfl
    refine wr_gi0 (k0 := 18) (x := h 18 8) (nx := 104) (r1 := 4) (r2 := 8) (r3 := 0) rfl rfl (by decide) rfl ⟨rfl, rfl⟩ rfl ((u16 18 8 rfl).trans ((u13 18 8 rfl).trans ((u11 18 8 rfl).trans ((u9 18 8 rfl).trans ((u6 18 8 rfl).trans ((u3 18 8 rfl).trans (u1 18 8 rfl))))))) ?_
    refine wr_pf0 (k0 := 151) (x := h 18 8) (bl := -2147483648) (bh := 2147483647) (nx := 107) (r1 := 4) (r2 := 8) (r3 := 0) rfl (by decide) rfl ⟨rfl, rfl⟩ rfl rfl g16 rfl (by omega) (fun h19 g19 w19 u19 => ?_)
    have F20 := F17.then rfl u19
    refine wi_aload_n (i := 0) (x := 151) (nx := 108) (r1 := 0) (r2 := 0) (r3 := 0) rfl rfl ?_
    refine wi_aload_n (i := 1) (x := 18) (nx := 109) (r1 := 0) (r2 := 0) (r3 := 0) rfl rfl ?_
    have b21 := gi_b (lo := -2147483648) (hi := 2147483647) g 18 9 rfl
    refine wr_gi0 (k0 := 18) (x := h 18 9) (nx := 112) (r1 := 4) (r2 := 9) (r3 := 0) rfl rfl (by decide) rfl ⟨rfl, rfl⟩ rfl ((u19 18 9 rfl).trans ((u16 18 9 rfl).trans ((u13 18 9 rfl).trans ((u11 18 9 rfl).trans ((u9 18 9 rfl).trans ((u6 18 9 rfl).trans ((u3 18 9 rfl).trans (u1 18 9 rfl)))))))) ?_
    refine wr_pf0 (k0 := 151) (x := h 18 9) (bl := -2147483648) (bh := 2147483647) (nx := 115) (r1 := 4) (r2 := 9) (r3 := 0) rfl (by decide) rfl ⟨rfl, rfl⟩ rfl rfl g19 rfl (by omega) (fun h22 g22 w22 u22 => ?_)
    have F23 := F20.then rfl u22
    refine wi_aload_n (i := 0) (x := 151) (nx := 116) (r1 := 0) (r2 := 0) (r3 := 0) rfl rfl ?_
    refine wi_aload_n (i := 1) (x := 18) (nx := 117) (r1 := 0) (r2 := 0) (r3 := 0) rfl rfl ?_
    have b24 := gi_b (lo := -2147483648) (hi := 2147483647) g 18 10 rfl
    refine wr_gi0 (k0 := 18) (x := h 18 10) (nx := 120) (r1 := 4) (r2 := 10) (r3 := 0) rfl rfl (by decide) rfl ⟨rfl, rfl⟩ rfl ((u22 18 10 rfl).trans ((u19 18 10 rfl).trans ((u16 18 10 rfl).trans ((u13 18 10 rfl).trans ((u11 18 10 rfl).trans ((u9 18 10 rfl).trans ((u6 18 10 rfl).trans ((u3 18 10 rfl).trans (u1 18 10 rfl))))))))) ?_
    refine wr_pf0 (k0 := 151) (x := h 18 10) (bl := -2147483648) (bh := 2147483647) (nx := 123) (r1 := 4) (r2 := 10) (r3 := 0) rfl (by decide) rfl ⟨rfl, rfl⟩ rfl rfl g22 rfl (by omega) (fun h25 g25 w25 u25 => ?_)
    have F26 := F23.then rfl u25
    refine wi_aload_n (i := 0) (x := 151) (nx := 124) (r1 := 0) (r2 := 0) (r3 := 0) rfl rfl ?_
    refine wi_aload_n (i := 1) (x := 18) (nx := 125) (r1 := 0) (r2 := 0) (r3 := 0) rfl rfl ?_
    have b27 := gi_b (lo := -2147483648) (hi := 2147483647) g 18 11 rfl
    refine wr_gi0 (k0 := 18) (x := h 18 11) (nx := 128) (r1 := 4) (r2 := 11) (r3 := 0) rfl rfl (by decide) rfl ⟨rfl, rfl⟩ rfl ((u25 18 11 rfl).trans ((u22 18 11 rfl).trans ((u19 18 11 rfl).trans ((u16 18 11 rfl).trans ((u13 18 11 rfl).trans ((u11 18 11 rfl).trans ((u9 18 11 rfl).trans ((u6 18 11 rfl).trans ((u3 18 11 rfl).trans (u1 18 11 rfl)))))))))) ?_
    refine wr_pf0 (k0 := 151) (x := h 18 11) (bl := -2147483648) (bh := 2147483647) (nx := 131) (r1 := 4) (r2 := 11) (r3 := 0) rfl (by decide) rfl ⟨rfl, rfl⟩ rfl rfl g25 rfl (by omega) (fun h28 g28 w28 u28 => ?_)
    have F29 := F26.then rfl u28
    refine wi_aload_n (i := 0) (x := 151) (nx := 132) (r1 := 0) (r2 := 0) (r3 := 0) rfl rfl ?_
    refine wi_aload_n (i := 1) (x := 18) (nx := 133) (r1 := 0) (r2 := 0) (r3 := 0) rfl rfl ?_
    have b30 := gi_b (lo := -2147483648) (hi := 2147483647) g 18 12 rfl
    refine wr_gi0 (k0 := 18) (x := h 18 12) (nx := 136) (r1 := 4) (r2 := 12) (r3 := 0) rfl rfl (by decide) rfl ⟨rfl, rfl⟩ rfl ((u28 18 12 rfl).trans ((u25 18 12 rfl).trans ((u22 18 12 rfl).trans ((u19 18 12 rfl).trans ((u16 18 12 rfl).trans ((u13 18 12 rfl).trans ((u11 18 12 rfl).trans ((u9 18 12 rfl).trans ((u6 18 12 rfl).trans ((u3 18 12 rfl).trans (u1 18 12 rfl))))))))))) ?_
    refine wr_pf0 (k0 := 151) (x := h 18 12) (bl := -2147483648) (bh := 2147483647) (nx := 139) (r1 := 4) (r2 := 12) (r3 := 0) rfl (by decide) rfl ⟨rfl, rfl⟩ rfl rfl g28 rfl (by omega) (fun h31 g31 w31 u31 => ?_)
    have F32 := F29.then rfl u31
    refine wi_aload_n (i := 0) (x := 151) (nx := 140) (r1 := 0) (r2 := 0) (r3 := 0) rfl rfl ?_
    refine wi_aload_n (i := 1) (x := 18) (nx := 141) (r1 := 0) (r2 := 0) (r3 := 0) rfl rfl ?_
    have b33 := gi_b (lo := -2147483648) (hi := 2147483647) g 18 13 rfl
    refine wr_gi0 (k0 := 18) (x := h 18 13) (nx := 144) (r1 := 4) (r2 := 13) (r3 := 0) rfl rfl (by decide) rfl ⟨rfl, rfl⟩ rfl ((u31 18 13 rfl).trans ((u28 18 13 rfl).trans ((u25 18 13 rfl).trans ((u22 18 13 rfl).trans ((u19 18 13 rfl).trans ((u16 18 13 rfl).trans ((u13 18 13 rfl).trans ((u11 18 13 rfl).trans ((u9 18 13 rfl).trans ((u6 18 13 rfl).trans ((u3 18 13 rfl).trans (u1 18 13 rfl)))))))))))) ?_
    refine wr_pf0 (k0 := 151) (x := h 18 13) (bl := -2147483648) (bh := 2147483647) (nx := 147) (r1 := 4) (r2 := 13) (r3 := 0) rfl (by decide) rfl ⟨rfl, rfl⟩ rfl rfl g31 rfl (by omega) (fun h34 g34 w34 u34 => ?_)
    have F35 := F32.then rfl u34
    refine wi_aload_n (i := 1) (x := 18) (nx := 148) (r1 := 0) (r2 := 0) (r3 := 0) rfl rfl ?_
    refine wr_gr (k0 := 18) (x := 28) (nx := 151) (r1 := 4) (r2 := 14) (r3 := 0) rfl rfl (by decide) rfl ⟨rfl, rfl⟩ rfl ?_
    refine wi_iconst (n := 0) (nx := 152) (r1 := 0) (r2 := 0) (r3 := 0) rfl ?_
    refine wi_aload_n (i := 0) (x := 151) (nx := 153) (r1 := 0) (r2 := 0) (r3 := 0) rfl rfl ?_
    refine wr_gr (k0 := 151) (x := 161) (nx := 156) (r1 := 4) (r2 := 14) (r3 := 0) rfl rfl (by decide) rfl ⟨rfl, rfl⟩ rfl ?_
    refine wi_iconst (n := 0) (nx := 157) (r1 := 0) (r2 := 0) (r3 := 0) rfl ?_
    refine wi_aload_n (i := 0) (x := 151) (nx := 158) (r1 := 0) (r2 := 0) (r3 := 0) rfl rfl ?_
    refine wr_gr (k0 := 151) (x := 161) (nx := 161) (r1 := 4) (r2 := 14) (r3 := 0) rfl rfl (by decide) rfl ⟨rfl, rfl⟩ rfl ?_
    refine wr_al (k0 := 161) (e := 144) (nx := 162) (r1 := 0) (r2 := 0) (r3 := 0) rfl (by decide) rfl rfl ?_
    refine wr_cpy (s0 := 28) (d0 := 161) (n0 := 144) (n1 := 144) (sp := 0) (dp := 0) (n := 144) (sl := -2147483648) (sh := 2147483647) (dl := -2147483648) (dh := 2147483647) (nx := 165) (r1 := 0) (r2 := 101) (r3 := 0) rfl rfl (of_decide_eq_true rfl) (by decide) (by decide) rfl rfl (by omega) (fun _ => rfl) (fun _ => rfl) (by omega) g34 (fun h36 g36 y36 u36 => ?_)
    have F37 := F35.then rfl u36
    refine wi_aload_n (i := 0) (x := 151) (nx := 166) (r1 := 0) (r2 := 0) (r3 := 0) rfl rfl ?_
    refine wi_aload_n (i := 1) (x := 18) (nx := 167) (r1 := 0) (r2 := 0) (r3 := 0) rfl rfl ?_
    have b38 := gi_b (lo := 0) (hi := 36) g 18 15 rfl
    refine wr_gi0 (k0 := 18) (x := h 18 15) (nx := 170) (r1 := 4) (r2 := 15) (r3 := 0) rfl rfl (by decide) rfl ⟨rfl, rfl⟩ rfl ((u36 18 15 rfl).trans ((u34 18 15 rfl).trans ((u31 18 15 rfl).trans ((u28 18 15 rfl).trans ((u25 18 15 rfl).trans ((u22 18 15 rfl).trans ((u19 18 15 rfl).trans ((u16 18 15 rfl).trans ((u13 18 15 rfl).trans ((u11 18 15 rfl).trans ((u9 18 15 rfl).trans ((u6 18 15 rfl).trans ((u3 18 15 rfl).trans (u1 18 15 rfl)))))))))))))) ?_
    refine wr_pf0 (k0 := 151) (x := h 18 15) (bl := 0) (bh := 36) (nx := 173) (r1 := 4) (r2 := 15) (r3 := 0) rfl (by decide) rfl ⟨rfl, rfl⟩ rfl rfl g36 rfl (by omega) (fun h39 g39 w39 u39 => ?_)
    have F40 := F37.then rfl u39
    refine wi_aload_n (i := 0) (x := 151) (nx := 174) (r1 := 0) (r2 := 0) (r3 := 0) rfl rfl ?_
    refine wi_dup (nx := 175) (r1 := 0) (r2 := 0) (r3 := 0) rfl rfl ?_
    have b41 := gi_b (lo := -2147483648) (hi := 2147483647) g 151 16 rfl
    refine wr_gi0 (k0 := 151) (x := h 151 16) (nx := 178) (r1 := 4) (r2 := 16) (r3 := 0) rfl rfl (by decide) rfl ⟨rfl, rfl⟩ rfl ((u39 151 16 rfl).trans ((u36 151 16 rfl).trans ((u34 151 16 rfl).trans ((u31 151 16 rfl).trans ((u28 151 16 rfl).trans ((u25 151 16 rfl).trans ((u22 151 16 rfl).trans ((u19 151 16 rfl).trans ((u16 151 16 rfl).trans ((u13 151 16 rfl).trans ((u11 151 16 rfl).trans ((u9 151 16 rfl).trans ((u6 151 16 rfl).trans ((u3 151 16 rfl).trans (u1 151 16 rfl))))))))))))))) ?_
    refine wi_iconst (n := 1) (nx := 179) (r1 := 0) (r2 := 0) (r3 := 0) rfl ?_
    refine wr_addW (nx := 180) (r1 := 0) (r2 := 0) (r3 := 0) rfl (fun e42 (fe42 : -2147483648 ≤ e42 ∧ e42 ≤ 2147483647) => ?_)
    refine wr_pf0 (k0 := 151) (x := e42) (bl := -2147483648) (bh := 2147483647) (nx := 183) (r1 := 4) (r2 := 16) (r3 := 0) rfl (by decide) rfl ⟨rfl, rfl⟩ rfl rfl g39 rfl (by omega) (fun h43 g43 w43 u43 => ?_)
    have F44 := F40.then rfl u43
    refine wi_return (nx := 184) (r1 := 0) (r2 := 0) (r3 := 0) rfl rfl ?_
    exact k h43 g43 F44 (fun q e => (((u43 152 q (fn_a (by omega) fn_0)).trans ((u39 152 q (fn_a (by omega) fn_0)).trans ((u36 152 q (fn_a (by omega) fn_0)).trans ((u34 152 q (fn_a (by omega) fn_0)).trans ((u31 152 q (fn_a (by omega) fn_0)).trans ((u28 152 q (fn_a (by omega) fn_0)).trans ((u25 152 q (fn_a (by omega) fn_0)).trans ((u22 152 q (fn_a (by omega) fn_0)).trans ((u19 152 q (fn_a (by omega) fn_0)).trans ((u16 152 q (fn_a (by omega) fn_0)).trans ((u13 152 q (fn_a (by omega) fn_0)).trans ((u11 152 q (fn_a (by omega) fn_0)).trans ((u9 152 q (fn_a (by omega) fn_0)).trans ((u6 152 q (fn_a (by omega) fn_0)).trans (u3 152 q (fn_a (by omega) fn_0)))))))))))))))).trans (cy_0 y1 (by omega))))
  ·
    refine wi_aload_n (i := 0) (x := 151) (nx := 38) (r1 := 0) (r2 := 0) (r3 := 0) rfl rfl ?_
    refine wr_gr (k0 := 151) (x := 154) (nx := 41) (r1 := 4) (r2 := 3) (r3 := 0) rfl rfl (by decide) rfl ⟨rfl, rfl⟩ rfl ?_
    refine wi_iload_n (i := 2) (e := x5) (nx := 42) (r1 := 0) (r2 := 0) (r3 := 0) rfl rfl ?_
    obtain ⟨i9, ei9⟩ : ∃ q : Nat, x5 = (q : Int) := ⟨(x5).toNat, by omega⟩
    refine wr_aa (k0 := 154) (a := x5) (f := i9) (x := 154 + 8 + 2 * i9) (nx := 43) (r1 := 0) (r2 := 0) (r3 := 0) rfl (by decide) rfl (Or.inl rfl) (by omega) (by omega) (by decide) (hcr.1 154 (by decide) i9 (by omega)) ?_
    obtain ⟨k10, kk10, mk10⟩ : ∃ q, Rw q ∧ q = 154 + 8 + 2 * i9 := ⟨_, rw_lane 154 (by decide) i9 (by omega), rfl⟩
    rw [← mk10]
    refine wi_aload_n (i := 1) (x := 18) (nx := 44) (r1 := 0) (r2 := 0) (r3 := 0) rfl rfl ?_
    refine wr_gr (k0 := 18) (x := 21) (nx := 47) (r1 := 4) (r2 := 3) (r3 := 0) rfl rfl (by decide) rfl ⟨rfl, rfl⟩ rfl ?_
    refine wi_iload_n (i := 2) (e := x5) (nx := 48) (r1 := 0) (r2 := 0) (r3 := 0) rfl rfl ?_
    refine wr_aa (k0 := 21) (a := x5) (f := i9) (x := 21 + 8 + 2 * i9) (nx := 49) (r1 := 0) (r2 := 0) (r3 := 0) rfl (by decide) rfl (Or.inl rfl) (by omega) (by omega) (by decide) (hcr.1 21 (by decide) i9 (by omega)) ?_
    obtain ⟨k11, kk11, mk11⟩ : ∃ q, Rw q ∧ q = 21 + 8 + 2 * i9 := ⟨_, rw_lane 21 (by decide) i9 (by omega), rfl⟩
    rw [← mk11]
    refine wr_V (k0 := k10) (rest := []) (as := [.ref k10, .ref k11]) (nx := 52) (r1 := 96) (r2 := 1) (r3 := 5) rfl rfl rfl (of_decide_eq_true rfl) rfl rfl kk10.k kk10.1 rfl (of_decide_eq_true rfl) (of_decide_eq_true rfl) ?_
    refine ct_96_R_R hcr kk10 kk11 g6    (fun h12 g12 u12 => ?_)
    have v12 := FR.rngp (lo := 162) (hi := 169) u12 (by omega)
    have F13 := F7.then rfl (FR.rngp (lo := 162) (hi := 169) u12 (by omega))
    have F14 := u6.then rfl (FR.rngp (lo := 162) (hi := 169) u12 (by omega))
    refine wk_n ?_
    refine wr_iinc (i := 2) (n := 1) (v := x5) (fun e15 => [(2, vi e15), (0, .ref 151), (1, .ref 18)]) (nx := 55) (r1 := 0) (r2 := 0) (r3 := 0) rfl rfl (fun _ => rfl) (fun e15 (fe15 : e15 = x5 + 1) => ?_)
    refine wi_goto (nx := 58) (r1 := 32) (r2 := 0) (r3 := 0) rfl ?_
    refine wp.lo (lo := [(0, .ref 151), (1, .ref 18), (2, vi e15)]) ⟨rfl, rfl, rfl, trivial⟩ rfl ?_
    exact I6 e15 h12 ⟨g12, F13, F14, (show (0 ≤ e15 ∧ e15 ≤ 4) by omega)⟩ (show ((4 : Int) + 1 - e15).toNat < ((4 : Int) + 1 - x5).toNat by omega)
-- method 74: Line.copyFrom(LPaintBank$Line;)V
set_option maxRecDepth 100000 in
set_option maxHeartbeats 100000000 in
theorem ct_74_170_18 {L : Nat} {xs : Nat → Int32} {d b c : Nat} {h : hp} {cr : Nat → Nat → Option Nat} {Q : hp_Q} (hcr : CR cr)  (g : GI h)    (k : ∀ (h2 : hp) , GI h2 → FR [(170, 188, none)] h h2 → (∀ i : Nat, i < 12 → h2 171 i = h 19 i) → Q (.inl none) (hp_w h2 cr) b c) : wp (md_xa (L, xs)) (d + 1) 74 (0, [(0, .ref 170), (1, .ref 18)], [], hp_w h cr, b, c) Q := by
  have F0 : FR [(170, 188, none)] h h := FR.refl
  refine wi_aload_n (i := 1) (x := 18) (nx := 1) (r1 := 0) (r2 := 0) (r3 := 0) rfl rfl ?_
  refine wr_gr (k0 := 18) (x := 19) (nx := 4) (r1 := 4) (r2 := 1) (r3 := 0) rfl rfl (by decide) rfl ⟨rfl, rfl⟩ rfl ?_
  refine wi_iconst (n := 0) (nx := 5) (r1 := 0) (r2 := 0) (r3 := 0) rfl ?_
  refine wi_aload_n (i := 0) (x := 170) (nx := 6) (r1 := 0) (r2 := 0) (r3 := 0) rfl rfl ?_
  refine wr_gr (k0 := 170) (x := 171) (nx := 9) (r1 := 4) (r2 := 1) (r3 := 0) rfl rfl (by decide) rfl ⟨rfl, rfl⟩ rfl ?_
  refine wi_iconst (n := 0) (nx := 10) (r1 := 0) (r2 := 0) (r3 := 0) rfl ?_
  refine wi_bipush (n := 12) (nx := 12) (r1 := 0) (r2 := 0) (r3 := 0) rfl (by decide) ?_
  refine wr_cpy (s0 := 19) (d0 := 171) (n0 := 12) (n1 := 12) (sp := 0) (dp := 0) (n := 12) (sl := -2147483648) (sh := 2147483647) (dl := -2147483648) (dh := 2147483647) (nx := 15) (r1 := 0) (r2 := 101) (r3 := 0) rfl rfl (of_decide_eq_true rfl) (by decide) (by decide) rfl rfl (by omega) (fun _ => rfl) (fun _ => rfl) (by omega) g (fun h1 g1 y1 u1 => ?_)
  have F2 := F0.then rfl u1
  refine wi_aload_n (i := 1) (x := 18) (nx := 16) (r1 := 0) (r2 := 0) (r3 := 0) rfl rfl ?_
  refine wr_gr (k0 := 18) (x := 20) (nx := 19) (r1 := 4) (r2 := 2) (r3 := 0) rfl rfl (by decide) rfl ⟨rfl, rfl⟩ rfl ?_
  refine wi_iconst (n := 0) (nx := 20) (r1 := 0) (r2 := 0) (r3 := 0) rfl ?_
  refine wi_aload_n (i := 0) (x := 170) (nx := 21) (r1 := 0) (r2 := 0) (r3 := 0) rfl rfl ?_
  refine wr_gr (k0 := 170) (x := 172) (nx := 24) (r1 := 4) (r2 := 2) (r3 := 0) rfl rfl (by decide) rfl ⟨rfl, rfl⟩ rfl ?_
  refine wi_iconst (n := 0) (nx := 25) (r1 := 0) (r2 := 0) (r3 := 0) rfl ?_
  refine wi_bipush (n := 12) (nx := 27) (r1 := 0) (r2 := 0) (r3 := 0) rfl (by decide) ?_
  refine wr_cpy (s0 := 20) (d0 := 172) (n0 := 12) (n1 := 12) (sp := 0) (dp := 0) (n := 12) (sl := -2147483648) (sh := 2147483647) (dl := -2147483648) (dh := 2147483647) (nx := 30) (r1 := 0) (r2 := 101) (r3 := 0) rfl rfl (of_decide_eq_true rfl) (by decide) (by decide) rfl rfl (by omega) (fun _ => rfl) (fun _ => rfl) (by omega) g1 (fun h3 g3 y3 u3 => ?_)
  have F4 := F2.then rfl u3
  refine wi_iconst (n := 0) (nx := 31) (r1 := 0) (r2 := 0) (r3 := 0) rfl ?_
  refine wi_istore_n (i := 2) (e := 0) (lo2 := [(2, vi 0), (0, .ref 170), (1, .ref 18)]) (nx := 32) (r1 := 0) (r2 := 0) (r3 := 0) rfl rfl ?_
  refine wp.lo (lo := [(0, .ref 170), (1, .ref 18), (2, vi 0)]) ⟨rfl, rfl, rfl, trivial⟩ rfl ?_
  refine wl_1 (fun x5 h6 => GI h6 ∧ FR [(170, 188, none)] h h6 ∧ FR [(181, 188, none)] h3 h6 ∧ ((0 ≤ x5 ∧ x5 ≤ 4))) (fun x5 h6 => ((4 : Int) + 1 - x5).toNat) (fun x5 h6 => (32, [(0, .ref 170), (1, .ref 18), (2, vi x5)], [], hp_w h6 cr, b, c)) ?_ 0 h3 ⟨g3, F4, FR.refl, (show (0 ≤ 0 ∧ 0 ≤ 4) by omega)⟩
  intro x5 h6 ⟨g6, F7, u6, f6⟩ I6
  refine wi_iload_n (i := 2) (e := x5) (nx := 33) (r1 := 0) (r2 := 0) (r3 := 0) rfl rfl ?_
  refine wi_iconst (n := 4) (nx := 34) (r1 := 0) (r2 := 0) (r3 := 0) rfl ?_
  refine wi_icmp (cd := .ge) (nx := 37) (r1 := 58) (r2 := 0) (r3 := 0) rfl (by omega) (by omega) (fun (q8 : 4 ≤ x5) => ?_) (fun (q8 : ¬ (4 ≤ x5)) => ?_)
  ·
    refine wi_aload_n (i := 0) (x := 170) (nx := 59) (r1 := 0) (r2 := 0) (r3 := 0) rfl rfl ?_
    refine wr_gr (k0 := 170) (x := 174) (nx := 62) (r1 := 4) (r2 := 4) (r3 := 0) rfl rfl (by decide) rfl ⟨rfl, rfl⟩ rfl ?_
    refine wi_aload_n (i := 1) (x := 18) (nx := 63) (r1 := 0) (r2 := 0) (r3 := 0) rfl rfl ?_
    refine wr_gr (k0 := 18) (x := 22) (nx := 66) (r1 := 4) (r2 := 4) (r3 := 0) rfl rfl (by decide) rfl ⟨rfl, rfl⟩ rfl ?_
    refine wr_V (k0 := 174) (rest := []) (as := [.ref 174, .ref 22]) (nx := 69) (r1 := 96) (r2 := 1) (r3 := 5) rfl rfl rfl (of_decide_eq_true rfl) rfl rfl (by decide) rfl rfl (of_decide_eq_true rfl) (of_decide_eq_true rfl) ?_
    refine ct_96_R_R hcr rw_174 rw_22 g6    (fun h9 g9 u9 => ?_)
    have F10 := F7.then rfl u9
    refine wk_n ?_
    refine wi_aload_n (i := 0) (x := 170) (nx := 70) (r1 := 0) (r2 := 0) (r3 := 0) rfl rfl ?_
    refine wr_gr (k0 := 170) (x := 176) (nx := 73) (r1 := 4) (r2 := 5) (r3 := 0) rfl rfl (by decide) rfl ⟨rfl, rfl⟩ rfl ?_
    refine wi_aload_n (i := 1) (x := 18) (nx := 74) (r1 := 0) (r2 := 0) (r3 := 0) rfl rfl ?_
    refine wr_gr (k0 := 18) (x := 24) (nx := 77) (r1 := 4) (r2 := 5) (r3 := 0) rfl rfl (by decide) rfl ⟨rfl, rfl⟩ rfl ?_
    refine wr_V (k0 := 176) (rest := []) (as := [.ref 176, .ref 24]) (nx := 80) (r1 := 96) (r2 := 1) (r3 := 5) rfl rfl rfl (of_decide_eq_true rfl) rfl rfl (by decide) rfl rfl (of_decide_eq_true rfl) (of_decide_eq_true rfl) ?_
    refine ct_96_R_R hcr rw_176 rw_24 g9    (fun h11 g11 u11 => ?_)
    have F12 := F10.then rfl u11
    refine wk_n ?_
    refine wi_aload_n (i := 0) (x := 170) (nx := 81) (r1 := 0) (r2 := 0) (r3 := 0) rfl rfl ?_
    refine wr_gr (k0 := 170) (x := 178) (nx := 84) (r1 := 4) (r2 := 6) (r3 := 0) rfl rfl (by decide) rfl ⟨rfl, rfl⟩ rfl ?_
    refine wi_aload_n (i := 1) (x := 18) (nx := 85) (r1 := 0) (r2 := 0) (r3 := 0) rfl rfl ?_
    refine wr_gr (k0 := 18) (x := 26) (nx := 88) (r1 := 4) (r2 := 6) (r3 := 0) rfl rfl (by decide) rfl ⟨rfl, rfl⟩ rfl ?_
    refine wr_V (k0 := 178) (rest := []) (as := [.ref 178, .ref 26]) (nx := 91) (r1 := 96) (r2 := 1) (r3 := 5) rfl rfl rfl (of_decide_eq_true rfl) rfl rfl (by decide) rfl rfl (of_decide_eq_true rfl) (of_decide_eq_true rfl) ?_
    refine ct_96_R_R hcr rw_178 rw_26 g11    (fun h13 g13 u13 => ?_)
    have F14 := F12.then rfl u13
    refine wk_n ?_
    refine wi_aload_n (i := 0) (x := 170) (nx := 92) (r1 := 0) (r2 := 0) (r3 := 0) rfl rfl ?_
    refine wi_aload_n (i := 1) (x := 18) (nx := 93) (r1 := 0) (r2 := 0) (r3 := 0) rfl rfl ?_
    have b15 := gi_b (lo := 0) (hi := 12) g 18 7 rfl
    refine wr_gi0 (k0 := 18) (x := h 18 7) (nx := 96) (r1 := 4) (r2 := 7) (r3 := 0) rfl rfl (by decide) rfl ⟨rfl, rfl⟩ rfl ((u13 18 7 rfl).trans ((u11 18 7 rfl).trans ((u9 18 7 rfl).trans ((u6 18 7 rfl).trans ((u3 18 7 rfl).trans (u1 18 7 rfl)))))) ?_
    refine wr_pf0 (k0 := 170) (x := h 18 7) (bl := 0) (bh := 12) (nx := 99) (r1 := 4) (r2 := 7) (r3 := 0) rfl (by decide) rfl ⟨rfl, rfl⟩ rfl rfl g13 rfl (by omega) (fun h16 g16 w16 u16 => ?_)
    have F17 := F14.then rfl u16
    refine wi_aload_n (i := 0) (x := 170) (nx := 100) (r1 := 0) (r2 := 0) (r3 := 0) rfl rfl ?_
    refine wi_aload_n (i := 1) (x := 18) (nx := 101) (r1 := 0) (r2 := 0) (r3 := 0) rfl rfl ?_
    have b18 := gi_b (lo := -2147483648) (hi := 2147483647) g 18 8 rfl
    refine wr_gi0 (k0 := 18) (x := h 18 8) (nx := 104) (r1 := 4) (r2 := 8) (r3 := 0) rfl rfl (by decide) rfl ⟨rfl, rfl⟩ rfl ((u16 18 8 rfl).trans ((u13 18 8 rfl).trans ((u11 18 8 rfl).trans ((u9 18 8 rfl).trans ((u6 18 8 rfl).trans ((u3 18 8 rfl).trans (u1 18 8 rfl))))))) ?_
    refine wr_pf0 (k0 := 170) (x := h 18 8) (bl := -2147483648) (bh := 2147483647) (nx := 107) (r1 := 4) (r2 := 8) (r3 := 0) rfl (by decide) rfl ⟨rfl, rfl⟩ rfl rfl g16 rfl (by omega) (fun h19 g19 w19 u19 => ?_)
    have F20 := F17.then rfl u19
    refine wi_aload_n (i := 0) (x := 170) (nx := 108) (r1 := 0) (r2 := 0) (r3 := 0) rfl rfl ?_
    refine wi_aload_n (i := 1) (x := 18) (nx := 109) (r1 := 0) (r2 := 0) (r3 := 0) rfl rfl ?_
    have b21 := gi_b (lo := -2147483648) (hi := 2147483647) g 18 9 rfl
    refine wr_gi0 (k0 := 18) (x := h 18 9) (nx := 112) (r1 := 4) (r2 := 9) (r3 := 0) rfl rfl (by decide) rfl ⟨rfl, rfl⟩ rfl ((u19 18 9 rfl).trans ((u16 18 9 rfl).trans ((u13 18 9 rfl).trans ((u11 18 9 rfl).trans ((u9 18 9 rfl).trans ((u6 18 9 rfl).trans ((u3 18 9 rfl).trans (u1 18 9 rfl)))))))) ?_
    refine wr_pf0 (k0 := 170) (x := h 18 9) (bl := -2147483648) (bh := 2147483647) (nx := 115) (r1 := 4) (r2 := 9) (r3 := 0) rfl (by decide) rfl ⟨rfl, rfl⟩ rfl rfl g19 rfl (by omega) (fun h22 g22 w22 u22 => ?_)
    have F23 := F20.then rfl u22
    refine wi_aload_n (i := 0) (x := 170) (nx := 116) (r1 := 0) (r2 := 0) (r3 := 0) rfl rfl ?_
    refine wi_aload_n (i := 1) (x := 18) (nx := 117) (r1 := 0) (r2 := 0) (r3 := 0) rfl rfl ?_
    have b24 := gi_b (lo := -2147483648) (hi := 2147483647) g 18 10 rfl
    refine wr_gi0 (k0 := 18) (x := h 18 10) (nx := 120) (r1 := 4) (r2 := 10) (r3 := 0) rfl rfl (by decide) rfl ⟨rfl, rfl⟩ rfl ((u22 18 10 rfl).trans ((u19 18 10 rfl).trans ((u16 18 10 rfl).trans ((u13 18 10 rfl).trans ((u11 18 10 rfl).trans ((u9 18 10 rfl).trans ((u6 18 10 rfl).trans ((u3 18 10 rfl).trans (u1 18 10 rfl))))))))) ?_
    refine wr_pf0 (k0 := 170) (x := h 18 10) (bl := -2147483648) (bh := 2147483647) (nx := 123) (r1 := 4) (r2 := 10) (r3 := 0) rfl (by decide) rfl ⟨rfl, rfl⟩ rfl rfl g22 rfl (by omega) (fun h25 g25 w25 u25 => ?_)
    have F26 := F23.then rfl u25
    refine wi_aload_n (i := 0) (x := 170) (nx := 124) (r1 := 0) (r2 := 0) (r3 := 0) rfl rfl ?_
    refine wi_aload_n (i := 1) (x := 18) (nx := 125) (r1 := 0) (r2 := 0) (r3 := 0) rfl rfl ?_
    have b27 := gi_b (lo := -2147483648) (hi := 2147483647) g 18 11 rfl
    refine wr_gi0 (k0 := 18) (x := h 18 11) (nx := 128) (r1 := 4) (r2 := 11) (r3 := 0) rfl rfl (by decide) rfl ⟨rfl, rfl⟩ rfl ((u25 18 11 rfl).trans ((u22 18 11 rfl).trans ((u19 18 11 rfl).trans ((u16 18 11 rfl).trans ((u13 18 11 rfl).trans ((u11 18 11 rfl).trans ((u9 18 11 rfl).trans ((u6 18 11 rfl).trans ((u3 18 11 rfl).trans (u1 18 11 rfl)))))))))) ?_
    refine wr_pf0 (k0 := 170) (x := h 18 11) (bl := -2147483648) (bh := 2147483647) (nx := 131) (r1 := 4) (r2 := 11) (r3 := 0) rfl (by decide) rfl ⟨rfl, rfl⟩ rfl rfl g25 rfl (by omega) (fun h28 g28 w28 u28 => ?_)
    have F29 := F26.then rfl u28
    refine wi_aload_n (i := 0) (x := 170) (nx := 132) (r1 := 0) (r2 := 0) (r3 := 0) rfl rfl ?_
    refine wi_aload_n (i := 1) (x := 18) (nx := 133) (r1 := 0) (r2 := 0) (r3 := 0) rfl rfl ?_
    have b30 := gi_b (lo := -2147483648) (hi := 2147483647) g 18 12 rfl
    refine wr_gi0 (k0 := 18) (x := h 18 12) (nx := 136) (r1 := 4) (r2 := 12) (r3 := 0) rfl rfl (by decide) rfl ⟨rfl, rfl⟩ rfl ((u28 18 12 rfl).trans ((u25 18 12 rfl).trans ((u22 18 12 rfl).trans ((u19 18 12 rfl).trans ((u16 18 12 rfl).trans ((u13 18 12 rfl).trans ((u11 18 12 rfl).trans ((u9 18 12 rfl).trans ((u6 18 12 rfl).trans ((u3 18 12 rfl).trans (u1 18 12 rfl))))))))))) ?_
    refine wr_pf0 (k0 := 170) (x := h 18 12) (bl := -2147483648) (bh := 2147483647) (nx := 139) (r1 := 4) (r2 := 12) (r3 := 0) rfl (by decide) rfl ⟨rfl, rfl⟩ rfl rfl g28 rfl (by omega) (fun h31 g31 w31 u31 => ?_)
    have F32 := F29.then rfl u31
    refine wi_aload_n (i := 0) (x := 170) (nx := 140) (r1 := 0) (r2 := 0) (r3 := 0) rfl rfl ?_
    refine wi_aload_n (i := 1) (x := 18) (nx := 141) (r1 := 0) (r2 := 0) (r3 := 0) rfl rfl ?_
    have b33 := gi_b (lo := -2147483648) (hi := 2147483647) g 18 13 rfl
    refine wr_gi0 (k0 := 18) (x := h 18 13) (nx := 144) (r1 := 4) (r2 := 13) (r3 := 0) rfl rfl (by decide) rfl ⟨rfl, rfl⟩ rfl ((u31 18 13 rfl).trans ((u28 18 13 rfl).trans ((u25 18 13 rfl).trans ((u22 18 13 rfl).trans ((u19 18 13 rfl).trans ((u16 18 13 rfl).trans ((u13 18 13 rfl).trans ((u11 18 13 rfl).trans ((u9 18 13 rfl).trans ((u6 18 13 rfl).trans ((u3 18 13 rfl).trans (u1 18 13 rfl)))))))))))) ?_
    refine wr_pf0 (k0 := 170) (x := h 18 13) (bl := -2147483648) (bh := 2147483647) (nx := 147) (r1 := 4) (r2 := 13) (r3 := 0) rfl (by decide) rfl ⟨rfl, rfl⟩ rfl rfl g31 rfl (by omega) (fun h34 g34 w34 u34 => ?_)
    have F35 := F32.then rfl u34
    refine wi_aload_n (i := 1) (x := 18) (nx := 148) (r1 := 0) (r2 := 0) (r3 := 0) rfl rfl ?_
    refine wr_gr (k0 := 18) (x := 28) (nx := 151) (r1 := 4) (r2 := 14) (r3 := 0) rfl rfl (by decide) rfl ⟨rfl, rfl⟩ rfl ?_
    refine wi_iconst (n := 0) (nx := 152) (r1 := 0) (r2 := 0) (r3 := 0) rfl ?_
    refine wi_aload_n (i := 0) (x := 170) (nx := 153) (r1 := 0) (r2 := 0) (r3 := 0) rfl rfl ?_
    refine wr_gr (k0 := 170) (x := 180) (nx := 156) (r1 := 4) (r2 := 14) (r3 := 0) rfl rfl (by decide) rfl ⟨rfl, rfl⟩ rfl ?_
    refine wi_iconst (n := 0) (nx := 157) (r1 := 0) (r2 := 0) (r3 := 0) rfl ?_
    refine wi_aload_n (i := 0) (x := 170) (nx := 158) (r1 := 0) (r2 := 0) (r3 := 0) rfl rfl ?_
    refine wr_gr (k0 := 170) (x := 180) (nx := 161) (r1 := 4) (r2 := 14) (r3 := 0) rfl rfl (by decide) rfl ⟨rfl, rfl⟩ rfl ?_
    refine wr_al (k0 := 180) (e := 144) (nx := 162) (r1 := 0) (r2 := 0) (r3 := 0) rfl (by decide) rfl rfl ?_
    refine wr_cpy (s0 := 28) (d0 := 180) (n0 := 144) (n1 := 144) (sp := 0) (dp := 0) (n := 144) (sl := -2147483648) (sh := 2147483647) (dl := -2147483648) (dh := 2147483647) (nx := 165) (r1 := 0) (r2 := 101) (r3 := 0) rfl rfl (of_decide_eq_true rfl) (by decide) (by decide) rfl rfl (by omega) (fun _ => rfl) (fun _ => rfl) (by omega) g34 (fun h36 g36 y36 u36 => ?_)
    have F37 := F35.then rfl u36
    refine wi_aload_n (i := 0) (x := 170) (nx := 166) (r1 := 0) (r2 := 0) (r3 := 0) rfl rfl ?_
    refine wi_aload_n (i := 1) (x := 18) (nx := 167) (r1 := 0) (r2 := 0) (r3 := 0) rfl rfl ?_
    have b38 := gi_b (lo := 0) (hi := 36) g 18 15 rfl
    refine wr_gi0 (k0 := 18) (x := h 18 15) (nx := 170) (r1 := 4) (r2 := 15) (r3 := 0) rfl rfl (by decide) rfl ⟨rfl, rfl⟩ rfl ((u36 18 15 rfl).trans ((u34 18 15 rfl).trans ((u31 18 15 rfl).trans ((u28 18 15 rfl).trans ((u25 18 15 rfl).trans ((u22 18 15 rfl).trans ((u19 18 15 rfl).trans ((u16 18 15 rfl).trans ((u13 18 15 rfl).trans ((u11 18 15 rfl).trans ((u9 18 15 rfl).trans ((u6 18 15 rfl).trans ((u3 18 15 rfl).trans (u1 18 15 rfl)))))))))))))) ?_
    refine wr_pf0 (k0 := 170) (x := h 18 15) (bl := 0) (bh := 36) (nx := 173) (r1 := 4) (r2 := 15) (r3 := 0) rfl (by decide) rfl ⟨rfl, rfl⟩ rfl rfl g36 rfl (by omega) (fun h39 g39 w39 u39 => ?_)
    have F40 := F37.then rfl u39
    refine wi_aload_n (i := 0) (x := 170) (nx := 174) (r1 := 0) (r2 := 0) (r3 := 0) rfl rfl ?_
    refine wi_dup (nx := 175) (r1 := 0) (r2 := 0) (r3 := 0) rfl rfl ?_
    have b41 := gi_b (lo := -2147483648) (hi := 2147483647) g 170 16 rfl
    refine wr_gi0 (k0 := 170) (x := h 170 16) (nx := 178) (r1 := 4) (r2 := 16) (r3 := 0) rfl rfl (by decide) rfl ⟨rfl, rfl⟩ rfl ((u39 170 16 rfl).trans ((u36 170 16 rfl).trans ((u34 170 16 rfl).trans ((u31 170 16 rfl).trans ((u28 170 16 rfl).trans ((u25 170 16 rfl).trans ((u22 170 16 rfl).trans ((u19 170 16 rfl).trans ((u16 170 16 rfl).trans ((u13 170 16 rfl).trans ((u11 170 16 rfl).trans ((u9 170 16 rfl).trans ((u6 170 16 rfl).trans ((u3 170 16 rfl).trans (u1 170 16 rfl))))))))))))))) ?_
    refine wi_iconst (n := 1) (nx := 179) (r1 := 0) (r2 := 0) (r3 := 0) rfl ?_
    refine wr_addW (nx := 180) (r1 := 0) (r2 := 0) (r3 := 0) rfl (fun e42 (fe42 : -2147483648 ≤ e42 ∧ e42 ≤ 2147483647) => ?_)
    refine wr_pf0 (k0 := 170) (x := e42) (bl := -2147483648) (bh := 2147483647) (nx := 183) (r1 := 4) (r2 := 16) (r3 := 0) rfl (by decide) rfl ⟨rfl, rfl⟩ rfl rfl g39 rfl (by omega) (fun h43 g43 w43 u43 => ?_)
    have F44 := F40.then rfl u43
    refine wi_return (nx := 184) (r1 := 0) (r2 := 0) (r3 := 0) rfl rfl ?_
    exact k h43 g43 F44 (fun q e => (((u43 171 q (fn_a (by omega) fn_0)).trans ((u39 171 q (fn_a (by omega) fn_0)).trans ((u36 171 q (fn_a (by omega) fn_0)).trans ((u34 171 q (fn_a (by omega) fn_0)).trans ((u31 171 q (fn_a (by omega) fn_0)).trans ((u28 171 q (fn_a (by omega) fn_0)).trans ((u25 171 q (fn_a (by omega) fn_0)).trans ((u22 171 q (fn_a (by omega) fn_0)).trans ((u19 171 q (fn_a (by omega) fn_0)).trans ((u16 171 q (fn_a (by omega) fn_0)).trans ((u13 171 q (fn_a (by omega) fn_0)).trans ((u11 171 q (fn_a (by omega) fn_0)).trans ((u9 171 q (fn_a (by omega) fn_0)).trans ((u6 171 q (fn_a (by omega) fn_0)).trans (u3 171 q (fn_a (by omega) fn_0)))))))))))))))).trans (cy_0 y1 (by omega))))
  ·
    refine wi_aload_n (i := 0) (x := 170) (nx := 38) (r1 := 0) (r2 := 0) (r3 := 0) rfl rfl ?_
    refine wr_gr (k0 := 170) (x := 173) (nx := 41) (r1 := 4) (r2 := 3) (r3 := 0) rfl rfl (by decide) rfl ⟨rfl, rfl⟩ rfl ?_
    refine wi_iload_n (i := 2) (e := x5) (nx := 42) (r1 := 0) (r2 := 0) (r3 := 0) rfl rfl ?_
    obtain ⟨i9, ei9⟩ : ∃ q : Nat, x5 = (q : Int) := ⟨(x5).toNat, by omega⟩
    refine wr_aa (k0 := 173) (a := x5) (f := i9) (x := 173 + 8 + 2 * i9) (nx := 43) (r1 := 0) (r2 := 0) (r3 := 0) rfl (by decide) rfl (Or.inl rfl) (by omega) (by omega) (by decide) (hcr.1 173 (by decide) i9 (by omega)) ?_
    obtain ⟨k10, kk10, mk10⟩ : ∃ q, Rw q ∧ q = 173 + 8 + 2 * i9 := ⟨_, rw_lane 173 (by decide) i9 (by omega), rfl⟩
    rw [← mk10]
    refine wi_aload_n (i := 1) (x := 18) (nx := 44) (r1 := 0) (r2 := 0) (r3 := 0) rfl rfl ?_
    refine wr_gr (k0 := 18) (x := 21) (nx := 47) (r1 := 4) (r2 := 3) (r3 := 0) rfl rfl (by decide) rfl ⟨rfl, rfl⟩ rfl ?_
    refine wi_iload_n (i := 2) (e := x5) (nx := 48) (r1 := 0) (r2 := 0) (r3 := 0) rfl rfl ?_
    refine wr_aa (k0 := 21) (a := x5) (f := i9) (x := 21 + 8 + 2 * i9) (nx := 49) (r1 := 0) (r2 := 0) (r3 := 0) rfl (by decide) rfl (Or.inl rfl) (by omega) (by omega) (by decide) (hcr.1 21 (by decide) i9 (by omega)) ?_
    obtain ⟨k11, kk11, mk11⟩ : ∃ q, Rw q ∧ q = 21 + 8 + 2 * i9 := ⟨_, rw_lane 21 (by decide) i9 (by omega), rfl⟩
    rw [← mk11]
    refine wr_V (k0 := k10) (rest := []) (as := [.ref k10, .ref k11]) (nx := 52) (r1 := 96) (r2 := 1) (r3 := 5) rfl rfl rfl (of_decide_eq_true rfl) rfl rfl kk10.k kk10.1 rfl (of_decide_eq_true rfl) (of_decide_eq_true rfl) ?_
    refine ct_96_R_R hcr kk10 kk11 g6    (fun h12 g12 u12 => ?_)
    have v12 := FR.rngp (lo := 181) (hi := 188) u12 (by omega)
    have F13 := F7.then rfl (FR.rngp (lo := 181) (hi := 188) u12 (by omega))
    have F14 := u6.then rfl (FR.rngp (lo := 181) (hi := 188) u12 (by omega))
    refine wk_n ?_
    refine wr_iinc (i := 2) (n := 1) (v := x5) (fun e15 => [(2, vi e15), (0, .ref 170), (1, .ref 18)]) (nx := 55) (r1 := 0) (r2 := 0) (r3 := 0) rfl rfl (fun _ => rfl) (fun e15 (fe15 : e15 = x5 + 1) => ?_)
    refine wi_goto (nx := 58) (r1 := 32) (r2 := 0) (r3 := 0) rfl ?_
    refine wp.lo (lo := [(0, .ref 170), (1, .ref 18), (2, vi e15)]) ⟨rfl, rfl, rfl, trivial⟩ rfl ?_
    exact I6 e15 h12 ⟨g12, F13, F14, (show (0 ≤ e15 ∧ e15 ≤ 4) by omega)⟩ (show ((4 : Int) + 1 - e15).toNat < ((4 : Int) + 1 - x5).toNat by omega)
-- method 74: Line.copyFrom(LPaintBank$Line;)V
set_option maxRecDepth 100000 in
set_option maxHeartbeats 100000000 in
theorem ct_74_189_18 {L : Nat} {xs : Nat → Int32} {d b c : Nat} {h : hp} {cr : Nat → Nat → Option Nat} {Q : hp_Q} (hcr : CR cr)  (g : GI h)    (k : ∀ (h2 : hp) , GI h2 → FR [(189, 207, none)] h h2 → (∀ i : Nat, i < 12 → h2 190 i = h 19 i) → Q (.inl none) (hp_w h2 cr) b c) : wp (md_xa (L, xs)) (d + 1) 74 (0, [(0, .ref 189), (1, .ref 18)], [], hp_w h cr, b, c) Q := by
  have F0 : FR [(189, 207, none)] h h := FR.refl
  refine wi_aload_n (i := 1) (x := 18) (nx := 1) (r1 := 0) (r2 := 0) (r3 := 0) rfl rfl ?_
  refine wr_gr (k0 := 18) (x := 19) (nx := 4) (r1 := 4) (r2 := 1) (r3 := 0) rfl rfl (by decide) rfl ⟨rfl, rfl⟩ rfl ?_
  refine wi_iconst (n := 0) (nx := 5) (r1 := 0) (r2 := 0) (r3 := 0) rfl ?_
  refine wi_aload_n (i := 0) (x := 189) (nx := 6) (r1 := 0) (r2 := 0) (r3 := 0) rfl rfl ?_
  refine wr_gr (k0 := 189) (x := 190) (nx := 9) (r1 := 4) (r2 := 1) (r3 := 0) rfl rfl (by decide) rfl ⟨rfl, rfl⟩ rfl ?_
  refine wi_iconst (n := 0) (nx := 10) (r1 := 0) (r2 := 0) (r3 := 0) rfl ?_
  refine wi_bipush (n := 12) (nx := 12) (r1 := 0) (r2 := 0) (r3 := 0) rfl (by decide) ?_
  refine wr_cpy (s0 := 19) (d0 := 190) (n0 := 12) (n1 := 12) (sp := 0) (dp := 0) (n := 12) (sl := -2147483648) (sh := 2147483647) (dl := -2147483648) (dh := 2147483647) (nx := 15) (r1 := 0) (r2 := 101) (r3 := 0) rfl rfl (of_decide_eq_true rfl) (by decide) (by decide) rfl rfl (by omega) (fun _ => rfl) (fun _ => rfl) (by omega) g (fun h1 g1 y1 u1 => ?_)
  have F2 := F0.then rfl u1
  refine wi_aload_n (i := 1) (x := 18) (nx := 16) (r1 := 0) (r2 := 0) (r3 := 0) rfl rfl ?_
  refine wr_gr (k0 := 18) (x := 20) (nx := 19) (r1 := 4) (r2 := 2) (r3 := 0) rfl rfl (by decide) rfl ⟨rfl, rfl⟩ rfl ?_
  refine wi_iconst (n := 0) (nx := 20) (r1 := 0) (r2 := 0) (r3 := 0) rfl ?_
  refine wi_aload_n (i := 0) (x := 189) (nx := 21) (r1 := 0) (r2 := 0) (r3 := 0) rfl rfl ?_
  refine wr_gr (k0 := 189) (x := 191) (nx := 24) (r1 := 4) (r2 := 2) (r3 := 0) rfl rfl (by decide) rfl ⟨rfl, rfl⟩ rfl ?_
  refine wi_iconst (n := 0) (nx := 25) (r1 := 0) (r2 := 0) (r3 := 0) rfl ?_
  refine wi_bipush (n := 12) (nx := 27) (r1 := 0) (r2 := 0) (r3 := 0) rfl (by decide) ?_
  refine wr_cpy (s0 := 20) (d0 := 191) (n0 := 12) (n1 := 12) (sp := 0) (dp := 0) (n := 12) (sl := -2147483648) (sh := 2147483647) (dl := -2147483648) (dh := 2147483647) (nx := 30) (r1 := 0) (r2 := 101) (r3 := 0) rfl rfl (of_decide_eq_true rfl) (by decide) (by decide) rfl rfl (by omega) (fun _ => rfl) (fun _ => rfl) (by omega) g1 (fun h3 g3 y3 u3 => ?_)
  have F4 := F2.then rfl u3
  refine wi_iconst (n := 0) (nx := 31) (r1 := 0) (r2 := 0) (r3 := 0) rfl ?_
  refine wi_istore_n (i := 2) (e := 0) (lo2 := [(2, vi 0), (0, .ref 189), (1, .ref 18)]) (nx := 32) (r1 := 0) (r2 := 0) (r3 := 0) rfl rfl ?_
  refine wp.lo (lo := [(0, .ref 189), (1, .ref 18), (2, vi 0)]) ⟨rfl, rfl, rfl, trivial⟩ rfl ?_
  refine wl_1 (fun x5 h6 => GI h6 ∧ FR [(189, 207, none)] h h6 ∧ FR [(200, 207, none)] h3 h6 ∧ ((0 ≤ x5 ∧ x5 ≤ 4))) (fun x5 h6 => ((4 : Int) + 1 - x5).toNat) (fun x5 h6 => (32, [(0, .ref 189), (1, .ref 18), (2, vi x5)], [], hp_w h6 cr, b, c)) ?_ 0 h3 ⟨g3, F4, FR.refl, (show (0 ≤ 0 ∧ 0 ≤ 4) by omega)⟩
  intro x5 h6 ⟨g6, F7, u6, f6⟩ I6
  refine wi_iload_n (i := 2) (e := x5) (nx := 33) (r1 := 0) (r2 := 0) (r3 := 0) rfl rfl ?_
  refine wi_iconst (n := 4) (nx := 34) (r1 := 0) (r2 := 0) (r3 := 0) rfl ?_
  refine wi_icmp (cd := .ge) (nx := 37) (r1 := 58) (r2 := 0) (r3 := 0) rfl (by omega) (by omega) (fun (q8 : 4 ≤ x5) => ?_) (fun (q8 : ¬ (4 ≤ x5)) => ?_)
  ·
    refine wi_aload_n (i := 0) (x := 189) (nx := 59) (r1 := 0) (r2 := 0) (r3 := 0) rfl rfl ?_
    refine wr_gr (k0 := 189) (x := 193) (nx := 62) (r1 := 4) (r2 := 4) (r3 := 0) rfl rfl (by decide) rfl ⟨rfl, rfl⟩ rfl ?_
    refine wi_aload_n (i := 1) (x := 18) (nx := 63) (r1 := 0) (r2 := 0) (r3 := 0) rfl rfl ?_
    refine wr_gr (k0 := 18) (x := 22) (nx := 66) (r1 := 4) (r2 := 4) (r3 := 0) rfl rfl (by decide) rfl ⟨rfl, rfl⟩ rfl ?_
    refine wr_V (k0 := 193) (rest := []) (as := [.ref 193, .ref 22]) (nx := 69) (r1 := 96) (r2 := 1) (r3 := 5) rfl rfl rfl (of_decide_eq_true rfl) rfl rfl (by decide) rfl rfl (of_decide_eq_true rfl) (of_decide_eq_true rfl) ?_
    refine ct_96_R_R hcr rw_193 rw_22 g6    (fun h9 g9 u9 => ?_)
    have F10 := F7.then rfl u9
    refine wk_n ?_
    refine wi_aload_n (i := 0) (x := 189) (nx := 70) (r1 := 0) (r2 := 0) (r3 := 0) rfl rfl ?_
    refine wr_gr (k0 := 189) (x := 195) (nx := 73) (r1 := 4) (r2 := 5) (r3 := 0) rfl rfl (by decide) rfl ⟨rfl, rfl⟩ rfl ?_
    refine wi_aload_n (i := 1) (x := 18) (nx := 74) (r1 := 0) (r2 := 0) (r3 := 0) rfl rfl ?_
    refine wr_gr (k0 := 18) (x := 24) (nx := 77) (r1 := 4) (r2 := 5) (r3 := 0) rfl rfl (by decide) rfl ⟨rfl, rfl⟩ rfl ?_
    refine wr_V (k0 := 195) (rest := []) (as := [.ref 195, .ref 24]) (nx := 80) (r1 := 96) (r2 := 1) (r3 := 5) rfl rfl rfl (of_decide_eq_true rfl) rfl rfl (by decide) rfl rfl (of_decide_eq_true rfl) (of_decide_eq_true rfl) ?_
    refine ct_96_R_R hcr rw_195 rw_24 g9    (fun h11 g11 u11 => ?_)
    have F12 := F10.then rfl u11
    refine wk_n ?_
    refine wi_aload_n (i := 0) (x := 189) (nx := 81) (r1 := 0) (r2 := 0) (r3 := 0) rfl rfl ?_
    refine wr_gr (k0 := 189) (x := 197) (nx := 84) (r1 := 4) (r2 := 6) (r3 := 0) rfl rfl (by decide) rfl ⟨rfl, rfl⟩ rfl ?_
    refine wi_aload_n (i := 1) (x := 18) (nx := 85) (r1 := 0) (r2 := 0) (r3 := 0) rfl rfl ?_
    refine wr_gr (k0 := 18) (x := 26) (nx := 88) (r1 := 4) (r2 := 6) (r3 := 0) rfl rfl (by decide) rfl ⟨rfl, rfl⟩ rfl ?_
    refine wr_V (k0 := 197) (rest := []) (as := [.ref 197, .ref 26]) (nx := 91) (r1 := 96) (r2 := 1) (r3 := 5) rfl rfl rfl (of_decide_eq_true rfl) rfl rfl (by decide) rfl rfl (of_decide_eq_true rfl) (of_decide_eq_true rfl) ?_
    refine ct_96_R_R hcr rw_197 rw_26 g11    (fun h13 g13 u13 => ?_)
    have F14 := F12.then rfl u13
    refine wk_n ?_
    refine wi_aload_n (i := 0) (x := 189) (nx := 92) (r1 := 0) (r2 := 0) (r3 := 0) rfl rfl ?_
    refine wi_aload_n (i := 1) (x := 18) (nx := 93) (r1 := 0) (r2 := 0) (r3 := 0) rfl rfl ?_
    have b15 := gi_b (lo := 0) (hi := 12) g 18 7 rfl
    refine wr_gi0 (k0 := 18) (x := h 18 7) (nx := 96) (r1 := 4) (r2 := 7) (r3 := 0) rfl rfl (by decide) rfl ⟨rfl, rfl⟩ rfl ((u13 18 7 rfl).trans ((u11 18 7 rfl).trans ((u9 18 7 rfl).trans ((u6 18 7 rfl).trans ((u3 18 7 rfl).trans (u1 18 7 rfl)))))) ?_
    refine wr_pf0 (k0 := 189) (x := h 18 7) (bl := 0) (bh := 12) (nx := 99) (r1 := 4) (r2 := 7) (r3 := 0) rfl (by decide) rfl ⟨rfl, rfl⟩ rfl rfl g13 rfl (by omega) (fun h16 g16 w16 u16 => ?_)
    have F17 := F14.then rfl u16
    refine wi_aload_n (i := 0) (x := 189) (nx := 100) (r1 := 0) (r2 := 0) (r3 := 0) rfl rfl ?_
    refine wi_aload_n (i := 1) (x := 18) (nx := 101) (r1 := 0) (r2 := 0) (r3 := 0) rfl rfl ?_
    have b18 := gi_b (lo := -2147483648) (hi := 2147483647) g 18 8 rfl
    refine wr_gi0 (k0 := 18) (x := h 18 8) (nx := 104) (r1 := 4) (r2 := 8) (r3 := 0) rfl rfl (by decide) rfl ⟨rfl, rfl⟩ rfl ((u16 18 8 rfl).trans ((u13 18 8 rfl).trans ((u11 18 8 rfl).trans ((u9 18 8 rfl).trans ((u6 18 8 rfl).trans ((u3 18 8 rfl).trans (u1 18 8 rfl))))))) ?_
    refine wr_pf0 (k0 := 189) (x := h 18 8) (bl := -2147483648) (bh := 2147483647) (nx := 107) (r1 := 4) (r2 := 8) (r3 := 0) rfl (by decide) rfl ⟨rfl, rfl⟩ rfl rfl g16 rfl (by omega) (fun h19 g19 w19 u19 => ?_)
    have F20 := F17.then rfl u19
    refine wi_aload_n (i := 0) (x := 189) (nx := 108) (r1 := 0) (r2 := 0) (r3 := 0) rfl rfl ?_
    refine wi_aload_n (i := 1) (x := 18) (nx := 109) (r1 := 0) (r2 := 0) (r3 := 0) rfl rfl ?_
    have b21 := gi_b (lo := -2147483648) (hi := 2147483647) g 18 9 rfl
    refine wr_gi0 (k0 := 18) (x := h 18 9) (nx := 112) (r1 := 4) (r2 := 9) (r3 := 0) rfl rfl (by decide) rfl ⟨rfl, rfl⟩ rfl ((u19 18 9 rfl).trans ((u16 18 9 rfl).trans ((u13 18 9 rfl).trans ((u11 18 9 rfl).trans ((u9 18 9 rfl).trans ((u6 18 9 rfl).trans ((u3 18 9 rfl).trans (u1 18 9 rfl)))))))) ?_
    refine wr_pf0 (k0 := 189) (x := h 18 9) (bl := -2147483648) (bh := 2147483647) (nx := 115) (r1 := 4) (r2 := 9) (r3 := 0) rfl (by decide) rfl ⟨rfl, rfl⟩ rfl rfl g19 rfl (by omega) (fun h22 g22 w22 u22 => ?_)
    have F23 := F20.then rfl u22
    refine wi_aload_n (i := 0) (x := 189) (nx := 116) (r1 := 0) (r2 := 0) (r3 := 0) rfl rfl ?_
    refine wi_aload_n (i := 1) (x := 18) (nx := 117) (r1 := 0) (r2 := 0) (r3 := 0) rfl rfl ?_
    have b24 := gi_b (lo := -2147483648) (hi := 2147483647) g 18 10 rfl
    refine wr_gi0 (k0 := 18) (x := h 18 10) (nx := 120) (r1 := 4) (r2 := 10) (r3 := 0) rfl rfl (by decide) rfl ⟨rfl, rfl⟩ rfl ((u22 18 10 rfl).trans ((u19 18 10 rfl).trans ((u16 18 10 rfl).trans ((u13 18 10 rfl).trans ((u11 18 10 rfl).trans ((u9 18 10 rfl).trans ((u6 18 10 rfl).trans ((u3 18 10 rfl).trans (u1 18 10 rfl))))))))) ?_
    refine wr_pf0 (k0 := 189) (x := h 18 10) (bl := -2147483648) (bh := 2147483647) (nx := 123) (r1 := 4) (r2 := 10) (r3 := 0) rfl (by decide) rfl ⟨rfl, rfl⟩ rfl rfl g22 rfl (by omega) (fun h25 g25 w25 u25 => ?_)
    have F26 := F23.then rfl u25
    refine wi_aload_n (i := 0) (x := 189) (nx := 124) (r1 := 0) (r2 := 0) (r3 := 0) rfl rfl ?_
    refine wi_aload_n (i := 1) (x := 18) (nx := 125) (r1 := 0) (r2 := 0) (r3 := 0) rfl rfl ?_
    have b27 := gi_b (lo := -2147483648) (hi := 2147483647) g 18 11 rfl
    refine wr_gi0 (k0 := 18) (x := h 18 11) (nx := 128) (r1 := 4) (r2 := 11) (r3 := 0) rfl rfl (by decide) rfl ⟨rfl, rfl⟩ rfl ((u25 18 11 rfl).trans ((u22 18 11 rfl).trans ((u19 18 11 rfl).trans ((u16 18 11 rfl).trans ((u13 18 11 rfl).trans ((u11 18 11 rfl).trans ((u9 18 11 rfl).trans ((u6 18 11 rfl).trans ((u3 18 11 rfl).trans (u1 18 11 rfl)))))))))) ?_
    refine wr_pf0 (k0 := 189) (x := h 18 11) (bl := -2147483648) (bh := 2147483647) (nx := 131) (r1 := 4) (r2 := 11) (r3 := 0) rfl (by decide) rfl ⟨rfl, rfl⟩ rfl rfl g25 rfl (by omega) (fun h28 g28 w28 u28 => ?_)
    have F29 := F26.then rfl u28
    refine wi_aload_n (i := 0) (x := 189) (nx := 132) (r1 := 0) (r2 := 0) (r3 := 0) rfl rfl ?_
    refine wi_aload_n (i := 1) (x := 18) (nx := 133) (r1 := 0) (r2 := 0) (r3 := 0) rfl rfl ?_
    have b30 := gi_b (lo := -2147483648) (hi := 2147483647) g 18 12 rfl
    refine wr_gi0 (k0 := 18) (x := h 18 12) (nx := 136) (r1 := 4) (r2 := 12) (r3 := 0) rfl rfl (by decide) rfl ⟨rfl, rfl⟩ rfl ((u28 18 12 rfl).trans ((u25 18 12 rfl).trans ((u22 18 12 rfl).trans ((u19 18 12 rfl).trans ((u16 18 12 rfl).trans ((u13 18 12 rfl).trans ((u11 18 12 rfl).trans ((u9 18 12 rfl).trans ((u6 18 12 rfl).trans ((u3 18 12 rfl).trans (u1 18 12 rfl))))))))))) ?_
    refine wr_pf0 (k0 := 189) (x := h 18 12) (bl := -2147483648) (bh := 2147483647) (nx := 139) (r1 := 4) (r2 := 12) (r3 := 0) rfl (by decide) rfl ⟨rfl, rfl⟩ rfl rfl g28 rfl (by omega) (fun h31 g31 w31 u31 => ?_)
    have F32 := F29.then rfl u31
    refine wi_aload_n (i := 0) (x := 189) (nx := 140) (r1 := 0) (r2 := 0) (r3 := 0) rfl rfl ?_
    refine wi_aload_n (i := 1) (x := 18) (nx := 141) (r1 := 0) (r2 := 0) (r3 := 0) rfl rfl ?_
    have b33 := gi_b (lo := -2147483648) (hi := 2147483647) g 18 13 rfl
    refine wr_gi0 (k0 := 18) (x := h 18 13) (nx := 144) (r1 := 4) (r2 := 13) (r3 := 0) rfl rfl (by decide) rfl ⟨rfl, rfl⟩ rfl ((u31 18 13 rfl).trans ((u28 18 13 rfl).trans ((u25 18 13 rfl).trans ((u22 18 13 rfl).trans ((u19 18 13 rfl).trans ((u16 18 13 rfl).trans ((u13 18 13 rfl).trans ((u11 18 13 rfl).trans ((u9 18 13 rfl).trans ((u6 18 13 rfl).trans ((u3 18 13 rfl).trans (u1 18 13 rfl)))))))))))) ?_
    refine wr_pf0 (k0 := 189) (x := h 18 13) (bl := -2147483648) (bh := 2147483647) (nx := 147) (r1 := 4) (r2 := 13) (r3 := 0) rfl (by decide) rfl ⟨rfl, rfl⟩ rfl rfl g31 rfl (by omega) (fun h34 g34 w34 u34 => ?_)
    have F35 := F32.then rfl u34
    refine wi_aload_n (i := 1) (x := 18) (nx := 148) (r1 := 0) (r2 := 0) (r3 := 0) rfl rfl ?_
    refine wr_gr (k0 := 18) (x := 28) (nx := 151) (r1 := 4) (r2 := 14) (r3 := 0) rfl rfl (by decide) rfl ⟨rfl, rfl⟩ rfl ?_
    refine wi_iconst (n := 0) (nx := 152) (r1 := 0) (r2 := 0) (r3 := 0) rfl ?_
    refine wi_aload_n (i := 0) (x := 189) (nx := 153) (r1 := 0) (r2 := 0) (r3 := 0) rfl rfl ?_
    refine wr_gr (k0 := 189) (x := 199) (nx := 156) (r1 := 4) (r2 := 14) (r3 := 0) rfl rfl (by decide) rfl ⟨rfl, rfl⟩ rfl ?_
    refine wi_iconst (n := 0) (nx := 157) (r1 := 0) (r2 := 0) (r3 := 0) rfl ?_
    refine wi_aload_n (i := 0) (x := 189) (nx := 158) (r1 := 0) (r2 := 0) (r3 := 0) rfl rfl ?_
    refine wr_gr (k0 := 189) (x := 199) (nx := 161) (r1 := 4) (r2 := 14) (r3 := 0) rfl rfl (by decide) rfl ⟨rfl, rfl⟩ rfl ?_
    refine wr_al (k0 := 199) (e := 144) (nx := 162) (r1 := 0) (r2 := 0) (r3 := 0) rfl (by decide) rfl rfl ?_
    refine wr_cpy (s0 := 28) (d0 := 199) (n0 := 144) (n1 := 144) (sp := 0) (dp := 0) (n := 144) (sl := -2147483648) (sh := 2147483647) (dl := -2147483648) (dh := 2147483647) (nx := 165) (r1 := 0) (r2 := 101) (r3 := 0) rfl rfl (of_decide_eq_true rfl) (by decide) (by decide) rfl rfl (by omega) (fun _ => rfl) (fun _ => rfl) (by omega) g34 (fun h36 g36 y36 u36 => ?_)
    have F37 := F35.then rfl u36
    refine wi_aload_n (i := 0) (x := 189) (nx := 166) (r1 := 0) (r2 := 0) (r3 := 0) rfl rfl ?_
    refine wi_aload_n (i := 1) (x := 18) (nx := 167) (r1 := 0) (r2 := 0) (r3 := 0) rfl rfl ?_
    have b38 := gi_b (lo := 0) (hi := 36) g 18 15 rfl
    refine wr_gi0 (k0 := 18) (x := h 18 15) (nx := 170) (r1 := 4) (r2 := 15) (r3 := 0) rfl rfl (by decide) rfl ⟨rfl, rfl⟩ rfl ((u36 18 15 rfl).trans ((u34 18 15 rfl).trans ((u31 18 15 rfl).trans ((u28 18 15 rfl).trans ((u25 18 15 rfl).trans ((u22 18 15 rfl).trans ((u19 18 15 rfl).trans ((u16 18 15 rfl).trans ((u13 18 15 rfl).trans ((u11 18 15 rfl).trans ((u9 18 15 rfl).trans ((u6 18 15 rfl).trans ((u3 18 15 rfl).trans (u1 18 15 rfl)))))))))))))) ?_
    refine wr_pf0 (k0 := 189) (x := h 18 15) (bl := 0) (bh := 36) (nx := 173) (r1 := 4) (r2 := 15) (r3 := 0) rfl (by decide) rfl ⟨rfl, rfl⟩ rfl rfl g36 rfl (by omega) (fun h39 g39 w39 u39 => ?_)
    have F40 := F37.then rfl u39
    refine wi_aload_n (i := 0) (x := 189) (nx := 174) (r1 := 0) (r2 := 0) (r3 := 0) rfl rfl ?_
    refine wi_dup (nx := 175) (r1 := 0) (r2 := 0) (r3 := 0) rfl rfl ?_
    have b41 := gi_b (lo := -2147483648) (hi := 2147483647) g 189 16 rfl
    refine wr_gi0 (k0 := 189) (x := h 189 16) (nx := 178) (r1 := 4) (r2 := 16) (r3 := 0) rfl rfl (by decide) rfl ⟨rfl, rfl⟩ rfl ((u39 189 16 rfl).trans ((u36 189 16 rfl).trans ((u34 189 16 rfl).trans ((u31 189 16 rfl).trans ((u28 189 16 rfl).trans ((u25 189 16 rfl).trans ((u22 189 16 rfl).trans ((u19 189 16 rfl).trans ((u16 189 16 rfl).trans ((u13 189 16 rfl).trans ((u11 189 16 rfl).trans ((u9 189 16 rfl).trans ((u6 189 16 rfl).trans ((u3 189 16 rfl).trans (u1 189 16 rfl))))))))))))))) ?_
    refine wi_iconst (n := 1) (nx := 179) (r1 := 0) (r2 := 0) (r3 := 0) rfl ?_
    refine wr_addW (nx := 180) (r1 := 0) (r2 := 0) (r3 := 0) rfl (fun e42 (fe42 : -2147483648 ≤ e42 ∧ e42 ≤ 2147483647) => ?_)
    refine wr_pf0 (k0 := 189) (x := e42) (bl := -2147483648) (bh := 2147483647) (nx := 183) (r1 := 4) (r2 := 16) (r3 := 0) rfl (by decide) rfl ⟨rfl, rfl⟩ rfl rfl g39 rfl (by omega) (fun h43 g43 w43 u43 => ?_)
    have F44 := F40.then rfl u43
    refine wi_return (nx := 184) (r1 := 0) (r2 := 0) (r3 := 0) rfl rfl ?_
    exact k h43 g43 F44 (fun q e => (((u43 190 q (fn_a (by omega) fn_0)).trans ((u39 190 q (fn_a (by omega) fn_0)).trans ((u36 190 q (fn_a (by omega) fn_0)).trans ((u34 190 q (fn_a (by omega) fn_0)).trans ((u31 190 q (fn_a (by omega) fn_0)).trans ((u28 190 q (fn_a (by omega) fn_0)).trans ((u25 190 q (fn_a (by omega) fn_0)).trans ((u22 190 q (fn_a (by omega) fn_0)).trans ((u19 190 q (fn_a (by omega) fn_0)).trans ((u16 190 q (fn_a (by omega) fn_0)).trans ((u13 190 q (fn_a (by omega) fn_0)).trans ((u11 190 q (fn_a (by omega) fn_0)).trans ((u9 190 q (fn_a (by omega) fn_0)).trans ((u6 190 q (fn_a (by omega) fn_0)).trans (u3 190 q (fn_a (by omega) fn_0)))))))))))))))).trans (cy_0 y1 (by omega))))
  ·
    refine wi_aload_n (i := 0) (x := 189) (nx := 38) (r1 := 0) (r2 := 0) (r3 := 0) rfl rfl ?_
    refine wr_gr (k0 := 189) (x := 192) (nx := 41) (r1 := 4) (r2 := 3) (r3 := 0) rfl rfl (by decide) rfl ⟨rfl, rfl⟩ rfl ?_
    refine wi_iload_n (i := 2) (e := x5) (nx := 42) (r1 := 0) (r2 := 0) (r3 := 0) rfl rfl ?_
    obtain ⟨i9, ei9⟩ : ∃ q : Nat, x5 = (q : Int) := ⟨(x5).toNat, by omega⟩
    refine wr_aa (k0 := 192) (a := x5) (f := i9) (x := 192 + 8 + 2 * i9) (nx := 43) (r1 := 0) (r2 := 0) (r3 := 0) rfl (by decide) rfl (Or.inl rfl) (by omega) (by omega) (by decide) (hcr.1 192 (by decide) i9 (by omega)) ?_
    obtain ⟨k10, kk10, mk10⟩ : ∃ q, Rw q ∧ q = 192 + 8 + 2 * i9 := ⟨_, rw_lane 192 (by decide) i9 (by omega), rfl⟩
    rw [← mk10]
    refine wi_aload_n (i := 1) (x := 18) (nx := 44) (r1 := 0) (r2 := 0) (r3 := 0) rfl rfl ?_
    refine wr_gr (k0 := 18) (x := 21) (nx := 47) (r1 := 4) (r2 := 3) (r3 := 0) rfl rfl (by decide) rfl ⟨rfl, rfl⟩ rfl ?_
    refine wi_iload_n (i := 2) (e := x5) (nx := 48) (r1 := 0) (r2 := 0) (r3 := 0) rfl rfl ?_
    refine wr_aa (k0 := 21) (a := x5) (f := i9) (x := 21 + 8 + 2 * i9) (nx := 49) (r1 := 0) (r2 := 0) (r3 := 0) rfl (by decide) rfl (Or.inl rfl) (by omega) (by omega) (by decide) (hcr.1 21 (by decide) i9 (by omega)) ?_
    obtain ⟨k11, kk11, mk11⟩ : ∃ q, Rw q ∧ q = 21 + 8 + 2 * i9 := ⟨_, rw_lane 21 (by decide) i9 (by omega), rfl⟩
    rw [← mk11]
    refine wr_V (k0 := k10) (rest := []) (as := [.ref k10, .ref k11]) (nx := 52) (r1 := 96) (r2 := 1) (r3 := 5) rfl rfl rfl (of_decide_eq_true rfl) rfl rfl kk10.k kk10.1 rfl (of_decide_eq_true rfl) (of_decide_eq_true rfl) ?_
    refine ct_96_R_R hcr kk10 kk11 g6    (fun h12 g12 u12 => ?_)
    have v12 := FR.rngp (lo := 200) (hi := 207) u12 (by omega)
    have F13 := F7.then rfl (FR.rngp (lo := 200) (hi := 207) u12 (by omega))
    have F14 := u6.then rfl (FR.rngp (lo := 200) (hi := 207) u12 (by omega))
    refine wk_n ?_
    refine wr_iinc (i := 2) (n := 1) (v := x5) (fun e15 => [(2, vi e15), (0, .ref 189), (1, .ref 18)]) (nx := 55) (r1 := 0) (r2 := 0) (r3 := 0) rfl rfl (fun _ => rfl) (fun e15 (fe15 : e15 = x5 + 1) => ?_)
    refine wi_goto (nx := 58) (r1 := 32) (r2 := 0) (r3 := 0) rfl ?_
    refine wp.lo (lo := [(0, .ref 189), (1, .ref 18), (2, vi e15)]) ⟨rfl, rfl, rfl, trivial⟩ rfl ?_
    exact I6 e15 h12 ⟨g12, F13, F14, (show (0 ≤ e15 ∧ e15 ≤ 4) by omega)⟩ (show ((4 : Int) + 1 - e15).toNat < ((4 : Int) + 1 - x5).toNat by omega)
-- method 124: History.draft(LPaintBank$Line;)V
set_option maxRecDepth 100000 in
set_option maxHeartbeats 100000000 in
theorem ct_124_73_18 {L : Nat} {xs : Nat → Int32} {d b c : Nat} {h : hp} {cr : Nat → Nat → Option Nat} {Q : hp_Q} (hcr : CR cr)  (g : GI h)    (xq0 : MSL h 18) (xq1 : HIv h) (k : ∀ (h2 : hp) , GI h2 → FR [(75, 93, none), (94, 112, none), (113, 131, none), (132, 150, none), (151, 169, none), (170, 188, none), (189, 207, none)] h h2 → (HIn h2) → Q (.inl none) (hp_w h2 cr) b c) : wp (md_xa (L, xs)) (d + 2) 124 (0, [(0, .ref 73), (1, .ref 18)], [], hp_w h cr, b, c) Q := by
  have F0 : FR [(75, 93, none), (94, 112, none), (113, 131, none), (132, 150, none), (151, 169, none), (170, 188, none), (189, 207, none)] h h := FR.refl
  refine wi_aload_n (i := 0) (x := 73) (nx := 1) (r1 := 0) (r2 := 0) (r3 := 0) rfl rfl ?_
  refine wr_gr (k0 := 73) (x := 74) (nx := 4) (r1 := 9) (r2 := 0) (r3 := 0) rfl rfl (by decide) rfl ⟨rfl, rfl⟩ rfl ?_
  refine wi_aload_n (i := 0) (x := 73) (nx := 5) (r1 := 0) (r2 := 0) (r3 := 0) rfl rfl ?_
  have b1 := gi_b (lo := 0) (hi := 6) g 73 1 rfl
  refine wr_gi0 (k0 := 73) (x := h 73 1) (nx := 8) (r1 := 9) (r2 := 1) (r3 := 0) rfl rfl (by decide) rfl ⟨rfl, rfl⟩ rfl rfl ?_
  obtain ⟨i2, ei2⟩ : ∃ q : Nat, (h 73 1) = (q : Int) := ⟨(h 73 1).toNat, by omega⟩
  rcases (show (h 73 1) = 0 ∨ (h 73 1) = 1 ∨ (h 73 1) = 2 ∨ (h 73 1) = 3 ∨ (h 73 1) = 4 ∨ (h 73 1) = 5 ∨ (h 73 1) = 6 by omega) with q3 | q3 | q3 | q3 | q3 | q3 | q3
  ·
    refine wr_aa (k0 := 74) (a := h 73 1) (f := 0) (x := 75) (nx := 9) (r1 := 0) (r2 := 0) (r3 := 0) rfl (by decide) rfl (Or.inr rfl) (by omega) (by decide) (by decide) (hcr.2 0 (by decide)) ?_
    refine wi_aload_n (i := 1) (x := 18) (nx := 10) (r1 := 0) (r2 := 0) (r3 := 0) rfl rfl ?_
    refine wr_V (k0 := 75) (rest := []) (as := [.ref 75, .ref 18]) (nx := 13) (r1 := 74) (r2 := 1) (r3 := 4) rfl rfl rfl (of_decide_eq_true rfl) rfl rfl (by decide) rfl rfl (of_decide_eq_true rfl) (of_decide_eq_true rfl) ?_
    refine ct_74_75_18 hcr  g    (fun h4 g4 u4 y4_0 => ?_)
    have F5 := F0.then (by decide +kernel) u4
    refine wk_n ?_
    refine wi_return (nx := 14) (r1 := 0) (r2 := 0) (r3 := 0) rfl rfl ?_
    have q6 : h4 8 = h 8 := funext (fun i => (u4 8 i (fo_no_ok (by decide) i)))
    have q7 : h4 7 = h 7 := funext (fun i => (u4 7 i (fo_no_ok (by decide) i)))
    have b8 := gi_b (lo := 0) (hi := 12) g 3 2 rfl
    have e9 : h4 3 2 = h 3 2 := (u4 3 2 rfl)
    have e10 : h4 73 1 = h 73 1 := (u4 73 1 rfl)
    have b11 := gi_b (lo := 0) (hi := 6) g 73 2 rfl
    have e12 : h4 73 2 = h 73 2 := (u4 73 2 rfl)
    exact k h4 g4 F5 (fun x hx hw => by
        rcases (show x = 0 ∨ x = 1 ∨ x = 2 ∨ x = 3 ∨ x = 4 ∨ x = 5 ∨ x = 6 by omega) with rfl | rfl | rfl | rfl | rfl | rfl | rfl
        · exact MSL.mv xq0 (L2 := 75) q6 q7 (by omega) (by omega) (fun i hi => (y4_0 i hi))
        · exact MSL.mv (xq1 1 (by decide) (by unfold hv at *; omega)) (L2 := 94) q6 q7 (by omega) (by omega) (fun i hi => (u4 95 i (fn_a (by omega) fn_0)))
        · exact MSL.mv (xq1 2 (by decide) (by unfold hv at *; omega)) (L2 := 113) q6 q7 (by omega) (by omega) (fun i hi => (u4 114 i (fn_a (by omega) fn_0)))
        · exact MSL.mv (xq1 3 (by decide) (by unfold hv at *; omega)) (L2 := 132) q6 q7 (by omega) (by omega) (fun i hi => (u4 133 i (fn_a (by omega) fn_0)))
        · exact MSL.mv (xq1 4 (by decide) (by unfold hv at *; omega)) (L2 := 151) q6 q7 (by omega) (by omega) (fun i hi => (u4 152 i (fn_a (by omega) fn_0)))
        · exact MSL.mv (xq1 5 (by decide) (by unfold hv at *; omega)) (L2 := 170) q6 q7 (by omega) (by omega) (fun i hi => (u4 171 i (fn_a (by omega) fn_0)))
        · exact MSL.mv (xq1 6 (by decide) (by unfold hv at *; omega)) (L2 := 189) q6 q7 (by omega) (by omega) (fun i hi => (u4 190 i (fn_a (by omega) fn_0))))
  ·
    refine wr_aa (k0 := 74) (a := h 73 1) (f := 1) (x := 94) (nx := 9) (r1 := 0) (r2 := 0) (r3 := 0) rfl (by decide) rfl (Or.inr rfl) (by omega) (by decide) (by decide) (hcr.2 1 (by decide)) ?_
    refine wi_aload_n (i := 1) (x := 18) (nx := 10) (r1 := 0) (r2 := 0) (r3 := 0) rfl rfl ?_
    refine wr_V (k0 := 94) (rest := []) (as := [.ref 94, .ref 18]) (nx := 13) (r1 := 74) (r2 := 1) (r3 := 4) rfl rfl rfl (of_decide_eq_true rfl) rfl rfl (by decide) rfl rfl (of_decide_eq_true rfl) (of_decide_eq_true rfl) ?_
    refine ct_74_94_18 hcr  g    (fun h4 g4 u4 y4_0 => ?_)
    have F5 := F0.then (by decide +kernel) u4
    refine wk_n ?_
    refine wi_return (nx := 14) (r1 := 0) (r2 := 0) (r3 := 0) rfl rfl ?_
    have q6 : h4 8 = h 8 := funext (fun i => (u4 8 i (fo_no_ok (by decide) i)))
    have q7 : h4 7 = h 7 := funext (fun i => (u4 7 i (fo_no_ok (by decide) i)))
    have b8 := gi_b (lo := 0) (hi := 12) g 3 2 rfl
    have e9 : h4 3 2 = h 3 2 := (u4 3 2 rfl)
    have e10 : h4 73 1 = h 73 1 := (u4 73 1 rfl)
    have b11 := gi_b (lo := 0) (hi := 6) g 73 2 rfl
    have e12 : h4 73 2 = h 73 2 := (u4 73 2 rfl)
    exact k h4 g4 F5 (fun x hx hw => by
        rcases (show x = 0 ∨ x = 1 ∨ x = 2 ∨ x = 3 ∨ x = 4 ∨ x = 5 ∨ x = 6 by omega) with rfl | rfl | rfl | rfl | rfl | rfl | rfl
        · exact MSL.mv (xq1 0 (by decide) (by unfold hv at *; omega)) (L2 := 75) q6 q7 (by omega) (by omega) (fun i hi => (u4 76 i (fn_a (by omega) fn_0)))
        · exact MSL.mv xq0 (L2 := 94) q6 q7 (by omega) (by omega) (fun i hi => (y4_0 i hi))
        · exact MSL.mv (xq1 2 (by decide) (by unfold hv at *; omega)) (L2 := 113) q6 q7 (by omega) (by omega) (fun i hi => (u4 114 i (fn_a (by omega) fn_0)))
        · exact MSL.mv (xq1 3 (by decide) (by unfold hv at *; omega)) (L2 := 132) q6 q7 (by omega) (by omega) (fun i hi => (u4 133 i (fn_a (by omega) fn_0)))
        · exact MSL.mv (xq1 4 (by decide) (by unfold hv at *; omega)) (L2 := 151) q6 q7 (by omega) (by omega) (fun i hi => (u4 152 i (fn_a (by omega) fn_0)))
        · exact MSL.mv (xq1 5 (by decide) (by unfold hv at *; omega)) (L2 := 170) q6 q7 (by omega) (by omega) (fun i hi => (u4 171 i (fn_a (by omega) fn_0)))
        · exact MSL.mv (xq1 6 (by decide) (by unfold hv at *; omega)) (L2 := 189) q6 q7 (by omega) (by omega) (fun i hi => (u4 190 i (fn_a (by omega) fn_0))))
  ·
    refine wr_aa (k0 := 74) (a := h 73 1) (f := 2) (x := 113) (nx := 9) (r1 := 0) (r2 := 0) (r3 := 0) rfl (by decide) rfl (Or.inr rfl) (by omega) (by decide) (by decide) (hcr.2 2 (by decide)) ?_
    refine wi_aload_n (i := 1) (x := 18) (nx := 10) (r1 := 0) (r2 := 0) (r3 := 0) rfl rfl ?_
    refine wr_V (k0 := 113) (rest := []) (as := [.ref 113, .ref 18]) (nx := 13) (r1 := 74) (r2 := 1) (r3 := 4) rfl rfl rfl (of_decide_eq_true rfl) rfl rfl (by decide) rfl rfl (of_decide_eq_true rfl) (of_decide_eq_true rfl) ?_
    refine ct_74_113_18 hcr  g    (fun h4 g4 u4 y4_0 => ?_)
    have F5 := F0.then (by decide +kernel) u4
    refine wk_n ?_
    refine wi_return (nx := 14) (r1 := 0) (r2 := 0) (r3 := 0) rfl rfl ?_
    have q6 : h4 8 = h 8 := funext (fun i => (u4 8 i (fo_no_ok (by decide) i)))
    have q7 : h4 7 = h 7 := funext (fun i => (u4 7 i (fo_no_ok (by decide) i)))
    have b8 := gi_b (lo := 0) (hi := 12) g 3 2 rfl
    have e9 : h4 3 2 = h 3 2 := (u4 3 2 rfl)
    have e10 : h4 73 1 = h 73 1 := (u4 73 1 rfl)
    have b11 := gi_b (lo := 0) (hi := 6) g 73 2 rfl
    have e12 : h4 73 2 = h 73 2 := (u4 73 2 rfl)
    exact k h4 g4 F5 (fun x hx hw => by
        rcases (show x = 0 ∨ x = 1 ∨ x = 2 ∨ x = 3 ∨ x = 4 ∨ x = 5 ∨ x = 6 by omega) with rfl | rfl | rfl | rfl | rfl | rfl | rfl
        · exact MSL.mv (xq1 0 (by decide) (by unfold hv at *; omega)) (L2 := 75) q6 q7 (by omega) (by omega) (fun i hi => (u4 76 i (fn_a (by omega) fn_0)))
        · exact MSL.mv (xq1 1 (by decide) (by unfold hv at *; omega)) (L2 := 94) q6 q7 (by omega) (by omega) (fun i hi => (u4 95 i (fn_a (by omega) fn_0)))
        · exact MSL.mv xq0 (L2 := 113) q6 q7 (by omega) (by omega) (fun i hi => (y4_0 i hi))
        · exact MSL.mv (xq1 3 (by decide) (by unfold hv at *; omega)) (L2 := 132) q6 q7 (by omega) (by omega) (fun i hi => (u4 133 i (fn_a (by omega) fn_0)))
        · exact MSL.mv (xq1 4 (by decide) (by unfold hv at *; omega)) (L2 := 151) q6 q7 (by omega) (by omega) (fun i hi => (u4 152 i (fn_a (by omega) fn_0)))
        · exact MSL.mv (xq1 5 (by decide) (by unfold hv at *; omega)) (L2 := 170) q6 q7 (by omega) (by omega) (fun i hi => (u4 171 i (fn_a (by omega) fn_0)))
        · exact MSL.mv (xq1 6 (by decide) (by unfold hv at *; omega)) (L2 := 189) q6 q7 (by omega) (by omega) (fun i hi => (u4 190 i (fn_a (by omega) fn_0))))
  ·
    refine wr_aa (k0 := 74) (a := h 73 1) (f := 3) (x := 132) (nx := 9) (r1 := 0) (r2 := 0) (r3 := 0) rfl (by decide) rfl (Or.inr rfl) (by omega) (by decide) (by decide) (hcr.2 3 (by decide)) ?_
    refine wi_aload_n (i := 1) (x := 18) (nx := 10) (r1 := 0) (r2 := 0) (r3 := 0) rfl rfl ?_
    refine wr_V (k0 := 132) (rest := []) (as := [.ref 132, .ref 18]) (nx := 13) (r1 := 74) (r2 := 1) (r3 := 4) rfl rfl rfl (of_decide_eq_true rfl) rfl rfl (by decide) rfl rfl (of_decide_eq_true rfl) (of_decide_eq_true rfl) ?_
    refine ct_74_132_18 hcr  g    (fun h4 g4 u4 y4_0 => ?_)
    have F5 := F0.then (by decide +kernel) u4
    refine wk_n ?_
    refine wi_return (nx := 14) (r1 := 0) (r2 := 0) (r3 := 0) rfl rfl ?_
    have q6 : h4 8 = h 8 := funext (fun i => (u4 8 i (fo_no_ok (by decide) i)))
    have q7 : h4 7 = h 7 := funext (fun i => (u4 7 i (fo_no_ok (by decide) i)))
    have b8 := gi_b (lo := 0) (hi := 12) g 3 2 rfl
    have e9 : h4 3 2 = h 3 2 := (u4 3 2 rfl)
    have e10 : h4 73 1 = h 73 1 := (u4 73 1 rfl)
    have b11 := gi_b (lo := 0) (hi := 6) g 73 2 rfl
    have e12 : h4 73 2 = h 73 2 := (u4 73 2 rfl)
    exact k h4 g4 F5 (fun x hx hw => by
        rcases (show x = 0 ∨ x = 1 ∨ x = 2 ∨ x = 3 ∨ x = 4 ∨ x = 5 ∨ x = 6 by omega) with rfl | rfl | rfl | rfl | rfl | rfl | rfl
        · exact MSL.mv (xq1 0 (by decide) (by unfold hv at *; omega)) (L2 := 75) q6 q7 (by omega) (by omega) (fun i hi => (u4 76 i (fn_a (by omega) fn_0)))
        · exact MSL.mv (xq1 1 (by decide) (by unfold hv at *; omega)) (L2 := 94) q6 q7 (by omega) (by omega) (fun i hi => (u4 95 i (fn_a (by omega) fn_0)))
        · exact MSL.mv (xq1 2 (by decide) (by unfold hv at *; omega)) (L2 := 113) q6 q7 (by omega) (by omega) (fun i hi => (u4 114 i (fn_a (by omega) fn_0)))
        · exact MSL.mv xq0 (L2 := 132) q6 q7 (by omega) (by omega) (fun i hi => (y4_0 i hi))
        · exact MSL.mv (xq1 4 (by decide) (by unfold hv at *; omega)) (L2 := 151) q6 q7 (by omega) (by omega) (fun i hi => (u4 152 i (fn_a (by omega) fn_0)))
        · exact MSL.mv (xq1 5 (by decide) (by unfold hv at *; omega)) (L2 := 170) q6 q7 (by omega) (by omega) (fun i hi => (u4 171 i (fn_a (by omega) fn_0)))
        · exact MSL.mv (xq1 6 (by decide) (by unfold hv at *; omega)) (L2 := 189) q6 q7 (by omega) (by omega) (fun i hi => (u4 190 i (fn_a (by omega) fn_0))))
  ·
    refine wr_aa (k0 := 74) (a := h 73 1) (f := 4) (x := 151) (nx := 9) (r1 := 0) (r2 := 0) (r3 := 0) rfl (by decide) rfl (Or.inr rfl) (by omega) (by decide) (by decide) (hcr.2 4 (by decide)) ?_
    refine wi_aload_n (i := 1) (x := 18) (nx := 10) (r1 := 0) (r2 := 0) (r3 := 0) rfl rfl ?_
    refine wr_V (k0 := 151) (rest := []) (as := [.ref 151, .ref 18]) (nx := 13) (r1 := 74) (r2 := 1) (r3 := 4) rfl rfl rfl (of_decide_eq_true rfl) rfl rfl (by decide) rfl rfl (of_decide_eq_true rfl) (of_decide_eq_true rfl) ?_
    refine ct_74_151_18 hcr  g    (fun h4 g4 u4 y4_0 => ?_)
    have F5 := F0.then (by decide +kernel) u4
    refine wk_n ?_
    refine wi_return (nx := 14) (r1 := 0) (r2 := 0) (r3 := 0) rfl rfl ?_
    have q6 : h4 8 = h 8 := funext (fun i => (u4 8 i (fo_no_ok (by decide) i)))
    have q7 : h4 7 = h 7 := funext (fun i => (u4 7 i (fo_no_ok (by decide) i)))
    have b8 := gi_b (lo := 0) (hi := 12) g 3 2 rfl
    have e9 : h4 3 2 = h 3 2 := (u4 3 2 rfl)
    have e10 : h4 73 1 = h 73 1 := (u4 73 1 rfl)
    have b11 := gi_b (lo := 0) (hi := 6) g 73 2 rfl
    have e12 : h4 73 2 = h 73 2 := (u4 73 2 rfl)
    exact k h4 g4 F5 (fun x hx hw => by
        rcases (show x = 0 ∨ x = 1 ∨ x = 2 ∨ x = 3 ∨ x = 4 ∨ x = 5 ∨ x = 6 by omega) with rfl | rfl | rfl | rfl | rfl | rfl | rfl
        · exact MSL.mv (xq1 0 (by decide) (by unfold hv at *; omega)) (L2 := 75) q6 q7 (by omega) (by omega) (fun i hi => (u4 76 i (fn_a (by omega) fn_0)))
        · exact MSL.mv (xq1 1 (by decide) (by unfold hv at *; omega)) (L2 := 94) q6 q7 (by omega) (by omega) (fun i hi => (u4 95 i (fn_a (by omega) fn_0)))
        · exact MSL.mv (xq1 2 (by decide) (by unfold hv at *; omega)) (L2 := 113) q6 q7 (by omega) (by omega) (fun i hi => (u4 114 i (fn_a (by omega) fn_0)))
        · exact MSL.mv (xq1 3 (by decide) (by unfold hv at *; omega)) (L2 := 132) q6 q7 (by omega) (by omega) (fun i hi => (u4 133 i (fn_a (by omega) fn_0)))
        · exact MSL.mv xq0 (L2 := 151) q6 q7 (by omega) (by omega) (fun i hi => (y4_0 i hi))
        · exact MSL.mv (xq1 5 (by decide) (by unfold hv at *; omega)) (L2 := 170) q6 q7 (by omega) (by omega) (fun i hi => (u4 171 i (fn_a (by omega) fn_0)))
        · exact MSL.mv (xq1 6 (by decide) (by unfold hv at *; omega)) (L2 := 189) q6 q7 (by omega) (by omega) (fun i hi => (u4 190 i (fn_a (by omega) fn_0))))
  ·
    refine wr_aa (k0 := 74) (a := h 73 1) (f := 5) (x := 170) (nx := 9) (r1 := 0) (r2 := 0) (r3 := 0) rfl (by decide) rfl (Or.inr rfl) (by omega) (by decide) (by decide) (hcr.2 5 (by decide)) ?_
    refine wi_aload_n (i := 1) (x := 18) (nx := 10) (r1 := 0) (r2 := 0) (r3 := 0) rfl rfl ?_
    refine wr_V (k0 := 170) (rest := []) (as := [.ref 170, .ref 18]) (nx := 13) (r1 := 74) (r2 := 1) (r3 := 4) rfl rfl rfl (of_decide_eq_true rfl) rfl rfl (by decide) rfl rfl (of_decide_eq_true rfl) (of_decide_eq_true rfl) ?_
    refine ct_74_170_18 hcr  g    (fun h4 g4 u4 y4_0 => ?_)
    have F5 := F0.then (by decide +kernel) u4
    refine wk_n ?_
    refine wi_return (nx := 14) (r1 := 0) (r2 := 0) (r3 := 0) rfl rfl ?_
    have q6 : h4 8 = h 8 := funext (fun i => (u4 8 i (fo_no_ok (by decide) i)))
    have q7 : h4 7 = h 7 := funext (fun i => (u4 7 i (fo_no_ok (by decide) i)))
    have b8 := gi_b (lo := 0) (hi := 12) g 3 2 rfl
    have e9 : h4 3 2 = h 3 2 := (u4 3 2 rfl)
    have e10 : h4 73 1 = h 73 1 := (u4 73 1 rfl)
    have b11 := gi_b (lo := 0) (hi := 6) g 73 2 rfl
    have e12 : h4 73 2 = h 73 2 := (u4 73 2 rfl)
    exact k h4 g4 F5 (fun x hx hw => by
        rcases (show x = 0 ∨ x = 1 ∨ x = 2 ∨ x = 3 ∨ x = 4 ∨ x = 5 ∨ x = 6 by omega) with rfl | rfl | rfl | rfl | rfl | rfl | rfl
        · exact MSL.mv (xq1 0 (by decide) (by unfold hv at *; omega)) (L2 := 75) q6 q7 (by omega) (by omega) (fun i hi => (u4 76 i (fn_a (by omega) fn_0)))
        · exact MSL.mv (xq1 1 (by decide) (by unfold hv at *; omega)) (L2 := 94) q6 q7 (by omega) (by omega) (fun i hi => (u4 95 i (fn_a (by omega) fn_0)))
        · exact MSL.mv (xq1 2 (by decide) (by unfold hv at *; omega)) (L2 := 113) q6 q7 (by omega) (by omega) (fun i hi => (u4 114 i (fn_a (by omega) fn_0)))
        · exact MSL.mv (xq1 3 (by decide) (by unfold hv at *; omega)) (L2 := 132) q6 q7 (by omega) (by omega) (fun i hi => (u4 133 i (fn_a (by omega) fn_0)))
        · exact MSL.mv (xq1 4 (by decide) (by unfold hv at *; omega)) (L2 := 151) q6 q7 (by omega) (by omega) (fun i hi => (u4 152 i (fn_a (by omega) fn_0)))
        · exact MSL.mv xq0 (L2 := 170) q6 q7 (by omega) (by omega) (fun i hi => (y4_0 i hi))
        · exact MSL.mv (xq1 6 (by decide) (by unfold hv at *; omega)) (L2 := 189) q6 q7 (by omega) (by omega) (fun i hi => (u4 190 i (fn_a (by omega) fn_0))))
  ·
    refine wr_aa (k0 := 74) (a := h 73 1) (f := 6) (x := 189) (nx := 9) (r1 := 0) (r2 := 0) (r3 := 0) rfl (by decide) rfl (Or.inr rfl) (by omega) (by decide) (by decide) (hcr.2 6 (by decide)) ?_
    refine wi_aload_n (i := 1) (x := 18) (nx := 10) (r1 := 0) (r2 := 0) (r3 := 0) rfl rfl ?_
    refine wr_V (k0 := 189) (rest := []) (as := [.ref 189, .ref 18]) (nx := 13) (r1 := 74) (r2 := 1) (r3 := 4) rfl rfl rfl (of_decide_eq_true rfl) rfl rfl (by decide) rfl rfl (of_decide_eq_true rfl) (of_decide_eq_true rfl) ?_
    refine ct_74_189_18 hcr  g    (fun h4 g4 u4 y4_0 => ?_)
    have F5 := F0.then (by decide +kernel) u4
    refine wk_n ?_
    refine wi_return (nx := 14) (r1 := 0) (r2 := 0) (r3 := 0) rfl rfl ?_
    have q6 : h4 8 = h 8 := funext (fun i => (u4 8 i (fo_no_ok (by decide) i)))
    have q7 : h4 7 = h 7 := funext (fun i => (u4 7 i (fo_no_ok (by decide) i)))
    have b8 := gi_b (lo := 0) (hi := 12) g 3 2 rfl
    have e9 : h4 3 2 = h 3 2 := (u4 3 2 rfl)
    have e10 : h4 73 1 = h 73 1 := (u4 73 1 rfl)
    have b11 := gi_b (lo := 0) (hi := 6) g 73 2 rfl
    have e12 : h4 73 2 = h 73 2 := (u4 73 2 rfl)
    exact k h4 g4 F5 (fun x hx hw => by
        rcases (show x = 0 ∨ x = 1 ∨ x = 2 ∨ x = 3 ∨ x = 4 ∨ x = 5 ∨ x = 6 by omega) with rfl | rfl | rfl | rfl | rfl | rfl | rfl
        · exact MSL.mv (xq1 0 (by decide) (by unfold hv at *; omega)) (L2 := 75) q6 q7 (by omega) (by omega) (fun i hi => (u4 76 i (fn_a (by omega) fn_0)))
        · exact MSL.mv (xq1 1 (by decide) (by unfold hv at *; omega)) (L2 := 94) q6 q7 (by omega) (by omega) (fun i hi => (u4 95 i (fn_a (by omega) fn_0)))
        · exact MSL.mv (xq1 2 (by decide) (by unfold hv at *; omega)) (L2 := 113) q6 q7 (by omega) (by omega) (fun i hi => (u4 114 i (fn_a (by omega) fn_0)))
        · exact MSL.mv (xq1 3 (by decide) (by unfold hv at *; omega)) (L2 := 132) q6 q7 (by omega) (by omega) (fun i hi => (u4 133 i (fn_a (by omega) fn_0)))
        · exact MSL.mv (xq1 4 (by decide) (by unfold hv at *; omega)) (L2 := 151) q6 q7 (by omega) (by omega) (fun i hi => (u4 152 i (fn_a (by omega) fn_0)))
        · exact MSL.mv (xq1 5 (by decide) (by unfold hv at *; omega)) (L2 := 170) q6 q7 (by omega) (by omega) (fun i hi => (u4 171 i (fn_a (by omega) fn_0)))
        · exact MSL.mv xq0 (L2 := 189) q6 q7 (by omega) (by omega) (fun i hi => (y4_0 i hi)))
-- method 76: Line.firstIsReady()Z
set_option maxRecDepth 100000 in
set_option maxHeartbeats 100000000 in
theorem ct_76_18 {L : Nat} {xs : Nat → Int32} {d b c : Nat} {h : hp} {cr : Nat → Nat → Option Nat} {Q : hp_Q} (hcr : CR cr)  (g : GI h)    (k : ∀ (z0 : Int), (0 ≤ z0 ∧ z0 ≤ 1) → Q (.inl (some (vi z0))) (hp_w h cr) b c) : wp (md_xa (L, xs)) (d + 1) 76 (0, [(0, .ref 18)], [], hp_w h cr, b, c) Q := by
  have F0 : FR [] h h := FR.refl
  refine wi_aload_n (i := 0) (x := 18) (nx := 1) (r1 := 0) (r2 := 0) (r3 := 0) rfl rfl ?_
  refine wr_gr (k0 := 18) (x := 22) (nx := 4) (r1 := 4) (r2 := 4) (r3 := 0) rfl rfl (by decide) rfl ⟨rfl, rfl⟩ rfl ?_
  have b1 := gi_b (lo := 0) (hi := 12) g 22 1 rfl
  refine wr_gi0 (k0 := 22) (x := h 22 1) (nx := 7) (r1 := 5) (r2 := 1) (r3 := 0) rfl rfl (by decide) rfl ⟨rfl, rfl⟩ rfl rfl ?_
  refine wi_if (cd := .le) (nx := 10) (r1 := 29) (r2 := 0) (r3 := 0) rfl (by omega) (fun (q2 : (h 22 1) ≤ 0) => ?_) (fun (q2 : ¬ ((h 22 1) ≤ 0)) => ?_)
  ·
    refine wi_iconst (n := 0) (nx := 30) (r1 := 0) (r2 := 0) (r3 := 0) rfl ?_
    refine wi_zreturn (nx := 31) (r1 := 0) (r2 := 0) (r3 := 0) rfl rfl (by omega) ?_
    exact k 0 (by omega)
  ·
    refine wi_aload_n (i := 0) (x := 18) (nx := 11) (r1 := 0) (r2 := 0) (r3 := 0) rfl rfl ?_
    have b3 := gi_b (lo := -2147483648) (hi := 2147483647) g 18 10 rfl
    refine wr_gi0 (k0 := 18) (x := h 18 10) (nx := 14) (r1 := 4) (r2 := 10) (r3 := 0) rfl rfl (by decide) rfl ⟨rfl, rfl⟩ rfl rfl ?_
    refine wi_aload_n (i := 0) (x := 18) (nx := 15) (r1 := 0) (r2 := 0) (r3 := 0) rfl rfl ?_
    refine wr_gr (k0 := 18) (x := 24) (nx := 18) (r1 := 4) (r2 := 5) (r3 := 0) rfl rfl (by decide) rfl ⟨rfl, rfl⟩ rfl ?_
    refine wi_iconst (n := 0) (nx := 19) (r1 := 0) (r2 := 0) (r3 := 0) rfl ?_
    refine wr_V (k0 := 24) (rest := [vi (h 18 10)]) (as := [.ref 24, vi 0]) (nx := 22) (r1 := 95) (r2 := 1) (r3 := 5) rfl rfl rfl (of_decide_eq_true rfl) rfl rfl (by decide) rfl rfl (of_decide_eq_true rfl) (of_decide_eq_true rfl) ?_
    refine ct_95_R hcr rw_24 g 0 (by omega)  (fun z5  (fz5 : -2147483648 ≤ z5 ∧ z5 ≤ 2147483647) => ?_)
    refine wk_i ?_
    refine wi_icmp (cd := .lt) (nx := 25) (r1 := 29) (r2 := 0) (r3 := 0) rfl (by omega) (by omega) (fun (q6 : (h 18 10) < z5) => ?_) (fun (q6 : ¬ ((h 18 10) < z5)) => ?_)
    ·
      refine wi_iconst (n := 0) (nx := 30) (r1 := 0) (r2 := 0) (r3 := 0) rfl ?_
      refine wi_zreturn (nx := 31) (r1 := 0) (r2 := 0) (r3 := 0) rfl rfl (by omega) ?_
      exact k 0 (by omega)
    ·
      refine wi_iconst (n := 1) (nx := 26) (r1 := 0) (r2 := 0) (r3 := 0) rfl ?_
      refine wi_goto (nx := 29) (r1 := 30) (r2 := 0) (r3 := 0) rfl ?_
      refine wi_zreturn (nx := 31) (r1 := 0) (r2 := 0) (r3 := 0) rfl rfl (by omega) ?_
      exact k 1 (by omega)
-- method 83: Line.mayLeave(I)Z
set_option maxRecDepth 100000 in
set_option maxHeartbeats 100000000 in
theorem ct_83_18 {L : Nat} {xs : Nat → Int32} {d b c : Nat} {h : hp} {cr : Nat → Nat → Option Nat} {Q : hp_Q} (hcr : CR cr)  (g : GI h) (a0 : Int) (q0_ : -2147483648 ≤ a0 ∧ a0 ≤ 2147483647)  (k : ∀ (z0 : Int), (0 ≤ z0 ∧ z0 ≤ 1) → (z0 = 1 → 0 ≤ a0 ∧ a0 ≤ 3) → Q (.inl (some (vi z0))) (hp_w h cr) b c) : wp (md_xa (L, xs)) (d + 1) 83 (0, [(0, .ref 18), (1, vi a0)], [], hp_w h cr, b, c) Q := by
  have F0 : FR [] h h := FR.refl
  refine wi_iload_n (i := 1) (e := a0) (nx := 1) (r1 := 0) (r2 := 0) (r3 := 0) rfl rfl ?_
  refine wi_if (cd := .lt) (nx := 4) (r1 := 25) (r2 := 0) (r3 := 0) rfl (by omega) (fun (q1 : a0 < 0) => ?_) (fun (q1 : ¬ (a0 < 0)) => ?_)
  ·
    refine wi_iconst (n := 0) (nx := 26) (r1 := 0) (r2 := 0) (r3 := 0) rfl ?_
    refine wi_zreturn (nx := 27) (r1 := 0) (r2 := 0) (r3 := 0) rfl rfl (by omega) ?_
    exact k 0 (by omega) (fun _ => by omega)
  ·
    refine wi_iload_n (i := 1) (e := a0) (nx := 5) (r1 := 0) (r2 := 0) (r3 := 0) rfl rfl ?_
    refine wi_aload_n (i := 0) (x := 18) (nx := 6) (r1 := 0) (r2 := 0) (r3 := 0) rfl rfl ?_
    refine wr_gr (k0 := 18) (x := 3) (nx := 9) (r1 := 4) (r2 := 0) (r3 := 0) rfl rfl (by decide) rfl ⟨rfl, rfl⟩ rfl ?_
    have b2 := gi_b (lo := 0) (hi := 4) g 3 1 rfl
    refine wr_gi0 (k0 := 3) (x := h 3 1) (nx := 12) (r1 := 2) (r2 := 1) (r3 := 0) rfl rfl (by decide) rfl ⟨rfl, rfl⟩ rfl rfl ?_
    refine wi_icmp (cd := .ge) (nx := 15) (r1 := 25) (r2 := 0) (r3 := 0) rfl (by omega) (by omega) (fun (q3 : (h 3 1) ≤ a0) => ?_) (fun (q3 : ¬ ((h 3 1) ≤ a0)) => ?_)
    ·
      refine wi_iconst (n := 0) (nx := 26) (r1 := 0) (r2 := 0) (r3 := 0) rfl ?_
      refine wi_zreturn (nx := 27) (r1 := 0) (r2 := 0) (r3 := 0) rfl rfl (by omega) ?_
      exact k 0 (by omega) (fun _ => by omega)
    ·
      refine wi_aload_n (i := 0) (x := 18) (nx := 16) (r1 := 0) (r2 := 0) (r3 := 0) rfl rfl ?_
      have b4 := gi_b (lo := -2147483648) (hi := 2147483647) g 18 10 rfl
      refine wr_gi0 (k0 := 18) (x := h 18 10) (nx := 19) (r1 := 4) (r2 := 10) (r3 := 0) rfl rfl (by decide) rfl ⟨rfl, rfl⟩ rfl rfl ?_
      refine wi_sipush (n := 9999) (nx := 22) (r1 := 0) (r2 := 0) (r3 := 0) rfl (by decide) ?_
      refine wi_icmp (cd := .lt) (nx := 25) (r1 := 27) (r2 := 0) (r3 := 0) rfl (by omega) (by omega) (fun (q5 : (h 18 10) < 9999) => ?_) (fun (q5 : ¬ ((h 18 10) < 9999)) => ?_)
      ·
        refine wi_aload_n (i := 0) (x := 18) (nx := 28) (r1 := 0) (r2 := 0) (r3 := 0) rfl rfl ?_
        refine wr_gr (k0 := 18) (x := 21) (nx := 31) (r1 := 4) (r2 := 3) (r3 := 0) rfl rfl (by decide) rfl ⟨rfl, rfl⟩ rfl ?_
        refine wi_iload_n (i := 1) (e := a0) (nx := 32) (r1 := 0) (r2 := 0) (r3 := 0) rfl rfl ?_
        obtain ⟨i6, ei6⟩ : ∃ q : Nat, a0 = (q : Int) := ⟨(a0).toNat, by omega⟩
        refine wr_aa (k0 := 21) (a := a0) (f := i6) (x := 21 + 8 + 2 * i6) (nx := 33) (r1 := 0) (r2 := 0) (r3 := 0) rfl (by decide) rfl (Or.inl rfl) (by omega) (by omega) (by decide) (hcr.1 21 (by decide) i6 (by omega)) ?_
        obtain ⟨k7, kk7, mk7⟩ : ∃ q, Rw q ∧ q = 21 + 8 + 2 * i6 := ⟨_, rw_lane 21 (by decide) i6 (by omega), rfl⟩
        rw [← mk7]
        refine wi_iconst (n := 0) (nx := 34) (r1 := 0) (r2 := 0) (r3 := 0) rfl ?_
        refine wr_V (k0 := k7) (rest := []) (as := [.ref k7, vi 0]) (nx := 37) (r1 := 95) (r2 := 1) (r3 := 5) rfl rfl rfl (of_decide_eq_true rfl) rfl rfl kk7.k kk7.1 rfl (of_decide_eq_true rfl) (of_decide_eq_true rfl) ?_
        refine ct_95_R hcr kk7 g 0 (by omega)  (fun z9  (fz9 : -2147483648 ≤ z9 ∧ z9 ≤ 2147483647) => ?_)
        refine wk_i ?_
        refine wi_istore_n (i := 2) (e := z9) (lo2 := [(2, vi z9), (0, .ref 18), (1, vi a0)]) (nx := 38) (r1 := 0) (r2 := 0) (r3 := 0) rfl rfl ?_
        refine wi_iload_n (i := 2) (e := z9) (nx := 39) (r1 := 0) (r2 := 0) (r3 := 0) rfl rfl ?_
        refine wi_if (cd := .lt) (nx := 42) (r1 := 48) (r2 := 0) (r3 := 0) rfl (by omega) (fun (q10 : z9 < 0) => ?_) (fun (q10 : ¬ (z9 < 0)) => ?_)
        ·
          refine wi_iconst (n := 0) (nx := 49) (r1 := 0) (r2 := 0) (r3 := 0) rfl ?_
          refine wi_zreturn (nx := 50) (r1 := 0) (r2 := 0) (r3 := 0) rfl rfl (by omega) ?_
          exact k 0 (by omega) (fun _ => by omega)
        ·
          refine wi_iload_n (i := 2) (e := z9) (nx := 43) (r1 := 0) (r2 := 0) (r3 := 0) rfl rfl ?_
          refine wi_bipush (n := 12) (nx := 45) (r1 := 0) (r2 := 0) (r3 := 0) rfl (by decide) ?_
          refine wi_icmp (cd := .lt) (nx := 48) (r1 := 50) (r2 := 0) (r3 := 0) rfl (by omega) (by omega) (fun (q11 : z9 < 12) => ?_) (fun (q11 : ¬ (z9 < 12)) => ?_)
          ·
            refine wi_aload_n (i := 0) (x := 18) (nx := 51) (r1 := 0) (r2 := 0) (r3 := 0) rfl rfl ?_
            refine wr_gr (k0 := 18) (x := 20) (nx := 54) (r1 := 4) (r2 := 2) (r3 := 0) rfl rfl (by decide) rfl ⟨rfl, rfl⟩ rfl ?_
            refine wi_iload_n (i := 2) (e := z9) (nx := 55) (r1 := 0) (r2 := 0) (r3 := 0) rfl rfl ?_
            obtain ⟨i12, ei12⟩ : ∃ q : Nat, z9 = (q : Int) := ⟨(z9).toNat, by omega⟩
            have b13 := gi_b (lo := -2147483648) (hi := 2147483647) g 20 i12 rfl
            refine wr_ia (k0 := 20) (a := z9) (f := i12) (x := h 20 i12) (nx := 56) (r1 := 0) (r2 := 0) (r3 := 0) rfl (by decide) rfl (by omega) (by omega) (by decide) rfl ?_
            refine wi_if (cd := .le) (nx := 59) (r1 := 82) (r2 := 0) (r3 := 0) rfl (by omega) (fun (q14 : (h 20 i12) ≤ 0) => ?_) (fun (q14 : ¬ ((h 20 i12) ≤ 0)) => ?_)
            ·
              refine wi_iload_n (i := 2) (e := z9) (nx := 83) (r1 := 0) (r2 := 0) (r3 := 0) rfl rfl ?_
              refine wi_aload_n (i := 0) (x := 18) (nx := 84) (r1 := 0) (r2 := 0) (r3 := 0) rfl rfl ?_
              refine wr_gr (k0 := 18) (x := 26) (nx := 87) (r1 := 4) (r2 := 6) (r3 := 0) rfl rfl (by decide) rfl ⟨rfl, rfl⟩ rfl ?_
              have b15 := gi_b (lo := 0) (hi := 12) g 26 1 rfl
              refine wr_gi0 (k0 := 26) (x := h 26 1) (nx := 90) (r1 := 5) (r2 := 1) (r3 := 0) rfl rfl (by decide) rfl ⟨rfl, rfl⟩ rfl rfl ?_
              refine wr_sub (nx := 91) (r1 := 0) (r2 := 0) (r3 := 0) rfl (fun e16 (fe16 : e16 = z9 - (h 26 1)) => ?_)
              refine wi_aload_n (i := 0) (x := 18) (nx := 92) (r1 := 0) (r2 := 0) (r3 := 0) rfl rfl ?_
              refine wr_gr (k0 := 18) (x := 3) (nx := 95) (r1 := 4) (r2 := 0) (r3 := 0) rfl rfl (by decide) rfl ⟨rfl, rfl⟩ rfl ?_
              have b17 := gi_b (lo := -2147483648) (hi := 2147483647) g 3 3 rfl
              refine wr_gi0 (k0 := 3) (x := h 3 3) (nx := 98) (r1 := 2) (r2 := 3) (r3 := 0) rfl rfl (by decide) rfl ⟨rfl, rfl⟩ rfl rfl ?_
              refine wi_icmp (cd := .gt) (nx := 101) (r1 := 105) (r2 := 0) (r3 := 0) rfl (by omega) (by omega) (fun (q18 : (h 3 3) < e16) => ?_) (fun (q18 : ¬ ((h 3 3) < e16)) => ?_)
              ·
                refine wi_iconst (n := 0) (nx := 106) (r1 := 0) (r2 := 0) (r3 := 0) rfl ?_
                refine wi_zreturn (nx := 107) (r1 := 0) (r2 := 0) (r3 := 0) rfl rfl (by omega) ?_
                exact k 0 (by omega) (fun _ => by omega)
              ·
                refine wi_iconst (n := 1) (nx := 102) (r1 := 0) (r2 := 0) (r3 := 0) rfl ?_
                refine wi_goto (nx := 105) (r1 := 106) (r2 := 0) (r3 := 0) rfl ?_
                refine wi_zreturn (nx := 107) (r1 := 0) (r2 := 0) (r3 := 0) rfl rfl (by omega) ?_
                exact k 1 (by omega) (fun _ => by omega)
            ·
              refine wi_aload_n (i := 0) (x := 18) (nx := 60) (r1 := 0) (r2 := 0) (r3 := 0) rfl rfl ?_
              refine wr_gr (k0 := 18) (x := 22) (nx := 63) (r1 := 4) (r2 := 4) (r3 := 0) rfl rfl (by decide) rfl ⟨rfl, rfl⟩ rfl ?_
              have b15 := gi_b (lo := 0) (hi := 12) g 22 1 rfl
              refine wr_gi0 (k0 := 22) (x := h 22 1) (nx := 66) (r1 := 5) (r2 := 1) (r3 := 0) rfl rfl (by decide) rfl ⟨rfl, rfl⟩ rfl rfl ?_
              refine wi_aload_n (i := 0) (x := 18) (nx := 67) (r1 := 0) (r2 := 0) (r3 := 0) rfl rfl ?_
              refine wr_gr (k0 := 18) (x := 3) (nx := 70) (r1 := 4) (r2 := 0) (r3 := 0) rfl rfl (by decide) rfl ⟨rfl, rfl⟩ rfl ?_
              have b16 := gi_b (lo := -2147483648) (hi := 2147483647) g 3 7 rfl
              refine wr_gi0 (k0 := 3) (x := h 3 7) (nx := 73) (r1 := 2) (r2 := 7) (r3 := 0) rfl rfl (by decide) rfl ⟨rfl, rfl⟩ rfl rfl ?_
              refine wi_icmp (cd := .ge) (nx := 76) (r1 := 80) (r2 := 0) (r3 := 0) rfl (by omega) (by omega) (fun (q17 : (h 3 7) ≤ (h 22 1)) => ?_) (fun (q17 : ¬ ((h 3 7) ≤ (h 22 1))) => ?_)
              ·
                refine wi_iconst (n := 0) (nx := 81) (r1 := 0) (r2 := 0) (r3 := 0) rfl ?_
                refine wi_zreturn (nx := 82) (r1 := 0) (r2 := 0) (r3 := 0) rfl rfl (by omega) ?_
                exact k 0 (by omega) (fun _ => by omega)
              ·
                refine wi_iconst (n := 1) (nx := 77) (r1 := 0) (r2 := 0) (r3 := 0) rfl ?_
                refine wi_goto (nx := 80) (r1 := 81) (r2 := 0) (r3 := 0) rfl ?_
                refine wi_zreturn (nx := 82) (r1 := 0) (r2 := 0) (r3 := 0) rfl rfl (by omega) ?_
                exact k 1 (by omega) (fun _ => by omega)
          ·
            refine wi_iconst (n := 0) (nx := 49) (r1 := 0) (r2 := 0) (r3 := 0) rfl ?_
            refine wi_zreturn (nx := 50) (r1 := 0) (r2 := 0) (r3 := 0) rfl rfl (by omega) ?_
            exact k 0 (by omega) (fun _ => by omega)
      ·
        refine wi_iconst (n := 0) (nx := 26) (r1 := 0) (r2 := 0) (r3 := 0) rfl ?_
        refine wi_zreturn (nx := 27) (r1 := 0) (r2 := 0) (r3 := 0) rfl rfl (by omega) ?_
        exact k 0 (by omega) (fun _ => by omega)
-- method 82: Line.chosenToLeave()I
set_option maxRecDepth 100000 in
set_option maxHeartbeats 100000000 in
theorem ct_82_18 {L : Nat} {xs : Nat → Int32} {d b c : Nat} {h : hp} {cr : Nat → Nat → Option Nat} {Q : hp_Q} (hcr : CR cr)  (g : GI h)    (k : ∀ (z0 : Int), (-1 ≤ z0 ∧ z0 ≤ 3) → Q (.inl (some (vi z0))) (hp_w h cr) b c) : wp (md_xa (L, xs)) (d + 2) 82 (0, [(0, .ref 18)], [], hp_w h cr, b, c) Q := by
  have F0 : FR [] h h := FR.refl
  refine wi_iconst (n := (-1)) (nx := 1) (r1 := 0) (r2 := 0) (r3 := 0) rfl ?_
  refine wi_istore_n (i := 1) (e := -1) (lo2 := [(1, vi (-1)), (0, .ref 18)]) (nx := 2) (r1 := 0) (r2 := 0) (r3 := 0) rfl rfl ?_
  refine wi_bipush (n := 12) (nx := 4) (r1 := 0) (r2 := 0) (r3 := 0) rfl (by decide) ?_
  refine wi_istore_n (i := 2) (e := 12) (lo2 := [(2, vi 12), (1, vi (-1)), (0, .ref 18)]) (nx := 5) (r1 := 0) (r2 := 0) (r3 := 0) rfl rfl ?_
  refine wi_iconst (n := 0) (nx := 6) (r1 := 0) (r2 := 0) (r3 := 0) rfl ?_
  refine wi_istore_n (i := 3) (e := 0) (lo2 := [(3, vi 0), (2, vi 12), (1, vi (-1)), (0, .ref 18)]) (nx := 7) (r1 := 0) (r2 := 0) (r3 := 0) rfl rfl ?_
  refine wp.lo (lo := [(0, .ref 18), (1, vi (-1)), (2, vi 12), (3, vi 0)]) ⟨rfl, rfl, rfl, rfl, trivial⟩ rfl ?_
  refine wl_3 (fun x1 x2 x3 h4 => h = h4 ∧ ((-1 ≤ x1 ∧ x1 ≤ 3) ∧ (-2147483648 ≤ x2 ∧ x2 ≤ 12) ∧ (0 ≤ x3 ∧ x3 ≤ 4))) (fun x1 x2 x3 h4 => ((4 : Int) + 1 - x3).toNat) (fun x1 x2 x3 h4 => (7, [(0, .ref 18), (1, vi x1), (2, vi x2), (3, vi x3)], [], hp_w h4 cr, b, c)) ?_ (-1) 12 0 h ⟨rfl, (show (-1 ≤ (-1) ∧ (-1) ≤ 3) ∧ (-2147483648 ≤ 12 ∧ 12 ≤ 12) ∧ (0 ≤ 0 ∧ 0 ≤ 4) by omega)⟩
  intro x1 x2 x3 h4 ⟨e4, f4⟩ I4
  subst e4
  refine wi_iload_n (i := 3) (e := x3) (nx := 8) (r1 := 0) (r2 := 0) (r3 := 0) rfl rfl ?_
  refine wi_aload_n (i := 0) (x := 18) (nx := 9) (r1 := 0) (r2 := 0) (r3 := 0) rfl rfl ?_
  refine wr_gr (k0 := 18) (x := 3) (nx := 12) (r1 := 4) (r2 := 0) (r3 := 0) rfl rfl (by decide) rfl ⟨rfl, rfl⟩ rfl ?_
  have b6 := gi_b (lo := 0) (hi := 4) g 3 1 rfl
  refine wr_gi0 (k0 := 3) (x := h 3 1) (nx := 15) (r1 := 2) (r2 := 1) (r3 := 0) rfl rfl (by decide) rfl ⟨rfl, rfl⟩ rfl rfl ?_
  refine wi_icmp (cd := .ge) (nx := 18) (r1 := 70) (r2 := 0) (r3 := 0) rfl (by omega) (by omega) (fun (q7 : (h 3 1) ≤ x3) => ?_) (fun (q7 : ¬ ((h 3 1) ≤ x3)) => ?_)
  ·
    refine wi_iload_n (i := 1) (e := x1) (nx := 71) (r1 := 0) (r2 := 0) (r3 := 0) rfl rfl ?_
    refine wi_ireturn (nx := 72) (r1 := 0) (r2 := 0) (r3 := 0) rfl rfl ?_
    exact k x1 (by omega)
  ·
    refine wi_aload_n (i := 0) (x := 18) (nx := 19) (r1 := 0) (r2 := 0) (r3 := 0) rfl rfl ?_
    refine wi_iload_n (i := 3) (e := x3) (nx := 20) (r1 := 0) (r2 := 0) (r3 := 0) rfl rfl ?_
    refine wr_V (k0 := 18) (rest := []) (as := [.ref 18, vi x3]) (nx := 23) (r1 := 83) (r2 := 1) (r3 := 4) rfl rfl rfl (of_decide_eq_true rfl) rfl rfl (by decide) rfl rfl (of_decide_eq_true rfl) (of_decide_eq_true rfl) ?_
    refine ct_83_18 hcr  g x3 (by omega)  (fun z9  (fz9 : 0 ≤ z9 ∧ z9 ≤ 1) m8_0 => ?_)
    refine wk_i ?_
    refine wi_if (cd := .eq) (nx := 26) (r1 := 64) (r2 := 0) (r3 := 0) rfl (by omega) (fun (q10 : z9 = 0) => ?_) (fun (q10 : ¬ (z9 = 0)) => ?_)
    ·
      refine wr_iinc (i := 3) (n := 1) (v := x3) (fun e11 => [(3, vi e11), (0, .ref 18), (1, vi x1), (2, vi x2)]) (nx := 67) (r1 := 0) (r2 := 0) (r3 := 0) rfl rfl (fun _ => rfl) (fun e11 (fe11 : e11 = x3 + 1) => ?_)
      refine wi_goto (nx := 70) (r1 := 7) (r2 := 0) (r3 := 0) rfl ?_
      refine wp.lo (lo := [(0, .ref 18), (1, vi x1), (2, vi x2), (3, vi e11)]) ⟨rfl, rfl, rfl, rfl, trivial⟩ rfl ?_
      exact I4 x1 x2 e11 h ⟨rfl, (show (-1 ≤ x1 ∧ x1 ≤ 3) ∧ (-2147483648 ≤ x2 ∧ x2 ≤ 12) ∧ (0 ≤ e11 ∧ e11 ≤ 4) by omega)⟩ (show ((4 : Int) + 1 - e11).toNat < ((4 : Int) + 1 - x3).toNat by omega)
    ·
      have f11 : 0 ≤ x3 ∧ x3 ≤ 3 := m8_0 (by omega)
      refine wi_aload_n (i := 0) (x := 18) (nx := 27) (r1 := 0) (r2 := 0) (r3 := 0) rfl rfl ?_
      refine wr_gr (k0 := 18) (x := 21) (nx := 30) (r1 := 4) (r2 := 3) (r3 := 0) rfl rfl (by decide) rfl ⟨rfl, rfl⟩ rfl ?_
      refine wi_iload_n (i := 3) (e := x3) (nx := 31) (r1 := 0) (r2 := 0) (r3 := 0) rfl rfl ?_
      obtain ⟨i12, ei12⟩ : ∃ q : Nat, x3 = (q : Int) := ⟨(x3).toNat, by omega⟩
      refine wr_aa (k0 := 21) (a := x3) (f := i12) (x := 21 + 8 + 2 * i12) (nx := 32) (r1 := 0) (r2 := 0) (r3 := 0) rfl (by decide) rfl (Or.inl rfl) (by omega) (by omega) (by decide) (hcr.1 21 (by decide) i12 (by omega)) ?_
      obtain ⟨k13, kk13, mk13⟩ : ∃ q, Rw q ∧ q = 21 + 8 + 2 * i12 := ⟨_, rw_lane 21 (by decide) i12 (by omega), rfl⟩
      rw [← mk13]
      refine wi_iconst (n := 0) (nx := 33) (r1 := 0) (r2 := 0) (r3 := 0) rfl ?_
      refine wr_V (k0 := k13) (rest := []) (as := [.ref k13, vi 0]) (nx := 36) (r1 := 95) (r2 := 1) (r3 := 5) rfl rfl rfl (of_decide_eq_true rfl) rfl rfl kk13.k kk13.1 rfl (of_decide_eq_true rfl) (of_decide_eq_true rfl) ?_
      refine ct_95_R hcr kk13 g 0 (by omega)  (fun z15  (fz15 : -2147483648 ≤ z15 ∧ z15 ≤ 2147483647) => ?_)
      refine wk_i ?_
      refine wi_istore (i := 4) (e := z15) (lo2 := [(4, vi z15), (0, .ref 18), (1, vi x1), (2, vi x2), (3, vi x3)]) (nx := 38) (r1 := 0) (r2 := 0) (r3 := 0) rfl rfl ?_
      refine wi_aload_n (i := 0) (x := 18) (nx := 39) (r1 := 0) (r2 := 0) (r3 := 0) rfl rfl ?_
      refine wi_iload (i := 4) (e := z15) (nx := 41) (r1 := 0) (r2 := 0) (r3 := 0) rfl rfl ?_
      refine wr_V (k0 := 18) (rest := []) (as := [.ref 18, vi z15]) (nx := 44) (r1 := 79) (r2 := 1) (r3 := 4) rfl rfl rfl (of_decide_eq_true rfl) rfl rfl (by decide) rfl rfl (of_decide_eq_true rfl) (of_decide_eq_true rfl) ?_
      refine ct_79_18 hcr  g z15 (by omega)  (fun z17  (fz17 : -2147483648 ≤ z17 ∧ z17 ≤ 2147483647) => ?_)
      refine wk_i ?_
      refine wi_aload_n (i := 0) (x := 18) (nx := 45) (r1 := 0) (r2 := 0) (r3 := 0) rfl rfl ?_
      have b18 := gi_b (lo := -2147483648) (hi := 2147483647) g 18 8 rfl
      refine wr_gi0 (k0 := 18) (x := h 18 8) (nx := 48) (r1 := 4) (r2 := 8) (r3 := 0) rfl rfl (by decide) rfl ⟨rfl, rfl⟩ rfl rfl ?_
      refine wi_icmp (cd := .ne) (nx := 51) (r1 := 53) (r2 := 0) (r3 := 0) rfl (by omega) (by omega) (fun (q19 : z17 ≠ (h 18 8)) => ?_) (fun (q19 : ¬ (z17 ≠ (h 18 8))) => ?_)
      ·
        refine wi_iload (i := 4) (e := z15) (nx := 55) (r1 := 0) (r2 := 0) (r3 := 0) rfl rfl ?_
        refine wi_iload_n (i := 2) (e := x2) (nx := 56) (r1 := 0) (r2 := 0) (r3 := 0) rfl rfl ?_
        refine wi_icmp (cd := .ge) (nx := 59) (r1 := 64) (r2 := 0) (r3 := 0) rfl (by omega) (by omega) (fun (q20 : x2 ≤ z15) => ?_) (fun (q20 : ¬ (x2 ≤ z15)) => ?_)
        ·
          refine wr_iinc (i := 3) (n := 1) (v := x3) (fun e21 => [(3, vi e21), (4, vi z15), (0, .ref 18), (1, vi x1), (2, vi x2)]) (nx := 67) (r1 := 0) (r2 := 0) (r3 := 0) rfl rfl (fun _ => rfl) (fun e21 (fe21 : e21 = x3 + 1) => ?_)
          refine wi_goto (nx := 70) (r1 := 7) (r2 := 0) (r3 := 0) rfl ?_
          refine wp.lo (lo := [(0, .ref 18), (1, vi x1), (2, vi x2), (3, vi e21)]) ⟨rfl, rfl, rfl, rfl, trivial⟩ rfl ?_
          exact I4 x1 x2 e21 h ⟨rfl, (show (-1 ≤ x1 ∧ x1 ≤ 3) ∧ (-2147483648 ≤ x2 ∧ x2 ≤ 12) ∧ (0 ≤ e21 ∧ e21 ≤ 4) by omega)⟩ (show ((4 : Int) + 1 - e21).toNat < ((4 : Int) + 1 - x3).toNat by omega)
        ·
          refine wi_iload (i := 4) (e := z15) (nx := 61) (r1 := 0) (r2 := 0) (r3 := 0) rfl rfl ?_
          refine wi_istore_n (i := 2) (e := z15) (lo2 := [(2, vi z15), (4, vi z15), (0, .ref 18), (1, vi x1), (3, vi x3)]) (nx := 62) (r1 := 0) (r2 := 0) (r3 := 0) rfl rfl ?_
          refine wi_iload_n (i := 3) (e := x3) (nx := 63) (r1 := 0) (r2 := 0) (r3 := 0) rfl rfl ?_
          refine wi_istore_n (i := 1) (e := x3) (lo2 := [(1, vi x3), (2, vi z15), (4, vi z15), (0, .ref 18), (3, vi x3)]) (nx := 64) (r1 := 0) (r2 := 0) (r3 := 0) rfl rfl ?_
          refine wr_iinc (i := 3) (n := 1) (v := x3) (fun e21 => [(3, vi e21), (1, vi x3), (2, vi z15), (4, vi z15), (0, .ref 18)]) (nx := 67) (r1 := 0) (r2 := 0) (r3 := 0) rfl rfl (fun _ => rfl) (fun e21 (fe21 : e21 = x3 + 1) => ?_)
          refine wi_goto (nx := 70) (r1 := 7) (r2 := 0) (r3 := 0) rfl ?_
          refine wp.lo (lo := [(0, .ref 18), (1, vi x3), (2, vi z15), (3, vi e21)]) ⟨rfl, rfl, rfl, rfl, trivial⟩ rfl ?_
          exact I4 x3 z15 e21 h ⟨rfl, (show (-1 ≤ x3 ∧ x3 ≤ 3) ∧ (-2147483648 ≤ z15 ∧ z15 ≤ 12) ∧ (0 ≤ e21 ∧ e21 ≤ 4) by omega)⟩ (show ((4 : Int) + 1 - e21).toNat < ((4 : Int) + 1 - x3).toNat by omega)
      ·
        refine wi_iload_n (i := 3) (e := x3) (nx := 52) (r1 := 0) (r2 := 0) (r3 := 0) rfl rfl ?_
        refine wi_ireturn (nx := 53) (r1 := 0) (r2 := 0) (r3 := 0) rfl rfl ?_
        exact k x3 (by omega)
-- method 98: Row.dropFirst()V
set_option maxRecDepth 100000 in
set_option maxHeartbeats 100000000 in
theorem ct_98_R {L : Nat} {xs : Nat → Int32} {d b c : Nat} {h : hp} {cr : Nat → Nat → Option Nat} {Q : hp_Q} (hcr : CR cr)  {k0 : Nat} (kk0 : Rw k0) (g : GI h)    (k : ∀ (h2 : hp) , GI h2 → FR [(k0, k0 + 1, none)] h h2 → Q (.inl none) (hp_w h2 cr) b c) : wp (md_xa (L, xs)) d 98 (0, [(0, .ref k0)], [], hp_w h cr, b, c) Q := by
  have F0 : FR [(k0, k0 + 1, none)] h h := FR.refl
  have nk0 := kk0.2.2.1
  unfold md_nW at nk0
  refine wi_aload_n (i := 0) (x := k0) (nx := 1) (r1 := 0) (r2 := 0) (r3 := 0) rfl rfl ?_
  have b1 := gi_b (lo := 0) (hi := 12) g k0 1 kk0.2.2.2.1
  refine wr_gi0 (k0 := k0) (x := h k0 1) (nx := 4) (r1 := 5) (r2 := 1) (r3 := 0) rfl rfl kk0.k kk0.1 ⟨rfl, rfl⟩ rfl rfl ?_
  refine wi_if (cd := .le) (nx := 7) (r1 := 34) (r2 := 0) (r3 := 0) rfl (by omega) (fun (q2 : (h k0 1) ≤ 0) => ?_) (fun (q2 : ¬ ((h k0 1) ≤ 0)) => ?_)
  ·
    refine wi_return (nx := 35) (r1 := 0) (r2 := 0) (r3 := 0) rfl rfl ?_
    exact k h g F0
  ·
    refine wi_aload_n (i := 0) (x := k0) (nx := 8) (r1 := 0) (r2 := 0) (r3 := 0) rfl rfl ?_
    refine wi_dup (nx := 9) (r1 := 0) (r2 := 0) (r3 := 0) rfl rfl ?_
    refine wr_gi0 (k0 := k0) (x := h k0 1) (nx := 12) (r1 := 5) (r2 := 1) (r3 := 0) rfl rfl kk0.k kk0.1 ⟨rfl, rfl⟩ rfl rfl ?_
    refine wi_iconst (n := 1) (nx := 13) (r1 := 0) (r2 := 0) (r3 := 0) rfl ?_
    refine wr_sub (nx := 14) (r1 := 0) (r2 := 0) (r3 := 0) rfl (fun e3 (fe3 : e3 = (h k0 1) - 1) => ?_)
    refine wr_pf0 (k0 := k0) (x := e3) (bl := 0) (bh := 12) (nx := 17) (r1 := 5) (r2 := 1) (r3 := 0) rfl kk0.k kk0.1 ⟨rfl, rfl⟩ rfl rfl g kk0.2.2.2.1 (by omega) (fun h4 g4 w4 u4 => ?_)
    have F5 := F0.trans (FR.rngp (lo := k0) (hi := k0 + 1) u4 (by omega))
    refine wi_aload_n (i := 0) (x := k0) (nx := 18) (r1 := 0) (r2 := 0) (r3 := 0) rfl rfl ?_
    refine wr_gr (k0 := k0) (x := k0 + 1) (nx := 21) (r1 := 5) (r2 := 0) (r3 := 0) rfl rfl kk0.k kk0.1 ⟨rfl, rfl⟩ rfl ?_
    refine wi_iconst (n := 1) (nx := 22) (r1 := 0) (r2 := 0) (r3 := 0) rfl ?_
    refine wi_aload_n (i := 0) (x := k0) (nx := 23) (r1 := 0) (r2 := 0) (r3 := 0) rfl rfl ?_
    refine wr_gr (k0 := k0) (x := k0 + 1) (nx := 26) (r1 := 5) (r2 := 0) (r3 := 0) rfl rfl kk0.k kk0.1 ⟨rfl, rfl⟩ rfl ?_
    refine wi_iconst (n := 0) (nx := 27) (r1 := 0) (r2 := 0) (r3 := 0) rfl ?_
    refine wi_aload_n (i := 0) (x := k0) (nx := 28) (r1 := 0) (r2 := 0) (r3 := 0) rfl rfl ?_
    refine wr_gi0 (k0 := k0) (x := e3) (nx := 31) (r1 := 5) (r2 := 1) (r3 := 0) rfl rfl kk0.k kk0.1 ⟨rfl, rfl⟩ rfl w4 ?_
    refine wr_cpy (s0 := k0 + 1) (d0 := k0 + 1) (n0 := 12) (n1 := 12) (sp := 1) (dp := 0) (n := e3) (sl := -2147483648) (sh := 2147483647) (dl := -2147483648) (dh := 2147483647) (nx := 34) (r1 := 0) (r2 := 101) (r3 := 0) rfl rfl (of_decide_eq_true rfl) kk0.2.2.1 kk0.2.2.1 kk0.2.1 kk0.2.1 (by omega) (kk0.2.2.2.2) (kk0.2.2.2.2) (by omega) g4 (fun h6 g6 y6 u6 => ?_)
    have F7 := F5.trans (FR.rngp (lo := k0) (hi := k0 + 1) u6 (by omega))
    refine wi_return (nx := 35) (r1 := 0) (r2 := 0) (r3 := 0) rfl rfl ?_
    exact k h6 g6 F7
-- method 58: Setup.priceOf(II)I
set_option maxRecDepth 100000 in
set_option maxHeartbeats 100000000 in
theorem ct_58_3 {L : Nat} {xs : Nat → Int32} {d b c : Nat} {h : hp} {cr : Nat → Nat → Option Nat} {Q : hp_Q} (hcr : CR cr)  (g : GI h) (a0 : Int) (a1 : Int) (q0_ : -2147483648 ≤ a0 ∧ a0 ≤ 2147483647) (q1_ : -2147483648 ≤ a1 ∧ a1 ≤ 2147483647)  (k : ∀ (z0 : Int), (-2147483648 ≤ z0 ∧ z0 ≤ 2147483647) → Q (.inl (some (vi z0))) (hp_w h cr) b c) : wp (md_xa (L, xs)) d 58 (0, [(0, .ref 3), (1, vi a0), (2, vi a1)], [], hp_w h cr, b, c) Q := by
  have F0 : FR [] h h := FR.refl
  refine wi_iload_n (i := 1) (e := a0) (nx := 1) (r1 := 0) (r2 := 0) (r3 := 0) rfl rfl ?_
  refine wi_iconst (n := 1) (nx := 2) (r1 := 0) (r2 := 0) (r3 := 0) rfl ?_
  refine wi_iandm (m := 1) (nx := 3) (r1 := 0) (r2 := 0) (r3 := 0) rfl (by decide) (by decide) (fun e1 (fe1 : 0 ≤ e1 ∧ e1 ≤ 1) => ?_)
  refine wi_if (cd := .eq) (nx := 6) (r1 := 26) (r2 := 0) (r3 := 0) rfl (by omega) (fun (q2 : e1 = 0) => ?_) (fun (q2 : ¬ (e1 = 0)) => ?_)
  ·
    refine wi_iload_n (i := 1) (e := a0) (nx := 27) (r1 := 0) (r2 := 0) (r3 := 0) rfl rfl ?_
    refine wi_iconst (n := 2) (nx := 28) (r1 := 0) (r2 := 0) (r3 := 0) rfl ?_
    refine wi_iandm (m := 2) (nx := 29) (r1 := 0) (r2 := 0) (r3 := 0) rfl (by decide) (by decide) (fun e3 (fe3 : 0 ≤ e3 ∧ e3 ≤ 2) => ?_)
    refine wi_if (cd := .eq) (nx := 32) (r1 := 39) (r2 := 0) (r3 := 0) rfl (by omega) (fun (q4 : e3 = 0) => ?_) (fun (q4 : ¬ (e3 = 0)) => ?_)
    ·
      refine wi_iconst (n := 0) (nx := 40) (r1 := 0) (r2 := 0) (r3 := 0) rfl ?_
      refine wi_ireturn (nx := 41) (r1 := 0) (r2 := 0) (r3 := 0) rfl rfl ?_
      exact k 0 (by omega)
    ·
      refine wi_aload_n (i := 0) (x := 3) (nx := 33) (r1 := 0) (r2 := 0) (r3 := 0) rfl rfl ?_
      have b5 := gi_b (lo := -2147483648) (hi := 2147483647) g 3 6 rfl
      refine wr_gi0 (k0 := 3) (x := h 3 6) (nx := 36) (r1 := 2) (r2 := 6) (r3 := 0) rfl rfl (by decide) rfl ⟨rfl, rfl⟩ rfl rfl ?_
      refine wi_goto (nx := 39) (r1 := 40) (r2 := 0) (r3 := 0) rfl ?_
      refine wi_ireturn (nx := 41) (r1 := 0) (r2 := 0) (r3 := 0) rfl rfl ?_
      exact k (h 3 6) (by omega)
  ·
    refine wi_iload_n (i := 2) (e := a1) (nx := 7) (r1 := 0) (r2 := 0) (r3 := 0) rfl rfl ?_
    refine wi_if (cd := .lt) (nx := 10) (r1 := 15) (r2 := 0) (r3 := 0) rfl (by omega) (fun (q3 : a1 < 0) => ?_) (fun (q3 : ¬ (a1 < 0)) => ?_)
    ·
      refine wi_iconst (n := 0) (nx := 16) (r1 := 0) (r2 := 0) (r3 := 0) rfl ?_
      refine wi_goto (nx := 19) (r1 := 25) (r2 := 0) (r3 := 0) rfl ?_
      refine wi_ireturn (nx := 26) (r1 := 0) (r2 := 0) (r3 := 0) rfl rfl ?_
      exact k 0 (by omega)
    ·
      refine wi_iload_n (i := 2) (e := a1) (nx := 11) (r1 := 0) (r2 := 0) (r3 := 0) rfl rfl ?_
      refine wi_iconst (n := 5) (nx := 12) (r1 := 0) (r2 := 0) (r3 := 0) rfl ?_
      refine wi_icmp (cd := .lt) (nx := 15) (r1 := 19) (r2 := 0) (r3 := 0) rfl (by omega) (by omega) (fun (q4 : a1 < 5) => ?_) (fun (q4 : ¬ (a1 < 5)) => ?_)
      ·
        refine wi_aload_n (i := 0) (x := 3) (nx := 20) (r1 := 0) (r2 := 0) (r3 := 0) rfl rfl ?_
        refine wr_gr (k0 := 3) (x := 5) (nx := 23) (r1 := 2) (r2 := 11) (r3 := 0) rfl rfl (by decide) rfl ⟨rfl, rfl⟩ rfl ?_
        refine wi_iload_n (i := 2) (e := a1) (nx := 24) (r1 := 0) (r2 := 0) (r3 := 0) rfl rfl ?_
        obtain ⟨i5, ei5⟩ : ∃ q : Nat, a1 = (q : Int) := ⟨(a1).toNat, by omega⟩
        have b6 := gi_b (lo := -2147483648) (hi := 2147483647) g 5 i5 rfl
        refine wr_ia (k0 := 5) (a := a1) (f := i5) (x := h 5 i5) (nx := 25) (r1 := 0) (r2 := 0) (r3 := 0) rfl (by decide) rfl (by omega) (by omega) (by decide) rfl ?_
        refine wi_ireturn (nx := 26) (r1 := 0) (r2 := 0) (r3 := 0) rfl rfl ?_
        exact k (h 5 i5) (by omega)
      ·
        refine wi_iconst (n := 0) (nx := 16) (r1 := 0) (r2 := 0) (r3 := 0) rfl ?_
        refine wi_goto (nx := 19) (r1 := 25) (r2 := 0) (r3 := 0) rfl ?_
        refine wi_ireturn (nx := 26) (r1 := 0) (r2 := 0) (r3 := 0) rfl rfl ?_
        exact k 0 (by omega)
-- method 86: Line.note(III)V
set_option maxRecDepth 100000 in
set_option maxHeartbeats 100000000 in
theorem ct_86_18 {L : Nat} {xs : Nat → Int32} {d b c : Nat} {h : hp} {cr : Nat → Nat → Option Nat} {Q : hp_Q} (hcr : CR cr)  (g : GI h) (a0 : Int) (a1 : Int) (a2 : Int) (q0_ : 0 ≤ a0 ∧ a0 ≤ 11) (q1_ : -2147483648 ≤ a1 ∧ a1 ≤ 2147483647) (q2_ : -2147483648 ≤ a2 ∧ a2 ≤ 2147483647)  (k : ∀ (h2 : hp) , GI h2 → FR [(28, 28, none), (18, 18, some (15, 15))] h h2 → Q (.inl none) (hp_w h2 cr) b c) : wp (md_xa (L, xs)) d 86 (0, [(0, .ref 18), (1, vi a0), (2, vi a1), (3, vi a2)], [], hp_w h cr, b, c) Q := by
  have F0 : FR [(28, 28, none), (18, 18, some (15, 15))] h h := FR.refl
  refine wi_aload_n (i := 0) (x := 18) (nx := 1) (r1 := 0) (r2 := 0) (r3 := 0) rfl rfl ?_
  have b1 := gi_b (lo := 0) (hi := 36) g 18 15 rfl
  refine wr_gi0 (k0 := 18) (x := h 18 15) (nx := 4) (r1 := 4) (r2 := 15) (r3 := 0) rfl rfl (by decide) rfl ⟨rfl, rfl⟩ rfl rfl ?_
  refine wi_bipush (n := 36) (nx := 6) (r1 := 0) (r2 := 0) (r3 := 0) rfl (by decide) ?_
  refine wi_icmp (cd := .lt) (nx := 9) (r1 := 10) (r2 := 0) (r3 := 0) rfl (by omega) (by omega) (fun (q2 : (h 18 15) < 36) => ?_) (fun (q2 : ¬ ((h 18 15) < 36)) => ?_)
  ·
    refine wi_aload_n (i := 0) (x := 18) (nx := 11) (r1 := 0) (r2 := 0) (r3 := 0) rfl rfl ?_
    refine wr_gi0 (k0 := 18) (x := h 18 15) (nx := 14) (r1 := 4) (r2 := 15) (r3 := 0) rfl rfl (by decide) rfl ⟨rfl, rfl⟩ rfl rfl ?_
    refine wi_iconst (n := 4) (nx := 15) (r1 := 0) (r2 := 0) (r3 := 0) rfl ?_
    refine wr_mul (nx := 16) (r1 := 0) (r2 := 0) (r3 := 0) rfl (fun e3 (fe3 : e3 = (h 18 15) * 4) => ?_)
    refine wi_istore (i := 4) (e := e3) (lo2 := [(4, vi e3), (0, .ref 18), (1, vi a0), (2, vi a1), (3, vi a2)]) (nx := 18) (r1 := 0) (r2 := 0) (r3 := 0) rfl rfl ?_
    refine wi_aload_n (i := 0) (x := 18) (nx := 19) (r1 := 0) (r2 := 0) (r3 := 0) rfl rfl ?_
    refine wr_gr (k0 := 18) (x := 28) (nx := 22) (r1 := 4) (r2 := 14) (r3 := 0) rfl rfl (by decide) rfl ⟨rfl, rfl⟩ rfl ?_
    refine wi_iload (i := 4) (e := e3) (nx := 24) (r1 := 0) (r2 := 0) (r3 := 0) rfl rfl ?_
    refine wi_iconst (n := 0) (nx := 25) (r1 := 0) (r2 := 0) (r3 := 0) rfl ?_
    refine wr_add (nx := 26) (r1 := 0) (r2 := 0) (r3 := 0) rfl (fun e4 (fe4 : e4 = e3 + 0) => ?_)
    refine wi_iload_n (i := 1) (e := a0) (nx := 27) (r1 := 0) (r2 := 0) (r3 := 0) rfl rfl ?_
    obtain ⟨i5, ei5⟩ : ∃ q : Nat, e4 = (q : Int) := ⟨(e4).toNat, by omega⟩
    refine wr_is (k0 := 28) (a := e4) (f := i5) (x := a0) (bl := -2147483648) (bh := 2147483647) (nx := 28) (r1 := 0) (r2 := 0) (r3 := 0) rfl (by decide) rfl (by omega) (by omega) (by decide) g rfl (by omega) (fun h6 g6 w6 u6 => ?_)
    have F7 := F0.then rfl (FR.rngp (lo := 28) (hi := 28) u6 (by decide))
    refine wi_aload_n (i := 0) (x := 18) (nx := 29) (r1 := 0) (r2 := 0) (r3 := 0) rfl rfl ?_
    refine wr_gr (k0 := 18) (x := 28) (nx := 32) (r1 := 4) (r2 := 14) (r3 := 0) rfl rfl (by decide) rfl ⟨rfl, rfl⟩ rfl ?_
    refine wi_iload (i := 4) (e := e3) (nx := 34) (r1 := 0) (r2 := 0) (r3 := 0) rfl rfl ?_
    refine wi_iconst (n := 1) (nx := 35) (r1 := 0) (r2 := 0) (r3 := 0) rfl ?_
    refine wr_add (nx := 36) (r1 := 0) (r2 := 0) (r3 := 0) rfl (fun e8 (fe8 : e8 = e3 + 1) => ?_)
    refine wi_aload_n (i := 0) (x := 18) (nx := 37) (r1 := 0) (r2 := 0) (r3 := 0) rfl rfl ?_
    refine wr_gr (k0 := 18) (x := 19) (nx := 40) (r1 := 4) (r2 := 1) (r3 := 0) rfl rfl (by decide) rfl ⟨rfl, rfl⟩ rfl ?_
    refine wi_iload_n (i := 1) (e := a0) (nx := 41) (r1 := 0) (r2 := 0) (r3 := 0) rfl rfl ?_
    obtain ⟨i9, ei9⟩ : ∃ q : Nat, a0 = (q : Int) := ⟨(a0).toNat, by omega⟩
    have b10 := gi_b (lo := -2147483648) (hi := 2147483647) g 19 i9 rfl
    refine wr_ia (k0 := 19) (a := a0) (f := i9) (x := h 19 i9) (nx := 42) (r1 := 0) (r2 := 0) (r3 := 0) rfl (by decide) rfl (by omega) (by omega) (by decide) (u6 19 i9 (fn_a (by omega) fn_0)) ?_
    obtain ⟨i11, ei11⟩ : ∃ q : Nat, e8 = (q : Int) := ⟨(e8).toNat, by omega⟩
    refine wr_is (k0 := 28) (a := e8) (f := i11) (x := h 19 i9) (bl := -2147483648) (bh := 2147483647) (nx := 43) (r1 := 0) (r2 := 0) (r3 := 0) rfl (by decide) rfl (by omega) (by omega) (by decide) g6 rfl (by omega) (fun h12 g12 w12 u12 => ?_)
    have F13 := F7.then rfl (FR.rngp (lo := 28) (hi := 28) u12 (by decide))
    refine wi_aload_n (i := 0) (x := 18) (nx := 44) (r1 := 0) (r2 := 0) (r3 := 0) rfl rfl ?_
    refine wr_gr (k0 := 18) (x := 28) (nx := 47) (r1 := 4) (r2 := 14) (r3 := 0) rfl rfl (by decide) rfl ⟨rfl, rfl⟩ rfl ?_
    refine wi_iload (i := 4) (e := e3) (nx := 49) (r1 := 0) (r2 := 0) (r3 := 0) rfl rfl ?_
    refine wi_iconst (n := 2) (nx := 50) (r1 := 0) (r2 := 0) (r3 := 0) rfl ?_
    refine wr_add (nx := 51) (r1 := 0) (r2 := 0) (r3 := 0) rfl (fun e14 (fe14 : e14 = e3 + 2) => ?_)
    refine wi_iload_n (i := 2) (e := a1) (nx := 52) (r1 := 0) (r2 := 0) (r3 := 0) rfl rfl ?_
    obtain ⟨i15, ei15⟩ : ∃ q : Nat, e14 = (q : Int) := ⟨(e14).toNat, by omega⟩
    refine wr_is (k0 := 28) (a := e14) (f := i15) (x := a1) (bl := -2147483648) (bh := 2147483647) (nx := 53) (r1 := 0) (r2 := 0) (r3 := 0) rfl (by decide) rfl (by omega) (by omega) (by decide) g12 rfl (by omega) (fun h16 g16 w16 u16 => ?_)
    have F17 := F13.then rfl (FR.rngp (lo := 28) (hi := 28) u16 (by decide))
    refine wi_aload_n (i := 0) (x := 18) (nx := 54) (r1 := 0) (r2 := 0) (r3 := 0) rfl rfl ?_
    refine wr_gr (k0 := 18) (x := 28) (nx := 57) (r1 := 4) (r2 := 14) (r3 := 0) rfl rfl (by decide) rfl ⟨rfl, rfl⟩ rfl ?_
    refine wi_iload (i := 4) (e := e3) (nx := 59) (r1 := 0) (r2 := 0) (r3 := 0) rfl rfl ?_
    refine wi_iconst (n := 3) (nx := 60) (r1 := 0) (r2 := 0) (r3 := 0) rfl ?_
    refine wr_add (nx := 61) (r1 := 0) (r2 := 0) (r3 := 0) rfl (fun e18 (fe18 : e18 = e3 + 3) => ?_)
    refine wi_iload_n (i := 3) (e := a2) (nx := 62) (r1 := 0) (r2 := 0) (r3 := 0) rfl rfl ?_
    obtain ⟨i19, ei19⟩ : ∃ q : Nat, e18 = (q : Int) := ⟨(e18).toNat, by omega⟩
    refine wr_is (k0 := 28) (a := e18) (f := i19) (x := a2) (bl := -2147483648) (bh := 2147483647) (nx := 63) (r1 := 0) (r2 := 0) (r3 := 0) rfl (by decide) rfl (by omega) (by omega) (by decide) g16 rfl (by omega) (fun h20 g20 w20 u20 => ?_)
    have F21 := F17.then rfl (FR.rngp (lo := 28) (hi := 28) u20 (by decide))
    refine wi_aload_n (i := 0) (x := 18) (nx := 64) (r1 := 0) (r2 := 0) (r3 := 0) rfl rfl ?_
    refine wi_dup (nx := 65) (r1 := 0) (r2 := 0) (r3 := 0) rfl rfl ?_
    refine wr_gi0 (k0 := 18) (x := h 18 15) (nx := 68) (r1 := 4) (r2 := 15) (r3 := 0) rfl rfl (by decide) rfl ⟨rfl, rfl⟩ rfl ((u20 18 15 (fn_a (by omega) fn_0)).trans ((u16 18 15 (fn_a (by omega) fn_0)).trans ((u12 18 15 (fn_a (by omega) fn_0)).trans (u6 18 15 (fn_a (by omega) fn_0))))) ?_
    refine wi_iconst (n := 1) (nx := 69) (r1 := 0) (r2 := 0) (r3 := 0) rfl ?_
    refine wr_add (nx := 70) (r1 := 0) (r2 := 0) (r3 := 0) rfl (fun e22 (fe22 : e22 = (h 18 15) + 1) => ?_)
    refine wr_pf0 (k0 := 18) (x := e22) (bl := 0) (bh := 36) (nx := 73) (r1 := 4) (r2 := 15) (r3 := 0) rfl (by decide) rfl ⟨rfl, rfl⟩ rfl rfl g20 rfl (by omega) (fun h23 g23 w23 u23 => ?_)
    have F24 := F21.then rfl u23
    refine wi_return (nx := 74) (r1 := 0) (r2 := 0) (r3 := 0) rfl rfl ?_
    exact k h23 g23 F24
  ·
    refine wi_return (nx := 10) (r1 := 0) (r2 := 0) (r3 := 0) rfl rfl ?_
    exact k h g F0
-- method 85: Line.paint(IZ)V
set_option maxRecDepth 100000 in
set_option maxHeartbeats 100000000 in
theorem ct_85_18 {L : Nat} {xs : Nat → Int32} {d b c : Nat} {h : hp} {cr : Nat → Nat → Option Nat} {Q : hp_Q} (hcr : CR cr)  (g : GI h) (a0 : Int) (a1 : Int) (q0_ : 0 ≤ a0 ∧ a0 ≤ 11) (q1_ : 0 ≤ a1 ∧ a1 ≤ 1)  (k : ∀ (h2 : hp) , GI h2 → FR [(28, 28, none), (18, 18, some (8, 13)), (18, 18, some (15, 15))] h h2 → (h2 18 16 = h 18 16) → (h2 18 7 = h 18 7) → Q (.inl none) (hp_w h2 cr) b c) : wp (md_xa (L, xs)) (d + 1) 85 (0, [(0, .ref 18), (1, vi a0), (2, vi a1)], [], hp_w h cr, b, c) Q := by
  have F0 : FR [(28, 28, none), (18, 18, some (8, 13)), (18, 18, some (15, 15))] h h := FR.refl
  refine wi_aload_n (i := 0) (x := 18) (nx := 1) (r1 := 0) (r2 := 0) (r3 := 0) rfl rfl ?_
  refine wr_gr (k0 := 18) (x := 3) (nx := 4) (r1 := 4) (r2 := 0) (r3 := 0) rfl rfl (by decide) rfl ⟨rfl, rfl⟩ rfl ?_
  refine wi_aload_n (i := 0) (x := 18) (nx := 5) (r1 := 0) (r2 := 0) (r3 := 0) rfl rfl ?_
  have b1 := gi_b (lo := -2147483648) (hi := 2147483647) g 18 8 rfl
  refine wr_gi0 (k0 := 18) (x := h 18 8) (nx := 8) (r1 := 4) (r2 := 8) (r3 := 0) rfl rfl (by decide) rfl ⟨rfl, rfl⟩ rfl rfl ?_
  refine wi_aload_n (i := 0) (x := 18) (nx := 9) (r1 := 0) (r2 := 0) (r3 := 0) rfl rfl ?_
  have b2 := gi_b (lo := -2147483648) (hi := 2147483647) g 18 9 rfl
  refine wr_gi0 (k0 := 18) (x := h 18 9) (nx := 12) (r1 := 4) (r2 := 9) (r3 := 0) rfl rfl (by decide) rfl ⟨rfl, rfl⟩ rfl rfl ?_
  refine wi_aload_n (i := 0) (x := 18) (nx := 13) (r1 := 0) (r2 := 0) (r3 := 0) rfl rfl ?_
  refine wr_gr (k0 := 18) (x := 19) (nx := 16) (r1 := 4) (r2 := 1) (r3 := 0) rfl rfl (by decide) rfl ⟨rfl, rfl⟩ rfl ?_
  refine wi_iload_n (i := 1) (e := a0) (nx := 17) (r1 := 0) (r2 := 0) (r3 := 0) rfl rfl ?_
  obtain ⟨i3, ei3⟩ : ∃ q : Nat, a0 = (q : Int) := ⟨(a0).toNat, by omega⟩
  have b4 := gi_b (lo := -2147483648) (hi := 2147483647) g 19 i3 rfl
  refine wr_ia (k0 := 19) (a := a0) (f := i3) (x := h 19 i3) (nx := 18) (r1 := 0) (r2 := 0) (r3 := 0) rfl (by decide) rfl (by omega) (by omega) (by decide) rfl ?_
  refine wr_V (k0 := 3) (rest := []) (as := [.ref 3, vi (h 18 8), vi (h 18 9), vi (h 19 i3)]) (nx := 21) (r1 := 57) (r2 := 3) (r3 := 2) rfl rfl rfl (of_decide_eq_true rfl) rfl rfl (by decide) rfl rfl (of_decide_eq_true rfl) (of_decide_eq_true rfl) ?_
  refine wi_iload_n (i := 1) (e := h 18 8) (nx := 1) (r1 := 0) (r2 := 0) (r3 := 0) rfl rfl ?_
  refine wi_iconst (n := (-1)) (nx := 2) (r1 := 0) (r2 := 0) (r3 := 0) rfl ?_
  refine wi_icmp (cd := .ne) (nx := 5) (r1 := 7) (r2 := 0) (r3 := 0) rfl (by omega) (by omega) (fun (q5 : (h 18 8) ≠ (-1)) => ?_) (fun (q5 : ¬ ((h 18 8) ≠ (-1))) => ?_)
  ·
    refine wi_iload_n (i := 1) (e := h 18 8) (nx := 8) (r1 := 0) (r2 := 0) (r3 := 0) rfl rfl ?_
    refine wi_iload_n (i := 3) (e := h 19 i3) (nx := 9) (r1 := 0) (r2 := 0) (r3 := 0) rfl rfl ?_
    refine wi_icmp (cd := .eq) (nx := 12) (r1 := 14) (r2 := 0) (r3 := 0) rfl (by omega) (by omega) (fun (q6 : (h 18 8) = (h 19 i3)) => ?_) (fun (q6 : ¬ ((h 18 8) = (h 19 i3))) => ?_)
    ·
      refine wi_iload_n (i := 2) (e := h 18 9) (nx := 15) (r1 := 0) (r2 := 0) (r3 := 0) rfl rfl ?_
      refine wi_aload_n (i := 0) (x := 3) (nx := 16) (r1 := 0) (r2 := 0) (r3 := 0) rfl rfl ?_
      have b7 := gi_b (lo := -2147483648) (hi := 2147483647) g 3 5 rfl
      refine wr_gi0 (k0 := 3) (x := h 3 5) (nx := 19) (r1 := 2) (r2 := 5) (r3 := 0) rfl rfl (by decide) rfl ⟨rfl, rfl⟩ rfl rfl ?_
      refine wi_icmp (cd := .lt) (nx := 22) (r1 := 26) (r2 := 0) (r3 := 0) rfl (by omega) (by omega) (fun (q8 : (h 18 9) < (h 3 5)) => ?_) (fun (q8 : ¬ ((h 18 9) < (h 3 5))) => ?_)
      ·
        refine wi_iconst (n := 0) (nx := 27) (r1 := 0) (r2 := 0) (r3 := 0) rfl ?_
        refine wi_ireturn (nx := 28) (r1 := 0) (r2 := 0) (r3 := 0) rfl rfl ?_
        refine wk_i ?_
        refine wi_istore_n (i := 3) (e := 0) (lo2 := [(3, vi 0), (0, .ref 18), (1, vi a0), (2, vi a1)]) (nx := 22) (r1 := 0) (r2 := 0) (r3 := 0) rfl rfl ?_
        refine wi_aload_n (i := 0) (x := 18) (nx := 23) (r1 := 0) (r2 := 0) (r3 := 0) rfl rfl ?_
        refine wr_gr (k0 := 18) (x := 3) (nx := 26) (r1 := 4) (r2 := 0) (r3 := 0) rfl rfl (by decide) rfl ⟨rfl, rfl⟩ rfl ?_
        refine wi_iload_n (i := 3) (e := 0) (nx := 27) (r1 := 0) (r2 := 0) (r3 := 0) rfl rfl ?_
        refine wi_aload_n (i := 0) (x := 18) (nx := 28) (r1 := 0) (r2 := 0) (r3 := 0) rfl rfl ?_
        refine wr_gr (k0 := 18) (x := 19) (nx := 31) (r1 := 4) (r2 := 1) (r3 := 0) rfl rfl (by decide) rfl ⟨rfl, rfl⟩ rfl ?_
        refine wi_iload_n (i := 1) (e := a0) (nx := 32) (r1 := 0) (r2 := 0) (r3 := 0) rfl rfl ?_
        refine wr_ia (k0 := 19) (a := a0) (f := i3) (x := h 19 i3) (nx := 33) (r1 := 0) (r2 := 0) (r3 := 0) rfl (by decide) rfl (by omega) (by omega) (by decide) rfl ?_
        refine wr_V (k0 := 3) (rest := []) (as := [.ref 3, vi 0, vi (h 19 i3)]) (nx := 36) (r1 := 58) (r2 := 2) (r3 := 2) rfl rfl rfl (of_decide_eq_true rfl) rfl rfl (by decide) rfl rfl (of_decide_eq_true rfl) (of_decide_eq_true rfl) ?_
        refine ct_58_3 hcr  g 0 (h 19 i3) (by omega) (by omega)  (fun z10  (fz10 : -2147483648 ≤ z10 ∧ z10 ≤ 2147483647) => ?_)
        refine wk_i ?_
        refine wi_istore (i := 4) (e := z10) (lo2 := [(4, vi z10), (3, vi 0), (0, .ref 18), (1, vi a0), (2, vi a1)]) (nx := 38) (r1 := 0) (r2 := 0) (r3 := 0) rfl rfl ?_
        refine wi_aload_n (i := 0) (x := 18) (nx := 39) (r1 := 0) (r2 := 0) (r3 := 0) rfl rfl ?_
        refine wi_aload_n (i := 0) (x := 18) (nx := 40) (r1 := 0) (r2 := 0) (r3 := 0) rfl rfl ?_
        refine wr_gr (k0 := 18) (x := 19) (nx := 43) (r1 := 4) (r2 := 1) (r3 := 0) rfl rfl (by decide) rfl ⟨rfl, rfl⟩ rfl ?_
        refine wi_iload_n (i := 1) (e := a0) (nx := 44) (r1 := 0) (r2 := 0) (r3 := 0) rfl rfl ?_
        refine wr_ia (k0 := 19) (a := a0) (f := i3) (x := h 19 i3) (nx := 45) (r1 := 0) (r2 := 0) (r3 := 0) rfl (by decide) rfl (by omega) (by omega) (by decide) rfl ?_
        refine wr_pf0 (k0 := 18) (x := h 19 i3) (bl := -2147483648) (bh := 2147483647) (nx := 48) (r1 := 4) (r2 := 8) (r3 := 0) rfl (by decide) rfl ⟨rfl, rfl⟩ rfl rfl g rfl (by omega) (fun h11 g11 w11 u11 => ?_)
        have F12 := F0.then rfl u11
        refine wi_aload_n (i := 0) (x := 18) (nx := 49) (r1 := 0) (r2 := 0) (r3 := 0) rfl rfl ?_
        refine wi_iload_n (i := 3) (e := 0) (nx := 50) (r1 := 0) (r2 := 0) (r3 := 0) rfl rfl ?_
        refine wi_aload_n (i := 0) (x := 18) (nx := 51) (r1 := 0) (r2 := 0) (r3 := 0) rfl rfl ?_
        refine wr_gi0 (k0 := 18) (x := h 18 9) (nx := 54) (r1 := 4) (r2 := 9) (r3 := 0) rfl rfl (by decide) rfl ⟨rfl, rfl⟩ rfl (u11 18 9 rfl) ?_
        refine wi_S (rest := [.ref 18]) (as := [vi 0, vi (h 18 9)]) (nx := 57) (r1 := 59) (r2 := 18) (r3 := 0) rfl rfl rfl (of_decide_eq_true rfl) rfl rfl (of_decide_eq_true rfl) (of_decide_eq_true rfl) ?_
        refine wi_iload_n (i := 0) (e := 0) (nx := 1) (r1 := 0) (r2 := 0) (r3 := 0) rfl rfl ?_
        refine wi_if (cd := .ne) (nx := 4) (r1 := 10) (r2 := 0) (r3 := 0) rfl (by omega) (fun (q13 : 0 ≠ 0) => by exfalso; omega) (fun (q13 : ¬ (0 ≠ 0)) => ?_)
        refine wi_iload_n (i := 1) (e := h 18 9) (nx := 5) (r1 := 0) (r2 := 0) (r3 := 0) rfl rfl ?_
        refine wi_iconst (n := 1) (nx := 6) (r1 := 0) (r2 := 0) (r3 := 0) rfl ?_
        refine wr_add (nx := 7) (r1 := 0) (r2 := 0) (r3 := 0) rfl (fun e14 (fe14 : e14 = (h 18 9) + 1) => ?_)
        refine wi_goto (nx := 10) (r1 := 11) (r2 := 0) (r3 := 0) rfl ?_
        refine wi_ireturn (nx := 12) (r1 := 0) (r2 := 0) (r3 := 0) rfl rfl ?_
        refine wk_i ?_
        refine wr_pf0 (k0 := 18) (x := e14) (bl := -2147483648) (bh := 2147483647) (nx := 60) (r1 := 4) (r2 := 9) (r3 := 0) rfl (by decide) rfl ⟨rfl, rfl⟩ rfl rfl g11 rfl (by omega) (fun h15 g15 w15 u15 => ?_)
        have F16 := F12.then rfl u15
        refine wi_aload_n (i := 0) (x := 18) (nx := 61) (r1 := 0) (r2 := 0) (r3 := 0) rfl rfl ?_
        refine wi_dup (nx := 62) (r1 := 0) (r2 := 0) (r3 := 0) rfl rfl ?_
        have b17 := gi_b (lo := -2147483648) (hi := 2147483647) g 18 13 rfl
        refine wr_gi0 (k0 := 18) (x := h 18 13) (nx := 65) (r1 := 4) (r2 := 13) (r3 := 0) rfl rfl (by decide) rfl ⟨rfl, rfl⟩ rfl ((u15 18 13 rfl).trans (u11 18 13 rfl)) ?_
        refine wi_iload (i := 4) (e := z10) (nx := 67) (r1 := 0) (r2 := 0) (r3 := 0) rfl rfl ?_
        refine wr_addW (nx := 68) (r1 := 0) (r2 := 0) (r3 := 0) rfl (fun e18 (fe18 : -2147483648 ≤ e18 ∧ e18 ≤ 2147483647) => ?_)
        refine wr_pf0 (k0 := 18) (x := e18) (bl := -2147483648) (bh := 2147483647) (nx := 71) (r1 := 4) (r2 := 13) (r3 := 0) rfl (by decide) rfl ⟨rfl, rfl⟩ rfl rfl g15 rfl (by omega) (fun h19 g19 w19 u19 => ?_)
        have F20 := F16.then rfl u19
        refine wi_iload_n (i := 3) (e := 0) (nx := 72) (r1 := 0) (r2 := 0) (r3 := 0) rfl rfl ?_
        refine wi_iconst (n := 1) (nx := 73) (r1 := 0) (r2 := 0) (r3 := 0) rfl ?_
        refine wi_iand (e := 0) (nx := 74) (r1 := 0) (r2 := 0) (r3 := 0) rfl (by decide) ?_
        refine wi_if (cd := .eq) (nx := 77) (r1 := 87) (r2 := 0) (r3 := 0) rfl (by omega) (fun (q21 : 0 = 0) => ?_) (fun (q21 : ¬ (0 = 0)) => by exfalso; omega)
        refine wi_iload_n (i := 3) (e := 0) (nx := 88) (r1 := 0) (r2 := 0) (r3 := 0) rfl rfl ?_
        refine wi_iconst (n := 2) (nx := 89) (r1 := 0) (r2 := 0) (r3 := 0) rfl ?_
        refine wi_iand (e := 0) (nx := 90) (r1 := 0) (r2 := 0) (r3 := 0) rfl (by decide) ?_
        refine wi_if (cd := .eq) (nx := 93) (r1 := 103) (r2 := 0) (r3 := 0) rfl (by omega) (fun (q22 : 0 = 0) => ?_) (fun (q22 : ¬ (0 = 0)) => by exfalso; omega)
        refine wi_aload_n (i := 0) (x := 18) (nx := 104) (r1 := 0) (r2 := 0) (r3 := 0) rfl rfl ?_
        refine wi_dup (nx := 105) (r1 := 0) (r2 := 0) (r3 := 0) rfl rfl ?_
        have b23 := gi_b (lo := -2147483648) (hi := 2147483647) g 18 10 rfl
        refine wr_gi0 (k0 := 18) (x := h 18 10) (nx := 108) (r1 := 4) (r2 := 10) (r3 := 0) rfl rfl (by decide) rfl ⟨rfl, rfl⟩ rfl ((u19 18 10 rfl).trans ((u15 18 10 rfl).trans (u11 18 10 rfl))) ?_
        refine wi_iconst (n := 1) (nx := 109) (r1 := 0) (r2 := 0) (r3 := 0) rfl ?_
        refine wr_addW (nx := 110) (r1 := 0) (r2 := 0) (r3 := 0) rfl (fun e24 (fe24 : -2147483648 ≤ e24 ∧ e24 ≤ 2147483647) => ?_)
        refine wr_pf0 (k0 := 18) (x := e24) (bl := -2147483648) (bh := 2147483647) (nx := 113) (r1 := 4) (r2 := 10) (r3 := 0) rfl (by decide) rfl ⟨rfl, rfl⟩ rfl rfl g19 rfl (by omega) (fun h25 g25 w25 u25 => ?_)
        have F26 := F20.then rfl u25
        refine wi_aload_n (i := 0) (x := 18) (nx := 114) (r1 := 0) (r2 := 0) (r3 := 0) rfl rfl ?_
        refine wi_iload_n (i := 1) (e := a0) (nx := 115) (r1 := 0) (r2 := 0) (r3 := 0) rfl rfl ?_
        refine wi_iload (i := 4) (e := z10) (nx := 117) (r1 := 0) (r2 := 0) (r3 := 0) rfl rfl ?_
        refine wi_iload_n (i := 2) (e := a1) (nx := 118) (r1 := 0) (r2 := 0) (r3 := 0) rfl rfl ?_
        refine wi_if (cd := .eq) (nx := 121) (r1 := 127) (r2 := 0) (r3 := 0) rfl (by omega) (fun (q27 : a1 = 0) => ?_) (fun (q27 : ¬ (a1 = 0)) => ?_)
        ·
          refine wi_iload_n (i := 3) (e := 0) (nx := 128) (r1 := 0) (r2 := 0) (r3 := 0) rfl rfl ?_
          refine wr_V (k0 := 18) (rest := []) (as := [.ref 18, vi a0, vi z10, vi 0]) (nx := 131) (r1 := 86) (r2 := 3) (r3 := 4) rfl rfl rfl (of_decide_eq_true rfl) rfl rfl (by decide) rfl rfl (of_decide_eq_true rfl) (of_decide_eq_true rfl) ?_
          refine ct_86_18 hcr  g25 a0 z10 0 (by omega) (by omega) (by omega)  (fun h28 g28 u28 => ?_)
          have F29 := F26.then (by decide +kernel) u28
          refine wk_n ?_
          refine wi_return (nx := 132) (r1 := 0) (r2 := 0) (r3 := 0) rfl rfl ?_
          have b30 := gi_b (lo := -2147483648) (hi := 2147483647) g 18 16 rfl
          have e31 : h28 18 16 = h 18 16 := ((u28 18 16 rfl).trans ((u25 18 16 rfl).trans ((u19 18 16 rfl).trans ((u15 18 16 rfl).trans (u11 18 16 rfl)))))
          have b32 := gi_b (lo := 0) (hi := 12) g 18 7 rfl
          have e33 : h28 18 7 = h 18 7 := ((u28 18 7 rfl).trans ((u25 18 7 rfl).trans ((u19 18 7 rfl).trans ((u15 18 7 rfl).trans (u11 18 7 rfl)))))
          exact k h28 g28 F29 (show (h28 18 16) = (h 18 16) by omega) (show (h28 18 7) = (h 18 7) by omega)
        ·
          refine wi_iload_n (i := 3) (e := 0) (nx := 122) (r1 := 0) (r2 := 0) (r3 := 0) rfl rfl ?_
          refine wi_iconst (n := 4) (nx := 123) (r1 := 0) (r2 := 0) (r3 := 0) rfl ?_
          refine wi_ior (e := 4) (nx := 124) (r1 := 0) (r2 := 0) (r3 := 0) rfl (by decide) ?_
          refine wi_goto (nx := 127) (r1 := 128) (r2 := 0) (r3 := 0) rfl ?_
          refine wr_V (k0 := 18) (rest := []) (as := [.ref 18, vi a0, vi z10, vi 4]) (nx := 131) (r1 := 86) (r2 := 3) (r3 := 4) rfl rfl rfl (of_decide_eq_true rfl) rfl rfl (by decide) rfl rfl (of_decide_eq_true rfl) (of_decide_eq_true rfl) ?_
          refine ct_86_18 hcr  g25 a0 z10 4 (by omega) (by omega) (by omega)  (fun h28 g28 u28 => ?_)
          have F29 := F26.then (by decide +kernel) u28
          refine wk_n ?_
          refine wi_return (nx := 132) (r1 := 0) (r2 := 0) (r3 := 0) rfl rfl ?_
          have b30 := gi_b (lo := -2147483648) (hi := 2147483647) g 18 16 rfl
          have e31 : h28 18 16 = h 18 16 := ((u28 18 16 rfl).trans ((u25 18 16 rfl).trans ((u19 18 16 rfl).trans ((u15 18 16 rfl).trans (u11 18 16 rfl)))))
          have b32 := gi_b (lo := 0) (hi := 12) g 18 7 rfl
          have e33 : h28 18 7 = h 18 7 := ((u28 18 7 rfl).trans ((u25 18 7 rfl).trans ((u19 18 7 rfl).trans ((u15 18 7 rfl).trans (u11 18 7 rfl)))))
          exact k h28 g28 F29 (show (h28 18 16) = (h 18 16) by omega) (show (h28 18 7) = (h 18 7) by omega)
      ·
        refine wi_iconst (n := 2) (nx := 23) (r1 := 0) (r2 := 0) (r3 := 0) rfl ?_
        refine wi_goto (nx := 26) (r1 := 27) (r2 := 0) (r3 := 0) rfl ?_
        refine wi_ireturn (nx := 28) (r1 := 0) (r2 := 0) (r3 := 0) rfl rfl ?_
        refine wk_i ?_
        refine wi_istore_n (i := 3) (e := 2) (lo2 := [(3, vi 2), (0, .ref 18), (1, vi a0), (2, vi a1)]) (nx := 22) (r1 := 0) (r2 := 0) (r3 := 0) rfl rfl ?_
        refine wi_aload_n (i := 0) (x := 18) (nx := 23) (r1 := 0) (r2 := 0) (r3 := 0) rfl rfl ?_
        refine wr_gr (k0 := 18) (x := 3) (nx := 26) (r1 := 4) (r2 := 0) (r3 := 0) rfl rfl (by decide) rfl ⟨rfl, rfl⟩ rfl ?_
        refine wi_iload_n (i := 3) (e := 2) (nx := 27) (r1 := 0) (r2 := 0) (r3 := 0) rfl rfl ?_
        refine wi_aload_n (i := 0) (x := 18) (nx := 28) (r1 := 0) (r2 := 0) (r3 := 0) rfl rfl ?_
        refine wr_gr (k0 := 18) (x := 19) (nx := 31) (r1 := 4) (r2 := 1) (r3 := 0) rfl rfl (by decide) rfl ⟨rfl, rfl⟩ rfl ?_
        refine wi_iload_n (i := 1) (e := a0) (nx := 32) (r1 := 0) (r2 := 0) (r3 := 0) rfl rfl ?_
        refine wr_ia (k0 := 19) (a := a0) (f := i3) (x := h 19 i3) (nx := 33) (r1 := 0) (r2 := 0) (r3 := 0) rfl (by decide) rfl (by omega) (by omega) (by decide) rfl ?_
        refine wr_V (k0 := 3) (rest := []) (as := [.ref 3, vi 2, vi (h 19 i3)]) (nx := 36) (r1 := 58) (r2 := 2) (r3 := 2) rfl rfl rfl (of_decide_eq_true rfl) rfl rfl (by decide) rfl rfl (of_decide_eq_true rfl) (of_decide_eq_true rfl) ?_
        refine ct_58_3 hcr  g 2 (h 19 i3) (by omega) (by omega)  (fun z10  (fz10 : -2147483648 ≤ z10 ∧ z10 ≤ 2147483647) => ?_)
        refine wk_i ?_
        refine wi_istore (i := 4) (e := z10) (lo2 := [(4, vi z10), (3, vi 2), (0, .ref 18), (1, vi a0), (2, vi a1)]) (nx := 38) (r1 := 0) (r2 := 0) (r3 := 0) rfl rfl ?_
        refine wi_aload_n (i := 0) (x := 18) (nx := 39) (r1 := 0) (r2 := 0) (r3 := 0) rfl rfl ?_
        refine wi_aload_n (i := 0) (x := 18) (nx := 40) (r1 := 0) (r2 := 0) (r3 := 0) rfl rfl ?_
        refine wr_gr (k0 := 18) (x := 19) (nx := 43) (r1 := 4) (r2 := 1) (r3 := 0) rfl rfl (by decide) rfl ⟨rfl, rfl⟩ rfl ?_
        refine wi_iload_n (i := 1) (e := a0) (nx := 44) (r1 := 0) (r2 := 0) (r3 := 0) rfl rfl ?_
        refine wr_ia (k0 := 19) (a := a0) (f := i3) (x := h 19 i3) (nx := 45) (r1 := 0) (r2 := 0) (r3 := 0) rfl (by decide) rfl (by omega) (by omega) (by decide) rfl ?_
        refine wr_pf0 (k0 := 18) (x := h 19 i3) (bl := -2147483648) (bh := 2147483647) (nx := 48) (r1 := 4) (r2 := 8) (r3 := 0) rfl (by decide) rfl ⟨rfl, rfl⟩ rfl rfl g rfl (by omega) (fun h11 g11 w11 u11 => ?_)
        have F12 := F0.then rfl u11
        refine wi_aload_n (i := 0) (x := 18) (nx := 49) (r1 := 0) (r2 := 0) (r3 := 0) rfl rfl ?_
        refine wi_iload_n (i := 3) (e := 2) (nx := 50) (r1 := 0) (r2 := 0) (r3 := 0) rfl rfl ?_
        refine wi_aload_n (i := 0) (x := 18) (nx := 51) (r1 := 0) (r2 := 0) (r3 := 0) rfl rfl ?_
        refine wr_gi0 (k0 := 18) (x := h 18 9) (nx := 54) (r1 := 4) (r2 := 9) (r3 := 0) rfl rfl (by decide) rfl ⟨rfl, rfl⟩ rfl (u11 18 9 rfl) ?_
        refine wi_S (rest := [.ref 18]) (as := [vi 2, vi (h 18 9)]) (nx := 57) (r1 := 59) (r2 := 18) (r3 := 0) rfl rfl rfl (of_decide_eq_true rfl) rfl rfl (of_decide_eq_true rfl) (of_decide_eq_true rfl) ?_
        refine wi_iload_n (i := 0) (e := 2) (nx := 1) (r1 := 0) (r2 := 0) (r3 := 0) rfl rfl ?_
        refine wi_if (cd := .ne) (nx := 4) (r1 := 10) (r2 := 0) (r3 := 0) rfl (by omega) (fun (q13 : 2 ≠ 0) => ?_) (fun (q13 : ¬ (2 ≠ 0)) => by exfalso; omega)
        refine wi_iconst (n := 1) (nx := 11) (r1 := 0) (r2 := 0) (r3 := 0) rfl ?_
        refine wi_ireturn (nx := 12) (r1 := 0) (r2 := 0) (r3 := 0) rfl rfl ?_
        refine wk_i ?_
        refine wr_pf0 (k0 := 18) (x := 1) (bl := -2147483648) (bh := 2147483647) (nx := 60) (r1 := 4) (r2 := 9) (r3 := 0) rfl (by decide) rfl ⟨rfl, rfl⟩ rfl rfl g11 rfl (by omega) (fun h14 g14 w14 u14 => ?_)
        have F15 := F12.then rfl u14
        refine wi_aload_n (i := 0) (x := 18) (nx := 61) (r1 := 0) (r2 := 0) (r3 := 0) rfl rfl ?_
        refine wi_dup (nx := 62) (r1 := 0) (r2 := 0) (r3 := 0) rfl rfl ?_
        have b16 := gi_b (lo := -2147483648) (hi := 2147483647) g 18 13 rfl
        refine wr_gi0 (k0 := 18) (x := h 18 13) (nx := 65) (r1 := 4) (r2 := 13) (r3 := 0) rfl rfl (by decide) rfl ⟨rfl, rfl⟩ rfl ((u14 18 13 rfl).trans (u11 18 13 rfl)) ?_
        refine wi_iload (i := 4) (e := z10) (nx := 67) (r1 := 0) (r2 := 0) (r3 := 0) rfl rfl ?_
        refine wr_addW (nx := 68) (r1 := 0) (r2 := 0) (r3 := 0) rfl (fun e17 (fe17 : -2147483648 ≤ e17 ∧ e17 ≤ 2147483647) => ?_)
        refine wr_pf0 (k0 := 18) (x := e17) (bl := -2147483648) (bh := 2147483647) (nx := 71) (r1 := 4) (r2 := 13) (r3 := 0) rfl (by decide) rfl ⟨rfl, rfl⟩ rfl rfl g14 rfl (by omega) (fun h18 g18 w18 u18 => ?_)
        have F19 := F15.then rfl u18
        refine wi_iload_n (i := 3) (e := 2) (nx := 72) (r1 := 0) (r2 := 0) (r3 := 0) rfl rfl ?_
        refine wi_iconst (n := 1) (nx := 73) (r1 := 0) (r2 := 0) (r3 := 0) rfl ?_
        refine wi_iand (e := 0) (nx := 74) (r1 := 0) (r2 := 0) (r3 := 0) rfl (by decide) ?_
        refine wi_if (cd := .eq) (nx := 77) (r1 := 87) (r2 := 0) (r3 := 0) rfl (by omega) (fun (q20 : 0 = 0) => ?_) (fun (q20 : ¬ (0 = 0)) => by exfalso; omega)
        refine wi_iload_n (i := 3) (e := 2) (nx := 88) (r1 := 0) (r2 := 0) (r3 := 0) rfl rfl ?_
        refine wi_iconst (n := 2) (nx := 89) (r1 := 0) (r2 := 0) (r3 := 0) rfl ?_
        refine wi_iand (e := 2) (nx := 90) (r1 := 0) (r2 := 0) (r3 := 0) rfl (by decide) ?_
        refine wi_if (cd := .eq) (nx := 93) (r1 := 103) (r2 := 0) (r3 := 0) rfl (by omega) (fun (q21 : 2 = 0) => by exfalso; omega) (fun (q21 : ¬ (2 = 0)) => ?_)
        refine wi_aload_n (i := 0) (x := 18) (nx := 94) (r1 := 0) (r2 := 0) (r3 := 0) rfl rfl ?_
        refine wi_dup (nx := 95) (r1 := 0) (r2 := 0) (r3 := 0) rfl rfl ?_
        have b22 := gi_b (lo := -2147483648) (hi := 2147483647) g 18 12 rfl
        refine wr_gi0 (k0 := 18) (x := h 18 12) (nx := 98) (r1 := 4) (r2 := 12) (r3 := 0) rfl rfl (by decide) rfl ⟨rfl, rfl⟩ rfl ((u18 18 12 rfl).trans ((u14 18 12 rfl).trans (u11 18 12 rfl))) ?_
        refine wi_iconst (n := 1) (nx := 99) (r1 := 0) (r2 := 0) (r3 := 0) rfl ?_
        refine wr_addW (nx := 100) (r1 := 0) (r2 := 0) (r3 := 0) rfl (fun e23 (fe23 : -2147483648 ≤ e23 ∧ e23 ≤ 2147483647) => ?_)
        refine wr_pf0 (k0 := 18) (x := e23) (bl := -2147483648) (bh := 2147483647) (nx := 103) (r1 := 4) (r2 := 12) (r3 := 0) rfl (by decide) rfl ⟨rfl, rfl⟩ rfl rfl g18 rfl (by omega) (fun h24 g24 w24 u24 => ?_)
        have F25 := F19.then rfl u24
        refine wi_aload_n (i := 0) (x := 18) (nx := 104) (r1 := 0) (r2 := 0) (r3 := 0) rfl rfl ?_
        refine wi_dup (nx := 105) (r1 := 0) (r2 := 0) (r3 := 0) rfl rfl ?_
        have b26 := gi_b (lo := -2147483648) (hi := 2147483647) g 18 10 rfl
        refine wr_gi0 (k0 := 18) (x := h 18 10) (nx := 108) (r1 := 4) (r2 := 10) (r3 := 0) rfl rfl (by decide) rfl ⟨rfl, rfl⟩ rfl ((u24 18 10 rfl).trans ((u18 18 10 rfl).trans ((u14 18 10 rfl).trans (u11 18 10 rfl)))) ?_
        refine wi_iconst (n := 1) (nx := 109) (r1 := 0) (r2 := 0) (r3 := 0) rfl ?_
        refine wr_addW (nx := 110) (r1 := 0) (r2 := 0) (r3 := 0) rfl (fun e27 (fe27 : -2147483648 ≤ e27 ∧ e27 ≤ 2147483647) => ?_)
        refine wr_pf0 (k0 := 18) (x := e27) (bl := -2147483648) (bh := 2147483647) (nx := 113) (r1 := 4) (r2 := 10) (r3 := 0) rfl (by decide) rfl ⟨rfl, rfl⟩ rfl rfl g24 rfl (by omega) (fun h28 g28 w28 u28 => ?_)
        have F29 := F25.then rfl u28
        refine wi_aload_n (i := 0) (x := 18) (nx := 114) (r1 := 0) (r2 := 0) (r3 := 0) rfl rfl ?_
        refine wi_iload_n (i := 1) (e := a0) (nx := 115) (r1 := 0) (r2 := 0) (r3 := 0) rfl rfl ?_
        refine wi_iload (i := 4) (e := z10) (nx := 117) (r1 := 0) (r2 := 0) (r3 := 0) rfl rfl ?_
        refine wi_iload_n (i := 2) (e := a1) (nx := 118) (r1 := 0) (r2 := 0) (r3 := 0) rfl rfl ?_
        refine wi_if (cd := .eq) (nx := 121) (r1 := 127) (r2 := 0) (r3 := 0) rfl (by omega) (fun (q30 : a1 = 0) => ?_) (fun (q30 : ¬ (a1 = 0)) => ?_)
        ·
          refine wi_iload_n (i := 3) (e := 2) (nx := 128) (r1 := 0) (r2 := 0) (r3 := 0) rfl rfl ?_
          refine wr_V (k0 := 18) (rest := []) (as := [.ref 18, vi a0, vi z10, vi 2]) (nx := 131) (r1 := 86) (r2 := 3) (r3 := 4) rfl rfl rfl (of_decide_eq_true rfl) rfl rfl (by decide) rfl rfl (of_decide_eq_true rfl) (of_decide_eq_true rfl) ?_
          refine ct_86_18 hcr  g28 a0 z10 2 (by omega) (by omega) (by omega)  (fun h31 g31 u31 => ?_)
          have F32 := F29.then (by decide +kernel) u31
          refine wk_n ?_
          refine wi_return (nx := 132) (r1 := 0) (r2 := 0) (r3 := 0) rfl rfl ?_
          have b33 := gi_b (lo := -2147483648) (hi := 2147483647) g 18 16 rfl
          have e34 : h31 18 16 = h 18 16 := ((u31 18 16 rfl).trans ((u28 18 16 rfl).trans ((u24 18 16 rfl).trans ((u18 18 16 rfl).trans ((u14 18 16 rfl).trans (u11 18 16 rfl))))))
          have b35 := gi_b (lo := 0) (hi := 12) g 18 7 rfl
          have e36 : h31 18 7 = h 18 7 := ((u31 18 7 rfl).trans ((u28 18 7 rfl).trans ((u24 18 7 rfl).trans ((u18 18 7 rfl).trans ((u14 18 7 rfl).trans (u11 18 7 rfl))))))
          exact k h31 g31 F32 (show (h31 18 16) = (h 18 16) by omega) (show (h31 18 7) = (h 18 7) by omega)
        ·
          refine wi_iload_n (i := 3) (e := 2) (nx := 122) (r1 := 0) (r2 := 0) (r3 := 0) rfl rfl ?_
          refine wi_iconst (n := 4) (nx := 123) (r1 := 0) (r2 := 0) (r3 := 0) rfl ?_
          refine wi_ior (e := 6) (nx := 124) (r1 := 0) (r2 := 0) (r3 := 0) rfl (by decide) ?_
          refine wi_goto (nx := 127) (r1 := 128) (r2 := 0) (r3 := 0) rfl ?_
          refine wr_V (k0 := 18) (rest := []) (as := [.ref 18, vi a0, vi z10, vi 6]) (nx := 131) (r1 := 86) (r2 := 3) (r3 := 4) rfl rfl rfl (of_decide_eq_true rfl) rfl rfl (by decide) rfl rfl (of_decide_eq_true rfl) (of_decide_eq_true rfl) ?_
          refine ct_86_18 hcr  g28 a0 z10 6 (by omega) (by omega) (by omega)  (fun h31 g31 u31 => ?_)
          have F32 := F29.then (by decide +kernel) u31
          refine wk_n ?_
          refine wi_return (nx := 132) (r1 := 0) (r2 := 0) (r3 := 0) rfl rfl ?_
          have b33 := gi_b (lo := -2147483648) (hi := 2147483647) g 18 16 rfl
          have e34 : h31 18 16 = h 18 16 := ((u31 18 16 rfl).trans ((u28 18 16 rfl).trans ((u24 18 16 rfl).trans ((u18 18 16 rfl).trans ((u14 18 16 rfl).trans (u11 18 16 rfl))))))
          have b35 := gi_b (lo := 0) (hi := 12) g 18 7 rfl
          have e36 : h31 18 7 = h 18 7 := ((u31 18 7 rfl).trans ((u28 18 7 rfl).trans ((u24 18 7 rfl).trans ((u18 18 7 rfl).trans ((u14 18 7 rfl).trans (u11 18 7 rfl))))))
          exact k h31 g31 F32 (show (h31 18 16) = (h 18 16) by omega) (show (h31 18 7) = (h 18 7) by omega)
    ·
      refine wi_iconst (n := 1) (nx := 13) (r1 := 0) (r2 := 0) (r3 := 0) rfl ?_
      refine wi_ireturn (nx := 14) (r1 := 0) (r2 := 0) (r3 := 0) rfl rfl ?_
      refine wk_i ?_
      refine wi_istore_n (i := 3) (e := 1) (lo2 := [(3, vi 1), (0, .ref 18), (1, vi a0), (2, vi a1)]) (nx := 22) (r1 := 0) (r2 := 0) (r3 := 0) rfl rfl ?_
      refine wi_aload_n (i := 0) (x := 18) (nx := 23) (r1 := 0) (r2 := 0) (r3 := 0) rfl rfl ?_
      refine wr_gr (k0 := 18) (x := 3) (nx := 26) (r1 := 4) (r2 := 0) (r3 := 0) rfl rfl (by decide) rfl ⟨rfl, rfl⟩ rfl ?_
      refine wi_iload_n (i := 3) (e := 1) (nx := 27) (r1 := 0) (r2 := 0) (r3 := 0) rfl rfl ?_
      refine wi_aload_n (i := 0) (x := 18) (nx := 28) (r1 := 0) (r2 := 0) (r3 := 0) rfl rfl ?_
      refine wr_gr (k0 := 18) (x := 19) (nx := 31) (r1 := 4) (r2 := 1) (r3 := 0) rfl rfl (by decide) rfl ⟨rfl, rfl⟩ rfl ?_
      refine wi_iload_n (i := 1) (e := a0) (nx := 32) (r1 := 0) (r2 := 0) (r3 := 0) rfl rfl ?_
      refine wr_ia (k0 := 19) (a := a0) (f := i3) (x := h 19 i3) (nx := 33) (r1 := 0) (r2 := 0) (r3 := 0) rfl (by decide) rfl (by omega) (by omega) (by decide) rfl ?_
      refine wr_V (k0 := 3) (rest := []) (as := [.ref 3, vi 1, vi (h 19 i3)]) (nx := 36) (r1 := 58) (r2 := 2) (r3 := 2) rfl rfl rfl (of_decide_eq_true rfl) rfl rfl (by decide) rfl rfl (of_decide_eq_true rfl) (of_decide_eq_true rfl) ?_
      refine ct_58_3 hcr  g 1 (h 19 i3) (by omega) (by omega)  (fun z8  (fz8 : -2147483648 ≤ z8 ∧ z8 ≤ 2147483647) => ?_)
      refine wk_i ?_
      refine wi_istore (i := 4) (e := z8) (lo2 := [(4, vi z8), (3, vi 1), (0, .ref 18), (1, vi a0), (2, vi a1)]) (nx := 38) (r1 := 0) (r2 := 0) (r3 := 0) rfl rfl ?_
      refine wi_aload_n (i := 0) (x := 18) (nx := 39) (r1 := 0) (r2 := 0) (r3 := 0) rfl rfl ?_
      refine wi_aload_n (i := 0) (x := 18) (nx := 40) (r1 := 0) (r2 := 0) (r3 := 0) rfl rfl ?_
      refine wr_gr (k0 := 18) (x := 19) (nx := 43) (r1 := 4) (r2 := 1) (r3 := 0) rfl rfl (by decide) rfl ⟨rfl, rfl⟩ rfl ?_
      refine wi_iload_n (i := 1) (e := a0) (nx := 44) (r1 := 0) (r2 := 0) (r3 := 0) rfl rfl ?_
      refine wr_ia (k0 := 19) (a := a0) (f := i3) (x := h 19 i3) (nx := 45) (r1 := 0) (r2 := 0) (r3 := 0) rfl (by decide) rfl (by omega) (by omega) (by decide) rfl ?_
      refine wr_pf0 (k0 := 18) (x := h 19 i3) (bl := -2147483648) (bh := 2147483647) (nx := 48) (r1 := 4) (r2 := 8) (r3 := 0) rfl (by decide) rfl ⟨rfl, rfl⟩ rfl rfl g rfl (by omega) (fun h9 g9 w9 u9 => ?_)
      have F10 := F0.then rfl u9
      refine wi_aload_n (i := 0) (x := 18) (nx := 49) (r1 := 0) (r2 := 0) (r3 := 0) rfl rfl ?_
      refine wi_iload_n (i := 3) (e := 1) (nx := 50) (r1 := 0) (r2 := 0) (r3 := 0) rfl rfl ?_
      refine wi_aload_n (i := 0) (x := 18) (nx := 51) (r1 := 0) (r2 := 0) (r3 := 0) rfl rfl ?_
      refine wr_gi0 (k0 := 18) (x := h 18 9) (nx := 54) (r1 := 4) (r2 := 9) (r3 := 0) rfl rfl (by decide) rfl ⟨rfl, rfl⟩ rfl (u9 18 9 rfl) ?_
      refine wi_S (rest := [.ref 18]) (as := [vi 1, vi (h 18 9)]) (nx := 57) (r1 := 59) (r2 := 18) (r3 := 0) rfl rfl rfl (of_decide_eq_true rfl) rfl rfl (of_decide_eq_true rfl) (of_decide_eq_true rfl) ?_
      refine wi_iload_n (i := 0) (e := 1) (nx := 1) (r1 := 0) (r2 := 0) (r3 := 0) rfl rfl ?_
      refine wi_if (cd := .ne) (nx := 4) (r1 := 10) (r2 := 0) (r3 := 0) rfl (by omega) (fun (q11 : 1 ≠ 0) => ?_) (fun (q11 : ¬ (1 ≠ 0)) => by exfalso; omega)
      refine wi_iconst (n := 1) (nx := 11) (r1 := 0) (r2 := 0) (r3 := 0) rfl ?_
      refine wi_ireturn (nx := 12) (r1 := 0) (r2 := 0) (r3 := 0) rfl rfl ?_
      refine wk_i ?_
      refine wr_pf0 (k0 := 18) (x := 1) (bl := -2147483648) (bh := 2147483647) (nx := 60) (r1 := 4) (r2 := 9) (r3 := 0) rfl (by decide) rfl ⟨rfl, rfl⟩ rfl rfl g9 rfl (by omega) (fun h12 g12 w12 u12 => ?_)
      have F13 := F10.then rfl u12
      refine wi_aload_n (i := 0) (x := 18) (nx := 61) (r1 := 0) (r2 := 0) (r3 := 0) rfl rfl ?_
      refine wi_dup (nx := 62) (r1 := 0) (r2 := 0) (r3 := 0) rfl rfl ?_
      have b14 := gi_b (lo := -2147483648) (hi := 2147483647) g 18 13 rfl
      refine wr_gi0 (k0 := 18) (x := h 18 13) (nx := 65) (r1 := 4) (r2 := 13) (r3 := 0) rfl rfl (by decide) rfl ⟨rfl, rfl⟩ rfl ((u12 18 13 rfl).trans (u9 18 13 rfl)) ?_
      refine wi_iload (i := 4) (e := z8) (nx := 67) (r1 := 0) (r2 := 0) (r3 := 0) rfl rfl ?_
      refine wr_addW (nx := 68) (r1 := 0) (r2 := 0) (r3 := 0) rfl (fun e15 (fe15 : -2147483648 ≤ e15 ∧ e15 ≤ 2147483647) => ?_)
      refine wr_pf0 (k0 := 18) (x := e15) (bl := -2147483648) (bh := 2147483647) (nx := 71) (r1 := 4) (r2 := 13) (r3 := 0) rfl (by decide) rfl ⟨rfl, rfl⟩ rfl rfl g12 rfl (by omega) (fun h16 g16 w16 u16 => ?_)
      have F17 := F13.then rfl u16
      refine wi_iload_n (i := 3) (e := 1) (nx := 72) (r1 := 0) (r2 := 0) (r3 := 0) rfl rfl ?_
      refine wi_iconst (n := 1) (nx := 73) (r1 := 0) (r2 := 0) (r3 := 0) rfl ?_
      refine wi_iand (e := 1) (nx := 74) (r1 := 0) (r2 := 0) (r3 := 0) rfl (by decide) ?_
      refine wi_if (cd := .eq) (nx := 77) (r1 := 87) (r2 := 0) (r3 := 0) rfl (by omega) (fun (q18 : 1 = 0) => by exfalso; omega) (fun (q18 : ¬ (1 = 0)) => ?_)
      refine wi_aload_n (i := 0) (x := 18) (nx := 78) (r1 := 0) (r2 := 0) (r3 := 0) rfl rfl ?_
      refine wi_dup (nx := 79) (r1 := 0) (r2 := 0) (r3 := 0) rfl rfl ?_
      have b19 := gi_b (lo := -2147483648) (hi := 2147483647) g 18 11 rfl
      refine wr_gi0 (k0 := 18) (x := h 18 11) (nx := 82) (r1 := 4) (r2 := 11) (r3 := 0) rfl rfl (by decide) rfl ⟨rfl, rfl⟩ rfl ((u16 18 11 rfl).trans ((u12 18 11 rfl).trans (u9 18 11 rfl))) ?_
      refine wi_iconst (n := 1) (nx := 83) (r1 := 0) (r2 := 0) (r3 := 0) rfl ?_
      refine wr_addW (nx := 84) (r1 := 0) (r2 := 0) (r3 := 0) rfl (fun e20 (fe20 : -2147483648 ≤ e20 ∧ e20 ≤ 2147483647) => ?_)
      refine wr_pf0 (k0 := 18) (x := e20) (bl := -2147483648) (bh := 2147483647) (nx := 87) (r1 := 4) (r2 := 11) (r3 := 0) rfl (by decide) rfl ⟨rfl, rfl⟩ rfl rfl g16 rfl (by omega) (fun h21 g21 w21 u21 => ?_)
      have F22 := F17.then rfl u21
      refine wi_iload_n (i := 3) (e := 1) (nx := 88) (r1 := 0) (r2 := 0) (r3 := 0) rfl rfl ?_
      refine wi_iconst (n := 2) (nx := 89) (r1 := 0) (r2 := 0) (r3 := 0) rfl ?_
      refine wi_iand (e := 0) (nx := 90) (r1 := 0) (r2 := 0) (r3 := 0) rfl (by decide) ?_
      refine wi_if (cd := .eq) (nx := 93) (r1 := 103) (r2 := 0) (r3 := 0) rfl (by omega) (fun (q23 : 0 = 0) => ?_) (fun (q23 : ¬ (0 = 0)) => by exfalso; omega)
      refine wi_aload_n (i := 0) (x := 18) (nx := 104) (r1 := 0) (r2 := 0) (r3 := 0) rfl rfl ?_
      refine wi_dup (nx := 105) (r1 := 0) (r2 := 0) (r3 := 0) rfl rfl ?_
      have b24 := gi_b (lo := -2147483648) (hi := 2147483647) g 18 10 rfl
      refine wr_gi0 (k0 := 18) (x := h 18 10) (nx := 108) (r1 := 4) (r2 := 10) (r3 := 0) rfl rfl (by decide) rfl ⟨rfl, rfl⟩ rfl ((u21 18 10 rfl).trans ((u16 18 10 rfl).trans ((u12 18 10 rfl).trans (u9 18 10 rfl)))) ?_
      refine wi_iconst (n := 1) (nx := 109) (r1 := 0) (r2 := 0) (r3 := 0) rfl ?_
      refine wr_addW (nx := 110) (r1 := 0) (r2 := 0) (r3 := 0) rfl (fun e25 (fe25 : -2147483648 ≤ e25 ∧ e25 ≤ 2147483647) => ?_)
      refine wr_pf0 (k0 := 18) (x := e25) (bl := -2147483648) (bh := 2147483647) (nx := 113) (r1 := 4) (r2 := 10) (r3 := 0) rfl (by decide) rfl ⟨rfl, rfl⟩ rfl rfl g21 rfl (by omega) (fun h26 g26 w26 u26 => ?_)
      have F27 := F22.then rfl u26
      refine wi_aload_n (i := 0) (x := 18) (nx := 114) (r1 := 0) (r2 := 0) (r3 := 0) rfl rfl ?_
      refine wi_iload_n (i := 1) (e := a0) (nx := 115) (r1 := 0) (r2 := 0) (r3 := 0) rfl rfl ?_
      refine wi_iload (i := 4) (e := z8) (nx := 117) (r1 := 0) (r2 := 0) (r3 := 0) rfl rfl ?_
      refine wi_iload_n (i := 2) (e := a1) (nx := 118) (r1 := 0) (r2 := 0) (r3 := 0) rfl rfl ?_
      refine wi_if (cd := .eq) (nx := 121) (r1 := 127) (r2 := 0) (r3 := 0) rfl (by omega) (fun (q28 : a1 = 0) => ?_) (fun (q28 : ¬ (a1 = 0)) => ?_)
      ·
        refine wi_iload_n (i := 3) (e := 1) (nx := 128) (r1 := 0) (r2 := 0) (r3 := 0) rfl rfl ?_
        refine wr_V (k0 := 18) (rest := []) (as := [.ref 18, vi a0, vi z8, vi 1]) (nx := 131) (r1 := 86) (r2 := 3) (r3 := 4) rfl rfl rfl (of_decide_eq_true rfl) rfl rfl (by decide) rfl rfl (of_decide_eq_true rfl) (of_decide_eq_true rfl) ?_
        refine ct_86_18 hcr  g26 a0 z8 1 (by omega) (by omega) (by omega)  (fun h29 g29 u29 => ?_)
        have F30 := F27.then (by decide +kernel) u29
        refine wk_n ?_
        refine wi_return (nx := 132) (r1 := 0) (r2 := 0) (r3 := 0) rfl rfl ?_
        have b31 := gi_b (lo := -2147483648) (hi := 2147483647) g 18 16 rfl
        have e32 : h29 18 16 = h 18 16 := ((u29 18 16 rfl).trans ((u26 18 16 rfl).trans ((u21 18 16 rfl).trans ((u16 18 16 rfl).trans ((u12 18 16 rfl).trans (u9 18 16 rfl))))))
        have b33 := gi_b (lo := 0) (hi := 12) g 18 7 rfl
        have e34 : h29 18 7 = h 18 7 := ((u29 18 7 rfl).trans ((u26 18 7 rfl).trans ((u21 18 7 rfl).trans ((u16 18 7 rfl).trans ((u12 18 7 rfl).trans (u9 18 7 rfl))))))
        exact k h29 g29 F30 (show (h29 18 16) = (h 18 16) by omega) (show (h29 18 7) = (h 18 7) by omega)
      ·
        refine wi_iload_n (i := 3) (e := 1) (nx := 122) (r1 := 0) (r2 := 0) (r3 := 0) rfl rfl ?_
        refine wi_iconst (n := 4) (nx := 123) (r1 := 0) (r2 := 0) (r3 := 0) rfl ?_
        refine wi_ior (e := 5) (nx := 124) (r1 := 0) (r2 := 0) (r3 := 0) rfl (by decide) ?_
        refine wi_goto (nx := 127) (r1 := 128) (r2 := 0) (r3 := 0) rfl ?_
        refine wr_V (k0 := 18) (rest := []) (as := [.ref 18, vi a0, vi z8, vi 5]) (nx := 131) (r1 := 86) (r2 := 3) (r3 := 4) rfl rfl rfl (of_decide_eq_true rfl) rfl rfl (by decide) rfl rfl (of_decide_eq_true rfl) (of_decide_eq_true rfl) ?_
        refine ct_86_18 hcr  g26 a0 z8 5 (by omega) (by omega) (by omega)  (fun h29 g29 u29 => ?_)
        have F30 := F27.then (by decide +kernel) u29
        refine wk_n ?_
        refine wi_return (nx := 132) (r1 := 0) (r2 := 0) (r3 := 0) rfl rfl ?_
        have b31 := gi_b (lo := -2147483648) (hi := 2147483647) g 18 16 rfl
        have e32 : h29 18 16 = h 18 16 := ((u29 18 16 rfl).trans ((u26 18 16 rfl).trans ((u21 18 16 rfl).trans ((u16 18 16 rfl).trans ((u12 18 16 rfl).trans (u9 18 16 rfl))))))
        have b33 := gi_b (lo := 0) (hi := 12) g 18 7 rfl
        have e34 : h29 18 7 = h 18 7 := ((u29 18 7 rfl).trans ((u26 18 7 rfl).trans ((u21 18 7 rfl).trans ((u16 18 7 rfl).trans ((u12 18 7 rfl).trans (u9 18 7 rfl))))))
        exact k h29 g29 F30 (show (h29 18 16) = (h 18 16) by omega) (show (h29 18 7) = (h 18 7) by omega)
  ·
    refine wi_iconst (n := 0) (nx := 6) (r1 := 0) (r2 := 0) (r3 := 0) rfl ?_
    refine wi_ireturn (nx := 7) (r1 := 0) (r2 := 0) (r3 := 0) rfl rfl ?_
    refine wk_i ?_
    refine wi_istore_n (i := 3) (e := 0) (lo2 := [(3, vi 0), (0, .ref 18), (1, vi a0), (2, vi a1)]) (nx := 22) (r1 := 0) (r2 := 0) (r3 := 0) rfl rfl ?_
    refine wi_aload_n (i := 0) (x := 18) (nx := 23) (r1 := 0) (r2 := 0) (r3 := 0) rfl rfl ?_
    refine wr_gr (k0 := 18) (x := 3) (nx := 26) (r1 := 4) (r2 := 0) (r3 := 0) rfl rfl (by decide) rfl ⟨rfl, rfl⟩ rfl ?_
    refine wi_iload_n (i := 3) (e := 0) (nx := 27) (r1 := 0) (r2 := 0) (r3 := 0) rfl rfl ?_
    refine wi_aload_n (i := 0) (x := 18) (nx := 28) (r1 := 0) (r2 := 0) (r3 := 0) rfl rfl ?_
    refine wr_gr (k0 := 18) (x := 19) (nx := 31) (r1 := 4) (r2 := 1) (r3 := 0) rfl rfl (by decide) rfl ⟨rfl, rfl⟩ rfl ?_
    refine wi_iload_n (i := 1) (e := a0) (nx := 32) (r1 := 0) (r2 := 0) (r3 := 0) rfl rfl ?_
    refine wr_ia (k0 := 19) (a := a0) (f := i3) (x := h 19 i3) (nx := 33) (r1 := 0) (r2 := 0) (r3 := 0) rfl (by decide) rfl (by omega) (by omega) (by decide) rfl ?_
    refine wr_V (k0 := 3) (rest := []) (as := [.ref 3, vi 0, vi (h 19 i3)]) (nx := 36) (r1 := 58) (r2 := 2) (r3 := 2) rfl rfl rfl (of_decide_eq_true rfl) rfl rfl (by decide) rfl rfl (of_decide_eq_true rfl) (of_decide_eq_true rfl) ?_
    refine ct_58_3 hcr  g 0 (h 19 i3) (by omega) (by omega)  (fun z7  (fz7 : -2147483648 ≤ z7 ∧ z7 ≤ 2147483647) => ?_)
    refine wk_i ?_
    refine wi_istore (i := 4) (e := z7) (lo2 := [(4, vi z7), (3, vi 0), (0, .ref 18), (1, vi a0), (2, vi a1)]) (nx := 38) (r1 := 0) (r2 := 0) (r3 := 0) rfl rfl ?_
    refine wi_aload_n (i := 0) (x := 18) (nx := 39) (r1 := 0) (r2 := 0) (r3 := 0) rfl rfl ?_
    refine wi_aload_n (i := 0) (x := 18) (nx := 40) (r1 := 0) (r2 := 0) (r3 := 0) rfl rfl ?_
    refine wr_gr (k0 := 18) (x := 19) (nx := 43) (r1 := 4) (r2 := 1) (r3 := 0) rfl rfl (by decide) rfl ⟨rfl, rfl⟩ rfl ?_
    refine wi_iload_n (i := 1) (e := a0) (nx := 44) (r1 := 0) (r2 := 0) (r3 := 0) rfl rfl ?_
    refine wr_ia (k0 := 19) (a := a0) (f := i3) (x := h 19 i3) (nx := 45) (r1 := 0) (r2 := 0) (r3 := 0) rfl (by decide) rfl (by omega) (by omega) (by decide) rfl ?_
    refine wr_pf0 (k0 := 18) (x := h 19 i3) (bl := -2147483648) (bh := 2147483647) (nx := 48) (r1 := 4) (r2 := 8) (r3 := 0) rfl (by decide) rfl ⟨rfl, rfl⟩ rfl rfl g rfl (by omega) (fun h8 g8 w8 u8 => ?_)
    have F9 := F0.then rfl u8
    refine wi_aload_n (i := 0) (x := 18) (nx := 49) (r1 := 0) (r2 := 0) (r3 := 0) rfl rfl ?_
    refine wi_iload_n (i := 3) (e := 0) (nx := 50) (r1 := 0) (r2 := 0) (r3 := 0) rfl rfl ?_
    refine wi_aload_n (i := 0) (x := 18) (nx := 51) (r1 := 0) (r2 := 0) (r3 := 0) rfl rfl ?_
    refine wr_gi0 (k0 := 18) (x := h 18 9) (nx := 54) (r1 := 4) (r2 := 9) (r3 := 0) rfl rfl (by decide) rfl ⟨rfl, rfl⟩ rfl (u8 18 9 rfl) ?_
    refine wi_S (rest := [.ref 18]) (as := [vi 0, vi (h 18 9)]) (nx := 57) (r1 := 59) (r2 := 18) (r3 := 0) rfl rfl rfl (of_decide_eq_true rfl) rfl rfl (of_decide_eq_true rfl) (of_decide_eq_true rfl) ?_
    refine wi_iload_n (i := 0) (e := 0) (nx := 1) (r1 := 0) (r2 := 0) (r3 := 0) rfl rfl ?_
    refine wi_if (cd := .ne) (nx := 4) (r1 := 10) (r2 := 0) (r3 := 0) rfl (by omega) (fun (q10 : 0 ≠ 0) => by exfalso; omega) (fun (q10 : ¬ (0 ≠ 0)) => ?_)
    refine wi_iload_n (i := 1) (e := h 18 9) (nx := 5) (r1 := 0) (r2 := 0) (r3 := 0) rfl rfl ?_
    refine wi_iconst (n := 1) (nx := 6) (r1 := 0) (r2 := 0) (r3 := 0) rfl ?_
    refine wr_addW (nx := 7) (r1 := 0) (r2 := 0) (r3 := 0) rfl (fun e11 (fe11 : -2147483648 ≤ e11 ∧ e11 ≤ 2147483647) => ?_)
    refine wi_goto (nx := 10) (r1 := 11) (r2 := 0) (r3 := 0) rfl ?_
    refine wi_ireturn (nx := 12) (r1 := 0) (r2 := 0) (r3 := 0) rfl rfl ?_
    refine wk_i ?_
    refine wr_pf0 (k0 := 18) (x := e11) (bl := -2147483648) (bh := 2147483647) (nx := 60) (r1 := 4) (r2 := 9) (r3 := 0) rfl (by decide) rfl ⟨rfl, rfl⟩ rfl rfl g8 rfl (by omega) (fun h12 g12 w12 u12 => ?_)
    have F13 := F9.then rfl u12
    refine wi_aload_n (i := 0) (x := 18) (nx := 61) (r1 := 0) (r2 := 0) (r3 := 0) rfl rfl ?_
    refine wi_dup (nx := 62) (r1 := 0) (r2 := 0) (r3 := 0) rfl rfl ?_
    have b14 := gi_b (lo := -2147483648) (hi := 2147483647) g 18 13 rfl
    refine wr_gi0 (k0 := 18) (x := h 18 13) (nx := 65) (r1 := 4) (r2 := 13) (r3 := 0) rfl rfl (by decide) rfl ⟨rfl, rfl⟩ rfl ((u12 18 13 rfl).trans (u8 18 13 rfl)) ?_
    refine wi_iload (i := 4) (e := z7) (nx := 67) (r1 := 0) (r2 := 0) (r3 := 0) rfl rfl ?_
    refine wr_addW (nx := 68) (r1 := 0) (r2 := 0) (r3 := 0) rfl (fun e15 (fe15 : -2147483648 ≤ e15 ∧ e15 ≤ 2147483647) => ?_)
    refine wr_pf0 (k0 := 18) (x := e15) (bl := -2147483648) (bh := 2147483647) (nx := 71) (r1 := 4) (r2 := 13) (r3 := 0) rfl (by decide) rfl ⟨rfl, rfl⟩ rfl rfl g12 rfl (by omega) (fun h16 g16 w16 u16 => ?_)
    have F17 := F13.then rfl u16
    refine wi_iload_n (i := 3) (e := 0) (nx := 72) (r1 := 0) (r2 := 0) (r3 := 0) rfl rfl ?_
    refine wi_iconst (n := 1) (nx := 73) (r1 := 0) (r2 := 0) (r3 := 0) rfl ?_
    refine wi_iand (e := 0) (nx := 74) (r1 := 0) (r2 := 0) (r3 := 0) rfl (by decide) ?_
    refine wi_if (cd := .eq) (nx := 77) (r1 := 87) (r2 := 0) (r3 := 0) rfl (by omega) (fun (q18 : 0 = 0) => ?_) (fun (q18 : ¬ (0 = 0)) => by exfalso; omega)
    refine wi_iload_n (i := 3) (e := 0) (nx := 88) (r1 := 0) (r2 := 0) (r3 := 0) rfl rfl ?_
    refine wi_iconst (n := 2) (nx := 89) (r1 := 0) (r2 := 0) (r3 := 0) rfl ?_
    refine wi_iand (e := 0) (nx := 90) (r1 := 0) (r2 := 0) (r3 := 0) rfl (by decide) ?_
    refine wi_if (cd := .eq) (nx := 93) (r1 := 103) (r2 := 0) (r3 := 0) rfl (by omega) (fun (q19 : 0 = 0) => ?_) (fun (q19 : ¬ (0 = 0)) => by exfalso; omega)
    refine wi_aload_n (i := 0) (x := 18) (nx := 104) (r1 := 0) (r2 := 0) (r3 := 0) rfl rfl ?_
    refine wi_dup (nx := 105) (r1 := 0) (r2 := 0) (r3 := 0) rfl rfl ?_
    have b20 := gi_b (lo := -2147483648) (hi := 2147483647) g 18 10 rfl
    refine wr_gi0 (k0 := 18) (x := h 18 10) (nx := 108) (r1 := 4) (r2 := 10) (r3 := 0) rfl rfl (by decide) rfl ⟨rfl, rfl⟩ rfl ((u16 18 10 rfl).trans ((u12 18 10 rfl).trans (u8 18 10 rfl))) ?_
    refine wi_iconst (n := 1) (nx := 109) (r1 := 0) (r2 := 0) (r3 := 0) rfl ?_
    refine wr_addW (nx := 110) (r1 := 0) (r2 := 0) (r3 := 0) rfl (fun e21 (fe21 : -2147483648 ≤ e21 ∧ e21 ≤ 2147483647) => ?_)
    refine wr_pf0 (k0 := 18) (x := e21) (bl := -2147483648) (bh := 2147483647) (nx := 113) (r1 := 4) (r2 := 10) (r3 := 0) rfl (by decide) rfl ⟨rfl, rfl⟩ rfl rfl g16 rfl (by omega) (fun h22 g22 w22 u22 => ?_)
    have F23 := F17.then rfl u22
    refine wi_aload_n (i := 0) (x := 18) (nx := 114) (r1 := 0) (r2 := 0) (r3 := 0) rfl rfl ?_
    refine wi_iload_n (i := 1) (e := a0) (nx := 115) (r1 := 0) (r2 := 0) (r3 := 0) rfl rfl ?_
    refine wi_iload (i := 4) (e := z7) (nx := 117) (r1 := 0) (r2 := 0) (r3 := 0) rfl rfl ?_
    refine wi_iload_n (i := 2) (e := a1) (nx := 118) (r1 := 0) (r2 := 0) (r3 := 0) rfl rfl ?_
    refine wi_if (cd := .eq) (nx := 121) (r1 := 127) (r2 := 0) (r3 := 0) rfl (by omega) (fun (q24 : a1 = 0) => ?_) (fun (q24 : ¬ (a1 = 0)) => ?_)
    ·
      refine wi_iload_n (i := 3) (e := 0) (nx := 128) (r1 := 0) (r2 := 0) (r3 := 0) rfl rfl ?_
      refine wr_V (k0 := 18) (rest := []) (as := [.ref 18, vi a0, vi z7, vi 0]) (nx := 131) (r1 := 86) (r2 := 3) (r3 := 4) rfl rfl rfl (of_decide_eq_true rfl) rfl rfl (by decide) rfl rfl (of_decide_eq_true rfl) (of_decide_eq_true rfl) ?_
      refine ct_86_18 hcr  g22 a0 z7 0 (by omega) (by omega) (by omega)  (fun h25 g25 u25 => ?_)
      have F26 := F23.then (by decide +kernel) u25
      refine wk_n ?_
      refine wi_return (nx := 132) (r1 := 0) (r2 := 0) (r3 := 0) rfl rfl ?_
      have b27 := gi_b (lo := -2147483648) (hi := 2147483647) g 18 16 rfl
      have e28 : h25 18 16 = h 18 16 := ((u25 18 16 rfl).trans ((u22 18 16 rfl).trans ((u16 18 16 rfl).trans ((u12 18 16 rfl).trans (u8 18 16 rfl)))))
      have b29 := gi_b (lo := 0) (hi := 12) g 18 7 rfl
      have e30 : h25 18 7 = h 18 7 := ((u25 18 7 rfl).trans ((u22 18 7 rfl).trans ((u16 18 7 rfl).trans ((u12 18 7 rfl).trans (u8 18 7 rfl)))))
      exact k h25 g25 F26 (show (h25 18 16) = (h 18 16) by omega) (show (h25 18 7) = (h 18 7) by omega)
    ·
      refine wi_iload_n (i := 3) (e := 0) (nx := 122) (r1 := 0) (r2 := 0) (r3 := 0) rfl rfl ?_
      refine wi_iconst (n := 4) (nx := 123) (r1 := 0) (r2 := 0) (r3 := 0) rfl ?_
      refine wi_ior (e := 4) (nx := 124) (r1 := 0) (r2 := 0) (r3 := 0) rfl (by decide) ?_
      refine wi_goto (nx := 127) (r1 := 128) (r2 := 0) (r3 := 0) rfl ?_
      refine wr_V (k0 := 18) (rest := []) (as := [.ref 18, vi a0, vi z7, vi 4]) (nx := 131) (r1 := 86) (r2 := 3) (r3 := 4) rfl rfl rfl (of_decide_eq_true rfl) rfl rfl (by decide) rfl rfl (of_decide_eq_true rfl) (of_decide_eq_true rfl) ?_
      refine ct_86_18 hcr  g22 a0 z7 4 (by omega) (by omega) (by omega)  (fun h25 g25 u25 => ?_)
      have F26 := F23.then (by decide +kernel) u25
      refine wk_n ?_
      refine wi_return (nx := 132) (r1 := 0) (r2 := 0) (r3 := 0) rfl rfl ?_
      have b27 := gi_b (lo := -2147483648) (hi := 2147483647) g 18 16 rfl
      have e28 : h25 18 16 = h 18 16 := ((u25 18 16 rfl).trans ((u22 18 16 rfl).trans ((u16 18 16 rfl).trans ((u12 18 16 rfl).trans (u8 18 16 rfl)))))
      have b29 := gi_b (lo := 0) (hi := 12) g 18 7 rfl
      have e30 : h25 18 7 = h 18 7 := ((u25 18 7 rfl).trans ((u22 18 7 rfl).trans ((u16 18 7 rfl).trans ((u12 18 7 rfl).trans (u8 18 7 rfl)))))
      exact k h25 g25 F26 (show (h25 18 16) = (h 18 16) by omega) (show (h25 18 7) = (h 18 7) by omega)
-- method 99: Row.add(I)V
set_option maxRecDepth 100000 in
set_option maxHeartbeats 100000000 in
theorem ct_99_R {L : Nat} {xs : Nat → Int32} {d b c : Nat} {h : hp} {cr : Nat → Nat → Option Nat} {Q : hp_Q} (hcr : CR cr)  {k0 : Nat} (kk0 : Rw k0) (g : GI h) (a0 : Int) (q0_ : -2147483648 ≤ a0 ∧ a0 ≤ 2147483647)  (k : ∀ (h2 : hp) , GI h2 → FR [(k0, k0 + 1, none)] h h2 → Q (.inl none) (hp_w h2 cr) b c) : wp (md_xa (L, xs)) d 99 (0, [(0, .ref k0), (1, vi a0)], [], hp_w h cr, b, c) Q := by
  have F0 : FR [(k0, k0 + 1, none)] h h := FR.refl
  have nk0 := kk0.2.2.1
  unfold md_nW at nk0
  refine wi_aload_n (i := 0) (x := k0) (nx := 1) (r1 := 0) (r2 := 0) (r3 := 0) rfl rfl ?_
  have b1 := gi_b (lo := 0) (hi := 12) g k0 1 kk0.2.2.2.1
  refine wr_gi0 (k0 := k0) (x := h k0 1) (nx := 4) (r1 := 5) (r2 := 1) (r3 := 0) rfl rfl kk0.k kk0.1 ⟨rfl, rfl⟩ rfl rfl ?_
  refine wi_aload_n (i := 0) (x := k0) (nx := 5) (r1 := 0) (r2 := 0) (r3 := 0) rfl rfl ?_
  refine wr_gr (k0 := k0) (x := k0 + 1) (nx := 8) (r1 := 5) (r2 := 0) (r3 := 0) rfl rfl kk0.k kk0.1 ⟨rfl, rfl⟩ rfl ?_
  refine wr_al (k0 := k0 + 1) (e := 12) (nx := 9) (r1 := 0) (r2 := 0) (r3 := 0) rfl kk0.2.2.1 kk0.2.1 rfl ?_
  refine wi_icmp (cd := .ge) (nx := 12) (r1 := 32) (r2 := 0) (r3 := 0) rfl (by omega) (by omega) (fun (q2 : 12 ≤ (h k0 1)) => ?_) (fun (q2 : ¬ (12 ≤ (h k0 1))) => ?_)
  ·
    refine wi_return (nx := 33) (r1 := 0) (r2 := 0) (r3 := 0) rfl rfl ?_
    exact k h g F0
  ·
    refine wi_aload_n (i := 0) (x := k0) (nx := 13) (r1 := 0) (r2 := 0) (r3 := 0) rfl rfl ?_
    refine wr_gr (k0 := k0) (x := k0 + 1) (nx := 16) (r1 := 5) (r2 := 0) (r3 := 0) rfl rfl kk0.k kk0.1 ⟨rfl, rfl⟩ rfl ?_
    refine wi_aload_n (i := 0) (x := k0) (nx := 17) (r1 := 0) (r2 := 0) (r3 := 0) rfl rfl ?_
    refine wr_gi0 (k0 := k0) (x := h k0 1) (nx := 20) (r1 := 5) (r2 := 1) (r3 := 0) rfl rfl kk0.k kk0.1 ⟨rfl, rfl⟩ rfl rfl ?_
    refine wi_iload_n (i := 1) (e := a0) (nx := 21) (r1 := 0) (r2 := 0) (r3 := 0) rfl rfl ?_
    obtain ⟨i3, ei3⟩ : ∃ q : Nat, (h k0 1) = (q : Int) := ⟨(h k0 1).toNat, by omega⟩
    refine wr_is (k0 := k0 + 1) (a := h k0 1) (f := i3) (x := a0) (bl := -2147483648) (bh := 2147483647) (nx := 22) (r1 := 0) (r2 := 0) (r3 := 0) rfl kk0.2.2.1 kk0.2.1 (by omega) (by omega) (by decide) g (kk0.2.2.2.2 _) (by omega) (fun h4 g4 w4 u4 => ?_)
    have F5 := F0.trans (FR.rngp (lo := k0) (hi := k0 + 1) u4 (by omega))
    refine wi_aload_n (i := 0) (x := k0) (nx := 23) (r1 := 0) (r2 := 0) (r3 := 0) rfl rfl ?_
    refine wi_dup (nx := 24) (r1 := 0) (r2 := 0) (r3 := 0) rfl rfl ?_
    refine wr_gi0 (k0 := k0) (x := h k0 1) (nx := 27) (r1 := 5) (r2 := 1) (r3 := 0) rfl rfl kk0.k kk0.1 ⟨rfl, rfl⟩ rfl (u4 k0 1 (fn_a (by omega) fn_0)) ?_
    refine wi_iconst (n := 1) (nx := 28) (r1 := 0) (r2 := 0) (r3 := 0) rfl ?_
    refine wr_add (nx := 29) (r1 := 0) (r2 := 0) (r3 := 0) rfl (fun e6 (fe6 : e6 = (h k0 1) + 1) => ?_)
    refine wr_pf0 (k0 := k0) (x := e6) (bl := 0) (bh := 12) (nx := 32) (r1 := 5) (r2 := 1) (r3 := 0) rfl kk0.k kk0.1 ⟨rfl, rfl⟩ rfl rfl g4 kk0.2.2.2.1 (by omega) (fun h7 g7 w7 u7 => ?_)
    have F8 := F5.trans (FR.rngp (lo := k0) (hi := k0 + 1) u7 (by omega))
    refine wi_return (nx := 33) (r1 := 0) (r2 := 0) (r3 := 0) rfl rfl ?_
    exact k h7 g7 F8
-- method 84: Line.paintFrom(I)I
set_option maxRecDepth 100000 in
set_option maxHeartbeats 100000000 in
theorem ct_84_18 {L : Nat} {xs : Nat → Int32} {d b c : Nat} {h : hp} {cr : Nat → Nat → Option Nat} {Q : hp_Q} (hcr : CR cr)  (g : GI h) (a0 : Int) (q0_ : -2147483648 ≤ a0 ∧ a0 ≤ 2147483647) (pp0 : h 18 16 ≤ 2000000000) (k : ∀ (h2 : hp) (z0 : Int) , GI h2 → FR [(20, 20, none), (22, 23, none), (24, 25, none), (26, 27, none), (28, 28, none), (29, 36, none), (18, 18, some (8, 13)), (18, 18, some (15, 16))] h h2 → (-1 ≤ z0 ∧ z0 ≤ 11) → ((h2 18 16 = h 18 16 ∧ h2 18 7 = h 18 7) ∨ (h 18 16 + 1 ≤ h2 18 16 ∧ h2 18 16 ≤ h 18 16 + 1)) → Q (.inl (some (vi z0))) (hp_w h2 cr) b c) : wp (md_xa (L, xs)) (d + 2) 84 (0, [(0, .ref 18), (1, vi a0)], [], hp_w h cr, b, c) Q := by
  have F0 : FR [(20, 20, none), (22, 23, none), (24, 25, none), (26, 27, none), (28, 28, none), (29, 36, none), (18, 18, some (8, 13)), (18, 18, some (15, 16))] h h := FR.refl
  have b1 := gi_b (lo := -2147483648) (hi := 2147483647) g 18 16 rfl
  refine wi_aload_n (i := 0) (x := 18) (nx := 1) (r1 := 0) (r2 := 0) (r3 := 0) rfl rfl ?_
  refine wi_iload_n (i := 1) (e := a0) (nx := 2) (r1 := 0) (r2 := 0) (r3 := 0) rfl rfl ?_
  refine wr_V (k0 := 18) (rest := []) (as := [.ref 18, vi a0]) (nx := 5) (r1 := 83) (r2 := 1) (r3 := 4) rfl rfl rfl (of_decide_eq_true rfl) rfl rfl (by decide) rfl rfl (of_decide_eq_true rfl) (of_decide_eq_true rfl) ?_
  refine ct_83_18 hcr  g a0 (by omega)  (fun z3  (fz3 : 0 ≤ z3 ∧ z3 ≤ 1) m2_0 => ?_)
  refine wk_i ?_
  refine wi_if (cd := .ne) (nx := 8) (r1 := 10) (r2 := 0) (r3 := 0) rfl (by omega) (fun (q4 : z3 ≠ 0) => ?_) (fun (q4 : ¬ (z3 ≠ 0)) => ?_)
  ·
    have f5 : 0 ≤ a0 ∧ a0 ≤ 3 := m2_0 (by omega)
    refine wi_aload_n (i := 0) (x := 18) (nx := 11) (r1 := 0) (r2 := 0) (r3 := 0) rfl rfl ?_
    refine wr_gr (k0 := 18) (x := 21) (nx := 14) (r1 := 4) (r2 := 3) (r3 := 0) rfl rfl (by decide) rfl ⟨rfl, rfl⟩ rfl ?_
    refine wi_iload_n (i := 1) (e := a0) (nx := 15) (r1 := 0) (r2 := 0) (r3 := 0) rfl rfl ?_
    obtain ⟨i6, ei6⟩ : ∃ q : Nat, a0 = (q : Int) := ⟨(a0).toNat, by omega⟩
    refine wr_aa (k0 := 21) (a := a0) (f := i6) (x := 21 + 8 + 2 * i6) (nx := 16) (r1 := 0) (r2 := 0) (r3 := 0) rfl (by decide) rfl (Or.inl rfl) (by omega) (by omega) (by decide) (hcr.1 21 (by decide) i6 (by omega)) ?_
    obtain ⟨k7, kk7, mk7⟩ : ∃ q, Rw q ∧ q = 21 + 8 + 2 * i6 := ⟨_, rw_lane 21 (by decide) i6 (by omega), rfl⟩
    rw [← mk7]
    refine wi_iconst (n := 0) (nx := 17) (r1 := 0) (r2 := 0) (r3 := 0) rfl ?_
    refine wr_V (k0 := k7) (rest := []) (as := [.ref k7, vi 0]) (nx := 20) (r1 := 95) (r2 := 1) (r3 := 5) rfl rfl rfl (of_decide_eq_true rfl) rfl rfl kk7.k kk7.1 rfl (of_decide_eq_true rfl) (of_decide_eq_true rfl) ?_
    refine ct_95_R hcr kk7 g 0 (by omega)  (fun z9  (fz9 : -2147483648 ≤ z9 ∧ z9 ≤ 2147483647) => ?_)
    refine wk_i ?_
    refine wi_istore_n (i := 2) (e := z9) (lo2 := [(2, vi z9), (0, .ref 18), (1, vi a0)]) (nx := 21) (r1 := 0) (r2 := 0) (r3 := 0) rfl rfl ?_
    refine wi_iload_n (i := 2) (e := z9) (nx := 22) (r1 := 0) (r2 := 0) (r3 := 0) rfl rfl ?_
    refine wi_if (cd := .lt) (nx := 25) (r1 := 31) (r2 := 0) (r3 := 0) rfl (by omega) (fun (q10 : z9 < 0) => ?_) (fun (q10 : ¬ (z9 < 0)) => ?_)
    ·
      refine wi_iconst (n := (-1)) (nx := 32) (r1 := 0) (r2 := 0) (r3 := 0) rfl ?_
      refine wi_ireturn (nx := 33) (r1 := 0) (r2 := 0) (r3 := 0) rfl rfl ?_
      have b11 := gi_b (lo := 0) (hi := 12) g 18 7 rfl
      exact k h (-1) g F0 (by omega) (show ((h 18 16) = (h 18 16) ∧ (h 18 7) = (h 18 7)) ∨ ((h 18 16) + 1 ≤ (h 18 16) ∧ (h 18 16) ≤ (h 18 16) + 1) by omega)
    ·
      refine wi_iload_n (i := 2) (e := z9) (nx := 26) (r1 := 0) (r2 := 0) (r3 := 0) rfl rfl ?_
      refine wi_bipush (n := 12) (nx := 28) (r1 := 0) (r2 := 0) (r3 := 0) rfl (by decide) ?_
      refine wi_icmp (cd := .lt) (nx := 31) (r1 := 33) (r2 := 0) (r3 := 0) rfl (by omega) (by omega) (fun (q11 : z9 < 12) => ?_) (fun (q11 : ¬ (z9 < 12)) => ?_)
      ·
        refine wi_aload_n (i := 0) (x := 18) (nx := 34) (r1 := 0) (r2 := 0) (r3 := 0) rfl rfl ?_
        refine wr_gr (k0 := 18) (x := 21) (nx := 37) (r1 := 4) (r2 := 3) (r3 := 0) rfl rfl (by decide) rfl ⟨rfl, rfl⟩ rfl ?_
        refine wi_iload_n (i := 1) (e := a0) (nx := 38) (r1 := 0) (r2 := 0) (r3 := 0) rfl rfl ?_
        refine wr_aa (k0 := 21) (a := a0) (f := i6) (x := 21 + 8 + 2 * i6) (nx := 39) (r1 := 0) (r2 := 0) (r3 := 0) rfl (by decide) rfl (Or.inl rfl) (by omega) (by omega) (by decide) (hcr.1 21 (by decide) i6 (by omega)) ?_
        obtain ⟨k12, kk12, mk12⟩ : ∃ q, Rw q ∧ q = 21 + 8 + 2 * i6 := ⟨_, rw_lane 21 (by decide) i6 (by omega), rfl⟩
        rw [← mk12]
        refine wr_V (k0 := k12) (rest := []) (as := [.ref k12]) (nx := 42) (r1 := 98) (r2 := 0) (r3 := 5) rfl rfl rfl (of_decide_eq_true rfl) rfl rfl kk12.k kk12.1 rfl (of_decide_eq_true rfl) (of_decide_eq_true rfl) ?_
        refine ct_98_R hcr kk12 g    (fun h13 g13 u13 => ?_)
        have v13 := FR.rngp (lo := 29) (hi := 36) u13 (by omega)
        have F14 := F0.then rfl (FR.rngp (lo := 29) (hi := 36) u13 (by omega))
        refine wk_n ?_
        refine wi_aload_n (i := 0) (x := 18) (nx := 43) (r1 := 0) (r2 := 0) (r3 := 0) rfl rfl ?_
        refine wr_gr (k0 := 18) (x := 20) (nx := 46) (r1 := 4) (r2 := 2) (r3 := 0) rfl rfl (by decide) rfl ⟨rfl, rfl⟩ rfl ?_
        refine wi_iload_n (i := 2) (e := z9) (nx := 47) (r1 := 0) (r2 := 0) (r3 := 0) rfl rfl ?_
        obtain ⟨i15, ei15⟩ : ∃ q : Nat, z9 = (q : Int) := ⟨(z9).toNat, by omega⟩
        have b16 := gi_b (lo := -2147483648) (hi := 2147483647) g 20 i15 rfl
        refine wr_ia (k0 := 20) (a := z9) (f := i15) (x := h 20 i15) (nx := 48) (r1 := 0) (r2 := 0) (r3 := 0) rfl (by decide) rfl (by omega) (by omega) (by decide) (v13 20 i15 (fn_a (by omega) fn_0)) ?_
        refine wi_if (cd := .le) (nx := 51) (r1 := 55) (r2 := 0) (r3 := 0) rfl (by omega) (fun (q17 : (h 20 i15) ≤ 0) => ?_) (fun (q17 : ¬ ((h 20 i15) ≤ 0)) => ?_)
        ·
          refine wi_iconst (n := 0) (nx := 56) (r1 := 0) (r2 := 0) (r3 := 0) rfl ?_
          refine wi_istore_n (i := 3) (e := 0) (lo2 := [(3, vi 0), (2, vi z9), (0, .ref 18), (1, vi a0)]) (nx := 57) (r1 := 0) (r2 := 0) (r3 := 0) rfl rfl ?_
          refine wi_aload_n (i := 0) (x := 18) (nx := 58) (r1 := 0) (r2 := 0) (r3 := 0) rfl rfl ?_
          refine wi_iload_n (i := 2) (e := z9) (nx := 59) (r1 := 0) (r2 := 0) (r3 := 0) rfl rfl ?_
          refine wi_iload_n (i := 3) (e := 0) (nx := 60) (r1 := 0) (r2 := 0) (r3 := 0) rfl rfl ?_
          refine wr_V (k0 := 18) (rest := []) (as := [.ref 18, vi z9, vi 0]) (nx := 63) (r1 := 85) (r2 := 2) (r3 := 4) rfl rfl rfl (of_decide_eq_true rfl) rfl rfl (by decide) rfl rfl (of_decide_eq_true rfl) (of_decide_eq_true rfl) ?_
          refine ct_85_18 hcr  g13 z9 0 (by omega) (by omega)  (fun h18 g18 u18 (p18_0 : (h18 18 16) = (h13 18 16)) (p18_1 : (h18 18 7) = (h13 18 7)) => ?_)
          have F19 := F14.then (by decide +kernel) u18
          have e20 : h13 18 16 = h 18 16 := (v13 18 16 rfl)
          have e21 : h18 18 16 = h 18 16 := ((u18 18 16 rfl).trans (v13 18 16 rfl))
          have b22 := gi_b (lo := 0) (hi := 12) g 18 7 rfl
          have e23 : h13 18 7 = h 18 7 := (v13 18 7 rfl)
          have e24 : h18 18 7 = h 18 7 := ((u18 18 7 rfl).trans (v13 18 7 rfl))
          refine wk_n ?_
          refine wi_iload_n (i := 3) (e := 0) (nx := 64) (r1 := 0) (r2 := 0) (r3 := 0) rfl rfl ?_
          refine wi_if (cd := .eq) (nx := 67) (r1 := 107) (r2 := 0) (r3 := 0) rfl (by omega) (fun (q25 : 0 = 0) => ?_) (fun (q25 : ¬ (0 = 0)) => by exfalso; omega)
          refine wi_aload_n (i := 0) (x := 18) (nx := 108) (r1 := 0) (r2 := 0) (r3 := 0) rfl rfl ?_
          refine wr_gr (k0 := 18) (x := 26) (nx := 111) (r1 := 4) (r2 := 6) (r3 := 0) rfl rfl (by decide) rfl ⟨rfl, rfl⟩ rfl ?_
          refine wi_iload_n (i := 2) (e := z9) (nx := 112) (r1 := 0) (r2 := 0) (r3 := 0) rfl rfl ?_
          refine wr_V (k0 := 26) (rest := []) (as := [.ref 26, vi z9]) (nx := 115) (r1 := 99) (r2 := 1) (r3 := 5) rfl rfl rfl (of_decide_eq_true rfl) rfl rfl (by decide) rfl rfl (of_decide_eq_true rfl) (of_decide_eq_true rfl) ?_
          refine ct_99_R hcr rw_26 g18 z9 (by omega)  (fun h26 g26 u26 => ?_)
          have F27 := F19.then rfl u26
          refine wk_n ?_
          refine wi_aload_n (i := 0) (x := 18) (nx := 116) (r1 := 0) (r2 := 0) (r3 := 0) rfl rfl ?_
          refine wi_dup (nx := 117) (r1 := 0) (r2 := 0) (r3 := 0) rfl rfl ?_
          refine wr_gi0 (k0 := 18) (x := h 18 16) (nx := 120) (r1 := 4) (r2 := 16) (r3 := 0) rfl rfl (by decide) rfl ⟨rfl, rfl⟩ rfl ((u26 18 16 rfl).trans ((u18 18 16 rfl).trans (v13 18 16 rfl))) ?_
          refine wi_iconst (n := 1) (nx := 121) (r1 := 0) (r2 := 0) (r3 := 0) rfl ?_
          refine wr_add (nx := 122) (r1 := 0) (r2 := 0) (r3 := 0) rfl (fun e28 (fe28 : e28 = (h 18 16) + 1) => ?_)
          refine wr_pf0 (k0 := 18) (x := e28) (bl := -2147483648) (bh := 2147483647) (nx := 125) (r1 := 4) (r2 := 16) (r3 := 0) rfl (by decide) rfl ⟨rfl, rfl⟩ rfl rfl g26 rfl (by omega) (fun h29 g29 w29 u29 => ?_)
          have F30 := F27.then rfl u29
          refine wi_iload_n (i := 2) (e := z9) (nx := 126) (r1 := 0) (r2 := 0) (r3 := 0) rfl rfl ?_
          refine wi_ireturn (nx := 127) (r1 := 0) (r2 := 0) (r3 := 0) rfl rfl ?_
          have e31 : h29 18 16 = e28 := w29
          have e32 : h29 18 7 = h 18 7 := ((u29 18 7 rfl).trans ((u26 18 7 rfl).trans ((u18 18 7 rfl).trans (v13 18 7 rfl))))
          exact k h29 z9 g29 F30 (by omega) (show ((h29 18 16) = (h 18 16) ∧ (h29 18 7) = (h 18 7)) ∨ ((h 18 16) + 1 ≤ (h29 18 16) ∧ (h29 18 16) ≤ (h 18 16) + 1) by omega)
        ·
          refine wi_iconst (n := 1) (nx := 52) (r1 := 0) (r2 := 0) (r3 := 0) rfl ?_
          refine wi_goto (nx := 55) (r1 := 56) (r2 := 0) (r3 := 0) rfl ?_
          refine wi_istore_n (i := 3) (e := 1) (lo2 := [(3, vi 1), (2, vi z9), (0, .ref 18), (1, vi a0)]) (nx := 57) (r1 := 0) (r2 := 0) (r3 := 0) rfl rfl ?_
          refine wi_aload_n (i := 0) (x := 18) (nx := 58) (r1 := 0) (r2 := 0) (r3 := 0) rfl rfl ?_
          refine wi_iload_n (i := 2) (e := z9) (nx := 59) (r1 := 0) (r2 := 0) (r3 := 0) rfl rfl ?_
          refine wi_iload_n (i := 3) (e := 1) (nx := 60) (r1 := 0) (r2 := 0) (r3 := 0) rfl rfl ?_
          refine wr_V (k0 := 18) (rest := []) (as := [.ref 18, vi z9, vi 1]) (nx := 63) (r1 := 85) (r2 := 2) (r3 := 4) rfl rfl rfl (of_decide_eq_true rfl) rfl rfl (by decide) rfl rfl (of_decide_eq_true rfl) (of_decide_eq_true rfl) ?_
          refine ct_85_18 hcr  g13 z9 1 (by omega) (by omega)  (fun h18 g18 u18 (p18_0 : (h18 18 16) = (h13 18 16)) (p18_1 : (h18 18 7) = (h13 18 7)) => ?_)
          have F19 := F14.then (by decide +kernel) u18
          have e20 : h13 18 16 = h 18 16 := (v13 18 16 rfl)
          have e21 : h18 18 16 = h 18 16 := ((u18 18 16 rfl).trans (v13 18 16 rfl))
          have b22 := gi_b (lo := 0) (hi := 12) g 18 7 rfl
          have e23 : h13 18 7 = h 18 7 := (v13 18 7 rfl)
          have e24 : h18 18 7 = h 18 7 := ((u18 18 7 rfl).trans (v13 18 7 rfl))
          refine wk_n ?_
          refine wi_iload_n (i := 3) (e := 1) (nx := 64) (r1 := 0) (r2 := 0) (r3 := 0) rfl rfl ?_
          refine wi_if (cd := .eq) (nx := 67) (r1 := 107) (r2 := 0) (r3 := 0) rfl (by omega) (fun (q25 : 1 = 0) => by exfalso; omega) (fun (q25 : ¬ (1 = 0)) => ?_)
          refine wi_aload_n (i := 0) (x := 18) (nx := 68) (r1 := 0) (r2 := 0) (r3 := 0) rfl rfl ?_
          refine wr_gr (k0 := 18) (x := 20) (nx := 71) (r1 := 4) (r2 := 2) (r3 := 0) rfl rfl (by decide) rfl ⟨rfl, rfl⟩ rfl ?_
          refine wi_iload_n (i := 2) (e := z9) (nx := 72) (r1 := 0) (r2 := 0) (r3 := 0) rfl rfl ?_
          refine wi_dup2 (nx := 73) (r1 := 0) (r2 := 0) (r3 := 0) rfl rfl rfl ?_
          refine wr_ia (k0 := 20) (a := z9) (f := i15) (x := h 20 i15) (nx := 74) (r1 := 0) (r2 := 0) (r3 := 0) rfl (by decide) rfl (by omega) (by omega) (by decide) ((u18 20 i15 (fn_a (by omega) (fn_a (by omega) (fn_a (by omega) fn_0)))).trans (v13 20 i15 (fn_a (by omega) fn_0))) ?_
          refine wi_iconst (n := 1) (nx := 75) (r1 := 0) (r2 := 0) (r3 := 0) rfl ?_
          refine wr_sub (nx := 76) (r1 := 0) (r2 := 0) (r3 := 0) rfl (fun e26 (fe26 : e26 = (h 20 i15) - 1) => ?_)
          refine wr_is (k0 := 20) (a := z9) (f := i15) (x := e26) (bl := -2147483648) (bh := 2147483647) (nx := 77) (r1 := 0) (r2 := 0) (r3 := 0) rfl (by decide) rfl (by omega) (by omega) (by decide) g18 rfl (by omega) (fun h27 g27 w27 u27 => ?_)
          have F28 := F19.then rfl (FR.rngp (lo := 20) (hi := 20) u27 (by decide))
          refine wi_aload_n (i := 0) (x := 18) (nx := 78) (r1 := 0) (r2 := 0) (r3 := 0) rfl rfl ?_
          refine wr_gr (k0 := 18) (x := 22) (nx := 81) (r1 := 4) (r2 := 4) (r3 := 0) rfl rfl (by decide) rfl ⟨rfl, rfl⟩ rfl ?_
          refine wi_iload_n (i := 2) (e := z9) (nx := 82) (r1 := 0) (r2 := 0) (r3 := 0) rfl rfl ?_
          refine wr_V (k0 := 22) (rest := []) (as := [.ref 22, vi z9]) (nx := 85) (r1 := 99) (r2 := 1) (r3 := 5) rfl rfl rfl (of_decide_eq_true rfl) rfl rfl (by decide) rfl rfl (of_decide_eq_true rfl) (of_decide_eq_true rfl) ?_
          refine ct_99_R hcr rw_22 g27 z9 (by omega)  (fun h29 g29 u29 => ?_)
          have F30 := F28.then rfl u29
          refine wk_n ?_
          refine wi_aload_n (i := 0) (x := 18) (nx := 86) (r1 := 0) (r2 := 0) (r3 := 0) rfl rfl ?_
          refine wr_gr (k0 := 18) (x := 24) (nx := 89) (r1 := 4) (r2 := 5) (r3 := 0) rfl rfl (by decide) rfl ⟨rfl, rfl⟩ rfl ?_
          refine wi_aload_n (i := 0) (x := 18) (nx := 90) (r1 := 0) (r2 := 0) (r3 := 0) rfl rfl ?_
          have b31 := gi_b (lo := -2147483648) (hi := 2147483647) g18 18 10 rfl
          refine wr_gi0 (k0 := 18) (x := h18 18 10) (nx := 93) (r1 := 4) (r2 := 10) (r3 := 0) rfl rfl (by decide) rfl ⟨rfl, rfl⟩ rfl ((u29 18 10 rfl).trans (u27 18 10 (fn_a (by omega) fn_0))) ?_
          refine wi_aload_n (i := 0) (x := 18) (nx := 94) (r1 := 0) (r2 := 0) (r3 := 0) rfl rfl ?_
          refine wr_gr (k0 := 18) (x := 3) (nx := 97) (r1 := 4) (r2 := 0) (r3 := 0) rfl rfl (by decide) rfl ⟨rfl, rfl⟩ rfl ?_
          have b32 := gi_b (lo := -2147483648) (hi := 2147483647) g 3 8 rfl
          refine wr_gi0 (k0 := 3) (x := h 3 8) (nx := 100) (r1 := 2) (r2 := 8) (r3 := 0) rfl rfl (by decide) rfl ⟨rfl, rfl⟩ rfl ((u29 3 8 rfl).trans ((u27 3 8 (fn_a (by omega) fn_0)).trans ((u18 3 8 rfl).trans (v13 3 8 rfl)))) ?_
          refine wr_addW (nx := 101) (r1 := 0) (r2 := 0) (r3 := 0) rfl (fun e33 (fe33 : -2147483648 ≤ e33 ∧ e33 ≤ 2147483647) => ?_)
          refine wr_V (k0 := 24) (rest := []) (as := [.ref 24, vi e33]) (nx := 104) (r1 := 99) (r2 := 1) (r3 := 5) rfl rfl rfl (of_decide_eq_true rfl) rfl rfl (by decide) rfl rfl (of_decide_eq_true rfl) (of_decide_eq_true rfl) ?_
          refine ct_99_R hcr rw_24 g29 e33 (by omega)  (fun h34 g34 u34 => ?_)
          have F35 := F30.then rfl u34
          refine wk_n ?_
          refine wi_goto (nx := 107) (r1 := 115) (r2 := 0) (r3 := 0) rfl ?_
          refine wi_aload_n (i := 0) (x := 18) (nx := 116) (r1 := 0) (r2 := 0) (r3 := 0) rfl rfl ?_
          refine wi_dup (nx := 117) (r1 := 0) (r2 := 0) (r3 := 0) rfl rfl ?_
          refine wr_gi0 (k0 := 18) (x := h 18 16) (nx := 120) (r1 := 4) (r2 := 16) (r3 := 0) rfl rfl (by decide) rfl ⟨rfl, rfl⟩ rfl ((u34 18 16 rfl).trans ((u29 18 16 rfl).trans ((u27 18 16 (fn_a (by omega) fn_0)).trans ((u18 18 16 rfl).trans (v13 18 16 rfl))))) ?_
          refine wi_iconst (n := 1) (nx := 121) (r1 := 0) (r2 := 0) (r3 := 0) rfl ?_
          refine wr_add (nx := 122) (r1 := 0) (r2 := 0) (r3 := 0) rfl (fun e36 (fe36 : e36 = (h 18 16) + 1) => ?_)
          refine wr_pf0 (k0 := 18) (x := e36) (bl := -2147483648) (bh := 2147483647) (nx := 125) (r1 := 4) (r2 := 16) (r3 := 0) rfl (by decide) rfl ⟨rfl, rfl⟩ rfl rfl g34 rfl (by omega) (fun h37 g37 w37 u37 => ?_)
          have F38 := F35.then rfl u37
          refine wi_iload_n (i := 2) (e := z9) (nx := 126) (r1 := 0) (r2 := 0) (r3 := 0) rfl rfl ?_
          refine wi_ireturn (nx := 127) (r1 := 0) (r2 := 0) (r3 := 0) rfl rfl ?_
          have e39 : h37 18 16 = e36 := w37
          have e40 : h37 18 7 = h 18 7 := ((u37 18 7 rfl).trans ((u34 18 7 rfl).trans ((u29 18 7 rfl).trans ((u27 18 7 (fn_a (by omega) fn_0)).trans ((u18 18 7 rfl).trans (v13 18 7 rfl))))))
          exact k h37 z9 g37 F38 (by omega) (show ((h37 18 16) = (h 18 16) ∧ (h37 18 7) = (h 18 7)) ∨ ((h 18 16) + 1 ≤ (h37 18 16) ∧ (h37 18 16) ≤ (h 18 16) + 1) by omega)
      ·
        refine wi_iconst (n := (-1)) (nx := 32) (r1 := 0) (r2 := 0) (r3 := 0) rfl ?_
        refine wi_ireturn (nx := 33) (r1 := 0) (r2 := 0) (r3 := 0) rfl rfl ?_
        have b12 := gi_b (lo := 0) (hi := 12) g 18 7 rfl
        exact k h (-1) g F0 (by omega) (show ((h 18 16) = (h 18 16) ∧ (h 18 7) = (h 18 7)) ∨ ((h 18 16) + 1 ≤ (h 18 16) ∧ (h 18 16) ≤ (h 18 16) + 1) by omega)
  ·
    refine wi_iconst (n := (-1)) (nx := 9) (r1 := 0) (r2 := 0) (r3 := 0) rfl ?_
    refine wi_ireturn (nx := 10) (r1 := 0) (r2 := 0) (r3 := 0) rfl rfl ?_
    have b5 := gi_b (lo := 0) (hi := 12) g 18 7 rfl
    exact k h (-1) g F0 (by omega) (show ((h 18 16) = (h 18 16) ∧ (h 18 7) = (h 18 7)) ∨ ((h 18 16) + 1 ≤ (h 18 16) ∧ (h 18 16) ≤ (h 18 16) + 1) by omega)
-- method 87: Line.passTime()I
set_option maxRecDepth 100000 in
set_option maxHeartbeats 100000000 in
theorem ct_87_18 {L : Nat} {xs : Nat → Int32} {d b c : Nat} {h : hp} {cr : Nat → Nat → Option Nat} {Q : hp_Q} (hcr : CR cr)  (g : GI h)   (pp0 : h 18 16 ≤ 2000000000) (k : ∀ (h2 : hp) (z0 : Int) , GI h2 → FR [(18, 18, some (10, 10)), (18, 18, some (16, 16))] h h2 → (-2147483647 ≤ z0 ∧ z0 ≤ 9999) → ((h2 18 16 = h 18 16 ∧ h2 18 7 = h 18 7) ∨ (h 18 16 + 1 ≤ h2 18 16 ∧ h2 18 16 ≤ h 18 16 + 1)) → Q (.inl (some (vi z0))) (hp_w h2 cr) b c) : wp (md_xa (L, xs)) d 87 (0, [(0, .ref 18)], [], hp_w h cr, b, c) Q := by
  have F0 : FR [(18, 18, some (10, 10)), (18, 18, some (16, 16))] h h := FR.refl
  have b1 := gi_b (lo := -2147483648) (hi := 2147483647) g 18 16 rfl
  refine wi_aload_n (i := 0) (x := 18) (nx := 1) (r1 := 0) (r2 := 0) (r3 := 0) rfl rfl ?_
  have b2 := gi_b (lo := -2147483648) (hi := 2147483647) g 18 10 rfl
  refine wr_gi0 (k0 := 18) (x := h 18 10) (nx := 4) (r1 := 4) (r2 := 10) (r3 := 0) rfl rfl (by decide) rfl ⟨rfl, rfl⟩ rfl rfl ?_
  refine wi_sipush (n := 9999) (nx := 7) (r1 := 0) (r2 := 0) (r3 := 0) rfl (by decide) ?_
  refine wi_icmp (cd := .lt) (nx := 10) (r1 := 12) (r2 := 0) (r3 := 0) rfl (by omega) (by omega) (fun (q3 : (h 18 10) < 9999) => ?_) (fun (q3 : ¬ ((h 18 10) < 9999)) => ?_)
  ·
    refine wi_aload_n (i := 0) (x := 18) (nx := 13) (r1 := 0) (r2 := 0) (r3 := 0) rfl rfl ?_
    refine wi_dup (nx := 14) (r1 := 0) (r2 := 0) (r3 := 0) rfl rfl ?_
    refine wr_gi0 (k0 := 18) (x := h 18 10) (nx := 17) (r1 := 4) (r2 := 10) (r3 := 0) rfl rfl (by decide) rfl ⟨rfl, rfl⟩ rfl rfl ?_
    refine wi_iconst (n := 1) (nx := 18) (r1 := 0) (r2 := 0) (r3 := 0) rfl ?_
    refine wr_add (nx := 19) (r1 := 0) (r2 := 0) (r3 := 0) rfl (fun e4 (fe4 : e4 = (h 18 10) + 1) => ?_)
    refine wr_pf0 (k0 := 18) (x := e4) (bl := -2147483648) (bh := 2147483647) (nx := 22) (r1 := 4) (r2 := 10) (r3 := 0) rfl (by decide) rfl ⟨rfl, rfl⟩ rfl rfl g rfl (by omega) (fun h5 g5 w5 u5 => ?_)
    have F6 := F0.then rfl u5
    refine wi_aload_n (i := 0) (x := 18) (nx := 23) (r1 := 0) (r2 := 0) (r3 := 0) rfl rfl ?_
    refine wi_dup (nx := 24) (r1 := 0) (r2 := 0) (r3 := 0) rfl rfl ?_
    refine wr_gi0 (k0 := 18) (x := h 18 16) (nx := 27) (r1 := 4) (r2 := 16) (r3 := 0) rfl rfl (by decide) rfl ⟨rfl, rfl⟩ rfl (u5 18 16 rfl) ?_
    refine wi_iconst (n := 1) (nx := 28) (r1 := 0) (r2 := 0) (r3 := 0) rfl ?_
    refine wr_add (nx := 29) (r1 := 0) (r2 := 0) (r3 := 0) rfl (fun e7 (fe7 : e7 = (h 18 16) + 1) => ?_)
    refine wr_pf0 (k0 := 18) (x := e7) (bl := -2147483648) (bh := 2147483647) (nx := 32) (r1 := 4) (r2 := 16) (r3 := 0) rfl (by decide) rfl ⟨rfl, rfl⟩ rfl rfl g5 rfl (by omega) (fun h8 g8 w8 u8 => ?_)
    have F9 := F6.then rfl u8
    refine wi_aload_n (i := 0) (x := 18) (nx := 33) (r1 := 0) (r2 := 0) (r3 := 0) rfl rfl ?_
    refine wr_gi0 (k0 := 18) (x := e4) (nx := 36) (r1 := 4) (r2 := 10) (r3 := 0) rfl rfl (by decide) rfl ⟨rfl, rfl⟩ rfl ((u8 18 10 rfl).trans w5) ?_
    refine wi_ireturn (nx := 37) (r1 := 0) (r2 := 0) (r3 := 0) rfl rfl ?_
    have e10 : h8 18 16 = e7 := w8
    have b11 := gi_b (lo := 0) (hi := 12) g 18 7 rfl
    have e12 : h8 18 7 = h 18 7 := ((u8 18 7 rfl).trans (u5 18 7 rfl))
    exact k h8 e4 g8 F9 (by omega) (show ((h8 18 16) = (h 18 16) ∧ (h8 18 7) = (h 18 7)) ∨ ((h 18 16) + 1 ≤ (h8 18 16) ∧ (h8 18 16) ≤ (h 18 16) + 1) by omega)
  ·
    refine wi_iconst (n := (-1)) (nx := 11) (r1 := 0) (r2 := 0) (r3 := 0) rfl ?_
    refine wi_ireturn (nx := 12) (r1 := 0) (r2 := 0) (r3 := 0) rfl rfl ?_
    have b4 := gi_b (lo := 0) (hi := 12) g 18 7 rfl
    exact k h (-1) g F0 (by omega) (show ((h 18 16) = (h 18 16) ∧ (h 18 7) = (h 18 7)) ∨ ((h 18 16) + 1 ≤ (h 18 16) ∧ (h 18 16) ≤ (h 18 16) + 1) by omega)
-- method 97: Row.last()I
set_option maxRecDepth 100000 in
set_option maxHeartbeats 100000000 in
theorem ct_97_R {L : Nat} {xs : Nat → Int32} {d b c : Nat} {h : hp} {cr : Nat → Nat → Option Nat} {Q : hp_Q} (hcr : CR cr)  {k0 : Nat} (kk0 : Rw k0) (g : GI h)    (k : ∀ (z0 : Int), (-2147483648 ≤ z0 ∧ z0 ≤ 2147483647) → Q (.inl (some (vi z0))) (hp_w h cr) b c) : wp (md_xa (L, xs)) d 97 (0, [(0, .ref k0)], [], hp_w h cr, b, c) Q := by
  have F0 : FR [] h h := FR.refl
  have nk0 := kk0.2.2.1
  unfold md_nW at nk0
  refine wi_aload_n (i := 0) (x := k0) (nx := 1) (r1 := 0) (r2 := 0) (r3 := 0) rfl rfl ?_
  have b1 := gi_b (lo := 0) (hi := 12) g k0 1 kk0.2.2.2.1
  refine wr_gi0 (k0 := k0) (x := h k0 1) (nx := 4) (r1 := 5) (r2 := 1) (r3 := 0) rfl rfl kk0.k kk0.1 ⟨rfl, rfl⟩ rfl rfl ?_
  refine wi_if (cd := .le) (nx := 7) (r1 := 21) (r2 := 0) (r3 := 0) rfl (by omega) (fun (q2 : (h k0 1) ≤ 0) => ?_) (fun (q2 : ¬ ((h k0 1) ≤ 0)) => ?_)
  ·
    refine wi_iconst (n := (-1)) (nx := 22) (r1 := 0) (r2 := 0) (r3 := 0) rfl ?_
    refine wi_ireturn (nx := 23) (r1 := 0) (r2 := 0) (r3 := 0) rfl rfl ?_
    exact k (-1) (by omega)
  ·
    refine wi_aload_n (i := 0) (x := k0) (nx := 8) (r1 := 0) (r2 := 0) (r3 := 0) rfl rfl ?_
    refine wr_gr (k0 := k0) (x := k0 + 1) (nx := 11) (r1 := 5) (r2 := 0) (r3 := 0) rfl rfl kk0.k kk0.1 ⟨rfl, rfl⟩ rfl ?_
    refine wi_aload_n (i := 0) (x := k0) (nx := 12) (r1 := 0) (r2 := 0) (r3 := 0) rfl rfl ?_
    refine wr_gi0 (k0 := k0) (x := h k0 1) (nx := 15) (r1 := 5) (r2 := 1) (r3 := 0) rfl rfl kk0.k kk0.1 ⟨rfl, rfl⟩ rfl rfl ?_
    refine wi_iconst (n := 1) (nx := 16) (r1 := 0) (r2 := 0) (r3 := 0) rfl ?_
    refine wr_sub (nx := 17) (r1 := 0) (r2 := 0) (r3 := 0) rfl (fun e3 (fe3 : e3 = (h k0 1) - 1) => ?_)
    obtain ⟨i4, ei4⟩ : ∃ q : Nat, e3 = (q : Int) := ⟨(e3).toNat, by omega⟩
    have b5 := gi_b (lo := -2147483648) (hi := 2147483647) g (k0 + 1) i4 (kk0.2.2.2.2 _)
    refine wr_ia (k0 := k0 + 1) (a := e3) (f := i4) (x := h (k0 + 1) i4) (nx := 18) (r1 := 0) (r2 := 0) (r3 := 0) rfl kk0.2.2.1 kk0.2.1 (by omega) (by omega) (by decide) rfl ?_
    refine wi_goto (nx := 21) (r1 := 22) (r2 := 0) (r3 := 0) rfl ?_
    refine wi_ireturn (nx := 23) (r1 := 0) (r2 := 0) (r3 := 0) rfl rfl ?_
    exact k (h (k0 + 1) i4) (by omega)
-- method 77: Line.chosenLane(I)I
set_option maxRecDepth 100000 in
set_option maxHeartbeats 100000000 in
theorem ct_77_18 {L : Nat} {xs : Nat → Int32} {d b c : Nat} {h : hp} {cr : Nat → Nat → Option Nat} {Q : hp_Q} (hcr : CR cr)  (g : GI h) (a0 : Int) (q0_ : -2147483648 ≤ a0 ∧ a0 ≤ 2147483647)  (k : ∀ (z0 : Int), (-1 ≤ z0 ∧ z0 ≤ 3) → Q (.inl (some (vi z0))) (hp_w h cr) b c) : wp (md_xa (L, xs)) (d + 1) 77 (0, [(0, .ref 18), (1, vi a0)], [], hp_w h cr, b, c) Q := by
  have F0 : FR [] h h := FR.refl
  refine wi_iconst (n := (-1)) (nx := 1) (r1 := 0) (r2 := 0) (r3 := 0) rfl ?_
  refine wi_istore_n (i := 2) (e := -1) (lo2 := [(2, vi (-1)), (0, .ref 18), (1, vi a0)]) (nx := 2) (r1 := 0) (r2 := 0) (r3 := 0) rfl rfl ?_
  refine wi_bipush (n := 12) (nx := 4) (r1 := 0) (r2 := 0) (r3 := 0) rfl (by decide) ?_
  refine wi_istore_n (i := 3) (e := 12) (lo2 := [(3, vi 12), (2, vi (-1)), (0, .ref 18), (1, vi a0)]) (nx := 5) (r1 := 0) (r2 := 0) (r3 := 0) rfl rfl ?_
  refine wi_iconst (n := 0) (nx := 6) (r1 := 0) (r2 := 0) (r3 := 0) rfl ?_
  refine wi_istore (i := 4) (e := 0) (lo2 := [(4, vi 0), (3, vi 12), (2, vi (-1)), (0, .ref 18), (1, vi a0)]) (nx := 8) (r1 := 0) (r2 := 0) (r3 := 0) rfl rfl ?_
  refine wp.lo (lo := [(0, .ref 18), (1, vi a0), (2, vi (-1)), (3, vi 12), (4, vi 0)]) ⟨rfl, rfl, rfl, rfl, rfl, trivial⟩ rfl ?_
  refine wl_3 (fun x1 x2 x3 h4 => h = h4 ∧ ((-1 ≤ x1 ∧ x1 ≤ 3) ∧ (0 ≤ x2 ∧ x2 ≤ 12) ∧ (0 ≤ x3 ∧ x3 ≤ 4))) (fun x1 x2 x3 h4 => ((4 : Int) + 1 - x3).toNat) (fun x1 x2 x3 h4 => (8, [(0, .ref 18), (1, vi a0), (2, vi x1), (3, vi x2), (4, vi x3)], [], hp_w h4 cr, b, c)) ?_ (-1) 12 0 h ⟨rfl, (show (-1 ≤ (-1) ∧ (-1) ≤ 3) ∧ (0 ≤ 12 ∧ 12 ≤ 12) ∧ (0 ≤ 0 ∧ 0 ≤ 4) by omega)⟩
  intro x1 x2 x3 h4 ⟨e4, f4⟩ I4
  subst e4
  refine wi_iload (i := 4) (e := x3) (nx := 10) (r1 := 0) (r2 := 0) (r3 := 0) rfl rfl ?_
  refine wi_aload_n (i := 0) (x := 18) (nx := 11) (r1 := 0) (r2 := 0) (r3 := 0) rfl rfl ?_
  refine wr_gr (k0 := 18) (x := 3) (nx := 14) (r1 := 4) (r2 := 0) (r3 := 0) rfl rfl (by decide) rfl ⟨rfl, rfl⟩ rfl ?_
  have b6 := gi_b (lo := 0) (hi := 4) g 3 1 rfl
  refine wr_gi0 (k0 := 3) (x := h 3 1) (nx := 17) (r1 := 2) (r2 := 1) (r3 := 0) rfl rfl (by decide) rfl ⟨rfl, rfl⟩ rfl rfl ?_
  refine wi_icmp (cd := .ge) (nx := 20) (r1 := 89) (r2 := 0) (r3 := 0) rfl (by omega) (by omega) (fun (q7 : (h 3 1) ≤ x3) => ?_) (fun (q7 : ¬ ((h 3 1) ≤ x3)) => ?_)
  ·
    refine wi_iload_n (i := 2) (e := x1) (nx := 90) (r1 := 0) (r2 := 0) (r3 := 0) rfl rfl ?_
    refine wi_ireturn (nx := 91) (r1 := 0) (r2 := 0) (r3 := 0) rfl rfl ?_
    exact k x1 (by omega)
  ·
    refine wi_aload_n (i := 0) (x := 18) (nx := 21) (r1 := 0) (r2 := 0) (r3 := 0) rfl rfl ?_
    refine wi_iload (i := 4) (e := x3) (nx := 23) (r1 := 0) (r2 := 0) (r3 := 0) rfl rfl ?_
    refine wr_V (k0 := 18) (rest := []) (as := [.ref 18, vi x3]) (nx := 26) (r1 := 78) (r2 := 1) (r3 := 4) rfl rfl rfl (of_decide_eq_true rfl) rfl rfl (by decide) rfl rfl (of_decide_eq_true rfl) (of_decide_eq_true rfl) ?_
    refine wi_iload_n (i := 1) (e := x3) (nx := 1) (r1 := 0) (r2 := 0) (r3 := 0) rfl rfl ?_
    refine wi_if (cd := .lt) (nx := 4) (r1 := 40) (r2 := 0) (r3 := 0) rfl (by omega) (fun (q8 : x3 < 0) => by exfalso; omega) (fun (q8 : ¬ (x3 < 0)) => ?_)
    refine wi_iload_n (i := 1) (e := x3) (nx := 5) (r1 := 0) (r2 := 0) (r3 := 0) rfl rfl ?_
    refine wi_aload_n (i := 0) (x := 18) (nx := 6) (r1 := 0) (r2 := 0) (r3 := 0) rfl rfl ?_
    refine wr_gr (k0 := 18) (x := 3) (nx := 9) (r1 := 4) (r2 := 0) (r3 := 0) rfl rfl (by decide) rfl ⟨rfl, rfl⟩ rfl ?_
    refine wr_gi0 (k0 := 3) (x := h 3 1) (nx := 12) (r1 := 2) (r2 := 1) (r3 := 0) rfl rfl (by decide) rfl ⟨rfl, rfl⟩ rfl rfl ?_
    refine wi_icmp (cd := .ge) (nx := 15) (r1 := 40) (r2 := 0) (r3 := 0) rfl (by omega) (by omega) (fun (q9 : (h 3 1) ≤ x3) => by exfalso; omega) (fun (q9 : ¬ ((h 3 1) ≤ x3)) => ?_)
    refine wi_aload_n (i := 0) (x := 18) (nx := 16) (r1 := 0) (r2 := 0) (r3 := 0) rfl rfl ?_
    refine wr_gr (k0 := 18) (x := 21) (nx := 19) (r1 := 4) (r2 := 3) (r3 := 0) rfl rfl (by decide) rfl ⟨rfl, rfl⟩ rfl ?_
    refine wi_iload_n (i := 1) (e := x3) (nx := 20) (r1 := 0) (r2 := 0) (r3 := 0) rfl rfl ?_
    obtain ⟨i10, ei10⟩ : ∃ q : Nat, x3 = (q : Int) := ⟨(x3).toNat, by omega⟩
    refine wr_aa (k0 := 21) (a := x3) (f := i10) (x := 21 + 8 + 2 * i10) (nx := 21) (r1 := 0) (r2 := 0) (r3 := 0) rfl (by decide) rfl (Or.inl rfl) (by omega) (by omega) (by decide) (hcr.1 21 (by decide) i10 (by omega)) ?_
    obtain ⟨k11, kk11, mk11⟩ : ∃ q, Rw q ∧ q = 21 + 8 + 2 * i10 := ⟨_, rw_lane 21 (by decide) i10 (by omega), rfl⟩
    rw [← mk11]
    have b12 := gi_b (lo := 0) (hi := 12) g k11 1 kk11.2.2.2.1
    refine wr_gi0 (k0 := k11) (x := h k11 1) (nx := 24) (r1 := 5) (r2 := 1) (r3 := 0) rfl rfl kk11.k kk11.1 ⟨rfl, rfl⟩ rfl rfl ?_
    refine wi_aload_n (i := 0) (x := 18) (nx := 25) (r1 := 0) (r2 := 0) (r3 := 0) rfl rfl ?_
    refine wr_gr (k0 := 18) (x := 3) (nx := 28) (r1 := 4) (r2 := 0) (r3 := 0) rfl rfl (by decide) rfl ⟨rfl, rfl⟩ rfl ?_
    refine wr_gr (k0 := 3) (x := 6) (nx := 31) (r1 := 2) (r2 := 12) (r3 := 0) rfl rfl (by decide) rfl ⟨rfl, rfl⟩ rfl ?_
    refine wi_iload_n (i := 1) (e := x3) (nx := 32) (r1 := 0) (r2 := 0) (r3 := 0) rfl rfl ?_
    have b13 := gi_b (lo := -2147483648) (hi := 2147483647) g 6 i10 rfl
    refine wr_ia (k0 := 6) (a := x3) (f := i10) (x := h 6 i10) (nx := 33) (r1 := 0) (r2 := 0) (r3 := 0) rfl (by decide) rfl (by omega) (by omega) (by decide) rfl ?_
    refine wi_icmp (cd := .ge) (nx := 36) (r1 := 40) (r2 := 0) (r3 := 0) rfl (by omega) (by omega) (fun (q14 : (h 6 i10) ≤ (h k11 1)) => ?_) (fun (q14 : ¬ ((h 6 i10) ≤ (h k11 1))) => ?_)
    ·
      refine wi_iconst (n := 0) (nx := 41) (r1 := 0) (r2 := 0) (r3 := 0) rfl ?_
      refine wi_zreturn (nx := 42) (r1 := 0) (r2 := 0) (r3 := 0) rfl rfl (by omega) ?_
      refine wk_i ?_
      refine wi_if (cd := .eq) (nx := 29) (r1 := 83) (r2 := 0) (r3 := 0) rfl (by omega) (fun (q15 : 0 = 0) => ?_) (fun (q15 : ¬ (0 = 0)) => by exfalso; omega)
      refine wr_iinc (i := 4) (n := 1) (v := x3) (fun e16 => [(4, vi e16), (0, .ref 18), (1, vi a0), (2, vi x1), (3, vi x2)]) (nx := 86) (r1 := 0) (r2 := 0) (r3 := 0) rfl rfl (fun _ => rfl) (fun e16 (fe16 : e16 = x3 + 1) => ?_)
      refine wi_goto (nx := 89) (r1 := 8) (r2 := 0) (r3 := 0) rfl ?_
      refine wp.lo (lo := [(0, .ref 18), (1, vi a0), (2, vi x1), (3, vi x2), (4, vi e16)]) ⟨rfl, rfl, rfl, rfl, rfl, trivial⟩ rfl ?_
      exact I4 x1 x2 e16 h ⟨rfl, (show (-1 ≤ x1 ∧ x1 ≤ 3) ∧ (0 ≤ x2 ∧ x2 ≤ 12) ∧ (0 ≤ e16 ∧ e16 ≤ 4) by omega)⟩ (show ((4 : Int) + 1 - e16).toNat < ((4 : Int) + 1 - x3).toNat by omega)
    ·
      refine wi_iconst (n := 1) (nx := 37) (r1 := 0) (r2 := 0) (r3 := 0) rfl ?_
      refine wi_goto (nx := 40) (r1 := 41) (r2 := 0) (r3 := 0) rfl ?_
      refine wi_zreturn (nx := 42) (r1 := 0) (r2 := 0) (r3 := 0) rfl rfl (by omega) ?_
      refine wk_i ?_
      refine wi_if (cd := .eq) (nx := 29) (r1 := 83) (r2 := 0) (r3 := 0) rfl (by omega) (fun (q15 : 1 = 0) => by exfalso; omega) (fun (q15 : ¬ (1 = 0)) => ?_)
      refine wi_aload_n (i := 0) (x := 18) (nx := 30) (r1 := 0) (r2 := 0) (r3 := 0) rfl rfl ?_
      refine wr_gr (k0 := 18) (x := 21) (nx := 33) (r1 := 4) (r2 := 3) (r3 := 0) rfl rfl (by decide) rfl ⟨rfl, rfl⟩ rfl ?_
      refine wi_iload (i := 4) (e := x3) (nx := 35) (r1 := 0) (r2 := 0) (r3 := 0) rfl rfl ?_
      refine wr_aa (k0 := 21) (a := x3) (f := i10) (x := 21 + 8 + 2 * i10) (nx := 36) (r1 := 0) (r2 := 0) (r3 := 0) rfl (by decide) rfl (Or.inl rfl) (by omega) (by omega) (by decide) (hcr.1 21 (by decide) i10 (by omega)) ?_
      obtain ⟨k16, kk16, mk16⟩ : ∃ q, Rw q ∧ q = 21 + 8 + 2 * i10 := ⟨_, rw_lane 21 (by decide) i10 (by omega), rfl⟩
      rw [← mk16]
      have b17 := gi_b (lo := 0) (hi := 12) g k16 1 kk16.2.2.2.1
      refine wr_gi0 (k0 := k16) (x := h k16 1) (nx := 39) (r1 := 5) (r2 := 1) (r3 := 0) rfl rfl kk16.k kk16.1 ⟨rfl, rfl⟩ rfl rfl ?_
      refine wi_istore (i := 5) (e := h k16 1) (lo2 := [(5, vi (h k16 1)), (0, .ref 18), (1, vi a0), (2, vi x1), (3, vi x2), (4, vi x3)]) (nx := 41) (r1 := 0) (r2 := 0) (r3 := 0) rfl rfl ?_
      refine wi_iload (i := 5) (e := h k16 1) (nx := 43) (r1 := 0) (r2 := 0) (r3 := 0) rfl rfl ?_
      refine wi_if (cd := .le) (nx := 46) (r1 := 71) (r2 := 0) (r3 := 0) rfl (by omega) (fun (q18 : (h k16 1) ≤ 0) => ?_) (fun (q18 : ¬ ((h k16 1) ≤ 0)) => ?_)
      ·
        refine wi_iload (i := 5) (e := h k16 1) (nx := 73) (r1 := 0) (r2 := 0) (r3 := 0) rfl rfl ?_
        refine wi_iload_n (i := 3) (e := x2) (nx := 74) (r1 := 0) (r2 := 0) (r3 := 0) rfl rfl ?_
        refine wi_icmp (cd := .ge) (nx := 77) (r1 := 83) (r2 := 0) (r3 := 0) rfl (by omega) (by omega) (fun (q19 : x2 ≤ (h k16 1)) => ?_) (fun (q19 : ¬ (x2 ≤ (h k16 1))) => ?_)
        ·
          refine wr_iinc (i := 4) (n := 1) (v := x3) (fun e20 => [(4, vi e20), (5, vi (h k16 1)), (0, .ref 18), (1, vi a0), (2, vi x1), (3, vi x2)]) (nx := 86) (r1 := 0) (r2 := 0) (r3 := 0) rfl rfl (fun _ => rfl) (fun e20 (fe20 : e20 = x3 + 1) => ?_)
          refine wi_goto (nx := 89) (r1 := 8) (r2 := 0) (r3 := 0) rfl ?_
          refine wp.lo (lo := [(0, .ref 18), (1, vi a0), (2, vi x1), (3, vi x2), (4, vi e20)]) ⟨rfl, rfl, rfl, rfl, rfl, trivial⟩ rfl ?_
          exact I4 x1 x2 e20 h ⟨rfl, (show (-1 ≤ x1 ∧ x1 ≤ 3) ∧ (0 ≤ x2 ∧ x2 ≤ 12) ∧ (0 ≤ e20 ∧ e20 ≤ 4) by omega)⟩ (show ((4 : Int) + 1 - e20).toNat < ((4 : Int) + 1 - x3).toNat by omega)
        ·
          refine wi_iload (i := 5) (e := h k16 1) (nx := 79) (r1 := 0) (r2 := 0) (r3 := 0) rfl rfl ?_
          refine wi_istore_n (i := 3) (e := h k16 1) (lo2 := [(3, vi (h k16 1)), (5, vi (h k16 1)), (0, .ref 18), (1, vi a0), (2, vi x1), (4, vi x3)]) (nx := 80) (r1 := 0) (r2 := 0) (r3 := 0) rfl rfl ?_
          refine wi_iload (i := 4) (e := x3) (nx := 82) (r1 := 0) (r2 := 0) (r3 := 0) rfl rfl ?_
          refine wi_istore_n (i := 2) (e := x3) (lo2 := [(2, vi x3), (3, vi (h k16 1)), (5, vi (h k16 1)), (0, .ref 18), (1, vi a0), (4, vi x3)]) (nx := 83) (r1 := 0) (r2 := 0) (r3 := 0) rfl rfl ?_
          refine wr_iinc (i := 4) (n := 1) (v := x3) (fun e20 => [(4, vi e20), (2, vi x3), (3, vi (h k16 1)), (5, vi (h k16 1)), (0, .ref 18), (1, vi a0)]) (nx := 86) (r1 := 0) (r2 := 0) (r3 := 0) rfl rfl (fun _ => rfl) (fun e20 (fe20 : e20 = x3 + 1) => ?_)
          refine wi_goto (nx := 89) (r1 := 8) (r2 := 0) (r3 := 0) rfl ?_
          refine wp.lo (lo := [(0, .ref 18), (1, vi a0), (2, vi x3), (3, vi (h k16 1)), (4, vi e20)]) ⟨rfl, rfl, rfl, rfl, rfl, trivial⟩ rfl ?_
          exact I4 x3 (h k16 1) e20 h ⟨rfl, (show (-1 ≤ x3 ∧ x3 ≤ 3) ∧ (0 ≤ (h k16 1) ∧ (h k16 1) ≤ 12) ∧ (0 ≤ e20 ∧ e20 ≤ 4) by omega)⟩ (show ((4 : Int) + 1 - e20).toNat < ((4 : Int) + 1 - x3).toNat by omega)
      ·
        refine wi_aload_n (i := 0) (x := 18) (nx := 47) (r1 := 0) (r2 := 0) (r3 := 0) rfl rfl ?_
        refine wi_aload_n (i := 0) (x := 18) (nx := 48) (r1 := 0) (r2 := 0) (r3 := 0) rfl rfl ?_
        refine wr_gr (k0 := 18) (x := 21) (nx := 51) (r1 := 4) (r2 := 3) (r3 := 0) rfl rfl (by decide) rfl ⟨rfl, rfl⟩ rfl ?_
        refine wi_iload (i := 4) (e := x3) (nx := 53) (r1 := 0) (r2 := 0) (r3 := 0) rfl rfl ?_
        refine wr_aa (k0 := 21) (a := x3) (f := i10) (x := 21 + 8 + 2 * i10) (nx := 54) (r1 := 0) (r2 := 0) (r3 := 0) rfl (by decide) rfl (Or.inl rfl) (by omega) (by omega) (by decide) (hcr.1 21 (by decide) i10 (by omega)) ?_
        obtain ⟨k19, kk19, mk19⟩ : ∃ q, Rw q ∧ q = 21 + 8 + 2 * i10 := ⟨_, rw_lane 21 (by decide) i10 (by omega), rfl⟩
        rw [← mk19]
        refine wr_V (k0 := k19) (rest := [.ref 18]) (as := [.ref k19]) (nx := 57) (r1 := 97) (r2 := 0) (r3 := 5) rfl rfl rfl (of_decide_eq_true rfl) rfl rfl kk19.k kk19.1 rfl (of_decide_eq_true rfl) (of_decide_eq_true rfl) ?_
        refine ct_97_R hcr kk19 g    (fun z21  (fz21 : -2147483648 ≤ z21 ∧ z21 ≤ 2147483647) => ?_)
        refine wk_i ?_
        refine wr_V (k0 := 18) (rest := []) (as := [.ref 18, vi z21]) (nx := 60) (r1 := 79) (r2 := 1) (r3 := 4) rfl rfl rfl (of_decide_eq_true rfl) rfl rfl (by decide) rfl rfl (of_decide_eq_true rfl) (of_decide_eq_true rfl) ?_
        refine ct_79_18 hcr  g z21 (by omega)  (fun z23  (fz23 : -2147483648 ≤ z23 ∧ z23 ≤ 2147483647) => ?_)
        refine wk_i ?_
        refine wi_aload_n (i := 0) (x := 18) (nx := 61) (r1 := 0) (r2 := 0) (r3 := 0) rfl rfl ?_
        refine wi_iload_n (i := 1) (e := a0) (nx := 62) (r1 := 0) (r2 := 0) (r3 := 0) rfl rfl ?_
        refine wr_V (k0 := 18) (rest := [vi z23]) (as := [.ref 18, vi a0]) (nx := 65) (r1 := 79) (r2 := 1) (r3 := 4) rfl rfl rfl (of_decide_eq_true rfl) rfl rfl (by decide) rfl rfl (of_decide_eq_true rfl) (of_decide_eq_true rfl) ?_
        refine ct_79_18 hcr  g a0 (by omega)  (fun z25  (fz25 : -2147483648 ≤ z25 ∧ z25 ≤ 2147483647) => ?_)
        refine wk_i ?_
        refine wi_icmp (cd := .ne) (nx := 68) (r1 := 71) (r2 := 0) (r3 := 0) rfl (by omega) (by omega) (fun (q26 : z23 ≠ z25) => ?_) (fun (q26 : ¬ (z23 ≠ z25)) => ?_)
        ·
          refine wi_iload (i := 5) (e := h k16 1) (nx := 73) (r1 := 0) (r2 := 0) (r3 := 0) rfl rfl ?_
          refine wi_iload_n (i := 3) (e := x2) (nx := 74) (r1 := 0) (r2 := 0) (r3 := 0) rfl rfl ?_
          refine wi_icmp (cd := .ge) (nx := 77) (r1 := 83) (r2 := 0) (r3 := 0) rfl (by omega) (by omega) (fun (q27 : x2 ≤ (h k16 1)) => ?_) (fun (q27 : ¬ (x2 ≤ (h k16 1))) => ?_)
          ·
            refine wr_iinc (i := 4) (n := 1) (v := x3) (fun e28 => [(4, vi e28), (5, vi (h k16 1)), (0, .ref 18), (1, vi a0), (2, vi x1), (3, vi x2)]) (nx := 86) (r1 := 0) (r2 := 0) (r3 := 0) rfl rfl (fun _ => rfl) (fun e28 (fe28 : e28 = x3 + 1) => ?_)
            refine wi_goto (nx := 89) (r1 := 8) (r2 := 0) (r3 := 0) rfl ?_
            refine wp.lo (lo := [(0, .ref 18), (1, vi a0), (2, vi x1), (3, vi x2), (4, vi e28)]) ⟨rfl, rfl, rfl, rfl, rfl, trivial⟩ rfl ?_
            exact I4 x1 x2 e28 h ⟨rfl, (show (-1 ≤ x1 ∧ x1 ≤ 3) ∧ (0 ≤ x2 ∧ x2 ≤ 12) ∧ (0 ≤ e28 ∧ e28 ≤ 4) by omega)⟩ (show ((4 : Int) + 1 - e28).toNat < ((4 : Int) + 1 - x3).toNat by omega)
          ·
            refine wi_iload (i := 5) (e := h k16 1) (nx := 79) (r1 := 0) (r2 := 0) (r3 := 0) rfl rfl ?_
            refine wi_istore_n (i := 3) (e := h k16 1) (lo2 := [(3, vi (h k16 1)), (5, vi (h k16 1)), (0, .ref 18), (1, vi a0), (2, vi x1), (4, vi x3)]) (nx := 80) (r1 := 0) (r2 := 0) (r3 := 0) rfl rfl ?_
            refine wi_iload (i := 4) (e := x3) (nx := 82) (r1 := 0) (r2 := 0) (r3 := 0) rfl rfl ?_
            refine wi_istore_n (i := 2) (e := x3) (lo2 := [(2, vi x3), (3, vi (h k16 1)), (5, vi (h k16 1)), (0, .ref 18), (1, vi a0), (4, vi x3)]) (nx := 83) (r1 := 0) (r2 := 0) (r3 := 0) rfl rfl ?_
            refine wr_iinc (i := 4) (n := 1) (v := x3) (fun e28 => [(4, vi e28), (2, vi x3), (3, vi (h k16 1)), (5, vi (h k16 1)), (0, .ref 18), (1, vi a0)]) (nx := 86) (r1 := 0) (r2 := 0) (r3 := 0) rfl rfl (fun _ => rfl) (fun e28 (fe28 : e28 = x3 + 1) => ?_)
            refine wi_goto (nx := 89) (r1 := 8) (r2 := 0) (r3 := 0) rfl ?_
            refine wp.lo (lo := [(0, .ref 18), (1, vi a0), (2, vi x3), (3, vi (h k16 1)), (4, vi e28)]) ⟨rfl, rfl, rfl, rfl, rfl, trivial⟩ rfl ?_
            exact I4 x3 (h k16 1) e28 h ⟨rfl, (show (-1 ≤ x3 ∧ x3 ≤ 3) ∧ (0 ≤ (h k16 1) ∧ (h k16 1) ≤ 12) ∧ (0 ≤ e28 ∧ e28 ≤ 4) by omega)⟩ (show ((4 : Int) + 1 - e28).toNat < ((4 : Int) + 1 - x3).toNat by omega)
        ·
          refine wi_iload (i := 4) (e := x3) (nx := 70) (r1 := 0) (r2 := 0) (r3 := 0) rfl rfl ?_
          refine wi_ireturn (nx := 71) (r1 := 0) (r2 := 0) (r3 := 0) rfl rfl ?_
          exact k x3 (by omega)
-- method 81: Line.ad-mit(I)I
set_option maxRecDepth 100000 in
set_option maxHeartbeats 100000000 in
theorem ct_81_18 {L : Nat} {xs : Nat → Int32} {d b c : Nat} {h : hp} {cr : Nat → Nat → Option Nat} {Q : hp_Q} (hcr : CR cr)  (g : GI h) (a0 : Int) (q0_ : -2147483648 ≤ a0 ∧ a0 ≤ 2147483647) (pp0 : h 18 16 ≤ 2000000000) (k : ∀ (h2 : hp) (z0 : Int) , GI h2 → FR [(29, 36, none), (18, 18, some (7, 7)), (18, 18, some (16, 16))] h h2 → (-1 ≤ z0 ∧ z0 ≤ 11) → ((h2 18 16 = h 18 16 ∧ h2 18 7 = h 18 7) ∨ (h 18 16 + 1 ≤ h2 18 16 ∧ h2 18 16 ≤ h 18 16 + 1)) → Q (.inl (some (vi z0))) (hp_w h2 cr) b c) : wp (md_xa (L, xs)) (d + 1) 81 (0, [(0, .ref 18), (1, vi a0)], [], hp_w h cr, b, c) Q := by
  have F0 : FR [(29, 36, none), (18, 18, some (7, 7)), (18, 18, some (16, 16))] h h := FR.refl
  have b1 := gi_b (lo := -2147483648) (hi := 2147483647) g 18 16 rfl
  refine wi_aload_n (i := 0) (x := 18) (nx := 1) (r1 := 0) (r2 := 0) (r3 := 0) rfl rfl ?_
  have b2 := gi_b (lo := 0) (hi := 12) g 18 7 rfl
  refine wr_gi0 (k0 := 18) (x := h 18 7) (nx := 4) (r1 := 4) (r2 := 7) (r3 := 0) rfl rfl (by decide) rfl ⟨rfl, rfl⟩ rfl rfl ?_
  refine wi_aload_n (i := 0) (x := 18) (nx := 5) (r1 := 0) (r2 := 0) (r3 := 0) rfl rfl ?_
  refine wr_gr (k0 := 18) (x := 3) (nx := 8) (r1 := 4) (r2 := 0) (r3 := 0) rfl rfl (by decide) rfl ⟨rfl, rfl⟩ rfl ?_
  have b3 := gi_b (lo := 0) (hi := 12) g 3 2 rfl
  refine wr_gi0 (k0 := 3) (x := h 3 2) (nx := 11) (r1 := 2) (r2 := 2) (r3 := 0) rfl rfl (by decide) rfl ⟨rfl, rfl⟩ rfl rfl ?_
  refine wi_icmp (cd := .ge) (nx := 14) (r1 := 22) (r2 := 0) (r3 := 0) rfl (by omega) (by omega) (fun (q4 : (h 3 2) ≤ (h 18 7)) => ?_) (fun (q4 : ¬ ((h 3 2) ≤ (h 18 7))) => ?_)
  ·
    refine wi_iconst (n := (-1)) (nx := 23) (r1 := 0) (r2 := 0) (r3 := 0) rfl ?_
    refine wi_ireturn (nx := 24) (r1 := 0) (r2 := 0) (r3 := 0) rfl rfl ?_
    exact k h (-1) g F0 (by omega) (show ((h 18 16) = (h 18 16) ∧ (h 18 7) = (h 18 7)) ∨ ((h 18 16) + 1 ≤ (h 18 16) ∧ (h 18 16) ≤ (h 18 16) + 1) by omega)
  ·
    refine wi_aload_n (i := 0) (x := 18) (nx := 15) (r1 := 0) (r2 := 0) (r3 := 0) rfl rfl ?_
    refine wi_iload_n (i := 1) (e := a0) (nx := 16) (r1 := 0) (r2 := 0) (r3 := 0) rfl rfl ?_
    refine wr_V (k0 := 18) (rest := []) (as := [.ref 18, vi a0]) (nx := 19) (r1 := 78) (r2 := 1) (r3 := 4) rfl rfl rfl (of_decide_eq_true rfl) rfl rfl (by decide) rfl rfl (of_decide_eq_true rfl) (of_decide_eq_true rfl) ?_
    refine wi_iload_n (i := 1) (e := a0) (nx := 1) (r1 := 0) (r2 := 0) (r3 := 0) rfl rfl ?_
    refine wi_if (cd := .lt) (nx := 4) (r1 := 40) (r2 := 0) (r3 := 0) rfl (by omega) (fun (q5 : a0 < 0) => ?_) (fun (q5 : ¬ (a0 < 0)) => ?_)
    ·
      refine wi_iconst (n := 0) (nx := 41) (r1 := 0) (r2 := 0) (r3 := 0) rfl ?_
      refine wi_zreturn (nx := 42) (r1 := 0) (r2 := 0) (r3 := 0) rfl rfl (by omega) ?_
      refine wk_i ?_
      refine wi_if (cd := .ne) (nx := 22) (r1 := 24) (r2 := 0) (r3 := 0) rfl (by omega) (fun (q6 : 0 ≠ 0) => by exfalso; omega) (fun (q6 : ¬ (0 ≠ 0)) => ?_)
      refine wi_iconst (n := (-1)) (nx := 23) (r1 := 0) (r2 := 0) (r3 := 0) rfl ?_
      refine wi_ireturn (nx := 24) (r1 := 0) (r2 := 0) (r3 := 0) rfl rfl ?_
      exact k h (-1) g F0 (by omega) (show ((h 18 16) = (h 18 16) ∧ (h 18 7) = (h 18 7)) ∨ ((h 18 16) + 1 ≤ (h 18 16) ∧ (h 18 16) ≤ (h 18 16) + 1) by omega)
    ·
      refine wi_iload_n (i := 1) (e := a0) (nx := 5) (r1 := 0) (r2 := 0) (r3 := 0) rfl rfl ?_
      refine wi_aload_n (i := 0) (x := 18) (nx := 6) (r1 := 0) (r2 := 0) (r3 := 0) rfl rfl ?_
      refine wr_gr (k0 := 18) (x := 3) (nx := 9) (r1 := 4) (r2 := 0) (r3 := 0) rfl rfl (by decide) rfl ⟨rfl, rfl⟩ rfl ?_
      have b6 := gi_b (lo := 0) (hi := 4) g 3 1 rfl
      refine wr_gi0 (k0 := 3) (x := h 3 1) (nx := 12) (r1 := 2) (r2 := 1) (r3 := 0) rfl rfl (by decide) rfl ⟨rfl, rfl⟩ rfl rfl ?_
      refine wi_icmp (cd := .ge) (nx := 15) (r1 := 40) (r2 := 0) (r3 := 0) rfl (by omega) (by omega) (fun (q7 : (h 3 1) ≤ a0) => ?_) (fun (q7 : ¬ ((h 3 1) ≤ a0)) => ?_)
      ·
        refine wi_iconst (n := 0) (nx := 41) (r1 := 0) (r2 := 0) (r3 := 0) rfl ?_
        refine wi_zreturn (nx := 42) (r1 := 0) (r2 := 0) (r3 := 0) rfl rfl (by omega) ?_
        refine wk_i ?_
        refine wi_if (cd := .ne) (nx := 22) (r1 := 24) (r2 := 0) (r3 := 0) rfl (by omega) (fun (q8 : 0 ≠ 0) => by exfalso; omega) (fun (q8 : ¬ (0 ≠ 0)) => ?_)
        refine wi_iconst (n := (-1)) (nx := 23) (r1 := 0) (r2 := 0) (r3 := 0) rfl ?_
        refine wi_ireturn (nx := 24) (r1 := 0) (r2 := 0) (r3 := 0) rfl rfl ?_
        exact k h (-1) g F0 (by omega) (show ((h 18 16) = (h 18 16) ∧ (h 18 7) = (h 18 7)) ∨ ((h 18 16) + 1 ≤ (h 18 16) ∧ (h 18 16) ≤ (h 18 16) + 1) by omega)
      ·
        refine wi_aload_n (i := 0) (x := 18) (nx := 16) (r1 := 0) (r2 := 0) (r3 := 0) rfl rfl ?_
        refine wr_gr (k0 := 18) (x := 21) (nx := 19) (r1 := 4) (r2 := 3) (r3 := 0) rfl rfl (by decide) rfl ⟨rfl, rfl⟩ rfl ?_
        refine wi_iload_n (i := 1) (e := a0) (nx := 20) (r1 := 0) (r2 := 0) (r3 := 0) rfl rfl ?_
        obtain ⟨i8, ei8⟩ : ∃ q : Nat, a0 = (q : Int) := ⟨(a0).toNat, by omega⟩
        refine wr_aa (k0 := 21) (a := a0) (f := i8) (x := 21 + 8 + 2 * i8) (nx := 21) (r1 := 0) (r2 := 0) (r3 := 0) rfl (by decide) rfl (Or.inl rfl) (by omega) (by omega) (by decide) (hcr.1 21 (by decide) i8 (by omega)) ?_
        obtain ⟨k9, kk9, mk9⟩ : ∃ q, Rw q ∧ q = 21 + 8 + 2 * i8 := ⟨_, rw_lane 21 (by decide) i8 (by omega), rfl⟩
        rw [← mk9]
        have b10 := gi_b (lo := 0) (hi := 12) g k9 1 kk9.2.2.2.1
        refine wr_gi0 (k0 := k9) (x := h k9 1) (nx := 24) (r1 := 5) (r2 := 1) (r3 := 0) rfl rfl kk9.k kk9.1 ⟨rfl, rfl⟩ rfl rfl ?_
        refine wi_aload_n (i := 0) (x := 18) (nx := 25) (r1 := 0) (r2 := 0) (r3 := 0) rfl rfl ?_
        refine wr_gr (k0 := 18) (x := 3) (nx := 28) (r1 := 4) (r2 := 0) (r3 := 0) rfl rfl (by decide) rfl ⟨rfl, rfl⟩ rfl ?_
        refine wr_gr (k0 := 3) (x := 6) (nx := 31) (r1 := 2) (r2 := 12) (r3 := 0) rfl rfl (by decide) rfl ⟨rfl, rfl⟩ rfl ?_
        refine wi_iload_n (i := 1) (e := a0) (nx := 32) (r1 := 0) (r2 := 0) (r3 := 0) rfl rfl ?_
        have b11 := gi_b (lo := -2147483648) (hi := 2147483647) g 6 i8 rfl
        refine wr_ia (k0 := 6) (a := a0) (f := i8) (x := h 6 i8) (nx := 33) (r1 := 0) (r2 := 0) (r3 := 0) rfl (by decide) rfl (by omega) (by omega) (by decide) rfl ?_
        refine wi_icmp (cd := .ge) (nx := 36) (r1 := 40) (r2 := 0) (r3 := 0) rfl (by omega) (by omega) (fun (q12 : (h 6 i8) ≤ (h k9 1)) => ?_) (fun (q12 : ¬ ((h 6 i8) ≤ (h k9 1))) => ?_)
        ·
          refine wi_iconst (n := 0) (nx := 41) (r1 := 0) (r2 := 0) (r3 := 0) rfl ?_
          refine wi_zreturn (nx := 42) (r1 := 0) (r2 := 0) (r3 := 0) rfl rfl (by omega) ?_
          refine wk_i ?_
          refine wi_if (cd := .ne) (nx := 22) (r1 := 24) (r2 := 0) (r3 := 0) rfl (by omega) (fun (q13 : 0 ≠ 0) => by exfalso; omega) (fun (q13 : ¬ (0 ≠ 0)) => ?_)
          refine wi_iconst (n := (-1)) (nx := 23) (r1 := 0) (r2 := 0) (r3 := 0) rfl ?_
          refine wi_ireturn (nx := 24) (r1 := 0) (r2 := 0) (r3 := 0) rfl rfl ?_
          exact k h (-1) g F0 (by omega) (show ((h 18 16) = (h 18 16) ∧ (h 18 7) = (h 18 7)) ∨ ((h 18 16) + 1 ≤ (h 18 16) ∧ (h 18 16) ≤ (h 18 16) + 1) by omega)
        ·
          refine wi_iconst (n := 1) (nx := 37) (r1 := 0) (r2 := 0) (r3 := 0) rfl ?_
          refine wi_goto (nx := 40) (r1 := 41) (r2 := 0) (r3 := 0) rfl ?_
          refine wi_zreturn (nx := 42) (r1 := 0) (r2 := 0) (r3 := 0) rfl rfl (by omega) ?_
          refine wk_i ?_
          refine wi_if (cd := .ne) (nx := 22) (r1 := 24) (r2 := 0) (r3 := 0) rfl (by omega) (fun (q13 : 1 ≠ 0) => ?_) (fun (q13 : ¬ (1 ≠ 0)) => by exfalso; omega)
          refine wi_aload_n (i := 0) (x := 18) (nx := 25) (r1 := 0) (r2 := 0) (r3 := 0) rfl rfl ?_
          refine wr_gi0 (k0 := 18) (x := h 18 7) (nx := 28) (r1 := 4) (r2 := 7) (r3 := 0) rfl rfl (by decide) rfl ⟨rfl, rfl⟩ rfl rfl ?_
          refine wi_istore_n (i := 2) (e := h 18 7) (lo2 := [(2, vi (h 18 7)), (0, .ref 18), (1, vi a0)]) (nx := 29) (r1 := 0) (r2 := 0) (r3 := 0) rfl rfl ?_
          refine wi_aload_n (i := 0) (x := 18) (nx := 30) (r1 := 0) (r2 := 0) (r3 := 0) rfl rfl ?_
          refine wr_gr (k0 := 18) (x := 21) (nx := 33) (r1 := 4) (r2 := 3) (r3 := 0) rfl rfl (by decide) rfl ⟨rfl, rfl⟩ rfl ?_
          refine wi_iload_n (i := 1) (e := a0) (nx := 34) (r1 := 0) (r2 := 0) (r3 := 0) rfl rfl ?_
          refine wr_aa (k0 := 21) (a := a0) (f := i8) (x := 21 + 8 + 2 * i8) (nx := 35) (r1 := 0) (r2 := 0) (r3 := 0) rfl (by decide) rfl (Or.inl rfl) (by omega) (by omega) (by decide) (hcr.1 21 (by decide) i8 (by omega)) ?_
          obtain ⟨k14, kk14, mk14⟩ : ∃ q, Rw q ∧ q = 21 + 8 + 2 * i8 := ⟨_, rw_lane 21 (by decide) i8 (by omega), rfl⟩
          rw [← mk14]
          refine wi_iload_n (i := 2) (e := h 18 7) (nx := 36) (r1 := 0) (r2 := 0) (r3 := 0) rfl rfl ?_
          refine wr_V (k0 := k14) (rest := []) (as := [.ref k14, vi (h 18 7)]) (nx := 39) (r1 := 99) (r2 := 1) (r3 := 5) rfl rfl rfl (of_decide_eq_true rfl) rfl rfl kk14.k kk14.1 rfl (of_decide_eq_true rfl) (of_decide_eq_true rfl) ?_
          refine ct_99_R hcr kk14 g (h 18 7) (by omega)  (fun h15 g15 u15 => ?_)
          have v15 := FR.rngp (lo := 29) (hi := 36) u15 (by omega)
          have F16 := F0.then rfl (FR.rngp (lo := 29) (hi := 36) u15 (by omega))
          refine wk_n ?_
          refine wi_aload_n (i := 0) (x := 18) (nx := 40) (r1 := 0) (r2 := 0) (r3 := 0) rfl rfl ?_
          refine wi_dup (nx := 41) (r1 := 0) (r2 := 0) (r3 := 0) rfl rfl ?_
          refine wr_gi0 (k0 := 18) (x := h 18 7) (nx := 44) (r1 := 4) (r2 := 7) (r3 := 0) rfl rfl (by decide) rfl ⟨rfl, rfl⟩ rfl (v15 18 7 rfl) ?_
          refine wi_iconst (n := 1) (nx := 45) (r1 := 0) (r2 := 0) (r3 := 0) rfl ?_
          refine wr_add (nx := 46) (r1 := 0) (r2 := 0) (r3 := 0) rfl (fun e17 (fe17 : e17 = (h 18 7) + 1) => ?_)
          refine wr_pf0 (k0 := 18) (x := e17) (bl := 0) (bh := 12) (nx := 49) (r1 := 4) (r2 := 7) (r3 := 0) rfl (by decide) rfl ⟨rfl, rfl⟩ rfl rfl g15 rfl (by omega) (fun h18 g18 w18 u18 => ?_)
          have F19 := F16.then rfl u18
          refine wi_aload_n (i := 0) (x := 18) (nx := 50) (r1 := 0) (r2 := 0) (r3 := 0) rfl rfl ?_
          refine wi_dup (nx := 51) (r1 := 0) (r2 := 0) (r3 := 0) rfl rfl ?_
          refine wr_gi0 (k0 := 18) (x := h 18 16) (nx := 54) (r1 := 4) (r2 := 16) (r3 := 0) rfl rfl (by decide) rfl ⟨rfl, rfl⟩ rfl ((u18 18 16 rfl).trans (v15 18 16 rfl)) ?_
          refine wi_iconst (n := 1) (nx := 55) (r1 := 0) (r2 := 0) (r3 := 0) rfl ?_
          refine wr_add (nx := 56) (r1 := 0) (r2 := 0) (r3 := 0) rfl (fun e20 (fe20 : e20 = (h 18 16) + 1) => ?_)
          refine wr_pf0 (k0 := 18) (x := e20) (bl := -2147483648) (bh := 2147483647) (nx := 59) (r1 := 4) (r2 := 16) (r3 := 0) rfl (by decide) rfl ⟨rfl, rfl⟩ rfl rfl g18 rfl (by omega) (fun h21 g21 w21 u21 => ?_)
          have F22 := F19.then rfl u21
          refine wi_iload_n (i := 2) (e := h 18 7) (nx := 60) (r1 := 0) (r2 := 0) (r3 := 0) rfl rfl ?_
          refine wi_ireturn (nx := 61) (r1 := 0) (r2 := 0) (r3 := 0) rfl rfl ?_
          have e23 : h21 18 16 = e20 := w21
          have e24 : h21 18 7 = e17 := ((u21 18 7 rfl).trans w18)
          exact k h21 (h 18 7) g21 F22 (by omega) (show ((h21 18 16) = (h 18 16) ∧ (h21 18 7) = (h 18 7)) ∨ ((h 18 16) + 1 ≤ (h21 18 16) ∧ (h21 18 16) ≤ (h 18 16) + 1) by omega)
-- method 80: Line.comeBack(I)I
set_option maxRecDepth 100000 in
set_option maxHeartbeats 100000000 in
theorem ct_80_18 {L : Nat} {xs : Nat → Int32} {d b c : Nat} {h : hp} {cr : Nat → Nat → Option Nat} {Q : hp_Q} (hcr : CR cr)  (g : GI h) (a0 : Int) (q0_ : -2147483648 ≤ a0 ∧ a0 ≤ 2147483647) (pp0 : h 18 16 ≤ 2000000000) (k : ∀ (h2 : hp) (z0 : Int) , GI h2 → FR [(22, 23, none), (24, 25, none), (29, 36, none), (18, 18, some (16, 16))] h h2 → (-2147483648 ≤ z0 ∧ z0 ≤ 2147483647) → ((h2 18 16 = h 18 16 ∧ h2 18 7 = h 18 7) ∨ (h 18 16 + 1 ≤ h2 18 16 ∧ h2 18 16 ≤ h 18 16 + 1)) → Q (.inl (some (vi z0))) (hp_w h2 cr) b c) : wp (md_xa (L, xs)) (d + 2) 80 (0, [(0, .ref 18), (1, vi a0)], [], hp_w h cr, b, c) Q := by
  have F0 : FR [(22, 23, none), (24, 25, none), (29, 36, none), (18, 18, some (16, 16))] h h := FR.refl
  have b1 := gi_b (lo := -2147483648) (hi := 2147483647) g 18 16 rfl
  refine wi_aload_n (i := 0) (x := 18) (nx := 1) (r1 := 0) (r2 := 0) (r3 := 0) rfl rfl ?_
  refine wr_V (k0 := 18) (rest := []) (as := [.ref 18]) (nx := 4) (r1 := 76) (r2 := 0) (r3 := 4) rfl rfl rfl (of_decide_eq_true rfl) rfl rfl (by decide) rfl rfl (of_decide_eq_true rfl) (of_decide_eq_true rfl) ?_
  refine ct_76_18 hcr  g    (fun z3  (fz3 : 0 ≤ z3 ∧ z3 ≤ 1) => ?_)
  refine wk_i ?_
  refine wi_if (cd := .eq) (nx := 7) (r1 := 15) (r2 := 0) (r3 := 0) rfl (by omega) (fun (q4 : z3 = 0) => ?_) (fun (q4 : ¬ (z3 = 0)) => ?_)
  ·
    refine wi_iconst (n := (-1)) (nx := 16) (r1 := 0) (r2 := 0) (r3 := 0) rfl ?_
    refine wi_ireturn (nx := 17) (r1 := 0) (r2 := 0) (r3 := 0) rfl rfl ?_
    have b5 := gi_b (lo := 0) (hi := 12) g 18 7 rfl
    exact k h (-1) g F0 (by omega) (show ((h 18 16) = (h 18 16) ∧ (h 18 7) = (h 18 7)) ∨ ((h 18 16) + 1 ≤ (h 18 16) ∧ (h 18 16) ≤ (h 18 16) + 1) by omega)
  ·
    refine wi_aload_n (i := 0) (x := 18) (nx := 8) (r1 := 0) (r2 := 0) (r3 := 0) rfl rfl ?_
    refine wi_iload_n (i := 1) (e := a0) (nx := 9) (r1 := 0) (r2 := 0) (r3 := 0) rfl rfl ?_
    refine wr_V (k0 := 18) (rest := []) (as := [.ref 18, vi a0]) (nx := 12) (r1 := 78) (r2 := 1) (r3 := 4) rfl rfl rfl (of_decide_eq_true rfl) rfl rfl (by decide) rfl rfl (of_decide_eq_true rfl) (of_decide_eq_true rfl) ?_
    refine wi_iload_n (i := 1) (e := a0) (nx := 1) (r1 := 0) (r2 := 0) (r3 := 0) rfl rfl ?_
    refine wi_if (cd := .lt) (nx := 4) (r1 := 40) (r2 := 0) (r3 := 0) rfl (by omega) (fun (q5 : a0 < 0) => ?_) (fun (q5 : ¬ (a0 < 0)) => ?_)
    ·
      refine wi_iconst (n := 0) (nx := 41) (r1 := 0) (r2 := 0) (r3 := 0) rfl ?_
      refine wi_zreturn (nx := 42) (r1 := 0) (r2 := 0) (r3 := 0) rfl rfl (by omega) ?_
      refine wk_i ?_
      refine wi_if (cd := .ne) (nx := 15) (r1 := 17) (r2 := 0) (r3 := 0) rfl (by omega) (fun (q6 : 0 ≠ 0) => by exfalso; omega) (fun (q6 : ¬ (0 ≠ 0)) => ?_)
      refine wi_iconst (n := (-1)) (nx := 16) (r1 := 0) (r2 := 0) (r3 := 0) rfl ?_
      refine wi_ireturn (nx := 17) (r1 := 0) (r2 := 0) (r3 := 0) rfl rfl ?_
      have b7 := gi_b (lo := 0) (hi := 12) g 18 7 rfl
      exact k h (-1) g F0 (by omega) (show ((h 18 16) = (h 18 16) ∧ (h 18 7) = (h 18 7)) ∨ ((h 18 16) + 1 ≤ (h 18 16) ∧ (h 18 16) ≤ (h 18 16) + 1) by omega)
    ·
      refine wi_iload_n (i := 1) (e := a0) (nx := 5) (r1 := 0) (r2 := 0) (r3 := 0) rfl rfl ?_
      refine wi_aload_n (i := 0) (x := 18) (nx := 6) (r1 := 0) (r2 := 0) (r3 := 0) rfl rfl ?_
      refine wr_gr (k0 := 18) (x := 3) (nx := 9) (r1 := 4) (r2 := 0) (r3 := 0) rfl rfl (by decide) rfl ⟨rfl, rfl⟩ rfl ?_
      have b6 := gi_b (lo := 0) (hi := 4) g 3 1 rfl
      refine wr_gi0 (k0 := 3) (x := h 3 1) (nx := 12) (r1 := 2) (r2 := 1) (r3 := 0) rfl rfl (by decide) rfl ⟨rfl, rfl⟩ rfl rfl ?_
      refine wi_icmp (cd := .ge) (nx := 15) (r1 := 40) (r2 := 0) (r3 := 0) rfl (by omega) (by omega) (fun (q7 : (h 3 1) ≤ a0) => ?_) (fun (q7 : ¬ ((h 3 1) ≤ a0)) => ?_)
      ·
        refine wi_iconst (n := 0) (nx := 41) (r1 := 0) (r2 := 0) (r3 := 0) rfl ?_
        refine wi_zreturn (nx := 42) (r1 := 0) (r2 := 0) (r3 := 0) rfl rfl (by omega) ?_
        refine wk_i ?_
        refine wi_if (cd := .ne) (nx := 15) (r1 := 17) (r2 := 0) (r3 := 0) rfl (by omega) (fun (q8 : 0 ≠ 0) => by exfalso; omega) (fun (q8 : ¬ (0 ≠ 0)) => ?_)
        refine wi_iconst (n := (-1)) (nx := 16) (r1 := 0) (r2 := 0) (r3 := 0) rfl ?_
        refine wi_ireturn (nx := 17) (r1 := 0) (r2 := 0) (r3 := 0) rfl rfl ?_
        have b9 := gi_b (lo := 0) (hi := 12) g 18 7 rfl
        exact k h (-1) g F0 (by omega) (show ((h 18 16) = (h 18 16) ∧ (h 18 7) = (h 18 7)) ∨ ((h 18 16) + 1 ≤ (h 18 16) ∧ (h 18 16) ≤ (h 18 16) + 1) by omega)
      ·
        refine wi_aload_n (i := 0) (x := 18) (nx := 16) (r1 := 0) (r2 := 0) (r3 := 0) rfl rfl ?_
        refine wr_gr (k0 := 18) (x := 21) (nx := 19) (r1 := 4) (r2 := 3) (r3 := 0) rfl rfl (by decide) rfl ⟨rfl, rfl⟩ rfl ?_
        refine wi_iload_n (i := 1) (e := a0) (nx := 20) (r1 := 0) (r2 := 0) (r3 := 0) rfl rfl ?_
        obtain ⟨i8, ei8⟩ : ∃ q : Nat, a0 = (q : Int) := ⟨(a0).toNat, by omega⟩
        refine wr_aa (k0 := 21) (a := a0) (f := i8) (x := 21 + 8 + 2 * i8) (nx := 21) (r1 := 0) (r2 := 0) (r3 := 0) rfl (by decide) rfl (Or.inl rfl) (by omega) (by omega) (by decide) (hcr.1 21 (by decide) i8 (by omega)) ?_
        obtain ⟨k9, kk9, mk9⟩ : ∃ q, Rw q ∧ q = 21 + 8 + 2 * i8 := ⟨_, rw_lane 21 (by decide) i8 (by omega), rfl⟩
        rw [← mk9]
        have b10 := gi_b (lo := 0) (hi := 12) g k9 1 kk9.2.2.2.1
        refine wr_gi0 (k0 := k9) (x := h k9 1) (nx := 24) (r1 := 5) (r2 := 1) (r3 := 0) rfl rfl kk9.k kk9.1 ⟨rfl, rfl⟩ rfl rfl ?_
        refine wi_aload_n (i := 0) (x := 18) (nx := 25) (r1 := 0) (r2 := 0) (r3 := 0) rfl rfl ?_
        refine wr_gr (k0 := 18) (x := 3) (nx := 28) (r1 := 4) (r2 := 0) (r3 := 0) rfl rfl (by decide) rfl ⟨rfl, rfl⟩ rfl ?_
        refine wr_gr (k0 := 3) (x := 6) (nx := 31) (r1 := 2) (r2 := 12) (r3 := 0) rfl rfl (by decide) rfl ⟨rfl, rfl⟩ rfl ?_
        refine wi_iload_n (i := 1) (e := a0) (nx := 32) (r1 := 0) (r2 := 0) (r3 := 0) rfl rfl ?_
        have b11 := gi_b (lo := -2147483648) (hi := 2147483647) g 6 i8 rfl
        refine wr_ia (k0 := 6) (a := a0) (f := i8) (x := h 6 i8) (nx := 33) (r1 := 0) (r2 := 0) (r3 := 0) rfl (by decide) rfl (by omega) (by omega) (by decide) rfl ?_
        refine wi_icmp (cd := .ge) (nx := 36) (r1 := 40) (r2 := 0) (r3 := 0) rfl (by omega) (by omega) (fun (q12 : (h 6 i8) ≤ (h k9 1)) => ?_) (fun (q12 : ¬ ((h 6 i8) ≤ (h k9 1))) => ?_)
        ·
          refine wi_iconst (n := 0) (nx := 41) (r1 := 0) (r2 := 0) (r3 := 0) rfl ?_
          refine wi_zreturn (nx := 42) (r1 := 0) (r2 := 0) (r3 := 0) rfl rfl (by omega) ?_
          refine wk_i ?_
          refine wi_if (cd := .ne) (nx := 15) (r1 := 17) (r2 := 0) (r3 := 0) rfl (by omega) (fun (q13 : 0 ≠ 0) => by exfalso; omega) (fun (q13 : ¬ (0 ≠ 0)) => ?_)
          refine wi_iconst (n := (-1)) (nx := 16) (r1 := 0) (r2 := 0) (r3 := 0) rfl ?_
          refine wi_ireturn (nx := 17) (r1 := 0) (r2 := 0) (r3 := 0) rfl rfl ?_
          have b14 := gi_b (lo := 0) (hi := 12) g 18 7 rfl
          exact k h (-1) g F0 (by omega) (show ((h 18 16) = (h 18 16) ∧ (h 18 7) = (h 18 7)) ∨ ((h 18 16) + 1 ≤ (h 18 16) ∧ (h 18 16) ≤ (h 18 16) + 1) by omega)
        ·
          refine wi_iconst (n := 1) (nx := 37) (r1 := 0) (r2 := 0) (r3 := 0) rfl ?_
          refine wi_goto (nx := 40) (r1 := 41) (r2 := 0) (r3 := 0) rfl ?_
          refine wi_zreturn (nx := 42) (r1 := 0) (r2 := 0) (r3 := 0) rfl rfl (by omega) ?_
          refine wk_i ?_
          refine wi_if (cd := .ne) (nx := 15) (r1 := 17) (r2 := 0) (r3 := 0) rfl (by omega) (fun (q13 : 1 ≠ 0) => ?_) (fun (q13 : ¬ (1 ≠ 0)) => by exfalso; omega)
          refine wi_aload_n (i := 0) (x := 18) (nx := 18) (r1 := 0) (r2 := 0) (r3 := 0) rfl rfl ?_
          refine wr_gr (k0 := 18) (x := 22) (nx := 21) (r1 := 4) (r2 := 4) (r3 := 0) rfl rfl (by decide) rfl ⟨rfl, rfl⟩ rfl ?_
          refine wi_iconst (n := 0) (nx := 22) (r1 := 0) (r2 := 0) (r3 := 0) rfl ?_
          refine wr_V (k0 := 22) (rest := []) (as := [.ref 22, vi 0]) (nx := 25) (r1 := 95) (r2 := 1) (r3 := 5) rfl rfl rfl (of_decide_eq_true rfl) rfl rfl (by decide) rfl rfl (of_decide_eq_true rfl) (of_decide_eq_true rfl) ?_
          refine ct_95_R hcr rw_22 g 0 (by omega)  (fun z15  (fz15 : -2147483648 ≤ z15 ∧ z15 ≤ 2147483647) => ?_)
          refine wk_i ?_
          refine wi_istore_n (i := 2) (e := z15) (lo2 := [(2, vi z15), (0, .ref 18), (1, vi a0)]) (nx := 26) (r1 := 0) (r2 := 0) (r3 := 0) rfl rfl ?_
          refine wi_aload_n (i := 0) (x := 18) (nx := 27) (r1 := 0) (r2 := 0) (r3 := 0) rfl rfl ?_
          refine wr_gr (k0 := 18) (x := 22) (nx := 30) (r1 := 4) (r2 := 4) (r3 := 0) rfl rfl (by decide) rfl ⟨rfl, rfl⟩ rfl ?_
          refine wr_V (k0 := 22) (rest := []) (as := [.ref 22]) (nx := 33) (r1 := 98) (r2 := 0) (r3 := 5) rfl rfl rfl (of_decide_eq_true rfl) rfl rfl (by decide) rfl rfl (of_decide_eq_true rfl) (of_decide_eq_true rfl) ?_
          refine ct_98_R hcr rw_22 g    (fun h16 g16 u16 => ?_)
          have F17 := F0.then rfl u16
          refine wk_n ?_
          refine wi_aload_n (i := 0) (x := 18) (nx := 34) (r1 := 0) (r2 := 0) (r3 := 0) rfl rfl ?_
          refine wr_gr (k0 := 18) (x := 24) (nx := 37) (r1 := 4) (r2 := 5) (r3 := 0) rfl rfl (by decide) rfl ⟨rfl, rfl⟩ rfl ?_
          refine wr_V (k0 := 24) (rest := []) (as := [.ref 24]) (nx := 40) (r1 := 98) (r2 := 0) (r3 := 5) rfl rfl rfl (of_decide_eq_true rfl) rfl rfl (by decide) rfl rfl (of_decide_eq_true rfl) (of_decide_eq_true rfl) ?_
          refine ct_98_R hcr rw_24 g16    (fun h18 g18 u18 => ?_)
          have F19 := F17.then rfl u18
          refine wk_n ?_
          refine wi_aload_n (i := 0) (x := 18) (nx := 41) (r1 := 0) (r2 := 0) (r3 := 0) rfl rfl ?_
          refine wr_gr (k0 := 18) (x := 21) (nx := 44) (r1 := 4) (r2 := 3) (r3 := 0) rfl rfl (by decide) rfl ⟨rfl, rfl⟩ rfl ?_
          refine wi_iload_n (i := 1) (e := a0) (nx := 45) (r1 := 0) (r2 := 0) (r3 := 0) rfl rfl ?_
          refine wr_aa (k0 := 21) (a := a0) (f := i8) (x := 21 + 8 + 2 * i8) (nx := 46) (r1 := 0) (r2 := 0) (r3 := 0) rfl (by decide) rfl (Or.inl rfl) (by omega) (by omega) (by decide) (hcr.1 21 (by decide) i8 (by omega)) ?_
          obtain ⟨k20, kk20, mk20⟩ : ∃ q, Rw q ∧ q = 21 + 8 + 2 * i8 := ⟨_, rw_lane 21 (by decide) i8 (by omega), rfl⟩
          rw [← mk20]
          refine wi_iload_n (i := 2) (e := z15) (nx := 47) (r1 := 0) (r2 := 0) (r3 := 0) rfl rfl ?_
          refine wr_V (k0 := k20) (rest := []) (as := [.ref k20, vi z15]) (nx := 50) (r1 := 99) (r2 := 1) (r3 := 5) rfl rfl rfl (of_decide_eq_true rfl) rfl rfl kk20.k kk20.1 rfl (of_decide_eq_true rfl) (of_decide_eq_true rfl) ?_
          refine ct_99_R hcr kk20 g18 z15 (by omega)  (fun h21 g21 u21 => ?_)
          have v21 := FR.rngp (lo := 29) (hi := 36) u21 (by omega)
          have F22 := F19.then rfl (FR.rngp (lo := 29) (hi := 36) u21 (by omega))
          refine wk_n ?_
          refine wi_aload_n (i := 0) (x := 18) (nx := 51) (r1 := 0) (r2 := 0) (r3 := 0) rfl rfl ?_
          refine wi_dup (nx := 52) (r1 := 0) (r2 := 0) (r3 := 0) rfl rfl ?_
          refine wr_gi0 (k0 := 18) (x := h 18 16) (nx := 55) (r1 := 4) (r2 := 16) (r3 := 0) rfl rfl (by decide) rfl ⟨rfl, rfl⟩ rfl ((v21 18 16 rfl).trans ((u18 18 16 rfl).trans (u16 18 16 rfl))) ?_
          refine wi_iconst (n := 1) (nx := 56) (r1 := 0) (r2 := 0) (r3 := 0) rfl ?_
          refine wr_add (nx := 57) (r1 := 0) (r2 := 0) (r3 := 0) rfl (fun e23 (fe23 : e23 = (h 18 16) + 1) => ?_)
          refine wr_pf0 (k0 := 18) (x := e23) (bl := -2147483648) (bh := 2147483647) (nx := 60) (r1 := 4) (r2 := 16) (r3 := 0) rfl (by decide) rfl ⟨rfl, rfl⟩ rfl rfl g21 rfl (by omega) (fun h24 g24 w24 u24 => ?_)
          have F25 := F22.then rfl u24
          refine wi_iload_n (i := 2) (e := z15) (nx := 61) (r1 := 0) (r2 := 0) (r3 := 0) rfl rfl ?_
          refine wi_ireturn (nx := 62) (r1 := 0) (r2 := 0) (r3 := 0) rfl rfl ?_
          have e26 : h24 18 16 = e23 := w24
          have b27 := gi_b (lo := 0) (hi := 12) g 18 7 rfl
          have e28 : h24 18 7 = h 18 7 := ((u24 18 7 rfl).trans ((v21 18 7 rfl).trans ((u18 18 7 rfl).trans (u16 18 7 rfl))))
          exact k h24 z15 g24 F25 (by omega) (show ((h24 18 16) = (h 18 16) ∧ (h24 18 7) = (h 18 7)) ∨ ((h 18 16) + 1 ≤ (h24 18 16) ∧ (h24 18 16) ≤ (h 18 16) + 1) by omega)
-- method 75: Line.stepByRule()I
set_option maxRecDepth 100000 in
set_option maxHeartbeats 100000000 in
theorem ct_75_18 {L : Nat} {xs : Nat → Int32} {d b c : Nat} {h : hp} {cr : Nat → Nat → Option Nat} {Q : hp_Q} (hcr : CR cr)  (g : GI h)   (pp0 : h 18 16 ≤ 1999999990) (k : ∀ (h2 : hp) (z0 : Int) , GI h2 → FR [(20, 20, none), (22, 23, none), (24, 25, none), (26, 27, none), (28, 28, none), (29, 36, none), (18, 18, some (7, 13)), (18, 18, some (15, 16))] h h2 → (-1 ≤ z0 ∧ z0 ≤ 3) → ((h2 18 16 = h 18 16 ∧ h2 18 7 = h 18 7) ∨ (h 18 16 + 1 ≤ h2 18 16 ∧ h2 18 16 ≤ h 18 16 + 4)) → Q (.inl (some (vi z0))) (hp_w h2 cr) b c) : wp (md_xa (L, xs)) (d + 3) 75 (0, [(0, .ref 18)], [], hp_w h cr, b, c) Q := by
  have F0 : FR [(20, 20, none), (22, 23, none), (24, 25, none), (26, 27, none), (28, 28, none), (29, 36, none), (18, 18, some (7, 13)), (18, 18, some (15, 16))] h h := FR.refl
  have b1 := gi_b (lo := -2147483648) (hi := 2147483647) g 18 16 rfl
  refine wi_aload_n (i := 0) (x := 18) (nx := 1) (r1 := 0) (r2 := 0) (r3 := 0) rfl rfl ?_
  refine wr_V (k0 := 18) (rest := []) (as := [.ref 18]) (nx := 4) (r1 := 76) (r2 := 0) (r3 := 4) rfl rfl rfl (of_decide_eq_true rfl) rfl rfl (by decide) rfl rfl (of_decide_eq_true rfl) (of_decide_eq_true rfl) ?_
  refine ct_76_18 hcr  g    (fun z3  (fz3 : 0 ≤ z3 ∧ z3 ≤ 1) => ?_)
  refine wk_i ?_
  refine wi_if (cd := .eq) (nx := 7) (r1 := 29) (r2 := 0) (r3 := 0) rfl (by omega) (fun (q4 : z3 = 0) => ?_) (fun (q4 : ¬ (z3 = 0)) => ?_)
  ·
    refine wi_aload_n (i := 0) (x := 18) (nx := 30) (r1 := 0) (r2 := 0) (r3 := 0) rfl rfl ?_
    have b5 := gi_b (lo := 0) (hi := 12) g 18 7 rfl
    refine wr_gi0 (k0 := 18) (x := h 18 7) (nx := 33) (r1 := 4) (r2 := 7) (r3 := 0) rfl rfl (by decide) rfl ⟨rfl, rfl⟩ rfl rfl ?_
    refine wi_aload_n (i := 0) (x := 18) (nx := 34) (r1 := 0) (r2 := 0) (r3 := 0) rfl rfl ?_
    refine wr_gr (k0 := 18) (x := 3) (nx := 37) (r1 := 4) (r2 := 0) (r3 := 0) rfl rfl (by decide) rfl ⟨rfl, rfl⟩ rfl ?_
    have b6 := gi_b (lo := 0) (hi := 12) g 3 2 rfl
    refine wr_gi0 (k0 := 3) (x := h 3 2) (nx := 40) (r1 := 2) (r2 := 2) (r3 := 0) rfl rfl (by decide) rfl ⟨rfl, rfl⟩ rfl rfl ?_
    refine wi_icmp (cd := .ge) (nx := 43) (r1 := 61) (r2 := 0) (r3 := 0) rfl (by omega) (by omega) (fun (q7 : (h 3 2) ≤ (h 18 7)) => ?_) (fun (q7 : ¬ ((h 3 2) ≤ (h 18 7))) => ?_)
    ·
      refine wi_aload_n (i := 0) (x := 18) (nx := 62) (r1 := 0) (r2 := 0) (r3 := 0) rfl rfl ?_
      refine wi_aload_n (i := 0) (x := 18) (nx := 63) (r1 := 0) (r2 := 0) (r3 := 0) rfl rfl ?_
      refine wr_V (k0 := 18) (rest := [.ref 18]) (as := [.ref 18]) (nx := 66) (r1 := 82) (r2 := 0) (r3 := 4) rfl rfl rfl (of_decide_eq_true rfl) rfl rfl (by decide) rfl rfl (of_decide_eq_true rfl) (of_decide_eq_true rfl) ?_
      refine ct_82_18 hcr  g    (fun z9  (fz9 : -1 ≤ z9 ∧ z9 ≤ 3) => ?_)
      refine wk_i ?_
      refine wr_V (k0 := 18) (rest := []) (as := [.ref 18, vi z9]) (nx := 69) (r1 := 84) (r2 := 1) (r3 := 4) rfl rfl rfl (of_decide_eq_true rfl) rfl rfl (by decide) rfl rfl (of_decide_eq_true rfl) (of_decide_eq_true rfl) ?_
      refine ct_84_18 hcr  g z9 (by omega) (show (h 18 16) ≤ 2000000000 by omega) (fun h10 z11 g10 u10 (fz11 : -1 ≤ z11 ∧ z11 ≤ 11) (p10_0 : ((h10 18 16) = (h 18 16) ∧ (h10 18 7) = (h 18 7)) ∨ ((h 18 16) + 1 ≤ (h10 18 16) ∧ (h10 18 16) ≤ (h 18 16) + 1)) => ?_)
      have F12 := F0.then (by decide +kernel) u10
      have b13 := gi_b (lo := -2147483648) (hi := 2147483647) g10 18 16 rfl
      have e14 : h10 18 7 = h 18 7 := (u10 18 7 rfl)
      refine wk_i ?_
      refine wi_iconst (n := (-1)) (nx := 70) (r1 := 0) (r2 := 0) (r3 := 0) rfl ?_
      refine wi_icmp (cd := .eq) (nx := 73) (r1 := 75) (r2 := 0) (r3 := 0) rfl (by omega) (by omega) (fun (q15 : z11 = (-1)) => ?_) (fun (q15 : ¬ (z11 = (-1))) => ?_)
      ·
        refine wi_aload_n (i := 0) (x := 18) (nx := 76) (r1 := 0) (r2 := 0) (r3 := 0) rfl rfl ?_
        refine wr_gr (k0 := 18) (x := 22) (nx := 79) (r1 := 4) (r2 := 4) (r3 := 0) rfl rfl (by decide) rfl ⟨rfl, rfl⟩ rfl ?_
        have b16 := gi_b (lo := 0) (hi := 12) g10 22 1 rfl
        refine wr_gi0 (k0 := 22) (x := h10 22 1) (nx := 82) (r1 := 5) (r2 := 1) (r3 := 0) rfl rfl (by decide) rfl ⟨rfl, rfl⟩ rfl rfl ?_
        refine wi_if (cd := .le) (nx := 85) (r1 := 97) (r2 := 0) (r3 := 0) rfl (by omega) (fun (q17 : (h10 22 1) ≤ 0) => ?_) (fun (q17 : ¬ ((h10 22 1) ≤ 0)) => ?_)
        ·
          refine wi_iconst (n := (-1)) (nx := 98) (r1 := 0) (r2 := 0) (r3 := 0) rfl ?_
          refine wi_ireturn (nx := 99) (r1 := 0) (r2 := 0) (r3 := 0) rfl rfl ?_
          exact k h10 (-1) g10 F12 (by omega) (show ((h10 18 16) = (h 18 16) ∧ (h10 18 7) = (h 18 7)) ∨ ((h 18 16) + 1 ≤ (h10 18 16) ∧ (h10 18 16) ≤ (h 18 16) + 4) by omega)
        ·
          refine wi_aload_n (i := 0) (x := 18) (nx := 86) (r1 := 0) (r2 := 0) (r3 := 0) rfl rfl ?_
          refine wr_V (k0 := 18) (rest := []) (as := [.ref 18]) (nx := 89) (r1 := 87) (r2 := 0) (r3 := 4) rfl rfl rfl (of_decide_eq_true rfl) rfl rfl (by decide) rfl rfl (of_decide_eq_true rfl) (of_decide_eq_true rfl) ?_
          refine ct_87_18 hcr  g10   (show (h10 18 16) ≤ 2000000000 by omega) (fun h18 z19 g18 u18 (fz19 : -2147483647 ≤ z19 ∧ z19 ≤ 9999) (p18_0 : ((h18 18 16) = (h10 18 16) ∧ (h18 18 7) = (h10 18 7)) ∨ ((h10 18 16) + 1 ≤ (h18 18 16) ∧ (h18 18 16) ≤ (h10 18 16) + 1)) => ?_)
          have F20 := F12.then (by decide +kernel) u18
          have b21 := gi_b (lo := -2147483648) (hi := 2147483647) g18 18 16 rfl
          have e22 : h18 18 7 = h 18 7 := ((u18 18 7 rfl).trans (u10 18 7 rfl))
          refine wk_i ?_
          refine wi_iconst (n := (-1)) (nx := 90) (r1 := 0) (r2 := 0) (r3 := 0) rfl ?_
          refine wi_icmp (cd := .eq) (nx := 93) (r1 := 97) (r2 := 0) (r3 := 0) rfl (by omega) (by omega) (fun (q23 : z19 = (-1)) => ?_) (fun (q23 : ¬ (z19 = (-1))) => ?_)
          ·
            refine wi_iconst (n := (-1)) (nx := 98) (r1 := 0) (r2 := 0) (r3 := 0) rfl ?_
            refine wi_ireturn (nx := 99) (r1 := 0) (r2 := 0) (r3 := 0) rfl rfl ?_
            exact k h18 (-1) g18 F20 (by omega) (show ((h18 18 16) = (h 18 16) ∧ (h18 18 7) = (h 18 7)) ∨ ((h 18 16) + 1 ≤ (h18 18 16) ∧ (h18 18 16) ≤ (h 18 16) + 4) by omega)
          ·
            refine wi_iconst (n := 3) (nx := 94) (r1 := 0) (r2 := 0) (r3 := 0) rfl ?_
            refine wi_goto (nx := 97) (r1 := 98) (r2 := 0) (r3 := 0) rfl ?_
            refine wi_ireturn (nx := 99) (r1 := 0) (r2 := 0) (r3 := 0) rfl rfl ?_
            exact k h18 3 g18 F20 (by omega) (show ((h18 18 16) = (h 18 16) ∧ (h18 18 7) = (h 18 7)) ∨ ((h 18 16) + 1 ≤ (h18 18 16) ∧ (h18 18 16) ≤ (h 18 16) + 4) by omega)
      ·
        refine wi_iconst (n := 2) (nx := 74) (r1 := 0) (r2 := 0) (r3 := 0) rfl ?_
        refine wi_ireturn (nx := 75) (r1 := 0) (r2 := 0) (r3 := 0) rfl rfl ?_
        exact k h10 2 g10 F12 (by omega) (show ((h10 18 16) = (h 18 16) ∧ (h10 18 7) = (h 18 7)) ∨ ((h 18 16) + 1 ≤ (h10 18 16) ∧ (h10 18 16) ≤ (h 18 16) + 4) by omega)
    ·
      refine wi_aload_n (i := 0) (x := 18) (nx := 44) (r1 := 0) (r2 := 0) (r3 := 0) rfl rfl ?_
      refine wi_aload_n (i := 0) (x := 18) (nx := 45) (r1 := 0) (r2 := 0) (r3 := 0) rfl rfl ?_
      refine wi_aload_n (i := 0) (x := 18) (nx := 46) (r1 := 0) (r2 := 0) (r3 := 0) rfl rfl ?_
      refine wr_gi0 (k0 := 18) (x := h 18 7) (nx := 49) (r1 := 4) (r2 := 7) (r3 := 0) rfl rfl (by decide) rfl ⟨rfl, rfl⟩ rfl rfl ?_
      refine wr_V (k0 := 18) (rest := [.ref 18]) (as := [.ref 18, vi (h 18 7)]) (nx := 52) (r1 := 77) (r2 := 1) (r3 := 4) rfl rfl rfl (of_decide_eq_true rfl) rfl rfl (by decide) rfl rfl (of_decide_eq_true rfl) (of_decide_eq_true rfl) ?_
      refine ct_77_18 hcr  g (h 18 7) (by omega)  (fun z9  (fz9 : -1 ≤ z9 ∧ z9 ≤ 3) => ?_)
      refine wk_i ?_
      refine wr_V (k0 := 18) (rest := []) (as := [.ref 18, vi z9]) (nx := 55) (r1 := 81) (r2 := 1) (r3 := 4) rfl rfl rfl (of_decide_eq_true rfl) rfl rfl (by decide) rfl rfl (of_decide_eq_true rfl) (of_decide_eq_true rfl) ?_
      refine ct_81_18 hcr  g z9 (by omega) (show (h 18 16) ≤ 2000000000 by omega) (fun h10 z11 g10 u10 (fz11 : -1 ≤ z11 ∧ z11 ≤ 11) (p10_0 : ((h10 18 16) = (h 18 16) ∧ (h10 18 7) = (h 18 7)) ∨ ((h 18 16) + 1 ≤ (h10 18 16) ∧ (h10 18 16) ≤ (h 18 16) + 1)) => ?_)
      have F12 := F0.then (by decide +kernel) u10
      have b13 := gi_b (lo := -2147483648) (hi := 2147483647) g10 18 16 rfl
      have b14 := gi_b (lo := 0) (hi := 12) g10 18 7 rfl
      refine wk_i ?_
      refine wi_iconst (n := (-1)) (nx := 56) (r1 := 0) (r2 := 0) (r3 := 0) rfl ?_
      refine wi_icmp (cd := .eq) (nx := 59) (r1 := 61) (r2 := 0) (r3 := 0) rfl (by omega) (by omega) (fun (q15 : z11 = (-1)) => ?_) (fun (q15 : ¬ (z11 = (-1))) => ?_)
      ·
        refine wi_aload_n (i := 0) (x := 18) (nx := 62) (r1 := 0) (r2 := 0) (r3 := 0) rfl rfl ?_
        refine wi_aload_n (i := 0) (x := 18) (nx := 63) (r1 := 0) (r2 := 0) (r3 := 0) rfl rfl ?_
        refine wr_V (k0 := 18) (rest := [.ref 18]) (as := [.ref 18]) (nx := 66) (r1 := 82) (r2 := 0) (r3 := 4) rfl rfl rfl (of_decide_eq_true rfl) rfl rfl (by decide) rfl rfl (of_decide_eq_true rfl) (of_decide_eq_true rfl) ?_
        refine ct_82_18 hcr  g10    (fun z17  (fz17 : -1 ≤ z17 ∧ z17 ≤ 3) => ?_)
        refine wk_i ?_
        refine wr_V (k0 := 18) (rest := []) (as := [.ref 18, vi z17]) (nx := 69) (r1 := 84) (r2 := 1) (r3 := 4) rfl rfl rfl (of_decide_eq_true rfl) rfl rfl (by decide) rfl rfl (of_decide_eq_true rfl) (of_decide_eq_true rfl) ?_
        refine ct_84_18 hcr  g10 z17 (by omega) (show (h10 18 16) ≤ 2000000000 by omega) (fun h18 z19 g18 u18 (fz19 : -1 ≤ z19 ∧ z19 ≤ 11) (p18_0 : ((h18 18 16) = (h10 18 16) ∧ (h18 18 7) = (h10 18 7)) ∨ ((h10 18 16) + 1 ≤ (h18 18 16) ∧ (h18 18 16) ≤ (h10 18 16) + 1)) => ?_)
        have F20 := F12.then (by decide +kernel) u18
        have b21 := gi_b (lo := -2147483648) (hi := 2147483647) g18 18 16 rfl
        have e22 : h18 18 7 = h10 18 7 := (u18 18 7 rfl)
        refine wk_i ?_
        refine wi_iconst (n := (-1)) (nx := 70) (r1 := 0) (r2 := 0) (r3 := 0) rfl ?_
        refine wi_icmp (cd := .eq) (nx := 73) (r1 := 75) (r2 := 0) (r3 := 0) rfl (by omega) (by omega) (fun (q23 : z19 = (-1)) => ?_) (fun (q23 : ¬ (z19 = (-1))) => ?_)
        ·
          refine wi_aload_n (i := 0) (x := 18) (nx := 76) (r1 := 0) (r2 := 0) (r3 := 0) rfl rfl ?_
          refine wr_gr (k0 := 18) (x := 22) (nx := 79) (r1 := 4) (r2 := 4) (r3 := 0) rfl rfl (by decide) rfl ⟨rfl, rfl⟩ rfl ?_
          have b24 := gi_b (lo := 0) (hi := 12) g18 22 1 rfl
          refine wr_gi0 (k0 := 22) (x := h18 22 1) (nx := 82) (r1 := 5) (r2 := 1) (r3 := 0) rfl rfl (by decide) rfl ⟨rfl, rfl⟩ rfl rfl ?_
          refine wi_if (cd := .le) (nx := 85) (r1 := 97) (r2 := 0) (r3 := 0) rfl (by omega) (fun (q25 : (h18 22 1) ≤ 0) => ?_) (fun (q25 : ¬ ((h18 22 1) ≤ 0)) => ?_)
          ·
            refine wi_iconst (n := (-1)) (nx := 98) (r1 := 0) (r2 := 0) (r3 := 0) rfl ?_
            refine wi_ireturn (nx := 99) (r1 := 0) (r2 := 0) (r3 := 0) rfl rfl ?_
            exact k h18 (-1) g18 F20 (by omega) (show ((h18 18 16) = (h 18 16) ∧ (h18 18 7) = (h 18 7)) ∨ ((h 18 16) + 1 ≤ (h18 18 16) ∧ (h18 18 16) ≤ (h 18 16) + 4) by omega)
          ·
            refine wi_aload_n (i := 0) (x := 18) (nx := 86) (r1 := 0) (r2 := 0) (r3 := 0) rfl rfl ?_
            refine wr_V (k0 := 18) (rest := []) (as := [.ref 18]) (nx := 89) (r1 := 87) (r2 := 0) (r3 := 4) rfl rfl rfl (of_decide_eq_true rfl) rfl rfl (by decide) rfl rfl (of_decide_eq_true rfl) (of_decide_eq_true rfl) ?_
            refine ct_87_18 hcr  g18   (show (h18 18 16) ≤ 2000000000 by omega) (fun h26 z27 g26 u26 (fz27 : -2147483647 ≤ z27 ∧ z27 ≤ 9999) (p26_0 : ((h26 18 16) = (h18 18 16) ∧ (h26 18 7) = (h18 18 7)) ∨ ((h18 18 16) + 1 ≤ (h26 18 16) ∧ (h26 18 16) ≤ (h18 18 16) + 1)) => ?_)
            have F28 := F20.then (by decide +kernel) u26
            have b29 := gi_b (lo := -2147483648) (hi := 2147483647) g26 18 16 rfl
            have e30 : h26 18 7 = h10 18 7 := ((u26 18 7 rfl).trans (u18 18 7 rfl))
            refine wk_i ?_
            refine wi_iconst (n := (-1)) (nx := 90) (r1 := 0) (r2 := 0) (r3 := 0) rfl ?_
            refine wi_icmp (cd := .eq) (nx := 93) (r1 := 97) (r2 := 0) (r3 := 0) rfl (by omega) (by omega) (fun (q31 : z27 = (-1)) => ?_) (fun (q31 : ¬ (z27 = (-1))) => ?_)
            ·
              refine wi_iconst (n := (-1)) (nx := 98) (r1 := 0) (r2 := 0) (r3 := 0) rfl ?_
              refine wi_ireturn (nx := 99) (r1 := 0) (r2 := 0) (r3 := 0) rfl rfl ?_
              exact k h26 (-1) g26 F28 (by omega) (show ((h26 18 16) = (h 18 16) ∧ (h26 18 7) = (h 18 7)) ∨ ((h 18 16) + 1 ≤ (h26 18 16) ∧ (h26 18 16) ≤ (h 18 16) + 4) by omega)
            ·
              refine wi_iconst (n := 3) (nx := 94) (r1 := 0) (r2 := 0) (r3 := 0) rfl ?_
              refine wi_goto (nx := 97) (r1 := 98) (r2 := 0) (r3 := 0) rfl ?_
              refine wi_ireturn (nx := 99) (r1 := 0) (r2 := 0) (r3 := 0) rfl rfl ?_
              exact k h26 3 g26 F28 (by omega) (show ((h26 18 16) = (h 18 16) ∧ (h26 18 7) = (h 18 7)) ∨ ((h 18 16) + 1 ≤ (h26 18 16) ∧ (h26 18 16) ≤ (h 18 16) + 4) by omega)
        ·
          refine wi_iconst (n := 2) (nx := 74) (r1 := 0) (r2 := 0) (r3 := 0) rfl ?_
          refine wi_ireturn (nx := 75) (r1 := 0) (r2 := 0) (r3 := 0) rfl rfl ?_
          exact k h18 2 g18 F20 (by omega) (show ((h18 18 16) = (h 18 16) ∧ (h18 18 7) = (h 18 7)) ∨ ((h 18 16) + 1 ≤ (h18 18 16) ∧ (h18 18 16) ≤ (h 18 16) + 4) by omega)
      ·
        refine wi_iconst (n := 1) (nx := 60) (r1 := 0) (r2 := 0) (r3 := 0) rfl ?_
        refine wi_ireturn (nx := 61) (r1 := 0) (r2 := 0) (r3 := 0) rfl rfl ?_
        exact k h10 1 g10 F12 (by omega) (show ((h10 18 16) = (h 18 16) ∧ (h10 18 7) = (h 18 7)) ∨ ((h 18 16) + 1 ≤ (h10 18 16) ∧ (h10 18 16) ≤ (h 18 16) + 4) by omega)
  ·
    refine wi_aload_n (i := 0) (x := 18) (nx := 8) (r1 := 0) (r2 := 0) (r3 := 0) rfl rfl ?_
    refine wi_aload_n (i := 0) (x := 18) (nx := 9) (r1 := 0) (r2 := 0) (r3 := 0) rfl rfl ?_
    refine wi_aload_n (i := 0) (x := 18) (nx := 10) (r1 := 0) (r2 := 0) (r3 := 0) rfl rfl ?_
    refine wr_gr (k0 := 18) (x := 22) (nx := 13) (r1 := 4) (r2 := 4) (r3 := 0) rfl rfl (by decide) rfl ⟨rfl, rfl⟩ rfl ?_
    refine wi_iconst (n := 0) (nx := 14) (r1 := 0) (r2 := 0) (r3 := 0) rfl ?_
    refine wr_V (k0 := 22) (rest := [.ref 18, .ref 18]) (as := [.ref 22, vi 0]) (nx := 17) (r1 := 95) (r2 := 1) (r3 := 5) rfl rfl rfl (of_decide_eq_true rfl) rfl rfl (by decide) rfl rfl (of_decide_eq_true rfl) (of_decide_eq_true rfl) ?_
    refine ct_95_R hcr rw_22 g 0 (by omega)  (fun z6  (fz6 : -2147483648 ≤ z6 ∧ z6 ≤ 2147483647) => ?_)
    refine wk_i ?_
    refine wr_V (k0 := 18) (rest := [.ref 18]) (as := [.ref 18, vi z6]) (nx := 20) (r1 := 77) (r2 := 1) (r3 := 4) rfl rfl rfl (of_decide_eq_true rfl) rfl rfl (by decide) rfl rfl (of_decide_eq_true rfl) (of_decide_eq_true rfl) ?_
    refine ct_77_18 hcr  g z6 (by omega)  (fun z8  (fz8 : -1 ≤ z8 ∧ z8 ≤ 3) => ?_)
    refine wk_i ?_
    refine wr_V (k0 := 18) (rest := []) (as := [.ref 18, vi z8]) (nx := 23) (r1 := 80) (r2 := 1) (r3 := 4) rfl rfl rfl (of_decide_eq_true rfl) rfl rfl (by decide) rfl rfl (of_decide_eq_true rfl) (of_decide_eq_true rfl) ?_
    refine ct_80_18 hcr  g z8 (by omega) (show (h 18 16) ≤ 2000000000 by omega) (fun h9 z10 g9 u9 (fz10 : -2147483648 ≤ z10 ∧ z10 ≤ 2147483647) (p9_0 : ((h9 18 16) = (h 18 16) ∧ (h9 18 7) = (h 18 7)) ∨ ((h 18 16) + 1 ≤ (h9 18 16) ∧ (h9 18 16) ≤ (h 18 16) + 1)) => ?_)
    have F11 := F0.then (by decide +kernel) u9
    have b12 := gi_b (lo := 0) (hi := 12) g 18 7 rfl
    have b13 := gi_b (lo := -2147483648) (hi := 2147483647) g9 18 16 rfl
    have e14 : h9 18 7 = h 18 7 := (u9 18 7 rfl)
    refine wk_i ?_
    refine wi_iconst (n := (-1)) (nx := 24) (r1 := 0) (r2 := 0) (r3 := 0) rfl ?_
    refine wi_icmp (cd := .eq) (nx := 27) (r1 := 29) (r2 := 0) (r3 := 0) rfl (by omega) (by omega) (fun (q15 : z10 = (-1)) => ?_) (fun (q15 : ¬ (z10 = (-1))) => ?_)
    ·
      refine wi_aload_n (i := 0) (x := 18) (nx := 30) (r1 := 0) (r2 := 0) (r3 := 0) rfl rfl ?_
      refine wr_gi0 (k0 := 18) (x := h 18 7) (nx := 33) (r1 := 4) (r2 := 7) (r3 := 0) rfl rfl (by decide) rfl ⟨rfl, rfl⟩ rfl (u9 18 7 rfl) ?_
      refine wi_aload_n (i := 0) (x := 18) (nx := 34) (r1 := 0) (r2 := 0) (r3 := 0) rfl rfl ?_
      refine wr_gr (k0 := 18) (x := 3) (nx := 37) (r1 := 4) (r2 := 0) (r3 := 0) rfl rfl (by decide) rfl ⟨rfl, rfl⟩ rfl ?_
      have b16 := gi_b (lo := 0) (hi := 12) g 3 2 rfl
      refine wr_gi0 (k0 := 3) (x := h 3 2) (nx := 40) (r1 := 2) (r2 := 2) (r3 := 0) rfl rfl (by decide) rfl ⟨rfl, rfl⟩ rfl (u9 3 2 rfl) ?_
      refine wi_icmp (cd := .ge) (nx := 43) (r1 := 61) (r2 := 0) (r3 := 0) rfl (by omega) (by omega) (fun (q17 : (h 3 2) ≤ (h 18 7)) => ?_) (fun (q17 : ¬ ((h 3 2) ≤ (h 18 7))) => ?_)
      ·
        refine wi_aload_n (i := 0) (x := 18) (nx := 62) (r1 := 0) (r2 := 0) (r3 := 0) rfl rfl ?_
        refine wi_aload_n (i := 0) (x := 18) (nx := 63) (r1 := 0) (r2 := 0) (r3 := 0) rfl rfl ?_
        refine wr_V (k0 := 18) (rest := [.ref 18]) (as := [.ref 18]) (nx := 66) (r1 := 82) (r2 := 0) (r3 := 4) rfl rfl rfl (of_decide_eq_true rfl) rfl rfl (by decide) rfl rfl (of_decide_eq_true rfl) (of_decide_eq_true rfl) ?_
        refine ct_82_18 hcr  g9    (fun z19  (fz19 : -1 ≤ z19 ∧ z19 ≤ 3) => ?_)
        refine wk_i ?_
        refine wr_V (k0 := 18) (rest := []) (as := [.ref 18, vi z19]) (nx := 69) (r1 := 84) (r2 := 1) (r3 := 4) rfl rfl rfl (of_decide_eq_true rfl) rfl rfl (by decide) rfl rfl (of_decide_eq_true rfl) (of_decide_eq_true rfl) ?_
        refine ct_84_18 hcr  g9 z19 (by omega) (show (h9 18 16) ≤ 2000000000 by omega) (fun h20 z21 g20 u20 (fz21 : -1 ≤ z21 ∧ z21 ≤ 11) (p20_0 : ((h20 18 16) = (h9 18 16) ∧ (h20 18 7) = (h9 18 7)) ∨ ((h9 18 16) + 1 ≤ (h20 18 16) ∧ (h20 18 16) ≤ (h9 18 16) + 1)) => ?_)
        have F22 := F11.then (by decide +kernel) u20
        have b23 := gi_b (lo := -2147483648) (hi := 2147483647) g20 18 16 rfl
        have e24 : h20 18 7 = h 18 7 := ((u20 18 7 rfl).trans (u9 18 7 rfl))
        refine wk_i ?_
        refine wi_iconst (n := (-1)) (nx := 70) (r1 := 0) (r2 := 0) (r3 := 0) rfl ?_
        refine wi_icmp (cd := .eq) (nx := 73) (r1 := 75) (r2 := 0) (r3 := 0) rfl (by omega) (by omega) (fun (q25 : z21 = (-1)) => ?_) (fun (q25 : ¬ (z21 = (-1))) => ?_)
        ·
          refine wi_aload_n (i := 0) (x := 18) (nx := 76) (r1 := 0) (r2 := 0) (r3 := 0) rfl rfl ?_
          refine wr_gr (k0 := 18) (x := 22) (nx := 79) (r1 := 4) (r2 := 4) (r3 := 0) rfl rfl (by decide) rfl ⟨rfl, rfl⟩ rfl ?_
          have b26 := gi_b (lo := 0) (hi := 12) g20 22 1 rfl
          refine wr_gi0 (k0 := 22) (x := h20 22 1) (nx := 82) (r1 := 5) (r2 := 1) (r3 := 0) rfl rfl (by decide) rfl ⟨rfl, rfl⟩ rfl rfl ?_
          refine wi_if (cd := .le) (nx := 85) (r1 := 97) (r2 := 0) (r3 := 0) rfl (by omega) (fun (q27 : (h20 22 1) ≤ 0) => ?_) (fun (q27 : ¬ ((h20 22 1) ≤ 0)) => ?_)
          ·
            refine wi_iconst (n := (-1)) (nx := 98) (r1 := 0) (r2 := 0) (r3 := 0) rfl ?_
            refine wi_ireturn (nx := 99) (r1 := 0) (r2 := 0) (r3 := 0) rfl rfl ?_
            exact k h20 (-1) g20 F22 (by omega) (show ((h20 18 16) = (h 18 16) ∧ (h20 18 7) = (h 18 7)) ∨ ((h 18 16) + 1 ≤ (h20 18 16) ∧ (h20 18 16) ≤ (h 18 16) + 4) by omega)
          ·
            refine wi_aload_n (i := 0) (x := 18) (nx := 86) (r1 := 0) (r2 := 0) (r3 := 0) rfl rfl ?_
            refine wr_V (k0 := 18) (rest := []) (as := [.ref 18]) (nx := 89) (r1 := 87) (r2 := 0) (r3 := 4) rfl rfl rfl (of_decide_eq_true rfl) rfl rfl (by decide) rfl rfl (of_decide_eq_true rfl) (of_decide_eq_true rfl) ?_
            refine ct_87_18 hcr  g20   (show (h20 18 16) ≤ 2000000000 by omega) (fun h28 z29 g28 u28 (fz29 : -2147483647 ≤ z29 ∧ z29 ≤ 9999) (p28_0 : ((h28 18 16) = (h20 18 16) ∧ (h28 18 7) = (h20 18 7)) ∨ ((h20 18 16) + 1 ≤ (h28 18 16) ∧ (h28 18 16) ≤ (h20 18 16) + 1)) => ?_)
            have F30 := F22.then (by decide +kernel) u28
            have b31 := gi_b (lo := -2147483648) (hi := 2147483647) g28 18 16 rfl
            have e32 : h28 18 7 = h 18 7 := ((u28 18 7 rfl).trans ((u20 18 7 rfl).trans (u9 18 7 rfl)))
            refine wk_i ?_
            refine wi_iconst (n := (-1)) (nx := 90) (r1 := 0) (r2 := 0) (r3 := 0) rfl ?_
            refine wi_icmp (cd := .eq) (nx := 93) (r1 := 97) (r2 := 0) (r3 := 0) rfl (by omega) (by omega) (fun (q33 : z29 = (-1)) => ?_) (fun (q33 : ¬ (z29 = (-1))) => ?_)
            ·
              refine wi_iconst (n := (-1)) (nx := 98) (r1 := 0) (r2 := 0) (r3 := 0) rfl ?_
              refine wi_ireturn (nx := 99) (r1 := 0) (r2 := 0) (r3 := 0) rfl rfl ?_
              exact k h28 (-1) g28 F30 (by omega) (show ((h28 18 16) = (h 18 16) ∧ (h28 18 7) = (h 18 7)) ∨ ((h 18 16) + 1 ≤ (h28 18 16) ∧ (h28 18 16) ≤ (h 18 16) + 4) by omega)
            ·
              refine wi_iconst (n := 3) (nx := 94) (r1 := 0) (r2 := 0) (r3 := 0) rfl ?_
              refine wi_goto (nx := 97) (r1 := 98) (r2 := 0) (r3 := 0) rfl ?_
              refine wi_ireturn (nx := 99) (r1 := 0) (r2 := 0) (r3 := 0) rfl rfl ?_
              exact k h28 3 g28 F30 (by omega) (show ((h28 18 16) = (h 18 16) ∧ (h28 18 7) = (h 18 7)) ∨ ((h 18 16) + 1 ≤ (h28 18 16) ∧ (h28 18 16) ≤ (h 18 16) + 4) by omega)
        ·
          refine wi_iconst (n := 2) (nx := 74) (r1 := 0) (r2 := 0) (r3 := 0) rfl ?_
          refine wi_ireturn (nx := 75) (r1 := 0) (r2 := 0) (r3 := 0) rfl rfl ?_
          exact k h20 2 g20 F22 (by omega) (show ((h20 18 16) = (h 18 16) ∧ (h20 18 7) = (h 18 7)) ∨ ((h 18 16) + 1 ≤ (h20 18 16) ∧ (h20 18 16) ≤ (h 18 16) + 4) by omega)
      ·
        refine wi_aload_n (i := 0) (x := 18) (nx := 44) (r1 := 0) (r2 := 0) (r3 := 0) rfl rfl ?_
        refine wi_aload_n (i := 0) (x := 18) (nx := 45) (r1 := 0) (r2 := 0) (r3 := 0) rfl rfl ?_
        refine wi_aload_n (i := 0) (x := 18) (nx := 46) (r1 := 0) (r2 := 0) (r3 := 0) rfl rfl ?_
        refine wr_gi0 (k0 := 18) (x := h 18 7) (nx := 49) (r1 := 4) (r2 := 7) (r3 := 0) rfl rfl (by decide) rfl ⟨rfl, rfl⟩ rfl (u9 18 7 rfl) ?_
        refine wr_V (k0 := 18) (rest := [.ref 18]) (as := [.ref 18, vi (h 18 7)]) (nx := 52) (r1 := 77) (r2 := 1) (r3 := 4) rfl rfl rfl (of_decide_eq_true rfl) rfl rfl (by decide) rfl rfl (of_decide_eq_true rfl) (of_decide_eq_true rfl) ?_
        refine ct_77_18 hcr  g9 (h 18 7) (by omega)  (fun z19  (fz19 : -1 ≤ z19 ∧ z19 ≤ 3) => ?_)
        refine wk_i ?_
        refine wr_V (k0 := 18) (rest := []) (as := [.ref 18, vi z19]) (nx := 55) (r1 := 81) (r2 := 1) (r3 := 4) rfl rfl rfl (of_decide_eq_true rfl) rfl rfl (by decide) rfl rfl (of_decide_eq_true rfl) (of_decide_eq_true rfl) ?_
        refine ct_81_18 hcr  g9 z19 (by omega) (show (h9 18 16) ≤ 2000000000 by omega) (fun h20 z21 g20 u20 (fz21 : -1 ≤ z21 ∧ z21 ≤ 11) (p20_0 : ((h20 18 16) = (h9 18 16) ∧ (h20 18 7) = (h9 18 7)) ∨ ((h9 18 16) + 1 ≤ (h20 18 16) ∧ (h20 18 16) ≤ (h9 18 16) + 1)) => ?_)
        have F22 := F11.then (by decide +kernel) u20
        have b23 := gi_b (lo := -2147483648) (hi := 2147483647) g20 18 16 rfl
        have b24 := gi_b (lo := 0) (hi := 12) g20 18 7 rfl
        refine wk_i ?_
        refine wi_iconst (n := (-1)) (nx := 56) (r1 := 0) (r2 := 0) (r3 := 0) rfl ?_
        refine wi_icmp (cd := .eq) (nx := 59) (r1 := 61) (r2 := 0) (r3 := 0) rfl (by omega) (by omega) (fun (q25 : z21 = (-1)) => ?_) (fun (q25 : ¬ (z21 = (-1))) => ?_)
        ·
          refine wi_aload_n (i := 0) (x := 18) (nx := 62) (r1 := 0) (r2 := 0) (r3 := 0) rfl rfl ?_
          refine wi_aload_n (i := 0) (x := 18) (nx := 63) (r1 := 0) (r2 := 0) (r3 := 0) rfl rfl ?_
          refine wr_V (k0 := 18) (rest := [.ref 18]) (as := [.ref 18]) (nx := 66) (r1 := 82) (r2 := 0) (r3 := 4) rfl rfl rfl (of_decide_eq_true rfl) rfl rfl (by decide) rfl rfl (of_decide_eq_true rfl) (of_decide_eq_true rfl) ?_
          refine ct_82_18 hcr  g20    (fun z27  (fz27 : -1 ≤ z27 ∧ z27 ≤ 3) => ?_)
          refine wk_i ?_
          refine wr_V (k0 := 18) (rest := []) (as := [.ref 18, vi z27]) (nx := 69) (r1 := 84) (r2 := 1) (r3 := 4) rfl rfl rfl (of_decide_eq_true rfl) rfl rfl (by decide) rfl rfl (of_decide_eq_true rfl) (of_decide_eq_true rfl) ?_
          refine ct_84_18 hcr  g20 z27 (by omega) (show (h20 18 16) ≤ 2000000000 by omega) (fun h28 z29 g28 u28 (fz29 : -1 ≤ z29 ∧ z29 ≤ 11) (p28_0 : ((h28 18 16) = (h20 18 16) ∧ (h28 18 7) = (h20 18 7)) ∨ ((h20 18 16) + 1 ≤ (h28 18 16) ∧ (h28 18 16) ≤ (h20 18 16) + 1)) => ?_)
          have F30 := F22.then (by decide +kernel) u28
          have b31 := gi_b (lo := -2147483648) (hi := 2147483647) g28 18 16 rfl
          have e32 : h28 18 7 = h20 18 7 := (u28 18 7 rfl)
          refine wk_i ?_
          refine wi_iconst (n := (-1)) (nx := 70) (r1 := 0) (r2 := 0) (r3 := 0) rfl ?_
          refine wi_icmp (cd := .eq) (nx := 73) (r1 := 75) (r2 := 0) (r3 := 0) rfl (by omega) (by omega) (fun (q33 : z29 = (-1)) => ?_) (fun (q33 : ¬ (z29 = (-1))) => ?_)
          ·
            refine wi_aload_n (i := 0) (x := 18) (nx := 76) (r1 := 0) (r2 := 0) (r3 := 0) rfl rfl ?_
            refine wr_gr (k0 := 18) (x := 22) (nx := 79) (r1 := 4) (r2 := 4) (r3 := 0) rfl rfl (by decide) rfl ⟨rfl, rfl⟩ rfl ?_
            have b34 := gi_b (lo := 0) (hi := 12) g28 22 1 rfl
            refine wr_gi0 (k0 := 22) (x := h28 22 1) (nx := 82) (r1 := 5) (r2 := 1) (r3 := 0) rfl rfl (by decide) rfl ⟨rfl, rfl⟩ rfl rfl ?_
            refine wi_if (cd := .le) (nx := 85) (r1 := 97) (r2 := 0) (r3 := 0) rfl (by omega) (fun (q35 : (h28 22 1) ≤ 0) => ?_) (fun (q35 : ¬ ((h28 22 1) ≤ 0)) => ?_)
            ·
              refine wi_iconst (n := (-1)) (nx := 98) (r1 := 0) (r2 := 0) (r3 := 0) rfl ?_
              refine wi_ireturn (nx := 99) (r1 := 0) (r2 := 0) (r3 := 0) rfl rfl ?_
              exact k h28 (-1) g28 F30 (by omega) (show ((h28 18 16) = (h 18 16) ∧ (h28 18 7) = (h 18 7)) ∨ ((h 18 16) + 1 ≤ (h28 18 16) ∧ (h28 18 16) ≤ (h 18 16) + 4) by omega)
            ·
              refine wi_aload_n (i := 0) (x := 18) (nx := 86) (r1 := 0) (r2 := 0) (r3 := 0) rfl rfl ?_
              refine wr_V (k0 := 18) (rest := []) (as := [.ref 18]) (nx := 89) (r1 := 87) (r2 := 0) (r3 := 4) rfl rfl rfl (of_decide_eq_true rfl) rfl rfl (by decide) rfl rfl (of_decide_eq_true rfl) (of_decide_eq_true rfl) ?_
              refine ct_87_18 hcr  g28   (show (h28 18 16) ≤ 2000000000 by omega) (fun h36 z37 g36 u36 (fz37 : -2147483647 ≤ z37 ∧ z37 ≤ 9999) (p36_0 : ((h36 18 16) = (h28 18 16) ∧ (h36 18 7) = (h28 18 7)) ∨ ((h28 18 16) + 1 ≤ (h36 18 16) ∧ (h36 18 16) ≤ (h28 18 16) + 1)) => ?_)
              have F38 := F30.then (by decide +kernel) u36
              have b39 := gi_b (lo := -2147483648) (hi := 2147483647) g36 18 16 rfl
              have e40 : h36 18 7 = h20 18 7 := ((u36 18 7 rfl).trans (u28 18 7 rfl))
              refine wk_i ?_
              refine wi_iconst (n := (-1)) (nx := 90) (r1 := 0) (r2 := 0) (r3 := 0) rfl ?_
              refine wi_icmp (cd := .eq) (nx := 93) (r1 := 97) (r2 := 0) (r3 := 0) rfl (by omega) (by omega) (fun (q41 : z37 = (-1)) => ?_) (fun (q41 : ¬ (z37 = (-1))) => ?_)
              ·
                refine wi_iconst (n := (-1)) (nx := 98) (r1 := 0) (r2 := 0) (r3 := 0) rfl ?_
                refine wi_ireturn (nx := 99) (r1 := 0) (r2 := 0) (r3 := 0) rfl rfl ?_
                exact k h36 (-1) g36 F38 (by omega) (show ((h36 18 16) = (h 18 16) ∧ (h36 18 7) = (h 18 7)) ∨ ((h 18 16) + 1 ≤ (h36 18 16) ∧ (h36 18 16) ≤ (h 18 16) + 4) by omega)
              ·
                refine wi_iconst (n := 3) (nx := 94) (r1 := 0) (r2 := 0) (r3 := 0) rfl ?_
                refine wi_goto (nx := 97) (r1 := 98) (r2 := 0) (r3 := 0) rfl ?_
                refine wi_ireturn (nx := 99) (r1 := 0) (r2 := 0) (r3 := 0) rfl rfl ?_
                exact k h36 3 g36 F38 (by omega) (show ((h36 18 16) = (h 18 16) ∧ (h36 18 7) = (h 18 7)) ∨ ((h 18 16) + 1 ≤ (h36 18 16) ∧ (h36 18 16) ≤ (h 18 16) + 4) by omega)
          ·
            refine wi_iconst (n := 2) (nx := 74) (r1 := 0) (r2 := 0) (r3 := 0) rfl ?_
            refine wi_ireturn (nx := 75) (r1 := 0) (r2 := 0) (r3 := 0) rfl rfl ?_
            exact k h28 2 g28 F30 (by omega) (show ((h28 18 16) = (h 18 16) ∧ (h28 18 7) = (h 18 7)) ∨ ((h 18 16) + 1 ≤ (h28 18 16) ∧ (h28 18 16) ≤ (h 18 16) + 4) by omega)
        ·
          refine wi_iconst (n := 1) (nx := 60) (r1 := 0) (r2 := 0) (r3 := 0) rfl ?_
          refine wi_ireturn (nx := 61) (r1 := 0) (r2 := 0) (r3 := 0) rfl rfl ?_
          exact k h20 1 g20 F22 (by omega) (show ((h20 18 16) = (h 18 16) ∧ (h20 18 7) = (h 18 7)) ∨ ((h 18 16) + 1 ≤ (h20 18 16) ∧ (h20 18 16) ≤ (h 18 16) + 4) by omega)
    ·
      refine wi_iconst (n := 0) (nx := 28) (r1 := 0) (r2 := 0) (r3 := 0) rfl ?_
      refine wi_ireturn (nx := 29) (r1 := 0) (r2 := 0) (r3 := 0) rfl rfl ?_
      exact k h9 0 g9 F11 (by omega) (show ((h9 18 16) = (h 18 16) ∧ (h9 18 7) = (h 18 7)) ∨ ((h 18 16) + 1 ≤ (h9 18 16) ∧ (h9 18 16) ≤ (h 18 16) + 4) by omega)
-- method 125: History.keep()V
set_option maxRecDepth 100000 in
set_option maxHeartbeats 100000000 in
theorem ct_125_73 {L : Nat} {xs : Nat → Int32} {d b c : Nat} {h : hp} {cr : Nat → Nat → Option Nat} {Q : hp_Q} (hcr : CR cr)  (g : GI h)    (k : ∀ (h2 : hp) , GI h2 → FR [(73, 73, some (1, 2))] h h2 → ((h 73 1 ≤ 5 ∧ h2 73 1 = h 73 1 + 1) ∨ (h 73 1 = 6 ∧ h2 73 1 = 0)) → ((h 73 2 ≤ 5 ∧ h2 73 2 = h 73 2 + 1) ∨ (h 73 2 = 6 ∧ h2 73 2 = 6)) → Q (.inl none) (hp_w h2 cr) b c) : wp (md_xa (L, xs)) (d + 1) 125 (0, [(0, .ref 73)], [], hp_w h cr, b, c) Q := by
  have F0 : FR [(73, 73, some (1, 2))] h h := FR.refl
  refine wi_aload_n (i := 0) (x := 73) (nx := 1) (r1 := 0) (r2 := 0) (r3 := 0) rfl rfl ?_
  refine wi_aload_n (i := 0) (x := 73) (nx := 2) (r1 := 0) (r2 := 0) (r3 := 0) rfl rfl ?_
  have b1 := gi_b (lo := 0) (hi := 6) g 73 1 rfl
  refine wr_gi0 (k0 := 73) (x := h 73 1) (nx := 5) (r1 := 9) (r2 := 1) (r3 := 0) rfl rfl (by decide) rfl ⟨rfl, rfl⟩ rfl rfl ?_
  refine wi_iconst (n := 1) (nx := 6) (r1 := 0) (r2 := 0) (r3 := 0) rfl ?_
  refine wr_add (nx := 7) (r1 := 0) (r2 := 0) (r3 := 0) rfl (fun e2 (fe2 : e2 = (h 73 1) + 1) => ?_)
  refine wi_bipush (n := 7) (nx := 9) (r1 := 0) (r2 := 0) (r3 := 0) rfl (by decide) ?_
  refine wr_iremC (nx := 10) (r1 := 0) (r2 := 0) (r3 := 0) rfl (by omega) (by decide) (fun e3 (fe3 : e3 = e2 % 7) => ?_)
  refine wr_pf0 (k0 := 73) (x := e3) (bl := 0) (bh := 6) (nx := 13) (r1 := 9) (r2 := 1) (r3 := 0) rfl (by decide) rfl ⟨rfl, rfl⟩ rfl rfl g rfl (by omega) (fun h4 g4 w4 u4 => ?_)
  have F5 := F0.then rfl u4
  refine wi_aload_n (i := 0) (x := 73) (nx := 14) (r1 := 0) (r2 := 0) (r3 := 0) rfl rfl ?_
  refine wi_aload_n (i := 0) (x := 73) (nx := 15) (r1 := 0) (r2 := 0) (r3 := 0) rfl rfl ?_
  have b6 := gi_b (lo := 0) (hi := 6) g 73 2 rfl
  refine wr_gi0 (k0 := 73) (x := h 73 2) (nx := 18) (r1 := 9) (r2 := 2) (r3 := 0) rfl rfl (by decide) rfl ⟨rfl, rfl⟩ rfl (u4 73 2 rfl) ?_
  refine wi_iconst (n := 1) (nx := 19) (r1 := 0) (r2 := 0) (r3 := 0) rfl ?_
  refine wr_add (nx := 20) (r1 := 0) (r2 := 0) (r3 := 0) rfl (fun e7 (fe7 : e7 = (h 73 2) + 1) => ?_)
  refine wi_bipush (n := 6) (nx := 22) (r1 := 0) (r2 := 0) (r3 := 0) rfl (by decide) ?_
  refine wi_S (rest := [.ref 73]) (as := [vi e7, vi 6]) (nx := 25) (r1 := 133) (r2 := 18) (r3 := 0) rfl rfl rfl (of_decide_eq_true rfl) rfl rfl (of_decide_eq_true rfl) (of_decide_eq_true rfl) ?_
  refine wi_iload_n (i := 0) (e := e7) (nx := 1) (r1 := 0) (r2 := 0) (r3 := 0) rfl rfl ?_
  refine wi_iload_n (i := 1) (e := 6) (nx := 2) (r1 := 0) (r2 := 0) (r3 := 0) rfl rfl ?_
  refine wi_icmp (cd := .gt) (nx := 5) (r1 := 9) (r2 := 0) (r3 := 0) rfl (by omega) (by omega) (fun (q8 : 6 < e7) => ?_) (fun (q8 : ¬ (6 < e7)) => ?_)
  ·
    refine wi_iload_n (i := 1) (e := 6) (nx := 10) (r1 := 0) (r2 := 0) (r3 := 0) rfl rfl ?_
    refine wi_ireturn (nx := 11) (r1 := 0) (r2 := 0) (r3 := 0) rfl rfl ?_
    refine wk_i ?_
    refine wr_pf0 (k0 := 73) (x := 6) (bl := 0) (bh := 6) (nx := 28) (r1 := 9) (r2 := 2) (r3 := 0) rfl (by decide) rfl ⟨rfl, rfl⟩ rfl rfl g4 rfl (by omega) (fun h9 g9 w9 u9 => ?_)
    have F10 := F5.then rfl u9
    refine wi_return (nx := 29) (r1 := 0) (r2 := 0) (r3 := 0) rfl rfl ?_
    have e11 : h9 73 1 = e3 := ((u9 73 1 rfl).trans w4)
    have e12 : h9 73 2 = 6 := w9
    exact k h9 g9 F10 (show ((h 73 1) ≤ 5 ∧ (h9 73 1) = (h 73 1) + 1) ∨ ((h 73 1) = 6 ∧ (h9 73 1) = 0) by omega) (show ((h 73 2) ≤ 5 ∧ (h9 73 2) = (h 73 2) + 1) ∨ ((h 73 2) = 6 ∧ (h9 73 2) = 6) by omega)
  ·
    refine wi_iload_n (i := 0) (e := e7) (nx := 6) (r1 := 0) (r2 := 0) (r3 := 0) rfl rfl ?_
    refine wi_goto (nx := 9) (r1 := 10) (r2 := 0) (r3 := 0) rfl ?_
    refine wi_ireturn (nx := 11) (r1 := 0) (r2 := 0) (r3 := 0) rfl rfl ?_
    refine wk_i ?_
    refine wr_pf0 (k0 := 73) (x := e7) (bl := 0) (bh := 6) (nx := 28) (r1 := 9) (r2 := 2) (r3 := 0) rfl (by decide) rfl ⟨rfl, rfl⟩ rfl rfl g4 rfl (by omega) (fun h9 g9 w9 u9 => ?_)
    have F10 := F5.then rfl u9
    refine wi_return (nx := 29) (r1 := 0) (r2 := 0) (r3 := 0) rfl rfl ?_
    have e11 : h9 73 1 = e3 := ((u9 73 1 rfl).trans w4)
    have e12 : h9 73 2 = e7 := w9
    exact k h9 g9 F10 (show ((h 73 1) ≤ 5 ∧ (h9 73 1) = (h 73 1) + 1) ∨ ((h 73 1) = 6 ∧ (h9 73 1) = 0) by omega) (show ((h 73 2) ≤ 5 ∧ (h9 73 2) = (h 73 2) + 1) ∨ ((h 73 2) = 6 ∧ (h9 73 2) = 6) by omega)
-- method 19: Bank.step()I
set_option maxRecDepth 100000 in
set_option maxHeartbeats 100000000 in
theorem ct_19_0 {L : Nat} {xs : Nat → Int32} {d b c : Nat} {h : hp} {cr : Nat → Nat → Option Nat} {Q : hp_Q} (hcr : CR cr)  (g : GI h)   (pp0 : h 63 5 ≤ h 18 16) (pp1 : h 63 5 < h 18 16 ∨ (h 18 7 ≤ h 3 2 ∧ h 66 1 = h 3 2 - h 18 7) ∨ (h 3 2 < h 18 7 ∧ h 66 1 = 0)) (pp2 : 0 ≤ h 3 9) (pp3 : h 18 16 ≤ 1900000000) (xq0 : MCI h) (k : ∀ (h2 : hp) (z0 : Int) , GI h2 → FR [(20, 20, none), (22, 23, none), (24, 25, none), (26, 27, none), (28, 28, none), (29, 36, none), (75, 93, none), (94, 112, none), (113, 131, none), (132, 150, none), (151, 169, none), (170, 188, none), (189, 207, none), (18, 18, some (7, 13)), (18, 18, some (15, 16)), (73, 73, some (1, 2))] h h2 → (-1 ≤ z0 ∧ z0 ≤ 3) → (h2 63 5 ≤ h2 18 16) → (h2 63 5 < h2 18 16 ∨ (h2 18 7 ≤ h2 3 2 ∧ h2 66 1 = h2 3 2 - h2 18 7) ∨ (h2 3 2 < h2 18 7 ∧ h2 66 1 = 0)) → (h 18 16 ≤ h2 18 16 ∧ h2 18 16 ≤ h 18 16 + 4) → (MCI h2) → Q (.inl (some (vi z0))) (hp_w h2 cr) b c) : wp (md_xa (L, xs)) (d + 4) 19 (0, [(0, .ref 0)], [], hp_w h cr, b, c) Q := by
  have F0 : FR [(20, 20, none), (22, 23, none), (24, 25, none), (26, 27, none), (28, 28, none), (29, 36, none), (75, 93, none), (94, 112, none), (113, 131, none), (132, 150, none), (151, 169, none), (170, 188, none), (189, 207, none), (18, 18, some (7, 13)), (18, 18, some (15, 16)), (73, 73, some (1, 2))] h h := FR.refl
  have b1 := gi_b (lo := -2147483648) (hi := 2147483647) g 63 5 rfl
  have b2 := gi_b (lo := -2147483648) (hi := 2147483647) g 18 16 rfl
  have b3 := gi_b (lo := 0) (hi := 12) g 18 7 rfl
  have b4 := gi_b (lo := 0) (hi := 12) g 3 2 rfl
  have b5 := gi_b (lo := 0) (hi := 12) g 66 1 rfl
  have b6 := gi_b (lo := -2147483648) (hi := 2147483647) g 3 9 rfl
  refine wi_aload_n (i := 0) (x := 0) (nx := 1) (r1 := 0) (r2 := 0) (r3 := 0) rfl rfl ?_
  refine wr_gr (k0 := 0) (x := 73) (nx := 4) (r1 := 0) (r2 := 8) (r3 := 0) rfl rfl (by decide) rfl ⟨rfl, rfl⟩ rfl ?_
  refine wi_aload_n (i := 0) (x := 0) (nx := 5) (r1 := 0) (r2 := 0) (r3 := 0) rfl rfl ?_
  refine wr_gr (k0 := 0) (x := 18) (nx := 8) (r1 := 0) (r2 := 3) (r3 := 0) rfl rfl (by decide) rfl ⟨rfl, rfl⟩ rfl ?_
  refine wr_V (k0 := 73) (rest := []) (as := [.ref 73, .ref 18]) (nx := 11) (r1 := 124) (r2 := 1) (r3 := 9) rfl rfl rfl (of_decide_eq_true rfl) rfl rfl (by decide) rfl rfl (of_decide_eq_true rfl) (of_decide_eq_true rfl) ?_
  refine ct_124_73_18 hcr  g    xq0.1.1 xq0.2.1 (fun h7 g7 u7 y7_0 => ?_)
  have F8 := F0.then (by decide +kernel) u7
  refine wk_n ?_
  refine wi_aload_n (i := 0) (x := 0) (nx := 12) (r1 := 0) (r2 := 0) (r3 := 0) rfl rfl ?_
  refine wi_aload_n (i := 0) (x := 0) (nx := 13) (r1 := 0) (r2 := 0) (r3 := 0) rfl rfl ?_
  refine wr_gr (k0 := 0) (x := 18) (nx := 16) (r1 := 0) (r2 := 3) (r3 := 0) rfl rfl (by decide) rfl ⟨rfl, rfl⟩ rfl ?_
  refine wr_V (k0 := 18) (rest := [.ref 0]) (as := [.ref 18]) (nx := 19) (r1 := 75) (r2 := 0) (r3 := 4) rfl rfl rfl (of_decide_eq_true rfl) rfl rfl (by decide) rfl rfl (of_decide_eq_true rfl) (of_decide_eq_true rfl) ?_
  have e10 : h7 18 16 = h 18 16 := (u7 18 16 rfl)
  refine ct_75_18 hcr  g7   (show (h7 18 16) ≤ 1999999990 by omega) (fun h9 z11 g9 u9 (fz11 : -1 ≤ z11 ∧ z11 ≤ 3) (p9_0 : ((h9 18 16) = (h7 18 16) ∧ (h9 18 7) = (h7 18 7)) ∨ ((h7 18 16) + 1 ≤ (h9 18 16) ∧ (h9 18 16) ≤ (h7 18 16) + 4)) => ?_)
  have F12 := F8.then (by decide +kernel) u9
  have e13 : h7 18 7 = h 18 7 := (u7 18 7 rfl)
  have b14 := gi_b (lo := -2147483648) (hi := 2147483647) g9 18 16 rfl
  have b15 := gi_b (lo := 0) (hi := 12) g9 18 7 rfl
  refine wk_i ?_
  refine wr_V (k0 := 0) (rest := []) (as := [.ref 0, vi z11]) (nx := 22) (r1 := 20) (r2 := 1) (r3 := 0) rfl rfl rfl (of_decide_eq_true rfl) rfl rfl (by decide) rfl rfl (of_decide_eq_true rfl) (of_decide_eq_true rfl) ?_
  refine wi_iload_n (i := 1) (e := z11) (nx := 1) (r1 := 0) (r2 := 0) (r3 := 0) rfl rfl ?_
  refine wi_iconst (n := (-1)) (nx := 2) (r1 := 0) (r2 := 0) (r3 := 0) rfl ?_
  refine wi_icmp (cd := .eq) (nx := 5) (r1 := 12) (r2 := 0) (r3 := 0) rfl (by omega) (by omega) (fun (q16 : z11 = (-1)) => ?_) (fun (q16 : ¬ (z11 = (-1))) => ?_)
  ·
    refine wi_iload_n (i := 1) (e := z11) (nx := 13) (r1 := 0) (r2 := 0) (r3 := 0) rfl rfl ?_
    refine wi_ireturn (nx := 14) (r1 := 0) (r2 := 0) (r3 := 0) rfl rfl ?_
    refine wk_i ?_
    refine wi_ireturn (nx := 23) (r1 := 0) (r2 := 0) (r3 := 0) rfl rfl ?_
    have e17 : h9 63 5 = h 63 5 := ((u9 63 5 rfl).trans (u7 63 5 rfl))
    have e18 : h9 3 2 = h 3 2 := ((u9 3 2 rfl).trans (u7 3 2 rfl))
    have e19 : h9 66 1 = h 66 1 := ((u9 66 1 rfl).trans (u7 66 1 rfl))
    have q21 : h9 8 = h 8 := funext (fun i => ((u9 8 i (fo_no_ok (by decide) i)).trans (u7 8 i (fo_no_ok (by decide) i))))
    have q22 : h9 7 = h 7 := funext (fun i => ((u9 7 i (fo_no_ok (by decide) i)).trans (u7 7 i (fo_no_ok (by decide) i))))
    have q23 : h9 19 = h 19 := funext (fun i => ((u9 19 i (fo_no_ok (by decide) i)).trans (u7 19 i (fo_no_ok (by decide) i))))
    have q24 : h9 67 = h 67 := funext (fun i => ((u9 67 i (fo_no_ok (by decide) i)).trans (u7 67 i (fo_no_ok (by decide) i))))
    have ml20 : MCL h9 := MCL.mv xq0.1 q21 q22 q23 q24 (by omega) (by omega) (by omega) (by omega)
    have q26 : h9 69 = h 69 := funext (fun i => ((u9 69 i (fo_no_ok (by decide) i)).trans (u7 69 i (fo_no_ok (by decide) i))))
    have q27 : h9 70 = h 70 := funext (fun i => ((u9 70 i (fo_no_ok (by decide) i)).trans (u7 70 i (fo_no_ok (by decide) i))))
    have nb25 : NBc (h9 69) (h9 70) := by rw [q26, q27]; exact xq0.2.2
    have q28 : h9 8 = h7 8 := funext (fun i => (u9 8 i (fo_no_ok (by decide) i)))
    have q29 : h9 7 = h7 7 := funext (fun i => (u9 7 i (fo_no_ok (by decide) i)))
    have e30 : h7 3 2 = h 3 2 := (u7 3 2 rfl)
    have b31 := gi_b (lo := 0) (hi := 6) g 73 1 rfl
    have e32 : h9 73 1 = h 73 1 := ((u9 73 1 rfl).trans (u7 73 1 rfl))
    have e33 : h7 73 1 = h 73 1 := (u7 73 1 rfl)
    have b34 := gi_b (lo := 0) (hi := 6) g 73 2 rfl
    have e35 : h9 73 2 = h 73 2 := ((u9 73 2 rfl).trans (u7 73 2 rfl))
    have e36 : h7 73 2 = h 73 2 := (u7 73 2 rfl)
    exact k h9 z11 g9 F12 (by omega) (show (h9 63 5) ≤ (h9 18 16) by omega) (show (h9 63 5) < (h9 18 16) ∨ ((h9 18 7) ≤ (h9 3 2) ∧ (h9 66 1) = (h9 3 2) - (h9 18 7)) ∨ ((h9 3 2) < (h9 18 7) ∧ (h9 66 1) = 0) by omega) (show (h 18 16) ≤ (h9 18 16) ∧ (h9 18 16) ≤ (h 18 16) + 4 by omega) ⟨ml20, (HIv.n y7_0 q28 q29 (by omega) (by omega) (sv_seven (P := fun x => ∀ i, h9 (76 + 19 * x) i = h7 (76 + 19 * x) i) (fun i => (u9 76 i (fo_nk rfl))) (fun i => (u9 95 i (fo_nk rfl))) (fun i => (u9 114 i (fo_nk rfl))) (fun i => (u9 133 i (fo_nk rfl))) (fun i => (u9 152 i (fo_nk rfl))) (fun i => (u9 171 i (fo_nk rfl))) (fun i => (u9 190 i (fo_nk rfl)))) (by omega) (by omega)), nb25⟩
  ·
    refine wi_aload_n (i := 0) (x := 0) (nx := 6) (r1 := 0) (r2 := 0) (r3 := 0) rfl rfl ?_
    refine wr_gr (k0 := 0) (x := 73) (nx := 9) (r1 := 0) (r2 := 8) (r3 := 0) rfl rfl (by decide) rfl ⟨rfl, rfl⟩ rfl ?_
    refine wr_V (k0 := 73) (rest := []) (as := [.ref 73]) (nx := 12) (r1 := 125) (r2 := 0) (r3 := 9) rfl rfl rfl (of_decide_eq_true rfl) rfl rfl (by decide) rfl rfl (of_decide_eq_true rfl) (of_decide_eq_true rfl) ?_
    refine ct_125_73 hcr  g9    (fun h17 g17 u17 (p17_0 : ((h9 73 1) ≤ 5 ∧ (h17 73 1) = (h9 73 1) + 1) ∨ ((h9 73 1) = 6 ∧ (h17 73 1) = 0)) (p17_1 : ((h9 73 2) ≤ 5 ∧ (h17 73 2) = (h9 73 2) + 1) ∨ ((h9 73 2) = 6 ∧ (h17 73 2) = 6)) => ?_)
    have F18 := F12.then (by decide +kernel) u17
    have b19 := gi_b (lo := 0) (hi := 6) g 73 1 rfl
    have e20 : h9 73 1 = h 73 1 := ((u9 73 1 rfl).trans (u7 73 1 rfl))
    have b21 := gi_b (lo := 0) (hi := 6) g17 73 1 rfl
    have b22 := gi_b (lo := 0) (hi := 6) g 73 2 rfl
    have e23 : h9 73 2 = h 73 2 := ((u9 73 2 rfl).trans (u7 73 2 rfl))
    have b24 := gi_b (lo := 0) (hi := 6) g17 73 2 rfl
    refine wk_n ?_
    refine wi_iload_n (i := 1) (e := z11) (nx := 13) (r1 := 0) (r2 := 0) (r3 := 0) rfl rfl ?_
    refine wi_ireturn (nx := 14) (r1 := 0) (r2 := 0) (r3 := 0) rfl rfl ?_
    refine wk_i ?_
    refine wi_ireturn (nx := 23) (r1 := 0) (r2 := 0) (r3 := 0) rfl rfl ?_
    have e25 : h17 63 5 = h 63 5 := ((u17 63 5 rfl).trans ((u9 63 5 rfl).trans (u7 63 5 rfl)))
    have e26 : h17 18 16 = h9 18 16 := (u17 18 16 rfl)
    have e27 : h17 18 7 = h9 18 7 := (u17 18 7 rfl)
    have e28 : h17 3 2 = h 3 2 := ((u17 3 2 rfl).trans ((u9 3 2 rfl).trans (u7 3 2 rfl)))
    have e29 : h17 66 1 = h 66 1 := ((u17 66 1 rfl).trans ((u9 66 1 rfl).trans (u7 66 1 rfl)))
    have q31 : h17 8 = h 8 := funext (fun i => ((u17 8 i (fo_no_ok (by decide) i)).trans ((u9 8 i (fo_no_ok (by decide) i)).trans (u7 8 i (fo_no_ok (by decide) i)))))
    have q32 : h17 7 = h 7 := funext (fun i => ((u17 7 i (fo_no_ok (by decide) i)).trans ((u9 7 i (fo_no_ok (by decide) i)).trans (u7 7 i (fo_no_ok (by decide) i)))))
    have q33 : h17 19 = h 19 := funext (fun i => ((u17 19 i (fo_no_ok (by decide) i)).trans ((u9 19 i (fo_no_ok (by decide) i)).trans (u7 19 i (fo_no_ok (by decide) i)))))
    have q34 : h17 67 = h 67 := funext (fun i => ((u17 67 i (fo_no_ok (by decide) i)).trans ((u9 67 i (fo_no_ok (by decide) i)).trans (u7 67 i (fo_no_ok (by decide) i)))))
    have ml30 : MCL h17 := MCL.mv xq0.1 q31 q32 q33 q34 (by omega) (by omega) (by omega) (by omega)
    have q36 : h17 69 = h 69 := funext (fun i => ((u17 69 i (fo_no_ok (by decide) i)).trans ((u9 69 i (fo_no_ok (by decide) i)).trans (u7 69 i (fo_no_ok (by decide) i)))))
    have q37 : h17 70 = h 70 := funext (fun i => ((u17 70 i (fo_no_ok (by decide) i)).trans ((u9 70 i (fo_no_ok (by decide) i)).trans (u7 70 i (fo_no_ok (by decide) i)))))
    have nb35 : NBc (h17 69) (h17 70) := by rw [q36, q37]; exact xq0.2.2
    have q38 : h17 8 = h7 8 := funext (fun i => ((u17 8 i (fo_no_ok (by decide) i)).trans (u9 8 i (fo_no_ok (by decide) i))))
    have q39 : h17 7 = h7 7 := funext (fun i => ((u17 7 i (fo_no_ok (by decide) i)).trans (u9 7 i (fo_no_ok (by decide) i))))
    have e40 : h7 3 2 = h 3 2 := (u7 3 2 rfl)
    have e41 : h7 73 1 = h 73 1 := (u7 73 1 rfl)
    have e42 : h7 73 2 = h 73 2 := (u7 73 2 rfl)
    exact k h17 z11 g17 F18 (by omega) (show (h17 63 5) ≤ (h17 18 16) by omega) (show (h17 63 5) < (h17 18 16) ∨ ((h17 18 7) ≤ (h17 3 2) ∧ (h17 66 1) = (h17 3 2) - (h17 18 7)) ∨ ((h17 3 2) < (h17 18 7) ∧ (h17 66 1) = 0) by omega) (show (h 18 16) ≤ (h17 18 16) ∧ (h17 18 16) ≤ (h 18 16) + 4 by omega) ⟨ml30, (HIv.k y7_0 q38 q39 (by omega) (by omega) (sv_seven (P := fun x => ∀ i, h17 (76 + 19 * x) i = h7 (76 + 19 * x) i) (fun i => ((u17 76 i (fn_a (by omega) fn_0)).trans (u9 76 i (fo_nk rfl)))) (fun i => ((u17 95 i (fn_a (by omega) fn_0)).trans (u9 95 i (fo_nk rfl)))) (fun i => ((u17 114 i (fn_a (by omega) fn_0)).trans (u9 114 i (fo_nk rfl)))) (fun i => ((u17 133 i (fn_a (by omega) fn_0)).trans (u9 133 i (fo_nk rfl)))) (fun i => ((u17 152 i (fn_a (by omega) fn_0)).trans (u9 152 i (fo_nk rfl)))) (fun i => ((u17 171 i (fn_a (by omega) fn_0)).trans (u9 171 i (fo_nk rfl)))) (fun i => ((u17 190 i (fn_a (by omega) fn_0)).trans (u9 190 i (fo_nk rfl))))) (by omega) (by omega)), nb35⟩
-- method 112: Exchange.forgetWays()V
set_option maxRecDepth 100000 in
set_option maxHeartbeats 100000000 in
theorem ct_112_63 {L : Nat} {xs : Nat → Int32} {d b c : Nat} {h : hp} {cr : Nat → Nat → Option Nat} {Q : hp_Q} (hcr : CR cr)  (g : GI h)   (pp0 : h 63 4 ≤ 12) (k : ∀ (h2 : hp) , GI h2 → FR [(64, 64, none)] h h2 → (∀ u, u < 2 ^ xK h → pc u < xK h → h2 64 u = -1) → Q (.inl none) (hp_w h2 cr) b c) : wp (md_xa (L, xs)) (d + 1) 112 (0, [(0, .ref 63)], [], hp_w h cr, b, c) Q := by
  have F0 : FR [(64, 64, none)] h h := FR.refl
  have b1 := gi_b (lo := -12) (hi := 12) g 63 4 rfl
  refine wi_iconst (n := 1) (nx := 1) (r1 := 0) (r2 := 0) (r3 := 0) rfl ?_
  refine wi_aload_n (i := 0) (x := 63) (nx := 2) (r1 := 0) (r2 := 0) (r3 := 0) rfl rfl ?_
  refine wr_gi0 (k0 := 63) (x := h 63 4) (nx := 5) (r1 := 7) (r2 := 4) (r3 := 0) rfl rfl (by decide) rfl ⟨rfl, rfl⟩ rfl rfl ?_
  refine wr_ishl1W (y := h 63 4) (nx := 6) (r1 := 0) (r2 := 0) (r3 := 0) rfl (fun e2 (fe2 : -2147483648 ≤ e2 ∧ e2 ≤ 2147483647) ve2 => ?_)
  refine wi_aload_n (i := 0) (x := 63) (nx := 7) (r1 := 0) (r2 := 0) (r3 := 0) rfl rfl ?_
  refine wr_gr (k0 := 63) (x := 64) (nx := 10) (r1 := 7) (r2 := 2) (r3 := 0) rfl rfl (by decide) rfl ⟨rfl, rfl⟩ rfl ?_
  refine wr_al (k0 := 64) (e := 4096) (nx := 11) (r1 := 0) (r2 := 0) (r3 := 0) rfl (by decide) rfl rfl ?_
  refine wi_S (rest := []) (as := [vi e2, vi 4096]) (nx := 14) (r1 := 133) (r2 := 18) (r3 := 0) rfl rfl rfl (of_decide_eq_true rfl) rfl rfl (of_decide_eq_true rfl) (of_decide_eq_true rfl) ?_
  refine wi_iload_n (i := 0) (e := e2) (nx := 1) (r1 := 0) (r2 := 0) (r3 := 0) rfl rfl ?_
  refine wi_iload_n (i := 1) (e := 4096) (nx := 2) (r1 := 0) (r2 := 0) (r3 := 0) rfl rfl ?_
  refine wi_icmp (cd := .gt) (nx := 5) (r1 := 9) (r2 := 0) (r3 := 0) rfl (by omega) (by omega) (fun (q3 : 4096 < e2) => ?_) (fun (q3 : ¬ (4096 < e2)) => ?_)
  ·
    refine wi_iload_n (i := 1) (e := 4096) (nx := 10) (r1 := 0) (r2 := 0) (r3 := 0) rfl rfl ?_
    refine wi_ireturn (nx := 11) (r1 := 0) (r2 := 0) (r3 := 0) rfl rfl ?_
    refine wk_i ?_
    refine wi_istore_n (i := 1) (e := 4096) (lo2 := [(1, vi 4096), (0, .ref 63)]) (nx := 15) (r1 := 0) (r2 := 0) (r3 := 0) rfl rfl ?_
    refine wi_iconst (n := 0) (nx := 16) (r1 := 0) (r2 := 0) (r3 := 0) rfl ?_
    refine wi_istore_n (i := 2) (e := 0) (lo2 := [(2, vi 0), (1, vi 4096), (0, .ref 63)]) (nx := 17) (r1 := 0) (r2 := 0) (r3 := 0) rfl rfl ?_
    refine wp.lo (lo := [(0, .ref 63), (1, vi 4096), (2, vi 0)]) ⟨rfl, rfl, rfl, trivial⟩ rfl ?_
    refine wl_1 (fun x4 h5 => GI h5 ∧ FR [(64, 64, none)] h h5 ∧ FR [(64, 64, none)] h h5 ∧ ((0 ≤ x4 ∧ x4 ≤ 4096)) ∧ (∀ k : Nat, (k : Int) < x4 → h5 64 k = -1)) (fun x4 h5 => ((4096 : Int) + 1 - x4).toNat) (fun x4 h5 => (17, [(0, .ref 63), (1, vi 4096), (2, vi x4)], [], hp_w h5 cr, b, c)) ?_ 0 h ⟨g, F0, FR.refl, (show (0 ≤ 0 ∧ 0 ≤ 4096) by omega), (fun k e => absurd e (by omega))⟩
    intro x4 h5 ⟨g5, F6, u5, f5, X5_0⟩ I5
    refine wi_iload_n (i := 2) (e := x4) (nx := 18) (r1 := 0) (r2 := 0) (r3 := 0) rfl rfl ?_
    refine wi_iload_n (i := 1) (e := 4096) (nx := 19) (r1 := 0) (r2 := 0) (r3 := 0) rfl rfl ?_
    refine wi_icmp (cd := .ge) (nx := 22) (r1 := 35) (r2 := 0) (r3 := 0) rfl (by omega) (by omega) (fun (q7 : 4096 ≤ x4) => ?_) (fun (q7 : ¬ (4096 ≤ x4)) => ?_)
    ·
      refine wi_return (nx := 36) (r1 := 0) (r2 := 0) (r3 := 0) rfl rfl ?_
      exact k h5 g5 F6 (fun u hu hp => by
          have xh1 := ve2 (by unfold xK at hu hp; omega) (by unfold xK at hu hp; omega)
          have h12 : (2 : Nat) ^ 12 = 4096 := by decide
          have p12 := Nat.pow_le_pow_right (show 0 < 2 by decide) (show (h 63 4).toNat ≤ 12 by omega)
          unfold xK at hu
          exact X5_0 u (by omega))
    ·
      refine wi_aload_n (i := 0) (x := 63) (nx := 23) (r1 := 0) (r2 := 0) (r3 := 0) rfl rfl ?_
      refine wr_gr (k0 := 63) (x := 64) (nx := 26) (r1 := 7) (r2 := 2) (r3 := 0) rfl rfl (by decide) rfl ⟨rfl, rfl⟩ rfl ?_
      refine wi_iload_n (i := 2) (e := x4) (nx := 27) (r1 := 0) (r2 := 0) (r3 := 0) rfl rfl ?_
      refine wi_iconst (n := (-1)) (nx := 28) (r1 := 0) (r2 := 0) (r3 := 0) rfl ?_
      obtain ⟨i8, ei8⟩ : ∃ q : Nat, x4 = (q : Int) := ⟨(x4).toNat, by omega⟩
      refine wr_is (k0 := 64) (a := x4) (f := i8) (x := -1) (bl := -2147483648) (bh := 2147483647) (nx := 29) (r1 := 0) (r2 := 0) (r3 := 0) rfl (by decide) rfl (by omega) (by omega) (by decide) g5 rfl (by omega) (fun h9 g9 w9 u9 => ?_)
      have F10 := F6.then rfl (FR.rngp (lo := 64) (hi := 64) u9 (by decide))
      have F11 := u5.then rfl (FR.rngp (lo := 64) (hi := 64) u9 (by decide))
      refine wr_iinc (i := 2) (n := 1) (v := x4) (fun e12 => [(2, vi e12), (0, .ref 63), (1, vi 4096)]) (nx := 32) (r1 := 0) (r2 := 0) (r3 := 0) rfl rfl (fun _ => rfl) (fun e12 (fe12 : e12 = x4 + 1) => ?_)
      refine wi_goto (nx := 35) (r1 := 17) (r2 := 0) (r3 := 0) rfl ?_
      refine wp.lo (lo := [(0, .ref 63), (1, vi 4096), (2, vi e12)]) ⟨rfl, rfl, rfl, trivial⟩ rfl ?_
      exact I5 e12 h9 ⟨g9, F10, F11, (show (0 ≤ e12 ∧ e12 ≤ 4096) by omega), (fun k e => by by_cases e1 : k = i8; rw [e1]; exact w9; exact (u9 64 k (fn_i (by omega) fn_0)).trans (X5_0 k (by omega)))⟩ (show ((4096 : Int) + 1 - e12).toNat < ((4096 : Int) + 1 - x4).toNat by omega)
  ·
    refine wi_iload_n (i := 0) (e := e2) (nx := 6) (r1 := 0) (r2 := 0) (r3 := 0) rfl rfl ?_
    refine wi_goto (nx := 9) (r1 := 10) (r2 := 0) (r3 := 0) rfl ?_
    refine wi_ireturn (nx := 11) (r1 := 0) (r2 := 0) (r3 := 0) rfl rfl ?_
    refine wk_i ?_
    refine wi_istore_n (i := 1) (e := e2) (lo2 := [(1, vi e2), (0, .ref 63)]) (nx := 15) (r1 := 0) (r2 := 0) (r3 := 0) rfl rfl ?_
    refine wi_iconst (n := 0) (nx := 16) (r1 := 0) (r2 := 0) (r3 := 0) rfl ?_
    refine wi_istore_n (i := 2) (e := 0) (lo2 := [(2, vi 0), (1, vi e2), (0, .ref 63)]) (nx := 17) (r1 := 0) (r2 := 0) (r3 := 0) rfl rfl ?_
    refine wp.lo (lo := [(0, .ref 63), (1, vi e2), (2, vi 0)]) ⟨rfl, rfl, rfl, trivial⟩ rfl ?_
    refine wl_1 (fun x4 h5 => GI h5 ∧ FR [(64, 64, none)] h h5 ∧ FR [(64, 64, none)] h h5 ∧ ((0 ≤ x4 ∧ x4 ≤ 4096)) ∧ (∀ k : Nat, (k : Int) < x4 → h5 64 k = -1)) (fun x4 h5 => ((4096 : Int) + 1 - x4).toNat) (fun x4 h5 => (17, [(0, .ref 63), (1, vi e2), (2, vi x4)], [], hp_w h5 cr, b, c)) ?_ 0 h ⟨g, F0, FR.refl, (show (0 ≤ 0 ∧ 0 ≤ 4096) by omega), (fun k e => absurd e (by omega))⟩
    intro x4 h5 ⟨g5, F6, u5, f5, X5_0⟩ I5
    refine wi_iload_n (i := 2) (e := x4) (nx := 18) (r1 := 0) (r2 := 0) (r3 := 0) rfl rfl ?_
    refine wi_iload_n (i := 1) (e := e2) (nx := 19) (r1 := 0) (r2 := 0) (r3 := 0) rfl rfl ?_
    refine wi_icmp (cd := .ge) (nx := 22) (r1 := 35) (r2 := 0) (r3 := 0) rfl (by omega) (by omega) (fun (q7 : e2 ≤ x4) => ?_) (fun (q7 : ¬ (e2 ≤ x4)) => ?_)
    ·
      refine wi_return (nx := 36) (r1 := 0) (r2 := 0) (r3 := 0) rfl rfl ?_
      exact k h5 g5 F6 (fun u hu hp => by
          have xh1 := ve2 (by unfold xK at hu hp; omega) (by unfold xK at hu hp; omega)
          have h12 : (2 : Nat) ^ 12 = 4096 := by decide
          have p12 := Nat.pow_le_pow_right (show 0 < 2 by decide) (show (h 63 4).toNat ≤ 12 by omega)
          unfold xK at hu
          exact X5_0 u (by omega))
    ·
      refine wi_aload_n (i := 0) (x := 63) (nx := 23) (r1 := 0) (r2 := 0) (r3 := 0) rfl rfl ?_
      refine wr_gr (k0 := 63) (x := 64) (nx := 26) (r1 := 7) (r2 := 2) (r3 := 0) rfl rfl (by decide) rfl ⟨rfl, rfl⟩ rfl ?_
      refine wi_iload_n (i := 2) (e := x4) (nx := 27) (r1 := 0) (r2 := 0) (r3 := 0) rfl rfl ?_
      refine wi_iconst (n := (-1)) (nx := 28) (r1 := 0) (r2 := 0) (r3 := 0) rfl ?_
      obtain ⟨i8, ei8⟩ : ∃ q : Nat, x4 = (q : Int) := ⟨(x4).toNat, by omega⟩
      refine wr_is (k0 := 64) (a := x4) (f := i8) (x := -1) (bl := -2147483648) (bh := 2147483647) (nx := 29) (r1 := 0) (r2 := 0) (r3 := 0) rfl (by decide) rfl (by omega) (by omega) (by decide) g5 rfl (by omega) (fun h9 g9 w9 u9 => ?_)
      have F10 := F6.then rfl (FR.rngp (lo := 64) (hi := 64) u9 (by decide))
      have F11 := u5.then rfl (FR.rngp (lo := 64) (hi := 64) u9 (by decide))
      refine wr_iinc (i := 2) (n := 1) (v := x4) (fun e12 => [(2, vi e12), (0, .ref 63), (1, vi e2)]) (nx := 32) (r1 := 0) (r2 := 0) (r3 := 0) rfl rfl (fun _ => rfl) (fun e12 (fe12 : e12 = x4 + 1) => ?_)
      refine wi_goto (nx := 35) (r1 := 17) (r2 := 0) (r3 := 0) rfl ?_
      refine wp.lo (lo := [(0, .ref 63), (1, vi e2), (2, vi e12)]) ⟨rfl, rfl, rfl, trivial⟩ rfl ?_
      exact I5 e12 h9 ⟨g9, F10, F11, (show (0 ≤ e12 ∧ e12 ≤ 4096) by omega), (fun k e => by by_cases e1 : k = i8; rw [e1]; exact w9; exact (u9 64 k (fn_i (by omega) fn_0)).trans (X5_0 k (by omega)))⟩ (show ((4096 : Int) + 1 - e12).toNat < ((4096 : Int) + 1 - x4).toNat by omega)
-- method 135: Arrays.fill([II)V
set_option maxRecDepth 100000 in
set_option maxHeartbeats 100000000 in
theorem ct_135_65 {L : Nat} {xs : Nat → Int32} {d b c : Nat} {h : hp} {cr : Nat → Nat → Option Nat} {Q : hp_Q} (hcr : CR cr)  (g : GI h) (a0 : Int) (q0_ : -2147483648 ≤ a0 ∧ a0 ≤ 2147483647)  (k : ∀ (h2 : hp) , GI h2 → FR [(65, 65, none)] h h2 → (∀ k : Nat, k < 60 → h2 65 k = a0) → Q (.inl none) (hp_w h2 cr) b c) : wp (md_xa (L, xs)) d 135 (0, [(0, .ref 65), (1, vi a0)], [], hp_w h cr, b, c) Q := by
  have F0 : FR [(65, 65, none)] h h := FR.refl
  refine wi_iconst (n := 0) (nx := 1) (r1 := 0) (r2 := 0) (r3 := 0) rfl ?_
  refine wi_istore_n (i := 2) (e := 0) (lo2 := [(2, vi 0), (0, .ref 65), (1, vi a0)]) (nx := 2) (r1 := 0) (r2 := 0) (r3 := 0) rfl rfl ?_
  refine wi_aload_n (i := 0) (x := 65) (nx := 3) (r1 := 0) (r2 := 0) (r3 := 0) rfl rfl ?_
  refine wr_al (k0 := 65) (e := 60) (nx := 4) (r1 := 0) (r2 := 0) (r3 := 0) rfl (by decide) rfl rfl ?_
  refine wi_istore_n (i := 3) (e := 60) (lo2 := [(3, vi 60), (2, vi 0), (0, .ref 65), (1, vi a0)]) (nx := 5) (r1 := 0) (r2 := 0) (r3 := 0) rfl rfl ?_
  refine wp.lo (lo := [(0, .ref 65), (1, vi a0), (2, vi 0), (3, vi 60)]) ⟨rfl, rfl, rfl, rfl, trivial⟩ rfl ?_
  refine wl_1 (fun x1 h2 => GI h2 ∧ FR [(65, 65, none)] h h2 ∧ FR [(65, 65, none)] h h2 ∧ ((0 ≤ x1 ∧ x1 ≤ 60)) ∧ (∀ k : Nat, (k : Int) < x1 → h2 65 k = a0)) (fun x1 h2 => ((60 : Int) + 1 - x1).toNat) (fun x1 h2 => (5, [(0, .ref 65), (1, vi a0), (2, vi x1), (3, vi 60)], [], hp_w h2 cr, b, c)) ?_ 0 h ⟨g, F0, FR.refl, (show (0 ≤ 0 ∧ 0 ≤ 60) by omega), (fun k e => absurd e (by omega))⟩
  intro x1 h2 ⟨g2, F3, u2, f2, X2_0⟩ I2
  refine wi_iload_n (i := 2) (e := x1) (nx := 6) (r1 := 0) (r2 := 0) (r3 := 0) rfl rfl ?_
  refine wi_iload_n (i := 3) (e := 60) (nx := 7) (r1 := 0) (r2 := 0) (r3 := 0) rfl rfl ?_
  refine wi_icmp (cd := .ge) (nx := 10) (r1 := 20) (r2 := 0) (r3 := 0) rfl (by omega) (by omega) (fun (q4 : 60 ≤ x1) => ?_) (fun (q4 : ¬ (60 ≤ x1)) => ?_)
  ·
    refine wi_return (nx := 21) (r1 := 0) (r2 := 0) (r3 := 0) rfl rfl ?_
    exact k h2 g2 F3 (fun k e => X2_0 k (by omega))
  ·
    refine wi_aload_n (i := 0) (x := 65) (nx := 11) (r1 := 0) (r2 := 0) (r3 := 0) rfl rfl ?_
    refine wi_iload_n (i := 2) (e := x1) (nx := 12) (r1 := 0) (r2 := 0) (r3 := 0) rfl rfl ?_
    refine wi_iload_n (i := 1) (e := a0) (nx := 13) (r1 := 0) (r2 := 0) (r3 := 0) rfl rfl ?_
    obtain ⟨i5, ei5⟩ : ∃ q : Nat, x1 = (q : Int) := ⟨(x1).toNat, by omega⟩
    refine wr_is (k0 := 65) (a := x1) (f := i5) (x := a0) (bl := -2147483648) (bh := 2147483647) (nx := 14) (r1 := 0) (r2 := 0) (r3 := 0) rfl (by decide) rfl (by omega) (by omega) (by decide) g2 rfl (by omega) (fun h6 g6 w6 u6 => ?_)
    have F7 := F3.then rfl (FR.rngp (lo := 65) (hi := 65) u6 (by decide))
    have F8 := u2.then rfl (FR.rngp (lo := 65) (hi := 65) u6 (by decide))
    refine wr_iinc (i := 2) (n := 1) (v := x1) (fun e9 => [(2, vi e9), (0, .ref 65), (1, vi a0), (3, vi 60)]) (nx := 17) (r1 := 0) (r2 := 0) (r3 := 0) rfl rfl (fun _ => rfl) (fun e9 (fe9 : e9 = x1 + 1) => ?_)
    refine wi_goto (nx := 20) (r1 := 5) (r2 := 0) (r3 := 0) rfl ?_
    refine wp.lo (lo := [(0, .ref 65), (1, vi a0), (2, vi e9), (3, vi 60)]) ⟨rfl, rfl, rfl, rfl, trivial⟩ rfl ?_
    exact I2 e9 h6 ⟨g6, F7, F8, (show (0 ≤ e9 ∧ e9 ≤ 60) by omega), (fun k e => by by_cases e1 : k = i5; rw [e1]; exact w6; exact (u6 65 k (fn_i (by omega) fn_0)).trans (X2_0 k (by omega)))⟩ (show ((60 : Int) + 1 - e9).toNat < ((60 : Int) + 1 - x1).toNat by omega)
-- method 113: Exchange.offerJob(II)V
set_option maxRecDepth 100000 in
set_option maxHeartbeats 100000000 in
theorem ct_113_63 {L : Nat} {xs : Nat → Int32} {d b c : Nat} {h : hp} {cr : Nat → Nat → Option Nat} {Q : hp_Q} (hcr : CR cr)  (g : GI h) (a0 : Int) (a1 : Int) (q0_ : 0 ≤ a0 ∧ a0 ≤ 11) (q1_ : 0 ≤ a1 ∧ a1 ≤ 11) (pp0 : h 63 4 ≤ 12) (pp1 : h 18 7 + h 63 4 ≤ 12) (pp2 : a0 < h 63 4) (pp3 : a1 < h 63 4) (xq0 : XJd (xC h) (xB h) (xK h) (a0).toNat (a1).toNat (h 65)) (xq1 : (∀ j, j < xK h → 0 ≤ xC h j ∧ xC h j ≤ 4)) (k : ∀ (h2 : hp) , GI h2 → FR [(65, 65, none)] h h2 → (XJd (xC h) (xB h) (xK h) (a0).toNat ((a1).toNat + 1) (h2 65)) → Q (.inl none) (hp_w h2 cr) b c) : wp (md_xa (L, xs)) (d + 1) 113 (0, [(0, .ref 63), (1, vi a0), (2, vi a1)], [], hp_w h cr, b, c) Q := by
  have F0 : FR [(65, 65, none)] h h := FR.refl
  have b1 := gi_b (lo := -12) (hi := 12) g 63 4 rfl
  have b2 := gi_b (lo := 0) (hi := 12) g 18 7 rfl
  refine wi_aload_n (i := 0) (x := 63) (nx := 1) (r1 := 0) (r2 := 0) (r3 := 0) rfl rfl ?_
  refine wr_gr (k0 := 63) (x := 18) (nx := 4) (r1 := 7) (r2 := 1) (r3 := 0) rfl rfl (by decide) rfl ⟨rfl, rfl⟩ rfl ?_
  refine wi_aload_n (i := 0) (x := 63) (nx := 5) (r1 := 0) (r2 := 0) (r3 := 0) rfl rfl ?_
  refine wr_gr (k0 := 63) (x := 18) (nx := 8) (r1 := 7) (r2 := 1) (r3 := 0) rfl rfl (by decide) rfl ⟨rfl, rfl⟩ rfl ?_
  refine wr_gi0 (k0 := 18) (x := h 18 7) (nx := 11) (r1 := 4) (r2 := 7) (r3 := 0) rfl rfl (by decide) rfl ⟨rfl, rfl⟩ rfl rfl ?_
  refine wi_iload_n (i := 2) (e := a1) (nx := 12) (r1 := 0) (r2 := 0) (r3 := 0) rfl rfl ?_
  refine wr_add (nx := 13) (r1 := 0) (r2 := 0) (r3 := 0) rfl (fun e3 (fe3 : e3 = (h 18 7) + a1) => ?_)
  refine wr_V (k0 := 18) (rest := []) (as := [.ref 18, vi e3]) (nx := 16) (r1 := 79) (r2 := 1) (r3 := 4) rfl rfl rfl (of_decide_eq_true rfl) rfl rfl (by decide) rfl rfl (of_decide_eq_true rfl) (of_decide_eq_true rfl) ?_
  refine wi_iload_n (i := 1) (e := e3) (nx := 1) (r1 := 0) (r2 := 0) (r3 := 0) rfl rfl ?_
  refine wi_if (cd := .lt) (nx := 4) (r1 := 10) (r2 := 0) (r3 := 0) rfl (by omega) (fun (q4 : e3 < 0) => by exfalso; omega) (fun (q4 : ¬ (e3 < 0)) => ?_)
  refine wi_iload_n (i := 1) (e := e3) (nx := 5) (r1 := 0) (r2 := 0) (r3 := 0) rfl rfl ?_
  refine wi_bipush (n := 12) (nx := 7) (r1 := 0) (r2 := 0) (r3 := 0) rfl (by decide) ?_
  refine wi_icmp (cd := .lt) (nx := 10) (r1 := 14) (r2 := 0) (r3 := 0) rfl (by omega) (by omega) (fun (q5 : e3 < 12) => ?_) (fun (q5 : ¬ (e3 < 12)) => by exfalso; omega)
  refine wi_aload_n (i := 0) (x := 18) (nx := 15) (r1 := 0) (r2 := 0) (r3 := 0) rfl rfl ?_
  refine wr_gr (k0 := 18) (x := 19) (nx := 18) (r1 := 4) (r2 := 1) (r3 := 0) rfl rfl (by decide) rfl ⟨rfl, rfl⟩ rfl ?_
  refine wi_iload_n (i := 1) (e := e3) (nx := 19) (r1 := 0) (r2 := 0) (r3 := 0) rfl rfl ?_
  obtain ⟨i6, ei6⟩ : ∃ q : Nat, e3 = (q : Int) := ⟨(e3).toNat, by omega⟩
  have b7 := gi_b (lo := -2147483648) (hi := 2147483647) g 19 i6 rfl
  refine wr_ia (k0 := 19) (a := e3) (f := i6) (x := h 19 i6) (nx := 20) (r1 := 0) (r2 := 0) (r3 := 0) rfl (by decide) rfl (by omega) (by omega) (by decide) rfl ?_
  refine wi_ireturn (nx := 21) (r1 := 0) (r2 := 0) (r3 := 0) rfl rfl ?_
  refine wk_i ?_
  have cb := xq1 (a1).toNat (by unfold xK; omega)
  unfold xC at cb
  rw [show (h 18 7).toNat + (a1).toNat = i6 by omega] at cb
  refine wi_istore_n (i := 3) (e := h 19 i6) (lo2 := [(3, vi (h 19 i6)), (0, .ref 63), (1, vi a0), (2, vi a1)]) (nx := 17) (r1 := 0) (r2 := 0) (r3 := 0) rfl rfl ?_
  refine wi_aload_n (i := 0) (x := 63) (nx := 18) (r1 := 0) (r2 := 0) (r3 := 0) rfl rfl ?_
  refine wr_gr (k0 := 63) (x := 3) (nx := 21) (r1 := 7) (r2 := 0) (r3 := 0) rfl rfl (by decide) rfl ⟨rfl, rfl⟩ rfl ?_
  refine wi_aload_n (i := 0) (x := 63) (nx := 22) (r1 := 0) (r2 := 0) (r3 := 0) rfl rfl ?_
  refine wr_gr (k0 := 63) (x := 18) (nx := 25) (r1 := 7) (r2 := 1) (r3 := 0) rfl rfl (by decide) rfl ⟨rfl, rfl⟩ rfl ?_
  refine wr_gi0 (k0 := 18) (x := h 18 7) (nx := 28) (r1 := 4) (r2 := 7) (r3 := 0) rfl rfl (by decide) rfl ⟨rfl, rfl⟩ rfl rfl ?_
  refine wi_iload_n (i := 2) (e := a1) (nx := 29) (r1 := 0) (r2 := 0) (r3 := 0) rfl rfl ?_
  refine wr_add (nx := 30) (r1 := 0) (r2 := 0) (r3 := 0) rfl (fun e8 (fe8 : e8 = (h 18 7) + a1) => ?_)
  refine wr_V (k0 := 3) (rest := []) (as := [.ref 3, vi e8]) (nx := 33) (r1 := 60) (r2 := 1) (r3 := 2) rfl rfl rfl (of_decide_eq_true rfl) rfl rfl (by decide) rfl rfl (of_decide_eq_true rfl) (of_decide_eq_true rfl) ?_
  refine wi_iload_n (i := 1) (e := e8) (nx := 1) (r1 := 0) (r2 := 0) (r3 := 0) rfl rfl ?_
  refine wi_if (cd := .lt) (nx := 4) (r1 := 10) (r2 := 0) (r3 := 0) rfl (by omega) (fun (q9 : e8 < 0) => by exfalso; omega) (fun (q9 : ¬ (e8 < 0)) => ?_)
  refine wi_iload_n (i := 1) (e := e8) (nx := 5) (r1 := 0) (r2 := 0) (r3 := 0) rfl rfl ?_
  refine wi_bipush (n := 12) (nx := 7) (r1 := 0) (r2 := 0) (r3 := 0) rfl (by decide) ?_
  refine wi_icmp (cd := .lt) (nx := 10) (r1 := 14) (r2 := 0) (r3 := 0) rfl (by omega) (by omega) (fun (q10 : e8 < 12) => ?_) (fun (q10 : ¬ (e8 < 12)) => by exfalso; omega)
  refine wi_aload_n (i := 0) (x := 3) (nx := 15) (r1 := 0) (r2 := 0) (r3 := 0) rfl rfl ?_
  refine wr_gr (k0 := 3) (x := 8) (nx := 18) (r1 := 2) (r2 := 14) (r3 := 0) rfl rfl (by decide) rfl ⟨rfl, rfl⟩ rfl ?_
  refine wi_iload_n (i := 1) (e := e8) (nx := 19) (r1 := 0) (r2 := 0) (r3 := 0) rfl rfl ?_
  have b11 := gi_b (lo := -2147483648) (hi := 2147483647) g 8 i6 rfl
  refine wr_ia (k0 := 8) (a := e8) (f := i6) (x := h 8 i6) (nx := 20) (r1 := 0) (r2 := 0) (r3 := 0) rfl (by decide) rfl (by omega) (by omega) (by decide) rfl ?_
  refine wi_ireturn (nx := 21) (r1 := 0) (r2 := 0) (r3 := 0) rfl rfl ?_
  refine wk_i ?_
  refine wi_istore (i := 4) (e := h 8 i6) (lo2 := [(4, vi (h 8 i6)), (3, vi (h 19 i6)), (0, .ref 63), (1, vi a0), (2, vi a1)]) (nx := 35) (r1 := 0) (r2 := 0) (r3 := 0) rfl rfl ?_
  refine wi_iload_n (i := 1) (e := a0) (nx := 36) (r1 := 0) (r2 := 0) (r3 := 0) rfl rfl ?_
  refine wi_iconst (n := 5) (nx := 37) (r1 := 0) (r2 := 0) (r3 := 0) rfl ?_
  refine wr_mul (nx := 38) (r1 := 0) (r2 := 0) (r3 := 0) rfl (fun e12 (fe12 : e12 = a0 * 5) => ?_)
  refine wi_iload_n (i := 3) (e := h 19 i6) (nx := 39) (r1 := 0) (r2 := 0) (r3 := 0) rfl rfl ?_
  refine wr_add (nx := 40) (r1 := 0) (r2 := 0) (r3 := 0) rfl (fun e13 (fe13 : e13 = e12 + (h 19 i6)) => ?_)
  refine wi_istore (i := 5) (e := e13) (lo2 := [(5, vi e13), (4, vi (h 8 i6)), (3, vi (h 19 i6)), (0, .ref 63), (1, vi a0), (2, vi a1)]) (nx := 42) (r1 := 0) (r2 := 0) (r3 := 0) rfl rfl ?_
  refine wi_iload_n (i := 3) (e := h 19 i6) (nx := 43) (r1 := 0) (r2 := 0) (r3 := 0) rfl rfl ?_
  refine wi_iconst (n := (-1)) (nx := 44) (r1 := 0) (r2 := 0) (r3 := 0) rfl ?_
  refine wi_icmp (cd := .eq) (nx := 47) (r1 := 72) (r2 := 0) (r3 := 0) rfl (by omega) (by omega) (fun (q14 : (h 19 i6) = (-1)) => by exfalso; omega) (fun (q14 : ¬ ((h 19 i6) = (-1))) => ?_)
  refine wi_iload (i := 4) (e := h 8 i6) (nx := 49) (r1 := 0) (r2 := 0) (r3 := 0) rfl rfl ?_
  refine wi_aload_n (i := 0) (x := 63) (nx := 50) (r1 := 0) (r2 := 0) (r3 := 0) rfl rfl ?_
  refine wr_gr (k0 := 63) (x := 3) (nx := 53) (r1 := 7) (r2 := 0) (r3 := 0) rfl rfl (by decide) rfl ⟨rfl, rfl⟩ rfl ?_
  refine wi_aload_n (i := 0) (x := 63) (nx := 54) (r1 := 0) (r2 := 0) (r3 := 0) rfl rfl ?_
  refine wr_gr (k0 := 63) (x := 18) (nx := 57) (r1 := 7) (r2 := 1) (r3 := 0) rfl rfl (by decide) rfl ⟨rfl, rfl⟩ rfl ?_
  refine wr_gi0 (k0 := 18) (x := h 18 7) (nx := 60) (r1 := 4) (r2 := 7) (r3 := 0) rfl rfl (by decide) rfl ⟨rfl, rfl⟩ rfl rfl ?_
  refine wi_iload_n (i := 1) (e := a0) (nx := 61) (r1 := 0) (r2 := 0) (r3 := 0) rfl rfl ?_
  refine wr_add (nx := 62) (r1 := 0) (r2 := 0) (r3 := 0) rfl (fun e15 (fe15 : e15 = (h 18 7) + a0) => ?_)
  refine wr_V (k0 := 3) (rest := [vi (h 8 i6)]) (as := [.ref 3, vi e15]) (nx := 65) (r1 := 60) (r2 := 1) (r3 := 2) rfl rfl rfl (of_decide_eq_true rfl) rfl rfl (by decide) rfl rfl (of_decide_eq_true rfl) (of_decide_eq_true rfl) ?_
  refine wi_iload_n (i := 1) (e := e15) (nx := 1) (r1 := 0) (r2 := 0) (r3 := 0) rfl rfl ?_
  refine wi_if (cd := .lt) (nx := 4) (r1 := 10) (r2 := 0) (r3 := 0) rfl (by omega) (fun (q16 : e15 < 0) => by exfalso; omega) (fun (q16 : ¬ (e15 < 0)) => ?_)
  refine wi_iload_n (i := 1) (e := e15) (nx := 5) (r1 := 0) (r2 := 0) (r3 := 0) rfl rfl ?_
  refine wi_bipush (n := 12) (nx := 7) (r1 := 0) (r2 := 0) (r3 := 0) rfl (by decide) ?_
  refine wi_icmp (cd := .lt) (nx := 10) (r1 := 14) (r2 := 0) (r3 := 0) rfl (by omega) (by omega) (fun (q17 : e15 < 12) => ?_) (fun (q17 : ¬ (e15 < 12)) => by exfalso; omega)
  refine wi_aload_n (i := 0) (x := 3) (nx := 15) (r1 := 0) (r2 := 0) (r3 := 0) rfl rfl ?_
  refine wr_gr (k0 := 3) (x := 8) (nx := 18) (r1 := 2) (r2 := 14) (r3 := 0) rfl rfl (by decide) rfl ⟨rfl, rfl⟩ rfl ?_
  refine wi_iload_n (i := 1) (e := e15) (nx := 19) (r1 := 0) (r2 := 0) (r3 := 0) rfl rfl ?_
  obtain ⟨i18, ei18⟩ : ∃ q : Nat, e15 = (q : Int) := ⟨(e15).toNat, by omega⟩
  have b19 := gi_b (lo := -2147483648) (hi := 2147483647) g 8 i18 rfl
  refine wr_ia (k0 := 8) (a := e15) (f := i18) (x := h 8 i18) (nx := 20) (r1 := 0) (r2 := 0) (r3 := 0) rfl (by decide) rfl (by omega) (by omega) (by decide) rfl ?_
  refine wi_ireturn (nx := 21) (r1 := 0) (r2 := 0) (r3 := 0) rfl rfl ?_
  refine wk_i ?_
  refine wi_icmp (cd := .ne) (nx := 68) (r1 := 72) (r2 := 0) (r3 := 0) rfl (by omega) (by omega) (fun (q20 : (h 8 i6) ≠ (h 8 i18)) => ?_) (fun (q20 : ¬ ((h 8 i6) ≠ (h 8 i18))) => ?_)
  ·
    refine wi_iconst (n := 0) (nx := 73) (r1 := 0) (r2 := 0) (r3 := 0) rfl ?_
    refine wi_istore (i := 6) (e := 0) (lo2 := [(6, vi 0), (5, vi e13), (4, vi (h 8 i6)), (3, vi (h 19 i6)), (0, .ref 63), (1, vi a0), (2, vi a1)]) (nx := 75) (r1 := 0) (r2 := 0) (r3 := 0) rfl rfl ?_
    refine wi_iload (i := 6) (e := 0) (nx := 77) (r1 := 0) (r2 := 0) (r3 := 0) rfl rfl ?_
    refine wi_if (cd := .eq) (nx := 80) (r1 := 108) (r2 := 0) (r3 := 0) rfl (by omega) (fun (q21 : 0 = 0) => ?_) (fun (q21 : ¬ (0 = 0)) => by exfalso; omega)
    refine wi_return (nx := 109) (r1 := 0) (r2 := 0) (r3 := 0) rfl rfl ?_
    exact k h g F0 (XJd.skip xq0 (show ¬ xB h (a1).toNat = xB h (a0).toNat by unfold xB; rw [show (h 18 7).toNat + (a1).toNat = i6 by omega, show (h 18 7).toNat + (a0).toNat = i18 by omega]; omega))
  ·
    refine wi_iconst (n := 1) (nx := 69) (r1 := 0) (r2 := 0) (r3 := 0) rfl ?_
    refine wi_goto (nx := 72) (r1 := 73) (r2 := 0) (r3 := 0) rfl ?_
    refine wi_istore (i := 6) (e := 1) (lo2 := [(6, vi 1), (5, vi e13), (4, vi (h 8 i6)), (3, vi (h 19 i6)), (0, .ref 63), (1, vi a0), (2, vi a1)]) (nx := 75) (r1 := 0) (r2 := 0) (r3 := 0) rfl rfl ?_
    refine wi_iload (i := 6) (e := 1) (nx := 77) (r1 := 0) (r2 := 0) (r3 := 0) rfl rfl ?_
    refine wi_if (cd := .eq) (nx := 80) (r1 := 108) (r2 := 0) (r3 := 0) rfl (by omega) (fun (q21 : 1 = 0) => by exfalso; omega) (fun (q21 : ¬ (1 = 0)) => ?_)
    refine wi_iload (i := 5) (e := e13) (nx := 82) (r1 := 0) (r2 := 0) (r3 := 0) rfl rfl ?_
    refine wi_if (cd := .lt) (nx := 85) (r1 := 108) (r2 := 0) (r3 := 0) rfl (by omega) (fun (q22 : e13 < 0) => by exfalso; omega) (fun (q22 : ¬ (e13 < 0)) => ?_)
    refine wi_iload (i := 5) (e := e13) (nx := 87) (r1 := 0) (r2 := 0) (r3 := 0) rfl rfl ?_
    refine wi_aload_n (i := 0) (x := 63) (nx := 88) (r1 := 0) (r2 := 0) (r3 := 0) rfl rfl ?_
    refine wr_gr (k0 := 63) (x := 65) (nx := 91) (r1 := 7) (r2 := 3) (r3 := 0) rfl rfl (by decide) rfl ⟨rfl, rfl⟩ rfl ?_
    refine wr_al (k0 := 65) (e := 60) (nx := 92) (r1 := 0) (r2 := 0) (r3 := 0) rfl (by decide) rfl rfl ?_
    refine wi_icmp (cd := .ge) (nx := 95) (r1 := 108) (r2 := 0) (r3 := 0) rfl (by omega) (by omega) (fun (q23 : 60 ≤ e13) => by exfalso; omega) (fun (q23 : ¬ (60 ≤ e13)) => ?_)
    refine wi_aload_n (i := 0) (x := 63) (nx := 96) (r1 := 0) (r2 := 0) (r3 := 0) rfl rfl ?_
    refine wr_gr (k0 := 63) (x := 65) (nx := 99) (r1 := 7) (r2 := 3) (r3 := 0) rfl rfl (by decide) rfl ⟨rfl, rfl⟩ rfl ?_
    refine wi_iload (i := 5) (e := e13) (nx := 101) (r1 := 0) (r2 := 0) (r3 := 0) rfl rfl ?_
    refine wi_dup2 (nx := 102) (r1 := 0) (r2 := 0) (r3 := 0) rfl rfl rfl ?_
    obtain ⟨i24, ei24⟩ : ∃ q : Nat, e13 = (q : Int) := ⟨(e13).toNat, by omega⟩
    have b25 := gi_b (lo := -2147483648) (hi := 2147483647) g 65 i24 rfl
    refine wr_ia (k0 := 65) (a := e13) (f := i24) (x := h 65 i24) (nx := 103) (r1 := 0) (r2 := 0) (r3 := 0) rfl (by decide) rfl (by omega) (by omega) (by decide) rfl ?_
    refine wi_iconst (n := 1) (nx := 104) (r1 := 0) (r2 := 0) (r3 := 0) rfl ?_
    refine wi_iload_n (i := 2) (e := a1) (nx := 105) (r1 := 0) (r2 := 0) (r3 := 0) rfl rfl ?_
    refine wr_ishl1 (y := a1) (nx := 106) (r1 := 0) (r2 := 0) (r3 := 0) rfl (by omega) (fun e26 (fe26 : 1 ≤ e26 ∧ e26 ≤ 4096) ve26 => ?_)
    have ke26 : e26 ≤ 2048 := by rw [ve26]; have := Nat.pow_le_pow_right (show 0 < 2 by decide) (show (a1).toNat ≤ 11 by omega); omega
    have jx := xq0.2.1 (by omega) (h 19 i6).toNat (by omega)
    rw [show 5 * (a0).toNat + (h 19 i6).toNat = i24 by omega] at jx
    have jl := @xk_lt (xsu (xC h) (xB h) (a0).toNat (((h 19 i6).toNat : Nat) : Int)) (a1).toNat
    have jt := Nat.pow_le_pow_right (show 0 < 2 by decide) (show (a1).toNat ≤ 11 by omega)
    have h11 : (2 : Nat) ^ 11 = 2048 := by decide
    have jb : 0 ≤ h 65 i24 ∧ h 65 i24 < 4096 := by rw [jx]; omega
    refine wr_iorN (x := h 65 i24) (y := e26) 12 4096 (by decide) (by decide) (nx := 107) (r1 := 0) (r2 := 0) (r3 := 0) rfl (by omega) (by omega) (fun e27 (fe27 : 0 ≤ e27 ∧ e27 < 4096) ve27 => ?_)
    refine wr_is (k0 := 65) (a := e13) (f := i24) (x := e27) (bl := -2147483648) (bh := 2147483647) (nx := 108) (r1 := 0) (r2 := 0) (r3 := 0) rfl (by decide) rfl (by omega) (by omega) (by decide) g rfl (by omega) (fun h28 g28 w28 u28 => ?_)
    have F29 := F0.then rfl (FR.rngp (lo := 65) (hi := 65) u28 (by decide))
    refine wi_return (nx := 109) (r1 := 0) (r2 := 0) (r3 := 0) rfl rfl ?_
    exact k h28 g28 F29 (by
        refine XJd.put xq0 (show xB h (a1).toNat = xB h (a0).toNat by unfold xB; rw [show (h 18 7).toNat + (a1).toNat = i6 by omega, show (h 18 7).toNat + (a0).toNat = i18 by omega]; omega) (h 19 i6).toNat (show xC h (a1).toNat = (((h 19 i6).toNat : Nat) : Int) by unfold xC; rw [show (h 18 7).toNat + (a1).toNat = i6 by omega]; omega) (by omega) ?_ (fun i e => u28 65 i (fn_i (by omega) fn_0))
        rw [show 5 * (a0).toNat + (h 19 i6).toNat = i24 by omega, w28, ve27, show (h 65 i24).toNat = xk (xsu (xC h) (xB h) (a0).toNat (((h 19 i6).toNat : Nat) : Int)) (a1).toNat by omega, show (e26).toNat = 2 ^ (a1).toNat by omega, or_pow jl]
        try rfl)
