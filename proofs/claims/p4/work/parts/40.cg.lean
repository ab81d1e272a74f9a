-- method 132: Line.copyFrom(LPaintBank$Line;)V
set_option maxRecDepth 100000 in
set_option maxHeartbeats 100000000 in
theorem ct_132_217_18 {L : Nat} {xs : Nat → Int32} {d b c : Nat} {h : hp} {cr : Nat → Nat → Option Nat} {Q : hp_Q} (hcr : CR cr)  (g : GI h)    (k : ∀ (h2 : hp) , GI h2 → FR [(217, 235, none)] h h2 → Q (.inl none) (hp_w h2 cr) b c) : wp (md_xa (L, xs)) (d + 1) 132 (0, [(0, .ref 217), (1, .ref 18)], [], hp_w h cr, b, c) Q := by
  have F0 : FR [(217, 235, none)] h h := FR.refl
  refine wi_aload_n (i := 1) (x := 18) (nx := 1) (r1 := 0) (r2 := 0) (r3 := 0) rfl rfl ?_
  refine wr_gr (k0 := 18) (x := 19) (nx := 4) (r1 := 4) (r2 := 1) (r3 := 0) rfl rfl (by decide) rfl ⟨rfl, rfl⟩ rfl ?_
  refine wi_iconst (n := 0) (nx := 5) (r1 := 0) (r2 := 0) (r3 := 0) rfl ?_
  refine wi_aload_n (i := 0) (x := 217) (nx := 6) (r1 := 0) (r2 := 0) (r3 := 0) rfl rfl ?_
  refine wr_gr (k0 := 217) (x := 218) (nx := 9) (r1 := 4) (r2 := 1) (r3 := 0) rfl rfl (by decide) rfl ⟨rfl, rfl⟩ rfl ?_
  refine wi_iconst (n := 0) (nx := 10) (r1 := 0) (r2 := 0) (r3 := 0) rfl ?_
  refine wi_bipush (n := 12) (nx := 12) (r1 := 0) (r2 := 0) (r3 := 0) rfl (by decide) ?_
  refine wr_cpy (s0 := 19) (d0 := 218) (n0 := 12) (n1 := 12) (sp := 0) (dp := 0) (n := 12) (sl := -2147483648) (sh := 2147483647) (dl := -2147483648) (dh := 2147483647) (nx := 15) (r1 := 0) (r2 := 101) (r3 := 0) rfl rfl (of_decide_eq_true rfl) (by decide) (by decide) rfl rfl (by omega) (fun _ => rfl) (fun _ => rfl) (by omega) g (fun h1 g1 y1 u1 => ?_)
  have F2 := F0.then rfl u1
  refine wi_aload_n (i := 1) (x := 18) (nx := 16) (r1 := 0) (r2 := 0) (r3 := 0) rfl rfl ?_
  refine wr_gr (k0 := 18) (x := 20) (nx := 19) (r1 := 4) (r2 := 2) (r3 := 0) rfl rfl (by decide) rfl ⟨rfl, rfl⟩ rfl ?_
  refine wi_iconst (n := 0) (nx := 20) (r1 := 0) (r2 := 0) (r3 := 0) rfl ?_
  refine wi_aload_n (i := 0) (x := 217) (nx := 21) (r1 := 0) (r2 := 0) (r3 := 0) rfl rfl ?_
  refine wr_gr (k0 := 217) (x := 219) (nx := 24) (r1 := 4) (r2 := 2) (r3 := 0) rfl rfl (by decide) rfl ⟨rfl, rfl⟩ rfl ?_
  refine wi_iconst (n := 0) (nx := 25) (r1 := 0) (r2 := 0) (r3 := 0) rfl ?_
  refine wi_bipush (n := 12) (nx := 27) (r1 := 0) (r2 := 0) (r3 := 0) rfl (by decide) ?_
  refine wr_cpy (s0 := 20) (d0 := 219) (n0 := 12) (n1 := 12) (sp := 0) (dp := 0) (n := 12) (sl := -2147483648) (sh := 2147483647) (dl := -2147483648) (dh := 2147483647) (nx := 30) (r1 := 0) (r2 := 101) (r3 := 0) rfl rfl (of_decide_eq_true rfl) (by decide) (by decide) rfl rfl (by omega) (fun _ => rfl) (fun _ => rfl) (by omega) g1 (fun h3 g3 y3 u3 => ?_)
  have F4 := F2.then rfl u3
  refine wi_iconst (n := 0) (nx := 31) (r1 := 0) (r2 := 0) (r3 := 0) rfl ?_
  refine wi_istore_n (i := 2) (e := 0) (lo2 := [(2, vi 0), (0, .ref 217), (1, .ref 18)]) (nx := 32) (r1 := 0) (r2 := 0) (r3 := 0) rfl rfl ?_
  refine wp.lo (lo := [(0, .ref 217), (1, .ref 18), (2, vi 0)]) ⟨rfl, rfl, rfl, trivial⟩ rfl ?_
  refine wl_1 (fun x5 h6 => GI h6 ∧ FR [(217, 235, none)] h h6 ∧ FR [(228, 235, none)] h3 h6 ∧ ((0 ≤ x5 ∧ x5 ≤ 4))) (fun x5 h6 => ((4 : Int) + 1 - x5).toNat) (fun x5 h6 => (32, [(0, .ref 217), (1, .ref 18), (2, vi x5)], [], hp_w h6 cr, b, c)) ?_ 0 h3 ⟨g3, F4, FR.refl, (show (0 ≤ 0 ∧ 0 ≤ 4) by omega)⟩
  intro x5 h6 ⟨g6, F7, u6, f6⟩ I6
  refine wi_iload_n (i := 2) (e := x5) (nx := 33) (r1 := 0) (r2 := 0) (r3 := 0) rfl rfl ?_
  refine wi_iconst (n := 4) (nx := 34) (r1 := 0) (r2 := 0) (r3 := 0) rfl ?_
  refine wi_icmp (cd := .ge) (nx := 37) (r1 := 58) (r2 := 0) (r3 := 0) rfl (by omega) (by omega) (fun (q8 : 4 ≤ x5) => ?_) (fun (q8 : ¬ (4 ≤ x5)) => ?_)
  ·
    refine wi_aload_n (i := 0) (x := 217) (nx := 59) (r1 := 0) (r2 := 0) (r3 := 0) rfl rfl ?_
    refine wr_gr (k0 := 217) (x := 221) (nx := 62) (r1 := 4) (r2 := 4) (r3 := 0) rfl rfl (by decide) rfl ⟨rfl, rfl⟩ rfl ?_
    refine wi_aload_n (i := 1) (x := 18) (nx := 63) (r1 := 0) (r2 := 0) (r3 := 0) rfl rfl ?_
    refine wr_gr (k0 := 18) (x := 22) (nx := 66) (r1 := 4) (r2 := 4) (r3 := 0) rfl rfl (by decide) rfl ⟨rfl, rfl⟩ rfl ?_
    refine wr_V (k0 := 221) (rest := []) (as := [.ref 221, .ref 22]) (nx := 69) (r1 := 155) (r2 := 1) (r3 := 5) rfl rfl rfl (of_decide_eq_true rfl) rfl rfl (by decide) rfl rfl (of_decide_eq_true rfl) (of_decide_eq_true rfl) ?_
    refine ct_155_R_R hcr rw_221 rw_22 g6    (fun h9 g9 u9 => ?_)
    have F10 := F7.then rfl u9
    refine wk_n ?_
    refine wi_aload_n (i := 0) (x := 217) (nx := 70) (r1 := 0) (r2 := 0) (r3 := 0) rfl rfl ?_
    refine wr_gr (k0 := 217) (x := 223) (nx := 73) (r1 := 4) (r2 := 5) (r3 := 0) rfl rfl (by decide) rfl ⟨rfl, rfl⟩ rfl ?_
    refine wi_aload_n (i := 1) (x := 18) (nx := 74) (r1 := 0) (r2 := 0) (r3 := 0) rfl rfl ?_
    refine wr_gr (k0 := 18) (x := 24) (nx := 77) (r1 := 4) (r2 := 5) (r3 := 0) rfl rfl (by decide) rfl ⟨rfl, rfl⟩ rfl ?_
    refine wr_V (k0 := 223) (rest := []) (as := [.ref 223, .ref 24]) (nx := 80) (r1 := 155) (r2 := 1) (r3 := 5) rfl rfl rfl (of_decide_eq_true rfl) rfl rfl (by decide) rfl rfl (of_decide_eq_true rfl) (of_decide_eq_true rfl) ?_
    refine ct_155_R_R hcr rw_223 rw_24 g9    (fun h11 g11 u11 => ?_)
    have F12 := F10.then rfl u11
    refine wk_n ?_
    refine wi_aload_n (i := 0) (x := 217) (nx := 81) (r1 := 0) (r2 := 0) (r3 := 0) rfl rfl ?_
    refine wr_gr (k0 := 217) (x := 225) (nx := 84) (r1 := 4) (r2 := 6) (r3 := 0) rfl rfl (by decide) rfl ⟨rfl, rfl⟩ rfl ?_
    refine wi_aload_n (i := 1) (x := 18) (nx := 85) (r1 := 0) (r2 := 0) (r3 := 0) rfl rfl ?_
    refine wr_gr (k0 := 18) (x := 26) (nx := 88) (r1 := 4) (r2 := 6) (r3 := 0) rfl rfl (by decide) rfl ⟨rfl, rfl⟩ rfl ?_
    refine wr_V (k0 := 225) (rest := []) (as := [.ref 225, .ref 26]) (nx := 91) (r1 := 155) (r2 := 1) (r3 := 5) rfl rfl rfl (of_decide_eq_true rfl) rfl rfl (by decide) rfl rfl (of_decide_eq_true rfl) (of_decide_eq_true rfl) ?_
    refine ct_155_R_R hcr rw_225 rw_26 g11    (fun h13 g13 u13 => ?_)
    have F14 := F12.then rfl u13
    refine wk_n ?_
    refine wi_aload_n (i := 0) (x := 217) (nx := 92) (r1 := 0) (r2 := 0) (r3 := 0) rfl rfl ?_
    refine wi_aload_n (i := 1) (x := 18) (nx := 93) (r1 := 0) (r2 := 0) (r3 := 0) rfl rfl ?_
    have b15 := gi_b (lo := 0) (hi := 12) g 18 7 rfl
    refine wr_gi0 (k0 := 18) (x := h 18 7) (nx := 96) (r1 := 4) (r2 := 7) (r3 := 0) rfl rfl (by decide) rfl ⟨rfl, rfl⟩ rfl ((u13 18 7 rfl).trans ((u11 18 7 rfl).trans ((u9 18 7 rfl).trans ((u6 18 7 rfl).trans ((u3 18 7 rfl).trans (u1 18 7 rfl)))))) ?_
    refine wr_pf0 (k0 := 217) (x := h 18 7) (bl := 0) (bh := 12) (nx := 99) (r1 := 4) (r2 := 7) (r3 := 0) rfl (by decide) rfl ⟨rfl, rfl⟩ rfl rfl g13 rfl (by omega) (fun h16 g16 w16 u16 => ?_)
    have F17 := F14.then rfl u16
    refine wi_aload_n (i := 0) (x := 217) (nx := 100) (r1 := 0) (r2 := 0) (r3 := 0) rfl rfl ?_
    refine wi_aload_n (i := 1) (x := 18) (nx := 101) (r1 := 0) (r2 := 0) (r3 := 0) rfl rfl ?_
    have b18 := gi_b (lo := -2147483648) (hi := 2147483647) g 18 8 rfl
    refine wr_gi0 (k0 := 18) (x := h 18 8) (nx := 104) (r1 := 4) (r2 := 8) (r3 := 0) rfl rfl (by decide) rfl ⟨rfl, rfl⟩ rfl ((u16 18 8 rfl).trans ((u13 18 8 rfl).trans ((u11 18 8 rfl).trans ((u9 18 8 rfl).trans ((u6 18 8 rfl).trans ((u3 18 8 rfl).trans (u1 18 8 rfl))))))) ?_
    refine wr_pf0 (k0 := 217) (x := h 18 8) (bl := -2147483648) (bh := 2147483647) (nx := 107) (r1 := 4) (r2 := 8) (r3 := 0) rfl (by decide) rfl ⟨rfl, rfl⟩ rfl rfl g16 rfl (by omega) (fun h19 g19 w19 u19 => ?_)
    have F20 := F17.then rfl u19
    refine wi_aload_n (i := 0) (x := 217) (nx := 108) (r1 := 0) (r2 := 0) (r3 := 0) rfl rfl ?_
    refine wi_aload_n (i := 1) (x := 18) (nx := 109) (r1 := 0) (r2 := 0) (r3 := 0) rfl rfl ?_
    have b21 := gi_b (lo := -2147483648) (hi := 2147483647) g 18 9 rfl
    refine wr_gi0 (k0 := 18) (x := h 18 9) (nx := 112) (r1 := 4) (r2 := 9) (r3 := 0) rfl rfl (by decide) rfl ⟨rfl, rfl⟩ rfl ((u19 18 9 rfl).trans ((u16 18 9 rfl).trans ((u13 18 9 rfl).trans ((u11 18 9 rfl).trans ((u9 18 9 rfl).trans ((u6 18 9 rfl).trans ((u3 18 9 rfl).trans (u1 18 9 rfl)))))))) ?_
    refine wr_pf0 (k0 := 217) (x := h 18 9) (bl := -2147483648) (bh := 2147483647) (nx := 115) (r1 := 4) (r2 := 9) (r3 := 0) rfl (by decide) rfl ⟨rfl, rfl⟩ rfl rfl g19 rfl (by omega) (fun h22 g22 w22 u22 => ?_)
    have F23 := F20.then rfl u22
    refine wi_aload_n (i := 0) (x := 217) (nx := 116) (r1 := 0) (r2 := 0) (r3 := 0) rfl rfl ?_
    refine wi_aload_n (i := 1) (x := 18) (nx := 117) (r1 := 0) (r2 := 0) (r3 := 0) rfl rfl ?_
    have b24 := gi_b (lo := -2147483648) (hi := 2147483647) g 18 10 rfl
    refine wr_gi0 (k0 := 18) (x := h 18 10) (nx := 120) (r1 := 4) (r2 := 10) (r3 := 0) rfl rfl (by decide) rfl ⟨rfl, rfl⟩ rfl ((u22 18 10 rfl).trans ((u19 18 10 rfl).trans ((u16 18 10 rfl).trans ((u13 18 10 rfl).trans ((u11 18 10 rfl).trans ((u9 18 10 rfl).trans ((u6 18 10 rfl).trans ((u3 18 10 rfl).trans (u1 18 10 rfl))))))))) ?_
    refine wr_pf0 (k0 := 217) (x := h 18 10) (bl := -2147483648) (bh := 2147483647) (nx := 123) (r1 := 4) (r2 := 10) (r3 := 0) rfl (by decide) rfl ⟨rfl, rfl⟩ rfl rfl g22 rfl (by omega) (fun h25 g25 w25 u25 => ?_)
    have F26 := F23.then rfl u25
    refine wi_aload_n (i := 0) (x := 217) (nx := 124) (r1 := 0) (r2 := 0) (r3 := 0) rfl rfl ?_
    refine wi_aload_n (i := 1) (x := 18) (nx := 125) (r1 := 0) (r2 := 0) (r3 := 0) rfl rfl ?_
    have b27 := gi_b (lo := -2147483648) (hi := 2147483647) g 18 11 rfl
    refine wr_gi0 (k0 := 18) (x := h 18 11) (nx := 128) (r1 := 4) (r2 := 11) (r3 := 0) rfl rfl (by decide) rfl ⟨rfl, rfl⟩ rfl ((u25 18 11 rfl).trans ((u22 18 11 rfl).trans ((u19 18 11 rfl).trans ((u16 18 11 rfl).trans ((u13 18 11 rfl).trans ((u11 18 11 rfl).trans ((u9 18 11 rfl).trans ((u6 18 11 rfl).trans ((u3 18 11 rfl).trans (u1 18 11 rfl)))))))))) ?_
    refine wr_pf0 (k0 := 217) (x := h 18 11) (bl := -2147483648) (bh := 2147483647) (nx := 131) (r1 := 4) (r2 := 11) (r3 := 0) rfl (by decide) rfl ⟨rfl, rfl⟩ rfl rfl g25 rfl (by omega) (fun h28 g28 w28 u28 => ?_)
    have F29 := F26.then rfl u28
    refine wi_aload_n (i := 0) (x := 217) (nx := 132) (r1 := 0) (r2 := 0) (r3 := 0) rfl rfl ?_
    refine wi_aload_n (i := 1) (x := 18) (nx := 133) (r1 := 0) (r2 := 0) (r3 := 0) rfl rfl ?_
    have b30 := gi_b (lo := -2147483648) (hi := 2147483647) g 18 12 rfl
    refine wr_gi0 (k0 := 18) (x := h 18 12) (nx := 136) (r1 := 4) (r2 := 12) (r3 := 0) rfl rfl (by decide) rfl ⟨rfl, rfl⟩ rfl ((u28 18 12 rfl).trans ((u25 18 12 rfl).trans ((u22 18 12 rfl).trans ((u19 18 12 rfl).trans ((u16 18 12 rfl).trans ((u13 18 12 rfl).trans ((u11 18 12 rfl).trans ((u9 18 12 rfl).trans ((u6 18 12 rfl).trans ((u3 18 12 rfl).trans (u1 18 12 rfl))))))))))) ?_
    refine wr_pf0 (k0 := 217) (x := h 18 12) (bl := -2147483648) (bh := 2147483647) (nx := 139) (r1 := 4) (r2 := 12) (r3 := 0) rfl (by decide) rfl ⟨rfl, rfl⟩ rfl rfl g28 rfl (by omega) (fun h31 g31 w31 u31 => ?_)
    have F32 := F29.then rfl u31
    refine wi_aload_n (i := 0) (x := 217) (nx := 140) (r1 := 0) (r2 := 0) (r3 := 0) rfl rfl ?_
    refine wi_aload_n (i := 1) (x := 18) (nx := 141) (r1 := 0) (r2 := 0) (r3 := 0) rfl rfl ?_
    have b33 := gi_b (lo := -2147483648) (hi := 2147483647) g 18 13 rfl
    refine wr_gi0 (k0 := 18) (x := h 18 13) (nx := 144) (r1 := 4) (r2 := 13) (r3 := 0) rfl rfl (by decide) rfl ⟨rfl, rfl⟩ rfl ((u31 18 13 rfl).trans ((u28 18 13 rfl).trans ((u25 18 13 rfl).trans ((u22 18 13 rfl).trans ((u19 18 13 rfl).trans ((u16 18 13 rfl).trans ((u13 18 13 rfl).trans ((u11 18 13 rfl).trans ((u9 18 13 rfl).trans ((u6 18 13 rfl).trans ((u3 18 13 rfl).trans (u1 18 13 rfl)))))))))))) ?_
    refine wr_pf0 (k0 := 217) (x := h 18 13) (bl := -2147483648) (bh := 2147483647) (nx := 147) (r1 := 4) (r2 := 13) (r3 := 0) rfl (by decide) rfl ⟨rfl, rfl⟩ rfl rfl g31 rfl (by omega) (fun h34 g34 w34 u34 => ?_)
    have F35 := F32.then rfl u34
    refine wi_aload_n (i := 1) (x := 18) (nx := 148) (r1 := 0) (r2 := 0) (r3 := 0) rfl rfl ?_
    refine wr_gr (k0 := 18) (x := 28) (nx := 151) (r1 := 4) (r2 := 14) (r3 := 0) rfl rfl (by decide) rfl ⟨rfl, rfl⟩ rfl ?_
    refine wi_iconst (n := 0) (nx := 152) (r1 := 0) (r2 := 0) (r3 := 0) rfl ?_
    refine wi_aload_n (i := 0) (x := 217) (nx := 153) (r1 := 0) (r2 := 0) (r3 := 0) rfl rfl ?_
    refine wr_gr (k0 := 217) (x := 227) (nx := 156) (r1 := 4) (r2 := 14) (r3 := 0) rfl rfl (by decide) rfl ⟨rfl, rfl⟩ rfl ?_
    refine wi_iconst (n := 0) (nx := 157) (r1 := 0) (r2 := 0) (r3 := 0) rfl ?_
    refine wi_aload_n (i := 0) (x := 217) (nx := 158) (r1 := 0) (r2 := 0) (r3 := 0) rfl rfl ?_
    refine wr_gr (k0 := 217) (x := 227) (nx := 161) (r1 := 4) (r2 := 14) (r3 := 0) rfl rfl (by decide) rfl ⟨rfl, rfl⟩ rfl ?_
    refine wr_al (k0 := 227) (e := 144) (nx := 162) (r1 := 0) (r2 := 0) (r3 := 0) rfl (by decide) rfl rfl ?_
    refine wr_cpy (s0 := 28) (d0 := 227) (n0 := 144) (n1 := 144) (sp := 0) (dp := 0) (n := 144) (sl := -2147483648) (sh := 2147483647) (dl := -2147483648) (dh := 2147483647) (nx := 165) (r1 := 0) (r2 := 101) (r3 := 0) rfl rfl (of_decide_eq_true rfl) (by decide) (by decide) rfl rfl (by omega) (fun _ => rfl) (fun _ => rfl) (by omega) g34 (fun h36 g36 y36 u36 => ?_)
    have F37 := F35.then rfl u36
    refine wi_aload_n (i := 0) (x := 217) (nx := 166) (r1 := 0) (r2 := 0) (r3 := 0) rfl rfl ?_
    refine wi_aload_n (i := 1) (x := 18) (nx := 167) (r1 := 0) (r2 := 0) (r3 := 0) rfl rfl ?_
    have b38 := gi_b (lo := 0) (hi := 36) g 18 15 rfl
    refine wr_gi0 (k0 := 18) (x := h 18 15) (nx := 170) (r1 := 4) (r2 := 15) (r3 := 0) rfl rfl (by decide) rfl ⟨rfl, rfl⟩ rfl ((u36 18 15 rfl).trans ((u34 18 15 rfl).trans ((u31 18 15 rfl).trans ((u28 18 15 rfl).trans ((u25 18 15 rfl).trans ((u22 18 15 rfl).trans ((u19 18 15 rfl).trans ((u16 18 15 rfl).trans ((u13 18 15 rfl).trans ((u11 18 15 rfl).trans ((u9 18 15 rfl).trans ((u6 18 15 rfl).trans ((u3 18 15 rfl).trans (u1 18 15 rfl)))))))))))))) ?_
    refine wr_pf0 (k0 := 217) (x := h 18 15) (bl := 0) (bh := 36) (nx := 173) (r1 := 4) (r2 := 15) (r3 := 0) rfl (by decide) rfl ⟨rfl, rfl⟩ rfl rfl g36 rfl (by omega) (fun h39 g39 w39 u39 => ?_)
    have F40 := F37.then rfl u39
    refine wi_aload_n (i := 0) (x := 217) (nx := 174) (r1 := 0) (r2 := 0) (r3 := 0) rfl rfl ?_
    refine wi_dup (nx := 175) (r1 := 0) (r2 := 0) (r3 := 0) rfl rfl ?_
    have b41 := gi_b (lo := -2147483648) (hi := 2147483647) g 217 16 rfl
    refine wr_gi0 (k0 := 217) (x := h 217 16) (nx := 178) (r1 := 4) (r2 := 16) (r3 := 0) rfl rfl (by decide) rfl ⟨rfl, rfl⟩ rfl ((u39 217 16 rfl).trans ((u36 217 16 rfl).trans ((u34 217 16 rfl).trans ((u31 217 16 rfl).trans ((u28 217 16 rfl).trans ((u25 217 16 rfl).trans ((u22 217 16 rfl).trans ((u19 217 16 rfl).trans ((u16 217 16 rfl).trans ((u13 217 16 rfl).trans ((u11 217 16 rfl).trans ((u9 217 16 rfl).trans ((u6 217 16 rfl).trans ((u3 217 16 rfl).trans (u1 217 16 rfl))))))))))))))) ?_
    refine wi_iconst (n := 1) (nx := 179) (r1 := 0) (r2 := 0) (r3 := 0) rfl ?_
    refine wr_addW (nx := 180) (r1 := 0) (r2 := 0) (r3 := 0) rfl (fun e42 (fe42 : -2147483648 ≤ e42 ∧ e42 ≤ 2147483647) => ?_)
    refine wr_pf0 (k0 := 217) (x := e42) (bl := -2147483648) (bh := 2147483647) (nx := 183) (r1 := 4) (r2 := 16) (r3 := 0) rfl (by decide) rfl ⟨rfl, rfl⟩ rfl rfl g39 rfl (by omega) (fun h43 g43 w43 u43 => ?_)
    have F44 := F40.then rfl u43
    refine wi_return (nx := 184) (r1 := 0) (r2 := 0) (r3 := 0) rfl rfl ?_
    exact k h43 g43 F44
  ·
    refine wi_aload_n (i := 0) (x := 217) (nx := 38) (r1 := 0) (r2 := 0) (r3 := 0) rfl rfl ?_
    refine wr_gr (k0 := 217) (x := 220) (nx := 41) (r1 := 4) (r2 := 3) (r3 := 0) rfl rfl (by decide) rfl ⟨rfl, rfl⟩ rfl ?_
    refine wi_iload_n (i := 2) (e := x5) (nx := 42) (r1 := 0) (r2 := 0) (r3 := 0) rfl rfl ?_
    obtain ⟨i9, ei9⟩ : ∃ q : Nat, x5 = (q : Int) := ⟨(x5).toNat, by omega⟩
    refine wr_aa (k0 := 220) (a := x5) (f := i9) (x := 220 + 8 + 2 * i9) (nx := 43) (r1 := 0) (r2 := 0) (r3 := 0) rfl (by decide) rfl (Or.inl rfl) (by omega) (by omega) (by decide) (hcr.1 220 (by decide) i9 (by omega)) ?_
    obtain ⟨k10, kk10, mk10⟩ : ∃ q, Rw q ∧ q = 220 + 8 + 2 * i9 := ⟨_, rw_lane 220 (by decide) i9 (by omega), rfl⟩
    rw [← mk10]
    refine wi_aload_n (i := 1) (x := 18) (nx := 44) (r1 := 0) (r2 := 0) (r3 := 0) rfl rfl ?_
    refine wr_gr (k0 := 18) (x := 21) (nx := 47) (r1 := 4) (r2 := 3) (r3 := 0) rfl rfl (by decide) rfl ⟨rfl, rfl⟩ rfl ?_
    refine wi_iload_n (i := 2) (e := x5) (nx := 48) (r1 := 0) (r2 := 0) (r3 := 0) rfl rfl ?_
    refine wr_aa (k0 := 21) (a := x5) (f := i9) (x := 21 + 8 + 2 * i9) (nx := 49) (r1 := 0) (r2 := 0) (r3 := 0) rfl (by decide) rfl (Or.inl rfl) (by omega) (by omega) (by decide) (hcr.1 21 (by decide) i9 (by omega)) ?_
    obtain ⟨k11, kk11, mk11⟩ : ∃ q, Rw q ∧ q = 21 + 8 + 2 * i9 := ⟨_, rw_lane 21 (by decide) i9 (by omega), rfl⟩
    rw [← mk11]
    refine wr_V (k0 := k10) (rest := []) (as := [.ref k10, .ref k11]) (nx := 52) (r1 := 155) (r2 := 1) (r3 := 5) rfl rfl rfl (of_decide_eq_true rfl) rfl rfl kk10.k kk10.1 rfl (of_decide_eq_true rfl) (of_decide_eq_true rfl) ?_
    refine ct_155_R_R hcr kk10 kk11 g6    (fun h12 g12 u12 => ?_)
    have v12 := FR.rngp (lo := 228) (hi := 235) u12 (by omega)
    have F13 := F7.then rfl (FR.rngp (lo := 228) (hi := 235) u12 (by omega))
    have F14 := u6.then rfl (FR.rngp (lo := 228) (hi := 235) u12 (by omega))
    refine wk_n ?_
    refine wr_iinc (i := 2) (n := 1) (v := x5) (fun e15 => [(2, vi e15), (0, .ref 217), (1, .ref 18)]) (nx := 55) (r1 := 0) (r2 := 0) (r3 := 0) rfl rfl (fun _ => rfl) (fun e15 (fe15 : e15 = x5 + 1) => ?_)
    refine wi_goto (nx := 58) (r1 := 32) (r2 := 0) (r3 := 0) rfl ?_
    refine wp.lo (lo := [(0, .ref 217), (1, .ref 18), (2, vi e15)]) ⟨rfl, rfl, rfl, trivial⟩ rfl ?_
    exact I6 e15 h12 ⟨g12, F13, F14, (show (0 ≤ e15 ∧ e15 ≤ 4) by omega)⟩ (show ((4 : Int) + 1 - e15).toNat < ((4 : Int) + 1 - x5).toNat by omega)
-- method 60: Bank.save()I
set_option maxRecDepth 100000 in
set_option maxHeartbeats 100000000 in
theorem ct_60_0 {L : Nat} {xs : Nat → Int32} {d b c : Nat} {h : hp} {cr : Nat → Nat → Option Nat} {Q : hp_Q} (hcr : CR cr)  (g : GI h)    (k : ∀ (h2 : hp) (z0 : Int) , GI h2 → FR [(211, 211, none), (212, 212, none), (213, 213, none), (214, 214, none), (215, 215, none), (216, 216, none), (217, 235, none), (0, 0, some (12, 12)), (210, 210, some (0, 0)), (210, 210, some (1, 1)), (210, 210, some (2, 2)), (210, 210, some (3, 3)), (210, 210, some (4, 4)), (210, 210, some (5, 5)), (210, 210, some (6, 6)), (210, 210, some (7, 7)), (210, 210, some (8, 8)), (210, 210, some (9, 9))] h h2 → (-2147483648 ≤ z0 ∧ z0 ≤ 2147483647) → (h2 0 12 = 1) → (CPs h h2 210 3) → Q (.inl (some (vi z0))) (hp_w h2 cr) b c) : wp (md_xa (L, xs)) (d + 2) 60 (0, [(0, .ref 0)], [], hp_w h cr, b, c) Q := by
  have F0 : FR [(211, 211, none), (212, 212, none), (213, 213, none), (214, 214, none), (215, 215, none), (216, 216, none), (217, 235, none), (0, 0, some (12, 12)), (210, 210, some (0, 0)), (210, 210, some (1, 1)), (210, 210, some (2, 2)), (210, 210, some (3, 3)), (210, 210, some (4, 4)), (210, 210, some (5, 5)), (210, 210, some (6, 6)), (210, 210, some (7, 7)), (210, 210, some (8, 8)), (210, 210, some (9, 9))] h h := FR.refl
  refine wi_aload_n (i := 0) (x := 0) (nx := 1) (r1 := 0) (r2 := 0) (r3 := 0) rfl rfl ?_
  refine wr_gr (k0 := 0) (x := 210) (nx := 4) (r1 := 0) (r2 := 10) (r3 := 0) rfl rfl (by decide) rfl ⟨rfl, rfl⟩ rfl ?_
  refine wi_aload_n (i := 0) (x := 0) (nx := 5) (r1 := 0) (r2 := 0) (r3 := 0) rfl rfl ?_
  refine wr_gr (k0 := 0) (x := 3) (nx := 8) (r1 := 0) (r2 := 1) (r3 := 0) rfl rfl (by decide) rfl ⟨rfl, rfl⟩ rfl ?_
  refine wr_V (k0 := 210) (rest := []) (as := [.ref 210, .ref 3]) (nx := 11) (r1 := 114) (r2 := 1) (r3 := 2) rfl rfl rfl (of_decide_eq_true rfl) rfl rfl (by decide) rfl rfl (of_decide_eq_true rfl) (of_decide_eq_true rfl) ?_
  refine ct_114_210_3 hcr  g    (fun h1 g1 u1 y1_0 => ?_)
  have F2 := F0.then (by decide +kernel) u1
  refine wk_n ?_
  refine wi_aload_n (i := 0) (x := 0) (nx := 12) (r1 := 0) (r2 := 0) (r3 := 0) rfl rfl ?_
  refine wr_gr (k0 := 0) (x := 217) (nx := 15) (r1 := 0) (r2 := 11) (r3 := 0) rfl rfl (by decide) rfl ⟨rfl, rfl⟩ rfl ?_
  refine wi_aload_n (i := 0) (x := 0) (nx := 16) (r1 := 0) (r2 := 0) (r3 := 0) rfl rfl ?_
  refine wr_gr (k0 := 0) (x := 18) (nx := 19) (r1 := 0) (r2 := 3) (r3 := 0) rfl rfl (by decide) rfl ⟨rfl, rfl⟩ rfl ?_
  refine wr_V (k0 := 217) (rest := []) (as := [.ref 217, .ref 18]) (nx := 22) (r1 := 132) (r2 := 1) (r3 := 4) rfl rfl rfl (of_decide_eq_true rfl) rfl rfl (by decide) rfl rfl (of_decide_eq_true rfl) (of_decide_eq_true rfl) ?_
  refine ct_132_217_18 hcr  g1    (fun h3 g3 u3 => ?_)
  have F4 := F2.then (by decide +kernel) u3
  refine wk_n ?_
  refine wi_aload_n (i := 0) (x := 0) (nx := 23) (r1 := 0) (r2 := 0) (r3 := 0) rfl rfl ?_
  refine wi_iconst (n := 1) (nx := 24) (r1 := 0) (r2 := 0) (r3 := 0) rfl ?_
  refine wr_pf2 (k0 := 0) (x := 1) (bl := 0) (bh := 1) (nx := 27) (r1 := 0) (r2 := 12) (r3 := 2) rfl (by decide) rfl ⟨rfl, rfl⟩ rfl (by omega) rfl g3 rfl (by omega) (fun h5 g5 w5 u5 => ?_)
  have F6 := F4.then rfl u5
  refine wi_aload_n (i := 0) (x := 0) (nx := 28) (r1 := 0) (r2 := 0) (r3 := 0) rfl rfl ?_
  refine wr_gr (k0 := 0) (x := 18) (nx := 31) (r1 := 0) (r2 := 3) (r3 := 0) rfl rfl (by decide) rfl ⟨rfl, rfl⟩ rfl ?_
  have b7 := gi_b (lo := -2147483648) (hi := 2147483647) g 18 10 rfl
  refine wr_gi0 (k0 := 18) (x := h 18 10) (nx := 34) (r1 := 4) (r2 := 10) (r3 := 0) rfl rfl (by decide) rfl ⟨rfl, rfl⟩ rfl ((u5 18 10 rfl).trans ((u3 18 10 rfl).trans (u1 18 10 rfl))) ?_
  refine wi_ireturn (nx := 35) (r1 := 0) (r2 := 0) (r3 := 0) rfl rfl ?_
  have e8 : h5 0 12 = 1 := w5
  exact k h5 (h 18 10) g5 F6 (by omega) (show (h5 0 12) = 1 by omega) ⟨(fun i e => (((u5 210 i (fn_a (by omega) fn_0)).trans (u3 210 i (fn_a (by omega) fn_0))).trans (y1_0.1 i e))), (fun i e => (((u5 212 i (fn_a (by omega) fn_0)).trans (u3 212 i (fn_a (by omega) fn_0))).trans (y1_0.2.1 i e))), (fun i e => (((u5 213 i (fn_a (by omega) fn_0)).trans (u3 213 i (fn_a (by omega) fn_0))).trans (y1_0.2.2.1 i e))), (fun i e => (((u5 215 i (fn_a (by omega) fn_0)).trans (u3 215 i (fn_a (by omega) fn_0))).trans (y1_0.2.2.2 i e)))⟩
-- method 65: Bank.setting(I)I
set_option maxRecDepth 100000 in
set_option maxHeartbeats 100000000 in
theorem ct_65_0 {L : Nat} {xs : Nat → Int32} {d b c : Nat} {h : hp} {cr : Nat → Nat → Option Nat} {Q : hp_Q} (hcr : CR cr) (hr : 1 ≤ b ∧ 6 ≤ c)  (g : GI h) (a0 : Int) (q0_ : -2147483648 ≤ a0 ∧ a0 ≤ 2147483647)  (k : ∀ (z0 : Int), (-2147483648 ≤ z0 ∧ z0 ≤ 2147483647) → (0 ≤ a0 ∧ a0 ≤ 9) → (z0 = h 3 a0.toNat) → Q (.inl (some (vi z0))) (hp_w h cr) b c) (kx1 : (a0 < 0 ∨ 9 < a0) → Q (.inr 1) (hp_w h cr) (b - 1) (c - 6)) : wp (md_xa (L, xs)) d 65 (0, [(0, .ref 0), (1, vi a0)], [], hp_w h cr, b, c) Q := by
  have F0 : FR [] h h := FR.refl
  refine wi_iload_n (i := 1) (e := a0) (nx := 1) (r1 := 0) (r2 := 0) (r3 := 0) rfl rfl ?_
  rcases (show a0 = 0 ∨ a0 = 1 ∨ a0 = 2 ∨ a0 = 3 ∨ a0 = 4 ∨ a0 = 5 ∨ a0 = 6 ∨ a0 = 7 ∨ a0 = 8 ∨ a0 = 9 ∨ (a0 ≠ 0 ∧ a0 ≠ 1 ∧ a0 ≠ 2 ∧ a0 ≠ 3 ∧ a0 ≠ 4 ∧ a0 ≠ 5 ∧ a0 ≠ 6 ∧ a0 ≠ 7 ∧ a0 ≠ 8 ∧ a0 ≠ 9) by omega) with q1 | q1 | q1 | q1 | q1 | q1 | q1 | q1 | q1 | q1 | q1
  ·
    refine wr_tsw 56 (nx := 55) (r1 := 0) (r2 := 0) (r3 := 0) rfl (by rw [q1]; rfl) ?_
    refine wi_aload_n (i := 0) (x := 0) (nx := 57) (r1 := 0) (r2 := 0) (r3 := 0) rfl rfl ?_
    refine wr_gr (k0 := 0) (x := 3) (nx := 60) (r1 := 0) (r2 := 1) (r3 := 0) rfl rfl (by decide) rfl ⟨rfl, rfl⟩ rfl ?_
    have b2 := gi_b (lo := 0) (hi := 5) g 3 0 rfl
    refine wr_gi0 (k0 := 3) (x := h 3 0) (nx := 63) (r1 := 2) (r2 := 0) (r3 := 0) rfl rfl (by decide) rfl ⟨rfl, rfl⟩ rfl rfl ?_
    refine wi_ireturn (nx := 64) (r1 := 0) (r2 := 0) (r3 := 0) rfl rfl ?_
    exact k (h 3 0) (by omega) (show 0 ≤ a0 ∧ a0 ≤ 9 by omega) (show h 3 0 = h 3 a0.toNat by rw [show a0.toNat = 0 by omega])
  ·
    refine wr_tsw 64 (nx := 55) (r1 := 0) (r2 := 0) (r3 := 0) rfl (by rw [q1]; rfl) ?_
    refine wi_aload_n (i := 0) (x := 0) (nx := 65) (r1 := 0) (r2 := 0) (r3 := 0) rfl rfl ?_
    refine wr_gr (k0 := 0) (x := 3) (nx := 68) (r1 := 0) (r2 := 1) (r3 := 0) rfl rfl (by decide) rfl ⟨rfl, rfl⟩ rfl ?_
    have b2 := gi_b (lo := 0) (hi := 4) g 3 1 rfl
    refine wr_gi0 (k0 := 3) (x := h 3 1) (nx := 71) (r1 := 2) (r2 := 1) (r3 := 0) rfl rfl (by decide) rfl ⟨rfl, rfl⟩ rfl rfl ?_
    refine wi_ireturn (nx := 72) (r1 := 0) (r2 := 0) (r3 := 0) rfl rfl ?_
    exact k (h 3 1) (by omega) (show 0 ≤ a0 ∧ a0 ≤ 9 by omega) (show h 3 1 = h 3 a0.toNat by rw [show a0.toNat = 1 by omega])
  ·
    refine wr_tsw 72 (nx := 55) (r1 := 0) (r2 := 0) (r3 := 0) rfl (by rw [q1]; rfl) ?_
    refine wi_aload_n (i := 0) (x := 0) (nx := 73) (r1 := 0) (r2 := 0) (r3 := 0) rfl rfl ?_
    refine wr_gr (k0 := 0) (x := 3) (nx := 76) (r1 := 0) (r2 := 1) (r3 := 0) rfl rfl (by decide) rfl ⟨rfl, rfl⟩ rfl ?_
    have b2 := gi_b (lo := 0) (hi := 12) g 3 2 rfl
    refine wr_gi0 (k0 := 3) (x := h 3 2) (nx := 79) (r1 := 2) (r2 := 2) (r3 := 0) rfl rfl (by decide) rfl ⟨rfl, rfl⟩ rfl rfl ?_
    refine wi_ireturn (nx := 80) (r1 := 0) (r2 := 0) (r3 := 0) rfl rfl ?_
    exact k (h 3 2) (by omega) (show 0 ≤ a0 ∧ a0 ≤ 9 by omega) (show h 3 2 = h 3 a0.toNat by rw [show a0.toNat = 2 by omega])
  ·
    refine wr_tsw 80 (nx := 55) (r1 := 0) (r2 := 0) (r3 := 0) rfl (by rw [q1]; rfl) ?_
    refine wi_aload_n (i := 0) (x := 0) (nx := 81) (r1 := 0) (r2 := 0) (r3 := 0) rfl rfl ?_
    refine wr_gr (k0 := 0) (x := 3) (nx := 84) (r1 := 0) (r2 := 1) (r3 := 0) rfl rfl (by decide) rfl ⟨rfl, rfl⟩ rfl ?_
    have b2 := gi_b (lo := -2147483648) (hi := 2147483647) g 3 3 rfl
    refine wr_gi0 (k0 := 3) (x := h 3 3) (nx := 87) (r1 := 2) (r2 := 3) (r3 := 0) rfl rfl (by decide) rfl ⟨rfl, rfl⟩ rfl rfl ?_
    refine wi_ireturn (nx := 88) (r1 := 0) (r2 := 0) (r3 := 0) rfl rfl ?_
    exact k (h 3 3) (by omega) (show 0 ≤ a0 ∧ a0 ≤ 9 by omega) (show h 3 3 = h 3 a0.toNat by rw [show a0.toNat = 3 by omega])
  ·
    refine wr_tsw 88 (nx := 55) (r1 := 0) (r2 := 0) (r3 := 0) rfl (by rw [q1]; rfl) ?_
    refine wi_aload_n (i := 0) (x := 0) (nx := 89) (r1 := 0) (r2 := 0) (r3 := 0) rfl rfl ?_
    refine wr_gr (k0 := 0) (x := 3) (nx := 92) (r1 := 0) (r2 := 1) (r3 := 0) rfl rfl (by decide) rfl ⟨rfl, rfl⟩ rfl ?_
    have b2 := gi_b (lo := -2147483648) (hi := 2147483647) g 3 4 rfl
    refine wr_gi0 (k0 := 3) (x := h 3 4) (nx := 95) (r1 := 2) (r2 := 4) (r3 := 0) rfl rfl (by decide) rfl ⟨rfl, rfl⟩ rfl rfl ?_
    refine wi_ireturn (nx := 96) (r1 := 0) (r2 := 0) (r3 := 0) rfl rfl ?_
    exact k (h 3 4) (by omega) (show 0 ≤ a0 ∧ a0 ≤ 9 by omega) (show h 3 4 = h 3 a0.toNat by rw [show a0.toNat = 4 by omega])
  ·
    refine wr_tsw 96 (nx := 55) (r1 := 0) (r2 := 0) (r3 := 0) rfl (by rw [q1]; rfl) ?_
    refine wi_aload_n (i := 0) (x := 0) (nx := 97) (r1 := 0) (r2 := 0) (r3 := 0) rfl rfl ?_
    refine wr_gr (k0 := 0) (x := 3) (nx := 100) (r1 := 0) (r2 := 1) (r3 := 0) rfl rfl (by decide) rfl ⟨rfl, rfl⟩ rfl ?_
    have b2 := gi_b (lo := -2147483648) (hi := 2147483647) g 3 5 rfl
    refine wr_gi0 (k0 := 3) (x := h 3 5) (nx := 103) (r1 := 2) (r2 := 5) (r3 := 0) rfl rfl (by decide) rfl ⟨rfl, rfl⟩ rfl rfl ?_
    refine wi_ireturn (nx := 104) (r1 := 0) (r2 := 0) (r3 := 0) rfl rfl ?_
    exact k (h 3 5) (by omega) (show 0 ≤ a0 ∧ a0 ≤ 9 by omega) (show h 3 5 = h 3 a0.toNat by rw [show a0.toNat = 5 by omega])
  ·
    refine wr_tsw 104 (nx := 55) (r1 := 0) (r2 := 0) (r3 := 0) rfl (by rw [q1]; rfl) ?_
    refine wi_aload_n (i := 0) (x := 0) (nx := 105) (r1 := 0) (r2 := 0) (r3 := 0) rfl rfl ?_
    refine wr_gr (k0 := 0) (x := 3) (nx := 108) (r1 := 0) (r2 := 1) (r3 := 0) rfl rfl (by decide) rfl ⟨rfl, rfl⟩ rfl ?_
    have b2 := gi_b (lo := -2147483648) (hi := 2147483647) g 3 6 rfl
    refine wr_gi0 (k0 := 3) (x := h 3 6) (nx := 111) (r1 := 2) (r2 := 6) (r3 := 0) rfl rfl (by decide) rfl ⟨rfl, rfl⟩ rfl rfl ?_
    refine wi_ireturn (nx := 112) (r1 := 0) (r2 := 0) (r3 := 0) rfl rfl ?_
    exact k (h 3 6) (by omega) (show 0 ≤ a0 ∧ a0 ≤ 9 by omega) (show h 3 6 = h 3 a0.toNat by rw [show a0.toNat = 6 by omega])
  ·
    refine wr_tsw 112 (nx := 55) (r1 := 0) (r2 := 0) (r3 := 0) rfl (by rw [q1]; rfl) ?_
    refine wi_aload_n (i := 0) (x := 0) (nx := 113) (r1 := 0) (r2 := 0) (r3 := 0) rfl rfl ?_
    refine wr_gr (k0 := 0) (x := 3) (nx := 116) (r1 := 0) (r2 := 1) (r3 := 0) rfl rfl (by decide) rfl ⟨rfl, rfl⟩ rfl ?_
    have b2 := gi_b (lo := -2147483648) (hi := 2147483647) g 3 7 rfl
    refine wr_gi0 (k0 := 3) (x := h 3 7) (nx := 119) (r1 := 2) (r2 := 7) (r3 := 0) rfl rfl (by decide) rfl ⟨rfl, rfl⟩ rfl rfl ?_
    refine wi_ireturn (nx := 120) (r1 := 0) (r2 := 0) (r3 := 0) rfl rfl ?_
    exact k (h 3 7) (by omega) (show 0 ≤ a0 ∧ a0 ≤ 9 by omega) (show h 3 7 = h 3 a0.toNat by rw [show a0.toNat = 7 by omega])
  ·
    refine wr_tsw 120 (nx := 55) (r1 := 0) (r2 := 0) (r3 := 0) rfl (by rw [q1]; rfl) ?_
    refine wi_aload_n (i := 0) (x := 0) (nx := 121) (r1 := 0) (r2 := 0) (r3 := 0) rfl rfl ?_
    refine wr_gr (k0 := 0) (x := 3) (nx := 124) (r1 := 0) (r2 := 1) (r3 := 0) rfl rfl (by decide) rfl ⟨rfl, rfl⟩ rfl ?_
    have b2 := gi_b (lo := -2147483648) (hi := 2147483647) g 3 8 rfl
    refine wr_gi0 (k0 := 3) (x := h 3 8) (nx := 127) (r1 := 2) (r2 := 8) (r3 := 0) rfl rfl (by decide) rfl ⟨rfl, rfl⟩ rfl rfl ?_
    refine wi_ireturn (nx := 128) (r1 := 0) (r2 := 0) (r3 := 0) rfl rfl ?_
    exact k (h 3 8) (by omega) (show 0 ≤ a0 ∧ a0 ≤ 9 by omega) (show h 3 8 = h 3 a0.toNat by rw [show a0.toNat = 8 by omega])
  ·
    refine wr_tsw 128 (nx := 55) (r1 := 0) (r2 := 0) (r3 := 0) rfl (by rw [q1]; rfl) ?_
    refine wi_aload_n (i := 0) (x := 0) (nx := 129) (r1 := 0) (r2 := 0) (r3 := 0) rfl rfl ?_
    refine wr_gr (k0 := 0) (x := 3) (nx := 132) (r1 := 0) (r2 := 1) (r3 := 0) rfl rfl (by decide) rfl ⟨rfl, rfl⟩ rfl ?_
    have b2 := gi_b (lo := -2147483648) (hi := 2147483647) g 3 9 rfl
    refine wr_gi0 (k0 := 3) (x := h 3 9) (nx := 135) (r1 := 2) (r2 := 9) (r3 := 0) rfl rfl (by decide) rfl ⟨rfl, rfl⟩ rfl rfl ?_
    refine wi_ireturn (nx := 136) (r1 := 0) (r2 := 0) (r3 := 0) rfl rfl ?_
    exact k (h 3 9) (by omega) (show 0 ≤ a0 ∧ a0 ≤ 9 by omega) (show h 3 9 = h 3 a0.toNat by rw [show a0.toNat = 9 by omega])
  ·
    refine wr_tswD 136 (nx := 55) (r1 := 0) (r2 := 0) (r3 := 0) rfl (by omega) (by omega) rfl ?_
    refine wr_throw (Ex := 1) (nx := 139) (r1 := 1) (r2 := 0) (r3 := 1) rfl (by decide) rfl hr (by decide) ?_
    exact kx1 (show a0 < 0 ∨ 9 < a0 by omega)
-- method 46: Bank.step()I
set_option maxRecDepth 100000 in
set_option maxHeartbeats 100000000 in
theorem ct_46_0 {L : Nat} {xs : Nat → Int32} {d b c : Nat} {h : hp} {cr : Nat → Nat → Option Nat} {Q : hp_Q} (hcr : CR cr)  (g : GI h)    (k : ∀ (h2 : hp) (z0 : Int) , GI h2 → FR [(18, 36, none), (75, 207, none), (73, 73, some (1, 1)), (73, 73, some (2, 2))] h h2 → (-2147483648 ≤ z0 ∧ z0 ≤ 2147483647) → Q (.inl (some (vi z0))) (hp_w h2 cr) b c) : wp (md_xa (L, xs)) (d + 4) 46 (0, [(0, .ref 0)], [], hp_w h cr, b, c) Q := by
  have F0 : FR [(18, 36, none), (75, 207, none), (73, 73, some (1, 1)), (73, 73, some (2, 2))] h h := FR.refl
  refine wi_aload_n (i := 0) (x := 0) (nx := 1) (r1 := 0) (r2 := 0) (r3 := 0) rfl rfl ?_
  refine wr_gr (k0 := 0) (x := 73) (nx := 4) (r1 := 0) (r2 := 8) (r3 := 0) rfl rfl (by decide) rfl ⟨rfl, rfl⟩ rfl ?_
  refine wi_aload_n (i := 0) (x := 0) (nx := 5) (r1 := 0) (r2 := 0) (r3 := 0) rfl rfl ?_
  refine wr_gr (k0 := 0) (x := 18) (nx := 8) (r1 := 0) (r2 := 3) (r3 := 0) rfl rfl (by decide) rfl ⟨rfl, rfl⟩ rfl ?_
  refine wr_V (k0 := 73) (rest := []) (as := [.ref 73, .ref 18]) (nx := 11) (r1 := 192) (r2 := 1) (r3 := 9) rfl rfl rfl (of_decide_eq_true rfl) rfl rfl (by decide) rfl rfl (of_decide_eq_true rfl) (of_decide_eq_true rfl) ?_
  refine ct_192_73_18 hcr  g    (fun h1 g1 u1 => ?_)
  have F2 := F0.then (by decide +kernel) u1
  refine wk_n ?_
  refine wi_aload_n (i := 0) (x := 0) (nx := 12) (r1 := 0) (r2 := 0) (r3 := 0) rfl rfl ?_
  refine wi_aload_n (i := 0) (x := 0) (nx := 13) (r1 := 0) (r2 := 0) (r3 := 0) rfl rfl ?_
  refine wr_gr (k0 := 0) (x := 18) (nx := 16) (r1 := 0) (r2 := 3) (r3 := 0) rfl rfl (by decide) rfl ⟨rfl, rfl⟩ rfl ?_
  refine wr_V (k0 := 18) (rest := [.ref 0]) (as := [.ref 18]) (nx := 19) (r1 := 134) (r2 := 0) (r3 := 4) rfl rfl rfl (of_decide_eq_true rfl) rfl rfl (by decide) rfl rfl (of_decide_eq_true rfl) (of_decide_eq_true rfl) ?_
  refine ct_134_18 hcr  g1    (fun h3 z4 g3 u3 (fz4 : -1 ≤ z4 ∧ z4 ≤ 3) => ?_)
  have F5 := F2.then (by decide +kernel) u3
  refine wk_i ?_
  refine wr_V (k0 := 0) (rest := []) (as := [.ref 0, vi z4]) (nx := 22) (r1 := 45) (r2 := 1) (r3 := 0) rfl rfl rfl (of_decide_eq_true rfl) rfl rfl (by decide) rfl rfl (of_decide_eq_true rfl) (of_decide_eq_true rfl) ?_
  refine ct_45_0 hcr  g3 z4 (by omega)  (fun h6 z7 g6 u6 (fz7 : -2147483648 ≤ z7 ∧ z7 ≤ 2147483647) => ?_)
  have F8 := F5.then (by decide +kernel) u6
  refine wk_i ?_
  refine wi_ireturn (nx := 23) (r1 := 0) (r2 := 0) (r3 := 0) rfl rfl ?_
  exact k h6 z7 g6 F8 (by omega)
-- method 85: Bank.stepsToOut(I)I
set_option maxRecDepth 100000 in
set_option maxHeartbeats 100000000 in
theorem ct_85_0 {L : Nat} {xs : Nat → Int32} {d b c : Nat} {h : hp} {cr : Nat → Nat → Option Nat} {Q : hp_Q} (hcr : CR cr) (hr : 1 ≤ b ∧ 6 ≤ c)  (g : GI h) (a0 : Int) (q0_ : -2147483648 ≤ a0 ∧ a0 ≤ 2147483647)  (k : ∀ (h2 : hp) (z0 : Int) , GI h2 → FR [(37, 55, none)] h h2 → (-2147483648 ≤ z0 ∧ z0 ≤ 2147483647) → Q (.inl (some (vi z0))) (hp_w h2 cr) b c) (kx2 : ∀ (h2 : hp), GI h2 → FR [(37, 55, none)] h h2 → Q (.inr 2) (hp_w h2 cr) (b - 1) (c - 6)) : wp (md_xa (L, xs)) (d + 5) 85 (0, [(0, .ref 0), (1, vi a0)], [], hp_w h cr, b, c) Q := by
  have F0 : FR [(37, 55, none)] h h := FR.refl
  refine wi_aload_n (i := 0) (x := 0) (nx := 1) (r1 := 0) (r2 := 0) (r3 := 0) rfl rfl ?_
  refine wi_iload_n (i := 1) (e := a0) (nx := 2) (r1 := 0) (r2 := 0) (r3 := 0) rfl rfl ?_
  refine wr_V (k0 := 0) (rest := []) (as := [.ref 0, vi a0]) (nx := 5) (r1 := 70) (r2 := 1) (r3 := 0) rfl rfl rfl (of_decide_eq_true rfl) rfl rfl (by decide) rfl rfl (of_decide_eq_true rfl) (of_decide_eq_true rfl) ?_
  refine wi_iload_n (i := 1) (e := a0) (nx := 1) (r1 := 0) (r2 := 0) (r3 := 0) rfl rfl ?_
  refine wi_if (cd := .lt) (nx := 4) (r1 := 15) (r2 := 0) (r3 := 0) rfl (by omega) (fun (q1 : a0 < 0) => ?_) (fun (q1 : ¬ (a0 < 0)) => ?_)
  ·
    refine wr_throw (Ex := 2) (nx := 18) (r1 := 2) (r2 := 0) (r3 := 1) rfl (by decide) rfl hr (by decide) ?_
    refine wk_x rfl ?_
    exact kx2 h g F0
  ·
    refine wi_iload_n (i := 1) (e := a0) (nx := 5) (r1 := 0) (r2 := 0) (r3 := 0) rfl rfl ?_
    refine wi_aload_n (i := 0) (x := 0) (nx := 6) (r1 := 0) (r2 := 0) (r3 := 0) rfl rfl ?_
    refine wr_gr (k0 := 0) (x := 3) (nx := 9) (r1 := 0) (r2 := 1) (r3 := 0) rfl rfl (by decide) rfl ⟨rfl, rfl⟩ rfl ?_
    have b2 := gi_b (lo := 0) (hi := 12) g 3 2 rfl
    refine wr_gi0 (k0 := 3) (x := h 3 2) (nx := 12) (r1 := 2) (r2 := 2) (r3 := 0) rfl rfl (by decide) rfl ⟨rfl, rfl⟩ rfl rfl ?_
    refine wi_icmp (cd := .lt) (nx := 15) (r1 := 26) (r2 := 0) (r3 := 0) rfl (by omega) (by omega) (fun (q3 : a0 < (h 3 2)) => ?_) (fun (q3 : ¬ (a0 < (h 3 2))) => ?_)
    ·
      refine wi_return (nx := 27) (r1 := 0) (r2 := 0) (r3 := 0) rfl rfl ?_
      refine wk_n ?_
      refine wi_aload_n (i := 0) (x := 0) (nx := 6) (r1 := 0) (r2 := 0) (r3 := 0) rfl rfl ?_
      refine wi_sipush (n := 300) (nx := 9) (r1 := 0) (r2 := 0) (r3 := 0) rfl (by decide) ?_
      refine wi_iload_n (i := 1) (e := a0) (nx := 10) (r1 := 0) (r2 := 0) (r3 := 0) rfl rfl ?_
      refine wr_V (k0 := 0) (rest := []) (as := [.ref 0, vi 300, vi a0]) (nx := 13) (r1 := 83) (r2 := 2) (r3 := 0) rfl rfl rfl (of_decide_eq_true rfl) rfl rfl (by decide) rfl rfl (of_decide_eq_true rfl) (of_decide_eq_true rfl) ?_
      refine ct_83_0 hcr  g 300 a0 (by omega) (by omega)  (fun h4 z5 g4 u4 (fz5 : -2147483648 ≤ z5 ∧ z5 ≤ 2147483647) => ?_)
      have F6 := F0.then (by decide +kernel) u4
      refine wk_i ?_
      refine wi_istore_n (i := 2) (e := z5) (lo2 := [(2, vi z5), (0, .ref 0), (1, vi a0)]) (nx := 14) (r1 := 0) (r2 := 0) (r3 := 0) rfl rfl ?_
      refine wi_aload_n (i := 0) (x := 0) (nx := 15) (r1 := 0) (r2 := 0) (r3 := 0) rfl rfl ?_
      refine wr_gr (k0 := 0) (x := 37) (nx := 18) (r1 := 0) (r2 := 4) (r3 := 0) rfl rfl (by decide) rfl ⟨rfl, rfl⟩ rfl ?_
      refine wr_gr (k0 := 37) (x := 45) (nx := 21) (r1 := 4) (r2 := 6) (r3 := 0) rfl rfl (by decide) rfl ⟨rfl, rfl⟩ rfl ?_
      refine wi_iload_n (i := 1) (e := a0) (nx := 22) (r1 := 0) (r2 := 0) (r3 := 0) rfl rfl ?_
      refine wr_V (k0 := 45) (rest := []) (as := [.ref 45, vi a0]) (nx := 25) (r1 := 159) (r2 := 1) (r3 := 5) rfl rfl rfl (of_decide_eq_true rfl) rfl rfl (by decide) rfl rfl (of_decide_eq_true rfl) (of_decide_eq_true rfl) ?_
      refine ct_159_R hcr rw_45 g4 a0 (by omega)  (fun z8  (fz8 : -1 ≤ z8 ∧ z8 ≤ 11) => ?_)
      refine wk_i ?_
      refine wi_iconst (n := (-1)) (nx := 26) (r1 := 0) (r2 := 0) (r3 := 0) rfl ?_
      refine wi_icmp (cd := .ne) (nx := 29) (r1 := 33) (r2 := 0) (r3 := 0) rfl (by omega) (by omega) (fun (q9 : z8 ≠ (-1)) => ?_) (fun (q9 : ¬ (z8 ≠ (-1))) => ?_)
      ·
        refine wi_iload_n (i := 2) (e := z5) (nx := 34) (r1 := 0) (r2 := 0) (r3 := 0) rfl rfl ?_
        refine wi_ireturn (nx := 35) (r1 := 0) (r2 := 0) (r3 := 0) rfl rfl ?_
        exact k h4 z5 g4 F6 (by omega)
      ·
        refine wi_iconst (n := (-1)) (nx := 30) (r1 := 0) (r2 := 0) (r3 := 0) rfl ?_
        refine wi_goto (nx := 33) (r1 := 34) (r2 := 0) (r3 := 0) rfl ?_
        refine wi_ireturn (nx := 35) (r1 := 0) (r2 := 0) (r3 := 0) rfl rfl ?_
        exact k h4 (-1) g4 F6 (by omega)
    ·
      refine wr_throw (Ex := 2) (nx := 18) (r1 := 2) (r2 := 0) (r3 := 1) rfl (by decide) rfl hr (by decide) ?_
      refine wk_x rfl ?_
      exact kx2 h g F0
-- method 48: Bank.swap()I
set_option maxRecDepth 100000 in
set_option maxHeartbeats 100000000 in
theorem ct_48_0 {L : Nat} {xs : Nat → Int32} {d b c : Nat} {h : hp} {cr : Nat → Nat → Option Nat} {Q : hp_Q} (hcr : CR cr)  (g : GI h)    (k : ∀ (h2 : hp) (z0 : Int) , GI h2 → FR [(19, 19, none), (64, 64, none), (65, 65, none), (66, 67, none), (75, 207, none), (18, 18, some (16, 16)), (63, 63, some (4, 4)), (63, 63, some (5, 5)), (63, 63, some (7, 7)), (73, 73, some (1, 1)), (73, 73, some (2, 2))] h h2 → (-2147483648 ≤ z0 ∧ z0 ≤ 2147483647) → Q (.inl (some (vi z0))) (hp_w h2 cr) b c) : wp (md_xa (L, xs)) (d + 20) 48 (0, [(0, .ref 0)], [], hp_w h cr, b, c) Q := by
  have F0 : FR [(19, 19, none), (64, 64, none), (65, 65, none), (66, 67, none), (75, 207, none), (18, 18, some (16, 16)), (63, 63, some (4, 4)), (63, 63, some (5, 5)), (63, 63, some (7, 7)), (73, 73, some (1, 1)), (73, 73, some (2, 2))] h h := FR.refl
  refine wi_aload_n (i := 0) (x := 0) (nx := 1) (r1 := 0) (r2 := 0) (r3 := 0) rfl rfl ?_
  refine wr_gr (k0 := 0) (x := 73) (nx := 4) (r1 := 0) (r2 := 8) (r3 := 0) rfl rfl (by decide) rfl ⟨rfl, rfl⟩ rfl ?_
  refine wi_aload_n (i := 0) (x := 0) (nx := 5) (r1 := 0) (r2 := 0) (r3 := 0) rfl rfl ?_
  refine wr_gr (k0 := 0) (x := 18) (nx := 8) (r1 := 0) (r2 := 3) (r3 := 0) rfl rfl (by decide) rfl ⟨rfl, rfl⟩ rfl ?_
  refine wr_V (k0 := 73) (rest := []) (as := [.ref 73, .ref 18]) (nx := 11) (r1 := 192) (r2 := 1) (r3 := 9) rfl rfl rfl (of_decide_eq_true rfl) rfl rfl (by decide) rfl rfl (of_decide_eq_true rfl) (of_decide_eq_true rfl) ?_
  refine ct_192_73_18 hcr  g    (fun h1 g1 u1 => ?_)
  have F2 := F0.then (by decide +kernel) u1
  refine wk_n ?_
  refine wi_aload_n (i := 0) (x := 0) (nx := 12) (r1 := 0) (r2 := 0) (r3 := 0) rfl rfl ?_
  refine wr_gr (k0 := 0) (x := 63) (nx := 15) (r1 := 0) (r2 := 6) (r3 := 0) rfl rfl (by decide) rfl ⟨rfl, rfl⟩ rfl ?_
  refine wr_V (k0 := 63) (rest := []) (as := [.ref 63]) (nx := 18) (r1 := 171) (r2 := 0) (r3 := 7) rfl rfl rfl (of_decide_eq_true rfl) rfl rfl (by decide) rfl rfl (of_decide_eq_true rfl) (of_decide_eq_true rfl) ?_
  refine ct_171_63 hcr  g1    (fun h3 g3 u3 => ?_)
  have F4 := F2.then (by decide +kernel) u3
  refine wk_n ?_
  refine wi_aload_n (i := 0) (x := 0) (nx := 19) (r1 := 0) (r2 := 0) (r3 := 0) rfl rfl ?_
  refine wr_gr (k0 := 0) (x := 63) (nx := 22) (r1 := 0) (r2 := 6) (r3 := 0) rfl rfl (by decide) rfl ⟨rfl, rfl⟩ rfl ?_
  refine wr_V (k0 := 63) (rest := []) (as := [.ref 63]) (nx := 25) (r1 := 180) (r2 := 0) (r3 := 7) rfl rfl rfl (of_decide_eq_true rfl) rfl rfl (by decide) rfl rfl (of_decide_eq_true rfl) (of_decide_eq_true rfl) ?_
  refine ct_180_63 hcr  g3    (fun h5 z6 g5 u5 (fz6 : -2147483648 ≤ z6 ∧ z6 ≤ 2147483647) => ?_)
  have F7 := F4.then (by decide +kernel) u5
  refine wk_i ?_
  refine wi_istore_n (i := 1) (e := z6) (lo2 := [(1, vi z6), (0, .ref 0)]) (nx := 26) (r1 := 0) (r2 := 0) (r3 := 0) rfl rfl ?_
  refine wi_aload_n (i := 0) (x := 0) (nx := 27) (r1 := 0) (r2 := 0) (r3 := 0) rfl rfl ?_
  refine wi_iload_n (i := 1) (e := z6) (nx := 28) (r1 := 0) (r2 := 0) (r3 := 0) rfl rfl ?_
  refine wi_if (cd := .ne) (nx := 31) (r1 := 35) (r2 := 0) (r3 := 0) rfl (by omega) (fun (q8 : z6 ≠ 0) => ?_) (fun (q8 : ¬ (z6 ≠ 0)) => ?_)
  ·
    refine wi_iload_n (i := 1) (e := z6) (nx := 36) (r1 := 0) (r2 := 0) (r3 := 0) rfl rfl ?_
    refine wr_V (k0 := 0) (rest := []) (as := [.ref 0, vi z6]) (nx := 39) (r1 := 45) (r2 := 1) (r3 := 0) rfl rfl rfl (of_decide_eq_true rfl) rfl rfl (by decide) rfl rfl (of_decide_eq_true rfl) (of_decide_eq_true rfl) ?_
    refine ct_45_0 hcr  g5 z6 (by omega)  (fun h9 z10 g9 u9 (fz10 : -2147483648 ≤ z10 ∧ z10 ≤ 2147483647) => ?_)
    have F11 := F7.then (by decide +kernel) u9
    refine wk_i ?_
    refine wi_ireturn (nx := 40) (r1 := 0) (r2 := 0) (r3 := 0) rfl rfl ?_
    exact k h9 z10 g9 F11 (by omega)
  ·
    refine wi_iconst (n := (-1)) (nx := 32) (r1 := 0) (r2 := 0) (r3 := 0) rfl ?_
    refine wi_goto (nx := 35) (r1 := 36) (r2 := 0) (r3 := 0) rfl ?_
    refine wr_V (k0 := 0) (rest := []) (as := [.ref 0, vi (-1)]) (nx := 39) (r1 := 45) (r2 := 1) (r3 := 0) rfl rfl rfl (of_decide_eq_true rfl) rfl rfl (by decide) rfl rfl (of_decide_eq_true rfl) (of_decide_eq_true rfl) ?_
    refine ct_45_0 hcr  g5 (-1) (by omega)  (fun h9 z10 g9 u9 (fz10 : -2147483648 ≤ z10 ∧ z10 ≤ 2147483647) => ?_)
    have F11 := F7.then (by decide +kernel) u9
    refine wk_i ?_
    refine wi_ireturn (nx := 40) (r1 := 0) (r2 := 0) (r3 := 0) rfl rfl ?_
    exact k h9 z10 g9 F11 (by omega)
-- method 55: Bank.swapChanges()I
set_option maxRecDepth 100000 in
set_option maxHeartbeats 100000000 in
theorem ct_55_0 {L : Nat} {xs : Nat → Int32} {d b c : Nat} {h : hp} {cr : Nat → Nat → Option Nat} {Q : hp_Q} (hcr : CR cr)  (g : GI h)    (k : ∀ (h2 : hp) (z0 : Int) , GI h2 → FR [(64, 64, none), (65, 65, none), (66, 67, none), (63, 63, some (4, 4)), (63, 63, some (5, 5)), (63, 63, some (7, 7))] h h2 → (-2147483648 ≤ z0 ∧ z0 ≤ 2147483647) → Q (.inl (some (vi z0))) (hp_w h2 cr) b c) : wp (md_xa (L, xs)) (d + 20) 55 (0, [(0, .ref 0)], [], hp_w h cr, b, c) Q := by
  have F0 : FR [(64, 64, none), (65, 65, none), (66, 67, none), (63, 63, some (4, 4)), (63, 63, some (5, 5)), (63, 63, some (7, 7))] h h := FR.refl
  refine wi_aload_n (i := 0) (x := 0) (nx := 1) (r1 := 0) (r2 := 0) (r3 := 0) rfl rfl ?_
  refine wr_gr (k0 := 0) (x := 63) (nx := 4) (r1 := 0) (r2 := 6) (r3 := 0) rfl rfl (by decide) rfl ⟨rfl, rfl⟩ rfl ?_
  refine wr_V (k0 := 63) (rest := []) (as := [.ref 63]) (nx := 7) (r1 := 171) (r2 := 0) (r3 := 7) rfl rfl rfl (of_decide_eq_true rfl) rfl rfl (by decide) rfl rfl (of_decide_eq_true rfl) (of_decide_eq_true rfl) ?_
  refine ct_171_63 hcr  g    (fun h1 g1 u1 => ?_)
  have F2 := F0.then (by decide +kernel) u1
  refine wk_n ?_
  refine wi_aload_n (i := 0) (x := 0) (nx := 8) (r1 := 0) (r2 := 0) (r3 := 0) rfl rfl ?_
  refine wr_gr (k0 := 0) (x := 63) (nx := 11) (r1 := 0) (r2 := 6) (r3 := 0) rfl rfl (by decide) rfl ⟨rfl, rfl⟩ rfl ?_
  have b3 := gi_b (lo := -2147483648) (hi := 2147483647) g1 63 7 rfl
  refine wr_gi0 (k0 := 63) (x := h1 63 7) (nx := 14) (r1 := 7) (r2 := 7) (r3 := 0) rfl rfl (by decide) rfl ⟨rfl, rfl⟩ rfl rfl ?_
  refine wi_ireturn (nx := 15) (r1 := 0) (r2 := 0) (r3 := 0) rfl rfl ?_
  exact k h1 (h1 63 7) g1 F2 (by omega)
-- method 56: Bank.swapColor(I)I
set_option maxRecDepth 100000 in
set_option maxHeartbeats 100000000 in
theorem ct_56_0 {L : Nat} {xs : Nat → Int32} {d b c : Nat} {h : hp} {cr : Nat → Nat → Option Nat} {Q : hp_Q} (hcr : CR cr)  (g : GI h) (a0 : Int) (q0_ : -2147483648 ≤ a0 ∧ a0 ≤ 2147483647)  (k : ∀ (h2 : hp) (z0 : Int) , GI h2 → FR [(64, 64, none), (65, 65, none), (66, 67, none), (63, 63, some (4, 4)), (63, 63, some (5, 5)), (63, 63, some (7, 7))] h h2 → (-2147483648 ≤ z0 ∧ z0 ≤ 2147483647) → Q (.inl (some (vi z0))) (hp_w h2 cr) b c) : wp (md_xa (L, xs)) (d + 20) 56 (0, [(0, .ref 0), (1, vi a0)], [], hp_w h cr, b, c) Q := by
  have F0 : FR [(64, 64, none), (65, 65, none), (66, 67, none), (63, 63, some (4, 4)), (63, 63, some (5, 5)), (63, 63, some (7, 7))] h h := FR.refl
  refine wi_aload_n (i := 0) (x := 0) (nx := 1) (r1 := 0) (r2 := 0) (r3 := 0) rfl rfl ?_
  refine wr_gr (k0 := 0) (x := 63) (nx := 4) (r1 := 0) (r2 := 6) (r3 := 0) rfl rfl (by decide) rfl ⟨rfl, rfl⟩ rfl ?_
  refine wr_V (k0 := 63) (rest := []) (as := [.ref 63]) (nx := 7) (r1 := 171) (r2 := 0) (r3 := 7) rfl rfl rfl (of_decide_eq_true rfl) rfl rfl (by decide) rfl rfl (of_decide_eq_true rfl) (of_decide_eq_true rfl) ?_
  refine ct_171_63 hcr  g    (fun h1 g1 u1 => ?_)
  have F2 := F0.then (by decide +kernel) u1
  refine wk_n ?_
  refine wi_aload_n (i := 0) (x := 0) (nx := 8) (r1 := 0) (r2 := 0) (r3 := 0) rfl rfl ?_
  refine wr_gr (k0 := 0) (x := 63) (nx := 11) (r1 := 0) (r2 := 6) (r3 := 0) rfl rfl (by decide) rfl ⟨rfl, rfl⟩ rfl ?_
  refine wr_gr (k0 := 63) (x := 66) (nx := 14) (r1 := 7) (r2 := 6) (r3 := 0) rfl rfl (by decide) rfl ⟨rfl, rfl⟩ rfl ?_
  refine wi_iload_n (i := 1) (e := a0) (nx := 15) (r1 := 0) (r2 := 0) (r3 := 0) rfl rfl ?_
  refine wr_V (k0 := 66) (rest := []) (as := [.ref 66, vi a0]) (nx := 18) (r1 := 154) (r2 := 1) (r3 := 5) rfl rfl rfl (of_decide_eq_true rfl) rfl rfl (by decide) rfl rfl (of_decide_eq_true rfl) (of_decide_eq_true rfl) ?_
  refine ct_154_R hcr rw_66 g1 a0 (by omega)  (fun z4  (fz4 : -2147483648 ≤ z4 ∧ z4 ≤ 2147483647) => ?_)
  refine wk_i ?_
  refine wi_ireturn (nx := 19) (r1 := 0) (r2 := 0) (r3 := 0) rfl rfl ?_
  exact k h1 z4 g1 F2 (by omega)
-- method 40: Bank.time()I
set_option maxRecDepth 100000 in
set_option maxHeartbeats 100000000 in
theorem ct_40_0 {L : Nat} {xs : Nat → Int32} {d b c : Nat} {h : hp} {cr : Nat → Nat → Option Nat} {Q : hp_Q} (hcr : CR cr)  (g : GI h)    (k : ∀ (z0 : Int), (-2147483648 ≤ z0 ∧ z0 ≤ 2147483647) → Q (.inl (some (vi z0))) (hp_w h cr) b c) : wp (md_xa (L, xs)) d 40 (0, [(0, .ref 0)], [], hp_w h cr, b, c) Q := by
  have F0 : FR [] h h := FR.refl
  refine wi_aload_n (i := 0) (x := 0) (nx := 1) (r1 := 0) (r2 := 0) (r3 := 0) rfl rfl ?_
  refine wr_gr (k0 := 0) (x := 18) (nx := 4) (r1 := 0) (r2 := 3) (r3 := 0) rfl rfl (by decide) rfl ⟨rfl, rfl⟩ rfl ?_
  have b1 := gi_b (lo := -2147483648) (hi := 2147483647) g 18 10 rfl
  refine wr_gi0 (k0 := 18) (x := h 18 10) (nx := 7) (r1 := 4) (r2 := 10) (r3 := 0) rfl rfl (by decide) rfl ⟨rfl, rfl⟩ rfl rfl ?_
  refine wi_ireturn (nx := 8) (r1 := 0) (r2 := 0) (r3 := 0) rfl rfl ?_
  exact k (h 18 10) (by omega)
-- method 62: Bank.truncate(I)I
set_option maxRecDepth 100000 in
set_option maxHeartbeats 100000000 in
theorem ct_62_0 {L : Nat} {xs : Nat → Int32} {d b c : Nat} {h : hp} {cr : Nat → Nat → Option Nat} {Q : hp_Q} (hcr : CR cr) (hr : 1 ≤ b ∧ 6 ≤ c)  (g : GI h) (a0 : Int) (q0_ : -2147483648 ≤ a0 ∧ a0 ≤ 2147483647)  (k : ∀ (h2 : hp) (z0 : Int) , GI h2 → FR [(1, 1, some (1, 1))] h h2 → (0 ≤ z0 ∧ z0 ≤ 800) → (0 ≤ a0 ∧ a0 ≤ h 1 1) → (h2 1 1 = a0) → (z0 = a0) → Q (.inl (some (vi z0))) (hp_w h2 cr) b c) (kx1 : ∀ (h2 : hp), GI h2 → FR [(1, 1, some (1, 1))] h h2 → (a0 < 0 ∨ h 1 1 < a0) → (h2 1 1 = h 1 1) → Q (.inr 1) (hp_w h2 cr) (b - 1) (c - 6)) : wp (md_xa (L, xs)) d 62 (0, [(0, .ref 0), (1, vi a0)], [], hp_w h cr, b, c) Q := by
  have F0 : FR [(1, 1, some (1, 1))] h h := FR.refl
  refine wi_iload_n (i := 1) (e := a0) (nx := 1) (r1 := 0) (r2 := 0) (r3 := 0) rfl rfl ?_
  refine wi_if (cd := .lt) (nx := 4) (r1 := 15) (r2 := 0) (r3 := 0) rfl (by omega) (fun (q1 : a0 < 0) => ?_) (fun (q1 : ¬ (a0 < 0)) => ?_)
  ·
    refine wr_throw (Ex := 1) (nx := 18) (r1 := 1) (r2 := 0) (r3 := 1) rfl (by decide) rfl hr (by decide) ?_
    have b2 := gi_b (lo := 0) (hi := 800) g 1 1 rfl
    exact kx1 h g F0 (show a0 < 0 ∨ (h 1 1) < a0 by omega) (show (h 1 1) = (h 1 1) by omega)
  ·
    refine wi_iload_n (i := 1) (e := a0) (nx := 5) (r1 := 0) (r2 := 0) (r3 := 0) rfl rfl ?_
    refine wi_aload_n (i := 0) (x := 0) (nx := 6) (r1 := 0) (r2 := 0) (r3 := 0) rfl rfl ?_
    refine wr_gr (k0 := 0) (x := 1) (nx := 9) (r1 := 0) (r2 := 0) (r3 := 0) rfl rfl (by decide) rfl ⟨rfl, rfl⟩ rfl ?_
    have b2 := gi_b (lo := 0) (hi := 800) g 1 1 rfl
    refine wr_gi0 (k0 := 1) (x := h 1 1) (nx := 12) (r1 := 1) (r2 := 1) (r3 := 0) rfl rfl (by decide) rfl ⟨rfl, rfl⟩ rfl rfl ?_
    refine wi_icmp (cd := .le) (nx := 15) (r1 := 25) (r2 := 0) (r3 := 0) rfl (by omega) (by omega) (fun (q3 : a0 ≤ (h 1 1)) => ?_) (fun (q3 : ¬ (a0 ≤ (h 1 1))) => ?_)
    ·
      refine wi_aload_n (i := 0) (x := 0) (nx := 26) (r1 := 0) (r2 := 0) (r3 := 0) rfl rfl ?_
      refine wr_gr (k0 := 0) (x := 1) (nx := 29) (r1 := 0) (r2 := 0) (r3 := 0) rfl rfl (by decide) rfl ⟨rfl, rfl⟩ rfl ?_
      refine wi_iload_n (i := 1) (e := a0) (nx := 30) (r1 := 0) (r2 := 0) (r3 := 0) rfl rfl ?_
      refine wr_pf0 (k0 := 1) (x := a0) (bl := 0) (bh := 800) (nx := 33) (r1 := 1) (r2 := 1) (r3 := 0) rfl (by decide) rfl ⟨rfl, rfl⟩ rfl rfl g rfl (by omega) (fun h4 g4 w4 u4 => ?_)
      have F5 := F0.then rfl u4
      refine wi_iload_n (i := 1) (e := a0) (nx := 34) (r1 := 0) (r2 := 0) (r3 := 0) rfl rfl ?_
      refine wi_ireturn (nx := 35) (r1 := 0) (r2 := 0) (r3 := 0) rfl rfl ?_
      have e6 : h4 1 1 = a0 := w4
      exact k h4 a0 g4 F5 (by omega) (show 0 ≤ a0 ∧ a0 ≤ (h 1 1) by omega) (show (h4 1 1) = a0 by omega) (show a0 = a0 by omega)
    ·
      refine wr_throw (Ex := 1) (nx := 18) (r1 := 1) (r2 := 0) (r3 := 1) rfl (by decide) rfl hr (by decide) ?_
      exact kx1 h g F0 (show a0 < 0 ∨ (h 1 1) < a0 by omega) (show (h 1 1) = (h 1 1) by omega)
-- method 132: Line.copyFrom(LPaintBank$Line;)V
set_option maxRecDepth 100000 in
set_option maxHeartbeats 100000000 in
theorem ct_132_18_75 {L : Nat} {xs : Nat → Int32} {d b c : Nat} {h : hp} {cr : Nat → Nat → Option Nat} {Q : hp_Q} (hcr : CR cr)  (g : GI h)    (k : ∀ (h2 : hp) , GI h2 → FR [(18, 36, none)] h h2 → Q (.inl none) (hp_w h2 cr) b c) : wp (md_xa (L, xs)) (d + 1) 132 (0, [(0, .ref 18), (1, .ref 75)], [], hp_w h cr, b, c) Q := by
  have F0 : FR [(18, 36, none)] h h := FR.refl
  refine wi_aload_n (i := 1) (x := 75) (nx := 1) (r1 := 0) (r2 := 0) (r3 := 0) rfl rfl ?_
  refine wr_gr (k0 := 75) (x := 76) (nx := 4) (r1 := 4) (r2 := 1) (r3 := 0) rfl rfl (by decide) rfl ⟨rfl, rfl⟩ rfl ?_
  refine wi_iconst (n := 0) (nx := 5) (r1 := 0) (r2 := 0) (r3 := 0) rfl ?_
  refine wi_aload_n (i := 0) (x := 18) (nx := 6) (r1 := 0) (r2 := 0) (r3 := 0) rfl rfl ?_
  refine wr_gr (k0 := 18) (x := 19) (nx := 9) (r1 := 4) (r2 := 1) (r3 := 0) rfl rfl (by decide) rfl ⟨rfl, rfl⟩ rfl ?_
  refine wi_iconst (n := 0) (nx := 10) (r1 := 0) (r2 := 0) (r3 := 0) rfl ?_
  refine wi_bipush (n := 12) (nx := 12) (r1 := 0) (r2 := 0) (r3 := 0) rfl (by decide) ?_
  refine wr_cpy (s0 := 76) (d0 := 19) (n0 := 12) (n1 := 12) (sp := 0) (dp := 0) (n := 12) (sl := -2147483648) (sh := 2147483647) (dl := -2147483648) (dh := 2147483647) (nx := 15) (r1 := 0) (r2 := 101) (r3 := 0) rfl rfl (of_decide_eq_true rfl) (by decide) (by decide) rfl rfl (by omega) (fun _ => rfl) (fun _ => rfl) (by omega) g (fun h1 g1 y1 u1 => ?_)
  have F2 := F0.then rfl u1
  refine wi_aload_n (i := 1) (x := 75) (nx := 16) (r1 := 0) (r2 := 0) (r3 := 0) rfl rfl ?_
  refine wr_gr (k0 := 75) (x := 77) (nx := 19) (r1 := 4) (r2 := 2) (r3 := 0) rfl rfl (by decide) rfl ⟨rfl, rfl⟩ rfl ?_
  refine wi_iconst (n := 0) (nx := 20) (r1 := 0) (r2 := 0) (r3 := 0) rfl ?_
  refine wi_aload_n (i := 0) (x := 18) (nx := 21) (r1 := 0) (r2 := 0) (r3 := 0) rfl rfl ?_
  refine wr_gr (k0 := 18) (x := 20) (nx := 24) (r1 := 4) (r2 := 2) (r3 := 0) rfl rfl (by decide) rfl ⟨rfl, rfl⟩ rfl ?_
  refine wi_iconst (n := 0) (nx := 25) (r1 := 0) (r2 := 0) (r3 := 0) rfl ?_
  refine wi_bipush (n := 12) (nx := 27) (r1 := 0) (r2 := 0) (r3 := 0) rfl (by decide) ?_
  refine wr_cpy (s0 := 77) (d0 := 20) (n0 := 12) (n1 := 12) (sp := 0) (dp := 0) (n := 12) (sl := -2147483648) (sh := 2147483647) (dl := -2147483648) (dh := 2147483647) (nx := 30) (r1 := 0) (r2 := 101) (r3 := 0) rfl rfl (of_decide_eq_true rfl) (by decide) (by decide) rfl rfl (by omega) (fun _ => rfl) (fun _ => rfl) (by omega) g1 (fun h3 g3 y3 u3 => ?_)
  have F4 := F2.then rfl u3
  refine wi_iconst (n := 0) (nx := 31) (r1 := 0) (r2 := 0) (r3 := 0) rfl ?_
  refine wi_istore_n (i := 2) (e := 0) (lo2 := [(2, vi 0), (0, .ref 18), (1, .ref 75)]) (nx := 32) (r1 := 0) (r2 := 0) (r3 := 0) rfl rfl ?_
  refine wp.lo (lo := [(0, .ref 18), (1, .ref 75), (2, vi 0)]) ⟨rfl, rfl, rfl, trivial⟩ rfl ?_
  refine wl_1 (fun x5 h6 => GI h6 ∧ FR [(18, 36, none)] h h6 ∧ FR [(29, 36, none)] h3 h6 ∧ ((0 ≤ x5 ∧ x5 ≤ 4))) (fun x5 h6 => ((4 : Int) + 1 - x5).toNat) (fun x5 h6 => (32, [(0, .ref 18), (1, .ref 75), (2, vi x5)], [], hp_w h6 cr, b, c)) ?_ 0 h3 ⟨g3, F4, FR.refl, (show (0 ≤ 0 ∧ 0 ≤ 4) by omega)⟩
  intro x5 h6 ⟨g6, F7, u6, f6⟩ I6
  refine wi_iload_n (i := 2) (e := x5) (nx := 33) (r1 := 0) (r2 := 0) (r3 := 0) rfl rfl ?_
  refine wi_iconst (n := 4) (nx := 34) (r1 := 0) (r2 := 0) (r3 := 0) rfl ?_
  refine wi_icmp (cd := .ge) (nx := 37) (r1 := 58) (r2 := 0) (r3 := 0) rfl (by omega) (by omega) (fun (q8 : 4 ≤ x5) => ?_) (fun (q8 : ¬ (4 ≤ x5)) => ?_)
  ·
    refine wi_aload_n (i := 0) (x := 18) (nx := 59) (r1 := 0) (r2 := 0) (r3 := 0) rfl rfl ?_
    refine wr_gr (k0 := 18) (x := 22) (nx := 62) (r1 := 4) (r2 := 4) (r3 := 0) rfl rfl (by decide) rfl ⟨rfl, rfl⟩ rfl ?_
    refine wi_aload_n (i := 1) (x := 75) (nx := 63) (r1 := 0) (r2 := 0) (r3 := 0) rfl rfl ?_
    refine wr_gr (k0 := 75) (x := 79) (nx := 66) (r1 := 4) (r2 := 4) (r3 := 0) rfl rfl (by decide) rfl ⟨rfl, rfl⟩ rfl ?_
    refine wr_V (k0 := 22) (rest := []) (as := [.ref 22, .ref 79]) (nx := 69) (r1 := 155) (r2 := 1) (r3 := 5) rfl rfl rfl (of_decide_eq_true rfl) rfl rfl (by decide) rfl rfl (of_decide_eq_true rfl) (of_decide_eq_true rfl) ?_
    refine ct_155_R_R hcr rw_22 rw_79 g6    (fun h9 g9 u9 => ?_)
    have F10 := F7.then rfl u9
    refine wk_n ?_
    refine wi_aload_n (i := 0) (x := 18) (nx := 70) (r1 := 0) (r2 := 0) (r3 := 0) rfl rfl ?_
    refine wr_gr (k0 := 18) (x := 24) (nx := 73) (r1 := 4) (r2 := 5) (r3 := 0) rfl rfl (by decide) rfl ⟨rfl, rfl⟩ rfl ?_
    refine wi_aload_n (i := 1) (x := 75) (nx := 74) (r1 := 0) (r2 := 0) (r3 := 0) rfl rfl ?_
    refine wr_gr (k0 := 75) (x := 81) (nx := 77) (r1 := 4) (r2 := 5) (r3 := 0) rfl rfl (by decide) rfl ⟨rfl, rfl⟩ rfl ?_
    refine wr_V (k0 := 24) (rest := []) (as := [.ref 24, .ref 81]) (nx := 80) (r1 := 155) (r2 := 1) (r3 := 5) rfl rfl rfl (of_decide_eq_true rfl) rfl rfl (by decide) rfl rfl (of_decide_eq_true rfl) (of_decide_eq_true rfl) ?_
    refine ct_155_R_R hcr rw_24 rw_81 g9    (fun h11 g11 u11 => ?_)
    have F12 := F10.then rfl u11
    refine wk_n ?_
    refine wi_aload_n (i := 0) (x := 18) (nx := 81) (r1 := 0) (r2 := 0) (r3 := 0) rfl rfl ?_
    refine wr_gr (k0 := 18) (x := 26) (nx := 84) (r1 := 4) (r2 := 6) (r3 := 0) rfl rfl (by decide) rfl ⟨rfl, rfl⟩ rfl ?_
    refine wi_aload_n (i := 1) (x := 75) (nx := 85) (r1 := 0) (r2 := 0) (r3 := 0) rfl rfl ?_
    refine wr_gr (k0 := 75) (x := 83) (nx := 88) (r1 := 4) (r2 := 6) (r3 := 0) rfl rfl (by decide) rfl ⟨rfl, rfl⟩ rfl ?_
    refine wr_V (k0 := 26) (rest := []) (as := [.ref 26, .ref 83]) (nx := 91) (r1 := 155) (r2 := 1) (r3 := 5) rfl rfl rfl (of_decide_eq_true rfl) rfl rfl (by decide) rfl rfl (of_decide_eq_true rfl) (of_decide_eq_true rfl) ?_
    refine ct_155_R_R hcr rw_26 rw_83 g11    (fun h13 g13 u13 => ?_)
    have F14 := F12.then rfl u13
    refine wk_n ?_
    refine wi_aload_n (i := 0) (x := 18) (nx := 92) (r1 := 0) (r2 := 0) (r3 := 0) rfl rfl ?_
    refine wi_aload_n (i := 1) (x := 75) (nx := 93) (r1 := 0) (r2 := 0) (r3 := 0) rfl rfl ?_
    have b15 := gi_b (lo := 0) (hi := 12) g 75 7 rfl
    refine wr_gi0 (k0 := 75) (x := h 75 7) (nx := 96) (r1 := 4) (r2 := 7) (r3 := 0) rfl rfl (by decide) rfl ⟨rfl, rfl⟩ rfl ((u13 75 7 rfl).trans ((u11 75 7 rfl).trans ((u9 75 7 rfl).trans ((u6 75 7 rfl).trans ((u3 75 7 rfl).trans (u1 75 7 rfl)))))) ?_
    refine wr_pf0 (k0 := 18) (x := h 75 7) (bl := 0) (bh := 12) (nx := 99) (r1 := 4) (r2 := 7) (r3 := 0) rfl (by decide) rfl ⟨rfl, rfl⟩ rfl rfl g13 rfl (by omega) (fun h16 g16 w16 u16 => ?_)
    have F17 := F14.then rfl u16
    refine wi_aload_n (i := 0) (x := 18) (nx := 100) (r1 := 0) (r2 := 0) (r3 := 0) rfl rfl ?_
    refine wi_aload_n (i := 1) (x := 75) (nx := 101) (r1 := 0) (r2 := 0) (r3 := 0) rfl rfl ?_
    have b18 := gi_b (lo := -2147483648) (hi := 2147483647) g 75 8 rfl
    refine wr_gi0 (k0 := 75) (x := h 75 8) (nx := 104) (r1 := 4) (r2 := 8) (r3 := 0) rfl rfl (by decide) rfl ⟨rfl, rfl⟩ rfl ((u16 75 8 rfl).trans ((u13 75 8 rfl).trans ((u11 75 8 rfl).trans ((u9 75 8 rfl).trans ((u6 75 8 rfl).trans ((u3 75 8 rfl).trans (u1 75 8 rfl))))))) ?_
    refine wr_pf0 (k0 := 18) (x := h 75 8) (bl := -2147483648) (bh := 2147483647) (nx := 107) (r1 := 4) (r2 := 8) (r3 := 0) rfl (by decide) rfl ⟨rfl, rfl⟩ rfl rfl g16 rfl (by omega) (fun h19 g19 w19 u19 => ?_)
    have F20 := F17.then rfl u19
    refine wi_aload_n (i := 0) (x := 18) (nx := 108) (r1 := 0) (r2 := 0) (r3 := 0) rfl rfl ?_
    refine wi_aload_n (i := 1) (x := 75) (nx := 109) (r1 := 0) (r2 := 0) (r3 := 0) rfl rfl ?_
    have b21 := gi_b (lo := -2147483648) (hi := 2147483647) g 75 9 rfl
    refine wr_gi0 (k0 := 75) (x := h 75 9) (nx := 112) (r1 := 4) (r2 := 9) (r3 := 0) rfl rfl (by decide) rfl ⟨rfl, rfl⟩ rfl ((u19 75 9 rfl).trans ((u16 75 9 rfl).trans ((u13 75 9 rfl).trans ((u11 75 9 rfl).trans ((u9 75 9 rfl).trans ((u6 75 9 rfl).trans ((u3 75 9 rfl).trans (u1 75 9 rfl)))))))) ?_
    refine wr_pf0 (k0 := 18) (x := h 75 9) (bl := -2147483648) (bh := 2147483647) (nx := 115) (r1 := 4) (r2 := 9) (r3 := 0) rfl (by decide) rfl ⟨rfl, rfl⟩ rfl rfl g19 rfl (by omega) (fun h22 g22 w22 u22 => ?_)
    have F23 := F20.then rfl u22
    refine wi_aload_n (i := 0) (x := 18) (nx := 116) (r1 := 0) (r2 := 0) (r3 := 0) rfl rfl ?_
    refine wi_aload_n (i := 1) (x := 75) (nx := 117) (r1 := 0) (r2 := 0) (r3 := 0) rfl rfl ?_
    have b24 := gi_b (lo := -2147483648) (hi := 2147483647) g 75 10 rfl
    refine wr_gi0 (k0 := 75) (x := h 75 10) (nx := 120) (r1 := 4) (r2 := 10) (r3 := 0) rfl rfl (by decide) rfl ⟨rfl, rfl⟩ rfl ((u22 75 10 rfl).trans ((u19 75 10 rfl).trans ((u16 75 10 rfl).trans ((u13 75 10 rfl).trans ((u11 75 10 rfl).trans ((u9 75 10 rfl).trans ((u6 75 10 rfl).trans ((u3 75 10 rfl).trans (u1 75 10 rfl))))))))) ?_
    refine wr_pf0 (k0 := 18) (x := h 75 10) (bl := -2147483648) (bh := 2147483647) (nx := 123) (r1 := 4) (r2 := 10) (r3 := 0) rfl (by decide) rfl ⟨rfl, rfl⟩ rfl rfl g22 rfl (by omega) (fun h25 g25 w25 u25 => ?_)
    have F26 := F23.then rfl u25
    refine wi_aload_n (i := 0) (x := 18) (nx := 124) (r1 := 0) (r2 := 0) (r3 := 0) rfl rfl ?_
    refine wi_aload_n (i := 1) (x := 75) (nx := 125) (r1 := 0) (r2 := 0) (r3 := 0) rfl rfl ?_
    have b27 := gi_b (lo := -2147483648) (hi := 2147483647) g 75 11 rfl
    refine wr_gi0 (k0 := 75) (x := h 75 11) (nx := 128) (r1 := 4) (r2 := 11) (r3 := 0) rfl rfl (by decide) rfl ⟨rfl, rfl⟩ rfl ((u25 75 11 rfl).trans ((u22 75 11 rfl).trans ((u19 75 11 rfl).trans ((u16 75 11 rfl).trans ((u13 75 11 rfl).trans ((u11 75 11 rfl).trans ((u9 75 11 rfl).trans ((u6 75 11 rfl).trans ((u3 75 11 rfl).trans (u1 75 11 rfl)))))))))) ?_
    refine wr_pf0 (k0 := 18) (x := h 75 11) (bl := -2147483648) (bh := 2147483647) (nx := 131) (r1 := 4) (r2 := 11) (r3 := 0) rfl (by decide) rfl ⟨rfl, rfl⟩ rfl rfl g25 rfl (by omega) (fun h28 g28 w28 u28 => ?_)
    have F29 := F26.then rfl u28
    refine wi_aload_n (i := 0) (x := 18) (nx := 132) (r1 := 0) (r2 := 0) (r3 := 0) rfl rfl ?_
    refine wi_aload_n (i := 1) (x := 75) (nx := 133) (r1 := 0) (r2 := 0) (r3 := 0) rfl rfl ?_
    have b30 := gi_b (lo := -2147483648) (hi := 2147483647) g 75 12 rfl
    refine wr_gi0 (k0 := 75) (x := h 75 12) (nx := 136) (r1 := 4) (r2 := 12) (r3 := 0) rfl rfl (by decide) rfl ⟨rfl, rfl⟩ rfl ((u28 75 12 rfl).trans ((u25 75 12 rfl).trans ((u22 75 12 rfl).trans ((u19 75 12 rfl).trans ((u16 75 12 rfl).trans ((u13 75 12 rfl).trans ((u11 75 12 rfl).trans ((u9 75 12 rfl).trans ((u6 75 12 rfl).trans ((u3 75 12 rfl).trans (u1 75 12 rfl))))))))))) ?_
    refine wr_pf0 (k0 := 18) (x := h 75 12) (bl := -2147483648) (bh := 2147483647) (nx := 139) (r1 := 4) (r2 := 12) (r3 := 0) rfl (by decide) rfl ⟨rfl, rfl⟩ rfl rfl g28 rfl (by omega) (fun h31 g31 w31 u31 => ?_)
    have F32 := F29.then rfl u31
    refine wi_aload_n (i := 0) (x := 18) (nx := 140) (r1 := 0) (r2 := 0) (r3 := 0) rfl rfl ?_
    refine wi_aload_n (i := 1) (x := 75) (nx := 141) (r1 := 0) (r2 := 0) (r3 := 0) rfl rfl ?_
    have b33 := gi_b (lo := -2147483648) (hi := 2147483647) g 75 13 rfl
    refine wr_gi0 (k0 := 75) (x := h 75 13) (nx := 144) (r1 := 4) (r2 := 13) (r3 := 0) rfl rfl (by decide) rfl ⟨rfl, rfl⟩ rfl ((u31 75 13 rfl).trans ((u28 75 13 rfl).trans ((u25 75 13 rfl).trans ((u22 75 13 rfl).trans ((u19 75 13 rfl).trans ((u16 75 13 rfl).trans ((u13 75 13 rfl).trans ((u11 75 13 rfl).trans ((u9 75 13 rfl).trans ((u6 75 13 rfl).trans ((u3 75 13 rfl).trans (u1 75 13 rfl)))))))))))) ?_
    refine wr_pf0 (k0 := 18) (x := h 75 13) (bl := -2147483648) (bh := 2147483647) (nx := 147) (r1 := 4) (r2 := 13) (r3 := 0) rfl (by decide) rfl ⟨rfl, rfl⟩ rfl rfl g31 rfl (by omega) (fun h34 g34 w34 u34 => ?_)
    have F35 := F32.then rfl u34
    refine wi_aload_n (i := 1) (x := 75) (nx := 148) (r1 := 0) (r2 := 0) (r3 := 0) rfl rfl ?_
    refine wr_gr (k0 := 75) (x := 85) (nx := 151) (r1 := 4) (r2 := 14) (r3 := 0) rfl rfl (by decide) rfl ⟨rfl, rfl⟩ rfl ?_
    refine wi_iconst (n := 0) (nx := 152) (r1 := 0) (r2 := 0) (r3 := 0) rfl ?_
    refine wi_aload_n (i := 0) (x := 18) (nx := 153) (r1 := 0) (r2 := 0) (r3 := 0) rfl rfl ?_
    refine wr_gr (k0 := 18) (x := 28) (nx := 156) (r1 := 4) (r2 := 14) (r3 := 0) rfl rfl (by decide) rfl ⟨rfl, rfl⟩ rfl ?_
    refine wi_iconst (n := 0) (nx := 157) (r1 := 0) (r2 := 0) (r3 := 0) rfl ?_
    refine wi_aload_n (i := 0) (x := 18) (nx := 158) (r1 := 0) (r2 := 0) (r3 := 0) rfl rfl ?_
    refine wr_gr (k0 := 18) (x := 28) (nx := 161) (r1 := 4) (r2 := 14) (r3 := 0) rfl rfl (by decide) rfl ⟨rfl, rfl⟩ rfl ?_
    refine wr_al (k0 := 28) (e := 144) (nx := 162) (r1 := 0) (r2 := 0) (r3 := 0) rfl (by decide) rfl rfl ?_
    refine wr_cpy (s0 := 85) (d0 := 28) (n0 := 144) (n1 := 144) (sp := 0) (dp := 0) (n := 144) (sl := -2147483648) (sh := 2147483647) (dl := -2147483648) (dh := 2147483647) (nx := 165) (r1 := 0) (r2 := 101) (r3 := 0) rfl rfl (of_decide_eq_true rfl) (by decide) (by decide) rfl rfl (by omega) (fun _ => rfl) (fun _ => rfl) (by omega) g34 (fun h36 g36 y36 u36 => ?_)
    have F37 := F35.then rfl u36
    refine wi_aload_n (i := 0) (x := 18) (nx := 166) (r1 := 0) (r2 := 0) (r3 := 0) rfl rfl ?_
    refine wi_aload_n (i := 1) (x := 75) (nx := 167) (r1 := 0) (r2 := 0) (r3 := 0) rfl rfl ?_
    have b38 := gi_b (lo := 0) (hi := 36) g 75 15 rfl
    refine wr_gi0 (k0 := 75) (x := h 75 15) (nx := 170) (r1 := 4) (r2 := 15) (r3 := 0) rfl rfl (by decide) rfl ⟨rfl, rfl⟩ rfl ((u36 75 15 rfl).trans ((u34 75 15 rfl).trans ((u31 75 15 rfl).trans ((u28 75 15 rfl).trans ((u25 75 15 rfl).trans ((u22 75 15 rfl).trans ((u19 75 15 rfl).trans ((u16 75 15 rfl).trans ((u13 75 15 rfl).trans ((u11 75 15 rfl).trans ((u9 75 15 rfl).trans ((u6 75 15 rfl).trans ((u3 75 15 rfl).trans (u1 75 15 rfl)))))))))))))) ?_
    refine wr_pf0 (k0 := 18) (x := h 75 15) (bl := 0) (bh := 36) (nx := 173) (r1 := 4) (r2 := 15) (r3 := 0) rfl (by decide) rfl ⟨rfl, rfl⟩ rfl rfl g36 rfl (by omega) (fun h39 g39 w39 u39 => ?_)
    have F40 := F37.then rfl u39
    refine wi_aload_n (i := 0) (x := 18) (nx := 174) (r1 := 0) (r2 := 0) (r3 := 0) rfl rfl ?_
    refine wi_dup (nx := 175) (r1 := 0) (r2 := 0) (r3 := 0) rfl rfl ?_
    have b41 := gi_b (lo := -2147483648) (hi := 2147483647) g 18 16 rfl
    refine wr_gi0 (k0 := 18) (x := h 18 16) (nx := 178) (r1 := 4) (r2 := 16) (r3 := 0) rfl rfl (by decide) rfl ⟨rfl, rfl⟩ rfl ((u39 18 16 rfl).trans ((u36 18 16 rfl).trans ((u34 18 16 rfl).trans ((u31 18 16 rfl).trans ((u28 18 16 rfl).trans ((u25 18 16 rfl).trans ((u22 18 16 rfl).trans ((u19 18 16 rfl).trans ((u16 18 16 rfl).trans ((u13 18 16 rfl).trans ((u11 18 16 rfl).trans ((u9 18 16 rfl).trans ((u6 18 16 rfl).trans ((u3 18 16 rfl).trans (u1 18 16 rfl))))))))))))))) ?_
    refine wi_iconst (n := 1) (nx := 179) (r1 := 0) (r2 := 0) (r3 := 0) rfl ?_
    refine wr_addW (nx := 180) (r1 := 0) (r2 := 0) (r3 := 0) rfl (fun e42 (fe42 : -2147483648 ≤ e42 ∧ e42 ≤ 2147483647) => ?_)
    refine wr_pf0 (k0 := 18) (x := e42) (bl := -2147483648) (bh := 2147483647) (nx := 183) (r1 := 4) (r2 := 16) (r3 := 0) rfl (by decide) rfl ⟨rfl, rfl⟩ rfl rfl g39 rfl (by omega) (fun h43 g43 w43 u43 => ?_)
    have F44 := F40.then rfl u43
    refine wi_return (nx := 184) (r1 := 0) (r2 := 0) (r3 := 0) rfl rfl ?_
    exact k h43 g43 F44
  ·
    refine wi_aload_n (i := 0) (x := 18) (nx := 38) (r1 := 0) (r2 := 0) (r3 := 0) rfl rfl ?_
    refine wr_gr (k0 := 18) (x := 21) (nx := 41) (r1 := 4) (r2 := 3) (r3 := 0) rfl rfl (by decide) rfl ⟨rfl, rfl⟩ rfl ?_
    refine wi_iload_n (i := 2) (e := x5) (nx := 42) (r1 := 0) (r2 := 0) (r3 := 0) rfl rfl ?_
    obtain ⟨i9, ei9⟩ : ∃ q : Nat, x5 = (q : Int) := ⟨(x5).toNat, by omega⟩
    refine wr_aa (k0 := 21) (a := x5) (f := i9) (x := 21 + 8 + 2 * i9) (nx := 43) (r1 := 0) (r2 := 0) (r3 := 0) rfl (by decide) rfl (Or.inl rfl) (by omega) (by omega) (by decide) (hcr.1 21 (by decide) i9 (by omega)) ?_
    obtain ⟨k10, kk10, mk10⟩ : ∃ q, Rw q ∧ q = 21 + 8 + 2 * i9 := ⟨_, rw_lane 21 (by decide) i9 (by omega), rfl⟩
    rw [← mk10]
    refine wi_aload_n (i := 1) (x := 75) (nx := 44) (r1 := 0) (r2 := 0) (r3 := 0) rfl rfl ?_
    refine wr_gr (k0 := 75) (x := 78) (nx := 47) (r1 := 4) (r2 := 3) (r3 := 0) rfl rfl (by decide) rfl ⟨rfl, rfl⟩ rfl ?_
    refine wi_iload_n (i := 2) (e := x5) (nx := 48) (r1 := 0) (r2 := 0) (r3 := 0) rfl rfl ?_
    refine wr_aa (k0 := 78) (a := x5) (f := i9) (x := 78 + 8 + 2 * i9) (nx := 49) (r1 := 0) (r2 := 0) (r3 := 0) rfl (by decide) rfl (Or.inl rfl) (by omega) (by omega) (by decide) (hcr.1 78 (by decide) i9 (by omega)) ?_
    obtain ⟨k11, kk11, mk11⟩ : ∃ q, Rw q ∧ q = 78 + 8 + 2 * i9 := ⟨_, rw_lane 78 (by decide) i9 (by omega), rfl⟩
    rw [← mk11]
    refine wr_V (k0 := k10) (rest := []) (as := [.ref k10, .ref k11]) (nx := 52) (r1 := 155) (r2 := 1) (r3 := 5) rfl rfl rfl (of_decide_eq_true rfl) rfl rfl kk10.k kk10.1 rfl (of_decide_eq_true rfl) (of_decide_eq_true rfl) ?_
    refine ct_155_R_R hcr kk10 kk11 g6    (fun h12 g12 u12 => ?_)
    have v12 := FR.rngp (lo := 29) (hi := 36) u12 (by omega)
    have F13 := F7.then rfl (FR.rngp (lo := 29) (hi := 36) u12 (by omega))
    have F14 := u6.then rfl (FR.rngp (lo := 29) (hi := 36) u12 (by omega))
    refine wk_n ?_
    refine wr_iinc (i := 2) (n := 1) (v := x5) (fun e15 => [(2, vi e15), (0, .ref 18), (1, .ref 75)]) (nx := 55) (r1 := 0) (r2 := 0) (r3 := 0) rfl rfl (fun _ => rfl) (fun e15 (fe15 : e15 = x5 + 1) => ?_)
    refine wi_goto (nx := 58) (r1 := 32) (r2 := 0) (r3 := 0) rfl ?_
    refine wp.lo (lo := [(0, .ref 18), (1, .ref 75), (2, vi e15)]) ⟨rfl, rfl, rfl, trivial⟩ rfl ?_
    exact I6 e15 h12 ⟨g12, F13, F14, (show (0 ≤ e15 ∧ e15 ≤ 4) by omega)⟩ (show ((4 : Int) + 1 - e15).toNat < ((4 : Int) + 1 - x5).toNat by omega)
-- method 132: Line.copyFrom(LPaintBank$Line;)V
set_option maxRecDepth 100000 in
set_option maxHeartbeats 100000000 in
theorem ct_132_18_94 {L : Nat} {xs : Nat → Int32} {d b c : Nat} {h : hp} {cr : Nat → Nat → Option Nat} {Q : hp_Q} (hcr : CR cr)  (g : GI h)    (k : ∀ (h2 : hp) , GI h2 → FR [(18, 36, none)] h h2 → Q (.inl none) (hp_w h2 cr) b c) : wp (md_xa (L, xs)) (d + 1) 132 (0, [(0, .ref 18), (1, .ref 94)], [], hp_w h cr, b, c) Q := by
  have F0 : FR [(18, 36, none)] h h := FR.refl
  refine wi_aload_n (i := 1) (x := 94) (nx := 1) (r1 := 0) (r2 := 0) (r3 := 0) rfl rfl ?_
  refine wr_gr (k0 := 94) (x := 95) (nx := 4) (r1 := 4) (r2 := 1) (r3 := 0) rfl rfl (by decide) rfl ⟨rfl, rfl⟩ rfl ?_
  refine wi_iconst (n := 0) (nx := 5) (r1 := 0) (r2 := 0) (r3 := 0) rfl ?_
  refine wi_aload_n (i := 0) (x := 18) (nx := 6) (r1 := 0) (r2 := 0) (r3 := 0) rfl rfl ?_
  refine wr_gr (k0 := 18) (x := 19) (nx := 9) (r1 := 4) (r2 := 1) (r3 := 0) rfl rfl (by decide) rfl ⟨rfl, rfl⟩ rfl ?_
  refine wi_iconst (n := 0) (nx := 10) (r1 := 0) (r2 := 0) (r3 := 0) rfl ?_
  refine wi_bipush (n := 12) (nx := 12) (r1 := 0) (r2 := 0) (r3 := 0) rfl (by decide) ?_
  refine wr_cpy (s0 := 95) (d0 := 19) (n0 := 12) (n1 := 12) (sp := 0) (dp := 0) (n := 12) (sl := -2147483648) (sh := 2147483647) (dl := -2147483648) (dh := 2147483647) (nx := 15) (r1 := 0) (r2 := 101) (r3 := 0) rfl rfl (of_decide_eq_true rfl) (by decide) (by decide) rfl rfl (by omega) (fun _ => rfl) (fun _ => rfl) (by omega) g (fun h1 g1 y1 u1 => ?_)
  have F2 := F0.then rfl u1
  refine wi_aload_n (i := 1) (x := 94) (nx := 16) (r1 := 0) (r2 := 0) (r3 := 0) rfl rfl ?_
  refine wr_gr (k0 := 94) (x := 96) (nx := 19) (r1 := 4) (r2 := 2) (r3 := 0) rfl rfl (by decide) rfl ⟨rfl, rfl⟩ rfl ?_
  refine wi_iconst (n := 0) (nx := 20) (r1 := 0) (r2 := 0) (r3 := 0) rfl ?_
  refine wi_aload_n (i := 0) (x := 18) (nx := 21) (r1 := 0) (r2 := 0) (r3 := 0) rfl rfl ?_
  refine wr_gr (k0 := 18) (x := 20) (nx := 24) (r1 := 4) (r2 := 2) (r3 := 0) rfl rfl (by decide) rfl ⟨rfl, rfl⟩ rfl ?_
  refine wi_iconst (n := 0) (nx := 25) (r1 := 0) (r2 := 0) (r3 := 0) rfl ?_
  refine wi_bipush (n := 12) (nx := 27) (r1 := 0) (r2 := 0) (r3 := 0) rfl (by decide) ?_
  refine wr_cpy (s0 := 96) (d0 := 20) (n0 := 12) (n1 := 12) (sp := 0) (dp := 0) (n := 12) (sl := -2147483648) (sh := 2147483647) (dl := -2147483648) (dh := 2147483647) (nx := 30) (r1 := 0) (r2 := 101) (r3 := 0) rfl rfl (of_decide_eq_true rfl) (by decide) (by decide) rfl rfl (by omega) (fun _ => rfl) (fun _ => rfl) (by omega) g1 (fun h3 g3 y3 u3 => ?_)
  have F4 := F2.then rfl u3
  refine wi_iconst (n := 0) (nx := 31) (r1 := 0) (r2 := 0) (r3 := 0) rfl ?_
  refine wi_istore_n (i := 2) (e := 0) (lo2 := [(2, vi 0), (0, .ref 18), (1, .ref 94)]) (nx := 32) (r1 := 0) (r2 := 0) (r3 := 0) rfl rfl ?_
  refine wp.lo (lo := [(0, .ref 18), (1, .ref 94), (2, vi 0)]) ⟨rfl, rfl, rfl, trivial⟩ rfl ?_
  refine wl_1 (fun x5 h6 => GI h6 ∧ FR [(18, 36, none)] h h6 ∧ FR [(29, 36, none)] h3 h6 ∧ ((0 ≤ x5 ∧ x5 ≤ 4))) (fun x5 h6 => ((4 : Int) + 1 - x5).toNat) (fun x5 h6 => (32, [(0, .ref 18), (1, .ref 94), (2, vi x5)], [], hp_w h6 cr, b, c)) ?_ 0 h3 ⟨g3, F4, FR.refl, (show (0 ≤ 0 ∧ 0 ≤ 4) by omega)⟩
  intro x5 h6 ⟨g6, F7, u6, f6⟩ I6
  refine wi_iload_n (i := 2) (e := x5) (nx := 33) (r1 := 0) (r2 := 0) (r3 := 0) rfl rfl ?_
  refine wi_iconst (n := 4) (nx := 34) (r1 := 0) (r2 := 0) (r3 := 0) rfl ?_
  refine wi_icmp (cd := .ge) (nx := 37) (r1 := 58) (r2 := 0) (r3 := 0) rfl (by omega) (by omega) (fun (q8 : 4 ≤ x5) => ?_) (fun (q8 : ¬ (4 ≤ x5)) => ?_)
  ·
    refine wi_aload_n (i := 0) (x := 18) (nx := 59) (r1 := 0) (r2 := 0) (r3 := 0) rfl rfl ?_
    refine wr_gr (k0 := 18) (x := 22) (nx := 62) (r1 := 4) (r2 := 4) (r3 := 0) rfl rfl (by decide) rfl ⟨rfl, rfl⟩ rfl ?_
    refine wi_aload_n (i := 1) (x := 94) (nx := 63) (r1 := 0) (r2 := 0) (r3 := 0) rfl rfl ?_
    refine wr_gr (k0 := 94) (x := 98) (nx := 66) (r1 := 4) (r2 := 4) (r3 := 0) rfl rfl (by decide) rfl ⟨rfl, rfl⟩ rfl ?_
    refine wr_V (k0 := 22) (rest := []) (as := [.ref 22, .ref 98]) (nx := 69) (r1 := 155) (r2 := 1) (r3 := 5) rfl rfl rfl (of_decide_eq_true rfl) rfl rfl (by decide) rfl rfl (of_decide_eq_true rfl) (of_decide_eq_true rfl) ?_
    refine ct_155_R_R hcr rw_22 rw_98 g6    (fun h9 g9 u9 => ?_)
    have F10 := F7.then rfl u9
    refine wk_n ?_
    refine wi_aload_n (i := 0) (x := 18) (nx := 70) (r1 := 0) (r2 := 0) (r3 := 0) rfl rfl ?_
    refine wr_gr (k0 := 18) (x := 24) (nx := 73) (r1 := 4) (r2 := 5) (r3 := 0) rfl rfl (by decide) rfl ⟨rfl, rfl⟩ rfl ?_
    refine wi_aload_n (i := 1) (x := 94) (nx := 74) (r1 := 0) (r2 := 0) (r3 := 0) rfl rfl ?_
    refine wr_gr (k0 := 94) (x := 100) (nx := 77) (r1 := 4) (r2 := 5) (r3 := 0) rfl rfl (by decide) rfl ⟨rfl, rfl⟩ rfl ?_
    refine wr_V (k0 := 24) (rest := []) (as := [.ref 24, .ref 100]) (nx := 80) (r1 := 155) (r2 := 1) (r3 := 5) rfl rfl rfl (of_decide_eq_true rfl) rfl rfl (by decide) rfl rfl (of_decide_eq_true rfl) (of_decide_eq_true rfl) ?_
    refine ct_155_R_R hcr rw_24 rw_100 g9    (fun h11 g11 u11 => ?_)
    have F12 := F10.then rfl u11
    refine wk_n ?_
    refine wi_aload_n (i := 0) (x := 18) (nx := 81) (r1 := 0) (r2 := 0) (r3 := 0) rfl rfl ?_
    refine wr_gr (k0 := 18) (x := 26) (nx := 84) (r1 := 4) (r2 := 6) (r3 := 0) rfl rfl (by decide) rfl ⟨rfl, rfl⟩ rfl ?_
    refine wi_aload_n (i := 1) (x := 94) (nx := 85) (r1 := 0) (r2 := 0) (r3 := 0) rfl rfl ?_
    refine wr_gr (k0 := 94) (x := 102) (nx := 88) (r1 := 4) (r2 := 6) (r3 := 0) rfl rfl (by decide) rfl ⟨rfl, rfl⟩ rfl ?_
    refine wr_V (k0 := 26) (rest := []) (as := [.ref 26, .ref 102]) (nx := 91) (r1 := 155) (r2 := 1) (r3 := 5) rfl rfl rfl (of_decide_eq_true rfl) rfl rfl (by decide) rfl rfl (of_decide_eq_true rfl) (of_decide_eq_true rfl) ?_
    refine ct_155_R_R hcr rw_26 rw_102 g11    (fun h13 g13 u13 => ?_)
    have F14 := F12.then rfl u13
    refine wk_n ?_
    refine wi_aload_n (i := 0) (x := 18) (nx := 92) (r1 := 0) (r2 := 0) (r3 := 0) rfl rfl ?_
    refine wi_aload_n (i := 1) (x := 94) (nx := 93) (r1 := 0) (r2 := 0) (r3 := 0) rfl rfl ?_
    have b15 := gi_b (lo := 0) (hi := 12) g 94 7 rfl
    refine wr_gi0 (k0 := 94) (x := h 94 7) (nx := 96) (r1 := 4) (r2 := 7) (r3 := 0) rfl rfl (by decide) rfl ⟨rfl, rfl⟩ rfl ((u13 94 7 rfl).trans ((u11 94 7 rfl).trans ((u9 94 7 rfl).trans ((u6 94 7 rfl).trans ((u3 94 7 rfl).trans (u1 94 7 rfl)))))) ?_
    refine wr_pf0 (k0 := 18) (x := h 94 7) (bl := 0) (bh := 12) (nx := 99) (r1 := 4) (r2 := 7) (r3 := 0) rfl (by decide) rfl ⟨rfl, rfl⟩ rfl rfl g13 rfl (by omega) (fun h16 g16 w16 u16 => ?_)
    have F17 := F14.then rfl u16
    refine wi_aload_n (i := 0) (x := 18) (nx := 100) (r1 := 0) (r2 := 0) (r3 := 0) rfl rfl ?_
    refine wi_aload_n (i := 1) (x := 94) (nx := 101) (r1 := 0) (r2 := 0) (r3 := 0) rfl rfl ?_
    have b18 := gi_b (lo := -2147483648) (hi := 2147483647) g 94 8 rfl
    refine wr_gi0 (k0 := 94) (x := h 94 8) (nx := 104) (r1 := 4) (r2 := 8) (r3 := 0) rfl rfl (by decide) rfl ⟨rfl, rfl⟩ rfl ((u16 94 8 rfl).trans ((u13 94 8 rfl).trans ((u11 94 8 rfl).trans ((u9 94 8 rfl).trans ((u6 94 8 rfl).trans ((u3 94 8 rfl).trans (u1 94 8 rfl))))))) ?_
    refine wr_pf0 (k0 := 18) (x := h 94 8) (bl := -2147483648) (bh := 2147483647) (nx := 107) (r1 := 4) (r2 := 8) (r3 := 0) rfl (by decide) rfl ⟨rfl, rfl⟩ rfl rfl g16 rfl (by omega) (fun h19 g19 w19 u19 => ?_)
    have F20 := F17.then rfl u19
    refine wi_aload_n (i := 0) (x := 18) (nx := 108) (r1 := 0) (r2 := 0) (r3 := 0) rfl rfl ?_
    refine wi_aload_n (i := 1) (x := 94) (nx := 109) (r1 := 0) (r2 := 0) (r3 := 0) rfl rfl ?_
    have b21 := gi_b (lo := -2147483648) (hi := 2147483647) g 94 9 rfl
    refine wr_gi0 (k0 := 94) (x := h 94 9) (nx := 112) (r1 := 4) (r2 := 9) (r3 := 0) rfl rfl (by decide) rfl ⟨rfl, rfl⟩ rfl ((u19 94 9 rfl).trans ((u16 94 9 rfl).trans ((u13 94 9 rfl).trans ((u11 94 9 rfl).trans ((u9 94 9 rfl).trans ((u6 94 9 rfl).trans ((u3 94 9 rfl).trans (u1 94 9 rfl)))))))) ?_
    refine wr_pf0 (k0 := 18) (x := h 94 9) (bl := -2147483648) (bh := 2147483647) (nx := 115) (r1 := 4) (r2 := 9) (r3 := 0) rfl (by decide) rfl ⟨rfl, rfl⟩ rfl rfl g19 rfl (by omega) (fun h22 g22 w22 u22 => ?_)
    have F23 := F20.then rfl u22
    refine wi_aload_n (i := 0) (x := 18) (nx := 116) (r1 := 0) (r2 := 0) (r3 := 0) rfl rfl ?_
    refine wi_aload_n (i := 1) (x := 94) (nx := 117) (r1 := 0) (r2 := 0) (r3 := 0) rfl rfl ?_
    have b24 := gi_b (lo := -2147483648) (hi := 2147483647) g 94 10 rfl
    refine wr_gi0 (k0 := 94) (x := h 94 10) (nx := 120) (r1 := 4) (r2 := 10) (r3 := 0) rfl rfl (by decide) rfl ⟨rfl, rfl⟩ rfl ((u22 94 10 rfl).trans ((u19 94 10 rfl).trans ((u16 94 10 rfl).trans ((u13 94 10 rfl).trans ((u11 94 10 rfl).trans ((u9 94 10 rfl).trans ((u6 94 10 rfl).trans ((u3 94 10 rfl).trans (u1 94 10 rfl))))))))) ?_
    refine wr_pf0 (k0 := 18) (x := h 94 10) (bl := -2147483648) (bh := 2147483647) (nx := 123) (r1 := 4) (r2 := 10) (r3 := 0) rfl (by decide) rfl ⟨rfl, rfl⟩ rfl rfl g22 rfl (by omega) (fun h25 g25 w25 u25 => ?_)
    have F26 := F23.then rfl u25
    refine wi_aload_n (i := 0) (x := 18) (nx := 124) (r1 := 0) (r2 := 0) (r3 := 0) rfl rfl ?_
    refine wi_aload_n (i := 1) (x := 94) (nx := 125) (r1 := 0) (r2 := 0) (r3 := 0) rfl rfl ?_
    have b27 := gi_b (lo := -2147483648) (hi := 2147483647) g 94 11 rfl
    refine wr_gi0 (k0 := 94) (x := h 94 11) (nx := 128) (r1 := 4) (r2 := 11) (r3 := 0) rfl rfl (by decide) rfl ⟨rfl, rfl⟩ rfl ((u25 94 11 rfl).trans ((u22 94 11 rfl).trans ((u19 94 11 rfl).trans ((u16 94 11 rfl).trans ((u13 94 11 rfl).trans ((u11 94 11 rfl).trans ((u9 94 11 rfl).trans ((u6 94 11 rfl).trans ((u3 94 11 rfl).trans (u1 94 11 rfl)))))))))) ?_
    refine wr_pf0 (k0 := 18) (x := h 94 11) (bl := -2147483648) (bh := 2147483647) (nx := 131) (r1 := 4) (r2 := 11) (r3 := 0) rfl (by decide) rfl ⟨rfl, rfl⟩ rfl rfl g25 rfl (by omega) (fun h28 g28 w28 u28 => ?_)
    have F29 := F26.then rfl u28
    refine wi_aload_n (i := 0) (x := 18) (nx := 132) (r1 := 0) (r2 := 0) (r3 := 0) rfl rfl ?_
    refine wi_aload_n (i := 1) (x := 94) (nx := 133) (r1 := 0) (r2 := 0) (r3 := 0) rfl rfl ?_
    have b30 := gi_b (lo := -2147483648) (hi := 2147483647) g 94 12 rfl
    refine wr_gi0 (k0 := 94) (x := h 94 12) (nx := 136) (r1 := 4) (r2 := 12) (r3 := 0) rfl rfl (by decide) rfl ⟨rfl, rfl⟩ rfl ((u28 94 12 rfl).trans ((u25 94 12 rfl).trans ((u22 94 12 rfl).trans ((u19 94 12 rfl).trans ((u16 94 12 rfl).trans ((u13 94 12 rfl).trans ((u11 94 12 rfl).trans ((u9 94 12 rfl).trans ((u6 94 12 rfl).trans ((u3 94 12 rfl).trans (u1 94 12 rfl))))))))))) ?_
    refine wr_pf0 (k0 := 18) (x := h 94 12) (bl := -2147483648) (bh := 2147483647) (nx := 139) (r1 := 4) (r2 := 12) (r3 := 0) rfl (by decide) rfl ⟨rfl, rfl⟩ rfl rfl g28 rfl (by omega) (fun h31 g31 w31 u31 => ?_)
    have F32 := F29.then rfl u31
    refine wi_aload_n (i := 0) (x := 18) (nx := 140) (r1 := 0) (r2 := 0) (r3 := 0) rfl rfl ?_
    refine wi_aload_n (i := 1) (x := 94) (nx := 141) (r1 := 0) (r2 := 0) (r3 := 0) rfl rfl ?_
    have b33 := gi_b (lo := -2147483648) (hi := 2147483647) g 94 13 rfl
    refine wr_gi0 (k0 := 94) (x := h 94 13) (nx := 144) (r1 := 4) (r2 := 13) (r3 := 0) rfl rfl (by decide) rfl ⟨rfl, rfl⟩ rfl ((u31 94 13 rfl).trans ((u28 94 13 rfl).trans ((u25 94 13 rfl).trans ((u22 94 13 rfl).trans ((u19 94 13 rfl).trans ((u16 94 13 rfl).trans ((u13 94 13 rfl).trans ((u11 94 13 rfl).trans ((u9 94 13 rfl).trans ((u6 94 13 rfl).trans ((u3 94 13 rfl).trans (u1 94 13 rfl)))))))))))) ?_
    refine wr_pf0 (k0 := 18) (x := h 94 13) (bl := -2147483648) (bh := 2147483647) (nx := 147) (r1 := 4) (r2 := 13) (r3 := 0) rfl (by decide) rfl ⟨rfl, rfl⟩ rfl rfl g31 rfl (by omega) (fun h34 g34 w34 u34 => ?_)
    have F35 := F32.then rfl u34
    refine wi_aload_n (i := 1) (x := 94) (nx := 148) (r1 := 0) (r2 := 0) (r3 := 0) rfl rfl ?_
    refine wr_gr (k0 := 94) (x := 104) (nx := 151) (r1 := 4) (r2 := 14) (r3 := 0) rfl rfl (by decide) rfl ⟨rfl, rfl⟩ rfl ?_
    refine wi_iconst (n := 0) (nx := 152) (r1 := 0) (r2 := 0) (r3 := 0) rfl ?_
    refine wi_aload_n (i := 0) (x := 18) (nx := 153) (r1 := 0) (r2 := 0) (r3 := 0) rfl rfl ?_
    refine wr_gr (k0 := 18) (x := 28) (nx := 156) (r1 := 4) (r2 := 14) (r3 := 0) rfl rfl (by decide) rfl ⟨rfl, rfl⟩ rfl ?_
    refine wi_iconst (n := 0) (nx := 157) (r1 := 0) (r2 := 0) (r3 := 0) rfl ?_
    refine wi_aload_n (i := 0) (x := 18) (nx := 158) (r1 := 0) (r2 := 0) (r3 := 0) rfl rfl ?_
    refine wr_gr (k0 := 18) (x := 28) (nx := 161) (r1 := 4) (r2 := 14) (r3 := 0) rfl rfl (by decide) rfl ⟨rfl, rfl⟩ rfl ?_
    refine wr_al (k0 := 28) (e := 144) (nx := 162) (r1 := 0) (r2 := 0) (r3 := 0) rfl (by decide) rfl rfl ?_
    refine wr_cpy (s0 := 104) (d0 := 28) (n0 := 144) (n1 := 144) (sp := 0) (dp := 0) (n := 144) (sl := -2147483648) (sh := 2147483647) (dl := -2147483648) (dh := 2147483647) (nx := 165) (r1 := 0) (r2 := 101) (r3 := 0) rfl rfl (of_decide_eq_true rfl) (by decide) (by decide) rfl rfl (by omega) (fun _ => rfl) (fun _ => rfl) (by omega) g34 (fun h36 g36 y36 u36 => ?_)
    have F37 := F35.then rfl u36
    refine wi_aload_n (i := 0) (x := 18) (nx := 166) (r1 := 0) (r2 := 0) (r3 := 0) rfl rfl ?_
    refine wi_aload_n (i := 1) (x := 94) (nx := 167) (r1 := 0) (r2 := 0) (r3 := 0) rfl rfl ?_
    have b38 := gi_b (lo := 0) (hi := 36) g 94 15 rfl
    refine wr_gi0 (k0 := 94) (x := h 94 15) (nx := 170) (r1 := 4) (r2 := 15) (r3 := 0) rfl rfl (by decide) rfl ⟨rfl, rfl⟩ rfl ((u36 94 15 rfl).trans ((u34 94 15 rfl).trans ((u31 94 15 rfl).trans ((u28 94 15 rfl).trans ((u25 94 15 rfl).trans ((u22 94 15 rfl).trans ((u19 94 15 rfl).trans ((u16 94 15 rfl).trans ((u13 94 15 rfl).trans ((u11 94 15 rfl).trans ((u9 94 15 rfl).trans ((u6 94 15 rfl).trans ((u3 94 15 rfl).trans (u1 94 15 rfl)))))))))))))) ?_
    refine wr_pf0 (k0 := 18) (x := h 94 15) (bl := 0) (bh := 36) (nx := 173) (r1 := 4) (r2 := 15) (r3 := 0) rfl (by decide) rfl ⟨rfl, rfl⟩ rfl rfl g36 rfl (by omega) (fun h39 g39 w39 u39 => ?_)
    have F40 := F37.then rfl u39
    refine wi_aload_n (i := 0) (x := 18) (nx := 174) (r1 := 0) (r2 := 0) (r3 := 0) rfl rfl ?_
    refine wi_dup (nx := 175) (r1 := 0) (r2 := 0) (r3 := 0) rfl rfl ?_
    have b41 := gi_b (lo := -2147483648) (hi := 2147483647) g 18 16 rfl
    refine wr_gi0 (k0 := 18) (x := h 18 16) (nx := 178) (r1 := 4) (r2 := 16) (r3 := 0) rfl rfl (by decide) rfl ⟨rfl, rfl⟩ rfl ((u39 18 16 rfl).trans ((u36 18 16 rfl).trans ((u34 18 16 rfl).trans ((u31 18 16 rfl).trans ((u28 18 16 rfl).trans ((u25 18 16 rfl).trans ((u22 18 16 rfl).trans ((u19 18 16 rfl).trans ((u16 18 16 rfl).trans ((u13 18 16 rfl).trans ((u11 18 16 rfl).trans ((u9 18 16 rfl).trans ((u6 18 16 rfl).trans ((u3 18 16 rfl).trans (u1 18 16 rfl))))))))))))))) ?_
    refine wi_iconst (n := 1) (nx := 179) (r1 := 0) (r2 := 0) (r3 := 0) rfl ?_
    refine wr_addW (nx := 180) (r1 := 0) (r2 := 0) (r3 := 0) rfl (fun e42 (fe42 : -2147483648 ≤ e42 ∧ e42 ≤ 2147483647) => ?_)
    refine wr_pf0 (k0 := 18) (x := e42) (bl := -2147483648) (bh := 2147483647) (nx := 183) (r1 := 4) (r2 := 16) (r3 := 0) rfl (by decide) rfl ⟨rfl, rfl⟩ rfl rfl g39 rfl (by omega) (fun h43 g43 w43 u43 => ?_)
    have F44 := F40.then rfl u43
    refine wi_return (nx := 184) (r1 := 0) (r2 := 0) (r3 := 0) rfl rfl ?_
    exact k h43 g43 F44
  ·
    refine wi_aload_n (i := 0) (x := 18) (nx := 38) (r1 := 0) (r2 := 0) (r3 := 0) rfl rfl ?_
    refine wr_gr (k0 := 18) (x := 21) (nx := 41) (r1 := 4) (r2 := 3) (r3 := 0) rfl rfl (by decide) rfl ⟨rfl, rfl⟩ rfl ?_
    refine wi_iload_n (i := 2) (e := x5) (nx := 42) (r1 := 0) (r2 := 0) (r3 := 0) rfl rfl ?_
    obtain ⟨i9, ei9⟩ : ∃ q : Nat, x5 = (q : Int) := ⟨(x5).toNat, by omega⟩
    refine wr_aa (k0 := 21) (a := x5) (f := i9) (x := 21 + 8 + 2 * i9) (nx := 43) (r1 := 0) (r2 := 0) (r3 := 0) rfl (by decide) rfl (Or.inl rfl) (by omega) (by omega) (by decide) (hcr.1 21 (by decide) i9 (by omega)) ?_
    obtain ⟨k10, kk10, mk10⟩ : ∃ q, Rw q ∧ q = 21 + 8 + 2 * i9 := ⟨_, rw_lane 21 (by decide) i9 (by omega), rfl⟩
    rw [← mk10]
    refine wi_aload_n (i := 1) (x := 94) (nx := 44) (r1 := 0) (r2 := 0) (r3 := 0) rfl rfl ?_
    refine wr_gr (k0 := 94) (x := 97) (nx := 47) (r1 := 4) (r2 := 3) (r3 := 0) rfl rfl (by decide) rfl ⟨rfl, rfl⟩ rfl ?_
    refine wi_iload_n (i := 2) (e := x5) (nx := 48) (r1 := 0) (r2 := 0) (r3 := 0) rfl rfl ?_
    refine wr_aa (k0 := 97) (a := x5) (f := i9) (x := 97 + 8 + 2 * i9) (nx := 49) (r1 := 0) (r2 := 0) (r3 := 0) rfl (by decide) rfl (Or.inl rfl) (by omega) (by omega) (by decide) (hcr.1 97 (by decide) i9 (by omega)) ?_
    obtain ⟨k11, kk11, mk11⟩ : ∃ q, Rw q ∧ q = 97 + 8 + 2 * i9 := ⟨_, rw_lane 97 (by decide) i9 (by omega), rfl⟩
    rw [← mk11]
    refine wr_V (k0 := k10) (rest := []) (as := [.ref k10, .ref k11]) (nx := 52) (r1 := 155) (r2 := 1) (r3 := 5) rfl rfl rfl (of_decide_eq_true rfl) rfl rfl kk10.k kk10.1 rfl (of_decide_eq_true rfl) (of_decide_eq_true rfl) ?_
    refine ct_155_R_R hcr kk10 kk11 g6    (fun h12 g12 u12 => ?_)
    have v12 := FR.rngp (lo := 29) (hi := 36) u12 (by omega)
    have F13 := F7.then rfl (FR.rngp (lo := 29) (hi := 36) u12 (by omega))
    have F14 := u6.then rfl (FR.rngp (lo := 29) (hi := 36) u12 (by omega))
    refine wk_n ?_
    refine wr_iinc (i := 2) (n := 1) (v := x5) (fun e15 => [(2, vi e15), (0, .ref 18), (1, .ref 94)]) (nx := 55) (r1 := 0) (r2 := 0) (r3 := 0) rfl rfl (fun _ => rfl) (fun e15 (fe15 : e15 = x5 + 1) => ?_)
    refine wi_goto (nx := 58) (r1 := 32) (r2 := 0) (r3 := 0) rfl ?_
    refine wp.lo (lo := [(0, .ref 18), (1, .ref 94), (2, vi e15)]) ⟨rfl, rfl, rfl, trivial⟩ rfl ?_
    exact I6 e15 h12 ⟨g12, F13, F14, (show (0 ≤ e15 ∧ e15 ≤ 4) by omega)⟩ (show ((4 : Int) + 1 - e15).toNat < ((4 : Int) + 1 - x5).toNat by omega)
-- method 132: Line.copyFrom(LPaintBank$Line;)V
set_option maxRecDepth 100000 in
set_option maxHeartbeats 100000000 in
theorem ct_132_18_113 {L : Nat} {xs : Nat → Int32} {d b c : Nat} {h : hp} {cr : Nat → Nat → Option Nat} {Q : hp_Q} (hcr : CR cr)  (g : GI h)    (k : ∀ (h2 : hp) , GI h2 → FR [(18, 36, none)] h h2 → Q (.inl none) (hp_w h2 cr) b c) : wp (md_xa (L, xs)) (d + 1) 132 (0, [(0, .ref 18), (1, .ref 113)], [], hp_w h cr, b, c) Q := by
  have F0 : FR [(18, 36, none)] h h := FR.refl
  refine wi_aload_n (i := 1) (x := 113) (nx := 1) (r1 := 0) (r2 := 0) (r3 := 0) rfl rfl ?_
  refine wr_gr (k0 := 113) (x := 114) (nx := 4) (r1 := 4) (r2 := 1) (r3 := 0) rfl rfl (by decide) rfl ⟨rfl, rfl⟩ rfl ?_
  refine wi_iconst (n := 0) (nx := 5) (r1 := 0) (r2 := 0) (r3 := 0) rfl ?_
  refine wi_aload_n (i := 0) (x := 18) (nx := 6) (r1 := 0) (r2 := 0) (r3 := 0) rfl rfl ?_
  refine wr_gr (k0 := 18) (x := 19) (nx := 9) (r1 := 4) (r2 := 1) (r3 := 0) rfl rfl (by decide) rfl ⟨rfl, rfl⟩ rfl ?_
  refine wi_iconst (n := 0) (nx := 10) (r1 := 0) (r2 := 0) (r3 := 0) rfl ?_
  refine wi_bipush (n := 12) (nx := 12) (r1 := 0) (r2 := 0) (r3 := 0) rfl (by decide) ?_
  refine wr_cpy (s0 := 114) (d0 := 19) (n0 := 12) (n1 := 12) (sp := 0) (dp := 0) (n := 12) (sl := -2147483648) (sh := 2147483647) (dl := -2147483648) (dh := 2147483647) (nx := 15) (r1 := 0) (r2 := 101) (r3 := 0) rfl rfl (of_decide_eq_true rfl) (by decide) (by decide) rfl rfl (by omega) (fun _ => rfl) (fun _ => rfl) (by omega) g (fun h1 g1 y1 u1 => ?_)
  have F2 := F0.then rfl u1
  refine wi_aload_n (i := 1) (x := 113) (nx := 16) (r1 := 0) (r2 := 0) (r3 := 0) rfl rfl ?_
  refine wr_gr (k0 := 113) (x := 115) (nx := 19) (r1 := 4) (r2 := 2) (r3 := 0) rfl rfl (by decide) rfl ⟨rfl, rfl⟩ rfl ?_
  refine wi_iconst (n := 0) (nx := 20) (r1 := 0) (r2 := 0) (r3 := 0) rfl ?_
  refine wi_aload_n (i := 0) (x := 18) (nx := 21) (r1 := 0) (r2 := 0) (r3 := 0) rfl rfl ?_
  refine wr_gr (k0 := 18) (x := 20) (nx := 24) (r1 := 4) (r2 := 2) (r3 := 0) rfl rfl (by decide) rfl ⟨rfl, rfl⟩ rfl ?_
  refine wi_iconst (n := 0) (nx := 25) (r1 := 0) (r2 := 0) (r3 := 0) rfl ?_
  refine wi_bipush (n := 12) (nx := 27) (r1 := 0) (r2 := 0) (r3 := 0) rfl (by decide) ?_
  refine wr_cpy (s0 := 115) (d0 := 20) (n0 := 12) (n1 := 12) (sp := 0) (dp := 0) (n := 12) (sl := -2147483648) (sh := 2147483647) (dl := -2147483648) (dh := 2147483647) (nx := 30) (r1 := 0) (r2 := 101) (r3 := 0) rfl rfl (of_decide_eq_true rfl) (by decide) (by decide) rfl rfl (by omega) (fun _ => rfl) (fun _ => rfl) (by omega) g1 (fun h3 g3 y3 u3 => ?_)
  have F4 := F2.then rfl u3
  refine wi_iconst (n := 0) (nx := 31) (r1 := 0) (r2 := 0) (r3 := 0) rfl ?_
  refine wi_istore_n (i := 2) (e := 0) (lo2 := [(2, vi 0), (0, .ref 18), (1, .ref 113)]) (nx := 32) (r1 := 0) (r2 := 0) (r3 := 0) rfl rfl ?_
  refine wp.lo (lo := [(0, .ref 18), (1, .ref 113), (2, vi 0)]) ⟨rfl, rfl, rfl, trivial⟩ rfl ?_
  refine wl_1 (fun x5 h6 => GI h6 ∧ FR [(18, 36, none)] h h6 ∧ FR [(29, 36, none)] h3 h6 ∧ ((0 ≤ x5 ∧ x5 ≤ 4))) (fun x5 h6 => ((4 : Int) + 1 - x5).toNat) (fun x5 h6 => (32, [(0, .ref 18), (1, .ref 113), (2, vi x5)], [], hp_w h6 cr, b, c)) ?_ 0 h3 ⟨g3, F4, FR.refl, (show (0 ≤ 0 ∧ 0 ≤ 4) by omega)⟩
  intro x5 h6 ⟨g6, F7, u6, f6⟩ I6
  refine wi_iload_n (i := 2) (e := x5) (nx := 33) (r1 := 0) (r2 := 0) (r3 := 0) rfl rfl ?_
  refine wi_iconst (n := 4) (nx := 34) (r1 := 0) (r2 := 0) (r3 := 0) rfl ?_
  refine wi_icmp (cd := .ge) (nx := 37) (r1 := 58) (r2 := 0) (r3 := 0) rfl (by omega) (by omega) (fun (q8 : 4 ≤ x5) => ?_) (fun (q8 : ¬ (4 ≤ x5)) => ?_)
  ·
    refine wi_aload_n (i := 0) (x := 18) (nx := 59) (r1 := 0) (r2 := 0) (r3 := 0) rfl rfl ?_
    refine wr_gr (k0 := 18) (x := 22) (nx := 62) (r1 := 4) (r2 := 4) (r3 := 0) rfl rfl (by decide) rfl ⟨rfl, rfl⟩ rfl ?_
    refine wi_aload_n (i := 1) (x := 113) (nx := 63) (r1 := 0) (r2 := 0) (r3 := 0) rfl rfl ?_
    refine wr_gr (k0 := 113) (x := 117) (nx := 66) (r1 := 4) (r2 := 4) (r3 := 0) rfl rfl (by decide) rfl ⟨rfl, rfl⟩ rfl ?_
    refine wr_V (k0 := 22) (rest := []) (as := [.ref 22, .ref 117]) (nx := 69) (r1 := 155) (r2 := 1) (r3 := 5) rfl rfl rfl (of_decide_eq_true rfl) rfl rfl (by decide) rfl rfl (of_decide_eq_true rfl) (of_decide_eq_true rfl) ?_
    refine ct_155_R_R hcr rw_22 rw_117 g6    (fun h9 g9 u9 => ?_)
    have F10 := F7.then rfl u9
    refine wk_n ?_
    refine wi_aload_n (i := 0) (x := 18) (nx := 70) (r1 := 0) (r2 := 0) (r3 := 0) rfl rfl ?_
    refine wr_gr (k0 := 18) (x := 24) (nx := 73) (r1 := 4) (r2 := 5) (r3 := 0) rfl rfl (by decide) rfl ⟨rfl, rfl⟩ rfl ?_
    refine wi_aload_n (i := 1) (x := 113) (nx := 74) (r1 := 0) (r2 := 0) (r3 := 0) rfl rfl ?_
    refine wr_gr (k0 := 113) (x := 119) (nx := 77) (r1 := 4) (r2 := 5) (r3 := 0) rfl rfl (by decide) rfl ⟨rfl, rfl⟩ rfl ?_
    refine wr_V (k0 := 24) (rest := []) (as := [.ref 24, .ref 119]) (nx := 80) (r1 := 155) (r2 := 1) (r3 := 5) rfl rfl rfl (of_decide_eq_true rfl) rfl rfl (by decide) rfl rfl (of_decide_eq_true rfl) (of_decide_eq_true rfl) ?_
    refine ct_155_R_R hcr rw_24 rw_119 g9    (fun h11 g11 u11 => ?_)
    have F12 := F10.then rfl u11
    refine wk_n ?_
    refine wi_aload_n (i := 0) (x := 18) (nx := 81) (r1 := 0) (r2 := 0) (r3 := 0) rfl rfl ?_
    refine wr_gr (k0 := 18) (x := 26) (nx := 84) (r1 := 4) (r2 := 6) (r3 := 0) rfl rfl (by decide) rfl ⟨rfl, rfl⟩ rfl ?_
    refine wi_aload_n (i := 1) (x := 113) (nx := 85) (r1 := 0) (r2 := 0) (r3 := 0) rfl rfl ?_
    refine wr_gr (k0 := 113) (x := 121) (nx := 88) (r1 := 4) (r2 := 6) (r3 := 0) rfl rfl (by decide) rfl ⟨rfl, rfl⟩ rfl ?_
    refine wr_V (k0 := 26) (rest := []) (as := [.ref 26, .ref 121]) (nx := 91) (r1 := 155) (r2 := 1) (r3 := 5) rfl rfl rfl (of_decide_eq_true rfl) rfl rfl (by decide) rfl rfl (of_decide_eq_true rfl) (of_decide_eq_true rfl) ?_
    refine ct_155_R_R hcr rw_26 rw_121 g11    (fun h13 g13 u13 => ?_)
    have F14 := F12.then rfl u13
    refine wk_n ?_
    refine wi_aload_n (i := 0) (x := 18) (nx := 92) (r1 := 0) (r2 := 0) (r3 := 0) rfl rfl ?_
    refine wi_aload_n (i := 1) (x := 113) (nx := 93) (r1 := 0) (r2 := 0) (r3 := 0) rfl rfl ?_
    have b15 := gi_b (lo := 0) (hi := 12) g 113 7 rfl
    refine wr_gi0 (k0 := 113) (x := h 113 7) (nx := 96) (r1 := 4) (r2 := 7) (r3 := 0) rfl rfl (by decide) rfl ⟨rfl, rfl⟩ rfl ((u13 113 7 rfl).trans ((u11 113 7 rfl).trans ((u9 113 7 rfl).trans ((u6 113 7 rfl).trans ((u3 113 7 rfl).trans (u1 113 7 rfl)))))) ?_
    refine wr_pf0 (k0 := 18) (x := h 113 7) (bl := 0) (bh := 12) (nx := 99) (r1 := 4) (r2 := 7) (r3 := 0) rfl (by decide) rfl ⟨rfl, rfl⟩ rfl rfl g13 rfl (by omega) (fun h16 g16 w16 u16 => ?_)
    have F17 := F14.then rfl u16
    refine wi_aload_n (i := 0) (x := 18) (nx := 100) (r1 := 0) (r2 := 0) (r3 := 0) rfl rfl ?_
    refine wi_aload_n (i := 1) (x := 113) (nx := 101) (r1 := 0) (r2 := 0) (r3 := 0) rfl rfl ?_
    have b18 := gi_b (lo := -2147483648) (hi := 2147483647) g 113 8 rfl
    refine wr_gi0 (k0 := 113) (x := h 113 8) (nx := 104) (r1 := 4) (r2 := 8) (r3 := 0) rfl rfl (by decide) rfl ⟨rfl, rfl⟩ rfl ((u16 113 8 rfl).trans ((u13 113 8 rfl).trans ((u11 113 8 rfl).trans ((u9 113 8 rfl).trans ((u6 113 8 rfl).trans ((u3 113 8 rfl).trans (u1 113 8 rfl))))))) ?_
    refine wr_pf0 (k0 := 18) (x := h 113 8) (bl := -2147483648) (bh := 2147483647) (nx := 107) (r1 := 4) (r2 := 8) (r3 := 0) rfl (by decide) rfl ⟨rfl, rfl⟩ rfl rfl g16 rfl (by omega) (fun h19 g19 w19 u19 => ?_)
    have F20 := F17.then rfl u19
    refine wi_aload_n (i := 0) (x := 18) (nx := 108) (r1 := 0) (r2 := 0) (r3 := 0) rfl rfl ?_
    refine wi_aload_n (i := 1) (x := 113) (nx := 109) (r1 := 0) (r2 := 0) (r3 := 0) rfl rfl ?_
    have b21 := gi_b (lo := -2147483648) (hi := 2147483647) g 113 9 rfl
    refine wr_gi0 (k0 := 113) (x := h 113 9) (nx := 112) (r1 := 4) (r2 := 9) (r3 := 0) rfl rfl (by decide) rfl ⟨rfl, rfl⟩ rfl ((u19 113 9 rfl).trans ((u16 113 9 rfl).trans ((u13 113 9 rfl).trans ((u11 113 9 rfl).trans ((u9 113 9 rfl).trans ((u6 113 9 rfl).trans ((u3 113 9 rfl).trans (u1 113 9 rfl)))))))) ?_
    refine wr_pf0 (k0 := 18) (x := h 113 9) (bl := -2147483648) (bh := 2147483647) (nx := 115) (r1 := 4) (r2 := 9) (r3 := 0) rfl (by decide) rfl ⟨rfl, rfl⟩ rfl rfl g19 rfl (by omega) (fun h22 g22 w22 u22 => ?_)
    have F23 := F20.then rfl u22
    refine wi_aload_n (i := 0) (x := 18) (nx := 116) (r1 := 0) (r2 := 0) (r3 := 0) rfl rfl ?_
    refine wi_aload_n (i := 1) (x := 113) (nx := 117) (r1 := 0) (r2 := 0) (r3 := 0) rfl rfl ?_
    have b24 := gi_b (lo := -2147483648) (hi := 2147483647) g 113 10 rfl
    refine wr_gi0 (k0 := 113) (x := h 113 10) (nx := 120) (r1 := 4) (r2 := 10) (r3 := 0) rfl rfl (by decide) rfl ⟨rfl, rfl⟩ rfl ((u22 113 10 rfl).trans ((u19 113 10 rfl).trans ((u16 113 10 rfl).trans ((u13 113 10 rfl).trans ((u11 113 10 rfl).trans ((u9 113 10 rfl).trans ((u6 113 10 rfl).trans ((u3 113 10 rfl).trans (u1 113 10 rfl))))))))) ?_
    refine wr_pf0 (k0 := 18) (x := h 113 10) (bl := -2147483648) (bh := 2147483647) (nx := 123) (r1 := 4) (r2 := 10) (r3 := 0) rfl (by decide) rfl ⟨rfl, rfl⟩ rfl rfl g22 rfl (by omega) (fun h25 g25 w25 u25 => ?_)
    have F26 := F23.then rfl u25
    refine wi_aload_n (i := 0) (x := 18) (nx := 124) (r1 := 0) (r2 := 0) (r3 := 0) rfl rfl ?_
    refine wi_aload_n (i := 1) (x := 113) (nx := 125) (r1 := 0) (r2 := 0) (r3 := 0) rfl rfl ?_
    have b27 := gi_b (lo := -2147483648) (hi := 2147483647) g 113 11 rfl
    refine wr_gi0 (k0 := 113) (x := h 113 11) (nx := 128) (r1 := 4) (r2 := 11) (r3 := 0) rfl rfl (by decide) rfl ⟨rfl, rfl⟩ rfl ((u25 113 11 rfl).trans ((u22 113 11 rfl).trans ((u19 113 11 rfl).trans ((u16 113 11 rfl).trans ((u13 113 11 rfl).trans ((u11 113 11 rfl).trans ((u9 113 11 rfl).trans ((u6 113 11 rfl).trans ((u3 113 11 rfl).trans (u1 113 11 rfl)))))))))) ?_
    refine wr_pf0 (k0 := 18) (x := h 113 11) (bl := -2147483648) (bh := 2147483647) (nx := 131) (r1 := 4) (r2 := 11) (r3 := 0) rfl (by decide) rfl ⟨rfl, rfl⟩ rfl rfl g25 rfl (by omega) (fun h28 g28 w28 u28 => ?_)
    have F29 := F26.then rfl u28
    refine wi_aload_n (i := 0) (x := 18) (nx := 132) (r1 := 0) (r2 := 0) (r3 := 0) rfl rfl ?_
    refine wi_aload_n (i := 1) (x := 113) (nx := 133) (r1 := 0) (r2 := 0) (r3 := 0) rfl rfl ?_
    have b30 := gi_b (lo := -2147483648) (hi := 2147483647) g 113 12 rfl
    refine wr_gi0 (k0 := 113) (x := h 113 12) (nx := 136) (r1 := 4) (r2 := 12) (r3 := 0) rfl rfl (by decide) rfl ⟨rfl, rfl⟩ rfl ((u28 113 12 rfl).trans ((u25 113 12 rfl).trans ((u22 113 12 rfl).trans ((u19 113 12 rfl).trans ((u16 113 12 rfl).trans ((u13 113 12 rfl).trans ((u11 113 12 rfl).trans ((u9 113 12 rfl).trans ((u6 113 12 rfl).trans ((u3 113 12 rfl).trans (u1 113 12 rfl))))))))))) ?_
    refine wr_pf0 (k0 := 18) (x := h 113 12) (bl := -2147483648) (bh := 2147483647) (nx := 139) (r1 := 4) (r2 := 12) (r3 := 0) rfl (by decide) rfl ⟨rfl, rfl⟩ rfl rfl g28 rfl (by omega) (fun h31 g31 w31 u31 => ?_)
    have F32 := F29.then rfl u31
    refine wi_aload_n (i := 0) (x := 18) (nx := 140) (r1 := 0) (r2 := 0) (r3 := 0) rfl rfl ?_
    refine wi_aload_n (i := 1) (x := 113) (nx := 141) (r1 := 0) (r2 := 0) (r3 := 0) rfl rfl ?_
    have b33 := gi_b (lo := -2147483648) (hi := 2147483647) g 113 13 rfl
    refine wr_gi0 (k0 := 113) (x := h 113 13) (nx := 144) (r1 := 4) (r2 := 13) (r3 := 0) rfl rfl (by decide) rfl ⟨rfl, rfl⟩ rfl ((u31 113 13 rfl).trans ((u28 113 13 rfl).trans ((u25 113 13 rfl).trans ((u22 113 13 rfl).trans ((u19 113 13 rfl).trans ((u16 113 13 rfl).trans ((u13 113 13 rfl).trans ((u11 113 13 rfl).trans ((u9 113 13 rfl).trans ((u6 113 13 rfl).trans ((u3 113 13 rfl).trans (u1 113 13 rfl)))))))))))) ?_
    refine wr_pf0 (k0 := 18) (x := h 113 13) (bl := -2147483648) (bh := 2147483647) (nx := 147) (r1 := 4) (r2 := 13) (r3 := 0) rfl (by decide) rfl ⟨rfl, rfl⟩ rfl rfl g31 rfl (by omega) (fun h34 g34 w34 u34 => ?_)
    have F35 := F32.then rfl u34
    refine wi_aload_n (i := 1) (x := 113) (nx := 148) (r1 := 0) (r2 := 0) (r3 := 0) rfl rfl ?_
    refine wr_gr (k0 := 113) (x := 123) (nx := 151) (r1 := 4) (r2 := 14) (r3 := 0) rfl rfl (by decide) rfl ⟨rfl, rfl⟩ rfl ?_
    refine wi_iconst (n := 0) (nx := 152) (r1 := 0) (r2 := 0) (r3 := 0) rfl ?_
    refine wi_aload_n (i := 0) (x := 18) (nx := 153) (r1 := 0) (r2 := 0) (r3 := 0) rfl rfl ?_
    refine wr_gr (k0 := 18) (x := 28) (nx := 156) (r1 := 4) (r2 := 14) (r3 := 0) rfl rfl (by decide) rfl ⟨rfl, rfl⟩ rfl ?_
    refine wi_iconst (n := 0) (nx := 157) (r1 := 0) (r2 := 0) (r3 := 0) rfl ?_
    refine wi_aload_n (i := 0) (x := 18) (nx := 158) (r1 := 0) (r2 := 0) (r3 := 0) rfl rfl ?_
    refine wr_gr (k0 := 18) (x := 28) (nx := 161) (r1 := 4) (r2 := 14) (r3 := 0) rfl rfl (by decide) rfl ⟨rfl, rfl⟩ rfl ?_
    refine wr_al (k0 := 28) (e := 144) (nx := 162) (r1 := 0) (r2 := 0) (r3 := 0) rfl (by decide) rfl rfl ?_
    refine wr_cpy (s0 := 123) (d0 := 28) (n0 := 144) (n1 := 144) (sp := 0) (dp := 0) (n := 144) (sl := -2147483648) (sh := 2147483647) (dl := -2147483648) (dh := 2147483647) (nx := 165) (r1 := 0) (r2 := 101) (r3 := 0) rfl rfl (of_decide_eq_true rfl) (by decide) (by decide) rfl rfl (by omega) (fun _ => rfl) (fun _ => rfl) (by omega) g34 (fun h36 g36 y36 u36 => ?_)
    have F37 := F35.then rfl u36
    refine wi_aload_n (i := 0) (x := 18) (nx := 166) (r1 := 0) (r2 := 0) (r3 := 0) rfl rfl ?_
    refine wi_aload_n (i := 1) (x := 113) (nx := 167) (r1 := 0) (r2 := 0) (r3 := 0) rfl rfl ?_
    have b38 := gi_b (lo := 0) (hi := 36) g 113 15 rfl
    refine wr_gi0 (k0 := 113) (x := h 113 15) (nx := 170) (r1 := 4) (r2 := 15) (r3 := 0) rfl rfl (by decide) rfl ⟨rfl, rfl⟩ rfl ((u36 113 15 rfl).trans ((u34 113 15 rfl).trans ((u31 113 15 rfl).trans ((u28 113 15 rfl).trans ((u25 113 15 rfl).trans ((u22 113 15 rfl).trans ((u19 113 15 rfl).trans ((u16 113 15 rfl).trans ((u13 113 15 rfl).trans ((u11 113 15 rfl).trans ((u9 113 15 rfl).trans ((u6 113 15 rfl).trans ((u3 113 15 rfl).trans (u1 113 15 rfl)))))))))))))) ?_
    refine wr_pf0 (k0 := 18) (x := h 113 15) (bl := 0) (bh := 36) (nx := 173) (r1 := 4) (r2 := 15) (r3 := 0) rfl (by decide) rfl ⟨rfl, rfl⟩ rfl rfl g36 rfl (by omega) (fun h39 g39 w39 u39 => ?_)
    have F40 := F37.then rfl u39
    refine wi_aload_n (i := 0) (x := 18) (nx := 174) (r1 := 0) (r2 := 0) (r3 := 0) rfl rfl ?_
    refine wi_dup (nx := 175) (r1 := 0) (r2 := 0) (r3 := 0) rfl rfl ?_
    have b41 := gi_b (lo := -2147483648) (hi := 2147483647) g 18 16 rfl
    refine wr_gi0 (k0 := 18) (x := h 18 16) (nx := 178) (r1 := 4) (r2 := 16) (r3 := 0) rfl rfl (by decide) rfl ⟨rfl, rfl⟩ rfl ((u39 18 16 rfl).trans ((u36 18 16 rfl).trans ((u34 18 16 rfl).trans ((u31 18 16 rfl).trans ((u28 18 16 rfl).trans ((u25 18 16 rfl).trans ((u22 18 16 rfl).trans ((u19 18 16 rfl).trans ((u16 18 16 rfl).trans ((u13 18 16 rfl).trans ((u11 18 16 rfl).trans ((u9 18 16 rfl).trans ((u6 18 16 rfl).trans ((u3 18 16 rfl).trans (u1 18 16 rfl))))))))))))))) ?_
    refine wi_iconst (n := 1) (nx := 179) (r1 := 0) (r2 := 0) (r3 := 0) rfl ?_
    refine wr_addW (nx := 180) (r1 := 0) (r2 := 0) (r3 := 0) rfl (fun e42 (fe42 : -2147483648 ≤ e42 ∧ e42 ≤ 2147483647) => ?_)
    refine wr_pf0 (k0 := 18) (x := e42) (bl := -2147483648) (bh := 2147483647) (nx := 183) (r1 := 4) (r2 := 16) (r3 := 0) rfl (by decide) rfl ⟨rfl, rfl⟩ rfl rfl g39 rfl (by omega) (fun h43 g43 w43 u43 => ?_)
    have F44 := F40.then rfl u43
    refine wi_return (nx := 184) (r1 := 0) (r2 := 0) (r3 := 0) rfl rfl ?_
    exact k h43 g43 F44
  ·
    refine wi_aload_n (i := 0) (x := 18) (nx := 38) (r1 := 0) (r2 := 0) (r3 := 0) rfl rfl ?_
    refine wr_gr (k0 := 18) (x := 21) (nx := 41) (r1 := 4) (r2 := 3) (r3 := 0) rfl rfl (by decide) rfl ⟨rfl, rfl⟩ rfl ?_
    refine wi_iload_n (i := 2) (e := x5) (nx := 42) (r1 := 0) (r2 := 0) (r3 := 0) rfl rfl ?_
    obtain ⟨i9, ei9⟩ : ∃ q : Nat, x5 = (q : Int) := ⟨(x5).toNat, by omega⟩
    refine wr_aa (k0 := 21) (a := x5) (f := i9) (x := 21 + 8 + 2 * i9) (nx := 43) (r1 := 0) (r2 := 0) (r3 := 0) rfl (by decide) rfl (Or.inl rfl) (by omega) (by omega) (by decide) (hcr.1 21 (by decide) i9 (by omega)) ?_
    obtain ⟨k10, kk10, mk10⟩ : ∃ q, Rw q ∧ q = 21 + 8 + 2 * i9 := ⟨_, rw_lane 21 (by decide) i9 (by omega), rfl⟩
    rw [← mk10]
    refine wi_aload_n (i := 1) (x := 113) (nx := 44) (r1 := 0) (r2 := 0) (r3 := 0) rfl rfl ?_
    refine wr_gr (k0 := 113) (x := 116) (nx := 47) (r1 := 4) (r2 := 3) (r3 := 0) rfl rfl (by decide) rfl ⟨rfl, rfl⟩ rfl ?_
    refine wi_iload_n (i := 2) (e := x5) (nx := 48) (r1 := 0) (r2 := 0) (r3 := 0) rfl rfl ?_
    refine wr_aa (k0 := 116) (a := x5) (f := i9) (x := 116 + 8 + 2 * i9) (nx := 49) (r1 := 0) (r2 := 0) (r3 := 0) rfl (by decide) rfl (Or.inl rfl) (by omega) (by omega) (by decide) (hcr.1 116 (by decide) i9 (by omega)) ?_
    obtain ⟨k11, kk11, mk11⟩ : ∃ q, Rw q ∧ q = 116 + 8 + 2 * i9 := ⟨_, rw_lane 116 (by decide) i9 (by omega), rfl⟩
    rw [← mk11]
    refine wr_V (k0 := k10) (rest := []) (as := [.ref k10, .ref k11]) (nx := 52) (r1 := 155) (r2 := 1) (r3 := 5) rfl rfl rfl (of_decide_eq_true rfl) rfl rfl kk10.k kk10.1 rfl (of_decide_eq_true rfl) (of_decide_eq_true rfl) ?_
    refine ct_155_R_R hcr kk10 kk11 g6    (fun h12 g12 u12 => ?_)
    have v12 := FR.rngp (lo := 29) (hi := 36) u12 (by omega)
    have F13 := F7.then rfl (FR.rngp (lo := 29) (hi := 36) u12 (by omega))
    have F14 := u6.then rfl (FR.rngp (lo := 29) (hi := 36) u12 (by omega))
    refine wk_n ?_
    refine wr_iinc (i := 2) (n := 1) (v := x5) (fun e15 => [(2, vi e15), (0, .ref 18), (1, .ref 113)]) (nx := 55) (r1 := 0) (r2 := 0) (r3 := 0) rfl rfl (fun _ => rfl) (fun e15 (fe15 : e15 = x5 + 1) => ?_)
    refine wi_goto (nx := 58) (r1 := 32) (r2 := 0) (r3 := 0) rfl ?_
    refine wp.lo (lo := [(0, .ref 18), (1, .ref 113), (2, vi e15)]) ⟨rfl, rfl, rfl, trivial⟩ rfl ?_
    exact I6 e15 h12 ⟨g12, F13, F14, (show (0 ≤ e15 ∧ e15 ≤ 4) by omega)⟩ (show ((4 : Int) + 1 - e15).toNat < ((4 : Int) + 1 - x5).toNat by omega)
-- method 132: Line.copyFrom(LPaintBank$Line;)V
set_option maxRecDepth 100000 in
set_option maxHeartbeats 100000000 in
theorem ct_132_18_132 {L : Nat} {xs : Nat → Int32} {d b c : Nat} {h : hp} {cr : Nat → Nat → Option Nat} {Q : hp_Q} (hcr : CR cr)  (g : GI h)    (k : ∀ (h2 : hp) , GI h2 → FR [(18, 36, none)] h h2 → Q (.inl none) (hp_w h2 cr) b c) : wp (md_xa (L, xs)) (d + 1) 132 (0, [(0, .ref 18), (1, .ref 132)], [], hp_w h cr, b, c) Q := by
  have F0 : FR [(18, 36, none)] h h := FR.refl
  refine wi_aload_n (i := 1) (x := 132) (nx := 1) (r1 := 0) (r2 := 0) (r3 := 0) rfl rfl ?_
  refine wr_gr (k0 := 132) (x := 133) (nx := 4) (r1 := 4) (r2 := 1) (r3 := 0) rfl rfl (by decide) rfl ⟨rfl, rfl⟩ rfl ?_
  refine wi_iconst (n := 0) (nx := 5) (r1 := 0) (r2 := 0) (r3 := 0) rfl ?_
  refine wi_aload_n (i := 0) (x := 18) (nx := 6) (r1 := 0) (r2 := 0) (r3 := 0) rfl rfl ?_
  refine wr_gr (k0 := 18) (x := 19) (nx := 9) (r1 := 4) (r2 := 1) (r3 := 0) rfl rfl (by decide) rfl ⟨rfl, rfl⟩ rfl ?_
  refine wi_iconst (n := 0) (nx := 10) (r1 := 0) (r2 := 0) (r3 := 0) rfl ?_
  refine wi_bipush (n := 12) (nx := 12) (r1 := 0) (r2 := 0) (r3 := 0) rfl (by decide) ?_
  refine wr_cpy (s0 := 133) (d0 := 19) (n0 := 12) (n1 := 12) (sp := 0) (dp := 0) (n := 12) (sl := -2147483648) (sh := 2147483647) (dl := -2147483648) (dh := 2147483647) (nx := 15) (r1 := 0) (r2 := 101) (r3 := 0) rfl rfl (of_decide_eq_true rfl) (by decide) (by decide) rfl rfl (by omega) (fun _ => rfl) (fun _ => rfl) (by omega) g (fun h1 g1 y1 u1 => ?_)
  have F2 := F0.then rfl u1
  refine wi_aload_n (i := 1) (x := 132) (nx := 16) (r1 := 0) (r2 := 0) (r3 := 0) rfl rfl ?_
  refine wr_gr (k0 := 132) (x := 134) (nx := 19) (r1 := 4) (r2 := 2) (r3 := 0) rfl rfl (by decide) rfl ⟨rfl, rfl⟩ rfl ?_
  refine wi_iconst (n := 0) (nx := 20) (r1 := 0) (r2 := 0) (r3 := 0) rfl ?_
  refine wi_aload_n (i := 0) (x := 18) (nx := 21) (r1 := 0) (r2 := 0) (r3 := 0) rfl rfl ?_
  refine wr_gr (k0 := 18) (x := 20) (nx := 24) (r1 := 4) (r2 := 2) (r3 := 0) rfl rfl (by decide) rfl ⟨rfl, rfl⟩ rfl ?_
  refine wi_iconst (n := 0) (nx := 25) (r1 := 0) (r2 := 0) (r3 := 0) rfl ?_
  refine wi_bipush (n := 12) (nx := 27) (r1 := 0) (r2 := 0) (r3 := 0) rfl (by decide) ?_
  refine wr_cpy (s0 := 134) (d0 := 20) (n0 := 12) (n1 := 12) (sp := 0) (dp := 0) (n := 12) (sl := -2147483648) (sh := 2147483647) (dl := -2147483648) (dh := 2147483647) (nx := 30) (r1 := 0) (r2 := 101) (r3 := 0) rfl rfl (of_decide_eq_true rfl) (by decide) (by decide) rfl rfl (by omega) (fun _ => rfl) (fun _ => rfl) (by omega) g1 (fun h3 g3 y3 u3 => ?_)
  have F4 := F2.then rfl u3
  refine wi_iconst (n := 0) (nx := 31) (r1 := 0) (r2 := 0) (r3 := 0) rfl ?_
  refine wi_istore_n (i := 2) (e := 0) (lo2 := [(2, vi 0), (0, .ref 18), (1, .ref 132)]) (nx := 32) (r1 := 0) (r2 := 0) (r3 := 0) rfl rfl ?_
  refine wp.lo (lo := [(0, .ref 18), (1, .ref 132), (2, vi 0)]) ⟨rfl, rfl, rfl, trivial⟩ rfl ?_
  refine wl_1 (fun x5 h6 => GI h6 ∧ FR [(18, 36, none)] h h6 ∧ FR [(29, 36, none)] h3 h6 ∧ ((0 ≤ x5 ∧ x5 ≤ 4))) (fun x5 h6 => ((4 : Int) + 1 - x5).toNat) (fun x5 h6 => (32, [(0, .ref 18), (1, .ref 132), (2, vi x5)], [], hp_w h6 cr, b, c)) ?_ 0 h3 ⟨g3, F4, FR.refl, (show (0 ≤ 0 ∧ 0 ≤ 4) by omega)⟩
  intro x5 h6 ⟨g6, F7, u6, f6⟩ I6
  refine wi_iload_n (i := 2) (e := x5) (nx := 33) (r1 := 0) (r2 := 0) (r3 := 0) rfl rfl ?_
  refine wi_iconst (n := 4) (nx := 34) (r1 := 0) (r2 := 0) (r3 := 0) rfl ?_
  refine wi_icmp (cd := .ge) (nx := 37) (r1 := 58) (r2 := 0) (r3 := 0) rfl (by omega) (by omega) (fun (q8 : 4 ≤ x5) => ?_) (fun (q8 : ¬ (4 ≤ x5)) => ?_)
  ·
    refine wi_aload_n (i := 0) (x := 18) (nx := 59) (r1 := 0) (r2 := 0) (r3 := 0) rfl rfl ?_
    refine wr_gr (k0 := 18) (x := 22) (nx := 62) (r1 := 4) (r2 := 4) (r3 := 0) rfl rfl (by decide) rfl ⟨rfl, rfl⟩ rfl ?_
    refine wi_aload_n (i := 1) (x := 132) (nx := 63) (r1 := 0) (r2 := 0) (r3 := 0) rfl rfl ?_
    refine wr_gr (k0 := 132) (x := 136) (nx := 66) (r1 := 4) (r2 := 4) (r3 := 0) rfl rfl (by decide) rfl ⟨rfl, rfl⟩ rfl ?_
    refine wr_V (k0 := 22) (rest := []) (as := [.ref 22, .ref 136]) (nx := 69) (r1 := 155) (r2 := 1) (r3 := 5) rfl rfl rfl (of_decide_eq_true rfl) rfl rfl (by decide) rfl rfl (of_decide_eq_true rfl) (of_decide_eq_true rfl) ?_
    refine ct_155_R_R hcr rw_22 rw_136 g6    (fun h9 g9 u9 => ?_)
    have F10 := F7.then rfl u9
    refine wk_n ?_
    refine wi_aload_n (i := 0) (x := 18) (nx := 70) (r1 := 0) (r2 := 0) (r3 := 0) rfl rfl ?_
    refine wr_gr (k0 := 18) (x := 24) (nx := 73) (r1 := 4) (r2 := 5) (r3 := 0) rfl rfl (by decide) rfl ⟨rfl, rfl⟩ rfl ?_
    refine wi_aload_n (i := 1) (x := 132) (nx := 74) (r1 := 0) (r2 := 0) (r3 := 0) rfl rfl ?_
    refine wr_gr (k0 := 132) (x := 138) (nx := 77) (r1 := 4) (r2 := 5) (r3 := 0) rfl rfl (by decide) rfl ⟨rfl, rfl⟩ rfl ?_
    refine wr_V (k0 := 24) (rest := []) (as := [.ref 24, .ref 138]) (nx := 80) (r1 := 155) (r2 := 1) (r3 := 5) rfl rfl rfl (of_decide_eq_true rfl) rfl rfl (by decide) rfl rfl (of_decide_eq_true rfl) (of_decide_eq_true rfl) ?_
    refine ct_155_R_R hcr rw_24 rw_138 g9    (fun h11 g11 u11 => ?_)
    have F12 := F10.then rfl u11
    refine wk_n ?_
    refine wi_aload_n (i := 0) (x := 18) (nx := 81) (r1 := 0) (r2 := 0) (r3 := 0) rfl rfl ?_
    refine wr_gr (k0 := 18) (x := 26) (nx := 84) (r1 := 4) (r2 := 6) (r3 := 0) rfl rfl (by decide) rfl ⟨rfl, rfl⟩ rfl ?_
    refine wi_aload_n (i := 1) (x := 132) (nx := 85) (r1 := 0) (r2 := 0) (r3 := 0) rfl rfl ?_
    refine wr_gr (k0 := 132) (x := 140) (nx := 88) (r1 := 4) (r2 := 6) (r3 := 0) rfl rfl (by decide) rfl ⟨rfl, rfl⟩ rfl ?_
    refine wr_V (k0 := 26) (rest := []) (as := [.ref 26, .ref 140]) (nx := 91) (r1 := 155) (r2 := 1) (r3 := 5) rfl rfl rfl (of_decide_eq_true rfl) rfl rfl (by decide) rfl rfl (of_decide_eq_true rfl) (of_decide_eq_true rfl) ?_
    refine ct_155_R_R hcr rw_26 rw_140 g11    (fun h13 g13 u13 => ?_)
    have F14 := F12.then rfl u13
    refine wk_n ?_
    refine wi_aload_n (i := 0) (x := 18) (nx := 92) (r1 := 0) (r2 := 0) (r3 := 0) rfl rfl ?_
    refine wi_aload_n (i := 1) (x := 132) (nx := 93) (r1 := 0) (r2 := 0) (r3 := 0) rfl rfl ?_
    have b15 := gi_b (lo := 0) (hi := 12) g 132 7 rfl
    refine wr_gi0 (k0 := 132) (x := h 132 7) (nx := 96) (r1 := 4) (r2 := 7) (r3 := 0) rfl rfl (by decide) rfl ⟨rfl, rfl⟩ rfl ((u13 132 7 rfl).trans ((u11 132 7 rfl).trans ((u9 132 7 rfl).trans ((u6 132 7 rfl).trans ((u3 132 7 rfl).trans (u1 132 7 rfl)))))) ?_
    refine wr_pf0 (k0 := 18) (x := h 132 7) (bl := 0) (bh := 12) (nx := 99) (r1 := 4) (r2 := 7) (r3 := 0) rfl (by decide) rfl ⟨rfl, rfl⟩ rfl rfl g13 rfl (by omega) (fun h16 g16 w16 u16 => ?_)
    have F17 := F14.then rfl u16
    refine wi_aload_n (i := 0) (x := 18) (nx := 100) (r1 := 0) (r2 := 0) (r3 := 0) rfl rfl ?_
    refine wi_aload_n (i := 1) (x := 132) (nx := 101) (r1 := 0) (r2 := 0) (r3 := 0) rfl rfl ?_
    have b18 := gi_b (lo := -2147483648) (hi := 2147483647) g 132 8 rfl
    refine wr_gi0 (k0 := 132) (x := h 132 8) (nx := 104) (r1 := 4) (r2 := 8) (r3 := 0) rfl rfl (by decide) rfl ⟨rfl, rfl⟩ rfl ((u16 132 8 rfl).trans ((u13 132 8 rfl).trans ((u11 132 8 rfl).trans ((u9 132 8 rfl).trans ((u6 132 8 rfl).trans ((u3 132 8 rfl).trans (u1 132 8 rfl))))))) ?_
    refine wr_pf0 (k0 := 18) (x := h 132 8) (bl := -2147483648) (bh := 2147483647) (nx := 107) (r1 := 4) (r2 := 8) (r3 := 0) rfl (by decide) rfl ⟨rfl, rfl⟩ rfl rfl g16 rfl (by omega) (fun h19 g19 w19 u19 => ?_)
    have F20 := F17.then rfl u19
    refine wi_aload_n (i := 0) (x := 18) (nx := 108) (r1 := 0) (r2 := 0) (r3 := 0) rfl rfl ?_
    refine wi_aload_n (i := 1) (x := 132) (nx := 109) (r1 := 0) (r2 := 0) (r3 := 0) rfl rfl ?_
    have b21 := gi_b (lo := -2147483648) (hi := 2147483647) g 132 9 rfl
    refine wr_gi0 (k0 := 132) (x := h 132 9) (nx := 112) (r1 := 4) (r2 := 9) (r3 := 0) rfl rfl (by decide) rfl ⟨rfl, rfl⟩ rfl ((u19 132 9 rfl).trans ((u16 132 9 rfl).trans ((u13 132 9 rfl).trans ((u11 132 9 rfl).trans ((u9 132 9 rfl).trans ((u6 132 9 rfl).trans ((u3 132 9 rfl).trans (u1 132 9 rfl)))))))) ?_
    refine wr_pf0 (k0 := 18) (x := h 132 9) (bl := -2147483648) (bh := 2147483647) (nx := 115) (r1 := 4) (r2 := 9) (r3 := 0) rfl (by decide) rfl ⟨rfl, rfl⟩ rfl rfl g19 rfl (by omega) (fun h22 g22 w22 u22 => ?_)
    have F23 := F20.then rfl u22
    refine wi_aload_n (i := 0) (x := 18) (nx := 116) (r1 := 0) (r2 := 0) (r3 := 0) rfl rfl ?_
    refine wi_aload_n (i := 1) (x := 132) (nx := 117) (r1 := 0) (r2 := 0) (r3 := 0) rfl rfl ?_
    have b24 := gi_b (lo := -2147483648) (hi := 2147483647) g 132 10 rfl
    refine wr_gi0 (k0 := 132) (x := h 132 10) (nx := 120) (r1 := 4) (r2 := 10) (r3 := 0) rfl rfl (by decide) rfl ⟨rfl, rfl⟩ rfl ((u22 132 10 rfl).trans ((u19 132 10 rfl).trans ((u16 132 10 rfl).trans ((u13 132 10 rfl).trans ((u11 132 10 rfl).trans ((u9 132 10 rfl).trans ((u6 132 10 rfl).trans ((u3 132 10 rfl).trans (u1 132 10 rfl))))))))) ?_
    refine wr_pf0 (k0 := 18) (x := h 132 10) (bl := -2147483648) (bh := 2147483647) (nx := 123) (r1 := 4) (r2 := 10) (r3 := 0) rfl (by decide) rfl ⟨rfl, rfl⟩ rfl rfl g22 rfl (by omega) (fun h25 g25 w25 u25 => ?_)
    have F26 := F23.then rfl u25
    refine wi_aload_n (i := 0) (x := 18) (nx := 124) (r1 := 0) (r2 := 0) (r3 := 0) rfl rfl ?_
    refine wi_aload_n (i := 1) (x := 132) (nx := 125) (r1 := 0) (r2 := 0) (r3 := 0) rfl rfl ?_
    have b27 := gi_b (lo := -2147483648) (hi := 2147483647) g 132 11 rfl
    refine wr_gi0 (k0 := 132) (x := h 132 11) (nx := 128) (r1 := 4) (r2 := 11) (r3 := 0) rfl rfl (by decide) rfl ⟨rfl, rfl⟩ rfl ((u25 132 11 rfl).trans ((u22 132 11 rfl).trans ((u19 132 11 rfl).trans ((u16 132 11 rfl).trans ((u13 132 11 rfl).trans ((u11 132 11 rfl).trans ((u9 132 11 rfl).trans ((u6 132 11 rfl).trans ((u3 132 11 rfl).trans (u1 132 11 rfl)))))))))) ?_
    refine wr_pf0 (k0 := 18) (x := h 132 11) (bl := -2147483648) (bh := 2147483647) (nx := 131) (r1 := 4) (r2 := 11) (r3 := 0) rfl (by decide) rfl ⟨rfl, rfl⟩ rfl rfl g25 rfl (by omega) (fun h28 g28 w28 u28 => ?_)
    have F29 := F26.then rfl u28
    refine wi_aload_n (i := 0) (x := 18) (nx := 132) (r1 := 0) (r2 := 0) (r3 := 0) rfl rfl ?_
    refine wi_aload_n (i := 1) (x := 132) (nx := 133) (r1 := 0) (r2 := 0) (r3 := 0) rfl rfl ?_
    have b30 := gi_b (lo := -2147483648) (hi := 2147483647) g 132 12 rfl
    refine wr_gi0 (k0 := 132) (x := h 132 12) (nx := 136) (r1 := 4) (r2 := 12) (r3 := 0) rfl rfl (by decide) rfl ⟨rfl, rfl⟩ rfl ((u28 132 12 rfl).trans ((u25 132 12 rfl).trans ((u22 132 12 rfl).trans ((u19 132 12 rfl).trans ((u16 132 12 rfl).trans ((u13 132 12 rfl).trans ((u11 132 12 rfl).trans ((u9 132 12 rfl).trans ((u6 132 12 rfl).trans ((u3 132 12 rfl).trans (u1 132 12 rfl))))))))))) ?_
    refine wr_pf0 (k0 := 18) (x := h 132 12) (bl := -2147483648) (bh := 2147483647) (nx := 139) (r1 := 4) (r2 := 12) (r3 := 0) rfl (by decide) rfl ⟨rfl, rfl⟩ rfl rfl g28 rfl (by omega) (fun h31 g31 w31 u31 => ?_)
    have F32 := F29.then rfl u31
    refine wi_aload_n (i := 0) (x := 18) (nx := 140) (r1 := 0) (r2 := 0) (r3 := 0) rfl rfl ?_
    refine wi_aload_n (i := 1) (x := 132) (nx := 141) (r1 := 0) (r2 := 0) (r3 := 0) rfl rfl ?_
    have b33 := gi_b (lo := -2147483648) (hi := 2147483647) g 132 13 rfl
    refine wr_gi0 (k0 := 132) (x := h 132 13) (nx := 144) (r1 := 4) (r2 := 13) (r3 := 0) rfl rfl (by decide) rfl ⟨rfl, rfl⟩ rfl ((u31 132 13 rfl).trans ((u28 132 13 rfl).trans ((u25 132 13 rfl).trans ((u22 132 13 rfl).trans ((u19 132 13 rfl).trans ((u16 132 13 rfl).trans ((u13 132 13 rfl).trans ((u11 132 13 rfl).trans ((u9 132 13 rfl).trans ((u6 132 13 rfl).trans ((u3 132 13 rfl).trans (u1 132 13 rfl)))))))))))) ?_
    refine wr_pf0 (k0 := 18) (x := h 132 13) (bl := -2147483648) (bh := 2147483647) (nx := 147) (r1 := 4) (r2 := 13) (r3 := 0) rfl (by decide) rfl ⟨rfl, rfl⟩ rfl rfl g31 rfl (by omega) (fun h34 g34 w34 u34 => ?_)
    have F35 := F32.then rfl u34
    refine wi_aload_n (i := 1) (x := 132) (nx := 148) (r1 := 0) (r2 := 0) (r3 := 0) rfl rfl ?_
    refine wr_gr (k0 := 132) (x := 142) (nx := 151) (r1 := 4) (r2 := 14) (r3 := 0) rfl rfl (by decide) rfl ⟨rfl, rfl⟩ rfl ?_
    refine wi_iconst (n := 0) (nx := 152) (r1 := 0) (r2 := 0) (r3 := 0) rfl ?_
    refine wi_aload_n (i := 0) (x := 18) (nx := 153) (r1 := 0) (r2 := 0) (r3 := 0) rfl rfl ?_
    refine wr_gr (k0 := 18) (x := 28) (nx := 156) (r1 := 4) (r2 := 14) (r3 := 0) rfl rfl (by decide) rfl ⟨rfl, rfl⟩ rfl ?_
    refine wi_iconst (n := 0) (nx := 157) (r1 := 0) (r2 := 0) (r3 := 0) rfl ?_
    refine wi_aload_n (i := 0) (x := 18) (nx := 158) (r1 := 0) (r2 := 0) (r3 := 0) rfl rfl ?_
    refine wr_gr (k0 := 18) (x := 28) (nx := 161) (r1 := 4) (r2 := 14) (r3 := 0) rfl rfl (by decide) rfl ⟨rfl, rfl⟩ rfl ?_
    refine wr_al (k0 := 28) (e := 144) (nx := 162) (r1 := 0) (r2 := 0) (r3 := 0) rfl (by decide) rfl rfl ?_
    refine wr_cpy (s0 := 142) (d0 := 28) (n0 := 144) (n1 := 144) (sp := 0) (dp := 0) (n := 144) (sl := -2147483648) (sh := 2147483647) (dl := -2147483648) (dh := 2147483647) (nx := 165) (r1 := 0) (r2 := 101) (r3 := 0) rfl rfl (of_decide_eq_true rfl) (by decide) (by decide) rfl rfl (by omega) (fun _ => rfl) (fun _ => rfl) (by omega) g34 (fun h36 g36 y36 u36 => ?_)
    have F37 := F35.then rfl u36
    refine wi_aload_n (i := 0) (x := 18) (nx := 166) (r1 := 0) (r2 := 0) (r3 := 0) rfl rfl ?_
    refine wi_aload_n (i := 1) (x := 132) (nx := 167) (r1 := 0) (r2 := 0) (r3 := 0) rfl rfl ?_
    have b38 := gi_b (lo := 0) (hi := 36) g 132 15 rfl
    refine wr_gi0 (k0 := 132) (x := h 132 15) (nx := 170) (r1 := 4) (r2 := 15) (r3 := 0) rfl rfl (by decide) rfl ⟨rfl, rfl⟩ rfl ((u36 132 15 rfl).trans ((u34 132 15 rfl).trans ((u31 132 15 rfl).trans ((u28 132 15 rfl).trans ((u25 132 15 rfl).trans ((u22 132 15 rfl).trans ((u19 132 15 rfl).trans ((u16 132 15 rfl).trans ((u13 132 15 rfl).trans ((u11 132 15 rfl).trans ((u9 132 15 rfl).trans ((u6 132 15 rfl).trans ((u3 132 15 rfl).trans (u1 132 15 rfl)))))))))))))) ?_
    refine wr_pf0 (k0 := 18) (x := h 132 15) (bl := 0) (bh := 36) (nx := 173) (r1 := 4) (r2 := 15) (r3 := 0) rfl (by decide) rfl ⟨rfl, rfl⟩ rfl rfl g36 rfl (by omega) (fun h39 g39 w39 u39 => ?_)
    have F40 := F37.then rfl u39
    refine wi_aload_n (i := 0) (x := 18) (nx := 174) (r1 := 0) (r2 := 0) (r3 := 0) rfl rfl ?_
    refine wi_dup (nx := 175) (r1 := 0) (r2 := 0) (r3 := 0) rfl rfl ?_
    have b41 := gi_b (lo := -2147483648) (hi := 2147483647) g 18 16 rfl
    refine wr_gi0 (k0 := 18) (x := h 18 16) (nx := 178) (r1 := 4) (r2 := 16) (r3 := 0) rfl rfl (by decide) rfl ⟨rfl, rfl⟩ rfl ((u39 18 16 rfl).trans ((u36 18 16 rfl).trans ((u34 18 16 rfl).trans ((u31 18 16 rfl).trans ((u28 18 16 rfl).trans ((u25 18 16 rfl).trans ((u22 18 16 rfl).trans ((u19 18 16 rfl).trans ((u16 18 16 rfl).trans ((u13 18 16 rfl).trans ((u11 18 16 rfl).trans ((u9 18 16 rfl).trans ((u6 18 16 rfl).trans ((u3 18 16 rfl).trans (u1 18 16 rfl))))))))))))))) ?_
    refine wi_iconst (n := 1) (nx := 179) (r1 := 0) (r2 := 0) (r3 := 0) rfl ?_
    refine wr_addW (nx := 180) (r1 := 0) (r2 := 0) (r3 := 0) rfl (fun e42 (fe42 : -2147483648 ≤ e42 ∧ e42 ≤ 2147483647) => ?_)
    refine wr_pf0 (k0 := 18) (x := e42) (bl := -2147483648) (bh := 2147483647) (nx := 183) (r1 := 4) (r2 := 16) (r3 := 0) rfl (by decide) rfl ⟨rfl, rfl⟩ rfl rfl g39 rfl (by omega) (fun h43 g43 w43 u43 => ?_)
    have F44 := F40.then rfl u43
    refine wi_return (nx := 184) (r1 := 0) (r2 := 0) (r3 := 0) rfl rfl ?_
    exact k h43 g43 F44
  ·
    refine wi_aload_n (i := 0) (x := 18) (nx := 38) (r1 := 0) (r2 := 0) (r3 := 0) rfl rfl ?_
    refine wr_gr (k0 := 18) (x := 21) (nx := 41) (r1 := 4) (r2 := 3) (r3 := 0) rfl rfl (by decide) rfl ⟨rfl, rfl⟩ rfl ?_
    refine wi_iload_n (i := 2) (e := x5) (nx := 42) (r1 := 0) (r2 := 0) (r3 := 0) rfl rfl ?_
    obtain ⟨i9, ei9⟩ : ∃ q : Nat, x5 = (q : Int) := ⟨(x5).toNat, by omega⟩
    refine wr_aa (k0 := 21) (a := x5) (f := i9) (x := 21 + 8 + 2 * i9) (nx := 43) (r1 := 0) (r2 := 0) (r3 := 0) rfl (by decide) rfl (Or.inl rfl) (by omega) (by omega) (by decide) (hcr.1 21 (by decide) i9 (by omega)) ?_
    obtain ⟨k10, kk10, mk10⟩ : ∃ q, Rw q ∧ q = 21 + 8 + 2 * i9 := ⟨_, rw_lane 21 (by decide) i9 (by omega), rfl⟩
    rw [← mk10]
    refine wi_aload_n (i := 1) (x := 132) (nx := 44) (r1 := 0) (r2 := 0) (r3 := 0) rfl rfl ?_
    refine wr_gr (k0 := 132) (x := 135) (nx := 47) (r1 := 4) (r2 := 3) (r3 := 0) rfl rfl (by decide) rfl ⟨rfl, rfl⟩ rfl ?_
    refine wi_iload_n (i := 2) (e := x5) (nx := 48) (r1 := 0) (r2 := 0) (r3 := 0) rfl rfl ?_
    refine wr_aa (k0 := 135) (a := x5) (f := i9) (x := 135 + 8 + 2 * i9) (nx := 49) (r1 := 0) (r2 := 0) (r3 := 0) rfl (by decide) rfl (Or.inl rfl) (by omega) (by omega) (by decide) (hcr.1 135 (by decide) i9 (by omega)) ?_
    obtain ⟨k11, kk11, mk11⟩ : ∃ q, Rw q ∧ q = 135 + 8 + 2 * i9 := ⟨_, rw_lane 135 (by decide) i9 (by omega), rfl⟩
    rw [← mk11]
    refine wr_V (k0 := k10) (rest := []) (as := [.ref k10, .ref k11]) (nx := 52) (r1 := 155) (r2 := 1) (r3 := 5) rfl rfl rfl (of_decide_eq_true rfl) rfl rfl kk10.k kk10.1 rfl (of_decide_eq_true rfl) (of_decide_eq_true rfl) ?_
    refine ct_155_R_R hcr kk10 kk11 g6    (fun h12 g12 u12 => ?_)
    have v12 := FR.rngp (lo := 29) (hi := 36) u12 (by omega)
    have F13 := F7.then rfl (FR.rngp (lo := 29) (hi := 36) u12 (by omega))
    have F14 := u6.then rfl (FR.rngp (lo := 29) (hi := 36) u12 (by omega))
    refine wk_n ?_
    refine wr_iinc (i := 2) (n := 1) (v := x5) (fun e15 => [(2, vi e15), (0, .ref 18), (1, .ref 132)]) (nx := 55) (r1 := 0) (r2 := 0) (r3 := 0) rfl rfl (fun _ => rfl) (fun e15 (fe15 : e15 = x5 + 1) => ?_)
    refine wi_goto (nx := 58) (r1 := 32) (r2 := 0) (r3 := 0) rfl ?_
    refine wp.lo (lo := [(0, .ref 18), (1, .ref 132), (2, vi e15)]) ⟨rfl, rfl, rfl, trivial⟩ rfl ?_
    exact I6 e15 h12 ⟨g12, F13, F14, (show (0 ≤ e15 ∧ e15 ≤ 4) by omega)⟩ (show ((4 : Int) + 1 - e15).toNat < ((4 : Int) + 1 - x5).toNat by omega)
-- method 132: Line.copyFrom(LPaintBank$Line;)V
set_option maxRecDepth 100000 in
set_option maxHeartbeats 100000000 in
theorem ct_132_18_151 {L : Nat} {xs : Nat → Int32} {d b c : Nat} {h : hp} {cr : Nat → Nat → Option Nat} {Q : hp_Q} (hcr : CR cr)  (g : GI h)    (k : ∀ (h2 : hp) , GI h2 → FR [(18, 36, none)] h h2 → Q (.inl none) (hp_w h2 cr) b c) : wp (md_xa (L, xs)) (d + 1) 132 (0, [(0, .ref 18), (1, .ref 151)], [], hp_w h cr, b, c) Q := by
  have F0 : FR [(18, 36, none)] h h := FR.refl
  refine wi_aload_n (i := 1) (x := 151) (nx := 1) (r1 := 0) (r2 := 0) (r3 := 0) rfl rfl ?_
  refine wr_gr (k0 := 151) (x := 152) (nx := 4) (r1 := 4) (r2 := 1) (r3 := 0) rfl rfl (by decide) rfl ⟨rfl, rfl⟩ rfl ?_
  refine wi_iconst (n := 0) (nx := 5) (r1 := 0) (r2 := 0) (r3 := 0) rfl ?_
  refine wi_aload_n (i := 0) (x := 18) (nx := 6) (r1 := 0) (r2 := 0) (r3 := 0) rfl rfl ?_
  refine wr_gr (k0 := 18) (x := 19) (nx := 9) (r1 := 4) (r2 := 1) (r3 := 0) rfl rfl (by decide) rfl ⟨rfl, rfl⟩ rfl ?_
  refine wi_iconst (n := 0) (nx := 10) (r1 := 0) (r2 := 0) (r3 := 0) rfl ?_
  refine wi_bipush (n := 12) (nx := 12) (r1 := 0) (r2 := 0) (r3 := 0) rfl (by decide) ?_
  refine wr_cpy (s0 := 152) (d0 := 19) (n0 := 12) (n1 := 12) (sp := 0) (dp := 0) (n := 12) (sl := -2147483648) (sh := 2147483647) (dl := -2147483648) (dh := 2147483647) (nx := 15) (r1 := 0) (r2 := 101) (r3 := 0) rfl rfl (of_decide_eq_true rfl) (by decide) (by decide) rfl rfl (by omega) (fun _ => rfl) (fun _ => rfl) (by omega) g (fun h1 g1 y1 u1 => ?_)
  have F2 := F0.then rfl u1
  refine wi_aload_n (i := 1) (x := 151) (nx := 16) (r1 := 0) (r2 := 0) (r3 := 0) rfl rfl ?_
  refine wr_gr (k0 := 151) (x := 153) (nx := 19) (r1 := 4) (r2 := 2) (r3 := 0) rfl rfl (by decide) rfl ⟨rfl, rfl⟩ rfl ?_
  refine wi_iconst (n := 0) (nx := 20) (r1 := 0) (r2 := 0) (r3 := 0) rfl ?_
  refine wi_aload_n (i := 0) (x := 18) (nx := 21) (r1 := 0) (r2 := 0) (r3 := 0) rfl rfl ?_
  refine wr_gr (k0 := 18) (x := 20) (nx := 24) (r1 := 4) (r2 := 2) (r3 := 0) rfl rfl (by decide) rfl ⟨rfl, rfl⟩ rfl ?_
  refine wi_iconst (n := 0) (nx := 25) (r1 := 0) (r2 := 0) (r3 := 0) rfl ?_
  refine wi_bipush (n := 12) (nx := 27) (r1 := 0) (r2 := 0) (r3 := 0) rfl (by decide) ?_
  refine wr_cpy (s0 := 153) (d0 := 20) (n0 := 12) (n1 := 12) (sp := 0) (dp := 0) (n := 12) (sl := -2147483648) (sh := 2147483647) (dl := -2147483648) (dh := 2147483647) (nx := 30) (r1 := 0) (r2 := 101) (r3 := 0) rfl rfl (of_decide_eq_true rfl) (by decide) (by decide) rfl rfl (by omega) (fun _ => rfl) (fun _ => rfl) (by omega) g1 (fun h3 g3 y3 u3 => ?_)
  have F4 := F2.then rfl u3
  refine wi_iconst (n := 0) (nx := 31) (r1 := 0) (r2 := 0) (r3 := 0) rfl ?_
  refine wi_istore_n (i := 2) (e := 0) (lo2 := [(2, vi 0), (0, .ref 18), (1, .ref 151)]) (nx := 32) (r1 := 0) (r2 := 0) (r3 := 0) rfl rfl ?_
  refine wp.lo (lo := [(0, .ref 18), (1, .ref 151), (2, vi 0)]) ⟨rfl, rfl, rfl, trivial⟩ rfl ?_
  refine wl_1 (fun x5 h6 => GI h6 ∧ FR [(18, 36, none)] h h6 ∧ FR [(29, 36, none)] h3 h6 ∧ ((0 ≤ x5 ∧ x5 ≤ 4))) (fun x5 h6 => ((4 : Int) + 1 - x5).toNat) (fun x5 h6 => (32, [(0, .ref 18), (1, .ref 151), (2, vi x5)], [], hp_w h6 cr, b, c)) ?_ 0 h3 ⟨g3, F4, FR.refl, (show (0 ≤ 0 ∧ 0 ≤ 4) by omega)⟩
  intro x5 h6 ⟨g6, F7, u6, f6⟩ I6
  refine wi_iload_n (i := 2) (e := x5) (nx := 33) (r1 := 0) (r2 := 0) (r3 := 0) rfl rfl ?_
  refine wi_iconst (n := 4) (nx := 34) (r1 := 0) (r2 := 0) (r3 := 0) rfl ?_
  refine wi_icmp (cd := .ge) (nx := 37) (r1 := 58) (r2 := 0) (r3 := 0) rfl (by omega) (by omega) (fun (q8 : 4 ≤ x5) => ?_) (fun (q8 : ¬ (4 ≤ x5)) => ?_)
  ·
    refine wi_aload_n (i := 0) (x := 18) (nx := 59) (r1 := 0) (r2 := 0) (r3 := 0) rfl rfl ?_
    refine wr_gr (k0 := 18) (x := 22) (nx := 62) (r1 := 4) (r2 := 4) (r3 := 0) rfl rfl (by decide) rfl ⟨rfl, rfl⟩ rfl ?_
    refine wi_aload_n (i := 1) (x := 151) (nx := 63) (r1 := 0) (r2 := 0) (r3 := 0) rfl rfl ?_
    refine wr_gr (k0 := 151) (x := 155) (nx := 66) (r1 := 4) (r2 := 4) (r3 := 0) rfl rfl (by decide) rfl ⟨rfl, rfl⟩ rfl ?_
    refine wr_V (k0 := 22) (rest := []) (as := [.ref 22, .ref 155]) (nx := 69) (r1 := 155) (r2 := 1) (r3 := 5) rfl rfl rfl (of_decide_eq_true rfl) rfl rfl (by decide) rfl rfl (of_decide_eq_true rfl) (of_decide_eq_true rfl) ?_
    refine ct_155_R_R hcr rw_22 rw_155 g6    (fun h9 g9 u9 => ?_)
    have F10 := F7.then rfl u9
    refine wk_n ?_
    refine wi_aload_n (i := 0) (x := 18) (nx := 70) (r1 := 0) (r2 := 0) (r3 := 0) rfl rfl ?_
    refine wr_gr (k0 := 18) (x := 24) (nx := 73) (r1 := 4) (r2 := 5) (r3 := 0) rfl rfl (by decide) rfl ⟨rfl, rfl⟩ rfl ?_
    refine wi_aload_n (i := 1) (x := 151) (nx := 74) (r1 := 0) (r2 := 0) (r3 := 0) rfl rfl ?_
    refine wr_gr (k0 := 151) (x := 157) (nx := 77) (r1 := 4) (r2 := 5) (r3 := 0) rfl rfl (by decide) rfl ⟨rfl, rfl⟩ rfl ?_
    refine wr_V (k0 := 24) (rest := []) (as := [.ref 24, .ref 157]) (nx := 80) (r1 := 155) (r2 := 1) (r3 := 5) rfl rfl rfl (of_decide_eq_true rfl) rfl rfl (by decide) rfl rfl (of_decide_eq_true rfl) (of_decide_eq_true rfl) ?_
    refine ct_155_R_R hcr rw_24 rw_157 g9    (fun h11 g11 u11 => ?_)
    have F12 := F10.then rfl u11
    refine wk_n ?_
    refine wi_aload_n (i := 0) (x := 18) (nx := 81) (r1 := 0) (r2 := 0) (r3 := 0) rfl rfl ?_
    refine wr_gr (k0 := 18) (x := 26) (nx := 84) (r1 := 4) (r2 := 6) (r3 := 0) rfl rfl (by decide) rfl ⟨rfl, rfl⟩ rfl ?_
    refine wi_aload_n (i := 1) (x := 151) (nx := 85) (r1 := 0) (r2 := 0) (r3 := 0) rfl rfl ?_
    refine wr_gr (k0 := 151) (x := 159) (nx := 88) (r1 := 4) (r2 := 6) (r3 := 0) rfl rfl (by decide) rfl ⟨rfl, rfl⟩ rfl ?_
    refine wr_V (k0 := 26) (rest := []) (as := [.ref 26, .ref 159]) (nx := 91) (r1 := 155) (r2 := 1) (r3 := 5) rfl rfl rfl (of_decide_eq_true rfl) rfl rfl (by decide) rfl rfl (of_decide_eq_true rfl) (of_decide_eq_true rfl) ?_
    refine ct_155_R_R hcr rw_26 rw_159 g11    (fun h13 g13 u13 => ?_)
    have F14 := F12.then rfl u13
    refine wk_n ?_
    refine wi_aload_n (i := 0) (x := 18) (nx := 92) (r1 := 0) (r2 := 0) (r3 := 0) rfl rfl ?_
    refine wi_aload_n (i := 1) (x := 151) (nx := 93) (r1 := 0) (r2 := 0) (r3 := 0) rfl rfl ?_
    have b15 := gi_b (lo := 0) (hi := 12) g 151 7 rfl
    refine wr_gi0 (k0 := 151) (x := h 151 7) (nx := 96) (r1 := 4) (r2 := 7) (r3 := 0) rfl rfl (by decide) rfl ⟨rfl, rfl⟩ rfl ((u13 151 7 rfl).trans ((u11 151 7 rfl).trans ((u9 151 7 rfl).trans ((u6 151 7 rfl).trans ((u3 151 7 rfl).trans (u1 151 7 rfl)))))) ?_
    refine wr_pf0 (k0 := 18) (x := h 151 7) (bl := 0) (bh := 12) (nx := 99) (r1 := 4) (r2 := 7) (r3 := 0) rfl (by decide) rfl ⟨rfl, rfl⟩ rfl rfl g13 rfl (by omega) (fun h16 g16 w16 u16 => ?_)
    have F17 := F14.then rfl u16
    refine wi_aload_n (i := 0) (x := 18) (nx := 100) (r1 := 0) (r2 := 0) (r3 := 0) rfl rfl ?_
    refine wi_aload_n (i := 1) (x := 151) (nx := 101) (r1 := 0) (r2 := 0) (r3 := 0) rfl rfl ?_
    have b18 := gi_b (lo := -2147483648) (hi := 2147483647) g 151 8 rfl
    refine wr_gi0 (k0 := 151) (x := h 151 8) (nx := 104) (r1 := 4) (r2 := 8) (r3 := 0) rfl rfl (by decide) rfl ⟨rfl, rfl⟩ rfl ((u16 151 8 rfl).trans ((u13 151 8 rfl).trans ((u11 151 8 rfl).trans ((u9 151 8 rfl).trans ((u6 151 8 rfl).trans ((u3 151 8 rfl).trans (u1 151 8 rfl))))))) ?_
    refine wr_pf0 (k0 := 18) (x := h 151 8) (bl := -2147483648) (bh := 2147483647) (nx := 107) (r1 := 4) (r2 := 8) (r3 := 0) rfl (by decide) rfl ⟨rfl, rfl⟩ rfl rfl g16 rfl (by omega) (fun h19 g19 w19 u19 => ?_)
    have F20 := F17.then rfl u19
    refine wi_aload_n (i := 0) (x := 18) (nx := 108) (r1 := 0) (r2 := 0) (r3 := 0) rfl rfl ?_
    refine wi_aload_n (i := 1) (x := 151) (nx := 109) (r1 := 0) (r2 := 0) (r3 := 0) rfl rfl ?_
    have b21 := gi_b (lo := -2147483648) (hi := 2147483647) g 151 9 rfl
    refine wr_gi0 (k0 := 151) (x := h 151 9) (nx := 112) (r1 := 4) (r2 := 9) (r3 := 0) rfl rfl (by decide) rfl ⟨rfl, rfl⟩ rfl ((u19 151 9 rfl).trans ((u16 151 9 rfl).trans ((u13 151 9 rfl).trans ((u11 151 9 rfl).trans ((u9 151 9 rfl).trans ((u6 151 9 rfl).trans ((u3 151 9 rfl).trans (u1 151 9 rfl)))))))) ?_
    refine wr_pf0 (k0 := 18) (x := h 151 9) (bl := -2147483648) (bh := 2147483647) (nx := 115) (r1 := 4) (r2 := 9) (r3 := 0) rfl (by decide) rfl ⟨rfl, rfl⟩ rfl rfl g19 rfl (by omega) (fun h22 g22 w22 u22 => ?_)
    have F23 := F20.then rfl u22
    refine wi_aload_n (i := 0) (x := 18) (nx := 116) (r1 := 0) (r2 := 0) (r3 := 0) rfl rfl ?_
    refine wi_aload_n (i := 1) (x := 151) (nx := 117) (r1 := 0) (r2 := 0) (r3 := 0) rfl rfl ?_
    have b24 := gi_b (lo := -2147483648) (hi := 2147483647) g 151 10 rfl
    refine wr_gi0 (k0 := 151) (x := h 151 10) (nx := 120) (r1 := 4) (r2 := 10) (r3 := 0) rfl rfl (by decide) rfl ⟨rfl, rfl⟩ rfl ((u22 151 10 rfl).trans ((u19 151 10 rfl).trans ((u16 151 10 rfl).trans ((u13 151 10 rfl).trans ((u11 151 10 rfl).trans ((u9 151 10 rfl).trans ((u6 151 10 rfl).trans ((u3 151 10 rfl).trans (u1 151 10 rfl))))))))) ?_
    refine wr_pf0 (k0 := 18) (x := h 151 10) (bl := -2147483648) (bh := 2147483647) (nx := 123) (r1 := 4) (r2 := 10) (r3 := 0) rfl (by decide) rfl ⟨rfl, rfl⟩ rfl rfl g22 rfl (by omega) (fun h25 g25 w25 u25 => ?_)
    have F26 := F23.then rfl u25
    refine wi_aload_n (i := 0) (x := 18) (nx := 124) (r1 := 0) (r2 := 0) (r3 := 0) rfl rfl ?_
    refine wi_aload_n (i := 1) (x := 151) (nx := 125) (r1 := 0) (r2 := 0) (r3 := 0) rfl rfl ?_
    have b27 := gi_b (lo := -2147483648) (hi := 2147483647) g 151 11 rfl
    refine wr_gi0 (k0 := 151) (x := h 151 11) (nx := 128) (r1 := 4) (r2 := 11) (r3 := 0) rfl rfl (by decide) rfl ⟨rfl, rfl⟩ rfl ((u25 151 11 rfl).trans ((u22 151 11 rfl).trans ((u19 151 11 rfl).trans ((u16 151 11 rfl).trans ((u13 151 11 rfl).trans ((u11 151 11 rfl).trans ((u9 151 11 rfl).trans ((u6 151 11 rfl).trans ((u3 151 11 rfl).trans (u1 151 11 rfl)))))))))) ?_
    refine wr_pf0 (k0 := 18) (x := h 151 11) (bl := -2147483648) (bh := 2147483647) (nx := 131) (r1 := 4) (r2 := 11) (r3 := 0) rfl (by decide) rfl ⟨rfl, rfl⟩ rfl rfl g25 rfl (by omega) (fun h28 g28 w28 u28 => ?_)
    have F29 := F26.then rfl u28
    refine wi_aload_n (i := 0) (x := 18) (nx := 132) (r1 := 0) (r2 := 0) (r3 := 0) rfl rfl ?_
    refine wi_aload_n (i := 1) (x := 151) (nx := 133) (r1 := 0) (r2 := 0) (r3 := 0) rfl rfl ?_
    have b30 := gi_b (lo := -2147483648) (hi := 2147483647) g 151 12 rfl
    refine wr_gi0 (k0 := 151) (x := h 151 12) (nx := 136) (r1 := 4) (r2 := 12) (r3 := 0) rfl rfl (by decide) rfl ⟨rfl, rfl⟩ rfl ((u28 151 12 rfl).trans ((u25 151 12 rfl).trans ((u22 151 12 rfl).trans ((u19 151 12 rfl).trans ((u16 151 12 rfl).trans ((u13 151 12 rfl).trans ((u11 151 12 rfl).trans ((u9 151 12 rfl).trans ((u6 151 12 rfl).trans ((u3 151 12 rfl).trans (u1 151 12 rfl))))))))))) ?_
    refine wr_pf0 (k0 := 18) (x := h 151 12) (bl := -2147483648) (bh := 2147483647) (nx := 139) (r1 := 4) (r2 := 12) (r3 := 0) rfl (by decide) rfl ⟨rfl, rfl⟩ rfl rfl g28 rfl (by omega) (fun h31 g31 w31 u31 => ?_)
    have F32 := F29.then rfl u31
    refine wi_aload_n (i := 0) (x := 18) (nx := 140) (r1 := 0) (r2 := 0) (r3 := 0) rfl rfl ?_
    refine wi_aload_n (i := 1) (x := 151) (nx := 141) (r1 := 0) (r2 := 0) (r3 := 0) rfl rfl ?_
    have b33 := gi_b (lo := -2147483648) (hi := 2147483647) g 151 13 rfl
    refine wr_gi0 (k0 := 151) (x := h 151 13) (nx := 144) (r1 := 4) (r2 := 13) (r3 := 0) rfl rfl (by decide) rfl ⟨rfl, rfl⟩ rfl ((u31 151 13 rfl).trans ((u28 151 13 rfl).trans ((u25 151 13 rfl).trans ((u22 151 13 rfl).trans ((u19 151 13 rfl).trans ((u16 151 13 rfl).trans ((u13 151 13 rfl).trans ((u11 151 13 rfl).trans ((u9 151 13 rfl).trans ((u6 151 13 rfl).trans ((u3 151 13 rfl).trans (u1 151 13 rfl)))))))))))) ?_
    refine wr_pf0 (k0 := 18) (x := h 151 13) (bl := -2147483648) (bh := 2147483647) (nx := 147) (r1 := 4) (r2 := 13) (r3 := 0) rfl (by decide) rfl ⟨rfl, rfl⟩ rfl rfl g31 rfl (by omega) (fun h34 g34 w34 u34 => ?_)
    have F35 := F32.then rfl u34
    refine wi_aload_n (i := 1) (x := 151) (nx := 148) (r1 := 0) (r2 := 0) (r3 := 0) rfl rfl ?_
    refine wr_gr (k0 := 151) (x := 161) (nx := 151) (r1 := 4) (r2 := 14) (r3 := 0) rfl rfl (by decide) rfl ⟨rfl, rfl⟩ rfl ?_
    refine wi_iconst (n := 0) (nx := 152) (r1 := 0) (r2 := 0) (r3 := 0) rfl ?_
    refine wi_aload_n (i := 0) (x := 18) (nx := 153) (r1 := 0) (r2 := 0) (r3 := 0) rfl rfl ?_
    refine wr_gr (k0 := 18) (x := 28) (nx := 156) (r1 := 4) (r2 := 14) (r3 := 0) rfl rfl (by decide) rfl ⟨rfl, rfl⟩ rfl ?_
    refine wi_iconst (n := 0) (nx := 157) (r1 := 0) (r2 := 0) (r3 := 0) rfl ?_
    refine wi_aload_n (i := 0) (x := 18) (nx := 158) (r1 := 0) (r2 := 0) (r3 := 0) rfl rfl ?_
    refine wr_gr (k0 := 18) (x := 28) (nx := 161) (r1 := 4) (r2 := 14) (r3 := 0) rfl rfl (by decide) rfl ⟨rfl, rfl⟩ rfl ?_
    refine wr_al (k0 := 28) (e := 144) (nx := 162) (r1 := 0) (r2 := 0) (r3 := 0) rfl (by decide) rfl rfl ?_
    refine wr_cpy (s0 := 161) (d0 := 28) (n0 := 144) (n1 := 144) (sp := 0) (dp := 0) (n := 144) (sl := -2147483648) (sh := 2147483647) (dl := -2147483648) (dh := 2147483647) (nx := 165) (r1 := 0) (r2 := 101) (r3 := 0) rfl rfl (of_decide_eq_true rfl) (by decide) (by decide) rfl rfl (by omega) (fun _ => rfl) (fun _ => rfl) (by omega) g34 (fun h36 g36 y36 u36 => ?_)
    have F37 := F35.then rfl u36
    refine wi_aload_n (i := 0) (x := 18) (nx := 166) (r1 := 0) (r2 := 0) (r3 := 0) rfl rfl ?_
    refine wi_aload_n (i := 1) (x := 151) (nx := 167) (r1 := 0) (r2 := 0) (r3 := 0) rfl rfl ?_
    have b38 := gi_b (lo := 0) (hi := 36) g 151 15 rfl
    refine wr_gi0 (k0 := 151) (x := h 151 15) (nx := 170) (r1 := 4) (r2 := 15) (r3 := 0) rfl rfl (by decide) rfl ⟨rfl, rfl⟩ rfl ((u36 151 15 rfl).trans ((u34 151 15 rfl).trans ((u31 151 15 rfl).trans ((u28 151 15 rfl).trans ((u25 151 15 rfl).trans ((u22 151 15 rfl).trans ((u19 151 15 rfl).trans ((u16 151 15 rfl).trans ((u13 151 15 rfl).trans ((u11 151 15 rfl).trans ((u9 151 15 rfl).trans ((u6 151 15 rfl).trans ((u3 151 15 rfl).trans (u1 151 15 rfl)))))))))))))) ?_
    refine wr_pf0 (k0 := 18) (x := h 151 15) (bl := 0) (bh := 36) (nx := 173) (r1 := 4) (r2 := 15) (r3 := 0) rfl (by decide) rfl ⟨rfl, rfl⟩ rfl rfl g36 rfl (by omega) (fun h39 g39 w39 u39 => ?_)
    have F40 := F37.then rfl u39
    refine wi_aload_n (i := 0) (x := 18) (nx := 174) (r1 := 0) (r2 := 0) (r3 := 0) rfl rfl ?_
    refine wi_dup (nx := 175) (r1 := 0) (r2 := 0) (r3 := 0) rfl rfl ?_
    have b41 := gi_b (lo := -2147483648) (hi := 2147483647) g 18 16 rfl
    refine wr_gi0 (k0 := 18) (x := h 18 16) (nx := 178) (r1 := 4) (r2 := 16) (r3 := 0) rfl rfl (by decide) rfl ⟨rfl, rfl⟩ rfl ((u39 18 16 rfl).trans ((u36 18 16 rfl).trans ((u34 18 16 rfl).trans ((u31 18 16 rfl).trans ((u28 18 16 rfl).trans ((u25 18 16 rfl).trans ((u22 18 16 rfl).trans ((u19 18 16 rfl).trans ((u16 18 16 rfl).trans ((u13 18 16 rfl).trans ((u11 18 16 rfl).trans ((u9 18 16 rfl).trans ((u6 18 16 rfl).trans ((u3 18 16 rfl).trans (u1 18 16 rfl))))))))))))))) ?_
    refine wi_iconst (n := 1) (nx := 179) (r1 := 0) (r2 := 0) (r3 := 0) rfl ?_
    refine wr_addW (nx := 180) (r1 := 0) (r2 := 0) (r3 := 0) rfl (fun e42 (fe42 : -2147483648 ≤ e42 ∧ e42 ≤ 2147483647) => ?_)
    refine wr_pf0 (k0 := 18) (x := e42) (bl := -2147483648) (bh := 2147483647) (nx := 183) (r1 := 4) (r2 := 16) (r3 := 0) rfl (by decide) rfl ⟨rfl, rfl⟩ rfl rfl g39 rfl (by omega) (fun h43 g43 w43 u43 => ?_)
    have F44 := F40.then rfl u43
    refine wi_return (nx := 184) (r1 := 0) (r2 := 0) (r3 := 0) rfl rfl ?_
    exact k h43 g43 F44
  ·
    refine wi_aload_n (i := 0) (x := 18) (nx := 38) (r1 := 0) (r2 := 0) (r3 := 0) rfl rfl ?_
    refine wr_gr (k0 := 18) (x := 21) (nx := 41) (r1 := 4) (r2 := 3) (r3 := 0) rfl rfl (by decide) rfl ⟨rfl, rfl⟩ rfl ?_
    refine wi_iload_n (i := 2) (e := x5) (nx := 42) (r1 := 0) (r2 := 0) (r3 := 0) rfl rfl ?_
    obtain ⟨i9, ei9⟩ : ∃ q : Nat, x5 = (q : Int) := ⟨(x5).toNat, by omega⟩
    refine wr_aa (k0 := 21) (a := x5) (f := i9) (x := 21 + 8 + 2 * i9) (nx := 43) (r1 := 0) (r2 := 0) (r3 := 0) rfl (by decide) rfl (Or.inl rfl) (by omega) (by omega) (by decide) (hcr.1 21 (by decide) i9 (by omega)) ?_
    obtain ⟨k10, kk10, mk10⟩ : ∃ q, Rw q ∧ q = 21 + 8 + 2 * i9 := ⟨_, rw_lane 21 (by decide) i9 (by omega), rfl⟩
    rw [← mk10]
    refine wi_aload_n (i := 1) (x := 151) (nx := 44) (r1 := 0) (r2 := 0) (r3 := 0) rfl rfl ?_
    refine wr_gr (k0 := 151) (x := 154) (nx := 47) (r1 := 4) (r2 := 3) (r3 := 0) rfl rfl (by decide) rfl ⟨rfl, rfl⟩ rfl ?_
    refine wi_iload_n (i := 2) (e := x5) (nx := 48) (r1 := 0) (r2 := 0) (r3 := 0) rfl rfl ?_
    refine wr_aa (k0 := 154) (a := x5) (f := i9) (x := 154 + 8 + 2 * i9) (nx := 49) (r1 := 0) (r2 := 0) (r3 := 0) rfl (by decide) rfl (Or.inl rfl) (by omega) (by omega) (by decide) (hcr.1 154 (by decide) i9 (by omega)) ?_
    obtain ⟨k11, kk11, mk11⟩ : ∃ q, Rw q ∧ q = 154 + 8 + 2 * i9 := ⟨_, rw_lane 154 (by decide) i9 (by omega), rfl⟩
    rw [← mk11]
    refine wr_V (k0 := k10) (rest := []) (as := [.ref k10, .ref k11]) (nx := 52) (r1 := 155) (r2 := 1) (r3 := 5) rfl rfl rfl (of_decide_eq_true rfl) rfl rfl kk10.k kk10.1 rfl (of_decide_eq_true rfl) (of_decide_eq_true rfl) ?_
    refine ct_155_R_R hcr kk10 kk11 g6    (fun h12 g12 u12 => ?_)
    have v12 := FR.rngp (lo := 29) (hi := 36) u12 (by omega)
    have F13 := F7.then rfl (FR.rngp (lo := 29) (hi := 36) u12 (by omega))
    have F14 := u6.then rfl (FR.rngp (lo := 29) (hi := 36) u12 (by omega))
    refine wk_n ?_
    refine wr_iinc (i := 2) (n := 1) (v := x5) (fun e15 => [(2, vi e15), (0, .ref 18), (1, .ref 151)]) (nx := 55) (r1 := 0) (r2 := 0) (r3 := 0) rfl rfl (fun _ => rfl) (fun e15 (fe15 : e15 = x5 + 1) => ?_)
    refine wi_goto (nx := 58) (r1 := 32) (r2 := 0) (r3 := 0) rfl ?_
    refine wp.lo (lo := [(0, .ref 18), (1, .ref 151), (2, vi e15)]) ⟨rfl, rfl, rfl, trivial⟩ rfl ?_
    exact I6 e15 h12 ⟨g12, F13, F14, (show (0 ≤ e15 ∧ e15 ≤ 4) by omega)⟩ (show ((4 : Int) + 1 - e15).toNat < ((4 : Int) + 1 - x5).toNat by omega)
-- method 132: Line.copyFrom(LPaintBank$Line;)V
set_option maxRecDepth 100000 in
set_option maxHeartbeats 100000000 in
theorem ct_132_18_170 {L : Nat} {xs : Nat → Int32} {d b c : Nat} {h : hp} {cr : Nat → Nat → Option Nat} {Q : hp_Q} (hcr : CR cr)  (g : GI h)    (k : ∀ (h2 : hp) , GI h2 → FR [(18, 36, none)] h h2 → Q (.inl none) (hp_w h2 cr) b c) : wp (md_xa (L, xs)) (d + 1) 132 (0, [(0, .ref 18), (1, .ref 170)], [], hp_w h cr, b, c) Q := by
  have F0 : FR [(18, 36, none)] h h := FR.refl
  refine wi_aload_n (i := 1) (x := 170) (nx := 1) (r1 := 0) (r2 := 0) (r3 := 0) rfl rfl ?_
  refine wr_gr (k0 := 170) (x := 171) (nx := 4) (r1 := 4) (r2 := 1) (r3 := 0) rfl rfl (by decide) rfl ⟨rfl, rfl⟩ rfl ?_
  refine wi_iconst (n := 0) (nx := 5) (r1 := 0) (r2 := 0) (r3 := 0) rfl ?_
  refine wi_aload_n (i := 0) (x := 18) (nx := 6) (r1 := 0) (r2 := 0) (r3 := 0) rfl rfl ?_
  refine wr_gr (k0 := 18) (x := 19) (nx := 9) (r1 := 4) (r2 := 1) (r3 := 0) rfl rfl (by decide) rfl ⟨rfl, rfl⟩ rfl ?_
  refine wi_iconst (n := 0) (nx := 10) (r1 := 0) (r2 := 0) (r3 := 0) rfl ?_
  refine wi_bipush (n := 12) (nx := 12) (r1 := 0) (r2 := 0) (r3 := 0) rfl (by decide) ?_
  refine wr_cpy (s0 := 171) (d0 := 19) (n0 := 12) (n1 := 12) (sp := 0) (dp := 0) (n := 12) (sl := -2147483648) (sh := 2147483647) (dl := -2147483648) (dh := 2147483647) (nx := 15) (r1 := 0) (r2 := 101) (r3 := 0) rfl rfl (of_decide_eq_true rfl) (by decide) (by decide) rfl rfl (by omega) (fun _ => rfl) (fun _ => rfl) (by omega) g (fun h1 g1 y1 u1 => ?_)
  have F2 := F0.then rfl u1
  refine wi_aload_n (i := 1) (x := 170) (nx := 16) (r1 := 0) (r2 := 0) (r3 := 0) rfl rfl ?_
  refine wr_gr (k0 := 170) (x := 172) (nx := 19) (r1 := 4) (r2 := 2) (r3 := 0) rfl rfl (by decide) rfl ⟨rfl, rfl⟩ rfl ?_
  refine wi_iconst (n := 0) (nx := 20) (r1 := 0) (r2 := 0) (r3 := 0) rfl ?_
  refine wi_aload_n (i := 0) (x := 18) (nx := 21) (r1 := 0) (r2 := 0) (r3 := 0) rfl rfl ?_
  refine wr_gr (k0 := 18) (x := 20) (nx := 24) (r1 := 4) (r2 := 2) (r3 := 0) rfl rfl (by decide) rfl ⟨rfl, rfl⟩ rfl ?_
  refine wi_iconst (n := 0) (nx := 25) (r1 := 0) (r2 := 0) (r3 := 0) rfl ?_
  refine wi_bipush (n := 12) (nx := 27) (r1 := 0) (r2 := 0) (r3 := 0) rfl (by decide) ?_
  refine wr_cpy (s0 := 172) (d0 := 20) (n0 := 12) (n1 := 12) (sp := 0) (dp := 0) (n := 12) (sl := -2147483648) (sh := 2147483647) (dl := -2147483648) (dh := 2147483647) (nx := 30) (r1 := 0) (r2 := 101) (r3 := 0) rfl rfl (of_decide_eq_true rfl) (by decide) (by decide) rfl rfl (by omega) (fun _ => rfl) (fun _ => rfl) (by omega) g1 (fun h3 g3 y3 u3 => ?_)
  have F4 := F2.then rfl u3
  refine wi_iconst (n := 0) (nx := 31) (r1 := 0) (r2 := 0) (r3 := 0) rfl ?_
  refine wi_istore_n (i := 2) (e := 0) (lo2 := [(2, vi 0), (0, .ref 18), (1, .ref 170)]) (nx := 32) (r1 := 0) (r2 := 0) (r3 := 0) rfl rfl ?_
  refine wp.lo (lo := [(0, .ref 18), (1, .ref 170), (2, vi 0)]) ⟨rfl, rfl, rfl, trivial⟩ rfl ?_
  refine wl_1 (fun x5 h6 => GI h6 ∧ FR [(18, 36, none)] h h6 ∧ FR [(29, 36, none)] h3 h6 ∧ ((0 ≤ x5 ∧ x5 ≤ 4))) (fun x5 h6 => ((4 : Int) + 1 - x5).toNat) (fun x5 h6 => (32, [(0, .ref 18), (1, .ref 170), (2, vi x5)], [], hp_w h6 cr, b, c)) ?_ 0 h3 ⟨g3, F4, FR.refl, (show (0 ≤ 0 ∧ 0 ≤ 4) by omega)⟩
  intro x5 h6 ⟨g6, F7, u6, f6⟩ I6
  refine wi_iload_n (i := 2) (e := x5) (nx := 33) (r1 := 0) (r2 := 0) (r3 := 0) rfl rfl ?_
  refine wi_iconst (n := 4) (nx := 34) (r1 := 0) (r2 := 0) (r3 := 0) rfl ?_
  refine wi_icmp (cd := .ge) (nx := 37) (r1 := 58) (r2 := 0) (r3 := 0) rfl (by omega) (by omega) (fun (q8 : 4 ≤ x5) => ?_) (fun (q8 : ¬ (4 ≤ x5)) => ?_)
  ·
    refine wi_aload_n (i := 0) (x := 18) (nx := 59) (r1 := 0) (r2 := 0) (r3 := 0) rfl rfl ?_
    refine wr_gr (k0 := 18) (x := 22) (nx := 62) (r1 := 4) (r2 := 4) (r3 := 0) rfl rfl (by decide) rfl ⟨rfl, rfl⟩ rfl ?_
    refine wi_aload_n (i := 1) (x := 170) (nx := 63) (r1 := 0) (r2 := 0) (r3 := 0) rfl rfl ?_
    refine wr_gr (k0 := 170) (x := 174) (nx := 66) (r1 := 4) (r2 := 4) (r3 := 0) rfl rfl (by decide) rfl ⟨rfl, rfl⟩ rfl ?_
    refine wr_V (k0 := 22) (rest := []) (as := [.ref 22, .ref 174]) (nx := 69) (r1 := 155) (r2 := 1) (r3 := 5) rfl rfl rfl (of_decide_eq_true rfl) rfl rfl (by decide) rfl rfl (of_decide_eq_true rfl) (of_decide_eq_true rfl) ?_
    refine ct_155_R_R hcr rw_22 rw_174 g6    (fun h9 g9 u9 => ?_)
    have F10 := F7.then rfl u9
    refine wk_n ?_
    refine wi_aload_n (i := 0) (x := 18) (nx := 70) (r1 := 0) (r2 := 0) (r3 := 0) rfl rfl ?_
    refine wr_gr (k0 := 18) (x := 24) (nx := 73) (r1 := 4) (r2 := 5) (r3 := 0) rfl rfl (by decide) rfl ⟨rfl, rfl⟩ rfl ?_
    refine wi_aload_n (i := 1) (x := 170) (nx := 74) (r1 := 0) (r2 := 0) (r3 := 0) rfl rfl ?_
    refine wr_gr (k0 := 170) (x := 176) (nx := 77) (r1 := 4) (r2 := 5) (r3 := 0) rfl rfl (by decide) rfl ⟨rfl, rfl⟩ rfl ?_
    refine wr_V (k0 := 24) (rest := []) (as := [.ref 24, .ref 176]) (nx := 80) (r1 := 155) (r2 := 1) (r3 := 5) rfl rfl rfl (of_decide_eq_true rfl) rfl rfl (by decide) rfl rfl (of_decide_eq_true rfl) (of_decide_eq_true rfl) ?_
    refine ct_155_R_R hcr rw_24 rw_176 g9    (fun h11 g11 u11 => ?_)
    have F12 := F10.then rfl u11
    refine wk_n ?_
    refine wi_aload_n (i := 0) (x := 18) (nx := 81) (r1 := 0) (r2 := 0) (r3 := 0) rfl rfl ?_
    refine wr_gr (k0 := 18) (x := 26) (nx := 84) (r1 := 4) (r2 := 6) (r3 := 0) rfl rfl (by decide) rfl ⟨rfl, rfl⟩ rfl ?_
    refine wi_aload_n (i := 1) (x := 170) (nx := 85) (r1 := 0) (r2 := 0) (r3 := 0) rfl rfl ?_
    refine wr_gr (k0 := 170) (x := 178) (nx := 88) (r1 := 4) (r2 := 6) (r3 := 0) rfl rfl (by decide) rfl ⟨rfl, rfl⟩ rfl ?_
    refine wr_V (k0 := 26) (rest := []) (as := [.ref 26, .ref 178]) (nx := 91) (r1 := 155) (r2 := 1) (r3 := 5) rfl rfl rfl (of_decide_eq_true rfl) rfl rfl (by decide) rfl rfl (of_decide_eq_true rfl) (of_decide_eq_true rfl) ?_
    refine ct_155_R_R hcr rw_26 rw_178 g11    (fun h13 g13 u13 => ?_)
    have F14 := F12.then rfl u13
    refine wk_n ?_
    refine wi_aload_n (i := 0) (x := 18) (nx := 92) (r1 := 0) (r2 := 0) (r3 := 0) rfl rfl ?_
    refine wi_aload_n (i := 1) (x := 170) (nx := 93) (r1 := 0) (r2 := 0) (r3 := 0) rfl rfl ?_
    have b15 := gi_b (lo := 0) (hi := 12) g 170 7 rfl
    refine wr_gi0 (k0 := 170) (x := h 170 7) (nx := 96) (r1 := 4) (r2 := 7) (r3 := 0) rfl rfl (by decide) rfl ⟨rfl, rfl⟩ rfl ((u13 170 7 rfl).trans ((u11 170 7 rfl).trans ((u9 170 7 rfl).trans ((u6 170 7 rfl).trans ((u3 170 7 rfl).trans (u1 170 7 rfl)))))) ?_
    refine wr_pf0 (k0 := 18) (x := h 170 7) (bl := 0) (bh := 12) (nx := 99) (r1 := 4) (r2 := 7) (r3 := 0) rfl (by decide) rfl ⟨rfl, rfl⟩ rfl rfl g13 rfl (by omega) (fun h16 g16 w16 u16 => ?_)
    have F17 := F14.then rfl u16
    refine wi_aload_n (i := 0) (x := 18) (nx := 100) (r1 := 0) (r2 := 0) (r3 := 0) rfl rfl ?_
    refine wi_aload_n (i := 1) (x := 170) (nx := 101) (r1 := 0) (r2 := 0) (r3 := 0) rfl rfl ?_
    have b18 := gi_b (lo := -2147483648) (hi := 2147483647) g 170 8 rfl
    refine wr_gi0 (k0 := 170) (x := h 170 8) (nx := 104) (r1 := 4) (r2 := 8) (r3 := 0) rfl rfl (by decide) rfl ⟨rfl, rfl⟩ rfl ((u16 170 8 rfl).trans ((u13 170 8 rfl).trans ((u11 170 8 rfl).trans ((u9 170 8 rfl).trans ((u6 170 8 rfl).trans ((u3 170 8 rfl).trans (u1 170 8 rfl))))))) ?_
    refine wr_pf0 (k0 := 18) (x := h 170 8) (bl := -2147483648) (bh := 2147483647) (nx := 107) (r1 := 4) (r2 := 8) (r3 := 0) rfl (by decide) rfl ⟨rfl, rfl⟩ rfl rfl g16 rfl (by omega) (fun h19 g19 w19 u19 => ?_)
    have F20 := F17.then rfl u19
    refine wi_aload_n (i := 0) (x := 18) (nx := 108) (r1 := 0) (r2 := 0) (r3 := 0) rfl rfl ?_
    refine wi_aload_n (i := 1) (x := 170) (nx := 109) (r1 := 0) (r2 := 0) (r3 := 0) rfl rfl ?_
    have b21 := gi_b (lo := -2147483648) (hi := 2147483647) g 170 9 rfl
    refine wr_gi0 (k0 := 170) (x := h 170 9) (nx := 112) (r1 := 4) (r2 := 9) (r3 := 0) rfl rfl (by decide) rfl ⟨rfl, rfl⟩ rfl ((u19 170 9 rfl).trans ((u16 170 9 rfl).trans ((u13 170 9 rfl).trans ((u11 170 9 rfl).trans ((u9 170 9 rfl).trans ((u6 170 9 rfl).trans ((u3 170 9 rfl).trans (u1 170 9 rfl)))))))) ?_
    refine wr_pf0 (k0 := 18) (x := h 170 9) (bl := -2147483648) (bh := 2147483647) (nx := 115) (r1 := 4) (r2 := 9) (r3 := 0) rfl (by decide) rfl ⟨rfl, rfl⟩ rfl rfl g19 rfl (by omega) (fun h22 g22 w22 u22 => ?_)
    have F23 := F20.then rfl u22
    refine wi_aload_n (i := 0) (x := 18) (nx := 116) (r1 := 0) (r2 := 0) (r3 := 0) rfl rfl ?_
    refine wi_aload_n (i := 1) (x := 170) (nx := 117) (r1 := 0) (r2 := 0) (r3 := 0) rfl rfl ?_
    have b24 := gi_b (lo := -2147483648) (hi := 2147483647) g 170 10 rfl
    refine wr_gi0 (k0 := 170) (x := h 170 10) (nx := 120) (r1 := 4) (r2 := 10) (r3 := 0) rfl rfl (by decide) rfl ⟨rfl, rfl⟩ rfl ((u22 170 10 rfl).trans ((u19 170 10 rfl).trans ((u16 170 10 rfl).trans ((u13 170 10 rfl).trans ((u11 170 10 rfl).trans ((u9 170 10 rfl).trans ((u6 170 10 rfl).trans ((u3 170 10 rfl).trans (u1 170 10 rfl))))))))) ?_
    refine wr_pf0 (k0 := 18) (x := h 170 10) (bl := -2147483648) (bh := 2147483647) (nx := 123) (r1 := 4) (r2 := 10) (r3 := 0) rfl (by decide) rfl ⟨rfl, rfl⟩ rfl rfl g22 rfl (by omega) (fun h25 g25 w25 u25 => ?_)
    have F26 := F23.then rfl u25
    refine wi_aload_n (i := 0) (x := 18) (nx := 124) (r1 := 0) (r2 := 0) (r3 := 0) rfl rfl ?_
    refine wi_aload_n (i := 1) (x := 170) (nx := 125) (r1 := 0) (r2 := 0) (r3 := 0) rfl rfl ?_
    have b27 := gi_b (lo := -2147483648) (hi := 2147483647) g 170 11 rfl
    refine wr_gi0 (k0 := 170) (x := h 170 11) (nx := 128) (r1 := 4) (r2 := 11) (r3 := 0) rfl rfl (by decide) rfl ⟨rfl, rfl⟩ rfl ((u25 170 11 rfl).trans ((u22 170 11 rfl).trans ((u19 170 11 rfl).trans ((u16 170 11 rfl).trans ((u13 170 11 rfl).trans ((u11 170 11 rfl).trans ((u9 170 11 rfl).trans ((u6 170 11 rfl).trans ((u3 170 11 rfl).trans (u1 170 11 rfl)))))))))) ?_
    refine wr_pf0 (k0 := 18) (x := h 170 11) (bl := -2147483648) (bh := 2147483647) (nx := 131) (r1 := 4) (r2 := 11) (r3 := 0) rfl (by decide) rfl ⟨rfl, rfl⟩ rfl rfl g25 rfl (by omega) (fun h28 g28 w28 u28 => ?_)
    have F29 := F26.then rfl u28
    refine wi_aload_n (i := 0) (x := 18) (nx := 132) (r1 := 0) (r2 := 0) (r3 := 0) rfl rfl ?_
    refine wi_aload_n (i := 1) (x := 170) (nx := 133) (r1 := 0) (r2 := 0) (r3 := 0) rfl rfl ?_
    have b30 := gi_b (lo := -2147483648) (hi := 2147483647) g 170 12 rfl
    refine wr_gi0 (k0 := 170) (x := h 170 12) (nx := 136) (r1 := 4) (r2 := 12) (r3 := 0) rfl rfl (by decide) rfl ⟨rfl, rfl⟩ rfl ((u28 170 12 rfl).trans ((u25 170 12 rfl).trans ((u22 170 12 rfl).trans ((u19 170 12 rfl).trans ((u16 170 12 rfl).trans ((u13 170 12 rfl).trans ((u11 170 12 rfl).trans ((u9 170 12 rfl).trans ((u6 170 12 rfl).trans ((u3 170 12 rfl).trans (u1 170 12 rfl))))))))))) ?_
    refine wr_pf0 (k0 := 18) (x := h 170 12) (bl := -2147483648) (bh := 2147483647) (nx := 139) (r1 := 4) (r2 := 12) (r3 := 0) rfl (by decide) rfl ⟨rfl, rfl⟩ rfl rfl g28 rfl (by omega) (fun h31 g31 w31 u31 => ?_)
    have F32 := F29.then rfl u31
    refine wi_aload_n (i := 0) (x := 18) (nx := 140) (r1 := 0) (r2 := 0) (r3 := 0) rfl rfl ?_
    refine wi_aload_n (i := 1) (x := 170) (nx := 141) (r1 := 0) (r2 := 0) (r3 := 0) rfl rfl ?_
    have b33 := gi_b (lo := -2147483648) (hi := 2147483647) g 170 13 rfl
    refine wr_gi0 (k0 := 170) (x := h 170 13) (nx := 144) (r1 := 4) (r2 := 13) (r3 := 0) rfl rfl (by decide) rfl ⟨rfl, rfl⟩ rfl ((u31 170 13 rfl).trans ((u28 170 13 rfl).trans ((u25 170 13 rfl).trans ((u22 170 13 rfl).trans ((u19 170 13 rfl).trans ((u16 170 13 rfl).trans ((u13 170 13 rfl).trans ((u11 170 13 rfl).trans ((u9 170 13 rfl).trans ((u6 170 13 rfl).trans ((u3 170 13 rfl).trans (u1 170 13 rfl)))))))))))) ?_
    refine wr_pf0 (k0 := 18) (x := h 170 13) (bl := -2147483648) (bh := 2147483647) (nx := 147) (r1 := 4) (r2 := 13) (r3 := 0) rfl (by decide) rfl ⟨rfl, rfl⟩ rfl rfl g31 rfl (by omega) (fun h34 g34 w34 u34 => ?_)
    have F35 := F32.then rfl u34
    refine wi_aload_n (i := 1) (x := 170) (nx := 148) (r1 := 0) (r2 := 0) (r3 := 0) rfl rfl ?_
    refine wr_gr (k0 := 170) (x := 180) (nx := 151) (r1 := 4) (r2 := 14) (r3 := 0) rfl rfl (by decide) rfl ⟨rfl, rfl⟩ rfl ?_
    refine wi_iconst (n := 0) (nx := 152) (r1 := 0) (r2 := 0) (r3 := 0) rfl ?_
    refine wi_aload_n (i := 0) (x := 18) (nx := 153) (r1 := 0) (r2 := 0) (r3 := 0) rfl rfl ?_
    refine wr_gr (k0 := 18) (x := 28) (nx := 156) (r1 := 4) (r2 := 14) (r3 := 0) rfl rfl (by decide) rfl ⟨rfl, rfl⟩ rfl ?_
    refine wi_iconst (n := 0) (nx := 157) (r1 := 0) (r2 := 0) (r3 := 0) rfl ?_
    refine wi_aload_n (i := 0) (x := 18) (nx := 158) (r1 := 0) (r2 := 0) (r3 := 0) rfl rfl ?_
    refine wr_gr (k0 := 18) (x := 28) (nx := 161) (r1 := 4) (r2 := 14) (r3 := 0) rfl rfl (by decide) rfl ⟨rfl, rfl⟩ rfl ?_
    refine wr_al (k0 := 28) (e := 144) (nx := 162) (r1 := 0) (r2 := 0) (r3 := 0) rfl (by decide) rfl rfl ?_
    refine wr_cpy (s0 := 180) (d0 := 28) (n0 := 144) (n1 := 144) (sp := 0) (dp := 0) (n := 144) (sl := -2147483648) (sh := 2147483647) (dl := -2147483648) (dh := 2147483647) (nx := 165) (r1 := 0) (r2 := 101) (r3 := 0) rfl rfl (of_decide_eq_true rfl) (by decide) (by decide) rfl rfl (by omega) (fun _ => rfl) (fun _ => rfl) (by omega) g34 (fun h36 g36 y36 u36 => ?_)
    have F37 := F35.then rfl u36
    refine wi_aload_n (i := 0) (x := 18) (nx := 166) (r1 := 0) (r2 := 0) (r3 := 0) rfl rfl ?_
    refine wi_aload_n (i := 1) (x := 170) (nx := 167) (r1 := 0) (r2 := 0) (r3 := 0) rfl rfl ?_
    have b38 := gi_b (lo := 0) (hi := 36) g 170 15 rfl
    refine wr_gi0 (k0 := 170) (x := h 170 15) (nx := 170) (r1 := 4) (r2 := 15) (r3 := 0) rfl rfl (by decide) rfl ⟨rfl, rfl⟩ rfl ((u36 170 15 rfl).trans ((u34 170 15 rfl).trans ((u31 170 15 rfl).trans ((u28 170 15 rfl).trans ((u25 170 15 rfl).trans ((u22 170 15 rfl).trans ((u19 170 15 rfl).trans ((u16 170 15 rfl).trans ((u13 170 15 rfl).trans ((u11 170 15 rfl).trans ((u9 170 15 rfl).trans ((u6 170 15 rfl).trans ((u3 170 15 rfl).trans (u1 170 15 rfl)))))))))))))) ?_
    refine wr_pf0 (k0 := 18) (x := h 170 15) (bl := 0) (bh := 36) (nx := 173) (r1 := 4) (r2 := 15) (r3 := 0) rfl (by decide) rfl ⟨rfl, rfl⟩ rfl rfl g36 rfl (by omega) (fun h39 g39 w39 u39 => ?_)
    have F40 := F37.then rfl u39
    refine wi_aload_n (i := 0) (x := 18) (nx := 174) (r1 := 0) (r2 := 0) (r3 := 0) rfl rfl ?_
    refine wi_dup (nx := 175) (r1 := 0) (r2 := 0) (r3 := 0) rfl rfl ?_
    have b41 := gi_b (lo := -2147483648) (hi := 2147483647) g 18 16 rfl
    refine wr_gi0 (k0 := 18) (x := h 18 16) (nx := 178) (r1 := 4) (r2 := 16) (r3 := 0) rfl rfl (by decide) rfl ⟨rfl, rfl⟩ rfl ((u39 18 16 rfl).trans ((u36 18 16 rfl).trans ((u34 18 16 rfl).trans ((u31 18 16 rfl).trans ((u28 18 16 rfl).trans ((u25 18 16 rfl).trans ((u22 18 16 rfl).trans ((u19 18 16 rfl).trans ((u16 18 16 rfl).trans ((u13 18 16 rfl).trans ((u11 18 16 rfl).trans ((u9 18 16 rfl).trans ((u6 18 16 rfl).trans ((u3 18 16 rfl).trans (u1 18 16 rfl))))))))))))))) ?_
    refine wi_iconst (n := 1) (nx := 179) (r1 := 0) (r2 := 0) (r3 := 0) rfl ?_
    refine wr_addW (nx := 180) (r1 := 0) (r2 := 0) (r3 := 0) rfl (fun e42 (fe42 : -2147483648 ≤ e42 ∧ e42 ≤ 2147483647) => ?_)
    refine wr_pf0 (k0 := 18) (x := e42) (bl := -2147483648) (bh := 2147483647) (nx := 183) (r1 := 4) (r2 := 16) (r3 := 0) rfl (by decide) rfl ⟨rfl, rfl⟩ rfl rfl g39 rfl (by omega) (fun h43 g43 w43 u43 => ?_)
    have F44 := F40.then rfl u43
    refine wi_return (nx := 184) (r1 := 0) (r2 := 0) (r3 := 0) rfl rfl ?_
    exact k h43 g43 F44
  ·
    refine wi_aload_n (i := 0) (x := 18) (nx := 38) (r1 := 0) (r2 := 0) (r3 := 0) rfl rfl ?_
    refine wr_gr (k0 := 18) (x := 21) (nx := 41) (r1 := 4) (r2 := 3) (r3 := 0) rfl rfl (by decide) rfl ⟨rfl, rfl⟩ rfl ?_
    refine wi_iload_n (i := 2) (e := x5) (nx := 42) (r1 := 0) (r2 := 0) (r3 := 0) rfl rfl ?_
    obtain ⟨i9, ei9⟩ : ∃ q : Nat, x5 = (q : Int) := ⟨(x5).toNat, by omega⟩
    refine wr_aa (k0 := 21) (a := x5) (f := i9) (x := 21 + 8 + 2 * i9) (nx := 43) (r1 := 0) (r2 := 0) (r3 := 0) rfl (by decide) rfl (Or.inl rfl) (by omega) (by omega) (by decide) (hcr.1 21 (by decide) i9 (by omega)) ?_
    obtain ⟨k10, kk10, mk10⟩ : ∃ q, Rw q ∧ q = 21 + 8 + 2 * i9 := ⟨_, rw_lane 21 (by decide) i9 (by omega), rfl⟩
    rw [← mk10]
    refine wi_aload_n (i := 1) (x := 170) (nx := 44) (r1 := 0) (r2 := 0) (r3 := 0) rfl rfl ?_
    refine wr_gr (k0 := 170) (x := 173) (nx := 47) (r1 := 4) (r2 := 3) (r3 := 0) rfl rfl (by decide) rfl ⟨rfl, rfl⟩ rfl ?_
    refine wi_iload_n (i := 2) (e := x5) (nx := 48) (r1 := 0) (r2 := 0) (r3 := 0) rfl rfl ?_
    refine wr_aa (k0 := 173) (a := x5) (f := i9) (x := 173 + 8 + 2 * i9) (nx := 49) (r1 := 0) (r2 := 0) (r3 := 0) rfl (by decide) rfl (Or.inl rfl) (by omega) (by omega) (by decide) (hcr.1 173 (by decide) i9 (by omega)) ?_
    obtain ⟨k11, kk11, mk11⟩ : ∃ q, Rw q ∧ q = 173 + 8 + 2 * i9 := ⟨_, rw_lane 173 (by decide) i9 (by omega), rfl⟩
    rw [← mk11]
    refine wr_V (k0 := k10) (rest := []) (as := [.ref k10, .ref k11]) (nx := 52) (r1 := 155) (r2 := 1) (r3 := 5) rfl rfl rfl (of_decide_eq_true rfl) rfl rfl kk10.k kk10.1 rfl (of_decide_eq_true rfl) (of_decide_eq_true rfl) ?_
    refine ct_155_R_R hcr kk10 kk11 g6    (fun h12 g12 u12 => ?_)
    have v12 := FR.rngp (lo := 29) (hi := 36) u12 (by omega)
    have F13 := F7.then rfl (FR.rngp (lo := 29) (hi := 36) u12 (by omega))
    have F14 := u6.then rfl (FR.rngp (lo := 29) (hi := 36) u12 (by omega))
    refine wk_n ?_
    refine wr_iinc (i := 2) (n := 1) (v := x5) (fun e15 => [(2, vi e15), (0, .ref 18), (1, .ref 170)]) (nx := 55) (r1 := 0) (r2 := 0) (r3 := 0) rfl rfl (fun _ => rfl) (fun e15 (fe15 : e15 = x5 + 1) => ?_)
    refine wi_goto (nx := 58) (r1 := 32) (r2 := 0) (r3 := 0) rfl ?_
    refine wp.lo (lo := [(0, .ref 18), (1, .ref 170), (2, vi e15)]) ⟨rfl, rfl, rfl, trivial⟩ rfl ?_
    exact I6 e15 h12 ⟨g12, F13, F14, (show (0 ≤ e15 ∧ e15 ≤ 4) by omega)⟩ (show ((4 : Int) + 1 - e15).toNat < ((4 : Int) + 1 - x5).toNat by omega)
-- method 132: Line.copyFrom(LPaintBank$Line;)V
set_option maxRecDepth 100000 in
set_option maxHeartbeats 100000000 in
theorem ct_132_18_189 {L : Nat} {xs : Nat → Int32} {d b c : Nat} {h : hp} {cr : Nat → Nat → Option Nat} {Q : hp_Q} (hcr : CR cr)  (g : GI h)    (k : ∀ (h2 : hp) , GI h2 → FR [(18, 36, none)] h h2 → Q (.inl none) (hp_w h2 cr) b c) : wp (md_xa (L, xs)) (d + 1) 132 (0, [(0, .ref 18), (1, .ref 189)], [], hp_w h cr, b, c) Q := by
  have F0 : FR [(18, 36, none)] h h := FR.refl
  refine wi_aload_n (i := 1) (x := 189) (nx := 1) (r1 := 0) (r2 := 0) (r3 := 0) rfl rfl ?_
  refine wr_gr (k0 := 189) (x := 190) (nx := 4) (r1 := 4) (r2 := 1) (r3 := 0) rfl rfl (by decide) rfl ⟨rfl, rfl⟩ rfl ?_
  refine wi_iconst (n := 0) (nx := 5) (r1 := 0) (r2 := 0) (r3 := 0) rfl ?_
  refine wi_aload_n (i := 0) (x := 18) (nx := 6) (r1 := 0) (r2 := 0) (r3 := 0) rfl rfl ?_
  refine wr_gr (k0 := 18) (x := 19) (nx := 9) (r1 := 4) (r2 := 1) (r3 := 0) rfl rfl (by decide) rfl ⟨rfl, rfl⟩ rfl ?_
  refine wi_iconst (n := 0) (nx := 10) (r1 := 0) (r2 := 0) (r3 := 0) rfl ?_
  refine wi_bipush (n := 12) (nx := 12) (r1 := 0) (r2 := 0) (r3 := 0) rfl (by decide) ?_
  refine wr_cpy (s0 := 190) (d0 := 19) (n0 := 12) (n1 := 12) (sp := 0) (dp := 0) (n := 12) (sl := -2147483648) (sh := 2147483647) (dl := -2147483648) (dh := 2147483647) (nx := 15) (r1 := 0) (r2 := 101) (r3 := 0) rfl rfl (of_decide_eq_true rfl) (by decide) (by decide) rfl rfl (by omega) (fun _ => rfl) (fun _ => rfl) (by omega) g (fun h1 g1 y1 u1 => ?_)
  have F2 := F0.then rfl u1
  refine wi_aload_n (i := 1) (x := 189) (nx := 16) (r1 := 0) (r2 := 0) (r3 := 0) rfl rfl ?_
  refine wr_gr (k0 := 189) (x := 191) (nx := 19) (r1 := 4) (r2 := 2) (r3 := 0) rfl rfl (by decide) rfl ⟨rfl, rfl⟩ rfl ?_
  refine wi_iconst (n := 0) (nx := 20) (r1 := 0) (r2 := 0) (r3 := 0) rfl ?_
  refine wi_aload_n (i := 0) (x := 18) (nx := 21) (r1 := 0) (r2 := 0) (r3 := 0) rfl rfl ?_
  refine wr_gr (k0 := 18) (x := 20) (nx := 24) (r1 := 4) (r2 := 2) (r3 := 0) rfl rfl (by decide) rfl ⟨rfl, rfl⟩ rfl ?_
  refine wi_iconst (n := 0) (nx := 25) (r1 := 0) (r2 := 0) (r3 := 0) rfl ?_
  refine wi_bipush (n := 12) (nx := 27) (r1 := 0) (r2 := 0) (r3 := 0) rfl (by decide) ?_
  refine wr_cpy (s0 := 191) (d0 := 20) (n0 := 12) (n1 := 12) (sp := 0) (dp := 0) (n := 12) (sl := -2147483648) (sh := 2147483647) (dl := -2147483648) (dh := 2147483647) (nx := 30) (r1 := 0) (r2 := 101) (r3 := 0) rfl rfl (of_decide_eq_true rfl) (by decide) (by decide) rfl rfl (by omega) (fun _ => rfl) (fun _ => rfl) (by omega) g1 (fun h3 g3 y3 u3 => ?_)
  have F4 := F2.then rfl u3
  refine wi_iconst (n := 0) (nx := 31) (r1 := 0) (r2 := 0) (r3 := 0) rfl ?_
  refine wi_istore_n (i := 2) (e := 0) (lo2 := [(2, vi 0), (0, .ref 18), (1, .ref 189)]) (nx := 32) (r1 := 0) (r2 := 0) (r3 := 0) rfl rfl ?_
  refine wp.lo (lo := [(0, .ref 18), (1, .ref 189), (2, vi 0)]) ⟨rfl, rfl, rfl, trivial⟩ rfl ?_
  refine wl_1 (fun x5 h6 => GI h6 ∧ FR [(18, 36, none)] h h6 ∧ FR [(29, 36, none)] h3 h6 ∧ ((0 ≤ x5 ∧ x5 ≤ 4))) (fun x5 h6 => ((4 : Int) + 1 - x5).toNat) (fun x5 h6 => (32, [(0, .ref 18), (1, .ref 189), (2, vi x5)], [], hp_w h6 cr, b, c)) ?_ 0 h3 ⟨g3, F4, FR.refl, (show (0 ≤ 0 ∧ 0 ≤ 4) by omega)⟩
  intro x5 h6 ⟨g6, F7, u6, f6⟩ I6
  refine wi_iload_n (i := 2) (e := x5) (nx := 33) (r1 := 0) (r2 := 0) (r3 := 0) rfl rfl ?_
  refine wi_iconst (n := 4) (nx := 34) (r1 := 0) (r2 := 0) (r3 := 0) rfl ?_
  refine wi_icmp (cd := .ge) (nx := 37) (r1 := 58) (r2 := 0) (r3 := 0) rfl (by omega) (by omega) (fun (q8 : 4 ≤ x5) => ?_) (fun (q8 : ¬ (4 ≤ x5)) => ?_)
  ·
    refine wi_aload_n (i := 0) (x := 18) (nx := 59) (r1 := 0) (r2 := 0) (r3 := 0) rfl rfl ?_
    refine wr_gr (k0 := 18) (x := 22) (nx := 62) (r1 := 4) (r2 := 4) (r3 := 0) rfl rfl (by decide) rfl ⟨rfl, rfl⟩ rfl ?_
    refine wi_aload_n (i := 1) (x := 189) (nx := 63) (r1 := 0) (r2 := 0) (r3 := 0) rfl rfl ?_
    refine wr_gr (k0 := 189) (x := 193) (nx := 66) (r1 := 4) (r2 := 4) (r3 := 0) rfl rfl (by decide) rfl ⟨rfl, rfl⟩ rfl ?_
    refine wr_V (k0 := 22) (rest := []) (as := [.ref 22, .ref 193]) (nx := 69) (r1 := 155) (r2 := 1) (r3 := 5) rfl rfl rfl (of_decide_eq_true rfl) rfl rfl (by decide) rfl rfl (of_decide_eq_true rfl) (of_decide_eq_true rfl) ?_
    refine ct_155_R_R hcr rw_22 rw_193 g6    (fun h9 g9 u9 => ?_)
    have F10 := F7.then rfl u9
    refine wk_n ?_
    refine wi_aload_n (i := 0) (x := 18) (nx := 70) (r1 := 0) (r2 := 0) (r3 := 0) rfl rfl ?_
    refine wr_gr (k0 := 18) (x := 24) (nx := 73) (r1 := 4) (r2 := 5) (r3 := 0) rfl rfl (by decide) rfl ⟨rfl, rfl⟩ rfl ?_
    refine wi_aload_n (i := 1) (x := 189) (nx := 74) (r1 := 0) (r2 := 0) (r3 := 0) rfl rfl ?_
    refine wr_gr (k0 := 189) (x := 195) (nx := 77) (r1 := 4) (r2 := 5) (r3 := 0) rfl rfl (by decide) rfl ⟨rfl, rfl⟩ rfl ?_
    refine wr_V (k0 := 24) (rest := []) (as := [.ref 24, .ref 195]) (nx := 80) (r1 := 155) (r2 := 1) (r3 := 5) rfl rfl rfl (of_decide_eq_true rfl) rfl rfl (by decide) rfl rfl (of_decide_eq_true rfl) (of_decide_eq_true rfl) ?_
    refine ct_155_R_R hcr rw_24 rw_195 g9    (fun h11 g11 u11 => ?_)
    have F12 := F10.then rfl u11
    refine wk_n ?_
    refine wi_aload_n (i := 0) (x := 18) (nx := 81) (r1 := 0) (r2 := 0) (r3 := 0) rfl rfl ?_
    refine wr_gr (k0 := 18) (x := 26) (nx := 84) (r1 := 4) (r2 := 6) (r3 := 0) rfl rfl (by decide) rfl ⟨rfl, rfl⟩ rfl ?_
    refine wi_aload_n (i := 1) (x := 189) (nx := 85) (r1 := 0) (r2 := 0) (r3 := 0) rfl rfl ?_
    refine wr_gr (k0 := 189) (x := 197) (nx := 88) (r1 := 4) (r2 := 6) (r3 := 0) rfl rfl (by decide) rfl ⟨rfl, rfl⟩ rfl ?_
    refine wr_V (k0 := 26) (rest := []) (as := [.ref 26, .ref 197]) (nx := 91) (r1 := 155) (r2 := 1) (r3 := 5) rfl rfl rfl (of_decide_eq_true rfl) rfl rfl (by decide) rfl rfl (of_decide_eq_true rfl) (of_decide_eq_true rfl) ?_
    refine ct_155_R_R hcr rw_26 rw_197 g11    (fun h13 g13 u13 => ?_)
    have F14 := F12.then rfl u13
    refine wk_n ?_
    refine wi_aload_n (i := 0) (x := 18) (nx := 92) (r1 := 0) (r2 := 0) (r3 := 0) rfl rfl ?_
    refine wi_aload_n (i := 1) (x := 189) (nx := 93) (r1 := 0) (r2 := 0) (r3 := 0) rfl rfl ?_
    have b15 := gi_b (lo := 0) (hi := 12) g 189 7 rfl
    refine wr_gi0 (k0 := 189) (x := h 189 7) (nx := 96) (r1 := 4) (r2 := 7) (r3 := 0) rfl rfl (by decide) rfl ⟨rfl, rfl⟩ rfl ((u13 189 7 rfl).trans ((u11 189 7 rfl).trans ((u9 189 7 rfl).trans ((u6 189 7 rfl).trans ((u3 189 7 rfl).trans (u1 189 7 rfl)))))) ?_
    refine wr_pf0 (k0 := 18) (x := h 189 7) (bl := 0) (bh := 12) (nx := 99) (r1 := 4) (r2 := 7) (r3 := 0) rfl (by decide) rfl ⟨rfl, rfl⟩ rfl rfl g13 rfl (by omega) (fun h16 g16 w16 u16 => ?_)
    have F17 := F14.then rfl u16
    refine wi_aload_n (i := 0) (x := 18) (nx := 100) (r1 := 0) (r2 := 0) (r3 := 0) rfl rfl ?_
    refine wi_aload_n (i := 1) (x := 189) (nx := 101) (r1 := 0) (r2 := 0) (r3 := 0) rfl rfl ?_
    have b18 := gi_b (lo := -2147483648) (hi := 2147483647) g 189 8 rfl
    refine wr_gi0 (k0 := 189) (x := h 189 8) (nx := 104) (r1 := 4) (r2 := 8) (r3 := 0) rfl rfl (by decide) rfl ⟨rfl, rfl⟩ rfl ((u16 189 8 rfl).trans ((u13 189 8 rfl).trans ((u11 189 8 rfl).trans ((u9 189 8 rfl).trans ((u6 189 8 rfl).trans ((u3 189 8 rfl).trans (u1 189 8 rfl))))))) ?_
    refine wr_pf0 (k0 := 18) (x := h 189 8) (bl := -2147483648) (bh := 2147483647) (nx := 107) (r1 := 4) (r2 := 8) (r3 := 0) rfl (by decide) rfl ⟨rfl, rfl⟩ rfl rfl g16 rfl (by omega) (fun h19 g19 w19 u19 => ?_)
    have F20 := F17.then rfl u19
    refine wi_aload_n (i := 0) (x := 18) (nx := 108) (r1 := 0) (r2 := 0) (r3 := 0) rfl rfl ?_
    refine wi_aload_n (i := 1) (x := 189) (nx := 109) (r1 := 0) (r2 := 0) (r3 := 0) rfl rfl ?_
    have b21 := gi_b (lo := -2147483648) (hi := 2147483647) g 189 9 rfl
    refine wr_gi0 (k0 := 189) (x := h 189 9) (nx := 112) (r1 := 4) (r2 := 9) (r3 := 0) rfl rfl (by decide) rfl ⟨rfl, rfl⟩ rfl ((u19 189 9 rfl).trans ((u16 189 9 rfl).trans ((u13 189 9 rfl).trans ((u11 189 9 rfl).trans ((u9 189 9 rfl).trans ((u6 189 9 rfl).trans ((u3 189 9 rfl).trans (u1 189 9 rfl)))))))) ?_
    refine wr_pf0 (k0 := 18) (x := h 189 9) (bl := -2147483648) (bh := 2147483647) (nx := 115) (r1 := 4) (r2 := 9) (r3 := 0) rfl (by decide) rfl ⟨rfl, rfl⟩ rfl rfl g19 rfl (by omega) (fun h22 g22 w22 u22 => ?_)
    have F23 := F20.then rfl u22
    refine wi_aload_n (i := 0) (x := 18) (nx := 116) (r1 := 0) (r2 := 0) (r3 := 0) rfl rfl ?_
    refine wi_aload_n (i := 1) (x := 189) (nx := 117) (r1 := 0) (r2 := 0) (r3 := 0) rfl rfl ?_
    have b24 := gi_b (lo := -2147483648) (hi := 2147483647) g 189 10 rfl
    refine wr_gi0 (k0 := 189) (x := h 189 10) (nx := 120) (r1 := 4) (r2 := 10) (r3 := 0) rfl rfl (by decide) rfl ⟨rfl, rfl⟩ rfl ((u22 189 10 rfl).trans ((u19 189 10 rfl).trans ((u16 189 10 rfl).trans ((u13 189 10 rfl).trans ((u11 189 10 rfl).trans ((u9 189 10 rfl).trans ((u6 189 10 rfl).trans ((u3 189 10 rfl).trans (u1 189 10 rfl))))))))) ?_
    refine wr_pf0 (k0 := 18) (x := h 189 10) (bl := -2147483648) (bh := 2147483647) (nx := 123) (r1 := 4) (r2 := 10) (r3 := 0) rfl (by decide) rfl ⟨rfl, rfl⟩ rfl rfl g22 rfl (by omega) (fun h25 g25 w25 u25 => ?_)
    have F26 := F23.then rfl u25
    refine wi_aload_n (i := 0) (x := 18) (nx := 124) (r1 := 0) (r2 := 0) (r3 := 0) rfl rfl ?_
    refine wi_aload_n (i := 1) (x := 189) (nx := 125) (r1 := 0) (r2 := 0) (r3 := 0) rfl rfl ?_
    have b27 := gi_b (lo := -2147483648) (hi := 2147483647) g 189 11 rfl
    refine wr_gi0 (k0 := 189) (x := h 189 11) (nx := 128) (r1 := 4) (r2 := 11) (r3 := 0) rfl rfl (by decide) rfl ⟨rfl, rfl⟩ rfl ((u25 189 11 rfl).trans ((u22 189 11 rfl).trans ((u19 189 11 rfl).trans ((u16 189 11 rfl).trans ((u13 189 11 rfl).trans ((u11 189 11 rfl).trans ((u9 189 11 rfl).trans ((u6 189 11 rfl).trans ((u3 189 11 rfl).trans (u1 189 11 rfl)))))))))) ?_
    refine wr_pf0 (k0 := 18) (x := h 189 11) (bl := -2147483648) (bh := 2147483647) (nx := 131) (r1 := 4) (r2 := 11) (r3 := 0) rfl (by decide) rfl ⟨rfl, rfl⟩ rfl rfl g25 rfl (by omega) (fun h28 g28 w28 u28 => ?_)
    have F29 := F26.then rfl u28
    refine wi_aload_n (i := 0) (x := 18) (nx := 132) (r1 := 0) (r2 := 0) (r3 := 0) rfl rfl ?_
    refine wi_aload_n (i := 1) (x := 189) (nx := 133) (r1 := 0) (r2 := 0) (r3 := 0) rfl rfl ?_
    have b30 := gi_b (lo := -2147483648) (hi := 2147483647) g 189 12 rfl
    refine wr_gi0 (k0 := 189) (x := h 189 12) (nx := 136) (r1 := 4) (r2 := 12) (r3 := 0) rfl rfl (by decide) rfl ⟨rfl, rfl⟩ rfl ((u28 189 12 rfl).trans ((u25 189 12 rfl).trans ((u22 189 12 rfl).trans ((u19 189 12 rfl).trans ((u16 189 12 rfl).trans ((u13 189 12 rfl).trans ((u11 189 12 rfl).trans ((u9 189 12 rfl).trans ((u6 189 12 rfl).trans ((u3 189 12 rfl).trans (u1 189 12 rfl))))))))))) ?_
    refine wr_pf0 (k0 := 18) (x := h 189 12) (bl := -2147483648) (bh := 2147483647) (nx := 139) (r1 := 4) (r2 := 12) (r3 := 0) rfl (by decide) rfl ⟨rfl, rfl⟩ rfl rfl g28 rfl (by omega) (fun h31 g31 w31 u31 => ?_)
    have F32 := F29.then rfl u31
    refine wi_aload_n (i := 0) (x := 18) (nx := 140) (r1 := 0) (r2 := 0) (r3 := 0) rfl rfl ?_
    refine wi_aload_n (i := 1) (x := 189) (nx := 141) (r1 := 0) (r2 := 0) (r3 := 0) rfl rfl ?_
    have b33 := gi_b (lo := -2147483648) (hi := 2147483647) g 189 13 rfl
    refine wr_gi0 (k0 := 189) (x := h 189 13) (nx := 144) (r1 := 4) (r2 := 13) (r3 := 0) rfl rfl (by decide) rfl ⟨rfl, rfl⟩ rfl ((u31 189 13 rfl).trans ((u28 189 13 rfl).trans ((u25 189 13 rfl).trans ((u22 189 13 rfl).trans ((u19 189 13 rfl).trans ((u16 189 13 rfl).trans ((u13 189 13 rfl).trans ((u11 189 13 rfl).trans ((u9 189 13 rfl).trans ((u6 189 13 rfl).trans ((u3 189 13 rfl).trans (u1 189 13 rfl)))))))))))) ?_
    refine wr_pf0 (k0 := 18) (x := h 189 13) (bl := -2147483648) (bh := 2147483647) (nx := 147) (r1 := 4) (r2 := 13) (r3 := 0) rfl (by decide) rfl ⟨rfl, rfl⟩ rfl rfl g31 rfl (by omega) (fun h34 g34 w34 u34 => ?_)
    have F35 := F32.then rfl u34
    refine wi_aload_n (i := 1) (x := 189) (nx := 148) (r1 := 0) (r2 := 0) (r3 := 0) rfl rfl ?_
    refine wr_gr (k0 := 189) (x := 199) (nx := 151) (r1 := 4) (r2 := 14) (r3 := 0) rfl rfl (by decide) rfl ⟨rfl, rfl⟩ rfl ?_
    refine wi_iconst (n := 0) (nx := 152) (r1 := 0) (r2 := 0) (r3 := 0) rfl ?_
    refine wi_aload_n (i := 0) (x := 18) (nx := 153) (r1 := 0) (r2 := 0) (r3 := 0) rfl rfl ?_
    refine wr_gr (k0 := 18) (x := 28) (nx := 156) (r1 := 4) (r2 := 14) (r3 := 0) rfl rfl (by decide) rfl ⟨rfl, rfl⟩ rfl ?_
    refine wi_iconst (n := 0) (nx := 157) (r1 := 0) (r2 := 0) (r3 := 0) rfl ?_
    refine wi_aload_n (i := 0) (x := 18) (nx := 158) (r1 := 0) (r2 := 0) (r3 := 0) rfl rfl ?_
    refine wr_gr (k0 := 18) (x := 28) (nx := 161) (r1 := 4) (r2 := 14) (r3 := 0) rfl rfl (by decide) rfl ⟨rfl, rfl⟩ rfl ?_
    refine wr_al (k0 := 28) (e := 144) (nx := 162) (r1 := 0) (r2 := 0) (r3 := 0) rfl (by decide) rfl rfl ?_
    refine wr_cpy (s0 := 199) (d0 := 28) (n0 := 144) (n1 := 144) (sp := 0) (dp := 0) (n := 144) (sl := -2147483648) (sh := 2147483647) (dl := -2147483648) (dh := 2147483647) (nx := 165) (r1 := 0) (r2 := 101) (r3 := 0) rfl rfl (of_decide_eq_true rfl) (by decide) (by decide) rfl rfl (by omega) (fun _ => rfl) (fun _ => rfl) (by omega) g34 (fun h36 g36 y36 u36 => ?_)
    have F37 := F35.then rfl u36
    refine wi_aload_n (i := 0) (x := 18) (nx := 166) (r1 := 0) (r2 := 0) (r3 := 0) rfl rfl ?_
    refine wi_aload_n (i := 1) (x := 189) (nx := 167) (r1 := 0) (r2 := 0) (r3 := 0) rfl rfl ?_
    have b38 := gi_b (lo := 0) (hi := 36) g 189 15 rfl
    refine wr_gi0 (k0 := 189) (x := h 189 15) (nx := 170) (r1 := 4) (r2 := 15) (r3 := 0) rfl rfl (by decide) rfl ⟨rfl, rfl⟩ rfl ((u36 189 15 rfl).trans ((u34 189 15 rfl).trans ((u31 189 15 rfl).trans ((u28 189 15 rfl).trans ((u25 189 15 rfl).trans ((u22 189 15 rfl).trans ((u19 189 15 rfl).trans ((u16 189 15 rfl).trans ((u13 189 15 rfl).trans ((u11 189 15 rfl).trans ((u9 189 15 rfl).trans ((u6 189 15 rfl).trans ((u3 189 15 rfl).trans (u1 189 15 rfl)))))))))))))) ?_
    refine wr_pf0 (k0 := 18) (x := h 189 15) (bl := 0) (bh := 36) (nx := 173) (r1 := 4) (r2 := 15) (r3 := 0) rfl (by decide) rfl ⟨rfl, rfl⟩ rfl rfl g36 rfl (by omega) (fun h39 g39 w39 u39 => ?_)
    have F40 := F37.then rfl u39
    refine wi_aload_n (i := 0) (x := 18) (nx := 174) (r1 := 0) (r2 := 0) (r3 := 0) rfl rfl ?_
    refine wi_dup (nx := 175) (r1 := 0) (r2 := 0) (r3 := 0) rfl rfl ?_
    have b41 := gi_b (lo := -2147483648) (hi := 2147483647) g 18 16 rfl
    refine wr_gi0 (k0 := 18) (x := h 18 16) (nx := 178) (r1 := 4) (r2 := 16) (r3 := 0) rfl rfl (by decide) rfl ⟨rfl, rfl⟩ rfl ((u39 18 16 rfl).trans ((u36 18 16 rfl).trans ((u34 18 16 rfl).trans ((u31 18 16 rfl).trans ((u28 18 16 rfl).trans ((u25 18 16 rfl).trans ((u22 18 16 rfl).trans ((u19 18 16 rfl).trans ((u16 18 16 rfl).trans ((u13 18 16 rfl).trans ((u11 18 16 rfl).trans ((u9 18 16 rfl).trans ((u6 18 16 rfl).trans ((u3 18 16 rfl).trans (u1 18 16 rfl))))))))))))))) ?_
    refine wi_iconst (n := 1) (nx := 179) (r1 := 0) (r2 := 0) (r3 := 0) rfl ?_
    refine wr_addW (nx := 180) (r1 := 0) (r2 := 0) (r3 := 0) rfl (fun e42 (fe42 : -2147483648 ≤ e42 ∧ e42 ≤ 2147483647) => ?_)
    refine wr_pf0 (k0 := 18) (x := e42) (bl := -2147483648) (bh := 2147483647) (nx := 183) (r1 := 4) (r2 := 16) (r3 := 0) rfl (by decide) rfl ⟨rfl, rfl⟩ rfl rfl g39 rfl (by omega) (fun h43 g43 w43 u43 => ?_)
    have F44 := F40.then rfl u43
    refine wi_return (nx := 184) (r1 := 0) (r2 := 0) (r3 := 0) rfl rfl ?_
    exact k h43 g43 F44
  ·
    refine wi_aload_n (i := 0) (x := 18) (nx := 38) (r1 := 0) (r2 := 0) (r3 := 0) rfl rfl ?_
    refine wr_gr (k0 := 18) (x := 21) (nx := 41) (r1 := 4) (r2 := 3) (r3 := 0) rfl rfl (by decide) rfl ⟨rfl, rfl⟩ rfl ?_
    refine wi_iload_n (i := 2) (e := x5) (nx := 42) (r1 := 0) (r2 := 0) (r3 := 0) rfl rfl ?_
    obtain ⟨i9, ei9⟩ : ∃ q : Nat, x5 = (q : Int) := ⟨(x5).toNat, by omega⟩
    refine wr_aa (k0 := 21) (a := x5) (f := i9) (x := 21 + 8 + 2 * i9) (nx := 43) (r1 := 0) (r2 := 0) (r3 := 0) rfl (by decide) rfl (Or.inl rfl) (by omega) (by omega) (by decide) (hcr.1 21 (by decide) i9 (by omega)) ?_
    obtain ⟨k10, kk10, mk10⟩ : ∃ q, Rw q ∧ q = 21 + 8 + 2 * i9 := ⟨_, rw_lane 21 (by decide) i9 (by omega), rfl⟩
    rw [← mk10]
    refine wi_aload_n (i := 1) (x := 189) (nx := 44) (r1 := 0) (r2 := 0) (r3 := 0) rfl rfl ?_
    refine wr_gr (k0 := 189) (x := 192) (nx := 47) (r1 := 4) (r2 := 3) (r3 := 0) rfl rfl (by decide) rfl ⟨rfl, rfl⟩ rfl ?_
    refine wi_iload_n (i := 2) (e := x5) (nx := 48) (r1 := 0) (r2 := 0) (r3 := 0) rfl rfl ?_
    refine wr_aa (k0 := 192) (a := x5) (f := i9) (x := 192 + 8 + 2 * i9) (nx := 49) (r1 := 0) (r2 := 0) (r3 := 0) rfl (by decide) rfl (Or.inl rfl) (by omega) (by omega) (by decide) (hcr.1 192 (by decide) i9 (by omega)) ?_
    obtain ⟨k11, kk11, mk11⟩ : ∃ q, Rw q ∧ q = 192 + 8 + 2 * i9 := ⟨_, rw_lane 192 (by decide) i9 (by omega), rfl⟩
    rw [← mk11]
    refine wr_V (k0 := k10) (rest := []) (as := [.ref k10, .ref k11]) (nx := 52) (r1 := 155) (r2 := 1) (r3 := 5) rfl rfl rfl (of_decide_eq_true rfl) rfl rfl kk10.k kk10.1 rfl (of_decide_eq_true rfl) (of_decide_eq_true rfl) ?_
    refine ct_155_R_R hcr kk10 kk11 g6    (fun h12 g12 u12 => ?_)
    have v12 := FR.rngp (lo := 29) (hi := 36) u12 (by omega)
    have F13 := F7.then rfl (FR.rngp (lo := 29) (hi := 36) u12 (by omega))
    have F14 := u6.then rfl (FR.rngp (lo := 29) (hi := 36) u12 (by omega))
    refine wk_n ?_
    refine wr_iinc (i := 2) (n := 1) (v := x5) (fun e15 => [(2, vi e15), (0, .ref 18), (1, .ref 189)]) (nx := 55) (r1 := 0) (r2 := 0) (r3 := 0) rfl rfl (fun _ => rfl) (fun e15 (fe15 : e15 = x5 + 1) => ?_)
    refine wi_goto (nx := 58) (r1 := 32) (r2 := 0) (r3 := 0) rfl ?_
    refine wp.lo (lo := [(0, .ref 18), (1, .ref 189), (2, vi e15)]) ⟨rfl, rfl, rfl, trivial⟩ rfl ?_
    exact I6 e15 h12 ⟨g12, F13, F14, (show (0 ≤ e15 ∧ e15 ≤ 4) by omega)⟩ (show ((4 : Int) + 1 - e15).toNat < ((4 : Int) + 1 - x5).toNat by omega)
-- method 194: History.takeBack(LPaintBank$Line;)Z
set_option maxRecDepth 100000 in
set_option maxHeartbeats 100000000 in
theorem ct_194_73_18 {L : Nat} {xs : Nat → Int32} {d b c : Nat} {h : hp} {cr : Nat → Nat → Option Nat} {Q : hp_Q} (hcr : CR cr)  (g : GI h)    (k : ∀ (h2 : hp) (z0 : Int) , GI h2 → FR [(18, 36, none), (73, 73, some (1, 1)), (73, 73, some (2, 2))] h h2 → (0 ≤ z0 ∧ z0 ≤ 1) → Q (.inl (some (vi z0))) (hp_w h2 cr) b c) : wp (md_xa (L, xs)) (d + 2) 194 (0, [(0, .ref 73), (1, .ref 18)], [], hp_w h cr, b, c) Q := by
  have F0 : FR [(18, 36, none), (73, 73, some (1, 1)), (73, 73, some (2, 2))] h h := FR.refl
  refine wi_aload_n (i := 0) (x := 73) (nx := 1) (r1 := 0) (r2 := 0) (r3 := 0) rfl rfl ?_
  have b1 := gi_b (lo := 0) (hi := 6) g 73 2 rfl
  refine wr_gi0 (k0 := 73) (x := h 73 2) (nx := 4) (r1 := 9) (r2 := 2) (r3 := 0) rfl rfl (by decide) rfl ⟨rfl, rfl⟩ rfl rfl ?_
  refine wi_if (cd := .ne) (nx := 7) (r1 := 9) (r2 := 0) (r3 := 0) rfl (by omega) (fun (q2 : (h 73 2) ≠ 0) => ?_) (fun (q2 : ¬ ((h 73 2) ≠ 0)) => ?_)
  ·
    refine wi_aload_n (i := 0) (x := 73) (nx := 10) (r1 := 0) (r2 := 0) (r3 := 0) rfl rfl ?_
    refine wi_aload_n (i := 0) (x := 73) (nx := 11) (r1 := 0) (r2 := 0) (r3 := 0) rfl rfl ?_
    have b3 := gi_b (lo := 0) (hi := 6) g 73 1 rfl
    refine wr_gi0 (k0 := 73) (x := h 73 1) (nx := 14) (r1 := 9) (r2 := 1) (r3 := 0) rfl rfl (by decide) rfl ⟨rfl, rfl⟩ rfl rfl ?_
    refine wi_bipush (n := 6) (nx := 16) (r1 := 0) (r2 := 0) (r3 := 0) rfl (by decide) ?_
    refine wr_add (nx := 17) (r1 := 0) (r2 := 0) (r3 := 0) rfl (fun e4 (fe4 : e4 = (h 73 1) + 6) => ?_)
    refine wi_bipush (n := 7) (nx := 19) (r1 := 0) (r2 := 0) (r3 := 0) rfl (by decide) ?_
    refine wr_iremC (nx := 20) (r1 := 0) (r2 := 0) (r3 := 0) rfl (by omega) (by decide) (fun e5 (fe5 : e5 = e4 % 7) => ?_)
    refine wr_pf0 (k0 := 73) (x := e5) (bl := 0) (bh := 6) (nx := 23) (r1 := 9) (r2 := 1) (r3 := 0) rfl (by decide) rfl ⟨rfl, rfl⟩ rfl rfl g rfl (by omega) (fun h6 g6 w6 u6 => ?_)
    have F7 := F0.then rfl u6
    refine wi_aload_n (i := 0) (x := 73) (nx := 24) (r1 := 0) (r2 := 0) (r3 := 0) rfl rfl ?_
    refine wi_dup (nx := 25) (r1 := 0) (r2 := 0) (r3 := 0) rfl rfl ?_
    refine wr_gi0 (k0 := 73) (x := h 73 2) (nx := 28) (r1 := 9) (r2 := 2) (r3 := 0) rfl rfl (by decide) rfl ⟨rfl, rfl⟩ rfl (u6 73 2 rfl) ?_
    refine wi_iconst (n := 1) (nx := 29) (r1 := 0) (r2 := 0) (r3 := 0) rfl ?_
    refine wr_sub (nx := 30) (r1 := 0) (r2 := 0) (r3 := 0) rfl (fun e8 (fe8 : e8 = (h 73 2) - 1) => ?_)
    refine wr_pf0 (k0 := 73) (x := e8) (bl := 0) (bh := 6) (nx := 33) (r1 := 9) (r2 := 2) (r3 := 0) rfl (by decide) rfl ⟨rfl, rfl⟩ rfl rfl g6 rfl (by omega) (fun h9 g9 w9 u9 => ?_)
    have F10 := F7.then rfl u9
    refine wi_aload_n (i := 1) (x := 18) (nx := 34) (r1 := 0) (r2 := 0) (r3 := 0) rfl rfl ?_
    refine wi_aload_n (i := 0) (x := 73) (nx := 35) (r1 := 0) (r2 := 0) (r3 := 0) rfl rfl ?_
    refine wr_gr (k0 := 73) (x := 74) (nx := 38) (r1 := 9) (r2 := 0) (r3 := 0) rfl rfl (by decide) rfl ⟨rfl, rfl⟩ rfl ?_
    refine wi_aload_n (i := 0) (x := 73) (nx := 39) (r1 := 0) (r2 := 0) (r3 := 0) rfl rfl ?_
    refine wr_gi0 (k0 := 73) (x := e5) (nx := 42) (r1 := 9) (r2 := 1) (r3 := 0) rfl rfl (by decide) rfl ⟨rfl, rfl⟩ rfl ((u9 73 1 rfl).trans w6) ?_
    obtain ⟨i11, ei11⟩ : ∃ q : Nat, e5 = (q : Int) := ⟨(e5).toNat, by omega⟩
    rcases (show e5 = 0 ∨ e5 = 1 ∨ e5 = 2 ∨ e5 = 3 ∨ e5 = 4 ∨ e5 = 5 ∨ e5 = 6 by omega) with q12 | q12 | q12 | q12 | q12 | q12 | q12
    ·
      refine wr_aa (k0 := 74) (a := e5) (f := 0) (x := 75) (nx := 43) (r1 := 0) (r2 := 0) (r3 := 0) rfl (by decide) rfl (Or.inr rfl) (by omega) (by decide) (by decide) (hcr.2 0 (by decide)) ?_
      refine wr_V (k0 := 18) (rest := []) (as := [.ref 18, .ref 75]) (nx := 46) (r1 := 132) (r2 := 1) (r3 := 4) rfl rfl rfl (of_decide_eq_true rfl) rfl rfl (by decide) rfl rfl (of_decide_eq_true rfl) (of_decide_eq_true rfl) ?_
      refine ct_132_18_75 hcr  g9    (fun h13 g13 u13 => ?_)
      have F14 := F10.then (by decide +kernel) u13
      refine wk_n ?_
      refine wi_iconst (n := 1) (nx := 47) (r1 := 0) (r2 := 0) (r3 := 0) rfl ?_
      refine wi_zreturn (nx := 48) (r1 := 0) (r2 := 0) (r3 := 0) rfl rfl (by omega) ?_
      exact k h13 1 g13 F14 (by omega)
    ·
      refine wr_aa (k0 := 74) (a := e5) (f := 1) (x := 94) (nx := 43) (r1 := 0) (r2 := 0) (r3 := 0) rfl (by decide) rfl (Or.inr rfl) (by omega) (by decide) (by decide) (hcr.2 1 (by decide)) ?_
      refine wr_V (k0 := 18) (rest := []) (as := [.ref 18, .ref 94]) (nx := 46) (r1 := 132) (r2 := 1) (r3 := 4) rfl rfl rfl (of_decide_eq_true rfl) rfl rfl (by decide) rfl rfl (of_decide_eq_true rfl) (of_decide_eq_true rfl) ?_
      refine ct_132_18_94 hcr  g9    (fun h13 g13 u13 => ?_)
      have F14 := F10.then (by decide +kernel) u13
      refine wk_n ?_
      refine wi_iconst (n := 1) (nx := 47) (r1 := 0) (r2 := 0) (r3 := 0) rfl ?_
      refine wi_zreturn (nx := 48) (r1 := 0) (r2 := 0) (r3 := 0) rfl rfl (by omega) ?_
      exact k h13 1 g13 F14 (by omega)
    ·
      refine wr_aa (k0 := 74) (a := e5) (f := 2) (x := 113) (nx := 43) (r1 := 0) (r2 := 0) (r3 := 0) rfl (by decide) rfl (Or.inr rfl) (by omega) (by decide) (by decide) (hcr.2 2 (by decide)) ?_
      refine wr_V (k0 := 18) (rest := []) (as := [.ref 18, .ref 113]) (nx := 46) (r1 := 132) (r2 := 1) (r3 := 4) rfl rfl rfl (of_decide_eq_true rfl) rfl rfl (by decide) rfl rfl (of_decide_eq_true rfl) (of_decide_eq_true rfl) ?_
      refine ct_132_18_113 hcr  g9    (fun h13 g13 u13 => ?_)
      have F14 := F10.then (by decide +kernel) u13
      refine wk_n ?_
      refine wi_iconst (n := 1) (nx := 47) (r1 := 0) (r2 := 0) (r3 := 0) rfl ?_
      refine wi_zreturn (nx := 48) (r1 := 0) (r2 := 0) (r3 := 0) rfl rfl (by omega) ?_
      exact k h13 1 g13 F14 (by omega)
    ·
      refine wr_aa (k0 := 74) (a := e5) (f := 3) (x := 132) (nx := 43) (r1 := 0) (r2 := 0) (r3 := 0) rfl (by decide) rfl (Or.inr rfl) (by omega) (by decide) (by decide) (hcr.2 3 (by decide)) ?_
      refine wr_V (k0 := 18) (rest := []) (as := [.ref 18, .ref 132]) (nx := 46) (r1 := 132) (r2 := 1) (r3 := 4) rfl rfl rfl (of_decide_eq_true rfl) rfl rfl (by decide) rfl rfl (of_decide_eq_true rfl) (of_decide_eq_true rfl) ?_
      refine ct_132_18_132 hcr  g9    (fun h13 g13 u13 => ?_)
      have F14 := F10.then (by decide +kernel) u13
      refine wk_n ?_
      refine wi_iconst (n := 1) (nx := 47) (r1 := 0) (r2 := 0) (r3 := 0) rfl ?_
      refine wi_zreturn (nx := 48) (r1 := 0) (r2 := 0) (r3 := 0) rfl rfl (by omega) ?_
      exact k h13 1 g13 F14 (by omega)
    ·
      refine wr_aa (k0 := 74) (a := e5) (f := 4) (x := 151) (nx := 43) (r1 := 0) (r2 := 0) (r3 := 0) rfl (by decide) rfl (Or.inr rfl) (by omega) (by decide) (by decide) (hcr.2 4 (by decide)) ?_
      refine wr_V (k0 := 18) (rest := []) (as := [.ref 18, .ref 151]) (nx := 46) (r1 := 132) (r2 := 1) (r3 := 4) rfl rfl rfl (of_decide_eq_true rfl) rfl rfl (by decide) rfl rfl (of_decide_eq_true rfl) (of_decide_eq_true rfl) ?_
      refine ct_132_18_151 hcr  g9    (fun h13 g13 u13 => ?_)
      have F14 := F10.then (by decide +kernel) u13
      refine wk_n ?_
      refine wi_iconst (n := 1) (nx := 47) (r1 := 0) (r2 := 0) (r3 := 0) rfl ?_
      refine wi_zreturn (nx := 48) (r1 := 0) (r2 := 0) (r3 := 0) rfl rfl (by omega) ?_
      exact k h13 1 g13 F14 (by omega)
    ·
      refine wr_aa (k0 := 74) (a := e5) (f := 5) (x := 170) (nx := 43) (r1 := 0) (r2 := 0) (r3 := 0) rfl (by decide) rfl (Or.inr rfl) (by omega) (by decide) (by decide) (hcr.2 5 (by decide)) ?_
      refine wr_V (k0 := 18) (rest := []) (as := [.ref 18, .ref 170]) (nx := 46) (r1 := 132) (r2 := 1) (r3 := 4) rfl rfl rfl (of_decide_eq_true rfl) rfl rfl (by decide) rfl rfl (of_decide_eq_true rfl) (of_decide_eq_true rfl) ?_
      refine ct_132_18_170 hcr  g9    (fun h13 g13 u13 => ?_)
      have F14 := F10.then (by decide +kernel) u13
      refine wk_n ?_
      refine wi_iconst (n := 1) (nx := 47) (r1 := 0) (r2 := 0) (r3 := 0) rfl ?_
      refine wi_zreturn (nx := 48) (r1 := 0) (r2 := 0) (r3 := 0) rfl rfl (by omega) ?_
      exact k h13 1 g13 F14 (by omega)
    ·
      refine wr_aa (k0 := 74) (a := e5) (f := 6) (x := 189) (nx := 43) (r1 := 0) (r2 := 0) (r3 := 0) rfl (by decide) rfl (Or.inr rfl) (by omega) (by decide) (by decide) (hcr.2 6 (by decide)) ?_
      refine wr_V (k0 := 18) (rest := []) (as := [.ref 18, .ref 189]) (nx := 46) (r1 := 132) (r2 := 1) (r3 := 4) rfl rfl rfl (of_decide_eq_true rfl) rfl rfl (by decide) rfl rfl (of_decide_eq_true rfl) (of_decide_eq_true rfl) ?_
      refine ct_132_18_189 hcr  g9    (fun h13 g13 u13 => ?_)
      have F14 := F10.then (by decide +kernel) u13
      refine wk_n ?_
      refine wi_iconst (n := 1) (nx := 47) (r1 := 0) (r2 := 0) (r3 := 0) rfl ?_
      refine wi_zreturn (nx := 48) (r1 := 0) (r2 := 0) (r3 := 0) rfl rfl (by omega) ?_
      exact k h13 1 g13 F14 (by omega)
  ·
    refine wi_iconst (n := 0) (nx := 8) (r1 := 0) (r2 := 0) (r3 := 0) rfl ?_
    refine wi_zreturn (nx := 9) (r1 := 0) (r2 := 0) (r3 := 0) rfl rfl (by omega) ?_
    exact k h 0 g F0 (by omega)
-- method 59: Bank.undo()I
set_option maxRecDepth 100000 in
set_option maxHeartbeats 100000000 in
theorem ct_59_0 {L : Nat} {xs : Nat → Int32} {d b c : Nat} {h : hp} {cr : Nat → Nat → Option Nat} {Q : hp_Q} (hcr : CR cr)  (g : GI h)    (k : ∀ (h2 : hp) (z0 : Int) , GI h2 → FR [(18, 36, none), (73, 73, some (1, 1)), (73, 73, some (2, 2))] h h2 → (-1 ≤ z0 ∧ z0 ≤ 6) → Q (.inl (some (vi z0))) (hp_w h2 cr) b c) : wp (md_xa (L, xs)) (d + 3) 59 (0, [(0, .ref 0)], [], hp_w h cr, b, c) Q := by
  have F0 : FR [(18, 36, none), (73, 73, some (1, 1)), (73, 73, some (2, 2))] h h := FR.refl
  refine wi_aload_n (i := 0) (x := 0) (nx := 1) (r1 := 0) (r2 := 0) (r3 := 0) rfl rfl ?_
  refine wr_gr (k0 := 0) (x := 73) (nx := 4) (r1 := 0) (r2 := 8) (r3 := 0) rfl rfl (by decide) rfl ⟨rfl, rfl⟩ rfl ?_
  refine wi_aload_n (i := 0) (x := 0) (nx := 5) (r1 := 0) (r2 := 0) (r3 := 0) rfl rfl ?_
  refine wr_gr (k0 := 0) (x := 18) (nx := 8) (r1 := 0) (r2 := 3) (r3 := 0) rfl rfl (by decide) rfl ⟨rfl, rfl⟩ rfl ?_
  refine wr_V (k0 := 73) (rest := []) (as := [.ref 73, .ref 18]) (nx := 11) (r1 := 194) (r2 := 1) (r3 := 9) rfl rfl rfl (of_decide_eq_true rfl) rfl rfl (by decide) rfl rfl (of_decide_eq_true rfl) (of_decide_eq_true rfl) ?_
  refine ct_194_73_18 hcr  g    (fun h1 z2 g1 u1 (fz2 : 0 ≤ z2 ∧ z2 ≤ 1) => ?_)
  have F3 := F0.then (by decide +kernel) u1
  refine wk_i ?_
  refine wi_if (cd := .eq) (nx := 14) (r1 := 24) (r2 := 0) (r3 := 0) rfl (by omega) (fun (q4 : z2 = 0) => ?_) (fun (q4 : ¬ (z2 = 0)) => ?_)
  ·
    refine wi_iconst (n := (-1)) (nx := 25) (r1 := 0) (r2 := 0) (r3 := 0) rfl ?_
    refine wi_ireturn (nx := 26) (r1 := 0) (r2 := 0) (r3 := 0) rfl rfl ?_
    exact k h1 (-1) g1 F3 (by omega)
  ·
    refine wi_aload_n (i := 0) (x := 0) (nx := 15) (r1 := 0) (r2 := 0) (r3 := 0) rfl rfl ?_
    refine wr_gr (k0 := 0) (x := 73) (nx := 18) (r1 := 0) (r2 := 8) (r3 := 0) rfl rfl (by decide) rfl ⟨rfl, rfl⟩ rfl ?_
    have b5 := gi_b (lo := 0) (hi := 6) g1 73 2 rfl
    refine wr_gi0 (k0 := 73) (x := h1 73 2) (nx := 21) (r1 := 9) (r2 := 2) (r3 := 0) rfl rfl (by decide) rfl ⟨rfl, rfl⟩ rfl rfl ?_
    refine wi_goto (nx := 24) (r1 := 25) (r2 := 0) (r3 := 0) rfl ?_
    refine wi_ireturn (nx := 26) (r1 := 0) (r2 := 0) (r3 := 0) rfl rfl ?_
    exact k h1 (h1 73 2) g1 F3 (by omega)
-- method 47: Bank.unload()I
set_option maxRecDepth 100000 in
set_option maxHeartbeats 100000000 in
theorem ct_47_0 {L : Nat} {xs : Nat → Int32} {d b c : Nat} {h : hp} {cr : Nat → Nat → Option Nat} {Q : hp_Q} (hcr : CR cr)  (g : GI h)    (k : ∀ (h2 : hp) (z0 : Int) , GI h2 → FR [(18, 36, none), (57, 57, none), (58, 58, none), (59, 59, none), (60, 60, none), (61, 62, none), (75, 207, none), (56, 56, some (6, 6)), (56, 56, some (7, 7)), (56, 56, some (9, 9)), (56, 56, some (10, 10)), (56, 56, some (11, 11)), (56, 56, some (12, 12)), (73, 73, some (1, 1)), (73, 73, some (2, 2))] h h2 → (-2147483648 ≤ z0 ∧ z0 ≤ 2147483647) → Q (.inl (some (vi z0))) (hp_w h2 cr) b c) : wp (md_xa (L, xs)) (d + 103) 47 (0, [(0, .ref 0)], [], hp_w h cr, b, c) Q := by
  have F0 : FR [(18, 36, none), (57, 57, none), (58, 58, none), (59, 59, none), (60, 60, none), (61, 62, none), (75, 207, none), (56, 56, some (6, 6)), (56, 56, some (7, 7)), (56, 56, some (9, 9)), (56, 56, some (10, 10)), (56, 56, some (11, 11)), (56, 56, some (12, 12)), (73, 73, some (1, 1)), (73, 73, some (2, 2))] h h := FR.refl
  refine wi_aload_n (i := 0) (x := 0) (nx := 1) (r1 := 0) (r2 := 0) (r3 := 0) rfl rfl ?_
  refine wr_gr (k0 := 0) (x := 73) (nx := 4) (r1 := 0) (r2 := 8) (r3 := 0) rfl rfl (by decide) rfl ⟨rfl, rfl⟩ rfl ?_
  refine wi_aload_n (i := 0) (x := 0) (nx := 5) (r1 := 0) (r2 := 0) (r3 := 0) rfl rfl ?_
  refine wr_gr (k0 := 0) (x := 18) (nx := 8) (r1 := 0) (r2 := 3) (r3 := 0) rfl rfl (by decide) rfl ⟨rfl, rfl⟩ rfl ?_
  refine wr_V (k0 := 73) (rest := []) (as := [.ref 73, .ref 18]) (nx := 11) (r1 := 192) (r2 := 1) (r3 := 9) rfl rfl rfl (of_decide_eq_true rfl) rfl rfl (by decide) rfl rfl (of_decide_eq_true rfl) (of_decide_eq_true rfl) ?_
  refine ct_192_73_18 hcr  g    (fun h1 g1 u1 => ?_)
  have F2 := F0.then (by decide +kernel) u1
  refine wk_n ?_
  refine wi_aload_n (i := 0) (x := 0) (nx := 12) (r1 := 0) (r2 := 0) (r3 := 0) rfl rfl ?_
  refine wr_gr (k0 := 0) (x := 56) (nx := 15) (r1 := 0) (r2 := 5) (r3 := 0) rfl rfl (by decide) rfl ⟨rfl, rfl⟩ rfl ?_
  refine wr_V (k0 := 56) (rest := []) (as := [.ref 56]) (nx := 18) (r1 := 161) (r2 := 0) (r3 := 6) rfl rfl rfl (of_decide_eq_true rfl) rfl rfl (by decide) rfl rfl (of_decide_eq_true rfl) (of_decide_eq_true rfl) ?_
  refine ct_161_56 hcr  g1    (fun h3 g3 u3 => ?_)
  have F4 := F2.then (by decide +kernel) u3
  refine wk_n ?_
  refine wi_aload_n (i := 0) (x := 0) (nx := 19) (r1 := 0) (r2 := 0) (r3 := 0) rfl rfl ?_
  refine wr_gr (k0 := 0) (x := 56) (nx := 22) (r1 := 0) (r2 := 5) (r3 := 0) rfl rfl (by decide) rfl ⟨rfl, rfl⟩ rfl ?_
  have b5 := gi_b (lo := 0) (hi := 1) g3 56 9 rfl
  refine wr_gi2 (k0 := 56) (x := h3 56 9) (nx := 25) (r1 := 6) (r2 := 9) (r3 := 0) rfl rfl (by decide) rfl ⟨rfl, rfl⟩ rfl rfl ?_
  refine wi_if (cd := .eq) (nx := 28) (r1 := 38) (r2 := 0) (r3 := 0) rfl (by omega) (fun (q6 : (h3 56 9) = 0) => ?_) (fun (q6 : ¬ ((h3 56 9) = 0)) => ?_)
  ·
    refine wi_iconst (n := 0) (nx := 39) (r1 := 0) (r2 := 0) (r3 := 0) rfl ?_
    refine wi_istore_n (i := 1) (e := 0) (lo2 := [(1, vi 0), (0, .ref 0)]) (nx := 40) (r1 := 0) (r2 := 0) (r3 := 0) rfl rfl ?_
    refine wi_aload_n (i := 0) (x := 0) (nx := 41) (r1 := 0) (r2 := 0) (r3 := 0) rfl rfl ?_
    refine wi_iload_n (i := 1) (e := 0) (nx := 42) (r1 := 0) (r2 := 0) (r3 := 0) rfl rfl ?_
    refine wi_if (cd := .ne) (nx := 45) (r1 := 49) (r2 := 0) (r3 := 0) rfl (by omega) (fun (q7 : 0 ≠ 0) => by exfalso; omega) (fun (q7 : ¬ (0 ≠ 0)) => ?_)
    refine wi_iconst (n := (-1)) (nx := 46) (r1 := 0) (r2 := 0) (r3 := 0) rfl ?_
    refine wi_goto (nx := 49) (r1 := 50) (r2 := 0) (r3 := 0) rfl ?_
    refine wr_V (k0 := 0) (rest := []) (as := [.ref 0, vi (-1)]) (nx := 53) (r1 := 45) (r2 := 1) (r3 := 0) rfl rfl rfl (of_decide_eq_true rfl) rfl rfl (by decide) rfl rfl (of_decide_eq_true rfl) (of_decide_eq_true rfl) ?_
    refine ct_45_0 hcr  g3 (-1) (by omega)  (fun h8 z9 g8 u8 (fz9 : -2147483648 ≤ z9 ∧ z9 ≤ 2147483647) => ?_)
    have F10 := F4.then (by decide +kernel) u8
    refine wk_i ?_
    refine wi_ireturn (nx := 54) (r1 := 0) (r2 := 0) (r3 := 0) rfl rfl ?_
    exact k h8 z9 g8 F10 (by omega)
  ·
    refine wi_aload_n (i := 0) (x := 0) (nx := 29) (r1 := 0) (r2 := 0) (r3 := 0) rfl rfl ?_
    refine wr_gr (k0 := 0) (x := 56) (nx := 32) (r1 := 0) (r2 := 5) (r3 := 0) rfl rfl (by decide) rfl ⟨rfl, rfl⟩ rfl ?_
    refine wr_V (k0 := 56) (rest := []) (as := [.ref 56]) (nx := 35) (r1 := 169) (r2 := 0) (r3 := 6) rfl rfl rfl (of_decide_eq_true rfl) rfl rfl (by decide) rfl rfl (of_decide_eq_true rfl) (of_decide_eq_true rfl) ?_
    refine ct_169_56 hcr  g3    (fun h7 z8 g7 u7 (fz8 : 0 ≤ z8 ∧ z8 ≤ 12) => ?_)
    have F9 := F4.then (by decide +kernel) u7
    refine wk_i ?_
    refine wi_goto (nx := 38) (r1 := 39) (r2 := 0) (r3 := 0) rfl ?_
    refine wi_istore_n (i := 1) (e := z8) (lo2 := [(1, vi z8), (0, .ref 0)]) (nx := 40) (r1 := 0) (r2 := 0) (r3 := 0) rfl rfl ?_
    refine wi_aload_n (i := 0) (x := 0) (nx := 41) (r1 := 0) (r2 := 0) (r3 := 0) rfl rfl ?_
    refine wi_iload_n (i := 1) (e := z8) (nx := 42) (r1 := 0) (r2 := 0) (r3 := 0) rfl rfl ?_
    refine wi_if (cd := .ne) (nx := 45) (r1 := 49) (r2 := 0) (r3 := 0) rfl (by omega) (fun (q10 : z8 ≠ 0) => ?_) (fun (q10 : ¬ (z8 ≠ 0)) => ?_)
    ·
      refine wi_iload_n (i := 1) (e := z8) (nx := 50) (r1 := 0) (r2 := 0) (r3 := 0) rfl rfl ?_
      refine wr_V (k0 := 0) (rest := []) (as := [.ref 0, vi z8]) (nx := 53) (r1 := 45) (r2 := 1) (r3 := 0) rfl rfl rfl (of_decide_eq_true rfl) rfl rfl (by decide) rfl rfl (of_decide_eq_true rfl) (of_decide_eq_true rfl) ?_
      refine ct_45_0 hcr  g7 z8 (by omega)  (fun h11 z12 g11 u11 (fz12 : -2147483648 ≤ z12 ∧ z12 ≤ 2147483647) => ?_)
      have F13 := F9.then (by decide +kernel) u11
      refine wk_i ?_
      refine wi_ireturn (nx := 54) (r1 := 0) (r2 := 0) (r3 := 0) rfl rfl ?_
      exact k h11 z12 g11 F13 (by omega)
    ·
      refine wi_iconst (n := (-1)) (nx := 46) (r1 := 0) (r2 := 0) (r3 := 0) rfl ?_
      refine wi_goto (nx := 49) (r1 := 50) (r2 := 0) (r3 := 0) rfl ?_
      refine wr_V (k0 := 0) (rest := []) (as := [.ref 0, vi (-1)]) (nx := 53) (r1 := 45) (r2 := 1) (r3 := 0) rfl rfl rfl (of_decide_eq_true rfl) rfl rfl (by decide) rfl rfl (of_decide_eq_true rfl) (of_decide_eq_true rfl) ?_
      refine ct_45_0 hcr  g7 (-1) (by omega)  (fun h11 z12 g11 u11 (fz12 : -2147483648 ≤ z12 ∧ z12 ≤ 2147483647) => ?_)
      have F13 := F9.then (by decide +kernel) u11
      refine wk_i ?_
      refine wi_ireturn (nx := 54) (r1 := 0) (r2 := 0) (r3 := 0) rfl rfl ?_
      exact k h11 z12 g11 F13 (by omega)
-- method 50: Bank.unloadChanges()I
set_option maxRecDepth 100000 in
set_option maxHeartbeats 100000000 in
theorem ct_50_0 {L : Nat} {xs : Nat → Int32} {d b c : Nat} {h : hp} {cr : Nat → Nat → Option Nat} {Q : hp_Q} (hcr : CR cr)  (g : GI h)    (k : ∀ (h2 : hp) (z0 : Int) , GI h2 → FR [(57, 57, none), (58, 58, none), (59, 59, none), (60, 60, none), (61, 62, none), (56, 56, some (6, 6)), (56, 56, some (7, 7)), (56, 56, some (9, 9)), (56, 56, some (11, 11)), (56, 56, some (12, 12))] h h2 → (-2147483648 ≤ z0 ∧ z0 ≤ 2147483647) → Q (.inl (some (vi z0))) (hp_w h2 cr) b c) : wp (md_xa (L, xs)) (d + 103) 50 (0, [(0, .ref 0)], [], hp_w h cr, b, c) Q := by
  have F0 : FR [(57, 57, none), (58, 58, none), (59, 59, none), (60, 60, none), (61, 62, none), (56, 56, some (6, 6)), (56, 56, some (7, 7)), (56, 56, some (9, 9)), (56, 56, some (11, 11)), (56, 56, some (12, 12))] h h := FR.refl
  refine wi_aload_n (i := 0) (x := 0) (nx := 1) (r1 := 0) (r2 := 0) (r3 := 0) rfl rfl ?_
  refine wr_gr (k0 := 0) (x := 56) (nx := 4) (r1 := 0) (r2 := 5) (r3 := 0) rfl rfl (by decide) rfl ⟨rfl, rfl⟩ rfl ?_
  refine wr_V (k0 := 56) (rest := []) (as := [.ref 56]) (nx := 7) (r1 := 161) (r2 := 0) (r3 := 6) rfl rfl rfl (of_decide_eq_true rfl) rfl rfl (by decide) rfl rfl (of_decide_eq_true rfl) (of_decide_eq_true rfl) ?_
  refine ct_161_56 hcr  g    (fun h1 g1 u1 => ?_)
  have F2 := F0.then (by decide +kernel) u1
  refine wk_n ?_
  refine wi_aload_n (i := 0) (x := 0) (nx := 8) (r1 := 0) (r2 := 0) (r3 := 0) rfl rfl ?_
  refine wr_gr (k0 := 0) (x := 56) (nx := 11) (r1 := 0) (r2 := 5) (r3 := 0) rfl rfl (by decide) rfl ⟨rfl, rfl⟩ rfl ?_
  have b3 := gi_b (lo := 0) (hi := 1) g1 56 9 rfl
  refine wr_gi2 (k0 := 56) (x := h1 56 9) (nx := 14) (r1 := 6) (r2 := 9) (r3 := 0) rfl rfl (by decide) rfl ⟨rfl, rfl⟩ rfl rfl ?_
  refine wi_if (cd := .eq) (nx := 17) (r1 := 27) (r2 := 0) (r3 := 0) rfl (by omega) (fun (q4 : (h1 56 9) = 0) => ?_) (fun (q4 : ¬ ((h1 56 9) = 0)) => ?_)
  ·
    refine wi_iconst (n := (-1)) (nx := 28) (r1 := 0) (r2 := 0) (r3 := 0) rfl ?_
    refine wi_ireturn (nx := 29) (r1 := 0) (r2 := 0) (r3 := 0) rfl rfl ?_
    exact k h1 (-1) g1 F2 (by omega)
  ·
    refine wi_aload_n (i := 0) (x := 0) (nx := 18) (r1 := 0) (r2 := 0) (r3 := 0) rfl rfl ?_
    refine wr_gr (k0 := 0) (x := 56) (nx := 21) (r1 := 0) (r2 := 5) (r3 := 0) rfl rfl (by decide) rfl ⟨rfl, rfl⟩ rfl ?_
    have b5 := gi_b (lo := -2147483648) (hi := 2147483647) g1 56 12 rfl
    refine wr_gi0 (k0 := 56) (x := h1 56 12) (nx := 24) (r1 := 6) (r2 := 12) (r3 := 0) rfl rfl (by decide) rfl ⟨rfl, rfl⟩ rfl rfl ?_
    refine wi_goto (nx := 27) (r1 := 28) (r2 := 0) (r3 := 0) rfl ?_
    refine wi_ireturn (nx := 29) (r1 := 0) (r2 := 0) (r3 := 0) rfl rfl ?_
    exact k h1 (h1 56 12) g1 F2 (by omega)
-- method 49: Bank.unloadCost()I
set_option maxRecDepth 100000 in
set_option maxHeartbeats 100000000 in
theorem ct_49_0 {L : Nat} {xs : Nat → Int32} {d b c : Nat} {h : hp} {cr : Nat → Nat → Option Nat} {Q : hp_Q} (hcr : CR cr)  (g : GI h)    (k : ∀ (h2 : hp) (z0 : Int) , GI h2 → FR [(57, 57, none), (58, 58, none), (59, 59, none), (60, 60, none), (61, 62, none), (56, 56, some (6, 6)), (56, 56, some (7, 7)), (56, 56, some (9, 9)), (56, 56, some (11, 11)), (56, 56, some (12, 12))] h h2 → (-2147483648 ≤ z0 ∧ z0 ≤ 2147483647) → Q (.inl (some (vi z0))) (hp_w h2 cr) b c) : wp (md_xa (L, xs)) (d + 103) 49 (0, [(0, .ref 0)], [], hp_w h cr, b, c) Q := by
  have F0 : FR [(57, 57, none), (58, 58, none), (59, 59, none), (60, 60, none), (61, 62, none), (56, 56, some (6, 6)), (56, 56, some (7, 7)), (56, 56, some (9, 9)), (56, 56, some (11, 11)), (56, 56, some (12, 12))] h h := FR.refl
  refine wi_aload_n (i := 0) (x := 0) (nx := 1) (r1 := 0) (r2 := 0) (r3 := 0) rfl rfl ?_
  refine wr_gr (k0 := 0) (x := 56) (nx := 4) (r1 := 0) (r2 := 5) (r3 := 0) rfl rfl (by decide) rfl ⟨rfl, rfl⟩ rfl ?_
  refine wr_V (k0 := 56) (rest := []) (as := [.ref 56]) (nx := 7) (r1 := 161) (r2 := 0) (r3 := 6) rfl rfl rfl (of_decide_eq_true rfl) rfl rfl (by decide) rfl rfl (of_decide_eq_true rfl) (of_decide_eq_true rfl) ?_
  refine ct_161_56 hcr  g    (fun h1 g1 u1 => ?_)
  have F2 := F0.then (by decide +kernel) u1
  refine wk_n ?_
  refine wi_aload_n (i := 0) (x := 0) (nx := 8) (r1 := 0) (r2 := 0) (r3 := 0) rfl rfl ?_
  refine wr_gr (k0 := 0) (x := 56) (nx := 11) (r1 := 0) (r2 := 5) (r3 := 0) rfl rfl (by decide) rfl ⟨rfl, rfl⟩ rfl ?_
  have b3 := gi_b (lo := 0) (hi := 1) g1 56 9 rfl
  refine wr_gi2 (k0 := 56) (x := h1 56 9) (nx := 14) (r1 := 6) (r2 := 9) (r3 := 0) rfl rfl (by decide) rfl ⟨rfl, rfl⟩ rfl rfl ?_
  refine wi_if (cd := .eq) (nx := 17) (r1 := 27) (r2 := 0) (r3 := 0) rfl (by omega) (fun (q4 : (h1 56 9) = 0) => ?_) (fun (q4 : ¬ ((h1 56 9) = 0)) => ?_)
  ·
    refine wi_iconst (n := (-1)) (nx := 28) (r1 := 0) (r2 := 0) (r3 := 0) rfl ?_
    refine wi_ireturn (nx := 29) (r1 := 0) (r2 := 0) (r3 := 0) rfl rfl ?_
    exact k h1 (-1) g1 F2 (by omega)
  ·
    refine wi_aload_n (i := 0) (x := 0) (nx := 18) (r1 := 0) (r2 := 0) (r3 := 0) rfl rfl ?_
    refine wr_gr (k0 := 0) (x := 56) (nx := 21) (r1 := 0) (r2 := 5) (r3 := 0) rfl rfl (by decide) rfl ⟨rfl, rfl⟩ rfl ?_
    have b5 := gi_b (lo := -2147483648) (hi := 2147483647) g1 56 11 rfl
    refine wr_gi0 (k0 := 56) (x := h1 56 11) (nx := 24) (r1 := 6) (r2 := 11) (r3 := 0) rfl rfl (by decide) rfl ⟨rfl, rfl⟩ rfl rfl ?_
    refine wi_goto (nx := 27) (r1 := 28) (r2 := 0) (r3 := 0) rfl ?_
    refine wi_ireturn (nx := 29) (r1 := 0) (r2 := 0) (r3 := 0) rfl rfl ?_
    exact k h1 (h1 56 11) g1 F2 (by omega)
-- method 51: Bank.unloadLane(I)I
set_option maxRecDepth 100000 in
set_option maxHeartbeats 100000000 in
theorem ct_51_0 {L : Nat} {xs : Nat → Int32} {d b c : Nat} {h : hp} {cr : Nat → Nat → Option Nat} {Q : hp_Q} (hcr : CR cr)  (g : GI h) (a0 : Int) (q0_ : -2147483648 ≤ a0 ∧ a0 ≤ 2147483647)  (k : ∀ (h2 : hp) (z0 : Int) , GI h2 → FR [(57, 57, none), (58, 58, none), (59, 59, none), (60, 60, none), (61, 62, none), (56, 56, some (6, 6)), (56, 56, some (7, 7)), (56, 56, some (9, 9)), (56, 56, some (11, 11)), (56, 56, some (12, 12))] h h2 → (-2147483648 ≤ z0 ∧ z0 ≤ 2147483647) → Q (.inl (some (vi z0))) (hp_w h2 cr) b c) : wp (md_xa (L, xs)) (d + 103) 51 (0, [(0, .ref 0), (1, vi a0)], [], hp_w h cr, b, c) Q := by
  have F0 : FR [(57, 57, none), (58, 58, none), (59, 59, none), (60, 60, none), (61, 62, none), (56, 56, some (6, 6)), (56, 56, some (7, 7)), (56, 56, some (9, 9)), (56, 56, some (11, 11)), (56, 56, some (12, 12))] h h := FR.refl
  refine wi_aload_n (i := 0) (x := 0) (nx := 1) (r1 := 0) (r2 := 0) (r3 := 0) rfl rfl ?_
  refine wr_gr (k0 := 0) (x := 56) (nx := 4) (r1 := 0) (r2 := 5) (r3 := 0) rfl rfl (by decide) rfl ⟨rfl, rfl⟩ rfl ?_
  refine wr_V (k0 := 56) (rest := []) (as := [.ref 56]) (nx := 7) (r1 := 161) (r2 := 0) (r3 := 6) rfl rfl rfl (of_decide_eq_true rfl) rfl rfl (by decide) rfl rfl (of_decide_eq_true rfl) (of_decide_eq_true rfl) ?_
  refine ct_161_56 hcr  g    (fun h1 g1 u1 => ?_)
  have F2 := F0.then (by decide +kernel) u1
  refine wk_n ?_
  refine wi_aload_n (i := 0) (x := 0) (nx := 8) (r1 := 0) (r2 := 0) (r3 := 0) rfl rfl ?_
  refine wr_gr (k0 := 0) (x := 56) (nx := 11) (r1 := 0) (r2 := 5) (r3 := 0) rfl rfl (by decide) rfl ⟨rfl, rfl⟩ rfl ?_
  have b3 := gi_b (lo := 0) (hi := 1) g1 56 9 rfl
  refine wr_gi2 (k0 := 56) (x := h1 56 9) (nx := 14) (r1 := 6) (r2 := 9) (r3 := 0) rfl rfl (by decide) rfl ⟨rfl, rfl⟩ rfl rfl ?_
  refine wi_if (cd := .eq) (nx := 17) (r1 := 31) (r2 := 0) (r3 := 0) rfl (by omega) (fun (q4 : (h1 56 9) = 0) => ?_) (fun (q4 : ¬ ((h1 56 9) = 0)) => ?_)
  ·
    refine wi_iconst (n := (-1)) (nx := 32) (r1 := 0) (r2 := 0) (r3 := 0) rfl ?_
    refine wi_ireturn (nx := 33) (r1 := 0) (r2 := 0) (r3 := 0) rfl rfl ?_
    exact k h1 (-1) g1 F2 (by omega)
  ·
    refine wi_aload_n (i := 0) (x := 0) (nx := 18) (r1 := 0) (r2 := 0) (r3 := 0) rfl rfl ?_
    refine wr_gr (k0 := 0) (x := 56) (nx := 21) (r1 := 0) (r2 := 5) (r3 := 0) rfl rfl (by decide) rfl ⟨rfl, rfl⟩ rfl ?_
    refine wr_gr (k0 := 56) (x := 61) (nx := 24) (r1 := 6) (r2 := 8) (r3 := 0) rfl rfl (by decide) rfl ⟨rfl, rfl⟩ rfl ?_
    refine wi_iload_n (i := 1) (e := a0) (nx := 25) (r1 := 0) (r2 := 0) (r3 := 0) rfl rfl ?_
    refine wr_V (k0 := 61) (rest := []) (as := [.ref 61, vi a0]) (nx := 28) (r1 := 154) (r2 := 1) (r3 := 5) rfl rfl rfl (of_decide_eq_true rfl) rfl rfl (by decide) rfl rfl (of_decide_eq_true rfl) (of_decide_eq_true rfl) ?_
    refine ct_154_R hcr rw_61 g1 a0 (by omega)  (fun z6  (fz6 : -2147483648 ≤ z6 ∧ z6 ≤ 2147483647) => ?_)
    refine wk_i ?_
    refine wi_goto (nx := 31) (r1 := 32) (r2 := 0) (r3 := 0) rfl ?_
    refine wi_ireturn (nx := 33) (r1 := 0) (r2 := 0) (r3 := 0) rfl rfl ?_
    exact k h1 z6 g1 F2 (by omega)
-- method 31: Bank.waiting()I
set_option maxRecDepth 100000 in
set_option maxHeartbeats 100000000 in
theorem ct_31_0 {L : Nat} {xs : Nat → Int32} {d b c : Nat} {h : hp} {cr : Nat → Nat → Option Nat} {Q : hp_Q} (hcr : CR cr)  (g : GI h)    (k : ∀ (z0 : Int), (-12 ≤ z0 ∧ z0 ≤ 12) → Q (.inl (some (vi z0))) (hp_w h cr) b c) : wp (md_xa (L, xs)) (d + 1) 31 (0, [(0, .ref 0)], [], hp_w h cr, b, c) Q := by
  have F0 : FR [] h h := FR.refl
  refine wi_aload_n (i := 0) (x := 0) (nx := 1) (r1 := 0) (r2 := 0) (r3 := 0) rfl rfl ?_
  refine wr_gr (k0 := 0) (x := 18) (nx := 4) (r1 := 0) (r2 := 3) (r3 := 0) rfl rfl (by decide) rfl ⟨rfl, rfl⟩ rfl ?_
  refine wr_V (k0 := 18) (rest := []) (as := [.ref 18]) (nx := 7) (r1 := 128) (r2 := 0) (r3 := 4) rfl rfl rfl (of_decide_eq_true rfl) rfl rfl (by decide) rfl rfl (of_decide_eq_true rfl) (of_decide_eq_true rfl) ?_
  refine ct_128_18 hcr  g    (fun z2  (fz2 : -12 ≤ z2 ∧ z2 ≤ 12) => ?_)
  refine wk_i ?_
  refine wi_ireturn (nx := 8) (r1 := 0) (r2 := 0) (r3 := 0) rfl rfl ?_
  exact k z2 (by omega)
-- method 150: Line.changesAmongWaiting()I
set_option maxRecDepth 100000 in
set_option maxHeartbeats 100000000 in
theorem ct_150_18 {L : Nat} {xs : Nat → Int32} {d b c : Nat} {h : hp} {cr : Nat → Nat → Option Nat} {Q : hp_Q} (hcr : CR cr)  (g : GI h)    (k : ∀ (z0 : Int), (-2147483648 ≤ z0 ∧ z0 ≤ 2147483647) → Q (.inl (some (vi z0))) (hp_w h cr) b c) : wp (md_xa (L, xs)) d 150 (0, [(0, .ref 18)], [], hp_w h cr, b, c) Q := by
  have F0 : FR [] h h := FR.refl
  refine wi_iconst (n := 0) (nx := 1) (r1 := 0) (r2 := 0) (r3 := 0) rfl ?_
  refine wi_istore_n (i := 1) (e := 0) (lo2 := [(1, vi 0), (0, .ref 18)]) (nx := 2) (r1 := 0) (r2 := 0) (r3 := 0) rfl rfl ?_
  refine wi_aload_n (i := 0) (x := 18) (nx := 3) (r1 := 0) (r2 := 0) (r3 := 0) rfl rfl ?_
  have b1 := gi_b (lo := 0) (hi := 12) g 18 7 rfl
  refine wr_gi0 (k0 := 18) (x := h 18 7) (nx := 6) (r1 := 4) (r2 := 7) (r3 := 0) rfl rfl (by decide) rfl ⟨rfl, rfl⟩ rfl rfl ?_
  refine wi_iconst (n := 1) (nx := 7) (r1 := 0) (r2 := 0) (r3 := 0) rfl ?_
  refine wr_add (nx := 8) (r1 := 0) (r2 := 0) (r3 := 0) rfl (fun e2 (fe2 : e2 = (h 18 7) + 1) => ?_)
  refine wi_istore_n (i := 2) (e := e2) (lo2 := [(2, vi e2), (1, vi 0), (0, .ref 18)]) (nx := 9) (r1 := 0) (r2 := 0) (r3 := 0) rfl rfl ?_
  refine wp.lo (lo := [(0, .ref 18), (1, vi 0), (2, vi e2)]) ⟨rfl, rfl, rfl, trivial⟩ rfl ?_
  refine wl_2 (fun x3 x4 h5 => h = h5 ∧ ((-2147483648 ≤ x3 ∧ x3 ≤ 2147483647) ∧ (1 ≤ x4 ∧ x4 ≤ 13))) (fun x3 x4 h5 => ((13 : Int) + 1 - x4).toNat) (fun x3 x4 h5 => (9, [(0, .ref 18), (1, vi x3), (2, vi x4)], [], hp_w h5 cr, b, c)) ?_ 0 e2 h ⟨rfl, (show (-2147483648 ≤ 0 ∧ 0 ≤ 2147483647) ∧ (1 ≤ e2 ∧ e2 ≤ 13) by omega)⟩
  intro x3 x4 h5 ⟨e5, f5⟩ I5
  subst e5
  refine wi_iload_n (i := 2) (e := x4) (nx := 10) (r1 := 0) (r2 := 0) (r3 := 0) rfl rfl ?_
  refine wi_aload_n (i := 0) (x := 18) (nx := 11) (r1 := 0) (r2 := 0) (r3 := 0) rfl rfl ?_
  refine wr_gr (k0 := 18) (x := 3) (nx := 14) (r1 := 4) (r2 := 0) (r3 := 0) rfl rfl (by decide) rfl ⟨rfl, rfl⟩ rfl ?_
  have b7 := gi_b (lo := 0) (hi := 12) g 3 2 rfl
  refine wr_gi0 (k0 := 3) (x := h 3 2) (nx := 17) (r1 := 2) (r2 := 2) (r3 := 0) rfl rfl (by decide) rfl ⟨rfl, rfl⟩ rfl rfl ?_
  refine wi_icmp (cd := .ge) (nx := 20) (r1 := 46) (r2 := 0) (r3 := 0) rfl (by omega) (by omega) (fun (q8 : (h 3 2) ≤ x4) => ?_) (fun (q8 : ¬ ((h 3 2) ≤ x4)) => ?_)
  ·
    refine wi_iload_n (i := 1) (e := x3) (nx := 47) (r1 := 0) (r2 := 0) (r3 := 0) rfl rfl ?_
    refine wi_ireturn (nx := 48) (r1 := 0) (r2 := 0) (r3 := 0) rfl rfl ?_
    exact k x3 (by omega)
  ·
    refine wi_aload_n (i := 0) (x := 18) (nx := 21) (r1 := 0) (r2 := 0) (r3 := 0) rfl rfl ?_
    refine wr_gr (k0 := 18) (x := 19) (nx := 24) (r1 := 4) (r2 := 1) (r3 := 0) rfl rfl (by decide) rfl ⟨rfl, rfl⟩ rfl ?_
    refine wi_iload_n (i := 2) (e := x4) (nx := 25) (r1 := 0) (r2 := 0) (r3 := 0) rfl rfl ?_
    obtain ⟨i9, ei9⟩ : ∃ q : Nat, x4 = (q : Int) := ⟨(x4).toNat, by omega⟩
    have b10 := gi_b (lo := -2147483648) (hi := 2147483647) g 19 i9 rfl
    refine wr_ia (k0 := 19) (a := x4) (f := i9) (x := h 19 i9) (nx := 26) (r1 := 0) (r2 := 0) (r3 := 0) rfl (by decide) rfl (by omega) (by omega) (by decide) rfl ?_
    refine wi_aload_n (i := 0) (x := 18) (nx := 27) (r1 := 0) (r2 := 0) (r3 := 0) rfl rfl ?_
    refine wr_gr (k0 := 18) (x := 19) (nx := 30) (r1 := 4) (r2 := 1) (r3 := 0) rfl rfl (by decide) rfl ⟨rfl, rfl⟩ rfl ?_
    refine wi_iload_n (i := 2) (e := x4) (nx := 31) (r1 := 0) (r2 := 0) (r3 := 0) rfl rfl ?_
    refine wi_iconst (n := 1) (nx := 32) (r1 := 0) (r2 := 0) (r3 := 0) rfl ?_
    refine wr_sub (nx := 33) (r1 := 0) (r2 := 0) (r3 := 0) rfl (fun e11 (fe11 : e11 = x4 - 1) => ?_)
    obtain ⟨i12, ei12⟩ : ∃ q : Nat, e11 = (q : Int) := ⟨(e11).toNat, by omega⟩
    have b13 := gi_b (lo := -2147483648) (hi := 2147483647) g 19 i12 rfl
    refine wr_ia (k0 := 19) (a := e11) (f := i12) (x := h 19 i12) (nx := 34) (r1 := 0) (r2 := 0) (r3 := 0) rfl (by decide) rfl (by omega) (by omega) (by decide) rfl ?_
    refine wi_icmp (cd := .eq) (nx := 37) (r1 := 40) (r2 := 0) (r3 := 0) rfl (by omega) (by omega) (fun (q14 : (h 19 i9) = (h 19 i12)) => ?_) (fun (q14 : ¬ ((h 19 i9) = (h 19 i12))) => ?_)
    ·
      refine wr_iinc (i := 2) (n := 1) (v := x4) (fun e15 => [(2, vi e15), (0, .ref 18), (1, vi x3)]) (nx := 43) (r1 := 0) (r2 := 0) (r3 := 0) rfl rfl (fun _ => rfl) (fun e15 (fe15 : e15 = x4 + 1) => ?_)
      refine wi_goto (nx := 46) (r1 := 9) (r2 := 0) (r3 := 0) rfl ?_
      refine wp.lo (lo := [(0, .ref 18), (1, vi x3), (2, vi e15)]) ⟨rfl, rfl, rfl, trivial⟩ rfl ?_
      exact I5 x3 e15 h ⟨rfl, (show (-2147483648 ≤ x3 ∧ x3 ≤ 2147483647) ∧ (1 ≤ e15 ∧ e15 ≤ 13) by omega)⟩ (show ((13 : Int) + 1 - e15).toNat < ((13 : Int) + 1 - x4).toNat by omega)
    ·
      refine wr_iincW (i := 1) (n := 1) (v := x3) (fun e15 => [(1, vi e15), (0, .ref 18), (2, vi x4)]) (nx := 40) (r1 := 0) (r2 := 0) (r3 := 0) rfl rfl (fun _ => rfl) (fun e15 (fe15 : -2147483648 ≤ e15 ∧ e15 ≤ 2147483647) => ?_)
      refine wr_iinc (i := 2) (n := 1) (v := x4) (fun e16 => [(2, vi e16), (1, vi e15), (0, .ref 18)]) (nx := 43) (r1 := 0) (r2 := 0) (r3 := 0) rfl rfl (fun _ => rfl) (fun e16 (fe16 : e16 = x4 + 1) => ?_)
      refine wi_goto (nx := 46) (r1 := 9) (r2 := 0) (r3 := 0) rfl ?_
      refine wp.lo (lo := [(0, .ref 18), (1, vi e15), (2, vi e16)]) ⟨rfl, rfl, rfl, trivial⟩ rfl ?_
      exact I5 e15 e16 h ⟨rfl, (show (-2147483648 ≤ e15 ∧ e15 ≤ 2147483647) ∧ (1 ≤ e16 ∧ e16 ≤ 13) by omega)⟩ (show ((13 : Int) + 1 - e16).toNat < ((13 : Int) + 1 - x4).toNat by omega)
-- method 54: Bank.waitingChanges()I
set_option maxRecDepth 100000 in
set_option maxHeartbeats 100000000 in
theorem ct_54_0 {L : Nat} {xs : Nat → Int32} {d b c : Nat} {h : hp} {cr : Nat → Nat → Option Nat} {Q : hp_Q} (hcr : CR cr)  (g : GI h)    (k : ∀ (z0 : Int), (-2147483648 ≤ z0 ∧ z0 ≤ 2147483647) → Q (.inl (some (vi z0))) (hp_w h cr) b c) : wp (md_xa (L, xs)) (d + 1) 54 (0, [(0, .ref 0)], [], hp_w h cr, b, c) Q := by
  have F0 : FR [] h h := FR.refl
  refine wi_aload_n (i := 0) (x := 0) (nx := 1) (r1 := 0) (r2 := 0) (r3 := 0) rfl rfl ?_
  refine wr_gr (k0 := 0) (x := 18) (nx := 4) (r1 := 0) (r2 := 3) (r3 := 0) rfl rfl (by decide) rfl ⟨rfl, rfl⟩ rfl ?_
  refine wr_V (k0 := 18) (rest := []) (as := [.ref 18]) (nx := 7) (r1 := 150) (r2 := 0) (r3 := 4) rfl rfl rfl (of_decide_eq_true rfl) rfl rfl (by decide) rfl rfl (of_decide_eq_true rfl) (of_decide_eq_true rfl) ?_
  refine ct_150_18 hcr  g    (fun z2  (fz2 : -2147483648 ≤ z2 ∧ z2 ≤ 2147483647) => ?_)
  refine wk_i ?_
  refine wi_ireturn (nx := 8) (r1 := 0) (r2 := 0) (r3 := 0) rfl rfl ?_
  exact k z2 (by omega)
-- method 44: Bank.waits()I
set_option maxRecDepth 100000 in
set_option maxHeartbeats 100000000 in
theorem ct_44_0 {L : Nat} {xs : Nat → Int32} {d b c : Nat} {h : hp} {cr : Nat → Nat → Option Nat} {Q : hp_Q} (hcr : CR cr)  (g : GI h)    (k : ∀ (h2 : hp) (z0 : Int) , GI h2 → FR [(75, 207, none), (18, 18, some (10, 10)), (18, 18, some (16, 16)), (73, 73, some (1, 1)), (73, 73, some (2, 2))] h h2 → (-2147483648 ≤ z0 ∧ z0 ≤ 2147483647) → Q (.inl (some (vi z0))) (hp_w h2 cr) b c) : wp (md_xa (L, xs)) (d + 3) 44 (0, [(0, .ref 0)], [], hp_w h cr, b, c) Q := by
  have F0 : FR [(75, 207, none), (18, 18, some (10, 10)), (18, 18, some (16, 16)), (73, 73, some (1, 1)), (73, 73, some (2, 2))] h h := FR.refl
  refine wi_aload_n (i := 0) (x := 0) (nx := 1) (r1 := 0) (r2 := 0) (r3 := 0) rfl rfl ?_
  refine wr_gr (k0 := 0) (x := 73) (nx := 4) (r1 := 0) (r2 := 8) (r3 := 0) rfl rfl (by decide) rfl ⟨rfl, rfl⟩ rfl ?_
  refine wi_aload_n (i := 0) (x := 0) (nx := 5) (r1 := 0) (r2 := 0) (r3 := 0) rfl rfl ?_
  refine wr_gr (k0 := 0) (x := 18) (nx := 8) (r1 := 0) (r2 := 3) (r3 := 0) rfl rfl (by decide) rfl ⟨rfl, rfl⟩ rfl ?_
  refine wr_V (k0 := 73) (rest := []) (as := [.ref 73, .ref 18]) (nx := 11) (r1 := 192) (r2 := 1) (r3 := 9) rfl rfl rfl (of_decide_eq_true rfl) rfl rfl (by decide) rfl rfl (of_decide_eq_true rfl) (of_decide_eq_true rfl) ?_
  refine ct_192_73_18 hcr  g    (fun h1 g1 u1 => ?_)
  have F2 := F0.then (by decide +kernel) u1
  refine wk_n ?_
  refine wi_aload_n (i := 0) (x := 0) (nx := 12) (r1 := 0) (r2 := 0) (r3 := 0) rfl rfl ?_
  refine wi_aload_n (i := 0) (x := 0) (nx := 13) (r1 := 0) (r2 := 0) (r3 := 0) rfl rfl ?_
  refine wr_gr (k0 := 0) (x := 18) (nx := 16) (r1 := 0) (r2 := 3) (r3 := 0) rfl rfl (by decide) rfl ⟨rfl, rfl⟩ rfl ?_
  refine wr_V (k0 := 18) (rest := [.ref 0]) (as := [.ref 18]) (nx := 19) (r1 := 133) (r2 := 0) (r3 := 4) rfl rfl rfl (of_decide_eq_true rfl) rfl rfl (by decide) rfl rfl (of_decide_eq_true rfl) (of_decide_eq_true rfl) ?_
  refine ct_133_18 hcr  g1    (fun h3 z4 g3 u3 (fz4 : -2147483647 ≤ z4 ∧ z4 ≤ 9999) => ?_)
  have F5 := F2.then (by decide +kernel) u3
  refine wk_i ?_
  refine wr_V (k0 := 0) (rest := []) (as := [.ref 0, vi z4]) (nx := 22) (r1 := 45) (r2 := 1) (r3 := 0) rfl rfl rfl (of_decide_eq_true rfl) rfl rfl (by decide) rfl rfl (of_decide_eq_true rfl) (of_decide_eq_true rfl) ?_
  refine ct_45_0 hcr  g3 z4 (by omega)  (fun h6 z7 g6 u6 (fz7 : -2147483648 ≤ z7 ∧ z7 ≤ 2147483647) => ?_)
  have F8 := F5.then (by decide +kernel) u6
  refine wk_i ?_
  refine wi_ireturn (nx := 23) (r1 := 0) (r2 := 0) (r3 := 0) rfl rfl ?_
  exact k h6 z7 g6 F8 (by omega)
-- method 152: Line.placeKind(I)I
set_option maxRecDepth 100000 in
set_option maxHeartbeats 100000000 in
theorem ct_152_18 {L : Nat} {xs : Nat → Int32} {d b c : Nat} {h : hp} {cr : Nat → Nat → Option Nat} {Q : hp_Q} (hcr : CR cr)  (g : GI h) (a0 : Int) (q0_ : -2147483648 ≤ a0 ∧ a0 ≤ 2147483647)  (k : ∀ (z0 : Int), (0 ≤ z0 ∧ z0 ≤ 3) → Q (.inl (some (vi z0))) (hp_w h cr) b c) : wp (md_xa (L, xs)) (d + 1) 152 (0, [(0, .ref 18), (1, vi a0)], [], hp_w h cr, b, c) Q := by
  have F0 : FR [] h h := FR.refl
  refine wi_iload_n (i := 1) (e := a0) (nx := 1) (r1 := 0) (r2 := 0) (r3 := 0) rfl rfl ?_
  refine wi_aload_n (i := 0) (x := 18) (nx := 2) (r1 := 0) (r2 := 0) (r3 := 0) rfl rfl ?_
  have b1 := gi_b (lo := 0) (hi := 12) g 18 7 rfl
  refine wr_gi0 (k0 := 18) (x := h 18 7) (nx := 5) (r1 := 4) (r2 := 7) (r3 := 0) rfl rfl (by decide) rfl ⟨rfl, rfl⟩ rfl rfl ?_
  refine wi_icmp (cd := .lt) (nx := 8) (r1 := 10) (r2 := 0) (r3 := 0) rfl (by omega) (by omega) (fun (q2 : a0 < (h 18 7)) => ?_) (fun (q2 : ¬ (a0 < (h 18 7))) => ?_)
  ·
    refine wi_aload_n (i := 0) (x := 18) (nx := 11) (r1 := 0) (r2 := 0) (r3 := 0) rfl rfl ?_
    refine wr_gr (k0 := 18) (x := 26) (nx := 14) (r1 := 4) (r2 := 6) (r3 := 0) rfl rfl (by decide) rfl ⟨rfl, rfl⟩ rfl ?_
    refine wi_iload_n (i := 1) (e := a0) (nx := 15) (r1 := 0) (r2 := 0) (r3 := 0) rfl rfl ?_
    refine wr_V (k0 := 26) (rest := []) (as := [.ref 26, vi a0]) (nx := 18) (r1 := 159) (r2 := 1) (r3 := 5) rfl rfl rfl (of_decide_eq_true rfl) rfl rfl (by decide) rfl rfl (of_decide_eq_true rfl) (of_decide_eq_true rfl) ?_
    refine ct_159_R hcr rw_26 g a0 (by omega)  (fun z4  (fz4 : -1 ≤ z4 ∧ z4 ≤ 11) => ?_)
    refine wk_i ?_
    refine wi_iconst (n := (-1)) (nx := 19) (r1 := 0) (r2 := 0) (r3 := 0) rfl ?_
    refine wi_icmp (cd := .eq) (nx := 22) (r1 := 24) (r2 := 0) (r3 := 0) rfl (by omega) (by omega) (fun (q5 : z4 = (-1)) => ?_) (fun (q5 : ¬ (z4 = (-1))) => ?_)
    ·
      refine wi_aload_n (i := 0) (x := 18) (nx := 25) (r1 := 0) (r2 := 0) (r3 := 0) rfl rfl ?_
      refine wr_gr (k0 := 18) (x := 22) (nx := 28) (r1 := 4) (r2 := 4) (r3 := 0) rfl rfl (by decide) rfl ⟨rfl, rfl⟩ rfl ?_
      refine wi_iload_n (i := 1) (e := a0) (nx := 29) (r1 := 0) (r2 := 0) (r3 := 0) rfl rfl ?_
      refine wr_V (k0 := 22) (rest := []) (as := [.ref 22, vi a0]) (nx := 32) (r1 := 159) (r2 := 1) (r3 := 5) rfl rfl rfl (of_decide_eq_true rfl) rfl rfl (by decide) rfl rfl (of_decide_eq_true rfl) (of_decide_eq_true rfl) ?_
      refine ct_159_R hcr rw_22 g a0 (by omega)  (fun z7  (fz7 : -1 ≤ z7 ∧ z7 ≤ 11) => ?_)
      refine wk_i ?_
      refine wi_iconst (n := (-1)) (nx := 33) (r1 := 0) (r2 := 0) (r3 := 0) rfl ?_
      refine wi_icmp (cd := .eq) (nx := 36) (r1 := 40) (r2 := 0) (r3 := 0) rfl (by omega) (by omega) (fun (q8 : z7 = (-1)) => ?_) (fun (q8 : ¬ (z7 = (-1))) => ?_)
      ·
        refine wi_iconst (n := 1) (nx := 41) (r1 := 0) (r2 := 0) (r3 := 0) rfl ?_
        refine wi_ireturn (nx := 42) (r1 := 0) (r2 := 0) (r3 := 0) rfl rfl ?_
        exact k 1 (by omega)
      ·
        refine wi_iconst (n := 2) (nx := 37) (r1 := 0) (r2 := 0) (r3 := 0) rfl ?_
        refine wi_goto (nx := 40) (r1 := 41) (r2 := 0) (r3 := 0) rfl ?_
        refine wi_ireturn (nx := 42) (r1 := 0) (r2 := 0) (r3 := 0) rfl rfl ?_
        exact k 2 (by omega)
    ·
      refine wi_iconst (n := 3) (nx := 23) (r1 := 0) (r2 := 0) (r3 := 0) rfl ?_
      refine wi_ireturn (nx := 24) (r1 := 0) (r2 := 0) (r3 := 0) rfl rfl ?_
      exact k 3 (by omega)
  ·
    refine wi_iconst (n := 0) (nx := 9) (r1 := 0) (r2 := 0) (r3 := 0) rfl ?_
    refine wi_ireturn (nx := 10) (r1 := 0) (r2 := 0) (r3 := 0) rfl rfl ?_
    exact k 0 (by omega)
-- method 73: Bank.where(I)I
set_option maxRecDepth 100000 in
set_option maxHeartbeats 100000000 in
theorem ct_73_0 {L : Nat} {xs : Nat → Int32} {d b c : Nat} {h : hp} {cr : Nat → Nat → Option Nat} {Q : hp_Q} (hcr : CR cr) (hr : 1 ≤ b ∧ 6 ≤ c)  (g : GI h) (a0 : Int) (q0_ : -2147483648 ≤ a0 ∧ a0 ≤ 2147483647)  (k : ∀ (z0 : Int), (0 ≤ z0 ∧ z0 ≤ 3) → Q (.inl (some (vi z0))) (hp_w h cr) b c) (kx2 : Q (.inr 2) (hp_w h cr) (b - 1) (c - 6)) : wp (md_xa (L, xs)) (d + 2) 73 (0, [(0, .ref 0), (1, vi a0)], [], hp_w h cr, b, c) Q := by
  have F0 : FR [] h h := FR.refl
  refine wi_aload_n (i := 0) (x := 0) (nx := 1) (r1 := 0) (r2 := 0) (r3 := 0) rfl rfl ?_
  refine wi_iload_n (i := 1) (e := a0) (nx := 2) (r1 := 0) (r2 := 0) (r3 := 0) rfl rfl ?_
  refine wr_V (k0 := 0) (rest := []) (as := [.ref 0, vi a0]) (nx := 5) (r1 := 70) (r2 := 1) (r3 := 0) rfl rfl rfl (of_decide_eq_true rfl) rfl rfl (by decide) rfl rfl (of_decide_eq_true rfl) (of_decide_eq_true rfl) ?_
  refine wi_iload_n (i := 1) (e := a0) (nx := 1) (r1 := 0) (r2 := 0) (r3 := 0) rfl rfl ?_
  refine wi_if (cd := .lt) (nx := 4) (r1 := 15) (r2 := 0) (r3 := 0) rfl (by omega) (fun (q1 : a0 < 0) => ?_) (fun (q1 : ¬ (a0 < 0)) => ?_)
  ·
    refine wr_throw (Ex := 2) (nx := 18) (r1 := 2) (r2 := 0) (r3 := 1) rfl (by decide) rfl hr (by decide) ?_
    refine wk_x rfl ?_
    exact kx2
  ·
    refine wi_iload_n (i := 1) (e := a0) (nx := 5) (r1 := 0) (r2 := 0) (r3 := 0) rfl rfl ?_
    refine wi_aload_n (i := 0) (x := 0) (nx := 6) (r1 := 0) (r2 := 0) (r3 := 0) rfl rfl ?_
    refine wr_gr (k0 := 0) (x := 3) (nx := 9) (r1 := 0) (r2 := 1) (r3 := 0) rfl rfl (by decide) rfl ⟨rfl, rfl⟩ rfl ?_
    have b2 := gi_b (lo := 0) (hi := 12) g 3 2 rfl
    refine wr_gi0 (k0 := 3) (x := h 3 2) (nx := 12) (r1 := 2) (r2 := 2) (r3 := 0) rfl rfl (by decide) rfl ⟨rfl, rfl⟩ rfl rfl ?_
    refine wi_icmp (cd := .lt) (nx := 15) (r1 := 26) (r2 := 0) (r3 := 0) rfl (by omega) (by omega) (fun (q3 : a0 < (h 3 2)) => ?_) (fun (q3 : ¬ (a0 < (h 3 2))) => ?_)
    ·
      refine wi_return (nx := 27) (r1 := 0) (r2 := 0) (r3 := 0) rfl rfl ?_
      refine wk_n ?_
      refine wi_aload_n (i := 0) (x := 0) (nx := 6) (r1 := 0) (r2 := 0) (r3 := 0) rfl rfl ?_
      refine wr_gr (k0 := 0) (x := 18) (nx := 9) (r1 := 0) (r2 := 3) (r3 := 0) rfl rfl (by decide) rfl ⟨rfl, rfl⟩ rfl ?_
      refine wi_iload_n (i := 1) (e := a0) (nx := 10) (r1 := 0) (r2 := 0) (r3 := 0) rfl rfl ?_
      refine wr_V (k0 := 18) (rest := []) (as := [.ref 18, vi a0]) (nx := 13) (r1 := 152) (r2 := 1) (r3 := 4) rfl rfl rfl (of_decide_eq_true rfl) rfl rfl (by decide) rfl rfl (of_decide_eq_true rfl) (of_decide_eq_true rfl) ?_
      refine ct_152_18 hcr  g a0 (by omega)  (fun z5  (fz5 : 0 ≤ z5 ∧ z5 ≤ 3) => ?_)
      refine wk_i ?_
      refine wi_ireturn (nx := 14) (r1 := 0) (r2 := 0) (r3 := 0) rfl rfl ?_
      exact k z5 (by omega)
    ·
      refine wr_throw (Ex := 2) (nx := 18) (r1 := 2) (r2 := 0) (r3 := 1) rfl (by decide) rfl hr (by decide) ?_
      refine wk_x rfl ?_
      exact kx2
