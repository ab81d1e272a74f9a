-- method 155: Row.copyFrom(LPaintBank$Row;)V
set_option maxRecDepth 100000 in
set_option maxHeartbeats 100000000 in
theorem ct_155_R_R {L : Nat} {xs : Nat → Int32} {d b c : Nat} {h : hp} {cr : Nat → Nat → Option Nat} {Q : hp_Q} (hcr : CR cr)  {k0 : Nat} (kk0 : Rw k0) {k1 : Nat} (kk1 : Rw k1) (g : GI h)    (k : ∀ (h2 : hp) , GI h2 → FR [(k0, k0 + 1, none)] h h2 → Q (.inl none) (hp_w h2 cr) b c) : wp (md_xa (L, xs)) d 155 (0, [(0, .ref k0), (1, .ref k1)], [], hp_w h cr, b, c) Q := by
  have F0 : FR [(k0, k0 + 1, none)] h h := FR.refl
  have nk0 := kk0.2.2.1
  unfold md_nW at nk0
  have nk1 := kk1.2.2.1
  unfold md_nW at nk1
  refine wi_aload_n (i := 0) (x := k0) (nx := 1) (r1 := 0) (r2 := 0) (r3 := 0) rfl rfl ?_
  refine wi_aload_n (i := 1) (x := k1) (nx := 2) (r1 := 0) (r2 := 0) (r3 := 0) rfl rfl ?_
  have b1 := gi_b (lo := 0) (hi := 12) g k1 1 kk1.2.2.2.1
  refine wr_gi0 (k0 := k1) (x := h k1 1) (nx := 5) (r1 := 5) (r2 := 1) (r3 := 0) rfl rfl kk1.k kk1.1 ⟨rfl, rfl⟩ rfl rfl ?_
  refine wr_pf0 (k0 := k0) (x := h k1 1) (bl := 0) (bh := 12) (nx := 8) (r1 := 5) (r2 := 1) (r3 := 0) rfl kk0.k kk0.1 ⟨rfl, rfl⟩ rfl rfl g kk0.2.2.2.1 (by omega) (fun h2 g2 w2 u2 => ?_)
  have F3 := F0.trans (FR.rngp (lo := k0) (hi := k0 + 1) u2 (by omega))
  refine wi_aload_n (i := 1) (x := k1) (nx := 9) (r1 := 0) (r2 := 0) (r3 := 0) rfl rfl ?_
  refine wr_gr (k0 := k1) (x := k1 + 1) (nx := 12) (r1 := 5) (r2 := 0) (r3 := 0) rfl rfl kk1.k kk1.1 ⟨rfl, rfl⟩ rfl ?_
  refine wi_iconst (n := 0) (nx := 13) (r1 := 0) (r2 := 0) (r3 := 0) rfl ?_
  refine wi_aload_n (i := 0) (x := k0) (nx := 14) (r1 := 0) (r2 := 0) (r3 := 0) rfl rfl ?_
  refine wr_gr (k0 := k0) (x := k0 + 1) (nx := 17) (r1 := 5) (r2 := 0) (r3 := 0) rfl rfl kk0.k kk0.1 ⟨rfl, rfl⟩ rfl ?_
  refine wi_iconst (n := 0) (nx := 18) (r1 := 0) (r2 := 0) (r3 := 0) rfl ?_
  refine wi_aload_n (i := 0) (x := k0) (nx := 19) (r1 := 0) (r2 := 0) (r3 := 0) rfl rfl ?_
  refine wr_gi0 (k0 := k0) (x := h k1 1) (nx := 22) (r1 := 5) (r2 := 1) (r3 := 0) rfl rfl kk0.k kk0.1 ⟨rfl, rfl⟩ rfl w2 ?_
  refine wr_cpy (s0 := k1 + 1) (d0 := k0 + 1) (n0 := 12) (n1 := 12) (sp := 0) (dp := 0) (n := h k1 1) (sl := -2147483648) (sh := 2147483647) (dl := -2147483648) (dh := 2147483647) (nx := 25) (r1 := 0) (r2 := 101) (r3 := 0) rfl rfl (of_decide_eq_true rfl) kk1.2.2.1 kk0.2.2.1 kk1.2.1 kk0.2.1 (by omega) (kk1.2.2.2.2) (kk0.2.2.2.2) (by omega) g2 (fun h4 g4 y4 u4 => ?_)
  have F5 := F3.trans (FR.rngp (lo := k0) (hi := k0 + 1) u4 (by omega))
  refine wi_return (nx := 26) (r1 := 0) (r2 := 0) (r3 := 0) rfl rfl ?_
  exact k h4 g4 F5
-- method 132: Line.copyFrom(LPaintBank$Line;)V
set_option maxRecDepth 100000 in
set_option maxHeartbeats 100000000 in
theorem ct_132_75_18 {L : Nat} {xs : Nat → Int32} {d b c : Nat} {h : hp} {cr : Nat → Nat → Option Nat} {Q : hp_Q} (hcr : CR cr)  (g : GI h)    (k : ∀ (h2 : hp) , GI h2 → FR [(75, 207, none)] h h2 → Q (.inl none) (hp_w h2 cr) b c) : wp (md_xa (L, xs)) (d + 1) 132 (0, [(0, .ref 75), (1, .ref 18)], [], hp_w h cr, b, c) Q := by
  have F0 : FR [(75, 207, none)] h h := FR.refl
  refine wi_aload_n (i := 1) (x := 18) (nx := 1) (r1 := 0) (r2 := 0) (r3 := 0) rfl rfl ?_
  refine wr_gr (k0 := 18) (x := 19) (nx := 4) (r1 := 4) (r2 := 1) (r3 := 0) rfl rfl (by decide) rfl ⟨rfl, rfl⟩ rfl ?_
  refine wi_iconst (n := 0) (nx := 5) (r1 := 0) (r2 := 0) (r3 := 0) rfl ?_
  refine wi_aload_n (i := 0) (x := 75) (nx := 6) (r1 := 0) (r2 := 0) (r3 := 0) rfl rfl ?_
  refine wr_gr (k0 := 75) (x := 76) (nx := 9) (r1 := 4) (r2 := 1) (r3 := 0) rfl rfl (by decide) rfl ⟨rfl, rfl⟩ rfl ?_
  refine wi_iconst (n := 0) (nx := 10) (r1 := 0) (r2 := 0) (r3 := 0) rfl ?_
  refine wi_bipush (n := 12) (nx := 12) (r1 := 0) (r2 := 0) (r3 := 0) rfl (by decide) ?_
  refine wr_cpy (s0 := 19) (d0 := 76) (n0 := 12) (n1 := 12) (sp := 0) (dp := 0) (n := 12) (sl := -2147483648) (sh := 2147483647) (dl := -2147483648) (dh := 2147483647) (nx := 15) (r1 := 0) (r2 := 101) (r3 := 0) rfl rfl (of_decide_eq_true rfl) (by decide) (by decide) rfl rfl (by omega) (fun _ => rfl) (fun _ => rfl) (by omega) g (fun h1 g1 y1 u1 => ?_)
  have F2 := F0.then rfl u1
  refine wi_aload_n (i := 1) (x := 18) (nx := 16) (r1 := 0) (r2 := 0) (r3 := 0) rfl rfl ?_
  refine wr_gr (k0 := 18) (x := 20) (nx := 19) (r1 := 4) (r2 := 2) (r3 := 0) rfl rfl (by decide) rfl ⟨rfl, rfl⟩ rfl ?_
  refine wi_iconst (n := 0) (nx := 20) (r1 := 0) (r2 := 0) (r3 := 0) rfl ?_
  refine wi_aload_n (i := 0) (x := 75) (nx := 21) (r1 := 0) (r2 := 0) (r3 := 0) rfl rfl ?_
  refine wr_gr (k0 := 75) (x := 77) (nx := 24) (r1 := 4) (r2 := 2) (r3 := 0) rfl rfl (by decide) rfl ⟨rfl, rfl⟩ rfl ?_
  refine wi_iconst (n := 0) (nx := 25) (r1 := 0) (r2 := 0) (r3 := 0) rfl ?_
  refine wi_bipush (n := 12) (nx := 27) (r1 := 0) (r2 := 0) (r3 := 0) rfl (by decide) ?_
  refine wr_cpy (s0 := 20) (d0 := 77) (n0 := 12) (n1 := 12) (sp := 0) (dp := 0) (n := 12) (sl := -2147483648) (sh := 2147483647) (dl := -2147483648) (dh := 2147483647) (nx := 30) (r1 := 0) (r2 := 101) (r3 := 0) rfl rfl (of_decide_eq_true rfl) (by decide) (by decide) rfl rfl (by omega) (fun _ => rfl) (fun _ => rfl) (by omega) g1 (fun h3 g3 y3 u3 => ?_)
  have F4 := F2.then rfl u3
  refine wi_iconst (n := 0) (nx := 31) (r1 := 0) (r2 := 0) (r3 := 0) rfl ?_
  refine wi_istore_n (i := 2) (e := 0) (lo2 := [(2, vi 0), (0, .ref 75), (1, .ref 18)]) (nx := 32) (r1 := 0) (r2 := 0) (r3 := 0) rfl rfl ?_
  refine wp.lo (lo := [(0, .ref 75), (1, .ref 18), (2, vi 0)]) ⟨rfl, rfl, rfl, trivial⟩ rfl ?_
  refine wl_1 (fun x5 h6 => GI h6 ∧ FR [(75, 207, none)] h h6 ∧ FR [(86, 93, none)] h3 h6 ∧ ((0 ≤ x5 ∧ x5 ≤ 4))) (fun x5 h6 => ((4 : Int) + 1 - x5).toNat) (fun x5 h6 => (32, [(0, .ref 75), (1, .ref 18), (2, vi x5)], [], hp_w h6 cr, b, c)) ?_ 0 h3 ⟨g3, F4, FR.refl, (show (0 ≤ 0 ∧ 0 ≤ 4) by omega)⟩
  intro x5 h6 ⟨g6, F7, u6, f6⟩ I6
  refine wi_iload_n (i := 2) (e := x5) (nx := 33) (r1 := 0) (r2 := 0) (r3 := 0) rfl rfl ?_
  refine wi_iconst (n := 4) (nx := 34) (r1 := 0) (r2 := 0) (r3 := 0) rfl ?_
  refine wi_icmp (cd := .ge) (nx := 37) (r1 := 58) (r2 := 0) (r3 := 0) rfl (by omega) (by omega) (fun (q8 : 4 ≤ x5) => ?_) (fun (q8 : ¬ (4 ≤ x5)) => ?_)
  ·
    refine wi_aload_n (i := 0) (x := 75) (nx := 59) (r1 := 0) (r2 := 0) (r3 := 0) rfl rfl ?_
    refine wr_gr (k0 := 75) (x := 79) (nx := 62) (r1 := 4) (r2 := 4) (r3 := 0) rfl rfl (by decide) rfl ⟨rfl, rfl⟩ rfl ?_
    refine wi_aload_n (i := 1) (x := 18) (nx := 63) (r1 := 0) (r2 := 0) (r3 := 0) rfl rfl ?_
    refine wr_gr (k0 := 18) (x := 22) (nx := 66) (r1 := 4) (r2 := 4) (r3 := 0) rfl rfl (by decide) rfl ⟨rfl, rfl⟩ rfl ?_
    refine wr_V (k0 := 79) (rest := []) (as := [.ref 79, .ref 22]) (nx := 69) (r1 := 155) (r2 := 1) (r3 := 5) rfl rfl rfl (of_decide_eq_true rfl) rfl rfl (by decide) rfl rfl (of_decide_eq_true rfl) (of_decide_eq_true rfl) ?_
    refine ct_155_R_R hcr rw_79 rw_22 g6    (fun h9 g9 u9 => ?_)
    have F10 := F7.then rfl u9
    refine wk_n ?_
    refine wi_aload_n (i := 0) (x := 75) (nx := 70) (r1 := 0) (r2 := 0) (r3 := 0) rfl rfl ?_
    refine wr_gr (k0 := 75) (x := 81) (nx := 73) (r1 := 4) (r2 := 5) (r3 := 0) rfl rfl (by decide) rfl ⟨rfl, rfl⟩ rfl ?_
    refine wi_aload_n (i := 1) (x := 18) (nx := 74) (r1 := 0) (r2 := 0) (r3 := 0) rfl rfl ?_
    refine wr_gr (k0 := 18) (x := 24) (nx := 77) (r1 := 4) (r2 := 5) (r3 := 0) rfl rfl (by decide) rfl ⟨rfl, rfl⟩ rfl ?_
    refine wr_V (k0 := 81) (rest := []) (as := [.ref 81, .ref 24]) (nx := 80) (r1 := 155) (r2 := 1) (r3 := 5) rfl rfl rfl (of_decide_eq_true rfl) rfl rfl (by decide) rfl rfl (of_decide_eq_true rfl) (of_decide_eq_true rfl) ?_
    refine ct_155_R_R hcr rw_81 rw_24 g9    (fun h11 g11 u11 => ?_)
    have F12 := F10.then rfl u11
    refine wk_n ?_
    refine wi_aload_n (i := 0) (x := 75) (nx := 81) (r1 := 0) (r2 := 0) (r3 := 0) rfl rfl ?_
    refine wr_gr (k0 := 75) (x := 83) (nx := 84) (r1 := 4) (r2 := 6) (r3 := 0) rfl rfl (by decide) rfl ⟨rfl, rfl⟩ rfl ?_
    refine wi_aload_n (i := 1) (x := 18) (nx := 85) (r1 := 0) (r2 := 0) (r3 := 0) rfl rfl ?_
    refine wr_gr (k0 := 18) (x := 26) (nx := 88) (r1 := 4) (r2 := 6) (r3 := 0) rfl rfl (by decide) rfl ⟨rfl, rfl⟩ rfl ?_
    refine wr_V (k0 := 83) (rest := []) (as := [.ref 83, .ref 26]) (nx := 91) (r1 := 155) (r2 := 1) (r3 := 5) rfl rfl rfl (of_decide_eq_true rfl) rfl rfl (by decide) rfl rfl (of_decide_eq_true rfl) (of_decide_eq_true rfl) ?_
    refine ct_155_R_R hcr rw_83 rw_26 g11    (fun h13 g13 u13 => ?_)
    have F14 := F12.then rfl u13
    refine wk_n ?_
    refine wi_aload_n (i := 0) (x := 75) (nx := 92) (r1 := 0) (r2 := 0) (r3 := 0) rfl rfl ?_
    refine wi_aload_n (i := 1) (x := 18) (nx := 93) (r1 := 0) (r2 := 0) (r3 := 0) rfl rfl ?_
    have b15 := gi_b (lo := 0) (hi := 12) g 18 7 rfl
    refine wr_gi0 (k0 := 18) (x := h 18 7) (nx := 96) (r1 := 4) (r2 := 7) (r3 := 0) rfl rfl (by decide) rfl ⟨rfl, rfl⟩ rfl ((u13 18 7 rfl).trans ((u11 18 7 rfl).trans ((u9 18 7 rfl).trans ((u6 18 7 rfl).trans ((u3 18 7 rfl).trans (u1 18 7 rfl)))))) ?_
    refine wr_pf0 (k0 := 75) (x := h 18 7) (bl := 0) (bh := 12) (nx := 99) (r1 := 4) (r2 := 7) (r3 := 0) rfl (by decide) rfl ⟨rfl, rfl⟩ rfl rfl g13 rfl (by omega) (fun h16 g16 w16 u16 => ?_)
    have F17 := F14.then rfl u16
    refine wi_aload_n (i := 0) (x := 75) (nx := 100) (r1 := 0) (r2 := 0) (r3 := 0) rfl rfl ?_
    refine wi_aload_n (i := 1) (x := 18) (nx := 101) (r1 := 0) (r2 := 0) (r3 := 0) rfl rfl ?_
    have b18 := gi_b (lo := -2147483648) (hi := 2147483647) g 18 8 rfl
    refine wr_gi0 (k0 := 18) (x := h 18 8) (nx := 104) (r1 := 4) (r2 := 8) (r3 := 0) rfl rfl (by decide) rfl ⟨rfl, rfl⟩ rfl ((u16 18 8 rfl).trans ((u13 18 8 rfl).trans ((u11 18 8 rfl).trans ((u9 18 8 rfl).trans ((u6 18 8 rfl).trans ((u3 18 8 rfl).trans (u1 18 8 rfl))))))) ?_
    refine wr_pf0 (k0 := 75) (x := h 18 8) (bl := -2147483648) (bh := 2147483647) (nx := 107) (r1 := 4) (r2 := 8) (r3 := 0) rfl (by decide) rfl ⟨rfl, rfl⟩ rfl rfl g16 rfl (by omega) (fun h19 g19 w19 u19 => ?_)
    have F20 := F17.then rfl u19
    refine wi_aload_n (i := 0) (x := 75) (nx := 108) (r1 := 0) (r2 := 0) (r3 := 0) rfl rfl ?_
    refine wi_aload_n (i := 1) (x := 18) (nx := 109) (r1 := 0) (r2 := 0) (r3 := 0) rfl rfl ?_
    have b21 := gi_b (lo := -2147483648) (hi := 2147483647) g 18 9 rfl
    refine wr_gi0 (k0 := 18) (x := h 18 9) (nx := 112) (r1 := 4) (r2 := 9) (r3 := 0) rfl rfl (by decide) rfl ⟨rfl, rfl⟩ rfl ((u19 18 9 rfl).trans ((u16 18 9 rfl).trans ((u13 18 9 rfl).trans ((u11 18 9 rfl).trans ((u9 18 9 rfl).trans ((u6 18 9 rfl).trans ((u3 18 9 rfl).trans (u1 18 9 rfl)))))))) ?_
    refine wr_pf0 (k0 := 75) (x := h 18 9) (bl := -2147483648) (bh := 2147483647) (nx := 115) (r1 := 4) (r2 := 9) (r3 := 0) rfl (by decide) rfl ⟨rfl, rfl⟩ rfl rfl g19 rfl (by omega) (fun h22 g22 w22 u22 => ?_)
    have F23 := F20.then rfl u22
    refine wi_aload_n (i := 0) (x := 75) (nx := 116) (r1 := 0) (r2 := 0) (r3 := 0) rfl rfl ?_
    refine wi_aload_n (i := 1) (x := 18) (nx := 117) (r1 := 0) (r2 := 0) (r3 := 0) rfl rfl ?_
    have b24 := gi_b (lo := -2147483648) (hi := 2147483647) g 18 10 rfl
    refine wr_gi0 (k0 := 18) (x := h 18 10) (nx := 120) (r1 := 4) (r2 := 10) (r3 := 0) rfl rfl (by decide) rfl ⟨rfl, rfl⟩ rfl ((u22 18 10 rfl).trans ((u19 18 10 rfl).trans ((u16 18 10 rfl).trans ((u13 18 10 rfl).trans ((u11 18 10 rfl).trans ((u9 18 10 rfl).trans ((u6 18 10 rfl).trans ((u3 18 10 rfl).trans (u1 18 10 rfl))))))))) ?_
    refine wr_pf0 (k0 := 75) (x := h 18 10) (bl := -2147483648) (bh := 2147483647) (nx := 123) (r1 := 4) (r2 := 10) (r3 := 0) rfl (by decide) rfl ⟨rfl, rfl⟩ rfl rfl g22 rfl (by omega) (fun h25 g25 w25 u25 => ?_)
    have F26 := F23.then rfl u25
    refine wi_aload_n (i := 0) (x := 75) (nx := 124) (r1 := 0) (r2 := 0) (r3 := 0) rfl rfl ?_
    refine wi_aload_n (i := 1) (x := 18) (nx := 125) (r1 := 0) (r2 := 0) (r3 := 0) rfl rfl ?_
    have b27 := gi_b (lo := -2147483648) (hi := 2147483647) g 18 11 rfl
    refine wr_gi0 (k0 := 18) (x := h 18 11) (nx := 128) (r1 := 4) (r2 := 11) (r3 := 0) rfl rfl (by decide) rfl ⟨rfl, rfl⟩ rfl ((u25 18 11 rfl).trans ((u22 18 11 rfl).trans ((u19 18 11 rfl).trans ((u16 18 11 rfl).trans ((u13 18 11 rfl).trans ((u11 18 11 rfl).trans ((u9 18 11 rfl).trans ((u6 18 11 rfl).trans ((u3 18 11 rfl).trans (u1 18 11 rfl)))))))))) ?_
    refine wr_pf0 (k0 := 75) (x := h 18 11) (bl := -2147483648) (bh := 2147483647) (nx := 131) (r1 := 4) (r2 := 11) (r3 := 0) rfl (by decide) rfl ⟨rfl, rfl⟩ rfl rfl g25 rfl (by omega) (fun h28 g28 w28 u28 => ?_)
    have F29 := F26.then rfl u28
    refine wi_aload_n (i := 0) (x := 75) (nx := 132) (r1 := 0) (r2 := 0) (r3 := 0) rfl rfl ?_
    refine wi_aload_n (i := 1) (x := 18) (nx := 133) (r1 := 0) (r2 := 0) (r3 := 0) rfl rfl ?_
    have b30 := gi_b (lo := -2147483648) (hi := 2147483647) g 18 12 rfl
    refine wr_gi0 (k0 := 18) (x := h 18 12) (nx := 136) (r1 := 4) (r2 := 12) (r3 := 0) rfl rfl (by decide) rfl ⟨rfl, rfl⟩ rfl ((u28 18 12 rfl).trans ((u25 18 12 rfl).trans ((u22 18 12 rfl).trans ((u19 18 12 rfl).trans ((u16 18 12 rfl).trans ((u13 18 12 rfl).trans ((u11 18 12 rfl).trans ((u9 18 12 rfl).trans ((u6 18 12 rfl).trans ((u3 18 12 rfl).trans (u1 18 12 rfl))))))))))) ?_
    refine wr_pf0 (k0 := 75) (x := h 18 12) (bl := -2147483648) (bh := 2147483647) (nx := 139) (r1 := 4) (r2 := 12) (r3 := 0) rfl (by decide) rfl ⟨rfl, rfl⟩ rfl rfl g28 rfl (by omega) (fun h31 g31 w31 u31 => ?_)
    have F32 := F29.then rfl u31
    refine wi_aload_n (i := 0) (x := 75) (nx := 140) (r1 := 0) (r2 := 0) (r3 := 0) rfl rfl ?_
    refine wi_aload_n (i := 1) (x := 18) (nx := 141) (r1 := 0) (r2 := 0) (r3 := 0) rfl rfl ?_
    have b33 := gi_b (lo := -2147483648) (hi := 2147483647) g 18 13 rfl
    refine wr_gi0 (k0 := 18) (x := h 18 13) (nx := 144) (r1 := 4) (r2 := 13) (r3 := 0) rfl rfl (by decide) rfl ⟨rfl, rfl⟩ rfl ((u31 18 13 rfl).trans ((u28 18 13 rfl).trans ((u25 18 13 rfl).trans ((u22 18 13 rfl).trans ((u19 18 13 rfl).trans ((u16 18 13 rfl).trans ((u13 18 13 rfl).trans ((u11 18 13 rfl).trans ((u9 18 13 rfl).trans ((u6 18 13 rfl).trans ((u3 18 13 rfl).trans (u1 18 13 rfl)))))))))))) ?_
    refine wr_pf0 (k0 := 75) (x := h 18 13) (bl := -2147483648) (bh := 2147483647) (nx := 147) (r1 := 4) (r2 := 13) (r3 := 0) rfl (by decide) rfl ⟨rfl, rfl⟩ rfl rfl g31 rfl (by omega) (fun h34 g34 w34 u34 => ?_)
    have F35 := F32.then rfl u34
    refine wi_aload_n (i := 1) (x := 18) (nx := 148) (r1 := 0) (r2 := 0) (r3 := 0) rfl rfl ?_
    refine wr_gr (k0 := 18) (x := 28) (nx := 151) (r1 := 4) (r2 := 14) (r3 := 0) rfl rfl (by decide) rfl ⟨rfl, rfl⟩ rfl ?_
    refine wi_iconst (n := 0) (nx := 152) (r1 := 0) (r2 := 0) (r3 := 0) rfl ?_
    refine wi_aload_n (i := 0) (x := 75) (nx := 153) (r1 := 0) (r2 := 0) (r3 := 0) rfl rfl ?_
    refine wr_gr (k0 := 75) (x := 85) (nx := 156) (r1 := 4) (r2 := 14) (r3 := 0) rfl rfl (by decide) rfl ⟨rfl, rfl⟩ rfl ?_
    refine wi_iconst (n := 0) (nx := 157) (r1 := 0) (r2 := 0) (r3 := 0) rfl ?_
    refine wi_aload_n (i := 0) (x := 75) (nx := 158) (r1 := 0) (r2 := 0) (r3 := 0) rfl rfl ?_
    refine wr_gr (k0 := 75) (x := 85) (nx := 161) (r1 := 4) (r2 := 14) (r3 := 0) rfl rfl (by decide) rfl ⟨rfl, rfl⟩ rfl ?_
    refine wr_al (k0 := 85) (e := 144) (nx := 162) (r1 := 0) (r2 := 0) (r3 := 0) rfl (by decide) rfl rfl ?_
    refine wr_cpy (s0 := 28) (d0 := 85) (n0 := 144) (n1 := 144) (sp := 0) (dp := 0) (n := 144) (sl := -2147483648) (sh := 2147483647) (dl := -2147483648) (dh := 2147483647) (nx := 165) (r1 := 0) (r2 := 101) (r3 := 0) rfl rfl (of_decide_eq_true rfl) (by decide) (by decide) rfl rfl (by omega) (fun _ => rfl) (fun _ => rfl) (by omega) g34 (fun h36 g36 y36 u36 => ?_)
    have F37 := F35.then rfl u36
    refine wi_aload_n (i := 0) (x := 75) (nx := 166) (r1 := 0) (r2 := 0) (r3 := 0) rfl rfl ?_
    refine wi_aload_n (i := 1) (x := 18) (nx := 167) (r1 := 0) (r2 := 0) (r3 := 0) rfl rfl ?_
    have b38 := gi_b (lo := 0) (hi := 36) g 18 15 rfl
    refine wr_gi0 (k0 := 18) (x := h 18 15) (nx := 170) (r1 := 4) (r2 := 15) (r3 := 0) rfl rfl (by decide) rfl ⟨rfl, rfl⟩ rfl ((u36 18 15 rfl).trans ((u34 18 15 rfl).trans ((u31 18 15 rfl).trans ((u28 18 15 rfl).trans ((u25 18 15 rfl).trans ((u22 18 15 rfl).trans ((u19 18 15 rfl).trans ((u16 18 15 rfl).trans ((u13 18 15 rfl).trans ((u11 18 15 rfl).trans ((u9 18 15 rfl).trans ((u6 18 15 rfl).trans ((u3 18 15 rfl).trans (u1 18 15 rfl)))))))))))))) ?_
    refine wr_pf0 (k0 := 75) (x := h 18 15) (bl := 0) (bh := 36) (nx := 173) (r1 := 4) (r2 := 15) (r3 := 0) rfl (by decide) rfl ⟨rfl, rfl⟩ rfl rfl g36 rfl (by omega) (fun h39 g39 w39 u39 => ?_)
    have F40 := F37.then rfl u39
    refine wi_aload_n (i := 0) (x := 75) (nx := 174) (r1 := 0) (r2 := 0) (r3 := 0) rfl rfl ?_
    refine wi_dup (nx := 175) (r1 := 0) (r2 := 0) (r3 := 0) rfl rfl ?_
    have b41 := gi_b (lo := -2147483648) (hi := 2147483647) g 75 16 rfl
    refine wr_gi0 (k0 := 75) (x := h 75 16) (nx := 178) (r1 := 4) (r2 := 16) (r3 := 0) rfl rfl (by decide) rfl ⟨rfl, rfl⟩ rfl ((u39 75 16 rfl).trans ((u36 75 16 rfl).trans ((u34 75 16 rfl).trans ((u31 75 16 rfl).trans ((u28 75 16 rfl).trans ((u25 75 16 rfl).trans ((u22 75 16 rfl).trans ((u19 75 16 rfl).trans ((u16 75 16 rfl).trans ((u13 75 16 rfl).trans ((u11 75 16 rfl).trans ((u9 75 16 rfl).trans ((u6 75 16 rfl).trans ((u3 75 16 rfl).trans (u1 75 16 rfl))))))))))))))) ?_
    refine wi_iconst (n := 1) (nx := 179) (r1 := 0) (r2 := 0) (r3 := 0) rfl ?_
    refine wr_addW (nx := 180) (r1 := 0) (r2 := 0) (r3 := 0) rfl (fun e42 (fe42 : -2147483648 ≤ e42 ∧ e42 ≤ 2147483647) => ?_)
    refine wr_pf0 (k0 := 75) (x := e42) (bl := -2147483648) (bh := 2147483647) (nx := 183) (r1 := 4) (r2 := 16) (r3 := 0) rfl (by decide) rfl ⟨rfl, rfl⟩ rfl rfl g39 rfl (by omega) (fun h43 g43 w43 u43 => ?_)
    have F44 := F40.then rfl u43
    refine wi_return (nx := 184) (r1 := 0) (r2 := 0) (r3 := 0) rfl rfl ?_
    exact k h43 g43 F44
  ·
    refine wi_aload_n (i := 0) (x := 75) (nx := 38) (r1 := 0) (r2 := 0) (r3 := 0) rfl rfl ?_
    refine wr_gr (k0 := 75) (x := 78) (nx := 41) (r1 := 4) (r2 := 3) (r3 := 0) rfl rfl (by decide) rfl ⟨rfl, rfl⟩ rfl ?_
    refine wi_iload_n (i := 2) (e := x5) (nx := 42) (r1 := 0) (r2 := 0) (r3 := 0) rfl rfl ?_
    obtain ⟨i9, ei9⟩ : ∃ q : Nat, x5 = (q : Int) := ⟨(x5).toNat, by omega⟩
    refine wr_aa (k0 := 78) (a := x5) (f := i9) (x := 78 + 8 + 2 * i9) (nx := 43) (r1 := 0) (r2 := 0) (r3 := 0) rfl (by decide) rfl (Or.inl rfl) (by omega) (by omega) (by decide) (hcr.1 78 (by decide) i9 (by omega)) ?_
    obtain ⟨k10, kk10, mk10⟩ : ∃ q, Rw q ∧ q = 78 + 8 + 2 * i9 := ⟨_, rw_lane 78 (by decide) i9 (by omega), rfl⟩
    rw [← mk10]
    refine wi_aload_n (i := 1) (x := 18) (nx := 44) (r1 := 0) (r2 := 0) (r3 := 0) rfl rfl ?_
    refine wr_gr (k0 := 18) (x := 21) (nx := 47) (r1 := 4) (r2 := 3) (r3 := 0) rfl rfl (by decide) rfl ⟨rfl, rfl⟩ rfl ?_
    refine wi_iload_n (i := 2) (e := x5) (nx := 48) (r1 := 0) (r2 := 0) (r3 := 0) rfl rfl ?_
    refine wr_aa (k0 := 21) (a := x5) (f := i9) (x := 21 + 8 + 2 * i9) (nx := 49) (r1 := 0) (r2 := 0) (r3 := 0) rfl (by decide) rfl (Or.inl rfl) (by omega) (by omega) (by decide) (hcr.1 21 (by decide) i9 (by omega)) ?_
    obtain ⟨k11, kk11, mk11⟩ : ∃ q, Rw q ∧ q = 21 + 8 + 2 * i9 := ⟨_, rw_lane 21 (by decide) i9 (by omega), rfl⟩
    rw [← mk11]
    refine wr_V (k0 := k10) (rest := []) (as := [.ref k10, .ref k11]) (nx := 52) (r1 := 155) (r2 := 1) (r3 := 5) rfl rfl rfl (of_decide_eq_true rfl) rfl rfl kk10.k kk10.1 rfl (of_decide_eq_true rfl) (of_decide_eq_true rfl) ?_
    refine ct_155_R_R hcr kk10 kk11 g6    (fun h12 g12 u12 => ?_)
    have v12 := FR.rngp (lo := 86) (hi := 93) u12 (by omega)
    have F13 := F7.then rfl (FR.rngp (lo := 86) (hi := 93) u12 (by omega))
    have F14 := u6.then rfl (FR.rngp (lo := 86) (hi := 93) u12 (by omega))
    refine wk_n ?_
    refine wr_iinc (i := 2) (n := 1) (v := x5) (fun e15 => [(2, vi e15), (0, .ref 75), (1, .ref 18)]) (nx := 55) (r1 := 0) (r2 := 0) (r3 := 0) rfl rfl (fun _ => rfl) (fun e15 (fe15 : e15 = x5 + 1) => ?_)
    refine wi_goto (nx := 58) (r1 := 32) (r2 := 0) (r3 := 0) rfl ?_
    refine wp.lo (lo := [(0, .ref 75), (1, .ref 18), (2, vi e15)]) ⟨rfl, rfl, rfl, trivial⟩ rfl ?_
    exact I6 e15 h12 ⟨g12, F13, F14, (show (0 ≤ e15 ∧ e15 ≤ 4) by omega)⟩ (show ((4 : Int) + 1 - e15).toNat < ((4 : Int) + 1 - x5).toNat by omega)
-- method 132: Line.copyFrom(LPaintBank$Line;)V
set_option maxRecDepth 100000 in
set_option maxHeartbeats 100000000 in
theorem ct_132_94_18 {L : Nat} {xs : Nat → Int32} {d b c : Nat} {h : hp} {cr : Nat → Nat → Option Nat} {Q : hp_Q} (hcr : CR cr)  (g : GI h)    (k : ∀ (h2 : hp) , GI h2 → FR [(75, 207, none)] h h2 → Q (.inl none) (hp_w h2 cr) b c) : wp (md_xa (L, xs)) (d + 1) 132 (0, [(0, .ref 94), (1, .ref 18)], [], hp_w h cr, b, c) Q := by
  have F0 : FR [(75, 207, none)] h h := FR.refl
  refine wi_aload_n (i := 1) (x := 18) (nx := 1) (r1 := 0) (r2 := 0) (r3 := 0) rfl rfl ?_
  refine wr_gr (k0 := 18) (x := 19) (nx := 4) (r1 := 4) (r2 := 1) (r3 := 0) rfl rfl (by decide) rfl ⟨rfl, rfl⟩ rfl ?_
  refine wi_iconst (n := 0) (nx := 5) (r1 := 0) (r2 := 0) (r3 := 0) rfl ?_
  refine wi_aload_n (i := 0) (x := 94) (nx := 6) (r1 := 0) (r2 := 0) (r3 := 0) rfl rfl ?_
  refine wr_gr (k0 := 94) (x := 95) (nx := 9) (r1 := 4) (r2 := 1) (r3 := 0) rfl rfl (by decide) rfl ⟨rfl, rfl⟩ rfl ?_
  refine wi_iconst (n := 0) (nx := 10) (r1 := 0) (r2 := 0) (r3 := 0) rfl ?_
  refine wi_bipush (n := 12) (nx := 12) (r1 := 0) (r2 := 0) (r3 := 0) rfl (by decide) ?_
  refine wr_cpy (s0 := 19) (d0 := 95) (n0 := 12) (n1 := 12) (sp := 0) (dp := 0) (n := 12) (sl := -2147483648) (sh := 2147483647) (dl := -2147483648) (dh := 2147483647) (nx := 15) (r1 := 0) (r2 := 101) (r3 := 0) rfl rfl (of_decide_eq_true rfl) (by decide) (by decide) rfl rfl (by omega) (fun _ => rfl) (fun _ => rfl) (by omega) g (fun h1 g1 y1 u1 => ?_)
  have F2 := F0.then rfl u1
  refine wi_aload_n (i := 1) (x := 18) (nx := 16) (r1 := 0) (r2 := 0) (r3 := 0) rfl rfl ?_
  refine wr_gr (k0 := 18) (x := 20) (nx := 19) (r1 := 4) (r2 := 2) (r3 := 0) rfl rfl (by decide) rfl ⟨rfl, rfl⟩ rfl ?_
  refine wi_iconst (n := 0) (nx := 20) (r1 := 0) (r2 := 0) (r3 := 0) rfl ?_
  refine wi_aload_n (i := 0) (x := 94) (nx := 21) (r1 := 0) (r2 := 0) (r3 := 0) rfl rfl ?_
  refine wr_gr (k0 := 94) (x := 96) (nx := 24) (r1 := 4) (r2 := 2) (r3 := 0) rfl rfl (by decide) rfl ⟨rfl, rfl⟩ rfl ?_
  refine wi_iconst (n := 0) (nx := 25) (r1 := 0) (r2 := 0) (r3 := 0) rfl ?_
  refine wi_bipush (n := 12) (nx := 27) (r1 := 0) (r2 := 0) (r3 := 0) rfl (by decide) ?_
  refine wr_cpy (s0 := 20) (d0 := 96) (n0 := 12) (n1 := 12) (sp := 0) (dp := 0) (n := 12) (sl := -2147483648) (sh := 2147483647) (dl := -2147483648) (dh := 2147483647) (nx := 30) (r1 := 0) (r2 := 101) (r3 := 0) rfl rfl (of_decide_eq_true rfl) (by decide) (by decide) rfl rfl (by omega) (fun _ => rfl) (fun _ => rfl) (by omega) g1 (fun h3 g3 y3 u3 => ?_)
  have F4 := F2.then rfl u3
  refine wi_iconst (n := 0) (nx := 31) (r1 := 0) (r2 := 0) (r3 := 0) rfl ?_
  refine wi_istore_n (i := 2) (e := 0) (lo2 := [(2, vi 0), (0, .ref 94), (1, .ref 18)]) (nx := 32) (r1 := 0) (r2 := 0) (r3 := 0) rfl rfl ?_
  refine wp.lo (lo := [(0, .ref 94), (1, .ref 18), (2, vi 0)]) ⟨rfl, rfl, rfl, trivial⟩ rfl ?_
  refine wl_1 (fun x5 h6 => GI h6 ∧ FR [(75, 207, none)] h h6 ∧ FR [(105, 112, none)] h3 h6 ∧ ((0 ≤ x5 ∧ x5 ≤ 4))) (fun x5 h6 => ((4 : Int) + 1 - x5).toNat) (fun x5 h6 => (32, [(0, .ref 94), (1, .ref 18), (2, vi x5)], [], hp_w h6 cr, b, c)) ?_ 0 h3 ⟨g3, F4, FR.refl, (show (0 ≤ 0 ∧ 0 ≤ 4) by omega)⟩
  intro x5 h6 ⟨g6, F7, u6, f6⟩ I6
  refine wi_iload_n (i := 2) (e := x5) (nx := 33) (r1 := 0) (r2 := 0) (r3 := 0) rfl rfl ?_
  refine wi_iconst (n := 4) (nx := 34) (r1 := 0) (r2 := 0) (r3 := 0) rfl ?_
  refine wi_icmp (cd := .ge) (nx := 37) (r1 := 58) (r2 := 0) (r3 := 0) rfl (by omega) (by omega) (fun (q8 : 4 ≤ x5) => ?_) (fun (q8 : ¬ (4 ≤ x5)) => ?_)
  ·
    refine wi_aload_n (i := 0) (x := 94) (nx := 59) (r1 := 0) (r2 := 0) (r3 := 0) rfl rfl ?_
    refine wr_gr (k0 := 94) (x := 98) (nx := 62) (r1 := 4) (r2 := 4) (r3 := 0) rfl rfl (by decide) rfl ⟨rfl, rfl⟩ rfl ?_
    refine wi_aload_n (i := 1) (x := 18) (nx := 63) (r1 := 0) (r2 := 0) (r3 := 0) rfl rfl ?_
    refine wr_gr (k0 := 18) (x := 22) (nx := 66) (r1 := 4) (r2 := 4) (r3 := 0) rfl rfl (by decide) rfl ⟨rfl, rfl⟩ rfl ?_
    refine wr_V (k0 := 98) (rest := []) (as := [.ref 98, .ref 22]) (nx := 69) (r1 := 155) (r2 := 1) (r3 := 5) rfl rfl rfl (of_decide_eq_true rfl) rfl rfl (by decide) rfl rfl (of_decide_eq_true rfl) (of_decide_eq_true rfl) ?_
    refine ct_155_R_R hcr rw_98 rw_22 g6    (fun h9 g9 u9 => ?_)
    have F10 := F7.then rfl u9
    refine wk_n ?_
    refine wi_aload_n (i := 0) (x := 94) (nx := 70) (r1 := 0) (r2 := 0) (r3 := 0) rfl rfl ?_
    refine wr_gr (k0 := 94) (x := 100) (nx := 73) (r1 := 4) (r2 := 5) (r3 := 0) rfl rfl (by decide) rfl ⟨rfl, rfl⟩ rfl ?_
    refine wi_aload_n (i := 1) (x := 18) (nx := 74) (r1 := 0) (r2 := 0) (r3 := 0) rfl rfl ?_
    refine wr_gr (k0 := 18) (x := 24) (nx := 77) (r1 := 4) (r2 := 5) (r3 := 0) rfl rfl (by decide) rfl ⟨rfl, rfl⟩ rfl ?_
    refine wr_V (k0 := 100) (rest := []) (as := [.ref 100, .ref 24]) (nx := 80) (r1 := 155) (r2 := 1) (r3 := 5) rfl rfl rfl (of_decide_eq_true rfl) rfl rfl (by decide) rfl rfl (of_decide_eq_true rfl) (of_decide_eq_true rfl) ?_
    refine ct_155_R_R hcr rw_100 rw_24 g9    (fun h11 g11 u11 => ?_)
    have F12 := F10.then rfl u11
    refine wk_n ?_
    refine wi_aload_n (i := 0) (x := 94) (nx := 81) (r1 := 0) (r2 := 0) (r3 := 0) rfl rfl ?_
    refine wr_gr (k0 := 94) (x := 102) (nx := 84) (r1 := 4) (r2 := 6) (r3 := 0) rfl rfl (by decide) rfl ⟨rfl, rfl⟩ rfl ?_
    refine wi_aload_n (i := 1) (x := 18) (nx := 85) (r1 := 0) (r2 := 0) (r3 := 0) rfl rfl ?_
    refine wr_gr (k0 := 18) (x := 26) (nx := 88) (r1 := 4) (r2 := 6) (r3 := 0) rfl rfl (by decide) rfl ⟨rfl, rfl⟩ rfl ?_
    refine wr_V (k0 := 102) (rest := []) (as := [.ref 102, .ref 26]) (nx := 91) (r1 := 155) (r2 := 1) (r3 := 5) rfl rfl rfl (of_decide_eq_true rfl) rfl rfl (by decide) rfl rfl (of_decide_eq_true rfl) (of_decide_eq_true rfl) ?_
    refine ct_155_R_R hcr rw_102 rw_26 g11    (fun h13 g13 u13 => ?_)
    have F14 := F12.then rfl u13
    refine wk_n ?_
    refine wi_aload_n (i := 0) (x := 94) (nx := 92) (r1 := 0) (r2 := 0) (r3 := 0) rfl rfl ?_
    refine wi_aload_n (i := 1) (x := 18) (nx := 93) (r1 := 0) (r2 := 0) (r3 := 0) rfl rfl ?_
    have b15 := gi_b (lo := 0) (hi := 12) g 18 7 rfl
    refine wr_gi0 (k0 := 18) (x := h 18 7) (nx := 96) (r1 := 4) (r2 := 7) (r3 := 0) rfl rfl (by decide) rfl ⟨rfl, rfl⟩ rfl ((u13 18 7 rfl).trans ((u11 18 7 rfl).trans ((u9 18 7 rfl).trans ((u6 18 7 rfl).trans ((u3 18 7 rfl).trans (u1 18 7 rfl)))))) ?_
    refine wr_pf0 (k0 := 94) (x := h 18 7) (bl := 0) (bh := 12) (nx := 99) (r1 := 4) (r2 := 7) (r3 := 0) rfl (by decide) rfl ⟨rfl, rfl⟩ rfl rfl g13 rfl (by omega) (fun h16 g16 w16 u16 => ?_)
    have F17 := F14.then rfl u16
    refine wi_aload_n (i := 0) (x := 94) (nx := 100) (r1 := 0) (r2 := 0) (r3 := 0) rfl rfl ?_
    refine wi_aload_n (i := 1) (x := 18) (nx := 101) (r1 := 0) (r2 := 0) (r3 := 0) rfl rfl ?_
    have b18 := gi_b (lo := -2147483648) (hi := 2147483647) g 18 8 rfl
    refine wr_gi0 (k0 := 18) (x := h 18 8) (nx := 104) (r1 := 4) (r2 := 8) (r3 := 0) rfl rfl (by decide) rfl ⟨rfl, rfl⟩ rfl ((u16 18 8 rfl).trans ((u13 18 8 rfl).trans ((u11 18 8 rfl).trans ((u9 18 8 rfl).trans ((u6 18 8 rfl).trans ((u3 18 8 rfl).trans (u1 18 8 rfl))))))) ?_
    refine wr_pf0 (k0 := 94) (x := h 18 8) (bl := -2147483648) (bh := 2147483647) (nx := 107) (r1 := 4) (r2 := 8) (r3 := 0) rfl (by decide) rfl ⟨rfl, rfl⟩ rfl rfl g16 rfl (by omega) (fun h19 g19 w19 u19 => ?_)
    have F20 := F17.then rfl u19
    refine wi_aload_n (i := 0) (x := 94) (nx := 108) (r1 := 0) (r2 := 0) (r3 := 0) rfl rfl ?_
    refine wi_aload_n (i := 1) (x := 18) (nx := 109) (r1 := 0) (r2 := 0) (r3 := 0) rfl rfl ?_
    have b21 := gi_b (lo := -2147483648) (hi := 2147483647) g 18 9 rfl
    refine wr_gi0 (k0 := 18) (x := h 18 9) (nx := 112) (r1 := 4) (r2 := 9) (r3 := 0) rfl rfl (by decide) rfl ⟨rfl, rfl⟩ rfl ((u19 18 9 rfl).trans ((u16 18 9 rfl).trans ((u13 18 9 rfl).trans ((u11 18 9 rfl).trans ((u9 18 9 rfl).trans ((u6 18 9 rfl).trans ((u3 18 9 rfl).trans (u1 18 9 rfl)))))))) ?_
    refine wr_pf0 (k0 := 94) (x := h 18 9) (bl := -2147483648) (bh := 2147483647) (nx := 115) (r1 := 4) (r2 := 9) (r3 := 0) rfl (by decide) rfl ⟨rfl, rfl⟩ rfl rfl g19 rfl (by omega) (fun h22 g22 w22 u22 => ?_)
    have F23 := F20.then rfl u22
    refine wi_aload_n (i := 0) (x := 94) (nx := 116) (r1 := 0) (r2 := 0) (r3 := 0) rfl rfl ?_
    refine wi_aload_n (i := 1) (x := 18) (nx := 117) (r1 := 0) (r2 := 0) (r3 := 0) rfl rfl ?_
    have b24 := gi_b (lo := -2147483648) (hi := 2147483647) g 18 10 rfl
    refine wr_gi0 (k0 := 18) (x := h 18 10) (nx := 120) (r1 := 4) (r2 := 10) (r3 := 0) rfl rfl (by decide) rfl ⟨rfl, rfl⟩ rfl ((u22 18 10 rfl).trans ((u19 18 10 rfl).trans ((u16 18 10 rfl).trans ((u13 18 10 rfl).trans ((u11 18 10 rfl).trans ((u9 18 10 rfl).trans ((u6 18 10 rfl).trans ((u3 18 10 rfl).trans (u1 18 10 rfl))))))))) ?_
    refine wr_pf0 (k0 := 94) (x := h 18 10) (bl := -2147483648) (bh := 2147483647) (nx := 123) (r1 := 4) (r2 := 10) (r3 := 0) rfl (by decide) rfl ⟨rfl, rfl⟩ rfl rfl g22 rfl (by omega) (fun h25 g25 w25 u25 => ?_)
    have F26 := F23.then rfl u25
    refine wi_aload_n (i := 0) (x := 94) (nx := 124) (r1 := 0) (r2 := 0) (r3 := 0) rfl rfl ?_
    refine wi_aload_n (i := 1) (x := 18) (nx := 125) (r1 := 0) (r2 := 0) (r3 := 0) rfl rfl ?_
    have b27 := gi_b (lo := -2147483648) (hi := 2147483647) g 18 11 rfl
    refine wr_gi0 (k0 := 18) (x := h 18 11) (nx := 128) (r1 := 4) (r2 := 11) (r3 := 0) rfl rfl (by decide) rfl ⟨rfl, rfl⟩ rfl ((u25 18 11 rfl).trans ((u22 18 11 rfl).trans ((u19 18 11 rfl).trans ((u16 18 11 rfl).trans ((u13 18 11 rfl).trans ((u11 18 11 rfl).trans ((u9 18 11 rfl).trans ((u6 18 11 rfl).trans ((u3 18 11 rfl).trans (u1 18 11 rfl)))))))))) ?_
    refine wr_pf0 (k0 := 94) (x := h 18 11) (bl := -2147483648) (bh := 2147483647) (nx := 131) (r1 := 4) (r2 := 11) (r3 := 0) rfl (by decide) rfl ⟨rfl, rfl⟩ rfl rfl g25 rfl (by omega) (fun h28 g28 w28 u28 => ?_)
    have F29 := F26.then rfl u28
    refine wi_aload_n (i := 0) (x := 94) (nx := 132) (r1 := 0) (r2 := 0) (r3 := 0) rfl rfl ?_
    refine wi_aload_n (i := 1) (x := 18) (nx := 133) (r1 := 0) (r2 := 0) (r3 := 0) rfl rfl ?_
    have b30 := gi_b (lo := -2147483648) (hi := 2147483647) g 18 12 rfl
    refine wr_gi0 (k0 := 18) (x := h 18 12) (nx := 136) (r1 := 4) (r2 := 12) (r3 := 0) rfl rfl (by decide) rfl ⟨rfl, rfl⟩ rfl ((u28 18 12 rfl).trans ((u25 18 12 rfl).trans ((u22 18 12 rfl).trans ((u19 18 12 rfl).trans ((u16 18 12 rfl).trans ((u13 18 12 rfl).trans ((u11 18 12 rfl).trans ((u9 18 12 rfl).trans ((u6 18 12 rfl).trans ((u3 18 12 rfl).trans (u1 18 12 rfl))))))))))) ?_
    refine wr_pf0 (k0 := 94) (x := h 18 12) (bl := -2147483648) (bh := 2147483647) (nx := 139) (r1 := 4) (r2 := 12) (r3 := 0) rfl (by decide) rfl ⟨rfl, rfl⟩ rfl rfl g28 rfl (by omega) (fun h31 g31 w31 u31 => ?_)
    have F32 := F29.then rfl u31
    refine wi_aload_n (i := 0) (x := 94) (nx := 140) (r1 := 0) (r2 := 0) (r3 := 0) rfl rfl ?_
    refine wi_aload_n (i := 1) (x := 18) (nx := 141) (r1 := 0) (r2 := 0) (r3 := 0) rfl rfl ?_
    have b33 := gi_b (lo := -2147483648) (hi := 2147483647) g 18 13 rfl
    refine wr_gi0 (k0 := 18) (x := h 18 13) (nx := 144) (r1 := 4) (r2 := 13) (r3 := 0) rfl rfl (by decide) rfl ⟨rfl, rfl⟩ rfl ((u31 18 13 rfl).trans ((u28 18 13 rfl).trans ((u25 18 13 rfl).trans ((u22 18 13 rfl).trans ((u19 18 13 rfl).trans ((u16 18 13 rfl).trans ((u13 18 13 rfl).trans ((u11 18 13 rfl).trans ((u9 18 13 rfl).trans ((u6 18 13 rfl).trans ((u3 18 13 rfl).trans (u1 18 13 rfl)))))))))))) ?_
    refine wr_pf0 (k0 := 94) (x := h 18 13) (bl := -2147483648) (bh := 2147483647) (nx := 147) (r1 := 4) (r2 := 13) (r3 := 0) rfl (by decide) rfl ⟨rfl, rfl⟩ rfl rfl g31 rfl (by omega) (fun h34 g34 w34 u34 => ?_)
    have F35 := F32.then rfl u34
    refine wi_aload_n (i := 1) (x := 18) (nx := 148) (r1 := 0) (r2 := 0) (r3 := 0) rfl rfl ?_
    refine wr_gr (k0 := 18) (x := 28) (nx := 151) (r1 := 4) (r2 := 14) (r3 := 0) rfl rfl (by decide) rfl ⟨rfl, rfl⟩ rfl ?_
    refine wi_iconst (n := 0) (nx := 152) (r1 := 0) (r2 := 0) (r3 := 0) rfl ?_
    refine wi_aload_n (i := 0) (x := 94) (nx := 153) (r1 := 0) (r2 := 0) (r3 := 0) rfl rfl ?_
    refine wr_gr (k0 := 94) (x := 104) (nx := 156) (r1 := 4) (r2 := 14) (r3 := 0) rfl rfl (by decide) rfl ⟨rfl, rfl⟩ rfl ?_
    refine wi_iconst (n := 0) (nx := 157) (r1 := 0) (r2 := 0) (r3 := 0) rfl ?_
    refine wi_aload_n (i := 0) (x := 94) (nx := 158) (r1 := 0) (r2 := 0) (r3 := 0) rfl rfl ?_
    refine wr_gr (k0 := 94) (x := 104) (nx := 161) (r1 := 4) (r2 := 14) (r3 := 0) rfl rfl (by decide) rfl ⟨rfl, rfl⟩ rfl ?_
    refine wr_al (k0 := 104) (e := 144) (nx := 162) (r1 := 0) (r2 := 0) (r3 := 0) rfl (by decide) rfl rfl ?_
    refine wr_cpy (s0 := 28) (d0 := 104) (n0 := 144) (n1 := 144) (sp := 0) (dp := 0) (n := 144) (sl := -2147483648) (sh := 2147483647) (dl := -2147483648) (dh := 2147483647) (nx := 165) (r1 := 0) (r2 := 101) (r3 := 0) rfl rfl (of_decide_eq_true rfl) (by decide) (by decide) rfl rfl (by omega) (fun _ => rfl) (fun _ => rfl) (by omega) g34 (fun h36 g36 y36 u36 => ?_)
    have F37 := F35.then rfl u36
    refine wi_aload_n (i := 0) (x := 94) (nx := 166) (r1 := 0) (r2 := 0) (r3 := 0) rfl rfl ?_
    refine wi_aload_n (i := 1) (x := 18) (nx := 167) (r1 := 0) (r2 := 0) (r3 := 0) rfl rfl ?_
    have b38 := gi_b (lo := 0) (hi := 36) g 18 15 rfl
    refine wr_gi0 (k0 := 18) (x := h 18 15) (nx := 170) (r1 := 4) (r2 := 15) (r3 := 0) rfl rfl (by decide) rfl ⟨rfl, rfl⟩ rfl ((u36 18 15 rfl).trans ((u34 18 15 rfl).trans ((u31 18 15 rfl).trans ((u28 18 15 rfl).trans ((u25 18 15 rfl).trans ((u22 18 15 rfl).trans ((u19 18 15 rfl).trans ((u16 18 15 rfl).trans ((u13 18 15 rfl).trans ((u11 18 15 rfl).trans ((u9 18 15 rfl).trans ((u6 18 15 rfl).trans ((u3 18 15 rfl).trans (u1 18 15 rfl)))))))))))))) ?_
    refine wr_pf0 (k0 := 94) (x := h 18 15) (bl := 0) (bh := 36) (nx := 173) (r1 := 4) (r2 := 15) (r3 := 0) rfl (by decide) rfl ⟨rfl, rfl⟩ rfl rfl g36 rfl (by omega) (fun h39 g39 w39 u39 => ?_)
    have F40 := F37.then rfl u39
    refine wi_aload_n (i := 0) (x := 94) (nx := 174) (r1 := 0) (r2 := 0) (r3 := 0) rfl rfl ?_
    refine wi_dup (nx := 175) (r1 := 0) (r2 := 0) (r3 := 0) rfl rfl ?_
    have b41 := gi_b (lo := -2147483648) (hi := 2147483647) g 94 16 rfl
    refine wr_gi0 (k0 := 94) (x := h 94 16) (nx := 178) (r1 := 4) (r2 := 16) (r3 := 0) rfl rfl (by decide) rfl ⟨rfl, rfl⟩ rfl ((u39 94 16 rfl).trans ((u36 94 16 rfl).trans ((u34 94 16 rfl).trans ((u31 94 16 rfl).trans ((u28 94 16 rfl).trans ((u25 94 16 rfl).trans ((u22 94 16 rfl).trans ((u19 94 16 rfl).trans ((u16 94 16 rfl).trans ((u13 94 16 rfl).trans ((u11 94 16 rfl).trans ((u9 94 16 rfl).trans ((u6 94 16 rfl).trans ((u3 94 16 rfl).trans (u1 94 16 rfl))))))))))))))) ?_
    refine wi_iconst (n := 1) (nx := 179) (r1 := 0) (r2 := 0) (r3 := 0) rfl ?_
    refine wr_addW (nx := 180) (r1 := 0) (r2 := 0) (r3 := 0) rfl (fun e42 (fe42 : -2147483648 ≤ e42 ∧ e42 ≤ 2147483647) => ?_)
    refine wr_pf0 (k0 := 94) (x := e42) (bl := -2147483648) (bh := 2147483647) (nx := 183) (r1 := 4) (r2 := 16) (r3 := 0) rfl (by decide) rfl ⟨rfl, rfl⟩ rfl rfl g39 rfl (by omega) (fun h43 g43 w43 u43 => ?_)
    have F44 := F40.then rfl u43
    refine wi_return (nx := 184) (r1 := 0) (r2 := 0) (r3 := 0) rfl rfl ?_
    exact k h43 g43 F44
  ·
    refine wi_aload_n (i := 0) (x := 94) (nx := 38) (r1 := 0) (r2 := 0) (r3 := 0) rfl rfl ?_
    refine wr_gr (k0 := 94) (x := 97) (nx := 41) (r1 := 4) (r2 := 3) (r3 := 0) rfl rfl (by decide) rfl ⟨rfl, rfl⟩ rfl ?_
    refine wi_iload_n (i := 2) (e := x5) (nx := 42) (r1 := 0) (r2 := 0) (r3 := 0) rfl rfl ?_
    obtain ⟨i9, ei9⟩ : ∃ q : Nat, x5 = (q : Int) := ⟨(x5).toNat, by omega⟩
    refine wr_aa (k0 := 97) (a := x5) (f := i9) (x := 97 + 8 + 2 * i9) (nx := 43) (r1 := 0) (r2 := 0) (r3 := 0) rfl (by decide) rfl (Or.inl rfl) (by omega) (by omega) (by decide) (hcr.1 97 (by decide) i9 (by omega)) ?_
    obtain ⟨k10, kk10, mk10⟩ : ∃ q, Rw q ∧ q = 97 + 8 + 2 * i9 := ⟨_, rw_lane 97 (by decide) i9 (by omega), rfl⟩
    rw [← mk10]
    refine wi_aload_n (i := 1) (x := 18) (nx := 44) (r1 := 0) (r2 := 0) (r3 := 0) rfl rfl ?_
    refine wr_gr (k0 := 18) (x := 21) (nx := 47) (r1 := 4) (r2 := 3) (r3 := 0) rfl rfl (by decide) rfl ⟨rfl, rfl⟩ rfl ?_
    refine wi_iload_n (i := 2) (e := x5) (nx := 48) (r1 := 0) (r2 := 0) (r3 := 0) rfl rfl ?_
    refine wr_aa (k0 := 21) (a := x5) (f := i9) (x := 21 + 8 + 2 * i9) (nx := 49) (r1 := 0) (r2 := 0) (r3 := 0) rfl (by decide) rfl (Or.inl rfl) (by omega) (by omega) (by decide) (hcr.1 21 (by decide) i9 (by omega)) ?_
    obtain ⟨k11, kk11, mk11⟩ : ∃ q, Rw q ∧ q = 21 + 8 + 2 * i9 := ⟨_, rw_lane 21 (by decide) i9 (by omega), rfl⟩
    rw [← mk11]
    refine wr_V (k0 := k10) (rest := []) (as := [.ref k10, .ref k11]) (nx := 52) (r1 := 155) (r2 := 1) (r3 := 5) rfl rfl rfl (of_decide_eq_true rfl) rfl rfl kk10.k kk10.1 rfl (of_decide_eq_true rfl) (of_decide_eq_true rfl) ?_
    refine ct_155_R_R hcr kk10 kk11 g6    (fun h12 g12 u12 => ?_)
    have v12 := FR.rngp (lo := 105) (hi := 112) u12 (by omega)
    have F13 := F7.then rfl (FR.rngp (lo := 105) (hi := 112) u12 (by omega))
    have F14 := u6.then rfl (FR.rngp (lo := 105) (hi := 112) u12 (by omega))
    refine wk_n ?_
    refine wr_iinc (i := 2) (n := 1) (v := x5) (fun e15 => [(2, vi e15), (0, .ref 94), (1, .ref 18)]) (nx := 55) (r1 := 0) (r2 := 0) (r3 := 0) rfl rfl (fun _ => rfl) (fun e15 (fe15 : e15 = x5 + 1) => ?_)
    refine wi_goto (nx := 58) (r1 := 32) (r2 := 0) (r3 := 0) rfl ?_
    refine wp.lo (lo := [(0, .ref 94), (1, .ref 18), (2, vi e15)]) ⟨rfl, rfl, rfl, trivial⟩ rfl ?_
    exact I6 e15 h12 ⟨g12, F13, F14, (show (0 ≤ e15 ∧ e15 ≤ 4) by omega)⟩ (show ((4 : Int) + 1 - e15).toNat < ((4 : Int) + 1 - x5).toNat by omega)
-- method 132: Line.copyFrom(LPaintBank$Line;)V
set_option maxRecDepth 100000 in
set_option maxHeartbeats 100000000 in
theorem ct_132_113_18 {L : Nat} {xs : Nat → Int32} {d b c : Nat} {h : hp} {cr : Nat → Nat → Option Nat} {Q : hp_Q} (hcr : CR cr)  (g : GI h)    (k : ∀ (h2 : hp) , GI h2 → FR [(75, 207, none)] h h2 → Q (.inl none) (hp_w h2 cr) b c) : wp (md_xa (L, xs)) (d + 1) 132 (0, [(0, .ref 113), (1, .ref 18)], [], hp_w h cr, b, c) Q := by
  have F0 : FR [(75, 207, none)] h h := FR.refl
  refine wi_aload_n (i := 1) (x := 18) (nx := 1) (r1 := 0) (r2 := 0) (r3 := 0) rfl rfl ?_
  refine wr_gr (k0 := 18) (x := 19) (nx := 4) (r1 := 4) (r2 := 1) (r3 := 0) rfl rfl (by decide) rfl ⟨rfl, rfl⟩ rfl ?_
  refine wi_iconst (n := 0) (nx := 5) (r1 := 0) (r2 := 0) (r3 := 0) rfl ?_
  refine wi_aload_n (i := 0) (x := 113) (nx := 6) (r1 := 0) (r2 := 0) (r3 := 0) rfl rfl ?_
  refine wr_gr (k0 := 113) (x := 114) (nx := 9) (r1 := 4) (r2 := 1) (r3 := 0) rfl rfl (by decide) rfl ⟨rfl, rfl⟩ rfl ?_
  refine wi_iconst (n := 0) (nx := 10) (r1 := 0) (r2 := 0) (r3 := 0) rfl ?_
  refine wi_bipush (n := 12) (nx := 12) (r1 := 0) (r2 := 0) (r3 := 0) rfl (by decide) ?_
  refine wr_cpy (s0 := 19) (d0 := 114) (n0 := 12) (n1 := 12) (sp := 0) (dp := 0) (n := 12) (sl := -2147483648) (sh := 2147483647) (dl := -2147483648) (dh := 2147483647) (nx := 15) (r1 := 0) (r2 := 101) (r3 := 0) rfl rfl (of_decide_eq_true rfl) (by decide) (by decide) rfl rfl (by omega) (fun _ => rfl) (fun _ => rfl) (by omega) g (fun h1 g1 y1 u1 => ?_)
  have F2 := F0.then rfl u1
  refine wi_aload_n (i := 1) (x := 18) (nx := 16) (r1 := 0) (r2 := 0) (r3 := 0) rfl rfl ?_
  refine wr_gr (k0 := 18) (x := 20) (nx := 19) (r1 := 4) (r2 := 2) (r3 := 0) rfl rfl (by decide) rfl ⟨rfl, rfl⟩ rfl ?_
  refine wi_iconst (n := 0) (nx := 20) (r1 := 0) (r2 := 0) (r3 := 0) rfl ?_
  refine wi_aload_n (i := 0) (x := 113) (nx := 21) (r1 := 0) (r2 := 0) (r3 := 0) rfl rfl ?_
  refine wr_gr (k0 := 113) (x := 115) (nx := 24) (r1 := 4) (r2 := 2) (r3 := 0) rfl rfl (by decide) rfl ⟨rfl, rfl⟩ rfl ?_
  refine wi_iconst (n := 0) (nx := 25) (r1 := 0) (r2 := 0) (r3 := 0) rfl ?_
  refine wi_bipush (n := 12) (nx := 27) (r1 := 0) (r2 := 0) (r3 := 0) rfl (by decide) ?_
  refine wr_cpy (s0 := 20) (d0 := 115) (n0 := 12) (n1 := 12) (sp := 0) (dp := 0) (n := 12) (sl := -2147483648) (sh := 2147483647) (dl := -2147483648) (dh := 2147483647) (nx := 30) (r1 := 0) (r2 := 101) (r3 := 0) rfl rfl (of_decide_eq_true rfl) (by decide) (by decide) rfl rfl (by omega) (fun _ => rfl) (fun _ => rfl) (by omega) g1 (fun h3 g3 y3 u3 => ?_)
  have F4 := F2.then rfl u3
  refine wi_iconst (n := 0) (nx := 31) (r1 := 0) (r2 := 0) (r3 := 0) rfl ?_
  refine wi_istore_n (i := 2) (e := 0) (lo2 := [(2, vi 0), (0, .ref 113), (1, .ref 18)]) (nx := 32) (r1 := 0) (r2 := 0) (r3 := 0) rfl rfl ?_
  refine wp.lo (lo := [(0, .ref 113), (1, .ref 18), (2, vi 0)]) ⟨rfl, rfl, rfl, trivial⟩ rfl ?_
  refine wl_1 (fun x5 h6 => GI h6 ∧ FR [(75, 207, none)] h h6 ∧ FR [(124, 131, none)] h3 h6 ∧ ((0 ≤ x5 ∧ x5 ≤ 4))) (fun x5 h6 => ((4 : Int) + 1 - x5).toNat) (fun x5 h6 => (32, [(0, .ref 113), (1, .ref 18), (2, vi x5)], [], hp_w h6 cr, b, c)) ?_ 0 h3 ⟨g3, F4, FR.refl, (show (0 ≤ 0 ∧ 0 ≤ 4) by omega)⟩
  intro x5 h6 ⟨g6, F7, u6, f6⟩ I6
  refine wi_iload_n (i := 2) (e := x5) (nx := 33) (r1 := 0) (r2 := 0) (r3 := 0) rfl rfl ?_
  refine wi_iconst (n := 4) (nx := 34) (r1 := 0) (r2 := 0) (r3 := 0) rfl ?_
  refine wi_icmp (cd := .ge) (nx := 37) (r1 := 58) (r2 := 0) (r3 := 0) rfl (by omega) (by omega) (fun (q8 : 4 ≤ x5) => ?_) (fun (q8 : ¬ (4 ≤ x5)) => ?_)
  ·
    refine wi_aload_n (i := 0) (x := 113) (nx := 59) (r1 := 0) (r2 := 0) (r3 := 0) rfl rfl ?_
    refine wr_gr (k0 := 113) (x := 117) (nx := 62) (r1 := 4) (r2 := 4) (r3 := 0) rfl rfl (by decide) rfl ⟨rfl, rfl⟩ rfl ?_
    refine wi_aload_n (i := 1) (x := 18) (nx := 63) (r1 := 0) (r2 := 0) (r3 := 0) rfl rfl ?_
    refine wr_gr (k0 := 18) (x := 22) (nx := 66) (r1 := 4) (r2 := 4) (r3 := 0) rfl rfl (by decide) rfl ⟨rfl, rfl⟩ rfl ?_
    refine wr_V (k0 := 117) (rest := []) (as := [.ref 117, .ref 22]) (nx := 69) (r1 := 155) (r2 := 1) (r3 := 5) rfl rfl rfl (of_decide_eq_true rfl) rfl rfl (by decide) rfl rfl (of_decide_eq_true rfl) (of_decide_eq_true rfl) ?_
    refine ct_155_R_R hcr rw_117 rw_22 g6    (fun h9 g9 u9 => ?_)
    have F10 := F7.then rfl u9
    refine wk_n ?_
    refine wi_aload_n (i := 0) (x := 113) (nx := 70) (r1 := 0) (r2 := 0) (r3 := 0) rfl rfl ?_
    refine wr_gr (k0 := 113) (x := 119) (nx := 73) (r1 := 4) (r2 := 5) (r3 := 0) rfl rfl (by decide) rfl ⟨rfl, rfl⟩ rfl ?_
    refine wi_aload_n (i := 1) (x := 18) (nx := 74) (r1 := 0) (r2 := 0) (r3 := 0) rfl rfl ?_
    refine wr_gr (k0 := 18) (x := 24) (nx := 77) (r1 := 4) (r2 := 5) (r3 := 0) rfl rfl (by decide) rfl ⟨rfl, rfl⟩ rfl ?_
    refine wr_V (k0 := 119) (rest := []) (as := [.ref 119, .ref 24]) (nx := 80) (r1 := 155) (r2 := 1) (r3 := 5) rfl rfl rfl (of_decide_eq_true rfl) rfl rfl (by decide) rfl rfl (of_decide_eq_true rfl) (of_decide_eq_true rfl) ?_
    refine ct_155_R_R hcr rw_119 rw_24 g9    (fun h11 g11 u11 => ?_)
    have F12 := F10.then rfl u11
    refine wk_n ?_
    refine wi_aload_n (i := 0) (x := 113) (nx := 81) (r1 := 0) (r2 := 0) (r3 := 0) rfl rfl ?_
    refine wr_gr (k0 := 113) (x := 121) (nx := 84) (r1 := 4) (r2 := 6) (r3 := 0) rfl rfl (by decide) rfl ⟨rfl, rfl⟩ rfl ?_
    refine wi_aload_n (i := 1) (x := 18) (nx := 85) (r1 := 0) (r2 := 0) (r3 := 0) rfl rfl ?_
    refine wr_gr (k0 := 18) (x := 26) (nx := 88) (r1 := 4) (r2 := 6) (r3 := 0) rfl rfl (by decide) rfl ⟨rfl, rfl⟩ rfl ?_
    refine wr_V (k0 := 121) (rest := []) (as := [.ref 121, .ref 26]) (nx := 91) (r1 := 155) (r2 := 1) (r3 := 5) rfl rfl rfl (of_decide_eq_true rfl) rfl rfl (by decide) rfl rfl (of_decide_eq_true rfl) (of_decide_eq_true rfl) ?_
    refine ct_155_R_R hcr rw_121 rw_26 g11    (fun h13 g13 u13 => ?_)
    have F14 := F12.then rfl u13
    refine wk_n ?_
    refine wi_aload_n (i := 0) (x := 113) (nx := 92) (r1 := 0) (r2 := 0) (r3 := 0) rfl rfl ?_
    refine wi_aload_n (i := 1) (x := 18) (nx := 93) (r1 := 0) (r2 := 0) (r3 := 0) rfl rfl ?_
    have b15 := gi_b (lo := 0) (hi := 12) g 18 7 rfl
    refine wr_gi0 (k0 := 18) (x := h 18 7) (nx := 96) (r1 := 4) (r2 := 7) (r3 := 0) rfl rfl (by decide) rfl ⟨rfl, rfl⟩ rfl ((u13 18 7 rfl).trans ((u11 18 7 rfl).trans ((u9 18 7 rfl).trans ((u6 18 7 rfl).trans ((u3 18 7 rfl).trans (u1 18 7 rfl)))))) ?_
    refine wr_pf0 (k0 := 113) (x := h 18 7) (bl := 0) (bh := 12) (nx := 99) (r1 := 4) (r2 := 7) (r3 := 0) rfl (by decide) rfl ⟨rfl, rfl⟩ rfl rfl g13 rfl (by omega) (fun h16 g16 w16 u16 => ?_)
    have F17 := F14.then rfl u16
    refine wi_aload_n (i := 0) (x := 113) (nx := 100) (r1 := 0) (r2 := 0) (r3 := 0) rfl rfl ?_
    refine wi_aload_n (i := 1) (x := 18) (nx := 101) (r1 := 0) (r2 := 0) (r3 := 0) rfl rfl ?_
    have b18 := gi_b (lo := -2147483648) (hi := 2147483647) g 18 8 rfl
    refine wr_gi0 (k0 := 18) (x := h 18 8) (nx := 104) (r1 := 4) (r2 := 8) (r3 := 0) rfl rfl (by decide) rfl ⟨rfl, rfl⟩ rfl ((u16 18 8 rfl).trans ((u13 18 8 rfl).trans ((u11 18 8 rfl).trans ((u9 18 8 rfl).trans ((u6 18 8 rfl).trans ((u3 18 8 rfl).trans (u1 18 8 rfl))))))) ?_
    refine wr_pf0 (k0 := 113) (x := h 18 8) (bl := -2147483648) (bh := 2147483647) (nx := 107) (r1 := 4) (r2 := 8) (r3 := 0) rfl (by decide) rfl ⟨rfl, rfl⟩ rfl rfl g16 rfl (by omega) (fun h19 g19 w19 u19 => ?_)
    have F20 := F17.then rfl u19
    refine wi_aload_n (i := 0) (x := 113) (nx := 108) (r1 := 0) (r2 := 0) (r3 := 0) rfl rfl ?_
    refine wi_aload_n (i := 1) (x := 18) (nx := 109) (r1 := 0) (r2 := 0) (r3 := 0) rfl rfl ?_
    have b21 := gi_b (lo := -2147483648) (hi := 2147483647) g 18 9 rfl
    refine wr_gi0 (k0 := 18) (x := h 18 9) (nx := 112) (r1 := 4) (r2 := 9) (r3 := 0) rfl rfl (by decide) rfl ⟨rfl, rfl⟩ rfl ((u19 18 9 rfl).trans ((u16 18 9 rfl).trans ((u13 18 9 rfl).trans ((u11 18 9 rfl).trans ((u9 18 9 rfl).trans ((u6 18 9 rfl).trans ((u3 18 9 rfl).trans (u1 18 9 rfl)))))))) ?_
    refine wr_pf0 (k0 := 113) (x := h 18 9) (bl := -2147483648) (bh := 2147483647) (nx := 115) (r1 := 4) (r2 := 9) (r3 := 0) rfl (by decide) rfl ⟨rfl, rfl⟩ rfl rfl g19 rfl (by omega) (fun h22 g22 w22 u22 => ?_)
    have F23 := F20.then rfl u22
    refine wi_aload_n (i := 0) (x := 113) (nx := 116) (r1 := 0) (r2 := 0) (r3 := 0) rfl rfl ?_
    refine wi_aload_n (i := 1) (x := 18) (nx := 117) (r1 := 0) (r2 := 0) (r3 := 0) rfl rfl ?_
    have b24 := gi_b (lo := -2147483648) (hi := 2147483647) g 18 10 rfl
    refine wr_gi0 (k0 := 18) (x := h 18 10) (nx := 120) (r1 := 4) (r2 := 10) (r3 := 0) rfl rfl (by decide) rfl ⟨rfl, rfl⟩ rfl ((u22 18 10 rfl).trans ((u19 18 10 rfl).trans ((u16 18 10 rfl).trans ((u13 18 10 rfl).trans ((u11 18 10 rfl).trans ((u9 18 10 rfl).trans ((u6 18 10 rfl).trans ((u3 18 10 rfl).trans (u1 18 10 rfl))))))))) ?_
    refine wr_pf0 (k0 := 113) (x := h 18 10) (bl := -2147483648) (bh := 2147483647) (nx := 123) (r1 := 4) (r2 := 10) (r3 := 0) rfl (by decide) rfl ⟨rfl, rfl⟩ rfl rfl g22 rfl (by omega) (fun h25 g25 w25 u25 => ?_)
    have F26 := F23.then rfl u25
    refine wi_aload_n (i := 0) (x := 113) (nx := 124) (r1 := 0) (r2 := 0) (r3 := 0) rfl rfl ?_
    refine wi_aload_n (i := 1) (x := 18) (nx := 125) (r1 := 0) (r2 := 0) (r3 := 0) rfl rfl ?_
    have b27 := gi_b (lo := -2147483648) (hi := 2147483647) g 18 11 rfl
    refine wr_gi0 (k0 := 18) (x := h 18 11) (nx := 128) (r1 := 4) (r2 := 11) (r3 := 0) rfl rfl (by decide) rfl ⟨rfl, rfl⟩ rfl ((u25 18 11 rfl).trans ((u22 18 11 rfl).trans ((u19 18 11 rfl).trans ((u16 18 11 rfl).trans ((u13 18 11 rfl).trans ((u11 18 11 rfl).trans ((u9 18 11 rfl).trans ((u6 18 11 rfl).trans ((u3 18 11 rfl).trans (u1 18 11 rfl)))))))))) ?_
    refine wr_pf0 (k0 := 113) (x := h 18 11) (bl := -2147483648) (bh := 2147483647) (nx := 131) (r1 := 4) (r2 := 11) (r3 := 0) rfl (by decide) rfl ⟨rfl, rfl⟩ rfl rfl g25 rfl (by omega) (fun h28 g28 w28 u28 => ?_)
    have F29 := F26.then rfl u28
    refine wi_aload_n (i := 0) (x := 113) (nx := 132) (r1 := 0) (r2 := 0) (r3 := 0) rfl rfl ?_
    refine wi_aload_n (i := 1) (x := 18) (nx := 133) (r1 := 0) (r2 := 0) (r3 := 0) rfl rfl ?_
    have b30 := gi_b (lo := -2147483648) (hi := 2147483647) g 18 12 rfl
    refine wr_gi0 (k0 := 18) (x := h 18 12) (nx := 136) (r1 := 4) (r2 := 12) (r3 := 0) rfl rfl (by decide) rfl ⟨rfl, rfl⟩ rfl ((u28 18 12 rfl).trans ((u25 18 12 rfl).trans ((u22 18 12 rfl).trans ((u19 18 12 rfl).trans ((u16 18 12 rfl).trans ((u13 18 12 rfl).trans ((u11 18 12 rfl).trans ((u9 18 12 rfl).trans ((u6 18 12 rfl).trans ((u3 18 12 rfl).trans (u1 18 12 rfl))))))))))) ?_
    refine wr_pf0 (k0 := 113) (x := h 18 12) (bl := -2147483648) (bh := 2147483647) (nx := 139) (r1 := 4) (r2 := 12) (r3 := 0) rfl (by decide) rfl ⟨rfl, rfl⟩ rfl rfl g28 rfl (by omega) (fun h31 g31 w31 u31 => ?_)
    have F32 := F29.then rfl u31
    refine wi_aload_n (i := 0) (x := 113) (nx := 140) (r1 := 0) (r2 := 0) (r3 := 0) rfl rfl ?_
    refine wi_aload_n (i := 1) (x := 18) (nx := 141) (r1 := 0) (r2 := 0) (r3 := 0) rfl rfl ?_
    have b33 := gi_b (lo := -2147483648) (hi := 2147483647) g 18 13 rfl
    refine wr_gi0 (k0 := 18) (x := h 18 13) (nx := 144) (r1 := 4) (r2 := 13) (r3 := 0) rfl rfl (by decide) rfl ⟨rfl, rfl⟩ rfl ((u31 18 13 rfl).trans ((u28 18 13 rfl).trans ((u25 18 13 rfl).trans ((u22 18 13 rfl).trans ((u19 18 13 rfl).trans ((u16 18 13 rfl).trans ((u13 18 13 rfl).trans ((u11 18 13 rfl).trans ((u9 18 13 rfl).trans ((u6 18 13 rfl).trans ((u3 18 13 rfl).trans (u1 18 13 rfl)))))))))))) ?_
    refine wr_pf0 (k0 := 113) (x := h 18 13) (bl := -2147483648) (bh := 2147483647) (nx := 147) (r1 := 4) (r2 := 13) (r3 := 0) rfl (by decide) rfl ⟨rfl, rfl⟩ rfl rfl g31 rfl (by omega) (fun h34 g34 w34 u34 => ?_)
    have F35 := F32.then rfl u34
    refine wi_aload_n (i := 1) (x := 18) (nx := 148) (r1 := 0) (r2 := 0) (r3 := 0) rfl rfl ?_
    refine wr_gr (k0 := 18) (x := 28) (nx := 151) (r1 := 4) (r2 := 14) (r3 := 0) rfl rfl (by decide) rfl ⟨rfl, rfl⟩ rfl ?_
    refine wi_iconst (n := 0) (nx := 152) (r1 := 0) (r2 := 0) (r3 := 0) rfl ?_
    refine wi_aload_n (i := 0) (x := 113) (nx := 153) (r1 := 0) (r2 := 0) (r3 := 0) rfl rfl ?_
    refine wr_gr (k0 := 113) (x := 123) (nx := 156) (r1 := 4) (r2 := 14) (r3 := 0) rfl rfl (by decide) rfl ⟨rfl, rfl⟩ rfl ?_
    refine wi_iconst (n := 0) (nx := 157) (r1 := 0) (r2 := 0) (r3 := 0) rfl ?_
    refine wi_aload_n (i := 0) (x := 113) (nx := 158) (r1 := 0) (r2 := 0) (r3 := 0) rfl rfl ?_
    refine wr_gr (k0 := 113) (x := 123) (nx := 161) (r1 := 4) (r2 := 14) (r3 := 0) rfl rfl (by decide) rfl ⟨rfl, rfl⟩ rfl ?_
    refine wr_al (k0 := 123) (e := 144) (nx := 162) (r1 := 0) (r2 := 0) (r3 := 0) rfl (by decide) rfl rfl ?_
    refine wr_cpy (s0 := 28) (d0 := 123) (n0 := 144) (n1 := 144) (sp := 0) (dp := 0) (n := 144) (sl := -2147483648) (sh := 2147483647) (dl := -2147483648) (dh := 2147483647) (nx := 165) (r1 := 0) (r2 := 101) (r3 := 0) rfl rfl (of_decide_eq_true rfl) (by decide) (by decide) rfl rfl (by omega) (fun _ => rfl) (fun _ => rfl) (by omega) g34 (fun h36 g36 y36 u36 => ?_)
    have F37 := F35.then rfl u36
    refine wi_aload_n (i := 0) (x := 113) (nx := 166) (r1 := 0) (r2 := 0) (r3 := 0) rfl rfl ?_
    refine wi_aload_n (i := 1) (x := 18) (nx := 167) (r1 := 0) (r2 := 0) (r3 := 0) rfl rfl ?_
    have b38 := gi_b (lo := 0) (hi := 36) g 18 15 rfl
    refine wr_gi0 (k0 := 18) (x := h 18 15) (nx := 170) (r1 := 4) (r2 := 15) (r3 := 0) rfl rfl (by decide) rfl ⟨rfl, rfl⟩ rfl ((u36 18 15 rfl).trans ((u34 18 15 rfl).trans ((u31 18 15 rfl).trans ((u28 18 15 rfl).trans ((u25 18 15 rfl).trans ((u22 18 15 rfl).trans ((u19 18 15 rfl).trans ((u16 18 15 rfl).trans ((u13 18 15 rfl).trans ((u11 18 15 rfl).trans ((u9 18 15 rfl).trans ((u6 18 15 rfl).trans ((u3 18 15 rfl).trans (u1 18 15 rfl)))))))))))))) ?_
    refine wr_pf0 (k0 := 113) (x := h 18 15) (bl := 0) (bh := 36) (nx := 173) (r1 := 4) (r2 := 15) (r3 := 0) rfl (by decide) rfl ⟨rfl, rfl⟩ rfl rfl g36 rfl (by omega) (fun h39 g39 w39 u39 => ?_)
    have F40 := F37.then rfl u39
    refine wi_aload_n (i := 0) (x := 113) (nx := 174) (r1 := 0) (r2 := 0) (r3 := 0) rfl rfl ?_
    refine wi_dup (nx := 175) (r1 := 0) (r2 := 0) (r3 := 0) rfl rfl ?_
    have b41 := gi_b (lo := -2147483648) (hi := 2147483647) g 113 16 rfl
    refine wr_gi0 (k0 := 113) (x := h 113 16) (nx := 178) (r1 := 4) (r2 := 16) (r3 := 0) rfl rfl (by decide) rfl ⟨rfl, rfl⟩ rfl ((u39 113 16 rfl).trans ((u36 113 16 rfl).trans ((u34 113 16 rfl).trans ((u31 113 16 rfl).trans ((u28 113 16 rfl).trans ((u25 113 16 rfl).trans ((u22 113 16 rfl).trans ((u19 113 16 rfl).trans ((u16 113 16 rfl).trans ((u13 113 16 rfl).trans ((u11 113 16 rfl).trans ((u9 113 16 rfl).trans ((u6 113 16 rfl).trans ((u3 113 16 rfl).trans (u1 113 16 rfl))))))))))))))) ?_
    refine wi_iconst (n := 1) (nx := 179) (r1 := 0) (r2 := 0) (r3 := 0) rfl ?_
    refine wr_addW (nx := 180) (r1 := 0) (r2 := 0) (r3 := 0) rfl (fun e42 (fe42 : -2147483648 ≤ e42 ∧ e42 ≤ 2147483647) => ?_)
    refine wr_pf0 (k0 := 113) (x := e42) (bl := -2147483648) (bh := 2147483647) (nx := 183) (r1 := 4) (r2 := 16) (r3 := 0) rfl (by decide) rfl ⟨rfl, rfl⟩ rfl rfl g39 rfl (by omega) (fun h43 g43 w43 u43 => ?_)
    have F44 := F40.then rfl u43
    refine wi_return (nx := 184) (r1 := 0) (r2 := 0) (r3 := 0) rfl rfl ?_
    exact k h43 g43 F44
  ·
    refine wi_aload_n (i := 0) (x := 113) (nx := 38) (r1 := 0) (r2 := 0) (r3 := 0) rfl rfl ?_
    refine wr_gr (k0 := 113) (x := 116) (nx := 41) (r1 := 4) (r2 := 3) (r3 := 0) rfl rfl (by decide) rfl ⟨rfl, rfl⟩ rfl ?_
    refine wi_iload_n (i := 2) (e := x5) (nx := 42) (r1 := 0) (r2 := 0) (r3 := 0) rfl rfl ?_
    obtain ⟨i9, ei9⟩ : ∃ q : Nat, x5 = (q : Int) := ⟨(x5).toNat, by omega⟩
    refine wr_aa (k0 := 116) (a := x5) (f := i9) (x := 116 + 8 + 2 * i9) (nx := 43) (r1 := 0) (r2 := 0) (r3 := 0) rfl (by decide) rfl (Or.inl rfl) (by omega) (by omega) (by decide) (hcr.1 116 (by decide) i9 (by omega)) ?_
    obtain ⟨k10, kk10, mk10⟩ : ∃ q, Rw q ∧ q = 116 + 8 + 2 * i9 := ⟨_, rw_lane 116 (by decide) i9 (by omega), rfl⟩
    rw [← mk10]
    refine wi_aload_n (i := 1) (x := 18) (nx := 44) (r1 := 0) (r2 := 0) (r3 := 0) rfl rfl ?_
    refine wr_gr (k0 := 18) (x := 21) (nx := 47) (r1 := 4) (r2 := 3) (r3 := 0) rfl rfl (by decide) rfl ⟨rfl, rfl⟩ rfl ?_
    refine wi_iload_n (i := 2) (e := x5) (nx := 48) (r1 := 0) (r2 := 0) (r3 := 0) rfl rfl ?_
    refine wr_aa (k0 := 21) (a := x5) (f := i9) (x := 21 + 8 + 2 * i9) (nx := 49) (r1 := 0) (r2 := 0) (r3 := 0) rfl (by decide) rfl (Or.inl rfl) (by omega) (by omega) (by decide) (hcr.1 21 (by decide) i9 (by omega)) ?_
    obtain ⟨k11, kk11, mk11⟩ : ∃ q, Rw q ∧ q = 21 + 8 + 2 * i9 := ⟨_, rw_lane 21 (by decide) i9 (by omega), rfl⟩
    rw [← mk11]
    refine wr_V (k0 := k10) (rest := []) (as := [.ref k10, .ref k11]) (nx := 52) (r1 := 155) (r2 := 1) (r3 := 5) rfl rfl rfl (of_decide_eq_true rfl) rfl rfl kk10.k kk10.1 rfl (of_decide_eq_true rfl) (of_decide_eq_true rfl) ?_
    refine ct_155_R_R hcr kk10 kk11 g6    (fun h12 g12 u12 => ?_)
    have v12 := FR.rngp (lo := 124) (hi := 131) u12 (by omega)
    have F13 := F7.then rfl (FR.rngp (lo := 124) (hi := 131) u12 (by omega))
    have F14 := u6.then rfl (FR.rngp (lo := 124) (hi := 131) u12 (by omega))
    refine wk_n ?_
    refine wr_iinc (i := 2) (n := 1) (v := x5) (fun e15 => [(2, vi e15), (0, .ref 113), (1, .ref 18)]) (nx := 55) (r1 := 0) (r2 := 0) (r3 := 0) rfl rfl (fun _ => rfl) (fun e15 (fe15 : e15 = x5 + 1) => ?_)
    refine wi_goto (nx := 58) (r1 := 32) (r2 := 0) (r3 := 0) rfl ?_
    refine wp.lo (lo := [(0, .ref 113), (1, .ref 18), (2, vi e15)]) ⟨rfl, rfl, rfl, trivial⟩ rfl ?_
    exact I6 e15 h12 ⟨g12, F13, F14, (show (0 ≤ e15 ∧ e15 ≤ 4) by omega)⟩ (show ((4 : Int) + 1 - e15).toNat < ((4 : Int) + 1 - x5).toNat by omega)
-- method 132: Line.copyFrom(LPaintBank$Line;)V
set_option maxRecDepth 100000 in
set_option maxHeartbeats 100000000 in
theorem ct_132_132_18 {L : Nat} {xs : Nat → Int32} {d b c : Nat} {h : hp} {cr : Nat → Nat → Option Nat} {Q : hp_Q} (hcr : CR cr)  (g : GI h)    (k : ∀ (h2 : hp) , GI h2 → FR [(75, 207, none)] h h2 → Q (.inl none) (hp_w h2 cr) b c) : wp (md_xa (L, xs)) (d + 1) 132 (0, [(0, .ref 132), (1, .ref 18)], [], hp_w h cr, b, c) Q := by
  have F0 : FR [(75, 207, none)] h h := FR.refl
  refine wi_aload_n (i := 1) (x := 18) (nx := 1) (r1 := 0) (r2 := 0) (r3 := 0) rfl rfl ?_
  refine wr_gr (k0 := 18) (x := 19) (nx := 4) (r1 := 4) (r2 := 1) (r3 := 0) rfl rfl (by decide) rfl ⟨rfl, rfl⟩ rfl ?_
  refine wi_iconst (n := 0) (nx := 5) (r1 := 0) (r2 := 0) (r3 := 0) rfl ?_
  refine wi_aload_n (i := 0) (x := 132) (nx := 6) (r1 := 0) (r2 := 0) (r3 := 0) rfl rfl ?_
  refine wr_gr (k0 := 132) (x := 133) (nx := 9) (r1 := 4) (r2 := 1) (r3 := 0) rfl rfl (by decide) rfl ⟨rfl, rfl⟩ rfl ?_
  refine wi_iconst (n := 0) (nx := 10) (r1 := 0) (r2 := 0) (r3 := 0) rfl ?_
  refine wi_bipush (n := 12) (nx := 12) (r1 := 0) (r2 := 0) (r3 := 0) rfl (by decide) ?_
  refine wr_cpy (s0 := 19) (d0 := 133) (n0 := 12) (n1 := 12) (sp := 0) (dp := 0) (n := 12) (sl := -2147483648) (sh := 2147483647) (dl := -2147483648) (dh := 2147483647) (nx := 15) (r1 := 0) (r2 := 101) (r3 := 0) rfl rfl (of_decide_eq_true rfl) (by decide) (by decide) rfl rfl (by omega) (fun _ => rfl) (fun _ => rfl) (by omega) g (fun h1 g1 y1 u1 => ?_)
  have F2 := F0.then rfl u1
  refine wi_aload_n (i := 1) (x := 18) (nx := 16) (r1 := 0) (r2 := 0) (r3 := 0) rfl rfl ?_
  refine wr_gr (k0 := 18) (x := 20) (nx := 19) (r1 := 4) (r2 := 2) (r3 := 0) rfl rfl (by decide) rfl ⟨rfl, rfl⟩ rfl ?_
  refine wi_iconst (n := 0) (nx := 20) (r1 := 0) (r2 := 0) (r3 := 0) rfl ?_
  refine wi_aload_n (i := 0) (x := 132) (nx := 21) (r1 := 0) (r2 := 0) (r3 := 0) rfl rfl ?_
  refine wr_gr (k0 := 132) (x := 134) (nx := 24) (r1 := 4) (r2 := 2) (r3 := 0) rfl rfl (by decide) rfl ⟨rfl, rfl⟩ rfl ?_
  refine wi_iconst (n := 0) (nx := 25) (r1 := 0) (r2 := 0) (r3 := 0) rfl ?_
  refine wi_bipush (n := 12) (nx := 27) (r1 := 0) (r2 := 0) (r3 := 0) rfl (by decide) ?_
  refine wr_cpy (s0 := 20) (d0 := 134) (n0 := 12) (n1 := 12) (sp := 0) (dp := 0) (n := 12) (sl := -2147483648) (sh := 2147483647) (dl := -2147483648) (dh := 2147483647) (nx := 30) (r1 := 0) (r2 := 101) (r3 := 0) rfl rfl (of_decide_eq_true rfl) (by decide) (by decide) rfl rfl (by omega) (fun _ => rfl) (fun _ => rfl) (by omega) g1 (fun h3 g3 y3 u3 => ?_)
  have F4 := F2.then rfl u3
  refine wi_iconst (n := 0) (nx := 31) (r1 := 0) (r2 := 0) (r3 := 0) rfl ?_
  refine wi_istore_n (i := 2) (e := 0) (lo2 := [(2, vi 0), (0, .ref 132), (1, .ref 18)]) (nx := 32) (r1 := 0) (r2 := 0) (r3 := 0) rfl rfl ?_
  refine wp.lo (lo := [(0, .ref 132), (1, .ref 18), (2, vi 0)]) ⟨rfl, rfl, rfl, trivial⟩ rfl ?_
  refine wl_1 (fun x5 h6 => GI h6 ∧ FR [(75, 207, none)] h h6 ∧ FR [(143, 150, none)] h3 h6 ∧ ((0 ≤ x5 ∧ x5 ≤ 4))) (fun x5 h6 => ((4 : Int) + 1 - x5).toNat) (fun x5 h6 => (32, [(0, .ref 132), (1, .ref 18), (2, vi x5)], [], hp_w h6 cr, b, c)) ?_ 0 h3 ⟨g3, F4, FR.refl, (show (0 ≤ 0 ∧ 0 ≤ 4) by omega)⟩
  intro x5 h6 ⟨g6, F7, u6, f6⟩ I6
  refine wi_iload_n (i := 2) (e := x5) (nx := 33) (r1 := 0) (r2 := 0) (r3 := 0) rfl rfl ?_
  refine wi_iconst (n := 4) (nx := 34) (r1 := 0) (r2 := 0) (r3 := 0) rfl ?_
  refine wi_icmp (cd := .ge) (nx := 37) (r1 := 58) (r2 := 0) (r3 := 0) rfl (by omega) (by omega) (fun (q8 : 4 ≤ x5) => ?_) (fun (q8 : ¬ (4 ≤ x5)) => ?_)
  ·
    refine wi_aload_n (i := 0) (x := 132) (nx := 59) (r1 := 0) (r2 := 0) (r3 := 0) rfl rfl ?_
    refine wr_gr (k0 := 132) (x := 136) (nx := 62) (r1 := 4) (r2 := 4) (r3 := 0) rfl rfl (by decide) rfl ⟨rfl, rfl⟩ rfl ?_
    refine wi_aload_n (i := 1) (x := 18) (nx := 63) (r1 := 0) (r2 := 0) (r3 := 0) rfl rfl ?_
    refine wr_gr (k0 := 18) (x := 22) (nx := 66) (r1 := 4) (r2 := 4) (r3 := 0) rfl rfl (by decide) rfl ⟨rfl, rfl⟩ rfl ?_
    refine wr_V (k0 := 136) (rest := []) (as := [.ref 136, .ref 22]) (nx := 69) (r1 := 155) (r2 := 1) (r3 := 5) rfl rfl rfl (of_decide_eq_true rfl) rfl rfl (by decide) rfl rfl (of_decide_eq_true rfl) (of_decide_eq_true rfl) ?_
    refine ct_155_R_R hcr rw_136 rw_22 g6    (fun h9 g9 u9 => ?_)
    have F10 := F7.then rfl u9
    refine wk_n ?_
    refine wi_aload_n (i := 0) (x := 132) (nx := 70) (r1 := 0) (r2 := 0) (r3 := 0) rfl rfl ?_
    refine wr_gr (k0 := 132) (x := 138) (nx := 73) (r1 := 4) (r2 := 5) (r3 := 0) rfl rfl (by decide) rfl ⟨rfl, rfl⟩ rfl ?_
    refine wi_aload_n (i := 1) (x := 18) (nx := 74) (r1 := 0) (r2 := 0) (r3 := 0) rfl rfl ?_
    refine wr_gr (k0 := 18) (x := 24) (nx := 77) (r1 := 4) (r2 := 5) (r3 := 0) rfl rfl (by decide) rfl ⟨rfl, rfl⟩ rfl ?_
    refine wr_V (k0 := 138) (rest := []) (as := [.ref 138, .ref 24]) (nx := 80) (r1 := 155) (r2 := 1) (r3 := 5) rfl rfl rfl (of_decide_eq_true rfl) rfl rfl (by decide) rfl rfl (of_decide_eq_true rfl) (of_decide_eq_true rfl) ?_
    refine ct_155_R_R hcr rw_138 rw_24 g9    (fun h11 g11 u11 => ?_)
    have F12 := F10.then rfl u11
    refine wk_n ?_
    refine wi_aload_n (i := 0) (x := 132) (nx := 81) (r1 := 0) (r2 := 0) (r3 := 0) rfl rfl ?_
    refine wr_gr (k0 := 132) (x := 140) (nx := 84) (r1 := 4) (r2 := 6) (r3 := 0) rfl rfl (by decide) rfl ⟨rfl, rfl⟩ rfl ?_
    refine wi_aload_n (i := 1) (x := 18) (nx := 85) (r1 := 0) (r2 := 0) (r3 := 0) rfl rfl ?_
    refine wr_gr (k0 := 18) (x := 26) (nx := 88) (r1 := 4) (r2 := 6) (r3 := 0) rfl rfl (by decide) rfl ⟨rfl, rfl⟩ rfl ?_
    refine wr_V (k0 := 140) (rest := []) (as := [.ref 140, .ref 26]) (nx := 91) (r1 := 155) (r2 := 1) (r3 := 5) rfl rfl rfl (of_decide_eq_true rfl) rfl rfl (by decide) rfl rfl (of_decide_eq_true rfl) (of_decide_eq_true rfl) ?_
    refine ct_155_R_R hcr rw_140 rw_26 g11    (fun h13 g13 u13 => ?_)
    have F14 := F12.then rfl u13
    refine wk_n ?_
    refine wi_aload_n (i := 0) (x := 132) (nx := 92) (r1 := 0) (r2 := 0) (r3 := 0) rfl rfl ?_
    refine wi_aload_n (i := 1) (x := 18) (nx := 93) (r1 := 0) (r2 := 0) (r3 := 0) rfl rfl ?_
    have b15 := gi_b (lo := 0) (hi := 12) g 18 7 rfl
    refine wr_gi0 (k0 := 18) (x := h 18 7) (nx := 96) (r1 := 4) (r2 := 7) (r3 := 0) rfl rfl (by decide) rfl ⟨rfl, rfl⟩ rfl ((u13 18 7 rfl).trans ((u11 18 7 rfl).trans ((u9 18 7 rfl).trans ((u6 18 7 rfl).trans ((u3 18 7 rfl).trans (u1 18 7 rfl)))))) ?_
    refine wr_pf0 (k0 := 132) (x := h 18 7) (bl := 0) (bh := 12) (nx := 99) (r1 := 4) (r2 := 7) (r3 := 0) rfl (by decide) rfl ⟨rfl, rfl⟩ rfl rfl g13 rfl (by omega) (fun h16 g16 w16 u16 => ?_)
    have F17 := F14.then rfl u16
    refine wi_aload_n (i := 0) (x := 132) (nx := 100) (r1 := 0) (r2 := 0) (r3 := 0) rfl rfl ?_
    refine wi_aload_n (i := 1) (x := 18) (nx := 101) (r1 := 0) (r2 := 0) (r3 := 0) rfl rfl ?_
    have b18 := gi_b (lo := -2147483648) (hi := 2147483647) g 18 8 rfl
    refine wr_gi0 (k0 := 18) (x := h 18 8) (nx := 104) (r1 := 4) (r2 := 8) (r3 := 0) rfl rfl (by decide) rfl ⟨rfl, rfl⟩ rfl ((u16 18 8 rfl).trans ((u13 18 8 rfl).trans ((u11 18 8 rfl).trans ((u9 18 8 rfl).trans ((u6 18 8 rfl).trans ((u3 18 8 rfl).trans (u1 18 8 rfl))))))) ?_
    refine wr_pf0 (k0 := 132) (x := h 18 8) (bl := -2147483648) (bh := 2147483647) (nx := 107) (r1 := 4) (r2 := 8) (r3 := 0) rfl (by decide) rfl ⟨rfl, rfl⟩ rfl rfl g16 rfl (by omega) (fun h19 g19 w19 u19 => ?_)
    have F20 := F17.then rfl u19
    refine wi_aload_n (i := 0) (x := 132) (nx := 108) (r1 := 0) (r2 := 0) (r3 := 0) rfl rfl ?_
    refine wi_aload_n (i := 1) (x := 18) (nx := 109) (r1 := 0) (r2 := 0) (r3 := 0) rfl rfl ?_
    have b21 := gi_b (lo := -2147483648) (hi := 2147483647) g 18 9 rfl
    refine wr_gi0 (k0 := 18) (x := h 18 9) (nx := 112) (r1 := 4) (r2 := 9) (r3 := 0) rfl rfl (by decide) rfl ⟨rfl, rfl⟩ rfl ((u19 18 9 rfl).trans ((u16 18 9 rfl).trans ((u13 18 9 rfl).trans ((u11 18 9 rfl).trans ((u9 18 9 rfl).trans ((u6 18 9 rfl).trans ((u3 18 9 rfl).trans (u1 18 9 rfl)))))))) ?_
    refine wr_pf0 (k0 := 132) (x := h 18 9) (bl := -2147483648) (bh := 2147483647) (nx := 115) (r1 := 4) (r2 := 9) (r3 := 0) rfl (by decide) rfl ⟨rfl, rfl⟩ rfl rfl g19 rfl (by omega) (fun h22 g22 w22 u22 => ?_)
    have F23 := F20.then rfl u22
    refine wi_aload_n (i := 0) (x := 132) (nx := 116) (r1 := 0) (r2 := 0) (r3 := 0) rfl rfl ?_
    refine wi_aload_n (i := 1) (x := 18) (nx := 117) (r1 := 0) (r2 := 0) (r3 := 0) rfl rfl ?_
    have b24 := gi_b (lo := -2147483648) (hi := 2147483647) g 18 10 rfl
    refine wr_gi0 (k0 := 18) (x := h 18 10) (nx := 120) (r1 := 4) (r2 := 10) (r3 := 0) rfl rfl (by decide) rfl ⟨rfl, rfl⟩ rfl ((u22 18 10 rfl).trans ((u19 18 10 rfl).trans ((u16 18 10 rfl).trans ((u13 18 10 rfl).trans ((u11 18 10 rfl).trans ((u9 18 10 rfl).trans ((u6 18 10 rfl).trans ((u3 18 10 rfl).trans (u1 18 10 rfl))))))))) ?_
    refine wr_pf0 (k0 := 132) (x := h 18 10) (bl := -2147483648) (bh := 2147483647) (nx := 123) (r1 := 4) (r2 := 10) (r3 := 0) rfl (by decide) rfl ⟨rfl, rfl⟩ rfl rfl g22 rfl (by omega) (fun h25 g25 w25 u25 => ?_)
    have F26 := F23.then rfl u25
    refine wi_aload_n (i := 0) (x := 132) (nx := 124) (r1 := 0) (r2 := 0) (r3 := 0) rfl rfl ?_
    refine wi_aload_n (i := 1) (x := 18) (nx := 125) (r1 := 0) (r2 := 0) (r3 := 0) rfl rfl ?_
    have b27 := gi_b (lo := -2147483648) (hi := 2147483647) g 18 11 rfl
    refine wr_gi0 (k0 := 18) (x := h 18 11) (nx := 128) (r1 := 4) (r2 := 11) (r3 := 0) rfl rfl (by decide) rfl ⟨rfl, rfl⟩ rfl ((u25 18 11 rfl).trans ((u22 18 11 rfl).trans ((u19 18 11 rfl).trans ((u16 18 11 rfl).trans ((u13 18 11 rfl).trans ((u11 18 11 rfl).trans ((u9 18 11 rfl).trans ((u6 18 11 rfl).trans ((u3 18 11 rfl).trans (u1 18 11 rfl)))))))))) ?_
    refine wr_pf0 (k0 := 132) (x := h 18 11) (bl := -2147483648) (bh := 2147483647) (nx := 131) (r1 := 4) (r2 := 11) (r3 := 0) rfl (by decide) rfl ⟨rfl, rfl⟩ rfl rfl g25 rfl (by omega) (fun h28 g28 w28 u28 => ?_)
    have F29 := F26.then rfl u28
    refine wi_aload_n (i := 0) (x := 132) (nx := 132) (r1 := 0) (r2 := 0) (r3 := 0) rfl rfl ?_
    refine wi_aload_n (i := 1) (x := 18) (nx := 133) (r1 := 0) (r2 := 0) (r3 := 0) rfl rfl ?_
    have b30 := gi_b (lo := -2147483648) (hi := 2147483647) g 18 12 rfl
    refine wr_gi0 (k0 := 18) (x := h 18 12) (nx := 136) (r1 := 4) (r2 := 12) (r3 := 0) rfl rfl (by decide) rfl ⟨rfl, rfl⟩ rfl ((u28 18 12 rfl).trans ((u25 18 12 rfl).trans ((u22 18 12 rfl).trans ((u19 18 12 rfl).trans ((u16 18 12 rfl).trans ((u13 18 12 rfl).trans ((u11 18 12 rfl).trans ((u9 18 12 rfl).trans ((u6 18 12 rfl).trans ((u3 18 12 rfl).trans (u1 18 12 rfl))))))))))) ?_
    refine wr_pf0 (k0 := 132) (x := h 18 12) (bl := -2147483648) (bh := 2147483647) (nx := 139) (r1 := 4) (r2 := 12) (r3 := 0) rfl (by decide) rfl ⟨rfl, rfl⟩ rfl rfl g28 rfl (by omega) (fun h31 g31 w31 u31 => ?_)
    have F32 := F29.then rfl u31
    refine wi_aload_n (i := 0) (x := 132) (nx := 140) (r1 := 0) (r2 := 0) (r3 := 0) rfl rfl ?_
    refine wi_aload_n (i := 1) (x := 18) (nx := 141) (r1 := 0) (r2 := 0) (r3 := 0) rfl rfl ?_
    have b33 := gi_b (lo := -2147483648) (hi := 2147483647) g 18 13 rfl
    refine wr_gi0 (k0 := 18) (x := h 18 13) (nx := 144) (r1 := 4) (r2 := 13) (r3 := 0) rfl rfl (by decide) rfl ⟨rfl, rfl⟩ rfl ((u31 18 13 rfl).trans ((u28 18 13 rfl).trans ((u25 18 13 rfl).trans ((u22 18 13 rfl).trans ((u19 18 13 rfl).trans ((u16 18 13 rfl).trans ((u13 18 13 rfl).trans ((u11 18 13 rfl).trans ((u9 18 13 rfl).trans ((u6 18 13 rfl).trans ((u3 18 13 rfl).trans (u1 18 13 rfl)))))))))))) ?_
    refine wr_pf0 (k0 := 132) (x := h 18 13) (bl := -2147483648) (bh := 2147483647) (nx := 147) (r1 := 4) (r2 := 13) (r3 := 0) rfl (by decide) rfl ⟨rfl, rfl⟩ rfl rfl g31 rfl (by omega) (fun h34 g34 w34 u34 => ?_)
    have F35 := F32.then rfl u34
    refine wi_aload_n (i := 1) (x := 18) (nx := 148) (r1 := 0) (r2 := 0) (r3 := 0) rfl rfl ?_
    refine wr_gr (k0 := 18) (x := 28) (nx := 151) (r1 := 4) (r2 := 14) (r3 := 0) rfl rfl (by decide) rfl ⟨rfl, rfl⟩ rfl ?_
    refine wi_iconst (n := 0) (nx := 152) (r1 := 0) (r2 := 0) (r3 := 0) rfl ?_
    refine wi_aload_n (i := 0) (x := 132) (nx := 153) (r1 := 0) (r2 := 0) (r3 := 0) rfl rfl ?_
    refine wr_gr (k0 := 132) (x := 142) (nx := 156) (r1 := 4) (r2 := 14) (r3 := 0) rfl rfl (by decide) rfl ⟨rfl, rfl⟩ rfl ?_
    refine wi_iconst (n := 0) (nx := 157) (r1 := 0) (r2 := 0) (r3 := 0) rfl ?_
    refine wi_aload_n (i := 0) (x := 132) (nx := 158) (r1 := 0) (r2 := 0) (r3 := 0) rfl rfl ?_
    refine wr_gr (k0 := 132) (x := 142) (nx := 161) (r1 := 4) (r2 := 14) (r3 := 0) rfl rfl (by decide) rfl ⟨rfl, rfl⟩ rfl ?_
    refine wr_al (k0 := 142) (e := 144) (nx := 162) (r1 := 0) (r2 := 0) (r3 := 0) rfl (by decide) rfl rfl ?_
    refine wr_cpy (s0 := 28) (d0 := 142) (n0 := 144) (n1 := 144) (sp := 0) (dp := 0) (n := 144) (sl := -2147483648) (sh := 2147483647) (dl := -2147483648) (dh := 2147483647) (nx := 165) (r1 := 0) (r2 := 101) (r3 := 0) rfl rfl (of_decide_eq_true rfl) (by decide) (by decide) rfl rfl (by omega) (fun _ => rfl) (fun _ => rfl) (by omega) g34 (fun h36 g36 y36 u36 => ?_)
    have F37 := F35.then rfl u36
    refine wi_aload_n (i := 0) (x := 132) (nx := 166) (r1 := 0) (r2 := 0) (r3 := 0) rfl rfl ?_
    refine wi_aload_n (i := 1) (x := 18) (nx := 167) (r1 := 0) (r2 := 0) (r3 := 0) rfl rfl ?_
    have b38 := gi_b (lo := 0) (hi := 36) g 18 15 rfl
    refine wr_gi0 (k0 := 18) (x := h 18 15) (nx := 170) (r1 := 4) (r2 := 15) (r3 := 0) rfl rfl (by decide) rfl ⟨rfl, rfl⟩ rfl ((u36 18 15 rfl).trans ((u34 18 15 rfl).trans ((u31 18 15 rfl).trans ((u28 18 15 rfl).trans ((u25 18 15 rfl).trans ((u22 18 15 rfl).trans ((u19 18 15 rfl).trans ((u16 18 15 rfl).trans ((u13 18 15 rfl).trans ((u11 18 15 rfl).trans ((u9 18 15 rfl).trans ((u6 18 15 rfl).trans ((u3 18 15 rfl).trans (u1 18 15 rfl)))))))))))))) ?_
    refine wr_pf0 (k0 := 132) (x := h 18 15) (bl := 0) (bh := 36) (nx := 173) (r1 := 4) (r2 := 15) (r3 := 0) rfl (by decide) rfl ⟨rfl, rfl⟩ rfl rfl g36 rfl (by omega) (fun h39 g39 w39 u39 => ?_)
    have F40 := F37.then rfl u39
    refine wi_aload_n (i := 0) (x := 132) (nx := 174) (r1 := 0) (r2 := 0) (r3 := 0) rfl rfl ?_
    refine wi_dup (nx := 175) (r1 := 0) (r2 := 0) (r3 := 0) rfl rfl ?_
    have b41 := gi_b (lo := -2147483648) (hi := 2147483647) g 132 16 rfl
    refine wr_gi0 (k0 := 132) (x := h 132 16) (nx := 178) (r1 := 4) (r2 := 16) (r3 := 0) rfl rfl (by decide) rfl ⟨rfl, rfl⟩ rfl ((u39 132 16 rfl).trans ((u36 132 16 rfl).trans ((u34 132 16 rfl).trans ((u31 132 16 rfl).trans ((u28 132 16 rfl).trans ((u25 132 16 rfl).trans ((u22 132 16 rfl).trans ((u19 132 16 rfl).trans ((u16 132 16 rfl).trans ((u13 132 16 rfl).trans ((u11 132 16 rfl).trans ((u9 132 16 rfl).trans ((u6 132 16 rfl).trans ((u3 132 16 rfl).trans (u1 132 16 rfl))))))))))))))) ?_
    refine wi_iconst (n := 1) (nx := 179) (r1 := 0) (r2 := 0) (r3 := 0) rfl ?_
    refine wr_addW (nx := 180) (r1 := 0) (r2 := 0) (r3 := 0) rfl (fun e42 (fe42 : -2147483648 ≤ e42 ∧ e42 ≤ 2147483647) => ?_)
    refine wr_pf0 (k0 := 132) (x := e42) (bl := -2147483648) (bh := 2147483647) (nx := 183) (r1 := 4) (r2 := 16) (r3 := 0) rfl (by decide) rfl ⟨rfl, rfl⟩ rfl rfl g39 rfl (by omega) (fun h43 g43 w43 u43 => ?_)
    have F44 := F40.then rfl u43
    refine wi_return (nx := 184) (r1 := 0) (r2 := 0) (r3 := 0) rfl rfl ?_
    exact k h43 g43 F44
  ·
    refine wi_aload_n (i := 0) (x := 132) (nx := 38) (r1 := 0) (r2 := 0) (r3 := 0) rfl rfl ?_
    refine wr_gr (k0 := 132) (x := 135) (nx := 41) (r1 := 4) (r2 := 3) (r3 := 0) rfl rfl (by decide) rfl ⟨rfl, rfl⟩ rfl ?_
    refine wi_iload_n (i := 2) (e := x5) (nx := 42) (r1 := 0) (r2 := 0) (r3 := 0) rfl rfl ?_
    obtain ⟨i9, ei9⟩ : ∃ q : Nat, x5 = (q : Int) := ⟨(x5).toNat, by omega⟩
    refine wr_aa (k0 := 135) (a := x5) (f := i9) (x := 135 + 8 + 2 * i9) (nx := 43) (r1 := 0) (r2 := 0) (r3 := 0) rfl (by decide) rfl (Or.inl rfl) (by omega) (by omega) (by decide) (hcr.1 135 (by decide) i9 (by omega)) ?_
    obtain ⟨k10, kk10, mk10⟩ : ∃ q, Rw q ∧ q = 135 + 8 + 2 * i9 := ⟨_, rw_lane 135 (by decide) i9 (by omega), rfl⟩
    rw [← mk10]
    refine wi_aload_n (i := 1) (x := 18) (nx := 44) (r1 := 0) (r2 := 0) (r3 := 0) rfl rfl ?_
    refine wr_gr (k0 := 18) (x := 21) (nx := 47) (r1 := 4) (r2 := 3) (r3 := 0) rfl rfl (by decide) rfl ⟨rfl, rfl⟩ rfl ?_
    refine wi_iload_n (i := 2) (e := x5) (nx := 48) (r1 := 0) (r2 := 0) (r3 := 0) rfl rfl ?_
    refine wr_aa (k0 := 21) (a := x5) (f := i9) (x := 21 + 8 + 2 * i9) (nx := 49) (r1 := 0) (r2 := 0) (r3 := 0) rfl (by decide) rfl (Or.inl rfl) (by omega) (by omega) (by decide) (hcr.1 21 (by decide) i9 (by omega)) ?_
    obtain ⟨k11, kk11, mk11⟩ : ∃ q, Rw q ∧ q = 21 + 8 + 2 * i9 := ⟨_, rw_lane 21 (by decide) i9 (by omega), rfl⟩
    rw [← mk11]
    refine wr_V (k0 := k10) (rest := []) (as := [.ref k10, .ref k11]) (nx := 52) (r1 := 155) (r2 := 1) (r3 := 5) rfl rfl rfl (of_decide_eq_true rfl) rfl rfl kk10.k kk10.1 rfl (of_decide_eq_true rfl) (of_decide_eq_true rfl) ?_
    refine ct_155_R_R hcr kk10 kk11 g6    (fun h12 g12 u12 => ?_)
    have v12 := FR.rngp (lo := 143) (hi := 150) u12 (by omega)
    have F13 := F7.then rfl (FR.rngp (lo := 143) (hi := 150) u12 (by omega))
    have F14 := u6.then rfl (FR.rngp (lo := 143) (hi := 150) u12 (by omega))
    refine wk_n ?_
    refine wr_iinc (i := 2) (n := 1) (v := x5) (fun e15 => [(2, vi e15), (0, .ref 132), (1, .ref 18)]) (nx := 55) (r1 := 0) (r2 := 0) (r3 := 0) rfl rfl (fun _ => rfl) (fun e15 (fe15 : e15 = x5 + 1) => ?_)
    refine wi_goto (nx := 58) (r1 := 32) (r2 := 0) (r3 := 0) rfl ?_
    refine wp.lo (lo := [(0, .ref 132), (1, .ref 18), (2, vi e15)]) ⟨rfl, rfl, rfl, trivial⟩ rfl ?_
    exact I6 e15 h12 ⟨g12, F13, F14, (show (0 ≤ e15 ∧ e15 ≤ 4) by omega)⟩ (show ((4 : Int) + 1 - e15).toNat < ((4 : Int) + 1 - x5).toNat by omega)
-- method 132: Line.copyFrom(LPaintBank$Line;)V
set_option maxRecDepth 100000 in
set_option maxHeartbeats 100000000 in
theorem ct_132_151_18 {L : Nat} {xs : Nat → Int32} {d b c : Nat} {h : hp} {cr : Nat → Nat → Option Nat} {Q : hp_Q} (hcr : CR cr)  (g : GI h)    (k : ∀ (h2 : hp) , GI h2 → FR [(75, 207, none)] h h2 → Q (.inl none) (hp_w h2 cr) b c) : wp (md_xa (L, xs)) (d + 1) 132 (0, [(0, .ref 151), (1, .ref 18)], [], hp_w h cr, b, c) Q := by
  have F0 : FR [(75, 207, none)] h h := FR.refl
  refine wi_aload_n (i := 1) (x := 18) (nx := 1) (r1 := 0) (r2 := 0) (r3 := 0) rfl rfl ?_
  refine wr_gr (k0 := 18) (x := 19) (nx := 4) (r1 := 4) (r2 := 1) (r3 := 0) rfl rfl (by decide) rfl ⟨rfl, rfl⟩ rfl ?_
  refine wi_iconst (n := 0) (nx := 5) (r1 := 0) (r2 := 0) (r3 := 0) rfl ?_
  refine wi_aload_n (i := 0) (x := 151) (nx := 6) (r1 := 0) (r2 := 0) (r3 := 0) rfl rfl ?_
  refine wr_gr (k0 := 151) (x := 152) (nx := 9) (r1 := 4) (r2 := 1) (r3 := 0) rfl rfl (by decide) rfl ⟨rfl, rfl⟩ rfl ?_
  refine wi_iconst (n := 0) (nx := 10) (r1 := 0) (r2 := 0) (r3 := 0) rfl ?_
  refine wi_bipush (n := 12) (nx := 12) (r1 := 0) (r2 := 0) (r3 := 0) rfl (by decide) ?_
  refine wr_cpy (s0 := 19) (d0 := 152) (n0 := 12) (n1 := 12) (sp := 0) (dp := 0) (n := 12) (sl := -2147483648) (sh := 2147483647) (dl := -2147483648) (dh := 2147483647) (nx := 15) (r1 := 0) (r2 := 101) (r3 := 0) rfl rfl (of_decide_eq_true rfl) (by decide) (by decide) rfl rfl (by omega) (fun _ => rfl) (fun _ => rfl) (by omega) g (fun h1 g1 y1 u1 => ?_)
  have F2 := F0.then rfl u1
  refine wi_aload_n (i := 1) (x := 18) (nx := 16) (r1 := 0) (r2 := 0) (r3 := 0) rfl rfl ?_
  refine wr_gr (k0 := 18) (x := 20) (nx := 19) (r1 := 4) (r2 := 2) (r3 := 0) rfl rfl (by decide) rfl ⟨rfl, rfl⟩ rfl ?_
  refine wi_iconst (n := 0) (nx := 20) (r1 := 0) (r2 := 0) (r3 := 0) rfl ?_
  refine wi_aload_n (i := 0) (x := 151) (nx := 21) (r1 := 0) (r2 := 0) (r3 := 0) rfl rfl ?_
  refine wr_gr (k0 := 151) (x := 153) (nx := 24) (r1 := 4) (r2 := 2) (r3 := 0) rfl rfl (by decide) rfl ⟨rfl, rfl⟩ rfl ?_
  refine wi_iconst (n := 0) (nx := 25) (r1 := 0) (r2 := 0) (r3 := 0) rfl ?_
  refine wi_bipush (n := 12) (nx := 27) (r1 := 0) (r2 := 0) (r3 := 0) rfl (by decide) ?_
  refine wr_cpy (s0 := 20) (d0 := 153) (n0 := 12) (n1 := 12) (sp := 0) (dp := 0) (n := 12) (sl := -2147483648) (sh := 2147483647) (dl := -2147483648) (dh := 2147483647) (nx := 30) (r1 := 0) (r2 := 101) (r3 := 0) rfl rfl (of_decide_eq_true rfl) (by decide) (by decide) rfl rfl (by omega) (fun _ => rfl) (fun _ => rfl) (by omega) g1 (fun h3 g3 y3 u3 => ?_)
  have F4 := F2.then rfl u3
  refine wi_iconst (n := 0) (nx := 31) (r1 := 0) (r2 := 0) (r3 := 0) rfl ?_
  refine wi_istore_n (i := 2) (e := 0) (lo2 := [(2, vi 0), (0, .ref 151), (1, .ref 18)]) (nx := 32) (r1 := 0) (r2 := 0) (r3 := 0) rfl rfl ?_
  refine wp.lo (lo := [(0, .ref 151), (1, .ref 18), (2, vi 0)]) ⟨rfl, rfl, rfl, trivial⟩ rfl ?_
  refine wl_1 (fun x5 h6 => GI h6 ∧ FR [(75, 207, none)] h h6 ∧ FR [(162, 169, none)] h3 h6 ∧ ((0 ≤ x5 ∧ x5 ≤ 4))) (fun x5 h6 => ((4 : Int) + 1 - x5).toNat) (fun x5 h6 => (32, [(0, .ref 151), (1, .ref 18), (2, vi x5)], [], hp_w h6 cr, b, c)) ?_ 0 h3 ⟨g3, F4, FR.refl, (show (0 ≤ 0 ∧ 0 ≤ 4) by omega)⟩
  intro x5 h6 ⟨g6, F7, u6, f6⟩ I6
  refine wi_iload_n (i := 2) (e := x5) (nx := 33) (r1 := 0) (r2 := 0) (r3 := 0) rfl rfl ?_
  refine wi_iconst (n := 4) (nx := 34) (r1 := 0) (r2 := 0) (r3 := 0) rfl ?_
  refine wi_icmp (cd := .ge) (nx := 37) (r1 := 58) (r2 := 0) (r3 := 0) rfl (by omega) (by omega) (fun (q8 : 4 ≤ x5) => ?_) (fun (q8 : ¬ (4 ≤ x5)) => ?_)
  ·
    refine wi_aload_n (i := 0) (x := 151) (nx := 59) (r1 := 0) (r2 := 0) (r3 := 0) rfl rfl ?_
    refine wr_gr (k0 := 151) (x := 155) (nx := 62) (r1 := 4) (r2 := 4) (r3 := 0) rfl rfl (by decide) rfl ⟨rfl, rfl⟩ rfl ?_
    refine wi_aload_n (i := 1) (x := 18) (nx := 63) (r1 := 0) (r2 := 0) (r3 := 0) rfl rfl ?_
    refine wr_gr (k0 := 18) (x := 22) (nx := 66) (r1 := 4) (r2 := 4) (r3 := 0) rfl rfl (by decide) rfl ⟨rfl, rfl⟩ rfl ?_
    refine wr_V (k0 := 155) (rest := []) (as := [.ref 155, .ref 22]) (nx := 69) (r1 := 155) (r2 := 1) (r3 := 5) rfl rfl rfl (of_decide_eq_true rfl) rfl rfl (by decide) rfl rfl (of_decide_eq_true rfl) (of_decide_eq_true rfl) ?_
    refine ct_155_R_R hcr rw_155 rw_22 g6    (fun h9 g9 u9 => ?_)
    have F10 := F7.then rfl u9
    refine wk_n ?_
    refine wi_aload_n (i := 0) (x := 151) (nx := 70) (r1 := 0) (r2 := 0) (r3 := 0) rfl rfl ?_
    refine wr_gr (k0 := 151) (x := 157) (nx := 73) (r1 := 4) (r2 := 5) (r3 := 0) rfl rfl (by decide) rfl ⟨rfl, rfl⟩ rfl ?_
    refine wi_aload_n (i := 1) (x := 18) (nx := 74) (r1 := 0) (r2 := 0) (r3 := 0) rfl rfl ?_
    refine wr_gr (k0 := 18) (x := 24) (nx := 77) (r1 := 4) (r2 := 5) (r3 := 0) rfl rfl (by decide) rfl ⟨rfl, rfl⟩ rfl ?_
    refine wr_V (k0 := 157) (rest := []) (as := [.ref 157, .ref 24]) (nx := 80) (r1 := 155) (r2 := 1) (r3 := 5) rfl rfl rfl (of_decide_eq_true rfl) rfl rfl (by decide) rfl rfl (of_decide_eq_true rfl) (of_decide_eq_true rfl) ?_
    refine ct_155_R_R hcr rw_157 rw_24 g9    (fun h11 g11 u11 => ?_)
    have F12 := F10.then rfl u11
    refine wk_n ?_
    refine wi_aload_n (i := 0) (x := 151) (nx := 81) (r1 := 0) (r2 := 0) (r3 := 0) rfl rfl ?_
    refine wr_gr (k0 := 151) (x := 159) (nx := 84) (r1 := 4) (r2 := 6) (r3 := 0) rfl rfl (by decide) rfl ⟨rfl, rfl⟩ rfl ?_
    refine wi_aload_n (i := 1) (x := 18) (nx := 85) (r1 := 0) (r2 := 0) (r3 := 0) rfl rfl ?_
    refine wr_gr (k0 := 18) (x := 26) (nx := 88) (r1 := 4) (r2 := 6) (r3 := 0) rfl rfl (by decide) rfl ⟨rfl, rfl⟩ rfl ?_
    refine wr_V (k0 := 159) (rest := []) (as := [.ref 159, .ref 26]) (nx := 91) (r1 := 155) (r2 := 1) (r3 := 5) rfl rfl rfl (of_decide_eq_true rfl) rfl rfl (by decide) rfl rfl (of_decide_eq_true rfl) (of_decide_eq_true rfl) ?_
    refine ct_155_R_R hcr rw_159 rw_26 g11    (fun h13 g13 u13 => ?_)
    have F14 := F12.then rfl u13
    refine wk_n ?_
    refine wi_aload_n (i := 0) (x := 151) (nx := 92) (r1 := 0) (r2 := 0) (r3 := 0) rfl rfl ?_
    refine wi_aload_n (i := 1) (x := 18) (nx := 93) (r1 := 0) (r2 := 0) (r3 := 0) rfl rfl ?_
    have b15 := gi_b (lo := 0) (hi := 12) g 18 7 rfl
    refine wr_gi0 (k0 := 18) (x := h 18 7) (nx := 96) (r1 := 4) (r2 := 7) (r3 := 0) rfl rfl (by decide) rfl ⟨rfl, rfl⟩ rfl ((u13 18 7 rfl).trans ((u11 18 7 rfl).trans ((u9 18 7 rfl).trans ((u6 18 7 rfl).trans ((u3 18 7 rfl).trans (u1 18 7 rfl)))))) ?_
    refine wr_pf0 (k0 := 151) (x := h 18 7) (bl := 0) (bh := 12) (nx := 99) (r1 := 4) (r2 := 7) (r3 := 0) rfl (by decide) rfl ⟨rfl, rfl⟩ rfl rfl g13 rfl (by omega) (fun h16 g16 w16 u16 => ?_)
    have F17 := F14.then rfl u16
    refine wi_aload_n (i := 0) (x := 151) (nx := 100) (r1 := 0) (r2 := 0) (r3 := 0) rfl rfl ?_
    refine wi_aload_n (i := 1) (x := 18) (nx := 101) (r1 := 0) (r2 := 0) (r3 := 0) rfl rfl ?_
    have b18 := gi_b (lo := -2147483648) (hi := 2147483647) g 18 8 rfl
    refine wr_gi0 (k0 := 18) (x := h 18 8) (nx := 104) (r1 := 4) (r2 := 8) (r3 := 0) rfl rfl (by decide) rfl ⟨rfl, rfl⟩ rfl ((u16 18 8 rfl).trans ((u13 18 8 rfl).trans ((u11 18 8 rfl).trans ((u9 18 8 rfl).trans ((u6 18 8 rfl).trans ((u3 18 8 rfl).trans (u1 18 8 rfl))))))) ?_
    refine wr_pf0 (k0 := 151) (x := h 18 8) (bl := -2147483648) (bh := 2147483647) (nx := 107) (r1 := 4) (r2 := 8) (r3 := 0) rfl (by decide) rfl ⟨rfl, rfl⟩ rfl rfl g16 rfl (by omega) (fun h19 g19 w19 u19 => ?_)
    have F20 := F17.then rfl u19
    refine wi_aload_n (i := 0) (x := 151) (nx := 108) (r1 := 0) (r2 := 0) (r3 := 0) rfl rfl ?_
    refine wi_aload_n (i := 1) (x := 18) (nx := 109) (r1 := 0) (r2 := 0) (r3 := 0) rfl rfl ?_
    have b21 := gi_b (lo := -2147483648) (hi := 2147483647) g 18 9 rfl
    refine wr_gi0 (k0 := 18) (x := h 18 9) (nx := 112) (r1 := 4) (r2 := 9) (r3 := 0) rfl rfl (by decide) rfl ⟨rfl, rfl⟩ rfl ((u19 18 9 rfl).trans ((u16 18 9 rfl).trans ((u13 18 9 rfl).trans ((u11 18 9 rfl).trans ((u9 18 9 rfl).trans ((u6 18 9 rfl).trans ((u3 18 9 rfl).trans (u1 18 9 rfl)))))))) ?_
    refine wr_pf0 (k0 := 151) (x := h 18 9) (bl := -2147483648) (bh := 2147483647) (nx := 115) (r1 := 4) (r2 := 9) (r3 := 0) rfl (by decide) rfl ⟨rfl, rfl⟩ rfl rfl g19 rfl (by omega) (fun h22 g22 w22 u22 => ?_)
    have F23 := F20.then rfl u22
    refine wi_aload_n (i := 0) (x := 151) (nx := 116) (r1 := 0) (r2 := 0) (r3 := 0) rfl rfl ?_
    refine wi_aload_n (i := 1) (x := 18) (nx := 117) (r1 := 0) (r2 := 0) (r3 := 0) rfl rfl ?_
    have b24 := gi_b (lo := -2147483648) (hi := 2147483647) g 18 10 rfl
    refine wr_gi0 (k0 := 18) (x := h 18 10) (nx := 120) (r1 := 4) (r2 := 10) (r3 := 0) rfl rfl (by decide) rfl ⟨rfl, rfl⟩ rfl ((u22 18 10 rfl).trans ((u19 18 10 rfl).trans ((u16 18 10 rfl).trans ((u13 18 10 rfl).trans ((u11 18 10 rfl).trans ((u9 18 10 rfl).trans ((u6 18 10 rfl).trans ((u3 18 10 rfl).trans (u1 18 10 rfl))))))))) ?_
    refine wr_pf0 (k0 := 151) (x := h 18 10) (bl := -2147483648) (bh := 2147483647) (nx := 123) (r1 := 4) (r2 := 10) (r3 := 0) rfl (by decide) rfl ⟨rfl, rfl⟩ rfl rfl g22 rfl (by omega) (fun h25 g25 w25 u25 => ?_)
    have F26 := F23.then rfl u25
    refine wi_aload_n (i := 0) (x := 151) (nx := 124) (r1 := 0) (r2 := 0) (r3 := 0) rfl rfl ?_
    refine wi_aload_n (i := 1) (x := 18) (nx := 125) (r1 := 0) (r2 := 0) (r3 := 0) rfl rfl ?_
    have b27 := gi_b (lo := -2147483648) (hi := 2147483647) g 18 11 rfl
    refine wr_gi0 (k0 := 18) (x := h 18 11) (nx := 128) (r1 := 4) (r2 := 11) (r3 := 0) rfl rfl (by decide) rfl ⟨rfl, rfl⟩ rfl ((u25 18 11 rfl).trans ((u22 18 11 rfl).trans ((u19 18 11 rfl).trans ((u16 18 11 rfl).trans ((u13 18 11 rfl).trans ((u11 18 11 rfl).trans ((u9 18 11 rfl).trans ((u6 18 11 rfl).trans ((u3 18 11 rfl).trans (u1 18 11 rfl)))))))))) ?_
    refine wr_pf0 (k0 := 151) (x := h 18 11) (bl := -2147483648) (bh := 2147483647) (nx := 131) (r1 := 4) (r2 := 11) (r3 := 0) rfl (by decide) rfl ⟨rfl, rfl⟩ rfl rfl g25 rfl (by omega) (fun h28 g28 w28 u28 => ?_)
    have F29 := F26.then rfl u28
    refine wi_aload_n (i := 0) (x := 151) (nx := 132) (r1 := 0) (r2 := 0) (r3 := 0) rfl rfl ?_
    refine wi_aload_n (i := 1) (x := 18) (nx := 133) (r1 := 0) (r2 := 0) (r3 := 0) rfl rfl ?_
    have b30 := gi_b (lo := -2147483648) (hi := 2147483647) g 18 12 rfl
    refine wr_gi0 (k0 := 18) (x := h 18 12) (nx := 136) (r1 := 4) (r2 := 12) (r3 := 0) rfl rfl (by decide) rfl ⟨rfl, rfl⟩ rfl ((u28 18 12 rfl).trans ((u25 18 12 rfl).trans ((u22 18 12 rfl).trans ((u19 18 12 rfl).trans ((u16 18 12 rfl).trans ((u13 18 12 rfl).trans ((u11 18 12 rfl).trans ((u9 18 12 rfl).trans ((u6 18 12 rfl).trans ((u3 18 12 rfl).trans (u1 18 12 rfl))))))))))) ?_
    refine wr_pf0 (k0 := 151) (x := h 18 12) (bl := -2147483648) (bh := 2147483647) (nx := 139) (r1 := 4) (r2 := 12) (r3 := 0) rfl (by decide) rfl ⟨rfl, rfl⟩ rfl rfl g28 rfl (by omega) (fun h31 g31 w31 u31 => ?_)
    have F32 := F29.then rfl u31
    refine wi_aload_n (i := 0) (x := 151) (nx := 140) (r1 := 0) (r2 := 0) (r3 := 0) rfl rfl ?_
    refine wi_aload_n (i := 1) (x := 18) (nx := 141) (r1 := 0) (r2 := 0) (r3 := 0) rfl rfl ?_
    have b33 := gi_b (lo := -2147483648) (hi := 2147483647) g 18 13 rfl
    refine wr_gi0 (k0 := 18) (x := h 18 13) (nx := 144) (r1 := 4) (r2 := 13) (r3 := 0) rfl rfl (by decide) rfl ⟨rfl, rfl⟩ rfl ((u31 18 13 rfl).trans ((u28 18 13 rfl).trans ((u25 18 13 rfl).trans ((u22 18 13 rfl).trans ((u19 18 13 rfl).trans ((u16 18 13 rfl).trans ((u13 18 13 rfl).trans ((u11 18 13 rfl).trans ((u9 18 13 rfl).trans ((u6 18 13 rfl).trans ((u3 18 13 rfl).trans (u1 18 13 rfl)))))))))))) ?_
    refine wr_pf0 (k0 := 151) (x := h 18 13) (bl := -2147483648) (bh := 2147483647) (nx := 147) (r1 := 4) (r2 := 13) (r3 := 0) rfl (by decide) rfl ⟨rfl, rfl⟩ rfl rfl g31 rfl (by omega) (fun h34 g34 w34 u34 => ?_)
    have F35 := F32.then rfl u34
    refine wi_aload_n (i := 1) (x := 18) (nx := 148) (r1 := 0) (r2 := 0) (r3 := 0) rfl rfl ?_
    refine wr_gr (k0 := 18) (x := 28) (nx := 151) (r1 := 4) (r2 := 14) (r3 := 0) rfl rfl (by decide) rfl ⟨rfl, rfl⟩ rfl ?_
    refine wi_iconst (n := 0) (nx := 152) (r1 := 0) (r2 := 0) (r3 := 0) rfl ?_
    refine wi_aload_n (i := 0) (x := 151) (nx := 153) (r1 := 0) (r2 := 0) (r3 := 0) rfl rfl ?_
    refine wr_gr (k0 := 151) (x := 161) (nx := 156) (r1 := 4) (r2 := 14) (r3 := 0) rfl rfl (by decide) rfl ⟨rfl, rfl⟩ rfl ?_
    refine wi_iconst (n := 0) (nx := 157) (r1 := 0) (r2 := 0) (r3 := 0) rfl ?_
    refine wi_aload_n (i := 0) (x := 151) (nx := 158) (r1 := 0) (r2 := 0) (r3 := 0) rfl rfl ?_
    refine wr_gr (k0 := 151) (x := 161) (nx := 161) (r1 := 4) (r2 := 14) (r3 := 0) rfl rfl (by decide) rfl ⟨rfl, rfl⟩ rfl ?_
    refine wr_al (k0 := 161) (e := 144) (nx := 162) (r1 := 0) (r2 := 0) (r3 := 0) rfl (by decide) rfl rfl ?_
    refine wr_cpy (s0 := 28) (d0 := 161) (n0 := 144) (n1 := 144) (sp := 0) (dp := 0) (n := 144) (sl := -2147483648) (sh := 2147483647) (dl := -2147483648) (dh := 2147483647) (nx := 165) (r1 := 0) (r2 := 101) (r3 := 0) rfl rfl (of_decide_eq_true rfl) (by decide) (by decide) rfl rfl (by omega) (fun _ => rfl) (fun _ => rfl) (by omega) g34 (fun h36 g36 y36 u36 => ?_)
    have F37 := F35.then rfl u36
    refine wi_aload_n (i := 0) (x := 151) (nx := 166) (r1 := 0) (r2 := 0) (r3 := 0) rfl rfl ?_
    refine wi_aload_n (i := 1) (x := 18) (nx := 167) (r1 := 0) (r2 := 0) (r3 := 0) rfl rfl ?_
    have b38 := gi_b (lo := 0) (hi := 36) g 18 15 rfl
    refine wr_gi0 (k0 := 18) (x := h 18 15) (nx := 170) (r1 := 4) (r2 := 15) (r3 := 0) rfl rfl (by decide) rfl ⟨rfl, rfl⟩ rfl ((u36 18 15 rfl).trans ((u34 18 15 rfl).trans ((u31 18 15 rfl).trans ((u28 18 15 rfl).trans ((u25 18 15 rfl).trans ((u22 18 15 rfl).trans ((u19 18 15 rfl).trans ((u16 18 15 rfl).trans ((u13 18 15 rfl).trans ((u11 18 15 rfl).trans ((u9 18 15 rfl).trans ((u6 18 15 rfl).trans ((u3 18 15 rfl).trans (u1 18 15 rfl)))))))))))))) ?_
    refine wr_pf0 (k0 := 151) (x := h 18 15) (bl := 0) (bh := 36) (nx := 173) (r1 := 4) (r2 := 15) (r3 := 0) rfl (by decide) rfl ⟨rfl, rfl⟩ rfl rfl g36 rfl (by omega) (fun h39 g39 w39 u39 => ?_)
    have F40 := F37.then rfl u39
    refine wi_aload_n (i := 0) (x := 151) (nx := 174) (r1 := 0) (r2 := 0) (r3 := 0) rfl rfl ?_
    refine wi_dup (nx := 175) (r1 := 0) (r2 := 0) (r3 := 0) rfl rfl ?_
    have b41 := gi_b (lo := -2147483648) (hi := 2147483647) g 151 16 rfl
    refine wr_gi0 (k0 := 151) (x := h 151 16) (nx := 178) (r1 := 4) (r2 := 16) (r3 := 0) rfl rfl (by decide) rfl ⟨rfl, rfl⟩ rfl ((u39 151 16 rfl).trans ((u36 151 16 rfl).trans ((u34 151 16 rfl).trans ((u31 151 16 rfl).trans ((u28 151 16 rfl).trans ((u25 151 16 rfl).trans ((u22 151 16 rfl).trans ((u19 151 16 rfl).trans ((u16 151 16 rfl).trans ((u13 151 16 rfl).trans ((u11 151 16 rfl).trans ((u9 151 16 rfl).trans ((u6 151 16 rfl).trans ((u3 151 16 rfl).trans (u1 151 16 rfl))))))))))))))) ?_
    refine wi_iconst (n := 1) (nx := 179) (r1 := 0) (r2 := 0) (r3 := 0) rfl ?_
    refine wr_addW (nx := 180) (r1 := 0) (r2 := 0) (r3 := 0) rfl (fun e42 (fe42 : -2147483648 ≤ e42 ∧ e42 ≤ 2147483647) => ?_)
    refine wr_pf0 (k0 := 151) (x := e42) (bl := -2147483648) (bh := 2147483647) (nx := 183) (r1 := 4) (r2 := 16) (r3 := 0) rfl (by decide) rfl ⟨rfl, rfl⟩ rfl rfl g39 rfl (by omega) (fun h43 g43 w43 u43 => ?_)
    have F44 := F40.then rfl u43
    refine wi_return (nx := 184) (r1 := 0) (r2 := 0) (r3 := 0) rfl rfl ?_
    exact k h43 g43 F44
  ·
    refine wi_aload_n (i := 0) (x := 151) (nx := 38) (r1 := 0) (r2 := 0) (r3 := 0) rfl rfl ?_
    refine wr_gr (k0 := 151) (x := 154) (nx := 41) (r1 := 4) (r2 := 3) (r3 := 0) rfl rfl (by decide) rfl ⟨rfl, rfl⟩ rfl ?_
    refine wi_iload_n (i := 2) (e := x5) (nx := 42) (r1 := 0) (r2 := 0) (r3 := 0) rfl rfl ?_
    obtain ⟨i9, ei9⟩ : ∃ q : Nat, x5 = (q : Int) := ⟨(x5).toNat, by omega⟩
    refine wr_aa (k0 := 154) (a := x5) (f := i9) (x := 154 + 8 + 2 * i9) (nx := 43) (r1 := 0) (r2 := 0) (r3 := 0) rfl (by decide) rfl (Or.inl rfl) (by omega) (by omega) (by decide) (hcr.1 154 (by decide) i9 (by omega)) ?_
    obtain ⟨k10, kk10, mk10⟩ : ∃ q, Rw q ∧ q = 154 + 8 + 2 * i9 := ⟨_, rw_lane 154 (by decide) i9 (by omega), rfl⟩
    rw [← mk10]
    refine wi_aload_n (i := 1) (x := 18) (nx := 44) (r1 := 0) (r2 := 0) (r3 := 0) rfl rfl ?_
    refine wr_gr (k0 := 18) (x := 21) (nx := 47) (r1 := 4) (r2 := 3) (r3 := 0) rfl rfl (by decide) rfl ⟨rfl, rfl⟩ rfl ?_
    refine wi_iload_n (i := 2) (e := x5) (nx := 48) (r1 := 0) (r2 := 0) (r3 := 0) rfl rfl ?_
    refine wr_aa (k0 := 21) (a := x5) (f := i9) (x := 21 + 8 + 2 * i9) (nx := 49) (r1 := 0) (r2 := 0) (r3 := 0) rfl (by decide) rfl (Or.inl rfl) (by omega) (by omega) (by decide) (hcr.1 21 (by decide) i9 (by omega)) ?_
    obtain ⟨k11, kk11, mk11⟩ : ∃ q, Rw q ∧ q = 21 + 8 + 2 * i9 := ⟨_, rw_lane 21 (by decide) i9 (by omega), rfl⟩
    rw [← mk11]
    refine wr_V (k0 := k10) (rest := []) (as := [.ref k10, .ref k11]) (nx := 52) (r1 := 155) (r2 := 1) (r3 := 5) rfl rfl rfl (of_decide_eq_true rfl) rfl rfl kk10.k kk10.1 rfl (of_decide_eq_true rfl) (of_decide_eq_true rfl) ?_
    refine ct_155_R_R hcr kk10 kk11 g6    (fun h12 g12 u12 => ?_)
    have v12 := FR.rngp (lo := 162) (hi := 169) u12 (by omega)
    have F13 := F7.then rfl (FR.rngp (lo := 162) (hi := 169) u12 (by omega))
    have F14 := u6.then rfl (FR.rngp (lo := 162) (hi := 169) u12 (by omega))
    refine wk_n ?_
    refine wr_iinc (i := 2) (n := 1) (v := x5) (fun e15 => [(2, vi e15), (0, .ref 151), (1, .ref 18)]) (nx := 55) (r1 := 0) (r2 := 0) (r3 := 0) rfl rfl (fun _ => rfl) (fun e15 (fe15 : e15 = x5 + 1) => ?_)
    refine wi_goto (nx := 58) (r1 := 32) (r2 := 0) (r3 := 0) rfl ?_
    refine wp.lo (lo := [(0, .ref 151), (1, .ref 18), (2, vi e15)]) ⟨rfl, rfl, rfl, trivial⟩ rfl ?_
    exact I6 e15 h12 ⟨g12, F13, F14, (show (0 ≤ e15 ∧ e15 ≤ 4) by omega)⟩ (show ((4 : Int) + 1 - e15).toNat < ((4 : Int) + 1 - x5).toNat by omega)
-- method 132: Line.copyFrom(LPaintBank$Line;)V
set_option maxRecDepth 100000 in
set_option maxHeartbeats 100000000 in
theorem ct_132_170_18 {L : Nat} {xs : Nat → Int32} {d b c : Nat} {h : hp} {cr : Nat → Nat → Option Nat} {Q : hp_Q} (hcr : CR cr)  (g : GI h)    (k : ∀ (h2 : hp) , GI h2 → FR [(75, 207, none)] h h2 → Q (.inl none) (hp_w h2 cr) b c) : wp (md_xa (L, xs)) (d + 1) 132 (0, [(0, .ref 170), (1, .ref 18)], [], hp_w h cr, b, c) Q := by
  have F0 : FR [(75, 207, none)] h h := FR.refl
  refine wi_aload_n (i := 1) (x := 18) (nx := 1) (r1 := 0) (r2 := 0) (r3 := 0) rfl rfl ?_
  refine wr_gr (k0 := 18) (x := 19) (nx := 4) (r1 := 4) (r2 := 1) (r3 := 0) rfl rfl (by decide) rfl ⟨rfl, rfl⟩ rfl ?_
  refine wi_iconst (n := 0) (nx := 5) (r1 := 0) (r2 := 0) (r3 := 0) rfl ?_
  refine wi_aload_n (i := 0) (x := 170) (nx := 6) (r1 := 0) (r2 := 0) (r3 := 0) rfl rfl ?_
  refine wr_gr (k0 := 170) (x := 171) (nx := 9) (r1 := 4) (r2 := 1) (r3 := 0) rfl rfl (by decide) rfl ⟨rfl, rfl⟩ rfl ?_
  refine wi_iconst (n := 0) (nx := 10) (r1 := 0) (r2 := 0) (r3 := 0) rfl ?_
  refine wi_bipush (n := 12) (nx := 12) (r1 := 0) (r2 := 0) (r3 := 0) rfl (by decide) ?_
  refine wr_cpy (s0 := 19) (d0 := 171) (n0 := 12) (n1 := 12) (sp := 0) (dp := 0) (n := 12) (sl := -2147483648) (sh := 2147483647) (dl := -2147483648) (dh := 2147483647) (nx := 15) (r1 := 0) (r2 := 101) (r3 := 0) rfl rfl (of_decide_eq_true rfl) (by decide) (by decide) rfl rfl (by omega) (fun _ => rfl) (fun _ => rfl) (by omega) g (fun h1 g1 y1 u1 => ?_)
  have F2 := F0.then rfl u1
  refine wi_aload_n (i := 1) (x := 18) (nx := 16) (r1 := 0) (r2 := 0) (r3 := 0) rfl rfl ?_
  refine wr_gr (k0 := 18) (x := 20) (nx := 19) (r1 := 4) (r2 := 2) (r3 := 0) rfl rfl (by decide) rfl ⟨rfl, rfl⟩ rfl ?_
  refine wi_iconst (n := 0) (nx := 20) (r1 := 0) (r2 := 0) (r3 := 0) rfl ?_
  refine wi_aload_n (i := 0) (x := 170) (nx := 21) (r1 := 0) (r2 := 0) (r3 := 0) rfl rfl ?_
  refine wr_gr (k0 := 170) (x := 172) (nx := 24) (r1 := 4) (r2 := 2) (r3 := 0) rfl rfl (by decide) rfl ⟨rfl, rfl⟩ rfl ?_
  refine wi_iconst (n := 0) (nx := 25) (r1 := 0) (r2 := 0) (r3 := 0) rfl ?_
  refine wi_bipush (n := 12) (nx := 27) (r1 := 0) (r2 := 0) (r3 := 0) rfl (by decide) ?_
  refine wr_cpy (s0 := 20) (d0 := 172) (n0 := 12) (n1 := 12) (sp := 0) (dp := 0) (n := 12) (sl := -2147483648) (sh := 2147483647) (dl := -2147483648) (dh := 2147483647) (nx := 30) (r1 := 0) (r2 := 101) (r3 := 0) rfl rfl (of_decide_eq_true rfl) (by decide) (by decide) rfl rfl (by omega) (fun _ => rfl) (fun _ => rfl) (by omega) g1 (fun h3 g3 y3 u3 => ?_)
  have F4 := F2.then rfl u3
  refine wi_iconst (n := 0) (nx := 31) (r1 := 0) (r2 := 0) (r3 := 0) rfl ?_
  refine wi_istore_n (i := 2) (e := 0) (lo2 := [(2, vi 0), (0, .ref 170), (1, .ref 18)]) (nx := 32) (r1 := 0) (r2 := 0) (r3 := 0) rfl rfl ?_
  refine wp.lo (lo := [(0, .ref 170), (1, .ref 18), (2, vi 0)]) ⟨rfl, rfl, rfl, trivial⟩ rfl ?_
  refine wl_1 (fun x5 h6 => GI h6 ∧ FR [(75, 207, none)] h h6 ∧ FR [(181, 188, none)] h3 h6 ∧ ((0 ≤ x5 ∧ x5 ≤ 4))) (fun x5 h6 => ((4 : Int) + 1 - x5).toNat) (fun x5 h6 => (32, [(0, .ref 170), (1, .ref 18), (2, vi x5)], [], hp_w h6 cr, b, c)) ?_ 0 h3 ⟨g3, F4, FR.refl, (show (0 ≤ 0 ∧ 0 ≤ 4) by omega)⟩
  intro x5 h6 ⟨g6, F7, u6, f6⟩ I6
  refine wi_iload_n (i := 2) (e := x5) (nx := 33) (r1 := 0) (r2 := 0) (r3 := 0) rfl rfl ?_
  refine wi_iconst (n := 4) (nx := 34) (r1 := 0) (r2 := 0) (r3 := 0) rfl ?_
  refine wi_icmp (cd := .ge) (nx := 37) (r1 := 58) (r2 := 0) (r3 := 0) rfl (by omega) (by omega) (fun (q8 : 4 ≤ x5) => ?_) (fun (q8 : ¬ (4 ≤ x5)) => ?_)
  ·
    refine wi_aload_n (i := 0) (x := 170) (nx := 59) (r1 := 0) (r2 := 0) (r3 := 0) rfl rfl ?_
    refine wr_gr (k0 := 170) (x := 174) (nx := 62) (r1 := 4) (r2 := 4) (r3 := 0) rfl rfl (by decide) rfl ⟨rfl, rfl⟩ rfl ?_
    refine wi_aload_n (i := 1) (x := 18) (nx := 63) (r1 := 0) (r2 := 0) (r3 := 0) rfl rfl ?_
    refine wr_gr (k0 := 18) (x := 22) (nx := 66) (r1 := 4) (r2 := 4) (r3 := 0) rfl rfl (by decide) rfl ⟨rfl, rfl⟩ rfl ?_
    refine wr_V (k0 := 174) (rest := []) (as := [.ref 174, .ref 22]) (nx := 69) (r1 := 155) (r2 := 1) (r3 := 5) rfl rfl rfl (of_decide_eq_true rfl) rfl rfl (by decide) rfl rfl (of_decide_eq_true rfl) (of_decide_eq_true rfl) ?_
    refine ct_155_R_R hcr rw_174 rw_22 g6    (fun h9 g9 u9 => ?_)
    have F10 := F7.then rfl u9
    refine wk_n ?_
    refine wi_aload_n (i := 0) (x := 170) (nx := 70) (r1 := 0) (r2 := 0) (r3 := 0) rfl rfl ?_
    refine wr_gr (k0 := 170) (x := 176) (nx := 73) (r1 := 4) (r2 := 5) (r3 := 0) rfl rfl (by decide) rfl ⟨rfl, rfl⟩ rfl ?_
    refine wi_aload_n (i := 1) (x := 18) (nx := 74) (r1 := 0) (r2 := 0) (r3 := 0) rfl rfl ?_
    refine wr_gr (k0 := 18) (x := 24) (nx := 77) (r1 := 4) (r2 := 5) (r3 := 0) rfl rfl (by decide) rfl ⟨rfl, rfl⟩ rfl ?_
    refine wr_V (k0 := 176) (rest := []) (as := [.ref 176, .ref 24]) (nx := 80) (r1 := 155) (r2 := 1) (r3 := 5) rfl rfl rfl (of_decide_eq_true rfl) rfl rfl (by decide) rfl rfl (of_decide_eq_true rfl) (of_decide_eq_true rfl) ?_
    refine ct_155_R_R hcr rw_176 rw_24 g9    (fun h11 g11 u11 => ?_)
    have F12 := F10.then rfl u11
    refine wk_n ?_
    refine wi_aload_n (i := 0) (x := 170) (nx := 81) (r1 := 0) (r2 := 0) (r3 := 0) rfl rfl ?_
    refine wr_gr (k0 := 170) (x := 178) (nx := 84) (r1 := 4) (r2 := 6) (r3 := 0) rfl rfl (by decide) rfl ⟨rfl, rfl⟩ rfl ?_
    refine wi_aload_n (i := 1) (x := 18) (nx := 85) (r1 := 0) (r2 := 0) (r3 := 0) rfl rfl ?_
    refine wr_gr (k0 := 18) (x := 26) (nx := 88) (r1 := 4) (r2 := 6) (r3 := 0) rfl rfl (by decide) rfl ⟨rfl, rfl⟩ rfl ?_
    refine wr_V (k0 := 178) (rest := []) (as := [.ref 178, .ref 26]) (nx := 91) (r1 := 155) (r2 := 1) (r3 := 5) rfl rfl rfl (of_decide_eq_true rfl) rfl rfl (by decide) rfl rfl (of_decide_eq_true rfl) (of_decide_eq_true rfl) ?_
    refine ct_155_R_R hcr rw_178 rw_26 g11    (fun h13 g13 u13 => ?_)
    have F14 := F12.then rfl u13
    refine wk_n ?_
    refine wi_aload_n (i := 0) (x := 170) (nx := 92) (r1 := 0) (r2 := 0) (r3 := 0) rfl rfl ?_
    refine wi_aload_n (i := 1) (x := 18) (nx := 93) (r1 := 0) (r2 := 0) (r3 := 0) rfl rfl ?_
    have b15 := gi_b (lo := 0) (hi := 12) g 18 7 rfl
    refine wr_gi0 (k0 := 18) (x := h 18 7) (nx := 96) (r1 := 4) (r2 := 7) (r3 := 0) rfl rfl (by decide) rfl ⟨rfl, rfl⟩ rfl ((u13 18 7 rfl).trans ((u11 18 7 rfl).trans ((u9 18 7 rfl).trans ((u6 18 7 rfl).trans ((u3 18 7 rfl).trans (u1 18 7 rfl)))))) ?_
    refine wr_pf0 (k0 := 170) (x := h 18 7) (bl := 0) (bh := 12) (nx := 99) (r1 := 4) (r2 := 7) (r3 := 0) rfl (by decide) rfl ⟨rfl, rfl⟩ rfl rfl g13 rfl (by omega) (fun h16 g16 w16 u16 => ?_)
    have F17 := F14.then rfl u16
    refine wi_aload_n (i := 0) (x := 170) (nx := 100) (r1 := 0) (r2 := 0) (r3 := 0) rfl rfl ?_
    refine wi_aload_n (i := 1) (x := 18) (nx := 101) (r1 := 0) (r2 := 0) (r3 := 0) rfl rfl ?_
    have b18 := gi_b (lo := -2147483648) (hi := 2147483647) g 18 8 rfl
    refine wr_gi0 (k0 := 18) (x := h 18 8) (nx := 104) (r1 := 4) (r2 := 8) (r3 := 0) rfl rfl (by decide) rfl ⟨rfl, rfl⟩ rfl ((u16 18 8 rfl).trans ((u13 18 8 rfl).trans ((u11 18 8 rfl).trans ((u9 18 8 rfl).trans ((u6 18 8 rfl).trans ((u3 18 8 rfl).trans (u1 18 8 rfl))))))) ?_
    refine wr_pf0 (k0 := 170) (x := h 18 8) (bl := -2147483648) (bh := 2147483647) (nx := 107) (r1 := 4) (r2 := 8) (r3 := 0) rfl (by decide) rfl ⟨rfl, rfl⟩ rfl rfl g16 rfl (by omega) (fun h19 g19 w19 u19 => ?_)
    have F20 := F17.then rfl u19
    refine wi_aload_n (i := 0) (x := 170) (nx := 108) (r1 := 0) (r2 := 0) (r3 := 0) rfl rfl ?_
    refine wi_aload_n (i := 1) (x := 18) (nx := 109) (r1 := 0) (r2 := 0) (r3 := 0) rfl rfl ?_
    have b21 := gi_b (lo := -2147483648) (hi := 2147483647) g 18 9 rfl
    refine wr_gi0 (k0 := 18) (x := h 18 9) (nx := 112) (r1 := 4) (r2 := 9) (r3 := 0) rfl rfl (by decide) rfl ⟨rfl, rfl⟩ rfl ((u19 18 9 rfl).trans ((u16 18 9 rfl).trans ((u13 18 9 rfl).trans ((u11 18 9 rfl).trans ((u9 18 9 rfl).trans ((u6 18 9 rfl).trans ((u3 18 9 rfl).trans (u1 18 9 rfl)))))))) ?_
    refine wr_pf0 (k0 := 170) (x := h 18 9) (bl := -2147483648) (bh := 2147483647) (nx := 115) (r1 := 4) (r2 := 9) (r3 := 0) rfl (by decide) rfl ⟨rfl, rfl⟩ rfl rfl g19 rfl (by omega) (fun h22 g22 w22 u22 => ?_)
    have F23 := F20.then rfl u22
    refine wi_aload_n (i := 0) (x := 170) (nx := 116) (r1 := 0) (r2 := 0) (r3 := 0) rfl rfl ?_
    refine wi_aload_n (i := 1) (x := 18) (nx := 117) (r1 := 0) (r2 := 0) (r3 := 0) rfl rfl ?_
    have b24 := gi_b (lo := -2147483648) (hi := 2147483647) g 18 10 rfl
    refine wr_gi0 (k0 := 18) (x := h 18 10) (nx := 120) (r1 := 4) (r2 := 10) (r3 := 0) rfl rfl (by decide) rfl ⟨rfl, rfl⟩ rfl ((u22 18 10 rfl).trans ((u19 18 10 rfl).trans ((u16 18 10 rfl).trans ((u13 18 10 rfl).trans ((u11 18 10 rfl).trans ((u9 18 10 rfl).trans ((u6 18 10 rfl).trans ((u3 18 10 rfl).trans (u1 18 10 rfl))))))))) ?_
    refine wr_pf0 (k0 := 170) (x := h 18 10) (bl := -2147483648) (bh := 2147483647) (nx := 123) (r1 := 4) (r2 := 10) (r3 := 0) rfl (by decide) rfl ⟨rfl, rfl⟩ rfl rfl g22 rfl (by omega) (fun h25 g25 w25 u25 => ?_)
    have F26 := F23.then rfl u25
    refine wi_aload_n (i := 0) (x := 170) (nx := 124) (r1 := 0) (r2 := 0) (r3 := 0) rfl rfl ?_
    refine wi_aload_n (i := 1) (x := 18) (nx := 125) (r1 := 0) (r2 := 0) (r3 := 0) rfl rfl ?_
    have b27 := gi_b (lo := -2147483648) (hi := 2147483647) g 18 11 rfl
    refine wr_gi0 (k0 := 18) (x := h 18 11) (nx := 128) (r1 := 4) (r2 := 11) (r3 := 0) rfl rfl (by decide) rfl ⟨rfl, rfl⟩ rfl ((u25 18 11 rfl).trans ((u22 18 11 rfl).trans ((u19 18 11 rfl).trans ((u16 18 11 rfl).trans ((u13 18 11 rfl).trans ((u11 18 11 rfl).trans ((u9 18 11 rfl).trans ((u6 18 11 rfl).trans ((u3 18 11 rfl).trans (u1 18 11 rfl)))))))))) ?_
    refine wr_pf0 (k0 := 170) (x := h 18 11) (bl := -2147483648) (bh := 2147483647) (nx := 131) (r1 := 4) (r2 := 11) (r3 := 0) rfl (by decide) rfl ⟨rfl, rfl⟩ rfl rfl g25 rfl (by omega) (fun h28 g28 w28 u28 => ?_)
    have F29 := F26.then rfl u28
    refine wi_aload_n (i := 0) (x := 170) (nx := 132) (r1 := 0) (r2 := 0) (r3 := 0) rfl rfl ?_
    refine wi_aload_n (i := 1) (x := 18) (nx := 133) (r1 := 0) (r2 := 0) (r3 := 0) rfl rfl ?_
    have b30 := gi_b (lo := -2147483648) (hi := 2147483647) g 18 12 rfl
    refine wr_gi0 (k0 := 18) (x := h 18 12) (nx := 136) (r1 := 4) (r2 := 12) (r3 := 0) rfl rfl (by decide) rfl ⟨rfl, rfl⟩ rfl ((u28 18 12 rfl).trans ((u25 18 12 rfl).trans ((u22 18 12 rfl).trans ((u19 18 12 rfl).trans ((u16 18 12 rfl).trans ((u13 18 12 rfl).trans ((u11 18 12 rfl).trans ((u9 18 12 rfl).trans ((u6 18 12 rfl).trans ((u3 18 12 rfl).trans (u1 18 12 rfl))))))))))) ?_
    refine wr_pf0 (k0 := 170) (x := h 18 12) (bl := -2147483648) (bh := 2147483647) (nx := 139) (r1 := 4) (r2 := 12) (r3 := 0) rfl (by decide) rfl ⟨rfl, rfl⟩ rfl rfl g28 rfl (by omega) (fun h31 g31 w31 u31 => ?_)
    have F32 := F29.then rfl u31
    refine wi_aload_n (i := 0) (x := 170) (nx := 140) (r1 := 0) (r2 := 0) (r3 := 0) rfl rfl ?_
    refine wi_aload_n (i := 1) (x := 18) (nx := 141) (r1 := 0) (r2 := 0) (r3 := 0) rfl rfl ?_
    have b33 := gi_b (lo := -2147483648) (hi := 2147483647) g 18 13 rfl
    refine wr_gi0 (k0 := 18) (x := h 18 13) (nx := 144) (r1 := 4) (r2 := 13) (r3 := 0) rfl rfl (by decide) rfl ⟨rfl, rfl⟩ rfl ((u31 18 13 rfl).trans ((u28 18 13 rfl).trans ((u25 18 13 rfl).trans ((u22 18 13 rfl).trans ((u19 18 13 rfl).trans ((u16 18 13 rfl).trans ((u13 18 13 rfl).trans ((u11 18 13 rfl).trans ((u9 18 13 rfl).trans ((u6 18 13 rfl).trans ((u3 18 13 rfl).trans (u1 18 13 rfl)))))))))))) ?_
    refine wr_pf0 (k0 := 170) (x := h 18 13) (bl := -2147483648) (bh := 2147483647) (nx := 147) (r1 := 4) (r2 := 13) (r3 := 0) rfl (by decide) rfl ⟨rfl, rfl⟩ rfl rfl g31 rfl (by omega) (fun h34 g34 w34 u34 => ?_)
    have F35 := F32.then rfl u34
    refine wi_aload_n (i := 1) (x := 18) (nx := 148) (r1 := 0) (r2 := 0) (r3 := 0) rfl rfl ?_
    refine wr_gr (k0 := 18) (x := 28) (nx := 151) (r1 := 4) (r2 := 14) (r3 := 0) rfl rfl (by decide) rfl ⟨rfl, rfl⟩ rfl ?_
    refine wi_iconst (n := 0) (nx := 152) (r1 := 0) (r2 := 0) (r3 := 0) rfl ?_
    refine wi_aload_n (i := 0) (x := 170) (nx := 153) (r1 := 0) (r2 := 0) (r3 := 0) rfl rfl ?_
    refine wr_gr (k0 := 170) (x := 180) (nx := 156) (r1 := 4) (r2 := 14) (r3 := 0) rfl rfl (by decide) rfl ⟨rfl, rfl⟩ rfl ?_
    refine wi_iconst (n := 0) (nx := 157) (r1 := 0) (r2 := 0) (r3 := 0) rfl ?_
    refine wi_aload_n (i := 0) (x := 170) (nx := 158) (r1 := 0) (r2 := 0) (r3 := 0) rfl rfl ?_
    refine wr_gr (k0 := 170) (x := 180) (nx := 161) (r1 := 4) (r2 := 14) (r3 := 0) rfl rfl (by decide) rfl ⟨rfl, rfl⟩ rfl ?_
    refine wr_al (k0 := 180) (e := 144) (nx := 162) (r1 := 0) (r2 := 0) (r3 := 0) rfl (by decide) rfl rfl ?_
    refine wr_cpy (s0 := 28) (d0 := 180) (n0 := 144) (n1 := 144) (sp := 0) (dp := 0) (n := 144) (sl := -2147483648) (sh := 2147483647) (dl := -2147483648) (dh := 2147483647) (nx := 165) (r1 := 0) (r2 := 101) (r3 := 0) rfl rfl (of_decide_eq_true rfl) (by decide) (by decide) rfl rfl (by omega) (fun _ => rfl) (fun _ => rfl) (by omega) g34 (fun h36 g36 y36 u36 => ?_)
    have F37 := F35.then rfl u36
    refine wi_aload_n (i := 0) (x := 170) (nx := 166) (r1 := 0) (r2 := 0) (r3 := 0) rfl rfl ?_
    refine wi_aload_n (i := 1) (x := 18) (nx := 167) (r1 := 0) (r2 := 0) (r3 := 0) rfl rfl ?_
    have b38 := gi_b (lo := 0) (hi := 36) g 18 15 rfl
    refine wr_gi0 (k0 := 18) (x := h 18 15) (nx := 170) (r1 := 4) (r2 := 15) (r3 := 0) rfl rfl (by decide) rfl ⟨rfl, rfl⟩ rfl ((u36 18 15 rfl).trans ((u34 18 15 rfl).trans ((u31 18 15 rfl).trans ((u28 18 15 rfl).trans ((u25 18 15 rfl).trans ((u22 18 15 rfl).trans ((u19 18 15 rfl).trans ((u16 18 15 rfl).trans ((u13 18 15 rfl).trans ((u11 18 15 rfl).trans ((u9 18 15 rfl).trans ((u6 18 15 rfl).trans ((u3 18 15 rfl).trans (u1 18 15 rfl)))))))))))))) ?_
    refine wr_pf0 (k0 := 170) (x := h 18 15) (bl := 0) (bh := 36) (nx := 173) (r1 := 4) (r2 := 15) (r3 := 0) rfl (by decide) rfl ⟨rfl, rfl⟩ rfl rfl g36 rfl (by omega) (fun h39 g39 w39 u39 => ?_)
    have F40 := F37.then rfl u39
    refine wi_aload_n (i := 0) (x := 170) (nx := 174) (r1 := 0) (r2 := 0) (r3 := 0) rfl rfl ?_
    refine wi_dup (nx := 175) (r1 := 0) (r2 := 0) (r3 := 0) rfl rfl ?_
    have b41 := gi_b (lo := -2147483648) (hi := 2147483647) g 170 16 rfl
    refine wr_gi0 (k0 := 170) (x := h 170 16) (nx := 178) (r1 := 4) (r2 := 16) (r3 := 0) rfl rfl (by decide) rfl ⟨rfl, rfl⟩ rfl ((u39 170 16 rfl).trans ((u36 170 16 rfl).trans ((u34 170 16 rfl).trans ((u31 170 16 rfl).trans ((u28 170 16 rfl).trans ((u25 170 16 rfl).trans ((u22 170 16 rfl).trans ((u19 170 16 rfl).trans ((u16 170 16 rfl).trans ((u13 170 16 rfl).trans ((u11 170 16 rfl).trans ((u9 170 16 rfl).trans ((u6 170 16 rfl).trans ((u3 170 16 rfl).trans (u1 170 16 rfl))))))))))))))) ?_
    refine wi_iconst (n := 1) (nx := 179) (r1 := 0) (r2 := 0) (r3 := 0) rfl ?_
    refine wr_addW (nx := 180) (r1 := 0) (r2 := 0) (r3 := 0) rfl (fun e42 (fe42 : -2147483648 ≤ e42 ∧ e42 ≤ 2147483647) => ?_)
    refine wr_pf0 (k0 := 170) (x := e42) (bl := -2147483648) (bh := 2147483647) (nx := 183) (r1 := 4) (r2 := 16) (r3 := 0) rfl (by decide) rfl ⟨rfl, rfl⟩ rfl rfl g39 rfl (by omega) (fun h43 g43 w43 u43 => ?_)
    have F44 := F40.then rfl u43
    refine wi_return (nx := 184) (r1 := 0) (r2 := 0) (r3 := 0) rfl rfl ?_
    exact k h43 g43 F44
  ·
    refine wi_aload_n (i := 0) (x := 170) (nx := 38) (r1 := 0) (r2 := 0) (r3 := 0) rfl rfl ?_
    refine wr_gr (k0 := 170) (x := 173) (nx := 41) (r1 := 4) (r2 := 3) (r3 := 0) rfl rfl (by decide) rfl ⟨rfl, rfl⟩ rfl ?_
    refine wi_iload_n (i := 2) (e := x5) (nx := 42) (r1 := 0) (r2 := 0) (r3 := 0) rfl rfl ?_
    obtain ⟨i9, ei9⟩ : ∃ q : Nat, x5 = (q : Int) := ⟨(x5).toNat, by omega⟩
    refine wr_aa (k0 := 173) (a := x5) (f := i9) (x := 173 + 8 + 2 * i9) (nx := 43) (r1 := 0) (r2 := 0) (r3 := 0) rfl (by decide) rfl (Or.inl rfl) (by omega) (by omega) (by decide) (hcr.1 173 (by decide) i9 (by omega)) ?_
    obtain ⟨k10, kk10, mk10⟩ : ∃ q, Rw q ∧ q = 173 + 8 + 2 * i9 := ⟨_, rw_lane 173 (by decide) i9 (by omega), rfl⟩
    rw [← mk10]
    refine wi_aload_n (i := 1) (x := 18) (nx := 44) (r1 := 0) (r2 := 0) (r3 := 0) rfl rfl ?_
    refine wr_gr (k0 := 18) (x := 21) (nx := 47) (r1 := 4) (r2 := 3) (r3 := 0) rfl rfl (by decide) rfl ⟨rfl, rfl⟩ rfl ?_
    refine wi_iload_n (i := 2) (e := x5) (nx := 48) (r1 := 0) (r2 := 0) (r3 := 0) rfl rfl ?_
    refine wr_aa (k0 := 21) (a := x5) (f := i9) (x := 21 + 8 + 2 * i9) (nx := 49) (r1 := 0) (r2 := 0) (r3 := 0) rfl (by decide) rfl (Or.inl rfl) (by omega) (by omega) (by decide) (hcr.1 21 (by decide) i9 (by omega)) ?_
    obtain ⟨k11, kk11, mk11⟩ : ∃ q, Rw q ∧ q = 21 + 8 + 2 * i9 := ⟨_, rw_lane 21 (by decide) i9 (by omega), rfl⟩
    rw [← mk11]
    refine wr_V (k0 := k10) (rest := []) (as := [.ref k10, .ref k11]) (nx := 52) (r1 := 155) (r2 := 1) (r3 := 5) rfl rfl rfl (of_decide_eq_true rfl) rfl rfl kk10.k kk10.1 rfl (of_decide_eq_true rfl) (of_decide_eq_true rfl) ?_
    refine ct_155_R_R hcr kk10 kk11 g6    (fun h12 g12 u12 => ?_)
    have v12 := FR.rngp (lo := 181) (hi := 188) u12 (by omega)
    have F13 := F7.then rfl (FR.rngp (lo := 181) (hi := 188) u12 (by omega))
    have F14 := u6.then rfl (FR.rngp (lo := 181) (hi := 188) u12 (by omega))
    refine wk_n ?_
    refine wr_iinc (i := 2) (n := 1) (v := x5) (fun e15 => [(2, vi e15), (0, .ref 170), (1, .ref 18)]) (nx := 55) (r1 := 0) (r2 := 0) (r3 := 0) rfl rfl (fun _ => rfl) (fun e15 (fe15 : e15 = x5 + 1) => ?_)
    refine wi_goto (nx := 58) (r1 := 32) (r2 := 0) (r3 := 0) rfl ?_
    refine wp.lo (lo := [(0, .ref 170), (1, .ref 18), (2, vi e15)]) ⟨rfl, rfl, rfl, trivial⟩ rfl ?_
    exact I6 e15 h12 ⟨g12, F13, F14, (show (0 ≤ e15 ∧ e15 ≤ 4) by omega)⟩ (show ((4 : Int) + 1 - e15).toNat < ((4 : Int) + 1 - x5).toNat by omega)
-- method 132: Line.copyFrom(LPaintBank$Line;)V
set_option maxRecDepth 100000 in
set_option maxHeartbeats 100000000 in
theorem ct_132_189_18 {L : Nat} {xs : Nat → Int32} {d b c : Nat} {h : hp} {cr : Nat → Nat → Option Nat} {Q : hp_Q} (hcr : CR cr)  (g : GI h)    (k : ∀ (h2 : hp) , GI h2 → FR [(75, 207, none)] h h2 → Q (.inl none) (hp_w h2 cr) b c) : wp (md_xa (L, xs)) (d + 1) 132 (0, [(0, .ref 189), (1, .ref 18)], [], hp_w h cr, b, c) Q := by
  have F0 : FR [(75, 207, none)] h h := FR.refl
  refine wi_aload_n (i := 1) (x := 18) (nx := 1) (r1 := 0) (r2 := 0) (r3 := 0) rfl rfl ?_
  refine wr_gr (k0 := 18) (x := 19) (nx := 4) (r1 := 4) (r2 := 1) (r3 := 0) rfl rfl (by decide) rfl ⟨rfl, rfl⟩ rfl ?_
  refine wi_iconst (n := 0) (nx := 5) (r1 := 0) (r2 := 0) (r3 := 0) rfl ?_
  refine wi_aload_n (i := 0) (x := 189) (nx := 6) (r1 := 0) (r2 := 0) (r3 := 0) rfl rfl ?_
  refine wr_gr (k0 := 189) (x := 190) (nx := 9) (r1 := 4) (r2 := 1) (r3 := 0) rfl rfl (by decide) rfl ⟨rfl, rfl⟩ rfl ?_
  refine wi_iconst (n := 0) (nx := 10) (r1 := 0) (r2 := 0) (r3 := 0) rfl ?_
  refine wi_bipush (n := 12) (nx := 12) (r1 := 0) (r2 := 0) (r3 := 0) rfl (by decide) ?_
  refine wr_cpy (s0 := 19) (d0 := 190) (n0 := 12) (n1 := 12) (sp := 0) (dp := 0) (n := 12) (sl := -2147483648) (sh := 2147483647) (dl := -2147483648) (dh := 2147483647) (nx := 15) (r1 := 0) (r2 := 101) (r3 := 0) rfl rfl (of_decide_eq_true rfl) (by decide) (by decide) rfl rfl (by omega) (fun _ => rfl) (fun _ => rfl) (by omega) g (fun h1 g1 y1 u1 => ?_)
  have F2 := F0.then rfl u1
  refine wi_aload_n (i := 1) (x := 18) (nx := 16) (r1 := 0) (r2 := 0) (r3 := 0) rfl rfl ?_
  refine wr_gr (k0 := 18) (x := 20) (nx := 19) (r1 := 4) (r2 := 2) (r3 := 0) rfl rfl (by decide) rfl ⟨rfl, rfl⟩ rfl ?_
  refine wi_iconst (n := 0) (nx := 20) (r1 := 0) (r2 := 0) (r3 := 0) rfl ?_
  refine wi_aload_n (i := 0) (x := 189) (nx := 21) (r1 := 0) (r2 := 0) (r3 := 0) rfl rfl ?_
  refine wr_gr (k0 := 189) (x := 191) (nx := 24) (r1 := 4) (r2 := 2) (r3 := 0) rfl rfl (by decide) rfl ⟨rfl, rfl⟩ rfl ?_
  refine wi_iconst (n := 0) (nx := 25) (r1 := 0) (r2 := 0) (r3 := 0) rfl ?_
  refine wi_bipush (n := 12) (nx := 27) (r1 := 0) (r2 := 0) (r3 := 0) rfl (by decide) ?_
  refine wr_cpy (s0 := 20) (d0 := 191) (n0 := 12) (n1 := 12) (sp := 0) (dp := 0) (n := 12) (sl := -2147483648) (sh := 2147483647) (dl := -2147483648) (dh := 2147483647) (nx := 30) (r1 := 0) (r2 := 101) (r3 := 0) rfl rfl (of_decide_eq_true rfl) (by decide) (by decide) rfl rfl (by omega) (fun _ => rfl) (fun _ => rfl) (by omega) g1 (fun h3 g3 y3 u3 => ?_)
  have F4 := F2.then rfl u3
  refine wi_iconst (n := 0) (nx := 31) (r1 := 0) (r2 := 0) (r3 := 0) rfl ?_
  refine wi_istore_n (i := 2) (e := 0) (lo2 := [(2, vi 0), (0, .ref 189), (1, .ref 18)]) (nx := 32) (r1 := 0) (r2 := 0) (r3 := 0) rfl rfl ?_
  refine wp.lo (lo := [(0, .ref 189), (1, .ref 18), (2, vi 0)]) ⟨rfl, rfl, rfl, trivial⟩ rfl ?_
  refine wl_1 (fun x5 h6 => GI h6 ∧ FR [(75, 207, none)] h h6 ∧ FR [(200, 207, none)] h3 h6 ∧ ((0 ≤ x5 ∧ x5 ≤ 4))) (fun x5 h6 => ((4 : Int) + 1 - x5).toNat) (fun x5 h6 => (32, [(0, .ref 189), (1, .ref 18), (2, vi x5)], [], hp_w h6 cr, b, c)) ?_ 0 h3 ⟨g3, F4, FR.refl, (show (0 ≤ 0 ∧ 0 ≤ 4) by omega)⟩
  intro x5 h6 ⟨g6, F7, u6, f6⟩ I6
  refine wi_iload_n (i := 2) (e := x5) (nx := 33) (r1 := 0) (r2 := 0) (r3 := 0) rfl rfl ?_
  refine wi_iconst (n := 4) (nx := 34) (r1 := 0) (r2 := 0) (r3 := 0) rfl ?_
  refine wi_icmp (cd := .ge) (nx := 37) (r1 := 58) (r2 := 0) (r3 := 0) rfl (by omega) (by omega) (fun (q8 : 4 ≤ x5) => ?_) (fun (q8 : ¬ (4 ≤ x5)) => ?_)
  ·
    refine wi_aload_n (i := 0) (x := 189) (nx := 59) (r1 := 0) (r2 := 0) (r3 := 0) rfl rfl ?_
    refine wr_gr (k0 := 189) (x := 193) (nx := 62) (r1 := 4) (r2 := 4) (r3 := 0) rfl rfl (by decide) rfl ⟨rfl, rfl⟩ rfl ?_
    refine wi_aload_n (i := 1) (x := 18) (nx := 63) (r1 := 0) (r2 := 0) (r3 := 0) rfl rfl ?_
    refine wr_gr (k0 := 18) (x := 22) (nx := 66) (r1 := 4) (r2 := 4) (r3 := 0) rfl rfl (by decide) rfl ⟨rfl, rfl⟩ rfl ?_
    refine wr_V (k0 := 193) (rest := []) (as := [.ref 193, .ref 22]) (nx := 69) (r1 := 155) (r2 := 1) (r3 := 5) rfl rfl rfl (of_decide_eq_true rfl) rfl rfl (by decide) rfl rfl (of_decide_eq_true rfl) (of_decide_eq_true rfl) ?_
    refine ct_155_R_R hcr rw_193 rw_22 g6    (fun h9 g9 u9 => ?_)
    have F10 := F7.then rfl u9
    refine wk_n ?_
    refine wi_aload_n (i := 0) (x := 189) (nx := 70) (r1 := 0) (r2 := 0) (r3 := 0) rfl rfl ?_
    refine wr_gr (k0 := 189) (x := 195) (nx := 73) (r1 := 4) (r2 := 5) (r3 := 0) rfl rfl (by decide) rfl ⟨rfl, rfl⟩ rfl ?_
    refine wi_aload_n (i := 1) (x := 18) (nx := 74) (r1 := 0) (r2 := 0) (r3 := 0) rfl rfl ?_
    refine wr_gr (k0 := 18) (x := 24) (nx := 77) (r1 := 4) (r2 := 5) (r3 := 0) rfl rfl (by decide) rfl ⟨rfl, rfl⟩ rfl ?_
    refine wr_V (k0 := 195) (rest := []) (as := [.ref 195, .ref 24]) (nx := 80) (r1 := 155) (r2 := 1) (r3 := 5) rfl rfl rfl (of_decide_eq_true rfl) rfl rfl (by decide) rfl rfl (of_decide_eq_true rfl) (of_decide_eq_true rfl) ?_
    refine ct_155_R_R hcr rw_195 rw_24 g9    (fun h11 g11 u11 => ?_)
    have F12 := F10.then rfl u11
    refine wk_n ?_
    refine wi_aload_n (i := 0) (x := 189) (nx := 81) (r1 := 0) (r2 := 0) (r3 := 0) rfl rfl ?_
    refine wr_gr (k0 := 189) (x := 197) (nx := 84) (r1 := 4) (r2 := 6) (r3 := 0) rfl rfl (by decide) rfl ⟨rfl, rfl⟩ rfl ?_
    refine wi_aload_n (i := 1) (x := 18) (nx := 85) (r1 := 0) (r2 := 0) (r3 := 0) rfl rfl ?_
    refine wr_gr (k0 := 18) (x := 26) (nx := 88) (r1 := 4) (r2 := 6) (r3 := 0) rfl rfl (by decide) rfl ⟨rfl, rfl⟩ rfl ?_
    refine wr_V (k0 := 197) (rest := []) (as := [.ref 197, .ref 26]) (nx := 91) (r1 := 155) (r2 := 1) (r3 := 5) rfl rfl rfl (of_decide_eq_true rfl) rfl rfl (by decide) rfl rfl (of_decide_eq_true rfl) (of_decide_eq_true rfl) ?_
    refine ct_155_R_R hcr rw_197 rw_26 g11    (fun h13 g13 u13 => ?_)
    have F14 := F12.then rfl u13
    refine wk_n ?_
    refine wi_aload_n (i := 0) (x := 189) (nx := 92) (r1 := 0) (r2 := 0) (r3 := 0) rfl rfl ?_
    refine wi_aload_n (i := 1) (x := 18) (nx := 93) (r1 := 0) (r2 := 0) (r3 := 0) rfl rfl ?_
    have b15 := gi_b (lo := 0) (hi := 12) g 18 7 rfl
    refine wr_gi0 (k0 := 18) (x := h 18 7) (nx := 96) (r1 := 4) (r2 := 7) (r3 := 0) rfl rfl (by decide) rfl ⟨rfl, rfl⟩ rfl ((u13 18 7 rfl).trans ((u11 18 7 rfl).trans ((u9 18 7 rfl).trans ((u6 18 7 rfl).trans ((u3 18 7 rfl).trans (u1 18 7 rfl)))))) ?_
    refine wr_pf0 (k0 := 189) (x := h 18 7) (bl := 0) (bh := 12) (nx := 99) (r1 := 4) (r2 := 7) (r3 := 0) rfl (by decide) rfl ⟨rfl, rfl⟩ rfl rfl g13 rfl (by omega) (fun h16 g16 w16 u16 => ?_)
    have F17 := F14.then rfl u16
    refine wi_aload_n (i := 0) (x := 189) (nx := 100) (r1 := 0) (r2 := 0) (r3 := 0) rfl rfl ?_
    refine wi_aload_n (i := 1) (x := 18) (nx := 101) (r1 := 0) (r2 := 0) (r3 := 0) rfl rfl ?_
    have b18 := gi_b (lo := -2147483648) (hi := 2147483647) g 18 8 rfl
    refine wr_gi0 (k0 := 18) (x := h 18 8) (nx := 104) (r1 := 4) (r2 := 8) (r3 := 0) rfl rfl (by decide) rfl ⟨rfl, rfl⟩ rfl ((u16 18 8 rfl).trans ((u13 18 8 rfl).trans ((u11 18 8 rfl).trans ((u9 18 8 rfl).trans ((u6 18 8 rfl).trans ((u3 18 8 rfl).trans (u1 18 8 rfl))))))) ?_
    refine wr_pf0 (k0 := 189) (x := h 18 8) (bl := -2147483648) (bh := 2147483647) (nx := 107) (r1 := 4) (r2 := 8) (r3 := 0) rfl (by decide) rfl ⟨rfl, rfl⟩ rfl rfl g16 rfl (by omega) (fun h19 g19 w19 u19 => ?_)
    have F20 := F17.then rfl u19
    refine wi_aload_n (i := 0) (x := 189) (nx := 108) (r1 := 0) (r2 := 0) (r3 := 0) rfl rfl ?_
    refine wi_aload_n (i := 1) (x := 18) (nx := 109) (r1 := 0) (r2 := 0) (r3 := 0) rfl rfl ?_
    have b21 := gi_b (lo := -2147483648) (hi := 2147483647) g 18 9 rfl
    refine wr_gi0 (k0 := 18) (x := h 18 9) (nx := 112) (r1 := 4) (r2 := 9) (r3 := 0) rfl rfl (by decide) rfl ⟨rfl, rfl⟩ rfl ((u19 18 9 rfl).trans ((u16 18 9 rfl).trans ((u13 18 9 rfl).trans ((u11 18 9 rfl).trans ((u9 18 9 rfl).trans ((u6 18 9 rfl).trans ((u3 18 9 rfl).trans (u1 18 9 rfl)))))))) ?_
    refine wr_pf0 (k0 := 189) (x := h 18 9) (bl := -2147483648) (bh := 2147483647) (nx := 115) (r1 := 4) (r2 := 9) (r3 := 0) rfl (by decide) rfl ⟨rfl, rfl⟩ rfl rfl g19 rfl (by omega) (fun h22 g22 w22 u22 => ?_)
    have F23 := F20.then rfl u22
    refine wi_aload_n (i := 0) (x := 189) (nx := 116) (r1 := 0) (r2 := 0) (r3 := 0) rfl rfl ?_
    refine wi_aload_n (i := 1) (x := 18) (nx := 117) (r1 := 0) (r2 := 0) (r3 := 0) rfl rfl ?_
    have b24 := gi_b (lo := -2147483648) (hi := 2147483647) g 18 10 rfl
    refine wr_gi0 (k0 := 18) (x := h 18 10) (nx := 120) (r1 := 4) (r2 := 10) (r3 := 0) rfl rfl (by decide) rfl ⟨rfl, rfl⟩ rfl ((u22 18 10 rfl).trans ((u19 18 10 rfl).trans ((u16 18 10 rfl).trans ((u13 18 10 rfl).trans ((u11 18 10 rfl).trans ((u9 18 10 rfl).trans ((u6 18 10 rfl).trans ((u3 18 10 rfl).trans (u1 18 10 rfl))))))))) ?_
    refine wr_pf0 (k0 := 189) (x := h 18 10) (bl := -2147483648) (bh := 2147483647) (nx := 123) (r1 := 4) (r2 := 10) (r3 := 0) rfl (by decide) rfl ⟨rfl, rfl⟩ rfl rfl g22 rfl (by omega) (fun h25 g25 w25 u25 => ?_)
    have F26 := F23.then rfl u25
    refine wi_aload_n (i := 0) (x := 189) (nx := 124) (r1 := 0) (r2 := 0) (r3 := 0) rfl rfl ?_
    refine wi_aload_n (i := 1) (x := 18) (nx := 125) (r1 := 0) (r2 := 0) (r3 := 0) rfl rfl ?_
    have b27 := gi_b (lo := -2147483648) (hi := 2147483647) g 18 11 rfl
    refine wr_gi0 (k0 := 18) (x := h 18 11) (nx := 128) (r1 := 4) (r2 := 11) (r3 := 0) rfl rfl (by decide) rfl ⟨rfl, rfl⟩ rfl ((u25 18 11 rfl).trans ((u22 18 11 rfl).trans ((u19 18 11 rfl).trans ((u16 18 11 rfl).trans ((u13 18 11 rfl).trans ((u11 18 11 rfl).trans ((u9 18 11 rfl).trans ((u6 18 11 rfl).trans ((u3 18 11 rfl).trans (u1 18 11 rfl)))))))))) ?_
    refine wr_pf0 (k0 := 189) (x := h 18 11) (bl := -2147483648) (bh := 2147483647) (nx := 131) (r1 := 4) (r2 := 11) (r3 := 0) rfl (by decide) rfl ⟨rfl, rfl⟩ rfl rfl g25 rfl (by omega) (fun h28 g28 w28 u28 => ?_)
    have F29 := F26.then rfl u28
    refine wi_aload_n (i := 0) (x := 189) (nx := 132) (r1 := 0) (r2 := 0) (r3 := 0) rfl rfl ?_
    refine wi_aload_n (i := 1) (x := 18) (nx := 133) (r1 := 0) (r2 := 0) (r3 := 0) rfl rfl ?_
    have b30 := gi_b (lo := -2147483648) (hi := 2147483647) g 18 12 rfl
    refine wr_gi0 (k0 := 18) (x := h 18 12) (nx := 136) (r1 := 4) (r2 := 12) (r3 := 0) rfl rfl (by decide) rfl ⟨rfl, rfl⟩ rfl ((u28 18 12 rfl).trans ((u25 18 12 rfl).trans ((u22 18 12 rfl).trans ((u19 18 12 rfl).trans ((u16 18 12 rfl).trans ((u13 18 12 rfl).trans ((u11 18 12 rfl).trans ((u9 18 12 rfl).trans ((u6 18 12 rfl).trans ((u3 18 12 rfl).trans (u1 18 12 rfl))))))))))) ?_
    refine wr_pf0 (k0 := 189) (x := h 18 12) (bl := -2147483648) (bh := 2147483647) (nx := 139) (r1 := 4) (r2 := 12) (r3 := 0) rfl (by decide) rfl ⟨rfl, rfl⟩ rfl rfl g28 rfl (by omega) (fun h31 g31 w31 u31 => ?_)
    have F32 := F29.then rfl u31
    refine wi_aload_n (i := 0) (x := 189) (nx := 140) (r1 := 0) (r2 := 0) (r3 := 0) rfl rfl ?_
    refine wi_aload_n (i := 1) (x := 18) (nx := 141) (r1 := 0) (r2 := 0) (r3 := 0) rfl rfl ?_
    have b33 := gi_b (lo := -2147483648) (hi := 2147483647) g 18 13 rfl
    refine wr_gi0 (k0 := 18) (x := h 18 13) (nx := 144) (r1 := 4) (r2 := 13) (r3 := 0) rfl rfl (by decide) rfl ⟨rfl, rfl⟩ rfl ((u31 18 13 rfl).trans ((u28 18 13 rfl).trans ((u25 18 13 rfl).trans ((u22 18 13 rfl).trans ((u19 18 13 rfl).trans ((u16 18 13 rfl).trans ((u13 18 13 rfl).trans ((u11 18 13 rfl).trans ((u9 18 13 rfl).trans ((u6 18 13 rfl).trans ((u3 18 13 rfl).trans (u1 18 13 rfl)))))))))))) ?_
    refine wr_pf0 (k0 := 189) (x := h 18 13) (bl := -2147483648) (bh := 2147483647) (nx := 147) (r1 := 4) (r2 := 13) (r3 := 0) rfl (by decide) rfl ⟨rfl, rfl⟩ rfl rfl g31 rfl (by omega) (fun h34 g34 w34 u34 => ?_)
    have F35 := F32.then rfl u34
    refine wi_aload_n (i := 1) (x := 18) (nx := 148) (r1 := 0) (r2 := 0) (r3 := 0) rfl rfl ?_
    refine wr_gr (k0 := 18) (x := 28) (nx := 151) (r1 := 4) (r2 := 14) (r3 := 0) rfl rfl (by decide) rfl ⟨rfl, rfl⟩ rfl ?_
    refine wi_iconst (n := 0) (nx := 152) (r1 := 0) (r2 := 0) (r3 := 0) rfl ?_
    refine wi_aload_n (i := 0) (x := 189) (nx := 153) (r1 := 0) (r2 := 0) (r3 := 0) rfl rfl ?_
    refine wr_gr (k0 := 189) (x := 199) (nx := 156) (r1 := 4) (r2 := 14) (r3 := 0) rfl rfl (by decide) rfl ⟨rfl, rfl⟩ rfl ?_
    refine wi_iconst (n := 0) (nx := 157) (r1 := 0) (r2 := 0) (r3 := 0) rfl ?_
    refine wi_aload_n (i := 0) (x := 189) (nx := 158) (r1 := 0) (r2 := 0) (r3 := 0) rfl rfl ?_
    refine wr_gr (k0 := 189) (x := 199) (nx := 161) (r1 := 4) (r2 := 14) (r3 := 0) rfl rfl (by decide) rfl ⟨rfl, rfl⟩ rfl ?_
    refine wr_al (k0 := 199) (e := 144) (nx := 162) (r1 := 0) (r2 := 0) (r3 := 0) rfl (by decide) rfl rfl ?_
    refine wr_cpy (s0 := 28) (d0 := 199) (n0 := 144) (n1 := 144) (sp := 0) (dp := 0) (n := 144) (sl := -2147483648) (sh := 2147483647) (dl := -2147483648) (dh := 2147483647) (nx := 165) (r1 := 0) (r2 := 101) (r3 := 0) rfl rfl (of_decide_eq_true rfl) (by decide) (by decide) rfl rfl (by omega) (fun _ => rfl) (fun _ => rfl) (by omega) g34 (fun h36 g36 y36 u36 => ?_)
    have F37 := F35.then rfl u36
    refine wi_aload_n (i := 0) (x := 189) (nx := 166) (r1 := 0) (r2 := 0) (r3 := 0) rfl rfl ?_
    refine wi_aload_n (i := 1) (x := 18) (nx := 167) (r1 := 0) (r2 := 0) (r3 := 0) rfl rfl ?_
    have b38 := gi_b (lo := 0) (hi := 36) g 18 15 rfl
    refine wr_gi0 (k0 := 18) (x := h 18 15) (nx := 170) (r1 := 4) (r2 := 15) (r3 := 0) rfl rfl (by decide) rfl ⟨rfl, rfl⟩ rfl ((u36 18 15 rfl).trans ((u34 18 15 rfl).trans ((u31 18 15 rfl).trans ((u28 18 15 rfl).trans ((u25 18 15 rfl).trans ((u22 18 15 rfl).trans ((u19 18 15 rfl).trans ((u16 18 15 rfl).trans ((u13 18 15 rfl).trans ((u11 18 15 rfl).trans ((u9 18 15 rfl).trans ((u6 18 15 rfl).trans ((u3 18 15 rfl).trans (u1 18 15 rfl)))))))))))))) ?_
    refine wr_pf0 (k0 := 189) (x := h 18 15) (bl := 0) (bh := 36) (nx := 173) (r1 := 4) (r2 := 15) (r3 := 0) rfl (by decide) rfl ⟨rfl, rfl⟩ rfl rfl g36 rfl (by omega) (fun h39 g39 w39 u39 => ?_)
    have F40 := F37.then rfl u39
    refine wi_aload_n (i := 0) (x := 189) (nx := 174) (r1 := 0) (r2 := 0) (r3 := 0) rfl rfl ?_
    refine wi_dup (nx := 175) (r1 := 0) (r2 := 0) (r3 := 0) rfl rfl ?_
    have b41 := gi_b (lo := -2147483648) (hi := 2147483647) g 189 16 rfl
    refine wr_gi0 (k0 := 189) (x := h 189 16) (nx := 178) (r1 := 4) (r2 := 16) (r3 := 0) rfl rfl (by decide) rfl ⟨rfl, rfl⟩ rfl ((u39 189 16 rfl).trans ((u36 189 16 rfl).trans ((u34 189 16 rfl).trans ((u31 189 16 rfl).trans ((u28 189 16 rfl).trans ((u25 189 16 rfl).trans ((u22 189 16 rfl).trans ((u19 189 16 rfl).trans ((u16 189 16 rfl).trans ((u13 189 16 rfl).trans ((u11 189 16 rfl).trans ((u9 189 16 rfl).trans ((u6 189 16 rfl).trans ((u3 189 16 rfl).trans (u1 189 16 rfl))))))))))))))) ?_
    refine wi_iconst (n := 1) (nx := 179) (r1 := 0) (r2 := 0) (r3 := 0) rfl ?_
    refine wr_addW (nx := 180) (r1 := 0) (r2 := 0) (r3 := 0) rfl (fun e42 (fe42 : -2147483648 ≤ e42 ∧ e42 ≤ 2147483647) => ?_)
    refine wr_pf0 (k0 := 189) (x := e42) (bl := -2147483648) (bh := 2147483647) (nx := 183) (r1 := 4) (r2 := 16) (r3 := 0) rfl (by decide) rfl ⟨rfl, rfl⟩ rfl rfl g39 rfl (by omega) (fun h43 g43 w43 u43 => ?_)
    have F44 := F40.then rfl u43
    refine wi_return (nx := 184) (r1 := 0) (r2 := 0) (r3 := 0) rfl rfl ?_
    exact k h43 g43 F44
  ·
    refine wi_aload_n (i := 0) (x := 189) (nx := 38) (r1 := 0) (r2 := 0) (r3 := 0) rfl rfl ?_
    refine wr_gr (k0 := 189) (x := 192) (nx := 41) (r1 := 4) (r2 := 3) (r3 := 0) rfl rfl (by decide) rfl ⟨rfl, rfl⟩ rfl ?_
    refine wi_iload_n (i := 2) (e := x5) (nx := 42) (r1 := 0) (r2 := 0) (r3 := 0) rfl rfl ?_
    obtain ⟨i9, ei9⟩ : ∃ q : Nat, x5 = (q : Int) := ⟨(x5).toNat, by omega⟩
    refine wr_aa (k0 := 192) (a := x5) (f := i9) (x := 192 + 8 + 2 * i9) (nx := 43) (r1 := 0) (r2 := 0) (r3 := 0) rfl (by decide) rfl (Or.inl rfl) (by omega) (by omega) (by decide) (hcr.1 192 (by decide) i9 (by omega)) ?_
    obtain ⟨k10, kk10, mk10⟩ : ∃ q, Rw q ∧ q = 192 + 8 + 2 * i9 := ⟨_, rw_lane 192 (by decide) i9 (by omega), rfl⟩
    rw [← mk10]
    refine wi_aload_n (i := 1) (x := 18) (nx := 44) (r1 := 0) (r2 := 0) (r3 := 0) rfl rfl ?_
    refine wr_gr (k0 := 18) (x := 21) (nx := 47) (r1 := 4) (r2 := 3) (r3 := 0) rfl rfl (by decide) rfl ⟨rfl, rfl⟩ rfl ?_
    refine wi_iload_n (i := 2) (e := x5) (nx := 48) (r1 := 0) (r2 := 0) (r3 := 0) rfl rfl ?_
    refine wr_aa (k0 := 21) (a := x5) (f := i9) (x := 21 + 8 + 2 * i9) (nx := 49) (r1 := 0) (r2 := 0) (r3 := 0) rfl (by decide) rfl (Or.inl rfl) (by omega) (by omega) (by decide) (hcr.1 21 (by decide) i9 (by omega)) ?_
    obtain ⟨k11, kk11, mk11⟩ : ∃ q, Rw q ∧ q = 21 + 8 + 2 * i9 := ⟨_, rw_lane 21 (by decide) i9 (by omega), rfl⟩
    rw [← mk11]
    refine wr_V (k0 := k10) (rest := []) (as := [.ref k10, .ref k11]) (nx := 52) (r1 := 155) (r2 := 1) (r3 := 5) rfl rfl rfl (of_decide_eq_true rfl) rfl rfl kk10.k kk10.1 rfl (of_decide_eq_true rfl) (of_decide_eq_true rfl) ?_
    refine ct_155_R_R hcr kk10 kk11 g6    (fun h12 g12 u12 => ?_)
    have v12 := FR.rngp (lo := 200) (hi := 207) u12 (by omega)
    have F13 := F7.then rfl (FR.rngp (lo := 200) (hi := 207) u12 (by omega))
    have F14 := u6.then rfl (FR.rngp (lo := 200) (hi := 207) u12 (by omega))
    refine wk_n ?_
    refine wr_iinc (i := 2) (n := 1) (v := x5) (fun e15 => [(2, vi e15), (0, .ref 189), (1, .ref 18)]) (nx := 55) (r1 := 0) (r2 := 0) (r3 := 0) rfl rfl (fun _ => rfl) (fun e15 (fe15 : e15 = x5 + 1) => ?_)
    refine wi_goto (nx := 58) (r1 := 32) (r2 := 0) (r3 := 0) rfl ?_
    refine wp.lo (lo := [(0, .ref 189), (1, .ref 18), (2, vi e15)]) ⟨rfl, rfl, rfl, trivial⟩ rfl ?_
    exact I6 e15 h12 ⟨g12, F13, F14, (show (0 ≤ e15 ∧ e15 ≤ 4) by omega)⟩ (show ((4 : Int) + 1 - e15).toNat < ((4 : Int) + 1 - x5).toNat by omega)
-- method 192: History.draft(LPaintBank$Line;)V
set_option maxRecDepth 100000 in
set_option maxHeartbeats 100000000 in
theorem ct_192_73_18 {L : Nat} {xs : Nat → Int32} {d b c : Nat} {h : hp} {cr : Nat → Nat → Option Nat} {Q : hp_Q} (hcr : CR cr)  (g : GI h)    (k : ∀ (h2 : hp) , GI h2 → FR [(75, 207, none)] h h2 → Q (.inl none) (hp_w h2 cr) b c) : wp (md_xa (L, xs)) (d + 2) 192 (0, [(0, .ref 73), (1, .ref 18)], [], hp_w h cr, b, c) Q := by
  have F0 : FR [(75, 207, none)] h h := FR.refl
  refine wi_aload_n (i := 0) (x := 73) (nx := 1) (r1 := 0) (r2 := 0) (r3 := 0) rfl rfl ?_
  refine wr_gr (k0 := 73) (x := 74) (nx := 4) (r1 := 9) (r2 := 0) (r3 := 0) rfl rfl (by decide) rfl ⟨rfl, rfl⟩ rfl ?_
  refine wi_aload_n (i := 0) (x := 73) (nx := 5) (r1 := 0) (r2 := 0) (r3 := 0) rfl rfl ?_
  have b1 := gi_b (lo := 0) (hi := 6) g 73 1 rfl
  refine wr_gi0 (k0 := 73) (x := h 73 1) (nx := 8) (r1 := 9) (r2 := 1) (r3 := 0) rfl rfl (by decide) rfl ⟨rfl, rfl⟩ rfl rfl ?_
  obtain ⟨i2, ei2⟩ : ∃ q : Nat, (h 73 1) = (q : Int) := ⟨(h 73 1).toNat, by omega⟩
  rcases (show (h 73 1) = 0 ∨ (h 73 1) = 1 ∨ (h 73 1) = 2 ∨ (h 73 1) = 3 ∨ (h 73 1) = 4 ∨ (h 73 1) = 5 ∨ (h 73 1) = 6 by omega) with q3 | q3 | q3 | q3 | q3 | q3 | q3
  ·
    refine wr_aa (k0 := 74) (a := h 73 1) (f := 0) (x := 75) (nx := 9) (r1 := 0) (r2 := 0) (r3 := 0) rfl (by decide) rfl (Or.inr rfl) (by omega) (by decide) (by decide) (hcr.2 0 (by decide)) ?_
    refine wi_aload_n (i := 1) (x := 18) (nx := 10) (r1 := 0) (r2 := 0) (r3 := 0) rfl rfl ?_
    refine wr_V (k0 := 75) (rest := []) (as := [.ref 75, .ref 18]) (nx := 13) (r1 := 132) (r2 := 1) (r3 := 4) rfl rfl rfl (of_decide_eq_true rfl) rfl rfl (by decide) rfl rfl (of_decide_eq_true rfl) (of_decide_eq_true rfl) ?_
    refine ct_132_75_18 hcr  g    (fun h4 g4 u4 => ?_)
    have F5 := F0.then (by decide +kernel) u4
    refine wk_n ?_
    refine wi_return (nx := 14) (r1 := 0) (r2 := 0) (r3 := 0) rfl rfl ?_
    exact k h4 g4 F5
  ·
    refine wr_aa (k0 := 74) (a := h 73 1) (f := 1) (x := 94) (nx := 9) (r1 := 0) (r2 := 0) (r3 := 0) rfl (by decide) rfl (Or.inr rfl) (by omega) (by decide) (by decide) (hcr.2 1 (by decide)) ?_
    refine wi_aload_n (i := 1) (x := 18) (nx := 10) (r1 := 0) (r2 := 0) (r3 := 0) rfl rfl ?_
    refine wr_V (k0 := 94) (rest := []) (as := [.ref 94, .ref 18]) (nx := 13) (r1 := 132) (r2 := 1) (r3 := 4) rfl rfl rfl (of_decide_eq_true rfl) rfl rfl (by decide) rfl rfl (of_decide_eq_true rfl) (of_decide_eq_true rfl) ?_
    refine ct_132_94_18 hcr  g    (fun h4 g4 u4 => ?_)
    have F5 := F0.then (by decide +kernel) u4
    refine wk_n ?_
    refine wi_return (nx := 14) (r1 := 0) (r2 := 0) (r3 := 0) rfl rfl ?_
    exact k h4 g4 F5
  ·
    refine wr_aa (k0 := 74) (a := h 73 1) (f := 2) (x := 113) (nx := 9) (r1 := 0) (r2 := 0) (r3 := 0) rfl (by decide) rfl (Or.inr rfl) (by omega) (by decide) (by decide) (hcr.2 2 (by decide)) ?_
    refine wi_aload_n (i := 1) (x := 18) (nx := 10) (r1 := 0) (r2 := 0) (r3 := 0) rfl rfl ?_
    refine wr_V (k0 := 113) (rest := []) (as := [.ref 113, .ref 18]) (nx := 13) (r1 := 132) (r2 := 1) (r3 := 4) rfl rfl rfl (of_decide_eq_true rfl) rfl rfl (by decide) rfl rfl (of_decide_eq_true rfl) (of_decide_eq_true rfl) ?_
    refine ct_132_113_18 hcr  g    (fun h4 g4 u4 => ?_)
    have F5 := F0.then (by decide +kernel) u4
    refine wk_n ?_
    refine wi_return (nx := 14) (r1 := 0) (r2 := 0) (r3 := 0) rfl rfl ?_
    exact k h4 g4 F5
  ·
    refine wr_aa (k0 := 74) (a := h 73 1) (f := 3) (x := 132) (nx := 9) (r1 := 0) (r2 := 0) (r3 := 0) rfl (by decide) rfl (Or.inr rfl) (by omega) (by decide) (by decide) (hcr.2 3 (by decide)) ?_
    refine wi_aload_n (i := 1) (x := 18) (nx := 10) (r1 := 0) (r2 := 0) (r3 := 0) rfl rfl ?_
    refine wr_V (k0 := 132) (rest := []) (as := [.ref 132, .ref 18]) (nx := 13) (r1 := 132) (r2 := 1) (r3 := 4) rfl rfl rfl (of_decide_eq_true rfl) rfl rfl (by decide) rfl rfl (of_decide_eq_true rfl) (of_decide_eq_true rfl) ?_
    refine ct_132_132_18 hcr  g    (fun h4 g4 u4 => ?_)
    have F5 := F0.then (by decide +kernel) u4
    refine wk_n ?_
    refine wi_return (nx := 14) (r1 := 0) (r2 := 0) (r3 := 0) rfl rfl ?_
    exact k h4 g4 F5
  ·
    refine wr_aa (k0 := 74) (a := h 73 1) (f := 4) (x := 151) (nx := 9) (r1 := 0) (r2 := 0) (r3 := 0) rfl (by decide) rfl (Or.inr rfl) (by omega) (by decide) (by decide) (hcr.2 4 (by decide)) ?_
    refine wi_aload_n (i := 1) (x := 18) (nx := 10) (r1 := 0) (r2 := 0) (r3 := 0) rfl rfl ?_
    refine wr_V (k0 := 151) (rest := []) (as := [.ref 151, .ref 18]) (nx := 13) (r1 := 132) (r2 := 1) (r3 := 4) rfl rfl rfl (of_decide_eq_true rfl) rfl rfl (by decide) rfl rfl (of_decide_eq_true rfl) (of_decide_eq_true rfl) ?_
    refine ct_132_151_18 hcr  g    (fun h4 g4 u4 => ?_)
    have F5 := F0.then (by decide +kernel) u4
    refine wk_n ?_
    refine wi_return (nx := 14) (r1 := 0) (r2 := 0) (r3 := 0) rfl rfl ?_
    exact k h4 g4 F5
  ·
    refine wr_aa (k0 := 74) (a := h 73 1) (f := 5) (x := 170) (nx := 9) (r1 := 0) (r2 := 0) (r3 := 0) rfl (by decide) rfl (Or.inr rfl) (by omega) (by decide) (by decide) (hcr.2 5 (by decide)) ?_
    refine wi_aload_n (i := 1) (x := 18) (nx := 10) (r1 := 0) (r2 := 0) (r3 := 0) rfl rfl ?_
    refine wr_V (k0 := 170) (rest := []) (as := [.ref 170, .ref 18]) (nx := 13) (r1 := 132) (r2 := 1) (r3 := 4) rfl rfl rfl (of_decide_eq_true rfl) rfl rfl (by decide) rfl rfl (of_decide_eq_true rfl) (of_decide_eq_true rfl) ?_
    refine ct_132_170_18 hcr  g    (fun h4 g4 u4 => ?_)
    have F5 := F0.then (by decide +kernel) u4
    refine wk_n ?_
    refine wi_return (nx := 14) (r1 := 0) (r2 := 0) (r3 := 0) rfl rfl ?_
    exact k h4 g4 F5
  ·
    refine wr_aa (k0 := 74) (a := h 73 1) (f := 6) (x := 189) (nx := 9) (r1 := 0) (r2 := 0) (r3 := 0) rfl (by decide) rfl (Or.inr rfl) (by omega) (by decide) (by decide) (hcr.2 6 (by decide)) ?_
    refine wi_aload_n (i := 1) (x := 18) (nx := 10) (r1 := 0) (r2 := 0) (r3 := 0) rfl rfl ?_
    refine wr_V (k0 := 189) (rest := []) (as := [.ref 189, .ref 18]) (nx := 13) (r1 := 132) (r2 := 1) (r3 := 4) rfl rfl rfl (of_decide_eq_true rfl) rfl rfl (by decide) rfl rfl (of_decide_eq_true rfl) (of_decide_eq_true rfl) ?_
    refine ct_132_189_18 hcr  g    (fun h4 g4 u4 => ?_)
    have F5 := F0.then (by decide +kernel) u4
    refine wk_n ?_
    refine wi_return (nx := 14) (r1 := 0) (r2 := 0) (r3 := 0) rfl rfl ?_
    exact k h4 g4 F5
-- method 154: Row.at(I)I
set_option maxRecDepth 100000 in
set_option maxHeartbeats 100000000 in
theorem ct_154_R {L : Nat} {xs : Nat → Int32} {d b c : Nat} {h : hp} {cr : Nat → Nat → Option Nat} {Q : hp_Q} (hcr : CR cr)  {k0 : Nat} (kk0 : Rw k0) (g : GI h) (a0 : Int) (q0_ : -2147483648 ≤ a0 ∧ a0 ≤ 2147483647)  (k : ∀ (z0 : Int), (-2147483648 ≤ z0 ∧ z0 ≤ 2147483647) → Q (.inl (some (vi z0))) (hp_w h cr) b c) : wp (md_xa (L, xs)) d 154 (0, [(0, .ref k0), (1, vi a0)], [], hp_w h cr, b, c) Q := by
  have F0 : FR [] h h := FR.refl
  have nk0 := kk0.2.2.1
  unfold md_nW at nk0
  refine wi_iload_n (i := 1) (e := a0) (nx := 1) (r1 := 0) (r2 := 0) (r3 := 0) rfl rfl ?_
  refine wi_if (cd := .lt) (nx := 4) (r1 := 12) (r2 := 0) (r3 := 0) rfl (by omega) (fun (q1 : a0 < 0) => ?_) (fun (q1 : ¬ (a0 < 0)) => ?_)
  ·
    refine wi_iconst (n := (-1)) (nx := 13) (r1 := 0) (r2 := 0) (r3 := 0) rfl ?_
    refine wi_goto (nx := 16) (r1 := 22) (r2 := 0) (r3 := 0) rfl ?_
    refine wi_ireturn (nx := 23) (r1 := 0) (r2 := 0) (r3 := 0) rfl rfl ?_
    exact k (-1) (by omega)
  ·
    refine wi_iload_n (i := 1) (e := a0) (nx := 5) (r1 := 0) (r2 := 0) (r3 := 0) rfl rfl ?_
    refine wi_aload_n (i := 0) (x := k0) (nx := 6) (r1 := 0) (r2 := 0) (r3 := 0) rfl rfl ?_
    have b2 := gi_b (lo := 0) (hi := 12) g k0 1 kk0.2.2.2.1
    refine wr_gi0 (k0 := k0) (x := h k0 1) (nx := 9) (r1 := 5) (r2 := 1) (r3 := 0) rfl rfl kk0.k kk0.1 ⟨rfl, rfl⟩ rfl rfl ?_
    refine wi_icmp (cd := .lt) (nx := 12) (r1 := 16) (r2 := 0) (r3 := 0) rfl (by omega) (by omega) (fun (q3 : a0 < (h k0 1)) => ?_) (fun (q3 : ¬ (a0 < (h k0 1))) => ?_)
    ·
      refine wi_aload_n (i := 0) (x := k0) (nx := 17) (r1 := 0) (r2 := 0) (r3 := 0) rfl rfl ?_
      refine wr_gr (k0 := k0) (x := k0 + 1) (nx := 20) (r1 := 5) (r2 := 0) (r3 := 0) rfl rfl kk0.k kk0.1 ⟨rfl, rfl⟩ rfl ?_
      refine wi_iload_n (i := 1) (e := a0) (nx := 21) (r1 := 0) (r2 := 0) (r3 := 0) rfl rfl ?_
      obtain ⟨i4, ei4⟩ : ∃ q : Nat, a0 = (q : Int) := ⟨(a0).toNat, by omega⟩
      have b5 := gi_b (lo := -2147483648) (hi := 2147483647) g (k0 + 1) i4 (kk0.2.2.2.2 _)
      refine wr_ia (k0 := k0 + 1) (a := a0) (f := i4) (x := h (k0 + 1) i4) (nx := 22) (r1 := 0) (r2 := 0) (r3 := 0) rfl kk0.2.2.1 kk0.2.1 (by omega) (by omega) (by decide) rfl ?_
      refine wi_ireturn (nx := 23) (r1 := 0) (r2 := 0) (r3 := 0) rfl rfl ?_
      exact k (h (k0 + 1) i4) (by omega)
    ·
      refine wi_iconst (n := (-1)) (nx := 13) (r1 := 0) (r2 := 0) (r3 := 0) rfl ?_
      refine wi_goto (nx := 16) (r1 := 22) (r2 := 0) (r3 := 0) rfl ?_
      refine wi_ireturn (nx := 23) (r1 := 0) (r2 := 0) (r3 := 0) rfl rfl ?_
      exact k (-1) (by omega)
-- method 135: Line.firstIsReady()Z
set_option maxRecDepth 100000 in
set_option maxHeartbeats 100000000 in
theorem ct_135_18 {L : Nat} {xs : Nat → Int32} {d b c : Nat} {h : hp} {cr : Nat → Nat → Option Nat} {Q : hp_Q} (hcr : CR cr)  (g : GI h)    (k : ∀ (z0 : Int), (0 ≤ z0 ∧ z0 ≤ 1) → Q (.inl (some (vi z0))) (hp_w h cr) b c) : wp (md_xa (L, xs)) (d + 1) 135 (0, [(0, .ref 18)], [], hp_w h cr, b, c) Q := by
  have F0 : FR [] h h := FR.refl
  refine wi_aload_n (i := 0) (x := 18) (nx := 1) (r1 := 0) (r2 := 0) (r3 := 0) rfl rfl ?_
  refine wr_gr (k0 := 18) (x := 22) (nx := 4) (r1 := 4) (r2 := 4) (r3 := 0) rfl rfl (by decide) rfl ⟨rfl, rfl⟩ rfl ?_
  have b1 := gi_b (lo := 0) (hi := 12) g 22 1 rfl
  refine wr_gi0 (k0 := 22) (x := h 22 1) (nx := 7) (r1 := 5) (r2 := 1) (r3 := 0) rfl rfl (by decide) rfl ⟨rfl, rfl⟩ rfl rfl ?_
  refine wi_if (cd := .le) (nx := 10) (r1 := 29) (r2 := 0) (r3 := 0) rfl (by omega) (fun (q2 : (h 22 1) ≤ 0) => ?_) (fun (q2 : ¬ ((h 22 1) ≤ 0)) => ?_)
  ·
    refine wi_iconst (n := 0) (nx := 30) (r1 := 0) (r2 := 0) (r3 := 0) rfl ?_
    refine wi_zreturn (nx := 31) (r1 := 0) (r2 := 0) (r3 := 0) rfl rfl (by omega) ?_
    exact k 0 (by omega)
  ·
    refine wi_aload_n (i := 0) (x := 18) (nx := 11) (r1 := 0) (r2 := 0) (r3 := 0) rfl rfl ?_
    have b3 := gi_b (lo := -2147483648) (hi := 2147483647) g 18 10 rfl
    refine wr_gi0 (k0 := 18) (x := h 18 10) (nx := 14) (r1 := 4) (r2 := 10) (r3 := 0) rfl rfl (by decide) rfl ⟨rfl, rfl⟩ rfl rfl ?_
    refine wi_aload_n (i := 0) (x := 18) (nx := 15) (r1 := 0) (r2 := 0) (r3 := 0) rfl rfl ?_
    refine wr_gr (k0 := 18) (x := 24) (nx := 18) (r1 := 4) (r2 := 5) (r3 := 0) rfl rfl (by decide) rfl ⟨rfl, rfl⟩ rfl ?_
    refine wi_iconst (n := 0) (nx := 19) (r1 := 0) (r2 := 0) (r3 := 0) rfl ?_
    refine wr_V (k0 := 24) (rest := [vi (h 18 10)]) (as := [.ref 24, vi 0]) (nx := 22) (r1 := 154) (r2 := 1) (r3 := 5) rfl rfl rfl (of_decide_eq_true rfl) rfl rfl (by decide) rfl rfl (of_decide_eq_true rfl) (of_decide_eq_true rfl) ?_
    refine ct_154_R hcr rw_24 g 0 (by omega)  (fun z5  (fz5 : -2147483648 ≤ z5 ∧ z5 ≤ 2147483647) => ?_)
    refine wk_i ?_
    refine wi_icmp (cd := .lt) (nx := 25) (r1 := 29) (r2 := 0) (r3 := 0) rfl (by omega) (by omega) (fun (q6 : (h 18 10) < z5) => ?_) (fun (q6 : ¬ ((h 18 10) < z5)) => ?_)
    ·
      refine wi_iconst (n := 0) (nx := 30) (r1 := 0) (r2 := 0) (r3 := 0) rfl ?_
      refine wi_zreturn (nx := 31) (r1 := 0) (r2 := 0) (r3 := 0) rfl rfl (by omega) ?_
      exact k 0 (by omega)
    ·
      refine wi_iconst (n := 1) (nx := 26) (r1 := 0) (r2 := 0) (r3 := 0) rfl ?_
      refine wi_goto (nx := 29) (r1 := 30) (r2 := 0) (r3 := 0) rfl ?_
      refine wi_zreturn (nx := 31) (r1 := 0) (r2 := 0) (r3 := 0) rfl rfl (by omega) ?_
      exact k 1 (by omega)
-- method 157: Row.dropFirst()V
set_option maxRecDepth 100000 in
set_option maxHeartbeats 100000000 in
theorem ct_157_R {L : Nat} {xs : Nat → Int32} {d b c : Nat} {h : hp} {cr : Nat → Nat → Option Nat} {Q : hp_Q} (hcr : CR cr)  {k0 : Nat} (kk0 : Rw k0) (g : GI h)    (k : ∀ (h2 : hp) , GI h2 → FR [(k0, k0 + 1, none)] h h2 → Q (.inl none) (hp_w h2 cr) b c) : wp (md_xa (L, xs)) d 157 (0, [(0, .ref k0)], [], hp_w h cr, b, c) Q := by
  have F0 : FR [(k0, k0 + 1, none)] h h := FR.refl
  have nk0 := kk0.2.2.1
  unfold md_nW at nk0
  refine wi_aload_n (i := 0) (x := k0) (nx := 1) (r1 := 0) (r2 := 0) (r3 := 0) rfl rfl ?_
  have b1 := gi_b (lo := 0) (hi := 12) g k0 1 kk0.2.2.2.1
  refine wr_gi0 (k0 := k0) (x := h k0 1) (nx := 4) (r1 := 5) (r2 := 1) (r3 := 0) rfl rfl kk0.k kk0.1 ⟨rfl, rfl⟩ rfl rfl ?_
  refine wi_if (cd := .le) (nx := 7) (r1 := 34) (r2 := 0) (r3 := 0) rfl (by omega) (fun (q2 : (h k0 1) ≤ 0) => ?_) (fun (q2 : ¬ ((h k0 1) ≤ 0)) => ?_)
  ·
    refine wi_return (nx := 35) (r1 := 0) (r2 := 0) (r3 := 0) rfl rfl ?_
    exact k h g F0
  ·
    refine wi_aload_n (i := 0) (x := k0) (nx := 8) (r1 := 0) (r2 := 0) (r3 := 0) rfl rfl ?_
    refine wi_dup (nx := 9) (r1 := 0) (r2 := 0) (r3 := 0) rfl rfl ?_
    refine wr_gi0 (k0 := k0) (x := h k0 1) (nx := 12) (r1 := 5) (r2 := 1) (r3 := 0) rfl rfl kk0.k kk0.1 ⟨rfl, rfl⟩ rfl rfl ?_
    refine wi_iconst (n := 1) (nx := 13) (r1 := 0) (r2 := 0) (r3 := 0) rfl ?_
    refine wr_sub (nx := 14) (r1 := 0) (r2 := 0) (r3 := 0) rfl (fun e3 (fe3 : e3 = (h k0 1) - 1) => ?_)
    refine wr_pf0 (k0 := k0) (x := e3) (bl := 0) (bh := 12) (nx := 17) (r1 := 5) (r2 := 1) (r3 := 0) rfl kk0.k kk0.1 ⟨rfl, rfl⟩ rfl rfl g kk0.2.2.2.1 (by omega) (fun h4 g4 w4 u4 => ?_)
    have F5 := F0.trans (FR.rngp (lo := k0) (hi := k0 + 1) u4 (by omega))
    refine wi_aload_n (i := 0) (x := k0) (nx := 18) (r1 := 0) (r2 := 0) (r3 := 0) rfl rfl ?_
    refine wr_gr (k0 := k0) (x := k0 + 1) (nx := 21) (r1 := 5) (r2 := 0) (r3 := 0) rfl rfl kk0.k kk0.1 ⟨rfl, rfl⟩ rfl ?_
    refine wi_iconst (n := 1) (nx := 22) (r1 := 0) (r2 := 0) (r3 := 0) rfl ?_
    refine wi_aload_n (i := 0) (x := k0) (nx := 23) (r1 := 0) (r2 := 0) (r3 := 0) rfl rfl ?_
    refine wr_gr (k0 := k0) (x := k0 + 1) (nx := 26) (r1 := 5) (r2 := 0) (r3 := 0) rfl rfl kk0.k kk0.1 ⟨rfl, rfl⟩ rfl ?_
    refine wi_iconst (n := 0) (nx := 27) (r1 := 0) (r2 := 0) (r3 := 0) rfl ?_
    refine wi_aload_n (i := 0) (x := k0) (nx := 28) (r1 := 0) (r2 := 0) (r3 := 0) rfl rfl ?_
    refine wr_gi0 (k0 := k0) (x := e3) (nx := 31) (r1 := 5) (r2 := 1) (r3 := 0) rfl rfl kk0.k kk0.1 ⟨rfl, rfl⟩ rfl w4 ?_
    refine wr_cpy (s0 := k0 + 1) (d0 := k0 + 1) (n0 := 12) (n1 := 12) (sp := 1) (dp := 0) (n := e3) (sl := -2147483648) (sh := 2147483647) (dl := -2147483648) (dh := 2147483647) (nx := 34) (r1 := 0) (r2 := 101) (r3 := 0) rfl rfl (of_decide_eq_true rfl) kk0.2.2.1 kk0.2.2.1 kk0.2.1 kk0.2.1 (by omega) (kk0.2.2.2.2) (kk0.2.2.2.2) (by omega) g4 (fun h6 g6 y6 u6 => ?_)
    have F7 := F5.trans (FR.rngp (lo := k0) (hi := k0 + 1) u6 (by omega))
    refine wi_return (nx := 35) (r1 := 0) (r2 := 0) (r3 := 0) rfl rfl ?_
    exact k h6 g6 F7
-- method 158: Row.add(I)V
set_option maxRecDepth 100000 in
set_option maxHeartbeats 100000000 in
theorem ct_158_R {L : Nat} {xs : Nat → Int32} {d b c : Nat} {h : hp} {cr : Nat → Nat → Option Nat} {Q : hp_Q} (hcr : CR cr)  {k0 : Nat} (kk0 : Rw k0) (g : GI h) (a0 : Int) (q0_ : -2147483648 ≤ a0 ∧ a0 ≤ 2147483647)  (k : ∀ (h2 : hp) , GI h2 → FR [(k0, k0 + 1, none)] h h2 → Q (.inl none) (hp_w h2 cr) b c) : wp (md_xa (L, xs)) d 158 (0, [(0, .ref k0), (1, vi a0)], [], hp_w h cr, b, c) Q := by
  have F0 : FR [(k0, k0 + 1, none)] h h := FR.refl
  have nk0 := kk0.2.2.1
  unfold md_nW at nk0
  refine wi_aload_n (i := 0) (x := k0) (nx := 1) (r1 := 0) (r2 := 0) (r3 := 0) rfl rfl ?_
  have b1 := gi_b (lo := 0) (hi := 12) g k0 1 kk0.2.2.2.1
  refine wr_gi0 (k0 := k0) (x := h k0 1) (nx := 4) (r1 := 5) (r2 := 1) (r3 := 0) rfl rfl kk0.k kk0.1 ⟨rfl, rfl⟩ rfl rfl ?_
  refine wi_aload_n (i := 0) (x := k0) (nx := 5) (r1 := 0) (r2 := 0) (r3 := 0) rfl rfl ?_
  refine wr_gr (k0 := k0) (x := k0 + 1) (nx := 8) (r1 := 5) (r2 := 0) (r3 := 0) rfl rfl kk0.k kk0.1 ⟨rfl, rfl⟩ rfl ?_
  refine wr_al (k0 := k0 + 1) (e := 12) (nx := 9) (r1 := 0) (r2 := 0) (r3 := 0) rfl kk0.2.2.1 kk0.2.1 rfl ?_
  refine wi_icmp (cd := .ge) (nx := 12) (r1 := 32) (r2 := 0) (r3 := 0) rfl (by omega) (by omega) (fun (q2 : 12 ≤ (h k0 1)) => ?_) (fun (q2 : ¬ (12 ≤ (h k0 1))) => ?_)
  ·
    refine wi_return (nx := 33) (r1 := 0) (r2 := 0) (r3 := 0) rfl rfl ?_
    exact k h g F0
  ·
    refine wi_aload_n (i := 0) (x := k0) (nx := 13) (r1 := 0) (r2 := 0) (r3 := 0) rfl rfl ?_
    refine wr_gr (k0 := k0) (x := k0 + 1) (nx := 16) (r1 := 5) (r2 := 0) (r3 := 0) rfl rfl kk0.k kk0.1 ⟨rfl, rfl⟩ rfl ?_
    refine wi_aload_n (i := 0) (x := k0) (nx := 17) (r1 := 0) (r2 := 0) (r3 := 0) rfl rfl ?_
    refine wr_gi0 (k0 := k0) (x := h k0 1) (nx := 20) (r1 := 5) (r2 := 1) (r3 := 0) rfl rfl kk0.k kk0.1 ⟨rfl, rfl⟩ rfl rfl ?_
    refine wi_iload_n (i := 1) (e := a0) (nx := 21) (r1 := 0) (r2 := 0) (r3 := 0) rfl rfl ?_
    obtain ⟨i3, ei3⟩ : ∃ q : Nat, (h k0 1) = (q : Int) := ⟨(h k0 1).toNat, by omega⟩
    refine wr_is (k0 := k0 + 1) (a := h k0 1) (f := i3) (x := a0) (bl := -2147483648) (bh := 2147483647) (nx := 22) (r1 := 0) (r2 := 0) (r3 := 0) rfl kk0.2.2.1 kk0.2.1 (by omega) (by omega) (by decide) g (kk0.2.2.2.2 _) (by omega) (fun h4 g4 w4 u4 => ?_)
    have F5 := F0.trans (FR.rngp (lo := k0) (hi := k0 + 1) u4 (by omega))
    refine wi_aload_n (i := 0) (x := k0) (nx := 23) (r1 := 0) (r2 := 0) (r3 := 0) rfl rfl ?_
    refine wi_dup (nx := 24) (r1 := 0) (r2 := 0) (r3 := 0) rfl rfl ?_
    refine wr_gi0 (k0 := k0) (x := h k0 1) (nx := 27) (r1 := 5) (r2 := 1) (r3 := 0) rfl rfl kk0.k kk0.1 ⟨rfl, rfl⟩ rfl (u4 k0 1 (fn_a (by omega) fn_0)) ?_
    refine wi_iconst (n := 1) (nx := 28) (r1 := 0) (r2 := 0) (r3 := 0) rfl ?_
    refine wr_add (nx := 29) (r1 := 0) (r2 := 0) (r3 := 0) rfl (fun e6 (fe6 : e6 = (h k0 1) + 1) => ?_)
    refine wr_pf0 (k0 := k0) (x := e6) (bl := 0) (bh := 12) (nx := 32) (r1 := 5) (r2 := 1) (r3 := 0) rfl kk0.k kk0.1 ⟨rfl, rfl⟩ rfl rfl g4 kk0.2.2.2.1 (by omega) (fun h7 g7 w7 u7 => ?_)
    have F8 := F5.trans (FR.rngp (lo := k0) (hi := k0 + 1) u7 (by omega))
    refine wi_return (nx := 33) (r1 := 0) (r2 := 0) (r3 := 0) rfl rfl ?_
    exact k h7 g7 F8
-- method 138: Line.comeBack(I)I
set_option maxRecDepth 100000 in
set_option maxHeartbeats 100000000 in
theorem ct_138_18 {L : Nat} {xs : Nat → Int32} {d b c : Nat} {h : hp} {cr : Nat → Nat → Option Nat} {Q : hp_Q} (hcr : CR cr)  (g : GI h) (a0 : Int) (q0_ : -2147483648 ≤ a0 ∧ a0 ≤ 2147483647)  (k : ∀ (h2 : hp) (z0 : Int) , GI h2 → FR [(22, 23, none), (24, 25, none), (29, 36, none), (18, 18, some (16, 16))] h h2 → (-2147483648 ≤ z0 ∧ z0 ≤ 2147483647) → Q (.inl (some (vi z0))) (hp_w h2 cr) b c) : wp (md_xa (L, xs)) (d + 2) 138 (0, [(0, .ref 18), (1, vi a0)], [], hp_w h cr, b, c) Q := by
  have F0 : FR [(22, 23, none), (24, 25, none), (29, 36, none), (18, 18, some (16, 16))] h h := FR.refl
  refine wi_aload_n (i := 0) (x := 18) (nx := 1) (r1 := 0) (r2 := 0) (r3 := 0) rfl rfl ?_
  refine wr_V (k0 := 18) (rest := []) (as := [.ref 18]) (nx := 4) (r1 := 135) (r2 := 0) (r3 := 4) rfl rfl rfl (of_decide_eq_true rfl) rfl rfl (by decide) rfl rfl (of_decide_eq_true rfl) (of_decide_eq_true rfl) ?_
  refine ct_135_18 hcr  g    (fun z2  (fz2 : 0 ≤ z2 ∧ z2 ≤ 1) => ?_)
  refine wk_i ?_
  refine wi_if (cd := .eq) (nx := 7) (r1 := 15) (r2 := 0) (r3 := 0) rfl (by omega) (fun (q3 : z2 = 0) => ?_) (fun (q3 : ¬ (z2 = 0)) => ?_)
  ·
    refine wi_iconst (n := (-1)) (nx := 16) (r1 := 0) (r2 := 0) (r3 := 0) rfl ?_
    refine wi_ireturn (nx := 17) (r1 := 0) (r2 := 0) (r3 := 0) rfl rfl ?_
    exact k h (-1) g F0 (by omega)
  ·
    refine wi_aload_n (i := 0) (x := 18) (nx := 8) (r1 := 0) (r2 := 0) (r3 := 0) rfl rfl ?_
    refine wi_iload_n (i := 1) (e := a0) (nx := 9) (r1 := 0) (r2 := 0) (r3 := 0) rfl rfl ?_
    refine wr_V (k0 := 18) (rest := []) (as := [.ref 18, vi a0]) (nx := 12) (r1 := 137) (r2 := 1) (r3 := 4) rfl rfl rfl (of_decide_eq_true rfl) rfl rfl (by decide) rfl rfl (of_decide_eq_true rfl) (of_decide_eq_true rfl) ?_
    refine wi_iload_n (i := 1) (e := a0) (nx := 1) (r1 := 0) (r2 := 0) (r3 := 0) rfl rfl ?_
    refine wi_if (cd := .lt) (nx := 4) (r1 := 40) (r2 := 0) (r3 := 0) rfl (by omega) (fun (q4 : a0 < 0) => ?_) (fun (q4 : ¬ (a0 < 0)) => ?_)
    ·
      refine wi_iconst (n := 0) (nx := 41) (r1 := 0) (r2 := 0) (r3 := 0) rfl ?_
      refine wi_zreturn (nx := 42) (r1 := 0) (r2 := 0) (r3 := 0) rfl rfl (by omega) ?_
      refine wk_i ?_
      refine wi_if (cd := .ne) (nx := 15) (r1 := 17) (r2 := 0) (r3 := 0) rfl (by omega) (fun (q5 : 0 ≠ 0) => by exfalso; omega) (fun (q5 : ¬ (0 ≠ 0)) => ?_)
      refine wi_iconst (n := (-1)) (nx := 16) (r1 := 0) (r2 := 0) (r3 := 0) rfl ?_
      refine wi_ireturn (nx := 17) (r1 := 0) (r2 := 0) (r3 := 0) rfl rfl ?_
      exact k h (-1) g F0 (by omega)
    ·
      refine wi_iload_n (i := 1) (e := a0) (nx := 5) (r1 := 0) (r2 := 0) (r3 := 0) rfl rfl ?_
      refine wi_aload_n (i := 0) (x := 18) (nx := 6) (r1 := 0) (r2 := 0) (r3 := 0) rfl rfl ?_
      refine wr_gr (k0 := 18) (x := 3) (nx := 9) (r1 := 4) (r2 := 0) (r3 := 0) rfl rfl (by decide) rfl ⟨rfl, rfl⟩ rfl ?_
      have b5 := gi_b (lo := 0) (hi := 4) g 3 1 rfl
      refine wr_gi0 (k0 := 3) (x := h 3 1) (nx := 12) (r1 := 2) (r2 := 1) (r3 := 0) rfl rfl (by decide) rfl ⟨rfl, rfl⟩ rfl rfl ?_
      refine wi_icmp (cd := .ge) (nx := 15) (r1 := 40) (r2 := 0) (r3 := 0) rfl (by omega) (by omega) (fun (q6 : (h 3 1) ≤ a0) => ?_) (fun (q6 : ¬ ((h 3 1) ≤ a0)) => ?_)
      ·
        refine wi_iconst (n := 0) (nx := 41) (r1 := 0) (r2 := 0) (r3 := 0) rfl ?_
        refine wi_zreturn (nx := 42) (r1 := 0) (r2 := 0) (r3 := 0) rfl rfl (by omega) ?_
        refine wk_i ?_
        refine wi_if (cd := .ne) (nx := 15) (r1 := 17) (r2 := 0) (r3 := 0) rfl (by omega) (fun (q7 : 0 ≠ 0) => by exfalso; omega) (fun (q7 : ¬ (0 ≠ 0)) => ?_)
        refine wi_iconst (n := (-1)) (nx := 16) (r1 := 0) (r2 := 0) (r3 := 0) rfl ?_
        refine wi_ireturn (nx := 17) (r1 := 0) (r2 := 0) (r3 := 0) rfl rfl ?_
        exact k h (-1) g F0 (by omega)
      ·
        refine wi_aload_n (i := 0) (x := 18) (nx := 16) (r1 := 0) (r2 := 0) (r3 := 0) rfl rfl ?_
        refine wr_gr (k0 := 18) (x := 21) (nx := 19) (r1 := 4) (r2 := 3) (r3 := 0) rfl rfl (by decide) rfl ⟨rfl, rfl⟩ rfl ?_
        refine wi_iload_n (i := 1) (e := a0) (nx := 20) (r1 := 0) (r2 := 0) (r3 := 0) rfl rfl ?_
        obtain ⟨i7, ei7⟩ : ∃ q : Nat, a0 = (q : Int) := ⟨(a0).toNat, by omega⟩
        refine wr_aa (k0 := 21) (a := a0) (f := i7) (x := 21 + 8 + 2 * i7) (nx := 21) (r1 := 0) (r2 := 0) (r3 := 0) rfl (by decide) rfl (Or.inl rfl) (by omega) (by omega) (by decide) (hcr.1 21 (by decide) i7 (by omega)) ?_
        obtain ⟨k8, kk8, mk8⟩ : ∃ q, Rw q ∧ q = 21 + 8 + 2 * i7 := ⟨_, rw_lane 21 (by decide) i7 (by omega), rfl⟩
        rw [← mk8]
        have b9 := gi_b (lo := 0) (hi := 12) g k8 1 kk8.2.2.2.1
        refine wr_gi0 (k0 := k8) (x := h k8 1) (nx := 24) (r1 := 5) (r2 := 1) (r3 := 0) rfl rfl kk8.k kk8.1 ⟨rfl, rfl⟩ rfl rfl ?_
        refine wi_aload_n (i := 0) (x := 18) (nx := 25) (r1 := 0) (r2 := 0) (r3 := 0) rfl rfl ?_
        refine wr_gr (k0 := 18) (x := 3) (nx := 28) (r1 := 4) (r2 := 0) (r3 := 0) rfl rfl (by decide) rfl ⟨rfl, rfl⟩ rfl ?_
        refine wr_gr (k0 := 3) (x := 6) (nx := 31) (r1 := 2) (r2 := 12) (r3 := 0) rfl rfl (by decide) rfl ⟨rfl, rfl⟩ rfl ?_
        refine wi_iload_n (i := 1) (e := a0) (nx := 32) (r1 := 0) (r2 := 0) (r3 := 0) rfl rfl ?_
        have b10 := gi_b (lo := -2147483648) (hi := 2147483647) g 6 i7 rfl
        refine wr_ia (k0 := 6) (a := a0) (f := i7) (x := h 6 i7) (nx := 33) (r1 := 0) (r2 := 0) (r3 := 0) rfl (by decide) rfl (by omega) (by omega) (by decide) rfl ?_
        refine wi_icmp (cd := .ge) (nx := 36) (r1 := 40) (r2 := 0) (r3 := 0) rfl (by omega) (by omega) (fun (q11 : (h 6 i7) ≤ (h k8 1)) => ?_) (fun (q11 : ¬ ((h 6 i7) ≤ (h k8 1))) => ?_)
        ·
          refine wi_iconst (n := 0) (nx := 41) (r1 := 0) (r2 := 0) (r3 := 0) rfl ?_
          refine wi_zreturn (nx := 42) (r1 := 0) (r2 := 0) (r3 := 0) rfl rfl (by omega) ?_
          refine wk_i ?_
          refine wi_if (cd := .ne) (nx := 15) (r1 := 17) (r2 := 0) (r3 := 0) rfl (by omega) (fun (q12 : 0 ≠ 0) => by exfalso; omega) (fun (q12 : ¬ (0 ≠ 0)) => ?_)
          refine wi_iconst (n := (-1)) (nx := 16) (r1 := 0) (r2 := 0) (r3 := 0) rfl ?_
          refine wi_ireturn (nx := 17) (r1 := 0) (r2 := 0) (r3 := 0) rfl rfl ?_
          exact k h (-1) g F0 (by omega)
        ·
          refine wi_iconst (n := 1) (nx := 37) (r1 := 0) (r2 := 0) (r3 := 0) rfl ?_
          refine wi_goto (nx := 40) (r1 := 41) (r2 := 0) (r3 := 0) rfl ?_
          refine wi_zreturn (nx := 42) (r1 := 0) (r2 := 0) (r3 := 0) rfl rfl (by omega) ?_
          refine wk_i ?_
          refine wi_if (cd := .ne) (nx := 15) (r1 := 17) (r2 := 0) (r3 := 0) rfl (by omega) (fun (q12 : 1 ≠ 0) => ?_) (fun (q12 : ¬ (1 ≠ 0)) => by exfalso; omega)
          refine wi_aload_n (i := 0) (x := 18) (nx := 18) (r1 := 0) (r2 := 0) (r3 := 0) rfl rfl ?_
          refine wr_gr (k0 := 18) (x := 22) (nx := 21) (r1 := 4) (r2 := 4) (r3 := 0) rfl rfl (by decide) rfl ⟨rfl, rfl⟩ rfl ?_
          refine wi_iconst (n := 0) (nx := 22) (r1 := 0) (r2 := 0) (r3 := 0) rfl ?_
          refine wr_V (k0 := 22) (rest := []) (as := [.ref 22, vi 0]) (nx := 25) (r1 := 154) (r2 := 1) (r3 := 5) rfl rfl rfl (of_decide_eq_true rfl) rfl rfl (by decide) rfl rfl (of_decide_eq_true rfl) (of_decide_eq_true rfl) ?_
          refine ct_154_R hcr rw_22 g 0 (by omega)  (fun z14  (fz14 : -2147483648 ≤ z14 ∧ z14 ≤ 2147483647) => ?_)
          refine wk_i ?_
          refine wi_istore_n (i := 2) (e := z14) (lo2 := [(2, vi z14), (0, .ref 18), (1, vi a0)]) (nx := 26) (r1 := 0) (r2 := 0) (r3 := 0) rfl rfl ?_
          refine wi_aload_n (i := 0) (x := 18) (nx := 27) (r1 := 0) (r2 := 0) (r3 := 0) rfl rfl ?_
          refine wr_gr (k0 := 18) (x := 22) (nx := 30) (r1 := 4) (r2 := 4) (r3 := 0) rfl rfl (by decide) rfl ⟨rfl, rfl⟩ rfl ?_
          refine wr_V (k0 := 22) (rest := []) (as := [.ref 22]) (nx := 33) (r1 := 157) (r2 := 0) (r3 := 5) rfl rfl rfl (of_decide_eq_true rfl) rfl rfl (by decide) rfl rfl (of_decide_eq_true rfl) (of_decide_eq_true rfl) ?_
          refine ct_157_R hcr rw_22 g    (fun h15 g15 u15 => ?_)
          have F16 := F0.then rfl u15
          refine wk_n ?_
          refine wi_aload_n (i := 0) (x := 18) (nx := 34) (r1 := 0) (r2 := 0) (r3 := 0) rfl rfl ?_
          refine wr_gr (k0 := 18) (x := 24) (nx := 37) (r1 := 4) (r2 := 5) (r3 := 0) rfl rfl (by decide) rfl ⟨rfl, rfl⟩ rfl ?_
          refine wr_V (k0 := 24) (rest := []) (as := [.ref 24]) (nx := 40) (r1 := 157) (r2 := 0) (r3 := 5) rfl rfl rfl (of_decide_eq_true rfl) rfl rfl (by decide) rfl rfl (of_decide_eq_true rfl) (of_decide_eq_true rfl) ?_
          refine ct_157_R hcr rw_24 g15    (fun h17 g17 u17 => ?_)
          have F18 := F16.then rfl u17
          refine wk_n ?_
          refine wi_aload_n (i := 0) (x := 18) (nx := 41) (r1 := 0) (r2 := 0) (r3 := 0) rfl rfl ?_
          refine wr_gr (k0 := 18) (x := 21) (nx := 44) (r1 := 4) (r2 := 3) (r3 := 0) rfl rfl (by decide) rfl ⟨rfl, rfl⟩ rfl ?_
          refine wi_iload_n (i := 1) (e := a0) (nx := 45) (r1 := 0) (r2 := 0) (r3 := 0) rfl rfl ?_
          refine wr_aa (k0 := 21) (a := a0) (f := i7) (x := 21 + 8 + 2 * i7) (nx := 46) (r1 := 0) (r2 := 0) (r3 := 0) rfl (by decide) rfl (Or.inl rfl) (by omega) (by omega) (by decide) (hcr.1 21 (by decide) i7 (by omega)) ?_
          obtain ⟨k19, kk19, mk19⟩ : ∃ q, Rw q ∧ q = 21 + 8 + 2 * i7 := ⟨_, rw_lane 21 (by decide) i7 (by omega), rfl⟩
          rw [← mk19]
          refine wi_iload_n (i := 2) (e := z14) (nx := 47) (r1 := 0) (r2 := 0) (r3 := 0) rfl rfl ?_
          refine wr_V (k0 := k19) (rest := []) (as := [.ref k19, vi z14]) (nx := 50) (r1 := 158) (r2 := 1) (r3 := 5) rfl rfl rfl (of_decide_eq_true rfl) rfl rfl kk19.k kk19.1 rfl (of_decide_eq_true rfl) (of_decide_eq_true rfl) ?_
          refine ct_158_R hcr kk19 g17 z14 (by omega)  (fun h20 g20 u20 => ?_)
          have v20 := FR.rngp (lo := 29) (hi := 36) u20 (by omega)
          have F21 := F18.then rfl (FR.rngp (lo := 29) (hi := 36) u20 (by omega))
          refine wk_n ?_
          refine wi_aload_n (i := 0) (x := 18) (nx := 51) (r1 := 0) (r2 := 0) (r3 := 0) rfl rfl ?_
          refine wi_dup (nx := 52) (r1 := 0) (r2 := 0) (r3 := 0) rfl rfl ?_
          have b22 := gi_b (lo := -2147483648) (hi := 2147483647) g 18 16 rfl
          refine wr_gi0 (k0 := 18) (x := h 18 16) (nx := 55) (r1 := 4) (r2 := 16) (r3 := 0) rfl rfl (by decide) rfl ⟨rfl, rfl⟩ rfl ((v20 18 16 rfl).trans ((u17 18 16 rfl).trans (u15 18 16 rfl))) ?_
          refine wi_iconst (n := 1) (nx := 56) (r1 := 0) (r2 := 0) (r3 := 0) rfl ?_
          refine wr_addW (nx := 57) (r1 := 0) (r2 := 0) (r3 := 0) rfl (fun e23 (fe23 : -2147483648 ≤ e23 ∧ e23 ≤ 2147483647) => ?_)
          refine wr_pf0 (k0 := 18) (x := e23) (bl := -2147483648) (bh := 2147483647) (nx := 60) (r1 := 4) (r2 := 16) (r3 := 0) rfl (by decide) rfl ⟨rfl, rfl⟩ rfl rfl g20 rfl (by omega) (fun h24 g24 w24 u24 => ?_)
          have F25 := F21.then rfl u24
          refine wi_iload_n (i := 2) (e := z14) (nx := 61) (r1 := 0) (r2 := 0) (r3 := 0) rfl rfl ?_
          refine wi_ireturn (nx := 62) (r1 := 0) (r2 := 0) (r3 := 0) rfl rfl ?_
          exact k h24 z14 g24 F25 (by omega)
-- method 193: History.keep()V
set_option maxRecDepth 100000 in
set_option maxHeartbeats 100000000 in
theorem ct_193_73 {L : Nat} {xs : Nat → Int32} {d b c : Nat} {h : hp} {cr : Nat → Nat → Option Nat} {Q : hp_Q} (hcr : CR cr)  (g : GI h)    (k : ∀ (h2 : hp) , GI h2 → FR [(73, 73, some (1, 1)), (73, 73, some (2, 2))] h h2 → Q (.inl none) (hp_w h2 cr) b c) : wp (md_xa (L, xs)) (d + 1) 193 (0, [(0, .ref 73)], [], hp_w h cr, b, c) Q := by
  have F0 : FR [(73, 73, some (1, 1)), (73, 73, some (2, 2))] h h := FR.refl
  refine wi_aload_n (i := 0) (x := 73) (nx := 1) (r1 := 0) (r2 := 0) (r3 := 0) rfl rfl ?_
  refine wi_aload_n (i := 0) (x := 73) (nx := 2) (r1 := 0) (r2 := 0) (r3 := 0) rfl rfl ?_
  have b1 := gi_b (lo := 0) (hi := 6) g 73 1 rfl
  refine wr_gi0 (k0 := 73) (x := h 73 1) (nx := 5) (r1 := 9) (r2 := 1) (r3 := 0) rfl rfl (by decide) rfl ⟨rfl, rfl⟩ rfl rfl ?_
  refine wi_iconst (n := 1) (nx := 6) (r1 := 0) (r2 := 0) (r3 := 0) rfl ?_
  refine wr_add (nx := 7) (r1 := 0) (r2 := 0) (r3 := 0) rfl (fun e2 (fe2 : e2 = (h 73 1) + 1) => ?_)
  refine wi_bipush (n := 7) (nx := 9) (r1 := 0) (r2 := 0) (r3 := 0) rfl (by decide) ?_
  refine wr_iremC (nx := 10) (r1 := 0) (r2 := 0) (r3 := 0) rfl (by omega) (by decide) (fun e3 (fe3 : e3 = e2 % 7) => ?_)
  refine wr_pf0 (k0 := 73) (x := e3) (bl := 0) (bh := 6) (nx := 13) (r1 := 9) (r2 := 1) (r3 := 0) rfl (by decide) rfl ⟨rfl, rfl⟩ rfl rfl g rfl (by omega) (fun h4 g4 w4 u4 => ?_)
  have F5 := F0.then rfl u4
  refine wi_aload_n (i := 0) (x := 73) (nx := 14) (r1 := 0) (r2 := 0) (r3 := 0) rfl rfl ?_
  refine wi_aload_n (i := 0) (x := 73) (nx := 15) (r1 := 0) (r2 := 0) (r3 := 0) rfl rfl ?_
  have b6 := gi_b (lo := 0) (hi := 6) g 73 2 rfl
  refine wr_gi0 (k0 := 73) (x := h 73 2) (nx := 18) (r1 := 9) (r2 := 2) (r3 := 0) rfl rfl (by decide) rfl ⟨rfl, rfl⟩ rfl (u4 73 2 rfl) ?_
  refine wi_iconst (n := 1) (nx := 19) (r1 := 0) (r2 := 0) (r3 := 0) rfl ?_
  refine wr_add (nx := 20) (r1 := 0) (r2 := 0) (r3 := 0) rfl (fun e7 (fe7 : e7 = (h 73 2) + 1) => ?_)
  refine wi_bipush (n := 6) (nx := 22) (r1 := 0) (r2 := 0) (r3 := 0) rfl (by decide) ?_
  refine wi_S (rest := [.ref 73]) (as := [vi e7, vi 6]) (nx := 25) (r1 := 355) (r2 := 18) (r3 := 0) rfl rfl rfl (of_decide_eq_true rfl) rfl rfl (of_decide_eq_true rfl) (of_decide_eq_true rfl) ?_
  refine wi_iload_n (i := 0) (e := e7) (nx := 1) (r1 := 0) (r2 := 0) (r3 := 0) rfl rfl ?_
  refine wi_iload_n (i := 1) (e := 6) (nx := 2) (r1 := 0) (r2 := 0) (r3 := 0) rfl rfl ?_
  refine wi_icmp (cd := .gt) (nx := 5) (r1 := 9) (r2 := 0) (r3 := 0) rfl (by omega) (by omega) (fun (q8 : 6 < e7) => ?_) (fun (q8 : ¬ (6 < e7)) => ?_)
  ·
    refine wi_iload_n (i := 1) (e := 6) (nx := 10) (r1 := 0) (r2 := 0) (r3 := 0) rfl rfl ?_
    refine wi_ireturn (nx := 11) (r1 := 0) (r2 := 0) (r3 := 0) rfl rfl ?_
    refine wk_i ?_
    refine wr_pf0 (k0 := 73) (x := 6) (bl := 0) (bh := 6) (nx := 28) (r1 := 9) (r2 := 2) (r3 := 0) rfl (by decide) rfl ⟨rfl, rfl⟩ rfl rfl g4 rfl (by omega) (fun h9 g9 w9 u9 => ?_)
    have F10 := F5.then rfl u9
    refine wi_return (nx := 29) (r1 := 0) (r2 := 0) (r3 := 0) rfl rfl ?_
    exact k h9 g9 F10
  ·
    refine wi_iload_n (i := 0) (e := e7) (nx := 6) (r1 := 0) (r2 := 0) (r3 := 0) rfl rfl ?_
    refine wi_goto (nx := 9) (r1 := 10) (r2 := 0) (r3 := 0) rfl ?_
    refine wi_ireturn (nx := 11) (r1 := 0) (r2 := 0) (r3 := 0) rfl rfl ?_
    refine wk_i ?_
    refine wr_pf0 (k0 := 73) (x := e7) (bl := 0) (bh := 6) (nx := 28) (r1 := 9) (r2 := 2) (r3 := 0) rfl (by decide) rfl ⟨rfl, rfl⟩ rfl rfl g4 rfl (by omega) (fun h9 g9 w9 u9 => ?_)
    have F10 := F5.then rfl u9
    refine wi_return (nx := 29) (r1 := 0) (r2 := 0) (r3 := 0) rfl rfl ?_
    exact k h9 g9 F10
-- method 45: Bank.keptIfDone(I)I
set_option maxRecDepth 100000 in
set_option maxHeartbeats 100000000 in
theorem ct_45_0 {L : Nat} {xs : Nat → Int32} {d b c : Nat} {h : hp} {cr : Nat → Nat → Option Nat} {Q : hp_Q} (hcr : CR cr)  (g : GI h) (a0 : Int) (q0_ : -2147483648 ≤ a0 ∧ a0 ≤ 2147483647)  (k : ∀ (h2 : hp) (z0 : Int) , GI h2 → FR [(73, 73, some (1, 1)), (73, 73, some (2, 2))] h h2 → (-2147483648 ≤ z0 ∧ z0 ≤ 2147483647) → Q (.inl (some (vi z0))) (hp_w h2 cr) b c) : wp (md_xa (L, xs)) (d + 2) 45 (0, [(0, .ref 0), (1, vi a0)], [], hp_w h cr, b, c) Q := by
  have F0 : FR [(73, 73, some (1, 1)), (73, 73, some (2, 2))] h h := FR.refl
  refine wi_iload_n (i := 1) (e := a0) (nx := 1) (r1 := 0) (r2 := 0) (r3 := 0) rfl rfl ?_
  refine wi_iconst (n := (-1)) (nx := 2) (r1 := 0) (r2 := 0) (r3 := 0) rfl ?_
  refine wi_icmp (cd := .eq) (nx := 5) (r1 := 12) (r2 := 0) (r3 := 0) rfl (by omega) (by omega) (fun (q1 : a0 = (-1)) => ?_) (fun (q1 : ¬ (a0 = (-1))) => ?_)
  ·
    refine wi_iload_n (i := 1) (e := a0) (nx := 13) (r1 := 0) (r2 := 0) (r3 := 0) rfl rfl ?_
    refine wi_ireturn (nx := 14) (r1 := 0) (r2 := 0) (r3 := 0) rfl rfl ?_
    exact k h a0 g F0 (by omega)
  ·
    refine wi_aload_n (i := 0) (x := 0) (nx := 6) (r1 := 0) (r2 := 0) (r3 := 0) rfl rfl ?_
    refine wr_gr (k0 := 0) (x := 73) (nx := 9) (r1 := 0) (r2 := 8) (r3 := 0) rfl rfl (by decide) rfl ⟨rfl, rfl⟩ rfl ?_
    refine wr_V (k0 := 73) (rest := []) (as := [.ref 73]) (nx := 12) (r1 := 193) (r2 := 0) (r3 := 9) rfl rfl rfl (of_decide_eq_true rfl) rfl rfl (by decide) rfl rfl (of_decide_eq_true rfl) (of_decide_eq_true rfl) ?_
    refine ct_193_73 hcr  g    (fun h2 g2 u2 => ?_)
    have F3 := F0.then (by decide +kernel) u2
    refine wk_n ?_
    refine wi_iload_n (i := 1) (e := a0) (nx := 13) (r1 := 0) (r2 := 0) (r3 := 0) rfl rfl ?_
    refine wi_ireturn (nx := 14) (r1 := 0) (r2 := 0) (r3 := 0) rfl rfl ?_
    exact k h2 a0 g2 F3 (by omega)
-- method 80: Bank.back(I)I
set_option maxRecDepth 100000 in
set_option maxHeartbeats 100000000 in
theorem ct_80_0 {L : Nat} {xs : Nat → Int32} {d b c : Nat} {h : hp} {cr : Nat → Nat → Option Nat} {Q : hp_Q} (hcr : CR cr) (hr : 1 ≤ b ∧ 6 ≤ c)  (g : GI h) (a0 : Int) (q0_ : -2147483648 ≤ a0 ∧ a0 ≤ 2147483647)  (k : ∀ (h2 : hp) (z0 : Int) , GI h2 → FR [(22, 23, none), (24, 25, none), (29, 36, none), (75, 207, none), (18, 18, some (16, 16)), (73, 73, some (1, 1)), (73, 73, some (2, 2))] h h2 → (-2147483648 ≤ z0 ∧ z0 ≤ 2147483647) → Q (.inl (some (vi z0))) (hp_w h2 cr) b c) (kx2 : ∀ (h2 : hp), GI h2 → FR [(22, 23, none), (24, 25, none), (29, 36, none), (75, 207, none), (18, 18, some (16, 16)), (73, 73, some (1, 1)), (73, 73, some (2, 2))] h h2 → Q (.inr 2) (hp_w h2 cr) (b - 1) (c - 6)) : wp (md_xa (L, xs)) (d + 3) 80 (0, [(0, .ref 0), (1, vi a0)], [], hp_w h cr, b, c) Q := by
  have F0 : FR [(22, 23, none), (24, 25, none), (29, 36, none), (75, 207, none), (18, 18, some (16, 16)), (73, 73, some (1, 1)), (73, 73, some (2, 2))] h h := FR.refl
  refine wi_aload_n (i := 0) (x := 0) (nx := 1) (r1 := 0) (r2 := 0) (r3 := 0) rfl rfl ?_
  refine wi_iload_n (i := 1) (e := a0) (nx := 2) (r1 := 0) (r2 := 0) (r3 := 0) rfl rfl ?_
  refine wr_V (k0 := 0) (rest := []) (as := [.ref 0, vi a0]) (nx := 5) (r1 := 68) (r2 := 1) (r3 := 0) rfl rfl rfl (of_decide_eq_true rfl) rfl rfl (by decide) rfl rfl (of_decide_eq_true rfl) (of_decide_eq_true rfl) ?_
  refine wi_iload_n (i := 1) (e := a0) (nx := 1) (r1 := 0) (r2 := 0) (r3 := 0) rfl rfl ?_
  refine wi_if (cd := .lt) (nx := 4) (r1 := 15) (r2 := 0) (r3 := 0) rfl (by omega) (fun (q1 : a0 < 0) => ?_) (fun (q1 : ¬ (a0 < 0)) => ?_)
  ·
    refine wr_throw (Ex := 2) (nx := 18) (r1 := 2) (r2 := 0) (r3 := 1) rfl (by decide) rfl hr (by decide) ?_
    refine wk_x rfl ?_
    exact kx2 h g F0
  ·
    refine wi_iload_n (i := 1) (e := a0) (nx := 5) (r1 := 0) (r2 := 0) (r3 := 0) rfl rfl ?_
    refine wi_aload_n (i := 0) (x := 0) (nx := 6) (r1 := 0) (r2 := 0) (r3 := 0) rfl rfl ?_
    refine wr_gr (k0 := 0) (x := 3) (nx := 9) (r1 := 0) (r2 := 1) (r3 := 0) rfl rfl (by decide) rfl ⟨rfl, rfl⟩ rfl ?_
    have b2 := gi_b (lo := 0) (hi := 4) g 3 1 rfl
    refine wr_gi0 (k0 := 3) (x := h 3 1) (nx := 12) (r1 := 2) (r2 := 1) (r3 := 0) rfl rfl (by decide) rfl ⟨rfl, rfl⟩ rfl rfl ?_
    refine wi_icmp (cd := .lt) (nx := 15) (r1 := 26) (r2 := 0) (r3 := 0) rfl (by omega) (by omega) (fun (q3 : a0 < (h 3 1)) => ?_) (fun (q3 : ¬ (a0 < (h 3 1))) => ?_)
    ·
      refine wi_return (nx := 27) (r1 := 0) (r2 := 0) (r3 := 0) rfl rfl ?_
      refine wk_n ?_
      refine wi_aload_n (i := 0) (x := 0) (nx := 6) (r1 := 0) (r2 := 0) (r3 := 0) rfl rfl ?_
      refine wr_gr (k0 := 0) (x := 73) (nx := 9) (r1 := 0) (r2 := 8) (r3 := 0) rfl rfl (by decide) rfl ⟨rfl, rfl⟩ rfl ?_
      refine wi_aload_n (i := 0) (x := 0) (nx := 10) (r1 := 0) (r2 := 0) (r3 := 0) rfl rfl ?_
      refine wr_gr (k0 := 0) (x := 18) (nx := 13) (r1 := 0) (r2 := 3) (r3 := 0) rfl rfl (by decide) rfl ⟨rfl, rfl⟩ rfl ?_
      refine wr_V (k0 := 73) (rest := []) (as := [.ref 73, .ref 18]) (nx := 16) (r1 := 192) (r2 := 1) (r3 := 9) rfl rfl rfl (of_decide_eq_true rfl) rfl rfl (by decide) rfl rfl (of_decide_eq_true rfl) (of_decide_eq_true rfl) ?_
      refine ct_192_73_18 hcr  g    (fun h4 g4 u4 => ?_)
      have F5 := F0.then (by decide +kernel) u4
      refine wk_n ?_
      refine wi_aload_n (i := 0) (x := 0) (nx := 17) (r1 := 0) (r2 := 0) (r3 := 0) rfl rfl ?_
      refine wi_aload_n (i := 0) (x := 0) (nx := 18) (r1 := 0) (r2 := 0) (r3 := 0) rfl rfl ?_
      refine wr_gr (k0 := 0) (x := 18) (nx := 21) (r1 := 0) (r2 := 3) (r3 := 0) rfl rfl (by decide) rfl ⟨rfl, rfl⟩ rfl ?_
      refine wi_iload_n (i := 1) (e := a0) (nx := 22) (r1 := 0) (r2 := 0) (r3 := 0) rfl rfl ?_
      refine wr_V (k0 := 18) (rest := [.ref 0]) (as := [.ref 18, vi a0]) (nx := 25) (r1 := 138) (r2 := 1) (r3 := 4) rfl rfl rfl (of_decide_eq_true rfl) rfl rfl (by decide) rfl rfl (of_decide_eq_true rfl) (of_decide_eq_true rfl) ?_
      refine ct_138_18 hcr  g4 a0 (by omega)  (fun h6 z7 g6 u6 (fz7 : -2147483648 ≤ z7 ∧ z7 ≤ 2147483647) => ?_)
      have F8 := F5.then (by decide +kernel) u6
      refine wk_i ?_
      refine wr_V (k0 := 0) (rest := []) (as := [.ref 0, vi z7]) (nx := 28) (r1 := 45) (r2 := 1) (r3 := 0) rfl rfl rfl (of_decide_eq_true rfl) rfl rfl (by decide) rfl rfl (of_decide_eq_true rfl) (of_decide_eq_true rfl) ?_
      refine ct_45_0 hcr  g6 z7 (by omega)  (fun h9 z10 g9 u9 (fz10 : -2147483648 ≤ z10 ∧ z10 ≤ 2147483647) => ?_)
      have F11 := F8.then (by decide +kernel) u9
      refine wk_i ?_
      refine wi_ireturn (nx := 29) (r1 := 0) (r2 := 0) (r3 := 0) rfl rfl ?_
      exact k h9 z10 g9 F11 (by omega)
    ·
      refine wr_throw (Ex := 2) (nx := 18) (r1 := 2) (r2 := 0) (r3 := 1) rfl (by decide) rfl hr (by decide) ?_
      refine wk_x rfl ?_
      exact kx2 h g F0
-- method 72: Bank.bad(I)I
set_option maxRecDepth 100000 in
set_option maxHeartbeats 100000000 in
theorem ct_72_0 {L : Nat} {xs : Nat → Int32} {d b c : Nat} {h : hp} {cr : Nat → Nat → Option Nat} {Q : hp_Q} (hcr : CR cr) (hr : 1 ≤ b ∧ 6 ≤ c)  (g : GI h) (a0 : Int) (q0_ : -2147483648 ≤ a0 ∧ a0 ≤ 2147483647)  (k : ∀ (z0 : Int), (-2147483648 ≤ z0 ∧ z0 ≤ 2147483647) → Q (.inl (some (vi z0))) (hp_w h cr) b c) (kx2 : Q (.inr 2) (hp_w h cr) (b - 1) (c - 6)) : wp (md_xa (L, xs)) (d + 1) 72 (0, [(0, .ref 0), (1, vi a0)], [], hp_w h cr, b, c) Q := by
  have F0 : FR [] h h := FR.refl
  refine wi_aload_n (i := 0) (x := 0) (nx := 1) (r1 := 0) (r2 := 0) (r3 := 0) rfl rfl ?_
  refine wi_iload_n (i := 1) (e := a0) (nx := 2) (r1 := 0) (r2 := 0) (r3 := 0) rfl rfl ?_
  refine wr_V (k0 := 0) (rest := []) (as := [.ref 0, vi a0]) (nx := 5) (r1 := 70) (r2 := 1) (r3 := 0) rfl rfl rfl (of_decide_eq_true rfl) rfl rfl (by decide) rfl rfl (of_decide_eq_true rfl) (of_decide_eq_true rfl) ?_
  refine wi_iload_n (i := 1) (e := a0) (nx := 1) (r1 := 0) (r2 := 0) (r3 := 0) rfl rfl ?_
  refine wi_if (cd := .lt) (nx := 4) (r1 := 15) (r2 := 0) (r3 := 0) rfl (by omega) (fun (q1 : a0 < 0) => ?_) (fun (q1 : ¬ (a0 < 0)) => ?_)
  ·
    refine wr_throw (Ex := 2) (nx := 18) (r1 := 2) (r2 := 0) (r3 := 1) rfl (by decide) rfl hr (by decide) ?_
    refine wk_x rfl ?_
    exact kx2
  ·
    refine wi_iload_n (i := 1) (e := a0) (nx := 5) (r1 := 0) (r2 := 0) (r3 := 0) rfl rfl ?_
    refine wi_aload_n (i := 0) (x := 0) (nx := 6) (r1 := 0) (r2 := 0) (r3 := 0) rfl rfl ?_
    refine wr_gr (k0 := 0) (x := 3) (nx := 9) (r1 := 0) (r2 := 1) (r3 := 0) rfl rfl (by decide) rfl ⟨rfl, rfl⟩ rfl ?_
    have b2 := gi_b (lo := 0) (hi := 12) g 3 2 rfl
    refine wr_gi0 (k0 := 3) (x := h 3 2) (nx := 12) (r1 := 2) (r2 := 2) (r3 := 0) rfl rfl (by decide) rfl ⟨rfl, rfl⟩ rfl rfl ?_
    refine wi_icmp (cd := .lt) (nx := 15) (r1 := 26) (r2 := 0) (r3 := 0) rfl (by omega) (by omega) (fun (q3 : a0 < (h 3 2)) => ?_) (fun (q3 : ¬ (a0 < (h 3 2))) => ?_)
    ·
      refine wi_return (nx := 27) (r1 := 0) (r2 := 0) (r3 := 0) rfl rfl ?_
      refine wk_n ?_
      refine wi_aload_n (i := 0) (x := 0) (nx := 6) (r1 := 0) (r2 := 0) (r3 := 0) rfl rfl ?_
      refine wr_gr (k0 := 0) (x := 18) (nx := 9) (r1 := 0) (r2 := 3) (r3 := 0) rfl rfl (by decide) rfl ⟨rfl, rfl⟩ rfl ?_
      refine wr_gr (k0 := 18) (x := 20) (nx := 12) (r1 := 4) (r2 := 2) (r3 := 0) rfl rfl (by decide) rfl ⟨rfl, rfl⟩ rfl ?_
      refine wi_iload_n (i := 1) (e := a0) (nx := 13) (r1 := 0) (r2 := 0) (r3 := 0) rfl rfl ?_
      obtain ⟨i4, ei4⟩ : ∃ q : Nat, a0 = (q : Int) := ⟨(a0).toNat, by omega⟩
      have b5 := gi_b (lo := -2147483648) (hi := 2147483647) g 20 i4 rfl
      refine wr_ia (k0 := 20) (a := a0) (f := i4) (x := h 20 i4) (nx := 14) (r1 := 0) (r2 := 0) (r3 := 0) rfl (by decide) rfl (by omega) (by omega) (by decide) rfl ?_
      refine wi_ireturn (nx := 15) (r1 := 0) (r2 := 0) (r3 := 0) rfl rfl ?_
      exact k (h 20 i4) (by omega)
    ·
      refine wr_throw (Ex := 2) (nx := 18) (r1 := 2) (r2 := 0) (r3 := 1) rfl (by decide) rfl hr (by decide) ?_
      refine wk_x rfl ?_
      exact kx2
-- method 69: Bank.body(I)I
set_option maxRecDepth 100000 in
set_option maxHeartbeats 100000000 in
theorem ct_69_0 {L : Nat} {xs : Nat → Int32} {d b c : Nat} {h : hp} {cr : Nat → Nat → Option Nat} {Q : hp_Q} (hcr : CR cr) (hr : 1 ≤ b ∧ 6 ≤ c)  (g : GI h) (a0 : Int) (q0_ : -2147483648 ≤ a0 ∧ a0 ≤ 2147483647)  (k : ∀ (z0 : Int), (-2147483648 ≤ z0 ∧ z0 ≤ 2147483647) → (0 ≤ a0 ∧ a0 < h 3 2) → (z0 = h 8 a0.toNat) → Q (.inl (some (vi z0))) (hp_w h cr) b c) (kx2 : (a0 < 0 ∨ h 3 2 ≤ a0) → Q (.inr 2) (hp_w h cr) (b - 1) (c - 6)) : wp (md_xa (L, xs)) (d + 1) 69 (0, [(0, .ref 0), (1, vi a0)], [], hp_w h cr, b, c) Q := by
  have F0 : FR [] h h := FR.refl
  refine wi_aload_n (i := 0) (x := 0) (nx := 1) (r1 := 0) (r2 := 0) (r3 := 0) rfl rfl ?_
  refine wi_iload_n (i := 1) (e := a0) (nx := 2) (r1 := 0) (r2 := 0) (r3 := 0) rfl rfl ?_
  refine wr_V (k0 := 0) (rest := []) (as := [.ref 0, vi a0]) (nx := 5) (r1 := 70) (r2 := 1) (r3 := 0) rfl rfl rfl (of_decide_eq_true rfl) rfl rfl (by decide) rfl rfl (of_decide_eq_true rfl) (of_decide_eq_true rfl) ?_
  refine wi_iload_n (i := 1) (e := a0) (nx := 1) (r1 := 0) (r2 := 0) (r3 := 0) rfl rfl ?_
  refine wi_if (cd := .lt) (nx := 4) (r1 := 15) (r2 := 0) (r3 := 0) rfl (by omega) (fun (q1 : a0 < 0) => ?_) (fun (q1 : ¬ (a0 < 0)) => ?_)
  ·
    refine wr_throw (Ex := 2) (nx := 18) (r1 := 2) (r2 := 0) (r3 := 1) rfl (by decide) rfl hr (by decide) ?_
    refine wk_x rfl ?_
    have b2 := gi_b (lo := 0) (hi := 12) g 3 2 rfl
    exact kx2 (show a0 < 0 ∨ (h 3 2) ≤ a0 by omega)
  ·
    refine wi_iload_n (i := 1) (e := a0) (nx := 5) (r1 := 0) (r2 := 0) (r3 := 0) rfl rfl ?_
    refine wi_aload_n (i := 0) (x := 0) (nx := 6) (r1 := 0) (r2 := 0) (r3 := 0) rfl rfl ?_
    refine wr_gr (k0 := 0) (x := 3) (nx := 9) (r1 := 0) (r2 := 1) (r3 := 0) rfl rfl (by decide) rfl ⟨rfl, rfl⟩ rfl ?_
    have b2 := gi_b (lo := 0) (hi := 12) g 3 2 rfl
    refine wr_gi0 (k0 := 3) (x := h 3 2) (nx := 12) (r1 := 2) (r2 := 2) (r3 := 0) rfl rfl (by decide) rfl ⟨rfl, rfl⟩ rfl rfl ?_
    refine wi_icmp (cd := .lt) (nx := 15) (r1 := 26) (r2 := 0) (r3 := 0) rfl (by omega) (by omega) (fun (q3 : a0 < (h 3 2)) => ?_) (fun (q3 : ¬ (a0 < (h 3 2))) => ?_)
    ·
      refine wi_return (nx := 27) (r1 := 0) (r2 := 0) (r3 := 0) rfl rfl ?_
      refine wk_n ?_
      refine wi_aload_n (i := 0) (x := 0) (nx := 6) (r1 := 0) (r2 := 0) (r3 := 0) rfl rfl ?_
      refine wr_gr (k0 := 0) (x := 3) (nx := 9) (r1 := 0) (r2 := 1) (r3 := 0) rfl rfl (by decide) rfl ⟨rfl, rfl⟩ rfl ?_
      refine wr_gr (k0 := 3) (x := 8) (nx := 12) (r1 := 2) (r2 := 14) (r3 := 0) rfl rfl (by decide) rfl ⟨rfl, rfl⟩ rfl ?_
      refine wi_iload_n (i := 1) (e := a0) (nx := 13) (r1 := 0) (r2 := 0) (r3 := 0) rfl rfl ?_
      obtain ⟨i4, ei4⟩ : ∃ q : Nat, a0 = (q : Int) := ⟨(a0).toNat, by omega⟩
      have b5 := gi_b (lo := -2147483648) (hi := 2147483647) g 8 i4 rfl
      refine wr_ia (k0 := 8) (a := a0) (f := i4) (x := h 8 i4) (nx := 14) (r1 := 0) (r2 := 0) (r3 := 0) rfl (by decide) rfl (by omega) (by omega) (by decide) rfl ?_
      refine wi_ireturn (nx := 15) (r1 := 0) (r2 := 0) (r3 := 0) rfl rfl ?_
      exact k (h 8 i4) (by omega) (show 0 ≤ a0 ∧ a0 < (h 3 2) by omega) (show h 8 i4 = h 8 a0.toNat by rw [show a0.toNat = i4 by omega])
    ·
      refine wr_throw (Ex := 2) (nx := 18) (r1 := 2) (r2 := 0) (r3 := 1) rfl (by decide) rfl hr (by decide) ?_
      refine wk_x rfl ?_
      exact kx2 (show a0 < 0 ∨ (h 3 2) ≤ a0 by omega)
-- method 159: Row.find(I)I
set_option maxRecDepth 100000 in
set_option maxHeartbeats 100000000 in
theorem ct_159_R {L : Nat} {xs : Nat → Int32} {d b c : Nat} {h : hp} {cr : Nat → Nat → Option Nat} {Q : hp_Q} (hcr : CR cr)  {k0 : Nat} (kk0 : Rw k0) (g : GI h) (a0 : Int) (q0_ : -2147483648 ≤ a0 ∧ a0 ≤ 2147483647)  (k : ∀ (z0 : Int), (-1 ≤ z0 ∧ z0 ≤ 11) → Q (.inl (some (vi z0))) (hp_w h cr) b c) : wp (md_xa (L, xs)) d 159 (0, [(0, .ref k0), (1, vi a0)], [], hp_w h cr, b, c) Q := by
  have F0 : FR [] h h := FR.refl
  have nk0 := kk0.2.2.1
  unfold md_nW at nk0
  refine wi_iconst (n := 0) (nx := 1) (r1 := 0) (r2 := 0) (r3 := 0) rfl ?_
  refine wi_istore_n (i := 2) (e := 0) (lo2 := [(2, vi 0), (0, .ref k0), (1, vi a0)]) (nx := 2) (r1 := 0) (r2 := 0) (r3 := 0) rfl rfl ?_
  refine wp.lo (lo := [(0, .ref k0), (1, vi a0), (2, vi 0)]) ⟨rfl, rfl, rfl, trivial⟩ rfl ?_
  refine wl_1 (fun x1 h2 => h = h2 ∧ ((0 ≤ x1 ∧ x1 ≤ 12))) (fun x1 h2 => ((12 : Int) + 1 - x1).toNat) (fun x1 h2 => (2, [(0, .ref k0), (1, vi a0), (2, vi x1)], [], hp_w h2 cr, b, c)) ?_ 0 h ⟨rfl, (show (0 ≤ 0 ∧ 0 ≤ 12) by omega)⟩
  intro x1 h2 ⟨e2, f2⟩ I2
  subst e2
  refine wi_iload_n (i := 2) (e := x1) (nx := 3) (r1 := 0) (r2 := 0) (r3 := 0) rfl rfl ?_
  refine wi_aload_n (i := 0) (x := k0) (nx := 4) (r1 := 0) (r2 := 0) (r3 := 0) rfl rfl ?_
  have b4 := gi_b (lo := 0) (hi := 12) g k0 1 kk0.2.2.2.1
  refine wr_gi0 (k0 := k0) (x := h k0 1) (nx := 7) (r1 := 5) (r2 := 1) (r3 := 0) rfl rfl kk0.k kk0.1 ⟨rfl, rfl⟩ rfl rfl ?_
  refine wi_icmp (cd := .ge) (nx := 10) (r1 := 28) (r2 := 0) (r3 := 0) rfl (by omega) (by omega) (fun (q5 : (h k0 1) ≤ x1) => ?_) (fun (q5 : ¬ ((h k0 1) ≤ x1)) => ?_)
  ·
    refine wi_iconst (n := (-1)) (nx := 29) (r1 := 0) (r2 := 0) (r3 := 0) rfl ?_
    refine wi_ireturn (nx := 30) (r1 := 0) (r2 := 0) (r3 := 0) rfl rfl ?_
    exact k (-1) (by omega)
  ·
    refine wi_aload_n (i := 0) (x := k0) (nx := 11) (r1 := 0) (r2 := 0) (r3 := 0) rfl rfl ?_
    refine wr_gr (k0 := k0) (x := k0 + 1) (nx := 14) (r1 := 5) (r2 := 0) (r3 := 0) rfl rfl kk0.k kk0.1 ⟨rfl, rfl⟩ rfl ?_
    refine wi_iload_n (i := 2) (e := x1) (nx := 15) (r1 := 0) (r2 := 0) (r3 := 0) rfl rfl ?_
    obtain ⟨i6, ei6⟩ : ∃ q : Nat, x1 = (q : Int) := ⟨(x1).toNat, by omega⟩
    have b7 := gi_b (lo := -2147483648) (hi := 2147483647) g (k0 + 1) i6 (kk0.2.2.2.2 _)
    refine wr_ia (k0 := k0 + 1) (a := x1) (f := i6) (x := h (k0 + 1) i6) (nx := 16) (r1 := 0) (r2 := 0) (r3 := 0) rfl kk0.2.2.1 kk0.2.1 (by omega) (by omega) (by decide) rfl ?_
    refine wi_iload_n (i := 1) (e := a0) (nx := 17) (r1 := 0) (r2 := 0) (r3 := 0) rfl rfl ?_
    refine wi_icmp (cd := .ne) (nx := 20) (r1 := 22) (r2 := 0) (r3 := 0) rfl (by omega) (by omega) (fun (q8 : (h (k0 + 1) i6) ≠ a0) => ?_) (fun (q8 : ¬ ((h (k0 + 1) i6) ≠ a0)) => ?_)
    ·
      refine wr_iinc (i := 2) (n := 1) (v := x1) (fun e9 => [(2, vi e9), (0, .ref k0), (1, vi a0)]) (nx := 25) (r1 := 0) (r2 := 0) (r3 := 0) rfl rfl (fun _ => rfl) (fun e9 (fe9 : e9 = x1 + 1) => ?_)
      refine wi_goto (nx := 28) (r1 := 2) (r2 := 0) (r3 := 0) rfl ?_
      refine wp.lo (lo := [(0, .ref k0), (1, vi a0), (2, vi e9)]) ⟨rfl, rfl, rfl, trivial⟩ rfl ?_
      exact I2 e9 h ⟨rfl, (show (0 ≤ e9 ∧ e9 ≤ 12) by omega)⟩ (show ((12 : Int) + 1 - e9).toNat < ((12 : Int) + 1 - x1).toNat by omega)
    ·
      refine wi_iload_n (i := 2) (e := x1) (nx := 21) (r1 := 0) (r2 := 0) (r3 := 0) rfl rfl ?_
      refine wi_ireturn (nx := 22) (r1 := 0) (r2 := 0) (r3 := 0) rfl rfl ?_
      exact k x1 (by omega)
-- method 149: Line.colorsNotOut()I
set_option maxRecDepth 100000 in
set_option maxHeartbeats 100000000 in
theorem ct_149_18 {L : Nat} {xs : Nat → Int32} {d b c : Nat} {h : hp} {cr : Nat → Nat → Option Nat} {Q : hp_Q} (hcr : CR cr)  (g : GI h)    (k : ∀ (z0 : Int), (-2147483648 ≤ z0 ∧ z0 ≤ 2147483647) → Q (.inl (some (vi z0))) (hp_w h cr) b c) : wp (md_xa (L, xs)) (d + 1) 149 (0, [(0, .ref 18)], [], hp_w h cr, b, c) Q := by
  have F0 : FR [] h h := FR.refl
  refine wi_iconst (n := 0) (nx := 1) (r1 := 0) (r2 := 0) (r3 := 0) rfl ?_
  refine wi_istore_n (i := 1) (e := 0) (lo2 := [(1, vi 0), (0, .ref 18)]) (nx := 2) (r1 := 0) (r2 := 0) (r3 := 0) rfl rfl ?_
  refine wi_iconst (n := 0) (nx := 3) (r1 := 0) (r2 := 0) (r3 := 0) rfl ?_
  refine wi_istore_n (i := 2) (e := 0) (lo2 := [(2, vi 0), (1, vi 0), (0, .ref 18)]) (nx := 4) (r1 := 0) (r2 := 0) (r3 := 0) rfl rfl ?_
  refine wp.lo (lo := [(0, .ref 18), (1, vi 0), (2, vi 0)]) ⟨rfl, rfl, rfl, trivial⟩ rfl ?_
  refine wl_2 (fun x1 x2 h3 => h = h3 ∧ ((-2147483648 ≤ x1 ∧ x1 ≤ 2147483647) ∧ (0 ≤ x2 ∧ x2 ≤ 12))) (fun x1 x2 h3 => ((12 : Int) + 1 - x2).toNat) (fun x1 x2 h3 => (4, [(0, .ref 18), (1, vi x1), (2, vi x2)], [], hp_w h3 cr, b, c)) ?_ 0 0 h ⟨rfl, (show (-2147483648 ≤ 0 ∧ 0 ≤ 2147483647) ∧ (0 ≤ 0 ∧ 0 ≤ 12) by omega)⟩
  intro x1 x2 h3 ⟨e3, f3⟩ I3
  subst e3
  refine wi_iload_n (i := 2) (e := x2) (nx := 5) (r1 := 0) (r2 := 0) (r3 := 0) rfl rfl ?_
  refine wi_aload_n (i := 0) (x := 18) (nx := 6) (r1 := 0) (r2 := 0) (r3 := 0) rfl rfl ?_
  refine wr_gr (k0 := 18) (x := 3) (nx := 9) (r1 := 4) (r2 := 0) (r3 := 0) rfl rfl (by decide) rfl ⟨rfl, rfl⟩ rfl ?_
  have b5 := gi_b (lo := 0) (hi := 12) g 3 2 rfl
  refine wr_gi0 (k0 := 3) (x := h 3 2) (nx := 12) (r1 := 2) (r2 := 2) (r3 := 0) rfl rfl (by decide) rfl ⟨rfl, rfl⟩ rfl rfl ?_
  refine wi_icmp (cd := .ge) (nx := 15) (r1 := 44) (r2 := 0) (r3 := 0) rfl (by omega) (by omega) (fun (q6 : (h 3 2) ≤ x2) => ?_) (fun (q6 : ¬ ((h 3 2) ≤ x2)) => ?_)
  ·
    refine wi_iload_n (i := 1) (e := x1) (nx := 45) (r1 := 0) (r2 := 0) (r3 := 0) rfl rfl ?_
    refine wi_ireturn (nx := 46) (r1 := 0) (r2 := 0) (r3 := 0) rfl rfl ?_
    exact k x1 (by omega)
  ·
    refine wi_aload_n (i := 0) (x := 18) (nx := 16) (r1 := 0) (r2 := 0) (r3 := 0) rfl rfl ?_
    refine wr_gr (k0 := 18) (x := 26) (nx := 19) (r1 := 4) (r2 := 6) (r3 := 0) rfl rfl (by decide) rfl ⟨rfl, rfl⟩ rfl ?_
    refine wi_iload_n (i := 2) (e := x2) (nx := 20) (r1 := 0) (r2 := 0) (r3 := 0) rfl rfl ?_
    refine wr_V (k0 := 26) (rest := []) (as := [.ref 26, vi x2]) (nx := 23) (r1 := 159) (r2 := 1) (r3 := 5) rfl rfl rfl (of_decide_eq_true rfl) rfl rfl (by decide) rfl rfl (of_decide_eq_true rfl) (of_decide_eq_true rfl) ?_
    refine ct_159_R hcr rw_26 g x2 (by omega)  (fun z8  (fz8 : -1 ≤ z8 ∧ z8 ≤ 11) => ?_)
    refine wk_i ?_
    refine wi_iconst (n := (-1)) (nx := 24) (r1 := 0) (r2 := 0) (r3 := 0) rfl ?_
    refine wi_icmp (cd := .ne) (nx := 27) (r1 := 38) (r2 := 0) (r3 := 0) rfl (by omega) (by omega) (fun (q9 : z8 ≠ (-1)) => ?_) (fun (q9 : ¬ (z8 ≠ (-1))) => ?_)
    ·
      refine wr_iinc (i := 2) (n := 1) (v := x2) (fun e10 => [(2, vi e10), (0, .ref 18), (1, vi x1)]) (nx := 41) (r1 := 0) (r2 := 0) (r3 := 0) rfl rfl (fun _ => rfl) (fun e10 (fe10 : e10 = x2 + 1) => ?_)
      refine wi_goto (nx := 44) (r1 := 4) (r2 := 0) (r3 := 0) rfl ?_
      refine wp.lo (lo := [(0, .ref 18), (1, vi x1), (2, vi e10)]) ⟨rfl, rfl, rfl, trivial⟩ rfl ?_
      exact I3 x1 e10 h ⟨rfl, (show (-2147483648 ≤ x1 ∧ x1 ≤ 2147483647) ∧ (0 ≤ e10 ∧ e10 ≤ 12) by omega)⟩ (show ((12 : Int) + 1 - e10).toNat < ((12 : Int) + 1 - x2).toNat by omega)
    ·
      refine wi_iload_n (i := 1) (e := x1) (nx := 28) (r1 := 0) (r2 := 0) (r3 := 0) rfl rfl ?_
      refine wi_iconst (n := 1) (nx := 29) (r1 := 0) (r2 := 0) (r3 := 0) rfl ?_
      refine wi_aload_n (i := 0) (x := 18) (nx := 30) (r1 := 0) (r2 := 0) (r3 := 0) rfl rfl ?_
      refine wr_gr (k0 := 18) (x := 19) (nx := 33) (r1 := 4) (r2 := 1) (r3 := 0) rfl rfl (by decide) rfl ⟨rfl, rfl⟩ rfl ?_
      refine wi_iload_n (i := 2) (e := x2) (nx := 34) (r1 := 0) (r2 := 0) (r3 := 0) rfl rfl ?_
      obtain ⟨i10, ei10⟩ : ∃ q : Nat, x2 = (q : Int) := ⟨(x2).toNat, by omega⟩
      have b11 := gi_b (lo := -2147483648) (hi := 2147483647) g 19 i10 rfl
      refine wr_ia (k0 := 19) (a := x2) (f := i10) (x := h 19 i10) (nx := 35) (r1 := 0) (r2 := 0) (r3 := 0) rfl (by decide) rfl (by omega) (by omega) (by decide) rfl ?_
      refine wr_ishlA (nx := 36) (r1 := 0) (r2 := 0) (r3 := 0) rfl (fun e12 (fe12 : -2147483648 ≤ e12 ∧ e12 ≤ 2147483647) => ?_)
      refine wr_iorA (nx := 37) (r1 := 0) (r2 := 0) (r3 := 0) rfl (fun e13 (fe13 : -2147483648 ≤ e13 ∧ e13 ≤ 2147483647) => ?_)
      refine wi_istore_n (i := 1) (e := e13) (lo2 := [(1, vi e13), (0, .ref 18), (2, vi x2)]) (nx := 38) (r1 := 0) (r2 := 0) (r3 := 0) rfl rfl ?_
      refine wr_iinc (i := 2) (n := 1) (v := x2) (fun e14 => [(2, vi e14), (1, vi e13), (0, .ref 18)]) (nx := 41) (r1 := 0) (r2 := 0) (r3 := 0) rfl rfl (fun _ => rfl) (fun e14 (fe14 : e14 = x2 + 1) => ?_)
      refine wi_goto (nx := 44) (r1 := 4) (r2 := 0) (r3 := 0) rfl ?_
      refine wp.lo (lo := [(0, .ref 18), (1, vi e13), (2, vi e14)]) ⟨rfl, rfl, rfl, trivial⟩ rfl ?_
      exact I3 e13 e14 h ⟨rfl, (show (-2147483648 ≤ e13 ∧ e13 ≤ 2147483647) ∧ (0 ≤ e14 ∧ e14 ≤ 12) by omega)⟩ (show ((12 : Int) + 1 - e14).toNat < ((12 : Int) + 1 - x2).toNat by omega)
-- method 148: Line.boundOf(I)I
set_option maxRecDepth 100000 in
set_option maxHeartbeats 100000000 in
theorem ct_148_18 {L : Nat} {xs : Nat → Int32} {d b c : Nat} {h : hp} {cr : Nat → Nat → Option Nat} {Q : hp_Q} (hcr : CR cr)  (g : GI h) (a0 : Int) (q0_ : -2147483648 ≤ a0 ∧ a0 ≤ 2147483647)  (k : ∀ (z0 : Int), (-2147483648 ≤ z0 ∧ z0 ≤ 2147483647) → Q (.inl (some (vi z0))) (hp_w h cr) b c) : wp (md_xa (L, xs)) (d + 1) 148 (0, [(0, .ref 18), (1, vi a0)], [], hp_w h cr, b, c) Q := by
  have F0 : FR [] h h := FR.refl
  refine wi_iconst (n := 0) (nx := 1) (r1 := 0) (r2 := 0) (r3 := 0) rfl ?_
  refine wi_istore_n (i := 2) (e := 0) (lo2 := [(2, vi 0), (0, .ref 18), (1, vi a0)]) (nx := 2) (r1 := 0) (r2 := 0) (r3 := 0) rfl rfl ?_
  refine wi_iconst (n := 0) (nx := 3) (r1 := 0) (r2 := 0) (r3 := 0) rfl ?_
  refine wi_istore_n (i := 3) (e := 0) (lo2 := [(3, vi 0), (2, vi 0), (0, .ref 18), (1, vi a0)]) (nx := 4) (r1 := 0) (r2 := 0) (r3 := 0) rfl rfl ?_
  refine wi_iconst (n := 0) (nx := 5) (r1 := 0) (r2 := 0) (r3 := 0) rfl ?_
  refine wi_istore (i := 4) (e := 0) (lo2 := [(4, vi 0), (3, vi 0), (2, vi 0), (0, .ref 18), (1, vi a0)]) (nx := 7) (r1 := 0) (r2 := 0) (r3 := 0) rfl rfl ?_
  refine wp.lo (lo := [(0, .ref 18), (1, vi a0), (2, vi 0), (3, vi 0), (4, vi 0)]) ⟨rfl, rfl, rfl, rfl, rfl, trivial⟩ rfl ?_
  refine wl_3 (fun x1 x2 x3 h4 => h = h4 ∧ ((-2147483648 ≤ x1 ∧ x1 ≤ 2147483647) ∧ (0 ≤ x2 ∧ x2 ≤ 2147483647) ∧ (0 ≤ x3 ∧ x3 ≤ 5))) (fun x1 x2 x3 h4 => ((5 : Int) + 1 - x3).toNat) (fun x1 x2 x3 h4 => (7, [(0, .ref 18), (1, vi a0), (2, vi x1), (3, vi x2), (4, vi x3)], [], hp_w h4 cr, b, c)) ?_ 0 0 0 h ⟨rfl, (show (-2147483648 ≤ 0 ∧ 0 ≤ 2147483647) ∧ (0 ≤ 0 ∧ 0 ≤ 2147483647) ∧ (0 ≤ 0 ∧ 0 ≤ 5) by omega)⟩
  intro x1 x2 x3 h4 ⟨e4, f4⟩ I4
  subst e4
  refine wi_iload (i := 4) (e := x3) (nx := 9) (r1 := 0) (r2 := 0) (r3 := 0) rfl rfl ?_
  refine wi_aload_n (i := 0) (x := 18) (nx := 10) (r1 := 0) (r2 := 0) (r3 := 0) rfl rfl ?_
  refine wr_gr (k0 := 18) (x := 3) (nx := 13) (r1 := 4) (r2 := 0) (r3 := 0) rfl rfl (by decide) rfl ⟨rfl, rfl⟩ rfl ?_
  have b6 := gi_b (lo := 0) (hi := 5) g 3 0 rfl
  refine wr_gi0 (k0 := 3) (x := h 3 0) (nx := 16) (r1 := 2) (r2 := 0) (r3 := 0) rfl rfl (by decide) rfl ⟨rfl, rfl⟩ rfl rfl ?_
  refine wi_icmp (cd := .ge) (nx := 19) (r1 := 71) (r2 := 0) (r3 := 0) rfl (by omega) (by omega) (fun (q7 : (h 3 0) ≤ x3) => ?_) (fun (q7 : ¬ ((h 3 0) ≤ x3)) => ?_)
  ·
    refine wi_aload_n (i := 0) (x := 18) (nx := 72) (r1 := 0) (r2 := 0) (r3 := 0) rfl rfl ?_
    have b8 := gi_b (lo := -2147483648) (hi := 2147483647) g 18 8 rfl
    refine wr_gi0 (k0 := 18) (x := h 18 8) (nx := 75) (r1 := 4) (r2 := 8) (r3 := 0) rfl rfl (by decide) rfl ⟨rfl, rfl⟩ rfl rfl ?_
    refine wi_iconst (n := (-1)) (nx := 76) (r1 := 0) (r2 := 0) (r3 := 0) rfl ?_
    refine wi_icmp (cd := .ne) (nx := 79) (r1 := 85) (r2 := 0) (r3 := 0) rfl (by omega) (by omega) (fun (q9 : (h 18 8) ≠ (-1)) => ?_) (fun (q9 : ¬ ((h 18 8) ≠ (-1))) => ?_)
    ·
      refine wi_iload_n (i := 2) (e := x1) (nx := 86) (r1 := 0) (r2 := 0) (r3 := 0) rfl rfl ?_
      refine wi_ireturn (nx := 87) (r1 := 0) (r2 := 0) (r3 := 0) rfl rfl ?_
      exact k x1 (by omega)
    ·
      refine wi_iload_n (i := 2) (e := x1) (nx := 80) (r1 := 0) (r2 := 0) (r3 := 0) rfl rfl ?_
      refine wi_iload_n (i := 3) (e := x2) (nx := 81) (r1 := 0) (r2 := 0) (r3 := 0) rfl rfl ?_
      refine wr_subW (nx := 82) (r1 := 0) (r2 := 0) (r3 := 0) rfl (fun e10 (fe10 : -2147483648 ≤ e10 ∧ e10 ≤ 2147483647) => ?_)
      refine wi_goto (nx := 85) (r1 := 86) (r2 := 0) (r3 := 0) rfl ?_
      refine wi_ireturn (nx := 87) (r1 := 0) (r2 := 0) (r3 := 0) rfl rfl ?_
      exact k e10 (by omega)
  ·
    refine wi_iload_n (i := 1) (e := a0) (nx := 20) (r1 := 0) (r2 := 0) (r3 := 0) rfl rfl ?_
    refine wi_iload (i := 4) (e := x3) (nx := 22) (r1 := 0) (r2 := 0) (r3 := 0) rfl rfl ?_
    refine wr_ishrA (nx := 23) (r1 := 0) (r2 := 0) (r3 := 0) rfl (fun e8 (fe8 : -2147483648 ≤ e8 ∧ e8 ≤ 2147483647) => ?_)
    refine wi_iconst (n := 1) (nx := 24) (r1 := 0) (r2 := 0) (r3 := 0) rfl ?_
    refine wi_iandm (m := 1) (nx := 25) (r1 := 0) (r2 := 0) (r3 := 0) rfl (by decide) (by decide) (fun e9 (fe9 : 0 ≤ e9 ∧ e9 ≤ 1) => ?_)
    refine wi_if (cd := .eq) (nx := 28) (r1 := 65) (r2 := 0) (r3 := 0) rfl (by omega) (fun (q10 : e9 = 0) => ?_) (fun (q10 : ¬ (e9 = 0)) => ?_)
    ·
      refine wr_iinc (i := 4) (n := 1) (v := x3) (fun e11 => [(4, vi e11), (0, .ref 18), (1, vi a0), (2, vi x1), (3, vi x2)]) (nx := 68) (r1 := 0) (r2 := 0) (r3 := 0) rfl rfl (fun _ => rfl) (fun e11 (fe11 : e11 = x3 + 1) => ?_)
      refine wi_goto (nx := 71) (r1 := 7) (r2 := 0) (r3 := 0) rfl ?_
      refine wp.lo (lo := [(0, .ref 18), (1, vi a0), (2, vi x1), (3, vi x2), (4, vi e11)]) ⟨rfl, rfl, rfl, rfl, rfl, trivial⟩ rfl ?_
      exact I4 x1 x2 e11 h ⟨rfl, (show (-2147483648 ≤ x1 ∧ x1 ≤ 2147483647) ∧ (0 ≤ x2 ∧ x2 ≤ 2147483647) ∧ (0 ≤ e11 ∧ e11 ≤ 5) by omega)⟩ (show ((5 : Int) + 1 - e11).toNat < ((5 : Int) + 1 - x3).toNat by omega)
    ·
      refine wi_iload (i := 4) (e := x3) (nx := 30) (r1 := 0) (r2 := 0) (r3 := 0) rfl rfl ?_
      refine wi_aload_n (i := 0) (x := 18) (nx := 31) (r1 := 0) (r2 := 0) (r3 := 0) rfl rfl ?_
      have b11 := gi_b (lo := -2147483648) (hi := 2147483647) g 18 8 rfl
      refine wr_gi0 (k0 := 18) (x := h 18 8) (nx := 34) (r1 := 4) (r2 := 8) (r3 := 0) rfl rfl (by decide) rfl ⟨rfl, rfl⟩ rfl rfl ?_
      refine wi_icmp (cd := .eq) (nx := 37) (r1 := 65) (r2 := 0) (r3 := 0) rfl (by omega) (by omega) (fun (q12 : x3 = (h 18 8)) => ?_) (fun (q12 : ¬ (x3 = (h 18 8))) => ?_)
      ·
        refine wr_iinc (i := 4) (n := 1) (v := x3) (fun e13 => [(4, vi e13), (0, .ref 18), (1, vi a0), (2, vi x1), (3, vi x2)]) (nx := 68) (r1 := 0) (r2 := 0) (r3 := 0) rfl rfl (fun _ => rfl) (fun e13 (fe13 : e13 = x3 + 1) => ?_)
        refine wi_goto (nx := 71) (r1 := 7) (r2 := 0) (r3 := 0) rfl ?_
        refine wp.lo (lo := [(0, .ref 18), (1, vi a0), (2, vi x1), (3, vi x2), (4, vi e13)]) ⟨rfl, rfl, rfl, rfl, rfl, trivial⟩ rfl ?_
        exact I4 x1 x2 e13 h ⟨rfl, (show (-2147483648 ≤ x1 ∧ x1 ≤ 2147483647) ∧ (0 ≤ x2 ∧ x2 ≤ 2147483647) ∧ (0 ≤ e13 ∧ e13 ≤ 5) by omega)⟩ (show ((5 : Int) + 1 - e13).toNat < ((5 : Int) + 1 - x3).toNat by omega)
      ·
        refine wi_iload_n (i := 2) (e := x1) (nx := 38) (r1 := 0) (r2 := 0) (r3 := 0) rfl rfl ?_
        refine wi_aload_n (i := 0) (x := 18) (nx := 39) (r1 := 0) (r2 := 0) (r3 := 0) rfl rfl ?_
        refine wr_gr (k0 := 18) (x := 3) (nx := 42) (r1 := 4) (r2 := 0) (r3 := 0) rfl rfl (by decide) rfl ⟨rfl, rfl⟩ rfl ?_
        refine wr_gr (k0 := 3) (x := 5) (nx := 45) (r1 := 2) (r2 := 11) (r3 := 0) rfl rfl (by decide) rfl ⟨rfl, rfl⟩ rfl ?_
        refine wi_iload (i := 4) (e := x3) (nx := 47) (r1 := 0) (r2 := 0) (r3 := 0) rfl rfl ?_
        obtain ⟨i13, ei13⟩ : ∃ q : Nat, x3 = (q : Int) := ⟨(x3).toNat, by omega⟩
        have b14 := gi_b (lo := -2147483648) (hi := 2147483647) g 5 i13 rfl
        refine wr_ia (k0 := 5) (a := x3) (f := i13) (x := h 5 i13) (nx := 48) (r1 := 0) (r2 := 0) (r3 := 0) rfl (by decide) rfl (by omega) (by omega) (by decide) rfl ?_
        refine wr_addW (nx := 49) (r1 := 0) (r2 := 0) (r3 := 0) rfl (fun e15 (fe15 : -2147483648 ≤ e15 ∧ e15 ≤ 2147483647) => ?_)
        refine wi_istore_n (i := 2) (e := e15) (lo2 := [(2, vi e15), (0, .ref 18), (1, vi a0), (3, vi x2), (4, vi x3)]) (nx := 50) (r1 := 0) (r2 := 0) (r3 := 0) rfl rfl ?_
        refine wi_iload_n (i := 3) (e := x2) (nx := 51) (r1 := 0) (r2 := 0) (r3 := 0) rfl rfl ?_
        refine wi_aload_n (i := 0) (x := 18) (nx := 52) (r1 := 0) (r2 := 0) (r3 := 0) rfl rfl ?_
        refine wr_gr (k0 := 18) (x := 3) (nx := 55) (r1 := 4) (r2 := 0) (r3 := 0) rfl rfl (by decide) rfl ⟨rfl, rfl⟩ rfl ?_
        refine wr_gr (k0 := 3) (x := 5) (nx := 58) (r1 := 2) (r2 := 11) (r3 := 0) rfl rfl (by decide) rfl ⟨rfl, rfl⟩ rfl ?_
        refine wi_iload (i := 4) (e := x3) (nx := 60) (r1 := 0) (r2 := 0) (r3 := 0) rfl rfl ?_
        refine wr_ia (k0 := 5) (a := x3) (f := i13) (x := h 5 i13) (nx := 61) (r1 := 0) (r2 := 0) (r3 := 0) rfl (by decide) rfl (by omega) (by omega) (by decide) rfl ?_
        refine wi_S (rest := []) (as := [vi x2, vi (h 5 i13)]) (nx := 64) (r1 := 354) (r2 := 18) (r3 := 0) rfl rfl rfl (of_decide_eq_true rfl) rfl rfl (of_decide_eq_true rfl) (of_decide_eq_true rfl) ?_
        refine wi_iload_n (i := 0) (e := x2) (nx := 1) (r1 := 0) (r2 := 0) (r3 := 0) rfl rfl ?_
        refine wi_iload_n (i := 1) (e := h 5 i13) (nx := 2) (r1 := 0) (r2 := 0) (r3 := 0) rfl rfl ?_
        refine wi_icmp (cd := .lt) (nx := 5) (r1 := 9) (r2 := 0) (r3 := 0) rfl (by omega) (by omega) (fun (q16 : x2 < (h 5 i13)) => ?_) (fun (q16 : ¬ (x2 < (h 5 i13))) => ?_)
        ·
          refine wi_iload_n (i := 1) (e := h 5 i13) (nx := 10) (r1 := 0) (r2 := 0) (r3 := 0) rfl rfl ?_
          refine wi_ireturn (nx := 11) (r1 := 0) (r2 := 0) (r3 := 0) rfl rfl ?_
          refine wk_i ?_
          refine wi_istore_n (i := 3) (e := h 5 i13) (lo2 := [(3, vi (h 5 i13)), (2, vi e15), (0, .ref 18), (1, vi a0), (4, vi x3)]) (nx := 65) (r1 := 0) (r2 := 0) (r3 := 0) rfl rfl ?_
          refine wr_iinc (i := 4) (n := 1) (v := x3) (fun e17 => [(4, vi e17), (3, vi (h 5 i13)), (2, vi e15), (0, .ref 18), (1, vi a0)]) (nx := 68) (r1 := 0) (r2 := 0) (r3 := 0) rfl rfl (fun _ => rfl) (fun e17 (fe17 : e17 = x3 + 1) => ?_)
          refine wi_goto (nx := 71) (r1 := 7) (r2 := 0) (r3 := 0) rfl ?_
          refine wp.lo (lo := [(0, .ref 18), (1, vi a0), (2, vi e15), (3, vi (h 5 i13)), (4, vi e17)]) ⟨rfl, rfl, rfl, rfl, rfl, trivial⟩ rfl ?_
          exact I4 e15 (h 5 i13) e17 h ⟨rfl, (show (-2147483648 ≤ e15 ∧ e15 ≤ 2147483647) ∧ (0 ≤ (h 5 i13) ∧ (h 5 i13) ≤ 2147483647) ∧ (0 ≤ e17 ∧ e17 ≤ 5) by omega)⟩ (show ((5 : Int) + 1 - e17).toNat < ((5 : Int) + 1 - x3).toNat by omega)
        ·
          refine wi_iload_n (i := 0) (e := x2) (nx := 6) (r1 := 0) (r2 := 0) (r3 := 0) rfl rfl ?_
          refine wi_goto (nx := 9) (r1 := 10) (r2 := 0) (r3 := 0) rfl ?_
          refine wi_ireturn (nx := 11) (r1 := 0) (r2 := 0) (r3 := 0) rfl rfl ?_
          refine wk_i ?_
          refine wi_istore_n (i := 3) (e := x2) (lo2 := [(3, vi x2), (2, vi e15), (0, .ref 18), (1, vi a0), (4, vi x3)]) (nx := 65) (r1 := 0) (r2 := 0) (r3 := 0) rfl rfl ?_
          refine wr_iinc (i := 4) (n := 1) (v := x3) (fun e17 => [(4, vi e17), (3, vi x2), (2, vi e15), (0, .ref 18), (1, vi a0)]) (nx := 68) (r1 := 0) (r2 := 0) (r3 := 0) rfl rfl (fun _ => rfl) (fun e17 (fe17 : e17 = x3 + 1) => ?_)
          refine wi_goto (nx := 71) (r1 := 7) (r2 := 0) (r3 := 0) rfl ?_
          refine wp.lo (lo := [(0, .ref 18), (1, vi a0), (2, vi e15), (3, vi x2), (4, vi e17)]) ⟨rfl, rfl, rfl, rfl, rfl, trivial⟩ rfl ?_
          exact I4 e15 x2 e17 h ⟨rfl, (show (-2147483648 ≤ e15 ∧ e15 ≤ 2147483647) ∧ (0 ≤ x2 ∧ x2 ≤ 2147483647) ∧ (0 ≤ e17 ∧ e17 ≤ 5) by omega)⟩ (show ((5 : Int) + 1 - e17).toNat < ((5 : Int) + 1 - x3).toNat by omega)
-- method 53: Bank.bound()I
set_option maxRecDepth 100000 in
set_option maxHeartbeats 100000000 in
theorem ct_53_0 {L : Nat} {xs : Nat → Int32} {d b c : Nat} {h : hp} {cr : Nat → Nat → Option Nat} {Q : hp_Q} (hcr : CR cr)  (g : GI h)    (k : ∀ (z0 : Int), (-2147483648 ≤ z0 ∧ z0 ≤ 2147483647) → Q (.inl (some (vi z0))) (hp_w h cr) b c) : wp (md_xa (L, xs)) (d + 2) 53 (0, [(0, .ref 0)], [], hp_w h cr, b, c) Q := by
  have F0 : FR [] h h := FR.refl
  refine wi_aload_n (i := 0) (x := 0) (nx := 1) (r1 := 0) (r2 := 0) (r3 := 0) rfl rfl ?_
  refine wr_gr (k0 := 0) (x := 18) (nx := 4) (r1 := 0) (r2 := 3) (r3 := 0) rfl rfl (by decide) rfl ⟨rfl, rfl⟩ rfl ?_
  refine wi_aload_n (i := 0) (x := 0) (nx := 5) (r1 := 0) (r2 := 0) (r3 := 0) rfl rfl ?_
  refine wr_gr (k0 := 0) (x := 18) (nx := 8) (r1 := 0) (r2 := 3) (r3 := 0) rfl rfl (by decide) rfl ⟨rfl, rfl⟩ rfl ?_
  refine wr_V (k0 := 18) (rest := [.ref 18]) (as := [.ref 18]) (nx := 11) (r1 := 149) (r2 := 0) (r3 := 4) rfl rfl rfl (of_decide_eq_true rfl) rfl rfl (by decide) rfl rfl (of_decide_eq_true rfl) (of_decide_eq_true rfl) ?_
  refine ct_149_18 hcr  g    (fun z2  (fz2 : -2147483648 ≤ z2 ∧ z2 ≤ 2147483647) => ?_)
  refine wk_i ?_
  refine wr_V (k0 := 18) (rest := []) (as := [.ref 18, vi z2]) (nx := 14) (r1 := 148) (r2 := 1) (r3 := 4) rfl rfl rfl (of_decide_eq_true rfl) rfl rfl (by decide) rfl rfl (of_decide_eq_true rfl) (of_decide_eq_true rfl) ?_
  refine ct_148_18 hcr  g z2 (by omega)  (fun z4  (fz4 : -2147483648 ≤ z4 ∧ z4 ≤ 2147483647) => ?_)
  refine wk_i ?_
  refine wi_ireturn (nx := 15) (r1 := 0) (r2 := 0) (r3 := 0) rfl rfl ?_
  exact k z4 (by omega)
-- method 141: Line.mayLeave(I)Z
set_option maxRecDepth 100000 in
set_option maxHeartbeats 100000000 in
theorem ct_141_18 {L : Nat} {xs : Nat → Int32} {d b c : Nat} {h : hp} {cr : Nat → Nat → Option Nat} {Q : hp_Q} (hcr : CR cr)  (g : GI h) (a0 : Int) (q0_ : -2147483648 ≤ a0 ∧ a0 ≤ 2147483647)  (k : ∀ (z0 : Int), (0 ≤ z0 ∧ z0 ≤ 1) → (z0 = 1 → 0 ≤ a0 ∧ a0 ≤ 3) → Q (.inl (some (vi z0))) (hp_w h cr) b c) : wp (md_xa (L, xs)) (d + 1) 141 (0, [(0, .ref 18), (1, vi a0)], [], hp_w h cr, b, c) Q := by
  have F0 : FR [] h h := FR.refl
  refine wi_iload_n (i := 1) (e := a0) (nx := 1) (r1 := 0) (r2 := 0) (r3 := 0) rfl rfl ?_
  refine wi_if (cd := .lt) (nx := 4) (r1 := 25) (r2 := 0) (r3 := 0) rfl (by omega) (fun (q1 : a0 < 0) => ?_) (fun (q1 : ¬ (a0 < 0)) => ?_)
  ·
    refine wi_iconst (n := 0) (nx := 26) (r1 := 0) (r2 := 0) (r3 := 0) rfl ?_
    refine wi_zreturn (nx := 27) (r1 := 0) (r2 := 0) (r3 := 0) rfl rfl (by omega) ?_
    exact k 0 (by omega) (fun _ => by omega)
  ·
    refine wi_iload_n (i := 1) (e := a0) (nx := 5) (r1 := 0) (r2 := 0) (r3 := 0) rfl rfl ?_
    refine wi_aload_n (i := 0) (x := 18) (nx := 6) (r1 := 0) (r2 := 0) (r3 := 0) rfl rfl ?_
    refine wr_gr (k0 := 18) (x := 3) (nx := 9) (r1 := 4) (r2 := 0) (r3 := 0) rfl rfl (by decide) rfl ⟨rfl, rfl⟩ rfl ?_
    have b2 := gi_b (lo := 0) (hi := 4) g 3 1 rfl
    refine wr_gi0 (k0 := 3) (x := h 3 1) (nx := 12) (r1 := 2) (r2 := 1) (r3 := 0) rfl rfl (by decide) rfl ⟨rfl, rfl⟩ rfl rfl ?_
    refine wi_icmp (cd := .ge) (nx := 15) (r1 := 25) (r2 := 0) (r3 := 0) rfl (by omega) (by omega) (fun (q3 : (h 3 1) ≤ a0) => ?_) (fun (q3 : ¬ ((h 3 1) ≤ a0)) => ?_)
    ·
      refine wi_iconst (n := 0) (nx := 26) (r1 := 0) (r2 := 0) (r3 := 0) rfl ?_
      refine wi_zreturn (nx := 27) (r1 := 0) (r2 := 0) (r3 := 0) rfl rfl (by omega) ?_
      exact k 0 (by omega) (fun _ => by omega)
    ·
      refine wi_aload_n (i := 0) (x := 18) (nx := 16) (r1 := 0) (r2 := 0) (r3 := 0) rfl rfl ?_
      have b4 := gi_b (lo := -2147483648) (hi := 2147483647) g 18 10 rfl
      refine wr_gi0 (k0 := 18) (x := h 18 10) (nx := 19) (r1 := 4) (r2 := 10) (r3 := 0) rfl rfl (by decide) rfl ⟨rfl, rfl⟩ rfl rfl ?_
      refine wi_sipush (n := 9999) (nx := 22) (r1 := 0) (r2 := 0) (r3 := 0) rfl (by decide) ?_
      refine wi_icmp (cd := .lt) (nx := 25) (r1 := 27) (r2 := 0) (r3 := 0) rfl (by omega) (by omega) (fun (q5 : (h 18 10) < 9999) => ?_) (fun (q5 : ¬ ((h 18 10) < 9999)) => ?_)
      ·
        refine wi_aload_n (i := 0) (x := 18) (nx := 28) (r1 := 0) (r2 := 0) (r3 := 0) rfl rfl ?_
        refine wr_gr (k0 := 18) (x := 21) (nx := 31) (r1 := 4) (r2 := 3) (r3 := 0) rfl rfl (by decide) rfl ⟨rfl, rfl⟩ rfl ?_
        refine wi_iload_n (i := 1) (e := a0) (nx := 32) (r1 := 0) (r2 := 0) (r3 := 0) rfl rfl ?_
        obtain ⟨i6, ei6⟩ : ∃ q : Nat, a0 = (q : Int) := ⟨(a0).toNat, by omega⟩
        refine wr_aa (k0 := 21) (a := a0) (f := i6) (x := 21 + 8 + 2 * i6) (nx := 33) (r1 := 0) (r2 := 0) (r3 := 0) rfl (by decide) rfl (Or.inl rfl) (by omega) (by omega) (by decide) (hcr.1 21 (by decide) i6 (by omega)) ?_
        obtain ⟨k7, kk7, mk7⟩ : ∃ q, Rw q ∧ q = 21 + 8 + 2 * i6 := ⟨_, rw_lane 21 (by decide) i6 (by omega), rfl⟩
        rw [← mk7]
        refine wi_iconst (n := 0) (nx := 34) (r1 := 0) (r2 := 0) (r3 := 0) rfl ?_
        refine wr_V (k0 := k7) (rest := []) (as := [.ref k7, vi 0]) (nx := 37) (r1 := 154) (r2 := 1) (r3 := 5) rfl rfl rfl (of_decide_eq_true rfl) rfl rfl kk7.k kk7.1 rfl (of_decide_eq_true rfl) (of_decide_eq_true rfl) ?_
        refine ct_154_R hcr kk7 g 0 (by omega)  (fun z9  (fz9 : -2147483648 ≤ z9 ∧ z9 ≤ 2147483647) => ?_)
        refine wk_i ?_
        refine wi_istore_n (i := 2) (e := z9) (lo2 := [(2, vi z9), (0, .ref 18), (1, vi a0)]) (nx := 38) (r1 := 0) (r2 := 0) (r3 := 0) rfl rfl ?_
        refine wi_iload_n (i := 2) (e := z9) (nx := 39) (r1 := 0) (r2 := 0) (r3 := 0) rfl rfl ?_
        refine wi_if (cd := .lt) (nx := 42) (r1 := 48) (r2 := 0) (r3 := 0) rfl (by omega) (fun (q10 : z9 < 0) => ?_) (fun (q10 : ¬ (z9 < 0)) => ?_)
        ·
          refine wi_iconst (n := 0) (nx := 49) (r1 := 0) (r2 := 0) (r3 := 0) rfl ?_
          refine wi_zreturn (nx := 50) (r1 := 0) (r2 := 0) (r3 := 0) rfl rfl (by omega) ?_
          exact k 0 (by omega) (fun _ => by omega)
        ·
          refine wi_iload_n (i := 2) (e := z9) (nx := 43) (r1 := 0) (r2 := 0) (r3 := 0) rfl rfl ?_
          refine wi_bipush (n := 12) (nx := 45) (r1 := 0) (r2 := 0) (r3 := 0) rfl (by decide) ?_
          refine wi_icmp (cd := .lt) (nx := 48) (r1 := 50) (r2 := 0) (r3 := 0) rfl (by omega) (by omega) (fun (q11 : z9 < 12) => ?_) (fun (q11 : ¬ (z9 < 12)) => ?_)
          ·
            refine wi_aload_n (i := 0) (x := 18) (nx := 51) (r1 := 0) (r2 := 0) (r3 := 0) rfl rfl ?_
            refine wr_gr (k0 := 18) (x := 20) (nx := 54) (r1 := 4) (r2 := 2) (r3 := 0) rfl rfl (by decide) rfl ⟨rfl, rfl⟩ rfl ?_
            refine wi_iload_n (i := 2) (e := z9) (nx := 55) (r1 := 0) (r2 := 0) (r3 := 0) rfl rfl ?_
            obtain ⟨i12, ei12⟩ : ∃ q : Nat, z9 = (q : Int) := ⟨(z9).toNat, by omega⟩
            have b13 := gi_b (lo := -2147483648) (hi := 2147483647) g 20 i12 rfl
            refine wr_ia (k0 := 20) (a := z9) (f := i12) (x := h 20 i12) (nx := 56) (r1 := 0) (r2 := 0) (r3 := 0) rfl (by decide) rfl (by omega) (by omega) (by decide) rfl ?_
            refine wi_if (cd := .le) (nx := 59) (r1 := 82) (r2 := 0) (r3 := 0) rfl (by omega) (fun (q14 : (h 20 i12) ≤ 0) => ?_) (fun (q14 : ¬ ((h 20 i12) ≤ 0)) => ?_)
            ·
              refine wi_iload_n (i := 2) (e := z9) (nx := 83) (r1 := 0) (r2 := 0) (r3 := 0) rfl rfl ?_
              refine wi_aload_n (i := 0) (x := 18) (nx := 84) (r1 := 0) (r2 := 0) (r3 := 0) rfl rfl ?_
              refine wr_gr (k0 := 18) (x := 26) (nx := 87) (r1 := 4) (r2 := 6) (r3 := 0) rfl rfl (by decide) rfl ⟨rfl, rfl⟩ rfl ?_
              have b15 := gi_b (lo := 0) (hi := 12) g 26 1 rfl
              refine wr_gi0 (k0 := 26) (x := h 26 1) (nx := 90) (r1 := 5) (r2 := 1) (r3 := 0) rfl rfl (by decide) rfl ⟨rfl, rfl⟩ rfl rfl ?_
              refine wr_sub (nx := 91) (r1 := 0) (r2 := 0) (r3 := 0) rfl (fun e16 (fe16 : e16 = z9 - (h 26 1)) => ?_)
              refine wi_aload_n (i := 0) (x := 18) (nx := 92) (r1 := 0) (r2 := 0) (r3 := 0) rfl rfl ?_
              refine wr_gr (k0 := 18) (x := 3) (nx := 95) (r1 := 4) (r2 := 0) (r3 := 0) rfl rfl (by decide) rfl ⟨rfl, rfl⟩ rfl ?_
              have b17 := gi_b (lo := -2147483648) (hi := 2147483647) g 3 3 rfl
              refine wr_gi0 (k0 := 3) (x := h 3 3) (nx := 98) (r1 := 2) (r2 := 3) (r3 := 0) rfl rfl (by decide) rfl ⟨rfl, rfl⟩ rfl rfl ?_
              refine wi_icmp (cd := .gt) (nx := 101) (r1 := 105) (r2 := 0) (r3 := 0) rfl (by omega) (by omega) (fun (q18 : (h 3 3) < e16) => ?_) (fun (q18 : ¬ ((h 3 3) < e16)) => ?_)
              ·
                refine wi_iconst (n := 0) (nx := 106) (r1 := 0) (r2 := 0) (r3 := 0) rfl ?_
                refine wi_zreturn (nx := 107) (r1 := 0) (r2 := 0) (r3 := 0) rfl rfl (by omega) ?_
                exact k 0 (by omega) (fun _ => by omega)
              ·
                refine wi_iconst (n := 1) (nx := 102) (r1 := 0) (r2 := 0) (r3 := 0) rfl ?_
                refine wi_goto (nx := 105) (r1 := 106) (r2 := 0) (r3 := 0) rfl ?_
                refine wi_zreturn (nx := 107) (r1 := 0) (r2 := 0) (r3 := 0) rfl rfl (by omega) ?_
                exact k 1 (by omega) (fun _ => by omega)
            ·
              refine wi_aload_n (i := 0) (x := 18) (nx := 60) (r1 := 0) (r2 := 0) (r3 := 0) rfl rfl ?_
              refine wr_gr (k0 := 18) (x := 22) (nx := 63) (r1 := 4) (r2 := 4) (r3 := 0) rfl rfl (by decide) rfl ⟨rfl, rfl⟩ rfl ?_
              have b15 := gi_b (lo := 0) (hi := 12) g 22 1 rfl
              refine wr_gi0 (k0 := 22) (x := h 22 1) (nx := 66) (r1 := 5) (r2 := 1) (r3 := 0) rfl rfl (by decide) rfl ⟨rfl, rfl⟩ rfl rfl ?_
              refine wi_aload_n (i := 0) (x := 18) (nx := 67) (r1 := 0) (r2 := 0) (r3 := 0) rfl rfl ?_
              refine wr_gr (k0 := 18) (x := 3) (nx := 70) (r1 := 4) (r2 := 0) (r3 := 0) rfl rfl (by decide) rfl ⟨rfl, rfl⟩ rfl ?_
              have b16 := gi_b (lo := -2147483648) (hi := 2147483647) g 3 7 rfl
              refine wr_gi0 (k0 := 3) (x := h 3 7) (nx := 73) (r1 := 2) (r2 := 7) (r3 := 0) rfl rfl (by decide) rfl ⟨rfl, rfl⟩ rfl rfl ?_
              refine wi_icmp (cd := .ge) (nx := 76) (r1 := 80) (r2 := 0) (r3 := 0) rfl (by omega) (by omega) (fun (q17 : (h 3 7) ≤ (h 22 1)) => ?_) (fun (q17 : ¬ ((h 3 7) ≤ (h 22 1))) => ?_)
              ·
                refine wi_iconst (n := 0) (nx := 81) (r1 := 0) (r2 := 0) (r3 := 0) rfl ?_
                refine wi_zreturn (nx := 82) (r1 := 0) (r2 := 0) (r3 := 0) rfl rfl (by omega) ?_
                exact k 0 (by omega) (fun _ => by omega)
              ·
                refine wi_iconst (n := 1) (nx := 77) (r1 := 0) (r2 := 0) (r3 := 0) rfl ?_
                refine wi_goto (nx := 80) (r1 := 81) (r2 := 0) (r3 := 0) rfl ?_
                refine wi_zreturn (nx := 82) (r1 := 0) (r2 := 0) (r3 := 0) rfl rfl (by omega) ?_
                exact k 1 (by omega) (fun _ => by omega)
          ·
            refine wi_iconst (n := 0) (nx := 49) (r1 := 0) (r2 := 0) (r3 := 0) rfl ?_
            refine wi_zreturn (nx := 50) (r1 := 0) (r2 := 0) (r3 := 0) rfl rfl (by omega) ?_
            exact k 0 (by omega) (fun _ => by omega)
      ·
        refine wi_iconst (n := 0) (nx := 26) (r1 := 0) (r2 := 0) (r3 := 0) rfl ?_
        refine wi_zreturn (nx := 27) (r1 := 0) (r2 := 0) (r3 := 0) rfl rfl (by omega) ?_
        exact k 0 (by omega) (fun _ => by omega)
-- method 77: Bank.canLeave(I)Z
set_option maxRecDepth 100000 in
set_option maxHeartbeats 100000000 in
theorem ct_77_0 {L : Nat} {xs : Nat → Int32} {d b c : Nat} {h : hp} {cr : Nat → Nat → Option Nat} {Q : hp_Q} (hcr : CR cr) (hr : 1 ≤ b ∧ 6 ≤ c)  (g : GI h) (a0 : Int) (q0_ : -2147483648 ≤ a0 ∧ a0 ≤ 2147483647)  (k : ∀ (z0 : Int), (0 ≤ z0 ∧ z0 ≤ 1) → (z0 = 0 → 0 ≤ a0 ∧ a0 ≤ 3) → (z0 = 1 → 0 ≤ a0 ∧ a0 ≤ 3) → Q (.inl (some (vi z0))) (hp_w h cr) b c) (kx2 : Q (.inr 2) (hp_w h cr) (b - 1) (c - 6)) : wp (md_xa (L, xs)) (d + 2) 77 (0, [(0, .ref 0), (1, vi a0)], [], hp_w h cr, b, c) Q := by
  have F0 : FR [] h h := FR.refl
  refine wi_aload_n (i := 0) (x := 0) (nx := 1) (r1 := 0) (r2 := 0) (r3 := 0) rfl rfl ?_
  refine wi_iload_n (i := 1) (e := a0) (nx := 2) (r1 := 0) (r2 := 0) (r3 := 0) rfl rfl ?_
  refine wr_V (k0 := 0) (rest := []) (as := [.ref 0, vi a0]) (nx := 5) (r1 := 68) (r2 := 1) (r3 := 0) rfl rfl rfl (of_decide_eq_true rfl) rfl rfl (by decide) rfl rfl (of_decide_eq_true rfl) (of_decide_eq_true rfl) ?_
  refine wi_iload_n (i := 1) (e := a0) (nx := 1) (r1 := 0) (r2 := 0) (r3 := 0) rfl rfl ?_
  refine wi_if (cd := .lt) (nx := 4) (r1 := 15) (r2 := 0) (r3 := 0) rfl (by omega) (fun (q1 : a0 < 0) => ?_) (fun (q1 : ¬ (a0 < 0)) => ?_)
  ·
    refine wr_throw (Ex := 2) (nx := 18) (r1 := 2) (r2 := 0) (r3 := 1) rfl (by decide) rfl hr (by decide) ?_
    refine wk_x rfl ?_
    exact kx2
  ·
    refine wi_iload_n (i := 1) (e := a0) (nx := 5) (r1 := 0) (r2 := 0) (r3 := 0) rfl rfl ?_
    refine wi_aload_n (i := 0) (x := 0) (nx := 6) (r1 := 0) (r2 := 0) (r3 := 0) rfl rfl ?_
    refine wr_gr (k0 := 0) (x := 3) (nx := 9) (r1 := 0) (r2 := 1) (r3 := 0) rfl rfl (by decide) rfl ⟨rfl, rfl⟩ rfl ?_
    have b2 := gi_b (lo := 0) (hi := 4) g 3 1 rfl
    refine wr_gi0 (k0 := 3) (x := h 3 1) (nx := 12) (r1 := 2) (r2 := 1) (r3 := 0) rfl rfl (by decide) rfl ⟨rfl, rfl⟩ rfl rfl ?_
    refine wi_icmp (cd := .lt) (nx := 15) (r1 := 26) (r2 := 0) (r3 := 0) rfl (by omega) (by omega) (fun (q3 : a0 < (h 3 1)) => ?_) (fun (q3 : ¬ (a0 < (h 3 1))) => ?_)
    ·
      refine wi_return (nx := 27) (r1 := 0) (r2 := 0) (r3 := 0) rfl rfl ?_
      refine wk_n ?_
      refine wi_aload_n (i := 0) (x := 0) (nx := 6) (r1 := 0) (r2 := 0) (r3 := 0) rfl rfl ?_
      refine wr_gr (k0 := 0) (x := 18) (nx := 9) (r1 := 0) (r2 := 3) (r3 := 0) rfl rfl (by decide) rfl ⟨rfl, rfl⟩ rfl ?_
      refine wi_iload_n (i := 1) (e := a0) (nx := 10) (r1 := 0) (r2 := 0) (r3 := 0) rfl rfl ?_
      refine wr_V (k0 := 18) (rest := []) (as := [.ref 18, vi a0]) (nx := 13) (r1 := 141) (r2 := 1) (r3 := 4) rfl rfl rfl (of_decide_eq_true rfl) rfl rfl (by decide) rfl rfl (of_decide_eq_true rfl) (of_decide_eq_true rfl) ?_
      refine ct_141_18 hcr  g a0 (by omega)  (fun z5  (fz5 : 0 ≤ z5 ∧ z5 ≤ 1) m4_0 => ?_)
      refine wk_i ?_
      refine wi_zreturn (nx := 14) (r1 := 0) (r2 := 0) (r3 := 0) rfl rfl (by omega) ?_
      exact k z5 (by omega) (fun _ => by omega) (fun _ => by omega)
    ·
      refine wr_throw (Ex := 2) (nx := 18) (r1 := 2) (r2 := 0) (r3 := 1) rfl (by decide) rfl hr (by decide) ?_
      refine wk_x rfl ?_
      exact kx2
-- method 66: Bank.changeCost(I)I
set_option maxRecDepth 100000 in
set_option maxHeartbeats 100000000 in
theorem ct_66_0 {L : Nat} {xs : Nat → Int32} {d b c : Nat} {h : hp} {cr : Nat → Nat → Option Nat} {Q : hp_Q} (hcr : CR cr) (hr : 1 ≤ b ∧ 6 ≤ c)  (g : GI h) (a0 : Int) (q0_ : -2147483648 ≤ a0 ∧ a0 ≤ 2147483647)  (k : ∀ (z0 : Int), (-2147483648 ≤ z0 ∧ z0 ≤ 2147483647) → (0 ≤ a0 ∧ a0 < h 3 0) → (z0 = h 5 a0.toNat) → Q (.inl (some (vi z0))) (hp_w h cr) b c) (kx2 : (a0 < 0 ∨ h 3 0 ≤ a0) → Q (.inr 2) (hp_w h cr) (b - 1) (c - 6)) : wp (md_xa (L, xs)) d 66 (0, [(0, .ref 0), (1, vi a0)], [], hp_w h cr, b, c) Q := by
  have F0 : FR [] h h := FR.refl
  refine wi_iload_n (i := 1) (e := a0) (nx := 1) (r1 := 0) (r2 := 0) (r3 := 0) rfl rfl ?_
  refine wi_if (cd := .lt) (nx := 4) (r1 := 15) (r2 := 0) (r3 := 0) rfl (by omega) (fun (q1 : a0 < 0) => ?_) (fun (q1 : ¬ (a0 < 0)) => ?_)
  ·
    refine wr_throw (Ex := 2) (nx := 18) (r1 := 2) (r2 := 0) (r3 := 1) rfl (by decide) rfl hr (by decide) ?_
    have b2 := gi_b (lo := 0) (hi := 5) g 3 0 rfl
    exact kx2 (show a0 < 0 ∨ (h 3 0) ≤ a0 by omega)
  ·
    refine wi_iload_n (i := 1) (e := a0) (nx := 5) (r1 := 0) (r2 := 0) (r3 := 0) rfl rfl ?_
    refine wi_aload_n (i := 0) (x := 0) (nx := 6) (r1 := 0) (r2 := 0) (r3 := 0) rfl rfl ?_
    refine wr_gr (k0 := 0) (x := 3) (nx := 9) (r1 := 0) (r2 := 1) (r3 := 0) rfl rfl (by decide) rfl ⟨rfl, rfl⟩ rfl ?_
    have b2 := gi_b (lo := 0) (hi := 5) g 3 0 rfl
    refine wr_gi0 (k0 := 3) (x := h 3 0) (nx := 12) (r1 := 2) (r2 := 0) (r3 := 0) rfl rfl (by decide) rfl ⟨rfl, rfl⟩ rfl rfl ?_
    refine wi_icmp (cd := .lt) (nx := 15) (r1 := 25) (r2 := 0) (r3 := 0) rfl (by omega) (by omega) (fun (q3 : a0 < (h 3 0)) => ?_) (fun (q3 : ¬ (a0 < (h 3 0))) => ?_)
    ·
      refine wi_aload_n (i := 0) (x := 0) (nx := 26) (r1 := 0) (r2 := 0) (r3 := 0) rfl rfl ?_
      refine wr_gr (k0 := 0) (x := 3) (nx := 29) (r1 := 0) (r2 := 1) (r3 := 0) rfl rfl (by decide) rfl ⟨rfl, rfl⟩ rfl ?_
      refine wr_gr (k0 := 3) (x := 5) (nx := 32) (r1 := 2) (r2 := 11) (r3 := 0) rfl rfl (by decide) rfl ⟨rfl, rfl⟩ rfl ?_
      refine wi_iload_n (i := 1) (e := a0) (nx := 33) (r1 := 0) (r2 := 0) (r3 := 0) rfl rfl ?_
      obtain ⟨i4, ei4⟩ : ∃ q : Nat, a0 = (q : Int) := ⟨(a0).toNat, by omega⟩
      have b5 := gi_b (lo := -2147483648) (hi := 2147483647) g 5 i4 rfl
      refine wr_ia (k0 := 5) (a := a0) (f := i4) (x := h 5 i4) (nx := 34) (r1 := 0) (r2 := 0) (r3 := 0) rfl (by decide) rfl (by omega) (by omega) (by decide) rfl ?_
      refine wi_ireturn (nx := 35) (r1 := 0) (r2 := 0) (r3 := 0) rfl rfl ?_
      exact k (h 5 i4) (by omega) (show 0 ≤ a0 ∧ a0 < (h 3 0) by omega) (show h 5 i4 = h 5 a0.toNat by rw [show a0.toNat = i4 by omega])
    ·
      refine wr_throw (Ex := 2) (nx := 18) (r1 := 2) (r2 := 0) (r3 := 1) rfl (by decide) rfl hr (by decide) ?_
      exact kx2 (show a0 < 0 ∨ (h 3 0) ≤ a0 by omega)
-- method 41: Bank.changes()I
set_option maxRecDepth 100000 in
set_option maxHeartbeats 100000000 in
theorem ct_41_0 {L : Nat} {xs : Nat → Int32} {d b c : Nat} {h : hp} {cr : Nat → Nat → Option Nat} {Q : hp_Q} (hcr : CR cr)  (g : GI h)    (k : ∀ (z0 : Int), (-2147483648 ≤ z0 ∧ z0 ≤ 2147483647) → Q (.inl (some (vi z0))) (hp_w h cr) b c) : wp (md_xa (L, xs)) d 41 (0, [(0, .ref 0)], [], hp_w h cr, b, c) Q := by
  have F0 : FR [] h h := FR.refl
  refine wi_aload_n (i := 0) (x := 0) (nx := 1) (r1 := 0) (r2 := 0) (r3 := 0) rfl rfl ?_
  refine wr_gr (k0 := 0) (x := 18) (nx := 4) (r1 := 0) (r2 := 3) (r3 := 0) rfl rfl (by decide) rfl ⟨rfl, rfl⟩ rfl ?_
  have b1 := gi_b (lo := -2147483648) (hi := 2147483647) g 18 11 rfl
  refine wr_gi0 (k0 := 18) (x := h 18 11) (nx := 7) (r1 := 4) (r2 := 11) (r3 := 0) rfl rfl (by decide) rfl ⟨rfl, rfl⟩ rfl rfl ?_
  refine wi_ireturn (nx := 8) (r1 := 0) (r2 := 0) (r3 := 0) rfl rfl ?_
  exact k (h 18 11) (by omega)
-- method 71: Bank.colorOf(I)I
set_option maxRecDepth 100000 in
set_option maxHeartbeats 100000000 in
theorem ct_71_0 {L : Nat} {xs : Nat → Int32} {d b c : Nat} {h : hp} {cr : Nat → Nat → Option Nat} {Q : hp_Q} (hcr : CR cr) (hr : 1 ≤ b ∧ 6 ≤ c)  (g : GI h) (a0 : Int) (q0_ : -2147483648 ≤ a0 ∧ a0 ≤ 2147483647)  (k : ∀ (z0 : Int), (-2147483648 ≤ z0 ∧ z0 ≤ 2147483647) → Q (.inl (some (vi z0))) (hp_w h cr) b c) (kx2 : Q (.inr 2) (hp_w h cr) (b - 1) (c - 6)) : wp (md_xa (L, xs)) (d + 1) 71 (0, [(0, .ref 0), (1, vi a0)], [], hp_w h cr, b, c) Q := by
  have F0 : FR [] h h := FR.refl
  refine wi_aload_n (i := 0) (x := 0) (nx := 1) (r1 := 0) (r2 := 0) (r3 := 0) rfl rfl ?_
  refine wi_iload_n (i := 1) (e := a0) (nx := 2) (r1 := 0) (r2 := 0) (r3 := 0) rfl rfl ?_
  refine wr_V (k0 := 0) (rest := []) (as := [.ref 0, vi a0]) (nx := 5) (r1 := 70) (r2 := 1) (r3 := 0) rfl rfl rfl (of_decide_eq_true rfl) rfl rfl (by decide) rfl rfl (of_decide_eq_true rfl) (of_decide_eq_true rfl) ?_
  refine wi_iload_n (i := 1) (e := a0) (nx := 1) (r1 := 0) (r2 := 0) (r3 := 0) rfl rfl ?_
  refine wi_if (cd := .lt) (nx := 4) (r1 := 15) (r2 := 0) (r3 := 0) rfl (by omega) (fun (q1 : a0 < 0) => ?_) (fun (q1 : ¬ (a0 < 0)) => ?_)
  ·
    refine wr_throw (Ex := 2) (nx := 18) (r1 := 2) (r2 := 0) (r3 := 1) rfl (by decide) rfl hr (by decide) ?_
    refine wk_x rfl ?_
    exact kx2
  ·
    refine wi_iload_n (i := 1) (e := a0) (nx := 5) (r1 := 0) (r2 := 0) (r3 := 0) rfl rfl ?_
    refine wi_aload_n (i := 0) (x := 0) (nx := 6) (r1 := 0) (r2 := 0) (r3 := 0) rfl rfl ?_
    refine wr_gr (k0 := 0) (x := 3) (nx := 9) (r1 := 0) (r2 := 1) (r3 := 0) rfl rfl (by decide) rfl ⟨rfl, rfl⟩ rfl ?_
    have b2 := gi_b (lo := 0) (hi := 12) g 3 2 rfl
    refine wr_gi0 (k0 := 3) (x := h 3 2) (nx := 12) (r1 := 2) (r2 := 2) (r3 := 0) rfl rfl (by decide) rfl ⟨rfl, rfl⟩ rfl rfl ?_
    refine wi_icmp (cd := .lt) (nx := 15) (r1 := 26) (r2 := 0) (r3 := 0) rfl (by omega) (by omega) (fun (q3 : a0 < (h 3 2)) => ?_) (fun (q3 : ¬ (a0 < (h 3 2))) => ?_)
    ·
      refine wi_return (nx := 27) (r1 := 0) (r2 := 0) (r3 := 0) rfl rfl ?_
      refine wk_n ?_
      refine wi_aload_n (i := 0) (x := 0) (nx := 6) (r1 := 0) (r2 := 0) (r3 := 0) rfl rfl ?_
      refine wr_gr (k0 := 0) (x := 18) (nx := 9) (r1 := 0) (r2 := 3) (r3 := 0) rfl rfl (by decide) rfl ⟨rfl, rfl⟩ rfl ?_
      refine wr_gr (k0 := 18) (x := 19) (nx := 12) (r1 := 4) (r2 := 1) (r3 := 0) rfl rfl (by decide) rfl ⟨rfl, rfl⟩ rfl ?_
      refine wi_iload_n (i := 1) (e := a0) (nx := 13) (r1 := 0) (r2 := 0) (r3 := 0) rfl rfl ?_
      obtain ⟨i4, ei4⟩ : ∃ q : Nat, a0 = (q : Int) := ⟨(a0).toNat, by omega⟩
      have b5 := gi_b (lo := -2147483648) (hi := 2147483647) g 19 i4 rfl
      refine wr_ia (k0 := 19) (a := a0) (f := i4) (x := h 19 i4) (nx := 14) (r1 := 0) (r2 := 0) (r3 := 0) rfl (by decide) rfl (by omega) (by omega) (by decide) rfl ?_
      refine wi_ireturn (nx := 15) (r1 := 0) (r2 := 0) (r3 := 0) rfl rfl ?_
      exact k (h 19 i4) (by omega)
    ·
      refine wr_throw (Ex := 2) (nx := 18) (r1 := 2) (r2 := 0) (r3 := 1) rfl (by decide) rfl hr (by decide) ?_
      refine wk_x rfl ?_
      exact kx2
-- method 127: Line.likeFrom(II)I
set_option maxRecDepth 100000 in
set_option maxHeartbeats 100000000 in
theorem ct_127_18 {L : Nat} {xs : Nat → Int32} {d b c : Nat} {h : hp} {cr : Nat → Nat → Option Nat} {Q : hp_Q} (hcr : CR cr)  (g : GI h) (a0 : Int) (a1 : Int) (q0_ : -2147483648 ≤ a0 ∧ a0 ≤ 2147483647) (q1_ : -2147483648 ≤ a1 ∧ a1 ≤ 2147483647)  (k : ∀ (z0 : Int), (-2147483648 ≤ z0 ∧ z0 ≤ 2147483647) → Q (.inl (some (vi z0))) (hp_w h cr) b c) : wp (md_xa (L, xs)) d 127 (0, [(0, .ref 18), (1, vi a0), (2, vi a1)], [], hp_w h cr, b, c) Q := by
  have F0 : FR [] h h := FR.refl
  refine wi_iload_n (i := 1) (e := a0) (nx := 1) (r1 := 0) (r2 := 0) (r3 := 0) rfl rfl ?_
  refine wi_if (cd := .lt) (nx := 4) (r1 := 14) (r2 := 0) (r3 := 0) rfl (by omega) (fun (q1 : a0 < 0) => ?_) (fun (q1 : ¬ (a0 < 0)) => ?_)
  ·
    refine wi_iconst (n := 0) (nx := 15) (r1 := 0) (r2 := 0) (r3 := 0) rfl ?_
    refine wi_ireturn (nx := 16) (r1 := 0) (r2 := 0) (r3 := 0) rfl rfl ?_
    exact k 0 (by omega)
  ·
    refine wi_iload_n (i := 1) (e := a0) (nx := 5) (r1 := 0) (r2 := 0) (r3 := 0) rfl rfl ?_
    refine wi_bipush (n := 12) (nx := 7) (r1 := 0) (r2 := 0) (r3 := 0) rfl (by decide) ?_
    refine wi_icmp (cd := .ge) (nx := 10) (r1 := 14) (r2 := 0) (r3 := 0) rfl (by omega) (by omega) (fun (q2 : 12 ≤ a0) => ?_) (fun (q2 : ¬ (12 ≤ a0)) => ?_)
    ·
      refine wi_iconst (n := 0) (nx := 15) (r1 := 0) (r2 := 0) (r3 := 0) rfl ?_
      refine wi_ireturn (nx := 16) (r1 := 0) (r2 := 0) (r3 := 0) rfl rfl ?_
      exact k 0 (by omega)
    ·
      refine wi_iload_n (i := 2) (e := a1) (nx := 11) (r1 := 0) (r2 := 0) (r3 := 0) rfl rfl ?_
      refine wi_if (cd := .ge) (nx := 14) (r1 := 16) (r2 := 0) (r3 := 0) rfl (by omega) (fun (q3 : 0 ≤ a1) => ?_) (fun (q3 : ¬ (0 ≤ a1)) => ?_)
      ·
        refine wi_iconst (n := 0) (nx := 17) (r1 := 0) (r2 := 0) (r3 := 0) rfl ?_
        refine wi_istore_n (i := 3) (e := 0) (lo2 := [(3, vi 0), (0, .ref 18), (1, vi a0), (2, vi a1)]) (nx := 18) (r1 := 0) (r2 := 0) (r3 := 0) rfl rfl ?_
        refine wi_iload_n (i := 2) (e := a1) (nx := 19) (r1 := 0) (r2 := 0) (r3 := 0) rfl rfl ?_
        refine wi_istore (i := 4) (e := a1) (lo2 := [(4, vi a1), (3, vi 0), (0, .ref 18), (1, vi a0), (2, vi a1)]) (nx := 21) (r1 := 0) (r2 := 0) (r3 := 0) rfl rfl ?_
        refine wp.lo (lo := [(0, .ref 18), (1, vi a0), (3, vi 0), (4, vi a1)]) ⟨rfl, rfl, rfl, rfl, trivial⟩ rfl ?_
        refine wl_2 (fun x4 x5 h6 => h = h6 ∧ ((-2147483648 ≤ x4 ∧ x4 ≤ 2147483647) ∧ (0 ≤ x5 ∧ x5 ≤ 2147483647))) (fun x4 x5 h6 => ((2147483647 : Int) + 1 - x5).toNat) (fun x4 x5 h6 => (21, [(0, .ref 18), (1, vi a0), (3, vi x4), (4, vi x5)], [], hp_w h6 cr, b, c)) ?_ 0 a1 h ⟨rfl, (show (-2147483648 ≤ 0 ∧ 0 ≤ 2147483647) ∧ (0 ≤ a1 ∧ a1 ≤ 2147483647) by omega)⟩
        intro x4 x5 h6 ⟨e6, f6⟩ I6
        subst e6
        refine wi_iload (i := 4) (e := x5) (nx := 23) (r1 := 0) (r2 := 0) (r3 := 0) rfl rfl ?_
        refine wi_aload_n (i := 0) (x := 18) (nx := 24) (r1 := 0) (r2 := 0) (r3 := 0) rfl rfl ?_
        refine wr_gr (k0 := 18) (x := 3) (nx := 27) (r1 := 4) (r2 := 0) (r3 := 0) rfl rfl (by decide) rfl ⟨rfl, rfl⟩ rfl ?_
        have b8 := gi_b (lo := 0) (hi := 12) g 3 2 rfl
        refine wr_gi0 (k0 := 3) (x := h 3 2) (nx := 30) (r1 := 2) (r2 := 2) (r3 := 0) rfl rfl (by decide) rfl ⟨rfl, rfl⟩ rfl rfl ?_
        refine wi_icmp (cd := .ge) (nx := 33) (r1 := 80) (r2 := 0) (r3 := 0) rfl (by omega) (by omega) (fun (q9 : (h 3 2) ≤ x5) => ?_) (fun (q9 : ¬ ((h 3 2) ≤ x5)) => ?_)
        ·
          refine wi_iload_n (i := 3) (e := x4) (nx := 81) (r1 := 0) (r2 := 0) (r3 := 0) rfl rfl ?_
          refine wi_ireturn (nx := 82) (r1 := 0) (r2 := 0) (r3 := 0) rfl rfl ?_
          exact k x4 (by omega)
        ·
          refine wi_aload_n (i := 0) (x := 18) (nx := 34) (r1 := 0) (r2 := 0) (r3 := 0) rfl rfl ?_
          refine wr_gr (k0 := 18) (x := 19) (nx := 37) (r1 := 4) (r2 := 1) (r3 := 0) rfl rfl (by decide) rfl ⟨rfl, rfl⟩ rfl ?_
          refine wi_iload (i := 4) (e := x5) (nx := 39) (r1 := 0) (r2 := 0) (r3 := 0) rfl rfl ?_
          obtain ⟨i10, ei10⟩ : ∃ q : Nat, x5 = (q : Int) := ⟨(x5).toNat, by omega⟩
          have b11 := gi_b (lo := -2147483648) (hi := 2147483647) g 19 i10 rfl
          refine wr_ia (k0 := 19) (a := x5) (f := i10) (x := h 19 i10) (nx := 40) (r1 := 0) (r2 := 0) (r3 := 0) rfl (by decide) rfl (by omega) (by omega) (by decide) rfl ?_
          refine wi_aload_n (i := 0) (x := 18) (nx := 41) (r1 := 0) (r2 := 0) (r3 := 0) rfl rfl ?_
          refine wr_gr (k0 := 18) (x := 19) (nx := 44) (r1 := 4) (r2 := 1) (r3 := 0) rfl rfl (by decide) rfl ⟨rfl, rfl⟩ rfl ?_
          refine wi_iload_n (i := 1) (e := a0) (nx := 45) (r1 := 0) (r2 := 0) (r3 := 0) rfl rfl ?_
          obtain ⟨i12, ei12⟩ : ∃ q : Nat, a0 = (q : Int) := ⟨(a0).toNat, by omega⟩
          have b13 := gi_b (lo := -2147483648) (hi := 2147483647) g 19 i12 rfl
          refine wr_ia (k0 := 19) (a := a0) (f := i12) (x := h 19 i12) (nx := 46) (r1 := 0) (r2 := 0) (r3 := 0) rfl (by decide) rfl (by omega) (by omega) (by decide) rfl ?_
          refine wi_icmp (cd := .ne) (nx := 49) (r1 := 74) (r2 := 0) (r3 := 0) rfl (by omega) (by omega) (fun (q14 : (h 19 i10) ≠ (h 19 i12)) => ?_) (fun (q14 : ¬ ((h 19 i10) ≠ (h 19 i12))) => ?_)
          ·
            refine wr_iinc (i := 4) (n := 1) (v := x5) (fun e15 => [(4, vi e15), (0, .ref 18), (1, vi a0), (3, vi x4)]) (nx := 77) (r1 := 0) (r2 := 0) (r3 := 0) rfl rfl (fun _ => rfl) (fun e15 (fe15 : e15 = x5 + 1) => ?_)
            refine wi_goto (nx := 80) (r1 := 21) (r2 := 0) (r3 := 0) rfl ?_
            refine wp.lo (lo := [(0, .ref 18), (1, vi a0), (3, vi x4), (4, vi e15)]) ⟨rfl, rfl, rfl, rfl, trivial⟩ rfl ?_
            exact I6 x4 e15 h ⟨rfl, (show (-2147483648 ≤ x4 ∧ x4 ≤ 2147483647) ∧ (0 ≤ e15 ∧ e15 ≤ 2147483647) by omega)⟩ (show ((2147483647 : Int) + 1 - e15).toNat < ((2147483647 : Int) + 1 - x5).toNat by omega)
          ·
            refine wi_aload_n (i := 0) (x := 18) (nx := 50) (r1 := 0) (r2 := 0) (r3 := 0) rfl rfl ?_
            refine wr_gr (k0 := 18) (x := 3) (nx := 53) (r1 := 4) (r2 := 0) (r3 := 0) rfl rfl (by decide) rfl ⟨rfl, rfl⟩ rfl ?_
            refine wr_gr (k0 := 3) (x := 8) (nx := 56) (r1 := 2) (r2 := 14) (r3 := 0) rfl rfl (by decide) rfl ⟨rfl, rfl⟩ rfl ?_
            refine wi_iload (i := 4) (e := x5) (nx := 58) (r1 := 0) (r2 := 0) (r3 := 0) rfl rfl ?_
            have b15 := gi_b (lo := -2147483648) (hi := 2147483647) g 8 i10 rfl
            refine wr_ia (k0 := 8) (a := x5) (f := i10) (x := h 8 i10) (nx := 59) (r1 := 0) (r2 := 0) (r3 := 0) rfl (by decide) rfl (by omega) (by omega) (by decide) rfl ?_
            refine wi_aload_n (i := 0) (x := 18) (nx := 60) (r1 := 0) (r2 := 0) (r3 := 0) rfl rfl ?_
            refine wr_gr (k0 := 18) (x := 3) (nx := 63) (r1 := 4) (r2 := 0) (r3 := 0) rfl rfl (by decide) rfl ⟨rfl, rfl⟩ rfl ?_
            refine wr_gr (k0 := 3) (x := 8) (nx := 66) (r1 := 2) (r2 := 14) (r3 := 0) rfl rfl (by decide) rfl ⟨rfl, rfl⟩ rfl ?_
            refine wi_iload_n (i := 1) (e := a0) (nx := 67) (r1 := 0) (r2 := 0) (r3 := 0) rfl rfl ?_
            have b16 := gi_b (lo := -2147483648) (hi := 2147483647) g 8 i12 rfl
            refine wr_ia (k0 := 8) (a := a0) (f := i12) (x := h 8 i12) (nx := 68) (r1 := 0) (r2 := 0) (r3 := 0) rfl (by decide) rfl (by omega) (by omega) (by decide) rfl ?_
            refine wi_icmp (cd := .ne) (nx := 71) (r1 := 74) (r2 := 0) (r3 := 0) rfl (by omega) (by omega) (fun (q17 : (h 8 i10) ≠ (h 8 i12)) => ?_) (fun (q17 : ¬ ((h 8 i10) ≠ (h 8 i12))) => ?_)
            ·
              refine wr_iinc (i := 4) (n := 1) (v := x5) (fun e18 => [(4, vi e18), (0, .ref 18), (1, vi a0), (3, vi x4)]) (nx := 77) (r1 := 0) (r2 := 0) (r3 := 0) rfl rfl (fun _ => rfl) (fun e18 (fe18 : e18 = x5 + 1) => ?_)
              refine wi_goto (nx := 80) (r1 := 21) (r2 := 0) (r3 := 0) rfl ?_
              refine wp.lo (lo := [(0, .ref 18), (1, vi a0), (3, vi x4), (4, vi e18)]) ⟨rfl, rfl, rfl, rfl, trivial⟩ rfl ?_
              exact I6 x4 e18 h ⟨rfl, (show (-2147483648 ≤ x4 ∧ x4 ≤ 2147483647) ∧ (0 ≤ e18 ∧ e18 ≤ 2147483647) by omega)⟩ (show ((2147483647 : Int) + 1 - e18).toNat < ((2147483647 : Int) + 1 - x5).toNat by omega)
            ·
              refine wr_iincW (i := 3) (n := 1) (v := x4) (fun e18 => [(3, vi e18), (0, .ref 18), (1, vi a0), (4, vi x5)]) (nx := 74) (r1 := 0) (r2 := 0) (r3 := 0) rfl rfl (fun _ => rfl) (fun e18 (fe18 : -2147483648 ≤ e18 ∧ e18 ≤ 2147483647) => ?_)
              refine wr_iinc (i := 4) (n := 1) (v := x5) (fun e19 => [(4, vi e19), (3, vi e18), (0, .ref 18), (1, vi a0)]) (nx := 77) (r1 := 0) (r2 := 0) (r3 := 0) rfl rfl (fun _ => rfl) (fun e19 (fe19 : e19 = x5 + 1) => ?_)
              refine wi_goto (nx := 80) (r1 := 21) (r2 := 0) (r3 := 0) rfl ?_
              refine wp.lo (lo := [(0, .ref 18), (1, vi a0), (3, vi e18), (4, vi e19)]) ⟨rfl, rfl, rfl, rfl, trivial⟩ rfl ?_
              exact I6 e18 e19 h ⟨rfl, (show (-2147483648 ≤ e18 ∧ e18 ≤ 2147483647) ∧ (0 ≤ e19 ∧ e19 ≤ 2147483647) by omega)⟩ (show ((2147483647 : Int) + 1 - e19).toNat < ((2147483647 : Int) + 1 - x5).toNat by omega)
      ·
        refine wi_iconst (n := 0) (nx := 15) (r1 := 0) (r2 := 0) (r3 := 0) rfl ?_
        refine wi_ireturn (nx := 16) (r1 := 0) (r2 := 0) (r3 := 0) rfl rfl ?_
        exact k 0 (by omega)
-- method 30: Bank.commonest()I
set_option maxRecDepth 100000 in
set_option maxHeartbeats 100000000 in
theorem ct_30_0 {L : Nat} {xs : Nat → Int32} {d b c : Nat} {h : hp} {cr : Nat → Nat → Option Nat} {Q : hp_Q} (hcr : CR cr)  (g : GI h)    (k : ∀ (z0 : Int), (0 ≤ z0 ∧ z0 ≤ 2147483647) → Q (.inl (some (vi z0))) (hp_w h cr) b c) : wp (md_xa (L, xs)) (d + 1) 30 (0, [(0, .ref 0)], [], hp_w h cr, b, c) Q := by
  have F0 : FR [] h h := FR.refl
  refine wi_iconst (n := 0) (nx := 1) (r1 := 0) (r2 := 0) (r3 := 0) rfl ?_
  refine wi_istore_n (i := 1) (e := 0) (lo2 := [(1, vi 0), (0, .ref 0)]) (nx := 2) (r1 := 0) (r2 := 0) (r3 := 0) rfl rfl ?_
  refine wi_iconst (n := 0) (nx := 3) (r1 := 0) (r2 := 0) (r3 := 0) rfl ?_
  refine wi_istore_n (i := 2) (e := 0) (lo2 := [(2, vi 0), (1, vi 0), (0, .ref 0)]) (nx := 4) (r1 := 0) (r2 := 0) (r3 := 0) rfl rfl ?_
  refine wp.lo (lo := [(0, .ref 0), (1, vi 0), (2, vi 0)]) ⟨rfl, rfl, rfl, trivial⟩ rfl ?_
  refine wl_2 (fun x1 x2 h3 => h = h3 ∧ ((0 ≤ x1 ∧ x1 ≤ 2147483647) ∧ (0 ≤ x2 ∧ x2 ≤ 12))) (fun x1 x2 h3 => ((12 : Int) + 1 - x2).toNat) (fun x1 x2 h3 => (4, [(0, .ref 0), (1, vi x1), (2, vi x2)], [], hp_w h3 cr, b, c)) ?_ 0 0 h ⟨rfl, (show (0 ≤ 0 ∧ 0 ≤ 2147483647) ∧ (0 ≤ 0 ∧ 0 ≤ 12) by omega)⟩
  intro x1 x2 h3 ⟨e3, f3⟩ I3
  subst e3
  refine wi_iload_n (i := 2) (e := x2) (nx := 5) (r1 := 0) (r2 := 0) (r3 := 0) rfl rfl ?_
  refine wi_aload_n (i := 0) (x := 0) (nx := 6) (r1 := 0) (r2 := 0) (r3 := 0) rfl rfl ?_
  refine wr_gr (k0 := 0) (x := 3) (nx := 9) (r1 := 0) (r2 := 1) (r3 := 0) rfl rfl (by decide) rfl ⟨rfl, rfl⟩ rfl ?_
  have b5 := gi_b (lo := 0) (hi := 12) g 3 2 rfl
  refine wr_gi0 (k0 := 3) (x := h 3 2) (nx := 12) (r1 := 2) (r2 := 2) (r3 := 0) rfl rfl (by decide) rfl ⟨rfl, rfl⟩ rfl rfl ?_
  refine wi_icmp (cd := .ge) (nx := 15) (r1 := 35) (r2 := 0) (r3 := 0) rfl (by omega) (by omega) (fun (q6 : (h 3 2) ≤ x2) => ?_) (fun (q6 : ¬ ((h 3 2) ≤ x2)) => ?_)
  ·
    refine wi_iload_n (i := 1) (e := x1) (nx := 36) (r1 := 0) (r2 := 0) (r3 := 0) rfl rfl ?_
    refine wi_ireturn (nx := 37) (r1 := 0) (r2 := 0) (r3 := 0) rfl rfl ?_
    exact k x1 (by omega)
  ·
    refine wi_iload_n (i := 1) (e := x1) (nx := 16) (r1 := 0) (r2 := 0) (r3 := 0) rfl rfl ?_
    refine wi_aload_n (i := 0) (x := 0) (nx := 17) (r1 := 0) (r2 := 0) (r3 := 0) rfl rfl ?_
    refine wr_gr (k0 := 0) (x := 18) (nx := 20) (r1 := 0) (r2 := 3) (r3 := 0) rfl rfl (by decide) rfl ⟨rfl, rfl⟩ rfl ?_
    refine wi_iload_n (i := 2) (e := x2) (nx := 21) (r1 := 0) (r2 := 0) (r3 := 0) rfl rfl ?_
    refine wi_iconst (n := 0) (nx := 22) (r1 := 0) (r2 := 0) (r3 := 0) rfl ?_
    refine wr_V (k0 := 18) (rest := [vi x1]) (as := [.ref 18, vi x2, vi 0]) (nx := 25) (r1 := 127) (r2 := 2) (r3 := 4) rfl rfl rfl (of_decide_eq_true rfl) rfl rfl (by decide) rfl rfl (of_decide_eq_true rfl) (of_decide_eq_true rfl) ?_
    refine ct_127_18 hcr  g x2 0 (by omega) (by omega)  (fun z8  (fz8 : -2147483648 ≤ z8 ∧ z8 ≤ 2147483647) => ?_)
    refine wk_i ?_
    refine wi_S (rest := []) (as := [vi x1, vi z8]) (nx := 28) (r1 := 354) (r2 := 18) (r3 := 0) rfl rfl rfl (of_decide_eq_true rfl) rfl rfl (of_decide_eq_true rfl) (of_decide_eq_true rfl) ?_
    refine wi_iload_n (i := 0) (e := x1) (nx := 1) (r1 := 0) (r2 := 0) (r3 := 0) rfl rfl ?_
    refine wi_iload_n (i := 1) (e := z8) (nx := 2) (r1 := 0) (r2 := 0) (r3 := 0) rfl rfl ?_
    refine wi_icmp (cd := .lt) (nx := 5) (r1 := 9) (r2 := 0) (r3 := 0) rfl (by omega) (by omega) (fun (q9 : x1 < z8) => ?_) (fun (q9 : ¬ (x1 < z8)) => ?_)
    ·
      refine wi_iload_n (i := 1) (e := z8) (nx := 10) (r1 := 0) (r2 := 0) (r3 := 0) rfl rfl ?_
      refine wi_ireturn (nx := 11) (r1 := 0) (r2 := 0) (r3 := 0) rfl rfl ?_
      refine wk_i ?_
      refine wi_istore_n (i := 1) (e := z8) (lo2 := [(1, vi z8), (0, .ref 0), (2, vi x2)]) (nx := 29) (r1 := 0) (r2 := 0) (r3 := 0) rfl rfl ?_
      refine wr_iinc (i := 2) (n := 1) (v := x2) (fun e10 => [(2, vi e10), (1, vi z8), (0, .ref 0)]) (nx := 32) (r1 := 0) (r2 := 0) (r3 := 0) rfl rfl (fun _ => rfl) (fun e10 (fe10 : e10 = x2 + 1) => ?_)
      refine wi_goto (nx := 35) (r1 := 4) (r2 := 0) (r3 := 0) rfl ?_
      refine wp.lo (lo := [(0, .ref 0), (1, vi z8), (2, vi e10)]) ⟨rfl, rfl, rfl, trivial⟩ rfl ?_
      exact I3 z8 e10 h ⟨rfl, (show (0 ≤ z8 ∧ z8 ≤ 2147483647) ∧ (0 ≤ e10 ∧ e10 ≤ 12) by omega)⟩ (show ((12 : Int) + 1 - e10).toNat < ((12 : Int) + 1 - x2).toNat by omega)
    ·
      refine wi_iload_n (i := 0) (e := x1) (nx := 6) (r1 := 0) (r2 := 0) (r3 := 0) rfl rfl ?_
      refine wi_goto (nx := 9) (r1 := 10) (r2 := 0) (r3 := 0) rfl ?_
      refine wi_ireturn (nx := 11) (r1 := 0) (r2 := 0) (r3 := 0) rfl rfl ?_
      refine wk_i ?_
      refine wi_istore_n (i := 1) (e := x1) (lo2 := [(1, vi x1), (0, .ref 0), (2, vi x2)]) (nx := 29) (r1 := 0) (r2 := 0) (r3 := 0) rfl rfl ?_
      refine wr_iinc (i := 2) (n := 1) (v := x2) (fun e10 => [(2, vi e10), (1, vi x1), (0, .ref 0)]) (nx := 32) (r1 := 0) (r2 := 0) (r3 := 0) rfl rfl (fun _ => rfl) (fun e10 (fe10 : e10 = x2 + 1) => ?_)
      refine wi_goto (nx := 35) (r1 := 4) (r2 := 0) (r3 := 0) rfl ?_
      refine wp.lo (lo := [(0, .ref 0), (1, vi x1), (2, vi e10)]) ⟨rfl, rfl, rfl, trivial⟩ rfl ?_
      exact I3 x1 e10 h ⟨rfl, (show (0 ≤ x1 ∧ x1 ≤ 2147483647) ∧ (0 ≤ e10 ∧ e10 ≤ 12) by omega)⟩ (show ((12 : Int) + 1 - e10).toNat < ((12 : Int) + 1 - x2).toNat by omega)
-- method 43: Bank.cost()I
set_option maxRecDepth 100000 in
set_option maxHeartbeats 100000000 in
theorem ct_43_0 {L : Nat} {xs : Nat → Int32} {d b c : Nat} {h : hp} {cr : Nat → Nat → Option Nat} {Q : hp_Q} (hcr : CR cr)  (g : GI h)    (k : ∀ (z0 : Int), (-2147483648 ≤ z0 ∧ z0 ≤ 2147483647) → Q (.inl (some (vi z0))) (hp_w h cr) b c) : wp (md_xa (L, xs)) d 43 (0, [(0, .ref 0)], [], hp_w h cr, b, c) Q := by
  have F0 : FR [] h h := FR.refl
  refine wi_aload_n (i := 0) (x := 0) (nx := 1) (r1 := 0) (r2 := 0) (r3 := 0) rfl rfl ?_
  refine wr_gr (k0 := 0) (x := 18) (nx := 4) (r1 := 0) (r2 := 3) (r3 := 0) rfl rfl (by decide) rfl ⟨rfl, rfl⟩ rfl ?_
  have b1 := gi_b (lo := -2147483648) (hi := 2147483647) g 18 13 rfl
  refine wr_gi0 (k0 := 18) (x := h 18 13) (nx := 7) (r1 := 4) (r2 := 13) (r3 := 0) rfl rfl (by decide) rfl ⟨rfl, rfl⟩ rfl rfl ?_
  refine wi_ireturn (nx := 8) (r1 := 0) (r2 := 0) (r3 := 0) rfl rfl ?_
  exact k (h 18 13) (by omega)
-- method 139: Line.ad-mit(I)I
set_option maxRecDepth 100000 in
set_option maxHeartbeats 100000000 in
theorem ct_139_18 {L : Nat} {xs : Nat → Int32} {d b c : Nat} {h : hp} {cr : Nat → Nat → Option Nat} {Q : hp_Q} (hcr : CR cr)  (g : GI h) (a0 : Int) (q0_ : -2147483648 ≤ a0 ∧ a0 ≤ 2147483647)  (k : ∀ (h2 : hp) (z0 : Int) , GI h2 → FR [(29, 36, none), (18, 18, some (7, 7)), (18, 18, some (16, 16))] h h2 → (-1 ≤ z0 ∧ z0 ≤ 11) → Q (.inl (some (vi z0))) (hp_w h2 cr) b c) : wp (md_xa (L, xs)) (d + 1) 139 (0, [(0, .ref 18), (1, vi a0)], [], hp_w h cr, b, c) Q := by
  have F0 : FR [(29, 36, none), (18, 18, some (7, 7)), (18, 18, some (16, 16))] h h := FR.refl
  refine wi_aload_n (i := 0) (x := 18) (nx := 1) (r1 := 0) (r2 := 0) (r3 := 0) rfl rfl ?_
  have b1 := gi_b (lo := 0) (hi := 12) g 18 7 rfl
  refine wr_gi0 (k0 := 18) (x := h 18 7) (nx := 4) (r1 := 4) (r2 := 7) (r3 := 0) rfl rfl (by decide) rfl ⟨rfl, rfl⟩ rfl rfl ?_
  refine wi_aload_n (i := 0) (x := 18) (nx := 5) (r1 := 0) (r2 := 0) (r3 := 0) rfl rfl ?_
  refine wr_gr (k0 := 18) (x := 3) (nx := 8) (r1 := 4) (r2 := 0) (r3 := 0) rfl rfl (by decide) rfl ⟨rfl, rfl⟩ rfl ?_
  have b2 := gi_b (lo := 0) (hi := 12) g 3 2 rfl
  refine wr_gi0 (k0 := 3) (x := h 3 2) (nx := 11) (r1 := 2) (r2 := 2) (r3 := 0) rfl rfl (by decide) rfl ⟨rfl, rfl⟩ rfl rfl ?_
  refine wi_icmp (cd := .ge) (nx := 14) (r1 := 22) (r2 := 0) (r3 := 0) rfl (by omega) (by omega) (fun (q3 : (h 3 2) ≤ (h 18 7)) => ?_) (fun (q3 : ¬ ((h 3 2) ≤ (h 18 7))) => ?_)
  ·
    refine wi_iconst (n := (-1)) (nx := 23) (r1 := 0) (r2 := 0) (r3 := 0) rfl ?_
    refine wi_ireturn (nx := 24) (r1 := 0) (r2 := 0) (r3 := 0) rfl rfl ?_
    exact k h (-1) g F0 (by omega)
  ·
    refine wi_aload_n (i := 0) (x := 18) (nx := 15) (r1 := 0) (r2 := 0) (r3 := 0) rfl rfl ?_
    refine wi_iload_n (i := 1) (e := a0) (nx := 16) (r1 := 0) (r2 := 0) (r3 := 0) rfl rfl ?_
    refine wr_V (k0 := 18) (rest := []) (as := [.ref 18, vi a0]) (nx := 19) (r1 := 137) (r2 := 1) (r3 := 4) rfl rfl rfl (of_decide_eq_true rfl) rfl rfl (by decide) rfl rfl (of_decide_eq_true rfl) (of_decide_eq_true rfl) ?_
    refine wi_iload_n (i := 1) (e := a0) (nx := 1) (r1 := 0) (r2 := 0) (r3 := 0) rfl rfl ?_
    refine wi_if (cd := .lt) (nx := 4) (r1 := 40) (r2 := 0) (r3 := 0) rfl (by omega) (fun (q4 : a0 < 0) => ?_) (fun (q4 : ¬ (a0 < 0)) => ?_)
    ·
      refine wi_iconst (n := 0) (nx := 41) (r1 := 0) (r2 := 0) (r3 := 0) rfl ?_
      refine wi_zreturn (nx := 42) (r1 := 0) (r2 := 0) (r3 := 0) rfl rfl (by omega) ?_
      refine wk_i ?_
      refine wi_if (cd := .ne) (nx := 22) (r1 := 24) (r2 := 0) (r3 := 0) rfl (by omega) (fun (q5 : 0 ≠ 0) => by exfalso; omega) (fun (q5 : ¬ (0 ≠ 0)) => ?_)
      refine wi_iconst (n := (-1)) (nx := 23) (r1 := 0) (r2 := 0) (r3 := 0) rfl ?_
      refine wi_ireturn (nx := 24) (r1 := 0) (r2 := 0) (r3 := 0) rfl rfl ?_
      exact k h (-1) g F0 (by omega)
    ·
      refine wi_iload_n (i := 1) (e := a0) (nx := 5) (r1 := 0) (r2 := 0) (r3 := 0) rfl rfl ?_
      refine wi_aload_n (i := 0) (x := 18) (nx := 6) (r1 := 0) (r2 := 0) (r3 := 0) rfl rfl ?_
      refine wr_gr (k0 := 18) (x := 3) (nx := 9) (r1 := 4) (r2 := 0) (r3 := 0) rfl rfl (by decide) rfl ⟨rfl, rfl⟩ rfl ?_
      have b5 := gi_b (lo := 0) (hi := 4) g 3 1 rfl
      refine wr_gi0 (k0 := 3) (x := h 3 1) (nx := 12) (r1 := 2) (r2 := 1) (r3 := 0) rfl rfl (by decide) rfl ⟨rfl, rfl⟩ rfl rfl ?_
      refine wi_icmp (cd := .ge) (nx := 15) (r1 := 40) (r2 := 0) (r3 := 0) rfl (by omega) (by omega) (fun (q6 : (h 3 1) ≤ a0) => ?_) (fun (q6 : ¬ ((h 3 1) ≤ a0)) => ?_)
      ·
        refine wi_iconst (n := 0) (nx := 41) (r1 := 0) (r2 := 0) (r3 := 0) rfl ?_
        refine wi_zreturn (nx := 42) (r1 := 0) (r2 := 0) (r3 := 0) rfl rfl (by omega) ?_
        refine wk_i ?_
        refine wi_if (cd := .ne) (nx := 22) (r1 := 24) (r2 := 0) (r3 := 0) rfl (by omega) (fun (q7 : 0 ≠ 0) => by exfalso; omega) (fun (q7 : ¬ (0 ≠ 0)) => ?_)
        refine wi_iconst (n := (-1)) (nx := 23) (r1 := 0) (r2 := 0) (r3 := 0) rfl ?_
        refine wi_ireturn (nx := 24) (r1 := 0) (r2 := 0) (r3 := 0) rfl rfl ?_
        exact k h (-1) g F0 (by omega)
      ·
        refine wi_aload_n (i := 0) (x := 18) (nx := 16) (r1 := 0) (r2 := 0) (r3 := 0) rfl rfl ?_
        refine wr_gr (k0 := 18) (x := 21) (nx := 19) (r1 := 4) (r2 := 3) (r3 := 0) rfl rfl (by decide) rfl ⟨rfl, rfl⟩ rfl ?_
        refine wi_iload_n (i := 1) (e := a0) (nx := 20) (r1 := 0) (r2 := 0) (r3 := 0) rfl rfl ?_
        obtain ⟨i7, ei7⟩ : ∃ q : Nat, a0 = (q : Int) := ⟨(a0).toNat, by omega⟩
        refine wr_aa (k0 := 21) (a := a0) (f := i7) (x := 21 + 8 + 2 * i7) (nx := 21) (r1 := 0) (r2 := 0) (r3 := 0) rfl (by decide) rfl (Or.inl rfl) (by omega) (by omega) (by decide) (hcr.1 21 (by decide) i7 (by omega)) ?_
        obtain ⟨k8, kk8, mk8⟩ : ∃ q, Rw q ∧ q = 21 + 8 + 2 * i7 := ⟨_, rw_lane 21 (by decide) i7 (by omega), rfl⟩
        rw [← mk8]
        have b9 := gi_b (lo := 0) (hi := 12) g k8 1 kk8.2.2.2.1
        refine wr_gi0 (k0 := k8) (x := h k8 1) (nx := 24) (r1 := 5) (r2 := 1) (r3 := 0) rfl rfl kk8.k kk8.1 ⟨rfl, rfl⟩ rfl rfl ?_
        refine wi_aload_n (i := 0) (x := 18) (nx := 25) (r1 := 0) (r2 := 0) (r3 := 0) rfl rfl ?_
        refine wr_gr (k0 := 18) (x := 3) (nx := 28) (r1 := 4) (r2 := 0) (r3 := 0) rfl rfl (by decide) rfl ⟨rfl, rfl⟩ rfl ?_
        refine wr_gr (k0 := 3) (x := 6) (nx := 31) (r1 := 2) (r2 := 12) (r3 := 0) rfl rfl (by decide) rfl ⟨rfl, rfl⟩ rfl ?_
        refine wi_iload_n (i := 1) (e := a0) (nx := 32) (r1 := 0) (r2 := 0) (r3 := 0) rfl rfl ?_
        have b10 := gi_b (lo := -2147483648) (hi := 2147483647) g 6 i7 rfl
        refine wr_ia (k0 := 6) (a := a0) (f := i7) (x := h 6 i7) (nx := 33) (r1 := 0) (r2 := 0) (r3 := 0) rfl (by decide) rfl (by omega) (by omega) (by decide) rfl ?_
        refine wi_icmp (cd := .ge) (nx := 36) (r1 := 40) (r2 := 0) (r3 := 0) rfl (by omega) (by omega) (fun (q11 : (h 6 i7) ≤ (h k8 1)) => ?_) (fun (q11 : ¬ ((h 6 i7) ≤ (h k8 1))) => ?_)
        ·
          refine wi_iconst (n := 0) (nx := 41) (r1 := 0) (r2 := 0) (r3 := 0) rfl ?_
          refine wi_zreturn (nx := 42) (r1 := 0) (r2 := 0) (r3 := 0) rfl rfl (by omega) ?_
          refine wk_i ?_
          refine wi_if (cd := .ne) (nx := 22) (r1 := 24) (r2 := 0) (r3 := 0) rfl (by omega) (fun (q12 : 0 ≠ 0) => by exfalso; omega) (fun (q12 : ¬ (0 ≠ 0)) => ?_)
          refine wi_iconst (n := (-1)) (nx := 23) (r1 := 0) (r2 := 0) (r3 := 0) rfl ?_
          refine wi_ireturn (nx := 24) (r1 := 0) (r2 := 0) (r3 := 0) rfl rfl ?_
          exact k h (-1) g F0 (by omega)
        ·
          refine wi_iconst (n := 1) (nx := 37) (r1 := 0) (r2 := 0) (r3 := 0) rfl ?_
          refine wi_goto (nx := 40) (r1 := 41) (r2 := 0) (r3 := 0) rfl ?_
          refine wi_zreturn (nx := 42) (r1 := 0) (r2 := 0) (r3 := 0) rfl rfl (by omega) ?_
          refine wk_i ?_
          refine wi_if (cd := .ne) (nx := 22) (r1 := 24) (r2 := 0) (r3 := 0) rfl (by omega) (fun (q12 : 1 ≠ 0) => ?_) (fun (q12 : ¬ (1 ≠ 0)) => by exfalso; omega)
          refine wi_aload_n (i := 0) (x := 18) (nx := 25) (r1 := 0) (r2 := 0) (r3 := 0) rfl rfl ?_
          refine wr_gi0 (k0 := 18) (x := h 18 7) (nx := 28) (r1 := 4) (r2 := 7) (r3 := 0) rfl rfl (by decide) rfl ⟨rfl, rfl⟩ rfl rfl ?_
          refine wi_istore_n (i := 2) (e := h 18 7) (lo2 := [(2, vi (h 18 7)), (0, .ref 18), (1, vi a0)]) (nx := 29) (r1 := 0) (r2 := 0) (r3 := 0) rfl rfl ?_
          refine wi_aload_n (i := 0) (x := 18) (nx := 30) (r1 := 0) (r2 := 0) (r3 := 0) rfl rfl ?_
          refine wr_gr (k0 := 18) (x := 21) (nx := 33) (r1 := 4) (r2 := 3) (r3 := 0) rfl rfl (by decide) rfl ⟨rfl, rfl⟩ rfl ?_
          refine wi_iload_n (i := 1) (e := a0) (nx := 34) (r1 := 0) (r2 := 0) (r3 := 0) rfl rfl ?_
          refine wr_aa (k0 := 21) (a := a0) (f := i7) (x := 21 + 8 + 2 * i7) (nx := 35) (r1 := 0) (r2 := 0) (r3 := 0) rfl (by decide) rfl (Or.inl rfl) (by omega) (by omega) (by decide) (hcr.1 21 (by decide) i7 (by omega)) ?_
          obtain ⟨k13, kk13, mk13⟩ : ∃ q, Rw q ∧ q = 21 + 8 + 2 * i7 := ⟨_, rw_lane 21 (by decide) i7 (by omega), rfl⟩
          rw [← mk13]
          refine wi_iload_n (i := 2) (e := h 18 7) (nx := 36) (r1 := 0) (r2 := 0) (r3 := 0) rfl rfl ?_
          refine wr_V (k0 := k13) (rest := []) (as := [.ref k13, vi (h 18 7)]) (nx := 39) (r1 := 158) (r2 := 1) (r3 := 5) rfl rfl rfl (of_decide_eq_true rfl) rfl rfl kk13.k kk13.1 rfl (of_decide_eq_true rfl) (of_decide_eq_true rfl) ?_
          refine ct_158_R hcr kk13 g (h 18 7) (by omega)  (fun h14 g14 u14 => ?_)
          have v14 := FR.rngp (lo := 29) (hi := 36) u14 (by omega)
          have F15 := F0.then rfl (FR.rngp (lo := 29) (hi := 36) u14 (by omega))
          refine wk_n ?_
          refine wi_aload_n (i := 0) (x := 18) (nx := 40) (r1 := 0) (r2 := 0) (r3 := 0) rfl rfl ?_
          refine wi_dup (nx := 41) (r1 := 0) (r2 := 0) (r3 := 0) rfl rfl ?_
          refine wr_gi0 (k0 := 18) (x := h 18 7) (nx := 44) (r1 := 4) (r2 := 7) (r3 := 0) rfl rfl (by decide) rfl ⟨rfl, rfl⟩ rfl (v14 18 7 rfl) ?_
          refine wi_iconst (n := 1) (nx := 45) (r1 := 0) (r2 := 0) (r3 := 0) rfl ?_
          refine wr_add (nx := 46) (r1 := 0) (r2 := 0) (r3 := 0) rfl (fun e16 (fe16 : e16 = (h 18 7) + 1) => ?_)
          refine wr_pf0 (k0 := 18) (x := e16) (bl := 0) (bh := 12) (nx := 49) (r1 := 4) (r2 := 7) (r3 := 0) rfl (by decide) rfl ⟨rfl, rfl⟩ rfl rfl g14 rfl (by omega) (fun h17 g17 w17 u17 => ?_)
          have F18 := F15.then rfl u17
          refine wi_aload_n (i := 0) (x := 18) (nx := 50) (r1 := 0) (r2 := 0) (r3 := 0) rfl rfl ?_
          refine wi_dup (nx := 51) (r1 := 0) (r2 := 0) (r3 := 0) rfl rfl ?_
          have b19 := gi_b (lo := -2147483648) (hi := 2147483647) g 18 16 rfl
          refine wr_gi0 (k0 := 18) (x := h 18 16) (nx := 54) (r1 := 4) (r2 := 16) (r3 := 0) rfl rfl (by decide) rfl ⟨rfl, rfl⟩ rfl ((u17 18 16 rfl).trans (v14 18 16 rfl)) ?_
          refine wi_iconst (n := 1) (nx := 55) (r1 := 0) (r2 := 0) (r3 := 0) rfl ?_
          refine wr_addW (nx := 56) (r1 := 0) (r2 := 0) (r3 := 0) rfl (fun e20 (fe20 : -2147483648 ≤ e20 ∧ e20 ≤ 2147483647) => ?_)
          refine wr_pf0 (k0 := 18) (x := e20) (bl := -2147483648) (bh := 2147483647) (nx := 59) (r1 := 4) (r2 := 16) (r3 := 0) rfl (by decide) rfl ⟨rfl, rfl⟩ rfl rfl g17 rfl (by omega) (fun h21 g21 w21 u21 => ?_)
          have F22 := F18.then rfl u21
          refine wi_iload_n (i := 2) (e := h 18 7) (nx := 60) (r1 := 0) (r2 := 0) (r3 := 0) rfl rfl ?_
          refine wi_ireturn (nx := 61) (r1 := 0) (r2 := 0) (r3 := 0) rfl rfl ?_
          exact k h21 (h 18 7) g21 F22 (by omega)
-- method 78: Bank.enter(I)I
set_option maxRecDepth 100000 in
set_option maxHeartbeats 100000000 in
theorem ct_78_0 {L : Nat} {xs : Nat → Int32} {d b c : Nat} {h : hp} {cr : Nat → Nat → Option Nat} {Q : hp_Q} (hcr : CR cr) (hr : 1 ≤ b ∧ 6 ≤ c)  (g : GI h) (a0 : Int) (q0_ : -2147483648 ≤ a0 ∧ a0 ≤ 2147483647)  (k : ∀ (h2 : hp) (z0 : Int) , GI h2 → FR [(29, 36, none), (75, 207, none), (18, 18, some (7, 7)), (18, 18, some (16, 16)), (73, 73, some (1, 1)), (73, 73, some (2, 2))] h h2 → (-2147483648 ≤ z0 ∧ z0 ≤ 2147483647) → Q (.inl (some (vi z0))) (hp_w h2 cr) b c) (kx2 : ∀ (h2 : hp), GI h2 → FR [(29, 36, none), (75, 207, none), (18, 18, some (7, 7)), (18, 18, some (16, 16)), (73, 73, some (1, 1)), (73, 73, some (2, 2))] h h2 → Q (.inr 2) (hp_w h2 cr) (b - 1) (c - 6)) : wp (md_xa (L, xs)) (d + 3) 78 (0, [(0, .ref 0), (1, vi a0)], [], hp_w h cr, b, c) Q := by
  have F0 : FR [(29, 36, none), (75, 207, none), (18, 18, some (7, 7)), (18, 18, some (16, 16)), (73, 73, some (1, 1)), (73, 73, some (2, 2))] h h := FR.refl
  refine wi_aload_n (i := 0) (x := 0) (nx := 1) (r1 := 0) (r2 := 0) (r3 := 0) rfl rfl ?_
  refine wi_iload_n (i := 1) (e := a0) (nx := 2) (r1 := 0) (r2 := 0) (r3 := 0) rfl rfl ?_
  refine wr_V (k0 := 0) (rest := []) (as := [.ref 0, vi a0]) (nx := 5) (r1 := 68) (r2 := 1) (r3 := 0) rfl rfl rfl (of_decide_eq_true rfl) rfl rfl (by decide) rfl rfl (of_decide_eq_true rfl) (of_decide_eq_true rfl) ?_
  refine wi_iload_n (i := 1) (e := a0) (nx := 1) (r1 := 0) (r2 := 0) (r3 := 0) rfl rfl ?_
  refine wi_if (cd := .lt) (nx := 4) (r1 := 15) (r2 := 0) (r3 := 0) rfl (by omega) (fun (q1 : a0 < 0) => ?_) (fun (q1 : ¬ (a0 < 0)) => ?_)
  ·
    refine wr_throw (Ex := 2) (nx := 18) (r1 := 2) (r2 := 0) (r3 := 1) rfl (by decide) rfl hr (by decide) ?_
    refine wk_x rfl ?_
    exact kx2 h g F0
  ·
    refine wi_iload_n (i := 1) (e := a0) (nx := 5) (r1 := 0) (r2 := 0) (r3 := 0) rfl rfl ?_
    refine wi_aload_n (i := 0) (x := 0) (nx := 6) (r1 := 0) (r2 := 0) (r3 := 0) rfl rfl ?_
    refine wr_gr (k0 := 0) (x := 3) (nx := 9) (r1 := 0) (r2 := 1) (r3 := 0) rfl rfl (by decide) rfl ⟨rfl, rfl⟩ rfl ?_
    have b2 := gi_b (lo := 0) (hi := 4) g 3 1 rfl
    refine wr_gi0 (k0 := 3) (x := h 3 1) (nx := 12) (r1 := 2) (r2 := 1) (r3 := 0) rfl rfl (by decide) rfl ⟨rfl, rfl⟩ rfl rfl ?_
    refine wi_icmp (cd := .lt) (nx := 15) (r1 := 26) (r2 := 0) (r3 := 0) rfl (by omega) (by omega) (fun (q3 : a0 < (h 3 1)) => ?_) (fun (q3 : ¬ (a0 < (h 3 1))) => ?_)
    ·
      refine wi_return (nx := 27) (r1 := 0) (r2 := 0) (r3 := 0) rfl rfl ?_
      refine wk_n ?_
      refine wi_aload_n (i := 0) (x := 0) (nx := 6) (r1 := 0) (r2 := 0) (r3 := 0) rfl rfl ?_
      refine wr_gr (k0 := 0) (x := 73) (nx := 9) (r1 := 0) (r2 := 8) (r3 := 0) rfl rfl (by decide) rfl ⟨rfl, rfl⟩ rfl ?_
      refine wi_aload_n (i := 0) (x := 0) (nx := 10) (r1 := 0) (r2 := 0) (r3 := 0) rfl rfl ?_
      refine wr_gr (k0 := 0) (x := 18) (nx := 13) (r1 := 0) (r2 := 3) (r3 := 0) rfl rfl (by decide) rfl ⟨rfl, rfl⟩ rfl ?_
      refine wr_V (k0 := 73) (rest := []) (as := [.ref 73, .ref 18]) (nx := 16) (r1 := 192) (r2 := 1) (r3 := 9) rfl rfl rfl (of_decide_eq_true rfl) rfl rfl (by decide) rfl rfl (of_decide_eq_true rfl) (of_decide_eq_true rfl) ?_
      refine ct_192_73_18 hcr  g    (fun h4 g4 u4 => ?_)
      have F5 := F0.then (by decide +kernel) u4
      refine wk_n ?_
      refine wi_aload_n (i := 0) (x := 0) (nx := 17) (r1 := 0) (r2 := 0) (r3 := 0) rfl rfl ?_
      refine wi_aload_n (i := 0) (x := 0) (nx := 18) (r1 := 0) (r2 := 0) (r3 := 0) rfl rfl ?_
      refine wr_gr (k0 := 0) (x := 18) (nx := 21) (r1 := 0) (r2 := 3) (r3 := 0) rfl rfl (by decide) rfl ⟨rfl, rfl⟩ rfl ?_
      refine wi_iload_n (i := 1) (e := a0) (nx := 22) (r1 := 0) (r2 := 0) (r3 := 0) rfl rfl ?_
      refine wr_V (k0 := 18) (rest := [.ref 0]) (as := [.ref 18, vi a0]) (nx := 25) (r1 := 139) (r2 := 1) (r3 := 4) rfl rfl rfl (of_decide_eq_true rfl) rfl rfl (by decide) rfl rfl (of_decide_eq_true rfl) (of_decide_eq_true rfl) ?_
      refine ct_139_18 hcr  g4 a0 (by omega)  (fun h6 z7 g6 u6 (fz7 : -1 ≤ z7 ∧ z7 ≤ 11) => ?_)
      have F8 := F5.then (by decide +kernel) u6
      refine wk_i ?_
      refine wr_V (k0 := 0) (rest := []) (as := [.ref 0, vi z7]) (nx := 28) (r1 := 45) (r2 := 1) (r3 := 0) rfl rfl rfl (of_decide_eq_true rfl) rfl rfl (by decide) rfl rfl (of_decide_eq_true rfl) (of_decide_eq_true rfl) ?_
      refine ct_45_0 hcr  g6 z7 (by omega)  (fun h9 z10 g9 u9 (fz10 : -2147483648 ≤ z10 ∧ z10 ≤ 2147483647) => ?_)
      have F11 := F8.then (by decide +kernel) u9
      refine wk_i ?_
      refine wi_ireturn (nx := 29) (r1 := 0) (r2 := 0) (r3 := 0) rfl rfl ?_
      exact k h9 z10 g9 F11 (by omega)
    ·
      refine wr_throw (Ex := 2) (nx := 18) (r1 := 2) (r2 := 0) (r3 := 1) rfl (by decide) rfl hr (by decide) ?_
      refine wk_x rfl ?_
      exact kx2 h g F0
-- method 27: Bank.errorCode()I
set_option maxRecDepth 100000 in
set_option maxHeartbeats 100000000 in
theorem ct_27_0 {L : Nat} {xs : Nat → Int32} {d b c : Nat} {h : hp} {cr : Nat → Nat → Option Nat} {Q : hp_Q} (hcr : CR cr)  (g : GI h)    (k : ∀ (z0 : Int), (-2147483648 ≤ z0 ∧ z0 ≤ 2147483647) → Q (.inl (some (vi z0))) (hp_w h cr) b c) : wp (md_xa (L, xs)) d 27 (0, [(0, .ref 0)], [], hp_w h cr, b, c) Q := by
  have F0 : FR [] h h := FR.refl
  refine wi_aload_n (i := 0) (x := 0) (nx := 1) (r1 := 0) (r2 := 0) (r3 := 0) rfl rfl ?_
  refine wr_gr (k0 := 0) (x := 1) (nx := 4) (r1 := 0) (r2 := 0) (r3 := 0) rfl rfl (by decide) rfl ⟨rfl, rfl⟩ rfl ?_
  have b1 := gi_b (lo := -2147483648) (hi := 2147483647) g 1 2 rfl
  refine wr_gi0 (k0 := 1) (x := h 1 2) (nx := 7) (r1 := 1) (r2 := 2) (r3 := 0) rfl rfl (by decide) rfl ⟨rfl, rfl⟩ rfl rfl ?_
  refine wi_ireturn (nx := 8) (r1 := 0) (r2 := 0) (r3 := 0) rfl rfl ?_
  exact k (h 1 2) (by omega)
-- method 28: Bank.errorPosition()I
set_option maxRecDepth 100000 in
set_option maxHeartbeats 100000000 in
theorem ct_28_0 {L : Nat} {xs : Nat → Int32} {d b c : Nat} {h : hp} {cr : Nat → Nat → Option Nat} {Q : hp_Q} (hcr : CR cr)  (g : GI h)    (k : ∀ (z0 : Int), (-2147483648 ≤ z0 ∧ z0 ≤ 2147483647) → Q (.inl (some (vi z0))) (hp_w h cr) b c) : wp (md_xa (L, xs)) d 28 (0, [(0, .ref 0)], [], hp_w h cr, b, c) Q := by
  have F0 : FR [] h h := FR.refl
  refine wi_aload_n (i := 0) (x := 0) (nx := 1) (r1 := 0) (r2 := 0) (r3 := 0) rfl rfl ?_
  refine wr_gr (k0 := 0) (x := 1) (nx := 4) (r1 := 0) (r2 := 0) (r3 := 0) rfl rfl (by decide) rfl ⟨rfl, rfl⟩ rfl ?_
  have b1 := gi_b (lo := -2147483648) (hi := 2147483647) g 1 3 rfl
  refine wr_gi0 (k0 := 1) (x := h 1 3) (nx := 7) (r1 := 1) (r2 := 3) (r3 := 0) rfl rfl (by decide) rfl ⟨rfl, rfl⟩ rfl rfl ?_
  refine wi_ireturn (nx := 8) (r1 := 0) (r2 := 0) (r3 := 0) rfl rfl ?_
  exact k (h 1 3) (by omega)
-- method 92: Text.append(I)V
set_option maxRecDepth 100000 in
set_option maxHeartbeats 100000000 in
theorem ct_92_1 {L : Nat} {xs : Nat → Int32} {d b c : Nat} {h : hp} {cr : Nat → Nat → Option Nat} {Q : hp_Q} (hcr : CR cr)  (g : GI h) (a0 : Int) (q0_ : -2147483648 ≤ a0 ∧ a0 ≤ 2147483647) (pp0 : h 1 1 ≤ 796) (k : ∀ (h2 : hp) , GI h2 → FR [(2, 2, none), (1, 1, some (1, 1))] h h2 → (h2 1 1 = h 1 1 + 4) → (AP1 (h 2) (h2 2) (h 1 1).toNat a0) → Q (.inl none) (hp_w h2 cr) b c) : wp (md_xa (L, xs)) d 92 (0, [(0, .ref 1), (1, vi a0)], [], hp_w h cr, b, c) Q := by
  have F0 : FR [(2, 2, none), (1, 1, some (1, 1))] h h := FR.refl
  have b1 := gi_b (lo := 0) (hi := 800) g 1 1 rfl
  refine wi_bipush (n := 24) (nx := 2) (r1 := 0) (r2 := 0) (r3 := 0) rfl (by decide) ?_
  refine wi_istore_n (i := 2) (e := 24) (lo2 := [(2, vi 24), (0, .ref 1), (1, vi a0)]) (nx := 3) (r1 := 0) (r2 := 0) (r3 := 0) rfl rfl ?_
  refine wi_iload_n (i := 2) (e := 24) (nx := 4) (r1 := 0) (r2 := 0) (r3 := 0) rfl rfl ?_
  refine wi_if (cd := .lt) (nx := 7) (r1 := 48) (r2 := 0) (r3 := 0) rfl (by omega) (fun (q2 : 24 < 0) => by exfalso; omega) (fun (q2 : ¬ (24 < 0)) => ?_)
  refine wi_aload_n (i := 0) (x := 1) (nx := 8) (r1 := 0) (r2 := 0) (r3 := 0) rfl rfl ?_
  refine wr_gi0 (k0 := 1) (x := h 1 1) (nx := 11) (r1 := 1) (r2 := 1) (r3 := 0) rfl rfl (by decide) rfl ⟨rfl, rfl⟩ rfl rfl ?_
  refine wi_aload_n (i := 0) (x := 1) (nx := 12) (r1 := 0) (r2 := 0) (r3 := 0) rfl rfl ?_
  refine wr_gr (k0 := 1) (x := 2) (nx := 15) (r1 := 1) (r2 := 0) (r3 := 0) rfl rfl (by decide) rfl ⟨rfl, rfl⟩ rfl ?_
  refine wr_al (k0 := 2) (e := 800) (nx := 16) (r1 := 0) (r2 := 0) (r3 := 0) rfl (by decide) rfl rfl ?_
  refine wi_icmp (cd := .ge) (nx := 19) (r1 := 42) (r2 := 0) (r3 := 0) rfl (by omega) (by omega) (fun (q3 : 800 ≤ (h 1 1)) => by exfalso; omega) (fun (q3 : ¬ (800 ≤ (h 1 1))) => ?_)
  refine wi_aload_n (i := 0) (x := 1) (nx := 20) (r1 := 0) (r2 := 0) (r3 := 0) rfl rfl ?_
  refine wr_gr (k0 := 1) (x := 2) (nx := 23) (r1 := 1) (r2 := 0) (r3 := 0) rfl rfl (by decide) rfl ⟨rfl, rfl⟩ rfl ?_
  refine wi_aload_n (i := 0) (x := 1) (nx := 24) (r1 := 0) (r2 := 0) (r3 := 0) rfl rfl ?_
  refine wr_gi0 (k0 := 1) (x := h 1 1) (nx := 27) (r1 := 1) (r2 := 1) (r3 := 0) rfl rfl (by decide) rfl ⟨rfl, rfl⟩ rfl rfl ?_
  refine wi_iload_n (i := 1) (e := a0) (nx := 28) (r1 := 0) (r2 := 0) (r3 := 0) rfl rfl ?_
  refine wi_iload_n (i := 2) (e := 24) (nx := 29) (r1 := 0) (r2 := 0) (r3 := 0) rfl rfl ?_
  refine wr_ishrV (x := a0) (m := 16777216) 24 (by decide) (by decide) (by decide) (nx := 30) (r1 := 0) (r2 := 0) (r3 := 0) rfl (by omega) (fun e4 (fe4 : e4 = a0 / 16777216) => ?_)
  refine wr_i2bV (nx := 31) (r1 := 0) (r2 := 0) (r3 := 0) rfl (by omega) (fun e5 (fe5 : -128 ≤ e5 ∧ e5 ≤ 127) (ve5 : (e4 % 256 < 128 ∧ e5 = e4 % 256) ∨ (128 ≤ e4 % 256 ∧ e5 = e4 % 256 - 256)) => ?_)
  obtain ⟨i6, ei6⟩ : ∃ q : Nat, (h 1 1) = (q : Int) := ⟨(h 1 1).toNat, by omega⟩
  refine wr_bs (k0 := 2) (a := h 1 1) (f := i6) (x := e5) (bl := -128) (bh := 127) (nx := 32) (r1 := 0) (r2 := 0) (r3 := 0) rfl (by decide) rfl (by omega) (by omega) (by omega) (by decide) g rfl (by omega) (fun h7 g7 w7 u7 => ?_)
  have F8 := F0.then rfl (FR.rngp (lo := 2) (hi := 2) u7 (by decide))
  refine wi_aload_n (i := 0) (x := 1) (nx := 33) (r1 := 0) (r2 := 0) (r3 := 0) rfl rfl ?_
  refine wi_dup (nx := 34) (r1 := 0) (r2 := 0) (r3 := 0) rfl rfl ?_
  refine wr_gi0 (k0 := 1) (x := h 1 1) (nx := 37) (r1 := 1) (r2 := 1) (r3 := 0) rfl rfl (by decide) rfl ⟨rfl, rfl⟩ rfl (u7 1 1 (fn_a (by omega) fn_0)) ?_
  refine wi_iconst (n := 1) (nx := 38) (r1 := 0) (r2 := 0) (r3 := 0) rfl ?_
  refine wr_add (nx := 39) (r1 := 0) (r2 := 0) (r3 := 0) rfl (fun e9 (fe9 : e9 = (h 1 1) + 1) => ?_)
  refine wr_pf0 (k0 := 1) (x := e9) (bl := 0) (bh := 800) (nx := 42) (r1 := 1) (r2 := 1) (r3 := 0) rfl (by decide) rfl ⟨rfl, rfl⟩ rfl rfl g7 rfl (by omega) (fun h10 g10 w10 u10 => ?_)
  have F11 := F8.then rfl u10
  refine wr_iincL (i := 2) (n := (-8)) (v := 24) (16) ([(2, vi 16), (0, .ref 1), (1, vi a0)]) (nx := 45) (r1 := 0) (r2 := 0) (r3 := 0) rfl rfl (by decide) rfl ?_
  refine wi_goto (nx := 48) (r1 := 3) (r2 := 0) (r3 := 0) rfl ?_
  refine wi_iload_n (i := 2) (e := 16) (nx := 4) (r1 := 0) (r2 := 0) (r3 := 0) rfl rfl ?_
  refine wi_if (cd := .lt) (nx := 7) (r1 := 48) (r2 := 0) (r3 := 0) rfl (by omega) (fun (q12 : 16 < 0) => by exfalso; omega) (fun (q12 : ¬ (16 < 0)) => ?_)
  refine wi_aload_n (i := 0) (x := 1) (nx := 8) (r1 := 0) (r2 := 0) (r3 := 0) rfl rfl ?_
  refine wr_gi0 (k0 := 1) (x := e9) (nx := 11) (r1 := 1) (r2 := 1) (r3 := 0) rfl rfl (by decide) rfl ⟨rfl, rfl⟩ rfl w10 ?_
  refine wi_aload_n (i := 0) (x := 1) (nx := 12) (r1 := 0) (r2 := 0) (r3 := 0) rfl rfl ?_
  refine wr_gr (k0 := 1) (x := 2) (nx := 15) (r1 := 1) (r2 := 0) (r3 := 0) rfl rfl (by decide) rfl ⟨rfl, rfl⟩ rfl ?_
  refine wr_al (k0 := 2) (e := 800) (nx := 16) (r1 := 0) (r2 := 0) (r3 := 0) rfl (by decide) rfl rfl ?_
  refine wi_icmp (cd := .ge) (nx := 19) (r1 := 42) (r2 := 0) (r3 := 0) rfl (by omega) (by omega) (fun (q13 : 800 ≤ e9) => by exfalso; omega) (fun (q13 : ¬ (800 ≤ e9)) => ?_)
  refine wi_aload_n (i := 0) (x := 1) (nx := 20) (r1 := 0) (r2 := 0) (r3 := 0) rfl rfl ?_
  refine wr_gr (k0 := 1) (x := 2) (nx := 23) (r1 := 1) (r2 := 0) (r3 := 0) rfl rfl (by decide) rfl ⟨rfl, rfl⟩ rfl ?_
  refine wi_aload_n (i := 0) (x := 1) (nx := 24) (r1 := 0) (r2 := 0) (r3 := 0) rfl rfl ?_
  refine wr_gi0 (k0 := 1) (x := e9) (nx := 27) (r1 := 1) (r2 := 1) (r3 := 0) rfl rfl (by decide) rfl ⟨rfl, rfl⟩ rfl w10 ?_
  refine wi_iload_n (i := 1) (e := a0) (nx := 28) (r1 := 0) (r2 := 0) (r3 := 0) rfl rfl ?_
  refine wi_iload_n (i := 2) (e := 16) (nx := 29) (r1 := 0) (r2 := 0) (r3 := 0) rfl rfl ?_
  refine wr_ishrV (x := a0) (m := 65536) 16 (by decide) (by decide) (by decide) (nx := 30) (r1 := 0) (r2 := 0) (r3 := 0) rfl (by omega) (fun e14 (fe14 : e14 = a0 / 65536) => ?_)
  refine wr_i2bV (nx := 31) (r1 := 0) (r2 := 0) (r3 := 0) rfl (by omega) (fun e15 (fe15 : -128 ≤ e15 ∧ e15 ≤ 127) (ve15 : (e14 % 256 < 128 ∧ e15 = e14 % 256) ∨ (128 ≤ e14 % 256 ∧ e15 = e14 % 256 - 256)) => ?_)
  obtain ⟨i16, ei16⟩ : ∃ q : Nat, e9 = (q : Int) := ⟨(e9).toNat, by omega⟩
  refine wr_bs (k0 := 2) (a := e9) (f := i16) (x := e15) (bl := -128) (bh := 127) (nx := 32) (r1 := 0) (r2 := 0) (r3 := 0) rfl (by decide) rfl (by omega) (by omega) (by omega) (by decide) g10 rfl (by omega) (fun h17 g17 w17 u17 => ?_)
  have F18 := F11.then rfl (FR.rngp (lo := 2) (hi := 2) u17 (by decide))
  refine wi_aload_n (i := 0) (x := 1) (nx := 33) (r1 := 0) (r2 := 0) (r3 := 0) rfl rfl ?_
  refine wi_dup (nx := 34) (r1 := 0) (r2 := 0) (r3 := 0) rfl rfl ?_
  refine wr_gi0 (k0 := 1) (x := e9) (nx := 37) (r1 := 1) (r2 := 1) (r3 := 0) rfl rfl (by decide) rfl ⟨rfl, rfl⟩ rfl ((u17 1 1 (fn_a (by omega) fn_0)).trans w10) ?_
  refine wi_iconst (n := 1) (nx := 38) (r1 := 0) (r2 := 0) (r3 := 0) rfl ?_
  refine wr_add (nx := 39) (r1 := 0) (r2 := 0) (r3 := 0) rfl (fun e19 (fe19 : e19 = e9 + 1) => ?_)
  refine wr_pf0 (k0 := 1) (x := e19) (bl := 0) (bh := 800) (nx := 42) (r1 := 1) (r2 := 1) (r3 := 0) rfl (by decide) rfl ⟨rfl, rfl⟩ rfl rfl g17 rfl (by omega) (fun h20 g20 w20 u20 => ?_)
  have F21 := F18.then rfl u20
  refine wr_iincL (i := 2) (n := (-8)) (v := 16) (8) ([(2, vi 8), (0, .ref 1), (1, vi a0)]) (nx := 45) (r1 := 0) (r2 := 0) (r3 := 0) rfl rfl (by decide) rfl ?_
  refine wi_goto (nx := 48) (r1 := 3) (r2 := 0) (r3 := 0) rfl ?_
  refine wi_iload_n (i := 2) (e := 8) (nx := 4) (r1 := 0) (r2 := 0) (r3 := 0) rfl rfl ?_
  refine wi_if (cd := .lt) (nx := 7) (r1 := 48) (r2 := 0) (r3 := 0) rfl (by omega) (fun (q22 : 8 < 0) => by exfalso; omega) (fun (q22 : ¬ (8 < 0)) => ?_)
  refine wi_aload_n (i := 0) (x := 1) (nx := 8) (r1 := 0) (r2 := 0) (r3 := 0) rfl rfl ?_
  refine wr_gi0 (k0 := 1) (x := e19) (nx := 11) (r1 := 1) (r2 := 1) (r3 := 0) rfl rfl (by decide) rfl ⟨rfl, rfl⟩ rfl w20 ?_
  refine wi_aload_n (i := 0) (x := 1) (nx := 12) (r1 := 0) (r2 := 0) (r3 := 0) rfl rfl ?_
  refine wr_gr (k0 := 1) (x := 2) (nx := 15) (r1 := 1) (r2 := 0) (r3 := 0) rfl rfl (by decide) rfl ⟨rfl, rfl⟩ rfl ?_
  refine wr_al (k0 := 2) (e := 800) (nx := 16) (r1 := 0) (r2 := 0) (r3 := 0) rfl (by decide) rfl rfl ?_
  refine wi_icmp (cd := .ge) (nx := 19) (r1 := 42) (r2 := 0) (r3 := 0) rfl (by omega) (by omega) (fun (q23 : 800 ≤ e19) => by exfalso; omega) (fun (q23 : ¬ (800 ≤ e19)) => ?_)
  refine wi_aload_n (i := 0) (x := 1) (nx := 20) (r1 := 0) (r2 := 0) (r3 := 0) rfl rfl ?_
  refine wr_gr (k0 := 1) (x := 2) (nx := 23) (r1 := 1) (r2 := 0) (r3 := 0) rfl rfl (by decide) rfl ⟨rfl, rfl⟩ rfl ?_
  refine wi_aload_n (i := 0) (x := 1) (nx := 24) (r1 := 0) (r2 := 0) (r3 := 0) rfl rfl ?_
  refine wr_gi0 (k0 := 1) (x := e19) (nx := 27) (r1 := 1) (r2 := 1) (r3 := 0) rfl rfl (by decide) rfl ⟨rfl, rfl⟩ rfl w20 ?_
  refine wi_iload_n (i := 1) (e := a0) (nx := 28) (r1 := 0) (r2 := 0) (r3 := 0) rfl rfl ?_
  refine wi_iload_n (i := 2) (e := 8) (nx := 29) (r1 := 0) (r2 := 0) (r3 := 0) rfl rfl ?_
  refine wr_ishrV (x := a0) (m := 256) 8 (by decide) (by decide) (by decide) (nx := 30) (r1 := 0) (r2 := 0) (r3 := 0) rfl (by omega) (fun e24 (fe24 : e24 = a0 / 256) => ?_)
  refine wr_i2bV (nx := 31) (r1 := 0) (r2 := 0) (r3 := 0) rfl (by omega) (fun e25 (fe25 : -128 ≤ e25 ∧ e25 ≤ 127) (ve25 : (e24 % 256 < 128 ∧ e25 = e24 % 256) ∨ (128 ≤ e24 % 256 ∧ e25 = e24 % 256 - 256)) => ?_)
  obtain ⟨i26, ei26⟩ : ∃ q : Nat, e19 = (q : Int) := ⟨(e19).toNat, by omega⟩
  refine wr_bs (k0 := 2) (a := e19) (f := i26) (x := e25) (bl := -128) (bh := 127) (nx := 32) (r1 := 0) (r2 := 0) (r3 := 0) rfl (by decide) rfl (by omega) (by omega) (by omega) (by decide) g20 rfl (by omega) (fun h27 g27 w27 u27 => ?_)
  have F28 := F21.then rfl (FR.rngp (lo := 2) (hi := 2) u27 (by decide))
  refine wi_aload_n (i := 0) (x := 1) (nx := 33) (r1 := 0) (r2 := 0) (r3 := 0) rfl rfl ?_
  refine wi_dup (nx := 34) (r1 := 0) (r2 := 0) (r3 := 0) rfl rfl ?_
  refine wr_gi0 (k0 := 1) (x := e19) (nx := 37) (r1 := 1) (r2 := 1) (r3 := 0) rfl rfl (by decide) rfl ⟨rfl, rfl⟩ rfl ((u27 1 1 (fn_a (by omega) fn_0)).trans w20) ?_
  refine wi_iconst (n := 1) (nx := 38) (r1 := 0) (r2 := 0) (r3 := 0) rfl ?_
  refine wr_add (nx := 39) (r1 := 0) (r2 := 0) (r3 := 0) rfl (fun e29 (fe29 : e29 = e19 + 1) => ?_)
  refine wr_pf0 (k0 := 1) (x := e29) (bl := 0) (bh := 800) (nx := 42) (r1 := 1) (r2 := 1) (r3 := 0) rfl (by decide) rfl ⟨rfl, rfl⟩ rfl rfl g27 rfl (by omega) (fun h30 g30 w30 u30 => ?_)
  have F31 := F28.then rfl u30
  refine wr_iincL (i := 2) (n := (-8)) (v := 8) (0) ([(2, vi 0), (0, .ref 1), (1, vi a0)]) (nx := 45) (r1 := 0) (r2 := 0) (r3 := 0) rfl rfl (by decide) rfl ?_
  refine wi_goto (nx := 48) (r1 := 3) (r2 := 0) (r3 := 0) rfl ?_
  refine wi_iload_n (i := 2) (e := 0) (nx := 4) (r1 := 0) (r2 := 0) (r3 := 0) rfl rfl ?_
  refine wi_if (cd := .lt) (nx := 7) (r1 := 48) (r2 := 0) (r3 := 0) rfl (by omega) (fun (q32 : 0 < 0) => by exfalso; omega) (fun (q32 : ¬ (0 < 0)) => ?_)
  refine wi_aload_n (i := 0) (x := 1) (nx := 8) (r1 := 0) (r2 := 0) (r3 := 0) rfl rfl ?_
  refine wr_gi0 (k0 := 1) (x := e29) (nx := 11) (r1 := 1) (r2 := 1) (r3 := 0) rfl rfl (by decide) rfl ⟨rfl, rfl⟩ rfl w30 ?_
  refine wi_aload_n (i := 0) (x := 1) (nx := 12) (r1 := 0) (r2 := 0) (r3 := 0) rfl rfl ?_
  refine wr_gr (k0 := 1) (x := 2) (nx := 15) (r1 := 1) (r2 := 0) (r3 := 0) rfl rfl (by decide) rfl ⟨rfl, rfl⟩ rfl ?_
  refine wr_al (k0 := 2) (e := 800) (nx := 16) (r1 := 0) (r2 := 0) (r3 := 0) rfl (by decide) rfl rfl ?_
  refine wi_icmp (cd := .ge) (nx := 19) (r1 := 42) (r2 := 0) (r3 := 0) rfl (by omega) (by omega) (fun (q33 : 800 ≤ e29) => by exfalso; omega) (fun (q33 : ¬ (800 ≤ e29)) => ?_)
  refine wi_aload_n (i := 0) (x := 1) (nx := 20) (r1 := 0) (r2 := 0) (r3 := 0) rfl rfl ?_
  refine wr_gr (k0 := 1) (x := 2) (nx := 23) (r1 := 1) (r2 := 0) (r3 := 0) rfl rfl (by decide) rfl ⟨rfl, rfl⟩ rfl ?_
  refine wi_aload_n (i := 0) (x := 1) (nx := 24) (r1 := 0) (r2 := 0) (r3 := 0) rfl rfl ?_
  refine wr_gi0 (k0 := 1) (x := e29) (nx := 27) (r1 := 1) (r2 := 1) (r3 := 0) rfl rfl (by decide) rfl ⟨rfl, rfl⟩ rfl w30 ?_
  refine wi_iload_n (i := 1) (e := a0) (nx := 28) (r1 := 0) (r2 := 0) (r3 := 0) rfl rfl ?_
  refine wi_iload_n (i := 2) (e := 0) (nx := 29) (r1 := 0) (r2 := 0) (r3 := 0) rfl rfl ?_
  refine wr_ishrV (x := a0) (m := 1) 0 (by decide) (by decide) (by decide) (nx := 30) (r1 := 0) (r2 := 0) (r3 := 0) rfl (by omega) (fun e34 (fe34 : e34 = a0 / 1) => ?_)
  refine wr_i2bV (nx := 31) (r1 := 0) (r2 := 0) (r3 := 0) rfl (by omega) (fun e35 (fe35 : -128 ≤ e35 ∧ e35 ≤ 127) (ve35 : (e34 % 256 < 128 ∧ e35 = e34 % 256) ∨ (128 ≤ e34 % 256 ∧ e35 = e34 % 256 - 256)) => ?_)
  obtain ⟨i36, ei36⟩ : ∃ q : Nat, e29 = (q : Int) := ⟨(e29).toNat, by omega⟩
  refine wr_bs (k0 := 2) (a := e29) (f := i36) (x := e35) (bl := -128) (bh := 127) (nx := 32) (r1 := 0) (r2 := 0) (r3 := 0) rfl (by decide) rfl (by omega) (by omega) (by omega) (by decide) g30 rfl (by omega) (fun h37 g37 w37 u37 => ?_)
  have F38 := F31.then rfl (FR.rngp (lo := 2) (hi := 2) u37 (by decide))
  refine wi_aload_n (i := 0) (x := 1) (nx := 33) (r1 := 0) (r2 := 0) (r3 := 0) rfl rfl ?_
  refine wi_dup (nx := 34) (r1 := 0) (r2 := 0) (r3 := 0) rfl rfl ?_
  refine wr_gi0 (k0 := 1) (x := e29) (nx := 37) (r1 := 1) (r2 := 1) (r3 := 0) rfl rfl (by decide) rfl ⟨rfl, rfl⟩ rfl ((u37 1 1 (fn_a (by omega) fn_0)).trans w30) ?_
  refine wi_iconst (n := 1) (nx := 38) (r1 := 0) (r2 := 0) (r3 := 0) rfl ?_
  refine wr_add (nx := 39) (r1 := 0) (r2 := 0) (r3 := 0) rfl (fun e39 (fe39 : e39 = e29 + 1) => ?_)
  refine wr_pf0 (k0 := 1) (x := e39) (bl := 0) (bh := 800) (nx := 42) (r1 := 1) (r2 := 1) (r3 := 0) rfl (by decide) rfl ⟨rfl, rfl⟩ rfl rfl g37 rfl (by omega) (fun h40 g40 w40 u40 => ?_)
  have F41 := F38.then rfl u40
  refine wr_iincL (i := 2) (n := (-8)) (v := 0) (-8) ([(2, vi (-8)), (0, .ref 1), (1, vi a0)]) (nx := 45) (r1 := 0) (r2 := 0) (r3 := 0) rfl rfl (by decide) rfl ?_
  refine wi_goto (nx := 48) (r1 := 3) (r2 := 0) (r3 := 0) rfl ?_
  refine wi_iload_n (i := 2) (e := -8) (nx := 4) (r1 := 0) (r2 := 0) (r3 := 0) rfl rfl ?_
  refine wi_if (cd := .lt) (nx := 7) (r1 := 48) (r2 := 0) (r3 := 0) rfl (by omega) (fun (q42 : (-8) < 0) => ?_) (fun (q42 : ¬ ((-8) < 0)) => by exfalso; omega)
  refine wi_return (nx := 49) (r1 := 0) (r2 := 0) (r3 := 0) rfl rfl ?_
  have e43 : h40 1 1 = e39 := w40
  exact k h40 g40 F41 (show (h40 1 1) = (h 1 1) + 4 by omega) ⟨(fun i e => ((u40 2 i (fn_a (by omega) fn_0)).trans ((u37 2 i (fn_i (by omega) fn_0)).trans ((u30 2 i (fn_a (by omega) fn_0)).trans ((u27 2 i (fn_i (by omega) fn_0)).trans ((u20 2 i (fn_a (by omega) fn_0)).trans ((u17 2 i (fn_i (by omega) fn_0)).trans ((u10 2 i (fn_a (by omega) fn_0)).trans (u7 2 i (fn_i (by omega) fn_0)))))))))), (by rw [show (h 1 1).toNat = i6 by omega, ((u40 2 i6 (fn_a (by omega) fn_0)).trans ((u37 2 i6 (fn_i (by omega) fn_0)).trans ((u30 2 i6 (fn_a (by omega) fn_0)).trans ((u27 2 i6 (fn_i (by omega) fn_0)).trans ((u20 2 i6 (fn_a (by omega) fn_0)).trans ((u17 2 i6 (fn_i (by omega) fn_0)).trans ((u10 2 i6 (fn_a (by omega) fn_0)).trans w7)))))))]; unfold sb; omega), (by rw [show (h 1 1).toNat + 1 = i16 by omega, ((u40 2 i16 (fn_a (by omega) fn_0)).trans ((u37 2 i16 (fn_i (by omega) fn_0)).trans ((u30 2 i16 (fn_a (by omega) fn_0)).trans ((u27 2 i16 (fn_i (by omega) fn_0)).trans ((u20 2 i16 (fn_a (by omega) fn_0)).trans w17)))))]; unfold sb; omega), (by rw [show (h 1 1).toNat + 2 = i26 by omega, ((u40 2 i26 (fn_a (by omega) fn_0)).trans ((u37 2 i26 (fn_i (by omega) fn_0)).trans ((u30 2 i26 (fn_a (by omega) fn_0)).trans w27)))]; unfold sb; omega), (by rw [show (h 1 1).toNat + 3 = i36 by omega, ((u40 2 i36 (fn_a (by omega) fn_0)).trans w37)]; unfold sb; omega)⟩
-- method 61: Bank.feed(IIIII)I
set_option maxRecDepth 100000 in
set_option maxHeartbeats 100000000 in
theorem ct_61_0 {L : Nat} {xs : Nat → Int32} {d b c : Nat} {h : hp} {cr : Nat → Nat → Option Nat} {Q : hp_Q} (hcr : CR cr) (hr : 1 ≤ b ∧ 6 ≤ c)  (g : GI h) (a0 : Int) (a1 : Int) (a2 : Int) (a3 : Int) (a4 : Int) (q0_ : -2147483648 ≤ a0 ∧ a0 ≤ 2147483647) (q1_ : -2147483648 ≤ a1 ∧ a1 ≤ 2147483647) (q2_ : -2147483648 ≤ a2 ∧ a2 ≤ 2147483647) (q3_ : -2147483648 ≤ a3 ∧ a3 ≤ 2147483647) (q4_ : -2147483648 ≤ a4 ∧ a4 ≤ 2147483647)  (k : ∀ (h2 : hp) (z0 : Int) , GI h2 → FR [(2, 2, none), (1, 1, some (1, 1))] h h2 → (20 ≤ z0 ∧ z0 ≤ 800) → (h 1 1 ≤ 780) → (h2 1 1 = h 1 1 + 20) → (z0 = h 1 1 + 20) → (h 1 1 ≤ 780 → AP5 (h 2) (h2 2) (h 1 1).toNat a0 a1 a2 a3 a4) → Q (.inl (some (vi z0))) (hp_w h2 cr) b c) (kx0 : ∀ (h2 : hp), GI h2 → FR [(2, 2, none), (1, 1, some (1, 1))] h h2 → (781 ≤ h 1 1) → (h2 1 1 = h 1 1) → (∀ i : Nat, h2 2 i = h 2 i) → Q (.inr 0) (hp_w h2 cr) (b - 1) (c - 6)) : wp (md_xa (L, xs)) (d + 1) 61 (0, [(0, .ref 0), (1, vi a0), (2, vi a1), (3, vi a2), (4, vi a3), (5, vi a4)], [], hp_w h cr, b, c) Q := by
  have F0 : FR [(2, 2, none), (1, 1, some (1, 1))] h h := FR.refl
  refine wi_aload_n (i := 0) (x := 0) (nx := 1) (r1 := 0) (r2 := 0) (r3 := 0) rfl rfl ?_
  refine wr_gr (k0 := 0) (x := 1) (nx := 4) (r1 := 0) (r2 := 0) (r3 := 0) rfl rfl (by decide) rfl ⟨rfl, rfl⟩ rfl ?_
  have b1 := gi_b (lo := 0) (hi := 800) g 1 1 rfl
  refine wr_gi0 (k0 := 1) (x := h 1 1) (nx := 7) (r1 := 1) (r2 := 1) (r3 := 0) rfl rfl (by decide) rfl ⟨rfl, rfl⟩ rfl rfl ?_
  refine wi_bipush (n := 20) (nx := 9) (r1 := 0) (r2 := 0) (r3 := 0) rfl (by decide) ?_
  refine wr_add (nx := 10) (r1 := 0) (r2 := 0) (r3 := 0) rfl (fun e2 (fe2 : e2 = (h 1 1) + 20) => ?_)
  refine wi_sipush (n := 800) (nx := 13) (r1 := 0) (r2 := 0) (r3 := 0) rfl (by decide) ?_
  refine wi_icmp (cd := .le) (nx := 16) (r1 := 26) (r2 := 0) (r3 := 0) rfl (by omega) (by omega) (fun (q3 : e2 ≤ 800) => ?_) (fun (q3 : ¬ (e2 ≤ 800)) => ?_)
  ·
    refine wi_aload_n (i := 0) (x := 0) (nx := 27) (r1 := 0) (r2 := 0) (r3 := 0) rfl rfl ?_
    refine wr_gr (k0 := 0) (x := 1) (nx := 30) (r1 := 0) (r2 := 0) (r3 := 0) rfl rfl (by decide) rfl ⟨rfl, rfl⟩ rfl ?_
    refine wi_iload_n (i := 1) (e := a0) (nx := 31) (r1 := 0) (r2 := 0) (r3 := 0) rfl rfl ?_
    refine wr_V (k0 := 1) (rest := []) (as := [.ref 1, vi a0]) (nx := 34) (r1 := 92) (r2 := 1) (r3 := 1) rfl rfl rfl (of_decide_eq_true rfl) rfl rfl (by decide) rfl rfl (of_decide_eq_true rfl) (of_decide_eq_true rfl) ?_
    refine ct_92_1 hcr  g a0 (by omega) (show (h 1 1) ≤ 796 by omega) (fun h4 g4 u4 (p4_0 : (h4 1 1) = (h 1 1) + 4) y4_0 => ?_)
    have F5 := F0.then (by decide +kernel) u4
    have b6 := gi_b (lo := 0) (hi := 800) g4 1 1 rfl
    refine wk_n ?_
    refine wi_aload_n (i := 0) (x := 0) (nx := 35) (r1 := 0) (r2 := 0) (r3 := 0) rfl rfl ?_
    refine wr_gr (k0 := 0) (x := 1) (nx := 38) (r1 := 0) (r2 := 0) (r3 := 0) rfl rfl (by decide) rfl ⟨rfl, rfl⟩ rfl ?_
    refine wi_iload_n (i := 2) (e := a1) (nx := 39) (r1 := 0) (r2 := 0) (r3 := 0) rfl rfl ?_
    refine wr_V (k0 := 1) (rest := []) (as := [.ref 1, vi a1]) (nx := 42) (r1 := 92) (r2 := 1) (r3 := 1) rfl rfl rfl (of_decide_eq_true rfl) rfl rfl (by decide) rfl rfl (of_decide_eq_true rfl) (of_decide_eq_true rfl) ?_
    refine ct_92_1 hcr  g4 a1 (by omega) (show (h4 1 1) ≤ 796 by omega) (fun h7 g7 u7 (p7_0 : (h7 1 1) = (h4 1 1) + 4) y7_0 => ?_)
    have F8 := F5.then (by decide +kernel) u7
    have b9 := gi_b (lo := 0) (hi := 800) g7 1 1 rfl
    refine wk_n ?_
    refine wi_aload_n (i := 0) (x := 0) (nx := 43) (r1 := 0) (r2 := 0) (r3 := 0) rfl rfl ?_
    refine wr_gr (k0 := 0) (x := 1) (nx := 46) (r1 := 0) (r2 := 0) (r3 := 0) rfl rfl (by decide) rfl ⟨rfl, rfl⟩ rfl ?_
    refine wi_iload_n (i := 3) (e := a2) (nx := 47) (r1 := 0) (r2 := 0) (r3 := 0) rfl rfl ?_
    refine wr_V (k0 := 1) (rest := []) (as := [.ref 1, vi a2]) (nx := 50) (r1 := 92) (r2 := 1) (r3 := 1) rfl rfl rfl (of_decide_eq_true rfl) rfl rfl (by decide) rfl rfl (of_decide_eq_true rfl) (of_decide_eq_true rfl) ?_
    refine ct_92_1 hcr  g7 a2 (by omega) (show (h7 1 1) ≤ 796 by omega) (fun h10 g10 u10 (p10_0 : (h10 1 1) = (h7 1 1) + 4) y10_0 => ?_)
    have F11 := F8.then (by decide +kernel) u10
    have b12 := gi_b (lo := 0) (hi := 800) g10 1 1 rfl
    refine wk_n ?_
    refine wi_aload_n (i := 0) (x := 0) (nx := 51) (r1 := 0) (r2 := 0) (r3 := 0) rfl rfl ?_
    refine wr_gr (k0 := 0) (x := 1) (nx := 54) (r1 := 0) (r2 := 0) (r3 := 0) rfl rfl (by decide) rfl ⟨rfl, rfl⟩ rfl ?_
    refine wi_iload (i := 4) (e := a3) (nx := 56) (r1 := 0) (r2 := 0) (r3 := 0) rfl rfl ?_
    refine wr_V (k0 := 1) (rest := []) (as := [.ref 1, vi a3]) (nx := 59) (r1 := 92) (r2 := 1) (r3 := 1) rfl rfl rfl (of_decide_eq_true rfl) rfl rfl (by decide) rfl rfl (of_decide_eq_true rfl) (of_decide_eq_true rfl) ?_
    refine ct_92_1 hcr  g10 a3 (by omega) (show (h10 1 1) ≤ 796 by omega) (fun h13 g13 u13 (p13_0 : (h13 1 1) = (h10 1 1) + 4) y13_0 => ?_)
    have F14 := F11.then (by decide +kernel) u13
    have b15 := gi_b (lo := 0) (hi := 800) g13 1 1 rfl
    refine wk_n ?_
    refine wi_aload_n (i := 0) (x := 0) (nx := 60) (r1 := 0) (r2 := 0) (r3 := 0) rfl rfl ?_
    refine wr_gr (k0 := 0) (x := 1) (nx := 63) (r1 := 0) (r2 := 0) (r3 := 0) rfl rfl (by decide) rfl ⟨rfl, rfl⟩ rfl ?_
    refine wi_iload (i := 5) (e := a4) (nx := 65) (r1 := 0) (r2 := 0) (r3 := 0) rfl rfl ?_
    refine wr_V (k0 := 1) (rest := []) (as := [.ref 1, vi a4]) (nx := 68) (r1 := 92) (r2 := 1) (r3 := 1) rfl rfl rfl (of_decide_eq_true rfl) rfl rfl (by decide) rfl rfl (of_decide_eq_true rfl) (of_decide_eq_true rfl) ?_
    refine ct_92_1 hcr  g13 a4 (by omega) (show (h13 1 1) ≤ 796 by omega) (fun h16 g16 u16 (p16_0 : (h16 1 1) = (h13 1 1) + 4) y16_0 => ?_)
    have F17 := F14.then (by decide +kernel) u16
    have b18 := gi_b (lo := 0) (hi := 800) g16 1 1 rfl
    refine wk_n ?_
    refine wi_aload_n (i := 0) (x := 0) (nx := 69) (r1 := 0) (r2 := 0) (r3 := 0) rfl rfl ?_
    refine wr_gr (k0 := 0) (x := 1) (nx := 72) (r1 := 0) (r2 := 0) (r3 := 0) rfl rfl (by decide) rfl ⟨rfl, rfl⟩ rfl ?_
    refine wr_gi0 (k0 := 1) (x := h16 1 1) (nx := 75) (r1 := 1) (r2 := 1) (r3 := 0) rfl rfl (by decide) rfl ⟨rfl, rfl⟩ rfl rfl ?_
    refine wi_ireturn (nx := 76) (r1 := 0) (r2 := 0) (r3 := 0) rfl rfl ?_
    exact k h16 (h16 1 1) g16 F17 (by omega) (show (h 1 1) ≤ 780 by omega) (show (h16 1 1) = (h 1 1) + 20 by omega) (show (h16 1 1) = (h 1 1) + 20 by omega) (fun _ => ⟨h4 2, h7 2, h10 2, h13 2, y4_0, (by rw [show (h 1 1).toNat + 4 = (h4 1 1).toNat by omega]; exact y7_0), (by rw [show (h 1 1).toNat + 8 = (h7 1 1).toNat by omega]; exact y10_0), (by rw [show (h 1 1).toNat + 12 = (h10 1 1).toNat by omega]; exact y13_0), (by rw [show (h 1 1).toNat + 16 = (h13 1 1).toNat by omega]; exact y16_0)⟩)
  ·
    refine wr_throw (Ex := 0) (nx := 19) (r1 := 0) (r2 := 0) (r3 := 1) rfl (by decide) rfl hr (by decide) ?_
    exact kx0 h g F0 (show 781 ≤ (h 1 1) by omega) (show (h 1 1) = (h 1 1) by omega) (fun i => rfl)
-- method 38: Bank.hose()I
set_option maxRecDepth 100000 in
set_option maxHeartbeats 100000000 in
theorem ct_38_0 {L : Nat} {xs : Nat → Int32} {d b c : Nat} {h : hp} {cr : Nat → Nat → Option Nat} {Q : hp_Q} (hcr : CR cr)  (g : GI h)    (k : ∀ (z0 : Int), (-2147483648 ≤ z0 ∧ z0 ≤ 2147483647) → Q (.inl (some (vi z0))) (hp_w h cr) b c) : wp (md_xa (L, xs)) d 38 (0, [(0, .ref 0)], [], hp_w h cr, b, c) Q := by
  have F0 : FR [] h h := FR.refl
  refine wi_aload_n (i := 0) (x := 0) (nx := 1) (r1 := 0) (r2 := 0) (r3 := 0) rfl rfl ?_
  refine wr_gr (k0 := 0) (x := 18) (nx := 4) (r1 := 0) (r2 := 3) (r3 := 0) rfl rfl (by decide) rfl ⟨rfl, rfl⟩ rfl ?_
  have b1 := gi_b (lo := -2147483648) (hi := 2147483647) g 18 8 rfl
  refine wr_gi0 (k0 := 18) (x := h 18 8) (nx := 7) (r1 := 4) (r2 := 8) (r3 := 0) rfl rfl (by decide) rfl ⟨rfl, rfl⟩ rfl rfl ?_
  refine wi_ireturn (nx := 8) (r1 := 0) (r2 := 0) (r3 := 0) rfl rfl ?_
  exact k (h 18 8) (by omega)
-- method 75: Bank.inLane(II)I
set_option maxRecDepth 100000 in
set_option maxHeartbeats 100000000 in
theorem ct_75_0 {L : Nat} {xs : Nat → Int32} {d b c : Nat} {h : hp} {cr : Nat → Nat → Option Nat} {Q : hp_Q} (hcr : CR cr) (hr : 1 ≤ b ∧ 6 ≤ c)  (g : GI h) (a0 : Int) (a1 : Int) (q0_ : -2147483648 ≤ a0 ∧ a0 ≤ 2147483647) (q1_ : -2147483648 ≤ a1 ∧ a1 ≤ 2147483647)  (k : ∀ (z0 : Int), (-2147483648 ≤ z0 ∧ z0 ≤ 2147483647) → Q (.inl (some (vi z0))) (hp_w h cr) b c) (kx2 : Q (.inr 2) (hp_w h cr) (b - 1) (c - 6)) : wp (md_xa (L, xs)) (d + 1) 75 (0, [(0, .ref 0), (1, vi a0), (2, vi a1)], [], hp_w h cr, b, c) Q := by
  have F0 : FR [] h h := FR.refl
  refine wi_aload_n (i := 0) (x := 0) (nx := 1) (r1 := 0) (r2 := 0) (r3 := 0) rfl rfl ?_
  refine wi_iload_n (i := 1) (e := a0) (nx := 2) (r1 := 0) (r2 := 0) (r3 := 0) rfl rfl ?_
  refine wr_V (k0 := 0) (rest := []) (as := [.ref 0, vi a0]) (nx := 5) (r1 := 68) (r2 := 1) (r3 := 0) rfl rfl rfl (of_decide_eq_true rfl) rfl rfl (by decide) rfl rfl (of_decide_eq_true rfl) (of_decide_eq_true rfl) ?_
  refine wi_iload_n (i := 1) (e := a0) (nx := 1) (r1 := 0) (r2 := 0) (r3 := 0) rfl rfl ?_
  refine wi_if (cd := .lt) (nx := 4) (r1 := 15) (r2 := 0) (r3 := 0) rfl (by omega) (fun (q1 : a0 < 0) => ?_) (fun (q1 : ¬ (a0 < 0)) => ?_)
  ·
    refine wr_throw (Ex := 2) (nx := 18) (r1 := 2) (r2 := 0) (r3 := 1) rfl (by decide) rfl hr (by decide) ?_
    refine wk_x rfl ?_
    exact kx2
  ·
    refine wi_iload_n (i := 1) (e := a0) (nx := 5) (r1 := 0) (r2 := 0) (r3 := 0) rfl rfl ?_
    refine wi_aload_n (i := 0) (x := 0) (nx := 6) (r1 := 0) (r2 := 0) (r3 := 0) rfl rfl ?_
    refine wr_gr (k0 := 0) (x := 3) (nx := 9) (r1 := 0) (r2 := 1) (r3 := 0) rfl rfl (by decide) rfl ⟨rfl, rfl⟩ rfl ?_
    have b2 := gi_b (lo := 0) (hi := 4) g 3 1 rfl
    refine wr_gi0 (k0 := 3) (x := h 3 1) (nx := 12) (r1 := 2) (r2 := 1) (r3 := 0) rfl rfl (by decide) rfl ⟨rfl, rfl⟩ rfl rfl ?_
    refine wi_icmp (cd := .lt) (nx := 15) (r1 := 26) (r2 := 0) (r3 := 0) rfl (by omega) (by omega) (fun (q3 : a0 < (h 3 1)) => ?_) (fun (q3 : ¬ (a0 < (h 3 1))) => ?_)
    ·
      refine wi_return (nx := 27) (r1 := 0) (r2 := 0) (r3 := 0) rfl rfl ?_
      refine wk_n ?_
      refine wi_aload_n (i := 0) (x := 0) (nx := 6) (r1 := 0) (r2 := 0) (r3 := 0) rfl rfl ?_
      refine wr_gr (k0 := 0) (x := 18) (nx := 9) (r1 := 0) (r2 := 3) (r3 := 0) rfl rfl (by decide) rfl ⟨rfl, rfl⟩ rfl ?_
      refine wr_gr (k0 := 18) (x := 21) (nx := 12) (r1 := 4) (r2 := 3) (r3 := 0) rfl rfl (by decide) rfl ⟨rfl, rfl⟩ rfl ?_
      refine wi_iload_n (i := 1) (e := a0) (nx := 13) (r1 := 0) (r2 := 0) (r3 := 0) rfl rfl ?_
      obtain ⟨i4, ei4⟩ : ∃ q : Nat, a0 = (q : Int) := ⟨(a0).toNat, by omega⟩
      refine wr_aa (k0 := 21) (a := a0) (f := i4) (x := 21 + 8 + 2 * i4) (nx := 14) (r1 := 0) (r2 := 0) (r3 := 0) rfl (by decide) rfl (Or.inl rfl) (by omega) (by omega) (by decide) (hcr.1 21 (by decide) i4 (by omega)) ?_
      obtain ⟨k5, kk5, mk5⟩ : ∃ q, Rw q ∧ q = 21 + 8 + 2 * i4 := ⟨_, rw_lane 21 (by decide) i4 (by omega), rfl⟩
      rw [← mk5]
      refine wi_iload_n (i := 2) (e := a1) (nx := 15) (r1 := 0) (r2 := 0) (r3 := 0) rfl rfl ?_
      refine wr_V (k0 := k5) (rest := []) (as := [.ref k5, vi a1]) (nx := 18) (r1 := 154) (r2 := 1) (r3 := 5) rfl rfl rfl (of_decide_eq_true rfl) rfl rfl kk5.k kk5.1 rfl (of_decide_eq_true rfl) (of_decide_eq_true rfl) ?_
      refine ct_154_R hcr kk5 g a1 (by omega)  (fun z7  (fz7 : -2147483648 ≤ z7 ∧ z7 ≤ 2147483647) => ?_)
      refine wk_i ?_
      refine wi_ireturn (nx := 19) (r1 := 0) (r2 := 0) (r3 := 0) rfl rfl ?_
      exact k z7 (by omega)
    ·
      refine wr_throw (Ex := 2) (nx := 18) (r1 := 2) (r2 := 0) (r3 := 1) rfl (by decide) rfl hr (by decide) ?_
      refine wk_x rfl ?_
      exact kx2
-- method 32: Bank.inRework(I)I
set_option maxRecDepth 100000 in
set_option maxHeartbeats 100000000 in
theorem ct_32_0 {L : Nat} {xs : Nat → Int32} {d b c : Nat} {h : hp} {cr : Nat → Nat → Option Nat} {Q : hp_Q} (hcr : CR cr)  (g : GI h) (a0 : Int) (q0_ : -2147483648 ≤ a0 ∧ a0 ≤ 2147483647)  (k : ∀ (z0 : Int), (-2147483648 ≤ z0 ∧ z0 ≤ 2147483647) → Q (.inl (some (vi z0))) (hp_w h cr) b c) : wp (md_xa (L, xs)) (d + 1) 32 (0, [(0, .ref 0), (1, vi a0)], [], hp_w h cr, b, c) Q := by
  have F0 : FR [] h h := FR.refl
  refine wi_aload_n (i := 0) (x := 0) (nx := 1) (r1 := 0) (r2 := 0) (r3 := 0) rfl rfl ?_
  refine wr_gr (k0 := 0) (x := 18) (nx := 4) (r1 := 0) (r2 := 3) (r3 := 0) rfl rfl (by decide) rfl ⟨rfl, rfl⟩ rfl ?_
  refine wr_gr (k0 := 18) (x := 22) (nx := 7) (r1 := 4) (r2 := 4) (r3 := 0) rfl rfl (by decide) rfl ⟨rfl, rfl⟩ rfl ?_
  refine wi_iload_n (i := 1) (e := a0) (nx := 8) (r1 := 0) (r2 := 0) (r3 := 0) rfl rfl ?_
  refine wr_V (k0 := 22) (rest := []) (as := [.ref 22, vi a0]) (nx := 11) (r1 := 154) (r2 := 1) (r3 := 5) rfl rfl rfl (of_decide_eq_true rfl) rfl rfl (by decide) rfl rfl (of_decide_eq_true rfl) (of_decide_eq_true rfl) ?_
  refine ct_154_R hcr rw_22 g a0 (by omega)  (fun z2  (fz2 : -2147483648 ≤ z2 ∧ z2 ≤ 2147483647) => ?_)
  refine wk_i ?_
  refine wi_ireturn (nx := 12) (r1 := 0) (r2 := 0) (r3 := 0) rfl rfl ?_
  exact k z2 (by omega)
-- method 29: Bank.kinds()I
set_option maxRecDepth 100000 in
set_option maxHeartbeats 100000000 in
theorem ct_29_0 {L : Nat} {xs : Nat → Int32} {d b c : Nat} {h : hp} {cr : Nat → Nat → Option Nat} {Q : hp_Q} (hcr : CR cr)  (g : GI h)    (k : ∀ (z0 : Int), (-2147483648 ≤ z0 ∧ z0 ≤ 2147483647) → Q (.inl (some (vi z0))) (hp_w h cr) b c) : wp (md_xa (L, xs)) (d + 1) 29 (0, [(0, .ref 0)], [], hp_w h cr, b, c) Q := by
  have F0 : FR [] h h := FR.refl
  refine wi_iconst (n := 0) (nx := 1) (r1 := 0) (r2 := 0) (r3 := 0) rfl ?_
  refine wi_istore_n (i := 1) (e := 0) (lo2 := [(1, vi 0), (0, .ref 0)]) (nx := 2) (r1 := 0) (r2 := 0) (r3 := 0) rfl rfl ?_
  refine wi_iconst (n := 0) (nx := 3) (r1 := 0) (r2 := 0) (r3 := 0) rfl ?_
  refine wi_istore_n (i := 2) (e := 0) (lo2 := [(2, vi 0), (1, vi 0), (0, .ref 0)]) (nx := 4) (r1 := 0) (r2 := 0) (r3 := 0) rfl rfl ?_
  refine wp.lo (lo := [(0, .ref 0), (1, vi 0), (2, vi 0)]) ⟨rfl, rfl, rfl, trivial⟩ rfl ?_
  refine wl_2 (fun x1 x2 h3 => h = h3 ∧ ((-2147483648 ≤ x1 ∧ x1 ≤ 2147483647) ∧ (0 ≤ x2 ∧ x2 ≤ 12))) (fun x1 x2 h3 => ((12 : Int) + 1 - x2).toNat) (fun x1 x2 h3 => (4, [(0, .ref 0), (1, vi x1), (2, vi x2)], [], hp_w h3 cr, b, c)) ?_ 0 0 h ⟨rfl, (show (-2147483648 ≤ 0 ∧ 0 ≤ 2147483647) ∧ (0 ≤ 0 ∧ 0 ≤ 12) by omega)⟩
  intro x1 x2 h3 ⟨e3, f3⟩ I3
  subst e3
  refine wi_iload_n (i := 2) (e := x2) (nx := 5) (r1 := 0) (r2 := 0) (r3 := 0) rfl rfl ?_
  refine wi_aload_n (i := 0) (x := 0) (nx := 6) (r1 := 0) (r2 := 0) (r3 := 0) rfl rfl ?_
  refine wr_gr (k0 := 0) (x := 3) (nx := 9) (r1 := 0) (r2 := 1) (r3 := 0) rfl rfl (by decide) rfl ⟨rfl, rfl⟩ rfl ?_
  have b5 := gi_b (lo := 0) (hi := 12) g 3 2 rfl
  refine wr_gi0 (k0 := 3) (x := h 3 2) (nx := 12) (r1 := 2) (r2 := 2) (r3 := 0) rfl rfl (by decide) rfl ⟨rfl, rfl⟩ rfl rfl ?_
  refine wi_icmp (cd := .ge) (nx := 15) (r1 := 45) (r2 := 0) (r3 := 0) rfl (by omega) (by omega) (fun (q6 : (h 3 2) ≤ x2) => ?_) (fun (q6 : ¬ ((h 3 2) ≤ x2)) => ?_)
  ·
    refine wi_iload_n (i := 1) (e := x1) (nx := 46) (r1 := 0) (r2 := 0) (r3 := 0) rfl rfl ?_
    refine wi_ireturn (nx := 47) (r1 := 0) (r2 := 0) (r3 := 0) rfl rfl ?_
    exact k x1 (by omega)
  ·
    refine wi_aload_n (i := 0) (x := 0) (nx := 16) (r1 := 0) (r2 := 0) (r3 := 0) rfl rfl ?_
    refine wr_gr (k0 := 0) (x := 18) (nx := 19) (r1 := 0) (r2 := 3) (r3 := 0) rfl rfl (by decide) rfl ⟨rfl, rfl⟩ rfl ?_
    refine wi_iload_n (i := 2) (e := x2) (nx := 20) (r1 := 0) (r2 := 0) (r3 := 0) rfl rfl ?_
    refine wi_iconst (n := 0) (nx := 21) (r1 := 0) (r2 := 0) (r3 := 0) rfl ?_
    refine wr_V (k0 := 18) (rest := []) (as := [.ref 18, vi x2, vi 0]) (nx := 24) (r1 := 127) (r2 := 2) (r3 := 4) rfl rfl rfl (of_decide_eq_true rfl) rfl rfl (by decide) rfl rfl (of_decide_eq_true rfl) (of_decide_eq_true rfl) ?_
    refine ct_127_18 hcr  g x2 0 (by omega) (by omega)  (fun z8  (fz8 : -2147483648 ≤ z8 ∧ z8 ≤ 2147483647) => ?_)
    refine wk_i ?_
    refine wi_aload_n (i := 0) (x := 0) (nx := 25) (r1 := 0) (r2 := 0) (r3 := 0) rfl rfl ?_
    refine wr_gr (k0 := 0) (x := 18) (nx := 28) (r1 := 0) (r2 := 3) (r3 := 0) rfl rfl (by decide) rfl ⟨rfl, rfl⟩ rfl ?_
    refine wi_iload_n (i := 2) (e := x2) (nx := 29) (r1 := 0) (r2 := 0) (r3 := 0) rfl rfl ?_
    refine wi_iload_n (i := 2) (e := x2) (nx := 30) (r1 := 0) (r2 := 0) (r3 := 0) rfl rfl ?_
    refine wr_V (k0 := 18) (rest := [vi z8]) (as := [.ref 18, vi x2, vi x2]) (nx := 33) (r1 := 127) (r2 := 2) (r3 := 4) rfl rfl rfl (of_decide_eq_true rfl) rfl rfl (by decide) rfl rfl (of_decide_eq_true rfl) (of_decide_eq_true rfl) ?_
    refine ct_127_18 hcr  g x2 x2 (by omega) (by omega)  (fun z10  (fz10 : -2147483648 ≤ z10 ∧ z10 ≤ 2147483647) => ?_)
    refine wk_i ?_
    refine wi_icmp (cd := .ne) (nx := 36) (r1 := 39) (r2 := 0) (r3 := 0) rfl (by omega) (by omega) (fun (q11 : z8 ≠ z10) => ?_) (fun (q11 : ¬ (z8 ≠ z10)) => ?_)
    ·
      refine wr_iinc (i := 2) (n := 1) (v := x2) (fun e12 => [(2, vi e12), (0, .ref 0), (1, vi x1)]) (nx := 42) (r1 := 0) (r2 := 0) (r3 := 0) rfl rfl (fun _ => rfl) (fun e12 (fe12 : e12 = x2 + 1) => ?_)
      refine wi_goto (nx := 45) (r1 := 4) (r2 := 0) (r3 := 0) rfl ?_
      refine wp.lo (lo := [(0, .ref 0), (1, vi x1), (2, vi e12)]) ⟨rfl, rfl, rfl, trivial⟩ rfl ?_
      exact I3 x1 e12 h ⟨rfl, (show (-2147483648 ≤ x1 ∧ x1 ≤ 2147483647) ∧ (0 ≤ e12 ∧ e12 ≤ 12) by omega)⟩ (show ((12 : Int) + 1 - e12).toNat < ((12 : Int) + 1 - x2).toNat by omega)
    ·
      refine wr_iincW (i := 1) (n := 1) (v := x1) (fun e12 => [(1, vi e12), (0, .ref 0), (2, vi x2)]) (nx := 39) (r1 := 0) (r2 := 0) (r3 := 0) rfl rfl (fun _ => rfl) (fun e12 (fe12 : -2147483648 ≤ e12 ∧ e12 ≤ 2147483647) => ?_)
      refine wr_iinc (i := 2) (n := 1) (v := x2) (fun e13 => [(2, vi e13), (1, vi e12), (0, .ref 0)]) (nx := 42) (r1 := 0) (r2 := 0) (r3 := 0) rfl rfl (fun _ => rfl) (fun e13 (fe13 : e13 = x2 + 1) => ?_)
      refine wi_goto (nx := 45) (r1 := 4) (r2 := 0) (r3 := 0) rfl ?_
      refine wp.lo (lo := [(0, .ref 0), (1, vi e12), (2, vi e13)]) ⟨rfl, rfl, rfl, trivial⟩ rfl ?_
      exact I3 e12 e13 h ⟨rfl, (show (-2147483648 ≤ e12 ∧ e12 ≤ 2147483647) ∧ (0 ≤ e13 ∧ e13 ≤ 12) by omega)⟩ (show ((12 : Int) + 1 - e13).toNat < ((12 : Int) + 1 - x2).toNat by omega)
-- method 131: Line.colorOfCar(I)I
set_option maxRecDepth 100000 in
set_option maxHeartbeats 100000000 in
theorem ct_131_18 {L : Nat} {xs : Nat → Int32} {d b c : Nat} {h : hp} {cr : Nat → Nat → Option Nat} {Q : hp_Q} (hcr : CR cr)  (g : GI h) (a0 : Int) (q0_ : -2147483648 ≤ a0 ∧ a0 ≤ 2147483647)  (k : ∀ (z0 : Int), (-2147483648 ≤ z0 ∧ z0 ≤ 2147483647) → Q (.inl (some (vi z0))) (hp_w h cr) b c) : wp (md_xa (L, xs)) d 131 (0, [(0, .ref 18), (1, vi a0)], [], hp_w h cr, b, c) Q := by
  have F0 : FR [] h h := FR.refl
  refine wi_iload_n (i := 1) (e := a0) (nx := 1) (r1 := 0) (r2 := 0) (r3 := 0) rfl rfl ?_
  refine wi_if (cd := .lt) (nx := 4) (r1 := 10) (r2 := 0) (r3 := 0) rfl (by omega) (fun (q1 : a0 < 0) => ?_) (fun (q1 : ¬ (a0 < 0)) => ?_)
  ·
    refine wi_iconst (n := (-1)) (nx := 11) (r1 := 0) (r2 := 0) (r3 := 0) rfl ?_
    refine wi_goto (nx := 14) (r1 := 20) (r2 := 0) (r3 := 0) rfl ?_
    refine wi_ireturn (nx := 21) (r1 := 0) (r2 := 0) (r3 := 0) rfl rfl ?_
    exact k (-1) (by omega)
  ·
    refine wi_iload_n (i := 1) (e := a0) (nx := 5) (r1 := 0) (r2 := 0) (r3 := 0) rfl rfl ?_
    refine wi_bipush (n := 12) (nx := 7) (r1 := 0) (r2 := 0) (r3 := 0) rfl (by decide) ?_
    refine wi_icmp (cd := .lt) (nx := 10) (r1 := 14) (r2 := 0) (r3 := 0) rfl (by omega) (by omega) (fun (q2 : a0 < 12) => ?_) (fun (q2 : ¬ (a0 < 12)) => ?_)
    ·
      refine wi_aload_n (i := 0) (x := 18) (nx := 15) (r1 := 0) (r2 := 0) (r3 := 0) rfl rfl ?_
      refine wr_gr (k0 := 18) (x := 19) (nx := 18) (r1 := 4) (r2 := 1) (r3 := 0) rfl rfl (by decide) rfl ⟨rfl, rfl⟩ rfl ?_
      refine wi_iload_n (i := 1) (e := a0) (nx := 19) (r1 := 0) (r2 := 0) (r3 := 0) rfl rfl ?_
      obtain ⟨i3, ei3⟩ : ∃ q : Nat, a0 = (q : Int) := ⟨(a0).toNat, by omega⟩
      have b4 := gi_b (lo := -2147483648) (hi := 2147483647) g 19 i3 rfl
      refine wr_ia (k0 := 19) (a := a0) (f := i3) (x := h 19 i3) (nx := 20) (r1 := 0) (r2 := 0) (r3 := 0) rfl (by decide) rfl (by omega) (by omega) (by decide) rfl ?_
      refine wi_ireturn (nx := 21) (r1 := 0) (r2 := 0) (r3 := 0) rfl rfl ?_
      exact k (h 19 i3) (by omega)
    ·
      refine wi_iconst (n := (-1)) (nx := 11) (r1 := 0) (r2 := 0) (r3 := 0) rfl ?_
      refine wi_goto (nx := 14) (r1 := 20) (r2 := 0) (r3 := 0) rfl ?_
      refine wi_ireturn (nx := 21) (r1 := 0) (r2 := 0) (r3 := 0) rfl rfl ?_
      exact k (-1) (by omega)
-- method 147: Line.colorsInLanes()I
set_option maxRecDepth 100000 in
set_option maxHeartbeats 100000000 in
theorem ct_147_18 {L : Nat} {xs : Nat → Int32} {d b c : Nat} {h : hp} {cr : Nat → Nat → Option Nat} {Q : hp_Q} (hcr : CR cr)  (g : GI h)    (k : ∀ (z0 : Int), (-2147483648 ≤ z0 ∧ z0 ≤ 2147483647) → Q (.inl (some (vi z0))) (hp_w h cr) b c) : wp (md_xa (L, xs)) (d + 1) 147 (0, [(0, .ref 18)], [], hp_w h cr, b, c) Q := by
  have F0 : FR [] h h := FR.refl
  refine wi_iconst (n := 0) (nx := 1) (r1 := 0) (r2 := 0) (r3 := 0) rfl ?_
  refine wi_istore_n (i := 1) (e := 0) (lo2 := [(1, vi 0), (0, .ref 18)]) (nx := 2) (r1 := 0) (r2 := 0) (r3 := 0) rfl rfl ?_
  refine wi_iconst (n := 0) (nx := 3) (r1 := 0) (r2 := 0) (r3 := 0) rfl ?_
  refine wi_istore_n (i := 2) (e := 0) (lo2 := [(2, vi 0), (1, vi 0), (0, .ref 18)]) (nx := 4) (r1 := 0) (r2 := 0) (r3 := 0) rfl rfl ?_
  refine wp.lo (lo := [(0, .ref 18), (1, vi 0), (2, vi 0)]) ⟨rfl, rfl, rfl, trivial⟩ rfl ?_
  refine wl_2 (fun x1 x2 h3 => h = h3 ∧ ((-2147483648 ≤ x1 ∧ x1 ≤ 2147483647) ∧ (0 ≤ x2 ∧ x2 ≤ 4))) (fun x1 x2 h3 => ((4 : Int) + 1 - x2).toNat) (fun x1 x2 h3 => (4, [(0, .ref 18), (1, vi x1), (2, vi x2)], [], hp_w h3 cr, b, c)) ?_ 0 0 h ⟨rfl, (show (-2147483648 ≤ 0 ∧ 0 ≤ 2147483647) ∧ (0 ≤ 0 ∧ 0 ≤ 4) by omega)⟩
  intro x1 x2 h3 ⟨e3, f3⟩ I3
  subst e3
  refine wi_iload_n (i := 2) (e := x2) (nx := 5) (r1 := 0) (r2 := 0) (r3 := 0) rfl rfl ?_
  refine wi_aload_n (i := 0) (x := 18) (nx := 6) (r1 := 0) (r2 := 0) (r3 := 0) rfl rfl ?_
  refine wr_gr (k0 := 18) (x := 3) (nx := 9) (r1 := 4) (r2 := 0) (r3 := 0) rfl rfl (by decide) rfl ⟨rfl, rfl⟩ rfl ?_
  have b5 := gi_b (lo := 0) (hi := 4) g 3 1 rfl
  refine wr_gi0 (k0 := 3) (x := h 3 1) (nx := 12) (r1 := 2) (r2 := 1) (r3 := 0) rfl rfl (by decide) rfl ⟨rfl, rfl⟩ rfl rfl ?_
  refine wi_icmp (cd := .ge) (nx := 15) (r1 := 61) (r2 := 0) (r3 := 0) rfl (by omega) (by omega) (fun (q6 : (h 3 1) ≤ x2) => ?_) (fun (q6 : ¬ ((h 3 1) ≤ x2)) => ?_)
  ·
    refine wi_iload_n (i := 1) (e := x1) (nx := 62) (r1 := 0) (r2 := 0) (r3 := 0) rfl rfl ?_
    refine wi_ireturn (nx := 63) (r1 := 0) (r2 := 0) (r3 := 0) rfl rfl ?_
    exact k x1 (by omega)
  ·
    refine wi_iconst (n := 0) (nx := 16) (r1 := 0) (r2 := 0) (r3 := 0) rfl ?_
    refine wi_istore_n (i := 3) (e := 0) (lo2 := [(3, vi 0), (0, .ref 18), (1, vi x1), (2, vi x2)]) (nx := 17) (r1 := 0) (r2 := 0) (r3 := 0) rfl rfl ?_
    refine wp.lo (lo := [(0, .ref 18), (1, vi x1), (2, vi x2), (3, vi 0)]) ⟨rfl, rfl, rfl, rfl, trivial⟩ rfl ?_
    refine wl_2 (fun x7 x8 h9 => h = h9 ∧ ((-2147483648 ≤ x7 ∧ x7 ≤ 2147483647) ∧ (0 ≤ x8 ∧ x8 ≤ 12))) (fun x7 x8 h9 => ((12 : Int) + 1 - x8).toNat) (fun x7 x8 h9 => (17, [(0, .ref 18), (1, vi x7), (2, vi x2), (3, vi x8)], [], hp_w h9 cr, b, c)) ?_ x1 0 h ⟨rfl, (show (-2147483648 ≤ x1 ∧ x1 ≤ 2147483647) ∧ (0 ≤ 0 ∧ 0 ≤ 12) by omega)⟩
    intro x7 x8 h9 ⟨e9, f9⟩ I9
    subst e9
    refine wi_iload_n (i := 3) (e := x8) (nx := 18) (r1 := 0) (r2 := 0) (r3 := 0) rfl rfl ?_
    refine wi_aload_n (i := 0) (x := 18) (nx := 19) (r1 := 0) (r2 := 0) (r3 := 0) rfl rfl ?_
    refine wr_gr (k0 := 18) (x := 21) (nx := 22) (r1 := 4) (r2 := 3) (r3 := 0) rfl rfl (by decide) rfl ⟨rfl, rfl⟩ rfl ?_
    refine wi_iload_n (i := 2) (e := x2) (nx := 23) (r1 := 0) (r2 := 0) (r3 := 0) rfl rfl ?_
    obtain ⟨i12, ei12⟩ : ∃ q : Nat, x2 = (q : Int) := ⟨(x2).toNat, by omega⟩
    refine wr_aa (k0 := 21) (a := x2) (f := i12) (x := 21 + 8 + 2 * i12) (nx := 24) (r1 := 0) (r2 := 0) (r3 := 0) rfl (by decide) rfl (Or.inl rfl) (by omega) (by omega) (by decide) (hcr.1 21 (by decide) i12 (by omega)) ?_
    obtain ⟨k13, kk13, mk13⟩ : ∃ q, Rw q ∧ q = 21 + 8 + 2 * i12 := ⟨_, rw_lane 21 (by decide) i12 (by omega), rfl⟩
    rw [← mk13]
    have b14 := gi_b (lo := 0) (hi := 12) g k13 1 kk13.2.2.2.1
    refine wr_gi0 (k0 := k13) (x := h k13 1) (nx := 27) (r1 := 5) (r2 := 1) (r3 := 0) rfl rfl kk13.k kk13.1 ⟨rfl, rfl⟩ rfl rfl ?_
    refine wi_icmp (cd := .ge) (nx := 30) (r1 := 55) (r2 := 0) (r3 := 0) rfl (by omega) (by omega) (fun (q15 : (h k13 1) ≤ x8) => ?_) (fun (q15 : ¬ ((h k13 1) ≤ x8)) => ?_)
    ·
      refine wr_iinc (i := 2) (n := 1) (v := x2) (fun e16 => [(2, vi e16), (0, .ref 18), (1, vi x7), (3, vi x8)]) (nx := 58) (r1 := 0) (r2 := 0) (r3 := 0) rfl rfl (fun _ => rfl) (fun e16 (fe16 : e16 = x2 + 1) => ?_)
      refine wi_goto (nx := 61) (r1 := 4) (r2 := 0) (r3 := 0) rfl ?_
      refine wp.lo (lo := [(0, .ref 18), (1, vi x7), (2, vi e16)]) ⟨rfl, rfl, rfl, trivial⟩ rfl ?_
      exact I3 x7 e16 h ⟨rfl, (show (-2147483648 ≤ x7 ∧ x7 ≤ 2147483647) ∧ (0 ≤ e16 ∧ e16 ≤ 4) by omega)⟩ (show ((4 : Int) + 1 - e16).toNat < ((4 : Int) + 1 - x2).toNat by omega)
    ·
      refine wi_iload_n (i := 1) (e := x7) (nx := 31) (r1 := 0) (r2 := 0) (r3 := 0) rfl rfl ?_
      refine wi_iconst (n := 1) (nx := 32) (r1 := 0) (r2 := 0) (r3 := 0) rfl ?_
      refine wi_aload_n (i := 0) (x := 18) (nx := 33) (r1 := 0) (r2 := 0) (r3 := 0) rfl rfl ?_
      refine wi_aload_n (i := 0) (x := 18) (nx := 34) (r1 := 0) (r2 := 0) (r3 := 0) rfl rfl ?_
      refine wr_gr (k0 := 18) (x := 21) (nx := 37) (r1 := 4) (r2 := 3) (r3 := 0) rfl rfl (by decide) rfl ⟨rfl, rfl⟩ rfl ?_
      refine wi_iload_n (i := 2) (e := x2) (nx := 38) (r1 := 0) (r2 := 0) (r3 := 0) rfl rfl ?_
      refine wr_aa (k0 := 21) (a := x2) (f := i12) (x := 21 + 8 + 2 * i12) (nx := 39) (r1 := 0) (r2 := 0) (r3 := 0) rfl (by decide) rfl (Or.inl rfl) (by omega) (by omega) (by decide) (hcr.1 21 (by decide) i12 (by omega)) ?_
      obtain ⟨k16, kk16, mk16⟩ : ∃ q, Rw q ∧ q = 21 + 8 + 2 * i12 := ⟨_, rw_lane 21 (by decide) i12 (by omega), rfl⟩
      rw [← mk16]
      refine wi_iload_n (i := 3) (e := x8) (nx := 40) (r1 := 0) (r2 := 0) (r3 := 0) rfl rfl ?_
      refine wr_V (k0 := k16) (rest := [.ref 18, vi 1, vi x7]) (as := [.ref k16, vi x8]) (nx := 43) (r1 := 154) (r2 := 1) (r3 := 5) rfl rfl rfl (of_decide_eq_true rfl) rfl rfl kk16.k kk16.1 rfl (of_decide_eq_true rfl) (of_decide_eq_true rfl) ?_
      refine ct_154_R hcr kk16 g x8 (by omega)  (fun z18  (fz18 : -2147483648 ≤ z18 ∧ z18 ≤ 2147483647) => ?_)
      refine wk_i ?_
      refine wr_V (k0 := 18) (rest := [vi 1, vi x7]) (as := [.ref 18, vi z18]) (nx := 46) (r1 := 131) (r2 := 1) (r3 := 4) rfl rfl rfl (of_decide_eq_true rfl) rfl rfl (by decide) rfl rfl (of_decide_eq_true rfl) (of_decide_eq_true rfl) ?_
      refine ct_131_18 hcr  g z18 (by omega)  (fun z20  (fz20 : -2147483648 ≤ z20 ∧ z20 ≤ 2147483647) => ?_)
      refine wk_i ?_
      refine wr_ishlA (nx := 47) (r1 := 0) (r2 := 0) (r3 := 0) rfl (fun e21 (fe21 : -2147483648 ≤ e21 ∧ e21 ≤ 2147483647) => ?_)
      refine wr_iorA (nx := 48) (r1 := 0) (r2 := 0) (r3 := 0) rfl (fun e22 (fe22 : -2147483648 ≤ e22 ∧ e22 ≤ 2147483647) => ?_)
      refine wi_istore_n (i := 1) (e := e22) (lo2 := [(1, vi e22), (0, .ref 18), (2, vi x2), (3, vi x8)]) (nx := 49) (r1 := 0) (r2 := 0) (r3 := 0) rfl rfl ?_
      refine wr_iinc (i := 3) (n := 1) (v := x8) (fun e23 => [(3, vi e23), (1, vi e22), (0, .ref 18), (2, vi x2)]) (nx := 52) (r1 := 0) (r2 := 0) (r3 := 0) rfl rfl (fun _ => rfl) (fun e23 (fe23 : e23 = x8 + 1) => ?_)
      refine wi_goto (nx := 55) (r1 := 17) (r2 := 0) (r3 := 0) rfl ?_
      refine wp.lo (lo := [(0, .ref 18), (1, vi e22), (2, vi x2), (3, vi e23)]) ⟨rfl, rfl, rfl, rfl, trivial⟩ rfl ?_
      exact I9 e22 e23 h ⟨rfl, (show (-2147483648 ≤ e22 ∧ e22 ≤ 2147483647) ∧ (0 ≤ e23 ∧ e23 ≤ 12) by omega)⟩ (show ((12 : Int) + 1 - e23).toNat < ((12 : Int) + 1 - x8).toNat by omega)
-- method 52: Bank.laneBound()I
set_option maxRecDepth 100000 in
set_option maxHeartbeats 100000000 in
theorem ct_52_0 {L : Nat} {xs : Nat → Int32} {d b c : Nat} {h : hp} {cr : Nat → Nat → Option Nat} {Q : hp_Q} (hcr : CR cr)  (g : GI h)    (k : ∀ (z0 : Int), (-2147483648 ≤ z0 ∧ z0 ≤ 2147483647) → Q (.inl (some (vi z0))) (hp_w h cr) b c) : wp (md_xa (L, xs)) (d + 2) 52 (0, [(0, .ref 0)], [], hp_w h cr, b, c) Q := by
  have F0 : FR [] h h := FR.refl
  refine wi_aload_n (i := 0) (x := 0) (nx := 1) (r1 := 0) (r2 := 0) (r3 := 0) rfl rfl ?_
  refine wr_gr (k0 := 0) (x := 18) (nx := 4) (r1 := 0) (r2 := 3) (r3 := 0) rfl rfl (by decide) rfl ⟨rfl, rfl⟩ rfl ?_
  refine wi_aload_n (i := 0) (x := 0) (nx := 5) (r1 := 0) (r2 := 0) (r3 := 0) rfl rfl ?_
  refine wr_gr (k0 := 0) (x := 18) (nx := 8) (r1 := 0) (r2 := 3) (r3 := 0) rfl rfl (by decide) rfl ⟨rfl, rfl⟩ rfl ?_
  refine wr_V (k0 := 18) (rest := [.ref 18]) (as := [.ref 18]) (nx := 11) (r1 := 147) (r2 := 0) (r3 := 4) rfl rfl rfl (of_decide_eq_true rfl) rfl rfl (by decide) rfl rfl (of_decide_eq_true rfl) (of_decide_eq_true rfl) ?_
  refine ct_147_18 hcr  g    (fun z2  (fz2 : -2147483648 ≤ z2 ∧ z2 ≤ 2147483647) => ?_)
  refine wk_i ?_
  refine wr_V (k0 := 18) (rest := []) (as := [.ref 18, vi z2]) (nx := 14) (r1 := 148) (r2 := 1) (r3 := 4) rfl rfl rfl (of_decide_eq_true rfl) rfl rfl (by decide) rfl rfl (of_decide_eq_true rfl) (of_decide_eq_true rfl) ?_
  refine ct_148_18 hcr  g z2 (by omega)  (fun z4  (fz4 : -2147483648 ≤ z4 ∧ z4 ≤ 2147483647) => ?_)
  refine wk_i ?_
  refine wi_ireturn (nx := 15) (r1 := 0) (r2 := 0) (r3 := 0) rfl rfl ?_
  exact k z4 (by omega)
-- method 156: Row.last()I
set_option maxRecDepth 100000 in
set_option maxHeartbeats 100000000 in
theorem ct_156_R {L : Nat} {xs : Nat → Int32} {d b c : Nat} {h : hp} {cr : Nat → Nat → Option Nat} {Q : hp_Q} (hcr : CR cr)  {k0 : Nat} (kk0 : Rw k0) (g : GI h)    (k : ∀ (z0 : Int), (-2147483648 ≤ z0 ∧ z0 ≤ 2147483647) → Q (.inl (some (vi z0))) (hp_w h cr) b c) : wp (md_xa (L, xs)) d 156 (0, [(0, .ref k0)], [], hp_w h cr, b, c) Q := by
  have F0 : FR [] h h := FR.refl
  have nk0 := kk0.2.2.1
  unfold md_nW at nk0
  refine wi_aload_n (i := 0) (x := k0) (nx := 1) (r1 := 0) (r2 := 0) (r3 := 0) rfl rfl ?_
  have b1 := gi_b (lo := 0) (hi := 12) g k0 1 kk0.2.2.2.1
  refine wr_gi0 (k0 := k0) (x := h k0 1) (nx := 4) (r1 := 5) (r2 := 1) (r3 := 0) rfl rfl kk0.k kk0.1 ⟨rfl, rfl⟩ rfl rfl ?_
  refine wi_if (cd := .le) (nx := 7) (r1 := 21) (r2 := 0) (r3 := 0) rfl (by omega) (fun (q2 : (h k0 1) ≤ 0) => ?_) (fun (q2 : ¬ ((h k0 1) ≤ 0)) => ?_)
  ·
    refine wi_iconst (n := (-1)) (nx := 22) (r1 := 0) (r2 := 0) (r3 := 0) rfl ?_
    refine wi_ireturn (nx := 23) (r1 := 0) (r2 := 0) (r3 := 0) rfl rfl ?_
    exact k (-1) (by omega)
  ·
    refine wi_aload_n (i := 0) (x := k0) (nx := 8) (r1 := 0) (r2 := 0) (r3 := 0) rfl rfl ?_
    refine wr_gr (k0 := k0) (x := k0 + 1) (nx := 11) (r1 := 5) (r2 := 0) (r3 := 0) rfl rfl kk0.k kk0.1 ⟨rfl, rfl⟩ rfl ?_
    refine wi_aload_n (i := 0) (x := k0) (nx := 12) (r1 := 0) (r2 := 0) (r3 := 0) rfl rfl ?_
    refine wr_gi0 (k0 := k0) (x := h k0 1) (nx := 15) (r1 := 5) (r2 := 1) (r3 := 0) rfl rfl kk0.k kk0.1 ⟨rfl, rfl⟩ rfl rfl ?_
    refine wi_iconst (n := 1) (nx := 16) (r1 := 0) (r2 := 0) (r3 := 0) rfl ?_
    refine wr_sub (nx := 17) (r1 := 0) (r2 := 0) (r3 := 0) rfl (fun e3 (fe3 : e3 = (h k0 1) - 1) => ?_)
    obtain ⟨i4, ei4⟩ : ∃ q : Nat, e3 = (q : Int) := ⟨(e3).toNat, by omega⟩
    have b5 := gi_b (lo := -2147483648) (hi := 2147483647) g (k0 + 1) i4 (kk0.2.2.2.2 _)
    refine wr_ia (k0 := k0 + 1) (a := e3) (f := i4) (x := h (k0 + 1) i4) (nx := 18) (r1 := 0) (r2 := 0) (r3 := 0) rfl kk0.2.2.1 kk0.2.1 (by omega) (by omega) (by decide) rfl ?_
    refine wi_goto (nx := 21) (r1 := 22) (r2 := 0) (r3 := 0) rfl ?_
    refine wi_ireturn (nx := 23) (r1 := 0) (r2 := 0) (r3 := 0) rfl rfl ?_
    exact k (h (k0 + 1) i4) (by omega)
-- method 136: Line.chosenLane(I)I
set_option maxRecDepth 100000 in
set_option maxHeartbeats 100000000 in
theorem ct_136_18 {L : Nat} {xs : Nat → Int32} {d b c : Nat} {h : hp} {cr : Nat → Nat → Option Nat} {Q : hp_Q} (hcr : CR cr)  (g : GI h) (a0 : Int) (q0_ : -2147483648 ≤ a0 ∧ a0 ≤ 2147483647)  (k : ∀ (z0 : Int), (-1 ≤ z0 ∧ z0 ≤ 3) → Q (.inl (some (vi z0))) (hp_w h cr) b c) : wp (md_xa (L, xs)) (d + 1) 136 (0, [(0, .ref 18), (1, vi a0)], [], hp_w h cr, b, c) Q := by
  have F0 : FR [] h h := FR.refl
  refine wi_iconst (n := (-1)) (nx := 1) (r1 := 0) (r2 := 0) (r3 := 0) rfl ?_
  refine wi_istore_n (i := 2) (e := -1) (lo2 := [(2, vi (-1)), (0, .ref 18), (1, vi a0)]) (nx := 2) (r1 := 0) (r2 := 0) (r3 := 0) rfl rfl ?_
  refine wi_bipush (n := 12) (nx := 4) (r1 := 0) (r2 := 0) (r3 := 0) rfl (by decide) ?_
  refine wi_istore_n (i := 3) (e := 12) (lo2 := [(3, vi 12), (2, vi (-1)), (0, .ref 18), (1, vi a0)]) (nx := 5) (r1 := 0) (r2 := 0) (r3 := 0) rfl rfl ?_
  refine wi_iconst (n := 0) (nx := 6) (r1 := 0) (r2 := 0) (r3 := 0) rfl ?_
  refine wi_istore (i := 4) (e := 0) (lo2 := [(4, vi 0), (3, vi 12), (2, vi (-1)), (0, .ref 18), (1, vi a0)]) (nx := 8) (r1 := 0) (r2 := 0) (r3 := 0) rfl rfl ?_
  refine wp.lo (lo := [(0, .ref 18), (1, vi a0), (2, vi (-1)), (3, vi 12), (4, vi 0)]) ⟨rfl, rfl, rfl, rfl, rfl, trivial⟩ rfl ?_
  refine wl_3 (fun x1 x2 x3 h4 => h = h4 ∧ ((-1 ≤ x1 ∧ x1 ≤ 3) ∧ (0 ≤ x2 ∧ x2 ≤ 12) ∧ (0 ≤ x3 ∧ x3 ≤ 4))) (fun x1 x2 x3 h4 => ((4 : Int) + 1 - x3).toNat) (fun x1 x2 x3 h4 => (8, [(0, .ref 18), (1, vi a0), (2, vi x1), (3, vi x2), (4, vi x3)], [], hp_w h4 cr, b, c)) ?_ (-1) 12 0 h ⟨rfl, (show (-1 ≤ (-1) ∧ (-1) ≤ 3) ∧ (0 ≤ 12 ∧ 12 ≤ 12) ∧ (0 ≤ 0 ∧ 0 ≤ 4) by omega)⟩
  intro x1 x2 x3 h4 ⟨e4, f4⟩ I4
  subst e4
  refine wi_iload (i := 4) (e := x3) (nx := 10) (r1 := 0) (r2 := 0) (r3 := 0) rfl rfl ?_
  refine wi_aload_n (i := 0) (x := 18) (nx := 11) (r1 := 0) (r2 := 0) (r3 := 0) rfl rfl ?_
  refine wr_gr (k0 := 18) (x := 3) (nx := 14) (r1 := 4) (r2 := 0) (r3 := 0) rfl rfl (by decide) rfl ⟨rfl, rfl⟩ rfl ?_
  have b6 := gi_b (lo := 0) (hi := 4) g 3 1 rfl
  refine wr_gi0 (k0 := 3) (x := h 3 1) (nx := 17) (r1 := 2) (r2 := 1) (r3 := 0) rfl rfl (by decide) rfl ⟨rfl, rfl⟩ rfl rfl ?_
  refine wi_icmp (cd := .ge) (nx := 20) (r1 := 89) (r2 := 0) (r3 := 0) rfl (by omega) (by omega) (fun (q7 : (h 3 1) ≤ x3) => ?_) (fun (q7 : ¬ ((h 3 1) ≤ x3)) => ?_)
  ·
    refine wi_iload_n (i := 2) (e := x1) (nx := 90) (r1 := 0) (r2 := 0) (r3 := 0) rfl rfl ?_
    refine wi_ireturn (nx := 91) (r1 := 0) (r2 := 0) (r3 := 0) rfl rfl ?_
    exact k x1 (by omega)
  ·
    refine wi_aload_n (i := 0) (x := 18) (nx := 21) (r1 := 0) (r2 := 0) (r3 := 0) rfl rfl ?_
    refine wi_iload (i := 4) (e := x3) (nx := 23) (r1 := 0) (r2 := 0) (r3 := 0) rfl rfl ?_
    refine wr_V (k0 := 18) (rest := []) (as := [.ref 18, vi x3]) (nx := 26) (r1 := 137) (r2 := 1) (r3 := 4) rfl rfl rfl (of_decide_eq_true rfl) rfl rfl (by decide) rfl rfl (of_decide_eq_true rfl) (of_decide_eq_true rfl) ?_
    refine wi_iload_n (i := 1) (e := x3) (nx := 1) (r1 := 0) (r2 := 0) (r3 := 0) rfl rfl ?_
    refine wi_if (cd := .lt) (nx := 4) (r1 := 40) (r2 := 0) (r3 := 0) rfl (by omega) (fun (q8 : x3 < 0) => by exfalso; omega) (fun (q8 : ¬ (x3 < 0)) => ?_)
    refine wi_iload_n (i := 1) (e := x3) (nx := 5) (r1 := 0) (r2 := 0) (r3 := 0) rfl rfl ?_
    refine wi_aload_n (i := 0) (x := 18) (nx := 6) (r1 := 0) (r2 := 0) (r3 := 0) rfl rfl ?_
    refine wr_gr (k0 := 18) (x := 3) (nx := 9) (r1 := 4) (r2 := 0) (r3 := 0) rfl rfl (by decide) rfl ⟨rfl, rfl⟩ rfl ?_
    refine wr_gi0 (k0 := 3) (x := h 3 1) (nx := 12) (r1 := 2) (r2 := 1) (r3 := 0) rfl rfl (by decide) rfl ⟨rfl, rfl⟩ rfl rfl ?_
    refine wi_icmp (cd := .ge) (nx := 15) (r1 := 40) (r2 := 0) (r3 := 0) rfl (by omega) (by omega) (fun (q9 : (h 3 1) ≤ x3) => by exfalso; omega) (fun (q9 : ¬ ((h 3 1) ≤ x3)) => ?_)
    refine wi_aload_n (i := 0) (x := 18) (nx := 16) (r1 := 0) (r2 := 0) (r3 := 0) rfl rfl ?_
    refine wr_gr (k0 := 18) (x := 21) (nx := 19) (r1 := 4) (r2 := 3) (r3 := 0) rfl rfl (by decide) rfl ⟨rfl, rfl⟩ rfl ?_
    refine wi_iload_n (i := 1) (e := x3) (nx := 20) (r1 := 0) (r2 := 0) (r3 := 0) rfl rfl ?_
    obtain ⟨i10, ei10⟩ : ∃ q : Nat, x3 = (q : Int) := ⟨(x3).toNat, by omega⟩
    refine wr_aa (k0 := 21) (a := x3) (f := i10) (x := 21 + 8 + 2 * i10) (nx := 21) (r1 := 0) (r2 := 0) (r3 := 0) rfl (by decide) rfl (Or.inl rfl) (by omega) (by omega) (by decide) (hcr.1 21 (by decide) i10 (by omega)) ?_
    obtain ⟨k11, kk11, mk11⟩ : ∃ q, Rw q ∧ q = 21 + 8 + 2 * i10 := ⟨_, rw_lane 21 (by decide) i10 (by omega), rfl⟩
    rw [← mk11]
    have b12 := gi_b (lo := 0) (hi := 12) g k11 1 kk11.2.2.2.1
    refine wr_gi0 (k0 := k11) (x := h k11 1) (nx := 24) (r1 := 5) (r2 := 1) (r3 := 0) rfl rfl kk11.k kk11.1 ⟨rfl, rfl⟩ rfl rfl ?_
    refine wi_aload_n (i := 0) (x := 18) (nx := 25) (r1 := 0) (r2 := 0) (r3 := 0) rfl rfl ?_
    refine wr_gr (k0 := 18) (x := 3) (nx := 28) (r1 := 4) (r2 := 0) (r3 := 0) rfl rfl (by decide) rfl ⟨rfl, rfl⟩ rfl ?_
    refine wr_gr (k0 := 3) (x := 6) (nx := 31) (r1 := 2) (r2 := 12) (r3 := 0) rfl rfl (by decide) rfl ⟨rfl, rfl⟩ rfl ?_
    refine wi_iload_n (i := 1) (e := x3) (nx := 32) (r1 := 0) (r2 := 0) (r3 := 0) rfl rfl ?_
    have b13 := gi_b (lo := -2147483648) (hi := 2147483647) g 6 i10 rfl
    refine wr_ia (k0 := 6) (a := x3) (f := i10) (x := h 6 i10) (nx := 33) (r1 := 0) (r2 := 0) (r3 := 0) rfl (by decide) rfl (by omega) (by omega) (by decide) rfl ?_
    refine wi_icmp (cd := .ge) (nx := 36) (r1 := 40) (r2 := 0) (r3 := 0) rfl (by omega) (by omega) (fun (q14 : (h 6 i10) ≤ (h k11 1)) => ?_) (fun (q14 : ¬ ((h 6 i10) ≤ (h k11 1))) => ?_)
    ·
      refine wi_iconst (n := 0) (nx := 41) (r1 := 0) (r2 := 0) (r3 := 0) rfl ?_
      refine wi_zreturn (nx := 42) (r1 := 0) (r2 := 0) (r3 := 0) rfl rfl (by omega) ?_
      refine wk_i ?_
      refine wi_if (cd := .eq) (nx := 29) (r1 := 83) (r2 := 0) (r3 := 0) rfl (by omega) (fun (q15 : 0 = 0) => ?_) (fun (q15 : ¬ (0 = 0)) => by exfalso; omega)
      refine wr_iinc (i := 4) (n := 1) (v := x3) (fun e16 => [(4, vi e16), (0, .ref 18), (1, vi a0), (2, vi x1), (3, vi x2)]) (nx := 86) (r1 := 0) (r2 := 0) (r3 := 0) rfl rfl (fun _ => rfl) (fun e16 (fe16 : e16 = x3 + 1) => ?_)
      refine wi_goto (nx := 89) (r1 := 8) (r2 := 0) (r3 := 0) rfl ?_
      refine wp.lo (lo := [(0, .ref 18), (1, vi a0), (2, vi x1), (3, vi x2), (4, vi e16)]) ⟨rfl, rfl, rfl, rfl, rfl, trivial⟩ rfl ?_
      exact I4 x1 x2 e16 h ⟨rfl, (show (-1 ≤ x1 ∧ x1 ≤ 3) ∧ (0 ≤ x2 ∧ x2 ≤ 12) ∧ (0 ≤ e16 ∧ e16 ≤ 4) by omega)⟩ (show ((4 : Int) + 1 - e16).toNat < ((4 : Int) + 1 - x3).toNat by omega)
    ·
      refine wi_iconst (n := 1) (nx := 37) (r1 := 0) (r2 := 0) (r3 := 0) rfl ?_
      refine wi_goto (nx := 40) (r1 := 41) (r2 := 0) (r3 := 0) rfl ?_
      refine wi_zreturn (nx := 42) (r1 := 0) (r2 := 0) (r3 := 0) rfl rfl (by omega) ?_
      refine wk_i ?_
      refine wi_if (cd := .eq) (nx := 29) (r1 := 83) (r2 := 0) (r3 := 0) rfl (by omega) (fun (q15 : 1 = 0) => by exfalso; omega) (fun (q15 : ¬ (1 = 0)) => ?_)
      refine wi_aload_n (i := 0) (x := 18) (nx := 30) (r1 := 0) (r2 := 0) (r3 := 0) rfl rfl ?_
      refine wr_gr (k0 := 18) (x := 21) (nx := 33) (r1 := 4) (r2 := 3) (r3 := 0) rfl rfl (by decide) rfl ⟨rfl, rfl⟩ rfl ?_
      refine wi_iload (i := 4) (e := x3) (nx := 35) (r1 := 0) (r2 := 0) (r3 := 0) rfl rfl ?_
      refine wr_aa (k0 := 21) (a := x3) (f := i10) (x := 21 + 8 + 2 * i10) (nx := 36) (r1 := 0) (r2 := 0) (r3 := 0) rfl (by decide) rfl (Or.inl rfl) (by omega) (by omega) (by decide) (hcr.1 21 (by decide) i10 (by omega)) ?_
      obtain ⟨k16, kk16, mk16⟩ : ∃ q, Rw q ∧ q = 21 + 8 + 2 * i10 := ⟨_, rw_lane 21 (by decide) i10 (by omega), rfl⟩
      rw [← mk16]
      have b17 := gi_b (lo := 0) (hi := 12) g k16 1 kk16.2.2.2.1
      refine wr_gi0 (k0 := k16) (x := h k16 1) (nx := 39) (r1 := 5) (r2 := 1) (r3 := 0) rfl rfl kk16.k kk16.1 ⟨rfl, rfl⟩ rfl rfl ?_
      refine wi_istore (i := 5) (e := h k16 1) (lo2 := [(5, vi (h k16 1)), (0, .ref 18), (1, vi a0), (2, vi x1), (3, vi x2), (4, vi x3)]) (nx := 41) (r1 := 0) (r2 := 0) (r3 := 0) rfl rfl ?_
      refine wi_iload (i := 5) (e := h k16 1) (nx := 43) (r1 := 0) (r2 := 0) (r3 := 0) rfl rfl ?_
      refine wi_if (cd := .le) (nx := 46) (r1 := 71) (r2 := 0) (r3 := 0) rfl (by omega) (fun (q18 : (h k16 1) ≤ 0) => ?_) (fun (q18 : ¬ ((h k16 1) ≤ 0)) => ?_)
      ·
        refine wi_iload (i := 5) (e := h k16 1) (nx := 73) (r1 := 0) (r2 := 0) (r3 := 0) rfl rfl ?_
        refine wi_iload_n (i := 3) (e := x2) (nx := 74) (r1 := 0) (r2 := 0) (r3 := 0) rfl rfl ?_
        refine wi_icmp (cd := .ge) (nx := 77) (r1 := 83) (r2 := 0) (r3 := 0) rfl (by omega) (by omega) (fun (q19 : x2 ≤ (h k16 1)) => ?_) (fun (q19 : ¬ (x2 ≤ (h k16 1))) => ?_)
        ·
          refine wr_iinc (i := 4) (n := 1) (v := x3) (fun e20 => [(4, vi e20), (5, vi (h k16 1)), (0, .ref 18), (1, vi a0), (2, vi x1), (3, vi x2)]) (nx := 86) (r1 := 0) (r2 := 0) (r3 := 0) rfl rfl (fun _ => rfl) (fun e20 (fe20 : e20 = x3 + 1) => ?_)
          refine wi_goto (nx := 89) (r1 := 8) (r2 := 0) (r3 := 0) rfl ?_
          refine wp.lo (lo := [(0, .ref 18), (1, vi a0), (2, vi x1), (3, vi x2), (4, vi e20)]) ⟨rfl, rfl, rfl, rfl, rfl, trivial⟩ rfl ?_
          exact I4 x1 x2 e20 h ⟨rfl, (show (-1 ≤ x1 ∧ x1 ≤ 3) ∧ (0 ≤ x2 ∧ x2 ≤ 12) ∧ (0 ≤ e20 ∧ e20 ≤ 4) by omega)⟩ (show ((4 : Int) + 1 - e20).toNat < ((4 : Int) + 1 - x3).toNat by omega)
        ·
          refine wi_iload (i := 5) (e := h k16 1) (nx := 79) (r1 := 0) (r2 := 0) (r3 := 0) rfl rfl ?_
          refine wi_istore_n (i := 3) (e := h k16 1) (lo2 := [(3, vi (h k16 1)), (5, vi (h k16 1)), (0, .ref 18), (1, vi a0), (2, vi x1), (4, vi x3)]) (nx := 80) (r1 := 0) (r2 := 0) (r3 := 0) rfl rfl ?_
          refine wi_iload (i := 4) (e := x3) (nx := 82) (r1 := 0) (r2 := 0) (r3 := 0) rfl rfl ?_
          refine wi_istore_n (i := 2) (e := x3) (lo2 := [(2, vi x3), (3, vi (h k16 1)), (5, vi (h k16 1)), (0, .ref 18), (1, vi a0), (4, vi x3)]) (nx := 83) (r1 := 0) (r2 := 0) (r3 := 0) rfl rfl ?_
          refine wr_iinc (i := 4) (n := 1) (v := x3) (fun e20 => [(4, vi e20), (2, vi x3), (3, vi (h k16 1)), (5, vi (h k16 1)), (0, .ref 18), (1, vi a0)]) (nx := 86) (r1 := 0) (r2 := 0) (r3 := 0) rfl rfl (fun _ => rfl) (fun e20 (fe20 : e20 = x3 + 1) => ?_)
          refine wi_goto (nx := 89) (r1 := 8) (r2 := 0) (r3 := 0) rfl ?_
          refine wp.lo (lo := [(0, .ref 18), (1, vi a0), (2, vi x3), (3, vi (h k16 1)), (4, vi e20)]) ⟨rfl, rfl, rfl, rfl, rfl, trivial⟩ rfl ?_
          exact I4 x3 (h k16 1) e20 h ⟨rfl, (show (-1 ≤ x3 ∧ x3 ≤ 3) ∧ (0 ≤ (h k16 1) ∧ (h k16 1) ≤ 12) ∧ (0 ≤ e20 ∧ e20 ≤ 4) by omega)⟩ (show ((4 : Int) + 1 - e20).toNat < ((4 : Int) + 1 - x3).toNat by omega)
      ·
        refine wi_aload_n (i := 0) (x := 18) (nx := 47) (r1 := 0) (r2 := 0) (r3 := 0) rfl rfl ?_
        refine wi_aload_n (i := 0) (x := 18) (nx := 48) (r1 := 0) (r2 := 0) (r3 := 0) rfl rfl ?_
        refine wr_gr (k0 := 18) (x := 21) (nx := 51) (r1 := 4) (r2 := 3) (r3 := 0) rfl rfl (by decide) rfl ⟨rfl, rfl⟩ rfl ?_
        refine wi_iload (i := 4) (e := x3) (nx := 53) (r1 := 0) (r2 := 0) (r3 := 0) rfl rfl ?_
        refine wr_aa (k0 := 21) (a := x3) (f := i10) (x := 21 + 8 + 2 * i10) (nx := 54) (r1 := 0) (r2 := 0) (r3 := 0) rfl (by decide) rfl (Or.inl rfl) (by omega) (by omega) (by decide) (hcr.1 21 (by decide) i10 (by omega)) ?_
        obtain ⟨k19, kk19, mk19⟩ : ∃ q, Rw q ∧ q = 21 + 8 + 2 * i10 := ⟨_, rw_lane 21 (by decide) i10 (by omega), rfl⟩
        rw [← mk19]
        refine wr_V (k0 := k19) (rest := [.ref 18]) (as := [.ref k19]) (nx := 57) (r1 := 156) (r2 := 0) (r3 := 5) rfl rfl rfl (of_decide_eq_true rfl) rfl rfl kk19.k kk19.1 rfl (of_decide_eq_true rfl) (of_decide_eq_true rfl) ?_
        refine ct_156_R hcr kk19 g    (fun z21  (fz21 : -2147483648 ≤ z21 ∧ z21 ≤ 2147483647) => ?_)
        refine wk_i ?_
        refine wr_V (k0 := 18) (rest := []) (as := [.ref 18, vi z21]) (nx := 60) (r1 := 131) (r2 := 1) (r3 := 4) rfl rfl rfl (of_decide_eq_true rfl) rfl rfl (by decide) rfl rfl (of_decide_eq_true rfl) (of_decide_eq_true rfl) ?_
        refine ct_131_18 hcr  g z21 (by omega)  (fun z23  (fz23 : -2147483648 ≤ z23 ∧ z23 ≤ 2147483647) => ?_)
        refine wk_i ?_
        refine wi_aload_n (i := 0) (x := 18) (nx := 61) (r1 := 0) (r2 := 0) (r3 := 0) rfl rfl ?_
        refine wi_iload_n (i := 1) (e := a0) (nx := 62) (r1 := 0) (r2 := 0) (r3 := 0) rfl rfl ?_
        refine wr_V (k0 := 18) (rest := [vi z23]) (as := [.ref 18, vi a0]) (nx := 65) (r1 := 131) (r2 := 1) (r3 := 4) rfl rfl rfl (of_decide_eq_true rfl) rfl rfl (by decide) rfl rfl (of_decide_eq_true rfl) (of_decide_eq_true rfl) ?_
        refine ct_131_18 hcr  g a0 (by omega)  (fun z25  (fz25 : -2147483648 ≤ z25 ∧ z25 ≤ 2147483647) => ?_)
        refine wk_i ?_
        refine wi_icmp (cd := .ne) (nx := 68) (r1 := 71) (r2 := 0) (r3 := 0) rfl (by omega) (by omega) (fun (q26 : z23 ≠ z25) => ?_) (fun (q26 : ¬ (z23 ≠ z25)) => ?_)
        ·
          refine wi_iload (i := 5) (e := h k16 1) (nx := 73) (r1 := 0) (r2 := 0) (r3 := 0) rfl rfl ?_
          refine wi_iload_n (i := 3) (e := x2) (nx := 74) (r1 := 0) (r2 := 0) (r3 := 0) rfl rfl ?_
          refine wi_icmp (cd := .ge) (nx := 77) (r1 := 83) (r2 := 0) (r3 := 0) rfl (by omega) (by omega) (fun (q27 : x2 ≤ (h k16 1)) => ?_) (fun (q27 : ¬ (x2 ≤ (h k16 1))) => ?_)
          ·
            refine wr_iinc (i := 4) (n := 1) (v := x3) (fun e28 => [(4, vi e28), (5, vi (h k16 1)), (0, .ref 18), (1, vi a0), (2, vi x1), (3, vi x2)]) (nx := 86) (r1 := 0) (r2 := 0) (r3 := 0) rfl rfl (fun _ => rfl) (fun e28 (fe28 : e28 = x3 + 1) => ?_)
            refine wi_goto (nx := 89) (r1 := 8) (r2 := 0) (r3 := 0) rfl ?_
            refine wp.lo (lo := [(0, .ref 18), (1, vi a0), (2, vi x1), (3, vi x2), (4, vi e28)]) ⟨rfl, rfl, rfl, rfl, rfl, trivial⟩ rfl ?_
            exact I4 x1 x2 e28 h ⟨rfl, (show (-1 ≤ x1 ∧ x1 ≤ 3) ∧ (0 ≤ x2 ∧ x2 ≤ 12) ∧ (0 ≤ e28 ∧ e28 ≤ 4) by omega)⟩ (show ((4 : Int) + 1 - e28).toNat < ((4 : Int) + 1 - x3).toNat by omega)
          ·
            refine wi_iload (i := 5) (e := h k16 1) (nx := 79) (r1 := 0) (r2 := 0) (r3 := 0) rfl rfl ?_
            refine wi_istore_n (i := 3) (e := h k16 1) (lo2 := [(3, vi (h k16 1)), (5, vi (h k16 1)), (0, .ref 18), (1, vi a0), (2, vi x1), (4, vi x3)]) (nx := 80) (r1 := 0) (r2 := 0) (r3 := 0) rfl rfl ?_
            refine wi_iload (i := 4) (e := x3) (nx := 82) (r1 := 0) (r2 := 0) (r3 := 0) rfl rfl ?_
            refine wi_istore_n (i := 2) (e := x3) (lo2 := [(2, vi x3), (3, vi (h k16 1)), (5, vi (h k16 1)), (0, .ref 18), (1, vi a0), (4, vi x3)]) (nx := 83) (r1 := 0) (r2 := 0) (r3 := 0) rfl rfl ?_
            refine wr_iinc (i := 4) (n := 1) (v := x3) (fun e28 => [(4, vi e28), (2, vi x3), (3, vi (h k16 1)), (5, vi (h k16 1)), (0, .ref 18), (1, vi a0)]) (nx := 86) (r1 := 0) (r2 := 0) (r3 := 0) rfl rfl (fun _ => rfl) (fun e28 (fe28 : e28 = x3 + 1) => ?_)
            refine wi_goto (nx := 89) (r1 := 8) (r2 := 0) (r3 := 0) rfl ?_
            refine wp.lo (lo := [(0, .ref 18), (1, vi a0), (2, vi x3), (3, vi (h k16 1)), (4, vi e28)]) ⟨rfl, rfl, rfl, rfl, rfl, trivial⟩ rfl ?_
            exact I4 x3 (h k16 1) e28 h ⟨rfl, (show (-1 ≤ x3 ∧ x3 ≤ 3) ∧ (0 ≤ (h k16 1) ∧ (h k16 1) ≤ 12) ∧ (0 ≤ e28 ∧ e28 ≤ 4) by omega)⟩ (show ((4 : Int) + 1 - e28).toNat < ((4 : Int) + 1 - x3).toNat by omega)
        ·
          refine wi_iload (i := 4) (e := x3) (nx := 70) (r1 := 0) (r2 := 0) (r3 := 0) rfl rfl ?_
          refine wi_ireturn (nx := 71) (r1 := 0) (r2 := 0) (r3 := 0) rfl rfl ?_
          exact k x3 (by omega)
-- method 86: Bank.laneFor(I)I
set_option maxRecDepth 100000 in
set_option maxHeartbeats 100000000 in
theorem ct_86_0 {L : Nat} {xs : Nat → Int32} {d b c : Nat} {h : hp} {cr : Nat → Nat → Option Nat} {Q : hp_Q} (hcr : CR cr) (hr : 1 ≤ b ∧ 6 ≤ c)  (g : GI h) (a0 : Int) (q0_ : -2147483648 ≤ a0 ∧ a0 ≤ 2147483647)  (k : ∀ (z0 : Int), (-1 ≤ z0 ∧ z0 ≤ 3) → Q (.inl (some (vi z0))) (hp_w h cr) b c) (kx2 : Q (.inr 2) (hp_w h cr) (b - 1) (c - 6)) : wp (md_xa (L, xs)) (d + 2) 86 (0, [(0, .ref 0), (1, vi a0)], [], hp_w h cr, b, c) Q := by
  have F0 : FR [] h h := FR.refl
  refine wi_aload_n (i := 0) (x := 0) (nx := 1) (r1 := 0) (r2 := 0) (r3 := 0) rfl rfl ?_
  refine wi_iload_n (i := 1) (e := a0) (nx := 2) (r1 := 0) (r2 := 0) (r3 := 0) rfl rfl ?_
  refine wr_V (k0 := 0) (rest := []) (as := [.ref 0, vi a0]) (nx := 5) (r1 := 70) (r2 := 1) (r3 := 0) rfl rfl rfl (of_decide_eq_true rfl) rfl rfl (by decide) rfl rfl (of_decide_eq_true rfl) (of_decide_eq_true rfl) ?_
  refine wi_iload_n (i := 1) (e := a0) (nx := 1) (r1 := 0) (r2 := 0) (r3 := 0) rfl rfl ?_
  refine wi_if (cd := .lt) (nx := 4) (r1 := 15) (r2 := 0) (r3 := 0) rfl (by omega) (fun (q1 : a0 < 0) => ?_) (fun (q1 : ¬ (a0 < 0)) => ?_)
  ·
    refine wr_throw (Ex := 2) (nx := 18) (r1 := 2) (r2 := 0) (r3 := 1) rfl (by decide) rfl hr (by decide) ?_
    refine wk_x rfl ?_
    exact kx2
  ·
    refine wi_iload_n (i := 1) (e := a0) (nx := 5) (r1 := 0) (r2 := 0) (r3 := 0) rfl rfl ?_
    refine wi_aload_n (i := 0) (x := 0) (nx := 6) (r1 := 0) (r2 := 0) (r3 := 0) rfl rfl ?_
    refine wr_gr (k0 := 0) (x := 3) (nx := 9) (r1 := 0) (r2 := 1) (r3 := 0) rfl rfl (by decide) rfl ⟨rfl, rfl⟩ rfl ?_
    have b2 := gi_b (lo := 0) (hi := 12) g 3 2 rfl
    refine wr_gi0 (k0 := 3) (x := h 3 2) (nx := 12) (r1 := 2) (r2 := 2) (r3 := 0) rfl rfl (by decide) rfl ⟨rfl, rfl⟩ rfl rfl ?_
    refine wi_icmp (cd := .lt) (nx := 15) (r1 := 26) (r2 := 0) (r3 := 0) rfl (by omega) (by omega) (fun (q3 : a0 < (h 3 2)) => ?_) (fun (q3 : ¬ (a0 < (h 3 2))) => ?_)
    ·
      refine wi_return (nx := 27) (r1 := 0) (r2 := 0) (r3 := 0) rfl rfl ?_
      refine wk_n ?_
      refine wi_aload_n (i := 0) (x := 0) (nx := 6) (r1 := 0) (r2 := 0) (r3 := 0) rfl rfl ?_
      refine wr_gr (k0 := 0) (x := 18) (nx := 9) (r1 := 0) (r2 := 3) (r3 := 0) rfl rfl (by decide) rfl ⟨rfl, rfl⟩ rfl ?_
      refine wi_iload_n (i := 1) (e := a0) (nx := 10) (r1 := 0) (r2 := 0) (r3 := 0) rfl rfl ?_
      refine wr_V (k0 := 18) (rest := []) (as := [.ref 18, vi a0]) (nx := 13) (r1 := 136) (r2 := 1) (r3 := 4) rfl rfl rfl (of_decide_eq_true rfl) rfl rfl (by decide) rfl rfl (of_decide_eq_true rfl) (of_decide_eq_true rfl) ?_
      refine ct_136_18 hcr  g a0 (by omega)  (fun z5  (fz5 : -1 ≤ z5 ∧ z5 ≤ 3) => ?_)
      refine wk_i ?_
      refine wi_ireturn (nx := 14) (r1 := 0) (r2 := 0) (r3 := 0) rfl rfl ?_
      exact k z5 (by omega)
    ·
      refine wr_throw (Ex := 2) (nx := 18) (r1 := 2) (r2 := 0) (r3 := 1) rfl (by decide) rfl hr (by decide) ?_
      refine wk_x rfl ?_
      exact kx2
