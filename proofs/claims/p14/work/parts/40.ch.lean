-- method 132: Line.copyFrom(LPaintBank$Line;)V
set_option maxRecDepth 100000 in
set_option maxHeartbeats 100000000 in
theorem ct_132_18_132 {L : Nat} {xs : Nat → Int32} {d b c : Nat} {h : hp} {cr : Nat → Nat → Option Nat} {Q : hp_Q} (hcr : CR cr)  (g : GI h)   (pp0 : h 18 16 ≤ 2000000000) (k : ∀ (h2 : hp) , GI h2 → FR [(19, 19, none), (20, 20, none), (22, 23, none), (24, 25, none), (26, 27, none), (28, 28, none), (29, 36, none), (18, 18, some (7, 13)), (18, 18, some (15, 16))] h h2 → (h2 18 16 = h 18 16 + 1) → (∀ i : Nat, i < 12 → h2 19 i = h 133 i) → Q (.inl none) (hp_w h2 cr) b c) : wp (md_xa (L, xs)) (d + 1) 132 (0, [(0, .ref 18), (1, .ref 132)], [], hp_w h cr, b, c) Q := by
  have F0 : FR [(19, 19, none), (20, 20, none), (22, 23, none), (24, 25, none), (26, 27, none), (28, 28, none), (29, 36, none), (18, 18, some (7, 13)), (18, 18, some (15, 16))] h h := FR.refl
  have b1 := gi_b (lo := -2147483648) (hi := 2147483647) g 18 16 rfl
  refine wi_aload_n (i := 1) (x := 132) (nx := 1) (r1 := 0) (r2 := 0) (r3 := 0) rfl rfl ?_
  refine wr_gr (k0 := 132) (x := 133) (nx := 4) (r1 := 4) (r2 := 1) (r3 := 0) rfl rfl (by decide) rfl ⟨rfl, rfl⟩ rfl ?_
  refine wi_iconst (n := 0) (nx := 5) (r1 := 0) (r2 := 0) (r3 := 0) rfl ?_
  refine wi_aload_n (i := 0) (x := 18) (nx := 6) (r1 := 0) (r2 := 0) (r3 := 0) rfl rfl ?_
  refine wr_gr (k0 := 18) (x := 19) (nx := 9) (r1 := 4) (r2 := 1) (r3 := 0) rfl rfl (by decide) rfl ⟨rfl, rfl⟩ rfl ?_
  refine wi_iconst (n := 0) (nx := 10) (r1 := 0) (r2 := 0) (r3 := 0) rfl ?_
  refine wi_bipush (n := 12) (nx := 12) (r1 := 0) (r2 := 0) (r3 := 0) rfl (by decide) ?_
  refine wr_cpy (s0 := 133) (d0 := 19) (n0 := 12) (n1 := 12) (sp := 0) (dp := 0) (n := 12) (sl := -2147483648) (sh := 2147483647) (dl := -2147483648) (dh := 2147483647) (nx := 15) (r1 := 0) (r2 := 101) (r3 := 0) rfl rfl (of_decide_eq_true rfl) (by decide) (by decide) rfl rfl (by omega) (fun _ => rfl) (fun _ => rfl) (by omega) g (fun h2 g2 y2 u2 => ?_)
  have F3 := F0.then rfl u2
  refine wi_aload_n (i := 1) (x := 132) (nx := 16) (r1 := 0) (r2 := 0) (r3 := 0) rfl rfl ?_
  refine wr_gr (k0 := 132) (x := 134) (nx := 19) (r1 := 4) (r2 := 2) (r3 := 0) rfl rfl (by decide) rfl ⟨rfl, rfl⟩ rfl ?_
  refine wi_iconst (n := 0) (nx := 20) (r1 := 0) (r2 := 0) (r3 := 0) rfl ?_
  refine wi_aload_n (i := 0) (x := 18) (nx := 21) (r1 := 0) (r2 := 0) (r3 := 0) rfl rfl ?_
  refine wr_gr (k0 := 18) (x := 20) (nx := 24) (r1 := 4) (r2 := 2) (r3 := 0) rfl rfl (by decide) rfl ⟨rfl, rfl⟩ rfl ?_
  refine wi_iconst (n := 0) (nx := 25) (r1 := 0) (r2 := 0) (r3 := 0) rfl ?_
  refine wi_bipush (n := 12) (nx := 27) (r1 := 0) (r2 := 0) (r3 := 0) rfl (by decide) ?_
  refine wr_cpy (s0 := 134) (d0 := 20) (n0 := 12) (n1 := 12) (sp := 0) (dp := 0) (n := 12) (sl := -2147483648) (sh := 2147483647) (dl := -2147483648) (dh := 2147483647) (nx := 30) (r1 := 0) (r2 := 101) (r3 := 0) rfl rfl (of_decide_eq_true rfl) (by decide) (by decide) rfl rfl (by omega) (fun _ => rfl) (fun _ => rfl) (by omega) g2 (fun h4 g4 y4 u4 => ?_)
  have F5 := F3.then rfl u4
  refine wi_iconst (n := 0) (nx := 31) (r1 := 0) (r2 := 0) (r3 := 0) rfl ?_
  refine wi_istore_n (i := 2) (e := 0) (lo2 := [(2, vi 0), (0, .ref 18), (1, .ref 132)]) (nx := 32) (r1 := 0) (r2 := 0) (r3 := 0) rfl rfl ?_
  refine wp.lo (lo := [(0, .ref 18), (1, .ref 132), (2, vi 0)]) ⟨rfl, rfl, rfl, trivial⟩ rfl ?_
  refine wl_1 (fun x6 h7 => GI h7 ∧ FR [(19, 19, none), (20, 20, none), (22, 23, none), (24, 25, none), (26, 27, none), (28, 28, none), (29, 36, none), (18, 18, some (7, 13)), (18, 18, some (15, 16))] h h7 ∧ FR [(29, 36, none)] h4 h7 ∧ ((0 ≤ x6 ∧ x6 ≤ 4))) (fun x6 h7 => ((4 : Int) + 1 - x6).toNat) (fun x6 h7 => (32, [(0, .ref 18), (1, .ref 132), (2, vi x6)], [], hp_w h7 cr, b, c)) ?_ 0 h4 ⟨g4, F5, FR.refl, (show (0 ≤ 0 ∧ 0 ≤ 4) by omega)⟩
  intro x6 h7 ⟨g7, F8, u7, f7⟩ I7
  refine wi_iload_n (i := 2) (e := x6) (nx := 33) (r1 := 0) (r2 := 0) (r3 := 0) rfl rfl ?_
  refine wi_iconst (n := 4) (nx := 34) (r1 := 0) (r2 := 0) (r3 := 0) rfl ?_
  refine wi_icmp (cd := .ge) (nx := 37) (r1 := 58) (r2 := 0) (r3 := 0) rfl (by omega) (by omega) (fun (q9 : 4 ≤ x6) => ?_) (fun (q9 : ¬ (4 ≤ x6)) => ?_)
  ·
    refine wi_aload_n (i := 0) (x := 18) (nx := 59) (r1 := 0) (r2 := 0) (r3 := 0) rfl rfl ?_
    refine wr_gr (k0 := 18) (x := 22) (nx := 62) (r1 := 4) (r2 := 4) (r3 := 0) rfl rfl (by decide) rfl ⟨rfl, rfl⟩ rfl ?_
    refine wi_aload_n (i := 1) (x := 132) (nx := 63) (r1 := 0) (r2 := 0) (r3 := 0) rfl rfl ?_
    refine wr_gr (k0 := 132) (x := 136) (nx := 66) (r1 := 4) (r2 := 4) (r3 := 0) rfl rfl (by decide) rfl ⟨rfl, rfl⟩ rfl ?_
    refine wr_V (k0 := 22) (rest := []) (as := [.ref 22, .ref 136]) (nx := 69) (r1 := 155) (r2 := 1) (r3 := 5) rfl rfl rfl (of_decide_eq_true rfl) rfl rfl (by decide) rfl rfl (of_decide_eq_true rfl) (of_decide_eq_true rfl) ?_
    refine ct_155_R_R hcr rw_22 rw_136 g7    (fun h10 g10 u10 => ?_)
    have F11 := F8.then rfl u10
    refine wk_n ?_
    refine wi_aload_n (i := 0) (x := 18) (nx := 70) (r1 := 0) (r2 := 0) (r3 := 0) rfl rfl ?_
    refine wr_gr (k0 := 18) (x := 24) (nx := 73) (r1 := 4) (r2 := 5) (r3 := 0) rfl rfl (by decide) rfl ⟨rfl, rfl⟩ rfl ?_
    refine wi_aload_n (i := 1) (x := 132) (nx := 74) (r1 := 0) (r2 := 0) (r3 := 0) rfl rfl ?_
    refine wr_gr (k0 := 132) (x := 138) (nx := 77) (r1 := 4) (r2 := 5) (r3 := 0) rfl rfl (by decide) rfl ⟨rfl, rfl⟩ rfl ?_
    refine wr_V (k0 := 24) (rest := []) (as := [.ref 24, .ref 138]) (nx := 80) (r1 := 155) (r2 := 1) (r3 := 5) rfl rfl rfl (of_decide_eq_true rfl) rfl rfl (by decide) rfl rfl (of_decide_eq_true rfl) (of_decide_eq_true rfl) ?_
    refine ct_155_R_R hcr rw_24 rw_138 g10    (fun h12 g12 u12 => ?_)
    have F13 := F11.then rfl u12
    refine wk_n ?_
    refine wi_aload_n (i := 0) (x := 18) (nx := 81) (r1 := 0) (r2 := 0) (r3 := 0) rfl rfl ?_
    refine wr_gr (k0 := 18) (x := 26) (nx := 84) (r1 := 4) (r2 := 6) (r3 := 0) rfl rfl (by decide) rfl ⟨rfl, rfl⟩ rfl ?_
    refine wi_aload_n (i := 1) (x := 132) (nx := 85) (r1 := 0) (r2 := 0) (r3 := 0) rfl rfl ?_
    refine wr_gr (k0 := 132) (x := 140) (nx := 88) (r1 := 4) (r2 := 6) (r3 := 0) rfl rfl (by decide) rfl ⟨rfl, rfl⟩ rfl ?_
    refine wr_V (k0 := 26) (rest := []) (as := [.ref 26, .ref 140]) (nx := 91) (r1 := 155) (r2 := 1) (r3 := 5) rfl rfl rfl (of_decide_eq_true rfl) rfl rfl (by decide) rfl rfl (of_decide_eq_true rfl) (of_decide_eq_true rfl) ?_
    refine ct_155_R_R hcr rw_26 rw_140 g12    (fun h14 g14 u14 => ?_)
    have F15 := F13.then rfl u14
    refine wk_n ?_
    refine wi_aload_n (i := 0) (x := 18) (nx := 92) (r1 := 0) (r2 := 0) (r3 := 0) rfl rfl ?_
    refine wi_aload_n (i := 1) (x := 132) (nx := 93) (r1 := 0) (r2 := 0) (r3 := 0) rfl rfl ?_
    have b16 := gi_b (lo := 0) (hi := 12) g 132 7 rfl
    refine wr_gi0 (k0 := 132) (x := h 132 7) (nx := 96) (r1 := 4) (r2 := 7) (r3 := 0) rfl rfl (by decide) rfl ⟨rfl, rfl⟩ rfl ((u14 132 7 rfl).trans ((u12 132 7 rfl).trans ((u10 132 7 rfl).trans ((u7 132 7 rfl).trans ((u4 132 7 rfl).trans (u2 132 7 rfl)))))) ?_
    refine wr_pf0 (k0 := 18) (x := h 132 7) (bl := 0) (bh := 12) (nx := 99) (r1 := 4) (r2 := 7) (r3 := 0) rfl (by decide) rfl ⟨rfl, rfl⟩ rfl rfl g14 rfl (by omega) (fun h17 g17 w17 u17 => ?_)
    have F18 := F15.then rfl u17
    refine wi_aload_n (i := 0) (x := 18) (nx := 100) (r1 := 0) (r2 := 0) (r3 := 0) rfl rfl ?_
    refine wi_aload_n (i := 1) (x := 132) (nx := 101) (r1 := 0) (r2 := 0) (r3 := 0) rfl rfl ?_
    have b19 := gi_b (lo := -2147483648) (hi := 2147483647) g 132 8 rfl
    refine wr_gi0 (k0 := 132) (x := h 132 8) (nx := 104) (r1 := 4) (r2 := 8) (r3 := 0) rfl rfl (by decide) rfl ⟨rfl, rfl⟩ rfl ((u17 132 8 rfl).trans ((u14 132 8 rfl).trans ((u12 132 8 rfl).trans ((u10 132 8 rfl).trans ((u7 132 8 rfl).trans ((u4 132 8 rfl).trans (u2 132 8 rfl))))))) ?_
    refine wr_pf0 (k0 := 18) (x := h 132 8) (bl := -2147483648) (bh := 2147483647) (nx := 107) (r1 := 4) (r2 := 8) (r3 := 0) rfl (by decide) rfl ⟨rfl, rfl⟩ rfl rfl g17 rfl (by omega) (fun h20 g20 w20 u20 => ?_)
    have F21 := F18.then rfl u20
    refine wi_aload_n (i := 0) (x := 18) (nx := 108) (r1 := 0) (r2 := 0) (r3 := 0) rfl rfl ?_
    refine wi_aload_n (i := 1) (x := 132) (nx := 109) (r1 := 0) (r2 := 0) (r3 := 0) rfl rfl ?_
    have b22 := gi_b (lo := -2147483648) (hi := 2147483647) g 132 9 rfl
    refine wr_gi0 (k0 := 132) (x := h 132 9) (nx := 112) (r1 := 4) (r2 := 9) (r3 := 0) rfl rfl (by decide) rfl ⟨rfl, rfl⟩ rfl ((u20 132 9 rfl).trans ((u17 132 9 rfl).trans ((u14 132 9 rfl).trans ((u12 132 9 rfl).trans ((u10 132 9 rfl).trans ((u7 132 9 rfl).trans ((u4 132 9 rfl).trans (u2 132 9 rfl)))))))) ?_
    refine wr_pf0 (k0 := 18) (x := h 132 9) (bl := -2147483648) (bh := 2147483647) (nx := 115) (r1 := 4) (r2 := 9) (r3 := 0) rfl (by decide) rfl ⟨rfl, rfl⟩ rfl rfl g20 rfl (by omega) (fun h23 g23 w23 u23 => ?_)
    have F24 := F21.then rfl u23
    refine wi_aload_n (i := 0) (x := 18) (nx := 116) (r1 := 0) (r2 := 0) (r3 := 0) rfl rfl ?_
    refine wi_aload_n (i := 1) (x := 132) (nx := 117) (r1 := 0) (r2 := 0) (r3 := 0) rfl rfl ?_
    have b25 := gi_b (lo := -2147483648) (hi := 2147483647) g 132 10 rfl
    refine wr_gi0 (k0 := 132) (x := h 132 10) (nx := 120) (r1 := 4) (r2 := 10) (r3 := 0) rfl rfl (by decide) rfl ⟨rfl, rfl⟩ rfl ((u23 132 10 rfl).trans ((u20 132 10 rfl).trans ((u17 132 10 rfl).trans ((u14 132 10 rfl).trans ((u12 132 10 rfl).trans ((u10 132 10 rfl).trans ((u7 132 10 rfl).trans ((u4 132 10 rfl).trans (u2 132 10 rfl))))))))) ?_
    refine wr_pf0 (k0 := 18) (x := h 132 10) (bl := -2147483648) (bh := 2147483647) (nx := 123) (r1 := 4) (r2 := 10) (r3 := 0) rfl (by decide) rfl ⟨rfl, rfl⟩ rfl rfl g23 rfl (by omega) (fun h26 g26 w26 u26 => ?_)
    have F27 := F24.then rfl u26
    refine wi_aload_n (i := 0) (x := 18) (nx := 124) (r1 := 0) (r2 := 0) (r3 := 0) rfl rfl ?_
    refine wi_aload_n (i := 1) (x := 132) (nx := 125) (r1 := 0) (r2 := 0) (r3 := 0) rfl rfl ?_
    have b28 := gi_b (lo := -2147483648) (hi := 2147483647) g 132 11 rfl
    refine wr_gi0 (k0 := 132) (x := h 132 11) (nx := 128) (r1 := 4) (r2 := 11) (r3 := 0) rfl rfl (by decide) rfl ⟨rfl, rfl⟩ rfl ((u26 132 11 rfl).trans ((u23 132 11 rfl).trans ((u20 132 11 rfl).trans ((u17 132 11 rfl).trans ((u14 132 11 rfl).trans ((u12 132 11 rfl).trans ((u10 132 11 rfl).trans ((u7 132 11 rfl).trans ((u4 132 11 rfl).trans (u2 132 11 rfl)))))))))) ?_
    refine wr_pf0 (k0 := 18) (x := h 132 11) (bl := -2147483648) (bh := 2147483647) (nx := 131) (r1 := 4) (r2 := 11) (r3 := 0) rfl (by decide) rfl ⟨rfl, rfl⟩ rfl rfl g26 rfl (by omega) (fun h29 g29 w29 u29 => ?_)
    have F30 := F27.then rfl u29
    refine wi_aload_n (i := 0) (x := 18) (nx := 132) (r1 := 0) (r2 := 0) (r3 := 0) rfl rfl ?_
    refine wi_aload_n (i := 1) (x := 132) (nx := 133) (r1 := 0) (r2 := 0) (r3 := 0) rfl rfl ?_
    have b31 := gi_b (lo := -2147483648) (hi := 2147483647) g 132 12 rfl
    refine wr_gi0 (k0 := 132) (x := h 132 12) (nx := 136) (r1 := 4) (r2 := 12) (r3 := 0) rfl rfl (by decide) rfl ⟨rfl, rfl⟩ rfl ((u29 132 12 rfl).trans ((u26 132 12 rfl).trans ((u23 132 12 rfl).trans ((u20 132 12 rfl).trans ((u17 132 12 rfl).trans ((u14 132 12 rfl).trans ((u12 132 12 rfl).trans ((u10 132 12 rfl).trans ((u7 132 12 rfl).trans ((u4 132 12 rfl).trans (u2 132 12 rfl))))))))))) ?_
    refine wr_pf0 (k0 := 18) (x := h 132 12) (bl := -2147483648) (bh := 2147483647) (nx := 139) (r1 := 4) (r2 := 12) (r3 := 0) rfl (by decide) rfl ⟨rfl, rfl⟩ rfl rfl g29 rfl (by omega) (fun h32 g32 w32 u32 => ?_)
    have F33 := F30.then rfl u32
    refine wi_aload_n (i := 0) (x := 18) (nx := 140) (r1 := 0) (r2 := 0) (r3 := 0) rfl rfl ?_
    refine wi_aload_n (i := 1) (x := 132) (nx := 141) (r1 := 0) (r2 := 0) (r3 := 0) rfl rfl ?_
    have b34 := gi_b (lo := -2147483648) (hi := 2147483647) g 132 13 rfl
    refine wr_gi0 (k0 := 132) (x := h 132 13) (nx := 144) (r1 := 4) (r2 := 13) (r3 := 0) rfl rfl (by decide) rfl ⟨rfl, rfl⟩ rfl ((u32 132 13 rfl).trans ((u29 132 13 rfl).trans ((u26 132 13 rfl).trans ((u23 132 13 rfl).trans ((u20 132 13 rfl).trans ((u17 132 13 rfl).trans ((u14 132 13 rfl).trans ((u12 132 13 rfl).trans ((u10 132 13 rfl).trans ((u7 132 13 rfl).trans ((u4 132 13 rfl).trans (u2 132 13 rfl)))))))))))) ?_
    refine wr_pf0 (k0 := 18) (x := h 132 13) (bl := -2147483648) (bh := 2147483647) (nx := 147) (r1 := 4) (r2 := 13) (r3 := 0) rfl (by decide) rfl ⟨rfl, rfl⟩ rfl rfl g32 rfl (by omega) (fun h35 g35 w35 u35 => ?_)
    have F36 := F33.then rfl u35
    refine wi_aload_n (i := 1) (x := 132) (nx := 148) (r1 := 0) (r2 := 0) (r3 := 0) rfl rfl ?_
    refine wr_gr (k0 := 132) (x := 142) (nx := 151) (r1 := 4) (r2 := 14) (r3 := 0) rfl rfl (by decide) rfl ⟨rfl, rfl⟩ rfl ?_
    refine wi_iconst (n := 0) (nx := 152) (r1 := 0) (r2 := 0) (r3 := 0) rfl ?_
    refine wi_aload_n (i := 0) (x := 18) (nx := 153) (r1 := 0) (r2 := 0) (r3 := 0) rfl rfl ?_
    refine wr_gr (k0 := 18) (x := 28) (nx := 156) (r1 := 4) (r2 := 14) (r3 := 0) rfl rfl (by decide) rfl ⟨rfl, rfl⟩ rfl ?_
    refine wi_iconst (n := 0) (nx := 157) (r1 := 0) (r2 := 0) (r3 := 0) rfl ?_
    refine wi_aload_n (i := 0) (x := 18) (nx := 158) (r1 := 0) (r2 := 0) (r3 := 0) rfl rfl ?_
    refine wr_gr (k0 := 18) (x := 28) (nx := 161) (r1 := 4) (r2 := 14) (r3 := 0) rfl rfl (by decide) rfl ⟨rfl, rfl⟩ rfl ?_
    refine wr_al (k0 := 28) (e := 144) (nx := 162) (r1 := 0) (r2 := 0) (r3 := 0) rfl (by decide) rfl rfl ?_
    refine wr_cpy (s0 := 142) (d0 := 28) (n0 := 144) (n1 := 144) (sp := 0) (dp := 0) (n := 144) (sl := -2147483648) (sh := 2147483647) (dl := -2147483648) (dh := 2147483647) (nx := 165) (r1 := 0) (r2 := 101) (r3 := 0) rfl rfl (of_decide_eq_true rfl) (by decide) (by decide) rfl rfl (by omega) (fun _ => rfl) (fun _ => rfl) (by omega) g35 (fun h37 g37 y37 u37 => ?_)
    have F38 := F36.then rfl u37
    refine wi_aload_n (i := 0) (x := 18) (nx := 166) (r1 := 0) (r2 := 0) (r3 := 0) rfl rfl ?_
    refine wi_aload_n (i := 1) (x := 132) (nx := 167) (r1 := 0) (r2 := 0) (r3 := 0) rfl rfl ?_
    have b39 := gi_b (lo := 0) (hi := 36) g 132 15 rfl
    refine wr_gi0 (k0 := 132) (x := h 132 15) (nx := 170) (r1 := 4) (r2 := 15) (r3 := 0) rfl rfl (by decide) rfl ⟨rfl, rfl⟩ rfl ((u37 132 15 rfl).trans ((u35 132 15 rfl).trans ((u32 132 15 rfl).trans ((u29 132 15 rfl).trans ((u26 132 15 rfl).trans ((u23 132 15 rfl).trans ((u20 132 15 rfl).trans ((u17 132 15 rfl).trans ((u14 132 15 rfl).trans ((u12 132 15 rfl).trans ((u10 132 15 rfl).trans ((u7 132 15 rfl).trans ((u4 132 15 rfl).trans (u2 132 15 rfl)))))))))))))) ?_
    refine wr_pf0 (k0 := 18) (x := h 132 15) (bl := 0) (bh := 36) (nx := 173) (r1 := 4) (r2 := 15) (r3 := 0) rfl (by decide) rfl ⟨rfl, rfl⟩ rfl rfl g37 rfl (by omega) (fun h40 g40 w40 u40 => ?_)
    have F41 := F38.then rfl u40
    refine wi_aload_n (i := 0) (x := 18) (nx := 174) (r1 := 0) (r2 := 0) (r3 := 0) rfl rfl ?_
    refine wi_dup (nx := 175) (r1 := 0) (r2 := 0) (r3 := 0) rfl rfl ?_
    refine wr_gi0 (k0 := 18) (x := h 18 16) (nx := 178) (r1 := 4) (r2 := 16) (r3 := 0) rfl rfl (by decide) rfl ⟨rfl, rfl⟩ rfl ((u40 18 16 rfl).trans ((u37 18 16 rfl).trans ((u35 18 16 rfl).trans ((u32 18 16 rfl).trans ((u29 18 16 rfl).trans ((u26 18 16 rfl).trans ((u23 18 16 rfl).trans ((u20 18 16 rfl).trans ((u17 18 16 rfl).trans ((u14 18 16 rfl).trans ((u12 18 16 rfl).trans ((u10 18 16 rfl).trans ((u7 18 16 rfl).trans ((u4 18 16 rfl).trans (u2 18 16 rfl))))))))))))))) ?_
    refine wi_iconst (n := 1) (nx := 179) (r1 := 0) (r2 := 0) (r3 := 0) rfl ?_
    refine wr_add (nx := 180) (r1 := 0) (r2 := 0) (r3 := 0) rfl (fun e42 (fe42 : e42 = (h 18 16) + 1) => ?_)
    refine wr_pf0 (k0 := 18) (x := e42) (bl := -2147483648) (bh := 2147483647) (nx := 183) (r1 := 4) (r2 := 16) (r3 := 0) rfl (by decide) rfl ⟨rfl, rfl⟩ rfl rfl g40 rfl (by omega) (fun h43 g43 w43 u43 => ?_)
    have F44 := F41.then rfl u43
    refine wi_return (nx := 184) (r1 := 0) (r2 := 0) (r3 := 0) rfl rfl ?_
    have e45 : h43 18 16 = e42 := w43
    exact k h43 g43 F44 (show (h43 18 16) = (h 18 16) + 1 by omega) (fun q e => (((u43 19 q (fn_a (by omega) fn_0)).trans ((u40 19 q (fn_a (by omega) fn_0)).trans ((u37 19 q (fn_a (by omega) fn_0)).trans ((u35 19 q (fn_a (by omega) fn_0)).trans ((u32 19 q (fn_a (by omega) fn_0)).trans ((u29 19 q (fn_a (by omega) fn_0)).trans ((u26 19 q (fn_a (by omega) fn_0)).trans ((u23 19 q (fn_a (by omega) fn_0)).trans ((u20 19 q (fn_a (by omega) fn_0)).trans ((u17 19 q (fn_a (by omega) fn_0)).trans ((u14 19 q (fn_a (by omega) fn_0)).trans ((u12 19 q (fn_a (by omega) fn_0)).trans ((u10 19 q (fn_a (by omega) fn_0)).trans ((u7 19 q (fn_a (by omega) fn_0)).trans (u4 19 q (fn_a (by omega) fn_0)))))))))))))))).trans (cy_0 y2 (by omega))))
  ·
    refine wi_aload_n (i := 0) (x := 18) (nx := 38) (r1 := 0) (r2 := 0) (r3 := 0) rfl rfl ?_
    refine wr_gr (k0 := 18) (x := 21) (nx := 41) (r1 := 4) (r2 := 3) (r3 := 0) rfl rfl (by decide) rfl ⟨rfl, rfl⟩ rfl ?_
    refine wi_iload_n (i := 2) (e := x6) (nx := 42) (r1 := 0) (r2 := 0) (r3 := 0) rfl rfl ?_
    obtain ⟨i10, ei10⟩ : ∃ q : Nat, x6 = (q : Int) := ⟨(x6).toNat, by omega⟩
    refine wr_aa (k0 := 21) (a := x6) (f := i10) (x := 21 + 8 + 2 * i10) (nx := 43) (r1 := 0) (r2 := 0) (r3 := 0) rfl (by decide) rfl (Or.inl rfl) (by omega) (by omega) (by decide) (hcr.1 21 (by decide) i10 (by omega)) ?_
    obtain ⟨k11, kk11, mk11⟩ : ∃ q, Rw q ∧ q = 21 + 8 + 2 * i10 := ⟨_, rw_lane 21 (by decide) i10 (by omega), rfl⟩
    rw [← mk11]
    refine wi_aload_n (i := 1) (x := 132) (nx := 44) (r1 := 0) (r2 := 0) (r3 := 0) rfl rfl ?_
    refine wr_gr (k0 := 132) (x := 135) (nx := 47) (r1 := 4) (r2 := 3) (r3 := 0) rfl rfl (by decide) rfl ⟨rfl, rfl⟩ rfl ?_
    refine wi_iload_n (i := 2) (e := x6) (nx := 48) (r1 := 0) (r2 := 0) (r3 := 0) rfl rfl ?_
    refine wr_aa (k0 := 135) (a := x6) (f := i10) (x := 135 + 8 + 2 * i10) (nx := 49) (r1 := 0) (r2 := 0) (r3 := 0) rfl (by decide) rfl (Or.inl rfl) (by omega) (by omega) (by decide) (hcr.1 135 (by decide) i10 (by omega)) ?_
    obtain ⟨k12, kk12, mk12⟩ : ∃ q, Rw q ∧ q = 135 + 8 + 2 * i10 := ⟨_, rw_lane 135 (by decide) i10 (by omega), rfl⟩
    rw [← mk12]
    refine wr_V (k0 := k11) (rest := []) (as := [.ref k11, .ref k12]) (nx := 52) (r1 := 155) (r2 := 1) (r3 := 5) rfl rfl rfl (of_decide_eq_true rfl) rfl rfl kk11.k kk11.1 rfl (of_decide_eq_true rfl) (of_decide_eq_true rfl) ?_
    refine ct_155_R_R hcr kk11 kk12 g7    (fun h13 g13 u13 => ?_)
    have v13 := FR.rngp (lo := 29) (hi := 36) u13 (by omega)
    have F14 := F8.then rfl (FR.rngp (lo := 29) (hi := 36) u13 (by omega))
    have F15 := u7.then rfl (FR.rngp (lo := 29) (hi := 36) u13 (by omega))
    refine wk_n ?_
    refine wr_iinc (i := 2) (n := 1) (v := x6) (fun e16 => [(2, vi e16), (0, .ref 18), (1, .ref 132)]) (nx := 55) (r1 := 0) (r2 := 0) (r3 := 0) rfl rfl (fun _ => rfl) (fun e16 (fe16 : e16 = x6 + 1) => ?_)
    refine wi_goto (nx := 58) (r1 := 32) (r2 := 0) (r3 := 0) rfl ?_
    refine wp.lo (lo := [(0, .ref 18), (1, .ref 132), (2, vi e16)]) ⟨rfl, rfl, rfl, trivial⟩ rfl ?_
    exact I7 e16 h13 ⟨g13, F14, F15, (show (0 ≤ e16 ∧ e16 ≤ 4) by omega)⟩ (show ((4 : Int) + 1 - e16).toNat < ((4 : Int) + 1 - x6).toNat by omega)
-- method 132: Line.copyFrom(LPaintBank$Line;)V
set_option maxRecDepth 100000 in
set_option maxHeartbeats 100000000 in
theorem ct_132_18_151 {L : Nat} {xs : Nat → Int32} {d b c : Nat} {h : hp} {cr : Nat → Nat → Option Nat} {Q : hp_Q} (hcr : CR cr)  (g : GI h)   (pp0 : h 18 16 ≤ 2000000000) (k : ∀ (h2 : hp) , GI h2 → FR [(19, 19, none), (20, 20, none), (22, 23, none), (24, 25, none), (26, 27, none), (28, 28, none), (29, 36, none), (18, 18, some (7, 13)), (18, 18, some (15, 16))] h h2 → (h2 18 16 = h 18 16 + 1) → (∀ i : Nat, i < 12 → h2 19 i = h 152 i) → Q (.inl none) (hp_w h2 cr) b c) : wp (md_xa (L, xs)) (d + 1) 132 (0, [(0, .ref 18), (1, .ref 151)], [], hp_w h cr, b, c) Q := by
  have F0 : FR [(19, 19, none), (20, 20, none), (22, 23, none), (24, 25, none), (26, 27, none), (28, 28, none), (29, 36, none), (18, 18, some (7, 13)), (18, 18, some (15, 16))] h h := FR.refl
  have b1 := gi_b (lo := -2147483648) (hi := 2147483647) g 18 16 rfl
  refine wi_aload_n (i := 1) (x := 151) (nx := 1) (r1 := 0) (r2 := 0) (r3 := 0) rfl rfl ?_
  refine wr_gr (k0 := 151) (x := 152) (nx := 4) (r1 := 4) (r2 := 1) (r3 := 0) rfl rfl (by decide) rfl ⟨rfl, rfl⟩ rfl ?_
  refine wi_iconst (n := 0) (nx := 5) (r1 := 0) (r2 := 0) (r3 := 0) rfl ?_
  refine wi_aload_n (i := 0) (x := 18) (nx := 6) (r1 := 0) (r2 := 0) (r3 := 0) rfl rfl ?_
  refine wr_gr (k0 := 18) (x := 19) (nx := 9) (r1 := 4) (r2 := 1) (r3 := 0) rfl rfl (by decide) rfl ⟨rfl, rfl⟩ rfl ?_
  refine wi_iconst (n := 0) (nx := 10) (r1 := 0) (r2 := 0) (r3 := 0) rfl ?_
  refine wi_bipush (n := 12) (nx := 12) (r1 := 0) (r2 := 0) (r3 := 0) rfl (by decide) ?_
  refine wr_cpy (s0 := 152) (d0 := 19) (n0 := 12) (n1 := 12) (sp := 0) (dp := 0) (n := 12) (sl := -2147483648) (sh := 2147483647) (dl := -2147483648) (dh := 2147483647) (nx := 15) (r1 := 0) (r2 := 101) (r3 := 0) rfl rfl (of_decide_eq_true rfl) (by decide) (by decide) rfl rfl (by omega) (fun _ => rfl) (fun _ => rfl) (by omega) g (fun h2 g2 y2 u2 => ?_)
  have F3 := F0.then rfl u2
  refine wi_aload_n (i := 1) (x := 151) (nx := 16) (r1 := 0) (r2 := 0) (r3 := 0) rfl rfl ?_
  refine wr_gr (k0 := 151) (x := 153) (nx := 19) (r1 := 4) (r2 := 2) (r3 := 0) rfl rfl (by decide) rfl ⟨rfl, rfl⟩ rfl ?_
  refine wi_iconst (n := 0) (nx := 20) (r1 := 0) (r2 := 0) (r3 := 0) rfl ?_
  refine wi_aload_n (i := 0) (x := 18) (nx := 21) (r1 := 0) (r2 := 0) (r3 := 0) rfl rfl ?_
  refine wr_gr (k0 := 18) (x := 20) (nx := 24) (r1 := 4) (r2 := 2) (r3 := 0) rfl rfl (by decide) rfl ⟨rfl, rfl⟩ rfl ?_
  refine wi_iconst (n := 0) (nx := 25) (r1 := 0) (r2 := 0) (r3 := 0) rfl ?_
  refine wi_bipush (n := 12) (nx := 27) (r1 := 0) (r2 := 0) (r3 := 0) rfl (by decide) ?_
  refine wr_cpy (s0 := 153) (d0 := 20) (n0 := 12) (n1 := 12) (sp := 0) (dp := 0) (n := 12) (sl := -2147483648) (sh := 2147483647) (dl := -2147483648) (dh := 2147483647) (nx := 30) (r1 := 0) (r2 := 101) (r3 := 0) rfl rfl (of_decide_eq_true rfl) (by decide) (by decide) rfl rfl (by omega) (fun _ => rfl) (fun _ => rfl) (by omega) g2 (fun h4 g4 y4 u4 => ?_)
  have F5 := F3.then rfl u4
  refine wi_iconst (n := 0) (nx := 31) (r1 := 0) (r2 := 0) (r3 := 0) rfl ?_
  refine wi_istore_n (i := 2) (e := 0) (lo2 := [(2, vi 0), (0, .ref 18), (1, .ref 151)]) (nx := 32) (r1 := 0) (r2 := 0) (r3 := 0) rfl rfl ?_
  refine wp.lo (lo := [(0, .ref 18), (1, .ref 151), (2, vi 0)]) ⟨rfl, rfl, rfl, trivial⟩ rfl ?_
  refine wl_1 (fun x6 h7 => GI h7 ∧ FR [(19, 19, none), (20, 20, none), (22, 23, none), (24, 25, none), (26, 27, none), (28, 28, none), (29, 36, none), (18, 18, some (7, 13)), (18, 18, some (15, 16))] h h7 ∧ FR [(29, 36, none)] h4 h7 ∧ ((0 ≤ x6 ∧ x6 ≤ 4))) (fun x6 h7 => ((4 : Int) + 1 - x6).toNat) (fun x6 h7 => (32, [(0, .ref 18), (1, .ref 151), (2, vi x6)], [], hp_w h7 cr, b, c)) ?_ 0 h4 ⟨g4, F5, FR.refl, (show (0 ≤ 0 ∧ 0 ≤ 4) by omega)⟩
  intro x6 h7 ⟨g7, F8, u7, f7⟩ I7
  refine wi_iload_n (i := 2) (e := x6) (nx := 33) (r1 := 0) (r2 := 0) (r3 := 0) rfl rfl ?_
  refine wi_iconst (n := 4) (nx := 34) (r1 := 0) (r2 := 0) (r3 := 0) rfl ?_
  refine wi_icmp (cd := .ge) (nx := 37) (r1 := 58) (r2 := 0) (r3 := 0) rfl (by omega) (by omega) (fun (q9 : 4 ≤ x6) => ?_) (fun (q9 : ¬ (4 ≤ x6)) => ?_)
  ·
    refine wi_aload_n (i := 0) (x := 18) (nx := 59) (r1 := 0) (r2 := 0) (r3 := 0) rfl rfl ?_
    refine wr_gr (k0 := 18) (x := 22) (nx := 62) (r1 := 4) (r2 := 4) (r3 := 0) rfl rfl (by decide) rfl ⟨rfl, rfl⟩ rfl ?_
    refine wi_aload_n (i := 1) (x := 151) (nx := 63) (r1 := 0) (r2 := 0) (r3 := 0) rfl rfl ?_
    refine wr_gr (k0 := 151) (x := 155) (nx := 66) (r1 := 4) (r2 := 4) (r3 := 0) rfl rfl (by decide) rfl ⟨rfl, rfl⟩ rfl ?_
    refine wr_V (k0 := 22) (rest := []) (as := [.ref 22, .ref 155]) (nx := 69) (r1 := 155) (r2 := 1) (r3 := 5) rfl rfl rfl (of_decide_eq_true rfl) rfl rfl (by decide) rfl rfl (of_decide_eq_true rfl) (of_decide_eq_true rfl) ?_
    refine ct_155_R_R hcr rw_22 rw_155 g7    (fun h10 g10 u10 => ?_)
    have F11 := F8.then rfl u10
    refine wk_n ?_
    refine wi_aload_n (i := 0) (x := 18) (nx := 70) (r1 := 0) (r2 := 0) (r3 := 0) rfl rfl ?_
    refine wr_gr (k0 := 18) (x := 24) (nx := 73) (r1 := 4) (r2 := 5) (r3 := 0) rfl rfl (by decide) rfl ⟨rfl, rfl⟩ rfl ?_
    refine wi_aload_n (i := 1) (x := 151) (nx := 74) (r1 := 0) (r2 := 0) (r3 := 0) rfl rfl ?_
    refine wr_gr (k0 := 151) (x := 157) (nx := 77) (r1 := 4) (r2 := 5) (r3 := 0) rfl rfl (by decide) rfl ⟨rfl, rfl⟩ rfl ?_
    refine wr_V (k0 := 24) (rest := []) (as := [.ref 24, .ref 157]) (nx := 80) (r1 := 155) (r2 := 1) (r3 := 5) rfl rfl rfl (of_decide_eq_true rfl) rfl rfl (by decide) rfl rfl (of_decide_eq_true rfl) (of_decide_eq_true rfl) ?_
    refine ct_155_R_R hcr rw_24 rw_157 g10    (fun h12 g12 u12 => ?_)
    have F13 := F11.then rfl u12
    refine wk_n ?_
    refine wi_aload_n (i := 0) (x := 18) (nx := 81) (r1 := 0) (r2 := 0) (r3 := 0) rfl rfl ?_
    refine wr_gr (k0 := 18) (x := 26) (nx := 84) (r1 := 4) (r2 := 6) (r3 := 0) rfl rfl (by decide) rfl ⟨rfl, rfl⟩ rfl ?_
    refine wi_aload_n (i := 1) (x := 151) (nx := 85) (r1 := 0) (r2 := 0) (r3 := 0) rfl rfl ?_
    refine wr_gr (k0 := 151) (x := 159) (nx := 88) (r1 := 4) (r2 := 6) (r3 := 0) rfl rfl (by decide) rfl ⟨rfl, rfl⟩ rfl ?_
    refine wr_V (k0 := 26) (rest := []) (as := [.ref 26, .ref 159]) (nx := 91) (r1 := 155) (r2 := 1) (r3 := 5) rfl rfl rfl (of_decide_eq_true rfl) rfl rfl (by decide) rfl rfl (of_decide_eq_true rfl) (of_decide_eq_true rfl) ?_
    refine ct_155_R_R hcr rw_26 rw_159 g12    (fun h14 g14 u14 => ?_)
    have F15 := F13.then rfl u14
    refine wk_n ?_
    refine wi_aload_n (i := 0) (x := 18) (nx := 92) (r1 := 0) (r2 := 0) (r3 := 0) rfl rfl ?_
    refine wi_aload_n (i := 1) (x := 151) (nx := 93) (r1 := 0) (r2 := 0) (r3 := 0) rfl rfl ?_
    have b16 := gi_b (lo := 0) (hi := 12) g 151 7 rfl
    refine wr_gi0 (k0 := 151) (x := h 151 7) (nx := 96) (r1 := 4) (r2 := 7) (r3 := 0) rfl rfl (by decide) rfl ⟨rfl, rfl⟩ rfl ((u14 151 7 rfl).trans ((u12 151 7 rfl).trans ((u10 151 7 rfl).trans ((u7 151 7 rfl).trans ((u4 151 7 rfl).trans (u2 151 7 rfl)))))) ?_
    refine wr_pf0 (k0 := 18) (x := h 151 7) (bl := 0) (bh := 12) (nx := 99) (r1 := 4) (r2 := 7) (r3 := 0) rfl (by decide) rfl ⟨rfl, rfl⟩ rfl rfl g14 rfl (by omega) (fun h17 g17 w17 u17 => ?_)
    have F18 := F15.then rfl u17
    refine wi_aload_n (i := 0) (x := 18) (nx := 100) (r1 := 0) (r2 := 0) (r3 := 0) rfl rfl ?_
    refine wi_aload_n (i := 1) (x := 151) (nx := 101) (r1 := 0) (r2 := 0) (r3 := 0) rfl rfl ?_
    have b19 := gi_b (lo := -2147483648) (hi := 2147483647) g 151 8 rfl
    refine wr_gi0 (k0 := 151) (x := h 151 8) (nx := 104) (r1 := 4) (r2 := 8) (r3 := 0) rfl rfl (by decide) rfl ⟨rfl, rfl⟩ rfl ((u17 151 8 rfl).trans ((u14 151 8 rfl).trans ((u12 151 8 rfl).trans ((u10 151 8 rfl).trans ((u7 151 8 rfl).trans ((u4 151 8 rfl).trans (u2 151 8 rfl))))))) ?_
    refine wr_pf0 (k0 := 18) (x := h 151 8) (bl := -2147483648) (bh := 2147483647) (nx := 107) (r1 := 4) (r2 := 8) (r3 := 0) rfl (by decide) rfl ⟨rfl, rfl⟩ rfl rfl g17 rfl (by omega) (fun h20 g20 w20 u20 => ?_)
    have F21 := F18.then rfl u20
    refine wi_aload_n (i := 0) (x := 18) (nx := 108) (r1 := 0) (r2 := 0) (r3 := 0) rfl rfl ?_
    refine wi_aload_n (i := 1) (x := 151) (nx := 109) (r1 := 0) (r2 := 0) (r3 := 0) rfl rfl ?_
    have b22 := gi_b (lo := -2147483648) (hi := 2147483647) g 151 9 rfl
    refine wr_gi0 (k0 := 151) (x := h 151 9) (nx := 112) (r1 := 4) (r2 := 9) (r3 := 0) rfl rfl (by decide) rfl ⟨rfl, rfl⟩ rfl ((u20 151 9 rfl).trans ((u17 151 9 rfl).trans ((u14 151 9 rfl).trans ((u12 151 9 rfl).trans ((u10 151 9 rfl).trans ((u7 151 9 rfl).trans ((u4 151 9 rfl).trans (u2 151 9 rfl)))))))) ?_
    refine wr_pf0 (k0 := 18) (x := h 151 9) (bl := -2147483648) (bh := 2147483647) (nx := 115) (r1 := 4) (r2 := 9) (r3 := 0) rfl (by decide) rfl ⟨rfl, rfl⟩ rfl rfl g20 rfl (by omega) (fun h23 g23 w23 u23 => ?_)
    have F24 := F21.then rfl u23
    refine wi_aload_n (i := 0) (x := 18) (nx := 116) (r1 := 0) (r2 := 0) (r3 := 0) rfl rfl ?_
    refine wi_aload_n (i := 1) (x := 151) (nx := 117) (r1 := 0) (r2 := 0) (r3 := 0) rfl rfl ?_
    have b25 := gi_b (lo := -2147483648) (hi := 2147483647) g 151 10 rfl
    refine wr_gi0 (k0 := 151) (x := h 151 10) (nx := 120) (r1 := 4) (r2 := 10) (r3 := 0) rfl rfl (by decide) rfl ⟨rfl, rfl⟩ rfl ((u23 151 10 rfl).trans ((u20 151 10 rfl).trans ((u17 151 10 rfl).trans ((u14 151 10 rfl).trans ((u12 151 10 rfl).trans ((u10 151 10 rfl).trans ((u7 151 10 rfl).trans ((u4 151 10 rfl).trans (u2 151 10 rfl))))))))) ?_
    refine wr_pf0 (k0 := 18) (x := h 151 10) (bl := -2147483648) (bh := 2147483647) (nx := 123) (r1 := 4) (r2 := 10) (r3 := 0) rfl (by decide) rfl ⟨rfl, rfl⟩ rfl rfl g23 rfl (by omega) (fun h26 g26 w26 u26 => ?_)
    have F27 := F24.then rfl u26
    refine wi_aload_n (i := 0) (x := 18) (nx := 124) (r1 := 0) (r2 := 0) (r3 := 0) rfl rfl ?_
    refine wi_aload_n (i := 1) (x := 151) (nx := 125) (r1 := 0) (r2 := 0) (r3 := 0) rfl rfl ?_
    have b28 := gi_b (lo := -2147483648) (hi := 2147483647) g 151 11 rfl
    refine wr_gi0 (k0 := 151) (x := h 151 11) (nx := 128) (r1 := 4) (r2 := 11) (r3 := 0) rfl rfl (by decide) rfl ⟨rfl, rfl⟩ rfl ((u26 151 11 rfl).trans ((u23 151 11 rfl).trans ((u20 151 11 rfl).trans ((u17 151 11 rfl).trans ((u14 151 11 rfl).trans ((u12 151 11 rfl).trans ((u10 151 11 rfl).trans ((u7 151 11 rfl).trans ((u4 151 11 rfl).trans (u2 151 11 rfl)))))))))) ?_
    refine wr_pf0 (k0 := 18) (x := h 151 11) (bl := -2147483648) (bh := 2147483647) (nx := 131) (r1 := 4) (r2 := 11) (r3 := 0) rfl (by decide) rfl ⟨rfl, rfl⟩ rfl rfl g26 rfl (by omega) (fun h29 g29 w29 u29 => ?_)
    have F30 := F27.then rfl u29
    refine wi_aload_n (i := 0) (x := 18) (nx := 132) (r1 := 0) (r2 := 0) (r3 := 0) rfl rfl ?_
    refine wi_aload_n (i := 1) (x := 151) (nx := 133) (r1 := 0) (r2 := 0) (r3 := 0) rfl rfl ?_
    have b31 := gi_b (lo := -2147483648) (hi := 2147483647) g 151 12 rfl
    refine wr_gi0 (k0 := 151) (x := h 151 12) (nx := 136) (r1 := 4) (r2 := 12) (r3 := 0) rfl rfl (by decide) rfl ⟨rfl, rfl⟩ rfl ((u29 151 12 rfl).trans ((u26 151 12 rfl).trans ((u23 151 12 rfl).trans ((u20 151 12 rfl).trans ((u17 151 12 rfl).trans ((u14 151 12 rfl).trans ((u12 151 12 rfl).trans ((u10 151 12 rfl).trans ((u7 151 12 rfl).trans ((u4 151 12 rfl).trans (u2 151 12 rfl))))))))))) ?_
    refine wr_pf0 (k0 := 18) (x := h 151 12) (bl := -2147483648) (bh := 2147483647) (nx := 139) (r1 := 4) (r2 := 12) (r3 := 0) rfl (by decide) rfl ⟨rfl, rfl⟩ rfl rfl g29 rfl (by omega) (fun h32 g32 w32 u32 => ?_)
    have F33 := F30.then rfl u32
    refine wi_aload_n (i := 0) (x := 18) (nx := 140) (r1 := 0) (r2 := 0) (r3 := 0) rfl rfl ?_
    refine wi_aload_n (i := 1) (x := 151) (nx := 141) (r1 := 0) (r2 := 0) (r3 := 0) rfl rfl ?_
    have b34 := gi_b (lo := -2147483648) (hi := 2147483647) g 151 13 rfl
    refine wr_gi0 (k0 := 151) (x := h 151 13) (nx := 144) (r1 := 4) (r2 := 13) (r3 := 0) rfl rfl (by decide) rfl ⟨rfl, rfl⟩ rfl ((u32 151 13 rfl).trans ((u29 151 13 rfl).trans ((u26 151 13 rfl).trans ((u23 151 13 rfl).trans ((u20 151 13 rfl).trans ((u17 151 13 rfl).trans ((u14 151 13 rfl).trans ((u12 151 13 rfl).trans ((u10 151 13 rfl).trans ((u7 151 13 rfl).trans ((u4 151 13 rfl).trans (u2 151 13 rfl)))))))))))) ?_
    refine wr_pf0 (k0 := 18) (x := h 151 13) (bl := -2147483648) (bh := 2147483647) (nx := 147) (r1 := 4) (r2 := 13) (r3 := 0) rfl (by decide) rfl ⟨rfl, rfl⟩ rfl rfl g32 rfl (by omega) (fun h35 g35 w35 u35 => ?_)
    have F36 := F33.then rfl u35
    refine wi_aload_n (i := 1) (x := 151) (nx := 148) (r1 := 0) (r2 := 0) (r3 := 0) rfl rfl ?_
    refine wr_gr (k0 := 151) (x := 161) (nx := 151) (r1 := 4) (r2 := 14) (r3 := 0) rfl rfl (by decide) rfl ⟨rfl, rfl⟩ rfl ?_
    refine wi_iconst (n := 0) (nx := 152) (r1 := 0) (r2 := 0) (r3 := 0) rfl ?_
    refine wi_aload_n (i := 0) (x := 18) (nx := 153) (r1 := 0) (r2 := 0) (r3 := 0) rfl rfl ?_
    refine wr_gr (k0 := 18) (x := 28) (nx := 156) (r1 := 4) (r2 := 14) (r3 := 0) rfl rfl (by decide) rfl ⟨rfl, rfl⟩ rfl ?_
    refine wi_iconst (n := 0) (nx := 157) (r1 := 0) (r2 := 0) (r3 := 0) rfl ?_
    refine wi_aload_n (i := 0) (x := 18) (nx := 158) (r1 := 0) (r2 := 0) (r3 := 0) rfl rfl ?_
    refine wr_gr (k0 := 18) (x := 28) (nx := 161) (r1 := 4) (r2 := 14) (r3 := 0) rfl rfl (by decide) rfl ⟨rfl, rfl⟩ rfl ?_
    refine wr_al (k0 := 28) (e := 144) (nx := 162) (r1 := 0) (r2 := 0) (r3 := 0) rfl (by decide) rfl rfl ?_
    refine wr_cpy (s0 := 161) (d0 := 28) (n0 := 144) (n1 := 144) (sp := 0) (dp := 0) (n := 144) (sl := -2147483648) (sh := 2147483647) (dl := -2147483648) (dh := 2147483647) (nx := 165) (r1 := 0) (r2 := 101) (r3 := 0) rfl rfl (of_decide_eq_true rfl) (by decide) (by decide) rfl rfl (by omega) (fun _ => rfl) (fun _ => rfl) (by omega) g35 (fun h37 g37 y37 u37 => ?_)
    have F38 := F36.then rfl u37
    refine wi_aload_n (i := 0) (x := 18) (nx := 166) (r1 := 0) (r2 := 0) (r3 := 0) rfl rfl ?_
    refine wi_aload_n (i := 1) (x := 151) (nx := 167) (r1 := 0) (r2 := 0) (r3 := 0) rfl rfl ?_
    have b39 := gi_b (lo := 0) (hi := 36) g 151 15 rfl
    refine wr_gi0 (k0 := 151) (x := h 151 15) (nx := 170) (r1 := 4) (r2 := 15) (r3 := 0) rfl rfl (by decide) rfl ⟨rfl, rfl⟩ rfl ((u37 151 15 rfl).trans ((u35 151 15 rfl).trans ((u32 151 15 rfl).trans ((u29 151 15 rfl).trans ((u26 151 15 rfl).trans ((u23 151 15 rfl).trans ((u20 151 15 rfl).trans ((u17 151 15 rfl).trans ((u14 151 15 rfl).trans ((u12 151 15 rfl).trans ((u10 151 15 rfl).trans ((u7 151 15 rfl).trans ((u4 151 15 rfl).trans (u2 151 15 rfl)))))))))))))) ?_
    refine wr_pf0 (k0 := 18) (x := h 151 15) (bl := 0) (bh := 36) (nx := 173) (r1 := 4) (r2 := 15) (r3 := 0) rfl (by decide) rfl ⟨rfl, rfl⟩ rfl rfl g37 rfl (by omega) (fun h40 g40 w40 u40 => ?_)
    have F41 := F38.then rfl u40
    refine wi_aload_n (i := 0) (x := 18) (nx := 174) (r1 := 0) (r2 := 0) (r3 := 0) rfl rfl ?_
    refine wi_dup (nx := 175) (r1 := 0) (r2 := 0) (r3 := 0) rfl rfl ?_
    refine wr_gi0 (k0 := 18) (x := h 18 16) (nx := 178) (r1 := 4) (r2 := 16) (r3 := 0) rfl rfl (by decide) rfl ⟨rfl, rfl⟩ rfl ((u40 18 16 rfl).trans ((u37 18 16 rfl).trans ((u35 18 16 rfl).trans ((u32 18 16 rfl).trans ((u29 18 16 rfl).trans ((u26 18 16 rfl).trans ((u23 18 16 rfl).trans ((u20 18 16 rfl).trans ((u17 18 16 rfl).trans ((u14 18 16 rfl).trans ((u12 18 16 rfl).trans ((u10 18 16 rfl).trans ((u7 18 16 rfl).trans ((u4 18 16 rfl).trans (u2 18 16 rfl))))))))))))))) ?_
    refine wi_iconst (n := 1) (nx := 179) (r1 := 0) (r2 := 0) (r3 := 0) rfl ?_
    refine wr_add (nx := 180) (r1 := 0) (r2 := 0) (r3 := 0) rfl (fun e42 (fe42 : e42 = (h 18 16) + 1) => ?_)
    refine wr_pf0 (k0 := 18) (x := e42) (bl := -2147483648) (bh := 2147483647) (nx := 183) (r1 := 4) (r2 := 16) (r3 := 0) rfl (by decide) rfl ⟨rfl, rfl⟩ rfl rfl g40 rfl (by omega) (fun h43 g43 w43 u43 => ?_)
    have F44 := F41.then rfl u43
    refine wi_return (nx := 184) (r1 := 0) (r2 := 0) (r3 := 0) rfl rfl ?_
    have e45 : h43 18 16 = e42 := w43
    exact k h43 g43 F44 (show (h43 18 16) = (h 18 16) + 1 by omega) (fun q e => (((u43 19 q (fn_a (by omega) fn_0)).trans ((u40 19 q (fn_a (by omega) fn_0)).trans ((u37 19 q (fn_a (by omega) fn_0)).trans ((u35 19 q (fn_a (by omega) fn_0)).trans ((u32 19 q (fn_a (by omega) fn_0)).trans ((u29 19 q (fn_a (by omega) fn_0)).trans ((u26 19 q (fn_a (by omega) fn_0)).trans ((u23 19 q (fn_a (by omega) fn_0)).trans ((u20 19 q (fn_a (by omega) fn_0)).trans ((u17 19 q (fn_a (by omega) fn_0)).trans ((u14 19 q (fn_a (by omega) fn_0)).trans ((u12 19 q (fn_a (by omega) fn_0)).trans ((u10 19 q (fn_a (by omega) fn_0)).trans ((u7 19 q (fn_a (by omega) fn_0)).trans (u4 19 q (fn_a (by omega) fn_0)))))))))))))))).trans (cy_0 y2 (by omega))))
  ·
    refine wi_aload_n (i := 0) (x := 18) (nx := 38) (r1 := 0) (r2 := 0) (r3 := 0) rfl rfl ?_
    refine wr_gr (k0 := 18) (x := 21) (nx := 41) (r1 := 4) (r2 := 3) (r3 := 0) rfl rfl (by decide) rfl ⟨rfl, rfl⟩ rfl ?_
    refine wi_iload_n (i := 2) (e := x6) (nx := 42) (r1 := 0) (r2 := 0) (r3 := 0) rfl rfl ?_
    obtain ⟨i10, ei10⟩ : ∃ q : Nat, x6 = (q : Int) := ⟨(x6).toNat, by omega⟩
    refine wr_aa (k0 := 21) (a := x6) (f := i10) (x := 21 + 8 + 2 * i10) (nx := 43) (r1 := 0) (r2 := 0) (r3 := 0) rfl (by decide) rfl (Or.inl rfl) (by omega) (by omega) (by decide) (hcr.1 21 (by decide) i10 (by omega)) ?_
    obtain ⟨k11, kk11, mk11⟩ : ∃ q, Rw q ∧ q = 21 + 8 + 2 * i10 := ⟨_, rw_lane 21 (by decide) i10 (by omega), rfl⟩
    rw [← mk11]
    refine wi_aload_n (i := 1) (x := 151) (nx := 44) (r1 := 0) (r2 := 0) (r3 := 0) rfl rfl ?_
    refine wr_gr (k0 := 151) (x := 154) (nx := 47) (r1 := 4) (r2 := 3) (r3 := 0) rfl rfl (by decide) rfl ⟨rfl, rfl⟩ rfl ?_
    refine wi_iload_n (i := 2) (e := x6) (nx := 48) (r1 := 0) (r2 := 0) (r3 := 0) rfl rfl ?_
    refine wr_aa (k0 := 154) (a := x6) (f := i10) (x := 154 + 8 + 2 * i10) (nx := 49) (r1 := 0) (r2 := 0) (r3 := 0) rfl (by decide) rfl (Or.inl rfl) (by omega) (by omega) (by decide) (hcr.1 154 (by decide) i10 (by omega)) ?_
    obtain ⟨k12, kk12, mk12⟩ : ∃ q, Rw q ∧ q = 154 + 8 + 2 * i10 := ⟨_, rw_lane 154 (by decide) i10 (by omega), rfl⟩
    rw [← mk12]
    refine wr_V (k0 := k11) (rest := []) (as := [.ref k11, .ref k12]) (nx := 52) (r1 := 155) (r2 := 1) (r3 := 5) rfl rfl rfl (of_decide_eq_true rfl) rfl rfl kk11.k kk11.1 rfl (of_decide_eq_true rfl) (of_decide_eq_true rfl) ?_
    refine ct_155_R_R hcr kk11 kk12 g7    (fun h13 g13 u13 => ?_)
    have v13 := FR.rngp (lo := 29) (hi := 36) u13 (by omega)
    have F14 := F8.then rfl (FR.rngp (lo := 29) (hi := 36) u13 (by omega))
    have F15 := u7.then rfl (FR.rngp (lo := 29) (hi := 36) u13 (by omega))
    refine wk_n ?_
    refine wr_iinc (i := 2) (n := 1) (v := x6) (fun e16 => [(2, vi e16), (0, .ref 18), (1, .ref 151)]) (nx := 55) (r1 := 0) (r2 := 0) (r3 := 0) rfl rfl (fun _ => rfl) (fun e16 (fe16 : e16 = x6 + 1) => ?_)
    refine wi_goto (nx := 58) (r1 := 32) (r2 := 0) (r3 := 0) rfl ?_
    refine wp.lo (lo := [(0, .ref 18), (1, .ref 151), (2, vi e16)]) ⟨rfl, rfl, rfl, trivial⟩ rfl ?_
    exact I7 e16 h13 ⟨g13, F14, F15, (show (0 ≤ e16 ∧ e16 ≤ 4) by omega)⟩ (show ((4 : Int) + 1 - e16).toNat < ((4 : Int) + 1 - x6).toNat by omega)
-- method 132: Line.copyFrom(LPaintBank$Line;)V
set_option maxRecDepth 100000 in
set_option maxHeartbeats 100000000 in
theorem ct_132_18_170 {L : Nat} {xs : Nat → Int32} {d b c : Nat} {h : hp} {cr : Nat → Nat → Option Nat} {Q : hp_Q} (hcr : CR cr)  (g : GI h)   (pp0 : h 18 16 ≤ 2000000000) (k : ∀ (h2 : hp) , GI h2 → FR [(19, 19, none), (20, 20, none), (22, 23, none), (24, 25, none), (26, 27, none), (28, 28, none), (29, 36, none), (18, 18, some (7, 13)), (18, 18, some (15, 16))] h h2 → (h2 18 16 = h 18 16 + 1) → (∀ i : Nat, i < 12 → h2 19 i = h 171 i) → Q (.inl none) (hp_w h2 cr) b c) : wp (md_xa (L, xs)) (d + 1) 132 (0, [(0, .ref 18), (1, .ref 170)], [], hp_w h cr, b, c) Q := by
  have F0 : FR [(19, 19, none), (20, 20, none), (22, 23, none), (24, 25, none), (26, 27, none), (28, 28, none), (29, 36, none), (18, 18, some (7, 13)), (18, 18, some (15, 16))] h h := FR.refl
  have b1 := gi_b (lo := -2147483648) (hi := 2147483647) g 18 16 rfl
  refine wi_aload_n (i := 1) (x := 170) (nx := 1) (r1 := 0) (r2 := 0) (r3 := 0) rfl rfl ?_
  refine wr_gr (k0 := 170) (x := 171) (nx := 4) (r1 := 4) (r2 := 1) (r3 := 0) rfl rfl (by decide) rfl ⟨rfl, rfl⟩ rfl ?_
  refine wi_iconst (n := 0) (nx := 5) (r1 := 0) (r2 := 0) (r3 := 0) rfl ?_
  refine wi_aload_n (i := 0) (x := 18) (nx := 6) (r1 := 0) (r2 := 0) (r3 := 0) rfl rfl ?_
  refine wr_gr (k0 := 18) (x := 19) (nx := 9) (r1 := 4) (r2 := 1) (r3 := 0) rfl rfl (by decide) rfl ⟨rfl, rfl⟩ rfl ?_
  refine wi_iconst (n := 0) (nx := 10) (r1 := 0) (r2 := 0) (r3 := 0) rfl ?_
  refine wi_bipush (n := 12) (nx := 12) (r1 := 0) (r2 := 0) (r3 := 0) rfl (by decide) ?_
  refine wr_cpy (s0 := 171) (d0 := 19) (n0 := 12) (n1 := 12) (sp := 0) (dp := 0) (n := 12) (sl := -2147483648) (sh := 2147483647) (dl := -2147483648) (dh := 2147483647) (nx := 15) (r1 := 0) (r2 := 101) (r3 := 0) rfl rfl (of_decide_eq_true rfl) (by decide) (by decide) rfl rfl (by omega) (fun _ => rfl) (fun _ => rfl) (by omega) g (fun h2 g2 y2 u2 => ?_)
  have F3 := F0.then rfl u2
  refine wi_aload_n (i := 1) (x := 170) (nx := 16) (r1 := 0) (r2 := 0) (r3 := 0) rfl rfl ?_
  refine wr_gr (k0 := 170) (x := 172) (nx := 19) (r1 := 4) (r2 := 2) (r3 := 0) rfl rfl (by decide) rfl ⟨rfl, rfl⟩ rfl ?_
  refine wi_iconst (n := 0) (nx := 20) (r1 := 0) (r2 := 0) (r3 := 0) rfl ?_
  refine wi_aload_n (i := 0) (x := 18) (nx := 21) (r1 := 0) (r2 := 0) (r3 := 0) rfl rfl ?_
  refine wr_gr (k0 := 18) (x := 20) (nx := 24) (r1 := 4) (r2 := 2) (r3 := 0) rfl rfl (by decide) rfl ⟨rfl, rfl⟩ rfl ?_
  refine wi_iconst (n := 0) (nx := 25) (r1 := 0) (r2 := 0) (r3 := 0) rfl ?_
  refine wi_bipush (n := 12) (nx := 27) (r1 := 0) (r2 := 0) (r3 := 0) rfl (by decide) ?_
  refine wr_cpy (s0 := 172) (d0 := 20) (n0 := 12) (n1 := 12) (sp := 0) (dp := 0) (n := 12) (sl := -2147483648) (sh := 2147483647) (dl := -2147483648) (dh := 2147483647) (nx := 30) (r1 := 0) (r2 := 101) (r3 := 0) rfl rfl (of_decide_eq_true rfl) (by decide) (by decide) rfl rfl (by omega) (fun _ => rfl) (fun _ => rfl) (by omega) g2 (fun h4 g4 y4 u4 => ?_)
  have F5 := F3.then rfl u4
  refine wi_iconst (n := 0) (nx := 31) (r1 := 0) (r2 := 0) (r3 := 0) rfl ?_
  refine wi_istore_n (i := 2) (e := 0) (lo2 := [(2, vi 0), (0, .ref 18), (1, .ref 170)]) (nx := 32) (r1 := 0) (r2 := 0) (r3 := 0) rfl rfl ?_
  refine wp.lo (lo := [(0, .ref 18), (1, .ref 170), (2, vi 0)]) ⟨rfl, rfl, rfl, trivial⟩ rfl ?_
  refine wl_1 (fun x6 h7 => GI h7 ∧ FR [(19, 19, none), (20, 20, none), (22, 23, none), (24, 25, none), (26, 27, none), (28, 28, none), (29, 36, none), (18, 18, some (7, 13)), (18, 18, some (15, 16))] h h7 ∧ FR [(29, 36, none)] h4 h7 ∧ ((0 ≤ x6 ∧ x6 ≤ 4))) (fun x6 h7 => ((4 : Int) + 1 - x6).toNat) (fun x6 h7 => (32, [(0, .ref 18), (1, .ref 170), (2, vi x6)], [], hp_w h7 cr, b, c)) ?_ 0 h4 ⟨g4, F5, FR.refl, (show (0 ≤ 0 ∧ 0 ≤ 4) by omega)⟩
  intro x6 h7 ⟨g7, F8, u7, f7⟩ I7
  refine wi_iload_n (i := 2) (e := x6) (nx := 33) (r1 := 0) (r2 := 0) (r3 := 0) rfl rfl ?_
  refine wi_iconst (n := 4) (nx := 34) (r1 := 0) (r2 := 0) (r3 := 0) rfl ?_
  refine wi_icmp (cd := .ge) (nx := 37) (r1 := 58) (r2 := 0) (r3 := 0) rfl (by omega) (by omega) (fun (q9 : 4 ≤ x6) => ?_) (fun (q9 : ¬ (4 ≤ x6)) => ?_)
  ·
    refine wi_aload_n (i := 0) (x := 18) (nx := 59) (r1 := 0) (r2 := 0) (r3 := 0) rfl rfl ?_
    refine wr_gr (k0 := 18) (x := 22) (nx := 62) (r1 := 4) (r2 := 4) (r3 := 0) rfl rfl (by decide) rfl ⟨rfl, rfl⟩ rfl ?_
    refine wi_aload_n (i := 1) (x := 170) (nx := 63) (r1 := 0) (r2 := 0) (r3 := 0) rfl rfl ?_
    refine wr_gr (k0 := 170) (x := 174) (nx := 66) (r1 := 4) (r2 := 4) (r3 := 0) rfl rfl (by decide) rfl ⟨rfl, rfl⟩ rfl ?_
    refine wr_V (k0 := 22) (rest := []) (as := [.ref 22, .ref 174]) (nx := 69) (r1 := 155) (r2 := 1) (r3 := 5) rfl rfl rfl (of_decide_eq_true rfl) rfl rfl (by decide) rfl rfl (of_decide_eq_true rfl) (of_decide_eq_true rfl) ?_
    refine ct_155_R_R hcr rw_22 rw_174 g7    (fun h10 g10 u10 => ?_)
    have F11 := F8.then rfl u10
    refine wk_n ?_
    refine wi_aload_n (i := 0) (x := 18) (nx := 70) (r1 := 0) (r2 := 0) (r3 := 0) rfl rfl ?_
    refine wr_gr (k0 := 18) (x := 24) (nx := 73) (r1 := 4) (r2 := 5) (r3 := 0) rfl rfl (by decide) rfl ⟨rfl, rfl⟩ rfl ?_
    refine wi_aload_n (i := 1) (x := 170) (nx := 74) (r1 := 0) (r2 := 0) (r3 := 0) rfl rfl ?_
    refine wr_gr (k0 := 170) (x := 176) (nx := 77) (r1 := 4) (r2 := 5) (r3 := 0) rfl rfl (by decide) rfl ⟨rfl, rfl⟩ rfl ?_
    refine wr_V (k0 := 24) (rest := []) (as := [.ref 24, .ref 176]) (nx := 80) (r1 := 155) (r2 := 1) (r3 := 5) rfl rfl rfl (of_decide_eq_true rfl) rfl rfl (by decide) rfl rfl (of_decide_eq_true rfl) (of_decide_eq_true rfl) ?_
    refine ct_155_R_R hcr rw_24 rw_176 g10    (fun h12 g12 u12 => ?_)
    have F13 := F11.then rfl u12
    refine wk_n ?_
    refine wi_aload_n (i := 0) (x := 18) (nx := 81) (r1 := 0) (r2 := 0) (r3 := 0) rfl rfl ?_
    refine wr_gr (k0 := 18) (x := 26) (nx := 84) (r1 := 4) (r2 := 6) (r3 := 0) rfl rfl (by decide) rfl ⟨rfl, rfl⟩ rfl ?_
    refine wi_aload_n (i := 1) (x := 170) (nx := 85) (r1 := 0) (r2 := 0) (r3 := 0) rfl rfl ?_
    refine wr_gr (k0 := 170) (x := 178) (nx := 88) (r1 := 4) (r2 := 6) (r3 := 0) rfl rfl (by decide) rfl ⟨rfl, rfl⟩ rfl ?_
    refine wr_V (k0 := 26) (rest := []) (as := [.ref 26, .ref 178]) (nx := 91) (r1 := 155) (r2 := 1) (r3 := 5) rfl rfl rfl (of_decide_eq_true rfl) rfl rfl (by decide) rfl rfl (of_decide_eq_true rfl) (of_decide_eq_true rfl) ?_
    refine ct_155_R_R hcr rw_26 rw_178 g12    (fun h14 g14 u14 => ?_)
    have F15 := F13.then rfl u14
    refine wk_n ?_
    refine wi_aload_n (i := 0) (x := 18) (nx := 92) (r1 := 0) (r2 := 0) (r3 := 0) rfl rfl ?_
    refine wi_aload_n (i := 1) (x := 170) (nx := 93) (r1 := 0) (r2 := 0) (r3 := 0) rfl rfl ?_
    have b16 := gi_b (lo := 0) (hi := 12) g 170 7 rfl
    refine wr_gi0 (k0 := 170) (x := h 170 7) (nx := 96) (r1 := 4) (r2 := 7) (r3 := 0) rfl rfl (by decide) rfl ⟨rfl, rfl⟩ rfl ((u14 170 7 rfl).trans ((u12 170 7 rfl).trans ((u10 170 7 rfl).trans ((u7 170 7 rfl).trans ((u4 170 7 rfl).trans (u2 170 7 rfl)))))) ?_
    refine wr_pf0 (k0 := 18) (x := h 170 7) (bl := 0) (bh := 12) (nx := 99) (r1 := 4) (r2 := 7) (r3 := 0) rfl (by decide) rfl ⟨rfl, rfl⟩ rfl rfl g14 rfl (by omega) (fun h17 g17 w17 u17 => ?_)
    have F18 := F15.then rfl u17
    refine wi_aload_n (i := 0) (x := 18) (nx := 100) (r1 := 0) (r2 := 0) (r3 := 0) rfl rfl ?_
    refine wi_aload_n (i := 1) (x := 170) (nx := 101) (r1 := 0) (r2 := 0) (r3 := 0) rfl rfl ?_
    have b19 := gi_b (lo := -2147483648) (hi := 2147483647) g 170 8 rfl
    refine wr_gi0 (k0 := 170) (x := h 170 8) (nx := 104) (r1 := 4) (r2 := 8) (r3 := 0) rfl rfl (by decide) rfl ⟨rfl, rfl⟩ rfl ((u17 170 8 rfl).trans ((u14 170 8 rfl).trans ((u12 170 8 rfl).trans ((u10 170 8 rfl).trans ((u7 170 8 rfl).trans ((u4 170 8 rfl).trans (u2 170 8 rfl))))))) ?_
    refine wr_pf0 (k0 := 18) (x := h 170 8) (bl := -2147483648) (bh := 2147483647) (nx := 107) (r1 := 4) (r2 := 8) (r3 := 0) rfl (by decide) rfl ⟨rfl, rfl⟩ rfl rfl g17 rfl (by omega) (fun h20 g20 w20 u20 => ?_)
    have F21 := F18.then rfl u20
    refine wi_aload_n (i := 0) (x := 18) (nx := 108) (r1 := 0) (r2 := 0) (r3 := 0) rfl rfl ?_
    refine wi_aload_n (i := 1) (x := 170) (nx := 109) (r1 := 0) (r2 := 0) (r3 := 0) rfl rfl ?_
    have b22 := gi_b (lo := -2147483648) (hi := 2147483647) g 170 9 rfl
    refine wr_gi0 (k0 := 170) (x := h 170 9) (nx := 112) (r1 := 4) (r2 := 9) (r3 := 0) rfl rfl (by decide) rfl ⟨rfl, rfl⟩ rfl ((u20 170 9 rfl).trans ((u17 170 9 rfl).trans ((u14 170 9 rfl).trans ((u12 170 9 rfl).trans ((u10 170 9 rfl).trans ((u7 170 9 rfl).trans ((u4 170 9 rfl).trans (u2 170 9 rfl)))))))) ?_
    refine wr_pf0 (k0 := 18) (x := h 170 9) (bl := -2147483648) (bh := 2147483647) (nx := 115) (r1 := 4) (r2 := 9) (r3 := 0) rfl (by decide) rfl ⟨rfl, rfl⟩ rfl rfl g20 rfl (by omega) (fun h23 g23 w23 u23 => ?_)
    have F24 := F21.then rfl u23
    refine wi_aload_n (i := 0) (x := 18) (nx := 116) (r1 := 0) (r2 := 0) (r3 := 0) rfl rfl ?_
    refine wi_aload_n (i := 1) (x := 170) (nx := 117) (r1 := 0) (r2 := 0) (r3 := 0) rfl rfl ?_
    have b25 := gi_b (lo := -2147483648) (hi := 2147483647) g 170 10 rfl
    refine wr_gi0 (k0 := 170) (x := h 170 10) (nx := 120) (r1 := 4) (r2 := 10) (r3 := 0) rfl rfl (by decide) rfl ⟨rfl, rfl⟩ rfl ((u23 170 10 rfl).trans ((u20 170 10 rfl).trans ((u17 170 10 rfl).trans ((u14 170 10 rfl).trans ((u12 170 10 rfl).trans ((u10 170 10 rfl).trans ((u7 170 10 rfl).trans ((u4 170 10 rfl).trans (u2 170 10 rfl))))))))) ?_
    refine wr_pf0 (k0 := 18) (x := h 170 10) (bl := -2147483648) (bh := 2147483647) (nx := 123) (r1 := 4) (r2 := 10) (r3 := 0) rfl (by decide) rfl ⟨rfl, rfl⟩ rfl rfl g23 rfl (by omega) (fun h26 g26 w26 u26 => ?_)
    have F27 := F24.then rfl u26
    refine wi_aload_n (i := 0) (x := 18) (nx := 124) (r1 := 0) (r2 := 0) (r3 := 0) rfl rfl ?_
    refine wi_aload_n (i := 1) (x := 170) (nx := 125) (r1 := 0) (r2 := 0) (r3 := 0) rfl rfl ?_
    have b28 := gi_b (lo := -2147483648) (hi := 2147483647) g 170 11 rfl
    refine wr_gi0 (k0 := 170) (x := h 170 11) (nx := 128) (r1 := 4) (r2 := 11) (r3 := 0) rfl rfl (by decide) rfl ⟨rfl, rfl⟩ rfl ((u26 170 11 rfl).trans ((u23 170 11 rfl).trans ((u20 170 11 rfl).trans ((u17 170 11 rfl).trans ((u14 170 11 rfl).trans ((u12 170 11 rfl).trans ((u10 170 11 rfl).trans ((u7 170 11 rfl).trans ((u4 170 11 rfl).trans (u2 170 11 rfl)))))))))) ?_
    refine wr_pf0 (k0 := 18) (x := h 170 11) (bl := -2147483648) (bh := 2147483647) (nx := 131) (r1 := 4) (r2 := 11) (r3 := 0) rfl (by decide) rfl ⟨rfl, rfl⟩ rfl rfl g26 rfl (by omega) (fun h29 g29 w29 u29 => ?_)
    have F30 := F27.then rfl u29
    refine wi_aload_n (i := 0) (x := 18) (nx := 132) (r1 := 0) (r2 := 0) (r3 := 0) rfl rfl ?_
    refine wi_aload_n (i := 1) (x := 170) (nx := 133) (r1 := 0) (r2 := 0) (r3 := 0) rfl rfl ?_
    have b31 := gi_b (lo := -2147483648) (hi := 2147483647) g 170 12 rfl
    refine wr_gi0 (k0 := 170) (x := h 170 12) (nx := 136) (r1 := 4) (r2 := 12) (r3 := 0) rfl rfl (by decide) rfl ⟨rfl, rfl⟩ rfl ((u29 170 12 rfl).trans ((u26 170 12 rfl).trans ((u23 170 12 rfl).trans ((u20 170 12 rfl).trans ((u17 170 12 rfl).trans ((u14 170 12 rfl).trans ((u12 170 12 rfl).trans ((u10 170 12 rfl).trans ((u7 170 12 rfl).trans ((u4 170 12 rfl).trans (u2 170 12 rfl))))))))))) ?_
    refine wr_pf0 (k0 := 18) (x := h 170 12) (bl := -2147483648) (bh := 2147483647) (nx := 139) (r1 := 4) (r2 := 12) (r3 := 0) rfl (by decide) rfl ⟨rfl, rfl⟩ rfl rfl g29 rfl (by omega) (fun h32 g32 w32 u32 => ?_)
    have F33 := F30.then rfl u32
    refine wi_aload_n (i := 0) (x := 18) (nx := 140) (r1 := 0) (r2 := 0) (r3 := 0) rfl rfl ?_
    refine wi_aload_n (i := 1) (x := 170) (nx := 141) (r1 := 0) (r2 := 0) (r3 := 0) rfl rfl ?_
    have b34 := gi_b (lo := -2147483648) (hi := 2147483647) g 170 13 rfl
    refine wr_gi0 (k0 := 170) (x := h 170 13) (nx := 144) (r1 := 4) (r2 := 13) (r3 := 0) rfl rfl (by decide) rfl ⟨rfl, rfl⟩ rfl ((u32 170 13 rfl).trans ((u29 170 13 rfl).trans ((u26 170 13 rfl).trans ((u23 170 13 rfl).trans ((u20 170 13 rfl).trans ((u17 170 13 rfl).trans ((u14 170 13 rfl).trans ((u12 170 13 rfl).trans ((u10 170 13 rfl).trans ((u7 170 13 rfl).trans ((u4 170 13 rfl).trans (u2 170 13 rfl)))))))))))) ?_
    refine wr_pf0 (k0 := 18) (x := h 170 13) (bl := -2147483648) (bh := 2147483647) (nx := 147) (r1 := 4) (r2 := 13) (r3 := 0) rfl (by decide) rfl ⟨rfl, rfl⟩ rfl rfl g32 rfl (by omega) (fun h35 g35 w35 u35 => ?_)
    have F36 := F33.then rfl u35
    refine wi_aload_n (i := 1) (x := 170) (nx := 148) (r1 := 0) (r2 := 0) (r3 := 0) rfl rfl ?_
    refine wr_gr (k0 := 170) (x := 180) (nx := 151) (r1 := 4) (r2 := 14) (r3 := 0) rfl rfl (by decide) rfl ⟨rfl, rfl⟩ rfl ?_
    refine wi_iconst (n := 0) (nx := 152) (r1 := 0) (r2 := 0) (r3 := 0) rfl ?_
    refine wi_aload_n (i := 0) (x := 18) (nx := 153) (r1 := 0) (r2 := 0) (r3 := 0) rfl rfl ?_
    refine wr_gr (k0 := 18) (x := 28) (nx := 156) (r1 := 4) (r2 := 14) (r3 := 0) rfl rfl (by decide) rfl ⟨rfl, rfl⟩ rfl ?_
    refine wi_iconst (n := 0) (nx := 157) (r1 := 0) (r2 := 0) (r3 := 0) rfl ?_
    refine wi_aload_n (i := 0) (x := 18) (nx := 158) (r1 := 0) (r2 := 0) (r3 := 0) rfl rfl ?_
    refine wr_gr (k0 := 18) (x := 28) (nx := 161) (r1 := 4) (r2 := 14) (r3 := 0) rfl rfl (by decide) rfl ⟨rfl, rfl⟩ rfl ?_
    refine wr_al (k0 := 28) (e := 144) (nx := 162) (r1 := 0) (r2 := 0) (r3 := 0) rfl (by decide) rfl rfl ?_
    refine wr_cpy (s0 := 180) (d0 := 28) (n0 := 144) (n1 := 144) (sp := 0) (dp := 0) (n := 144) (sl := -2147483648) (sh := 2147483647) (dl := -2147483648) (dh := 2147483647) (nx := 165) (r1 := 0) (r2 := 101) (r3 := 0) rfl rfl (of_decide_eq_true rfl) (by decide) (by decide) rfl rfl (by omega) (fun _ => rfl) (fun _ => rfl) (by omega) g35 (fun h37 g37 y37 u37 => ?_)
    have F38 := F36.then rfl u37
    refine wi_aload_n (i := 0) (x := 18) (nx := 166) (r1 := 0) (r2 := 0) (r3 := 0) rfl rfl ?_
    refine wi_aload_n (i := 1) (x := 170) (nx := 167) (r1 := 0) (r2 := 0) (r3 := 0) rfl rfl ?_
    have b39 := gi_b (lo := 0) (hi := 36) g 170 15 rfl
    refine wr_gi0 (k0 := 170) (x := h 170 15) (nx := 170) (r1 := 4) (r2 := 15) (r3 := 0) rfl rfl (by decide) rfl ⟨rfl, rfl⟩ rfl ((u37 170 15 rfl).trans ((u35 170 15 rfl).trans ((u32 170 15 rfl).trans ((u29 170 15 rfl).trans ((u26 170 15 rfl).trans ((u23 170 15 rfl).trans ((u20 170 15 rfl).trans ((u17 170 15 rfl).trans ((u14 170 15 rfl).trans ((u12 170 15 rfl).trans ((u10 170 15 rfl).trans ((u7 170 15 rfl).trans ((u4 170 15 rfl).trans (u2 170 15 rfl)))))))))))))) ?_
    refine wr_pf0 (k0 := 18) (x := h 170 15) (bl := 0) (bh := 36) (nx := 173) (r1 := 4) (r2 := 15) (r3 := 0) rfl (by decide) rfl ⟨rfl, rfl⟩ rfl rfl g37 rfl (by omega) (fun h40 g40 w40 u40 => ?_)
    have F41 := F38.then rfl u40
    refine wi_aload_n (i := 0) (x := 18) (nx := 174) (r1 := 0) (r2 := 0) (r3 := 0) rfl rfl ?_
    refine wi_dup (nx := 175) (r1 := 0) (r2 := 0) (r3 := 0) rfl rfl ?_
    refine wr_gi0 (k0 := 18) (x := h 18 16) (nx := 178) (r1 := 4) (r2 := 16) (r3 := 0) rfl rfl (by decide) rfl ⟨rfl, rfl⟩ rfl ((u40 18 16 rfl).trans ((u37 18 16 rfl).trans ((u35 18 16 rfl).trans ((u32 18 16 rfl).trans ((u29 18 16 rfl).trans ((u26 18 16 rfl).trans ((u23 18 16 rfl).trans ((u20 18 16 rfl).trans ((u17 18 16 rfl).trans ((u14 18 16 rfl).trans ((u12 18 16 rfl).trans ((u10 18 16 rfl).trans ((u7 18 16 rfl).trans ((u4 18 16 rfl).trans (u2 18 16 rfl))))))))))))))) ?_
    refine wi_iconst (n := 1) (nx := 179) (r1 := 0) (r2 := 0) (r3 := 0) rfl ?_
    refine wr_add (nx := 180) (r1 := 0) (r2 := 0) (r3 := 0) rfl (fun e42 (fe42 : e42 = (h 18 16) + 1) => ?_)
    refine wr_pf0 (k0 := 18) (x := e42) (bl := -2147483648) (bh := 2147483647) (nx := 183) (r1 := 4) (r2 := 16) (r3 := 0) rfl (by decide) rfl ⟨rfl, rfl⟩ rfl rfl g40 rfl (by omega) (fun h43 g43 w43 u43 => ?_)
    have F44 := F41.then rfl u43
    refine wi_return (nx := 184) (r1 := 0) (r2 := 0) (r3 := 0) rfl rfl ?_
    have e45 : h43 18 16 = e42 := w43
    exact k h43 g43 F44 (show (h43 18 16) = (h 18 16) + 1 by omega) (fun q e => (((u43 19 q (fn_a (by omega) fn_0)).trans ((u40 19 q (fn_a (by omega) fn_0)).trans ((u37 19 q (fn_a (by omega) fn_0)).trans ((u35 19 q (fn_a (by omega) fn_0)).trans ((u32 19 q (fn_a (by omega) fn_0)).trans ((u29 19 q (fn_a (by omega) fn_0)).trans ((u26 19 q (fn_a (by omega) fn_0)).trans ((u23 19 q (fn_a (by omega) fn_0)).trans ((u20 19 q (fn_a (by omega) fn_0)).trans ((u17 19 q (fn_a (by omega) fn_0)).trans ((u14 19 q (fn_a (by omega) fn_0)).trans ((u12 19 q (fn_a (by omega) fn_0)).trans ((u10 19 q (fn_a (by omega) fn_0)).trans ((u7 19 q (fn_a (by omega) fn_0)).trans (u4 19 q (fn_a (by omega) fn_0)))))))))))))))).trans (cy_0 y2 (by omega))))
  ·
    refine wi_aload_n (i := 0) (x := 18) (nx := 38) (r1 := 0) (r2 := 0) (r3 := 0) rfl rfl ?_
    refine wr_gr (k0 := 18) (x := 21) (nx := 41) (r1 := 4) (r2 := 3) (r3 := 0) rfl rfl (by decide) rfl ⟨rfl, rfl⟩ rfl ?_
    refine wi_iload_n (i := 2) (e := x6) (nx := 42) (r1 := 0) (r2 := 0) (r3 := 0) rfl rfl ?_
    obtain ⟨i10, ei10⟩ : ∃ q : Nat, x6 = (q : Int) := ⟨(x6).toNat, by omega⟩
    refine wr_aa (k0 := 21) (a := x6) (f := i10) (x := 21 + 8 + 2 * i10) (nx := 43) (r1 := 0) (r2 := 0) (r3 := 0) rfl (by decide) rfl (Or.inl rfl) (by omega) (by omega) (by decide) (hcr.1 21 (by decide) i10 (by omega)) ?_
    obtain ⟨k11, kk11, mk11⟩ : ∃ q, Rw q ∧ q = 21 + 8 + 2 * i10 := ⟨_, rw_lane 21 (by decide) i10 (by omega), rfl⟩
    rw [← mk11]
    refine wi_aload_n (i := 1) (x := 170) (nx := 44) (r1 := 0) (r2 := 0) (r3 := 0) rfl rfl ?_
    refine wr_gr (k0 := 170) (x := 173) (nx := 47) (r1 := 4) (r2 := 3) (r3 := 0) rfl rfl (by decide) rfl ⟨rfl, rfl⟩ rfl ?_
    refine wi_iload_n (i := 2) (e := x6) (nx := 48) (r1 := 0) (r2 := 0) (r3 := 0) rfl rfl ?_
    refine wr_aa (k0 := 173) (a := x6) (f := i10) (x := 173 + 8 + 2 * i10) (nx := 49) (r1 := 0) (r2 := 0) (r3 := 0) rfl (by decide) rfl (Or.inl rfl) (by omega) (by omega) (by decide) (hcr.1 173 (by decide) i10 (by omega)) ?_
    obtain ⟨k12, kk12, mk12⟩ : ∃ q, Rw q ∧ q = 173 + 8 + 2 * i10 := ⟨_, rw_lane 173 (by decide) i10 (by omega), rfl⟩
    rw [← mk12]
    refine wr_V (k0 := k11) (rest := []) (as := [.ref k11, .ref k12]) (nx := 52) (r1 := 155) (r2 := 1) (r3 := 5) rfl rfl rfl (of_decide_eq_true rfl) rfl rfl kk11.k kk11.1 rfl (of_decide_eq_true rfl) (of_decide_eq_true rfl) ?_
    refine ct_155_R_R hcr kk11 kk12 g7    (fun h13 g13 u13 => ?_)
    have v13 := FR.rngp (lo := 29) (hi := 36) u13 (by omega)
    have F14 := F8.then rfl (FR.rngp (lo := 29) (hi := 36) u13 (by omega))
    have F15 := u7.then rfl (FR.rngp (lo := 29) (hi := 36) u13 (by omega))
    refine wk_n ?_
    refine wr_iinc (i := 2) (n := 1) (v := x6) (fun e16 => [(2, vi e16), (0, .ref 18), (1, .ref 170)]) (nx := 55) (r1 := 0) (r2 := 0) (r3 := 0) rfl rfl (fun _ => rfl) (fun e16 (fe16 : e16 = x6 + 1) => ?_)
    refine wi_goto (nx := 58) (r1 := 32) (r2 := 0) (r3 := 0) rfl ?_
    refine wp.lo (lo := [(0, .ref 18), (1, .ref 170), (2, vi e16)]) ⟨rfl, rfl, rfl, trivial⟩ rfl ?_
    exact I7 e16 h13 ⟨g13, F14, F15, (show (0 ≤ e16 ∧ e16 ≤ 4) by omega)⟩ (show ((4 : Int) + 1 - e16).toNat < ((4 : Int) + 1 - x6).toNat by omega)
-- method 132: Line.copyFrom(LPaintBank$Line;)V
set_option maxRecDepth 100000 in
set_option maxHeartbeats 100000000 in
theorem ct_132_18_189 {L : Nat} {xs : Nat → Int32} {d b c : Nat} {h : hp} {cr : Nat → Nat → Option Nat} {Q : hp_Q} (hcr : CR cr)  (g : GI h)   (pp0 : h 18 16 ≤ 2000000000) (k : ∀ (h2 : hp) , GI h2 → FR [(19, 19, none), (20, 20, none), (22, 23, none), (24, 25, none), (26, 27, none), (28, 28, none), (29, 36, none), (18, 18, some (7, 13)), (18, 18, some (15, 16))] h h2 → (h2 18 16 = h 18 16 + 1) → (∀ i : Nat, i < 12 → h2 19 i = h 190 i) → Q (.inl none) (hp_w h2 cr) b c) : wp (md_xa (L, xs)) (d + 1) 132 (0, [(0, .ref 18), (1, .ref 189)], [], hp_w h cr, b, c) Q := by
  have F0 : FR [(19, 19, none), (20, 20, none), (22, 23, none), (24, 25, none), (26, 27, none), (28, 28, none), (29, 36, none), (18, 18, some (7, 13)), (18, 18, some (15, 16))] h h := FR.refl
  have b1 := gi_b (lo := -2147483648) (hi := 2147483647) g 18 16 rfl
  refine wi_aload_n (i := 1) (x := 189) (nx := 1) (r1 := 0) (r2 := 0) (r3 := 0) rfl rfl ?_
  refine wr_gr (k0 := 189) (x := 190) (nx := 4) (r1 := 4) (r2 := 1) (r3 := 0) rfl rfl (by decide) rfl ⟨rfl, rfl⟩ rfl ?_
  refine wi_iconst (n := 0) (nx := 5) (r1 := 0) (r2 := 0) (r3 := 0) rfl ?_
  refine wi_aload_n (i := 0) (x := 18) (nx := 6) (r1 := 0) (r2 := 0) (r3 := 0) rfl rfl ?_
  refine wr_gr (k0 := 18) (x := 19) (nx := 9) (r1 := 4) (r2 := 1) (r3 := 0) rfl rfl (by decide) rfl ⟨rfl, rfl⟩ rfl ?_
  refine wi_iconst (n := 0) (nx := 10) (r1 := 0) (r2 := 0) (r3 := 0) rfl ?_
  refine wi_bipush (n := 12) (nx := 12) (r1 := 0) (r2 := 0) (r3 := 0) rfl (by decide) ?_
  refine wr_cpy (s0 := 190) (d0 := 19) (n0 := 12) (n1 := 12) (sp := 0) (dp := 0) (n := 12) (sl := -2147483648) (sh := 2147483647) (dl := -2147483648) (dh := 2147483647) (nx := 15) (r1 := 0) (r2 := 101) (r3 := 0) rfl rfl (of_decide_eq_true rfl) (by decide) (by decide) rfl rfl (by omega) (fun _ => rfl) (fun _ => rfl) (by omega) g (fun h2 g2 y2 u2 => ?_)
  have F3 := F0.then rfl u2
  refine wi_aload_n (i := 1) (x := 189) (nx := 16) (r1 := 0) (r2 := 0) (r3 := 0) rfl rfl ?_
  refine wr_gr (k0 := 189) (x := 191) (nx := 19) (r1 := 4) (r2 := 2) (r3 := 0) rfl rfl (by decide) rfl ⟨rfl, rfl⟩ rfl ?_
  refine wi_iconst (n := 0) (nx := 20) (r1 := 0) (r2 := 0) (r3 := 0) rfl ?_
  refine wi_aload_n (i := 0) (x := 18) (nx := 21) (r1 := 0) (r2 := 0) (r3 := 0) rfl rfl ?_
  refine wr_gr (k0 := 18) (x := 20) (nx := 24) (r1 := 4) (r2 := 2) (r3 := 0) rfl rfl (by decide) rfl ⟨rfl, rfl⟩ rfl ?_
  refine wi_iconst (n := 0) (nx := 25) (r1 := 0) (r2 := 0) (r3 := 0) rfl ?_
  refine wi_bipush (n := 12) (nx := 27) (r1 := 0) (r2 := 0) (r3 := 0) rfl (by decide) ?_
  refine wr_cpy (s0 := 191) (d0 := 20) (n0 := 12) (n1 := 12) (sp := 0) (dp := 0) (n := 12) (sl := -2147483648) (sh := 2147483647) (dl := -2147483648) (dh := 2147483647) (nx := 30) (r1 := 0) (r2 := 101) (r3 := 0) rfl rfl (of_decide_eq_true rfl) (by decide) (by decide) rfl rfl (by omega) (fun _ => rfl) (fun _ => rfl) (by omega) g2 (fun h4 g4 y4 u4 => ?_)
  have F5 := F3.then rfl u4
  refine wi_iconst (n := 0) (nx := 31) (r1 := 0) (r2 := 0) (r3 := 0) rfl ?_
  refine wi_istore_n (i := 2) (e := 0) (lo2 := [(2, vi 0), (0, .ref 18), (1, .ref 189)]) (nx := 32) (r1 := 0) (r2 := 0) (r3 := 0) rfl rfl ?_
  refine wp.lo (lo := [(0, .ref 18), (1, .ref 189), (2, vi 0)]) ⟨rfl, rfl, rfl, trivial⟩ rfl ?_
  refine wl_1 (fun x6 h7 => GI h7 ∧ FR [(19, 19, none), (20, 20, none), (22, 23, none), (24, 25, none), (26, 27, none), (28, 28, none), (29, 36, none), (18, 18, some (7, 13)), (18, 18, some (15, 16))] h h7 ∧ FR [(29, 36, none)] h4 h7 ∧ ((0 ≤ x6 ∧ x6 ≤ 4))) (fun x6 h7 => ((4 : Int) + 1 - x6).toNat) (fun x6 h7 => (32, [(0, .ref 18), (1, .ref 189), (2, vi x6)], [], hp_w h7 cr, b, c)) ?_ 0 h4 ⟨g4, F5, FR.refl, (show (0 ≤ 0 ∧ 0 ≤ 4) by omega)⟩
  intro x6 h7 ⟨g7, F8, u7, f7⟩ I7
  refine wi_iload_n (i := 2) (e := x6) (nx := 33) (r1 := 0) (r2 := 0) (r3 := 0) rfl rfl ?_
  refine wi_iconst (n := 4) (nx := 34) (r1 := 0) (r2 := 0) (r3 := 0) rfl ?_
  refine wi_icmp (cd := .ge) (nx := 37) (r1 := 58) (r2 := 0) (r3 := 0) rfl (by omega) (by omega) (fun (q9 : 4 ≤ x6) => ?_) (fun (q9 : ¬ (4 ≤ x6)) => ?_)
  ·
    refine wi_aload_n (i := 0) (x := 18) (nx := 59) (r1 := 0) (r2 := 0) (r3 := 0) rfl rfl ?_
    refine wr_gr (k0 := 18) (x := 22) (nx := 62) (r1 := 4) (r2 := 4) (r3 := 0) rfl rfl (by decide) rfl ⟨rfl, rfl⟩ rfl ?_
    refine wi_aload_n (i := 1) (x := 189) (nx := 63) (r1 := 0) (r2 := 0) (r3 := 0) rfl rfl ?_
    refine wr_gr (k0 := 189) (x := 193) (nx := 66) (r1 := 4) (r2 := 4) (r3 := 0) rfl rfl (by decide) rfl ⟨rfl, rfl⟩ rfl ?_
    refine wr_V (k0 := 22) (rest := []) (as := [.ref 22, .ref 193]) (nx := 69) (r1 := 155) (r2 := 1) (r3 := 5) rfl rfl rfl (of_decide_eq_true rfl) rfl rfl (by decide) rfl rfl (of_decide_eq_true rfl) (of_decide_eq_true rfl) ?_
    refine ct_155_R_R hcr rw_22 rw_193 g7    (fun h10 g10 u10 => ?_)
    have F11 := F8.then rfl u10
    refine wk_n ?_
    refine wi_aload_n (i := 0) (x := 18) (nx := 70) (r1 := 0) (r2 := 0) (r3 := 0) rfl rfl ?_
    refine wr_gr (k0 := 18) (x := 24) (nx := 73) (r1 := 4) (r2 := 5) (r3 := 0) rfl rfl (by decide) rfl ⟨rfl, rfl⟩ rfl ?_
    refine wi_aload_n (i := 1) (x := 189) (nx := 74) (r1 := 0) (r2 := 0) (r3 := 0) rfl rfl ?_
    refine wr_gr (k0 := 189) (x := 195) (nx := 77) (r1 := 4) (r2 := 5) (r3 := 0) rfl rfl (by decide) rfl ⟨rfl, rfl⟩ rfl ?_
    refine wr_V (k0 := 24) (rest := []) (as := [.ref 24, .ref 195]) (nx := 80) (r1 := 155) (r2 := 1) (r3 := 5) rfl rfl rfl (of_decide_eq_true rfl) rfl rfl (by decide) rfl rfl (of_decide_eq_true rfl) (of_decide_eq_true rfl) ?_
    refine ct_155_R_R hcr rw_24 rw_195 g10    (fun h12 g12 u12 => ?_)
    have F13 := F11.then rfl u12
    refine wk_n ?_
    refine wi_aload_n (i := 0) (x := 18) (nx := 81) (r1 := 0) (r2 := 0) (r3 := 0) rfl rfl ?_
    refine wr_gr (k0 := 18) (x := 26) (nx := 84) (r1 := 4) (r2 := 6) (r3 := 0) rfl rfl (by decide) rfl ⟨rfl, rfl⟩ rfl ?_
    refine wi_aload_n (i := 1) (x := 189) (nx := 85) (r1 := 0) (r2 := 0) (r3 := 0) rfl rfl ?_
    refine wr_gr (k0 := 189) (x := 197) (nx := 88) (r1 := 4) (r2 := 6) (r3 := 0) rfl rfl (by decide) rfl ⟨rfl, rfl⟩ rfl ?_
    refine wr_V (k0 := 26) (rest := []) (as := [.ref 26, .ref 197]) (nx := 91) (r1 := 155) (r2 := 1) (r3 := 5) rfl rfl rfl (of_decide_eq_true rfl) rfl rfl (by decide) rfl rfl (of_decide_eq_true rfl) (of_decide_eq_true rfl) ?_
    refine ct_155_R_R hcr rw_26 rw_197 g12    (fun h14 g14 u14 => ?_)
    have F15 := F13.then rfl u14
    refine wk_n ?_
    refine wi_aload_n (i := 0) (x := 18) (nx := 92) (r1 := 0) (r2 := 0) (r3 := 0) rfl rfl ?_
    refine wi_aload_n (i := 1) (x := 189) (nx := 93) (r1 := 0) (r2 := 0) (r3 := 0) rfl rfl ?_
    have b16 := gi_b (lo := 0) (hi := 12) g 189 7 rfl
    refine wr_gi0 (k0 := 189) (x := h 189 7) (nx := 96) (r1 := 4) (r2 := 7) (r3 := 0) rfl rfl (by decide) rfl ⟨rfl, rfl⟩ rfl ((u14 189 7 rfl).trans ((u12 189 7 rfl).trans ((u10 189 7 rfl).trans ((u7 189 7 rfl).trans ((u4 189 7 rfl).trans (u2 189 7 rfl)))))) ?_
    refine wr_pf0 (k0 := 18) (x := h 189 7) (bl := 0) (bh := 12) (nx := 99) (r1 := 4) (r2 := 7) (r3 := 0) rfl (by decide) rfl ⟨rfl, rfl⟩ rfl rfl g14 rfl (by omega) (fun h17 g17 w17 u17 => ?_)
    have F18 := F15.then rfl u17
    refine wi_aload_n (i := 0) (x := 18) (nx := 100) (r1 := 0) (r2 := 0) (r3 := 0) rfl rfl ?_
    refine wi_aload_n (i := 1) (x := 189) (nx := 101) (r1 := 0) (r2 := 0) (r3 := 0) rfl rfl ?_
    have b19 := gi_b (lo := -2147483648) (hi := 2147483647) g 189 8 rfl
    refine wr_gi0 (k0 := 189) (x := h 189 8) (nx := 104) (r1 := 4) (r2 := 8) (r3 := 0) rfl rfl (by decide) rfl ⟨rfl, rfl⟩ rfl ((u17 189 8 rfl).trans ((u14 189 8 rfl).trans ((u12 189 8 rfl).trans ((u10 189 8 rfl).trans ((u7 189 8 rfl).trans ((u4 189 8 rfl).trans (u2 189 8 rfl))))))) ?_
    refine wr_pf0 (k0 := 18) (x := h 189 8) (bl := -2147483648) (bh := 2147483647) (nx := 107) (r1 := 4) (r2 := 8) (r3 := 0) rfl (by decide) rfl ⟨rfl, rfl⟩ rfl rfl g17 rfl (by omega) (fun h20 g20 w20 u20 => ?_)
    have F21 := F18.then rfl u20
    refine wi_aload_n (i := 0) (x := 18) (nx := 108) (r1 := 0) (r2 := 0) (r3 := 0) rfl rfl ?_
    refine wi_aload_n (i := 1) (x := 189) (nx := 109) (r1 := 0) (r2 := 0) (r3 := 0) rfl rfl ?_
    have b22 := gi_b (lo := -2147483648) (hi := 2147483647) g 189 9 rfl
    refine wr_gi0 (k0 := 189) (x := h 189 9) (nx := 112) (r1 := 4) (r2 := 9) (r3 := 0) rfl rfl (by decide) rfl ⟨rfl, rfl⟩ rfl ((u20 189 9 rfl).trans ((u17 189 9 rfl).trans ((u14 189 9 rfl).trans ((u12 189 9 rfl).trans ((u10 189 9 rfl).trans ((u7 189 9 rfl).trans ((u4 189 9 rfl).trans (u2 189 9 rfl)))))))) ?_
    refine wr_pf0 (k0 := 18) (x := h 189 9) (bl := -2147483648) (bh := 2147483647) (nx := 115) (r1 := 4) (r2 := 9) (r3 := 0) rfl (by decide) rfl ⟨rfl, rfl⟩ rfl rfl g20 rfl (by omega) (fun h23 g23 w23 u23 => ?_)
    have F24 := F21.then rfl u23
    refine wi_aload_n (i := 0) (x := 18) (nx := 116) (r1 := 0) (r2 := 0) (r3 := 0) rfl rfl ?_
    refine wi_aload_n (i := 1) (x := 189) (nx := 117) (r1 := 0) (r2 := 0) (r3 := 0) rfl rfl ?_
    have b25 := gi_b (lo := -2147483648) (hi := 2147483647) g 189 10 rfl
    refine wr_gi0 (k0 := 189) (x := h 189 10) (nx := 120) (r1 := 4) (r2 := 10) (r3 := 0) rfl rfl (by decide) rfl ⟨rfl, rfl⟩ rfl ((u23 189 10 rfl).trans ((u20 189 10 rfl).trans ((u17 189 10 rfl).trans ((u14 189 10 rfl).trans ((u12 189 10 rfl).trans ((u10 189 10 rfl).trans ((u7 189 10 rfl).trans ((u4 189 10 rfl).trans (u2 189 10 rfl))))))))) ?_
    refine wr_pf0 (k0 := 18) (x := h 189 10) (bl := -2147483648) (bh := 2147483647) (nx := 123) (r1 := 4) (r2 := 10) (r3 := 0) rfl (by decide) rfl ⟨rfl, rfl⟩ rfl rfl g23 rfl (by omega) (fun h26 g26 w26 u26 => ?_)
    have F27 := F24.then rfl u26
    refine wi_aload_n (i := 0) (x := 18) (nx := 124) (r1 := 0) (r2 := 0) (r3 := 0) rfl rfl ?_
    refine wi_aload_n (i := 1) (x := 189) (nx := 125) (r1 := 0) (r2 := 0) (r3 := 0) rfl rfl ?_
    have b28 := gi_b (lo := -2147483648) (hi := 2147483647) g 189 11 rfl
    refine wr_gi0 (k0 := 189) (x := h 189 11) (nx := 128) (r1 := 4) (r2 := 11) (r3 := 0) rfl rfl (by decide) rfl ⟨rfl, rfl⟩ rfl ((u26 189 11 rfl).trans ((u23 189 11 rfl).trans ((u20 189 11 rfl).trans ((u17 189 11 rfl).trans ((u14 189 11 rfl).trans ((u12 189 11 rfl).trans ((u10 189 11 rfl).trans ((u7 189 11 rfl).trans ((u4 189 11 rfl).trans (u2 189 11 rfl)))))))))) ?_
    refine wr_pf0 (k0 := 18) (x := h 189 11) (bl := -2147483648) (bh := 2147483647) (nx := 131) (r1 := 4) (r2 := 11) (r3 := 0) rfl (by decide) rfl ⟨rfl, rfl⟩ rfl rfl g26 rfl (by omega) (fun h29 g29 w29 u29 => ?_)
    have F30 := F27.then rfl u29
    refine wi_aload_n (i := 0) (x := 18) (nx := 132) (r1 := 0) (r2 := 0) (r3 := 0) rfl rfl ?_
    refine wi_aload_n (i := 1) (x := 189) (nx := 133) (r1 := 0) (r2 := 0) (r3 := 0) rfl rfl ?_
    have b31 := gi_b (lo := -2147483648) (hi := 2147483647) g 189 12 rfl
    refine wr_gi0 (k0 := 189) (x := h 189 12) (nx := 136) (r1 := 4) (r2 := 12) (r3 := 0) rfl rfl (by decide) rfl ⟨rfl, rfl⟩ rfl ((u29 189 12 rfl).trans ((u26 189 12 rfl).trans ((u23 189 12 rfl).trans ((u20 189 12 rfl).trans ((u17 189 12 rfl).trans ((u14 189 12 rfl).trans ((u12 189 12 rfl).trans ((u10 189 12 rfl).trans ((u7 189 12 rfl).trans ((u4 189 12 rfl).trans (u2 189 12 rfl))))))))))) ?_
    refine wr_pf0 (k0 := 18) (x := h 189 12) (bl := -2147483648) (bh := 2147483647) (nx := 139) (r1 := 4) (r2 := 12) (r3 := 0) rfl (by decide) rfl ⟨rfl, rfl⟩ rfl rfl g29 rfl (by omega) (fun h32 g32 w32 u32 => ?_)
    have F33 := F30.then rfl u32
    refine wi_aload_n (i := 0) (x := 18) (nx := 140) (r1 := 0) (r2 := 0) (r3 := 0) rfl rfl ?_
    refine wi_aload_n (i := 1) (x := 189) (nx := 141) (r1 := 0) (r2 := 0) (r3 := 0) rfl rfl ?_
    have b34 := gi_b (lo := -2147483648) (hi := 2147483647) g 189 13 rfl
    refine wr_gi0 (k0 := 189) (x := h 189 13) (nx := 144) (r1 := 4) (r2 := 13) (r3 := 0) rfl rfl (by decide) rfl ⟨rfl, rfl⟩ rfl ((u32 189 13 rfl).trans ((u29 189 13 rfl).trans ((u26 189 13 rfl).trans ((u23 189 13 rfl).trans ((u20 189 13 rfl).trans ((u17 189 13 rfl).trans ((u14 189 13 rfl).trans ((u12 189 13 rfl).trans ((u10 189 13 rfl).trans ((u7 189 13 rfl).trans ((u4 189 13 rfl).trans (u2 189 13 rfl)))))))))))) ?_
    refine wr_pf0 (k0 := 18) (x := h 189 13) (bl := -2147483648) (bh := 2147483647) (nx := 147) (r1 := 4) (r2 := 13) (r3 := 0) rfl (by decide) rfl ⟨rfl, rfl⟩ rfl rfl g32 rfl (by omega) (fun h35 g35 w35 u35 => ?_)
    have F36 := F33.then rfl u35
    refine wi_aload_n (i := 1) (x := 189) (nx := 148) (r1 := 0) (r2 := 0) (r3 := 0) rfl rfl ?_
    refine wr_gr (k0 := 189) (x := 199) (nx := 151) (r1 := 4) (r2 := 14) (r3 := 0) rfl rfl (by decide) rfl ⟨rfl, rfl⟩ rfl ?_
    refine wi_iconst (n := 0) (nx := 152) (r1 := 0) (r2 := 0) (r3 := 0) rfl ?_
    refine wi_aload_n (i := 0) (x := 18) (nx := 153) (r1 := 0) (r2 := 0) (r3 := 0) rfl rfl ?_
    refine wr_gr (k0 := 18) (x := 28) (nx := 156) (r1 := 4) (r2 := 14) (r3 := 0) rfl rfl (by decide) rfl ⟨rfl, rfl⟩ rfl ?_
    refine wi_iconst (n := 0) (nx := 157) (r1 := 0) (r2 := 0) (r3 := 0) rfl ?_
    refine wi_aload_n (i := 0) (x := 18) (nx := 158) (r1 := 0) (r2 := 0) (r3 := 0) rfl rfl ?_
    refine wr_gr (k0 := 18) (x := 28) (nx := 161) (r1 := 4) (r2 := 14) (r3 := 0) rfl rfl (by decide) rfl ⟨rfl, rfl⟩ rfl ?_
    refine wr_al (k0 := 28) (e := 144) (nx := 162) (r1 := 0) (r2 := 0) (r3 := 0) rfl (by decide) rfl rfl ?_
    refine wr_cpy (s0 := 199) (d0 := 28) (n0 := 144) (n1 := 144) (sp := 0) (dp := 0) (n := 144) (sl := -2147483648) (sh := 2147483647) (dl := -2147483648) (dh := 2147483647) (nx := 165) (r1 := 0) (r2 := 101) (r3 := 0) rfl rfl (of_decide_eq_true rfl) (by decide) (by decide) rfl rfl (by omega) (fun _ => rfl) (fun _ => rfl) (by omega) g35 (fun h37 g37 y37 u37 => ?_)
    have F38 := F36.then rfl u37
    refine wi_aload_n (i := 0) (x := 18) (nx := 166) (r1 := 0) (r2 := 0) (r3 := 0) rfl rfl ?_
    refine wi_aload_n (i := 1) (x := 189) (nx := 167) (r1 := 0) (r2 := 0) (r3 := 0) rfl rfl ?_
    have b39 := gi_b (lo := 0) (hi := 36) g 189 15 rfl
    refine wr_gi0 (k0 := 189) (x := h 189 15) (nx := 170) (r1 := 4) (r2 := 15) (r3 := 0) rfl rfl (by decide) rfl ⟨rfl, rfl⟩ rfl ((u37 189 15 rfl).trans ((u35 189 15 rfl).trans ((u32 189 15 rfl).trans ((u29 189 15 rfl).trans ((u26 189 15 rfl).trans ((u23 189 15 rfl).trans ((u20 189 15 rfl).trans ((u17 189 15 rfl).trans ((u14 189 15 rfl).trans ((u12 189 15 rfl).trans ((u10 189 15 rfl).trans ((u7 189 15 rfl).trans ((u4 189 15 rfl).trans (u2 189 15 rfl)))))))))))))) ?_
    refine wr_pf0 (k0 := 18) (x := h 189 15) (bl := 0) (bh := 36) (nx := 173) (r1 := 4) (r2 := 15) (r3 := 0) rfl (by decide) rfl ⟨rfl, rfl⟩ rfl rfl g37 rfl (by omega) (fun h40 g40 w40 u40 => ?_)
    have F41 := F38.then rfl u40
    refine wi_aload_n (i := 0) (x := 18) (nx := 174) (r1 := 0) (r2 := 0) (r3 := 0) rfl rfl ?_
    refine wi_dup (nx := 175) (r1 := 0) (r2 := 0) (r3 := 0) rfl rfl ?_
    refine wr_gi0 (k0 := 18) (x := h 18 16) (nx := 178) (r1 := 4) (r2 := 16) (r3 := 0) rfl rfl (by decide) rfl ⟨rfl, rfl⟩ rfl ((u40 18 16 rfl).trans ((u37 18 16 rfl).trans ((u35 18 16 rfl).trans ((u32 18 16 rfl).trans ((u29 18 16 rfl).trans ((u26 18 16 rfl).trans ((u23 18 16 rfl).trans ((u20 18 16 rfl).trans ((u17 18 16 rfl).trans ((u14 18 16 rfl).trans ((u12 18 16 rfl).trans ((u10 18 16 rfl).trans ((u7 18 16 rfl).trans ((u4 18 16 rfl).trans (u2 18 16 rfl))))))))))))))) ?_
    refine wi_iconst (n := 1) (nx := 179) (r1 := 0) (r2 := 0) (r3 := 0) rfl ?_
    refine wr_add (nx := 180) (r1 := 0) (r2 := 0) (r3 := 0) rfl (fun e42 (fe42 : e42 = (h 18 16) + 1) => ?_)
    refine wr_pf0 (k0 := 18) (x := e42) (bl := -2147483648) (bh := 2147483647) (nx := 183) (r1 := 4) (r2 := 16) (r3 := 0) rfl (by decide) rfl ⟨rfl, rfl⟩ rfl rfl g40 rfl (by omega) (fun h43 g43 w43 u43 => ?_)
    have F44 := F41.then rfl u43
    refine wi_return (nx := 184) (r1 := 0) (r2 := 0) (r3 := 0) rfl rfl ?_
    have e45 : h43 18 16 = e42 := w43
    exact k h43 g43 F44 (show (h43 18 16) = (h 18 16) + 1 by omega) (fun q e => (((u43 19 q (fn_a (by omega) fn_0)).trans ((u40 19 q (fn_a (by omega) fn_0)).trans ((u37 19 q (fn_a (by omega) fn_0)).trans ((u35 19 q (fn_a (by omega) fn_0)).trans ((u32 19 q (fn_a (by omega) fn_0)).trans ((u29 19 q (fn_a (by omega) fn_0)).trans ((u26 19 q (fn_a (by omega) fn_0)).trans ((u23 19 q (fn_a (by omega) fn_0)).trans ((u20 19 q (fn_a (by omega) fn_0)).trans ((u17 19 q (fn_a (by omega) fn_0)).trans ((u14 19 q (fn_a (by omega) fn_0)).trans ((u12 19 q (fn_a (by omega) fn_0)).trans ((u10 19 q (fn_a (by omega) fn_0)).trans ((u7 19 q (fn_a (by omega) fn_0)).trans (u4 19 q (fn_a (by omega) fn_0)))))))))))))))).trans (cy_0 y2 (by omega))))
  ·
    refine wi_aload_n (i := 0) (x := 18) (nx := 38) (r1 := 0) (r2 := 0) (r3 := 0) rfl rfl ?_
    refine wr_gr (k0 := 18) (x := 21) (nx := 41) (r1 := 4) (r2 := 3) (r3 := 0) rfl rfl (by decide) rfl ⟨rfl, rfl⟩ rfl ?_
    refine wi_iload_n (i := 2) (e := x6) (nx := 42) (r1 := 0) (r2 := 0) (r3 := 0) rfl rfl ?_
    obtain ⟨i10, ei10⟩ : ∃ q : Nat, x6 = (q : Int) := ⟨(x6).toNat, by omega⟩
    refine wr_aa (k0 := 21) (a := x6) (f := i10) (x := 21 + 8 + 2 * i10) (nx := 43) (r1 := 0) (r2 := 0) (r3 := 0) rfl (by decide) rfl (Or.inl rfl) (by omega) (by omega) (by decide) (hcr.1 21 (by decide) i10 (by omega)) ?_
    obtain ⟨k11, kk11, mk11⟩ : ∃ q, Rw q ∧ q = 21 + 8 + 2 * i10 := ⟨_, rw_lane 21 (by decide) i10 (by omega), rfl⟩
    rw [← mk11]
    refine wi_aload_n (i := 1) (x := 189) (nx := 44) (r1 := 0) (r2 := 0) (r3 := 0) rfl rfl ?_
    refine wr_gr (k0 := 189) (x := 192) (nx := 47) (r1 := 4) (r2 := 3) (r3 := 0) rfl rfl (by decide) rfl ⟨rfl, rfl⟩ rfl ?_
    refine wi_iload_n (i := 2) (e := x6) (nx := 48) (r1 := 0) (r2 := 0) (r3 := 0) rfl rfl ?_
    refine wr_aa (k0 := 192) (a := x6) (f := i10) (x := 192 + 8 + 2 * i10) (nx := 49) (r1 := 0) (r2 := 0) (r3 := 0) rfl (by decide) rfl (Or.inl rfl) (by omega) (by omega) (by decide) (hcr.1 192 (by decide) i10 (by omega)) ?_
    obtain ⟨k12, kk12, mk12⟩ : ∃ q, Rw q ∧ q = 192 + 8 + 2 * i10 := ⟨_, rw_lane 192 (by decide) i10 (by omega), rfl⟩
    rw [← mk12]
    refine wr_V (k0 := k11) (rest := []) (as := [.ref k11, .ref k12]) (nx := 52) (r1 := 155) (r2 := 1) (r3 := 5) rfl rfl rfl (of_decide_eq_true rfl) rfl rfl kk11.k kk11.1 rfl (of_decide_eq_true rfl) (of_decide_eq_true rfl) ?_
    refine ct_155_R_R hcr kk11 kk12 g7    (fun h13 g13 u13 => ?_)
    have v13 := FR.rngp (lo := 29) (hi := 36) u13 (by omega)
    have F14 := F8.then rfl (FR.rngp (lo := 29) (hi := 36) u13 (by omega))
    have F15 := u7.then rfl (FR.rngp (lo := 29) (hi := 36) u13 (by omega))
    refine wk_n ?_
    refine wr_iinc (i := 2) (n := 1) (v := x6) (fun e16 => [(2, vi e16), (0, .ref 18), (1, .ref 189)]) (nx := 55) (r1 := 0) (r2 := 0) (r3 := 0) rfl rfl (fun _ => rfl) (fun e16 (fe16 : e16 = x6 + 1) => ?_)
    refine wi_goto (nx := 58) (r1 := 32) (r2 := 0) (r3 := 0) rfl ?_
    refine wp.lo (lo := [(0, .ref 18), (1, .ref 189), (2, vi e16)]) ⟨rfl, rfl, rfl, trivial⟩ rfl ?_
    exact I7 e16 h13 ⟨g13, F14, F15, (show (0 ≤ e16 ∧ e16 ≤ 4) by omega)⟩ (show ((4 : Int) + 1 - e16).toNat < ((4 : Int) + 1 - x6).toNat by omega)
-- method 59: Bank.undo()I
set_option maxRecDepth 100000 in
set_option maxHeartbeats 100000000 in
theorem ct_59_0 {L : Nat} {xs : Nat → Int32} {d b c : Nat} {h : hp} {cr : Nat → Nat → Option Nat} {Q : hp_Q} (hcr : CR cr)  (g : GI h)   (pp0 : h 63 5 ≤ h 18 16) (pp1 : h 63 5 < h 18 16 ∨ (h 18 7 ≤ h 3 2 ∧ h 66 1 = h 3 2 - h 18 7) ∨ (h 3 2 < h 18 7 ∧ h 66 1 = 0)) (pp2 : 0 ≤ h 3 9) (pp3 : h 18 16 ≤ 1900000000) (xq0 : MCI h) (k : ∀ (h2 : hp) (z0 : Int) , GI h2 → FR [(19, 19, none), (20, 20, none), (22, 23, none), (24, 25, none), (26, 27, none), (28, 28, none), (29, 36, none), (18, 18, some (7, 13)), (18, 18, some (15, 16)), (73, 73, some (1, 2))] h h2 → (-1 ≤ z0 ∧ z0 ≤ 5) → (h2 63 5 ≤ h2 18 16) → (h2 63 5 < h2 18 16 ∨ (h2 18 7 ≤ h2 3 2 ∧ h2 66 1 = h2 3 2 - h2 18 7) ∨ (h2 3 2 < h2 18 7 ∧ h2 66 1 = 0)) → (h 18 16 ≤ h2 18 16 ∧ h2 18 16 ≤ h 18 16 + 1) → (MCI h2) → Q (.inl (some (vi z0))) (hp_w h2 cr) b c) : wp (md_xa (L, xs)) (d + 3) 59 (0, [(0, .ref 0)], [], hp_w h cr, b, c) Q := by
  have F0 : FR [(19, 19, none), (20, 20, none), (22, 23, none), (24, 25, none), (26, 27, none), (28, 28, none), (29, 36, none), (18, 18, some (7, 13)), (18, 18, some (15, 16)), (73, 73, some (1, 2))] h h := FR.refl
  have b1 := gi_b (lo := -2147483648) (hi := 2147483647) g 63 5 rfl
  have b2 := gi_b (lo := -2147483648) (hi := 2147483647) g 18 16 rfl
  have b3 := gi_b (lo := 0) (hi := 12) g 18 7 rfl
  have b4 := gi_b (lo := 0) (hi := 12) g 3 2 rfl
  have b5 := gi_b (lo := 0) (hi := 12) g 66 1 rfl
  have b6 := gi_b (lo := -2147483648) (hi := 2147483647) g 3 9 rfl
  refine wi_aload_n (i := 0) (x := 0) (nx := 1) (r1 := 0) (r2 := 0) (r3 := 0) rfl rfl ?_
  refine wr_gr (k0 := 0) (x := 73) (nx := 4) (r1 := 0) (r2 := 8) (r3 := 0) rfl rfl (by decide) rfl ⟨rfl, rfl⟩ rfl ?_
  refine wi_aload_n (i := 0) (x := 0) (nx := 5) (r1 := 0) (r2 := 0) (r3 := 0) rfl rfl ?_
  refine wr_gr (k0 := 0) (x := 18) (nx := 8) (r1 := 0) (r2 := 3) (r3 := 0) rfl rfl (by decide) rfl ⟨rfl, rfl⟩ rfl ?_
  refine wr_V (k0 := 73) (rest := []) (as := [.ref 73, .ref 18]) (nx := 11) (r1 := 194) (r2 := 1) (r3 := 9) rfl rfl rfl (of_decide_eq_true rfl) rfl rfl (by decide) rfl rfl (of_decide_eq_true rfl) (of_decide_eq_true rfl) ?_
  refine wi_aload_n (i := 0) (x := 73) (nx := 1) (r1 := 0) (r2 := 0) (r3 := 0) rfl rfl ?_
  have b7 := gi_b (lo := 0) (hi := 6) g 73 2 rfl
  refine wr_gi0 (k0 := 73) (x := h 73 2) (nx := 4) (r1 := 9) (r2 := 2) (r3 := 0) rfl rfl (by decide) rfl ⟨rfl, rfl⟩ rfl rfl ?_
  refine wi_if (cd := .ne) (nx := 7) (r1 := 9) (r2 := 0) (r3 := 0) rfl (by omega) (fun (q8 : (h 73 2) ≠ 0) => ?_) (fun (q8 : ¬ ((h 73 2) ≠ 0)) => ?_)
  ·
    refine wi_aload_n (i := 0) (x := 73) (nx := 10) (r1 := 0) (r2 := 0) (r3 := 0) rfl rfl ?_
    refine wi_aload_n (i := 0) (x := 73) (nx := 11) (r1 := 0) (r2 := 0) (r3 := 0) rfl rfl ?_
    have b9 := gi_b (lo := 0) (hi := 6) g 73 1 rfl
    refine wr_gi0 (k0 := 73) (x := h 73 1) (nx := 14) (r1 := 9) (r2 := 1) (r3 := 0) rfl rfl (by decide) rfl ⟨rfl, rfl⟩ rfl rfl ?_
    refine wi_bipush (n := 6) (nx := 16) (r1 := 0) (r2 := 0) (r3 := 0) rfl (by decide) ?_
    refine wr_add (nx := 17) (r1 := 0) (r2 := 0) (r3 := 0) rfl (fun e10 (fe10 : e10 = (h 73 1) + 6) => ?_)
    refine wi_bipush (n := 7) (nx := 19) (r1 := 0) (r2 := 0) (r3 := 0) rfl (by decide) ?_
    refine wr_iremC (nx := 20) (r1 := 0) (r2 := 0) (r3 := 0) rfl (by omega) (by decide) (fun e11 (fe11 : e11 = e10 % 7) => ?_)
    refine wr_pf0 (k0 := 73) (x := e11) (bl := 0) (bh := 6) (nx := 23) (r1 := 9) (r2 := 1) (r3 := 0) rfl (by decide) rfl ⟨rfl, rfl⟩ rfl rfl g rfl (by omega) (fun h12 g12 w12 u12 => ?_)
    have F13 := F0.then rfl u12
    refine wi_aload_n (i := 0) (x := 73) (nx := 24) (r1 := 0) (r2 := 0) (r3 := 0) rfl rfl ?_
    refine wi_dup (nx := 25) (r1 := 0) (r2 := 0) (r3 := 0) rfl rfl ?_
    refine wr_gi0 (k0 := 73) (x := h 73 2) (nx := 28) (r1 := 9) (r2 := 2) (r3 := 0) rfl rfl (by decide) rfl ⟨rfl, rfl⟩ rfl (u12 73 2 rfl) ?_
    refine wi_iconst (n := 1) (nx := 29) (r1 := 0) (r2 := 0) (r3 := 0) rfl ?_
    refine wr_sub (nx := 30) (r1 := 0) (r2 := 0) (r3 := 0) rfl (fun e14 (fe14 : e14 = (h 73 2) - 1) => ?_)
    refine wr_pf0 (k0 := 73) (x := e14) (bl := 0) (bh := 6) (nx := 33) (r1 := 9) (r2 := 2) (r3 := 0) rfl (by decide) rfl ⟨rfl, rfl⟩ rfl rfl g12 rfl (by omega) (fun h15 g15 w15 u15 => ?_)
    have F16 := F13.then rfl u15
    refine wi_aload_n (i := 1) (x := 18) (nx := 34) (r1 := 0) (r2 := 0) (r3 := 0) rfl rfl ?_
    refine wi_aload_n (i := 0) (x := 73) (nx := 35) (r1 := 0) (r2 := 0) (r3 := 0) rfl rfl ?_
    refine wr_gr (k0 := 73) (x := 74) (nx := 38) (r1 := 9) (r2 := 0) (r3 := 0) rfl rfl (by decide) rfl ⟨rfl, rfl⟩ rfl ?_
    refine wi_aload_n (i := 0) (x := 73) (nx := 39) (r1 := 0) (r2 := 0) (r3 := 0) rfl rfl ?_
    refine wr_gi0 (k0 := 73) (x := e11) (nx := 42) (r1 := 9) (r2 := 1) (r3 := 0) rfl rfl (by decide) rfl ⟨rfl, rfl⟩ rfl ((u15 73 1 rfl).trans w12) ?_
    obtain ⟨i17, ei17⟩ : ∃ q : Nat, e11 = (q : Int) := ⟨(e11).toNat, by omega⟩
    rcases (show e11 = 0 ∨ e11 = 1 ∨ e11 = 2 ∨ e11 = 3 ∨ e11 = 4 ∨ e11 = 5 ∨ e11 = 6 by omega) with q18 | q18 | q18 | q18 | q18 | q18 | q18
    ·
      refine wr_aa (k0 := 74) (a := e11) (f := 0) (x := 75) (nx := 43) (r1 := 0) (r2 := 0) (r3 := 0) rfl (by decide) rfl (Or.inr rfl) (by omega) (by decide) (by decide) (hcr.2 0 (by decide)) ?_
      refine wr_V (k0 := 18) (rest := []) (as := [.ref 18, .ref 75]) (nx := 46) (r1 := 132) (r2 := 1) (r3 := 4) rfl rfl rfl (of_decide_eq_true rfl) rfl rfl (by decide) rfl rfl (of_decide_eq_true rfl) (of_decide_eq_true rfl) ?_
      have e20 : h15 18 16 = h 18 16 := ((u15 18 16 rfl).trans (u12 18 16 rfl))
      refine ct_132_18_75 hcr  g15   (show (h15 18 16) ≤ 2000000000 by omega) (fun h19 g19 u19 (p19_0 : (h19 18 16) = (h15 18 16) + 1) y19_0 => ?_)
      have F21 := F16.then (by decide +kernel) u19
      have b22 := gi_b (lo := -2147483648) (hi := 2147483647) g19 18 16 rfl
      refine wk_n ?_
      refine wi_iconst (n := 1) (nx := 47) (r1 := 0) (r2 := 0) (r3 := 0) rfl ?_
      refine wi_zreturn (nx := 48) (r1 := 0) (r2 := 0) (r3 := 0) rfl rfl (by omega) ?_
      refine wk_i ?_
      refine wi_if (cd := .eq) (nx := 14) (r1 := 24) (r2 := 0) (r3 := 0) rfl (by omega) (fun (q23 : 1 = 0) => by exfalso; omega) (fun (q23 : ¬ (1 = 0)) => ?_)
      refine wi_aload_n (i := 0) (x := 0) (nx := 15) (r1 := 0) (r2 := 0) (r3 := 0) rfl rfl ?_
      refine wr_gr (k0 := 0) (x := 73) (nx := 18) (r1 := 0) (r2 := 8) (r3 := 0) rfl rfl (by decide) rfl ⟨rfl, rfl⟩ rfl ?_
      refine wr_gi0 (k0 := 73) (x := e14) (nx := 21) (r1 := 9) (r2 := 2) (r3 := 0) rfl rfl (by decide) rfl ⟨rfl, rfl⟩ rfl ((u19 73 2 rfl).trans w15) ?_
      refine wi_goto (nx := 24) (r1 := 25) (r2 := 0) (r3 := 0) rfl ?_
      refine wi_ireturn (nx := 26) (r1 := 0) (r2 := 0) (r3 := 0) rfl rfl ?_
      have e24 : h19 63 5 = h 63 5 := ((u19 63 5 rfl).trans ((u15 63 5 rfl).trans (u12 63 5 rfl)))
      have b25 := gi_b (lo := 0) (hi := 12) g19 18 7 rfl
      have e26 : h19 3 2 = h 3 2 := ((u19 3 2 rfl).trans ((u15 3 2 rfl).trans (u12 3 2 rfl)))
      have e27 : h19 66 1 = h 66 1 := ((u19 66 1 rfl).trans ((u15 66 1 rfl).trans (u12 66 1 rfl)))
      have q28 : h19 8 = h 8 := funext (fun i => ((u19 8 i (fo_no_ok (by decide) i)).trans ((u15 8 i rfl).trans (u12 8 i rfl))))
      have q29 : h19 7 = h 7 := funext (fun i => ((u19 7 i (fo_no_ok (by decide) i)).trans ((u15 7 i rfl).trans (u12 7 i rfl))))
      have e30 : h19 73 1 = e11 := ((u19 73 1 rfl).trans ((u15 73 1 rfl).trans w12))
      have e31 : h19 73 2 = e14 := ((u19 73 2 rfl).trans w15)
      have q33 : h19 69 = h 69 := funext (fun i => ((u19 69 i (fo_no_ok (by decide) i)).trans ((u15 69 i rfl).trans (u12 69 i rfl))))
      have q34 : h19 70 = h 70 := funext (fun i => ((u19 70 i (fo_no_ok (by decide) i)).trans ((u15 70 i rfl).trans (u12 70 i rfl))))
      have nb32 : NBc (h19 69) (h19 70) := by rw [q33, q34]; exact xq0.2.2
      exact k h19 e14 g19 F21 (by omega) (show (h19 63 5) ≤ (h19 18 16) by omega) (show (h19 63 5) < (h19 18 16) ∨ ((h19 18 7) ≤ (h19 3 2) ∧ (h19 66 1) = (h19 3 2) - (h19 18 7)) ∨ ((h19 3 2) < (h19 18 7) ∧ (h19 66 1) = 0) by omega) (show (h 18 16) ≤ (h19 18 16) ∧ (h19 18 16) ≤ (h 18 16) + 1 by omega) ⟨MCL.gone xq0.1 (MSL.mv (xq0.2.1 0 (by decide) (by unfold hv; omega)) (L2 := 18) q28 q29 (by omega) (by omega) (fun i hi => ((y19_0 i hi).trans ((u15 76 i (fn_a (by omega) fn_0)).trans (u12 76 i (fn_a (by omega) fn_0)))))) q29 (by omega) (by omega), HIv.back xq0.2.1 q28 q29 (by omega) (by omega) (sv_seven (P := fun x => ∀ i, h19 (76 + 19 * x) i = h (76 + 19 * x) i) (fun i => ((u19 76 i (fo_nk rfl)).trans ((u15 76 i (fn_a (by omega) fn_0)).trans (u12 76 i (fn_a (by omega) fn_0))))) (fun i => ((u19 95 i (fo_nk rfl)).trans ((u15 95 i (fn_a (by omega) fn_0)).trans (u12 95 i (fn_a (by omega) fn_0))))) (fun i => ((u19 114 i (fo_nk rfl)).trans ((u15 114 i (fn_a (by omega) fn_0)).trans (u12 114 i (fn_a (by omega) fn_0))))) (fun i => ((u19 133 i (fo_nk rfl)).trans ((u15 133 i (fn_a (by omega) fn_0)).trans (u12 133 i (fn_a (by omega) fn_0))))) (fun i => ((u19 152 i (fo_nk rfl)).trans ((u15 152 i (fn_a (by omega) fn_0)).trans (u12 152 i (fn_a (by omega) fn_0))))) (fun i => ((u19 171 i (fo_nk rfl)).trans ((u15 171 i (fn_a (by omega) fn_0)).trans (u12 171 i (fn_a (by omega) fn_0))))) (fun i => ((u19 190 i (fo_nk rfl)).trans ((u15 190 i (fn_a (by omega) fn_0)).trans (u12 190 i (fn_a (by omega) fn_0)))))) (by omega) (by omega), nb32⟩
    ·
      refine wr_aa (k0 := 74) (a := e11) (f := 1) (x := 94) (nx := 43) (r1 := 0) (r2 := 0) (r3 := 0) rfl (by decide) rfl (Or.inr rfl) (by omega) (by decide) (by decide) (hcr.2 1 (by decide)) ?_
      refine wr_V (k0 := 18) (rest := []) (as := [.ref 18, .ref 94]) (nx := 46) (r1 := 132) (r2 := 1) (r3 := 4) rfl rfl rfl (of_decide_eq_true rfl) rfl rfl (by decide) rfl rfl (of_decide_eq_true rfl) (of_decide_eq_true rfl) ?_
      have e20 : h15 18 16 = h 18 16 := ((u15 18 16 rfl).trans (u12 18 16 rfl))
      refine ct_132_18_94 hcr  g15   (show (h15 18 16) ≤ 2000000000 by omega) (fun h19 g19 u19 (p19_0 : (h19 18 16) = (h15 18 16) + 1) y19_0 => ?_)
      have F21 := F16.then (by decide +kernel) u19
      have b22 := gi_b (lo := -2147483648) (hi := 2147483647) g19 18 16 rfl
      refine wk_n ?_
      refine wi_iconst (n := 1) (nx := 47) (r1 := 0) (r2 := 0) (r3 := 0) rfl ?_
      refine wi_zreturn (nx := 48) (r1 := 0) (r2 := 0) (r3 := 0) rfl rfl (by omega) ?_
      refine wk_i ?_
      refine wi_if (cd := .eq) (nx := 14) (r1 := 24) (r2 := 0) (r3 := 0) rfl (by omega) (fun (q23 : 1 = 0) => by exfalso; omega) (fun (q23 : ¬ (1 = 0)) => ?_)
      refine wi_aload_n (i := 0) (x := 0) (nx := 15) (r1 := 0) (r2 := 0) (r3 := 0) rfl rfl ?_
      refine wr_gr (k0 := 0) (x := 73) (nx := 18) (r1 := 0) (r2 := 8) (r3 := 0) rfl rfl (by decide) rfl ⟨rfl, rfl⟩ rfl ?_
      refine wr_gi0 (k0 := 73) (x := e14) (nx := 21) (r1 := 9) (r2 := 2) (r3 := 0) rfl rfl (by decide) rfl ⟨rfl, rfl⟩ rfl ((u19 73 2 rfl).trans w15) ?_
      refine wi_goto (nx := 24) (r1 := 25) (r2 := 0) (r3 := 0) rfl ?_
      refine wi_ireturn (nx := 26) (r1 := 0) (r2 := 0) (r3 := 0) rfl rfl ?_
      have e24 : h19 63 5 = h 63 5 := ((u19 63 5 rfl).trans ((u15 63 5 rfl).trans (u12 63 5 rfl)))
      have b25 := gi_b (lo := 0) (hi := 12) g19 18 7 rfl
      have e26 : h19 3 2 = h 3 2 := ((u19 3 2 rfl).trans ((u15 3 2 rfl).trans (u12 3 2 rfl)))
      have e27 : h19 66 1 = h 66 1 := ((u19 66 1 rfl).trans ((u15 66 1 rfl).trans (u12 66 1 rfl)))
      have q28 : h19 8 = h 8 := funext (fun i => ((u19 8 i (fo_no_ok (by decide) i)).trans ((u15 8 i rfl).trans (u12 8 i rfl))))
      have q29 : h19 7 = h 7 := funext (fun i => ((u19 7 i (fo_no_ok (by decide) i)).trans ((u15 7 i rfl).trans (u12 7 i rfl))))
      have e30 : h19 73 1 = e11 := ((u19 73 1 rfl).trans ((u15 73 1 rfl).trans w12))
      have e31 : h19 73 2 = e14 := ((u19 73 2 rfl).trans w15)
      have q33 : h19 69 = h 69 := funext (fun i => ((u19 69 i (fo_no_ok (by decide) i)).trans ((u15 69 i rfl).trans (u12 69 i rfl))))
      have q34 : h19 70 = h 70 := funext (fun i => ((u19 70 i (fo_no_ok (by decide) i)).trans ((u15 70 i rfl).trans (u12 70 i rfl))))
      have nb32 : NBc (h19 69) (h19 70) := by rw [q33, q34]; exact xq0.2.2
      exact k h19 e14 g19 F21 (by omega) (show (h19 63 5) ≤ (h19 18 16) by omega) (show (h19 63 5) < (h19 18 16) ∨ ((h19 18 7) ≤ (h19 3 2) ∧ (h19 66 1) = (h19 3 2) - (h19 18 7)) ∨ ((h19 3 2) < (h19 18 7) ∧ (h19 66 1) = 0) by omega) (show (h 18 16) ≤ (h19 18 16) ∧ (h19 18 16) ≤ (h 18 16) + 1 by omega) ⟨MCL.gone xq0.1 (MSL.mv (xq0.2.1 1 (by decide) (by unfold hv; omega)) (L2 := 18) q28 q29 (by omega) (by omega) (fun i hi => ((y19_0 i hi).trans ((u15 95 i (fn_a (by omega) fn_0)).trans (u12 95 i (fn_a (by omega) fn_0)))))) q29 (by omega) (by omega), HIv.back xq0.2.1 q28 q29 (by omega) (by omega) (sv_seven (P := fun x => ∀ i, h19 (76 + 19 * x) i = h (76 + 19 * x) i) (fun i => ((u19 76 i (fo_nk rfl)).trans ((u15 76 i (fn_a (by omega) fn_0)).trans (u12 76 i (fn_a (by omega) fn_0))))) (fun i => ((u19 95 i (fo_nk rfl)).trans ((u15 95 i (fn_a (by omega) fn_0)).trans (u12 95 i (fn_a (by omega) fn_0))))) (fun i => ((u19 114 i (fo_nk rfl)).trans ((u15 114 i (fn_a (by omega) fn_0)).trans (u12 114 i (fn_a (by omega) fn_0))))) (fun i => ((u19 133 i (fo_nk rfl)).trans ((u15 133 i (fn_a (by omega) fn_0)).trans (u12 133 i (fn_a (by omega) fn_0))))) (fun i => ((u19 152 i (fo_nk rfl)).trans ((u15 152 i (fn_a (by omega) fn_0)).trans (u12 152 i (fn_a (by omega) fn_0))))) (fun i => ((u19 171 i (fo_nk rfl)).trans ((u15 171 i (fn_a (by omega) fn_0)).trans (u12 171 i (fn_a (by omega) fn_0))))) (fun i => ((u19 190 i (fo_nk rfl)).trans ((u15 190 i (fn_a (by omega) fn_0)).trans (u12 190 i (fn_a (by omega) fn_0)))))) (by omega) (by omega), nb32⟩
    ·
      refine wr_aa (k0 := 74) (a := e11) (f := 2) (x := 113) (nx := 43) (r1 := 0) (r2 := 0) (r3 := 0) rfl (by decide) rfl (Or.inr rfl) (by omega) (by decide) (by decide) (hcr.2 2 (by decide)) ?_
      refine wr_V (k0 := 18) (rest := []) (as := [.ref 18, .ref 113]) (nx := 46) (r1 := 132) (r2 := 1) (r3 := 4) rfl rfl rfl (of_decide_eq_true rfl) rfl rfl (by decide) rfl rfl (of_decide_eq_true rfl) (of_decide_eq_true rfl) ?_
      have e20 : h15 18 16 = h 18 16 := ((u15 18 16 rfl).trans (u12 18 16 rfl))
      refine ct_132_18_113 hcr  g15   (show (h15 18 16) ≤ 2000000000 by omega) (fun h19 g19 u19 (p19_0 : (h19 18 16) = (h15 18 16) + 1) y19_0 => ?_)
      have F21 := F16.then (by decide +kernel) u19
      have b22 := gi_b (lo := -2147483648) (hi := 2147483647) g19 18 16 rfl
      refine wk_n ?_
      refine wi_iconst (n := 1) (nx := 47) (r1 := 0) (r2 := 0) (r3 := 0) rfl ?_
      refine wi_zreturn (nx := 48) (r1 := 0) (r2 := 0) (r3 := 0) rfl rfl (by omega) ?_
      refine wk_i ?_
      refine wi_if (cd := .eq) (nx := 14) (r1 := 24) (r2 := 0) (r3 := 0) rfl (by omega) (fun (q23 : 1 = 0) => by exfalso; omega) (fun (q23 : ¬ (1 = 0)) => ?_)
      refine wi_aload_n (i := 0) (x := 0) (nx := 15) (r1 := 0) (r2 := 0) (r3 := 0) rfl rfl ?_
      refine wr_gr (k0 := 0) (x := 73) (nx := 18) (r1 := 0) (r2 := 8) (r3 := 0) rfl rfl (by decide) rfl ⟨rfl, rfl⟩ rfl ?_
      refine wr_gi0 (k0 := 73) (x := e14) (nx := 21) (r1 := 9) (r2 := 2) (r3 := 0) rfl rfl (by decide) rfl ⟨rfl, rfl⟩ rfl ((u19 73 2 rfl).trans w15) ?_
      refine wi_goto (nx := 24) (r1 := 25) (r2 := 0) (r3 := 0) rfl ?_
      refine wi_ireturn (nx := 26) (r1 := 0) (r2 := 0) (r3 := 0) rfl rfl ?_
      have e24 : h19 63 5 = h 63 5 := ((u19 63 5 rfl).trans ((u15 63 5 rfl).trans (u12 63 5 rfl)))
      have b25 := gi_b (lo := 0) (hi := 12) g19 18 7 rfl
      have e26 : h19 3 2 = h 3 2 := ((u19 3 2 rfl).trans ((u15 3 2 rfl).trans (u12 3 2 rfl)))
      have e27 : h19 66 1 = h 66 1 := ((u19 66 1 rfl).trans ((u15 66 1 rfl).trans (u12 66 1 rfl)))
      have q28 : h19 8 = h 8 := funext (fun i => ((u19 8 i (fo_no_ok (by decide) i)).trans ((u15 8 i rfl).trans (u12 8 i rfl))))
      have q29 : h19 7 = h 7 := funext (fun i => ((u19 7 i (fo_no_ok (by decide) i)).trans ((u15 7 i rfl).trans (u12 7 i rfl))))
      have e30 : h19 73 1 = e11 := ((u19 73 1 rfl).trans ((u15 73 1 rfl).trans w12))
      have e31 : h19 73 2 = e14 := ((u19 73 2 rfl).trans w15)
      have q33 : h19 69 = h 69 := funext (fun i => ((u19 69 i (fo_no_ok (by decide) i)).trans ((u15 69 i rfl).trans (u12 69 i rfl))))
      have q34 : h19 70 = h 70 := funext (fun i => ((u19 70 i (fo_no_ok (by decide) i)).trans ((u15 70 i rfl).trans (u12 70 i rfl))))
      have nb32 : NBc (h19 69) (h19 70) := by rw [q33, q34]; exact xq0.2.2
      exact k h19 e14 g19 F21 (by omega) (show (h19 63 5) ≤ (h19 18 16) by omega) (show (h19 63 5) < (h19 18 16) ∨ ((h19 18 7) ≤ (h19 3 2) ∧ (h19 66 1) = (h19 3 2) - (h19 18 7)) ∨ ((h19 3 2) < (h19 18 7) ∧ (h19 66 1) = 0) by omega) (show (h 18 16) ≤ (h19 18 16) ∧ (h19 18 16) ≤ (h 18 16) + 1 by omega) ⟨MCL.gone xq0.1 (MSL.mv (xq0.2.1 2 (by decide) (by unfold hv; omega)) (L2 := 18) q28 q29 (by omega) (by omega) (fun i hi => ((y19_0 i hi).trans ((u15 114 i (fn_a (by omega) fn_0)).trans (u12 114 i (fn_a (by omega) fn_0)))))) q29 (by omega) (by omega), HIv.back xq0.2.1 q28 q29 (by omega) (by omega) (sv_seven (P := fun x => ∀ i, h19 (76 + 19 * x) i = h (76 + 19 * x) i) (fun i => ((u19 76 i (fo_nk rfl)).trans ((u15 76 i (fn_a (by omega) fn_0)).trans (u12 76 i (fn_a (by omega) fn_0))))) (fun i => ((u19 95 i (fo_nk rfl)).trans ((u15 95 i (fn_a (by omega) fn_0)).trans (u12 95 i (fn_a (by omega) fn_0))))) (fun i => ((u19 114 i (fo_nk rfl)).trans ((u15 114 i (fn_a (by omega) fn_0)).trans (u12 114 i (fn_a (by omega) fn_0))))) (fun i => ((u19 133 i (fo_nk rfl)).trans ((u15 133 i (fn_a (by omega) fn_0)).trans (u12 133 i (fn_a (by omega) fn_0))))) (fun i => ((u19 152 i (fo_nk rfl)).trans ((u15 152 i (fn_a (by omega) fn_0)).trans (u12 152 i (fn_a (by omega) fn_0))))) (fun i => ((u19 171 i (fo_nk rfl)).trans ((u15 171 i (fn_a (by omega) fn_0)).trans (u12 171 i (fn_a (by omega) fn_0))))) (fun i => ((u19 190 i (fo_nk rfl)).trans ((u15 190 i (fn_a (by omega) fn_0)).trans (u12 190 i (fn_a (by omega) fn_0)))))) (by omega) (by omega), nb32⟩
    ·
      refine wr_aa (k0 := 74) (a := e11) (f := 3) (x := 132) (nx := 43) (r1 := 0) (r2 := 0) (r3 := 0) rfl (by decide) rfl (Or.inr rfl) (by omega) (by decide) (by decide) (hcr.2 3 (by decide)) ?_
      refine wr_V (k0 := 18) (rest := []) (as := [.ref 18, .ref 132]) (nx := 46) (r1 := 132) (r2 := 1) (r3 := 4) rfl rfl rfl (of_decide_eq_true rfl) rfl rfl (by decide) rfl rfl (of_decide_eq_true rfl) (of_decide_eq_true rfl) ?_
      have e20 : h15 18 16 = h 18 16 := ((u15 18 16 rfl).trans (u12 18 16 rfl))
      refine ct_132_18_132 hcr  g15   (show (h15 18 16) ≤ 2000000000 by omega) (fun h19 g19 u19 (p19_0 : (h19 18 16) = (h15 18 16) + 1) y19_0 => ?_)
      have F21 := F16.then (by decide +kernel) u19
      have b22 := gi_b (lo := -2147483648) (hi := 2147483647) g19 18 16 rfl
      refine wk_n ?_
      refine wi_iconst (n := 1) (nx := 47) (r1 := 0) (r2 := 0) (r3 := 0) rfl ?_
      refine wi_zreturn (nx := 48) (r1 := 0) (r2 := 0) (r3 := 0) rfl rfl (by omega) ?_
      refine wk_i ?_
      refine wi_if (cd := .eq) (nx := 14) (r1 := 24) (r2 := 0) (r3 := 0) rfl (by omega) (fun (q23 : 1 = 0) => by exfalso; omega) (fun (q23 : ¬ (1 = 0)) => ?_)
      refine wi_aload_n (i := 0) (x := 0) (nx := 15) (r1 := 0) (r2 := 0) (r3 := 0) rfl rfl ?_
      refine wr_gr (k0 := 0) (x := 73) (nx := 18) (r1 := 0) (r2 := 8) (r3 := 0) rfl rfl (by decide) rfl ⟨rfl, rfl⟩ rfl ?_
      refine wr_gi0 (k0 := 73) (x := e14) (nx := 21) (r1 := 9) (r2 := 2) (r3 := 0) rfl rfl (by decide) rfl ⟨rfl, rfl⟩ rfl ((u19 73 2 rfl).trans w15) ?_
      refine wi_goto (nx := 24) (r1 := 25) (r2 := 0) (r3 := 0) rfl ?_
      refine wi_ireturn (nx := 26) (r1 := 0) (r2 := 0) (r3 := 0) rfl rfl ?_
      have e24 : h19 63 5 = h 63 5 := ((u19 63 5 rfl).trans ((u15 63 5 rfl).trans (u12 63 5 rfl)))
      have b25 := gi_b (lo := 0) (hi := 12) g19 18 7 rfl
      have e26 : h19 3 2 = h 3 2 := ((u19 3 2 rfl).trans ((u15 3 2 rfl).trans (u12 3 2 rfl)))
      have e27 : h19 66 1 = h 66 1 := ((u19 66 1 rfl).trans ((u15 66 1 rfl).trans (u12 66 1 rfl)))
      have q28 : h19 8 = h 8 := funext (fun i => ((u19 8 i (fo_no_ok (by decide) i)).trans ((u15 8 i rfl).trans (u12 8 i rfl))))
      have q29 : h19 7 = h 7 := funext (fun i => ((u19 7 i (fo_no_ok (by decide) i)).trans ((u15 7 i rfl).trans (u12 7 i rfl))))
      have e30 : h19 73 1 = e11 := ((u19 73 1 rfl).trans ((u15 73 1 rfl).trans w12))
      have e31 : h19 73 2 = e14 := ((u19 73 2 rfl).trans w15)
      have q33 : h19 69 = h 69 := funext (fun i => ((u19 69 i (fo_no_ok (by decide) i)).trans ((u15 69 i rfl).trans (u12 69 i rfl))))
      have q34 : h19 70 = h 70 := funext (fun i => ((u19 70 i (fo_no_ok (by decide) i)).trans ((u15 70 i rfl).trans (u12 70 i rfl))))
      have nb32 : NBc (h19 69) (h19 70) := by rw [q33, q34]; exact xq0.2.2
      exact k h19 e14 g19 F21 (by omega) (show (h19 63 5) ≤ (h19 18 16) by omega) (show (h19 63 5) < (h19 18 16) ∨ ((h19 18 7) ≤ (h19 3 2) ∧ (h19 66 1) = (h19 3 2) - (h19 18 7)) ∨ ((h19 3 2) < (h19 18 7) ∧ (h19 66 1) = 0) by omega) (show (h 18 16) ≤ (h19 18 16) ∧ (h19 18 16) ≤ (h 18 16) + 1 by omega) ⟨MCL.gone xq0.1 (MSL.mv (xq0.2.1 3 (by decide) (by unfold hv; omega)) (L2 := 18) q28 q29 (by omega) (by omega) (fun i hi => ((y19_0 i hi).trans ((u15 133 i (fn_a (by omega) fn_0)).trans (u12 133 i (fn_a (by omega) fn_0)))))) q29 (by omega) (by omega), HIv.back xq0.2.1 q28 q29 (by omega) (by omega) (sv_seven (P := fun x => ∀ i, h19 (76 + 19 * x) i = h (76 + 19 * x) i) (fun i => ((u19 76 i (fo_nk rfl)).trans ((u15 76 i (fn_a (by omega) fn_0)).trans (u12 76 i (fn_a (by omega) fn_0))))) (fun i => ((u19 95 i (fo_nk rfl)).trans ((u15 95 i (fn_a (by omega) fn_0)).trans (u12 95 i (fn_a (by omega) fn_0))))) (fun i => ((u19 114 i (fo_nk rfl)).trans ((u15 114 i (fn_a (by omega) fn_0)).trans (u12 114 i (fn_a (by omega) fn_0))))) (fun i => ((u19 133 i (fo_nk rfl)).trans ((u15 133 i (fn_a (by omega) fn_0)).trans (u12 133 i (fn_a (by omega) fn_0))))) (fun i => ((u19 152 i (fo_nk rfl)).trans ((u15 152 i (fn_a (by omega) fn_0)).trans (u12 152 i (fn_a (by omega) fn_0))))) (fun i => ((u19 171 i (fo_nk rfl)).trans ((u15 171 i (fn_a (by omega) fn_0)).trans (u12 171 i (fn_a (by omega) fn_0))))) (fun i => ((u19 190 i (fo_nk rfl)).trans ((u15 190 i (fn_a (by omega) fn_0)).trans (u12 190 i (fn_a (by omega) fn_0)))))) (by omega) (by omega), nb32⟩
    ·
      refine wr_aa (k0 := 74) (a := e11) (f := 4) (x := 151) (nx := 43) (r1 := 0) (r2 := 0) (r3 := 0) rfl (by decide) rfl (Or.inr rfl) (by omega) (by decide) (by decide) (hcr.2 4 (by decide)) ?_
      refine wr_V (k0 := 18) (rest := []) (as := [.ref 18, .ref 151]) (nx := 46) (r1 := 132) (r2 := 1) (r3 := 4) rfl rfl rfl (of_decide_eq_true rfl) rfl rfl (by decide) rfl rfl (of_decide_eq_true rfl) (of_decide_eq_true rfl) ?_
      have e20 : h15 18 16 = h 18 16 := ((u15 18 16 rfl).trans (u12 18 16 rfl))
      refine ct_132_18_151 hcr  g15   (show (h15 18 16) ≤ 2000000000 by omega) (fun h19 g19 u19 (p19_0 : (h19 18 16) = (h15 18 16) + 1) y19_0 => ?_)
      have F21 := F16.then (by decide +kernel) u19
      have b22 := gi_b (lo := -2147483648) (hi := 2147483647) g19 18 16 rfl
      refine wk_n ?_
      refine wi_iconst (n := 1) (nx := 47) (r1 := 0) (r2 := 0) (r3 := 0) rfl ?_
      refine wi_zreturn (nx := 48) (r1 := 0) (r2 := 0) (r3 := 0) rfl rfl (by omega) ?_
      refine wk_i ?_
      refine wi_if (cd := .eq) (nx := 14) (r1 := 24) (r2 := 0) (r3 := 0) rfl (by omega) (fun (q23 : 1 = 0) => by exfalso; omega) (fun (q23 : ¬ (1 = 0)) => ?_)
      refine wi_aload_n (i := 0) (x := 0) (nx := 15) (r1 := 0) (r2 := 0) (r3 := 0) rfl rfl ?_
      refine wr_gr (k0 := 0) (x := 73) (nx := 18) (r1 := 0) (r2 := 8) (r3 := 0) rfl rfl (by decide) rfl ⟨rfl, rfl⟩ rfl ?_
      refine wr_gi0 (k0 := 73) (x := e14) (nx := 21) (r1 := 9) (r2 := 2) (r3 := 0) rfl rfl (by decide) rfl ⟨rfl, rfl⟩ rfl ((u19 73 2 rfl).trans w15) ?_
      refine wi_goto (nx := 24) (r1 := 25) (r2 := 0) (r3 := 0) rfl ?_
      refine wi_ireturn (nx := 26) (r1 := 0) (r2 := 0) (r3 := 0) rfl rfl ?_
      have e24 : h19 63 5 = h 63 5 := ((u19 63 5 rfl).trans ((u15 63 5 rfl).trans (u12 63 5 rfl)))
      have b25 := gi_b (lo := 0) (hi := 12) g19 18 7 rfl
      have e26 : h19 3 2 = h 3 2 := ((u19 3 2 rfl).trans ((u15 3 2 rfl).trans (u12 3 2 rfl)))
      have e27 : h19 66 1 = h 66 1 := ((u19 66 1 rfl).trans ((u15 66 1 rfl).trans (u12 66 1 rfl)))
      have q28 : h19 8 = h 8 := funext (fun i => ((u19 8 i (fo_no_ok (by decide) i)).trans ((u15 8 i rfl).trans (u12 8 i rfl))))
      have q29 : h19 7 = h 7 := funext (fun i => ((u19 7 i (fo_no_ok (by decide) i)).trans ((u15 7 i rfl).trans (u12 7 i rfl))))
      have e30 : h19 73 1 = e11 := ((u19 73 1 rfl).trans ((u15 73 1 rfl).trans w12))
      have e31 : h19 73 2 = e14 := ((u19 73 2 rfl).trans w15)
      have q33 : h19 69 = h 69 := funext (fun i => ((u19 69 i (fo_no_ok (by decide) i)).trans ((u15 69 i rfl).trans (u12 69 i rfl))))
      have q34 : h19 70 = h 70 := funext (fun i => ((u19 70 i (fo_no_ok (by decide) i)).trans ((u15 70 i rfl).trans (u12 70 i rfl))))
      have nb32 : NBc (h19 69) (h19 70) := by rw [q33, q34]; exact xq0.2.2
      exact k h19 e14 g19 F21 (by omega) (show (h19 63 5) ≤ (h19 18 16) by omega) (show (h19 63 5) < (h19 18 16) ∨ ((h19 18 7) ≤ (h19 3 2) ∧ (h19 66 1) = (h19 3 2) - (h19 18 7)) ∨ ((h19 3 2) < (h19 18 7) ∧ (h19 66 1) = 0) by omega) (show (h 18 16) ≤ (h19 18 16) ∧ (h19 18 16) ≤ (h 18 16) + 1 by omega) ⟨MCL.gone xq0.1 (MSL.mv (xq0.2.1 4 (by decide) (by unfold hv; omega)) (L2 := 18) q28 q29 (by omega) (by omega) (fun i hi => ((y19_0 i hi).trans ((u15 152 i (fn_a (by omega) fn_0)).trans (u12 152 i (fn_a (by omega) fn_0)))))) q29 (by omega) (by omega), HIv.back xq0.2.1 q28 q29 (by omega) (by omega) (sv_seven (P := fun x => ∀ i, h19 (76 + 19 * x) i = h (76 + 19 * x) i) (fun i => ((u19 76 i (fo_nk rfl)).trans ((u15 76 i (fn_a (by omega) fn_0)).trans (u12 76 i (fn_a (by omega) fn_0))))) (fun i => ((u19 95 i (fo_nk rfl)).trans ((u15 95 i (fn_a (by omega) fn_0)).trans (u12 95 i (fn_a (by omega) fn_0))))) (fun i => ((u19 114 i (fo_nk rfl)).trans ((u15 114 i (fn_a (by omega) fn_0)).trans (u12 114 i (fn_a (by omega) fn_0))))) (fun i => ((u19 133 i (fo_nk rfl)).trans ((u15 133 i (fn_a (by omega) fn_0)).trans (u12 133 i (fn_a (by omega) fn_0))))) (fun i => ((u19 152 i (fo_nk rfl)).trans ((u15 152 i (fn_a (by omega) fn_0)).trans (u12 152 i (fn_a (by omega) fn_0))))) (fun i => ((u19 171 i (fo_nk rfl)).trans ((u15 171 i (fn_a (by omega) fn_0)).trans (u12 171 i (fn_a (by omega) fn_0))))) (fun i => ((u19 190 i (fo_nk rfl)).trans ((u15 190 i (fn_a (by omega) fn_0)).trans (u12 190 i (fn_a (by omega) fn_0)))))) (by omega) (by omega), nb32⟩
    ·
      refine wr_aa (k0 := 74) (a := e11) (f := 5) (x := 170) (nx := 43) (r1 := 0) (r2 := 0) (r3 := 0) rfl (by decide) rfl (Or.inr rfl) (by omega) (by decide) (by decide) (hcr.2 5 (by decide)) ?_
      refine wr_V (k0 := 18) (rest := []) (as := [.ref 18, .ref 170]) (nx := 46) (r1 := 132) (r2 := 1) (r3 := 4) rfl rfl rfl (of_decide_eq_true rfl) rfl rfl (by decide) rfl rfl (of_decide_eq_true rfl) (of_decide_eq_true rfl) ?_
      have e20 : h15 18 16 = h 18 16 := ((u15 18 16 rfl).trans (u12 18 16 rfl))
      refine ct_132_18_170 hcr  g15   (show (h15 18 16) ≤ 2000000000 by omega) (fun h19 g19 u19 (p19_0 : (h19 18 16) = (h15 18 16) + 1) y19_0 => ?_)
      have F21 := F16.then (by decide +kernel) u19
      have b22 := gi_b (lo := -2147483648) (hi := 2147483647) g19 18 16 rfl
      refine wk_n ?_
      refine wi_iconst (n := 1) (nx := 47) (r1 := 0) (r2 := 0) (r3 := 0) rfl ?_
      refine wi_zreturn (nx := 48) (r1 := 0) (r2 := 0) (r3 := 0) rfl rfl (by omega) ?_
      refine wk_i ?_
      refine wi_if (cd := .eq) (nx := 14) (r1 := 24) (r2 := 0) (r3 := 0) rfl (by omega) (fun (q23 : 1 = 0) => by exfalso; omega) (fun (q23 : ¬ (1 = 0)) => ?_)
      refine wi_aload_n (i := 0) (x := 0) (nx := 15) (r1 := 0) (r2 := 0) (r3 := 0) rfl rfl ?_
      refine wr_gr (k0 := 0) (x := 73) (nx := 18) (r1 := 0) (r2 := 8) (r3 := 0) rfl rfl (by decide) rfl ⟨rfl, rfl⟩ rfl ?_
      refine wr_gi0 (k0 := 73) (x := e14) (nx := 21) (r1 := 9) (r2 := 2) (r3 := 0) rfl rfl (by decide) rfl ⟨rfl, rfl⟩ rfl ((u19 73 2 rfl).trans w15) ?_
      refine wi_goto (nx := 24) (r1 := 25) (r2 := 0) (r3 := 0) rfl ?_
      refine wi_ireturn (nx := 26) (r1 := 0) (r2 := 0) (r3 := 0) rfl rfl ?_
      have e24 : h19 63 5 = h 63 5 := ((u19 63 5 rfl).trans ((u15 63 5 rfl).trans (u12 63 5 rfl)))
      have b25 := gi_b (lo := 0) (hi := 12) g19 18 7 rfl
      have e26 : h19 3 2 = h 3 2 := ((u19 3 2 rfl).trans ((u15 3 2 rfl).trans (u12 3 2 rfl)))
      have e27 : h19 66 1 = h 66 1 := ((u19 66 1 rfl).trans ((u15 66 1 rfl).trans (u12 66 1 rfl)))
      have q28 : h19 8 = h 8 := funext (fun i => ((u19 8 i (fo_no_ok (by decide) i)).trans ((u15 8 i rfl).trans (u12 8 i rfl))))
      have q29 : h19 7 = h 7 := funext (fun i => ((u19 7 i (fo_no_ok (by decide) i)).trans ((u15 7 i rfl).trans (u12 7 i rfl))))
      have e30 : h19 73 1 = e11 := ((u19 73 1 rfl).trans ((u15 73 1 rfl).trans w12))
      have e31 : h19 73 2 = e14 := ((u19 73 2 rfl).trans w15)
      have q33 : h19 69 = h 69 := funext (fun i => ((u19 69 i (fo_no_ok (by decide) i)).trans ((u15 69 i rfl).trans (u12 69 i rfl))))
      have q34 : h19 70 = h 70 := funext (fun i => ((u19 70 i (fo_no_ok (by decide) i)).trans ((u15 70 i rfl).trans (u12 70 i rfl))))
      have nb32 : NBc (h19 69) (h19 70) := by rw [q33, q34]; exact xq0.2.2
      exact k h19 e14 g19 F21 (by omega) (show (h19 63 5) ≤ (h19 18 16) by omega) (show (h19 63 5) < (h19 18 16) ∨ ((h19 18 7) ≤ (h19 3 2) ∧ (h19 66 1) = (h19 3 2) - (h19 18 7)) ∨ ((h19 3 2) < (h19 18 7) ∧ (h19 66 1) = 0) by omega) (show (h 18 16) ≤ (h19 18 16) ∧ (h19 18 16) ≤ (h 18 16) + 1 by omega) ⟨MCL.gone xq0.1 (MSL.mv (xq0.2.1 5 (by decide) (by unfold hv; omega)) (L2 := 18) q28 q29 (by omega) (by omega) (fun i hi => ((y19_0 i hi).trans ((u15 171 i (fn_a (by omega) fn_0)).trans (u12 171 i (fn_a (by omega) fn_0)))))) q29 (by omega) (by omega), HIv.back xq0.2.1 q28 q29 (by omega) (by omega) (sv_seven (P := fun x => ∀ i, h19 (76 + 19 * x) i = h (76 + 19 * x) i) (fun i => ((u19 76 i (fo_nk rfl)).trans ((u15 76 i (fn_a (by omega) fn_0)).trans (u12 76 i (fn_a (by omega) fn_0))))) (fun i => ((u19 95 i (fo_nk rfl)).trans ((u15 95 i (fn_a (by omega) fn_0)).trans (u12 95 i (fn_a (by omega) fn_0))))) (fun i => ((u19 114 i (fo_nk rfl)).trans ((u15 114 i (fn_a (by omega) fn_0)).trans (u12 114 i (fn_a (by omega) fn_0))))) (fun i => ((u19 133 i (fo_nk rfl)).trans ((u15 133 i (fn_a (by omega) fn_0)).trans (u12 133 i (fn_a (by omega) fn_0))))) (fun i => ((u19 152 i (fo_nk rfl)).trans ((u15 152 i (fn_a (by omega) fn_0)).trans (u12 152 i (fn_a (by omega) fn_0))))) (fun i => ((u19 171 i (fo_nk rfl)).trans ((u15 171 i (fn_a (by omega) fn_0)).trans (u12 171 i (fn_a (by omega) fn_0))))) (fun i => ((u19 190 i (fo_nk rfl)).trans ((u15 190 i (fn_a (by omega) fn_0)).trans (u12 190 i (fn_a (by omega) fn_0)))))) (by omega) (by omega), nb32⟩
    ·
      refine wr_aa (k0 := 74) (a := e11) (f := 6) (x := 189) (nx := 43) (r1 := 0) (r2 := 0) (r3 := 0) rfl (by decide) rfl (Or.inr rfl) (by omega) (by decide) (by decide) (hcr.2 6 (by decide)) ?_
      refine wr_V (k0 := 18) (rest := []) (as := [.ref 18, .ref 189]) (nx := 46) (r1 := 132) (r2 := 1) (r3 := 4) rfl rfl rfl (of_decide_eq_true rfl) rfl rfl (by decide) rfl rfl (of_decide_eq_true rfl) (of_decide_eq_true rfl) ?_
      have e20 : h15 18 16 = h 18 16 := ((u15 18 16 rfl).trans (u12 18 16 rfl))
      refine ct_132_18_189 hcr  g15   (show (h15 18 16) ≤ 2000000000 by omega) (fun h19 g19 u19 (p19_0 : (h19 18 16) = (h15 18 16) + 1) y19_0 => ?_)
      have F21 := F16.then (by decide +kernel) u19
      have b22 := gi_b (lo := -2147483648) (hi := 2147483647) g19 18 16 rfl
      refine wk_n ?_
      refine wi_iconst (n := 1) (nx := 47) (r1 := 0) (r2 := 0) (r3 := 0) rfl ?_
      refine wi_zreturn (nx := 48) (r1 := 0) (r2 := 0) (r3 := 0) rfl rfl (by omega) ?_
      refine wk_i ?_
      refine wi_if (cd := .eq) (nx := 14) (r1 := 24) (r2 := 0) (r3 := 0) rfl (by omega) (fun (q23 : 1 = 0) => by exfalso; omega) (fun (q23 : ¬ (1 = 0)) => ?_)
      refine wi_aload_n (i := 0) (x := 0) (nx := 15) (r1 := 0) (r2 := 0) (r3 := 0) rfl rfl ?_
      refine wr_gr (k0 := 0) (x := 73) (nx := 18) (r1 := 0) (r2 := 8) (r3 := 0) rfl rfl (by decide) rfl ⟨rfl, rfl⟩ rfl ?_
      refine wr_gi0 (k0 := 73) (x := e14) (nx := 21) (r1 := 9) (r2 := 2) (r3 := 0) rfl rfl (by decide) rfl ⟨rfl, rfl⟩ rfl ((u19 73 2 rfl).trans w15) ?_
      refine wi_goto (nx := 24) (r1 := 25) (r2 := 0) (r3 := 0) rfl ?_
      refine wi_ireturn (nx := 26) (r1 := 0) (r2 := 0) (r3 := 0) rfl rfl ?_
      have e24 : h19 63 5 = h 63 5 := ((u19 63 5 rfl).trans ((u15 63 5 rfl).trans (u12 63 5 rfl)))
      have b25 := gi_b (lo := 0) (hi := 12) g19 18 7 rfl
      have e26 : h19 3 2 = h 3 2 := ((u19 3 2 rfl).trans ((u15 3 2 rfl).trans (u12 3 2 rfl)))
      have e27 : h19 66 1 = h 66 1 := ((u19 66 1 rfl).trans ((u15 66 1 rfl).trans (u12 66 1 rfl)))
      have q28 : h19 8 = h 8 := funext (fun i => ((u19 8 i (fo_no_ok (by decide) i)).trans ((u15 8 i rfl).trans (u12 8 i rfl))))
      have q29 : h19 7 = h 7 := funext (fun i => ((u19 7 i (fo_no_ok (by decide) i)).trans ((u15 7 i rfl).trans (u12 7 i rfl))))
      have e30 : h19 73 1 = e11 := ((u19 73 1 rfl).trans ((u15 73 1 rfl).trans w12))
      have e31 : h19 73 2 = e14 := ((u19 73 2 rfl).trans w15)
      have q33 : h19 69 = h 69 := funext (fun i => ((u19 69 i (fo_no_ok (by decide) i)).trans ((u15 69 i rfl).trans (u12 69 i rfl))))
      have q34 : h19 70 = h 70 := funext (fun i => ((u19 70 i (fo_no_ok (by decide) i)).trans ((u15 70 i rfl).trans (u12 70 i rfl))))
      have nb32 : NBc (h19 69) (h19 70) := by rw [q33, q34]; exact xq0.2.2
      exact k h19 e14 g19 F21 (by omega) (show (h19 63 5) ≤ (h19 18 16) by omega) (show (h19 63 5) < (h19 18 16) ∨ ((h19 18 7) ≤ (h19 3 2) ∧ (h19 66 1) = (h19 3 2) - (h19 18 7)) ∨ ((h19 3 2) < (h19 18 7) ∧ (h19 66 1) = 0) by omega) (show (h 18 16) ≤ (h19 18 16) ∧ (h19 18 16) ≤ (h 18 16) + 1 by omega) ⟨MCL.gone xq0.1 (MSL.mv (xq0.2.1 6 (by decide) (by unfold hv; omega)) (L2 := 18) q28 q29 (by omega) (by omega) (fun i hi => ((y19_0 i hi).trans ((u15 190 i (fn_a (by omega) fn_0)).trans (u12 190 i (fn_a (by omega) fn_0)))))) q29 (by omega) (by omega), HIv.back xq0.2.1 q28 q29 (by omega) (by omega) (sv_seven (P := fun x => ∀ i, h19 (76 + 19 * x) i = h (76 + 19 * x) i) (fun i => ((u19 76 i (fo_nk rfl)).trans ((u15 76 i (fn_a (by omega) fn_0)).trans (u12 76 i (fn_a (by omega) fn_0))))) (fun i => ((u19 95 i (fo_nk rfl)).trans ((u15 95 i (fn_a (by omega) fn_0)).trans (u12 95 i (fn_a (by omega) fn_0))))) (fun i => ((u19 114 i (fo_nk rfl)).trans ((u15 114 i (fn_a (by omega) fn_0)).trans (u12 114 i (fn_a (by omega) fn_0))))) (fun i => ((u19 133 i (fo_nk rfl)).trans ((u15 133 i (fn_a (by omega) fn_0)).trans (u12 133 i (fn_a (by omega) fn_0))))) (fun i => ((u19 152 i (fo_nk rfl)).trans ((u15 152 i (fn_a (by omega) fn_0)).trans (u12 152 i (fn_a (by omega) fn_0))))) (fun i => ((u19 171 i (fo_nk rfl)).trans ((u15 171 i (fn_a (by omega) fn_0)).trans (u12 171 i (fn_a (by omega) fn_0))))) (fun i => ((u19 190 i (fo_nk rfl)).trans ((u15 190 i (fn_a (by omega) fn_0)).trans (u12 190 i (fn_a (by omega) fn_0)))))) (by omega) (by omega), nb32⟩
  ·
    refine wi_iconst (n := 0) (nx := 8) (r1 := 0) (r2 := 0) (r3 := 0) rfl ?_
    refine wi_zreturn (nx := 9) (r1 := 0) (r2 := 0) (r3 := 0) rfl rfl (by omega) ?_
    refine wk_i ?_
    refine wi_if (cd := .eq) (nx := 14) (r1 := 24) (r2 := 0) (r3 := 0) rfl (by omega) (fun (q9 : 0 = 0) => ?_) (fun (q9 : ¬ (0 = 0)) => by exfalso; omega)
    refine wi_iconst (n := (-1)) (nx := 25) (r1 := 0) (r2 := 0) (r3 := 0) rfl ?_
    refine wi_ireturn (nx := 26) (r1 := 0) (r2 := 0) (r3 := 0) rfl rfl ?_
    exact k h (-1) g F0 (by omega) (show (h 63 5) ≤ (h 18 16) by omega) (show (h 63 5) < (h 18 16) ∨ ((h 18 7) ≤ (h 3 2) ∧ (h 66 1) = (h 3 2) - (h 18 7)) ∨ ((h 3 2) < (h 18 7) ∧ (h 66 1) = 0) by omega) (show (h 18 16) ≤ (h 18 16) ∧ (h 18 16) ≤ (h 18 16) + 1 by omega) xq0
-- method 47: Bank.unload()I
set_option maxRecDepth 100000 in
set_option maxHeartbeats 100000000 in
theorem ct_47_0 {L : Nat} {xs : Nat → Int32} {d b c : Nat} {h : hp} {cr : Nat → Nat → Option Nat} {Q : hp_Q} (hcr : CR cr)  (g : GI h)   (pp0 : h 63 5 ≤ h 18 16) (pp1 : h 63 5 < h 18 16 ∨ (h 18 7 ≤ h 3 2 ∧ h 66 1 = h 3 2 - h 18 7) ∨ (h 3 2 < h 18 7 ∧ h 66 1 = 0)) (pp2 : 0 ≤ h 3 9) (pp3 : h 18 16 ≤ 1900000000) (xq0 : MCI h) (k : ∀ (h2 : hp) (z0 : Int) , GI h2 → FR [(20, 20, none), (22, 23, none), (24, 25, none), (26, 27, none), (28, 28, none), (29, 36, none), (57, 57, none), (58, 58, none), (59, 59, none), (60, 60, none), (61, 62, none), (75, 93, none), (94, 112, none), (113, 131, none), (132, 150, none), (151, 169, none), (170, 188, none), (189, 207, none), (18, 18, some (8, 13)), (18, 18, some (15, 16)), (56, 56, some (6, 7)), (56, 56, some (9, 12)), (73, 73, some (1, 2))] h h2 → (-1 ≤ z0 ∧ z0 ≤ 12) → (h2 63 5 ≤ h2 18 16) → (h2 63 5 < h2 18 16 ∨ (h2 18 7 ≤ h2 3 2 ∧ h2 66 1 = h2 3 2 - h2 18 7) ∨ (h2 3 2 < h2 18 7 ∧ h2 66 1 = 0)) → (h 18 16 ≤ h2 18 16 ∧ h2 18 16 ≤ h 18 16 + 20) → (MCI h2) → Q (.inl (some (vi z0))) (hp_w h2 cr) b c) : wp (md_xa (L, xs)) (d + 103) 47 (0, [(0, .ref 0)], [], hp_w h cr, b, c) Q := by
  have F0 : FR [(20, 20, none), (22, 23, none), (24, 25, none), (26, 27, none), (28, 28, none), (29, 36, none), (57, 57, none), (58, 58, none), (59, 59, none), (60, 60, none), (61, 62, none), (75, 93, none), (94, 112, none), (113, 131, none), (132, 150, none), (151, 169, none), (170, 188, none), (189, 207, none), (18, 18, some (8, 13)), (18, 18, some (15, 16)), (56, 56, some (6, 7)), (56, 56, some (9, 12)), (73, 73, some (1, 2))] h h := FR.refl
  have b1 := gi_b (lo := -2147483648) (hi := 2147483647) g 63 5 rfl
  have b2 := gi_b (lo := -2147483648) (hi := 2147483647) g 18 16 rfl
  have b3 := gi_b (lo := 0) (hi := 12) g 18 7 rfl
  have b4 := gi_b (lo := 0) (hi := 12) g 3 2 rfl
  have b5 := gi_b (lo := 0) (hi := 12) g 66 1 rfl
  have b6 := gi_b (lo := -2147483648) (hi := 2147483647) g 3 9 rfl
  refine wi_aload_n (i := 0) (x := 0) (nx := 1) (r1 := 0) (r2 := 0) (r3 := 0) rfl rfl ?_
  refine wr_gr (k0 := 0) (x := 73) (nx := 4) (r1 := 0) (r2 := 8) (r3 := 0) rfl rfl (by decide) rfl ⟨rfl, rfl⟩ rfl ?_
  refine wi_aload_n (i := 0) (x := 0) (nx := 5) (r1 := 0) (r2 := 0) (r3 := 0) rfl rfl ?_
  refine wr_gr (k0 := 0) (x := 18) (nx := 8) (r1 := 0) (r2 := 3) (r3 := 0) rfl rfl (by decide) rfl ⟨rfl, rfl⟩ rfl ?_
  refine wr_V (k0 := 73) (rest := []) (as := [.ref 73, .ref 18]) (nx := 11) (r1 := 192) (r2 := 1) (r3 := 9) rfl rfl rfl (of_decide_eq_true rfl) rfl rfl (by decide) rfl rfl (of_decide_eq_true rfl) (of_decide_eq_true rfl) ?_
  refine ct_192_73_18 hcr  g    xq0.1.1 xq0.2.1 (fun h7 g7 u7 y7_0 => ?_)
  have F8 := F0.then (by decide +kernel) u7
  refine wk_n ?_
  refine wi_aload_n (i := 0) (x := 0) (nx := 12) (r1 := 0) (r2 := 0) (r3 := 0) rfl rfl ?_
  refine wr_gr (k0 := 0) (x := 56) (nx := 15) (r1 := 0) (r2 := 5) (r3 := 0) rfl rfl (by decide) rfl ⟨rfl, rfl⟩ rfl ?_
  refine wr_V (k0 := 56) (rest := []) (as := [.ref 56]) (nx := 18) (r1 := 161) (r2 := 0) (r3 := 6) rfl rfl rfl (of_decide_eq_true rfl) rfl rfl (by decide) rfl rfl (of_decide_eq_true rfl) (of_decide_eq_true rfl) ?_
  refine ct_161_56 hcr  g7    (fun h9 g9 u9 => ?_)
  have F10 := F8.then (by decide +kernel) u9
  refine wk_n ?_
  refine wi_aload_n (i := 0) (x := 0) (nx := 19) (r1 := 0) (r2 := 0) (r3 := 0) rfl rfl ?_
  refine wr_gr (k0 := 0) (x := 56) (nx := 22) (r1 := 0) (r2 := 5) (r3 := 0) rfl rfl (by decide) rfl ⟨rfl, rfl⟩ rfl ?_
  have b11 := gi_b (lo := 0) (hi := 1) g9 56 9 rfl
  refine wr_gi2 (k0 := 56) (x := h9 56 9) (nx := 25) (r1 := 6) (r2 := 9) (r3 := 0) rfl rfl (by decide) rfl ⟨rfl, rfl⟩ rfl rfl ?_
  refine wi_if (cd := .eq) (nx := 28) (r1 := 38) (r2 := 0) (r3 := 0) rfl (by omega) (fun (q12 : (h9 56 9) = 0) => ?_) (fun (q12 : ¬ ((h9 56 9) = 0)) => ?_)
  ·
    refine wi_iconst (n := 0) (nx := 39) (r1 := 0) (r2 := 0) (r3 := 0) rfl ?_
    refine wi_istore_n (i := 1) (e := 0) (lo2 := [(1, vi 0), (0, .ref 0)]) (nx := 40) (r1 := 0) (r2 := 0) (r3 := 0) rfl rfl ?_
    refine wi_aload_n (i := 0) (x := 0) (nx := 41) (r1 := 0) (r2 := 0) (r3 := 0) rfl rfl ?_
    refine wi_iload_n (i := 1) (e := 0) (nx := 42) (r1 := 0) (r2 := 0) (r3 := 0) rfl rfl ?_
    refine wi_if (cd := .ne) (nx := 45) (r1 := 49) (r2 := 0) (r3 := 0) rfl (by omega) (fun (q13 : 0 ≠ 0) => by exfalso; omega) (fun (q13 : ¬ (0 ≠ 0)) => ?_)
    refine wi_iconst (n := (-1)) (nx := 46) (r1 := 0) (r2 := 0) (r3 := 0) rfl ?_
    refine wi_goto (nx := 49) (r1 := 50) (r2 := 0) (r3 := 0) rfl ?_
    refine wr_V (k0 := 0) (rest := []) (as := [.ref 0, vi (-1)]) (nx := 53) (r1 := 45) (r2 := 1) (r3 := 0) rfl rfl rfl (of_decide_eq_true rfl) rfl rfl (by decide) rfl rfl (of_decide_eq_true rfl) (of_decide_eq_true rfl) ?_
    refine wi_iload_n (i := 1) (e := -1) (nx := 1) (r1 := 0) (r2 := 0) (r3 := 0) rfl rfl ?_
    refine wi_iconst (n := (-1)) (nx := 2) (r1 := 0) (r2 := 0) (r3 := 0) rfl ?_
    refine wi_icmp (cd := .eq) (nx := 5) (r1 := 12) (r2 := 0) (r3 := 0) rfl (by omega) (by omega) (fun (q14 : (-1) = (-1)) => ?_) (fun (q14 : ¬ ((-1) = (-1))) => by exfalso; omega)
    refine wi_iload_n (i := 1) (e := -1) (nx := 13) (r1 := 0) (r2 := 0) (r3 := 0) rfl rfl ?_
    refine wi_ireturn (nx := 14) (r1 := 0) (r2 := 0) (r3 := 0) rfl rfl ?_
    refine wk_i ?_
    refine wi_ireturn (nx := 54) (r1 := 0) (r2 := 0) (r3 := 0) rfl rfl ?_
    have e15 : h9 63 5 = h 63 5 := ((u9 63 5 rfl).trans (u7 63 5 rfl))
    have e16 : h9 18 16 = h 18 16 := ((u9 18 16 rfl).trans (u7 18 16 rfl))
    have e17 : h9 18 7 = h 18 7 := ((u9 18 7 rfl).trans (u7 18 7 rfl))
    have e18 : h9 3 2 = h 3 2 := ((u9 3 2 rfl).trans (u7 3 2 rfl))
    have e19 : h9 66 1 = h 66 1 := ((u9 66 1 rfl).trans (u7 66 1 rfl))
    have q21 : h9 8 = h 8 := funext (fun i => ((u9 8 i (fo_no_ok (by decide) i)).trans (u7 8 i (fo_no_ok (by decide) i))))
    have q22 : h9 7 = h 7 := funext (fun i => ((u9 7 i (fo_no_ok (by decide) i)).trans (u7 7 i (fo_no_ok (by decide) i))))
    have q23 : h9 19 = h 19 := funext (fun i => ((u9 19 i (fo_no_ok (by decide) i)).trans (u7 19 i (fo_no_ok (by decide) i))))
    have q24 : h9 67 = h 67 := funext (fun i => ((u9 67 i (fo_no_ok (by decide) i)).trans (u7 67 i (fo_no_ok (by decide) i))))
    have ml20 : MCL h9 := MCL.mv xq0.1 q21 q22 q23 q24 (by omega) (by omega) (by omega) (by omega)
    have q26 : h9 69 = h 69 := funext (fun i => ((u9 69 i (fo_no_ok (by decide) i)).trans (u7 69 i (fo_no_ok (by decide) i))))
    have q27 : h9 70 = h 70 := funext (fun i => ((u9 70 i (fo_no_ok (by decide) i)).trans (u7 70 i (fo_no_ok (by decide) i))))
    have nb25 : NBc (h9 69) (h9 70) := by rw [q26, q27]; exact xq0.2.2
    have q28 : h9 8 = h7 8 := funext (fun i => (u9 8 i (fo_no_ok (by decide) i)))
    have q29 : h9 7 = h7 7 := funext (fun i => (u9 7 i (fo_no_ok (by decide) i)))
    have e30 : h7 3 2 = h 3 2 := (u7 3 2 rfl)
    have b31 := gi_b (lo := 0) (hi := 6) g 73 1 rfl
    have e32 : h9 73 1 = h 73 1 := ((u9 73 1 rfl).trans (u7 73 1 rfl))
    have e33 : h7 73 1 = h 73 1 := (u7 73 1 rfl)
    have b34 := gi_b (lo := 0) (hi := 6) g 73 2 rfl
    have e35 : h9 73 2 = h 73 2 := ((u9 73 2 rfl).trans (u7 73 2 rfl))
    have e36 : h7 73 2 = h 73 2 := (u7 73 2 rfl)
    exact k h9 (-1) g9 F10 (by omega) (show (h9 63 5) ≤ (h9 18 16) by omega) (show (h9 63 5) < (h9 18 16) ∨ ((h9 18 7) ≤ (h9 3 2) ∧ (h9 66 1) = (h9 3 2) - (h9 18 7)) ∨ ((h9 3 2) < (h9 18 7) ∧ (h9 66 1) = 0) by omega) (show (h 18 16) ≤ (h9 18 16) ∧ (h9 18 16) ≤ (h 18 16) + 20 by omega) ⟨ml20, (HIv.n y7_0 q28 q29 (by omega) (by omega) (sv_seven (P := fun x => ∀ i, h9 (76 + 19 * x) i = h7 (76 + 19 * x) i) (fun i => (u9 76 i (fo_nk rfl))) (fun i => (u9 95 i (fo_nk rfl))) (fun i => (u9 114 i (fo_nk rfl))) (fun i => (u9 133 i (fo_nk rfl))) (fun i => (u9 152 i (fo_nk rfl))) (fun i => (u9 171 i (fo_nk rfl))) (fun i => (u9 190 i (fo_nk rfl)))) (by omega) (by omega)), nb25⟩
  ·
    refine wi_aload_n (i := 0) (x := 0) (nx := 29) (r1 := 0) (r2 := 0) (r3 := 0) rfl rfl ?_
    refine wr_gr (k0 := 0) (x := 56) (nx := 32) (r1 := 0) (r2 := 5) (r3 := 0) rfl rfl (by decide) rfl ⟨rfl, rfl⟩ rfl ?_
    refine wr_V (k0 := 56) (rest := []) (as := [.ref 56]) (nx := 35) (r1 := 169) (r2 := 0) (r3 := 6) rfl rfl rfl (of_decide_eq_true rfl) rfl rfl (by decide) rfl rfl (of_decide_eq_true rfl) (of_decide_eq_true rfl) ?_
    have e14 : h9 18 16 = h 18 16 := ((u9 18 16 rfl).trans (u7 18 16 rfl))
    refine ct_169_56 hcr  g9   (show (h9 18 16) ≤ 1999999000 by omega) (fun h13 z15 g13 u13 (fz15 : 0 ≤ z15 ∧ z15 ≤ 12) (p13_0 : ((h13 18 16) = (h9 18 16) ∧ (h13 18 7) = (h9 18 7)) ∨ ((h9 18 16) + 1 ≤ (h13 18 16) ∧ (h13 18 16) ≤ (h9 18 16) + 13)) => ?_)
    have F16 := F10.then (by decide +kernel) u13
    have e17 : h9 18 7 = h 18 7 := ((u9 18 7 rfl).trans (u7 18 7 rfl))
    have b18 := gi_b (lo := -2147483648) (hi := 2147483647) g13 18 16 rfl
    have e19 : h13 18 7 = h 18 7 := ((u13 18 7 rfl).trans ((u9 18 7 rfl).trans (u7 18 7 rfl)))
    refine wk_i ?_
    refine wi_goto (nx := 38) (r1 := 39) (r2 := 0) (r3 := 0) rfl ?_
    refine wi_istore_n (i := 1) (e := z15) (lo2 := [(1, vi z15), (0, .ref 0)]) (nx := 40) (r1 := 0) (r2 := 0) (r3 := 0) rfl rfl ?_
    refine wi_aload_n (i := 0) (x := 0) (nx := 41) (r1 := 0) (r2 := 0) (r3 := 0) rfl rfl ?_
    refine wi_iload_n (i := 1) (e := z15) (nx := 42) (r1 := 0) (r2 := 0) (r3 := 0) rfl rfl ?_
    refine wi_if (cd := .ne) (nx := 45) (r1 := 49) (r2 := 0) (r3 := 0) rfl (by omega) (fun (q20 : z15 ≠ 0) => ?_) (fun (q20 : ¬ (z15 ≠ 0)) => ?_)
    ·
      refine wi_iload_n (i := 1) (e := z15) (nx := 50) (r1 := 0) (r2 := 0) (r3 := 0) rfl rfl ?_
      refine wr_V (k0 := 0) (rest := []) (as := [.ref 0, vi z15]) (nx := 53) (r1 := 45) (r2 := 1) (r3 := 0) rfl rfl rfl (of_decide_eq_true rfl) rfl rfl (by decide) rfl rfl (of_decide_eq_true rfl) (of_decide_eq_true rfl) ?_
      refine wi_iload_n (i := 1) (e := z15) (nx := 1) (r1 := 0) (r2 := 0) (r3 := 0) rfl rfl ?_
      refine wi_iconst (n := (-1)) (nx := 2) (r1 := 0) (r2 := 0) (r3 := 0) rfl ?_
      refine wi_icmp (cd := .eq) (nx := 5) (r1 := 12) (r2 := 0) (r3 := 0) rfl (by omega) (by omega) (fun (q21 : z15 = (-1)) => by exfalso; omega) (fun (q21 : ¬ (z15 = (-1))) => ?_)
      refine wi_aload_n (i := 0) (x := 0) (nx := 6) (r1 := 0) (r2 := 0) (r3 := 0) rfl rfl ?_
      refine wr_gr (k0 := 0) (x := 73) (nx := 9) (r1 := 0) (r2 := 8) (r3 := 0) rfl rfl (by decide) rfl ⟨rfl, rfl⟩ rfl ?_
      refine wr_V (k0 := 73) (rest := []) (as := [.ref 73]) (nx := 12) (r1 := 193) (r2 := 0) (r3 := 9) rfl rfl rfl (of_decide_eq_true rfl) rfl rfl (by decide) rfl rfl (of_decide_eq_true rfl) (of_decide_eq_true rfl) ?_
      refine ct_193_73 hcr  g13    (fun h22 g22 u22 (p22_0 : ((h13 73 1) ≤ 5 ∧ (h22 73 1) = (h13 73 1) + 1) ∨ ((h13 73 1) = 6 ∧ (h22 73 1) = 0)) (p22_1 : ((h13 73 2) ≤ 5 ∧ (h22 73 2) = (h13 73 2) + 1) ∨ ((h13 73 2) = 6 ∧ (h22 73 2) = 6)) => ?_)
      have F23 := F16.then (by decide +kernel) u22
      have b24 := gi_b (lo := 0) (hi := 6) g 73 1 rfl
      have e25 : h13 73 1 = h 73 1 := ((u13 73 1 rfl).trans ((u9 73 1 rfl).trans (u7 73 1 rfl)))
      have b26 := gi_b (lo := 0) (hi := 6) g22 73 1 rfl
      have b27 := gi_b (lo := 0) (hi := 6) g 73 2 rfl
      have e28 : h13 73 2 = h 73 2 := ((u13 73 2 rfl).trans ((u9 73 2 rfl).trans (u7 73 2 rfl)))
      have b29 := gi_b (lo := 0) (hi := 6) g22 73 2 rfl
      refine wk_n ?_
      refine wi_iload_n (i := 1) (e := z15) (nx := 13) (r1 := 0) (r2 := 0) (r3 := 0) rfl rfl ?_
      refine wi_ireturn (nx := 14) (r1 := 0) (r2 := 0) (r3 := 0) rfl rfl ?_
      refine wk_i ?_
      refine wi_ireturn (nx := 54) (r1 := 0) (r2 := 0) (r3 := 0) rfl rfl ?_
      have e30 : h22 63 5 = h 63 5 := ((u22 63 5 rfl).trans ((u13 63 5 rfl).trans ((u9 63 5 rfl).trans (u7 63 5 rfl))))
      have e31 : h22 18 16 = h13 18 16 := (u22 18 16 rfl)
      have e32 : h22 18 7 = h 18 7 := ((u22 18 7 rfl).trans ((u13 18 7 rfl).trans ((u9 18 7 rfl).trans (u7 18 7 rfl))))
      have e33 : h22 3 2 = h 3 2 := ((u22 3 2 rfl).trans ((u13 3 2 rfl).trans ((u9 3 2 rfl).trans (u7 3 2 rfl))))
      have e34 : h22 66 1 = h 66 1 := ((u22 66 1 rfl).trans ((u13 66 1 rfl).trans ((u9 66 1 rfl).trans (u7 66 1 rfl))))
      have q36 : h22 8 = h 8 := funext (fun i => ((u22 8 i (fo_no_ok (by decide) i)).trans ((u13 8 i (fo_no_ok (by decide) i)).trans ((u9 8 i (fo_no_ok (by decide) i)).trans (u7 8 i (fo_no_ok (by decide) i))))))
      have q37 : h22 7 = h 7 := funext (fun i => ((u22 7 i (fo_no_ok (by decide) i)).trans ((u13 7 i (fo_no_ok (by decide) i)).trans ((u9 7 i (fo_no_ok (by decide) i)).trans (u7 7 i (fo_no_ok (by decide) i))))))
      have q38 : h22 19 = h 19 := funext (fun i => ((u22 19 i (fo_no_ok (by decide) i)).trans ((u13 19 i (fo_no_ok (by decide) i)).trans ((u9 19 i (fo_no_ok (by decide) i)).trans (u7 19 i (fo_no_ok (by decide) i))))))
      have q39 : h22 67 = h 67 := funext (fun i => ((u22 67 i (fo_no_ok (by decide) i)).trans ((u13 67 i (fo_no_ok (by decide) i)).trans ((u9 67 i (fo_no_ok (by decide) i)).trans (u7 67 i (fo_no_ok (by decide) i))))))
      have ml35 : MCL h22 := MCL.mv xq0.1 q36 q37 q38 q39 (by omega) (by omega) (by omega) (by omega)
      have q41 : h22 69 = h 69 := funext (fun i => ((u22 69 i (fo_no_ok (by decide) i)).trans ((u13 69 i (fo_no_ok (by decide) i)).trans ((u9 69 i (fo_no_ok (by decide) i)).trans (u7 69 i (fo_no_ok (by decide) i))))))
      have q42 : h22 70 = h 70 := funext (fun i => ((u22 70 i (fo_no_ok (by decide) i)).trans ((u13 70 i (fo_no_ok (by decide) i)).trans ((u9 70 i (fo_no_ok (by decide) i)).trans (u7 70 i (fo_no_ok (by decide) i))))))
      have nb40 : NBc (h22 69) (h22 70) := by rw [q41, q42]; exact xq0.2.2
      have q43 : h22 8 = h7 8 := funext (fun i => ((u22 8 i (fo_no_ok (by decide) i)).trans ((u13 8 i (fo_no_ok (by decide) i)).trans (u9 8 i (fo_no_ok (by decide) i)))))
      have q44 : h22 7 = h7 7 := funext (fun i => ((u22 7 i (fo_no_ok (by decide) i)).trans ((u13 7 i (fo_no_ok (by decide) i)).trans (u9 7 i (fo_no_ok (by decide) i)))))
      have e45 : h7 3 2 = h 3 2 := (u7 3 2 rfl)
      have e46 : h7 73 1 = h 73 1 := (u7 73 1 rfl)
      have e47 : h7 73 2 = h 73 2 := (u7 73 2 rfl)
      exact k h22 z15 g22 F23 (by omega) (show (h22 63 5) ≤ (h22 18 16) by omega) (show (h22 63 5) < (h22 18 16) ∨ ((h22 18 7) ≤ (h22 3 2) ∧ (h22 66 1) = (h22 3 2) - (h22 18 7)) ∨ ((h22 3 2) < (h22 18 7) ∧ (h22 66 1) = 0) by omega) (show (h 18 16) ≤ (h22 18 16) ∧ (h22 18 16) ≤ (h 18 16) + 20 by omega) ⟨ml35, (HIv.k y7_0 q43 q44 (by omega) (by omega) (sv_seven (P := fun x => ∀ i, h22 (76 + 19 * x) i = h7 (76 + 19 * x) i) (fun i => ((u22 76 i (fn_a (by omega) fn_0)).trans ((u13 76 i (fo_nk rfl)).trans (u9 76 i (fo_nk rfl))))) (fun i => ((u22 95 i (fn_a (by omega) fn_0)).trans ((u13 95 i (fo_nk rfl)).trans (u9 95 i (fo_nk rfl))))) (fun i => ((u22 114 i (fn_a (by omega) fn_0)).trans ((u13 114 i (fo_nk rfl)).trans (u9 114 i (fo_nk rfl))))) (fun i => ((u22 133 i (fn_a (by omega) fn_0)).trans ((u13 133 i (fo_nk rfl)).trans (u9 133 i (fo_nk rfl))))) (fun i => ((u22 152 i (fn_a (by omega) fn_0)).trans ((u13 152 i (fo_nk rfl)).trans (u9 152 i (fo_nk rfl))))) (fun i => ((u22 171 i (fn_a (by omega) fn_0)).trans ((u13 171 i (fo_nk rfl)).trans (u9 171 i (fo_nk rfl))))) (fun i => ((u22 190 i (fn_a (by omega) fn_0)).trans ((u13 190 i (fo_nk rfl)).trans (u9 190 i (fo_nk rfl)))))) (by omega) (by omega)), nb40⟩
    ·
      refine wi_iconst (n := (-1)) (nx := 46) (r1 := 0) (r2 := 0) (r3 := 0) rfl ?_
      refine wi_goto (nx := 49) (r1 := 50) (r2 := 0) (r3 := 0) rfl ?_
      refine wr_V (k0 := 0) (rest := []) (as := [.ref 0, vi (-1)]) (nx := 53) (r1 := 45) (r2 := 1) (r3 := 0) rfl rfl rfl (of_decide_eq_true rfl) rfl rfl (by decide) rfl rfl (of_decide_eq_true rfl) (of_decide_eq_true rfl) ?_
      refine wi_iload_n (i := 1) (e := -1) (nx := 1) (r1 := 0) (r2 := 0) (r3 := 0) rfl rfl ?_
      refine wi_iconst (n := (-1)) (nx := 2) (r1 := 0) (r2 := 0) (r3 := 0) rfl ?_
      refine wi_icmp (cd := .eq) (nx := 5) (r1 := 12) (r2 := 0) (r3 := 0) rfl (by omega) (by omega) (fun (q21 : (-1) = (-1)) => ?_) (fun (q21 : ¬ ((-1) = (-1))) => by exfalso; omega)
      refine wi_iload_n (i := 1) (e := -1) (nx := 13) (r1 := 0) (r2 := 0) (r3 := 0) rfl rfl ?_
      refine wi_ireturn (nx := 14) (r1 := 0) (r2 := 0) (r3 := 0) rfl rfl ?_
      refine wk_i ?_
      refine wi_ireturn (nx := 54) (r1 := 0) (r2 := 0) (r3 := 0) rfl rfl ?_
      have e22 : h13 63 5 = h 63 5 := ((u13 63 5 rfl).trans ((u9 63 5 rfl).trans (u7 63 5 rfl)))
      have e23 : h13 3 2 = h 3 2 := ((u13 3 2 rfl).trans ((u9 3 2 rfl).trans (u7 3 2 rfl)))
      have e24 : h13 66 1 = h 66 1 := ((u13 66 1 rfl).trans ((u9 66 1 rfl).trans (u7 66 1 rfl)))
      have q26 : h13 8 = h 8 := funext (fun i => ((u13 8 i (fo_no_ok (by decide) i)).trans ((u9 8 i (fo_no_ok (by decide) i)).trans (u7 8 i (fo_no_ok (by decide) i)))))
      have q27 : h13 7 = h 7 := funext (fun i => ((u13 7 i (fo_no_ok (by decide) i)).trans ((u9 7 i (fo_no_ok (by decide) i)).trans (u7 7 i (fo_no_ok (by decide) i)))))
      have q28 : h13 19 = h 19 := funext (fun i => ((u13 19 i (fo_no_ok (by decide) i)).trans ((u9 19 i (fo_no_ok (by decide) i)).trans (u7 19 i (fo_no_ok (by decide) i)))))
      have q29 : h13 67 = h 67 := funext (fun i => ((u13 67 i (fo_no_ok (by decide) i)).trans ((u9 67 i (fo_no_ok (by decide) i)).trans (u7 67 i (fo_no_ok (by decide) i)))))
      have ml25 : MCL h13 := MCL.mv xq0.1 q26 q27 q28 q29 (by omega) (by omega) (by omega) (by omega)
      have q31 : h13 69 = h 69 := funext (fun i => ((u13 69 i (fo_no_ok (by decide) i)).trans ((u9 69 i (fo_no_ok (by decide) i)).trans (u7 69 i (fo_no_ok (by decide) i)))))
      have q32 : h13 70 = h 70 := funext (fun i => ((u13 70 i (fo_no_ok (by decide) i)).trans ((u9 70 i (fo_no_ok (by decide) i)).trans (u7 70 i (fo_no_ok (by decide) i)))))
      have nb30 : NBc (h13 69) (h13 70) := by rw [q31, q32]; exact xq0.2.2
      have q33 : h13 8 = h7 8 := funext (fun i => ((u13 8 i (fo_no_ok (by decide) i)).trans (u9 8 i (fo_no_ok (by decide) i))))
      have q34 : h13 7 = h7 7 := funext (fun i => ((u13 7 i (fo_no_ok (by decide) i)).trans (u9 7 i (fo_no_ok (by decide) i))))
      have e35 : h7 3 2 = h 3 2 := (u7 3 2 rfl)
      have b36 := gi_b (lo := 0) (hi := 6) g 73 1 rfl
      have e37 : h13 73 1 = h 73 1 := ((u13 73 1 rfl).trans ((u9 73 1 rfl).trans (u7 73 1 rfl)))
      have e38 : h7 73 1 = h 73 1 := (u7 73 1 rfl)
      have b39 := gi_b (lo := 0) (hi := 6) g 73 2 rfl
      have e40 : h13 73 2 = h 73 2 := ((u13 73 2 rfl).trans ((u9 73 2 rfl).trans (u7 73 2 rfl)))
      have e41 : h7 73 2 = h 73 2 := (u7 73 2 rfl)
      exact k h13 (-1) g13 F16 (by omega) (show (h13 63 5) ≤ (h13 18 16) by omega) (show (h13 63 5) < (h13 18 16) ∨ ((h13 18 7) ≤ (h13 3 2) ∧ (h13 66 1) = (h13 3 2) - (h13 18 7)) ∨ ((h13 3 2) < (h13 18 7) ∧ (h13 66 1) = 0) by omega) (show (h 18 16) ≤ (h13 18 16) ∧ (h13 18 16) ≤ (h 18 16) + 20 by omega) ⟨ml25, (HIv.n y7_0 q33 q34 (by omega) (by omega) (sv_seven (P := fun x => ∀ i, h13 (76 + 19 * x) i = h7 (76 + 19 * x) i) (fun i => ((u13 76 i (fo_nk rfl)).trans (u9 76 i (fo_nk rfl)))) (fun i => ((u13 95 i (fo_nk rfl)).trans (u9 95 i (fo_nk rfl)))) (fun i => ((u13 114 i (fo_nk rfl)).trans (u9 114 i (fo_nk rfl)))) (fun i => ((u13 133 i (fo_nk rfl)).trans (u9 133 i (fo_nk rfl)))) (fun i => ((u13 152 i (fo_nk rfl)).trans (u9 152 i (fo_nk rfl)))) (fun i => ((u13 171 i (fo_nk rfl)).trans (u9 171 i (fo_nk rfl)))) (fun i => ((u13 190 i (fo_nk rfl)).trans (u9 190 i (fo_nk rfl))))) (by omega) (by omega)), nb30⟩
-- method 50: Bank.unloadChanges()I
set_option maxRecDepth 100000 in
set_option maxHeartbeats 100000000 in
theorem ct_50_0 {L : Nat} {xs : Nat → Int32} {d b c : Nat} {h : hp} {cr : Nat → Nat → Option Nat} {Q : hp_Q} (hcr : CR cr)  (g : GI h)    (k : ∀ (h2 : hp) (z0 : Int) , GI h2 → FR [(57, 57, none), (58, 58, none), (59, 59, none), (60, 60, none), (61, 62, none), (56, 56, some (6, 7)), (56, 56, some (9, 9)), (56, 56, some (11, 12))] h h2 → (-2147483648 ≤ z0 ∧ z0 ≤ 2147483647) → Q (.inl (some (vi z0))) (hp_w h2 cr) b c) : wp (md_xa (L, xs)) (d + 103) 50 (0, [(0, .ref 0)], [], hp_w h cr, b, c) Q := by
  have F0 : FR [(57, 57, none), (58, 58, none), (59, 59, none), (60, 60, none), (61, 62, none), (56, 56, some (6, 7)), (56, 56, some (9, 9)), (56, 56, some (11, 12))] h h := FR.refl
  refine wi_aload_n (i := 0) (x := 0) (nx := 1) (r1 := 0) (r2 := 0) (r3 := 0) rfl rfl ?_
  refine wr_gr (k0 := 0) (x := 56) (nx := 4) (r1 := 0) (r2 := 5) (r3 := 0) rfl rfl (by decide) rfl ⟨rfl, rfl⟩ rfl ?_
  refine wr_V (k0 := 56) (rest := []) (as := [.ref 56]) (nx := 7) (r1 := 161) (r2 := 0) (r3 := 6) rfl rfl rfl (of_decide_eq_true rfl) rfl rfl (by decide) rfl rfl (of_decide_eq_true rfl) (of_decide_eq_true rfl) ?_
  refine ct_161_56 hcr  g    (fun h1 g1 u1 => ?_)
  have F2 := F0.then (by decide +kernel) u1
  refine wk_n ?_
  refine wi_aload_n (i := 0) (x := 0) (nx := 8) (r1 := 0) (r2 := 0) (r3 := 0) rfl rfl ?_
  refine wr_gr (k0 := 0) (x := 56) (nx := 11) (r1 := 0) (r2 := 5) (r3 := 0) rfl rfl (by decide) rfl ⟨rfl, rfl⟩ rfl ?_
  have b3 := gi_b (lo := 0) (hi := 1) g1 56 9 rfl
  refine wr_gi2 (k0 := 56) (x := h1 56 9) (nx := 14) (r1 := 6) (r2 := 9) (r3 := 0) rfl rfl (by decide) rfl ⟨rfl, rfl⟩ rfl rfl ?_
  refine wi_if (cd := .eq) (nx := 17) (r1 := 27) (r2 := 0) (r3 := 0) rfl (by omega) (fun (q4 : (h1 56 9) = 0) => ?_) (fun (q4 : ¬ ((h1 56 9) = 0)) => ?_)
  ·
    refine wi_iconst (n := (-1)) (nx := 28) (r1 := 0) (r2 := 0) (r3 := 0) rfl ?_
    refine wi_ireturn (nx := 29) (r1 := 0) (r2 := 0) (r3 := 0) rfl rfl ?_
    exact k h1 (-1) g1 F2 (by omega)
  ·
    refine wi_aload_n (i := 0) (x := 0) (nx := 18) (r1 := 0) (r2 := 0) (r3 := 0) rfl rfl ?_
    refine wr_gr (k0 := 0) (x := 56) (nx := 21) (r1 := 0) (r2 := 5) (r3 := 0) rfl rfl (by decide) rfl ⟨rfl, rfl⟩ rfl ?_
    have b5 := gi_b (lo := -2147483648) (hi := 2147483647) g1 56 12 rfl
    refine wr_gi0 (k0 := 56) (x := h1 56 12) (nx := 24) (r1 := 6) (r2 := 12) (r3 := 0) rfl rfl (by decide) rfl ⟨rfl, rfl⟩ rfl rfl ?_
    refine wi_goto (nx := 27) (r1 := 28) (r2 := 0) (r3 := 0) rfl ?_
    refine wi_ireturn (nx := 29) (r1 := 0) (r2 := 0) (r3 := 0) rfl rfl ?_
    exact k h1 (h1 56 12) g1 F2 (by omega)
-- method 49: Bank.unloadCost()I
set_option maxRecDepth 100000 in
set_option maxHeartbeats 100000000 in
theorem ct_49_0 {L : Nat} {xs : Nat → Int32} {d b c : Nat} {h : hp} {cr : Nat → Nat → Option Nat} {Q : hp_Q} (hcr : CR cr)  (g : GI h)    (k : ∀ (h2 : hp) (z0 : Int) , GI h2 → FR [(57, 57, none), (58, 58, none), (59, 59, none), (60, 60, none), (61, 62, none), (56, 56, some (6, 7)), (56, 56, some (9, 9)), (56, 56, some (11, 12))] h h2 → (-2147483648 ≤ z0 ∧ z0 ≤ 2147483647) → Q (.inl (some (vi z0))) (hp_w h2 cr) b c) : wp (md_xa (L, xs)) (d + 103) 49 (0, [(0, .ref 0)], [], hp_w h cr, b, c) Q := by
  have F0 : FR [(57, 57, none), (58, 58, none), (59, 59, none), (60, 60, none), (61, 62, none), (56, 56, some (6, 7)), (56, 56, some (9, 9)), (56, 56, some (11, 12))] h h := FR.refl
  refine wi_aload_n (i := 0) (x := 0) (nx := 1) (r1 := 0) (r2 := 0) (r3 := 0) rfl rfl ?_
  refine wr_gr (k0 := 0) (x := 56) (nx := 4) (r1 := 0) (r2 := 5) (r3 := 0) rfl rfl (by decide) rfl ⟨rfl, rfl⟩ rfl ?_
  refine wr_V (k0 := 56) (rest := []) (as := [.ref 56]) (nx := 7) (r1 := 161) (r2 := 0) (r3 := 6) rfl rfl rfl (of_decide_eq_true rfl) rfl rfl (by decide) rfl rfl (of_decide_eq_true rfl) (of_decide_eq_true rfl) ?_
  refine ct_161_56 hcr  g    (fun h1 g1 u1 => ?_)
  have F2 := F0.then (by decide +kernel) u1
  refine wk_n ?_
  refine wi_aload_n (i := 0) (x := 0) (nx := 8) (r1 := 0) (r2 := 0) (r3 := 0) rfl rfl ?_
  refine wr_gr (k0 := 0) (x := 56) (nx := 11) (r1 := 0) (r2 := 5) (r3 := 0) rfl rfl (by decide) rfl ⟨rfl, rfl⟩ rfl ?_
  have b3 := gi_b (lo := 0) (hi := 1) g1 56 9 rfl
  refine wr_gi2 (k0 := 56) (x := h1 56 9) (nx := 14) (r1 := 6) (r2 := 9) (r3 := 0) rfl rfl (by decide) rfl ⟨rfl, rfl⟩ rfl rfl ?_
  refine wi_if (cd := .eq) (nx := 17) (r1 := 27) (r2 := 0) (r3 := 0) rfl (by omega) (fun (q4 : (h1 56 9) = 0) => ?_) (fun (q4 : ¬ ((h1 56 9) = 0)) => ?_)
  ·
    refine wi_iconst (n := (-1)) (nx := 28) (r1 := 0) (r2 := 0) (r3 := 0) rfl ?_
    refine wi_ireturn (nx := 29) (r1 := 0) (r2 := 0) (r3 := 0) rfl rfl ?_
    exact k h1 (-1) g1 F2 (by omega)
  ·
    refine wi_aload_n (i := 0) (x := 0) (nx := 18) (r1 := 0) (r2 := 0) (r3 := 0) rfl rfl ?_
    refine wr_gr (k0 := 0) (x := 56) (nx := 21) (r1 := 0) (r2 := 5) (r3 := 0) rfl rfl (by decide) rfl ⟨rfl, rfl⟩ rfl ?_
    have b5 := gi_b (lo := -2147483648) (hi := 2147483647) g1 56 11 rfl
    refine wr_gi0 (k0 := 56) (x := h1 56 11) (nx := 24) (r1 := 6) (r2 := 11) (r3 := 0) rfl rfl (by decide) rfl ⟨rfl, rfl⟩ rfl rfl ?_
    refine wi_goto (nx := 27) (r1 := 28) (r2 := 0) (r3 := 0) rfl ?_
    refine wi_ireturn (nx := 29) (r1 := 0) (r2 := 0) (r3 := 0) rfl rfl ?_
    exact k h1 (h1 56 11) g1 F2 (by omega)
-- method 51: Bank.unloadLane(I)I
set_option maxRecDepth 100000 in
set_option maxHeartbeats 100000000 in
theorem ct_51_0 {L : Nat} {xs : Nat → Int32} {d b c : Nat} {h : hp} {cr : Nat → Nat → Option Nat} {Q : hp_Q} (hcr : CR cr)  (g : GI h) (a0 : Int) (q0_ : -2147483648 ≤ a0 ∧ a0 ≤ 2147483647)  (k : ∀ (h2 : hp) (z0 : Int) , GI h2 → FR [(57, 57, none), (58, 58, none), (59, 59, none), (60, 60, none), (61, 62, none), (56, 56, some (6, 7)), (56, 56, some (9, 9)), (56, 56, some (11, 12))] h h2 → (-2147483648 ≤ z0 ∧ z0 ≤ 2147483647) → Q (.inl (some (vi z0))) (hp_w h2 cr) b c) : wp (md_xa (L, xs)) (d + 103) 51 (0, [(0, .ref 0), (1, vi a0)], [], hp_w h cr, b, c) Q := by
  have F0 : FR [(57, 57, none), (58, 58, none), (59, 59, none), (60, 60, none), (61, 62, none), (56, 56, some (6, 7)), (56, 56, some (9, 9)), (56, 56, some (11, 12))] h h := FR.refl
  refine wi_aload_n (i := 0) (x := 0) (nx := 1) (r1 := 0) (r2 := 0) (r3 := 0) rfl rfl ?_
  refine wr_gr (k0 := 0) (x := 56) (nx := 4) (r1 := 0) (r2 := 5) (r3 := 0) rfl rfl (by decide) rfl ⟨rfl, rfl⟩ rfl ?_
  refine wr_V (k0 := 56) (rest := []) (as := [.ref 56]) (nx := 7) (r1 := 161) (r2 := 0) (r3 := 6) rfl rfl rfl (of_decide_eq_true rfl) rfl rfl (by decide) rfl rfl (of_decide_eq_true rfl) (of_decide_eq_true rfl) ?_
  refine ct_161_56 hcr  g    (fun h1 g1 u1 => ?_)
  have F2 := F0.then (by decide +kernel) u1
  refine wk_n ?_
  refine wi_aload_n (i := 0) (x := 0) (nx := 8) (r1 := 0) (r2 := 0) (r3 := 0) rfl rfl ?_
  refine wr_gr (k0 := 0) (x := 56) (nx := 11) (r1 := 0) (r2 := 5) (r3 := 0) rfl rfl (by decide) rfl ⟨rfl, rfl⟩ rfl ?_
  have b3 := gi_b (lo := 0) (hi := 1) g1 56 9 rfl
  refine wr_gi2 (k0 := 56) (x := h1 56 9) (nx := 14) (r1 := 6) (r2 := 9) (r3 := 0) rfl rfl (by decide) rfl ⟨rfl, rfl⟩ rfl rfl ?_
  refine wi_if (cd := .eq) (nx := 17) (r1 := 31) (r2 := 0) (r3 := 0) rfl (by omega) (fun (q4 : (h1 56 9) = 0) => ?_) (fun (q4 : ¬ ((h1 56 9) = 0)) => ?_)
  ·
    refine wi_iconst (n := (-1)) (nx := 32) (r1 := 0) (r2 := 0) (r3 := 0) rfl ?_
    refine wi_ireturn (nx := 33) (r1 := 0) (r2 := 0) (r3 := 0) rfl rfl ?_
    exact k h1 (-1) g1 F2 (by omega)
  ·
    refine wi_aload_n (i := 0) (x := 0) (nx := 18) (r1 := 0) (r2 := 0) (r3 := 0) rfl rfl ?_
    refine wr_gr (k0 := 0) (x := 56) (nx := 21) (r1 := 0) (r2 := 5) (r3 := 0) rfl rfl (by decide) rfl ⟨rfl, rfl⟩ rfl ?_
    refine wr_gr (k0 := 56) (x := 61) (nx := 24) (r1 := 6) (r2 := 8) (r3 := 0) rfl rfl (by decide) rfl ⟨rfl, rfl⟩ rfl ?_
    refine wi_iload_n (i := 1) (e := a0) (nx := 25) (r1 := 0) (r2 := 0) (r3 := 0) rfl rfl ?_
    refine wr_V (k0 := 61) (rest := []) (as := [.ref 61, vi a0]) (nx := 28) (r1 := 154) (r2 := 1) (r3 := 5) rfl rfl rfl (of_decide_eq_true rfl) rfl rfl (by decide) rfl rfl (of_decide_eq_true rfl) (of_decide_eq_true rfl) ?_
    refine ct_154_R hcr rw_61 g1 a0 (by omega)  (fun z6  (fz6 : -2147483648 ≤ z6 ∧ z6 ≤ 2147483647) => ?_)
    refine wk_i ?_
    refine wi_goto (nx := 31) (r1 := 32) (r2 := 0) (r3 := 0) rfl ?_
    refine wi_ireturn (nx := 33) (r1 := 0) (r2 := 0) (r3 := 0) rfl rfl ?_
    exact k h1 z6 g1 F2 (by omega)
-- method 128: Line.waitingCount()I
set_option maxRecDepth 100000 in
set_option maxHeartbeats 100000000 in
theorem ct_128_18 {L : Nat} {xs : Nat → Int32} {d b c : Nat} {h : hp} {cr : Nat → Nat → Option Nat} {Q : hp_Q} (hcr : CR cr)  (g : GI h)    (k : ∀ (z0 : Int), (-12 ≤ z0 ∧ z0 ≤ 12) → Q (.inl (some (vi z0))) (hp_w h cr) b c) : wp (md_xa (L, xs)) d 128 (0, [(0, .ref 18)], [], hp_w h cr, b, c) Q := by
  have F0 : FR [] h h := FR.refl
  refine wi_aload_n (i := 0) (x := 18) (nx := 1) (r1 := 0) (r2 := 0) (r3 := 0) rfl rfl ?_
  refine wr_gr (k0 := 18) (x := 3) (nx := 4) (r1 := 4) (r2 := 0) (r3 := 0) rfl rfl (by decide) rfl ⟨rfl, rfl⟩ rfl ?_
  have b1 := gi_b (lo := 0) (hi := 12) g 3 2 rfl
  refine wr_gi0 (k0 := 3) (x := h 3 2) (nx := 7) (r1 := 2) (r2 := 2) (r3 := 0) rfl rfl (by decide) rfl ⟨rfl, rfl⟩ rfl rfl ?_
  refine wi_aload_n (i := 0) (x := 18) (nx := 8) (r1 := 0) (r2 := 0) (r3 := 0) rfl rfl ?_
  have b2 := gi_b (lo := 0) (hi := 12) g 18 7 rfl
  refine wr_gi0 (k0 := 18) (x := h 18 7) (nx := 11) (r1 := 4) (r2 := 7) (r3 := 0) rfl rfl (by decide) rfl ⟨rfl, rfl⟩ rfl rfl ?_
  refine wr_sub (nx := 12) (r1 := 0) (r2 := 0) (r3 := 0) rfl (fun e3 (fe3 : e3 = (h 3 2) - (h 18 7)) => ?_)
  refine wi_ireturn (nx := 13) (r1 := 0) (r2 := 0) (r3 := 0) rfl rfl ?_
  exact k e3 (by omega)
-- method 31: Bank.waiting()I
set_option maxRecDepth 100000 in
set_option maxHeartbeats 100000000 in
theorem ct_31_0 {L : Nat} {xs : Nat → Int32} {d b c : Nat} {h : hp} {cr : Nat → Nat → Option Nat} {Q : hp_Q} (hcr : CR cr)  (g : GI h)    (k : ∀ (z0 : Int), (-12 ≤ z0 ∧ z0 ≤ 12) → Q (.inl (some (vi z0))) (hp_w h cr) b c) : wp (md_xa (L, xs)) (d + 1) 31 (0, [(0, .ref 0)], [], hp_w h cr, b, c) Q := by
  have F0 : FR [] h h := FR.refl
  refine wi_aload_n (i := 0) (x := 0) (nx := 1) (r1 := 0) (r2 := 0) (r3 := 0) rfl rfl ?_
  refine wr_gr (k0 := 0) (x := 18) (nx := 4) (r1 := 0) (r2 := 3) (r3 := 0) rfl rfl (by decide) rfl ⟨rfl, rfl⟩ rfl ?_
  refine wr_V (k0 := 18) (rest := []) (as := [.ref 18]) (nx := 7) (r1 := 128) (r2 := 0) (r3 := 4) rfl rfl rfl (of_decide_eq_true rfl) rfl rfl (by decide) rfl rfl (of_decide_eq_true rfl) (of_decide_eq_true rfl) ?_
  refine ct_128_18 hcr  g    (fun z2  (fz2 : -12 ≤ z2 ∧ z2 ≤ 12) => ?_)
  refine wk_i ?_
  refine wi_ireturn (nx := 8) (r1 := 0) (r2 := 0) (r3 := 0) rfl rfl ?_
  exact k z2 (by omega)
-- method 150: Line.changesAmongWaiting()I
set_option maxRecDepth 100000 in
set_option maxHeartbeats 100000000 in
theorem ct_150_18 {L : Nat} {xs : Nat → Int32} {d b c : Nat} {h : hp} {cr : Nat → Nat → Option Nat} {Q : hp_Q} (hcr : CR cr)  (g : GI h)    (k : ∀ (z0 : Int), (-2147483648 ≤ z0 ∧ z0 ≤ 2147483647) → Q (.inl (some (vi z0))) (hp_w h cr) b c) : wp (md_xa (L, xs)) d 150 (0, [(0, .ref 18)], [], hp_w h cr, b, c) Q := by
  have F0 : FR [] h h := FR.refl
  refine wi_iconst (n := 0) (nx := 1) (r1 := 0) (r2 := 0) (r3 := 0) rfl ?_
  refine wi_istore_n (i := 1) (e := 0) (lo2 := [(1, vi 0), (0, .ref 18)]) (nx := 2) (r1 := 0) (r2 := 0) (r3 := 0) rfl rfl ?_
  refine wi_aload_n (i := 0) (x := 18) (nx := 3) (r1 := 0) (r2 := 0) (r3 := 0) rfl rfl ?_
  have b1 := gi_b (lo := 0) (hi := 12) g 18 7 rfl
  refine wr_gi0 (k0 := 18) (x := h 18 7) (nx := 6) (r1 := 4) (r2 := 7) (r3 := 0) rfl rfl (by decide) rfl ⟨rfl, rfl⟩ rfl rfl ?_
  refine wi_iconst (n := 1) (nx := 7) (r1 := 0) (r2 := 0) (r3 := 0) rfl ?_
  refine wr_add (nx := 8) (r1 := 0) (r2 := 0) (r3 := 0) rfl (fun e2 (fe2 : e2 = (h 18 7) + 1) => ?_)
  refine wi_istore_n (i := 2) (e := e2) (lo2 := [(2, vi e2), (1, vi 0), (0, .ref 18)]) (nx := 9) (r1 := 0) (r2 := 0) (r3 := 0) rfl rfl ?_
  refine wp.lo (lo := [(0, .ref 18), (1, vi 0), (2, vi e2)]) ⟨rfl, rfl, rfl, trivial⟩ rfl ?_
  refine wl_2 (fun x3 x4 h5 => h = h5 ∧ ((-2147483648 ≤ x3 ∧ x3 ≤ 2147483647) ∧ (1 ≤ x4 ∧ x4 ≤ 13))) (fun x3 x4 h5 => ((13 : Int) + 1 - x4).toNat) (fun x3 x4 h5 => (9, [(0, .ref 18), (1, vi x3), (2, vi x4)], [], hp_w h5 cr, b, c)) ?_ 0 e2 h ⟨rfl, (show (-2147483648 ≤ 0 ∧ 0 ≤ 2147483647) ∧ (1 ≤ e2 ∧ e2 ≤ 13) by omega)⟩
  intro x3 x4 h5 ⟨e5, f5⟩ I5
  subst e5
  refine wi_iload_n (i := 2) (e := x4) (nx := 10) (r1 := 0) (r2 := 0) (r3 := 0) rfl rfl ?_
  refine wi_aload_n (i := 0) (x := 18) (nx := 11) (r1 := 0) (r2 := 0) (r3 := 0) rfl rfl ?_
  refine wr_gr (k0 := 18) (x := 3) (nx := 14) (r1 := 4) (r2 := 0) (r3 := 0) rfl rfl (by decide) rfl ⟨rfl, rfl⟩ rfl ?_
  have b7 := gi_b (lo := 0) (hi := 12) g 3 2 rfl
  refine wr_gi0 (k0 := 3) (x := h 3 2) (nx := 17) (r1 := 2) (r2 := 2) (r3 := 0) rfl rfl (by decide) rfl ⟨rfl, rfl⟩ rfl rfl ?_
  refine wi_icmp (cd := .ge) (nx := 20) (r1 := 46) (r2 := 0) (r3 := 0) rfl (by omega) (by omega) (fun (q8 : (h 3 2) ≤ x4) => ?_) (fun (q8 : ¬ ((h 3 2) ≤ x4)) => ?_)
  ·
    refine wi_iload_n (i := 1) (e := x3) (nx := 47) (r1 := 0) (r2 := 0) (r3 := 0) rfl rfl ?_
    refine wi_ireturn (nx := 48) (r1 := 0) (r2 := 0) (r3 := 0) rfl rfl ?_
    exact k x3 (by omega)
  ·
    refine wi_aload_n (i := 0) (x := 18) (nx := 21) (r1 := 0) (r2 := 0) (r3 := 0) rfl rfl ?_
    refine wr_gr (k0 := 18) (x := 19) (nx := 24) (r1 := 4) (r2 := 1) (r3 := 0) rfl rfl (by decide) rfl ⟨rfl, rfl⟩ rfl ?_
    refine wi_iload_n (i := 2) (e := x4) (nx := 25) (r1 := 0) (r2 := 0) (r3 := 0) rfl rfl ?_
    obtain ⟨i9, ei9⟩ : ∃ q : Nat, x4 = (q : Int) := ⟨(x4).toNat, by omega⟩
    have b10 := gi_b (lo := -2147483648) (hi := 2147483647) g 19 i9 rfl
    refine wr_ia (k0 := 19) (a := x4) (f := i9) (x := h 19 i9) (nx := 26) (r1 := 0) (r2 := 0) (r3 := 0) rfl (by decide) rfl (by omega) (by omega) (by decide) rfl ?_
    refine wi_aload_n (i := 0) (x := 18) (nx := 27) (r1 := 0) (r2 := 0) (r3 := 0) rfl rfl ?_
    refine wr_gr (k0 := 18) (x := 19) (nx := 30) (r1 := 4) (r2 := 1) (r3 := 0) rfl rfl (by decide) rfl ⟨rfl, rfl⟩ rfl ?_
    refine wi_iload_n (i := 2) (e := x4) (nx := 31) (r1 := 0) (r2 := 0) (r3 := 0) rfl rfl ?_
    refine wi_iconst (n := 1) (nx := 32) (r1 := 0) (r2 := 0) (r3 := 0) rfl ?_
    refine wr_sub (nx := 33) (r1 := 0) (r2 := 0) (r3 := 0) rfl (fun e11 (fe11 : e11 = x4 - 1) => ?_)
    obtain ⟨i12, ei12⟩ : ∃ q : Nat, e11 = (q : Int) := ⟨(e11).toNat, by omega⟩
    have b13 := gi_b (lo := -2147483648) (hi := 2147483647) g 19 i12 rfl
    refine wr_ia (k0 := 19) (a := e11) (f := i12) (x := h 19 i12) (nx := 34) (r1 := 0) (r2 := 0) (r3 := 0) rfl (by decide) rfl (by omega) (by omega) (by decide) rfl ?_
    refine wi_icmp (cd := .eq) (nx := 37) (r1 := 40) (r2 := 0) (r3 := 0) rfl (by omega) (by omega) (fun (q14 : (h 19 i9) = (h 19 i12)) => ?_) (fun (q14 : ¬ ((h 19 i9) = (h 19 i12))) => ?_)
    ·
      refine wr_iinc (i := 2) (n := 1) (v := x4) (fun e15 => [(2, vi e15), (0, .ref 18), (1, vi x3)]) (nx := 43) (r1 := 0) (r2 := 0) (r3 := 0) rfl rfl (fun _ => rfl) (fun e15 (fe15 : e15 = x4 + 1) => ?_)
      refine wi_goto (nx := 46) (r1 := 9) (r2 := 0) (r3 := 0) rfl ?_
      refine wp.lo (lo := [(0, .ref 18), (1, vi x3), (2, vi e15)]) ⟨rfl, rfl, rfl, trivial⟩ rfl ?_
      exact I5 x3 e15 h ⟨rfl, (show (-2147483648 ≤ x3 ∧ x3 ≤ 2147483647) ∧ (1 ≤ e15 ∧ e15 ≤ 13) by omega)⟩ (show ((13 : Int) + 1 - e15).toNat < ((13 : Int) + 1 - x4).toNat by omega)
    ·
      refine wr_iincW (i := 1) (n := 1) (v := x3) (fun e15 => [(1, vi e15), (0, .ref 18), (2, vi x4)]) (nx := 40) (r1 := 0) (r2 := 0) (r3 := 0) rfl rfl (fun _ => rfl) (fun e15 (fe15 : -2147483648 ≤ e15 ∧ e15 ≤ 2147483647) => ?_)
      refine wr_iinc (i := 2) (n := 1) (v := x4) (fun e16 => [(2, vi e16), (1, vi e15), (0, .ref 18)]) (nx := 43) (r1 := 0) (r2 := 0) (r3 := 0) rfl rfl (fun _ => rfl) (fun e16 (fe16 : e16 = x4 + 1) => ?_)
      refine wi_goto (nx := 46) (r1 := 9) (r2 := 0) (r3 := 0) rfl ?_
      refine wp.lo (lo := [(0, .ref 18), (1, vi e15), (2, vi e16)]) ⟨rfl, rfl, rfl, trivial⟩ rfl ?_
      exact I5 e15 e16 h ⟨rfl, (show (-2147483648 ≤ e15 ∧ e15 ≤ 2147483647) ∧ (1 ≤ e16 ∧ e16 ≤ 13) by omega)⟩ (show ((13 : Int) + 1 - e16).toNat < ((13 : Int) + 1 - x4).toNat by omega)
-- method 54: Bank.waitingChanges()I
set_option maxRecDepth 100000 in
set_option maxHeartbeats 100000000 in
theorem ct_54_0 {L : Nat} {xs : Nat → Int32} {d b c : Nat} {h : hp} {cr : Nat → Nat → Option Nat} {Q : hp_Q} (hcr : CR cr)  (g : GI h)    (k : ∀ (z0 : Int), (-2147483648 ≤ z0 ∧ z0 ≤ 2147483647) → Q (.inl (some (vi z0))) (hp_w h cr) b c) : wp (md_xa (L, xs)) (d + 1) 54 (0, [(0, .ref 0)], [], hp_w h cr, b, c) Q := by
  have F0 : FR [] h h := FR.refl
  refine wi_aload_n (i := 0) (x := 0) (nx := 1) (r1 := 0) (r2 := 0) (r3 := 0) rfl rfl ?_
  refine wr_gr (k0 := 0) (x := 18) (nx := 4) (r1 := 0) (r2 := 3) (r3 := 0) rfl rfl (by decide) rfl ⟨rfl, rfl⟩ rfl ?_
  refine wr_V (k0 := 18) (rest := []) (as := [.ref 18]) (nx := 7) (r1 := 150) (r2 := 0) (r3 := 4) rfl rfl rfl (of_decide_eq_true rfl) rfl rfl (by decide) rfl rfl (of_decide_eq_true rfl) (of_decide_eq_true rfl) ?_
  refine ct_150_18 hcr  g    (fun z2  (fz2 : -2147483648 ≤ z2 ∧ z2 ≤ 2147483647) => ?_)
  refine wk_i ?_
  refine wi_ireturn (nx := 8) (r1 := 0) (r2 := 0) (r3 := 0) rfl rfl ?_
  exact k z2 (by omega)
-- method 44: Bank.waits()I
set_option maxRecDepth 100000 in
set_option maxHeartbeats 100000000 in
theorem ct_44_0 {L : Nat} {xs : Nat → Int32} {d b c : Nat} {h : hp} {cr : Nat → Nat → Option Nat} {Q : hp_Q} (hcr : CR cr)  (g : GI h)   (pp0 : h 63 5 ≤ h 18 16) (pp1 : h 63 5 < h 18 16 ∨ (h 18 7 ≤ h 3 2 ∧ h 66 1 = h 3 2 - h 18 7) ∨ (h 3 2 < h 18 7 ∧ h 66 1 = 0)) (pp2 : 0 ≤ h 3 9) (pp3 : h 18 16 ≤ 1900000000) (xq0 : MCI h) (k : ∀ (h2 : hp) (z0 : Int) , GI h2 → FR [(75, 93, none), (94, 112, none), (113, 131, none), (132, 150, none), (151, 169, none), (170, 188, none), (189, 207, none), (18, 18, some (10, 10)), (18, 18, some (16, 16)), (73, 73, some (1, 2))] h h2 → (-2147483647 ≤ z0 ∧ z0 ≤ 9999) → (h2 63 5 ≤ h2 18 16) → (h2 63 5 < h2 18 16 ∨ (h2 18 7 ≤ h2 3 2 ∧ h2 66 1 = h2 3 2 - h2 18 7) ∨ (h2 3 2 < h2 18 7 ∧ h2 66 1 = 0)) → (h 18 16 ≤ h2 18 16 ∧ h2 18 16 ≤ h 18 16 + 4) → (MCI h2) → Q (.inl (some (vi z0))) (hp_w h2 cr) b c) : wp (md_xa (L, xs)) (d + 3) 44 (0, [(0, .ref 0)], [], hp_w h cr, b, c) Q := by
  have F0 : FR [(75, 93, none), (94, 112, none), (113, 131, none), (132, 150, none), (151, 169, none), (170, 188, none), (189, 207, none), (18, 18, some (10, 10)), (18, 18, some (16, 16)), (73, 73, some (1, 2))] h h := FR.refl
  have b1 := gi_b (lo := -2147483648) (hi := 2147483647) g 63 5 rfl
  have b2 := gi_b (lo := -2147483648) (hi := 2147483647) g 18 16 rfl
  have b3 := gi_b (lo := 0) (hi := 12) g 18 7 rfl
  have b4 := gi_b (lo := 0) (hi := 12) g 3 2 rfl
  have b5 := gi_b (lo := 0) (hi := 12) g 66 1 rfl
  have b6 := gi_b (lo := -2147483648) (hi := 2147483647) g 3 9 rfl
  refine wi_aload_n (i := 0) (x := 0) (nx := 1) (r1 := 0) (r2 := 0) (r3 := 0) rfl rfl ?_
  refine wr_gr (k0 := 0) (x := 73) (nx := 4) (r1 := 0) (r2 := 8) (r3 := 0) rfl rfl (by decide) rfl ⟨rfl, rfl⟩ rfl ?_
  refine wi_aload_n (i := 0) (x := 0) (nx := 5) (r1 := 0) (r2 := 0) (r3 := 0) rfl rfl ?_
  refine wr_gr (k0 := 0) (x := 18) (nx := 8) (r1 := 0) (r2 := 3) (r3 := 0) rfl rfl (by decide) rfl ⟨rfl, rfl⟩ rfl ?_
  refine wr_V (k0 := 73) (rest := []) (as := [.ref 73, .ref 18]) (nx := 11) (r1 := 192) (r2 := 1) (r3 := 9) rfl rfl rfl (of_decide_eq_true rfl) rfl rfl (by decide) rfl rfl (of_decide_eq_true rfl) (of_decide_eq_true rfl) ?_
  refine ct_192_73_18 hcr  g    xq0.1.1 xq0.2.1 (fun h7 g7 u7 y7_0 => ?_)
  have F8 := F0.then (by decide +kernel) u7
  refine wk_n ?_
  refine wi_aload_n (i := 0) (x := 0) (nx := 12) (r1 := 0) (r2 := 0) (r3 := 0) rfl rfl ?_
  refine wi_aload_n (i := 0) (x := 0) (nx := 13) (r1 := 0) (r2 := 0) (r3 := 0) rfl rfl ?_
  refine wr_gr (k0 := 0) (x := 18) (nx := 16) (r1 := 0) (r2 := 3) (r3 := 0) rfl rfl (by decide) rfl ⟨rfl, rfl⟩ rfl ?_
  refine wr_V (k0 := 18) (rest := [.ref 0]) (as := [.ref 18]) (nx := 19) (r1 := 133) (r2 := 0) (r3 := 4) rfl rfl rfl (of_decide_eq_true rfl) rfl rfl (by decide) rfl rfl (of_decide_eq_true rfl) (of_decide_eq_true rfl) ?_
  have e10 : h7 18 16 = h 18 16 := (u7 18 16 rfl)
  refine ct_133_18 hcr  g7   (show (h7 18 16) ≤ 2000000000 by omega) (fun h9 z11 g9 u9 (fz11 : -2147483647 ≤ z11 ∧ z11 ≤ 9999) (p9_0 : ((h9 18 16) = (h7 18 16) ∧ (h9 18 7) = (h7 18 7)) ∨ ((h7 18 16) + 1 ≤ (h9 18 16) ∧ (h9 18 16) ≤ (h7 18 16) + 1)) => ?_)
  have F12 := F8.then (by decide +kernel) u9
  have e13 : h7 18 7 = h 18 7 := (u7 18 7 rfl)
  have b14 := gi_b (lo := -2147483648) (hi := 2147483647) g9 18 16 rfl
  have e15 : h9 18 7 = h 18 7 := ((u9 18 7 rfl).trans (u7 18 7 rfl))
  refine wk_i ?_
  refine wr_V (k0 := 0) (rest := []) (as := [.ref 0, vi z11]) (nx := 22) (r1 := 45) (r2 := 1) (r3 := 0) rfl rfl rfl (of_decide_eq_true rfl) rfl rfl (by decide) rfl rfl (of_decide_eq_true rfl) (of_decide_eq_true rfl) ?_
  refine wi_iload_n (i := 1) (e := z11) (nx := 1) (r1 := 0) (r2 := 0) (r3 := 0) rfl rfl ?_
  refine wi_iconst (n := (-1)) (nx := 2) (r1 := 0) (r2 := 0) (r3 := 0) rfl ?_
  refine wi_icmp (cd := .eq) (nx := 5) (r1 := 12) (r2 := 0) (r3 := 0) rfl (by omega) (by omega) (fun (q16 : z11 = (-1)) => ?_) (fun (q16 : ¬ (z11 = (-1))) => ?_)
  ·
    refine wi_iload_n (i := 1) (e := z11) (nx := 13) (r1 := 0) (r2 := 0) (r3 := 0) rfl rfl ?_
    refine wi_ireturn (nx := 14) (r1 := 0) (r2 := 0) (r3 := 0) rfl rfl ?_
    refine wk_i ?_
    refine wi_ireturn (nx := 23) (r1 := 0) (r2 := 0) (r3 := 0) rfl rfl ?_
    have e17 : h9 63 5 = h 63 5 := ((u9 63 5 rfl).trans (u7 63 5 rfl))
    have e18 : h9 3 2 = h 3 2 := ((u9 3 2 rfl).trans (u7 3 2 rfl))
    have e19 : h9 66 1 = h 66 1 := ((u9 66 1 rfl).trans (u7 66 1 rfl))
    have q21 : h9 8 = h 8 := funext (fun i => ((u9 8 i (fo_no_ok (by decide) i)).trans (u7 8 i (fo_no_ok (by decide) i))))
    have q22 : h9 7 = h 7 := funext (fun i => ((u9 7 i (fo_no_ok (by decide) i)).trans (u7 7 i (fo_no_ok (by decide) i))))
    have q23 : h9 19 = h 19 := funext (fun i => ((u9 19 i (fo_no_ok (by decide) i)).trans (u7 19 i (fo_no_ok (by decide) i))))
    have q24 : h9 67 = h 67 := funext (fun i => ((u9 67 i (fo_no_ok (by decide) i)).trans (u7 67 i (fo_no_ok (by decide) i))))
    have ml20 : MCL h9 := MCL.mv xq0.1 q21 q22 q23 q24 (by omega) (by omega) (by omega) (by omega)
    have q26 : h9 69 = h 69 := funext (fun i => ((u9 69 i (fo_no_ok (by decide) i)).trans (u7 69 i (fo_no_ok (by decide) i))))
    have q27 : h9 70 = h 70 := funext (fun i => ((u9 70 i (fo_no_ok (by decide) i)).trans (u7 70 i (fo_no_ok (by decide) i))))
    have nb25 : NBc (h9 69) (h9 70) := by rw [q26, q27]; exact xq0.2.2
    have q28 : h9 8 = h7 8 := funext (fun i => (u9 8 i (fo_no_ok (by decide) i)))
    have q29 : h9 7 = h7 7 := funext (fun i => (u9 7 i (fo_no_ok (by decide) i)))
    have e30 : h7 3 2 = h 3 2 := (u7 3 2 rfl)
    have b31 := gi_b (lo := 0) (hi := 6) g 73 1 rfl
    have e32 : h9 73 1 = h 73 1 := ((u9 73 1 rfl).trans (u7 73 1 rfl))
    have e33 : h7 73 1 = h 73 1 := (u7 73 1 rfl)
    have b34 := gi_b (lo := 0) (hi := 6) g 73 2 rfl
    have e35 : h9 73 2 = h 73 2 := ((u9 73 2 rfl).trans (u7 73 2 rfl))
    have e36 : h7 73 2 = h 73 2 := (u7 73 2 rfl)
    exact k h9 z11 g9 F12 (by omega) (show (h9 63 5) ≤ (h9 18 16) by omega) (show (h9 63 5) < (h9 18 16) ∨ ((h9 18 7) ≤ (h9 3 2) ∧ (h9 66 1) = (h9 3 2) - (h9 18 7)) ∨ ((h9 3 2) < (h9 18 7) ∧ (h9 66 1) = 0) by omega) (show (h 18 16) ≤ (h9 18 16) ∧ (h9 18 16) ≤ (h 18 16) + 4 by omega) ⟨ml20, (HIv.n y7_0 q28 q29 (by omega) (by omega) (sv_seven (P := fun x => ∀ i, h9 (76 + 19 * x) i = h7 (76 + 19 * x) i) (fun i => (u9 76 i (fn_a (by omega) (fn_a (by omega) fn_0)))) (fun i => (u9 95 i (fn_a (by omega) (fn_a (by omega) fn_0)))) (fun i => (u9 114 i (fn_a (by omega) (fn_a (by omega) fn_0)))) (fun i => (u9 133 i (fn_a (by omega) (fn_a (by omega) fn_0)))) (fun i => (u9 152 i (fn_a (by omega) (fn_a (by omega) fn_0)))) (fun i => (u9 171 i (fn_a (by omega) (fn_a (by omega) fn_0)))) (fun i => (u9 190 i (fn_a (by omega) (fn_a (by omega) fn_0))))) (by omega) (by omega)), nb25⟩
  ·
    refine wi_aload_n (i := 0) (x := 0) (nx := 6) (r1 := 0) (r2 := 0) (r3 := 0) rfl rfl ?_
    refine wr_gr (k0 := 0) (x := 73) (nx := 9) (r1 := 0) (r2 := 8) (r3 := 0) rfl rfl (by decide) rfl ⟨rfl, rfl⟩ rfl ?_
    refine wr_V (k0 := 73) (rest := []) (as := [.ref 73]) (nx := 12) (r1 := 193) (r2 := 0) (r3 := 9) rfl rfl rfl (of_decide_eq_true rfl) rfl rfl (by decide) rfl rfl (of_decide_eq_true rfl) (of_decide_eq_true rfl) ?_
    refine ct_193_73 hcr  g9    (fun h17 g17 u17 (p17_0 : ((h9 73 1) ≤ 5 ∧ (h17 73 1) = (h9 73 1) + 1) ∨ ((h9 73 1) = 6 ∧ (h17 73 1) = 0)) (p17_1 : ((h9 73 2) ≤ 5 ∧ (h17 73 2) = (h9 73 2) + 1) ∨ ((h9 73 2) = 6 ∧ (h17 73 2) = 6)) => ?_)
    have F18 := F12.then (by decide +kernel) u17
    have b19 := gi_b (lo := 0) (hi := 6) g 73 1 rfl
    have e20 : h9 73 1 = h 73 1 := ((u9 73 1 rfl).trans (u7 73 1 rfl))
    have b21 := gi_b (lo := 0) (hi := 6) g17 73 1 rfl
    have b22 := gi_b (lo := 0) (hi := 6) g 73 2 rfl
    have e23 : h9 73 2 = h 73 2 := ((u9 73 2 rfl).trans (u7 73 2 rfl))
    have b24 := gi_b (lo := 0) (hi := 6) g17 73 2 rfl
    refine wk_n ?_
    refine wi_iload_n (i := 1) (e := z11) (nx := 13) (r1 := 0) (r2 := 0) (r3 := 0) rfl rfl ?_
    refine wi_ireturn (nx := 14) (r1 := 0) (r2 := 0) (r3 := 0) rfl rfl ?_
    refine wk_i ?_
    refine wi_ireturn (nx := 23) (r1 := 0) (r2 := 0) (r3 := 0) rfl rfl ?_
    have e25 : h17 63 5 = h 63 5 := ((u17 63 5 rfl).trans ((u9 63 5 rfl).trans (u7 63 5 rfl)))
    have e26 : h17 18 16 = h9 18 16 := (u17 18 16 rfl)
    have e27 : h17 18 7 = h 18 7 := ((u17 18 7 rfl).trans ((u9 18 7 rfl).trans (u7 18 7 rfl)))
    have e28 : h17 3 2 = h 3 2 := ((u17 3 2 rfl).trans ((u9 3 2 rfl).trans (u7 3 2 rfl)))
    have e29 : h17 66 1 = h 66 1 := ((u17 66 1 rfl).trans ((u9 66 1 rfl).trans (u7 66 1 rfl)))
    have q31 : h17 8 = h 8 := funext (fun i => ((u17 8 i (fo_no_ok (by decide) i)).trans ((u9 8 i (fo_no_ok (by decide) i)).trans (u7 8 i (fo_no_ok (by decide) i)))))
    have q32 : h17 7 = h 7 := funext (fun i => ((u17 7 i (fo_no_ok (by decide) i)).trans ((u9 7 i (fo_no_ok (by decide) i)).trans (u7 7 i (fo_no_ok (by decide) i)))))
    have q33 : h17 19 = h 19 := funext (fun i => ((u17 19 i (fo_no_ok (by decide) i)).trans ((u9 19 i (fo_no_ok (by decide) i)).trans (u7 19 i (fo_no_ok (by decide) i)))))
    have q34 : h17 67 = h 67 := funext (fun i => ((u17 67 i (fo_no_ok (by decide) i)).trans ((u9 67 i (fo_no_ok (by decide) i)).trans (u7 67 i (fo_no_ok (by decide) i)))))
    have ml30 : MCL h17 := MCL.mv xq0.1 q31 q32 q33 q34 (by omega) (by omega) (by omega) (by omega)
    have q36 : h17 69 = h 69 := funext (fun i => ((u17 69 i (fo_no_ok (by decide) i)).trans ((u9 69 i (fo_no_ok (by decide) i)).trans (u7 69 i (fo_no_ok (by decide) i)))))
    have q37 : h17 70 = h 70 := funext (fun i => ((u17 70 i (fo_no_ok (by decide) i)).trans ((u9 70 i (fo_no_ok (by decide) i)).trans (u7 70 i (fo_no_ok (by decide) i)))))
    have nb35 : NBc (h17 69) (h17 70) := by rw [q36, q37]; exact xq0.2.2
    have q38 : h17 8 = h7 8 := funext (fun i => ((u17 8 i (fo_no_ok (by decide) i)).trans (u9 8 i (fo_no_ok (by decide) i))))
    have q39 : h17 7 = h7 7 := funext (fun i => ((u17 7 i (fo_no_ok (by decide) i)).trans (u9 7 i (fo_no_ok (by decide) i))))
    have e40 : h7 3 2 = h 3 2 := (u7 3 2 rfl)
    have e41 : h7 73 1 = h 73 1 := (u7 73 1 rfl)
    have e42 : h7 73 2 = h 73 2 := (u7 73 2 rfl)
    exact k h17 z11 g17 F18 (by omega) (show (h17 63 5) ≤ (h17 18 16) by omega) (show (h17 63 5) < (h17 18 16) ∨ ((h17 18 7) ≤ (h17 3 2) ∧ (h17 66 1) = (h17 3 2) - (h17 18 7)) ∨ ((h17 3 2) < (h17 18 7) ∧ (h17 66 1) = 0) by omega) (show (h 18 16) ≤ (h17 18 16) ∧ (h17 18 16) ≤ (h 18 16) + 4 by omega) ⟨ml30, (HIv.k y7_0 q38 q39 (by omega) (by omega) (sv_seven (P := fun x => ∀ i, h17 (76 + 19 * x) i = h7 (76 + 19 * x) i) (fun i => ((u17 76 i (fn_a (by omega) fn_0)).trans (u9 76 i (fn_a (by omega) (fn_a (by omega) fn_0))))) (fun i => ((u17 95 i (fn_a (by omega) fn_0)).trans (u9 95 i (fn_a (by omega) (fn_a (by omega) fn_0))))) (fun i => ((u17 114 i (fn_a (by omega) fn_0)).trans (u9 114 i (fn_a (by omega) (fn_a (by omega) fn_0))))) (fun i => ((u17 133 i (fn_a (by omega) fn_0)).trans (u9 133 i (fn_a (by omega) (fn_a (by omega) fn_0))))) (fun i => ((u17 152 i (fn_a (by omega) fn_0)).trans (u9 152 i (fn_a (by omega) (fn_a (by omega) fn_0))))) (fun i => ((u17 171 i (fn_a (by omega) fn_0)).trans (u9 171 i (fn_a (by omega) (fn_a (by omega) fn_0))))) (fun i => ((u17 190 i (fn_a (by omega) fn_0)).trans (u9 190 i (fn_a (by omega) (fn_a (by omega) fn_0)))))) (by omega) (by omega)), nb35⟩
-- method 152: Line.placeKind(I)I
set_option maxRecDepth 100000 in
set_option maxHeartbeats 100000000 in
theorem ct_152_18 {L : Nat} {xs : Nat → Int32} {d b c : Nat} {h : hp} {cr : Nat → Nat → Option Nat} {Q : hp_Q} (hcr : CR cr)  (g : GI h) (a0 : Int) (q0_ : -2147483648 ≤ a0 ∧ a0 ≤ 2147483647)  (k : ∀ (z0 : Int), (0 ≤ z0 ∧ z0 ≤ 3) → Q (.inl (some (vi z0))) (hp_w h cr) b c) : wp (md_xa (L, xs)) (d + 1) 152 (0, [(0, .ref 18), (1, vi a0)], [], hp_w h cr, b, c) Q := by
  have F0 : FR [] h h := FR.refl
  refine wi_iload_n (i := 1) (e := a0) (nx := 1) (r1 := 0) (r2 := 0) (r3 := 0) rfl rfl ?_
  refine wi_aload_n (i := 0) (x := 18) (nx := 2) (r1 := 0) (r2 := 0) (r3 := 0) rfl rfl ?_
  have b1 := gi_b (lo := 0) (hi := 12) g 18 7 rfl
  refine wr_gi0 (k0 := 18) (x := h 18 7) (nx := 5) (r1 := 4) (r2 := 7) (r3 := 0) rfl rfl (by decide) rfl ⟨rfl, rfl⟩ rfl rfl ?_
  refine wi_icmp (cd := .lt) (nx := 8) (r1 := 10) (r2 := 0) (r3 := 0) rfl (by omega) (by omega) (fun (q2 : a0 < (h 18 7)) => ?_) (fun (q2 : ¬ (a0 < (h 18 7))) => ?_)
  ·
    refine wi_aload_n (i := 0) (x := 18) (nx := 11) (r1 := 0) (r2 := 0) (r3 := 0) rfl rfl ?_
    refine wr_gr (k0 := 18) (x := 26) (nx := 14) (r1 := 4) (r2 := 6) (r3 := 0) rfl rfl (by decide) rfl ⟨rfl, rfl⟩ rfl ?_
    refine wi_iload_n (i := 1) (e := a0) (nx := 15) (r1 := 0) (r2 := 0) (r3 := 0) rfl rfl ?_
    refine wr_V (k0 := 26) (rest := []) (as := [.ref 26, vi a0]) (nx := 18) (r1 := 159) (r2 := 1) (r3 := 5) rfl rfl rfl (of_decide_eq_true rfl) rfl rfl (by decide) rfl rfl (of_decide_eq_true rfl) (of_decide_eq_true rfl) ?_
    refine ct_159_R hcr rw_26 g a0 (by omega)  (fun z4  (fz4 : -1 ≤ z4 ∧ z4 ≤ 11) => ?_)
    refine wk_i ?_
    refine wi_iconst (n := (-1)) (nx := 19) (r1 := 0) (r2 := 0) (r3 := 0) rfl ?_
    refine wi_icmp (cd := .eq) (nx := 22) (r1 := 24) (r2 := 0) (r3 := 0) rfl (by omega) (by omega) (fun (q5 : z4 = (-1)) => ?_) (fun (q5 : ¬ (z4 = (-1))) => ?_)
    ·
      refine wi_aload_n (i := 0) (x := 18) (nx := 25) (r1 := 0) (r2 := 0) (r3 := 0) rfl rfl ?_
      refine wr_gr (k0 := 18) (x := 22) (nx := 28) (r1 := 4) (r2 := 4) (r3 := 0) rfl rfl (by decide) rfl ⟨rfl, rfl⟩ rfl ?_
      refine wi_iload_n (i := 1) (e := a0) (nx := 29) (r1 := 0) (r2 := 0) (r3 := 0) rfl rfl ?_
      refine wr_V (k0 := 22) (rest := []) (as := [.ref 22, vi a0]) (nx := 32) (r1 := 159) (r2 := 1) (r3 := 5) rfl rfl rfl (of_decide_eq_true rfl) rfl rfl (by decide) rfl rfl (of_decide_eq_true rfl) (of_decide_eq_true rfl) ?_
      refine ct_159_R hcr rw_22 g a0 (by omega)  (fun z7  (fz7 : -1 ≤ z7 ∧ z7 ≤ 11) => ?_)
      refine wk_i ?_
      refine wi_iconst (n := (-1)) (nx := 33) (r1 := 0) (r2 := 0) (r3 := 0) rfl ?_
      refine wi_icmp (cd := .eq) (nx := 36) (r1 := 40) (r2 := 0) (r3 := 0) rfl (by omega) (by omega) (fun (q8 : z7 = (-1)) => ?_) (fun (q8 : ¬ (z7 = (-1))) => ?_)
      ·
        refine wi_iconst (n := 1) (nx := 41) (r1 := 0) (r2 := 0) (r3 := 0) rfl ?_
        refine wi_ireturn (nx := 42) (r1 := 0) (r2 := 0) (r3 := 0) rfl rfl ?_
        exact k 1 (by omega)
      ·
        refine wi_iconst (n := 2) (nx := 37) (r1 := 0) (r2 := 0) (r3 := 0) rfl ?_
        refine wi_goto (nx := 40) (r1 := 41) (r2 := 0) (r3 := 0) rfl ?_
        refine wi_ireturn (nx := 42) (r1 := 0) (r2 := 0) (r3 := 0) rfl rfl ?_
        exact k 2 (by omega)
    ·
      refine wi_iconst (n := 3) (nx := 23) (r1 := 0) (r2 := 0) (r3 := 0) rfl ?_
      refine wi_ireturn (nx := 24) (r1 := 0) (r2 := 0) (r3 := 0) rfl rfl ?_
      exact k 3 (by omega)
  ·
    refine wi_iconst (n := 0) (nx := 9) (r1 := 0) (r2 := 0) (r3 := 0) rfl ?_
    refine wi_ireturn (nx := 10) (r1 := 0) (r2 := 0) (r3 := 0) rfl rfl ?_
    exact k 0 (by omega)
-- method 73: Bank.where(I)I
set_option maxRecDepth 100000 in
set_option maxHeartbeats 100000000 in
theorem ct_73_0 {L : Nat} {xs : Nat → Int32} {d b c : Nat} {h : hp} {cr : Nat → Nat → Option Nat} {Q : hp_Q} (hcr : CR cr) (hr : 1 ≤ b ∧ 6 ≤ c)  (g : GI h) (a0 : Int) (q0_ : -2147483648 ≤ a0 ∧ a0 ≤ 2147483647)  (k : ∀ (z0 : Int), (0 ≤ z0 ∧ z0 ≤ 3) → Q (.inl (some (vi z0))) (hp_w h cr) b c) (kx2 : Q (.inr 2) (hp_w h cr) (b - 1) (c - 6)) : wp (md_xa (L, xs)) (d + 2) 73 (0, [(0, .ref 0), (1, vi a0)], [], hp_w h cr, b, c) Q := by
  have F0 : FR [] h h := FR.refl
  refine wi_aload_n (i := 0) (x := 0) (nx := 1) (r1 := 0) (r2 := 0) (r3 := 0) rfl rfl ?_
  refine wi_iload_n (i := 1) (e := a0) (nx := 2) (r1 := 0) (r2 := 0) (r3 := 0) rfl rfl ?_
  refine wr_V (k0 := 0) (rest := []) (as := [.ref 0, vi a0]) (nx := 5) (r1 := 70) (r2 := 1) (r3 := 0) rfl rfl rfl (of_decide_eq_true rfl) rfl rfl (by decide) rfl rfl (of_decide_eq_true rfl) (of_decide_eq_true rfl) ?_
  refine wi_iload_n (i := 1) (e := a0) (nx := 1) (r1 := 0) (r2 := 0) (r3 := 0) rfl rfl ?_
  refine wi_if (cd := .lt) (nx := 4) (r1 := 15) (r2 := 0) (r3 := 0) rfl (by omega) (fun (q1 : a0 < 0) => ?_) (fun (q1 : ¬ (a0 < 0)) => ?_)
  ·
    refine wr_throw (Ex := 2) (nx := 18) (r1 := 2) (r2 := 0) (r3 := 1) rfl (by decide) rfl hr (by decide) ?_
    refine wk_x rfl ?_
    exact kx2
  ·
    refine wi_iload_n (i := 1) (e := a0) (nx := 5) (r1 := 0) (r2 := 0) (r3 := 0) rfl rfl ?_
    refine wi_aload_n (i := 0) (x := 0) (nx := 6) (r1 := 0) (r2 := 0) (r3 := 0) rfl rfl ?_
    refine wr_gr (k0 := 0) (x := 3) (nx := 9) (r1 := 0) (r2 := 1) (r3 := 0) rfl rfl (by decide) rfl ⟨rfl, rfl⟩ rfl ?_
    have b2 := gi_b (lo := 0) (hi := 12) g 3 2 rfl
    refine wr_gi0 (k0 := 3) (x := h 3 2) (nx := 12) (r1 := 2) (r2 := 2) (r3 := 0) rfl rfl (by decide) rfl ⟨rfl, rfl⟩ rfl rfl ?_
    refine wi_icmp (cd := .lt) (nx := 15) (r1 := 26) (r2 := 0) (r3 := 0) rfl (by omega) (by omega) (fun (q3 : a0 < (h 3 2)) => ?_) (fun (q3 : ¬ (a0 < (h 3 2))) => ?_)
    ·
      refine wi_return (nx := 27) (r1 := 0) (r2 := 0) (r3 := 0) rfl rfl ?_
      refine wk_n ?_
      refine wi_aload_n (i := 0) (x := 0) (nx := 6) (r1 := 0) (r2 := 0) (r3 := 0) rfl rfl ?_
      refine wr_gr (k0 := 0) (x := 18) (nx := 9) (r1 := 0) (r2 := 3) (r3 := 0) rfl rfl (by decide) rfl ⟨rfl, rfl⟩ rfl ?_
      refine wi_iload_n (i := 1) (e := a0) (nx := 10) (r1 := 0) (r2 := 0) (r3 := 0) rfl rfl ?_
      refine wr_V (k0 := 18) (rest := []) (as := [.ref 18, vi a0]) (nx := 13) (r1 := 152) (r2 := 1) (r3 := 4) rfl rfl rfl (of_decide_eq_true rfl) rfl rfl (by decide) rfl rfl (of_decide_eq_true rfl) (of_decide_eq_true rfl) ?_
      refine ct_152_18 hcr  g a0 (by omega)  (fun z5  (fz5 : 0 ≤ z5 ∧ z5 ≤ 3) => ?_)
      refine wk_i ?_
      refine wi_ireturn (nx := 14) (r1 := 0) (r2 := 0) (r3 := 0) rfl rfl ?_
      exact k z5 (by omega)
    ·
      refine wr_throw (Ex := 2) (nx := 18) (r1 := 2) (r2 := 0) (r3 := 1) rfl (by decide) rfl hr (by decide) ?_
      refine wk_x rfl ?_
      exact kx2
