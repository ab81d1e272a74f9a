-- method 299: Model.laysUnloading()I
set_option maxRecDepth 100000 in
set_option maxHeartbeats 100000000 in
theorem ct_299_236 {L : Nat} {xs : Nat → Int32} {d b c : Nat} {h : hp} {cr : Nat → Nat → Option Nat} {Q : hp_Q} (hcr : CR cr)  (g : GI h)   (pp0 : h 238 98 + h 238 99 + h 238 100 + h 238 101 + h 238 102 + h 238 106 = h 238 73) (pp1 : h 238 73 ≤ h 238 2) (pp2 : h 238 119 ≤ h 238 67) (pp3 : h 238 69 ≤ h 238 5) (pp4 : h 238 2 ≤ 12 * h 238 5) (k : ∀ (h2 : hp) (z0 : Int) , GI h2 → FR [(246, 246, none), (248, 248, none), (236, 236, some (32, 32)), (247, 247, some (0, 0)), (247, 247, some (1, 1)), (247, 247, some (2, 2)), (247, 247, some (3, 3))] h h2 → (0 ≤ z0 ∧ z0 ≤ 1000000) → Q (.inl (some (vi z0))) (hp_w h2 cr) b c) : wp (md_xa (L, xs)) (d + 3) 299 (0, [(0, .ref 236)], [], hp_w h cr, b, c) Q := by
  have F0 : FR [(246, 246, none), (248, 248, none), (236, 236, some (32, 32)), (247, 247, some (0, 0)), (247, 247, some (1, 1)), (247, 247, some (2, 2)), (247, 247, some (3, 3))] h h := FR.refl
  have b1 := gi_b (lo := 0) (hi := 6) g 238 98 rfl
  have b2 := gi_b (lo := 0) (hi := 6) g 238 99 rfl
  have b3 := gi_b (lo := 0) (hi := 6) g 238 100 rfl
  have b4 := gi_b (lo := 0) (hi := 6) g 238 101 rfl
  have b5 := gi_b (lo := 0) (hi := 3) g 238 102 rfl
  have b6 := gi_b (lo := 0) (hi := 12) g 238 106 rfl
  have b7 := gi_b (lo := 0) (hi := 12) g 238 73 rfl
  have b8 := gi_b (lo := 0) (hi := 12) g 238 2 rfl
  have b9 := gi_b (lo := 0) (hi := 9999) g 238 119 rfl
  have b10 := gi_b (lo := 0) (hi := 9999) g 238 67 rfl
  have b11 := gi_b (lo := 0) (hi := 9) g 238 69 rfl
  have b12 := gi_b (lo := 0) (hi := 9) g 238 5 rfl
  refine wi_aload_n (i := 0) (x := 236) (nx := 1) (r1 := 0) (r2 := 0) (r3 := 0) rfl rfl ?_
  refine wr_V (k0 := 236) (rest := []) (as := [.ref 236]) (nx := 4) (r1 := 300) (r2 := 0) (r3 := 11) rfl rfl rfl (of_decide_eq_true rfl) rfl rfl (by decide) rfl rfl (of_decide_eq_true rfl) (of_decide_eq_true rfl) ?_
  refine ct_300_236 hcr  g   (show (h 238 98) + (h 238 99) + (h 238 100) + (h 238 101) + (h 238 102) + (h 238 106) = (h 238 73) by omega) (show (h 238 73) ≤ (h 238 2) by omega) (show (h 238 119) ≤ (h 238 67) by omega) (show (h 238 69) ≤ (h 238 5) by omega) (show (h 238 2) ≤ 12 * (h 238 5) by omega) (fun z14  (fz14 : 0 ≤ z14 ∧ z14 ≤ 24) (p13_0 : z14 = (h 238 98) + (h 238 99) + (h 238 100) + (h 238 101)) => ?_)
  refine wk_i ?_
  refine wi_istore_n (i := 1) (e := z14) (lo2 := [(1, vi z14), (0, .ref 236)]) (nx := 5) (r1 := 0) (r2 := 0) (r3 := 0) rfl rfl ?_
  refine wi_aload_n (i := 0) (x := 236) (nx := 6) (r1 := 0) (r2 := 0) (r3 := 0) rfl rfl ?_
  refine wi_iconst (n := 0) (nx := 7) (r1 := 0) (r2 := 0) (r3 := 0) rfl ?_
  refine wr_pf0 (k0 := 236) (x := 0) (bl := 0) (bh := 12) (nx := 10) (r1 := 11) (r2 := 32) (r3 := 0) rfl (by decide) rfl ⟨rfl, rfl⟩ rfl rfl g rfl (by omega) (fun h15 g15 w15 u15 => ?_)
  have F16 := F0.then rfl u15
  refine wi_sipush (n := 2400) (nx := 13) (r1 := 0) (r2 := 0) (r3 := 0) rfl (by decide) ?_
  refine wi_istore_n (i := 2) (e := 2400) (lo2 := [(2, vi 2400), (1, vi z14), (0, .ref 236)]) (nx := 14) (r1 := 0) (r2 := 0) (r3 := 0) rfl rfl ?_
  refine wp.lo (lo := [(0, .ref 236), (1, vi z14), (2, vi 2400)]) ⟨rfl, rfl, rfl, trivial⟩ rfl ?_
  refine wl_1 (fun x17 h18 => GI h18 ∧ FR [(246, 246, none), (248, 248, none), (236, 236, some (32, 32)), (247, 247, some (0, 0)), (247, 247, some (1, 1)), (247, 247, some (2, 2)), (247, 247, some (3, 3))] h h18 ∧ FR [(246, 246, none), (247, 247, some (0, 0)), (247, 247, some (1, 1)), (247, 247, some (2, 2)), (247, 247, some (3, 3))] h15 h18 ∧ ((-1 ≤ x17 ∧ x17 ≤ 2400)) ∧ (∀ q : Nat, x17 < (q : Int) → q ≤ 2400 → TB (h18 238) (h18 246) q 60)) (fun x17 h18 => ((x17 : Int) - (-1)).toNat) (fun x17 h18 => (14, [(0, .ref 236), (1, vi z14), (2, vi x17)], [], hp_w h18 cr, b, c)) ?_ 2400 h15 ⟨g15, F16, FR.refl, (show (-1 ≤ 2400 ∧ 2400 ≤ 2400) by omega), (fun q e1 e2 => absurd e1 (by omega))⟩
  intro x17 h18 ⟨g18, F19, u18, f18, X18_0⟩ I18
  refine wi_iload_n (i := 2) (e := x17) (nx := 15) (r1 := 0) (r2 := 0) (r3 := 0) rfl rfl ?_
  refine wi_if (cd := .lt) (nx := 18) (r1 := 104) (r2 := 0) (r3 := 0) rfl (by omega) (fun (q20 : x17 < 0) => ?_) (fun (q20 : ¬ (x17 < 0)) => ?_)
  ·
    refine wi_aload_n (i := 0) (x := 236) (nx := 105) (r1 := 0) (r2 := 0) (r3 := 0) rfl rfl ?_
    refine wr_gr (k0 := 236) (x := 246) (nx := 108) (r1 := 11) (r2 := 29) (r3 := 0) rfl rfl (by decide) rfl ⟨rfl, rfl⟩ rfl ?_
    refine wi_iconst (n := 0) (nx := 109) (r1 := 0) (r2 := 0) (r3 := 0) rfl ?_
    refine wi_aload_n (i := 0) (x := 236) (nx := 110) (r1 := 0) (r2 := 0) (r3 := 0) rfl rfl ?_
    refine wr_V (k0 := 236) (rest := [vi 0, .ref 246]) (as := [.ref 236]) (nx := 113) (r1 := 310) (r2 := 0) (r3 := 11) rfl rfl rfl (of_decide_eq_true rfl) rfl rfl (by decide) rfl rfl (of_decide_eq_true rfl) (of_decide_eq_true rfl) ?_
    refine wi_aload_n (i := 0) (x := 236) (nx := 1) (r1 := 0) (r2 := 0) (r3 := 0) rfl rfl ?_
    refine wr_gr (k0 := 236) (x := 238) (nx := 4) (r1 := 11) (r2 := 13) (r3 := 0) rfl rfl (by decide) rfl ⟨rfl, rfl⟩ rfl ?_
    refine wi_bipush (n := 68) (nx := 6) (r1 := 0) (r2 := 0) (r3 := 0) rfl (by decide) ?_
    have b21 := gi_b (lo := -1) (hi := 4) g 238 68 rfl
    refine wr_ia (k0 := 238) (a := 68) (f := 68) (x := h 238 68) (nx := 7) (r1 := 0) (r2 := 0) (r3 := 0) rfl (by decide) rfl (by omega) (by omega) (by decide) ((u18 238 68 rfl).trans (u15 238 68 rfl)) ?_
    refine wi_iconst (n := (-1)) (nx := 8) (r1 := 0) (r2 := 0) (r3 := 0) rfl ?_
    refine wi_icmp (cd := .ne) (nx := 11) (r1 := 15) (r2 := 0) (r3 := 0) rfl (by omega) (by omega) (fun (q22 : (h 238 68) ≠ (-1)) => ?_) (fun (q22 : ¬ ((h 238 68) ≠ (-1))) => ?_)
    ·
      refine wi_aload_n (i := 0) (x := 236) (nx := 16) (r1 := 0) (r2 := 0) (r3 := 0) rfl rfl ?_
      refine wr_gr (k0 := 236) (x := 238) (nx := 19) (r1 := 11) (r2 := 13) (r3 := 0) rfl rfl (by decide) rfl ⟨rfl, rfl⟩ rfl ?_
      refine wi_bipush (n := 68) (nx := 21) (r1 := 0) (r2 := 0) (r3 := 0) rfl (by decide) ?_
      refine wr_ia (k0 := 238) (a := 68) (f := 68) (x := h 238 68) (nx := 22) (r1 := 0) (r2 := 0) (r3 := 0) rfl (by decide) rfl (by omega) (by omega) (by decide) ((u18 238 68 rfl).trans (u15 238 68 rfl)) ?_
      refine wi_ireturn (nx := 23) (r1 := 0) (r2 := 0) (r3 := 0) rfl rfl ?_
      refine wk_i ?_
      refine wi_aload_n (i := 0) (x := 236) (nx := 114) (r1 := 0) (r2 := 0) (r3 := 0) rfl rfl ?_
      refine wr_gr (k0 := 236) (x := 238) (nx := 117) (r1 := 11) (r2 := 13) (r3 := 0) rfl rfl (by decide) rfl ⟨rfl, rfl⟩ rfl ?_
      refine wi_bipush (n := 69) (nx := 119) (r1 := 0) (r2 := 0) (r3 := 0) rfl (by decide) ?_
      refine wr_ia (k0 := 238) (a := 69) (f := 69) (x := h 238 69) (nx := 120) (r1 := 0) (r2 := 0) (r3 := 0) rfl (by decide) rfl (by omega) (by omega) (by decide) ((u18 238 69 rfl).trans (u15 238 69 rfl)) ?_
      refine wi_S (rest := [.ref 246]) (as := [vi 0, vi (h 238 68), vi (h 238 69)]) (nx := 123) (r1 := 308) (r2 := 19) (r3 := 0) rfl rfl rfl (of_decide_eq_true rfl) rfl rfl (of_decide_eq_true rfl) (of_decide_eq_true rfl) ?_
      refine wi_bipush (n := 6) (nx := 2) (r1 := 0) (r2 := 0) (r3 := 0) rfl (by decide) ?_
      refine wi_iload_n (i := 0) (e := 0) (nx := 3) (r1 := 0) (r2 := 0) (r3 := 0) rfl rfl ?_
      refine wr_mulL (0) (nx := 4) (r1 := 0) (r2 := 0) (r3 := 0) rfl (by decide) ?_
      refine wi_iload_n (i := 1) (e := h 238 68) (nx := 5) (r1 := 0) (r2 := 0) (r3 := 0) rfl rfl ?_
      refine wr_add (nx := 6) (r1 := 0) (r2 := 0) (r3 := 0) rfl (fun e23 (fe23 : e23 = 0 + (h 238 68)) => ?_)
      refine wi_bipush (n := 10) (nx := 8) (r1 := 0) (r2 := 0) (r3 := 0) rfl (by decide) ?_
      refine wr_mul (nx := 9) (r1 := 0) (r2 := 0) (r3 := 0) rfl (fun e24 (fe24 : e24 = e23 * 10) => ?_)
      refine wi_iload_n (i := 2) (e := h 238 69) (nx := 10) (r1 := 0) (r2 := 0) (r3 := 0) rfl rfl ?_
      refine wr_add (nx := 11) (r1 := 0) (r2 := 0) (r3 := 0) rfl (fun e25 (fe25 : e25 = e24 + (h 238 69)) => ?_)
      refine wi_ireturn (nx := 12) (r1 := 0) (r2 := 0) (r3 := 0) rfl rfl ?_
      refine wk_i ?_
      obtain ⟨i26, ei26⟩ : ∃ q : Nat, e25 = (q : Int) := ⟨(e25).toNat, by omega⟩
      have b27 := gi_b (lo := 0) (hi := 1000000) g18 246 i26 rfl
      refine wr_ia (k0 := 246) (a := e25) (f := i26) (x := h18 246 i26) (nx := 124) (r1 := 0) (r2 := 0) (r3 := 0) rfl (by decide) rfl (by omega) (by omega) (by decide) rfl ?_
      refine wi_istore_n (i := 2) (e := h18 246 i26) (lo2 := [(2, vi (h18 246 i26)), (0, .ref 236), (1, vi z14)]) (nx := 125) (r1 := 0) (r2 := 0) (r3 := 0) rfl rfl ?_
      refine wi_iload_n (i := 2) (e := h18 246 i26) (nx := 126) (r1 := 0) (r2 := 0) (r3 := 0) rfl rfl ?_
      refine wi_ldc_w (e := 1000000) (nx := 129) (r1 := 0) (r2 := 1000000) (r3 := 0) rfl (by decide) ?_
      refine wi_icmp (cd := .ne) (nx := 132) (r1 := 136) (r2 := 0) (r3 := 0) rfl (by omega) (by omega) (fun (q28 : (h18 246 i26) ≠ 1000000) => ?_) (fun (q28 : ¬ ((h18 246 i26) ≠ 1000000)) => ?_)
      ·
        refine wi_iconst (n := 0) (nx := 137) (r1 := 0) (r2 := 0) (r3 := 0) rfl ?_
        refine wi_istore_n (i := 3) (e := 0) (lo2 := [(3, vi 0), (2, vi (h18 246 i26)), (0, .ref 236), (1, vi z14)]) (nx := 138) (r1 := 0) (r2 := 0) (r3 := 0) rfl rfl ?_
        refine wi_aload_n (i := 0) (x := 236) (nx := 139) (r1 := 0) (r2 := 0) (r3 := 0) rfl rfl ?_
        refine wr_V (k0 := 236) (rest := []) (as := [.ref 236]) (nx := 142) (r1 := 310) (r2 := 0) (r3 := 11) rfl rfl rfl (of_decide_eq_true rfl) rfl rfl (by decide) rfl rfl (of_decide_eq_true rfl) (of_decide_eq_true rfl) ?_
        refine wi_aload_n (i := 0) (x := 236) (nx := 1) (r1 := 0) (r2 := 0) (r3 := 0) rfl rfl ?_
        refine wr_gr (k0 := 236) (x := 238) (nx := 4) (r1 := 11) (r2 := 13) (r3 := 0) rfl rfl (by decide) rfl ⟨rfl, rfl⟩ rfl ?_
        refine wi_bipush (n := 68) (nx := 6) (r1 := 0) (r2 := 0) (r3 := 0) rfl (by decide) ?_
        refine wr_ia (k0 := 238) (a := 68) (f := 68) (x := h 238 68) (nx := 7) (r1 := 0) (r2 := 0) (r3 := 0) rfl (by decide) rfl (by omega) (by omega) (by decide) ((u18 238 68 rfl).trans (u15 238 68 rfl)) ?_
        refine wi_iconst (n := (-1)) (nx := 8) (r1 := 0) (r2 := 0) (r3 := 0) rfl ?_
        refine wi_icmp (cd := .ne) (nx := 11) (r1 := 15) (r2 := 0) (r3 := 0) rfl (by omega) (by omega) (fun (q29 : (h 238 68) ≠ (-1)) => ?_) (fun (q29 : ¬ ((h 238 68) ≠ (-1))) => by exfalso; omega)
        refine wi_aload_n (i := 0) (x := 236) (nx := 16) (r1 := 0) (r2 := 0) (r3 := 0) rfl rfl ?_
        refine wr_gr (k0 := 236) (x := 238) (nx := 19) (r1 := 11) (r2 := 13) (r3 := 0) rfl rfl (by decide) rfl ⟨rfl, rfl⟩ rfl ?_
        refine wi_bipush (n := 68) (nx := 21) (r1 := 0) (r2 := 0) (r3 := 0) rfl (by decide) ?_
        refine wr_ia (k0 := 238) (a := 68) (f := 68) (x := h 238 68) (nx := 22) (r1 := 0) (r2 := 0) (r3 := 0) rfl (by decide) rfl (by omega) (by omega) (by decide) ((u18 238 68 rfl).trans (u15 238 68 rfl)) ?_
        refine wi_ireturn (nx := 23) (r1 := 0) (r2 := 0) (r3 := 0) rfl rfl ?_
        refine wk_i ?_
        refine wi_istore (i := 4) (e := h 238 68) (lo2 := [(4, vi (h 238 68)), (3, vi 0), (2, vi (h18 246 i26)), (0, .ref 236), (1, vi z14)]) (nx := 144) (r1 := 0) (r2 := 0) (r3 := 0) rfl rfl ?_
        refine wi_aload_n (i := 0) (x := 236) (nx := 145) (r1 := 0) (r2 := 0) (r3 := 0) rfl rfl ?_
        refine wr_gr (k0 := 236) (x := 238) (nx := 148) (r1 := 11) (r2 := 13) (r3 := 0) rfl rfl (by decide) rfl ⟨rfl, rfl⟩ rfl ?_
        refine wi_bipush (n := 69) (nx := 150) (r1 := 0) (r2 := 0) (r3 := 0) rfl (by decide) ?_
        refine wr_ia (k0 := 238) (a := 69) (f := 69) (x := h 238 69) (nx := 151) (r1 := 0) (r2 := 0) (r3 := 0) rfl (by decide) rfl (by omega) (by omega) (by decide) ((u18 238 69 rfl).trans (u15 238 69 rfl)) ?_
        refine wi_istore (i := 5) (e := h 238 69) (lo2 := [(5, vi (h 238 69)), (4, vi (h 238 68)), (3, vi 0), (2, vi (h18 246 i26)), (0, .ref 236), (1, vi z14)]) (nx := 153) (r1 := 0) (r2 := 0) (r3 := 0) rfl rfl ?_
        have c34 : h18 246 i26 = h18 246 i26 := rfl
        have e35 : h18 236 32 = 0 := ((u18 236 32 rfl).trans w15)
        have q36 : h18 238 = h18 238 := funext (fun i => rfl)
        have q37 : h18 246 = h18 246 := funext (fun i => rfl)
        have tb38 : TBA (h18 238) (h18 246) := fun q hq => by rw [q36, q37]; exact X18_0 q (by omega) hq
        have e39 : h18 238 5 = h 238 5 := ((u18 238 5 rfl).trans (u15 238 5 rfl))
        refine wp.lo (lo := [(0, .ref 236), (1, vi z14), (2, vi (h18 246 i26)), (3, vi 0), (4, vi (h 238 68)), (5, vi (h 238 69))]) ⟨rfl, rfl, rfl, rfl, rfl, rfl, trivial⟩ rfl ?_
        refine wl_3 (fun x30 x31 x32 h33 => GI h33 ∧ FR [(246, 246, none), (248, 248, none), (236, 236, some (32, 32)), (247, 247, some (0, 0)), (247, 247, some (1, 1)), (247, 247, some (2, 2)), (247, 247, some (3, 3))] h h33 ∧ FR [(248, 248, none), (236, 236, some (32, 32)), (247, 247, some (0, 0)), (247, 247, some (1, 1)), (247, 247, some (2, 2)), (247, 247, some (3, 3))] h18 h33 ∧ ((0 ≤ x30 ∧ x30 ≤ 2400) ∧ (0 ≤ x31 ∧ x31 ≤ 5) ∧ (0 ≤ x32 ∧ x32 ≤ 9) ∧ (x32 ≤ (h18 238 5)) ∧ ((h33 236 32) ≤ z14)) ∧ (∀ pp : Nat, (pp : Int) = x30 → WK (h33 238) (h33 246) pp (h33 236 32) x31 x32)) (fun x30 x31 x32 h33 => (z14 - (h33 236 32)).toNat) (fun x30 x31 x32 h33 => (153, [(0, .ref 236), (1, vi z14), (2, vi (h18 246 i26)), (3, vi x30), (4, vi x31), (5, vi x32)], [], hp_w h33 cr, b, c)) ?_ 0 (h 238 68) (h 238 69) h18 ⟨g18, F19, FR.refl, (show (0 ≤ 0 ∧ 0 ≤ 2400) ∧ (0 ≤ (h 238 68) ∧ (h 238 68) ≤ 5) ∧ (0 ≤ (h 238 69) ∧ (h 238 69) ≤ 9) ∧ ((h 238 69) ≤ (h18 238 5)) ∧ ((h18 236 32) ≤ z14) by omega), (fun pp e => by
            obtain rfl : pp = 0 := by omega
            refine ⟨WI_0 (gi_RB g18), by rw [TS_0]; omega, ?_⟩
            rw [show 60 * 0 + 10 * (h 238 68 : Int).toNat + (h 238 69 : Int).toNat = i26 by omega]
            omega)⟩
        intro x30 x31 x32 h33 ⟨g33, F40, u33, f33, X33_0⟩ I33
        have b41 := gi_b (lo := 0) (hi := 12) g33 236 32 rfl
        refine wi_aload_n (i := 0) (x := 236) (nx := 154) (r1 := 0) (r2 := 0) (r3 := 0) rfl rfl ?_
        refine wr_gi0 (k0 := 236) (x := h33 236 32) (nx := 157) (r1 := 11) (r2 := 32) (r3 := 0) rfl rfl (by decide) rfl ⟨rfl, rfl⟩ rfl rfl ?_
        refine wi_iload_n (i := 1) (e := z14) (nx := 158) (r1 := 0) (r2 := 0) (r3 := 0) rfl rfl ?_
        refine wi_icmp (cd := .ge) (nx := 161) (r1 := 292) (r2 := 0) (r3 := 0) rfl (by omega) (by omega) (fun (q42 : z14 ≤ (h33 236 32)) => ?_) (fun (q42 : ¬ (z14 ≤ (h33 236 32))) => ?_)
        ·
          refine wi_iload_n (i := 2) (e := h18 246 i26) (nx := 293) (r1 := 0) (r2 := 0) (r3 := 0) rfl rfl ?_
          refine wi_ireturn (nx := 294) (r1 := 0) (r2 := 0) (r3 := 0) rfl rfl ?_
          exact k h33 (h18 246 i26) g33 F40 (by omega)
        ·
          refine wi_aload_n (i := 0) (x := 236) (nx := 162) (r1 := 0) (r2 := 0) (r3 := 0) rfl rfl ?_
          refine wi_iload_n (i := 3) (e := x30) (nx := 163) (r1 := 0) (r2 := 0) (r3 := 0) rfl rfl ?_
          refine wr_V (k0 := 236) (rest := []) (as := [.ref 236, vi x30]) (nx := 166) (r1 := 301) (r2 := 1) (r3 := 11) rfl rfl rfl (of_decide_eq_true rfl) rfl rfl (by decide) rfl rfl (of_decide_eq_true rfl) (of_decide_eq_true rfl) ?_
          refine ct_301_236 hcr  g33 x30 (by omega)  (fun h43 g43 u43 y43_0 => ?_)
          have F44 := F40.then (by decide +kernel) u43
          have F45 := u33.then (by decide +kernel) u43
          refine wk_n ?_
          refine wi_aload_n (i := 0) (x := 236) (nx := 167) (r1 := 0) (r2 := 0) (r3 := 0) rfl rfl ?_
          refine wr_gr (k0 := 236) (x := 246) (nx := 170) (r1 := 11) (r2 := 29) (r3 := 0) rfl rfl (by decide) rfl ⟨rfl, rfl⟩ rfl ?_
          refine wi_iload_n (i := 3) (e := x30) (nx := 171) (r1 := 0) (r2 := 0) (r3 := 0) rfl rfl ?_
          refine wi_iload (i := 4) (e := x31) (nx := 173) (r1 := 0) (r2 := 0) (r3 := 0) rfl rfl ?_
          refine wi_iload (i := 5) (e := x32) (nx := 175) (r1 := 0) (r2 := 0) (r3 := 0) rfl rfl ?_
          refine wi_S (rest := [.ref 246]) (as := [vi x30, vi x31, vi x32]) (nx := 178) (r1 := 308) (r2 := 19) (r3 := 0) rfl rfl rfl (of_decide_eq_true rfl) rfl rfl (of_decide_eq_true rfl) (of_decide_eq_true rfl) ?_
          refine wi_bipush (n := 6) (nx := 2) (r1 := 0) (r2 := 0) (r3 := 0) rfl (by decide) ?_
          refine wi_iload_n (i := 0) (e := x30) (nx := 3) (r1 := 0) (r2 := 0) (r3 := 0) rfl rfl ?_
          refine wr_mul (nx := 4) (r1 := 0) (r2 := 0) (r3 := 0) rfl (fun e46 (fe46 : e46 = 6 * x30) => ?_)
          refine wi_iload_n (i := 1) (e := x31) (nx := 5) (r1 := 0) (r2 := 0) (r3 := 0) rfl rfl ?_
          refine wr_add (nx := 6) (r1 := 0) (r2 := 0) (r3 := 0) rfl (fun e47 (fe47 : e47 = e46 + x31) => ?_)
          refine wi_bipush (n := 10) (nx := 8) (r1 := 0) (r2 := 0) (r3 := 0) rfl (by decide) ?_
          refine wr_mul (nx := 9) (r1 := 0) (r2 := 0) (r3 := 0) rfl (fun e48 (fe48 : e48 = e47 * 10) => ?_)
          refine wi_iload_n (i := 2) (e := x32) (nx := 10) (r1 := 0) (r2 := 0) (r3 := 0) rfl rfl ?_
          refine wr_add (nx := 11) (r1 := 0) (r2 := 0) (r3 := 0) rfl (fun e49 (fe49 : e49 = e48 + x32) => ?_)
          refine wi_ireturn (nx := 12) (r1 := 0) (r2 := 0) (r3 := 0) rfl rfl ?_
          refine wk_i ?_
          obtain ⟨i50, ei50⟩ : ∃ q : Nat, e49 = (q : Int) := ⟨(e49).toNat, by omega⟩
          have b51 := gi_b (lo := 0) (hi := 1000000) g18 246 i50 rfl
          refine wr_ia (k0 := 246) (a := e49) (f := i50) (x := h18 246 i50) (nx := 179) (r1 := 0) (r2 := 0) (r3 := 0) rfl (by decide) rfl (by omega) (by omega) (by decide) ((u43 246 i50 (fn_a (by decide) (fn_a (by decide) (fn_a (by decide) (fn_a (by decide) fn_0))))).trans (u33 246 i50 (fo_nk rfl))) ?_
          refine wi_istore (i := 6) (e := h18 246 i50) (lo2 := [(6, vi (h18 246 i50)), (0, .ref 236), (1, vi z14), (2, vi (h18 246 i26)), (3, vi x30), (4, vi x31), (5, vi x32)]) (nx := 181) (r1 := 0) (r2 := 0) (r3 := 0) rfl rfl ?_
          have c52 : h33 246 i50 = h18 246 i50 := (u33 246 i50 (fo_nk rfl))
          have d53 : h18 246 i50 ≠ 1000000 := by
            have e := (X33_0 (x30).toNat (by omega)).2.2
            rw [show 60 * (x30).toNat + 10 * (x31).toNat + (x32).toNat = i50 by omega, c52] at e
            exact e
          refine wi_iconst (n := 0) (nx := 182) (r1 := 0) (r2 := 0) (r3 := 0) rfl ?_
          refine wi_istore (i := 7) (e := 0) (lo2 := [(7, vi 0), (6, vi (h18 246 i50)), (0, .ref 236), (1, vi z14), (2, vi (h18 246 i26)), (3, vi x30), (4, vi x31), (5, vi x32)]) (nx := 184) (r1 := 0) (r2 := 0) (r3 := 0) rfl rfl ?_
          have q56 : h43 238 = h33 238 := funext (fun i => (u43 238 i (fo_no_ok (by decide) i)))
          have q57 : h43 246 = h33 246 := funext (fun i => (u43 246 i (fo_no_ok (by decide) i)))
          have q58 : h33 238 = h18 238 := funext (fun i => (u33 238 i (fo_no_ok (by decide) i)))
          have q59 : h33 246 = h18 246 := funext (fun i => (u33 246 i (fo_no_ok (by decide) i)))
          have c60 : h33 246 i50 = h18 246 i50 := (u33 246 i50 (fo_nk rfl))
          have e61 : h33 238 98 = h 238 98 := ((u33 238 98 rfl).trans ((u18 238 98 rfl).trans (u15 238 98 rfl)))
          have e62 : h33 238 99 = h 238 99 := ((u33 238 99 rfl).trans ((u18 238 99 rfl).trans (u15 238 99 rfl)))
          have e63 : h33 238 100 = h 238 100 := ((u33 238 100 rfl).trans ((u18 238 100 rfl).trans (u15 238 100 rfl)))
          have e64 : h33 238 101 = h 238 101 := ((u33 238 101 rfl).trans ((u18 238 101 rfl).trans (u15 238 101 rfl)))
          obtain ⟨la65, hla65, ea65⟩ := WK.any (R := h33 238) (LS := h33 246) (by rw [q58, q59]; exact tb38) (X33_0 (x30).toNat (by omega)) (by omega) (by omega) (by omega) (by omega)
          refine wp.lo (lo := [(0, .ref 236), (1, vi z14), (2, vi (h18 246 i26)), (3, vi x30), (4, vi x31), (5, vi x32), (6, vi (h18 246 i50)), (7, vi 0)]) ⟨rfl, rfl, rfl, rfl, rfl, rfl, rfl, rfl, trivial⟩ rfl ?_
          refine wl_1 (fun x54 h55 => h43 = h55 ∧ ((0 ≤ x54 ∧ x54 ≤ 3)) ∧ (u_ex (h43 238) (h43 246) (h43 247) x54 x31 x32 (h18 246 i50))) (fun x54 h55 => ((3 : Int) + 1 - x54).toNat) (fun x54 h55 => (184, [(0, .ref 236), (1, vi z14), (2, vi (h18 246 i26)), (3, vi x30), (4, vi x31), (5, vi x32), (6, vi (h18 246 i50)), (7, vi x54)], [], hp_w h55 cr, b, c)) ?_ 0 h43 ⟨rfl, (show (0 ≤ 0 ∧ 0 ≤ 3) by omega), ⟨la65, by omega, hla65, by
              rw [q56, q57, u_by_T (T := h43 247) (fun l hl => y43_0 (x30).toNat (by omega) l hl) hla65, ea65, show 60 * (x30).toNat + 10 * (x31).toNat + (x32).toNat = i50 by omega]
              omega⟩⟩
          intro x54 h55 ⟨e55, f55, X55_0⟩ I55
          subst e55
          refine wi_aload_n (i := 0) (x := 236) (nx := 185) (r1 := 0) (r2 := 0) (r3 := 0) rfl rfl ?_
          refine wi_iload (i := 7) (e := x54) (nx := 187) (r1 := 0) (r2 := 0) (r3 := 0) rfl rfl ?_
          refine wi_iload (i := 4) (e := x31) (nx := 189) (r1 := 0) (r2 := 0) (r3 := 0) rfl rfl ?_
          refine wi_iload (i := 5) (e := x32) (nx := 191) (r1 := 0) (r2 := 0) (r3 := 0) rfl rfl ?_
          rcases (show x54 = 0 ∨ x54 = 1 ∨ x54 = 2 ∨ x54 = 3 by omega) with q68 | q68 | q68 | q68
          ·
            rw [q68]
            refine wr_V (k0 := 236) (rest := []) (as := [.ref 236, vi 0, vi x31, vi x32]) (nx := 194) (r1 := 305) (r2 := 3) (r3 := 11) rfl rfl rfl (of_decide_eq_true rfl) rfl rfl (by decide) rfl rfl (of_decide_eq_true rfl) (of_decide_eq_true rfl) ?_
            refine ct_305_236_L0 hcr  g43 x31 x32 (by omega) (by omega)  (fun z70  (fz70 : 0 ≤ z70 ∧ z70 ≤ 1099900) (p69_0 : z70 = 1000000 ∨ (h43 247 0) < (h43 238 98)) y69_0 => ?_)
            have b71 := gi_b (lo := 0) (hi := 6) g43 247 0 rfl
            have e72 : h43 238 98 = h 238 98 := ((u43 238 98 rfl).trans ((u33 238 98 rfl).trans ((u18 238 98 rfl).trans (u15 238 98 rfl))))
            refine wk_i ?_
            refine wi_iload (i := 6) (e := h18 246 i50) (nx := 196) (r1 := 0) (r2 := 0) (r3 := 0) rfl rfl ?_
            refine wi_icmp (cd := .eq) (nx := 199) (r1 := 205) (r2 := 0) (r3 := 0) rfl (by omega) (by omega) (fun (q73 : z70 = (h18 246 i50)) => ?_) (fun (q73 : ¬ (z70 = (h18 246 i50))) => ?_)
            ·
              refine wi_aload_n (i := 0) (x := 236) (nx := 206) (r1 := 0) (r2 := 0) (r3 := 0) rfl rfl ?_
              refine wr_gr (k0 := 236) (x := 238) (nx := 209) (r1 := 11) (r2 := 13) (r3 := 0) rfl rfl (by decide) rfl ⟨rfl, rfl⟩ rfl ?_
              refine wi_bipush (n := 31) (nx := 211) (r1 := 0) (r2 := 0) (r3 := 0) rfl (by decide) ?_
              refine wi_aload_n (i := 0) (x := 236) (nx := 212) (r1 := 0) (r2 := 0) (r3 := 0) rfl rfl ?_
              refine wi_iload (i := 7) (e := 0) (nx := 214) (r1 := 0) (r2 := 0) (r3 := 0) rfl rfl ?_
              refine wi_aload_n (i := 0) (x := 236) (nx := 215) (r1 := 0) (r2 := 0) (r3 := 0) rfl rfl ?_
              refine wr_gr (k0 := 236) (x := 247) (nx := 218) (r1 := 11) (r2 := 30) (r3 := 0) rfl rfl (by decide) rfl ⟨rfl, rfl⟩ rfl ?_
              refine wi_iload (i := 7) (e := 0) (nx := 220) (r1 := 0) (r2 := 0) (r3 := 0) rfl rfl ?_
              refine wr_ia (k0 := 247) (a := 0) (f := 0) (x := h43 247 0) (nx := 221) (r1 := 0) (r2 := 0) (r3 := 0) rfl (by decide) rfl (by omega) (by omega) (by decide) rfl ?_
              refine wr_V (k0 := 236) (rest := [vi 31, .ref 238]) (as := [.ref 236, vi 0, vi (h43 247 0)]) (nx := 224) (r1 := 258) (r2 := 2) (r3 := 11) rfl rfl rfl (of_decide_eq_true rfl) rfl rfl (by decide) rfl rfl (of_decide_eq_true rfl) (of_decide_eq_true rfl) ?_
              refine wi_aload_n (i := 0) (x := 236) (nx := 1) (r1 := 0) (r2 := 0) (r3 := 0) rfl rfl ?_
              refine wr_gr (k0 := 236) (x := 238) (nx := 4) (r1 := 11) (r2 := 13) (r3 := 0) rfl rfl (by decide) rfl ⟨rfl, rfl⟩ rfl ?_
              refine wi_bipush (n := 74) (nx := 6) (r1 := 0) (r2 := 0) (r3 := 0) rfl (by decide) ?_
              refine wi_bipush (n := 6) (nx := 8) (r1 := 0) (r2 := 0) (r3 := 0) rfl (by decide) ?_
              refine wi_iload_n (i := 1) (e := 0) (nx := 9) (r1 := 0) (r2 := 0) (r3 := 0) rfl rfl ?_
              refine wr_mulL (0) (nx := 10) (r1 := 0) (r2 := 0) (r3 := 0) rfl (by decide) ?_
              refine wr_addL (74) (nx := 11) (r1 := 0) (r2 := 0) (r3 := 0) rfl (by decide) ?_
              refine wi_iload_n (i := 2) (e := h43 247 0) (nx := 12) (r1 := 0) (r2 := 0) (r3 := 0) rfl rfl ?_
              refine wr_add (nx := 13) (r1 := 0) (r2 := 0) (r3 := 0) rfl (fun e74 (fe74 : e74 = 74 + (h43 247 0)) => ?_)
              obtain ⟨i75, ei75⟩ : ∃ q : Nat, e74 = (q : Int) := ⟨(e74).toNat, by omega⟩
              have b76 := gi_b (lo := 0) (hi := 11) g 238 i75 (gi_rg 74 6 (fun _ => rfl) (by decide +kernel) (by omega))
              refine wr_ia (k0 := 238) (a := e74) (f := i75) (x := h 238 i75) (nx := 14) (r1 := 0) (r2 := 0) (r3 := 0) rfl (by decide) rfl (by omega) (by omega) (by decide) ((u43 238 i75 (fn_a (by decide) (fn_a (by decide) (fn_a (by decide) (fn_a (by decide) fn_0))))).trans ((u33 238 i75 (fo_nk rfl)).trans ((u18 238 i75 (fo_nk rfl)).trans (u15 238 i75 (fn_a (by omega) fn_0))))) ?_
              refine wi_ireturn (nx := 15) (r1 := 0) (r2 := 0) (r3 := 0) rfl rfl ?_
              refine wk_i ?_
              refine wr_add (nx := 225) (r1 := 0) (r2 := 0) (r3 := 0) rfl (fun e77 (fe77 : e77 = 31 + (h 238 i75)) => ?_)
              obtain ⟨i78, ei78⟩ : ∃ q : Nat, e77 = (q : Int) := ⟨(e77).toNat, by omega⟩
              have b79 := gi_b (lo := 0) (hi := 4) g 238 i78 (gi_rg 31 12 (fun _ => rfl) (by decide +kernel) (by omega))
              refine wr_ia (k0 := 238) (a := e77) (f := i78) (x := h 238 i78) (nx := 226) (r1 := 0) (r2 := 0) (r3 := 0) rfl (by decide) rfl (by omega) (by omega) (by decide) ((u43 238 i78 (fn_a (by decide) (fn_a (by decide) (fn_a (by decide) (fn_a (by decide) fn_0))))).trans ((u33 238 i78 (fo_nk rfl)).trans ((u18 238 i78 (fo_nk rfl)).trans (u15 238 i78 (fn_a (by omega) fn_0))))) ?_
              refine wi_istore (i := 8) (e := h 238 i78) (lo2 := [(8, vi (h 238 i78)), (0, .ref 236), (1, vi z14), (2, vi (h18 246 i26)), (3, vi x30), (4, vi x31), (5, vi x32), (6, vi (h18 246 i50)), (7, vi 0)]) (nx := 228) (r1 := 0) (r2 := 0) (r3 := 0) rfl rfl ?_
              refine wi_iload (i := 8) (e := h 238 i78) (nx := 230) (r1 := 0) (r2 := 0) (r3 := 0) rfl rfl ?_
              refine wi_iload (i := 4) (e := x31) (nx := 232) (r1 := 0) (r2 := 0) (r3 := 0) rfl rfl ?_
              refine wi_icmp (cd := .ne) (nx := 235) (r1 := 253) (r2 := 0) (r3 := 0) rfl (by omega) (by omega) (fun (q80 : (h 238 i78) ≠ x31) => ?_) (fun (q80 : ¬ ((h 238 i78) ≠ x31)) => ?_)
              ·
                refine wi_iconst (n := 1) (nx := 254) (r1 := 0) (r2 := 0) (r3 := 0) rfl ?_
                refine wi_istore (i := 5) (e := 1) (lo2 := [(5, vi 1), (8, vi (h 238 i78)), (0, .ref 236), (1, vi z14), (2, vi (h18 246 i26)), (3, vi x30), (4, vi x31), (6, vi (h18 246 i50)), (7, vi 0)]) (nx := 256) (r1 := 0) (r2 := 0) (r3 := 0) rfl rfl ?_
                refine wi_iload (i := 8) (e := h 238 i78) (nx := 258) (r1 := 0) (r2 := 0) (r3 := 0) rfl rfl ?_
                refine wi_istore (i := 4) (e := h 238 i78) (lo2 := [(4, vi (h 238 i78)), (5, vi 1), (8, vi (h 238 i78)), (0, .ref 236), (1, vi z14), (2, vi (h18 246 i26)), (3, vi x30), (6, vi (h18 246 i50)), (7, vi 0)]) (nx := 260) (r1 := 0) (r2 := 0) (r3 := 0) rfl rfl ?_
                refine wi_iload_n (i := 3) (e := x30) (nx := 261) (r1 := 0) (r2 := 0) (r3 := 0) rfl rfl ?_
                refine wi_iload (i := 7) (e := 0) (nx := 263) (r1 := 0) (r2 := 0) (r3 := 0) rfl rfl ?_
                refine wi_S (rest := [vi x30]) (as := [vi 0]) (nx := 266) (r1 := 307) (r2 := 17) (r3 := 0) rfl rfl rfl (of_decide_eq_true rfl) rfl rfl (of_decide_eq_true rfl) (of_decide_eq_true rfl) ?_
                refine wi_iload_n (i := 0) (e := 0) (nx := 1) (r1 := 0) (r2 := 0) (r3 := 0) rfl rfl ?_
                refine wi_if (cd := .ne) (nx := 4) (r1 := 10) (r2 := 0) (r3 := 0) rfl (by omega) (fun (q81 : 0 ≠ 0) => by exfalso; omega) (fun (q81 : ¬ (0 ≠ 0)) => ?_)
                refine wi_sipush (n := 343) (nx := 7) (r1 := 0) (r2 := 0) (r3 := 0) rfl (by decide) ?_
                refine wi_goto (nx := 10) (r1 := 31) (r2 := 0) (r3 := 0) rfl ?_
                refine wi_ireturn (nx := 32) (r1 := 0) (r2 := 0) (r3 := 0) rfl rfl ?_
                refine wk_i ?_
                refine wr_add (nx := 267) (r1 := 0) (r2 := 0) (r3 := 0) rfl (fun e82 (fe82 : e82 = x30 + 343) => ?_)
                refine wi_istore_n (i := 3) (e := e82) (lo2 := [(3, vi e82), (4, vi (h 238 i78)), (5, vi 1), (8, vi (h 238 i78)), (0, .ref 236), (1, vi z14), (2, vi (h18 246 i26)), (6, vi (h18 246 i50)), (7, vi 0)]) (nx := 268) (r1 := 0) (r2 := 0) (r3 := 0) rfl rfl ?_
                refine wi_aload_n (i := 0) (x := 236) (nx := 269) (r1 := 0) (r2 := 0) (r3 := 0) rfl rfl ?_
                refine wr_gr (k0 := 236) (x := 248) (nx := 272) (r1 := 11) (r2 := 31) (r3 := 0) rfl rfl (by decide) rfl ⟨rfl, rfl⟩ rfl ?_
                refine wi_aload_n (i := 0) (x := 236) (nx := 273) (r1 := 0) (r2 := 0) (r3 := 0) rfl rfl ?_
                refine wr_gi0 (k0 := 236) (x := h33 236 32) (nx := 276) (r1 := 11) (r2 := 32) (r3 := 0) rfl rfl (by decide) rfl ⟨rfl, rfl⟩ rfl (u43 236 32 rfl) ?_
                refine wi_iload (i := 7) (e := 0) (nx := 278) (r1 := 0) (r2 := 0) (r3 := 0) rfl rfl ?_
                obtain ⟨i83, ei83⟩ : ∃ q : Nat, (h33 236 32) = (q : Int) := ⟨(h33 236 32).toNat, by omega⟩
                refine wr_is (k0 := 248) (a := h33 236 32) (f := i83) (x := 0) (bl := 0) (bh := 3) (nx := 279) (r1 := 0) (r2 := 0) (r3 := 0) rfl (by decide) rfl (by omega) (by omega) (by decide) g43 rfl (by omega) (fun h84 g84 w84 u84 => ?_)
                have F85 := F44.then rfl (FR.rngp (lo := 248) (hi := 248) u84 (by decide))
                have F86 := F45.then rfl (FR.rngp (lo := 248) (hi := 248) u84 (by decide))
                refine wi_aload_n (i := 0) (x := 236) (nx := 280) (r1 := 0) (r2 := 0) (r3 := 0) rfl rfl ?_
                refine wi_dup (nx := 281) (r1 := 0) (r2 := 0) (r3 := 0) rfl rfl ?_
                refine wr_gi0 (k0 := 236) (x := h33 236 32) (nx := 284) (r1 := 11) (r2 := 32) (r3 := 0) rfl rfl (by decide) rfl ⟨rfl, rfl⟩ rfl ((u84 236 32 (fn_a (by omega) fn_0)).trans (u43 236 32 rfl)) ?_
                refine wi_iconst (n := 1) (nx := 285) (r1 := 0) (r2 := 0) (r3 := 0) rfl ?_
                refine wr_add (nx := 286) (r1 := 0) (r2 := 0) (r3 := 0) rfl (fun e87 (fe87 : e87 = (h33 236 32) + 1) => ?_)
                refine wr_pf0 (k0 := 236) (x := e87) (bl := 0) (bh := 12) (nx := 289) (r1 := 11) (r2 := 32) (r3 := 0) rfl (by decide) rfl ⟨rfl, rfl⟩ rfl rfl g84 rfl (by omega) (fun h88 g88 w88 u88 => ?_)
                have F89 := F85.then rfl u88
                have F90 := F86.then rfl u88
                refine wi_goto (nx := 292) (r1 := 153) (r2 := 0) (r3 := 0) rfl ?_
                have e91 : h88 236 32 = e87 := w88
                refine wp.lo (lo := [(0, .ref 236), (1, vi z14), (2, vi (h18 246 i26)), (3, vi e82), (4, vi (h 238 i78)), (5, vi 1)]) ⟨rfl, rfl, rfl, rfl, rfl, rfl, trivial⟩ rfl ?_
                have q92 : h43 238 = h33 238 := funext (fun i => (u43 238 i (fo_no_ok (by decide) i)))
                have q93 : h43 246 = h33 246 := funext (fun i => (u43 246 i (fo_no_ok (by decide) i)))
                have c94 : h43 246 i50 = h18 246 i50 := ((u43 246 i50 (fn_a (by decide) (fn_a (by decide) (fn_a (by decide) (fn_a (by decide) fn_0))))).trans (u33 246 i50 (fo_nk rfl)))
                have c95 : h33 238 i75 = h 238 i75 := ((u33 238 i75 (fo_nk rfl)).trans ((u18 238 i75 (fo_nk rfl)).trans (u15 238 i75 (fn_a (by omega) fn_0))))
                have c96 : h33 238 i78 = h 238 i78 := ((u33 238 i78 (fo_nk rfl)).trans ((u18 238 i78 (fo_nk rfl)).trans (u15 238 i78 (fn_a (by omega) fn_0))))
                have e97 : h33 238 5 = h 238 5 := ((u33 238 5 rfl).trans ((u18 238 5 rfl).trans (u15 238 5 rfl)))
                have t98 : h43 247 0 = TQ (x30).toNat 0 := y43_0 (x30).toNat (by omega) 0 (by decide)
                have wk99 := WK.step (R := h33 238) (LS := h33 246) (gi_RB g33) (l := 0) (p := (x30).toNat) (c := x31) (r := x32) (its := h 238 i78) (r2 := 1) (by decide) (by omega) (by omega) (X33_0 (x30).toNat (by omega)) (by rw [← q92, ← q93, ← u_by_T (T := h43 247) (fun l hl => y43_0 (x30).toNat (by omega) l hl) (by decide), ← y69_0, show 60 * (x30).toNat + 10 * (x31).toNat + (x32).toNat = i50 by omega]; omega) (by rw [show 74 + 6 * 0 + (TQ (x30).toNat 0).toNat = i75 by omega, show 31 + (h33 238 i75).toNat = i78 by omega]; omega) (by split <;> omega)
                have wk99b := wk99.2
                simp [wt] at wk99b
                have q100 : h88 238 = h33 238 := funext (fun i => ((u88 238 i rfl).trans ((u84 238 i (fn_a (by omega) fn_0)).trans (u43 238 i (fo_no_ok (by decide) i)))))
                have q101 : h88 246 = h33 246 := funext (fun i => ((u88 246 i rfl).trans ((u84 246 i (fn_a (by omega) fn_0)).trans (u43 246 i (fo_no_ok (by decide) i)))))
                exact I33 e82 (h 238 i78) 1 h88 ⟨g88, F89, F90, (show (0 ≤ e82 ∧ e82 ≤ 2400) ∧ (0 ≤ (h 238 i78) ∧ (h 238 i78) ≤ 5) ∧ (0 ≤ 1 ∧ 1 ≤ 9) ∧ (1 ≤ (h18 238 5)) ∧ ((h88 236 32) ≤ z14) by omega), (fun pp e => by
                    obtain rfl : pp = (x30).toNat + wt 0 := by simp [wt]; omega
                    rw [q100, q101, show h88 236 32 = h33 236 32 + 1 by omega]
                    exact wk99.1)⟩ (show (z14 - (h88 236 32)).toNat < (z14 - (h33 236 32)).toNat by omega)
              ·
                refine wi_iload (i := 5) (e := x32) (nx := 237) (r1 := 0) (r2 := 0) (r3 := 0) rfl rfl ?_
                refine wi_aload_n (i := 0) (x := 236) (nx := 238) (r1 := 0) (r2 := 0) (r3 := 0) rfl rfl ?_
                refine wr_gr (k0 := 236) (x := 238) (nx := 241) (r1 := 11) (r2 := 13) (r3 := 0) rfl rfl (by decide) rfl ⟨rfl, rfl⟩ rfl ?_
                refine wi_iconst (n := 5) (nx := 242) (r1 := 0) (r2 := 0) (r3 := 0) rfl ?_
                refine wr_ia (k0 := 238) (a := 5) (f := 5) (x := h 238 5) (nx := 243) (r1 := 0) (r2 := 0) (r3 := 0) rfl (by decide) rfl (by omega) (by omega) (by decide) ((u43 238 5 rfl).trans ((u33 238 5 rfl).trans ((u18 238 5 rfl).trans (u15 238 5 rfl)))) ?_
                refine wi_icmp (cd := .eq) (nx := 246) (r1 := 253) (r2 := 0) (r3 := 0) rfl (by omega) (by omega) (fun (q81 : x32 = (h 238 5)) => ?_) (fun (q81 : ¬ (x32 = (h 238 5))) => ?_)
                ·
                  refine wi_iconst (n := 1) (nx := 254) (r1 := 0) (r2 := 0) (r3 := 0) rfl ?_
                  refine wi_istore (i := 5) (e := 1) (lo2 := [(5, vi 1), (8, vi (h 238 i78)), (0, .ref 236), (1, vi z14), (2, vi (h18 246 i26)), (3, vi x30), (4, vi x31), (6, vi (h18 246 i50)), (7, vi 0)]) (nx := 256) (r1 := 0) (r2 := 0) (r3 := 0) rfl rfl ?_
                  refine wi_iload (i := 8) (e := h 238 i78) (nx := 258) (r1 := 0) (r2 := 0) (r3 := 0) rfl rfl ?_
                  refine wi_istore (i := 4) (e := h 238 i78) (lo2 := [(4, vi (h 238 i78)), (5, vi 1), (8, vi (h 238 i78)), (0, .ref 236), (1, vi z14), (2, vi (h18 246 i26)), (3, vi x30), (6, vi (h18 246 i50)), (7, vi 0)]) (nx := 260) (r1 := 0) (r2 := 0) (r3 := 0) rfl rfl ?_
                  refine wi_iload_n (i := 3) (e := x30) (nx := 261) (r1 := 0) (r2 := 0) (r3 := 0) rfl rfl ?_
                  refine wi_iload (i := 7) (e := 0) (nx := 263) (r1 := 0) (r2 := 0) (r3 := 0) rfl rfl ?_
                  refine wi_S (rest := [vi x30]) (as := [vi 0]) (nx := 266) (r1 := 307) (r2 := 17) (r3 := 0) rfl rfl rfl (of_decide_eq_true rfl) rfl rfl (of_decide_eq_true rfl) (of_decide_eq_true rfl) ?_
                  refine wi_iload_n (i := 0) (e := 0) (nx := 1) (r1 := 0) (r2 := 0) (r3 := 0) rfl rfl ?_
                  refine wi_if (cd := .ne) (nx := 4) (r1 := 10) (r2 := 0) (r3 := 0) rfl (by omega) (fun (q82 : 0 ≠ 0) => by exfalso; omega) (fun (q82 : ¬ (0 ≠ 0)) => ?_)
                  refine wi_sipush (n := 343) (nx := 7) (r1 := 0) (r2 := 0) (r3 := 0) rfl (by decide) ?_
                  refine wi_goto (nx := 10) (r1 := 31) (r2 := 0) (r3 := 0) rfl ?_
                  refine wi_ireturn (nx := 32) (r1 := 0) (r2 := 0) (r3 := 0) rfl rfl ?_
                  refine wk_i ?_
                  refine wr_add (nx := 267) (r1 := 0) (r2 := 0) (r3 := 0) rfl (fun e83 (fe83 : e83 = x30 + 343) => ?_)
                  refine wi_istore_n (i := 3) (e := e83) (lo2 := [(3, vi e83), (4, vi (h 238 i78)), (5, vi 1), (8, vi (h 238 i78)), (0, .ref 236), (1, vi z14), (2, vi (h18 246 i26)), (6, vi (h18 246 i50)), (7, vi 0)]) (nx := 268) (r1 := 0) (r2 := 0) (r3 := 0) rfl rfl ?_
                  refine wi_aload_n (i := 0) (x := 236) (nx := 269) (r1 := 0) (r2 := 0) (r3 := 0) rfl rfl ?_
                  refine wr_gr (k0 := 236) (x := 248) (nx := 272) (r1 := 11) (r2 := 31) (r3 := 0) rfl rfl (by decide) rfl ⟨rfl, rfl⟩ rfl ?_
                  refine wi_aload_n (i := 0) (x := 236) (nx := 273) (r1 := 0) (r2 := 0) (r3 := 0) rfl rfl ?_
                  refine wr_gi0 (k0 := 236) (x := h33 236 32) (nx := 276) (r1 := 11) (r2 := 32) (r3 := 0) rfl rfl (by decide) rfl ⟨rfl, rfl⟩ rfl (u43 236 32 rfl) ?_
                  refine wi_iload (i := 7) (e := 0) (nx := 278) (r1 := 0) (r2 := 0) (r3 := 0) rfl rfl ?_
                  obtain ⟨i84, ei84⟩ : ∃ q : Nat, (h33 236 32) = (q : Int) := ⟨(h33 236 32).toNat, by omega⟩
                  refine wr_is (k0 := 248) (a := h33 236 32) (f := i84) (x := 0) (bl := 0) (bh := 3) (nx := 279) (r1 := 0) (r2 := 0) (r3 := 0) rfl (by decide) rfl (by omega) (by omega) (by decide) g43 rfl (by omega) (fun h85 g85 w85 u85 => ?_)
                  have F86 := F44.then rfl (FR.rngp (lo := 248) (hi := 248) u85 (by decide))
                  have F87 := F45.then rfl (FR.rngp (lo := 248) (hi := 248) u85 (by decide))
                  refine wi_aload_n (i := 0) (x := 236) (nx := 280) (r1 := 0) (r2 := 0) (r3 := 0) rfl rfl ?_
                  refine wi_dup (nx := 281) (r1 := 0) (r2 := 0) (r3 := 0) rfl rfl ?_
                  refine wr_gi0 (k0 := 236) (x := h33 236 32) (nx := 284) (r1 := 11) (r2 := 32) (r3 := 0) rfl rfl (by decide) rfl ⟨rfl, rfl⟩ rfl ((u85 236 32 (fn_a (by omega) fn_0)).trans (u43 236 32 rfl)) ?_
                  refine wi_iconst (n := 1) (nx := 285) (r1 := 0) (r2 := 0) (r3 := 0) rfl ?_
                  refine wr_add (nx := 286) (r1 := 0) (r2 := 0) (r3 := 0) rfl (fun e88 (fe88 : e88 = (h33 236 32) + 1) => ?_)
                  refine wr_pf0 (k0 := 236) (x := e88) (bl := 0) (bh := 12) (nx := 289) (r1 := 11) (r2 := 32) (r3 := 0) rfl (by decide) rfl ⟨rfl, rfl⟩ rfl rfl g85 rfl (by omega) (fun h89 g89 w89 u89 => ?_)
                  have F90 := F86.then rfl u89
                  have F91 := F87.then rfl u89
                  refine wi_goto (nx := 292) (r1 := 153) (r2 := 0) (r3 := 0) rfl ?_
                  have e92 : h89 236 32 = e88 := w89
                  refine wp.lo (lo := [(0, .ref 236), (1, vi z14), (2, vi (h18 246 i26)), (3, vi e83), (4, vi (h 238 i78)), (5, vi 1)]) ⟨rfl, rfl, rfl, rfl, rfl, rfl, trivial⟩ rfl ?_
                  have q93 : h43 238 = h33 238 := funext (fun i => (u43 238 i (fo_no_ok (by decide) i)))
                  have q94 : h43 246 = h33 246 := funext (fun i => (u43 246 i (fo_no_ok (by decide) i)))
                  have c95 : h43 246 i50 = h18 246 i50 := ((u43 246 i50 (fn_a (by decide) (fn_a (by decide) (fn_a (by decide) (fn_a (by decide) fn_0))))).trans (u33 246 i50 (fo_nk rfl)))
                  have c96 : h33 238 i75 = h 238 i75 := ((u33 238 i75 (fo_nk rfl)).trans ((u18 238 i75 (fo_nk rfl)).trans (u15 238 i75 (fn_a (by omega) fn_0))))
                  have c97 : h33 238 i78 = h 238 i78 := ((u33 238 i78 (fo_nk rfl)).trans ((u18 238 i78 (fo_nk rfl)).trans (u15 238 i78 (fn_a (by omega) fn_0))))
                  have e98 : h33 238 5 = h 238 5 := ((u33 238 5 rfl).trans ((u18 238 5 rfl).trans (u15 238 5 rfl)))
                  have t99 : h43 247 0 = TQ (x30).toNat 0 := y43_0 (x30).toNat (by omega) 0 (by decide)
                  have wk100 := WK.step (R := h33 238) (LS := h33 246) (gi_RB g33) (l := 0) (p := (x30).toNat) (c := x31) (r := x32) (its := h 238 i78) (r2 := 1) (by decide) (by omega) (by omega) (X33_0 (x30).toNat (by omega)) (by rw [← q93, ← q94, ← u_by_T (T := h43 247) (fun l hl => y43_0 (x30).toNat (by omega) l hl) (by decide), ← y69_0, show 60 * (x30).toNat + 10 * (x31).toNat + (x32).toNat = i50 by omega]; omega) (by rw [show 74 + 6 * 0 + (TQ (x30).toNat 0).toNat = i75 by omega, show 31 + (h33 238 i75).toNat = i78 by omega]; omega) (by split <;> omega)
                  have wk100b := wk100.2
                  simp [wt] at wk100b
                  have q101 : h89 238 = h33 238 := funext (fun i => ((u89 238 i rfl).trans ((u85 238 i (fn_a (by omega) fn_0)).trans (u43 238 i (fo_no_ok (by decide) i)))))
                  have q102 : h89 246 = h33 246 := funext (fun i => ((u89 246 i rfl).trans ((u85 246 i (fn_a (by omega) fn_0)).trans (u43 246 i (fo_no_ok (by decide) i)))))
                  exact I33 e83 (h 238 i78) 1 h89 ⟨g89, F90, F91, (show (0 ≤ e83 ∧ e83 ≤ 2400) ∧ (0 ≤ (h 238 i78) ∧ (h 238 i78) ≤ 5) ∧ (0 ≤ 1 ∧ 1 ≤ 9) ∧ (1 ≤ (h18 238 5)) ∧ ((h89 236 32) ≤ z14) by omega), (fun pp e => by
                      obtain rfl : pp = (x30).toNat + wt 0 := by simp [wt]; omega
                      rw [q101, q102, show h89 236 32 = h33 236 32 + 1 by omega]
                      exact wk100.1)⟩ (show (z14 - (h89 236 32)).toNat < (z14 - (h33 236 32)).toNat by omega)
                ·
                  refine wi_iload (i := 5) (e := x32) (nx := 248) (r1 := 0) (r2 := 0) (r3 := 0) rfl rfl ?_
                  refine wi_iconst (n := 1) (nx := 249) (r1 := 0) (r2 := 0) (r3 := 0) rfl ?_
                  refine wr_add (nx := 250) (r1 := 0) (r2 := 0) (r3 := 0) rfl (fun e82 (fe82 : e82 = x32 + 1) => ?_)
                  refine wi_goto (nx := 253) (r1 := 254) (r2 := 0) (r3 := 0) rfl ?_
                  refine wi_istore (i := 5) (e := e82) (lo2 := [(5, vi e82), (8, vi (h 238 i78)), (0, .ref 236), (1, vi z14), (2, vi (h18 246 i26)), (3, vi x30), (4, vi x31), (6, vi (h18 246 i50)), (7, vi 0)]) (nx := 256) (r1 := 0) (r2 := 0) (r3 := 0) rfl rfl ?_
                  refine wi_iload (i := 8) (e := h 238 i78) (nx := 258) (r1 := 0) (r2 := 0) (r3 := 0) rfl rfl ?_
                  refine wi_istore (i := 4) (e := h 238 i78) (lo2 := [(4, vi (h 238 i78)), (5, vi e82), (8, vi (h 238 i78)), (0, .ref 236), (1, vi z14), (2, vi (h18 246 i26)), (3, vi x30), (6, vi (h18 246 i50)), (7, vi 0)]) (nx := 260) (r1 := 0) (r2 := 0) (r3 := 0) rfl rfl ?_
                  refine wi_iload_n (i := 3) (e := x30) (nx := 261) (r1 := 0) (r2 := 0) (r3 := 0) rfl rfl ?_
                  refine wi_iload (i := 7) (e := 0) (nx := 263) (r1 := 0) (r2 := 0) (r3 := 0) rfl rfl ?_
                  refine wi_S (rest := [vi x30]) (as := [vi 0]) (nx := 266) (r1 := 307) (r2 := 17) (r3 := 0) rfl rfl rfl (of_decide_eq_true rfl) rfl rfl (of_decide_eq_true rfl) (of_decide_eq_true rfl) ?_
                  refine wi_iload_n (i := 0) (e := 0) (nx := 1) (r1 := 0) (r2 := 0) (r3 := 0) rfl rfl ?_
                  refine wi_if (cd := .ne) (nx := 4) (r1 := 10) (r2 := 0) (r3 := 0) rfl (by omega) (fun (q83 : 0 ≠ 0) => by exfalso; omega) (fun (q83 : ¬ (0 ≠ 0)) => ?_)
                  refine wi_sipush (n := 343) (nx := 7) (r1 := 0) (r2 := 0) (r3 := 0) rfl (by decide) ?_
                  refine wi_goto (nx := 10) (r1 := 31) (r2 := 0) (r3 := 0) rfl ?_
                  refine wi_ireturn (nx := 32) (r1 := 0) (r2 := 0) (r3 := 0) rfl rfl ?_
                  refine wk_i ?_
                  refine wr_add (nx := 267) (r1 := 0) (r2 := 0) (r3 := 0) rfl (fun e84 (fe84 : e84 = x30 + 343) => ?_)
                  refine wi_istore_n (i := 3) (e := e84) (lo2 := [(3, vi e84), (4, vi (h 238 i78)), (5, vi e82), (8, vi (h 238 i78)), (0, .ref 236), (1, vi z14), (2, vi (h18 246 i26)), (6, vi (h18 246 i50)), (7, vi 0)]) (nx := 268) (r1 := 0) (r2 := 0) (r3 := 0) rfl rfl ?_
                  refine wi_aload_n (i := 0) (x := 236) (nx := 269) (r1 := 0) (r2 := 0) (r3 := 0) rfl rfl ?_
                  refine wr_gr (k0 := 236) (x := 248) (nx := 272) (r1 := 11) (r2 := 31) (r3 := 0) rfl rfl (by decide) rfl ⟨rfl, rfl⟩ rfl ?_
                  refine wi_aload_n (i := 0) (x := 236) (nx := 273) (r1 := 0) (r2 := 0) (r3 := 0) rfl rfl ?_
                  refine wr_gi0 (k0 := 236) (x := h33 236 32) (nx := 276) (r1 := 11) (r2 := 32) (r3 := 0) rfl rfl (by decide) rfl ⟨rfl, rfl⟩ rfl (u43 236 32 rfl) ?_
                  refine wi_iload (i := 7) (e := 0) (nx := 278) (r1 := 0) (r2 := 0) (r3 := 0) rfl rfl ?_
                  obtain ⟨i85, ei85⟩ : ∃ q : Nat, (h33 236 32) = (q : Int) := ⟨(h33 236 32).toNat, by omega⟩
                  refine wr_is (k0 := 248) (a := h33 236 32) (f := i85) (x := 0) (bl := 0) (bh := 3) (nx := 279) (r1 := 0) (r2 := 0) (r3 := 0) rfl (by decide) rfl (by omega) (by omega) (by decide) g43 rfl (by omega) (fun h86 g86 w86 u86 => ?_)
                  have F87 := F44.then rfl (FR.rngp (lo := 248) (hi := 248) u86 (by decide))
                  have F88 := F45.then rfl (FR.rngp (lo := 248) (hi := 248) u86 (by decide))
                  refine wi_aload_n (i := 0) (x := 236) (nx := 280) (r1 := 0) (r2 := 0) (r3 := 0) rfl rfl ?_
                  refine wi_dup (nx := 281) (r1 := 0) (r2 := 0) (r3 := 0) rfl rfl ?_
                  refine wr_gi0 (k0 := 236) (x := h33 236 32) (nx := 284) (r1 := 11) (r2 := 32) (r3 := 0) rfl rfl (by decide) rfl ⟨rfl, rfl⟩ rfl ((u86 236 32 (fn_a (by omega) fn_0)).trans (u43 236 32 rfl)) ?_
                  refine wi_iconst (n := 1) (nx := 285) (r1 := 0) (r2 := 0) (r3 := 0) rfl ?_
                  refine wr_add (nx := 286) (r1 := 0) (r2 := 0) (r3 := 0) rfl (fun e89 (fe89 : e89 = (h33 236 32) + 1) => ?_)
                  refine wr_pf0 (k0 := 236) (x := e89) (bl := 0) (bh := 12) (nx := 289) (r1 := 11) (r2 := 32) (r3 := 0) rfl (by decide) rfl ⟨rfl, rfl⟩ rfl rfl g86 rfl (by omega) (fun h90 g90 w90 u90 => ?_)
                  have F91 := F87.then rfl u90
                  have F92 := F88.then rfl u90
                  refine wi_goto (nx := 292) (r1 := 153) (r2 := 0) (r3 := 0) rfl ?_
                  have e93 : h90 236 32 = e89 := w90
                  refine wp.lo (lo := [(0, .ref 236), (1, vi z14), (2, vi (h18 246 i26)), (3, vi e84), (4, vi (h 238 i78)), (5, vi e82)]) ⟨rfl, rfl, rfl, rfl, rfl, rfl, trivial⟩ rfl ?_
                  have q94 : h43 238 = h33 238 := funext (fun i => (u43 238 i (fo_no_ok (by decide) i)))
                  have q95 : h43 246 = h33 246 := funext (fun i => (u43 246 i (fo_no_ok (by decide) i)))
                  have c96 : h43 246 i50 = h18 246 i50 := ((u43 246 i50 (fn_a (by decide) (fn_a (by decide) (fn_a (by decide) (fn_a (by decide) fn_0))))).trans (u33 246 i50 (fo_nk rfl)))
                  have c97 : h33 238 i75 = h 238 i75 := ((u33 238 i75 (fo_nk rfl)).trans ((u18 238 i75 (fo_nk rfl)).trans (u15 238 i75 (fn_a (by omega) fn_0))))
                  have c98 : h33 238 i78 = h 238 i78 := ((u33 238 i78 (fo_nk rfl)).trans ((u18 238 i78 (fo_nk rfl)).trans (u15 238 i78 (fn_a (by omega) fn_0))))
                  have e99 : h33 238 5 = h 238 5 := ((u33 238 5 rfl).trans ((u18 238 5 rfl).trans (u15 238 5 rfl)))
                  have t100 : h43 247 0 = TQ (x30).toNat 0 := y43_0 (x30).toNat (by omega) 0 (by decide)
                  have wk101 := WK.step (R := h33 238) (LS := h33 246) (gi_RB g33) (l := 0) (p := (x30).toNat) (c := x31) (r := x32) (its := h 238 i78) (r2 := e82) (by decide) (by omega) (by omega) (X33_0 (x30).toNat (by omega)) (by rw [← q94, ← q95, ← u_by_T (T := h43 247) (fun l hl => y43_0 (x30).toNat (by omega) l hl) (by decide), ← y69_0, show 60 * (x30).toNat + 10 * (x31).toNat + (x32).toNat = i50 by omega]; omega) (by rw [show 74 + 6 * 0 + (TQ (x30).toNat 0).toNat = i75 by omega, show 31 + (h33 238 i75).toNat = i78 by omega]; omega) (by split <;> omega)
                  have wk101b := wk101.2
                  simp [wt] at wk101b
                  have q102 : h90 238 = h33 238 := funext (fun i => ((u90 238 i rfl).trans ((u86 238 i (fn_a (by omega) fn_0)).trans (u43 238 i (fo_no_ok (by decide) i)))))
                  have q103 : h90 246 = h33 246 := funext (fun i => ((u90 246 i rfl).trans ((u86 246 i (fn_a (by omega) fn_0)).trans (u43 246 i (fo_no_ok (by decide) i)))))
                  exact I33 e84 (h 238 i78) e82 h90 ⟨g90, F91, F92, (show (0 ≤ e84 ∧ e84 ≤ 2400) ∧ (0 ≤ (h 238 i78) ∧ (h 238 i78) ≤ 5) ∧ (0 ≤ e82 ∧ e82 ≤ 9) ∧ (e82 ≤ (h18 238 5)) ∧ ((h90 236 32) ≤ z14) by omega), (fun pp e => by
                      obtain rfl : pp = (x30).toNat + wt 0 := by simp [wt]; omega
                      rw [q102, q103, show h90 236 32 = h33 236 32 + 1 by omega]
                      exact wk101.1)⟩ (show (z14 - (h90 236 32)).toNat < (z14 - (h33 236 32)).toNat by omega)
            ·
              refine wr_iincL (i := 7) (n := 1) (v := 0) (1) ([(7, vi 1), (0, .ref 236), (1, vi z14), (2, vi (h18 246 i26)), (3, vi x30), (4, vi x31), (5, vi x32), (6, vi (h18 246 i50))]) (nx := 202) (r1 := 0) (r2 := 0) (r3 := 0) rfl rfl (by decide) rfl ?_
              refine wi_goto (nx := 205) (r1 := 184) (r2 := 0) (r3 := 0) rfl ?_
              refine wp.lo (lo := [(0, .ref 236), (1, vi z14), (2, vi (h18 246 i26)), (3, vi x30), (4, vi x31), (5, vi x32), (6, vi (h18 246 i50)), (7, vi 1)]) ⟨rfl, rfl, rfl, rfl, rfl, rfl, rfl, rfl, trivial⟩ rfl ?_
              obtain ⟨la74, haa74, hba74, hca74⟩ := X55_0
              have hda74 : la74 ≠ 0 := fun e => by subst e; omega
              exact I55 1 h43 ⟨rfl, (show (0 ≤ 1 ∧ 1 ≤ 3) by omega), ⟨la74, by omega, hba74, hca74⟩⟩ (show ((3 : Int) + 1 - 1).toNat < ((3 : Int) + 1 - x54).toNat by omega)
          ·
            rw [q68]
            refine wr_V (k0 := 236) (rest := []) (as := [.ref 236, vi 1, vi x31, vi x32]) (nx := 194) (r1 := 305) (r2 := 3) (r3 := 11) rfl rfl rfl (of_decide_eq_true rfl) rfl rfl (by decide) rfl rfl (of_decide_eq_true rfl) (of_decide_eq_true rfl) ?_
            refine ct_305_236_L1 hcr  g43 x31 x32 (by omega) (by omega)  (fun z70  (fz70 : 0 ≤ z70 ∧ z70 ≤ 1099900) (p69_0 : z70 = 1000000 ∨ (h43 247 1) < (h43 238 99)) y69_0 => ?_)
            have b71 := gi_b (lo := 0) (hi := 6) g43 247 1 rfl
            have e72 : h43 238 99 = h 238 99 := ((u43 238 99 rfl).trans ((u33 238 99 rfl).trans ((u18 238 99 rfl).trans (u15 238 99 rfl))))
            refine wk_i ?_
            refine wi_iload (i := 6) (e := h18 246 i50) (nx := 196) (r1 := 0) (r2 := 0) (r3 := 0) rfl rfl ?_
            refine wi_icmp (cd := .eq) (nx := 199) (r1 := 205) (r2 := 0) (r3 := 0) rfl (by omega) (by omega) (fun (q73 : z70 = (h18 246 i50)) => ?_) (fun (q73 : ¬ (z70 = (h18 246 i50))) => ?_)
            ·
              refine wi_aload_n (i := 0) (x := 236) (nx := 206) (r1 := 0) (r2 := 0) (r3 := 0) rfl rfl ?_
              refine wr_gr (k0 := 236) (x := 238) (nx := 209) (r1 := 11) (r2 := 13) (r3 := 0) rfl rfl (by decide) rfl ⟨rfl, rfl⟩ rfl ?_
              refine wi_bipush (n := 31) (nx := 211) (r1 := 0) (r2 := 0) (r3 := 0) rfl (by decide) ?_
              refine wi_aload_n (i := 0) (x := 236) (nx := 212) (r1 := 0) (r2 := 0) (r3 := 0) rfl rfl ?_
              refine wi_iload (i := 7) (e := 1) (nx := 214) (r1 := 0) (r2 := 0) (r3 := 0) rfl rfl ?_
              refine wi_aload_n (i := 0) (x := 236) (nx := 215) (r1 := 0) (r2 := 0) (r3 := 0) rfl rfl ?_
              refine wr_gr (k0 := 236) (x := 247) (nx := 218) (r1 := 11) (r2 := 30) (r3 := 0) rfl rfl (by decide) rfl ⟨rfl, rfl⟩ rfl ?_
              refine wi_iload (i := 7) (e := 1) (nx := 220) (r1 := 0) (r2 := 0) (r3 := 0) rfl rfl ?_
              refine wr_ia (k0 := 247) (a := 1) (f := 1) (x := h43 247 1) (nx := 221) (r1 := 0) (r2 := 0) (r3 := 0) rfl (by decide) rfl (by omega) (by omega) (by decide) rfl ?_
              refine wr_V (k0 := 236) (rest := [vi 31, .ref 238]) (as := [.ref 236, vi 1, vi (h43 247 1)]) (nx := 224) (r1 := 258) (r2 := 2) (r3 := 11) rfl rfl rfl (of_decide_eq_true rfl) rfl rfl (by decide) rfl rfl (of_decide_eq_true rfl) (of_decide_eq_true rfl) ?_
              refine wi_aload_n (i := 0) (x := 236) (nx := 1) (r1 := 0) (r2 := 0) (r3 := 0) rfl rfl ?_
              refine wr_gr (k0 := 236) (x := 238) (nx := 4) (r1 := 11) (r2 := 13) (r3 := 0) rfl rfl (by decide) rfl ⟨rfl, rfl⟩ rfl ?_
              refine wi_bipush (n := 74) (nx := 6) (r1 := 0) (r2 := 0) (r3 := 0) rfl (by decide) ?_
              refine wi_bipush (n := 6) (nx := 8) (r1 := 0) (r2 := 0) (r3 := 0) rfl (by decide) ?_
              refine wi_iload_n (i := 1) (e := 1) (nx := 9) (r1 := 0) (r2 := 0) (r3 := 0) rfl rfl ?_
              refine wr_mulL (6) (nx := 10) (r1 := 0) (r2 := 0) (r3 := 0) rfl (by decide) ?_
              refine wr_addL (80) (nx := 11) (r1 := 0) (r2 := 0) (r3 := 0) rfl (by decide) ?_
              refine wi_iload_n (i := 2) (e := h43 247 1) (nx := 12) (r1 := 0) (r2 := 0) (r3 := 0) rfl rfl ?_
              refine wr_add (nx := 13) (r1 := 0) (r2 := 0) (r3 := 0) rfl (fun e74 (fe74 : e74 = 80 + (h43 247 1)) => ?_)
              obtain ⟨i75, ei75⟩ : ∃ q : Nat, e74 = (q : Int) := ⟨(e74).toNat, by omega⟩
              have b76 := gi_b (lo := 0) (hi := 11) g 238 i75 (gi_rg 80 6 (fun _ => rfl) (by decide +kernel) (by omega))
              refine wr_ia (k0 := 238) (a := e74) (f := i75) (x := h 238 i75) (nx := 14) (r1 := 0) (r2 := 0) (r3 := 0) rfl (by decide) rfl (by omega) (by omega) (by decide) ((u43 238 i75 (fn_a (by decide) (fn_a (by decide) (fn_a (by decide) (fn_a (by decide) fn_0))))).trans ((u33 238 i75 (fo_nk rfl)).trans ((u18 238 i75 (fo_nk rfl)).trans (u15 238 i75 (fn_a (by omega) fn_0))))) ?_
              refine wi_ireturn (nx := 15) (r1 := 0) (r2 := 0) (r3 := 0) rfl rfl ?_
              refine wk_i ?_
              refine wr_add (nx := 225) (r1 := 0) (r2 := 0) (r3 := 0) rfl (fun e77 (fe77 : e77 = 31 + (h 238 i75)) => ?_)
              obtain ⟨i78, ei78⟩ : ∃ q : Nat, e77 = (q : Int) := ⟨(e77).toNat, by omega⟩
              have b79 := gi_b (lo := 0) (hi := 4) g 238 i78 (gi_rg 31 12 (fun _ => rfl) (by decide +kernel) (by omega))
              refine wr_ia (k0 := 238) (a := e77) (f := i78) (x := h 238 i78) (nx := 226) (r1 := 0) (r2 := 0) (r3 := 0) rfl (by decide) rfl (by omega) (by omega) (by decide) ((u43 238 i78 (fn_a (by decide) (fn_a (by decide) (fn_a (by decide) (fn_a (by decide) fn_0))))).trans ((u33 238 i78 (fo_nk rfl)).trans ((u18 238 i78 (fo_nk rfl)).trans (u15 238 i78 (fn_a (by omega) fn_0))))) ?_
              refine wi_istore (i := 8) (e := h 238 i78) (lo2 := [(8, vi (h 238 i78)), (0, .ref 236), (1, vi z14), (2, vi (h18 246 i26)), (3, vi x30), (4, vi x31), (5, vi x32), (6, vi (h18 246 i50)), (7, vi 1)]) (nx := 228) (r1 := 0) (r2 := 0) (r3 := 0) rfl rfl ?_
              refine wi_iload (i := 8) (e := h 238 i78) (nx := 230) (r1 := 0) (r2 := 0) (r3 := 0) rfl rfl ?_
              refine wi_iload (i := 4) (e := x31) (nx := 232) (r1 := 0) (r2 := 0) (r3 := 0) rfl rfl ?_
              refine wi_icmp (cd := .ne) (nx := 235) (r1 := 253) (r2 := 0) (r3 := 0) rfl (by omega) (by omega) (fun (q80 : (h 238 i78) ≠ x31) => ?_) (fun (q80 : ¬ ((h 238 i78) ≠ x31)) => ?_)
              ·
                refine wi_iconst (n := 1) (nx := 254) (r1 := 0) (r2 := 0) (r3 := 0) rfl ?_
                refine wi_istore (i := 5) (e := 1) (lo2 := [(5, vi 1), (8, vi (h 238 i78)), (0, .ref 236), (1, vi z14), (2, vi (h18 246 i26)), (3, vi x30), (4, vi x31), (6, vi (h18 246 i50)), (7, vi 1)]) (nx := 256) (r1 := 0) (r2 := 0) (r3 := 0) rfl rfl ?_
                refine wi_iload (i := 8) (e := h 238 i78) (nx := 258) (r1 := 0) (r2 := 0) (r3 := 0) rfl rfl ?_
                refine wi_istore (i := 4) (e := h 238 i78) (lo2 := [(4, vi (h 238 i78)), (5, vi 1), (8, vi (h 238 i78)), (0, .ref 236), (1, vi z14), (2, vi (h18 246 i26)), (3, vi x30), (6, vi (h18 246 i50)), (7, vi 1)]) (nx := 260) (r1 := 0) (r2 := 0) (r3 := 0) rfl rfl ?_
                refine wi_iload_n (i := 3) (e := x30) (nx := 261) (r1 := 0) (r2 := 0) (r3 := 0) rfl rfl ?_
                refine wi_iload (i := 7) (e := 1) (nx := 263) (r1 := 0) (r2 := 0) (r3 := 0) rfl rfl ?_
                refine wi_S (rest := [vi x30]) (as := [vi 1]) (nx := 266) (r1 := 307) (r2 := 17) (r3 := 0) rfl rfl rfl (of_decide_eq_true rfl) rfl rfl (of_decide_eq_true rfl) (of_decide_eq_true rfl) ?_
                refine wi_iload_n (i := 0) (e := 1) (nx := 1) (r1 := 0) (r2 := 0) (r3 := 0) rfl rfl ?_
                refine wi_if (cd := .ne) (nx := 4) (r1 := 10) (r2 := 0) (r3 := 0) rfl (by omega) (fun (q81 : 1 ≠ 0) => ?_) (fun (q81 : ¬ (1 ≠ 0)) => by exfalso; omega)
                refine wi_iload_n (i := 0) (e := 1) (nx := 11) (r1 := 0) (r2 := 0) (r3 := 0) rfl rfl ?_
                refine wi_iconst (n := 1) (nx := 12) (r1 := 0) (r2 := 0) (r3 := 0) rfl ?_
                refine wi_icmp (cd := .ne) (nx := 15) (r1 := 20) (r2 := 0) (r3 := 0) rfl (by omega) (by omega) (fun (q82 : 1 ≠ 1) => by exfalso; omega) (fun (q82 : ¬ (1 ≠ 1)) => ?_)
                refine wi_bipush (n := 49) (nx := 17) (r1 := 0) (r2 := 0) (r3 := 0) rfl (by decide) ?_
                refine wi_goto (nx := 20) (r1 := 31) (r2 := 0) (r3 := 0) rfl ?_
                refine wi_ireturn (nx := 32) (r1 := 0) (r2 := 0) (r3 := 0) rfl rfl ?_
                refine wk_i ?_
                refine wr_add (nx := 267) (r1 := 0) (r2 := 0) (r3 := 0) rfl (fun e83 (fe83 : e83 = x30 + 49) => ?_)
                refine wi_istore_n (i := 3) (e := e83) (lo2 := [(3, vi e83), (4, vi (h 238 i78)), (5, vi 1), (8, vi (h 238 i78)), (0, .ref 236), (1, vi z14), (2, vi (h18 246 i26)), (6, vi (h18 246 i50)), (7, vi 1)]) (nx := 268) (r1 := 0) (r2 := 0) (r3 := 0) rfl rfl ?_
                refine wi_aload_n (i := 0) (x := 236) (nx := 269) (r1 := 0) (r2 := 0) (r3 := 0) rfl rfl ?_
                refine wr_gr (k0 := 236) (x := 248) (nx := 272) (r1 := 11) (r2 := 31) (r3 := 0) rfl rfl (by decide) rfl ⟨rfl, rfl⟩ rfl ?_
                refine wi_aload_n (i := 0) (x := 236) (nx := 273) (r1 := 0) (r2 := 0) (r3 := 0) rfl rfl ?_
                refine wr_gi0 (k0 := 236) (x := h33 236 32) (nx := 276) (r1 := 11) (r2 := 32) (r3 := 0) rfl rfl (by decide) rfl ⟨rfl, rfl⟩ rfl (u43 236 32 rfl) ?_
                refine wi_iload (i := 7) (e := 1) (nx := 278) (r1 := 0) (r2 := 0) (r3 := 0) rfl rfl ?_
                obtain ⟨i84, ei84⟩ : ∃ q : Nat, (h33 236 32) = (q : Int) := ⟨(h33 236 32).toNat, by omega⟩
                refine wr_is (k0 := 248) (a := h33 236 32) (f := i84) (x := 1) (bl := 0) (bh := 3) (nx := 279) (r1 := 0) (r2 := 0) (r3 := 0) rfl (by decide) rfl (by omega) (by omega) (by decide) g43 rfl (by omega) (fun h85 g85 w85 u85 => ?_)
                have F86 := F44.then rfl (FR.rngp (lo := 248) (hi := 248) u85 (by decide))
                have F87 := F45.then rfl (FR.rngp (lo := 248) (hi := 248) u85 (by decide))
                refine wi_aload_n (i := 0) (x := 236) (nx := 280) (r1 := 0) (r2 := 0) (r3 := 0) rfl rfl ?_
                refine wi_dup (nx := 281) (r1 := 0) (r2 := 0) (r3 := 0) rfl rfl ?_
                refine wr_gi0 (k0 := 236) (x := h33 236 32) (nx := 284) (r1 := 11) (r2 := 32) (r3 := 0) rfl rfl (by decide) rfl ⟨rfl, rfl⟩ rfl ((u85 236 32 (fn_a (by omega) fn_0)).trans (u43 236 32 rfl)) ?_
                refine wi_iconst (n := 1) (nx := 285) (r1 := 0) (r2 := 0) (r3 := 0) rfl ?_
                refine wr_add (nx := 286) (r1 := 0) (r2 := 0) (r3 := 0) rfl (fun e88 (fe88 : e88 = (h33 236 32) + 1) => ?_)
                refine wr_pf0 (k0 := 236) (x := e88) (bl := 0) (bh := 12) (nx := 289) (r1 := 11) (r2 := 32) (r3 := 0) rfl (by decide) rfl ⟨rfl, rfl⟩ rfl rfl g85 rfl (by omega) (fun h89 g89 w89 u89 => ?_)
                have F90 := F86.then rfl u89
                have F91 := F87.then rfl u89
                refine wi_goto (nx := 292) (r1 := 153) (r2 := 0) (r3 := 0) rfl ?_
                have e92 : h89 236 32 = e88 := w89
                refine wp.lo (lo := [(0, .ref 236), (1, vi z14), (2, vi (h18 246 i26)), (3, vi e83), (4, vi (h 238 i78)), (5, vi 1)]) ⟨rfl, rfl, rfl, rfl, rfl, rfl, trivial⟩ rfl ?_
                have q93 : h43 238 = h33 238 := funext (fun i => (u43 238 i (fo_no_ok (by decide) i)))
                have q94 : h43 246 = h33 246 := funext (fun i => (u43 246 i (fo_no_ok (by decide) i)))
                have c95 : h43 246 i50 = h18 246 i50 := ((u43 246 i50 (fn_a (by decide) (fn_a (by decide) (fn_a (by decide) (fn_a (by decide) fn_0))))).trans (u33 246 i50 (fo_nk rfl)))
                have c96 : h33 238 i75 = h 238 i75 := ((u33 238 i75 (fo_nk rfl)).trans ((u18 238 i75 (fo_nk rfl)).trans (u15 238 i75 (fn_a (by omega) fn_0))))
                have c97 : h33 238 i78 = h 238 i78 := ((u33 238 i78 (fo_nk rfl)).trans ((u18 238 i78 (fo_nk rfl)).trans (u15 238 i78 (fn_a (by omega) fn_0))))
                have e98 : h33 238 5 = h 238 5 := ((u33 238 5 rfl).trans ((u18 238 5 rfl).trans (u15 238 5 rfl)))
                have t99 : h43 247 1 = TQ (x30).toNat 1 := y43_0 (x30).toNat (by omega) 1 (by decide)
                have wk100 := WK.step (R := h33 238) (LS := h33 246) (gi_RB g33) (l := 1) (p := (x30).toNat) (c := x31) (r := x32) (its := h 238 i78) (r2 := 1) (by decide) (by omega) (by omega) (X33_0 (x30).toNat (by omega)) (by rw [← q93, ← q94, ← u_by_T (T := h43 247) (fun l hl => y43_0 (x30).toNat (by omega) l hl) (by decide), ← y69_0, show 60 * (x30).toNat + 10 * (x31).toNat + (x32).toNat = i50 by omega]; omega) (by rw [show 74 + 6 * 1 + (TQ (x30).toNat 1).toNat = i75 by omega, show 31 + (h33 238 i75).toNat = i78 by omega]; omega) (by split <;> omega)
                have wk100b := wk100.2
                simp [wt] at wk100b
                have q101 : h89 238 = h33 238 := funext (fun i => ((u89 238 i rfl).trans ((u85 238 i (fn_a (by omega) fn_0)).trans (u43 238 i (fo_no_ok (by decide) i)))))
                have q102 : h89 246 = h33 246 := funext (fun i => ((u89 246 i rfl).trans ((u85 246 i (fn_a (by omega) fn_0)).trans (u43 246 i (fo_no_ok (by decide) i)))))
                exact I33 e83 (h 238 i78) 1 h89 ⟨g89, F90, F91, (show (0 ≤ e83 ∧ e83 ≤ 2400) ∧ (0 ≤ (h 238 i78) ∧ (h 238 i78) ≤ 5) ∧ (0 ≤ 1 ∧ 1 ≤ 9) ∧ (1 ≤ (h18 238 5)) ∧ ((h89 236 32) ≤ z14) by omega), (fun pp e => by
                    obtain rfl : pp = (x30).toNat + wt 1 := by simp [wt]; omega
                    rw [q101, q102, show h89 236 32 = h33 236 32 + 1 by omega]
                    exact wk100.1)⟩ (show (z14 - (h89 236 32)).toNat < (z14 - (h33 236 32)).toNat by omega)
              ·
                refine wi_iload (i := 5) (e := x32) (nx := 237) (r1 := 0) (r2 := 0) (r3 := 0) rfl rfl ?_
                refine wi_aload_n (i := 0) (x := 236) (nx := 238) (r1 := 0) (r2 := 0) (r3 := 0) rfl rfl ?_
                refine wr_gr (k0 := 236) (x := 238) (nx := 241) (r1 := 11) (r2 := 13) (r3 := 0) rfl rfl (by decide) rfl ⟨rfl, rfl⟩ rfl ?_
                refine wi_iconst (n := 5) (nx := 242) (r1 := 0) (r2 := 0) (r3 := 0) rfl ?_
                refine wr_ia (k0 := 238) (a := 5) (f := 5) (x := h 238 5) (nx := 243) (r1 := 0) (r2 := 0) (r3 := 0) rfl (by decide) rfl (by omega) (by omega) (by decide) ((u43 238 5 rfl).trans ((u33 238 5 rfl).trans ((u18 238 5 rfl).trans (u15 238 5 rfl)))) ?_
                refine wi_icmp (cd := .eq) (nx := 246) (r1 := 253) (r2 := 0) (r3 := 0) rfl (by omega) (by omega) (fun (q81 : x32 = (h 238 5)) => ?_) (fun (q81 : ¬ (x32 = (h 238 5))) => ?_)
                ·
                  refine wi_iconst (n := 1) (nx := 254) (r1 := 0) (r2 := 0) (r3 := 0) rfl ?_
                  refine wi_istore (i := 5) (e := 1) (lo2 := [(5, vi 1), (8, vi (h 238 i78)), (0, .ref 236), (1, vi z14), (2, vi (h18 246 i26)), (3, vi x30), (4, vi x31), (6, vi (h18 246 i50)), (7, vi 1)]) (nx := 256) (r1 := 0) (r2 := 0) (r3 := 0) rfl rfl ?_
                  refine wi_iload (i := 8) (e := h 238 i78) (nx := 258) (r1 := 0) (r2 := 0) (r3 := 0) rfl rfl ?_
                  refine wi_istore (i := 4) (e := h 238 i78) (lo2 := [(4, vi (h 238 i78)), (5, vi 1), (8, vi (h 238 i78)), (0, .ref 236), (1, vi z14), (2, vi (h18 246 i26)), (3, vi x30), (6, vi (h18 246 i50)), (7, vi 1)]) (nx := 260) (r1 := 0) (r2 := 0) (r3 := 0) rfl rfl ?_
                  refine wi_iload_n (i := 3) (e := x30) (nx := 261) (r1 := 0) (r2 := 0) (r3 := 0) rfl rfl ?_
                  refine wi_iload (i := 7) (e := 1) (nx := 263) (r1 := 0) (r2 := 0) (r3 := 0) rfl rfl ?_
                  refine wi_S (rest := [vi x30]) (as := [vi 1]) (nx := 266) (r1 := 307) (r2 := 17) (r3 := 0) rfl rfl rfl (of_decide_eq_true rfl) rfl rfl (of_decide_eq_true rfl) (of_decide_eq_true rfl) ?_
                  refine wi_iload_n (i := 0) (e := 1) (nx := 1) (r1 := 0) (r2 := 0) (r3 := 0) rfl rfl ?_
                  refine wi_if (cd := .ne) (nx := 4) (r1 := 10) (r2 := 0) (r3 := 0) rfl (by omega) (fun (q82 : 1 ≠ 0) => ?_) (fun (q82 : ¬ (1 ≠ 0)) => by exfalso; omega)
                  refine wi_iload_n (i := 0) (e := 1) (nx := 11) (r1 := 0) (r2 := 0) (r3 := 0) rfl rfl ?_
                  refine wi_iconst (n := 1) (nx := 12) (r1 := 0) (r2 := 0) (r3 := 0) rfl ?_
                  refine wi_icmp (cd := .ne) (nx := 15) (r1 := 20) (r2 := 0) (r3 := 0) rfl (by omega) (by omega) (fun (q83 : 1 ≠ 1) => by exfalso; omega) (fun (q83 : ¬ (1 ≠ 1)) => ?_)
                  refine wi_bipush (n := 49) (nx := 17) (r1 := 0) (r2 := 0) (r3 := 0) rfl (by decide) ?_
                  refine wi_goto (nx := 20) (r1 := 31) (r2 := 0) (r3 := 0) rfl ?_
                  refine wi_ireturn (nx := 32) (r1 := 0) (r2 := 0) (r3 := 0) rfl rfl ?_
                  refine wk_i ?_
                  refine wr_add (nx := 267) (r1 := 0) (r2 := 0) (r3 := 0) rfl (fun e84 (fe84 : e84 = x30 + 49) => ?_)
                  refine wi_istore_n (i := 3) (e := e84) (lo2 := [(3, vi e84), (4, vi (h 238 i78)), (5, vi 1), (8, vi (h 238 i78)), (0, .ref 236), (1, vi z14), (2, vi (h18 246 i26)), (6, vi (h18 246 i50)), (7, vi 1)]) (nx := 268) (r1 := 0) (r2 := 0) (r3 := 0) rfl rfl ?_
                  refine wi_aload_n (i := 0) (x := 236) (nx := 269) (r1 := 0) (r2 := 0) (r3 := 0) rfl rfl ?_
                  refine wr_gr (k0 := 236) (x := 248) (nx := 272) (r1 := 11) (r2 := 31) (r3 := 0) rfl rfl (by decide) rfl ⟨rfl, rfl⟩ rfl ?_
                  refine wi_aload_n (i := 0) (x := 236) (nx := 273) (r1 := 0) (r2 := 0) (r3 := 0) rfl rfl ?_
                  refine wr_gi0 (k0 := 236) (x := h33 236 32) (nx := 276) (r1 := 11) (r2 := 32) (r3 := 0) rfl rfl (by decide) rfl ⟨rfl, rfl⟩ rfl (u43 236 32 rfl) ?_
                  refine wi_iload (i := 7) (e := 1) (nx := 278) (r1 := 0) (r2 := 0) (r3 := 0) rfl rfl ?_
                  obtain ⟨i85, ei85⟩ : ∃ q : Nat, (h33 236 32) = (q : Int) := ⟨(h33 236 32).toNat, by omega⟩
                  refine wr_is (k0 := 248) (a := h33 236 32) (f := i85) (x := 1) (bl := 0) (bh := 3) (nx := 279) (r1 := 0) (r2 := 0) (r3 := 0) rfl (by decide) rfl (by omega) (by omega) (by decide) g43 rfl (by omega) (fun h86 g86 w86 u86 => ?_)
                  have F87 := F44.then rfl (FR.rngp (lo := 248) (hi := 248) u86 (by decide))
                  have F88 := F45.then rfl (FR.rngp (lo := 248) (hi := 248) u86 (by decide))
                  refine wi_aload_n (i := 0) (x := 236) (nx := 280) (r1 := 0) (r2 := 0) (r3 := 0) rfl rfl ?_
                  refine wi_dup (nx := 281) (r1 := 0) (r2 := 0) (r3 := 0) rfl rfl ?_
                  refine wr_gi0 (k0 := 236) (x := h33 236 32) (nx := 284) (r1 := 11) (r2 := 32) (r3 := 0) rfl rfl (by decide) rfl ⟨rfl, rfl⟩ rfl ((u86 236 32 (fn_a (by omega) fn_0)).trans (u43 236 32 rfl)) ?_
                  refine wi_iconst (n := 1) (nx := 285) (r1 := 0) (r2 := 0) (r3 := 0) rfl ?_
                  refine wr_add (nx := 286) (r1 := 0) (r2 := 0) (r3 := 0) rfl (fun e89 (fe89 : e89 = (h33 236 32) + 1) => ?_)
                  refine wr_pf0 (k0 := 236) (x := e89) (bl := 0) (bh := 12) (nx := 289) (r1 := 11) (r2 := 32) (r3 := 0) rfl (by decide) rfl ⟨rfl, rfl⟩ rfl rfl g86 rfl (by omega) (fun h90 g90 w90 u90 => ?_)
                  have F91 := F87.then rfl u90
                  have F92 := F88.then rfl u90
                  refine wi_goto (nx := 292) (r1 := 153) (r2 := 0) (r3 := 0) rfl ?_
                  have e93 : h90 236 32 = e89 := w90
                  refine wp.lo (lo := [(0, .ref 236), (1, vi z14), (2, vi (h18 246 i26)), (3, vi e84), (4, vi (h 238 i78)), (5, vi 1)]) ⟨rfl, rfl, rfl, rfl, rfl, rfl, trivial⟩ rfl ?_
                  have q94 : h43 238 = h33 238 := funext (fun i => (u43 238 i (fo_no_ok (by decide) i)))
                  have q95 : h43 246 = h33 246 := funext (fun i => (u43 246 i (fo_no_ok (by decide) i)))
                  have c96 : h43 246 i50 = h18 246 i50 := ((u43 246 i50 (fn_a (by decide) (fn_a (by decide) (fn_a (by decide) (fn_a (by decide) fn_0))))).trans (u33 246 i50 (fo_nk rfl)))
                  have c97 : h33 238 i75 = h 238 i75 := ((u33 238 i75 (fo_nk rfl)).trans ((u18 238 i75 (fo_nk rfl)).trans (u15 238 i75 (fn_a (by omega) fn_0))))
                  have c98 : h33 238 i78 = h 238 i78 := ((u33 238 i78 (fo_nk rfl)).trans ((u18 238 i78 (fo_nk rfl)).trans (u15 238 i78 (fn_a (by omega) fn_0))))
                  have e99 : h33 238 5 = h 238 5 := ((u33 238 5 rfl).trans ((u18 238 5 rfl).trans (u15 238 5 rfl)))
                  have t100 : h43 247 1 = TQ (x30).toNat 1 := y43_0 (x30).toNat (by omega) 1 (by decide)
                  have wk101 := WK.step (R := h33 238) (LS := h33 246) (gi_RB g33) (l := 1) (p := (x30).toNat) (c := x31) (r := x32) (its := h 238 i78) (r2 := 1) (by decide) (by omega) (by omega) (X33_0 (x30).toNat (by omega)) (by rw [← q94, ← q95, ← u_by_T (T := h43 247) (fun l hl => y43_0 (x30).toNat (by omega) l hl) (by decide), ← y69_0, show 60 * (x30).toNat + 10 * (x31).toNat + (x32).toNat = i50 by omega]; omega) (by rw [show 74 + 6 * 1 + (TQ (x30).toNat 1).toNat = i75 by omega, show 31 + (h33 238 i75).toNat = i78 by omega]; omega) (by split <;> omega)
                  have wk101b := wk101.2
                  simp [wt] at wk101b
                  have q102 : h90 238 = h33 238 := funext (fun i => ((u90 238 i rfl).trans ((u86 238 i (fn_a (by omega) fn_0)).trans (u43 238 i (fo_no_ok (by decide) i)))))
                  have q103 : h90 246 = h33 246 := funext (fun i => ((u90 246 i rfl).trans ((u86 246 i (fn_a (by omega) fn_0)).trans (u43 246 i (fo_no_ok (by decide) i)))))
                  exact I33 e84 (h 238 i78) 1 h90 ⟨g90, F91, F92, (show (0 ≤ e84 ∧ e84 ≤ 2400) ∧ (0 ≤ (h 238 i78) ∧ (h 238 i78) ≤ 5) ∧ (0 ≤ 1 ∧ 1 ≤ 9) ∧ (1 ≤ (h18 238 5)) ∧ ((h90 236 32) ≤ z14) by omega), (fun pp e => by
                      obtain rfl : pp = (x30).toNat + wt 1 := by simp [wt]; omega
                      rw [q102, q103, show h90 236 32 = h33 236 32 + 1 by omega]
                      exact wk101.1)⟩ (show (z14 - (h90 236 32)).toNat < (z14 - (h33 236 32)).toNat by omega)
                ·
                  refine wi_iload (i := 5) (e := x32) (nx := 248) (r1 := 0) (r2 := 0) (r3 := 0) rfl rfl ?_
                  refine wi_iconst (n := 1) (nx := 249) (r1 := 0) (r2 := 0) (r3 := 0) rfl ?_
                  refine wr_add (nx := 250) (r1 := 0) (r2 := 0) (r3 := 0) rfl (fun e82 (fe82 : e82 = x32 + 1) => ?_)
                  refine wi_goto (nx := 253) (r1 := 254) (r2 := 0) (r3 := 0) rfl ?_
                  refine wi_istore (i := 5) (e := e82) (lo2 := [(5, vi e82), (8, vi (h 238 i78)), (0, .ref 236), (1, vi z14), (2, vi (h18 246 i26)), (3, vi x30), (4, vi x31), (6, vi (h18 246 i50)), (7, vi 1)]) (nx := 256) (r1 := 0) (r2 := 0) (r3 := 0) rfl rfl ?_
                  refine wi_iload (i := 8) (e := h 238 i78) (nx := 258) (r1 := 0) (r2 := 0) (r3 := 0) rfl rfl ?_
                  refine wi_istore (i := 4) (e := h 238 i78) (lo2 := [(4, vi (h 238 i78)), (5, vi e82), (8, vi (h 238 i78)), (0, .ref 236), (1, vi z14), (2, vi (h18 246 i26)), (3, vi x30), (6, vi (h18 246 i50)), (7, vi 1)]) (nx := 260) (r1 := 0) (r2 := 0) (r3 := 0) rfl rfl ?_
                  refine wi_iload_n (i := 3) (e := x30) (nx := 261) (r1 := 0) (r2 := 0) (r3 := 0) rfl rfl ?_
                  refine wi_iload (i := 7) (e := 1) (nx := 263) (r1 := 0) (r2 := 0) (r3 := 0) rfl rfl ?_
                  refine wi_S (rest := [vi x30]) (as := [vi 1]) (nx := 266) (r1 := 307) (r2 := 17) (r3 := 0) rfl rfl rfl (of_decide_eq_true rfl) rfl rfl (of_decide_eq_true rfl) (of_decide_eq_true rfl) ?_
                  refine wi_iload_n (i := 0) (e := 1) (nx := 1) (r1 := 0) (r2 := 0) (r3 := 0) rfl rfl ?_
                  refine wi_if (cd := .ne) (nx := 4) (r1 := 10) (r2 := 0) (r3 := 0) rfl (by omega) (fun (q83 : 1 ≠ 0) => ?_) (fun (q83 : ¬ (1 ≠ 0)) => by exfalso; omega)
                  refine wi_iload_n (i := 0) (e := 1) (nx := 11) (r1 := 0) (r2 := 0) (r3 := 0) rfl rfl ?_
                  refine wi_iconst (n := 1) (nx := 12) (r1 := 0) (r2 := 0) (r3 := 0) rfl ?_
                  refine wi_icmp (cd := .ne) (nx := 15) (r1 := 20) (r2 := 0) (r3 := 0) rfl (by omega) (by omega) (fun (q84 : 1 ≠ 1) => by exfalso; omega) (fun (q84 : ¬ (1 ≠ 1)) => ?_)
                  refine wi_bipush (n := 49) (nx := 17) (r1 := 0) (r2 := 0) (r3 := 0) rfl (by decide) ?_
                  refine wi_goto (nx := 20) (r1 := 31) (r2 := 0) (r3 := 0) rfl ?_
                  refine wi_ireturn (nx := 32) (r1 := 0) (r2 := 0) (r3 := 0) rfl rfl ?_
                  refine wk_i ?_
                  refine wr_add (nx := 267) (r1 := 0) (r2 := 0) (r3 := 0) rfl (fun e85 (fe85 : e85 = x30 + 49) => ?_)
                  refine wi_istore_n (i := 3) (e := e85) (lo2 := [(3, vi e85), (4, vi (h 238 i78)), (5, vi e82), (8, vi (h 238 i78)), (0, .ref 236), (1, vi z14), (2, vi (h18 246 i26)), (6, vi (h18 246 i50)), (7, vi 1)]) (nx := 268) (r1 := 0) (r2 := 0) (r3 := 0) rfl rfl ?_
                  refine wi_aload_n (i := 0) (x := 236) (nx := 269) (r1 := 0) (r2 := 0) (r3 := 0) rfl rfl ?_
                  refine wr_gr (k0 := 236) (x := 248) (nx := 272) (r1 := 11) (r2 := 31) (r3 := 0) rfl rfl (by decide) rfl ⟨rfl, rfl⟩ rfl ?_
                  refine wi_aload_n (i := 0) (x := 236) (nx := 273) (r1 := 0) (r2 := 0) (r3 := 0) rfl rfl ?_
                  refine wr_gi0 (k0 := 236) (x := h33 236 32) (nx := 276) (r1 := 11) (r2 := 32) (r3 := 0) rfl rfl (by decide) rfl ⟨rfl, rfl⟩ rfl (u43 236 32 rfl) ?_
                  refine wi_iload (i := 7) (e := 1) (nx := 278) (r1 := 0) (r2 := 0) (r3 := 0) rfl rfl ?_
                  obtain ⟨i86, ei86⟩ : ∃ q : Nat, (h33 236 32) = (q : Int) := ⟨(h33 236 32).toNat, by omega⟩
                  refine wr_is (k0 := 248) (a := h33 236 32) (f := i86) (x := 1) (bl := 0) (bh := 3) (nx := 279) (r1 := 0) (r2 := 0) (r3 := 0) rfl (by decide) rfl (by omega) (by omega) (by decide) g43 rfl (by omega) (fun h87 g87 w87 u87 => ?_)
                  have F88 := F44.then rfl (FR.rngp (lo := 248) (hi := 248) u87 (by decide))
                  have F89 := F45.then rfl (FR.rngp (lo := 248) (hi := 248) u87 (by decide))
                  refine wi_aload_n (i := 0) (x := 236) (nx := 280) (r1 := 0) (r2 := 0) (r3 := 0) rfl rfl ?_
                  refine wi_dup (nx := 281) (r1 := 0) (r2 := 0) (r3 := 0) rfl rfl ?_
                  refine wr_gi0 (k0 := 236) (x := h33 236 32) (nx := 284) (r1 := 11) (r2 := 32) (r3 := 0) rfl rfl (by decide) rfl ⟨rfl, rfl⟩ rfl ((u87 236 32 (fn_a (by omega) fn_0)).trans (u43 236 32 rfl)) ?_
                  refine wi_iconst (n := 1) (nx := 285) (r1 := 0) (r2 := 0) (r3 := 0) rfl ?_
                  refine wr_add (nx := 286) (r1 := 0) (r2 := 0) (r3 := 0) rfl (fun e90 (fe90 : e90 = (h33 236 32) + 1) => ?_)
                  refine wr_pf0 (k0 := 236) (x := e90) (bl := 0) (bh := 12) (nx := 289) (r1 := 11) (r2 := 32) (r3 := 0) rfl (by decide) rfl ⟨rfl, rfl⟩ rfl rfl g87 rfl (by omega) (fun h91 g91 w91 u91 => ?_)
                  have F92 := F88.then rfl u91
                  have F93 := F89.then rfl u91
                  refine wi_goto (nx := 292) (r1 := 153) (r2 := 0) (r3 := 0) rfl ?_
                  have e94 : h91 236 32 = e90 := w91
                  refine wp.lo (lo := [(0, .ref 236), (1, vi z14), (2, vi (h18 246 i26)), (3, vi e85), (4, vi (h 238 i78)), (5, vi e82)]) ⟨rfl, rfl, rfl, rfl, rfl, rfl, trivial⟩ rfl ?_
                  have q95 : h43 238 = h33 238 := funext (fun i => (u43 238 i (fo_no_ok (by decide) i)))
                  have q96 : h43 246 = h33 246 := funext (fun i => (u43 246 i (fo_no_ok (by decide) i)))
                  have c97 : h43 246 i50 = h18 246 i50 := ((u43 246 i50 (fn_a (by decide) (fn_a (by decide) (fn_a (by decide) (fn_a (by decide) fn_0))))).trans (u33 246 i50 (fo_nk rfl)))
                  have c98 : h33 238 i75 = h 238 i75 := ((u33 238 i75 (fo_nk rfl)).trans ((u18 238 i75 (fo_nk rfl)).trans (u15 238 i75 (fn_a (by omega) fn_0))))
                  have c99 : h33 238 i78 = h 238 i78 := ((u33 238 i78 (fo_nk rfl)).trans ((u18 238 i78 (fo_nk rfl)).trans (u15 238 i78 (fn_a (by omega) fn_0))))
                  have e100 : h33 238 5 = h 238 5 := ((u33 238 5 rfl).trans ((u18 238 5 rfl).trans (u15 238 5 rfl)))
                  have t101 : h43 247 1 = TQ (x30).toNat 1 := y43_0 (x30).toNat (by omega) 1 (by decide)
                  have wk102 := WK.step (R := h33 238) (LS := h33 246) (gi_RB g33) (l := 1) (p := (x30).toNat) (c := x31) (r := x32) (its := h 238 i78) (r2 := e82) (by decide) (by omega) (by omega) (X33_0 (x30).toNat (by omega)) (by rw [← q95, ← q96, ← u_by_T (T := h43 247) (fun l hl => y43_0 (x30).toNat (by omega) l hl) (by decide), ← y69_0, show 60 * (x30).toNat + 10 * (x31).toNat + (x32).toNat = i50 by omega]; omega) (by rw [show 74 + 6 * 1 + (TQ (x30).toNat 1).toNat = i75 by omega, show 31 + (h33 238 i75).toNat = i78 by omega]; omega) (by split <;> omega)
                  have wk102b := wk102.2
                  simp [wt] at wk102b
                  have q103 : h91 238 = h33 238 := funext (fun i => ((u91 238 i rfl).trans ((u87 238 i (fn_a (by omega) fn_0)).trans (u43 238 i (fo_no_ok (by decide) i)))))
                  have q104 : h91 246 = h33 246 := funext (fun i => ((u91 246 i rfl).trans ((u87 246 i (fn_a (by omega) fn_0)).trans (u43 246 i (fo_no_ok (by decide) i)))))
                  exact I33 e85 (h 238 i78) e82 h91 ⟨g91, F92, F93, (show (0 ≤ e85 ∧ e85 ≤ 2400) ∧ (0 ≤ (h 238 i78) ∧ (h 238 i78) ≤ 5) ∧ (0 ≤ e82 ∧ e82 ≤ 9) ∧ (e82 ≤ (h18 238 5)) ∧ ((h91 236 32) ≤ z14) by omega), (fun pp e => by
                      obtain rfl : pp = (x30).toNat + wt 1 := by simp [wt]; omega
                      rw [q103, q104, show h91 236 32 = h33 236 32 + 1 by omega]
                      exact wk102.1)⟩ (show (z14 - (h91 236 32)).toNat < (z14 - (h33 236 32)).toNat by omega)
            ·
              refine wr_iincL (i := 7) (n := 1) (v := 1) (2) ([(7, vi 2), (0, .ref 236), (1, vi z14), (2, vi (h18 246 i26)), (3, vi x30), (4, vi x31), (5, vi x32), (6, vi (h18 246 i50))]) (nx := 202) (r1 := 0) (r2 := 0) (r3 := 0) rfl rfl (by decide) rfl ?_
              refine wi_goto (nx := 205) (r1 := 184) (r2 := 0) (r3 := 0) rfl ?_
              refine wp.lo (lo := [(0, .ref 236), (1, vi z14), (2, vi (h18 246 i26)), (3, vi x30), (4, vi x31), (5, vi x32), (6, vi (h18 246 i50)), (7, vi 2)]) ⟨rfl, rfl, rfl, rfl, rfl, rfl, rfl, rfl, trivial⟩ rfl ?_
              obtain ⟨la74, haa74, hba74, hca74⟩ := X55_0
              have hda74 : la74 ≠ 1 := fun e => by subst e; omega
              exact I55 2 h43 ⟨rfl, (show (0 ≤ 2 ∧ 2 ≤ 3) by omega), ⟨la74, by omega, hba74, hca74⟩⟩ (show ((3 : Int) + 1 - 2).toNat < ((3 : Int) + 1 - x54).toNat by omega)
          ·
            rw [q68]
            refine wr_V (k0 := 236) (rest := []) (as := [.ref 236, vi 2, vi x31, vi x32]) (nx := 194) (r1 := 305) (r2 := 3) (r3 := 11) rfl rfl rfl (of_decide_eq_true rfl) rfl rfl (by decide) rfl rfl (of_decide_eq_true rfl) (of_decide_eq_true rfl) ?_
            refine ct_305_236_L2 hcr  g43 x31 x32 (by omega) (by omega)  (fun z70  (fz70 : 0 ≤ z70 ∧ z70 ≤ 1099900) (p69_0 : z70 = 1000000 ∨ (h43 247 2) < (h43 238 100)) y69_0 => ?_)
            have b71 := gi_b (lo := 0) (hi := 6) g43 247 2 rfl
            have e72 : h43 238 100 = h 238 100 := ((u43 238 100 rfl).trans ((u33 238 100 rfl).trans ((u18 238 100 rfl).trans (u15 238 100 rfl))))
            refine wk_i ?_
            refine wi_iload (i := 6) (e := h18 246 i50) (nx := 196) (r1 := 0) (r2 := 0) (r3 := 0) rfl rfl ?_
            refine wi_icmp (cd := .eq) (nx := 199) (r1 := 205) (r2 := 0) (r3 := 0) rfl (by omega) (by omega) (fun (q73 : z70 = (h18 246 i50)) => ?_) (fun (q73 : ¬ (z70 = (h18 246 i50))) => ?_)
            ·
              refine wi_aload_n (i := 0) (x := 236) (nx := 206) (r1 := 0) (r2 := 0) (r3 := 0) rfl rfl ?_
              refine wr_gr (k0 := 236) (x := 238) (nx := 209) (r1 := 11) (r2 := 13) (r3 := 0) rfl rfl (by decide) rfl ⟨rfl, rfl⟩ rfl ?_
              refine wi_bipush (n := 31) (nx := 211) (r1 := 0) (r2 := 0) (r3 := 0) rfl (by decide) ?_
              refine wi_aload_n (i := 0) (x := 236) (nx := 212) (r1 := 0) (r2 := 0) (r3 := 0) rfl rfl ?_
              refine wi_iload (i := 7) (e := 2) (nx := 214) (r1 := 0) (r2 := 0) (r3 := 0) rfl rfl ?_
              refine wi_aload_n (i := 0) (x := 236) (nx := 215) (r1 := 0) (r2 := 0) (r3 := 0) rfl rfl ?_
              refine wr_gr (k0 := 236) (x := 247) (nx := 218) (r1 := 11) (r2 := 30) (r3 := 0) rfl rfl (by decide) rfl ⟨rfl, rfl⟩ rfl ?_
              refine wi_iload (i := 7) (e := 2) (nx := 220) (r1 := 0) (r2 := 0) (r3 := 0) rfl rfl ?_
              refine wr_ia (k0 := 247) (a := 2) (f := 2) (x := h43 247 2) (nx := 221) (r1 := 0) (r2 := 0) (r3 := 0) rfl (by decide) rfl (by omega) (by omega) (by decide) rfl ?_
              refine wr_V (k0 := 236) (rest := [vi 31, .ref 238]) (as := [.ref 236, vi 2, vi (h43 247 2)]) (nx := 224) (r1 := 258) (r2 := 2) (r3 := 11) rfl rfl rfl (of_decide_eq_true rfl) rfl rfl (by decide) rfl rfl (of_decide_eq_true rfl) (of_decide_eq_true rfl) ?_
              refine wi_aload_n (i := 0) (x := 236) (nx := 1) (r1 := 0) (r2 := 0) (r3 := 0) rfl rfl ?_
              refine wr_gr (k0 := 236) (x := 238) (nx := 4) (r1 := 11) (r2 := 13) (r3 := 0) rfl rfl (by decide) rfl ⟨rfl, rfl⟩ rfl ?_
              refine wi_bipush (n := 74) (nx := 6) (r1 := 0) (r2 := 0) (r3 := 0) rfl (by decide) ?_
              refine wi_bipush (n := 6) (nx := 8) (r1 := 0) (r2 := 0) (r3 := 0) rfl (by decide) ?_
              refine wi_iload_n (i := 1) (e := 2) (nx := 9) (r1 := 0) (r2 := 0) (r3 := 0) rfl rfl ?_
              refine wr_mulL (12) (nx := 10) (r1 := 0) (r2 := 0) (r3 := 0) rfl (by decide) ?_
              refine wr_addL (86) (nx := 11) (r1 := 0) (r2 := 0) (r3 := 0) rfl (by decide) ?_
              refine wi_iload_n (i := 2) (e := h43 247 2) (nx := 12) (r1 := 0) (r2 := 0) (r3 := 0) rfl rfl ?_
              refine wr_add (nx := 13) (r1 := 0) (r2 := 0) (r3 := 0) rfl (fun e74 (fe74 : e74 = 86 + (h43 247 2)) => ?_)
              obtain ⟨i75, ei75⟩ : ∃ q : Nat, e74 = (q : Int) := ⟨(e74).toNat, by omega⟩
              have b76 := gi_b (lo := 0) (hi := 11) g 238 i75 (gi_rg 86 6 (fun _ => rfl) (by decide +kernel) (by omega))
              refine wr_ia (k0 := 238) (a := e74) (f := i75) (x := h 238 i75) (nx := 14) (r1 := 0) (r2 := 0) (r3 := 0) rfl (by decide) rfl (by omega) (by omega) (by decide) ((u43 238 i75 (fn_a (by decide) (fn_a (by decide) (fn_a (by decide) (fn_a (by decide) fn_0))))).trans ((u33 238 i75 (fo_nk rfl)).trans ((u18 238 i75 (fo_nk rfl)).trans (u15 238 i75 (fn_a (by omega) fn_0))))) ?_
              refine wi_ireturn (nx := 15) (r1 := 0) (r2 := 0) (r3 := 0) rfl rfl ?_
              refine wk_i ?_
              refine wr_add (nx := 225) (r1 := 0) (r2 := 0) (r3 := 0) rfl (fun e77 (fe77 : e77 = 31 + (h 238 i75)) => ?_)
              obtain ⟨i78, ei78⟩ : ∃ q : Nat, e77 = (q : Int) := ⟨(e77).toNat, by omega⟩
              have b79 := gi_b (lo := 0) (hi := 4) g 238 i78 (gi_rg 31 12 (fun _ => rfl) (by decide +kernel) (by omega))
              refine wr_ia (k0 := 238) (a := e77) (f := i78) (x := h 238 i78) (nx := 226) (r1 := 0) (r2 := 0) (r3 := 0) rfl (by decide) rfl (by omega) (by omega) (by decide) ((u43 238 i78 (fn_a (by decide) (fn_a (by decide) (fn_a (by decide) (fn_a (by decide) fn_0))))).trans ((u33 238 i78 (fo_nk rfl)).trans ((u18 238 i78 (fo_nk rfl)).trans (u15 238 i78 (fn_a (by omega) fn_0))))) ?_
              refine wi_istore (i := 8) (e := h 238 i78) (lo2 := [(8, vi (h 238 i78)), (0, .ref 236), (1, vi z14), (2, vi (h18 246 i26)), (3, vi x30), (4, vi x31), (5, vi x32), (6, vi (h18 246 i50)), (7, vi 2)]) (nx := 228) (r1 := 0) (r2 := 0) (r3 := 0) rfl rfl ?_
              refine wi_iload (i := 8) (e := h 238 i78) (nx := 230) (r1 := 0) (r2 := 0) (r3 := 0) rfl rfl ?_
              refine wi_iload (i := 4) (e := x31) (nx := 232) (r1 := 0) (r2 := 0) (r3 := 0) rfl rfl ?_
              refine wi_icmp (cd := .ne) (nx := 235) (r1 := 253) (r2 := 0) (r3 := 0) rfl (by omega) (by omega) (fun (q80 : (h 238 i78) ≠ x31) => ?_) (fun (q80 : ¬ ((h 238 i78) ≠ x31)) => ?_)
              ·
                refine wi_iconst (n := 1) (nx := 254) (r1 := 0) (r2 := 0) (r3 := 0) rfl ?_
                refine wi_istore (i := 5) (e := 1) (lo2 := [(5, vi 1), (8, vi (h 238 i78)), (0, .ref 236), (1, vi z14), (2, vi (h18 246 i26)), (3, vi x30), (4, vi x31), (6, vi (h18 246 i50)), (7, vi 2)]) (nx := 256) (r1 := 0) (r2 := 0) (r3 := 0) rfl rfl ?_
                refine wi_iload (i := 8) (e := h 238 i78) (nx := 258) (r1 := 0) (r2 := 0) (r3 := 0) rfl rfl ?_
                refine wi_istore (i := 4) (e := h 238 i78) (lo2 := [(4, vi (h 238 i78)), (5, vi 1), (8, vi (h 238 i78)), (0, .ref 236), (1, vi z14), (2, vi (h18 246 i26)), (3, vi x30), (6, vi (h18 246 i50)), (7, vi 2)]) (nx := 260) (r1 := 0) (r2 := 0) (r3 := 0) rfl rfl ?_
                refine wi_iload_n (i := 3) (e := x30) (nx := 261) (r1 := 0) (r2 := 0) (r3 := 0) rfl rfl ?_
                refine wi_iload (i := 7) (e := 2) (nx := 263) (r1 := 0) (r2 := 0) (r3 := 0) rfl rfl ?_
                refine wi_S (rest := [vi x30]) (as := [vi 2]) (nx := 266) (r1 := 307) (r2 := 17) (r3 := 0) rfl rfl rfl (of_decide_eq_true rfl) rfl rfl (of_decide_eq_true rfl) (of_decide_eq_true rfl) ?_
                refine wi_iload_n (i := 0) (e := 2) (nx := 1) (r1 := 0) (r2 := 0) (r3 := 0) rfl rfl ?_
                refine wi_if (cd := .ne) (nx := 4) (r1 := 10) (r2 := 0) (r3 := 0) rfl (by omega) (fun (q81 : 2 ≠ 0) => ?_) (fun (q81 : ¬ (2 ≠ 0)) => by exfalso; omega)
                refine wi_iload_n (i := 0) (e := 2) (nx := 11) (r1 := 0) (r2 := 0) (r3 := 0) rfl rfl ?_
                refine wi_iconst (n := 1) (nx := 12) (r1 := 0) (r2 := 0) (r3 := 0) rfl ?_
                refine wi_icmp (cd := .ne) (nx := 15) (r1 := 20) (r2 := 0) (r3 := 0) rfl (by omega) (by omega) (fun (q82 : 2 ≠ 1) => ?_) (fun (q82 : ¬ (2 ≠ 1)) => by exfalso; omega)
                refine wi_iload_n (i := 0) (e := 2) (nx := 21) (r1 := 0) (r2 := 0) (r3 := 0) rfl rfl ?_
                refine wi_iconst (n := 2) (nx := 22) (r1 := 0) (r2 := 0) (r3 := 0) rfl ?_
                refine wi_icmp (cd := .ne) (nx := 25) (r1 := 30) (r2 := 0) (r3 := 0) rfl (by omega) (by omega) (fun (q83 : 2 ≠ 2) => by exfalso; omega) (fun (q83 : ¬ (2 ≠ 2)) => ?_)
                refine wi_bipush (n := 7) (nx := 27) (r1 := 0) (r2 := 0) (r3 := 0) rfl (by decide) ?_
                refine wi_goto (nx := 30) (r1 := 31) (r2 := 0) (r3 := 0) rfl ?_
                refine wi_ireturn (nx := 32) (r1 := 0) (r2 := 0) (r3 := 0) rfl rfl ?_
                refine wk_i ?_
                refine wr_add (nx := 267) (r1 := 0) (r2 := 0) (r3 := 0) rfl (fun e84 (fe84 : e84 = x30 + 7) => ?_)
                refine wi_istore_n (i := 3) (e := e84) (lo2 := [(3, vi e84), (4, vi (h 238 i78)), (5, vi 1), (8, vi (h 238 i78)), (0, .ref 236), (1, vi z14), (2, vi (h18 246 i26)), (6, vi (h18 246 i50)), (7, vi 2)]) (nx := 268) (r1 := 0) (r2 := 0) (r3 := 0) rfl rfl ?_
                refine wi_aload_n (i := 0) (x := 236) (nx := 269) (r1 := 0) (r2 := 0) (r3 := 0) rfl rfl ?_
                refine wr_gr (k0 := 236) (x := 248) (nx := 272) (r1 := 11) (r2 := 31) (r3 := 0) rfl rfl (by decide) rfl ⟨rfl, rfl⟩ rfl ?_
                refine wi_aload_n (i := 0) (x := 236) (nx := 273) (r1 := 0) (r2 := 0) (r3 := 0) rfl rfl ?_
                refine wr_gi0 (k0 := 236) (x := h33 236 32) (nx := 276) (r1 := 11) (r2 := 32) (r3 := 0) rfl rfl (by decide) rfl ⟨rfl, rfl⟩ rfl (u43 236 32 rfl) ?_
                refine wi_iload (i := 7) (e := 2) (nx := 278) (r1 := 0) (r2 := 0) (r3 := 0) rfl rfl ?_
                obtain ⟨i85, ei85⟩ : ∃ q : Nat, (h33 236 32) = (q : Int) := ⟨(h33 236 32).toNat, by omega⟩
                refine wr_is (k0 := 248) (a := h33 236 32) (f := i85) (x := 2) (bl := 0) (bh := 3) (nx := 279) (r1 := 0) (r2 := 0) (r3 := 0) rfl (by decide) rfl (by omega) (by omega) (by decide) g43 rfl (by omega) (fun h86 g86 w86 u86 => ?_)
                have F87 := F44.then rfl (FR.rngp (lo := 248) (hi := 248) u86 (by decide))
                have F88 := F45.then rfl (FR.rngp (lo := 248) (hi := 248) u86 (by decide))
                refine wi_aload_n (i := 0) (x := 236) (nx := 280) (r1 := 0) (r2 := 0) (r3 := 0) rfl rfl ?_
                refine wi_dup (nx := 281) (r1 := 0) (r2 := 0) (r3 := 0) rfl rfl ?_
                refine wr_gi0 (k0 := 236) (x := h33 236 32) (nx := 284) (r1 := 11) (r2 := 32) (r3 := 0) rfl rfl (by decide) rfl ⟨rfl, rfl⟩ rfl ((u86 236 32 (fn_a (by omega) fn_0)).trans (u43 236 32 rfl)) ?_
                refine wi_iconst (n := 1) (nx := 285) (r1 := 0) (r2 := 0) (r3 := 0) rfl ?_
                refine wr_add (nx := 286) (r1 := 0) (r2 := 0) (r3 := 0) rfl (fun e89 (fe89 : e89 = (h33 236 32) + 1) => ?_)
                refine wr_pf0 (k0 := 236) (x := e89) (bl := 0) (bh := 12) (nx := 289) (r1 := 11) (r2 := 32) (r3 := 0) rfl (by decide) rfl ⟨rfl, rfl⟩ rfl rfl g86 rfl (by omega) (fun h90 g90 w90 u90 => ?_)
                have F91 := F87.then rfl u90
                have F92 := F88.then rfl u90
                refine wi_goto (nx := 292) (r1 := 153) (r2 := 0) (r3 := 0) rfl ?_
                have e93 : h90 236 32 = e89 := w90
                refine wp.lo (lo := [(0, .ref 236), (1, vi z14), (2, vi (h18 246 i26)), (3, vi e84), (4, vi (h 238 i78)), (5, vi 1)]) ⟨rfl, rfl, rfl, rfl, rfl, rfl, trivial⟩ rfl ?_
                have q94 : h43 238 = h33 238 := funext (fun i => (u43 238 i (fo_no_ok (by decide) i)))
                have q95 : h43 246 = h33 246 := funext (fun i => (u43 246 i (fo_no_ok (by decide) i)))
                have c96 : h43 246 i50 = h18 246 i50 := ((u43 246 i50 (fn_a (by decide) (fn_a (by decide) (fn_a (by decide) (fn_a (by decide) fn_0))))).trans (u33 246 i50 (fo_nk rfl)))
                have c97 : h33 238 i75 = h 238 i75 := ((u33 238 i75 (fo_nk rfl)).trans ((u18 238 i75 (fo_nk rfl)).trans (u15 238 i75 (fn_a (by omega) fn_0))))
                have c98 : h33 238 i78 = h 238 i78 := ((u33 238 i78 (fo_nk rfl)).trans ((u18 238 i78 (fo_nk rfl)).trans (u15 238 i78 (fn_a (by omega) fn_0))))
                have e99 : h33 238 5 = h 238 5 := ((u33 238 5 rfl).trans ((u18 238 5 rfl).trans (u15 238 5 rfl)))
                have t100 : h43 247 2 = TQ (x30).toNat 2 := y43_0 (x30).toNat (by omega) 2 (by decide)
                have wk101 := WK.step (R := h33 238) (LS := h33 246) (gi_RB g33) (l := 2) (p := (x30).toNat) (c := x31) (r := x32) (its := h 238 i78) (r2 := 1) (by decide) (by omega) (by omega) (X33_0 (x30).toNat (by omega)) (by rw [← q94, ← q95, ← u_by_T (T := h43 247) (fun l hl => y43_0 (x30).toNat (by omega) l hl) (by decide), ← y69_0, show 60 * (x30).toNat + 10 * (x31).toNat + (x32).toNat = i50 by omega]; omega) (by rw [show 74 + 6 * 2 + (TQ (x30).toNat 2).toNat = i75 by omega, show 31 + (h33 238 i75).toNat = i78 by omega]; omega) (by split <;> omega)
                have wk101b := wk101.2
                simp [wt] at wk101b
                have q102 : h90 238 = h33 238 := funext (fun i => ((u90 238 i rfl).trans ((u86 238 i (fn_a (by omega) fn_0)).trans (u43 238 i (fo_no_ok (by decide) i)))))
                have q103 : h90 246 = h33 246 := funext (fun i => ((u90 246 i rfl).trans ((u86 246 i (fn_a (by omega) fn_0)).trans (u43 246 i (fo_no_ok (by decide) i)))))
                exact I33 e84 (h 238 i78) 1 h90 ⟨g90, F91, F92, (show (0 ≤ e84 ∧ e84 ≤ 2400) ∧ (0 ≤ (h 238 i78) ∧ (h 238 i78) ≤ 5) ∧ (0 ≤ 1 ∧ 1 ≤ 9) ∧ (1 ≤ (h18 238 5)) ∧ ((h90 236 32) ≤ z14) by omega), (fun pp e => by
                    obtain rfl : pp = (x30).toNat + wt 2 := by simp [wt]; omega
                    rw [q102, q103, show h90 236 32 = h33 236 32 + 1 by omega]
                    exact wk101.1)⟩ (show (z14 - (h90 236 32)).toNat < (z14 - (h33 236 32)).toNat by omega)
              ·
                refine wi_iload (i := 5) (e := x32) (nx := 237) (r1 := 0) (r2 := 0) (r3 := 0) rfl rfl ?_
                refine wi_aload_n (i := 0) (x := 236) (nx := 238) (r1 := 0) (r2 := 0) (r3 := 0) rfl rfl ?_
                refine wr_gr (k0 := 236) (x := 238) (nx := 241) (r1 := 11) (r2 := 13) (r3 := 0) rfl rfl (by decide) rfl ⟨rfl, rfl⟩ rfl ?_
                refine wi_iconst (n := 5) (nx := 242) (r1 := 0) (r2 := 0) (r3 := 0) rfl ?_
                refine wr_ia (k0 := 238) (a := 5) (f := 5) (x := h 238 5) (nx := 243) (r1 := 0) (r2 := 0) (r3 := 0) rfl (by decide) rfl (by omega) (by omega) (by decide) ((u43 238 5 rfl).trans ((u33 238 5 rfl).trans ((u18 238 5 rfl).trans (u15 238 5 rfl)))) ?_
                refine wi_icmp (cd := .eq) (nx := 246) (r1 := 253) (r2 := 0) (r3 := 0) rfl (by omega) (by omega) (fun (q81 : x32 = (h 238 5)) => ?_) (fun (q81 : ¬ (x32 = (h 238 5))) => ?_)
                ·
                  refine wi_iconst (n := 1) (nx := 254) (r1 := 0) (r2 := 0) (r3 := 0) rfl ?_
                  refine wi_istore (i := 5) (e := 1) (lo2 := [(5, vi 1), (8, vi (h 238 i78)), (0, .ref 236), (1, vi z14), (2, vi (h18 246 i26)), (3, vi x30), (4, vi x31), (6, vi (h18 246 i50)), (7, vi 2)]) (nx := 256) (r1 := 0) (r2 := 0) (r3 := 0) rfl rfl ?_
                  refine wi_iload (i := 8) (e := h 238 i78) (nx := 258) (r1 := 0) (r2 := 0) (r3 := 0) rfl rfl ?_
                  refine wi_istore (i := 4) (e := h 238 i78) (lo2 := [(4, vi (h 238 i78)), (5, vi 1), (8, vi (h 238 i78)), (0, .ref 236), (1, vi z14), (2, vi (h18 246 i26)), (3, vi x30), (6, vi (h18 246 i50)), (7, vi 2)]) (nx := 260) (r1 := 0) (r2 := 0) (r3 := 0) rfl rfl ?_
                  refine wi_iload_n (i := 3) (e := x30) (nx := 261) (r1 := 0) (r2 := 0) (r3 := 0) rfl rfl ?_
                  refine wi_iload (i := 7) (e := 2) (nx := 263) (r1 := 0) (r2 := 0) (r3 := 0) rfl rfl ?_
                  refine wi_S (rest := [vi x30]) (as := [vi 2]) (nx := 266) (r1 := 307) (r2 := 17) (r3 := 0) rfl rfl rfl (of_decide_eq_true rfl) rfl rfl (of_decide_eq_true rfl) (of_decide_eq_true rfl) ?_
                  refine wi_iload_n (i := 0) (e := 2) (nx := 1) (r1 := 0) (r2 := 0) (r3 := 0) rfl rfl ?_
                  refine wi_if (cd := .ne) (nx := 4) (r1 := 10) (r2 := 0) (r3 := 0) rfl (by omega) (fun (q82 : 2 ≠ 0) => ?_) (fun (q82 : ¬ (2 ≠ 0)) => by exfalso; omega)
                  refine wi_iload_n (i := 0) (e := 2) (nx := 11) (r1 := 0) (r2 := 0) (r3 := 0) rfl rfl ?_
                  refine wi_iconst (n := 1) (nx := 12) (r1 := 0) (r2 := 0) (r3 := 0) rfl ?_
                  refine wi_icmp (cd := .ne) (nx := 15) (r1 := 20) (r2 := 0) (r3 := 0) rfl (by omega) (by omega) (fun (q83 : 2 ≠ 1) => ?_) (fun (q83 : ¬ (2 ≠ 1)) => by exfalso; omega)
                  refine wi_iload_n (i := 0) (e := 2) (nx := 21) (r1 := 0) (r2 := 0) (r3 := 0) rfl rfl ?_
                  refine wi_iconst (n := 2) (nx := 22) (r1 := 0) (r2 := 0) (r3 := 0) rfl ?_
                  refine wi_icmp (cd := .ne) (nx := 25) (r1 := 30) (r2 := 0) (r3 := 0) rfl (by omega) (by omega) (fun (q84 : 2 ≠ 2) => by exfalso; omega) (fun (q84 : ¬ (2 ≠ 2)) => ?_)
                  refine wi_bipush (n := 7) (nx := 27) (r1 := 0) (r2 := 0) (r3 := 0) rfl (by decide) ?_
                  refine wi_goto (nx := 30) (r1 := 31) (r2 := 0) (r3 := 0) rfl ?_
                  refine wi_ireturn (nx := 32) (r1 := 0) (r2 := 0) (r3 := 0) rfl rfl ?_
                  refine wk_i ?_
                  refine wr_add (nx := 267) (r1 := 0) (r2 := 0) (r3 := 0) rfl (fun e85 (fe85 : e85 = x30 + 7) => ?_)
                  refine wi_istore_n (i := 3) (e := e85) (lo2 := [(3, vi e85), (4, vi (h 238 i78)), (5, vi 1), (8, vi (h 238 i78)), (0, .ref 236), (1, vi z14), (2, vi (h18 246 i26)), (6, vi (h18 246 i50)), (7, vi 2)]) (nx := 268) (r1 := 0) (r2 := 0) (r3 := 0) rfl rfl ?_
                  refine wi_aload_n (i := 0) (x := 236) (nx := 269) (r1 := 0) (r2 := 0) (r3 := 0) rfl rfl ?_
                  refine wr_gr (k0 := 236) (x := 248) (nx := 272) (r1 := 11) (r2 := 31) (r3 := 0) rfl rfl (by decide) rfl ⟨rfl, rfl⟩ rfl ?_
                  refine wi_aload_n (i := 0) (x := 236) (nx := 273) (r1 := 0) (r2 := 0) (r3 := 0) rfl rfl ?_
                  refine wr_gi0 (k0 := 236) (x := h33 236 32) (nx := 276) (r1 := 11) (r2 := 32) (r3 := 0) rfl rfl (by decide) rfl ⟨rfl, rfl⟩ rfl (u43 236 32 rfl) ?_
                  refine wi_iload (i := 7) (e := 2) (nx := 278) (r1 := 0) (r2 := 0) (r3 := 0) rfl rfl ?_
                  obtain ⟨i86, ei86⟩ : ∃ q : Nat, (h33 236 32) = (q : Int) := ⟨(h33 236 32).toNat, by omega⟩
                  refine wr_is (k0 := 248) (a := h33 236 32) (f := i86) (x := 2) (bl := 0) (bh := 3) (nx := 279) (r1 := 0) (r2 := 0) (r3 := 0) rfl (by decide) rfl (by omega) (by omega) (by decide) g43 rfl (by omega) (fun h87 g87 w87 u87 => ?_)
                  have F88 := F44.then rfl (FR.rngp (lo := 248) (hi := 248) u87 (by decide))
                  have F89 := F45.then rfl (FR.rngp (lo := 248) (hi := 248) u87 (by decide))
                  refine wi_aload_n (i := 0) (x := 236) (nx := 280) (r1 := 0) (r2 := 0) (r3 := 0) rfl rfl ?_
                  refine wi_dup (nx := 281) (r1 := 0) (r2 := 0) (r3 := 0) rfl rfl ?_
                  refine wr_gi0 (k0 := 236) (x := h33 236 32) (nx := 284) (r1 := 11) (r2 := 32) (r3 := 0) rfl rfl (by decide) rfl ⟨rfl, rfl⟩ rfl ((u87 236 32 (fn_a (by omega) fn_0)).trans (u43 236 32 rfl)) ?_
                  refine wi_iconst (n := 1) (nx := 285) (r1 := 0) (r2 := 0) (r3 := 0) rfl ?_
                  refine wr_add (nx := 286) (r1 := 0) (r2 := 0) (r3 := 0) rfl (fun e90 (fe90 : e90 = (h33 236 32) + 1) => ?_)
                  refine wr_pf0 (k0 := 236) (x := e90) (bl := 0) (bh := 12) (nx := 289) (r1 := 11) (r2 := 32) (r3 := 0) rfl (by decide) rfl ⟨rfl, rfl⟩ rfl rfl g87 rfl (by omega) (fun h91 g91 w91 u91 => ?_)
                  have F92 := F88.then rfl u91
                  have F93 := F89.then rfl u91
                  refine wi_goto (nx := 292) (r1 := 153) (r2 := 0) (r3 := 0) rfl ?_
                  have e94 : h91 236 32 = e90 := w91
                  refine wp.lo (lo := [(0, .ref 236), (1, vi z14), (2, vi (h18 246 i26)), (3, vi e85), (4, vi (h 238 i78)), (5, vi 1)]) ⟨rfl, rfl, rfl, rfl, rfl, rfl, trivial⟩ rfl ?_
                  have q95 : h43 238 = h33 238 := funext (fun i => (u43 238 i (fo_no_ok (by decide) i)))
                  have q96 : h43 246 = h33 246 := funext (fun i => (u43 246 i (fo_no_ok (by decide) i)))
                  have c97 : h43 246 i50 = h18 246 i50 := ((u43 246 i50 (fn_a (by decide) (fn_a (by decide) (fn_a (by decide) (fn_a (by decide) fn_0))))).trans (u33 246 i50 (fo_nk rfl)))
                  have c98 : h33 238 i75 = h 238 i75 := ((u33 238 i75 (fo_nk rfl)).trans ((u18 238 i75 (fo_nk rfl)).trans (u15 238 i75 (fn_a (by omega) fn_0))))
                  have c99 : h33 238 i78 = h 238 i78 := ((u33 238 i78 (fo_nk rfl)).trans ((u18 238 i78 (fo_nk rfl)).trans (u15 238 i78 (fn_a (by omega) fn_0))))
                  have e100 : h33 238 5 = h 238 5 := ((u33 238 5 rfl).trans ((u18 238 5 rfl).trans (u15 238 5 rfl)))
                  have t101 : h43 247 2 = TQ (x30).toNat 2 := y43_0 (x30).toNat (by omega) 2 (by decide)
                  have wk102 := WK.step (R := h33 238) (LS := h33 246) (gi_RB g33) (l := 2) (p := (x30).toNat) (c := x31) (r := x32) (its := h 238 i78) (r2 := 1) (by decide) (by omega) (by omega) (X33_0 (x30).toNat (by omega)) (by rw [← q95, ← q96, ← u_by_T (T := h43 247) (fun l hl => y43_0 (x30).toNat (by omega) l hl) (by decide), ← y69_0, show 60 * (x30).toNat + 10 * (x31).toNat + (x32).toNat = i50 by omega]; omega) (by rw [show 74 + 6 * 2 + (TQ (x30).toNat 2).toNat = i75 by omega, show 31 + (h33 238 i75).toNat = i78 by omega]; omega) (by split <;> omega)
                  have wk102b := wk102.2
                  simp [wt] at wk102b
                  have q103 : h91 238 = h33 238 := funext (fun i => ((u91 238 i rfl).trans ((u87 238 i (fn_a (by omega) fn_0)).trans (u43 238 i (fo_no_ok (by decide) i)))))
                  have q104 : h91 246 = h33 246 := funext (fun i => ((u91 246 i rfl).trans ((u87 246 i (fn_a (by omega) fn_0)).trans (u43 246 i (fo_no_ok (by decide) i)))))
                  exact I33 e85 (h 238 i78) 1 h91 ⟨g91, F92, F93, (show (0 ≤ e85 ∧ e85 ≤ 2400) ∧ (0 ≤ (h 238 i78) ∧ (h 238 i78) ≤ 5) ∧ (0 ≤ 1 ∧ 1 ≤ 9) ∧ (1 ≤ (h18 238 5)) ∧ ((h91 236 32) ≤ z14) by omega), (fun pp e => by
                      obtain rfl : pp = (x30).toNat + wt 2 := by simp [wt]; omega
                      rw [q103, q104, show h91 236 32 = h33 236 32 + 1 by omega]
                      exact wk102.1)⟩ (show (z14 - (h91 236 32)).toNat < (z14 - (h33 236 32)).toNat by omega)
                ·
                  refine wi_iload (i := 5) (e := x32) (nx := 248) (r1 := 0) (r2 := 0) (r3 := 0) rfl rfl ?_
                  refine wi_iconst (n := 1) (nx := 249) (r1 := 0) (r2 := 0) (r3 := 0) rfl ?_
                  refine wr_add (nx := 250) (r1 := 0) (r2 := 0) (r3 := 0) rfl (fun e82 (fe82 : e82 = x32 + 1) => ?_)
                  refine wi_goto (nx := 253) (r1 := 254) (r2 := 0) (r3 := 0) rfl ?_
                  refine wi_istore (i := 5) (e := e82) (lo2 := [(5, vi e82), (8, vi (h 238 i78)), (0, .ref 236), (1, vi z14), (2, vi (h18 246 i26)), (3, vi x30), (4, vi x31), (6, vi (h18 246 i50)), (7, vi 2)]) (nx := 256) (r1 := 0) (r2 := 0) (r3 := 0) rfl rfl ?_
                  refine wi_iload (i := 8) (e := h 238 i78) (nx := 258) (r1 := 0) (r2 := 0) (r3 := 0) rfl rfl ?_
                  refine wi_istore (i := 4) (e := h 238 i78) (lo2 := [(4, vi (h 238 i78)), (5, vi e82), (8, vi (h 238 i78)), (0, .ref 236), (1, vi z14), (2, vi (h18 246 i26)), (3, vi x30), (6, vi (h18 246 i50)), (7, vi 2)]) (nx := 260) (r1 := 0) (r2 := 0) (r3 := 0) rfl rfl ?_
                  refine wi_iload_n (i := 3) (e := x30) (nx := 261) (r1 := 0) (r2 := 0) (r3 := 0) rfl rfl ?_
                  refine wi_iload (i := 7) (e := 2) (nx := 263) (r1 := 0) (r2 := 0) (r3 := 0) rfl rfl ?_
                  refine wi_S (rest := [vi x30]) (as := [vi 2]) (nx := 266) (r1 := 307) (r2 := 17) (r3 := 0) rfl rfl rfl (of_decide_eq_true rfl) rfl rfl (of_decide_eq_true rfl) (of_decide_eq_true rfl) ?_
                  refine wi_iload_n (i := 0) (e := 2) (nx := 1) (r1 := 0) (r2 := 0) (r3 := 0) rfl rfl ?_
                  refine wi_if (cd := .ne) (nx := 4) (r1 := 10) (r2 := 0) (r3 := 0) rfl (by omega) (fun (q83 : 2 ≠ 0) => ?_) (fun (q83 : ¬ (2 ≠ 0)) => by exfalso; omega)
                  refine wi_iload_n (i := 0) (e := 2) (nx := 11) (r1 := 0) (r2 := 0) (r3 := 0) rfl rfl ?_
                  refine wi_iconst (n := 1) (nx := 12) (r1 := 0) (r2 := 0) (r3 := 0) rfl ?_
                  refine wi_icmp (cd := .ne) (nx := 15) (r1 := 20) (r2 := 0) (r3 := 0) rfl (by omega) (by omega) (fun (q84 : 2 ≠ 1) => ?_) (fun (q84 : ¬ (2 ≠ 1)) => by exfalso; omega)
                  refine wi_iload_n (i := 0) (e := 2) (nx := 21) (r1 := 0) (r2 := 0) (r3 := 0) rfl rfl ?_
                  refine wi_iconst (n := 2) (nx := 22) (r1 := 0) (r2 := 0) (r3 := 0) rfl ?_
                  refine wi_icmp (cd := .ne) (nx := 25) (r1 := 30) (r2 := 0) (r3 := 0) rfl (by omega) (by omega) (fun (q85 : 2 ≠ 2) => by exfalso; omega) (fun (q85 : ¬ (2 ≠ 2)) => ?_)
                  refine wi_bipush (n := 7) (nx := 27) (r1 := 0) (r2 := 0) (r3 := 0) rfl (by decide) ?_
                  refine wi_goto (nx := 30) (r1 := 31) (r2 := 0) (r3 := 0) rfl ?_
                  refine wi_ireturn (nx := 32) (r1 := 0) (r2 := 0) (r3 := 0) rfl rfl ?_
                  refine wk_i ?_
                  refine wr_add (nx := 267) (r1 := 0) (r2 := 0) (r3 := 0) rfl (fun e86 (fe86 : e86 = x30 + 7) => ?_)
                  refine wi_istore_n (i := 3) (e := e86) (lo2 := [(3, vi e86), (4, vi (h 238 i78)), (5, vi e82), (8, vi (h 238 i78)), (0, .ref 236), (1, vi z14), (2, vi (h18 246 i26)), (6, vi (h18 246 i50)), (7, vi 2)]) (nx := 268) (r1 := 0) (r2 := 0) (r3 := 0) rfl rfl ?_
                  refine wi_aload_n (i := 0) (x := 236) (nx := 269) (r1 := 0) (r2 := 0) (r3 := 0) rfl rfl ?_
                  refine wr_gr (k0 := 236) (x := 248) (nx := 272) (r1 := 11) (r2 := 31) (r3 := 0) rfl rfl (by decide) rfl ⟨rfl, rfl⟩ rfl ?_
                  refine wi_aload_n (i := 0) (x := 236) (nx := 273) (r1 := 0) (r2 := 0) (r3 := 0) rfl rfl ?_
                  refine wr_gi0 (k0 := 236) (x := h33 236 32) (nx := 276) (r1 := 11) (r2 := 32) (r3 := 0) rfl rfl (by decide) rfl ⟨rfl, rfl⟩ rfl (u43 236 32 rfl) ?_
                  refine wi_iload (i := 7) (e := 2) (nx := 278) (r1 := 0) (r2 := 0) (r3 := 0) rfl rfl ?_
                  obtain ⟨i87, ei87⟩ : ∃ q : Nat, (h33 236 32) = (q : Int) := ⟨(h33 236 32).toNat, by omega⟩
                  refine wr_is (k0 := 248) (a := h33 236 32) (f := i87) (x := 2) (bl := 0) (bh := 3) (nx := 279) (r1 := 0) (r2 := 0) (r3 := 0) rfl (by decide) rfl (by omega) (by omega) (by decide) g43 rfl (by omega) (fun h88 g88 w88 u88 => ?_)
                  have F89 := F44.then rfl (FR.rngp (lo := 248) (hi := 248) u88 (by decide))
                  have F90 := F45.then rfl (FR.rngp (lo := 248) (hi := 248) u88 (by decide))
                  refine wi_aload_n (i := 0) (x := 236) (nx := 280) (r1 := 0) (r2 := 0) (r3 := 0) rfl rfl ?_
                  refine wi_dup (nx := 281) (r1 := 0) (r2 := 0) (r3 := 0) rfl rfl ?_
                  refine wr_gi0 (k0 := 236) (x := h33 236 32) (nx := 284) (r1 := 11) (r2 := 32) (r3 := 0) rfl rfl (by decide) rfl ⟨rfl, rfl⟩ rfl ((u88 236 32 (fn_a (by omega) fn_0)).trans (u43 236 32 rfl)) ?_
                  refine wi_iconst (n := 1) (nx := 285) (r1 := 0) (r2 := 0) (r3 := 0) rfl ?_
                  refine wr_add (nx := 286) (r1 := 0) (r2 := 0) (r3 := 0) rfl (fun e91 (fe91 : e91 = (h33 236 32) + 1) => ?_)
                  refine wr_pf0 (k0 := 236) (x := e91) (bl := 0) (bh := 12) (nx := 289) (r1 := 11) (r2 := 32) (r3 := 0) rfl (by decide) rfl ⟨rfl, rfl⟩ rfl rfl g88 rfl (by omega) (fun h92 g92 w92 u92 => ?_)
                  have F93 := F89.then rfl u92
                  have F94 := F90.then rfl u92
                  refine wi_goto (nx := 292) (r1 := 153) (r2 := 0) (r3 := 0) rfl ?_
                  have e95 : h92 236 32 = e91 := w92
                  refine wp.lo (lo := [(0, .ref 236), (1, vi z14), (2, vi (h18 246 i26)), (3, vi e86), (4, vi (h 238 i78)), (5, vi e82)]) ⟨rfl, rfl, rfl, rfl, rfl, rfl, trivial⟩ rfl ?_
                  have q96 : h43 238 = h33 238 := funext (fun i => (u43 238 i (fo_no_ok (by decide) i)))
                  have q97 : h43 246 = h33 246 := funext (fun i => (u43 246 i (fo_no_ok (by decide) i)))
                  have c98 : h43 246 i50 = h18 246 i50 := ((u43 246 i50 (fn_a (by decide) (fn_a (by decide) (fn_a (by decide) (fn_a (by decide) fn_0))))).trans (u33 246 i50 (fo_nk rfl)))
                  have c99 : h33 238 i75 = h 238 i75 := ((u33 238 i75 (fo_nk rfl)).trans ((u18 238 i75 (fo_nk rfl)).trans (u15 238 i75 (fn_a (by omega) fn_0))))
                  have c100 : h33 238 i78 = h 238 i78 := ((u33 238 i78 (fo_nk rfl)).trans ((u18 238 i78 (fo_nk rfl)).trans (u15 238 i78 (fn_a (by omega) fn_0))))
                  have e101 : h33 238 5 = h 238 5 := ((u33 238 5 rfl).trans ((u18 238 5 rfl).trans (u15 238 5 rfl)))
                  have t102 : h43 247 2 = TQ (x30).toNat 2 := y43_0 (x30).toNat (by omega) 2 (by decide)
                  have wk103 := WK.step (R := h33 238) (LS := h33 246) (gi_RB g33) (l := 2) (p := (x30).toNat) (c := x31) (r := x32) (its := h 238 i78) (r2 := e82) (by decide) (by omega) (by omega) (X33_0 (x30).toNat (by omega)) (by rw [← q96, ← q97, ← u_by_T (T := h43 247) (fun l hl => y43_0 (x30).toNat (by omega) l hl) (by decide), ← y69_0, show 60 * (x30).toNat + 10 * (x31).toNat + (x32).toNat = i50 by omega]; omega) (by rw [show 74 + 6 * 2 + (TQ (x30).toNat 2).toNat = i75 by omega, show 31 + (h33 238 i75).toNat = i78 by omega]; omega) (by split <;> omega)
                  have wk103b := wk103.2
                  simp [wt] at wk103b
                  have q104 : h92 238 = h33 238 := funext (fun i => ((u92 238 i rfl).trans ((u88 238 i (fn_a (by omega) fn_0)).trans (u43 238 i (fo_no_ok (by decide) i)))))
                  have q105 : h92 246 = h33 246 := funext (fun i => ((u92 246 i rfl).trans ((u88 246 i (fn_a (by omega) fn_0)).trans (u43 246 i (fo_no_ok (by decide) i)))))
                  exact I33 e86 (h 238 i78) e82 h92 ⟨g92, F93, F94, (show (0 ≤ e86 ∧ e86 ≤ 2400) ∧ (0 ≤ (h 238 i78) ∧ (h 238 i78) ≤ 5) ∧ (0 ≤ e82 ∧ e82 ≤ 9) ∧ (e82 ≤ (h18 238 5)) ∧ ((h92 236 32) ≤ z14) by omega), (fun pp e => by
                      obtain rfl : pp = (x30).toNat + wt 2 := by simp [wt]; omega
                      rw [q104, q105, show h92 236 32 = h33 236 32 + 1 by omega]
                      exact wk103.1)⟩ (show (z14 - (h92 236 32)).toNat < (z14 - (h33 236 32)).toNat by omega)
            ·
              refine wr_iincL (i := 7) (n := 1) (v := 2) (3) ([(7, vi 3), (0, .ref 236), (1, vi z14), (2, vi (h18 246 i26)), (3, vi x30), (4, vi x31), (5, vi x32), (6, vi (h18 246 i50))]) (nx := 202) (r1 := 0) (r2 := 0) (r3 := 0) rfl rfl (by decide) rfl ?_
              refine wi_goto (nx := 205) (r1 := 184) (r2 := 0) (r3 := 0) rfl ?_
              refine wp.lo (lo := [(0, .ref 236), (1, vi z14), (2, vi (h18 246 i26)), (3, vi x30), (4, vi x31), (5, vi x32), (6, vi (h18 246 i50)), (7, vi 3)]) ⟨rfl, rfl, rfl, rfl, rfl, rfl, rfl, rfl, trivial⟩ rfl ?_
              obtain ⟨la74, haa74, hba74, hca74⟩ := X55_0
              have hda74 : la74 ≠ 2 := fun e => by subst e; omega
              exact I55 3 h43 ⟨rfl, (show (0 ≤ 3 ∧ 3 ≤ 3) by omega), ⟨la74, by omega, hba74, hca74⟩⟩ (show ((3 : Int) + 1 - 3).toNat < ((3 : Int) + 1 - x54).toNat by omega)
          ·
            rw [q68]
            refine wr_V (k0 := 236) (rest := []) (as := [.ref 236, vi 3, vi x31, vi x32]) (nx := 194) (r1 := 305) (r2 := 3) (r3 := 11) rfl rfl rfl (of_decide_eq_true rfl) rfl rfl (by decide) rfl rfl (of_decide_eq_true rfl) (of_decide_eq_true rfl) ?_
            refine ct_305_236_L3 hcr  g43 x31 x32 (by omega) (by omega)  (fun z70  (fz70 : 0 ≤ z70 ∧ z70 ≤ 1099900) (p69_0 : z70 = 1000000 ∨ (h43 247 3) < (h43 238 101)) y69_0 => ?_)
            have b71 := gi_b (lo := 0) (hi := 6) g43 247 3 rfl
            have e72 : h43 238 101 = h 238 101 := ((u43 238 101 rfl).trans ((u33 238 101 rfl).trans ((u18 238 101 rfl).trans (u15 238 101 rfl))))
            refine wk_i ?_
            refine wi_iload (i := 6) (e := h18 246 i50) (nx := 196) (r1 := 0) (r2 := 0) (r3 := 0) rfl rfl ?_
            refine wi_icmp (cd := .eq) (nx := 199) (r1 := 205) (r2 := 0) (r3 := 0) rfl (by omega) (by omega) (fun (q73 : z70 = (h18 246 i50)) => ?_) (fun (q73 : ¬ (z70 = (h18 246 i50))) => ?_)
            ·
              refine wi_aload_n (i := 0) (x := 236) (nx := 206) (r1 := 0) (r2 := 0) (r3 := 0) rfl rfl ?_
              refine wr_gr (k0 := 236) (x := 238) (nx := 209) (r1 := 11) (r2 := 13) (r3 := 0) rfl rfl (by decide) rfl ⟨rfl, rfl⟩ rfl ?_
              refine wi_bipush (n := 31) (nx := 211) (r1 := 0) (r2 := 0) (r3 := 0) rfl (by decide) ?_
              refine wi_aload_n (i := 0) (x := 236) (nx := 212) (r1 := 0) (r2 := 0) (r3 := 0) rfl rfl ?_
              refine wi_iload (i := 7) (e := 3) (nx := 214) (r1 := 0) (r2 := 0) (r3 := 0) rfl rfl ?_
              refine wi_aload_n (i := 0) (x := 236) (nx := 215) (r1 := 0) (r2 := 0) (r3 := 0) rfl rfl ?_
              refine wr_gr (k0 := 236) (x := 247) (nx := 218) (r1 := 11) (r2 := 30) (r3 := 0) rfl rfl (by decide) rfl ⟨rfl, rfl⟩ rfl ?_
              refine wi_iload (i := 7) (e := 3) (nx := 220) (r1 := 0) (r2 := 0) (r3 := 0) rfl rfl ?_
              refine wr_ia (k0 := 247) (a := 3) (f := 3) (x := h43 247 3) (nx := 221) (r1 := 0) (r2 := 0) (r3 := 0) rfl (by decide) rfl (by omega) (by omega) (by decide) rfl ?_
              refine wr_V (k0 := 236) (rest := [vi 31, .ref 238]) (as := [.ref 236, vi 3, vi (h43 247 3)]) (nx := 224) (r1 := 258) (r2 := 2) (r3 := 11) rfl rfl rfl (of_decide_eq_true rfl) rfl rfl (by decide) rfl rfl (of_decide_eq_true rfl) (of_decide_eq_true rfl) ?_
              refine wi_aload_n (i := 0) (x := 236) (nx := 1) (r1 := 0) (r2 := 0) (r3 := 0) rfl rfl ?_
              refine wr_gr (k0 := 236) (x := 238) (nx := 4) (r1 := 11) (r2 := 13) (r3 := 0) rfl rfl (by decide) rfl ⟨rfl, rfl⟩ rfl ?_
              refine wi_bipush (n := 74) (nx := 6) (r1 := 0) (r2 := 0) (r3 := 0) rfl (by decide) ?_
              refine wi_bipush (n := 6) (nx := 8) (r1 := 0) (r2 := 0) (r3 := 0) rfl (by decide) ?_
              refine wi_iload_n (i := 1) (e := 3) (nx := 9) (r1 := 0) (r2 := 0) (r3 := 0) rfl rfl ?_
              refine wr_mulL (18) (nx := 10) (r1 := 0) (r2 := 0) (r3 := 0) rfl (by decide) ?_
              refine wr_addL (92) (nx := 11) (r1 := 0) (r2 := 0) (r3 := 0) rfl (by decide) ?_
              refine wi_iload_n (i := 2) (e := h43 247 3) (nx := 12) (r1 := 0) (r2 := 0) (r3 := 0) rfl rfl ?_
              refine wr_add (nx := 13) (r1 := 0) (r2 := 0) (r3 := 0) rfl (fun e74 (fe74 : e74 = 92 + (h43 247 3)) => ?_)
              obtain ⟨i75, ei75⟩ : ∃ q : Nat, e74 = (q : Int) := ⟨(e74).toNat, by omega⟩
              have b76 := gi_b (lo := 0) (hi := 11) g 238 i75 (gi_rg 92 6 (fun _ => rfl) (by decide +kernel) (by omega))
              refine wr_ia (k0 := 238) (a := e74) (f := i75) (x := h 238 i75) (nx := 14) (r1 := 0) (r2 := 0) (r3 := 0) rfl (by decide) rfl (by omega) (by omega) (by decide) ((u43 238 i75 (fn_a (by decide) (fn_a (by decide) (fn_a (by decide) (fn_a (by decide) fn_0))))).trans ((u33 238 i75 (fo_nk rfl)).trans ((u18 238 i75 (fo_nk rfl)).trans (u15 238 i75 (fn_a (by omega) fn_0))))) ?_
              refine wi_ireturn (nx := 15) (r1 := 0) (r2 := 0) (r3 := 0) rfl rfl ?_
              refine wk_i ?_
              refine wr_add (nx := 225) (r1 := 0) (r2 := 0) (r3 := 0) rfl (fun e77 (fe77 : e77 = 31 + (h 238 i75)) => ?_)
              obtain ⟨i78, ei78⟩ : ∃ q : Nat, e77 = (q : Int) := ⟨(e77).toNat, by omega⟩
              have b79 := gi_b (lo := 0) (hi := 4) g 238 i78 (gi_rg 31 12 (fun _ => rfl) (by decide +kernel) (by omega))
              refine wr_ia (k0 := 238) (a := e77) (f := i78) (x := h 238 i78) (nx := 226) (r1 := 0) (r2 := 0) (r3 := 0) rfl (by decide) rfl (by omega) (by omega) (by decide) ((u43 238 i78 (fn_a (by decide) (fn_a (by decide) (fn_a (by decide) (fn_a (by decide) fn_0))))).trans ((u33 238 i78 (fo_nk rfl)).trans ((u18 238 i78 (fo_nk rfl)).trans (u15 238 i78 (fn_a (by omega) fn_0))))) ?_
              refine wi_istore (i := 8) (e := h 238 i78) (lo2 := [(8, vi (h 238 i78)), (0, .ref 236), (1, vi z14), (2, vi (h18 246 i26)), (3, vi x30), (4, vi x31), (5, vi x32), (6, vi (h18 246 i50)), (7, vi 3)]) (nx := 228) (r1 := 0) (r2 := 0) (r3 := 0) rfl rfl ?_
              refine wi_iload (i := 8) (e := h 238 i78) (nx := 230) (r1 := 0) (r2 := 0) (r3 := 0) rfl rfl ?_
              refine wi_iload (i := 4) (e := x31) (nx := 232) (r1 := 0) (r2 := 0) (r3 := 0) rfl rfl ?_
              refine wi_icmp (cd := .ne) (nx := 235) (r1 := 253) (r2 := 0) (r3 := 0) rfl (by omega) (by omega) (fun (q80 : (h 238 i78) ≠ x31) => ?_) (fun (q80 : ¬ ((h 238 i78) ≠ x31)) => ?_)
              ·
                refine wi_iconst (n := 1) (nx := 254) (r1 := 0) (r2 := 0) (r3 := 0) rfl ?_
                refine wi_istore (i := 5) (e := 1) (lo2 := [(5, vi 1), (8, vi (h 238 i78)), (0, .ref 236), (1, vi z14), (2, vi (h18 246 i26)), (3, vi x30), (4, vi x31), (6, vi (h18 246 i50)), (7, vi 3)]) (nx := 256) (r1 := 0) (r2 := 0) (r3 := 0) rfl rfl ?_
                refine wi_iload (i := 8) (e := h 238 i78) (nx := 258) (r1 := 0) (r2 := 0) (r3 := 0) rfl rfl ?_
                refine wi_istore (i := 4) (e := h 238 i78) (lo2 := [(4, vi (h 238 i78)), (5, vi 1), (8, vi (h 238 i78)), (0, .ref 236), (1, vi z14), (2, vi (h18 246 i26)), (3, vi x30), (6, vi (h18 246 i50)), (7, vi 3)]) (nx := 260) (r1 := 0) (r2 := 0) (r3 := 0) rfl rfl ?_
                refine wi_iload_n (i := 3) (e := x30) (nx := 261) (r1 := 0) (r2 := 0) (r3 := 0) rfl rfl ?_
                refine wi_iload (i := 7) (e := 3) (nx := 263) (r1 := 0) (r2 := 0) (r3 := 0) rfl rfl ?_
                refine wi_S (rest := [vi x30]) (as := [vi 3]) (nx := 266) (r1 := 307) (r2 := 17) (r3 := 0) rfl rfl rfl (of_decide_eq_true rfl) rfl rfl (of_decide_eq_true rfl) (of_decide_eq_true rfl) ?_
                refine wi_iload_n (i := 0) (e := 3) (nx := 1) (r1 := 0) (r2 := 0) (r3 := 0) rfl rfl ?_
                refine wi_if (cd := .ne) (nx := 4) (r1 := 10) (r2 := 0) (r3 := 0) rfl (by omega) (fun (q81 : 3 ≠ 0) => ?_) (fun (q81 : ¬ (3 ≠ 0)) => by exfalso; omega)
                refine wi_iload_n (i := 0) (e := 3) (nx := 11) (r1 := 0) (r2 := 0) (r3 := 0) rfl rfl ?_
                refine wi_iconst (n := 1) (nx := 12) (r1 := 0) (r2 := 0) (r3 := 0) rfl ?_
                refine wi_icmp (cd := .ne) (nx := 15) (r1 := 20) (r2 := 0) (r3 := 0) rfl (by omega) (by omega) (fun (q82 : 3 ≠ 1) => ?_) (fun (q82 : ¬ (3 ≠ 1)) => by exfalso; omega)
                refine wi_iload_n (i := 0) (e := 3) (nx := 21) (r1 := 0) (r2 := 0) (r3 := 0) rfl rfl ?_
                refine wi_iconst (n := 2) (nx := 22) (r1 := 0) (r2 := 0) (r3 := 0) rfl ?_
                refine wi_icmp (cd := .ne) (nx := 25) (r1 := 30) (r2 := 0) (r3 := 0) rfl (by omega) (by omega) (fun (q83 : 3 ≠ 2) => ?_) (fun (q83 : ¬ (3 ≠ 2)) => by exfalso; omega)
                refine wi_iconst (n := 1) (nx := 31) (r1 := 0) (r2 := 0) (r3 := 0) rfl ?_
                refine wi_ireturn (nx := 32) (r1 := 0) (r2 := 0) (r3 := 0) rfl rfl ?_
                refine wk_i ?_
                refine wr_add (nx := 267) (r1 := 0) (r2 := 0) (r3 := 0) rfl (fun e84 (fe84 : e84 = x30 + 1) => ?_)
                refine wi_istore_n (i := 3) (e := e84) (lo2 := [(3, vi e84), (4, vi (h 238 i78)), (5, vi 1), (8, vi (h 238 i78)), (0, .ref 236), (1, vi z14), (2, vi (h18 246 i26)), (6, vi (h18 246 i50)), (7, vi 3)]) (nx := 268) (r1 := 0) (r2 := 0) (r3 := 0) rfl rfl ?_
                refine wi_aload_n (i := 0) (x := 236) (nx := 269) (r1 := 0) (r2 := 0) (r3 := 0) rfl rfl ?_
                refine wr_gr (k0 := 236) (x := 248) (nx := 272) (r1 := 11) (r2 := 31) (r3 := 0) rfl rfl (by decide) rfl ⟨rfl, rfl⟩ rfl ?_
                refine wi_aload_n (i := 0) (x := 236) (nx := 273) (r1 := 0) (r2 := 0) (r3 := 0) rfl rfl ?_
                refine wr_gi0 (k0 := 236) (x := h33 236 32) (nx := 276) (r1 := 11) (r2 := 32) (r3 := 0) rfl rfl (by decide) rfl ⟨rfl, rfl⟩ rfl (u43 236 32 rfl) ?_
                refine wi_iload (i := 7) (e := 3) (nx := 278) (r1 := 0) (r2 := 0) (r3 := 0) rfl rfl ?_
                obtain ⟨i85, ei85⟩ : ∃ q : Nat, (h33 236 32) = (q : Int) := ⟨(h33 236 32).toNat, by omega⟩
                refine wr_is (k0 := 248) (a := h33 236 32) (f := i85) (x := 3) (bl := 0) (bh := 3) (nx := 279) (r1 := 0) (r2 := 0) (r3 := 0) rfl (by decide) rfl (by omega) (by omega) (by decide) g43 rfl (by omega) (fun h86 g86 w86 u86 => ?_)
                have F87 := F44.then rfl (FR.rngp (lo := 248) (hi := 248) u86 (by decide))
                have F88 := F45.then rfl (FR.rngp (lo := 248) (hi := 248) u86 (by decide))
                refine wi_aload_n (i := 0) (x := 236) (nx := 280) (r1 := 0) (r2 := 0) (r3 := 0) rfl rfl ?_
                refine wi_dup (nx := 281) (r1 := 0) (r2 := 0) (r3 := 0) rfl rfl ?_
                refine wr_gi0 (k0 := 236) (x := h33 236 32) (nx := 284) (r1 := 11) (r2 := 32) (r3 := 0) rfl rfl (by decide) rfl ⟨rfl, rfl⟩ rfl ((u86 236 32 (fn_a (by omega) fn_0)).trans (u43 236 32 rfl)) ?_
                refine wi_iconst (n := 1) (nx := 285) (r1 := 0) (r2 := 0) (r3 := 0) rfl ?_
                refine wr_add (nx := 286) (r1 := 0) (r2 := 0) (r3 := 0) rfl (fun e89 (fe89 : e89 = (h33 236 32) + 1) => ?_)
                refine wr_pf0 (k0 := 236) (x := e89) (bl := 0) (bh := 12) (nx := 289) (r1 := 11) (r2 := 32) (r3 := 0) rfl (by decide) rfl ⟨rfl, rfl⟩ rfl rfl g86 rfl (by omega) (fun h90 g90 w90 u90 => ?_)
                have F91 := F87.then rfl u90
                have F92 := F88.then rfl u90
                refine wi_goto (nx := 292) (r1 := 153) (r2 := 0) (r3 := 0) rfl ?_
                have e93 : h90 236 32 = e89 := w90
                refine wp.lo (lo := [(0, .ref 236), (1, vi z14), (2, vi (h18 246 i26)), (3, vi e84), (4, vi (h 238 i78)), (5, vi 1)]) ⟨rfl, rfl, rfl, rfl, rfl, rfl, trivial⟩ rfl ?_
                have q94 : h43 238 = h33 238 := funext (fun i => (u43 238 i (fo_no_ok (by decide) i)))
                have q95 : h43 246 = h33 246 := funext (fun i => (u43 246 i (fo_no_ok (by decide) i)))
                have c96 : h43 246 i50 = h18 246 i50 := ((u43 246 i50 (fn_a (by decide) (fn_a (by decide) (fn_a (by decide) (fn_a (by decide) fn_0))))).trans (u33 246 i50 (fo_nk rfl)))
                have c97 : h33 238 i75 = h 238 i75 := ((u33 238 i75 (fo_nk rfl)).trans ((u18 238 i75 (fo_nk rfl)).trans (u15 238 i75 (fn_a (by omega) fn_0))))
                have c98 : h33 238 i78 = h 238 i78 := ((u33 238 i78 (fo_nk rfl)).trans ((u18 238 i78 (fo_nk rfl)).trans (u15 238 i78 (fn_a (by omega) fn_0))))
                have e99 : h33 238 5 = h 238 5 := ((u33 238 5 rfl).trans ((u18 238 5 rfl).trans (u15 238 5 rfl)))
                have t100 : h43 247 3 = TQ (x30).toNat 3 := y43_0 (x30).toNat (by omega) 3 (by decide)
                have wk101 := WK.step (R := h33 238) (LS := h33 246) (gi_RB g33) (l := 3) (p := (x30).toNat) (c := x31) (r := x32) (its := h 238 i78) (r2 := 1) (by decide) (by omega) (by omega) (X33_0 (x30).toNat (by omega)) (by rw [← q94, ← q95, ← u_by_T (T := h43 247) (fun l hl => y43_0 (x30).toNat (by omega) l hl) (by decide), ← y69_0, show 60 * (x30).toNat + 10 * (x31).toNat + (x32).toNat = i50 by omega]; omega) (by rw [show 74 + 6 * 3 + (TQ (x30).toNat 3).toNat = i75 by omega, show 31 + (h33 238 i75).toNat = i78 by omega]; omega) (by split <;> omega)
                have wk101b := wk101.2
                simp [wt] at wk101b
                have q102 : h90 238 = h33 238 := funext (fun i => ((u90 238 i rfl).trans ((u86 238 i (fn_a (by omega) fn_0)).trans (u43 238 i (fo_no_ok (by decide) i)))))
                have q103 : h90 246 = h33 246 := funext (fun i => ((u90 246 i rfl).trans ((u86 246 i (fn_a (by omega) fn_0)).trans (u43 246 i (fo_no_ok (by decide) i)))))
                exact I33 e84 (h 238 i78) 1 h90 ⟨g90, F91, F92, (show (0 ≤ e84 ∧ e84 ≤ 2400) ∧ (0 ≤ (h 238 i78) ∧ (h 238 i78) ≤ 5) ∧ (0 ≤ 1 ∧ 1 ≤ 9) ∧ (1 ≤ (h18 238 5)) ∧ ((h90 236 32) ≤ z14) by omega), (fun pp e => by
                    obtain rfl : pp = (x30).toNat + wt 3 := by simp [wt]; omega
                    rw [q102, q103, show h90 236 32 = h33 236 32 + 1 by omega]
                    exact wk101.1)⟩ (show (z14 - (h90 236 32)).toNat < (z14 - (h33 236 32)).toNat by omega)
              ·
                refine wi_iload (i := 5) (e := x32) (nx := 237) (r1 := 0) (r2 := 0) (r3 := 0) rfl rfl ?_
                refine wi_aload_n (i := 0) (x := 236) (nx := 238) (r1 := 0) (r2 := 0) (r3 := 0) rfl rfl ?_
                refine wr_gr (k0 := 236) (x := 238) (nx := 241) (r1 := 11) (r2 := 13) (r3 := 0) rfl rfl (by decide) rfl ⟨rfl, rfl⟩ rfl ?_
                refine wi_iconst (n := 5) (nx := 242) (r1 := 0) (r2 := 0) (r3 := 0) rfl ?_
                refine wr_ia (k0 := 238) (a := 5) (f := 5) (x := h 238 5) (nx := 243) (r1 := 0) (r2 := 0) (r3 := 0) rfl (by decide) rfl (by omega) (by omega) (by decide) ((u43 238 5 rfl).trans ((u33 238 5 rfl).trans ((u18 238 5 rfl).trans (u15 238 5 rfl)))) ?_
                refine wi_icmp (cd := .eq) (nx := 246) (r1 := 253) (r2 := 0) (r3 := 0) rfl (by omega) (by omega) (fun (q81 : x32 = (h 238 5)) => ?_) (fun (q81 : ¬ (x32 = (h 238 5))) => ?_)
                ·
                  refine wi_iconst (n := 1) (nx := 254) (r1 := 0) (r2 := 0) (r3 := 0) rfl ?_
                  refine wi_istore (i := 5) (e := 1) (lo2 := [(5, vi 1), (8, vi (h 238 i78)), (0, .ref 236), (1, vi z14), (2, vi (h18 246 i26)), (3, vi x30), (4, vi x31), (6, vi (h18 246 i50)), (7, vi 3)]) (nx := 256) (r1 := 0) (r2 := 0) (r3 := 0) rfl rfl ?_
                  refine wi_iload (i := 8) (e := h 238 i78) (nx := 258) (r1 := 0) (r2 := 0) (r3 := 0) rfl rfl ?_
                  refine wi_istore (i := 4) (e := h 238 i78) (lo2 := [(4, vi (h 238 i78)), (5, vi 1), (8, vi (h 238 i78)), (0, .ref 236), (1, vi z14), (2, vi (h18 246 i26)), (3, vi x30), (6, vi (h18 246 i50)), (7, vi 3)]) (nx := 260) (r1 := 0) (r2 := 0) (r3 := 0) rfl rfl ?_
                  refine wi_iload_n (i := 3) (e := x30) (nx := 261) (r1 := 0) (r2 := 0) (r3 := 0) rfl rfl ?_
                  refine wi_iload (i := 7) (e := 3) (nx := 263) (r1 := 0) (r2 := 0) (r3 := 0) rfl rfl ?_
                  refine wi_S (rest := [vi x30]) (as := [vi 3]) (nx := 266) (r1 := 307) (r2 := 17) (r3 := 0) rfl rfl rfl (of_decide_eq_true rfl) rfl rfl (of_decide_eq_true rfl) (of_decide_eq_true rfl) ?_
                  refine wi_iload_n (i := 0) (e := 3) (nx := 1) (r1 := 0) (r2 := 0) (r3 := 0) rfl rfl ?_
                  refine wi_if (cd := .ne) (nx := 4) (r1 := 10) (r2 := 0) (r3 := 0) rfl (by omega) (fun (q82 : 3 ≠ 0) => ?_) (fun (q82 : ¬ (3 ≠ 0)) => by exfalso; omega)
                  refine wi_iload_n (i := 0) (e := 3) (nx := 11) (r1 := 0) (r2 := 0) (r3 := 0) rfl rfl ?_
                  refine wi_iconst (n := 1) (nx := 12) (r1 := 0) (r2 := 0) (r3 := 0) rfl ?_
                  refine wi_icmp (cd := .ne) (nx := 15) (r1 := 20) (r2 := 0) (r3 := 0) rfl (by omega) (by omega) (fun (q83 : 3 ≠ 1) => ?_) (fun (q83 : ¬ (3 ≠ 1)) => by exfalso; omega)
                  refine wi_iload_n (i := 0) (e := 3) (nx := 21) (r1 := 0) (r2 := 0) (r3 := 0) rfl rfl ?_
                  refine wi_iconst (n := 2) (nx := 22) (r1 := 0) (r2 := 0) (r3 := 0) rfl ?_
                  refine wi_icmp (cd := .ne) (nx := 25) (r1 := 30) (r2 := 0) (r3 := 0) rfl (by omega) (by omega) (fun (q84 : 3 ≠ 2) => ?_) (fun (q84 : ¬ (3 ≠ 2)) => by exfalso; omega)
                  refine wi_iconst (n := 1) (nx := 31) (r1 := 0) (r2 := 0) (r3 := 0) rfl ?_
                  refine wi_ireturn (nx := 32) (r1 := 0) (r2 := 0) (r3 := 0) rfl rfl ?_
                  refine wk_i ?_
                  refine wr_add (nx := 267) (r1 := 0) (r2 := 0) (r3 := 0) rfl (fun e85 (fe85 : e85 = x30 + 1) => ?_)
                  refine wi_istore_n (i := 3) (e := e85) (lo2 := [(3, vi e85), (4, vi (h 238 i78)), (5, vi 1), (8, vi (h 238 i78)), (0, .ref 236), (1, vi z14), (2, vi (h18 246 i26)), (6, vi (h18 246 i50)), (7, vi 3)]) (nx := 268) (r1 := 0) (r2 := 0) (r3 := 0) rfl rfl ?_
                  refine wi_aload_n (i := 0) (x := 236) (nx := 269) (r1 := 0) (r2 := 0) (r3 := 0) rfl rfl ?_
                  refine wr_gr (k0 := 236) (x := 248) (nx := 272) (r1 := 11) (r2 := 31) (r3 := 0) rfl rfl (by decide) rfl ⟨rfl, rfl⟩ rfl ?_
                  refine wi_aload_n (i := 0) (x := 236) (nx := 273) (r1 := 0) (r2 := 0) (r3 := 0) rfl rfl ?_
                  refine wr_gi0 (k0 := 236) (x := h33 236 32) (nx := 276) (r1 := 11) (r2 := 32) (r3 := 0) rfl rfl (by decide) rfl ⟨rfl, rfl⟩ rfl (u43 236 32 rfl) ?_
                  refine wi_iload (i := 7) (e := 3) (nx := 278) (r1 := 0) (r2 := 0) (r3 := 0) rfl rfl ?_
                  obtain ⟨i86, ei86⟩ : ∃ q : Nat, (h33 236 32) = (q : Int) := ⟨(h33 236 32).toNat, by omega⟩
                  refine wr_is (k0 := 248) (a := h33 236 32) (f := i86) (x := 3) (bl := 0) (bh := 3) (nx := 279) (r1 := 0) (r2 := 0) (r3 := 0) rfl (by decide) rfl (by omega) (by omega) (by decide) g43 rfl (by omega) (fun h87 g87 w87 u87 => ?_)
                  have F88 := F44.then rfl (FR.rngp (lo := 248) (hi := 248) u87 (by decide))
                  have F89 := F45.then rfl (FR.rngp (lo := 248) (hi := 248) u87 (by decide))
                  refine wi_aload_n (i := 0) (x := 236) (nx := 280) (r1 := 0) (r2 := 0) (r3 := 0) rfl rfl ?_
                  refine wi_dup (nx := 281) (r1 := 0) (r2 := 0) (r3 := 0) rfl rfl ?_
                  refine wr_gi0 (k0 := 236) (x := h33 236 32) (nx := 284) (r1 := 11) (r2 := 32) (r3 := 0) rfl rfl (by decide) rfl ⟨rfl, rfl⟩ rfl ((u87 236 32 (fn_a (by omega) fn_0)).trans (u43 236 32 rfl)) ?_
                  refine wi_iconst (n := 1) (nx := 285) (r1 := 0) (r2 := 0) (r3 := 0) rfl ?_
                  refine wr_add (nx := 286) (r1 := 0) (r2 := 0) (r3 := 0) rfl (fun e90 (fe90 : e90 = (h33 236 32) + 1) => ?_)
                  refine wr_pf0 (k0 := 236) (x := e90) (bl := 0) (bh := 12) (nx := 289) (r1 := 11) (r2 := 32) (r3 := 0) rfl (by decide) rfl ⟨rfl, rfl⟩ rfl rfl g87 rfl (by omega) (fun h91 g91 w91 u91 => ?_)
                  have F92 := F88.then rfl u91
                  have F93 := F89.then rfl u91
                  refine wi_goto (nx := 292) (r1 := 153) (r2 := 0) (r3 := 0) rfl ?_
                  have e94 : h91 236 32 = e90 := w91
                  refine wp.lo (lo := [(0, .ref 236), (1, vi z14), (2, vi (h18 246 i26)), (3, vi e85), (4, vi (h 238 i78)), (5, vi 1)]) ⟨rfl, rfl, rfl, rfl, rfl, rfl, trivial⟩ rfl ?_
                  have q95 : h43 238 = h33 238 := funext (fun i => (u43 238 i (fo_no_ok (by decide) i)))
                  have q96 : h43 246 = h33 246 := funext (fun i => (u43 246 i (fo_no_ok (by decide) i)))
                  have c97 : h43 246 i50 = h18 246 i50 := ((u43 246 i50 (fn_a (by decide) (fn_a (by decide) (fn_a (by decide) (fn_a (by decide) fn_0))))).trans (u33 246 i50 (fo_nk rfl)))
                  have c98 : h33 238 i75 = h 238 i75 := ((u33 238 i75 (fo_nk rfl)).trans ((u18 238 i75 (fo_nk rfl)).trans (u15 238 i75 (fn_a (by omega) fn_0))))
                  have c99 : h33 238 i78 = h 238 i78 := ((u33 238 i78 (fo_nk rfl)).trans ((u18 238 i78 (fo_nk rfl)).trans (u15 238 i78 (fn_a (by omega) fn_0))))
                  have e100 : h33 238 5 = h 238 5 := ((u33 238 5 rfl).trans ((u18 238 5 rfl).trans (u15 238 5 rfl)))
                  have t101 : h43 247 3 = TQ (x30).toNat 3 := y43_0 (x30).toNat (by omega) 3 (by decide)
                  have wk102 := WK.step (R := h33 238) (LS := h33 246) (gi_RB g33) (l := 3) (p := (x30).toNat) (c := x31) (r := x32) (its := h 238 i78) (r2 := 1) (by decide) (by omega) (by omega) (X33_0 (x30).toNat (by omega)) (by rw [← q95, ← q96, ← u_by_T (T := h43 247) (fun l hl => y43_0 (x30).toNat (by omega) l hl) (by decide), ← y69_0, show 60 * (x30).toNat + 10 * (x31).toNat + (x32).toNat = i50 by omega]; omega) (by rw [show 74 + 6 * 3 + (TQ (x30).toNat 3).toNat = i75 by omega, show 31 + (h33 238 i75).toNat = i78 by omega]; omega) (by split <;> omega)
                  have wk102b := wk102.2
                  simp [wt] at wk102b
                  have q103 : h91 238 = h33 238 := funext (fun i => ((u91 238 i rfl).trans ((u87 238 i (fn_a (by omega) fn_0)).trans (u43 238 i (fo_no_ok (by decide) i)))))
                  have q104 : h91 246 = h33 246 := funext (fun i => ((u91 246 i rfl).trans ((u87 246 i (fn_a (by omega) fn_0)).trans (u43 246 i (fo_no_ok (by decide) i)))))
                  exact I33 e85 (h 238 i78) 1 h91 ⟨g91, F92, F93, (show (0 ≤ e85 ∧ e85 ≤ 2400) ∧ (0 ≤ (h 238 i78) ∧ (h 238 i78) ≤ 5) ∧ (0 ≤ 1 ∧ 1 ≤ 9) ∧ (1 ≤ (h18 238 5)) ∧ ((h91 236 32) ≤ z14) by omega), (fun pp e => by
                      obtain rfl : pp = (x30).toNat + wt 3 := by simp [wt]; omega
                      rw [q103, q104, show h91 236 32 = h33 236 32 + 1 by omega]
                      exact wk102.1)⟩ (show (z14 - (h91 236 32)).toNat < (z14 - (h33 236 32)).toNat by omega)
                ·
                  refine wi_iload (i := 5) (e := x32) (nx := 248) (r1 := 0) (r2 := 0) (r3 := 0) rfl rfl ?_
                  refine wi_iconst (n := 1) (nx := 249) (r1 := 0) (r2 := 0) (r3 := 0) rfl ?_
                  refine wr_add (nx := 250) (r1 := 0) (r2 := 0) (r3 := 0) rfl (fun e82 (fe82 : e82 = x32 + 1) => ?_)
                  refine wi_goto (nx := 253) (r1 := 254) (r2 := 0) (r3 := 0) rfl ?_
                  refine wi_istore (i := 5) (e := e82) (lo2 := [(5, vi e82), (8, vi (h 238 i78)), (0, .ref 236), (1, vi z14), (2, vi (h18 246 i26)), (3, vi x30), (4, vi x31), (6, vi (h18 246 i50)), (7, vi 3)]) (nx := 256) (r1 := 0) (r2 := 0) (r3 := 0) rfl rfl ?_
                  refine wi_iload (i := 8) (e := h 238 i78) (nx := 258) (r1 := 0) (r2 := 0) (r3 := 0) rfl rfl ?_
                  refine wi_istore (i := 4) (e := h 238 i78) (lo2 := [(4, vi (h 238 i78)), (5, vi e82), (8, vi (h 238 i78)), (0, .ref 236), (1, vi z14), (2, vi (h18 246 i26)), (3, vi x30), (6, vi (h18 246 i50)), (7, vi 3)]) (nx := 260) (r1 := 0) (r2 := 0) (r3 := 0) rfl rfl ?_
                  refine wi_iload_n (i := 3) (e := x30) (nx := 261) (r1 := 0) (r2 := 0) (r3 := 0) rfl rfl ?_
                  refine wi_iload (i := 7) (e := 3) (nx := 263) (r1 := 0) (r2 := 0) (r3 := 0) rfl rfl ?_
                  refine wi_S (rest := [vi x30]) (as := [vi 3]) (nx := 266) (r1 := 307) (r2 := 17) (r3 := 0) rfl rfl rfl (of_decide_eq_true rfl) rfl rfl (of_decide_eq_true rfl) (of_decide_eq_true rfl) ?_
                  refine wi_iload_n (i := 0) (e := 3) (nx := 1) (r1 := 0) (r2 := 0) (r3 := 0) rfl rfl ?_
                  refine wi_if (cd := .ne) (nx := 4) (r1 := 10) (r2 := 0) (r3 := 0) rfl (by omega) (fun (q83 : 3 ≠ 0) => ?_) (fun (q83 : ¬ (3 ≠ 0)) => by exfalso; omega)
                  refine wi_iload_n (i := 0) (e := 3) (nx := 11) (r1 := 0) (r2 := 0) (r3 := 0) rfl rfl ?_
                  refine wi_iconst (n := 1) (nx := 12) (r1 := 0) (r2 := 0) (r3 := 0) rfl ?_
                  refine wi_icmp (cd := .ne) (nx := 15) (r1 := 20) (r2 := 0) (r3 := 0) rfl (by omega) (by omega) (fun (q84 : 3 ≠ 1) => ?_) (fun (q84 : ¬ (3 ≠ 1)) => by exfalso; omega)
                  refine wi_iload_n (i := 0) (e := 3) (nx := 21) (r1 := 0) (r2 := 0) (r3 := 0) rfl rfl ?_
                  refine wi_iconst (n := 2) (nx := 22) (r1 := 0) (r2 := 0) (r3 := 0) rfl ?_
                  refine wi_icmp (cd := .ne) (nx := 25) (r1 := 30) (r2 := 0) (r3 := 0) rfl (by omega) (by omega) (fun (q85 : 3 ≠ 2) => ?_) (fun (q85 : ¬ (3 ≠ 2)) => by exfalso; omega)
                  refine wi_iconst (n := 1) (nx := 31) (r1 := 0) (r2 := 0) (r3 := 0) rfl ?_
                  refine wi_ireturn (nx := 32) (r1 := 0) (r2 := 0) (r3 := 0) rfl rfl ?_
                  refine wk_i ?_
                  refine wr_add (nx := 267) (r1 := 0) (r2 := 0) (r3 := 0) rfl (fun e86 (fe86 : e86 = x30 + 1) => ?_)
                  refine wi_istore_n (i := 3) (e := e86) (lo2 := [(3, vi e86), (4, vi (h 238 i78)), (5, vi e82), (8, vi (h 238 i78)), (0, .ref 236), (1, vi z14), (2, vi (h18 246 i26)), (6, vi (h18 246 i50)), (7, vi 3)]) (nx := 268) (r1 := 0) (r2 := 0) (r3 := 0) rfl rfl ?_
                  refine wi_aload_n (i := 0) (x := 236) (nx := 269) (r1 := 0) (r2 := 0) (r3 := 0) rfl rfl ?_
                  refine wr_gr (k0 := 236) (x := 248) (nx := 272) (r1 := 11) (r2 := 31) (r3 := 0) rfl rfl (by decide) rfl ⟨rfl, rfl⟩ rfl ?_
                  refine wi_aload_n (i := 0) (x := 236) (nx := 273) (r1 := 0) (r2 := 0) (r3 := 0) rfl rfl ?_
                  refine wr_gi0 (k0 := 236) (x := h33 236 32) (nx := 276) (r1 := 11) (r2 := 32) (r3 := 0) rfl rfl (by decide) rfl ⟨rfl, rfl⟩ rfl (u43 236 32 rfl) ?_
                  refine wi_iload (i := 7) (e := 3) (nx := 278) (r1 := 0) (r2 := 0) (r3 := 0) rfl rfl ?_
                  obtain ⟨i87, ei87⟩ : ∃ q : Nat, (h33 236 32) = (q : Int) := ⟨(h33 236 32).toNat, by omega⟩
                  refine wr_is (k0 := 248) (a := h33 236 32) (f := i87) (x := 3) (bl := 0) (bh := 3) (nx := 279) (r1 := 0) (r2 := 0) (r3 := 0) rfl (by decide) rfl (by omega) (by omega) (by decide) g43 rfl (by omega) (fun h88 g88 w88 u88 => ?_)
                  have F89 := F44.then rfl (FR.rngp (lo := 248) (hi := 248) u88 (by decide))
                  have F90 := F45.then rfl (FR.rngp (lo := 248) (hi := 248) u88 (by decide))
                  refine wi_aload_n (i := 0) (x := 236) (nx := 280) (r1 := 0) (r2 := 0) (r3 := 0) rfl rfl ?_
                  refine wi_dup (nx := 281) (r1 := 0) (r2 := 0) (r3 := 0) rfl rfl ?_
                  refine wr_gi0 (k0 := 236) (x := h33 236 32) (nx := 284) (r1 := 11) (r2 := 32) (r3 := 0) rfl rfl (by decide) rfl ⟨rfl, rfl⟩ rfl ((u88 236 32 (fn_a (by omega) fn_0)).trans (u43 236 32 rfl)) ?_
                  refine wi_iconst (n := 1) (nx := 285) (r1 := 0) (r2 := 0) (r3 := 0) rfl ?_
                  refine wr_add (nx := 286) (r1 := 0) (r2 := 0) (r3 := 0) rfl (fun e91 (fe91 : e91 = (h33 236 32) + 1) => ?_)
                  refine wr_pf0 (k0 := 236) (x := e91) (bl := 0) (bh := 12) (nx := 289) (r1 := 11) (r2 := 32) (r3 := 0) rfl (by decide) rfl ⟨rfl, rfl⟩ rfl rfl g88 rfl (by omega) (fun h92 g92 w92 u92 => ?_)
                  have F93 := F89.then rfl u92
                  have F94 := F90.then rfl u92
                  refine wi_goto (nx := 292) (r1 := 153) (r2 := 0) (r3 := 0) rfl ?_
                  have e95 : h92 236 32 = e91 := w92
                  refine wp.lo (lo := [(0, .ref 236), (1, vi z14), (2, vi (h18 246 i26)), (3, vi e86), (4, vi (h 238 i78)), (5, vi e82)]) ⟨rfl, rfl, rfl, rfl, rfl, rfl, trivial⟩ rfl ?_
                  have q96 : h43 238 = h33 238 := funext (fun i => (u43 238 i (fo_no_ok (by decide) i)))
                  have q97 : h43 246 = h33 246 := funext (fun i => (u43 246 i (fo_no_ok (by decide) i)))
                  have c98 : h43 246 i50 = h18 246 i50 := ((u43 246 i50 (fn_a (by decide) (fn_a (by decide) (fn_a (by decide) (fn_a (by decide) fn_0))))).trans (u33 246 i50 (fo_nk rfl)))
                  have c99 : h33 238 i75 = h 238 i75 := ((u33 238 i75 (fo_nk rfl)).trans ((u18 238 i75 (fo_nk rfl)).trans (u15 238 i75 (fn_a (by omega) fn_0))))
                  have c100 : h33 238 i78 = h 238 i78 := ((u33 238 i78 (fo_nk rfl)).trans ((u18 238 i78 (fo_nk rfl)).trans (u15 238 i78 (fn_a (by omega) fn_0))))
                  have e101 : h33 238 5 = h 238 5 := ((u33 238 5 rfl).trans ((u18 238 5 rfl).trans (u15 238 5 rfl)))
                  have t102 : h43 247 3 = TQ (x30).toNat 3 := y43_0 (x30).toNat (by omega) 3 (by decide)
                  have wk103 := WK.step (R := h33 238) (LS := h33 246) (gi_RB g33) (l := 3) (p := (x30).toNat) (c := x31) (r := x32) (its := h 238 i78) (r2 := e82) (by decide) (by omega) (by omega) (X33_0 (x30).toNat (by omega)) (by rw [← q96, ← q97, ← u_by_T (T := h43 247) (fun l hl => y43_0 (x30).toNat (by omega) l hl) (by decide), ← y69_0, show 60 * (x30).toNat + 10 * (x31).toNat + (x32).toNat = i50 by omega]; omega) (by rw [show 74 + 6 * 3 + (TQ (x30).toNat 3).toNat = i75 by omega, show 31 + (h33 238 i75).toNat = i78 by omega]; omega) (by split <;> omega)
                  have wk103b := wk103.2
                  simp [wt] at wk103b
                  have q104 : h92 238 = h33 238 := funext (fun i => ((u92 238 i rfl).trans ((u88 238 i (fn_a (by omega) fn_0)).trans (u43 238 i (fo_no_ok (by decide) i)))))
                  have q105 : h92 246 = h33 246 := funext (fun i => ((u92 246 i rfl).trans ((u88 246 i (fn_a (by omega) fn_0)).trans (u43 246 i (fo_no_ok (by decide) i)))))
                  exact I33 e86 (h 238 i78) e82 h92 ⟨g92, F93, F94, (show (0 ≤ e86 ∧ e86 ≤ 2400) ∧ (0 ≤ (h 238 i78) ∧ (h 238 i78) ≤ 5) ∧ (0 ≤ e82 ∧ e82 ≤ 9) ∧ (e82 ≤ (h18 238 5)) ∧ ((h92 236 32) ≤ z14) by omega), (fun pp e => by
                      obtain rfl : pp = (x30).toNat + wt 3 := by simp [wt]; omega
                      rw [q104, q105, show h92 236 32 = h33 236 32 + 1 by omega]
                      exact wk103.1)⟩ (show (z14 - (h92 236 32)).toNat < (z14 - (h33 236 32)).toNat by omega)
            ·
              refine wr_iincL (i := 7) (n := 1) (v := 3) (4) ([(7, vi 4), (0, .ref 236), (1, vi z14), (2, vi (h18 246 i26)), (3, vi x30), (4, vi x31), (5, vi x32), (6, vi (h18 246 i50))]) (nx := 202) (r1 := 0) (r2 := 0) (r3 := 0) rfl rfl (by decide) rfl ?_
              refine wi_goto (nx := 205) (r1 := 184) (r2 := 0) (r3 := 0) rfl ?_
              refine wp.lo (lo := [(0, .ref 236), (1, vi z14), (2, vi (h18 246 i26)), (3, vi x30), (4, vi x31), (5, vi x32), (6, vi (h18 246 i50)), (7, vi 4)]) ⟨rfl, rfl, rfl, rfl, rfl, rfl, rfl, rfl, trivial⟩ rfl ?_
              obtain ⟨la74, haa74, hba74, hca74⟩ := X55_0
              have hda74 : la74 ≠ 3 := fun e => by subst e; omega
              exact I55 4 h43 ⟨rfl, (show (0 ≤ 4 ∧ 4 ≤ 3) by omega), ⟨la74, by omega, hba74, hca74⟩⟩ (show ((3 : Int) + 1 - 4).toNat < ((3 : Int) + 1 - x54).toNat by omega)
      ·
        refine wi_ldc_w (e := 1000000) (nx := 135) (r1 := 0) (r2 := 1000000) (r3 := 0) rfl (by decide) ?_
        refine wi_ireturn (nx := 136) (r1 := 0) (r2 := 0) (r3 := 0) rfl rfl ?_
        exact k h18 1000000 g18 F19 (by omega)
    ·
      refine wi_iconst (n := 5) (nx := 12) (r1 := 0) (r2 := 0) (r3 := 0) rfl ?_
      refine wi_goto (nx := 15) (r1 := 22) (r2 := 0) (r3 := 0) rfl ?_
      refine wi_ireturn (nx := 23) (r1 := 0) (r2 := 0) (r3 := 0) rfl rfl ?_
      refine wk_i ?_
      refine wi_aload_n (i := 0) (x := 236) (nx := 114) (r1 := 0) (r2 := 0) (r3 := 0) rfl rfl ?_
      refine wr_gr (k0 := 236) (x := 238) (nx := 117) (r1 := 11) (r2 := 13) (r3 := 0) rfl rfl (by decide) rfl ⟨rfl, rfl⟩ rfl ?_
      refine wi_bipush (n := 69) (nx := 119) (r1 := 0) (r2 := 0) (r3 := 0) rfl (by decide) ?_
      refine wr_ia (k0 := 238) (a := 69) (f := 69) (x := h 238 69) (nx := 120) (r1 := 0) (r2 := 0) (r3 := 0) rfl (by decide) rfl (by omega) (by omega) (by decide) ((u18 238 69 rfl).trans (u15 238 69 rfl)) ?_
      refine wi_S (rest := [.ref 246]) (as := [vi 0, vi 5, vi (h 238 69)]) (nx := 123) (r1 := 308) (r2 := 19) (r3 := 0) rfl rfl rfl (of_decide_eq_true rfl) rfl rfl (of_decide_eq_true rfl) (of_decide_eq_true rfl) ?_
      refine wi_bipush (n := 6) (nx := 2) (r1 := 0) (r2 := 0) (r3 := 0) rfl (by decide) ?_
      refine wi_iload_n (i := 0) (e := 0) (nx := 3) (r1 := 0) (r2 := 0) (r3 := 0) rfl rfl ?_
      refine wr_mulL (0) (nx := 4) (r1 := 0) (r2 := 0) (r3 := 0) rfl (by decide) ?_
      refine wi_iload_n (i := 1) (e := 5) (nx := 5) (r1 := 0) (r2 := 0) (r3 := 0) rfl rfl ?_
      refine wr_addL (5) (nx := 6) (r1 := 0) (r2 := 0) (r3 := 0) rfl (by decide) ?_
      refine wi_bipush (n := 10) (nx := 8) (r1 := 0) (r2 := 0) (r3 := 0) rfl (by decide) ?_
      refine wr_mulL (50) (nx := 9) (r1 := 0) (r2 := 0) (r3 := 0) rfl (by decide) ?_
      refine wi_iload_n (i := 2) (e := h 238 69) (nx := 10) (r1 := 0) (r2 := 0) (r3 := 0) rfl rfl ?_
      refine wr_add (nx := 11) (r1 := 0) (r2 := 0) (r3 := 0) rfl (fun e23 (fe23 : e23 = 50 + (h 238 69)) => ?_)
      refine wi_ireturn (nx := 12) (r1 := 0) (r2 := 0) (r3 := 0) rfl rfl ?_
      refine wk_i ?_
      obtain ⟨i24, ei24⟩ : ∃ q : Nat, e23 = (q : Int) := ⟨(e23).toNat, by omega⟩
      have b25 := gi_b (lo := 0) (hi := 1000000) g18 246 i24 rfl
      refine wr_ia (k0 := 246) (a := e23) (f := i24) (x := h18 246 i24) (nx := 124) (r1 := 0) (r2 := 0) (r3 := 0) rfl (by decide) rfl (by omega) (by omega) (by decide) rfl ?_
      refine wi_istore_n (i := 2) (e := h18 246 i24) (lo2 := [(2, vi (h18 246 i24)), (0, .ref 236), (1, vi z14)]) (nx := 125) (r1 := 0) (r2 := 0) (r3 := 0) rfl rfl ?_
      refine wi_iload_n (i := 2) (e := h18 246 i24) (nx := 126) (r1 := 0) (r2 := 0) (r3 := 0) rfl rfl ?_
      refine wi_ldc_w (e := 1000000) (nx := 129) (r1 := 0) (r2 := 1000000) (r3 := 0) rfl (by decide) ?_
      refine wi_icmp (cd := .ne) (nx := 132) (r1 := 136) (r2 := 0) (r3 := 0) rfl (by omega) (by omega) (fun (q26 : (h18 246 i24) ≠ 1000000) => ?_) (fun (q26 : ¬ ((h18 246 i24) ≠ 1000000)) => ?_)
      ·
        refine wi_iconst (n := 0) (nx := 137) (r1 := 0) (r2 := 0) (r3 := 0) rfl ?_
        refine wi_istore_n (i := 3) (e := 0) (lo2 := [(3, vi 0), (2, vi (h18 246 i24)), (0, .ref 236), (1, vi z14)]) (nx := 138) (r1 := 0) (r2 := 0) (r3 := 0) rfl rfl ?_
        refine wi_aload_n (i := 0) (x := 236) (nx := 139) (r1 := 0) (r2 := 0) (r3 := 0) rfl rfl ?_
        refine wr_V (k0 := 236) (rest := []) (as := [.ref 236]) (nx := 142) (r1 := 310) (r2 := 0) (r3 := 11) rfl rfl rfl (of_decide_eq_true rfl) rfl rfl (by decide) rfl rfl (of_decide_eq_true rfl) (of_decide_eq_true rfl) ?_
        refine wi_aload_n (i := 0) (x := 236) (nx := 1) (r1 := 0) (r2 := 0) (r3 := 0) rfl rfl ?_
        refine wr_gr (k0 := 236) (x := 238) (nx := 4) (r1 := 11) (r2 := 13) (r3 := 0) rfl rfl (by decide) rfl ⟨rfl, rfl⟩ rfl ?_
        refine wi_bipush (n := 68) (nx := 6) (r1 := 0) (r2 := 0) (r3 := 0) rfl (by decide) ?_
        refine wr_ia (k0 := 238) (a := 68) (f := 68) (x := h 238 68) (nx := 7) (r1 := 0) (r2 := 0) (r3 := 0) rfl (by decide) rfl (by omega) (by omega) (by decide) ((u18 238 68 rfl).trans (u15 238 68 rfl)) ?_
        refine wi_iconst (n := (-1)) (nx := 8) (r1 := 0) (r2 := 0) (r3 := 0) rfl ?_
        refine wi_icmp (cd := .ne) (nx := 11) (r1 := 15) (r2 := 0) (r3 := 0) rfl (by omega) (by omega) (fun (q27 : (h 238 68) ≠ (-1)) => by exfalso; omega) (fun (q27 : ¬ ((h 238 68) ≠ (-1))) => ?_)
        refine wi_iconst (n := 5) (nx := 12) (r1 := 0) (r2 := 0) (r3 := 0) rfl ?_
        refine wi_goto (nx := 15) (r1 := 22) (r2 := 0) (r3 := 0) rfl ?_
        refine wi_ireturn (nx := 23) (r1 := 0) (r2 := 0) (r3 := 0) rfl rfl ?_
        refine wk_i ?_
        refine wi_istore (i := 4) (e := 5) (lo2 := [(4, vi 5), (3, vi 0), (2, vi (h18 246 i24)), (0, .ref 236), (1, vi z14)]) (nx := 144) (r1 := 0) (r2 := 0) (r3 := 0) rfl rfl ?_
        refine wi_aload_n (i := 0) (x := 236) (nx := 145) (r1 := 0) (r2 := 0) (r3 := 0) rfl rfl ?_
        refine wr_gr (k0 := 236) (x := 238) (nx := 148) (r1 := 11) (r2 := 13) (r3 := 0) rfl rfl (by decide) rfl ⟨rfl, rfl⟩ rfl ?_
        refine wi_bipush (n := 69) (nx := 150) (r1 := 0) (r2 := 0) (r3 := 0) rfl (by decide) ?_
        refine wr_ia (k0 := 238) (a := 69) (f := 69) (x := h 238 69) (nx := 151) (r1 := 0) (r2 := 0) (r3 := 0) rfl (by decide) rfl (by omega) (by omega) (by decide) ((u18 238 69 rfl).trans (u15 238 69 rfl)) ?_
        refine wi_istore (i := 5) (e := h 238 69) (lo2 := [(5, vi (h 238 69)), (4, vi 5), (3, vi 0), (2, vi (h18 246 i24)), (0, .ref 236), (1, vi z14)]) (nx := 153) (r1 := 0) (r2 := 0) (r3 := 0) rfl rfl ?_
        have c32 : h18 246 i24 = h18 246 i24 := rfl
        have e33 : h18 236 32 = 0 := ((u18 236 32 rfl).trans w15)
        have q34 : h18 238 = h18 238 := funext (fun i => rfl)
        have q35 : h18 246 = h18 246 := funext (fun i => rfl)
        have tb36 : TBA (h18 238) (h18 246) := fun q hq => by rw [q34, q35]; exact X18_0 q (by omega) hq
        have e37 : h18 238 5 = h 238 5 := ((u18 238 5 rfl).trans (u15 238 5 rfl))
        refine wp.lo (lo := [(0, .ref 236), (1, vi z14), (2, vi (h18 246 i24)), (3, vi 0), (4, vi 5), (5, vi (h 238 69))]) ⟨rfl, rfl, rfl, rfl, rfl, rfl, trivial⟩ rfl ?_
        refine wl_3 (fun x28 x29 x30 h31 => GI h31 ∧ FR [(246, 246, none), (248, 248, none), (236, 236, some (32, 32)), (247, 247, some (0, 0)), (247, 247, some (1, 1)), (247, 247, some (2, 2)), (247, 247, some (3, 3))] h h31 ∧ FR [(248, 248, none), (236, 236, some (32, 32)), (247, 247, some (0, 0)), (247, 247, some (1, 1)), (247, 247, some (2, 2)), (247, 247, some (3, 3))] h18 h31 ∧ ((0 ≤ x28 ∧ x28 ≤ 2400) ∧ (0 ≤ x29 ∧ x29 ≤ 5) ∧ (0 ≤ x30 ∧ x30 ≤ 9) ∧ (x30 ≤ (h18 238 5)) ∧ ((h31 236 32) ≤ z14)) ∧ (∀ pp : Nat, (pp : Int) = x28 → WK (h31 238) (h31 246) pp (h31 236 32) x29 x30)) (fun x28 x29 x30 h31 => (z14 - (h31 236 32)).toNat) (fun x28 x29 x30 h31 => (153, [(0, .ref 236), (1, vi z14), (2, vi (h18 246 i24)), (3, vi x28), (4, vi x29), (5, vi x30)], [], hp_w h31 cr, b, c)) ?_ 0 5 (h 238 69) h18 ⟨g18, F19, FR.refl, (show (0 ≤ 0 ∧ 0 ≤ 2400) ∧ (0 ≤ 5 ∧ 5 ≤ 5) ∧ (0 ≤ (h 238 69) ∧ (h 238 69) ≤ 9) ∧ ((h 238 69) ≤ (h18 238 5)) ∧ ((h18 236 32) ≤ z14) by omega), (fun pp e => by
            obtain rfl : pp = 0 := by omega
            refine ⟨WI_0 (gi_RB g18), by rw [TS_0]; omega, ?_⟩
            rw [show 60 * 0 + 10 * (5 : Int).toNat + (h 238 69 : Int).toNat = i24 by omega]
            omega)⟩
        intro x28 x29 x30 h31 ⟨g31, F38, u31, f31, X31_0⟩ I31
        have b39 := gi_b (lo := 0) (hi := 12) g31 236 32 rfl
        refine wi_aload_n (i := 0) (x := 236) (nx := 154) (r1 := 0) (r2 := 0) (r3 := 0) rfl rfl ?_
        refine wr_gi0 (k0 := 236) (x := h31 236 32) (nx := 157) (r1 := 11) (r2 := 32) (r3 := 0) rfl rfl (by decide) rfl ⟨rfl, rfl⟩ rfl rfl ?_
        refine wi_iload_n (i := 1) (e := z14) (nx := 158) (r1 := 0) (r2 := 0) (r3 := 0) rfl rfl ?_
        refine wi_icmp (cd := .ge) (nx := 161) (r1 := 292) (r2 := 0) (r3 := 0) rfl (by omega) (by omega) (fun (q40 : z14 ≤ (h31 236 32)) => ?_) (fun (q40 : ¬ (z14 ≤ (h31 236 32))) => ?_)
        ·
          refine wi_iload_n (i := 2) (e := h18 246 i24) (nx := 293) (r1 := 0) (r2 := 0) (r3 := 0) rfl rfl ?_
          refine wi_ireturn (nx := 294) (r1 := 0) (r2 := 0) (r3 := 0) rfl rfl ?_
          exact k h31 (h18 246 i24) g31 F38 (by omega)
        ·
          refine wi_aload_n (i := 0) (x := 236) (nx := 162) (r1 := 0) (r2 := 0) (r3 := 0) rfl rfl ?_
          refine wi_iload_n (i := 3) (e := x28) (nx := 163) (r1 := 0) (r2 := 0) (r3 := 0) rfl rfl ?_
          refine wr_V (k0 := 236) (rest := []) (as := [.ref 236, vi x28]) (nx := 166) (r1 := 301) (r2 := 1) (r3 := 11) rfl rfl rfl (of_decide_eq_true rfl) rfl rfl (by decide) rfl rfl (of_decide_eq_true rfl) (of_decide_eq_true rfl) ?_
          refine ct_301_236 hcr  g31 x28 (by omega)  (fun h41 g41 u41 y41_0 => ?_)
          have F42 := F38.then (by decide +kernel) u41
          have F43 := u31.then (by decide +kernel) u41
          refine wk_n ?_
          refine wi_aload_n (i := 0) (x := 236) (nx := 167) (r1 := 0) (r2 := 0) (r3 := 0) rfl rfl ?_
          refine wr_gr (k0 := 236) (x := 246) (nx := 170) (r1 := 11) (r2 := 29) (r3 := 0) rfl rfl (by decide) rfl ⟨rfl, rfl⟩ rfl ?_
          refine wi_iload_n (i := 3) (e := x28) (nx := 171) (r1 := 0) (r2 := 0) (r3 := 0) rfl rfl ?_
          refine wi_iload (i := 4) (e := x29) (nx := 173) (r1 := 0) (r2 := 0) (r3 := 0) rfl rfl ?_
          refine wi_iload (i := 5) (e := x30) (nx := 175) (r1 := 0) (r2 := 0) (r3 := 0) rfl rfl ?_
          refine wi_S (rest := [.ref 246]) (as := [vi x28, vi x29, vi x30]) (nx := 178) (r1 := 308) (r2 := 19) (r3 := 0) rfl rfl rfl (of_decide_eq_true rfl) rfl rfl (of_decide_eq_true rfl) (of_decide_eq_true rfl) ?_
          refine wi_bipush (n := 6) (nx := 2) (r1 := 0) (r2 := 0) (r3 := 0) rfl (by decide) ?_
          refine wi_iload_n (i := 0) (e := x28) (nx := 3) (r1 := 0) (r2 := 0) (r3 := 0) rfl rfl ?_
          refine wr_mul (nx := 4) (r1 := 0) (r2 := 0) (r3 := 0) rfl (fun e44 (fe44 : e44 = 6 * x28) => ?_)
          refine wi_iload_n (i := 1) (e := x29) (nx := 5) (r1 := 0) (r2 := 0) (r3 := 0) rfl rfl ?_
          refine wr_add (nx := 6) (r1 := 0) (r2 := 0) (r3 := 0) rfl (fun e45 (fe45 : e45 = e44 + x29) => ?_)
          refine wi_bipush (n := 10) (nx := 8) (r1 := 0) (r2 := 0) (r3 := 0) rfl (by decide) ?_
          refine wr_mul (nx := 9) (r1 := 0) (r2 := 0) (r3 := 0) rfl (fun e46 (fe46 : e46 = e45 * 10) => ?_)
          refine wi_iload_n (i := 2) (e := x30) (nx := 10) (r1 := 0) (r2 := 0) (r3 := 0) rfl rfl ?_
          refine wr_add (nx := 11) (r1 := 0) (r2 := 0) (r3 := 0) rfl (fun e47 (fe47 : e47 = e46 + x30) => ?_)
          refine wi_ireturn (nx := 12) (r1 := 0) (r2 := 0) (r3 := 0) rfl rfl ?_
          refine wk_i ?_
          obtain ⟨i48, ei48⟩ : ∃ q : Nat, e47 = (q : Int) := ⟨(e47).toNat, by omega⟩
          have b49 := gi_b (lo := 0) (hi := 1000000) g18 246 i48 rfl
          refine wr_ia (k0 := 246) (a := e47) (f := i48) (x := h18 246 i48) (nx := 179) (r1 := 0) (r2 := 0) (r3 := 0) rfl (by decide) rfl (by omega) (by omega) (by decide) ((u41 246 i48 (fn_a (by decide) (fn_a (by decide) (fn_a (by decide) (fn_a (by decide) fn_0))))).trans (u31 246 i48 (fo_nk rfl))) ?_
          refine wi_istore (i := 6) (e := h18 246 i48) (lo2 := [(6, vi (h18 246 i48)), (0, .ref 236), (1, vi z14), (2, vi (h18 246 i24)), (3, vi x28), (4, vi x29), (5, vi x30)]) (nx := 181) (r1 := 0) (r2 := 0) (r3 := 0) rfl rfl ?_
          have c50 : h31 246 i48 = h18 246 i48 := (u31 246 i48 (fo_nk rfl))
          have d51 : h18 246 i48 ≠ 1000000 := by
            have e := (X31_0 (x28).toNat (by omega)).2.2
            rw [show 60 * (x28).toNat + 10 * (x29).toNat + (x30).toNat = i48 by omega, c50] at e
            exact e
          refine wi_iconst (n := 0) (nx := 182) (r1 := 0) (r2 := 0) (r3 := 0) rfl ?_
          refine wi_istore (i := 7) (e := 0) (lo2 := [(7, vi 0), (6, vi (h18 246 i48)), (0, .ref 236), (1, vi z14), (2, vi (h18 246 i24)), (3, vi x28), (4, vi x29), (5, vi x30)]) (nx := 184) (r1 := 0) (r2 := 0) (r3 := 0) rfl rfl ?_
          have q54 : h41 238 = h31 238 := funext (fun i => (u41 238 i (fo_no_ok (by decide) i)))
          have q55 : h41 246 = h31 246 := funext (fun i => (u41 246 i (fo_no_ok (by decide) i)))
          have q56 : h31 238 = h18 238 := funext (fun i => (u31 238 i (fo_no_ok (by decide) i)))
          have q57 : h31 246 = h18 246 := funext (fun i => (u31 246 i (fo_no_ok (by decide) i)))
          have c58 : h31 246 i48 = h18 246 i48 := (u31 246 i48 (fo_nk rfl))
          have e59 : h31 238 98 = h 238 98 := ((u31 238 98 rfl).trans ((u18 238 98 rfl).trans (u15 238 98 rfl)))
          have e60 : h31 238 99 = h 238 99 := ((u31 238 99 rfl).trans ((u18 238 99 rfl).trans (u15 238 99 rfl)))
          have e61 : h31 238 100 = h 238 100 := ((u31 238 100 rfl).trans ((u18 238 100 rfl).trans (u15 238 100 rfl)))
          have e62 : h31 238 101 = h 238 101 := ((u31 238 101 rfl).trans ((u18 238 101 rfl).trans (u15 238 101 rfl)))
          obtain ⟨la63, hla63, ea63⟩ := WK.any (R := h31 238) (LS := h31 246) (by rw [q56, q57]; exact tb36) (X31_0 (x28).toNat (by omega)) (by omega) (by omega) (by omega) (by omega)
          refine wp.lo (lo := [(0, .ref 236), (1, vi z14), (2, vi (h18 246 i24)), (3, vi x28), (4, vi x29), (5, vi x30), (6, vi (h18 246 i48)), (7, vi 0)]) ⟨rfl, rfl, rfl, rfl, rfl, rfl, rfl, rfl, trivial⟩ rfl ?_
          refine wl_1 (fun x52 h53 => h41 = h53 ∧ ((0 ≤ x52 ∧ x52 ≤ 3)) ∧ (u_ex (h41 238) (h41 246) (h41 247) x52 x29 x30 (h18 246 i48))) (fun x52 h53 => ((3 : Int) + 1 - x52).toNat) (fun x52 h53 => (184, [(0, .ref 236), (1, vi z14), (2, vi (h18 246 i24)), (3, vi x28), (4, vi x29), (5, vi x30), (6, vi (h18 246 i48)), (7, vi x52)], [], hp_w h53 cr, b, c)) ?_ 0 h41 ⟨rfl, (show (0 ≤ 0 ∧ 0 ≤ 3) by omega), ⟨la63, by omega, hla63, by
              rw [q54, q55, u_by_T (T := h41 247) (fun l hl => y41_0 (x28).toNat (by omega) l hl) hla63, ea63, show 60 * (x28).toNat + 10 * (x29).toNat + (x30).toNat = i48 by omega]
              omega⟩⟩
          intro x52 h53 ⟨e53, f53, X53_0⟩ I53
          subst e53
          refine wi_aload_n (i := 0) (x := 236) (nx := 185) (r1 := 0) (r2 := 0) (r3 := 0) rfl rfl ?_
          refine wi_iload (i := 7) (e := x52) (nx := 187) (r1 := 0) (r2 := 0) (r3 := 0) rfl rfl ?_
          refine wi_iload (i := 4) (e := x29) (nx := 189) (r1 := 0) (r2 := 0) (r3 := 0) rfl rfl ?_
          refine wi_iload (i := 5) (e := x30) (nx := 191) (r1 := 0) (r2 := 0) (r3 := 0) rfl rfl ?_
          rcases (show x52 = 0 ∨ x52 = 1 ∨ x52 = 2 ∨ x52 = 3 by omega) with q66 | q66 | q66 | q66
          ·
            rw [q66]
            refine wr_V (k0 := 236) (rest := []) (as := [.ref 236, vi 0, vi x29, vi x30]) (nx := 194) (r1 := 305) (r2 := 3) (r3 := 11) rfl rfl rfl (of_decide_eq_true rfl) rfl rfl (by decide) rfl rfl (of_decide_eq_true rfl) (of_decide_eq_true rfl) ?_
            refine ct_305_236_L0 hcr  g41 x29 x30 (by omega) (by omega)  (fun z68  (fz68 : 0 ≤ z68 ∧ z68 ≤ 1099900) (p67_0 : z68 = 1000000 ∨ (h41 247 0) < (h41 238 98)) y67_0 => ?_)
            have b69 := gi_b (lo := 0) (hi := 6) g41 247 0 rfl
            have e70 : h41 238 98 = h 238 98 := ((u41 238 98 rfl).trans ((u31 238 98 rfl).trans ((u18 238 98 rfl).trans (u15 238 98 rfl))))
            refine wk_i ?_
            refine wi_iload (i := 6) (e := h18 246 i48) (nx := 196) (r1 := 0) (r2 := 0) (r3 := 0) rfl rfl ?_
            refine wi_icmp (cd := .eq) (nx := 199) (r1 := 205) (r2 := 0) (r3 := 0) rfl (by omega) (by omega) (fun (q71 : z68 = (h18 246 i48)) => ?_) (fun (q71 : ¬ (z68 = (h18 246 i48))) => ?_)
            ·
              refine wi_aload_n (i := 0) (x := 236) (nx := 206) (r1 := 0) (r2 := 0) (r3 := 0) rfl rfl ?_
              refine wr_gr (k0 := 236) (x := 238) (nx := 209) (r1 := 11) (r2 := 13) (r3 := 0) rfl rfl (by decide) rfl ⟨rfl, rfl⟩ rfl ?_
              refine wi_bipush (n := 31) (nx := 211) (r1 := 0) (r2 := 0) (r3 := 0) rfl (by decide) ?_
              refine wi_aload_n (i := 0) (x := 236) (nx := 212) (r1 := 0) (r2 := 0) (r3 := 0) rfl rfl ?_
              refine wi_iload (i := 7) (e := 0) (nx := 214) (r1 := 0) (r2 := 0) (r3 := 0) rfl rfl ?_
              refine wi_aload_n (i := 0) (x := 236) (nx := 215) (r1 := 0) (r2 := 0) (r3 := 0) rfl rfl ?_
              refine wr_gr (k0 := 236) (x := 247) (nx := 218) (r1 := 11) (r2 := 30) (r3 := 0) rfl rfl (by decide) rfl ⟨rfl, rfl⟩ rfl ?_
              refine wi_iload (i := 7) (e := 0) (nx := 220) (r1 := 0) (r2 := 0) (r3 := 0) rfl rfl ?_
              refine wr_ia (k0 := 247) (a := 0) (f := 0) (x := h41 247 0) (nx := 221) (r1 := 0) (r2 := 0) (r3 := 0) rfl (by decide) rfl (by omega) (by omega) (by decide) rfl ?_
              refine wr_V (k0 := 236) (rest := [vi 31, .ref 238]) (as := [.ref 236, vi 0, vi (h41 247 0)]) (nx := 224) (r1 := 258) (r2 := 2) (r3 := 11) rfl rfl rfl (of_decide_eq_true rfl) rfl rfl (by decide) rfl rfl (of_decide_eq_true rfl) (of_decide_eq_true rfl) ?_
              refine wi_aload_n (i := 0) (x := 236) (nx := 1) (r1 := 0) (r2 := 0) (r3 := 0) rfl rfl ?_
              refine wr_gr (k0 := 236) (x := 238) (nx := 4) (r1 := 11) (r2 := 13) (r3 := 0) rfl rfl (by decide) rfl ⟨rfl, rfl⟩ rfl ?_
              refine wi_bipush (n := 74) (nx := 6) (r1 := 0) (r2 := 0) (r3 := 0) rfl (by decide) ?_
              refine wi_bipush (n := 6) (nx := 8) (r1 := 0) (r2 := 0) (r3 := 0) rfl (by decide) ?_
              refine wi_iload_n (i := 1) (e := 0) (nx := 9) (r1 := 0) (r2 := 0) (r3 := 0) rfl rfl ?_
              refine wr_mulL (0) (nx := 10) (r1 := 0) (r2 := 0) (r3 := 0) rfl (by decide) ?_
              refine wr_addL (74) (nx := 11) (r1 := 0) (r2 := 0) (r3 := 0) rfl (by decide) ?_
              refine wi_iload_n (i := 2) (e := h41 247 0) (nx := 12) (r1 := 0) (r2 := 0) (r3 := 0) rfl rfl ?_
              refine wr_add (nx := 13) (r1 := 0) (r2 := 0) (r3 := 0) rfl (fun e72 (fe72 : e72 = 74 + (h41 247 0)) => ?_)
              obtain ⟨i73, ei73⟩ : ∃ q : Nat, e72 = (q : Int) := ⟨(e72).toNat, by omega⟩
              have b74 := gi_b (lo := 0) (hi := 11) g 238 i73 (gi_rg 74 6 (fun _ => rfl) (by decide +kernel) (by omega))
              refine wr_ia (k0 := 238) (a := e72) (f := i73) (x := h 238 i73) (nx := 14) (r1 := 0) (r2 := 0) (r3 := 0) rfl (by decide) rfl (by omega) (by omega) (by decide) ((u41 238 i73 (fn_a (by decide) (fn_a (by decide) (fn_a (by decide) (fn_a (by decide) fn_0))))).trans ((u31 238 i73 (fo_nk rfl)).trans ((u18 238 i73 (fo_nk rfl)).trans (u15 238 i73 (fn_a (by omega) fn_0))))) ?_
              refine wi_ireturn (nx := 15) (r1 := 0) (r2 := 0) (r3 := 0) rfl rfl ?_
              refine wk_i ?_
              refine wr_add (nx := 225) (r1 := 0) (r2 := 0) (r3 := 0) rfl (fun e75 (fe75 : e75 = 31 + (h 238 i73)) => ?_)
              obtain ⟨i76, ei76⟩ : ∃ q : Nat, e75 = (q : Int) := ⟨(e75).toNat, by omega⟩
              have b77 := gi_b (lo := 0) (hi := 4) g 238 i76 (gi_rg 31 12 (fun _ => rfl) (by decide +kernel) (by omega))
              refine wr_ia (k0 := 238) (a := e75) (f := i76) (x := h 238 i76) (nx := 226) (r1 := 0) (r2 := 0) (r3 := 0) rfl (by decide) rfl (by omega) (by omega) (by decide) ((u41 238 i76 (fn_a (by decide) (fn_a (by decide) (fn_a (by decide) (fn_a (by decide) fn_0))))).trans ((u31 238 i76 (fo_nk rfl)).trans ((u18 238 i76 (fo_nk rfl)).trans (u15 238 i76 (fn_a (by omega) fn_0))))) ?_
              refine wi_istore (i := 8) (e := h 238 i76) (lo2 := [(8, vi (h 238 i76)), (0, .ref 236), (1, vi z14), (2, vi (h18 246 i24)), (3, vi x28), (4, vi x29), (5, vi x30), (6, vi (h18 246 i48)), (7, vi 0)]) (nx := 228) (r1 := 0) (r2 := 0) (r3 := 0) rfl rfl ?_
              refine wi_iload (i := 8) (e := h 238 i76) (nx := 230) (r1 := 0) (r2 := 0) (r3 := 0) rfl rfl ?_
              refine wi_iload (i := 4) (e := x29) (nx := 232) (r1 := 0) (r2 := 0) (r3 := 0) rfl rfl ?_
              refine wi_icmp (cd := .ne) (nx := 235) (r1 := 253) (r2 := 0) (r3 := 0) rfl (by omega) (by omega) (fun (q78 : (h 238 i76) ≠ x29) => ?_) (fun (q78 : ¬ ((h 238 i76) ≠ x29)) => ?_)
              ·
                refine wi_iconst (n := 1) (nx := 254) (r1 := 0) (r2 := 0) (r3 := 0) rfl ?_
                refine wi_istore (i := 5) (e := 1) (lo2 := [(5, vi 1), (8, vi (h 238 i76)), (0, .ref 236), (1, vi z14), (2, vi (h18 246 i24)), (3, vi x28), (4, vi x29), (6, vi (h18 246 i48)), (7, vi 0)]) (nx := 256) (r1 := 0) (r2 := 0) (r3 := 0) rfl rfl ?_
                refine wi_iload (i := 8) (e := h 238 i76) (nx := 258) (r1 := 0) (r2 := 0) (r3 := 0) rfl rfl ?_
                refine wi_istore (i := 4) (e := h 238 i76) (lo2 := [(4, vi (h 238 i76)), (5, vi 1), (8, vi (h 238 i76)), (0, .ref 236), (1, vi z14), (2, vi (h18 246 i24)), (3, vi x28), (6, vi (h18 246 i48)), (7, vi 0)]) (nx := 260) (r1 := 0) (r2 := 0) (r3 := 0) rfl rfl ?_
                refine wi_iload_n (i := 3) (e := x28) (nx := 261) (r1 := 0) (r2 := 0) (r3 := 0) rfl rfl ?_
                refine wi_iload (i := 7) (e := 0) (nx := 263) (r1 := 0) (r2 := 0) (r3 := 0) rfl rfl ?_
                refine wi_S (rest := [vi x28]) (as := [vi 0]) (nx := 266) (r1 := 307) (r2 := 17) (r3 := 0) rfl rfl rfl (of_decide_eq_true rfl) rfl rfl (of_decide_eq_true rfl) (of_decide_eq_true rfl) ?_
                refine wi_iload_n (i := 0) (e := 0) (nx := 1) (r1 := 0) (r2 := 0) (r3 := 0) rfl rfl ?_
                refine wi_if (cd := .ne) (nx := 4) (r1 := 10) (r2 := 0) (r3 := 0) rfl (by omega) (fun (q79 : 0 ≠ 0) => by exfalso; omega) (fun (q79 : ¬ (0 ≠ 0)) => ?_)
                refine wi_sipush (n := 343) (nx := 7) (r1 := 0) (r2 := 0) (r3 := 0) rfl (by decide) ?_
                refine wi_goto (nx := 10) (r1 := 31) (r2 := 0) (r3 := 0) rfl ?_
                refine wi_ireturn (nx := 32) (r1 := 0) (r2 := 0) (r3 := 0) rfl rfl ?_
                refine wk_i ?_
                refine wr_add (nx := 267) (r1 := 0) (r2 := 0) (r3 := 0) rfl (fun e80 (fe80 : e80 = x28 + 343) => ?_)
                refine wi_istore_n (i := 3) (e := e80) (lo2 := [(3, vi e80), (4, vi (h 238 i76)), (5, vi 1), (8, vi (h 238 i76)), (0, .ref 236), (1, vi z14), (2, vi (h18 246 i24)), (6, vi (h18 246 i48)), (7, vi 0)]) (nx := 268) (r1 := 0) (r2 := 0) (r3 := 0) rfl rfl ?_
                refine wi_aload_n (i := 0) (x := 236) (nx := 269) (r1 := 0) (r2 := 0) (r3 := 0) rfl rfl ?_
                refine wr_gr (k0 := 236) (x := 248) (nx := 272) (r1 := 11) (r2 := 31) (r3 := 0) rfl rfl (by decide) rfl ⟨rfl, rfl⟩ rfl ?_
                refine wi_aload_n (i := 0) (x := 236) (nx := 273) (r1 := 0) (r2 := 0) (r3 := 0) rfl rfl ?_
                refine wr_gi0 (k0 := 236) (x := h31 236 32) (nx := 276) (r1 := 11) (r2 := 32) (r3 := 0) rfl rfl (by decide) rfl ⟨rfl, rfl⟩ rfl (u41 236 32 rfl) ?_
                refine wi_iload (i := 7) (e := 0) (nx := 278) (r1 := 0) (r2 := 0) (r3 := 0) rfl rfl ?_
                obtain ⟨i81, ei81⟩ : ∃ q : Nat, (h31 236 32) = (q : Int) := ⟨(h31 236 32).toNat, by omega⟩
                refine wr_is (k0 := 248) (a := h31 236 32) (f := i81) (x := 0) (bl := 0) (bh := 3) (nx := 279) (r1 := 0) (r2 := 0) (r3 := 0) rfl (by decide) rfl (by omega) (by omega) (by decide) g41 rfl (by omega) (fun h82 g82 w82 u82 => ?_)
                have F83 := F42.then rfl (FR.rngp (lo := 248) (hi := 248) u82 (by decide))
                have F84 := F43.then rfl (FR.rngp (lo := 248) (hi := 248) u82 (by decide))
                refine wi_aload_n (i := 0) (x := 236) (nx := 280) (r1 := 0) (r2 := 0) (r3 := 0) rfl rfl ?_
                refine wi_dup (nx := 281) (r1 := 0) (r2 := 0) (r3 := 0) rfl rfl ?_
                refine wr_gi0 (k0 := 236) (x := h31 236 32) (nx := 284) (r1 := 11) (r2 := 32) (r3 := 0) rfl rfl (by decide) rfl ⟨rfl, rfl⟩ rfl ((u82 236 32 (fn_a (by omega) fn_0)).trans (u41 236 32 rfl)) ?_
                refine wi_iconst (n := 1) (nx := 285) (r1 := 0) (r2 := 0) (r3 := 0) rfl ?_
                refine wr_add (nx := 286) (r1 := 0) (r2 := 0) (r3 := 0) rfl (fun e85 (fe85 : e85 = (h31 236 32) + 1) => ?_)
                refine wr_pf0 (k0 := 236) (x := e85) (bl := 0) (bh := 12) (nx := 289) (r1 := 11) (r2 := 32) (r3 := 0) rfl (by decide) rfl ⟨rfl, rfl⟩ rfl rfl g82 rfl (by omega) (fun h86 g86 w86 u86 => ?_)
                have F87 := F83.then rfl u86
                have F88 := F84.then rfl u86
                refine wi_goto (nx := 292) (r1 := 153) (r2 := 0) (r3 := 0) rfl ?_
                have e89 : h86 236 32 = e85 := w86
                refine wp.lo (lo := [(0, .ref 236), (1, vi z14), (2, vi (h18 246 i24)), (3, vi e80), (4, vi (h 238 i76)), (5, vi 1)]) ⟨rfl, rfl, rfl, rfl, rfl, rfl, trivial⟩ rfl ?_
                have q90 : h41 238 = h31 238 := funext (fun i => (u41 238 i (fo_no_ok (by decide) i)))
                have q91 : h41 246 = h31 246 := funext (fun i => (u41 246 i (fo_no_ok (by decide) i)))
                have c92 : h41 246 i48 = h18 246 i48 := ((u41 246 i48 (fn_a (by decide) (fn_a (by decide) (fn_a (by decide) (fn_a (by decide) fn_0))))).trans (u31 246 i48 (fo_nk rfl)))
                have c93 : h31 238 i73 = h 238 i73 := ((u31 238 i73 (fo_nk rfl)).trans ((u18 238 i73 (fo_nk rfl)).trans (u15 238 i73 (fn_a (by omega) fn_0))))
                have c94 : h31 238 i76 = h 238 i76 := ((u31 238 i76 (fo_nk rfl)).trans ((u18 238 i76 (fo_nk rfl)).trans (u15 238 i76 (fn_a (by omega) fn_0))))
                have e95 : h31 238 5 = h 238 5 := ((u31 238 5 rfl).trans ((u18 238 5 rfl).trans (u15 238 5 rfl)))
                have t96 : h41 247 0 = TQ (x28).toNat 0 := y41_0 (x28).toNat (by omega) 0 (by decide)
                have wk97 := WK.step (R := h31 238) (LS := h31 246) (gi_RB g31) (l := 0) (p := (x28).toNat) (c := x29) (r := x30) (its := h 238 i76) (r2 := 1) (by decide) (by omega) (by omega) (X31_0 (x28).toNat (by omega)) (by rw [← q90, ← q91, ← u_by_T (T := h41 247) (fun l hl => y41_0 (x28).toNat (by omega) l hl) (by decide), ← y67_0, show 60 * (x28).toNat + 10 * (x29).toNat + (x30).toNat = i48 by omega]; omega) (by rw [show 74 + 6 * 0 + (TQ (x28).toNat 0).toNat = i73 by omega, show 31 + (h31 238 i73).toNat = i76 by omega]; omega) (by split <;> omega)
                have wk97b := wk97.2
                simp [wt] at wk97b
                have q98 : h86 238 = h31 238 := funext (fun i => ((u86 238 i rfl).trans ((u82 238 i (fn_a (by omega) fn_0)).trans (u41 238 i (fo_no_ok (by decide) i)))))
                have q99 : h86 246 = h31 246 := funext (fun i => ((u86 246 i rfl).trans ((u82 246 i (fn_a (by omega) fn_0)).trans (u41 246 i (fo_no_ok (by decide) i)))))
                exact I31 e80 (h 238 i76) 1 h86 ⟨g86, F87, F88, (show (0 ≤ e80 ∧ e80 ≤ 2400) ∧ (0 ≤ (h 238 i76) ∧ (h 238 i76) ≤ 5) ∧ (0 ≤ 1 ∧ 1 ≤ 9) ∧ (1 ≤ (h18 238 5)) ∧ ((h86 236 32) ≤ z14) by omega), (fun pp e => by
                    obtain rfl : pp = (x28).toNat + wt 0 := by simp [wt]; omega
                    rw [q98, q99, show h86 236 32 = h31 236 32 + 1 by omega]
                    exact wk97.1)⟩ (show (z14 - (h86 236 32)).toNat < (z14 - (h31 236 32)).toNat by omega)
              ·
                refine wi_iload (i := 5) (e := x30) (nx := 237) (r1 := 0) (r2 := 0) (r3 := 0) rfl rfl ?_
                refine wi_aload_n (i := 0) (x := 236) (nx := 238) (r1 := 0) (r2 := 0) (r3 := 0) rfl rfl ?_
                refine wr_gr (k0 := 236) (x := 238) (nx := 241) (r1 := 11) (r2 := 13) (r3 := 0) rfl rfl (by decide) rfl ⟨rfl, rfl⟩ rfl ?_
                refine wi_iconst (n := 5) (nx := 242) (r1 := 0) (r2 := 0) (r3 := 0) rfl ?_
                refine wr_ia (k0 := 238) (a := 5) (f := 5) (x := h 238 5) (nx := 243) (r1 := 0) (r2 := 0) (r3 := 0) rfl (by decide) rfl (by omega) (by omega) (by decide) ((u41 238 5 rfl).trans ((u31 238 5 rfl).trans ((u18 238 5 rfl).trans (u15 238 5 rfl)))) ?_
                refine wi_icmp (cd := .eq) (nx := 246) (r1 := 253) (r2 := 0) (r3 := 0) rfl (by omega) (by omega) (fun (q79 : x30 = (h 238 5)) => ?_) (fun (q79 : ¬ (x30 = (h 238 5))) => ?_)
                ·
                  refine wi_iconst (n := 1) (nx := 254) (r1 := 0) (r2 := 0) (r3 := 0) rfl ?_
                  refine wi_istore (i := 5) (e := 1) (lo2 := [(5, vi 1), (8, vi (h 238 i76)), (0, .ref 236), (1, vi z14), (2, vi (h18 246 i24)), (3, vi x28), (4, vi x29), (6, vi (h18 246 i48)), (7, vi 0)]) (nx := 256) (r1 := 0) (r2 := 0) (r3 := 0) rfl rfl ?_
                  refine wi_iload (i := 8) (e := h 238 i76) (nx := 258) (r1 := 0) (r2 := 0) (r3 := 0) rfl rfl ?_
                  refine wi_istore (i := 4) (e := h 238 i76) (lo2 := [(4, vi (h 238 i76)), (5, vi 1), (8, vi (h 238 i76)), (0, .ref 236), (1, vi z14), (2, vi (h18 246 i24)), (3, vi x28), (6, vi (h18 246 i48)), (7, vi 0)]) (nx := 260) (r1 := 0) (r2 := 0) (r3 := 0) rfl rfl ?_
                  refine wi_iload_n (i := 3) (e := x28) (nx := 261) (r1 := 0) (r2 := 0) (r3 := 0) rfl rfl ?_
                  refine wi_iload (i := 7) (e := 0) (nx := 263) (r1 := 0) (r2 := 0) (r3 := 0) rfl rfl ?_
                  refine wi_S (rest := [vi x28]) (as := [vi 0]) (nx := 266) (r1 := 307) (r2 := 17) (r3 := 0) rfl rfl rfl (of_decide_eq_true rfl) rfl rfl (of_decide_eq_true rfl) (of_decide_eq_true rfl) ?_
                  refine wi_iload_n (i := 0) (e := 0) (nx := 1) (r1 := 0) (r2 := 0) (r3 := 0) rfl rfl ?_
                  refine wi_if (cd := .ne) (nx := 4) (r1 := 10) (r2 := 0) (r3 := 0) rfl (by omega) (fun (q80 : 0 ≠ 0) => by exfalso; omega) (fun (q80 : ¬ (0 ≠ 0)) => ?_)
                  refine wi_sipush (n := 343) (nx := 7) (r1 := 0) (r2 := 0) (r3 := 0) rfl (by decide) ?_
                  refine wi_goto (nx := 10) (r1 := 31) (r2 := 0) (r3 := 0) rfl ?_
                  refine wi_ireturn (nx := 32) (r1 := 0) (r2 := 0) (r3 := 0) rfl rfl ?_
                  refine wk_i ?_
                  refine wr_add (nx := 267) (r1 := 0) (r2 := 0) (r3 := 0) rfl (fun e81 (fe81 : e81 = x28 + 343) => ?_)
                  refine wi_istore_n (i := 3) (e := e81) (lo2 := [(3, vi e81), (4, vi (h 238 i76)), (5, vi 1), (8, vi (h 238 i76)), (0, .ref 236), (1, vi z14), (2, vi (h18 246 i24)), (6, vi (h18 246 i48)), (7, vi 0)]) (nx := 268) (r1 := 0) (r2 := 0) (r3 := 0) rfl rfl ?_
                  refine wi_aload_n (i := 0) (x := 236) (nx := 269) (r1 := 0) (r2 := 0) (r3 := 0) rfl rfl ?_
                  refine wr_gr (k0 := 236) (x := 248) (nx := 272) (r1 := 11) (r2 := 31) (r3 := 0) rfl rfl (by decide) rfl ⟨rfl, rfl⟩ rfl ?_
                  refine wi_aload_n (i := 0) (x := 236) (nx := 273) (r1 := 0) (r2 := 0) (r3 := 0) rfl rfl ?_
                  refine wr_gi0 (k0 := 236) (x := h31 236 32) (nx := 276) (r1 := 11) (r2 := 32) (r3 := 0) rfl rfl (by decide) rfl ⟨rfl, rfl⟩ rfl (u41 236 32 rfl) ?_
                  refine wi_iload (i := 7) (e := 0) (nx := 278) (r1 := 0) (r2 := 0) (r3 := 0) rfl rfl ?_
                  obtain ⟨i82, ei82⟩ : ∃ q : Nat, (h31 236 32) = (q : Int) := ⟨(h31 236 32).toNat, by omega⟩
                  refine wr_is (k0 := 248) (a := h31 236 32) (f := i82) (x := 0) (bl := 0) (bh := 3) (nx := 279) (r1 := 0) (r2 := 0) (r3 := 0) rfl (by decide) rfl (by omega) (by omega) (by decide) g41 rfl (by omega) (fun h83 g83 w83 u83 => ?_)
                  have F84 := F42.then rfl (FR.rngp (lo := 248) (hi := 248) u83 (by decide))
                  have F85 := F43.then rfl (FR.rngp (lo := 248) (hi := 248) u83 (by decide))
                  refine wi_aload_n (i := 0) (x := 236) (nx := 280) (r1 := 0) (r2 := 0) (r3 := 0) rfl rfl ?_
                  refine wi_dup (nx := 281) (r1 := 0) (r2 := 0) (r3 := 0) rfl rfl ?_
                  refine wr_gi0 (k0 := 236) (x := h31 236 32) (nx := 284) (r1 := 11) (r2 := 32) (r3 := 0) rfl rfl (by decide) rfl ⟨rfl, rfl⟩ rfl ((u83 236 32 (fn_a (by omega) fn_0)).trans (u41 236 32 rfl)) ?_
                  refine wi_iconst (n := 1) (nx := 285) (r1 := 0) (r2 := 0) (r3 := 0) rfl ?_
                  refine wr_add (nx := 286) (r1 := 0) (r2 := 0) (r3 := 0) rfl (fun e86 (fe86 : e86 = (h31 236 32) + 1) => ?_)
                  refine wr_pf0 (k0 := 236) (x := e86) (bl := 0) (bh := 12) (nx := 289) (r1 := 11) (r2 := 32) (r3 := 0) rfl (by decide) rfl ⟨rfl, rfl⟩ rfl rfl g83 rfl (by omega) (fun h87 g87 w87 u87 => ?_)
                  have F88 := F84.then rfl u87
                  have F89 := F85.then rfl u87
                  refine wi_goto (nx := 292) (r1 := 153) (r2 := 0) (r3 := 0) rfl ?_
                  have e90 : h87 236 32 = e86 := w87
                  refine wp.lo (lo := [(0, .ref 236), (1, vi z14), (2, vi (h18 246 i24)), (3, vi e81), (4, vi (h 238 i76)), (5, vi 1)]) ⟨rfl, rfl, rfl, rfl, rfl, rfl, trivial⟩ rfl ?_
                  have q91 : h41 238 = h31 238 := funext (fun i => (u41 238 i (fo_no_ok (by decide) i)))
                  have q92 : h41 246 = h31 246 := funext (fun i => (u41 246 i (fo_no_ok (by decide) i)))
                  have c93 : h41 246 i48 = h18 246 i48 := ((u41 246 i48 (fn_a (by decide) (fn_a (by decide) (fn_a (by decide) (fn_a (by decide) fn_0))))).trans (u31 246 i48 (fo_nk rfl)))
                  have c94 : h31 238 i73 = h 238 i73 := ((u31 238 i73 (fo_nk rfl)).trans ((u18 238 i73 (fo_nk rfl)).trans (u15 238 i73 (fn_a (by omega) fn_0))))
                  have c95 : h31 238 i76 = h 238 i76 := ((u31 238 i76 (fo_nk rfl)).trans ((u18 238 i76 (fo_nk rfl)).trans (u15 238 i76 (fn_a (by omega) fn_0))))
                  have e96 : h31 238 5 = h 238 5 := ((u31 238 5 rfl).trans ((u18 238 5 rfl).trans (u15 238 5 rfl)))
                  have t97 : h41 247 0 = TQ (x28).toNat 0 := y41_0 (x28).toNat (by omega) 0 (by decide)
                  have wk98 := WK.step (R := h31 238) (LS := h31 246) (gi_RB g31) (l := 0) (p := (x28).toNat) (c := x29) (r := x30) (its := h 238 i76) (r2 := 1) (by decide) (by omega) (by omega) (X31_0 (x28).toNat (by omega)) (by rw [← q91, ← q92, ← u_by_T (T := h41 247) (fun l hl => y41_0 (x28).toNat (by omega) l hl) (by decide), ← y67_0, show 60 * (x28).toNat + 10 * (x29).toNat + (x30).toNat = i48 by omega]; omega) (by rw [show 74 + 6 * 0 + (TQ (x28).toNat 0).toNat = i73 by omega, show 31 + (h31 238 i73).toNat = i76 by omega]; omega) (by split <;> omega)
                  have wk98b := wk98.2
                  simp [wt] at wk98b
                  have q99 : h87 238 = h31 238 := funext (fun i => ((u87 238 i rfl).trans ((u83 238 i (fn_a (by omega) fn_0)).trans (u41 238 i (fo_no_ok (by decide) i)))))
                  have q100 : h87 246 = h31 246 := funext (fun i => ((u87 246 i rfl).trans ((u83 246 i (fn_a (by omega) fn_0)).trans (u41 246 i (fo_no_ok (by decide) i)))))
                  exact I31 e81 (h 238 i76) 1 h87 ⟨g87, F88, F89, (show (0 ≤ e81 ∧ e81 ≤ 2400) ∧ (0 ≤ (h 238 i76) ∧ (h 238 i76) ≤ 5) ∧ (0 ≤ 1 ∧ 1 ≤ 9) ∧ (1 ≤ (h18 238 5)) ∧ ((h87 236 32) ≤ z14) by omega), (fun pp e => by
                      obtain rfl : pp = (x28).toNat + wt 0 := by simp [wt]; omega
                      rw [q99, q100, show h87 236 32 = h31 236 32 + 1 by omega]
                      exact wk98.1)⟩ (show (z14 - (h87 236 32)).toNat < (z14 - (h31 236 32)).toNat by omega)
                ·
                  refine wi_iload (i := 5) (e := x30) (nx := 248) (r1 := 0) (r2 := 0) (r3 := 0) rfl rfl ?_
                  refine wi_iconst (n := 1) (nx := 249) (r1 := 0) (r2 := 0) (r3 := 0) rfl ?_
                  refine wr_add (nx := 250) (r1 := 0) (r2 := 0) (r3 := 0) rfl (fun e80 (fe80 : e80 = x30 + 1) => ?_)
                  refine wi_goto (nx := 253) (r1 := 254) (r2 := 0) (r3 := 0) rfl ?_
                  refine wi_istore (i := 5) (e := e80) (lo2 := [(5, vi e80), (8, vi (h 238 i76)), (0, .ref 236), (1, vi z14), (2, vi (h18 246 i24)), (3, vi x28), (4, vi x29), (6, vi (h18 246 i48)), (7, vi 0)]) (nx := 256) (r1 := 0) (r2 := 0) (r3 := 0) rfl rfl ?_
                  refine wi_iload (i := 8) (e := h 238 i76) (nx := 258) (r1 := 0) (r2 := 0) (r3 := 0) rfl rfl ?_
                  refine wi_istore (i := 4) (e := h 238 i76) (lo2 := [(4, vi (h 238 i76)), (5, vi e80), (8, vi (h 238 i76)), (0, .ref 236), (1, vi z14), (2, vi (h18 246 i24)), (3, vi x28), (6, vi (h18 246 i48)), (7, vi 0)]) (nx := 260) (r1 := 0) (r2 := 0) (r3 := 0) rfl rfl ?_
                  refine wi_iload_n (i := 3) (e := x28) (nx := 261) (r1 := 0) (r2 := 0) (r3 := 0) rfl rfl ?_
                  refine wi_iload (i := 7) (e := 0) (nx := 263) (r1 := 0) (r2 := 0) (r3 := 0) rfl rfl ?_
                  refine wi_S (rest := [vi x28]) (as := [vi 0]) (nx := 266) (r1 := 307) (r2 := 17) (r3 := 0) rfl rfl rfl (of_decide_eq_true rfl) rfl rfl (of_decide_eq_true rfl) (of_decide_eq_true rfl) ?_
                  refine wi_iload_n (i := 0) (e := 0) (nx := 1) (r1 := 0) (r2 := 0) (r3 := 0) rfl rfl ?_
                  refine wi_if (cd := .ne) (nx := 4) (r1 := 10) (r2 := 0) (r3 := 0) rfl (by omega) (fun (q81 : 0 ≠ 0) => by exfalso; omega) (fun (q81 : ¬ (0 ≠ 0)) => ?_)
                  refine wi_sipush (n := 343) (nx := 7) (r1 := 0) (r2 := 0) (r3 := 0) rfl (by decide) ?_
                  refine wi_goto (nx := 10) (r1 := 31) (r2 := 0) (r3 := 0) rfl ?_
                  refine wi_ireturn (nx := 32) (r1 := 0) (r2 := 0) (r3 := 0) rfl rfl ?_
                  refine wk_i ?_
                  refine wr_add (nx := 267) (r1 := 0) (r2 := 0) (r3 := 0) rfl (fun e82 (fe82 : e82 = x28 + 343) => ?_)
                  refine wi_istore_n (i := 3) (e := e82) (lo2 := [(3, vi e82), (4, vi (h 238 i76)), (5, vi e80), (8, vi (h 238 i76)), (0, .ref 236), (1, vi z14), (2, vi (h18 246 i24)), (6, vi (h18 246 i48)), (7, vi 0)]) (nx := 268) (r1 := 0) (r2 := 0) (r3 := 0) rfl rfl ?_
                  refine wi_aload_n (i := 0) (x := 236) (nx := 269) (r1 := 0) (r2 := 0) (r3 := 0) rfl rfl ?_
                  refine wr_gr (k0 := 236) (x := 248) (nx := 272) (r1 := 11) (r2 := 31) (r3 := 0) rfl rfl (by decide) rfl ⟨rfl, rfl⟩ rfl ?_
                  refine wi_aload_n (i := 0) (x := 236) (nx := 273) (r1 := 0) (r2 := 0) (r3 := 0) rfl rfl ?_
                  refine wr_gi0 (k0 := 236) (x := h31 236 32) (nx := 276) (r1 := 11) (r2 := 32) (r3 := 0) rfl rfl (by decide) rfl ⟨rfl, rfl⟩ rfl (u41 236 32 rfl) ?_
                  refine wi_iload (i := 7) (e := 0) (nx := 278) (r1 := 0) (r2 := 0) (r3 := 0) rfl rfl ?_
                  obtain ⟨i83, ei83⟩ : ∃ q : Nat, (h31 236 32) = (q : Int) := ⟨(h31 236 32).toNat, by omega⟩
                  refine wr_is (k0 := 248) (a := h31 236 32) (f := i83) (x := 0) (bl := 0) (bh := 3) (nx := 279) (r1 := 0) (r2 := 0) (r3 := 0) rfl (by decide) rfl (by omega) (by omega) (by decide) g41 rfl (by omega) (fun h84 g84 w84 u84 => ?_)
                  have F85 := F42.then rfl (FR.rngp (lo := 248) (hi := 248) u84 (by decide))
                  have F86 := F43.then rfl (FR.rngp (lo := 248) (hi := 248) u84 (by decide))
                  refine wi_aload_n (i := 0) (x := 236) (nx := 280) (r1 := 0) (r2 := 0) (r3 := 0) rfl rfl ?_
                  refine wi_dup (nx := 281) (r1 := 0) (r2 := 0) (r3 := 0) rfl rfl ?_
                  refine wr_gi0 (k0 := 236) (x := h31 236 32) (nx := 284) (r1 := 11) (r2 := 32) (r3 := 0) rfl rfl (by decide) rfl ⟨rfl, rfl⟩ rfl ((u84 236 32 (fn_a (by omega) fn_0)).trans (u41 236 32 rfl)) ?_
                  refine wi_iconst (n := 1) (nx := 285) (r1 := 0) (r2 := 0) (r3 := 0) rfl ?_
                  refine wr_add (nx := 286) (r1 := 0) (r2 := 0) (r3 := 0) rfl (fun e87 (fe87 : e87 = (h31 236 32) + 1) => ?_)
                  refine wr_pf0 (k0 := 236) (x := e87) (bl := 0) (bh := 12) (nx := 289) (r1 := 11) (r2 := 32) (r3 := 0) rfl (by decide) rfl ⟨rfl, rfl⟩ rfl rfl g84 rfl (by omega) (fun h88 g88 w88 u88 => ?_)
                  have F89 := F85.then rfl u88
                  have F90 := F86.then rfl u88
                  refine wi_goto (nx := 292) (r1 := 153) (r2 := 0) (r3 := 0) rfl ?_
                  have e91 : h88 236 32 = e87 := w88
                  refine wp.lo (lo := [(0, .ref 236), (1, vi z14), (2, vi (h18 246 i24)), (3, vi e82), (4, vi (h 238 i76)), (5, vi e80)]) ⟨rfl, rfl, rfl, rfl, rfl, rfl, trivial⟩ rfl ?_
                  have q92 : h41 238 = h31 238 := funext (fun i => (u41 238 i (fo_no_ok (by decide) i)))
                  have q93 : h41 246 = h31 246 := funext (fun i => (u41 246 i (fo_no_ok (by decide) i)))
                  have c94 : h41 246 i48 = h18 246 i48 := ((u41 246 i48 (fn_a (by decide) (fn_a (by decide) (fn_a (by decide) (fn_a (by decide) fn_0))))).trans (u31 246 i48 (fo_nk rfl)))
                  have c95 : h31 238 i73 = h 238 i73 := ((u31 238 i73 (fo_nk rfl)).trans ((u18 238 i73 (fo_nk rfl)).trans (u15 238 i73 (fn_a (by omega) fn_0))))
                  have c96 : h31 238 i76 = h 238 i76 := ((u31 238 i76 (fo_nk rfl)).trans ((u18 238 i76 (fo_nk rfl)).trans (u15 238 i76 (fn_a (by omega) fn_0))))
                  have e97 : h31 238 5 = h 238 5 := ((u31 238 5 rfl).trans ((u18 238 5 rfl).trans (u15 238 5 rfl)))
                  have t98 : h41 247 0 = TQ (x28).toNat 0 := y41_0 (x28).toNat (by omega) 0 (by decide)
                  have wk99 := WK.step (R := h31 238) (LS := h31 246) (gi_RB g31) (l := 0) (p := (x28).toNat) (c := x29) (r := x30) (its := h 238 i76) (r2 := e80) (by decide) (by omega) (by omega) (X31_0 (x28).toNat (by omega)) (by rw [← q92, ← q93, ← u_by_T (T := h41 247) (fun l hl => y41_0 (x28).toNat (by omega) l hl) (by decide), ← y67_0, show 60 * (x28).toNat + 10 * (x29).toNat + (x30).toNat = i48 by omega]; omega) (by rw [show 74 + 6 * 0 + (TQ (x28).toNat 0).toNat = i73 by omega, show 31 + (h31 238 i73).toNat = i76 by omega]; omega) (by split <;> omega)
                  have wk99b := wk99.2
                  simp [wt] at wk99b
                  have q100 : h88 238 = h31 238 := funext (fun i => ((u88 238 i rfl).trans ((u84 238 i (fn_a (by omega) fn_0)).trans (u41 238 i (fo_no_ok (by decide) i)))))
                  have q101 : h88 246 = h31 246 := funext (fun i => ((u88 246 i rfl).trans ((u84 246 i (fn_a (by omega) fn_0)).trans (u41 246 i (fo_no_ok (by decide) i)))))
                  exact I31 e82 (h 238 i76) e80 h88 ⟨g88, F89, F90, (show (0 ≤ e82 ∧ e82 ≤ 2400) ∧ (0 ≤ (h 238 i76) ∧ (h 238 i76) ≤ 5) ∧ (0 ≤ e80 ∧ e80 ≤ 9) ∧ (e80 ≤ (h18 238 5)) ∧ ((h88 236 32) ≤ z14) by omega), (fun pp e => by
                      obtain rfl : pp = (x28).toNat + wt 0 := by simp [wt]; omega
                      rw [q100, q101, show h88 236 32 = h31 236 32 + 1 by omega]
                      exact wk99.1)⟩ (show (z14 - (h88 236 32)).toNat < (z14 - (h31 236 32)).toNat by omega)
            ·
              refine wr_iincL (i := 7) (n := 1) (v := 0) (1) ([(7, vi 1), (0, .ref 236), (1, vi z14), (2, vi (h18 246 i24)), (3, vi x28), (4, vi x29), (5, vi x30), (6, vi (h18 246 i48))]) (nx := 202) (r1 := 0) (r2 := 0) (r3 := 0) rfl rfl (by decide) rfl ?_
              refine wi_goto (nx := 205) (r1 := 184) (r2 := 0) (r3 := 0) rfl ?_
              refine wp.lo (lo := [(0, .ref 236), (1, vi z14), (2, vi (h18 246 i24)), (3, vi x28), (4, vi x29), (5, vi x30), (6, vi (h18 246 i48)), (7, vi 1)]) ⟨rfl, rfl, rfl, rfl, rfl, rfl, rfl, rfl, trivial⟩ rfl ?_
              obtain ⟨la72, haa72, hba72, hca72⟩ := X53_0
              have hda72 : la72 ≠ 0 := fun e => by subst e; omega
              exact I53 1 h41 ⟨rfl, (show (0 ≤ 1 ∧ 1 ≤ 3) by omega), ⟨la72, by omega, hba72, hca72⟩⟩ (show ((3 : Int) + 1 - 1).toNat < ((3 : Int) + 1 - x52).toNat by omega)
          ·
            rw [q66]
            refine wr_V (k0 := 236) (rest := []) (as := [.ref 236, vi 1, vi x29, vi x30]) (nx := 194) (r1 := 305) (r2 := 3) (r3 := 11) rfl rfl rfl (of_decide_eq_true rfl) rfl rfl (by decide) rfl rfl (of_decide_eq_true rfl) (of_decide_eq_true rfl) ?_
            refine ct_305_236_L1 hcr  g41 x29 x30 (by omega) (by omega)  (fun z68  (fz68 : 0 ≤ z68 ∧ z68 ≤ 1099900) (p67_0 : z68 = 1000000 ∨ (h41 247 1) < (h41 238 99)) y67_0 => ?_)
            have b69 := gi_b (lo := 0) (hi := 6) g41 247 1 rfl
            have e70 : h41 238 99 = h 238 99 := ((u41 238 99 rfl).trans ((u31 238 99 rfl).trans ((u18 238 99 rfl).trans (u15 238 99 rfl))))
            refine wk_i ?_
            refine wi_iload (i := 6) (e := h18 246 i48) (nx := 196) (r1 := 0) (r2 := 0) (r3 := 0) rfl rfl ?_
            refine wi_icmp (cd := .eq) (nx := 199) (r1 := 205) (r2 := 0) (r3 := 0) rfl (by omega) (by omega) (fun (q71 : z68 = (h18 246 i48)) => ?_) (fun (q71 : ¬ (z68 = (h18 246 i48))) => ?_)
            ·
              refine wi_aload_n (i := 0) (x := 236) (nx := 206) (r1 := 0) (r2 := 0) (r3 := 0) rfl rfl ?_
              refine wr_gr (k0 := 236) (x := 238) (nx := 209) (r1 := 11) (r2 := 13) (r3 := 0) rfl rfl (by decide) rfl ⟨rfl, rfl⟩ rfl ?_
              refine wi_bipush (n := 31) (nx := 211) (r1 := 0) (r2 := 0) (r3 := 0) rfl (by decide) ?_
              refine wi_aload_n (i := 0) (x := 236) (nx := 212) (r1 := 0) (r2 := 0) (r3 := 0) rfl rfl ?_
              refine wi_iload (i := 7) (e := 1) (nx := 214) (r1 := 0) (r2 := 0) (r3 := 0) rfl rfl ?_
              refine wi_aload_n (i := 0) (x := 236) (nx := 215) (r1 := 0) (r2 := 0) (r3 := 0) rfl rfl ?_
              refine wr_gr (k0 := 236) (x := 247) (nx := 218) (r1 := 11) (r2 := 30) (r3 := 0) rfl rfl (by decide) rfl ⟨rfl, rfl⟩ rfl ?_
              refine wi_iload (i := 7) (e := 1) (nx := 220) (r1 := 0) (r2 := 0) (r3 := 0) rfl rfl ?_
              refine wr_ia (k0 := 247) (a := 1) (f := 1) (x := h41 247 1) (nx := 221) (r1 := 0) (r2 := 0) (r3 := 0) rfl (by decide) rfl (by omega) (by omega) (by decide) rfl ?_
              refine wr_V (k0 := 236) (rest := [vi 31, .ref 238]) (as := [.ref 236, vi 1, vi (h41 247 1)]) (nx := 224) (r1 := 258) (r2 := 2) (r3 := 11) rfl rfl rfl (of_decide_eq_true rfl) rfl rfl (by decide) rfl rfl (of_decide_eq_true rfl) (of_decide_eq_true rfl) ?_
              refine wi_aload_n (i := 0) (x := 236) (nx := 1) (r1 := 0) (r2 := 0) (r3 := 0) rfl rfl ?_
              refine wr_gr (k0 := 236) (x := 238) (nx := 4) (r1 := 11) (r2 := 13) (r3 := 0) rfl rfl (by decide) rfl ⟨rfl, rfl⟩ rfl ?_
              refine wi_bipush (n := 74) (nx := 6) (r1 := 0) (r2 := 0) (r3 := 0) rfl (by decide) ?_
              refine wi_bipush (n := 6) (nx := 8) (r1 := 0) (r2 := 0) (r3 := 0) rfl (by decide) ?_
              refine wi_iload_n (i := 1) (e := 1) (nx := 9) (r1 := 0) (r2 := 0) (r3 := 0) rfl rfl ?_
              refine wr_mulL (6) (nx := 10) (r1 := 0) (r2 := 0) (r3 := 0) rfl (by decide) ?_
              refine wr_addL (80) (nx := 11) (r1 := 0) (r2 := 0) (r3 := 0) rfl (by decide) ?_
              refine wi_iload_n (i := 2) (e := h41 247 1) (nx := 12) (r1 := 0) (r2 := 0) (r3 := 0) rfl rfl ?_
              refine wr_add (nx := 13) (r1 := 0) (r2 := 0) (r3 := 0) rfl (fun e72 (fe72 : e72 = 80 + (h41 247 1)) => ?_)
              obtain ⟨i73, ei73⟩ : ∃ q : Nat, e72 = (q : Int) := ⟨(e72).toNat, by omega⟩
              have b74 := gi_b (lo := 0) (hi := 11) g 238 i73 (gi_rg 80 6 (fun _ => rfl) (by decide +kernel) (by omega))
              refine wr_ia (k0 := 238) (a := e72) (f := i73) (x := h 238 i73) (nx := 14) (r1 := 0) (r2 := 0) (r3 := 0) rfl (by decide) rfl (by omega) (by omega) (by decide) ((u41 238 i73 (fn_a (by decide) (fn_a (by decide) (fn_a (by decide) (fn_a (by decide) fn_0))))).trans ((u31 238 i73 (fo_nk rfl)).trans ((u18 238 i73 (fo_nk rfl)).trans (u15 238 i73 (fn_a (by omega) fn_0))))) ?_
              refine wi_ireturn (nx := 15) (r1 := 0) (r2 := 0) (r3 := 0) rfl rfl ?_
              refine wk_i ?_
              refine wr_add (nx := 225) (r1 := 0) (r2 := 0) (r3 := 0) rfl (fun e75 (fe75 : e75 = 31 + (h 238 i73)) => ?_)
              obtain ⟨i76, ei76⟩ : ∃ q : Nat, e75 = (q : Int) := ⟨(e75).toNat, by omega⟩
              have b77 := gi_b (lo := 0) (hi := 4) g 238 i76 (gi_rg 31 12 (fun _ => rfl) (by decide +kernel) (by omega))
              refine wr_ia (k0 := 238) (a := e75) (f := i76) (x := h 238 i76) (nx := 226) (r1 := 0) (r2 := 0) (r3 := 0) rfl (by decide) rfl (by omega) (by omega) (by decide) ((u41 238 i76 (fn_a (by decide) (fn_a (by decide) (fn_a (by decide) (fn_a (by decide) fn_0))))).trans ((u31 238 i76 (fo_nk rfl)).trans ((u18 238 i76 (fo_nk rfl)).trans (u15 238 i76 (fn_a (by omega) fn_0))))) ?_
              refine wi_istore (i := 8) (e := h 238 i76) (lo2 := [(8, vi (h 238 i76)), (0, .ref 236), (1, vi z14), (2, vi (h18 246 i24)), (3, vi x28), (4, vi x29), (5, vi x30), (6, vi (h18 246 i48)), (7, vi 1)]) (nx := 228) (r1 := 0) (r2 := 0) (r3 := 0) rfl rfl ?_
              refine wi_iload (i := 8) (e := h 238 i76) (nx := 230) (r1 := 0) (r2 := 0) (r3 := 0) rfl rfl ?_
              refine wi_iload (i := 4) (e := x29) (nx := 232) (r1 := 0) (r2 := 0) (r3 := 0) rfl rfl ?_
              refine wi_icmp (cd := .ne) (nx := 235) (r1 := 253) (r2 := 0) (r3 := 0) rfl (by omega) (by omega) (fun (q78 : (h 238 i76) ≠ x29) => ?_) (fun (q78 : ¬ ((h 238 i76) ≠ x29)) => ?_)
              ·
                refine wi_iconst (n := 1) (nx := 254) (r1 := 0) (r2 := 0) (r3 := 0) rfl ?_
                refine wi_istore (i := 5) (e := 1) (lo2 := [(5, vi 1), (8, vi (h 238 i76)), (0, .ref 236), (1, vi z14), (2, vi (h18 246 i24)), (3, vi x28), (4, vi x29), (6, vi (h18 246 i48)), (7, vi 1)]) (nx := 256) (r1 := 0) (r2 := 0) (r3 := 0) rfl rfl ?_
                refine wi_iload (i := 8) (e := h 238 i76) (nx := 258) (r1 := 0) (r2 := 0) (r3 := 0) rfl rfl ?_
                refine wi_istore (i := 4) (e := h 238 i76) (lo2 := [(4, vi (h 238 i76)), (5, vi 1), (8, vi (h 238 i76)), (0, .ref 236), (1, vi z14), (2, vi (h18 246 i24)), (3, vi x28), (6, vi (h18 246 i48)), (7, vi 1)]) (nx := 260) (r1 := 0) (r2 := 0) (r3 := 0) rfl rfl ?_
                refine wi_iload_n (i := 3) (e := x28) (nx := 261) (r1 := 0) (r2 := 0) (r3 := 0) rfl rfl ?_
                refine wi_iload (i := 7) (e := 1) (nx := 263) (r1 := 0) (r2 := 0) (r3 := 0) rfl rfl ?_
                refine wi_S (rest := [vi x28]) (as := [vi 1]) (nx := 266) (r1 := 307) (r2 := 17) (r3 := 0) rfl rfl rfl (of_decide_eq_true rfl) rfl rfl (of_decide_eq_true rfl) (of_decide_eq_true rfl) ?_
                refine wi_iload_n (i := 0) (e := 1) (nx := 1) (r1 := 0) (r2 := 0) (r3 := 0) rfl rfl ?_
                refine wi_if (cd := .ne) (nx := 4) (r1 := 10) (r2 := 0) (r3 := 0) rfl (by omega) (fun (q79 : 1 ≠ 0) => ?_) (fun (q79 : ¬ (1 ≠ 0)) => by exfalso; omega)
                refine wi_iload_n (i := 0) (e := 1) (nx := 11) (r1 := 0) (r2 := 0) (r3 := 0) rfl rfl ?_
                refine wi_iconst (n := 1) (nx := 12) (r1 := 0) (r2 := 0) (r3 := 0) rfl ?_
                refine wi_icmp (cd := .ne) (nx := 15) (r1 := 20) (r2 := 0) (r3 := 0) rfl (by omega) (by omega) (fun (q80 : 1 ≠ 1) => by exfalso; omega) (fun (q80 : ¬ (1 ≠ 1)) => ?_)
                refine wi_bipush (n := 49) (nx := 17) (r1 := 0) (r2 := 0) (r3 := 0) rfl (by decide) ?_
                refine wi_goto (nx := 20) (r1 := 31) (r2 := 0) (r3 := 0) rfl ?_
                refine wi_ireturn (nx := 32) (r1 := 0) (r2 := 0) (r3 := 0) rfl rfl ?_
                refine wk_i ?_
                refine wr_add (nx := 267) (r1 := 0) (r2 := 0) (r3 := 0) rfl (fun e81 (fe81 : e81 = x28 + 49) => ?_)
                refine wi_istore_n (i := 3) (e := e81) (lo2 := [(3, vi e81), (4, vi (h 238 i76)), (5, vi 1), (8, vi (h 238 i76)), (0, .ref 236), (1, vi z14), (2, vi (h18 246 i24)), (6, vi (h18 246 i48)), (7, vi 1)]) (nx := 268) (r1 := 0) (r2 := 0) (r3 := 0) rfl rfl ?_
                refine wi_aload_n (i := 0) (x := 236) (nx := 269) (r1 := 0) (r2 := 0) (r3 := 0) rfl rfl ?_
                refine wr_gr (k0 := 236) (x := 248) (nx := 272) (r1 := 11) (r2 := 31) (r3 := 0) rfl rfl (by decide) rfl ⟨rfl, rfl⟩ rfl ?_
                refine wi_aload_n (i := 0) (x := 236) (nx := 273) (r1 := 0) (r2 := 0) (r3 := 0) rfl rfl ?_
                refine wr_gi0 (k0 := 236) (x := h31 236 32) (nx := 276) (r1 := 11) (r2 := 32) (r3 := 0) rfl rfl (by decide) rfl ⟨rfl, rfl⟩ rfl (u41 236 32 rfl) ?_
                refine wi_iload (i := 7) (e := 1) (nx := 278) (r1 := 0) (r2 := 0) (r3 := 0) rfl rfl ?_
                obtain ⟨i82, ei82⟩ : ∃ q : Nat, (h31 236 32) = (q : Int) := ⟨(h31 236 32).toNat, by omega⟩
                refine wr_is (k0 := 248) (a := h31 236 32) (f := i82) (x := 1) (bl := 0) (bh := 3) (nx := 279) (r1 := 0) (r2 := 0) (r3 := 0) rfl (by decide) rfl (by omega) (by omega) (by decide) g41 rfl (by omega) (fun h83 g83 w83 u83 => ?_)
                have F84 := F42.then rfl (FR.rngp (lo := 248) (hi := 248) u83 (by decide))
                have F85 := F43.then rfl (FR.rngp (lo := 248) (hi := 248) u83 (by decide))
                refine wi_aload_n (i := 0) (x := 236) (nx := 280) (r1 := 0) (r2 := 0) (r3 := 0) rfl rfl ?_
                refine wi_dup (nx := 281) (r1 := 0) (r2 := 0) (r3 := 0) rfl rfl ?_
                refine wr_gi0 (k0 := 236) (x := h31 236 32) (nx := 284) (r1 := 11) (r2 := 32) (r3 := 0) rfl rfl (by decide) rfl ⟨rfl, rfl⟩ rfl ((u83 236 32 (fn_a (by omega) fn_0)).trans (u41 236 32 rfl)) ?_
                refine wi_iconst (n := 1) (nx := 285) (r1 := 0) (r2 := 0) (r3 := 0) rfl ?_
                refine wr_add (nx := 286) (r1 := 0) (r2 := 0) (r3 := 0) rfl (fun e86 (fe86 : e86 = (h31 236 32) + 1) => ?_)
                refine wr_pf0 (k0 := 236) (x := e86) (bl := 0) (bh := 12) (nx := 289) (r1 := 11) (r2 := 32) (r3 := 0) rfl (by decide) rfl ⟨rfl, rfl⟩ rfl rfl g83 rfl (by omega) (fun h87 g87 w87 u87 => ?_)
                have F88 := F84.then rfl u87
                have F89 := F85.then rfl u87
                refine wi_goto (nx := 292) (r1 := 153) (r2 := 0) (r3 := 0) rfl ?_
                have e90 : h87 236 32 = e86 := w87
                refine wp.lo (lo := [(0, .ref 236), (1, vi z14), (2, vi (h18 246 i24)), (3, vi e81), (4, vi (h 238 i76)), (5, vi 1)]) ⟨rfl, rfl, rfl, rfl, rfl, rfl, trivial⟩ rfl ?_
                have q91 : h41 238 = h31 238 := funext (fun i => (u41 238 i (fo_no_ok (by decide) i)))
                have q92 : h41 246 = h31 246 := funext (fun i => (u41 246 i (fo_no_ok (by decide) i)))
                have c93 : h41 246 i48 = h18 246 i48 := ((u41 246 i48 (fn_a (by decide) (fn_a (by decide) (fn_a (by decide) (fn_a (by decide) fn_0))))).trans (u31 246 i48 (fo_nk rfl)))
                have c94 : h31 238 i73 = h 238 i73 := ((u31 238 i73 (fo_nk rfl)).trans ((u18 238 i73 (fo_nk rfl)).trans (u15 238 i73 (fn_a (by omega) fn_0))))
                have c95 : h31 238 i76 = h 238 i76 := ((u31 238 i76 (fo_nk rfl)).trans ((u18 238 i76 (fo_nk rfl)).trans (u15 238 i76 (fn_a (by omega) fn_0))))
                have e96 : h31 238 5 = h 238 5 := ((u31 238 5 rfl).trans ((u18 238 5 rfl).trans (u15 238 5 rfl)))
                have t97 : h41 247 1 = TQ (x28).toNat 1 := y41_0 (x28).toNat (by omega) 1 (by decide)
                have wk98 := WK.step (R := h31 238) (LS := h31 246) (gi_RB g31) (l := 1) (p := (x28).toNat) (c := x29) (r := x30) (its := h 238 i76) (r2 := 1) (by decide) (by omega) (by omega) (X31_0 (x28).toNat (by omega)) (by rw [← q91, ← q92, ← u_by_T (T := h41 247) (fun l hl => y41_0 (x28).toNat (by omega) l hl) (by decide), ← y67_0, show 60 * (x28).toNat + 10 * (x29).toNat + (x30).toNat = i48 by omega]; omega) (by rw [show 74 + 6 * 1 + (TQ (x28).toNat 1).toNat = i73 by omega, show 31 + (h31 238 i73).toNat = i76 by omega]; omega) (by split <;> omega)
                have wk98b := wk98.2
                simp [wt] at wk98b
                have q99 : h87 238 = h31 238 := funext (fun i => ((u87 238 i rfl).trans ((u83 238 i (fn_a (by omega) fn_0)).trans (u41 238 i (fo_no_ok (by decide) i)))))
                have q100 : h87 246 = h31 246 := funext (fun i => ((u87 246 i rfl).trans ((u83 246 i (fn_a (by omega) fn_0)).trans (u41 246 i (fo_no_ok (by decide) i)))))
                exact I31 e81 (h 238 i76) 1 h87 ⟨g87, F88, F89, (show (0 ≤ e81 ∧ e81 ≤ 2400) ∧ (0 ≤ (h 238 i76) ∧ (h 238 i76) ≤ 5) ∧ (0 ≤ 1 ∧ 1 ≤ 9) ∧ (1 ≤ (h18 238 5)) ∧ ((h87 236 32) ≤ z14) by omega), (fun pp e => by
                    obtain rfl : pp = (x28).toNat + wt 1 := by simp [wt]; omega
                    rw [q99, q100, show h87 236 32 = h31 236 32 + 1 by omega]
                    exact wk98.1)⟩ (show (z14 - (h87 236 32)).toNat < (z14 - (h31 236 32)).toNat by omega)
              ·
                refine wi_iload (i := 5) (e := x30) (nx := 237) (r1 := 0) (r2 := 0) (r3 := 0) rfl rfl ?_
                refine wi_aload_n (i := 0) (x := 236) (nx := 238) (r1 := 0) (r2 := 0) (r3 := 0) rfl rfl ?_
                refine wr_gr (k0 := 236) (x := 238) (nx := 241) (r1 := 11) (r2 := 13) (r3 := 0) rfl rfl (by decide) rfl ⟨rfl, rfl⟩ rfl ?_
                refine wi_iconst (n := 5) (nx := 242) (r1 := 0) (r2 := 0) (r3 := 0) rfl ?_
                refine wr_ia (k0 := 238) (a := 5) (f := 5) (x := h 238 5) (nx := 243) (r1 := 0) (r2 := 0) (r3 := 0) rfl (by decide) rfl (by omega) (by omega) (by decide) ((u41 238 5 rfl).trans ((u31 238 5 rfl).trans ((u18 238 5 rfl).trans (u15 238 5 rfl)))) ?_
                refine wi_icmp (cd := .eq) (nx := 246) (r1 := 253) (r2 := 0) (r3 := 0) rfl (by omega) (by omega) (fun (q79 : x30 = (h 238 5)) => ?_) (fun (q79 : ¬ (x30 = (h 238 5))) => ?_)
                ·
                  refine wi_iconst (n := 1) (nx := 254) (r1 := 0) (r2 := 0) (r3 := 0) rfl ?_
                  refine wi_istore (i := 5) (e := 1) (lo2 := [(5, vi 1), (8, vi (h 238 i76)), (0, .ref 236), (1, vi z14), (2, vi (h18 246 i24)), (3, vi x28), (4, vi x29), (6, vi (h18 246 i48)), (7, vi 1)]) (nx := 256) (r1 := 0) (r2 := 0) (r3 := 0) rfl rfl ?_
                  refine wi_iload (i := 8) (e := h 238 i76) (nx := 258) (r1 := 0) (r2 := 0) (r3 := 0) rfl rfl ?_
                  refine wi_istore (i := 4) (e := h 238 i76) (lo2 := [(4, vi (h 238 i76)), (5, vi 1), (8, vi (h 238 i76)), (0, .ref 236), (1, vi z14), (2, vi (h18 246 i24)), (3, vi x28), (6, vi (h18 246 i48)), (7, vi 1)]) (nx := 260) (r1 := 0) (r2 := 0) (r3 := 0) rfl rfl ?_
                  refine wi_iload_n (i := 3) (e := x28) (nx := 261) (r1 := 0) (r2 := 0) (r3 := 0) rfl rfl ?_
                  refine wi_iload (i := 7) (e := 1) (nx := 263) (r1 := 0) (r2 := 0) (r3 := 0) rfl rfl ?_
                  refine wi_S (rest := [vi x28]) (as := [vi 1]) (nx := 266) (r1 := 307) (r2 := 17) (r3 := 0) rfl rfl rfl (of_decide_eq_true rfl) rfl rfl (of_decide_eq_true rfl) (of_decide_eq_true rfl) ?_
                  refine wi_iload_n (i := 0) (e := 1) (nx := 1) (r1 := 0) (r2 := 0) (r3 := 0) rfl rfl ?_
                  refine wi_if (cd := .ne) (nx := 4) (r1 := 10) (r2 := 0) (r3 := 0) rfl (by omega) (fun (q80 : 1 ≠ 0) => ?_) (fun (q80 : ¬ (1 ≠ 0)) => by exfalso; omega)
                  refine wi_iload_n (i := 0) (e := 1) (nx := 11) (r1 := 0) (r2 := 0) (r3 := 0) rfl rfl ?_
                  refine wi_iconst (n := 1) (nx := 12) (r1 := 0) (r2 := 0) (r3 := 0) rfl ?_
                  refine wi_icmp (cd := .ne) (nx := 15) (r1 := 20) (r2 := 0) (r3 := 0) rfl (by omega) (by omega) (fun (q81 : 1 ≠ 1) => by exfalso; omega) (fun (q81 : ¬ (1 ≠ 1)) => ?_)
                  refine wi_bipush (n := 49) (nx := 17) (r1 := 0) (r2 := 0) (r3 := 0) rfl (by decide) ?_
                  refine wi_goto (nx := 20) (r1 := 31) (r2 := 0) (r3 := 0) rfl ?_
                  refine wi_ireturn (nx := 32) (r1 := 0) (r2 := 0) (r3 := 0) rfl rfl ?_
                  refine wk_i ?_
                  refine wr_add (nx := 267) (r1 := 0) (r2 := 0) (r3 := 0) rfl (fun e82 (fe82 : e82 = x28 + 49) => ?_)
                  refine wi_istore_n (i := 3) (e := e82) (lo2 := [(3, vi e82), (4, vi (h 238 i76)), (5, vi 1), (8, vi (h 238 i76)), (0, .ref 236), (1, vi z14), (2, vi (h18 246 i24)), (6, vi (h18 246 i48)), (7, vi 1)]) (nx := 268) (r1 := 0) (r2 := 0) (r3 := 0) rfl rfl ?_
                  refine wi_aload_n (i := 0) (x := 236) (nx := 269) (r1 := 0) (r2 := 0) (r3 := 0) rfl rfl ?_
                  refine wr_gr (k0 := 236) (x := 248) (nx := 272) (r1 := 11) (r2 := 31) (r3 := 0) rfl rfl (by decide) rfl ⟨rfl, rfl⟩ rfl ?_
                  refine wi_aload_n (i := 0) (x := 236) (nx := 273) (r1 := 0) (r2 := 0) (r3 := 0) rfl rfl ?_
                  refine wr_gi0 (k0 := 236) (x := h31 236 32) (nx := 276) (r1 := 11) (r2 := 32) (r3 := 0) rfl rfl (by decide) rfl ⟨rfl, rfl⟩ rfl (u41 236 32 rfl) ?_
                  refine wi_iload (i := 7) (e := 1) (nx := 278) (r1 := 0) (r2 := 0) (r3 := 0) rfl rfl ?_
                  obtain ⟨i83, ei83⟩ : ∃ q : Nat, (h31 236 32) = (q : Int) := ⟨(h31 236 32).toNat, by omega⟩
                  refine wr_is (k0 := 248) (a := h31 236 32) (f := i83) (x := 1) (bl := 0) (bh := 3) (nx := 279) (r1 := 0) (r2 := 0) (r3 := 0) rfl (by decide) rfl (by omega) (by omega) (by decide) g41 rfl (by omega) (fun h84 g84 w84 u84 => ?_)
                  have F85 := F42.then rfl (FR.rngp (lo := 248) (hi := 248) u84 (by decide))
                  have F86 := F43.then rfl (FR.rngp (lo := 248) (hi := 248) u84 (by decide))
                  refine wi_aload_n (i := 0) (x := 236) (nx := 280) (r1 := 0) (r2 := 0) (r3 := 0) rfl rfl ?_
                  refine wi_dup (nx := 281) (r1 := 0) (r2 := 0) (r3 := 0) rfl rfl ?_
                  refine wr_gi0 (k0 := 236) (x := h31 236 32) (nx := 284) (r1 := 11) (r2 := 32) (r3 := 0) rfl rfl (by decide) rfl ⟨rfl, rfl⟩ rfl ((u84 236 32 (fn_a (by omega) fn_0)).trans (u41 236 32 rfl)) ?_
                  refine wi_iconst (n := 1) (nx := 285) (r1 := 0) (r2 := 0) (r3 := 0) rfl ?_
                  refine wr_add (nx := 286) (r1 := 0) (r2 := 0) (r3 := 0) rfl (fun e87 (fe87 : e87 = (h31 236 32) + 1) => ?_)
                  refine wr_pf0 (k0 := 236) (x := e87) (bl := 0) (bh := 12) (nx := 289) (r1 := 11) (r2 := 32) (r3 := 0) rfl (by decide) rfl ⟨rfl, rfl⟩ rfl rfl g84 rfl (by omega) (fun h88 g88 w88 u88 => ?_)
                  have F89 := F85.then rfl u88
                  have F90 := F86.then rfl u88
                  refine wi_goto (nx := 292) (r1 := 153) (r2 := 0) (r3 := 0) rfl ?_
                  have e91 : h88 236 32 = e87 := w88
                  refine wp.lo (lo := [(0, .ref 236), (1, vi z14), (2, vi (h18 246 i24)), (3, vi e82), (4, vi (h 238 i76)), (5, vi 1)]) ⟨rfl, rfl, rfl, rfl, rfl, rfl, trivial⟩ rfl ?_
                  have q92 : h41 238 = h31 238 := funext (fun i => (u41 238 i (fo_no_ok (by decide) i)))
                  have q93 : h41 246 = h31 246 := funext (fun i => (u41 246 i (fo_no_ok (by decide) i)))
                  have c94 : h41 246 i48 = h18 246 i48 := ((u41 246 i48 (fn_a (by decide) (fn_a (by decide) (fn_a (by decide) (fn_a (by decide) fn_0))))).trans (u31 246 i48 (fo_nk rfl)))
                  have c95 : h31 238 i73 = h 238 i73 := ((u31 238 i73 (fo_nk rfl)).trans ((u18 238 i73 (fo_nk rfl)).trans (u15 238 i73 (fn_a (by omega) fn_0))))
                  have c96 : h31 238 i76 = h 238 i76 := ((u31 238 i76 (fo_nk rfl)).trans ((u18 238 i76 (fo_nk rfl)).trans (u15 238 i76 (fn_a (by omega) fn_0))))
                  have e97 : h31 238 5 = h 238 5 := ((u31 238 5 rfl).trans ((u18 238 5 rfl).trans (u15 238 5 rfl)))
                  have t98 : h41 247 1 = TQ (x28).toNat 1 := y41_0 (x28).toNat (by omega) 1 (by decide)
                  have wk99 := WK.step (R := h31 238) (LS := h31 246) (gi_RB g31) (l := 1) (p := (x28).toNat) (c := x29) (r := x30) (its := h 238 i76) (r2 := 1) (by decide) (by omega) (by omega) (X31_0 (x28).toNat (by omega)) (by rw [← q92, ← q93, ← u_by_T (T := h41 247) (fun l hl => y41_0 (x28).toNat (by omega) l hl) (by decide), ← y67_0, show 60 * (x28).toNat + 10 * (x29).toNat + (x30).toNat = i48 by omega]; omega) (by rw [show 74 + 6 * 1 + (TQ (x28).toNat 1).toNat = i73 by omega, show 31 + (h31 238 i73).toNat = i76 by omega]; omega) (by split <;> omega)
                  have wk99b := wk99.2
                  simp [wt] at wk99b
                  have q100 : h88 238 = h31 238 := funext (fun i => ((u88 238 i rfl).trans ((u84 238 i (fn_a (by omega) fn_0)).trans (u41 238 i (fo_no_ok (by decide) i)))))
                  have q101 : h88 246 = h31 246 := funext (fun i => ((u88 246 i rfl).trans ((u84 246 i (fn_a (by omega) fn_0)).trans (u41 246 i (fo_no_ok (by decide) i)))))
                  exact I31 e82 (h 238 i76) 1 h88 ⟨g88, F89, F90, (show (0 ≤ e82 ∧ e82 ≤ 2400) ∧ (0 ≤ (h 238 i76) ∧ (h 238 i76) ≤ 5) ∧ (0 ≤ 1 ∧ 1 ≤ 9) ∧ (1 ≤ (h18 238 5)) ∧ ((h88 236 32) ≤ z14) by omega), (fun pp e => by
                      obtain rfl : pp = (x28).toNat + wt 1 := by simp [wt]; omega
                      rw [q100, q101, show h88 236 32 = h31 236 32 + 1 by omega]
                      exact wk99.1)⟩ (show (z14 - (h88 236 32)).toNat < (z14 - (h31 236 32)).toNat by omega)
                ·
                  refine wi_iload (i := 5) (e := x30) (nx := 248) (r1 := 0) (r2 := 0) (r3 := 0) rfl rfl ?_
                  refine wi_iconst (n := 1) (nx := 249) (r1 := 0) (r2 := 0) (r3 := 0) rfl ?_
                  refine wr_add (nx := 250) (r1 := 0) (r2 := 0) (r3 := 0) rfl (fun e80 (fe80 : e80 = x30 + 1) => ?_)
                  refine wi_goto (nx := 253) (r1 := 254) (r2 := 0) (r3 := 0) rfl ?_
                  refine wi_istore (i := 5) (e := e80) (lo2 := [(5, vi e80), (8, vi (h 238 i76)), (0, .ref 236), (1, vi z14), (2, vi (h18 246 i24)), (3, vi x28), (4, vi x29), (6, vi (h18 246 i48)), (7, vi 1)]) (nx := 256) (r1 := 0) (r2 := 0) (r3 := 0) rfl rfl ?_
                  refine wi_iload (i := 8) (e := h 238 i76) (nx := 258) (r1 := 0) (r2 := 0) (r3 := 0) rfl rfl ?_
                  refine wi_istore (i := 4) (e := h 238 i76) (lo2 := [(4, vi (h 238 i76)), (5, vi e80), (8, vi (h 238 i76)), (0, .ref 236), (1, vi z14), (2, vi (h18 246 i24)), (3, vi x28), (6, vi (h18 246 i48)), (7, vi 1)]) (nx := 260) (r1 := 0) (r2 := 0) (r3 := 0) rfl rfl ?_
                  refine wi_iload_n (i := 3) (e := x28) (nx := 261) (r1 := 0) (r2 := 0) (r3 := 0) rfl rfl ?_
                  refine wi_iload (i := 7) (e := 1) (nx := 263) (r1 := 0) (r2 := 0) (r3 := 0) rfl rfl ?_
                  refine wi_S (rest := [vi x28]) (as := [vi 1]) (nx := 266) (r1 := 307) (r2 := 17) (r3 := 0) rfl rfl rfl (of_decide_eq_true rfl) rfl rfl (of_decide_eq_true rfl) (of_decide_eq_true rfl) ?_
                  refine wi_iload_n (i := 0) (e := 1) (nx := 1) (r1 := 0) (r2 := 0) (r3 := 0) rfl rfl ?_
                  refine wi_if (cd := .ne) (nx := 4) (r1 := 10) (r2 := 0) (r3 := 0) rfl (by omega) (fun (q81 : 1 ≠ 0) => ?_) (fun (q81 : ¬ (1 ≠ 0)) => by exfalso; omega)
                  refine wi_iload_n (i := 0) (e := 1) (nx := 11) (r1 := 0) (r2 := 0) (r3 := 0) rfl rfl ?_
                  refine wi_iconst (n := 1) (nx := 12) (r1 := 0) (r2 := 0) (r3 := 0) rfl ?_
                  refine wi_icmp (cd := .ne) (nx := 15) (r1 := 20) (r2 := 0) (r3 := 0) rfl (by omega) (by omega) (fun (q82 : 1 ≠ 1) => by exfalso; omega) (fun (q82 : ¬ (1 ≠ 1)) => ?_)
                  refine wi_bipush (n := 49) (nx := 17) (r1 := 0) (r2 := 0) (r3 := 0) rfl (by decide) ?_
                  refine wi_goto (nx := 20) (r1 := 31) (r2 := 0) (r3 := 0) rfl ?_
                  refine wi_ireturn (nx := 32) (r1 := 0) (r2 := 0) (r3 := 0) rfl rfl ?_
                  refine wk_i ?_
                  refine wr_add (nx := 267) (r1 := 0) (r2 := 0) (r3 := 0) rfl (fun e83 (fe83 : e83 = x28 + 49) => ?_)
                  refine wi_istore_n (i := 3) (e := e83) (lo2 := [(3, vi e83), (4, vi (h 238 i76)), (5, vi e80), (8, vi (h 238 i76)), (0, .ref 236), (1, vi z14), (2, vi (h18 246 i24)), (6, vi (h18 246 i48)), (7, vi 1)]) (nx := 268) (r1 := 0) (r2 := 0) (r3 := 0) rfl rfl ?_
                  refine wi_aload_n (i := 0) (x := 236) (nx := 269) (r1 := 0) (r2 := 0) (r3 := 0) rfl rfl ?_
                  refine wr_gr (k0 := 236) (x := 248) (nx := 272) (r1 := 11) (r2 := 31) (r3 := 0) rfl rfl (by decide) rfl ⟨rfl, rfl⟩ rfl ?_
                  refine wi_aload_n (i := 0) (x := 236) (nx := 273) (r1 := 0) (r2 := 0) (r3 := 0) rfl rfl ?_
                  refine wr_gi0 (k0 := 236) (x := h31 236 32) (nx := 276) (r1 := 11) (r2 := 32) (r3 := 0) rfl rfl (by decide) rfl ⟨rfl, rfl⟩ rfl (u41 236 32 rfl) ?_
                  refine wi_iload (i := 7) (e := 1) (nx := 278) (r1 := 0) (r2 := 0) (r3 := 0) rfl rfl ?_
                  obtain ⟨i84, ei84⟩ : ∃ q : Nat, (h31 236 32) = (q : Int) := ⟨(h31 236 32).toNat, by omega⟩
                  refine wr_is (k0 := 248) (a := h31 236 32) (f := i84) (x := 1) (bl := 0) (bh := 3) (nx := 279) (r1 := 0) (r2 := 0) (r3 := 0) rfl (by decide) rfl (by omega) (by omega) (by decide) g41 rfl (by omega) (fun h85 g85 w85 u85 => ?_)
                  have F86 := F42.then rfl (FR.rngp (lo := 248) (hi := 248) u85 (by decide))
                  have F87 := F43.then rfl (FR.rngp (lo := 248) (hi := 248) u85 (by decide))
                  refine wi_aload_n (i := 0) (x := 236) (nx := 280) (r1 := 0) (r2 := 0) (r3 := 0) rfl rfl ?_
                  refine wi_dup (nx := 281) (r1 := 0) (r2 := 0) (r3 := 0) rfl rfl ?_
                  refine wr_gi0 (k0 := 236) (x := h31 236 32) (nx := 284) (r1 := 11) (r2 := 32) (r3 := 0) rfl rfl (by decide) rfl ⟨rfl, rfl⟩ rfl ((u85 236 32 (fn_a (by omega) fn_0)).trans (u41 236 32 rfl)) ?_
                  refine wi_iconst (n := 1) (nx := 285) (r1 := 0) (r2 := 0) (r3 := 0) rfl ?_
                  refine wr_add (nx := 286) (r1 := 0) (r2 := 0) (r3 := 0) rfl (fun e88 (fe88 : e88 = (h31 236 32) + 1) => ?_)
                  refine wr_pf0 (k0 := 236) (x := e88) (bl := 0) (bh := 12) (nx := 289) (r1 := 11) (r2 := 32) (r3 := 0) rfl (by decide) rfl ⟨rfl, rfl⟩ rfl rfl g85 rfl (by omega) (fun h89 g89 w89 u89 => ?_)
                  have F90 := F86.then rfl u89
                  have F91 := F87.then rfl u89
                  refine wi_goto (nx := 292) (r1 := 153) (r2 := 0) (r3 := 0) rfl ?_
                  have e92 : h89 236 32 = e88 := w89
                  refine wp.lo (lo := [(0, .ref 236), (1, vi z14), (2, vi (h18 246 i24)), (3, vi e83), (4, vi (h 238 i76)), (5, vi e80)]) ⟨rfl, rfl, rfl, rfl, rfl, rfl, trivial⟩ rfl ?_
                  have q93 : h41 238 = h31 238 := funext (fun i => (u41 238 i (fo_no_ok (by decide) i)))
                  have q94 : h41 246 = h31 246 := funext (fun i => (u41 246 i (fo_no_ok (by decide) i)))
                  have c95 : h41 246 i48 = h18 246 i48 := ((u41 246 i48 (fn_a (by decide) (fn_a (by decide) (fn_a (by decide) (fn_a (by decide) fn_0))))).trans (u31 246 i48 (fo_nk rfl)))
                  have c96 : h31 238 i73 = h 238 i73 := ((u31 238 i73 (fo_nk rfl)).trans ((u18 238 i73 (fo_nk rfl)).trans (u15 238 i73 (fn_a (by omega) fn_0))))
                  have c97 : h31 238 i76 = h 238 i76 := ((u31 238 i76 (fo_nk rfl)).trans ((u18 238 i76 (fo_nk rfl)).trans (u15 238 i76 (fn_a (by omega) fn_0))))
                  have e98 : h31 238 5 = h 238 5 := ((u31 238 5 rfl).trans ((u18 238 5 rfl).trans (u15 238 5 rfl)))
                  have t99 : h41 247 1 = TQ (x28).toNat 1 := y41_0 (x28).toNat (by omega) 1 (by decide)
                  have wk100 := WK.step (R := h31 238) (LS := h31 246) (gi_RB g31) (l := 1) (p := (x28).toNat) (c := x29) (r := x30) (its := h 238 i76) (r2 := e80) (by decide) (by omega) (by omega) (X31_0 (x28).toNat (by omega)) (by rw [← q93, ← q94, ← u_by_T (T := h41 247) (fun l hl => y41_0 (x28).toNat (by omega) l hl) (by decide), ← y67_0, show 60 * (x28).toNat + 10 * (x29).toNat + (x30).toNat = i48 by omega]; omega) (by rw [show 74 + 6 * 1 + (TQ (x28).toNat 1).toNat = i73 by omega, show 31 + (h31 238 i73).toNat = i76 by omega]; omega) (by split <;> omega)
                  have wk100b := wk100.2
                  simp [wt] at wk100b
                  have q101 : h89 238 = h31 238 := funext (fun i => ((u89 238 i rfl).trans ((u85 238 i (fn_a (by omega) fn_0)).trans (u41 238 i (fo_no_ok (by decide) i)))))
                  have q102 : h89 246 = h31 246 := funext (fun i => ((u89 246 i rfl).trans ((u85 246 i (fn_a (by omega) fn_0)).trans (u41 246 i (fo_no_ok (by decide) i)))))
                  exact I31 e83 (h 238 i76) e80 h89 ⟨g89, F90, F91, (show (0 ≤ e83 ∧ e83 ≤ 2400) ∧ (0 ≤ (h 238 i76) ∧ (h 238 i76) ≤ 5) ∧ (0 ≤ e80 ∧ e80 ≤ 9) ∧ (e80 ≤ (h18 238 5)) ∧ ((h89 236 32) ≤ z14) by omega), (fun pp e => by
                      obtain rfl : pp = (x28).toNat + wt 1 := by simp [wt]; omega
                      rw [q101, q102, show h89 236 32 = h31 236 32 + 1 by omega]
                      exact wk100.1)⟩ (show (z14 - (h89 236 32)).toNat < (z14 - (h31 236 32)).toNat by omega)
            ·
              refine wr_iincL (i := 7) (n := 1) (v := 1) (2) ([(7, vi 2), (0, .ref 236), (1, vi z14), (2, vi (h18 246 i24)), (3, vi x28), (4, vi x29), (5, vi x30), (6, vi (h18 246 i48))]) (nx := 202) (r1 := 0) (r2 := 0) (r3 := 0) rfl rfl (by decide) rfl ?_
              refine wi_goto (nx := 205) (r1 := 184) (r2 := 0) (r3 := 0) rfl ?_
              refine wp.lo (lo := [(0, .ref 236), (1, vi z14), (2, vi (h18 246 i24)), (3, vi x28), (4, vi x29), (5, vi x30), (6, vi (h18 246 i48)), (7, vi 2)]) ⟨rfl, rfl, rfl, rfl, rfl, rfl, rfl, rfl, trivial⟩ rfl ?_
              obtain ⟨la72, haa72, hba72, hca72⟩ := X53_0
              have hda72 : la72 ≠ 1 := fun e => by subst e; omega
              exact I53 2 h41 ⟨rfl, (show (0 ≤ 2 ∧ 2 ≤ 3) by omega), ⟨la72, by omega, hba72, hca72⟩⟩ (show ((3 : Int) + 1 - 2).toNat < ((3 : Int) + 1 - x52).toNat by omega)
          ·
            rw [q66]
            refine wr_V (k0 := 236) (rest := []) (as := [.ref 236, vi 2, vi x29, vi x30]) (nx := 194) (r1 := 305) (r2 := 3) (r3 := 11) rfl rfl rfl (of_decide_eq_true rfl) rfl rfl (by decide) rfl rfl (of_decide_eq_true rfl) (of_decide_eq_true rfl) ?_
            refine ct_305_236_L2 hcr  g41 x29 x30 (by omega) (by omega)  (fun z68  (fz68 : 0 ≤ z68 ∧ z68 ≤ 1099900) (p67_0 : z68 = 1000000 ∨ (h41 247 2) < (h41 238 100)) y67_0 => ?_)
            have b69 := gi_b (lo := 0) (hi := 6) g41 247 2 rfl
            have e70 : h41 238 100 = h 238 100 := ((u41 238 100 rfl).trans ((u31 238 100 rfl).trans ((u18 238 100 rfl).trans (u15 238 100 rfl))))
            refine wk_i ?_
            refine wi_iload (i := 6) (e := h18 246 i48) (nx := 196) (r1 := 0) (r2 := 0) (r3 := 0) rfl rfl ?_
            refine wi_icmp (cd := .eq) (nx := 199) (r1 := 205) (r2 := 0) (r3 := 0) rfl (by omega) (by omega) (fun (q71 : z68 = (h18 246 i48)) => ?_) (fun (q71 : ¬ (z68 = (h18 246 i48))) => ?_)
            ·
              refine wi_aload_n (i := 0) (x := 236) (nx := 206) (r1 := 0) (r2 := 0) (r3 := 0) rfl rfl ?_
              refine wr_gr (k0 := 236) (x := 238) (nx := 209) (r1 := 11) (r2 := 13) (r3 := 0) rfl rfl (by decide) rfl ⟨rfl, rfl⟩ rfl ?_
              refine wi_bipush (n := 31) (nx := 211) (r1 := 0) (r2 := 0) (r3 := 0) rfl (by decide) ?_
              refine wi_aload_n (i := 0) (x := 236) (nx := 212) (r1 := 0) (r2 := 0) (r3 := 0) rfl rfl ?_
              refine wi_iload (i := 7) (e := 2) (nx := 214) (r1 := 0) (r2 := 0) (r3 := 0) rfl rfl ?_
              refine wi_aload_n (i := 0) (x := 236) (nx := 215) (r1 := 0) (r2 := 0) (r3 := 0) rfl rfl ?_
              refine wr_gr (k0 := 236) (x := 247) (nx := 218) (r1 := 11) (r2 := 30) (r3 := 0) rfl rfl (by decide) rfl ⟨rfl, rfl⟩ rfl ?_
              refine wi_iload (i := 7) (e := 2) (nx := 220) (r1 := 0) (r2 := 0) (r3 := 0) rfl rfl ?_
              refine wr_ia (k0 := 247) (a := 2) (f := 2) (x := h41 247 2) (nx := 221) (r1 := 0) (r2 := 0) (r3 := 0) rfl (by decide) rfl (by omega) (by omega) (by decide) rfl ?_
              refine wr_V (k0 := 236) (rest := [vi 31, .ref 238]) (as := [.ref 236, vi 2, vi (h41 247 2)]) (nx := 224) (r1 := 258) (r2 := 2) (r3 := 11) rfl rfl rfl (of_decide_eq_true rfl) rfl rfl (by decide) rfl rfl (of_decide_eq_true rfl) (of_decide_eq_true rfl) ?_
              refine wi_aload_n (i := 0) (x := 236) (nx := 1) (r1 := 0) (r2 := 0) (r3 := 0) rfl rfl ?_
              refine wr_gr (k0 := 236) (x := 238) (nx := 4) (r1 := 11) (r2 := 13) (r3 := 0) rfl rfl (by decide) rfl ⟨rfl, rfl⟩ rfl ?_
              refine wi_bipush (n := 74) (nx := 6) (r1 := 0) (r2 := 0) (r3 := 0) rfl (by decide) ?_
              refine wi_bipush (n := 6) (nx := 8) (r1 := 0) (r2 := 0) (r3 := 0) rfl (by decide) ?_
              refine wi_iload_n (i := 1) (e := 2) (nx := 9) (r1 := 0) (r2 := 0) (r3 := 0) rfl rfl ?_
              refine wr_mulL (12) (nx := 10) (r1 := 0) (r2 := 0) (r3 := 0) rfl (by decide) ?_
              refine wr_addL (86) (nx := 11) (r1 := 0) (r2 := 0) (r3 := 0) rfl (by decide) ?_
              refine wi_iload_n (i := 2) (e := h41 247 2) (nx := 12) (r1 := 0) (r2 := 0) (r3 := 0) rfl rfl ?_
              refine wr_add (nx := 13) (r1 := 0) (r2 := 0) (r3 := 0) rfl (fun e72 (fe72 : e72 = 86 + (h41 247 2)) => ?_)
              obtain ⟨i73, ei73⟩ : ∃ q : Nat, e72 = (q : Int) := ⟨(e72).toNat, by omega⟩
              have b74 := gi_b (lo := 0) (hi := 11) g 238 i73 (gi_rg 86 6 (fun _ => rfl) (by decide +kernel) (by omega))
              refine wr_ia (k0 := 238) (a := e72) (f := i73) (x := h 238 i73) (nx := 14) (r1 := 0) (r2 := 0) (r3 := 0) rfl (by decide) rfl (by omega) (by omega) (by decide) ((u41 238 i73 (fn_a (by decide) (fn_a (by decide) (fn_a (by decide) (fn_a (by decide) fn_0))))).trans ((u31 238 i73 (fo_nk rfl)).trans ((u18 238 i73 (fo_nk rfl)).trans (u15 238 i73 (fn_a (by omega) fn_0))))) ?_
              refine wi_ireturn (nx := 15) (r1 := 0) (r2 := 0) (r3 := 0) rfl rfl ?_
              refine wk_i ?_
              refine wr_add (nx := 225) (r1 := 0) (r2 := 0) (r3 := 0) rfl (fun e75 (fe75 : e75 = 31 + (h 238 i73)) => ?_)
              obtain ⟨i76, ei76⟩ : ∃ q : Nat, e75 = (q : Int) := ⟨(e75).toNat, by omega⟩
              have b77 := gi_b (lo := 0) (hi := 4) g 238 i76 (gi_rg 31 12 (fun _ => rfl) (by decide +kernel) (by omega))
              refine wr_ia (k0 := 238) (a := e75) (f := i76) (x := h 238 i76) (nx := 226) (r1 := 0) (r2 := 0) (r3 := 0) rfl (by decide) rfl (by omega) (by omega) (by decide) ((u41 238 i76 (fn_a (by decide) (fn_a (by decide) (fn_a (by decide) (fn_a (by decide) fn_0))))).trans ((u31 238 i76 (fo_nk rfl)).trans ((u18 238 i76 (fo_nk rfl)).trans (u15 238 i76 (fn_a (by omega) fn_0))))) ?_
              refine wi_istore (i := 8) (e := h 238 i76) (lo2 := [(8, vi (h 238 i76)), (0, .ref 236), (1, vi z14), (2, vi (h18 246 i24)), (3, vi x28), (4, vi x29), (5, vi x30), (6, vi (h18 246 i48)), (7, vi 2)]) (nx := 228) (r1 := 0) (r2 := 0) (r3 := 0) rfl rfl ?_
              refine wi_iload (i := 8) (e := h 238 i76) (nx := 230) (r1 := 0) (r2 := 0) (r3 := 0) rfl rfl ?_
              refine wi_iload (i := 4) (e := x29) (nx := 232) (r1 := 0) (r2 := 0) (r3 := 0) rfl rfl ?_
              refine wi_icmp (cd := .ne) (nx := 235) (r1 := 253) (r2 := 0) (r3 := 0) rfl (by omega) (by omega) (fun (q78 : (h 238 i76) ≠ x29) => ?_) (fun (q78 : ¬ ((h 238 i76) ≠ x29)) => ?_)
              ·
                refine wi_iconst (n := 1) (nx := 254) (r1 := 0) (r2 := 0) (r3 := 0) rfl ?_
                refine wi_istore (i := 5) (e := 1) (lo2 := [(5, vi 1), (8, vi (h 238 i76)), (0, .ref 236), (1, vi z14), (2, vi (h18 246 i24)), (3, vi x28), (4, vi x29), (6, vi (h18 246 i48)), (7, vi 2)]) (nx := 256) (r1 := 0) (r2 := 0) (r3 := 0) rfl rfl ?_
                refine wi_iload (i := 8) (e := h 238 i76) (nx := 258) (r1 := 0) (r2 := 0) (r3 := 0) rfl rfl ?_
                refine wi_istore (i := 4) (e := h 238 i76) (lo2 := [(4, vi (h 238 i76)), (5, vi 1), (8, vi (h 238 i76)), (0, .ref 236), (1, vi z14), (2, vi (h18 246 i24)), (3, vi x28), (6, vi (h18 246 i48)), (7, vi 2)]) (nx := 260) (r1 := 0) (r2 := 0) (r3 := 0) rfl rfl ?_
                refine wi_iload_n (i := 3) (e := x28) (nx := 261) (r1 := 0) (r2 := 0) (r3 := 0) rfl rfl ?_
                refine wi_iload (i := 7) (e := 2) (nx := 263) (r1 := 0) (r2 := 0) (r3 := 0) rfl rfl ?_
                refine wi_S (rest := [vi x28]) (as := [vi 2]) (nx := 266) (r1 := 307) (r2 := 17) (r3 := 0) rfl rfl rfl (of_decide_eq_true rfl) rfl rfl (of_decide_eq_true rfl) (of_decide_eq_true rfl) ?_
                refine wi_iload_n (i := 0) (e := 2) (nx := 1) (r1 := 0) (r2 := 0) (r3 := 0) rfl rfl ?_
                refine wi_if (cd := .ne) (nx := 4) (r1 := 10) (r2 := 0) (r3 := 0) rfl (by omega) (fun (q79 : 2 ≠ 0) => ?_) (fun (q79 : ¬ (2 ≠ 0)) => by exfalso; omega)
                refine wi_iload_n (i := 0) (e := 2) (nx := 11) (r1 := 0) (r2 := 0) (r3 := 0) rfl rfl ?_
                refine wi_iconst (n := 1) (nx := 12) (r1 := 0) (r2 := 0) (r3 := 0) rfl ?_
                refine wi_icmp (cd := .ne) (nx := 15) (r1 := 20) (r2 := 0) (r3 := 0) rfl (by omega) (by omega) (fun (q80 : 2 ≠ 1) => ?_) (fun (q80 : ¬ (2 ≠ 1)) => by exfalso; omega)
                refine wi_iload_n (i := 0) (e := 2) (nx := 21) (r1 := 0) (r2 := 0) (r3 := 0) rfl rfl ?_
                refine wi_iconst (n := 2) (nx := 22) (r1 := 0) (r2 := 0) (r3 := 0) rfl ?_
                refine wi_icmp (cd := .ne) (nx := 25) (r1 := 30) (r2 := 0) (r3 := 0) rfl (by omega) (by omega) (fun (q81 : 2 ≠ 2) => by exfalso; omega) (fun (q81 : ¬ (2 ≠ 2)) => ?_)
                refine wi_bipush (n := 7) (nx := 27) (r1 := 0) (r2 := 0) (r3 := 0) rfl (by decide) ?_
                refine wi_goto (nx := 30) (r1 := 31) (r2 := 0) (r3 := 0) rfl ?_
                refine wi_ireturn (nx := 32) (r1 := 0) (r2 := 0) (r3 := 0) rfl rfl ?_
                refine wk_i ?_
                refine wr_add (nx := 267) (r1 := 0) (r2 := 0) (r3 := 0) rfl (fun e82 (fe82 : e82 = x28 + 7) => ?_)
                refine wi_istore_n (i := 3) (e := e82) (lo2 := [(3, vi e82), (4, vi (h 238 i76)), (5, vi 1), (8, vi (h 238 i76)), (0, .ref 236), (1, vi z14), (2, vi (h18 246 i24)), (6, vi (h18 246 i48)), (7, vi 2)]) (nx := 268) (r1 := 0) (r2 := 0) (r3 := 0) rfl rfl ?_
                refine wi_aload_n (i := 0) (x := 236) (nx := 269) (r1 := 0) (r2 := 0) (r3 := 0) rfl rfl ?_
                refine wr_gr (k0 := 236) (x := 248) (nx := 272) (r1 := 11) (r2 := 31) (r3 := 0) rfl rfl (by decide) rfl ⟨rfl, rfl⟩ rfl ?_
                refine wi_aload_n (i := 0) (x := 236) (nx := 273) (r1 := 0) (r2 := 0) (r3 := 0) rfl rfl ?_
                refine wr_gi0 (k0 := 236) (x := h31 236 32) (nx := 276) (r1 := 11) (r2 := 32) (r3 := 0) rfl rfl (by decide) rfl ⟨rfl, rfl⟩ rfl (u41 236 32 rfl) ?_
                refine wi_iload (i := 7) (e := 2) (nx := 278) (r1 := 0) (r2 := 0) (r3 := 0) rfl rfl ?_
                obtain ⟨i83, ei83⟩ : ∃ q : Nat, (h31 236 32) = (q : Int) := ⟨(h31 236 32).toNat, by omega⟩
                refine wr_is (k0 := 248) (a := h31 236 32) (f := i83) (x := 2) (bl := 0) (bh := 3) (nx := 279) (r1 := 0) (r2 := 0) (r3 := 0) rfl (by decide) rfl (by omega) (by omega) (by decide) g41 rfl (by omega) (fun h84 g84 w84 u84 => ?_)
                have F85 := F42.then rfl (FR.rngp (lo := 248) (hi := 248) u84 (by decide))
                have F86 := F43.then rfl (FR.rngp (lo := 248) (hi := 248) u84 (by decide))
                refine wi_aload_n (i := 0) (x := 236) (nx := 280) (r1 := 0) (r2 := 0) (r3 := 0) rfl rfl ?_
                refine wi_dup (nx := 281) (r1 := 0) (r2 := 0) (r3 := 0) rfl rfl ?_
                refine wr_gi0 (k0 := 236) (x := h31 236 32) (nx := 284) (r1 := 11) (r2 := 32) (r3 := 0) rfl rfl (by decide) rfl ⟨rfl, rfl⟩ rfl ((u84 236 32 (fn_a (by omega) fn_0)).trans (u41 236 32 rfl)) ?_
                refine wi_iconst (n := 1) (nx := 285) (r1 := 0) (r2 := 0) (r3 := 0) rfl ?_
                refine wr_add (nx := 286) (r1 := 0) (r2 := 0) (r3 := 0) rfl (fun e87 (fe87 : e87 = (h31 236 32) + 1) => ?_)
                refine wr_pf0 (k0 := 236) (x := e87) (bl := 0) (bh := 12) (nx := 289) (r1 := 11) (r2 := 32) (r3 := 0) rfl (by decide) rfl ⟨rfl, rfl⟩ rfl rfl g84 rfl (by omega) (fun h88 g88 w88 u88 => ?_)
                have F89 := F85.then rfl u88
                have F90 := F86.then rfl u88
                refine wi_goto (nx := 292) (r1 := 153) (r2 := 0) (r3 := 0) rfl ?_
                have e91 : h88 236 32 = e87 := w88
                refine wp.lo (lo := [(0, .ref 236), (1, vi z14), (2, vi (h18 246 i24)), (3, vi e82), (4, vi (h 238 i76)), (5, vi 1)]) ⟨rfl, rfl, rfl, rfl, rfl, rfl, trivial⟩ rfl ?_
                have q92 : h41 238 = h31 238 := funext (fun i => (u41 238 i (fo_no_ok (by decide) i)))
                have q93 : h41 246 = h31 246 := funext (fun i => (u41 246 i (fo_no_ok (by decide) i)))
                have c94 : h41 246 i48 = h18 246 i48 := ((u41 246 i48 (fn_a (by decide) (fn_a (by decide) (fn_a (by decide) (fn_a (by decide) fn_0))))).trans (u31 246 i48 (fo_nk rfl)))
                have c95 : h31 238 i73 = h 238 i73 := ((u31 238 i73 (fo_nk rfl)).trans ((u18 238 i73 (fo_nk rfl)).trans (u15 238 i73 (fn_a (by omega) fn_0))))
                have c96 : h31 238 i76 = h 238 i76 := ((u31 238 i76 (fo_nk rfl)).trans ((u18 238 i76 (fo_nk rfl)).trans (u15 238 i76 (fn_a (by omega) fn_0))))
                have e97 : h31 238 5 = h 238 5 := ((u31 238 5 rfl).trans ((u18 238 5 rfl).trans (u15 238 5 rfl)))
                have t98 : h41 247 2 = TQ (x28).toNat 2 := y41_0 (x28).toNat (by omega) 2 (by decide)
                have wk99 := WK.step (R := h31 238) (LS := h31 246) (gi_RB g31) (l := 2) (p := (x28).toNat) (c := x29) (r := x30) (its := h 238 i76) (r2 := 1) (by decide) (by omega) (by omega) (X31_0 (x28).toNat (by omega)) (by rw [← q92, ← q93, ← u_by_T (T := h41 247) (fun l hl => y41_0 (x28).toNat (by omega) l hl) (by decide), ← y67_0, show 60 * (x28).toNat + 10 * (x29).toNat + (x30).toNat = i48 by omega]; omega) (by rw [show 74 + 6 * 2 + (TQ (x28).toNat 2).toNat = i73 by omega, show 31 + (h31 238 i73).toNat = i76 by omega]; omega) (by split <;> omega)
                have wk99b := wk99.2
                simp [wt] at wk99b
                have q100 : h88 238 = h31 238 := funext (fun i => ((u88 238 i rfl).trans ((u84 238 i (fn_a (by omega) fn_0)).trans (u41 238 i (fo_no_ok (by decide) i)))))
                have q101 : h88 246 = h31 246 := funext (fun i => ((u88 246 i rfl).trans ((u84 246 i (fn_a (by omega) fn_0)).trans (u41 246 i (fo_no_ok (by decide) i)))))
                exact I31 e82 (h 238 i76) 1 h88 ⟨g88, F89, F90, (show (0 ≤ e82 ∧ e82 ≤ 2400) ∧ (0 ≤ (h 238 i76) ∧ (h 238 i76) ≤ 5) ∧ (0 ≤ 1 ∧ 1 ≤ 9) ∧ (1 ≤ (h18 238 5)) ∧ ((h88 236 32) ≤ z14) by omega), (fun pp e => by
                    obtain rfl : pp = (x28).toNat + wt 2 := by simp [wt]; omega
                    rw [q100, q101, show h88 236 32 = h31 236 32 + 1 by omega]
                    exact wk99.1)⟩ (show (z14 - (h88 236 32)).toNat < (z14 - (h31 236 32)).toNat by omega)
              ·
                refine wi_iload (i := 5) (e := x30) (nx := 237) (r1 := 0) (r2 := 0) (r3 := 0) rfl rfl ?_
                refine wi_aload_n (i := 0) (x := 236) (nx := 238) (r1 := 0) (r2 := 0) (r3 := 0) rfl rfl ?_
                refine wr_gr (k0 := 236) (x := 238) (nx := 241) (r1 := 11) (r2 := 13) (r3 := 0) rfl rfl (by decide) rfl ⟨rfl, rfl⟩ rfl ?_
                refine wi_iconst (n := 5) (nx := 242) (r1 := 0) (r2 := 0) (r3 := 0) rfl ?_
                refine wr_ia (k0 := 238) (a := 5) (f := 5) (x := h 238 5) (nx := 243) (r1 := 0) (r2 := 0) (r3 := 0) rfl (by decide) rfl (by omega) (by omega) (by decide) ((u41 238 5 rfl).trans ((u31 238 5 rfl).trans ((u18 238 5 rfl).trans (u15 238 5 rfl)))) ?_
                refine wi_icmp (cd := .eq) (nx := 246) (r1 := 253) (r2 := 0) (r3 := 0) rfl (by omega) (by omega) (fun (q79 : x30 = (h 238 5)) => ?_) (fun (q79 : ¬ (x30 = (h 238 5))) => ?_)
                ·
                  refine wi_iconst (n := 1) (nx := 254) (r1 := 0) (r2 := 0) (r3 := 0) rfl ?_
                  refine wi_istore (i := 5) (e := 1) (lo2 := [(5, vi 1), (8, vi (h 238 i76)), (0, .ref 236), (1, vi z14), (2, vi (h18 246 i24)), (3, vi x28), (4, vi x29), (6, vi (h18 246 i48)), (7, vi 2)]) (nx := 256) (r1 := 0) (r2 := 0) (r3 := 0) rfl rfl ?_
                  refine wi_iload (i := 8) (e := h 238 i76) (nx := 258) (r1 := 0) (r2 := 0) (r3 := 0) rfl rfl ?_
                  refine wi_istore (i := 4) (e := h 238 i76) (lo2 := [(4, vi (h 238 i76)), (5, vi 1), (8, vi (h 238 i76)), (0, .ref 236), (1, vi z14), (2, vi (h18 246 i24)), (3, vi x28), (6, vi (h18 246 i48)), (7, vi 2)]) (nx := 260) (r1 := 0) (r2 := 0) (r3 := 0) rfl rfl ?_
                  refine wi_iload_n (i := 3) (e := x28) (nx := 261) (r1 := 0) (r2 := 0) (r3 := 0) rfl rfl ?_
                  refine wi_iload (i := 7) (e := 2) (nx := 263) (r1 := 0) (r2 := 0) (r3 := 0) rfl rfl ?_
                  refine wi_S (rest := [vi x28]) (as := [vi 2]) (nx := 266) (r1 := 307) (r2 := 17) (r3 := 0) rfl rfl rfl (of_decide_eq_true rfl) rfl rfl (of_decide_eq_true rfl) (of_decide_eq_true rfl) ?_
                  refine wi_iload_n (i := 0) (e := 2) (nx := 1) (r1 := 0) (r2 := 0) (r3 := 0) rfl rfl ?_
                  refine wi_if (cd := .ne) (nx := 4) (r1 := 10) (r2 := 0) (r3 := 0) rfl (by omega) (fun (q80 : 2 ≠ 0) => ?_) (fun (q80 : ¬ (2 ≠ 0)) => by exfalso; omega)
                  refine wi_iload_n (i := 0) (e := 2) (nx := 11) (r1 := 0) (r2 := 0) (r3 := 0) rfl rfl ?_
                  refine wi_iconst (n := 1) (nx := 12) (r1 := 0) (r2 := 0) (r3 := 0) rfl ?_
                  refine wi_icmp (cd := .ne) (nx := 15) (r1 := 20) (r2 := 0) (r3 := 0) rfl (by omega) (by omega) (fun (q81 : 2 ≠ 1) => ?_) (fun (q81 : ¬ (2 ≠ 1)) => by exfalso; omega)
                  refine wi_iload_n (i := 0) (e := 2) (nx := 21) (r1 := 0) (r2 := 0) (r3 := 0) rfl rfl ?_
                  refine wi_iconst (n := 2) (nx := 22) (r1 := 0) (r2 := 0) (r3 := 0) rfl ?_
                  refine wi_icmp (cd := .ne) (nx := 25) (r1 := 30) (r2 := 0) (r3 := 0) rfl (by omega) (by omega) (fun (q82 : 2 ≠ 2) => by exfalso; omega) (fun (q82 : ¬ (2 ≠ 2)) => ?_)
                  refine wi_bipush (n := 7) (nx := 27) (r1 := 0) (r2 := 0) (r3 := 0) rfl (by decide) ?_
                  refine wi_goto (nx := 30) (r1 := 31) (r2 := 0) (r3 := 0) rfl ?_
                  refine wi_ireturn (nx := 32) (r1 := 0) (r2 := 0) (r3 := 0) rfl rfl ?_
                  refine wk_i ?_
                  refine wr_add (nx := 267) (r1 := 0) (r2 := 0) (r3 := 0) rfl (fun e83 (fe83 : e83 = x28 + 7) => ?_)
                  refine wi_istore_n (i := 3) (e := e83) (lo2 := [(3, vi e83), (4, vi (h 238 i76)), (5, vi 1), (8, vi (h 238 i76)), (0, .ref 236), (1, vi z14), (2, vi (h18 246 i24)), (6, vi (h18 246 i48)), (7, vi 2)]) (nx := 268) (r1 := 0) (r2 := 0) (r3 := 0) rfl rfl ?_
                  refine wi_aload_n (i := 0) (x := 236) (nx := 269) (r1 := 0) (r2 := 0) (r3 := 0) rfl rfl ?_
                  refine wr_gr (k0 := 236) (x := 248) (nx := 272) (r1 := 11) (r2 := 31) (r3 := 0) rfl rfl (by decide) rfl ⟨rfl, rfl⟩ rfl ?_
                  refine wi_aload_n (i := 0) (x := 236) (nx := 273) (r1 := 0) (r2 := 0) (r3 := 0) rfl rfl ?_
                  refine wr_gi0 (k0 := 236) (x := h31 236 32) (nx := 276) (r1 := 11) (r2 := 32) (r3 := 0) rfl rfl (by decide) rfl ⟨rfl, rfl⟩ rfl (u41 236 32 rfl) ?_
                  refine wi_iload (i := 7) (e := 2) (nx := 278) (r1 := 0) (r2 := 0) (r3 := 0) rfl rfl ?_
                  obtain ⟨i84, ei84⟩ : ∃ q : Nat, (h31 236 32) = (q : Int) := ⟨(h31 236 32).toNat, by omega⟩
                  refine wr_is (k0 := 248) (a := h31 236 32) (f := i84) (x := 2) (bl := 0) (bh := 3) (nx := 279) (r1 := 0) (r2 := 0) (r3 := 0) rfl (by decide) rfl (by omega) (by omega) (by decide) g41 rfl (by omega) (fun h85 g85 w85 u85 => ?_)
                  have F86 := F42.then rfl (FR.rngp (lo := 248) (hi := 248) u85 (by decide))
                  have F87 := F43.then rfl (FR.rngp (lo := 248) (hi := 248) u85 (by decide))
                  refine wi_aload_n (i := 0) (x := 236) (nx := 280) (r1 := 0) (r2 := 0) (r3 := 0) rfl rfl ?_
                  refine wi_dup (nx := 281) (r1 := 0) (r2 := 0) (r3 := 0) rfl rfl ?_
                  refine wr_gi0 (k0 := 236) (x := h31 236 32) (nx := 284) (r1 := 11) (r2 := 32) (r3 := 0) rfl rfl (by decide) rfl ⟨rfl, rfl⟩ rfl ((u85 236 32 (fn_a (by omega) fn_0)).trans (u41 236 32 rfl)) ?_
                  refine wi_iconst (n := 1) (nx := 285) (r1 := 0) (r2 := 0) (r3 := 0) rfl ?_
                  refine wr_add (nx := 286) (r1 := 0) (r2 := 0) (r3 := 0) rfl (fun e88 (fe88 : e88 = (h31 236 32) + 1) => ?_)
                  refine wr_pf0 (k0 := 236) (x := e88) (bl := 0) (bh := 12) (nx := 289) (r1 := 11) (r2 := 32) (r3 := 0) rfl (by decide) rfl ⟨rfl, rfl⟩ rfl rfl g85 rfl (by omega) (fun h89 g89 w89 u89 => ?_)
                  have F90 := F86.then rfl u89
                  have F91 := F87.then rfl u89
                  refine wi_goto (nx := 292) (r1 := 153) (r2 := 0) (r3 := 0) rfl ?_
                  have e92 : h89 236 32 = e88 := w89
                  refine wp.lo (lo := [(0, .ref 236), (1, vi z14), (2, vi (h18 246 i24)), (3, vi e83), (4, vi (h 238 i76)), (5, vi 1)]) ⟨rfl, rfl, rfl, rfl, rfl, rfl, trivial⟩ rfl ?_
                  have q93 : h41 238 = h31 238 := funext (fun i => (u41 238 i (fo_no_ok (by decide) i)))
                  have q94 : h41 246 = h31 246 := funext (fun i => (u41 246 i (fo_no_ok (by decide) i)))
                  have c95 : h41 246 i48 = h18 246 i48 := ((u41 246 i48 (fn_a (by decide) (fn_a (by decide) (fn_a (by decide) (fn_a (by decide) fn_0))))).trans (u31 246 i48 (fo_nk rfl)))
                  have c96 : h31 238 i73 = h 238 i73 := ((u31 238 i73 (fo_nk rfl)).trans ((u18 238 i73 (fo_nk rfl)).trans (u15 238 i73 (fn_a (by omega) fn_0))))
                  have c97 : h31 238 i76 = h 238 i76 := ((u31 238 i76 (fo_nk rfl)).trans ((u18 238 i76 (fo_nk rfl)).trans (u15 238 i76 (fn_a (by omega) fn_0))))
                  have e98 : h31 238 5 = h 238 5 := ((u31 238 5 rfl).trans ((u18 238 5 rfl).trans (u15 238 5 rfl)))
                  have t99 : h41 247 2 = TQ (x28).toNat 2 := y41_0 (x28).toNat (by omega) 2 (by decide)
                  have wk100 := WK.step (R := h31 238) (LS := h31 246) (gi_RB g31) (l := 2) (p := (x28).toNat) (c := x29) (r := x30) (its := h 238 i76) (r2 := 1) (by decide) (by omega) (by omega) (X31_0 (x28).toNat (by omega)) (by rw [← q93, ← q94, ← u_by_T (T := h41 247) (fun l hl => y41_0 (x28).toNat (by omega) l hl) (by decide), ← y67_0, show 60 * (x28).toNat + 10 * (x29).toNat + (x30).toNat = i48 by omega]; omega) (by rw [show 74 + 6 * 2 + (TQ (x28).toNat 2).toNat = i73 by omega, show 31 + (h31 238 i73).toNat = i76 by omega]; omega) (by split <;> omega)
                  have wk100b := wk100.2
                  simp [wt] at wk100b
                  have q101 : h89 238 = h31 238 := funext (fun i => ((u89 238 i rfl).trans ((u85 238 i (fn_a (by omega) fn_0)).trans (u41 238 i (fo_no_ok (by decide) i)))))
                  have q102 : h89 246 = h31 246 := funext (fun i => ((u89 246 i rfl).trans ((u85 246 i (fn_a (by omega) fn_0)).trans (u41 246 i (fo_no_ok (by decide) i)))))
                  exact I31 e83 (h 238 i76) 1 h89 ⟨g89, F90, F91, (show (0 ≤ e83 ∧ e83 ≤ 2400) ∧ (0 ≤ (h 238 i76) ∧ (h 238 i76) ≤ 5) ∧ (0 ≤ 1 ∧ 1 ≤ 9) ∧ (1 ≤ (h18 238 5)) ∧ ((h89 236 32) ≤ z14) by omega), (fun pp e => by
                      obtain rfl : pp = (x28).toNat + wt 2 := by simp [wt]; omega
                      rw [q101, q102, show h89 236 32 = h31 236 32 + 1 by omega]
                      exact wk100.1)⟩ (show (z14 - (h89 236 32)).toNat < (z14 - (h31 236 32)).toNat by omega)
                ·
                  refine wi_iload (i := 5) (e := x30) (nx := 248) (r1 := 0) (r2 := 0) (r3 := 0) rfl rfl ?_
                  refine wi_iconst (n := 1) (nx := 249) (r1 := 0) (r2 := 0) (r3 := 0) rfl ?_
                  refine wr_add (nx := 250) (r1 := 0) (r2 := 0) (r3 := 0) rfl (fun e80 (fe80 : e80 = x30 + 1) => ?_)
                  refine wi_goto (nx := 253) (r1 := 254) (r2 := 0) (r3 := 0) rfl ?_
                  refine wi_istore (i := 5) (e := e80) (lo2 := [(5, vi e80), (8, vi (h 238 i76)), (0, .ref 236), (1, vi z14), (2, vi (h18 246 i24)), (3, vi x28), (4, vi x29), (6, vi (h18 246 i48)), (7, vi 2)]) (nx := 256) (r1 := 0) (r2 := 0) (r3 := 0) rfl rfl ?_
                  refine wi_iload (i := 8) (e := h 238 i76) (nx := 258) (r1 := 0) (r2 := 0) (r3 := 0) rfl rfl ?_
                  refine wi_istore (i := 4) (e := h 238 i76) (lo2 := [(4, vi (h 238 i76)), (5, vi e80), (8, vi (h 238 i76)), (0, .ref 236), (1, vi z14), (2, vi (h18 246 i24)), (3, vi x28), (6, vi (h18 246 i48)), (7, vi 2)]) (nx := 260) (r1 := 0) (r2 := 0) (r3 := 0) rfl rfl ?_
                  refine wi_iload_n (i := 3) (e := x28) (nx := 261) (r1 := 0) (r2 := 0) (r3 := 0) rfl rfl ?_
                  refine wi_iload (i := 7) (e := 2) (nx := 263) (r1 := 0) (r2 := 0) (r3 := 0) rfl rfl ?_
                  refine wi_S (rest := [vi x28]) (as := [vi 2]) (nx := 266) (r1 := 307) (r2 := 17) (r3 := 0) rfl rfl rfl (of_decide_eq_true rfl) rfl rfl (of_decide_eq_true rfl) (of_decide_eq_true rfl) ?_
                  refine wi_iload_n (i := 0) (e := 2) (nx := 1) (r1 := 0) (r2 := 0) (r3 := 0) rfl rfl ?_
                  refine wi_if (cd := .ne) (nx := 4) (r1 := 10) (r2 := 0) (r3 := 0) rfl (by omega) (fun (q81 : 2 ≠ 0) => ?_) (fun (q81 : ¬ (2 ≠ 0)) => by exfalso; omega)
                  refine wi_iload_n (i := 0) (e := 2) (nx := 11) (r1 := 0) (r2 := 0) (r3 := 0) rfl rfl ?_
                  refine wi_iconst (n := 1) (nx := 12) (r1 := 0) (r2 := 0) (r3 := 0) rfl ?_
                  refine wi_icmp (cd := .ne) (nx := 15) (r1 := 20) (r2 := 0) (r3 := 0) rfl (by omega) (by omega) (fun (q82 : 2 ≠ 1) => ?_) (fun (q82 : ¬ (2 ≠ 1)) => by exfalso; omega)
                  refine wi_iload_n (i := 0) (e := 2) (nx := 21) (r1 := 0) (r2 := 0) (r3 := 0) rfl rfl ?_
                  refine wi_iconst (n := 2) (nx := 22) (r1 := 0) (r2 := 0) (r3 := 0) rfl ?_
                  refine wi_icmp (cd := .ne) (nx := 25) (r1 := 30) (r2 := 0) (r3 := 0) rfl (by omega) (by omega) (fun (q83 : 2 ≠ 2) => by exfalso; omega) (fun (q83 : ¬ (2 ≠ 2)) => ?_)
                  refine wi_bipush (n := 7) (nx := 27) (r1 := 0) (r2 := 0) (r3 := 0) rfl (by decide) ?_
                  refine wi_goto (nx := 30) (r1 := 31) (r2 := 0) (r3 := 0) rfl ?_
                  refine wi_ireturn (nx := 32) (r1 := 0) (r2 := 0) (r3 := 0) rfl rfl ?_
                  refine wk_i ?_
                  refine wr_add (nx := 267) (r1 := 0) (r2 := 0) (r3 := 0) rfl (fun e84 (fe84 : e84 = x28 + 7) => ?_)
                  refine wi_istore_n (i := 3) (e := e84) (lo2 := [(3, vi e84), (4, vi (h 238 i76)), (5, vi e80), (8, vi (h 238 i76)), (0, .ref 236), (1, vi z14), (2, vi (h18 246 i24)), (6, vi (h18 246 i48)), (7, vi 2)]) (nx := 268) (r1 := 0) (r2 := 0) (r3 := 0) rfl rfl ?_
                  refine wi_aload_n (i := 0) (x := 236) (nx := 269) (r1 := 0) (r2 := 0) (r3 := 0) rfl rfl ?_
                  refine wr_gr (k0 := 236) (x := 248) (nx := 272) (r1 := 11) (r2 := 31) (r3 := 0) rfl rfl (by decide) rfl ⟨rfl, rfl⟩ rfl ?_
                  refine wi_aload_n (i := 0) (x := 236) (nx := 273) (r1 := 0) (r2 := 0) (r3 := 0) rfl rfl ?_
                  refine wr_gi0 (k0 := 236) (x := h31 236 32) (nx := 276) (r1 := 11) (r2 := 32) (r3 := 0) rfl rfl (by decide) rfl ⟨rfl, rfl⟩ rfl (u41 236 32 rfl) ?_
                  refine wi_iload (i := 7) (e := 2) (nx := 278) (r1 := 0) (r2 := 0) (r3 := 0) rfl rfl ?_
                  obtain ⟨i85, ei85⟩ : ∃ q : Nat, (h31 236 32) = (q : Int) := ⟨(h31 236 32).toNat, by omega⟩
                  refine wr_is (k0 := 248) (a := h31 236 32) (f := i85) (x := 2) (bl := 0) (bh := 3) (nx := 279) (r1 := 0) (r2 := 0) (r3 := 0) rfl (by decide) rfl (by omega) (by omega) (by decide) g41 rfl (by omega) (fun h86 g86 w86 u86 => ?_)
                  have F87 := F42.then rfl (FR.rngp (lo := 248) (hi := 248) u86 (by decide))
                  have F88 := F43.then rfl (FR.rngp (lo := 248) (hi := 248) u86 (by decide))
                  refine wi_aload_n (i := 0) (x := 236) (nx := 280) (r1 := 0) (r2 := 0) (r3 := 0) rfl rfl ?_
                  refine wi_dup (nx := 281) (r1 := 0) (r2 := 0) (r3 := 0) rfl rfl ?_
                  refine wr_gi0 (k0 := 236) (x := h31 236 32) (nx := 284) (r1 := 11) (r2 := 32) (r3 := 0) rfl rfl (by decide) rfl ⟨rfl, rfl⟩ rfl ((u86 236 32 (fn_a (by omega) fn_0)).trans (u41 236 32 rfl)) ?_
                  refine wi_iconst (n := 1) (nx := 285) (r1 := 0) (r2 := 0) (r3 := 0) rfl ?_
                  refine wr_add (nx := 286) (r1 := 0) (r2 := 0) (r3 := 0) rfl (fun e89 (fe89 : e89 = (h31 236 32) + 1) => ?_)
                  refine wr_pf0 (k0 := 236) (x := e89) (bl := 0) (bh := 12) (nx := 289) (r1 := 11) (r2 := 32) (r3 := 0) rfl (by decide) rfl ⟨rfl, rfl⟩ rfl rfl g86 rfl (by omega) (fun h90 g90 w90 u90 => ?_)
                  have F91 := F87.then rfl u90
                  have F92 := F88.then rfl u90
                  refine wi_goto (nx := 292) (r1 := 153) (r2 := 0) (r3 := 0) rfl ?_
                  have e93 : h90 236 32 = e89 := w90
                  refine wp.lo (lo := [(0, .ref 236), (1, vi z14), (2, vi (h18 246 i24)), (3, vi e84), (4, vi (h 238 i76)), (5, vi e80)]) ⟨rfl, rfl, rfl, rfl, rfl, rfl, trivial⟩ rfl ?_
                  have q94 : h41 238 = h31 238 := funext (fun i => (u41 238 i (fo_no_ok (by decide) i)))
                  have q95 : h41 246 = h31 246 := funext (fun i => (u41 246 i (fo_no_ok (by decide) i)))
                  have c96 : h41 246 i48 = h18 246 i48 := ((u41 246 i48 (fn_a (by decide) (fn_a (by decide) (fn_a (by decide) (fn_a (by decide) fn_0))))).trans (u31 246 i48 (fo_nk rfl)))
                  have c97 : h31 238 i73 = h 238 i73 := ((u31 238 i73 (fo_nk rfl)).trans ((u18 238 i73 (fo_nk rfl)).trans (u15 238 i73 (fn_a (by omega) fn_0))))
                  have c98 : h31 238 i76 = h 238 i76 := ((u31 238 i76 (fo_nk rfl)).trans ((u18 238 i76 (fo_nk rfl)).trans (u15 238 i76 (fn_a (by omega) fn_0))))
                  have e99 : h31 238 5 = h 238 5 := ((u31 238 5 rfl).trans ((u18 238 5 rfl).trans (u15 238 5 rfl)))
                  have t100 : h41 247 2 = TQ (x28).toNat 2 := y41_0 (x28).toNat (by omega) 2 (by decide)
                  have wk101 := WK.step (R := h31 238) (LS := h31 246) (gi_RB g31) (l := 2) (p := (x28).toNat) (c := x29) (r := x30) (its := h 238 i76) (r2 := e80) (by decide) (by omega) (by omega) (X31_0 (x28).toNat (by omega)) (by rw [← q94, ← q95, ← u_by_T (T := h41 247) (fun l hl => y41_0 (x28).toNat (by omega) l hl) (by decide), ← y67_0, show 60 * (x28).toNat + 10 * (x29).toNat + (x30).toNat = i48 by omega]; omega) (by rw [show 74 + 6 * 2 + (TQ (x28).toNat 2).toNat = i73 by omega, show 31 + (h31 238 i73).toNat = i76 by omega]; omega) (by split <;> omega)
                  have wk101b := wk101.2
                  simp [wt] at wk101b
                  have q102 : h90 238 = h31 238 := funext (fun i => ((u90 238 i rfl).trans ((u86 238 i (fn_a (by omega) fn_0)).trans (u41 238 i (fo_no_ok (by decide) i)))))
                  have q103 : h90 246 = h31 246 := funext (fun i => ((u90 246 i rfl).trans ((u86 246 i (fn_a (by omega) fn_0)).trans (u41 246 i (fo_no_ok (by decide) i)))))
                  exact I31 e84 (h 238 i76) e80 h90 ⟨g90, F91, F92, (show (0 ≤ e84 ∧ e84 ≤ 2400) ∧ (0 ≤ (h 238 i76) ∧ (h 238 i76) ≤ 5) ∧ (0 ≤ e80 ∧ e80 ≤ 9) ∧ (e80 ≤ (h18 238 5)) ∧ ((h90 236 32) ≤ z14) by omega), (fun pp e => by
                      obtain rfl : pp = (x28).toNat + wt 2 := by simp [wt]; omega
                      rw [q102, q103, show h90 236 32 = h31 236 32 + 1 by omega]
                      exact wk101.1)⟩ (show (z14 - (h90 236 32)).toNat < (z14 - (h31 236 32)).toNat by omega)
            ·
              refine wr_iincL (i := 7) (n := 1) (v := 2) (3) ([(7, vi 3), (0, .ref 236), (1, vi z14), (2, vi (h18 246 i24)), (3, vi x28), (4, vi x29), (5, vi x30), (6, vi (h18 246 i48))]) (nx := 202) (r1 := 0) (r2 := 0) (r3 := 0) rfl rfl (by decide) rfl ?_
              refine wi_goto (nx := 205) (r1 := 184) (r2 := 0) (r3 := 0) rfl ?_
              refine wp.lo (lo := [(0, .ref 236), (1, vi z14), (2, vi (h18 246 i24)), (3, vi x28), (4, vi x29), (5, vi x30), (6, vi (h18 246 i48)), (7, vi 3)]) ⟨rfl, rfl, rfl, rfl, rfl, rfl, rfl, rfl, trivial⟩ rfl ?_
              obtain ⟨la72, haa72, hba72, hca72⟩ := X53_0
              have hda72 : la72 ≠ 2 := fun e => by subst e; omega
              exact I53 3 h41 ⟨rfl, (show (0 ≤ 3 ∧ 3 ≤ 3) by omega), ⟨la72, by omega, hba72, hca72⟩⟩ (show ((3 : Int) + 1 - 3).toNat < ((3 : Int) + 1 - x52).toNat by omega)
          ·
            rw [q66]
            refine wr_V (k0 := 236) (rest := []) (as := [.ref 236, vi 3, vi x29, vi x30]) (nx := 194) (r1 := 305) (r2 := 3) (r3 := 11) rfl rfl rfl (of_decide_eq_true rfl) rfl rfl (by decide) rfl rfl (of_decide_eq_true rfl) (of_decide_eq_true rfl) ?_
            refine ct_305_236_L3 hcr  g41 x29 x30 (by omega) (by omega)  (fun z68  (fz68 : 0 ≤ z68 ∧ z68 ≤ 1099900) (p67_0 : z68 = 1000000 ∨ (h41 247 3) < (h41 238 101)) y67_0 => ?_)
            have b69 := gi_b (lo := 0) (hi := 6) g41 247 3 rfl
            have e70 : h41 238 101 = h 238 101 := ((u41 238 101 rfl).trans ((u31 238 101 rfl).trans ((u18 238 101 rfl).trans (u15 238 101 rfl))))
            refine wk_i ?_
            refine wi_iload (i := 6) (e := h18 246 i48) (nx := 196) (r1 := 0) (r2 := 0) (r3 := 0) rfl rfl ?_
            refine wi_icmp (cd := .eq) (nx := 199) (r1 := 205) (r2 := 0) (r3 := 0) rfl (by omega) (by omega) (fun (q71 : z68 = (h18 246 i48)) => ?_) (fun (q71 : ¬ (z68 = (h18 246 i48))) => ?_)
            ·
              refine wi_aload_n (i := 0) (x := 236) (nx := 206) (r1 := 0) (r2 := 0) (r3 := 0) rfl rfl ?_
              refine wr_gr (k0 := 236) (x := 238) (nx := 209) (r1 := 11) (r2 := 13) (r3 := 0) rfl rfl (by decide) rfl ⟨rfl, rfl⟩ rfl ?_
              refine wi_bipush (n := 31) (nx := 211) (r1 := 0) (r2 := 0) (r3 := 0) rfl (by decide) ?_
              refine wi_aload_n (i := 0) (x := 236) (nx := 212) (r1 := 0) (r2 := 0) (r3 := 0) rfl rfl ?_
              refine wi_iload (i := 7) (e := 3) (nx := 214) (r1 := 0) (r2 := 0) (r3 := 0) rfl rfl ?_
              refine wi_aload_n (i := 0) (x := 236) (nx := 215) (r1 := 0) (r2 := 0) (r3 := 0) rfl rfl ?_
              refine wr_gr (k0 := 236) (x := 247) (nx := 218) (r1 := 11) (r2 := 30) (r3 := 0) rfl rfl (by decide) rfl ⟨rfl, rfl⟩ rfl ?_
              refine wi_iload (i := 7) (e := 3) (nx := 220) (r1 := 0) (r2 := 0) (r3 := 0) rfl rfl ?_
              refine wr_ia (k0 := 247) (a := 3) (f := 3) (x := h41 247 3) (nx := 221) (r1 := 0) (r2 := 0) (r3 := 0) rfl (by decide) rfl (by omega) (by omega) (by decide) rfl ?_
              refine wr_V (k0 := 236) (rest := [vi 31, .ref 238]) (as := [.ref 236, vi 3, vi (h41 247 3)]) (nx := 224) (r1 := 258) (r2 := 2) (r3 := 11) rfl rfl rfl (of_decide_eq_true rfl) rfl rfl (by decide) rfl rfl (of_decide_eq_true rfl) (of_decide_eq_true rfl) ?_
              refine wi_aload_n (i := 0) (x := 236) (nx := 1) (r1 := 0) (r2 := 0) (r3 := 0) rfl rfl ?_
              refine wr_gr (k0 := 236) (x := 238) (nx := 4) (r1 := 11) (r2 := 13) (r3 := 0) rfl rfl (by decide) rfl ⟨rfl, rfl⟩ rfl ?_
              refine wi_bipush (n := 74) (nx := 6) (r1 := 0) (r2 := 0) (r3 := 0) rfl (by decide) ?_
              refine wi_bipush (n := 6) (nx := 8) (r1 := 0) (r2 := 0) (r3 := 0) rfl (by decide) ?_
              refine wi_iload_n (i := 1) (e := 3) (nx := 9) (r1 := 0) (r2 := 0) (r3 := 0) rfl rfl ?_
              refine wr_mulL (18) (nx := 10) (r1 := 0) (r2 := 0) (r3 := 0) rfl (by decide) ?_
              refine wr_addL (92) (nx := 11) (r1 := 0) (r2 := 0) (r3 := 0) rfl (by decide) ?_
              refine wi_iload_n (i := 2) (e := h41 247 3) (nx := 12) (r1 := 0) (r2 := 0) (r3 := 0) rfl rfl ?_
              refine wr_add (nx := 13) (r1 := 0) (r2 := 0) (r3 := 0) rfl (fun e72 (fe72 : e72 = 92 + (h41 247 3)) => ?_)
              obtain ⟨i73, ei73⟩ : ∃ q : Nat, e72 = (q : Int) := ⟨(e72).toNat, by omega⟩
              have b74 := gi_b (lo := 0) (hi := 11) g 238 i73 (gi_rg 92 6 (fun _ => rfl) (by decide +kernel) (by omega))
              refine wr_ia (k0 := 238) (a := e72) (f := i73) (x := h 238 i73) (nx := 14) (r1 := 0) (r2 := 0) (r3 := 0) rfl (by decide) rfl (by omega) (by omega) (by decide) ((u41 238 i73 (fn_a (by decide) (fn_a (by decide) (fn_a (by decide) (fn_a (by decide) fn_0))))).trans ((u31 238 i73 (fo_nk rfl)).trans ((u18 238 i73 (fo_nk rfl)).trans (u15 238 i73 (fn_a (by omega) fn_0))))) ?_
              refine wi_ireturn (nx := 15) (r1 := 0) (r2 := 0) (r3 := 0) rfl rfl ?_
              refine wk_i ?_
              refine wr_add (nx := 225) (r1 := 0) (r2 := 0) (r3 := 0) rfl (fun e75 (fe75 : e75 = 31 + (h 238 i73)) => ?_)
              obtain ⟨i76, ei76⟩ : ∃ q : Nat, e75 = (q : Int) := ⟨(e75).toNat, by omega⟩
              have b77 := gi_b (lo := 0) (hi := 4) g 238 i76 (gi_rg 31 12 (fun _ => rfl) (by decide +kernel) (by omega))
              refine wr_ia (k0 := 238) (a := e75) (f := i76) (x := h 238 i76) (nx := 226) (r1 := 0) (r2 := 0) (r3 := 0) rfl (by decide) rfl (by omega) (by omega) (by decide) ((u41 238 i76 (fn_a (by decide) (fn_a (by decide) (fn_a (by decide) (fn_a (by decide) fn_0))))).trans ((u31 238 i76 (fo_nk rfl)).trans ((u18 238 i76 (fo_nk rfl)).trans (u15 238 i76 (fn_a (by omega) fn_0))))) ?_
              refine wi_istore (i := 8) (e := h 238 i76) (lo2 := [(8, vi (h 238 i76)), (0, .ref 236), (1, vi z14), (2, vi (h18 246 i24)), (3, vi x28), (4, vi x29), (5, vi x30), (6, vi (h18 246 i48)), (7, vi 3)]) (nx := 228) (r1 := 0) (r2 := 0) (r3 := 0) rfl rfl ?_
              refine wi_iload (i := 8) (e := h 238 i76) (nx := 230) (r1 := 0) (r2 := 0) (r3 := 0) rfl rfl ?_
              refine wi_iload (i := 4) (e := x29) (nx := 232) (r1 := 0) (r2 := 0) (r3 := 0) rfl rfl ?_
              refine wi_icmp (cd := .ne) (nx := 235) (r1 := 253) (r2 := 0) (r3 := 0) rfl (by omega) (by omega) (fun (q78 : (h 238 i76) ≠ x29) => ?_) (fun (q78 : ¬ ((h 238 i76) ≠ x29)) => ?_)
              ·
                refine wi_iconst (n := 1) (nx := 254) (r1 := 0) (r2 := 0) (r3 := 0) rfl ?_
                refine wi_istore (i := 5) (e := 1) (lo2 := [(5, vi 1), (8, vi (h 238 i76)), (0, .ref 236), (1, vi z14), (2, vi (h18 246 i24)), (3, vi x28), (4, vi x29), (6, vi (h18 246 i48)), (7, vi 3)]) (nx := 256) (r1 := 0) (r2 := 0) (r3 := 0) rfl rfl ?_
                refine wi_iload (i := 8) (e := h 238 i76) (nx := 258) (r1 := 0) (r2 := 0) (r3 := 0) rfl rfl ?_
                refine wi_istore (i := 4) (e := h 238 i76) (lo2 := [(4, vi (h 238 i76)), (5, vi 1), (8, vi (h 238 i76)), (0, .ref 236), (1, vi z14), (2, vi (h18 246 i24)), (3, vi x28), (6, vi (h18 246 i48)), (7, vi 3)]) (nx := 260) (r1 := 0) (r2 := 0) (r3 := 0) rfl rfl ?_
                refine wi_iload_n (i := 3) (e := x28) (nx := 261) (r1 := 0) (r2 := 0) (r3 := 0) rfl rfl ?_
                refine wi_iload (i := 7) (e := 3) (nx := 263) (r1 := 0) (r2 := 0) (r3 := 0) rfl rfl ?_
                refine wi_S (rest := [vi x28]) (as := [vi 3]) (nx := 266) (r1 := 307) (r2 := 17) (r3 := 0) rfl rfl rfl (of_decide_eq_true rfl) rfl rfl (of_decide_eq_true rfl) (of_decide_eq_true rfl) ?_
                refine wi_iload_n (i := 0) (e := 3) (nx := 1) (r1 := 0) (r2 := 0) (r3 := 0) rfl rfl ?_
                refine wi_if (cd := .ne) (nx := 4) (r1 := 10) (r2 := 0) (r3 := 0) rfl (by omega) (fun (q79 : 3 ≠ 0) => ?_) (fun (q79 : ¬ (3 ≠ 0)) => by exfalso; omega)
                refine wi_iload_n (i := 0) (e := 3) (nx := 11) (r1 := 0) (r2 := 0) (r3 := 0) rfl rfl ?_
                refine wi_iconst (n := 1) (nx := 12) (r1 := 0) (r2 := 0) (r3 := 0) rfl ?_
                refine wi_icmp (cd := .ne) (nx := 15) (r1 := 20) (r2 := 0) (r3 := 0) rfl (by omega) (by omega) (fun (q80 : 3 ≠ 1) => ?_) (fun (q80 : ¬ (3 ≠ 1)) => by exfalso; omega)
                refine wi_iload_n (i := 0) (e := 3) (nx := 21) (r1 := 0) (r2 := 0) (r3 := 0) rfl rfl ?_
                refine wi_iconst (n := 2) (nx := 22) (r1 := 0) (r2 := 0) (r3 := 0) rfl ?_
                refine wi_icmp (cd := .ne) (nx := 25) (r1 := 30) (r2 := 0) (r3 := 0) rfl (by omega) (by omega) (fun (q81 : 3 ≠ 2) => ?_) (fun (q81 : ¬ (3 ≠ 2)) => by exfalso; omega)
                refine wi_iconst (n := 1) (nx := 31) (r1 := 0) (r2 := 0) (r3 := 0) rfl ?_
                refine wi_ireturn (nx := 32) (r1 := 0) (r2 := 0) (r3 := 0) rfl rfl ?_
                refine wk_i ?_
                refine wr_add (nx := 267) (r1 := 0) (r2 := 0) (r3 := 0) rfl (fun e82 (fe82 : e82 = x28 + 1) => ?_)
                refine wi_istore_n (i := 3) (e := e82) (lo2 := [(3, vi e82), (4, vi (h 238 i76)), (5, vi 1), (8, vi (h 238 i76)), (0, .ref 236), (1, vi z14), (2, vi (h18 246 i24)), (6, vi (h18 246 i48)), (7, vi 3)]) (nx := 268) (r1 := 0) (r2 := 0) (r3 := 0) rfl rfl ?_
                refine wi_aload_n (i := 0) (x := 236) (nx := 269) (r1 := 0) (r2 := 0) (r3 := 0) rfl rfl ?_
                refine wr_gr (k0 := 236) (x := 248) (nx := 272) (r1 := 11) (r2 := 31) (r3 := 0) rfl rfl (by decide) rfl ⟨rfl, rfl⟩ rfl ?_
                refine wi_aload_n (i := 0) (x := 236) (nx := 273) (r1 := 0) (r2 := 0) (r3 := 0) rfl rfl ?_
                refine wr_gi0 (k0 := 236) (x := h31 236 32) (nx := 276) (r1 := 11) (r2 := 32) (r3 := 0) rfl rfl (by decide) rfl ⟨rfl, rfl⟩ rfl (u41 236 32 rfl) ?_
                refine wi_iload (i := 7) (e := 3) (nx := 278) (r1 := 0) (r2 := 0) (r3 := 0) rfl rfl ?_
                obtain ⟨i83, ei83⟩ : ∃ q : Nat, (h31 236 32) = (q : Int) := ⟨(h31 236 32).toNat, by omega⟩
                refine wr_is (k0 := 248) (a := h31 236 32) (f := i83) (x := 3) (bl := 0) (bh := 3) (nx := 279) (r1 := 0) (r2 := 0) (r3 := 0) rfl (by decide) rfl (by omega) (by omega) (by decide) g41 rfl (by omega) (fun h84 g84 w84 u84 => ?_)
                have F85 := F42.then rfl (FR.rngp (lo := 248) (hi := 248) u84 (by decide))
                have F86 := F43.then rfl (FR.rngp (lo := 248) (hi := 248) u84 (by decide))
                refine wi_aload_n (i := 0) (x := 236) (nx := 280) (r1 := 0) (r2 := 0) (r3 := 0) rfl rfl ?_
                refine wi_dup (nx := 281) (r1 := 0) (r2 := 0) (r3 := 0) rfl rfl ?_
                refine wr_gi0 (k0 := 236) (x := h31 236 32) (nx := 284) (r1 := 11) (r2 := 32) (r3 := 0) rfl rfl (by decide) rfl ⟨rfl, rfl⟩ rfl ((u84 236 32 (fn_a (by omega) fn_0)).trans (u41 236 32 rfl)) ?_
                refine wi_iconst (n := 1) (nx := 285) (r1 := 0) (r2 := 0) (r3 := 0) rfl ?_
                refine wr_add (nx := 286) (r1 := 0) (r2 := 0) (r3 := 0) rfl (fun e87 (fe87 : e87 = (h31 236 32) + 1) => ?_)
                refine wr_pf0 (k0 := 236) (x := e87) (bl := 0) (bh := 12) (nx := 289) (r1 := 11) (r2 := 32) (r3 := 0) rfl (by decide) rfl ⟨rfl, rfl⟩ rfl rfl g84 rfl (by omega) (fun h88 g88 w88 u88 => ?_)
                have F89 := F85.then rfl u88
                have F90 := F86.then rfl u88
                refine wi_goto (nx := 292) (r1 := 153) (r2 := 0) (r3 := 0) rfl ?_
                have e91 : h88 236 32 = e87 := w88
                refine wp.lo (lo := [(0, .ref 236), (1, vi z14), (2, vi (h18 246 i24)), (3, vi e82), (4, vi (h 238 i76)), (5, vi 1)]) ⟨rfl, rfl, rfl, rfl, rfl, rfl, trivial⟩ rfl ?_
                have q92 : h41 238 = h31 238 := funext (fun i => (u41 238 i (fo_no_ok (by decide) i)))
                have q93 : h41 246 = h31 246 := funext (fun i => (u41 246 i (fo_no_ok (by decide) i)))
                have c94 : h41 246 i48 = h18 246 i48 := ((u41 246 i48 (fn_a (by decide) (fn_a (by decide) (fn_a (by decide) (fn_a (by decide) fn_0))))).trans (u31 246 i48 (fo_nk rfl)))
                have c95 : h31 238 i73 = h 238 i73 := ((u31 238 i73 (fo_nk rfl)).trans ((u18 238 i73 (fo_nk rfl)).trans (u15 238 i73 (fn_a (by omega) fn_0))))
                have c96 : h31 238 i76 = h 238 i76 := ((u31 238 i76 (fo_nk rfl)).trans ((u18 238 i76 (fo_nk rfl)).trans (u15 238 i76 (fn_a (by omega) fn_0))))
                have e97 : h31 238 5 = h 238 5 := ((u31 238 5 rfl).trans ((u18 238 5 rfl).trans (u15 238 5 rfl)))
                have t98 : h41 247 3 = TQ (x28).toNat 3 := y41_0 (x28).toNat (by omega) 3 (by decide)
                have wk99 := WK.step (R := h31 238) (LS := h31 246) (gi_RB g31) (l := 3) (p := (x28).toNat) (c := x29) (r := x30) (its := h 238 i76) (r2 := 1) (by decide) (by omega) (by omega) (X31_0 (x28).toNat (by omega)) (by rw [← q92, ← q93, ← u_by_T (T := h41 247) (fun l hl => y41_0 (x28).toNat (by omega) l hl) (by decide), ← y67_0, show 60 * (x28).toNat + 10 * (x29).toNat + (x30).toNat = i48 by omega]; omega) (by rw [show 74 + 6 * 3 + (TQ (x28).toNat 3).toNat = i73 by omega, show 31 + (h31 238 i73).toNat = i76 by omega]; omega) (by split <;> omega)
                have wk99b := wk99.2
                simp [wt] at wk99b
                have q100 : h88 238 = h31 238 := funext (fun i => ((u88 238 i rfl).trans ((u84 238 i (fn_a (by omega) fn_0)).trans (u41 238 i (fo_no_ok (by decide) i)))))
                have q101 : h88 246 = h31 246 := funext (fun i => ((u88 246 i rfl).trans ((u84 246 i (fn_a (by omega) fn_0)).trans (u41 246 i (fo_no_ok (by decide) i)))))
                exact I31 e82 (h 238 i76) 1 h88 ⟨g88, F89, F90, (show (0 ≤ e82 ∧ e82 ≤ 2400) ∧ (0 ≤ (h 238 i76) ∧ (h 238 i76) ≤ 5) ∧ (0 ≤ 1 ∧ 1 ≤ 9) ∧ (1 ≤ (h18 238 5)) ∧ ((h88 236 32) ≤ z14) by omega), (fun pp e => by
                    obtain rfl : pp = (x28).toNat + wt 3 := by simp [wt]; omega
                    rw [q100, q101, show h88 236 32 = h31 236 32 + 1 by omega]
                    exact wk99.1)⟩ (show (z14 - (h88 236 32)).toNat < (z14 - (h31 236 32)).toNat by omega)
              ·
                refine wi_iload (i := 5) (e := x30) (nx := 237) (r1 := 0) (r2 := 0) (r3 := 0) rfl rfl ?_
                refine wi_aload_n (i := 0) (x := 236) (nx := 238) (r1 := 0) (r2 := 0) (r3 := 0) rfl rfl ?_
                refine wr_gr (k0 := 236) (x := 238) (nx := 241) (r1 := 11) (r2 := 13) (r3 := 0) rfl rfl (by decide) rfl ⟨rfl, rfl⟩ rfl ?_
                refine wi_iconst (n := 5) (nx := 242) (r1 := 0) (r2 := 0) (r3 := 0) rfl ?_
                refine wr_ia (k0 := 238) (a := 5) (f := 5) (x := h 238 5) (nx := 243) (r1 := 0) (r2 := 0) (r3 := 0) rfl (by decide) rfl (by omega) (by omega) (by decide) ((u41 238 5 rfl).trans ((u31 238 5 rfl).trans ((u18 238 5 rfl).trans (u15 238 5 rfl)))) ?_
                refine wi_icmp (cd := .eq) (nx := 246) (r1 := 253) (r2 := 0) (r3 := 0) rfl (by omega) (by omega) (fun (q79 : x30 = (h 238 5)) => ?_) (fun (q79 : ¬ (x30 = (h 238 5))) => ?_)
                ·
                  refine wi_iconst (n := 1) (nx := 254) (r1 := 0) (r2 := 0) (r3 := 0) rfl ?_
                  refine wi_istore (i := 5) (e := 1) (lo2 := [(5, vi 1), (8, vi (h 238 i76)), (0, .ref 236), (1, vi z14), (2, vi (h18 246 i24)), (3, vi x28), (4, vi x29), (6, vi (h18 246 i48)), (7, vi 3)]) (nx := 256) (r1 := 0) (r2 := 0) (r3 := 0) rfl rfl ?_
                  refine wi_iload (i := 8) (e := h 238 i76) (nx := 258) (r1 := 0) (r2 := 0) (r3 := 0) rfl rfl ?_
                  refine wi_istore (i := 4) (e := h 238 i76) (lo2 := [(4, vi (h 238 i76)), (5, vi 1), (8, vi (h 238 i76)), (0, .ref 236), (1, vi z14), (2, vi (h18 246 i24)), (3, vi x28), (6, vi (h18 246 i48)), (7, vi 3)]) (nx := 260) (r1 := 0) (r2 := 0) (r3 := 0) rfl rfl ?_
                  refine wi_iload_n (i := 3) (e := x28) (nx := 261) (r1 := 0) (r2 := 0) (r3 := 0) rfl rfl ?_
                  refine wi_iload (i := 7) (e := 3) (nx := 263) (r1 := 0) (r2 := 0) (r3 := 0) rfl rfl ?_
                  refine wi_S (rest := [vi x28]) (as := [vi 3]) (nx := 266) (r1 := 307) (r2 := 17) (r3 := 0) rfl rfl rfl (of_decide_eq_true rfl) rfl rfl (of_decide_eq_true rfl) (of_decide_eq_true rfl) ?_
                  refine wi_iload_n (i := 0) (e := 3) (nx := 1) (r1 := 0) (r2 := 0) (r3 := 0) rfl rfl ?_
                  refine wi_if (cd := .ne) (nx := 4) (r1 := 10) (r2 := 0) (r3 := 0) rfl (by omega) (fun (q80 : 3 ≠ 0) => ?_) (fun (q80 : ¬ (3 ≠ 0)) => by exfalso; omega)
                  refine wi_iload_n (i := 0) (e := 3) (nx := 11) (r1 := 0) (r2 := 0) (r3 := 0) rfl rfl ?_
                  refine wi_iconst (n := 1) (nx := 12) (r1 := 0) (r2 := 0) (r3 := 0) rfl ?_
                  refine wi_icmp (cd := .ne) (nx := 15) (r1 := 20) (r2 := 0) (r3 := 0) rfl (by omega) (by omega) (fun (q81 : 3 ≠ 1) => ?_) (fun (q81 : ¬ (3 ≠ 1)) => by exfalso; omega)
                  refine wi_iload_n (i := 0) (e := 3) (nx := 21) (r1 := 0) (r2 := 0) (r3 := 0) rfl rfl ?_
                  refine wi_iconst (n := 2) (nx := 22) (r1 := 0) (r2 := 0) (r3 := 0) rfl ?_
                  refine wi_icmp (cd := .ne) (nx := 25) (r1 := 30) (r2 := 0) (r3 := 0) rfl (by omega) (by omega) (fun (q82 : 3 ≠ 2) => ?_) (fun (q82 : ¬ (3 ≠ 2)) => by exfalso; omega)
                  refine wi_iconst (n := 1) (nx := 31) (r1 := 0) (r2 := 0) (r3 := 0) rfl ?_
                  refine wi_ireturn (nx := 32) (r1 := 0) (r2 := 0) (r3 := 0) rfl rfl ?_
                  refine wk_i ?_
                  refine wr_add (nx := 267) (r1 := 0) (r2 := 0) (r3 := 0) rfl (fun e83 (fe83 : e83 = x28 + 1) => ?_)
                  refine wi_istore_n (i := 3) (e := e83) (lo2 := [(3, vi e83), (4, vi (h 238 i76)), (5, vi 1), (8, vi (h 238 i76)), (0, .ref 236), (1, vi z14), (2, vi (h18 246 i24)), (6, vi (h18 246 i48)), (7, vi 3)]) (nx := 268) (r1 := 0) (r2 := 0) (r3 := 0) rfl rfl ?_
                  refine wi_aload_n (i := 0) (x := 236) (nx := 269) (r1 := 0) (r2 := 0) (r3 := 0) rfl rfl ?_
                  refine wr_gr (k0 := 236) (x := 248) (nx := 272) (r1 := 11) (r2 := 31) (r3 := 0) rfl rfl (by decide) rfl ⟨rfl, rfl⟩ rfl ?_
                  refine wi_aload_n (i := 0) (x := 236) (nx := 273) (r1 := 0) (r2 := 0) (r3 := 0) rfl rfl ?_
                  refine wr_gi0 (k0 := 236) (x := h31 236 32) (nx := 276) (r1 := 11) (r2 := 32) (r3 := 0) rfl rfl (by decide) rfl ⟨rfl, rfl⟩ rfl (u41 236 32 rfl) ?_
                  refine wi_iload (i := 7) (e := 3) (nx := 278) (r1 := 0) (r2 := 0) (r3 := 0) rfl rfl ?_
                  obtain ⟨i84, ei84⟩ : ∃ q : Nat, (h31 236 32) = (q : Int) := ⟨(h31 236 32).toNat, by omega⟩
                  refine wr_is (k0 := 248) (a := h31 236 32) (f := i84) (x := 3) (bl := 0) (bh := 3) (nx := 279) (r1 := 0) (r2 := 0) (r3 := 0) rfl (by decide) rfl (by omega) (by omega) (by decide) g41 rfl (by omega) (fun h85 g85 w85 u85 => ?_)
                  have F86 := F42.then rfl (FR.rngp (lo := 248) (hi := 248) u85 (by decide))
                  have F87 := F43.then rfl (FR.rngp (lo := 248) (hi := 248) u85 (by decide))
                  refine wi_aload_n (i := 0) (x := 236) (nx := 280) (r1 := 0) (r2 := 0) (r3 := 0) rfl rfl ?_
                  refine wi_dup (nx := 281) (r1 := 0) (r2 := 0) (r3 := 0) rfl rfl ?_
                  refine wr_gi0 (k0 := 236) (x := h31 236 32) (nx := 284) (r1 := 11) (r2 := 32) (r3 := 0) rfl rfl (by decide) rfl ⟨rfl, rfl⟩ rfl ((u85 236 32 (fn_a (by omega) fn_0)).trans (u41 236 32 rfl)) ?_
                  refine wi_iconst (n := 1) (nx := 285) (r1 := 0) (r2 := 0) (r3 := 0) rfl ?_
                  refine wr_add (nx := 286) (r1 := 0) (r2 := 0) (r3 := 0) rfl (fun e88 (fe88 : e88 = (h31 236 32) + 1) => ?_)
                  refine wr_pf0 (k0 := 236) (x := e88) (bl := 0) (bh := 12) (nx := 289) (r1 := 11) (r2 := 32) (r3 := 0) rfl (by decide) rfl ⟨rfl, rfl⟩ rfl rfl g85 rfl (by omega) (fun h89 g89 w89 u89 => ?_)
                  have F90 := F86.then rfl u89
                  have F91 := F87.then rfl u89
                  refine wi_goto (nx := 292) (r1 := 153) (r2 := 0) (r3 := 0) rfl ?_
                  have e92 : h89 236 32 = e88 := w89
                  refine wp.lo (lo := [(0, .ref 236), (1, vi z14), (2, vi (h18 246 i24)), (3, vi e83), (4, vi (h 238 i76)), (5, vi 1)]) ⟨rfl, rfl, rfl, rfl, rfl, rfl, trivial⟩ rfl ?_
                  have q93 : h41 238 = h31 238 := funext (fun i => (u41 238 i (fo_no_ok (by decide) i)))
                  have q94 : h41 246 = h31 246 := funext (fun i => (u41 246 i (fo_no_ok (by decide) i)))
                  have c95 : h41 246 i48 = h18 246 i48 := ((u41 246 i48 (fn_a (by decide) (fn_a (by decide) (fn_a (by decide) (fn_a (by decide) fn_0))))).trans (u31 246 i48 (fo_nk rfl)))
                  have c96 : h31 238 i73 = h 238 i73 := ((u31 238 i73 (fo_nk rfl)).trans ((u18 238 i73 (fo_nk rfl)).trans (u15 238 i73 (fn_a (by omega) fn_0))))
                  have c97 : h31 238 i76 = h 238 i76 := ((u31 238 i76 (fo_nk rfl)).trans ((u18 238 i76 (fo_nk rfl)).trans (u15 238 i76 (fn_a (by omega) fn_0))))
                  have e98 : h31 238 5 = h 238 5 := ((u31 238 5 rfl).trans ((u18 238 5 rfl).trans (u15 238 5 rfl)))
                  have t99 : h41 247 3 = TQ (x28).toNat 3 := y41_0 (x28).toNat (by omega) 3 (by decide)
                  have wk100 := WK.step (R := h31 238) (LS := h31 246) (gi_RB g31) (l := 3) (p := (x28).toNat) (c := x29) (r := x30) (its := h 238 i76) (r2 := 1) (by decide) (by omega) (by omega) (X31_0 (x28).toNat (by omega)) (by rw [← q93, ← q94, ← u_by_T (T := h41 247) (fun l hl => y41_0 (x28).toNat (by omega) l hl) (by decide), ← y67_0, show 60 * (x28).toNat + 10 * (x29).toNat + (x30).toNat = i48 by omega]; omega) (by rw [show 74 + 6 * 3 + (TQ (x28).toNat 3).toNat = i73 by omega, show 31 + (h31 238 i73).toNat = i76 by omega]; omega) (by split <;> omega)
                  have wk100b := wk100.2
                  simp [wt] at wk100b
                  have q101 : h89 238 = h31 238 := funext (fun i => ((u89 238 i rfl).trans ((u85 238 i (fn_a (by omega) fn_0)).trans (u41 238 i (fo_no_ok (by decide) i)))))
                  have q102 : h89 246 = h31 246 := funext (fun i => ((u89 246 i rfl).trans ((u85 246 i (fn_a (by omega) fn_0)).trans (u41 246 i (fo_no_ok (by decide) i)))))
                  exact I31 e83 (h 238 i76) 1 h89 ⟨g89, F90, F91, (show (0 ≤ e83 ∧ e83 ≤ 2400) ∧ (0 ≤ (h 238 i76) ∧ (h 238 i76) ≤ 5) ∧ (0 ≤ 1 ∧ 1 ≤ 9) ∧ (1 ≤ (h18 238 5)) ∧ ((h89 236 32) ≤ z14) by omega), (fun pp e => by
                      obtain rfl : pp = (x28).toNat + wt 3 := by simp [wt]; omega
                      rw [q101, q102, show h89 236 32 = h31 236 32 + 1 by omega]
                      exact wk100.1)⟩ (show (z14 - (h89 236 32)).toNat < (z14 - (h31 236 32)).toNat by omega)
                ·
                  refine wi_iload (i := 5) (e := x30) (nx := 248) (r1 := 0) (r2 := 0) (r3 := 0) rfl rfl ?_
                  refine wi_iconst (n := 1) (nx := 249) (r1 := 0) (r2 := 0) (r3 := 0) rfl ?_
                  refine wr_add (nx := 250) (r1 := 0) (r2 := 0) (r3 := 0) rfl (fun e80 (fe80 : e80 = x30 + 1) => ?_)
                  refine wi_goto (nx := 253) (r1 := 254) (r2 := 0) (r3 := 0) rfl ?_
                  refine wi_istore (i := 5) (e := e80) (lo2 := [(5, vi e80), (8, vi (h 238 i76)), (0, .ref 236), (1, vi z14), (2, vi (h18 246 i24)), (3, vi x28), (4, vi x29), (6, vi (h18 246 i48)), (7, vi 3)]) (nx := 256) (r1 := 0) (r2 := 0) (r3 := 0) rfl rfl ?_
                  refine wi_iload (i := 8) (e := h 238 i76) (nx := 258) (r1 := 0) (r2 := 0) (r3 := 0) rfl rfl ?_
                  refine wi_istore (i := 4) (e := h 238 i76) (lo2 := [(4, vi (h 238 i76)), (5, vi e80), (8, vi (h 238 i76)), (0, .ref 236), (1, vi z14), (2, vi (h18 246 i24)), (3, vi x28), (6, vi (h18 246 i48)), (7, vi 3)]) (nx := 260) (r1 := 0) (r2 := 0) (r3 := 0) rfl rfl ?_
                  refine wi_iload_n (i := 3) (e := x28) (nx := 261) (r1 := 0) (r2 := 0) (r3 := 0) rfl rfl ?_
                  refine wi_iload (i := 7) (e := 3) (nx := 263) (r1 := 0) (r2 := 0) (r3 := 0) rfl rfl ?_
                  refine wi_S (rest := [vi x28]) (as := [vi 3]) (nx := 266) (r1 := 307) (r2 := 17) (r3 := 0) rfl rfl rfl (of_decide_eq_true rfl) rfl rfl (of_decide_eq_true rfl) (of_decide_eq_true rfl) ?_
                  refine wi_iload_n (i := 0) (e := 3) (nx := 1) (r1 := 0) (r2 := 0) (r3 := 0) rfl rfl ?_
                  refine wi_if (cd := .ne) (nx := 4) (r1 := 10) (r2 := 0) (r3 := 0) rfl (by omega) (fun (q81 : 3 ≠ 0) => ?_) (fun (q81 : ¬ (3 ≠ 0)) => by exfalso; omega)
                  refine wi_iload_n (i := 0) (e := 3) (nx := 11) (r1 := 0) (r2 := 0) (r3 := 0) rfl rfl ?_
                  refine wi_iconst (n := 1) (nx := 12) (r1 := 0) (r2 := 0) (r3 := 0) rfl ?_
                  refine wi_icmp (cd := .ne) (nx := 15) (r1 := 20) (r2 := 0) (r3 := 0) rfl (by omega) (by omega) (fun (q82 : 3 ≠ 1) => ?_) (fun (q82 : ¬ (3 ≠ 1)) => by exfalso; omega)
                  refine wi_iload_n (i := 0) (e := 3) (nx := 21) (r1 := 0) (r2 := 0) (r3 := 0) rfl rfl ?_
                  refine wi_iconst (n := 2) (nx := 22) (r1 := 0) (r2 := 0) (r3 := 0) rfl ?_
                  refine wi_icmp (cd := .ne) (nx := 25) (r1 := 30) (r2 := 0) (r3 := 0) rfl (by omega) (by omega) (fun (q83 : 3 ≠ 2) => ?_) (fun (q83 : ¬ (3 ≠ 2)) => by exfalso; omega)
                  refine wi_iconst (n := 1) (nx := 31) (r1 := 0) (r2 := 0) (r3 := 0) rfl ?_
                  refine wi_ireturn (nx := 32) (r1 := 0) (r2 := 0) (r3 := 0) rfl rfl ?_
                  refine wk_i ?_
                  refine wr_add (nx := 267) (r1 := 0) (r2 := 0) (r3 := 0) rfl (fun e84 (fe84 : e84 = x28 + 1) => ?_)
                  refine wi_istore_n (i := 3) (e := e84) (lo2 := [(3, vi e84), (4, vi (h 238 i76)), (5, vi e80), (8, vi (h 238 i76)), (0, .ref 236), (1, vi z14), (2, vi (h18 246 i24)), (6, vi (h18 246 i48)), (7, vi 3)]) (nx := 268) (r1 := 0) (r2 := 0) (r3 := 0) rfl rfl ?_
                  refine wi_aload_n (i := 0) (x := 236) (nx := 269) (r1 := 0) (r2 := 0) (r3 := 0) rfl rfl ?_
                  refine wr_gr (k0 := 236) (x := 248) (nx := 272) (r1 := 11) (r2 := 31) (r3 := 0) rfl rfl (by decide) rfl ⟨rfl, rfl⟩ rfl ?_
                  refine wi_aload_n (i := 0) (x := 236) (nx := 273) (r1 := 0) (r2 := 0) (r3 := 0) rfl rfl ?_
                  refine wr_gi0 (k0 := 236) (x := h31 236 32) (nx := 276) (r1 := 11) (r2 := 32) (r3 := 0) rfl rfl (by decide) rfl ⟨rfl, rfl⟩ rfl (u41 236 32 rfl) ?_
                  refine wi_iload (i := 7) (e := 3) (nx := 278) (r1 := 0) (r2 := 0) (r3 := 0) rfl rfl ?_
                  obtain ⟨i85, ei85⟩ : ∃ q : Nat, (h31 236 32) = (q : Int) := ⟨(h31 236 32).toNat, by omega⟩
                  refine wr_is (k0 := 248) (a := h31 236 32) (f := i85) (x := 3) (bl := 0) (bh := 3) (nx := 279) (r1 := 0) (r2 := 0) (r3 := 0) rfl (by decide) rfl (by omega) (by omega) (by decide) g41 rfl (by omega) (fun h86 g86 w86 u86 => ?_)
                  have F87 := F42.then rfl (FR.rngp (lo := 248) (hi := 248) u86 (by decide))
                  have F88 := F43.then rfl (FR.rngp (lo := 248) (hi := 248) u86 (by decide))
                  refine wi_aload_n (i := 0) (x := 236) (nx := 280) (r1 := 0) (r2 := 0) (r3 := 0) rfl rfl ?_
                  refine wi_dup (nx := 281) (r1 := 0) (r2 := 0) (r3 := 0) rfl rfl ?_
                  refine wr_gi0 (k0 := 236) (x := h31 236 32) (nx := 284) (r1 := 11) (r2 := 32) (r3 := 0) rfl rfl (by decide) rfl ⟨rfl, rfl⟩ rfl ((u86 236 32 (fn_a (by omega) fn_0)).trans (u41 236 32 rfl)) ?_
                  refine wi_iconst (n := 1) (nx := 285) (r1 := 0) (r2 := 0) (r3 := 0) rfl ?_
                  refine wr_add (nx := 286) (r1 := 0) (r2 := 0) (r3 := 0) rfl (fun e89 (fe89 : e89 = (h31 236 32) + 1) => ?_)
                  refine wr_pf0 (k0 := 236) (x := e89) (bl := 0) (bh := 12) (nx := 289) (r1 := 11) (r2 := 32) (r3 := 0) rfl (by decide) rfl ⟨rfl, rfl⟩ rfl rfl g86 rfl (by omega) (fun h90 g90 w90 u90 => ?_)
                  have F91 := F87.then rfl u90
                  have F92 := F88.then rfl u90
                  refine wi_goto (nx := 292) (r1 := 153) (r2 := 0) (r3 := 0) rfl ?_
                  have e93 : h90 236 32 = e89 := w90
                  refine wp.lo (lo := [(0, .ref 236), (1, vi z14), (2, vi (h18 246 i24)), (3, vi e84), (4, vi (h 238 i76)), (5, vi e80)]) ⟨rfl, rfl, rfl, rfl, rfl, rfl, trivial⟩ rfl ?_
                  have q94 : h41 238 = h31 238 := funext (fun i => (u41 238 i (fo_no_ok (by decide) i)))
                  have q95 : h41 246 = h31 246 := funext (fun i => (u41 246 i (fo_no_ok (by decide) i)))
                  have c96 : h41 246 i48 = h18 246 i48 := ((u41 246 i48 (fn_a (by decide) (fn_a (by decide) (fn_a (by decide) (fn_a (by decide) fn_0))))).trans (u31 246 i48 (fo_nk rfl)))
                  have c97 : h31 238 i73 = h 238 i73 := ((u31 238 i73 (fo_nk rfl)).trans ((u18 238 i73 (fo_nk rfl)).trans (u15 238 i73 (fn_a (by omega) fn_0))))
                  have c98 : h31 238 i76 = h 238 i76 := ((u31 238 i76 (fo_nk rfl)).trans ((u18 238 i76 (fo_nk rfl)).trans (u15 238 i76 (fn_a (by omega) fn_0))))
                  have e99 : h31 238 5 = h 238 5 := ((u31 238 5 rfl).trans ((u18 238 5 rfl).trans (u15 238 5 rfl)))
                  have t100 : h41 247 3 = TQ (x28).toNat 3 := y41_0 (x28).toNat (by omega) 3 (by decide)
                  have wk101 := WK.step (R := h31 238) (LS := h31 246) (gi_RB g31) (l := 3) (p := (x28).toNat) (c := x29) (r := x30) (its := h 238 i76) (r2 := e80) (by decide) (by omega) (by omega) (X31_0 (x28).toNat (by omega)) (by rw [← q94, ← q95, ← u_by_T (T := h41 247) (fun l hl => y41_0 (x28).toNat (by omega) l hl) (by decide), ← y67_0, show 60 * (x28).toNat + 10 * (x29).toNat + (x30).toNat = i48 by omega]; omega) (by rw [show 74 + 6 * 3 + (TQ (x28).toNat 3).toNat = i73 by omega, show 31 + (h31 238 i73).toNat = i76 by omega]; omega) (by split <;> omega)
                  have wk101b := wk101.2
                  simp [wt] at wk101b
                  have q102 : h90 238 = h31 238 := funext (fun i => ((u90 238 i rfl).trans ((u86 238 i (fn_a (by omega) fn_0)).trans (u41 238 i (fo_no_ok (by decide) i)))))
                  have q103 : h90 246 = h31 246 := funext (fun i => ((u90 246 i rfl).trans ((u86 246 i (fn_a (by omega) fn_0)).trans (u41 246 i (fo_no_ok (by decide) i)))))
                  exact I31 e84 (h 238 i76) e80 h90 ⟨g90, F91, F92, (show (0 ≤ e84 ∧ e84 ≤ 2400) ∧ (0 ≤ (h 238 i76) ∧ (h 238 i76) ≤ 5) ∧ (0 ≤ e80 ∧ e80 ≤ 9) ∧ (e80 ≤ (h18 238 5)) ∧ ((h90 236 32) ≤ z14) by omega), (fun pp e => by
                      obtain rfl : pp = (x28).toNat + wt 3 := by simp [wt]; omega
                      rw [q102, q103, show h90 236 32 = h31 236 32 + 1 by omega]
                      exact wk101.1)⟩ (show (z14 - (h90 236 32)).toNat < (z14 - (h31 236 32)).toNat by omega)
            ·
              refine wr_iincL (i := 7) (n := 1) (v := 3) (4) ([(7, vi 4), (0, .ref 236), (1, vi z14), (2, vi (h18 246 i24)), (3, vi x28), (4, vi x29), (5, vi x30), (6, vi (h18 246 i48))]) (nx := 202) (r1 := 0) (r2 := 0) (r3 := 0) rfl rfl (by decide) rfl ?_
              refine wi_goto (nx := 205) (r1 := 184) (r2 := 0) (r3 := 0) rfl ?_
              refine wp.lo (lo := [(0, .ref 236), (1, vi z14), (2, vi (h18 246 i24)), (3, vi x28), (4, vi x29), (5, vi x30), (6, vi (h18 246 i48)), (7, vi 4)]) ⟨rfl, rfl, rfl, rfl, rfl, rfl, rfl, rfl, trivial⟩ rfl ?_
              obtain ⟨la72, haa72, hba72, hca72⟩ := X53_0
              have hda72 : la72 ≠ 3 := fun e => by subst e; omega
              exact I53 4 h41 ⟨rfl, (show (0 ≤ 4 ∧ 4 ≤ 3) by omega), ⟨la72, by omega, hba72, hca72⟩⟩ (show ((3 : Int) + 1 - 4).toNat < ((3 : Int) + 1 - x52).toNat by omega)
      ·
        refine wi_ldc_w (e := 1000000) (nx := 135) (r1 := 0) (r2 := 1000000) (r3 := 0) rfl (by decide) ?_
        refine wi_ireturn (nx := 136) (r1 := 0) (r2 := 0) (r3 := 0) rfl rfl ?_
        exact k h18 1000000 g18 F19 (by omega)
  ·
    refine wi_aload_n (i := 0) (x := 236) (nx := 19) (r1 := 0) (r2 := 0) (r3 := 0) rfl rfl ?_
    refine wi_iload_n (i := 2) (e := x17) (nx := 20) (r1 := 0) (r2 := 0) (r3 := 0) rfl rfl ?_
    refine wr_V (k0 := 236) (rest := []) (as := [.ref 236, vi x17]) (nx := 23) (r1 := 301) (r2 := 1) (r3 := 11) rfl rfl rfl (of_decide_eq_true rfl) rfl rfl (by decide) rfl rfl (of_decide_eq_true rfl) (of_decide_eq_true rfl) ?_
    refine ct_301_236 hcr  g18 x17 (by omega)  (fun h21 g21 u21 y21_0 => ?_)
    have F22 := F19.then (by decide +kernel) u21
    have F23 := u18.then (by decide +kernel) u21
    refine wk_n ?_
    refine wi_aload_n (i := 0) (x := 236) (nx := 24) (r1 := 0) (r2 := 0) (r3 := 0) rfl rfl ?_
    refine wr_V (k0 := 236) (rest := []) (as := [.ref 236]) (nx := 27) (r1 := 302) (r2 := 0) (r3 := 11) rfl rfl rfl (of_decide_eq_true rfl) rfl rfl (by decide) rfl rfl (of_decide_eq_true rfl) (of_decide_eq_true rfl) ?_
    refine ct_302_236 hcr  g21    (fun z25  (fz25 : 0 ≤ z25 ∧ z25 ≤ 1) y24_0 => ?_)
    refine wk_i ?_
    refine wi_istore_n (i := 3) (e := z25) (lo2 := [(3, vi z25), (0, .ref 236), (1, vi z14), (2, vi x17)]) (nx := 28) (r1 := 0) (r2 := 0) (r3 := 0) rfl rfl ?_
    refine wi_aload_n (i := 0) (x := 236) (nx := 29) (r1 := 0) (r2 := 0) (r3 := 0) rfl rfl ?_
    refine wr_V (k0 := 236) (rest := []) (as := [.ref 236]) (nx := 32) (r1 := 303) (r2 := 0) (r3 := 11) rfl rfl rfl (of_decide_eq_true rfl) rfl rfl (by decide) rfl rfl (of_decide_eq_true rfl) (of_decide_eq_true rfl) ?_
    refine wi_aload_n (i := 0) (x := 236) (nx := 1) (r1 := 0) (r2 := 0) (r3 := 0) rfl rfl ?_
    refine wr_gr (k0 := 236) (x := 247) (nx := 4) (r1 := 11) (r2 := 30) (r3 := 0) rfl rfl (by decide) rfl ⟨rfl, rfl⟩ rfl ?_
    refine wi_iconst (n := 0) (nx := 5) (r1 := 0) (r2 := 0) (r3 := 0) rfl ?_
    have b26 := gi_b (lo := 0) (hi := 6) g21 247 0 rfl
    refine wr_ia (k0 := 247) (a := 0) (f := 0) (x := h21 247 0) (nx := 6) (r1 := 0) (r2 := 0) (r3 := 0) rfl (by decide) rfl (by omega) (by omega) (by decide) rfl ?_
    refine wi_aload_n (i := 0) (x := 236) (nx := 7) (r1 := 0) (r2 := 0) (r3 := 0) rfl rfl ?_
    refine wr_gr (k0 := 236) (x := 247) (nx := 10) (r1 := 11) (r2 := 30) (r3 := 0) rfl rfl (by decide) rfl ⟨rfl, rfl⟩ rfl ?_
    refine wi_iconst (n := 1) (nx := 11) (r1 := 0) (r2 := 0) (r3 := 0) rfl ?_
    have b27 := gi_b (lo := 0) (hi := 6) g21 247 1 rfl
    refine wr_ia (k0 := 247) (a := 1) (f := 1) (x := h21 247 1) (nx := 12) (r1 := 0) (r2 := 0) (r3 := 0) rfl (by decide) rfl (by omega) (by omega) (by decide) rfl ?_
    refine wr_add (nx := 13) (r1 := 0) (r2 := 0) (r3 := 0) rfl (fun e28 (fe28 : e28 = (h21 247 0) + (h21 247 1)) => ?_)
    refine wi_aload_n (i := 0) (x := 236) (nx := 14) (r1 := 0) (r2 := 0) (r3 := 0) rfl rfl ?_
    refine wr_gr (k0 := 236) (x := 247) (nx := 17) (r1 := 11) (r2 := 30) (r3 := 0) rfl rfl (by decide) rfl ⟨rfl, rfl⟩ rfl ?_
    refine wi_iconst (n := 2) (nx := 18) (r1 := 0) (r2 := 0) (r3 := 0) rfl ?_
    have b29 := gi_b (lo := 0) (hi := 6) g21 247 2 rfl
    refine wr_ia (k0 := 247) (a := 2) (f := 2) (x := h21 247 2) (nx := 19) (r1 := 0) (r2 := 0) (r3 := 0) rfl (by decide) rfl (by omega) (by omega) (by decide) rfl ?_
    refine wr_add (nx := 20) (r1 := 0) (r2 := 0) (r3 := 0) rfl (fun e30 (fe30 : e30 = e28 + (h21 247 2)) => ?_)
    refine wi_aload_n (i := 0) (x := 236) (nx := 21) (r1 := 0) (r2 := 0) (r3 := 0) rfl rfl ?_
    refine wr_gr (k0 := 236) (x := 247) (nx := 24) (r1 := 11) (r2 := 30) (r3 := 0) rfl rfl (by decide) rfl ⟨rfl, rfl⟩ rfl ?_
    refine wi_iconst (n := 3) (nx := 25) (r1 := 0) (r2 := 0) (r3 := 0) rfl ?_
    have b31 := gi_b (lo := 0) (hi := 6) g21 247 3 rfl
    refine wr_ia (k0 := 247) (a := 3) (f := 3) (x := h21 247 3) (nx := 26) (r1 := 0) (r2 := 0) (r3 := 0) rfl (by decide) rfl (by omega) (by omega) (by decide) rfl ?_
    refine wr_add (nx := 27) (r1 := 0) (r2 := 0) (r3 := 0) rfl (fun e32 (fe32 : e32 = e30 + (h21 247 3)) => ?_)
    refine wi_ireturn (nx := 28) (r1 := 0) (r2 := 0) (r3 := 0) rfl rfl ?_
    refine wk_i ?_
    refine wi_iload_n (i := 1) (e := z14) (nx := 33) (r1 := 0) (r2 := 0) (r3 := 0) rfl rfl ?_
    refine wi_icmp (cd := .ne) (nx := 36) (r1 := 40) (r2 := 0) (r3 := 0) rfl (by omega) (by omega) (fun (q33 : e32 ≠ z14) => ?_) (fun (q33 : ¬ (e32 ≠ z14)) => ?_)
    ·
      refine wi_iconst (n := 0) (nx := 41) (r1 := 0) (r2 := 0) (r3 := 0) rfl ?_
      refine wi_istore (i := 4) (e := 0) (lo2 := [(4, vi 0), (3, vi z25), (0, .ref 236), (1, vi z14), (2, vi x17)]) (nx := 43) (r1 := 0) (r2 := 0) (r3 := 0) rfl rfl ?_
      refine wi_iconst (n := 0) (nx := 44) (r1 := 0) (r2 := 0) (r3 := 0) rfl ?_
      refine wi_istore (i := 5) (e := 0) (lo2 := [(5, vi 0), (4, vi 0), (3, vi z25), (0, .ref 236), (1, vi z14), (2, vi x17)]) (nx := 46) (r1 := 0) (r2 := 0) (r3 := 0) rfl rfl ?_
      have q36 : h21 238 = h18 238 := funext (fun i => (u21 238 i (fo_no_ok (by decide) i)))
      have q37 : h21 246 = h18 246 := funext (fun i => (u21 246 i (fo_no_ok (by decide) i)))
      refine wp.lo (lo := [(0, .ref 236), (1, vi z14), (2, vi x17), (3, vi z25), (4, vi 0), (5, vi 0)]) ⟨rfl, rfl, rfl, rfl, rfl, rfl, trivial⟩ rfl ?_
      refine wl_1 (fun x34 h35 => GI h35 ∧ FR [(246, 246, none), (248, 248, none), (236, 236, some (32, 32)), (247, 247, some (0, 0)), (247, 247, some (1, 1)), (247, 247, some (2, 2)), (247, 247, some (3, 3))] h h35 ∧ FR [(246, 246, none), (247, 247, some (0, 0)), (247, 247, some (1, 1)), (247, 247, some (2, 2)), (247, 247, some (3, 3))] h15 h35 ∧ FR [(246, 246, none)] h21 h35 ∧ ((0 ≤ x34 ∧ x34 ≤ 60)) ∧ (∀ q : Nat, x17 < (q : Int) → q ≤ 2400 → TB (h35 238) (h35 246) q 60) ∧ (∀ pp : Nat, (pp : Int) = x17 → TB (h35 238) (h35 246) pp (x34).toNat)) (fun x34 h35 => ((60 : Int) + 1 - x34).toNat) (fun x34 h35 => (46, [(0, .ref 236), (1, vi z14), (2, vi x17), (3, vi z25), (4, vi 0), (5, vi x34)], [], hp_w h35 cr, b, c)) ?_ 0 h21 ⟨g21, F22, F23, FR.refl, (show (0 ≤ 0 ∧ 0 ≤ 60) by omega), (fun q e1 e2 => by rw [q36, q37]; exact X18_0 q e1 e2), (fun pp e w t k hk => absurd hk (by simp))⟩
      intro x34 h35 ⟨g35, F38, F39, u35, f35, X35_0, X35_1⟩ I35
      refine wi_iload (i := 5) (e := x34) (nx := 48) (r1 := 0) (r2 := 0) (r3 := 0) rfl rfl ?_
      refine wi_bipush (n := 60) (nx := 50) (r1 := 0) (r2 := 0) (r3 := 0) rfl (by decide) ?_
      refine wi_icmp (cd := .ge) (nx := 53) (r1 := 98) (r2 := 0) (r3 := 0) rfl (by omega) (by omega) (fun (q40 : 60 ≤ x34) => ?_) (fun (q40 : ¬ (60 ≤ x34)) => ?_)
      ·
        refine wr_iinc (i := 2) (n := (-1)) (v := x17) (fun e41 => [(2, vi e41), (0, .ref 236), (1, vi z14), (3, vi z25), (4, vi 0), (5, vi x34)]) (nx := 101) (r1 := 0) (r2 := 0) (r3 := 0) rfl rfl (fun _ => rfl) (fun e41 (fe41 : e41 = x17 + (-1)) => ?_)
        refine wi_goto (nx := 104) (r1 := 14) (r2 := 0) (r3 := 0) rfl ?_
        refine wp.lo (lo := [(0, .ref 236), (1, vi z14), (2, vi e41)]) ⟨rfl, rfl, rfl, trivial⟩ rfl ?_
        exact I18 e41 h35 ⟨g35, F38, F39, (show (-1 ≤ e41 ∧ e41 ≤ 2400) by omega), (fun q e1 e2 => by
            by_cases e3 : (q : Int) = x17
            · have e4 := X35_1 q e3
              rw [show (x34).toNat = 60 by omega] at e4
              exact e4
            · exact X35_0 q (by omega) e2)⟩ (show ((e41 : Int) - (-1)).toNat < ((x17 : Int) - (-1)).toNat by omega)
      ·
        refine wi_iload_n (i := 3) (e := z25) (nx := 54) (r1 := 0) (r2 := 0) (r3 := 0) rfl rfl ?_
        refine wi_if (cd := .eq) (nx := 57) (r1 := 98) (r2 := 0) (r3 := 0) rfl (by omega) (fun (q41 : z25 = 0) => ?_) (fun (q41 : ¬ (z25 = 0)) => ?_)
        ·
          refine wr_iinc (i := 2) (n := (-1)) (v := x17) (fun e42 => [(2, vi e42), (0, .ref 236), (1, vi z14), (3, vi z25), (4, vi 0), (5, vi x34)]) (nx := 101) (r1 := 0) (r2 := 0) (r3 := 0) rfl rfl (fun _ => rfl) (fun e42 (fe42 : e42 = x17 + (-1)) => ?_)
          refine wi_goto (nx := 104) (r1 := 14) (r2 := 0) (r3 := 0) rfl ?_
          refine wp.lo (lo := [(0, .ref 236), (1, vi z14), (2, vi e42)]) ⟨rfl, rfl, rfl, trivial⟩ rfl ?_
          have q43 : h35 238 = h21 238 := funext (fun i => (u35 238 i (fo_no_ok (by decide) i)))
          have q44 : h21 247 = h21 247 := funext (fun i => rfl)
          exact I18 e42 h35 ⟨g35, F38, F39, (show (-1 ≤ e42 ∧ e42 ≤ 2400) by omega), (fun q e1 e2 => by
              by_cases e3 : (q : Int) = x17
              · intro w
                exact absurd (show WIT (h21 238) (h21 247) from fun l hl => by rw [q44, y21_0 q e3 l hl, ← q43]; exact w l hl) (iwP.neg y24_0 (by omega))
              · exact X35_0 q (by omega) e2)⟩ (show ((e42 : Int) - (-1)).toNat < ((x17 : Int) - (-1)).toNat by omega)
        ·
          refine wi_aload_n (i := 0) (x := 236) (nx := 58) (r1 := 0) (r2 := 0) (r3 := 0) rfl rfl ?_
          refine wr_gr (k0 := 236) (x := 246) (nx := 61) (r1 := 11) (r2 := 29) (r3 := 0) rfl rfl (by decide) rfl ⟨rfl, rfl⟩ rfl ?_
          refine wi_bipush (n := 60) (nx := 63) (r1 := 0) (r2 := 0) (r3 := 0) rfl (by decide) ?_
          refine wi_iload_n (i := 2) (e := x17) (nx := 64) (r1 := 0) (r2 := 0) (r3 := 0) rfl rfl ?_
          refine wr_mul (nx := 65) (r1 := 0) (r2 := 0) (r3 := 0) rfl (fun e42 (fe42 : e42 = 60 * x17) => ?_)
          refine wi_iload (i := 5) (e := x34) (nx := 67) (r1 := 0) (r2 := 0) (r3 := 0) rfl rfl ?_
          refine wr_add (nx := 68) (r1 := 0) (r2 := 0) (r3 := 0) rfl (fun e43 (fe43 : e43 = e42 + x34) => ?_)
          refine wi_iload (i := 4) (e := 0) (nx := 70) (r1 := 0) (r2 := 0) (r3 := 0) rfl rfl ?_
          refine wi_if (cd := .eq) (nx := 73) (r1 := 77) (r2 := 0) (r3 := 0) rfl (by omega) (fun (q44 : 0 = 0) => ?_) (fun (q44 : ¬ (0 = 0)) => by exfalso; omega)
          refine wi_aload_n (i := 0) (x := 236) (nx := 78) (r1 := 0) (r2 := 0) (r3 := 0) rfl rfl ?_
          refine wi_iload (i := 5) (e := x34) (nx := 80) (r1 := 0) (r2 := 0) (r3 := 0) rfl rfl ?_
          refine wi_bipush (n := 10) (nx := 82) (r1 := 0) (r2 := 0) (r3 := 0) rfl (by decide) ?_
          refine wr_idivC (nx := 83) (r1 := 0) (r2 := 0) (r3 := 0) rfl (by omega) (by decide) (fun e45 (fe45 : e45 = x34 / 10) => ?_)
          refine wi_iload (i := 5) (e := x34) (nx := 85) (r1 := 0) (r2 := 0) (r3 := 0) rfl rfl ?_
          refine wi_bipush (n := 10) (nx := 87) (r1 := 0) (r2 := 0) (r3 := 0) rfl (by decide) ?_
          refine wr_iremC (nx := 88) (r1 := 0) (r2 := 0) (r3 := 0) rfl (by omega) (by decide) (fun e46 (fe46 : e46 = x34 % 10) => ?_)
          refine wr_V (k0 := 236) (rest := [vi e43, .ref 246]) (as := [.ref 236, vi e45, vi e46]) (nx := 91) (r1 := 304) (r2 := 2) (r3 := 11) rfl rfl rfl (of_decide_eq_true rfl) rfl rfl (by decide) rfl rfl (of_decide_eq_true rfl) (of_decide_eq_true rfl) ?_
          refine ct_304_236 hcr  g35 e45 e46 (by omega) (by omega)  (fun z48  (fz48 : 0 ≤ z48 ∧ z48 ≤ 1000000) y47_0 => ?_)
          refine wk_i ?_
          obtain ⟨i49, ei49⟩ : ∃ q : Nat, e43 = (q : Int) := ⟨(e43).toNat, by omega⟩
          refine wr_is (k0 := 246) (a := e43) (f := i49) (x := z48) (bl := 0) (bh := 1000000) (nx := 92) (r1 := 0) (r2 := 0) (r3 := 0) rfl (by decide) rfl (by omega) (by omega) (by decide) g35 rfl (by omega) (fun h50 g50 w50 u50 => ?_)
          have F51 := F38.then rfl (FR.rngp (lo := 246) (hi := 246) u50 (by decide))
          have F52 := F39.then rfl (FR.rngp (lo := 246) (hi := 246) u50 (by decide))
          have F53 := u35.then rfl (FR.rngp (lo := 246) (hi := 246) u50 (by decide))
          refine wr_iinc (i := 5) (n := 1) (v := x34) (fun e54 => [(5, vi e54), (0, .ref 236), (1, vi z14), (2, vi x17), (3, vi z25), (4, vi 0)]) (nx := 95) (r1 := 0) (r2 := 0) (r3 := 0) rfl rfl (fun _ => rfl) (fun e54 (fe54 : e54 = x34 + 1) => ?_)
          refine wi_goto (nx := 98) (r1 := 46) (r2 := 0) (r3 := 0) rfl ?_
          refine wp.lo (lo := [(0, .ref 236), (1, vi z14), (2, vi x17), (3, vi z25), (4, vi 0), (5, vi e54)]) ⟨rfl, rfl, rfl, rfl, rfl, rfl, trivial⟩ rfl ?_
          have q55 : h50 238 = h35 238 := funext (fun i => (u50 238 i (fn_a (by omega) fn_0)))
          have q56 : h50 238 = h35 238 := funext (fun i => (u50 238 i (fn_a (by omega) fn_0)))
          have e57 : h35 247 0 = h21 247 0 := (u35 247 0 rfl)
          have e58 : h35 238 98 = h 238 98 := ((u35 238 98 rfl).trans ((u21 238 98 rfl).trans ((u18 238 98 rfl).trans (u15 238 98 rfl))))
          have e59 : h35 247 1 = h21 247 1 := (u35 247 1 rfl)
          have e60 : h35 238 99 = h 238 99 := ((u35 238 99 rfl).trans ((u21 238 99 rfl).trans ((u18 238 99 rfl).trans (u15 238 99 rfl))))
          have e61 : h35 247 2 = h21 247 2 := (u35 247 2 rfl)
          have e62 : h35 238 100 = h 238 100 := ((u35 238 100 rfl).trans ((u21 238 100 rfl).trans ((u18 238 100 rfl).trans (u15 238 100 rfl))))
          have e63 : h35 247 3 = h21 247 3 := (u35 247 3 rfl)
          have e64 : h35 238 101 = h 238 101 := ((u35 238 101 rfl).trans ((u21 238 101 rfl).trans ((u18 238 101 rfl).trans (u15 238 101 rfl))))
          have q65 : h35 247 = h21 247 := funext (fun i => (u35 247 i (fo_no_ok (by decide) i)))
          exact I35 e54 h50 ⟨g50, F51, F52, F53, (show (0 ≤ e54 ∧ e54 ≤ 60) by omega), (fun q e1 e2 => by rw [q55]; exact TB.upd (gi_RB g35) (p := (x17).toNat) (by decide) (by omega) (fun i hi => u50 246 i (fn_i (by omega) fn_0)) (X35_0 q e1 e2)), (fun pp e => by
              rw [q56, show (e54).toNat = (x34).toNat + 1 by omega]
              refine TB.put (gi_RB g35) (by omega) (fun i hi => u50 246 i (fn_i (by omega) fn_0)) (X35_1 pp e) (fun w0 s0 => ?_)
              rw [show 60 * pp + (x34).toNat = i49 by omega, w50]
              rcases y47_0 with y0 | ⟨l0, hl0, y0⟩
              · exact Or.inl y0
              · refine Or.inr ⟨l0, hl0, ?_⟩
                rw [← u_by_T (T := h35 247) (fun l hl => by rw [q65]; exact y21_0 pp e l hl) hl0, show (((x34).toNat / 10 : Nat) : Int) = e45 by omega, show (((x34).toNat % 10 : Nat) : Int) = e46 by omega]
                exact y0)⟩ (show ((60 : Int) + 1 - e54).toNat < ((60 : Int) + 1 - x34).toNat by omega)
    ·
      refine wi_iconst (n := 1) (nx := 37) (r1 := 0) (r2 := 0) (r3 := 0) rfl ?_
      refine wi_goto (nx := 40) (r1 := 41) (r2 := 0) (r3 := 0) rfl ?_
      refine wi_istore (i := 4) (e := 1) (lo2 := [(4, vi 1), (3, vi z25), (0, .ref 236), (1, vi z14), (2, vi x17)]) (nx := 43) (r1 := 0) (r2 := 0) (r3 := 0) rfl rfl ?_
      refine wi_iconst (n := 0) (nx := 44) (r1 := 0) (r2 := 0) (r3 := 0) rfl ?_
      refine wi_istore (i := 5) (e := 0) (lo2 := [(5, vi 0), (4, vi 1), (3, vi z25), (0, .ref 236), (1, vi z14), (2, vi x17)]) (nx := 46) (r1 := 0) (r2 := 0) (r3 := 0) rfl rfl ?_
      have q36 : h21 238 = h18 238 := funext (fun i => (u21 238 i (fo_no_ok (by decide) i)))
      have q37 : h21 246 = h18 246 := funext (fun i => (u21 246 i (fo_no_ok (by decide) i)))
      refine wp.lo (lo := [(0, .ref 236), (1, vi z14), (2, vi x17), (3, vi z25), (4, vi 1), (5, vi 0)]) ⟨rfl, rfl, rfl, rfl, rfl, rfl, trivial⟩ rfl ?_
      refine wl_1 (fun x34 h35 => GI h35 ∧ FR [(246, 246, none), (248, 248, none), (236, 236, some (32, 32)), (247, 247, some (0, 0)), (247, 247, some (1, 1)), (247, 247, some (2, 2)), (247, 247, some (3, 3))] h h35 ∧ FR [(246, 246, none), (247, 247, some (0, 0)), (247, 247, some (1, 1)), (247, 247, some (2, 2)), (247, 247, some (3, 3))] h15 h35 ∧ FR [(246, 246, none)] h21 h35 ∧ ((0 ≤ x34 ∧ x34 ≤ 60)) ∧ (∀ q : Nat, x17 < (q : Int) → q ≤ 2400 → TB (h35 238) (h35 246) q 60) ∧ (∀ pp : Nat, (pp : Int) = x17 → TB (h35 238) (h35 246) pp (x34).toNat)) (fun x34 h35 => ((60 : Int) + 1 - x34).toNat) (fun x34 h35 => (46, [(0, .ref 236), (1, vi z14), (2, vi x17), (3, vi z25), (4, vi 1), (5, vi x34)], [], hp_w h35 cr, b, c)) ?_ 0 h21 ⟨g21, F22, F23, FR.refl, (show (0 ≤ 0 ∧ 0 ≤ 60) by omega), (fun q e1 e2 => by rw [q36, q37]; exact X18_0 q e1 e2), (fun pp e w t k hk => absurd hk (by simp))⟩
      intro x34 h35 ⟨g35, F38, F39, u35, f35, X35_0, X35_1⟩ I35
      refine wi_iload (i := 5) (e := x34) (nx := 48) (r1 := 0) (r2 := 0) (r3 := 0) rfl rfl ?_
      refine wi_bipush (n := 60) (nx := 50) (r1 := 0) (r2 := 0) (r3 := 0) rfl (by decide) ?_
      refine wi_icmp (cd := .ge) (nx := 53) (r1 := 98) (r2 := 0) (r3 := 0) rfl (by omega) (by omega) (fun (q40 : 60 ≤ x34) => ?_) (fun (q40 : ¬ (60 ≤ x34)) => ?_)
      ·
        refine wr_iinc (i := 2) (n := (-1)) (v := x17) (fun e41 => [(2, vi e41), (0, .ref 236), (1, vi z14), (3, vi z25), (4, vi 1), (5, vi x34)]) (nx := 101) (r1 := 0) (r2 := 0) (r3 := 0) rfl rfl (fun _ => rfl) (fun e41 (fe41 : e41 = x17 + (-1)) => ?_)
        refine wi_goto (nx := 104) (r1 := 14) (r2 := 0) (r3 := 0) rfl ?_
        refine wp.lo (lo := [(0, .ref 236), (1, vi z14), (2, vi e41)]) ⟨rfl, rfl, rfl, trivial⟩ rfl ?_
        exact I18 e41 h35 ⟨g35, F38, F39, (show (-1 ≤ e41 ∧ e41 ≤ 2400) by omega), (fun q e1 e2 => by
            by_cases e3 : (q : Int) = x17
            · have e4 := X35_1 q e3
              rw [show (x34).toNat = 60 by omega] at e4
              exact e4
            · exact X35_0 q (by omega) e2)⟩ (show ((e41 : Int) - (-1)).toNat < ((x17 : Int) - (-1)).toNat by omega)
      ·
        refine wi_iload_n (i := 3) (e := z25) (nx := 54) (r1 := 0) (r2 := 0) (r3 := 0) rfl rfl ?_
        refine wi_if (cd := .eq) (nx := 57) (r1 := 98) (r2 := 0) (r3 := 0) rfl (by omega) (fun (q41 : z25 = 0) => ?_) (fun (q41 : ¬ (z25 = 0)) => ?_)
        ·
          refine wr_iinc (i := 2) (n := (-1)) (v := x17) (fun e42 => [(2, vi e42), (0, .ref 236), (1, vi z14), (3, vi z25), (4, vi 1), (5, vi x34)]) (nx := 101) (r1 := 0) (r2 := 0) (r3 := 0) rfl rfl (fun _ => rfl) (fun e42 (fe42 : e42 = x17 + (-1)) => ?_)
          refine wi_goto (nx := 104) (r1 := 14) (r2 := 0) (r3 := 0) rfl ?_
          refine wp.lo (lo := [(0, .ref 236), (1, vi z14), (2, vi e42)]) ⟨rfl, rfl, rfl, trivial⟩ rfl ?_
          have q43 : h35 238 = h21 238 := funext (fun i => (u35 238 i (fo_no_ok (by decide) i)))
          have q44 : h21 247 = h21 247 := funext (fun i => rfl)
          exact I18 e42 h35 ⟨g35, F38, F39, (show (-1 ≤ e42 ∧ e42 ≤ 2400) by omega), (fun q e1 e2 => by
              by_cases e3 : (q : Int) = x17
              · intro w
                exact absurd (show WIT (h21 238) (h21 247) from fun l hl => by rw [q44, y21_0 q e3 l hl, ← q43]; exact w l hl) (iwP.neg y24_0 (by omega))
              · exact X35_0 q (by omega) e2)⟩ (show ((e42 : Int) - (-1)).toNat < ((x17 : Int) - (-1)).toNat by omega)
        ·
          refine wi_aload_n (i := 0) (x := 236) (nx := 58) (r1 := 0) (r2 := 0) (r3 := 0) rfl rfl ?_
          refine wr_gr (k0 := 236) (x := 246) (nx := 61) (r1 := 11) (r2 := 29) (r3 := 0) rfl rfl (by decide) rfl ⟨rfl, rfl⟩ rfl ?_
          refine wi_bipush (n := 60) (nx := 63) (r1 := 0) (r2 := 0) (r3 := 0) rfl (by decide) ?_
          refine wi_iload_n (i := 2) (e := x17) (nx := 64) (r1 := 0) (r2 := 0) (r3 := 0) rfl rfl ?_
          refine wr_mul (nx := 65) (r1 := 0) (r2 := 0) (r3 := 0) rfl (fun e42 (fe42 : e42 = 60 * x17) => ?_)
          refine wi_iload (i := 5) (e := x34) (nx := 67) (r1 := 0) (r2 := 0) (r3 := 0) rfl rfl ?_
          refine wr_add (nx := 68) (r1 := 0) (r2 := 0) (r3 := 0) rfl (fun e43 (fe43 : e43 = e42 + x34) => ?_)
          refine wi_iload (i := 4) (e := 1) (nx := 70) (r1 := 0) (r2 := 0) (r3 := 0) rfl rfl ?_
          refine wi_if (cd := .eq) (nx := 73) (r1 := 77) (r2 := 0) (r3 := 0) rfl (by omega) (fun (q44 : 1 = 0) => by exfalso; omega) (fun (q44 : ¬ (1 = 0)) => ?_)
          refine wi_iconst (n := 0) (nx := 74) (r1 := 0) (r2 := 0) (r3 := 0) rfl ?_
          refine wi_goto (nx := 77) (r1 := 91) (r2 := 0) (r3 := 0) rfl ?_
          obtain ⟨i45, ei45⟩ : ∃ q : Nat, e43 = (q : Int) := ⟨(e43).toNat, by omega⟩
          refine wr_is (k0 := 246) (a := e43) (f := i45) (x := 0) (bl := 0) (bh := 1000000) (nx := 92) (r1 := 0) (r2 := 0) (r3 := 0) rfl (by decide) rfl (by omega) (by omega) (by decide) g35 rfl (by omega) (fun h46 g46 w46 u46 => ?_)
          have F47 := F38.then rfl (FR.rngp (lo := 246) (hi := 246) u46 (by decide))
          have F48 := F39.then rfl (FR.rngp (lo := 246) (hi := 246) u46 (by decide))
          have F49 := u35.then rfl (FR.rngp (lo := 246) (hi := 246) u46 (by decide))
          refine wr_iinc (i := 5) (n := 1) (v := x34) (fun e50 => [(5, vi e50), (0, .ref 236), (1, vi z14), (2, vi x17), (3, vi z25), (4, vi 1)]) (nx := 95) (r1 := 0) (r2 := 0) (r3 := 0) rfl rfl (fun _ => rfl) (fun e50 (fe50 : e50 = x34 + 1) => ?_)
          refine wi_goto (nx := 98) (r1 := 46) (r2 := 0) (r3 := 0) rfl ?_
          refine wp.lo (lo := [(0, .ref 236), (1, vi z14), (2, vi x17), (3, vi z25), (4, vi 1), (5, vi e50)]) ⟨rfl, rfl, rfl, rfl, rfl, rfl, trivial⟩ rfl ?_
          have q51 : h46 238 = h35 238 := funext (fun i => (u46 238 i (fn_a (by omega) fn_0)))
          have q52 : h46 238 = h35 238 := funext (fun i => (u46 238 i (fn_a (by omega) fn_0)))
          have e53 : h35 247 0 = h21 247 0 := (u35 247 0 rfl)
          have e54 : h35 238 98 = h 238 98 := ((u35 238 98 rfl).trans ((u21 238 98 rfl).trans ((u18 238 98 rfl).trans (u15 238 98 rfl))))
          have e55 : h35 247 1 = h21 247 1 := (u35 247 1 rfl)
          have e56 : h35 238 99 = h 238 99 := ((u35 238 99 rfl).trans ((u21 238 99 rfl).trans ((u18 238 99 rfl).trans (u15 238 99 rfl))))
          have e57 : h35 247 2 = h21 247 2 := (u35 247 2 rfl)
          have e58 : h35 238 100 = h 238 100 := ((u35 238 100 rfl).trans ((u21 238 100 rfl).trans ((u18 238 100 rfl).trans (u15 238 100 rfl))))
          have e59 : h35 247 3 = h21 247 3 := (u35 247 3 rfl)
          have e60 : h35 238 101 = h 238 101 := ((u35 238 101 rfl).trans ((u21 238 101 rfl).trans ((u18 238 101 rfl).trans (u15 238 101 rfl))))
          exact I35 e50 h46 ⟨g46, F47, F48, F49, (show (0 ≤ e50 ∧ e50 ≤ 60) by omega), (fun q e1 e2 => by rw [q51]; exact TB.upd (gi_RB g35) (p := (x17).toNat) (by decide) (by omega) (fun i hi => u46 246 i (fn_i (by omega) fn_0)) (X35_0 q e1 e2)), (fun pp e => by
              rw [q52, show (e50).toNat = (x34).toNat + 1 by omega]
              refine TB.put (gi_RB g35) (by omega) (fun i hi => u46 246 i (fn_i (by omega) fn_0)) (X35_1 pp e) (fun w0 s0 => ?_)
              exfalso
              have t0 : h21 247 0 = TQ pp 0 := y21_0 pp e 0 (by decide)
              have t1 : h21 247 1 = TQ pp 1 := y21_0 pp e 1 (by decide)
              have t2 : h21 247 2 = TQ pp 2 := y21_0 pp e 2 (by decide)
              have t3 : h21 247 3 = TQ pp 3 := y21_0 pp e 3 (by decide)
              have s1 : TQ pp 0 + TQ pp 1 + TQ pp 2 + TQ pp 3 ≠ h35 238 98 + h35 238 99 + h35 238 100 + h35 238 101 := s0
              omega)⟩ (show ((60 : Int) + 1 - e50).toNat < ((60 : Int) + 1 - x34).toNat by omega)
