-- method 232: Model.readsLane()V
set_option maxRecDepth 100000 in
set_option maxHeartbeats 100000000 in
theorem ct_232_236 {L : Nat} {xs : Nat → Int32} {d b c : Nat} {h : hp} {cr : Nat → Nat → Option Nat} {Q : hp_Q} (hcr : CR cr)  (g : GI h)   (pp0 : h 236 4 ≤ h 236 3) (pp1 : h 236 8 = 0) (pp2 : h 239 5 ≤ 9) (pp3 : 1 ≤ h 239 5) (pp4 : h 239 7 ≤ 3) (pp5 : h 239 15 ≤ 6) (pp6 : h 239 16 ≤ 6) (pp7 : h 239 17 ≤ 6) (pp8 : h 239 18 ≤ 6) (k : ∀ (h2 : hp) , GI h2 → FR [(236, 236, some (4, 4)), (236, 236, some (5, 5)), (236, 236, some (6, 6)), (236, 236, some (7, 7)), (236, 236, some (8, 8)), (236, 236, some (9, 9)), (236, 236, some (12, 12)), (239, 239, some (1, 1)), (239, 239, some (15, 15)), (239, 239, some (16, 16)), (239, 239, some (17, 17)), (239, 239, some (18, 18))] h h2 → (h 236 4 ≤ h2 236 4) → (h2 236 4 ≤ h 236 3) → (1 ≤ h2 236 8 ∨ (h2 239 5 ≤ 9 ∧ 1 ≤ h2 239 5 ∧ h2 239 7 ≤ 3 ∧ h2 239 15 ≤ 6 ∧ h2 239 16 ≤ 6 ∧ h2 239 17 ≤ 6 ∧ h2 239 18 ≤ 6)) → Q (.inl none) (hp_w h2 cr) b c) : wp (md_xa (L, xs)) (d + 3) 232 (0, [(0, .ref 236)], [], hp_w h cr, b, c) Q := by
  have F0 : FR [(236, 236, some (4, 4)), (236, 236, some (5, 5)), (236, 236, some (6, 6)), (236, 236, some (7, 7)), (236, 236, some (8, 8)), (236, 236, some (9, 9)), (236, 236, some (12, 12)), (239, 239, some (1, 1)), (239, 239, some (15, 15)), (239, 239, some (16, 16)), (239, 239, some (17, 17)), (239, 239, some (18, 18))] h h := FR.refl
  have b1 := gi_b (lo := 0) (hi := 800) g 236 4 rfl
  have b2 := gi_b (lo := 0) (hi := 800) g 236 3 rfl
  have b3 := gi_b (lo := 0) (hi := 5) g 236 8 rfl
  have b4 := gi_b (lo := 0) (hi := 999) g 239 5 rfl
  have b5 := gi_b (lo := 0) (hi := 999) g 239 7 rfl
  have b6 := gi_b (lo := 0) (hi := 999) g 239 15 rfl
  have b7 := gi_b (lo := 0) (hi := 999) g 239 16 rfl
  have b8 := gi_b (lo := 0) (hi := 999) g 239 17 rfl
  have b9 := gi_b (lo := 0) (hi := 999) g 239 18 rfl
  refine wi_aload_n (i := 0) (x := 236) (nx := 1) (r1 := 0) (r2 := 0) (r3 := 0) rfl rfl ?_
  refine wr_gr (k0 := 236) (x := 239) (nx := 4) (r1 := 11) (r2 := 14) (r3 := 0) rfl rfl (by decide) rfl ⟨rfl, rfl⟩ rfl ?_
  refine wi_iconst (n := 1) (nx := 5) (r1 := 0) (r2 := 0) (r3 := 0) rfl ?_
  have b10 := gi_b (lo := 0) (hi := 4) g 239 1 rfl
  rcases (show (h 239 1) = 0 ∨ (h 239 1) = 1 ∨ (h 239 1) = 2 ∨ (h 239 1) = 3 ∨ (h 239 1) = 4 by omega) with q11 | q11 | q11 | q11 | q11
  ·
    refine wr_ia (k0 := 239) (a := 1) (f := 1) (x := 0) (nx := 6) (r1 := 0) (r2 := 0) (r3 := 0) rfl (by decide) rfl (by omega) (by omega) (by decide) q11 ?_
    refine wi_istore_n (i := 1) (e := 0) (lo2 := [(1, vi 0), (0, .ref 236)]) (nx := 7) (r1 := 0) (r2 := 0) (r3 := 0) rfl rfl ?_
    refine wi_aload_n (i := 0) (x := 236) (nx := 8) (r1 := 0) (r2 := 0) (r3 := 0) rfl rfl ?_
    refine wi_iconst (n := 1) (nx := 9) (r1 := 0) (r2 := 0) (r3 := 0) rfl ?_
    refine wi_iconst (n := 4) (nx := 10) (r1 := 0) (r2 := 0) (r3 := 0) rfl ?_
    refine wr_V (k0 := 236) (rest := []) (as := [.ref 236, vi 1, vi 4]) (nx := 13) (r1 := 223) (r2 := 2) (r3 := 11) rfl rfl rfl (of_decide_eq_true rfl) rfl rfl (by decide) rfl rfl (of_decide_eq_true rfl) (of_decide_eq_true rfl) ?_
    refine wi_aload_n (i := 0) (x := 236) (nx := 1) (r1 := 0) (r2 := 0) (r3 := 0) rfl rfl ?_
    refine wr_gr (k0 := 236) (x := 239) (nx := 4) (r1 := 11) (r2 := 14) (r3 := 0) rfl rfl (by decide) rfl ⟨rfl, rfl⟩ rfl ?_
    refine wi_iload_n (i := 1) (e := 1) (nx := 5) (r1 := 0) (r2 := 0) (r3 := 0) rfl rfl ?_
    refine wr_ia (k0 := 239) (a := 1) (f := 1) (x := 0) (nx := 6) (r1 := 0) (r2 := 0) (r3 := 0) rfl (by decide) rfl (by omega) (by omega) (by decide) q11 ?_
    refine wi_iload_n (i := 2) (e := 4) (nx := 7) (r1 := 0) (r2 := 0) (r3 := 0) rfl rfl ?_
    refine wi_icmp (cd := .ne) (nx := 10) (r1 := 15) (r2 := 0) (r3 := 0) rfl (by omega) (by omega) (fun (q12 : 0 ≠ 4) => ?_) (fun (q12 : ¬ (0 ≠ 4)) => by exfalso; omega)
    refine wi_aload_n (i := 0) (x := 236) (nx := 16) (r1 := 0) (r2 := 0) (r3 := 0) rfl rfl ?_
    refine wr_V (k0 := 236) (rest := []) (as := [.ref 236]) (nx := 19) (r1 := 219) (r2 := 0) (r3 := 11) rfl rfl rfl (of_decide_eq_true rfl) rfl rfl (by decide) rfl rfl (of_decide_eq_true rfl) (of_decide_eq_true rfl) ?_
    refine wi_aload_n (i := 0) (x := 236) (nx := 1) (r1 := 0) (r2 := 0) (r3 := 0) rfl rfl ?_
    refine wr_gi0 (k0 := 236) (x := h 236 8) (nx := 4) (r1 := 11) (r2 := 8) (r3 := 0) rfl rfl (by decide) rfl ⟨rfl, rfl⟩ rfl rfl ?_
    refine wi_if (cd := .ne) (nx := 7) (r1 := 11) (r2 := 0) (r3 := 0) rfl (by omega) (fun (q13 : (h 236 8) ≠ 0) => by exfalso; omega) (fun (q13 : ¬ ((h 236 8) ≠ 0)) => ?_)
    refine wi_iconst (n := 1) (nx := 8) (r1 := 0) (r2 := 0) (r3 := 0) rfl ?_
    refine wi_goto (nx := 11) (r1 := 12) (r2 := 0) (r3 := 0) rfl ?_
    refine wi_zreturn (nx := 13) (r1 := 0) (r2 := 0) (r3 := 0) rfl rfl (by omega) ?_
    refine wk_i ?_
    refine wi_if (cd := .eq) (nx := 22) (r1 := 26) (r2 := 0) (r3 := 0) rfl (by omega) (fun (q14 : 1 = 0) => by exfalso; omega) (fun (q14 : ¬ (1 = 0)) => ?_)
    refine wi_aload_n (i := 0) (x := 236) (nx := 23) (r1 := 0) (r2 := 0) (r3 := 0) rfl rfl ?_
    refine wr_V (k0 := 236) (rest := []) (as := [.ref 236]) (nx := 26) (r1 := 215) (r2 := 0) (r3 := 11) rfl rfl rfl (of_decide_eq_true rfl) rfl rfl (by decide) rfl rfl (of_decide_eq_true rfl) (of_decide_eq_true rfl) ?_
    refine ct_215_236 hcr  g   (show (h 236 4) ≤ (h 236 3) by omega) (fun h15 g15 u15 (p15_0 : (h 236 4) ≤ (h15 236 4)) (p15_1 : (h15 236 4) ≤ (h 236 3)) (p15_2 : (h15 236 6) = 0 ∨ (h 236 4) + 1 ≤ (h15 236 4)) => ?_)
    have F16 := F0.then (by decide +kernel) u15
    have b17 := gi_b (lo := 0) (hi := 800) g15 236 4 rfl
    have b18 := gi_b (lo := 0) (hi := 4) g15 236 6 rfl
    refine wk_n ?_
    refine wi_aload_n (i := 0) (x := 236) (nx := 27) (r1 := 0) (r2 := 0) (r3 := 0) rfl rfl ?_
    refine wr_V (k0 := 236) (rest := []) (as := [.ref 236]) (nx := 30) (r1 := 219) (r2 := 0) (r3 := 11) rfl rfl rfl (of_decide_eq_true rfl) rfl rfl (by decide) rfl rfl (of_decide_eq_true rfl) (of_decide_eq_true rfl) ?_
    refine wi_aload_n (i := 0) (x := 236) (nx := 1) (r1 := 0) (r2 := 0) (r3 := 0) rfl rfl ?_
    refine wr_gi0 (k0 := 236) (x := h 236 8) (nx := 4) (r1 := 11) (r2 := 8) (r3 := 0) rfl rfl (by decide) rfl ⟨rfl, rfl⟩ rfl (u15 236 8 rfl) ?_
    refine wi_if (cd := .ne) (nx := 7) (r1 := 11) (r2 := 0) (r3 := 0) rfl (by omega) (fun (q19 : (h 236 8) ≠ 0) => by exfalso; omega) (fun (q19 : ¬ ((h 236 8) ≠ 0)) => ?_)
    refine wi_iconst (n := 1) (nx := 8) (r1 := 0) (r2 := 0) (r3 := 0) rfl ?_
    refine wi_goto (nx := 11) (r1 := 12) (r2 := 0) (r3 := 0) rfl ?_
    refine wi_zreturn (nx := 13) (r1 := 0) (r2 := 0) (r3 := 0) rfl rfl (by omega) ?_
    refine wk_i ?_
    refine wi_zreturn (nx := 31) (r1 := 0) (r2 := 0) (r3 := 0) rfl rfl (by omega) ?_
    refine wk_i ?_
    refine wi_if (cd := .ne) (nx := 16) (r1 := 17) (r2 := 0) (r3 := 0) rfl (by omega) (fun (q20 : 1 ≠ 0) => ?_) (fun (q20 : ¬ (1 ≠ 0)) => by exfalso; omega)
    refine wi_aload_n (i := 0) (x := 236) (nx := 18) (r1 := 0) (r2 := 0) (r3 := 0) rfl rfl ?_
    refine wr_gr (k0 := 236) (x := 239) (nx := 21) (r1 := 11) (r2 := 14) (r3 := 0) rfl rfl (by decide) rfl ⟨rfl, rfl⟩ rfl ?_
    refine wi_bipush (n := 15) (nx := 23) (r1 := 0) (r2 := 0) (r3 := 0) rfl (by decide) ?_
    refine wi_iload_n (i := 1) (e := 0) (nx := 24) (r1 := 0) (r2 := 0) (r3 := 0) rfl rfl ?_
    refine wr_addL (15) (nx := 25) (r1 := 0) (r2 := 0) (r3 := 0) rfl (by decide) ?_
    refine wi_aload_n (i := 0) (x := 236) (nx := 26) (r1 := 0) (r2 := 0) (r3 := 0) rfl rfl ?_
    refine wi_iconst (n := 1) (nx := 27) (r1 := 0) (r2 := 0) (r3 := 0) rfl ?_
    refine wi_bipush (n := 6) (nx := 29) (r1 := 0) (r2 := 0) (r3 := 0) rfl (by decide) ?_
    refine wr_V (k0 := 236) (rest := [vi 15, .ref 239]) (as := [.ref 236, vi 1, vi 6]) (nx := 32) (r1 := 231) (r2 := 2) (r3 := 11) rfl rfl rfl (of_decide_eq_true rfl) rfl rfl (by decide) rfl rfl (of_decide_eq_true rfl) (of_decide_eq_true rfl) ?_
    have e22 : h15 236 3 = h 236 3 := (u15 236 3 rfl)
    refine ct_231_236 hcr  g15 1 6 (by omega) (by omega) (show (h15 236 4) ≤ (h15 236 3) by omega) (fun h21 z23 g21 u21 (fz23 : 0 ≤ z23 ∧ z23 ≤ 999) (p21_0 : (h15 236 4) ≤ (h21 236 4)) (p21_1 : (h21 236 4) ≤ (h15 236 3)) (p21_2 : 1 ≤ (h21 236 8) ∨ (h15 236 8) = 0) (p21_3 : 1 ≤ (h21 236 8) ∨ (1 ≤ z23 ∧ z23 ≤ 6)) (p21_4 : 1 ≤ (h21 236 8) ∨ (h15 236 6) = 2) => ?_)
    have F24 := F16.then (by decide +kernel) u21
    have b25 := gi_b (lo := 0) (hi := 800) g21 236 4 rfl
    have e26 : h15 236 8 = h 236 8 := (u15 236 8 rfl)
    have b27 := gi_b (lo := 0) (hi := 5) g21 236 8 rfl
    refine wk_i ?_
    refine wr_is (k0 := 239) (a := 15) (f := 15) (x := z23) (bl := 0) (bh := 999) (nx := 33) (r1 := 0) (r2 := 0) (r3 := 0) rfl (by decide) rfl (by omega) (by omega) (by decide) g21 rfl (by omega) (fun h28 g28 w28 u28 => ?_)
    have F29 := F24.then rfl u28
    refine wi_aload_n (i := 0) (x := 236) (nx := 34) (r1 := 0) (r2 := 0) (r3 := 0) rfl rfl ?_
    refine wr_V (k0 := 236) (rest := []) (as := [.ref 236]) (nx := 37) (r1 := 219) (r2 := 0) (r3 := 11) rfl rfl rfl (of_decide_eq_true rfl) rfl rfl (by decide) rfl rfl (of_decide_eq_true rfl) (of_decide_eq_true rfl) ?_
    refine wi_aload_n (i := 0) (x := 236) (nx := 1) (r1 := 0) (r2 := 0) (r3 := 0) rfl rfl ?_
    refine wr_gi0 (k0 := 236) (x := h21 236 8) (nx := 4) (r1 := 11) (r2 := 8) (r3 := 0) rfl rfl (by decide) rfl ⟨rfl, rfl⟩ rfl (u28 236 8 rfl) ?_
    refine wi_if (cd := .ne) (nx := 7) (r1 := 11) (r2 := 0) (r3 := 0) rfl (by omega) (fun (q30 : (h21 236 8) ≠ 0) => ?_) (fun (q30 : ¬ ((h21 236 8) ≠ 0)) => ?_)
    ·
      refine wi_iconst (n := 0) (nx := 12) (r1 := 0) (r2 := 0) (r3 := 0) rfl ?_
      refine wi_zreturn (nx := 13) (r1 := 0) (r2 := 0) (r3 := 0) rfl rfl (by omega) ?_
      refine wk_i ?_
      refine wi_if (cd := .eq) (nx := 40) (r1 := 50) (r2 := 0) (r3 := 0) rfl (by omega) (fun (q31 : 0 = 0) => ?_) (fun (q31 : ¬ (0 = 0)) => by exfalso; omega)
      refine wi_return (nx := 51) (r1 := 0) (r2 := 0) (r3 := 0) rfl rfl ?_
      have e32 : h28 236 4 = h21 236 4 := (u28 236 4 rfl)
      have e33 : h28 236 8 = h21 236 8 := (u28 236 8 rfl)
      have e34 : h28 239 5 = h 239 5 := ((u28 239 5 rfl).trans ((u21 239 5 rfl).trans (u15 239 5 rfl)))
      have e35 : h28 239 7 = h 239 7 := ((u28 239 7 rfl).trans ((u21 239 7 rfl).trans (u15 239 7 rfl)))
      have e36 : h28 239 15 = z23 := w28
      have e37 : h28 239 16 = h 239 16 := ((u28 239 16 rfl).trans ((u21 239 16 rfl).trans (u15 239 16 rfl)))
      have e38 : h28 239 17 = h 239 17 := ((u28 239 17 rfl).trans ((u21 239 17 rfl).trans (u15 239 17 rfl)))
      have e39 : h28 239 18 = h 239 18 := ((u28 239 18 rfl).trans ((u21 239 18 rfl).trans (u15 239 18 rfl)))
      exact k h28 g28 F29 (show (h 236 4) ≤ (h28 236 4) by omega) (show (h28 236 4) ≤ (h 236 3) by omega) (show 1 ≤ (h28 236 8) ∨ ((h28 239 5) ≤ 9 ∧ 1 ≤ (h28 239 5) ∧ (h28 239 7) ≤ 3 ∧ (h28 239 15) ≤ 6 ∧ (h28 239 16) ≤ 6 ∧ (h28 239 17) ≤ 6 ∧ (h28 239 18) ≤ 6) by omega)
    ·
      refine wi_iconst (n := 1) (nx := 8) (r1 := 0) (r2 := 0) (r3 := 0) rfl ?_
      refine wi_goto (nx := 11) (r1 := 12) (r2 := 0) (r3 := 0) rfl ?_
      refine wi_zreturn (nx := 13) (r1 := 0) (r2 := 0) (r3 := 0) rfl rfl (by omega) ?_
      refine wk_i ?_
      refine wi_if (cd := .eq) (nx := 40) (r1 := 50) (r2 := 0) (r3 := 0) rfl (by omega) (fun (q31 : 1 = 0) => by exfalso; omega) (fun (q31 : ¬ (1 = 0)) => ?_)
      refine wi_aload_n (i := 0) (x := 236) (nx := 41) (r1 := 0) (r2 := 0) (r3 := 0) rfl rfl ?_
      refine wr_gr (k0 := 236) (x := 239) (nx := 44) (r1 := 11) (r2 := 14) (r3 := 0) rfl rfl (by decide) rfl ⟨rfl, rfl⟩ rfl ?_
      refine wi_iconst (n := 1) (nx := 45) (r1 := 0) (r2 := 0) (r3 := 0) rfl ?_
      refine wi_dup2 (nx := 46) (r1 := 0) (r2 := 0) (r3 := 0) rfl rfl rfl ?_
      refine wr_ia (k0 := 239) (a := 1) (f := 1) (x := 0) (nx := 47) (r1 := 0) (r2 := 0) (r3 := 0) rfl (by decide) rfl (by omega) (by omega) (by decide) ((u28 239 1 rfl).trans ((u21 239 1 rfl).trans ((u15 239 1 rfl).trans q11))) ?_
      refine wi_iconst (n := 1) (nx := 48) (r1 := 0) (r2 := 0) (r3 := 0) rfl ?_
      refine wr_addL (1) (nx := 49) (r1 := 0) (r2 := 0) (r3 := 0) rfl (by decide) ?_
      refine wr_is (k0 := 239) (a := 1) (f := 1) (x := 1) (bl := 0) (bh := 4) (nx := 50) (r1 := 0) (r2 := 0) (r3 := 0) rfl (by decide) rfl (by omega) (by omega) (by decide) g28 rfl (by omega) (fun h32 g32 w32 u32 => ?_)
      have F33 := F29.then rfl u32
      refine wi_return (nx := 51) (r1 := 0) (r2 := 0) (r3 := 0) rfl rfl ?_
      have e34 : h32 236 4 = h21 236 4 := ((u32 236 4 rfl).trans (u28 236 4 rfl))
      have e35 : h32 236 8 = h21 236 8 := ((u32 236 8 rfl).trans (u28 236 8 rfl))
      have e36 : h32 239 5 = h 239 5 := ((u32 239 5 rfl).trans ((u28 239 5 rfl).trans ((u21 239 5 rfl).trans (u15 239 5 rfl))))
      have e37 : h32 239 7 = h 239 7 := ((u32 239 7 rfl).trans ((u28 239 7 rfl).trans ((u21 239 7 rfl).trans (u15 239 7 rfl))))
      have e38 : h32 239 15 = z23 := ((u32 239 15 rfl).trans w28)
      have e39 : h32 239 16 = h 239 16 := ((u32 239 16 rfl).trans ((u28 239 16 rfl).trans ((u21 239 16 rfl).trans (u15 239 16 rfl))))
      have e40 : h32 239 17 = h 239 17 := ((u32 239 17 rfl).trans ((u28 239 17 rfl).trans ((u21 239 17 rfl).trans (u15 239 17 rfl))))
      have e41 : h32 239 18 = h 239 18 := ((u32 239 18 rfl).trans ((u28 239 18 rfl).trans ((u21 239 18 rfl).trans (u15 239 18 rfl))))
      exact k h32 g32 F33 (show (h 236 4) ≤ (h32 236 4) by omega) (show (h32 236 4) ≤ (h 236 3) by omega) (show 1 ≤ (h32 236 8) ∨ ((h32 239 5) ≤ 9 ∧ 1 ≤ (h32 239 5) ∧ (h32 239 7) ≤ 3 ∧ (h32 239 15) ≤ 6 ∧ (h32 239 16) ≤ 6 ∧ (h32 239 17) ≤ 6 ∧ (h32 239 18) ≤ 6) by omega)
  ·
    refine wr_ia (k0 := 239) (a := 1) (f := 1) (x := 1) (nx := 6) (r1 := 0) (r2 := 0) (r3 := 0) rfl (by decide) rfl (by omega) (by omega) (by decide) q11 ?_
    refine wi_istore_n (i := 1) (e := 1) (lo2 := [(1, vi 1), (0, .ref 236)]) (nx := 7) (r1 := 0) (r2 := 0) (r3 := 0) rfl rfl ?_
    refine wi_aload_n (i := 0) (x := 236) (nx := 8) (r1 := 0) (r2 := 0) (r3 := 0) rfl rfl ?_
    refine wi_iconst (n := 1) (nx := 9) (r1 := 0) (r2 := 0) (r3 := 0) rfl ?_
    refine wi_iconst (n := 4) (nx := 10) (r1 := 0) (r2 := 0) (r3 := 0) rfl ?_
    refine wr_V (k0 := 236) (rest := []) (as := [.ref 236, vi 1, vi 4]) (nx := 13) (r1 := 223) (r2 := 2) (r3 := 11) rfl rfl rfl (of_decide_eq_true rfl) rfl rfl (by decide) rfl rfl (of_decide_eq_true rfl) (of_decide_eq_true rfl) ?_
    refine wi_aload_n (i := 0) (x := 236) (nx := 1) (r1 := 0) (r2 := 0) (r3 := 0) rfl rfl ?_
    refine wr_gr (k0 := 236) (x := 239) (nx := 4) (r1 := 11) (r2 := 14) (r3 := 0) rfl rfl (by decide) rfl ⟨rfl, rfl⟩ rfl ?_
    refine wi_iload_n (i := 1) (e := 1) (nx := 5) (r1 := 0) (r2 := 0) (r3 := 0) rfl rfl ?_
    refine wr_ia (k0 := 239) (a := 1) (f := 1) (x := 1) (nx := 6) (r1 := 0) (r2 := 0) (r3 := 0) rfl (by decide) rfl (by omega) (by omega) (by decide) q11 ?_
    refine wi_iload_n (i := 2) (e := 4) (nx := 7) (r1 := 0) (r2 := 0) (r3 := 0) rfl rfl ?_
    refine wi_icmp (cd := .ne) (nx := 10) (r1 := 15) (r2 := 0) (r3 := 0) rfl (by omega) (by omega) (fun (q12 : 1 ≠ 4) => ?_) (fun (q12 : ¬ (1 ≠ 4)) => by exfalso; omega)
    refine wi_aload_n (i := 0) (x := 236) (nx := 16) (r1 := 0) (r2 := 0) (r3 := 0) rfl rfl ?_
    refine wr_V (k0 := 236) (rest := []) (as := [.ref 236]) (nx := 19) (r1 := 219) (r2 := 0) (r3 := 11) rfl rfl rfl (of_decide_eq_true rfl) rfl rfl (by decide) rfl rfl (of_decide_eq_true rfl) (of_decide_eq_true rfl) ?_
    refine wi_aload_n (i := 0) (x := 236) (nx := 1) (r1 := 0) (r2 := 0) (r3 := 0) rfl rfl ?_
    refine wr_gi0 (k0 := 236) (x := h 236 8) (nx := 4) (r1 := 11) (r2 := 8) (r3 := 0) rfl rfl (by decide) rfl ⟨rfl, rfl⟩ rfl rfl ?_
    refine wi_if (cd := .ne) (nx := 7) (r1 := 11) (r2 := 0) (r3 := 0) rfl (by omega) (fun (q13 : (h 236 8) ≠ 0) => by exfalso; omega) (fun (q13 : ¬ ((h 236 8) ≠ 0)) => ?_)
    refine wi_iconst (n := 1) (nx := 8) (r1 := 0) (r2 := 0) (r3 := 0) rfl ?_
    refine wi_goto (nx := 11) (r1 := 12) (r2 := 0) (r3 := 0) rfl ?_
    refine wi_zreturn (nx := 13) (r1 := 0) (r2 := 0) (r3 := 0) rfl rfl (by omega) ?_
    refine wk_i ?_
    refine wi_if (cd := .eq) (nx := 22) (r1 := 26) (r2 := 0) (r3 := 0) rfl (by omega) (fun (q14 : 1 = 0) => by exfalso; omega) (fun (q14 : ¬ (1 = 0)) => ?_)
    refine wi_aload_n (i := 0) (x := 236) (nx := 23) (r1 := 0) (r2 := 0) (r3 := 0) rfl rfl ?_
    refine wr_V (k0 := 236) (rest := []) (as := [.ref 236]) (nx := 26) (r1 := 215) (r2 := 0) (r3 := 11) rfl rfl rfl (of_decide_eq_true rfl) rfl rfl (by decide) rfl rfl (of_decide_eq_true rfl) (of_decide_eq_true rfl) ?_
    refine ct_215_236 hcr  g   (show (h 236 4) ≤ (h 236 3) by omega) (fun h15 g15 u15 (p15_0 : (h 236 4) ≤ (h15 236 4)) (p15_1 : (h15 236 4) ≤ (h 236 3)) (p15_2 : (h15 236 6) = 0 ∨ (h 236 4) + 1 ≤ (h15 236 4)) => ?_)
    have F16 := F0.then (by decide +kernel) u15
    have b17 := gi_b (lo := 0) (hi := 800) g15 236 4 rfl
    have b18 := gi_b (lo := 0) (hi := 4) g15 236 6 rfl
    refine wk_n ?_
    refine wi_aload_n (i := 0) (x := 236) (nx := 27) (r1 := 0) (r2 := 0) (r3 := 0) rfl rfl ?_
    refine wr_V (k0 := 236) (rest := []) (as := [.ref 236]) (nx := 30) (r1 := 219) (r2 := 0) (r3 := 11) rfl rfl rfl (of_decide_eq_true rfl) rfl rfl (by decide) rfl rfl (of_decide_eq_true rfl) (of_decide_eq_true rfl) ?_
    refine wi_aload_n (i := 0) (x := 236) (nx := 1) (r1 := 0) (r2 := 0) (r3 := 0) rfl rfl ?_
    refine wr_gi0 (k0 := 236) (x := h 236 8) (nx := 4) (r1 := 11) (r2 := 8) (r3 := 0) rfl rfl (by decide) rfl ⟨rfl, rfl⟩ rfl (u15 236 8 rfl) ?_
    refine wi_if (cd := .ne) (nx := 7) (r1 := 11) (r2 := 0) (r3 := 0) rfl (by omega) (fun (q19 : (h 236 8) ≠ 0) => by exfalso; omega) (fun (q19 : ¬ ((h 236 8) ≠ 0)) => ?_)
    refine wi_iconst (n := 1) (nx := 8) (r1 := 0) (r2 := 0) (r3 := 0) rfl ?_
    refine wi_goto (nx := 11) (r1 := 12) (r2 := 0) (r3 := 0) rfl ?_
    refine wi_zreturn (nx := 13) (r1 := 0) (r2 := 0) (r3 := 0) rfl rfl (by omega) ?_
    refine wk_i ?_
    refine wi_zreturn (nx := 31) (r1 := 0) (r2 := 0) (r3 := 0) rfl rfl (by omega) ?_
    refine wk_i ?_
    refine wi_if (cd := .ne) (nx := 16) (r1 := 17) (r2 := 0) (r3 := 0) rfl (by omega) (fun (q20 : 1 ≠ 0) => ?_) (fun (q20 : ¬ (1 ≠ 0)) => by exfalso; omega)
    refine wi_aload_n (i := 0) (x := 236) (nx := 18) (r1 := 0) (r2 := 0) (r3 := 0) rfl rfl ?_
    refine wr_gr (k0 := 236) (x := 239) (nx := 21) (r1 := 11) (r2 := 14) (r3 := 0) rfl rfl (by decide) rfl ⟨rfl, rfl⟩ rfl ?_
    refine wi_bipush (n := 15) (nx := 23) (r1 := 0) (r2 := 0) (r3 := 0) rfl (by decide) ?_
    refine wi_iload_n (i := 1) (e := 1) (nx := 24) (r1 := 0) (r2 := 0) (r3 := 0) rfl rfl ?_
    refine wr_addL (16) (nx := 25) (r1 := 0) (r2 := 0) (r3 := 0) rfl (by decide) ?_
    refine wi_aload_n (i := 0) (x := 236) (nx := 26) (r1 := 0) (r2 := 0) (r3 := 0) rfl rfl ?_
    refine wi_iconst (n := 1) (nx := 27) (r1 := 0) (r2 := 0) (r3 := 0) rfl ?_
    refine wi_bipush (n := 6) (nx := 29) (r1 := 0) (r2 := 0) (r3 := 0) rfl (by decide) ?_
    refine wr_V (k0 := 236) (rest := [vi 16, .ref 239]) (as := [.ref 236, vi 1, vi 6]) (nx := 32) (r1 := 231) (r2 := 2) (r3 := 11) rfl rfl rfl (of_decide_eq_true rfl) rfl rfl (by decide) rfl rfl (of_decide_eq_true rfl) (of_decide_eq_true rfl) ?_
    have e22 : h15 236 3 = h 236 3 := (u15 236 3 rfl)
    refine ct_231_236 hcr  g15 1 6 (by omega) (by omega) (show (h15 236 4) ≤ (h15 236 3) by omega) (fun h21 z23 g21 u21 (fz23 : 0 ≤ z23 ∧ z23 ≤ 999) (p21_0 : (h15 236 4) ≤ (h21 236 4)) (p21_1 : (h21 236 4) ≤ (h15 236 3)) (p21_2 : 1 ≤ (h21 236 8) ∨ (h15 236 8) = 0) (p21_3 : 1 ≤ (h21 236 8) ∨ (1 ≤ z23 ∧ z23 ≤ 6)) (p21_4 : 1 ≤ (h21 236 8) ∨ (h15 236 6) = 2) => ?_)
    have F24 := F16.then (by decide +kernel) u21
    have b25 := gi_b (lo := 0) (hi := 800) g21 236 4 rfl
    have e26 : h15 236 8 = h 236 8 := (u15 236 8 rfl)
    have b27 := gi_b (lo := 0) (hi := 5) g21 236 8 rfl
    refine wk_i ?_
    refine wr_is (k0 := 239) (a := 16) (f := 16) (x := z23) (bl := 0) (bh := 999) (nx := 33) (r1 := 0) (r2 := 0) (r3 := 0) rfl (by decide) rfl (by omega) (by omega) (by decide) g21 rfl (by omega) (fun h28 g28 w28 u28 => ?_)
    have F29 := F24.then rfl u28
    refine wi_aload_n (i := 0) (x := 236) (nx := 34) (r1 := 0) (r2 := 0) (r3 := 0) rfl rfl ?_
    refine wr_V (k0 := 236) (rest := []) (as := [.ref 236]) (nx := 37) (r1 := 219) (r2 := 0) (r3 := 11) rfl rfl rfl (of_decide_eq_true rfl) rfl rfl (by decide) rfl rfl (of_decide_eq_true rfl) (of_decide_eq_true rfl) ?_
    refine wi_aload_n (i := 0) (x := 236) (nx := 1) (r1 := 0) (r2 := 0) (r3 := 0) rfl rfl ?_
    refine wr_gi0 (k0 := 236) (x := h21 236 8) (nx := 4) (r1 := 11) (r2 := 8) (r3 := 0) rfl rfl (by decide) rfl ⟨rfl, rfl⟩ rfl (u28 236 8 rfl) ?_
    refine wi_if (cd := .ne) (nx := 7) (r1 := 11) (r2 := 0) (r3 := 0) rfl (by omega) (fun (q30 : (h21 236 8) ≠ 0) => ?_) (fun (q30 : ¬ ((h21 236 8) ≠ 0)) => ?_)
    ·
      refine wi_iconst (n := 0) (nx := 12) (r1 := 0) (r2 := 0) (r3 := 0) rfl ?_
      refine wi_zreturn (nx := 13) (r1 := 0) (r2 := 0) (r3 := 0) rfl rfl (by omega) ?_
      refine wk_i ?_
      refine wi_if (cd := .eq) (nx := 40) (r1 := 50) (r2 := 0) (r3 := 0) rfl (by omega) (fun (q31 : 0 = 0) => ?_) (fun (q31 : ¬ (0 = 0)) => by exfalso; omega)
      refine wi_return (nx := 51) (r1 := 0) (r2 := 0) (r3 := 0) rfl rfl ?_
      have e32 : h28 236 4 = h21 236 4 := (u28 236 4 rfl)
      have e33 : h28 236 8 = h21 236 8 := (u28 236 8 rfl)
      have e34 : h28 239 5 = h 239 5 := ((u28 239 5 rfl).trans ((u21 239 5 rfl).trans (u15 239 5 rfl)))
      have e35 : h28 239 7 = h 239 7 := ((u28 239 7 rfl).trans ((u21 239 7 rfl).trans (u15 239 7 rfl)))
      have e36 : h28 239 15 = h 239 15 := ((u28 239 15 rfl).trans ((u21 239 15 rfl).trans (u15 239 15 rfl)))
      have e37 : h28 239 16 = z23 := w28
      have e38 : h28 239 17 = h 239 17 := ((u28 239 17 rfl).trans ((u21 239 17 rfl).trans (u15 239 17 rfl)))
      have e39 : h28 239 18 = h 239 18 := ((u28 239 18 rfl).trans ((u21 239 18 rfl).trans (u15 239 18 rfl)))
      exact k h28 g28 F29 (show (h 236 4) ≤ (h28 236 4) by omega) (show (h28 236 4) ≤ (h 236 3) by omega) (show 1 ≤ (h28 236 8) ∨ ((h28 239 5) ≤ 9 ∧ 1 ≤ (h28 239 5) ∧ (h28 239 7) ≤ 3 ∧ (h28 239 15) ≤ 6 ∧ (h28 239 16) ≤ 6 ∧ (h28 239 17) ≤ 6 ∧ (h28 239 18) ≤ 6) by omega)
    ·
      refine wi_iconst (n := 1) (nx := 8) (r1 := 0) (r2 := 0) (r3 := 0) rfl ?_
      refine wi_goto (nx := 11) (r1 := 12) (r2 := 0) (r3 := 0) rfl ?_
      refine wi_zreturn (nx := 13) (r1 := 0) (r2 := 0) (r3 := 0) rfl rfl (by omega) ?_
      refine wk_i ?_
      refine wi_if (cd := .eq) (nx := 40) (r1 := 50) (r2 := 0) (r3 := 0) rfl (by omega) (fun (q31 : 1 = 0) => by exfalso; omega) (fun (q31 : ¬ (1 = 0)) => ?_)
      refine wi_aload_n (i := 0) (x := 236) (nx := 41) (r1 := 0) (r2 := 0) (r3 := 0) rfl rfl ?_
      refine wr_gr (k0 := 236) (x := 239) (nx := 44) (r1 := 11) (r2 := 14) (r3 := 0) rfl rfl (by decide) rfl ⟨rfl, rfl⟩ rfl ?_
      refine wi_iconst (n := 1) (nx := 45) (r1 := 0) (r2 := 0) (r3 := 0) rfl ?_
      refine wi_dup2 (nx := 46) (r1 := 0) (r2 := 0) (r3 := 0) rfl rfl rfl ?_
      refine wr_ia (k0 := 239) (a := 1) (f := 1) (x := 1) (nx := 47) (r1 := 0) (r2 := 0) (r3 := 0) rfl (by decide) rfl (by omega) (by omega) (by decide) ((u28 239 1 rfl).trans ((u21 239 1 rfl).trans ((u15 239 1 rfl).trans q11))) ?_
      refine wi_iconst (n := 1) (nx := 48) (r1 := 0) (r2 := 0) (r3 := 0) rfl ?_
      refine wr_addL (2) (nx := 49) (r1 := 0) (r2 := 0) (r3 := 0) rfl (by decide) ?_
      refine wr_is (k0 := 239) (a := 1) (f := 1) (x := 2) (bl := 0) (bh := 4) (nx := 50) (r1 := 0) (r2 := 0) (r3 := 0) rfl (by decide) rfl (by omega) (by omega) (by decide) g28 rfl (by omega) (fun h32 g32 w32 u32 => ?_)
      have F33 := F29.then rfl u32
      refine wi_return (nx := 51) (r1 := 0) (r2 := 0) (r3 := 0) rfl rfl ?_
      have e34 : h32 236 4 = h21 236 4 := ((u32 236 4 rfl).trans (u28 236 4 rfl))
      have e35 : h32 236 8 = h21 236 8 := ((u32 236 8 rfl).trans (u28 236 8 rfl))
      have e36 : h32 239 5 = h 239 5 := ((u32 239 5 rfl).trans ((u28 239 5 rfl).trans ((u21 239 5 rfl).trans (u15 239 5 rfl))))
      have e37 : h32 239 7 = h 239 7 := ((u32 239 7 rfl).trans ((u28 239 7 rfl).trans ((u21 239 7 rfl).trans (u15 239 7 rfl))))
      have e38 : h32 239 15 = h 239 15 := ((u32 239 15 rfl).trans ((u28 239 15 rfl).trans ((u21 239 15 rfl).trans (u15 239 15 rfl))))
      have e39 : h32 239 16 = z23 := ((u32 239 16 rfl).trans w28)
      have e40 : h32 239 17 = h 239 17 := ((u32 239 17 rfl).trans ((u28 239 17 rfl).trans ((u21 239 17 rfl).trans (u15 239 17 rfl))))
      have e41 : h32 239 18 = h 239 18 := ((u32 239 18 rfl).trans ((u28 239 18 rfl).trans ((u21 239 18 rfl).trans (u15 239 18 rfl))))
      exact k h32 g32 F33 (show (h 236 4) ≤ (h32 236 4) by omega) (show (h32 236 4) ≤ (h 236 3) by omega) (show 1 ≤ (h32 236 8) ∨ ((h32 239 5) ≤ 9 ∧ 1 ≤ (h32 239 5) ∧ (h32 239 7) ≤ 3 ∧ (h32 239 15) ≤ 6 ∧ (h32 239 16) ≤ 6 ∧ (h32 239 17) ≤ 6 ∧ (h32 239 18) ≤ 6) by omega)
  ·
    refine wr_ia (k0 := 239) (a := 1) (f := 1) (x := 2) (nx := 6) (r1 := 0) (r2 := 0) (r3 := 0) rfl (by decide) rfl (by omega) (by omega) (by decide) q11 ?_
    refine wi_istore_n (i := 1) (e := 2) (lo2 := [(1, vi 2), (0, .ref 236)]) (nx := 7) (r1 := 0) (r2 := 0) (r3 := 0) rfl rfl ?_
    refine wi_aload_n (i := 0) (x := 236) (nx := 8) (r1 := 0) (r2 := 0) (r3 := 0) rfl rfl ?_
    refine wi_iconst (n := 1) (nx := 9) (r1 := 0) (r2 := 0) (r3 := 0) rfl ?_
    refine wi_iconst (n := 4) (nx := 10) (r1 := 0) (r2 := 0) (r3 := 0) rfl ?_
    refine wr_V (k0 := 236) (rest := []) (as := [.ref 236, vi 1, vi 4]) (nx := 13) (r1 := 223) (r2 := 2) (r3 := 11) rfl rfl rfl (of_decide_eq_true rfl) rfl rfl (by decide) rfl rfl (of_decide_eq_true rfl) (of_decide_eq_true rfl) ?_
    refine wi_aload_n (i := 0) (x := 236) (nx := 1) (r1 := 0) (r2 := 0) (r3 := 0) rfl rfl ?_
    refine wr_gr (k0 := 236) (x := 239) (nx := 4) (r1 := 11) (r2 := 14) (r3 := 0) rfl rfl (by decide) rfl ⟨rfl, rfl⟩ rfl ?_
    refine wi_iload_n (i := 1) (e := 1) (nx := 5) (r1 := 0) (r2 := 0) (r3 := 0) rfl rfl ?_
    refine wr_ia (k0 := 239) (a := 1) (f := 1) (x := 2) (nx := 6) (r1 := 0) (r2 := 0) (r3 := 0) rfl (by decide) rfl (by omega) (by omega) (by decide) q11 ?_
    refine wi_iload_n (i := 2) (e := 4) (nx := 7) (r1 := 0) (r2 := 0) (r3 := 0) rfl rfl ?_
    refine wi_icmp (cd := .ne) (nx := 10) (r1 := 15) (r2 := 0) (r3 := 0) rfl (by omega) (by omega) (fun (q12 : 2 ≠ 4) => ?_) (fun (q12 : ¬ (2 ≠ 4)) => by exfalso; omega)
    refine wi_aload_n (i := 0) (x := 236) (nx := 16) (r1 := 0) (r2 := 0) (r3 := 0) rfl rfl ?_
    refine wr_V (k0 := 236) (rest := []) (as := [.ref 236]) (nx := 19) (r1 := 219) (r2 := 0) (r3 := 11) rfl rfl rfl (of_decide_eq_true rfl) rfl rfl (by decide) rfl rfl (of_decide_eq_true rfl) (of_decide_eq_true rfl) ?_
    refine wi_aload_n (i := 0) (x := 236) (nx := 1) (r1 := 0) (r2 := 0) (r3 := 0) rfl rfl ?_
    refine wr_gi0 (k0 := 236) (x := h 236 8) (nx := 4) (r1 := 11) (r2 := 8) (r3 := 0) rfl rfl (by decide) rfl ⟨rfl, rfl⟩ rfl rfl ?_
    refine wi_if (cd := .ne) (nx := 7) (r1 := 11) (r2 := 0) (r3 := 0) rfl (by omega) (fun (q13 : (h 236 8) ≠ 0) => by exfalso; omega) (fun (q13 : ¬ ((h 236 8) ≠ 0)) => ?_)
    refine wi_iconst (n := 1) (nx := 8) (r1 := 0) (r2 := 0) (r3 := 0) rfl ?_
    refine wi_goto (nx := 11) (r1 := 12) (r2 := 0) (r3 := 0) rfl ?_
    refine wi_zreturn (nx := 13) (r1 := 0) (r2 := 0) (r3 := 0) rfl rfl (by omega) ?_
    refine wk_i ?_
    refine wi_if (cd := .eq) (nx := 22) (r1 := 26) (r2 := 0) (r3 := 0) rfl (by omega) (fun (q14 : 1 = 0) => by exfalso; omega) (fun (q14 : ¬ (1 = 0)) => ?_)
    refine wi_aload_n (i := 0) (x := 236) (nx := 23) (r1 := 0) (r2 := 0) (r3 := 0) rfl rfl ?_
    refine wr_V (k0 := 236) (rest := []) (as := [.ref 236]) (nx := 26) (r1 := 215) (r2 := 0) (r3 := 11) rfl rfl rfl (of_decide_eq_true rfl) rfl rfl (by decide) rfl rfl (of_decide_eq_true rfl) (of_decide_eq_true rfl) ?_
    refine ct_215_236 hcr  g   (show (h 236 4) ≤ (h 236 3) by omega) (fun h15 g15 u15 (p15_0 : (h 236 4) ≤ (h15 236 4)) (p15_1 : (h15 236 4) ≤ (h 236 3)) (p15_2 : (h15 236 6) = 0 ∨ (h 236 4) + 1 ≤ (h15 236 4)) => ?_)
    have F16 := F0.then (by decide +kernel) u15
    have b17 := gi_b (lo := 0) (hi := 800) g15 236 4 rfl
    have b18 := gi_b (lo := 0) (hi := 4) g15 236 6 rfl
    refine wk_n ?_
    refine wi_aload_n (i := 0) (x := 236) (nx := 27) (r1 := 0) (r2 := 0) (r3 := 0) rfl rfl ?_
    refine wr_V (k0 := 236) (rest := []) (as := [.ref 236]) (nx := 30) (r1 := 219) (r2 := 0) (r3 := 11) rfl rfl rfl (of_decide_eq_true rfl) rfl rfl (by decide) rfl rfl (of_decide_eq_true rfl) (of_decide_eq_true rfl) ?_
    refine wi_aload_n (i := 0) (x := 236) (nx := 1) (r1 := 0) (r2 := 0) (r3 := 0) rfl rfl ?_
    refine wr_gi0 (k0 := 236) (x := h 236 8) (nx := 4) (r1 := 11) (r2 := 8) (r3 := 0) rfl rfl (by decide) rfl ⟨rfl, rfl⟩ rfl (u15 236 8 rfl) ?_
    refine wi_if (cd := .ne) (nx := 7) (r1 := 11) (r2 := 0) (r3 := 0) rfl (by omega) (fun (q19 : (h 236 8) ≠ 0) => by exfalso; omega) (fun (q19 : ¬ ((h 236 8) ≠ 0)) => ?_)
    refine wi_iconst (n := 1) (nx := 8) (r1 := 0) (r2 := 0) (r3 := 0) rfl ?_
    refine wi_goto (nx := 11) (r1 := 12) (r2 := 0) (r3 := 0) rfl ?_
    refine wi_zreturn (nx := 13) (r1 := 0) (r2 := 0) (r3 := 0) rfl rfl (by omega) ?_
    refine wk_i ?_
    refine wi_zreturn (nx := 31) (r1 := 0) (r2 := 0) (r3 := 0) rfl rfl (by omega) ?_
    refine wk_i ?_
    refine wi_if (cd := .ne) (nx := 16) (r1 := 17) (r2 := 0) (r3 := 0) rfl (by omega) (fun (q20 : 1 ≠ 0) => ?_) (fun (q20 : ¬ (1 ≠ 0)) => by exfalso; omega)
    refine wi_aload_n (i := 0) (x := 236) (nx := 18) (r1 := 0) (r2 := 0) (r3 := 0) rfl rfl ?_
    refine wr_gr (k0 := 236) (x := 239) (nx := 21) (r1 := 11) (r2 := 14) (r3 := 0) rfl rfl (by decide) rfl ⟨rfl, rfl⟩ rfl ?_
    refine wi_bipush (n := 15) (nx := 23) (r1 := 0) (r2 := 0) (r3 := 0) rfl (by decide) ?_
    refine wi_iload_n (i := 1) (e := 2) (nx := 24) (r1 := 0) (r2 := 0) (r3 := 0) rfl rfl ?_
    refine wr_addL (17) (nx := 25) (r1 := 0) (r2 := 0) (r3 := 0) rfl (by decide) ?_
    refine wi_aload_n (i := 0) (x := 236) (nx := 26) (r1 := 0) (r2 := 0) (r3 := 0) rfl rfl ?_
    refine wi_iconst (n := 1) (nx := 27) (r1 := 0) (r2 := 0) (r3 := 0) rfl ?_
    refine wi_bipush (n := 6) (nx := 29) (r1 := 0) (r2 := 0) (r3 := 0) rfl (by decide) ?_
    refine wr_V (k0 := 236) (rest := [vi 17, .ref 239]) (as := [.ref 236, vi 1, vi 6]) (nx := 32) (r1 := 231) (r2 := 2) (r3 := 11) rfl rfl rfl (of_decide_eq_true rfl) rfl rfl (by decide) rfl rfl (of_decide_eq_true rfl) (of_decide_eq_true rfl) ?_
    have e22 : h15 236 3 = h 236 3 := (u15 236 3 rfl)
    refine ct_231_236 hcr  g15 1 6 (by omega) (by omega) (show (h15 236 4) ≤ (h15 236 3) by omega) (fun h21 z23 g21 u21 (fz23 : 0 ≤ z23 ∧ z23 ≤ 999) (p21_0 : (h15 236 4) ≤ (h21 236 4)) (p21_1 : (h21 236 4) ≤ (h15 236 3)) (p21_2 : 1 ≤ (h21 236 8) ∨ (h15 236 8) = 0) (p21_3 : 1 ≤ (h21 236 8) ∨ (1 ≤ z23 ∧ z23 ≤ 6)) (p21_4 : 1 ≤ (h21 236 8) ∨ (h15 236 6) = 2) => ?_)
    have F24 := F16.then (by decide +kernel) u21
    have b25 := gi_b (lo := 0) (hi := 800) g21 236 4 rfl
    have e26 : h15 236 8 = h 236 8 := (u15 236 8 rfl)
    have b27 := gi_b (lo := 0) (hi := 5) g21 236 8 rfl
    refine wk_i ?_
    refine wr_is (k0 := 239) (a := 17) (f := 17) (x := z23) (bl := 0) (bh := 999) (nx := 33) (r1 := 0) (r2 := 0) (r3 := 0) rfl (by decide) rfl (by omega) (by omega) (by decide) g21 rfl (by omega) (fun h28 g28 w28 u28 => ?_)
    have F29 := F24.then rfl u28
    refine wi_aload_n (i := 0) (x := 236) (nx := 34) (r1 := 0) (r2 := 0) (r3 := 0) rfl rfl ?_
    refine wr_V (k0 := 236) (rest := []) (as := [.ref 236]) (nx := 37) (r1 := 219) (r2 := 0) (r3 := 11) rfl rfl rfl (of_decide_eq_true rfl) rfl rfl (by decide) rfl rfl (of_decide_eq_true rfl) (of_decide_eq_true rfl) ?_
    refine wi_aload_n (i := 0) (x := 236) (nx := 1) (r1 := 0) (r2 := 0) (r3 := 0) rfl rfl ?_
    refine wr_gi0 (k0 := 236) (x := h21 236 8) (nx := 4) (r1 := 11) (r2 := 8) (r3 := 0) rfl rfl (by decide) rfl ⟨rfl, rfl⟩ rfl (u28 236 8 rfl) ?_
    refine wi_if (cd := .ne) (nx := 7) (r1 := 11) (r2 := 0) (r3 := 0) rfl (by omega) (fun (q30 : (h21 236 8) ≠ 0) => ?_) (fun (q30 : ¬ ((h21 236 8) ≠ 0)) => ?_)
    ·
      refine wi_iconst (n := 0) (nx := 12) (r1 := 0) (r2 := 0) (r3 := 0) rfl ?_
      refine wi_zreturn (nx := 13) (r1 := 0) (r2 := 0) (r3 := 0) rfl rfl (by omega) ?_
      refine wk_i ?_
      refine wi_if (cd := .eq) (nx := 40) (r1 := 50) (r2 := 0) (r3 := 0) rfl (by omega) (fun (q31 : 0 = 0) => ?_) (fun (q31 : ¬ (0 = 0)) => by exfalso; omega)
      refine wi_return (nx := 51) (r1 := 0) (r2 := 0) (r3 := 0) rfl rfl ?_
      have e32 : h28 236 4 = h21 236 4 := (u28 236 4 rfl)
      have e33 : h28 236 8 = h21 236 8 := (u28 236 8 rfl)
      have e34 : h28 239 5 = h 239 5 := ((u28 239 5 rfl).trans ((u21 239 5 rfl).trans (u15 239 5 rfl)))
      have e35 : h28 239 7 = h 239 7 := ((u28 239 7 rfl).trans ((u21 239 7 rfl).trans (u15 239 7 rfl)))
      have e36 : h28 239 15 = h 239 15 := ((u28 239 15 rfl).trans ((u21 239 15 rfl).trans (u15 239 15 rfl)))
      have e37 : h28 239 16 = h 239 16 := ((u28 239 16 rfl).trans ((u21 239 16 rfl).trans (u15 239 16 rfl)))
      have e38 : h28 239 17 = z23 := w28
      have e39 : h28 239 18 = h 239 18 := ((u28 239 18 rfl).trans ((u21 239 18 rfl).trans (u15 239 18 rfl)))
      exact k h28 g28 F29 (show (h 236 4) ≤ (h28 236 4) by omega) (show (h28 236 4) ≤ (h 236 3) by omega) (show 1 ≤ (h28 236 8) ∨ ((h28 239 5) ≤ 9 ∧ 1 ≤ (h28 239 5) ∧ (h28 239 7) ≤ 3 ∧ (h28 239 15) ≤ 6 ∧ (h28 239 16) ≤ 6 ∧ (h28 239 17) ≤ 6 ∧ (h28 239 18) ≤ 6) by omega)
    ·
      refine wi_iconst (n := 1) (nx := 8) (r1 := 0) (r2 := 0) (r3 := 0) rfl ?_
      refine wi_goto (nx := 11) (r1 := 12) (r2 := 0) (r3 := 0) rfl ?_
      refine wi_zreturn (nx := 13) (r1 := 0) (r2 := 0) (r3 := 0) rfl rfl (by omega) ?_
      refine wk_i ?_
      refine wi_if (cd := .eq) (nx := 40) (r1 := 50) (r2 := 0) (r3 := 0) rfl (by omega) (fun (q31 : 1 = 0) => by exfalso; omega) (fun (q31 : ¬ (1 = 0)) => ?_)
      refine wi_aload_n (i := 0) (x := 236) (nx := 41) (r1 := 0) (r2 := 0) (r3 := 0) rfl rfl ?_
      refine wr_gr (k0 := 236) (x := 239) (nx := 44) (r1 := 11) (r2 := 14) (r3 := 0) rfl rfl (by decide) rfl ⟨rfl, rfl⟩ rfl ?_
      refine wi_iconst (n := 1) (nx := 45) (r1 := 0) (r2 := 0) (r3 := 0) rfl ?_
      refine wi_dup2 (nx := 46) (r1 := 0) (r2 := 0) (r3 := 0) rfl rfl rfl ?_
      refine wr_ia (k0 := 239) (a := 1) (f := 1) (x := 2) (nx := 47) (r1 := 0) (r2 := 0) (r3 := 0) rfl (by decide) rfl (by omega) (by omega) (by decide) ((u28 239 1 rfl).trans ((u21 239 1 rfl).trans ((u15 239 1 rfl).trans q11))) ?_
      refine wi_iconst (n := 1) (nx := 48) (r1 := 0) (r2 := 0) (r3 := 0) rfl ?_
      refine wr_addL (3) (nx := 49) (r1 := 0) (r2 := 0) (r3 := 0) rfl (by decide) ?_
      refine wr_is (k0 := 239) (a := 1) (f := 1) (x := 3) (bl := 0) (bh := 4) (nx := 50) (r1 := 0) (r2 := 0) (r3 := 0) rfl (by decide) rfl (by omega) (by omega) (by decide) g28 rfl (by omega) (fun h32 g32 w32 u32 => ?_)
      have F33 := F29.then rfl u32
      refine wi_return (nx := 51) (r1 := 0) (r2 := 0) (r3 := 0) rfl rfl ?_
      have e34 : h32 236 4 = h21 236 4 := ((u32 236 4 rfl).trans (u28 236 4 rfl))
      have e35 : h32 236 8 = h21 236 8 := ((u32 236 8 rfl).trans (u28 236 8 rfl))
      have e36 : h32 239 5 = h 239 5 := ((u32 239 5 rfl).trans ((u28 239 5 rfl).trans ((u21 239 5 rfl).trans (u15 239 5 rfl))))
      have e37 : h32 239 7 = h 239 7 := ((u32 239 7 rfl).trans ((u28 239 7 rfl).trans ((u21 239 7 rfl).trans (u15 239 7 rfl))))
      have e38 : h32 239 15 = h 239 15 := ((u32 239 15 rfl).trans ((u28 239 15 rfl).trans ((u21 239 15 rfl).trans (u15 239 15 rfl))))
      have e39 : h32 239 16 = h 239 16 := ((u32 239 16 rfl).trans ((u28 239 16 rfl).trans ((u21 239 16 rfl).trans (u15 239 16 rfl))))
      have e40 : h32 239 17 = z23 := ((u32 239 17 rfl).trans w28)
      have e41 : h32 239 18 = h 239 18 := ((u32 239 18 rfl).trans ((u28 239 18 rfl).trans ((u21 239 18 rfl).trans (u15 239 18 rfl))))
      exact k h32 g32 F33 (show (h 236 4) ≤ (h32 236 4) by omega) (show (h32 236 4) ≤ (h 236 3) by omega) (show 1 ≤ (h32 236 8) ∨ ((h32 239 5) ≤ 9 ∧ 1 ≤ (h32 239 5) ∧ (h32 239 7) ≤ 3 ∧ (h32 239 15) ≤ 6 ∧ (h32 239 16) ≤ 6 ∧ (h32 239 17) ≤ 6 ∧ (h32 239 18) ≤ 6) by omega)
  ·
    refine wr_ia (k0 := 239) (a := 1) (f := 1) (x := 3) (nx := 6) (r1 := 0) (r2 := 0) (r3 := 0) rfl (by decide) rfl (by omega) (by omega) (by decide) q11 ?_
    refine wi_istore_n (i := 1) (e := 3) (lo2 := [(1, vi 3), (0, .ref 236)]) (nx := 7) (r1 := 0) (r2 := 0) (r3 := 0) rfl rfl ?_
    refine wi_aload_n (i := 0) (x := 236) (nx := 8) (r1 := 0) (r2 := 0) (r3 := 0) rfl rfl ?_
    refine wi_iconst (n := 1) (nx := 9) (r1 := 0) (r2 := 0) (r3 := 0) rfl ?_
    refine wi_iconst (n := 4) (nx := 10) (r1 := 0) (r2 := 0) (r3 := 0) rfl ?_
    refine wr_V (k0 := 236) (rest := []) (as := [.ref 236, vi 1, vi 4]) (nx := 13) (r1 := 223) (r2 := 2) (r3 := 11) rfl rfl rfl (of_decide_eq_true rfl) rfl rfl (by decide) rfl rfl (of_decide_eq_true rfl) (of_decide_eq_true rfl) ?_
    refine wi_aload_n (i := 0) (x := 236) (nx := 1) (r1 := 0) (r2 := 0) (r3 := 0) rfl rfl ?_
    refine wr_gr (k0 := 236) (x := 239) (nx := 4) (r1 := 11) (r2 := 14) (r3 := 0) rfl rfl (by decide) rfl ⟨rfl, rfl⟩ rfl ?_
    refine wi_iload_n (i := 1) (e := 1) (nx := 5) (r1 := 0) (r2 := 0) (r3 := 0) rfl rfl ?_
    refine wr_ia (k0 := 239) (a := 1) (f := 1) (x := 3) (nx := 6) (r1 := 0) (r2 := 0) (r3 := 0) rfl (by decide) rfl (by omega) (by omega) (by decide) q11 ?_
    refine wi_iload_n (i := 2) (e := 4) (nx := 7) (r1 := 0) (r2 := 0) (r3 := 0) rfl rfl ?_
    refine wi_icmp (cd := .ne) (nx := 10) (r1 := 15) (r2 := 0) (r3 := 0) rfl (by omega) (by omega) (fun (q12 : 3 ≠ 4) => ?_) (fun (q12 : ¬ (3 ≠ 4)) => by exfalso; omega)
    refine wi_aload_n (i := 0) (x := 236) (nx := 16) (r1 := 0) (r2 := 0) (r3 := 0) rfl rfl ?_
    refine wr_V (k0 := 236) (rest := []) (as := [.ref 236]) (nx := 19) (r1 := 219) (r2 := 0) (r3 := 11) rfl rfl rfl (of_decide_eq_true rfl) rfl rfl (by decide) rfl rfl (of_decide_eq_true rfl) (of_decide_eq_true rfl) ?_
    refine wi_aload_n (i := 0) (x := 236) (nx := 1) (r1 := 0) (r2 := 0) (r3 := 0) rfl rfl ?_
    refine wr_gi0 (k0 := 236) (x := h 236 8) (nx := 4) (r1 := 11) (r2 := 8) (r3 := 0) rfl rfl (by decide) rfl ⟨rfl, rfl⟩ rfl rfl ?_
    refine wi_if (cd := .ne) (nx := 7) (r1 := 11) (r2 := 0) (r3 := 0) rfl (by omega) (fun (q13 : (h 236 8) ≠ 0) => by exfalso; omega) (fun (q13 : ¬ ((h 236 8) ≠ 0)) => ?_)
    refine wi_iconst (n := 1) (nx := 8) (r1 := 0) (r2 := 0) (r3 := 0) rfl ?_
    refine wi_goto (nx := 11) (r1 := 12) (r2 := 0) (r3 := 0) rfl ?_
    refine wi_zreturn (nx := 13) (r1 := 0) (r2 := 0) (r3 := 0) rfl rfl (by omega) ?_
    refine wk_i ?_
    refine wi_if (cd := .eq) (nx := 22) (r1 := 26) (r2 := 0) (r3 := 0) rfl (by omega) (fun (q14 : 1 = 0) => by exfalso; omega) (fun (q14 : ¬ (1 = 0)) => ?_)
    refine wi_aload_n (i := 0) (x := 236) (nx := 23) (r1 := 0) (r2 := 0) (r3 := 0) rfl rfl ?_
    refine wr_V (k0 := 236) (rest := []) (as := [.ref 236]) (nx := 26) (r1 := 215) (r2 := 0) (r3 := 11) rfl rfl rfl (of_decide_eq_true rfl) rfl rfl (by decide) rfl rfl (of_decide_eq_true rfl) (of_decide_eq_true rfl) ?_
    refine ct_215_236 hcr  g   (show (h 236 4) ≤ (h 236 3) by omega) (fun h15 g15 u15 (p15_0 : (h 236 4) ≤ (h15 236 4)) (p15_1 : (h15 236 4) ≤ (h 236 3)) (p15_2 : (h15 236 6) = 0 ∨ (h 236 4) + 1 ≤ (h15 236 4)) => ?_)
    have F16 := F0.then (by decide +kernel) u15
    have b17 := gi_b (lo := 0) (hi := 800) g15 236 4 rfl
    have b18 := gi_b (lo := 0) (hi := 4) g15 236 6 rfl
    refine wk_n ?_
    refine wi_aload_n (i := 0) (x := 236) (nx := 27) (r1 := 0) (r2 := 0) (r3 := 0) rfl rfl ?_
    refine wr_V (k0 := 236) (rest := []) (as := [.ref 236]) (nx := 30) (r1 := 219) (r2 := 0) (r3 := 11) rfl rfl rfl (of_decide_eq_true rfl) rfl rfl (by decide) rfl rfl (of_decide_eq_true rfl) (of_decide_eq_true rfl) ?_
    refine wi_aload_n (i := 0) (x := 236) (nx := 1) (r1 := 0) (r2 := 0) (r3 := 0) rfl rfl ?_
    refine wr_gi0 (k0 := 236) (x := h 236 8) (nx := 4) (r1 := 11) (r2 := 8) (r3 := 0) rfl rfl (by decide) rfl ⟨rfl, rfl⟩ rfl (u15 236 8 rfl) ?_
    refine wi_if (cd := .ne) (nx := 7) (r1 := 11) (r2 := 0) (r3 := 0) rfl (by omega) (fun (q19 : (h 236 8) ≠ 0) => by exfalso; omega) (fun (q19 : ¬ ((h 236 8) ≠ 0)) => ?_)
    refine wi_iconst (n := 1) (nx := 8) (r1 := 0) (r2 := 0) (r3 := 0) rfl ?_
    refine wi_goto (nx := 11) (r1 := 12) (r2 := 0) (r3 := 0) rfl ?_
    refine wi_zreturn (nx := 13) (r1 := 0) (r2 := 0) (r3 := 0) rfl rfl (by omega) ?_
    refine wk_i ?_
    refine wi_zreturn (nx := 31) (r1 := 0) (r2 := 0) (r3 := 0) rfl rfl (by omega) ?_
    refine wk_i ?_
    refine wi_if (cd := .ne) (nx := 16) (r1 := 17) (r2 := 0) (r3 := 0) rfl (by omega) (fun (q20 : 1 ≠ 0) => ?_) (fun (q20 : ¬ (1 ≠ 0)) => by exfalso; omega)
    refine wi_aload_n (i := 0) (x := 236) (nx := 18) (r1 := 0) (r2 := 0) (r3 := 0) rfl rfl ?_
    refine wr_gr (k0 := 236) (x := 239) (nx := 21) (r1 := 11) (r2 := 14) (r3 := 0) rfl rfl (by decide) rfl ⟨rfl, rfl⟩ rfl ?_
    refine wi_bipush (n := 15) (nx := 23) (r1 := 0) (r2 := 0) (r3 := 0) rfl (by decide) ?_
    refine wi_iload_n (i := 1) (e := 3) (nx := 24) (r1 := 0) (r2 := 0) (r3 := 0) rfl rfl ?_
    refine wr_addL (18) (nx := 25) (r1 := 0) (r2 := 0) (r3 := 0) rfl (by decide) ?_
    refine wi_aload_n (i := 0) (x := 236) (nx := 26) (r1 := 0) (r2 := 0) (r3 := 0) rfl rfl ?_
    refine wi_iconst (n := 1) (nx := 27) (r1 := 0) (r2 := 0) (r3 := 0) rfl ?_
    refine wi_bipush (n := 6) (nx := 29) (r1 := 0) (r2 := 0) (r3 := 0) rfl (by decide) ?_
    refine wr_V (k0 := 236) (rest := [vi 18, .ref 239]) (as := [.ref 236, vi 1, vi 6]) (nx := 32) (r1 := 231) (r2 := 2) (r3 := 11) rfl rfl rfl (of_decide_eq_true rfl) rfl rfl (by decide) rfl rfl (of_decide_eq_true rfl) (of_decide_eq_true rfl) ?_
    have e22 : h15 236 3 = h 236 3 := (u15 236 3 rfl)
    refine ct_231_236 hcr  g15 1 6 (by omega) (by omega) (show (h15 236 4) ≤ (h15 236 3) by omega) (fun h21 z23 g21 u21 (fz23 : 0 ≤ z23 ∧ z23 ≤ 999) (p21_0 : (h15 236 4) ≤ (h21 236 4)) (p21_1 : (h21 236 4) ≤ (h15 236 3)) (p21_2 : 1 ≤ (h21 236 8) ∨ (h15 236 8) = 0) (p21_3 : 1 ≤ (h21 236 8) ∨ (1 ≤ z23 ∧ z23 ≤ 6)) (p21_4 : 1 ≤ (h21 236 8) ∨ (h15 236 6) = 2) => ?_)
    have F24 := F16.then (by decide +kernel) u21
    have b25 := gi_b (lo := 0) (hi := 800) g21 236 4 rfl
    have e26 : h15 236 8 = h 236 8 := (u15 236 8 rfl)
    have b27 := gi_b (lo := 0) (hi := 5) g21 236 8 rfl
    refine wk_i ?_
    refine wr_is (k0 := 239) (a := 18) (f := 18) (x := z23) (bl := 0) (bh := 999) (nx := 33) (r1 := 0) (r2 := 0) (r3 := 0) rfl (by decide) rfl (by omega) (by omega) (by decide) g21 rfl (by omega) (fun h28 g28 w28 u28 => ?_)
    have F29 := F24.then rfl u28
    refine wi_aload_n (i := 0) (x := 236) (nx := 34) (r1 := 0) (r2 := 0) (r3 := 0) rfl rfl ?_
    refine wr_V (k0 := 236) (rest := []) (as := [.ref 236]) (nx := 37) (r1 := 219) (r2 := 0) (r3 := 11) rfl rfl rfl (of_decide_eq_true rfl) rfl rfl (by decide) rfl rfl (of_decide_eq_true rfl) (of_decide_eq_true rfl) ?_
    refine wi_aload_n (i := 0) (x := 236) (nx := 1) (r1 := 0) (r2 := 0) (r3 := 0) rfl rfl ?_
    refine wr_gi0 (k0 := 236) (x := h21 236 8) (nx := 4) (r1 := 11) (r2 := 8) (r3 := 0) rfl rfl (by decide) rfl ⟨rfl, rfl⟩ rfl (u28 236 8 rfl) ?_
    refine wi_if (cd := .ne) (nx := 7) (r1 := 11) (r2 := 0) (r3 := 0) rfl (by omega) (fun (q30 : (h21 236 8) ≠ 0) => ?_) (fun (q30 : ¬ ((h21 236 8) ≠ 0)) => ?_)
    ·
      refine wi_iconst (n := 0) (nx := 12) (r1 := 0) (r2 := 0) (r3 := 0) rfl ?_
      refine wi_zreturn (nx := 13) (r1 := 0) (r2 := 0) (r3 := 0) rfl rfl (by omega) ?_
      refine wk_i ?_
      refine wi_if (cd := .eq) (nx := 40) (r1 := 50) (r2 := 0) (r3 := 0) rfl (by omega) (fun (q31 : 0 = 0) => ?_) (fun (q31 : ¬ (0 = 0)) => by exfalso; omega)
      refine wi_return (nx := 51) (r1 := 0) (r2 := 0) (r3 := 0) rfl rfl ?_
      have e32 : h28 236 4 = h21 236 4 := (u28 236 4 rfl)
      have e33 : h28 236 8 = h21 236 8 := (u28 236 8 rfl)
      have e34 : h28 239 5 = h 239 5 := ((u28 239 5 rfl).trans ((u21 239 5 rfl).trans (u15 239 5 rfl)))
      have e35 : h28 239 7 = h 239 7 := ((u28 239 7 rfl).trans ((u21 239 7 rfl).trans (u15 239 7 rfl)))
      have e36 : h28 239 15 = h 239 15 := ((u28 239 15 rfl).trans ((u21 239 15 rfl).trans (u15 239 15 rfl)))
      have e37 : h28 239 16 = h 239 16 := ((u28 239 16 rfl).trans ((u21 239 16 rfl).trans (u15 239 16 rfl)))
      have e38 : h28 239 17 = h 239 17 := ((u28 239 17 rfl).trans ((u21 239 17 rfl).trans (u15 239 17 rfl)))
      have e39 : h28 239 18 = z23 := w28
      exact k h28 g28 F29 (show (h 236 4) ≤ (h28 236 4) by omega) (show (h28 236 4) ≤ (h 236 3) by omega) (show 1 ≤ (h28 236 8) ∨ ((h28 239 5) ≤ 9 ∧ 1 ≤ (h28 239 5) ∧ (h28 239 7) ≤ 3 ∧ (h28 239 15) ≤ 6 ∧ (h28 239 16) ≤ 6 ∧ (h28 239 17) ≤ 6 ∧ (h28 239 18) ≤ 6) by omega)
    ·
      refine wi_iconst (n := 1) (nx := 8) (r1 := 0) (r2 := 0) (r3 := 0) rfl ?_
      refine wi_goto (nx := 11) (r1 := 12) (r2 := 0) (r3 := 0) rfl ?_
      refine wi_zreturn (nx := 13) (r1 := 0) (r2 := 0) (r3 := 0) rfl rfl (by omega) ?_
      refine wk_i ?_
      refine wi_if (cd := .eq) (nx := 40) (r1 := 50) (r2 := 0) (r3 := 0) rfl (by omega) (fun (q31 : 1 = 0) => by exfalso; omega) (fun (q31 : ¬ (1 = 0)) => ?_)
      refine wi_aload_n (i := 0) (x := 236) (nx := 41) (r1 := 0) (r2 := 0) (r3 := 0) rfl rfl ?_
      refine wr_gr (k0 := 236) (x := 239) (nx := 44) (r1 := 11) (r2 := 14) (r3 := 0) rfl rfl (by decide) rfl ⟨rfl, rfl⟩ rfl ?_
      refine wi_iconst (n := 1) (nx := 45) (r1 := 0) (r2 := 0) (r3 := 0) rfl ?_
      refine wi_dup2 (nx := 46) (r1 := 0) (r2 := 0) (r3 := 0) rfl rfl rfl ?_
      refine wr_ia (k0 := 239) (a := 1) (f := 1) (x := 3) (nx := 47) (r1 := 0) (r2 := 0) (r3 := 0) rfl (by decide) rfl (by omega) (by omega) (by decide) ((u28 239 1 rfl).trans ((u21 239 1 rfl).trans ((u15 239 1 rfl).trans q11))) ?_
      refine wi_iconst (n := 1) (nx := 48) (r1 := 0) (r2 := 0) (r3 := 0) rfl ?_
      refine wr_addL (4) (nx := 49) (r1 := 0) (r2 := 0) (r3 := 0) rfl (by decide) ?_
      refine wr_is (k0 := 239) (a := 1) (f := 1) (x := 4) (bl := 0) (bh := 4) (nx := 50) (r1 := 0) (r2 := 0) (r3 := 0) rfl (by decide) rfl (by omega) (by omega) (by decide) g28 rfl (by omega) (fun h32 g32 w32 u32 => ?_)
      have F33 := F29.then rfl u32
      refine wi_return (nx := 51) (r1 := 0) (r2 := 0) (r3 := 0) rfl rfl ?_
      have e34 : h32 236 4 = h21 236 4 := ((u32 236 4 rfl).trans (u28 236 4 rfl))
      have e35 : h32 236 8 = h21 236 8 := ((u32 236 8 rfl).trans (u28 236 8 rfl))
      have e36 : h32 239 5 = h 239 5 := ((u32 239 5 rfl).trans ((u28 239 5 rfl).trans ((u21 239 5 rfl).trans (u15 239 5 rfl))))
      have e37 : h32 239 7 = h 239 7 := ((u32 239 7 rfl).trans ((u28 239 7 rfl).trans ((u21 239 7 rfl).trans (u15 239 7 rfl))))
      have e38 : h32 239 15 = h 239 15 := ((u32 239 15 rfl).trans ((u28 239 15 rfl).trans ((u21 239 15 rfl).trans (u15 239 15 rfl))))
      have e39 : h32 239 16 = h 239 16 := ((u32 239 16 rfl).trans ((u28 239 16 rfl).trans ((u21 239 16 rfl).trans (u15 239 16 rfl))))
      have e40 : h32 239 17 = h 239 17 := ((u32 239 17 rfl).trans ((u28 239 17 rfl).trans ((u21 239 17 rfl).trans (u15 239 17 rfl))))
      have e41 : h32 239 18 = z23 := ((u32 239 18 rfl).trans w28)
      exact k h32 g32 F33 (show (h 236 4) ≤ (h32 236 4) by omega) (show (h32 236 4) ≤ (h 236 3) by omega) (show 1 ≤ (h32 236 8) ∨ ((h32 239 5) ≤ 9 ∧ 1 ≤ (h32 239 5) ∧ (h32 239 7) ≤ 3 ∧ (h32 239 15) ≤ 6 ∧ (h32 239 16) ≤ 6 ∧ (h32 239 17) ≤ 6 ∧ (h32 239 18) ≤ 6) by omega)
  ·
    refine wr_ia (k0 := 239) (a := 1) (f := 1) (x := 4) (nx := 6) (r1 := 0) (r2 := 0) (r3 := 0) rfl (by decide) rfl (by omega) (by omega) (by decide) q11 ?_
    refine wi_istore_n (i := 1) (e := 4) (lo2 := [(1, vi 4), (0, .ref 236)]) (nx := 7) (r1 := 0) (r2 := 0) (r3 := 0) rfl rfl ?_
    refine wi_aload_n (i := 0) (x := 236) (nx := 8) (r1 := 0) (r2 := 0) (r3 := 0) rfl rfl ?_
    refine wi_iconst (n := 1) (nx := 9) (r1 := 0) (r2 := 0) (r3 := 0) rfl ?_
    refine wi_iconst (n := 4) (nx := 10) (r1 := 0) (r2 := 0) (r3 := 0) rfl ?_
    refine wr_V (k0 := 236) (rest := []) (as := [.ref 236, vi 1, vi 4]) (nx := 13) (r1 := 223) (r2 := 2) (r3 := 11) rfl rfl rfl (of_decide_eq_true rfl) rfl rfl (by decide) rfl rfl (of_decide_eq_true rfl) (of_decide_eq_true rfl) ?_
    refine wi_aload_n (i := 0) (x := 236) (nx := 1) (r1 := 0) (r2 := 0) (r3 := 0) rfl rfl ?_
    refine wr_gr (k0 := 236) (x := 239) (nx := 4) (r1 := 11) (r2 := 14) (r3 := 0) rfl rfl (by decide) rfl ⟨rfl, rfl⟩ rfl ?_
    refine wi_iload_n (i := 1) (e := 1) (nx := 5) (r1 := 0) (r2 := 0) (r3 := 0) rfl rfl ?_
    refine wr_ia (k0 := 239) (a := 1) (f := 1) (x := 4) (nx := 6) (r1 := 0) (r2 := 0) (r3 := 0) rfl (by decide) rfl (by omega) (by omega) (by decide) q11 ?_
    refine wi_iload_n (i := 2) (e := 4) (nx := 7) (r1 := 0) (r2 := 0) (r3 := 0) rfl rfl ?_
    refine wi_icmp (cd := .ne) (nx := 10) (r1 := 15) (r2 := 0) (r3 := 0) rfl (by omega) (by omega) (fun (q12 : 4 ≠ 4) => by exfalso; omega) (fun (q12 : ¬ (4 ≠ 4)) => ?_)
    refine wi_aload_n (i := 0) (x := 236) (nx := 11) (r1 := 0) (r2 := 0) (r3 := 0) rfl rfl ?_
    refine wi_iconst (n := 5) (nx := 12) (r1 := 0) (r2 := 0) (r3 := 0) rfl ?_
    refine wr_V (k0 := 236) (rest := []) (as := [.ref 236, vi 5]) (nx := 15) (r1 := 224) (r2 := 1) (r3 := 11) rfl rfl rfl (of_decide_eq_true rfl) rfl rfl (by decide) rfl rfl (of_decide_eq_true rfl) (of_decide_eq_true rfl) ?_
    refine ct_224_236 hcr  g 5 (by omega)  (fun h13 g13 u13 (p13_0 : 1 ≤ (h13 236 8)) => ?_)
    have F14 := F0.then (by decide +kernel) u13
    have b15 := gi_b (lo := 0) (hi := 5) g13 236 8 rfl
    refine wk_n ?_
    refine wi_aload_n (i := 0) (x := 236) (nx := 16) (r1 := 0) (r2 := 0) (r3 := 0) rfl rfl ?_
    refine wr_V (k0 := 236) (rest := []) (as := [.ref 236]) (nx := 19) (r1 := 219) (r2 := 0) (r3 := 11) rfl rfl rfl (of_decide_eq_true rfl) rfl rfl (by decide) rfl rfl (of_decide_eq_true rfl) (of_decide_eq_true rfl) ?_
    refine wi_aload_n (i := 0) (x := 236) (nx := 1) (r1 := 0) (r2 := 0) (r3 := 0) rfl rfl ?_
    refine wr_gi0 (k0 := 236) (x := h13 236 8) (nx := 4) (r1 := 11) (r2 := 8) (r3 := 0) rfl rfl (by decide) rfl ⟨rfl, rfl⟩ rfl rfl ?_
    refine wi_if (cd := .ne) (nx := 7) (r1 := 11) (r2 := 0) (r3 := 0) rfl (by omega) (fun (q16 : (h13 236 8) ≠ 0) => ?_) (fun (q16 : ¬ ((h13 236 8) ≠ 0)) => by exfalso; omega)
    refine wi_iconst (n := 0) (nx := 12) (r1 := 0) (r2 := 0) (r3 := 0) rfl ?_
    refine wi_zreturn (nx := 13) (r1 := 0) (r2 := 0) (r3 := 0) rfl rfl (by omega) ?_
    refine wk_i ?_
    refine wi_if (cd := .eq) (nx := 22) (r1 := 26) (r2 := 0) (r3 := 0) rfl (by omega) (fun (q17 : 0 = 0) => ?_) (fun (q17 : ¬ (0 = 0)) => by exfalso; omega)
    refine wi_aload_n (i := 0) (x := 236) (nx := 27) (r1 := 0) (r2 := 0) (r3 := 0) rfl rfl ?_
    refine wr_V (k0 := 236) (rest := []) (as := [.ref 236]) (nx := 30) (r1 := 219) (r2 := 0) (r3 := 11) rfl rfl rfl (of_decide_eq_true rfl) rfl rfl (by decide) rfl rfl (of_decide_eq_true rfl) (of_decide_eq_true rfl) ?_
    refine wi_aload_n (i := 0) (x := 236) (nx := 1) (r1 := 0) (r2 := 0) (r3 := 0) rfl rfl ?_
    refine wr_gi0 (k0 := 236) (x := h13 236 8) (nx := 4) (r1 := 11) (r2 := 8) (r3 := 0) rfl rfl (by decide) rfl ⟨rfl, rfl⟩ rfl rfl ?_
    refine wi_if (cd := .ne) (nx := 7) (r1 := 11) (r2 := 0) (r3 := 0) rfl (by omega) (fun (q18 : (h13 236 8) ≠ 0) => ?_) (fun (q18 : ¬ ((h13 236 8) ≠ 0)) => by exfalso; omega)
    refine wi_iconst (n := 0) (nx := 12) (r1 := 0) (r2 := 0) (r3 := 0) rfl ?_
    refine wi_zreturn (nx := 13) (r1 := 0) (r2 := 0) (r3 := 0) rfl rfl (by omega) ?_
    refine wk_i ?_
    refine wi_zreturn (nx := 31) (r1 := 0) (r2 := 0) (r3 := 0) rfl rfl (by omega) ?_
    refine wk_i ?_
    refine wi_if (cd := .ne) (nx := 16) (r1 := 17) (r2 := 0) (r3 := 0) rfl (by omega) (fun (q19 : 0 ≠ 0) => by exfalso; omega) (fun (q19 : ¬ (0 ≠ 0)) => ?_)
    refine wi_return (nx := 17) (r1 := 0) (r2 := 0) (r3 := 0) rfl rfl ?_
    have e20 : h13 236 4 = h 236 4 := (u13 236 4 rfl)
    have e21 : h13 239 5 = h 239 5 := (u13 239 5 rfl)
    have e22 : h13 239 7 = h 239 7 := (u13 239 7 rfl)
    have e23 : h13 239 15 = h 239 15 := (u13 239 15 rfl)
    have e24 : h13 239 16 = h 239 16 := (u13 239 16 rfl)
    have e25 : h13 239 17 = h 239 17 := (u13 239 17 rfl)
    have e26 : h13 239 18 = h 239 18 := (u13 239 18 rfl)
    exact k h13 g13 F14 (show (h 236 4) ≤ (h13 236 4) by omega) (show (h13 236 4) ≤ (h 236 3) by omega) (show 1 ≤ (h13 236 8) ∨ ((h13 239 5) ≤ 9 ∧ 1 ≤ (h13 239 5) ∧ (h13 239 7) ≤ 3 ∧ (h13 239 15) ≤ 6 ∧ (h13 239 16) ≤ 6 ∧ (h13 239 17) ≤ 6 ∧ (h13 239 18) ≤ 6) by omega)
-- method 222: Model.readsColor()V
set_option maxRecDepth 100000 in
set_option maxHeartbeats 100000000 in
theorem ct_222_236 {L : Nat} {xs : Nat → Int32} {d b c : Nat} {h : hp} {cr : Nat → Nat → Option Nat} {Q : hp_Q} (hcr : CR cr)  (g : GI h)   (pp0 : h 236 4 ≤ h 236 3) (pp1 : h 236 8 = 0) (pp2 : h 239 5 ≤ 9) (pp3 : 1 ≤ h 239 5) (pp4 : h 239 7 ≤ 3) (pp5 : h 239 15 ≤ 6) (pp6 : h 239 16 ≤ 6) (pp7 : h 239 17 ≤ 6) (pp8 : h 239 18 ≤ 6) (k : ∀ (h2 : hp) , GI h2 → FR [(244, 244, none), (236, 236, some (4, 4)), (236, 236, some (5, 5)), (236, 236, some (6, 6)), (236, 236, some (7, 7)), (236, 236, some (8, 8)), (236, 236, some (9, 9)), (236, 236, some (12, 12)), (239, 239, some (0, 0)), (239, 239, some (10, 14))] h h2 → (h 236 4 ≤ h2 236 4) → (h2 236 4 ≤ h 236 3) → (1 ≤ h2 236 8 ∨ (h2 239 5 ≤ 9 ∧ 1 ≤ h2 239 5 ∧ h2 239 7 ≤ 3 ∧ h2 239 15 ≤ 6 ∧ h2 239 16 ≤ 6 ∧ h2 239 17 ≤ 6 ∧ h2 239 18 ≤ 6)) → Q (.inl none) (hp_w h2 cr) b c) : wp (md_xa (L, xs)) (d + 5) 222 (0, [(0, .ref 236)], [], hp_w h cr, b, c) Q := by
  have F0 : FR [(244, 244, none), (236, 236, some (4, 4)), (236, 236, some (5, 5)), (236, 236, some (6, 6)), (236, 236, some (7, 7)), (236, 236, some (8, 8)), (236, 236, some (9, 9)), (236, 236, some (12, 12)), (239, 239, some (0, 0)), (239, 239, some (10, 14))] h h := FR.refl
  have b1 := gi_b (lo := 0) (hi := 800) g 236 4 rfl
  have b2 := gi_b (lo := 0) (hi := 800) g 236 3 rfl
  have b3 := gi_b (lo := 0) (hi := 5) g 236 8 rfl
  have b4 := gi_b (lo := 0) (hi := 999) g 239 5 rfl
  have b5 := gi_b (lo := 0) (hi := 999) g 239 7 rfl
  have b6 := gi_b (lo := 0) (hi := 999) g 239 15 rfl
  have b7 := gi_b (lo := 0) (hi := 999) g 239 16 rfl
  have b8 := gi_b (lo := 0) (hi := 999) g 239 17 rfl
  have b9 := gi_b (lo := 0) (hi := 999) g 239 18 rfl
  refine wi_aload_n (i := 0) (x := 236) (nx := 1) (r1 := 0) (r2 := 0) (r3 := 0) rfl rfl ?_
  refine wr_gr (k0 := 236) (x := 239) (nx := 4) (r1 := 11) (r2 := 14) (r3 := 0) rfl rfl (by decide) rfl ⟨rfl, rfl⟩ rfl ?_
  refine wi_iconst (n := 0) (nx := 5) (r1 := 0) (r2 := 0) (r3 := 0) rfl ?_
  have b10 := gi_b (lo := 0) (hi := 5) g 239 0 rfl
  refine wr_ia (k0 := 239) (a := 0) (f := 0) (x := h 239 0) (nx := 6) (r1 := 0) (r2 := 0) (r3 := 0) rfl (by decide) rfl (by omega) (by omega) (by decide) rfl ?_
  refine wi_istore_n (i := 1) (e := h 239 0) (lo2 := [(1, vi (h 239 0)), (0, .ref 236)]) (nx := 7) (r1 := 0) (r2 := 0) (r3 := 0) rfl rfl ?_
  refine wi_aload_n (i := 0) (x := 236) (nx := 8) (r1 := 0) (r2 := 0) (r3 := 0) rfl rfl ?_
  refine wi_iconst (n := 0) (nx := 9) (r1 := 0) (r2 := 0) (r3 := 0) rfl ?_
  refine wi_iconst (n := 5) (nx := 10) (r1 := 0) (r2 := 0) (r3 := 0) rfl ?_
  refine wr_V (k0 := 236) (rest := []) (as := [.ref 236, vi 0, vi 5]) (nx := 13) (r1 := 223) (r2 := 2) (r3 := 11) rfl rfl rfl (of_decide_eq_true rfl) rfl rfl (by decide) rfl rfl (of_decide_eq_true rfl) (of_decide_eq_true rfl) ?_
  refine wi_aload_n (i := 0) (x := 236) (nx := 1) (r1 := 0) (r2 := 0) (r3 := 0) rfl rfl ?_
  refine wr_gr (k0 := 236) (x := 239) (nx := 4) (r1 := 11) (r2 := 14) (r3 := 0) rfl rfl (by decide) rfl ⟨rfl, rfl⟩ rfl ?_
  refine wi_iload_n (i := 1) (e := 0) (nx := 5) (r1 := 0) (r2 := 0) (r3 := 0) rfl rfl ?_
  refine wr_ia (k0 := 239) (a := 0) (f := 0) (x := h 239 0) (nx := 6) (r1 := 0) (r2 := 0) (r3 := 0) rfl (by decide) rfl (by omega) (by omega) (by decide) rfl ?_
  refine wi_iload_n (i := 2) (e := 5) (nx := 7) (r1 := 0) (r2 := 0) (r3 := 0) rfl rfl ?_
  refine wi_icmp (cd := .ne) (nx := 10) (r1 := 15) (r2 := 0) (r3 := 0) rfl (by omega) (by omega) (fun (q11 : (h 239 0) ≠ 5) => ?_) (fun (q11 : ¬ ((h 239 0) ≠ 5)) => ?_)
  ·
    refine wi_aload_n (i := 0) (x := 236) (nx := 16) (r1 := 0) (r2 := 0) (r3 := 0) rfl rfl ?_
    refine wr_V (k0 := 236) (rest := []) (as := [.ref 236]) (nx := 19) (r1 := 219) (r2 := 0) (r3 := 11) rfl rfl rfl (of_decide_eq_true rfl) rfl rfl (by decide) rfl rfl (of_decide_eq_true rfl) (of_decide_eq_true rfl) ?_
    refine wi_aload_n (i := 0) (x := 236) (nx := 1) (r1 := 0) (r2 := 0) (r3 := 0) rfl rfl ?_
    refine wr_gi0 (k0 := 236) (x := h 236 8) (nx := 4) (r1 := 11) (r2 := 8) (r3 := 0) rfl rfl (by decide) rfl ⟨rfl, rfl⟩ rfl rfl ?_
    refine wi_if (cd := .ne) (nx := 7) (r1 := 11) (r2 := 0) (r3 := 0) rfl (by omega) (fun (q12 : (h 236 8) ≠ 0) => by exfalso; omega) (fun (q12 : ¬ ((h 236 8) ≠ 0)) => ?_)
    refine wi_iconst (n := 1) (nx := 8) (r1 := 0) (r2 := 0) (r3 := 0) rfl ?_
    refine wi_goto (nx := 11) (r1 := 12) (r2 := 0) (r3 := 0) rfl ?_
    refine wi_zreturn (nx := 13) (r1 := 0) (r2 := 0) (r3 := 0) rfl rfl (by omega) ?_
    refine wk_i ?_
    refine wi_if (cd := .eq) (nx := 22) (r1 := 26) (r2 := 0) (r3 := 0) rfl (by omega) (fun (q13 : 1 = 0) => by exfalso; omega) (fun (q13 : ¬ (1 = 0)) => ?_)
    refine wi_aload_n (i := 0) (x := 236) (nx := 23) (r1 := 0) (r2 := 0) (r3 := 0) rfl rfl ?_
    refine wr_V (k0 := 236) (rest := []) (as := [.ref 236]) (nx := 26) (r1 := 215) (r2 := 0) (r3 := 11) rfl rfl rfl (of_decide_eq_true rfl) rfl rfl (by decide) rfl rfl (of_decide_eq_true rfl) (of_decide_eq_true rfl) ?_
    refine ct_215_236 hcr  g   (show (h 236 4) ≤ (h 236 3) by omega) (fun h14 g14 u14 (p14_0 : (h 236 4) ≤ (h14 236 4)) (p14_1 : (h14 236 4) ≤ (h 236 3)) (p14_2 : (h14 236 6) = 0 ∨ (h 236 4) + 1 ≤ (h14 236 4)) => ?_)
    have F15 := F0.then (by decide +kernel) u14
    have b16 := gi_b (lo := 0) (hi := 800) g14 236 4 rfl
    have b17 := gi_b (lo := 0) (hi := 4) g14 236 6 rfl
    refine wk_n ?_
    refine wi_aload_n (i := 0) (x := 236) (nx := 27) (r1 := 0) (r2 := 0) (r3 := 0) rfl rfl ?_
    refine wr_V (k0 := 236) (rest := []) (as := [.ref 236]) (nx := 30) (r1 := 219) (r2 := 0) (r3 := 11) rfl rfl rfl (of_decide_eq_true rfl) rfl rfl (by decide) rfl rfl (of_decide_eq_true rfl) (of_decide_eq_true rfl) ?_
    refine wi_aload_n (i := 0) (x := 236) (nx := 1) (r1 := 0) (r2 := 0) (r3 := 0) rfl rfl ?_
    refine wr_gi0 (k0 := 236) (x := h 236 8) (nx := 4) (r1 := 11) (r2 := 8) (r3 := 0) rfl rfl (by decide) rfl ⟨rfl, rfl⟩ rfl (u14 236 8 rfl) ?_
    refine wi_if (cd := .ne) (nx := 7) (r1 := 11) (r2 := 0) (r3 := 0) rfl (by omega) (fun (q18 : (h 236 8) ≠ 0) => by exfalso; omega) (fun (q18 : ¬ ((h 236 8) ≠ 0)) => ?_)
    refine wi_iconst (n := 1) (nx := 8) (r1 := 0) (r2 := 0) (r3 := 0) rfl ?_
    refine wi_goto (nx := 11) (r1 := 12) (r2 := 0) (r3 := 0) rfl ?_
    refine wi_zreturn (nx := 13) (r1 := 0) (r2 := 0) (r3 := 0) rfl rfl (by omega) ?_
    refine wk_i ?_
    refine wi_zreturn (nx := 31) (r1 := 0) (r2 := 0) (r3 := 0) rfl rfl (by omega) ?_
    refine wk_i ?_
    refine wi_if (cd := .ne) (nx := 16) (r1 := 17) (r2 := 0) (r3 := 0) rfl (by omega) (fun (q19 : 1 ≠ 0) => ?_) (fun (q19 : ¬ (1 ≠ 0)) => by exfalso; omega)
    refine wi_aload_n (i := 0) (x := 236) (nx := 18) (r1 := 0) (r2 := 0) (r3 := 0) rfl rfl ?_
    refine wr_V (k0 := 236) (rest := []) (as := [.ref 236]) (nx := 21) (r1 := 225) (r2 := 0) (r3 := 11) rfl rfl rfl (of_decide_eq_true rfl) rfl rfl (by decide) rfl rfl (of_decide_eq_true rfl) (of_decide_eq_true rfl) ?_
    refine ct_225_236 hcr  g14    (fun h20 g20 u20 (p20_0 : 1 ≤ (h20 236 8) ∨ (h14 236 8) = 0) => ?_)
    have F21 := F15.then (by decide +kernel) u20
    have e22 : h14 236 8 = h 236 8 := (u14 236 8 rfl)
    have b23 := gi_b (lo := 0) (hi := 5) g20 236 8 rfl
    refine wk_n ?_
    refine wi_aload_n (i := 0) (x := 236) (nx := 22) (r1 := 0) (r2 := 0) (r3 := 0) rfl rfl ?_
    refine wr_V (k0 := 236) (rest := []) (as := [.ref 236]) (nx := 25) (r1 := 219) (r2 := 0) (r3 := 11) rfl rfl rfl (of_decide_eq_true rfl) rfl rfl (by decide) rfl rfl (of_decide_eq_true rfl) (of_decide_eq_true rfl) ?_
    refine wi_aload_n (i := 0) (x := 236) (nx := 1) (r1 := 0) (r2 := 0) (r3 := 0) rfl rfl ?_
    refine wr_gi0 (k0 := 236) (x := h20 236 8) (nx := 4) (r1 := 11) (r2 := 8) (r3 := 0) rfl rfl (by decide) rfl ⟨rfl, rfl⟩ rfl rfl ?_
    refine wi_if (cd := .ne) (nx := 7) (r1 := 11) (r2 := 0) (r3 := 0) rfl (by omega) (fun (q24 : (h20 236 8) ≠ 0) => ?_) (fun (q24 : ¬ ((h20 236 8) ≠ 0)) => ?_)
    ·
      refine wi_iconst (n := 0) (nx := 12) (r1 := 0) (r2 := 0) (r3 := 0) rfl ?_
      refine wi_zreturn (nx := 13) (r1 := 0) (r2 := 0) (r3 := 0) rfl rfl (by omega) ?_
      refine wk_i ?_
      refine wi_if (cd := .eq) (nx := 28) (r1 := 41) (r2 := 0) (r3 := 0) rfl (by omega) (fun (q25 : 0 = 0) => ?_) (fun (q25 : ¬ (0 = 0)) => by exfalso; omega)
      refine wi_aload_n (i := 0) (x := 236) (nx := 42) (r1 := 0) (r2 := 0) (r3 := 0) rfl rfl ?_
      refine wr_V (k0 := 236) (rest := []) (as := [.ref 236]) (nx := 45) (r1 := 219) (r2 := 0) (r3 := 11) rfl rfl rfl (of_decide_eq_true rfl) rfl rfl (by decide) rfl rfl (of_decide_eq_true rfl) (of_decide_eq_true rfl) ?_
      refine wi_aload_n (i := 0) (x := 236) (nx := 1) (r1 := 0) (r2 := 0) (r3 := 0) rfl rfl ?_
      refine wr_gi0 (k0 := 236) (x := h20 236 8) (nx := 4) (r1 := 11) (r2 := 8) (r3 := 0) rfl rfl (by decide) rfl ⟨rfl, rfl⟩ rfl rfl ?_
      refine wi_if (cd := .ne) (nx := 7) (r1 := 11) (r2 := 0) (r3 := 0) rfl (by omega) (fun (q26 : (h20 236 8) ≠ 0) => ?_) (fun (q26 : ¬ ((h20 236 8) ≠ 0)) => by exfalso; omega)
      refine wi_iconst (n := 0) (nx := 12) (r1 := 0) (r2 := 0) (r3 := 0) rfl ?_
      refine wi_zreturn (nx := 13) (r1 := 0) (r2 := 0) (r3 := 0) rfl rfl (by omega) ?_
      refine wk_i ?_
      refine wi_if (cd := .ne) (nx := 48) (r1 := 49) (r2 := 0) (r3 := 0) rfl (by omega) (fun (q27 : 0 ≠ 0) => by exfalso; omega) (fun (q27 : ¬ (0 ≠ 0)) => ?_)
      refine wi_return (nx := 49) (r1 := 0) (r2 := 0) (r3 := 0) rfl rfl ?_
      have e28 : h20 236 4 = h14 236 4 := (u20 236 4 rfl)
      have e29 : h20 239 5 = h 239 5 := ((u20 239 5 rfl).trans (u14 239 5 rfl))
      have e30 : h20 239 7 = h 239 7 := ((u20 239 7 rfl).trans (u14 239 7 rfl))
      have e31 : h20 239 15 = h 239 15 := ((u20 239 15 rfl).trans (u14 239 15 rfl))
      have e32 : h20 239 16 = h 239 16 := ((u20 239 16 rfl).trans (u14 239 16 rfl))
      have e33 : h20 239 17 = h 239 17 := ((u20 239 17 rfl).trans (u14 239 17 rfl))
      have e34 : h20 239 18 = h 239 18 := ((u20 239 18 rfl).trans (u14 239 18 rfl))
      exact k h20 g20 F21 (show (h 236 4) ≤ (h20 236 4) by omega) (show (h20 236 4) ≤ (h 236 3) by omega) (show 1 ≤ (h20 236 8) ∨ ((h20 239 5) ≤ 9 ∧ 1 ≤ (h20 239 5) ∧ (h20 239 7) ≤ 3 ∧ (h20 239 15) ≤ 6 ∧ (h20 239 16) ≤ 6 ∧ (h20 239 17) ≤ 6 ∧ (h20 239 18) ≤ 6) by omega)
    ·
      refine wi_iconst (n := 1) (nx := 8) (r1 := 0) (r2 := 0) (r3 := 0) rfl ?_
      refine wi_goto (nx := 11) (r1 := 12) (r2 := 0) (r3 := 0) rfl ?_
      refine wi_zreturn (nx := 13) (r1 := 0) (r2 := 0) (r3 := 0) rfl rfl (by omega) ?_
      refine wk_i ?_
      refine wi_if (cd := .eq) (nx := 28) (r1 := 41) (r2 := 0) (r3 := 0) rfl (by omega) (fun (q25 : 1 = 0) => by exfalso; omega) (fun (q25 : ¬ (1 = 0)) => ?_)
      refine wi_aload_n (i := 0) (x := 236) (nx := 29) (r1 := 0) (r2 := 0) (r3 := 0) rfl rfl ?_
      refine wr_V (k0 := 236) (rest := []) (as := [.ref 236]) (nx := 32) (r1 := 227) (r2 := 0) (r3 := 11) rfl rfl rfl (of_decide_eq_true rfl) rfl rfl (by decide) rfl rfl (of_decide_eq_true rfl) (of_decide_eq_true rfl) ?_
      refine ct_227_236 hcr  g20    (fun z27  (fz27 : 0 ≤ z27 ∧ z27 ≤ 5) (p26_0 : z27 ≤ (h20 239 0)) => ?_)
      have e28 : h20 239 0 = h 239 0 := ((u20 239 0 rfl).trans (u14 239 0 rfl))
      refine wk_i ?_
      refine wi_iload_n (i := 1) (e := h 239 0) (nx := 33) (r1 := 0) (r2 := 0) (r3 := 0) rfl rfl ?_
      refine wi_icmp (cd := .ge) (nx := 36) (r1 := 41) (r2 := 0) (r3 := 0) rfl (by omega) (by omega) (fun (q29 : (h 239 0) ≤ z27) => ?_) (fun (q29 : ¬ ((h 239 0) ≤ z27)) => ?_)
      ·
        refine wi_aload_n (i := 0) (x := 236) (nx := 42) (r1 := 0) (r2 := 0) (r3 := 0) rfl rfl ?_
        refine wr_V (k0 := 236) (rest := []) (as := [.ref 236]) (nx := 45) (r1 := 219) (r2 := 0) (r3 := 11) rfl rfl rfl (of_decide_eq_true rfl) rfl rfl (by decide) rfl rfl (of_decide_eq_true rfl) (of_decide_eq_true rfl) ?_
        refine wi_aload_n (i := 0) (x := 236) (nx := 1) (r1 := 0) (r2 := 0) (r3 := 0) rfl rfl ?_
        refine wr_gi0 (k0 := 236) (x := h20 236 8) (nx := 4) (r1 := 11) (r2 := 8) (r3 := 0) rfl rfl (by decide) rfl ⟨rfl, rfl⟩ rfl rfl ?_
        refine wi_if (cd := .ne) (nx := 7) (r1 := 11) (r2 := 0) (r3 := 0) rfl (by omega) (fun (q30 : (h20 236 8) ≠ 0) => by exfalso; omega) (fun (q30 : ¬ ((h20 236 8) ≠ 0)) => ?_)
        refine wi_iconst (n := 1) (nx := 8) (r1 := 0) (r2 := 0) (r3 := 0) rfl ?_
        refine wi_goto (nx := 11) (r1 := 12) (r2 := 0) (r3 := 0) rfl ?_
        refine wi_zreturn (nx := 13) (r1 := 0) (r2 := 0) (r3 := 0) rfl rfl (by omega) ?_
        refine wk_i ?_
        refine wi_if (cd := .ne) (nx := 48) (r1 := 49) (r2 := 0) (r3 := 0) rfl (by omega) (fun (q31 : 1 ≠ 0) => ?_) (fun (q31 : ¬ (1 ≠ 0)) => by exfalso; omega)
        refine wi_aload_n (i := 0) (x := 236) (nx := 50) (r1 := 0) (r2 := 0) (r3 := 0) rfl rfl ?_
        refine wr_gr (k0 := 236) (x := 244) (nx := 53) (r1 := 11) (r2 := 19) (r3 := 0) rfl rfl (by decide) rfl ⟨rfl, rfl⟩ rfl ?_
        refine wi_iload_n (i := 1) (e := h 239 0) (nx := 54) (r1 := 0) (r2 := 0) (r3 := 0) rfl rfl ?_
        refine wi_aload_n (i := 0) (x := 236) (nx := 55) (r1 := 0) (r2 := 0) (r3 := 0) rfl rfl ?_
        have b32 := gi_b (lo := -9223372036854775808) (hi := 9223372036854775807) g14 236 12 rfl
        refine wr_gi1 (k0 := 236) (x := h14 236 12) (nx := 58) (r1 := 11) (r2 := 12) (r3 := 0) rfl rfl (by decide) rfl ⟨rfl, rfl⟩ rfl (u20 236 12 rfl) ?_
        obtain ⟨i33, ei33⟩ : ∃ q : Nat, (h 239 0) = (q : Int) := ⟨(h 239 0).toNat, by omega⟩
        refine wr_ls (k0 := 244) (a := h 239 0) (f := i33) (x := h14 236 12) (bl := -9223372036854775808) (bh := 9223372036854775807) (nx := 59) (r1 := 0) (r2 := 0) (r3 := 0) rfl (by decide) rfl (by omega) (by omega) (by decide) g20 rfl (by omega) (fun h34 g34 w34 u34 => ?_)
        have F35 := F21.then rfl (FR.rngp (lo := 244) (hi := 244) u34 (by decide))
        refine wi_aload_n (i := 0) (x := 236) (nx := 60) (r1 := 0) (r2 := 0) (r3 := 0) rfl rfl ?_
        refine wr_V (k0 := 236) (rest := []) (as := [.ref 236]) (nx := 63) (r1 := 215) (r2 := 0) (r3 := 11) rfl rfl rfl (of_decide_eq_true rfl) rfl rfl (by decide) rfl rfl (of_decide_eq_true rfl) (of_decide_eq_true rfl) ?_
        have e37 : h34 236 4 = h14 236 4 := ((u34 236 4 (fn_a (by omega) fn_0)).trans (u20 236 4 rfl))
        have e38 : h34 236 3 = h 236 3 := ((u34 236 3 (fn_a (by omega) fn_0)).trans ((u20 236 3 rfl).trans (u14 236 3 rfl)))
        refine ct_215_236 hcr  g34   (show (h34 236 4) ≤ (h34 236 3) by omega) (fun h36 g36 u36 (p36_0 : (h34 236 4) ≤ (h36 236 4)) (p36_1 : (h36 236 4) ≤ (h34 236 3)) (p36_2 : (h36 236 6) = 0 ∨ (h34 236 4) + 1 ≤ (h36 236 4)) => ?_)
        have F39 := F35.then (by decide +kernel) u36
        have b40 := gi_b (lo := 0) (hi := 800) g36 236 4 rfl
        have b41 := gi_b (lo := 0) (hi := 4) g36 236 6 rfl
        refine wk_n ?_
        refine wi_aload_n (i := 0) (x := 236) (nx := 64) (r1 := 0) (r2 := 0) (r3 := 0) rfl rfl ?_
        refine wr_gr (k0 := 236) (x := 239) (nx := 67) (r1 := 11) (r2 := 14) (r3 := 0) rfl rfl (by decide) rfl ⟨rfl, rfl⟩ rfl ?_
        refine wi_bipush (n := 10) (nx := 69) (r1 := 0) (r2 := 0) (r3 := 0) rfl (by decide) ?_
        refine wi_iload_n (i := 1) (e := h 239 0) (nx := 70) (r1 := 0) (r2 := 0) (r3 := 0) rfl rfl ?_
        refine wr_add (nx := 71) (r1 := 0) (r2 := 0) (r3 := 0) rfl (fun e42 (fe42 : e42 = 10 + (h 239 0)) => ?_)
        refine wi_aload_n (i := 0) (x := 236) (nx := 72) (r1 := 0) (r2 := 0) (r3 := 0) rfl rfl ?_
        refine wi_ldc2_w (e := 109099237) (nx := 75) (r1 := 109099237) (r2 := 0) (r3 := 0) rfl (by decide) ?_
        refine wi_iconst (n := 0) (nx := 76) (r1 := 0) (r2 := 0) (r3 := 0) rfl ?_
        refine wi_bipush (n := 99) (nx := 78) (r1 := 0) (r2 := 0) (r3 := 0) rfl (by decide) ?_
        refine wr_V (k0 := 236) (rest := [vi e42, .ref 239]) (as := [.ref 236, vl 109099237, vi 0, vi 99]) (nx := 81) (r1 := 228) (r2 := 3) (r3 := 11) rfl rfl rfl (of_decide_eq_true rfl) rfl rfl (by decide) rfl rfl (of_decide_eq_true rfl) (of_decide_eq_true rfl) ?_
        have e44 : h36 236 3 = h 236 3 := ((u36 236 3 rfl).trans ((u34 236 3 (fn_a (by omega) fn_0)).trans ((u20 236 3 rfl).trans (u14 236 3 rfl))))
        refine ct_228_236 hcr  g36 109099237 0 99 (by omega) (by omega) (by omega) (show (h36 236 4) ≤ (h36 236 3) by omega) (fun h43 z45 g43 u43 (fz45 : 0 ≤ z45 ∧ z45 ≤ 999) (p43_0 : (h36 236 4) ≤ (h43 236 4)) (p43_1 : (h43 236 4) ≤ (h36 236 3)) (p43_2 : 1 ≤ (h43 236 8) ∨ (h36 236 8) = 0) (p43_3 : 1 ≤ (h43 236 8) ∨ (0 ≤ z45 ∧ z45 ≤ 99)) => ?_)
        have F46 := F39.then (by decide +kernel) u43
        have b47 := gi_b (lo := 0) (hi := 800) g43 236 4 rfl
        have e48 : h36 236 8 = h20 236 8 := ((u36 236 8 rfl).trans (u34 236 8 (fn_a (by omega) fn_0)))
        have b49 := gi_b (lo := 0) (hi := 5) g43 236 8 rfl
        refine wk_i ?_
        obtain ⟨i50, ei50⟩ : ∃ q : Nat, e42 = (q : Int) := ⟨(e42).toNat, by omega⟩
        refine wr_is (k0 := 239) (a := e42) (f := i50) (x := z45) (bl := 0) (bh := 999) (nx := 82) (r1 := 0) (r2 := 0) (r3 := 0) rfl (by decide) rfl (by omega) (by omega) (by decide) g43 (gi_rq 10 5 (fun _ => rfl) (by decide +kernel) (by omega)) (by omega) (fun h51 g51 w51 u51 => ?_)
        have F52 := F46.then rfl (FR.idx (p := 10) (q := 14) u51 (by omega))
        refine wi_aload_n (i := 0) (x := 236) (nx := 83) (r1 := 0) (r2 := 0) (r3 := 0) rfl rfl ?_
        refine wr_V (k0 := 236) (rest := []) (as := [.ref 236]) (nx := 86) (r1 := 219) (r2 := 0) (r3 := 11) rfl rfl rfl (of_decide_eq_true rfl) rfl rfl (by decide) rfl rfl (of_decide_eq_true rfl) (of_decide_eq_true rfl) ?_
        refine wi_aload_n (i := 0) (x := 236) (nx := 1) (r1 := 0) (r2 := 0) (r3 := 0) rfl rfl ?_
        refine wr_gi0 (k0 := 236) (x := h43 236 8) (nx := 4) (r1 := 11) (r2 := 8) (r3 := 0) rfl rfl (by decide) rfl ⟨rfl, rfl⟩ rfl (u51 236 8 (fn_a (by omega) fn_0)) ?_
        refine wi_if (cd := .ne) (nx := 7) (r1 := 11) (r2 := 0) (r3 := 0) rfl (by omega) (fun (q53 : (h43 236 8) ≠ 0) => ?_) (fun (q53 : ¬ ((h43 236 8) ≠ 0)) => ?_)
        ·
          refine wi_iconst (n := 0) (nx := 12) (r1 := 0) (r2 := 0) (r3 := 0) rfl ?_
          refine wi_zreturn (nx := 13) (r1 := 0) (r2 := 0) (r3 := 0) rfl rfl (by omega) ?_
          refine wk_i ?_
          refine wi_if (cd := .eq) (nx := 89) (r1 := 99) (r2 := 0) (r3 := 0) rfl (by omega) (fun (q54 : 0 = 0) => ?_) (fun (q54 : ¬ (0 = 0)) => by exfalso; omega)
          refine wi_return (nx := 100) (r1 := 0) (r2 := 0) (r3 := 0) rfl rfl ?_
          have e55 : h51 236 4 = h43 236 4 := (u51 236 4 (fn_a (by omega) fn_0))
          have e56 : h51 236 8 = h43 236 8 := (u51 236 8 (fn_a (by omega) fn_0))
          have e57 : h51 239 5 = h 239 5 := ((u51 239 5 (fn_i (by omega) fn_0)).trans ((u43 239 5 rfl).trans ((u36 239 5 rfl).trans ((u34 239 5 (fn_a (by omega) fn_0)).trans ((u20 239 5 rfl).trans (u14 239 5 rfl))))))
          have e58 : h51 239 7 = h 239 7 := ((u51 239 7 (fn_i (by omega) fn_0)).trans ((u43 239 7 rfl).trans ((u36 239 7 rfl).trans ((u34 239 7 (fn_a (by omega) fn_0)).trans ((u20 239 7 rfl).trans (u14 239 7 rfl))))))
          have e59 : h51 239 15 = h 239 15 := ((u51 239 15 (fn_i (by omega) fn_0)).trans ((u43 239 15 rfl).trans ((u36 239 15 rfl).trans ((u34 239 15 (fn_a (by omega) fn_0)).trans ((u20 239 15 rfl).trans (u14 239 15 rfl))))))
          have e60 : h51 239 16 = h 239 16 := ((u51 239 16 (fn_i (by omega) fn_0)).trans ((u43 239 16 rfl).trans ((u36 239 16 rfl).trans ((u34 239 16 (fn_a (by omega) fn_0)).trans ((u20 239 16 rfl).trans (u14 239 16 rfl))))))
          have e61 : h51 239 17 = h 239 17 := ((u51 239 17 (fn_i (by omega) fn_0)).trans ((u43 239 17 rfl).trans ((u36 239 17 rfl).trans ((u34 239 17 (fn_a (by omega) fn_0)).trans ((u20 239 17 rfl).trans (u14 239 17 rfl))))))
          have e62 : h51 239 18 = h 239 18 := ((u51 239 18 (fn_i (by omega) fn_0)).trans ((u43 239 18 rfl).trans ((u36 239 18 rfl).trans ((u34 239 18 (fn_a (by omega) fn_0)).trans ((u20 239 18 rfl).trans (u14 239 18 rfl))))))
          exact k h51 g51 F52 (show (h 236 4) ≤ (h51 236 4) by omega) (show (h51 236 4) ≤ (h 236 3) by omega) (show 1 ≤ (h51 236 8) ∨ ((h51 239 5) ≤ 9 ∧ 1 ≤ (h51 239 5) ∧ (h51 239 7) ≤ 3 ∧ (h51 239 15) ≤ 6 ∧ (h51 239 16) ≤ 6 ∧ (h51 239 17) ≤ 6 ∧ (h51 239 18) ≤ 6) by omega)
        ·
          refine wi_iconst (n := 1) (nx := 8) (r1 := 0) (r2 := 0) (r3 := 0) rfl ?_
          refine wi_goto (nx := 11) (r1 := 12) (r2 := 0) (r3 := 0) rfl ?_
          refine wi_zreturn (nx := 13) (r1 := 0) (r2 := 0) (r3 := 0) rfl rfl (by omega) ?_
          refine wk_i ?_
          refine wi_if (cd := .eq) (nx := 89) (r1 := 99) (r2 := 0) (r3 := 0) rfl (by omega) (fun (q54 : 1 = 0) => by exfalso; omega) (fun (q54 : ¬ (1 = 0)) => ?_)
          refine wi_aload_n (i := 0) (x := 236) (nx := 90) (r1 := 0) (r2 := 0) (r3 := 0) rfl rfl ?_
          refine wr_gr (k0 := 236) (x := 239) (nx := 93) (r1 := 11) (r2 := 14) (r3 := 0) rfl rfl (by decide) rfl ⟨rfl, rfl⟩ rfl ?_
          refine wi_iconst (n := 0) (nx := 94) (r1 := 0) (r2 := 0) (r3 := 0) rfl ?_
          refine wi_dup2 (nx := 95) (r1 := 0) (r2 := 0) (r3 := 0) rfl rfl rfl ?_
          refine wr_ia (k0 := 239) (a := 0) (f := 0) (x := h 239 0) (nx := 96) (r1 := 0) (r2 := 0) (r3 := 0) rfl (by decide) rfl (by omega) (by omega) (by decide) ((u51 239 0 (fn_i (by omega) fn_0)).trans ((u43 239 0 rfl).trans ((u36 239 0 rfl).trans ((u34 239 0 (fn_a (by omega) fn_0)).trans ((u20 239 0 rfl).trans (u14 239 0 rfl)))))) ?_
          refine wi_iconst (n := 1) (nx := 97) (r1 := 0) (r2 := 0) (r3 := 0) rfl ?_
          refine wr_add (nx := 98) (r1 := 0) (r2 := 0) (r3 := 0) rfl (fun e55 (fe55 : e55 = (h 239 0) + 1) => ?_)
          refine wr_is (k0 := 239) (a := 0) (f := 0) (x := e55) (bl := 0) (bh := 5) (nx := 99) (r1 := 0) (r2 := 0) (r3 := 0) rfl (by decide) rfl (by omega) (by omega) (by decide) g51 rfl (by omega) (fun h56 g56 w56 u56 => ?_)
          have F57 := F52.then rfl u56
          refine wi_return (nx := 100) (r1 := 0) (r2 := 0) (r3 := 0) rfl rfl ?_
          have e58 : h56 236 4 = h43 236 4 := ((u56 236 4 rfl).trans (u51 236 4 (fn_a (by omega) fn_0)))
          have e59 : h56 236 8 = h43 236 8 := ((u56 236 8 rfl).trans (u51 236 8 (fn_a (by omega) fn_0)))
          have e60 : h56 239 5 = h 239 5 := ((u56 239 5 rfl).trans ((u51 239 5 (fn_i (by omega) fn_0)).trans ((u43 239 5 rfl).trans ((u36 239 5 rfl).trans ((u34 239 5 (fn_a (by omega) fn_0)).trans ((u20 239 5 rfl).trans (u14 239 5 rfl)))))))
          have e61 : h56 239 7 = h 239 7 := ((u56 239 7 rfl).trans ((u51 239 7 (fn_i (by omega) fn_0)).trans ((u43 239 7 rfl).trans ((u36 239 7 rfl).trans ((u34 239 7 (fn_a (by omega) fn_0)).trans ((u20 239 7 rfl).trans (u14 239 7 rfl)))))))
          have e62 : h56 239 15 = h 239 15 := ((u56 239 15 rfl).trans ((u51 239 15 (fn_i (by omega) fn_0)).trans ((u43 239 15 rfl).trans ((u36 239 15 rfl).trans ((u34 239 15 (fn_a (by omega) fn_0)).trans ((u20 239 15 rfl).trans (u14 239 15 rfl)))))))
          have e63 : h56 239 16 = h 239 16 := ((u56 239 16 rfl).trans ((u51 239 16 (fn_i (by omega) fn_0)).trans ((u43 239 16 rfl).trans ((u36 239 16 rfl).trans ((u34 239 16 (fn_a (by omega) fn_0)).trans ((u20 239 16 rfl).trans (u14 239 16 rfl)))))))
          have e64 : h56 239 17 = h 239 17 := ((u56 239 17 rfl).trans ((u51 239 17 (fn_i (by omega) fn_0)).trans ((u43 239 17 rfl).trans ((u36 239 17 rfl).trans ((u34 239 17 (fn_a (by omega) fn_0)).trans ((u20 239 17 rfl).trans (u14 239 17 rfl)))))))
          have e65 : h56 239 18 = h 239 18 := ((u56 239 18 rfl).trans ((u51 239 18 (fn_i (by omega) fn_0)).trans ((u43 239 18 rfl).trans ((u36 239 18 rfl).trans ((u34 239 18 (fn_a (by omega) fn_0)).trans ((u20 239 18 rfl).trans (u14 239 18 rfl)))))))
          exact k h56 g56 F57 (show (h 236 4) ≤ (h56 236 4) by omega) (show (h56 236 4) ≤ (h 236 3) by omega) (show 1 ≤ (h56 236 8) ∨ ((h56 239 5) ≤ 9 ∧ 1 ≤ (h56 239 5) ∧ (h56 239 7) ≤ 3 ∧ (h56 239 15) ≤ 6 ∧ (h56 239 16) ≤ 6 ∧ (h56 239 17) ≤ 6 ∧ (h56 239 18) ≤ 6) by omega)
      ·
        refine wi_aload_n (i := 0) (x := 236) (nx := 37) (r1 := 0) (r2 := 0) (r3 := 0) rfl rfl ?_
        refine wi_iconst (n := 3) (nx := 38) (r1 := 0) (r2 := 0) (r3 := 0) rfl ?_
        refine wr_V (k0 := 236) (rest := []) (as := [.ref 236, vi 3]) (nx := 41) (r1 := 224) (r2 := 1) (r3 := 11) rfl rfl rfl (of_decide_eq_true rfl) rfl rfl (by decide) rfl rfl (of_decide_eq_true rfl) (of_decide_eq_true rfl) ?_
        refine ct_224_236 hcr  g20 3 (by omega)  (fun h30 g30 u30 (p30_0 : 1 ≤ (h30 236 8)) => ?_)
        have F31 := F21.then (by decide +kernel) u30
        have b32 := gi_b (lo := 0) (hi := 5) g30 236 8 rfl
        refine wk_n ?_
        refine wi_aload_n (i := 0) (x := 236) (nx := 42) (r1 := 0) (r2 := 0) (r3 := 0) rfl rfl ?_
        refine wr_V (k0 := 236) (rest := []) (as := [.ref 236]) (nx := 45) (r1 := 219) (r2 := 0) (r3 := 11) rfl rfl rfl (of_decide_eq_true rfl) rfl rfl (by decide) rfl rfl (of_decide_eq_true rfl) (of_decide_eq_true rfl) ?_
        refine wi_aload_n (i := 0) (x := 236) (nx := 1) (r1 := 0) (r2 := 0) (r3 := 0) rfl rfl ?_
        refine wr_gi0 (k0 := 236) (x := h30 236 8) (nx := 4) (r1 := 11) (r2 := 8) (r3 := 0) rfl rfl (by decide) rfl ⟨rfl, rfl⟩ rfl rfl ?_
        refine wi_if (cd := .ne) (nx := 7) (r1 := 11) (r2 := 0) (r3 := 0) rfl (by omega) (fun (q33 : (h30 236 8) ≠ 0) => ?_) (fun (q33 : ¬ ((h30 236 8) ≠ 0)) => by exfalso; omega)
        refine wi_iconst (n := 0) (nx := 12) (r1 := 0) (r2 := 0) (r3 := 0) rfl ?_
        refine wi_zreturn (nx := 13) (r1 := 0) (r2 := 0) (r3 := 0) rfl rfl (by omega) ?_
        refine wk_i ?_
        refine wi_if (cd := .ne) (nx := 48) (r1 := 49) (r2 := 0) (r3 := 0) rfl (by omega) (fun (q34 : 0 ≠ 0) => by exfalso; omega) (fun (q34 : ¬ (0 ≠ 0)) => ?_)
        refine wi_return (nx := 49) (r1 := 0) (r2 := 0) (r3 := 0) rfl rfl ?_
        have e35 : h30 236 4 = h14 236 4 := ((u30 236 4 rfl).trans (u20 236 4 rfl))
        have e36 : h30 239 5 = h 239 5 := ((u30 239 5 rfl).trans ((u20 239 5 rfl).trans (u14 239 5 rfl)))
        have e37 : h30 239 7 = h 239 7 := ((u30 239 7 rfl).trans ((u20 239 7 rfl).trans (u14 239 7 rfl)))
        have e38 : h30 239 15 = h 239 15 := ((u30 239 15 rfl).trans ((u20 239 15 rfl).trans (u14 239 15 rfl)))
        have e39 : h30 239 16 = h 239 16 := ((u30 239 16 rfl).trans ((u20 239 16 rfl).trans (u14 239 16 rfl)))
        have e40 : h30 239 17 = h 239 17 := ((u30 239 17 rfl).trans ((u20 239 17 rfl).trans (u14 239 17 rfl)))
        have e41 : h30 239 18 = h 239 18 := ((u30 239 18 rfl).trans ((u20 239 18 rfl).trans (u14 239 18 rfl)))
        exact k h30 g30 F31 (show (h 236 4) ≤ (h30 236 4) by omega) (show (h30 236 4) ≤ (h 236 3) by omega) (show 1 ≤ (h30 236 8) ∨ ((h30 239 5) ≤ 9 ∧ 1 ≤ (h30 239 5) ∧ (h30 239 7) ≤ 3 ∧ (h30 239 15) ≤ 6 ∧ (h30 239 16) ≤ 6 ∧ (h30 239 17) ≤ 6 ∧ (h30 239 18) ≤ 6) by omega)
  ·
    refine wi_aload_n (i := 0) (x := 236) (nx := 11) (r1 := 0) (r2 := 0) (r3 := 0) rfl rfl ?_
    refine wi_iconst (n := 5) (nx := 12) (r1 := 0) (r2 := 0) (r3 := 0) rfl ?_
    refine wr_V (k0 := 236) (rest := []) (as := [.ref 236, vi 5]) (nx := 15) (r1 := 224) (r2 := 1) (r3 := 11) rfl rfl rfl (of_decide_eq_true rfl) rfl rfl (by decide) rfl rfl (of_decide_eq_true rfl) (of_decide_eq_true rfl) ?_
    refine ct_224_236 hcr  g 5 (by omega)  (fun h12 g12 u12 (p12_0 : 1 ≤ (h12 236 8)) => ?_)
    have F13 := F0.then (by decide +kernel) u12
    have b14 := gi_b (lo := 0) (hi := 5) g12 236 8 rfl
    refine wk_n ?_
    refine wi_aload_n (i := 0) (x := 236) (nx := 16) (r1 := 0) (r2 := 0) (r3 := 0) rfl rfl ?_
    refine wr_V (k0 := 236) (rest := []) (as := [.ref 236]) (nx := 19) (r1 := 219) (r2 := 0) (r3 := 11) rfl rfl rfl (of_decide_eq_true rfl) rfl rfl (by decide) rfl rfl (of_decide_eq_true rfl) (of_decide_eq_true rfl) ?_
    refine wi_aload_n (i := 0) (x := 236) (nx := 1) (r1 := 0) (r2 := 0) (r3 := 0) rfl rfl ?_
    refine wr_gi0 (k0 := 236) (x := h12 236 8) (nx := 4) (r1 := 11) (r2 := 8) (r3 := 0) rfl rfl (by decide) rfl ⟨rfl, rfl⟩ rfl rfl ?_
    refine wi_if (cd := .ne) (nx := 7) (r1 := 11) (r2 := 0) (r3 := 0) rfl (by omega) (fun (q15 : (h12 236 8) ≠ 0) => ?_) (fun (q15 : ¬ ((h12 236 8) ≠ 0)) => by exfalso; omega)
    refine wi_iconst (n := 0) (nx := 12) (r1 := 0) (r2 := 0) (r3 := 0) rfl ?_
    refine wi_zreturn (nx := 13) (r1 := 0) (r2 := 0) (r3 := 0) rfl rfl (by omega) ?_
    refine wk_i ?_
    refine wi_if (cd := .eq) (nx := 22) (r1 := 26) (r2 := 0) (r3 := 0) rfl (by omega) (fun (q16 : 0 = 0) => ?_) (fun (q16 : ¬ (0 = 0)) => by exfalso; omega)
    refine wi_aload_n (i := 0) (x := 236) (nx := 27) (r1 := 0) (r2 := 0) (r3 := 0) rfl rfl ?_
    refine wr_V (k0 := 236) (rest := []) (as := [.ref 236]) (nx := 30) (r1 := 219) (r2 := 0) (r3 := 11) rfl rfl rfl (of_decide_eq_true rfl) rfl rfl (by decide) rfl rfl (of_decide_eq_true rfl) (of_decide_eq_true rfl) ?_
    refine wi_aload_n (i := 0) (x := 236) (nx := 1) (r1 := 0) (r2 := 0) (r3 := 0) rfl rfl ?_
    refine wr_gi0 (k0 := 236) (x := h12 236 8) (nx := 4) (r1 := 11) (r2 := 8) (r3 := 0) rfl rfl (by decide) rfl ⟨rfl, rfl⟩ rfl rfl ?_
    refine wi_if (cd := .ne) (nx := 7) (r1 := 11) (r2 := 0) (r3 := 0) rfl (by omega) (fun (q17 : (h12 236 8) ≠ 0) => ?_) (fun (q17 : ¬ ((h12 236 8) ≠ 0)) => by exfalso; omega)
    refine wi_iconst (n := 0) (nx := 12) (r1 := 0) (r2 := 0) (r3 := 0) rfl ?_
    refine wi_zreturn (nx := 13) (r1 := 0) (r2 := 0) (r3 := 0) rfl rfl (by omega) ?_
    refine wk_i ?_
    refine wi_zreturn (nx := 31) (r1 := 0) (r2 := 0) (r3 := 0) rfl rfl (by omega) ?_
    refine wk_i ?_
    refine wi_if (cd := .ne) (nx := 16) (r1 := 17) (r2 := 0) (r3 := 0) rfl (by omega) (fun (q18 : 0 ≠ 0) => by exfalso; omega) (fun (q18 : ¬ (0 ≠ 0)) => ?_)
    refine wi_return (nx := 17) (r1 := 0) (r2 := 0) (r3 := 0) rfl rfl ?_
    have e19 : h12 236 4 = h 236 4 := (u12 236 4 rfl)
    have e20 : h12 239 5 = h 239 5 := (u12 239 5 rfl)
    have e21 : h12 239 7 = h 239 7 := (u12 239 7 rfl)
    have e22 : h12 239 15 = h 239 15 := (u12 239 15 rfl)
    have e23 : h12 239 16 = h 239 16 := (u12 239 16 rfl)
    have e24 : h12 239 17 = h 239 17 := (u12 239 17 rfl)
    have e25 : h12 239 18 = h 239 18 := (u12 239 18 rfl)
    exact k h12 g12 F13 (show (h 236 4) ≤ (h12 236 4) by omega) (show (h12 236 4) ≤ (h 236 3) by omega) (show 1 ≤ (h12 236 8) ∨ ((h12 239 5) ≤ 9 ∧ 1 ≤ (h12 239 5) ∧ (h12 239 7) ≤ 3 ∧ (h12 239 15) ≤ 6 ∧ (h12 239 16) ≤ 6 ∧ (h12 239 17) ≤ 6 ∧ (h12 239 18) ≤ 6) by omega)
-- method 220: Model.statement()V
set_option maxRecDepth 100000 in
set_option maxHeartbeats 100000000 in
theorem ct_220_236 {L : Nat} {xs : Nat → Int32} {d b c : Nat} {h : hp} {cr : Nat → Nat → Option Nat} {Q : hp_Q} (hcr : CR cr)  (g : GI h)   (pp0 : h 236 4 ≤ h 236 3) (pp1 : h 236 8 = 0) (pp2 : h 239 5 ≤ 9) (pp3 : 1 ≤ h 239 5) (pp4 : h 239 7 ≤ 3) (pp5 : h 239 15 ≤ 6) (pp6 : h 239 16 ≤ 6) (pp7 : h 239 17 ≤ 6) (pp8 : h 239 18 ≤ 6) (k : ∀ (h2 : hp) , GI h2 → FR [(244, 244, none), (236, 236, some (4, 4)), (236, 236, some (5, 5)), (236, 236, some (6, 6)), (236, 236, some (7, 7)), (236, 236, some (8, 8)), (236, 236, some (9, 9)), (236, 236, some (12, 12)), (236, 236, some (23, 23)), (236, 236, some (24, 24)), (236, 236, some (25, 25)), (236, 236, some (26, 26)), (239, 239, some (0, 0)), (239, 239, some (1, 1)), (239, 239, some (2, 2)), (239, 239, some (3, 3)), (239, 239, some (4, 4)), (239, 239, some (5, 5)), (239, 239, some (6, 6)), (239, 239, some (7, 7)), (239, 239, some (8, 8)), (239, 239, some (9, 9)), (239, 239, some (10, 14)), (239, 239, some (15, 15)), (239, 239, some (16, 16)), (239, 239, some (17, 17)), (239, 239, some (18, 18)), (239, 239, some (19, 30)), (239, 239, some (31, 42)), (239, 239, some (43, 54))] h h2 → (h 236 4 ≤ h2 236 4) → (h2 236 4 ≤ h 236 3) → (1 ≤ h2 236 8 ∨ (h2 239 5 ≤ 9 ∧ 1 ≤ h2 239 5 ∧ h2 239 7 ≤ 3 ∧ h2 239 15 ≤ 6 ∧ h2 239 16 ≤ 6 ∧ h2 239 17 ≤ 6 ∧ h2 239 18 ≤ 6)) → Q (.inl none) (hp_w h2 cr) b c) : wp (md_xa (L, xs)) (d + 6) 220 (0, [(0, .ref 236)], [], hp_w h cr, b, c) Q := by
  have F0 : FR [(244, 244, none), (236, 236, some (4, 4)), (236, 236, some (5, 5)), (236, 236, some (6, 6)), (236, 236, some (7, 7)), (236, 236, some (8, 8)), (236, 236, some (9, 9)), (236, 236, some (12, 12)), (236, 236, some (23, 23)), (236, 236, some (24, 24)), (236, 236, some (25, 25)), (236, 236, some (26, 26)), (239, 239, some (0, 0)), (239, 239, some (1, 1)), (239, 239, some (2, 2)), (239, 239, some (3, 3)), (239, 239, some (4, 4)), (239, 239, some (5, 5)), (239, 239, some (6, 6)), (239, 239, some (7, 7)), (239, 239, some (8, 8)), (239, 239, some (9, 9)), (239, 239, some (10, 14)), (239, 239, some (15, 15)), (239, 239, some (16, 16)), (239, 239, some (17, 17)), (239, 239, some (18, 18)), (239, 239, some (19, 30)), (239, 239, some (31, 42)), (239, 239, some (43, 54))] h h := FR.refl
  have b1 := gi_b (lo := 0) (hi := 800) g 236 4 rfl
  have b2 := gi_b (lo := 0) (hi := 800) g 236 3 rfl
  have b3 := gi_b (lo := 0) (hi := 5) g 236 8 rfl
  have b4 := gi_b (lo := 0) (hi := 999) g 239 5 rfl
  have b5 := gi_b (lo := 0) (hi := 999) g 239 7 rfl
  have b6 := gi_b (lo := 0) (hi := 999) g 239 15 rfl
  have b7 := gi_b (lo := 0) (hi := 999) g 239 16 rfl
  have b8 := gi_b (lo := 0) (hi := 999) g 239 17 rfl
  have b9 := gi_b (lo := 0) (hi := 999) g 239 18 rfl
  refine wi_aload_n (i := 0) (x := 236) (nx := 1) (r1 := 0) (r2 := 0) (r3 := 0) rfl rfl ?_
  refine wi_ldc2_w (e := 3650034) (nx := 4) (r1 := 3650034) (r2 := 0) (r3 := 0) rfl (by decide) ?_
  refine wr_V (k0 := 236) (rest := []) (as := [.ref 236, vl 3650034]) (nx := 7) (r1 := 221) (r2 := 1) (r3 := 11) rfl rfl rfl (of_decide_eq_true rfl) rfl rfl (by decide) rfl rfl (of_decide_eq_true rfl) (of_decide_eq_true rfl) ?_
  refine wi_aload_n (i := 0) (x := 236) (nx := 1) (r1 := 0) (r2 := 0) (r3 := 0) rfl rfl ?_
  refine wr_gi0 (k0 := 236) (x := h 236 8) (nx := 4) (r1 := 11) (r2 := 8) (r3 := 0) rfl rfl (by decide) rfl ⟨rfl, rfl⟩ rfl rfl ?_
  refine wi_if (cd := .ne) (nx := 7) (r1 := 28) (r2 := 0) (r3 := 0) rfl (by omega) (fun (q10 : (h 236 8) ≠ 0) => by exfalso; omega) (fun (q10 : ¬ ((h 236 8) ≠ 0)) => ?_)
  refine wi_aload_n (i := 0) (x := 236) (nx := 8) (r1 := 0) (r2 := 0) (r3 := 0) rfl rfl ?_
  have b11 := gi_b (lo := 0) (hi := 4) g 236 6 rfl
  refine wr_gi0 (k0 := 236) (x := h 236 6) (nx := 11) (r1 := 11) (r2 := 6) (r3 := 0) rfl rfl (by decide) rfl ⟨rfl, rfl⟩ rfl rfl ?_
  refine wi_iconst (n := 1) (nx := 12) (r1 := 0) (r2 := 0) (r3 := 0) rfl ?_
  refine wi_icmp (cd := .ne) (nx := 15) (r1 := 28) (r2 := 0) (r3 := 0) rfl (by omega) (by omega) (fun (q12 : (h 236 6) ≠ 1) => ?_) (fun (q12 : ¬ ((h 236 6) ≠ 1)) => ?_)
  ·
    refine wi_iconst (n := 0) (nx := 29) (r1 := 0) (r2 := 0) (r3 := 0) rfl ?_
    refine wi_zreturn (nx := 30) (r1 := 0) (r2 := 0) (r3 := 0) rfl rfl (by omega) ?_
    refine wk_i ?_
    refine wi_if (cd := .eq) (nx := 10) (r1 := 17) (r2 := 0) (r3 := 0) rfl (by omega) (fun (q13 : 0 = 0) => ?_) (fun (q13 : ¬ (0 = 0)) => by exfalso; omega)
    refine wi_aload_n (i := 0) (x := 236) (nx := 18) (r1 := 0) (r2 := 0) (r3 := 0) rfl rfl ?_
    refine wi_ldc2_w (e := 394693) (nx := 21) (r1 := 394693) (r2 := 0) (r3 := 0) rfl (by decide) ?_
    refine wr_V (k0 := 236) (rest := []) (as := [.ref 236, vl 394693]) (nx := 24) (r1 := 221) (r2 := 1) (r3 := 11) rfl rfl rfl (of_decide_eq_true rfl) rfl rfl (by decide) rfl rfl (of_decide_eq_true rfl) (of_decide_eq_true rfl) ?_
    refine wi_aload_n (i := 0) (x := 236) (nx := 1) (r1 := 0) (r2 := 0) (r3 := 0) rfl rfl ?_
    refine wr_gi0 (k0 := 236) (x := h 236 8) (nx := 4) (r1 := 11) (r2 := 8) (r3 := 0) rfl rfl (by decide) rfl ⟨rfl, rfl⟩ rfl rfl ?_
    refine wi_if (cd := .ne) (nx := 7) (r1 := 28) (r2 := 0) (r3 := 0) rfl (by omega) (fun (q14 : (h 236 8) ≠ 0) => by exfalso; omega) (fun (q14 : ¬ ((h 236 8) ≠ 0)) => ?_)
    refine wi_aload_n (i := 0) (x := 236) (nx := 8) (r1 := 0) (r2 := 0) (r3 := 0) rfl rfl ?_
    refine wr_gi0 (k0 := 236) (x := h 236 6) (nx := 11) (r1 := 11) (r2 := 6) (r3 := 0) rfl rfl (by decide) rfl ⟨rfl, rfl⟩ rfl rfl ?_
    refine wi_iconst (n := 1) (nx := 12) (r1 := 0) (r2 := 0) (r3 := 0) rfl ?_
    refine wi_icmp (cd := .ne) (nx := 15) (r1 := 28) (r2 := 0) (r3 := 0) rfl (by omega) (by omega) (fun (q15 : (h 236 6) ≠ 1) => ?_) (fun (q15 : ¬ ((h 236 6) ≠ 1)) => by exfalso; omega)
    refine wi_iconst (n := 0) (nx := 29) (r1 := 0) (r2 := 0) (r3 := 0) rfl ?_
    refine wi_zreturn (nx := 30) (r1 := 0) (r2 := 0) (r3 := 0) rfl rfl (by omega) ?_
    refine wk_i ?_
    refine wi_if (cd := .eq) (nx := 27) (r1 := 34) (r2 := 0) (r3 := 0) rfl (by omega) (fun (q16 : 0 = 0) => ?_) (fun (q16 : ¬ (0 = 0)) => by exfalso; omega)
    refine wi_aload_n (i := 0) (x := 236) (nx := 35) (r1 := 0) (r2 := 0) (r3 := 0) rfl rfl ?_
    refine wi_ldc2_w (e := 3122) (nx := 38) (r1 := 3122) (r2 := 0) (r3 := 0) rfl (by decide) ?_
    refine wr_V (k0 := 236) (rest := []) (as := [.ref 236, vl 3122]) (nx := 41) (r1 := 221) (r2 := 1) (r3 := 11) rfl rfl rfl (of_decide_eq_true rfl) rfl rfl (by decide) rfl rfl (of_decide_eq_true rfl) (of_decide_eq_true rfl) ?_
    refine wi_aload_n (i := 0) (x := 236) (nx := 1) (r1 := 0) (r2 := 0) (r3 := 0) rfl rfl ?_
    refine wr_gi0 (k0 := 236) (x := h 236 8) (nx := 4) (r1 := 11) (r2 := 8) (r3 := 0) rfl rfl (by decide) rfl ⟨rfl, rfl⟩ rfl rfl ?_
    refine wi_if (cd := .ne) (nx := 7) (r1 := 28) (r2 := 0) (r3 := 0) rfl (by omega) (fun (q17 : (h 236 8) ≠ 0) => by exfalso; omega) (fun (q17 : ¬ ((h 236 8) ≠ 0)) => ?_)
    refine wi_aload_n (i := 0) (x := 236) (nx := 8) (r1 := 0) (r2 := 0) (r3 := 0) rfl rfl ?_
    refine wr_gi0 (k0 := 236) (x := h 236 6) (nx := 11) (r1 := 11) (r2 := 6) (r3 := 0) rfl rfl (by decide) rfl ⟨rfl, rfl⟩ rfl rfl ?_
    refine wi_iconst (n := 1) (nx := 12) (r1 := 0) (r2 := 0) (r3 := 0) rfl ?_
    refine wi_icmp (cd := .ne) (nx := 15) (r1 := 28) (r2 := 0) (r3 := 0) rfl (by omega) (by omega) (fun (q18 : (h 236 6) ≠ 1) => ?_) (fun (q18 : ¬ ((h 236 6) ≠ 1)) => by exfalso; omega)
    refine wi_iconst (n := 0) (nx := 29) (r1 := 0) (r2 := 0) (r3 := 0) rfl ?_
    refine wi_zreturn (nx := 30) (r1 := 0) (r2 := 0) (r3 := 0) rfl rfl (by omega) ?_
    refine wk_i ?_
    refine wi_if (cd := .eq) (nx := 44) (r1 := 51) (r2 := 0) (r3 := 0) rfl (by omega) (fun (q19 : 0 = 0) => ?_) (fun (q19 : ¬ (0 = 0)) => by exfalso; omega)
    refine wi_aload_n (i := 0) (x := 236) (nx := 52) (r1 := 0) (r2 := 0) (r3 := 0) rfl rfl ?_
    refine wi_ldc2_w (e := 781652471) (nx := 55) (r1 := 781652471) (r2 := 0) (r3 := 0) rfl (by decide) ?_
    refine wr_V (k0 := 236) (rest := []) (as := [.ref 236, vl 781652471]) (nx := 58) (r1 := 221) (r2 := 1) (r3 := 11) rfl rfl rfl (of_decide_eq_true rfl) rfl rfl (by decide) rfl rfl (of_decide_eq_true rfl) (of_decide_eq_true rfl) ?_
    refine wi_aload_n (i := 0) (x := 236) (nx := 1) (r1 := 0) (r2 := 0) (r3 := 0) rfl rfl ?_
    refine wr_gi0 (k0 := 236) (x := h 236 8) (nx := 4) (r1 := 11) (r2 := 8) (r3 := 0) rfl rfl (by decide) rfl ⟨rfl, rfl⟩ rfl rfl ?_
    refine wi_if (cd := .ne) (nx := 7) (r1 := 28) (r2 := 0) (r3 := 0) rfl (by omega) (fun (q20 : (h 236 8) ≠ 0) => by exfalso; omega) (fun (q20 : ¬ ((h 236 8) ≠ 0)) => ?_)
    refine wi_aload_n (i := 0) (x := 236) (nx := 8) (r1 := 0) (r2 := 0) (r3 := 0) rfl rfl ?_
    refine wr_gi0 (k0 := 236) (x := h 236 6) (nx := 11) (r1 := 11) (r2 := 6) (r3 := 0) rfl rfl (by decide) rfl ⟨rfl, rfl⟩ rfl rfl ?_
    refine wi_iconst (n := 1) (nx := 12) (r1 := 0) (r2 := 0) (r3 := 0) rfl ?_
    refine wi_icmp (cd := .ne) (nx := 15) (r1 := 28) (r2 := 0) (r3 := 0) rfl (by omega) (by omega) (fun (q21 : (h 236 6) ≠ 1) => ?_) (fun (q21 : ¬ ((h 236 6) ≠ 1)) => by exfalso; omega)
    refine wi_iconst (n := 0) (nx := 29) (r1 := 0) (r2 := 0) (r3 := 0) rfl ?_
    refine wi_zreturn (nx := 30) (r1 := 0) (r2 := 0) (r3 := 0) rfl rfl (by omega) ?_
    refine wk_i ?_
    refine wi_if (cd := .eq) (nx := 61) (r1 := 102) (r2 := 0) (r3 := 0) rfl (by omega) (fun (q22 : 0 = 0) => ?_) (fun (q22 : ¬ (0 = 0)) => by exfalso; omega)
    refine wi_aload_n (i := 0) (x := 236) (nx := 103) (r1 := 0) (r2 := 0) (r3 := 0) rfl rfl ?_
    refine wi_ldc2_w (e := 2150504) (nx := 106) (r1 := 2150504) (r2 := 0) (r3 := 0) rfl (by decide) ?_
    refine wr_V (k0 := 236) (rest := []) (as := [.ref 236, vl 2150504]) (nx := 109) (r1 := 221) (r2 := 1) (r3 := 11) rfl rfl rfl (of_decide_eq_true rfl) rfl rfl (by decide) rfl rfl (of_decide_eq_true rfl) (of_decide_eq_true rfl) ?_
    refine wi_aload_n (i := 0) (x := 236) (nx := 1) (r1 := 0) (r2 := 0) (r3 := 0) rfl rfl ?_
    refine wr_gi0 (k0 := 236) (x := h 236 8) (nx := 4) (r1 := 11) (r2 := 8) (r3 := 0) rfl rfl (by decide) rfl ⟨rfl, rfl⟩ rfl rfl ?_
    refine wi_if (cd := .ne) (nx := 7) (r1 := 28) (r2 := 0) (r3 := 0) rfl (by omega) (fun (q23 : (h 236 8) ≠ 0) => by exfalso; omega) (fun (q23 : ¬ ((h 236 8) ≠ 0)) => ?_)
    refine wi_aload_n (i := 0) (x := 236) (nx := 8) (r1 := 0) (r2 := 0) (r3 := 0) rfl rfl ?_
    refine wr_gi0 (k0 := 236) (x := h 236 6) (nx := 11) (r1 := 11) (r2 := 6) (r3 := 0) rfl rfl (by decide) rfl ⟨rfl, rfl⟩ rfl rfl ?_
    refine wi_iconst (n := 1) (nx := 12) (r1 := 0) (r2 := 0) (r3 := 0) rfl ?_
    refine wi_icmp (cd := .ne) (nx := 15) (r1 := 28) (r2 := 0) (r3 := 0) rfl (by omega) (by omega) (fun (q24 : (h 236 6) ≠ 1) => ?_) (fun (q24 : ¬ ((h 236 6) ≠ 1)) => by exfalso; omega)
    refine wi_iconst (n := 0) (nx := 29) (r1 := 0) (r2 := 0) (r3 := 0) rfl ?_
    refine wi_zreturn (nx := 30) (r1 := 0) (r2 := 0) (r3 := 0) rfl rfl (by omega) ?_
    refine wk_i ?_
    refine wi_if (cd := .eq) (nx := 112) (r1 := 157) (r2 := 0) (r3 := 0) rfl (by omega) (fun (q25 : 0 = 0) => ?_) (fun (q25 : ¬ (0 = 0)) => by exfalso; omega)
    refine wi_aload_n (i := 0) (x := 236) (nx := 158) (r1 := 0) (r2 := 0) (r3 := 0) rfl rfl ?_
    refine wi_ldc2_w (e := 609992267) (nx := 161) (r1 := 609992267) (r2 := 0) (r3 := 0) rfl (by decide) ?_
    refine wr_V (k0 := 236) (rest := []) (as := [.ref 236, vl 609992267]) (nx := 164) (r1 := 221) (r2 := 1) (r3 := 11) rfl rfl rfl (of_decide_eq_true rfl) rfl rfl (by decide) rfl rfl (of_decide_eq_true rfl) (of_decide_eq_true rfl) ?_
    refine wi_aload_n (i := 0) (x := 236) (nx := 1) (r1 := 0) (r2 := 0) (r3 := 0) rfl rfl ?_
    refine wr_gi0 (k0 := 236) (x := h 236 8) (nx := 4) (r1 := 11) (r2 := 8) (r3 := 0) rfl rfl (by decide) rfl ⟨rfl, rfl⟩ rfl rfl ?_
    refine wi_if (cd := .ne) (nx := 7) (r1 := 28) (r2 := 0) (r3 := 0) rfl (by omega) (fun (q26 : (h 236 8) ≠ 0) => by exfalso; omega) (fun (q26 : ¬ ((h 236 8) ≠ 0)) => ?_)
    refine wi_aload_n (i := 0) (x := 236) (nx := 8) (r1 := 0) (r2 := 0) (r3 := 0) rfl rfl ?_
    refine wr_gi0 (k0 := 236) (x := h 236 6) (nx := 11) (r1 := 11) (r2 := 6) (r3 := 0) rfl rfl (by decide) rfl ⟨rfl, rfl⟩ rfl rfl ?_
    refine wi_iconst (n := 1) (nx := 12) (r1 := 0) (r2 := 0) (r3 := 0) rfl ?_
    refine wi_icmp (cd := .ne) (nx := 15) (r1 := 28) (r2 := 0) (r3 := 0) rfl (by omega) (by omega) (fun (q27 : (h 236 6) ≠ 1) => ?_) (fun (q27 : ¬ ((h 236 6) ≠ 1)) => by exfalso; omega)
    refine wi_iconst (n := 0) (nx := 29) (r1 := 0) (r2 := 0) (r3 := 0) rfl ?_
    refine wi_zreturn (nx := 30) (r1 := 0) (r2 := 0) (r3 := 0) rfl rfl (by omega) ?_
    refine wk_i ?_
    refine wi_if (cd := .eq) (nx := 167) (r1 := 212) (r2 := 0) (r3 := 0) rfl (by omega) (fun (q28 : 0 = 0) => ?_) (fun (q28 : ¬ (0 = 0)) => by exfalso; omega)
    refine wi_aload_n (i := 0) (x := 236) (nx := 213) (r1 := 0) (r2 := 0) (r3 := 0) rfl rfl ?_
    refine wi_ldc2_w (e := 639022) (nx := 216) (r1 := 639022) (r2 := 0) (r3 := 0) rfl (by decide) ?_
    refine wr_V (k0 := 236) (rest := []) (as := [.ref 236, vl 639022]) (nx := 219) (r1 := 221) (r2 := 1) (r3 := 11) rfl rfl rfl (of_decide_eq_true rfl) rfl rfl (by decide) rfl rfl (of_decide_eq_true rfl) (of_decide_eq_true rfl) ?_
    refine wi_aload_n (i := 0) (x := 236) (nx := 1) (r1 := 0) (r2 := 0) (r3 := 0) rfl rfl ?_
    refine wr_gi0 (k0 := 236) (x := h 236 8) (nx := 4) (r1 := 11) (r2 := 8) (r3 := 0) rfl rfl (by decide) rfl ⟨rfl, rfl⟩ rfl rfl ?_
    refine wi_if (cd := .ne) (nx := 7) (r1 := 28) (r2 := 0) (r3 := 0) rfl (by omega) (fun (q29 : (h 236 8) ≠ 0) => by exfalso; omega) (fun (q29 : ¬ ((h 236 8) ≠ 0)) => ?_)
    refine wi_aload_n (i := 0) (x := 236) (nx := 8) (r1 := 0) (r2 := 0) (r3 := 0) rfl rfl ?_
    refine wr_gi0 (k0 := 236) (x := h 236 6) (nx := 11) (r1 := 11) (r2 := 6) (r3 := 0) rfl rfl (by decide) rfl ⟨rfl, rfl⟩ rfl rfl ?_
    refine wi_iconst (n := 1) (nx := 12) (r1 := 0) (r2 := 0) (r3 := 0) rfl ?_
    refine wi_icmp (cd := .ne) (nx := 15) (r1 := 28) (r2 := 0) (r3 := 0) rfl (by omega) (by omega) (fun (q30 : (h 236 6) ≠ 1) => ?_) (fun (q30 : ¬ ((h 236 6) ≠ 1)) => by exfalso; omega)
    refine wi_iconst (n := 0) (nx := 29) (r1 := 0) (r2 := 0) (r3 := 0) rfl ?_
    refine wi_zreturn (nx := 30) (r1 := 0) (r2 := 0) (r3 := 0) rfl rfl (by omega) ?_
    refine wk_i ?_
    refine wi_if (cd := .eq) (nx := 222) (r1 := 251) (r2 := 0) (r3 := 0) rfl (by omega) (fun (q31 : 0 = 0) => ?_) (fun (q31 : ¬ (0 = 0)) => by exfalso; omega)
    refine wi_aload_n (i := 0) (x := 236) (nx := 252) (r1 := 0) (r2 := 0) (r3 := 0) rfl rfl ?_
    refine wi_iconst (n := 1) (nx := 253) (r1 := 0) (r2 := 0) (r3 := 0) rfl ?_
    refine wr_V (k0 := 236) (rest := []) (as := [.ref 236, vi 1]) (nx := 256) (r1 := 224) (r2 := 1) (r3 := 11) rfl rfl rfl (of_decide_eq_true rfl) rfl rfl (by decide) rfl rfl (of_decide_eq_true rfl) (of_decide_eq_true rfl) ?_
    refine ct_224_236 hcr  g 1 (by omega)  (fun h32 g32 u32 (p32_0 : 1 ≤ (h32 236 8)) => ?_)
    have F33 := F0.then (by decide +kernel) u32
    have b34 := gi_b (lo := 0) (hi := 5) g32 236 8 rfl
    refine wk_n ?_
    refine wi_return (nx := 257) (r1 := 0) (r2 := 0) (r3 := 0) rfl rfl ?_
    have e35 : h32 236 4 = h 236 4 := (u32 236 4 rfl)
    have e36 : h32 239 5 = h 239 5 := (u32 239 5 rfl)
    have e37 : h32 239 7 = h 239 7 := (u32 239 7 rfl)
    have e38 : h32 239 15 = h 239 15 := (u32 239 15 rfl)
    have e39 : h32 239 16 = h 239 16 := (u32 239 16 rfl)
    have e40 : h32 239 17 = h 239 17 := (u32 239 17 rfl)
    have e41 : h32 239 18 = h 239 18 := (u32 239 18 rfl)
    exact k h32 g32 F33 (show (h 236 4) ≤ (h32 236 4) by omega) (show (h32 236 4) ≤ (h 236 3) by omega) (show 1 ≤ (h32 236 8) ∨ ((h32 239 5) ≤ 9 ∧ 1 ≤ (h32 239 5) ∧ (h32 239 7) ≤ 3 ∧ (h32 239 15) ≤ 6 ∧ (h32 239 16) ≤ 6 ∧ (h32 239 17) ≤ 6 ∧ (h32 239 18) ≤ 6) by omega)
  ·
    refine wi_aload_n (i := 0) (x := 236) (nx := 16) (r1 := 0) (r2 := 0) (r3 := 0) rfl rfl ?_
    have b13 := gi_b (lo := -9223372036854775808) (hi := 9223372036854775807) g 236 12 rfl
    refine wr_gi1 (k0 := 236) (x := h 236 12) (nx := 19) (r1 := 11) (r2 := 12) (r3 := 0) rfl rfl (by decide) rfl ⟨rfl, rfl⟩ rfl rfl ?_
    refine wi_lload_n (i := 1) (e := 3650034) (nx := 20) (r1 := 0) (r2 := 0) (r3 := 0) rfl rfl ?_
    refine wi_lcmp (a := h 236 12) (e := 3650034) (nx := 21) (r1 := 0) (r2 := 0) (r3 := 0) rfl (by omega) (by omega) (fun r14 (fr14 : (r14 = -1 ∧ (h 236 12) < 3650034) ∨ (r14 = 0 ∧ (h 236 12) = 3650034) ∨ (r14 = 1 ∧ 3650034 < (h 236 12))) => ?_)
    refine wi_if (cd := .ne) (nx := 24) (r1 := 28) (r2 := 0) (r3 := 0) rfl (by omega) (fun (q15 : r14 ≠ 0) => ?_) (fun (q15 : ¬ (r14 ≠ 0)) => ?_)
    ·
      refine wi_iconst (n := 0) (nx := 29) (r1 := 0) (r2 := 0) (r3 := 0) rfl ?_
      refine wi_zreturn (nx := 30) (r1 := 0) (r2 := 0) (r3 := 0) rfl rfl (by omega) ?_
      refine wk_i ?_
      refine wi_if (cd := .eq) (nx := 10) (r1 := 17) (r2 := 0) (r3 := 0) rfl (by omega) (fun (q16 : 0 = 0) => ?_) (fun (q16 : ¬ (0 = 0)) => by exfalso; omega)
      refine wi_aload_n (i := 0) (x := 236) (nx := 18) (r1 := 0) (r2 := 0) (r3 := 0) rfl rfl ?_
      refine wi_ldc2_w (e := 394693) (nx := 21) (r1 := 394693) (r2 := 0) (r3 := 0) rfl (by decide) ?_
      refine wr_V (k0 := 236) (rest := []) (as := [.ref 236, vl 394693]) (nx := 24) (r1 := 221) (r2 := 1) (r3 := 11) rfl rfl rfl (of_decide_eq_true rfl) rfl rfl (by decide) rfl rfl (of_decide_eq_true rfl) (of_decide_eq_true rfl) ?_
      refine wi_aload_n (i := 0) (x := 236) (nx := 1) (r1 := 0) (r2 := 0) (r3 := 0) rfl rfl ?_
      refine wr_gi0 (k0 := 236) (x := h 236 8) (nx := 4) (r1 := 11) (r2 := 8) (r3 := 0) rfl rfl (by decide) rfl ⟨rfl, rfl⟩ rfl rfl ?_
      refine wi_if (cd := .ne) (nx := 7) (r1 := 28) (r2 := 0) (r3 := 0) rfl (by omega) (fun (q17 : (h 236 8) ≠ 0) => by exfalso; omega) (fun (q17 : ¬ ((h 236 8) ≠ 0)) => ?_)
      refine wi_aload_n (i := 0) (x := 236) (nx := 8) (r1 := 0) (r2 := 0) (r3 := 0) rfl rfl ?_
      refine wr_gi0 (k0 := 236) (x := h 236 6) (nx := 11) (r1 := 11) (r2 := 6) (r3 := 0) rfl rfl (by decide) rfl ⟨rfl, rfl⟩ rfl rfl ?_
      refine wi_iconst (n := 1) (nx := 12) (r1 := 0) (r2 := 0) (r3 := 0) rfl ?_
      refine wi_icmp (cd := .ne) (nx := 15) (r1 := 28) (r2 := 0) (r3 := 0) rfl (by omega) (by omega) (fun (q18 : (h 236 6) ≠ 1) => by exfalso; omega) (fun (q18 : ¬ ((h 236 6) ≠ 1)) => ?_)
      refine wi_aload_n (i := 0) (x := 236) (nx := 16) (r1 := 0) (r2 := 0) (r3 := 0) rfl rfl ?_
      refine wr_gi1 (k0 := 236) (x := h 236 12) (nx := 19) (r1 := 11) (r2 := 12) (r3 := 0) rfl rfl (by decide) rfl ⟨rfl, rfl⟩ rfl rfl ?_
      refine wi_lload_n (i := 1) (e := 394693) (nx := 20) (r1 := 0) (r2 := 0) (r3 := 0) rfl rfl ?_
      refine wi_lcmp (a := h 236 12) (e := 394693) (nx := 21) (r1 := 0) (r2 := 0) (r3 := 0) rfl (by omega) (by omega) (fun r19 (fr19 : (r19 = -1 ∧ (h 236 12) < 394693) ∨ (r19 = 0 ∧ (h 236 12) = 394693) ∨ (r19 = 1 ∧ 394693 < (h 236 12))) => ?_)
      refine wi_if (cd := .ne) (nx := 24) (r1 := 28) (r2 := 0) (r3 := 0) rfl (by omega) (fun (q20 : r19 ≠ 0) => ?_) (fun (q20 : ¬ (r19 ≠ 0)) => ?_)
      ·
        refine wi_iconst (n := 0) (nx := 29) (r1 := 0) (r2 := 0) (r3 := 0) rfl ?_
        refine wi_zreturn (nx := 30) (r1 := 0) (r2 := 0) (r3 := 0) rfl rfl (by omega) ?_
        refine wk_i ?_
        refine wi_if (cd := .eq) (nx := 27) (r1 := 34) (r2 := 0) (r3 := 0) rfl (by omega) (fun (q21 : 0 = 0) => ?_) (fun (q21 : ¬ (0 = 0)) => by exfalso; omega)
        refine wi_aload_n (i := 0) (x := 236) (nx := 35) (r1 := 0) (r2 := 0) (r3 := 0) rfl rfl ?_
        refine wi_ldc2_w (e := 3122) (nx := 38) (r1 := 3122) (r2 := 0) (r3 := 0) rfl (by decide) ?_
        refine wr_V (k0 := 236) (rest := []) (as := [.ref 236, vl 3122]) (nx := 41) (r1 := 221) (r2 := 1) (r3 := 11) rfl rfl rfl (of_decide_eq_true rfl) rfl rfl (by decide) rfl rfl (of_decide_eq_true rfl) (of_decide_eq_true rfl) ?_
        refine wi_aload_n (i := 0) (x := 236) (nx := 1) (r1 := 0) (r2 := 0) (r3 := 0) rfl rfl ?_
        refine wr_gi0 (k0 := 236) (x := h 236 8) (nx := 4) (r1 := 11) (r2 := 8) (r3 := 0) rfl rfl (by decide) rfl ⟨rfl, rfl⟩ rfl rfl ?_
        refine wi_if (cd := .ne) (nx := 7) (r1 := 28) (r2 := 0) (r3 := 0) rfl (by omega) (fun (q22 : (h 236 8) ≠ 0) => by exfalso; omega) (fun (q22 : ¬ ((h 236 8) ≠ 0)) => ?_)
        refine wi_aload_n (i := 0) (x := 236) (nx := 8) (r1 := 0) (r2 := 0) (r3 := 0) rfl rfl ?_
        refine wr_gi0 (k0 := 236) (x := h 236 6) (nx := 11) (r1 := 11) (r2 := 6) (r3 := 0) rfl rfl (by decide) rfl ⟨rfl, rfl⟩ rfl rfl ?_
        refine wi_iconst (n := 1) (nx := 12) (r1 := 0) (r2 := 0) (r3 := 0) rfl ?_
        refine wi_icmp (cd := .ne) (nx := 15) (r1 := 28) (r2 := 0) (r3 := 0) rfl (by omega) (by omega) (fun (q23 : (h 236 6) ≠ 1) => by exfalso; omega) (fun (q23 : ¬ ((h 236 6) ≠ 1)) => ?_)
        refine wi_aload_n (i := 0) (x := 236) (nx := 16) (r1 := 0) (r2 := 0) (r3 := 0) rfl rfl ?_
        refine wr_gi1 (k0 := 236) (x := h 236 12) (nx := 19) (r1 := 11) (r2 := 12) (r3 := 0) rfl rfl (by decide) rfl ⟨rfl, rfl⟩ rfl rfl ?_
        refine wi_lload_n (i := 1) (e := 3122) (nx := 20) (r1 := 0) (r2 := 0) (r3 := 0) rfl rfl ?_
        refine wi_lcmp (a := h 236 12) (e := 3122) (nx := 21) (r1 := 0) (r2 := 0) (r3 := 0) rfl (by omega) (by omega) (fun r24 (fr24 : (r24 = -1 ∧ (h 236 12) < 3122) ∨ (r24 = 0 ∧ (h 236 12) = 3122) ∨ (r24 = 1 ∧ 3122 < (h 236 12))) => ?_)
        refine wi_if (cd := .ne) (nx := 24) (r1 := 28) (r2 := 0) (r3 := 0) rfl (by omega) (fun (q25 : r24 ≠ 0) => ?_) (fun (q25 : ¬ (r24 ≠ 0)) => ?_)
        ·
          refine wi_iconst (n := 0) (nx := 29) (r1 := 0) (r2 := 0) (r3 := 0) rfl ?_
          refine wi_zreturn (nx := 30) (r1 := 0) (r2 := 0) (r3 := 0) rfl rfl (by omega) ?_
          refine wk_i ?_
          refine wi_if (cd := .eq) (nx := 44) (r1 := 51) (r2 := 0) (r3 := 0) rfl (by omega) (fun (q26 : 0 = 0) => ?_) (fun (q26 : ¬ (0 = 0)) => by exfalso; omega)
          refine wi_aload_n (i := 0) (x := 236) (nx := 52) (r1 := 0) (r2 := 0) (r3 := 0) rfl rfl ?_
          refine wi_ldc2_w (e := 781652471) (nx := 55) (r1 := 781652471) (r2 := 0) (r3 := 0) rfl (by decide) ?_
          refine wr_V (k0 := 236) (rest := []) (as := [.ref 236, vl 781652471]) (nx := 58) (r1 := 221) (r2 := 1) (r3 := 11) rfl rfl rfl (of_decide_eq_true rfl) rfl rfl (by decide) rfl rfl (of_decide_eq_true rfl) (of_decide_eq_true rfl) ?_
          refine wi_aload_n (i := 0) (x := 236) (nx := 1) (r1 := 0) (r2 := 0) (r3 := 0) rfl rfl ?_
          refine wr_gi0 (k0 := 236) (x := h 236 8) (nx := 4) (r1 := 11) (r2 := 8) (r3 := 0) rfl rfl (by decide) rfl ⟨rfl, rfl⟩ rfl rfl ?_
          refine wi_if (cd := .ne) (nx := 7) (r1 := 28) (r2 := 0) (r3 := 0) rfl (by omega) (fun (q27 : (h 236 8) ≠ 0) => by exfalso; omega) (fun (q27 : ¬ ((h 236 8) ≠ 0)) => ?_)
          refine wi_aload_n (i := 0) (x := 236) (nx := 8) (r1 := 0) (r2 := 0) (r3 := 0) rfl rfl ?_
          refine wr_gi0 (k0 := 236) (x := h 236 6) (nx := 11) (r1 := 11) (r2 := 6) (r3 := 0) rfl rfl (by decide) rfl ⟨rfl, rfl⟩ rfl rfl ?_
          refine wi_iconst (n := 1) (nx := 12) (r1 := 0) (r2 := 0) (r3 := 0) rfl ?_
          refine wi_icmp (cd := .ne) (nx := 15) (r1 := 28) (r2 := 0) (r3 := 0) rfl (by omega) (by omega) (fun (q28 : (h 236 6) ≠ 1) => by exfalso; omega) (fun (q28 : ¬ ((h 236 6) ≠ 1)) => ?_)
          refine wi_aload_n (i := 0) (x := 236) (nx := 16) (r1 := 0) (r2 := 0) (r3 := 0) rfl rfl ?_
          refine wr_gi1 (k0 := 236) (x := h 236 12) (nx := 19) (r1 := 11) (r2 := 12) (r3 := 0) rfl rfl (by decide) rfl ⟨rfl, rfl⟩ rfl rfl ?_
          refine wi_lload_n (i := 1) (e := 781652471) (nx := 20) (r1 := 0) (r2 := 0) (r3 := 0) rfl rfl ?_
          refine wi_lcmp (a := h 236 12) (e := 781652471) (nx := 21) (r1 := 0) (r2 := 0) (r3 := 0) rfl (by omega) (by omega) (fun r29 (fr29 : (r29 = -1 ∧ (h 236 12) < 781652471) ∨ (r29 = 0 ∧ (h 236 12) = 781652471) ∨ (r29 = 1 ∧ 781652471 < (h 236 12))) => ?_)
          refine wi_if (cd := .ne) (nx := 24) (r1 := 28) (r2 := 0) (r3 := 0) rfl (by omega) (fun (q30 : r29 ≠ 0) => ?_) (fun (q30 : ¬ (r29 ≠ 0)) => ?_)
          ·
            refine wi_iconst (n := 0) (nx := 29) (r1 := 0) (r2 := 0) (r3 := 0) rfl ?_
            refine wi_zreturn (nx := 30) (r1 := 0) (r2 := 0) (r3 := 0) rfl rfl (by omega) ?_
            refine wk_i ?_
            refine wi_if (cd := .eq) (nx := 61) (r1 := 102) (r2 := 0) (r3 := 0) rfl (by omega) (fun (q31 : 0 = 0) => ?_) (fun (q31 : ¬ (0 = 0)) => by exfalso; omega)
            refine wi_aload_n (i := 0) (x := 236) (nx := 103) (r1 := 0) (r2 := 0) (r3 := 0) rfl rfl ?_
            refine wi_ldc2_w (e := 2150504) (nx := 106) (r1 := 2150504) (r2 := 0) (r3 := 0) rfl (by decide) ?_
            refine wr_V (k0 := 236) (rest := []) (as := [.ref 236, vl 2150504]) (nx := 109) (r1 := 221) (r2 := 1) (r3 := 11) rfl rfl rfl (of_decide_eq_true rfl) rfl rfl (by decide) rfl rfl (of_decide_eq_true rfl) (of_decide_eq_true rfl) ?_
            refine wi_aload_n (i := 0) (x := 236) (nx := 1) (r1 := 0) (r2 := 0) (r3 := 0) rfl rfl ?_
            refine wr_gi0 (k0 := 236) (x := h 236 8) (nx := 4) (r1 := 11) (r2 := 8) (r3 := 0) rfl rfl (by decide) rfl ⟨rfl, rfl⟩ rfl rfl ?_
            refine wi_if (cd := .ne) (nx := 7) (r1 := 28) (r2 := 0) (r3 := 0) rfl (by omega) (fun (q32 : (h 236 8) ≠ 0) => by exfalso; omega) (fun (q32 : ¬ ((h 236 8) ≠ 0)) => ?_)
            refine wi_aload_n (i := 0) (x := 236) (nx := 8) (r1 := 0) (r2 := 0) (r3 := 0) rfl rfl ?_
            refine wr_gi0 (k0 := 236) (x := h 236 6) (nx := 11) (r1 := 11) (r2 := 6) (r3 := 0) rfl rfl (by decide) rfl ⟨rfl, rfl⟩ rfl rfl ?_
            refine wi_iconst (n := 1) (nx := 12) (r1 := 0) (r2 := 0) (r3 := 0) rfl ?_
            refine wi_icmp (cd := .ne) (nx := 15) (r1 := 28) (r2 := 0) (r3 := 0) rfl (by omega) (by omega) (fun (q33 : (h 236 6) ≠ 1) => by exfalso; omega) (fun (q33 : ¬ ((h 236 6) ≠ 1)) => ?_)
            refine wi_aload_n (i := 0) (x := 236) (nx := 16) (r1 := 0) (r2 := 0) (r3 := 0) rfl rfl ?_
            refine wr_gi1 (k0 := 236) (x := h 236 12) (nx := 19) (r1 := 11) (r2 := 12) (r3 := 0) rfl rfl (by decide) rfl ⟨rfl, rfl⟩ rfl rfl ?_
            refine wi_lload_n (i := 1) (e := 2150504) (nx := 20) (r1 := 0) (r2 := 0) (r3 := 0) rfl rfl ?_
            refine wi_lcmp (a := h 236 12) (e := 2150504) (nx := 21) (r1 := 0) (r2 := 0) (r3 := 0) rfl (by omega) (by omega) (fun r34 (fr34 : (r34 = -1 ∧ (h 236 12) < 2150504) ∨ (r34 = 0 ∧ (h 236 12) = 2150504) ∨ (r34 = 1 ∧ 2150504 < (h 236 12))) => ?_)
            refine wi_if (cd := .ne) (nx := 24) (r1 := 28) (r2 := 0) (r3 := 0) rfl (by omega) (fun (q35 : r34 ≠ 0) => ?_) (fun (q35 : ¬ (r34 ≠ 0)) => ?_)
            ·
              refine wi_iconst (n := 0) (nx := 29) (r1 := 0) (r2 := 0) (r3 := 0) rfl ?_
              refine wi_zreturn (nx := 30) (r1 := 0) (r2 := 0) (r3 := 0) rfl rfl (by omega) ?_
              refine wk_i ?_
              refine wi_if (cd := .eq) (nx := 112) (r1 := 157) (r2 := 0) (r3 := 0) rfl (by omega) (fun (q36 : 0 = 0) => ?_) (fun (q36 : ¬ (0 = 0)) => by exfalso; omega)
              refine wi_aload_n (i := 0) (x := 236) (nx := 158) (r1 := 0) (r2 := 0) (r3 := 0) rfl rfl ?_
              refine wi_ldc2_w (e := 609992267) (nx := 161) (r1 := 609992267) (r2 := 0) (r3 := 0) rfl (by decide) ?_
              refine wr_V (k0 := 236) (rest := []) (as := [.ref 236, vl 609992267]) (nx := 164) (r1 := 221) (r2 := 1) (r3 := 11) rfl rfl rfl (of_decide_eq_true rfl) rfl rfl (by decide) rfl rfl (of_decide_eq_true rfl) (of_decide_eq_true rfl) ?_
              refine wi_aload_n (i := 0) (x := 236) (nx := 1) (r1 := 0) (r2 := 0) (r3 := 0) rfl rfl ?_
              refine wr_gi0 (k0 := 236) (x := h 236 8) (nx := 4) (r1 := 11) (r2 := 8) (r3 := 0) rfl rfl (by decide) rfl ⟨rfl, rfl⟩ rfl rfl ?_
              refine wi_if (cd := .ne) (nx := 7) (r1 := 28) (r2 := 0) (r3 := 0) rfl (by omega) (fun (q37 : (h 236 8) ≠ 0) => by exfalso; omega) (fun (q37 : ¬ ((h 236 8) ≠ 0)) => ?_)
              refine wi_aload_n (i := 0) (x := 236) (nx := 8) (r1 := 0) (r2 := 0) (r3 := 0) rfl rfl ?_
              refine wr_gi0 (k0 := 236) (x := h 236 6) (nx := 11) (r1 := 11) (r2 := 6) (r3 := 0) rfl rfl (by decide) rfl ⟨rfl, rfl⟩ rfl rfl ?_
              refine wi_iconst (n := 1) (nx := 12) (r1 := 0) (r2 := 0) (r3 := 0) rfl ?_
              refine wi_icmp (cd := .ne) (nx := 15) (r1 := 28) (r2 := 0) (r3 := 0) rfl (by omega) (by omega) (fun (q38 : (h 236 6) ≠ 1) => by exfalso; omega) (fun (q38 : ¬ ((h 236 6) ≠ 1)) => ?_)
              refine wi_aload_n (i := 0) (x := 236) (nx := 16) (r1 := 0) (r2 := 0) (r3 := 0) rfl rfl ?_
              refine wr_gi1 (k0 := 236) (x := h 236 12) (nx := 19) (r1 := 11) (r2 := 12) (r3 := 0) rfl rfl (by decide) rfl ⟨rfl, rfl⟩ rfl rfl ?_
              refine wi_lload_n (i := 1) (e := 609992267) (nx := 20) (r1 := 0) (r2 := 0) (r3 := 0) rfl rfl ?_
              refine wi_lcmp (a := h 236 12) (e := 609992267) (nx := 21) (r1 := 0) (r2 := 0) (r3 := 0) rfl (by omega) (by omega) (fun r39 (fr39 : (r39 = -1 ∧ (h 236 12) < 609992267) ∨ (r39 = 0 ∧ (h 236 12) = 609992267) ∨ (r39 = 1 ∧ 609992267 < (h 236 12))) => ?_)
              refine wi_if (cd := .ne) (nx := 24) (r1 := 28) (r2 := 0) (r3 := 0) rfl (by omega) (fun (q40 : r39 ≠ 0) => ?_) (fun (q40 : ¬ (r39 ≠ 0)) => ?_)
              ·
                refine wi_iconst (n := 0) (nx := 29) (r1 := 0) (r2 := 0) (r3 := 0) rfl ?_
                refine wi_zreturn (nx := 30) (r1 := 0) (r2 := 0) (r3 := 0) rfl rfl (by omega) ?_
                refine wk_i ?_
                refine wi_if (cd := .eq) (nx := 167) (r1 := 212) (r2 := 0) (r3 := 0) rfl (by omega) (fun (q41 : 0 = 0) => ?_) (fun (q41 : ¬ (0 = 0)) => by exfalso; omega)
                refine wi_aload_n (i := 0) (x := 236) (nx := 213) (r1 := 0) (r2 := 0) (r3 := 0) rfl rfl ?_
                refine wi_ldc2_w (e := 639022) (nx := 216) (r1 := 639022) (r2 := 0) (r3 := 0) rfl (by decide) ?_
                refine wr_V (k0 := 236) (rest := []) (as := [.ref 236, vl 639022]) (nx := 219) (r1 := 221) (r2 := 1) (r3 := 11) rfl rfl rfl (of_decide_eq_true rfl) rfl rfl (by decide) rfl rfl (of_decide_eq_true rfl) (of_decide_eq_true rfl) ?_
                refine wi_aload_n (i := 0) (x := 236) (nx := 1) (r1 := 0) (r2 := 0) (r3 := 0) rfl rfl ?_
                refine wr_gi0 (k0 := 236) (x := h 236 8) (nx := 4) (r1 := 11) (r2 := 8) (r3 := 0) rfl rfl (by decide) rfl ⟨rfl, rfl⟩ rfl rfl ?_
                refine wi_if (cd := .ne) (nx := 7) (r1 := 28) (r2 := 0) (r3 := 0) rfl (by omega) (fun (q42 : (h 236 8) ≠ 0) => by exfalso; omega) (fun (q42 : ¬ ((h 236 8) ≠ 0)) => ?_)
                refine wi_aload_n (i := 0) (x := 236) (nx := 8) (r1 := 0) (r2 := 0) (r3 := 0) rfl rfl ?_
                refine wr_gi0 (k0 := 236) (x := h 236 6) (nx := 11) (r1 := 11) (r2 := 6) (r3 := 0) rfl rfl (by decide) rfl ⟨rfl, rfl⟩ rfl rfl ?_
                refine wi_iconst (n := 1) (nx := 12) (r1 := 0) (r2 := 0) (r3 := 0) rfl ?_
                refine wi_icmp (cd := .ne) (nx := 15) (r1 := 28) (r2 := 0) (r3 := 0) rfl (by omega) (by omega) (fun (q43 : (h 236 6) ≠ 1) => by exfalso; omega) (fun (q43 : ¬ ((h 236 6) ≠ 1)) => ?_)
                refine wi_aload_n (i := 0) (x := 236) (nx := 16) (r1 := 0) (r2 := 0) (r3 := 0) rfl rfl ?_
                refine wr_gi1 (k0 := 236) (x := h 236 12) (nx := 19) (r1 := 11) (r2 := 12) (r3 := 0) rfl rfl (by decide) rfl ⟨rfl, rfl⟩ rfl rfl ?_
                refine wi_lload_n (i := 1) (e := 639022) (nx := 20) (r1 := 0) (r2 := 0) (r3 := 0) rfl rfl ?_
                refine wi_lcmp (a := h 236 12) (e := 639022) (nx := 21) (r1 := 0) (r2 := 0) (r3 := 0) rfl (by omega) (by omega) (fun r44 (fr44 : (r44 = -1 ∧ (h 236 12) < 639022) ∨ (r44 = 0 ∧ (h 236 12) = 639022) ∨ (r44 = 1 ∧ 639022 < (h 236 12))) => ?_)
                refine wi_if (cd := .ne) (nx := 24) (r1 := 28) (r2 := 0) (r3 := 0) rfl (by omega) (fun (q45 : r44 ≠ 0) => ?_) (fun (q45 : ¬ (r44 ≠ 0)) => ?_)
                ·
                  refine wi_iconst (n := 0) (nx := 29) (r1 := 0) (r2 := 0) (r3 := 0) rfl ?_
                  refine wi_zreturn (nx := 30) (r1 := 0) (r2 := 0) (r3 := 0) rfl rfl (by omega) ?_
                  refine wk_i ?_
                  refine wi_if (cd := .eq) (nx := 222) (r1 := 251) (r2 := 0) (r3 := 0) rfl (by omega) (fun (q46 : 0 = 0) => ?_) (fun (q46 : ¬ (0 = 0)) => by exfalso; omega)
                  refine wi_aload_n (i := 0) (x := 236) (nx := 252) (r1 := 0) (r2 := 0) (r3 := 0) rfl rfl ?_
                  refine wi_iconst (n := 1) (nx := 253) (r1 := 0) (r2 := 0) (r3 := 0) rfl ?_
                  refine wr_V (k0 := 236) (rest := []) (as := [.ref 236, vi 1]) (nx := 256) (r1 := 224) (r2 := 1) (r3 := 11) rfl rfl rfl (of_decide_eq_true rfl) rfl rfl (by decide) rfl rfl (of_decide_eq_true rfl) (of_decide_eq_true rfl) ?_
                  refine ct_224_236 hcr  g 1 (by omega)  (fun h47 g47 u47 (p47_0 : 1 ≤ (h47 236 8)) => ?_)
                  have F48 := F0.then (by decide +kernel) u47
                  have b49 := gi_b (lo := 0) (hi := 5) g47 236 8 rfl
                  refine wk_n ?_
                  refine wi_return (nx := 257) (r1 := 0) (r2 := 0) (r3 := 0) rfl rfl ?_
                  have e50 : h47 236 4 = h 236 4 := (u47 236 4 rfl)
                  have e51 : h47 239 5 = h 239 5 := (u47 239 5 rfl)
                  have e52 : h47 239 7 = h 239 7 := (u47 239 7 rfl)
                  have e53 : h47 239 15 = h 239 15 := (u47 239 15 rfl)
                  have e54 : h47 239 16 = h 239 16 := (u47 239 16 rfl)
                  have e55 : h47 239 17 = h 239 17 := (u47 239 17 rfl)
                  have e56 : h47 239 18 = h 239 18 := (u47 239 18 rfl)
                  exact k h47 g47 F48 (show (h 236 4) ≤ (h47 236 4) by omega) (show (h47 236 4) ≤ (h 236 3) by omega) (show 1 ≤ (h47 236 8) ∨ ((h47 239 5) ≤ 9 ∧ 1 ≤ (h47 239 5) ∧ (h47 239 7) ≤ 3 ∧ (h47 239 15) ≤ 6 ∧ (h47 239 16) ≤ 6 ∧ (h47 239 17) ≤ 6 ∧ (h47 239 18) ≤ 6) by omega)
                ·
                  refine wi_iconst (n := 1) (nx := 25) (r1 := 0) (r2 := 0) (r3 := 0) rfl ?_
                  refine wi_goto (nx := 28) (r1 := 29) (r2 := 0) (r3 := 0) rfl ?_
                  refine wi_zreturn (nx := 30) (r1 := 0) (r2 := 0) (r3 := 0) rfl rfl (by omega) ?_
                  refine wk_i ?_
                  refine wi_if (cd := .eq) (nx := 222) (r1 := 251) (r2 := 0) (r3 := 0) rfl (by omega) (fun (q46 : 1 = 0) => by exfalso; omega) (fun (q46 : ¬ (1 = 0)) => ?_)
                  refine wi_aload_n (i := 0) (x := 236) (nx := 223) (r1 := 0) (r2 := 0) (r3 := 0) rfl rfl ?_
                  refine wi_aload_n (i := 0) (x := 236) (nx := 224) (r1 := 0) (r2 := 0) (r3 := 0) rfl rfl ?_
                  refine wi_aload_n (i := 0) (x := 236) (nx := 225) (r1 := 0) (r2 := 0) (r3 := 0) rfl rfl ?_
                  have b47 := gi_b (lo := 0) (hi := 1) g 236 26 rfl
                  refine wr_gi2 (k0 := 236) (x := h 236 26) (nx := 228) (r1 := 11) (r2 := 26) (r3 := 0) rfl rfl (by decide) rfl ⟨rfl, rfl⟩ rfl rfl ?_
                  refine wr_V (k0 := 236) (rest := [.ref 236]) (as := [.ref 236, vi (h 236 26)]) (nx := 231) (r1 := 234) (r2 := 1) (r3 := 11) rfl rfl rfl (of_decide_eq_true rfl) rfl rfl (by decide) rfl rfl (of_decide_eq_true rfl) (of_decide_eq_true rfl) ?_
                  refine ct_234_236 hcr  g (h 236 26) (by omega) (show (h 236 4) ≤ (h 236 3) by omega) (fun h48 z49 g48 u48 (fz49 : 1 ≤ z49 ∧ z49 ≤ 1) (p48_0 : (h 236 4) ≤ (h48 236 4)) (p48_1 : (h48 236 4) ≤ (h 236 3)) (p48_2 : 1 ≤ (h48 236 8) ∨ (h 236 8) = 0) => ?_)
                  have F50 := F0.then (by decide +kernel) u48
                  have b51 := gi_b (lo := 0) (hi := 800) g48 236 4 rfl
                  have b52 := gi_b (lo := 0) (hi := 5) g48 236 8 rfl
                  refine wk_i ?_
                  refine wr_pf2 (k0 := 236) (x := z49) (bl := 0) (bh := 1) (nx := 234) (r1 := 11) (r2 := 26) (r3 := 2) rfl (by decide) rfl ⟨rfl, rfl⟩ rfl (by omega) rfl g48 rfl (by omega) (fun h53 g53 w53 u53 => ?_)
                  have F54 := F50.then rfl u53
                  refine wi_aload_n (i := 0) (x := 236) (nx := 235) (r1 := 0) (r2 := 0) (r3 := 0) rfl rfl ?_
                  refine wr_gr (k0 := 236) (x := 239) (nx := 238) (r1 := 11) (r2 := 14) (r3 := 0) rfl rfl (by decide) rfl ⟨rfl, rfl⟩ rfl ?_
                  refine wi_bipush (n := 9) (nx := 240) (r1 := 0) (r2 := 0) (r3 := 0) rfl (by decide) ?_
                  refine wi_aload_n (i := 0) (x := 236) (nx := 241) (r1 := 0) (r2 := 0) (r3 := 0) rfl rfl ?_
                  refine wi_iconst (n := 0) (nx := 242) (r1 := 0) (r2 := 0) (r3 := 0) rfl ?_
                  refine wi_bipush (n := 11) (nx := 244) (r1 := 0) (r2 := 0) (r3 := 0) rfl (by decide) ?_
                  refine wr_V (k0 := 236) (rest := [vi 9, .ref 239]) (as := [.ref 236, vi 0, vi 11]) (nx := 247) (r1 := 231) (r2 := 2) (r3 := 11) rfl rfl rfl (of_decide_eq_true rfl) rfl rfl (by decide) rfl rfl (of_decide_eq_true rfl) (of_decide_eq_true rfl) ?_
                  have e56 : h53 236 4 = h48 236 4 := (u53 236 4 rfl)
                  have e57 : h53 236 3 = h 236 3 := ((u53 236 3 rfl).trans (u48 236 3 rfl))
                  refine ct_231_236 hcr  g53 0 11 (by omega) (by omega) (show (h53 236 4) ≤ (h53 236 3) by omega) (fun h55 z58 g55 u55 (fz58 : 0 ≤ z58 ∧ z58 ≤ 999) (p55_0 : (h53 236 4) ≤ (h55 236 4)) (p55_1 : (h55 236 4) ≤ (h53 236 3)) (p55_2 : 1 ≤ (h55 236 8) ∨ (h53 236 8) = 0) (p55_3 : 1 ≤ (h55 236 8) ∨ (0 ≤ z58 ∧ z58 ≤ 11)) (p55_4 : 1 ≤ (h55 236 8) ∨ (h53 236 6) = 2) => ?_)
                  have F59 := F54.then (by decide +kernel) u55
                  have b60 := gi_b (lo := 0) (hi := 800) g55 236 4 rfl
                  have e61 : h53 236 8 = h48 236 8 := (u53 236 8 rfl)
                  have b62 := gi_b (lo := 0) (hi := 5) g55 236 8 rfl
                  have b63 := gi_b (lo := 0) (hi := 4) g48 236 6 rfl
                  have e64 : h53 236 6 = h48 236 6 := (u53 236 6 rfl)
                  refine wk_i ?_
                  refine wr_is (k0 := 239) (a := 9) (f := 9) (x := z58) (bl := 0) (bh := 999) (nx := 248) (r1 := 0) (r2 := 0) (r3 := 0) rfl (by decide) rfl (by omega) (by omega) (by decide) g55 rfl (by omega) (fun h65 g65 w65 u65 => ?_)
                  have F66 := F59.then rfl u65
                  refine wi_goto (nx := 251) (r1 := 256) (r2 := 0) (r3 := 0) rfl ?_
                  refine wi_return (nx := 257) (r1 := 0) (r2 := 0) (r3 := 0) rfl rfl ?_
                  have e67 : h65 236 4 = h55 236 4 := (u65 236 4 rfl)
                  have e68 : h65 236 8 = h55 236 8 := (u65 236 8 rfl)
                  have e69 : h65 239 5 = h 239 5 := ((u65 239 5 rfl).trans ((u55 239 5 rfl).trans ((u53 239 5 rfl).trans (u48 239 5 rfl))))
                  have e70 : h65 239 7 = h 239 7 := ((u65 239 7 rfl).trans ((u55 239 7 rfl).trans ((u53 239 7 rfl).trans (u48 239 7 rfl))))
                  have e71 : h65 239 15 = h 239 15 := ((u65 239 15 rfl).trans ((u55 239 15 rfl).trans ((u53 239 15 rfl).trans (u48 239 15 rfl))))
                  have e72 : h65 239 16 = h 239 16 := ((u65 239 16 rfl).trans ((u55 239 16 rfl).trans ((u53 239 16 rfl).trans (u48 239 16 rfl))))
                  have e73 : h65 239 17 = h 239 17 := ((u65 239 17 rfl).trans ((u55 239 17 rfl).trans ((u53 239 17 rfl).trans (u48 239 17 rfl))))
                  have e74 : h65 239 18 = h 239 18 := ((u65 239 18 rfl).trans ((u55 239 18 rfl).trans ((u53 239 18 rfl).trans (u48 239 18 rfl))))
                  exact k h65 g65 F66 (show (h 236 4) ≤ (h65 236 4) by omega) (show (h65 236 4) ≤ (h 236 3) by omega) (show 1 ≤ (h65 236 8) ∨ ((h65 239 5) ≤ 9 ∧ 1 ≤ (h65 239 5) ∧ (h65 239 7) ≤ 3 ∧ (h65 239 15) ≤ 6 ∧ (h65 239 16) ≤ 6 ∧ (h65 239 17) ≤ 6 ∧ (h65 239 18) ≤ 6) by omega)
              ·
                refine wi_iconst (n := 1) (nx := 25) (r1 := 0) (r2 := 0) (r3 := 0) rfl ?_
                refine wi_goto (nx := 28) (r1 := 29) (r2 := 0) (r3 := 0) rfl ?_
                refine wi_zreturn (nx := 30) (r1 := 0) (r2 := 0) (r3 := 0) rfl rfl (by omega) ?_
                refine wk_i ?_
                refine wi_if (cd := .eq) (nx := 167) (r1 := 212) (r2 := 0) (r3 := 0) rfl (by omega) (fun (q41 : 1 = 0) => by exfalso; omega) (fun (q41 : ¬ (1 = 0)) => ?_)
                refine wi_aload_n (i := 0) (x := 236) (nx := 168) (r1 := 0) (r2 := 0) (r3 := 0) rfl rfl ?_
                refine wi_aload_n (i := 0) (x := 236) (nx := 169) (r1 := 0) (r2 := 0) (r3 := 0) rfl rfl ?_
                refine wi_aload_n (i := 0) (x := 236) (nx := 170) (r1 := 0) (r2 := 0) (r3 := 0) rfl rfl ?_
                have b42 := gi_b (lo := 0) (hi := 1) g 236 25 rfl
                refine wr_gi2 (k0 := 236) (x := h 236 25) (nx := 173) (r1 := 11) (r2 := 25) (r3 := 0) rfl rfl (by decide) rfl ⟨rfl, rfl⟩ rfl rfl ?_
                refine wr_V (k0 := 236) (rest := [.ref 236]) (as := [.ref 236, vi (h 236 25)]) (nx := 176) (r1 := 234) (r2 := 1) (r3 := 11) rfl rfl rfl (of_decide_eq_true rfl) rfl rfl (by decide) rfl rfl (of_decide_eq_true rfl) (of_decide_eq_true rfl) ?_
                refine ct_234_236 hcr  g (h 236 25) (by omega) (show (h 236 4) ≤ (h 236 3) by omega) (fun h43 z44 g43 u43 (fz44 : 1 ≤ z44 ∧ z44 ≤ 1) (p43_0 : (h 236 4) ≤ (h43 236 4)) (p43_1 : (h43 236 4) ≤ (h 236 3)) (p43_2 : 1 ≤ (h43 236 8) ∨ (h 236 8) = 0) => ?_)
                have F45 := F0.then (by decide +kernel) u43
                have b46 := gi_b (lo := 0) (hi := 800) g43 236 4 rfl
                have b47 := gi_b (lo := 0) (hi := 5) g43 236 8 rfl
                refine wk_i ?_
                refine wr_pf2 (k0 := 236) (x := z44) (bl := 0) (bh := 1) (nx := 179) (r1 := 11) (r2 := 25) (r3 := 2) rfl (by decide) rfl ⟨rfl, rfl⟩ rfl (by omega) rfl g43 rfl (by omega) (fun h48 g48 w48 u48 => ?_)
                have F49 := F45.then rfl u48
                refine wi_aload_n (i := 0) (x := 236) (nx := 180) (r1 := 0) (r2 := 0) (r3 := 0) rfl rfl ?_
                refine wr_gr (k0 := 236) (x := 239) (nx := 183) (r1 := 11) (r2 := 14) (r3 := 0) rfl rfl (by decide) rfl ⟨rfl, rfl⟩ rfl ?_
                refine wi_bipush (n := 7) (nx := 185) (r1 := 0) (r2 := 0) (r3 := 0) rfl (by decide) ?_
                refine wi_aload_n (i := 0) (x := 236) (nx := 186) (r1 := 0) (r2 := 0) (r3 := 0) rfl rfl ?_
                refine wi_iconst (n := 0) (nx := 187) (r1 := 0) (r2 := 0) (r3 := 0) rfl ?_
                refine wi_iconst (n := 3) (nx := 188) (r1 := 0) (r2 := 0) (r3 := 0) rfl ?_
                refine wr_V (k0 := 236) (rest := [vi 7, .ref 239]) (as := [.ref 236, vi 0, vi 3]) (nx := 191) (r1 := 231) (r2 := 2) (r3 := 11) rfl rfl rfl (of_decide_eq_true rfl) rfl rfl (by decide) rfl rfl (of_decide_eq_true rfl) (of_decide_eq_true rfl) ?_
                have e51 : h48 236 4 = h43 236 4 := (u48 236 4 rfl)
                have e52 : h48 236 3 = h 236 3 := ((u48 236 3 rfl).trans (u43 236 3 rfl))
                refine ct_231_236 hcr  g48 0 3 (by omega) (by omega) (show (h48 236 4) ≤ (h48 236 3) by omega) (fun h50 z53 g50 u50 (fz53 : 0 ≤ z53 ∧ z53 ≤ 999) (p50_0 : (h48 236 4) ≤ (h50 236 4)) (p50_1 : (h50 236 4) ≤ (h48 236 3)) (p50_2 : 1 ≤ (h50 236 8) ∨ (h48 236 8) = 0) (p50_3 : 1 ≤ (h50 236 8) ∨ (0 ≤ z53 ∧ z53 ≤ 3)) (p50_4 : 1 ≤ (h50 236 8) ∨ (h48 236 6) = 2) => ?_)
                have F54 := F49.then (by decide +kernel) u50
                have b55 := gi_b (lo := 0) (hi := 800) g50 236 4 rfl
                have e56 : h48 236 8 = h43 236 8 := (u48 236 8 rfl)
                have b57 := gi_b (lo := 0) (hi := 5) g50 236 8 rfl
                have b58 := gi_b (lo := 0) (hi := 4) g43 236 6 rfl
                have e59 : h48 236 6 = h43 236 6 := (u48 236 6 rfl)
                refine wk_i ?_
                refine wr_is (k0 := 239) (a := 7) (f := 7) (x := z53) (bl := 0) (bh := 999) (nx := 192) (r1 := 0) (r2 := 0) (r3 := 0) rfl (by decide) rfl (by omega) (by omega) (by decide) g50 rfl (by omega) (fun h60 g60 w60 u60 => ?_)
                have F61 := F54.then rfl u60
                refine wi_aload_n (i := 0) (x := 236) (nx := 193) (r1 := 0) (r2 := 0) (r3 := 0) rfl rfl ?_
                refine wr_gr (k0 := 236) (x := 239) (nx := 196) (r1 := 11) (r2 := 14) (r3 := 0) rfl rfl (by decide) rfl ⟨rfl, rfl⟩ rfl ?_
                refine wi_bipush (n := 8) (nx := 198) (r1 := 0) (r2 := 0) (r3 := 0) rfl (by decide) ?_
                refine wi_aload_n (i := 0) (x := 236) (nx := 199) (r1 := 0) (r2 := 0) (r3 := 0) rfl rfl ?_
                refine wi_ldc2_w (e := 4370489) (nx := 202) (r1 := 4370489) (r2 := 0) (r3 := 0) rfl (by decide) ?_
                refine wi_iconst (n := 0) (nx := 203) (r1 := 0) (r2 := 0) (r3 := 0) rfl ?_
                refine wi_bipush (n := 9) (nx := 205) (r1 := 0) (r2 := 0) (r3 := 0) rfl (by decide) ?_
                refine wr_V (k0 := 236) (rest := [vi 8, .ref 239]) (as := [.ref 236, vl 4370489, vi 0, vi 9]) (nx := 208) (r1 := 228) (r2 := 3) (r3 := 11) rfl rfl rfl (of_decide_eq_true rfl) rfl rfl (by decide) rfl rfl (of_decide_eq_true rfl) (of_decide_eq_true rfl) ?_
                have e63 : h60 236 4 = h50 236 4 := (u60 236 4 rfl)
                have e64 : h60 236 3 = h 236 3 := ((u60 236 3 rfl).trans ((u50 236 3 rfl).trans ((u48 236 3 rfl).trans (u43 236 3 rfl))))
                refine ct_228_236 hcr  g60 4370489 0 9 (by omega) (by omega) (by omega) (show (h60 236 4) ≤ (h60 236 3) by omega) (fun h62 z65 g62 u62 (fz65 : 0 ≤ z65 ∧ z65 ≤ 999) (p62_0 : (h60 236 4) ≤ (h62 236 4)) (p62_1 : (h62 236 4) ≤ (h60 236 3)) (p62_2 : 1 ≤ (h62 236 8) ∨ (h60 236 8) = 0) (p62_3 : 1 ≤ (h62 236 8) ∨ (0 ≤ z65 ∧ z65 ≤ 9)) => ?_)
                have F66 := F61.then (by decide +kernel) u62
                have b67 := gi_b (lo := 0) (hi := 800) g62 236 4 rfl
                have e68 : h60 236 8 = h50 236 8 := (u60 236 8 rfl)
                have b69 := gi_b (lo := 0) (hi := 5) g62 236 8 rfl
                refine wk_i ?_
                refine wr_is (k0 := 239) (a := 8) (f := 8) (x := z65) (bl := 0) (bh := 999) (nx := 209) (r1 := 0) (r2 := 0) (r3 := 0) rfl (by decide) rfl (by omega) (by omega) (by decide) g62 rfl (by omega) (fun h70 g70 w70 u70 => ?_)
                have F71 := F66.then rfl u70
                refine wi_goto (nx := 212) (r1 := 256) (r2 := 0) (r3 := 0) rfl ?_
                refine wi_return (nx := 257) (r1 := 0) (r2 := 0) (r3 := 0) rfl rfl ?_
                have e72 : h70 236 4 = h62 236 4 := (u70 236 4 rfl)
                have e73 : h70 236 8 = h62 236 8 := (u70 236 8 rfl)
                have e74 : h70 239 5 = h 239 5 := ((u70 239 5 rfl).trans ((u62 239 5 rfl).trans ((u60 239 5 rfl).trans ((u50 239 5 rfl).trans ((u48 239 5 rfl).trans (u43 239 5 rfl))))))
                have e75 : h70 239 7 = z53 := ((u70 239 7 rfl).trans ((u62 239 7 rfl).trans w60))
                have e76 : h70 239 15 = h 239 15 := ((u70 239 15 rfl).trans ((u62 239 15 rfl).trans ((u60 239 15 rfl).trans ((u50 239 15 rfl).trans ((u48 239 15 rfl).trans (u43 239 15 rfl))))))
                have e77 : h70 239 16 = h 239 16 := ((u70 239 16 rfl).trans ((u62 239 16 rfl).trans ((u60 239 16 rfl).trans ((u50 239 16 rfl).trans ((u48 239 16 rfl).trans (u43 239 16 rfl))))))
                have e78 : h70 239 17 = h 239 17 := ((u70 239 17 rfl).trans ((u62 239 17 rfl).trans ((u60 239 17 rfl).trans ((u50 239 17 rfl).trans ((u48 239 17 rfl).trans (u43 239 17 rfl))))))
                have e79 : h70 239 18 = h 239 18 := ((u70 239 18 rfl).trans ((u62 239 18 rfl).trans ((u60 239 18 rfl).trans ((u50 239 18 rfl).trans ((u48 239 18 rfl).trans (u43 239 18 rfl))))))
                exact k h70 g70 F71 (show (h 236 4) ≤ (h70 236 4) by omega) (show (h70 236 4) ≤ (h 236 3) by omega) (show 1 ≤ (h70 236 8) ∨ ((h70 239 5) ≤ 9 ∧ 1 ≤ (h70 239 5) ∧ (h70 239 7) ≤ 3 ∧ (h70 239 15) ≤ 6 ∧ (h70 239 16) ≤ 6 ∧ (h70 239 17) ≤ 6 ∧ (h70 239 18) ≤ 6) by omega)
            ·
              refine wi_iconst (n := 1) (nx := 25) (r1 := 0) (r2 := 0) (r3 := 0) rfl ?_
              refine wi_goto (nx := 28) (r1 := 29) (r2 := 0) (r3 := 0) rfl ?_
              refine wi_zreturn (nx := 30) (r1 := 0) (r2 := 0) (r3 := 0) rfl rfl (by omega) ?_
              refine wk_i ?_
              refine wi_if (cd := .eq) (nx := 112) (r1 := 157) (r2 := 0) (r3 := 0) rfl (by omega) (fun (q36 : 1 = 0) => by exfalso; omega) (fun (q36 : ¬ (1 = 0)) => ?_)
              refine wi_aload_n (i := 0) (x := 236) (nx := 113) (r1 := 0) (r2 := 0) (r3 := 0) rfl rfl ?_
              refine wi_aload_n (i := 0) (x := 236) (nx := 114) (r1 := 0) (r2 := 0) (r3 := 0) rfl rfl ?_
              refine wi_aload_n (i := 0) (x := 236) (nx := 115) (r1 := 0) (r2 := 0) (r3 := 0) rfl rfl ?_
              have b37 := gi_b (lo := 0) (hi := 1) g 236 24 rfl
              refine wr_gi2 (k0 := 236) (x := h 236 24) (nx := 118) (r1 := 11) (r2 := 24) (r3 := 0) rfl rfl (by decide) rfl ⟨rfl, rfl⟩ rfl rfl ?_
              refine wr_V (k0 := 236) (rest := [.ref 236]) (as := [.ref 236, vi (h 236 24)]) (nx := 121) (r1 := 234) (r2 := 1) (r3 := 11) rfl rfl rfl (of_decide_eq_true rfl) rfl rfl (by decide) rfl rfl (of_decide_eq_true rfl) (of_decide_eq_true rfl) ?_
              refine ct_234_236 hcr  g (h 236 24) (by omega) (show (h 236 4) ≤ (h 236 3) by omega) (fun h38 z39 g38 u38 (fz39 : 1 ≤ z39 ∧ z39 ≤ 1) (p38_0 : (h 236 4) ≤ (h38 236 4)) (p38_1 : (h38 236 4) ≤ (h 236 3)) (p38_2 : 1 ≤ (h38 236 8) ∨ (h 236 8) = 0) => ?_)
              have F40 := F0.then (by decide +kernel) u38
              have b41 := gi_b (lo := 0) (hi := 800) g38 236 4 rfl
              have b42 := gi_b (lo := 0) (hi := 5) g38 236 8 rfl
              refine wk_i ?_
              refine wr_pf2 (k0 := 236) (x := z39) (bl := 0) (bh := 1) (nx := 124) (r1 := 11) (r2 := 24) (r3 := 2) rfl (by decide) rfl ⟨rfl, rfl⟩ rfl (by omega) rfl g38 rfl (by omega) (fun h43 g43 w43 u43 => ?_)
              have F44 := F40.then rfl u43
              refine wi_aload_n (i := 0) (x := 236) (nx := 125) (r1 := 0) (r2 := 0) (r3 := 0) rfl rfl ?_
              refine wr_gr (k0 := 236) (x := 239) (nx := 128) (r1 := 11) (r2 := 14) (r3 := 0) rfl rfl (by decide) rfl ⟨rfl, rfl⟩ rfl ?_
              refine wi_iconst (n := 5) (nx := 129) (r1 := 0) (r2 := 0) (r3 := 0) rfl ?_
              refine wi_aload_n (i := 0) (x := 236) (nx := 130) (r1 := 0) (r2 := 0) (r3 := 0) rfl rfl ?_
              refine wi_iconst (n := 1) (nx := 131) (r1 := 0) (r2 := 0) (r3 := 0) rfl ?_
              refine wi_bipush (n := 9) (nx := 133) (r1 := 0) (r2 := 0) (r3 := 0) rfl (by decide) ?_
              refine wr_V (k0 := 236) (rest := [vi 5, .ref 239]) (as := [.ref 236, vi 1, vi 9]) (nx := 136) (r1 := 231) (r2 := 2) (r3 := 11) rfl rfl rfl (of_decide_eq_true rfl) rfl rfl (by decide) rfl rfl (of_decide_eq_true rfl) (of_decide_eq_true rfl) ?_
              have e46 : h43 236 4 = h38 236 4 := (u43 236 4 rfl)
              have e47 : h43 236 3 = h 236 3 := ((u43 236 3 rfl).trans (u38 236 3 rfl))
              refine ct_231_236 hcr  g43 1 9 (by omega) (by omega) (show (h43 236 4) ≤ (h43 236 3) by omega) (fun h45 z48 g45 u45 (fz48 : 0 ≤ z48 ∧ z48 ≤ 999) (p45_0 : (h43 236 4) ≤ (h45 236 4)) (p45_1 : (h45 236 4) ≤ (h43 236 3)) (p45_2 : 1 ≤ (h45 236 8) ∨ (h43 236 8) = 0) (p45_3 : 1 ≤ (h45 236 8) ∨ (1 ≤ z48 ∧ z48 ≤ 9)) (p45_4 : 1 ≤ (h45 236 8) ∨ (h43 236 6) = 2) => ?_)
              have F49 := F44.then (by decide +kernel) u45
              have b50 := gi_b (lo := 0) (hi := 800) g45 236 4 rfl
              have e51 : h43 236 8 = h38 236 8 := (u43 236 8 rfl)
              have b52 := gi_b (lo := 0) (hi := 5) g45 236 8 rfl
              have b53 := gi_b (lo := 0) (hi := 4) g38 236 6 rfl
              have e54 : h43 236 6 = h38 236 6 := (u43 236 6 rfl)
              refine wk_i ?_
              refine wr_is (k0 := 239) (a := 5) (f := 5) (x := z48) (bl := 0) (bh := 999) (nx := 137) (r1 := 0) (r2 := 0) (r3 := 0) rfl (by decide) rfl (by omega) (by omega) (by decide) g45 rfl (by omega) (fun h55 g55 w55 u55 => ?_)
              have F56 := F49.then rfl u55
              refine wi_aload_n (i := 0) (x := 236) (nx := 138) (r1 := 0) (r2 := 0) (r3 := 0) rfl rfl ?_
              refine wr_gr (k0 := 236) (x := 239) (nx := 141) (r1 := 11) (r2 := 14) (r3 := 0) rfl rfl (by decide) rfl ⟨rfl, rfl⟩ rfl ?_
              refine wi_bipush (n := 6) (nx := 143) (r1 := 0) (r2 := 0) (r3 := 0) rfl (by decide) ?_
              refine wi_aload_n (i := 0) (x := 236) (nx := 144) (r1 := 0) (r2 := 0) (r3 := 0) rfl rfl ?_
              refine wi_ldc2_w (e := 17484005) (nx := 147) (r1 := 17484005) (r2 := 0) (r3 := 0) rfl (by decide) ?_
              refine wi_iconst (n := 0) (nx := 148) (r1 := 0) (r2 := 0) (r3 := 0) rfl ?_
              refine wi_bipush (n := 99) (nx := 150) (r1 := 0) (r2 := 0) (r3 := 0) rfl (by decide) ?_
              refine wr_V (k0 := 236) (rest := [vi 6, .ref 239]) (as := [.ref 236, vl 17484005, vi 0, vi 99]) (nx := 153) (r1 := 228) (r2 := 3) (r3 := 11) rfl rfl rfl (of_decide_eq_true rfl) rfl rfl (by decide) rfl rfl (of_decide_eq_true rfl) (of_decide_eq_true rfl) ?_
              have e58 : h55 236 4 = h45 236 4 := (u55 236 4 rfl)
              have e59 : h55 236 3 = h 236 3 := ((u55 236 3 rfl).trans ((u45 236 3 rfl).trans ((u43 236 3 rfl).trans (u38 236 3 rfl))))
              refine ct_228_236 hcr  g55 17484005 0 99 (by omega) (by omega) (by omega) (show (h55 236 4) ≤ (h55 236 3) by omega) (fun h57 z60 g57 u57 (fz60 : 0 ≤ z60 ∧ z60 ≤ 999) (p57_0 : (h55 236 4) ≤ (h57 236 4)) (p57_1 : (h57 236 4) ≤ (h55 236 3)) (p57_2 : 1 ≤ (h57 236 8) ∨ (h55 236 8) = 0) (p57_3 : 1 ≤ (h57 236 8) ∨ (0 ≤ z60 ∧ z60 ≤ 99)) => ?_)
              have F61 := F56.then (by decide +kernel) u57
              have b62 := gi_b (lo := 0) (hi := 800) g57 236 4 rfl
              have e63 : h55 236 8 = h45 236 8 := (u55 236 8 rfl)
              have b64 := gi_b (lo := 0) (hi := 5) g57 236 8 rfl
              refine wk_i ?_
              refine wr_is (k0 := 239) (a := 6) (f := 6) (x := z60) (bl := 0) (bh := 999) (nx := 154) (r1 := 0) (r2 := 0) (r3 := 0) rfl (by decide) rfl (by omega) (by omega) (by decide) g57 rfl (by omega) (fun h65 g65 w65 u65 => ?_)
              have F66 := F61.then rfl u65
              refine wi_goto (nx := 157) (r1 := 256) (r2 := 0) (r3 := 0) rfl ?_
              refine wi_return (nx := 257) (r1 := 0) (r2 := 0) (r3 := 0) rfl rfl ?_
              have e67 : h65 236 4 = h57 236 4 := (u65 236 4 rfl)
              have e68 : h65 236 8 = h57 236 8 := (u65 236 8 rfl)
              have e69 : h65 239 5 = z48 := ((u65 239 5 rfl).trans ((u57 239 5 rfl).trans w55))
              have e70 : h65 239 7 = h 239 7 := ((u65 239 7 rfl).trans ((u57 239 7 rfl).trans ((u55 239 7 rfl).trans ((u45 239 7 rfl).trans ((u43 239 7 rfl).trans (u38 239 7 rfl))))))
              have e71 : h65 239 15 = h 239 15 := ((u65 239 15 rfl).trans ((u57 239 15 rfl).trans ((u55 239 15 rfl).trans ((u45 239 15 rfl).trans ((u43 239 15 rfl).trans (u38 239 15 rfl))))))
              have e72 : h65 239 16 = h 239 16 := ((u65 239 16 rfl).trans ((u57 239 16 rfl).trans ((u55 239 16 rfl).trans ((u45 239 16 rfl).trans ((u43 239 16 rfl).trans (u38 239 16 rfl))))))
              have e73 : h65 239 17 = h 239 17 := ((u65 239 17 rfl).trans ((u57 239 17 rfl).trans ((u55 239 17 rfl).trans ((u45 239 17 rfl).trans ((u43 239 17 rfl).trans (u38 239 17 rfl))))))
              have e74 : h65 239 18 = h 239 18 := ((u65 239 18 rfl).trans ((u57 239 18 rfl).trans ((u55 239 18 rfl).trans ((u45 239 18 rfl).trans ((u43 239 18 rfl).trans (u38 239 18 rfl))))))
              exact k h65 g65 F66 (show (h 236 4) ≤ (h65 236 4) by omega) (show (h65 236 4) ≤ (h 236 3) by omega) (show 1 ≤ (h65 236 8) ∨ ((h65 239 5) ≤ 9 ∧ 1 ≤ (h65 239 5) ∧ (h65 239 7) ≤ 3 ∧ (h65 239 15) ≤ 6 ∧ (h65 239 16) ≤ 6 ∧ (h65 239 17) ≤ 6 ∧ (h65 239 18) ≤ 6) by omega)
          ·
            refine wi_iconst (n := 1) (nx := 25) (r1 := 0) (r2 := 0) (r3 := 0) rfl ?_
            refine wi_goto (nx := 28) (r1 := 29) (r2 := 0) (r3 := 0) rfl ?_
            refine wi_zreturn (nx := 30) (r1 := 0) (r2 := 0) (r3 := 0) rfl rfl (by omega) ?_
            refine wk_i ?_
            refine wi_if (cd := .eq) (nx := 61) (r1 := 102) (r2 := 0) (r3 := 0) rfl (by omega) (fun (q31 : 1 = 0) => by exfalso; omega) (fun (q31 : ¬ (1 = 0)) => ?_)
            refine wi_aload_n (i := 0) (x := 236) (nx := 62) (r1 := 0) (r2 := 0) (r3 := 0) rfl rfl ?_
            refine wi_aload_n (i := 0) (x := 236) (nx := 63) (r1 := 0) (r2 := 0) (r3 := 0) rfl rfl ?_
            refine wi_aload_n (i := 0) (x := 236) (nx := 64) (r1 := 0) (r2 := 0) (r3 := 0) rfl rfl ?_
            have b32 := gi_b (lo := 0) (hi := 1) g 236 23 rfl
            refine wr_gi2 (k0 := 236) (x := h 236 23) (nx := 67) (r1 := 11) (r2 := 23) (r3 := 0) rfl rfl (by decide) rfl ⟨rfl, rfl⟩ rfl rfl ?_
            refine wr_V (k0 := 236) (rest := [.ref 236]) (as := [.ref 236, vi (h 236 23)]) (nx := 70) (r1 := 234) (r2 := 1) (r3 := 11) rfl rfl rfl (of_decide_eq_true rfl) rfl rfl (by decide) rfl rfl (of_decide_eq_true rfl) (of_decide_eq_true rfl) ?_
            refine ct_234_236 hcr  g (h 236 23) (by omega) (show (h 236 4) ≤ (h 236 3) by omega) (fun h33 z34 g33 u33 (fz34 : 1 ≤ z34 ∧ z34 ≤ 1) (p33_0 : (h 236 4) ≤ (h33 236 4)) (p33_1 : (h33 236 4) ≤ (h 236 3)) (p33_2 : 1 ≤ (h33 236 8) ∨ (h 236 8) = 0) => ?_)
            have F35 := F0.then (by decide +kernel) u33
            have b36 := gi_b (lo := 0) (hi := 800) g33 236 4 rfl
            have b37 := gi_b (lo := 0) (hi := 5) g33 236 8 rfl
            refine wk_i ?_
            refine wr_pf2 (k0 := 236) (x := z34) (bl := 0) (bh := 1) (nx := 73) (r1 := 11) (r2 := 23) (r3 := 2) rfl (by decide) rfl ⟨rfl, rfl⟩ rfl (by omega) rfl g33 rfl (by omega) (fun h38 g38 w38 u38 => ?_)
            have F39 := F35.then rfl u38
            refine wi_aload_n (i := 0) (x := 236) (nx := 74) (r1 := 0) (r2 := 0) (r3 := 0) rfl rfl ?_
            refine wr_gr (k0 := 236) (x := 239) (nx := 77) (r1 := 11) (r2 := 14) (r3 := 0) rfl rfl (by decide) rfl ⟨rfl, rfl⟩ rfl ?_
            refine wi_iconst (n := 3) (nx := 78) (r1 := 0) (r2 := 0) (r3 := 0) rfl ?_
            refine wi_aload_n (i := 0) (x := 236) (nx := 79) (r1 := 0) (r2 := 0) (r3 := 0) rfl rfl ?_
            refine wi_iconst (n := 0) (nx := 80) (r1 := 0) (r2 := 0) (r3 := 0) rfl ?_
            refine wi_bipush (n := 11) (nx := 82) (r1 := 0) (r2 := 0) (r3 := 0) rfl (by decide) ?_
            refine wr_V (k0 := 236) (rest := [vi 3, .ref 239]) (as := [.ref 236, vi 0, vi 11]) (nx := 85) (r1 := 231) (r2 := 2) (r3 := 11) rfl rfl rfl (of_decide_eq_true rfl) rfl rfl (by decide) rfl rfl (of_decide_eq_true rfl) (of_decide_eq_true rfl) ?_
            have e41 : h38 236 4 = h33 236 4 := (u38 236 4 rfl)
            have e42 : h38 236 3 = h 236 3 := ((u38 236 3 rfl).trans (u33 236 3 rfl))
            refine ct_231_236 hcr  g38 0 11 (by omega) (by omega) (show (h38 236 4) ≤ (h38 236 3) by omega) (fun h40 z43 g40 u40 (fz43 : 0 ≤ z43 ∧ z43 ≤ 999) (p40_0 : (h38 236 4) ≤ (h40 236 4)) (p40_1 : (h40 236 4) ≤ (h38 236 3)) (p40_2 : 1 ≤ (h40 236 8) ∨ (h38 236 8) = 0) (p40_3 : 1 ≤ (h40 236 8) ∨ (0 ≤ z43 ∧ z43 ≤ 11)) (p40_4 : 1 ≤ (h40 236 8) ∨ (h38 236 6) = 2) => ?_)
            have F44 := F39.then (by decide +kernel) u40
            have b45 := gi_b (lo := 0) (hi := 800) g40 236 4 rfl
            have e46 : h38 236 8 = h33 236 8 := (u38 236 8 rfl)
            have b47 := gi_b (lo := 0) (hi := 5) g40 236 8 rfl
            have b48 := gi_b (lo := 0) (hi := 4) g33 236 6 rfl
            have e49 : h38 236 6 = h33 236 6 := (u38 236 6 rfl)
            refine wk_i ?_
            refine wr_is (k0 := 239) (a := 3) (f := 3) (x := z43) (bl := 0) (bh := 999) (nx := 86) (r1 := 0) (r2 := 0) (r3 := 0) rfl (by decide) rfl (by omega) (by omega) (by decide) g40 rfl (by omega) (fun h50 g50 w50 u50 => ?_)
            have F51 := F44.then rfl u50
            refine wi_aload_n (i := 0) (x := 236) (nx := 87) (r1 := 0) (r2 := 0) (r3 := 0) rfl rfl ?_
            refine wr_gr (k0 := 236) (x := 239) (nx := 90) (r1 := 11) (r2 := 14) (r3 := 0) rfl rfl (by decide) rfl ⟨rfl, rfl⟩ rfl ?_
            refine wi_iconst (n := 4) (nx := 91) (r1 := 0) (r2 := 0) (r3 := 0) rfl ?_
            refine wi_aload_n (i := 0) (x := 236) (nx := 92) (r1 := 0) (r2 := 0) (r3 := 0) rfl rfl ?_
            refine wi_iconst (n := 0) (nx := 93) (r1 := 0) (r2 := 0) (r3 := 0) rfl ?_
            refine wi_bipush (n := 11) (nx := 95) (r1 := 0) (r2 := 0) (r3 := 0) rfl (by decide) ?_
            refine wr_V (k0 := 236) (rest := [vi 4, .ref 239]) (as := [.ref 236, vi 0, vi 11]) (nx := 98) (r1 := 231) (r2 := 2) (r3 := 11) rfl rfl rfl (of_decide_eq_true rfl) rfl rfl (by decide) rfl rfl (of_decide_eq_true rfl) (of_decide_eq_true rfl) ?_
            have e53 : h50 236 4 = h40 236 4 := (u50 236 4 rfl)
            have e54 : h50 236 3 = h 236 3 := ((u50 236 3 rfl).trans ((u40 236 3 rfl).trans ((u38 236 3 rfl).trans (u33 236 3 rfl))))
            refine ct_231_236 hcr  g50 0 11 (by omega) (by omega) (show (h50 236 4) ≤ (h50 236 3) by omega) (fun h52 z55 g52 u52 (fz55 : 0 ≤ z55 ∧ z55 ≤ 999) (p52_0 : (h50 236 4) ≤ (h52 236 4)) (p52_1 : (h52 236 4) ≤ (h50 236 3)) (p52_2 : 1 ≤ (h52 236 8) ∨ (h50 236 8) = 0) (p52_3 : 1 ≤ (h52 236 8) ∨ (0 ≤ z55 ∧ z55 ≤ 11)) (p52_4 : 1 ≤ (h52 236 8) ∨ (h50 236 6) = 2) => ?_)
            have F56 := F51.then (by decide +kernel) u52
            have b57 := gi_b (lo := 0) (hi := 800) g52 236 4 rfl
            have e58 : h50 236 8 = h40 236 8 := (u50 236 8 rfl)
            have b59 := gi_b (lo := 0) (hi := 5) g52 236 8 rfl
            have b60 := gi_b (lo := 0) (hi := 4) g40 236 6 rfl
            have e61 : h50 236 6 = h40 236 6 := (u50 236 6 rfl)
            refine wk_i ?_
            refine wr_is (k0 := 239) (a := 4) (f := 4) (x := z55) (bl := 0) (bh := 999) (nx := 99) (r1 := 0) (r2 := 0) (r3 := 0) rfl (by decide) rfl (by omega) (by omega) (by decide) g52 rfl (by omega) (fun h62 g62 w62 u62 => ?_)
            have F63 := F56.then rfl u62
            refine wi_goto (nx := 102) (r1 := 256) (r2 := 0) (r3 := 0) rfl ?_
            refine wi_return (nx := 257) (r1 := 0) (r2 := 0) (r3 := 0) rfl rfl ?_
            have e64 : h62 236 4 = h52 236 4 := (u62 236 4 rfl)
            have e65 : h62 236 8 = h52 236 8 := (u62 236 8 rfl)
            have e66 : h62 239 5 = h 239 5 := ((u62 239 5 rfl).trans ((u52 239 5 rfl).trans ((u50 239 5 rfl).trans ((u40 239 5 rfl).trans ((u38 239 5 rfl).trans (u33 239 5 rfl))))))
            have e67 : h62 239 7 = h 239 7 := ((u62 239 7 rfl).trans ((u52 239 7 rfl).trans ((u50 239 7 rfl).trans ((u40 239 7 rfl).trans ((u38 239 7 rfl).trans (u33 239 7 rfl))))))
            have e68 : h62 239 15 = h 239 15 := ((u62 239 15 rfl).trans ((u52 239 15 rfl).trans ((u50 239 15 rfl).trans ((u40 239 15 rfl).trans ((u38 239 15 rfl).trans (u33 239 15 rfl))))))
            have e69 : h62 239 16 = h 239 16 := ((u62 239 16 rfl).trans ((u52 239 16 rfl).trans ((u50 239 16 rfl).trans ((u40 239 16 rfl).trans ((u38 239 16 rfl).trans (u33 239 16 rfl))))))
            have e70 : h62 239 17 = h 239 17 := ((u62 239 17 rfl).trans ((u52 239 17 rfl).trans ((u50 239 17 rfl).trans ((u40 239 17 rfl).trans ((u38 239 17 rfl).trans (u33 239 17 rfl))))))
            have e71 : h62 239 18 = h 239 18 := ((u62 239 18 rfl).trans ((u52 239 18 rfl).trans ((u50 239 18 rfl).trans ((u40 239 18 rfl).trans ((u38 239 18 rfl).trans (u33 239 18 rfl))))))
            exact k h62 g62 F63 (show (h 236 4) ≤ (h62 236 4) by omega) (show (h62 236 4) ≤ (h 236 3) by omega) (show 1 ≤ (h62 236 8) ∨ ((h62 239 5) ≤ 9 ∧ 1 ≤ (h62 239 5) ∧ (h62 239 7) ≤ 3 ∧ (h62 239 15) ≤ 6 ∧ (h62 239 16) ≤ 6 ∧ (h62 239 17) ≤ 6 ∧ (h62 239 18) ≤ 6) by omega)
        ·
          refine wi_iconst (n := 1) (nx := 25) (r1 := 0) (r2 := 0) (r3 := 0) rfl ?_
          refine wi_goto (nx := 28) (r1 := 29) (r2 := 0) (r3 := 0) rfl ?_
          refine wi_zreturn (nx := 30) (r1 := 0) (r2 := 0) (r3 := 0) rfl rfl (by omega) ?_
          refine wk_i ?_
          refine wi_if (cd := .eq) (nx := 44) (r1 := 51) (r2 := 0) (r3 := 0) rfl (by omega) (fun (q26 : 1 = 0) => by exfalso; omega) (fun (q26 : ¬ (1 = 0)) => ?_)
          refine wi_aload_n (i := 0) (x := 236) (nx := 45) (r1 := 0) (r2 := 0) (r3 := 0) rfl rfl ?_
          refine wr_V (k0 := 236) (rest := []) (as := [.ref 236]) (nx := 48) (r1 := 233) (r2 := 0) (r3 := 11) rfl rfl rfl (of_decide_eq_true rfl) rfl rfl (by decide) rfl rfl (of_decide_eq_true rfl) (of_decide_eq_true rfl) ?_
          refine ct_233_236 hcr  g   (show (h 236 4) ≤ (h 236 3) by omega) (show (h 236 8) = 0 by omega) (show (h 239 5) ≤ 9 by omega) (show 1 ≤ (h 239 5) by omega) (show (h 239 7) ≤ 3 by omega) (show (h 239 15) ≤ 6 by omega) (show (h 239 16) ≤ 6 by omega) (show (h 239 17) ≤ 6 by omega) (show (h 239 18) ≤ 6 by omega) (fun h27 g27 u27 (p27_0 : (h 236 4) ≤ (h27 236 4)) (p27_1 : (h27 236 4) ≤ (h 236 3)) (p27_2 : 1 ≤ (h27 236 8) ∨ ((h27 239 5) ≤ 9 ∧ 1 ≤ (h27 239 5) ∧ (h27 239 7) ≤ 3 ∧ (h27 239 15) ≤ 6 ∧ (h27 239 16) ≤ 6 ∧ (h27 239 17) ≤ 6 ∧ (h27 239 18) ≤ 6)) => ?_)
          have F28 := F0.then (by decide +kernel) u27
          have b29 := gi_b (lo := 0) (hi := 800) g27 236 4 rfl
          have b30 := gi_b (lo := 0) (hi := 5) g27 236 8 rfl
          have e31 : h27 239 5 = h 239 5 := (u27 239 5 rfl)
          have e32 : h27 239 7 = h 239 7 := (u27 239 7 rfl)
          have e33 : h27 239 15 = h 239 15 := (u27 239 15 rfl)
          have e34 : h27 239 16 = h 239 16 := (u27 239 16 rfl)
          have e35 : h27 239 17 = h 239 17 := (u27 239 17 rfl)
          have e36 : h27 239 18 = h 239 18 := (u27 239 18 rfl)
          refine wk_n ?_
          refine wi_goto (nx := 51) (r1 := 256) (r2 := 0) (r3 := 0) rfl ?_
          refine wi_return (nx := 257) (r1 := 0) (r2 := 0) (r3 := 0) rfl rfl ?_
          exact k h27 g27 F28 (show (h 236 4) ≤ (h27 236 4) by omega) (show (h27 236 4) ≤ (h 236 3) by omega) (show 1 ≤ (h27 236 8) ∨ ((h27 239 5) ≤ 9 ∧ 1 ≤ (h27 239 5) ∧ (h27 239 7) ≤ 3 ∧ (h27 239 15) ≤ 6 ∧ (h27 239 16) ≤ 6 ∧ (h27 239 17) ≤ 6 ∧ (h27 239 18) ≤ 6) by omega)
      ·
        refine wi_iconst (n := 1) (nx := 25) (r1 := 0) (r2 := 0) (r3 := 0) rfl ?_
        refine wi_goto (nx := 28) (r1 := 29) (r2 := 0) (r3 := 0) rfl ?_
        refine wi_zreturn (nx := 30) (r1 := 0) (r2 := 0) (r3 := 0) rfl rfl (by omega) ?_
        refine wk_i ?_
        refine wi_if (cd := .eq) (nx := 27) (r1 := 34) (r2 := 0) (r3 := 0) rfl (by omega) (fun (q21 : 1 = 0) => by exfalso; omega) (fun (q21 : ¬ (1 = 0)) => ?_)
        refine wi_aload_n (i := 0) (x := 236) (nx := 28) (r1 := 0) (r2 := 0) (r3 := 0) rfl rfl ?_
        refine wr_V (k0 := 236) (rest := []) (as := [.ref 236]) (nx := 31) (r1 := 232) (r2 := 0) (r3 := 11) rfl rfl rfl (of_decide_eq_true rfl) rfl rfl (by decide) rfl rfl (of_decide_eq_true rfl) (of_decide_eq_true rfl) ?_
        refine ct_232_236 hcr  g   (show (h 236 4) ≤ (h 236 3) by omega) (show (h 236 8) = 0 by omega) (show (h 239 5) ≤ 9 by omega) (show 1 ≤ (h 239 5) by omega) (show (h 239 7) ≤ 3 by omega) (show (h 239 15) ≤ 6 by omega) (show (h 239 16) ≤ 6 by omega) (show (h 239 17) ≤ 6 by omega) (show (h 239 18) ≤ 6 by omega) (fun h22 g22 u22 (p22_0 : (h 236 4) ≤ (h22 236 4)) (p22_1 : (h22 236 4) ≤ (h 236 3)) (p22_2 : 1 ≤ (h22 236 8) ∨ ((h22 239 5) ≤ 9 ∧ 1 ≤ (h22 239 5) ∧ (h22 239 7) ≤ 3 ∧ (h22 239 15) ≤ 6 ∧ (h22 239 16) ≤ 6 ∧ (h22 239 17) ≤ 6 ∧ (h22 239 18) ≤ 6)) => ?_)
        have F23 := F0.then (by decide +kernel) u22
        have b24 := gi_b (lo := 0) (hi := 800) g22 236 4 rfl
        have b25 := gi_b (lo := 0) (hi := 5) g22 236 8 rfl
        have e26 : h22 239 5 = h 239 5 := (u22 239 5 rfl)
        have e27 : h22 239 7 = h 239 7 := (u22 239 7 rfl)
        have b28 := gi_b (lo := 0) (hi := 999) g22 239 15 rfl
        have b29 := gi_b (lo := 0) (hi := 999) g22 239 16 rfl
        have b30 := gi_b (lo := 0) (hi := 999) g22 239 17 rfl
        have b31 := gi_b (lo := 0) (hi := 999) g22 239 18 rfl
        refine wk_n ?_
        refine wi_goto (nx := 34) (r1 := 256) (r2 := 0) (r3 := 0) rfl ?_
        refine wi_return (nx := 257) (r1 := 0) (r2 := 0) (r3 := 0) rfl rfl ?_
        exact k h22 g22 F23 (show (h 236 4) ≤ (h22 236 4) by omega) (show (h22 236 4) ≤ (h 236 3) by omega) (show 1 ≤ (h22 236 8) ∨ ((h22 239 5) ≤ 9 ∧ 1 ≤ (h22 239 5) ∧ (h22 239 7) ≤ 3 ∧ (h22 239 15) ≤ 6 ∧ (h22 239 16) ≤ 6 ∧ (h22 239 17) ≤ 6 ∧ (h22 239 18) ≤ 6) by omega)
    ·
      refine wi_iconst (n := 1) (nx := 25) (r1 := 0) (r2 := 0) (r3 := 0) rfl ?_
      refine wi_goto (nx := 28) (r1 := 29) (r2 := 0) (r3 := 0) rfl ?_
      refine wi_zreturn (nx := 30) (r1 := 0) (r2 := 0) (r3 := 0) rfl rfl (by omega) ?_
      refine wk_i ?_
      refine wi_if (cd := .eq) (nx := 10) (r1 := 17) (r2 := 0) (r3 := 0) rfl (by omega) (fun (q16 : 1 = 0) => by exfalso; omega) (fun (q16 : ¬ (1 = 0)) => ?_)
      refine wi_aload_n (i := 0) (x := 236) (nx := 11) (r1 := 0) (r2 := 0) (r3 := 0) rfl rfl ?_
      refine wr_V (k0 := 236) (rest := []) (as := [.ref 236]) (nx := 14) (r1 := 222) (r2 := 0) (r3 := 11) rfl rfl rfl (of_decide_eq_true rfl) rfl rfl (by decide) rfl rfl (of_decide_eq_true rfl) (of_decide_eq_true rfl) ?_
      refine ct_222_236 hcr  g   (show (h 236 4) ≤ (h 236 3) by omega) (show (h 236 8) = 0 by omega) (show (h 239 5) ≤ 9 by omega) (show 1 ≤ (h 239 5) by omega) (show (h 239 7) ≤ 3 by omega) (show (h 239 15) ≤ 6 by omega) (show (h 239 16) ≤ 6 by omega) (show (h 239 17) ≤ 6 by omega) (show (h 239 18) ≤ 6 by omega) (fun h17 g17 u17 (p17_0 : (h 236 4) ≤ (h17 236 4)) (p17_1 : (h17 236 4) ≤ (h 236 3)) (p17_2 : 1 ≤ (h17 236 8) ∨ ((h17 239 5) ≤ 9 ∧ 1 ≤ (h17 239 5) ∧ (h17 239 7) ≤ 3 ∧ (h17 239 15) ≤ 6 ∧ (h17 239 16) ≤ 6 ∧ (h17 239 17) ≤ 6 ∧ (h17 239 18) ≤ 6)) => ?_)
      have F18 := F0.then (by decide +kernel) u17
      have b19 := gi_b (lo := 0) (hi := 800) g17 236 4 rfl
      have b20 := gi_b (lo := 0) (hi := 5) g17 236 8 rfl
      have e21 : h17 239 5 = h 239 5 := (u17 239 5 rfl)
      have e22 : h17 239 7 = h 239 7 := (u17 239 7 rfl)
      have e23 : h17 239 15 = h 239 15 := (u17 239 15 rfl)
      have e24 : h17 239 16 = h 239 16 := (u17 239 16 rfl)
      have e25 : h17 239 17 = h 239 17 := (u17 239 17 rfl)
      have e26 : h17 239 18 = h 239 18 := (u17 239 18 rfl)
      refine wk_n ?_
      refine wi_goto (nx := 17) (r1 := 256) (r2 := 0) (r3 := 0) rfl ?_
      refine wi_return (nx := 257) (r1 := 0) (r2 := 0) (r3 := 0) rfl rfl ?_
      exact k h17 g17 F18 (show (h 236 4) ≤ (h17 236 4) by omega) (show (h17 236 4) ≤ (h 236 3) by omega) (show 1 ≤ (h17 236 8) ∨ ((h17 239 5) ≤ 9 ∧ 1 ≤ (h17 239 5) ∧ (h17 239 7) ≤ 3 ∧ (h17 239 15) ≤ 6 ∧ (h17 239 16) ≤ 6 ∧ (h17 239 17) ≤ 6 ∧ (h17 239 18) ≤ 6) by omega)
-- method 235: Model.mustSign(I)V
set_option maxRecDepth 100000 in
set_option maxHeartbeats 100000000 in
theorem ct_235_236 {L : Nat} {xs : Nat → Int32} {d b c : Nat} {h : hp} {cr : Nat → Nat → Option Nat} {Q : hp_Q} (hcr : CR cr)  (g : GI h) (a0 : Int) (q0_ : 0 ≤ a0 ∧ a0 ≤ 255) (pp0 : h 236 4 ≤ h 236 3) (k : ∀ (h2 : hp) , GI h2 → FR [(236, 236, some (4, 4)), (236, 236, some (5, 5)), (236, 236, some (6, 6)), (236, 236, some (7, 7)), (236, 236, some (8, 8)), (236, 236, some (9, 9)), (236, 236, some (12, 12))] h h2 → (h 236 4 ≤ h2 236 4) → (h2 236 4 ≤ h 236 3) → (1 ≤ h2 236 8 ∨ h 236 8 = 0) → (1 ≤ h2 236 8 ∨ h2 236 6 = 0 ∨ h 236 4 + 1 ≤ h2 236 4) → Q (.inl none) (hp_w h2 cr) b c) : wp (md_xa (L, xs)) (d + 2) 235 (0, [(0, .ref 236), (1, vi a0)], [], hp_w h cr, b, c) Q := by
  have F0 : FR [(236, 236, some (4, 4)), (236, 236, some (5, 5)), (236, 236, some (6, 6)), (236, 236, some (7, 7)), (236, 236, some (8, 8)), (236, 236, some (9, 9)), (236, 236, some (12, 12))] h h := FR.refl
  have b1 := gi_b (lo := 0) (hi := 800) g 236 4 rfl
  have b2 := gi_b (lo := 0) (hi := 800) g 236 3 rfl
  refine wi_aload_n (i := 0) (x := 236) (nx := 1) (r1 := 0) (r2 := 0) (r3 := 0) rfl rfl ?_
  refine wr_V (k0 := 236) (rest := []) (as := [.ref 236]) (nx := 4) (r1 := 219) (r2 := 0) (r3 := 11) rfl rfl rfl (of_decide_eq_true rfl) rfl rfl (by decide) rfl rfl (of_decide_eq_true rfl) (of_decide_eq_true rfl) ?_
  refine wi_aload_n (i := 0) (x := 236) (nx := 1) (r1 := 0) (r2 := 0) (r3 := 0) rfl rfl ?_
  have b3 := gi_b (lo := 0) (hi := 5) g 236 8 rfl
  refine wr_gi0 (k0 := 236) (x := h 236 8) (nx := 4) (r1 := 11) (r2 := 8) (r3 := 0) rfl rfl (by decide) rfl ⟨rfl, rfl⟩ rfl rfl ?_
  refine wi_if (cd := .ne) (nx := 7) (r1 := 11) (r2 := 0) (r3 := 0) rfl (by omega) (fun (q4 : (h 236 8) ≠ 0) => ?_) (fun (q4 : ¬ ((h 236 8) ≠ 0)) => ?_)
  ·
    refine wi_iconst (n := 0) (nx := 12) (r1 := 0) (r2 := 0) (r3 := 0) rfl ?_
    refine wi_zreturn (nx := 13) (r1 := 0) (r2 := 0) (r3 := 0) rfl rfl (by omega) ?_
    refine wk_i ?_
    refine wi_if (cd := .eq) (nx := 7) (r1 := 20) (r2 := 0) (r3 := 0) rfl (by omega) (fun (q5 : 0 = 0) => ?_) (fun (q5 : ¬ (0 = 0)) => by exfalso; omega)
    refine wi_aload_n (i := 0) (x := 236) (nx := 21) (r1 := 0) (r2 := 0) (r3 := 0) rfl rfl ?_
    refine wr_V (k0 := 236) (rest := []) (as := [.ref 236]) (nx := 24) (r1 := 219) (r2 := 0) (r3 := 11) rfl rfl rfl (of_decide_eq_true rfl) rfl rfl (by decide) rfl rfl (of_decide_eq_true rfl) (of_decide_eq_true rfl) ?_
    refine wi_aload_n (i := 0) (x := 236) (nx := 1) (r1 := 0) (r2 := 0) (r3 := 0) rfl rfl ?_
    refine wr_gi0 (k0 := 236) (x := h 236 8) (nx := 4) (r1 := 11) (r2 := 8) (r3 := 0) rfl rfl (by decide) rfl ⟨rfl, rfl⟩ rfl rfl ?_
    refine wi_if (cd := .ne) (nx := 7) (r1 := 11) (r2 := 0) (r3 := 0) rfl (by omega) (fun (q6 : (h 236 8) ≠ 0) => ?_) (fun (q6 : ¬ ((h 236 8) ≠ 0)) => by exfalso; omega)
    refine wi_iconst (n := 0) (nx := 12) (r1 := 0) (r2 := 0) (r3 := 0) rfl ?_
    refine wi_zreturn (nx := 13) (r1 := 0) (r2 := 0) (r3 := 0) rfl rfl (by omega) ?_
    refine wk_i ?_
    refine wi_if (cd := .eq) (nx := 27) (r1 := 31) (r2 := 0) (r3 := 0) rfl (by omega) (fun (q7 : 0 = 0) => ?_) (fun (q7 : ¬ (0 = 0)) => by exfalso; omega)
    refine wi_return (nx := 32) (r1 := 0) (r2 := 0) (r3 := 0) rfl rfl ?_
    have b8 := gi_b (lo := 0) (hi := 4) g 236 6 rfl
    exact k h g F0 (show (h 236 4) ≤ (h 236 4) by omega) (show (h 236 4) ≤ (h 236 3) by omega) (show 1 ≤ (h 236 8) ∨ (h 236 8) = 0 by omega) (show 1 ≤ (h 236 8) ∨ (h 236 6) = 0 ∨ (h 236 4) + 1 ≤ (h 236 4) by omega)
  ·
    refine wi_iconst (n := 1) (nx := 8) (r1 := 0) (r2 := 0) (r3 := 0) rfl ?_
    refine wi_goto (nx := 11) (r1 := 12) (r2 := 0) (r3 := 0) rfl ?_
    refine wi_zreturn (nx := 13) (r1 := 0) (r2 := 0) (r3 := 0) rfl rfl (by omega) ?_
    refine wk_i ?_
    refine wi_if (cd := .eq) (nx := 7) (r1 := 20) (r2 := 0) (r3 := 0) rfl (by omega) (fun (q5 : 1 = 0) => by exfalso; omega) (fun (q5 : ¬ (1 = 0)) => ?_)
    refine wi_aload_n (i := 0) (x := 236) (nx := 8) (r1 := 0) (r2 := 0) (r3 := 0) rfl rfl ?_
    refine wi_iload_n (i := 1) (e := a0) (nx := 9) (r1 := 0) (r2 := 0) (r3 := 0) rfl rfl ?_
    refine wr_V (k0 := 236) (rest := []) (as := [.ref 236, vi a0]) (nx := 12) (r1 := 236) (r2 := 1) (r3 := 11) rfl rfl rfl (of_decide_eq_true rfl) rfl rfl (by decide) rfl rfl (of_decide_eq_true rfl) (of_decide_eq_true rfl) ?_
    refine wi_aload_n (i := 0) (x := 236) (nx := 1) (r1 := 0) (r2 := 0) (r3 := 0) rfl rfl ?_
    refine wr_gi0 (k0 := 236) (x := h 236 8) (nx := 4) (r1 := 11) (r2 := 8) (r3 := 0) rfl rfl (by decide) rfl ⟨rfl, rfl⟩ rfl rfl ?_
    refine wi_if (cd := .ne) (nx := 7) (r1 := 27) (r2 := 0) (r3 := 0) rfl (by omega) (fun (q6 : (h 236 8) ≠ 0) => by exfalso; omega) (fun (q6 : ¬ ((h 236 8) ≠ 0)) => ?_)
    refine wi_aload_n (i := 0) (x := 236) (nx := 8) (r1 := 0) (r2 := 0) (r3 := 0) rfl rfl ?_
    have b7 := gi_b (lo := 0) (hi := 4) g 236 6 rfl
    refine wr_gi0 (k0 := 236) (x := h 236 6) (nx := 11) (r1 := 11) (r2 := 6) (r3 := 0) rfl rfl (by decide) rfl ⟨rfl, rfl⟩ rfl rfl ?_
    refine wi_iconst (n := 3) (nx := 12) (r1 := 0) (r2 := 0) (r3 := 0) rfl ?_
    refine wi_icmp (cd := .ne) (nx := 15) (r1 := 27) (r2 := 0) (r3 := 0) rfl (by omega) (by omega) (fun (q8 : (h 236 6) ≠ 3) => ?_) (fun (q8 : ¬ ((h 236 6) ≠ 3)) => ?_)
    ·
      refine wi_iconst (n := 0) (nx := 28) (r1 := 0) (r2 := 0) (r3 := 0) rfl ?_
      refine wi_zreturn (nx := 29) (r1 := 0) (r2 := 0) (r3 := 0) rfl rfl (by omega) ?_
      refine wk_i ?_
      refine wi_if (cd := .ne) (nx := 15) (r1 := 20) (r2 := 0) (r3 := 0) rfl (by omega) (fun (q9 : 0 ≠ 0) => by exfalso; omega) (fun (q9 : ¬ (0 ≠ 0)) => ?_)
      refine wi_aload_n (i := 0) (x := 236) (nx := 16) (r1 := 0) (r2 := 0) (r3 := 0) rfl rfl ?_
      refine wi_iconst (n := 1) (nx := 17) (r1 := 0) (r2 := 0) (r3 := 0) rfl ?_
      refine wr_V (k0 := 236) (rest := []) (as := [.ref 236, vi 1]) (nx := 20) (r1 := 224) (r2 := 1) (r3 := 11) rfl rfl rfl (of_decide_eq_true rfl) rfl rfl (by decide) rfl rfl (of_decide_eq_true rfl) (of_decide_eq_true rfl) ?_
      refine ct_224_236 hcr  g 1 (by omega)  (fun h10 g10 u10 (p10_0 : 1 ≤ (h10 236 8)) => ?_)
      have F11 := F0.then (by decide +kernel) u10
      have b12 := gi_b (lo := 0) (hi := 5) g10 236 8 rfl
      refine wk_n ?_
      refine wi_aload_n (i := 0) (x := 236) (nx := 21) (r1 := 0) (r2 := 0) (r3 := 0) rfl rfl ?_
      refine wr_V (k0 := 236) (rest := []) (as := [.ref 236]) (nx := 24) (r1 := 219) (r2 := 0) (r3 := 11) rfl rfl rfl (of_decide_eq_true rfl) rfl rfl (by decide) rfl rfl (of_decide_eq_true rfl) (of_decide_eq_true rfl) ?_
      refine wi_aload_n (i := 0) (x := 236) (nx := 1) (r1 := 0) (r2 := 0) (r3 := 0) rfl rfl ?_
      refine wr_gi0 (k0 := 236) (x := h10 236 8) (nx := 4) (r1 := 11) (r2 := 8) (r3 := 0) rfl rfl (by decide) rfl ⟨rfl, rfl⟩ rfl rfl ?_
      refine wi_if (cd := .ne) (nx := 7) (r1 := 11) (r2 := 0) (r3 := 0) rfl (by omega) (fun (q13 : (h10 236 8) ≠ 0) => ?_) (fun (q13 : ¬ ((h10 236 8) ≠ 0)) => by exfalso; omega)
      refine wi_iconst (n := 0) (nx := 12) (r1 := 0) (r2 := 0) (r3 := 0) rfl ?_
      refine wi_zreturn (nx := 13) (r1 := 0) (r2 := 0) (r3 := 0) rfl rfl (by omega) ?_
      refine wk_i ?_
      refine wi_if (cd := .eq) (nx := 27) (r1 := 31) (r2 := 0) (r3 := 0) rfl (by omega) (fun (q14 : 0 = 0) => ?_) (fun (q14 : ¬ (0 = 0)) => by exfalso; omega)
      refine wi_return (nx := 32) (r1 := 0) (r2 := 0) (r3 := 0) rfl rfl ?_
      have e15 : h10 236 4 = h 236 4 := (u10 236 4 rfl)
      have e16 : h10 236 6 = h 236 6 := (u10 236 6 rfl)
      exact k h10 g10 F11 (show (h 236 4) ≤ (h10 236 4) by omega) (show (h10 236 4) ≤ (h 236 3) by omega) (show 1 ≤ (h10 236 8) ∨ (h 236 8) = 0 by omega) (show 1 ≤ (h10 236 8) ∨ (h10 236 6) = 0 ∨ (h 236 4) + 1 ≤ (h10 236 4) by omega)
    ·
      refine wi_aload_n (i := 0) (x := 236) (nx := 16) (r1 := 0) (r2 := 0) (r3 := 0) rfl rfl ?_
      have b9 := gi_b (lo := 0) (hi := 999) g 236 7 rfl
      refine wr_gi0 (k0 := 236) (x := h 236 7) (nx := 19) (r1 := 11) (r2 := 7) (r3 := 0) rfl rfl (by decide) rfl ⟨rfl, rfl⟩ rfl rfl ?_
      refine wi_iload_n (i := 1) (e := a0) (nx := 20) (r1 := 0) (r2 := 0) (r3 := 0) rfl rfl ?_
      refine wi_icmp (cd := .ne) (nx := 23) (r1 := 27) (r2 := 0) (r3 := 0) rfl (by omega) (by omega) (fun (q10 : (h 236 7) ≠ a0) => ?_) (fun (q10 : ¬ ((h 236 7) ≠ a0)) => ?_)
      ·
        refine wi_iconst (n := 0) (nx := 28) (r1 := 0) (r2 := 0) (r3 := 0) rfl ?_
        refine wi_zreturn (nx := 29) (r1 := 0) (r2 := 0) (r3 := 0) rfl rfl (by omega) ?_
        refine wk_i ?_
        refine wi_if (cd := .ne) (nx := 15) (r1 := 20) (r2 := 0) (r3 := 0) rfl (by omega) (fun (q11 : 0 ≠ 0) => by exfalso; omega) (fun (q11 : ¬ (0 ≠ 0)) => ?_)
        refine wi_aload_n (i := 0) (x := 236) (nx := 16) (r1 := 0) (r2 := 0) (r3 := 0) rfl rfl ?_
        refine wi_iconst (n := 1) (nx := 17) (r1 := 0) (r2 := 0) (r3 := 0) rfl ?_
        refine wr_V (k0 := 236) (rest := []) (as := [.ref 236, vi 1]) (nx := 20) (r1 := 224) (r2 := 1) (r3 := 11) rfl rfl rfl (of_decide_eq_true rfl) rfl rfl (by decide) rfl rfl (of_decide_eq_true rfl) (of_decide_eq_true rfl) ?_
        refine ct_224_236 hcr  g 1 (by omega)  (fun h12 g12 u12 (p12_0 : 1 ≤ (h12 236 8)) => ?_)
        have F13 := F0.then (by decide +kernel) u12
        have b14 := gi_b (lo := 0) (hi := 5) g12 236 8 rfl
        refine wk_n ?_
        refine wi_aload_n (i := 0) (x := 236) (nx := 21) (r1 := 0) (r2 := 0) (r3 := 0) rfl rfl ?_
        refine wr_V (k0 := 236) (rest := []) (as := [.ref 236]) (nx := 24) (r1 := 219) (r2 := 0) (r3 := 11) rfl rfl rfl (of_decide_eq_true rfl) rfl rfl (by decide) rfl rfl (of_decide_eq_true rfl) (of_decide_eq_true rfl) ?_
        refine wi_aload_n (i := 0) (x := 236) (nx := 1) (r1 := 0) (r2 := 0) (r3 := 0) rfl rfl ?_
        refine wr_gi0 (k0 := 236) (x := h12 236 8) (nx := 4) (r1 := 11) (r2 := 8) (r3 := 0) rfl rfl (by decide) rfl ⟨rfl, rfl⟩ rfl rfl ?_
        refine wi_if (cd := .ne) (nx := 7) (r1 := 11) (r2 := 0) (r3 := 0) rfl (by omega) (fun (q15 : (h12 236 8) ≠ 0) => ?_) (fun (q15 : ¬ ((h12 236 8) ≠ 0)) => by exfalso; omega)
        refine wi_iconst (n := 0) (nx := 12) (r1 := 0) (r2 := 0) (r3 := 0) rfl ?_
        refine wi_zreturn (nx := 13) (r1 := 0) (r2 := 0) (r3 := 0) rfl rfl (by omega) ?_
        refine wk_i ?_
        refine wi_if (cd := .eq) (nx := 27) (r1 := 31) (r2 := 0) (r3 := 0) rfl (by omega) (fun (q16 : 0 = 0) => ?_) (fun (q16 : ¬ (0 = 0)) => by exfalso; omega)
        refine wi_return (nx := 32) (r1 := 0) (r2 := 0) (r3 := 0) rfl rfl ?_
        have e17 : h12 236 4 = h 236 4 := (u12 236 4 rfl)
        have e18 : h12 236 6 = h 236 6 := (u12 236 6 rfl)
        exact k h12 g12 F13 (show (h 236 4) ≤ (h12 236 4) by omega) (show (h12 236 4) ≤ (h 236 3) by omega) (show 1 ≤ (h12 236 8) ∨ (h 236 8) = 0 by omega) (show 1 ≤ (h12 236 8) ∨ (h12 236 6) = 0 ∨ (h 236 4) + 1 ≤ (h12 236 4) by omega)
      ·
        refine wi_iconst (n := 1) (nx := 24) (r1 := 0) (r2 := 0) (r3 := 0) rfl ?_
        refine wi_goto (nx := 27) (r1 := 28) (r2 := 0) (r3 := 0) rfl ?_
        refine wi_zreturn (nx := 29) (r1 := 0) (r2 := 0) (r3 := 0) rfl rfl (by omega) ?_
        refine wk_i ?_
        refine wi_if (cd := .ne) (nx := 15) (r1 := 20) (r2 := 0) (r3 := 0) rfl (by omega) (fun (q11 : 1 ≠ 0) => ?_) (fun (q11 : ¬ (1 ≠ 0)) => by exfalso; omega)
        refine wi_aload_n (i := 0) (x := 236) (nx := 21) (r1 := 0) (r2 := 0) (r3 := 0) rfl rfl ?_
        refine wr_V (k0 := 236) (rest := []) (as := [.ref 236]) (nx := 24) (r1 := 219) (r2 := 0) (r3 := 11) rfl rfl rfl (of_decide_eq_true rfl) rfl rfl (by decide) rfl rfl (of_decide_eq_true rfl) (of_decide_eq_true rfl) ?_
        refine wi_aload_n (i := 0) (x := 236) (nx := 1) (r1 := 0) (r2 := 0) (r3 := 0) rfl rfl ?_
        refine wr_gi0 (k0 := 236) (x := h 236 8) (nx := 4) (r1 := 11) (r2 := 8) (r3 := 0) rfl rfl (by decide) rfl ⟨rfl, rfl⟩ rfl rfl ?_
        refine wi_if (cd := .ne) (nx := 7) (r1 := 11) (r2 := 0) (r3 := 0) rfl (by omega) (fun (q12 : (h 236 8) ≠ 0) => by exfalso; omega) (fun (q12 : ¬ ((h 236 8) ≠ 0)) => ?_)
        refine wi_iconst (n := 1) (nx := 8) (r1 := 0) (r2 := 0) (r3 := 0) rfl ?_
        refine wi_goto (nx := 11) (r1 := 12) (r2 := 0) (r3 := 0) rfl ?_
        refine wi_zreturn (nx := 13) (r1 := 0) (r2 := 0) (r3 := 0) rfl rfl (by omega) ?_
        refine wk_i ?_
        refine wi_if (cd := .eq) (nx := 27) (r1 := 31) (r2 := 0) (r3 := 0) rfl (by omega) (fun (q13 : 1 = 0) => by exfalso; omega) (fun (q13 : ¬ (1 = 0)) => ?_)
        refine wi_aload_n (i := 0) (x := 236) (nx := 28) (r1 := 0) (r2 := 0) (r3 := 0) rfl rfl ?_
        refine wr_V (k0 := 236) (rest := []) (as := [.ref 236]) (nx := 31) (r1 := 215) (r2 := 0) (r3 := 11) rfl rfl rfl (of_decide_eq_true rfl) rfl rfl (by decide) rfl rfl (of_decide_eq_true rfl) (of_decide_eq_true rfl) ?_
        refine ct_215_236 hcr  g   (show (h 236 4) ≤ (h 236 3) by omega) (fun h14 g14 u14 (p14_0 : (h 236 4) ≤ (h14 236 4)) (p14_1 : (h14 236 4) ≤ (h 236 3)) (p14_2 : (h14 236 6) = 0 ∨ (h 236 4) + 1 ≤ (h14 236 4)) => ?_)
        have F15 := F0.then (by decide +kernel) u14
        have b16 := gi_b (lo := 0) (hi := 800) g14 236 4 rfl
        have b17 := gi_b (lo := 0) (hi := 4) g14 236 6 rfl
        refine wk_n ?_
        refine wi_return (nx := 32) (r1 := 0) (r2 := 0) (r3 := 0) rfl rfl ?_
        have e18 : h14 236 8 = h 236 8 := (u14 236 8 rfl)
        exact k h14 g14 F15 (show (h 236 4) ≤ (h14 236 4) by omega) (show (h14 236 4) ≤ (h 236 3) by omega) (show 1 ≤ (h14 236 8) ∨ (h 236 8) = 0 by omega) (show 1 ≤ (h14 236 8) ∨ (h14 236 6) = 0 ∨ (h 236 4) + 1 ≤ (h14 236 4) by omega)
-- method 213: Model.readSetup()I
set_option maxRecDepth 100000 in
set_option maxHeartbeats 100000000 in
theorem ct_213_236 {L : Nat} {xs : Nat → Int32} {d b c : Nat} {h : hp} {cr : Nat → Nat → Option Nat} {Q : hp_Q} (hcr : CR cr)  (g : GI h)   (pp0 : h 238 98 + h 238 99 + h 238 100 + h 238 101 + h 238 102 + h 238 106 = h 238 73) (pp1 : h 238 73 ≤ h 238 2) (pp2 : h 238 119 ≤ h 238 67) (pp3 : h 238 69 ≤ h 238 5) (pp4 : h 238 2 ≤ 12 * h 238 5) (k : ∀ (h2 : hp) (z0 : Int) , GI h2 → FR [(238, 238, none), (243, 243, none), (244, 244, none), (236, 236, some (0, 0)), (236, 236, some (2, 2)), (236, 236, some (3, 3)), (236, 236, some (4, 4)), (236, 236, some (5, 5)), (236, 236, some (6, 6)), (236, 236, some (7, 7)), (236, 236, some (8, 8)), (236, 236, some (9, 9)), (236, 236, some (10, 10)), (236, 236, some (11, 11)), (236, 236, some (12, 12)), (236, 236, some (22, 22)), (236, 236, some (23, 23)), (236, 236, some (24, 24)), (236, 236, some (25, 25)), (236, 236, some (26, 26)), (236, 236, some (27, 27)), (239, 239, some (0, 0)), (239, 239, some (1, 1)), (239, 239, some (2, 2)), (239, 239, some (3, 3)), (239, 239, some (4, 4)), (239, 239, some (5, 5)), (239, 239, some (6, 6)), (239, 239, some (7, 7)), (239, 239, some (8, 8)), (239, 239, some (9, 9)), (239, 239, some (10, 14)), (239, 239, some (15, 15)), (239, 239, some (16, 16)), (239, 239, some (17, 17)), (239, 239, some (18, 18)), (239, 239, some (19, 30)), (239, 239, some (31, 42)), (239, 239, some (43, 54)), (239, 239, some (55, 55)), (239, 239, some (56, 56)), (239, 239, some (57, 57)), (239, 239, some (58, 58)), (239, 239, some (59, 59)), (239, 239, some (60, 60)), (239, 239, some (61, 61)), (239, 239, some (62, 62)), (239, 239, some (63, 63)), (239, 239, some (64, 64)), (239, 239, some (65, 65)), (239, 239, some (66, 66)), (239, 239, some (67, 67)), (239, 239, some (68, 68)), (239, 239, some (69, 69)), (239, 239, some (70, 70)), (239, 239, some (71, 71)), (239, 239, some (72, 72)), (239, 239, some (73, 73)), (239, 239, some (74, 74)), (239, 239, some (75, 75)), (239, 239, some (76, 76)), (239, 239, some (77, 77)), (239, 239, some (78, 78)), (239, 239, some (79, 79)), (239, 239, some (80, 80)), (239, 239, some (81, 81)), (239, 239, some (82, 82)), (239, 239, some (83, 83)), (239, 239, some (84, 84)), (239, 239, some (85, 85)), (239, 239, some (86, 86)), (239, 239, some (87, 87)), (239, 239, some (88, 88)), (239, 239, some (89, 89)), (239, 239, some (90, 90)), (239, 239, some (91, 91)), (239, 239, some (92, 92)), (239, 239, some (93, 93)), (239, 239, some (94, 94)), (239, 239, some (95, 95)), (239, 239, some (96, 96)), (239, 239, some (97, 97)), (239, 239, some (98, 98)), (239, 239, some (99, 99)), (239, 239, some (100, 100)), (239, 239, some (101, 101)), (239, 239, some (102, 102)), (239, 239, some (103, 103)), (239, 239, some (104, 104)), (239, 239, some (105, 105)), (239, 239, some (106, 106)), (239, 239, some (107, 107)), (239, 239, some (108, 108)), (239, 239, some (109, 109)), (239, 239, some (110, 110)), (239, 239, some (111, 111)), (239, 239, some (112, 112)), (239, 239, some (113, 113)), (239, 239, some (114, 114)), (239, 239, some (115, 115)), (239, 239, some (116, 116)), (239, 239, some (117, 117)), (239, 239, some (118, 118)), (239, 239, some (119, 119)), (239, 239, some (120, 120)), (239, 239, some (121, 121)), (239, 239, some (122, 122)), (239, 239, some (123, 123)), (239, 239, some (124, 124)), (239, 239, some (125, 125)), (239, 239, some (126, 126)), (239, 239, some (127, 127)), (239, 239, some (128, 128)), (239, 239, some (129, 129)), (239, 239, some (130, 130)), (239, 239, some (131, 131)), (239, 239, some (132, 132)), (239, 239, some (133, 133)), (239, 239, some (134, 134)), (239, 239, some (135, 135)), (239, 239, some (136, 136)), (239, 239, some (137, 137)), (239, 239, some (138, 138)), (239, 239, some (139, 139)), (239, 239, some (140, 140)), (239, 239, some (141, 141)), (239, 239, some (142, 142)), (239, 239, some (143, 143)), (239, 239, some (144, 144)), (239, 239, some (145, 145)), (239, 239, some (146, 146)), (239, 239, some (147, 147)), (239, 239, some (148, 148)), (239, 239, some (149, 149)), (239, 239, some (150, 150)), (239, 239, some (151, 151)), (239, 239, some (152, 152)), (239, 239, some (153, 153)), (239, 239, some (154, 154)), (239, 239, some (155, 155)), (239, 239, some (156, 156)), (239, 239, some (157, 157)), (239, 239, some (158, 158)), (239, 239, some (159, 159)), (239, 239, some (160, 160)), (239, 239, some (161, 161)), (239, 239, some (162, 162)), (239, 239, some (163, 163)), (239, 239, some (164, 164)), (239, 239, some (165, 165)), (239, 239, some (166, 166)), (239, 239, some (167, 167)), (239, 239, some (168, 168)), (239, 239, some (169, 169)), (239, 239, some (170, 170)), (239, 239, some (171, 171)), (239, 239, some (172, 172)), (239, 239, some (173, 173)), (239, 239, some (174, 174)), (239, 239, some (175, 175)), (239, 239, some (176, 176)), (239, 239, some (177, 177)), (239, 239, some (178, 178)), (239, 239, some (179, 179)), (239, 239, some (180, 180)), (239, 239, some (181, 181)), (239, 239, some (182, 182)), (239, 239, some (183, 183)), (239, 239, some (184, 184)), (239, 239, some (185, 185)), (239, 239, some (186, 186)), (239, 239, some (187, 187)), (239, 239, some (188, 188)), (239, 239, some (189, 189)), (239, 239, some (190, 190)), (239, 239, some (191, 191)), (239, 239, some (192, 192)), (239, 239, some (193, 193)), (239, 239, some (194, 194)), (239, 239, some (195, 195)), (239, 239, some (196, 196)), (239, 239, some (197, 197)), (239, 239, some (198, 198)), (239, 239, some (199, 199))] h h2 → (-2147483648 ≤ z0 ∧ z0 ≤ 2147483647) → (h2 238 98 + h2 238 99 + h2 238 100 + h2 238 101 + h2 238 102 + h2 238 106 = h2 238 73) → (h2 238 73 ≤ h2 238 2) → (h2 238 119 ≤ h2 238 67) → (h2 238 69 ≤ h2 238 5) → (h2 238 2 ≤ 12 * h2 238 5) → (h2 236 2 = 0) → Q (.inl (some (vi z0))) (hp_w h2 cr) b c) : wp (md_xa (L, xs)) (d + 7) 213 (0, [(0, .ref 236)], [], hp_w h cr, b, c) Q := by
  have F0 : FR [(238, 238, none), (243, 243, none), (244, 244, none), (236, 236, some (0, 0)), (236, 236, some (2, 2)), (236, 236, some (3, 3)), (236, 236, some (4, 4)), (236, 236, some (5, 5)), (236, 236, some (6, 6)), (236, 236, some (7, 7)), (236, 236, some (8, 8)), (236, 236, some (9, 9)), (236, 236, some (10, 10)), (236, 236, some (11, 11)), (236, 236, some (12, 12)), (236, 236, some (22, 22)), (236, 236, some (23, 23)), (236, 236, some (24, 24)), (236, 236, some (25, 25)), (236, 236, some (26, 26)), (236, 236, some (27, 27)), (239, 239, some (0, 0)), (239, 239, some (1, 1)), (239, 239, some (2, 2)), (239, 239, some (3, 3)), (239, 239, some (4, 4)), (239, 239, some (5, 5)), (239, 239, some (6, 6)), (239, 239, some (7, 7)), (239, 239, some (8, 8)), (239, 239, some (9, 9)), (239, 239, some (10, 14)), (239, 239, some (15, 15)), (239, 239, some (16, 16)), (239, 239, some (17, 17)), (239, 239, some (18, 18)), (239, 239, some (19, 30)), (239, 239, some (31, 42)), (239, 239, some (43, 54)), (239, 239, some (55, 55)), (239, 239, some (56, 56)), (239, 239, some (57, 57)), (239, 239, some (58, 58)), (239, 239, some (59, 59)), (239, 239, some (60, 60)), (239, 239, some (61, 61)), (239, 239, some (62, 62)), (239, 239, some (63, 63)), (239, 239, some (64, 64)), (239, 239, some (65, 65)), (239, 239, some (66, 66)), (239, 239, some (67, 67)), (239, 239, some (68, 68)), (239, 239, some (69, 69)), (239, 239, some (70, 70)), (239, 239, some (71, 71)), (239, 239, some (72, 72)), (239, 239, some (73, 73)), (239, 239, some (74, 74)), (239, 239, some (75, 75)), (239, 239, some (76, 76)), (239, 239, some (77, 77)), (239, 239, some (78, 78)), (239, 239, some (79, 79)), (239, 239, some (80, 80)), (239, 239, some (81, 81)), (239, 239, some (82, 82)), (239, 239, some (83, 83)), (239, 239, some (84, 84)), (239, 239, some (85, 85)), (239, 239, some (86, 86)), (239, 239, some (87, 87)), (239, 239, some (88, 88)), (239, 239, some (89, 89)), (239, 239, some (90, 90)), (239, 239, some (91, 91)), (239, 239, some (92, 92)), (239, 239, some (93, 93)), (239, 239, some (94, 94)), (239, 239, some (95, 95)), (239, 239, some (96, 96)), (239, 239, some (97, 97)), (239, 239, some (98, 98)), (239, 239, some (99, 99)), (239, 239, some (100, 100)), (239, 239, some (101, 101)), (239, 239, some (102, 102)), (239, 239, some (103, 103)), (239, 239, some (104, 104)), (239, 239, some (105, 105)), (239, 239, some (106, 106)), (239, 239, some (107, 107)), (239, 239, some (108, 108)), (239, 239, some (109, 109)), (239, 239, some (110, 110)), (239, 239, some (111, 111)), (239, 239, some (112, 112)), (239, 239, some (113, 113)), (239, 239, some (114, 114)), (239, 239, some (115, 115)), (239, 239, some (116, 116)), (239, 239, some (117, 117)), (239, 239, some (118, 118)), (239, 239, some (119, 119)), (239, 239, some (120, 120)), (239, 239, some (121, 121)), (239, 239, some (122, 122)), (239, 239, some (123, 123)), (239, 239, some (124, 124)), (239, 239, some (125, 125)), (239, 239, some (126, 126)), (239, 239, some (127, 127)), (239, 239, some (128, 128)), (239, 239, some (129, 129)), (239, 239, some (130, 130)), (239, 239, some (131, 131)), (239, 239, some (132, 132)), (239, 239, some (133, 133)), (239, 239, some (134, 134)), (239, 239, some (135, 135)), (239, 239, some (136, 136)), (239, 239, some (137, 137)), (239, 239, some (138, 138)), (239, 239, some (139, 139)), (239, 239, some (140, 140)), (239, 239, some (141, 141)), (239, 239, some (142, 142)), (239, 239, some (143, 143)), (239, 239, some (144, 144)), (239, 239, some (145, 145)), (239, 239, some (146, 146)), (239, 239, some (147, 147)), (239, 239, some (148, 148)), (239, 239, some (149, 149)), (239, 239, some (150, 150)), (239, 239, some (151, 151)), (239, 239, some (152, 152)), (239, 239, some (153, 153)), (239, 239, some (154, 154)), (239, 239, some (155, 155)), (239, 239, some (156, 156)), (239, 239, some (157, 157)), (239, 239, some (158, 158)), (239, 239, some (159, 159)), (239, 239, some (160, 160)), (239, 239, some (161, 161)), (239, 239, some (162, 162)), (239, 239, some (163, 163)), (239, 239, some (164, 164)), (239, 239, some (165, 165)), (239, 239, some (166, 166)), (239, 239, some (167, 167)), (239, 239, some (168, 168)), (239, 239, some (169, 169)), (239, 239, some (170, 170)), (239, 239, some (171, 171)), (239, 239, some (172, 172)), (239, 239, some (173, 173)), (239, 239, some (174, 174)), (239, 239, some (175, 175)), (239, 239, some (176, 176)), (239, 239, some (177, 177)), (239, 239, some (178, 178)), (239, 239, some (179, 179)), (239, 239, some (180, 180)), (239, 239, some (181, 181)), (239, 239, some (182, 182)), (239, 239, some (183, 183)), (239, 239, some (184, 184)), (239, 239, some (185, 185)), (239, 239, some (186, 186)), (239, 239, some (187, 187)), (239, 239, some (188, 188)), (239, 239, some (189, 189)), (239, 239, some (190, 190)), (239, 239, some (191, 191)), (239, 239, some (192, 192)), (239, 239, some (193, 193)), (239, 239, some (194, 194)), (239, 239, some (195, 195)), (239, 239, some (196, 196)), (239, 239, some (197, 197)), (239, 239, some (198, 198)), (239, 239, some (199, 199))] h h := FR.refl
  have b1 := gi_b (lo := 0) (hi := 6) g 238 98 rfl
  have b2 := gi_b (lo := 0) (hi := 6) g 238 99 rfl
  have b3 := gi_b (lo := 0) (hi := 6) g 238 100 rfl
  have b4 := gi_b (lo := 0) (hi := 6) g 238 101 rfl
  have b5 := gi_b (lo := 0) (hi := 3) g 238 102 rfl
  have b6 := gi_b (lo := 0) (hi := 12) g 238 106 rfl
  have b7 := gi_b (lo := 0) (hi := 12) g 238 73 rfl
  have b8 := gi_b (lo := 0) (hi := 12) g 238 2 rfl
  have b9 := gi_b (lo := 0) (hi := 9999) g 238 119 rfl
  have b10 := gi_b (lo := 0) (hi := 9999) g 238 67 rfl
  have b11 := gi_b (lo := 0) (hi := 9) g 238 69 rfl
  have b12 := gi_b (lo := 0) (hi := 9) g 238 5 rfl
  refine wi_aload_n (i := 0) (x := 236) (nx := 1) (r1 := 0) (r2 := 0) (r3 := 0) rfl rfl ?_
  refine wr_V (k0 := 236) (rest := []) (as := [.ref 236]) (nx := 4) (r1 := 214) (r2 := 0) (r3 := 11) rfl rfl rfl (of_decide_eq_true rfl) rfl rfl (by decide) rfl rfl (of_decide_eq_true rfl) (of_decide_eq_true rfl) ?_
  refine ct_214_236 hcr  g    (fun h13 g13 u13 (p13_0 : (h13 236 8) = 0) (p13_1 : (h13 236 4) ≤ (h13 236 3)) (p13_2 : (h13 236 2) = 0) => ?_)
  have F14 := F0.then (by decide +kernel) u13
  have b15 := gi_b (lo := 0) (hi := 5) g13 236 8 rfl
  have b16 := gi_b (lo := 0) (hi := 800) g13 236 4 rfl
  have b17 := gi_b (lo := 0) (hi := 800) g13 236 3 rfl
  have b18 := gi_b (lo := 0) (hi := 800) g13 236 2 rfl
  refine wk_n ?_
  refine wi_aload_n (i := 0) (x := 236) (nx := 5) (r1 := 0) (r2 := 0) (r3 := 0) rfl rfl ?_
  refine wr_gr (k0 := 236) (x := 239) (nx := 8) (r1 := 11) (r2 := 14) (r3 := 0) rfl rfl (by decide) rfl ⟨rfl, rfl⟩ rfl ?_
  refine wi_S (rest := []) (as := [.ref 239]) (nx := 11) (r1 := 203) (r2 := 17) (r3 := 0) rfl rfl rfl (of_decide_eq_true rfl) rfl rfl (of_decide_eq_true rfl) (of_decide_eq_true rfl) ?_
  refine ct_203_239 hcr  g13    (fun h19 g19 u19 (p19_0 : (h19 239 5) = 9) (p19_1 : (h19 239 7) = 1) (p19_2 : (h19 239 15) = 0) (p19_3 : (h19 239 16) = 0) (p19_4 : (h19 239 17) = 0) (p19_5 : (h19 239 18) = 0) => ?_)
  have F20 := F14.then (by decide +kernel) u19
  have b21 := gi_b (lo := 0) (hi := 999) g19 239 5 rfl
  have b22 := gi_b (lo := 0) (hi := 999) g19 239 7 rfl
  have b23 := gi_b (lo := 0) (hi := 999) g19 239 15 rfl
  have b24 := gi_b (lo := 0) (hi := 999) g19 239 16 rfl
  have b25 := gi_b (lo := 0) (hi := 999) g19 239 17 rfl
  have b26 := gi_b (lo := 0) (hi := 999) g19 239 18 rfl
  refine wk_n ?_
  refine wi_aload_n (i := 0) (x := 236) (nx := 12) (r1 := 0) (r2 := 0) (r3 := 0) rfl rfl ?_
  refine wi_iconst (n := 0) (nx := 13) (r1 := 0) (r2 := 0) (r3 := 0) rfl ?_
  refine wr_pf2 (k0 := 236) (x := 0) (bl := 0) (bh := 1) (nx := 16) (r1 := 11) (r2 := 23) (r3 := 2) rfl (by decide) rfl ⟨rfl, rfl⟩ rfl (by omega) rfl g19 rfl (by omega) (fun h27 g27 w27 u27 => ?_)
  have F28 := F20.then rfl u27
  refine wi_aload_n (i := 0) (x := 236) (nx := 17) (r1 := 0) (r2 := 0) (r3 := 0) rfl rfl ?_
  refine wi_iconst (n := 0) (nx := 18) (r1 := 0) (r2 := 0) (r3 := 0) rfl ?_
  refine wr_pf2 (k0 := 236) (x := 0) (bl := 0) (bh := 1) (nx := 21) (r1 := 11) (r2 := 24) (r3 := 2) rfl (by decide) rfl ⟨rfl, rfl⟩ rfl (by omega) rfl g27 rfl (by omega) (fun h29 g29 w29 u29 => ?_)
  have F30 := F28.then rfl u29
  refine wi_aload_n (i := 0) (x := 236) (nx := 22) (r1 := 0) (r2 := 0) (r3 := 0) rfl rfl ?_
  refine wi_iconst (n := 0) (nx := 23) (r1 := 0) (r2 := 0) (r3 := 0) rfl ?_
  refine wr_pf2 (k0 := 236) (x := 0) (bl := 0) (bh := 1) (nx := 26) (r1 := 11) (r2 := 25) (r3 := 2) rfl (by decide) rfl ⟨rfl, rfl⟩ rfl (by omega) rfl g29 rfl (by omega) (fun h31 g31 w31 u31 => ?_)
  have F32 := F30.then rfl u31
  refine wi_aload_n (i := 0) (x := 236) (nx := 27) (r1 := 0) (r2 := 0) (r3 := 0) rfl rfl ?_
  refine wi_iconst (n := 0) (nx := 28) (r1 := 0) (r2 := 0) (r3 := 0) rfl ?_
  refine wr_pf2 (k0 := 236) (x := 0) (bl := 0) (bh := 1) (nx := 31) (r1 := 11) (r2 := 26) (r3 := 2) rfl (by decide) rfl ⟨rfl, rfl⟩ rfl (by omega) rfl g31 rfl (by omega) (fun h33 g33 w33 u33 => ?_)
  have F34 := F32.then rfl u33
  refine wi_aload_n (i := 0) (x := 236) (nx := 32) (r1 := 0) (r2 := 0) (r3 := 0) rfl rfl ?_
  refine wi_iconst (n := 0) (nx := 33) (r1 := 0) (r2 := 0) (r3 := 0) rfl ?_
  refine wr_pf0 (k0 := 236) (x := 0) (bl := -2147483648) (bh := 2147483647) (nx := 36) (r1 := 11) (r2 := 27) (r3 := 0) rfl (by decide) rfl ⟨rfl, rfl⟩ rfl rfl g33 rfl (by omega) (fun h35 g35 w35 u35 => ?_)
  have F36 := F34.then rfl u35
  refine wi_aload_n (i := 0) (x := 236) (nx := 37) (r1 := 0) (r2 := 0) (r3 := 0) rfl rfl ?_
  refine wr_V (k0 := 236) (rest := []) (as := [.ref 236]) (nx := 40) (r1 := 219) (r2 := 0) (r3 := 11) rfl rfl rfl (of_decide_eq_true rfl) rfl rfl (by decide) rfl rfl (of_decide_eq_true rfl) (of_decide_eq_true rfl) ?_
  refine wi_aload_n (i := 0) (x := 236) (nx := 1) (r1 := 0) (r2 := 0) (r3 := 0) rfl rfl ?_
  refine wr_gi0 (k0 := 236) (x := h13 236 8) (nx := 4) (r1 := 11) (r2 := 8) (r3 := 0) rfl rfl (by decide) rfl ⟨rfl, rfl⟩ rfl ((u35 236 8 rfl).trans ((u33 236 8 rfl).trans ((u31 236 8 rfl).trans ((u29 236 8 rfl).trans ((u27 236 8 rfl).trans (u19 236 8 rfl)))))) ?_
  refine wi_if (cd := .ne) (nx := 7) (r1 := 11) (r2 := 0) (r3 := 0) rfl (by omega) (fun (q37 : (h13 236 8) ≠ 0) => by exfalso; omega) (fun (q37 : ¬ ((h13 236 8) ≠ 0)) => ?_)
  refine wi_iconst (n := 1) (nx := 8) (r1 := 0) (r2 := 0) (r3 := 0) rfl ?_
  refine wi_goto (nx := 11) (r1 := 12) (r2 := 0) (r3 := 0) rfl ?_
  refine wi_zreturn (nx := 13) (r1 := 0) (r2 := 0) (r3 := 0) rfl rfl (by omega) ?_
  refine wk_i ?_
  refine wi_if (cd := .eq) (nx := 43) (r1 := 73) (r2 := 0) (r3 := 0) rfl (by omega) (fun (q38 : 1 = 0) => by exfalso; omega) (fun (q38 : ¬ (1 = 0)) => ?_)
  refine wi_aload_n (i := 0) (x := 236) (nx := 44) (r1 := 0) (r2 := 0) (r3 := 0) rfl rfl ?_
  have b39 := gi_b (lo := 0) (hi := 4) g13 236 6 rfl
  refine wr_gi0 (k0 := 236) (x := h13 236 6) (nx := 47) (r1 := 11) (r2 := 6) (r3 := 0) rfl rfl (by decide) rfl ⟨rfl, rfl⟩ rfl ((u35 236 6 rfl).trans ((u33 236 6 rfl).trans ((u31 236 6 rfl).trans ((u29 236 6 rfl).trans ((u27 236 6 rfl).trans (u19 236 6 rfl)))))) ?_
  refine wi_if (cd := .eq) (nx := 50) (r1 := 73) (r2 := 0) (r3 := 0) rfl (by omega) (fun (q40 : (h13 236 6) = 0) => ?_) (fun (q40 : ¬ ((h13 236 6) = 0)) => ?_)
  ·
    refine wi_aload_n (i := 0) (x := 236) (nx := 74) (r1 := 0) (r2 := 0) (r3 := 0) rfl rfl ?_
    refine wr_V (k0 := 236) (rest := []) (as := [.ref 236]) (nx := 77) (r1 := 237) (r2 := 0) (r3 := 11) rfl rfl rfl (of_decide_eq_true rfl) rfl rfl (by decide) rfl rfl (of_decide_eq_true rfl) (of_decide_eq_true rfl) ?_
    refine wi_aload_n (i := 0) (x := 236) (nx := 1) (r1 := 0) (r2 := 0) (r3 := 0) rfl rfl ?_
    refine wi_aload_n (i := 0) (x := 236) (nx := 2) (r1 := 0) (r2 := 0) (r3 := 0) rfl rfl ?_
    refine wr_gi0 (k0 := 236) (x := h13 236 8) (nx := 5) (r1 := 11) (r2 := 8) (r3 := 0) rfl rfl (by decide) rfl ⟨rfl, rfl⟩ rfl ((u35 236 8 rfl).trans ((u33 236 8 rfl).trans ((u31 236 8 rfl).trans ((u29 236 8 rfl).trans ((u27 236 8 rfl).trans (u19 236 8 rfl)))))) ?_
    refine wr_pf0 (k0 := 236) (x := h13 236 8) (bl := -2147483648) (bh := 2147483647) (nx := 8) (r1 := 11) (r2 := 10) (r3 := 0) rfl (by decide) rfl ⟨rfl, rfl⟩ rfl rfl g35 rfl (by omega) (fun h41 g41 w41 u41 => ?_)
    have F42 := F36.then rfl u41
    refine wi_aload_n (i := 0) (x := 236) (nx := 9) (r1 := 0) (r2 := 0) (r3 := 0) rfl rfl ?_
    refine wi_aload_n (i := 0) (x := 236) (nx := 10) (r1 := 0) (r2 := 0) (r3 := 0) rfl rfl ?_
    have b43 := gi_b (lo := -2147483648) (hi := 2147483647) g13 236 9 rfl
    refine wr_gi0 (k0 := 236) (x := h13 236 9) (nx := 13) (r1 := 11) (r2 := 9) (r3 := 0) rfl rfl (by decide) rfl ⟨rfl, rfl⟩ rfl ((u41 236 9 rfl).trans ((u35 236 9 rfl).trans ((u33 236 9 rfl).trans ((u31 236 9 rfl).trans ((u29 236 9 rfl).trans ((u27 236 9 rfl).trans (u19 236 9 rfl))))))) ?_
    refine wr_pf0 (k0 := 236) (x := h13 236 9) (bl := -2147483648) (bh := 2147483647) (nx := 16) (r1 := 11) (r2 := 11) (r3 := 0) rfl (by decide) rfl ⟨rfl, rfl⟩ rfl rfl g41 rfl (by omega) (fun h44 g44 w44 u44 => ?_)
    have F45 := F42.then rfl u44
    refine wi_aload_n (i := 0) (x := 236) (nx := 17) (r1 := 0) (r2 := 0) (r3 := 0) rfl rfl ?_
    refine wi_aload_n (i := 0) (x := 236) (nx := 18) (r1 := 0) (r2 := 0) (r3 := 0) rfl rfl ?_
    refine wr_gi0 (k0 := 236) (x := h13 236 8) (nx := 21) (r1 := 11) (r2 := 8) (r3 := 0) rfl rfl (by decide) rfl ⟨rfl, rfl⟩ rfl ((u44 236 8 rfl).trans ((u41 236 8 rfl).trans ((u35 236 8 rfl).trans ((u33 236 8 rfl).trans ((u31 236 8 rfl).trans ((u29 236 8 rfl).trans ((u27 236 8 rfl).trans (u19 236 8 rfl)))))))) ?_
    refine wi_if (cd := .ne) (nx := 24) (r1 := 28) (r2 := 0) (r3 := 0) rfl (by omega) (fun (q46 : (h13 236 8) ≠ 0) => by exfalso; omega) (fun (q46 : ¬ ((h13 236 8) ≠ 0)) => ?_)
    refine wi_iconst (n := 1) (nx := 25) (r1 := 0) (r2 := 0) (r3 := 0) rfl ?_
    refine wi_goto (nx := 28) (r1 := 29) (r2 := 0) (r3 := 0) rfl ?_
    refine wr_V (k0 := 236) (rest := []) (as := [.ref 236, vi 1]) (nx := 32) (r1 := 206) (r2 := 1) (r3 := 11) rfl rfl rfl (of_decide_eq_true rfl) rfl rfl (by decide) rfl rfl (of_decide_eq_true rfl) (of_decide_eq_true rfl) ?_
    refine wi_aload_n (i := 0) (x := 236) (nx := 1) (r1 := 0) (r2 := 0) (r3 := 0) rfl rfl ?_
    refine wi_iload_n (i := 1) (e := 1) (nx := 2) (r1 := 0) (r2 := 0) (r3 := 0) rfl rfl ?_
    refine wi_if (cd := .ne) (nx := 5) (r1 := 9) (r2 := 0) (r3 := 0) rfl (by omega) (fun (q47 : 1 ≠ 0) => ?_) (fun (q47 : ¬ (1 ≠ 0)) => by exfalso; omega)
    refine wi_iconst (n := 0) (nx := 10) (r1 := 0) (r2 := 0) (r3 := 0) rfl ?_
    refine wi_S (rest := [.ref 236]) (as := [vi 0]) (nx := 13) (r1 := 207) (r2 := 17) (r3 := 0) rfl rfl rfl (of_decide_eq_true rfl) rfl rfl (of_decide_eq_true rfl) (of_decide_eq_true rfl) ?_
    refine wi_iload_n (i := 0) (e := 0) (nx := 1) (r1 := 0) (r2 := 0) (r3 := 0) rfl rfl ?_
    refine wi_if (cd := .eq) (nx := 4) (r1 := 8) (r2 := 0) (r3 := 0) rfl (by omega) (fun (q48 : 0 = 0) => ?_) (fun (q48 : ¬ (0 = 0)) => by exfalso; omega)
    refine wi_iconst (n := 0) (nx := 9) (r1 := 0) (r2 := 0) (r3 := 0) rfl ?_
    refine wi_ireturn (nx := 10) (r1 := 0) (r2 := 0) (r3 := 0) rfl rfl ?_
    refine wk_i ?_
    refine wr_pf0 (k0 := 236) (x := 0) (bl := 0) (bh := 2) (nx := 16) (r1 := 11) (r2 := 0) (r3 := 0) rfl (by decide) rfl ⟨rfl, rfl⟩ rfl rfl g44 rfl (by omega) (fun h49 g49 w49 u49 => ?_)
    have F50 := F45.then rfl u49
    refine wi_iload_n (i := 1) (e := 1) (nx := 17) (r1 := 0) (r2 := 0) (r3 := 0) rfl rfl ?_
    refine wi_zreturn (nx := 18) (r1 := 0) (r2 := 0) (r3 := 0) rfl rfl (by omega) ?_
    refine wk_i ?_
    refine wi_zreturn (nx := 33) (r1 := 0) (r2 := 0) (r3 := 0) rfl rfl (by omega) ?_
    refine wk_i ?_
    refine wi_if (cd := .ne) (nx := 80) (r1 := 82) (r2 := 0) (r3 := 0) rfl (by omega) (fun (q51 : 1 ≠ 0) => ?_) (fun (q51 : ¬ (1 ≠ 0)) => by exfalso; omega)
    refine wi_aload_n (i := 0) (x := 236) (nx := 83) (r1 := 0) (r2 := 0) (r3 := 0) rfl rfl ?_
    refine wr_gr (k0 := 236) (x := 239) (nx := 86) (r1 := 11) (r2 := 14) (r3 := 0) rfl rfl (by decide) rfl ⟨rfl, rfl⟩ rfl ?_
    refine wi_aload_n (i := 0) (x := 236) (nx := 87) (r1 := 0) (r2 := 0) (r3 := 0) rfl rfl ?_
    refine wr_gr (k0 := 236) (x := 238) (nx := 90) (r1 := 11) (r2 := 13) (r3 := 0) rfl rfl (by decide) rfl ⟨rfl, rfl⟩ rfl ?_
    refine wi_S (rest := []) (as := [.ref 239, .ref 238]) (nx := 93) (r1 := 238) (r2 := 18) (r3 := 0) rfl rfl rfl (of_decide_eq_true rfl) rfl rfl (of_decide_eq_true rfl) (of_decide_eq_true rfl) ?_
    have e53 : h49 239 5 = h19 239 5 := ((u49 239 5 rfl).trans ((u44 239 5 rfl).trans ((u41 239 5 rfl).trans ((u35 239 5 rfl).trans ((u33 239 5 rfl).trans ((u31 239 5 rfl).trans ((u29 239 5 rfl).trans (u27 239 5 rfl))))))))
    have e54 : h49 239 7 = h19 239 7 := ((u49 239 7 rfl).trans ((u44 239 7 rfl).trans ((u41 239 7 rfl).trans ((u35 239 7 rfl).trans ((u33 239 7 rfl).trans ((u31 239 7 rfl).trans ((u29 239 7 rfl).trans (u27 239 7 rfl))))))))
    have e55 : h49 239 15 = h19 239 15 := ((u49 239 15 rfl).trans ((u44 239 15 rfl).trans ((u41 239 15 rfl).trans ((u35 239 15 rfl).trans ((u33 239 15 rfl).trans ((u31 239 15 rfl).trans ((u29 239 15 rfl).trans (u27 239 15 rfl))))))))
    have e56 : h49 239 16 = h19 239 16 := ((u49 239 16 rfl).trans ((u44 239 16 rfl).trans ((u41 239 16 rfl).trans ((u35 239 16 rfl).trans ((u33 239 16 rfl).trans ((u31 239 16 rfl).trans ((u29 239 16 rfl).trans (u27 239 16 rfl))))))))
    have e57 : h49 239 17 = h19 239 17 := ((u49 239 17 rfl).trans ((u44 239 17 rfl).trans ((u41 239 17 rfl).trans ((u35 239 17 rfl).trans ((u33 239 17 rfl).trans ((u31 239 17 rfl).trans ((u29 239 17 rfl).trans (u27 239 17 rfl))))))))
    have e58 : h49 239 18 = h19 239 18 := ((u49 239 18 rfl).trans ((u44 239 18 rfl).trans ((u41 239 18 rfl).trans ((u35 239 18 rfl).trans ((u33 239 18 rfl).trans ((u31 239 18 rfl).trans ((u29 239 18 rfl).trans (u27 239 18 rfl))))))))
    refine ct_238_239_238 hcr  g49    (gi_read g49 (by refine ⟨?_, ?_, ?_, ?_, ?_, ?_⟩ <;> omega)) (fun h52 g52 u52 y52_0 => ?_)
    have F59 := F50.then (by decide +kernel) u52
    refine wk_n ?_
    refine wi_iconst (n := 0) (nx := 94) (r1 := 0) (r2 := 0) (r3 := 0) rfl ?_
    refine wi_istore_n (i := 1) (e := 0) (lo2 := [(1, vi 0), (0, .ref 236)]) (nx := 95) (r1 := 0) (r2 := 0) (r3 := 0) rfl rfl ?_
    refine wp.lo (lo := [(0, .ref 236), (1, vi 0)]) ⟨rfl, rfl, trivial⟩ rfl ?_
    refine wl_1 (fun x60 h61 => GI h61 ∧ FR [(238, 238, none), (243, 243, none), (244, 244, none), (236, 236, some (0, 0)), (236, 236, some (2, 2)), (236, 236, some (3, 3)), (236, 236, some (4, 4)), (236, 236, some (5, 5)), (236, 236, some (6, 6)), (236, 236, some (7, 7)), (236, 236, some (8, 8)), (236, 236, some (9, 9)), (236, 236, some (10, 10)), (236, 236, some (11, 11)), (236, 236, some (12, 12)), (236, 236, some (22, 22)), (236, 236, some (23, 23)), (236, 236, some (24, 24)), (236, 236, some (25, 25)), (236, 236, some (26, 26)), (236, 236, some (27, 27)), (239, 239, some (0, 0)), (239, 239, some (1, 1)), (239, 239, some (2, 2)), (239, 239, some (3, 3)), (239, 239, some (4, 4)), (239, 239, some (5, 5)), (239, 239, some (6, 6)), (239, 239, some (7, 7)), (239, 239, some (8, 8)), (239, 239, some (9, 9)), (239, 239, some (10, 14)), (239, 239, some (15, 15)), (239, 239, some (16, 16)), (239, 239, some (17, 17)), (239, 239, some (18, 18)), (239, 239, some (19, 30)), (239, 239, some (31, 42)), (239, 239, some (43, 54)), (239, 239, some (55, 55)), (239, 239, some (56, 56)), (239, 239, some (57, 57)), (239, 239, some (58, 58)), (239, 239, some (59, 59)), (239, 239, some (60, 60)), (239, 239, some (61, 61)), (239, 239, some (62, 62)), (239, 239, some (63, 63)), (239, 239, some (64, 64)), (239, 239, some (65, 65)), (239, 239, some (66, 66)), (239, 239, some (67, 67)), (239, 239, some (68, 68)), (239, 239, some (69, 69)), (239, 239, some (70, 70)), (239, 239, some (71, 71)), (239, 239, some (72, 72)), (239, 239, some (73, 73)), (239, 239, some (74, 74)), (239, 239, some (75, 75)), (239, 239, some (76, 76)), (239, 239, some (77, 77)), (239, 239, some (78, 78)), (239, 239, some (79, 79)), (239, 239, some (80, 80)), (239, 239, some (81, 81)), (239, 239, some (82, 82)), (239, 239, some (83, 83)), (239, 239, some (84, 84)), (239, 239, some (85, 85)), (239, 239, some (86, 86)), (239, 239, some (87, 87)), (239, 239, some (88, 88)), (239, 239, some (89, 89)), (239, 239, some (90, 90)), (239, 239, some (91, 91)), (239, 239, some (92, 92)), (239, 239, some (93, 93)), (239, 239, some (94, 94)), (239, 239, some (95, 95)), (239, 239, some (96, 96)), (239, 239, some (97, 97)), (239, 239, some (98, 98)), (239, 239, some (99, 99)), (239, 239, some (100, 100)), (239, 239, some (101, 101)), (239, 239, some (102, 102)), (239, 239, some (103, 103)), (239, 239, some (104, 104)), (239, 239, some (105, 105)), (239, 239, some (106, 106)), (239, 239, some (107, 107)), (239, 239, some (108, 108)), (239, 239, some (109, 109)), (239, 239, some (110, 110)), (239, 239, some (111, 111)), (239, 239, some (112, 112)), (239, 239, some (113, 113)), (239, 239, some (114, 114)), (239, 239, some (115, 115)), (239, 239, some (116, 116)), (239, 239, some (117, 117)), (239, 239, some (118, 118)), (239, 239, some (119, 119)), (239, 239, some (120, 120)), (239, 239, some (121, 121)), (239, 239, some (122, 122)), (239, 239, some (123, 123)), (239, 239, some (124, 124)), (239, 239, some (125, 125)), (239, 239, some (126, 126)), (239, 239, some (127, 127)), (239, 239, some (128, 128)), (239, 239, some (129, 129)), (239, 239, some (130, 130)), (239, 239, some (131, 131)), (239, 239, some (132, 132)), (239, 239, some (133, 133)), (239, 239, some (134, 134)), (239, 239, some (135, 135)), (239, 239, some (136, 136)), (239, 239, some (137, 137)), (239, 239, some (138, 138)), (239, 239, some (139, 139)), (239, 239, some (140, 140)), (239, 239, some (141, 141)), (239, 239, some (142, 142)), (239, 239, some (143, 143)), (239, 239, some (144, 144)), (239, 239, some (145, 145)), (239, 239, some (146, 146)), (239, 239, some (147, 147)), (239, 239, some (148, 148)), (239, 239, some (149, 149)), (239, 239, some (150, 150)), (239, 239, some (151, 151)), (239, 239, some (152, 152)), (239, 239, some (153, 153)), (239, 239, some (154, 154)), (239, 239, some (155, 155)), (239, 239, some (156, 156)), (239, 239, some (157, 157)), (239, 239, some (158, 158)), (239, 239, some (159, 159)), (239, 239, some (160, 160)), (239, 239, some (161, 161)), (239, 239, some (162, 162)), (239, 239, some (163, 163)), (239, 239, some (164, 164)), (239, 239, some (165, 165)), (239, 239, some (166, 166)), (239, 239, some (167, 167)), (239, 239, some (168, 168)), (239, 239, some (169, 169)), (239, 239, some (170, 170)), (239, 239, some (171, 171)), (239, 239, some (172, 172)), (239, 239, some (173, 173)), (239, 239, some (174, 174)), (239, 239, some (175, 175)), (239, 239, some (176, 176)), (239, 239, some (177, 177)), (239, 239, some (178, 178)), (239, 239, some (179, 179)), (239, 239, some (180, 180)), (239, 239, some (181, 181)), (239, 239, some (182, 182)), (239, 239, some (183, 183)), (239, 239, some (184, 184)), (239, 239, some (185, 185)), (239, 239, some (186, 186)), (239, 239, some (187, 187)), (239, 239, some (188, 188)), (239, 239, some (189, 189)), (239, 239, some (190, 190)), (239, 239, some (191, 191)), (239, 239, some (192, 192)), (239, 239, some (193, 193)), (239, 239, some (194, 194)), (239, 239, some (195, 195)), (239, 239, some (196, 196)), (239, 239, some (197, 197)), (239, 239, some (198, 198)), (239, 239, some (199, 199))] h h61 ∧ FR [(243, 243, none)] h52 h61 ∧ ((0 ≤ x60 ∧ x60 ≤ 5))) (fun x60 h61 => ((5 : Int) + 1 - x60).toNat) (fun x60 h61 => (95, [(0, .ref 236), (1, vi x60)], [], hp_w h61 cr, b, c)) ?_ 0 h52 ⟨g52, F59, FR.refl, (show (0 ≤ 0 ∧ 0 ≤ 5) by omega)⟩
    intro x60 h61 ⟨g61, F62, u61, f61⟩ I61
    refine wi_iload_n (i := 1) (e := x60) (nx := 96) (r1 := 0) (r2 := 0) (r3 := 0) rfl rfl ?_
    refine wi_iconst (n := 5) (nx := 97) (r1 := 0) (r2 := 0) (r3 := 0) rfl ?_
    refine wi_icmp (cd := .ge) (nx := 100) (r1 := 118) (r2 := 0) (r3 := 0) rfl (by omega) (by omega) (fun (q63 : 5 ≤ x60) => ?_) (fun (q63 : ¬ (5 ≤ x60)) => ?_)
    ·
      refine wi_aload_n (i := 0) (x := 236) (nx := 119) (r1 := 0) (r2 := 0) (r3 := 0) rfl rfl ?_
      refine wi_iconst (n := 0) (nx := 120) (r1 := 0) (r2 := 0) (r3 := 0) rfl ?_
      refine wr_pf0 (k0 := 236) (x := 0) (bl := 0) (bh := 6) (nx := 123) (r1 := 11) (r2 := 22) (r3 := 0) rfl (by decide) rfl ⟨rfl, rfl⟩ rfl rfl g61 rfl (by omega) (fun h64 g64 w64 u64 => ?_)
      have F65 := F62.then rfl u64
      refine wi_aload_n (i := 0) (x := 236) (nx := 124) (r1 := 0) (r2 := 0) (r3 := 0) rfl rfl ?_
      refine wr_gi0 (k0 := 236) (x := 0) (nx := 127) (r1 := 11) (r2 := 27) (r3 := 0) rfl rfl (by decide) rfl ⟨rfl, rfl⟩ rfl ((u64 236 27 rfl).trans ((u61 236 27 rfl).trans ((u52 236 27 rfl).trans ((u49 236 27 rfl).trans ((u44 236 27 rfl).trans ((u41 236 27 rfl).trans w35)))))) ?_
      refine wi_ireturn (nx := 128) (r1 := 0) (r2 := 0) (r3 := 0) rfl rfl ?_
      have b66 := gi_b (lo := 0) (hi := 0) g19 239 98 rfl
      have e67 : h64 238 98 = h19 239 98 := ((u64 238 98 rfl).trans ((u61 238 98 rfl).trans ((y52_0 98 (by decide)).trans ((u49 239 98 rfl).trans ((u44 239 98 rfl).trans ((u41 239 98 rfl).trans ((u35 239 98 rfl).trans ((u33 239 98 rfl).trans ((u31 239 98 rfl).trans ((u29 239 98 rfl).trans (u27 239 98 rfl)))))))))))
      have b68 := gi_b (lo := 0) (hi := 0) g19 239 99 rfl
      have e69 : h64 238 99 = h19 239 99 := ((u64 238 99 rfl).trans ((u61 238 99 rfl).trans ((y52_0 99 (by decide)).trans ((u49 239 99 rfl).trans ((u44 239 99 rfl).trans ((u41 239 99 rfl).trans ((u35 239 99 rfl).trans ((u33 239 99 rfl).trans ((u31 239 99 rfl).trans ((u29 239 99 rfl).trans (u27 239 99 rfl)))))))))))
      have b70 := gi_b (lo := 0) (hi := 0) g19 239 100 rfl
      have e71 : h64 238 100 = h19 239 100 := ((u64 238 100 rfl).trans ((u61 238 100 rfl).trans ((y52_0 100 (by decide)).trans ((u49 239 100 rfl).trans ((u44 239 100 rfl).trans ((u41 239 100 rfl).trans ((u35 239 100 rfl).trans ((u33 239 100 rfl).trans ((u31 239 100 rfl).trans ((u29 239 100 rfl).trans (u27 239 100 rfl)))))))))))
      have b72 := gi_b (lo := 0) (hi := 0) g19 239 101 rfl
      have e73 : h64 238 101 = h19 239 101 := ((u64 238 101 rfl).trans ((u61 238 101 rfl).trans ((y52_0 101 (by decide)).trans ((u49 239 101 rfl).trans ((u44 239 101 rfl).trans ((u41 239 101 rfl).trans ((u35 239 101 rfl).trans ((u33 239 101 rfl).trans ((u31 239 101 rfl).trans ((u29 239 101 rfl).trans (u27 239 101 rfl)))))))))))
      have b74 := gi_b (lo := 0) (hi := 0) g19 239 102 rfl
      have e75 : h64 238 102 = h19 239 102 := ((u64 238 102 rfl).trans ((u61 238 102 rfl).trans ((y52_0 102 (by decide)).trans ((u49 239 102 rfl).trans ((u44 239 102 rfl).trans ((u41 239 102 rfl).trans ((u35 239 102 rfl).trans ((u33 239 102 rfl).trans ((u31 239 102 rfl).trans ((u29 239 102 rfl).trans (u27 239 102 rfl)))))))))))
      have b76 := gi_b (lo := 0) (hi := 0) g19 239 106 rfl
      have e77 : h64 238 106 = h19 239 106 := ((u64 238 106 rfl).trans ((u61 238 106 rfl).trans ((y52_0 106 (by decide)).trans ((u49 239 106 rfl).trans ((u44 239 106 rfl).trans ((u41 239 106 rfl).trans ((u35 239 106 rfl).trans ((u33 239 106 rfl).trans ((u31 239 106 rfl).trans ((u29 239 106 rfl).trans (u27 239 106 rfl)))))))))))
      have b78 := gi_b (lo := 0) (hi := 0) g19 239 73 rfl
      have e79 : h64 238 73 = h19 239 73 := ((u64 238 73 rfl).trans ((u61 238 73 rfl).trans ((y52_0 73 (by decide)).trans ((u49 239 73 rfl).trans ((u44 239 73 rfl).trans ((u41 239 73 rfl).trans ((u35 239 73 rfl).trans ((u33 239 73 rfl).trans ((u31 239 73 rfl).trans ((u29 239 73 rfl).trans (u27 239 73 rfl)))))))))))
      have b80 := gi_b (lo := 0) (hi := 12) g19 239 2 rfl
      have e81 : h64 238 2 = h19 239 2 := ((u64 238 2 rfl).trans ((u61 238 2 rfl).trans ((y52_0 2 (by decide)).trans ((u49 239 2 rfl).trans ((u44 239 2 rfl).trans ((u41 239 2 rfl).trans ((u35 239 2 rfl).trans ((u33 239 2 rfl).trans ((u31 239 2 rfl).trans ((u29 239 2 rfl).trans (u27 239 2 rfl)))))))))))
      have b82 := gi_b (lo := 0) (hi := 0) g19 239 119 rfl
      have e83 : h64 238 119 = h19 239 119 := ((u64 238 119 rfl).trans ((u61 238 119 rfl).trans ((y52_0 119 (by decide)).trans ((u49 239 119 rfl).trans ((u44 239 119 rfl).trans ((u41 239 119 rfl).trans ((u35 239 119 rfl).trans ((u33 239 119 rfl).trans ((u31 239 119 rfl).trans ((u29 239 119 rfl).trans (u27 239 119 rfl)))))))))))
      have b84 := gi_b (lo := 0) (hi := 0) g19 239 67 rfl
      have e85 : h64 238 67 = h19 239 67 := ((u64 238 67 rfl).trans ((u61 238 67 rfl).trans ((y52_0 67 (by decide)).trans ((u49 239 67 rfl).trans ((u44 239 67 rfl).trans ((u41 239 67 rfl).trans ((u35 239 67 rfl).trans ((u33 239 67 rfl).trans ((u31 239 67 rfl).trans ((u29 239 67 rfl).trans (u27 239 67 rfl)))))))))))
      have b86 := gi_b (lo := 0) (hi := 0) g19 239 69 rfl
      have e87 : h64 238 69 = h19 239 69 := ((u64 238 69 rfl).trans ((u61 238 69 rfl).trans ((y52_0 69 (by decide)).trans ((u49 239 69 rfl).trans ((u44 239 69 rfl).trans ((u41 239 69 rfl).trans ((u35 239 69 rfl).trans ((u33 239 69 rfl).trans ((u31 239 69 rfl).trans ((u29 239 69 rfl).trans (u27 239 69 rfl)))))))))))
      have e88 : h64 238 5 = h19 239 5 := ((u64 238 5 rfl).trans ((u61 238 5 rfl).trans ((y52_0 5 (by decide)).trans ((u49 239 5 rfl).trans ((u44 239 5 rfl).trans ((u41 239 5 rfl).trans ((u35 239 5 rfl).trans ((u33 239 5 rfl).trans ((u31 239 5 rfl).trans ((u29 239 5 rfl).trans (u27 239 5 rfl)))))))))))
      have e89 : h64 236 2 = h13 236 2 := ((u64 236 2 rfl).trans ((u61 236 2 rfl).trans ((u52 236 2 rfl).trans ((u49 236 2 rfl).trans ((u44 236 2 rfl).trans ((u41 236 2 rfl).trans ((u35 236 2 rfl).trans ((u33 236 2 rfl).trans ((u31 236 2 rfl).trans ((u29 236 2 rfl).trans ((u27 236 2 rfl).trans (u19 236 2 rfl))))))))))))
      exact k h64 0 g64 F65 (by omega) (show (h64 238 98) + (h64 238 99) + (h64 238 100) + (h64 238 101) + (h64 238 102) + (h64 238 106) = (h64 238 73) by omega) (show (h64 238 73) ≤ (h64 238 2) by omega) (show (h64 238 119) ≤ (h64 238 67) by omega) (show (h64 238 69) ≤ (h64 238 5) by omega) (show (h64 238 2) ≤ 12 * (h64 238 5) by omega) (show (h64 236 2) = 0 by omega)
    ·
      refine wi_aload_n (i := 0) (x := 236) (nx := 101) (r1 := 0) (r2 := 0) (r3 := 0) rfl rfl ?_
      refine wr_gr (k0 := 236) (x := 243) (nx := 104) (r1 := 11) (r2 := 18) (r3 := 0) rfl rfl (by decide) rfl ⟨rfl, rfl⟩ rfl ?_
      refine wi_iload_n (i := 1) (e := x60) (nx := 105) (r1 := 0) (r2 := 0) (r3 := 0) rfl rfl ?_
      refine wi_aload_n (i := 0) (x := 236) (nx := 106) (r1 := 0) (r2 := 0) (r3 := 0) rfl rfl ?_
      refine wr_gr (k0 := 236) (x := 244) (nx := 109) (r1 := 11) (r2 := 19) (r3 := 0) rfl rfl (by decide) rfl ⟨rfl, rfl⟩ rfl ?_
      refine wi_iload_n (i := 1) (e := x60) (nx := 110) (r1 := 0) (r2 := 0) (r3 := 0) rfl rfl ?_
      obtain ⟨i64, ei64⟩ : ∃ q : Nat, x60 = (q : Int) := ⟨(x60).toNat, by omega⟩
      have b65 := gi_b (lo := -9223372036854775808) (hi := 9223372036854775807) g 244 i64 rfl
      refine wr_la (k0 := 244) (a := x60) (f := i64) (x := h 244 i64) (nx := 111) (r1 := 0) (r2 := 0) (r3 := 0) rfl (by decide) rfl (by omega) (by omega) (by decide) ((u61 244 i64 (fn_a (by omega) fn_0)).trans ((u52 244 i64 (fn_a (by omega) fn_0)).trans ((u49 244 i64 (fn_a (by omega) fn_0)).trans ((u44 244 i64 (fn_a (by omega) fn_0)).trans ((u41 244 i64 (fn_a (by omega) fn_0)).trans ((u35 244 i64 (fn_a (by omega) fn_0)).trans ((u33 244 i64 (fn_a (by omega) fn_0)).trans ((u31 244 i64 (fn_a (by omega) fn_0)).trans ((u29 244 i64 (fn_a (by omega) fn_0)).trans ((u27 244 i64 (fn_a (by omega) fn_0)).trans ((u19 244 i64 (fn_a (by omega) (fn_a (by omega) (fn_a (by omega) (fn_a (by omega) (fn_a (by omega) (fn_a (by omega) (fn_a (by omega) (fn_a (by omega) (fn_a (by omega) (fn_a (by omega) (fn_a (by omega) (fn_a (by omega) (fn_a (by omega) (fn_a (by omega) (fn_a (by omega) (fn_a (by omega) (fn_a (by omega) (fn_a (by omega) (fn_a (by omega) (fn_a (by omega) (fn_a (by omega) (fn_a (by omega) (fn_a (by omega) (fn_a (by omega) (fn_a (by omega) (fn_a (by omega) (fn_a (by omega) (fn_a (by omega) (fn_a (by omega) (fn_a (by omega) (fn_a (by omega) (fn_a (by omega) (fn_a (by omega) (fn_a (by omega) (fn_a (by omega) (fn_a (by omega) (fn_a (by omega) (fn_a (by omega) (fn_a (by omega) (fn_a (by omega) (fn_a (by omega) (fn_a (by omega) (fn_a (by omega) (fn_a (by omega) (fn_a (by omega) (fn_a (by omega) (fn_a (by omega) (fn_a (by omega) (fn_a (by omega) (fn_a (by omega) (fn_a (by omega) (fn_a (by omega) (fn_a (by omega) (fn_a (by omega) (fn_a (by omega) (fn_a (by omega) (fn_a (by omega) (fn_a (by omega) (fn_a (by omega) (fn_a (by omega) (fn_a (by omega) (fn_a (by omega) (fn_a (by omega) (fn_a (by omega) (fn_a (by omega) (fn_a (by omega) (fn_a (by omega) (fn_a (by omega) (fn_a (by omega) (fn_a (by omega) (fn_a (by omega) (fn_a (by omega) (fn_a (by omega) (fn_a (by omega) (fn_a (by omega) (fn_a (by omega) (fn_a (by omega) (fn_a (by omega) (fn_a (by omega) (fn_a (by omega) (fn_a (by omega) (fn_a (by omega) (fn_a (by omega) (fn_a (by omega) (fn_a (by omega) (fn_a (by omega) (fn_a (by omega) (fn_a (by omega) (fn_a (by omega) (fn_a (by omega) (fn_a (by omega) (fn_a (by omega) (fn_a (by omega) (fn_a (by omega) (fn_a (by omega) (fn_a (by omega) (fn_a (by omega) (fn_a (by omega) (fn_a (by omega) (fn_a (by omega) (fn_a (by omega) (fn_a (by omega) (fn_a (by omega) (fn_a (by omega) (fn_a (by omega) (fn_a (by omega) (fn_a (by omega) (fn_a (by omega) (fn_a (by omega) (fn_a (by omega) (fn_a (by omega) (fn_a (by omega) (fn_a (by omega) (fn_a (by omega) (fn_a (by omega) (fn_a (by omega) (fn_a (by omega) (fn_a (by omega) (fn_a (by omega) (fn_a (by omega) (fn_a (by omega) (fn_a (by omega) (fn_a (by omega) (fn_a (by omega) (fn_a (by omega) (fn_a (by omega) (fn_a (by omega) (fn_a (by omega) (fn_a (by omega) (fn_a (by omega) (fn_a (by omega) (fn_a (by omega) (fn_a (by omega) (fn_a (by omega) (fn_a (by omega) (fn_a (by omega) (fn_a (by omega) (fn_a (by omega) (fn_a (by omega) (fn_a (by omega) (fn_a (by omega) (fn_a (by omega) (fn_a (by omega) (fn_a (by omega) (fn_a (by omega) (fn_a (by omega) (fn_a (by omega) (fn_a (by omega) (fn_a (by omega) (fn_a (by omega) (fn_a (by omega) (fn_a (by omega) (fn_a (by omega) (fn_a (by omega) (fn_a (by omega) (fn_a (by omega) (fn_a (by omega) (fn_a (by omega) (fn_a (by omega) (fn_a (by omega) (fn_a (by omega) (fn_a (by omega) (fn_a (by omega) (fn_a (by omega) (fn_a (by omega) (fn_a (by omega) (fn_a (by omega) (fn_a (by omega) (fn_a (by omega) (fn_a (by omega) (fn_a (by omega) (fn_a (by omega) (fn_a (by omega) (fn_a (by omega) (fn_a (by omega) (fn_a (by omega) (fn_a (by omega) (fn_a (by omega) (fn_a (by omega) (fn_a (by omega) (fn_a (by omega) (fn_a (by omega) (fn_a (by omega) (fn_a (by omega) (fn_a (by omega) (fn_a (by omega) (fn_a (by omega) (fn_a (by omega) (fn_a (by omega) (fn_a (by omega) (fn_a (by omega) (fn_a (by omega) (fn_a (by omega) (fn_a (by omega) (fn_a (by omega) (fn_a (by omega) (fn_a (by omega) (fn_a (by omega) (fn_a (by omega) (fn_a (by omega) fn_0))))))))))))))))))))))))))))))))))))))))))))))))))))))))))))))))))))))))))))))))))))))))))))))))))))))))))))))))))))))))))))))))))))))))))))))))))))))))))))))))))))))))))))))))))))))))))))))))))))))))).trans (u13 244 i64 (fn_a (by omega) (fn_a (by omega) (fn_a (by omega) (fn_a (by omega) (fn_a (by omega) (fn_a (by omega) (fn_a (by omega) (fn_a (by omega) (fn_a (by omega) fn_0))))))))))))))))))))) ?_
      refine wr_ls (k0 := 243) (a := x60) (f := i64) (x := h 244 i64) (bl := -9223372036854775808) (bh := 9223372036854775807) (nx := 112) (r1 := 0) (r2 := 0) (r3 := 0) rfl (by decide) rfl (by omega) (by omega) (by decide) g61 rfl (by omega) (fun h66 g66 w66 u66 => ?_)
      have F67 := F62.then rfl (FR.rngp (lo := 243) (hi := 243) u66 (by decide))
      have F68 := u61.then rfl (FR.rngp (lo := 243) (hi := 243) u66 (by decide))
      refine wr_iinc (i := 1) (n := 1) (v := x60) (fun e69 => [(1, vi e69), (0, .ref 236)]) (nx := 115) (r1 := 0) (r2 := 0) (r3 := 0) rfl rfl (fun _ => rfl) (fun e69 (fe69 : e69 = x60 + 1) => ?_)
      refine wi_goto (nx := 118) (r1 := 95) (r2 := 0) (r3 := 0) rfl ?_
      refine wp.lo (lo := [(0, .ref 236), (1, vi e69)]) ⟨rfl, rfl, trivial⟩ rfl ?_
      exact I61 e69 h66 ⟨g66, F67, F68, (show (0 ≤ e69 ∧ e69 ≤ 5) by omega)⟩ (show ((5 : Int) + 1 - e69).toNat < ((5 : Int) + 1 - x60).toNat by omega)
  ·
    have e42 : h35 236 4 = h13 236 4 := ((u35 236 4 rfl).trans ((u33 236 4 rfl).trans ((u31 236 4 rfl).trans ((u29 236 4 rfl).trans ((u27 236 4 rfl).trans (u19 236 4 rfl))))))
    have e43 : h35 236 3 = h13 236 3 := ((u35 236 3 rfl).trans ((u33 236 3 rfl).trans ((u31 236 3 rfl).trans ((u29 236 3 rfl).trans ((u27 236 3 rfl).trans (u19 236 3 rfl))))))
    have e44 : h35 236 8 = h13 236 8 := ((u35 236 8 rfl).trans ((u33 236 8 rfl).trans ((u31 236 8 rfl).trans ((u29 236 8 rfl).trans ((u27 236 8 rfl).trans (u19 236 8 rfl))))))
    have e45 : h35 236 6 = h13 236 6 := ((u35 236 6 rfl).trans ((u33 236 6 rfl).trans ((u31 236 6 rfl).trans ((u29 236 6 rfl).trans ((u27 236 6 rfl).trans (u19 236 6 rfl))))))
    have e46 : h35 239 5 = h19 239 5 := ((u35 239 5 rfl).trans ((u33 239 5 rfl).trans ((u31 239 5 rfl).trans ((u29 239 5 rfl).trans (u27 239 5 rfl)))))
    have e47 : h35 239 7 = h19 239 7 := ((u35 239 7 rfl).trans ((u33 239 7 rfl).trans ((u31 239 7 rfl).trans ((u29 239 7 rfl).trans (u27 239 7 rfl)))))
    have e48 : h35 239 15 = h19 239 15 := ((u35 239 15 rfl).trans ((u33 239 15 rfl).trans ((u31 239 15 rfl).trans ((u29 239 15 rfl).trans (u27 239 15 rfl)))))
    have e49 : h35 239 16 = h19 239 16 := ((u35 239 16 rfl).trans ((u33 239 16 rfl).trans ((u31 239 16 rfl).trans ((u29 239 16 rfl).trans (u27 239 16 rfl)))))
    have e50 : h35 239 17 = h19 239 17 := ((u35 239 17 rfl).trans ((u33 239 17 rfl).trans ((u31 239 17 rfl).trans ((u29 239 17 rfl).trans (u27 239 17 rfl)))))
    have e51 : h35 239 18 = h19 239 18 := ((u35 239 18 rfl).trans ((u33 239 18 rfl).trans ((u31 239 18 rfl).trans ((u29 239 18 rfl).trans (u27 239 18 rfl)))))
    refine wl_0 (fun h41 => GI h41 ∧ FR [(238, 238, none), (243, 243, none), (244, 244, none), (236, 236, some (0, 0)), (236, 236, some (2, 2)), (236, 236, some (3, 3)), (236, 236, some (4, 4)), (236, 236, some (5, 5)), (236, 236, some (6, 6)), (236, 236, some (7, 7)), (236, 236, some (8, 8)), (236, 236, some (9, 9)), (236, 236, some (10, 10)), (236, 236, some (11, 11)), (236, 236, some (12, 12)), (236, 236, some (22, 22)), (236, 236, some (23, 23)), (236, 236, some (24, 24)), (236, 236, some (25, 25)), (236, 236, some (26, 26)), (236, 236, some (27, 27)), (239, 239, some (0, 0)), (239, 239, some (1, 1)), (239, 239, some (2, 2)), (239, 239, some (3, 3)), (239, 239, some (4, 4)), (239, 239, some (5, 5)), (239, 239, some (6, 6)), (239, 239, some (7, 7)), (239, 239, some (8, 8)), (239, 239, some (9, 9)), (239, 239, some (10, 14)), (239, 239, some (15, 15)), (239, 239, some (16, 16)), (239, 239, some (17, 17)), (239, 239, some (18, 18)), (239, 239, some (19, 30)), (239, 239, some (31, 42)), (239, 239, some (43, 54)), (239, 239, some (55, 55)), (239, 239, some (56, 56)), (239, 239, some (57, 57)), (239, 239, some (58, 58)), (239, 239, some (59, 59)), (239, 239, some (60, 60)), (239, 239, some (61, 61)), (239, 239, some (62, 62)), (239, 239, some (63, 63)), (239, 239, some (64, 64)), (239, 239, some (65, 65)), (239, 239, some (66, 66)), (239, 239, some (67, 67)), (239, 239, some (68, 68)), (239, 239, some (69, 69)), (239, 239, some (70, 70)), (239, 239, some (71, 71)), (239, 239, some (72, 72)), (239, 239, some (73, 73)), (239, 239, some (74, 74)), (239, 239, some (75, 75)), (239, 239, some (76, 76)), (239, 239, some (77, 77)), (239, 239, some (78, 78)), (239, 239, some (79, 79)), (239, 239, some (80, 80)), (239, 239, some (81, 81)), (239, 239, some (82, 82)), (239, 239, some (83, 83)), (239, 239, some (84, 84)), (239, 239, some (85, 85)), (239, 239, some (86, 86)), (239, 239, some (87, 87)), (239, 239, some (88, 88)), (239, 239, some (89, 89)), (239, 239, some (90, 90)), (239, 239, some (91, 91)), (239, 239, some (92, 92)), (239, 239, some (93, 93)), (239, 239, some (94, 94)), (239, 239, some (95, 95)), (239, 239, some (96, 96)), (239, 239, some (97, 97)), (239, 239, some (98, 98)), (239, 239, some (99, 99)), (239, 239, some (100, 100)), (239, 239, some (101, 101)), (239, 239, some (102, 102)), (239, 239, some (103, 103)), (239, 239, some (104, 104)), (239, 239, some (105, 105)), (239, 239, some (106, 106)), (239, 239, some (107, 107)), (239, 239, some (108, 108)), (239, 239, some (109, 109)), (239, 239, some (110, 110)), (239, 239, some (111, 111)), (239, 239, some (112, 112)), (239, 239, some (113, 113)), (239, 239, some (114, 114)), (239, 239, some (115, 115)), (239, 239, some (116, 116)), (239, 239, some (117, 117)), (239, 239, some (118, 118)), (239, 239, some (119, 119)), (239, 239, some (120, 120)), (239, 239, some (121, 121)), (239, 239, some (122, 122)), (239, 239, some (123, 123)), (239, 239, some (124, 124)), (239, 239, some (125, 125)), (239, 239, some (126, 126)), (239, 239, some (127, 127)), (239, 239, some (128, 128)), (239, 239, some (129, 129)), (239, 239, some (130, 130)), (239, 239, some (131, 131)), (239, 239, some (132, 132)), (239, 239, some (133, 133)), (239, 239, some (134, 134)), (239, 239, some (135, 135)), (239, 239, some (136, 136)), (239, 239, some (137, 137)), (239, 239, some (138, 138)), (239, 239, some (139, 139)), (239, 239, some (140, 140)), (239, 239, some (141, 141)), (239, 239, some (142, 142)), (239, 239, some (143, 143)), (239, 239, some (144, 144)), (239, 239, some (145, 145)), (239, 239, some (146, 146)), (239, 239, some (147, 147)), (239, 239, some (148, 148)), (239, 239, some (149, 149)), (239, 239, some (150, 150)), (239, 239, some (151, 151)), (239, 239, some (152, 152)), (239, 239, some (153, 153)), (239, 239, some (154, 154)), (239, 239, some (155, 155)), (239, 239, some (156, 156)), (239, 239, some (157, 157)), (239, 239, some (158, 158)), (239, 239, some (159, 159)), (239, 239, some (160, 160)), (239, 239, some (161, 161)), (239, 239, some (162, 162)), (239, 239, some (163, 163)), (239, 239, some (164, 164)), (239, 239, some (165, 165)), (239, 239, some (166, 166)), (239, 239, some (167, 167)), (239, 239, some (168, 168)), (239, 239, some (169, 169)), (239, 239, some (170, 170)), (239, 239, some (171, 171)), (239, 239, some (172, 172)), (239, 239, some (173, 173)), (239, 239, some (174, 174)), (239, 239, some (175, 175)), (239, 239, some (176, 176)), (239, 239, some (177, 177)), (239, 239, some (178, 178)), (239, 239, some (179, 179)), (239, 239, some (180, 180)), (239, 239, some (181, 181)), (239, 239, some (182, 182)), (239, 239, some (183, 183)), (239, 239, some (184, 184)), (239, 239, some (185, 185)), (239, 239, some (186, 186)), (239, 239, some (187, 187)), (239, 239, some (188, 188)), (239, 239, some (189, 189)), (239, 239, some (190, 190)), (239, 239, some (191, 191)), (239, 239, some (192, 192)), (239, 239, some (193, 193)), (239, 239, some (194, 194)), (239, 239, some (195, 195)), (239, 239, some (196, 196)), (239, 239, some (197, 197)), (239, 239, some (198, 198)), (239, 239, some (199, 199))] h h41 ∧ FR [(244, 244, none), (236, 236, some (4, 4)), (236, 236, some (5, 5)), (236, 236, some (6, 6)), (236, 236, some (7, 7)), (236, 236, some (8, 8)), (236, 236, some (9, 9)), (236, 236, some (12, 12)), (236, 236, some (23, 23)), (236, 236, some (24, 24)), (236, 236, some (25, 25)), (236, 236, some (26, 26)), (236, 236, some (27, 27)), (239, 239, some (0, 0)), (239, 239, some (1, 1)), (239, 239, some (2, 2)), (239, 239, some (3, 3)), (239, 239, some (4, 4)), (239, 239, some (5, 5)), (239, 239, some (6, 6)), (239, 239, some (7, 7)), (239, 239, some (8, 8)), (239, 239, some (9, 9)), (239, 239, some (10, 14)), (239, 239, some (15, 15)), (239, 239, some (16, 16)), (239, 239, some (17, 17)), (239, 239, some (18, 18)), (239, 239, some (19, 30)), (239, 239, some (31, 42)), (239, 239, some (43, 54))] h35 h41 ∧ (((h41 236 4) ≤ (h41 236 3)) ∧ ((h41 236 8) = 0) ∧ ((h41 236 6) ≠ 0) ∧ ((h41 239 5) ≤ 9) ∧ (1 ≤ (h41 239 5)) ∧ ((h41 239 7) ≤ 3) ∧ ((h41 239 15) ≤ 6) ∧ ((h41 239 16) ≤ 6) ∧ ((h41 239 17) ≤ 6) ∧ ((h41 239 18) ≤ 6))) (fun h41 => ((h41 236 3) - (h41 236 4)).toNat) (fun h41 => (50, [(0, .ref 236)], [], hp_w h41 cr, b, c)) ?_ h35 ⟨g35, F36, FR.refl, (show ((h35 236 4) ≤ (h35 236 3)) ∧ ((h35 236 8) = 0) ∧ ((h35 236 6) ≠ 0) ∧ ((h35 239 5) ≤ 9) ∧ (1 ≤ (h35 239 5)) ∧ ((h35 239 7) ≤ 3) ∧ ((h35 239 15) ≤ 6) ∧ ((h35 239 16) ≤ 6) ∧ ((h35 239 17) ≤ 6) ∧ ((h35 239 18) ≤ 6) by omega)⟩
    intro h41 ⟨g41, F52, u41, f41⟩ I41
    have e53 : h41 236 3 = h13 236 3 := ((u41 236 3 rfl).trans ((u35 236 3 rfl).trans ((u33 236 3 rfl).trans ((u31 236 3 rfl).trans ((u29 236 3 rfl).trans ((u27 236 3 rfl).trans (u19 236 3 rfl)))))))
    have b54 := gi_b (lo := 0) (hi := 800) g41 236 4 rfl
    have b55 := gi_b (lo := 0) (hi := 5) g41 236 8 rfl
    have b56 := gi_b (lo := 0) (hi := 4) g41 236 6 rfl
    have b57 := gi_b (lo := 0) (hi := 999) g41 239 5 rfl
    have b58 := gi_b (lo := 0) (hi := 999) g41 239 7 rfl
    have b59 := gi_b (lo := 0) (hi := 999) g41 239 15 rfl
    have b60 := gi_b (lo := 0) (hi := 999) g41 239 16 rfl
    have b61 := gi_b (lo := 0) (hi := 999) g41 239 17 rfl
    have b62 := gi_b (lo := 0) (hi := 999) g41 239 18 rfl
    refine wi_aload_n (i := 0) (x := 236) (nx := 51) (r1 := 0) (r2 := 0) (r3 := 0) rfl rfl ?_
    refine wr_V (k0 := 236) (rest := []) (as := [.ref 236]) (nx := 54) (r1 := 220) (r2 := 0) (r3 := 11) rfl rfl rfl (of_decide_eq_true rfl) rfl rfl (by decide) rfl rfl (of_decide_eq_true rfl) (of_decide_eq_true rfl) ?_
    refine ct_220_236 hcr  g41   (show (h41 236 4) ≤ (h41 236 3) by omega) (show (h41 236 8) = 0 by omega) (show (h41 239 5) ≤ 9 by omega) (show 1 ≤ (h41 239 5) by omega) (show (h41 239 7) ≤ 3 by omega) (show (h41 239 15) ≤ 6 by omega) (show (h41 239 16) ≤ 6 by omega) (show (h41 239 17) ≤ 6 by omega) (show (h41 239 18) ≤ 6 by omega) (fun h63 g63 u63 (p63_0 : (h41 236 4) ≤ (h63 236 4)) (p63_1 : (h63 236 4) ≤ (h41 236 3)) (p63_2 : 1 ≤ (h63 236 8) ∨ ((h63 239 5) ≤ 9 ∧ 1 ≤ (h63 239 5) ∧ (h63 239 7) ≤ 3 ∧ (h63 239 15) ≤ 6 ∧ (h63 239 16) ≤ 6 ∧ (h63 239 17) ≤ 6 ∧ (h63 239 18) ≤ 6)) => ?_)
    have F64 := F52.then (by decide +kernel) u63
    have F65 := u41.then (by decide +kernel) u63
    have b66 := gi_b (lo := 0) (hi := 800) g63 236 4 rfl
    have b67 := gi_b (lo := 0) (hi := 5) g63 236 8 rfl
    have b68 := gi_b (lo := 0) (hi := 999) g63 239 5 rfl
    have b69 := gi_b (lo := 0) (hi := 999) g63 239 7 rfl
    have b70 := gi_b (lo := 0) (hi := 999) g63 239 15 rfl
    have b71 := gi_b (lo := 0) (hi := 999) g63 239 16 rfl
    have b72 := gi_b (lo := 0) (hi := 999) g63 239 17 rfl
    have b73 := gi_b (lo := 0) (hi := 999) g63 239 18 rfl
    refine wk_n ?_
    refine wi_aload_n (i := 0) (x := 236) (nx := 55) (r1 := 0) (r2 := 0) (r3 := 0) rfl rfl ?_
    refine wi_bipush (n := 59) (nx := 57) (r1 := 0) (r2 := 0) (r3 := 0) rfl (by decide) ?_
    refine wr_V (k0 := 236) (rest := []) (as := [.ref 236, vi 59]) (nx := 60) (r1 := 235) (r2 := 1) (r3 := 11) rfl rfl rfl (of_decide_eq_true rfl) rfl rfl (by decide) rfl rfl (of_decide_eq_true rfl) (of_decide_eq_true rfl) ?_
    have e75 : h63 236 3 = h13 236 3 := ((u63 236 3 rfl).trans ((u41 236 3 rfl).trans ((u35 236 3 rfl).trans ((u33 236 3 rfl).trans ((u31 236 3 rfl).trans ((u29 236 3 rfl).trans ((u27 236 3 rfl).trans (u19 236 3 rfl))))))))
    refine ct_235_236 hcr  g63 59 (by omega) (show (h63 236 4) ≤ (h63 236 3) by omega) (fun h74 g74 u74 (p74_0 : (h63 236 4) ≤ (h74 236 4)) (p74_1 : (h74 236 4) ≤ (h63 236 3)) (p74_2 : 1 ≤ (h74 236 8) ∨ (h63 236 8) = 0) (p74_3 : 1 ≤ (h74 236 8) ∨ (h74 236 6) = 0 ∨ (h63 236 4) + 1 ≤ (h74 236 4)) => ?_)
    have F76 := F64.then (by decide +kernel) u74
    have F77 := F65.then (by decide +kernel) u74
    have b78 := gi_b (lo := 0) (hi := 800) g74 236 4 rfl
    have b79 := gi_b (lo := 0) (hi := 5) g74 236 8 rfl
    have b80 := gi_b (lo := 0) (hi := 4) g74 236 6 rfl
    refine wk_n ?_
    refine wi_aload_n (i := 0) (x := 236) (nx := 61) (r1 := 0) (r2 := 0) (r3 := 0) rfl rfl ?_
    refine wi_dup (nx := 62) (r1 := 0) (r2 := 0) (r3 := 0) rfl rfl ?_
    have b81 := gi_b (lo := -2147483648) (hi := 2147483647) g41 236 27 rfl
    refine wr_gi0 (k0 := 236) (x := h41 236 27) (nx := 65) (r1 := 11) (r2 := 27) (r3 := 0) rfl rfl (by decide) rfl ⟨rfl, rfl⟩ rfl ((u74 236 27 rfl).trans (u63 236 27 rfl)) ?_
    refine wi_iconst (n := 1) (nx := 66) (r1 := 0) (r2 := 0) (r3 := 0) rfl ?_
    refine wr_addW (nx := 67) (r1 := 0) (r2 := 0) (r3 := 0) rfl (fun e82 (fe82 : -2147483648 ≤ e82 ∧ e82 ≤ 2147483647) => ?_)
    refine wr_pf0 (k0 := 236) (x := e82) (bl := -2147483648) (bh := 2147483647) (nx := 70) (r1 := 11) (r2 := 27) (r3 := 0) rfl (by decide) rfl ⟨rfl, rfl⟩ rfl rfl g74 rfl (by omega) (fun h83 g83 w83 u83 => ?_)
    have F84 := F76.then rfl u83
    have F85 := F77.then rfl u83
    refine wi_goto (nx := 73) (r1 := 36) (r2 := 0) (r3 := 0) rfl ?_
    refine wi_aload_n (i := 0) (x := 236) (nx := 37) (r1 := 0) (r2 := 0) (r3 := 0) rfl rfl ?_
    refine wr_V (k0 := 236) (rest := []) (as := [.ref 236]) (nx := 40) (r1 := 219) (r2 := 0) (r3 := 11) rfl rfl rfl (of_decide_eq_true rfl) rfl rfl (by decide) rfl rfl (of_decide_eq_true rfl) (of_decide_eq_true rfl) ?_
    refine wi_aload_n (i := 0) (x := 236) (nx := 1) (r1 := 0) (r2 := 0) (r3 := 0) rfl rfl ?_
    refine wr_gi0 (k0 := 236) (x := h74 236 8) (nx := 4) (r1 := 11) (r2 := 8) (r3 := 0) rfl rfl (by decide) rfl ⟨rfl, rfl⟩ rfl (u83 236 8 rfl) ?_
    refine wi_if (cd := .ne) (nx := 7) (r1 := 11) (r2 := 0) (r3 := 0) rfl (by omega) (fun (q86 : (h74 236 8) ≠ 0) => ?_) (fun (q86 : ¬ ((h74 236 8) ≠ 0)) => ?_)
    ·
      refine wi_iconst (n := 0) (nx := 12) (r1 := 0) (r2 := 0) (r3 := 0) rfl ?_
      refine wi_zreturn (nx := 13) (r1 := 0) (r2 := 0) (r3 := 0) rfl rfl (by omega) ?_
      refine wk_i ?_
      refine wi_if (cd := .eq) (nx := 43) (r1 := 73) (r2 := 0) (r3 := 0) rfl (by omega) (fun (q87 : 0 = 0) => ?_) (fun (q87 : ¬ (0 = 0)) => by exfalso; omega)
      refine wi_aload_n (i := 0) (x := 236) (nx := 74) (r1 := 0) (r2 := 0) (r3 := 0) rfl rfl ?_
      refine wr_V (k0 := 236) (rest := []) (as := [.ref 236]) (nx := 77) (r1 := 237) (r2 := 0) (r3 := 11) rfl rfl rfl (of_decide_eq_true rfl) rfl rfl (by decide) rfl rfl (of_decide_eq_true rfl) (of_decide_eq_true rfl) ?_
      refine wi_aload_n (i := 0) (x := 236) (nx := 1) (r1 := 0) (r2 := 0) (r3 := 0) rfl rfl ?_
      refine wi_aload_n (i := 0) (x := 236) (nx := 2) (r1 := 0) (r2 := 0) (r3 := 0) rfl rfl ?_
      refine wr_gi0 (k0 := 236) (x := h74 236 8) (nx := 5) (r1 := 11) (r2 := 8) (r3 := 0) rfl rfl (by decide) rfl ⟨rfl, rfl⟩ rfl (u83 236 8 rfl) ?_
      refine wr_pf0 (k0 := 236) (x := h74 236 8) (bl := -2147483648) (bh := 2147483647) (nx := 8) (r1 := 11) (r2 := 10) (r3 := 0) rfl (by decide) rfl ⟨rfl, rfl⟩ rfl rfl g83 rfl (by omega) (fun h88 g88 w88 u88 => ?_)
      have F89 := F84.then rfl u88
      refine wi_aload_n (i := 0) (x := 236) (nx := 9) (r1 := 0) (r2 := 0) (r3 := 0) rfl rfl ?_
      refine wi_aload_n (i := 0) (x := 236) (nx := 10) (r1 := 0) (r2 := 0) (r3 := 0) rfl rfl ?_
      have b90 := gi_b (lo := -2147483648) (hi := 2147483647) g74 236 9 rfl
      refine wr_gi0 (k0 := 236) (x := h74 236 9) (nx := 13) (r1 := 11) (r2 := 9) (r3 := 0) rfl rfl (by decide) rfl ⟨rfl, rfl⟩ rfl ((u88 236 9 rfl).trans (u83 236 9 rfl)) ?_
      refine wr_pf0 (k0 := 236) (x := h74 236 9) (bl := -2147483648) (bh := 2147483647) (nx := 16) (r1 := 11) (r2 := 11) (r3 := 0) rfl (by decide) rfl ⟨rfl, rfl⟩ rfl rfl g88 rfl (by omega) (fun h91 g91 w91 u91 => ?_)
      have F92 := F89.then rfl u91
      refine wi_aload_n (i := 0) (x := 236) (nx := 17) (r1 := 0) (r2 := 0) (r3 := 0) rfl rfl ?_
      refine wi_aload_n (i := 0) (x := 236) (nx := 18) (r1 := 0) (r2 := 0) (r3 := 0) rfl rfl ?_
      refine wr_gi0 (k0 := 236) (x := h74 236 8) (nx := 21) (r1 := 11) (r2 := 8) (r3 := 0) rfl rfl (by decide) rfl ⟨rfl, rfl⟩ rfl ((u91 236 8 rfl).trans ((u88 236 8 rfl).trans (u83 236 8 rfl))) ?_
      refine wi_if (cd := .ne) (nx := 24) (r1 := 28) (r2 := 0) (r3 := 0) rfl (by omega) (fun (q93 : (h74 236 8) ≠ 0) => ?_) (fun (q93 : ¬ ((h74 236 8) ≠ 0)) => by exfalso; omega)
      refine wi_iconst (n := 0) (nx := 29) (r1 := 0) (r2 := 0) (r3 := 0) rfl ?_
      refine wr_V (k0 := 236) (rest := []) (as := [.ref 236, vi 0]) (nx := 32) (r1 := 206) (r2 := 1) (r3 := 11) rfl rfl rfl (of_decide_eq_true rfl) rfl rfl (by decide) rfl rfl (of_decide_eq_true rfl) (of_decide_eq_true rfl) ?_
      refine wi_aload_n (i := 0) (x := 236) (nx := 1) (r1 := 0) (r2 := 0) (r3 := 0) rfl rfl ?_
      refine wi_iload_n (i := 1) (e := 0) (nx := 2) (r1 := 0) (r2 := 0) (r3 := 0) rfl rfl ?_
      refine wi_if (cd := .ne) (nx := 5) (r1 := 9) (r2 := 0) (r3 := 0) rfl (by omega) (fun (q94 : 0 ≠ 0) => by exfalso; omega) (fun (q94 : ¬ (0 ≠ 0)) => ?_)
      refine wi_iconst (n := 1) (nx := 6) (r1 := 0) (r2 := 0) (r3 := 0) rfl ?_
      refine wi_goto (nx := 9) (r1 := 10) (r2 := 0) (r3 := 0) rfl ?_
      refine wi_S (rest := [.ref 236]) (as := [vi 1]) (nx := 13) (r1 := 207) (r2 := 17) (r3 := 0) rfl rfl rfl (of_decide_eq_true rfl) rfl rfl (of_decide_eq_true rfl) (of_decide_eq_true rfl) ?_
      refine wi_iload_n (i := 0) (e := 1) (nx := 1) (r1 := 0) (r2 := 0) (r3 := 0) rfl rfl ?_
      refine wi_if (cd := .eq) (nx := 4) (r1 := 8) (r2 := 0) (r3 := 0) rfl (by omega) (fun (q95 : 1 = 0) => by exfalso; omega) (fun (q95 : ¬ (1 = 0)) => ?_)
      refine wi_iconst (n := 1) (nx := 5) (r1 := 0) (r2 := 0) (r3 := 0) rfl ?_
      refine wi_goto (nx := 8) (r1 := 9) (r2 := 0) (r3 := 0) rfl ?_
      refine wi_ireturn (nx := 10) (r1 := 0) (r2 := 0) (r3 := 0) rfl rfl ?_
      refine wk_i ?_
      refine wr_pf0 (k0 := 236) (x := 1) (bl := 0) (bh := 2) (nx := 16) (r1 := 11) (r2 := 0) (r3 := 0) rfl (by decide) rfl ⟨rfl, rfl⟩ rfl rfl g91 rfl (by omega) (fun h96 g96 w96 u96 => ?_)
      have F97 := F92.then rfl u96
      refine wi_iload_n (i := 1) (e := 0) (nx := 17) (r1 := 0) (r2 := 0) (r3 := 0) rfl rfl ?_
      refine wi_zreturn (nx := 18) (r1 := 0) (r2 := 0) (r3 := 0) rfl rfl (by omega) ?_
      refine wk_i ?_
      refine wi_zreturn (nx := 33) (r1 := 0) (r2 := 0) (r3 := 0) rfl rfl (by omega) ?_
      refine wk_i ?_
      refine wi_if (cd := .ne) (nx := 80) (r1 := 82) (r2 := 0) (r3 := 0) rfl (by omega) (fun (q98 : 0 ≠ 0) => by exfalso; omega) (fun (q98 : ¬ (0 ≠ 0)) => ?_)
      refine wi_iconst (n := 0) (nx := 81) (r1 := 0) (r2 := 0) (r3 := 0) rfl ?_
      refine wi_ireturn (nx := 82) (r1 := 0) (r2 := 0) (r3 := 0) rfl rfl ?_
      have e99 : h96 238 98 = h 238 98 := ((u96 238 98 rfl).trans ((u91 238 98 rfl).trans ((u88 238 98 rfl).trans ((u83 238 98 rfl).trans ((u74 238 98 rfl).trans ((u63 238 98 rfl).trans ((u41 238 98 rfl).trans ((u35 238 98 rfl).trans ((u33 238 98 rfl).trans ((u31 238 98 rfl).trans ((u29 238 98 rfl).trans ((u27 238 98 rfl).trans ((u19 238 98 rfl).trans (u13 238 98 rfl))))))))))))))
      have e100 : h96 238 99 = h 238 99 := ((u96 238 99 rfl).trans ((u91 238 99 rfl).trans ((u88 238 99 rfl).trans ((u83 238 99 rfl).trans ((u74 238 99 rfl).trans ((u63 238 99 rfl).trans ((u41 238 99 rfl).trans ((u35 238 99 rfl).trans ((u33 238 99 rfl).trans ((u31 238 99 rfl).trans ((u29 238 99 rfl).trans ((u27 238 99 rfl).trans ((u19 238 99 rfl).trans (u13 238 99 rfl))))))))))))))
      have e101 : h96 238 100 = h 238 100 := ((u96 238 100 rfl).trans ((u91 238 100 rfl).trans ((u88 238 100 rfl).trans ((u83 238 100 rfl).trans ((u74 238 100 rfl).trans ((u63 238 100 rfl).trans ((u41 238 100 rfl).trans ((u35 238 100 rfl).trans ((u33 238 100 rfl).trans ((u31 238 100 rfl).trans ((u29 238 100 rfl).trans ((u27 238 100 rfl).trans ((u19 238 100 rfl).trans (u13 238 100 rfl))))))))))))))
      have e102 : h96 238 101 = h 238 101 := ((u96 238 101 rfl).trans ((u91 238 101 rfl).trans ((u88 238 101 rfl).trans ((u83 238 101 rfl).trans ((u74 238 101 rfl).trans ((u63 238 101 rfl).trans ((u41 238 101 rfl).trans ((u35 238 101 rfl).trans ((u33 238 101 rfl).trans ((u31 238 101 rfl).trans ((u29 238 101 rfl).trans ((u27 238 101 rfl).trans ((u19 238 101 rfl).trans (u13 238 101 rfl))))))))))))))
      have e103 : h96 238 102 = h 238 102 := ((u96 238 102 rfl).trans ((u91 238 102 rfl).trans ((u88 238 102 rfl).trans ((u83 238 102 rfl).trans ((u74 238 102 rfl).trans ((u63 238 102 rfl).trans ((u41 238 102 rfl).trans ((u35 238 102 rfl).trans ((u33 238 102 rfl).trans ((u31 238 102 rfl).trans ((u29 238 102 rfl).trans ((u27 238 102 rfl).trans ((u19 238 102 rfl).trans (u13 238 102 rfl))))))))))))))
      have e104 : h96 238 106 = h 238 106 := ((u96 238 106 rfl).trans ((u91 238 106 rfl).trans ((u88 238 106 rfl).trans ((u83 238 106 rfl).trans ((u74 238 106 rfl).trans ((u63 238 106 rfl).trans ((u41 238 106 rfl).trans ((u35 238 106 rfl).trans ((u33 238 106 rfl).trans ((u31 238 106 rfl).trans ((u29 238 106 rfl).trans ((u27 238 106 rfl).trans ((u19 238 106 rfl).trans (u13 238 106 rfl))))))))))))))
      have e105 : h96 238 73 = h 238 73 := ((u96 238 73 rfl).trans ((u91 238 73 rfl).trans ((u88 238 73 rfl).trans ((u83 238 73 rfl).trans ((u74 238 73 rfl).trans ((u63 238 73 rfl).trans ((u41 238 73 rfl).trans ((u35 238 73 rfl).trans ((u33 238 73 rfl).trans ((u31 238 73 rfl).trans ((u29 238 73 rfl).trans ((u27 238 73 rfl).trans ((u19 238 73 rfl).trans (u13 238 73 rfl))))))))))))))
      have e106 : h96 238 2 = h 238 2 := ((u96 238 2 rfl).trans ((u91 238 2 rfl).trans ((u88 238 2 rfl).trans ((u83 238 2 rfl).trans ((u74 238 2 rfl).trans ((u63 238 2 rfl).trans ((u41 238 2 rfl).trans ((u35 238 2 rfl).trans ((u33 238 2 rfl).trans ((u31 238 2 rfl).trans ((u29 238 2 rfl).trans ((u27 238 2 rfl).trans ((u19 238 2 rfl).trans (u13 238 2 rfl))))))))))))))
      have e107 : h96 238 119 = h 238 119 := ((u96 238 119 rfl).trans ((u91 238 119 rfl).trans ((u88 238 119 rfl).trans ((u83 238 119 rfl).trans ((u74 238 119 rfl).trans ((u63 238 119 rfl).trans ((u41 238 119 rfl).trans ((u35 238 119 rfl).trans ((u33 238 119 rfl).trans ((u31 238 119 rfl).trans ((u29 238 119 rfl).trans ((u27 238 119 rfl).trans ((u19 238 119 rfl).trans (u13 238 119 rfl))))))))))))))
      have e108 : h96 238 67 = h 238 67 := ((u96 238 67 rfl).trans ((u91 238 67 rfl).trans ((u88 238 67 rfl).trans ((u83 238 67 rfl).trans ((u74 238 67 rfl).trans ((u63 238 67 rfl).trans ((u41 238 67 rfl).trans ((u35 238 67 rfl).trans ((u33 238 67 rfl).trans ((u31 238 67 rfl).trans ((u29 238 67 rfl).trans ((u27 238 67 rfl).trans ((u19 238 67 rfl).trans (u13 238 67 rfl))))))))))))))
      have e109 : h96 238 69 = h 238 69 := ((u96 238 69 rfl).trans ((u91 238 69 rfl).trans ((u88 238 69 rfl).trans ((u83 238 69 rfl).trans ((u74 238 69 rfl).trans ((u63 238 69 rfl).trans ((u41 238 69 rfl).trans ((u35 238 69 rfl).trans ((u33 238 69 rfl).trans ((u31 238 69 rfl).trans ((u29 238 69 rfl).trans ((u27 238 69 rfl).trans ((u19 238 69 rfl).trans (u13 238 69 rfl))))))))))))))
      have e110 : h96 238 5 = h 238 5 := ((u96 238 5 rfl).trans ((u91 238 5 rfl).trans ((u88 238 5 rfl).trans ((u83 238 5 rfl).trans ((u74 238 5 rfl).trans ((u63 238 5 rfl).trans ((u41 238 5 rfl).trans ((u35 238 5 rfl).trans ((u33 238 5 rfl).trans ((u31 238 5 rfl).trans ((u29 238 5 rfl).trans ((u27 238 5 rfl).trans ((u19 238 5 rfl).trans (u13 238 5 rfl))))))))))))))
      have e111 : h96 236 2 = h13 236 2 := ((u96 236 2 rfl).trans ((u91 236 2 rfl).trans ((u88 236 2 rfl).trans ((u83 236 2 rfl).trans ((u74 236 2 rfl).trans ((u63 236 2 rfl).trans ((u41 236 2 rfl).trans ((u35 236 2 rfl).trans ((u33 236 2 rfl).trans ((u31 236 2 rfl).trans ((u29 236 2 rfl).trans ((u27 236 2 rfl).trans (u19 236 2 rfl)))))))))))))
      exact k h96 0 g96 F97 (by omega) (show (h96 238 98) + (h96 238 99) + (h96 238 100) + (h96 238 101) + (h96 238 102) + (h96 238 106) = (h96 238 73) by omega) (show (h96 238 73) ≤ (h96 238 2) by omega) (show (h96 238 119) ≤ (h96 238 67) by omega) (show (h96 238 69) ≤ (h96 238 5) by omega) (show (h96 238 2) ≤ 12 * (h96 238 5) by omega) (show (h96 236 2) = 0 by omega)
    ·
      refine wi_iconst (n := 1) (nx := 8) (r1 := 0) (r2 := 0) (r3 := 0) rfl ?_
      refine wi_goto (nx := 11) (r1 := 12) (r2 := 0) (r3 := 0) rfl ?_
      refine wi_zreturn (nx := 13) (r1 := 0) (r2 := 0) (r3 := 0) rfl rfl (by omega) ?_
      refine wk_i ?_
      refine wi_if (cd := .eq) (nx := 43) (r1 := 73) (r2 := 0) (r3 := 0) rfl (by omega) (fun (q87 : 1 = 0) => by exfalso; omega) (fun (q87 : ¬ (1 = 0)) => ?_)
      refine wi_aload_n (i := 0) (x := 236) (nx := 44) (r1 := 0) (r2 := 0) (r3 := 0) rfl rfl ?_
      refine wr_gi0 (k0 := 236) (x := h74 236 6) (nx := 47) (r1 := 11) (r2 := 6) (r3 := 0) rfl rfl (by decide) rfl ⟨rfl, rfl⟩ rfl (u83 236 6 rfl) ?_
      refine wi_if (cd := .eq) (nx := 50) (r1 := 73) (r2 := 0) (r3 := 0) rfl (by omega) (fun (q88 : (h74 236 6) = 0) => ?_) (fun (q88 : ¬ ((h74 236 6) = 0)) => ?_)
      ·
        refine wi_aload_n (i := 0) (x := 236) (nx := 74) (r1 := 0) (r2 := 0) (r3 := 0) rfl rfl ?_
        refine wr_V (k0 := 236) (rest := []) (as := [.ref 236]) (nx := 77) (r1 := 237) (r2 := 0) (r3 := 11) rfl rfl rfl (of_decide_eq_true rfl) rfl rfl (by decide) rfl rfl (of_decide_eq_true rfl) (of_decide_eq_true rfl) ?_
        refine wi_aload_n (i := 0) (x := 236) (nx := 1) (r1 := 0) (r2 := 0) (r3 := 0) rfl rfl ?_
        refine wi_aload_n (i := 0) (x := 236) (nx := 2) (r1 := 0) (r2 := 0) (r3 := 0) rfl rfl ?_
        refine wr_gi0 (k0 := 236) (x := h74 236 8) (nx := 5) (r1 := 11) (r2 := 8) (r3 := 0) rfl rfl (by decide) rfl ⟨rfl, rfl⟩ rfl (u83 236 8 rfl) ?_
        refine wr_pf0 (k0 := 236) (x := h74 236 8) (bl := -2147483648) (bh := 2147483647) (nx := 8) (r1 := 11) (r2 := 10) (r3 := 0) rfl (by decide) rfl ⟨rfl, rfl⟩ rfl rfl g83 rfl (by omega) (fun h89 g89 w89 u89 => ?_)
        have F90 := F84.then rfl u89
        refine wi_aload_n (i := 0) (x := 236) (nx := 9) (r1 := 0) (r2 := 0) (r3 := 0) rfl rfl ?_
        refine wi_aload_n (i := 0) (x := 236) (nx := 10) (r1 := 0) (r2 := 0) (r3 := 0) rfl rfl ?_
        have b91 := gi_b (lo := -2147483648) (hi := 2147483647) g74 236 9 rfl
        refine wr_gi0 (k0 := 236) (x := h74 236 9) (nx := 13) (r1 := 11) (r2 := 9) (r3 := 0) rfl rfl (by decide) rfl ⟨rfl, rfl⟩ rfl ((u89 236 9 rfl).trans (u83 236 9 rfl)) ?_
        refine wr_pf0 (k0 := 236) (x := h74 236 9) (bl := -2147483648) (bh := 2147483647) (nx := 16) (r1 := 11) (r2 := 11) (r3 := 0) rfl (by decide) rfl ⟨rfl, rfl⟩ rfl rfl g89 rfl (by omega) (fun h92 g92 w92 u92 => ?_)
        have F93 := F90.then rfl u92
        refine wi_aload_n (i := 0) (x := 236) (nx := 17) (r1 := 0) (r2 := 0) (r3 := 0) rfl rfl ?_
        refine wi_aload_n (i := 0) (x := 236) (nx := 18) (r1 := 0) (r2 := 0) (r3 := 0) rfl rfl ?_
        refine wr_gi0 (k0 := 236) (x := h74 236 8) (nx := 21) (r1 := 11) (r2 := 8) (r3 := 0) rfl rfl (by decide) rfl ⟨rfl, rfl⟩ rfl ((u92 236 8 rfl).trans ((u89 236 8 rfl).trans (u83 236 8 rfl))) ?_
        refine wi_if (cd := .ne) (nx := 24) (r1 := 28) (r2 := 0) (r3 := 0) rfl (by omega) (fun (q94 : (h74 236 8) ≠ 0) => by exfalso; omega) (fun (q94 : ¬ ((h74 236 8) ≠ 0)) => ?_)
        refine wi_iconst (n := 1) (nx := 25) (r1 := 0) (r2 := 0) (r3 := 0) rfl ?_
        refine wi_goto (nx := 28) (r1 := 29) (r2 := 0) (r3 := 0) rfl ?_
        refine wr_V (k0 := 236) (rest := []) (as := [.ref 236, vi 1]) (nx := 32) (r1 := 206) (r2 := 1) (r3 := 11) rfl rfl rfl (of_decide_eq_true rfl) rfl rfl (by decide) rfl rfl (of_decide_eq_true rfl) (of_decide_eq_true rfl) ?_
        refine wi_aload_n (i := 0) (x := 236) (nx := 1) (r1 := 0) (r2 := 0) (r3 := 0) rfl rfl ?_
        refine wi_iload_n (i := 1) (e := 1) (nx := 2) (r1 := 0) (r2 := 0) (r3 := 0) rfl rfl ?_
        refine wi_if (cd := .ne) (nx := 5) (r1 := 9) (r2 := 0) (r3 := 0) rfl (by omega) (fun (q95 : 1 ≠ 0) => ?_) (fun (q95 : ¬ (1 ≠ 0)) => by exfalso; omega)
        refine wi_iconst (n := 0) (nx := 10) (r1 := 0) (r2 := 0) (r3 := 0) rfl ?_
        refine wi_S (rest := [.ref 236]) (as := [vi 0]) (nx := 13) (r1 := 207) (r2 := 17) (r3 := 0) rfl rfl rfl (of_decide_eq_true rfl) rfl rfl (of_decide_eq_true rfl) (of_decide_eq_true rfl) ?_
        refine wi_iload_n (i := 0) (e := 0) (nx := 1) (r1 := 0) (r2 := 0) (r3 := 0) rfl rfl ?_
        refine wi_if (cd := .eq) (nx := 4) (r1 := 8) (r2 := 0) (r3 := 0) rfl (by omega) (fun (q96 : 0 = 0) => ?_) (fun (q96 : ¬ (0 = 0)) => by exfalso; omega)
        refine wi_iconst (n := 0) (nx := 9) (r1 := 0) (r2 := 0) (r3 := 0) rfl ?_
        refine wi_ireturn (nx := 10) (r1 := 0) (r2 := 0) (r3 := 0) rfl rfl ?_
        refine wk_i ?_
        refine wr_pf0 (k0 := 236) (x := 0) (bl := 0) (bh := 2) (nx := 16) (r1 := 11) (r2 := 0) (r3 := 0) rfl (by decide) rfl ⟨rfl, rfl⟩ rfl rfl g92 rfl (by omega) (fun h97 g97 w97 u97 => ?_)
        have F98 := F93.then rfl u97
        refine wi_iload_n (i := 1) (e := 1) (nx := 17) (r1 := 0) (r2 := 0) (r3 := 0) rfl rfl ?_
        refine wi_zreturn (nx := 18) (r1 := 0) (r2 := 0) (r3 := 0) rfl rfl (by omega) ?_
        refine wk_i ?_
        refine wi_zreturn (nx := 33) (r1 := 0) (r2 := 0) (r3 := 0) rfl rfl (by omega) ?_
        refine wk_i ?_
        refine wi_if (cd := .ne) (nx := 80) (r1 := 82) (r2 := 0) (r3 := 0) rfl (by omega) (fun (q99 : 1 ≠ 0) => ?_) (fun (q99 : ¬ (1 ≠ 0)) => by exfalso; omega)
        refine wi_aload_n (i := 0) (x := 236) (nx := 83) (r1 := 0) (r2 := 0) (r3 := 0) rfl rfl ?_
        refine wr_gr (k0 := 236) (x := 239) (nx := 86) (r1 := 11) (r2 := 14) (r3 := 0) rfl rfl (by decide) rfl ⟨rfl, rfl⟩ rfl ?_
        refine wi_aload_n (i := 0) (x := 236) (nx := 87) (r1 := 0) (r2 := 0) (r3 := 0) rfl rfl ?_
        refine wr_gr (k0 := 236) (x := 238) (nx := 90) (r1 := 11) (r2 := 13) (r3 := 0) rfl rfl (by decide) rfl ⟨rfl, rfl⟩ rfl ?_
        refine wi_S (rest := []) (as := [.ref 239, .ref 238]) (nx := 93) (r1 := 238) (r2 := 18) (r3 := 0) rfl rfl rfl (of_decide_eq_true rfl) rfl rfl (of_decide_eq_true rfl) (of_decide_eq_true rfl) ?_
        have e101 : h97 239 5 = h63 239 5 := ((u97 239 5 rfl).trans ((u92 239 5 rfl).trans ((u89 239 5 rfl).trans ((u83 239 5 rfl).trans (u74 239 5 rfl)))))
        have e102 : h97 239 7 = h63 239 7 := ((u97 239 7 rfl).trans ((u92 239 7 rfl).trans ((u89 239 7 rfl).trans ((u83 239 7 rfl).trans (u74 239 7 rfl)))))
        have e103 : h97 239 15 = h63 239 15 := ((u97 239 15 rfl).trans ((u92 239 15 rfl).trans ((u89 239 15 rfl).trans ((u83 239 15 rfl).trans (u74 239 15 rfl)))))
        have e104 : h97 239 16 = h63 239 16 := ((u97 239 16 rfl).trans ((u92 239 16 rfl).trans ((u89 239 16 rfl).trans ((u83 239 16 rfl).trans (u74 239 16 rfl)))))
        have e105 : h97 239 17 = h63 239 17 := ((u97 239 17 rfl).trans ((u92 239 17 rfl).trans ((u89 239 17 rfl).trans ((u83 239 17 rfl).trans (u74 239 17 rfl)))))
        have e106 : h97 239 18 = h63 239 18 := ((u97 239 18 rfl).trans ((u92 239 18 rfl).trans ((u89 239 18 rfl).trans ((u83 239 18 rfl).trans (u74 239 18 rfl)))))
        refine ct_238_239_238 hcr  g97    (gi_read g97 (by refine ⟨?_, ?_, ?_, ?_, ?_, ?_⟩ <;> omega)) (fun h100 g100 u100 y100_0 => ?_)
        have F107 := F98.then (by decide +kernel) u100
        refine wk_n ?_
        refine wi_iconst (n := 0) (nx := 94) (r1 := 0) (r2 := 0) (r3 := 0) rfl ?_
        refine wi_istore_n (i := 1) (e := 0) (lo2 := [(1, vi 0), (0, .ref 236)]) (nx := 95) (r1 := 0) (r2 := 0) (r3 := 0) rfl rfl ?_
        refine wp.lo (lo := [(0, .ref 236), (1, vi 0)]) ⟨rfl, rfl, trivial⟩ rfl ?_
        refine wl_1 (fun x108 h109 => GI h109 ∧ FR [(238, 238, none), (243, 243, none), (244, 244, none), (236, 236, some (0, 0)), (236, 236, some (2, 2)), (236, 236, some (3, 3)), (236, 236, some (4, 4)), (236, 236, some (5, 5)), (236, 236, some (6, 6)), (236, 236, some (7, 7)), (236, 236, some (8, 8)), (236, 236, some (9, 9)), (236, 236, some (10, 10)), (236, 236, some (11, 11)), (236, 236, some (12, 12)), (236, 236, some (22, 22)), (236, 236, some (23, 23)), (236, 236, some (24, 24)), (236, 236, some (25, 25)), (236, 236, some (26, 26)), (236, 236, some (27, 27)), (239, 239, some (0, 0)), (239, 239, some (1, 1)), (239, 239, some (2, 2)), (239, 239, some (3, 3)), (239, 239, some (4, 4)), (239, 239, some (5, 5)), (239, 239, some (6, 6)), (239, 239, some (7, 7)), (239, 239, some (8, 8)), (239, 239, some (9, 9)), (239, 239, some (10, 14)), (239, 239, some (15, 15)), (239, 239, some (16, 16)), (239, 239, some (17, 17)), (239, 239, some (18, 18)), (239, 239, some (19, 30)), (239, 239, some (31, 42)), (239, 239, some (43, 54)), (239, 239, some (55, 55)), (239, 239, some (56, 56)), (239, 239, some (57, 57)), (239, 239, some (58, 58)), (239, 239, some (59, 59)), (239, 239, some (60, 60)), (239, 239, some (61, 61)), (239, 239, some (62, 62)), (239, 239, some (63, 63)), (239, 239, some (64, 64)), (239, 239, some (65, 65)), (239, 239, some (66, 66)), (239, 239, some (67, 67)), (239, 239, some (68, 68)), (239, 239, some (69, 69)), (239, 239, some (70, 70)), (239, 239, some (71, 71)), (239, 239, some (72, 72)), (239, 239, some (73, 73)), (239, 239, some (74, 74)), (239, 239, some (75, 75)), (239, 239, some (76, 76)), (239, 239, some (77, 77)), (239, 239, some (78, 78)), (239, 239, some (79, 79)), (239, 239, some (80, 80)), (239, 239, some (81, 81)), (239, 239, some (82, 82)), (239, 239, some (83, 83)), (239, 239, some (84, 84)), (239, 239, some (85, 85)), (239, 239, some (86, 86)), (239, 239, some (87, 87)), (239, 239, some (88, 88)), (239, 239, some (89, 89)), (239, 239, some (90, 90)), (239, 239, some (91, 91)), (239, 239, some (92, 92)), (239, 239, some (93, 93)), (239, 239, some (94, 94)), (239, 239, some (95, 95)), (239, 239, some (96, 96)), (239, 239, some (97, 97)), (239, 239, some (98, 98)), (239, 239, some (99, 99)), (239, 239, some (100, 100)), (239, 239, some (101, 101)), (239, 239, some (102, 102)), (239, 239, some (103, 103)), (239, 239, some (104, 104)), (239, 239, some (105, 105)), (239, 239, some (106, 106)), (239, 239, some (107, 107)), (239, 239, some (108, 108)), (239, 239, some (109, 109)), (239, 239, some (110, 110)), (239, 239, some (111, 111)), (239, 239, some (112, 112)), (239, 239, some (113, 113)), (239, 239, some (114, 114)), (239, 239, some (115, 115)), (239, 239, some (116, 116)), (239, 239, some (117, 117)), (239, 239, some (118, 118)), (239, 239, some (119, 119)), (239, 239, some (120, 120)), (239, 239, some (121, 121)), (239, 239, some (122, 122)), (239, 239, some (123, 123)), (239, 239, some (124, 124)), (239, 239, some (125, 125)), (239, 239, some (126, 126)), (239, 239, some (127, 127)), (239, 239, some (128, 128)), (239, 239, some (129, 129)), (239, 239, some (130, 130)), (239, 239, some (131, 131)), (239, 239, some (132, 132)), (239, 239, some (133, 133)), (239, 239, some (134, 134)), (239, 239, some (135, 135)), (239, 239, some (136, 136)), (239, 239, some (137, 137)), (239, 239, some (138, 138)), (239, 239, some (139, 139)), (239, 239, some (140, 140)), (239, 239, some (141, 141)), (239, 239, some (142, 142)), (239, 239, some (143, 143)), (239, 239, some (144, 144)), (239, 239, some (145, 145)), (239, 239, some (146, 146)), (239, 239, some (147, 147)), (239, 239, some (148, 148)), (239, 239, some (149, 149)), (239, 239, some (150, 150)), (239, 239, some (151, 151)), (239, 239, some (152, 152)), (239, 239, some (153, 153)), (239, 239, some (154, 154)), (239, 239, some (155, 155)), (239, 239, some (156, 156)), (239, 239, some (157, 157)), (239, 239, some (158, 158)), (239, 239, some (159, 159)), (239, 239, some (160, 160)), (239, 239, some (161, 161)), (239, 239, some (162, 162)), (239, 239, some (163, 163)), (239, 239, some (164, 164)), (239, 239, some (165, 165)), (239, 239, some (166, 166)), (239, 239, some (167, 167)), (239, 239, some (168, 168)), (239, 239, some (169, 169)), (239, 239, some (170, 170)), (239, 239, some (171, 171)), (239, 239, some (172, 172)), (239, 239, some (173, 173)), (239, 239, some (174, 174)), (239, 239, some (175, 175)), (239, 239, some (176, 176)), (239, 239, some (177, 177)), (239, 239, some (178, 178)), (239, 239, some (179, 179)), (239, 239, some (180, 180)), (239, 239, some (181, 181)), (239, 239, some (182, 182)), (239, 239, some (183, 183)), (239, 239, some (184, 184)), (239, 239, some (185, 185)), (239, 239, some (186, 186)), (239, 239, some (187, 187)), (239, 239, some (188, 188)), (239, 239, some (189, 189)), (239, 239, some (190, 190)), (239, 239, some (191, 191)), (239, 239, some (192, 192)), (239, 239, some (193, 193)), (239, 239, some (194, 194)), (239, 239, some (195, 195)), (239, 239, some (196, 196)), (239, 239, some (197, 197)), (239, 239, some (198, 198)), (239, 239, some (199, 199))] h h109 ∧ FR [(243, 243, none)] h100 h109 ∧ ((0 ≤ x108 ∧ x108 ≤ 5))) (fun x108 h109 => ((5 : Int) + 1 - x108).toNat) (fun x108 h109 => (95, [(0, .ref 236), (1, vi x108)], [], hp_w h109 cr, b, c)) ?_ 0 h100 ⟨g100, F107, FR.refl, (show (0 ≤ 0 ∧ 0 ≤ 5) by omega)⟩
        intro x108 h109 ⟨g109, F110, u109, f109⟩ I109
        refine wi_iload_n (i := 1) (e := x108) (nx := 96) (r1 := 0) (r2 := 0) (r3 := 0) rfl rfl ?_
        refine wi_iconst (n := 5) (nx := 97) (r1 := 0) (r2 := 0) (r3 := 0) rfl ?_
        refine wi_icmp (cd := .ge) (nx := 100) (r1 := 118) (r2 := 0) (r3 := 0) rfl (by omega) (by omega) (fun (q111 : 5 ≤ x108) => ?_) (fun (q111 : ¬ (5 ≤ x108)) => ?_)
        ·
          refine wi_aload_n (i := 0) (x := 236) (nx := 119) (r1 := 0) (r2 := 0) (r3 := 0) rfl rfl ?_
          refine wi_iconst (n := 0) (nx := 120) (r1 := 0) (r2 := 0) (r3 := 0) rfl ?_
          refine wr_pf0 (k0 := 236) (x := 0) (bl := 0) (bh := 6) (nx := 123) (r1 := 11) (r2 := 22) (r3 := 0) rfl (by decide) rfl ⟨rfl, rfl⟩ rfl rfl g109 rfl (by omega) (fun h112 g112 w112 u112 => ?_)
          have F113 := F110.then rfl u112
          refine wi_aload_n (i := 0) (x := 236) (nx := 124) (r1 := 0) (r2 := 0) (r3 := 0) rfl rfl ?_
          refine wr_gi0 (k0 := 236) (x := e82) (nx := 127) (r1 := 11) (r2 := 27) (r3 := 0) rfl rfl (by decide) rfl ⟨rfl, rfl⟩ rfl ((u112 236 27 rfl).trans ((u109 236 27 rfl).trans ((u100 236 27 rfl).trans ((u97 236 27 rfl).trans ((u92 236 27 rfl).trans ((u89 236 27 rfl).trans w83)))))) ?_
          refine wi_ireturn (nx := 128) (r1 := 0) (r2 := 0) (r3 := 0) rfl rfl ?_
          have b114 := gi_b (lo := 0) (hi := 0) g19 239 98 rfl
          have e115 : h112 238 98 = h19 239 98 := ((u112 238 98 rfl).trans ((u109 238 98 rfl).trans ((y100_0 98 (by decide)).trans ((u97 239 98 rfl).trans ((u92 239 98 rfl).trans ((u89 239 98 rfl).trans ((u83 239 98 rfl).trans ((u74 239 98 rfl).trans ((u63 239 98 rfl).trans ((u41 239 98 rfl).trans ((u35 239 98 rfl).trans ((u33 239 98 rfl).trans ((u31 239 98 rfl).trans ((u29 239 98 rfl).trans (u27 239 98 rfl)))))))))))))))
          have b116 := gi_b (lo := 0) (hi := 0) g19 239 99 rfl
          have e117 : h112 238 99 = h19 239 99 := ((u112 238 99 rfl).trans ((u109 238 99 rfl).trans ((y100_0 99 (by decide)).trans ((u97 239 99 rfl).trans ((u92 239 99 rfl).trans ((u89 239 99 rfl).trans ((u83 239 99 rfl).trans ((u74 239 99 rfl).trans ((u63 239 99 rfl).trans ((u41 239 99 rfl).trans ((u35 239 99 rfl).trans ((u33 239 99 rfl).trans ((u31 239 99 rfl).trans ((u29 239 99 rfl).trans (u27 239 99 rfl)))))))))))))))
          have b118 := gi_b (lo := 0) (hi := 0) g19 239 100 rfl
          have e119 : h112 238 100 = h19 239 100 := ((u112 238 100 rfl).trans ((u109 238 100 rfl).trans ((y100_0 100 (by decide)).trans ((u97 239 100 rfl).trans ((u92 239 100 rfl).trans ((u89 239 100 rfl).trans ((u83 239 100 rfl).trans ((u74 239 100 rfl).trans ((u63 239 100 rfl).trans ((u41 239 100 rfl).trans ((u35 239 100 rfl).trans ((u33 239 100 rfl).trans ((u31 239 100 rfl).trans ((u29 239 100 rfl).trans (u27 239 100 rfl)))))))))))))))
          have b120 := gi_b (lo := 0) (hi := 0) g19 239 101 rfl
          have e121 : h112 238 101 = h19 239 101 := ((u112 238 101 rfl).trans ((u109 238 101 rfl).trans ((y100_0 101 (by decide)).trans ((u97 239 101 rfl).trans ((u92 239 101 rfl).trans ((u89 239 101 rfl).trans ((u83 239 101 rfl).trans ((u74 239 101 rfl).trans ((u63 239 101 rfl).trans ((u41 239 101 rfl).trans ((u35 239 101 rfl).trans ((u33 239 101 rfl).trans ((u31 239 101 rfl).trans ((u29 239 101 rfl).trans (u27 239 101 rfl)))))))))))))))
          have b122 := gi_b (lo := 0) (hi := 0) g19 239 102 rfl
          have e123 : h112 238 102 = h19 239 102 := ((u112 238 102 rfl).trans ((u109 238 102 rfl).trans ((y100_0 102 (by decide)).trans ((u97 239 102 rfl).trans ((u92 239 102 rfl).trans ((u89 239 102 rfl).trans ((u83 239 102 rfl).trans ((u74 239 102 rfl).trans ((u63 239 102 rfl).trans ((u41 239 102 rfl).trans ((u35 239 102 rfl).trans ((u33 239 102 rfl).trans ((u31 239 102 rfl).trans ((u29 239 102 rfl).trans (u27 239 102 rfl)))))))))))))))
          have b124 := gi_b (lo := 0) (hi := 0) g19 239 106 rfl
          have e125 : h112 238 106 = h19 239 106 := ((u112 238 106 rfl).trans ((u109 238 106 rfl).trans ((y100_0 106 (by decide)).trans ((u97 239 106 rfl).trans ((u92 239 106 rfl).trans ((u89 239 106 rfl).trans ((u83 239 106 rfl).trans ((u74 239 106 rfl).trans ((u63 239 106 rfl).trans ((u41 239 106 rfl).trans ((u35 239 106 rfl).trans ((u33 239 106 rfl).trans ((u31 239 106 rfl).trans ((u29 239 106 rfl).trans (u27 239 106 rfl)))))))))))))))
          have b126 := gi_b (lo := 0) (hi := 0) g19 239 73 rfl
          have e127 : h112 238 73 = h19 239 73 := ((u112 238 73 rfl).trans ((u109 238 73 rfl).trans ((y100_0 73 (by decide)).trans ((u97 239 73 rfl).trans ((u92 239 73 rfl).trans ((u89 239 73 rfl).trans ((u83 239 73 rfl).trans ((u74 239 73 rfl).trans ((u63 239 73 rfl).trans ((u41 239 73 rfl).trans ((u35 239 73 rfl).trans ((u33 239 73 rfl).trans ((u31 239 73 rfl).trans ((u29 239 73 rfl).trans (u27 239 73 rfl)))))))))))))))
          have b128 := gi_b (lo := 0) (hi := 12) g63 239 2 rfl
          have e129 : h112 238 2 = h63 239 2 := ((u112 238 2 rfl).trans ((u109 238 2 rfl).trans ((y100_0 2 (by decide)).trans ((u97 239 2 rfl).trans ((u92 239 2 rfl).trans ((u89 239 2 rfl).trans ((u83 239 2 rfl).trans (u74 239 2 rfl))))))))
          have b130 := gi_b (lo := 0) (hi := 0) g19 239 119 rfl
          have e131 : h112 238 119 = h19 239 119 := ((u112 238 119 rfl).trans ((u109 238 119 rfl).trans ((y100_0 119 (by decide)).trans ((u97 239 119 rfl).trans ((u92 239 119 rfl).trans ((u89 239 119 rfl).trans ((u83 239 119 rfl).trans ((u74 239 119 rfl).trans ((u63 239 119 rfl).trans ((u41 239 119 rfl).trans ((u35 239 119 rfl).trans ((u33 239 119 rfl).trans ((u31 239 119 rfl).trans ((u29 239 119 rfl).trans (u27 239 119 rfl)))))))))))))))
          have b132 := gi_b (lo := 0) (hi := 0) g19 239 67 rfl
          have e133 : h112 238 67 = h19 239 67 := ((u112 238 67 rfl).trans ((u109 238 67 rfl).trans ((y100_0 67 (by decide)).trans ((u97 239 67 rfl).trans ((u92 239 67 rfl).trans ((u89 239 67 rfl).trans ((u83 239 67 rfl).trans ((u74 239 67 rfl).trans ((u63 239 67 rfl).trans ((u41 239 67 rfl).trans ((u35 239 67 rfl).trans ((u33 239 67 rfl).trans ((u31 239 67 rfl).trans ((u29 239 67 rfl).trans (u27 239 67 rfl)))))))))))))))
          have b134 := gi_b (lo := 0) (hi := 0) g19 239 69 rfl
          have e135 : h112 238 69 = h19 239 69 := ((u112 238 69 rfl).trans ((u109 238 69 rfl).trans ((y100_0 69 (by decide)).trans ((u97 239 69 rfl).trans ((u92 239 69 rfl).trans ((u89 239 69 rfl).trans ((u83 239 69 rfl).trans ((u74 239 69 rfl).trans ((u63 239 69 rfl).trans ((u41 239 69 rfl).trans ((u35 239 69 rfl).trans ((u33 239 69 rfl).trans ((u31 239 69 rfl).trans ((u29 239 69 rfl).trans (u27 239 69 rfl)))))))))))))))
          have e136 : h112 238 5 = h63 239 5 := ((u112 238 5 rfl).trans ((u109 238 5 rfl).trans ((y100_0 5 (by decide)).trans ((u97 239 5 rfl).trans ((u92 239 5 rfl).trans ((u89 239 5 rfl).trans ((u83 239 5 rfl).trans (u74 239 5 rfl))))))))
          have e137 : h112 236 2 = h13 236 2 := ((u112 236 2 rfl).trans ((u109 236 2 rfl).trans ((u100 236 2 rfl).trans ((u97 236 2 rfl).trans ((u92 236 2 rfl).trans ((u89 236 2 rfl).trans ((u83 236 2 rfl).trans ((u74 236 2 rfl).trans ((u63 236 2 rfl).trans ((u41 236 2 rfl).trans ((u35 236 2 rfl).trans ((u33 236 2 rfl).trans ((u31 236 2 rfl).trans ((u29 236 2 rfl).trans ((u27 236 2 rfl).trans (u19 236 2 rfl))))))))))))))))
          exact k h112 e82 g112 F113 (by omega) (show (h112 238 98) + (h112 238 99) + (h112 238 100) + (h112 238 101) + (h112 238 102) + (h112 238 106) = (h112 238 73) by omega) (show (h112 238 73) ≤ (h112 238 2) by omega) (show (h112 238 119) ≤ (h112 238 67) by omega) (show (h112 238 69) ≤ (h112 238 5) by omega) (show (h112 238 2) ≤ 12 * (h112 238 5) by omega) (show (h112 236 2) = 0 by omega)
        ·
          refine wi_aload_n (i := 0) (x := 236) (nx := 101) (r1 := 0) (r2 := 0) (r3 := 0) rfl rfl ?_
          refine wr_gr (k0 := 236) (x := 243) (nx := 104) (r1 := 11) (r2 := 18) (r3 := 0) rfl rfl (by decide) rfl ⟨rfl, rfl⟩ rfl ?_
          refine wi_iload_n (i := 1) (e := x108) (nx := 105) (r1 := 0) (r2 := 0) (r3 := 0) rfl rfl ?_
          refine wi_aload_n (i := 0) (x := 236) (nx := 106) (r1 := 0) (r2 := 0) (r3 := 0) rfl rfl ?_
          refine wr_gr (k0 := 236) (x := 244) (nx := 109) (r1 := 11) (r2 := 19) (r3 := 0) rfl rfl (by decide) rfl ⟨rfl, rfl⟩ rfl ?_
          refine wi_iload_n (i := 1) (e := x108) (nx := 110) (r1 := 0) (r2 := 0) (r3 := 0) rfl rfl ?_
          obtain ⟨i112, ei112⟩ : ∃ q : Nat, x108 = (q : Int) := ⟨(x108).toNat, by omega⟩
          have b113 := gi_b (lo := -9223372036854775808) (hi := 9223372036854775807) g63 244 i112 rfl
          refine wr_la (k0 := 244) (a := x108) (f := i112) (x := h63 244 i112) (nx := 111) (r1 := 0) (r2 := 0) (r3 := 0) rfl (by decide) rfl (by omega) (by omega) (by decide) ((u109 244 i112 (fn_a (by omega) fn_0)).trans ((u100 244 i112 (fn_a (by omega) fn_0)).trans ((u97 244 i112 (fn_a (by omega) fn_0)).trans ((u92 244 i112 (fn_a (by omega) fn_0)).trans ((u89 244 i112 (fn_a (by omega) fn_0)).trans ((u83 244 i112 (fn_a (by omega) fn_0)).trans (u74 244 i112 (fn_a (by omega) (fn_a (by omega) (fn_a (by omega) (fn_a (by omega) (fn_a (by omega) (fn_a (by omega) (fn_a (by omega) fn_0)))))))))))))) ?_
          refine wr_ls (k0 := 243) (a := x108) (f := i112) (x := h63 244 i112) (bl := -9223372036854775808) (bh := 9223372036854775807) (nx := 112) (r1 := 0) (r2 := 0) (r3 := 0) rfl (by decide) rfl (by omega) (by omega) (by decide) g109 rfl (by omega) (fun h114 g114 w114 u114 => ?_)
          have F115 := F110.then rfl (FR.rngp (lo := 243) (hi := 243) u114 (by decide))
          have F116 := u109.then rfl (FR.rngp (lo := 243) (hi := 243) u114 (by decide))
          refine wr_iinc (i := 1) (n := 1) (v := x108) (fun e117 => [(1, vi e117), (0, .ref 236)]) (nx := 115) (r1 := 0) (r2 := 0) (r3 := 0) rfl rfl (fun _ => rfl) (fun e117 (fe117 : e117 = x108 + 1) => ?_)
          refine wi_goto (nx := 118) (r1 := 95) (r2 := 0) (r3 := 0) rfl ?_
          refine wp.lo (lo := [(0, .ref 236), (1, vi e117)]) ⟨rfl, rfl, trivial⟩ rfl ?_
          exact I109 e117 h114 ⟨g114, F115, F116, (show (0 ≤ e117 ∧ e117 ≤ 5) by omega)⟩ (show ((5 : Int) + 1 - e117).toNat < ((5 : Int) + 1 - x108).toNat by omega)
      ·
        have e89 : h83 236 4 = h74 236 4 := (u83 236 4 rfl)
        have e90 : h83 236 3 = h13 236 3 := ((u83 236 3 rfl).trans ((u74 236 3 rfl).trans ((u63 236 3 rfl).trans ((u41 236 3 rfl).trans ((u35 236 3 rfl).trans ((u33 236 3 rfl).trans ((u31 236 3 rfl).trans ((u29 236 3 rfl).trans ((u27 236 3 rfl).trans (u19 236 3 rfl))))))))))
        have e91 : h83 236 8 = h74 236 8 := (u83 236 8 rfl)
        have e92 : h83 236 6 = h74 236 6 := (u83 236 6 rfl)
        have e93 : h83 239 5 = h63 239 5 := ((u83 239 5 rfl).trans (u74 239 5 rfl))
        have e94 : h83 239 7 = h63 239 7 := ((u83 239 7 rfl).trans (u74 239 7 rfl))
        have e95 : h83 239 15 = h63 239 15 := ((u83 239 15 rfl).trans (u74 239 15 rfl))
        have e96 : h83 239 16 = h63 239 16 := ((u83 239 16 rfl).trans (u74 239 16 rfl))
        have e97 : h83 239 17 = h63 239 17 := ((u83 239 17 rfl).trans (u74 239 17 rfl))
        have e98 : h83 239 18 = h63 239 18 := ((u83 239 18 rfl).trans (u74 239 18 rfl))
        exact I41 h83 ⟨g83, F84, F85, (show ((h83 236 4) ≤ (h83 236 3)) ∧ ((h83 236 8) = 0) ∧ ((h83 236 6) ≠ 0) ∧ ((h83 239 5) ≤ 9) ∧ (1 ≤ (h83 239 5)) ∧ ((h83 239 7) ≤ 3) ∧ ((h83 239 15) ≤ 6) ∧ ((h83 239 16) ≤ 6) ∧ ((h83 239 17) ≤ 6) ∧ ((h83 239 18) ≤ 6) by omega)⟩ (show ((h83 236 3) - (h83 236 4)).toNat < ((h41 236 3) - (h41 236 4)).toNat by omega)
-- method 260: Model.readyIn()I
set_option maxRecDepth 100000 in
set_option maxHeartbeats 100000000 in
theorem ct_260_236 {L : Nat} {xs : Nat → Int32} {d b c : Nat} {h : hp} {cr : Nat → Nat → Option Nat} {Q : hp_Q} (hcr : CR cr)  (g : GI h)    (k : ∀ (h2 : hp) (z0 : Int) , GI h2 → FR [(236, 236, some (0, 0))] h h2 → (-9999 ≤ z0 ∧ z0 ≤ 20000) → Q (.inl (some (vi z0))) (hp_w h2 cr) b c) : wp (md_xa (L, xs)) (d + 1) 260 (0, [(0, .ref 236)], [], hp_w h cr, b, c) Q := by
  have F0 : FR [(236, 236, some (0, 0))] h h := FR.refl
  refine wi_aload_n (i := 0) (x := 236) (nx := 1) (r1 := 0) (r2 := 0) (r3 := 0) rfl rfl ?_
  refine wi_iconst (n := 0) (nx := 2) (r1 := 0) (r2 := 0) (r3 := 0) rfl ?_
  refine wr_pf0 (k0 := 236) (x := 0) (bl := 0) (bh := 2) (nx := 5) (r1 := 11) (r2 := 0) (r3 := 0) rfl (by decide) rfl ⟨rfl, rfl⟩ rfl rfl g rfl (by omega) (fun h1 g1 w1 u1 => ?_)
  have F2 := F0.then rfl u1
  refine wi_aload_n (i := 0) (x := 236) (nx := 6) (r1 := 0) (r2 := 0) (r3 := 0) rfl rfl ?_
  refine wr_gr (k0 := 236) (x := 238) (nx := 9) (r1 := 11) (r2 := 13) (r3 := 0) rfl rfl (by decide) rfl ⟨rfl, rfl⟩ rfl ?_
  refine wi_bipush (n := 102) (nx := 11) (r1 := 0) (r2 := 0) (r3 := 0) rfl (by decide) ?_
  have b3 := gi_b (lo := 0) (hi := 3) g 238 102 rfl
  refine wr_ia (k0 := 238) (a := 102) (f := 102) (x := h 238 102) (nx := 12) (r1 := 0) (r2 := 0) (r3 := 0) rfl (by decide) rfl (by omega) (by omega) (by decide) (u1 238 102 rfl) ?_
  refine wi_if (cd := .ne) (nx := 15) (r1 := 19) (r2 := 0) (r3 := 0) rfl (by omega) (fun (q4 : (h 238 102) ≠ 0) => ?_) (fun (q4 : ¬ ((h 238 102) ≠ 0)) => ?_)
  ·
    refine wi_iconst (n := 0) (nx := 20) (r1 := 0) (r2 := 0) (r3 := 0) rfl ?_
    refine wi_aload_n (i := 0) (x := 236) (nx := 21) (r1 := 0) (r2 := 0) (r3 := 0) rfl rfl ?_
    refine wr_gr (k0 := 236) (x := 238) (nx := 24) (r1 := 11) (r2 := 13) (r3 := 0) rfl rfl (by decide) rfl ⟨rfl, rfl⟩ rfl ?_
    refine wi_bipush (n := 55) (nx := 26) (r1 := 0) (r2 := 0) (r3 := 0) rfl (by decide) ?_
    refine wi_aload_n (i := 0) (x := 236) (nx := 27) (r1 := 0) (r2 := 0) (r3 := 0) rfl rfl ?_
    refine wr_gr (k0 := 236) (x := 238) (nx := 30) (r1 := 11) (r2 := 13) (r3 := 0) rfl rfl (by decide) rfl ⟨rfl, rfl⟩ rfl ?_
    refine wi_bipush (n := 103) (nx := 32) (r1 := 0) (r2 := 0) (r3 := 0) rfl (by decide) ?_
    have b5 := gi_b (lo := 0) (hi := 11) g 238 103 rfl
    refine wr_ia (k0 := 238) (a := 103) (f := 103) (x := h 238 103) (nx := 33) (r1 := 0) (r2 := 0) (r3 := 0) rfl (by decide) rfl (by omega) (by omega) (by decide) (u1 238 103 rfl) ?_
    refine wr_add (nx := 34) (r1 := 0) (r2 := 0) (r3 := 0) rfl (fun e6 (fe6 : e6 = 55 + (h 238 103)) => ?_)
    obtain ⟨i7, ei7⟩ : ∃ q : Nat, e6 = (q : Int) := ⟨(e6).toNat, by omega⟩
    have b8 := gi_b (lo := 0) (hi := 20000) g 238 i7 (gi_rg 55 12 (fun _ => rfl) (by decide +kernel) (by omega))
    refine wr_ia (k0 := 238) (a := e6) (f := i7) (x := h 238 i7) (nx := 35) (r1 := 0) (r2 := 0) (r3 := 0) rfl (by decide) rfl (by omega) (by omega) (by decide) (u1 238 i7 (fn_a (by omega) fn_0)) ?_
    refine wi_aload_n (i := 0) (x := 236) (nx := 36) (r1 := 0) (r2 := 0) (r3 := 0) rfl rfl ?_
    refine wr_gr (k0 := 236) (x := 238) (nx := 39) (r1 := 11) (r2 := 13) (r3 := 0) rfl rfl (by decide) rfl ⟨rfl, rfl⟩ rfl ?_
    refine wi_bipush (n := 67) (nx := 41) (r1 := 0) (r2 := 0) (r3 := 0) rfl (by decide) ?_
    have b9 := gi_b (lo := 0) (hi := 9999) g 238 67 rfl
    refine wr_ia (k0 := 238) (a := 67) (f := 67) (x := h 238 67) (nx := 42) (r1 := 0) (r2 := 0) (r3 := 0) rfl (by decide) rfl (by omega) (by omega) (by decide) (u1 238 67 rfl) ?_
    refine wr_sub (nx := 43) (r1 := 0) (r2 := 0) (r3 := 0) rfl (fun e10 (fe10 : e10 = (h 238 i7) - (h 238 67)) => ?_)
    refine wi_S (rest := []) (as := [vi 0, vi e10]) (nx := 46) (r1 := 250) (r2 := 18) (r3 := 0) rfl rfl rfl (of_decide_eq_true rfl) rfl rfl (of_decide_eq_true rfl) (of_decide_eq_true rfl) ?_
    refine wi_iload_n (i := 0) (e := 0) (nx := 1) (r1 := 0) (r2 := 0) (r3 := 0) rfl rfl ?_
    refine wi_iload_n (i := 1) (e := e10) (nx := 2) (r1 := 0) (r2 := 0) (r3 := 0) rfl rfl ?_
    refine wi_icmp (cd := .le) (nx := 5) (r1 := 9) (r2 := 0) (r3 := 0) rfl (by omega) (by omega) (fun (q11 : 0 ≤ e10) => ?_) (fun (q11 : ¬ (0 ≤ e10)) => ?_)
    ·
      refine wi_iload_n (i := 1) (e := e10) (nx := 10) (r1 := 0) (r2 := 0) (r3 := 0) rfl rfl ?_
      refine wi_ireturn (nx := 11) (r1 := 0) (r2 := 0) (r3 := 0) rfl rfl ?_
      refine wk_i ?_
      refine wi_ireturn (nx := 47) (r1 := 0) (r2 := 0) (r3 := 0) rfl rfl ?_
      exact k h1 e10 g1 F2 (by omega)
    ·
      refine wi_iload_n (i := 0) (e := 0) (nx := 6) (r1 := 0) (r2 := 0) (r3 := 0) rfl rfl ?_
      refine wi_goto (nx := 9) (r1 := 10) (r2 := 0) (r3 := 0) rfl ?_
      refine wi_ireturn (nx := 11) (r1 := 0) (r2 := 0) (r3 := 0) rfl rfl ?_
      refine wk_i ?_
      refine wi_ireturn (nx := 47) (r1 := 0) (r2 := 0) (r3 := 0) rfl rfl ?_
      exact k h1 0 g1 F2 (by omega)
  ·
    refine wi_iconst (n := (-1)) (nx := 16) (r1 := 0) (r2 := 0) (r3 := 0) rfl ?_
    refine wi_goto (nx := 19) (r1 := 46) (r2 := 0) (r3 := 0) rfl ?_
    refine wi_ireturn (nx := 47) (r1 := 0) (r2 := 0) (r3 := 0) rfl rfl ?_
    exact k h1 (-1) g1 F2 (by omega)
