-- method 291: Model.chosenToLeave()I
set_option maxRecDepth 100000 in
set_option maxHeartbeats 100000000 in
theorem ct_291_236 {L : Nat} {xs : Nat → Int32} {d b c : Nat} {h : hp} {cr : Nat → Nat → Option Nat} {Q : hp_Q} (hcr : CR cr)  (g : GI h)    (k : ∀ (z0 : Int), (-1 ≤ z0 ∧ z0 ≤ 3) → (laP (canL (h 238)) z0) → Q (.inl (some (vi z0))) (hp_w h cr) b c) : wp (md_xa (L, xs)) (d + 2) 291 (0, [(0, .ref 236)], [], hp_w h cr, b, c) Q := by
  have F0 : FR [] h h := FR.refl
  refine wi_iconst (n := (-1)) (nx := 1) (r1 := 0) (r2 := 0) (r3 := 0) rfl ?_
  refine wi_istore_n (i := 1) (e := -1) (lo2 := [(1, vi (-1)), (0, .ref 236)]) (nx := 2) (r1 := 0) (r2 := 0) (r3 := 0) rfl rfl ?_
  refine wi_iconst (n := 0) (nx := 3) (r1 := 0) (r2 := 0) (r3 := 0) rfl ?_
  refine wi_istore_n (i := 2) (e := 0) (lo2 := [(2, vi 0), (1, vi (-1)), (0, .ref 236)]) (nx := 4) (r1 := 0) (r2 := 0) (r3 := 0) rfl rfl ?_
  refine wp.lo (lo := [(0, .ref 236), (1, vi (-1)), (2, vi 0)]) ⟨rfl, rfl, rfl, trivial⟩ rfl ?_
  refine wl_2 (fun x1 x2 h3 => h = h3 ∧ ((-1 ≤ x1 ∧ x1 ≤ 3) ∧ (0 ≤ x2 ∧ x2 ≤ 4)) ∧ (laX (canL (h 238)) x1 x2)) (fun x1 x2 h3 => ((4 : Int) + 1 - x2).toNat) (fun x1 x2 h3 => (4, [(0, .ref 236), (1, vi x1), (2, vi x2)], [], hp_w h3 cr, b, c)) ?_ (-1) 0 h ⟨rfl, (show (-1 ≤ (-1) ∧ (-1) ≤ 3) ∧ (0 ≤ 0 ∧ 0 ≤ 4) by omega), laX.start⟩
  intro x1 x2 h3 ⟨e3, f3, X3_0⟩ I3
  subst e3
  refine wi_iload_n (i := 2) (e := x2) (nx := 5) (r1 := 0) (r2 := 0) (r3 := 0) rfl rfl ?_
  refine wi_aload_n (i := 0) (x := 236) (nx := 6) (r1 := 0) (r2 := 0) (r3 := 0) rfl rfl ?_
  refine wr_gr (k0 := 236) (x := 238) (nx := 9) (r1 := 11) (r2 := 13) (r3 := 0) rfl rfl (by decide) rfl ⟨rfl, rfl⟩ rfl ?_
  refine wi_iconst (n := 1) (nx := 10) (r1 := 0) (r2 := 0) (r3 := 0) rfl ?_
  have b5 := gi_b (lo := 0) (hi := 4) g 238 1 rfl
  refine wr_ia (k0 := 238) (a := 1) (f := 1) (x := h 238 1) (nx := 11) (r1 := 0) (r2 := 0) (r3 := 0) rfl (by decide) rfl (by omega) (by omega) (by decide) rfl ?_
  refine wi_icmp (cd := .ge) (nx := 14) (r1 := 79) (r2 := 0) (r3 := 0) rfl (by omega) (by omega) (fun (q6 : (h 238 1) ≤ x2) => ?_) (fun (q6 : ¬ ((h 238 1) ≤ x2)) => ?_)
  ·
    refine wi_iload_n (i := 1) (e := x1) (nx := 80) (r1 := 0) (r2 := 0) (r3 := 0) rfl rfl ?_
    refine wi_ireturn (nx := 81) (r1 := 0) (r2 := 0) (r3 := 0) rfl rfl ?_
    exact k x1 (by omega) (laX.done X3_0 (fun v hv c => by have c1 := c.1; omega))
  ·
    refine wi_aload_n (i := 0) (x := 236) (nx := 15) (r1 := 0) (r2 := 0) (r3 := 0) rfl rfl ?_
    refine wi_iload_n (i := 2) (e := x2) (nx := 16) (r1 := 0) (r2 := 0) (r3 := 0) rfl rfl ?_
    rcases (show x2 = 0 ∨ x2 = 1 ∨ x2 = 2 ∨ x2 = 3 by omega) with q7 | q7 | q7 | q7
    ·
      rw [q7]
      refine wr_V (k0 := 236) (rest := []) (as := [.ref 236, vi 0]) (nx := 19) (r1 := 267) (r2 := 1) (r3 := 11) rfl rfl rfl (of_decide_eq_true rfl) rfl rfl (by decide) rfl rfl (of_decide_eq_true rfl) (of_decide_eq_true rfl) ?_
      refine ct_267_236_L0 hcr  g    (fun z9  (fz9 : 0 ≤ z9 ∧ z9 ≤ 1) (p8_0 : z9 = 0 ∨ 1 ≤ (h 238 98)) (p8_1 : z9 = 0 ∨ (h 238 67) ≤ 9998) (p8_2 : z9 = 0 ∨ (1 ≤ (h 238 (43 + (h 238 74).toNat)) ∧ (h 238 102) < (h 238 7)) ∨ ((h 238 (43 + (h 238 74).toNat)) ≤ 0 ∧ (h 238 74) - (h 238 106) ≤ (h 238 3))) y8_0 => ?_)
      have b10 := gi_b (lo := 0) (hi := 6) g 238 98 rfl
      have b11 := gi_b (lo := 0) (hi := 9999) g 238 67 rfl
      have b12 := gi_b (lo := 0) (hi := 11) g 238 74 rfl
      obtain ⟨i13, ei13⟩ : ∃ q : Nat, (43 + h 238 74) = (q : Int) := ⟨(43 + h 238 74).toNat, by omega⟩
      have b14 := gi_b (lo := 0) (hi := 999) g 238 i13 (gi_rg 43 12 (fun _ => rfl) (by decide +kernel) (by omega))
      have e15 : h 238 (43 + (h 238 74).toNat) = h 238 i13 := by rw [show 43 + (h 238 74).toNat = i13 by omega]
      have b16 := gi_b (lo := 0) (hi := 3) g 238 102 rfl
      have b17 := gi_b (lo := 0) (hi := 3) g 238 7 rfl
      have b18 := gi_b (lo := 0) (hi := 12) g 238 106 rfl
      have b19 := gi_b (lo := 0) (hi := 999) g 238 3 rfl
      refine wk_i ?_
      refine wi_if (cd := .ne) (nx := 22) (r1 := 25) (r2 := 0) (r3 := 0) rfl (by omega) (fun (q20 : z9 ≠ 0) => ?_) (fun (q20 : ¬ (z9 ≠ 0)) => ?_)
      ·
        refine wi_aload_n (i := 0) (x := 236) (nx := 26) (r1 := 0) (r2 := 0) (r3 := 0) rfl rfl ?_
        refine wr_gr (k0 := 236) (x := 238) (nx := 29) (r1 := 11) (r2 := 13) (r3 := 0) rfl rfl (by decide) rfl ⟨rfl, rfl⟩ rfl ?_
        refine wi_bipush (n := 31) (nx := 31) (r1 := 0) (r2 := 0) (r3 := 0) rfl (by decide) ?_
        refine wi_aload_n (i := 0) (x := 236) (nx := 32) (r1 := 0) (r2 := 0) (r3 := 0) rfl rfl ?_
        refine wi_iload_n (i := 2) (e := 0) (nx := 33) (r1 := 0) (r2 := 0) (r3 := 0) rfl rfl ?_
        refine wi_iconst (n := 0) (nx := 34) (r1 := 0) (r2 := 0) (r3 := 0) rfl ?_
        refine wr_V (k0 := 236) (rest := [vi 31, .ref 238]) (as := [.ref 236, vi 0, vi 0]) (nx := 37) (r1 := 258) (r2 := 2) (r3 := 11) rfl rfl rfl (of_decide_eq_true rfl) rfl rfl (by decide) rfl rfl (of_decide_eq_true rfl) (of_decide_eq_true rfl) ?_
        refine wi_aload_n (i := 0) (x := 236) (nx := 1) (r1 := 0) (r2 := 0) (r3 := 0) rfl rfl ?_
        refine wr_gr (k0 := 236) (x := 238) (nx := 4) (r1 := 11) (r2 := 13) (r3 := 0) rfl rfl (by decide) rfl ⟨rfl, rfl⟩ rfl ?_
        refine wi_bipush (n := 74) (nx := 6) (r1 := 0) (r2 := 0) (r3 := 0) rfl (by decide) ?_
        refine wi_bipush (n := 6) (nx := 8) (r1 := 0) (r2 := 0) (r3 := 0) rfl (by decide) ?_
        refine wi_iload_n (i := 1) (e := 0) (nx := 9) (r1 := 0) (r2 := 0) (r3 := 0) rfl rfl ?_
        refine wr_mulL (0) (nx := 10) (r1 := 0) (r2 := 0) (r3 := 0) rfl (by decide) ?_
        refine wr_addL (74) (nx := 11) (r1 := 0) (r2 := 0) (r3 := 0) rfl (by decide) ?_
        refine wi_iload_n (i := 2) (e := 0) (nx := 12) (r1 := 0) (r2 := 0) (r3 := 0) rfl rfl ?_
        refine wr_addL (74) (nx := 13) (r1 := 0) (r2 := 0) (r3 := 0) rfl (by decide) ?_
        refine wr_ia (k0 := 238) (a := 74) (f := 74) (x := h 238 74) (nx := 14) (r1 := 0) (r2 := 0) (r3 := 0) rfl (by decide) rfl (by omega) (by omega) (by decide) rfl ?_
        refine wi_ireturn (nx := 15) (r1 := 0) (r2 := 0) (r3 := 0) rfl rfl ?_
        refine wk_i ?_
        refine wr_add (nx := 38) (r1 := 0) (r2 := 0) (r3 := 0) rfl (fun e21 (fe21 : e21 = 31 + (h 238 74)) => ?_)
        obtain ⟨i22, ei22⟩ : ∃ q : Nat, e21 = (q : Int) := ⟨(e21).toNat, by omega⟩
        have b23 := gi_b (lo := 0) (hi := 4) g 238 i22 (gi_rg 31 12 (fun _ => rfl) (by decide +kernel) (by omega))
        refine wr_ia (k0 := 238) (a := e21) (f := i22) (x := h 238 i22) (nx := 39) (r1 := 0) (r2 := 0) (r3 := 0) rfl (by decide) rfl (by omega) (by omega) (by decide) rfl ?_
        refine wi_aload_n (i := 0) (x := 236) (nx := 40) (r1 := 0) (r2 := 0) (r3 := 0) rfl rfl ?_
        refine wr_gr (k0 := 236) (x := 238) (nx := 43) (r1 := 11) (r2 := 13) (r3 := 0) rfl rfl (by decide) rfl ⟨rfl, rfl⟩ rfl ?_
        refine wi_bipush (n := 68) (nx := 45) (r1 := 0) (r2 := 0) (r3 := 0) rfl (by decide) ?_
        have b24 := gi_b (lo := -1) (hi := 4) g 238 68 rfl
        refine wr_ia (k0 := 238) (a := 68) (f := 68) (x := h 238 68) (nx := 46) (r1 := 0) (r2 := 0) (r3 := 0) rfl (by decide) rfl (by omega) (by omega) (by decide) rfl ?_
        refine wi_icmp (cd := .ne) (nx := 49) (r1 := 51) (r2 := 0) (r3 := 0) rfl (by omega) (by omega) (fun (q25 : (h 238 i22) ≠ (h 238 68)) => ?_) (fun (q25 : ¬ ((h 238 i22) ≠ (h 238 68))) => ?_)
        ·
          refine wi_iload_n (i := 1) (e := x1) (nx := 52) (r1 := 0) (r2 := 0) (r3 := 0) rfl rfl ?_
          refine wi_iconst (n := (-1)) (nx := 53) (r1 := 0) (r2 := 0) (r3 := 0) rfl ?_
          refine wi_icmp (cd := .eq) (nx := 56) (r1 := 71) (r2 := 0) (r3 := 0) rfl (by omega) (by omega) (fun (q26 : x1 = (-1)) => ?_) (fun (q26 : ¬ (x1 = (-1))) => ?_)
          ·
            refine wi_iload_n (i := 2) (e := 0) (nx := 72) (r1 := 0) (r2 := 0) (r3 := 0) rfl rfl ?_
            refine wi_istore_n (i := 1) (e := 0) (lo2 := [(1, vi 0), (0, .ref 236), (2, vi 0)]) (nx := 73) (r1 := 0) (r2 := 0) (r3 := 0) rfl rfl ?_
            refine wr_iincL (i := 2) (n := 1) (v := 0) (1) ([(2, vi 1), (1, vi 0), (0, .ref 236)]) (nx := 76) (r1 := 0) (r2 := 0) (r3 := 0) rfl rfl (by decide) rfl ?_
            refine wi_goto (nx := 79) (r1 := 4) (r2 := 0) (r3 := 0) rfl ?_
            refine wp.lo (lo := [(0, .ref 236), (1, vi 0), (2, vi 1)]) ⟨rfl, rfl, rfl, trivial⟩ rfl ?_
            have cn27 : canL (h 238) 0 := ⟨(show (0 : Int) + 1 ≤ h 238 1 by omega), mlP.pos y8_0 (by omega)⟩
            exact I3 0 1 h ⟨rfl, (show (-1 ≤ 0 ∧ 0 ≤ 3) ∧ (0 ≤ 1 ∧ 1 ≤ 4) by omega), (laX.yes 0 (by decide) (by omega) cn27)⟩ (show ((4 : Int) + 1 - 1).toNat < ((4 : Int) + 1 - x2).toNat by omega)
          ·
            refine wi_aload_n (i := 0) (x := 236) (nx := 57) (r1 := 0) (r2 := 0) (r3 := 0) rfl rfl ?_
            refine wi_iload_n (i := 2) (e := 0) (nx := 58) (r1 := 0) (r2 := 0) (r3 := 0) rfl rfl ?_
            refine wi_iconst (n := 0) (nx := 59) (r1 := 0) (r2 := 0) (r3 := 0) rfl ?_
            refine wr_V (k0 := 236) (rest := []) (as := [.ref 236, vi 0, vi 0]) (nx := 62) (r1 := 258) (r2 := 2) (r3 := 11) rfl rfl rfl (of_decide_eq_true rfl) rfl rfl (by decide) rfl rfl (of_decide_eq_true rfl) (of_decide_eq_true rfl) ?_
            refine wi_aload_n (i := 0) (x := 236) (nx := 1) (r1 := 0) (r2 := 0) (r3 := 0) rfl rfl ?_
            refine wr_gr (k0 := 236) (x := 238) (nx := 4) (r1 := 11) (r2 := 13) (r3 := 0) rfl rfl (by decide) rfl ⟨rfl, rfl⟩ rfl ?_
            refine wi_bipush (n := 74) (nx := 6) (r1 := 0) (r2 := 0) (r3 := 0) rfl (by decide) ?_
            refine wi_bipush (n := 6) (nx := 8) (r1 := 0) (r2 := 0) (r3 := 0) rfl (by decide) ?_
            refine wi_iload_n (i := 1) (e := 0) (nx := 9) (r1 := 0) (r2 := 0) (r3 := 0) rfl rfl ?_
            refine wr_mulL (0) (nx := 10) (r1 := 0) (r2 := 0) (r3 := 0) rfl (by decide) ?_
            refine wr_addL (74) (nx := 11) (r1 := 0) (r2 := 0) (r3 := 0) rfl (by decide) ?_
            refine wi_iload_n (i := 2) (e := 0) (nx := 12) (r1 := 0) (r2 := 0) (r3 := 0) rfl rfl ?_
            refine wr_addL (74) (nx := 13) (r1 := 0) (r2 := 0) (r3 := 0) rfl (by decide) ?_
            refine wr_ia (k0 := 238) (a := 74) (f := 74) (x := h 238 74) (nx := 14) (r1 := 0) (r2 := 0) (r3 := 0) rfl (by decide) rfl (by omega) (by omega) (by decide) rfl ?_
            refine wi_ireturn (nx := 15) (r1 := 0) (r2 := 0) (r3 := 0) rfl rfl ?_
            refine wk_i ?_
            refine wi_aload_n (i := 0) (x := 236) (nx := 63) (r1 := 0) (r2 := 0) (r3 := 0) rfl rfl ?_
            refine wi_iload_n (i := 1) (e := x1) (nx := 64) (r1 := 0) (r2 := 0) (r3 := 0) rfl rfl ?_
            refine wi_iconst (n := 0) (nx := 65) (r1 := 0) (r2 := 0) (r3 := 0) rfl ?_
            rcases (show x1 = 0 ∨ x1 = 1 ∨ x1 = 2 ∨ x1 = 3 by omega) with q27 | q27 | q27 | q27
            ·
              rw [q27]
              refine wr_V (k0 := 236) (rest := [vi (h 238 74)]) (as := [.ref 236, vi 0, vi 0]) (nx := 68) (r1 := 258) (r2 := 2) (r3 := 11) rfl rfl rfl (of_decide_eq_true rfl) rfl rfl (by decide) rfl rfl (of_decide_eq_true rfl) (of_decide_eq_true rfl) ?_
              refine wi_aload_n (i := 0) (x := 236) (nx := 1) (r1 := 0) (r2 := 0) (r3 := 0) rfl rfl ?_
              refine wr_gr (k0 := 236) (x := 238) (nx := 4) (r1 := 11) (r2 := 13) (r3 := 0) rfl rfl (by decide) rfl ⟨rfl, rfl⟩ rfl ?_
              refine wi_bipush (n := 74) (nx := 6) (r1 := 0) (r2 := 0) (r3 := 0) rfl (by decide) ?_
              refine wi_bipush (n := 6) (nx := 8) (r1 := 0) (r2 := 0) (r3 := 0) rfl (by decide) ?_
              refine wi_iload_n (i := 1) (e := 0) (nx := 9) (r1 := 0) (r2 := 0) (r3 := 0) rfl rfl ?_
              refine wr_mulL (0) (nx := 10) (r1 := 0) (r2 := 0) (r3 := 0) rfl (by decide) ?_
              refine wr_addL (74) (nx := 11) (r1 := 0) (r2 := 0) (r3 := 0) rfl (by decide) ?_
              refine wi_iload_n (i := 2) (e := 0) (nx := 12) (r1 := 0) (r2 := 0) (r3 := 0) rfl rfl ?_
              refine wr_addL (74) (nx := 13) (r1 := 0) (r2 := 0) (r3 := 0) rfl (by decide) ?_
              refine wr_ia (k0 := 238) (a := 74) (f := 74) (x := h 238 74) (nx := 14) (r1 := 0) (r2 := 0) (r3 := 0) rfl (by decide) rfl (by omega) (by omega) (by decide) rfl ?_
              refine wi_ireturn (nx := 15) (r1 := 0) (r2 := 0) (r3 := 0) rfl rfl ?_
              refine wk_i ?_
              refine wi_icmp (cd := .ge) (nx := 71) (r1 := 73) (r2 := 0) (r3 := 0) rfl (by omega) (by omega) (fun (q28 : (h 238 74) ≤ (h 238 74)) => ?_) (fun (q28 : ¬ ((h 238 74) ≤ (h 238 74))) => by exfalso; omega)
              refine wr_iincL (i := 2) (n := 1) (v := 0) (1) ([(2, vi 1), (0, .ref 236), (1, vi 0)]) (nx := 76) (r1 := 0) (r2 := 0) (r3 := 0) rfl rfl (by decide) rfl ?_
              refine wi_goto (nx := 79) (r1 := 4) (r2 := 0) (r3 := 0) rfl ?_
              refine wp.lo (lo := [(0, .ref 236), (1, vi 0), (2, vi 1)]) ⟨rfl, rfl, rfl, trivial⟩ rfl ?_
              have cn29 : canL (h 238) 0 := ⟨(show (0 : Int) + 1 ≤ h 238 1 by omega), mlP.pos y8_0 (by omega)⟩
              exact I3 0 1 h ⟨rfl, (show (-1 ≤ 0 ∧ 0 ≤ 3) ∧ (0 ≤ 1 ∧ 1 ≤ 4) by omega), (laX.yes 0 (by decide) (by omega) cn29)⟩ (show ((4 : Int) + 1 - 1).toNat < ((4 : Int) + 1 - x2).toNat by omega)
            ·
              rw [q27]
              refine wr_V (k0 := 236) (rest := [vi (h 238 74)]) (as := [.ref 236, vi 1, vi 0]) (nx := 68) (r1 := 258) (r2 := 2) (r3 := 11) rfl rfl rfl (of_decide_eq_true rfl) rfl rfl (by decide) rfl rfl (of_decide_eq_true rfl) (of_decide_eq_true rfl) ?_
              refine wi_aload_n (i := 0) (x := 236) (nx := 1) (r1 := 0) (r2 := 0) (r3 := 0) rfl rfl ?_
              refine wr_gr (k0 := 236) (x := 238) (nx := 4) (r1 := 11) (r2 := 13) (r3 := 0) rfl rfl (by decide) rfl ⟨rfl, rfl⟩ rfl ?_
              refine wi_bipush (n := 74) (nx := 6) (r1 := 0) (r2 := 0) (r3 := 0) rfl (by decide) ?_
              refine wi_bipush (n := 6) (nx := 8) (r1 := 0) (r2 := 0) (r3 := 0) rfl (by decide) ?_
              refine wi_iload_n (i := 1) (e := 1) (nx := 9) (r1 := 0) (r2 := 0) (r3 := 0) rfl rfl ?_
              refine wr_mulL (6) (nx := 10) (r1 := 0) (r2 := 0) (r3 := 0) rfl (by decide) ?_
              refine wr_addL (80) (nx := 11) (r1 := 0) (r2 := 0) (r3 := 0) rfl (by decide) ?_
              refine wi_iload_n (i := 2) (e := 0) (nx := 12) (r1 := 0) (r2 := 0) (r3 := 0) rfl rfl ?_
              refine wr_addL (80) (nx := 13) (r1 := 0) (r2 := 0) (r3 := 0) rfl (by decide) ?_
              have b28 := gi_b (lo := 0) (hi := 11) g 238 80 rfl
              refine wr_ia (k0 := 238) (a := 80) (f := 80) (x := h 238 80) (nx := 14) (r1 := 0) (r2 := 0) (r3 := 0) rfl (by decide) rfl (by omega) (by omega) (by decide) rfl ?_
              refine wi_ireturn (nx := 15) (r1 := 0) (r2 := 0) (r3 := 0) rfl rfl ?_
              refine wk_i ?_
              refine wi_icmp (cd := .ge) (nx := 71) (r1 := 73) (r2 := 0) (r3 := 0) rfl (by omega) (by omega) (fun (q29 : (h 238 80) ≤ (h 238 74)) => ?_) (fun (q29 : ¬ ((h 238 80) ≤ (h 238 74))) => ?_)
              ·
                refine wr_iincL (i := 2) (n := 1) (v := 0) (1) ([(2, vi 1), (0, .ref 236), (1, vi 1)]) (nx := 76) (r1 := 0) (r2 := 0) (r3 := 0) rfl rfl (by decide) rfl ?_
                refine wi_goto (nx := 79) (r1 := 4) (r2 := 0) (r3 := 0) rfl ?_
                refine wp.lo (lo := [(0, .ref 236), (1, vi 1), (2, vi 1)]) ⟨rfl, rfl, rfl, trivial⟩ rfl ?_
                exact I3 1 1 h ⟨rfl, (show (-1 ≤ 1 ∧ 1 ≤ 3) ∧ (0 ≤ 1 ∧ 1 ≤ 4) by omega), (by have lx : laX (canL (h 238)) x1 1 := laX.keep X3_0 (by omega); rwa [show x1 = 1 by omega] at lx)⟩ (show ((4 : Int) + 1 - 1).toNat < ((4 : Int) + 1 - x2).toNat by omega)
              ·
                refine wi_iload_n (i := 2) (e := 0) (nx := 72) (r1 := 0) (r2 := 0) (r3 := 0) rfl rfl ?_
                refine wi_istore_n (i := 1) (e := 0) (lo2 := [(1, vi 0), (0, .ref 236), (2, vi 0)]) (nx := 73) (r1 := 0) (r2 := 0) (r3 := 0) rfl rfl ?_
                refine wr_iincL (i := 2) (n := 1) (v := 0) (1) ([(2, vi 1), (1, vi 0), (0, .ref 236)]) (nx := 76) (r1 := 0) (r2 := 0) (r3 := 0) rfl rfl (by decide) rfl ?_
                refine wi_goto (nx := 79) (r1 := 4) (r2 := 0) (r3 := 0) rfl ?_
                refine wp.lo (lo := [(0, .ref 236), (1, vi 0), (2, vi 1)]) ⟨rfl, rfl, rfl, trivial⟩ rfl ?_
                have cn30 : canL (h 238) 0 := ⟨(show (0 : Int) + 1 ≤ h 238 1 by omega), mlP.pos y8_0 (by omega)⟩
                exact I3 0 1 h ⟨rfl, (show (-1 ≤ 0 ∧ 0 ≤ 3) ∧ (0 ≤ 1 ∧ 1 ≤ 4) by omega), (laX.yes 0 (by decide) (by omega) cn30)⟩ (show ((4 : Int) + 1 - 1).toNat < ((4 : Int) + 1 - x2).toNat by omega)
            ·
              rw [q27]
              refine wr_V (k0 := 236) (rest := [vi (h 238 74)]) (as := [.ref 236, vi 2, vi 0]) (nx := 68) (r1 := 258) (r2 := 2) (r3 := 11) rfl rfl rfl (of_decide_eq_true rfl) rfl rfl (by decide) rfl rfl (of_decide_eq_true rfl) (of_decide_eq_true rfl) ?_
              refine wi_aload_n (i := 0) (x := 236) (nx := 1) (r1 := 0) (r2 := 0) (r3 := 0) rfl rfl ?_
              refine wr_gr (k0 := 236) (x := 238) (nx := 4) (r1 := 11) (r2 := 13) (r3 := 0) rfl rfl (by decide) rfl ⟨rfl, rfl⟩ rfl ?_
              refine wi_bipush (n := 74) (nx := 6) (r1 := 0) (r2 := 0) (r3 := 0) rfl (by decide) ?_
              refine wi_bipush (n := 6) (nx := 8) (r1 := 0) (r2 := 0) (r3 := 0) rfl (by decide) ?_
              refine wi_iload_n (i := 1) (e := 2) (nx := 9) (r1 := 0) (r2 := 0) (r3 := 0) rfl rfl ?_
              refine wr_mulL (12) (nx := 10) (r1 := 0) (r2 := 0) (r3 := 0) rfl (by decide) ?_
              refine wr_addL (86) (nx := 11) (r1 := 0) (r2 := 0) (r3 := 0) rfl (by decide) ?_
              refine wi_iload_n (i := 2) (e := 0) (nx := 12) (r1 := 0) (r2 := 0) (r3 := 0) rfl rfl ?_
              refine wr_addL (86) (nx := 13) (r1 := 0) (r2 := 0) (r3 := 0) rfl (by decide) ?_
              have b28 := gi_b (lo := 0) (hi := 11) g 238 86 rfl
              refine wr_ia (k0 := 238) (a := 86) (f := 86) (x := h 238 86) (nx := 14) (r1 := 0) (r2 := 0) (r3 := 0) rfl (by decide) rfl (by omega) (by omega) (by decide) rfl ?_
              refine wi_ireturn (nx := 15) (r1 := 0) (r2 := 0) (r3 := 0) rfl rfl ?_
              refine wk_i ?_
              refine wi_icmp (cd := .ge) (nx := 71) (r1 := 73) (r2 := 0) (r3 := 0) rfl (by omega) (by omega) (fun (q29 : (h 238 86) ≤ (h 238 74)) => ?_) (fun (q29 : ¬ ((h 238 86) ≤ (h 238 74))) => ?_)
              ·
                refine wr_iincL (i := 2) (n := 1) (v := 0) (1) ([(2, vi 1), (0, .ref 236), (1, vi 2)]) (nx := 76) (r1 := 0) (r2 := 0) (r3 := 0) rfl rfl (by decide) rfl ?_
                refine wi_goto (nx := 79) (r1 := 4) (r2 := 0) (r3 := 0) rfl ?_
                refine wp.lo (lo := [(0, .ref 236), (1, vi 2), (2, vi 1)]) ⟨rfl, rfl, rfl, trivial⟩ rfl ?_
                exact I3 2 1 h ⟨rfl, (show (-1 ≤ 2 ∧ 2 ≤ 3) ∧ (0 ≤ 1 ∧ 1 ≤ 4) by omega), (by have lx : laX (canL (h 238)) x1 1 := laX.keep X3_0 (by omega); rwa [show x1 = 2 by omega] at lx)⟩ (show ((4 : Int) + 1 - 1).toNat < ((4 : Int) + 1 - x2).toNat by omega)
              ·
                refine wi_iload_n (i := 2) (e := 0) (nx := 72) (r1 := 0) (r2 := 0) (r3 := 0) rfl rfl ?_
                refine wi_istore_n (i := 1) (e := 0) (lo2 := [(1, vi 0), (0, .ref 236), (2, vi 0)]) (nx := 73) (r1 := 0) (r2 := 0) (r3 := 0) rfl rfl ?_
                refine wr_iincL (i := 2) (n := 1) (v := 0) (1) ([(2, vi 1), (1, vi 0), (0, .ref 236)]) (nx := 76) (r1 := 0) (r2 := 0) (r3 := 0) rfl rfl (by decide) rfl ?_
                refine wi_goto (nx := 79) (r1 := 4) (r2 := 0) (r3 := 0) rfl ?_
                refine wp.lo (lo := [(0, .ref 236), (1, vi 0), (2, vi 1)]) ⟨rfl, rfl, rfl, trivial⟩ rfl ?_
                have cn30 : canL (h 238) 0 := ⟨(show (0 : Int) + 1 ≤ h 238 1 by omega), mlP.pos y8_0 (by omega)⟩
                exact I3 0 1 h ⟨rfl, (show (-1 ≤ 0 ∧ 0 ≤ 3) ∧ (0 ≤ 1 ∧ 1 ≤ 4) by omega), (laX.yes 0 (by decide) (by omega) cn30)⟩ (show ((4 : Int) + 1 - 1).toNat < ((4 : Int) + 1 - x2).toNat by omega)
            ·
              rw [q27]
              refine wr_V (k0 := 236) (rest := [vi (h 238 74)]) (as := [.ref 236, vi 3, vi 0]) (nx := 68) (r1 := 258) (r2 := 2) (r3 := 11) rfl rfl rfl (of_decide_eq_true rfl) rfl rfl (by decide) rfl rfl (of_decide_eq_true rfl) (of_decide_eq_true rfl) ?_
              refine wi_aload_n (i := 0) (x := 236) (nx := 1) (r1 := 0) (r2 := 0) (r3 := 0) rfl rfl ?_
              refine wr_gr (k0 := 236) (x := 238) (nx := 4) (r1 := 11) (r2 := 13) (r3 := 0) rfl rfl (by decide) rfl ⟨rfl, rfl⟩ rfl ?_
              refine wi_bipush (n := 74) (nx := 6) (r1 := 0) (r2 := 0) (r3 := 0) rfl (by decide) ?_
              refine wi_bipush (n := 6) (nx := 8) (r1 := 0) (r2 := 0) (r3 := 0) rfl (by decide) ?_
              refine wi_iload_n (i := 1) (e := 3) (nx := 9) (r1 := 0) (r2 := 0) (r3 := 0) rfl rfl ?_
              refine wr_mulL (18) (nx := 10) (r1 := 0) (r2 := 0) (r3 := 0) rfl (by decide) ?_
              refine wr_addL (92) (nx := 11) (r1 := 0) (r2 := 0) (r3 := 0) rfl (by decide) ?_
              refine wi_iload_n (i := 2) (e := 0) (nx := 12) (r1 := 0) (r2 := 0) (r3 := 0) rfl rfl ?_
              refine wr_addL (92) (nx := 13) (r1 := 0) (r2 := 0) (r3 := 0) rfl (by decide) ?_
              have b28 := gi_b (lo := 0) (hi := 11) g 238 92 rfl
              refine wr_ia (k0 := 238) (a := 92) (f := 92) (x := h 238 92) (nx := 14) (r1 := 0) (r2 := 0) (r3 := 0) rfl (by decide) rfl (by omega) (by omega) (by decide) rfl ?_
              refine wi_ireturn (nx := 15) (r1 := 0) (r2 := 0) (r3 := 0) rfl rfl ?_
              refine wk_i ?_
              refine wi_icmp (cd := .ge) (nx := 71) (r1 := 73) (r2 := 0) (r3 := 0) rfl (by omega) (by omega) (fun (q29 : (h 238 92) ≤ (h 238 74)) => ?_) (fun (q29 : ¬ ((h 238 92) ≤ (h 238 74))) => ?_)
              ·
                refine wr_iincL (i := 2) (n := 1) (v := 0) (1) ([(2, vi 1), (0, .ref 236), (1, vi 3)]) (nx := 76) (r1 := 0) (r2 := 0) (r3 := 0) rfl rfl (by decide) rfl ?_
                refine wi_goto (nx := 79) (r1 := 4) (r2 := 0) (r3 := 0) rfl ?_
                refine wp.lo (lo := [(0, .ref 236), (1, vi 3), (2, vi 1)]) ⟨rfl, rfl, rfl, trivial⟩ rfl ?_
                exact I3 3 1 h ⟨rfl, (show (-1 ≤ 3 ∧ 3 ≤ 3) ∧ (0 ≤ 1 ∧ 1 ≤ 4) by omega), (by have lx : laX (canL (h 238)) x1 1 := laX.keep X3_0 (by omega); rwa [show x1 = 3 by omega] at lx)⟩ (show ((4 : Int) + 1 - 1).toNat < ((4 : Int) + 1 - x2).toNat by omega)
              ·
                refine wi_iload_n (i := 2) (e := 0) (nx := 72) (r1 := 0) (r2 := 0) (r3 := 0) rfl rfl ?_
                refine wi_istore_n (i := 1) (e := 0) (lo2 := [(1, vi 0), (0, .ref 236), (2, vi 0)]) (nx := 73) (r1 := 0) (r2 := 0) (r3 := 0) rfl rfl ?_
                refine wr_iincL (i := 2) (n := 1) (v := 0) (1) ([(2, vi 1), (1, vi 0), (0, .ref 236)]) (nx := 76) (r1 := 0) (r2 := 0) (r3 := 0) rfl rfl (by decide) rfl ?_
                refine wi_goto (nx := 79) (r1 := 4) (r2 := 0) (r3 := 0) rfl ?_
                refine wp.lo (lo := [(0, .ref 236), (1, vi 0), (2, vi 1)]) ⟨rfl, rfl, rfl, trivial⟩ rfl ?_
                have cn30 : canL (h 238) 0 := ⟨(show (0 : Int) + 1 ≤ h 238 1 by omega), mlP.pos y8_0 (by omega)⟩
                exact I3 0 1 h ⟨rfl, (show (-1 ≤ 0 ∧ 0 ≤ 3) ∧ (0 ≤ 1 ∧ 1 ≤ 4) by omega), (laX.yes 0 (by decide) (by omega) cn30)⟩ (show ((4 : Int) + 1 - 1).toNat < ((4 : Int) + 1 - x2).toNat by omega)
        ·
          refine wi_iload_n (i := 2) (e := 0) (nx := 50) (r1 := 0) (r2 := 0) (r3 := 0) rfl rfl ?_
          refine wi_ireturn (nx := 51) (r1 := 0) (r2 := 0) (r3 := 0) rfl rfl ?_
          have cn26 : canL (h 238) 0 := ⟨(show (0 : Int) + 1 ≤ h 238 1 by omega), mlP.pos y8_0 (by omega)⟩
          exact k 0 (by omega) (laX.yes 0 (by decide) (by omega) cn26)
      ·
        refine wi_goto (nx := 25) (r1 := 73) (r2 := 0) (r3 := 0) rfl ?_
        refine wr_iincL (i := 2) (n := 1) (v := 0) (1) ([(2, vi 1), (0, .ref 236), (1, vi x1)]) (nx := 76) (r1 := 0) (r2 := 0) (r3 := 0) rfl rfl (by decide) rfl ?_
        refine wi_goto (nx := 79) (r1 := 4) (r2 := 0) (r3 := 0) rfl ?_
        refine wp.lo (lo := [(0, .ref 236), (1, vi x1), (2, vi 1)]) ⟨rfl, rfl, rfl, trivial⟩ rfl ?_
        have cn21 : ¬ canL (h 238) 0 := fun c => mlP.neg y8_0 (by omega) c.2
        exact I3 x1 1 h ⟨rfl, (show (-1 ≤ x1 ∧ x1 ≤ 3) ∧ (0 ≤ 1 ∧ 1 ≤ 4) by omega), (laX.no X3_0 (by omega) 0 (by omega) cn21)⟩ (show ((4 : Int) + 1 - 1).toNat < ((4 : Int) + 1 - x2).toNat by omega)
    ·
      rw [q7]
      refine wr_V (k0 := 236) (rest := []) (as := [.ref 236, vi 1]) (nx := 19) (r1 := 267) (r2 := 1) (r3 := 11) rfl rfl rfl (of_decide_eq_true rfl) rfl rfl (by decide) rfl rfl (of_decide_eq_true rfl) (of_decide_eq_true rfl) ?_
      refine ct_267_236_L1 hcr  g    (fun z9  (fz9 : 0 ≤ z9 ∧ z9 ≤ 1) (p8_0 : z9 = 0 ∨ 1 ≤ (h 238 99)) (p8_1 : z9 = 0 ∨ (h 238 67) ≤ 9998) (p8_2 : z9 = 0 ∨ (1 ≤ (h 238 (43 + (h 238 80).toNat)) ∧ (h 238 102) < (h 238 7)) ∨ ((h 238 (43 + (h 238 80).toNat)) ≤ 0 ∧ (h 238 80) - (h 238 106) ≤ (h 238 3))) y8_0 => ?_)
      have b10 := gi_b (lo := 0) (hi := 6) g 238 99 rfl
      have b11 := gi_b (lo := 0) (hi := 9999) g 238 67 rfl
      have b12 := gi_b (lo := 0) (hi := 11) g 238 80 rfl
      obtain ⟨i13, ei13⟩ : ∃ q : Nat, (43 + h 238 80) = (q : Int) := ⟨(43 + h 238 80).toNat, by omega⟩
      have b14 := gi_b (lo := 0) (hi := 999) g 238 i13 (gi_rg 43 12 (fun _ => rfl) (by decide +kernel) (by omega))
      have e15 : h 238 (43 + (h 238 80).toNat) = h 238 i13 := by rw [show 43 + (h 238 80).toNat = i13 by omega]
      have b16 := gi_b (lo := 0) (hi := 3) g 238 102 rfl
      have b17 := gi_b (lo := 0) (hi := 3) g 238 7 rfl
      have b18 := gi_b (lo := 0) (hi := 12) g 238 106 rfl
      have b19 := gi_b (lo := 0) (hi := 999) g 238 3 rfl
      refine wk_i ?_
      refine wi_if (cd := .ne) (nx := 22) (r1 := 25) (r2 := 0) (r3 := 0) rfl (by omega) (fun (q20 : z9 ≠ 0) => ?_) (fun (q20 : ¬ (z9 ≠ 0)) => ?_)
      ·
        refine wi_aload_n (i := 0) (x := 236) (nx := 26) (r1 := 0) (r2 := 0) (r3 := 0) rfl rfl ?_
        refine wr_gr (k0 := 236) (x := 238) (nx := 29) (r1 := 11) (r2 := 13) (r3 := 0) rfl rfl (by decide) rfl ⟨rfl, rfl⟩ rfl ?_
        refine wi_bipush (n := 31) (nx := 31) (r1 := 0) (r2 := 0) (r3 := 0) rfl (by decide) ?_
        refine wi_aload_n (i := 0) (x := 236) (nx := 32) (r1 := 0) (r2 := 0) (r3 := 0) rfl rfl ?_
        refine wi_iload_n (i := 2) (e := 1) (nx := 33) (r1 := 0) (r2 := 0) (r3 := 0) rfl rfl ?_
        refine wi_iconst (n := 0) (nx := 34) (r1 := 0) (r2 := 0) (r3 := 0) rfl ?_
        refine wr_V (k0 := 236) (rest := [vi 31, .ref 238]) (as := [.ref 236, vi 1, vi 0]) (nx := 37) (r1 := 258) (r2 := 2) (r3 := 11) rfl rfl rfl (of_decide_eq_true rfl) rfl rfl (by decide) rfl rfl (of_decide_eq_true rfl) (of_decide_eq_true rfl) ?_
        refine wi_aload_n (i := 0) (x := 236) (nx := 1) (r1 := 0) (r2 := 0) (r3 := 0) rfl rfl ?_
        refine wr_gr (k0 := 236) (x := 238) (nx := 4) (r1 := 11) (r2 := 13) (r3 := 0) rfl rfl (by decide) rfl ⟨rfl, rfl⟩ rfl ?_
        refine wi_bipush (n := 74) (nx := 6) (r1 := 0) (r2 := 0) (r3 := 0) rfl (by decide) ?_
        refine wi_bipush (n := 6) (nx := 8) (r1 := 0) (r2 := 0) (r3 := 0) rfl (by decide) ?_
        refine wi_iload_n (i := 1) (e := 1) (nx := 9) (r1 := 0) (r2 := 0) (r3 := 0) rfl rfl ?_
        refine wr_mulL (6) (nx := 10) (r1 := 0) (r2 := 0) (r3 := 0) rfl (by decide) ?_
        refine wr_addL (80) (nx := 11) (r1 := 0) (r2 := 0) (r3 := 0) rfl (by decide) ?_
        refine wi_iload_n (i := 2) (e := 0) (nx := 12) (r1 := 0) (r2 := 0) (r3 := 0) rfl rfl ?_
        refine wr_addL (80) (nx := 13) (r1 := 0) (r2 := 0) (r3 := 0) rfl (by decide) ?_
        refine wr_ia (k0 := 238) (a := 80) (f := 80) (x := h 238 80) (nx := 14) (r1 := 0) (r2 := 0) (r3 := 0) rfl (by decide) rfl (by omega) (by omega) (by decide) rfl ?_
        refine wi_ireturn (nx := 15) (r1 := 0) (r2 := 0) (r3 := 0) rfl rfl ?_
        refine wk_i ?_
        refine wr_add (nx := 38) (r1 := 0) (r2 := 0) (r3 := 0) rfl (fun e21 (fe21 : e21 = 31 + (h 238 80)) => ?_)
        obtain ⟨i22, ei22⟩ : ∃ q : Nat, e21 = (q : Int) := ⟨(e21).toNat, by omega⟩
        have b23 := gi_b (lo := 0) (hi := 4) g 238 i22 (gi_rg 31 12 (fun _ => rfl) (by decide +kernel) (by omega))
        refine wr_ia (k0 := 238) (a := e21) (f := i22) (x := h 238 i22) (nx := 39) (r1 := 0) (r2 := 0) (r3 := 0) rfl (by decide) rfl (by omega) (by omega) (by decide) rfl ?_
        refine wi_aload_n (i := 0) (x := 236) (nx := 40) (r1 := 0) (r2 := 0) (r3 := 0) rfl rfl ?_
        refine wr_gr (k0 := 236) (x := 238) (nx := 43) (r1 := 11) (r2 := 13) (r3 := 0) rfl rfl (by decide) rfl ⟨rfl, rfl⟩ rfl ?_
        refine wi_bipush (n := 68) (nx := 45) (r1 := 0) (r2 := 0) (r3 := 0) rfl (by decide) ?_
        have b24 := gi_b (lo := -1) (hi := 4) g 238 68 rfl
        refine wr_ia (k0 := 238) (a := 68) (f := 68) (x := h 238 68) (nx := 46) (r1 := 0) (r2 := 0) (r3 := 0) rfl (by decide) rfl (by omega) (by omega) (by decide) rfl ?_
        refine wi_icmp (cd := .ne) (nx := 49) (r1 := 51) (r2 := 0) (r3 := 0) rfl (by omega) (by omega) (fun (q25 : (h 238 i22) ≠ (h 238 68)) => ?_) (fun (q25 : ¬ ((h 238 i22) ≠ (h 238 68))) => ?_)
        ·
          refine wi_iload_n (i := 1) (e := x1) (nx := 52) (r1 := 0) (r2 := 0) (r3 := 0) rfl rfl ?_
          refine wi_iconst (n := (-1)) (nx := 53) (r1 := 0) (r2 := 0) (r3 := 0) rfl ?_
          refine wi_icmp (cd := .eq) (nx := 56) (r1 := 71) (r2 := 0) (r3 := 0) rfl (by omega) (by omega) (fun (q26 : x1 = (-1)) => ?_) (fun (q26 : ¬ (x1 = (-1))) => ?_)
          ·
            refine wi_iload_n (i := 2) (e := 1) (nx := 72) (r1 := 0) (r2 := 0) (r3 := 0) rfl rfl ?_
            refine wi_istore_n (i := 1) (e := 1) (lo2 := [(1, vi 1), (0, .ref 236), (2, vi 1)]) (nx := 73) (r1 := 0) (r2 := 0) (r3 := 0) rfl rfl ?_
            refine wr_iincL (i := 2) (n := 1) (v := 1) (2) ([(2, vi 2), (1, vi 1), (0, .ref 236)]) (nx := 76) (r1 := 0) (r2 := 0) (r3 := 0) rfl rfl (by decide) rfl ?_
            refine wi_goto (nx := 79) (r1 := 4) (r2 := 0) (r3 := 0) rfl ?_
            refine wp.lo (lo := [(0, .ref 236), (1, vi 1), (2, vi 2)]) ⟨rfl, rfl, rfl, trivial⟩ rfl ?_
            have cn27 : canL (h 238) 1 := ⟨(show (1 : Int) + 1 ≤ h 238 1 by omega), mlP.pos y8_0 (by omega)⟩
            exact I3 1 2 h ⟨rfl, (show (-1 ≤ 1 ∧ 1 ≤ 3) ∧ (0 ≤ 2 ∧ 2 ≤ 4) by omega), (laX.yes 1 (by decide) (by omega) cn27)⟩ (show ((4 : Int) + 1 - 2).toNat < ((4 : Int) + 1 - x2).toNat by omega)
          ·
            refine wi_aload_n (i := 0) (x := 236) (nx := 57) (r1 := 0) (r2 := 0) (r3 := 0) rfl rfl ?_
            refine wi_iload_n (i := 2) (e := 1) (nx := 58) (r1 := 0) (r2 := 0) (r3 := 0) rfl rfl ?_
            refine wi_iconst (n := 0) (nx := 59) (r1 := 0) (r2 := 0) (r3 := 0) rfl ?_
            refine wr_V (k0 := 236) (rest := []) (as := [.ref 236, vi 1, vi 0]) (nx := 62) (r1 := 258) (r2 := 2) (r3 := 11) rfl rfl rfl (of_decide_eq_true rfl) rfl rfl (by decide) rfl rfl (of_decide_eq_true rfl) (of_decide_eq_true rfl) ?_
            refine wi_aload_n (i := 0) (x := 236) (nx := 1) (r1 := 0) (r2 := 0) (r3 := 0) rfl rfl ?_
            refine wr_gr (k0 := 236) (x := 238) (nx := 4) (r1 := 11) (r2 := 13) (r3 := 0) rfl rfl (by decide) rfl ⟨rfl, rfl⟩ rfl ?_
            refine wi_bipush (n := 74) (nx := 6) (r1 := 0) (r2 := 0) (r3 := 0) rfl (by decide) ?_
            refine wi_bipush (n := 6) (nx := 8) (r1 := 0) (r2 := 0) (r3 := 0) rfl (by decide) ?_
            refine wi_iload_n (i := 1) (e := 1) (nx := 9) (r1 := 0) (r2 := 0) (r3 := 0) rfl rfl ?_
            refine wr_mulL (6) (nx := 10) (r1 := 0) (r2 := 0) (r3 := 0) rfl (by decide) ?_
            refine wr_addL (80) (nx := 11) (r1 := 0) (r2 := 0) (r3 := 0) rfl (by decide) ?_
            refine wi_iload_n (i := 2) (e := 0) (nx := 12) (r1 := 0) (r2 := 0) (r3 := 0) rfl rfl ?_
            refine wr_addL (80) (nx := 13) (r1 := 0) (r2 := 0) (r3 := 0) rfl (by decide) ?_
            refine wr_ia (k0 := 238) (a := 80) (f := 80) (x := h 238 80) (nx := 14) (r1 := 0) (r2 := 0) (r3 := 0) rfl (by decide) rfl (by omega) (by omega) (by decide) rfl ?_
            refine wi_ireturn (nx := 15) (r1 := 0) (r2 := 0) (r3 := 0) rfl rfl ?_
            refine wk_i ?_
            refine wi_aload_n (i := 0) (x := 236) (nx := 63) (r1 := 0) (r2 := 0) (r3 := 0) rfl rfl ?_
            refine wi_iload_n (i := 1) (e := x1) (nx := 64) (r1 := 0) (r2 := 0) (r3 := 0) rfl rfl ?_
            refine wi_iconst (n := 0) (nx := 65) (r1 := 0) (r2 := 0) (r3 := 0) rfl ?_
            rcases (show x1 = 0 ∨ x1 = 1 ∨ x1 = 2 ∨ x1 = 3 by omega) with q27 | q27 | q27 | q27
            ·
              rw [q27]
              refine wr_V (k0 := 236) (rest := [vi (h 238 80)]) (as := [.ref 236, vi 0, vi 0]) (nx := 68) (r1 := 258) (r2 := 2) (r3 := 11) rfl rfl rfl (of_decide_eq_true rfl) rfl rfl (by decide) rfl rfl (of_decide_eq_true rfl) (of_decide_eq_true rfl) ?_
              refine wi_aload_n (i := 0) (x := 236) (nx := 1) (r1 := 0) (r2 := 0) (r3 := 0) rfl rfl ?_
              refine wr_gr (k0 := 236) (x := 238) (nx := 4) (r1 := 11) (r2 := 13) (r3 := 0) rfl rfl (by decide) rfl ⟨rfl, rfl⟩ rfl ?_
              refine wi_bipush (n := 74) (nx := 6) (r1 := 0) (r2 := 0) (r3 := 0) rfl (by decide) ?_
              refine wi_bipush (n := 6) (nx := 8) (r1 := 0) (r2 := 0) (r3 := 0) rfl (by decide) ?_
              refine wi_iload_n (i := 1) (e := 0) (nx := 9) (r1 := 0) (r2 := 0) (r3 := 0) rfl rfl ?_
              refine wr_mulL (0) (nx := 10) (r1 := 0) (r2 := 0) (r3 := 0) rfl (by decide) ?_
              refine wr_addL (74) (nx := 11) (r1 := 0) (r2 := 0) (r3 := 0) rfl (by decide) ?_
              refine wi_iload_n (i := 2) (e := 0) (nx := 12) (r1 := 0) (r2 := 0) (r3 := 0) rfl rfl ?_
              refine wr_addL (74) (nx := 13) (r1 := 0) (r2 := 0) (r3 := 0) rfl (by decide) ?_
              have b28 := gi_b (lo := 0) (hi := 11) g 238 74 rfl
              refine wr_ia (k0 := 238) (a := 74) (f := 74) (x := h 238 74) (nx := 14) (r1 := 0) (r2 := 0) (r3 := 0) rfl (by decide) rfl (by omega) (by omega) (by decide) rfl ?_
              refine wi_ireturn (nx := 15) (r1 := 0) (r2 := 0) (r3 := 0) rfl rfl ?_
              refine wk_i ?_
              refine wi_icmp (cd := .ge) (nx := 71) (r1 := 73) (r2 := 0) (r3 := 0) rfl (by omega) (by omega) (fun (q29 : (h 238 74) ≤ (h 238 80)) => ?_) (fun (q29 : ¬ ((h 238 74) ≤ (h 238 80))) => ?_)
              ·
                refine wr_iincL (i := 2) (n := 1) (v := 1) (2) ([(2, vi 2), (0, .ref 236), (1, vi 0)]) (nx := 76) (r1 := 0) (r2 := 0) (r3 := 0) rfl rfl (by decide) rfl ?_
                refine wi_goto (nx := 79) (r1 := 4) (r2 := 0) (r3 := 0) rfl ?_
                refine wp.lo (lo := [(0, .ref 236), (1, vi 0), (2, vi 2)]) ⟨rfl, rfl, rfl, trivial⟩ rfl ?_
                exact I3 0 2 h ⟨rfl, (show (-1 ≤ 0 ∧ 0 ≤ 3) ∧ (0 ≤ 2 ∧ 2 ≤ 4) by omega), (by have lx : laX (canL (h 238)) x1 2 := laX.keep X3_0 (by omega); rwa [show x1 = 0 by omega] at lx)⟩ (show ((4 : Int) + 1 - 2).toNat < ((4 : Int) + 1 - x2).toNat by omega)
              ·
                refine wi_iload_n (i := 2) (e := 1) (nx := 72) (r1 := 0) (r2 := 0) (r3 := 0) rfl rfl ?_
                refine wi_istore_n (i := 1) (e := 1) (lo2 := [(1, vi 1), (0, .ref 236), (2, vi 1)]) (nx := 73) (r1 := 0) (r2 := 0) (r3 := 0) rfl rfl ?_
                refine wr_iincL (i := 2) (n := 1) (v := 1) (2) ([(2, vi 2), (1, vi 1), (0, .ref 236)]) (nx := 76) (r1 := 0) (r2 := 0) (r3 := 0) rfl rfl (by decide) rfl ?_
                refine wi_goto (nx := 79) (r1 := 4) (r2 := 0) (r3 := 0) rfl ?_
                refine wp.lo (lo := [(0, .ref 236), (1, vi 1), (2, vi 2)]) ⟨rfl, rfl, rfl, trivial⟩ rfl ?_
                have cn30 : canL (h 238) 1 := ⟨(show (1 : Int) + 1 ≤ h 238 1 by omega), mlP.pos y8_0 (by omega)⟩
                exact I3 1 2 h ⟨rfl, (show (-1 ≤ 1 ∧ 1 ≤ 3) ∧ (0 ≤ 2 ∧ 2 ≤ 4) by omega), (laX.yes 1 (by decide) (by omega) cn30)⟩ (show ((4 : Int) + 1 - 2).toNat < ((4 : Int) + 1 - x2).toNat by omega)
            ·
              rw [q27]
              refine wr_V (k0 := 236) (rest := [vi (h 238 80)]) (as := [.ref 236, vi 1, vi 0]) (nx := 68) (r1 := 258) (r2 := 2) (r3 := 11) rfl rfl rfl (of_decide_eq_true rfl) rfl rfl (by decide) rfl rfl (of_decide_eq_true rfl) (of_decide_eq_true rfl) ?_
              refine wi_aload_n (i := 0) (x := 236) (nx := 1) (r1 := 0) (r2 := 0) (r3 := 0) rfl rfl ?_
              refine wr_gr (k0 := 236) (x := 238) (nx := 4) (r1 := 11) (r2 := 13) (r3 := 0) rfl rfl (by decide) rfl ⟨rfl, rfl⟩ rfl ?_
              refine wi_bipush (n := 74) (nx := 6) (r1 := 0) (r2 := 0) (r3 := 0) rfl (by decide) ?_
              refine wi_bipush (n := 6) (nx := 8) (r1 := 0) (r2 := 0) (r3 := 0) rfl (by decide) ?_
              refine wi_iload_n (i := 1) (e := 1) (nx := 9) (r1 := 0) (r2 := 0) (r3 := 0) rfl rfl ?_
              refine wr_mulL (6) (nx := 10) (r1 := 0) (r2 := 0) (r3 := 0) rfl (by decide) ?_
              refine wr_addL (80) (nx := 11) (r1 := 0) (r2 := 0) (r3 := 0) rfl (by decide) ?_
              refine wi_iload_n (i := 2) (e := 0) (nx := 12) (r1 := 0) (r2 := 0) (r3 := 0) rfl rfl ?_
              refine wr_addL (80) (nx := 13) (r1 := 0) (r2 := 0) (r3 := 0) rfl (by decide) ?_
              refine wr_ia (k0 := 238) (a := 80) (f := 80) (x := h 238 80) (nx := 14) (r1 := 0) (r2 := 0) (r3 := 0) rfl (by decide) rfl (by omega) (by omega) (by decide) rfl ?_
              refine wi_ireturn (nx := 15) (r1 := 0) (r2 := 0) (r3 := 0) rfl rfl ?_
              refine wk_i ?_
              refine wi_icmp (cd := .ge) (nx := 71) (r1 := 73) (r2 := 0) (r3 := 0) rfl (by omega) (by omega) (fun (q28 : (h 238 80) ≤ (h 238 80)) => ?_) (fun (q28 : ¬ ((h 238 80) ≤ (h 238 80))) => by exfalso; omega)
              refine wr_iincL (i := 2) (n := 1) (v := 1) (2) ([(2, vi 2), (0, .ref 236), (1, vi 1)]) (nx := 76) (r1 := 0) (r2 := 0) (r3 := 0) rfl rfl (by decide) rfl ?_
              refine wi_goto (nx := 79) (r1 := 4) (r2 := 0) (r3 := 0) rfl ?_
              refine wp.lo (lo := [(0, .ref 236), (1, vi 1), (2, vi 2)]) ⟨rfl, rfl, rfl, trivial⟩ rfl ?_
              have cn29 : canL (h 238) 1 := ⟨(show (1 : Int) + 1 ≤ h 238 1 by omega), mlP.pos y8_0 (by omega)⟩
              exact I3 1 2 h ⟨rfl, (show (-1 ≤ 1 ∧ 1 ≤ 3) ∧ (0 ≤ 2 ∧ 2 ≤ 4) by omega), (laX.yes 1 (by decide) (by omega) cn29)⟩ (show ((4 : Int) + 1 - 2).toNat < ((4 : Int) + 1 - x2).toNat by omega)
            ·
              rw [q27]
              refine wr_V (k0 := 236) (rest := [vi (h 238 80)]) (as := [.ref 236, vi 2, vi 0]) (nx := 68) (r1 := 258) (r2 := 2) (r3 := 11) rfl rfl rfl (of_decide_eq_true rfl) rfl rfl (by decide) rfl rfl (of_decide_eq_true rfl) (of_decide_eq_true rfl) ?_
              refine wi_aload_n (i := 0) (x := 236) (nx := 1) (r1 := 0) (r2 := 0) (r3 := 0) rfl rfl ?_
              refine wr_gr (k0 := 236) (x := 238) (nx := 4) (r1 := 11) (r2 := 13) (r3 := 0) rfl rfl (by decide) rfl ⟨rfl, rfl⟩ rfl ?_
              refine wi_bipush (n := 74) (nx := 6) (r1 := 0) (r2 := 0) (r3 := 0) rfl (by decide) ?_
              refine wi_bipush (n := 6) (nx := 8) (r1 := 0) (r2 := 0) (r3 := 0) rfl (by decide) ?_
              refine wi_iload_n (i := 1) (e := 2) (nx := 9) (r1 := 0) (r2 := 0) (r3 := 0) rfl rfl ?_
              refine wr_mulL (12) (nx := 10) (r1 := 0) (r2 := 0) (r3 := 0) rfl (by decide) ?_
              refine wr_addL (86) (nx := 11) (r1 := 0) (r2 := 0) (r3 := 0) rfl (by decide) ?_
              refine wi_iload_n (i := 2) (e := 0) (nx := 12) (r1 := 0) (r2 := 0) (r3 := 0) rfl rfl ?_
              refine wr_addL (86) (nx := 13) (r1 := 0) (r2 := 0) (r3 := 0) rfl (by decide) ?_
              have b28 := gi_b (lo := 0) (hi := 11) g 238 86 rfl
              refine wr_ia (k0 := 238) (a := 86) (f := 86) (x := h 238 86) (nx := 14) (r1 := 0) (r2 := 0) (r3 := 0) rfl (by decide) rfl (by omega) (by omega) (by decide) rfl ?_
              refine wi_ireturn (nx := 15) (r1 := 0) (r2 := 0) (r3 := 0) rfl rfl ?_
              refine wk_i ?_
              refine wi_icmp (cd := .ge) (nx := 71) (r1 := 73) (r2 := 0) (r3 := 0) rfl (by omega) (by omega) (fun (q29 : (h 238 86) ≤ (h 238 80)) => ?_) (fun (q29 : ¬ ((h 238 86) ≤ (h 238 80))) => ?_)
              ·
                refine wr_iincL (i := 2) (n := 1) (v := 1) (2) ([(2, vi 2), (0, .ref 236), (1, vi 2)]) (nx := 76) (r1 := 0) (r2 := 0) (r3 := 0) rfl rfl (by decide) rfl ?_
                refine wi_goto (nx := 79) (r1 := 4) (r2 := 0) (r3 := 0) rfl ?_
                refine wp.lo (lo := [(0, .ref 236), (1, vi 2), (2, vi 2)]) ⟨rfl, rfl, rfl, trivial⟩ rfl ?_
                exact I3 2 2 h ⟨rfl, (show (-1 ≤ 2 ∧ 2 ≤ 3) ∧ (0 ≤ 2 ∧ 2 ≤ 4) by omega), (by have lx : laX (canL (h 238)) x1 2 := laX.keep X3_0 (by omega); rwa [show x1 = 2 by omega] at lx)⟩ (show ((4 : Int) + 1 - 2).toNat < ((4 : Int) + 1 - x2).toNat by omega)
              ·
                refine wi_iload_n (i := 2) (e := 1) (nx := 72) (r1 := 0) (r2 := 0) (r3 := 0) rfl rfl ?_
                refine wi_istore_n (i := 1) (e := 1) (lo2 := [(1, vi 1), (0, .ref 236), (2, vi 1)]) (nx := 73) (r1 := 0) (r2 := 0) (r3 := 0) rfl rfl ?_
                refine wr_iincL (i := 2) (n := 1) (v := 1) (2) ([(2, vi 2), (1, vi 1), (0, .ref 236)]) (nx := 76) (r1 := 0) (r2 := 0) (r3 := 0) rfl rfl (by decide) rfl ?_
                refine wi_goto (nx := 79) (r1 := 4) (r2 := 0) (r3 := 0) rfl ?_
                refine wp.lo (lo := [(0, .ref 236), (1, vi 1), (2, vi 2)]) ⟨rfl, rfl, rfl, trivial⟩ rfl ?_
                have cn30 : canL (h 238) 1 := ⟨(show (1 : Int) + 1 ≤ h 238 1 by omega), mlP.pos y8_0 (by omega)⟩
                exact I3 1 2 h ⟨rfl, (show (-1 ≤ 1 ∧ 1 ≤ 3) ∧ (0 ≤ 2 ∧ 2 ≤ 4) by omega), (laX.yes 1 (by decide) (by omega) cn30)⟩ (show ((4 : Int) + 1 - 2).toNat < ((4 : Int) + 1 - x2).toNat by omega)
            ·
              rw [q27]
              refine wr_V (k0 := 236) (rest := [vi (h 238 80)]) (as := [.ref 236, vi 3, vi 0]) (nx := 68) (r1 := 258) (r2 := 2) (r3 := 11) rfl rfl rfl (of_decide_eq_true rfl) rfl rfl (by decide) rfl rfl (of_decide_eq_true rfl) (of_decide_eq_true rfl) ?_
              refine wi_aload_n (i := 0) (x := 236) (nx := 1) (r1 := 0) (r2 := 0) (r3 := 0) rfl rfl ?_
              refine wr_gr (k0 := 236) (x := 238) (nx := 4) (r1 := 11) (r2 := 13) (r3 := 0) rfl rfl (by decide) rfl ⟨rfl, rfl⟩ rfl ?_
              refine wi_bipush (n := 74) (nx := 6) (r1 := 0) (r2 := 0) (r3 := 0) rfl (by decide) ?_
              refine wi_bipush (n := 6) (nx := 8) (r1 := 0) (r2 := 0) (r3 := 0) rfl (by decide) ?_
              refine wi_iload_n (i := 1) (e := 3) (nx := 9) (r1 := 0) (r2 := 0) (r3 := 0) rfl rfl ?_
              refine wr_mulL (18) (nx := 10) (r1 := 0) (r2 := 0) (r3 := 0) rfl (by decide) ?_
              refine wr_addL (92) (nx := 11) (r1 := 0) (r2 := 0) (r3 := 0) rfl (by decide) ?_
              refine wi_iload_n (i := 2) (e := 0) (nx := 12) (r1 := 0) (r2 := 0) (r3 := 0) rfl rfl ?_
              refine wr_addL (92) (nx := 13) (r1 := 0) (r2 := 0) (r3 := 0) rfl (by decide) ?_
              have b28 := gi_b (lo := 0) (hi := 11) g 238 92 rfl
              refine wr_ia (k0 := 238) (a := 92) (f := 92) (x := h 238 92) (nx := 14) (r1 := 0) (r2 := 0) (r3 := 0) rfl (by decide) rfl (by omega) (by omega) (by decide) rfl ?_
              refine wi_ireturn (nx := 15) (r1 := 0) (r2 := 0) (r3 := 0) rfl rfl ?_
              refine wk_i ?_
              refine wi_icmp (cd := .ge) (nx := 71) (r1 := 73) (r2 := 0) (r3 := 0) rfl (by omega) (by omega) (fun (q29 : (h 238 92) ≤ (h 238 80)) => ?_) (fun (q29 : ¬ ((h 238 92) ≤ (h 238 80))) => ?_)
              ·
                refine wr_iincL (i := 2) (n := 1) (v := 1) (2) ([(2, vi 2), (0, .ref 236), (1, vi 3)]) (nx := 76) (r1 := 0) (r2 := 0) (r3 := 0) rfl rfl (by decide) rfl ?_
                refine wi_goto (nx := 79) (r1 := 4) (r2 := 0) (r3 := 0) rfl ?_
                refine wp.lo (lo := [(0, .ref 236), (1, vi 3), (2, vi 2)]) ⟨rfl, rfl, rfl, trivial⟩ rfl ?_
                exact I3 3 2 h ⟨rfl, (show (-1 ≤ 3 ∧ 3 ≤ 3) ∧ (0 ≤ 2 ∧ 2 ≤ 4) by omega), (by have lx : laX (canL (h 238)) x1 2 := laX.keep X3_0 (by omega); rwa [show x1 = 3 by omega] at lx)⟩ (show ((4 : Int) + 1 - 2).toNat < ((4 : Int) + 1 - x2).toNat by omega)
              ·
                refine wi_iload_n (i := 2) (e := 1) (nx := 72) (r1 := 0) (r2 := 0) (r3 := 0) rfl rfl ?_
                refine wi_istore_n (i := 1) (e := 1) (lo2 := [(1, vi 1), (0, .ref 236), (2, vi 1)]) (nx := 73) (r1 := 0) (r2 := 0) (r3 := 0) rfl rfl ?_
                refine wr_iincL (i := 2) (n := 1) (v := 1) (2) ([(2, vi 2), (1, vi 1), (0, .ref 236)]) (nx := 76) (r1 := 0) (r2 := 0) (r3 := 0) rfl rfl (by decide) rfl ?_
                refine wi_goto (nx := 79) (r1 := 4) (r2 := 0) (r3 := 0) rfl ?_
                refine wp.lo (lo := [(0, .ref 236), (1, vi 1), (2, vi 2)]) ⟨rfl, rfl, rfl, trivial⟩ rfl ?_
                have cn30 : canL (h 238) 1 := ⟨(show (1 : Int) + 1 ≤ h 238 1 by omega), mlP.pos y8_0 (by omega)⟩
                exact I3 1 2 h ⟨rfl, (show (-1 ≤ 1 ∧ 1 ≤ 3) ∧ (0 ≤ 2 ∧ 2 ≤ 4) by omega), (laX.yes 1 (by decide) (by omega) cn30)⟩ (show ((4 : Int) + 1 - 2).toNat < ((4 : Int) + 1 - x2).toNat by omega)
        ·
          refine wi_iload_n (i := 2) (e := 1) (nx := 50) (r1 := 0) (r2 := 0) (r3 := 0) rfl rfl ?_
          refine wi_ireturn (nx := 51) (r1 := 0) (r2 := 0) (r3 := 0) rfl rfl ?_
          have cn26 : canL (h 238) 1 := ⟨(show (1 : Int) + 1 ≤ h 238 1 by omega), mlP.pos y8_0 (by omega)⟩
          exact k 1 (by omega) (laX.yes 1 (by decide) (by omega) cn26)
      ·
        refine wi_goto (nx := 25) (r1 := 73) (r2 := 0) (r3 := 0) rfl ?_
        refine wr_iincL (i := 2) (n := 1) (v := 1) (2) ([(2, vi 2), (0, .ref 236), (1, vi x1)]) (nx := 76) (r1 := 0) (r2 := 0) (r3 := 0) rfl rfl (by decide) rfl ?_
        refine wi_goto (nx := 79) (r1 := 4) (r2 := 0) (r3 := 0) rfl ?_
        refine wp.lo (lo := [(0, .ref 236), (1, vi x1), (2, vi 2)]) ⟨rfl, rfl, rfl, trivial⟩ rfl ?_
        have cn21 : ¬ canL (h 238) 1 := fun c => mlP.neg y8_0 (by omega) c.2
        exact I3 x1 2 h ⟨rfl, (show (-1 ≤ x1 ∧ x1 ≤ 3) ∧ (0 ≤ 2 ∧ 2 ≤ 4) by omega), (laX.no X3_0 (by omega) 1 (by omega) cn21)⟩ (show ((4 : Int) + 1 - 2).toNat < ((4 : Int) + 1 - x2).toNat by omega)
    ·
      rw [q7]
      refine wr_V (k0 := 236) (rest := []) (as := [.ref 236, vi 2]) (nx := 19) (r1 := 267) (r2 := 1) (r3 := 11) rfl rfl rfl (of_decide_eq_true rfl) rfl rfl (by decide) rfl rfl (of_decide_eq_true rfl) (of_decide_eq_true rfl) ?_
      refine ct_267_236_L2 hcr  g    (fun z9  (fz9 : 0 ≤ z9 ∧ z9 ≤ 1) (p8_0 : z9 = 0 ∨ 1 ≤ (h 238 100)) (p8_1 : z9 = 0 ∨ (h 238 67) ≤ 9998) (p8_2 : z9 = 0 ∨ (1 ≤ (h 238 (43 + (h 238 86).toNat)) ∧ (h 238 102) < (h 238 7)) ∨ ((h 238 (43 + (h 238 86).toNat)) ≤ 0 ∧ (h 238 86) - (h 238 106) ≤ (h 238 3))) y8_0 => ?_)
      have b10 := gi_b (lo := 0) (hi := 6) g 238 100 rfl
      have b11 := gi_b (lo := 0) (hi := 9999) g 238 67 rfl
      have b12 := gi_b (lo := 0) (hi := 11) g 238 86 rfl
      obtain ⟨i13, ei13⟩ : ∃ q : Nat, (43 + h 238 86) = (q : Int) := ⟨(43 + h 238 86).toNat, by omega⟩
      have b14 := gi_b (lo := 0) (hi := 999) g 238 i13 (gi_rg 43 12 (fun _ => rfl) (by decide +kernel) (by omega))
      have e15 : h 238 (43 + (h 238 86).toNat) = h 238 i13 := by rw [show 43 + (h 238 86).toNat = i13 by omega]
      have b16 := gi_b (lo := 0) (hi := 3) g 238 102 rfl
      have b17 := gi_b (lo := 0) (hi := 3) g 238 7 rfl
      have b18 := gi_b (lo := 0) (hi := 12) g 238 106 rfl
      have b19 := gi_b (lo := 0) (hi := 999) g 238 3 rfl
      refine wk_i ?_
      refine wi_if (cd := .ne) (nx := 22) (r1 := 25) (r2 := 0) (r3 := 0) rfl (by omega) (fun (q20 : z9 ≠ 0) => ?_) (fun (q20 : ¬ (z9 ≠ 0)) => ?_)
      ·
        refine wi_aload_n (i := 0) (x := 236) (nx := 26) (r1 := 0) (r2 := 0) (r3 := 0) rfl rfl ?_
        refine wr_gr (k0 := 236) (x := 238) (nx := 29) (r1 := 11) (r2 := 13) (r3 := 0) rfl rfl (by decide) rfl ⟨rfl, rfl⟩ rfl ?_
        refine wi_bipush (n := 31) (nx := 31) (r1 := 0) (r2 := 0) (r3 := 0) rfl (by decide) ?_
        refine wi_aload_n (i := 0) (x := 236) (nx := 32) (r1 := 0) (r2 := 0) (r3 := 0) rfl rfl ?_
        refine wi_iload_n (i := 2) (e := 2) (nx := 33) (r1 := 0) (r2 := 0) (r3 := 0) rfl rfl ?_
        refine wi_iconst (n := 0) (nx := 34) (r1 := 0) (r2 := 0) (r3 := 0) rfl ?_
        refine wr_V (k0 := 236) (rest := [vi 31, .ref 238]) (as := [.ref 236, vi 2, vi 0]) (nx := 37) (r1 := 258) (r2 := 2) (r3 := 11) rfl rfl rfl (of_decide_eq_true rfl) rfl rfl (by decide) rfl rfl (of_decide_eq_true rfl) (of_decide_eq_true rfl) ?_
        refine wi_aload_n (i := 0) (x := 236) (nx := 1) (r1 := 0) (r2 := 0) (r3 := 0) rfl rfl ?_
        refine wr_gr (k0 := 236) (x := 238) (nx := 4) (r1 := 11) (r2 := 13) (r3 := 0) rfl rfl (by decide) rfl ⟨rfl, rfl⟩ rfl ?_
        refine wi_bipush (n := 74) (nx := 6) (r1 := 0) (r2 := 0) (r3 := 0) rfl (by decide) ?_
        refine wi_bipush (n := 6) (nx := 8) (r1 := 0) (r2 := 0) (r3 := 0) rfl (by decide) ?_
        refine wi_iload_n (i := 1) (e := 2) (nx := 9) (r1 := 0) (r2 := 0) (r3 := 0) rfl rfl ?_
        refine wr_mulL (12) (nx := 10) (r1 := 0) (r2 := 0) (r3 := 0) rfl (by decide) ?_
        refine wr_addL (86) (nx := 11) (r1 := 0) (r2 := 0) (r3 := 0) rfl (by decide) ?_
        refine wi_iload_n (i := 2) (e := 0) (nx := 12) (r1 := 0) (r2 := 0) (r3 := 0) rfl rfl ?_
        refine wr_addL (86) (nx := 13) (r1 := 0) (r2 := 0) (r3 := 0) rfl (by decide) ?_
        refine wr_ia (k0 := 238) (a := 86) (f := 86) (x := h 238 86) (nx := 14) (r1 := 0) (r2 := 0) (r3 := 0) rfl (by decide) rfl (by omega) (by omega) (by decide) rfl ?_
        refine wi_ireturn (nx := 15) (r1 := 0) (r2 := 0) (r3 := 0) rfl rfl ?_
        refine wk_i ?_
        refine wr_add (nx := 38) (r1 := 0) (r2 := 0) (r3 := 0) rfl (fun e21 (fe21 : e21 = 31 + (h 238 86)) => ?_)
        obtain ⟨i22, ei22⟩ : ∃ q : Nat, e21 = (q : Int) := ⟨(e21).toNat, by omega⟩
        have b23 := gi_b (lo := 0) (hi := 4) g 238 i22 (gi_rg 31 12 (fun _ => rfl) (by decide +kernel) (by omega))
        refine wr_ia (k0 := 238) (a := e21) (f := i22) (x := h 238 i22) (nx := 39) (r1 := 0) (r2 := 0) (r3 := 0) rfl (by decide) rfl (by omega) (by omega) (by decide) rfl ?_
        refine wi_aload_n (i := 0) (x := 236) (nx := 40) (r1 := 0) (r2 := 0) (r3 := 0) rfl rfl ?_
        refine wr_gr (k0 := 236) (x := 238) (nx := 43) (r1 := 11) (r2 := 13) (r3 := 0) rfl rfl (by decide) rfl ⟨rfl, rfl⟩ rfl ?_
        refine wi_bipush (n := 68) (nx := 45) (r1 := 0) (r2 := 0) (r3 := 0) rfl (by decide) ?_
        have b24 := gi_b (lo := -1) (hi := 4) g 238 68 rfl
        refine wr_ia (k0 := 238) (a := 68) (f := 68) (x := h 238 68) (nx := 46) (r1 := 0) (r2 := 0) (r3 := 0) rfl (by decide) rfl (by omega) (by omega) (by decide) rfl ?_
        refine wi_icmp (cd := .ne) (nx := 49) (r1 := 51) (r2 := 0) (r3 := 0) rfl (by omega) (by omega) (fun (q25 : (h 238 i22) ≠ (h 238 68)) => ?_) (fun (q25 : ¬ ((h 238 i22) ≠ (h 238 68))) => ?_)
        ·
          refine wi_iload_n (i := 1) (e := x1) (nx := 52) (r1 := 0) (r2 := 0) (r3 := 0) rfl rfl ?_
          refine wi_iconst (n := (-1)) (nx := 53) (r1 := 0) (r2 := 0) (r3 := 0) rfl ?_
          refine wi_icmp (cd := .eq) (nx := 56) (r1 := 71) (r2 := 0) (r3 := 0) rfl (by omega) (by omega) (fun (q26 : x1 = (-1)) => ?_) (fun (q26 : ¬ (x1 = (-1))) => ?_)
          ·
            refine wi_iload_n (i := 2) (e := 2) (nx := 72) (r1 := 0) (r2 := 0) (r3 := 0) rfl rfl ?_
            refine wi_istore_n (i := 1) (e := 2) (lo2 := [(1, vi 2), (0, .ref 236), (2, vi 2)]) (nx := 73) (r1 := 0) (r2 := 0) (r3 := 0) rfl rfl ?_
            refine wr_iincL (i := 2) (n := 1) (v := 2) (3) ([(2, vi 3), (1, vi 2), (0, .ref 236)]) (nx := 76) (r1 := 0) (r2 := 0) (r3 := 0) rfl rfl (by decide) rfl ?_
            refine wi_goto (nx := 79) (r1 := 4) (r2 := 0) (r3 := 0) rfl ?_
            refine wp.lo (lo := [(0, .ref 236), (1, vi 2), (2, vi 3)]) ⟨rfl, rfl, rfl, trivial⟩ rfl ?_
            have cn27 : canL (h 238) 2 := ⟨(show (2 : Int) + 1 ≤ h 238 1 by omega), mlP.pos y8_0 (by omega)⟩
            exact I3 2 3 h ⟨rfl, (show (-1 ≤ 2 ∧ 2 ≤ 3) ∧ (0 ≤ 3 ∧ 3 ≤ 4) by omega), (laX.yes 2 (by decide) (by omega) cn27)⟩ (show ((4 : Int) + 1 - 3).toNat < ((4 : Int) + 1 - x2).toNat by omega)
          ·
            refine wi_aload_n (i := 0) (x := 236) (nx := 57) (r1 := 0) (r2 := 0) (r3 := 0) rfl rfl ?_
            refine wi_iload_n (i := 2) (e := 2) (nx := 58) (r1 := 0) (r2 := 0) (r3 := 0) rfl rfl ?_
            refine wi_iconst (n := 0) (nx := 59) (r1 := 0) (r2 := 0) (r3 := 0) rfl ?_
            refine wr_V (k0 := 236) (rest := []) (as := [.ref 236, vi 2, vi 0]) (nx := 62) (r1 := 258) (r2 := 2) (r3 := 11) rfl rfl rfl (of_decide_eq_true rfl) rfl rfl (by decide) rfl rfl (of_decide_eq_true rfl) (of_decide_eq_true rfl) ?_
            refine wi_aload_n (i := 0) (x := 236) (nx := 1) (r1 := 0) (r2 := 0) (r3 := 0) rfl rfl ?_
            refine wr_gr (k0 := 236) (x := 238) (nx := 4) (r1 := 11) (r2 := 13) (r3 := 0) rfl rfl (by decide) rfl ⟨rfl, rfl⟩ rfl ?_
            refine wi_bipush (n := 74) (nx := 6) (r1 := 0) (r2 := 0) (r3 := 0) rfl (by decide) ?_
            refine wi_bipush (n := 6) (nx := 8) (r1 := 0) (r2 := 0) (r3 := 0) rfl (by decide) ?_
            refine wi_iload_n (i := 1) (e := 2) (nx := 9) (r1 := 0) (r2 := 0) (r3 := 0) rfl rfl ?_
            refine wr_mulL (12) (nx := 10) (r1 := 0) (r2 := 0) (r3 := 0) rfl (by decide) ?_
            refine wr_addL (86) (nx := 11) (r1 := 0) (r2 := 0) (r3 := 0) rfl (by decide) ?_
            refine wi_iload_n (i := 2) (e := 0) (nx := 12) (r1 := 0) (r2 := 0) (r3 := 0) rfl rfl ?_
            refine wr_addL (86) (nx := 13) (r1 := 0) (r2 := 0) (r3 := 0) rfl (by decide) ?_
            refine wr_ia (k0 := 238) (a := 86) (f := 86) (x := h 238 86) (nx := 14) (r1 := 0) (r2 := 0) (r3 := 0) rfl (by decide) rfl (by omega) (by omega) (by decide) rfl ?_
            refine wi_ireturn (nx := 15) (r1 := 0) (r2 := 0) (r3 := 0) rfl rfl ?_
            refine wk_i ?_
            refine wi_aload_n (i := 0) (x := 236) (nx := 63) (r1 := 0) (r2 := 0) (r3 := 0) rfl rfl ?_
            refine wi_iload_n (i := 1) (e := x1) (nx := 64) (r1 := 0) (r2 := 0) (r3 := 0) rfl rfl ?_
            refine wi_iconst (n := 0) (nx := 65) (r1 := 0) (r2 := 0) (r3 := 0) rfl ?_
            rcases (show x1 = 0 ∨ x1 = 1 ∨ x1 = 2 ∨ x1 = 3 by omega) with q27 | q27 | q27 | q27
            ·
              rw [q27]
              refine wr_V (k0 := 236) (rest := [vi (h 238 86)]) (as := [.ref 236, vi 0, vi 0]) (nx := 68) (r1 := 258) (r2 := 2) (r3 := 11) rfl rfl rfl (of_decide_eq_true rfl) rfl rfl (by decide) rfl rfl (of_decide_eq_true rfl) (of_decide_eq_true rfl) ?_
              refine wi_aload_n (i := 0) (x := 236) (nx := 1) (r1 := 0) (r2 := 0) (r3 := 0) rfl rfl ?_
              refine wr_gr (k0 := 236) (x := 238) (nx := 4) (r1 := 11) (r2 := 13) (r3 := 0) rfl rfl (by decide) rfl ⟨rfl, rfl⟩ rfl ?_
              refine wi_bipush (n := 74) (nx := 6) (r1 := 0) (r2 := 0) (r3 := 0) rfl (by decide) ?_
              refine wi_bipush (n := 6) (nx := 8) (r1 := 0) (r2 := 0) (r3 := 0) rfl (by decide) ?_
              refine wi_iload_n (i := 1) (e := 0) (nx := 9) (r1 := 0) (r2 := 0) (r3 := 0) rfl rfl ?_
              refine wr_mulL (0) (nx := 10) (r1 := 0) (r2 := 0) (r3 := 0) rfl (by decide) ?_
              refine wr_addL (74) (nx := 11) (r1 := 0) (r2 := 0) (r3 := 0) rfl (by decide) ?_
              refine wi_iload_n (i := 2) (e := 0) (nx := 12) (r1 := 0) (r2 := 0) (r3 := 0) rfl rfl ?_
              refine wr_addL (74) (nx := 13) (r1 := 0) (r2 := 0) (r3 := 0) rfl (by decide) ?_
              have b28 := gi_b (lo := 0) (hi := 11) g 238 74 rfl
              refine wr_ia (k0 := 238) (a := 74) (f := 74) (x := h 238 74) (nx := 14) (r1 := 0) (r2 := 0) (r3 := 0) rfl (by decide) rfl (by omega) (by omega) (by decide) rfl ?_
              refine wi_ireturn (nx := 15) (r1 := 0) (r2 := 0) (r3 := 0) rfl rfl ?_
              refine wk_i ?_
              refine wi_icmp (cd := .ge) (nx := 71) (r1 := 73) (r2 := 0) (r3 := 0) rfl (by omega) (by omega) (fun (q29 : (h 238 74) ≤ (h 238 86)) => ?_) (fun (q29 : ¬ ((h 238 74) ≤ (h 238 86))) => ?_)
              ·
                refine wr_iincL (i := 2) (n := 1) (v := 2) (3) ([(2, vi 3), (0, .ref 236), (1, vi 0)]) (nx := 76) (r1 := 0) (r2 := 0) (r3 := 0) rfl rfl (by decide) rfl ?_
                refine wi_goto (nx := 79) (r1 := 4) (r2 := 0) (r3 := 0) rfl ?_
                refine wp.lo (lo := [(0, .ref 236), (1, vi 0), (2, vi 3)]) ⟨rfl, rfl, rfl, trivial⟩ rfl ?_
                exact I3 0 3 h ⟨rfl, (show (-1 ≤ 0 ∧ 0 ≤ 3) ∧ (0 ≤ 3 ∧ 3 ≤ 4) by omega), (by have lx : laX (canL (h 238)) x1 3 := laX.keep X3_0 (by omega); rwa [show x1 = 0 by omega] at lx)⟩ (show ((4 : Int) + 1 - 3).toNat < ((4 : Int) + 1 - x2).toNat by omega)
              ·
                refine wi_iload_n (i := 2) (e := 2) (nx := 72) (r1 := 0) (r2 := 0) (r3 := 0) rfl rfl ?_
                refine wi_istore_n (i := 1) (e := 2) (lo2 := [(1, vi 2), (0, .ref 236), (2, vi 2)]) (nx := 73) (r1 := 0) (r2 := 0) (r3 := 0) rfl rfl ?_
                refine wr_iincL (i := 2) (n := 1) (v := 2) (3) ([(2, vi 3), (1, vi 2), (0, .ref 236)]) (nx := 76) (r1 := 0) (r2 := 0) (r3 := 0) rfl rfl (by decide) rfl ?_
                refine wi_goto (nx := 79) (r1 := 4) (r2 := 0) (r3 := 0) rfl ?_
                refine wp.lo (lo := [(0, .ref 236), (1, vi 2), (2, vi 3)]) ⟨rfl, rfl, rfl, trivial⟩ rfl ?_
                have cn30 : canL (h 238) 2 := ⟨(show (2 : Int) + 1 ≤ h 238 1 by omega), mlP.pos y8_0 (by omega)⟩
                exact I3 2 3 h ⟨rfl, (show (-1 ≤ 2 ∧ 2 ≤ 3) ∧ (0 ≤ 3 ∧ 3 ≤ 4) by omega), (laX.yes 2 (by decide) (by omega) cn30)⟩ (show ((4 : Int) + 1 - 3).toNat < ((4 : Int) + 1 - x2).toNat by omega)
            ·
              rw [q27]
              refine wr_V (k0 := 236) (rest := [vi (h 238 86)]) (as := [.ref 236, vi 1, vi 0]) (nx := 68) (r1 := 258) (r2 := 2) (r3 := 11) rfl rfl rfl (of_decide_eq_true rfl) rfl rfl (by decide) rfl rfl (of_decide_eq_true rfl) (of_decide_eq_true rfl) ?_
              refine wi_aload_n (i := 0) (x := 236) (nx := 1) (r1 := 0) (r2 := 0) (r3 := 0) rfl rfl ?_
              refine wr_gr (k0 := 236) (x := 238) (nx := 4) (r1 := 11) (r2 := 13) (r3 := 0) rfl rfl (by decide) rfl ⟨rfl, rfl⟩ rfl ?_
              refine wi_bipush (n := 74) (nx := 6) (r1 := 0) (r2 := 0) (r3 := 0) rfl (by decide) ?_
              refine wi_bipush (n := 6) (nx := 8) (r1 := 0) (r2 := 0) (r3 := 0) rfl (by decide) ?_
              refine wi_iload_n (i := 1) (e := 1) (nx := 9) (r1 := 0) (r2 := 0) (r3 := 0) rfl rfl ?_
              refine wr_mulL (6) (nx := 10) (r1 := 0) (r2 := 0) (r3 := 0) rfl (by decide) ?_
              refine wr_addL (80) (nx := 11) (r1 := 0) (r2 := 0) (r3 := 0) rfl (by decide) ?_
              refine wi_iload_n (i := 2) (e := 0) (nx := 12) (r1 := 0) (r2 := 0) (r3 := 0) rfl rfl ?_
              refine wr_addL (80) (nx := 13) (r1 := 0) (r2 := 0) (r3 := 0) rfl (by decide) ?_
              have b28 := gi_b (lo := 0) (hi := 11) g 238 80 rfl
              refine wr_ia (k0 := 238) (a := 80) (f := 80) (x := h 238 80) (nx := 14) (r1 := 0) (r2 := 0) (r3 := 0) rfl (by decide) rfl (by omega) (by omega) (by decide) rfl ?_
              refine wi_ireturn (nx := 15) (r1 := 0) (r2 := 0) (r3 := 0) rfl rfl ?_
              refine wk_i ?_
              refine wi_icmp (cd := .ge) (nx := 71) (r1 := 73) (r2 := 0) (r3 := 0) rfl (by omega) (by omega) (fun (q29 : (h 238 80) ≤ (h 238 86)) => ?_) (fun (q29 : ¬ ((h 238 80) ≤ (h 238 86))) => ?_)
              ·
                refine wr_iincL (i := 2) (n := 1) (v := 2) (3) ([(2, vi 3), (0, .ref 236), (1, vi 1)]) (nx := 76) (r1 := 0) (r2 := 0) (r3 := 0) rfl rfl (by decide) rfl ?_
                refine wi_goto (nx := 79) (r1 := 4) (r2 := 0) (r3 := 0) rfl ?_
                refine wp.lo (lo := [(0, .ref 236), (1, vi 1), (2, vi 3)]) ⟨rfl, rfl, rfl, trivial⟩ rfl ?_
                exact I3 1 3 h ⟨rfl, (show (-1 ≤ 1 ∧ 1 ≤ 3) ∧ (0 ≤ 3 ∧ 3 ≤ 4) by omega), (by have lx : laX (canL (h 238)) x1 3 := laX.keep X3_0 (by omega); rwa [show x1 = 1 by omega] at lx)⟩ (show ((4 : Int) + 1 - 3).toNat < ((4 : Int) + 1 - x2).toNat by omega)
              ·
                refine wi_iload_n (i := 2) (e := 2) (nx := 72) (r1 := 0) (r2 := 0) (r3 := 0) rfl rfl ?_
                refine wi_istore_n (i := 1) (e := 2) (lo2 := [(1, vi 2), (0, .ref 236), (2, vi 2)]) (nx := 73) (r1 := 0) (r2 := 0) (r3 := 0) rfl rfl ?_
                refine wr_iincL (i := 2) (n := 1) (v := 2) (3) ([(2, vi 3), (1, vi 2), (0, .ref 236)]) (nx := 76) (r1 := 0) (r2 := 0) (r3 := 0) rfl rfl (by decide) rfl ?_
                refine wi_goto (nx := 79) (r1 := 4) (r2 := 0) (r3 := 0) rfl ?_
                refine wp.lo (lo := [(0, .ref 236), (1, vi 2), (2, vi 3)]) ⟨rfl, rfl, rfl, trivial⟩ rfl ?_
                have cn30 : canL (h 238) 2 := ⟨(show (2 : Int) + 1 ≤ h 238 1 by omega), mlP.pos y8_0 (by omega)⟩
                exact I3 2 3 h ⟨rfl, (show (-1 ≤ 2 ∧ 2 ≤ 3) ∧ (0 ≤ 3 ∧ 3 ≤ 4) by omega), (laX.yes 2 (by decide) (by omega) cn30)⟩ (show ((4 : Int) + 1 - 3).toNat < ((4 : Int) + 1 - x2).toNat by omega)
            ·
              rw [q27]
              refine wr_V (k0 := 236) (rest := [vi (h 238 86)]) (as := [.ref 236, vi 2, vi 0]) (nx := 68) (r1 := 258) (r2 := 2) (r3 := 11) rfl rfl rfl (of_decide_eq_true rfl) rfl rfl (by decide) rfl rfl (of_decide_eq_true rfl) (of_decide_eq_true rfl) ?_
              refine wi_aload_n (i := 0) (x := 236) (nx := 1) (r1 := 0) (r2 := 0) (r3 := 0) rfl rfl ?_
              refine wr_gr (k0 := 236) (x := 238) (nx := 4) (r1 := 11) (r2 := 13) (r3 := 0) rfl rfl (by decide) rfl ⟨rfl, rfl⟩ rfl ?_
              refine wi_bipush (n := 74) (nx := 6) (r1 := 0) (r2 := 0) (r3 := 0) rfl (by decide) ?_
              refine wi_bipush (n := 6) (nx := 8) (r1 := 0) (r2 := 0) (r3 := 0) rfl (by decide) ?_
              refine wi_iload_n (i := 1) (e := 2) (nx := 9) (r1 := 0) (r2 := 0) (r3 := 0) rfl rfl ?_
              refine wr_mulL (12) (nx := 10) (r1 := 0) (r2 := 0) (r3 := 0) rfl (by decide) ?_
              refine wr_addL (86) (nx := 11) (r1 := 0) (r2 := 0) (r3 := 0) rfl (by decide) ?_
              refine wi_iload_n (i := 2) (e := 0) (nx := 12) (r1 := 0) (r2 := 0) (r3 := 0) rfl rfl ?_
              refine wr_addL (86) (nx := 13) (r1 := 0) (r2 := 0) (r3 := 0) rfl (by decide) ?_
              refine wr_ia (k0 := 238) (a := 86) (f := 86) (x := h 238 86) (nx := 14) (r1 := 0) (r2 := 0) (r3 := 0) rfl (by decide) rfl (by omega) (by omega) (by decide) rfl ?_
              refine wi_ireturn (nx := 15) (r1 := 0) (r2 := 0) (r3 := 0) rfl rfl ?_
              refine wk_i ?_
              refine wi_icmp (cd := .ge) (nx := 71) (r1 := 73) (r2 := 0) (r3 := 0) rfl (by omega) (by omega) (fun (q28 : (h 238 86) ≤ (h 238 86)) => ?_) (fun (q28 : ¬ ((h 238 86) ≤ (h 238 86))) => by exfalso; omega)
              refine wr_iincL (i := 2) (n := 1) (v := 2) (3) ([(2, vi 3), (0, .ref 236), (1, vi 2)]) (nx := 76) (r1 := 0) (r2 := 0) (r3 := 0) rfl rfl (by decide) rfl ?_
              refine wi_goto (nx := 79) (r1 := 4) (r2 := 0) (r3 := 0) rfl ?_
              refine wp.lo (lo := [(0, .ref 236), (1, vi 2), (2, vi 3)]) ⟨rfl, rfl, rfl, trivial⟩ rfl ?_
              have cn29 : canL (h 238) 2 := ⟨(show (2 : Int) + 1 ≤ h 238 1 by omega), mlP.pos y8_0 (by omega)⟩
              exact I3 2 3 h ⟨rfl, (show (-1 ≤ 2 ∧ 2 ≤ 3) ∧ (0 ≤ 3 ∧ 3 ≤ 4) by omega), (laX.yes 2 (by decide) (by omega) cn29)⟩ (show ((4 : Int) + 1 - 3).toNat < ((4 : Int) + 1 - x2).toNat by omega)
            ·
              rw [q27]
              refine wr_V (k0 := 236) (rest := [vi (h 238 86)]) (as := [.ref 236, vi 3, vi 0]) (nx := 68) (r1 := 258) (r2 := 2) (r3 := 11) rfl rfl rfl (of_decide_eq_true rfl) rfl rfl (by decide) rfl rfl (of_decide_eq_true rfl) (of_decide_eq_true rfl) ?_
              refine wi_aload_n (i := 0) (x := 236) (nx := 1) (r1 := 0) (r2 := 0) (r3 := 0) rfl rfl ?_
              refine wr_gr (k0 := 236) (x := 238) (nx := 4) (r1 := 11) (r2 := 13) (r3 := 0) rfl rfl (by decide) rfl ⟨rfl, rfl⟩ rfl ?_
              refine wi_bipush (n := 74) (nx := 6) (r1 := 0) (r2 := 0) (r3 := 0) rfl (by decide) ?_
              refine wi_bipush (n := 6) (nx := 8) (r1 := 0) (r2 := 0) (r3 := 0) rfl (by decide) ?_
              refine wi_iload_n (i := 1) (e := 3) (nx := 9) (r1 := 0) (r2 := 0) (r3 := 0) rfl rfl ?_
              refine wr_mulL (18) (nx := 10) (r1 := 0) (r2 := 0) (r3 := 0) rfl (by decide) ?_
              refine wr_addL (92) (nx := 11) (r1 := 0) (r2 := 0) (r3 := 0) rfl (by decide) ?_
              refine wi_iload_n (i := 2) (e := 0) (nx := 12) (r1 := 0) (r2 := 0) (r3 := 0) rfl rfl ?_
              refine wr_addL (92) (nx := 13) (r1 := 0) (r2 := 0) (r3 := 0) rfl (by decide) ?_
              have b28 := gi_b (lo := 0) (hi := 11) g 238 92 rfl
              refine wr_ia (k0 := 238) (a := 92) (f := 92) (x := h 238 92) (nx := 14) (r1 := 0) (r2 := 0) (r3 := 0) rfl (by decide) rfl (by omega) (by omega) (by decide) rfl ?_
              refine wi_ireturn (nx := 15) (r1 := 0) (r2 := 0) (r3 := 0) rfl rfl ?_
              refine wk_i ?_
              refine wi_icmp (cd := .ge) (nx := 71) (r1 := 73) (r2 := 0) (r3 := 0) rfl (by omega) (by omega) (fun (q29 : (h 238 92) ≤ (h 238 86)) => ?_) (fun (q29 : ¬ ((h 238 92) ≤ (h 238 86))) => ?_)
              ·
                refine wr_iincL (i := 2) (n := 1) (v := 2) (3) ([(2, vi 3), (0, .ref 236), (1, vi 3)]) (nx := 76) (r1 := 0) (r2 := 0) (r3 := 0) rfl rfl (by decide) rfl ?_
                refine wi_goto (nx := 79) (r1 := 4) (r2 := 0) (r3 := 0) rfl ?_
                refine wp.lo (lo := [(0, .ref 236), (1, vi 3), (2, vi 3)]) ⟨rfl, rfl, rfl, trivial⟩ rfl ?_
                exact I3 3 3 h ⟨rfl, (show (-1 ≤ 3 ∧ 3 ≤ 3) ∧ (0 ≤ 3 ∧ 3 ≤ 4) by omega), (by have lx : laX (canL (h 238)) x1 3 := laX.keep X3_0 (by omega); rwa [show x1 = 3 by omega] at lx)⟩ (show ((4 : Int) + 1 - 3).toNat < ((4 : Int) + 1 - x2).toNat by omega)
              ·
                refine wi_iload_n (i := 2) (e := 2) (nx := 72) (r1 := 0) (r2 := 0) (r3 := 0) rfl rfl ?_
                refine wi_istore_n (i := 1) (e := 2) (lo2 := [(1, vi 2), (0, .ref 236), (2, vi 2)]) (nx := 73) (r1 := 0) (r2 := 0) (r3 := 0) rfl rfl ?_
                refine wr_iincL (i := 2) (n := 1) (v := 2) (3) ([(2, vi 3), (1, vi 2), (0, .ref 236)]) (nx := 76) (r1 := 0) (r2 := 0) (r3 := 0) rfl rfl (by decide) rfl ?_
                refine wi_goto (nx := 79) (r1 := 4) (r2 := 0) (r3 := 0) rfl ?_
                refine wp.lo (lo := [(0, .ref 236), (1, vi 2), (2, vi 3)]) ⟨rfl, rfl, rfl, trivial⟩ rfl ?_
                have cn30 : canL (h 238) 2 := ⟨(show (2 : Int) + 1 ≤ h 238 1 by omega), mlP.pos y8_0 (by omega)⟩
                exact I3 2 3 h ⟨rfl, (show (-1 ≤ 2 ∧ 2 ≤ 3) ∧ (0 ≤ 3 ∧ 3 ≤ 4) by omega), (laX.yes 2 (by decide) (by omega) cn30)⟩ (show ((4 : Int) + 1 - 3).toNat < ((4 : Int) + 1 - x2).toNat by omega)
        ·
          refine wi_iload_n (i := 2) (e := 2) (nx := 50) (r1 := 0) (r2 := 0) (r3 := 0) rfl rfl ?_
          refine wi_ireturn (nx := 51) (r1 := 0) (r2 := 0) (r3 := 0) rfl rfl ?_
          have cn26 : canL (h 238) 2 := ⟨(show (2 : Int) + 1 ≤ h 238 1 by omega), mlP.pos y8_0 (by omega)⟩
          exact k 2 (by omega) (laX.yes 2 (by decide) (by omega) cn26)
      ·
        refine wi_goto (nx := 25) (r1 := 73) (r2 := 0) (r3 := 0) rfl ?_
        refine wr_iincL (i := 2) (n := 1) (v := 2) (3) ([(2, vi 3), (0, .ref 236), (1, vi x1)]) (nx := 76) (r1 := 0) (r2 := 0) (r3 := 0) rfl rfl (by decide) rfl ?_
        refine wi_goto (nx := 79) (r1 := 4) (r2 := 0) (r3 := 0) rfl ?_
        refine wp.lo (lo := [(0, .ref 236), (1, vi x1), (2, vi 3)]) ⟨rfl, rfl, rfl, trivial⟩ rfl ?_
        have cn21 : ¬ canL (h 238) 2 := fun c => mlP.neg y8_0 (by omega) c.2
        exact I3 x1 3 h ⟨rfl, (show (-1 ≤ x1 ∧ x1 ≤ 3) ∧ (0 ≤ 3 ∧ 3 ≤ 4) by omega), (laX.no X3_0 (by omega) 2 (by omega) cn21)⟩ (show ((4 : Int) + 1 - 3).toNat < ((4 : Int) + 1 - x2).toNat by omega)
    ·
      rw [q7]
      refine wr_V (k0 := 236) (rest := []) (as := [.ref 236, vi 3]) (nx := 19) (r1 := 267) (r2 := 1) (r3 := 11) rfl rfl rfl (of_decide_eq_true rfl) rfl rfl (by decide) rfl rfl (of_decide_eq_true rfl) (of_decide_eq_true rfl) ?_
      refine ct_267_236_L3 hcr  g    (fun z9  (fz9 : 0 ≤ z9 ∧ z9 ≤ 1) (p8_0 : z9 = 0 ∨ 1 ≤ (h 238 101)) (p8_1 : z9 = 0 ∨ (h 238 67) ≤ 9998) (p8_2 : z9 = 0 ∨ (1 ≤ (h 238 (43 + (h 238 92).toNat)) ∧ (h 238 102) < (h 238 7)) ∨ ((h 238 (43 + (h 238 92).toNat)) ≤ 0 ∧ (h 238 92) - (h 238 106) ≤ (h 238 3))) y8_0 => ?_)
      have b10 := gi_b (lo := 0) (hi := 6) g 238 101 rfl
      have b11 := gi_b (lo := 0) (hi := 9999) g 238 67 rfl
      have b12 := gi_b (lo := 0) (hi := 11) g 238 92 rfl
      obtain ⟨i13, ei13⟩ : ∃ q : Nat, (43 + h 238 92) = (q : Int) := ⟨(43 + h 238 92).toNat, by omega⟩
      have b14 := gi_b (lo := 0) (hi := 999) g 238 i13 (gi_rg 43 12 (fun _ => rfl) (by decide +kernel) (by omega))
      have e15 : h 238 (43 + (h 238 92).toNat) = h 238 i13 := by rw [show 43 + (h 238 92).toNat = i13 by omega]
      have b16 := gi_b (lo := 0) (hi := 3) g 238 102 rfl
      have b17 := gi_b (lo := 0) (hi := 3) g 238 7 rfl
      have b18 := gi_b (lo := 0) (hi := 12) g 238 106 rfl
      have b19 := gi_b (lo := 0) (hi := 999) g 238 3 rfl
      refine wk_i ?_
      refine wi_if (cd := .ne) (nx := 22) (r1 := 25) (r2 := 0) (r3 := 0) rfl (by omega) (fun (q20 : z9 ≠ 0) => ?_) (fun (q20 : ¬ (z9 ≠ 0)) => ?_)
      ·
        refine wi_aload_n (i := 0) (x := 236) (nx := 26) (r1 := 0) (r2 := 0) (r3 := 0) rfl rfl ?_
        refine wr_gr (k0 := 236) (x := 238) (nx := 29) (r1 := 11) (r2 := 13) (r3 := 0) rfl rfl (by decide) rfl ⟨rfl, rfl⟩ rfl ?_
        refine wi_bipush (n := 31) (nx := 31) (r1 := 0) (r2 := 0) (r3 := 0) rfl (by decide) ?_
        refine wi_aload_n (i := 0) (x := 236) (nx := 32) (r1 := 0) (r2 := 0) (r3 := 0) rfl rfl ?_
        refine wi_iload_n (i := 2) (e := 3) (nx := 33) (r1 := 0) (r2 := 0) (r3 := 0) rfl rfl ?_
        refine wi_iconst (n := 0) (nx := 34) (r1 := 0) (r2 := 0) (r3 := 0) rfl ?_
        refine wr_V (k0 := 236) (rest := [vi 31, .ref 238]) (as := [.ref 236, vi 3, vi 0]) (nx := 37) (r1 := 258) (r2 := 2) (r3 := 11) rfl rfl rfl (of_decide_eq_true rfl) rfl rfl (by decide) rfl rfl (of_decide_eq_true rfl) (of_decide_eq_true rfl) ?_
        refine wi_aload_n (i := 0) (x := 236) (nx := 1) (r1 := 0) (r2 := 0) (r3 := 0) rfl rfl ?_
        refine wr_gr (k0 := 236) (x := 238) (nx := 4) (r1 := 11) (r2 := 13) (r3 := 0) rfl rfl (by decide) rfl ⟨rfl, rfl⟩ rfl ?_
        refine wi_bipush (n := 74) (nx := 6) (r1 := 0) (r2 := 0) (r3 := 0) rfl (by decide) ?_
        refine wi_bipush (n := 6) (nx := 8) (r1 := 0) (r2 := 0) (r3 := 0) rfl (by decide) ?_
        refine wi_iload_n (i := 1) (e := 3) (nx := 9) (r1 := 0) (r2 := 0) (r3 := 0) rfl rfl ?_
        refine wr_mulL (18) (nx := 10) (r1 := 0) (r2 := 0) (r3 := 0) rfl (by decide) ?_
        refine wr_addL (92) (nx := 11) (r1 := 0) (r2 := 0) (r3 := 0) rfl (by decide) ?_
        refine wi_iload_n (i := 2) (e := 0) (nx := 12) (r1 := 0) (r2 := 0) (r3 := 0) rfl rfl ?_
        refine wr_addL (92) (nx := 13) (r1 := 0) (r2 := 0) (r3 := 0) rfl (by decide) ?_
        refine wr_ia (k0 := 238) (a := 92) (f := 92) (x := h 238 92) (nx := 14) (r1 := 0) (r2 := 0) (r3 := 0) rfl (by decide) rfl (by omega) (by omega) (by decide) rfl ?_
        refine wi_ireturn (nx := 15) (r1 := 0) (r2 := 0) (r3 := 0) rfl rfl ?_
        refine wk_i ?_
        refine wr_add (nx := 38) (r1 := 0) (r2 := 0) (r3 := 0) rfl (fun e21 (fe21 : e21 = 31 + (h 238 92)) => ?_)
        obtain ⟨i22, ei22⟩ : ∃ q : Nat, e21 = (q : Int) := ⟨(e21).toNat, by omega⟩
        have b23 := gi_b (lo := 0) (hi := 4) g 238 i22 (gi_rg 31 12 (fun _ => rfl) (by decide +kernel) (by omega))
        refine wr_ia (k0 := 238) (a := e21) (f := i22) (x := h 238 i22) (nx := 39) (r1 := 0) (r2 := 0) (r3 := 0) rfl (by decide) rfl (by omega) (by omega) (by decide) rfl ?_
        refine wi_aload_n (i := 0) (x := 236) (nx := 40) (r1 := 0) (r2 := 0) (r3 := 0) rfl rfl ?_
        refine wr_gr (k0 := 236) (x := 238) (nx := 43) (r1 := 11) (r2 := 13) (r3 := 0) rfl rfl (by decide) rfl ⟨rfl, rfl⟩ rfl ?_
        refine wi_bipush (n := 68) (nx := 45) (r1 := 0) (r2 := 0) (r3 := 0) rfl (by decide) ?_
        have b24 := gi_b (lo := -1) (hi := 4) g 238 68 rfl
        refine wr_ia (k0 := 238) (a := 68) (f := 68) (x := h 238 68) (nx := 46) (r1 := 0) (r2 := 0) (r3 := 0) rfl (by decide) rfl (by omega) (by omega) (by decide) rfl ?_
        refine wi_icmp (cd := .ne) (nx := 49) (r1 := 51) (r2 := 0) (r3 := 0) rfl (by omega) (by omega) (fun (q25 : (h 238 i22) ≠ (h 238 68)) => ?_) (fun (q25 : ¬ ((h 238 i22) ≠ (h 238 68))) => ?_)
        ·
          refine wi_iload_n (i := 1) (e := x1) (nx := 52) (r1 := 0) (r2 := 0) (r3 := 0) rfl rfl ?_
          refine wi_iconst (n := (-1)) (nx := 53) (r1 := 0) (r2 := 0) (r3 := 0) rfl ?_
          refine wi_icmp (cd := .eq) (nx := 56) (r1 := 71) (r2 := 0) (r3 := 0) rfl (by omega) (by omega) (fun (q26 : x1 = (-1)) => ?_) (fun (q26 : ¬ (x1 = (-1))) => ?_)
          ·
            refine wi_iload_n (i := 2) (e := 3) (nx := 72) (r1 := 0) (r2 := 0) (r3 := 0) rfl rfl ?_
            refine wi_istore_n (i := 1) (e := 3) (lo2 := [(1, vi 3), (0, .ref 236), (2, vi 3)]) (nx := 73) (r1 := 0) (r2 := 0) (r3 := 0) rfl rfl ?_
            refine wr_iincL (i := 2) (n := 1) (v := 3) (4) ([(2, vi 4), (1, vi 3), (0, .ref 236)]) (nx := 76) (r1 := 0) (r2 := 0) (r3 := 0) rfl rfl (by decide) rfl ?_
            refine wi_goto (nx := 79) (r1 := 4) (r2 := 0) (r3 := 0) rfl ?_
            refine wp.lo (lo := [(0, .ref 236), (1, vi 3), (2, vi 4)]) ⟨rfl, rfl, rfl, trivial⟩ rfl ?_
            have cn27 : canL (h 238) 3 := ⟨(show (3 : Int) + 1 ≤ h 238 1 by omega), mlP.pos y8_0 (by omega)⟩
            exact I3 3 4 h ⟨rfl, (show (-1 ≤ 3 ∧ 3 ≤ 3) ∧ (0 ≤ 4 ∧ 4 ≤ 4) by omega), (laX.yes 3 (by decide) (by omega) cn27)⟩ (show ((4 : Int) + 1 - 4).toNat < ((4 : Int) + 1 - x2).toNat by omega)
          ·
            refine wi_aload_n (i := 0) (x := 236) (nx := 57) (r1 := 0) (r2 := 0) (r3 := 0) rfl rfl ?_
            refine wi_iload_n (i := 2) (e := 3) (nx := 58) (r1 := 0) (r2 := 0) (r3 := 0) rfl rfl ?_
            refine wi_iconst (n := 0) (nx := 59) (r1 := 0) (r2 := 0) (r3 := 0) rfl ?_
            refine wr_V (k0 := 236) (rest := []) (as := [.ref 236, vi 3, vi 0]) (nx := 62) (r1 := 258) (r2 := 2) (r3 := 11) rfl rfl rfl (of_decide_eq_true rfl) rfl rfl (by decide) rfl rfl (of_decide_eq_true rfl) (of_decide_eq_true rfl) ?_
            refine wi_aload_n (i := 0) (x := 236) (nx := 1) (r1 := 0) (r2 := 0) (r3 := 0) rfl rfl ?_
            refine wr_gr (k0 := 236) (x := 238) (nx := 4) (r1 := 11) (r2 := 13) (r3 := 0) rfl rfl (by decide) rfl ⟨rfl, rfl⟩ rfl ?_
            refine wi_bipush (n := 74) (nx := 6) (r1 := 0) (r2 := 0) (r3 := 0) rfl (by decide) ?_
            refine wi_bipush (n := 6) (nx := 8) (r1 := 0) (r2 := 0) (r3 := 0) rfl (by decide) ?_
            refine wi_iload_n (i := 1) (e := 3) (nx := 9) (r1 := 0) (r2 := 0) (r3 := 0) rfl rfl ?_
            refine wr_mulL (18) (nx := 10) (r1 := 0) (r2 := 0) (r3 := 0) rfl (by decide) ?_
            refine wr_addL (92) (nx := 11) (r1 := 0) (r2 := 0) (r3 := 0) rfl (by decide) ?_
            refine wi_iload_n (i := 2) (e := 0) (nx := 12) (r1 := 0) (r2 := 0) (r3 := 0) rfl rfl ?_
            refine wr_addL (92) (nx := 13) (r1 := 0) (r2 := 0) (r3 := 0) rfl (by decide) ?_
            refine wr_ia (k0 := 238) (a := 92) (f := 92) (x := h 238 92) (nx := 14) (r1 := 0) (r2 := 0) (r3 := 0) rfl (by decide) rfl (by omega) (by omega) (by decide) rfl ?_
            refine wi_ireturn (nx := 15) (r1 := 0) (r2 := 0) (r3 := 0) rfl rfl ?_
            refine wk_i ?_
            refine wi_aload_n (i := 0) (x := 236) (nx := 63) (r1 := 0) (r2 := 0) (r3 := 0) rfl rfl ?_
            refine wi_iload_n (i := 1) (e := x1) (nx := 64) (r1 := 0) (r2 := 0) (r3 := 0) rfl rfl ?_
            refine wi_iconst (n := 0) (nx := 65) (r1 := 0) (r2 := 0) (r3 := 0) rfl ?_
            rcases (show x1 = 0 ∨ x1 = 1 ∨ x1 = 2 ∨ x1 = 3 by omega) with q27 | q27 | q27 | q27
            ·
              rw [q27]
              refine wr_V (k0 := 236) (rest := [vi (h 238 92)]) (as := [.ref 236, vi 0, vi 0]) (nx := 68) (r1 := 258) (r2 := 2) (r3 := 11) rfl rfl rfl (of_decide_eq_true rfl) rfl rfl (by decide) rfl rfl (of_decide_eq_true rfl) (of_decide_eq_true rfl) ?_
              refine wi_aload_n (i := 0) (x := 236) (nx := 1) (r1 := 0) (r2 := 0) (r3 := 0) rfl rfl ?_
              refine wr_gr (k0 := 236) (x := 238) (nx := 4) (r1 := 11) (r2 := 13) (r3 := 0) rfl rfl (by decide) rfl ⟨rfl, rfl⟩ rfl ?_
              refine wi_bipush (n := 74) (nx := 6) (r1 := 0) (r2 := 0) (r3 := 0) rfl (by decide) ?_
              refine wi_bipush (n := 6) (nx := 8) (r1 := 0) (r2 := 0) (r3 := 0) rfl (by decide) ?_
              refine wi_iload_n (i := 1) (e := 0) (nx := 9) (r1 := 0) (r2 := 0) (r3 := 0) rfl rfl ?_
              refine wr_mulL (0) (nx := 10) (r1 := 0) (r2 := 0) (r3 := 0) rfl (by decide) ?_
              refine wr_addL (74) (nx := 11) (r1 := 0) (r2 := 0) (r3 := 0) rfl (by decide) ?_
              refine wi_iload_n (i := 2) (e := 0) (nx := 12) (r1 := 0) (r2 := 0) (r3 := 0) rfl rfl ?_
              refine wr_addL (74) (nx := 13) (r1 := 0) (r2 := 0) (r3 := 0) rfl (by decide) ?_
              have b28 := gi_b (lo := 0) (hi := 11) g 238 74 rfl
              refine wr_ia (k0 := 238) (a := 74) (f := 74) (x := h 238 74) (nx := 14) (r1 := 0) (r2 := 0) (r3 := 0) rfl (by decide) rfl (by omega) (by omega) (by decide) rfl ?_
              refine wi_ireturn (nx := 15) (r1 := 0) (r2 := 0) (r3 := 0) rfl rfl ?_
              refine wk_i ?_
              refine wi_icmp (cd := .ge) (nx := 71) (r1 := 73) (r2 := 0) (r3 := 0) rfl (by omega) (by omega) (fun (q29 : (h 238 74) ≤ (h 238 92)) => ?_) (fun (q29 : ¬ ((h 238 74) ≤ (h 238 92))) => ?_)
              ·
                refine wr_iincL (i := 2) (n := 1) (v := 3) (4) ([(2, vi 4), (0, .ref 236), (1, vi 0)]) (nx := 76) (r1 := 0) (r2 := 0) (r3 := 0) rfl rfl (by decide) rfl ?_
                refine wi_goto (nx := 79) (r1 := 4) (r2 := 0) (r3 := 0) rfl ?_
                refine wp.lo (lo := [(0, .ref 236), (1, vi 0), (2, vi 4)]) ⟨rfl, rfl, rfl, trivial⟩ rfl ?_
                exact I3 0 4 h ⟨rfl, (show (-1 ≤ 0 ∧ 0 ≤ 3) ∧ (0 ≤ 4 ∧ 4 ≤ 4) by omega), (by have lx : laX (canL (h 238)) x1 4 := laX.keep X3_0 (by omega); rwa [show x1 = 0 by omega] at lx)⟩ (show ((4 : Int) + 1 - 4).toNat < ((4 : Int) + 1 - x2).toNat by omega)
              ·
                refine wi_iload_n (i := 2) (e := 3) (nx := 72) (r1 := 0) (r2 := 0) (r3 := 0) rfl rfl ?_
                refine wi_istore_n (i := 1) (e := 3) (lo2 := [(1, vi 3), (0, .ref 236), (2, vi 3)]) (nx := 73) (r1 := 0) (r2 := 0) (r3 := 0) rfl rfl ?_
                refine wr_iincL (i := 2) (n := 1) (v := 3) (4) ([(2, vi 4), (1, vi 3), (0, .ref 236)]) (nx := 76) (r1 := 0) (r2 := 0) (r3 := 0) rfl rfl (by decide) rfl ?_
                refine wi_goto (nx := 79) (r1 := 4) (r2 := 0) (r3 := 0) rfl ?_
                refine wp.lo (lo := [(0, .ref 236), (1, vi 3), (2, vi 4)]) ⟨rfl, rfl, rfl, trivial⟩ rfl ?_
                have cn30 : canL (h 238) 3 := ⟨(show (3 : Int) + 1 ≤ h 238 1 by omega), mlP.pos y8_0 (by omega)⟩
                exact I3 3 4 h ⟨rfl, (show (-1 ≤ 3 ∧ 3 ≤ 3) ∧ (0 ≤ 4 ∧ 4 ≤ 4) by omega), (laX.yes 3 (by decide) (by omega) cn30)⟩ (show ((4 : Int) + 1 - 4).toNat < ((4 : Int) + 1 - x2).toNat by omega)
            ·
              rw [q27]
              refine wr_V (k0 := 236) (rest := [vi (h 238 92)]) (as := [.ref 236, vi 1, vi 0]) (nx := 68) (r1 := 258) (r2 := 2) (r3 := 11) rfl rfl rfl (of_decide_eq_true rfl) rfl rfl (by decide) rfl rfl (of_decide_eq_true rfl) (of_decide_eq_true rfl) ?_
              refine wi_aload_n (i := 0) (x := 236) (nx := 1) (r1 := 0) (r2 := 0) (r3 := 0) rfl rfl ?_
              refine wr_gr (k0 := 236) (x := 238) (nx := 4) (r1 := 11) (r2 := 13) (r3 := 0) rfl rfl (by decide) rfl ⟨rfl, rfl⟩ rfl ?_
              refine wi_bipush (n := 74) (nx := 6) (r1 := 0) (r2 := 0) (r3 := 0) rfl (by decide) ?_
              refine wi_bipush (n := 6) (nx := 8) (r1 := 0) (r2 := 0) (r3 := 0) rfl (by decide) ?_
              refine wi_iload_n (i := 1) (e := 1) (nx := 9) (r1 := 0) (r2 := 0) (r3 := 0) rfl rfl ?_
              refine wr_mulL (6) (nx := 10) (r1 := 0) (r2 := 0) (r3 := 0) rfl (by decide) ?_
              refine wr_addL (80) (nx := 11) (r1 := 0) (r2 := 0) (r3 := 0) rfl (by decide) ?_
              refine wi_iload_n (i := 2) (e := 0) (nx := 12) (r1 := 0) (r2 := 0) (r3 := 0) rfl rfl ?_
              refine wr_addL (80) (nx := 13) (r1 := 0) (r2 := 0) (r3 := 0) rfl (by decide) ?_
              have b28 := gi_b (lo := 0) (hi := 11) g 238 80 rfl
              refine wr_ia (k0 := 238) (a := 80) (f := 80) (x := h 238 80) (nx := 14) (r1 := 0) (r2 := 0) (r3 := 0) rfl (by decide) rfl (by omega) (by omega) (by decide) rfl ?_
              refine wi_ireturn (nx := 15) (r1 := 0) (r2 := 0) (r3 := 0) rfl rfl ?_
              refine wk_i ?_
              refine wi_icmp (cd := .ge) (nx := 71) (r1 := 73) (r2 := 0) (r3 := 0) rfl (by omega) (by omega) (fun (q29 : (h 238 80) ≤ (h 238 92)) => ?_) (fun (q29 : ¬ ((h 238 80) ≤ (h 238 92))) => ?_)
              ·
                refine wr_iincL (i := 2) (n := 1) (v := 3) (4) ([(2, vi 4), (0, .ref 236), (1, vi 1)]) (nx := 76) (r1 := 0) (r2 := 0) (r3 := 0) rfl rfl (by decide) rfl ?_
                refine wi_goto (nx := 79) (r1 := 4) (r2 := 0) (r3 := 0) rfl ?_
                refine wp.lo (lo := [(0, .ref 236), (1, vi 1), (2, vi 4)]) ⟨rfl, rfl, rfl, trivial⟩ rfl ?_
                exact I3 1 4 h ⟨rfl, (show (-1 ≤ 1 ∧ 1 ≤ 3) ∧ (0 ≤ 4 ∧ 4 ≤ 4) by omega), (by have lx : laX (canL (h 238)) x1 4 := laX.keep X3_0 (by omega); rwa [show x1 = 1 by omega] at lx)⟩ (show ((4 : Int) + 1 - 4).toNat < ((4 : Int) + 1 - x2).toNat by omega)
              ·
                refine wi_iload_n (i := 2) (e := 3) (nx := 72) (r1 := 0) (r2 := 0) (r3 := 0) rfl rfl ?_
                refine wi_istore_n (i := 1) (e := 3) (lo2 := [(1, vi 3), (0, .ref 236), (2, vi 3)]) (nx := 73) (r1 := 0) (r2 := 0) (r3 := 0) rfl rfl ?_
                refine wr_iincL (i := 2) (n := 1) (v := 3) (4) ([(2, vi 4), (1, vi 3), (0, .ref 236)]) (nx := 76) (r1 := 0) (r2 := 0) (r3 := 0) rfl rfl (by decide) rfl ?_
                refine wi_goto (nx := 79) (r1 := 4) (r2 := 0) (r3 := 0) rfl ?_
                refine wp.lo (lo := [(0, .ref 236), (1, vi 3), (2, vi 4)]) ⟨rfl, rfl, rfl, trivial⟩ rfl ?_
                have cn30 : canL (h 238) 3 := ⟨(show (3 : Int) + 1 ≤ h 238 1 by omega), mlP.pos y8_0 (by omega)⟩
                exact I3 3 4 h ⟨rfl, (show (-1 ≤ 3 ∧ 3 ≤ 3) ∧ (0 ≤ 4 ∧ 4 ≤ 4) by omega), (laX.yes 3 (by decide) (by omega) cn30)⟩ (show ((4 : Int) + 1 - 4).toNat < ((4 : Int) + 1 - x2).toNat by omega)
            ·
              rw [q27]
              refine wr_V (k0 := 236) (rest := [vi (h 238 92)]) (as := [.ref 236, vi 2, vi 0]) (nx := 68) (r1 := 258) (r2 := 2) (r3 := 11) rfl rfl rfl (of_decide_eq_true rfl) rfl rfl (by decide) rfl rfl (of_decide_eq_true rfl) (of_decide_eq_true rfl) ?_
              refine wi_aload_n (i := 0) (x := 236) (nx := 1) (r1 := 0) (r2 := 0) (r3 := 0) rfl rfl ?_
              refine wr_gr (k0 := 236) (x := 238) (nx := 4) (r1 := 11) (r2 := 13) (r3 := 0) rfl rfl (by decide) rfl ⟨rfl, rfl⟩ rfl ?_
              refine wi_bipush (n := 74) (nx := 6) (r1 := 0) (r2 := 0) (r3 := 0) rfl (by decide) ?_
              refine wi_bipush (n := 6) (nx := 8) (r1 := 0) (r2 := 0) (r3 := 0) rfl (by decide) ?_
              refine wi_iload_n (i := 1) (e := 2) (nx := 9) (r1 := 0) (r2 := 0) (r3 := 0) rfl rfl ?_
              refine wr_mulL (12) (nx := 10) (r1 := 0) (r2 := 0) (r3 := 0) rfl (by decide) ?_
              refine wr_addL (86) (nx := 11) (r1 := 0) (r2 := 0) (r3 := 0) rfl (by decide) ?_
              refine wi_iload_n (i := 2) (e := 0) (nx := 12) (r1 := 0) (r2 := 0) (r3 := 0) rfl rfl ?_
              refine wr_addL (86) (nx := 13) (r1 := 0) (r2 := 0) (r3 := 0) rfl (by decide) ?_
              have b28 := gi_b (lo := 0) (hi := 11) g 238 86 rfl
              refine wr_ia (k0 := 238) (a := 86) (f := 86) (x := h 238 86) (nx := 14) (r1 := 0) (r2 := 0) (r3 := 0) rfl (by decide) rfl (by omega) (by omega) (by decide) rfl ?_
              refine wi_ireturn (nx := 15) (r1 := 0) (r2 := 0) (r3 := 0) rfl rfl ?_
              refine wk_i ?_
              refine wi_icmp (cd := .ge) (nx := 71) (r1 := 73) (r2 := 0) (r3 := 0) rfl (by omega) (by omega) (fun (q29 : (h 238 86) ≤ (h 238 92)) => ?_) (fun (q29 : ¬ ((h 238 86) ≤ (h 238 92))) => ?_)
              ·
                refine wr_iincL (i := 2) (n := 1) (v := 3) (4) ([(2, vi 4), (0, .ref 236), (1, vi 2)]) (nx := 76) (r1 := 0) (r2 := 0) (r3 := 0) rfl rfl (by decide) rfl ?_
                refine wi_goto (nx := 79) (r1 := 4) (r2 := 0) (r3 := 0) rfl ?_
                refine wp.lo (lo := [(0, .ref 236), (1, vi 2), (2, vi 4)]) ⟨rfl, rfl, rfl, trivial⟩ rfl ?_
                exact I3 2 4 h ⟨rfl, (show (-1 ≤ 2 ∧ 2 ≤ 3) ∧ (0 ≤ 4 ∧ 4 ≤ 4) by omega), (by have lx : laX (canL (h 238)) x1 4 := laX.keep X3_0 (by omega); rwa [show x1 = 2 by omega] at lx)⟩ (show ((4 : Int) + 1 - 4).toNat < ((4 : Int) + 1 - x2).toNat by omega)
              ·
                refine wi_iload_n (i := 2) (e := 3) (nx := 72) (r1 := 0) (r2 := 0) (r3 := 0) rfl rfl ?_
                refine wi_istore_n (i := 1) (e := 3) (lo2 := [(1, vi 3), (0, .ref 236), (2, vi 3)]) (nx := 73) (r1 := 0) (r2 := 0) (r3 := 0) rfl rfl ?_
                refine wr_iincL (i := 2) (n := 1) (v := 3) (4) ([(2, vi 4), (1, vi 3), (0, .ref 236)]) (nx := 76) (r1 := 0) (r2 := 0) (r3 := 0) rfl rfl (by decide) rfl ?_
                refine wi_goto (nx := 79) (r1 := 4) (r2 := 0) (r3 := 0) rfl ?_
                refine wp.lo (lo := [(0, .ref 236), (1, vi 3), (2, vi 4)]) ⟨rfl, rfl, rfl, trivial⟩ rfl ?_
                have cn30 : canL (h 238) 3 := ⟨(show (3 : Int) + 1 ≤ h 238 1 by omega), mlP.pos y8_0 (by omega)⟩
                exact I3 3 4 h ⟨rfl, (show (-1 ≤ 3 ∧ 3 ≤ 3) ∧ (0 ≤ 4 ∧ 4 ≤ 4) by omega), (laX.yes 3 (by decide) (by omega) cn30)⟩ (show ((4 : Int) + 1 - 4).toNat < ((4 : Int) + 1 - x2).toNat by omega)
            ·
              rw [q27]
              refine wr_V (k0 := 236) (rest := [vi (h 238 92)]) (as := [.ref 236, vi 3, vi 0]) (nx := 68) (r1 := 258) (r2 := 2) (r3 := 11) rfl rfl rfl (of_decide_eq_true rfl) rfl rfl (by decide) rfl rfl (of_decide_eq_true rfl) (of_decide_eq_true rfl) ?_
              refine wi_aload_n (i := 0) (x := 236) (nx := 1) (r1 := 0) (r2 := 0) (r3 := 0) rfl rfl ?_
              refine wr_gr (k0 := 236) (x := 238) (nx := 4) (r1 := 11) (r2 := 13) (r3 := 0) rfl rfl (by decide) rfl ⟨rfl, rfl⟩ rfl ?_
              refine wi_bipush (n := 74) (nx := 6) (r1 := 0) (r2 := 0) (r3 := 0) rfl (by decide) ?_
              refine wi_bipush (n := 6) (nx := 8) (r1 := 0) (r2 := 0) (r3 := 0) rfl (by decide) ?_
              refine wi_iload_n (i := 1) (e := 3) (nx := 9) (r1 := 0) (r2 := 0) (r3 := 0) rfl rfl ?_
              refine wr_mulL (18) (nx := 10) (r1 := 0) (r2 := 0) (r3 := 0) rfl (by decide) ?_
              refine wr_addL (92) (nx := 11) (r1 := 0) (r2 := 0) (r3 := 0) rfl (by decide) ?_
              refine wi_iload_n (i := 2) (e := 0) (nx := 12) (r1 := 0) (r2 := 0) (r3 := 0) rfl rfl ?_
              refine wr_addL (92) (nx := 13) (r1 := 0) (r2 := 0) (r3 := 0) rfl (by decide) ?_
              refine wr_ia (k0 := 238) (a := 92) (f := 92) (x := h 238 92) (nx := 14) (r1 := 0) (r2 := 0) (r3 := 0) rfl (by decide) rfl (by omega) (by omega) (by decide) rfl ?_
              refine wi_ireturn (nx := 15) (r1 := 0) (r2 := 0) (r3 := 0) rfl rfl ?_
              refine wk_i ?_
              refine wi_icmp (cd := .ge) (nx := 71) (r1 := 73) (r2 := 0) (r3 := 0) rfl (by omega) (by omega) (fun (q28 : (h 238 92) ≤ (h 238 92)) => ?_) (fun (q28 : ¬ ((h 238 92) ≤ (h 238 92))) => by exfalso; omega)
              refine wr_iincL (i := 2) (n := 1) (v := 3) (4) ([(2, vi 4), (0, .ref 236), (1, vi 3)]) (nx := 76) (r1 := 0) (r2 := 0) (r3 := 0) rfl rfl (by decide) rfl ?_
              refine wi_goto (nx := 79) (r1 := 4) (r2 := 0) (r3 := 0) rfl ?_
              refine wp.lo (lo := [(0, .ref 236), (1, vi 3), (2, vi 4)]) ⟨rfl, rfl, rfl, trivial⟩ rfl ?_
              have cn29 : canL (h 238) 3 := ⟨(show (3 : Int) + 1 ≤ h 238 1 by omega), mlP.pos y8_0 (by omega)⟩
              exact I3 3 4 h ⟨rfl, (show (-1 ≤ 3 ∧ 3 ≤ 3) ∧ (0 ≤ 4 ∧ 4 ≤ 4) by omega), (laX.yes 3 (by decide) (by omega) cn29)⟩ (show ((4 : Int) + 1 - 4).toNat < ((4 : Int) + 1 - x2).toNat by omega)
        ·
          refine wi_iload_n (i := 2) (e := 3) (nx := 50) (r1 := 0) (r2 := 0) (r3 := 0) rfl rfl ?_
          refine wi_ireturn (nx := 51) (r1 := 0) (r2 := 0) (r3 := 0) rfl rfl ?_
          have cn26 : canL (h 238) 3 := ⟨(show (3 : Int) + 1 ≤ h 238 1 by omega), mlP.pos y8_0 (by omega)⟩
          exact k 3 (by omega) (laX.yes 3 (by decide) (by omega) cn26)
      ·
        refine wi_goto (nx := 25) (r1 := 73) (r2 := 0) (r3 := 0) rfl ?_
        refine wr_iincL (i := 2) (n := 1) (v := 3) (4) ([(2, vi 4), (0, .ref 236), (1, vi x1)]) (nx := 76) (r1 := 0) (r2 := 0) (r3 := 0) rfl rfl (by decide) rfl ?_
        refine wi_goto (nx := 79) (r1 := 4) (r2 := 0) (r3 := 0) rfl ?_
        refine wp.lo (lo := [(0, .ref 236), (1, vi x1), (2, vi 4)]) ⟨rfl, rfl, rfl, trivial⟩ rfl ?_
        have cn21 : ¬ canL (h 238) 3 := fun c => mlP.neg y8_0 (by omega) c.2
        exact I3 x1 4 h ⟨rfl, (show (-1 ≤ x1 ∧ x1 ≤ 3) ∧ (0 ≤ 4 ∧ 4 ≤ 4) by omega), (laX.no X3_0 (by omega) 3 (by omega) cn21)⟩ (show ((4 : Int) + 1 - 4).toNat < ((4 : Int) + 1 - x2).toNat by omega)
-- method 289: Model.nextStep()I
set_option maxRecDepth 100000 in
set_option maxHeartbeats 100000000 in
theorem ct_289_236 {L : Nat} {xs : Nat → Int32} {d b c : Nat} {h : hp} {cr : Nat → Nat → Option Nat} {Q : hp_Q} (hcr : CR cr)  (g : GI h)    (k : ∀ (z0 : Int), (-1 ≤ z0 ∧ z0 ≤ 3) → (nsP (h 238) z0) → Q (.inl (some (vi z0))) (hp_w h cr) b c) : wp (md_xa (L, xs)) (d + 3) 289 (0, [(0, .ref 236)], [], hp_w h cr, b, c) Q := by
  have F0 : FR [] h h := FR.refl
  refine wi_aload_n (i := 0) (x := 236) (nx := 1) (r1 := 0) (r2 := 0) (r3 := 0) rfl rfl ?_
  refine wr_V (k0 := 236) (rest := []) (as := [.ref 236]) (nx := 4) (r1 := 285) (r2 := 0) (r3 := 11) rfl rfl rfl (of_decide_eq_true rfl) rfl rfl (by decide) rfl rfl (of_decide_eq_true rfl) (of_decide_eq_true rfl) ?_
  refine wi_aload_n (i := 0) (x := 236) (nx := 1) (r1 := 0) (r2 := 0) (r3 := 0) rfl rfl ?_
  refine wr_gr (k0 := 236) (x := 238) (nx := 4) (r1 := 11) (r2 := 13) (r3 := 0) rfl rfl (by decide) rfl ⟨rfl, rfl⟩ rfl ?_
  refine wi_bipush (n := 102) (nx := 6) (r1 := 0) (r2 := 0) (r3 := 0) rfl (by decide) ?_
  have b1 := gi_b (lo := 0) (hi := 3) g 238 102 rfl
  refine wr_ia (k0 := 238) (a := 102) (f := 102) (x := h 238 102) (nx := 7) (r1 := 0) (r2 := 0) (r3 := 0) rfl (by decide) rfl (by omega) (by omega) (by decide) rfl ?_
  refine wi_if (cd := .le) (nx := 10) (r1 := 39) (r2 := 0) (r3 := 0) rfl (by omega) (fun (q2 : (h 238 102) ≤ 0) => ?_) (fun (q2 : ¬ ((h 238 102) ≤ 0)) => ?_)
  ·
    refine wi_iconst (n := 0) (nx := 40) (r1 := 0) (r2 := 0) (r3 := 0) rfl ?_
    refine wi_zreturn (nx := 41) (r1 := 0) (r2 := 0) (r3 := 0) rfl rfl (by omega) ?_
    refine wk_i ?_
    refine wi_if (cd := .eq) (nx := 7) (r1 := 24) (r2 := 0) (r3 := 0) rfl (by omega) (fun (q3 : 0 = 0) => ?_) (fun (q3 : ¬ (0 = 0)) => by exfalso; omega)
    refine wi_aload_n (i := 0) (x := 236) (nx := 25) (r1 := 0) (r2 := 0) (r3 := 0) rfl rfl ?_
    refine wr_gr (k0 := 236) (x := 238) (nx := 28) (r1 := 11) (r2 := 13) (r3 := 0) rfl rfl (by decide) rfl ⟨rfl, rfl⟩ rfl ?_
    refine wi_bipush (n := 73) (nx := 30) (r1 := 0) (r2 := 0) (r3 := 0) rfl (by decide) ?_
    have b4 := gi_b (lo := 0) (hi := 12) g 238 73 rfl
    refine wr_ia (k0 := 238) (a := 73) (f := 73) (x := h 238 73) (nx := 31) (r1 := 0) (r2 := 0) (r3 := 0) rfl (by decide) rfl (by omega) (by omega) (by decide) rfl ?_
    refine wi_aload_n (i := 0) (x := 236) (nx := 32) (r1 := 0) (r2 := 0) (r3 := 0) rfl rfl ?_
    refine wr_gr (k0 := 236) (x := 238) (nx := 35) (r1 := 11) (r2 := 13) (r3 := 0) rfl rfl (by decide) rfl ⟨rfl, rfl⟩ rfl ?_
    refine wi_iconst (n := 2) (nx := 36) (r1 := 0) (r2 := 0) (r3 := 0) rfl ?_
    have b5 := gi_b (lo := 0) (hi := 12) g 238 2 rfl
    refine wr_ia (k0 := 238) (a := 2) (f := 2) (x := h 238 2) (nx := 37) (r1 := 0) (r2 := 0) (r3 := 0) rfl (by decide) rfl (by omega) (by omega) (by decide) rfl ?_
    refine wi_icmp (cd := .ge) (nx := 40) (r1 := 57) (r2 := 0) (r3 := 0) rfl (by omega) (by omega) (fun (q6 : (h 238 2) ≤ (h 238 73)) => ?_) (fun (q6 : ¬ ((h 238 2) ≤ (h 238 73))) => ?_)
    ·
      refine wi_aload_n (i := 0) (x := 236) (nx := 58) (r1 := 0) (r2 := 0) (r3 := 0) rfl rfl ?_
      refine wr_V (k0 := 236) (rest := []) (as := [.ref 236]) (nx := 61) (r1 := 291) (r2 := 0) (r3 := 11) rfl rfl rfl (of_decide_eq_true rfl) rfl rfl (by decide) rfl rfl (of_decide_eq_true rfl) (of_decide_eq_true rfl) ?_
      refine ct_291_236 hcr  g    (fun z8  (fz8 : -1 ≤ z8 ∧ z8 ≤ 3) y7_0 => ?_)
      refine wk_i ?_
      refine wi_iconst (n := (-1)) (nx := 62) (r1 := 0) (r2 := 0) (r3 := 0) rfl ?_
      refine wi_icmp (cd := .eq) (nx := 65) (r1 := 67) (r2 := 0) (r3 := 0) rfl (by omega) (by omega) (fun (q9 : z8 = (-1)) => ?_) (fun (q9 : ¬ (z8 = (-1))) => ?_)
      ·
        refine wi_aload_n (i := 0) (x := 236) (nx := 68) (r1 := 0) (r2 := 0) (r3 := 0) rfl rfl ?_
        refine wr_gr (k0 := 236) (x := 238) (nx := 71) (r1 := 11) (r2 := 13) (r3 := 0) rfl rfl (by decide) rfl ⟨rfl, rfl⟩ rfl ?_
        refine wi_bipush (n := 102) (nx := 73) (r1 := 0) (r2 := 0) (r3 := 0) rfl (by decide) ?_
        refine wr_ia (k0 := 238) (a := 102) (f := 102) (x := h 238 102) (nx := 74) (r1 := 0) (r2 := 0) (r3 := 0) rfl (by decide) rfl (by omega) (by omega) (by decide) rfl ?_
        refine wi_if (cd := .le) (nx := 77) (r1 := 94) (r2 := 0) (r3 := 0) rfl (by omega) (fun (q10 : (h 238 102) ≤ 0) => ?_) (fun (q10 : ¬ ((h 238 102) ≤ 0)) => by exfalso; omega)
        refine wi_iconst (n := (-1)) (nx := 95) (r1 := 0) (r2 := 0) (r3 := 0) rfl ?_
        refine wi_ireturn (nx := 96) (r1 := 0) (r2 := 0) (r3 := 0) rfl rfl ?_
        have b11 := gi_b (lo := 0) (hi := 9999) g 238 67 rfl
        exact k (-1) (by omega) ⟨fun e => absurd e (by omega), fun e => absurd e (by omega), fun e => absurd e (by omega), fun e => absurd e (by omega)⟩
      ·
        refine wi_iconst (n := 2) (nx := 66) (r1 := 0) (r2 := 0) (r3 := 0) rfl ?_
        refine wi_ireturn (nx := 67) (r1 := 0) (r2 := 0) (r3 := 0) rfl rfl ?_
        have b10 := gi_b (lo := 0) (hi := 9999) g 238 67 rfl
        exact k 2 (by omega) ⟨fun e => absurd e (by omega), fun e => absurd e (by omega), fun _ => laP.ex y7_0 (by omega), fun e => absurd e (by omega)⟩
    ·
      refine wi_aload_n (i := 0) (x := 236) (nx := 41) (r1 := 0) (r2 := 0) (r3 := 0) rfl rfl ?_
      refine wi_aload_n (i := 0) (x := 236) (nx := 42) (r1 := 0) (r2 := 0) (r3 := 0) rfl rfl ?_
      refine wr_gr (k0 := 236) (x := 238) (nx := 45) (r1 := 11) (r2 := 13) (r3 := 0) rfl rfl (by decide) rfl ⟨rfl, rfl⟩ rfl ?_
      refine wi_bipush (n := 73) (nx := 47) (r1 := 0) (r2 := 0) (r3 := 0) rfl (by decide) ?_
      refine wr_ia (k0 := 238) (a := 73) (f := 73) (x := h 238 73) (nx := 48) (r1 := 0) (r2 := 0) (r3 := 0) rfl (by decide) rfl (by omega) (by omega) (by decide) rfl ?_
      refine wr_V (k0 := 236) (rest := []) (as := [.ref 236, vi (h 238 73)]) (nx := 51) (r1 := 290) (r2 := 1) (r3 := 11) rfl rfl rfl (of_decide_eq_true rfl) rfl rfl (by decide) rfl rfl (of_decide_eq_true rfl) (of_decide_eq_true rfl) ?_
      refine ct_290_236 hcr  g (h 238 73) (by omega)  (fun z8  (fz8 : -1 ≤ z8 ∧ z8 ≤ 3) y7_0 => ?_)
      refine wk_i ?_
      refine wi_iconst (n := (-1)) (nx := 52) (r1 := 0) (r2 := 0) (r3 := 0) rfl ?_
      refine wi_icmp (cd := .eq) (nx := 55) (r1 := 57) (r2 := 0) (r3 := 0) rfl (by omega) (by omega) (fun (q9 : z8 = (-1)) => ?_) (fun (q9 : ¬ (z8 = (-1))) => ?_)
      ·
        refine wi_aload_n (i := 0) (x := 236) (nx := 58) (r1 := 0) (r2 := 0) (r3 := 0) rfl rfl ?_
        refine wr_V (k0 := 236) (rest := []) (as := [.ref 236]) (nx := 61) (r1 := 291) (r2 := 0) (r3 := 11) rfl rfl rfl (of_decide_eq_true rfl) rfl rfl (by decide) rfl rfl (of_decide_eq_true rfl) (of_decide_eq_true rfl) ?_
        refine ct_291_236 hcr  g    (fun z11  (fz11 : -1 ≤ z11 ∧ z11 ≤ 3) y10_0 => ?_)
        refine wk_i ?_
        refine wi_iconst (n := (-1)) (nx := 62) (r1 := 0) (r2 := 0) (r3 := 0) rfl ?_
        refine wi_icmp (cd := .eq) (nx := 65) (r1 := 67) (r2 := 0) (r3 := 0) rfl (by omega) (by omega) (fun (q12 : z11 = (-1)) => ?_) (fun (q12 : ¬ (z11 = (-1))) => ?_)
        ·
          refine wi_aload_n (i := 0) (x := 236) (nx := 68) (r1 := 0) (r2 := 0) (r3 := 0) rfl rfl ?_
          refine wr_gr (k0 := 236) (x := 238) (nx := 71) (r1 := 11) (r2 := 13) (r3 := 0) rfl rfl (by decide) rfl ⟨rfl, rfl⟩ rfl ?_
          refine wi_bipush (n := 102) (nx := 73) (r1 := 0) (r2 := 0) (r3 := 0) rfl (by decide) ?_
          refine wr_ia (k0 := 238) (a := 102) (f := 102) (x := h 238 102) (nx := 74) (r1 := 0) (r2 := 0) (r3 := 0) rfl (by decide) rfl (by omega) (by omega) (by decide) rfl ?_
          refine wi_if (cd := .le) (nx := 77) (r1 := 94) (r2 := 0) (r3 := 0) rfl (by omega) (fun (q13 : (h 238 102) ≤ 0) => ?_) (fun (q13 : ¬ ((h 238 102) ≤ 0)) => by exfalso; omega)
          refine wi_iconst (n := (-1)) (nx := 95) (r1 := 0) (r2 := 0) (r3 := 0) rfl ?_
          refine wi_ireturn (nx := 96) (r1 := 0) (r2 := 0) (r3 := 0) rfl rfl ?_
          have b14 := gi_b (lo := 0) (hi := 9999) g 238 67 rfl
          exact k (-1) (by omega) ⟨fun e => absurd e (by omega), fun e => absurd e (by omega), fun e => absurd e (by omega), fun e => absurd e (by omega)⟩
        ·
          refine wi_iconst (n := 2) (nx := 66) (r1 := 0) (r2 := 0) (r3 := 0) rfl ?_
          refine wi_ireturn (nx := 67) (r1 := 0) (r2 := 0) (r3 := 0) rfl rfl ?_
          have b13 := gi_b (lo := 0) (hi := 9999) g 238 67 rfl
          exact k 2 (by omega) ⟨fun e => absurd e (by omega), fun e => absurd e (by omega), fun _ => laP.ex y10_0 (by omega), fun e => absurd e (by omega)⟩
      ·
        refine wi_iconst (n := 1) (nx := 56) (r1 := 0) (r2 := 0) (r3 := 0) rfl ?_
        refine wi_ireturn (nx := 57) (r1 := 0) (r2 := 0) (r3 := 0) rfl rfl ?_
        have b10 := gi_b (lo := 0) (hi := 9999) g 238 67 rfl
        exact k 1 (by omega) ⟨fun e => absurd e (by omega), fun _ => ⟨(show h 238 73 < h 238 2 by omega), laP.ex y7_0 (by omega)⟩, fun e => absurd e (by omega), fun e => absurd e (by omega)⟩
  ·
    refine wi_aload_n (i := 0) (x := 236) (nx := 11) (r1 := 0) (r2 := 0) (r3 := 0) rfl rfl ?_
    refine wr_gr (k0 := 236) (x := 238) (nx := 14) (r1 := 11) (r2 := 13) (r3 := 0) rfl rfl (by decide) rfl ⟨rfl, rfl⟩ rfl ?_
    refine wi_bipush (n := 67) (nx := 16) (r1 := 0) (r2 := 0) (r3 := 0) rfl (by decide) ?_
    have b3 := gi_b (lo := 0) (hi := 9999) g 238 67 rfl
    refine wr_ia (k0 := 238) (a := 67) (f := 67) (x := h 238 67) (nx := 17) (r1 := 0) (r2 := 0) (r3 := 0) rfl (by decide) rfl (by omega) (by omega) (by decide) rfl ?_
    refine wi_aload_n (i := 0) (x := 236) (nx := 18) (r1 := 0) (r2 := 0) (r3 := 0) rfl rfl ?_
    refine wr_gr (k0 := 236) (x := 238) (nx := 21) (r1 := 11) (r2 := 13) (r3 := 0) rfl rfl (by decide) rfl ⟨rfl, rfl⟩ rfl ?_
    refine wi_bipush (n := 55) (nx := 23) (r1 := 0) (r2 := 0) (r3 := 0) rfl (by decide) ?_
    refine wi_aload_n (i := 0) (x := 236) (nx := 24) (r1 := 0) (r2 := 0) (r3 := 0) rfl rfl ?_
    refine wr_gr (k0 := 236) (x := 238) (nx := 27) (r1 := 11) (r2 := 13) (r3 := 0) rfl rfl (by decide) rfl ⟨rfl, rfl⟩ rfl ?_
    refine wi_bipush (n := 103) (nx := 29) (r1 := 0) (r2 := 0) (r3 := 0) rfl (by decide) ?_
    have b4 := gi_b (lo := 0) (hi := 11) g 238 103 rfl
    refine wr_ia (k0 := 238) (a := 103) (f := 103) (x := h 238 103) (nx := 30) (r1 := 0) (r2 := 0) (r3 := 0) rfl (by decide) rfl (by omega) (by omega) (by decide) rfl ?_
    refine wr_add (nx := 31) (r1 := 0) (r2 := 0) (r3 := 0) rfl (fun e5 (fe5 : e5 = 55 + (h 238 103)) => ?_)
    obtain ⟨i6, ei6⟩ : ∃ q : Nat, e5 = (q : Int) := ⟨(e5).toNat, by omega⟩
    have b7 := gi_b (lo := 0) (hi := 20000) g 238 i6 (gi_rg 55 12 (fun _ => rfl) (by decide +kernel) (by omega))
    refine wr_ia (k0 := 238) (a := e5) (f := i6) (x := h 238 i6) (nx := 32) (r1 := 0) (r2 := 0) (r3 := 0) rfl (by decide) rfl (by omega) (by omega) (by decide) rfl ?_
    refine wi_icmp (cd := .lt) (nx := 35) (r1 := 39) (r2 := 0) (r3 := 0) rfl (by omega) (by omega) (fun (q8 : (h 238 67) < (h 238 i6)) => ?_) (fun (q8 : ¬ ((h 238 67) < (h 238 i6))) => ?_)
    ·
      refine wi_iconst (n := 0) (nx := 40) (r1 := 0) (r2 := 0) (r3 := 0) rfl ?_
      refine wi_zreturn (nx := 41) (r1 := 0) (r2 := 0) (r3 := 0) rfl rfl (by omega) ?_
      refine wk_i ?_
      refine wi_if (cd := .eq) (nx := 7) (r1 := 24) (r2 := 0) (r3 := 0) rfl (by omega) (fun (q9 : 0 = 0) => ?_) (fun (q9 : ¬ (0 = 0)) => by exfalso; omega)
      refine wi_aload_n (i := 0) (x := 236) (nx := 25) (r1 := 0) (r2 := 0) (r3 := 0) rfl rfl ?_
      refine wr_gr (k0 := 236) (x := 238) (nx := 28) (r1 := 11) (r2 := 13) (r3 := 0) rfl rfl (by decide) rfl ⟨rfl, rfl⟩ rfl ?_
      refine wi_bipush (n := 73) (nx := 30) (r1 := 0) (r2 := 0) (r3 := 0) rfl (by decide) ?_
      have b10 := gi_b (lo := 0) (hi := 12) g 238 73 rfl
      refine wr_ia (k0 := 238) (a := 73) (f := 73) (x := h 238 73) (nx := 31) (r1 := 0) (r2 := 0) (r3 := 0) rfl (by decide) rfl (by omega) (by omega) (by decide) rfl ?_
      refine wi_aload_n (i := 0) (x := 236) (nx := 32) (r1 := 0) (r2 := 0) (r3 := 0) rfl rfl ?_
      refine wr_gr (k0 := 236) (x := 238) (nx := 35) (r1 := 11) (r2 := 13) (r3 := 0) rfl rfl (by decide) rfl ⟨rfl, rfl⟩ rfl ?_
      refine wi_iconst (n := 2) (nx := 36) (r1 := 0) (r2 := 0) (r3 := 0) rfl ?_
      have b11 := gi_b (lo := 0) (hi := 12) g 238 2 rfl
      refine wr_ia (k0 := 238) (a := 2) (f := 2) (x := h 238 2) (nx := 37) (r1 := 0) (r2 := 0) (r3 := 0) rfl (by decide) rfl (by omega) (by omega) (by decide) rfl ?_
      refine wi_icmp (cd := .ge) (nx := 40) (r1 := 57) (r2 := 0) (r3 := 0) rfl (by omega) (by omega) (fun (q12 : (h 238 2) ≤ (h 238 73)) => ?_) (fun (q12 : ¬ ((h 238 2) ≤ (h 238 73))) => ?_)
      ·
        refine wi_aload_n (i := 0) (x := 236) (nx := 58) (r1 := 0) (r2 := 0) (r3 := 0) rfl rfl ?_
        refine wr_V (k0 := 236) (rest := []) (as := [.ref 236]) (nx := 61) (r1 := 291) (r2 := 0) (r3 := 11) rfl rfl rfl (of_decide_eq_true rfl) rfl rfl (by decide) rfl rfl (of_decide_eq_true rfl) (of_decide_eq_true rfl) ?_
        refine ct_291_236 hcr  g    (fun z14  (fz14 : -1 ≤ z14 ∧ z14 ≤ 3) y13_0 => ?_)
        refine wk_i ?_
        refine wi_iconst (n := (-1)) (nx := 62) (r1 := 0) (r2 := 0) (r3 := 0) rfl ?_
        refine wi_icmp (cd := .eq) (nx := 65) (r1 := 67) (r2 := 0) (r3 := 0) rfl (by omega) (by omega) (fun (q15 : z14 = (-1)) => ?_) (fun (q15 : ¬ (z14 = (-1))) => ?_)
        ·
          refine wi_aload_n (i := 0) (x := 236) (nx := 68) (r1 := 0) (r2 := 0) (r3 := 0) rfl rfl ?_
          refine wr_gr (k0 := 236) (x := 238) (nx := 71) (r1 := 11) (r2 := 13) (r3 := 0) rfl rfl (by decide) rfl ⟨rfl, rfl⟩ rfl ?_
          refine wi_bipush (n := 102) (nx := 73) (r1 := 0) (r2 := 0) (r3 := 0) rfl (by decide) ?_
          refine wr_ia (k0 := 238) (a := 102) (f := 102) (x := h 238 102) (nx := 74) (r1 := 0) (r2 := 0) (r3 := 0) rfl (by decide) rfl (by omega) (by omega) (by decide) rfl ?_
          refine wi_if (cd := .le) (nx := 77) (r1 := 94) (r2 := 0) (r3 := 0) rfl (by omega) (fun (q16 : (h 238 102) ≤ 0) => by exfalso; omega) (fun (q16 : ¬ ((h 238 102) ≤ 0)) => ?_)
          refine wi_aload_n (i := 0) (x := 236) (nx := 78) (r1 := 0) (r2 := 0) (r3 := 0) rfl rfl ?_
          refine wr_gr (k0 := 236) (x := 238) (nx := 81) (r1 := 11) (r2 := 13) (r3 := 0) rfl rfl (by decide) rfl ⟨rfl, rfl⟩ rfl ?_
          refine wi_bipush (n := 67) (nx := 83) (r1 := 0) (r2 := 0) (r3 := 0) rfl (by decide) ?_
          refine wr_ia (k0 := 238) (a := 67) (f := 67) (x := h 238 67) (nx := 84) (r1 := 0) (r2 := 0) (r3 := 0) rfl (by decide) rfl (by omega) (by omega) (by decide) rfl ?_
          refine wi_sipush (n := 9999) (nx := 87) (r1 := 0) (r2 := 0) (r3 := 0) rfl (by decide) ?_
          refine wi_icmp (cd := .ge) (nx := 90) (r1 := 94) (r2 := 0) (r3 := 0) rfl (by omega) (by omega) (fun (q17 : 9999 ≤ (h 238 67)) => ?_) (fun (q17 : ¬ (9999 ≤ (h 238 67))) => ?_)
          ·
            refine wi_iconst (n := (-1)) (nx := 95) (r1 := 0) (r2 := 0) (r3 := 0) rfl ?_
            refine wi_ireturn (nx := 96) (r1 := 0) (r2 := 0) (r3 := 0) rfl rfl ?_
            exact k (-1) (by omega) ⟨fun e => absurd e (by omega), fun e => absurd e (by omega), fun e => absurd e (by omega), fun e => absurd e (by omega)⟩
          ·
            refine wi_iconst (n := 3) (nx := 91) (r1 := 0) (r2 := 0) (r3 := 0) rfl ?_
            refine wi_goto (nx := 94) (r1 := 95) (r2 := 0) (r3 := 0) rfl ?_
            refine wi_ireturn (nx := 96) (r1 := 0) (r2 := 0) (r3 := 0) rfl rfl ?_
            exact k 3 (by omega) ⟨fun e => absurd e (by omega), fun e => absurd e (by omega), fun e => absurd e (by omega), fun _ => (show h 238 67 ≤ 9998 by omega)⟩
        ·
          refine wi_iconst (n := 2) (nx := 66) (r1 := 0) (r2 := 0) (r3 := 0) rfl ?_
          refine wi_ireturn (nx := 67) (r1 := 0) (r2 := 0) (r3 := 0) rfl rfl ?_
          exact k 2 (by omega) ⟨fun e => absurd e (by omega), fun e => absurd e (by omega), fun _ => laP.ex y13_0 (by omega), fun e => absurd e (by omega)⟩
      ·
        refine wi_aload_n (i := 0) (x := 236) (nx := 41) (r1 := 0) (r2 := 0) (r3 := 0) rfl rfl ?_
        refine wi_aload_n (i := 0) (x := 236) (nx := 42) (r1 := 0) (r2 := 0) (r3 := 0) rfl rfl ?_
        refine wr_gr (k0 := 236) (x := 238) (nx := 45) (r1 := 11) (r2 := 13) (r3 := 0) rfl rfl (by decide) rfl ⟨rfl, rfl⟩ rfl ?_
        refine wi_bipush (n := 73) (nx := 47) (r1 := 0) (r2 := 0) (r3 := 0) rfl (by decide) ?_
        refine wr_ia (k0 := 238) (a := 73) (f := 73) (x := h 238 73) (nx := 48) (r1 := 0) (r2 := 0) (r3 := 0) rfl (by decide) rfl (by omega) (by omega) (by decide) rfl ?_
        refine wr_V (k0 := 236) (rest := []) (as := [.ref 236, vi (h 238 73)]) (nx := 51) (r1 := 290) (r2 := 1) (r3 := 11) rfl rfl rfl (of_decide_eq_true rfl) rfl rfl (by decide) rfl rfl (of_decide_eq_true rfl) (of_decide_eq_true rfl) ?_
        refine ct_290_236 hcr  g (h 238 73) (by omega)  (fun z14  (fz14 : -1 ≤ z14 ∧ z14 ≤ 3) y13_0 => ?_)
        refine wk_i ?_
        refine wi_iconst (n := (-1)) (nx := 52) (r1 := 0) (r2 := 0) (r3 := 0) rfl ?_
        refine wi_icmp (cd := .eq) (nx := 55) (r1 := 57) (r2 := 0) (r3 := 0) rfl (by omega) (by omega) (fun (q15 : z14 = (-1)) => ?_) (fun (q15 : ¬ (z14 = (-1))) => ?_)
        ·
          refine wi_aload_n (i := 0) (x := 236) (nx := 58) (r1 := 0) (r2 := 0) (r3 := 0) rfl rfl ?_
          refine wr_V (k0 := 236) (rest := []) (as := [.ref 236]) (nx := 61) (r1 := 291) (r2 := 0) (r3 := 11) rfl rfl rfl (of_decide_eq_true rfl) rfl rfl (by decide) rfl rfl (of_decide_eq_true rfl) (of_decide_eq_true rfl) ?_
          refine ct_291_236 hcr  g    (fun z17  (fz17 : -1 ≤ z17 ∧ z17 ≤ 3) y16_0 => ?_)
          refine wk_i ?_
          refine wi_iconst (n := (-1)) (nx := 62) (r1 := 0) (r2 := 0) (r3 := 0) rfl ?_
          refine wi_icmp (cd := .eq) (nx := 65) (r1 := 67) (r2 := 0) (r3 := 0) rfl (by omega) (by omega) (fun (q18 : z17 = (-1)) => ?_) (fun (q18 : ¬ (z17 = (-1))) => ?_)
          ·
            refine wi_aload_n (i := 0) (x := 236) (nx := 68) (r1 := 0) (r2 := 0) (r3 := 0) rfl rfl ?_
            refine wr_gr (k0 := 236) (x := 238) (nx := 71) (r1 := 11) (r2 := 13) (r3 := 0) rfl rfl (by decide) rfl ⟨rfl, rfl⟩ rfl ?_
            refine wi_bipush (n := 102) (nx := 73) (r1 := 0) (r2 := 0) (r3 := 0) rfl (by decide) ?_
            refine wr_ia (k0 := 238) (a := 102) (f := 102) (x := h 238 102) (nx := 74) (r1 := 0) (r2 := 0) (r3 := 0) rfl (by decide) rfl (by omega) (by omega) (by decide) rfl ?_
            refine wi_if (cd := .le) (nx := 77) (r1 := 94) (r2 := 0) (r3 := 0) rfl (by omega) (fun (q19 : (h 238 102) ≤ 0) => by exfalso; omega) (fun (q19 : ¬ ((h 238 102) ≤ 0)) => ?_)
            refine wi_aload_n (i := 0) (x := 236) (nx := 78) (r1 := 0) (r2 := 0) (r3 := 0) rfl rfl ?_
            refine wr_gr (k0 := 236) (x := 238) (nx := 81) (r1 := 11) (r2 := 13) (r3 := 0) rfl rfl (by decide) rfl ⟨rfl, rfl⟩ rfl ?_
            refine wi_bipush (n := 67) (nx := 83) (r1 := 0) (r2 := 0) (r3 := 0) rfl (by decide) ?_
            refine wr_ia (k0 := 238) (a := 67) (f := 67) (x := h 238 67) (nx := 84) (r1 := 0) (r2 := 0) (r3 := 0) rfl (by decide) rfl (by omega) (by omega) (by decide) rfl ?_
            refine wi_sipush (n := 9999) (nx := 87) (r1 := 0) (r2 := 0) (r3 := 0) rfl (by decide) ?_
            refine wi_icmp (cd := .ge) (nx := 90) (r1 := 94) (r2 := 0) (r3 := 0) rfl (by omega) (by omega) (fun (q20 : 9999 ≤ (h 238 67)) => ?_) (fun (q20 : ¬ (9999 ≤ (h 238 67))) => ?_)
            ·
              refine wi_iconst (n := (-1)) (nx := 95) (r1 := 0) (r2 := 0) (r3 := 0) rfl ?_
              refine wi_ireturn (nx := 96) (r1 := 0) (r2 := 0) (r3 := 0) rfl rfl ?_
              exact k (-1) (by omega) ⟨fun e => absurd e (by omega), fun e => absurd e (by omega), fun e => absurd e (by omega), fun e => absurd e (by omega)⟩
            ·
              refine wi_iconst (n := 3) (nx := 91) (r1 := 0) (r2 := 0) (r3 := 0) rfl ?_
              refine wi_goto (nx := 94) (r1 := 95) (r2 := 0) (r3 := 0) rfl ?_
              refine wi_ireturn (nx := 96) (r1 := 0) (r2 := 0) (r3 := 0) rfl rfl ?_
              exact k 3 (by omega) ⟨fun e => absurd e (by omega), fun e => absurd e (by omega), fun e => absurd e (by omega), fun _ => (show h 238 67 ≤ 9998 by omega)⟩
          ·
            refine wi_iconst (n := 2) (nx := 66) (r1 := 0) (r2 := 0) (r3 := 0) rfl ?_
            refine wi_ireturn (nx := 67) (r1 := 0) (r2 := 0) (r3 := 0) rfl rfl ?_
            exact k 2 (by omega) ⟨fun e => absurd e (by omega), fun e => absurd e (by omega), fun _ => laP.ex y16_0 (by omega), fun e => absurd e (by omega)⟩
        ·
          refine wi_iconst (n := 1) (nx := 56) (r1 := 0) (r2 := 0) (r3 := 0) rfl ?_
          refine wi_ireturn (nx := 57) (r1 := 0) (r2 := 0) (r3 := 0) rfl rfl ?_
          exact k 1 (by omega) ⟨fun e => absurd e (by omega), fun _ => ⟨(show h 238 73 < h 238 2 by omega), laP.ex y13_0 (by omega)⟩, fun e => absurd e (by omega), fun e => absurd e (by omega)⟩
    ·
      refine wi_iconst (n := 1) (nx := 36) (r1 := 0) (r2 := 0) (r3 := 0) rfl ?_
      refine wi_goto (nx := 39) (r1 := 40) (r2 := 0) (r3 := 0) rfl ?_
      refine wi_zreturn (nx := 41) (r1 := 0) (r2 := 0) (r3 := 0) rfl rfl (by omega) ?_
      refine wk_i ?_
      refine wi_if (cd := .eq) (nx := 7) (r1 := 24) (r2 := 0) (r3 := 0) rfl (by omega) (fun (q9 : 1 = 0) => by exfalso; omega) (fun (q9 : ¬ (1 = 0)) => ?_)
      refine wi_aload_n (i := 0) (x := 236) (nx := 8) (r1 := 0) (r2 := 0) (r3 := 0) rfl rfl ?_
      refine wi_aload_n (i := 0) (x := 236) (nx := 9) (r1 := 0) (r2 := 0) (r3 := 0) rfl rfl ?_
      refine wr_gr (k0 := 236) (x := 238) (nx := 12) (r1 := 11) (r2 := 13) (r3 := 0) rfl rfl (by decide) rfl ⟨rfl, rfl⟩ rfl ?_
      refine wi_bipush (n := 103) (nx := 14) (r1 := 0) (r2 := 0) (r3 := 0) rfl (by decide) ?_
      refine wr_ia (k0 := 238) (a := 103) (f := 103) (x := h 238 103) (nx := 15) (r1 := 0) (r2 := 0) (r3 := 0) rfl (by decide) rfl (by omega) (by omega) (by decide) rfl ?_
      refine wr_V (k0 := 236) (rest := []) (as := [.ref 236, vi (h 238 103)]) (nx := 18) (r1 := 290) (r2 := 1) (r3 := 11) rfl rfl rfl (of_decide_eq_true rfl) rfl rfl (by decide) rfl rfl (of_decide_eq_true rfl) (of_decide_eq_true rfl) ?_
      refine ct_290_236 hcr  g (h 238 103) (by omega)  (fun z11  (fz11 : -1 ≤ z11 ∧ z11 ≤ 3) y10_0 => ?_)
      refine wk_i ?_
      refine wi_iconst (n := (-1)) (nx := 19) (r1 := 0) (r2 := 0) (r3 := 0) rfl ?_
      refine wi_icmp (cd := .eq) (nx := 22) (r1 := 24) (r2 := 0) (r3 := 0) rfl (by omega) (by omega) (fun (q12 : z11 = (-1)) => ?_) (fun (q12 : ¬ (z11 = (-1))) => ?_)
      ·
        refine wi_aload_n (i := 0) (x := 236) (nx := 25) (r1 := 0) (r2 := 0) (r3 := 0) rfl rfl ?_
        refine wr_gr (k0 := 236) (x := 238) (nx := 28) (r1 := 11) (r2 := 13) (r3 := 0) rfl rfl (by decide) rfl ⟨rfl, rfl⟩ rfl ?_
        refine wi_bipush (n := 73) (nx := 30) (r1 := 0) (r2 := 0) (r3 := 0) rfl (by decide) ?_
        have b13 := gi_b (lo := 0) (hi := 12) g 238 73 rfl
        refine wr_ia (k0 := 238) (a := 73) (f := 73) (x := h 238 73) (nx := 31) (r1 := 0) (r2 := 0) (r3 := 0) rfl (by decide) rfl (by omega) (by omega) (by decide) rfl ?_
        refine wi_aload_n (i := 0) (x := 236) (nx := 32) (r1 := 0) (r2 := 0) (r3 := 0) rfl rfl ?_
        refine wr_gr (k0 := 236) (x := 238) (nx := 35) (r1 := 11) (r2 := 13) (r3 := 0) rfl rfl (by decide) rfl ⟨rfl, rfl⟩ rfl ?_
        refine wi_iconst (n := 2) (nx := 36) (r1 := 0) (r2 := 0) (r3 := 0) rfl ?_
        have b14 := gi_b (lo := 0) (hi := 12) g 238 2 rfl
        refine wr_ia (k0 := 238) (a := 2) (f := 2) (x := h 238 2) (nx := 37) (r1 := 0) (r2 := 0) (r3 := 0) rfl (by decide) rfl (by omega) (by omega) (by decide) rfl ?_
        refine wi_icmp (cd := .ge) (nx := 40) (r1 := 57) (r2 := 0) (r3 := 0) rfl (by omega) (by omega) (fun (q15 : (h 238 2) ≤ (h 238 73)) => ?_) (fun (q15 : ¬ ((h 238 2) ≤ (h 238 73))) => ?_)
        ·
          refine wi_aload_n (i := 0) (x := 236) (nx := 58) (r1 := 0) (r2 := 0) (r3 := 0) rfl rfl ?_
          refine wr_V (k0 := 236) (rest := []) (as := [.ref 236]) (nx := 61) (r1 := 291) (r2 := 0) (r3 := 11) rfl rfl rfl (of_decide_eq_true rfl) rfl rfl (by decide) rfl rfl (of_decide_eq_true rfl) (of_decide_eq_true rfl) ?_
          refine ct_291_236 hcr  g    (fun z17  (fz17 : -1 ≤ z17 ∧ z17 ≤ 3) y16_0 => ?_)
          refine wk_i ?_
          refine wi_iconst (n := (-1)) (nx := 62) (r1 := 0) (r2 := 0) (r3 := 0) rfl ?_
          refine wi_icmp (cd := .eq) (nx := 65) (r1 := 67) (r2 := 0) (r3 := 0) rfl (by omega) (by omega) (fun (q18 : z17 = (-1)) => ?_) (fun (q18 : ¬ (z17 = (-1))) => ?_)
          ·
            refine wi_aload_n (i := 0) (x := 236) (nx := 68) (r1 := 0) (r2 := 0) (r3 := 0) rfl rfl ?_
            refine wr_gr (k0 := 236) (x := 238) (nx := 71) (r1 := 11) (r2 := 13) (r3 := 0) rfl rfl (by decide) rfl ⟨rfl, rfl⟩ rfl ?_
            refine wi_bipush (n := 102) (nx := 73) (r1 := 0) (r2 := 0) (r3 := 0) rfl (by decide) ?_
            refine wr_ia (k0 := 238) (a := 102) (f := 102) (x := h 238 102) (nx := 74) (r1 := 0) (r2 := 0) (r3 := 0) rfl (by decide) rfl (by omega) (by omega) (by decide) rfl ?_
            refine wi_if (cd := .le) (nx := 77) (r1 := 94) (r2 := 0) (r3 := 0) rfl (by omega) (fun (q19 : (h 238 102) ≤ 0) => by exfalso; omega) (fun (q19 : ¬ ((h 238 102) ≤ 0)) => ?_)
            refine wi_aload_n (i := 0) (x := 236) (nx := 78) (r1 := 0) (r2 := 0) (r3 := 0) rfl rfl ?_
            refine wr_gr (k0 := 236) (x := 238) (nx := 81) (r1 := 11) (r2 := 13) (r3 := 0) rfl rfl (by decide) rfl ⟨rfl, rfl⟩ rfl ?_
            refine wi_bipush (n := 67) (nx := 83) (r1 := 0) (r2 := 0) (r3 := 0) rfl (by decide) ?_
            refine wr_ia (k0 := 238) (a := 67) (f := 67) (x := h 238 67) (nx := 84) (r1 := 0) (r2 := 0) (r3 := 0) rfl (by decide) rfl (by omega) (by omega) (by decide) rfl ?_
            refine wi_sipush (n := 9999) (nx := 87) (r1 := 0) (r2 := 0) (r3 := 0) rfl (by decide) ?_
            refine wi_icmp (cd := .ge) (nx := 90) (r1 := 94) (r2 := 0) (r3 := 0) rfl (by omega) (by omega) (fun (q20 : 9999 ≤ (h 238 67)) => ?_) (fun (q20 : ¬ (9999 ≤ (h 238 67))) => ?_)
            ·
              refine wi_iconst (n := (-1)) (nx := 95) (r1 := 0) (r2 := 0) (r3 := 0) rfl ?_
              refine wi_ireturn (nx := 96) (r1 := 0) (r2 := 0) (r3 := 0) rfl rfl ?_
              exact k (-1) (by omega) ⟨fun e => absurd e (by omega), fun e => absurd e (by omega), fun e => absurd e (by omega), fun e => absurd e (by omega)⟩
            ·
              refine wi_iconst (n := 3) (nx := 91) (r1 := 0) (r2 := 0) (r3 := 0) rfl ?_
              refine wi_goto (nx := 94) (r1 := 95) (r2 := 0) (r3 := 0) rfl ?_
              refine wi_ireturn (nx := 96) (r1 := 0) (r2 := 0) (r3 := 0) rfl rfl ?_
              exact k 3 (by omega) ⟨fun e => absurd e (by omega), fun e => absurd e (by omega), fun e => absurd e (by omega), fun _ => (show h 238 67 ≤ 9998 by omega)⟩
          ·
            refine wi_iconst (n := 2) (nx := 66) (r1 := 0) (r2 := 0) (r3 := 0) rfl ?_
            refine wi_ireturn (nx := 67) (r1 := 0) (r2 := 0) (r3 := 0) rfl rfl ?_
            exact k 2 (by omega) ⟨fun e => absurd e (by omega), fun e => absurd e (by omega), fun _ => laP.ex y16_0 (by omega), fun e => absurd e (by omega)⟩
        ·
          refine wi_aload_n (i := 0) (x := 236) (nx := 41) (r1 := 0) (r2 := 0) (r3 := 0) rfl rfl ?_
          refine wi_aload_n (i := 0) (x := 236) (nx := 42) (r1 := 0) (r2 := 0) (r3 := 0) rfl rfl ?_
          refine wr_gr (k0 := 236) (x := 238) (nx := 45) (r1 := 11) (r2 := 13) (r3 := 0) rfl rfl (by decide) rfl ⟨rfl, rfl⟩ rfl ?_
          refine wi_bipush (n := 73) (nx := 47) (r1 := 0) (r2 := 0) (r3 := 0) rfl (by decide) ?_
          refine wr_ia (k0 := 238) (a := 73) (f := 73) (x := h 238 73) (nx := 48) (r1 := 0) (r2 := 0) (r3 := 0) rfl (by decide) rfl (by omega) (by omega) (by decide) rfl ?_
          refine wr_V (k0 := 236) (rest := []) (as := [.ref 236, vi (h 238 73)]) (nx := 51) (r1 := 290) (r2 := 1) (r3 := 11) rfl rfl rfl (of_decide_eq_true rfl) rfl rfl (by decide) rfl rfl (of_decide_eq_true rfl) (of_decide_eq_true rfl) ?_
          refine ct_290_236 hcr  g (h 238 73) (by omega)  (fun z17  (fz17 : -1 ≤ z17 ∧ z17 ≤ 3) y16_0 => ?_)
          refine wk_i ?_
          refine wi_iconst (n := (-1)) (nx := 52) (r1 := 0) (r2 := 0) (r3 := 0) rfl ?_
          refine wi_icmp (cd := .eq) (nx := 55) (r1 := 57) (r2 := 0) (r3 := 0) rfl (by omega) (by omega) (fun (q18 : z17 = (-1)) => ?_) (fun (q18 : ¬ (z17 = (-1))) => ?_)
          ·
            refine wi_aload_n (i := 0) (x := 236) (nx := 58) (r1 := 0) (r2 := 0) (r3 := 0) rfl rfl ?_
            refine wr_V (k0 := 236) (rest := []) (as := [.ref 236]) (nx := 61) (r1 := 291) (r2 := 0) (r3 := 11) rfl rfl rfl (of_decide_eq_true rfl) rfl rfl (by decide) rfl rfl (of_decide_eq_true rfl) (of_decide_eq_true rfl) ?_
            refine ct_291_236 hcr  g    (fun z20  (fz20 : -1 ≤ z20 ∧ z20 ≤ 3) y19_0 => ?_)
            refine wk_i ?_
            refine wi_iconst (n := (-1)) (nx := 62) (r1 := 0) (r2 := 0) (r3 := 0) rfl ?_
            refine wi_icmp (cd := .eq) (nx := 65) (r1 := 67) (r2 := 0) (r3 := 0) rfl (by omega) (by omega) (fun (q21 : z20 = (-1)) => ?_) (fun (q21 : ¬ (z20 = (-1))) => ?_)
            ·
              refine wi_aload_n (i := 0) (x := 236) (nx := 68) (r1 := 0) (r2 := 0) (r3 := 0) rfl rfl ?_
              refine wr_gr (k0 := 236) (x := 238) (nx := 71) (r1 := 11) (r2 := 13) (r3 := 0) rfl rfl (by decide) rfl ⟨rfl, rfl⟩ rfl ?_
              refine wi_bipush (n := 102) (nx := 73) (r1 := 0) (r2 := 0) (r3 := 0) rfl (by decide) ?_
              refine wr_ia (k0 := 238) (a := 102) (f := 102) (x := h 238 102) (nx := 74) (r1 := 0) (r2 := 0) (r3 := 0) rfl (by decide) rfl (by omega) (by omega) (by decide) rfl ?_
              refine wi_if (cd := .le) (nx := 77) (r1 := 94) (r2 := 0) (r3 := 0) rfl (by omega) (fun (q22 : (h 238 102) ≤ 0) => by exfalso; omega) (fun (q22 : ¬ ((h 238 102) ≤ 0)) => ?_)
              refine wi_aload_n (i := 0) (x := 236) (nx := 78) (r1 := 0) (r2 := 0) (r3 := 0) rfl rfl ?_
              refine wr_gr (k0 := 236) (x := 238) (nx := 81) (r1 := 11) (r2 := 13) (r3 := 0) rfl rfl (by decide) rfl ⟨rfl, rfl⟩ rfl ?_
              refine wi_bipush (n := 67) (nx := 83) (r1 := 0) (r2 := 0) (r3 := 0) rfl (by decide) ?_
              refine wr_ia (k0 := 238) (a := 67) (f := 67) (x := h 238 67) (nx := 84) (r1 := 0) (r2 := 0) (r3 := 0) rfl (by decide) rfl (by omega) (by omega) (by decide) rfl ?_
              refine wi_sipush (n := 9999) (nx := 87) (r1 := 0) (r2 := 0) (r3 := 0) rfl (by decide) ?_
              refine wi_icmp (cd := .ge) (nx := 90) (r1 := 94) (r2 := 0) (r3 := 0) rfl (by omega) (by omega) (fun (q23 : 9999 ≤ (h 238 67)) => ?_) (fun (q23 : ¬ (9999 ≤ (h 238 67))) => ?_)
              ·
                refine wi_iconst (n := (-1)) (nx := 95) (r1 := 0) (r2 := 0) (r3 := 0) rfl ?_
                refine wi_ireturn (nx := 96) (r1 := 0) (r2 := 0) (r3 := 0) rfl rfl ?_
                exact k (-1) (by omega) ⟨fun e => absurd e (by omega), fun e => absurd e (by omega), fun e => absurd e (by omega), fun e => absurd e (by omega)⟩
              ·
                refine wi_iconst (n := 3) (nx := 91) (r1 := 0) (r2 := 0) (r3 := 0) rfl ?_
                refine wi_goto (nx := 94) (r1 := 95) (r2 := 0) (r3 := 0) rfl ?_
                refine wi_ireturn (nx := 96) (r1 := 0) (r2 := 0) (r3 := 0) rfl rfl ?_
                exact k 3 (by omega) ⟨fun e => absurd e (by omega), fun e => absurd e (by omega), fun e => absurd e (by omega), fun _ => (show h 238 67 ≤ 9998 by omega)⟩
            ·
              refine wi_iconst (n := 2) (nx := 66) (r1 := 0) (r2 := 0) (r3 := 0) rfl ?_
              refine wi_ireturn (nx := 67) (r1 := 0) (r2 := 0) (r3 := 0) rfl rfl ?_
              exact k 2 (by omega) ⟨fun e => absurd e (by omega), fun e => absurd e (by omega), fun _ => laP.ex y19_0 (by omega), fun e => absurd e (by omega)⟩
          ·
            refine wi_iconst (n := 1) (nx := 56) (r1 := 0) (r2 := 0) (r3 := 0) rfl ?_
            refine wi_ireturn (nx := 57) (r1 := 0) (r2 := 0) (r3 := 0) rfl rfl ?_
            exact k 1 (by omega) ⟨fun e => absurd e (by omega), fun _ => ⟨(show h 238 73 < h 238 2 by omega), laP.ex y16_0 (by omega)⟩, fun e => absurd e (by omega), fun e => absurd e (by omega)⟩
      ·
        refine wi_iconst (n := 0) (nx := 23) (r1 := 0) (r2 := 0) (r3 := 0) rfl ?_
        refine wi_ireturn (nx := 24) (r1 := 0) (r2 := 0) (r3 := 0) rfl rfl ?_
        have b13 := gi_b (lo := 0) (hi := 12) g 238 73 rfl
        have b14 := gi_b (lo := 0) (hi := 12) g 238 2 rfl
        exact k 0 (by omega) ⟨fun _ => ⟨(show 1 ≤ h 238 102 by omega), laP.ex y10_0 (by omega)⟩, fun e => absurd e (by omega), fun e => absurd e (by omega), fun e => absurd e (by omega)⟩
-- method 292: Model.steps()I
set_option maxRecDepth 100000 in
set_option maxHeartbeats 100000000 in
theorem ct_292_236 {L : Nat} {xs : Nat → Int32} {d b c : Nat} {h : hp} {cr : Nat → Nat → Option Nat} {Q : hp_Q} (hcr : CR cr)  (g : GI h)   (pp0 : h 238 98 + h 238 99 + h 238 100 + h 238 101 + h 238 102 + h 238 106 = h 238 73) (pp1 : h 238 73 ≤ h 238 2) (pp2 : h 238 119 ≤ h 238 67) (pp3 : h 238 69 ≤ h 238 5) (pp4 : h 238 2 ≤ 12 * h 238 5) (k : ∀ (h2 : hp) (z0 : Int) , GI h2 → FR [(236, 236, some (28, 28)), (238, 238, some (43, 54)), (238, 238, some (55, 66)), (238, 238, some (67, 67)), (238, 238, some (68, 68)), (238, 238, some (69, 69)), (238, 238, some (70, 70)), (238, 238, some (71, 71)), (238, 238, some (72, 72)), (238, 238, some (73, 73)), (238, 238, some (74, 79)), (238, 238, some (80, 85)), (238, 238, some (86, 91)), (238, 238, some (92, 97)), (238, 238, some (98, 98)), (238, 238, some (99, 99)), (238, 238, some (100, 100)), (238, 238, some (101, 101)), (238, 238, some (102, 102)), (238, 238, some (103, 105)), (238, 238, some (106, 106)), (238, 238, some (107, 118)), (238, 238, some (119, 119)), (238, 238, some (120, 196)), (238, 238, some (121, 197)), (238, 238, some (122, 198)), (238, 238, some (123, 199))] h h2 → (-1 ≤ z0 ∧ z0 ≤ 3) → (h2 238 98 + h2 238 99 + h2 238 100 + h2 238 101 + h2 238 102 + h2 238 106 = h2 238 73) → (h2 238 73 ≤ h2 238 2) → (h2 238 119 ≤ h2 238 67) → (h2 238 69 ≤ h2 238 5) → (h2 238 2 ≤ 12 * h2 238 5) → Q (.inl (some (vi z0))) (hp_w h2 cr) b c) : wp (md_xa (L, xs)) (d + 4) 292 (0, [(0, .ref 236)], [], hp_w h cr, b, c) Q := by
  have F0 : FR [(236, 236, some (28, 28)), (238, 238, some (43, 54)), (238, 238, some (55, 66)), (238, 238, some (67, 67)), (238, 238, some (68, 68)), (238, 238, some (69, 69)), (238, 238, some (70, 70)), (238, 238, some (71, 71)), (238, 238, some (72, 72)), (238, 238, some (73, 73)), (238, 238, some (74, 79)), (238, 238, some (80, 85)), (238, 238, some (86, 91)), (238, 238, some (92, 97)), (238, 238, some (98, 98)), (238, 238, some (99, 99)), (238, 238, some (100, 100)), (238, 238, some (101, 101)), (238, 238, some (102, 102)), (238, 238, some (103, 105)), (238, 238, some (106, 106)), (238, 238, some (107, 118)), (238, 238, some (119, 119)), (238, 238, some (120, 196)), (238, 238, some (121, 197)), (238, 238, some (122, 198)), (238, 238, some (123, 199))] h h := FR.refl
  have b1 := gi_b (lo := 0) (hi := 6) g 238 98 rfl
  have b2 := gi_b (lo := 0) (hi := 6) g 238 99 rfl
  have b3 := gi_b (lo := 0) (hi := 6) g 238 100 rfl
  have b4 := gi_b (lo := 0) (hi := 6) g 238 101 rfl
  have b5 := gi_b (lo := 0) (hi := 3) g 238 102 rfl
  have b6 := gi_b (lo := 0) (hi := 12) g 238 106 rfl
  have b7 := gi_b (lo := 0) (hi := 12) g 238 73 rfl
  have b8 := gi_b (lo := 0) (hi := 12) g 238 2 rfl
  have b9 := gi_b (lo := 0) (hi := 9999) g 238 119 rfl
  have b10 := gi_b (lo := 0) (hi := 9999) g 238 67 rfl
  have b11 := gi_b (lo := 0) (hi := 9) g 238 69 rfl
  have b12 := gi_b (lo := 0) (hi := 9) g 238 5 rfl
  refine wi_aload_n (i := 0) (x := 236) (nx := 1) (r1 := 0) (r2 := 0) (r3 := 0) rfl rfl ?_
  refine wr_V (k0 := 236) (rest := []) (as := [.ref 236]) (nx := 4) (r1 := 289) (r2 := 0) (r3 := 11) rfl rfl rfl (of_decide_eq_true rfl) rfl rfl (by decide) rfl rfl (of_decide_eq_true rfl) (of_decide_eq_true rfl) ?_
  refine ct_289_236 hcr  g    (fun z14  (fz14 : -1 ≤ z14 ∧ z14 ≤ 3) y13_0 => ?_)
  refine wk_i ?_
  refine wi_istore_n (i := 1) (e := z14) (lo2 := [(1, vi z14), (0, .ref 236)]) (nx := 5) (r1 := 0) (r2 := 0) (r3 := 0) rfl rfl ?_
  refine wi_iload_n (i := 1) (e := z14) (nx := 6) (r1 := 0) (r2 := 0) (r3 := 0) rfl rfl ?_
  refine wi_if (cd := .ne) (nx := 9) (r1 := 28) (r2 := 0) (r3 := 0) rfl (by omega) (fun (q15 : z14 ≠ 0) => ?_) (fun (q15 : ¬ (z14 ≠ 0)) => ?_)
  ·
    refine wi_iload_n (i := 1) (e := z14) (nx := 29) (r1 := 0) (r2 := 0) (r3 := 0) rfl rfl ?_
    refine wi_iconst (n := 1) (nx := 30) (r1 := 0) (r2 := 0) (r3 := 0) rfl ?_
    refine wi_icmp (cd := .ne) (nx := 33) (r1 := 52) (r2 := 0) (r3 := 0) rfl (by omega) (by omega) (fun (q16 : z14 ≠ 1) => ?_) (fun (q16 : ¬ (z14 ≠ 1)) => ?_)
    ·
      refine wi_iload_n (i := 1) (e := z14) (nx := 53) (r1 := 0) (r2 := 0) (r3 := 0) rfl rfl ?_
      refine wi_iconst (n := 2) (nx := 54) (r1 := 0) (r2 := 0) (r3 := 0) rfl ?_
      refine wi_icmp (cd := .ne) (nx := 57) (r1 := 69) (r2 := 0) (r3 := 0) rfl (by omega) (by omega) (fun (q17 : z14 ≠ 2) => ?_) (fun (q17 : ¬ (z14 ≠ 2)) => ?_)
      ·
        refine wi_iload_n (i := 1) (e := z14) (nx := 70) (r1 := 0) (r2 := 0) (r3 := 0) rfl rfl ?_
        refine wi_iconst (n := 3) (nx := 71) (r1 := 0) (r2 := 0) (r3 := 0) rfl ?_
        refine wi_icmp (cd := .ne) (nx := 74) (r1 := 85) (r2 := 0) (r3 := 0) rfl (by omega) (by omega) (fun (q18 : z14 ≠ 3) => ?_) (fun (q18 : ¬ (z14 ≠ 3)) => ?_)
        ·
          refine wi_iload_n (i := 1) (e := z14) (nx := 86) (r1 := 0) (r2 := 0) (r3 := 0) rfl rfl ?_
          refine wi_ireturn (nx := 87) (r1 := 0) (r2 := 0) (r3 := 0) rfl rfl ?_
          exact k h z14 g F0 (by omega) (show (h 238 98) + (h 238 99) + (h 238 100) + (h 238 101) + (h 238 102) + (h 238 106) = (h 238 73) by omega) (show (h 238 73) ≤ (h 238 2) by omega) (show (h 238 119) ≤ (h 238 67) by omega) (show (h 238 69) ≤ (h 238 5) by omega) (show (h 238 2) ≤ 12 * (h 238 5) by omega)
        ·
          have f19 : h 238 67 ≤ 9998 := y13_0.2.2.2 (by omega)
          refine wi_aload_n (i := 0) (x := 236) (nx := 75) (r1 := 0) (r2 := 0) (r3 := 0) rfl rfl ?_
          refine wr_gr (k0 := 236) (x := 238) (nx := 78) (r1 := 11) (r2 := 13) (r3 := 0) rfl rfl (by decide) rfl ⟨rfl, rfl⟩ rfl ?_
          refine wi_bipush (n := 67) (nx := 80) (r1 := 0) (r2 := 0) (r3 := 0) rfl (by decide) ?_
          refine wi_dup2 (nx := 81) (r1 := 0) (r2 := 0) (r3 := 0) rfl rfl rfl ?_
          refine wr_ia (k0 := 238) (a := 67) (f := 67) (x := h 238 67) (nx := 82) (r1 := 0) (r2 := 0) (r3 := 0) rfl (by decide) rfl (by omega) (by omega) (by decide) rfl ?_
          refine wi_iconst (n := 1) (nx := 83) (r1 := 0) (r2 := 0) (r3 := 0) rfl ?_
          refine wr_add (nx := 84) (r1 := 0) (r2 := 0) (r3 := 0) rfl (fun e20 (fe20 : e20 = (h 238 67) + 1) => ?_)
          refine wr_is (k0 := 238) (a := 67) (f := 67) (x := e20) (bl := 0) (bh := 9999) (nx := 85) (r1 := 0) (r2 := 0) (r3 := 0) rfl (by decide) rfl (by omega) (by omega) (by decide) g rfl (by omega) (fun h21 g21 w21 u21 => ?_)
          have F22 := F0.then rfl u21
          refine wi_iload_n (i := 1) (e := z14) (nx := 86) (r1 := 0) (r2 := 0) (r3 := 0) rfl rfl ?_
          refine wi_ireturn (nx := 87) (r1 := 0) (r2 := 0) (r3 := 0) rfl rfl ?_
          have e23 : h21 238 98 = h 238 98 := (u21 238 98 rfl)
          have e24 : h21 238 99 = h 238 99 := (u21 238 99 rfl)
          have e25 : h21 238 100 = h 238 100 := (u21 238 100 rfl)
          have e26 : h21 238 101 = h 238 101 := (u21 238 101 rfl)
          have e27 : h21 238 102 = h 238 102 := (u21 238 102 rfl)
          have e28 : h21 238 106 = h 238 106 := (u21 238 106 rfl)
          have e29 : h21 238 73 = h 238 73 := (u21 238 73 rfl)
          have e30 : h21 238 2 = h 238 2 := (u21 238 2 rfl)
          have e31 : h21 238 119 = h 238 119 := (u21 238 119 rfl)
          have e32 : h21 238 67 = e20 := w21
          have e33 : h21 238 69 = h 238 69 := (u21 238 69 rfl)
          have e34 : h21 238 5 = h 238 5 := (u21 238 5 rfl)
          exact k h21 z14 g21 F22 (by omega) (show (h21 238 98) + (h21 238 99) + (h21 238 100) + (h21 238 101) + (h21 238 102) + (h21 238 106) = (h21 238 73) by omega) (show (h21 238 73) ≤ (h21 238 2) by omega) (show (h21 238 119) ≤ (h21 238 67) by omega) (show (h21 238 69) ≤ (h21 238 5) by omega) (show (h21 238 2) ≤ 12 * (h21 238 5) by omega)
      ·
        refine wi_aload_n (i := 0) (x := 236) (nx := 58) (r1 := 0) (r2 := 0) (r3 := 0) rfl rfl ?_
        refine wi_aload_n (i := 0) (x := 236) (nx := 59) (r1 := 0) (r2 := 0) (r3 := 0) rfl rfl ?_
        refine wi_aload_n (i := 0) (x := 236) (nx := 60) (r1 := 0) (r2 := 0) (r3 := 0) rfl rfl ?_
        refine wr_V (k0 := 236) (rest := [.ref 236, .ref 236]) (as := [.ref 236]) (nx := 63) (r1 := 291) (r2 := 0) (r3 := 11) rfl rfl rfl (of_decide_eq_true rfl) rfl rfl (by decide) rfl rfl (of_decide_eq_true rfl) (of_decide_eq_true rfl) ?_
        refine ct_291_236 hcr  g    (fun z19  (fz19 : -1 ≤ z19 ∧ z19 ≤ 3) y18_0 => ?_)
        refine wk_i ?_
        have rg20 := laP.rng y18_0 (y13_0.2.2.1 (by omega))
        rcases (show z19 = 0 ∨ z19 = 1 ∨ z19 = 2 ∨ z19 = 3 by omega) with q22 | q22 | q22 | q22
        ·
          rw [q22]
          have rg23 := laP.at y18_0 0 (by omega)
          have rg23a : 1 ≤ h 238 98 := rg23.2.1
          have rg23b : h 238 67 ≤ 9998 := rg23.2.2.1
          have rg23c : (1 ≤ (h 238 (43 + (h 238 74).toNat)) ∧ (h 238 102) < (h 238 7)) ∨ ((h 238 (43 + (h 238 74).toNat)) ≤ 0 ∧ (h 238 74) - (h 238 106) ≤ (h 238 3)) := rg23.2.2.2
          have b24 := gi_b (lo := 0) (hi := 11) g 238 74 rfl
          obtain ⟨i25, ei25⟩ : ∃ q : Nat, (43 + h 238 74) = (q : Int) := ⟨(43 + h 238 74).toNat, by omega⟩
          have b26 := gi_b (lo := 0) (hi := 999) g 238 i25 (gi_rg 43 12 (fun _ => rfl) (by decide +kernel) (by omega))
          have e27 : h 238 (43 + (h 238 74).toNat) = h 238 i25 := by rw [show 43 + (h 238 74).toNat = i25 by omega]
          have b28 := gi_b (lo := 0) (hi := 3) g 238 7 rfl
          have b29 := gi_b (lo := 0) (hi := 999) g 238 3 rfl
          refine wr_V (k0 := 236) (rest := [.ref 236]) (as := [.ref 236, vi 0]) (nx := 66) (r1 := 282) (r2 := 1) (r3 := 11) rfl rfl rfl (of_decide_eq_true rfl) rfl rfl (by decide) rfl rfl (of_decide_eq_true rfl) (of_decide_eq_true rfl) ?_
          refine ct_282_236_L0 hcr  g   (show (h 238 98) + (h 238 99) + (h 238 100) + (h 238 101) + (h 238 102) + (h 238 106) = (h 238 73) by omega) (show (h 238 73) ≤ (h 238 2) by omega) (show (h 238 119) ≤ (h 238 67) by omega) (show (h 238 69) ≤ (h 238 5) by omega) (show (h 238 2) ≤ 12 * (h 238 5) by omega) (show 1 ≤ (h 238 98) by omega) (show (h 238 67) ≤ 9998 by omega) (show (h 238 102) ≤ 2 ∨ (h 238 (43 + (h 238 74).toNat)) ≤ 0 by omega) (fun h30 z31 g30 u30 (fz31 : 0 ≤ z31 ∧ z31 ≤ 11) (p30_0 : (h30 238 98) + (h30 238 99) + (h30 238 100) + (h30 238 101) + (h30 238 102) + (h30 238 106) = (h30 238 73)) (p30_1 : (h30 238 73) ≤ (h30 238 2)) (p30_2 : (h30 238 119) ≤ (h30 238 67)) (p30_3 : (h30 238 69) ≤ (h30 238 5)) (p30_4 : (h30 238 2) ≤ 12 * (h30 238 5)) => ?_)
          have F32 := F0.then (by decide +kernel) u30
          have b33 := gi_b (lo := 0) (hi := 6) g30 238 98 rfl
          have e34 : h30 238 99 = h 238 99 := (u30 238 99 rfl)
          have e35 : h30 238 100 = h 238 100 := (u30 238 100 rfl)
          have e36 : h30 238 101 = h 238 101 := (u30 238 101 rfl)
          have b37 := gi_b (lo := 0) (hi := 3) g30 238 102 rfl
          have b38 := gi_b (lo := 0) (hi := 12) g30 238 106 rfl
          have e39 : h30 238 73 = h 238 73 := (u30 238 73 rfl)
          have e40 : h30 238 2 = h 238 2 := (u30 238 2 rfl)
          have b41 := gi_b (lo := 0) (hi := 9999) g30 238 119 rfl
          have b42 := gi_b (lo := 0) (hi := 9999) g30 238 67 rfl
          have b43 := gi_b (lo := 0) (hi := 9) g30 238 69 rfl
          have e44 : h30 238 5 = h 238 5 := (u30 238 5 rfl)
          refine wk_i ?_
          refine wr_pf0 (k0 := 236) (x := z31) (bl := -2147483648) (bh := 2147483647) (nx := 69) (r1 := 11) (r2 := 28) (r3 := 0) rfl (by decide) rfl ⟨rfl, rfl⟩ rfl rfl g30 rfl (by omega) (fun h45 g45 w45 u45 => ?_)
          have F46 := F32.then rfl u45
          refine wi_iload_n (i := 1) (e := z14) (nx := 70) (r1 := 0) (r2 := 0) (r3 := 0) rfl rfl ?_
          refine wi_iconst (n := 3) (nx := 71) (r1 := 0) (r2 := 0) (r3 := 0) rfl ?_
          refine wi_icmp (cd := .ne) (nx := 74) (r1 := 85) (r2 := 0) (r3 := 0) rfl (by omega) (by omega) (fun (q47 : z14 ≠ 3) => ?_) (fun (q47 : ¬ (z14 ≠ 3)) => by exfalso; omega)
          refine wi_iload_n (i := 1) (e := z14) (nx := 86) (r1 := 0) (r2 := 0) (r3 := 0) rfl rfl ?_
          refine wi_ireturn (nx := 87) (r1 := 0) (r2 := 0) (r3 := 0) rfl rfl ?_
          have e48 : h45 238 98 = h30 238 98 := (u45 238 98 rfl)
          have e49 : h45 238 99 = h 238 99 := ((u45 238 99 rfl).trans (u30 238 99 rfl))
          have e50 : h45 238 100 = h 238 100 := ((u45 238 100 rfl).trans (u30 238 100 rfl))
          have e51 : h45 238 101 = h 238 101 := ((u45 238 101 rfl).trans (u30 238 101 rfl))
          have e52 : h45 238 102 = h30 238 102 := (u45 238 102 rfl)
          have e53 : h45 238 106 = h30 238 106 := (u45 238 106 rfl)
          have e54 : h45 238 73 = h 238 73 := ((u45 238 73 rfl).trans (u30 238 73 rfl))
          have e55 : h45 238 2 = h 238 2 := ((u45 238 2 rfl).trans (u30 238 2 rfl))
          have e56 : h45 238 119 = h30 238 119 := (u45 238 119 rfl)
          have e57 : h45 238 67 = h30 238 67 := (u45 238 67 rfl)
          have e58 : h45 238 69 = h30 238 69 := (u45 238 69 rfl)
          have e59 : h45 238 5 = h 238 5 := ((u45 238 5 rfl).trans (u30 238 5 rfl))
          exact k h45 z14 g45 F46 (by omega) (show (h45 238 98) + (h45 238 99) + (h45 238 100) + (h45 238 101) + (h45 238 102) + (h45 238 106) = (h45 238 73) by omega) (show (h45 238 73) ≤ (h45 238 2) by omega) (show (h45 238 119) ≤ (h45 238 67) by omega) (show (h45 238 69) ≤ (h45 238 5) by omega) (show (h45 238 2) ≤ 12 * (h45 238 5) by omega)
        ·
          rw [q22]
          have rg23 := laP.at y18_0 1 (by omega)
          have rg23a : 1 ≤ h 238 99 := rg23.2.1
          have rg23b : h 238 67 ≤ 9998 := rg23.2.2.1
          have rg23c : (1 ≤ (h 238 (43 + (h 238 80).toNat)) ∧ (h 238 102) < (h 238 7)) ∨ ((h 238 (43 + (h 238 80).toNat)) ≤ 0 ∧ (h 238 80) - (h 238 106) ≤ (h 238 3)) := rg23.2.2.2
          have b24 := gi_b (lo := 0) (hi := 11) g 238 80 rfl
          obtain ⟨i25, ei25⟩ : ∃ q : Nat, (43 + h 238 80) = (q : Int) := ⟨(43 + h 238 80).toNat, by omega⟩
          have b26 := gi_b (lo := 0) (hi := 999) g 238 i25 (gi_rg 43 12 (fun _ => rfl) (by decide +kernel) (by omega))
          have e27 : h 238 (43 + (h 238 80).toNat) = h 238 i25 := by rw [show 43 + (h 238 80).toNat = i25 by omega]
          have b28 := gi_b (lo := 0) (hi := 3) g 238 7 rfl
          have b29 := gi_b (lo := 0) (hi := 999) g 238 3 rfl
          refine wr_V (k0 := 236) (rest := [.ref 236]) (as := [.ref 236, vi 1]) (nx := 66) (r1 := 282) (r2 := 1) (r3 := 11) rfl rfl rfl (of_decide_eq_true rfl) rfl rfl (by decide) rfl rfl (of_decide_eq_true rfl) (of_decide_eq_true rfl) ?_
          refine ct_282_236_L1 hcr  g   (show (h 238 98) + (h 238 99) + (h 238 100) + (h 238 101) + (h 238 102) + (h 238 106) = (h 238 73) by omega) (show (h 238 73) ≤ (h 238 2) by omega) (show (h 238 119) ≤ (h 238 67) by omega) (show (h 238 69) ≤ (h 238 5) by omega) (show (h 238 2) ≤ 12 * (h 238 5) by omega) (show 1 ≤ (h 238 99) by omega) (show (h 238 67) ≤ 9998 by omega) (show (h 238 102) ≤ 2 ∨ (h 238 (43 + (h 238 80).toNat)) ≤ 0 by omega) (fun h30 z31 g30 u30 (fz31 : 0 ≤ z31 ∧ z31 ≤ 11) (p30_0 : (h30 238 98) + (h30 238 99) + (h30 238 100) + (h30 238 101) + (h30 238 102) + (h30 238 106) = (h30 238 73)) (p30_1 : (h30 238 73) ≤ (h30 238 2)) (p30_2 : (h30 238 119) ≤ (h30 238 67)) (p30_3 : (h30 238 69) ≤ (h30 238 5)) (p30_4 : (h30 238 2) ≤ 12 * (h30 238 5)) => ?_)
          have F32 := F0.then (by decide +kernel) u30
          have e33 : h30 238 98 = h 238 98 := (u30 238 98 rfl)
          have b34 := gi_b (lo := 0) (hi := 6) g30 238 99 rfl
          have e35 : h30 238 100 = h 238 100 := (u30 238 100 rfl)
          have e36 : h30 238 101 = h 238 101 := (u30 238 101 rfl)
          have b37 := gi_b (lo := 0) (hi := 3) g30 238 102 rfl
          have b38 := gi_b (lo := 0) (hi := 12) g30 238 106 rfl
          have e39 : h30 238 73 = h 238 73 := (u30 238 73 rfl)
          have e40 : h30 238 2 = h 238 2 := (u30 238 2 rfl)
          have b41 := gi_b (lo := 0) (hi := 9999) g30 238 119 rfl
          have b42 := gi_b (lo := 0) (hi := 9999) g30 238 67 rfl
          have b43 := gi_b (lo := 0) (hi := 9) g30 238 69 rfl
          have e44 : h30 238 5 = h 238 5 := (u30 238 5 rfl)
          refine wk_i ?_
          refine wr_pf0 (k0 := 236) (x := z31) (bl := -2147483648) (bh := 2147483647) (nx := 69) (r1 := 11) (r2 := 28) (r3 := 0) rfl (by decide) rfl ⟨rfl, rfl⟩ rfl rfl g30 rfl (by omega) (fun h45 g45 w45 u45 => ?_)
          have F46 := F32.then rfl u45
          refine wi_iload_n (i := 1) (e := z14) (nx := 70) (r1 := 0) (r2 := 0) (r3 := 0) rfl rfl ?_
          refine wi_iconst (n := 3) (nx := 71) (r1 := 0) (r2 := 0) (r3 := 0) rfl ?_
          refine wi_icmp (cd := .ne) (nx := 74) (r1 := 85) (r2 := 0) (r3 := 0) rfl (by omega) (by omega) (fun (q47 : z14 ≠ 3) => ?_) (fun (q47 : ¬ (z14 ≠ 3)) => by exfalso; omega)
          refine wi_iload_n (i := 1) (e := z14) (nx := 86) (r1 := 0) (r2 := 0) (r3 := 0) rfl rfl ?_
          refine wi_ireturn (nx := 87) (r1 := 0) (r2 := 0) (r3 := 0) rfl rfl ?_
          have e48 : h45 238 98 = h 238 98 := ((u45 238 98 rfl).trans (u30 238 98 rfl))
          have e49 : h45 238 99 = h30 238 99 := (u45 238 99 rfl)
          have e50 : h45 238 100 = h 238 100 := ((u45 238 100 rfl).trans (u30 238 100 rfl))
          have e51 : h45 238 101 = h 238 101 := ((u45 238 101 rfl).trans (u30 238 101 rfl))
          have e52 : h45 238 102 = h30 238 102 := (u45 238 102 rfl)
          have e53 : h45 238 106 = h30 238 106 := (u45 238 106 rfl)
          have e54 : h45 238 73 = h 238 73 := ((u45 238 73 rfl).trans (u30 238 73 rfl))
          have e55 : h45 238 2 = h 238 2 := ((u45 238 2 rfl).trans (u30 238 2 rfl))
          have e56 : h45 238 119 = h30 238 119 := (u45 238 119 rfl)
          have e57 : h45 238 67 = h30 238 67 := (u45 238 67 rfl)
          have e58 : h45 238 69 = h30 238 69 := (u45 238 69 rfl)
          have e59 : h45 238 5 = h 238 5 := ((u45 238 5 rfl).trans (u30 238 5 rfl))
          exact k h45 z14 g45 F46 (by omega) (show (h45 238 98) + (h45 238 99) + (h45 238 100) + (h45 238 101) + (h45 238 102) + (h45 238 106) = (h45 238 73) by omega) (show (h45 238 73) ≤ (h45 238 2) by omega) (show (h45 238 119) ≤ (h45 238 67) by omega) (show (h45 238 69) ≤ (h45 238 5) by omega) (show (h45 238 2) ≤ 12 * (h45 238 5) by omega)
        ·
          rw [q22]
          have rg23 := laP.at y18_0 2 (by omega)
          have rg23a : 1 ≤ h 238 100 := rg23.2.1
          have rg23b : h 238 67 ≤ 9998 := rg23.2.2.1
          have rg23c : (1 ≤ (h 238 (43 + (h 238 86).toNat)) ∧ (h 238 102) < (h 238 7)) ∨ ((h 238 (43 + (h 238 86).toNat)) ≤ 0 ∧ (h 238 86) - (h 238 106) ≤ (h 238 3)) := rg23.2.2.2
          have b24 := gi_b (lo := 0) (hi := 11) g 238 86 rfl
          obtain ⟨i25, ei25⟩ : ∃ q : Nat, (43 + h 238 86) = (q : Int) := ⟨(43 + h 238 86).toNat, by omega⟩
          have b26 := gi_b (lo := 0) (hi := 999) g 238 i25 (gi_rg 43 12 (fun _ => rfl) (by decide +kernel) (by omega))
          have e27 : h 238 (43 + (h 238 86).toNat) = h 238 i25 := by rw [show 43 + (h 238 86).toNat = i25 by omega]
          have b28 := gi_b (lo := 0) (hi := 3) g 238 7 rfl
          have b29 := gi_b (lo := 0) (hi := 999) g 238 3 rfl
          refine wr_V (k0 := 236) (rest := [.ref 236]) (as := [.ref 236, vi 2]) (nx := 66) (r1 := 282) (r2 := 1) (r3 := 11) rfl rfl rfl (of_decide_eq_true rfl) rfl rfl (by decide) rfl rfl (of_decide_eq_true rfl) (of_decide_eq_true rfl) ?_
          refine ct_282_236_L2 hcr  g   (show (h 238 98) + (h 238 99) + (h 238 100) + (h 238 101) + (h 238 102) + (h 238 106) = (h 238 73) by omega) (show (h 238 73) ≤ (h 238 2) by omega) (show (h 238 119) ≤ (h 238 67) by omega) (show (h 238 69) ≤ (h 238 5) by omega) (show (h 238 2) ≤ 12 * (h 238 5) by omega) (show 1 ≤ (h 238 100) by omega) (show (h 238 67) ≤ 9998 by omega) (show (h 238 102) ≤ 2 ∨ (h 238 (43 + (h 238 86).toNat)) ≤ 0 by omega) (fun h30 z31 g30 u30 (fz31 : 0 ≤ z31 ∧ z31 ≤ 11) (p30_0 : (h30 238 98) + (h30 238 99) + (h30 238 100) + (h30 238 101) + (h30 238 102) + (h30 238 106) = (h30 238 73)) (p30_1 : (h30 238 73) ≤ (h30 238 2)) (p30_2 : (h30 238 119) ≤ (h30 238 67)) (p30_3 : (h30 238 69) ≤ (h30 238 5)) (p30_4 : (h30 238 2) ≤ 12 * (h30 238 5)) => ?_)
          have F32 := F0.then (by decide +kernel) u30
          have e33 : h30 238 98 = h 238 98 := (u30 238 98 rfl)
          have e34 : h30 238 99 = h 238 99 := (u30 238 99 rfl)
          have b35 := gi_b (lo := 0) (hi := 6) g30 238 100 rfl
          have e36 : h30 238 101 = h 238 101 := (u30 238 101 rfl)
          have b37 := gi_b (lo := 0) (hi := 3) g30 238 102 rfl
          have b38 := gi_b (lo := 0) (hi := 12) g30 238 106 rfl
          have e39 : h30 238 73 = h 238 73 := (u30 238 73 rfl)
          have e40 : h30 238 2 = h 238 2 := (u30 238 2 rfl)
          have b41 := gi_b (lo := 0) (hi := 9999) g30 238 119 rfl
          have b42 := gi_b (lo := 0) (hi := 9999) g30 238 67 rfl
          have b43 := gi_b (lo := 0) (hi := 9) g30 238 69 rfl
          have e44 : h30 238 5 = h 238 5 := (u30 238 5 rfl)
          refine wk_i ?_
          refine wr_pf0 (k0 := 236) (x := z31) (bl := -2147483648) (bh := 2147483647) (nx := 69) (r1 := 11) (r2 := 28) (r3 := 0) rfl (by decide) rfl ⟨rfl, rfl⟩ rfl rfl g30 rfl (by omega) (fun h45 g45 w45 u45 => ?_)
          have F46 := F32.then rfl u45
          refine wi_iload_n (i := 1) (e := z14) (nx := 70) (r1 := 0) (r2 := 0) (r3 := 0) rfl rfl ?_
          refine wi_iconst (n := 3) (nx := 71) (r1 := 0) (r2 := 0) (r3 := 0) rfl ?_
          refine wi_icmp (cd := .ne) (nx := 74) (r1 := 85) (r2 := 0) (r3 := 0) rfl (by omega) (by omega) (fun (q47 : z14 ≠ 3) => ?_) (fun (q47 : ¬ (z14 ≠ 3)) => by exfalso; omega)
          refine wi_iload_n (i := 1) (e := z14) (nx := 86) (r1 := 0) (r2 := 0) (r3 := 0) rfl rfl ?_
          refine wi_ireturn (nx := 87) (r1 := 0) (r2 := 0) (r3 := 0) rfl rfl ?_
          have e48 : h45 238 98 = h 238 98 := ((u45 238 98 rfl).trans (u30 238 98 rfl))
          have e49 : h45 238 99 = h 238 99 := ((u45 238 99 rfl).trans (u30 238 99 rfl))
          have e50 : h45 238 100 = h30 238 100 := (u45 238 100 rfl)
          have e51 : h45 238 101 = h 238 101 := ((u45 238 101 rfl).trans (u30 238 101 rfl))
          have e52 : h45 238 102 = h30 238 102 := (u45 238 102 rfl)
          have e53 : h45 238 106 = h30 238 106 := (u45 238 106 rfl)
          have e54 : h45 238 73 = h 238 73 := ((u45 238 73 rfl).trans (u30 238 73 rfl))
          have e55 : h45 238 2 = h 238 2 := ((u45 238 2 rfl).trans (u30 238 2 rfl))
          have e56 : h45 238 119 = h30 238 119 := (u45 238 119 rfl)
          have e57 : h45 238 67 = h30 238 67 := (u45 238 67 rfl)
          have e58 : h45 238 69 = h30 238 69 := (u45 238 69 rfl)
          have e59 : h45 238 5 = h 238 5 := ((u45 238 5 rfl).trans (u30 238 5 rfl))
          exact k h45 z14 g45 F46 (by omega) (show (h45 238 98) + (h45 238 99) + (h45 238 100) + (h45 238 101) + (h45 238 102) + (h45 238 106) = (h45 238 73) by omega) (show (h45 238 73) ≤ (h45 238 2) by omega) (show (h45 238 119) ≤ (h45 238 67) by omega) (show (h45 238 69) ≤ (h45 238 5) by omega) (show (h45 238 2) ≤ 12 * (h45 238 5) by omega)
        ·
          rw [q22]
          have rg23 := laP.at y18_0 3 (by omega)
          have rg23a : 1 ≤ h 238 101 := rg23.2.1
          have rg23b : h 238 67 ≤ 9998 := rg23.2.2.1
          have rg23c : (1 ≤ (h 238 (43 + (h 238 92).toNat)) ∧ (h 238 102) < (h 238 7)) ∨ ((h 238 (43 + (h 238 92).toNat)) ≤ 0 ∧ (h 238 92) - (h 238 106) ≤ (h 238 3)) := rg23.2.2.2
          have b24 := gi_b (lo := 0) (hi := 11) g 238 92 rfl
          obtain ⟨i25, ei25⟩ : ∃ q : Nat, (43 + h 238 92) = (q : Int) := ⟨(43 + h 238 92).toNat, by omega⟩
          have b26 := gi_b (lo := 0) (hi := 999) g 238 i25 (gi_rg 43 12 (fun _ => rfl) (by decide +kernel) (by omega))
          have e27 : h 238 (43 + (h 238 92).toNat) = h 238 i25 := by rw [show 43 + (h 238 92).toNat = i25 by omega]
          have b28 := gi_b (lo := 0) (hi := 3) g 238 7 rfl
          have b29 := gi_b (lo := 0) (hi := 999) g 238 3 rfl
          refine wr_V (k0 := 236) (rest := [.ref 236]) (as := [.ref 236, vi 3]) (nx := 66) (r1 := 282) (r2 := 1) (r3 := 11) rfl rfl rfl (of_decide_eq_true rfl) rfl rfl (by decide) rfl rfl (of_decide_eq_true rfl) (of_decide_eq_true rfl) ?_
          refine ct_282_236_L3 hcr  g   (show (h 238 98) + (h 238 99) + (h 238 100) + (h 238 101) + (h 238 102) + (h 238 106) = (h 238 73) by omega) (show (h 238 73) ≤ (h 238 2) by omega) (show (h 238 119) ≤ (h 238 67) by omega) (show (h 238 69) ≤ (h 238 5) by omega) (show (h 238 2) ≤ 12 * (h 238 5) by omega) (show 1 ≤ (h 238 101) by omega) (show (h 238 67) ≤ 9998 by omega) (show (h 238 102) ≤ 2 ∨ (h 238 (43 + (h 238 92).toNat)) ≤ 0 by omega) (fun h30 z31 g30 u30 (fz31 : 0 ≤ z31 ∧ z31 ≤ 11) (p30_0 : (h30 238 98) + (h30 238 99) + (h30 238 100) + (h30 238 101) + (h30 238 102) + (h30 238 106) = (h30 238 73)) (p30_1 : (h30 238 73) ≤ (h30 238 2)) (p30_2 : (h30 238 119) ≤ (h30 238 67)) (p30_3 : (h30 238 69) ≤ (h30 238 5)) (p30_4 : (h30 238 2) ≤ 12 * (h30 238 5)) => ?_)
          have F32 := F0.then (by decide +kernel) u30
          have e33 : h30 238 98 = h 238 98 := (u30 238 98 rfl)
          have e34 : h30 238 99 = h 238 99 := (u30 238 99 rfl)
          have e35 : h30 238 100 = h 238 100 := (u30 238 100 rfl)
          have b36 := gi_b (lo := 0) (hi := 6) g30 238 101 rfl
          have b37 := gi_b (lo := 0) (hi := 3) g30 238 102 rfl
          have b38 := gi_b (lo := 0) (hi := 12) g30 238 106 rfl
          have e39 : h30 238 73 = h 238 73 := (u30 238 73 rfl)
          have e40 : h30 238 2 = h 238 2 := (u30 238 2 rfl)
          have b41 := gi_b (lo := 0) (hi := 9999) g30 238 119 rfl
          have b42 := gi_b (lo := 0) (hi := 9999) g30 238 67 rfl
          have b43 := gi_b (lo := 0) (hi := 9) g30 238 69 rfl
          have e44 : h30 238 5 = h 238 5 := (u30 238 5 rfl)
          refine wk_i ?_
          refine wr_pf0 (k0 := 236) (x := z31) (bl := -2147483648) (bh := 2147483647) (nx := 69) (r1 := 11) (r2 := 28) (r3 := 0) rfl (by decide) rfl ⟨rfl, rfl⟩ rfl rfl g30 rfl (by omega) (fun h45 g45 w45 u45 => ?_)
          have F46 := F32.then rfl u45
          refine wi_iload_n (i := 1) (e := z14) (nx := 70) (r1 := 0) (r2 := 0) (r3 := 0) rfl rfl ?_
          refine wi_iconst (n := 3) (nx := 71) (r1 := 0) (r2 := 0) (r3 := 0) rfl ?_
          refine wi_icmp (cd := .ne) (nx := 74) (r1 := 85) (r2 := 0) (r3 := 0) rfl (by omega) (by omega) (fun (q47 : z14 ≠ 3) => ?_) (fun (q47 : ¬ (z14 ≠ 3)) => by exfalso; omega)
          refine wi_iload_n (i := 1) (e := z14) (nx := 86) (r1 := 0) (r2 := 0) (r3 := 0) rfl rfl ?_
          refine wi_ireturn (nx := 87) (r1 := 0) (r2 := 0) (r3 := 0) rfl rfl ?_
          have e48 : h45 238 98 = h 238 98 := ((u45 238 98 rfl).trans (u30 238 98 rfl))
          have e49 : h45 238 99 = h 238 99 := ((u45 238 99 rfl).trans (u30 238 99 rfl))
          have e50 : h45 238 100 = h 238 100 := ((u45 238 100 rfl).trans (u30 238 100 rfl))
          have e51 : h45 238 101 = h30 238 101 := (u45 238 101 rfl)
          have e52 : h45 238 102 = h30 238 102 := (u45 238 102 rfl)
          have e53 : h45 238 106 = h30 238 106 := (u45 238 106 rfl)
          have e54 : h45 238 73 = h 238 73 := ((u45 238 73 rfl).trans (u30 238 73 rfl))
          have e55 : h45 238 2 = h 238 2 := ((u45 238 2 rfl).trans (u30 238 2 rfl))
          have e56 : h45 238 119 = h30 238 119 := (u45 238 119 rfl)
          have e57 : h45 238 67 = h30 238 67 := (u45 238 67 rfl)
          have e58 : h45 238 69 = h30 238 69 := (u45 238 69 rfl)
          have e59 : h45 238 5 = h 238 5 := ((u45 238 5 rfl).trans (u30 238 5 rfl))
          exact k h45 z14 g45 F46 (by omega) (show (h45 238 98) + (h45 238 99) + (h45 238 100) + (h45 238 101) + (h45 238 102) + (h45 238 106) = (h45 238 73) by omega) (show (h45 238 73) ≤ (h45 238 2) by omega) (show (h45 238 119) ≤ (h45 238 67) by omega) (show (h45 238 69) ≤ (h45 238 5) by omega) (show (h45 238 2) ≤ 12 * (h45 238 5) by omega)
    ·
      have f17 : h 238 73 < h 238 2 := (y13_0.2.1 (by omega)).1
      refine wi_aload_n (i := 0) (x := 236) (nx := 34) (r1 := 0) (r2 := 0) (r3 := 0) rfl rfl ?_
      refine wi_aload_n (i := 0) (x := 236) (nx := 35) (r1 := 0) (r2 := 0) (r3 := 0) rfl rfl ?_
      refine wi_aload_n (i := 0) (x := 236) (nx := 36) (r1 := 0) (r2 := 0) (r3 := 0) rfl rfl ?_
      refine wi_aload_n (i := 0) (x := 236) (nx := 37) (r1 := 0) (r2 := 0) (r3 := 0) rfl rfl ?_
      refine wr_gr (k0 := 236) (x := 238) (nx := 40) (r1 := 11) (r2 := 13) (r3 := 0) rfl rfl (by decide) rfl ⟨rfl, rfl⟩ rfl ?_
      refine wi_bipush (n := 73) (nx := 42) (r1 := 0) (r2 := 0) (r3 := 0) rfl (by decide) ?_
      refine wr_ia (k0 := 238) (a := 73) (f := 73) (x := h 238 73) (nx := 43) (r1 := 0) (r2 := 0) (r3 := 0) rfl (by decide) rfl (by omega) (by omega) (by decide) rfl ?_
      refine wr_V (k0 := 236) (rest := [.ref 236, .ref 236]) (as := [.ref 236, vi (h 238 73)]) (nx := 46) (r1 := 290) (r2 := 1) (r3 := 11) rfl rfl rfl (of_decide_eq_true rfl) rfl rfl (by decide) rfl rfl (of_decide_eq_true rfl) (of_decide_eq_true rfl) ?_
      refine ct_290_236 hcr  g (h 238 73) (by omega)  (fun z19  (fz19 : -1 ≤ z19 ∧ z19 ≤ 3) y18_0 => ?_)
      refine wk_i ?_
      have rg20 := laP.rng y18_0 (y13_0.2.1 (by omega)).2
      have f21 : h 238 73 < h 238 2 := (y13_0.2.1 (by omega)).1
      rcases (show z19 = 0 ∨ z19 = 1 ∨ z19 = 2 ∨ z19 = 3 by omega) with q22 | q22 | q22 | q22
      ·
        rw [q22]
        have rg23 : h 238 98 < h 238 15 := (laP.at y18_0 0 (by omega)).2
        have b24 := gi_b (lo := 0) (hi := 6) g 238 15 rfl
        refine wr_V (k0 := 236) (rest := [.ref 236]) (as := [.ref 236, vi 0]) (nx := 49) (r1 := 279) (r2 := 1) (r3 := 11) rfl rfl rfl (of_decide_eq_true rfl) rfl rfl (by decide) rfl rfl (of_decide_eq_true rfl) (of_decide_eq_true rfl) ?_
        refine wi_aload_n (i := 0) (x := 236) (nx := 1) (r1 := 0) (r2 := 0) (r3 := 0) rfl rfl ?_
        refine wr_gr (k0 := 236) (x := 238) (nx := 4) (r1 := 11) (r2 := 13) (r3 := 0) rfl rfl (by decide) rfl ⟨rfl, rfl⟩ rfl ?_
        refine wi_bipush (n := 73) (nx := 6) (r1 := 0) (r2 := 0) (r3 := 0) rfl (by decide) ?_
        refine wr_ia (k0 := 238) (a := 73) (f := 73) (x := h 238 73) (nx := 7) (r1 := 0) (r2 := 0) (r3 := 0) rfl (by decide) rfl (by omega) (by omega) (by decide) rfl ?_
        refine wi_istore_n (i := 2) (e := h 238 73) (lo2 := [(2, vi (h 238 73)), (0, .ref 236), (1, vi 0)]) (nx := 8) (r1 := 0) (r2 := 0) (r3 := 0) rfl rfl ?_
        refine wi_aload_n (i := 0) (x := 236) (nx := 9) (r1 := 0) (r2 := 0) (r3 := 0) rfl rfl ?_
        refine wi_iload_n (i := 1) (e := 0) (nx := 10) (r1 := 0) (r2 := 0) (r3 := 0) rfl rfl ?_
        refine wi_iload_n (i := 2) (e := h 238 73) (nx := 11) (r1 := 0) (r2 := 0) (r3 := 0) rfl rfl ?_
        refine wr_V (k0 := 236) (rest := []) (as := [.ref 236, vi 0, vi (h 238 73)]) (nx := 14) (r1 := 280) (r2 := 2) (r3 := 11) rfl rfl rfl (of_decide_eq_true rfl) rfl rfl (by decide) rfl rfl (of_decide_eq_true rfl) (of_decide_eq_true rfl) ?_
        refine wi_aload_n (i := 0) (x := 236) (nx := 1) (r1 := 0) (r2 := 0) (r3 := 0) rfl rfl ?_
        refine wr_gr (k0 := 236) (x := 238) (nx := 4) (r1 := 11) (r2 := 13) (r3 := 0) rfl rfl (by decide) rfl ⟨rfl, rfl⟩ rfl ?_
        refine wi_bipush (n := 74) (nx := 6) (r1 := 0) (r2 := 0) (r3 := 0) rfl (by decide) ?_
        refine wi_bipush (n := 6) (nx := 8) (r1 := 0) (r2 := 0) (r3 := 0) rfl (by decide) ?_
        refine wi_iload_n (i := 1) (e := 0) (nx := 9) (r1 := 0) (r2 := 0) (r3 := 0) rfl rfl ?_
        refine wr_mulL (0) (nx := 10) (r1 := 0) (r2 := 0) (r3 := 0) rfl (by decide) ?_
        refine wr_addL (74) (nx := 11) (r1 := 0) (r2 := 0) (r3 := 0) rfl (by decide) ?_
        refine wi_aload_n (i := 0) (x := 236) (nx := 12) (r1 := 0) (r2 := 0) (r3 := 0) rfl rfl ?_
        refine wr_gr (k0 := 236) (x := 238) (nx := 15) (r1 := 11) (r2 := 13) (r3 := 0) rfl rfl (by decide) rfl ⟨rfl, rfl⟩ rfl ?_
        refine wi_bipush (n := 98) (nx := 17) (r1 := 0) (r2 := 0) (r3 := 0) rfl (by decide) ?_
        refine wi_iload_n (i := 1) (e := 0) (nx := 18) (r1 := 0) (r2 := 0) (r3 := 0) rfl rfl ?_
        refine wr_addL (98) (nx := 19) (r1 := 0) (r2 := 0) (r3 := 0) rfl (by decide) ?_
        refine wr_ia (k0 := 238) (a := 98) (f := 98) (x := h 238 98) (nx := 20) (r1 := 0) (r2 := 0) (r3 := 0) rfl (by decide) rfl (by omega) (by omega) (by decide) rfl ?_
        refine wr_add (nx := 21) (r1 := 0) (r2 := 0) (r3 := 0) rfl (fun e25 (fe25 : e25 = 74 + (h 238 98)) => ?_)
        refine wi_iload_n (i := 2) (e := h 238 73) (nx := 22) (r1 := 0) (r2 := 0) (r3 := 0) rfl rfl ?_
        obtain ⟨i26, ei26⟩ : ∃ q : Nat, e25 = (q : Int) := ⟨(e25).toNat, by omega⟩
        refine wr_is (k0 := 238) (a := e25) (f := i26) (x := h 238 73) (bl := 0) (bh := 11) (nx := 23) (r1 := 0) (r2 := 0) (r3 := 0) rfl (by decide) rfl (by omega) (by omega) (by decide) g (gi_rg 74 6 (fun _ => rfl) (by decide +kernel) (by omega)) (by omega) (fun h27 g27 w27 u27 => ?_)
        have F28 := F0.then rfl (FR.idx (p := 74) (q := 79) u27 (by omega))
        refine wi_aload_n (i := 0) (x := 236) (nx := 24) (r1 := 0) (r2 := 0) (r3 := 0) rfl rfl ?_
        refine wr_gr (k0 := 236) (x := 238) (nx := 27) (r1 := 11) (r2 := 13) (r3 := 0) rfl rfl (by decide) rfl ⟨rfl, rfl⟩ rfl ?_
        refine wi_bipush (n := 98) (nx := 29) (r1 := 0) (r2 := 0) (r3 := 0) rfl (by decide) ?_
        refine wi_iload_n (i := 1) (e := 0) (nx := 30) (r1 := 0) (r2 := 0) (r3 := 0) rfl rfl ?_
        refine wr_addL (98) (nx := 31) (r1 := 0) (r2 := 0) (r3 := 0) rfl (by decide) ?_
        refine wi_dup2 (nx := 32) (r1 := 0) (r2 := 0) (r3 := 0) rfl rfl rfl ?_
        refine wr_ia (k0 := 238) (a := 98) (f := 98) (x := h 238 98) (nx := 33) (r1 := 0) (r2 := 0) (r3 := 0) rfl (by decide) rfl (by omega) (by omega) (by decide) (u27 238 98 (fn_i (by omega) fn_0)) ?_
        refine wi_iconst (n := 1) (nx := 34) (r1 := 0) (r2 := 0) (r3 := 0) rfl ?_
        refine wr_add (nx := 35) (r1 := 0) (r2 := 0) (r3 := 0) rfl (fun e29 (fe29 : e29 = (h 238 98) + 1) => ?_)
        refine wr_is (k0 := 238) (a := 98) (f := 98) (x := e29) (bl := 0) (bh := 6) (nx := 36) (r1 := 0) (r2 := 0) (r3 := 0) rfl (by decide) rfl (by omega) (by omega) (by decide) g27 rfl (by omega) (fun h30 g30 w30 u30 => ?_)
        have F31 := F28.then rfl u30
        refine wi_return (nx := 37) (r1 := 0) (r2 := 0) (r3 := 0) rfl rfl ?_
        refine wk_n ?_
        refine wi_aload_n (i := 0) (x := 236) (nx := 15) (r1 := 0) (r2 := 0) (r3 := 0) rfl rfl ?_
        refine wr_gr (k0 := 236) (x := 238) (nx := 18) (r1 := 11) (r2 := 13) (r3 := 0) rfl rfl (by decide) rfl ⟨rfl, rfl⟩ rfl ?_
        refine wi_bipush (n := 73) (nx := 20) (r1 := 0) (r2 := 0) (r3 := 0) rfl (by decide) ?_
        refine wi_dup2 (nx := 21) (r1 := 0) (r2 := 0) (r3 := 0) rfl rfl rfl ?_
        refine wr_ia (k0 := 238) (a := 73) (f := 73) (x := h 238 73) (nx := 22) (r1 := 0) (r2 := 0) (r3 := 0) rfl (by decide) rfl (by omega) (by omega) (by decide) ((u30 238 73 rfl).trans (u27 238 73 (fn_i (by omega) fn_0))) ?_
        refine wi_iconst (n := 1) (nx := 23) (r1 := 0) (r2 := 0) (r3 := 0) rfl ?_
        refine wr_add (nx := 24) (r1 := 0) (r2 := 0) (r3 := 0) rfl (fun e32 (fe32 : e32 = (h 238 73) + 1) => ?_)
        refine wr_is (k0 := 238) (a := 73) (f := 73) (x := e32) (bl := 0) (bh := 12) (nx := 25) (r1 := 0) (r2 := 0) (r3 := 0) rfl (by decide) rfl (by omega) (by omega) (by decide) g30 rfl (by omega) (fun h33 g33 w33 u33 => ?_)
        have F34 := F31.then rfl u33
        refine wi_iload_n (i := 2) (e := h 238 73) (nx := 26) (r1 := 0) (r2 := 0) (r3 := 0) rfl rfl ?_
        refine wi_ireturn (nx := 27) (r1 := 0) (r2 := 0) (r3 := 0) rfl rfl ?_
        refine wk_i ?_
        refine wr_pf0 (k0 := 236) (x := h 238 73) (bl := -2147483648) (bh := 2147483647) (nx := 52) (r1 := 11) (r2 := 28) (r3 := 0) rfl (by decide) rfl ⟨rfl, rfl⟩ rfl rfl g33 rfl (by omega) (fun h35 g35 w35 u35 => ?_)
        have F36 := F34.then rfl u35
        refine wi_iload_n (i := 1) (e := z14) (nx := 53) (r1 := 0) (r2 := 0) (r3 := 0) rfl rfl ?_
        refine wi_iconst (n := 2) (nx := 54) (r1 := 0) (r2 := 0) (r3 := 0) rfl ?_
        refine wi_icmp (cd := .ne) (nx := 57) (r1 := 69) (r2 := 0) (r3 := 0) rfl (by omega) (by omega) (fun (q37 : z14 ≠ 2) => ?_) (fun (q37 : ¬ (z14 ≠ 2)) => by exfalso; omega)
        refine wi_iload_n (i := 1) (e := z14) (nx := 70) (r1 := 0) (r2 := 0) (r3 := 0) rfl rfl ?_
        refine wi_iconst (n := 3) (nx := 71) (r1 := 0) (r2 := 0) (r3 := 0) rfl ?_
        refine wi_icmp (cd := .ne) (nx := 74) (r1 := 85) (r2 := 0) (r3 := 0) rfl (by omega) (by omega) (fun (q38 : z14 ≠ 3) => ?_) (fun (q38 : ¬ (z14 ≠ 3)) => by exfalso; omega)
        refine wi_iload_n (i := 1) (e := z14) (nx := 86) (r1 := 0) (r2 := 0) (r3 := 0) rfl rfl ?_
        refine wi_ireturn (nx := 87) (r1 := 0) (r2 := 0) (r3 := 0) rfl rfl ?_
        have e39 : h35 238 98 = e29 := ((u35 238 98 rfl).trans ((u33 238 98 rfl).trans w30))
        have e40 : h35 238 99 = h 238 99 := ((u35 238 99 rfl).trans ((u33 238 99 rfl).trans ((u30 238 99 rfl).trans (u27 238 99 (fn_i (by omega) fn_0)))))
        have e41 : h35 238 100 = h 238 100 := ((u35 238 100 rfl).trans ((u33 238 100 rfl).trans ((u30 238 100 rfl).trans (u27 238 100 (fn_i (by omega) fn_0)))))
        have e42 : h35 238 101 = h 238 101 := ((u35 238 101 rfl).trans ((u33 238 101 rfl).trans ((u30 238 101 rfl).trans (u27 238 101 (fn_i (by omega) fn_0)))))
        have e43 : h35 238 102 = h 238 102 := ((u35 238 102 rfl).trans ((u33 238 102 rfl).trans ((u30 238 102 rfl).trans (u27 238 102 (fn_i (by omega) fn_0)))))
        have e44 : h35 238 106 = h 238 106 := ((u35 238 106 rfl).trans ((u33 238 106 rfl).trans ((u30 238 106 rfl).trans (u27 238 106 (fn_i (by omega) fn_0)))))
        have e45 : h35 238 73 = e32 := ((u35 238 73 rfl).trans w33)
        have e46 : h35 238 2 = h 238 2 := ((u35 238 2 rfl).trans ((u33 238 2 rfl).trans ((u30 238 2 rfl).trans (u27 238 2 (fn_i (by omega) fn_0)))))
        have e47 : h35 238 119 = h 238 119 := ((u35 238 119 rfl).trans ((u33 238 119 rfl).trans ((u30 238 119 rfl).trans (u27 238 119 (fn_i (by omega) fn_0)))))
        have e48 : h35 238 67 = h 238 67 := ((u35 238 67 rfl).trans ((u33 238 67 rfl).trans ((u30 238 67 rfl).trans (u27 238 67 (fn_i (by omega) fn_0)))))
        have e49 : h35 238 69 = h 238 69 := ((u35 238 69 rfl).trans ((u33 238 69 rfl).trans ((u30 238 69 rfl).trans (u27 238 69 (fn_i (by omega) fn_0)))))
        have e50 : h35 238 5 = h 238 5 := ((u35 238 5 rfl).trans ((u33 238 5 rfl).trans ((u30 238 5 rfl).trans (u27 238 5 (fn_i (by omega) fn_0)))))
        exact k h35 z14 g35 F36 (by omega) (show (h35 238 98) + (h35 238 99) + (h35 238 100) + (h35 238 101) + (h35 238 102) + (h35 238 106) = (h35 238 73) by omega) (show (h35 238 73) ≤ (h35 238 2) by omega) (show (h35 238 119) ≤ (h35 238 67) by omega) (show (h35 238 69) ≤ (h35 238 5) by omega) (show (h35 238 2) ≤ 12 * (h35 238 5) by omega)
      ·
        rw [q22]
        have rg23 : h 238 99 < h 238 16 := (laP.at y18_0 1 (by omega)).2
        have b24 := gi_b (lo := 0) (hi := 6) g 238 16 rfl
        refine wr_V (k0 := 236) (rest := [.ref 236]) (as := [.ref 236, vi 1]) (nx := 49) (r1 := 279) (r2 := 1) (r3 := 11) rfl rfl rfl (of_decide_eq_true rfl) rfl rfl (by decide) rfl rfl (of_decide_eq_true rfl) (of_decide_eq_true rfl) ?_
        refine wi_aload_n (i := 0) (x := 236) (nx := 1) (r1 := 0) (r2 := 0) (r3 := 0) rfl rfl ?_
        refine wr_gr (k0 := 236) (x := 238) (nx := 4) (r1 := 11) (r2 := 13) (r3 := 0) rfl rfl (by decide) rfl ⟨rfl, rfl⟩ rfl ?_
        refine wi_bipush (n := 73) (nx := 6) (r1 := 0) (r2 := 0) (r3 := 0) rfl (by decide) ?_
        refine wr_ia (k0 := 238) (a := 73) (f := 73) (x := h 238 73) (nx := 7) (r1 := 0) (r2 := 0) (r3 := 0) rfl (by decide) rfl (by omega) (by omega) (by decide) rfl ?_
        refine wi_istore_n (i := 2) (e := h 238 73) (lo2 := [(2, vi (h 238 73)), (0, .ref 236), (1, vi 1)]) (nx := 8) (r1 := 0) (r2 := 0) (r3 := 0) rfl rfl ?_
        refine wi_aload_n (i := 0) (x := 236) (nx := 9) (r1 := 0) (r2 := 0) (r3 := 0) rfl rfl ?_
        refine wi_iload_n (i := 1) (e := 1) (nx := 10) (r1 := 0) (r2 := 0) (r3 := 0) rfl rfl ?_
        refine wi_iload_n (i := 2) (e := h 238 73) (nx := 11) (r1 := 0) (r2 := 0) (r3 := 0) rfl rfl ?_
        refine wr_V (k0 := 236) (rest := []) (as := [.ref 236, vi 1, vi (h 238 73)]) (nx := 14) (r1 := 280) (r2 := 2) (r3 := 11) rfl rfl rfl (of_decide_eq_true rfl) rfl rfl (by decide) rfl rfl (of_decide_eq_true rfl) (of_decide_eq_true rfl) ?_
        refine wi_aload_n (i := 0) (x := 236) (nx := 1) (r1 := 0) (r2 := 0) (r3 := 0) rfl rfl ?_
        refine wr_gr (k0 := 236) (x := 238) (nx := 4) (r1 := 11) (r2 := 13) (r3 := 0) rfl rfl (by decide) rfl ⟨rfl, rfl⟩ rfl ?_
        refine wi_bipush (n := 74) (nx := 6) (r1 := 0) (r2 := 0) (r3 := 0) rfl (by decide) ?_
        refine wi_bipush (n := 6) (nx := 8) (r1 := 0) (r2 := 0) (r3 := 0) rfl (by decide) ?_
        refine wi_iload_n (i := 1) (e := 1) (nx := 9) (r1 := 0) (r2 := 0) (r3 := 0) rfl rfl ?_
        refine wr_mulL (6) (nx := 10) (r1 := 0) (r2 := 0) (r3 := 0) rfl (by decide) ?_
        refine wr_addL (80) (nx := 11) (r1 := 0) (r2 := 0) (r3 := 0) rfl (by decide) ?_
        refine wi_aload_n (i := 0) (x := 236) (nx := 12) (r1 := 0) (r2 := 0) (r3 := 0) rfl rfl ?_
        refine wr_gr (k0 := 236) (x := 238) (nx := 15) (r1 := 11) (r2 := 13) (r3 := 0) rfl rfl (by decide) rfl ⟨rfl, rfl⟩ rfl ?_
        refine wi_bipush (n := 98) (nx := 17) (r1 := 0) (r2 := 0) (r3 := 0) rfl (by decide) ?_
        refine wi_iload_n (i := 1) (e := 1) (nx := 18) (r1 := 0) (r2 := 0) (r3 := 0) rfl rfl ?_
        refine wr_addL (99) (nx := 19) (r1 := 0) (r2 := 0) (r3 := 0) rfl (by decide) ?_
        refine wr_ia (k0 := 238) (a := 99) (f := 99) (x := h 238 99) (nx := 20) (r1 := 0) (r2 := 0) (r3 := 0) rfl (by decide) rfl (by omega) (by omega) (by decide) rfl ?_
        refine wr_add (nx := 21) (r1 := 0) (r2 := 0) (r3 := 0) rfl (fun e25 (fe25 : e25 = 80 + (h 238 99)) => ?_)
        refine wi_iload_n (i := 2) (e := h 238 73) (nx := 22) (r1 := 0) (r2 := 0) (r3 := 0) rfl rfl ?_
        obtain ⟨i26, ei26⟩ : ∃ q : Nat, e25 = (q : Int) := ⟨(e25).toNat, by omega⟩
        refine wr_is (k0 := 238) (a := e25) (f := i26) (x := h 238 73) (bl := 0) (bh := 11) (nx := 23) (r1 := 0) (r2 := 0) (r3 := 0) rfl (by decide) rfl (by omega) (by omega) (by decide) g (gi_rg 80 6 (fun _ => rfl) (by decide +kernel) (by omega)) (by omega) (fun h27 g27 w27 u27 => ?_)
        have F28 := F0.then rfl (FR.idx (p := 80) (q := 85) u27 (by omega))
        refine wi_aload_n (i := 0) (x := 236) (nx := 24) (r1 := 0) (r2 := 0) (r3 := 0) rfl rfl ?_
        refine wr_gr (k0 := 236) (x := 238) (nx := 27) (r1 := 11) (r2 := 13) (r3 := 0) rfl rfl (by decide) rfl ⟨rfl, rfl⟩ rfl ?_
        refine wi_bipush (n := 98) (nx := 29) (r1 := 0) (r2 := 0) (r3 := 0) rfl (by decide) ?_
        refine wi_iload_n (i := 1) (e := 1) (nx := 30) (r1 := 0) (r2 := 0) (r3 := 0) rfl rfl ?_
        refine wr_addL (99) (nx := 31) (r1 := 0) (r2 := 0) (r3 := 0) rfl (by decide) ?_
        refine wi_dup2 (nx := 32) (r1 := 0) (r2 := 0) (r3 := 0) rfl rfl rfl ?_
        refine wr_ia (k0 := 238) (a := 99) (f := 99) (x := h 238 99) (nx := 33) (r1 := 0) (r2 := 0) (r3 := 0) rfl (by decide) rfl (by omega) (by omega) (by decide) (u27 238 99 (fn_i (by omega) fn_0)) ?_
        refine wi_iconst (n := 1) (nx := 34) (r1 := 0) (r2 := 0) (r3 := 0) rfl ?_
        refine wr_add (nx := 35) (r1 := 0) (r2 := 0) (r3 := 0) rfl (fun e29 (fe29 : e29 = (h 238 99) + 1) => ?_)
        refine wr_is (k0 := 238) (a := 99) (f := 99) (x := e29) (bl := 0) (bh := 6) (nx := 36) (r1 := 0) (r2 := 0) (r3 := 0) rfl (by decide) rfl (by omega) (by omega) (by decide) g27 rfl (by omega) (fun h30 g30 w30 u30 => ?_)
        have F31 := F28.then rfl u30
        refine wi_return (nx := 37) (r1 := 0) (r2 := 0) (r3 := 0) rfl rfl ?_
        refine wk_n ?_
        refine wi_aload_n (i := 0) (x := 236) (nx := 15) (r1 := 0) (r2 := 0) (r3 := 0) rfl rfl ?_
        refine wr_gr (k0 := 236) (x := 238) (nx := 18) (r1 := 11) (r2 := 13) (r3 := 0) rfl rfl (by decide) rfl ⟨rfl, rfl⟩ rfl ?_
        refine wi_bipush (n := 73) (nx := 20) (r1 := 0) (r2 := 0) (r3 := 0) rfl (by decide) ?_
        refine wi_dup2 (nx := 21) (r1 := 0) (r2 := 0) (r3 := 0) rfl rfl rfl ?_
        refine wr_ia (k0 := 238) (a := 73) (f := 73) (x := h 238 73) (nx := 22) (r1 := 0) (r2 := 0) (r3 := 0) rfl (by decide) rfl (by omega) (by omega) (by decide) ((u30 238 73 rfl).trans (u27 238 73 (fn_i (by omega) fn_0))) ?_
        refine wi_iconst (n := 1) (nx := 23) (r1 := 0) (r2 := 0) (r3 := 0) rfl ?_
        refine wr_add (nx := 24) (r1 := 0) (r2 := 0) (r3 := 0) rfl (fun e32 (fe32 : e32 = (h 238 73) + 1) => ?_)
        refine wr_is (k0 := 238) (a := 73) (f := 73) (x := e32) (bl := 0) (bh := 12) (nx := 25) (r1 := 0) (r2 := 0) (r3 := 0) rfl (by decide) rfl (by omega) (by omega) (by decide) g30 rfl (by omega) (fun h33 g33 w33 u33 => ?_)
        have F34 := F31.then rfl u33
        refine wi_iload_n (i := 2) (e := h 238 73) (nx := 26) (r1 := 0) (r2 := 0) (r3 := 0) rfl rfl ?_
        refine wi_ireturn (nx := 27) (r1 := 0) (r2 := 0) (r3 := 0) rfl rfl ?_
        refine wk_i ?_
        refine wr_pf0 (k0 := 236) (x := h 238 73) (bl := -2147483648) (bh := 2147483647) (nx := 52) (r1 := 11) (r2 := 28) (r3 := 0) rfl (by decide) rfl ⟨rfl, rfl⟩ rfl rfl g33 rfl (by omega) (fun h35 g35 w35 u35 => ?_)
        have F36 := F34.then rfl u35
        refine wi_iload_n (i := 1) (e := z14) (nx := 53) (r1 := 0) (r2 := 0) (r3 := 0) rfl rfl ?_
        refine wi_iconst (n := 2) (nx := 54) (r1 := 0) (r2 := 0) (r3 := 0) rfl ?_
        refine wi_icmp (cd := .ne) (nx := 57) (r1 := 69) (r2 := 0) (r3 := 0) rfl (by omega) (by omega) (fun (q37 : z14 ≠ 2) => ?_) (fun (q37 : ¬ (z14 ≠ 2)) => by exfalso; omega)
        refine wi_iload_n (i := 1) (e := z14) (nx := 70) (r1 := 0) (r2 := 0) (r3 := 0) rfl rfl ?_
        refine wi_iconst (n := 3) (nx := 71) (r1 := 0) (r2 := 0) (r3 := 0) rfl ?_
        refine wi_icmp (cd := .ne) (nx := 74) (r1 := 85) (r2 := 0) (r3 := 0) rfl (by omega) (by omega) (fun (q38 : z14 ≠ 3) => ?_) (fun (q38 : ¬ (z14 ≠ 3)) => by exfalso; omega)
        refine wi_iload_n (i := 1) (e := z14) (nx := 86) (r1 := 0) (r2 := 0) (r3 := 0) rfl rfl ?_
        refine wi_ireturn (nx := 87) (r1 := 0) (r2 := 0) (r3 := 0) rfl rfl ?_
        have e39 : h35 238 98 = h 238 98 := ((u35 238 98 rfl).trans ((u33 238 98 rfl).trans ((u30 238 98 rfl).trans (u27 238 98 (fn_i (by omega) fn_0)))))
        have e40 : h35 238 99 = e29 := ((u35 238 99 rfl).trans ((u33 238 99 rfl).trans w30))
        have e41 : h35 238 100 = h 238 100 := ((u35 238 100 rfl).trans ((u33 238 100 rfl).trans ((u30 238 100 rfl).trans (u27 238 100 (fn_i (by omega) fn_0)))))
        have e42 : h35 238 101 = h 238 101 := ((u35 238 101 rfl).trans ((u33 238 101 rfl).trans ((u30 238 101 rfl).trans (u27 238 101 (fn_i (by omega) fn_0)))))
        have e43 : h35 238 102 = h 238 102 := ((u35 238 102 rfl).trans ((u33 238 102 rfl).trans ((u30 238 102 rfl).trans (u27 238 102 (fn_i (by omega) fn_0)))))
        have e44 : h35 238 106 = h 238 106 := ((u35 238 106 rfl).trans ((u33 238 106 rfl).trans ((u30 238 106 rfl).trans (u27 238 106 (fn_i (by omega) fn_0)))))
        have e45 : h35 238 73 = e32 := ((u35 238 73 rfl).trans w33)
        have e46 : h35 238 2 = h 238 2 := ((u35 238 2 rfl).trans ((u33 238 2 rfl).trans ((u30 238 2 rfl).trans (u27 238 2 (fn_i (by omega) fn_0)))))
        have e47 : h35 238 119 = h 238 119 := ((u35 238 119 rfl).trans ((u33 238 119 rfl).trans ((u30 238 119 rfl).trans (u27 238 119 (fn_i (by omega) fn_0)))))
        have e48 : h35 238 67 = h 238 67 := ((u35 238 67 rfl).trans ((u33 238 67 rfl).trans ((u30 238 67 rfl).trans (u27 238 67 (fn_i (by omega) fn_0)))))
        have e49 : h35 238 69 = h 238 69 := ((u35 238 69 rfl).trans ((u33 238 69 rfl).trans ((u30 238 69 rfl).trans (u27 238 69 (fn_i (by omega) fn_0)))))
        have e50 : h35 238 5 = h 238 5 := ((u35 238 5 rfl).trans ((u33 238 5 rfl).trans ((u30 238 5 rfl).trans (u27 238 5 (fn_i (by omega) fn_0)))))
        exact k h35 z14 g35 F36 (by omega) (show (h35 238 98) + (h35 238 99) + (h35 238 100) + (h35 238 101) + (h35 238 102) + (h35 238 106) = (h35 238 73) by omega) (show (h35 238 73) ≤ (h35 238 2) by omega) (show (h35 238 119) ≤ (h35 238 67) by omega) (show (h35 238 69) ≤ (h35 238 5) by omega) (show (h35 238 2) ≤ 12 * (h35 238 5) by omega)
      ·
        rw [q22]
        have rg23 : h 238 100 < h 238 17 := (laP.at y18_0 2 (by omega)).2
        have b24 := gi_b (lo := 0) (hi := 6) g 238 17 rfl
        refine wr_V (k0 := 236) (rest := [.ref 236]) (as := [.ref 236, vi 2]) (nx := 49) (r1 := 279) (r2 := 1) (r3 := 11) rfl rfl rfl (of_decide_eq_true rfl) rfl rfl (by decide) rfl rfl (of_decide_eq_true rfl) (of_decide_eq_true rfl) ?_
        refine wi_aload_n (i := 0) (x := 236) (nx := 1) (r1 := 0) (r2 := 0) (r3 := 0) rfl rfl ?_
        refine wr_gr (k0 := 236) (x := 238) (nx := 4) (r1 := 11) (r2 := 13) (r3 := 0) rfl rfl (by decide) rfl ⟨rfl, rfl⟩ rfl ?_
        refine wi_bipush (n := 73) (nx := 6) (r1 := 0) (r2 := 0) (r3 := 0) rfl (by decide) ?_
        refine wr_ia (k0 := 238) (a := 73) (f := 73) (x := h 238 73) (nx := 7) (r1 := 0) (r2 := 0) (r3 := 0) rfl (by decide) rfl (by omega) (by omega) (by decide) rfl ?_
        refine wi_istore_n (i := 2) (e := h 238 73) (lo2 := [(2, vi (h 238 73)), (0, .ref 236), (1, vi 2)]) (nx := 8) (r1 := 0) (r2 := 0) (r3 := 0) rfl rfl ?_
        refine wi_aload_n (i := 0) (x := 236) (nx := 9) (r1 := 0) (r2 := 0) (r3 := 0) rfl rfl ?_
        refine wi_iload_n (i := 1) (e := 2) (nx := 10) (r1 := 0) (r2 := 0) (r3 := 0) rfl rfl ?_
        refine wi_iload_n (i := 2) (e := h 238 73) (nx := 11) (r1 := 0) (r2 := 0) (r3 := 0) rfl rfl ?_
        refine wr_V (k0 := 236) (rest := []) (as := [.ref 236, vi 2, vi (h 238 73)]) (nx := 14) (r1 := 280) (r2 := 2) (r3 := 11) rfl rfl rfl (of_decide_eq_true rfl) rfl rfl (by decide) rfl rfl (of_decide_eq_true rfl) (of_decide_eq_true rfl) ?_
        refine wi_aload_n (i := 0) (x := 236) (nx := 1) (r1 := 0) (r2 := 0) (r3 := 0) rfl rfl ?_
        refine wr_gr (k0 := 236) (x := 238) (nx := 4) (r1 := 11) (r2 := 13) (r3 := 0) rfl rfl (by decide) rfl ⟨rfl, rfl⟩ rfl ?_
        refine wi_bipush (n := 74) (nx := 6) (r1 := 0) (r2 := 0) (r3 := 0) rfl (by decide) ?_
        refine wi_bipush (n := 6) (nx := 8) (r1 := 0) (r2 := 0) (r3 := 0) rfl (by decide) ?_
        refine wi_iload_n (i := 1) (e := 2) (nx := 9) (r1 := 0) (r2 := 0) (r3 := 0) rfl rfl ?_
        refine wr_mulL (12) (nx := 10) (r1 := 0) (r2 := 0) (r3 := 0) rfl (by decide) ?_
        refine wr_addL (86) (nx := 11) (r1 := 0) (r2 := 0) (r3 := 0) rfl (by decide) ?_
        refine wi_aload_n (i := 0) (x := 236) (nx := 12) (r1 := 0) (r2 := 0) (r3 := 0) rfl rfl ?_
        refine wr_gr (k0 := 236) (x := 238) (nx := 15) (r1 := 11) (r2 := 13) (r3 := 0) rfl rfl (by decide) rfl ⟨rfl, rfl⟩ rfl ?_
        refine wi_bipush (n := 98) (nx := 17) (r1 := 0) (r2 := 0) (r3 := 0) rfl (by decide) ?_
        refine wi_iload_n (i := 1) (e := 2) (nx := 18) (r1 := 0) (r2 := 0) (r3 := 0) rfl rfl ?_
        refine wr_addL (100) (nx := 19) (r1 := 0) (r2 := 0) (r3 := 0) rfl (by decide) ?_
        refine wr_ia (k0 := 238) (a := 100) (f := 100) (x := h 238 100) (nx := 20) (r1 := 0) (r2 := 0) (r3 := 0) rfl (by decide) rfl (by omega) (by omega) (by decide) rfl ?_
        refine wr_add (nx := 21) (r1 := 0) (r2 := 0) (r3 := 0) rfl (fun e25 (fe25 : e25 = 86 + (h 238 100)) => ?_)
        refine wi_iload_n (i := 2) (e := h 238 73) (nx := 22) (r1 := 0) (r2 := 0) (r3 := 0) rfl rfl ?_
        obtain ⟨i26, ei26⟩ : ∃ q : Nat, e25 = (q : Int) := ⟨(e25).toNat, by omega⟩
        refine wr_is (k0 := 238) (a := e25) (f := i26) (x := h 238 73) (bl := 0) (bh := 11) (nx := 23) (r1 := 0) (r2 := 0) (r3 := 0) rfl (by decide) rfl (by omega) (by omega) (by decide) g (gi_rg 86 6 (fun _ => rfl) (by decide +kernel) (by omega)) (by omega) (fun h27 g27 w27 u27 => ?_)
        have F28 := F0.then rfl (FR.idx (p := 86) (q := 91) u27 (by omega))
        refine wi_aload_n (i := 0) (x := 236) (nx := 24) (r1 := 0) (r2 := 0) (r3 := 0) rfl rfl ?_
        refine wr_gr (k0 := 236) (x := 238) (nx := 27) (r1 := 11) (r2 := 13) (r3 := 0) rfl rfl (by decide) rfl ⟨rfl, rfl⟩ rfl ?_
        refine wi_bipush (n := 98) (nx := 29) (r1 := 0) (r2 := 0) (r3 := 0) rfl (by decide) ?_
        refine wi_iload_n (i := 1) (e := 2) (nx := 30) (r1 := 0) (r2 := 0) (r3 := 0) rfl rfl ?_
        refine wr_addL (100) (nx := 31) (r1 := 0) (r2 := 0) (r3 := 0) rfl (by decide) ?_
        refine wi_dup2 (nx := 32) (r1 := 0) (r2 := 0) (r3 := 0) rfl rfl rfl ?_
        refine wr_ia (k0 := 238) (a := 100) (f := 100) (x := h 238 100) (nx := 33) (r1 := 0) (r2 := 0) (r3 := 0) rfl (by decide) rfl (by omega) (by omega) (by decide) (u27 238 100 (fn_i (by omega) fn_0)) ?_
        refine wi_iconst (n := 1) (nx := 34) (r1 := 0) (r2 := 0) (r3 := 0) rfl ?_
        refine wr_add (nx := 35) (r1 := 0) (r2 := 0) (r3 := 0) rfl (fun e29 (fe29 : e29 = (h 238 100) + 1) => ?_)
        refine wr_is (k0 := 238) (a := 100) (f := 100) (x := e29) (bl := 0) (bh := 6) (nx := 36) (r1 := 0) (r2 := 0) (r3 := 0) rfl (by decide) rfl (by omega) (by omega) (by decide) g27 rfl (by omega) (fun h30 g30 w30 u30 => ?_)
        have F31 := F28.then rfl u30
        refine wi_return (nx := 37) (r1 := 0) (r2 := 0) (r3 := 0) rfl rfl ?_
        refine wk_n ?_
        refine wi_aload_n (i := 0) (x := 236) (nx := 15) (r1 := 0) (r2 := 0) (r3 := 0) rfl rfl ?_
        refine wr_gr (k0 := 236) (x := 238) (nx := 18) (r1 := 11) (r2 := 13) (r3 := 0) rfl rfl (by decide) rfl ⟨rfl, rfl⟩ rfl ?_
        refine wi_bipush (n := 73) (nx := 20) (r1 := 0) (r2 := 0) (r3 := 0) rfl (by decide) ?_
        refine wi_dup2 (nx := 21) (r1 := 0) (r2 := 0) (r3 := 0) rfl rfl rfl ?_
        refine wr_ia (k0 := 238) (a := 73) (f := 73) (x := h 238 73) (nx := 22) (r1 := 0) (r2 := 0) (r3 := 0) rfl (by decide) rfl (by omega) (by omega) (by decide) ((u30 238 73 rfl).trans (u27 238 73 (fn_i (by omega) fn_0))) ?_
        refine wi_iconst (n := 1) (nx := 23) (r1 := 0) (r2 := 0) (r3 := 0) rfl ?_
        refine wr_add (nx := 24) (r1 := 0) (r2 := 0) (r3 := 0) rfl (fun e32 (fe32 : e32 = (h 238 73) + 1) => ?_)
        refine wr_is (k0 := 238) (a := 73) (f := 73) (x := e32) (bl := 0) (bh := 12) (nx := 25) (r1 := 0) (r2 := 0) (r3 := 0) rfl (by decide) rfl (by omega) (by omega) (by decide) g30 rfl (by omega) (fun h33 g33 w33 u33 => ?_)
        have F34 := F31.then rfl u33
        refine wi_iload_n (i := 2) (e := h 238 73) (nx := 26) (r1 := 0) (r2 := 0) (r3 := 0) rfl rfl ?_
        refine wi_ireturn (nx := 27) (r1 := 0) (r2 := 0) (r3 := 0) rfl rfl ?_
        refine wk_i ?_
        refine wr_pf0 (k0 := 236) (x := h 238 73) (bl := -2147483648) (bh := 2147483647) (nx := 52) (r1 := 11) (r2 := 28) (r3 := 0) rfl (by decide) rfl ⟨rfl, rfl⟩ rfl rfl g33 rfl (by omega) (fun h35 g35 w35 u35 => ?_)
        have F36 := F34.then rfl u35
        refine wi_iload_n (i := 1) (e := z14) (nx := 53) (r1 := 0) (r2 := 0) (r3 := 0) rfl rfl ?_
        refine wi_iconst (n := 2) (nx := 54) (r1 := 0) (r2 := 0) (r3 := 0) rfl ?_
        refine wi_icmp (cd := .ne) (nx := 57) (r1 := 69) (r2 := 0) (r3 := 0) rfl (by omega) (by omega) (fun (q37 : z14 ≠ 2) => ?_) (fun (q37 : ¬ (z14 ≠ 2)) => by exfalso; omega)
        refine wi_iload_n (i := 1) (e := z14) (nx := 70) (r1 := 0) (r2 := 0) (r3 := 0) rfl rfl ?_
        refine wi_iconst (n := 3) (nx := 71) (r1 := 0) (r2 := 0) (r3 := 0) rfl ?_
        refine wi_icmp (cd := .ne) (nx := 74) (r1 := 85) (r2 := 0) (r3 := 0) rfl (by omega) (by omega) (fun (q38 : z14 ≠ 3) => ?_) (fun (q38 : ¬ (z14 ≠ 3)) => by exfalso; omega)
        refine wi_iload_n (i := 1) (e := z14) (nx := 86) (r1 := 0) (r2 := 0) (r3 := 0) rfl rfl ?_
        refine wi_ireturn (nx := 87) (r1 := 0) (r2 := 0) (r3 := 0) rfl rfl ?_
        have e39 : h35 238 98 = h 238 98 := ((u35 238 98 rfl).trans ((u33 238 98 rfl).trans ((u30 238 98 rfl).trans (u27 238 98 (fn_i (by omega) fn_0)))))
        have e40 : h35 238 99 = h 238 99 := ((u35 238 99 rfl).trans ((u33 238 99 rfl).trans ((u30 238 99 rfl).trans (u27 238 99 (fn_i (by omega) fn_0)))))
        have e41 : h35 238 100 = e29 := ((u35 238 100 rfl).trans ((u33 238 100 rfl).trans w30))
        have e42 : h35 238 101 = h 238 101 := ((u35 238 101 rfl).trans ((u33 238 101 rfl).trans ((u30 238 101 rfl).trans (u27 238 101 (fn_i (by omega) fn_0)))))
        have e43 : h35 238 102 = h 238 102 := ((u35 238 102 rfl).trans ((u33 238 102 rfl).trans ((u30 238 102 rfl).trans (u27 238 102 (fn_i (by omega) fn_0)))))
        have e44 : h35 238 106 = h 238 106 := ((u35 238 106 rfl).trans ((u33 238 106 rfl).trans ((u30 238 106 rfl).trans (u27 238 106 (fn_i (by omega) fn_0)))))
        have e45 : h35 238 73 = e32 := ((u35 238 73 rfl).trans w33)
        have e46 : h35 238 2 = h 238 2 := ((u35 238 2 rfl).trans ((u33 238 2 rfl).trans ((u30 238 2 rfl).trans (u27 238 2 (fn_i (by omega) fn_0)))))
        have e47 : h35 238 119 = h 238 119 := ((u35 238 119 rfl).trans ((u33 238 119 rfl).trans ((u30 238 119 rfl).trans (u27 238 119 (fn_i (by omega) fn_0)))))
        have e48 : h35 238 67 = h 238 67 := ((u35 238 67 rfl).trans ((u33 238 67 rfl).trans ((u30 238 67 rfl).trans (u27 238 67 (fn_i (by omega) fn_0)))))
        have e49 : h35 238 69 = h 238 69 := ((u35 238 69 rfl).trans ((u33 238 69 rfl).trans ((u30 238 69 rfl).trans (u27 238 69 (fn_i (by omega) fn_0)))))
        have e50 : h35 238 5 = h 238 5 := ((u35 238 5 rfl).trans ((u33 238 5 rfl).trans ((u30 238 5 rfl).trans (u27 238 5 (fn_i (by omega) fn_0)))))
        exact k h35 z14 g35 F36 (by omega) (show (h35 238 98) + (h35 238 99) + (h35 238 100) + (h35 238 101) + (h35 238 102) + (h35 238 106) = (h35 238 73) by omega) (show (h35 238 73) ≤ (h35 238 2) by omega) (show (h35 238 119) ≤ (h35 238 67) by omega) (show (h35 238 69) ≤ (h35 238 5) by omega) (show (h35 238 2) ≤ 12 * (h35 238 5) by omega)
      ·
        rw [q22]
        have rg23 : h 238 101 < h 238 18 := (laP.at y18_0 3 (by omega)).2
        have b24 := gi_b (lo := 0) (hi := 6) g 238 18 rfl
        refine wr_V (k0 := 236) (rest := [.ref 236]) (as := [.ref 236, vi 3]) (nx := 49) (r1 := 279) (r2 := 1) (r3 := 11) rfl rfl rfl (of_decide_eq_true rfl) rfl rfl (by decide) rfl rfl (of_decide_eq_true rfl) (of_decide_eq_true rfl) ?_
        refine wi_aload_n (i := 0) (x := 236) (nx := 1) (r1 := 0) (r2 := 0) (r3 := 0) rfl rfl ?_
        refine wr_gr (k0 := 236) (x := 238) (nx := 4) (r1 := 11) (r2 := 13) (r3 := 0) rfl rfl (by decide) rfl ⟨rfl, rfl⟩ rfl ?_
        refine wi_bipush (n := 73) (nx := 6) (r1 := 0) (r2 := 0) (r3 := 0) rfl (by decide) ?_
        refine wr_ia (k0 := 238) (a := 73) (f := 73) (x := h 238 73) (nx := 7) (r1 := 0) (r2 := 0) (r3 := 0) rfl (by decide) rfl (by omega) (by omega) (by decide) rfl ?_
        refine wi_istore_n (i := 2) (e := h 238 73) (lo2 := [(2, vi (h 238 73)), (0, .ref 236), (1, vi 3)]) (nx := 8) (r1 := 0) (r2 := 0) (r3 := 0) rfl rfl ?_
        refine wi_aload_n (i := 0) (x := 236) (nx := 9) (r1 := 0) (r2 := 0) (r3 := 0) rfl rfl ?_
        refine wi_iload_n (i := 1) (e := 3) (nx := 10) (r1 := 0) (r2 := 0) (r3 := 0) rfl rfl ?_
        refine wi_iload_n (i := 2) (e := h 238 73) (nx := 11) (r1 := 0) (r2 := 0) (r3 := 0) rfl rfl ?_
        refine wr_V (k0 := 236) (rest := []) (as := [.ref 236, vi 3, vi (h 238 73)]) (nx := 14) (r1 := 280) (r2 := 2) (r3 := 11) rfl rfl rfl (of_decide_eq_true rfl) rfl rfl (by decide) rfl rfl (of_decide_eq_true rfl) (of_decide_eq_true rfl) ?_
        refine wi_aload_n (i := 0) (x := 236) (nx := 1) (r1 := 0) (r2 := 0) (r3 := 0) rfl rfl ?_
        refine wr_gr (k0 := 236) (x := 238) (nx := 4) (r1 := 11) (r2 := 13) (r3 := 0) rfl rfl (by decide) rfl ⟨rfl, rfl⟩ rfl ?_
        refine wi_bipush (n := 74) (nx := 6) (r1 := 0) (r2 := 0) (r3 := 0) rfl (by decide) ?_
        refine wi_bipush (n := 6) (nx := 8) (r1 := 0) (r2 := 0) (r3 := 0) rfl (by decide) ?_
        refine wi_iload_n (i := 1) (e := 3) (nx := 9) (r1 := 0) (r2 := 0) (r3 := 0) rfl rfl ?_
        refine wr_mulL (18) (nx := 10) (r1 := 0) (r2 := 0) (r3 := 0) rfl (by decide) ?_
        refine wr_addL (92) (nx := 11) (r1 := 0) (r2 := 0) (r3 := 0) rfl (by decide) ?_
        refine wi_aload_n (i := 0) (x := 236) (nx := 12) (r1 := 0) (r2 := 0) (r3 := 0) rfl rfl ?_
        refine wr_gr (k0 := 236) (x := 238) (nx := 15) (r1 := 11) (r2 := 13) (r3 := 0) rfl rfl (by decide) rfl ⟨rfl, rfl⟩ rfl ?_
        refine wi_bipush (n := 98) (nx := 17) (r1 := 0) (r2 := 0) (r3 := 0) rfl (by decide) ?_
        refine wi_iload_n (i := 1) (e := 3) (nx := 18) (r1 := 0) (r2 := 0) (r3 := 0) rfl rfl ?_
        refine wr_addL (101) (nx := 19) (r1 := 0) (r2 := 0) (r3 := 0) rfl (by decide) ?_
        refine wr_ia (k0 := 238) (a := 101) (f := 101) (x := h 238 101) (nx := 20) (r1 := 0) (r2 := 0) (r3 := 0) rfl (by decide) rfl (by omega) (by omega) (by decide) rfl ?_
        refine wr_add (nx := 21) (r1 := 0) (r2 := 0) (r3 := 0) rfl (fun e25 (fe25 : e25 = 92 + (h 238 101)) => ?_)
        refine wi_iload_n (i := 2) (e := h 238 73) (nx := 22) (r1 := 0) (r2 := 0) (r3 := 0) rfl rfl ?_
        obtain ⟨i26, ei26⟩ : ∃ q : Nat, e25 = (q : Int) := ⟨(e25).toNat, by omega⟩
        refine wr_is (k0 := 238) (a := e25) (f := i26) (x := h 238 73) (bl := 0) (bh := 11) (nx := 23) (r1 := 0) (r2 := 0) (r3 := 0) rfl (by decide) rfl (by omega) (by omega) (by decide) g (gi_rg 92 6 (fun _ => rfl) (by decide +kernel) (by omega)) (by omega) (fun h27 g27 w27 u27 => ?_)
        have F28 := F0.then rfl (FR.idx (p := 92) (q := 97) u27 (by omega))
        refine wi_aload_n (i := 0) (x := 236) (nx := 24) (r1 := 0) (r2 := 0) (r3 := 0) rfl rfl ?_
        refine wr_gr (k0 := 236) (x := 238) (nx := 27) (r1 := 11) (r2 := 13) (r3 := 0) rfl rfl (by decide) rfl ⟨rfl, rfl⟩ rfl ?_
        refine wi_bipush (n := 98) (nx := 29) (r1 := 0) (r2 := 0) (r3 := 0) rfl (by decide) ?_
        refine wi_iload_n (i := 1) (e := 3) (nx := 30) (r1 := 0) (r2 := 0) (r3 := 0) rfl rfl ?_
        refine wr_addL (101) (nx := 31) (r1 := 0) (r2 := 0) (r3 := 0) rfl (by decide) ?_
        refine wi_dup2 (nx := 32) (r1 := 0) (r2 := 0) (r3 := 0) rfl rfl rfl ?_
        refine wr_ia (k0 := 238) (a := 101) (f := 101) (x := h 238 101) (nx := 33) (r1 := 0) (r2 := 0) (r3 := 0) rfl (by decide) rfl (by omega) (by omega) (by decide) (u27 238 101 (fn_i (by omega) fn_0)) ?_
        refine wi_iconst (n := 1) (nx := 34) (r1 := 0) (r2 := 0) (r3 := 0) rfl ?_
        refine wr_add (nx := 35) (r1 := 0) (r2 := 0) (r3 := 0) rfl (fun e29 (fe29 : e29 = (h 238 101) + 1) => ?_)
        refine wr_is (k0 := 238) (a := 101) (f := 101) (x := e29) (bl := 0) (bh := 6) (nx := 36) (r1 := 0) (r2 := 0) (r3 := 0) rfl (by decide) rfl (by omega) (by omega) (by decide) g27 rfl (by omega) (fun h30 g30 w30 u30 => ?_)
        have F31 := F28.then rfl u30
        refine wi_return (nx := 37) (r1 := 0) (r2 := 0) (r3 := 0) rfl rfl ?_
        refine wk_n ?_
        refine wi_aload_n (i := 0) (x := 236) (nx := 15) (r1 := 0) (r2 := 0) (r3 := 0) rfl rfl ?_
        refine wr_gr (k0 := 236) (x := 238) (nx := 18) (r1 := 11) (r2 := 13) (r3 := 0) rfl rfl (by decide) rfl ⟨rfl, rfl⟩ rfl ?_
        refine wi_bipush (n := 73) (nx := 20) (r1 := 0) (r2 := 0) (r3 := 0) rfl (by decide) ?_
        refine wi_dup2 (nx := 21) (r1 := 0) (r2 := 0) (r3 := 0) rfl rfl rfl ?_
        refine wr_ia (k0 := 238) (a := 73) (f := 73) (x := h 238 73) (nx := 22) (r1 := 0) (r2 := 0) (r3 := 0) rfl (by decide) rfl (by omega) (by omega) (by decide) ((u30 238 73 rfl).trans (u27 238 73 (fn_i (by omega) fn_0))) ?_
        refine wi_iconst (n := 1) (nx := 23) (r1 := 0) (r2 := 0) (r3 := 0) rfl ?_
        refine wr_add (nx := 24) (r1 := 0) (r2 := 0) (r3 := 0) rfl (fun e32 (fe32 : e32 = (h 238 73) + 1) => ?_)
        refine wr_is (k0 := 238) (a := 73) (f := 73) (x := e32) (bl := 0) (bh := 12) (nx := 25) (r1 := 0) (r2 := 0) (r3 := 0) rfl (by decide) rfl (by omega) (by omega) (by decide) g30 rfl (by omega) (fun h33 g33 w33 u33 => ?_)
        have F34 := F31.then rfl u33
        refine wi_iload_n (i := 2) (e := h 238 73) (nx := 26) (r1 := 0) (r2 := 0) (r3 := 0) rfl rfl ?_
        refine wi_ireturn (nx := 27) (r1 := 0) (r2 := 0) (r3 := 0) rfl rfl ?_
        refine wk_i ?_
        refine wr_pf0 (k0 := 236) (x := h 238 73) (bl := -2147483648) (bh := 2147483647) (nx := 52) (r1 := 11) (r2 := 28) (r3 := 0) rfl (by decide) rfl ⟨rfl, rfl⟩ rfl rfl g33 rfl (by omega) (fun h35 g35 w35 u35 => ?_)
        have F36 := F34.then rfl u35
        refine wi_iload_n (i := 1) (e := z14) (nx := 53) (r1 := 0) (r2 := 0) (r3 := 0) rfl rfl ?_
        refine wi_iconst (n := 2) (nx := 54) (r1 := 0) (r2 := 0) (r3 := 0) rfl ?_
        refine wi_icmp (cd := .ne) (nx := 57) (r1 := 69) (r2 := 0) (r3 := 0) rfl (by omega) (by omega) (fun (q37 : z14 ≠ 2) => ?_) (fun (q37 : ¬ (z14 ≠ 2)) => by exfalso; omega)
        refine wi_iload_n (i := 1) (e := z14) (nx := 70) (r1 := 0) (r2 := 0) (r3 := 0) rfl rfl ?_
        refine wi_iconst (n := 3) (nx := 71) (r1 := 0) (r2 := 0) (r3 := 0) rfl ?_
        refine wi_icmp (cd := .ne) (nx := 74) (r1 := 85) (r2 := 0) (r3 := 0) rfl (by omega) (by omega) (fun (q38 : z14 ≠ 3) => ?_) (fun (q38 : ¬ (z14 ≠ 3)) => by exfalso; omega)
        refine wi_iload_n (i := 1) (e := z14) (nx := 86) (r1 := 0) (r2 := 0) (r3 := 0) rfl rfl ?_
        refine wi_ireturn (nx := 87) (r1 := 0) (r2 := 0) (r3 := 0) rfl rfl ?_
        have e39 : h35 238 98 = h 238 98 := ((u35 238 98 rfl).trans ((u33 238 98 rfl).trans ((u30 238 98 rfl).trans (u27 238 98 (fn_i (by omega) fn_0)))))
        have e40 : h35 238 99 = h 238 99 := ((u35 238 99 rfl).trans ((u33 238 99 rfl).trans ((u30 238 99 rfl).trans (u27 238 99 (fn_i (by omega) fn_0)))))
        have e41 : h35 238 100 = h 238 100 := ((u35 238 100 rfl).trans ((u33 238 100 rfl).trans ((u30 238 100 rfl).trans (u27 238 100 (fn_i (by omega) fn_0)))))
        have e42 : h35 238 101 = e29 := ((u35 238 101 rfl).trans ((u33 238 101 rfl).trans w30))
        have e43 : h35 238 102 = h 238 102 := ((u35 238 102 rfl).trans ((u33 238 102 rfl).trans ((u30 238 102 rfl).trans (u27 238 102 (fn_i (by omega) fn_0)))))
        have e44 : h35 238 106 = h 238 106 := ((u35 238 106 rfl).trans ((u33 238 106 rfl).trans ((u30 238 106 rfl).trans (u27 238 106 (fn_i (by omega) fn_0)))))
        have e45 : h35 238 73 = e32 := ((u35 238 73 rfl).trans w33)
        have e46 : h35 238 2 = h 238 2 := ((u35 238 2 rfl).trans ((u33 238 2 rfl).trans ((u30 238 2 rfl).trans (u27 238 2 (fn_i (by omega) fn_0)))))
        have e47 : h35 238 119 = h 238 119 := ((u35 238 119 rfl).trans ((u33 238 119 rfl).trans ((u30 238 119 rfl).trans (u27 238 119 (fn_i (by omega) fn_0)))))
        have e48 : h35 238 67 = h 238 67 := ((u35 238 67 rfl).trans ((u33 238 67 rfl).trans ((u30 238 67 rfl).trans (u27 238 67 (fn_i (by omega) fn_0)))))
        have e49 : h35 238 69 = h 238 69 := ((u35 238 69 rfl).trans ((u33 238 69 rfl).trans ((u30 238 69 rfl).trans (u27 238 69 (fn_i (by omega) fn_0)))))
        have e50 : h35 238 5 = h 238 5 := ((u35 238 5 rfl).trans ((u33 238 5 rfl).trans ((u30 238 5 rfl).trans (u27 238 5 (fn_i (by omega) fn_0)))))
        exact k h35 z14 g35 F36 (by omega) (show (h35 238 98) + (h35 238 99) + (h35 238 100) + (h35 238 101) + (h35 238 102) + (h35 238 106) = (h35 238 73) by omega) (show (h35 238 73) ≤ (h35 238 2) by omega) (show (h35 238 119) ≤ (h35 238 67) by omega) (show (h35 238 69) ≤ (h35 238 5) by omega) (show (h35 238 2) ≤ 12 * (h35 238 5) by omega)
  ·
    refine wi_aload_n (i := 0) (x := 236) (nx := 10) (r1 := 0) (r2 := 0) (r3 := 0) rfl rfl ?_
    refine wi_aload_n (i := 0) (x := 236) (nx := 11) (r1 := 0) (r2 := 0) (r3 := 0) rfl rfl ?_
    refine wi_aload_n (i := 0) (x := 236) (nx := 12) (r1 := 0) (r2 := 0) (r3 := 0) rfl rfl ?_
    refine wi_aload_n (i := 0) (x := 236) (nx := 13) (r1 := 0) (r2 := 0) (r3 := 0) rfl rfl ?_
    refine wr_gr (k0 := 236) (x := 238) (nx := 16) (r1 := 11) (r2 := 13) (r3 := 0) rfl rfl (by decide) rfl ⟨rfl, rfl⟩ rfl ?_
    refine wi_bipush (n := 103) (nx := 18) (r1 := 0) (r2 := 0) (r3 := 0) rfl (by decide) ?_
    have b16 := gi_b (lo := 0) (hi := 11) g 238 103 rfl
    refine wr_ia (k0 := 238) (a := 103) (f := 103) (x := h 238 103) (nx := 19) (r1 := 0) (r2 := 0) (r3 := 0) rfl (by decide) rfl (by omega) (by omega) (by decide) rfl ?_
    refine wr_V (k0 := 236) (rest := [.ref 236, .ref 236]) (as := [.ref 236, vi (h 238 103)]) (nx := 22) (r1 := 290) (r2 := 1) (r3 := 11) rfl rfl rfl (of_decide_eq_true rfl) rfl rfl (by decide) rfl rfl (of_decide_eq_true rfl) (of_decide_eq_true rfl) ?_
    refine ct_290_236 hcr  g (h 238 103) (by omega)  (fun z18  (fz18 : -1 ≤ z18 ∧ z18 ≤ 3) y17_0 => ?_)
    refine wk_i ?_
    have rg19 := laP.rng y17_0 (y13_0.1 (by omega)).2
    have f20 : 1 ≤ h 238 102 := (y13_0.1 (by omega)).1
    rcases (show z18 = 0 ∨ z18 = 1 ∨ z18 = 2 ∨ z18 = 3 by omega) with q21 | q21 | q21 | q21
    ·
      rw [q21]
      have rg22 : h 238 98 < h 238 15 := (laP.at y17_0 0 (by omega)).2
      have b23 := gi_b (lo := 0) (hi := 6) g 238 15 rfl
      refine wr_V (k0 := 236) (rest := [.ref 236]) (as := [.ref 236, vi 0]) (nx := 25) (r1 := 286) (r2 := 1) (r3 := 11) rfl rfl rfl (of_decide_eq_true rfl) rfl rfl (by decide) rfl rfl (of_decide_eq_true rfl) (of_decide_eq_true rfl) ?_
      refine ct_286_236_L0 hcr  g   (show (h 238 98) + (h 238 99) + (h 238 100) + (h 238 101) + (h 238 102) + (h 238 106) = (h 238 73) by omega) (show (h 238 73) ≤ (h 238 2) by omega) (show (h 238 119) ≤ (h 238 67) by omega) (show (h 238 69) ≤ (h 238 5) by omega) (show (h 238 2) ≤ 12 * (h 238 5) by omega) (show 1 ≤ (h 238 102) by omega) (show (h 238 98) ≤ 5 by omega) (fun h24 z25 g24 u24 (fz25 : 0 ≤ z25 ∧ z25 ≤ 11) (p24_0 : (h24 238 98) + (h24 238 99) + (h24 238 100) + (h24 238 101) + (h24 238 102) + (h24 238 106) = (h24 238 73)) (p24_1 : (h24 238 73) ≤ (h24 238 2)) (p24_2 : (h24 238 119) ≤ (h24 238 67)) (p24_3 : (h24 238 69) ≤ (h24 238 5)) (p24_4 : (h24 238 2) ≤ 12 * (h24 238 5)) => ?_)
      have F26 := F0.then (by decide +kernel) u24
      have b27 := gi_b (lo := 0) (hi := 6) g24 238 98 rfl
      have e28 : h24 238 99 = h 238 99 := (u24 238 99 rfl)
      have e29 : h24 238 100 = h 238 100 := (u24 238 100 rfl)
      have e30 : h24 238 101 = h 238 101 := (u24 238 101 rfl)
      have b31 := gi_b (lo := 0) (hi := 3) g24 238 102 rfl
      have e32 : h24 238 106 = h 238 106 := (u24 238 106 rfl)
      have e33 : h24 238 73 = h 238 73 := (u24 238 73 rfl)
      have e34 : h24 238 2 = h 238 2 := (u24 238 2 rfl)
      have e35 : h24 238 119 = h 238 119 := (u24 238 119 rfl)
      have e36 : h24 238 67 = h 238 67 := (u24 238 67 rfl)
      have e37 : h24 238 69 = h 238 69 := (u24 238 69 rfl)
      have e38 : h24 238 5 = h 238 5 := (u24 238 5 rfl)
      refine wk_i ?_
      refine wr_pf0 (k0 := 236) (x := z25) (bl := -2147483648) (bh := 2147483647) (nx := 28) (r1 := 11) (r2 := 28) (r3 := 0) rfl (by decide) rfl ⟨rfl, rfl⟩ rfl rfl g24 rfl (by omega) (fun h39 g39 w39 u39 => ?_)
      have F40 := F26.then rfl u39
      refine wi_iload_n (i := 1) (e := z14) (nx := 29) (r1 := 0) (r2 := 0) (r3 := 0) rfl rfl ?_
      refine wi_iconst (n := 1) (nx := 30) (r1 := 0) (r2 := 0) (r3 := 0) rfl ?_
      refine wi_icmp (cd := .ne) (nx := 33) (r1 := 52) (r2 := 0) (r3 := 0) rfl (by omega) (by omega) (fun (q41 : z14 ≠ 1) => ?_) (fun (q41 : ¬ (z14 ≠ 1)) => by exfalso; omega)
      refine wi_iload_n (i := 1) (e := z14) (nx := 53) (r1 := 0) (r2 := 0) (r3 := 0) rfl rfl ?_
      refine wi_iconst (n := 2) (nx := 54) (r1 := 0) (r2 := 0) (r3 := 0) rfl ?_
      refine wi_icmp (cd := .ne) (nx := 57) (r1 := 69) (r2 := 0) (r3 := 0) rfl (by omega) (by omega) (fun (q42 : z14 ≠ 2) => ?_) (fun (q42 : ¬ (z14 ≠ 2)) => by exfalso; omega)
      refine wi_iload_n (i := 1) (e := z14) (nx := 70) (r1 := 0) (r2 := 0) (r3 := 0) rfl rfl ?_
      refine wi_iconst (n := 3) (nx := 71) (r1 := 0) (r2 := 0) (r3 := 0) rfl ?_
      refine wi_icmp (cd := .ne) (nx := 74) (r1 := 85) (r2 := 0) (r3 := 0) rfl (by omega) (by omega) (fun (q43 : z14 ≠ 3) => ?_) (fun (q43 : ¬ (z14 ≠ 3)) => by exfalso; omega)
      refine wi_iload_n (i := 1) (e := z14) (nx := 86) (r1 := 0) (r2 := 0) (r3 := 0) rfl rfl ?_
      refine wi_ireturn (nx := 87) (r1 := 0) (r2 := 0) (r3 := 0) rfl rfl ?_
      have e44 : h39 238 98 = h24 238 98 := (u39 238 98 rfl)
      have e45 : h39 238 99 = h 238 99 := ((u39 238 99 rfl).trans (u24 238 99 rfl))
      have e46 : h39 238 100 = h 238 100 := ((u39 238 100 rfl).trans (u24 238 100 rfl))
      have e47 : h39 238 101 = h 238 101 := ((u39 238 101 rfl).trans (u24 238 101 rfl))
      have e48 : h39 238 102 = h24 238 102 := (u39 238 102 rfl)
      have e49 : h39 238 106 = h 238 106 := ((u39 238 106 rfl).trans (u24 238 106 rfl))
      have e50 : h39 238 73 = h 238 73 := ((u39 238 73 rfl).trans (u24 238 73 rfl))
      have e51 : h39 238 2 = h 238 2 := ((u39 238 2 rfl).trans (u24 238 2 rfl))
      have e52 : h39 238 119 = h 238 119 := ((u39 238 119 rfl).trans (u24 238 119 rfl))
      have e53 : h39 238 67 = h 238 67 := ((u39 238 67 rfl).trans (u24 238 67 rfl))
      have e54 : h39 238 69 = h 238 69 := ((u39 238 69 rfl).trans (u24 238 69 rfl))
      have e55 : h39 238 5 = h 238 5 := ((u39 238 5 rfl).trans (u24 238 5 rfl))
      exact k h39 z14 g39 F40 (by omega) (show (h39 238 98) + (h39 238 99) + (h39 238 100) + (h39 238 101) + (h39 238 102) + (h39 238 106) = (h39 238 73) by omega) (show (h39 238 73) ≤ (h39 238 2) by omega) (show (h39 238 119) ≤ (h39 238 67) by omega) (show (h39 238 69) ≤ (h39 238 5) by omega) (show (h39 238 2) ≤ 12 * (h39 238 5) by omega)
    ·
      rw [q21]
      have rg22 : h 238 99 < h 238 16 := (laP.at y17_0 1 (by omega)).2
      have b23 := gi_b (lo := 0) (hi := 6) g 238 16 rfl
      refine wr_V (k0 := 236) (rest := [.ref 236]) (as := [.ref 236, vi 1]) (nx := 25) (r1 := 286) (r2 := 1) (r3 := 11) rfl rfl rfl (of_decide_eq_true rfl) rfl rfl (by decide) rfl rfl (of_decide_eq_true rfl) (of_decide_eq_true rfl) ?_
      refine ct_286_236_L1 hcr  g   (show (h 238 98) + (h 238 99) + (h 238 100) + (h 238 101) + (h 238 102) + (h 238 106) = (h 238 73) by omega) (show (h 238 73) ≤ (h 238 2) by omega) (show (h 238 119) ≤ (h 238 67) by omega) (show (h 238 69) ≤ (h 238 5) by omega) (show (h 238 2) ≤ 12 * (h 238 5) by omega) (show 1 ≤ (h 238 102) by omega) (show (h 238 99) ≤ 5 by omega) (fun h24 z25 g24 u24 (fz25 : 0 ≤ z25 ∧ z25 ≤ 11) (p24_0 : (h24 238 98) + (h24 238 99) + (h24 238 100) + (h24 238 101) + (h24 238 102) + (h24 238 106) = (h24 238 73)) (p24_1 : (h24 238 73) ≤ (h24 238 2)) (p24_2 : (h24 238 119) ≤ (h24 238 67)) (p24_3 : (h24 238 69) ≤ (h24 238 5)) (p24_4 : (h24 238 2) ≤ 12 * (h24 238 5)) => ?_)
      have F26 := F0.then (by decide +kernel) u24
      have e27 : h24 238 98 = h 238 98 := (u24 238 98 rfl)
      have b28 := gi_b (lo := 0) (hi := 6) g24 238 99 rfl
      have e29 : h24 238 100 = h 238 100 := (u24 238 100 rfl)
      have e30 : h24 238 101 = h 238 101 := (u24 238 101 rfl)
      have b31 := gi_b (lo := 0) (hi := 3) g24 238 102 rfl
      have e32 : h24 238 106 = h 238 106 := (u24 238 106 rfl)
      have e33 : h24 238 73 = h 238 73 := (u24 238 73 rfl)
      have e34 : h24 238 2 = h 238 2 := (u24 238 2 rfl)
      have e35 : h24 238 119 = h 238 119 := (u24 238 119 rfl)
      have e36 : h24 238 67 = h 238 67 := (u24 238 67 rfl)
      have e37 : h24 238 69 = h 238 69 := (u24 238 69 rfl)
      have e38 : h24 238 5 = h 238 5 := (u24 238 5 rfl)
      refine wk_i ?_
      refine wr_pf0 (k0 := 236) (x := z25) (bl := -2147483648) (bh := 2147483647) (nx := 28) (r1 := 11) (r2 := 28) (r3 := 0) rfl (by decide) rfl ⟨rfl, rfl⟩ rfl rfl g24 rfl (by omega) (fun h39 g39 w39 u39 => ?_)
      have F40 := F26.then rfl u39
      refine wi_iload_n (i := 1) (e := z14) (nx := 29) (r1 := 0) (r2 := 0) (r3 := 0) rfl rfl ?_
      refine wi_iconst (n := 1) (nx := 30) (r1 := 0) (r2 := 0) (r3 := 0) rfl ?_
      refine wi_icmp (cd := .ne) (nx := 33) (r1 := 52) (r2 := 0) (r3 := 0) rfl (by omega) (by omega) (fun (q41 : z14 ≠ 1) => ?_) (fun (q41 : ¬ (z14 ≠ 1)) => by exfalso; omega)
      refine wi_iload_n (i := 1) (e := z14) (nx := 53) (r1 := 0) (r2 := 0) (r3 := 0) rfl rfl ?_
      refine wi_iconst (n := 2) (nx := 54) (r1 := 0) (r2 := 0) (r3 := 0) rfl ?_
      refine wi_icmp (cd := .ne) (nx := 57) (r1 := 69) (r2 := 0) (r3 := 0) rfl (by omega) (by omega) (fun (q42 : z14 ≠ 2) => ?_) (fun (q42 : ¬ (z14 ≠ 2)) => by exfalso; omega)
      refine wi_iload_n (i := 1) (e := z14) (nx := 70) (r1 := 0) (r2 := 0) (r3 := 0) rfl rfl ?_
      refine wi_iconst (n := 3) (nx := 71) (r1 := 0) (r2 := 0) (r3 := 0) rfl ?_
      refine wi_icmp (cd := .ne) (nx := 74) (r1 := 85) (r2 := 0) (r3 := 0) rfl (by omega) (by omega) (fun (q43 : z14 ≠ 3) => ?_) (fun (q43 : ¬ (z14 ≠ 3)) => by exfalso; omega)
      refine wi_iload_n (i := 1) (e := z14) (nx := 86) (r1 := 0) (r2 := 0) (r3 := 0) rfl rfl ?_
      refine wi_ireturn (nx := 87) (r1 := 0) (r2 := 0) (r3 := 0) rfl rfl ?_
      have e44 : h39 238 98 = h 238 98 := ((u39 238 98 rfl).trans (u24 238 98 rfl))
      have e45 : h39 238 99 = h24 238 99 := (u39 238 99 rfl)
      have e46 : h39 238 100 = h 238 100 := ((u39 238 100 rfl).trans (u24 238 100 rfl))
      have e47 : h39 238 101 = h 238 101 := ((u39 238 101 rfl).trans (u24 238 101 rfl))
      have e48 : h39 238 102 = h24 238 102 := (u39 238 102 rfl)
      have e49 : h39 238 106 = h 238 106 := ((u39 238 106 rfl).trans (u24 238 106 rfl))
      have e50 : h39 238 73 = h 238 73 := ((u39 238 73 rfl).trans (u24 238 73 rfl))
      have e51 : h39 238 2 = h 238 2 := ((u39 238 2 rfl).trans (u24 238 2 rfl))
      have e52 : h39 238 119 = h 238 119 := ((u39 238 119 rfl).trans (u24 238 119 rfl))
      have e53 : h39 238 67 = h 238 67 := ((u39 238 67 rfl).trans (u24 238 67 rfl))
      have e54 : h39 238 69 = h 238 69 := ((u39 238 69 rfl).trans (u24 238 69 rfl))
      have e55 : h39 238 5 = h 238 5 := ((u39 238 5 rfl).trans (u24 238 5 rfl))
      exact k h39 z14 g39 F40 (by omega) (show (h39 238 98) + (h39 238 99) + (h39 238 100) + (h39 238 101) + (h39 238 102) + (h39 238 106) = (h39 238 73) by omega) (show (h39 238 73) ≤ (h39 238 2) by omega) (show (h39 238 119) ≤ (h39 238 67) by omega) (show (h39 238 69) ≤ (h39 238 5) by omega) (show (h39 238 2) ≤ 12 * (h39 238 5) by omega)
    ·
      rw [q21]
      have rg22 : h 238 100 < h 238 17 := (laP.at y17_0 2 (by omega)).2
      have b23 := gi_b (lo := 0) (hi := 6) g 238 17 rfl
      refine wr_V (k0 := 236) (rest := [.ref 236]) (as := [.ref 236, vi 2]) (nx := 25) (r1 := 286) (r2 := 1) (r3 := 11) rfl rfl rfl (of_decide_eq_true rfl) rfl rfl (by decide) rfl rfl (of_decide_eq_true rfl) (of_decide_eq_true rfl) ?_
      refine ct_286_236_L2 hcr  g   (show (h 238 98) + (h 238 99) + (h 238 100) + (h 238 101) + (h 238 102) + (h 238 106) = (h 238 73) by omega) (show (h 238 73) ≤ (h 238 2) by omega) (show (h 238 119) ≤ (h 238 67) by omega) (show (h 238 69) ≤ (h 238 5) by omega) (show (h 238 2) ≤ 12 * (h 238 5) by omega) (show 1 ≤ (h 238 102) by omega) (show (h 238 100) ≤ 5 by omega) (fun h24 z25 g24 u24 (fz25 : 0 ≤ z25 ∧ z25 ≤ 11) (p24_0 : (h24 238 98) + (h24 238 99) + (h24 238 100) + (h24 238 101) + (h24 238 102) + (h24 238 106) = (h24 238 73)) (p24_1 : (h24 238 73) ≤ (h24 238 2)) (p24_2 : (h24 238 119) ≤ (h24 238 67)) (p24_3 : (h24 238 69) ≤ (h24 238 5)) (p24_4 : (h24 238 2) ≤ 12 * (h24 238 5)) => ?_)
      have F26 := F0.then (by decide +kernel) u24
      have e27 : h24 238 98 = h 238 98 := (u24 238 98 rfl)
      have e28 : h24 238 99 = h 238 99 := (u24 238 99 rfl)
      have b29 := gi_b (lo := 0) (hi := 6) g24 238 100 rfl
      have e30 : h24 238 101 = h 238 101 := (u24 238 101 rfl)
      have b31 := gi_b (lo := 0) (hi := 3) g24 238 102 rfl
      have e32 : h24 238 106 = h 238 106 := (u24 238 106 rfl)
      have e33 : h24 238 73 = h 238 73 := (u24 238 73 rfl)
      have e34 : h24 238 2 = h 238 2 := (u24 238 2 rfl)
      have e35 : h24 238 119 = h 238 119 := (u24 238 119 rfl)
      have e36 : h24 238 67 = h 238 67 := (u24 238 67 rfl)
      have e37 : h24 238 69 = h 238 69 := (u24 238 69 rfl)
      have e38 : h24 238 5 = h 238 5 := (u24 238 5 rfl)
      refine wk_i ?_
      refine wr_pf0 (k0 := 236) (x := z25) (bl := -2147483648) (bh := 2147483647) (nx := 28) (r1 := 11) (r2 := 28) (r3 := 0) rfl (by decide) rfl ⟨rfl, rfl⟩ rfl rfl g24 rfl (by omega) (fun h39 g39 w39 u39 => ?_)
      have F40 := F26.then rfl u39
      refine wi_iload_n (i := 1) (e := z14) (nx := 29) (r1 := 0) (r2 := 0) (r3 := 0) rfl rfl ?_
      refine wi_iconst (n := 1) (nx := 30) (r1 := 0) (r2 := 0) (r3 := 0) rfl ?_
      refine wi_icmp (cd := .ne) (nx := 33) (r1 := 52) (r2 := 0) (r3 := 0) rfl (by omega) (by omega) (fun (q41 : z14 ≠ 1) => ?_) (fun (q41 : ¬ (z14 ≠ 1)) => by exfalso; omega)
      refine wi_iload_n (i := 1) (e := z14) (nx := 53) (r1 := 0) (r2 := 0) (r3 := 0) rfl rfl ?_
      refine wi_iconst (n := 2) (nx := 54) (r1 := 0) (r2 := 0) (r3 := 0) rfl ?_
      refine wi_icmp (cd := .ne) (nx := 57) (r1 := 69) (r2 := 0) (r3 := 0) rfl (by omega) (by omega) (fun (q42 : z14 ≠ 2) => ?_) (fun (q42 : ¬ (z14 ≠ 2)) => by exfalso; omega)
      refine wi_iload_n (i := 1) (e := z14) (nx := 70) (r1 := 0) (r2 := 0) (r3 := 0) rfl rfl ?_
      refine wi_iconst (n := 3) (nx := 71) (r1 := 0) (r2 := 0) (r3 := 0) rfl ?_
      refine wi_icmp (cd := .ne) (nx := 74) (r1 := 85) (r2 := 0) (r3 := 0) rfl (by omega) (by omega) (fun (q43 : z14 ≠ 3) => ?_) (fun (q43 : ¬ (z14 ≠ 3)) => by exfalso; omega)
      refine wi_iload_n (i := 1) (e := z14) (nx := 86) (r1 := 0) (r2 := 0) (r3 := 0) rfl rfl ?_
      refine wi_ireturn (nx := 87) (r1 := 0) (r2 := 0) (r3 := 0) rfl rfl ?_
      have e44 : h39 238 98 = h 238 98 := ((u39 238 98 rfl).trans (u24 238 98 rfl))
      have e45 : h39 238 99 = h 238 99 := ((u39 238 99 rfl).trans (u24 238 99 rfl))
      have e46 : h39 238 100 = h24 238 100 := (u39 238 100 rfl)
      have e47 : h39 238 101 = h 238 101 := ((u39 238 101 rfl).trans (u24 238 101 rfl))
      have e48 : h39 238 102 = h24 238 102 := (u39 238 102 rfl)
      have e49 : h39 238 106 = h 238 106 := ((u39 238 106 rfl).trans (u24 238 106 rfl))
      have e50 : h39 238 73 = h 238 73 := ((u39 238 73 rfl).trans (u24 238 73 rfl))
      have e51 : h39 238 2 = h 238 2 := ((u39 238 2 rfl).trans (u24 238 2 rfl))
      have e52 : h39 238 119 = h 238 119 := ((u39 238 119 rfl).trans (u24 238 119 rfl))
      have e53 : h39 238 67 = h 238 67 := ((u39 238 67 rfl).trans (u24 238 67 rfl))
      have e54 : h39 238 69 = h 238 69 := ((u39 238 69 rfl).trans (u24 238 69 rfl))
      have e55 : h39 238 5 = h 238 5 := ((u39 238 5 rfl).trans (u24 238 5 rfl))
      exact k h39 z14 g39 F40 (by omega) (show (h39 238 98) + (h39 238 99) + (h39 238 100) + (h39 238 101) + (h39 238 102) + (h39 238 106) = (h39 238 73) by omega) (show (h39 238 73) ≤ (h39 238 2) by omega) (show (h39 238 119) ≤ (h39 238 67) by omega) (show (h39 238 69) ≤ (h39 238 5) by omega) (show (h39 238 2) ≤ 12 * (h39 238 5) by omega)
    ·
      rw [q21]
      have rg22 : h 238 101 < h 238 18 := (laP.at y17_0 3 (by omega)).2
      have b23 := gi_b (lo := 0) (hi := 6) g 238 18 rfl
      refine wr_V (k0 := 236) (rest := [.ref 236]) (as := [.ref 236, vi 3]) (nx := 25) (r1 := 286) (r2 := 1) (r3 := 11) rfl rfl rfl (of_decide_eq_true rfl) rfl rfl (by decide) rfl rfl (of_decide_eq_true rfl) (of_decide_eq_true rfl) ?_
      refine ct_286_236_L3 hcr  g   (show (h 238 98) + (h 238 99) + (h 238 100) + (h 238 101) + (h 238 102) + (h 238 106) = (h 238 73) by omega) (show (h 238 73) ≤ (h 238 2) by omega) (show (h 238 119) ≤ (h 238 67) by omega) (show (h 238 69) ≤ (h 238 5) by omega) (show (h 238 2) ≤ 12 * (h 238 5) by omega) (show 1 ≤ (h 238 102) by omega) (show (h 238 101) ≤ 5 by omega) (fun h24 z25 g24 u24 (fz25 : 0 ≤ z25 ∧ z25 ≤ 11) (p24_0 : (h24 238 98) + (h24 238 99) + (h24 238 100) + (h24 238 101) + (h24 238 102) + (h24 238 106) = (h24 238 73)) (p24_1 : (h24 238 73) ≤ (h24 238 2)) (p24_2 : (h24 238 119) ≤ (h24 238 67)) (p24_3 : (h24 238 69) ≤ (h24 238 5)) (p24_4 : (h24 238 2) ≤ 12 * (h24 238 5)) => ?_)
      have F26 := F0.then (by decide +kernel) u24
      have e27 : h24 238 98 = h 238 98 := (u24 238 98 rfl)
      have e28 : h24 238 99 = h 238 99 := (u24 238 99 rfl)
      have e29 : h24 238 100 = h 238 100 := (u24 238 100 rfl)
      have b30 := gi_b (lo := 0) (hi := 6) g24 238 101 rfl
      have b31 := gi_b (lo := 0) (hi := 3) g24 238 102 rfl
      have e32 : h24 238 106 = h 238 106 := (u24 238 106 rfl)
      have e33 : h24 238 73 = h 238 73 := (u24 238 73 rfl)
      have e34 : h24 238 2 = h 238 2 := (u24 238 2 rfl)
      have e35 : h24 238 119 = h 238 119 := (u24 238 119 rfl)
      have e36 : h24 238 67 = h 238 67 := (u24 238 67 rfl)
      have e37 : h24 238 69 = h 238 69 := (u24 238 69 rfl)
      have e38 : h24 238 5 = h 238 5 := (u24 238 5 rfl)
      refine wk_i ?_
      refine wr_pf0 (k0 := 236) (x := z25) (bl := -2147483648) (bh := 2147483647) (nx := 28) (r1 := 11) (r2 := 28) (r3 := 0) rfl (by decide) rfl ⟨rfl, rfl⟩ rfl rfl g24 rfl (by omega) (fun h39 g39 w39 u39 => ?_)
      have F40 := F26.then rfl u39
      refine wi_iload_n (i := 1) (e := z14) (nx := 29) (r1 := 0) (r2 := 0) (r3 := 0) rfl rfl ?_
      refine wi_iconst (n := 1) (nx := 30) (r1 := 0) (r2 := 0) (r3 := 0) rfl ?_
      refine wi_icmp (cd := .ne) (nx := 33) (r1 := 52) (r2 := 0) (r3 := 0) rfl (by omega) (by omega) (fun (q41 : z14 ≠ 1) => ?_) (fun (q41 : ¬ (z14 ≠ 1)) => by exfalso; omega)
      refine wi_iload_n (i := 1) (e := z14) (nx := 53) (r1 := 0) (r2 := 0) (r3 := 0) rfl rfl ?_
      refine wi_iconst (n := 2) (nx := 54) (r1 := 0) (r2 := 0) (r3 := 0) rfl ?_
      refine wi_icmp (cd := .ne) (nx := 57) (r1 := 69) (r2 := 0) (r3 := 0) rfl (by omega) (by omega) (fun (q42 : z14 ≠ 2) => ?_) (fun (q42 : ¬ (z14 ≠ 2)) => by exfalso; omega)
      refine wi_iload_n (i := 1) (e := z14) (nx := 70) (r1 := 0) (r2 := 0) (r3 := 0) rfl rfl ?_
      refine wi_iconst (n := 3) (nx := 71) (r1 := 0) (r2 := 0) (r3 := 0) rfl ?_
      refine wi_icmp (cd := .ne) (nx := 74) (r1 := 85) (r2 := 0) (r3 := 0) rfl (by omega) (by omega) (fun (q43 : z14 ≠ 3) => ?_) (fun (q43 : ¬ (z14 ≠ 3)) => by exfalso; omega)
      refine wi_iload_n (i := 1) (e := z14) (nx := 86) (r1 := 0) (r2 := 0) (r3 := 0) rfl rfl ?_
      refine wi_ireturn (nx := 87) (r1 := 0) (r2 := 0) (r3 := 0) rfl rfl ?_
      have e44 : h39 238 98 = h 238 98 := ((u39 238 98 rfl).trans (u24 238 98 rfl))
      have e45 : h39 238 99 = h 238 99 := ((u39 238 99 rfl).trans (u24 238 99 rfl))
      have e46 : h39 238 100 = h 238 100 := ((u39 238 100 rfl).trans (u24 238 100 rfl))
      have e47 : h39 238 101 = h24 238 101 := (u39 238 101 rfl)
      have e48 : h39 238 102 = h24 238 102 := (u39 238 102 rfl)
      have e49 : h39 238 106 = h 238 106 := ((u39 238 106 rfl).trans (u24 238 106 rfl))
      have e50 : h39 238 73 = h 238 73 := ((u39 238 73 rfl).trans (u24 238 73 rfl))
      have e51 : h39 238 2 = h 238 2 := ((u39 238 2 rfl).trans (u24 238 2 rfl))
      have e52 : h39 238 119 = h 238 119 := ((u39 238 119 rfl).trans (u24 238 119 rfl))
      have e53 : h39 238 67 = h 238 67 := ((u39 238 67 rfl).trans (u24 238 67 rfl))
      have e54 : h39 238 69 = h 238 69 := ((u39 238 69 rfl).trans (u24 238 69 rfl))
      have e55 : h39 238 5 = h 238 5 := ((u39 238 5 rfl).trans (u24 238 5 rfl))
      exact k h39 z14 g39 F40 (by omega) (show (h39 238 98) + (h39 238 99) + (h39 238 100) + (h39 238 101) + (h39 238 102) + (h39 238 106) = (h39 238 73) by omega) (show (h39 238 73) ≤ (h39 238 2) by omega) (show (h39 238 119) ≤ (h39 238 67) by omega) (show (h39 238 69) ≤ (h39 238 5) by omega) (show (h39 238 2) ≤ 12 * (h39 238 5) by omega)
-- method 238: Model.copies([I[I)V
set_option maxRecDepth 100000 in
set_option maxHeartbeats 100000000 in
theorem ct_238_240_238 {L : Nat} {xs : Nat → Int32} {d b c : Nat} {h : hp} {cr : Nat → Nat → Option Nat} {Q : hp_Q} (hcr : CR cr)  (g : GI h)    (k : ∀ (h2 : hp) , GI h2 → FR [(238, 238, none)] h h2 → (∀ q : Nat, q < 200 → h2 238 q = h 240 q) → Q (.inl none) (hp_w h2 cr) b c) : wp (md_xa (L, xs)) d 238 (0, [(0, .ref 240), (1, .ref 238)], [], hp_w h cr, b, c) Q := by
  have F0 : FR [(238, 238, none)] h h := FR.refl
  refine wi_iconst (n := 0) (nx := 1) (r1 := 0) (r2 := 0) (r3 := 0) rfl ?_
  refine wi_istore_n (i := 2) (e := 0) (lo2 := [(2, vi 0), (0, .ref 240), (1, .ref 238)]) (nx := 2) (r1 := 0) (r2 := 0) (r3 := 0) rfl rfl ?_
  refine wp.lo (lo := [(0, .ref 240), (1, .ref 238), (2, vi 0)]) ⟨rfl, rfl, rfl, trivial⟩ rfl ?_
  refine wl_1 (fun x1 h2 => GI h2 ∧ FR [(238, 238, none)] h h2 ∧ FR [(238, 238, none)] h h2 ∧ ((0 ≤ x1 ∧ x1 ≤ 200)) ∧ (∀ q : Nat, (q : Int) < x1 → h2 238 q = h 240 q) ∧ (∀ q : Nat, x1 ≤ (q : Int) → h2 238 q = h 238 q)) (fun x1 h2 => ((200 : Int) + 1 - x1).toNat) (fun x1 h2 => (2, [(0, .ref 240), (1, .ref 238), (2, vi x1)], [], hp_w h2 cr, b, c)) ?_ 0 h ⟨g, F0, FR.refl, (show (0 ≤ 0 ∧ 0 ≤ 200) by omega), (fun q e => absurd e (by omega)), (fun _ _ => rfl)⟩
  intro x1 h2 ⟨g2, F3, u2, f2, XA2, XB2⟩ I2
  refine wi_iload_n (i := 2) (e := x1) (nx := 3) (r1 := 0) (r2 := 0) (r3 := 0) rfl rfl ?_
  refine wi_sipush (n := 200) (nx := 6) (r1 := 0) (r2 := 0) (r3 := 0) rfl (by decide) ?_
  refine wi_icmp (cd := .ge) (nx := 9) (r1 := 21) (r2 := 0) (r3 := 0) rfl (by omega) (by omega) (fun (q4 : 200 ≤ x1) => ?_) (fun (q4 : ¬ (200 ≤ x1)) => ?_)
  ·
    refine wi_return (nx := 22) (r1 := 0) (r2 := 0) (r3 := 0) rfl rfl ?_
    exact k h2 g2 F3 (fun q e => XA2 q (by omega))
  ·
    refine wi_aload_n (i := 1) (x := 238) (nx := 10) (r1 := 0) (r2 := 0) (r3 := 0) rfl rfl ?_
    refine wi_iload_n (i := 2) (e := x1) (nx := 11) (r1 := 0) (r2 := 0) (r3 := 0) rfl rfl ?_
    refine wi_aload_n (i := 0) (x := 240) (nx := 12) (r1 := 0) (r2 := 0) (r3 := 0) rfl rfl ?_
    refine wi_iload_n (i := 2) (e := x1) (nx := 13) (r1 := 0) (r2 := 0) (r3 := 0) rfl rfl ?_
    obtain ⟨i5, ei5⟩ : ∃ q : Nat, x1 = (q : Int) := ⟨(x1).toNat, by omega⟩
    refine wr_ia (k0 := 240) (a := x1) (f := i5) (x := h 240 i5) (nx := 14) (r1 := 0) (r2 := 0) (r3 := 0) rfl (by decide) rfl (by omega) (by omega) (by decide) (u2 240 i5 (fn_a (by omega) fn_0)) ?_
    refine wr_iv (k0 := 238) (a := x1) (f := i5) (x := h 240 i5) (nx := 15) (r1 := 0) (r2 := 0) (r3 := 0) rfl (by decide) rfl (by omega) (by omega) (by decide) g2 (g 240 i5) (fun h6 g6 w6 u6 => ?_)
    have F7 := F3.then rfl (FR.rngp (lo := 238) (hi := 238) u6 (by decide))
    have F8 := u2.then rfl (FR.rngp (lo := 238) (hi := 238) u6 (by decide))
    refine wr_iinc (i := 2) (n := 1) (v := x1) (fun e9 => [(2, vi e9), (0, .ref 240), (1, .ref 238)]) (nx := 18) (r1 := 0) (r2 := 0) (r3 := 0) rfl rfl (fun _ => rfl) (fun e9 (fe9 : e9 = x1 + 1) => ?_)
    refine wi_goto (nx := 21) (r1 := 2) (r2 := 0) (r3 := 0) rfl ?_
    refine wp.lo (lo := [(0, .ref 240), (1, .ref 238), (2, vi e9)]) ⟨rfl, rfl, rfl, trivial⟩ rfl ?_
    exact I2 e9 h6 ⟨g6, F7, F8, (show (0 ≤ e9 ∧ e9 ≤ 200) by omega), (fun q e => by
        by_cases e1 : (q : Int) < x1
        · exact (u6 238 _ (fn_i (by omega) fn_0)).trans (XA2 q e1)
        · have e2 : q = i5 := by omega
          have e3 : q = i5 := by omega
          exact (congrArg (h6 238) e2).trans (w6.trans ((Eq.refl _).trans (congrArg (h 240) e3).symm))), (fun q e => (u6 238 q (fn_i (by omega) fn_0)).trans (XB2 q (by omega)))⟩ (show ((200 : Int) + 1 - e9).toNat < ((200 : Int) + 1 - x1).toNat by omega)
